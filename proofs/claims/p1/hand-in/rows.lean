section
-- ===== PART A: goes FIRST, ahead of the names: the tables' words, and 'selects' of the private methods out of them =====
/-- a private method of a class that the tables say can be made, by its rows of tables_1 -/
def lw_okq (q : MethodName × Nat) : Prop := (q.1.cls ≠ "java/lang/invoke/MethodHandle" ∧ q.1.cls ≠ "java/lang/invoke/VarHandle") ∧ Cond.instantiable q.1.cls q.2 ∈ tables_1 ∧ Cond.privateMethod q.1 ∈ tables_1 ∧ Cond.instanceMethod q.1 ∈ tables_1
theorem lw_p0 : lw_okq (⟨"TurnNet$Reader", "advance", "()V"⟩, 12) := ⟨⟨by decide +kernel, by decide +kernel⟩, List.mem_of_getElem? (i := 108) (by decide +kernel), List.mem_of_getElem? (i := 450) (by decide +kernel), List.mem_of_getElem? (i := 451) (by decide +kernel)⟩
theorem lw_p1 : lw_okq (⟨"TurnNet$Reader", "readSwitches", "()Z"⟩, 12) := ⟨⟨by decide +kernel, by decide +kernel⟩, List.mem_of_getElem? (i := 108) (by decide +kernel), List.mem_of_getElem? (i := 458) (by decide +kernel), List.mem_of_getElem? (i := 459) (by decide +kernel)⟩
theorem lw_p2 : lw_okq (⟨"TurnNet$Reader", "isWord", "(Ljava/lang/String;)Z"⟩, 12) := ⟨⟨by decide +kernel, by decide +kernel⟩, List.mem_of_getElem? (i := 108) (by decide +kernel), List.mem_of_getElem? (i := 463) (by decide +kernel), List.mem_of_getElem? (i := 464) (by decide +kernel)⟩
theorem lw_p3 : lw_okq (⟨"TurnNet$Reader", "fail", "(I)Z"⟩, 12) := ⟨⟨by decide +kernel, by decide +kernel⟩, List.mem_of_getElem? (i := 108) (by decide +kernel), List.mem_of_getElem? (i := 515) (by decide +kernel), List.mem_of_getElem? (i := 516) (by decide +kernel)⟩
theorem lw_p4 : lw_okq (⟨"TurnNet$Reader", "readNumber", "(II)Z"⟩, 12) := ⟨⟨by decide +kernel, by decide +kernel⟩, List.mem_of_getElem? (i := 108) (by decide +kernel), List.mem_of_getElem? (i := 519) (by decide +kernel), List.mem_of_getElem? (i := 520) (by decide +kernel)⟩
theorem lw_p5 : lw_okq (⟨"TurnNet$Reader", "closeLine", "()Z"⟩, 12) := ⟨⟨by decide +kernel, by decide +kernel⟩, List.mem_of_getElem? (i := 108) (by decide +kernel), List.mem_of_getElem? (i := 523) (by decide +kernel), List.mem_of_getElem? (i := 524) (by decide +kernel)⟩
theorem lw_p6 : lw_okq (⟨"TurnNet$Reader", "readSign", "(I)Z"⟩, 12) := ⟨⟨by decide +kernel, by decide +kernel⟩, List.mem_of_getElem? (i := 108) (by decide +kernel), List.mem_of_getElem? (i := 527) (by decide +kernel), List.mem_of_getElem? (i := 528) (by decide +kernel)⟩
theorem lw_p7 : lw_okq (⟨"TurnNet$Reader", "readLine", "()Z"⟩, 12) := ⟨⟨by decide +kernel, by decide +kernel⟩, List.mem_of_getElem? (i := 108) (by decide +kernel), List.mem_of_getElem? (i := 531) (by decide +kernel), List.mem_of_getElem? (i := 532) (by decide +kernel)⟩
theorem lw_p8 : lw_okq (⟨"TurnNet$Reader", "readLink", "()Z"⟩, 12) := ⟨⟨by decide +kernel, by decide +kernel⟩, List.mem_of_getElem? (i := 108) (by decide +kernel), List.mem_of_getElem? (i := 536) (by decide +kernel), List.mem_of_getElem? (i := 537) (by decide +kernel)⟩
theorem lw_p9 : lw_okq (⟨"TurnNet$Reader", "readSum", "(I)Z"⟩, 12) := ⟨⟨by decide +kernel, by decide +kernel⟩, List.mem_of_getElem? (i := 108) (by decide +kernel), List.mem_of_getElem? (i := 555) (by decide +kernel), List.mem_of_getElem? (i := 556) (by decide +kernel)⟩
theorem lw_p10 : lw_okq (⟨"TurnNet$Reader", "readProduct", "(I)Z"⟩, 12) := ⟨⟨by decide +kernel, by decide +kernel⟩, List.mem_of_getElem? (i := 108) (by decide +kernel), List.mem_of_getElem? (i := 559) (by decide +kernel), List.mem_of_getElem? (i := 560) (by decide +kernel)⟩
theorem lw_p11 : lw_okq (⟨"TurnNet$Reader", "readUnit", "(I)Z"⟩, 12) := ⟨⟨by decide +kernel, by decide +kernel⟩, List.mem_of_getElem? (i := 108) (by decide +kernel), List.mem_of_getElem? (i := 563) (by decide +kernel), List.mem_of_getElem? (i := 564) (by decide +kernel)⟩
theorem lw_p12 : lw_okq (⟨"TurnNet$Reader", "unitKind", "()I"⟩, 12) := ⟨⟨by decide +kernel, by decide +kernel⟩, List.mem_of_getElem? (i := 108) (by decide +kernel), List.mem_of_getElem? (i := 567) (by decide +kernel), List.mem_of_getElem? (i := 568) (by decide +kernel)⟩
theorem lw_p13 : lw_okq (⟨"TurnNet$Net", "listChannels", "()V"⟩, 12) := ⟨⟨by decide +kernel, by decide +kernel⟩, List.mem_of_getElem? (i := 29) (by decide +kernel), List.mem_of_getElem? (i := 585) (by decide +kernel), List.mem_of_getElem? (i := 586) (by decide +kernel)⟩
theorem lw_p14 : lw_okq (⟨"TurnNet$Order", "countLinks", "(I)V"⟩, 5) := ⟨⟨by decide +kernel, by decide +kernel⟩, List.mem_of_getElem? (i := 158) (by decide +kernel), List.mem_of_getElem? (i := 605) (by decide +kernel), List.mem_of_getElem? (i := 606) (by decide +kernel)⟩
theorem lw_p15 : lw_okq (⟨"TurnNet$Order", "evaluate", "(I)I"⟩, 5) := ⟨⟨by decide +kernel, by decide +kernel⟩, List.mem_of_getElem? (i := 158) (by decide +kernel), List.mem_of_getElem? (i := 618) (by decide +kernel), List.mem_of_getElem? (i := 619) (by decide +kernel)⟩
def lw_privs_1 : List (MethodName × Nat) := [(⟨"TurnNet$Reader", "advance", "()V"⟩, 12), (⟨"TurnNet$Reader", "readSwitches", "()Z"⟩, 12), (⟨"TurnNet$Reader", "isWord", "(Ljava/lang/String;)Z"⟩, 12), (⟨"TurnNet$Reader", "fail", "(I)Z"⟩, 12), (⟨"TurnNet$Reader", "readNumber", "(II)Z"⟩, 12), (⟨"TurnNet$Reader", "closeLine", "()Z"⟩, 12), (⟨"TurnNet$Reader", "readSign", "(I)Z"⟩, 12), (⟨"TurnNet$Reader", "readLine", "()Z"⟩, 12), (⟨"TurnNet$Reader", "readLink", "()Z"⟩, 12), (⟨"TurnNet$Reader", "readSum", "(I)Z"⟩, 12), (⟨"TurnNet$Reader", "readProduct", "(I)Z"⟩, 12), (⟨"TurnNet$Reader", "readUnit", "(I)Z"⟩, 12), (⟨"TurnNet$Reader", "unitKind", "()I"⟩, 12), (⟨"TurnNet$Net", "listChannels", "()V"⟩, 12), (⟨"TurnNet$Order", "countLinks", "(I)V"⟩, 5), (⟨"TurnNet$Order", "evaluate", "(I)I"⟩, 5)]
theorem lw_r1 : ∀ q ∈ lw_privs_1, lw_okq q := List.forall_mem_cons.mpr ⟨lw_p0, List.forall_mem_cons.mpr ⟨lw_p1, List.forall_mem_cons.mpr ⟨lw_p2, List.forall_mem_cons.mpr ⟨lw_p3, List.forall_mem_cons.mpr ⟨lw_p4, List.forall_mem_cons.mpr ⟨lw_p5, List.forall_mem_cons.mpr ⟨lw_p6, List.forall_mem_cons.mpr ⟨lw_p7, List.forall_mem_cons.mpr ⟨lw_p8, List.forall_mem_cons.mpr ⟨lw_p9, List.forall_mem_cons.mpr ⟨lw_p10, List.forall_mem_cons.mpr ⟨lw_p11, List.forall_mem_cons.mpr ⟨lw_p12, List.forall_mem_cons.mpr ⟨lw_p13, List.forall_mem_cons.mpr ⟨lw_p14, List.forall_mem_cons.mpr ⟨lw_p15, fun _ h => absurd h List.not_mem_nil⟩⟩⟩⟩⟩⟩⟩⟩⟩⟩⟩⟩⟩⟩⟩⟩
theorem lw_p16 : lw_okq (⟨"TurnNet$Order", "leaf", "(III)I"⟩, 5) := ⟨⟨by decide +kernel, by decide +kernel⟩, List.mem_of_getElem? (i := 158) (by decide +kernel), List.mem_of_getElem? (i := 622) (by decide +kernel), List.mem_of_getElem? (i := 623) (by decide +kernel)⟩
theorem lw_p17 : lw_okq (⟨"TurnNet$Order", "isAbove", "(II)Z"⟩, 5) := ⟨⟨by decide +kernel, by decide +kernel⟩, List.mem_of_getElem? (i := 158) (by decide +kernel), List.mem_of_getElem? (i := 633) (by decide +kernel), List.mem_of_getElem? (i := 634) (by decide +kernel)⟩
theorem lw_p18 : lw_okq (⟨"TurnNet$History", "slotOf", "(I)I"⟩, 4) := ⟨⟨by decide +kernel, by decide +kernel⟩, List.mem_of_getElem? (i := 308) (by decide +kernel), List.mem_of_getElem? (i := 661) (by decide +kernel), List.mem_of_getElem? (i := 662) (by decide +kernel)⟩
theorem lw_p19 : lw_okq (⟨"TurnNet", "upEndsBy", "(I)I"⟩, 14) := ⟨⟨by decide +kernel, by decide +kernel⟩, List.mem_of_getElem? (i := 21) (by decide +kernel), List.mem_of_getElem? (i := 693) (by decide +kernel), List.mem_of_getElem? (i := 694) (by decide +kernel)⟩
theorem lw_p20 : lw_okq (⟨"TurnNet", "planFor", "(I)V"⟩, 14) := ⟨⟨by decide +kernel, by decide +kernel⟩, List.mem_of_getElem? (i := 21) (by decide +kernel), List.mem_of_getElem? (i := 701) (by decide +kernel), List.mem_of_getElem? (i := 702) (by decide +kernel)⟩
theorem lw_p21 : lw_okq (⟨"TurnNet$Planner", "takeLinks", "(III)I"⟩, 5) := ⟨⟨by decide +kernel, by decide +kernel⟩, List.mem_of_getElem? (i := 266) (by decide +kernel), List.mem_of_getElem? (i := 710) (by decide +kernel), List.mem_of_getElem? (i := 711) (by decide +kernel)⟩
theorem lw_p22 : lw_okq (⟨"TurnNet$Turns", "upChannels", "(I)J"⟩, 3) := ⟨⟨by decide +kernel, by decide +kernel⟩, List.mem_of_getElem? (i := 250) (by decide +kernel), List.mem_of_getElem? (i := 719) (by decide +kernel), List.mem_of_getElem? (i := 720) (by decide +kernel)⟩
theorem lw_p23 : lw_okq (⟨"TurnNet$Turns", "lawful", "(IJ)J"⟩, 3) := ⟨⟨by decide +kernel, by decide +kernel⟩, List.mem_of_getElem? (i := 250) (by decide +kernel), List.mem_of_getElem? (i := 726) (by decide +kernel), List.mem_of_getElem? (i := 727) (by decide +kernel)⟩
theorem lw_p24 : lw_okq (⟨"TurnNet", "goSteps", "(LTurnNet$State;I)I"⟩, 14) := ⟨⟨by decide +kernel, by decide +kernel⟩, List.mem_of_getElem? (i := 21) (by decide +kernel), List.mem_of_getElem? (i := 739) (by decide +kernel), List.mem_of_getElem? (i := 740) (by decide +kernel)⟩
theorem lw_p25 : lw_okq (⟨"TurnNet$Routes", "measure", "(I)V"⟩, 12) := ⟨⟨by decide +kernel, by decide +kernel⟩, List.mem_of_getElem? (i := 183) (by decide +kernel), List.mem_of_getElem? (i := 753) (by decide +kernel), List.mem_of_getElem? (i := 754) (by decide +kernel)⟩
theorem lw_p26 : lw_okq (⟨"TurnNet$Routes", "growLevel", "(II)Z"⟩, 12) := ⟨⟨by decide +kernel, by decide +kernel⟩, List.mem_of_getElem? (i := 183) (by decide +kernel), List.mem_of_getElem? (i := 757) (by decide +kernel), List.mem_of_getElem? (i := 758) (by decide +kernel)⟩
theorem lw_p27 : lw_okq (⟨"TurnNet$Routes", "stands", "(I)Z"⟩, 12) := ⟨⟨by decide +kernel, by decide +kernel⟩, List.mem_of_getElem? (i := 183) (by decide +kernel), List.mem_of_getElem? (i := 761) (by decide +kernel), List.mem_of_getElem? (i := 762) (by decide +kernel)⟩
theorem lw_p28 : lw_okq (⟨"TurnNet$Routes", "reach", "(III)Z"⟩, 12) := ⟨⟨by decide +kernel, by decide +kernel⟩, List.mem_of_getElem? (i := 183) (by decide +kernel), List.mem_of_getElem? (i := 765) (by decide +kernel), List.mem_of_getElem? (i := 766) (by decide +kernel)⟩
theorem lw_p29 : lw_okq (⟨"TurnNet$Routes", "fillTable", "()V"⟩, 12) := ⟨⟨by decide +kernel, by decide +kernel⟩, List.mem_of_getElem? (i := 183) (by decide +kernel), List.mem_of_getElem? (i := 769) (by decide +kernel), List.mem_of_getElem? (i := 770) (by decide +kernel)⟩
theorem lw_p30 : lw_okq (⟨"TurnNet$Routes", "leastUsed", "(III)I"⟩, 12) := ⟨⟨by decide +kernel, by decide +kernel⟩, List.mem_of_getElem? (i := 183) (by decide +kernel), List.mem_of_getElem? (i := 773) (by decide +kernel), List.mem_of_getElem? (i := 774) (by decide +kernel)⟩
theorem lw_p31 : lw_okq (⟨"TurnNet$Routes", "leadsOn", "(III)Z"⟩, 12) := ⟨⟨by decide +kernel, by decide +kernel⟩, List.mem_of_getElem? (i := 183) (by decide +kernel), List.mem_of_getElem? (i := 777) (by decide +kernel), List.mem_of_getElem? (i := 778) (by decide +kernel)⟩
def lw_privs_2 : List (MethodName × Nat) := [(⟨"TurnNet$Order", "leaf", "(III)I"⟩, 5), (⟨"TurnNet$Order", "isAbove", "(II)Z"⟩, 5), (⟨"TurnNet$History", "slotOf", "(I)I"⟩, 4), (⟨"TurnNet", "upEndsBy", "(I)I"⟩, 14), (⟨"TurnNet", "planFor", "(I)V"⟩, 14), (⟨"TurnNet$Planner", "takeLinks", "(III)I"⟩, 5), (⟨"TurnNet$Turns", "upChannels", "(I)J"⟩, 3), (⟨"TurnNet$Turns", "lawful", "(IJ)J"⟩, 3), (⟨"TurnNet", "goSteps", "(LTurnNet$State;I)I"⟩, 14), (⟨"TurnNet$Routes", "measure", "(I)V"⟩, 12), (⟨"TurnNet$Routes", "growLevel", "(II)Z"⟩, 12), (⟨"TurnNet$Routes", "stands", "(I)Z"⟩, 12), (⟨"TurnNet$Routes", "reach", "(III)Z"⟩, 12), (⟨"TurnNet$Routes", "fillTable", "()V"⟩, 12), (⟨"TurnNet$Routes", "leastUsed", "(III)I"⟩, 12), (⟨"TurnNet$Routes", "leadsOn", "(III)Z"⟩, 12)]
theorem lw_r2 : ∀ q ∈ lw_privs_2, lw_okq q := List.forall_mem_cons.mpr ⟨lw_p16, List.forall_mem_cons.mpr ⟨lw_p17, List.forall_mem_cons.mpr ⟨lw_p18, List.forall_mem_cons.mpr ⟨lw_p19, List.forall_mem_cons.mpr ⟨lw_p20, List.forall_mem_cons.mpr ⟨lw_p21, List.forall_mem_cons.mpr ⟨lw_p22, List.forall_mem_cons.mpr ⟨lw_p23, List.forall_mem_cons.mpr ⟨lw_p24, List.forall_mem_cons.mpr ⟨lw_p25, List.forall_mem_cons.mpr ⟨lw_p26, List.forall_mem_cons.mpr ⟨lw_p27, List.forall_mem_cons.mpr ⟨lw_p28, List.forall_mem_cons.mpr ⟨lw_p29, List.forall_mem_cons.mpr ⟨lw_p30, List.forall_mem_cons.mpr ⟨lw_p31, fun _ h => absurd h List.not_mem_nil⟩⟩⟩⟩⟩⟩⟩⟩⟩⟩⟩⟩⟩⟩⟩⟩
theorem lw_p32 : lw_okq (⟨"TurnNet$Routes", "placeBehind", "(I)I"⟩, 12) := ⟨⟨by decide +kernel, by decide +kernel⟩, List.mem_of_getElem? (i := 183) (by decide +kernel), List.mem_of_getElem? (i := 781) (by decide +kernel), List.mem_of_getElem? (i := 782) (by decide +kernel)⟩
theorem lw_p33 : lw_okq (⟨"TurnNet$Routes", "countLoads", "()V"⟩, 12) := ⟨⟨by decide +kernel, by decide +kernel⟩, List.mem_of_getElem? (i := 183) (by decide +kernel), List.mem_of_getElem? (i := 785) (by decide +kernel), List.mem_of_getElem? (i := 786) (by decide +kernel)⟩
theorem lw_p34 : lw_okq (⟨"TurnNet$Routes", "countPath", "(II)V"⟩, 12) := ⟨⟨by decide +kernel, by decide +kernel⟩, List.mem_of_getElem? (i := 183) (by decide +kernel), List.mem_of_getElem? (i := 789) (by decide +kernel), List.mem_of_getElem? (i := 790) (by decide +kernel)⟩
theorem lw_p35 : lw_okq (⟨"TurnNet$Routes", "entryBehind", "(II)I"⟩, 12) := ⟨⟨by decide +kernel, by decide +kernel⟩, List.mem_of_getElem? (i := 183) (by decide +kernel), List.mem_of_getElem? (i := 797) (by decide +kernel), List.mem_of_getElem? (i := 798) (by decide +kernel)⟩
theorem lw_p36 : lw_okq (⟨"TurnNet$Traffic", "goOn", "(LTurnNet$State;LTurnNet$Routes;I)V"⟩, 3) := ⟨⟨by decide +kernel, by decide +kernel⟩, List.mem_of_getElem? (i := 290) (by decide +kernel), List.mem_of_getElem? (i := 813) (by decide +kernel), List.mem_of_getElem? (i := 814) (by decide +kernel)⟩
theorem lw_p37 : lw_okq (⟨"TurnNet$History", "exchange", "(ILTurnNet$State;)LTurnNet$State;"⟩, 4) := ⟨⟨by decide +kernel, by decide +kernel⟩, List.mem_of_getElem? (i := 308) (by decide +kernel), List.mem_of_getElem? (i := 852) (by decide +kernel), List.mem_of_getElem? (i := 853) (by decide +kernel)⟩
theorem lw_p38 : lw_okq (⟨"TurnNet$Routes", "countOnward", "(I)V"⟩, 12) := ⟨⟨by decide +kernel, by decide +kernel⟩, List.mem_of_getElem? (i := 183) (by decide +kernel), List.mem_of_getElem? (i := 911) (by decide +kernel), List.mem_of_getElem? (i := 912) (by decide +kernel)⟩
theorem lw_p39 : lw_okq (⟨"TurnNet$Routes", "addOnward", "(II)V"⟩, 12) := ⟨⟨by decide +kernel, by decide +kernel⟩, List.mem_of_getElem? (i := 183) (by decide +kernel), List.mem_of_getElem? (i := 915) (by decide +kernel), List.mem_of_getElem? (i := 916) (by decide +kernel)⟩
theorem lw_p40 : lw_okq (⟨"TurnNet$Routes", "countArriving", "(II)V"⟩, 12) := ⟨⟨by decide +kernel, by decide +kernel⟩, List.mem_of_getElem? (i := 183) (by decide +kernel), List.mem_of_getElem? (i := 931) (by decide +kernel), List.mem_of_getElem? (i := 932) (by decide +kernel)⟩
theorem lw_p41 : lw_okq (⟨"TurnNet$Routes", "passArriving", "(II)V"⟩, 12) := ⟨⟨by decide +kernel, by decide +kernel⟩, List.mem_of_getElem? (i := 183) (by decide +kernel), List.mem_of_getElem? (i := 935) (by decide +kernel), List.mem_of_getElem? (i := 936) (by decide +kernel)⟩
theorem lw_p42 : lw_okq (⟨"TurnNet", "hopsWhereWays", "()I"⟩, 14) := ⟨⟨by decide +kernel, by decide +kernel⟩, List.mem_of_getElem? (i := 21) (by decide +kernel), List.mem_of_getElem? (i := 980) (by decide +kernel), List.mem_of_getElem? (i := 981) (by decide +kernel)⟩
theorem lw_p43 : lw_okq (⟨"TurnNet$Turns", "ontoFrom", "(J)J"⟩, 3) := ⟨⟨by decide +kernel, by decide +kernel⟩, List.mem_of_getElem? (i := 250) (by decide +kernel), List.mem_of_getElem? (i := 1007) (by decide +kernel), List.mem_of_getElem? (i := 1008) (by decide +kernel)⟩
theorem lw_p44 : lw_okq (⟨"TurnNet", "worthOf", "(II)I"⟩, 14) := ⟨⟨by decide +kernel, by decide +kernel⟩, List.mem_of_getElem? (i := 21) (by decide +kernel), List.mem_of_getElem? (i := 1031) (by decide +kernel), List.mem_of_getElem? (i := 1032) (by decide +kernel)⟩
theorem lw_p45 : lw_okq (⟨"TurnNet", "pairsWithoutWay", "(II)I"⟩, 14) := ⟨⟨by decide +kernel, by decide +kernel⟩, List.mem_of_getElem? (i := 21) (by decide +kernel), List.mem_of_getElem? (i := 1035) (by decide +kernel), List.mem_of_getElem? (i := 1036) (by decide +kernel)⟩
theorem lw_p46 : lw_okq (⟨"TurnNet$Graph", "findRow", "(III)Z"⟩, 5) := ⟨⟨by decide +kernel, by decide +kernel⟩, List.mem_of_getElem? (i := 228) (by decide +kernel), List.mem_of_getElem? (i := 1059) (by decide +kernel), List.mem_of_getElem? (i := 1060) (by decide +kernel)⟩
theorem lw_p47 : lw_okq (⟨"TurnNet$Graph", "hasSpace", "(II)Z"⟩, 5) := ⟨⟨by decide +kernel, by decide +kernel⟩, List.mem_of_getElem? (i := 228) (by decide +kernel), List.mem_of_getElem? (i := 1063) (by decide +kernel), List.mem_of_getElem? (i := 1064) (by decide +kernel)⟩
def lw_privs_3 : List (MethodName × Nat) := [(⟨"TurnNet$Routes", "placeBehind", "(I)I"⟩, 12), (⟨"TurnNet$Routes", "countLoads", "()V"⟩, 12), (⟨"TurnNet$Routes", "countPath", "(II)V"⟩, 12), (⟨"TurnNet$Routes", "entryBehind", "(II)I"⟩, 12), (⟨"TurnNet$Traffic", "goOn", "(LTurnNet$State;LTurnNet$Routes;I)V"⟩, 3), (⟨"TurnNet$History", "exchange", "(ILTurnNet$State;)LTurnNet$State;"⟩, 4), (⟨"TurnNet$Routes", "countOnward", "(I)V"⟩, 12), (⟨"TurnNet$Routes", "addOnward", "(II)V"⟩, 12), (⟨"TurnNet$Routes", "countArriving", "(II)V"⟩, 12), (⟨"TurnNet$Routes", "passArriving", "(II)V"⟩, 12), (⟨"TurnNet", "hopsWhereWays", "()I"⟩, 14), (⟨"TurnNet$Turns", "ontoFrom", "(J)J"⟩, 3), (⟨"TurnNet", "worthOf", "(II)I"⟩, 14), (⟨"TurnNet", "pairsWithoutWay", "(II)I"⟩, 14), (⟨"TurnNet$Graph", "findRow", "(III)Z"⟩, 5), (⟨"TurnNet$Graph", "hasSpace", "(II)Z"⟩, 5)]
theorem lw_r3 : ∀ q ∈ lw_privs_3, lw_okq q := List.forall_mem_cons.mpr ⟨lw_p32, List.forall_mem_cons.mpr ⟨lw_p33, List.forall_mem_cons.mpr ⟨lw_p34, List.forall_mem_cons.mpr ⟨lw_p35, List.forall_mem_cons.mpr ⟨lw_p36, List.forall_mem_cons.mpr ⟨lw_p37, List.forall_mem_cons.mpr ⟨lw_p38, List.forall_mem_cons.mpr ⟨lw_p39, List.forall_mem_cons.mpr ⟨lw_p40, List.forall_mem_cons.mpr ⟨lw_p41, List.forall_mem_cons.mpr ⟨lw_p42, List.forall_mem_cons.mpr ⟨lw_p43, List.forall_mem_cons.mpr ⟨lw_p44, List.forall_mem_cons.mpr ⟨lw_p45, List.forall_mem_cons.mpr ⟨lw_p46, List.forall_mem_cons.mpr ⟨lw_p47, fun _ h => absurd h List.not_mem_nil⟩⟩⟩⟩⟩⟩⟩⟩⟩⟩⟩⟩⟩⟩⟩⟩
theorem lw_p48 : lw_okq (⟨"TurnNet$Graph", "useRow", "(II)V"⟩, 5) := ⟨⟨by decide +kernel, by decide +kernel⟩, List.mem_of_getElem? (i := 228) (by decide +kernel), List.mem_of_getElem? (i := 1067) (by decide +kernel), List.mem_of_getElem? (i := 1068) (by decide +kernel)⟩
theorem lw_p49 : lw_okq (⟨"TurnNet$Graph", "parts", "(II)Z"⟩, 5) := ⟨⟨by decide +kernel, by decide +kernel⟩, List.mem_of_getElem? (i := 228) (by decide +kernel), List.mem_of_getElem? (i := 1084) (by decide +kernel), List.mem_of_getElem? (i := 1085) (by decide +kernel)⟩
theorem lw_p50 : lw_okq (⟨"TurnNet", "runEmpty", "()I"⟩, 14) := ⟨⟨by decide +kernel, by decide +kernel⟩, List.mem_of_getElem? (i := 21) (by decide +kernel), List.mem_of_getElem? (i := 1117) (by decide +kernel), List.mem_of_getElem? (i := 1118) (by decide +kernel)⟩
theorem lw_p51 : lw_okq (⟨"TurnNetModel", "clearBank", "(I)V"⟩, 58) := ⟨⟨by decide +kernel, by decide +kernel⟩, List.mem_of_getElem? (i := 1137) (by decide +kernel), List.mem_of_getElem? (i := 1143) (by decide +kernel), List.mem_of_getElem? (i := 1144) (by decide +kernel)⟩
theorem lw_p52 : lw_okq (⟨"TurnNetModel", "startAnew", "()V"⟩, 58) := ⟨⟨by decide +kernel, by decide +kernel⟩, List.mem_of_getElem? (i := 1137) (by decide +kernel), List.mem_of_getElem? (i := 1147) (by decide +kernel), List.mem_of_getElem? (i := 1148) (by decide +kernel)⟩
theorem lw_p53 : lw_okq (⟨"TurnNetModel", "orientBy", "(I)V"⟩, 58) := ⟨⟨by decide +kernel, by decide +kernel⟩, List.mem_of_getElem? (i := 1137) (by decide +kernel), List.mem_of_getElem? (i := 1151) (by decide +kernel), List.mem_of_getElem? (i := 1152) (by decide +kernel)⟩
theorem lw_p54 : lw_okq (⟨"TurnNetModel", "layRanks", "(I)V"⟩, 58) := ⟨⟨by decide +kernel, by decide +kernel⟩, List.mem_of_getElem? (i := 1137) (by decide +kernel), List.mem_of_getElem? (i := 1155) (by decide +kernel), List.mem_of_getElem? (i := 1156) (by decide +kernel)⟩
theorem lw_p55 : lw_okq (⟨"TurnNetModel", "layFar", "(II)V"⟩, 58) := ⟨⟨by decide +kernel, by decide +kernel⟩, List.mem_of_getElem? (i := 1137) (by decide +kernel), List.mem_of_getElem? (i := 1159) (by decide +kernel), List.mem_of_getElem? (i := 1160) (by decide +kernel)⟩
theorem lw_p56 : lw_okq (⟨"TurnNetModel", "isNode", "(I)Z"⟩, 58) := ⟨⟨by decide +kernel, by decide +kernel⟩, List.mem_of_getElem? (i := 1137) (by decide +kernel), List.mem_of_getElem? (i := 1163) (by decide +kernel), List.mem_of_getElem? (i := 1164) (by decide +kernel)⟩
theorem lw_p57 : lw_okq (⟨"TurnNetModel", "nodesNow", "()I"⟩, 58) := ⟨⟨by decide +kernel, by decide +kernel⟩, List.mem_of_getElem? (i := 1137) (by decide +kernel), List.mem_of_getElem? (i := 1167) (by decide +kernel), List.mem_of_getElem? (i := 1168) (by decide +kernel)⟩
theorem lw_p58 : lw_okq (⟨"TurnNetModel", "linksNow", "()I"⟩, 58) := ⟨⟨by decide +kernel, by decide +kernel⟩, List.mem_of_getElem? (i := 1137) (by decide +kernel), List.mem_of_getElem? (i := 1174) (by decide +kernel), List.mem_of_getElem? (i := 1175) (by decide +kernel)⟩
theorem lw_p59 : lw_okq (⟨"TurnNetModel", "endOf", "(II)I"⟩, 58) := ⟨⟨by decide +kernel, by decide +kernel⟩, List.mem_of_getElem? (i := 1137) (by decide +kernel), List.mem_of_getElem? (i := 1178) (by decide +kernel), List.mem_of_getElem? (i := 1179) (by decide +kernel)⟩
theorem lw_p60 : lw_okq (⟨"TurnNetModel", "stands", "(I)Z"⟩, 58) := ⟨⟨by decide +kernel, by decide +kernel⟩, List.mem_of_getElem? (i := 1137) (by decide +kernel), List.mem_of_getElem? (i := 1185) (by decide +kernel), List.mem_of_getElem? (i := 1186) (by decide +kernel)⟩
theorem lw_p61 : lw_okq (⟨"TurnNetModel", "rankOf", "(I)I"⟩, 58) := ⟨⟨by decide +kernel, by decide +kernel⟩, List.mem_of_getElem? (i := 1137) (by decide +kernel), List.mem_of_getElem? (i := 1189) (by decide +kernel), List.mem_of_getElem? (i := 1190) (by decide +kernel)⟩
theorem lw_p62 : lw_okq (⟨"TurnNetModel", "work", "(III)I"⟩, 58) := ⟨⟨by decide +kernel, by decide +kernel⟩, List.mem_of_getElem? (i := 1137) (by decide +kernel), List.mem_of_getElem? (i := 1193) (by decide +kernel), List.mem_of_getElem? (i := 1194) (by decide +kernel)⟩
theorem lw_p63 : lw_okq (⟨"TurnNetModel", "linksOf", "(I)I"⟩, 58) := ⟨⟨by decide +kernel, by decide +kernel⟩, List.mem_of_getElem? (i := 1137) (by decide +kernel), List.mem_of_getElem? (i := 1197) (by decide +kernel), List.mem_of_getElem? (i := 1198) (by decide +kernel)⟩
def lw_privs_4 : List (MethodName × Nat) := [(⟨"TurnNet$Graph", "useRow", "(II)V"⟩, 5), (⟨"TurnNet$Graph", "parts", "(II)Z"⟩, 5), (⟨"TurnNet", "runEmpty", "()I"⟩, 14), (⟨"TurnNetModel", "clearBank", "(I)V"⟩, 58), (⟨"TurnNetModel", "startAnew", "()V"⟩, 58), (⟨"TurnNetModel", "orientBy", "(I)V"⟩, 58), (⟨"TurnNetModel", "layRanks", "(I)V"⟩, 58), (⟨"TurnNetModel", "layFar", "(II)V"⟩, 58), (⟨"TurnNetModel", "isNode", "(I)Z"⟩, 58), (⟨"TurnNetModel", "nodesNow", "()I"⟩, 58), (⟨"TurnNetModel", "linksNow", "()I"⟩, 58), (⟨"TurnNetModel", "endOf", "(II)I"⟩, 58), (⟨"TurnNetModel", "stands", "(I)Z"⟩, 58), (⟨"TurnNetModel", "rankOf", "(I)I"⟩, 58), (⟨"TurnNetModel", "work", "(III)I"⟩, 58), (⟨"TurnNetModel", "linksOf", "(I)I"⟩, 58)]
theorem lw_r4 : ∀ q ∈ lw_privs_4, lw_okq q := List.forall_mem_cons.mpr ⟨lw_p48, List.forall_mem_cons.mpr ⟨lw_p49, List.forall_mem_cons.mpr ⟨lw_p50, List.forall_mem_cons.mpr ⟨lw_p51, List.forall_mem_cons.mpr ⟨lw_p52, List.forall_mem_cons.mpr ⟨lw_p53, List.forall_mem_cons.mpr ⟨lw_p54, List.forall_mem_cons.mpr ⟨lw_p55, List.forall_mem_cons.mpr ⟨lw_p56, List.forall_mem_cons.mpr ⟨lw_p57, List.forall_mem_cons.mpr ⟨lw_p58, List.forall_mem_cons.mpr ⟨lw_p59, List.forall_mem_cons.mpr ⟨lw_p60, List.forall_mem_cons.mpr ⟨lw_p61, List.forall_mem_cons.mpr ⟨lw_p62, List.forall_mem_cons.mpr ⟨lw_p63, fun _ h => absurd h List.not_mem_nil⟩⟩⟩⟩⟩⟩⟩⟩⟩⟩⟩⟩⟩⟩⟩⟩
theorem lw_p64 : lw_okq (⟨"TurnNetModel", "isAbove", "(II)Z"⟩, 58) := ⟨⟨by decide +kernel, by decide +kernel⟩, List.mem_of_getElem? (i := 1137) (by decide +kernel), List.mem_of_getElem? (i := 1201) (by decide +kernel), List.mem_of_getElem? (i := 1202) (by decide +kernel)⟩
theorem lw_p65 : lw_okq (⟨"TurnNetModel", "readAll", "(I)V"⟩, 58) := ⟨⟨by decide +kernel, by decide +kernel⟩, List.mem_of_getElem? (i := 1137) (by decide +kernel), List.mem_of_getElem? (i := 1392) (by decide +kernel), List.mem_of_getElem? (i := 1393) (by decide +kernel)⟩
theorem lw_p66 : lw_okq (⟨"TurnNetModel", "scan", "()V"⟩, 58) := ⟨⟨by decide +kernel, by decide +kernel⟩, List.mem_of_getElem? (i := 1137) (by decide +kernel), List.mem_of_getElem? (i := 1396) (by decide +kernel), List.mem_of_getElem? (i := 1397) (by decide +kernel)⟩
theorem lw_p67 : lw_okq (⟨"TurnNetModel", "isBlank", "(I)Z"⟩, 58) := ⟨⟨by decide +kernel, by decide +kernel⟩, List.mem_of_getElem? (i := 1137) (by decide +kernel), List.mem_of_getElem? (i := 1400) (by decide +kernel), List.mem_of_getElem? (i := 1401) (by decide +kernel)⟩
theorem lw_p68 : lw_okq (⟨"TurnNetModel", "signAt", "(I)I"⟩, 58) := ⟨⟨by decide +kernel, by decide +kernel⟩, List.mem_of_getElem? (i := 1137) (by decide +kernel), List.mem_of_getElem? (i := 1404) (by decide +kernel), List.mem_of_getElem? (i := 1405) (by decide +kernel)⟩
theorem lw_p69 : lw_okq (⟨"TurnNetModel", "scanWord", "()V"⟩, 58) := ⟨⟨by decide +kernel, by decide +kernel⟩, List.mem_of_getElem? (i := 1137) (by decide +kernel), List.mem_of_getElem? (i := 1411) (by decide +kernel), List.mem_of_getElem? (i := 1412) (by decide +kernel)⟩
theorem lw_p70 : lw_okq (⟨"TurnNetModel", "isSame", "(II)Z"⟩, 58) := ⟨⟨by decide +kernel, by decide +kernel⟩, List.mem_of_getElem? (i := 1137) (by decide +kernel), List.mem_of_getElem? (i := 1415) (by decide +kernel), List.mem_of_getElem? (i := 1416) (by decide +kernel)⟩
theorem lw_p71 : lw_okq (⟨"TurnNetModel", "scanNumber", "()V"⟩, 58) := ⟨⟨by decide +kernel, by decide +kernel⟩, List.mem_of_getElem? (i := 1137) (by decide +kernel), List.mem_of_getElem? (i := 1422) (by decide +kernel), List.mem_of_getElem? (i := 1423) (by decide +kernel)⟩
theorem lw_p72 : lw_okq (⟨"TurnNetModel", "isWord", "(I)Z"⟩, 58) := ⟨⟨by decide +kernel, by decide +kernel⟩, List.mem_of_getElem? (i := 1137) (by decide +kernel), List.mem_of_getElem? (i := 1429) (by decide +kernel), List.mem_of_getElem? (i := 1430) (by decide +kernel)⟩
theorem lw_p73 : lw_okq (⟨"TurnNetModel", "fail", "(I)V"⟩, 58) := ⟨⟨by decide +kernel, by decide +kernel⟩, List.mem_of_getElem? (i := 1137) (by decide +kernel), List.mem_of_getElem? (i := 1433) (by decide +kernel), List.mem_of_getElem? (i := 1434) (by decide +kernel)⟩
theorem lw_p74 : lw_okq (⟨"TurnNetModel", "numeral", "(II)I"⟩, 58) := ⟨⟨by decide +kernel, by decide +kernel⟩, List.mem_of_getElem? (i := 1137) (by decide +kernel), List.mem_of_getElem? (i := 1437) (by decide +kernel), List.mem_of_getElem? (i := 1438) (by decide +kernel)⟩
theorem lw_p75 : lw_okq (⟨"TurnNetModel", "need", "(I)V"⟩, 58) := ⟨⟨by decide +kernel, by decide +kernel⟩, List.mem_of_getElem? (i := 1137) (by decide +kernel), List.mem_of_getElem? (i := 1441) (by decide +kernel), List.mem_of_getElem? (i := 1442) (by decide +kernel)⟩
theorem lw_p76 : lw_okq (⟨"TurnNetModel", "isAt", "(I)Z"⟩, 58) := ⟨⟨by decide +kernel, by decide +kernel⟩, List.mem_of_getElem? (i := 1137) (by decide +kernel), List.mem_of_getElem? (i := 1445) (by decide +kernel), List.mem_of_getElem? (i := 1446) (by decide +kernel)⟩
theorem lw_p77 : lw_okq (⟨"TurnNetModel", "readLine", "(I)V"⟩, 58) := ⟨⟨by decide +kernel, by decide +kernel⟩, List.mem_of_getElem? (i := 1137) (by decide +kernel), List.mem_of_getElem? (i := 1449) (by decide +kernel), List.mem_of_getElem? (i := 1450) (by decide +kernel)⟩
theorem lw_p78 : lw_okq (⟨"TurnNetModel", "readLink", "(I)V"⟩, 58) := ⟨⟨by decide +kernel, by decide +kernel⟩, List.mem_of_getElem? (i := 1137) (by decide +kernel), List.mem_of_getElem? (i := 1453) (by decide +kernel), List.mem_of_getElem? (i := 1454) (by decide +kernel)⟩
theorem lw_p79 : lw_okq (⟨"TurnNetModel", "isJoined", "(III)Z"⟩, 58) := ⟨⟨by decide +kernel, by decide +kernel⟩, List.mem_of_getElem? (i := 1137) (by decide +kernel), List.mem_of_getElem? (i := 1457) (by decide +kernel), List.mem_of_getElem? (i := 1458) (by decide +kernel)⟩
def lw_privs_5 : List (MethodName × Nat) := [(⟨"TurnNetModel", "isAbove", "(II)Z"⟩, 58), (⟨"TurnNetModel", "readAll", "(I)V"⟩, 58), (⟨"TurnNetModel", "scan", "()V"⟩, 58), (⟨"TurnNetModel", "isBlank", "(I)Z"⟩, 58), (⟨"TurnNetModel", "signAt", "(I)I"⟩, 58), (⟨"TurnNetModel", "scanWord", "()V"⟩, 58), (⟨"TurnNetModel", "isSame", "(II)Z"⟩, 58), (⟨"TurnNetModel", "scanNumber", "()V"⟩, 58), (⟨"TurnNetModel", "isWord", "(I)Z"⟩, 58), (⟨"TurnNetModel", "fail", "(I)V"⟩, 58), (⟨"TurnNetModel", "numeral", "(II)I"⟩, 58), (⟨"TurnNetModel", "need", "(I)V"⟩, 58), (⟨"TurnNetModel", "isAt", "(I)Z"⟩, 58), (⟨"TurnNetModel", "readLine", "(I)V"⟩, 58), (⟨"TurnNetModel", "readLink", "(I)V"⟩, 58), (⟨"TurnNetModel", "isJoined", "(III)Z"⟩, 58)]
theorem lw_r5 : ∀ q ∈ lw_privs_5, lw_okq q := List.forall_mem_cons.mpr ⟨lw_p64, List.forall_mem_cons.mpr ⟨lw_p65, List.forall_mem_cons.mpr ⟨lw_p66, List.forall_mem_cons.mpr ⟨lw_p67, List.forall_mem_cons.mpr ⟨lw_p68, List.forall_mem_cons.mpr ⟨lw_p69, List.forall_mem_cons.mpr ⟨lw_p70, List.forall_mem_cons.mpr ⟨lw_p71, List.forall_mem_cons.mpr ⟨lw_p72, List.forall_mem_cons.mpr ⟨lw_p73, List.forall_mem_cons.mpr ⟨lw_p74, List.forall_mem_cons.mpr ⟨lw_p75, List.forall_mem_cons.mpr ⟨lw_p76, List.forall_mem_cons.mpr ⟨lw_p77, List.forall_mem_cons.mpr ⟨lw_p78, List.forall_mem_cons.mpr ⟨lw_p79, fun _ h => absurd h List.not_mem_nil⟩⟩⟩⟩⟩⟩⟩⟩⟩⟩⟩⟩⟩⟩⟩⟩
theorem lw_p80 : lw_okq (⟨"TurnNetModel", "readRule", "(I)V"⟩, 58) := ⟨⟨by decide +kernel, by decide +kernel⟩, List.mem_of_getElem? (i := 1137) (by decide +kernel), List.mem_of_getElem? (i := 1461) (by decide +kernel), List.mem_of_getElem? (i := 1462) (by decide +kernel)⟩
theorem lw_p81 : lw_okq (⟨"TurnNetModel", "readUnit", "(I)Z"⟩, 58) := ⟨⟨by decide +kernel, by decide +kernel⟩, List.mem_of_getElem? (i := 1137) (by decide +kernel), List.mem_of_getElem? (i := 1465) (by decide +kernel), List.mem_of_getElem? (i := 1466) (by decide +kernel)⟩
theorem lw_p82 : lw_okq (⟨"TurnNetModel", "push", "(I)V"⟩, 58) := ⟨⟨by decide +kernel, by decide +kernel⟩, List.mem_of_getElem? (i := 1137) (by decide +kernel), List.mem_of_getElem? (i := 1469) (by decide +kernel), List.mem_of_getElem? (i := 1470) (by decide +kernel)⟩
theorem lw_p83 : lw_okq (⟨"TurnNetModel", "lay", "(II)V"⟩, 58) := ⟨⟨by decide +kernel, by decide +kernel⟩, List.mem_of_getElem? (i := 1137) (by decide +kernel), List.mem_of_getElem? (i := 1473) (by decide +kernel), List.mem_of_getElem? (i := 1474) (by decide +kernel)⟩
theorem lw_p84 : lw_okq (⟨"TurnNetModel", "closeMinus", "(I)V"⟩, 58) := ⟨⟨by decide +kernel, by decide +kernel⟩, List.mem_of_getElem? (i := 1137) (by decide +kernel), List.mem_of_getElem? (i := 1477) (by decide +kernel), List.mem_of_getElem? (i := 1478) (by decide +kernel)⟩
theorem lw_p85 : lw_okq (⟨"TurnNetModel", "layOpen", "(I)V"⟩, 58) := ⟨⟨by decide +kernel, by decide +kernel⟩, List.mem_of_getElem? (i := 1137) (by decide +kernel), List.mem_of_getElem? (i := 1481) (by decide +kernel), List.mem_of_getElem? (i := 1482) (by decide +kernel)⟩
theorem lw_p86 : lw_okq (⟨"TurnNetModel", "closeOne", "(I)V"⟩, 58) := ⟨⟨by decide +kernel, by decide +kernel⟩, List.mem_of_getElem? (i := 1137) (by decide +kernel), List.mem_of_getElem? (i := 1485) (by decide +kernel), List.mem_of_getElem? (i := 1486) (by decide +kernel)⟩
theorem lw_p87 : lw_okq (⟨"TurnNetModel", "binary", "()I"⟩, 58) := ⟨⟨by decide +kernel, by decide +kernel⟩, List.mem_of_getElem? (i := 1137) (by decide +kernel), List.mem_of_getElem? (i := 1489) (by decide +kernel), List.mem_of_getElem? (i := 1490) (by decide +kernel)⟩
theorem lw_p88 : lw_okq (⟨"TurnNetModel", "readBinary", "(I)Z"⟩, 58) := ⟨⟨by decide +kernel, by decide +kernel⟩, List.mem_of_getElem? (i := 1137) (by decide +kernel), List.mem_of_getElem? (i := 1493) (by decide +kernel), List.mem_of_getElem? (i := 1494) (by decide +kernel)⟩
theorem lw_p89 : lw_okq (⟨"TurnNetModel", "isChannel", "(I)Z"⟩, 58) := ⟨⟨by decide +kernel, by decide +kernel⟩, List.mem_of_getElem? (i := 1137) (by decide +kernel), List.mem_of_getElem? (i := 1508) (by decide +kernel), List.mem_of_getElem? (i := 1509) (by decide +kernel)⟩
theorem lw_p90 : lw_okq (⟨"TurnNetModel", "isLawful", "(II)Z"⟩, 58) := ⟨⟨by decide +kernel, by decide +kernel⟩, List.mem_of_getElem? (i := 1137) (by decide +kernel), List.mem_of_getElem? (i := 1512) (by decide +kernel), List.mem_of_getElem? (i := 1513) (by decide +kernel)⟩
theorem lw_p91 : lw_okq (⟨"TurnNetModel", "isTurn", "(IIII)Z"⟩, 58) := ⟨⟨by decide +kernel, by decide +kernel⟩, List.mem_of_getElem? (i := 1137) (by decide +kernel), List.mem_of_getElem? (i := 1516) (by decide +kernel), List.mem_of_getElem? (i := 1517) (by decide +kernel)⟩
theorem lw_p92 : lw_okq (⟨"TurnNetModel", "toOf", "(I)I"⟩, 58) := ⟨⟨by decide +kernel, by decide +kernel⟩, List.mem_of_getElem? (i := 1137) (by decide +kernel), List.mem_of_getElem? (i := 1520) (by decide +kernel), List.mem_of_getElem? (i := 1521) (by decide +kernel)⟩
theorem lw_p93 : lw_okq (⟨"TurnNetModel", "fromOf", "(I)I"⟩, 58) := ⟨⟨by decide +kernel, by decide +kernel⟩, List.mem_of_getElem? (i := 1137) (by decide +kernel), List.mem_of_getElem? (i := 1524) (by decide +kernel), List.mem_of_getElem? (i := 1525) (by decide +kernel)⟩
theorem lw_p94 : lw_okq (⟨"TurnNetModel", "isUpBy", "(II)Z"⟩, 58) := ⟨⟨by decide +kernel, by decide +kernel⟩, List.mem_of_getElem? (i := 1137) (by decide +kernel), List.mem_of_getElem? (i := 1528) (by decide +kernel), List.mem_of_getElem? (i := 1529) (by decide +kernel)⟩
theorem lw_p95 : lw_okq (⟨"TurnNetModel", "layTurns", "()V"⟩, 58) := ⟨⟨by decide +kernel, by decide +kernel⟩, List.mem_of_getElem? (i := 1137) (by decide +kernel), List.mem_of_getElem? (i := 1536) (by decide +kernel), List.mem_of_getElem? (i := 1537) (by decide +kernel)⟩
def lw_privs_6 : List (MethodName × Nat) := [(⟨"TurnNetModel", "readRule", "(I)V"⟩, 58), (⟨"TurnNetModel", "readUnit", "(I)Z"⟩, 58), (⟨"TurnNetModel", "push", "(I)V"⟩, 58), (⟨"TurnNetModel", "lay", "(II)V"⟩, 58), (⟨"TurnNetModel", "closeMinus", "(I)V"⟩, 58), (⟨"TurnNetModel", "layOpen", "(I)V"⟩, 58), (⟨"TurnNetModel", "closeOne", "(I)V"⟩, 58), (⟨"TurnNetModel", "binary", "()I"⟩, 58), (⟨"TurnNetModel", "readBinary", "(I)Z"⟩, 58), (⟨"TurnNetModel", "isChannel", "(I)Z"⟩, 58), (⟨"TurnNetModel", "isLawful", "(II)Z"⟩, 58), (⟨"TurnNetModel", "isTurn", "(IIII)Z"⟩, 58), (⟨"TurnNetModel", "toOf", "(I)I"⟩, 58), (⟨"TurnNetModel", "fromOf", "(I)I"⟩, 58), (⟨"TurnNetModel", "isUpBy", "(II)Z"⟩, 58), (⟨"TurnNetModel", "layTurns", "()V"⟩, 58)]
theorem lw_r6 : ∀ q ∈ lw_privs_6, lw_okq q := List.forall_mem_cons.mpr ⟨lw_p80, List.forall_mem_cons.mpr ⟨lw_p81, List.forall_mem_cons.mpr ⟨lw_p82, List.forall_mem_cons.mpr ⟨lw_p83, List.forall_mem_cons.mpr ⟨lw_p84, List.forall_mem_cons.mpr ⟨lw_p85, List.forall_mem_cons.mpr ⟨lw_p86, List.forall_mem_cons.mpr ⟨lw_p87, List.forall_mem_cons.mpr ⟨lw_p88, List.forall_mem_cons.mpr ⟨lw_p89, List.forall_mem_cons.mpr ⟨lw_p90, List.forall_mem_cons.mpr ⟨lw_p91, List.forall_mem_cons.mpr ⟨lw_p92, List.forall_mem_cons.mpr ⟨lw_p93, List.forall_mem_cons.mpr ⟨lw_p94, List.forall_mem_cons.mpr ⟨lw_p95, fun _ h => absurd h List.not_mem_nil⟩⟩⟩⟩⟩⟩⟩⟩⟩⟩⟩⟩⟩⟩⟩⟩
theorem lw_p96 : lw_okq (⟨"TurnNetModel", "channels", "()I"⟩, 58) := ⟨⟨by decide +kernel, by decide +kernel⟩, List.mem_of_getElem? (i := 1137) (by decide +kernel), List.mem_of_getElem? (i := 1540) (by decide +kernel), List.mem_of_getElem? (i := 1541) (by decide +kernel)⟩
theorem lw_p97 : lw_okq (⟨"TurnNetModel", "roundOf", "(I)I"⟩, 58) := ⟨⟨by decide +kernel, by decide +kernel⟩, List.mem_of_getElem? (i := 1137) (by decide +kernel), List.mem_of_getElem? (i := 1544) (by decide +kernel), List.mem_of_getElem? (i := 1545) (by decide +kernel)⟩
theorem lw_p98 : lw_okq (⟨"TurnNetModel", "layGoal", "(I)V"⟩, 58) := ⟨⟨by decide +kernel, by decide +kernel⟩, List.mem_of_getElem? (i := 1137) (by decide +kernel), List.mem_of_getElem? (i := 1557) (by decide +kernel), List.mem_of_getElem? (i := 1558) (by decide +kernel)⟩
theorem lw_p99 : lw_okq (⟨"TurnNetModel", "isOpen", "(II)Z"⟩, 58) := ⟨⟨by decide +kernel, by decide +kernel⟩, List.mem_of_getElem? (i := 1137) (by decide +kernel), List.mem_of_getElem? (i := 1565) (by decide +kernel), List.mem_of_getElem? (i := 1566) (by decide +kernel)⟩
theorem lw_p100 : lw_okq (⟨"TurnNetModel", "isUp", "(I)Z"⟩, 58) := ⟨⟨by decide +kernel, by decide +kernel⟩, List.mem_of_getElem? (i := 1137) (by decide +kernel), List.mem_of_getElem? (i := 1569) (by decide +kernel), List.mem_of_getElem? (i := 1570) (by decide +kernel)⟩
theorem lw_p101 : lw_okq (⟨"TurnNetModel", "lengthTo", "(II)I"⟩, 58) := ⟨⟨by decide +kernel, by decide +kernel⟩, List.mem_of_getElem? (i := 1137) (by decide +kernel), List.mem_of_getElem? (i := 1576) (by decide +kernel), List.mem_of_getElem? (i := 1577) (by decide +kernel)⟩
theorem lw_p102 : lw_okq (⟨"TurnNetModel", "layOnward", "(I)V"⟩, 58) := ⟨⟨by decide +kernel, by decide +kernel⟩, List.mem_of_getElem? (i := 1137) (by decide +kernel), List.mem_of_getElem? (i := 1588) (by decide +kernel), List.mem_of_getElem? (i := 1589) (by decide +kernel)⟩
theorem lw_p103 : lw_okq (⟨"TurnNetModel", "isNext", "(III)Z"⟩, 58) := ⟨⟨by decide +kernel, by decide +kernel⟩, List.mem_of_getElem? (i := 1137) (by decide +kernel), List.mem_of_getElem? (i := 1592) (by decide +kernel), List.mem_of_getElem? (i := 1593) (by decide +kernel)⟩
theorem lw_p104 : lw_okq (⟨"TurnNetModel", "layCome", "(II)V"⟩, 58) := ⟨⟨by decide +kernel, by decide +kernel⟩, List.mem_of_getElem? (i := 1137) (by decide +kernel), List.mem_of_getElem? (i := 1600) (by decide +kernel), List.mem_of_getElem? (i := 1601) (by decide +kernel)⟩
theorem lw_p105 : lw_okq (⟨"TurnNetModel", "layTable", "()V"⟩, 58) := ⟨⟨by decide +kernel, by decide +kernel⟩, List.mem_of_getElem? (i := 1137) (by decide +kernel), List.mem_of_getElem? (i := 1608) (by decide +kernel), List.mem_of_getElem? (i := 1609) (by decide +kernel)⟩
theorem lw_p106 : lw_okq (⟨"TurnNetModel", "layGoals", "()V"⟩, 58) := ⟨⟨by decide +kernel, by decide +kernel⟩, List.mem_of_getElem? (i := 1137) (by decide +kernel), List.mem_of_getElem? (i := 1612) (by decide +kernel), List.mem_of_getElem? (i := 1613) (by decide +kernel)⟩
theorem lw_p107 : lw_okq (⟨"TurnNetModel", "leastUsed", "(III)I"⟩, 58) := ⟨⟨by decide +kernel, by decide +kernel⟩, List.mem_of_getElem? (i := 1137) (by decide +kernel), List.mem_of_getElem? (i := 1616) (by decide +kernel), List.mem_of_getElem? (i := 1617) (by decide +kernel)⟩
theorem lw_p108 : lw_okq (⟨"TurnNetModel", "pathAt", "(III)I"⟩, 58) := ⟨⟨by decide +kernel, by decide +kernel⟩, List.mem_of_getElem? (i := 1137) (by decide +kernel), List.mem_of_getElem? (i := 1624) (by decide +kernel), List.mem_of_getElem? (i := 1625) (by decide +kernel)⟩
theorem lw_p109 : lw_okq (⟨"TurnNetModel", "layLoads", "()V"⟩, 58) := ⟨⟨by decide +kernel, by decide +kernel⟩, List.mem_of_getElem? (i := 1137) (by decide +kernel), List.mem_of_getElem? (i := 1632) (by decide +kernel), List.mem_of_getElem? (i := 1633) (by decide +kernel)⟩
theorem lw_p110 : lw_okq (⟨"TurnNetModel", "heaviestNow", "()I"⟩, 58) := ⟨⟨by decide +kernel, by decide +kernel⟩, List.mem_of_getElem? (i := 1137) (by decide +kernel), List.mem_of_getElem? (i := 1640) (by decide +kernel), List.mem_of_getElem? (i := 1641) (by decide +kernel)⟩
theorem lw_p111 : lw_okq (⟨"TurnNetModel", "layPairs", "()V"⟩, 58) := ⟨⟨by decide +kernel, by decide +kernel⟩, List.mem_of_getElem? (i := 1137) (by decide +kernel), List.mem_of_getElem? (i := 1648) (by decide +kernel), List.mem_of_getElem? (i := 1649) (by decide +kernel)⟩
def lw_privs_7 : List (MethodName × Nat) := [(⟨"TurnNetModel", "channels", "()I"⟩, 58), (⟨"TurnNetModel", "roundOf", "(I)I"⟩, 58), (⟨"TurnNetModel", "layGoal", "(I)V"⟩, 58), (⟨"TurnNetModel", "isOpen", "(II)Z"⟩, 58), (⟨"TurnNetModel", "isUp", "(I)Z"⟩, 58), (⟨"TurnNetModel", "lengthTo", "(II)I"⟩, 58), (⟨"TurnNetModel", "layOnward", "(I)V"⟩, 58), (⟨"TurnNetModel", "isNext", "(III)Z"⟩, 58), (⟨"TurnNetModel", "layCome", "(II)V"⟩, 58), (⟨"TurnNetModel", "layTable", "()V"⟩, 58), (⟨"TurnNetModel", "layGoals", "()V"⟩, 58), (⟨"TurnNetModel", "leastUsed", "(III)I"⟩, 58), (⟨"TurnNetModel", "pathAt", "(III)I"⟩, 58), (⟨"TurnNetModel", "layLoads", "()V"⟩, 58), (⟨"TurnNetModel", "heaviestNow", "()I"⟩, 58), (⟨"TurnNetModel", "layPairs", "()V"⟩, 58)]
theorem lw_r7 : ∀ q ∈ lw_privs_7, lw_okq q := List.forall_mem_cons.mpr ⟨lw_p96, List.forall_mem_cons.mpr ⟨lw_p97, List.forall_mem_cons.mpr ⟨lw_p98, List.forall_mem_cons.mpr ⟨lw_p99, List.forall_mem_cons.mpr ⟨lw_p100, List.forall_mem_cons.mpr ⟨lw_p101, List.forall_mem_cons.mpr ⟨lw_p102, List.forall_mem_cons.mpr ⟨lw_p103, List.forall_mem_cons.mpr ⟨lw_p104, List.forall_mem_cons.mpr ⟨lw_p105, List.forall_mem_cons.mpr ⟨lw_p106, List.forall_mem_cons.mpr ⟨lw_p107, List.forall_mem_cons.mpr ⟨lw_p108, List.forall_mem_cons.mpr ⟨lw_p109, List.forall_mem_cons.mpr ⟨lw_p110, List.forall_mem_cons.mpr ⟨lw_p111, fun _ h => absurd h List.not_mem_nil⟩⟩⟩⟩⟩⟩⟩⟩⟩⟩⟩⟩⟩⟩⟩⟩
theorem lw_p112 : lw_okq (⟨"TurnNetModel", "addPair", "(II)V"⟩, 58) := ⟨⟨by decide +kernel, by decide +kernel⟩, List.mem_of_getElem? (i := 1137) (by decide +kernel), List.mem_of_getElem? (i := 1652) (by decide +kernel), List.mem_of_getElem? (i := 1653) (by decide +kernel)⟩
theorem lw_p113 : lw_okq (⟨"TurnNetModel", "rootedBy", "(II)I"⟩, 58) := ⟨⟨by decide +kernel, by decide +kernel⟩, List.mem_of_getElem? (i := 1137) (by decide +kernel), List.mem_of_getElem? (i := 1660) (by decide +kernel), List.mem_of_getElem? (i := 1661) (by decide +kernel)⟩
theorem lw_p114 : lw_okq (⟨"TurnNetModel", "putAside", "()V"⟩, 58) := ⟨⟨by decide +kernel, by decide +kernel⟩, List.mem_of_getElem? (i := 1137) (by decide +kernel), List.mem_of_getElem? (i := 1664) (by decide +kernel), List.mem_of_getElem? (i := 1665) (by decide +kernel)⟩
theorem lw_p115 : lw_okq (⟨"TurnNetModel", "takeOver", "()V"⟩, 58) := ⟨⟨by decide +kernel, by decide +kernel⟩, List.mem_of_getElem? (i := 1137) (by decide +kernel), List.mem_of_getElem? (i := 1668) (by decide +kernel), List.mem_of_getElem? (i := 1669) (by decide +kernel)⟩
theorem lw_p116 : lw_okq (⟨"TurnNetModel", "bringBack", "()V"⟩, 58) := ⟨⟨by decide +kernel, by decide +kernel⟩, List.mem_of_getElem? (i := 1137) (by decide +kernel), List.mem_of_getElem? (i := 1672) (by decide +kernel), List.mem_of_getElem? (i := 1673) (by decide +kernel)⟩
theorem lw_p117 : lw_okq (⟨"TurnNetModel", "isStanding", "(I)Z"⟩, 58) := ⟨⟨by decide +kernel, by decide +kernel⟩, List.mem_of_getElem? (i := 1137) (by decide +kernel), List.mem_of_getElem? (i := 1684) (by decide +kernel), List.mem_of_getElem? (i := 1685) (by decide +kernel)⟩
theorem lw_p118 : lw_okq (⟨"TurnNetModel", "isLink", "(I)Z"⟩, 58) := ⟨⟨by decide +kernel, by decide +kernel⟩, List.mem_of_getElem? (i := 1137) (by decide +kernel), List.mem_of_getElem? (i := 1688) (by decide +kernel), List.mem_of_getElem? (i := 1689) (by decide +kernel)⟩
theorem lw_p119 : lw_okq (⟨"TurnNetModel", "flips", "()I"⟩, 58) := ⟨⟨by decide +kernel, by decide +kernel⟩, List.mem_of_getElem? (i := 1137) (by decide +kernel), List.mem_of_getElem? (i := 1692) (by decide +kernel), List.mem_of_getElem? (i := 1693) (by decide +kernel)⟩
theorem lw_p120 : lw_okq (⟨"TurnNetModel", "plainPairs", "(I)I"⟩, 58) := ⟨⟨by decide +kernel, by decide +kernel⟩, List.mem_of_getElem? (i := 1137) (by decide +kernel), List.mem_of_getElem? (i := 1710) (by decide +kernel), List.mem_of_getElem? (i := 1711) (by decide +kernel)⟩
theorem lw_p121 : lw_okq (⟨"TurnNetModel", "pairsOf", "(I)I"⟩, 58) := ⟨⟨by decide +kernel, by decide +kernel⟩, List.mem_of_getElem? (i := 1137) (by decide +kernel), List.mem_of_getElem? (i := 1714) (by decide +kernel), List.mem_of_getElem? (i := 1715) (by decide +kernel)⟩
theorem lw_p122 : lw_okq (⟨"TurnNetModel", "oneMore", "(II)Z"⟩, 58) := ⟨⟨by decide +kernel, by decide +kernel⟩, List.mem_of_getElem? (i := 1137) (by decide +kernel), List.mem_of_getElem? (i := 1722) (by decide +kernel), List.mem_of_getElem? (i := 1723) (by decide +kernel)⟩
theorem lw_p123 : lw_okq (⟨"TurnNetModel", "planFor", "(I)I"⟩, 58) := ⟨⟨by decide +kernel, by decide +kernel⟩, List.mem_of_getElem? (i := 1137) (by decide +kernel), List.mem_of_getElem? (i := 1730) (by decide +kernel), List.mem_of_getElem? (i := 1731) (by decide +kernel)⟩
theorem lw_p124 : lw_okq (⟨"TurnNetModel", "goPhases", "(II)I"⟩, 58) := ⟨⟨by decide +kernel, by decide +kernel⟩, List.mem_of_getElem? (i := 1137) (by decide +kernel), List.mem_of_getElem? (i := 1734) (by decide +kernel), List.mem_of_getElem? (i := 1735) (by decide +kernel)⟩
theorem lw_p125 : lw_okq (⟨"TurnNetModel", "takePhase", "(I)I"⟩, 58) := ⟨⟨by decide +kernel, by decide +kernel⟩, List.mem_of_getElem? (i := 1137) (by decide +kernel), List.mem_of_getElem? (i := 1738) (by decide +kernel), List.mem_of_getElem? (i := 1739) (by decide +kernel)⟩
theorem lw_p126 : lw_okq (⟨"TurnNetModel", "isSafe", "()Z"⟩, 58) := ⟨⟨by decide +kernel, by decide +kernel⟩, List.mem_of_getElem? (i := 1137) (by decide +kernel), List.mem_of_getElem? (i := 1742) (by decide +kernel), List.mem_of_getElem? (i := 1743) (by decide +kernel)⟩
theorem lw_p127 : lw_okq (⟨"TurnNetModel", "isEither", "(II)Z"⟩, 58) := ⟨⟨by decide +kernel, by decide +kernel⟩, List.mem_of_getElem? (i := 1137) (by decide +kernel), List.mem_of_getElem? (i := 1746) (by decide +kernel), List.mem_of_getElem? (i := 1747) (by decide +kernel)⟩
def lw_privs_8 : List (MethodName × Nat) := [(⟨"TurnNetModel", "addPair", "(II)V"⟩, 58), (⟨"TurnNetModel", "rootedBy", "(II)I"⟩, 58), (⟨"TurnNetModel", "putAside", "()V"⟩, 58), (⟨"TurnNetModel", "takeOver", "()V"⟩, 58), (⟨"TurnNetModel", "bringBack", "()V"⟩, 58), (⟨"TurnNetModel", "isStanding", "(I)Z"⟩, 58), (⟨"TurnNetModel", "isLink", "(I)Z"⟩, 58), (⟨"TurnNetModel", "flips", "()I"⟩, 58), (⟨"TurnNetModel", "plainPairs", "(I)I"⟩, 58), (⟨"TurnNetModel", "pairsOf", "(I)I"⟩, 58), (⟨"TurnNetModel", "oneMore", "(II)Z"⟩, 58), (⟨"TurnNetModel", "planFor", "(I)I"⟩, 58), (⟨"TurnNetModel", "goPhases", "(II)I"⟩, 58), (⟨"TurnNetModel", "takePhase", "(I)I"⟩, 58), (⟨"TurnNetModel", "isSafe", "()Z"⟩, 58), (⟨"TurnNetModel", "isEither", "(II)Z"⟩, 58)]
theorem lw_r8 : ∀ q ∈ lw_privs_8, lw_okq q := List.forall_mem_cons.mpr ⟨lw_p112, List.forall_mem_cons.mpr ⟨lw_p113, List.forall_mem_cons.mpr ⟨lw_p114, List.forall_mem_cons.mpr ⟨lw_p115, List.forall_mem_cons.mpr ⟨lw_p116, List.forall_mem_cons.mpr ⟨lw_p117, List.forall_mem_cons.mpr ⟨lw_p118, List.forall_mem_cons.mpr ⟨lw_p119, List.forall_mem_cons.mpr ⟨lw_p120, List.forall_mem_cons.mpr ⟨lw_p121, List.forall_mem_cons.mpr ⟨lw_p122, List.forall_mem_cons.mpr ⟨lw_p123, List.forall_mem_cons.mpr ⟨lw_p124, List.forall_mem_cons.mpr ⟨lw_p125, List.forall_mem_cons.mpr ⟨lw_p126, List.forall_mem_cons.mpr ⟨lw_p127, fun _ h => absurd h List.not_mem_nil⟩⟩⟩⟩⟩⟩⟩⟩⟩⟩⟩⟩⟩⟩⟩⟩
theorem lw_p128 : lw_okq (⟨"TurnNetModel", "hasRing", "()Z"⟩, 58) := ⟨⟨by decide +kernel, by decide +kernel⟩, List.mem_of_getElem? (i := 1137) (by decide +kernel), List.mem_of_getElem? (i := 1750) (by decide +kernel), List.mem_of_getElem? (i := 1751) (by decide +kernel)⟩
theorem lw_p129 : lw_okq (⟨"TurnNetModel", "turnTaken", "()V"⟩, 58) := ⟨⟨by decide +kernel, by decide +kernel⟩, List.mem_of_getElem? (i := 1137) (by decide +kernel), List.mem_of_getElem? (i := 1754) (by decide +kernel), List.mem_of_getElem? (i := 1755) (by decide +kernel)⟩
theorem lw_p130 : lw_okq (⟨"TurnNetModel", "goSteps", "(I)I"⟩, 58) := ⟨⟨by decide +kernel, by decide +kernel⟩, List.mem_of_getElem? (i := 1137) (by decide +kernel), List.mem_of_getElem? (i := 1758) (by decide +kernel), List.mem_of_getElem? (i := 1759) (by decide +kernel)⟩
theorem lw_p131 : lw_okq (⟨"TurnNetModel", "goStep", "()I"⟩, 58) := ⟨⟨by decide +kernel, by decide +kernel⟩, List.mem_of_getElem? (i := 1137) (by decide +kernel), List.mem_of_getElem? (i := 1762) (by decide +kernel), List.mem_of_getElem? (i := 1763) (by decide +kernel)⟩
theorem lw_p132 : lw_okq (⟨"TurnNetModel", "goPacket", "(I)Z"⟩, 58) := ⟨⟨by decide +kernel, by decide +kernel⟩, List.mem_of_getElem? (i := 1137) (by decide +kernel), List.mem_of_getElem? (i := 1766) (by decide +kernel), List.mem_of_getElem? (i := 1767) (by decide +kernel)⟩
theorem lw_p133 : lw_okq (⟨"TurnNetModel", "wayOf", "(I)I"⟩, 58) := ⟨⟨by decide +kernel, by decide +kernel⟩, List.mem_of_getElem? (i := 1137) (by decide +kernel), List.mem_of_getElem? (i := 1770) (by decide +kernel), List.mem_of_getElem? (i := 1771) (by decide +kernel)⟩
theorem lw_p134 : lw_okq (⟨"TurnNetModel", "cameBy", "(I)I"⟩, 58) := ⟨⟨by decide +kernel, by decide +kernel⟩, List.mem_of_getElem? (i := 1137) (by decide +kernel), List.mem_of_getElem? (i := 1774) (by decide +kernel), List.mem_of_getElem? (i := 1775) (by decide +kernel)⟩
theorem lw_p135 : lw_okq (⟨"TurnNetModel", "keepAct", "()V"⟩, 58) := ⟨⟨by decide +kernel, by decide +kernel⟩, List.mem_of_getElem? (i := 1137) (by decide +kernel), List.mem_of_getElem? (i := 1786) (by decide +kernel), List.mem_of_getElem? (i := 1787) (by decide +kernel)⟩
theorem lw_p136 : lw_okq (⟨"TurnNetModel", "standing", "()I"⟩, 58) := ⟨⟨by decide +kernel, by decide +kernel⟩, List.mem_of_getElem? (i := 1137) (by decide +kernel), List.mem_of_getElem? (i := 1790) (by decide +kernel), List.mem_of_getElem? (i := 1791) (by decide +kernel)⟩
theorem lw_p137 : lw_okq (⟨"TurnNetModel", "canSend", "(II)Z"⟩, 58) := ⟨⟨by decide +kernel, by decide +kernel⟩, List.mem_of_getElem? (i := 1137) (by decide +kernel), List.mem_of_getElem? (i := 1814) (by decide +kernel), List.mem_of_getElem? (i := 1815) (by decide +kernel)⟩
theorem lw_p138 : lw_okq (⟨"TurnNetModel", "freePacket", "()I"⟩, 58) := ⟨⟨by decide +kernel, by decide +kernel⟩, List.mem_of_getElem? (i := 1137) (by decide +kernel), List.mem_of_getElem? (i := 1818) (by decide +kernel), List.mem_of_getElem? (i := 1819) (by decide +kernel)⟩
theorem lw_p139 : lw_okq (⟨"TurnNetModel", "goSend", "(II)I"⟩, 58) := ⟨⟨by decide +kernel, by decide +kernel⟩, List.mem_of_getElem? (i := 1137) (by decide +kernel), List.mem_of_getElem? (i := 1822) (by decide +kernel), List.mem_of_getElem? (i := 1823) (by decide +kernel)⟩
theorem lw_p140 : lw_okq (⟨"TurnNetModel", "isPacket", "(I)Z"⟩, 58) := ⟨⟨by decide +kernel, by decide +kernel⟩, List.mem_of_getElem? (i := 1137) (by decide +kernel), List.mem_of_getElem? (i := 1834) (by decide +kernel), List.mem_of_getElem? (i := 1835) (by decide +kernel)⟩
theorem lw_p141 : lw_okq (⟨"TurnNetModel", "packetsNow", "()I"⟩, 58) := ⟨⟨by decide +kernel, by decide +kernel⟩, List.mem_of_getElem? (i := 1137) (by decide +kernel), List.mem_of_getElem? (i := 1842) (by decide +kernel), List.mem_of_getElem? (i := 1843) (by decide +kernel)⟩
theorem lw_p142 : lw_okq (⟨"TurnNetModel", "gameOnce", "()V"⟩, 58) := ⟨⟨by decide +kernel, by decide +kernel⟩, List.mem_of_getElem? (i := 1137) (by decide +kernel), List.mem_of_getElem? (i := 1854) (by decide +kernel), List.mem_of_getElem? (i := 1855) (by decide +kernel)⟩
theorem lw_p143 : lw_okq (⟨"TurnNetModel", "draw", "()I"⟩, 58) := ⟨⟨by decide +kernel, by decide +kernel⟩, List.mem_of_getElem? (i := 1137) (by decide +kernel), List.mem_of_getElem? (i := 1858) (by decide +kernel), List.mem_of_getElem? (i := 1859) (by decide +kernel)⟩
def lw_privs_9 : List (MethodName × Nat) := [(⟨"TurnNetModel", "hasRing", "()Z"⟩, 58), (⟨"TurnNetModel", "turnTaken", "()V"⟩, 58), (⟨"TurnNetModel", "goSteps", "(I)I"⟩, 58), (⟨"TurnNetModel", "goStep", "()I"⟩, 58), (⟨"TurnNetModel", "goPacket", "(I)Z"⟩, 58), (⟨"TurnNetModel", "wayOf", "(I)I"⟩, 58), (⟨"TurnNetModel", "cameBy", "(I)I"⟩, 58), (⟨"TurnNetModel", "keepAct", "()V"⟩, 58), (⟨"TurnNetModel", "standing", "()I"⟩, 58), (⟨"TurnNetModel", "canSend", "(II)Z"⟩, 58), (⟨"TurnNetModel", "freePacket", "()I"⟩, 58), (⟨"TurnNetModel", "goSend", "(II)I"⟩, 58), (⟨"TurnNetModel", "isPacket", "(I)Z"⟩, 58), (⟨"TurnNetModel", "packetsNow", "()I"⟩, 58), (⟨"TurnNetModel", "gameOnce", "()V"⟩, 58), (⟨"TurnNetModel", "draw", "()I"⟩, 58)]
theorem lw_r9 : ∀ q ∈ lw_privs_9, lw_okq q := List.forall_mem_cons.mpr ⟨lw_p128, List.forall_mem_cons.mpr ⟨lw_p129, List.forall_mem_cons.mpr ⟨lw_p130, List.forall_mem_cons.mpr ⟨lw_p131, List.forall_mem_cons.mpr ⟨lw_p132, List.forall_mem_cons.mpr ⟨lw_p133, List.forall_mem_cons.mpr ⟨lw_p134, List.forall_mem_cons.mpr ⟨lw_p135, List.forall_mem_cons.mpr ⟨lw_p136, List.forall_mem_cons.mpr ⟨lw_p137, List.forall_mem_cons.mpr ⟨lw_p138, List.forall_mem_cons.mpr ⟨lw_p139, List.forall_mem_cons.mpr ⟨lw_p140, List.forall_mem_cons.mpr ⟨lw_p141, List.forall_mem_cons.mpr ⟨lw_p142, List.forall_mem_cons.mpr ⟨lw_p143, fun _ h => absurd h List.not_mem_nil⟩⟩⟩⟩⟩⟩⟩⟩⟩⟩⟩⟩⟩⟩⟩⟩
theorem lw_p144 : lw_okq (⟨"TurnNetModel", "aboveOf", "(I)I"⟩, 58) := ⟨⟨by decide +kernel, by decide +kernel⟩, List.mem_of_getElem? (i := 1137) (by decide +kernel), List.mem_of_getElem? (i := 1866) (by decide +kernel), List.mem_of_getElem? (i := 1867) (by decide +kernel)⟩
theorem lw_p145 : lw_okq (⟨"TurnNetModel", "packetsAt", "(I)I"⟩, 58) := ⟨⟨by decide +kernel, by decide +kernel⟩, List.mem_of_getElem? (i := 1137) (by decide +kernel), List.mem_of_getElem? (i := 1870) (by decide +kernel), List.mem_of_getElem? (i := 1871) (by decide +kernel)⟩
theorem lw_p146 : lw_okq (⟨"TurnNetModel", "swapAll", "()V"⟩, 58) := ⟨⟨by decide +kernel, by decide +kernel⟩, List.mem_of_getElem? (i := 1137) (by decide +kernel), List.mem_of_getElem? (i := 1882) (by decide +kernel), List.mem_of_getElem? (i := 1883) (by decide +kernel)⟩
def lw_privs_10 : List (MethodName × Nat) := [(⟨"TurnNetModel", "aboveOf", "(I)I"⟩, 58), (⟨"TurnNetModel", "packetsAt", "(I)I"⟩, 58), (⟨"TurnNetModel", "swapAll", "()V"⟩, 58)]
theorem lw_r10 : ∀ q ∈ lw_privs_10, lw_okq q := List.forall_mem_cons.mpr ⟨lw_p144, List.forall_mem_cons.mpr ⟨lw_p145, List.forall_mem_cons.mpr ⟨lw_p146, fun _ h => absurd h List.not_mem_nil⟩⟩⟩
def lw_privs : List (MethodName × Nat) := lw_privs_1 ++ (lw_privs_2 ++ (lw_privs_3 ++ (lw_privs_4 ++ (lw_privs_5 ++ (lw_privs_6 ++ (lw_privs_7 ++ (lw_privs_8 ++ (lw_privs_9 ++ (lw_privs_10)))))))))
def lw_tbl : List Cond := k2_sels lw_privs ++ tables_1
theorem lw_privs_ok : ∀ q ∈ lw_privs, lw_okq q := by
  show ∀ q ∈ lw_privs_1 ++ (lw_privs_2 ++ (lw_privs_3 ++ (lw_privs_4 ++ (lw_privs_5 ++ (lw_privs_6 ++ (lw_privs_7 ++ (lw_privs_8 ++ (lw_privs_9 ++ (lw_privs_10))))))))), lw_okq q
  exact List.forall_mem_append.mpr ⟨lw_r1, List.forall_mem_append.mpr ⟨lw_r2, List.forall_mem_append.mpr ⟨lw_r3, List.forall_mem_append.mpr ⟨lw_r4, List.forall_mem_append.mpr ⟨lw_r5, List.forall_mem_append.mpr ⟨lw_r6, List.forall_mem_append.mpr ⟨lw_r7, List.forall_mem_append.mpr ⟨lw_r8, List.forall_mem_append.mpr ⟨lw_r9, lw_r10⟩⟩⟩⟩⟩⟩⟩⟩⟩
end
section
/-! ===== BEGIN words of one list among another's, by their places ===== -/
theorem goodIn_r {big : List Cond} (ws : List Cond) (ps : List Nat) (hp : ws = ps.filterMap (fun i => big[i]?)) (h : ws.all goodWord = true) : GoodIn big ws := by
  intro w hw
  have h1 := List.all_eq_true.mp h w hw
  rw [hp] at hw
  obtain ⟨i, -, hi⟩ := List.mem_filterMap.mp hw
  have hm : w ∈ big := by first | exact List.mem_of_getElem? hi | exact List.getElem?_mem hi
  exact ⟨hm, good_of_word h1⟩
theorem goodIn_app {big a b : List Cond} (ha : GoodIn big a) (hb : GoodIn big b) : GoodIn big (a ++ b) := fun w h => (List.mem_append.mp h).elim (ha w) (hb w)
theorem goodIn_ca {big a b : List Cond} {c : Cond} (ha : GoodIn big (c :: a)) (hb : GoodIn big b) : GoodIn big (c :: (a ++ b)) := fun w h => (List.mem_cons.mp h).elim (fun e => ha w (List.mem_cons.mpr (Or.inl e))) (fun h => (List.mem_append.mp h).elim (fun h => ha w (List.mem_cons.mpr (Or.inr h))) (hb w))
theorem goodIn_sub {big ws : List Cond} (hm : ∀ w ∈ ws, w ∈ big) (h : ws.all goodWord = true) : GoodIn big ws := fun w hw => ⟨hm w hw, good_of_word (List.all_eq_true.mp h w hw)⟩
/-! ===== END ===== -/

/-! ===== BEGIN printed: names, fields, word lists, decode rows ===== -/
def RX0 : String := "TurnNet$Graph"
def TX0 : u_T := fun k => match k with
  | 0 => ("TurnNet$Graph", "net", "LTurnNet$Net;", true)
  | 1 => ("TurnNet$Graph", "hops", "[I", true)
  | 2 => ("TurnNet$Graph", "reached", "[I", true)
  | 3 => ("TurnNet$Graph", "cameBy", "[I", true)
  | _ => ("TurnNet$Graph", "flow", "[I", true)
def tyX0 : Nat → FieldType := fun k => match k with
  | 0 => .object "TurnNet$Net"
  | 1 => .array .int
  | 2 => .array .int
  | 3 => .array .int
  | _ => .array .int
abbrev wsX00 : List Cond := u_ws RX0 TX0 5
theorem nmX0 : ∀ a, a < 5 → ∀ b, b < 5 → a ≠ b → (TX0 a).2.1 ≠ (TX0 b).2.1 := by decide +kernel
theorem tyX0_ok : ∀ k, k < 5 → parseFieldDescriptor (TX0 k).2.2.1 = some (tyX0 k) := by decide +kernel
abbrev cX0_init : ByteArray := prog_2_method_1_code
def yX0_init : MethodName := ⟨RX0, "<init>", "(LTurnNet$Net;)V"⟩
abbrev cX0_see : ByteArray := prog_2_method_2_code
def yX0_see : MethodName := ⟨RX0, "see", "(I)V"⟩
abbrev cX0_hopsOf : ByteArray := prog_2_method_3_code
def yX0_hopsOf : MethodName := ⟨RX0, "hopsOf", "(II)I"⟩
abbrev cX0_pairsWithout : ByteArray := prog_2_method_4_code
def yX0_pairsWithout : MethodName := ⟨RX0, "pairsWithout", "()I"⟩
abbrev cX0_spread : ByteArray := prog_2_method_5_code
def yX0_spread : MethodName := ⟨RX0, "spread", "(LTurnNet$Net;II[II)V"⟩
abbrev cX0_findPivots : ByteArray := prog_2_method_6_code
def yX0_findPivots : MethodName := ⟨RX0, "findPivots", "(I)I"⟩
abbrev cX0_parts : ByteArray := prog_2_method_7_code
def yX0_parts : MethodName := ⟨RX0, "parts", "(II)Z"⟩
abbrev cX0_countApart : ByteArray := prog_2_method_8_code
def yX0_countApart : MethodName := ⟨RX0, "countApart", "(III)I"⟩
abbrev cX0_findRow : ByteArray := prog_2_method_9_code
def yX0_findRow : MethodName := ⟨RX0, "findRow", "(III)Z"⟩
abbrev cX0_hasSpace : ByteArray := prog_2_method_10_code
def yX0_hasSpace : MethodName := ⟨RX0, "hasSpace", "(II)Z"⟩
abbrev cX0_useRow : ByteArray := prog_2_method_11_code
def yX0_useRow : MethodName := ⟨RX0, "useRow", "(II)V"⟩
def RX1 : String := "TurnNet$History"
def TX1 : u_T := fun k => match k with
  | 0 => ("TurnNet$History", "slots", "[LTurnNet$State;", true)
  | 1 => ("TurnNet$History", "oldest", "I", false)
  | 2 => ("TurnNet$History", "done", "I", false)
  | _ => ("TurnNet$History", "undone", "I", false)
def tyX1 : Nat → FieldType := fun k => match k with
  | 0 => .array (.object "TurnNet$State")
  | 1 => .int
  | 2 => .int
  | _ => .int
abbrev wsX10 : List Cond := u_ws RX1 TX1 4
theorem nmX1 : ∀ a, a < 4 → ∀ b, b < 4 → a ≠ b → (TX1 a).2.1 ≠ (TX1 b).2.1 := by decide +kernel
theorem tyX1_ok : ∀ k, k < 4 → parseFieldDescriptor (TX1 k).2.2.1 = some (tyX1 k) := by decide +kernel
abbrev cX1_init : ByteArray := prog_3_method_1_code
def yX1_init : MethodName := ⟨RX1, "<init>", "()V"⟩
abbrev cX1_clear : ByteArray := prog_3_method_2_code
def yX1_clear : MethodName := ⟨RX1, "clear", "()V"⟩
abbrev cX1_keep : ByteArray := prog_3_method_3_code
def yX1_keep : MethodName := ⟨RX1, "keep", "(LTurnNet$State;)V"⟩
abbrev cX1_stepBack : ByteArray := prog_3_method_4_code
def yX1_stepBack : MethodName := ⟨RX1, "stepBack", "(LTurnNet$State;)LTurnNet$State;"⟩
abbrev cX1_stepOn : ByteArray := prog_3_method_5_code
def yX1_stepOn : MethodName := ⟨RX1, "stepOn", "(LTurnNet$State;)LTurnNet$State;"⟩
abbrev cX1_slotOf : ByteArray := prog_3_method_6_code
def yX1_slotOf : MethodName := ⟨RX1, "slotOf", "(I)I"⟩
abbrev cX1_exchange : ByteArray := prog_3_method_7_code
def yX1_exchange : MethodName := ⟨RX1, "exchange", "(ILTurnNet$State;)LTurnNet$State;"⟩
def RX2 : String := "TurnNet$Net"
def TX2 : u_T := fun k => match k with
  | 0 => ("TurnNet$Net", "switches", "I", false)
  | 1 => ("TurnNet$Net", "links", "I", false)
  | 2 => ("TurnNet$Net", "root", "I", false)
  | 3 => ("TurnNet$Net", "room", "I", false)
  | 4 => ("TurnNet$Net", "units", "I", false)
  | 5 => ("TurnNet$Net", "codeSize", "I", false)
  | 6 => ("TurnNet$Net", "begin", "[I", true)
  | 7 => ("TurnNet$Net", "finish", "[I", true)
  | 8 => ("TurnNet$Net", "outFrom", "[I", true)
  | 9 => ("TurnNet$Net", "outList", "[I", true)
  | 10 => ("TurnNet$Net", "operations", "[I", true)
  | _ => ("TurnNet$Net", "operands", "[I", true)
def tyX2 : Nat → FieldType := fun k => match k with
  | 0 => .int
  | 1 => .int
  | 2 => .int
  | 3 => .int
  | 4 => .int
  | 5 => .int
  | 6 => .array .int
  | 7 => .array .int
  | 8 => .array .int
  | 9 => .array .int
  | 10 => .array .int
  | _ => .array .int
abbrev wsX20 : List Cond := u_ws RX2 TX2 12
theorem nmX2 : ∀ a, a < 12 → ∀ b, b < 12 → a ≠ b → (TX2 a).2.1 ≠ (TX2 b).2.1 := by decide +kernel
theorem tyX2_ok : ∀ k, k < 12 → parseFieldDescriptor (TX2 k).2.2.1 = some (tyX2 k) := by decide +kernel
abbrev cX2_init : ByteArray := prog_4_method_1_code
def yX2_init : MethodName := ⟨RX2, "<init>", "()V"⟩
abbrev cX2_clear : ByteArray := prog_4_method_2_code
def yX2_clear : MethodName := ⟨RX2, "clear", "()V"⟩
abbrev cX2_copyFrom : ByteArray := prog_4_method_3_code
def yX2_copyFrom : MethodName := ⟨RX2, "copyFrom", "(LTurnNet$Net;)V"⟩
abbrev cX2_listChannels : ByteArray := prog_4_method_4_code
def yX2_listChannels : MethodName := ⟨RX2, "listChannels", "()V"⟩
abbrev cX2_addLink : ByteArray := prog_4_method_5_code
def yX2_addLink : MethodName := ⟨RX2, "addLink", "(II)V"⟩
abbrev cX2_joins : ByteArray := prog_4_method_6_code
def yX2_joins : MethodName := ⟨RX2, "joins", "(II)Z"⟩
abbrev cX2_addCode : ByteArray := prog_4_method_7_code
def yX2_addCode : MethodName := ⟨RX2, "addCode", "(II)V"⟩
abbrev cX2_channels : ByteArray := prog_4_method_8_code
def yX2_channels : MethodName := ⟨RX2, "channels", "()I"⟩
abbrev cX2_allLinks : ByteArray := prog_4_method_9_code
def yX2_allLinks : MethodName := ⟨RX2, "allLinks", "()I"⟩
abbrev cX2_hasSwitch : ByteArray := prog_4_method_10_code
def yX2_hasSwitch : MethodName := ⟨RX2, "hasSwitch", "(I)Z"⟩
abbrev cX2_hasLink : ByteArray := prog_4_method_11_code
def yX2_hasLink : MethodName := ⟨RX2, "hasLink", "(I)Z"⟩
abbrev cX2_hasChannel : ByteArray := prog_4_method_12_code
def yX2_hasChannel : MethodName := ⟨RX2, "hasChannel", "(I)Z"⟩
abbrev cX2_upEnd : ByteArray := prog_4_method_13_code
def yX2_upEnd : MethodName := ⟨RX2, "upEnd", "(II)I"⟩
abbrev cX2_isUp : ByteArray := prog_4_method_14_code
def yX2_isUp : MethodName := ⟨RX2, "isUp", "(II)Z"⟩
def RX3 : String := "TurnNet$Order"
def TX3 : u_T := fun k => match k with
  | 0 => ("TurnNet$Order", "net", "LTurnNet$Net;", true)
  | 1 => ("TurnNet$Order", "far", "[I", true)
  | 2 => ("TurnNet$Order", "degree", "[I", true)
  | 3 => ("TurnNet$Order", "rank", "[I", true)
  | _ => ("TurnNet$Order", "stack", "[I", true)
def tyX3 : Nat → FieldType := fun k => match k with
  | 0 => .object "TurnNet$Net"
  | 1 => .array .int
  | 2 => .array .int
  | 3 => .array .int
  | _ => .array .int
abbrev wsX30 : List Cond := u_ws RX3 TX3 5
theorem nmX3 : ∀ a, a < 5 → ∀ b, b < 5 → a ≠ b → (TX3 a).2.1 ≠ (TX3 b).2.1 := by decide +kernel
theorem tyX3_ok : ∀ k, k < 5 → parseFieldDescriptor (TX3 k).2.2.1 = some (tyX3 k) := by decide +kernel
abbrev cX3_init : ByteArray := prog_5_method_1_code
def yX3_init : MethodName := ⟨RX3, "<init>", "(LTurnNet$Net;)V"⟩
abbrev cX3_rate : ByteArray := prog_5_method_2_code
def yX3_rate : MethodName := ⟨RX3, "rate", "(II)V"⟩
abbrev cX3_countLinks : ByteArray := prog_5_method_3_code
def yX3_countLinks : MethodName := ⟨RX3, "countLinks", "(I)V"⟩
abbrev cX3_evaluate : ByteArray := prog_5_method_4_code
def yX3_evaluate : MethodName := ⟨RX3, "evaluate", "(I)I"⟩
abbrev cX3_leaf : ByteArray := prog_5_method_5_code
def yX3_leaf : MethodName := ⟨RX3, "leaf", "(III)I"⟩
abbrev cX3_combine : ByteArray := prog_5_method_6_code
def yX3_combine : MethodName := ⟨RX3, "combine", "(III)I"⟩
abbrev cX3_isAbove : ByteArray := prog_5_method_7_code
def yX3_isAbove : MethodName := ⟨RX3, "isAbove", "(II)Z"⟩
abbrev cX3_countAbove : ByteArray := prog_5_method_8_code
def yX3_countAbove : MethodName := ⟨RX3, "countAbove", "(I)I"⟩
abbrev cX3_upEnds : ByteArray := prog_5_method_9_code
def yX3_upEnds : MethodName := ⟨RX3, "upEnds", "()I"⟩
def RX4 : String := "TurnNet$Planner"
def TX4 : u_T := fun k => match k with
  | 0 => ("TurnNet$Planner", "net", "LTurnNet$Net;", true)
  | 1 => ("TurnNet$Planner", "turns", "LTurnNet$Turns;", true)
  | 2 => ("TurnNet$Planner", "taken", "[I", true)
  | 3 => ("TurnNet$Planner", "flips", "I", false)
  | _ => ("TurnNet$Planner", "phases", "I", false)
def tyX4 : Nat → FieldType := fun k => match k with
  | 0 => .object "TurnNet$Net"
  | 1 => .object "TurnNet$Turns"
  | 2 => .array .int
  | 3 => .int
  | _ => .int
abbrev wsX40 : List Cond := u_ws RX4 TX4 5
theorem nmX4 : ∀ a, a < 5 → ∀ b, b < 5 → a ≠ b → (TX4 a).2.1 ≠ (TX4 b).2.1 := by decide +kernel
theorem tyX4_ok : ∀ k, k < 5 → parseFieldDescriptor (TX4 k).2.2.1 = some (tyX4 k) := by decide +kernel
abbrev cX4_init : ByteArray := prog_6_method_1_code
def yX4_init : MethodName := ⟨RX4, "<init>", "(LTurnNet$Net;LTurnNet$Turns;)V"⟩
abbrev cX4_lay : ByteArray := prog_6_method_2_code
def yX4_lay : MethodName := ⟨RX4, "lay", "(III)V"⟩
abbrev cX4_takeLinks : ByteArray := prog_6_method_3_code
def yX4_takeLinks : MethodName := ⟨RX4, "takeLinks", "(III)I"⟩
abbrev cX4_linksOf : ByteArray := prog_6_method_4_code
def yX4_linksOf : MethodName := ⟨RX4, "linksOf", "(I)I"⟩
abbrev cX4_phaseOf : ByteArray := prog_6_method_5_code
def yX4_phaseOf : MethodName := ⟨RX4, "phaseOf", "(I)I"⟩
def RX5 : String := "TurnNet$Reader"
def TX5 : u_T := fun k => match k with
  | 0 => ("TurnNet$Reader", "tape", "[B", true)
  | 1 => ("TurnNet$Reader", "size", "I", false)
  | 2 => ("TurnNet$Reader", "draft", "LTurnNet$Net;", true)
  | 3 => ("TurnNet$Reader", "fault", "I", false)
  | 4 => ("TurnNet$Reader", "faultPlace", "I", false)
  | 5 => ("TurnNet$Reader", "ahead", "I", false)
  | 6 => ("TurnNet$Reader", "place", "I", false)
  | 7 => ("TurnNet$Reader", "kind", "I", false)
  | 8 => ("TurnNet$Reader", "value", "I", false)
  | 9 => ("TurnNet$Reader", "rootTold", "Z", false)
  | 10 => ("TurnNet$Reader", "rankTold", "Z", false)
  | _ => ("TurnNet$Reader", "roomTold", "Z", false)
def tyX5 : Nat → FieldType := fun k => match k with
  | 0 => .array .byte
  | 1 => .int
  | 2 => .object "TurnNet$Net"
  | 3 => .int
  | 4 => .int
  | 5 => .int
  | 6 => .int
  | 7 => .int
  | 8 => .int
  | 9 => .boolean
  | 10 => .boolean
  | _ => .boolean
abbrev wsX50 : List Cond := u_ws RX5 TX5 12
theorem nmX5 : ∀ a, a < 12 → ∀ b, b < 12 → a ≠ b → (TX5 a).2.1 ≠ (TX5 b).2.1 := by decide +kernel
theorem tyX5_ok : ∀ k, k < 12 → parseFieldDescriptor (TX5 k).2.2.1 = some (tyX5 k) := by decide +kernel
abbrev cX5_init : ByteArray := prog_7_method_1_code
def yX5_init : MethodName := ⟨RX5, "<init>", "()V"⟩
abbrev cX5_append : ByteArray := prog_7_method_2_code
def yX5_append : MethodName := ⟨RX5, "append", "(I)V"⟩
abbrev cX5_readText : ByteArray := prog_7_method_3_code
def yX5_readText : MethodName := ⟨RX5, "readText", "()Z"⟩
abbrev cX5_fail : ByteArray := prog_7_method_4_code
def yX5_fail : MethodName := ⟨RX5, "fail", "(I)Z"⟩
abbrev cX5_readSwitches : ByteArray := prog_7_method_5_code
def yX5_readSwitches : MethodName := ⟨RX5, "readSwitches", "()Z"⟩
abbrev cX5_readLine : ByteArray := prog_7_method_6_code
def yX5_readLine : MethodName := ⟨RX5, "readLine", "()Z"⟩
abbrev cX5_readLink : ByteArray := prog_7_method_7_code
def yX5_readLink : MethodName := ⟨RX5, "readLink", "()Z"⟩
abbrev cX5_closeLine : ByteArray := prog_7_method_8_code
def yX5_closeLine : MethodName := ⟨RX5, "closeLine", "()Z"⟩
abbrev cX5_readNumber : ByteArray := prog_7_method_9_code
def yX5_readNumber : MethodName := ⟨RX5, "readNumber", "(II)Z"⟩
abbrev cX5_readSign : ByteArray := prog_7_method_10_code
def yX5_readSign : MethodName := ⟨RX5, "readSign", "(I)Z"⟩
abbrev cX5_readSum : ByteArray := prog_7_method_11_code
def yX5_readSum : MethodName := ⟨RX5, "readSum", "(I)Z"⟩
abbrev cX5_readProduct : ByteArray := prog_7_method_12_code
def yX5_readProduct : MethodName := ⟨RX5, "readProduct", "(I)Z"⟩
abbrev cX5_readUnit : ByteArray := prog_7_method_13_code
def yX5_readUnit : MethodName := ⟨RX5, "readUnit", "(I)Z"⟩
abbrev cX5_unitKind : ByteArray := prog_7_method_14_code
def yX5_unitKind : MethodName := ⟨RX5, "unitKind", "()I"⟩
abbrev cX5_isWord : ByteArray := prog_7_method_15_code
def yX5_isWord : MethodName := ⟨RX5, "isWord", "(Ljava/lang/String;)Z"⟩
abbrev cX5_advance : ByteArray := prog_7_method_16_code
def yX5_advance : MethodName := ⟨RX5, "advance", "()V"⟩
def RX6 : String := "TurnNet$Routes"
def TX6 : u_T := fun k => match k with
  | 0 => ("TurnNet$Routes", "net", "LTurnNet$Net;", true)
  | 1 => ("TurnNet$Routes", "up", "I", false)
  | 2 => ("TurnNet$Routes", "standing", "I", false)
  | 3 => ("TurnNet$Routes", "measured", "Z", false)
  | 4 => ("TurnNet$Routes", "tabled", "Z", false)
  | 5 => ("TurnNet$Routes", "hops", "[I", true)
  | 6 => ("TurnNet$Routes", "entries", "[I", true)
  | 7 => ("TurnNet$Routes", "uses", "[I", true)
  | 8 => ("TurnNet$Routes", "loads", "[I", true)
  | 9 => ("TurnNet$Routes", "behind", "[I", true)
  | 10 => ("TurnNet$Routes", "onward", "[J", true)
  | _ => ("TurnNet$Routes", "arriving", "[J", true)
def tyX6 : Nat → FieldType := fun k => match k with
  | 0 => .object "TurnNet$Net"
  | 1 => .int
  | 2 => .int
  | 3 => .boolean
  | 4 => .boolean
  | 5 => .array .int
  | 6 => .array .int
  | 7 => .array .int
  | 8 => .array .int
  | 9 => .array .int
  | 10 => .array .long
  | _ => .array .long
abbrev wsX60 : List Cond := u_ws RX6 TX6 12
theorem nmX6 : ∀ a, a < 12 → ∀ b, b < 12 → a ≠ b → (TX6 a).2.1 ≠ (TX6 b).2.1 := by decide +kernel
theorem tyX6_ok : ∀ k, k < 12 → parseFieldDescriptor (TX6 k).2.2.1 = some (tyX6 k) := by decide +kernel
abbrev cX6_init : ByteArray := prog_8_method_1_code
def yX6_init : MethodName := ⟨RX6, "<init>", "(LTurnNet$Net;)V"⟩
abbrev cX6_forget : ByteArray := prog_8_method_2_code
def yX6_forget : MethodName := ⟨RX6, "forget", "()V"⟩
abbrev cX6_see : ByteArray := prog_8_method_3_code
def yX6_see : MethodName := ⟨RX6, "see", "(II)V"⟩
abbrev cX6_seeTable : ByteArray := prog_8_method_4_code
def yX6_seeTable : MethodName := ⟨RX6, "seeTable", "(II)V"⟩
abbrev cX6_measure : ByteArray := prog_8_method_5_code
def yX6_measure : MethodName := ⟨RX6, "measure", "(I)V"⟩
abbrev cX6_growLevel : ByteArray := prog_8_method_6_code
def yX6_growLevel : MethodName := ⟨RX6, "growLevel", "(II)Z"⟩
abbrev cX6_reach : ByteArray := prog_8_method_7_code
def yX6_reach : MethodName := ⟨RX6, "reach", "(III)Z"⟩
abbrev cX6_stands : ByteArray := prog_8_method_8_code
def yX6_stands : MethodName := ⟨RX6, "stands", "(I)Z"⟩
abbrev cX6_placeBehind : ByteArray := prog_8_method_9_code
def yX6_placeBehind : MethodName := ⟨RX6, "placeBehind", "(I)I"⟩
abbrev cX6_hopsOf : ByteArray := prog_8_method_10_code
def yX6_hopsOf : MethodName := ⟨RX6, "hopsOf", "(II)I"⟩
abbrev cX6_pairsWithout : ByteArray := prog_8_method_11_code
def yX6_pairsWithout : MethodName := ⟨RX6, "pairsWithout", "()I"⟩
abbrev cX6_hopsTogether : ByteArray := prog_8_method_12_code
def yX6_hopsTogether : MethodName := ⟨RX6, "hopsTogether", "()I"⟩
abbrev cX6_leadsOn : ByteArray := prog_8_method_13_code
def yX6_leadsOn : MethodName := ⟨RX6, "leadsOn", "(III)Z"⟩
abbrev cX6_fillTable : ByteArray := prog_8_method_14_code
def yX6_fillTable : MethodName := ⟨RX6, "fillTable", "()V"⟩
abbrev cX6_leastUsed : ByteArray := prog_8_method_15_code
def yX6_leastUsed : MethodName := ⟨RX6, "leastUsed", "(III)I"⟩
abbrev cX6_entryOf : ByteArray := prog_8_method_16_code
def yX6_entryOf : MethodName := ⟨RX6, "entryOf", "(III)I"⟩
abbrev cX6_countLoads : ByteArray := prog_8_method_17_code
def yX6_countLoads : MethodName := ⟨RX6, "countLoads", "()V"⟩
abbrev cX6_countPath : ByteArray := prog_8_method_18_code
def yX6_countPath : MethodName := ⟨RX6, "countPath", "(II)V"⟩
abbrev cX6_entryBehind : ByteArray := prog_8_method_19_code
def yX6_entryBehind : MethodName := ⟨RX6, "entryBehind", "(II)I"⟩
abbrev cX6_channelOnPath : ByteArray := prog_8_method_20_code
def yX6_channelOnPath : MethodName := ⟨RX6, "channelOnPath", "(III)I"⟩
abbrev cX6_heaviestChannel : ByteArray := prog_8_method_21_code
def yX6_heaviestChannel : MethodName := ⟨RX6, "heaviestChannel", "()I"⟩
abbrev cX6_countWays : ByteArray := prog_8_method_22_code
def yX6_countWays : MethodName := ⟨RX6, "countWays", "(II)J"⟩
abbrev cX6_countOnward : ByteArray := prog_8_method_23_code
def yX6_countOnward : MethodName := ⟨RX6, "countOnward", "(I)V"⟩
abbrev cX6_addOnward : ByteArray := prog_8_method_24_code
def yX6_addOnward : MethodName := ⟨RX6, "addOnward", "(II)V"⟩
abbrev cX6_countArriving : ByteArray := prog_8_method_25_code
def yX6_countArriving : MethodName := ⟨RX6, "countArriving", "(II)V"⟩
abbrev cX6_passArriving : ByteArray := prog_8_method_26_code
def yX6_passArriving : MethodName := ⟨RX6, "passArriving", "(II)V"⟩
abbrev cX6_countThrough : ByteArray := prog_8_method_27_code
def yX6_countThrough : MethodName := ⟨RX6, "countThrough", "(III)J"⟩
def RX7 : String := "TurnNet$State"
def TX7 : u_T := fun k => match k with
  | 0 => ("TurnNet$State", "root", "I", false)
  | 1 => ("TurnNet$State", "up", "I", false)
  | 2 => ("TurnNet$State", "standing", "I", false)
  | 3 => ("TurnNet$State", "arrived", "I", false)
  | 4 => ("TurnNet$State", "stepsEver", "I", false)
  | 5 => ("TurnNet$State", "at", "[I", true)
  | 6 => ("TurnNet$State", "goal", "[I", true)
  | 7 => ("TurnNet$State", "came", "[I", true)
  | _ => ("TurnNet$State", "waited", "[I", true)
def tyX7 : Nat → FieldType := fun k => match k with
  | 0 => .int
  | 1 => .int
  | 2 => .int
  | 3 => .int
  | 4 => .int
  | 5 => .array .int
  | 6 => .array .int
  | 7 => .array .int
  | _ => .array .int
abbrev wsX70 : List Cond := u_ws RX7 TX7 9
theorem nmX7 : ∀ a, a < 9 → ∀ b, b < 9 → a ≠ b → (TX7 a).2.1 ≠ (TX7 b).2.1 := by decide +kernel
theorem tyX7_ok : ∀ k, k < 9 → parseFieldDescriptor (TX7 k).2.2.1 = some (tyX7 k) := by decide +kernel
abbrev cX7_init : ByteArray := prog_9_method_1_code
def yX7_init : MethodName := ⟨RX7, "<init>", "()V"⟩
abbrev cX7_begin : ByteArray := prog_9_method_2_code
def yX7_begin : MethodName := ⟨RX7, "begin", "(III)V"⟩
abbrev cX7_copyFrom : ByteArray := prog_9_method_3_code
def yX7_copyFrom : MethodName := ⟨RX7, "copyFrom", "(LTurnNet$State;)V"⟩
abbrev cX7_stands : ByteArray := prog_9_method_4_code
def yX7_stands : MethodName := ⟨RX7, "stands", "(I)Z"⟩
abbrev cX7_hasPacket : ByteArray := prog_9_method_5_code
def yX7_hasPacket : MethodName := ⟨RX7, "hasPacket", "(I)Z"⟩
abbrev cX7_freePacket : ByteArray := prog_9_method_6_code
def yX7_freePacket : MethodName := ⟨RX7, "freePacket", "()I"⟩
abbrev cX7_put : ByteArray := prog_9_method_7_code
def yX7_put : MethodName := ⟨RX7, "put", "(II)I"⟩
abbrev cX7_countPackets : ByteArray := prog_9_method_8_code
def yX7_countPackets : MethodName := ⟨RX7, "countPackets", "()I"⟩
abbrev cX7_countAt : ByteArray := prog_9_method_9_code
def yX7_countAt : MethodName := ⟨RX7, "countAt", "(I)I"⟩
abbrev cX7_countCameBy : ByteArray := prog_9_method_10_code
def yX7_countCameBy : MethodName := ⟨RX7, "countCameBy", "(I)I"⟩
def RX8 : String := "TurnNet$Traffic"
def TX8 : u_T := fun k => match k with
  | 0 => ("TurnNet$Traffic", "net", "LTurnNet$Net;", true)
  | 1 => ("TurnNet$Traffic", "moves", "I", false)
  | _ => ("TurnNet$Traffic", "waits", "I", false)
def tyX8 : Nat → FieldType := fun k => match k with
  | 0 => .object "TurnNet$Net"
  | 1 => .int
  | _ => .int
abbrev wsX80 : List Cond := u_ws RX8 TX8 3
theorem nmX8 : ∀ a, a < 3 → ∀ b, b < 3 → a ≠ b → (TX8 a).2.1 ≠ (TX8 b).2.1 := by decide +kernel
theorem tyX8_ok : ∀ k, k < 3 → parseFieldDescriptor (TX8 k).2.2.1 = some (tyX8 k) := by decide +kernel
abbrev cX8_init : ByteArray := prog_10_method_1_code
def yX8_init : MethodName := ⟨RX8, "<init>", "(LTurnNet$Net;)V"⟩
abbrev cX8_startCount : ByteArray := prog_10_method_2_code
def yX8_startCount : MethodName := ⟨RX8, "startCount", "()V"⟩
abbrev cX8_goStep : ByteArray := prog_10_method_3_code
def yX8_goStep : MethodName := ⟨RX8, "goStep", "(LTurnNet$State;LTurnNet$Routes;)V"⟩
abbrev cX8_goOn : ByteArray := prog_10_method_4_code
def yX8_goOn : MethodName := ⟨RX8, "goOn", "(LTurnNet$State;LTurnNet$Routes;I)V"⟩
abbrev cX8_nextChannel : ByteArray := prog_10_method_5_code
def yX8_nextChannel : MethodName := ⟨RX8, "nextChannel", "(LTurnNet$State;LTurnNet$Routes;I)I"⟩
abbrev cX8_play : ByteArray := prog_10_method_6_code
def yX8_play : MethodName := ⟨RX8, "play", "(LTurnNet$State;LTurnNet$Routes;II)I"⟩
abbrev cX8_draw : ByteArray := prog_10_method_7_code
def yX8_draw : MethodName := ⟨RX8, "draw", "(I)I"⟩
def RX9 : String := "TurnNet$Turns"
def TX9 : u_T := fun k => match k with
  | 0 => ("TurnNet$Turns", "net", "LTurnNet$Net;", true)
  | 1 => ("TurnNet$Turns", "leaving", "[J", true)
  | _ => ("TurnNet$Turns", "onto", "[J", true)
def tyX9 : Nat → FieldType := fun k => match k with
  | 0 => .object "TurnNet$Net"
  | 1 => .array .long
  | _ => .array .long
abbrev wsX90 : List Cond := u_ws RX9 TX9 3
theorem nmX9 : ∀ a, a < 3 → ∀ b, b < 3 → a ≠ b → (TX9 a).2.1 ≠ (TX9 b).2.1 := by decide +kernel
theorem tyX9_ok : ∀ k, k < 3 → parseFieldDescriptor (TX9 k).2.2.1 = some (tyX9 k) := by decide +kernel
abbrev cX9_init : ByteArray := prog_11_method_1_code
def yX9_init : MethodName := ⟨RX9, "<init>", "(LTurnNet$Net;)V"⟩
abbrev cX9_take : ByteArray := prog_11_method_2_code
def yX9_take : MethodName := ⟨RX9, "take", "(III)V"⟩
abbrev cX9_upChannels : ByteArray := prog_11_method_3_code
def yX9_upChannels : MethodName := ⟨RX9, "upChannels", "(I)J"⟩
abbrev cX9_lawful : ByteArray := prog_11_method_4_code
def yX9_lawful : MethodName := ⟨RX9, "lawful", "(IJ)J"⟩
abbrev cX9_leads : ByteArray := prog_11_method_5_code
def yX9_leads : MethodName := ⟨RX9, "leads", "(II)Z"⟩
abbrev cX9_haveRing : ByteArray := prog_11_method_6_code
def yX9_haveRing : MethodName := ⟨RX9, "haveRing", "()Z"⟩
abbrev cX9_shortestRing : ByteArray := prog_11_method_7_code
def yX9_shortestRing : MethodName := ⟨RX9, "shortestRing", "(I)I"⟩
abbrev cX9_ontoFrom : ByteArray := prog_11_method_8_code
def yX9_ontoFrom : MethodName := ⟨RX9, "ontoFrom", "(J)J"⟩
def RX10 : String := "TurnNet"
def TX10 : u_T := fun k => match k with
  | 0 => ("TurnNet", "net", "LTurnNet$Net;", true)
  | 1 => ("TurnNet", "reader", "LTurnNet$Reader;", true)
  | 2 => ("TurnNet", "order", "LTurnNet$Order;", true)
  | 3 => ("TurnNet", "routes", "LTurnNet$Routes;", true)
  | 4 => ("TurnNet", "guess", "LTurnNet$Routes;", true)
  | 5 => ("TurnNet", "graph", "LTurnNet$Graph;", true)
  | 6 => ("TurnNet", "turns", "LTurnNet$Turns;", true)
  | 7 => ("TurnNet", "planner", "LTurnNet$Planner;", true)
  | 8 => ("TurnNet", "traffic", "LTurnNet$Traffic;", true)
  | 9 => ("TurnNet", "history", "LTurnNet$History;", true)
  | 10 => ("TurnNet", "trial", "LTurnNet$State;", true)
  | 11 => ("TurnNet", "boxes", "[LTurnNet$State;", true)
  | 12 => ("TurnNet", "filled", "[Z", true)
  | _ => ("TurnNet", "now", "LTurnNet$State;", false)
def tyX10 : Nat → FieldType := fun k => match k with
  | 0 => .object "TurnNet$Net"
  | 1 => .object "TurnNet$Reader"
  | 2 => .object "TurnNet$Order"
  | 3 => .object "TurnNet$Routes"
  | 4 => .object "TurnNet$Routes"
  | 5 => .object "TurnNet$Graph"
  | 6 => .object "TurnNet$Turns"
  | 7 => .object "TurnNet$Planner"
  | 8 => .object "TurnNet$Traffic"
  | 9 => .object "TurnNet$History"
  | 10 => .object "TurnNet$State"
  | 11 => .array (.object "TurnNet$State")
  | 12 => .array .boolean
  | _ => .object "TurnNet$State"
abbrev wsX100 : List Cond := u_ws RX10 TX10 14
theorem nmX10 : ∀ a, a < 14 → ∀ b, b < 14 → a ≠ b → (TX10 a).2.1 ≠ (TX10 b).2.1 := by decide +kernel
theorem tyX10_ok : ∀ k, k < 14 → parseFieldDescriptor (TX10 k).2.2.1 = some (tyX10 k) := by decide +kernel
abbrev cX10_init : ByteArray := prog_1_method_1_code
def yX10_init : MethodName := ⟨RX10, "<init>", "()V"⟩
abbrev cX10_feed : ByteArray := prog_1_method_2_code
def yX10_feed : MethodName := ⟨RX10, "feed", "(IIIII)I"⟩
abbrev cX10_end : ByteArray := prog_1_method_3_code
def yX10_end : MethodName := ⟨RX10, "end", "(I)I"⟩
abbrev cX10_net : ByteArray := prog_1_method_4_code
def yX10_net : MethodName := ⟨RX10, "net", "()I"⟩
abbrev cX10_fault : ByteArray := prog_1_method_5_code
def yX10_fault : MethodName := ⟨RX10, "fault", "(I)I"⟩
abbrev cX10_cut : ByteArray := prog_1_method_6_code
def yX10_cut : MethodName := ⟨RX10, "cut", "(I)I"⟩
abbrev cX10_mend : ByteArray := prog_1_method_7_code
def yX10_mend : MethodName := ⟨RX10, "mend", "(I)I"⟩
abbrev cX10_turn : ByteArray := prog_1_method_8_code
def yX10_turn : MethodName := ⟨RX10, "turn", "(I)I"⟩
abbrev cX10_orient : ByteArray := prog_1_method_9_code
def yX10_orient : MethodName := ⟨RX10, "orient", "(I)I"⟩
abbrev cX10_change : ByteArray := prog_1_method_10_code
def yX10_change : MethodName := ⟨RX10, "change", "(II)I"⟩
abbrev cX10_send : ByteArray := prog_1_method_11_code
def yX10_send : MethodName := ⟨RX10, "send", "(II)I"⟩
abbrev cX10_steps : ByteArray := prog_1_method_12_code
def yX10_steps : MethodName := ⟨RX10, "steps", "(I)I"⟩
abbrev cX10_undo : ByteArray := prog_1_method_13_code
def yX10_undo : MethodName := ⟨RX10, "undo", "()Z"⟩
abbrev cX10_redo : ByteArray := prog_1_method_14_code
def yX10_redo : MethodName := ⟨RX10, "redo", "()Z"⟩
abbrev cX10_node : ByteArray := prog_1_method_15_code
def yX10_node : MethodName := ⟨RX10, "node", "(II)I"⟩
abbrev cX10_link : ByteArray := prog_1_method_16_code
def yX10_link : MethodName := ⟨RX10, "link", "(II)I"⟩
abbrev cX10_length : ByteArray := prog_1_method_17_code
def yX10_length : MethodName := ⟨RX10, "length", "(II)I"⟩
abbrev cX10_plain : ByteArray := prog_1_method_18_code
def yX10_plain : MethodName := ⟨RX10, "plain", "(II)I"⟩
abbrev cX10_ways : ByteArray := prog_1_method_19_code
def yX10_ways : MethodName := ⟨RX10, "ways", "(II)J"⟩
abbrev cX10_through : ByteArray := prog_1_method_20_code
def yX10_through : MethodName := ⟨RX10, "through", "(III)J"⟩
abbrev cX10_entry : ByteArray := prog_1_method_21_code
def yX10_entry : MethodName := ⟨RX10, "entry", "(III)I"⟩
abbrev cX10_path : ByteArray := prog_1_method_22_code
def yX10_path : MethodName := ⟨RX10, "path", "(III)I"⟩
abbrev cX10_load : ByteArray := prog_1_method_23_code
def yX10_load : MethodName := ⟨RX10, "load", "(I)I"⟩
abbrev cX10_heaviest : ByteArray := prog_1_method_24_code
def yX10_heaviest : MethodName := ⟨RX10, "heaviest", "(I)I"⟩
abbrev cX10_pairs : ByteArray := prog_1_method_25_code
def yX10_pairs : MethodName := ⟨RX10, "pairs", "(I)I"⟩
abbrev cX10_depends : ByteArray := prog_1_method_26_code
def yX10_depends : MethodName := ⟨RX10, "depends", "(II)I"⟩
abbrev cX10_rings : ByteArray := prog_1_method_27_code
def yX10_rings : MethodName := ⟨RX10, "rings", "()I"⟩
abbrev cX10_ring : ByteArray := prog_1_method_28_code
def yX10_ring : MethodName := ⟨RX10, "ring", "(I)I"⟩
abbrev cX10_plan : ByteArray := prog_1_method_29_code
def yX10_plan : MethodName := ⟨RX10, "plan", "(II)I"⟩
abbrev cX10_phase : ByteArray := prog_1_method_30_code
def yX10_phase : MethodName := ⟨RX10, "phase", "(II)I"⟩
abbrev cX10_rooted : ByteArray := prog_1_method_31_code
def yX10_rooted : MethodName := ⟨RX10, "rooted", "(II)I"⟩
abbrev cX10_best : ByteArray := prog_1_method_32_code
def yX10_best : MethodName := ⟨RX10, "best", "(I)I"⟩
abbrev cX10_without : ByteArray := prog_1_method_33_code
def yX10_without : MethodName := ⟨RX10, "without", "(II)I"⟩
abbrev cX10_dearest : ByteArray := prog_1_method_34_code
def yX10_dearest : MethodName := ⟨RX10, "dearest", "()I"⟩
abbrev cX10_apart : ByteArray := prog_1_method_35_code
def yX10_apart : MethodName := ⟨RX10, "apart", "(II)I"⟩
abbrev cX10_around : ByteArray := prog_1_method_36_code
def yX10_around : MethodName := ⟨RX10, "around", "(III)I"⟩
abbrev cX10_pivots : ByteArray := prog_1_method_37_code
def yX10_pivots : MethodName := ⟨RX10, "pivots", "()I"⟩
abbrev cX10_game : ByteArray := prog_1_method_38_code
def yX10_game : MethodName := ⟨RX10, "game", "(III)I"⟩
abbrev cX10_packet : ByteArray := prog_1_method_39_code
def yX10_packet : MethodName := ⟨RX10, "packet", "(II)I"⟩
abbrev cX10_drains : ByteArray := prog_1_method_40_code
def yX10_drains : MethodName := ⟨RX10, "drains", "()I"⟩
abbrev cX10_stuck : ByteArray := prog_1_method_41_code
def yX10_stuck : MethodName := ⟨RX10, "stuck", "()I"⟩
abbrev cX10_image : ByteArray := prog_1_method_42_code
def yX10_image : MethodName := ⟨RX10, "image", "(I)I"⟩
abbrev cX10_back : ByteArray := prog_1_method_43_code
def yX10_back : MethodName := ⟨RX10, "back", "(I)I"⟩
abbrev cX10_about : ByteArray := prog_1_method_44_code
def yX10_about : MethodName := ⟨RX10, "about", "(I)I"⟩
abbrev cX10_upEndsBy : ByteArray := prog_1_method_45_code
def yX10_upEndsBy : MethodName := ⟨RX10, "upEndsBy", "(I)I"⟩
abbrev cX10_planFor : ByteArray := prog_1_method_46_code
def yX10_planFor : MethodName := ⟨RX10, "planFor", "(I)V"⟩
abbrev cX10_goSteps : ByteArray := prog_1_method_47_code
def yX10_goSteps : MethodName := ⟨RX10, "goSteps", "(LTurnNet$State;I)I"⟩
abbrev cX10_runEmpty : ByteArray := prog_1_method_48_code
def yX10_runEmpty : MethodName := ⟨RX10, "runEmpty", "()I"⟩
abbrev cX10_worthOf : ByteArray := prog_1_method_49_code
def yX10_worthOf : MethodName := ⟨RX10, "worthOf", "(II)I"⟩
abbrev cX10_pairsWithoutWay : ByteArray := prog_1_method_50_code
def yX10_pairsWithoutWay : MethodName := ⟨RX10, "pairsWithoutWay", "(II)I"⟩
abbrev cX10_hopsWhereWays : ByteArray := prog_1_method_51_code
def yX10_hopsWhereWays : MethodName := ⟨RX10, "hopsWhereWays", "()I"⟩
def RX11 : String := "TurnNetModel"
def TX11 : u_T := fun k => match k with
  | 0 => ("TurnNetModel", "all", "[I", true)
  | 1 => ("TurnNetModel", "nodes", "[I", true)
  | 2 => ("TurnNetModel", "links", "[I", true)
  | 3 => ("TurnNetModel", "roots", "[I", true)
  | 4 => ("TurnNetModel", "rooms", "[I", true)
  | 5 => ("TurnNetModel", "units", "[I", true)
  | 6 => ("TurnNetModel", "ruled", "[I", true)
  | 7 => ("TurnNetModel", "ends", "[I", true)
  | 8 => ("TurnNetModel", "rule", "[I", true)
  | 9 => ("TurnNetModel", "bank", "I", false)
  | 10 => ("TurnNetModel", "tape", "[B", true)
  | 11 => ("TurnNetModel", "taped", "I", false)
  | 12 => ("TurnNetModel", "size", "I", false)
  | 13 => ("TurnNetModel", "next", "I", false)
  | 14 => ("TurnNetModel", "at", "I", false)
  | 15 => ("TurnNetModel", "token", "I", false)
  | 16 => ("TurnNetModel", "number", "I", false)
  | 17 => ("TurnNetModel", "word", "I", false)
  | 18 => ("TurnNetModel", "found", "I", false)
  | 19 => ("TurnNetModel", "foundAt", "I", false)
  | 20 => ("TurnNetModel", "fault", "I", false)
  | 21 => ("TurnNetModel", "faultAt", "I", false)
  | 22 => ("TurnNetModel", "letters", "[B", true)
  | 23 => ("TurnNetModel", "hasRoot", "Z", false)
  | 24 => ("TurnNetModel", "hasRank", "Z", false)
  | 25 => ("TurnNetModel", "hasRoom", "Z", false)
  | 26 => ("TurnNetModel", "open", "[I", true)
  | 27 => ("TurnNetModel", "opened", "I", false)
  | 28 => ("TurnNetModel", "deep", "I", false)
  | 29 => ("TurnNetModel", "far", "[I", true)
  | 30 => ("TurnNetModel", "ranks", "[I", true)
  | 31 => ("TurnNetModel", "wouldBe", "[I", true)
  | 32 => ("TurnNetModel", "stack", "[I", true)
  | 33 => ("TurnNetModel", "turns", "[J", true)
  | 34 => ("TurnNetModel", "farTo", "[I", true)
  | 35 => ("TurnNetModel", "onward", "[J", true)
  | 36 => ("TurnNetModel", "come", "[J", true)
  | 37 => ("TurnNetModel", "entries", "[I", true)
  | 38 => ("TurnNetModel", "used", "[I", true)
  | 39 => ("TurnNetModel", "loads", "[I", true)
  | 40 => ("TurnNetModel", "noWay", "I", false)
  | 41 => ("TurnNetModel", "lengths", "I", false)
  | 42 => ("TurnNetModel", "longer", "I", false)
  | 43 => ("TurnNetModel", "noneAtAll", "I", false)
  | 44 => ("TurnNetModel", "aside", "[I", true)
  | 45 => ("TurnNetModel", "carries", "[I", true)
  | 46 => ("TurnNetModel", "cameBy", "[I", true)
  | 47 => ("TurnNetModel", "isTaken", "[Z", true)
  | 48 => ("TurnNetModel", "phaseOf", "[I", true)
  | 49 => ("TurnNetModel", "drawn", "I", false)
  | 50 => ("TurnNetModel", "waited", "I", false)
  | 51 => ("TurnNetModel", "went", "I", false)
  | 52 => ("TurnNetModel", "refused", "I", false)
  | 53 => ("TurnNetModel", "was", "[I", true)
  | 54 => ("TurnNetModel", "boxAll", "[I", true)
  | 55 => ("TurnNetModel", "isBoxed", "[Z", true)
  | 56 => ("TurnNetModel", "acts", "I", false)
  | _ => ("TurnNetModel", "undone", "I", false)
def tyX11 : Nat → FieldType := fun k => match k with
  | 0 => .array .int
  | 1 => .array .int
  | 2 => .array .int
  | 3 => .array .int
  | 4 => .array .int
  | 5 => .array .int
  | 6 => .array .int
  | 7 => .array .int
  | 8 => .array .int
  | 9 => .int
  | 10 => .array .byte
  | 11 => .int
  | 12 => .int
  | 13 => .int
  | 14 => .int
  | 15 => .int
  | 16 => .int
  | 17 => .int
  | 18 => .int
  | 19 => .int
  | 20 => .int
  | 21 => .int
  | 22 => .array .byte
  | 23 => .boolean
  | 24 => .boolean
  | 25 => .boolean
  | 26 => .array .int
  | 27 => .int
  | 28 => .int
  | 29 => .array .int
  | 30 => .array .int
  | 31 => .array .int
  | 32 => .array .int
  | 33 => .array .long
  | 34 => .array .int
  | 35 => .array .long
  | 36 => .array .long
  | 37 => .array .int
  | 38 => .array .int
  | 39 => .array .int
  | 40 => .int
  | 41 => .int
  | 42 => .int
  | 43 => .int
  | 44 => .array .int
  | 45 => .array .int
  | 46 => .array .int
  | 47 => .array .boolean
  | 48 => .array .int
  | 49 => .int
  | 50 => .int
  | 51 => .int
  | 52 => .int
  | 53 => .array .int
  | 54 => .array .int
  | 55 => .array .boolean
  | 56 => .int
  | _ => .int
abbrev wsX110 : List Cond := u_ws RX11 TX11 58
theorem nmX11 : ∀ a, a < 58 → ∀ b, b < 58 → a ≠ b → (TX11 a).2.1 ≠ (TX11 b).2.1 := by decide +kernel
theorem tyX11_ok : ∀ k, k < 58 → parseFieldDescriptor (TX11 k).2.2.1 = some (tyX11 k) := by decide +kernel
abbrev cX11_init : ByteArray := prog_13_method_1_code
def yX11_init : MethodName := ⟨RX11, "<init>", "()V"⟩
abbrev cX11_isIn : ByteArray := prog_13_method_2_code
def yX11_isIn : MethodName := ⟨RX11, "isIn", "(III)Z"⟩
abbrev cX11_feed : ByteArray := prog_13_method_3_code
def yX11_feed : MethodName := ⟨RX11, "feed", "(IIIII)I"⟩
abbrev cX11_end : ByteArray := prog_13_method_4_code
def yX11_end : MethodName := ⟨RX11, "end", "(I)I"⟩
abbrev cX11_signAt : ByteArray := prog_13_method_5_code
def yX11_signAt : MethodName := ⟨RX11, "signAt", "(I)I"⟩
abbrev cX11_isLetter : ByteArray := prog_13_method_6_code
def yX11_isLetter : MethodName := ⟨RX11, "isLetter", "(I)Z"⟩
abbrev cX11_isDigit : ByteArray := prog_13_method_7_code
def yX11_isDigit : MethodName := ⟨RX11, "isDigit", "(I)Z"⟩
abbrev cX11_isSign : ByteArray := prog_13_method_8_code
def yX11_isSign : MethodName := ⟨RX11, "isSign", "(I)Z"⟩
abbrev cX11_isBlank : ByteArray := prog_13_method_9_code
def yX11_isBlank : MethodName := ⟨RX11, "isBlank", "(I)Z"⟩
abbrev cX11_scan : ByteArray := prog_13_method_10_code
def yX11_scan : MethodName := ⟨RX11, "scan", "()V"⟩
abbrev cX11_scanWord : ByteArray := prog_13_method_11_code
def yX11_scanWord : MethodName := ⟨RX11, "scanWord", "()V"⟩
abbrev cX11_isSame : ByteArray := prog_13_method_12_code
def yX11_isSame : MethodName := ⟨RX11, "isSame", "(II)Z"⟩
abbrev cX11_scanNumber : ByteArray := prog_13_method_13_code
def yX11_scanNumber : MethodName := ⟨RX11, "scanNumber", "()V"⟩
abbrev cX11_fail : ByteArray := prog_13_method_14_code
def yX11_fail : MethodName := ⟨RX11, "fail", "(I)V"⟩
abbrev cX11_isAt : ByteArray := prog_13_method_15_code
def yX11_isAt : MethodName := ⟨RX11, "isAt", "(I)Z"⟩
abbrev cX11_isWord : ByteArray := prog_13_method_16_code
def yX11_isWord : MethodName := ⟨RX11, "isWord", "(I)Z"⟩
abbrev cX11_need : ByteArray := prog_13_method_17_code
def yX11_need : MethodName := ⟨RX11, "need", "(I)V"⟩
abbrev cX11_numeral : ByteArray := prog_13_method_18_code
def yX11_numeral : MethodName := ⟨RX11, "numeral", "(II)I"⟩
abbrev cX11_clearBank : ByteArray := prog_13_method_19_code
def yX11_clearBank : MethodName := ⟨RX11, "clearBank", "(I)V"⟩
abbrev cX11_endAt : ByteArray := prog_13_method_20_code
def yX11_endAt : MethodName := ⟨RX11, "endAt", "(III)I"⟩
abbrev cX11_readAll : ByteArray := prog_13_method_21_code
def yX11_readAll : MethodName := ⟨RX11, "readAll", "(I)V"⟩
abbrev cX11_readLine : ByteArray := prog_13_method_22_code
def yX11_readLine : MethodName := ⟨RX11, "readLine", "(I)V"⟩
abbrev cX11_readLink : ByteArray := prog_13_method_23_code
def yX11_readLink : MethodName := ⟨RX11, "readLink", "(I)V"⟩
abbrev cX11_isJoined : ByteArray := prog_13_method_24_code
def yX11_isJoined : MethodName := ⟨RX11, "isJoined", "(III)Z"⟩
abbrev cX11_lay : ByteArray := prog_13_method_25_code
def yX11_lay : MethodName := ⟨RX11, "lay", "(II)V"⟩
abbrev cX11_bindsBy : ByteArray := prog_13_method_26_code
def yX11_bindsBy : MethodName := ⟨RX11, "bindsBy", "(I)I"⟩
abbrev cX11_readRule : ByteArray := prog_13_method_27_code
def yX11_readRule : MethodName := ⟨RX11, "readRule", "(I)V"⟩
abbrev cX11_layOpen : ByteArray := prog_13_method_28_code
def yX11_layOpen : MethodName := ⟨RX11, "layOpen", "(I)V"⟩
abbrev cX11_push : ByteArray := prog_13_method_29_code
def yX11_push : MethodName := ⟨RX11, "push", "(I)V"⟩
abbrev cX11_readUnit : ByteArray := prog_13_method_30_code
def yX11_readUnit : MethodName := ⟨RX11, "readUnit", "(I)Z"⟩
abbrev cX11_closeMinus : ByteArray := prog_13_method_31_code
def yX11_closeMinus : MethodName := ⟨RX11, "closeMinus", "(I)V"⟩
abbrev cX11_closeOne : ByteArray := prog_13_method_32_code
def yX11_closeOne : MethodName := ⟨RX11, "closeOne", "(I)V"⟩
abbrev cX11_binary : ByteArray := prog_13_method_33_code
def yX11_binary : MethodName := ⟨RX11, "binary", "()I"⟩
abbrev cX11_readBinary : ByteArray := prog_13_method_34_code
def yX11_readBinary : MethodName := ⟨RX11, "readBinary", "(I)Z"⟩
abbrev cX11_net : ByteArray := prog_13_method_35_code
def yX11_net : MethodName := ⟨RX11, "net", "()I"⟩
abbrev cX11_fault : ByteArray := prog_13_method_36_code
def yX11_fault : MethodName := ⟨RX11, "fault", "(I)I"⟩
abbrev cX11_nodesNow : ByteArray := prog_13_method_37_code
def yX11_nodesNow : MethodName := ⟨RX11, "nodesNow", "()I"⟩
abbrev cX11_linksNow : ByteArray := prog_13_method_38_code
def yX11_linksNow : MethodName := ⟨RX11, "linksNow", "()I"⟩
abbrev cX11_endOf : ByteArray := prog_13_method_39_code
def yX11_endOf : MethodName := ⟨RX11, "endOf", "(II)I"⟩
abbrev cX11_isNode : ByteArray := prog_13_method_40_code
def yX11_isNode : MethodName := ⟨RX11, "isNode", "(I)Z"⟩
abbrev cX11_isLink : ByteArray := prog_13_method_41_code
def yX11_isLink : MethodName := ⟨RX11, "isLink", "(I)Z"⟩
abbrev cX11_isChannel : ByteArray := prog_13_method_42_code
def yX11_isChannel : MethodName := ⟨RX11, "isChannel", "(I)Z"⟩
abbrev cX11_stands : ByteArray := prog_13_method_43_code
def yX11_stands : MethodName := ⟨RX11, "stands", "(I)Z"⟩
abbrev cX11_startAnew : ByteArray := prog_13_method_44_code
def yX11_startAnew : MethodName := ⟨RX11, "startAnew", "()V"⟩
abbrev cX11_linksOf : ByteArray := prog_13_method_45_code
def yX11_linksOf : MethodName := ⟨RX11, "linksOf", "(I)I"⟩
abbrev cX11_layFar : ByteArray := prog_13_method_46_code
def yX11_layFar : MethodName := ⟨RX11, "layFar", "(II)V"⟩
abbrev cX11_work : ByteArray := prog_13_method_47_code
def yX11_work : MethodName := ⟨RX11, "work", "(III)I"⟩
abbrev cX11_rankOf : ByteArray := prog_13_method_48_code
def yX11_rankOf : MethodName := ⟨RX11, "rankOf", "(I)I"⟩
abbrev cX11_layRanks : ByteArray := prog_13_method_49_code
def yX11_layRanks : MethodName := ⟨RX11, "layRanks", "(I)V"⟩
abbrev cX11_isAbove : ByteArray := prog_13_method_50_code
def yX11_isAbove : MethodName := ⟨RX11, "isAbove", "(II)Z"⟩
abbrev cX11_orientBy : ByteArray := prog_13_method_51_code
def yX11_orientBy : MethodName := ⟨RX11, "orientBy", "(I)V"⟩
abbrev cX11_flips : ByteArray := prog_13_method_52_code
def yX11_flips : MethodName := ⟨RX11, "flips", "()I"⟩
abbrev cX11_takeOver : ByteArray := prog_13_method_53_code
def yX11_takeOver : MethodName := ⟨RX11, "takeOver", "()V"⟩
abbrev cX11_fromOf : ByteArray := prog_13_method_54_code
def yX11_fromOf : MethodName := ⟨RX11, "fromOf", "(I)I"⟩
abbrev cX11_toOf : ByteArray := prog_13_method_55_code
def yX11_toOf : MethodName := ⟨RX11, "toOf", "(I)I"⟩
abbrev cX11_channels : ByteArray := prog_13_method_56_code
def yX11_channels : MethodName := ⟨RX11, "channels", "()I"⟩
abbrev cX11_isUpBy : ByteArray := prog_13_method_57_code
def yX11_isUpBy : MethodName := ⟨RX11, "isUpBy", "(II)Z"⟩
abbrev cX11_isUp : ByteArray := prog_13_method_58_code
def yX11_isUp : MethodName := ⟨RX11, "isUp", "(I)Z"⟩
abbrev cX11_isTurn : ByteArray := prog_13_method_59_code
def yX11_isTurn : MethodName := ⟨RX11, "isTurn", "(IIII)Z"⟩
abbrev cX11_isLawful : ByteArray := prog_13_method_60_code
def yX11_isLawful : MethodName := ⟨RX11, "isLawful", "(II)Z"⟩
abbrev cX11_layTurns : ByteArray := prog_13_method_61_code
def yX11_layTurns : MethodName := ⟨RX11, "layTurns", "()V"⟩
abbrev cX11_roundOf : ByteArray := prog_13_method_62_code
def yX11_roundOf : MethodName := ⟨RX11, "roundOf", "(I)I"⟩
abbrev cX11_hasRing : ByteArray := prog_13_method_63_code
def yX11_hasRing : MethodName := ⟨RX11, "hasRing", "()Z"⟩
abbrev cX11_depends : ByteArray := prog_13_method_64_code
def yX11_depends : MethodName := ⟨RX11, "depends", "(II)I"⟩
abbrev cX11_rings : ByteArray := prog_13_method_65_code
def yX11_rings : MethodName := ⟨RX11, "rings", "()I"⟩
abbrev cX11_ring : ByteArray := prog_13_method_66_code
def yX11_ring : MethodName := ⟨RX11, "ring", "(I)I"⟩
abbrev cX11_stateAt : ByteArray := prog_13_method_67_code
def yX11_stateAt : MethodName := ⟨RX11, "stateAt", "(III)I"⟩
abbrev cX11_isOpen : ByteArray := prog_13_method_68_code
def yX11_isOpen : MethodName := ⟨RX11, "isOpen", "(II)Z"⟩
abbrev cX11_behind : ByteArray := prog_13_method_69_code
def yX11_behind : MethodName := ⟨RX11, "behind", "(IZ)I"⟩
abbrev cX11_layGoal : ByteArray := prog_13_method_70_code
def yX11_layGoal : MethodName := ⟨RX11, "layGoal", "(I)V"⟩
abbrev cX11_layGoals : ByteArray := prog_13_method_71_code
def yX11_layGoals : MethodName := ⟨RX11, "layGoals", "()V"⟩
abbrev cX11_isNext : ByteArray := prog_13_method_72_code
def yX11_isNext : MethodName := ⟨RX11, "isNext", "(III)Z"⟩
abbrev cX11_lengthTo : ByteArray := prog_13_method_73_code
def yX11_lengthTo : MethodName := ⟨RX11, "lengthTo", "(II)I"⟩
abbrev cX11_length : ByteArray := prog_13_method_74_code
def yX11_length : MethodName := ⟨RX11, "length", "(II)I"⟩
abbrev cX11_plain : ByteArray := prog_13_method_75_code
def yX11_plain : MethodName := ⟨RX11, "plain", "(II)I"⟩
abbrev cX11_layOnward : ByteArray := prog_13_method_76_code
def yX11_layOnward : MethodName := ⟨RX11, "layOnward", "(I)V"⟩
abbrev cX11_layCome : ByteArray := prog_13_method_77_code
def yX11_layCome : MethodName := ⟨RX11, "layCome", "(II)V"⟩
abbrev cX11_ways : ByteArray := prog_13_method_78_code
def yX11_ways : MethodName := ⟨RX11, "ways", "(II)J"⟩
abbrev cX11_through : ByteArray := prog_13_method_79_code
def yX11_through : MethodName := ⟨RX11, "through", "(III)J"⟩
abbrev cX11_layTable : ByteArray := prog_13_method_80_code
def yX11_layTable : MethodName := ⟨RX11, "layTable", "()V"⟩
abbrev cX11_leastUsed : ByteArray := prog_13_method_81_code
def yX11_leastUsed : MethodName := ⟨RX11, "leastUsed", "(III)I"⟩
abbrev cX11_entry : ByteArray := prog_13_method_82_code
def yX11_entry : MethodName := ⟨RX11, "entry", "(III)I"⟩
abbrev cX11_pathAt : ByteArray := prog_13_method_83_code
def yX11_pathAt : MethodName := ⟨RX11, "pathAt", "(III)I"⟩
abbrev cX11_path : ByteArray := prog_13_method_84_code
def yX11_path : MethodName := ⟨RX11, "path", "(III)I"⟩
abbrev cX11_layLoads : ByteArray := prog_13_method_85_code
def yX11_layLoads : MethodName := ⟨RX11, "layLoads", "()V"⟩
abbrev cX11_load : ByteArray := prog_13_method_86_code
def yX11_load : MethodName := ⟨RX11, "load", "(I)I"⟩
abbrev cX11_heaviestNow : ByteArray := prog_13_method_87_code
def yX11_heaviestNow : MethodName := ⟨RX11, "heaviestNow", "()I"⟩
abbrev cX11_heaviest : ByteArray := prog_13_method_88_code
def yX11_heaviest : MethodName := ⟨RX11, "heaviest", "(I)I"⟩
abbrev cX11_layPairs : ByteArray := prog_13_method_89_code
def yX11_layPairs : MethodName := ⟨RX11, "layPairs", "()V"⟩
abbrev cX11_addPair : ByteArray := prog_13_method_90_code
def yX11_addPair : MethodName := ⟨RX11, "addPair", "(II)V"⟩
abbrev cX11_pairs : ByteArray := prog_13_method_91_code
def yX11_pairs : MethodName := ⟨RX11, "pairs", "(I)I"⟩
abbrev cX11_putAside : ByteArray := prog_13_method_92_code
def yX11_putAside : MethodName := ⟨RX11, "putAside", "()V"⟩
abbrev cX11_bringBack : ByteArray := prog_13_method_93_code
def yX11_bringBack : MethodName := ⟨RX11, "bringBack", "()V"⟩
abbrev cX11_rootedBy : ByteArray := prog_13_method_94_code
def yX11_rootedBy : MethodName := ⟨RX11, "rootedBy", "(II)I"⟩
abbrev cX11_rooted : ByteArray := prog_13_method_95_code
def yX11_rooted : MethodName := ⟨RX11, "rooted", "(II)I"⟩
abbrev cX11_best : ByteArray := prog_13_method_96_code
def yX11_best : MethodName := ⟨RX11, "best", "(I)I"⟩
abbrev cX11_isStanding : ByteArray := prog_13_method_97_code
def yX11_isStanding : MethodName := ⟨RX11, "isStanding", "(I)Z"⟩
abbrev cX11_without : ByteArray := prog_13_method_98_code
def yX11_without : MethodName := ⟨RX11, "without", "(II)I"⟩
abbrev cX11_dearest : ByteArray := prog_13_method_99_code
def yX11_dearest : MethodName := ⟨RX11, "dearest", "()I"⟩
abbrev cX11_around : ByteArray := prog_13_method_100_code
def yX11_around : MethodName := ⟨RX11, "around", "(III)I"⟩
abbrev cX11_plainPairs : ByteArray := prog_13_method_101_code
def yX11_plainPairs : MethodName := ⟨RX11, "plainPairs", "(I)I"⟩
abbrev cX11_pairsOf : ByteArray := prog_13_method_102_code
def yX11_pairsOf : MethodName := ⟨RX11, "pairsOf", "(I)I"⟩
abbrev cX11_pivots : ByteArray := prog_13_method_103_code
def yX11_pivots : MethodName := ⟨RX11, "pivots", "()I"⟩
abbrev cX11_oneMore : ByteArray := prog_13_method_104_code
def yX11_oneMore : MethodName := ⟨RX11, "oneMore", "(II)Z"⟩
abbrev cX11_apart : ByteArray := prog_13_method_105_code
def yX11_apart : MethodName := ⟨RX11, "apart", "(II)I"⟩
abbrev cX11_isEither : ByteArray := prog_13_method_106_code
def yX11_isEither : MethodName := ⟨RX11, "isEither", "(II)Z"⟩
abbrev cX11_isSafe : ByteArray := prog_13_method_107_code
def yX11_isSafe : MethodName := ⟨RX11, "isSafe", "()Z"⟩
abbrev cX11_takePhase : ByteArray := prog_13_method_108_code
def yX11_takePhase : MethodName := ⟨RX11, "takePhase", "(I)I"⟩
abbrev cX11_turnTaken : ByteArray := prog_13_method_109_code
def yX11_turnTaken : MethodName := ⟨RX11, "turnTaken", "()V"⟩
abbrev cX11_goPhases : ByteArray := prog_13_method_110_code
def yX11_goPhases : MethodName := ⟨RX11, "goPhases", "(II)I"⟩
abbrev cX11_planFor : ByteArray := prog_13_method_111_code
def yX11_planFor : MethodName := ⟨RX11, "planFor", "(I)I"⟩
abbrev cX11_plan : ByteArray := prog_13_method_112_code
def yX11_plan : MethodName := ⟨RX11, "plan", "(II)I"⟩
abbrev cX11_phase : ByteArray := prog_13_method_113_code
def yX11_phase : MethodName := ⟨RX11, "phase", "(II)I"⟩
abbrev cX11_standing : ByteArray := prog_13_method_114_code
def yX11_standing : MethodName := ⟨RX11, "standing", "()I"⟩
abbrev cX11_cut : ByteArray := prog_13_method_115_code
def yX11_cut : MethodName := ⟨RX11, "cut", "(I)I"⟩
abbrev cX11_mend : ByteArray := prog_13_method_116_code
def yX11_mend : MethodName := ⟨RX11, "mend", "(I)I"⟩
abbrev cX11_turn : ByteArray := prog_13_method_117_code
def yX11_turn : MethodName := ⟨RX11, "turn", "(I)I"⟩
abbrev cX11_orient : ByteArray := prog_13_method_118_code
def yX11_orient : MethodName := ⟨RX11, "orient", "(I)I"⟩
abbrev cX11_change : ByteArray := prog_13_method_119_code
def yX11_change : MethodName := ⟨RX11, "change", "(II)I"⟩
abbrev cX11_isPacket : ByteArray := prog_13_method_120_code
def yX11_isPacket : MethodName := ⟨RX11, "isPacket", "(I)Z"⟩
abbrev cX11_freePacket : ByteArray := prog_13_method_121_code
def yX11_freePacket : MethodName := ⟨RX11, "freePacket", "()I"⟩
abbrev cX11_packetsNow : ByteArray := prog_13_method_122_code
def yX11_packetsNow : MethodName := ⟨RX11, "packetsNow", "()I"⟩
abbrev cX11_canSend : ByteArray := prog_13_method_123_code
def yX11_canSend : MethodName := ⟨RX11, "canSend", "(II)Z"⟩
abbrev cX11_goSend : ByteArray := prog_13_method_124_code
def yX11_goSend : MethodName := ⟨RX11, "goSend", "(II)I"⟩
abbrev cX11_send : ByteArray := prog_13_method_125_code
def yX11_send : MethodName := ⟨RX11, "send", "(II)I"⟩
abbrev cX11_wayOf : ByteArray := prog_13_method_126_code
def yX11_wayOf : MethodName := ⟨RX11, "wayOf", "(I)I"⟩
abbrev cX11_cameBy : ByteArray := prog_13_method_127_code
def yX11_cameBy : MethodName := ⟨RX11, "cameBy", "(I)I"⟩
abbrev cX11_goStep : ByteArray := prog_13_method_128_code
def yX11_goStep : MethodName := ⟨RX11, "goStep", "()I"⟩
abbrev cX11_goPacket : ByteArray := prog_13_method_129_code
def yX11_goPacket : MethodName := ⟨RX11, "goPacket", "(I)Z"⟩
abbrev cX11_goSteps : ByteArray := prog_13_method_130_code
def yX11_goSteps : MethodName := ⟨RX11, "goSteps", "(I)I"⟩
abbrev cX11_steps : ByteArray := prog_13_method_131_code
def yX11_steps : MethodName := ⟨RX11, "steps", "(I)I"⟩
abbrev cX11_packet : ByteArray := prog_13_method_132_code
def yX11_packet : MethodName := ⟨RX11, "packet", "(II)I"⟩
abbrev cX11_drains : ByteArray := prog_13_method_133_code
def yX11_drains : MethodName := ⟨RX11, "drains", "()I"⟩
abbrev cX11_stuck : ByteArray := prog_13_method_134_code
def yX11_stuck : MethodName := ⟨RX11, "stuck", "()I"⟩
abbrev cX11_draw : ByteArray := prog_13_method_135_code
def yX11_draw : MethodName := ⟨RX11, "draw", "()I"⟩
abbrev cX11_gameOnce : ByteArray := prog_13_method_137_code
def yX11_gameOnce : MethodName := ⟨RX11, "gameOnce", "()V"⟩
abbrev cX11_game : ByteArray := prog_13_method_138_code
def yX11_game : MethodName := ⟨RX11, "game", "(III)I"⟩
abbrev cX11_node : ByteArray := prog_13_method_139_code
def yX11_node : MethodName := ⟨RX11, "node", "(II)I"⟩
abbrev cX11_aboveOf : ByteArray := prog_13_method_140_code
def yX11_aboveOf : MethodName := ⟨RX11, "aboveOf", "(I)I"⟩
abbrev cX11_packetsAt : ByteArray := prog_13_method_141_code
def yX11_packetsAt : MethodName := ⟨RX11, "packetsAt", "(I)I"⟩
abbrev cX11_link : ByteArray := prog_13_method_142_code
def yX11_link : MethodName := ⟨RX11, "link", "(II)I"⟩
abbrev cX11_keepAct : ByteArray := prog_13_method_143_code
def yX11_keepAct : MethodName := ⟨RX11, "keepAct", "()V"⟩
abbrev cX11_swapAll : ByteArray := prog_13_method_144_code
def yX11_swapAll : MethodName := ⟨RX11, "swapAll", "()V"⟩
abbrev cX11_undo : ByteArray := prog_13_method_145_code
def yX11_undo : MethodName := ⟨RX11, "undo", "()Z"⟩
abbrev cX11_redo : ByteArray := prog_13_method_146_code
def yX11_redo : MethodName := ⟨RX11, "redo", "()Z"⟩
abbrev cX11_image : ByteArray := prog_13_method_147_code
def yX11_image : MethodName := ⟨RX11, "image", "(I)I"⟩
abbrev cX11_back : ByteArray := prog_13_method_148_code
def yX11_back : MethodName := ⟨RX11, "back", "(I)I"⟩
abbrev cX11_about : ByteArray := prog_13_method_149_code
def yX11_about : MethodName := ⟨RX11, "about", "(I)I"⟩
def RJ6 : String := "java/lang/Integer"
def TJ6 : u_T := fun k => match k with
  | _ => ("", "", "", false)
def tyJ6 : Nat → FieldType := fun k => match k with
  | _ => .int
abbrev wsJ60 : List Cond := u_ws RJ6 TJ6 0
theorem nmJ6 : ∀ a, a < 0 → ∀ b, b < 0 → a ≠ b → (TJ6 a).2.1 ≠ (TJ6 b).2.1 := by decide +kernel
theorem tyJ6_ok : ∀ k, k < 0 → parseFieldDescriptor (TJ6 k).2.2.1 = some (tyJ6 k) := by decide +kernel
abbrev cJ6_bitCount_0f7a4 : ByteArray := prog_14_method_49_code
def yJ6_bitCount_0f7a4 : MethodName := ⟨RJ6, "bitCount", "(I)I"⟩
def RJ9 : String := "java/lang/Math"
def TJ9 : u_T := fun k => match k with
  | _ => ("", "", "", false)
def tyJ9 : Nat → FieldType := fun k => match k with
  | _ => .int
abbrev wsJ90 : List Cond := u_ws RJ9 TJ9 0
theorem nmJ9 : ∀ a, a < 0 → ∀ b, b < 0 → a ≠ b → (TJ9 a).2.1 ≠ (TJ9 b).2.1 := by decide +kernel
theorem tyJ9_ok : ∀ k, k < 0 → parseFieldDescriptor (TJ9 k).2.2.1 = some (tyJ9 k) := by decide +kernel
abbrev cJ9_max_7cf53 : ByteArray := prog_15_method_65_code
def yJ9_max_7cf53 : MethodName := ⟨RJ9, "max", "(II)I"⟩
abbrev cJ9_min_7cf53 : ByteArray := prog_15_method_69_code
def yJ9_min_7cf53 : MethodName := ⟨RJ9, "min", "(II)I"⟩
def RJ0 : String := "java/lang/String"
def TJ0 : u_T := fun k => match k with
  | _ => ("", "", "", false)
def tyJ0 : Nat → FieldType := fun k => match k with
  | _ => .int
abbrev wsJ00 : List Cond := u_ws RJ0 TJ0 0
theorem nmJ0 : ∀ a, a < 0 → ∀ b, b < 0 → a ≠ b → (TJ0 a).2.1 ≠ (TJ0 b).2.1 := by decide +kernel
theorem tyJ0_ok : ∀ k, k < 0 → parseFieldDescriptor (TJ0 k).2.2.1 = some (tyJ0 k) := by decide +kernel
abbrev cJ0_length_8abf5 : ByteArray := prog_16_method_54_code
def yJ0_length_8abf5 : MethodName := ⟨RJ0, "length", "()I"⟩
abbrev cJ0_charAt_5068e : ByteArray := prog_16_method_56_code
def yJ0_charAt_5068e : MethodName := ⟨RJ0, "charAt", "(I)C"⟩
abbrev cJ0_coder_7d493 : ByteArray := prog_16_method_152_code
def yJ0_coder_7d493 : MethodName := ⟨RJ0, "coder", "()B"⟩
abbrev cJ0_isLatin1_aae02 : ByteArray := prog_16_method_154_code
def yJ0_isLatin1_aae02 : MethodName := ⟨RJ0, "isLatin1", "()Z"⟩
abbrev cJ0_checkIndex_df160 : ByteArray := prog_16_method_155_code
def yJ0_checkIndex_df160 : MethodName := ⟨RJ0, "checkIndex", "(II)V"⟩
def RJ1 : String := "java/lang/StringLatin1"
def TJ1 : u_T := fun k => match k with
  | _ => ("", "", "", false)
def tyJ1 : Nat → FieldType := fun k => match k with
  | _ => .int
abbrev wsJ10 : List Cond := u_ws RJ1 TJ1 0
theorem nmJ1 : ∀ a, a < 0 → ∀ b, b < 0 → a ≠ b → (TJ1 a).2.1 ≠ (TJ1 b).2.1 := by decide +kernel
theorem tyJ1_ok : ∀ k, k < 0 → parseFieldDescriptor (TJ1 k).2.2.1 = some (tyJ1 k) := by decide +kernel
abbrev cJ1_charAt_3b067 : ByteArray := prog_17_method_2_code
def yJ1_charAt_3b067 : MethodName := ⟨RJ1, "charAt", "([BI)C"⟩
def RJ2 : String := "java/lang/StringUTF16"
def TJ2 : u_T := fun k => match k with
  | _ => ("", "", "", false)
def tyJ2 : Nat → FieldType := fun k => match k with
  | _ => .int
abbrev wsJ20 : List Cond := u_ws RJ2 TJ2 0
theorem nmJ2 : ∀ a, a < 0 → ∀ b, b < 0 → a ≠ b → (TJ2 a).2.1 ≠ (TJ2 b).2.1 := by decide +kernel
theorem tyJ2_ok : ∀ k, k < 0 → parseFieldDescriptor (TJ2 k).2.2.1 = some (tyJ2 k) := by decide +kernel
abbrev cJ2_getChar_3b067 : ByteArray := prog_18_method_5_code
def yJ2_getChar_3b067 : MethodName := ⟨RJ2, "getChar", "([BI)C"⟩
abbrev cJ2_length_9d52b : ByteArray := prog_18_method_6_code
def yJ2_length_9d52b : MethodName := ⟨RJ2, "length", "([B)I"⟩
abbrev cJ2_charAt_3b067 : ByteArray := prog_18_method_83_code
def yJ2_charAt_3b067 : MethodName := ⟨RJ2, "charAt", "([BI)C"⟩
abbrev cJ2_checkIndex_2214a : ByteArray := prog_18_method_91_code
def yJ2_checkIndex_2214a : MethodName := ⟨RJ2, "checkIndex", "(I[B)V"⟩
def RJ10 : String := "java/lang/System"
def TJ10 : u_T := fun k => match k with
  | _ => ("", "", "", false)
def tyJ10 : Nat → FieldType := fun k => match k with
  | _ => .int
abbrev wsJ100 : List Cond := u_ws RJ10 TJ10 0
theorem nmJ10 : ∀ a, a < 0 → ∀ b, b < 0 → a ≠ b → (TJ10 a).2.1 ≠ (TJ10 b).2.1 := by decide +kernel
theorem tyJ10_ok : ∀ k, k < 0 → parseFieldDescriptor (TJ10 k).2.2.1 = some (tyJ10 k) := by decide +kernel
def RJ3 : String := "jdk/internal/util/Preconditions"
def TJ3 : u_T := fun k => match k with
  | _ => ("", "", "", false)
def tyJ3 : Nat → FieldType := fun k => match k with
  | _ => .int
abbrev wsJ30 : List Cond := u_ws RJ3 TJ3 0
theorem nmJ3 : ∀ a, a < 0 → ∀ b, b < 0 → a ≠ b → (TJ3 a).2.1 ≠ (TJ3 b).2.1 := by decide +kernel
theorem tyJ3_ok : ∀ k, k < 0 → parseFieldDescriptor (TJ3 k).2.2.1 = some (tyJ3 k) := by decide +kernel
abbrev cJ3_checkIndex_8e157 : ByteArray := prog_20_method_11_code
def yJ3_checkIndex_8e157 : MethodName := ⟨RJ3, "checkIndex", "(IILjava/util/function/BiFunction;)I"⟩
def RL : String := "TurnNetLaw"
abbrev cL_law : ByteArray := code
def yL_law : MethodName := ⟨RL, "law", "([I)Z"⟩
abbrev vwCl : List vw_C := [(RX0, TX0, 5), (RX1, TX1, 4), (RX2, TX2, 12), (RX3, TX3, 5), (RX4, TX4, 5), (RX5, TX5, 12), (RX6, TX6, 12), (RX7, TX7, 9), (RX8, TX8, 3), (RX9, TX9, 3), (RX10, TX10, 14), (RX11, TX11, 58)]
end
section
/-! An interpreter of bytecode over a picture of the heap, for the kernel to run: all is numbers. A value is 4 n + k: k = 0 the int n (modulo 2^32), 1 the long n, 2 a reference (0: null, 1: the script, q + 2: place q), 3 the n-th number that is not known: it lies in an interval. -/
/-- a cell: its kind (0 .. 11 a class, 12 byte[], 13 int[], 14 long[], 15 boolean[], 16 State[]), its length, what it holds -/
abbrev rx_C : Type := Nat × Nat × List Nat
/-- the picture of a heap: how many cells, and a tree of 256 places -/
noncomputable def rx_T : Nat → Type := fun n => Nat.rec (Option rx_C) (fun _ t => t × t) n
abbrev rx_H : Type := Nat × rx_T 8
noncomputable def rx_tg (n : Nat) : rx_T n → Nat → Option rx_C := Nat.rec (motive := fun n => rx_T n → Nat → Option rx_C) (fun t _ => t) (fun n ih (t : rx_T n × rx_T n) k => bif Nat.beq (Nat.mod k 2) 0 then ih t.1 (Nat.div k 2) else ih t.2 (Nat.div k 2)) n
noncomputable def rx_ts (n : Nat) : rx_T n → Nat → rx_C → rx_T n := Nat.rec (motive := fun n => rx_T n → Nat → rx_C → rx_T n) (fun _ _ c => some c) (fun n ih (t : rx_T n × rx_T n) k c => bif Nat.beq (Nat.mod k 2) 0 then ((ih t.1 (Nat.div k 2) c, t.2) : rx_T n × rx_T n) else ((t.1, ih t.2 (Nat.div k 2) c) : rx_T n × rx_T n)) n
noncomputable def rx_t0 (n : Nat) : rx_T n := Nat.rec (motive := fun n => rx_T n) (none : Option rx_C) (fun n t => ((t, t) : rx_T n × rx_T n)) n
noncomputable def rx_h0 : rx_H := (0, rx_t0 8)
noncomputable def rx_hg (h : rx_H) (q : Nat) : Option rx_C := bif Nat.blt q h.1 then rx_tg 8 h.2 q else none
noncomputable def rx_hs (h : rx_H) (q : Nat) (c : rx_C) : rx_H := (h.1, rx_ts 8 h.2 q c)
noncomputable def rx_hp (h : rx_H) (c : rx_C) : rx_H := (Nat.succ h.1, rx_ts 8 h.2 h.1 c)
/-- intervals of the numbers that are not known, each number 2^31 more -/
abbrev rx_I : Type := List (Nat × Nat)
abbrev rx_L : Type := List Nat
/-- pc, locals (2: none), stack, heap, intervals, cells and slots made -/
abbrev rx_S : Type := Nat × rx_L × List Nat × rx_H × rx_I × Nat × Nat
/-- what comes back: an answer (2: none), heap, intervals -/
abbrev rx_O : Type := Nat × rx_H × rx_I
/-- what every step knows: default contents, kinds of fields -/
abbrev rx_K : Type := List (List Nat) × List (List Nat)
/-- a method's numbers: locals, room (frames, locals, cells, slots), parameters, what it answers (0 nothing, 1 int, 2 boolean, 3 long), the script's length and 1 (0: there is none) -/
abbrev rx_N : Type := Nat × Nat × Nat × Nat × Nat × Nat × Nat × Nat
noncomputable def rx_mL (r : rx_N) : Nat := r.1
noncomputable def rx_rf (r : rx_N) : Nat := r.2.1
noncomputable def rx_rl (r : rx_N) : Nat := r.2.2.1
noncomputable def rx_rc (r : rx_N) : Nat := r.2.2.2.1
noncomputable def rx_rs (r : rx_N) : Nat := r.2.2.2.2.1
noncomputable def rx_np (r : rx_N) : Nat := r.2.2.2.2.2.1
noncomputable def rx_rk (r : rx_N) : Nat := r.2.2.2.2.2.2.1
noncomputable def rx_sl (r : rx_N) : Nat := r.2.2.2.2.2.2.2
/-- what an instruction does that isn't a call or a return: pc, two notes, locals, stack .. -/
abbrev rx_Hd : Type := rx_K → rx_N → Nat → Nat → Nat → rx_L → List Nat → rx_H → rx_I → Nat → Nat → Option (List rx_S)
/-- an instruction: place, kind (0 a step, 1 ireturn, 2 lreturn, 3 return, 4 a call, 5 a static call), what it does, itself, length, two notes, where its word stands -/
abbrev rx_E : Type := Nat × Nat × rx_Hd × Instr × Nat × Nat × Nat × Nat × Nat
/-- a method: its numbers; code; name, bytes, return type; where its words stand (code, instance or static, selects, initialized) -/
abbrev rx_M : Type := rx_N × List (List rx_E) × (MethodName × ByteArray × Option FieldType) × ((Nat × Nat) × (Nat × Nat) × (Nat × Nat) × (Nat × Nat))
noncomputable def rx_n (r : rx_M) : rx_N := r.1
noncomputable def rx_cd (r : rx_M) : List (List rx_E) := r.2.1
noncomputable def rx_y (r : rx_M) : MethodName := r.2.2.1.1
noncomputable def rx_b (r : rx_M) : ByteArray := r.2.2.1.2.1
noncomputable def rx_rt (r : rx_M) : Option FieldType := r.2.2.1.2.2
/-- lists by places -/
noncomputable def rx_nth {α : Type} (l : List α) : Nat → Option α := List.rec (motive := fun _ => Nat → Option α) (fun _ => none) (fun x _ ih i => Nat.casesOn i (some x) (fun j => ih j)) l
noncomputable def rx_upd {α : Type} (l : List α) : Nat → α → List α := List.rec (motive := fun _ => Nat → α → List α) (fun _ _ => []) (fun x t ih i v => Nat.casesOn i (v :: t) (fun j => x :: ih j v)) l
noncomputable def rx_len {α : Type} (l : List α) : Nat := List.rec (motive := fun _ => Nat) 0 (fun _ _ n => Nat.succ n) l
noncomputable def rx_tk (v : Nat) : Nat := Nat.mod v 4
noncomputable def rx_pl (v : Nat) : Nat := Nat.div v 4
noncomputable def rx_isI (v : Nat) : Bool := Nat.beq (rx_tk v) 0 || Nat.beq (rx_tk v) 3
noncomputable def rx_isR (v : Nat) : Bool := Nat.beq (rx_tk v) 2 && Nat.blt 0 (rx_pl v)
noncomputable def rx_isA (v : Nat) : Bool := Nat.beq (rx_tk v) 2
noncomputable def rx_isJ (v : Nat) : Bool := Nat.beq (rx_tk v) 1
noncomputable def rx_int (n : Nat) : Nat := Nat.mul 4 n
noncomputable def rx_lng (n : Nat) : Nat := Nat.succ (Nat.mul 4 n)
noncomputable def rx_ref (q : Nat) : Nat := Nat.add (Nat.mul 4 (Nat.add q 2)) 2
noncomputable def rx_sym (t : Nat) : Nat := Nat.add (Nat.mul 4 t) 3
/-- an int's place among all, the least being 0 -/
noncomputable def rx_bi (n : Nat) : Nat := Nat.mod (Nat.add n 2147483648) 4294967296
/-- a number of which the interval is one number -/
noncomputable def rx_kn (iv : rx_I) (v : Nat) : Nat := bif Nat.beq (rx_tk v) 3 then (match rx_nth iv (rx_pl v) with
    | some (a, b) => bif Nat.beq a b then rx_int (rx_bi a) else v
    | none => v) else v
noncomputable def rx_io (iv : rx_I) (v : Nat) : Option (Nat × Nat) := bif Nat.beq (rx_tk v) 0 then some (rx_bi (rx_pl v), rx_bi (rx_pl v)) else bif Nat.beq (rx_tk v) 3 then rx_nth iv (rx_pl v) else none
/-- an interval cut in two: (a .. m), (m + 1 .. b) -/
noncomputable def rx_cut (iv : rx_I) (v m : Nat) : Option (rx_I × rx_I) := bif Nat.beq (rx_tk v) 3 then (match rx_nth iv (rx_pl v) with
    | some (a, b) => bif Nat.ble a m && Nat.blt m b then some (rx_upd iv (rx_pl v) (a, m), rx_upd iv (rx_pl v) (Nat.succ m, b)) else none
    | none => none) else none
noncomputable def rx_two (pc : Nat) (lv : rx_L) (st : List Nat) (hp : rx_H) (q : Option (rx_I × rx_I)) (c s : Nat) : Option (List rx_S) := match q with
  | some (i1, i2) => some [(pc, lv, st, hp, i1, c, s), (pc, lv, st, hp, i2, c, s)]
  | none => none
/-- cut in the middle -/
noncomputable def rx_half (pc : Nat) (lv : rx_L) (st : List Nat) (hp : rx_H) (iv : rx_I) (c s : Nat) (v : Nat) : Option (List rx_S) := match rx_io iv v with
  | some (a, b) => rx_two pc lv st hp (rx_cut iv v (Nat.div (Nat.add a b) 2)) c s
  | none => none
noncomputable def rx_sml (iv : rx_I) (v : Nat) : Bool := bif Nat.beq (rx_tk v) 3 then (match rx_nth iv (rx_pl v) with
    | some (a, b) => Nat.ble b (Nat.add a 15)
    | none => false) else false
/-- what stood ahead of a local that is written goes, if it was a long -/
noncomputable def rx_low (lv : rx_L) (i : Nat) : rx_L := Nat.casesOn i lv (fun j => match rx_nth lv j with
  | some v => bif rx_isJ v then rx_upd lv j 2 else lv
  | none => lv)
noncomputable def rx_put (lv : rx_L) (i v : Nat) : rx_L := rx_upd (rx_low lv i) i v
noncomputable def rx_putJ (lv : rx_L) (i v : Nat) : rx_L := rx_upd (rx_upd (rx_low lv i) i v) (Nat.succ i) 2
/-- the locals of a method that begins: the arguments, then none -/
noncomputable def rx_args (as : List Nat) : Nat → rx_L := List.rec (motive := fun _ => Nat → rx_L) (fun n => List.replicate n 2) (fun v _ ih n => bif rx_isJ v then v :: 2 :: ih (n - 2) else v :: ih (n - 1)) as
noncomputable def rx_tri (k : ClassFile.Cond) (x y : Nat × Nat) : Option Bool := match k with
  | .lt => bif Nat.blt x.2 y.1 then some true else bif Nat.ble y.2 x.1 then some false else none
  | .ge => bif Nat.blt x.2 y.1 then some false else bif Nat.ble y.2 x.1 then some true else none
  | .gt => bif Nat.blt y.2 x.1 then some true else bif Nat.ble x.2 y.1 then some false else none
  | .le => bif Nat.blt y.2 x.1 then some false else bif Nat.ble x.2 y.1 then some true else none
  | .eq => bif Nat.blt x.2 y.1 || Nat.blt y.2 x.1 then some false else bif Nat.beq x.1 x.2 && (Nat.beq y.1 y.2 && Nat.beq x.1 y.1) then some true else none
  | .ne => bif Nat.blt x.2 y.1 || Nat.blt y.2 x.1 then some true else bif Nat.beq x.1 x.2 && (Nat.beq y.1 y.2 && Nat.beq x.1 y.1) then some false else none
/-- a jump to t, or on -/
noncomputable def rx_br (k : ClassFile.Cond) (t pc : Nat) (x y : Nat) (st r : List Nat) (lv : rx_L) (hp : rx_H) (iv : rx_I) (c s : Nat) : Option (List rx_S) := match rx_io iv x, rx_io iv y with
  | some a, some b => (match rx_tri k a b with
    | some true => some [(t, lv, r, hp, iv, c, s)]
    | some false => some [(Nat.add pc 3, lv, r, hp, iv, c, s)]
    | none => bif Nat.beq b.1 b.2 then rx_two pc lv st hp (rx_cut iv x (bif Nat.blt a.1 b.1 then Nat.pred b.1 else b.1)) c s else rx_two pc lv st hp (rx_cut iv y (bif Nat.blt b.1 a.1 then Nat.pred a.1 else a.1)) c s)
  | _, _ => none
noncomputable def rx_within (iv : rx_I) (v a b : Nat) : Bool := match rx_io iv v with
  | some (x, y) => Nat.ble a x && Nat.ble y b
  | none => false
noncomputable def rx_bit (v : Nat) : Bool := Nat.beq v 0 || Nat.beq v 4
noncomputable def rx_obj (hp : rx_H) (k v : Nat) : Bool := Nat.beq (rx_tk v) 2 && (Nat.ble 2 (rx_pl v) && (match rx_hg hp (Nat.sub (rx_pl v) 2) with
    | some (t, _, _) => Nat.beq t k
    | none => false))
noncomputable def rx_nk (t : ArrayType) : Option (Nat × Nat) := match t with
  | .byte => some (12, 0) | .int => some (13, 0) | .long => some (14, 1) | .boolean => some (15, 0) | _ => none
/-- a field is written: kind 0 int, 1 boolean, 2 a reference -/
noncomputable def rx_fok (k v : Nat) : Bool := bif Nat.beq k 0 then rx_isI v else bif Nat.beq k 1 then rx_bit v else bif Nat.beq k 2 then rx_isA v else false
end
section
noncomputable def rx_h_ld (ok : Nat → Bool) (i n : Nat) : rx_Hd := fun _ _ pc _ _ lv st hp iv c s => match rx_nth lv i with
  | some v => bif ok v then some [(Nat.add pc n, lv, v :: st, hp, iv, c, s)] else none
  | none => none
noncomputable def rx_h_sto (ok : Nat → Bool) (i n : Nat) : rx_Hd := fun _ r pc _ _ lv st hp iv c s => match st with
  | v :: st' => bif ok v && Nat.blt i (rx_mL r) then some [(Nat.add pc n, rx_put lv i v, st', hp, iv, c, s)] else none
  | [] => none
noncomputable def rx_h_stJ (i n : Nat) : rx_Hd := fun _ r pc _ _ lv st hp iv c s => match st with
  | v :: st' => bif rx_isJ v && Nat.blt (Nat.succ i) (rx_mL r) then some [(Nat.add pc n, rx_putJ lv i v, st', hp, iv, c, s)] else none
  | [] => none
noncomputable def rx_h_inc (i : Nat) : rx_Hd := fun _ r pc a _ lv st hp iv c s => match rx_nth lv i with
    | some v => bif Nat.beq (rx_tk v) 0 && Nat.blt i (rx_mL r) then some [(Nat.add pc 3, rx_put lv i (rx_int (Nat.mod (Nat.add (rx_pl v) a) 4294967296)), st, hp, iv, c, s)] else none
    | none => none
noncomputable def rx_h_psh (n : Nat) : rx_Hd := fun _ _ pc a _ lv st hp iv c s => some [(Nat.add pc n, lv, rx_int a :: st, hp, iv, c, s)]
noncomputable def rx_h_pshJ (n : Nat) : rx_Hd := fun _ _ pc a _ lv st hp iv c s => some [(Nat.add pc n, lv, rx_lng a :: st, hp, iv, c, s)]
/-- arithmetic of two ints: f of known ones; g: the interval of what comes, if one is not known -/
noncomputable def rx_h_ar (f : Nat → Nat → Option Nat) (g : Nat → Nat × Nat) : rx_Hd := fun _ _ pc _ _ lv st hp iv c s => match st with
  | y0 :: x0 :: st' =>
    bif Nat.beq (rx_tk (rx_kn iv x0)) 0 && Nat.beq (rx_tk (rx_kn iv y0)) 0 then (match f (rx_pl (rx_kn iv x0)) (rx_pl (rx_kn iv y0)) with
      | some n => some [(Nat.add pc 1, lv, rx_int n :: st', hp, iv, c, s)]
      | none => none)
    else bif rx_sml iv (rx_kn iv y0) then rx_half pc lv st hp iv c s (rx_kn iv y0)
    else bif rx_sml iv (rx_kn iv x0) then rx_half pc lv st hp iv c s (rx_kn iv x0)
    else bif rx_isI x0 && rx_isI y0 then some [(Nat.add pc 1, lv, rx_sym (rx_len iv) :: st', hp, iv ++ [g (rx_kn iv y0)], c, s)] else none
  | _ => none
noncomputable def rx_g32 : Nat → Nat × Nat := fun _ => (0, 4294967295)
/-- of x &&& n, if n is known and not below 0 -/
noncomputable def rx_gand : Nat → Nat × Nat := fun y => bif Nat.beq (rx_tk y) 0 && Nat.blt (rx_pl y) 2147483648 then (2147483648, Nat.add (rx_pl y) 2147483648) else (0, 4294967295)
noncomputable def rx_f_add : Nat → Nat → Option Nat := fun x y => some (Nat.mod (Nat.add x y) 4294967296)
noncomputable def rx_f_sub : Nat → Nat → Option Nat := fun x y => some (Nat.mod (Nat.add x (Nat.sub 4294967296 (Nat.mod y 4294967296))) 4294967296)
noncomputable def rx_f_mul : Nat → Nat → Option Nat := fun x y => some (Nat.mod (Nat.mul x y) 4294967296)
noncomputable def rx_f_and : Nat → Nat → Option Nat := fun x y => some (Nat.mod (Nat.land x y) 4294967296)
noncomputable def rx_f_shl : Nat → Nat → Option Nat := fun x y => bif Nat.blt y 32 && Nat.blt (Nat.mul x (Nat.pow 2 y)) 4294967296 then some (Nat.mul x (Nat.pow 2 y)) else none
noncomputable def rx_f_ushr : Nat → Nat → Option Nat := fun x y => bif Nat.blt y 32 && Nat.blt x 4294967296 then some (Nat.div x (Nat.pow 2 y)) else none
noncomputable def rx_f_no : Nat → Nat → Option Nat := fun _ _ => none
noncomputable def rx_h_i2b : rx_Hd := fun _ _ pc _ _ lv st hp iv c s => match st with
    | v :: st' => bif rx_isI v then some [(Nat.add pc 1, lv, rx_sym (rx_len iv) :: st', hp, iv ++ [(2147483520, 2147483775)], c, s)] else none
    | [] => none
noncomputable def rx_h_lcmp : rx_Hd := fun _ _ pc _ _ lv st hp iv c s => match st with
    | y :: x :: st' => bif rx_isJ x && Nat.beq x y then some [(Nat.add pc 1, lv, 0 :: st', hp, iv, c, s)] else none
    | _ => none
noncomputable def rx_h_dup : rx_Hd := fun _ _ pc _ _ lv st hp iv c s => match st with
    | v :: st' => bif rx_isJ v then none else some [(Nat.add pc 1, lv, v :: v :: st', hp, iv, c, s)]
    | [] => none
noncomputable def rx_h_pop : rx_Hd := fun _ _ pc _ _ lv st hp iv c s => match st with
    | v :: st' => bif rx_isJ v then none else some [(Nat.add pc 1, lv, st', hp, iv, c, s)]
    | [] => none
noncomputable def rx_h_dup2 : rx_Hd := fun _ _ pc _ _ lv st hp iv c s => match st with
    | v :: w :: st' => bif rx_isJ v || rx_isJ w then none else some [(Nat.add pc 1, lv, v :: w :: v :: w :: st', hp, iv, c, s)]
    | _ => none
noncomputable def rx_h_goto : rx_Hd := fun _ _ _ a _ lv st hp iv c s => some [(a, lv, st, hp, iv, c, s)]
noncomputable def rx_h_if (k : ClassFile.Cond) : rx_Hd := fun _ _ pc a _ lv st hp iv c s => match st with
    | x :: st' => rx_br k a pc x 0 st st' lv hp iv c s
    | [] => none
noncomputable def rx_h_icmp (k : ClassFile.Cond) : rx_Hd := fun _ _ pc a _ lv st hp iv c s => match st with
    | y :: x :: st' => rx_br k a pc x y st st' lv hp iv c s
    | _ => none
/-- a switch: a is where it goes if none fits -/
noncomputable def rx_tsw1 (LB HB : Nat) (offs : Array Int) (pc a v x y : Nat) (lv : rx_L) (st' : List Nat) (hp : rx_H) (iv : rx_I) (c s : Nat) : Option (List rx_S) :=
      bif Nat.blt y LB || Nat.blt HB x then some [(a, lv, st', hp, iv, c, s)]
      else bif Nat.beq x y then (match offs[Nat.sub x LB]? with
        | some o => (match (pc : Int) + o with
          | .ofNat t => some [(t, lv, st', hp, iv, c, s)]
          | _ => none)
        | none => none)
      else rx_two pc lv (v :: st') hp (rx_cut iv v (bif Nat.blt x LB then Nat.pred LB else bif Nat.blt HB y then HB else Nat.div (Nat.add x y) 2)) c s
noncomputable def rx_tsw2 (q : Option (Nat × Nat)) (lo hi : Int) (offs : Array Int) (pc a v : Nat) (lv : rx_L) (st' : List Nat) (hp : rx_H) (iv : rx_I) (c s : Nat) : Option (List rx_S) := match q, lo, hi with
    | some (x, y), .ofNat l0, .ofNat h0 => rx_tsw1 (Nat.add l0 2147483648) (Nat.add h0 2147483648) offs pc a v x y lv st' hp iv c s
    | _, _, _ => none
noncomputable def rx_h_tsw (lo hi : Int) (offs : Array Int) : rx_Hd := fun _ _ pc a _ lv st hp iv c s => match st with
  | v :: st' => rx_tsw2 (rx_io iv v) lo hi offs pc a v lv st' hp iv c s
  | [] => none
noncomputable def rx_h_gf : rx_Hd := fun _ _ pc a b lv st hp iv c s => match st with
  | v :: st' => bif Nat.beq (rx_tk v) 2 && Nat.ble 2 (rx_pl v) then (match rx_hg hp (Nat.sub (rx_pl v) 2) with
    | some (t, _, l) => bif Nat.beq t a then (match rx_nth l b with
        | some x => some [(Nat.add pc 3, lv, x :: st', hp, iv, c, s)]
        | none => none) else none
    | none => none) else none
  | [] => none
noncomputable def rx_h_pf : rx_Hd := fun K _ pc a b lv st hp iv c s => match st with
  | x :: v :: st' => bif Nat.beq (rx_tk v) 2 && Nat.ble 2 (rx_pl v) then (match rx_hg hp (Nat.sub (rx_pl v) 2) with
    | some (t, n, l) => (match rx_nth K.2 a with
      | some ks => (match rx_nth ks b with
        | some k => bif Nat.beq t a && (Nat.blt b n && rx_fok k x) then some [(Nat.add pc 3, lv, st', rx_hs hp (Nat.sub (rx_pl v) 2) (t, n, rx_upd l b x), iv, c, s)] else none
        | none => none)
      | none => none)
    | none => none) else none
  | _ => none
/-- an array is read: kinds that will do -/
noncomputable def rx_h_ald (ok : Nat → Bool) : rx_Hd := fun _ r pc _ _ lv st hp iv c s => match st with
  | ix :: v :: st' =>
    bif Nat.beq v 6 then (bif Nat.beq (rx_tk (rx_kn iv ix)) 0 && (ok 13 && (Nat.blt (Nat.succ (rx_pl (rx_kn iv ix))) (rx_sl r) && Nat.blt (rx_pl (rx_kn iv ix)) 6)) then some [(Nat.add pc 1, lv, rx_sym (rx_pl (rx_kn iv ix)) :: st', hp, iv, c, s)] else none)
    else bif Nat.beq (rx_tk v) 2 && Nat.ble 2 (rx_pl v) then (match rx_hg hp (Nat.sub (rx_pl v) 2) with
    | some (t, n, l) => bif Nat.beq (rx_tk (rx_kn iv ix)) 0 then (bif ok t && (Nat.blt (rx_pl (rx_kn iv ix)) n && Nat.blt n 100000) then (match rx_nth l (rx_pl (rx_kn iv ix)) with
          | some x => some [(Nat.add pc 1, lv, x :: st', hp, iv, c, s)]
          | none => none) else none)
        else rx_half pc lv st hp iv c s (rx_kn iv ix)
    | none => none) else none
  | _ => none
/-- an array is written: whether a value will do in a kind of array -/
noncomputable def rx_ast (ok : Nat → Nat → Bool) (pc : Nat) (lv : rx_L) (st : List Nat) (hp : rx_H) (iv : rx_I) (c s : Nat) : Option (List rx_S) := match st with
  | x :: ix :: v :: st' => bif Nat.beq (rx_tk v) 2 && Nat.ble 2 (rx_pl v) then (match rx_hg hp (Nat.sub (rx_pl v) 2) with
    | some (t, n, l) => bif Nat.beq (rx_tk (rx_kn iv ix)) 0 then (bif ok t x && (Nat.blt (rx_pl (rx_kn iv ix)) n && Nat.blt n 100000) then some [(Nat.add pc 1, lv, st', rx_hs hp (Nat.sub (rx_pl v) 2) (t, n, rx_upd l (rx_pl (rx_kn iv ix)) x), iv, c, s)] else none)
        else rx_half pc lv st hp iv c s (rx_kn iv ix)
    | none => none) else none
  | _ => none
noncomputable def rx_h_iast : rx_Hd := fun _ _ pc _ _ lv st hp iv c s => rx_ast (fun t v => Nat.beq t 13 && rx_isI v) pc lv st hp iv c s
noncomputable def rx_h_bast : rx_Hd := fun _ _ pc _ _ lv st hp iv c s => rx_ast (fun t v => (Nat.beq t 12 && rx_within iv v 2147483520 2147483775) || (Nat.beq t 15 && rx_bit v)) pc lv st hp iv c s
noncomputable def rx_h_aast : rx_Hd := fun _ _ pc _ _ lv st hp iv c s => rx_ast (fun t v => Nat.beq t 16 && rx_obj hp 7 v) pc lv st hp iv c s
noncomputable def rx_h_alen : rx_Hd := fun _ r pc _ _ lv st hp iv c s => match st with
    | v :: st' => bif Nat.beq v 6 && Nat.blt 0 (rx_sl r) then some [(Nat.add pc 1, lv, rx_int (Nat.pred (rx_sl r)) :: st', hp, iv, c, s)] else none
    | [] => none
/-- a new cell: there is a place, and room -/
noncomputable def rx_new (r : rx_N) (pc : Nat) (lv : rx_L) (st : List Nat) (hp : rx_H) (iv : rx_I) (c s : Nat) (x : rx_C) : Option (List rx_S) :=
  bif Nat.blt hp.1 256 && (Nat.ble (Nat.succ c) (rx_rc r) && Nat.ble (Nat.add s x.2.1) (rx_rs r)) then some [(pc, lv, rx_ref hp.1 :: st, rx_hp hp x, iv, Nat.succ c, Nat.add s x.2.1)] else none
noncomputable def rx_h_newa (t : ArrayType) : rx_Hd := fun _ r pc _ _ lv st hp iv c s => match st with
    | v :: st' => (match rx_nk t with
      | some (k, d) => bif Nat.beq (rx_tk v) 0 && Nat.ble (rx_pl v) 10000 then rx_new r (Nat.add pc 2) lv st' hp iv c s (k, rx_pl v, List.replicate (rx_pl v) d) else none
      | none => none)
    | [] => none
noncomputable def rx_h_anew : rx_Hd := fun _ r pc _ _ lv st hp iv c s => match st with
    | v :: st' => bif Nat.beq (rx_tk v) 0 && Nat.ble (rx_pl v) 10000 then rx_new r (Nat.add pc 3) lv st' hp iv c s (16, rx_pl v, List.replicate (rx_pl v) 2) else none
    | [] => none
noncomputable def rx_h_new : rx_Hd := fun K r pc a _ lv st hp iv c s => match rx_nth K.1 a with
    | some l => rx_new r (Nat.add pc 3) lv st hp iv c s (a, rx_len l, l)
    | none => none
noncomputable def rx_h_no : rx_Hd := fun _ _ _ _ _ _ _ _ _ _ _ => none
/-- what an instruction does that isn't a call or a return -/
noncomputable def rx_sem (ins : Instr) : rx_Hd := match ins with
  | .aload_n k => rx_h_ld rx_isR k.val 1
  | .iload_n k => rx_h_ld rx_isI k.val 1
  | .lload_n k => rx_h_ld rx_isJ k.val 1
  | .iload i => rx_h_ld rx_isI i 2
  | .istore_n k => rx_h_sto rx_isI k.val 1
  | .astore_n k => rx_h_sto rx_isR k.val 1
  | .istore i => rx_h_sto rx_isI i 2
  | .lstore_n k => rx_h_stJ k.val 1
  | .lstore i => rx_h_stJ i 2
  | .iinc i _ => rx_h_inc i
  | .iconst _ => rx_h_psh 1
  | .bipush _ => rx_h_psh 2
  | .sipush _ => rx_h_psh 3
  | .lconst _ => rx_h_pshJ 1
  | .ldc_w _ => rx_h_psh 3
  | .ldc2_w _ => rx_h_pshJ 3
  | .iadd => rx_h_ar rx_f_add rx_g32
  | .isub => rx_h_ar rx_f_sub rx_g32
  | .imul => rx_h_ar rx_f_mul rx_g32
  | .iand => rx_h_ar rx_f_and rx_gand
  | .ishl => rx_h_ar rx_f_shl rx_g32
  | .ishr => rx_h_ar rx_f_no rx_g32
  | .iushr => rx_h_ar rx_f_ushr rx_g32
  | .i2b => rx_h_i2b
  | .lcmp => rx_h_lcmp
  | .dup => rx_h_dup
  | .pop => rx_h_pop
  | .dup2 => rx_h_dup2
  | .goto _ => rx_h_goto
  | .ifCond k _ => rx_h_if k
  | .if_icmp k _ => rx_h_icmp k
  | .tableswitch _ lo hi offs => rx_h_tsw lo hi offs
  | .getfield _ => rx_h_gf
  | .putfield _ => rx_h_pf
  | .iaload => rx_h_ald (fun t => Nat.beq t 13)
  | .baload => rx_h_ald (fun t => Nat.beq t 12 || Nat.beq t 15)
  | .aaload => rx_h_ald (fun t => Nat.beq t 16)
  | .iastore => rx_h_iast
  | .bastore => rx_h_bast
  | .aastore => rx_h_aast
  | .arraylength => rx_h_alen
  | .newarray t => rx_h_newa t
  | .anewarray _ => rx_h_anew
  | .new _ => rx_h_new
  | _ => rx_h_no
noncomputable def rx_find (pc : Nat) (l : List rx_E) : Option rx_E := List.rec (motive := fun _ => Option rx_E) none (fun x _ ih => bif Nat.beq x.1 pc then some x else ih) l
noncomputable def rx_look (cd : List (List rx_E)) (pc : Nat) : Option rx_E := match rx_nth cd (Nat.div pc 16) with
  | some l => rx_find pc l
  | none => none
/-- all of a list -/
noncomputable def rx_all {α β : Type} (f : α → Option (List β)) (l : List α) : Option (List β) := match l with
  | [x] => f x
  | l => l.foldr (fun x acc => match f x with
    | some a => (match acc with
      | some b => some (a ++ b)
      | none => none)
    | none => none) (some [])
noncomputable def rx_cat (st : List Nat) : Nat := List.rec (motive := fun _ => Nat) 0 (fun v _ n => bif rx_isJ v then Nat.add n 2 else Nat.succ n) st
/-- a copy of a whole array of ints onto one that is as long -/
noncomputable def rx_cpy (pc : Nat) (lv : rx_L) (st : List Nat) (hp : rx_H) (iv : rx_I) (c s : Nat) : Option rx_S := match st with
  | n :: dp :: d :: sp :: q :: st' => bif Nat.beq dp 0 && (Nat.beq sp 0 && (Nat.beq (rx_tk d) 2 && (Nat.ble 2 (rx_pl d) && (Nat.beq (rx_tk q) 2 && Nat.ble 2 (rx_pl q))))) then (match rx_hg hp (Nat.sub (rx_pl q) 2), rx_hg hp (Nat.sub (rx_pl d) 2) with
    | some (t, m, l), some (t2, m2, _) => bif Nat.beq t 13 && (Nat.beq t2 13 && (Nat.beq n (rx_int m) && (Nat.beq m m2 && (Nat.blt m 100000 && Nat.ble (rx_cat st') 8)))) then some (Nat.add pc 3, lv, st', rx_hs hp (Nat.sub (rx_pl d) 2) (13, m, l), iv, c, s) else none
    | _, _ => none) else none
  | _ => none
noncomputable def rx_fit (r : rx_N) (c s : Nat) : Bool := Nat.ble c (rx_rc r) && Nat.ble s (rx_rs r)
noncomputable def rx_vret (r : rx_N) (st : List Nat) (hp : rx_H) (iv : rx_I) (c s : Nat) : Option (List rx_O) := match st with
  | [] => bif Nat.beq (rx_rk r) 0 && rx_fit r c s then some [(2, hp, iv)] else none
  | _ => none
noncomputable def rx_iret (r : rx_N) (st : List Nat) (hp : rx_H) (iv : rx_I) (c s : Nat) : Option (List rx_O) := match st with
  | [v] => bif rx_fit r c s && ((Nat.beq (rx_rk r) 1 && rx_isI v) || (Nat.beq (rx_rk r) 2 && rx_bit (rx_kn iv v))) then some [(rx_kn iv v, hp, iv)] else none
  | _ => none
noncomputable def rx_lret (r : rx_N) (st : List Nat) (hp : rx_H) (iv : rx_I) (c s : Nat) : Option (List rx_O) := match st with
  | [v] => bif rx_fit r c s && (Nat.beq (rx_rk r) 3 && rx_isJ v) then some [(v, hp, iv)] else none
  | _ => none
/-- a stack, an argument list: the first n of it the other way round, and the rest -/
noncomputable def rx_spl (n : Nat) : List Nat → List Nat → Option (List Nat × List Nat) := Nat.rec (motive := fun _ => List Nat → List Nat → Option (List Nat × List Nat)) (fun st acc => some (acc, st)) (fun _ ih st acc => match st with
  | v :: st' => ih st' (v :: acc)
  | [] => none) n
noncomputable def rx_rcv (hp : rx_H) (ci : Nat) (as : List Nat) : Bool := match as with
  | v :: _ => rx_obj hp ci v
  | [] => false
/-- there is room for a call of q out of r -/
noncomputable def rx_cok (r q : rx_N) (as rest : List Nat) (c s : Nat) : Bool := Nat.ble (rx_cat rest) 8 && (Nat.ble (Nat.succ (rx_rf q)) (rx_rf r) && (Nat.ble (Nat.add (Nat.add 19 (rx_mL q)) (rx_rl q)) (rx_rl r) && (Nat.ble (Nat.add c (rx_rc q)) (rx_rc r) && (Nat.ble (Nat.add s (rx_rs q)) (rx_rs r) && Nat.ble (rx_cat as) (rx_mL q)))))
/-- behind a call; f: what comes then -/
noncomputable def rx_beh {β : Type} (f : rx_M → rx_S → Option (List β)) (r : rx_M) (q : rx_N) (pc : Nat) (lv : rx_L) (rest : List Nat) (c s : Nat) (o : rx_O) : Option (List β) :=
  f r (Nat.add pc 3, lv, (bif Nat.beq (rx_rk q) 0 then rest else o.1 :: rest), o.2.1, o.2.2, Nat.add c (rx_rc q), Nat.add s (rx_rs q))
noncomputable def rx_inv3 {β : Type} (g : rx_M → rx_S → Option (List rx_O)) (f : rx_M → rx_S → Option (List β)) (r q : rx_M) (pc : Nat) (lv : rx_L) (hp : rx_H) (iv : rx_I) (c s : Nat) (as rest : List Nat) : Option (List β) :=
  match g q (0, rx_args as (rx_mL (rx_n q)), [], hp, iv, 0, 0) with
  | some outs => rx_all (rx_beh f r (rx_n q) pc lv rest c s) outs
  | none => none
/-- a call of a method of the table; g: what is called -/
noncomputable def rx_inv {β : Type} (stat : Bool) (P : List rx_M) (g : rx_M → rx_S → Option (List rx_O)) (f : rx_M → rx_S → Option (List β)) (r : rx_M) (pc a ci : Nat) (lv : rx_L) (st : List Nat) (hp : rx_H) (iv : rx_I) (c s : Nat) : Option (List β) := match rx_nth P a with
    | some q => (match rx_spl (bif stat then rx_np (rx_n q) else Nat.succ (rx_np (rx_n q))) st [] with
      | some (as, rest) => bif (stat || rx_rcv hp ci as) && rx_cok (rx_n r) (rx_n q) as rest c s then rx_inv3 g f r q pc lv hp iv c s as rest else none
      | none => none)
    | none => none
/-- Object's own constructor -/
noncomputable def rx_inv1 {β : Type} (f : rx_M → rx_S → Option (List β)) (r : rx_M) (pc : Nat) (lv : rx_L) (st : List Nat) (hp : rx_H) (iv : rx_I) (c s : Nat) : Option (List β) := match st with
    | v :: st' => bif Nat.beq (rx_tk v) 2 && (Nat.ble 2 (rx_pl v) && (Nat.ble 1 (rx_rf (rx_n r)) && Nat.ble (Nat.add (rx_cat st') 12) (rx_rl (rx_n r)))) then f r (Nat.add pc 3, lv, st', hp, iv, c, s) else none
    | [] => none
noncomputable def rx_inv2 {β : Type} (f : rx_M → rx_S → Option (List β)) (r : rx_M) (pc : Nat) (lv : rx_L) (st : List Nat) (hp : rx_H) (iv : rx_I) (c s : Nat) : Option (List β) := match rx_cpy pc lv st hp iv c s with
    | some σ => bif Nat.ble 1 (rx_rf (rx_n r)) && Nat.ble 40 (rx_rl (rx_n r)) then f r σ else none
    | none => none
noncomputable def rx_call {β : Type} (stat : Bool) (P : List rx_M) (g : rx_M → rx_S → Option (List rx_O)) (f : rx_M → rx_S → Option (List β)) (r : rx_M) (pc a b : Nat) (lv : rx_L) (st : List Nat) (hp : rx_H) (iv : rx_I) (c s : Nat) : Option (List β) :=
  bif Nat.beq b 1 then rx_inv1 f r pc lv st hp iv c s else bif Nat.beq b 2 then rx_inv2 f r pc lv st hp iv c s else rx_inv stat P g f r pc a (Nat.div b 4) lv st hp iv c s
noncomputable def rx_nxt {β : Type} (f : rx_M → rx_S → Option (List β)) (r : rx_M) (o : Option (List rx_S)) : Option (List β) := match o with
  | some l => rx_all (f r) l
  | none => none
noncomputable def rx_out {β : Type} (z : rx_O → Option (List β)) (o : Option (List rx_O)) : Option (List β) := match o with
  | some l => rx_all z l
  | none => none
/-- one instruction; g: what is called, f: what comes then, z: what a return makes -/
noncomputable def rx_do {β : Type} (P : List rx_M) (K : rx_K) (g : rx_M → rx_S → Option (List rx_O)) (f : rx_M → rx_S → Option (List β)) (z : rx_O → Option (List β)) (r : rx_M) (k : Nat) (h : rx_Hd) (pc a b : Nat) (lv : rx_L) (st : List Nat) (hp : rx_H) (iv : rx_I) (c s : Nat) : Option (List β) :=
  bif Nat.beq k 0 then rx_nxt f r (h K (rx_n r) pc a b lv st hp iv c s)
  else bif Nat.beq k 4 then rx_call false P g f r pc a b lv st hp iv c s
  else bif Nat.beq k 1 then rx_out z (rx_iret (rx_n r) st hp iv c s)
  else bif Nat.beq k 5 then rx_call true P g f r pc a b lv st hp iv c s
  else bif Nat.beq k 3 then rx_out z (rx_vret (rx_n r) st hp iv c s)
  else bif Nat.beq k 2 then rx_out z (rx_lret (rx_n r) st hp iv c s) else none
noncomputable def rx_go {β : Type} (P : List rx_M) (K : rx_K) (g : rx_M → rx_S → Option (List rx_O)) (f : rx_M → rx_S → Option (List β)) (z : rx_O → Option (List β)) (r : rx_M) (σ : rx_S) : Option (List β) := match rx_look (rx_cd r) σ.1 with
    | some x => rx_do P K g f z r x.2.1 x.2.2.1 σ.1 x.2.2.2.2.2.1 x.2.2.2.2.2.2.1 σ.2.1 σ.2.2.1 σ.2.2.2.1 σ.2.2.2.2.1 σ.2.2.2.2.2.1 σ.2.2.2.2.2.2
    | none => none
/-- a whole run: all outcomes -/
noncomputable def rx_run (P : List rx_M) (K : rx_K) (n : Nat) : rx_M → rx_S → Option (List rx_O) :=
  Nat.rec (fun _ _ => none) (fun _ ih r σ => rx_go P K ih ih (fun o => some [o]) r σ) n
/-- k instructions of a method's own (calls are run whole), or up to a place -/
noncomputable def rx_adv (P : List rx_M) (K : rx_K) (n stop : Nat) (r : rx_M) (k : Nat) : rx_S → Option (List rx_S) :=
  Nat.rec (fun σ => some [σ]) (fun _ ih σ => bif Nat.beq σ.1 stop then some [σ] else rx_go P K (rx_run P K n) (fun _ σ' => ih σ') (fun _ => none) r σ) k
/-- the kind of an instruction -/
noncomputable def rx_kd (ins : Instr) : Nat := match ins with
  | .ireturn => 1
  | .lreturn => 2
  | .return_ => 3
  | .invokevirtual _ => 4
  | .invokespecial _ => 4
  | .invokestatic _ => 5
  | _ => 0
end
section
/-- TurnNet$Graph.see(I)V -/
noncomputable def rxm_0 : rx_M := ((3, 0, 0, 0, 0, 1, 0, 0), [[(0, 0, rx_h_psh 1, .iconst 0, 1, 0, 0, 0, 0), (1, 0, rx_h_sto rx_isI 2 1, .istore_n 2, 1, 0, 0, 0, 0), (2, 0, rx_h_ld rx_isI 2 1, .iload_n 2, 1, 0, 0, 0, 0), (3, 0, rx_h_ld rx_isR 0 1, .aload_n 0, 1, 0, 0, 0, 0), (4, 0, rx_h_gf, .getfield 24, 3, 0, 0, 1, 233), (7, 0, rx_h_gf, .getfield 28, 3, 2, 0, 1, 35), (10, 0, rx_h_icmp .ge, .if_icmp .ge 26, 3, 36, 0, 0, 0)],
  [],
  [(36, 3, rx_h_no, .return_, 1, 0, 0, 0, 0)]], (yX0_see, cX0_see, none), ((4, 175), (4, 173), (4, 174), (1, 6)))
/-- TurnNet$Graph.pairsWithout()I -/
noncomputable def rxm_1 : rx_M := ((4, 0, 0, 0, 0, 0, 1, 0), [[(0, 0, rx_h_psh 1, .iconst 0, 1, 0, 0, 0, 0), (1, 0, rx_h_sto rx_isI 1 1, .istore_n 1, 1, 0, 0, 0, 0), (2, 0, rx_h_psh 1, .iconst 0, 1, 0, 0, 0, 0), (3, 0, rx_h_sto rx_isI 2 1, .istore_n 2, 1, 0, 0, 0, 0), (4, 0, rx_h_ld rx_isI 2 1, .iload_n 2, 1, 0, 0, 0, 0), (5, 0, rx_h_ld rx_isR 0 1, .aload_n 0, 1, 0, 0, 0, 0), (6, 0, rx_h_gf, .getfield 24, 3, 0, 0, 1, 233), (9, 0, rx_h_gf, .getfield 28, 3, 2, 0, 1, 35), (12, 0, rx_h_icmp .ge, .if_icmp .ge 41, 3, 53, 0, 0, 0)],
  [],
  [],
  [(53, 0, rx_h_ld rx_isI 1 1, .iload_n 1, 1, 0, 0, 0, 0), (54, 1, rx_h_no, .ireturn, 1, 0, 0, 0, 0)]], (yX0_pairsWithout, cX0_pairsWithout, (some .int)), ((5, 26), (5, 24), (5, 25), (1, 6)))
/-- TurnNet$History.clear()V -/
noncomputable def rxm_2 : rx_M := ((1, 0, 0, 0, 0, 0, 0, 0), [[(0, 0, rx_h_ld rx_isR 0 1, .aload_n 0, 1, 0, 0, 0, 0), (1, 0, rx_h_psh 1, .iconst 0, 1, 0, 0, 0, 0), (2, 0, rx_h_pf, .putfield 18, 3, 1, 2, 2, 126), (5, 0, rx_h_ld rx_isR 0 1, .aload_n 0, 1, 0, 0, 0, 0), (6, 0, rx_h_psh 1, .iconst 0, 1, 0, 0, 0, 0), (7, 0, rx_h_pf, .putfield 22, 3, 1, 3, 2, 128), (10, 3, rx_h_no, .return_, 1, 0, 0, 0, 0)]], (yX1_clear, cX1_clear, none), ((3, 115), (3, 113), (3, 114), (1, 10)))
/-- TurnNet$Net.clear()V -/
noncomputable def rxm_3 : rx_M := ((1, 0, 0, 0, 0, 0, 0, 0), [[(0, 0, rx_h_ld rx_isR 0 1, .aload_n 0, 1, 0, 0, 0, 0), (1, 0, rx_h_psh 1, .iconst 0, 1, 0, 0, 0, 0), (2, 0, rx_h_pf, .putfield 34, 3, 2, 0, 1, 34), (5, 0, rx_h_ld rx_isR 0 1, .aload_n 0, 1, 0, 0, 0, 0), (6, 0, rx_h_psh 1, .iconst 0, 1, 0, 0, 0, 0), (7, 0, rx_h_pf, .putfield 37, 3, 2, 1, 1, 42), (10, 0, rx_h_ld rx_isR 0 1, .aload_n 0, 1, 0, 0, 0, 0), (11, 0, rx_h_psh 1, .iconst 0, 1, 0, 0, 0, 0), (12, 0, rx_h_pf, .putfield 40, 3, 2, 2, 1, 48), (15, 0, rx_h_ld rx_isR 0 1, .aload_n 0, 1, 0, 0, 0, 0)],
  [(16, 0, rx_h_psh 1, .iconst 1, 1, 1, 0, 0, 0), (17, 0, rx_h_pf, .putfield 9, 3, 2, 3, 1, 51), (20, 0, rx_h_ld rx_isR 0 1, .aload_n 0, 1, 0, 0, 0, 0), (21, 0, rx_h_psh 1, .iconst 0, 1, 0, 0, 0, 0), (22, 0, rx_h_pf, .putfield 43, 3, 2, 4, 1, 55), (25, 0, rx_h_ld rx_isR 0 1, .aload_n 0, 1, 0, 0, 0, 0), (26, 0, rx_h_psh 1, .iconst 0, 1, 0, 0, 0, 0), (27, 0, rx_h_pf, .putfield 46, 3, 2, 5, 1, 58), (30, 3, rx_h_no, .return_, 1, 0, 0, 0, 0)]], (yX2_clear, cX2_clear, none), ((2, 208), (2, 206), (2, 207), (1, 2)))
/-- TurnNet$Net.listChannels()V -/
noncomputable def rxm_4 : rx_M := ((4, 0, 0, 0, 0, 0, 0, 0), [[(0, 0, rx_h_psh 1, .iconst 0, 1, 0, 0, 0, 0), (1, 0, rx_h_sto rx_isI 1 1, .istore_n 1, 1, 0, 0, 0, 0), (2, 0, rx_h_psh 1, .iconst 0, 1, 0, 0, 0, 0), (3, 0, rx_h_sto rx_isI 2 1, .istore_n 2, 1, 0, 0, 0, 0), (4, 0, rx_h_ld rx_isI 2 1, .iload_n 2, 1, 0, 0, 0, 0), (5, 0, rx_h_ld rx_isR 0 1, .aload_n 0, 1, 0, 0, 0, 0), (6, 0, rx_h_gf, .getfield 34, 3, 2, 0, 1, 34), (9, 0, rx_h_icmp .ge, .if_icmp .ge 52, 3, 61, 0, 0, 0)],
  [],
  [],
  [(61, 0, rx_h_ld rx_isR 0 1, .aload_n 0, 1, 0, 0, 0, 0), (62, 0, rx_h_gf, .getfield 22, 3, 2, 8, 1, 73)],
  [(65, 0, rx_h_ld rx_isR 0 1, .aload_n 0, 1, 0, 0, 0, 0), (66, 0, rx_h_gf, .getfield 34, 3, 2, 0, 1, 34), (69, 0, rx_h_ld rx_isI 1 1, .iload_n 1, 1, 0, 0, 0, 0), (70, 0, rx_h_iast, .iastore, 1, 0, 0, 0, 0), (71, 3, rx_h_no, .return_, 1, 0, 0, 0, 0)]], (yX2_listChannels, cX2_listChannels, none), ((3, 107), (3, 106), (0, 13), (1, 2)))
/-- TurnNet$Net.channels()I -/
noncomputable def rxm_5 : rx_M := ((1, 0, 0, 0, 0, 0, 1, 0), [[(0, 0, rx_h_psh 1, .iconst 2, 1, 2, 0, 0, 0), (1, 0, rx_h_ld rx_isR 0 1, .aload_n 0, 1, 0, 0, 0, 0), (2, 0, rx_h_gf, .getfield 37, 3, 2, 1, 1, 42), (5, 0, rx_h_ar rx_f_mul rx_g32, .imul, 1, 0, 0, 0, 0), (6, 1, rx_h_no, .ireturn, 1, 0, 0, 0, 0)]], (yX2_channels, cX2_channels, (some .int)), ((3, 66), (3, 64), (3, 65), (1, 2)))
/-- TurnNet$Net.allLinks()I -/
noncomputable def rxm_6 : rx_M := ((1, 0, 0, 0, 0, 0, 1, 0), [[(0, 0, rx_h_psh 1, .iconst 1, 1, 1, 0, 0, 0), (1, 0, rx_h_ld rx_isR 0 1, .aload_n 0, 1, 0, 0, 0, 0), (2, 0, rx_h_gf, .getfield 37, 3, 2, 1, 1, 42), (5, 0, rx_h_ar rx_f_shl rx_g32, .ishl, 1, 0, 0, 0, 0), (6, 0, rx_h_psh 1, .iconst 1, 1, 1, 0, 0, 0), (7, 0, rx_h_ar rx_f_sub rx_g32, .isub, 1, 0, 0, 0, 0), (8, 1, rx_h_no, .ireturn, 1, 0, 0, 0, 0)]], (yX2_allLinks, cX2_allLinks, (some .int)), ((3, 119), (3, 117), (3, 118), (1, 2)))
/-- TurnNet$Net.hasSwitch(I)Z -/
noncomputable def rxm_7 : rx_M := ((2, 0, 0, 0, 0, 1, 2, 0), [[(0, 0, rx_h_ld rx_isI 1 1, .iload_n 1, 1, 0, 0, 0, 0), (1, 0, rx_h_if .lt, .ifCond .lt 15, 3, 16, 0, 0, 0), (4, 0, rx_h_ld rx_isI 1 1, .iload_n 1, 1, 0, 0, 0, 0), (5, 0, rx_h_ld rx_isR 0 1, .aload_n 0, 1, 0, 0, 0, 0), (6, 0, rx_h_gf, .getfield 34, 3, 2, 0, 1, 34), (9, 0, rx_h_icmp .ge, .if_icmp .ge 7, 3, 16, 0, 0, 0)],
  [(16, 0, rx_h_psh 1, .iconst 0, 1, 0, 0, 0, 0), (17, 1, rx_h_no, .ireturn, 1, 0, 0, 0, 0)]], (yX2_hasSwitch, cX2_hasSwitch, (some .boolean)), ((3, 135), (3, 133), (3, 134), (1, 2)))
/-- TurnNet$Net.hasLink(I)Z -/
noncomputable def rxm_8 : rx_M := ((2, 0, 0, 0, 0, 1, 2, 0), [[(0, 0, rx_h_ld rx_isI 1 1, .iload_n 1, 1, 0, 0, 0, 0), (1, 0, rx_h_if .lt, .ifCond .lt 15, 3, 16, 0, 0, 0), (4, 0, rx_h_ld rx_isI 1 1, .iload_n 1, 1, 0, 0, 0, 0), (5, 0, rx_h_ld rx_isR 0 1, .aload_n 0, 1, 0, 0, 0, 0), (6, 0, rx_h_gf, .getfield 37, 3, 2, 1, 1, 42), (9, 0, rx_h_icmp .ge, .if_icmp .ge 7, 3, 16, 0, 0, 0)],
  [(16, 0, rx_h_psh 1, .iconst 0, 1, 0, 0, 0, 0), (17, 1, rx_h_no, .ireturn, 1, 0, 0, 0, 0)]], (yX2_hasLink, cX2_hasLink, (some .boolean)), ((3, 171), (3, 169), (3, 170), (1, 2)))
/-- TurnNet$Order.upEnds()I -/
noncomputable def rxm_9 : rx_M := ((3, 0, 0, 0, 0, 0, 1, 0), [[(0, 0, rx_h_psh 1, .iconst 0, 1, 0, 0, 0, 0), (1, 0, rx_h_sto rx_isI 1 1, .istore_n 1, 1, 0, 0, 0, 0), (2, 0, rx_h_psh 1, .iconst 0, 1, 0, 0, 0, 0), (3, 0, rx_h_sto rx_isI 2 1, .istore_n 2, 1, 0, 0, 0, 0), (4, 0, rx_h_ld rx_isI 2 1, .iload_n 2, 1, 0, 0, 0, 0), (5, 0, rx_h_ld rx_isR 0 1, .aload_n 0, 1, 0, 0, 0, 0), (6, 0, rx_h_gf, .getfield 26, 3, 3, 0, 1, 163), (9, 0, rx_h_gf, .getfield 75, 3, 2, 1, 1, 46), (12, 0, rx_h_icmp .ge, .if_icmp .ge 44, 3, 56, 0, 0, 0)],
  [],
  [],
  [(56, 0, rx_h_ld rx_isI 1 1, .iload_n 1, 1, 0, 0, 0, 0), (57, 1, rx_h_no, .ireturn, 1, 0, 0, 0, 0)]], (yX3_upEnds, cX3_upEnds, (some .int)), ((3, 151), (3, 149), (3, 150), (1, 4)))
/-- TurnNet$Reader.append(I)V -/
noncomputable def rxm_10 : rx_M := ((3, 0, 0, 0, 0, 1, 0, 0), [[(0, 0, rx_h_psh 2, .bipush 24, 2, 24, 0, 0, 0), (2, 0, rx_h_sto rx_isI 2 1, .istore_n 2, 1, 0, 0, 0, 0), (3, 0, rx_h_ld rx_isI 2 1, .iload_n 2, 1, 0, 0, 0, 0), (4, 0, rx_h_if .lt, .ifCond .lt 42, 3, 46, 0, 0, 0), (7, 0, rx_h_ld rx_isR 0 1, .aload_n 0, 1, 0, 0, 0, 0), (8, 0, rx_h_gf, .getfield 26, 3, 5, 1, 1, 117), (11, 0, rx_h_psh 3, .sipush 800, 3, 800, 0, 0, 0), (14, 0, rx_h_icmp .ge, .if_icmp .ge 26, 3, 40, 0, 0, 0)],
  [(17, 0, rx_h_ld rx_isR 0 1, .aload_n 0, 1, 0, 0, 0, 0), (18, 0, rx_h_gf, .getfield 9, 3, 5, 0, 1, 115), (21, 0, rx_h_ld rx_isR 0 1, .aload_n 0, 1, 0, 0, 0, 0), (22, 0, rx_h_gf, .getfield 26, 3, 5, 1, 1, 117), (25, 0, rx_h_ld rx_isI 1 1, .iload_n 1, 1, 0, 0, 0, 0), (26, 0, rx_h_ld rx_isI 2 1, .iload_n 2, 1, 0, 0, 0, 0), (27, 0, rx_h_ar rx_f_no rx_g32, .ishr, 1, 0, 0, 0, 0), (28, 0, rx_h_i2b, .i2b, 1, 0, 0, 0, 0), (29, 0, rx_h_bast, .bastore, 1, 0, 0, 0, 0), (30, 0, rx_h_ld rx_isR 0 1, .aload_n 0, 1, 0, 0, 0, 0), (31, 0, rx_h_dup, .dup, 1, 0, 0, 0, 0)],
  [(32, 0, rx_h_gf, .getfield 26, 3, 5, 1, 1, 117), (35, 0, rx_h_psh 1, .iconst 1, 1, 1, 0, 0, 0), (36, 0, rx_h_ar rx_f_add rx_g32, .iadd, 1, 0, 0, 0, 0), (37, 0, rx_h_pf, .putfield 26, 3, 5, 1, 1, 117), (40, 0, rx_h_inc 2, .iinc 2 (-8), 3, 4294967288, 0, 0, 0), (43, 0, rx_h_goto, .goto (-40), 3, 3, 0, 0, 0), (46, 3, rx_h_no, .return_, 1, 0, 0, 0, 0)]], (yX5_append, cX5_append, none), ((2, 192), (2, 190), (2, 191), (1, 3)))
/-- TurnNet$Reader.advance()V -/
noncomputable def rxm_11 : rx_M := ((3, 0, 0, 0, 0, 0, 0, 0), [[(0, 0, rx_h_ld rx_isR 0 1, .aload_n 0, 1, 0, 0, 0, 0), (1, 0, rx_h_gf, .getfield 35, 3, 5, 5, 1, 124), (4, 0, rx_h_ld rx_isR 0 1, .aload_n 0, 1, 0, 0, 0, 0), (5, 0, rx_h_gf, .getfield 26, 3, 5, 1, 1, 117), (8, 0, rx_h_icmp .ge, .if_icmp .ge 44, 3, 52, 0, 0, 0)],
  [],
  [],
  [(52, 0, rx_h_ld rx_isR 0 1, .aload_n 0, 1, 0, 0, 0, 0), (53, 0, rx_h_ld rx_isR 0 1, .aload_n 0, 1, 0, 0, 0, 0), (54, 0, rx_h_gf, .getfield 35, 3, 5, 5, 1, 124), (57, 0, rx_h_pf, .putfield 61, 3, 5, 6, 1, 125), (60, 0, rx_h_ld rx_isR 0 1, .aload_n 0, 1, 0, 0, 0, 0), (61, 0, rx_h_psh 1, .iconst 0, 1, 0, 0, 0, 0), (62, 0, rx_h_pf, .putfield 78, 3, 5, 8, 1, 127)],
  [(65, 0, rx_h_ld rx_isR 0 1, .aload_n 0, 1, 0, 0, 0, 0), (66, 0, rx_h_gf, .getfield 35, 3, 5, 5, 1, 124), (69, 0, rx_h_ld rx_isR 0 1, .aload_n 0, 1, 0, 0, 0, 0), (70, 0, rx_h_gf, .getfield 26, 3, 5, 1, 1, 117), (73, 0, rx_h_icmp .lt, .if_icmp .lt 9, 3, 82, 0, 0, 0), (76, 0, rx_h_ld rx_isR 0 1, .aload_n 0, 1, 0, 0, 0, 0), (77, 0, rx_h_psh 1, .iconst 0, 1, 0, 0, 0, 0), (78, 0, rx_h_pf, .putfield 51, 3, 5, 7, 1, 126)],
  [(81, 3, rx_h_no, .return_, 1, 0, 0, 0, 0)]], (yX5_advance, cX5_advance, none), ((2, 212), (2, 211), (0, 0), (1, 3)))
/-- TurnNet$Routes.forget()V -/
noncomputable def rxm_12 : rx_M := ((1, 0, 0, 0, 0, 0, 0, 0), [[(0, 0, rx_h_ld rx_isR 0 1, .aload_n 0, 1, 0, 0, 0, 0), (1, 0, rx_h_psh 1, .iconst 0, 1, 0, 0, 0, 0), (2, 0, rx_h_pf, .putfield 38, 3, 6, 3, 1, 191), (5, 0, rx_h_ld rx_isR 0 1, .aload_n 0, 1, 0, 0, 0, 0), (6, 0, rx_h_psh 1, .iconst 0, 1, 0, 0, 0, 0), (7, 0, rx_h_pf, .putfield 42, 3, 6, 4, 1, 192), (10, 3, rx_h_no, .return_, 1, 0, 0, 0, 0)]], (yX6_forget, cX6_forget, none), ((3, 111), (3, 109), (3, 110), (1, 5)))
/-- TurnNet$Routes.pairsWithout()I -/
noncomputable def rxm_13 : rx_M := ((4, 0, 0, 0, 0, 0, 1, 0), [[(0, 0, rx_h_psh 1, .iconst 0, 1, 0, 0, 0, 0), (1, 0, rx_h_sto rx_isI 1 1, .istore_n 1, 1, 0, 0, 0, 0), (2, 0, rx_h_psh 1, .iconst 0, 1, 0, 0, 0, 0), (3, 0, rx_h_sto rx_isI 2 1, .istore_n 2, 1, 0, 0, 0, 0), (4, 0, rx_h_ld rx_isI 2 1, .iload_n 2, 1, 0, 0, 0, 0), (5, 0, rx_h_ld rx_isR 0 1, .aload_n 0, 1, 0, 0, 0, 0), (6, 0, rx_h_gf, .getfield 34, 3, 6, 0, 1, 188), (9, 0, rx_h_gf, .getfield 62, 3, 2, 0, 1, 38), (12, 0, rx_h_icmp .ge, .if_icmp .ge 41, 3, 53, 0, 0, 0)],
  [],
  [],
  [(53, 0, rx_h_ld rx_isI 1 1, .iload_n 1, 1, 0, 0, 0, 0), (54, 1, rx_h_no, .ireturn, 1, 0, 0, 0, 0)]], (yX6_pairsWithout, cX6_pairsWithout, (some .int)), ((5, 10), (5, 8), (5, 9), (1, 5)))
/-- TurnNet$Routes.hopsTogether()I -/
noncomputable def rxm_14 : rx_M := ((4, 0, 0, 0, 0, 0, 1, 0), [[(0, 0, rx_h_psh 1, .iconst 0, 1, 0, 0, 0, 0), (1, 0, rx_h_sto rx_isI 1 1, .istore_n 1, 1, 0, 0, 0, 0), (2, 0, rx_h_psh 1, .iconst 0, 1, 0, 0, 0, 0), (3, 0, rx_h_sto rx_isI 2 1, .istore_n 2, 1, 0, 0, 0, 0), (4, 0, rx_h_ld rx_isI 2 1, .iload_n 2, 1, 0, 0, 0, 0), (5, 0, rx_h_ld rx_isR 0 1, .aload_n 0, 1, 0, 0, 0, 0), (6, 0, rx_h_gf, .getfield 34, 3, 6, 0, 1, 188), (9, 0, rx_h_gf, .getfield 62, 3, 2, 0, 1, 38), (12, 0, rx_h_icmp .ge, .if_icmp .ge 41, 3, 53, 0, 0, 0)],
  [],
  [],
  [(53, 0, rx_h_ld rx_isI 1 1, .iload_n 1, 1, 0, 0, 0, 0), (54, 1, rx_h_no, .ireturn, 1, 0, 0, 0, 0)]], (yX6_hopsTogether, cX6_hopsTogether, (some .int)), ((5, 15), (5, 13), (5, 14), (1, 5)))
/-- TurnNet$State.begin(III)V -/
noncomputable def rxm_15 : rx_M := ((5, 0, 0, 0, 0, 3, 0, 0), [[(0, 0, rx_h_ld rx_isR 0 1, .aload_n 0, 1, 0, 0, 0, 0), (1, 0, rx_h_ld rx_isI 1 1, .iload_n 1, 1, 0, 0, 0, 0), (2, 0, rx_h_pf, .putfield 24, 3, 7, 0, 2, 80), (5, 0, rx_h_ld rx_isR 0 1, .aload_n 0, 1, 0, 0, 0, 0), (6, 0, rx_h_ld rx_isI 2 1, .iload_n 2, 1, 0, 0, 0, 0), (7, 0, rx_h_pf, .putfield 28, 3, 7, 1, 2, 82), (10, 0, rx_h_ld rx_isR 0 1, .aload_n 0, 1, 0, 0, 0, 0), (11, 0, rx_h_ld rx_isI 3 1, .iload_n 3, 1, 0, 0, 0, 0), (12, 0, rx_h_pf, .putfield 31, 3, 7, 2, 2, 85), (15, 0, rx_h_ld rx_isR 0 1, .aload_n 0, 1, 0, 0, 0, 0)],
  [(16, 0, rx_h_psh 1, .iconst 0, 1, 0, 0, 0, 0), (17, 0, rx_h_pf, .putfield 34, 3, 7, 3, 2, 87), (20, 0, rx_h_psh 1, .iconst 0, 1, 0, 0, 0, 0), (21, 0, rx_h_sto rx_isI 4 2, .istore 4, 2, 0, 0, 0, 0), (23, 0, rx_h_ld rx_isI 4 2, .iload 4, 2, 0, 0, 0, 0), (25, 0, rx_h_psh 2, .bipush 12, 2, 12, 0, 0, 0), (27, 0, rx_h_icmp .ge, .if_icmp .ge 17, 3, 44, 0, 0, 0), (30, 0, rx_h_ld rx_isR 0 1, .aload_n 0, 1, 0, 0, 0, 0), (31, 0, rx_h_gf, .getfield 9, 3, 7, 5, 2, 93)],
  [(34, 0, rx_h_ld rx_isI 4 2, .iload 4, 2, 0, 0, 0, 0), (36, 0, rx_h_psh 1, .iconst (-1), 1, 4294967295, 0, 0, 0), (37, 0, rx_h_iast, .iastore, 1, 0, 0, 0, 0), (38, 0, rx_h_inc 4, .iinc 4 1, 3, 1, 0, 0, 0), (41, 0, rx_h_goto, .goto (-18), 3, 23, 0, 0, 0), (44, 3, rx_h_no, .return_, 1, 0, 0, 0, 0)]], (yX7_begin, cX7_begin, none), ((3, 159), (3, 157), (3, 158), (1, 11)))
/-- TurnNet$State.hasPacket(I)Z -/
noncomputable def rxm_16 : rx_M := ((2, 0, 0, 0, 0, 1, 2, 0), [[(0, 0, rx_h_ld rx_isI 1 1, .iload_n 1, 1, 0, 0, 0, 0), (1, 0, rx_h_if .lt, .ifCond .lt 23, 3, 24, 0, 0, 0), (4, 0, rx_h_ld rx_isI 1 1, .iload_n 1, 1, 0, 0, 0, 0), (5, 0, rx_h_psh 2, .bipush 12, 2, 12, 0, 0, 0), (7, 0, rx_h_icmp .ge, .if_icmp .ge 17, 3, 24, 0, 0, 0), (10, 0, rx_h_ld rx_isR 0 1, .aload_n 0, 1, 0, 0, 0, 0), (11, 0, rx_h_gf, .getfield 9, 3, 7, 5, 2, 93), (14, 0, rx_h_ld rx_isI 1 1, .iload_n 1, 1, 0, 0, 0, 0), (15, 0, rx_h_ald (fun t => Nat.beq t 13), .iaload, 1, 0, 0, 0, 0)],
  [(16, 0, rx_h_psh 1, .iconst (-1), 1, 4294967295, 0, 0, 0), (17, 0, rx_h_icmp .eq, .if_icmp .eq 7, 3, 24, 0, 0, 0), (24, 0, rx_h_psh 1, .iconst 0, 1, 0, 0, 0, 0), (25, 1, rx_h_no, .ireturn, 1, 0, 0, 0, 0)]], (yX7_hasPacket, cX7_hasPacket, (some .boolean)), ((4, 91), (4, 89), (4, 90), (1, 11)))
/-- TurnNet$State.countPackets()I -/
noncomputable def rxm_17 : rx_M := ((3, 0, 0, 0, 0, 0, 1, 0), [[(0, 0, rx_h_psh 1, .iconst 0, 1, 0, 0, 0, 0), (1, 0, rx_h_sto rx_isI 1 1, .istore_n 1, 1, 0, 0, 0, 0), (2, 0, rx_h_psh 1, .iconst 0, 1, 0, 0, 0, 0), (3, 0, rx_h_sto rx_isI 2 1, .istore_n 2, 1, 0, 0, 0, 0), (4, 0, rx_h_ld rx_isI 2 1, .iload_n 2, 1, 0, 0, 0, 0), (5, 0, rx_h_psh 2, .bipush 12, 2, 12, 0, 0, 0), (7, 0, rx_h_icmp .ge, .if_icmp .ge 22, 3, 29, 0, 0, 0), (10, 0, rx_h_ld rx_isR 0 1, .aload_n 0, 1, 0, 0, 0, 0), (11, 0, rx_h_gf, .getfield 9, 3, 7, 5, 2, 93), (14, 0, rx_h_ld rx_isI 2 1, .iload_n 2, 1, 0, 0, 0, 0), (15, 0, rx_h_ald (fun t => Nat.beq t 13), .iaload, 1, 0, 0, 0, 0)],
  [(16, 0, rx_h_psh 1, .iconst (-1), 1, 4294967295, 0, 0, 0), (17, 0, rx_h_icmp .eq, .if_icmp .eq 6, 3, 23, 0, 0, 0), (23, 0, rx_h_inc 2, .iinc 2 1, 3, 1, 0, 0, 0), (26, 0, rx_h_goto, .goto (-22), 3, 4, 0, 0, 0), (29, 0, rx_h_ld rx_isI 1 1, .iload_n 1, 1, 0, 0, 0, 0), (30, 1, rx_h_no, .ireturn, 1, 0, 0, 0, 0)]], (yX7_countPackets, cX7_countPackets, (some .int)), ((5, 145), (5, 143), (5, 144), (1, 11)))
/-- TurnNet$Traffic.startCount()V -/
noncomputable def rxm_18 : rx_M := ((1, 0, 0, 0, 0, 0, 0, 0), [[(0, 0, rx_h_ld rx_isR 0 1, .aload_n 0, 1, 0, 0, 0, 0), (1, 0, rx_h_psh 1, .iconst 0, 1, 0, 0, 0, 0), (2, 0, rx_h_pf, .putfield 15, 3, 8, 1, 2, 56), (5, 0, rx_h_ld rx_isR 0 1, .aload_n 0, 1, 0, 0, 0, 0), (6, 0, rx_h_psh 1, .iconst 0, 1, 0, 0, 0, 0), (7, 0, rx_h_pf, .putfield 19, 3, 8, 2, 2, 58), (10, 3, rx_h_no, .return_, 1, 0, 0, 0, 0)]], (yX8_startCount, cX8_startCount, none), ((4, 83), (4, 81), (4, 82), (1, 9)))
/-- TurnNet.end(I)I -/
noncomputable def rxm_19 : rx_M := ((2, 0, 0, 0, 0, 1, 1, 0), [[(0, 0, rx_h_ld rx_isI 1 1, .iload_n 1, 1, 0, 0, 0, 0), (1, 0, rx_h_if .lt, .ifCond .lt 14, 3, 15, 0, 0, 0), (4, 0, rx_h_ld rx_isI 1 1, .iload_n 1, 1, 0, 0, 0, 0), (5, 0, rx_h_ld rx_isR 0 1, .aload_n 0, 1, 0, 0, 0, 0), (6, 0, rx_h_gf, .getfield 19, 3, 10, 1, 2, 142), (9, 0, rx_h_gf, .getfield 97, 3, 5, 1, 1, 116), (12, 0, rx_h_icmp .le, .if_icmp .le 5, 3, 17, 0, 0, 0), (15, 0, rx_h_psh 1, .iconst (-1), 1, 4294967295, 0, 0, 0)],
  [(16, 1, rx_h_no, .ireturn, 1, 0, 0, 0, 0), (17, 0, rx_h_ld rx_isR 0 1, .aload_n 0, 1, 0, 0, 0, 0), (18, 0, rx_h_gf, .getfield 19, 3, 10, 1, 2, 142), (21, 0, rx_h_ld rx_isI 1 1, .iload_n 1, 1, 0, 0, 0, 0), (22, 0, rx_h_pf, .putfield 97, 3, 5, 1, 1, 116), (25, 0, rx_h_ld rx_isI 1 1, .iload_n 1, 1, 0, 0, 0, 0), (26, 1, rx_h_no, .ireturn, 1, 0, 0, 0, 0)]], (yX10_end, cX10_end, (some .int)), ((2, 196), (2, 194), (2, 195), (1, 1)))
/-- TurnNet.fault(I)I -/
noncomputable def rxm_20 : rx_M := ((2, 0, 0, 0, 0, 1, 1, 0), [[(0, 0, rx_h_ld rx_isI 1 1, .iload_n 1, 1, 0, 0, 0, 0), (1, 0, rx_h_if .ne, .ifCond .ne 11, 3, 12, 0, 0, 0), (4, 0, rx_h_ld rx_isR 0 1, .aload_n 0, 1, 0, 0, 0, 0), (5, 0, rx_h_gf, .getfield 19, 3, 10, 1, 2, 142), (8, 0, rx_h_gf, .getfield 142, 3, 5, 3, 1, 121), (11, 1, rx_h_no, .ireturn, 1, 0, 0, 0, 0), (12, 0, rx_h_ld rx_isI 1 1, .iload_n 1, 1, 0, 0, 0, 0), (13, 0, rx_h_psh 1, .iconst 1, 1, 1, 0, 0, 0), (14, 0, rx_h_icmp .ne, .if_icmp .ne 13, 3, 27, 0, 0, 0)],
  [(17, 0, rx_h_ld rx_isR 0 1, .aload_n 0, 1, 0, 0, 0, 0), (18, 0, rx_h_gf, .getfield 19, 3, 10, 1, 2, 142), (21, 0, rx_h_gf, .getfield 145, 3, 5, 4, 1, 123), (24, 0, rx_h_goto, .goto 4, 3, 28, 0, 0, 0), (27, 0, rx_h_psh 1, .iconst (-1), 1, 4294967295, 0, 0, 0), (28, 1, rx_h_no, .ireturn, 1, 0, 0, 0, 0)]], (yX10_fault, cX10_fault, (some .int)), ((3, 163), (3, 161), (3, 162), (1, 1)))
/-- TurnNet.steps(I)I -/
noncomputable def rxm_21 : rx_M := ((2, 0, 0, 0, 0, 1, 1, 0), [[(0, 0, rx_h_ld rx_isR 0 1, .aload_n 0, 1, 0, 0, 0, 0), (1, 0, rx_h_gf, .getfield 12, 3, 10, 0, 2, 141), (4, 0, rx_h_gf, .getfield 139, 3, 2, 0, 1, 39), (7, 0, rx_h_if .eq, .ifCond .eq 14, 3, 21, 0, 0, 0)],
  [(21, 0, rx_h_psh 1, .iconst (-1), 1, 4294967295, 0, 0, 0), (22, 1, rx_h_no, .ireturn, 1, 0, 0, 0, 0)]], (yX10_steps, cX10_steps, (some .int)), ((4, 122), (4, 120), (4, 121), (1, 1)))
/-- TurnNet.undo()Z -/
noncomputable def rxm_22 : rx_M := ((1, 0, 0, 0, 0, 0, 2, 0), [[(0, 0, rx_h_ld rx_isR 0 1, .aload_n 0, 1, 0, 0, 0, 0), (1, 0, rx_h_gf, .getfield 75, 3, 10, 9, 2, 150), (4, 0, rx_h_gf, .getfield 201, 3, 1, 2, 2, 127), (7, 0, rx_h_if .ne, .ifCond .ne 5, 3, 12, 0, 0, 0), (10, 0, rx_h_psh 1, .iconst 0, 1, 0, 0, 0, 0), (11, 1, rx_h_no, .ireturn, 1, 0, 0, 0, 0)]], (yX10_undo, cX10_undo, (some .boolean)), ((4, 126), (4, 124), (4, 125), (1, 1)))
/-- TurnNet.redo()Z -/
noncomputable def rxm_23 : rx_M := ((1, 0, 0, 0, 0, 0, 2, 0), [[(0, 0, rx_h_ld rx_isR 0 1, .aload_n 0, 1, 0, 0, 0, 0), (1, 0, rx_h_gf, .getfield 75, 3, 10, 9, 2, 150), (4, 0, rx_h_gf, .getfield 208, 3, 1, 3, 2, 129), (7, 0, rx_h_if .ne, .ifCond .ne 5, 3, 12, 0, 0, 0), (10, 0, rx_h_psh 1, .iconst 0, 1, 0, 0, 0, 0), (11, 1, rx_h_no, .ireturn, 1, 0, 0, 0, 0)]], (yX10_redo, cX10_redo, (some .boolean)), ((4, 138), (4, 136), (4, 137), (1, 1)))
/-- TurnNet.heaviest(I)I -/
noncomputable def rxm_24 : rx_M := ((3, 0, 0, 0, 0, 1, 1, 0), [[(0, 0, rx_h_ld rx_isR 0 1, .aload_n 0, 1, 0, 0, 0, 0), (1, 0, rx_h_gf, .getfield 12, 3, 10, 0, 2, 141), (4, 0, rx_h_gf, .getfield 270, 3, 2, 1, 1, 47), (7, 0, rx_h_if .eq, .ifCond .eq 12, 3, 19, 0, 0, 0)],
  [(19, 0, rx_h_psh 1, .iconst (-1), 1, 4294967295, 0, 0, 0), (20, 1, rx_h_no, .ireturn, 1, 0, 0, 0, 0)]], (yX10_heaviest, cX10_heaviest, (some .int)), ((4, 238), (4, 236), (4, 237), (1, 1)))
/-- TurnNet.best(I)I -/
noncomputable def rxm_25 : rx_M := ((6, 0, 0, 0, 0, 1, 1, 0), [[(0, 0, rx_h_ld rx_isR 0 1, .aload_n 0, 1, 0, 0, 0, 0), (1, 0, rx_h_gf, .getfield 12, 3, 10, 0, 2, 141), (4, 0, rx_h_gf, .getfield 139, 3, 2, 0, 1, 39), (7, 0, rx_h_if .eq, .ifCond .eq 12, 3, 19, 0, 0, 0)],
  [(19, 0, rx_h_psh 1, .iconst (-1), 1, 4294967295, 0, 0, 0), (20, 1, rx_h_no, .ireturn, 1, 0, 0, 0, 0)]], (yX10_best, cX10_best, (some .int)), ((5, 81), (5, 79), (5, 80), (1, 1)))
/-- TurnNet.dearest()I -/
noncomputable def rxm_26 : rx_M := ((5, 0, 0, 0, 0, 0, 1, 0), [[(0, 0, rx_h_psh 1, .iconst (-1), 1, 4294967295, 0, 0, 0), (1, 0, rx_h_sto rx_isI 1 1, .istore_n 1, 1, 0, 0, 0, 0), (2, 0, rx_h_psh 1, .iconst (-1), 1, 4294967295, 0, 0, 0), (3, 0, rx_h_sto rx_isI 2 1, .istore_n 2, 1, 0, 0, 0, 0), (4, 0, rx_h_psh 1, .iconst 0, 1, 0, 0, 0, 0), (5, 0, rx_h_sto rx_isI 3 1, .istore_n 3, 1, 0, 0, 0, 0), (6, 0, rx_h_ld rx_isI 3 1, .iload_n 3, 1, 0, 0, 0, 0), (7, 0, rx_h_ld rx_isR 0 1, .aload_n 0, 1, 0, 0, 0, 0), (8, 0, rx_h_gf, .getfield 12, 3, 10, 0, 2, 141), (11, 0, rx_h_gf, .getfield 270, 3, 2, 1, 1, 47), (14, 0, rx_h_icmp .ge, .if_icmp .ge 57, 3, 71, 0, 0, 0)],
  [],
  [],
  [],
  [(71, 0, rx_h_ld rx_isI 1 1, .iload_n 1, 1, 0, 0, 0, 0), (72, 1, rx_h_no, .ireturn, 1, 0, 0, 0, 0)]], (yX10_dearest, cX10_dearest, (some .int)), ((5, 89), (5, 87), (5, 88), (1, 1)))
/-- TurnNet.game(III)I -/
noncomputable def rxm_27 : rx_M := ((5, 0, 0, 0, 0, 3, 1, 0), [[(0, 0, rx_h_ld rx_isR 0 1, .aload_n 0, 1, 0, 0, 0, 0), (1, 0, rx_h_gf, .getfield 12, 3, 10, 0, 2, 141), (4, 0, rx_h_gf, .getfield 139, 3, 2, 0, 1, 39), (7, 0, rx_h_if .eq, .ifCond .eq 25, 3, 32, 0, 0, 0)],
  [],
  [(32, 0, rx_h_psh 1, .iconst (-1), 1, 4294967295, 0, 0, 0), (33, 1, rx_h_no, .ireturn, 1, 0, 0, 0, 0)]], (yX10_game, cX10_game, (some .int)), ((5, 130), (5, 128), (5, 129), (1, 1)))
/-- TurnNet.back(I)I -/
noncomputable def rxm_28 : rx_M := ((2, 0, 0, 0, 0, 1, 1, 0), [[(0, 0, rx_h_ld rx_isI 1 1, .iload_n 1, 1, 0, 0, 0, 0), (1, 0, rx_h_if .lt, .ifCond .lt 17, 3, 18, 0, 0, 0), (4, 0, rx_h_ld rx_isI 1 1, .iload_n 1, 1, 0, 0, 0, 0), (5, 0, rx_h_psh 1, .iconst 2, 1, 2, 0, 0, 0), (6, 0, rx_h_icmp .ge, .if_icmp .ge 12, 3, 18, 0, 0, 0), (9, 0, rx_h_ld rx_isR 0 1, .aload_n 0, 1, 0, 0, 0, 0), (10, 0, rx_h_gf, .getfield 90, 3, 10, 12, 2, 153), (13, 0, rx_h_ld rx_isI 1 1, .iload_n 1, 1, 0, 0, 0, 0), (14, 0, rx_h_ald (fun t => Nat.beq t 12 || Nat.beq t 15), .baload, 1, 0, 0, 0, 0), (15, 0, rx_h_if .ne, .ifCond .ne 5, 3, 20, 0, 0, 0)],
  [(18, 0, rx_h_psh 1, .iconst (-1), 1, 4294967295, 0, 0, 0), (19, 1, rx_h_no, .ireturn, 1, 0, 0, 0, 0)]], (yX10_back, cX10_back, (some .int)), ((5, 171), (5, 169), (5, 170), (1, 1)))
/-- TurnNet.hopsWhereWays()I -/
noncomputable def rxm_29 : rx_M := ((4, 0, 0, 0, 0, 0, 1, 0), [[(0, 0, rx_h_psh 1, .iconst 0, 1, 0, 0, 0, 0), (1, 0, rx_h_sto rx_isI 1 1, .istore_n 1, 1, 0, 0, 0, 0), (2, 0, rx_h_psh 1, .iconst 0, 1, 0, 0, 0, 0), (3, 0, rx_h_sto rx_isI 2 1, .istore_n 2, 1, 0, 0, 0, 0), (4, 0, rx_h_ld rx_isI 2 1, .iload_n 2, 1, 0, 0, 0, 0), (5, 0, rx_h_ld rx_isR 0 1, .aload_n 0, 1, 0, 0, 0, 0), (6, 0, rx_h_gf, .getfield 12, 3, 10, 0, 2, 141), (9, 0, rx_h_gf, .getfield 139, 3, 2, 0, 1, 39), (12, 0, rx_h_icmp .ge, .if_icmp .ge 52, 3, 64, 0, 0, 0)],
  [],
  [],
  [],
  [(64, 0, rx_h_ld rx_isI 1 1, .iload_n 1, 1, 0, 0, 0, 0), (65, 1, rx_h_no, .ireturn, 1, 0, 0, 0, 0)]], (yX10_hopsWhereWays, cX10_hopsWhereWays, (some .int)), ((5, 22), (5, 21), (0, 42), (1, 1)))
/-- TurnNetModel.isIn(III)Z -/
noncomputable def rxm_30 : rx_M := ((3, 0, 0, 0, 0, 3, 2, 0), [[(0, 0, rx_h_ld rx_isI 0 1, .iload_n 0, 1, 0, 0, 0, 0), (1, 0, rx_h_ld rx_isI 1 1, .iload_n 1, 1, 0, 0, 0, 0), (2, 0, rx_h_icmp .lt, .if_icmp .lt 12, 3, 14, 0, 0, 0), (5, 0, rx_h_ld rx_isI 0 1, .iload_n 0, 1, 0, 0, 0, 0), (6, 0, rx_h_ld rx_isI 2 1, .iload_n 2, 1, 0, 0, 0, 0), (7, 0, rx_h_icmp .gt, .if_icmp .gt 7, 3, 14, 0, 0, 0), (10, 0, rx_h_psh 1, .iconst 1, 1, 1, 0, 0, 0), (11, 0, rx_h_goto, .goto 4, 3, 15, 0, 0, 0), (14, 0, rx_h_psh 1, .iconst 0, 1, 0, 0, 0, 0), (15, 1, rx_h_no, .ireturn, 1, 0, 0, 0, 0)]], (yX11_isIn, cX11_isIn, (some .boolean)), ((5, 212), (5, 211), (0, 0), (1, 12)))
/-- TurnNetModel.feed(IIIII)I -/
noncomputable def rxm_31 : rx_M := ((8, 0, 0, 0, 0, 5, 1, 0), [[(0, 0, rx_h_ld rx_isR 0 1, .aload_n 0, 1, 0, 0, 0, 0), (1, 0, rx_h_gf, .getfield 117, 3, 11, 11, 6, 15), (4, 0, rx_h_psh 2, .bipush 20, 2, 20, 0, 0, 0), (6, 0, rx_h_ar rx_f_add rx_g32, .iadd, 1, 0, 0, 0, 0), (7, 0, rx_h_psh 3, .sipush 800, 3, 800, 0, 0, 0), (10, 0, rx_h_icmp .le, .if_icmp .le 5, 3, 15, 0, 0, 0), (15, 0, rx_h_psh 1, .iconst 0, 1, 0, 0, 0, 0)],
  [(16, 0, rx_h_sto rx_isI 6 2, .istore 6, 2, 0, 0, 0, 0), (18, 0, rx_h_ld rx_isI 6 2, .iload 6, 2, 0, 0, 0, 0), (20, 0, rx_h_psh 2, .bipush 20, 2, 20, 0, 0, 0), (22, 0, rx_h_icmp .ge, .if_icmp .ge 83, 3, 105, 0, 0, 0), (25, 0, rx_h_ld rx_isI 6 2, .iload 6, 2, 0, 0, 0, 0), (27, 0, rx_h_psh 1, .iconst 4, 1, 4, 0, 0, 0), (28, 0, rx_h_icmp .ge, .if_icmp .ge 7, 3, 35, 0, 0, 0), (31, 0, rx_h_ld rx_isI 1 1, .iload_n 1, 1, 0, 0, 0, 0)],
  [(32, 0, rx_h_goto, .goto 39, 3, 71, 0, 0, 0), (35, 0, rx_h_ld rx_isI 6 2, .iload 6, 2, 0, 0, 0, 0), (37, 0, rx_h_psh 2, .bipush 8, 2, 8, 0, 0, 0), (39, 0, rx_h_icmp .ge, .if_icmp .ge 7, 3, 46, 0, 0, 0), (42, 0, rx_h_ld rx_isI 2 1, .iload_n 2, 1, 0, 0, 0, 0), (43, 0, rx_h_goto, .goto 28, 3, 71, 0, 0, 0), (46, 0, rx_h_ld rx_isI 6 2, .iload 6, 2, 0, 0, 0, 0)],
  [(48, 0, rx_h_psh 2, .bipush 12, 2, 12, 0, 0, 0), (50, 0, rx_h_icmp .ge, .if_icmp .ge 7, 3, 57, 0, 0, 0), (53, 0, rx_h_ld rx_isI 3 1, .iload_n 3, 1, 0, 0, 0, 0), (54, 0, rx_h_goto, .goto 17, 3, 71, 0, 0, 0), (57, 0, rx_h_ld rx_isI 6 2, .iload 6, 2, 0, 0, 0, 0), (59, 0, rx_h_psh 2, .bipush 16, 2, 16, 0, 0, 0), (61, 0, rx_h_icmp .ge, .if_icmp .ge 8, 3, 69, 0, 0, 0)],
  [(64, 0, rx_h_ld rx_isI 4 2, .iload 4, 2, 0, 0, 0, 0), (66, 0, rx_h_goto, .goto 5, 3, 71, 0, 0, 0), (69, 0, rx_h_ld rx_isI 5 2, .iload 5, 2, 0, 0, 0, 0), (71, 0, rx_h_sto rx_isI 7 2, .istore 7, 2, 0, 0, 0, 0), (73, 0, rx_h_ld rx_isR 0 1, .aload_n 0, 1, 0, 0, 0, 0), (74, 0, rx_h_gf, .getfield 37, 3, 11, 10, 6, 14), (77, 0, rx_h_ld rx_isR 0 1, .aload_n 0, 1, 0, 0, 0, 0), (78, 0, rx_h_gf, .getfield 117, 3, 11, 11, 6, 15)],
  [(81, 0, rx_h_ld rx_isI 6 2, .iload 6, 2, 0, 0, 0, 0), (83, 0, rx_h_ar rx_f_add rx_g32, .iadd, 1, 0, 0, 0, 0), (84, 0, rx_h_ld rx_isI 7 2, .iload 7, 2, 0, 0, 0, 0), (86, 0, rx_h_psh 2, .bipush 24, 2, 24, 0, 0, 0), (88, 0, rx_h_psh 2, .bipush 8, 2, 8, 0, 0, 0), (90, 0, rx_h_ld rx_isI 6 2, .iload 6, 2, 0, 0, 0, 0), (92, 0, rx_h_psh 1, .iconst 3, 1, 3, 0, 0, 0), (93, 0, rx_h_ar rx_f_and rx_gand, .iand, 1, 0, 0, 0, 0), (94, 0, rx_h_ar rx_f_mul rx_g32, .imul, 1, 0, 0, 0, 0), (95, 0, rx_h_ar rx_f_sub rx_g32, .isub, 1, 0, 0, 0, 0)],
  [(96, 0, rx_h_ar rx_f_no rx_g32, .ishr, 1, 0, 0, 0, 0), (97, 0, rx_h_i2b, .i2b, 1, 0, 0, 0, 0), (98, 0, rx_h_bast, .bastore, 1, 0, 0, 0, 0), (99, 0, rx_h_inc 6, .iinc 6 1, 3, 1, 0, 0, 0), (102, 0, rx_h_goto, .goto (-84), 3, 18, 0, 0, 0), (105, 0, rx_h_ld rx_isR 0 1, .aload_n 0, 1, 0, 0, 0, 0), (106, 0, rx_h_dup, .dup, 1, 0, 0, 0, 0), (107, 0, rx_h_gf, .getfield 117, 3, 11, 11, 6, 15), (110, 0, rx_h_psh 2, .bipush 20, 2, 20, 0, 0, 0)],
  [(112, 0, rx_h_ar rx_f_add rx_g32, .iadd, 1, 0, 0, 0, 0), (113, 0, rx_h_pf, .putfield 117, 3, 11, 11, 6, 15), (116, 0, rx_h_ld rx_isR 0 1, .aload_n 0, 1, 0, 0, 0, 0), (117, 0, rx_h_gf, .getfield 117, 3, 11, 11, 6, 15), (120, 1, rx_h_no, .ireturn, 1, 0, 0, 0, 0)]], (yX11_feed, cX11_feed, (some .int)), ((6, 182), (6, 180), (6, 181), (1, 12)))
/-- TurnNetModel.end(I)I -/
noncomputable def rxm_32 : rx_M := ((2, 0, 0, 0, 0, 1, 1, 0), [[(0, 0, rx_h_ld rx_isI 1 1, .iload_n 1, 1, 0, 0, 0, 0), (1, 0, rx_h_if .lt, .ifCond .lt 11, 3, 12, 0, 0, 0), (4, 0, rx_h_ld rx_isI 1 1, .iload_n 1, 1, 0, 0, 0, 0), (5, 0, rx_h_ld rx_isR 0 1, .aload_n 0, 1, 0, 0, 0, 0), (6, 0, rx_h_gf, .getfield 117, 3, 11, 11, 6, 15), (9, 0, rx_h_icmp .le, .if_icmp .le 5, 3, 14, 0, 0, 0), (12, 0, rx_h_psh 1, .iconst (-1), 1, 4294967295, 0, 0, 0), (13, 1, rx_h_no, .ireturn, 1, 0, 0, 0, 0), (14, 0, rx_h_ld rx_isR 0 1, .aload_n 0, 1, 0, 0, 0, 0), (15, 0, rx_h_ld rx_isI 1 1, .iload_n 1, 1, 0, 0, 0, 0)],
  [(16, 0, rx_h_pf, .putfield 117, 3, 11, 11, 6, 15), (19, 0, rx_h_ld rx_isI 1 1, .iload_n 1, 1, 0, 0, 0, 0), (20, 1, rx_h_no, .ireturn, 1, 0, 0, 0, 0)]], (yX11_end, cX11_end, (some .int)), ((6, 186), (6, 184), (6, 185), (1, 12)))
/-- TurnNetModel.signAt(I)I -/
noncomputable def rxm_33 : rx_M := ((2, 0, 0, 0, 0, 1, 1, 0), [[(0, 0, rx_h_ld rx_isI 1 1, .iload_n 1, 1, 0, 0, 0, 0), (1, 0, rx_h_ld rx_isR 0 1, .aload_n 0, 1, 0, 0, 0, 0), (2, 0, rx_h_gf, .getfield 120, 3, 11, 12, 6, 16), (5, 0, rx_h_icmp .ge, .if_icmp .ge 12, 3, 17, 0, 0, 0)],
  [(17, 0, rx_h_psh 1, .iconst 0, 1, 0, 0, 0, 0), (18, 1, rx_h_no, .ireturn, 1, 0, 0, 0, 0)]], (yX11_signAt, cX11_signAt, (some .int)), ((6, 206), (6, 205), (0, 68), (1, 12)))
/-- TurnNetModel.isBlank(I)Z -/
noncomputable def rxm_34 : rx_M := ((2, 0, 0, 0, 0, 1, 2, 0), [[(0, 0, rx_h_ld rx_isI 1 1, .iload_n 1, 1, 0, 0, 0, 0), (1, 0, rx_h_ld rx_isR 0 1, .aload_n 0, 1, 0, 0, 0, 0), (2, 0, rx_h_gf, .getfield 120, 3, 11, 12, 6, 16), (5, 0, rx_h_icmp .ge, .if_icmp .ge 29, 3, 34, 0, 0, 0)],
  [],
  [(34, 0, rx_h_psh 1, .iconst 0, 1, 0, 0, 0, 0), (35, 1, rx_h_no, .ireturn, 1, 0, 0, 0, 0)]], (yX11_isBlank, cX11_isBlank, (some .boolean)), ((6, 202), (6, 201), (0, 67), (1, 12)))
/-- TurnNetModel.clearBank(I)V -/
noncomputable def rxm_35 : rx_M := ((2, 0, 0, 0, 0, 1, 0, 0), [[(0, 0, rx_h_ld rx_isR 0 1, .aload_n 0, 1, 0, 0, 0, 0), (1, 0, rx_h_gf, .getfield 13, 3, 11, 1, 6, 5), (4, 0, rx_h_ld rx_isI 1 1, .iload_n 1, 1, 0, 0, 0, 0), (5, 0, rx_h_psh 1, .iconst 0, 1, 0, 0, 0, 0), (6, 0, rx_h_iast, .iastore, 1, 0, 0, 0, 0), (7, 0, rx_h_ld rx_isR 0 1, .aload_n 0, 1, 0, 0, 0, 0), (8, 0, rx_h_gf, .getfield 16, 3, 11, 2, 6, 6), (11, 0, rx_h_ld rx_isI 1 1, .iload_n 1, 1, 0, 0, 0, 0), (12, 0, rx_h_psh 1, .iconst 0, 1, 0, 0, 0, 0), (13, 0, rx_h_iast, .iastore, 1, 0, 0, 0, 0), (14, 0, rx_h_ld rx_isR 0 1, .aload_n 0, 1, 0, 0, 0, 0), (15, 0, rx_h_gf, .getfield 19, 3, 11, 3, 6, 7)],
  [(18, 0, rx_h_ld rx_isI 1 1, .iload_n 1, 1, 0, 0, 0, 0), (19, 0, rx_h_psh 1, .iconst 0, 1, 0, 0, 0, 0), (20, 0, rx_h_iast, .iastore, 1, 0, 0, 0, 0), (21, 0, rx_h_ld rx_isR 0 1, .aload_n 0, 1, 0, 0, 0, 0), (22, 0, rx_h_gf, .getfield 22, 3, 11, 4, 6, 8), (25, 0, rx_h_ld rx_isI 1 1, .iload_n 1, 1, 0, 0, 0, 0), (26, 0, rx_h_psh 1, .iconst 1, 1, 1, 0, 0, 0), (27, 0, rx_h_iast, .iastore, 1, 0, 0, 0, 0), (28, 0, rx_h_ld rx_isR 0 1, .aload_n 0, 1, 0, 0, 0, 0), (29, 0, rx_h_gf, .getfield 25, 3, 11, 5, 6, 9)],
  [(32, 0, rx_h_ld rx_isI 1 1, .iload_n 1, 1, 0, 0, 0, 0), (33, 0, rx_h_psh 1, .iconst 0, 1, 0, 0, 0, 0), (34, 0, rx_h_iast, .iastore, 1, 0, 0, 0, 0), (35, 0, rx_h_ld rx_isR 0 1, .aload_n 0, 1, 0, 0, 0, 0), (36, 0, rx_h_gf, .getfield 28, 3, 11, 6, 6, 10), (39, 0, rx_h_ld rx_isI 1 1, .iload_n 1, 1, 0, 0, 0, 0), (40, 0, rx_h_psh 1, .iconst 0, 1, 0, 0, 0, 0), (41, 0, rx_h_iast, .iastore, 1, 0, 0, 0, 0), (42, 3, rx_h_no, .return_, 1, 0, 0, 0, 0)]], (yX11_clearBank, cX11_clearBank, none), ((5, 185), (5, 184), (0, 51), (1, 12)))
/-- TurnNetModel.fault(I)I -/
noncomputable def rxm_36 : rx_M := ((2, 0, 0, 0, 0, 1, 1, 0), [[(0, 0, rx_h_ld rx_isI 1 1, .iload_n 1, 1, 0, 0, 0, 0), (1, 0, rx_h_if .ne, .ifCond .ne 10, 3, 11, 0, 0, 0), (4, 0, rx_h_ld rx_isR 0 1, .aload_n 0, 1, 0, 0, 0, 0), (5, 0, rx_h_gf, .getfield 261, 3, 11, 20, 6, 24), (8, 0, rx_h_goto, .goto 16, 3, 24, 0, 0, 0), (11, 0, rx_h_ld rx_isI 1 1, .iload_n 1, 1, 0, 0, 0, 0), (12, 0, rx_h_psh 1, .iconst 1, 1, 1, 0, 0, 0), (13, 0, rx_h_icmp .ne, .if_icmp .ne 10, 3, 23, 0, 0, 0)],
  [(16, 0, rx_h_ld rx_isR 0 1, .aload_n 0, 1, 0, 0, 0, 0), (17, 0, rx_h_gf, .getfield 41, 3, 11, 21, 6, 25), (20, 0, rx_h_goto, .goto 4, 3, 24, 0, 0, 0), (23, 0, rx_h_psh 1, .iconst (-1), 1, 4294967295, 0, 0, 0), (24, 1, rx_h_no, .ireturn, 1, 0, 0, 0, 0)]], (yX11_fault, cX11_fault, (some .int)), ((7, 62), (7, 60), (7, 61), (1, 12)))
/-- TurnNetModel.nodesNow()I -/
noncomputable def rxm_37 : rx_M := ((1, 0, 0, 0, 0, 0, 1, 0), [[(0, 0, rx_h_ld rx_isR 0 1, .aload_n 0, 1, 0, 0, 0, 0), (1, 0, rx_h_gf, .getfield 13, 3, 11, 1, 6, 5), (4, 0, rx_h_ld rx_isR 0 1, .aload_n 0, 1, 0, 0, 0, 0), (5, 0, rx_h_gf, .getfield 255, 3, 11, 9, 6, 13), (8, 0, rx_h_ald (fun t => Nat.beq t 13), .iaload, 1, 0, 0, 0, 0), (9, 1, rx_h_no, .ireturn, 1, 0, 0, 0, 0)]], (yX11_nodesNow, cX11_nodesNow, (some .int)), ((5, 209), (5, 208), (0, 57), (1, 12)))
/-- TurnNetModel.linksNow()I -/
noncomputable def rxm_38 : rx_M := ((1, 0, 0, 0, 0, 0, 1, 0), [[(0, 0, rx_h_ld rx_isR 0 1, .aload_n 0, 1, 0, 0, 0, 0), (1, 0, rx_h_gf, .getfield 16, 3, 11, 2, 6, 6), (4, 0, rx_h_ld rx_isR 0 1, .aload_n 0, 1, 0, 0, 0, 0), (5, 0, rx_h_gf, .getfield 255, 3, 11, 9, 6, 13), (8, 0, rx_h_ald (fun t => Nat.beq t 13), .iaload, 1, 0, 0, 0, 0), (9, 1, rx_h_no, .ireturn, 1, 0, 0, 0, 0)]], (yX11_linksNow, cX11_linksNow, (some .int)), ((5, 216), (5, 215), (0, 58), (1, 12)))
/-- TurnNetModel.putAside()V -/
noncomputable def rxm_39 : rx_M := ((2, 0, 0, 0, 0, 0, 0, 0), [[(0, 0, rx_h_psh 1, .iconst 0, 1, 0, 0, 0, 0), (1, 0, rx_h_sto rx_isI 1 1, .istore_n 1, 1, 0, 0, 0, 0), (2, 0, rx_h_ld rx_isI 1 1, .iload_n 1, 1, 0, 0, 0, 0), (3, 0, rx_h_psh 2, .bipush 103, 2, 103, 0, 0, 0), (5, 0, rx_h_icmp .ge, .if_icmp .ge 21, 3, 26, 0, 0, 0), (8, 0, rx_h_ld rx_isR 0 1, .aload_n 0, 1, 0, 0, 0, 0), (9, 0, rx_h_gf, .getfield 85, 3, 11, 44, 6, 48), (12, 0, rx_h_ld rx_isI 1 1, .iload_n 1, 1, 0, 0, 0, 0), (13, 0, rx_h_ld rx_isR 0 1, .aload_n 0, 1, 0, 0, 0, 0), (14, 0, rx_h_gf, .getfield 7, 3, 11, 0, 6, 4)],
  [(17, 0, rx_h_ld rx_isI 1 1, .iload_n 1, 1, 0, 0, 0, 0), (18, 0, rx_h_ald (fun t => Nat.beq t 13), .iaload, 1, 0, 0, 0, 0), (19, 0, rx_h_iast, .iastore, 1, 0, 0, 0, 0), (20, 0, rx_h_inc 1, .iinc 1 1, 3, 1, 0, 0, 0), (23, 0, rx_h_goto, .goto (-21), 3, 2, 0, 0, 0), (26, 3, rx_h_no, .return_, 1, 0, 0, 0, 0)]], (yX11_putAside, cX11_putAside, none), ((7, 226), (7, 225), (0, 114), (1, 12)))
/-- TurnNetModel.bringBack()V -/
noncomputable def rxm_40 : rx_M := ((2, 0, 0, 0, 0, 0, 0, 0), [[(0, 0, rx_h_psh 1, .iconst 0, 1, 0, 0, 0, 0), (1, 0, rx_h_sto rx_isI 1 1, .istore_n 1, 1, 0, 0, 0, 0), (2, 0, rx_h_ld rx_isI 1 1, .iload_n 1, 1, 0, 0, 0, 0), (3, 0, rx_h_psh 2, .bipush 103, 2, 103, 0, 0, 0), (5, 0, rx_h_icmp .ge, .if_icmp .ge 21, 3, 26, 0, 0, 0), (8, 0, rx_h_ld rx_isR 0 1, .aload_n 0, 1, 0, 0, 0, 0), (9, 0, rx_h_gf, .getfield 7, 3, 11, 0, 6, 4), (12, 0, rx_h_ld rx_isI 1 1, .iload_n 1, 1, 0, 0, 0, 0), (13, 0, rx_h_ld rx_isR 0 1, .aload_n 0, 1, 0, 0, 0, 0), (14, 0, rx_h_gf, .getfield 85, 3, 11, 44, 6, 48)],
  [(17, 0, rx_h_ld rx_isI 1 1, .iload_n 1, 1, 0, 0, 0, 0), (18, 0, rx_h_ald (fun t => Nat.beq t 13), .iaload, 1, 0, 0, 0, 0), (19, 0, rx_h_iast, .iastore, 1, 0, 0, 0, 0), (20, 0, rx_h_inc 1, .iinc 1 1, 3, 1, 0, 0, 0), (23, 0, rx_h_goto, .goto (-21), 3, 2, 0, 0, 0), (26, 3, rx_h_no, .return_, 1, 0, 0, 0, 0)]], (yX11_bringBack, cX11_bringBack, none), ((7, 234), (7, 233), (0, 116), (1, 12)))
/-- TurnNetModel.packetsNow()I -/
noncomputable def rxm_41 : rx_M := ((3, 0, 0, 0, 0, 0, 1, 0), [[(0, 0, rx_h_psh 1, .iconst 0, 1, 0, 0, 0, 0), (1, 0, rx_h_sto rx_isI 1 1, .istore_n 1, 1, 0, 0, 0, 0), (2, 0, rx_h_psh 1, .iconst 0, 1, 0, 0, 0, 0), (3, 0, rx_h_sto rx_isI 2 1, .istore_n 2, 1, 0, 0, 0, 0), (4, 0, rx_h_ld rx_isI 2 1, .iload_n 2, 1, 0, 0, 0, 0), (5, 0, rx_h_psh 2, .bipush 12, 2, 12, 0, 0, 0), (7, 0, rx_h_icmp .ge, .if_icmp .ge 21, 3, 28, 0, 0, 0), (10, 0, rx_h_ld rx_isI 1 1, .iload_n 1, 1, 0, 0, 0, 0), (11, 0, rx_h_ld rx_isR 0 1, .aload_n 0, 1, 0, 0, 0, 0), (12, 0, rx_h_gf, .getfield 7, 3, 11, 0, 6, 4), (15, 0, rx_h_psh 2, .bipush 41, 2, 41, 0, 0, 0)],
  [(17, 0, rx_h_ld rx_isI 2 1, .iload_n 2, 1, 0, 0, 0, 0), (18, 0, rx_h_ar rx_f_add rx_g32, .iadd, 1, 0, 0, 0, 0), (19, 0, rx_h_ald (fun t => Nat.beq t 13), .iaload, 1, 0, 0, 0, 0), (20, 0, rx_h_ar rx_f_add rx_g32, .iadd, 1, 0, 0, 0, 0), (21, 0, rx_h_sto rx_isI 1 1, .istore_n 1, 1, 0, 0, 0, 0), (22, 0, rx_h_inc 2, .iinc 2 1, 3, 1, 0, 0, 0), (25, 0, rx_h_goto, .goto (-21), 3, 4, 0, 0, 0), (28, 0, rx_h_ld rx_isI 1 1, .iload_n 1, 1, 0, 0, 0, 0), (29, 1, rx_h_no, .ireturn, 1, 0, 0, 0, 0)]], (yX11_packetsNow, cX11_packetsNow, (some .int)), ((8, 164), (8, 163), (0, 141), (1, 12)))
/-- TurnNetModel.undo()Z -/
noncomputable def rxm_42 : rx_M := ((1, 0, 0, 0, 0, 0, 2, 0), [[(0, 0, rx_h_ld rx_isR 0 1, .aload_n 0, 1, 0, 0, 0, 0), (1, 0, rx_h_gf, .getfield 273, 3, 11, 56, 6, 60), (4, 0, rx_h_if .ne, .ifCond .ne 5, 3, 9, 0, 0, 0), (7, 0, rx_h_psh 1, .iconst 0, 1, 0, 0, 0, 0), (8, 1, rx_h_no, .ireturn, 1, 0, 0, 0, 0)]], (yX11_undo, cX11_undo, (some .boolean)), ((8, 200), (8, 198), (8, 199), (1, 12)))
/-- TurnNetModel.redo()Z -/
noncomputable def rxm_43 : rx_M := ((1, 0, 0, 0, 0, 0, 2, 0), [[(0, 0, rx_h_ld rx_isR 0 1, .aload_n 0, 1, 0, 0, 0, 0), (1, 0, rx_h_gf, .getfield 276, 3, 11, 57, 6, 61), (4, 0, rx_h_if .ne, .ifCond .ne 5, 3, 9, 0, 0, 0), (7, 0, rx_h_psh 1, .iconst 0, 1, 0, 0, 0, 0), (8, 1, rx_h_no, .ireturn, 1, 0, 0, 0, 0)]], (yX11_redo, cX11_redo, (some .boolean)), ((8, 208), (8, 206), (8, 207), (1, 12)))
/-- java/lang/Integer.bitCount(I)I -/
noncomputable def rxm_44 : rx_M := ((1, 0, 0, 0, 0, 1, 1, 0), [[(0, 0, rx_h_ld rx_isI 0 1, .iload_n 0, 1, 0, 0, 0, 0), (1, 0, rx_h_ld rx_isI 0 1, .iload_n 0, 1, 0, 0, 0, 0), (2, 0, rx_h_psh 1, .iconst 1, 1, 1, 0, 0, 0), (3, 0, rx_h_ar rx_f_ushr rx_g32, .iushr, 1, 0, 0, 0, 0), (4, 0, rx_h_psh 3, .ldc_w 265, 3, 1431655765, 0, 3, 192), (7, 0, rx_h_ar rx_f_and rx_gand, .iand, 1, 0, 0, 0, 0), (8, 0, rx_h_ar rx_f_sub rx_g32, .isub, 1, 0, 0, 0, 0), (9, 0, rx_h_sto rx_isI 0 1, .istore_n 0, 1, 0, 0, 0, 0), (10, 0, rx_h_ld rx_isI 0 1, .iload_n 0, 1, 0, 0, 0, 0), (11, 0, rx_h_psh 3, .ldc_w 266, 3, 858993459, 0, 3, 193), (14, 0, rx_h_ar rx_f_and rx_gand, .iand, 1, 0, 0, 0, 0), (15, 0, rx_h_ld rx_isI 0 1, .iload_n 0, 1, 0, 0, 0, 0)],
  [(16, 0, rx_h_psh 1, .iconst 2, 1, 2, 0, 0, 0), (17, 0, rx_h_ar rx_f_ushr rx_g32, .iushr, 1, 0, 0, 0, 0), (18, 0, rx_h_psh 3, .ldc_w 266, 3, 858993459, 0, 3, 193), (21, 0, rx_h_ar rx_f_and rx_gand, .iand, 1, 0, 0, 0, 0), (22, 0, rx_h_ar rx_f_add rx_g32, .iadd, 1, 0, 0, 0, 0), (23, 0, rx_h_sto rx_isI 0 1, .istore_n 0, 1, 0, 0, 0, 0), (24, 0, rx_h_ld rx_isI 0 1, .iload_n 0, 1, 0, 0, 0, 0), (25, 0, rx_h_ld rx_isI 0 1, .iload_n 0, 1, 0, 0, 0, 0), (26, 0, rx_h_psh 1, .iconst 4, 1, 4, 0, 0, 0), (27, 0, rx_h_ar rx_f_ushr rx_g32, .iushr, 1, 0, 0, 0, 0), (28, 0, rx_h_ar rx_f_add rx_g32, .iadd, 1, 0, 0, 0, 0), (29, 0, rx_h_psh 3, .ldc_w 267, 3, 252645135, 0, 3, 194)],
  [(32, 0, rx_h_ar rx_f_and rx_gand, .iand, 1, 0, 0, 0, 0), (33, 0, rx_h_sto rx_isI 0 1, .istore_n 0, 1, 0, 0, 0, 0), (34, 0, rx_h_ld rx_isI 0 1, .iload_n 0, 1, 0, 0, 0, 0), (35, 0, rx_h_ld rx_isI 0 1, .iload_n 0, 1, 0, 0, 0, 0), (36, 0, rx_h_psh 2, .bipush 8, 2, 8, 0, 0, 0), (38, 0, rx_h_ar rx_f_ushr rx_g32, .iushr, 1, 0, 0, 0, 0), (39, 0, rx_h_ar rx_f_add rx_g32, .iadd, 1, 0, 0, 0, 0), (40, 0, rx_h_sto rx_isI 0 1, .istore_n 0, 1, 0, 0, 0, 0), (41, 0, rx_h_ld rx_isI 0 1, .iload_n 0, 1, 0, 0, 0, 0), (42, 0, rx_h_ld rx_isI 0 1, .iload_n 0, 1, 0, 0, 0, 0), (43, 0, rx_h_psh 2, .bipush 16, 2, 16, 0, 0, 0), (45, 0, rx_h_ar rx_f_ushr rx_g32, .iushr, 1, 0, 0, 0, 0), (46, 0, rx_h_ar rx_f_add rx_g32, .iadd, 1, 0, 0, 0, 0), (47, 0, rx_h_sto rx_isI 0 1, .istore_n 0, 1, 0, 0, 0, 0)],
  [(48, 0, rx_h_ld rx_isI 0 1, .iload_n 0, 1, 0, 0, 0, 0), (49, 0, rx_h_psh 2, .bipush 63, 2, 63, 0, 0, 0), (51, 0, rx_h_ar rx_f_and rx_gand, .iand, 1, 0, 0, 0, 0), (52, 1, rx_h_no, .ireturn, 1, 0, 0, 0, 0)]], (yJ6_bitCount_0f7a4, cJ6_bitCount_0f7a4, (some .int)), ((3, 191), (3, 190), (0, 0), (1, 19)))
/-- TurnNet$Graph.<init>(LTurnNet$Net;)V -/
noncomputable def rxm_45 : rx_M := ((2, 1, 20, 4, 140, 1, 0, 0), [[(0, 0, rx_h_ld rx_isR 0 1, .aload_n 0, 1, 0, 0, 0, 0), (1, 4, rx_h_no, .invokespecial 3, 3, 0, 1, 1, 232), (4, 0, rx_h_ld rx_isR 0 1, .aload_n 0, 1, 0, 0, 0, 0), (5, 0, rx_h_psh 2, .bipush 100, 2, 100, 0, 0, 0), (7, 0, rx_h_newa .int, .newarray .int, 2, 0, 0, 1, 106), (9, 0, rx_h_pf, .putfield 9, 3, 0, 1, 1, 234), (12, 0, rx_h_ld rx_isR 0 1, .aload_n 0, 1, 0, 0, 0, 0), (13, 0, rx_h_psh 2, .bipush 10, 2, 10, 0, 0, 0), (15, 0, rx_h_newa .int, .newarray .int, 2, 0, 0, 1, 106)],
  [(17, 0, rx_h_pf, .putfield 15, 3, 0, 2, 1, 235), (20, 0, rx_h_ld rx_isR 0 1, .aload_n 0, 1, 0, 0, 0, 0), (21, 0, rx_h_psh 2, .bipush 10, 2, 10, 0, 0, 0), (23, 0, rx_h_newa .int, .newarray .int, 2, 0, 0, 1, 106), (25, 0, rx_h_pf, .putfield 18, 3, 0, 3, 1, 236), (28, 0, rx_h_ld rx_isR 0 1, .aload_n 0, 1, 0, 0, 0, 0), (29, 0, rx_h_psh 2, .bipush 20, 2, 20, 0, 0, 0), (31, 0, rx_h_newa .int, .newarray .int, 2, 0, 0, 1, 106)],
  [(33, 0, rx_h_pf, .putfield 21, 3, 0, 4, 1, 237), (36, 0, rx_h_ld rx_isR 0 1, .aload_n 0, 1, 0, 0, 0, 0), (37, 0, rx_h_ld rx_isR 1 1, .aload_n 1, 1, 0, 0, 0, 0), (38, 0, rx_h_pf, .putfield 24, 3, 0, 0, 1, 233), (41, 3, rx_h_no, .return_, 1, 0, 0, 0, 0)]], (yX0_init, cX0_init, none), ((1, 231), (1, 230), (0, 0), (1, 6)))
/-- TurnNet$Graph.spread(LTurnNet$Net;II[II)V -/
noncomputable def rxm_46 : rx_M := ((10, 1, 21, 0, 0, 5, 0, 0), [[(0, 0, rx_h_ld rx_isR 0 1, .aload_n 0, 1, 0, 0, 0, 0), (1, 0, rx_h_ld rx_isI 2 1, .iload_n 2, 1, 0, 0, 0, 0), (2, 4, rx_h_no, .invokevirtual 42, 3, 7, 8, 3, 132), (5, 0, rx_h_if .ne, .ifCond .ne 4, 3, 9, 0, 0, 0), (8, 3, rx_h_no, .return_, 1, 0, 0, 0, 0)]], (yX0_spread, cX0_spread, none), ((3, 131), (3, 130), (0, 0), (1, 6)))
/-- TurnNet$Graph.findPivots(I)I -/
noncomputable def rxm_47 : rx_M := ((4, 1, 22, 0, 0, 1, 1, 0), [[(0, 0, rx_h_ld rx_isR 0 1, .aload_n 0, 1, 0, 0, 0, 0), (1, 0, rx_h_ld rx_isI 1 1, .iload_n 1, 1, 0, 0, 0, 0), (2, 4, rx_h_no, .invokevirtual 56, 3, 0, 0, 5, 122), (5, 0, rx_h_psh 1, .iconst 0, 1, 0, 0, 0, 0), (6, 0, rx_h_sto rx_isI 2 1, .istore_n 2, 1, 0, 0, 0, 0), (7, 0, rx_h_psh 1, .iconst 0, 1, 0, 0, 0, 0), (8, 0, rx_h_sto rx_isI 3 1, .istore_n 3, 1, 0, 0, 0, 0), (9, 0, rx_h_ld rx_isI 3 1, .iload_n 3, 1, 0, 0, 0, 0), (10, 0, rx_h_ld rx_isR 0 1, .aload_n 0, 1, 0, 0, 0, 0), (11, 0, rx_h_gf, .getfield 24, 3, 0, 0, 1, 233), (14, 0, rx_h_gf, .getfield 28, 3, 2, 0, 1, 35)],
  [(17, 0, rx_h_icmp .ge, .if_icmp .ge 24, 3, 41, 0, 0, 0)],
  [(41, 0, rx_h_ld rx_isI 2 1, .iload_n 2, 1, 0, 0, 0, 0), (42, 1, rx_h_no, .ireturn, 1, 0, 0, 0, 0)]], (yX0_findPivots, cX0_findPivots, (some .int)), ((5, 121), (5, 119), (5, 120), (1, 6)))
/-- TurnNet$Net.<init>()V -/
noncomputable def rxm_48 : rx_M := ((1, 1, 20, 6, 291, 0, 0, 0), [[(0, 0, rx_h_ld rx_isR 0 1, .aload_n 0, 1, 0, 0, 0, 0), (1, 4, rx_h_no, .invokespecial 3, 3, 0, 1, 1, 33), (4, 0, rx_h_ld rx_isR 0 1, .aload_n 0, 1, 0, 0, 0, 0), (5, 0, rx_h_psh 1, .iconst 1, 1, 1, 0, 0, 0), (6, 0, rx_h_pf, .putfield 9, 3, 2, 3, 1, 51), (9, 0, rx_h_ld rx_isR 0 1, .aload_n 0, 1, 0, 0, 0, 0), (10, 0, rx_h_psh 2, .bipush 40, 2, 40, 0, 0, 0), (12, 0, rx_h_newa .int, .newarray .int, 2, 0, 0, 1, 106), (14, 0, rx_h_pf, .putfield 15, 3, 2, 6, 1, 60)],
  [(17, 0, rx_h_ld rx_isR 0 1, .aload_n 0, 1, 0, 0, 0, 0), (18, 0, rx_h_psh 2, .bipush 40, 2, 40, 0, 0, 0), (20, 0, rx_h_newa .int, .newarray .int, 2, 0, 0, 1, 106), (22, 0, rx_h_pf, .putfield 19, 3, 2, 7, 1, 66), (25, 0, rx_h_ld rx_isR 0 1, .aload_n 0, 1, 0, 0, 0, 0), (26, 0, rx_h_psh 2, .bipush 11, 2, 11, 0, 0, 0), (28, 0, rx_h_newa .int, .newarray .int, 2, 0, 0, 1, 106), (30, 0, rx_h_pf, .putfield 22, 3, 2, 8, 1, 73)],
  [(33, 0, rx_h_ld rx_isR 0 1, .aload_n 0, 1, 0, 0, 0, 0), (34, 0, rx_h_psh 2, .bipush 40, 2, 40, 0, 0, 0), (36, 0, rx_h_newa .int, .newarray .int, 2, 0, 0, 1, 106), (38, 0, rx_h_pf, .putfield 25, 3, 2, 9, 1, 75), (41, 0, rx_h_ld rx_isR 0 1, .aload_n 0, 1, 0, 0, 0, 0), (42, 0, rx_h_psh 2, .bipush 80, 2, 80, 0, 0, 0), (44, 0, rx_h_newa .int, .newarray .int, 2, 0, 0, 1, 106), (46, 0, rx_h_pf, .putfield 28, 3, 2, 10, 1, 77)],
  [(49, 0, rx_h_ld rx_isR 0 1, .aload_n 0, 1, 0, 0, 0, 0), (50, 0, rx_h_psh 2, .bipush 80, 2, 80, 0, 0, 0), (52, 0, rx_h_newa .int, .newarray .int, 2, 0, 0, 1, 106), (54, 0, rx_h_pf, .putfield 31, 3, 2, 11, 1, 79), (57, 3, rx_h_no, .return_, 1, 0, 0, 0, 0)]], (yX2_init, cX2_init, none), ((1, 32), (1, 31), (0, 0), (1, 2)))
/-- TurnNet$Net.copyFrom(LTurnNet$Net;)V -/
noncomputable def rxm_49 : rx_M := ((2, 1, 40, 0, 0, 1, 0, 0), [[(0, 0, rx_h_ld rx_isR 0 1, .aload_n 0, 1, 0, 0, 0, 0), (1, 0, rx_h_ld rx_isR 1 1, .aload_n 1, 1, 0, 0, 0, 0), (2, 0, rx_h_gf, .getfield 34, 3, 2, 0, 1, 34), (5, 0, rx_h_pf, .putfield 34, 3, 2, 0, 1, 34), (8, 0, rx_h_ld rx_isR 0 1, .aload_n 0, 1, 0, 0, 0, 0), (9, 0, rx_h_ld rx_isR 1 1, .aload_n 1, 1, 0, 0, 0, 0), (10, 0, rx_h_gf, .getfield 37, 3, 2, 1, 1, 42), (13, 0, rx_h_pf, .putfield 37, 3, 2, 1, 1, 42)],
  [(16, 0, rx_h_ld rx_isR 0 1, .aload_n 0, 1, 0, 0, 0, 0), (17, 0, rx_h_ld rx_isR 1 1, .aload_n 1, 1, 0, 0, 0, 0), (18, 0, rx_h_gf, .getfield 40, 3, 2, 2, 1, 48), (21, 0, rx_h_pf, .putfield 40, 3, 2, 2, 1, 48), (24, 0, rx_h_ld rx_isR 0 1, .aload_n 0, 1, 0, 0, 0, 0), (25, 0, rx_h_ld rx_isR 1 1, .aload_n 1, 1, 0, 0, 0, 0), (26, 0, rx_h_gf, .getfield 9, 3, 2, 3, 1, 51), (29, 0, rx_h_pf, .putfield 9, 3, 2, 3, 1, 51)],
  [(32, 0, rx_h_ld rx_isR 0 1, .aload_n 0, 1, 0, 0, 0, 0), (33, 0, rx_h_ld rx_isR 1 1, .aload_n 1, 1, 0, 0, 0, 0), (34, 0, rx_h_gf, .getfield 43, 3, 2, 4, 1, 55), (37, 0, rx_h_pf, .putfield 43, 3, 2, 4, 1, 55), (40, 0, rx_h_ld rx_isR 0 1, .aload_n 0, 1, 0, 0, 0, 0), (41, 0, rx_h_ld rx_isR 1 1, .aload_n 1, 1, 0, 0, 0, 0), (42, 0, rx_h_gf, .getfield 46, 3, 2, 5, 1, 58), (45, 0, rx_h_pf, .putfield 46, 3, 2, 5, 1, 58)],
  [(48, 0, rx_h_ld rx_isR 1 1, .aload_n 1, 1, 0, 0, 0, 0), (49, 0, rx_h_gf, .getfield 15, 3, 2, 6, 1, 60), (52, 0, rx_h_psh 1, .iconst 0, 1, 0, 0, 0, 0), (53, 0, rx_h_ld rx_isR 0 1, .aload_n 0, 1, 0, 0, 0, 0), (54, 0, rx_h_gf, .getfield 15, 3, 2, 6, 1, 60), (57, 0, rx_h_psh 1, .iconst 0, 1, 0, 0, 0, 0), (58, 0, rx_h_psh 2, .bipush 40, 2, 40, 0, 0, 0), (60, 5, rx_h_no, .invokestatic 49, 3, 0, 2, 3, 101), (63, 0, rx_h_ld rx_isR 1 1, .aload_n 1, 1, 0, 0, 0, 0)],
  [(64, 0, rx_h_gf, .getfield 19, 3, 2, 7, 1, 66), (67, 0, rx_h_psh 1, .iconst 0, 1, 0, 0, 0, 0), (68, 0, rx_h_ld rx_isR 0 1, .aload_n 0, 1, 0, 0, 0, 0), (69, 0, rx_h_gf, .getfield 19, 3, 2, 7, 1, 66), (72, 0, rx_h_psh 1, .iconst 0, 1, 0, 0, 0, 0), (73, 0, rx_h_psh 2, .bipush 40, 2, 40, 0, 0, 0), (75, 5, rx_h_no, .invokestatic 49, 3, 0, 2, 3, 101), (78, 0, rx_h_ld rx_isR 1 1, .aload_n 1, 1, 0, 0, 0, 0), (79, 0, rx_h_gf, .getfield 28, 3, 2, 10, 1, 77)],
  [(82, 0, rx_h_psh 1, .iconst 0, 1, 0, 0, 0, 0), (83, 0, rx_h_ld rx_isR 0 1, .aload_n 0, 1, 0, 0, 0, 0), (84, 0, rx_h_gf, .getfield 28, 3, 2, 10, 1, 77), (87, 0, rx_h_psh 1, .iconst 0, 1, 0, 0, 0, 0), (88, 0, rx_h_psh 2, .bipush 80, 2, 80, 0, 0, 0), (90, 5, rx_h_no, .invokestatic 49, 3, 0, 2, 3, 101), (93, 0, rx_h_ld rx_isR 1 1, .aload_n 1, 1, 0, 0, 0, 0), (94, 0, rx_h_gf, .getfield 31, 3, 2, 11, 1, 79)],
  [(97, 0, rx_h_psh 1, .iconst 0, 1, 0, 0, 0, 0), (98, 0, rx_h_ld rx_isR 0 1, .aload_n 0, 1, 0, 0, 0, 0), (99, 0, rx_h_gf, .getfield 31, 3, 2, 11, 1, 79), (102, 0, rx_h_psh 1, .iconst 0, 1, 0, 0, 0, 0), (103, 0, rx_h_psh 2, .bipush 80, 2, 80, 0, 0, 0), (105, 5, rx_h_no, .invokestatic 49, 3, 0, 2, 3, 101), (108, 0, rx_h_ld rx_isR 0 1, .aload_n 0, 1, 0, 0, 0, 0), (109, 4, rx_h_no, .invokevirtual 55, 3, 4, 8, 3, 104)],
  [(112, 3, rx_h_no, .return_, 1, 0, 0, 0, 0)]], (yX2_copyFrom, cX2_copyFrom, none), ((3, 100), (3, 98), (3, 99), (1, 2)))
/-- TurnNet$Net.hasChannel(I)Z -/
noncomputable def rxm_50 : rx_M := ((2, 1, 20, 0, 0, 1, 2, 0), [[(0, 0, rx_h_ld rx_isI 1 1, .iload_n 1, 1, 0, 0, 0, 0), (1, 0, rx_h_if .lt, .ifCond .lt 15, 3, 16, 0, 0, 0), (4, 0, rx_h_ld rx_isI 1 1, .iload_n 1, 1, 0, 0, 0, 0), (5, 0, rx_h_ld rx_isR 0 1, .aload_n 0, 1, 0, 0, 0, 0), (6, 4, rx_h_no, .invokevirtual 58, 3, 5, 8, 3, 63), (9, 0, rx_h_icmp .ge, .if_icmp .ge 7, 3, 16, 0, 0, 0)],
  [(16, 0, rx_h_psh 1, .iconst 0, 1, 0, 0, 0, 0), (17, 1, rx_h_no, .ireturn, 1, 0, 0, 0, 0)]], (yX2_hasChannel, cX2_hasChannel, (some .boolean)), ((4, 205), (4, 203), (4, 204), (1, 2)))
/-- TurnNet$Order.<init>(LTurnNet$Net;)V -/
noncomputable def rxm_51 : rx_M := ((2, 1, 20, 4, 110, 1, 0, 0), [[(0, 0, rx_h_ld rx_isR 0 1, .aload_n 0, 1, 0, 0, 0, 0), (1, 4, rx_h_no, .invokespecial 3, 3, 0, 1, 1, 162), (4, 0, rx_h_ld rx_isR 0 1, .aload_n 0, 1, 0, 0, 0, 0), (5, 0, rx_h_psh 2, .bipush 10, 2, 10, 0, 0, 0), (7, 0, rx_h_newa .int, .newarray .int, 2, 0, 0, 1, 106), (9, 0, rx_h_pf, .putfield 9, 3, 3, 1, 1, 164), (12, 0, rx_h_ld rx_isR 0 1, .aload_n 0, 1, 0, 0, 0, 0), (13, 0, rx_h_psh 2, .bipush 10, 2, 10, 0, 0, 0), (15, 0, rx_h_newa .int, .newarray .int, 2, 0, 0, 1, 106)],
  [(17, 0, rx_h_pf, .putfield 15, 3, 3, 2, 1, 166), (20, 0, rx_h_ld rx_isR 0 1, .aload_n 0, 1, 0, 0, 0, 0), (21, 0, rx_h_psh 2, .bipush 10, 2, 10, 0, 0, 0), (23, 0, rx_h_newa .int, .newarray .int, 2, 0, 0, 1, 106), (25, 0, rx_h_pf, .putfield 18, 3, 3, 3, 1, 168), (28, 0, rx_h_ld rx_isR 0 1, .aload_n 0, 1, 0, 0, 0, 0), (29, 0, rx_h_psh 2, .bipush 80, 2, 80, 0, 0, 0), (31, 0, rx_h_newa .int, .newarray .int, 2, 0, 0, 1, 106)],
  [(33, 0, rx_h_pf, .putfield 23, 3, 3, 4, 1, 170), (36, 0, rx_h_ld rx_isR 0 1, .aload_n 0, 1, 0, 0, 0, 0), (37, 0, rx_h_ld rx_isR 1 1, .aload_n 1, 1, 0, 0, 0, 0), (38, 0, rx_h_pf, .putfield 26, 3, 3, 0, 1, 163), (41, 3, rx_h_no, .return_, 1, 0, 0, 0, 0)]], (yX3_init, cX3_init, none), ((1, 161), (1, 160), (0, 0), (1, 4)))
/-- TurnNet$Order.countLinks(I)V -/
noncomputable def rxm_52 : rx_M := ((3, 1, 20, 0, 0, 1, 0, 0), [[(0, 0, rx_h_psh 1, .iconst 0, 1, 0, 0, 0, 0), (1, 0, rx_h_sto rx_isI 2 1, .istore_n 2, 1, 0, 0, 0, 0), (2, 0, rx_h_ld rx_isI 2 1, .iload_n 2, 1, 0, 0, 0, 0), (3, 0, rx_h_ld rx_isR 0 1, .aload_n 0, 1, 0, 0, 0, 0), (4, 0, rx_h_gf, .getfield 26, 3, 3, 0, 1, 163), (7, 0, rx_h_gf, .getfield 40, 3, 2, 0, 1, 37), (10, 0, rx_h_icmp .ge, .if_icmp .ge 16, 3, 26, 0, 0, 0)],
  [(26, 0, rx_h_psh 1, .iconst 0, 1, 0, 0, 0, 0), (27, 0, rx_h_sto rx_isI 2 1, .istore_n 2, 1, 0, 0, 0, 0), (28, 0, rx_h_ld rx_isI 2 1, .iload_n 2, 1, 0, 0, 0, 0), (29, 0, rx_h_ld rx_isR 0 1, .aload_n 0, 1, 0, 0, 0, 0), (30, 0, rx_h_gf, .getfield 26, 3, 3, 0, 1, 163)],
  [(33, 4, rx_h_no, .invokevirtual 51, 3, 5, 8, 3, 128), (36, 0, rx_h_icmp .ge, .if_icmp .ge 38, 3, 74, 0, 0, 0)],
  [],
  [(74, 3, rx_h_no, .return_, 1, 0, 0, 0, 0)]], (yX3_countLinks, cX3_countLinks, none), ((3, 127), (3, 126), (0, 14), (1, 4)))
/-- TurnNet$Planner.<init>(LTurnNet$Net;LTurnNet$Turns;)V -/
noncomputable def rxm_53 : rx_M := ((3, 1, 20, 1, 20, 2, 0, 0), [[(0, 0, rx_h_ld rx_isR 0 1, .aload_n 0, 1, 0, 0, 0, 0), (1, 4, rx_h_no, .invokespecial 3, 3, 0, 1, 2, 30), (4, 0, rx_h_ld rx_isR 0 1, .aload_n 0, 1, 0, 0, 0, 0), (5, 0, rx_h_psh 2, .bipush 20, 2, 20, 0, 0, 0), (7, 0, rx_h_newa .int, .newarray .int, 2, 0, 0, 1, 106), (9, 0, rx_h_pf, .putfield 9, 3, 4, 2, 2, 33), (12, 0, rx_h_ld rx_isR 0 1, .aload_n 0, 1, 0, 0, 0, 0), (13, 0, rx_h_ld rx_isR 1 1, .aload_n 1, 1, 0, 0, 0, 0), (14, 0, rx_h_pf, .putfield 15, 3, 4, 0, 2, 31)],
  [(17, 0, rx_h_ld rx_isR 0 1, .aload_n 0, 1, 0, 0, 0, 0), (18, 0, rx_h_ld rx_isR 2 1, .aload_n 2, 1, 0, 0, 0, 0), (19, 0, rx_h_pf, .putfield 19, 3, 4, 1, 2, 32), (22, 3, rx_h_no, .return_, 1, 0, 0, 0, 0)]], (yX4_init, cX4_init, none), ((2, 29), (2, 28), (0, 0), (1, 8)))
/-- TurnNet$Reader.readText()Z -/
noncomputable def rxm_54 : rx_M := ((2, 1, 22, 0, 0, 0, 2, 0), [[(0, 0, rx_h_ld rx_isR 0 1, .aload_n 0, 1, 0, 0, 0, 0), (1, 0, rx_h_gf, .getfield 18, 3, 5, 2, 1, 118), (4, 4, rx_h_no, .invokevirtual 29, 3, 3, 8, 2, 205), (7, 0, rx_h_ld rx_isR 0 1, .aload_n 0, 1, 0, 0, 0, 0), (8, 0, rx_h_psh 1, .iconst 0, 1, 0, 0, 0, 0), (9, 0, rx_h_pf, .putfield 32, 3, 5, 3, 1, 120), (12, 0, rx_h_ld rx_isR 0 1, .aload_n 0, 1, 0, 0, 0, 0), (13, 0, rx_h_psh 1, .iconst (-1), 1, 4294967295, 0, 0, 0), (14, 0, rx_h_pf, .putfield 22, 3, 5, 4, 1, 122)],
  [(17, 0, rx_h_ld rx_isR 0 1, .aload_n 0, 1, 0, 0, 0, 0), (18, 0, rx_h_psh 1, .iconst 0, 1, 0, 0, 0, 0), (19, 0, rx_h_pf, .putfield 35, 3, 5, 5, 1, 124), (22, 0, rx_h_ld rx_isR 0 1, .aload_n 0, 1, 0, 0, 0, 0), (23, 0, rx_h_psh 1, .iconst 0, 1, 0, 0, 0, 0), (24, 0, rx_h_pf, .putfield 38, 3, 5, 9, 1, 128), (27, 0, rx_h_ld rx_isR 0 1, .aload_n 0, 1, 0, 0, 0, 0), (28, 0, rx_h_psh 1, .iconst 0, 1, 0, 0, 0, 0), (29, 0, rx_h_pf, .putfield 42, 3, 5, 10, 1, 129)],
  [(32, 0, rx_h_ld rx_isR 0 1, .aload_n 0, 1, 0, 0, 0, 0), (33, 0, rx_h_psh 1, .iconst 0, 1, 0, 0, 0, 0), (34, 0, rx_h_pf, .putfield 45, 3, 5, 11, 1, 130), (37, 0, rx_h_ld rx_isR 0 1, .aload_n 0, 1, 0, 0, 0, 0), (38, 4, rx_h_no, .invokevirtual 48, 3, 11, 20, 2, 209), (41, 0, rx_h_ld rx_isR 0 1, .aload_n 0, 1, 0, 0, 0, 0), (42, 0, rx_h_gf, .getfield 51, 3, 5, 7, 1, 126), (45, 0, rx_h_if .ne, .ifCond .ne 5, 3, 50, 0, 0, 0)],
  [(48, 0, rx_h_psh 1, .iconst 1, 1, 1, 0, 0, 0), (49, 1, rx_h_no, .ireturn, 1, 0, 0, 0, 0)]], (yX5_readText, cX5_readText, (some .boolean)), ((2, 204), (2, 202), (2, 203), (1, 3)))
/-- TurnNet$Routes.<init>(LTurnNet$Net;)V -/
noncomputable def rxm_55 : rx_M := ((2, 1, 20, 7, 560, 1, 0, 0), [[(0, 0, rx_h_ld rx_isR 0 1, .aload_n 0, 1, 0, 0, 0, 0), (1, 4, rx_h_no, .invokespecial 3, 3, 0, 1, 1, 187), (4, 0, rx_h_ld rx_isR 0 1, .aload_n 0, 1, 0, 0, 0, 0), (5, 0, rx_h_psh 3, .sipush 200, 3, 200, 0, 0, 0), (8, 0, rx_h_newa .int, .newarray .int, 2, 0, 0, 1, 106), (10, 0, rx_h_pf, .putfield 9, 3, 6, 5, 1, 193), (13, 0, rx_h_ld rx_isR 0 1, .aload_n 0, 1, 0, 0, 0, 0), (14, 0, rx_h_psh 3, .sipush 200, 3, 200, 0, 0, 0)],
  [(17, 0, rx_h_newa .int, .newarray .int, 2, 0, 0, 1, 106), (19, 0, rx_h_pf, .putfield 15, 3, 6, 6, 1, 194), (22, 0, rx_h_ld rx_isR 0 1, .aload_n 0, 1, 0, 0, 0, 0), (23, 0, rx_h_psh 2, .bipush 40, 2, 40, 0, 0, 0), (25, 0, rx_h_newa .int, .newarray .int, 2, 0, 0, 1, 106), (27, 0, rx_h_pf, .putfield 18, 3, 6, 7, 1, 195), (30, 0, rx_h_ld rx_isR 0 1, .aload_n 0, 1, 0, 0, 0, 0), (31, 0, rx_h_psh 2, .bipush 40, 2, 40, 0, 0, 0)],
  [(33, 0, rx_h_newa .int, .newarray .int, 2, 0, 0, 1, 106), (35, 0, rx_h_pf, .putfield 21, 3, 6, 8, 1, 196), (38, 0, rx_h_ld rx_isR 0 1, .aload_n 0, 1, 0, 0, 0, 0), (39, 0, rx_h_psh 2, .bipush 40, 2, 40, 0, 0, 0), (41, 0, rx_h_newa .int, .newarray .int, 2, 0, 0, 1, 106), (43, 0, rx_h_pf, .putfield 24, 3, 6, 9, 1, 198), (46, 0, rx_h_ld rx_isR 0 1, .aload_n 0, 1, 0, 0, 0, 0), (47, 0, rx_h_psh 2, .bipush 20, 2, 20, 0, 0, 0)],
  [(49, 0, rx_h_newa .long, .newarray .long, 2, 0, 0, 1, 226), (51, 0, rx_h_pf, .putfield 27, 3, 6, 10, 1, 199), (54, 0, rx_h_ld rx_isR 0 1, .aload_n 0, 1, 0, 0, 0, 0), (55, 0, rx_h_psh 2, .bipush 20, 2, 20, 0, 0, 0), (57, 0, rx_h_newa .long, .newarray .long, 2, 0, 0, 1, 226), (59, 0, rx_h_pf, .putfield 31, 3, 6, 11, 1, 200), (62, 0, rx_h_ld rx_isR 0 1, .aload_n 0, 1, 0, 0, 0, 0), (63, 0, rx_h_ld rx_isR 1 1, .aload_n 1, 1, 0, 0, 0, 0)],
  [(64, 0, rx_h_pf, .putfield 34, 3, 6, 0, 1, 188), (67, 3, rx_h_no, .return_, 1, 0, 0, 0, 0)]], (yX6_init, cX6_init, none), ((1, 186), (1, 185), (0, 0), (1, 5)))
/-- TurnNet$Routes.see(II)V -/
noncomputable def rxm_56 : rx_M := ((4, 1, 20, 0, 0, 2, 0, 0), [[(0, 0, rx_h_ld rx_isR 0 1, .aload_n 0, 1, 0, 0, 0, 0), (1, 0, rx_h_gf, .getfield 38, 3, 6, 3, 1, 191), (4, 0, rx_h_if .eq, .ifCond .eq 20, 3, 24, 0, 0, 0)],
  [(24, 0, rx_h_ld rx_isR 0 1, .aload_n 0, 1, 0, 0, 0, 0), (25, 0, rx_h_ld rx_isI 1 1, .iload_n 1, 1, 0, 0, 0, 0), (26, 0, rx_h_pf, .putfield 45, 3, 6, 1, 1, 189), (29, 0, rx_h_ld rx_isR 0 1, .aload_n 0, 1, 0, 0, 0, 0), (30, 0, rx_h_ld rx_isI 2 1, .iload_n 2, 1, 0, 0, 0, 0), (31, 0, rx_h_pf, .putfield 49, 3, 6, 2, 1, 190)],
  [(34, 0, rx_h_psh 1, .iconst 0, 1, 0, 0, 0, 0), (35, 0, rx_h_sto rx_isI 3 1, .istore_n 3, 1, 0, 0, 0, 0), (36, 0, rx_h_ld rx_isI 3 1, .iload_n 3, 1, 0, 0, 0, 0), (37, 0, rx_h_ld rx_isR 0 1, .aload_n 0, 1, 0, 0, 0, 0), (38, 0, rx_h_gf, .getfield 34, 3, 6, 0, 1, 188), (41, 4, rx_h_no, .invokevirtual 52, 3, 5, 8, 4, 30), (44, 0, rx_h_icmp .ge, .if_icmp .ge 31, 3, 75, 0, 0, 0)],
  [],
  [(75, 0, rx_h_psh 1, .iconst 0, 1, 0, 0, 0, 0), (76, 0, rx_h_sto rx_isI 3 1, .istore_n 3, 1, 0, 0, 0, 0), (77, 0, rx_h_ld rx_isI 3 1, .iload_n 3, 1, 0, 0, 0, 0), (78, 0, rx_h_ld rx_isR 0 1, .aload_n 0, 1, 0, 0, 0, 0), (79, 0, rx_h_gf, .getfield 34, 3, 6, 0, 1, 188)],
  [(82, 0, rx_h_gf, .getfield 62, 3, 2, 0, 1, 38), (85, 0, rx_h_icmp .ge, .if_icmp .ge 14, 3, 99, 0, 0, 0)],
  [(99, 0, rx_h_ld rx_isR 0 1, .aload_n 0, 1, 0, 0, 0, 0), (100, 0, rx_h_psh 1, .iconst 1, 1, 1, 0, 0, 0), (101, 0, rx_h_pf, .putfield 38, 3, 6, 3, 1, 191), (104, 0, rx_h_ld rx_isR 0 1, .aload_n 0, 1, 0, 0, 0, 0), (105, 0, rx_h_psh 1, .iconst 0, 1, 0, 0, 0, 0), (106, 0, rx_h_pf, .putfield 42, 3, 6, 4, 1, 192), (109, 3, rx_h_no, .return_, 1, 0, 0, 0, 0)]], (yX6_see, cX6_see, none), ((4, 29), (4, 27), (4, 28), (1, 5)))
/-- TurnNet$Routes.fillTable()V -/
noncomputable def rxm_57 : rx_M := ((4, 1, 20, 0, 0, 0, 0, 0), [[(0, 0, rx_h_psh 1, .iconst 0, 1, 0, 0, 0, 0), (1, 0, rx_h_sto rx_isI 1 1, .istore_n 1, 1, 0, 0, 0, 0), (2, 0, rx_h_ld rx_isI 1 1, .iload_n 1, 1, 0, 0, 0, 0), (3, 0, rx_h_ld rx_isR 0 1, .aload_n 0, 1, 0, 0, 0, 0), (4, 0, rx_h_gf, .getfield 34, 3, 6, 0, 1, 188), (7, 4, rx_h_no, .invokevirtual 52, 3, 5, 8, 4, 30), (10, 0, rx_h_icmp .ge, .if_icmp .ge 16, 3, 26, 0, 0, 0)],
  [(26, 0, rx_h_psh 1, .iconst 0, 1, 0, 0, 0, 0), (27, 0, rx_h_sto rx_isI 1 1, .istore_n 1, 1, 0, 0, 0, 0), (28, 0, rx_h_ld rx_isI 1 1, .iload_n 1, 1, 0, 0, 0, 0), (29, 0, rx_h_ld rx_isR 0 1, .aload_n 0, 1, 0, 0, 0, 0), (30, 0, rx_h_gf, .getfield 34, 3, 6, 0, 1, 188)],
  [(33, 0, rx_h_gf, .getfield 62, 3, 2, 0, 1, 38), (36, 0, rx_h_icmp .ge, .if_icmp .ge 69, 3, 105, 0, 0, 0)],
  [],
  [],
  [],
  [(105, 3, rx_h_no, .return_, 1, 0, 0, 0, 0)]], (yX6_fillTable, cX6_fillTable, none), ((4, 51), (4, 50), (0, 29), (1, 5)))
/-- TurnNet$Routes.countLoads()V -/
noncomputable def rxm_58 : rx_M := ((3, 1, 20, 0, 0, 0, 0, 0), [[(0, 0, rx_h_psh 1, .iconst 0, 1, 0, 0, 0, 0), (1, 0, rx_h_sto rx_isI 1 1, .istore_n 1, 1, 0, 0, 0, 0), (2, 0, rx_h_ld rx_isI 1 1, .iload_n 1, 1, 0, 0, 0, 0), (3, 0, rx_h_ld rx_isR 0 1, .aload_n 0, 1, 0, 0, 0, 0), (4, 0, rx_h_gf, .getfield 34, 3, 6, 0, 1, 188), (7, 4, rx_h_no, .invokevirtual 52, 3, 5, 8, 4, 30), (10, 0, rx_h_icmp .ge, .if_icmp .ge 16, 3, 26, 0, 0, 0)],
  [(26, 0, rx_h_psh 1, .iconst 0, 1, 0, 0, 0, 0), (27, 0, rx_h_sto rx_isI 1 1, .istore_n 1, 1, 0, 0, 0, 0), (28, 0, rx_h_ld rx_isI 1 1, .iload_n 1, 1, 0, 0, 0, 0), (29, 0, rx_h_ld rx_isR 0 1, .aload_n 0, 1, 0, 0, 0, 0), (30, 0, rx_h_gf, .getfield 34, 3, 6, 0, 1, 188)],
  [(33, 0, rx_h_gf, .getfield 62, 3, 2, 0, 1, 38), (36, 0, rx_h_icmp .ge, .if_icmp .ge 34, 3, 70, 0, 0, 0)],
  [],
  [(70, 3, rx_h_no, .return_, 1, 0, 0, 0, 0)]], (yX6_countLoads, cX6_countLoads, none), ((4, 67), (4, 66), (0, 33), (1, 5)))
/-- TurnNet$State.<init>()V -/
noncomputable def rxm_59 : rx_M := ((2, 1, 20, 4, 48, 0, 0, 0), [[(0, 0, rx_h_ld rx_isR 0 1, .aload_n 0, 1, 0, 0, 0, 0), (1, 4, rx_h_no, .invokespecial 3, 3, 0, 1, 2, 79), (4, 0, rx_h_ld rx_isR 0 1, .aload_n 0, 1, 0, 0, 0, 0), (5, 0, rx_h_psh 2, .bipush 12, 2, 12, 0, 0, 0), (7, 0, rx_h_newa .int, .newarray .int, 2, 0, 0, 1, 106), (9, 0, rx_h_pf, .putfield 9, 3, 7, 5, 2, 93), (12, 0, rx_h_ld rx_isR 0 1, .aload_n 0, 1, 0, 0, 0, 0), (13, 0, rx_h_psh 2, .bipush 12, 2, 12, 0, 0, 0), (15, 0, rx_h_newa .int, .newarray .int, 2, 0, 0, 1, 106)],
  [(17, 0, rx_h_pf, .putfield 15, 3, 7, 6, 2, 96), (20, 0, rx_h_ld rx_isR 0 1, .aload_n 0, 1, 0, 0, 0, 0), (21, 0, rx_h_psh 2, .bipush 12, 2, 12, 0, 0, 0), (23, 0, rx_h_newa .int, .newarray .int, 2, 0, 0, 1, 106), (25, 0, rx_h_pf, .putfield 18, 3, 7, 7, 2, 99), (28, 0, rx_h_ld rx_isR 0 1, .aload_n 0, 1, 0, 0, 0, 0), (29, 0, rx_h_psh 2, .bipush 12, 2, 12, 0, 0, 0), (31, 0, rx_h_newa .int, .newarray .int, 2, 0, 0, 1, 106)],
  [(33, 0, rx_h_pf, .putfield 21, 3, 7, 8, 2, 102), (36, 0, rx_h_psh 1, .iconst 0, 1, 0, 0, 0, 0), (37, 0, rx_h_sto rx_isI 1 1, .istore_n 1, 1, 0, 0, 0, 0), (38, 0, rx_h_ld rx_isI 1 1, .iload_n 1, 1, 0, 0, 0, 0), (39, 0, rx_h_psh 2, .bipush 12, 2, 12, 0, 0, 0), (41, 0, rx_h_icmp .ge, .if_icmp .ge 16, 3, 57, 0, 0, 0), (44, 0, rx_h_ld rx_isR 0 1, .aload_n 0, 1, 0, 0, 0, 0), (45, 0, rx_h_gf, .getfield 9, 3, 7, 5, 2, 93)],
  [(48, 0, rx_h_ld rx_isI 1 1, .iload_n 1, 1, 0, 0, 0, 0), (49, 0, rx_h_psh 1, .iconst (-1), 1, 4294967295, 0, 0, 0), (50, 0, rx_h_iast, .iastore, 1, 0, 0, 0, 0), (51, 0, rx_h_inc 1, .iinc 1 1, 3, 1, 0, 0, 0), (54, 0, rx_h_goto, .goto (-16), 3, 38, 0, 0, 0), (57, 3, rx_h_no, .return_, 1, 0, 0, 0, 0)]], (yX7_init, cX7_init, none), ((2, 78), (2, 77), (0, 0), (1, 11)))
/-- TurnNet$State.copyFrom(LTurnNet$State;)V -/
noncomputable def rxm_60 : rx_M := ((2, 1, 40, 0, 0, 1, 0, 0), [[(0, 0, rx_h_ld rx_isR 0 1, .aload_n 0, 1, 0, 0, 0, 0), (1, 0, rx_h_ld rx_isR 1 1, .aload_n 1, 1, 0, 0, 0, 0), (2, 0, rx_h_gf, .getfield 24, 3, 7, 0, 2, 80), (5, 0, rx_h_pf, .putfield 24, 3, 7, 0, 2, 80), (8, 0, rx_h_ld rx_isR 0 1, .aload_n 0, 1, 0, 0, 0, 0), (9, 0, rx_h_ld rx_isR 1 1, .aload_n 1, 1, 0, 0, 0, 0), (10, 0, rx_h_gf, .getfield 28, 3, 7, 1, 2, 82), (13, 0, rx_h_pf, .putfield 28, 3, 7, 1, 2, 82)],
  [(16, 0, rx_h_ld rx_isR 0 1, .aload_n 0, 1, 0, 0, 0, 0), (17, 0, rx_h_ld rx_isR 1 1, .aload_n 1, 1, 0, 0, 0, 0), (18, 0, rx_h_gf, .getfield 31, 3, 7, 2, 2, 85), (21, 0, rx_h_pf, .putfield 31, 3, 7, 2, 2, 85), (24, 0, rx_h_ld rx_isR 0 1, .aload_n 0, 1, 0, 0, 0, 0), (25, 0, rx_h_ld rx_isR 1 1, .aload_n 1, 1, 0, 0, 0, 0), (26, 0, rx_h_gf, .getfield 34, 3, 7, 3, 2, 87), (29, 0, rx_h_pf, .putfield 34, 3, 7, 3, 2, 87)],
  [(32, 0, rx_h_ld rx_isR 0 1, .aload_n 0, 1, 0, 0, 0, 0), (33, 0, rx_h_ld rx_isR 1 1, .aload_n 1, 1, 0, 0, 0, 0), (34, 0, rx_h_gf, .getfield 37, 3, 7, 4, 2, 91), (37, 0, rx_h_pf, .putfield 37, 3, 7, 4, 2, 91), (40, 0, rx_h_ld rx_isR 1 1, .aload_n 1, 1, 0, 0, 0, 0), (41, 0, rx_h_gf, .getfield 9, 3, 7, 5, 2, 93), (44, 0, rx_h_psh 1, .iconst 0, 1, 0, 0, 0, 0), (45, 0, rx_h_ld rx_isR 0 1, .aload_n 0, 1, 0, 0, 0, 0), (46, 0, rx_h_gf, .getfield 9, 3, 7, 5, 2, 93)],
  [(49, 0, rx_h_psh 1, .iconst 0, 1, 0, 0, 0, 0), (50, 0, rx_h_psh 2, .bipush 12, 2, 12, 0, 0, 0), (52, 5, rx_h_no, .invokestatic 40, 3, 0, 2, 3, 188), (55, 0, rx_h_ld rx_isR 1 1, .aload_n 1, 1, 0, 0, 0, 0), (56, 0, rx_h_gf, .getfield 15, 3, 7, 6, 2, 96), (59, 0, rx_h_psh 1, .iconst 0, 1, 0, 0, 0, 0), (60, 0, rx_h_ld rx_isR 0 1, .aload_n 0, 1, 0, 0, 0, 0), (61, 0, rx_h_gf, .getfield 15, 3, 7, 6, 2, 96)],
  [(64, 0, rx_h_psh 1, .iconst 0, 1, 0, 0, 0, 0), (65, 0, rx_h_psh 2, .bipush 12, 2, 12, 0, 0, 0), (67, 5, rx_h_no, .invokestatic 40, 3, 0, 2, 3, 188), (70, 0, rx_h_ld rx_isR 1 1, .aload_n 1, 1, 0, 0, 0, 0), (71, 0, rx_h_gf, .getfield 18, 3, 7, 7, 2, 99), (74, 0, rx_h_psh 1, .iconst 0, 1, 0, 0, 0, 0), (75, 0, rx_h_ld rx_isR 0 1, .aload_n 0, 1, 0, 0, 0, 0), (76, 0, rx_h_gf, .getfield 18, 3, 7, 7, 2, 99), (79, 0, rx_h_psh 1, .iconst 0, 1, 0, 0, 0, 0)],
  [(80, 0, rx_h_psh 2, .bipush 12, 2, 12, 0, 0, 0), (82, 5, rx_h_no, .invokestatic 40, 3, 0, 2, 3, 188), (85, 0, rx_h_ld rx_isR 1 1, .aload_n 1, 1, 0, 0, 0, 0), (86, 0, rx_h_gf, .getfield 21, 3, 7, 8, 2, 102), (89, 0, rx_h_psh 1, .iconst 0, 1, 0, 0, 0, 0), (90, 0, rx_h_ld rx_isR 0 1, .aload_n 0, 1, 0, 0, 0, 0), (91, 0, rx_h_gf, .getfield 21, 3, 7, 8, 2, 102), (94, 0, rx_h_psh 1, .iconst 0, 1, 0, 0, 0, 0), (95, 0, rx_h_psh 2, .bipush 12, 2, 12, 0, 0, 0)],
  [(97, 5, rx_h_no, .invokestatic 40, 3, 0, 2, 3, 188), (100, 3, rx_h_no, .return_, 1, 0, 0, 0, 0)]], (yX7_copyFrom, cX7_copyFrom, none), ((3, 187), (3, 185), (3, 186), (1, 11)))
/-- TurnNet$Traffic.<init>(LTurnNet$Net;)V -/
noncomputable def rxm_61 : rx_M := ((2, 1, 20, 0, 0, 1, 0, 0), [[(0, 0, rx_h_ld rx_isR 0 1, .aload_n 0, 1, 0, 0, 0, 0), (1, 4, rx_h_no, .invokespecial 3, 3, 0, 1, 2, 54), (4, 0, rx_h_ld rx_isR 0 1, .aload_n 0, 1, 0, 0, 0, 0), (5, 0, rx_h_ld rx_isR 1 1, .aload_n 1, 1, 0, 0, 0, 0), (6, 0, rx_h_pf, .putfield 9, 3, 8, 0, 2, 55), (9, 3, rx_h_no, .return_, 1, 0, 0, 0, 0)]], (yX8_init, cX8_init, none), ((2, 53), (2, 52), (0, 0), (1, 9)))
/-- TurnNet$Turns.<init>(LTurnNet$Net;)V -/
noncomputable def rxm_62 : rx_M := ((2, 1, 20, 2, 50, 1, 0, 0), [[(0, 0, rx_h_ld rx_isR 0 1, .aload_n 0, 1, 0, 0, 0, 0), (1, 4, rx_h_no, .invokespecial 3, 3, 0, 1, 2, 14), (4, 0, rx_h_ld rx_isR 0 1, .aload_n 0, 1, 0, 0, 0, 0), (5, 0, rx_h_psh 2, .bipush 10, 2, 10, 0, 0, 0), (7, 0, rx_h_newa .long, .newarray .long, 2, 0, 0, 1, 226), (9, 0, rx_h_pf, .putfield 9, 3, 9, 1, 2, 16), (12, 0, rx_h_ld rx_isR 0 1, .aload_n 0, 1, 0, 0, 0, 0), (13, 0, rx_h_psh 2, .bipush 40, 2, 40, 0, 0, 0), (15, 0, rx_h_newa .long, .newarray .long, 2, 0, 0, 1, 226)],
  [(17, 0, rx_h_pf, .putfield 15, 3, 9, 2, 2, 17), (20, 0, rx_h_ld rx_isR 0 1, .aload_n 0, 1, 0, 0, 0, 0), (21, 0, rx_h_ld rx_isR 1 1, .aload_n 1, 1, 0, 0, 0, 0), (22, 0, rx_h_pf, .putfield 18, 3, 9, 0, 2, 15), (25, 3, rx_h_no, .return_, 1, 0, 0, 0, 0)]], (yX9_init, cX9_init, none), ((2, 13), (2, 12), (0, 0), (1, 7)))
/-- TurnNet$Turns.upChannels(I)J -/
noncomputable def rxm_63 : rx_M := ((5, 1, 20, 0, 0, 1, 3, 0), [[(0, 0, rx_h_pshJ 1, .lconst 0, 1, 0, 0, 0, 0), (1, 0, rx_h_stJ 2 1, .lstore_n 2, 1, 0, 0, 0, 0), (2, 0, rx_h_psh 1, .iconst 0, 1, 0, 0, 0, 0), (3, 0, rx_h_sto rx_isI 4 2, .istore 4, 2, 0, 0, 0, 0), (5, 0, rx_h_ld rx_isI 4 2, .iload 4, 2, 0, 0, 0, 0), (7, 0, rx_h_ld rx_isR 0 1, .aload_n 0, 1, 0, 0, 0, 0), (8, 0, rx_h_gf, .getfield 18, 3, 9, 0, 2, 15), (11, 4, rx_h_no, .invokevirtual 28, 3, 5, 8, 3, 237), (14, 0, rx_h_icmp .ge, .if_icmp .ge 25, 3, 39, 0, 0, 0)],
  [],
  [(39, 0, rx_h_ld rx_isJ 2 1, .lload_n 2, 1, 0, 0, 0, 0), (40, 2, rx_h_no, .lreturn, 1, 0, 0, 0, 0)]], (yX9_upChannels, cX9_upChannels, (some .long)), ((4, 1), (4, 0), (0, 22), (1, 7)))
/-- TurnNet.feed(IIIII)I -/
noncomputable def rxm_64 : rx_M := ((6, 1, 22, 0, 0, 5, 1, 0), [[(0, 0, rx_h_ld rx_isR 0 1, .aload_n 0, 1, 0, 0, 0, 0), (1, 0, rx_h_gf, .getfield 19, 3, 10, 1, 2, 142), (4, 0, rx_h_gf, .getfield 97, 3, 5, 1, 1, 116), (7, 0, rx_h_psh 2, .bipush 20, 2, 20, 0, 0, 0), (9, 0, rx_h_ar rx_f_add rx_g32, .iadd, 1, 0, 0, 0, 0), (10, 0, rx_h_psh 3, .sipush 800, 3, 800, 0, 0, 0), (13, 0, rx_h_icmp .le, .if_icmp .le 5, 3, 18, 0, 0, 0)],
  [(18, 0, rx_h_ld rx_isR 0 1, .aload_n 0, 1, 0, 0, 0, 0), (19, 0, rx_h_gf, .getfield 19, 3, 10, 1, 2, 142), (22, 0, rx_h_ld rx_isI 1 1, .iload_n 1, 1, 0, 0, 0, 0), (23, 4, rx_h_no, .invokevirtual 101, 3, 10, 20, 2, 189), (26, 0, rx_h_ld rx_isR 0 1, .aload_n 0, 1, 0, 0, 0, 0), (27, 0, rx_h_gf, .getfield 19, 3, 10, 1, 2, 142), (30, 0, rx_h_ld rx_isI 2 1, .iload_n 2, 1, 0, 0, 0, 0), (31, 4, rx_h_no, .invokevirtual 101, 3, 10, 20, 2, 189)],
  [(34, 0, rx_h_ld rx_isR 0 1, .aload_n 0, 1, 0, 0, 0, 0), (35, 0, rx_h_gf, .getfield 19, 3, 10, 1, 2, 142), (38, 0, rx_h_ld rx_isI 3 1, .iload_n 3, 1, 0, 0, 0, 0), (39, 4, rx_h_no, .invokevirtual 101, 3, 10, 20, 2, 189), (42, 0, rx_h_ld rx_isR 0 1, .aload_n 0, 1, 0, 0, 0, 0), (43, 0, rx_h_gf, .getfield 19, 3, 10, 1, 2, 142), (46, 0, rx_h_ld rx_isI 4 2, .iload 4, 2, 0, 0, 0, 0)],
  [(48, 4, rx_h_no, .invokevirtual 101, 3, 10, 20, 2, 189), (51, 0, rx_h_ld rx_isR 0 1, .aload_n 0, 1, 0, 0, 0, 0), (52, 0, rx_h_gf, .getfield 19, 3, 10, 1, 2, 142), (55, 0, rx_h_ld rx_isI 5 2, .iload 5, 2, 0, 0, 0, 0), (57, 4, rx_h_no, .invokevirtual 101, 3, 10, 20, 2, 189), (60, 0, rx_h_ld rx_isR 0 1, .aload_n 0, 1, 0, 0, 0, 0), (61, 0, rx_h_gf, .getfield 19, 3, 10, 1, 2, 142)],
  [(64, 0, rx_h_gf, .getfield 97, 3, 5, 1, 1, 116), (67, 1, rx_h_no, .ireturn, 1, 0, 0, 0, 0)]], (yX10_feed, cX10_feed, (some .int)), ((2, 188), (2, 186), (2, 187), (1, 1)))
/-- TurnNet.cut(I)I -/
noncomputable def rxm_65 : rx_M := ((2, 1, 21, 0, 0, 1, 1, 0), [[(0, 0, rx_h_ld rx_isR 0 1, .aload_n 0, 1, 0, 0, 0, 0), (1, 0, rx_h_gf, .getfield 12, 3, 10, 0, 2, 141), (4, 0, rx_h_ld rx_isI 1 1, .iload_n 1, 1, 0, 0, 0, 0), (5, 4, rx_h_no, .invokevirtual 148, 3, 8, 8, 3, 168), (8, 0, rx_h_if .eq, .ifCond .eq 14, 3, 22, 0, 0, 0)],
  [(22, 0, rx_h_psh 1, .iconst (-1), 1, 4294967295, 0, 0, 0), (23, 1, rx_h_no, .ireturn, 1, 0, 0, 0, 0)]], (yX10_cut, cX10_cut, (some .int)), ((3, 167), (3, 165), (3, 166), (1, 1)))
/-- TurnNet.mend(I)I -/
noncomputable def rxm_66 : rx_M := ((2, 1, 21, 0, 0, 1, 1, 0), [[(0, 0, rx_h_ld rx_isR 0 1, .aload_n 0, 1, 0, 0, 0, 0), (1, 0, rx_h_gf, .getfield 12, 3, 10, 0, 2, 141), (4, 0, rx_h_ld rx_isI 1 1, .iload_n 1, 1, 0, 0, 0, 0), (5, 4, rx_h_no, .invokevirtual 148, 3, 8, 8, 3, 168), (8, 0, rx_h_if .eq, .ifCond .eq 14, 3, 22, 0, 0, 0)],
  [(22, 0, rx_h_psh 1, .iconst (-1), 1, 4294967295, 0, 0, 0), (23, 1, rx_h_no, .ireturn, 1, 0, 0, 0, 0)]], (yX10_mend, cX10_mend, (some .int)), ((3, 198), (3, 196), (3, 197), (1, 1)))
/-- TurnNet.turn(I)I -/
noncomputable def rxm_67 : rx_M := ((2, 1, 21, 0, 0, 1, 1, 0), [[(0, 0, rx_h_ld rx_isR 0 1, .aload_n 0, 1, 0, 0, 0, 0), (1, 0, rx_h_gf, .getfield 12, 3, 10, 0, 2, 141), (4, 0, rx_h_ld rx_isI 1 1, .iload_n 1, 1, 0, 0, 0, 0), (5, 4, rx_h_no, .invokevirtual 148, 3, 8, 8, 3, 168), (8, 0, rx_h_if .ne, .ifCond .ne 5, 3, 13, 0, 0, 0), (11, 0, rx_h_psh 1, .iconst (-1), 1, 4294967295, 0, 0, 0), (12, 1, rx_h_no, .ireturn, 1, 0, 0, 0, 0)]], (yX10_turn, cX10_turn, (some .int)), ((3, 202), (3, 200), (3, 201), (1, 1)))
/-- TurnNet.orient(I)I -/
noncomputable def rxm_68 : rx_M := ((4, 1, 21, 0, 0, 1, 1, 0), [[(0, 0, rx_h_ld rx_isR 0 1, .aload_n 0, 1, 0, 0, 0, 0), (1, 0, rx_h_gf, .getfield 12, 3, 10, 0, 2, 141), (4, 0, rx_h_ld rx_isI 1 1, .iload_n 1, 1, 0, 0, 0, 0), (5, 4, rx_h_no, .invokevirtual 175, 3, 7, 8, 3, 211), (8, 0, rx_h_if .ne, .ifCond .ne 5, 3, 13, 0, 0, 0), (11, 0, rx_h_psh 1, .iconst (-1), 1, 4294967295, 0, 0, 0), (12, 1, rx_h_no, .ireturn, 1, 0, 0, 0, 0)]], (yX10_orient, cX10_orient, (some .int)), ((3, 210), (3, 208), (3, 209), (1, 1)))
/-- TurnNet.change(II)I -/
noncomputable def rxm_69 : rx_M := ((4, 1, 21, 0, 0, 2, 1, 0), [[(0, 0, rx_h_ld rx_isR 0 1, .aload_n 0, 1, 0, 0, 0, 0), (1, 0, rx_h_gf, .getfield 12, 3, 10, 0, 2, 141), (4, 0, rx_h_ld rx_isI 1 1, .iload_n 1, 1, 0, 0, 0, 0), (5, 4, rx_h_no, .invokevirtual 175, 3, 7, 8, 3, 211), (8, 0, rx_h_if .eq, .ifCond .eq 13, 3, 21, 0, 0, 0)],
  [(21, 0, rx_h_psh 1, .iconst (-1), 1, 4294967295, 0, 0, 0), (22, 1, rx_h_no, .ireturn, 1, 0, 0, 0, 0)]], (yX10_change, cX10_change, (some .int)), ((3, 219), (3, 217), (3, 218), (1, 1)))
/-- TurnNet.send(II)I -/
noncomputable def rxm_70 : rx_M := ((3, 1, 21, 0, 0, 2, 1, 0), [[(0, 0, rx_h_ld rx_isR 0 1, .aload_n 0, 1, 0, 0, 0, 0), (1, 0, rx_h_gf, .getfield 12, 3, 10, 0, 2, 141), (4, 0, rx_h_ld rx_isI 1 1, .iload_n 1, 1, 0, 0, 0, 0), (5, 4, rx_h_no, .invokevirtual 175, 3, 7, 8, 3, 211), (8, 0, rx_h_if .eq, .ifCond .eq 30, 3, 38, 0, 0, 0)],
  [],
  [(38, 0, rx_h_psh 1, .iconst (-1), 1, 4294967295, 0, 0, 0), (39, 1, rx_h_no, .ireturn, 1, 0, 0, 0, 0)]], (yX10_send, cX10_send, (some .int)), ((4, 109), (4, 107), (4, 108), (1, 1)))
/-- TurnNet.node(II)I -/
noncomputable def rxm_71 : rx_M := ((3, 1, 21, 0, 0, 2, 1, 0), [[(0, 0, rx_h_ld rx_isR 0 1, .aload_n 0, 1, 0, 0, 0, 0), (1, 0, rx_h_gf, .getfield 12, 3, 10, 0, 2, 141), (4, 0, rx_h_ld rx_isI 1 1, .iload_n 1, 1, 0, 0, 0, 0), (5, 4, rx_h_no, .invokevirtual 175, 3, 7, 8, 3, 211), (8, 0, rx_h_if .ne, .ifCond .ne 6, 3, 14, 0, 0, 0), (11, 0, rx_h_psh 2, .bipush (-2), 2, 4294967294, 0, 0, 0), (13, 1, rx_h_no, .ireturn, 1, 0, 0, 0, 0)]], (yX10_node, cX10_node, (some .int)), ((4, 146), (4, 144), (4, 145), (1, 1)))
/-- TurnNet.link(II)I -/
noncomputable def rxm_72 : rx_M := ((3, 1, 21, 0, 0, 2, 1, 0), [[(0, 0, rx_h_ld rx_isR 0 1, .aload_n 0, 1, 0, 0, 0, 0), (1, 0, rx_h_gf, .getfield 12, 3, 10, 0, 2, 141), (4, 0, rx_h_ld rx_isI 1 1, .iload_n 1, 1, 0, 0, 0, 0), (5, 4, rx_h_no, .invokevirtual 148, 3, 8, 8, 3, 168), (8, 0, rx_h_if .ne, .ifCond .ne 5, 3, 13, 0, 0, 0), (11, 0, rx_h_psh 1, .iconst (-1), 1, 4294967295, 0, 0, 0), (12, 1, rx_h_no, .ireturn, 1, 0, 0, 0, 0)]], (yX10_link, cX10_link, (some .int)), ((4, 158), (4, 156), (4, 157), (1, 1)))
/-- TurnNet.length(II)I -/
noncomputable def rxm_73 : rx_M := ((3, 1, 21, 0, 0, 2, 1, 0), [[(0, 0, rx_h_ld rx_isR 0 1, .aload_n 0, 1, 0, 0, 0, 0), (1, 0, rx_h_gf, .getfield 12, 3, 10, 0, 2, 141), (4, 0, rx_h_ld rx_isI 1 1, .iload_n 1, 1, 0, 0, 0, 0), (5, 4, rx_h_no, .invokevirtual 175, 3, 7, 8, 3, 211), (8, 0, rx_h_if .eq, .ifCond .eq 14, 3, 22, 0, 0, 0)],
  [(22, 0, rx_h_psh 1, .iconst (-1), 1, 4294967295, 0, 0, 0), (23, 1, rx_h_no, .ireturn, 1, 0, 0, 0, 0)]], (yX10_length, cX10_length, (some .int)), ((4, 162), (4, 160), (4, 161), (1, 1)))
/-- TurnNet.plain(II)I -/
noncomputable def rxm_74 : rx_M := ((3, 1, 21, 0, 0, 2, 1, 0), [[(0, 0, rx_h_ld rx_isR 0 1, .aload_n 0, 1, 0, 0, 0, 0), (1, 0, rx_h_gf, .getfield 12, 3, 10, 0, 2, 141), (4, 0, rx_h_ld rx_isI 1 1, .iload_n 1, 1, 0, 0, 0, 0), (5, 4, rx_h_no, .invokevirtual 175, 3, 7, 8, 3, 211), (8, 0, rx_h_if .eq, .ifCond .eq 14, 3, 22, 0, 0, 0)],
  [(22, 0, rx_h_psh 1, .iconst (-1), 1, 4294967295, 0, 0, 0), (23, 1, rx_h_no, .ireturn, 1, 0, 0, 0, 0)]], (yX10_plain, cX10_plain, (some .int)), ((4, 171), (4, 169), (4, 170), (1, 1)))
/-- TurnNet.ways(II)J -/
noncomputable def rxm_75 : rx_M := ((3, 1, 21, 0, 0, 2, 3, 0), [[(0, 0, rx_h_ld rx_isR 0 1, .aload_n 0, 1, 0, 0, 0, 0), (1, 0, rx_h_gf, .getfield 12, 3, 10, 0, 2, 141), (4, 0, rx_h_ld rx_isI 1 1, .iload_n 1, 1, 0, 0, 0, 0), (5, 4, rx_h_no, .invokevirtual 175, 3, 7, 8, 3, 211), (8, 0, rx_h_if .eq, .ifCond .eq 14, 3, 22, 0, 0, 0)],
  [(22, 0, rx_h_pshJ 3, .ldc2_w 244, 3, 18446744073709551615, 0, 4, 185), (25, 2, rx_h_no, .lreturn, 1, 0, 0, 0, 0)]], (yX10_ways, cX10_ways, (some .long)), ((4, 184), (4, 182), (4, 183), (1, 1)))
/-- TurnNet.through(III)J -/
noncomputable def rxm_76 : rx_M := ((4, 1, 21, 0, 0, 3, 3, 0), [[(0, 0, rx_h_ld rx_isR 0 1, .aload_n 0, 1, 0, 0, 0, 0), (1, 0, rx_h_gf, .getfield 12, 3, 10, 0, 2, 141), (4, 0, rx_h_ld rx_isI 1 1, .iload_n 1, 1, 0, 0, 0, 0), (5, 4, rx_h_no, .invokevirtual 175, 3, 7, 8, 3, 211), (8, 0, rx_h_if .eq, .ifCond .eq 25, 3, 33, 0, 0, 0)],
  [],
  [(33, 0, rx_h_pshJ 3, .ldc2_w 244, 3, 18446744073709551615, 0, 4, 185), (36, 2, rx_h_no, .lreturn, 1, 0, 0, 0, 0)]], (yX10_through, cX10_through, (some .long)), ((4, 201), (4, 199), (4, 200), (1, 1)))
/-- TurnNet.entry(III)I -/
noncomputable def rxm_77 : rx_M := ((4, 1, 21, 0, 0, 3, 1, 0), [[(0, 0, rx_h_ld rx_isR 0 1, .aload_n 0, 1, 0, 0, 0, 0), (1, 0, rx_h_gf, .getfield 12, 3, 10, 0, 2, 141), (4, 0, rx_h_ld rx_isI 1 1, .iload_n 1, 1, 0, 0, 0, 0), (5, 4, rx_h_no, .invokevirtual 175, 3, 7, 8, 3, 211), (8, 0, rx_h_if .eq, .ifCond .eq 23, 3, 31, 0, 0, 0)],
  [(31, 0, rx_h_psh 1, .iconst (-1), 1, 4294967295, 0, 0, 0)],
  [(32, 1, rx_h_no, .ireturn, 1, 0, 0, 0, 0)]], (yX10_entry, cX10_entry, (some .int)), ((4, 221), (4, 219), (4, 220), (1, 1)))
/-- TurnNet.path(III)I -/
noncomputable def rxm_78 : rx_M := ((4, 1, 21, 0, 0, 3, 1, 0), [[(0, 0, rx_h_ld rx_isR 0 1, .aload_n 0, 1, 0, 0, 0, 0), (1, 0, rx_h_gf, .getfield 12, 3, 10, 0, 2, 141), (4, 0, rx_h_ld rx_isI 1 1, .iload_n 1, 1, 0, 0, 0, 0), (5, 4, rx_h_no, .invokevirtual 175, 3, 7, 8, 3, 211), (8, 0, rx_h_if .eq, .ifCond .eq 18, 3, 26, 0, 0, 0)],
  [(26, 0, rx_h_psh 1, .iconst (-1), 1, 4294967295, 0, 0, 0), (27, 1, rx_h_no, .ireturn, 1, 0, 0, 0, 0)]], (yX10_path, cX10_path, (some .int)), ((4, 226), (4, 224), (4, 225), (1, 1)))
/-- TurnNet.plan(II)I -/
noncomputable def rxm_79 : rx_M := ((3, 1, 21, 0, 0, 2, 1, 0), [[(0, 0, rx_h_ld rx_isR 0 1, .aload_n 0, 1, 0, 0, 0, 0), (1, 0, rx_h_gf, .getfield 12, 3, 10, 0, 2, 141), (4, 0, rx_h_ld rx_isI 1 1, .iload_n 1, 1, 0, 0, 0, 0), (5, 4, rx_h_no, .invokevirtual 175, 3, 7, 8, 3, 211), (8, 0, rx_h_if .eq, .ifCond .eq 12, 3, 20, 0, 0, 0)],
  [(20, 0, rx_h_psh 1, .iconst (-1), 1, 4294967295, 0, 0, 0), (21, 1, rx_h_no, .ireturn, 1, 0, 0, 0, 0)]], (yX10_plan, cX10_plan, (some .int)), ((5, 57), (5, 55), (5, 56), (1, 1)))
/-- TurnNet.phase(II)I -/
noncomputable def rxm_80 : rx_M := ((3, 1, 21, 0, 0, 2, 1, 0), [[(0, 0, rx_h_ld rx_isR 0 1, .aload_n 0, 1, 0, 0, 0, 0), (1, 0, rx_h_gf, .getfield 12, 3, 10, 0, 2, 141), (4, 0, rx_h_ld rx_isI 1 1, .iload_n 1, 1, 0, 0, 0, 0), (5, 4, rx_h_no, .invokevirtual 175, 3, 7, 8, 3, 211), (8, 0, rx_h_if .eq, .ifCond .eq 14, 3, 22, 0, 0, 0)],
  [(22, 0, rx_h_psh 1, .iconst (-1), 1, 4294967295, 0, 0, 0), (23, 1, rx_h_no, .ireturn, 1, 0, 0, 0, 0)]], (yX10_phase, cX10_phase, (some .int)), ((5, 61), (5, 59), (5, 60), (1, 1)))
/-- TurnNet.rooted(II)I -/
noncomputable def rxm_81 : rx_M := ((3, 1, 21, 0, 0, 2, 1, 0), [[(0, 0, rx_h_ld rx_isR 0 1, .aload_n 0, 1, 0, 0, 0, 0), (1, 0, rx_h_gf, .getfield 12, 3, 10, 0, 2, 141), (4, 0, rx_h_ld rx_isI 1 1, .iload_n 1, 1, 0, 0, 0, 0), (5, 4, rx_h_no, .invokevirtual 175, 3, 7, 8, 3, 211), (8, 0, rx_h_if .eq, .ifCond .eq 12, 3, 20, 0, 0, 0)],
  [(20, 0, rx_h_psh 1, .iconst (-1), 1, 4294967295, 0, 0, 0), (21, 1, rx_h_no, .ireturn, 1, 0, 0, 0, 0)]], (yX10_rooted, cX10_rooted, (some .int)), ((5, 69), (5, 67), (5, 68), (1, 1)))
/-- TurnNet.without(II)I -/
noncomputable def rxm_82 : rx_M := ((5, 1, 21, 0, 0, 2, 1, 0), [[(0, 0, rx_h_ld rx_isR 0 1, .aload_n 0, 1, 0, 0, 0, 0), (1, 0, rx_h_gf, .getfield 12, 3, 10, 0, 2, 141), (4, 0, rx_h_ld rx_isI 1 1, .iload_n 1, 1, 0, 0, 0, 0), (5, 4, rx_h_no, .invokevirtual 148, 3, 8, 8, 3, 168), (8, 0, rx_h_if .eq, .ifCond .eq 14, 3, 22, 0, 0, 0)],
  [(22, 0, rx_h_psh 1, .iconst (-1), 1, 4294967295, 0, 0, 0), (23, 1, rx_h_no, .ireturn, 1, 0, 0, 0, 0)]], (yX10_without, cX10_without, (some .int)), ((5, 85), (5, 83), (5, 84), (1, 1)))
/-- TurnNet.apart(II)I -/
noncomputable def rxm_83 : rx_M := ((3, 1, 21, 0, 0, 2, 1, 0), [[(0, 0, rx_h_ld rx_isR 0 1, .aload_n 0, 1, 0, 0, 0, 0), (1, 0, rx_h_gf, .getfield 12, 3, 10, 0, 2, 141), (4, 0, rx_h_ld rx_isI 1 1, .iload_n 1, 1, 0, 0, 0, 0), (5, 4, rx_h_no, .invokevirtual 175, 3, 7, 8, 3, 211), (8, 0, rx_h_if .eq, .ifCond .eq 19, 3, 27, 0, 0, 0)],
  [(27, 0, rx_h_psh 1, .iconst (-1), 1, 4294967295, 0, 0, 0), (28, 1, rx_h_no, .ireturn, 1, 0, 0, 0, 0)]], (yX10_apart, cX10_apart, (some .int)), ((5, 93), (5, 91), (5, 92), (1, 1)))
/-- TurnNet.around(III)I -/
noncomputable def rxm_84 : rx_M := ((4, 1, 21, 0, 0, 3, 1, 0), [[(0, 0, rx_h_ld rx_isR 0 1, .aload_n 0, 1, 0, 0, 0, 0), (1, 0, rx_h_gf, .getfield 12, 3, 10, 0, 2, 141), (4, 0, rx_h_ld rx_isI 1 1, .iload_n 1, 1, 0, 0, 0, 0), (5, 4, rx_h_no, .invokevirtual 175, 3, 7, 8, 3, 211), (8, 0, rx_h_if .eq, .ifCond .eq 36, 3, 44, 0, 0, 0)],
  [],
  [(44, 0, rx_h_psh 1, .iconst (-1), 1, 4294967295, 0, 0, 0), (45, 1, rx_h_no, .ireturn, 1, 0, 0, 0, 0)]], (yX10_around, cX10_around, (some .int)), ((5, 113), (5, 111), (5, 112), (1, 1)))
/-- TurnNet.packet(II)I -/
noncomputable def rxm_85 : rx_M := ((3, 1, 21, 0, 0, 2, 1, 0), [[(0, 0, rx_h_ld rx_isR 0 1, .aload_n 0, 1, 0, 0, 0, 0), (1, 0, rx_h_gf, .getfield 94, 3, 10, 13, 2, 154), (4, 0, rx_h_ld rx_isI 1 1, .iload_n 1, 1, 0, 0, 0, 0), (5, 4, rx_h_no, .invokevirtual 335, 3, 16, 28, 5, 150), (8, 0, rx_h_if .ne, .ifCond .ne 6, 3, 14, 0, 0, 0), (11, 0, rx_h_psh 2, .bipush (-2), 2, 4294967294, 0, 0, 0), (13, 1, rx_h_no, .ireturn, 1, 0, 0, 0, 0)]], (yX10_packet, cX10_packet, (some .int)), ((5, 149), (5, 147), (5, 148), (1, 1)))
/-- TurnNet.about(I)I -/
noncomputable def rxm_86 : rx_M := ((2, 1, 22, 0, 0, 1, 1, 0), [[(0, 0, rx_h_ld rx_isI 1 1, .iload_n 1, 1, 0, 0, 0, 0), (1, 0, rx_h_tsw 0 11 #[63, 71, 79, 90, 112, 120, 128, 136, 144, 152, 160, 168], .tableswitch 176 0 11 #[63, 71, 79, 90, 112, 120, 128, 136, 144, 152, 160, 168], 63, 177, 0, 0, 0)],
  [],
  [],
  [],
  [(64, 0, rx_h_ld rx_isR 0 1, .aload_n 0, 1, 0, 0, 0, 0), (65, 0, rx_h_gf, .getfield 12, 3, 10, 0, 2, 141), (68, 0, rx_h_gf, .getfield 139, 3, 2, 0, 1, 39), (71, 1, rx_h_no, .ireturn, 1, 0, 0, 0, 0), (72, 0, rx_h_ld rx_isR 0 1, .aload_n 0, 1, 0, 0, 0, 0), (73, 0, rx_h_gf, .getfield 12, 3, 10, 0, 2, 141), (76, 0, rx_h_gf, .getfield 270, 3, 2, 1, 1, 47), (79, 1, rx_h_no, .ireturn, 1, 0, 0, 0, 0)],
  [(80, 0, rx_h_ld rx_isR 0 1, .aload_n 0, 1, 0, 0, 0, 0), (81, 0, rx_h_gf, .getfield 94, 3, 10, 13, 2, 154), (84, 0, rx_h_gf, .getfield 159, 3, 7, 2, 2, 86), (87, 5, rx_h_no, .invokestatic 162, 3, 44, 0, 3, 189), (90, 1, rx_h_no, .ireturn, 1, 0, 0, 0, 0), (91, 0, rx_h_ld rx_isR 0 1, .aload_n 0, 1, 0, 0, 0, 0), (92, 0, rx_h_gf, .getfield 12, 3, 10, 0, 2, 141), (95, 0, rx_h_gf, .getfield 139, 3, 2, 0, 1, 39)],
  [(98, 0, rx_h_if .ne, .ifCond .ne 7, 3, 105, 0, 0, 0), (101, 0, rx_h_psh 1, .iconst (-1), 1, 4294967295, 0, 0, 0), (102, 0, rx_h_goto, .goto 10, 3, 112, 0, 0, 0)],
  [(112, 1, rx_h_no, .ireturn, 1, 0, 0, 0, 0), (113, 0, rx_h_ld rx_isR 0 1, .aload_n 0, 1, 0, 0, 0, 0), (114, 0, rx_h_gf, .getfield 12, 3, 10, 0, 2, 141), (117, 0, rx_h_gf, .getfield 357, 3, 2, 3, 1, 54), (120, 1, rx_h_no, .ireturn, 1, 0, 0, 0, 0), (121, 0, rx_h_ld rx_isR 0 1, .aload_n 0, 1, 0, 0, 0, 0), (122, 0, rx_h_gf, .getfield 94, 3, 10, 13, 2, 154), (125, 4, rx_h_no, .invokevirtual 329, 3, 17, 28, 5, 142)],
  [(128, 1, rx_h_no, .ireturn, 1, 0, 0, 0, 0), (129, 0, rx_h_ld rx_isR 0 1, .aload_n 0, 1, 0, 0, 0, 0), (130, 0, rx_h_gf, .getfield 94, 3, 10, 13, 2, 154), (133, 0, rx_h_gf, .getfield 326, 3, 7, 3, 2, 89), (136, 1, rx_h_no, .ireturn, 1, 0, 0, 0, 0), (137, 0, rx_h_ld rx_isR 0 1, .aload_n 0, 1, 0, 0, 0, 0), (138, 0, rx_h_gf, .getfield 94, 3, 10, 13, 2, 154), (141, 0, rx_h_gf, .getfield 360, 3, 7, 4, 2, 92)],
  [(144, 1, rx_h_no, .ireturn, 1, 0, 0, 0, 0), (145, 0, rx_h_ld rx_isR 0 1, .aload_n 0, 1, 0, 0, 0, 0), (146, 0, rx_h_gf, .getfield 12, 3, 10, 0, 2, 141), (149, 0, rx_h_gf, .getfield 363, 3, 2, 4, 1, 57), (152, 1, rx_h_no, .ireturn, 1, 0, 0, 0, 0), (153, 0, rx_h_ld rx_isR 0 1, .aload_n 0, 1, 0, 0, 0, 0), (154, 0, rx_h_gf, .getfield 75, 3, 10, 9, 2, 150), (157, 0, rx_h_gf, .getfield 201, 3, 1, 2, 2, 127)],
  [(160, 1, rx_h_no, .ireturn, 1, 0, 0, 0, 0), (161, 0, rx_h_ld rx_isR 0 1, .aload_n 0, 1, 0, 0, 0, 0), (162, 0, rx_h_gf, .getfield 75, 3, 10, 9, 2, 150), (165, 0, rx_h_gf, .getfield 208, 3, 1, 3, 2, 129), (168, 1, rx_h_no, .ireturn, 1, 0, 0, 0, 0), (169, 0, rx_h_ld rx_isR 0 1, .aload_n 0, 1, 0, 0, 0, 0), (170, 0, rx_h_gf, .getfield 19, 3, 10, 1, 2, 142), (173, 0, rx_h_gf, .getfield 97, 3, 5, 1, 1, 116)],
  [(176, 1, rx_h_no, .ireturn, 1, 0, 0, 0, 0), (177, 0, rx_h_psh 1, .iconst (-1), 1, 4294967295, 0, 0, 0), (178, 1, rx_h_no, .ireturn, 1, 0, 0, 0, 0)]], (yX10_about, cX10_about, (some .int)), ((5, 175), (5, 173), (5, 174), (1, 1)))
/-- TurnNetModel.scan()V -/
noncomputable def rxm_87 : rx_M := ((2, 1, 21, 0, 0, 0, 0, 0), [[(0, 0, rx_h_ld rx_isR 0 1, .aload_n 0, 1, 0, 0, 0, 0), (1, 0, rx_h_ld rx_isR 0 1, .aload_n 0, 1, 0, 0, 0, 0), (2, 0, rx_h_gf, .getfield 123, 3, 11, 13, 6, 17), (5, 0, rx_h_pf, .putfield 126, 3, 11, 14, 6, 18), (8, 0, rx_h_ld rx_isR 0 1, .aload_n 0, 1, 0, 0, 0, 0), (9, 0, rx_h_ld rx_isR 0 1, .aload_n 0, 1, 0, 0, 0, 0), (10, 0, rx_h_gf, .getfield 126, 3, 11, 14, 6, 18), (13, 4, rx_h_no, .invokevirtual 129, 3, 34, 44, 6, 199)],
  [(16, 0, rx_h_if .eq, .ifCond .eq 16, 3, 32, 0, 0, 0)],
  [(32, 0, rx_h_ld rx_isR 0 1, .aload_n 0, 1, 0, 0, 0, 0), (33, 0, rx_h_ld rx_isR 0 1, .aload_n 0, 1, 0, 0, 0, 0), (34, 0, rx_h_gf, .getfield 126, 3, 11, 14, 6, 18), (37, 0, rx_h_psh 1, .iconst 1, 1, 1, 0, 0, 0), (38, 0, rx_h_ar rx_f_add rx_g32, .iadd, 1, 0, 0, 0, 0), (39, 0, rx_h_pf, .putfield 123, 3, 11, 13, 6, 17), (42, 0, rx_h_ld rx_isR 0 1, .aload_n 0, 1, 0, 0, 0, 0), (43, 0, rx_h_ld rx_isR 0 1, .aload_n 0, 1, 0, 0, 0, 0), (44, 0, rx_h_gf, .getfield 126, 3, 11, 14, 6, 18), (47, 4, rx_h_no, .invokevirtual 133, 3, 33, 44, 6, 203)],
  [(50, 0, rx_h_sto rx_isI 1 1, .istore_n 1, 1, 0, 0, 0, 0), (51, 0, rx_h_ld rx_isR 0 1, .aload_n 0, 1, 0, 0, 0, 0), (52, 0, rx_h_gf, .getfield 126, 3, 11, 14, 6, 18), (55, 0, rx_h_ld rx_isR 0 1, .aload_n 0, 1, 0, 0, 0, 0), (56, 0, rx_h_gf, .getfield 120, 3, 11, 12, 6, 16), (59, 0, rx_h_icmp .lt, .if_icmp .lt 19, 3, 78, 0, 0, 0), (62, 0, rx_h_ld rx_isR 0 1, .aload_n 0, 1, 0, 0, 0, 0), (63, 0, rx_h_ld rx_isR 0 1, .aload_n 0, 1, 0, 0, 0, 0)],
  [(64, 0, rx_h_gf, .getfield 126, 3, 11, 14, 6, 18), (67, 0, rx_h_pf, .putfield 123, 3, 11, 13, 6, 17), (70, 0, rx_h_ld rx_isR 0 1, .aload_n 0, 1, 0, 0, 0, 0), (71, 0, rx_h_psh 1, .iconst 0, 1, 0, 0, 0, 0), (72, 0, rx_h_pf, .putfield 137, 3, 11, 15, 6, 19), (75, 0, rx_h_goto, .goto 47, 3, 122, 0, 0, 0)],
  [],
  [],
  [(122, 3, rx_h_no, .return_, 1, 0, 0, 0, 0)]], (yX11_scan, cX11_scan, none), ((6, 198), (6, 197), (0, 66), (1, 12)))
/-- TurnNetModel.isNode(I)Z -/
noncomputable def rxm_88 : rx_M := ((2, 1, 22, 0, 0, 1, 2, 0), [[(0, 0, rx_h_ld rx_isI 1 1, .iload_n 1, 1, 0, 0, 0, 0), (1, 0, rx_h_psh 1, .iconst 0, 1, 0, 0, 0, 0), (2, 0, rx_h_ld rx_isR 0 1, .aload_n 0, 1, 0, 0, 0, 0), (3, 4, rx_h_no, .invokevirtual 264, 3, 37, 44, 5, 206), (6, 0, rx_h_psh 1, .iconst 1, 1, 1, 0, 0, 0), (7, 0, rx_h_ar rx_f_sub rx_g32, .isub, 1, 0, 0, 0, 0), (8, 5, rx_h_no, .invokestatic 180, 3, 30, 44, 5, 210), (11, 1, rx_h_no, .ireturn, 1, 0, 0, 0, 0)]], (yX11_isNode, cX11_isNode, (some .boolean)), ((5, 205), (5, 204), (0, 56), (1, 12)))
/-- TurnNetModel.isLink(I)Z -/
noncomputable def rxm_89 : rx_M := ((2, 1, 22, 0, 0, 1, 2, 0), [[(0, 0, rx_h_ld rx_isI 1 1, .iload_n 1, 1, 0, 0, 0, 0), (1, 0, rx_h_psh 1, .iconst 0, 1, 0, 0, 0, 0), (2, 0, rx_h_ld rx_isR 0 1, .aload_n 0, 1, 0, 0, 0, 0), (3, 4, rx_h_no, .invokevirtual 267, 3, 38, 44, 5, 213), (6, 0, rx_h_psh 1, .iconst 1, 1, 1, 0, 0, 0), (7, 0, rx_h_ar rx_f_sub rx_g32, .isub, 1, 0, 0, 0, 0), (8, 5, rx_h_no, .invokestatic 180, 3, 30, 44, 5, 210), (11, 1, rx_h_no, .ireturn, 1, 0, 0, 0, 0)]], (yX11_isLink, cX11_isLink, (some .boolean)), ((8, 10), (8, 9), (0, 118), (1, 12)))
/-- TurnNetModel.isChannel(I)Z -/
noncomputable def rxm_90 : rx_M := ((2, 1, 22, 0, 0, 1, 2, 0), [[(0, 0, rx_h_ld rx_isI 1 1, .iload_n 1, 1, 0, 0, 0, 0), (1, 0, rx_h_psh 1, .iconst 0, 1, 0, 0, 0, 0), (2, 0, rx_h_psh 1, .iconst 2, 1, 2, 0, 0, 0), (3, 0, rx_h_ld rx_isR 0 1, .aload_n 0, 1, 0, 0, 0, 0), (4, 4, rx_h_no, .invokevirtual 267, 3, 38, 44, 5, 213), (7, 0, rx_h_ar rx_f_mul rx_g32, .imul, 1, 0, 0, 0, 0), (8, 0, rx_h_psh 1, .iconst 1, 1, 1, 0, 0, 0), (9, 0, rx_h_ar rx_f_sub rx_g32, .isub, 1, 0, 0, 0, 0), (10, 5, rx_h_no, .invokestatic 180, 3, 30, 44, 5, 210), (13, 1, rx_h_no, .ireturn, 1, 0, 0, 0, 0)]], (yX11_isChannel, cX11_isChannel, (some .boolean)), ((7, 70), (7, 69), (0, 89), (1, 12)))
/-- TurnNetModel.channels()I -/
noncomputable def rxm_91 : rx_M := ((1, 1, 20, 0, 0, 0, 1, 0), [[(0, 0, rx_h_psh 1, .iconst 2, 1, 2, 0, 0, 0), (1, 0, rx_h_ld rx_isR 0 1, .aload_n 0, 1, 0, 0, 0, 0), (2, 4, rx_h_no, .invokevirtual 267, 3, 38, 44, 5, 213), (5, 0, rx_h_ar rx_f_mul rx_g32, .imul, 1, 0, 0, 0, 0), (6, 1, rx_h_no, .ireturn, 1, 0, 0, 0, 0)]], (yX11_channels, cX11_channels, (some .int)), ((7, 102), (7, 101), (0, 96), (1, 12)))
/-- TurnNetModel.layGoals()V -/
noncomputable def rxm_92 : rx_M := ((2, 1, 20, 0, 0, 0, 0, 0), [[(0, 0, rx_h_psh 1, .iconst 0, 1, 0, 0, 0, 0), (1, 0, rx_h_sto rx_isI 1 1, .istore_n 1, 1, 0, 0, 0, 0), (2, 0, rx_h_ld rx_isI 1 1, .iload_n 1, 1, 0, 0, 0, 0), (3, 0, rx_h_ld rx_isR 0 1, .aload_n 0, 1, 0, 0, 0, 0), (4, 4, rx_h_no, .invokevirtual 264, 3, 37, 44, 5, 206), (7, 0, rx_h_icmp .ge, .if_icmp .ge 14, 3, 21, 0, 0, 0)],
  [(21, 3, rx_h_no, .return_, 1, 0, 0, 0, 0)]], (yX11_layGoals, cX11_layGoals, none), ((7, 174), (7, 173), (0, 106), (1, 12)))
/-- TurnNetModel.heaviest(I)I -/
noncomputable def rxm_93 : rx_M := ((2, 1, 22, 0, 0, 1, 1, 0), [[(0, 0, rx_h_ld rx_isI 1 1, .iload_n 1, 1, 0, 0, 0, 0), (1, 0, rx_h_psh 1, .iconst 0, 1, 0, 0, 0, 0), (2, 0, rx_h_psh 1, .iconst 1, 1, 1, 0, 0, 0), (3, 5, rx_h_no, .invokestatic 180, 3, 30, 44, 5, 210), (6, 0, rx_h_if .eq, .ifCond .eq 10, 3, 16, 0, 0, 0), (9, 0, rx_h_ld rx_isR 0 1, .aload_n 0, 1, 0, 0, 0, 0), (10, 4, rx_h_no, .invokevirtual 267, 3, 38, 44, 5, 213), (13, 0, rx_h_if .ne, .ifCond .ne 5, 3, 18, 0, 0, 0)],
  [(16, 0, rx_h_psh 1, .iconst (-1), 1, 4294967295, 0, 0, 0), (17, 1, rx_h_no, .ireturn, 1, 0, 0, 0, 0)]], (yX11_heaviest, cX11_heaviest, (some .int)), ((7, 198), (7, 196), (7, 197), (1, 12)))
/-- TurnNetModel.best(I)I -/
noncomputable def rxm_94 : rx_M := ((6, 1, 22, 0, 0, 1, 1, 0), [[(0, 0, rx_h_ld rx_isI 1 1, .iload_n 1, 1, 0, 0, 0, 0), (1, 0, rx_h_psh 1, .iconst 0, 1, 0, 0, 0, 0), (2, 0, rx_h_psh 1, .iconst 2, 1, 2, 0, 0, 0), (3, 5, rx_h_no, .invokestatic 180, 3, 30, 44, 5, 210), (6, 0, rx_h_if .eq, .ifCond .eq 10, 3, 16, 0, 0, 0), (9, 0, rx_h_ld rx_isR 0 1, .aload_n 0, 1, 0, 0, 0, 0), (10, 4, rx_h_no, .invokevirtual 264, 3, 37, 44, 5, 206), (13, 0, rx_h_if .ne, .ifCond .ne 5, 3, 18, 0, 0, 0)],
  [(16, 0, rx_h_psh 1, .iconst (-1), 1, 4294967295, 0, 0, 0), (17, 1, rx_h_no, .ireturn, 1, 0, 0, 0, 0)]], (yX11_best, cX11_best, (some .int)), ((7, 238), (7, 236), (7, 237), (1, 12)))
/-- TurnNetModel.dearest()I -/
noncomputable def rxm_95 : rx_M := ((5, 1, 20, 0, 0, 0, 1, 0), [[(0, 0, rx_h_psh 1, .iconst (-1), 1, 4294967295, 0, 0, 0), (1, 0, rx_h_sto rx_isI 1 1, .istore_n 1, 1, 0, 0, 0, 0), (2, 0, rx_h_psh 1, .iconst (-1), 1, 4294967295, 0, 0, 0), (3, 0, rx_h_sto rx_isI 2 1, .istore_n 2, 1, 0, 0, 0, 0), (4, 0, rx_h_psh 1, .iconst 0, 1, 0, 0, 0, 0), (5, 0, rx_h_sto rx_isI 3 1, .istore_n 3, 1, 0, 0, 0, 0), (6, 0, rx_h_ld rx_isI 3 1, .iload_n 3, 1, 0, 0, 0, 0), (7, 0, rx_h_ld rx_isR 0 1, .aload_n 0, 1, 0, 0, 0, 0), (8, 4, rx_h_no, .invokevirtual 267, 3, 38, 44, 5, 213), (11, 0, rx_h_icmp .ge, .if_icmp .ge 31, 3, 42, 0, 0, 0)],
  [],
  [(42, 0, rx_h_ld rx_isI 1 1, .iload_n 1, 1, 0, 0, 0, 0), (43, 1, rx_h_no, .ireturn, 1, 0, 0, 0, 0)]], (yX11_dearest, cX11_dearest, (some .int)), ((8, 18), (8, 16), (8, 17), (1, 12)))
/-- TurnNetModel.plainPairs(I)I -/
noncomputable def rxm_96 : rx_M := ((5, 1, 20, 0, 0, 1, 1, 0), [[(0, 0, rx_h_psh 1, .iconst 0, 1, 0, 0, 0, 0), (1, 0, rx_h_sto rx_isI 2 1, .istore_n 2, 1, 0, 0, 0, 0), (2, 0, rx_h_psh 1, .iconst 0, 1, 0, 0, 0, 0), (3, 0, rx_h_sto rx_isI 3 1, .istore_n 3, 1, 0, 0, 0, 0), (4, 0, rx_h_ld rx_isI 3 1, .iload_n 3, 1, 0, 0, 0, 0), (5, 0, rx_h_ld rx_isR 0 1, .aload_n 0, 1, 0, 0, 0, 0), (6, 4, rx_h_no, .invokevirtual 264, 3, 37, 44, 5, 206), (9, 0, rx_h_icmp .ge, .if_icmp .ge 73, 3, 82, 0, 0, 0)],
  [],
  [],
  [],
  [],
  [(82, 0, rx_h_ld rx_isI 2 1, .iload_n 2, 1, 0, 0, 0, 0), (83, 1, rx_h_no, .ireturn, 1, 0, 0, 0, 0)]], (yX11_plainPairs, cX11_plainPairs, (some .int)), ((8, 32), (8, 31), (0, 120), (1, 12)))
/-- TurnNetModel.standing()I -/
noncomputable def rxm_97 : rx_M := ((3, 1, 20, 0, 0, 0, 1, 0), [[(0, 0, rx_h_psh 1, .iconst 0, 1, 0, 0, 0, 0), (1, 0, rx_h_sto rx_isI 1 1, .istore_n 1, 1, 0, 0, 0, 0), (2, 0, rx_h_psh 1, .iconst 0, 1, 0, 0, 0, 0), (3, 0, rx_h_sto rx_isI 2 1, .istore_n 2, 1, 0, 0, 0, 0), (4, 0, rx_h_ld rx_isI 2 1, .iload_n 2, 1, 0, 0, 0, 0), (5, 0, rx_h_ld rx_isR 0 1, .aload_n 0, 1, 0, 0, 0, 0), (6, 4, rx_h_no, .invokevirtual 267, 3, 38, 44, 5, 213), (9, 0, rx_h_icmp .ge, .if_icmp .ge 25, 3, 34, 0, 0, 0)],
  [],
  [(34, 0, rx_h_ld rx_isI 1 1, .iload_n 1, 1, 0, 0, 0, 0), (35, 1, rx_h_no, .ireturn, 1, 0, 0, 0, 0)]], (yX11_standing, cX11_standing, (some .int)), ((8, 112), (8, 111), (0, 136), (1, 12)))
/-- TurnNetModel.isPacket(I)Z -/
noncomputable def rxm_98 : rx_M := ((2, 1, 22, 0, 0, 1, 2, 0), [[(0, 0, rx_h_ld rx_isI 1 1, .iload_n 1, 1, 0, 0, 0, 0), (1, 0, rx_h_psh 1, .iconst 0, 1, 0, 0, 0, 0), (2, 0, rx_h_psh 2, .bipush 11, 2, 11, 0, 0, 0), (4, 5, rx_h_no, .invokestatic 180, 3, 30, 44, 5, 210), (7, 0, rx_h_if .eq, .ifCond .eq 20, 3, 27, 0, 0, 0), (10, 0, rx_h_ld rx_isR 0 1, .aload_n 0, 1, 0, 0, 0, 0), (11, 0, rx_h_gf, .getfield 7, 3, 11, 0, 6, 4), (14, 0, rx_h_psh 2, .bipush 41, 2, 41, 0, 0, 0)],
  [(16, 0, rx_h_ld rx_isI 1 1, .iload_n 1, 1, 0, 0, 0, 0), (17, 0, rx_h_ar rx_f_add rx_g32, .iadd, 1, 0, 0, 0, 0), (18, 0, rx_h_ald (fun t => Nat.beq t 13), .iaload, 1, 0, 0, 0, 0), (19, 0, rx_h_psh 1, .iconst 1, 1, 1, 0, 0, 0), (20, 0, rx_h_icmp .ne, .if_icmp .ne 7, 3, 27, 0, 0, 0), (27, 0, rx_h_psh 1, .iconst 0, 1, 0, 0, 0, 0), (28, 1, rx_h_no, .ireturn, 1, 0, 0, 0, 0)]], (yX11_isPacket, cX11_isPacket, (some .boolean)), ((8, 156), (8, 155), (0, 140), (1, 12)))
/-- TurnNetModel.steps(I)I -/
noncomputable def rxm_99 : rx_M := ((2, 1, 22, 0, 0, 1, 1, 0), [[(0, 0, rx_h_ld rx_isI 1 1, .iload_n 1, 1, 0, 0, 0, 0), (1, 0, rx_h_psh 1, .iconst 1, 1, 1, 0, 0, 0), (2, 0, rx_h_psh 2, .bipush 50, 2, 50, 0, 0, 0), (4, 5, rx_h_no, .invokestatic 180, 3, 30, 44, 5, 210), (7, 0, rx_h_if .eq, .ifCond .eq 10, 3, 17, 0, 0, 0), (10, 0, rx_h_ld rx_isR 0 1, .aload_n 0, 1, 0, 0, 0, 0), (11, 4, rx_h_no, .invokevirtual 264, 3, 37, 44, 5, 206), (14, 0, rx_h_if .ne, .ifCond .ne 5, 3, 19, 0, 0, 0)],
  [(17, 0, rx_h_psh 1, .iconst (-1), 1, 4294967295, 0, 0, 0), (18, 1, rx_h_no, .ireturn, 1, 0, 0, 0, 0)]], (yX11_steps, cX11_steps, (some .int)), ((8, 148), (8, 146), (8, 147), (1, 12)))
/-- TurnNetModel.drains()I -/
noncomputable def rxm_100 : rx_M := ((3, 1, 22, 0, 0, 0, 1, 0), [[(0, 0, rx_h_ld rx_isR 0 1, .aload_n 0, 1, 0, 0, 0, 0), (1, 4, rx_h_no, .invokevirtual 401, 3, 39, 44, 7, 223), (4, 0, rx_h_psh 1, .iconst 0, 1, 0, 0, 0, 0), (5, 0, rx_h_sto rx_isI 1 1, .istore_n 1, 1, 0, 0, 0, 0), (6, 0, rx_h_psh 1, .iconst 0, 1, 0, 0, 0, 0), (7, 0, rx_h_sto rx_isI 2 1, .istore_n 2, 1, 0, 0, 0, 0), (8, 0, rx_h_ld rx_isR 0 1, .aload_n 0, 1, 0, 0, 0, 0), (9, 4, rx_h_no, .invokevirtual 491, 3, 41, 44, 8, 161), (12, 0, rx_h_if .le, .ifCond .le 23, 3, 35, 0, 0, 0)],
  [],
  [(35, 0, rx_h_ld rx_isR 0 1, .aload_n 0, 1, 0, 0, 0, 0), (36, 4, rx_h_no, .invokevirtual 407, 3, 40, 44, 7, 231), (39, 0, rx_h_ld rx_isI 1 1, .iload_n 1, 1, 0, 0, 0, 0), (40, 0, rx_h_psh 3, .sipush 200, 3, 200, 0, 0, 0), (43, 0, rx_h_icmp .gt, .if_icmp .gt 7, 3, 50, 0, 0, 0), (46, 0, rx_h_ld rx_isI 2 1, .iload_n 2, 1, 0, 0, 0, 0), (47, 0, rx_h_if .ge, .ifCond .ge 7, 3, 54, 0, 0, 0)],
  [(54, 0, rx_h_ld rx_isI 1 1, .iload_n 1, 1, 0, 0, 0, 0), (55, 1, rx_h_no, .ireturn, 1, 0, 0, 0, 0)]], (yX11_drains, cX11_drains, (some .int)), ((8, 160), (8, 158), (8, 159), (1, 12)))
/-- TurnNetModel.game(III)I -/
noncomputable def rxm_101 : rx_M := ((6, 1, 20, 0, 0, 3, 1, 0), [[(0, 0, rx_h_ld rx_isR 0 1, .aload_n 0, 1, 0, 0, 0, 0), (1, 4, rx_h_no, .invokevirtual 264, 3, 37, 44, 5, 206), (4, 0, rx_h_if .eq, .ifCond .eq 33, 3, 37, 0, 0, 0)],
  [],
  [(37, 0, rx_h_psh 1, .iconst (-1), 1, 4294967295, 0, 0, 0), (38, 1, rx_h_no, .ireturn, 1, 0, 0, 0, 0)]], (yX11_game, cX11_game, (some .int)), ((8, 172), (8, 170), (8, 171), (1, 12)))
/-- TurnNetModel.image(I)I -/
noncomputable def rxm_102 : rx_M := ((3, 1, 22, 0, 0, 1, 1, 0), [[(0, 0, rx_h_ld rx_isI 1 1, .iload_n 1, 1, 0, 0, 0, 0), (1, 0, rx_h_psh 1, .iconst 0, 1, 0, 0, 0, 0), (2, 0, rx_h_psh 1, .iconst 1, 1, 1, 0, 0, 0), (3, 5, rx_h_no, .invokestatic 180, 3, 30, 44, 5, 210), (6, 0, rx_h_if .ne, .ifCond .ne 5, 3, 11, 0, 0, 0), (9, 0, rx_h_psh 1, .iconst (-1), 1, 4294967295, 0, 0, 0), (10, 1, rx_h_no, .ireturn, 1, 0, 0, 0, 0), (11, 0, rx_h_psh 1, .iconst 0, 1, 0, 0, 0, 0), (12, 0, rx_h_sto rx_isI 2 1, .istore_n 2, 1, 0, 0, 0, 0), (13, 0, rx_h_ld rx_isI 2 1, .iload_n 2, 1, 0, 0, 0, 0), (14, 0, rx_h_psh 2, .bipush 103, 2, 103, 0, 0, 0)],
  [(16, 0, rx_h_icmp .ge, .if_icmp .ge 26, 3, 42, 0, 0, 0), (19, 0, rx_h_ld rx_isR 0 1, .aload_n 0, 1, 0, 0, 0, 0), (20, 0, rx_h_gf, .getfield 104, 3, 11, 54, 6, 58), (23, 0, rx_h_psh 2, .bipush 103, 2, 103, 0, 0, 0), (25, 0, rx_h_ld rx_isI 1 1, .iload_n 1, 1, 0, 0, 0, 0), (26, 0, rx_h_ar rx_f_mul rx_g32, .imul, 1, 0, 0, 0, 0), (27, 0, rx_h_ld rx_isI 2 1, .iload_n 2, 1, 0, 0, 0, 0), (28, 0, rx_h_ar rx_f_add rx_g32, .iadd, 1, 0, 0, 0, 0), (29, 0, rx_h_ld rx_isR 0 1, .aload_n 0, 1, 0, 0, 0, 0), (30, 0, rx_h_gf, .getfield 7, 3, 11, 0, 6, 4)],
  [(33, 0, rx_h_ld rx_isI 2 1, .iload_n 2, 1, 0, 0, 0, 0), (34, 0, rx_h_ald (fun t => Nat.beq t 13), .iaload, 1, 0, 0, 0, 0), (35, 0, rx_h_iast, .iastore, 1, 0, 0, 0, 0), (36, 0, rx_h_inc 2, .iinc 2 1, 3, 1, 0, 0, 0), (39, 0, rx_h_goto, .goto (-26), 3, 13, 0, 0, 0), (42, 0, rx_h_ld rx_isR 0 1, .aload_n 0, 1, 0, 0, 0, 0), (43, 0, rx_h_gf, .getfield 107, 3, 11, 55, 6, 59), (46, 0, rx_h_ld rx_isI 1 1, .iload_n 1, 1, 0, 0, 0, 0), (47, 0, rx_h_psh 1, .iconst 1, 1, 1, 0, 0, 0)],
  [(48, 0, rx_h_bast, .bastore, 1, 0, 0, 0, 0), (49, 0, rx_h_ld rx_isR 0 1, .aload_n 0, 1, 0, 0, 0, 0), (50, 4, rx_h_no, .invokevirtual 491, 3, 41, 44, 8, 161), (53, 1, rx_h_no, .ireturn, 1, 0, 0, 0, 0)]], (yX11_image, cX11_image, (some .int)), ((8, 212), (8, 210), (8, 211), (1, 12)))
/-- TurnNetModel.back(I)I -/
noncomputable def rxm_103 : rx_M := ((3, 1, 22, 0, 0, 1, 1, 0), [[(0, 0, rx_h_ld rx_isI 1 1, .iload_n 1, 1, 0, 0, 0, 0), (1, 0, rx_h_psh 1, .iconst 0, 1, 0, 0, 0, 0), (2, 0, rx_h_psh 1, .iconst 1, 1, 1, 0, 0, 0), (3, 5, rx_h_no, .invokestatic 180, 3, 30, 44, 5, 210), (6, 0, rx_h_if .eq, .ifCond .eq 12, 3, 18, 0, 0, 0), (9, 0, rx_h_ld rx_isR 0 1, .aload_n 0, 1, 0, 0, 0, 0), (10, 0, rx_h_gf, .getfield 107, 3, 11, 55, 6, 59), (13, 0, rx_h_ld rx_isI 1 1, .iload_n 1, 1, 0, 0, 0, 0), (14, 0, rx_h_ald (fun t => Nat.beq t 12 || Nat.beq t 15), .baload, 1, 0, 0, 0, 0), (15, 0, rx_h_if .ne, .ifCond .ne 5, 3, 20, 0, 0, 0)],
  [(18, 0, rx_h_psh 1, .iconst (-1), 1, 4294967295, 0, 0, 0), (19, 1, rx_h_no, .ireturn, 1, 0, 0, 0, 0)]], (yX11_back, cX11_back, (some .int)), ((8, 216), (8, 214), (8, 215), (1, 12)))
/-- TurnNet$History.<init>()V -/
noncomputable def rxm_104 : rx_M := ((2, 2, 41, 101, 1160, 0, 0, 0), [[(0, 0, rx_h_ld rx_isR 0 1, .aload_n 0, 1, 0, 0, 0, 0), (1, 4, rx_h_no, .invokespecial 3, 3, 0, 1, 2, 72), (4, 0, rx_h_ld rx_isR 0 1, .aload_n 0, 1, 0, 0, 0, 0), (5, 0, rx_h_psh 2, .bipush 20, 2, 20, 0, 0, 0), (7, 0, rx_h_anew, .anewarray 9, 3, 0, 0, 2, 73), (10, 0, rx_h_pf, .putfield 11, 3, 1, 0, 2, 124), (13, 0, rx_h_psh 1, .iconst 0, 1, 0, 0, 0, 0), (14, 0, rx_h_sto rx_isI 1 1, .istore_n 1, 1, 0, 0, 0, 0), (15, 0, rx_h_ld rx_isI 1 1, .iload_n 1, 1, 0, 0, 0, 0)],
  [(16, 0, rx_h_psh 2, .bipush 20, 2, 20, 0, 0, 0), (18, 0, rx_h_icmp .ge, .if_icmp .ge 22, 3, 40, 0, 0, 0), (21, 0, rx_h_ld rx_isR 0 1, .aload_n 0, 1, 0, 0, 0, 0), (22, 0, rx_h_gf, .getfield 11, 3, 1, 0, 2, 124), (25, 0, rx_h_ld rx_isI 1 1, .iload_n 1, 1, 0, 0, 0, 0), (26, 0, rx_h_new, .new 9, 3, 7, 0, 2, 73), (29, 0, rx_h_dup, .dup, 1, 0, 0, 0, 0), (30, 4, rx_h_no, .invokespecial 17, 3, 59, 28, 2, 76)],
  [(33, 0, rx_h_aast, .aastore, 1, 0, 0, 0, 0), (34, 0, rx_h_inc 1, .iinc 1 1, 3, 1, 0, 0, 0), (37, 0, rx_h_goto, .goto (-22), 3, 15, 0, 0, 0), (40, 3, rx_h_no, .return_, 1, 0, 0, 0, 0)]], (yX1_init, cX1_init, none), ((2, 71), (2, 70), (0, 0), (1, 10)))
/-- TurnNet$Order.rate(II)V -/
noncomputable def rxm_105 : rx_M := ((4, 2, 50, 0, 0, 2, 0, 0), [[(0, 0, rx_h_ld rx_isR 0 1, .aload_n 0, 1, 0, 0, 0, 0), (1, 0, rx_h_ld rx_isI 2 1, .iload_n 2, 1, 0, 0, 0, 0), (2, 4, rx_h_no, .invokevirtual 30, 3, 52, 12, 3, 124), (5, 0, rx_h_ld rx_isR 0 1, .aload_n 0, 1, 0, 0, 0, 0), (6, 0, rx_h_gf, .getfield 26, 3, 3, 0, 1, 163), (9, 0, rx_h_ld rx_isI 2 1, .iload_n 2, 1, 0, 0, 0, 0), (10, 0, rx_h_ld rx_isI 1 1, .iload_n 1, 1, 0, 0, 0, 0), (11, 0, rx_h_ld rx_isR 0 1, .aload_n 0, 1, 0, 0, 0, 0), (12, 0, rx_h_gf, .getfield 9, 3, 3, 1, 1, 164), (15, 0, rx_h_psh 1, .iconst 0, 1, 0, 0, 0, 0)],
  [(16, 5, rx_h_no, .invokestatic 34, 3, 46, 0, 3, 129), (19, 0, rx_h_psh 1, .iconst 0, 1, 0, 0, 0, 0), (20, 0, rx_h_sto rx_isI 3 1, .istore_n 3, 1, 0, 0, 0, 0), (21, 0, rx_h_ld rx_isI 3 1, .iload_n 3, 1, 0, 0, 0, 0), (22, 0, rx_h_ld rx_isR 0 1, .aload_n 0, 1, 0, 0, 0, 0), (23, 0, rx_h_gf, .getfield 26, 3, 3, 0, 1, 163), (26, 0, rx_h_gf, .getfield 40, 3, 2, 0, 1, 37), (29, 0, rx_h_icmp .ge, .if_icmp .ge 57, 3, 86, 0, 0, 0)],
  [],
  [],
  [],
  [(86, 3, rx_h_no, .return_, 1, 0, 0, 0, 0)]], (yX3_rate, cX3_rate, none), ((3, 123), (3, 121), (3, 122), (1, 4)))
/-- TurnNet$Reader.<init>()V -/
noncomputable def rxm_106 : rx_M := ((1, 2, 40, 8, 1103, 0, 0, 0), [[(0, 0, rx_h_ld rx_isR 0 1, .aload_n 0, 1, 0, 0, 0, 0), (1, 4, rx_h_no, .invokespecial 3, 3, 0, 1, 1, 112), (4, 0, rx_h_ld rx_isR 0 1, .aload_n 0, 1, 0, 0, 0, 0), (5, 0, rx_h_psh 3, .sipush 800, 3, 800, 0, 0, 0), (8, 0, rx_h_newa .byte, .newarray .byte, 2, 0, 0, 1, 156), (10, 0, rx_h_pf, .putfield 9, 3, 5, 0, 1, 115), (13, 0, rx_h_ld rx_isR 0 1, .aload_n 0, 1, 0, 0, 0, 0), (14, 0, rx_h_new, .new 15, 3, 2, 0, 1, 113)],
  [(17, 0, rx_h_dup, .dup, 1, 0, 0, 0, 0), (18, 4, rx_h_no, .invokespecial 17, 3, 48, 11, 1, 114), (21, 0, rx_h_pf, .putfield 18, 3, 5, 2, 1, 118), (24, 0, rx_h_ld rx_isR 0 1, .aload_n 0, 1, 0, 0, 0, 0), (25, 0, rx_h_psh 1, .iconst (-1), 1, 4294967295, 0, 0, 0), (26, 0, rx_h_pf, .putfield 22, 3, 5, 4, 1, 122), (29, 3, rx_h_no, .return_, 1, 0, 0, 0, 0)]], (yX5_init, cX5_init, none), ((1, 111), (1, 110), (0, 0), (1, 3)))
/-- TurnNet$Routes.seeTable(II)V -/
noncomputable def rxm_107 : rx_M := ((3, 2, 43, 0, 0, 2, 0, 0), [[(0, 0, rx_h_ld rx_isR 0 1, .aload_n 0, 1, 0, 0, 0, 0), (1, 0, rx_h_ld rx_isI 1 1, .iload_n 1, 1, 0, 0, 0, 0), (2, 0, rx_h_ld rx_isI 2 1, .iload_n 2, 1, 0, 0, 0, 0), (3, 4, rx_h_no, .invokevirtual 69, 3, 56, 24, 4, 26), (6, 0, rx_h_ld rx_isR 0 1, .aload_n 0, 1, 0, 0, 0, 0), (7, 0, rx_h_gf, .getfield 42, 3, 6, 4, 1, 192), (10, 0, rx_h_if .ne, .ifCond .ne 16, 3, 26, 0, 0, 0), (13, 0, rx_h_ld rx_isR 0 1, .aload_n 0, 1, 0, 0, 0, 0), (14, 4, rx_h_no, .invokevirtual 73, 3, 57, 24, 4, 48)],
  [(17, 0, rx_h_ld rx_isR 0 1, .aload_n 0, 1, 0, 0, 0, 0), (18, 4, rx_h_no, .invokevirtual 76, 3, 58, 24, 4, 64), (21, 0, rx_h_ld rx_isR 0 1, .aload_n 0, 1, 0, 0, 0, 0), (22, 0, rx_h_psh 1, .iconst 1, 1, 1, 0, 0, 0), (23, 0, rx_h_pf, .putfield 42, 3, 6, 4, 1, 192), (26, 3, rx_h_no, .return_, 1, 0, 0, 0, 0)]], (yX6_seeTable, cX6_seeTable, none), ((4, 25), (4, 23), (4, 24), (1, 5)))
/-- TurnNet$Turns.take(III)V -/
noncomputable def rxm_108 : rx_M := ((9, 2, 44, 0, 0, 3, 0, 0), [[(0, 0, rx_h_psh 1, .iconst 0, 1, 0, 0, 0, 0), (1, 0, rx_h_sto rx_isI 4 2, .istore 4, 2, 0, 0, 0, 0), (3, 0, rx_h_ld rx_isI 4 2, .iload 4, 2, 0, 0, 0, 0), (5, 0, rx_h_ld rx_isR 0 1, .aload_n 0, 1, 0, 0, 0, 0), (6, 0, rx_h_gf, .getfield 18, 3, 9, 0, 2, 15), (9, 0, rx_h_gf, .getfield 22, 3, 2, 0, 1, 36), (12, 0, rx_h_icmp .ge, .if_icmp .ge 17, 3, 29, 0, 0, 0)],
  [(29, 0, rx_h_psh 1, .iconst 0, 1, 0, 0, 0, 0), (30, 0, rx_h_sto rx_isI 4 2, .istore 4, 2, 0, 0, 0, 0)],
  [(32, 0, rx_h_ld rx_isI 4 2, .iload 4, 2, 0, 0, 0, 0), (34, 0, rx_h_ld rx_isR 0 1, .aload_n 0, 1, 0, 0, 0, 0), (35, 0, rx_h_gf, .getfield 18, 3, 9, 0, 2, 15), (38, 4, rx_h_no, .invokevirtual 28, 3, 5, 8, 3, 237), (41, 0, rx_h_icmp .ge, .if_icmp .ge 43, 3, 84, 0, 0, 0)],
  [],
  [],
  [(84, 0, rx_h_ld rx_isR 0 1, .aload_n 0, 1, 0, 0, 0, 0), (85, 0, rx_h_ld rx_isI 1 1, .iload_n 1, 1, 0, 0, 0, 0), (86, 4, rx_h_no, .invokevirtual 36, 3, 63, 36, 3, 238), (89, 0, rx_h_stJ 4 2, .lstore 4, 2, 0, 0, 0, 0), (91, 0, rx_h_ld rx_isR 0 1, .aload_n 0, 1, 0, 0, 0, 0), (92, 0, rx_h_ld rx_isI 2 1, .iload_n 2, 1, 0, 0, 0, 0), (93, 4, rx_h_no, .invokevirtual 36, 3, 63, 36, 3, 238)],
  [(96, 0, rx_h_stJ 6 2, .lstore 6, 2, 0, 0, 0, 0), (98, 0, rx_h_psh 1, .iconst 0, 1, 0, 0, 0, 0), (99, 0, rx_h_sto rx_isI 8 2, .istore 8, 2, 0, 0, 0, 0), (101, 0, rx_h_ld rx_isI 8 2, .iload 8, 2, 0, 0, 0, 0), (103, 0, rx_h_ld rx_isR 0 1, .aload_n 0, 1, 0, 0, 0, 0), (104, 0, rx_h_gf, .getfield 18, 3, 9, 0, 2, 15), (107, 4, rx_h_no, .invokevirtual 28, 3, 5, 8, 3, 237), (110, 0, rx_h_icmp .ge, .if_icmp .ge 49, 3, 159, 0, 0, 0)],
  [],
  [],
  [(159, 3, rx_h_no, .return_, 1, 0, 0, 0, 0)]], (yX9_take, cX9_take, none), ((3, 236), (3, 234), (3, 235), (1, 7)))
/-- TurnNet.load(I)I -/
noncomputable def rxm_109 : rx_M := ((2, 2, 41, 0, 0, 1, 1, 0), [[(0, 0, rx_h_ld rx_isR 0 1, .aload_n 0, 1, 0, 0, 0, 0), (1, 0, rx_h_gf, .getfield 12, 3, 10, 0, 2, 141), (4, 0, rx_h_ld rx_isI 1 1, .iload_n 1, 1, 0, 0, 0, 0), (5, 4, rx_h_no, .invokevirtual 250, 3, 50, 8, 4, 202), (8, 0, rx_h_if .ne, .ifCond .ne 5, 3, 13, 0, 0, 0), (11, 0, rx_h_psh 1, .iconst (-1), 1, 4294967295, 0, 0, 0), (12, 1, rx_h_no, .ireturn, 1, 0, 0, 0, 0)]], (yX10_load, cX10_load, (some .int)), ((4, 234), (4, 232), (4, 233), (1, 1)))
/-- TurnNet.pairs(I)I -/
noncomputable def rxm_110 : rx_M := ((2, 2, 43, 0, 0, 1, 1, 0), [[(0, 0, rx_h_ld rx_isR 0 1, .aload_n 0, 1, 0, 0, 0, 0), (1, 0, rx_h_gf, .getfield 35, 3, 10, 3, 2, 144), (4, 0, rx_h_ld rx_isR 0 1, .aload_n 0, 1, 0, 0, 0, 0), (5, 0, rx_h_gf, .getfield 94, 3, 10, 13, 2, 154), (8, 0, rx_h_gf, .getfield 168, 3, 7, 1, 2, 84), (11, 0, rx_h_ld rx_isR 0 1, .aload_n 0, 1, 0, 0, 0, 0), (12, 0, rx_h_gf, .getfield 94, 3, 10, 13, 2, 154), (15, 0, rx_h_gf, .getfield 159, 3, 7, 2, 2, 86)],
  [(18, 4, rx_h_no, .invokevirtual 235, 3, 56, 24, 4, 163), (21, 0, rx_h_ld rx_isI 1 1, .iload_n 1, 1, 0, 0, 0, 0), (22, 0, rx_h_tsw 0 3 #[30, 38, 46, 73], .tableswitch 95 0 3 #[30, 38, 46, 73], 30, 117, 0, 0, 0)],
  [],
  [(52, 0, rx_h_ld rx_isR 0 1, .aload_n 0, 1, 0, 0, 0, 0), (53, 0, rx_h_gf, .getfield 35, 3, 10, 3, 2, 144), (56, 4, rx_h_no, .invokevirtual 276, 3, 13, 24, 5, 7), (59, 1, rx_h_no, .ireturn, 1, 0, 0, 0, 0), (60, 0, rx_h_ld rx_isR 0 1, .aload_n 0, 1, 0, 0, 0, 0), (61, 0, rx_h_gf, .getfield 35, 3, 10, 3, 2, 144)],
  [(64, 4, rx_h_no, .invokevirtual 279, 3, 14, 24, 5, 12), (67, 1, rx_h_no, .ireturn, 1, 0, 0, 0, 0), (68, 0, rx_h_ld rx_isR 0 1, .aload_n 0, 1, 0, 0, 0, 0), (69, 0, rx_h_gf, .getfield 45, 3, 10, 5, 2, 146), (72, 0, rx_h_ld rx_isR 0 1, .aload_n 0, 1, 0, 0, 0, 0), (73, 0, rx_h_gf, .getfield 94, 3, 10, 13, 2, 154), (76, 0, rx_h_gf, .getfield 159, 3, 7, 2, 2, 86), (79, 4, rx_h_no, .invokevirtual 241, 3, 0, 0, 4, 172)],
  [(82, 0, rx_h_ld rx_isR 0 1, .aload_n 0, 1, 0, 0, 0, 0), (83, 0, rx_h_gf, .getfield 35, 3, 10, 3, 2, 144), (86, 4, rx_h_no, .invokevirtual 279, 3, 14, 24, 5, 12), (89, 0, rx_h_ld rx_isR 0 1, .aload_n 0, 1, 0, 0, 0, 0), (90, 4, rx_h_no, .invokevirtual 282, 3, 29, 40, 5, 19), (93, 0, rx_h_ar rx_f_sub rx_g32, .isub, 1, 0, 0, 0, 0), (94, 1, rx_h_no, .ireturn, 1, 0, 0, 0, 0), (95, 0, rx_h_ld rx_isR 0 1, .aload_n 0, 1, 0, 0, 0, 0)],
  [(96, 0, rx_h_gf, .getfield 45, 3, 10, 5, 2, 146), (99, 0, rx_h_ld rx_isR 0 1, .aload_n 0, 1, 0, 0, 0, 0), (100, 0, rx_h_gf, .getfield 94, 3, 10, 13, 2, 154), (103, 0, rx_h_gf, .getfield 159, 3, 7, 2, 2, 86), (106, 4, rx_h_no, .invokevirtual 241, 3, 0, 0, 4, 172), (109, 0, rx_h_ld rx_isR 0 1, .aload_n 0, 1, 0, 0, 0, 0), (110, 0, rx_h_gf, .getfield 45, 3, 10, 5, 2, 146)],
  [(113, 4, rx_h_no, .invokevirtual 285, 3, 1, 0, 5, 23), (116, 1, rx_h_no, .ireturn, 1, 0, 0, 0, 0), (117, 0, rx_h_psh 1, .iconst (-1), 1, 4294967295, 0, 0, 0), (118, 1, rx_h_no, .ireturn, 1, 0, 0, 0, 0)]], (yX10_pairs, cX10_pairs, (some .int)), ((5, 6), (5, 4), (5, 5), (1, 1)))
/-- TurnNet.depends(II)I -/
noncomputable def rxm_111 : rx_M := ((3, 2, 41, 0, 0, 2, 1, 0), [[(0, 0, rx_h_ld rx_isR 0 1, .aload_n 0, 1, 0, 0, 0, 0), (1, 0, rx_h_gf, .getfield 12, 3, 10, 0, 2, 141), (4, 0, rx_h_ld rx_isI 1 1, .iload_n 1, 1, 0, 0, 0, 0), (5, 4, rx_h_no, .invokevirtual 250, 3, 50, 8, 4, 202), (8, 0, rx_h_if .eq, .ifCond .eq 14, 3, 22, 0, 0, 0)],
  [(22, 0, rx_h_psh 1, .iconst (-1), 1, 4294967295, 0, 0, 0), (23, 1, rx_h_no, .ireturn, 1, 0, 0, 0, 0)]], (yX10_depends, cX10_depends, (some .int)), ((5, 31), (5, 29), (5, 30), (1, 1)))
/-- TurnNet.ring(I)I -/
noncomputable def rxm_112 : rx_M := ((2, 2, 41, 0, 0, 1, 1, 0), [[(0, 0, rx_h_ld rx_isR 0 1, .aload_n 0, 1, 0, 0, 0, 0), (1, 0, rx_h_gf, .getfield 12, 3, 10, 0, 2, 141), (4, 0, rx_h_ld rx_isI 1 1, .iload_n 1, 1, 0, 0, 0, 0), (5, 4, rx_h_no, .invokevirtual 250, 3, 50, 8, 4, 202), (8, 0, rx_h_if .ne, .ifCond .ne 5, 3, 13, 0, 0, 0), (11, 0, rx_h_psh 1, .iconst (-1), 1, 4294967295, 0, 0, 0), (12, 1, rx_h_no, .ireturn, 1, 0, 0, 0, 0)]], (yX10_ring, cX10_ring, (some .int)), ((5, 53), (5, 51), (5, 52), (1, 1)))
/-- TurnNet.pivots()I -/
noncomputable def rxm_113 : rx_M := ((1, 2, 45, 0, 0, 0, 1, 0), [[(0, 0, rx_h_ld rx_isR 0 1, .aload_n 0, 1, 0, 0, 0, 0), (1, 0, rx_h_gf, .getfield 45, 3, 10, 5, 2, 146), (4, 0, rx_h_ld rx_isR 0 1, .aload_n 0, 1, 0, 0, 0, 0), (5, 0, rx_h_gf, .getfield 94, 3, 10, 13, 2, 154), (8, 0, rx_h_gf, .getfield 159, 3, 7, 2, 2, 86), (11, 4, rx_h_no, .invokevirtual 314, 3, 47, 0, 5, 118), (14, 1, rx_h_no, .ireturn, 1, 0, 0, 0, 0)]], (yX10_pivots, cX10_pivots, (some .int)), ((5, 117), (5, 115), (5, 116), (1, 1)))
/-- TurnNet.image(I)I -/
noncomputable def rxm_114 : rx_M := ((2, 2, 61, 0, 0, 1, 1, 0), [[(0, 0, rx_h_ld rx_isI 1 1, .iload_n 1, 1, 0, 0, 0, 0), (1, 0, rx_h_if .lt, .ifCond .lt 8, 3, 9, 0, 0, 0), (4, 0, rx_h_ld rx_isI 1 1, .iload_n 1, 1, 0, 0, 0, 0), (5, 0, rx_h_psh 1, .iconst 2, 1, 2, 0, 0, 0), (6, 0, rx_h_icmp .lt, .if_icmp .lt 5, 3, 11, 0, 0, 0), (9, 0, rx_h_psh 1, .iconst (-1), 1, 4294967295, 0, 0, 0), (10, 1, rx_h_no, .ireturn, 1, 0, 0, 0, 0), (11, 0, rx_h_ld rx_isR 0 1, .aload_n 0, 1, 0, 0, 0, 0), (12, 0, rx_h_gf, .getfield 86, 3, 10, 11, 2, 152), (15, 0, rx_h_ld rx_isI 1 1, .iload_n 1, 1, 0, 0, 0, 0)],
  [(16, 0, rx_h_ald (fun t => Nat.beq t 16), .aaload, 1, 0, 0, 0, 0), (17, 0, rx_h_ld rx_isR 0 1, .aload_n 0, 1, 0, 0, 0, 0), (18, 0, rx_h_gf, .getfield 94, 3, 10, 13, 2, 154), (21, 4, rx_h_no, .invokevirtual 317, 3, 60, 28, 5, 131), (24, 0, rx_h_ld rx_isR 0 1, .aload_n 0, 1, 0, 0, 0, 0), (25, 0, rx_h_gf, .getfield 90, 3, 10, 12, 2, 153), (28, 0, rx_h_ld rx_isI 1 1, .iload_n 1, 1, 0, 0, 0, 0), (29, 0, rx_h_psh 1, .iconst 1, 1, 1, 0, 0, 0), (30, 0, rx_h_bast, .bastore, 1, 0, 0, 0, 0), (31, 0, rx_h_ld rx_isR 0 1, .aload_n 0, 1, 0, 0, 0, 0)],
  [(32, 0, rx_h_gf, .getfield 94, 3, 10, 13, 2, 154), (35, 4, rx_h_no, .invokevirtual 329, 3, 17, 28, 5, 142), (38, 1, rx_h_no, .ireturn, 1, 0, 0, 0, 0)]], (yX10_image, cX10_image, (some .int)), ((5, 167), (5, 165), (5, 166), (1, 1)))
/-- TurnNetModel.readAll(I)V -/
noncomputable def rxm_115 : rx_M := ((2, 2, 42, 0, 0, 1, 0, 0), [[(0, 0, rx_h_ld rx_isR 0 1, .aload_n 0, 1, 0, 0, 0, 0), (1, 4, rx_h_no, .invokevirtual 174, 3, 87, 44, 6, 195), (4, 0, rx_h_ld rx_isR 0 1, .aload_n 0, 1, 0, 0, 0, 0), (5, 0, rx_h_gf, .getfield 137, 3, 11, 15, 6, 19), (8, 0, rx_h_if .ne, .ifCond .ne 4, 3, 12, 0, 0, 0), (11, 3, rx_h_no, .return_, 1, 0, 0, 0, 0)]], (yX11_readAll, cX11_readAll, none), ((6, 194), (6, 193), (0, 65), (1, 12)))
/-- TurnNetModel.layFar(II)V -/
noncomputable def rxm_116 : rx_M := ((7, 2, 43, 0, 0, 2, 0, 0), [[(0, 0, rx_h_psh 1, .iconst 0, 1, 0, 0, 0, 0), (1, 0, rx_h_sto rx_isI 3 1, .istore_n 3, 1, 0, 0, 0, 0), (2, 0, rx_h_ld rx_isI 3 1, .iload_n 3, 1, 0, 0, 0, 0), (3, 0, rx_h_psh 2, .bipush 10, 2, 10, 0, 0, 0), (5, 0, rx_h_icmp .ge, .if_icmp .ge 17, 3, 22, 0, 0, 0), (8, 0, rx_h_ld rx_isR 0 1, .aload_n 0, 1, 0, 0, 0, 0), (9, 0, rx_h_gf, .getfield 51, 3, 11, 29, 6, 33), (12, 0, rx_h_ld rx_isI 3 1, .iload_n 3, 1, 0, 0, 0, 0), (13, 0, rx_h_psh 2, .bipush 10, 2, 10, 0, 0, 0), (15, 0, rx_h_iast, .iastore, 1, 0, 0, 0, 0)],
  [(16, 0, rx_h_inc 3, .iinc 3 1, 3, 1, 0, 0, 0), (19, 0, rx_h_goto, .goto (-17), 3, 2, 0, 0, 0), (22, 0, rx_h_ld rx_isR 0 1, .aload_n 0, 1, 0, 0, 0, 0), (23, 0, rx_h_ld rx_isI 1 1, .iload_n 1, 1, 0, 0, 0, 0), (24, 4, rx_h_no, .invokevirtual 285, 3, 88, 44, 5, 202), (27, 0, rx_h_if .ne, .ifCond .ne 4, 3, 31, 0, 0, 0), (30, 3, rx_h_no, .return_, 1, 0, 0, 0, 0)]], (yX11_layFar, cX11_layFar, none), ((5, 201), (5, 200), (0, 55), (1, 12)))
/-- TurnNetModel.layTurns()V -/
noncomputable def rxm_117 : rx_M := ((3, 2, 40, 0, 0, 0, 0, 0), [[(0, 0, rx_h_psh 1, .iconst 0, 1, 0, 0, 0, 0), (1, 0, rx_h_sto rx_isI 1 1, .istore_n 1, 1, 0, 0, 0, 0), (2, 0, rx_h_ld rx_isI 1 1, .iload_n 1, 1, 0, 0, 0, 0), (3, 0, rx_h_ld rx_isR 0 1, .aload_n 0, 1, 0, 0, 0, 0), (4, 4, rx_h_no, .invokevirtual 319, 3, 91, 44, 7, 99), (7, 0, rx_h_icmp .ge, .if_icmp .ge 53, 3, 60, 0, 0, 0)],
  [],
  [],
  [(60, 3, rx_h_no, .return_, 1, 0, 0, 0, 0)]], (yX11_layTurns, cX11_layTurns, none), ((7, 98), (7, 97), (0, 95), (1, 12)))
/-- TurnNetModel.depends(II)I -/
noncomputable def rxm_118 : rx_M := ((3, 2, 43, 0, 0, 2, 1, 0), [[(0, 0, rx_h_ld rx_isR 0 1, .aload_n 0, 1, 0, 0, 0, 0), (1, 0, rx_h_ld rx_isI 1 1, .iload_n 1, 1, 0, 0, 0, 0), (2, 4, rx_h_no, .invokevirtual 330, 3, 90, 44, 7, 67), (5, 0, rx_h_if .eq, .ifCond .eq 11, 3, 16, 0, 0, 0)],
  [(16, 0, rx_h_psh 1, .iconst (-1), 1, 4294967295, 0, 0, 0), (17, 1, rx_h_no, .ireturn, 1, 0, 0, 0, 0)]], (yX11_depends, cX11_depends, (some .int)), ((7, 66), (7, 64), (7, 65), (1, 12)))
/-- TurnNetModel.ring(I)I -/
noncomputable def rxm_119 : rx_M := ((2, 2, 43, 0, 0, 1, 1, 0), [[(0, 0, rx_h_ld rx_isR 0 1, .aload_n 0, 1, 0, 0, 0, 0), (1, 0, rx_h_ld rx_isI 1 1, .iload_n 1, 1, 0, 0, 0, 0), (2, 4, rx_h_no, .invokevirtual 330, 3, 90, 44, 7, 67), (5, 0, rx_h_if .ne, .ifCond .ne 5, 3, 10, 0, 0, 0), (8, 0, rx_h_psh 1, .iconst (-1), 1, 4294967295, 0, 0, 0), (9, 1, rx_h_no, .ireturn, 1, 0, 0, 0, 0)]], (yX11_ring, cX11_ring, (some .int)), ((7, 111), (7, 109), (7, 110), (1, 12)))
/-- TurnNetModel.length(II)I -/
noncomputable def rxm_120 : rx_M := ((3, 2, 43, 0, 0, 2, 1, 0), [[(0, 0, rx_h_ld rx_isR 0 1, .aload_n 0, 1, 0, 0, 0, 0), (1, 0, rx_h_ld rx_isI 1 1, .iload_n 1, 1, 0, 0, 0, 0), (2, 4, rx_h_no, .invokevirtual 285, 3, 88, 44, 5, 202), (5, 0, rx_h_if .eq, .ifCond .eq 11, 3, 16, 0, 0, 0)],
  [(16, 0, rx_h_psh 1, .iconst (-1), 1, 4294967295, 0, 0, 0), (17, 1, rx_h_no, .ireturn, 1, 0, 0, 0, 0)]], (yX11_length, cX11_length, (some .int)), ((7, 115), (7, 113), (7, 114), (1, 12)))
/-- TurnNetModel.plain(II)I -/
noncomputable def rxm_121 : rx_M := ((3, 2, 43, 0, 0, 2, 1, 0), [[(0, 0, rx_h_ld rx_isR 0 1, .aload_n 0, 1, 0, 0, 0, 0), (1, 0, rx_h_ld rx_isI 1 1, .iload_n 1, 1, 0, 0, 0, 0), (2, 4, rx_h_no, .invokevirtual 285, 3, 88, 44, 5, 202), (5, 0, rx_h_if .eq, .ifCond .eq 11, 3, 16, 0, 0, 0)],
  [(16, 0, rx_h_psh 1, .iconst (-1), 1, 4294967295, 0, 0, 0), (17, 1, rx_h_no, .ireturn, 1, 0, 0, 0, 0)]], (yX11_plain, cX11_plain, (some .int)), ((7, 142), (7, 140), (7, 141), (1, 12)))
/-- TurnNetModel.ways(II)J -/
noncomputable def rxm_122 : rx_M := ((3, 2, 43, 0, 0, 2, 3, 0), [[(0, 0, rx_h_ld rx_isR 0 1, .aload_n 0, 1, 0, 0, 0, 0), (1, 0, rx_h_ld rx_isI 1 1, .iload_n 1, 1, 0, 0, 0, 0), (2, 4, rx_h_no, .invokevirtual 285, 3, 88, 44, 5, 202), (5, 0, rx_h_if .eq, .ifCond .eq 11, 3, 16, 0, 0, 0)],
  [(16, 0, rx_h_pshJ 3, .ldc2_w 325, 3, 18446744073709551615, 0, 7, 107), (19, 2, rx_h_no, .lreturn, 1, 0, 0, 0, 0)]], (yX11_ways, cX11_ways, (some .long)), ((7, 146), (7, 144), (7, 145), (1, 12)))
/-- TurnNetModel.through(III)J -/
noncomputable def rxm_123 : rx_M := ((7, 2, 43, 0, 0, 3, 3, 0), [[(0, 0, rx_h_ld rx_isR 0 1, .aload_n 0, 1, 0, 0, 0, 0), (1, 0, rx_h_ld rx_isI 1 1, .iload_n 1, 1, 0, 0, 0, 0), (2, 4, rx_h_no, .invokevirtual 285, 3, 88, 44, 5, 202), (5, 0, rx_h_if .eq, .ifCond .eq 19, 3, 24, 0, 0, 0)],
  [(24, 0, rx_h_pshJ 3, .ldc2_w 325, 3, 18446744073709551615, 0, 7, 107), (27, 2, rx_h_no, .lreturn, 1, 0, 0, 0, 0)]], (yX11_through, cX11_through, (some .long)), ((7, 158), (7, 156), (7, 157), (1, 12)))
/-- TurnNetModel.layTable()V -/
noncomputable def rxm_124 : rx_M := ((5, 2, 41, 0, 0, 0, 0, 0), [[(0, 0, rx_h_ld rx_isR 0 1, .aload_n 0, 1, 0, 0, 0, 0), (1, 4, rx_h_no, .invokevirtual 365, 3, 92, 44, 7, 171), (4, 0, rx_h_psh 1, .iconst 0, 1, 0, 0, 0, 0), (5, 0, rx_h_sto rx_isI 1 1, .istore_n 1, 1, 0, 0, 0, 0), (6, 0, rx_h_ld rx_isI 1 1, .iload_n 1, 1, 0, 0, 0, 0), (7, 0, rx_h_psh 2, .bipush 40, 2, 40, 0, 0, 0), (9, 0, rx_h_icmp .ge, .if_icmp .ge 16, 3, 25, 0, 0, 0), (12, 0, rx_h_ld rx_isR 0 1, .aload_n 0, 1, 0, 0, 0, 0), (13, 0, rx_h_gf, .getfield 79, 3, 11, 38, 6, 42)],
  [(16, 0, rx_h_ld rx_isI 1 1, .iload_n 1, 1, 0, 0, 0, 0), (17, 0, rx_h_psh 1, .iconst 0, 1, 0, 0, 0, 0), (18, 0, rx_h_iast, .iastore, 1, 0, 0, 0, 0), (19, 0, rx_h_inc 1, .iinc 1 1, 3, 1, 0, 0, 0), (22, 0, rx_h_goto, .goto (-16), 3, 6, 0, 0, 0), (25, 0, rx_h_psh 1, .iconst 0, 1, 0, 0, 0, 0), (26, 0, rx_h_sto rx_isI 1 1, .istore_n 1, 1, 0, 0, 0, 0), (27, 0, rx_h_ld rx_isI 1 1, .iload_n 1, 1, 0, 0, 0, 0), (28, 0, rx_h_ld rx_isR 0 1, .aload_n 0, 1, 0, 0, 0, 0), (29, 4, rx_h_no, .invokevirtual 264, 3, 37, 44, 5, 206)],
  [(32, 0, rx_h_icmp .ge, .if_icmp .ge 85, 3, 117, 0, 0, 0)],
  [],
  [],
  [],
  [],
  [(117, 3, rx_h_no, .return_, 1, 0, 0, 0, 0)]], (yX11_layTable, cX11_layTable, none), ((7, 170), (7, 169), (0, 105), (1, 12)))
/-- TurnNetModel.entry(III)I -/
noncomputable def rxm_125 : rx_M := ((4, 2, 43, 0, 0, 3, 1, 0), [[(0, 0, rx_h_ld rx_isR 0 1, .aload_n 0, 1, 0, 0, 0, 0), (1, 0, rx_h_ld rx_isI 1 1, .iload_n 1, 1, 0, 0, 0, 0), (2, 4, rx_h_no, .invokevirtual 285, 3, 88, 44, 5, 202), (5, 0, rx_h_if .eq, .ifCond .eq 20, 3, 25, 0, 0, 0)],
  [(25, 0, rx_h_psh 1, .iconst (-1), 1, 4294967295, 0, 0, 0), (26, 1, rx_h_no, .ireturn, 1, 0, 0, 0, 0)]], (yX11_entry, cX11_entry, (some .int)), ((7, 166), (7, 164), (7, 165), (1, 12)))
/-- TurnNetModel.path(III)I -/
noncomputable def rxm_126 : rx_M := ((4, 2, 43, 0, 0, 3, 1, 0), [[(0, 0, rx_h_ld rx_isR 0 1, .aload_n 0, 1, 0, 0, 0, 0), (1, 0, rx_h_ld rx_isI 1 1, .iload_n 1, 1, 0, 0, 0, 0), (2, 4, rx_h_no, .invokevirtual 285, 3, 88, 44, 5, 202), (5, 0, rx_h_if .eq, .ifCond .eq 15, 3, 20, 0, 0, 0)],
  [(20, 0, rx_h_psh 1, .iconst (-1), 1, 4294967295, 0, 0, 0), (21, 1, rx_h_no, .ireturn, 1, 0, 0, 0, 0)]], (yX11_path, cX11_path, (some .int)), ((7, 182), (7, 180), (7, 181), (1, 12)))
/-- TurnNetModel.load(I)I -/
noncomputable def rxm_127 : rx_M := ((2, 2, 43, 0, 0, 1, 1, 0), [[(0, 0, rx_h_ld rx_isR 0 1, .aload_n 0, 1, 0, 0, 0, 0), (1, 0, rx_h_ld rx_isI 1 1, .iload_n 1, 1, 0, 0, 0, 0), (2, 4, rx_h_no, .invokevirtual 330, 3, 90, 44, 7, 67), (5, 0, rx_h_if .ne, .ifCond .ne 5, 3, 10, 0, 0, 0), (8, 0, rx_h_psh 1, .iconst (-1), 1, 4294967295, 0, 0, 0), (9, 1, rx_h_no, .ireturn, 1, 0, 0, 0, 0)]], (yX11_load, cX11_load, (some .int)), ((7, 190), (7, 188), (7, 189), (1, 12)))
/-- TurnNetModel.layPairs()V -/
noncomputable def rxm_128 : rx_M := ((3, 2, 41, 0, 0, 0, 0, 0), [[(0, 0, rx_h_ld rx_isR 0 1, .aload_n 0, 1, 0, 0, 0, 0), (1, 4, rx_h_no, .invokevirtual 365, 3, 92, 44, 7, 171), (4, 0, rx_h_ld rx_isR 0 1, .aload_n 0, 1, 0, 0, 0, 0), (5, 0, rx_h_psh 1, .iconst 0, 1, 0, 0, 0, 0), (6, 0, rx_h_pf, .putfield 383, 3, 11, 40, 6, 44), (9, 0, rx_h_ld rx_isR 0 1, .aload_n 0, 1, 0, 0, 0, 0), (10, 0, rx_h_psh 1, .iconst 0, 1, 0, 0, 0, 0), (11, 0, rx_h_pf, .putfield 386, 3, 11, 41, 6, 45), (14, 0, rx_h_ld rx_isR 0 1, .aload_n 0, 1, 0, 0, 0, 0), (15, 0, rx_h_psh 1, .iconst 0, 1, 0, 0, 0, 0)],
  [(16, 0, rx_h_pf, .putfield 389, 3, 11, 42, 6, 46), (19, 0, rx_h_ld rx_isR 0 1, .aload_n 0, 1, 0, 0, 0, 0), (20, 0, rx_h_psh 1, .iconst 0, 1, 0, 0, 0, 0), (21, 0, rx_h_pf, .putfield 392, 3, 11, 43, 6, 47), (24, 0, rx_h_psh 1, .iconst 0, 1, 0, 0, 0, 0), (25, 0, rx_h_sto rx_isI 1 1, .istore_n 1, 1, 0, 0, 0, 0), (26, 0, rx_h_ld rx_isI 1 1, .iload_n 1, 1, 0, 0, 0, 0), (27, 0, rx_h_ld rx_isR 0 1, .aload_n 0, 1, 0, 0, 0, 0), (28, 4, rx_h_no, .invokevirtual 264, 3, 37, 44, 5, 206), (31, 0, rx_h_icmp .ge, .if_icmp .ge 42, 3, 73, 0, 0, 0)],
  [],
  [],
  [(73, 3, rx_h_no, .return_, 1, 0, 0, 0, 0)]], (yX11_layPairs, cX11_layPairs, none), ((7, 210), (7, 209), (0, 111), (1, 12)))
/-- TurnNetModel.rooted(II)I -/
noncomputable def rxm_129 : rx_M := ((3, 2, 43, 0, 0, 2, 1, 0), [[(0, 0, rx_h_ld rx_isR 0 1, .aload_n 0, 1, 0, 0, 0, 0), (1, 0, rx_h_ld rx_isI 1 1, .iload_n 1, 1, 0, 0, 0, 0), (2, 4, rx_h_no, .invokevirtual 285, 3, 88, 44, 5, 202), (5, 0, rx_h_if .eq, .ifCond .eq 21, 3, 26, 0, 0, 0)],
  [(26, 0, rx_h_psh 1, .iconst (-1), 1, 4294967295, 0, 0, 0), (27, 1, rx_h_no, .ireturn, 1, 0, 0, 0, 0)]], (yX11_rooted, cX11_rooted, (some .int)), ((7, 218), (7, 216), (7, 217), (1, 12)))
/-- TurnNetModel.isStanding(I)Z -/
noncomputable def rxm_130 : rx_M := ((2, 2, 43, 0, 0, 1, 2, 0), [[(0, 0, rx_h_ld rx_isR 0 1, .aload_n 0, 1, 0, 0, 0, 0), (1, 0, rx_h_ld rx_isI 1 1, .iload_n 1, 1, 0, 0, 0, 0), (2, 4, rx_h_no, .invokevirtual 413, 3, 89, 44, 8, 7), (5, 0, rx_h_if .eq, .ifCond .eq 15, 3, 20, 0, 0, 0)],
  [(20, 0, rx_h_psh 1, .iconst 0, 1, 0, 0, 0, 0), (21, 1, rx_h_no, .ireturn, 1, 0, 0, 0, 0)]], (yX11_isStanding, cX11_isStanding, (some .boolean)), ((8, 6), (8, 5), (0, 117), (1, 12)))
/-- TurnNetModel.around(III)I -/
noncomputable def rxm_131 : rx_M := ((5, 2, 43, 0, 0, 3, 1, 0), [[(0, 0, rx_h_ld rx_isR 0 1, .aload_n 0, 1, 0, 0, 0, 0), (1, 0, rx_h_ld rx_isI 1 1, .iload_n 1, 1, 0, 0, 0, 0), (2, 4, rx_h_no, .invokevirtual 285, 3, 88, 44, 5, 202), (5, 0, rx_h_if .eq, .ifCond .eq 19, 3, 24, 0, 0, 0)],
  [(24, 0, rx_h_psh 1, .iconst (-1), 1, 4294967295, 0, 0, 0), (25, 1, rx_h_no, .ireturn, 1, 0, 0, 0, 0)]], (yX11_around, cX11_around, (some .int)), ((8, 23), (8, 21), (8, 22), (1, 12)))
/-- TurnNetModel.pivots()I -/
noncomputable def rxm_132 : rx_M := ((4, 2, 44, 0, 0, 0, 1, 0), [[(0, 0, rx_h_psh 1, .iconst 0, 1, 0, 0, 0, 0), (1, 0, rx_h_sto rx_isI 1 1, .istore_n 1, 1, 0, 0, 0, 0), (2, 0, rx_h_ld rx_isR 0 1, .aload_n 0, 1, 0, 0, 0, 0), (3, 0, rx_h_psh 1, .iconst (-1), 1, 4294967295, 0, 0, 0), (4, 4, rx_h_no, .invokevirtual 428, 3, 96, 44, 8, 29), (7, 0, rx_h_sto rx_isI 2 1, .istore_n 2, 1, 0, 0, 0, 0), (8, 0, rx_h_psh 1, .iconst 0, 1, 0, 0, 0, 0), (9, 0, rx_h_sto rx_isI 3 1, .istore_n 3, 1, 0, 0, 0, 0), (10, 0, rx_h_ld rx_isI 3 1, .iload_n 3, 1, 0, 0, 0, 0), (11, 0, rx_h_ld rx_isR 0 1, .aload_n 0, 1, 0, 0, 0, 0), (12, 4, rx_h_no, .invokevirtual 264, 3, 37, 44, 5, 206), (15, 0, rx_h_icmp .ge, .if_icmp .ge 30, 3, 45, 0, 0, 0)],
  [],
  [(45, 0, rx_h_ld rx_isI 1 1, .iload_n 1, 1, 0, 0, 0, 0), (46, 1, rx_h_no, .ireturn, 1, 0, 0, 0, 0)]], (yX11_pivots, cX11_pivots, (some .int)), ((8, 28), (8, 26), (8, 27), (1, 12)))
/-- TurnNetModel.apart(II)I -/
noncomputable def rxm_133 : rx_M := ((4, 2, 43, 0, 0, 2, 1, 0), [[(0, 0, rx_h_ld rx_isR 0 1, .aload_n 0, 1, 0, 0, 0, 0), (1, 0, rx_h_ld rx_isI 1 1, .iload_n 1, 1, 0, 0, 0, 0), (2, 4, rx_h_no, .invokevirtual 285, 3, 88, 44, 5, 202), (5, 0, rx_h_if .eq, .ifCond .eq 16, 3, 21, 0, 0, 0)],
  [(21, 0, rx_h_psh 1, .iconst (-1), 1, 4294967295, 0, 0, 0), (22, 1, rx_h_no, .ireturn, 1, 0, 0, 0, 0)]], (yX11_apart, cX11_apart, (some .int)), ((8, 40), (8, 38), (8, 39), (1, 12)))
/-- TurnNetModel.plan(II)I -/
noncomputable def rxm_134 : rx_M := ((3, 2, 43, 0, 0, 2, 1, 0), [[(0, 0, rx_h_ld rx_isR 0 1, .aload_n 0, 1, 0, 0, 0, 0), (1, 0, rx_h_ld rx_isI 1 1, .iload_n 1, 1, 0, 0, 0, 0), (2, 4, rx_h_no, .invokevirtual 285, 3, 88, 44, 5, 202), (5, 0, rx_h_if .eq, .ifCond .eq 12, 3, 17, 0, 0, 0)],
  [(17, 0, rx_h_psh 1, .iconst (-1), 1, 4294967295, 0, 0, 0), (18, 1, rx_h_no, .ireturn, 1, 0, 0, 0, 0)]], (yX11_plan, cX11_plan, (some .int)), ((8, 48), (8, 46), (8, 47), (1, 12)))
/-- TurnNetModel.phase(II)I -/
noncomputable def rxm_135 : rx_M := ((3, 2, 43, 0, 0, 2, 1, 0), [[(0, 0, rx_h_ld rx_isR 0 1, .aload_n 0, 1, 0, 0, 0, 0), (1, 0, rx_h_ld rx_isI 1 1, .iload_n 1, 1, 0, 0, 0, 0), (2, 4, rx_h_no, .invokevirtual 285, 3, 88, 44, 5, 202), (5, 0, rx_h_if .eq, .ifCond .eq 11, 3, 16, 0, 0, 0)],
  [(16, 0, rx_h_psh 1, .iconst (-1), 1, 4294967295, 0, 0, 0), (17, 1, rx_h_no, .ireturn, 1, 0, 0, 0, 0)]], (yX11_phase, cX11_phase, (some .int)), ((8, 100), (8, 98), (8, 99), (1, 12)))
/-- TurnNetModel.mend(I)I -/
noncomputable def rxm_136 : rx_M := ((2, 2, 43, 0, 0, 1, 1, 0), [[(0, 0, rx_h_ld rx_isR 0 1, .aload_n 0, 1, 0, 0, 0, 0), (1, 0, rx_h_ld rx_isI 1 1, .iload_n 1, 1, 0, 0, 0, 0), (2, 4, rx_h_no, .invokevirtual 413, 3, 89, 44, 8, 7), (5, 0, rx_h_if .eq, .ifCond .eq 11, 3, 16, 0, 0, 0)],
  [(16, 0, rx_h_psh 1, .iconst (-1), 1, 4294967295, 0, 0, 0), (17, 1, rx_h_no, .ireturn, 1, 0, 0, 0, 0)]], (yX11_mend, cX11_mend, (some .int)), ((8, 116), (8, 114), (8, 115), (1, 12)))
/-- TurnNetModel.turn(I)I -/
noncomputable def rxm_137 : rx_M := ((2, 2, 43, 0, 0, 1, 1, 0), [[(0, 0, rx_h_ld rx_isR 0 1, .aload_n 0, 1, 0, 0, 0, 0), (1, 0, rx_h_ld rx_isI 1 1, .iload_n 1, 1, 0, 0, 0, 0), (2, 4, rx_h_no, .invokevirtual 413, 3, 89, 44, 8, 7), (5, 0, rx_h_if .ne, .ifCond .ne 5, 3, 10, 0, 0, 0), (8, 0, rx_h_psh 1, .iconst (-1), 1, 4294967295, 0, 0, 0), (9, 1, rx_h_no, .ireturn, 1, 0, 0, 0, 0)]], (yX11_turn, cX11_turn, (some .int)), ((8, 120), (8, 118), (8, 119), (1, 12)))
/-- TurnNetModel.orient(I)I -/
noncomputable def rxm_138 : rx_M := ((3, 2, 43, 0, 0, 1, 1, 0), [[(0, 0, rx_h_ld rx_isR 0 1, .aload_n 0, 1, 0, 0, 0, 0), (1, 0, rx_h_ld rx_isI 1 1, .iload_n 1, 1, 0, 0, 0, 0), (2, 4, rx_h_no, .invokevirtual 285, 3, 88, 44, 5, 202), (5, 0, rx_h_if .ne, .ifCond .ne 5, 3, 10, 0, 0, 0), (8, 0, rx_h_psh 1, .iconst (-1), 1, 4294967295, 0, 0, 0), (9, 1, rx_h_no, .ireturn, 1, 0, 0, 0, 0)]], (yX11_orient, cX11_orient, (some .int)), ((8, 124), (8, 122), (8, 123), (1, 12)))
/-- TurnNetModel.change(II)I -/
noncomputable def rxm_139 : rx_M := ((4, 2, 43, 0, 0, 2, 1, 0), [[(0, 0, rx_h_ld rx_isR 0 1, .aload_n 0, 1, 0, 0, 0, 0), (1, 0, rx_h_ld rx_isI 1 1, .iload_n 1, 1, 0, 0, 0, 0), (2, 4, rx_h_no, .invokevirtual 285, 3, 88, 44, 5, 202), (5, 0, rx_h_if .eq, .ifCond .eq 13, 3, 18, 0, 0, 0)],
  [(18, 0, rx_h_psh 1, .iconst (-1), 1, 4294967295, 0, 0, 0), (19, 1, rx_h_no, .ireturn, 1, 0, 0, 0, 0)]], (yX11_change, cX11_change, (some .int)), ((8, 128), (8, 126), (8, 127), (1, 12)))
/-- TurnNetModel.canSend(II)Z -/
noncomputable def rxm_140 : rx_M := ((3, 2, 43, 0, 0, 2, 2, 0), [[(0, 0, rx_h_ld rx_isR 0 1, .aload_n 0, 1, 0, 0, 0, 0), (1, 0, rx_h_ld rx_isI 1 1, .iload_n 1, 1, 0, 0, 0, 0), (2, 4, rx_h_no, .invokevirtual 285, 3, 88, 44, 5, 202), (5, 0, rx_h_if .eq, .ifCond .eq 27, 3, 32, 0, 0, 0)],
  [],
  [(32, 0, rx_h_psh 1, .iconst 0, 1, 0, 0, 0, 0), (33, 1, rx_h_no, .ireturn, 1, 0, 0, 0, 0)]], (yX11_canSend, cX11_canSend, (some .boolean)), ((8, 136), (8, 135), (0, 137), (1, 12)))
/-- TurnNetModel.packet(II)I -/
noncomputable def rxm_141 : rx_M := ((3, 2, 43, 0, 0, 2, 1, 0), [[(0, 0, rx_h_ld rx_isR 0 1, .aload_n 0, 1, 0, 0, 0, 0), (1, 0, rx_h_ld rx_isI 1 1, .iload_n 1, 1, 0, 0, 0, 0), (2, 4, rx_h_no, .invokevirtual 488, 3, 98, 44, 8, 153), (5, 0, rx_h_if .ne, .ifCond .ne 6, 3, 11, 0, 0, 0), (8, 0, rx_h_psh 2, .bipush (-2), 2, 4294967294, 0, 0, 0), (10, 1, rx_h_no, .ireturn, 1, 0, 0, 0, 0)]], (yX11_packet, cX11_packet, (some .int)), ((8, 152), (8, 150), (8, 151), (1, 12)))
/-- TurnNetModel.node(II)I -/
noncomputable def rxm_142 : rx_M := ((3, 2, 43, 0, 0, 2, 1, 0), [[(0, 0, rx_h_ld rx_isR 0 1, .aload_n 0, 1, 0, 0, 0, 0), (1, 0, rx_h_ld rx_isI 1 1, .iload_n 1, 1, 0, 0, 0, 0), (2, 4, rx_h_no, .invokevirtual 285, 3, 88, 44, 5, 202), (5, 0, rx_h_if .ne, .ifCond .ne 6, 3, 11, 0, 0, 0), (8, 0, rx_h_psh 2, .bipush (-2), 2, 4294967294, 0, 0, 0), (10, 1, rx_h_no, .ireturn, 1, 0, 0, 0, 0)]], (yX11_node, cX11_node, (some .int)), ((8, 184), (8, 182), (8, 183), (1, 12)))
/-- TurnNetModel.link(II)I -/
noncomputable def rxm_143 : rx_M := ((3, 2, 43, 0, 0, 2, 1, 0), [[(0, 0, rx_h_ld rx_isR 0 1, .aload_n 0, 1, 0, 0, 0, 0), (1, 0, rx_h_ld rx_isI 1 1, .iload_n 1, 1, 0, 0, 0, 0), (2, 4, rx_h_no, .invokevirtual 413, 3, 89, 44, 8, 7), (5, 0, rx_h_if .ne, .ifCond .ne 5, 3, 10, 0, 0, 0), (8, 0, rx_h_psh 1, .iconst (-1), 1, 4294967295, 0, 0, 0), (9, 1, rx_h_no, .ireturn, 1, 0, 0, 0, 0)]], (yX11_link, cX11_link, (some .int)), ((8, 196), (8, 194), (8, 195), (1, 12)))
/-- TurnNetModel.about(I)I -/
noncomputable def rxm_144 : rx_M := ((2, 2, 42, 0, 0, 1, 1, 0), [[(0, 0, rx_h_ld rx_isI 1 1, .iload_n 1, 1, 0, 0, 0, 0), (1, 0, rx_h_tsw 0 11 #[63, 68, 73, 78, 97, 107, 112, 120, 128, 138, 143, 148], .tableswitch 153 0 11 #[63, 68, 73, 78, 97, 107, 112, 120, 128, 138, 143, 148], 63, 154, 0, 0, 0)],
  [],
  [],
  [],
  [(64, 0, rx_h_ld rx_isR 0 1, .aload_n 0, 1, 0, 0, 0, 0), (65, 4, rx_h_no, .invokevirtual 264, 3, 37, 44, 5, 206), (68, 1, rx_h_no, .ireturn, 1, 0, 0, 0, 0), (69, 0, rx_h_ld rx_isR 0 1, .aload_n 0, 1, 0, 0, 0, 0), (70, 4, rx_h_no, .invokevirtual 267, 3, 38, 44, 5, 213), (73, 1, rx_h_no, .ireturn, 1, 0, 0, 0, 0), (74, 0, rx_h_ld rx_isR 0 1, .aload_n 0, 1, 0, 0, 0, 0), (75, 4, rx_h_no, .invokevirtual 465, 3, 97, 44, 8, 109), (78, 1, rx_h_no, .ireturn, 1, 0, 0, 0, 0), (79, 0, rx_h_ld rx_isR 0 1, .aload_n 0, 1, 0, 0, 0, 0)],
  [(80, 4, rx_h_no, .invokevirtual 264, 3, 37, 44, 5, 206), (83, 0, rx_h_if .ne, .ifCond .ne 7, 3, 90, 0, 0, 0), (86, 0, rx_h_psh 1, .iconst (-1), 1, 4294967295, 0, 0, 0), (87, 0, rx_h_goto, .goto 10, 3, 97, 0, 0, 0)],
  [(97, 1, rx_h_no, .ireturn, 1, 0, 0, 0, 0), (98, 0, rx_h_ld rx_isR 0 1, .aload_n 0, 1, 0, 0, 0, 0), (99, 0, rx_h_gf, .getfield 22, 3, 11, 4, 6, 8), (102, 0, rx_h_ld rx_isR 0 1, .aload_n 0, 1, 0, 0, 0, 0), (103, 0, rx_h_gf, .getfield 255, 3, 11, 9, 6, 13), (106, 0, rx_h_ald (fun t => Nat.beq t 13), .iaload, 1, 0, 0, 0, 0), (107, 1, rx_h_no, .ireturn, 1, 0, 0, 0, 0), (108, 0, rx_h_ld rx_isR 0 1, .aload_n 0, 1, 0, 0, 0, 0), (109, 4, rx_h_no, .invokevirtual 491, 3, 41, 44, 8, 161)],
  [(112, 1, rx_h_no, .ireturn, 1, 0, 0, 0, 0), (113, 0, rx_h_ld rx_isR 0 1, .aload_n 0, 1, 0, 0, 0, 0), (114, 0, rx_h_gf, .getfield 7, 3, 11, 0, 6, 4), (117, 0, rx_h_psh 2, .bipush 101, 2, 101, 0, 0, 0), (119, 0, rx_h_ald (fun t => Nat.beq t 13), .iaload, 1, 0, 0, 0, 0), (120, 1, rx_h_no, .ireturn, 1, 0, 0, 0, 0), (121, 0, rx_h_ld rx_isR 0 1, .aload_n 0, 1, 0, 0, 0, 0), (122, 0, rx_h_gf, .getfield 7, 3, 11, 0, 6, 4), (125, 0, rx_h_psh 2, .bipush 102, 2, 102, 0, 0, 0), (127, 0, rx_h_ald (fun t => Nat.beq t 13), .iaload, 1, 0, 0, 0, 0)],
  [(128, 1, rx_h_no, .ireturn, 1, 0, 0, 0, 0), (129, 0, rx_h_ld rx_isR 0 1, .aload_n 0, 1, 0, 0, 0, 0), (130, 0, rx_h_gf, .getfield 25, 3, 11, 5, 6, 9), (133, 0, rx_h_ld rx_isR 0 1, .aload_n 0, 1, 0, 0, 0, 0), (134, 0, rx_h_gf, .getfield 255, 3, 11, 9, 6, 13), (137, 0, rx_h_ald (fun t => Nat.beq t 13), .iaload, 1, 0, 0, 0, 0), (138, 1, rx_h_no, .ireturn, 1, 0, 0, 0, 0), (139, 0, rx_h_ld rx_isR 0 1, .aload_n 0, 1, 0, 0, 0, 0), (140, 0, rx_h_gf, .getfield 273, 3, 11, 56, 6, 60), (143, 1, rx_h_no, .ireturn, 1, 0, 0, 0, 0)],
  [(144, 0, rx_h_ld rx_isR 0 1, .aload_n 0, 1, 0, 0, 0, 0), (145, 0, rx_h_gf, .getfield 276, 3, 11, 57, 6, 61), (148, 1, rx_h_no, .ireturn, 1, 0, 0, 0, 0), (149, 0, rx_h_ld rx_isR 0 1, .aload_n 0, 1, 0, 0, 0, 0), (150, 0, rx_h_gf, .getfield 117, 3, 11, 11, 6, 15), (153, 1, rx_h_no, .ireturn, 1, 0, 0, 0, 0), (154, 0, rx_h_psh 1, .iconst (-1), 1, 4294967295, 0, 0, 0), (155, 1, rx_h_no, .ireturn, 1, 0, 0, 0, 0)]], (yX11_about, cX11_about, (some .int)), ((8, 220), (8, 218), (8, 219), (1, 12)))
/-- TurnNet.<init>()V -/
noncomputable def rxm_145 : rx_M := ((2, 3, 62, 172, 4299, 0, 0, 0), [[(0, 0, rx_h_ld rx_isR 0 1, .aload_n 0, 1, 0, 0, 0, 0), (1, 4, rx_h_no, .invokespecial 3, 3, 0, 1, 1, 25), (4, 0, rx_h_ld rx_isR 0 1, .aload_n 0, 1, 0, 0, 0, 0), (5, 0, rx_h_new, .new 9, 3, 2, 0, 1, 28), (8, 0, rx_h_dup, .dup, 1, 0, 0, 0, 0), (9, 4, rx_h_no, .invokespecial 11, 3, 48, 11, 1, 30), (12, 0, rx_h_pf, .putfield 12, 3, 10, 0, 2, 141), (15, 0, rx_h_ld rx_isR 0 1, .aload_n 0, 1, 0, 0, 0, 0)],
  [(16, 0, rx_h_new, .new 16, 3, 5, 0, 1, 107), (19, 0, rx_h_dup, .dup, 1, 0, 0, 0, 0), (20, 4, rx_h_no, .invokespecial 18, 3, 106, 23, 1, 109), (23, 0, rx_h_pf, .putfield 19, 3, 10, 1, 2, 142), (26, 0, rx_h_ld rx_isR 0 1, .aload_n 0, 1, 0, 0, 0, 0), (27, 0, rx_h_new, .new 23, 3, 3, 0, 1, 157), (30, 0, rx_h_dup, .dup, 1, 0, 0, 0, 0), (31, 0, rx_h_ld rx_isR 0 1, .aload_n 0, 1, 0, 0, 0, 0)],
  [(32, 0, rx_h_gf, .getfield 12, 3, 10, 0, 2, 141), (35, 4, rx_h_no, .invokespecial 25, 3, 51, 12, 1, 159), (38, 0, rx_h_pf, .putfield 28, 3, 10, 2, 2, 143), (41, 0, rx_h_ld rx_isR 0 1, .aload_n 0, 1, 0, 0, 0, 0), (42, 0, rx_h_new, .new 32, 3, 6, 0, 1, 182), (45, 0, rx_h_dup, .dup, 1, 0, 0, 0, 0), (46, 0, rx_h_ld rx_isR 0 1, .aload_n 0, 1, 0, 0, 0, 0), (47, 0, rx_h_gf, .getfield 12, 3, 10, 0, 2, 141)],
  [(50, 4, rx_h_no, .invokespecial 34, 3, 55, 24, 1, 184), (53, 0, rx_h_pf, .putfield 35, 3, 10, 3, 2, 144), (56, 0, rx_h_ld rx_isR 0 1, .aload_n 0, 1, 0, 0, 0, 0), (57, 0, rx_h_new, .new 32, 3, 6, 0, 1, 182), (60, 0, rx_h_dup, .dup, 1, 0, 0, 0, 0), (61, 0, rx_h_ld rx_isR 0 1, .aload_n 0, 1, 0, 0, 0, 0), (62, 0, rx_h_gf, .getfield 12, 3, 10, 0, 2, 141)],
  [(65, 4, rx_h_no, .invokespecial 34, 3, 55, 24, 1, 184), (68, 0, rx_h_pf, .putfield 39, 3, 10, 4, 2, 145), (71, 0, rx_h_ld rx_isR 0 1, .aload_n 0, 1, 0, 0, 0, 0), (72, 0, rx_h_new, .new 42, 3, 0, 0, 1, 227), (75, 0, rx_h_dup, .dup, 1, 0, 0, 0, 0), (76, 0, rx_h_ld rx_isR 0 1, .aload_n 0, 1, 0, 0, 0, 0), (77, 0, rx_h_gf, .getfield 12, 3, 10, 0, 2, 141)],
  [(80, 4, rx_h_no, .invokespecial 44, 3, 45, 0, 1, 229), (83, 0, rx_h_pf, .putfield 45, 3, 10, 5, 2, 146), (86, 0, rx_h_ld rx_isR 0 1, .aload_n 0, 1, 0, 0, 0, 0), (87, 0, rx_h_new, .new 49, 3, 9, 0, 2, 9), (90, 0, rx_h_dup, .dup, 1, 0, 0, 0, 0), (91, 0, rx_h_ld rx_isR 0 1, .aload_n 0, 1, 0, 0, 0, 0), (92, 0, rx_h_gf, .getfield 12, 3, 10, 0, 2, 141), (95, 4, rx_h_no, .invokespecial 51, 3, 62, 36, 2, 11)],
  [(98, 0, rx_h_pf, .putfield 52, 3, 10, 6, 2, 147), (101, 0, rx_h_ld rx_isR 0 1, .aload_n 0, 1, 0, 0, 0, 0), (102, 0, rx_h_new, .new 56, 3, 4, 0, 2, 25), (105, 0, rx_h_dup, .dup, 1, 0, 0, 0, 0), (106, 0, rx_h_ld rx_isR 0 1, .aload_n 0, 1, 0, 0, 0, 0), (107, 0, rx_h_gf, .getfield 12, 3, 10, 0, 2, 141), (110, 0, rx_h_ld rx_isR 0 1, .aload_n 0, 1, 0, 0, 0, 0), (111, 0, rx_h_gf, .getfield 52, 3, 10, 6, 2, 147)],
  [(114, 4, rx_h_no, .invokespecial 58, 3, 53, 16, 2, 27), (117, 0, rx_h_pf, .putfield 61, 3, 10, 7, 2, 148), (120, 0, rx_h_ld rx_isR 0 1, .aload_n 0, 1, 0, 0, 0, 0), (121, 0, rx_h_new, .new 65, 3, 8, 0, 2, 49), (124, 0, rx_h_dup, .dup, 1, 0, 0, 0, 0), (125, 0, rx_h_ld rx_isR 0 1, .aload_n 0, 1, 0, 0, 0, 0), (126, 0, rx_h_gf, .getfield 12, 3, 10, 0, 2, 141)],
  [(129, 4, rx_h_no, .invokespecial 67, 3, 61, 32, 2, 51), (132, 0, rx_h_pf, .putfield 68, 3, 10, 8, 2, 149), (135, 0, rx_h_ld rx_isR 0 1, .aload_n 0, 1, 0, 0, 0, 0), (136, 0, rx_h_new, .new 72, 3, 1, 0, 2, 67), (139, 0, rx_h_dup, .dup, 1, 0, 0, 0, 0), (140, 4, rx_h_no, .invokespecial 74, 3, 104, 4, 2, 69), (143, 0, rx_h_pf, .putfield 75, 3, 10, 9, 2, 150)],
  [(146, 0, rx_h_ld rx_isR 0 1, .aload_n 0, 1, 0, 0, 0, 0), (147, 0, rx_h_new, .new 79, 3, 7, 0, 2, 139), (150, 0, rx_h_dup, .dup, 1, 0, 0, 0, 0), (151, 4, rx_h_no, .invokespecial 81, 3, 59, 28, 2, 140), (154, 0, rx_h_pf, .putfield 82, 3, 10, 10, 2, 151), (157, 0, rx_h_ld rx_isR 0 1, .aload_n 0, 1, 0, 0, 0, 0), (158, 0, rx_h_psh 1, .iconst 2, 1, 2, 0, 0, 0), (159, 0, rx_h_anew, .anewarray 79, 3, 0, 0, 2, 139)],
  [(162, 0, rx_h_pf, .putfield 86, 3, 10, 11, 2, 152), (165, 0, rx_h_ld rx_isR 0 1, .aload_n 0, 1, 0, 0, 0, 0), (166, 0, rx_h_psh 1, .iconst 2, 1, 2, 0, 0, 0), (167, 0, rx_h_newa .boolean, .newarray .boolean, 2, 0, 0, 2, 184), (169, 0, rx_h_pf, .putfield 90, 3, 10, 12, 2, 153), (172, 0, rx_h_ld rx_isR 0 1, .aload_n 0, 1, 0, 0, 0, 0), (173, 0, rx_h_new, .new 79, 3, 7, 0, 2, 139)],
  [(176, 0, rx_h_dup, .dup, 1, 0, 0, 0, 0), (177, 4, rx_h_no, .invokespecial 81, 3, 59, 28, 2, 140), (180, 0, rx_h_pf, .putfield 94, 3, 10, 13, 2, 154), (183, 0, rx_h_psh 1, .iconst 0, 1, 0, 0, 0, 0), (184, 0, rx_h_sto rx_isI 1 1, .istore_n 1, 1, 0, 0, 0, 0), (185, 0, rx_h_ld rx_isI 1 1, .iload_n 1, 1, 0, 0, 0, 0), (186, 0, rx_h_psh 1, .iconst 2, 1, 2, 0, 0, 0), (187, 0, rx_h_icmp .ge, .if_icmp .ge 22, 3, 209, 0, 0, 0), (190, 0, rx_h_ld rx_isR 0 1, .aload_n 0, 1, 0, 0, 0, 0), (191, 0, rx_h_gf, .getfield 86, 3, 10, 11, 2, 152)],
  [(194, 0, rx_h_ld rx_isI 1 1, .iload_n 1, 1, 0, 0, 0, 0), (195, 0, rx_h_new, .new 79, 3, 7, 0, 2, 139), (198, 0, rx_h_dup, .dup, 1, 0, 0, 0, 0), (199, 4, rx_h_no, .invokespecial 81, 3, 59, 28, 2, 140), (202, 0, rx_h_aast, .aastore, 1, 0, 0, 0, 0), (203, 0, rx_h_inc 1, .iinc 1 1, 3, 1, 0, 0, 0), (206, 0, rx_h_goto, .goto (-21), 3, 185, 0, 0, 0)],
  [(209, 3, rx_h_no, .return_, 1, 0, 0, 0, 0)]], (yX10_init, cX10_init, none), ((1, 24), (1, 23), (0, 0), (1, 1)))
/-- TurnNet.net()I -/
noncomputable def rxm_146 : rx_M := ((3, 3, 73, 0, 0, 0, 1, 0), [[(0, 0, rx_h_ld rx_isR 0 1, .aload_n 0, 1, 0, 0, 0, 0), (1, 0, rx_h_gf, .getfield 19, 3, 10, 1, 2, 142), (4, 4, rx_h_no, .invokevirtual 105, 3, 54, 20, 2, 201), (7, 0, rx_h_sto rx_isI 1 1, .istore_n 1, 1, 0, 0, 0, 0), (8, 0, rx_h_ld rx_isR 0 1, .aload_n 0, 1, 0, 0, 0, 0), (9, 0, rx_h_gf, .getfield 19, 3, 10, 1, 2, 142), (12, 0, rx_h_psh 1, .iconst 0, 1, 0, 0, 0, 0), (13, 0, rx_h_pf, .putfield 97, 3, 5, 1, 1, 116)],
  [(16, 0, rx_h_ld rx_isI 1 1, .iload_n 1, 1, 0, 0, 0, 0), (17, 0, rx_h_if .ne, .ifCond .ne 5, 3, 22, 0, 0, 0), (22, 0, rx_h_ld rx_isR 0 1, .aload_n 0, 1, 0, 0, 0, 0), (23, 0, rx_h_gf, .getfield 12, 3, 10, 0, 2, 141), (26, 0, rx_h_ld rx_isR 0 1, .aload_n 0, 1, 0, 0, 0, 0), (27, 0, rx_h_gf, .getfield 19, 3, 10, 1, 2, 142), (30, 0, rx_h_gf, .getfield 109, 3, 5, 2, 1, 119)],
  [(33, 4, rx_h_no, .invokevirtual 112, 3, 49, 8, 3, 97), (36, 0, rx_h_ld rx_isR 0 1, .aload_n 0, 1, 0, 0, 0, 0), (37, 0, rx_h_gf, .getfield 35, 3, 10, 3, 2, 144), (40, 4, rx_h_no, .invokevirtual 115, 3, 12, 24, 3, 108), (43, 0, rx_h_ld rx_isR 0 1, .aload_n 0, 1, 0, 0, 0, 0), (44, 0, rx_h_gf, .getfield 39, 3, 10, 4, 2, 145), (47, 4, rx_h_no, .invokevirtual 115, 3, 12, 24, 3, 108)],
  [(50, 0, rx_h_ld rx_isR 0 1, .aload_n 0, 1, 0, 0, 0, 0), (51, 0, rx_h_gf, .getfield 75, 3, 10, 9, 2, 150), (54, 4, rx_h_no, .invokevirtual 118, 3, 2, 4, 3, 112), (57, 0, rx_h_psh 1, .iconst 0, 1, 0, 0, 0, 0), (58, 0, rx_h_sto rx_isI 2 1, .istore_n 2, 1, 0, 0, 0, 0), (59, 0, rx_h_ld rx_isI 2 1, .iload_n 2, 1, 0, 0, 0, 0), (60, 0, rx_h_psh 1, .iconst 2, 1, 2, 0, 0, 0), (61, 0, rx_h_icmp .ge, .if_icmp .ge 16, 3, 77, 0, 0, 0)],
  [(64, 0, rx_h_ld rx_isR 0 1, .aload_n 0, 1, 0, 0, 0, 0), (65, 0, rx_h_gf, .getfield 90, 3, 10, 12, 2, 153), (68, 0, rx_h_ld rx_isI 2 1, .iload_n 2, 1, 0, 0, 0, 0), (69, 0, rx_h_psh 1, .iconst 0, 1, 0, 0, 0, 0), (70, 0, rx_h_bast, .bastore, 1, 0, 0, 0, 0), (71, 0, rx_h_inc 2, .iinc 2 1, 3, 1, 0, 0, 0), (74, 0, rx_h_goto, .goto (-15), 3, 59, 0, 0, 0), (77, 0, rx_h_ld rx_isR 0 1, .aload_n 0, 1, 0, 0, 0, 0), (78, 0, rx_h_gf, .getfield 12, 3, 10, 0, 2, 141)],
  [(81, 4, rx_h_no, .invokevirtual 121, 3, 6, 8, 3, 116), (84, 0, rx_h_sto rx_isI 2 1, .istore_n 2, 1, 0, 0, 0, 0), (85, 0, rx_h_ld rx_isR 0 1, .aload_n 0, 1, 0, 0, 0, 0), (86, 0, rx_h_gf, .getfield 28, 3, 10, 2, 2, 143), (89, 0, rx_h_ld rx_isR 0 1, .aload_n 0, 1, 0, 0, 0, 0), (90, 0, rx_h_gf, .getfield 12, 3, 10, 0, 2, 141), (93, 0, rx_h_gf, .getfield 125, 3, 2, 2, 1, 49)],
  [(96, 0, rx_h_ld rx_isI 2 1, .iload_n 2, 1, 0, 0, 0, 0), (97, 4, rx_h_no, .invokevirtual 128, 3, 105, 12, 3, 120), (100, 0, rx_h_ld rx_isR 0 1, .aload_n 0, 1, 0, 0, 0, 0), (101, 0, rx_h_gf, .getfield 94, 3, 10, 13, 2, 154), (104, 0, rx_h_ld rx_isR 0 1, .aload_n 0, 1, 0, 0, 0, 0), (105, 0, rx_h_gf, .getfield 12, 3, 10, 0, 2, 141), (108, 0, rx_h_gf, .getfield 125, 3, 2, 2, 1, 49), (111, 0, rx_h_ld rx_isR 0 1, .aload_n 0, 1, 0, 0, 0, 0)],
  [(112, 0, rx_h_gf, .getfield 28, 3, 10, 2, 2, 143), (115, 4, rx_h_no, .invokevirtual 132, 3, 9, 12, 3, 148), (118, 0, rx_h_ld rx_isI 2 1, .iload_n 2, 1, 0, 0, 0, 0), (119, 4, rx_h_no, .invokevirtual 135, 3, 15, 28, 3, 156), (122, 0, rx_h_ld rx_isR 0 1, .aload_n 0, 1, 0, 0, 0, 0), (123, 0, rx_h_gf, .getfield 12, 3, 10, 0, 2, 141), (126, 0, rx_h_gf, .getfield 139, 3, 2, 0, 1, 39)],
  [(129, 1, rx_h_no, .ireturn, 1, 0, 0, 0, 0)]], (yX10_net, cX10_net, (some .int)), ((2, 200), (2, 198), (2, 199), (1, 1)))
/-- TurnNet.rings()I -/
noncomputable def rxm_147 : rx_M := ((3, 3, 72, 0, 0, 0, 1, 0), [[(0, 0, rx_h_ld rx_isR 0 1, .aload_n 0, 1, 0, 0, 0, 0), (1, 0, rx_h_gf, .getfield 52, 3, 10, 6, 2, 147), (4, 0, rx_h_ld rx_isR 0 1, .aload_n 0, 1, 0, 0, 0, 0), (5, 0, rx_h_gf, .getfield 94, 3, 10, 13, 2, 154), (8, 0, rx_h_gf, .getfield 168, 3, 7, 1, 2, 84), (11, 0, rx_h_ld rx_isR 0 1, .aload_n 0, 1, 0, 0, 0, 0), (12, 0, rx_h_gf, .getfield 94, 3, 10, 13, 2, 154), (15, 0, rx_h_gf, .getfield 168, 3, 7, 1, 2, 84)],
  [(18, 0, rx_h_ld rx_isR 0 1, .aload_n 0, 1, 0, 0, 0, 0), (19, 0, rx_h_gf, .getfield 94, 3, 10, 13, 2, 154), (22, 0, rx_h_gf, .getfield 159, 3, 7, 2, 2, 86), (25, 4, rx_h_no, .invokevirtual 286, 3, 108, 36, 5, 32), (28, 0, rx_h_psh 1, .iconst 0, 1, 0, 0, 0, 0), (29, 0, rx_h_sto rx_isI 1 1, .istore_n 1, 1, 0, 0, 0, 0), (30, 0, rx_h_psh 1, .iconst 0, 1, 0, 0, 0, 0), (31, 0, rx_h_sto rx_isI 2 1, .istore_n 2, 1, 0, 0, 0, 0)],
  [(32, 0, rx_h_ld rx_isI 2 1, .iload_n 2, 1, 0, 0, 0, 0), (33, 0, rx_h_ld rx_isR 0 1, .aload_n 0, 1, 0, 0, 0, 0), (34, 0, rx_h_gf, .getfield 12, 3, 10, 0, 2, 141), (37, 4, rx_h_no, .invokevirtual 293, 3, 5, 8, 5, 41), (40, 0, rx_h_icmp .ge, .if_icmp .ge 24, 3, 64, 0, 0, 0)],
  [],
  [(64, 0, rx_h_ld rx_isI 1 1, .iload_n 1, 1, 0, 0, 0, 0), (65, 1, rx_h_no, .ireturn, 1, 0, 0, 0, 0)]], (yX10_rings, cX10_rings, (some .int)), ((5, 40), (5, 38), (5, 39), (1, 1)))
/-- TurnNet.runEmpty()I -/
noncomputable def rxm_148 : rx_M := ((3, 3, 65, 0, 0, 0, 1, 0), [[(0, 0, rx_h_ld rx_isR 0 1, .aload_n 0, 1, 0, 0, 0, 0), (1, 0, rx_h_gf, .getfield 35, 3, 10, 3, 2, 144), (4, 0, rx_h_ld rx_isR 0 1, .aload_n 0, 1, 0, 0, 0, 0), (5, 0, rx_h_gf, .getfield 82, 3, 10, 10, 2, 151), (8, 0, rx_h_gf, .getfield 168, 3, 7, 1, 2, 84), (11, 0, rx_h_ld rx_isR 0 1, .aload_n 0, 1, 0, 0, 0, 0), (12, 0, rx_h_gf, .getfield 82, 3, 10, 10, 2, 151), (15, 0, rx_h_gf, .getfield 159, 3, 7, 2, 2, 86)],
  [(18, 4, rx_h_no, .invokevirtual 257, 3, 107, 24, 4, 22), (21, 0, rx_h_ld rx_isR 0 1, .aload_n 0, 1, 0, 0, 0, 0), (22, 0, rx_h_gf, .getfield 68, 3, 10, 8, 2, 149), (25, 4, rx_h_no, .invokevirtual 319, 3, 18, 32, 4, 80), (28, 0, rx_h_psh 1, .iconst 0, 1, 0, 0, 0, 0), (29, 0, rx_h_sto rx_isI 1 1, .istore_n 1, 1, 0, 0, 0, 0), (30, 0, rx_h_ld rx_isI 1 1, .iload_n 1, 1, 0, 0, 0, 0), (31, 0, rx_h_psh 3, .sipush 200, 3, 200, 0, 0, 0)],
  [(34, 0, rx_h_icmp .ge, .if_icmp .ge 59, 3, 93, 0, 0, 0), (37, 0, rx_h_ld rx_isR 0 1, .aload_n 0, 1, 0, 0, 0, 0), (38, 0, rx_h_gf, .getfield 68, 3, 10, 8, 2, 149), (41, 0, rx_h_gf, .getfield 373, 3, 8, 1, 2, 57), (44, 0, rx_h_sto rx_isI 2 1, .istore_n 2, 1, 0, 0, 0, 0), (45, 0, rx_h_ld rx_isR 0 1, .aload_n 0, 1, 0, 0, 0, 0), (46, 0, rx_h_gf, .getfield 82, 3, 10, 10, 2, 151)],
  [(49, 4, rx_h_no, .invokevirtual 329, 3, 17, 28, 5, 142), (52, 0, rx_h_if .ne, .ifCond .ne 5, 3, 57, 0, 0, 0), (55, 0, rx_h_ld rx_isI 1 1, .iload_n 1, 1, 0, 0, 0, 0), (56, 1, rx_h_no, .ireturn, 1, 0, 0, 0, 0)]], (yX10_runEmpty, cX10_runEmpty, (some .int)), ((5, 159), (5, 158), (0, 50), (1, 1)))
/-- TurnNetModel.layRanks(I)V -/
noncomputable def rxm_149 : rx_M := ((3, 3, 69, 0, 0, 1, 0, 0), [[(0, 0, rx_h_ld rx_isR 0 1, .aload_n 0, 1, 0, 0, 0, 0), (1, 0, rx_h_ld rx_isI 1 1, .iload_n 1, 1, 0, 0, 0, 0), (2, 0, rx_h_psh 1, .iconst (-1), 1, 4294967295, 0, 0, 0), (3, 4, rx_h_no, .invokevirtual 294, 3, 116, 44, 5, 198), (6, 0, rx_h_psh 1, .iconst 0, 1, 0, 0, 0, 0), (7, 0, rx_h_sto rx_isI 2 1, .istore_n 2, 1, 0, 0, 0, 0), (8, 0, rx_h_ld rx_isI 2 1, .iload_n 2, 1, 0, 0, 0, 0), (9, 0, rx_h_ld rx_isR 0 1, .aload_n 0, 1, 0, 0, 0, 0), (10, 4, rx_h_no, .invokevirtual 264, 3, 37, 44, 5, 206), (13, 0, rx_h_icmp .ge, .if_icmp .ge 20, 3, 33, 0, 0, 0)],
  [],
  [(33, 3, rx_h_no, .return_, 1, 0, 0, 0, 0)]], (yX11_layRanks, cX11_layRanks, none), ((5, 197), (5, 196), (0, 54), (1, 12)))
/-- TurnNetModel.rings()I -/
noncomputable def rxm_150 : rx_M := ((3, 3, 62, 0, 0, 0, 1, 0), [[(0, 0, rx_h_ld rx_isR 0 1, .aload_n 0, 1, 0, 0, 0, 0), (1, 4, rx_h_no, .invokevirtual 333, 3, 117, 44, 7, 95), (4, 0, rx_h_psh 1, .iconst 0, 1, 0, 0, 0, 0), (5, 0, rx_h_sto rx_isI 1 1, .istore_n 1, 1, 0, 0, 0, 0), (6, 0, rx_h_psh 1, .iconst 0, 1, 0, 0, 0, 0), (7, 0, rx_h_sto rx_isI 2 1, .istore_n 2, 1, 0, 0, 0, 0), (8, 0, rx_h_ld rx_isI 2 1, .iload_n 2, 1, 0, 0, 0, 0), (9, 0, rx_h_ld rx_isR 0 1, .aload_n 0, 1, 0, 0, 0, 0), (10, 4, rx_h_no, .invokevirtual 319, 3, 91, 44, 7, 99), (13, 0, rx_h_icmp .ge, .if_icmp .ge 25, 3, 38, 0, 0, 0)],
  [],
  [(38, 0, rx_h_ld rx_isI 1 1, .iload_n 1, 1, 0, 0, 0, 0), (39, 1, rx_h_no, .ireturn, 1, 0, 0, 0, 0)]], (yX11_rings, cX11_rings, (some .int)), ((7, 94), (7, 92), (7, 93), (1, 12)))
/-- TurnNetModel.pairs(I)I -/
noncomputable def rxm_151 : rx_M := ((2, 3, 63, 0, 0, 1, 1, 0), [[(0, 0, rx_h_ld rx_isR 0 1, .aload_n 0, 1, 0, 0, 0, 0), (1, 4, rx_h_no, .invokevirtual 398, 3, 128, 44, 7, 207), (4, 0, rx_h_ld rx_isI 1 1, .iload_n 1, 1, 0, 0, 0, 0), (5, 0, rx_h_tsw 0 3 #[31, 36, 41, 46], .tableswitch 51 0 3 #[31, 36, 41, 46], 31, 56, 0, 0, 0)],
  [],
  [(36, 0, rx_h_ld rx_isR 0 1, .aload_n 0, 1, 0, 0, 0, 0), (37, 0, rx_h_gf, .getfield 383, 3, 11, 40, 6, 44), (40, 1, rx_h_no, .ireturn, 1, 0, 0, 0, 0), (41, 0, rx_h_ld rx_isR 0 1, .aload_n 0, 1, 0, 0, 0, 0), (42, 0, rx_h_gf, .getfield 386, 3, 11, 41, 6, 45), (45, 1, rx_h_no, .ireturn, 1, 0, 0, 0, 0), (46, 0, rx_h_ld rx_isR 0 1, .aload_n 0, 1, 0, 0, 0, 0), (47, 0, rx_h_gf, .getfield 389, 3, 11, 42, 6, 46)],
  [(50, 1, rx_h_no, .ireturn, 1, 0, 0, 0, 0), (51, 0, rx_h_ld rx_isR 0 1, .aload_n 0, 1, 0, 0, 0, 0), (52, 0, rx_h_gf, .getfield 392, 3, 11, 43, 6, 47), (55, 1, rx_h_no, .ireturn, 1, 0, 0, 0, 0), (56, 0, rx_h_psh 1, .iconst (-1), 1, 4294967295, 0, 0, 0), (57, 1, rx_h_no, .ireturn, 1, 0, 0, 0, 0)]], (yX11_pairs, cX11_pairs, (some .int)), ((7, 206), (7, 204), (7, 205), (1, 12)))
/-- TurnNetModel.without(II)I -/
noncomputable def rxm_152 : rx_M := ((4, 3, 64, 0, 0, 2, 1, 0), [[(0, 0, rx_h_ld rx_isR 0 1, .aload_n 0, 1, 0, 0, 0, 0), (1, 0, rx_h_ld rx_isI 1 1, .iload_n 1, 1, 0, 0, 0, 0), (2, 4, rx_h_no, .invokevirtual 416, 3, 130, 44, 8, 3), (5, 0, rx_h_if .eq, .ifCond .eq 12, 3, 17, 0, 0, 0)],
  [(17, 0, rx_h_psh 1, .iconst (-1), 1, 4294967295, 0, 0, 0), (18, 1, rx_h_no, .ireturn, 1, 0, 0, 0, 0)]], (yX11_without, cX11_without, (some .int)), ((8, 2), (8, 0), (8, 1), (1, 12)))
/-- TurnNetModel.cut(I)I -/
noncomputable def rxm_153 : rx_M := ((2, 3, 64, 0, 0, 1, 1, 0), [[(0, 0, rx_h_ld rx_isR 0 1, .aload_n 0, 1, 0, 0, 0, 0), (1, 0, rx_h_ld rx_isI 1 1, .iload_n 1, 1, 0, 0, 0, 0), (2, 4, rx_h_no, .invokevirtual 416, 3, 130, 44, 8, 3), (5, 0, rx_h_if .ne, .ifCond .ne 5, 3, 10, 0, 0, 0), (8, 0, rx_h_psh 1, .iconst (-1), 1, 4294967295, 0, 0, 0), (9, 1, rx_h_no, .ireturn, 1, 0, 0, 0, 0)]], (yX11_cut, cX11_cut, (some .int)), ((8, 104), (8, 102), (8, 103), (1, 12)))
/-- TurnNetModel.send(II)I -/
noncomputable def rxm_154 : rx_M := ((3, 3, 65, 0, 0, 2, 1, 0), [[(0, 0, rx_h_ld rx_isR 0 1, .aload_n 0, 1, 0, 0, 0, 0), (1, 0, rx_h_ld rx_isI 1 1, .iload_n 1, 1, 0, 0, 0, 0), (2, 0, rx_h_ld rx_isI 2 1, .iload_n 2, 1, 0, 0, 0, 0), (3, 4, rx_h_no, .invokevirtual 471, 3, 140, 44, 8, 133), (6, 0, rx_h_if .ne, .ifCond .ne 5, 3, 11, 0, 0, 0), (9, 0, rx_h_psh 1, .iconst (-1), 1, 4294967295, 0, 0, 0), (10, 1, rx_h_no, .ireturn, 1, 0, 0, 0, 0)]], (yX11_send, cX11_send, (some .int)), ((8, 132), (8, 130), (8, 131), (1, 12)))
/-- TurnNetModel.goStep()I -/
noncomputable def rxm_155 : rx_M := ((3, 3, 65, 0, 0, 0, 1, 0), [[(0, 0, rx_h_ld rx_isR 0 1, .aload_n 0, 1, 0, 0, 0, 0), (1, 4, rx_h_no, .invokevirtual 371, 3, 124, 44, 7, 167), (4, 0, rx_h_ld rx_isR 0 1, .aload_n 0, 1, 0, 0, 0, 0), (5, 0, rx_h_gf, .getfield 7, 3, 11, 0, 6, 4), (8, 0, rx_h_psh 2, .bipush 102, 2, 102, 0, 0, 0), (10, 0, rx_h_dup2, .dup2, 1, 0, 0, 0, 0), (11, 0, rx_h_ald (fun t => Nat.beq t 13), .iaload, 1, 0, 0, 0, 0), (12, 0, rx_h_psh 1, .iconst 1, 1, 1, 0, 0, 0), (13, 0, rx_h_ar rx_f_add rx_g32, .iadd, 1, 0, 0, 0, 0), (14, 0, rx_h_iast, .iastore, 1, 0, 0, 0, 0), (15, 0, rx_h_psh 1, .iconst 0, 1, 0, 0, 0, 0)],
  [(16, 0, rx_h_sto rx_isI 1 1, .istore_n 1, 1, 0, 0, 0, 0), (17, 0, rx_h_psh 1, .iconst 0, 1, 0, 0, 0, 0), (18, 0, rx_h_sto rx_isI 2 1, .istore_n 2, 1, 0, 0, 0, 0), (19, 0, rx_h_ld rx_isI 2 1, .iload_n 2, 1, 0, 0, 0, 0), (20, 0, rx_h_psh 2, .bipush 12, 2, 12, 0, 0, 0), (22, 0, rx_h_icmp .ge, .if_icmp .ge 51, 3, 73, 0, 0, 0), (25, 0, rx_h_ld rx_isR 0 1, .aload_n 0, 1, 0, 0, 0, 0), (26, 0, rx_h_gf, .getfield 7, 3, 11, 0, 6, 4), (29, 0, rx_h_psh 2, .bipush 41, 2, 41, 0, 0, 0), (31, 0, rx_h_ld rx_isI 2 1, .iload_n 2, 1, 0, 0, 0, 0)],
  [(32, 0, rx_h_ar rx_f_add rx_g32, .iadd, 1, 0, 0, 0, 0), (33, 0, rx_h_ald (fun t => Nat.beq t 13), .iaload, 1, 0, 0, 0, 0), (34, 0, rx_h_if .ne, .ifCond .ne 6, 3, 40, 0, 0, 0), (37, 0, rx_h_goto, .goto 30, 3, 67, 0, 0, 0)],
  [],
  [(67, 0, rx_h_inc 2, .iinc 2 1, 3, 1, 0, 0, 0), (70, 0, rx_h_goto, .goto (-51), 3, 19, 0, 0, 0), (73, 0, rx_h_ld rx_isI 1 1, .iload_n 1, 1, 0, 0, 0, 0), (74, 1, rx_h_no, .ireturn, 1, 0, 0, 0, 0)]], (yX11_goStep, cX11_goStep, (some .int)), ((8, 84), (8, 83), (0, 131), (1, 12)))
/-- TurnNet.drains()I -/
noncomputable def rxm_156 : rx_M := ((2, 4, 87, 0, 0, 0, 1, 0), [[(0, 0, rx_h_ld rx_isR 0 1, .aload_n 0, 1, 0, 0, 0, 0), (1, 0, rx_h_gf, .getfield 82, 3, 10, 10, 2, 151), (4, 0, rx_h_ld rx_isR 0 1, .aload_n 0, 1, 0, 0, 0, 0), (5, 0, rx_h_gf, .getfield 94, 3, 10, 13, 2, 154), (8, 4, rx_h_no, .invokevirtual 317, 3, 60, 28, 5, 131), (11, 0, rx_h_ld rx_isR 0 1, .aload_n 0, 1, 0, 0, 0, 0), (12, 4, rx_h_no, .invokevirtual 354, 3, 148, 40, 5, 156), (15, 0, rx_h_sto rx_isI 1 1, .istore_n 1, 1, 0, 0, 0, 0)],
  [(16, 0, rx_h_ld rx_isR 0 1, .aload_n 0, 1, 0, 0, 0, 0), (17, 0, rx_h_gf, .getfield 82, 3, 10, 10, 2, 151), (20, 4, rx_h_no, .invokevirtual 329, 3, 17, 28, 5, 142), (23, 0, rx_h_if .ne, .ifCond .ne 7, 3, 30, 0, 0, 0), (26, 0, rx_h_ld rx_isI 1 1, .iload_n 1, 1, 0, 0, 0, 0), (27, 0, rx_h_goto, .goto 4, 3, 31, 0, 0, 0), (31, 1, rx_h_no, .ireturn, 1, 0, 0, 0, 0)]], (yX10_drains, cX10_drains, (some .int)), ((5, 155), (5, 153), (5, 154), (1, 1)))
/-- TurnNet.stuck()I -/
noncomputable def rxm_157 : rx_M := ((3, 4, 87, 0, 0, 0, 1, 0), [[(0, 0, rx_h_ld rx_isR 0 1, .aload_n 0, 1, 0, 0, 0, 0), (1, 0, rx_h_gf, .getfield 82, 3, 10, 10, 2, 151), (4, 0, rx_h_ld rx_isR 0 1, .aload_n 0, 1, 0, 0, 0, 0), (5, 0, rx_h_gf, .getfield 94, 3, 10, 13, 2, 154), (8, 4, rx_h_no, .invokevirtual 317, 3, 60, 28, 5, 131), (11, 0, rx_h_ld rx_isR 0 1, .aload_n 0, 1, 0, 0, 0, 0), (12, 4, rx_h_no, .invokevirtual 354, 3, 148, 40, 5, 156), (15, 0, rx_h_pop, .pop, 1, 0, 0, 0, 0)],
  [(16, 0, rx_h_psh 1, .iconst 0, 1, 0, 0, 0, 0), (17, 0, rx_h_sto rx_isI 1 1, .istore_n 1, 1, 0, 0, 0, 0), (18, 0, rx_h_psh 1, .iconst 0, 1, 0, 0, 0, 0), (19, 0, rx_h_sto rx_isI 2 1, .istore_n 2, 1, 0, 0, 0, 0), (20, 0, rx_h_ld rx_isI 2 1, .iload_n 2, 1, 0, 0, 0, 0), (21, 0, rx_h_psh 2, .bipush 12, 2, 12, 0, 0, 0), (23, 0, rx_h_icmp .ge, .if_icmp .ge 26, 3, 49, 0, 0, 0), (26, 0, rx_h_ld rx_isR 0 1, .aload_n 0, 1, 0, 0, 0, 0), (27, 0, rx_h_gf, .getfield 82, 3, 10, 10, 2, 151), (30, 0, rx_h_ld rx_isI 2 1, .iload_n 2, 1, 0, 0, 0, 0), (31, 4, rx_h_no, .invokevirtual 335, 3, 16, 28, 5, 150)],
  [(34, 0, rx_h_if .eq, .ifCond .eq 9, 3, 43, 0, 0, 0), (43, 0, rx_h_inc 2, .iinc 2 1, 3, 1, 0, 0, 0), (46, 0, rx_h_goto, .goto (-26), 3, 20, 0, 0, 0)],
  [(49, 0, rx_h_ld rx_isI 1 1, .iload_n 1, 1, 0, 0, 0, 0), (50, 1, rx_h_no, .ireturn, 1, 0, 0, 0, 0)]], (yX10_stuck, cX10_stuck, (some .int)), ((5, 163), (5, 161), (5, 162), (1, 1)))
/-- TurnNetModel.orientBy(I)V -/
noncomputable def rxm_158 : rx_M := ((3, 4, 91, 0, 0, 1, 0, 0), [[(0, 0, rx_h_ld rx_isR 0 1, .aload_n 0, 1, 0, 0, 0, 0), (1, 0, rx_h_ld rx_isI 1 1, .iload_n 1, 1, 0, 0, 0, 0), (2, 4, rx_h_no, .invokevirtual 300, 3, 149, 44, 5, 194), (5, 0, rx_h_psh 1, .iconst 0, 1, 0, 0, 0, 0), (6, 0, rx_h_sto rx_isI 2 1, .istore_n 2, 1, 0, 0, 0, 0), (7, 0, rx_h_ld rx_isI 2 1, .iload_n 2, 1, 0, 0, 0, 0), (8, 0, rx_h_ld rx_isR 0 1, .aload_n 0, 1, 0, 0, 0, 0), (9, 4, rx_h_no, .invokevirtual 267, 3, 38, 44, 5, 213), (12, 0, rx_h_icmp .ge, .if_icmp .ge 49, 3, 61, 0, 0, 0)],
  [],
  [],
  [(61, 3, rx_h_no, .return_, 1, 0, 0, 0, 0)]], (yX11_orientBy, cX11_orientBy, none), ((5, 193), (5, 192), (0, 53), (1, 12)))
/-- TurnNetModel.goSteps(I)I -/
noncomputable def rxm_159 : rx_M := ((4, 4, 87, 0, 0, 1, 1, 0), [[(0, 0, rx_h_psh 1, .iconst 0, 1, 0, 0, 0, 0), (1, 0, rx_h_sto rx_isI 2 1, .istore_n 2, 1, 0, 0, 0, 0), (2, 0, rx_h_psh 1, .iconst 0, 1, 0, 0, 0, 0), (3, 0, rx_h_sto rx_isI 3 1, .istore_n 3, 1, 0, 0, 0, 0), (4, 0, rx_h_ld rx_isI 3 1, .iload_n 3, 1, 0, 0, 0, 0), (5, 0, rx_h_ld rx_isI 1 1, .iload_n 1, 1, 0, 0, 0, 0), (6, 0, rx_h_icmp .ge, .if_icmp .ge 16, 3, 22, 0, 0, 0), (9, 0, rx_h_ld rx_isI 2 1, .iload_n 2, 1, 0, 0, 0, 0), (10, 0, rx_h_ld rx_isR 0 1, .aload_n 0, 1, 0, 0, 0, 0), (11, 4, rx_h_no, .invokevirtual 485, 3, 155, 44, 8, 81), (14, 0, rx_h_ar rx_f_add rx_g32, .iadd, 1, 0, 0, 0, 0), (15, 0, rx_h_sto rx_isI 2 1, .istore_n 2, 1, 0, 0, 0, 0)],
  [(16, 0, rx_h_inc 3, .iinc 3 1, 3, 1, 0, 0, 0), (19, 0, rx_h_goto, .goto (-15), 3, 4, 0, 0, 0), (22, 0, rx_h_ld rx_isI 2 1, .iload_n 2, 1, 0, 0, 0, 0), (23, 1, rx_h_no, .ireturn, 1, 0, 0, 0, 0)]], (yX11_goSteps, cX11_goSteps, (some .int)), ((8, 80), (8, 79), (0, 130), (1, 12)))
/-- TurnNetModel.startAnew()V -/
noncomputable def rxm_160 : rx_M := ((2, 5, 113, 0, 0, 0, 0, 0), [[(0, 0, rx_h_psh 1, .iconst 0, 1, 0, 0, 0, 0), (1, 0, rx_h_sto rx_isI 1 1, .istore_n 1, 1, 0, 0, 0, 0), (2, 0, rx_h_ld rx_isI 1 1, .iload_n 1, 1, 0, 0, 0, 0), (3, 0, rx_h_psh 2, .bipush 103, 2, 103, 0, 0, 0), (5, 0, rx_h_icmp .ge, .if_icmp .ge 16, 3, 21, 0, 0, 0), (8, 0, rx_h_ld rx_isR 0 1, .aload_n 0, 1, 0, 0, 0, 0), (9, 0, rx_h_gf, .getfield 7, 3, 11, 0, 6, 4), (12, 0, rx_h_ld rx_isI 1 1, .iload_n 1, 1, 0, 0, 0, 0), (13, 0, rx_h_psh 1, .iconst 0, 1, 0, 0, 0, 0), (14, 0, rx_h_iast, .iastore, 1, 0, 0, 0, 0), (15, 0, rx_h_inc 1, .iinc 1 1, 3, 1, 0, 0, 0)],
  [(18, 0, rx_h_goto, .goto (-16), 3, 2, 0, 0, 0), (21, 0, rx_h_psh 1, .iconst 0, 1, 0, 0, 0, 0), (22, 0, rx_h_sto rx_isI 1 1, .istore_n 1, 1, 0, 0, 0, 0), (23, 0, rx_h_ld rx_isI 1 1, .iload_n 1, 1, 0, 0, 0, 0), (24, 0, rx_h_psh 2, .bipush 20, 2, 20, 0, 0, 0), (26, 0, rx_h_icmp .ge, .if_icmp .ge 18, 3, 44, 0, 0, 0), (29, 0, rx_h_ld rx_isR 0 1, .aload_n 0, 1, 0, 0, 0, 0), (30, 0, rx_h_gf, .getfield 7, 3, 11, 0, 6, 4)],
  [(33, 0, rx_h_psh 1, .iconst 0, 1, 0, 0, 0, 0), (34, 0, rx_h_ld rx_isI 1 1, .iload_n 1, 1, 0, 0, 0, 0), (35, 0, rx_h_ar rx_f_add rx_g32, .iadd, 1, 0, 0, 0, 0), (36, 0, rx_h_psh 1, .iconst 1, 1, 1, 0, 0, 0), (37, 0, rx_h_iast, .iastore, 1, 0, 0, 0, 0), (38, 0, rx_h_inc 1, .iinc 1 1, 3, 1, 0, 0, 0), (41, 0, rx_h_goto, .goto (-18), 3, 23, 0, 0, 0), (44, 0, rx_h_ld rx_isR 0 1, .aload_n 0, 1, 0, 0, 0, 0), (45, 0, rx_h_gf, .getfield 7, 3, 11, 0, 6, 4)],
  [(48, 0, rx_h_psh 2, .bipush 40, 2, 40, 0, 0, 0), (50, 0, rx_h_ld rx_isR 0 1, .aload_n 0, 1, 0, 0, 0, 0), (51, 0, rx_h_gf, .getfield 19, 3, 11, 3, 6, 7), (54, 0, rx_h_ld rx_isR 0 1, .aload_n 0, 1, 0, 0, 0, 0), (55, 0, rx_h_gf, .getfield 255, 3, 11, 9, 6, 13), (58, 0, rx_h_ald (fun t => Nat.beq t 13), .iaload, 1, 0, 0, 0, 0), (59, 0, rx_h_iast, .iastore, 1, 0, 0, 0, 0), (60, 0, rx_h_ld rx_isR 0 1, .aload_n 0, 1, 0, 0, 0, 0), (61, 0, rx_h_ld rx_isR 0 1, .aload_n 0, 1, 0, 0, 0, 0), (62, 0, rx_h_gf, .getfield 19, 3, 11, 3, 6, 7)],
  [(65, 0, rx_h_ld rx_isR 0 1, .aload_n 0, 1, 0, 0, 0, 0), (66, 0, rx_h_gf, .getfield 255, 3, 11, 9, 6, 13), (69, 0, rx_h_ald (fun t => Nat.beq t 13), .iaload, 1, 0, 0, 0, 0), (70, 4, rx_h_no, .invokevirtual 270, 3, 158, 44, 5, 190), (73, 0, rx_h_psh 1, .iconst 0, 1, 0, 0, 0, 0), (74, 0, rx_h_sto rx_isI 1 1, .istore_n 1, 1, 0, 0, 0, 0), (75, 0, rx_h_ld rx_isI 1 1, .iload_n 1, 1, 0, 0, 0, 0), (76, 0, rx_h_ld rx_isR 0 1, .aload_n 0, 1, 0, 0, 0, 0), (77, 4, rx_h_no, .invokevirtual 267, 3, 38, 44, 5, 213)],
  [(80, 0, rx_h_icmp .ge, .if_icmp .ge 24, 3, 104, 0, 0, 0)],
  [(104, 0, rx_h_ld rx_isR 0 1, .aload_n 0, 1, 0, 0, 0, 0), (105, 0, rx_h_psh 1, .iconst 0, 1, 0, 0, 0, 0), (106, 0, rx_h_pf, .putfield 273, 3, 11, 56, 6, 60), (109, 0, rx_h_ld rx_isR 0 1, .aload_n 0, 1, 0, 0, 0, 0), (110, 0, rx_h_psh 1, .iconst 0, 1, 0, 0, 0, 0), (111, 0, rx_h_pf, .putfield 276, 3, 11, 57, 6, 61)],
  [(114, 0, rx_h_psh 1, .iconst 0, 1, 0, 0, 0, 0), (115, 0, rx_h_sto rx_isI 1 1, .istore_n 1, 1, 0, 0, 0, 0), (116, 0, rx_h_ld rx_isI 1 1, .iload_n 1, 1, 0, 0, 0, 0), (117, 0, rx_h_psh 1, .iconst 2, 1, 2, 0, 0, 0), (118, 0, rx_h_icmp .ge, .if_icmp .ge 16, 3, 134, 0, 0, 0), (121, 0, rx_h_ld rx_isR 0 1, .aload_n 0, 1, 0, 0, 0, 0), (122, 0, rx_h_gf, .getfield 107, 3, 11, 55, 6, 59), (125, 0, rx_h_ld rx_isI 1 1, .iload_n 1, 1, 0, 0, 0, 0), (126, 0, rx_h_psh 1, .iconst 0, 1, 0, 0, 0, 0), (127, 0, rx_h_bast, .bastore, 1, 0, 0, 0, 0)],
  [(128, 0, rx_h_inc 1, .iinc 1 1, 3, 1, 0, 0, 0), (131, 0, rx_h_goto, .goto (-15), 3, 116, 0, 0, 0), (134, 3, rx_h_no, .return_, 1, 0, 0, 0, 0)]], (yX11_startAnew, cX11_startAnew, none), ((5, 189), (5, 188), (0, 52), (1, 12)))
/-- TurnNetModel.stuck()I -/
noncomputable def rxm_161 : rx_M := ((3, 5, 110, 0, 0, 0, 1, 0), [[(0, 0, rx_h_ld rx_isR 0 1, .aload_n 0, 1, 0, 0, 0, 0), (1, 4, rx_h_no, .invokevirtual 401, 3, 39, 44, 7, 223), (4, 0, rx_h_ld rx_isR 0 1, .aload_n 0, 1, 0, 0, 0, 0), (5, 0, rx_h_psh 3, .sipush 200, 3, 200, 0, 0, 0), (8, 4, rx_h_no, .invokevirtual 453, 3, 159, 44, 8, 77), (11, 0, rx_h_if .ge, .ifCond .ge 7, 3, 18, 0, 0, 0)],
  [(18, 0, rx_h_psh 1, .iconst 0, 1, 0, 0, 0, 0), (19, 0, rx_h_sto rx_isI 1 1, .istore_n 1, 1, 0, 0, 0, 0), (20, 0, rx_h_psh 1, .iconst 0, 1, 0, 0, 0, 0), (21, 0, rx_h_sto rx_isI 2 1, .istore_n 2, 1, 0, 0, 0, 0), (22, 0, rx_h_ld rx_isI 2 1, .iload_n 2, 1, 0, 0, 0, 0), (23, 0, rx_h_psh 2, .bipush 12, 2, 12, 0, 0, 0), (25, 0, rx_h_icmp .ge, .if_icmp .ge 28, 3, 53, 0, 0, 0), (28, 0, rx_h_ld rx_isR 0 1, .aload_n 0, 1, 0, 0, 0, 0), (29, 0, rx_h_gf, .getfield 7, 3, 11, 0, 6, 4)],
  [(32, 0, rx_h_psh 2, .bipush 41, 2, 41, 0, 0, 0), (34, 0, rx_h_ld rx_isI 2 1, .iload_n 2, 1, 0, 0, 0, 0), (35, 0, rx_h_ar rx_f_add rx_g32, .iadd, 1, 0, 0, 0, 0), (36, 0, rx_h_ald (fun t => Nat.beq t 13), .iaload, 1, 0, 0, 0, 0), (37, 0, rx_h_psh 1, .iconst 1, 1, 1, 0, 0, 0), (38, 0, rx_h_icmp .ne, .if_icmp .ne 9, 3, 47, 0, 0, 0), (47, 0, rx_h_inc 2, .iinc 2 1, 3, 1, 0, 0, 0)],
  [(50, 0, rx_h_goto, .goto (-28), 3, 22, 0, 0, 0), (53, 0, rx_h_ld rx_isR 0 1, .aload_n 0, 1, 0, 0, 0, 0), (54, 4, rx_h_no, .invokevirtual 407, 3, 40, 44, 7, 231), (57, 0, rx_h_ld rx_isI 1 1, .iload_n 1, 1, 0, 0, 0, 0), (58, 1, rx_h_no, .ireturn, 1, 0, 0, 0, 0)]], (yX11_stuck, cX11_stuck, (some .int)), ((8, 168), (8, 166), (8, 167), (1, 12)))
/-- TurnNetModel.<init>()V -/
noncomputable def rxm_162 : rx_M := ((1, 6, 134, 31, 4585, 0, 0, 0), [[(0, 0, rx_h_ld rx_isR 0 1, .aload_n 0, 1, 0, 0, 0, 0), (1, 4, rx_h_no, .invokespecial 1, 3, 0, 1, 5, 181), (4, 0, rx_h_ld rx_isR 0 1, .aload_n 0, 1, 0, 0, 0, 0), (5, 0, rx_h_psh 2, .bipush 103, 2, 103, 0, 0, 0), (7, 0, rx_h_newa .int, .newarray .int, 2, 0, 0, 1, 106), (9, 0, rx_h_pf, .putfield 7, 3, 11, 0, 6, 4), (12, 0, rx_h_ld rx_isR 0 1, .aload_n 0, 1, 0, 0, 0, 0), (13, 0, rx_h_psh 1, .iconst 2, 1, 2, 0, 0, 0), (14, 0, rx_h_newa .int, .newarray .int, 2, 0, 0, 1, 106)],
  [(16, 0, rx_h_pf, .putfield 13, 3, 11, 1, 6, 5), (19, 0, rx_h_ld rx_isR 0 1, .aload_n 0, 1, 0, 0, 0, 0), (20, 0, rx_h_psh 1, .iconst 2, 1, 2, 0, 0, 0), (21, 0, rx_h_newa .int, .newarray .int, 2, 0, 0, 1, 106), (23, 0, rx_h_pf, .putfield 16, 3, 11, 2, 6, 6), (26, 0, rx_h_ld rx_isR 0 1, .aload_n 0, 1, 0, 0, 0, 0), (27, 0, rx_h_psh 1, .iconst 2, 1, 2, 0, 0, 0), (28, 0, rx_h_newa .int, .newarray .int, 2, 0, 0, 1, 106), (30, 0, rx_h_pf, .putfield 19, 3, 11, 3, 6, 7)],
  [(33, 0, rx_h_ld rx_isR 0 1, .aload_n 0, 1, 0, 0, 0, 0), (34, 0, rx_h_psh 1, .iconst 2, 1, 2, 0, 0, 0), (35, 0, rx_h_newa .int, .newarray .int, 2, 0, 0, 1, 106), (37, 0, rx_h_pf, .putfield 22, 3, 11, 4, 6, 8), (40, 0, rx_h_ld rx_isR 0 1, .aload_n 0, 1, 0, 0, 0, 0), (41, 0, rx_h_psh 1, .iconst 2, 1, 2, 0, 0, 0), (42, 0, rx_h_newa .int, .newarray .int, 2, 0, 0, 1, 106), (44, 0, rx_h_pf, .putfield 25, 3, 11, 5, 6, 9), (47, 0, rx_h_ld rx_isR 0 1, .aload_n 0, 1, 0, 0, 0, 0)],
  [(48, 0, rx_h_psh 1, .iconst 2, 1, 2, 0, 0, 0), (49, 0, rx_h_newa .int, .newarray .int, 2, 0, 0, 1, 106), (51, 0, rx_h_pf, .putfield 28, 3, 11, 6, 6, 10), (54, 0, rx_h_ld rx_isR 0 1, .aload_n 0, 1, 0, 0, 0, 0), (55, 0, rx_h_psh 2, .bipush 80, 2, 80, 0, 0, 0), (57, 0, rx_h_newa .int, .newarray .int, 2, 0, 0, 1, 106), (59, 0, rx_h_pf, .putfield 31, 3, 11, 7, 6, 11), (62, 0, rx_h_ld rx_isR 0 1, .aload_n 0, 1, 0, 0, 0, 0), (63, 0, rx_h_psh 3, .sipush 200, 3, 200, 0, 0, 0)],
  [(66, 0, rx_h_newa .int, .newarray .int, 2, 0, 0, 1, 106), (68, 0, rx_h_pf, .putfield 34, 3, 11, 8, 6, 12), (71, 0, rx_h_ld rx_isR 0 1, .aload_n 0, 1, 0, 0, 0, 0), (72, 0, rx_h_psh 3, .sipush 800, 3, 800, 0, 0, 0), (75, 0, rx_h_newa .byte, .newarray .byte, 2, 0, 0, 1, 156), (77, 0, rx_h_pf, .putfield 37, 3, 11, 10, 6, 14)],
  [(80, 0, rx_h_ld rx_isR 0 1, .aload_n 0, 1, 0, 0, 0, 0), (81, 0, rx_h_psh 1, .iconst (-1), 1, 4294967295, 0, 0, 0), (82, 0, rx_h_pf, .putfield 41, 3, 11, 21, 6, 25), (85, 0, rx_h_ld rx_isR 0 1, .aload_n 0, 1, 0, 0, 0, 0), (86, 0, rx_h_psh 2, .bipush 46, 2, 46, 0, 0, 0), (88, 0, rx_h_newa .byte, .newarray .byte, 2, 0, 0, 1, 156), (90, 0, rx_h_dup, .dup, 1, 0, 0, 0, 0), (91, 0, rx_h_psh 1, .iconst 0, 1, 0, 0, 0, 0), (92, 0, rx_h_psh 2, .bipush 115, 2, 115, 0, 0, 0), (94, 0, rx_h_bast, .bastore, 1, 0, 0, 0, 0), (95, 0, rx_h_dup, .dup, 1, 0, 0, 0, 0)],
  [(96, 0, rx_h_psh 1, .iconst 1, 1, 1, 0, 0, 0), (97, 0, rx_h_psh 2, .bipush 119, 2, 119, 0, 0, 0), (99, 0, rx_h_bast, .bastore, 1, 0, 0, 0, 0), (100, 0, rx_h_dup, .dup, 1, 0, 0, 0, 0), (101, 0, rx_h_psh 1, .iconst 2, 1, 2, 0, 0, 0), (102, 0, rx_h_psh 2, .bipush 105, 2, 105, 0, 0, 0), (104, 0, rx_h_bast, .bastore, 1, 0, 0, 0, 0), (105, 0, rx_h_dup, .dup, 1, 0, 0, 0, 0), (106, 0, rx_h_psh 1, .iconst 3, 1, 3, 0, 0, 0), (107, 0, rx_h_psh 2, .bipush 116, 2, 116, 0, 0, 0), (109, 0, rx_h_bast, .bastore, 1, 0, 0, 0, 0), (110, 0, rx_h_dup, .dup, 1, 0, 0, 0, 0), (111, 0, rx_h_psh 1, .iconst 4, 1, 4, 0, 0, 0)],
  [(112, 0, rx_h_psh 2, .bipush 99, 2, 99, 0, 0, 0), (114, 0, rx_h_bast, .bastore, 1, 0, 0, 0, 0), (115, 0, rx_h_dup, .dup, 1, 0, 0, 0, 0), (116, 0, rx_h_psh 1, .iconst 5, 1, 5, 0, 0, 0), (117, 0, rx_h_psh 2, .bipush 104, 2, 104, 0, 0, 0), (119, 0, rx_h_bast, .bastore, 1, 0, 0, 0, 0), (120, 0, rx_h_dup, .dup, 1, 0, 0, 0, 0), (121, 0, rx_h_psh 2, .bipush 6, 2, 6, 0, 0, 0), (123, 0, rx_h_psh 2, .bipush 101, 2, 101, 0, 0, 0), (125, 0, rx_h_bast, .bastore, 1, 0, 0, 0, 0), (126, 0, rx_h_dup, .dup, 1, 0, 0, 0, 0), (127, 0, rx_h_psh 2, .bipush 7, 2, 7, 0, 0, 0)],
  [(129, 0, rx_h_psh 2, .bipush 115, 2, 115, 0, 0, 0), (131, 0, rx_h_bast, .bastore, 1, 0, 0, 0, 0), (132, 0, rx_h_dup, .dup, 1, 0, 0, 0, 0), (133, 0, rx_h_psh 2, .bipush 8, 2, 8, 0, 0, 0), (135, 0, rx_h_psh 2, .bipush 32, 2, 32, 0, 0, 0), (137, 0, rx_h_bast, .bastore, 1, 0, 0, 0, 0), (138, 0, rx_h_dup, .dup, 1, 0, 0, 0, 0), (139, 0, rx_h_psh 2, .bipush 9, 2, 9, 0, 0, 0), (141, 0, rx_h_psh 2, .bipush 108, 2, 108, 0, 0, 0), (143, 0, rx_h_bast, .bastore, 1, 0, 0, 0, 0)],
  [(144, 0, rx_h_dup, .dup, 1, 0, 0, 0, 0), (145, 0, rx_h_psh 2, .bipush 10, 2, 10, 0, 0, 0), (147, 0, rx_h_psh 2, .bipush 105, 2, 105, 0, 0, 0), (149, 0, rx_h_bast, .bastore, 1, 0, 0, 0, 0), (150, 0, rx_h_dup, .dup, 1, 0, 0, 0, 0), (151, 0, rx_h_psh 2, .bipush 11, 2, 11, 0, 0, 0), (153, 0, rx_h_psh 2, .bipush 110, 2, 110, 0, 0, 0), (155, 0, rx_h_bast, .bastore, 1, 0, 0, 0, 0), (156, 0, rx_h_dup, .dup, 1, 0, 0, 0, 0), (157, 0, rx_h_psh 2, .bipush 12, 2, 12, 0, 0, 0), (159, 0, rx_h_psh 2, .bipush 107, 2, 107, 0, 0, 0)],
  [(161, 0, rx_h_bast, .bastore, 1, 0, 0, 0, 0), (162, 0, rx_h_dup, .dup, 1, 0, 0, 0, 0), (163, 0, rx_h_psh 2, .bipush 13, 2, 13, 0, 0, 0), (165, 0, rx_h_psh 2, .bipush 32, 2, 32, 0, 0, 0), (167, 0, rx_h_bast, .bastore, 1, 0, 0, 0, 0), (168, 0, rx_h_dup, .dup, 1, 0, 0, 0, 0), (169, 0, rx_h_psh 2, .bipush 14, 2, 14, 0, 0, 0), (171, 0, rx_h_psh 2, .bipush 114, 2, 114, 0, 0, 0), (173, 0, rx_h_bast, .bastore, 1, 0, 0, 0, 0), (174, 0, rx_h_dup, .dup, 1, 0, 0, 0, 0), (175, 0, rx_h_psh 2, .bipush 15, 2, 15, 0, 0, 0)],
  [(177, 0, rx_h_psh 2, .bipush 111, 2, 111, 0, 0, 0), (179, 0, rx_h_bast, .bastore, 1, 0, 0, 0, 0), (180, 0, rx_h_dup, .dup, 1, 0, 0, 0, 0), (181, 0, rx_h_psh 2, .bipush 16, 2, 16, 0, 0, 0), (183, 0, rx_h_psh 2, .bipush 111, 2, 111, 0, 0, 0), (185, 0, rx_h_bast, .bastore, 1, 0, 0, 0, 0), (186, 0, rx_h_dup, .dup, 1, 0, 0, 0, 0), (187, 0, rx_h_psh 2, .bipush 17, 2, 17, 0, 0, 0), (189, 0, rx_h_psh 2, .bipush 116, 2, 116, 0, 0, 0), (191, 0, rx_h_bast, .bastore, 1, 0, 0, 0, 0)],
  [(192, 0, rx_h_dup, .dup, 1, 0, 0, 0, 0), (193, 0, rx_h_psh 2, .bipush 18, 2, 18, 0, 0, 0), (195, 0, rx_h_psh 2, .bipush 32, 2, 32, 0, 0, 0), (197, 0, rx_h_bast, .bastore, 1, 0, 0, 0, 0), (198, 0, rx_h_dup, .dup, 1, 0, 0, 0, 0), (199, 0, rx_h_psh 2, .bipush 19, 2, 19, 0, 0, 0), (201, 0, rx_h_psh 2, .bipush 114, 2, 114, 0, 0, 0), (203, 0, rx_h_bast, .bastore, 1, 0, 0, 0, 0), (204, 0, rx_h_dup, .dup, 1, 0, 0, 0, 0), (205, 0, rx_h_psh 2, .bipush 20, 2, 20, 0, 0, 0), (207, 0, rx_h_psh 2, .bipush 97, 2, 97, 0, 0, 0)],
  [(209, 0, rx_h_bast, .bastore, 1, 0, 0, 0, 0), (210, 0, rx_h_dup, .dup, 1, 0, 0, 0, 0), (211, 0, rx_h_psh 2, .bipush 21, 2, 21, 0, 0, 0), (213, 0, rx_h_psh 2, .bipush 110, 2, 110, 0, 0, 0), (215, 0, rx_h_bast, .bastore, 1, 0, 0, 0, 0), (216, 0, rx_h_dup, .dup, 1, 0, 0, 0, 0), (217, 0, rx_h_psh 2, .bipush 22, 2, 22, 0, 0, 0), (219, 0, rx_h_psh 2, .bipush 107, 2, 107, 0, 0, 0), (221, 0, rx_h_bast, .bastore, 1, 0, 0, 0, 0), (222, 0, rx_h_dup, .dup, 1, 0, 0, 0, 0), (223, 0, rx_h_psh 2, .bipush 23, 2, 23, 0, 0, 0)],
  [(225, 0, rx_h_psh 2, .bipush 32, 2, 32, 0, 0, 0), (227, 0, rx_h_bast, .bastore, 1, 0, 0, 0, 0), (228, 0, rx_h_dup, .dup, 1, 0, 0, 0, 0), (229, 0, rx_h_psh 2, .bipush 24, 2, 24, 0, 0, 0), (231, 0, rx_h_psh 2, .bipush 114, 2, 114, 0, 0, 0), (233, 0, rx_h_bast, .bastore, 1, 0, 0, 0, 0), (234, 0, rx_h_dup, .dup, 1, 0, 0, 0, 0), (235, 0, rx_h_psh 2, .bipush 25, 2, 25, 0, 0, 0), (237, 0, rx_h_psh 2, .bipush 111, 2, 111, 0, 0, 0), (239, 0, rx_h_bast, .bastore, 1, 0, 0, 0, 0)],
  [(240, 0, rx_h_dup, .dup, 1, 0, 0, 0, 0), (241, 0, rx_h_psh 2, .bipush 26, 2, 26, 0, 0, 0), (243, 0, rx_h_psh 2, .bipush 111, 2, 111, 0, 0, 0), (245, 0, rx_h_bast, .bastore, 1, 0, 0, 0, 0), (246, 0, rx_h_dup, .dup, 1, 0, 0, 0, 0), (247, 0, rx_h_psh 2, .bipush 27, 2, 27, 0, 0, 0), (249, 0, rx_h_psh 2, .bipush 109, 2, 109, 0, 0, 0), (251, 0, rx_h_bast, .bastore, 1, 0, 0, 0, 0), (252, 0, rx_h_dup, .dup, 1, 0, 0, 0, 0), (253, 0, rx_h_psh 2, .bipush 28, 2, 28, 0, 0, 0), (255, 0, rx_h_psh 2, .bipush 32, 2, 32, 0, 0, 0)],
  [(257, 0, rx_h_bast, .bastore, 1, 0, 0, 0, 0), (258, 0, rx_h_dup, .dup, 1, 0, 0, 0, 0), (259, 0, rx_h_psh 2, .bipush 29, 2, 29, 0, 0, 0), (261, 0, rx_h_psh 2, .bipush 102, 2, 102, 0, 0, 0), (263, 0, rx_h_bast, .bastore, 1, 0, 0, 0, 0), (264, 0, rx_h_dup, .dup, 1, 0, 0, 0, 0), (265, 0, rx_h_psh 2, .bipush 30, 2, 30, 0, 0, 0), (267, 0, rx_h_psh 2, .bipush 97, 2, 97, 0, 0, 0), (269, 0, rx_h_bast, .bastore, 1, 0, 0, 0, 0), (270, 0, rx_h_dup, .dup, 1, 0, 0, 0, 0), (271, 0, rx_h_psh 2, .bipush 31, 2, 31, 0, 0, 0)],
  [(273, 0, rx_h_psh 2, .bipush 114, 2, 114, 0, 0, 0), (275, 0, rx_h_bast, .bastore, 1, 0, 0, 0, 0), (276, 0, rx_h_dup, .dup, 1, 0, 0, 0, 0), (277, 0, rx_h_psh 2, .bipush 32, 2, 32, 0, 0, 0), (279, 0, rx_h_psh 2, .bipush 32, 2, 32, 0, 0, 0), (281, 0, rx_h_bast, .bastore, 1, 0, 0, 0, 0), (282, 0, rx_h_dup, .dup, 1, 0, 0, 0, 0), (283, 0, rx_h_psh 2, .bipush 33, 2, 33, 0, 0, 0), (285, 0, rx_h_psh 2, .bipush 110, 2, 110, 0, 0, 0), (287, 0, rx_h_bast, .bastore, 1, 0, 0, 0, 0)],
  [(288, 0, rx_h_dup, .dup, 1, 0, 0, 0, 0), (289, 0, rx_h_psh 2, .bipush 34, 2, 34, 0, 0, 0), (291, 0, rx_h_psh 2, .bipush 117, 2, 117, 0, 0, 0), (293, 0, rx_h_bast, .bastore, 1, 0, 0, 0, 0), (294, 0, rx_h_dup, .dup, 1, 0, 0, 0, 0), (295, 0, rx_h_psh 2, .bipush 35, 2, 35, 0, 0, 0), (297, 0, rx_h_psh 2, .bipush 109, 2, 109, 0, 0, 0), (299, 0, rx_h_bast, .bastore, 1, 0, 0, 0, 0), (300, 0, rx_h_dup, .dup, 1, 0, 0, 0, 0), (301, 0, rx_h_psh 2, .bipush 36, 2, 36, 0, 0, 0), (303, 0, rx_h_psh 2, .bipush 98, 2, 98, 0, 0, 0)],
  [(305, 0, rx_h_bast, .bastore, 1, 0, 0, 0, 0), (306, 0, rx_h_dup, .dup, 1, 0, 0, 0, 0), (307, 0, rx_h_psh 2, .bipush 37, 2, 37, 0, 0, 0), (309, 0, rx_h_psh 2, .bipush 101, 2, 101, 0, 0, 0), (311, 0, rx_h_bast, .bastore, 1, 0, 0, 0, 0), (312, 0, rx_h_dup, .dup, 1, 0, 0, 0, 0), (313, 0, rx_h_psh 2, .bipush 38, 2, 38, 0, 0, 0), (315, 0, rx_h_psh 2, .bipush 114, 2, 114, 0, 0, 0), (317, 0, rx_h_bast, .bastore, 1, 0, 0, 0, 0), (318, 0, rx_h_dup, .dup, 1, 0, 0, 0, 0), (319, 0, rx_h_psh 2, .bipush 39, 2, 39, 0, 0, 0)],
  [(321, 0, rx_h_psh 2, .bipush 32, 2, 32, 0, 0, 0), (323, 0, rx_h_bast, .bastore, 1, 0, 0, 0, 0), (324, 0, rx_h_dup, .dup, 1, 0, 0, 0, 0), (325, 0, rx_h_psh 2, .bipush 40, 2, 40, 0, 0, 0), (327, 0, rx_h_psh 2, .bipush 108, 2, 108, 0, 0, 0), (329, 0, rx_h_bast, .bastore, 1, 0, 0, 0, 0), (330, 0, rx_h_dup, .dup, 1, 0, 0, 0, 0), (331, 0, rx_h_psh 2, .bipush 41, 2, 41, 0, 0, 0), (333, 0, rx_h_psh 2, .bipush 105, 2, 105, 0, 0, 0), (335, 0, rx_h_bast, .bastore, 1, 0, 0, 0, 0)],
  [(336, 0, rx_h_dup, .dup, 1, 0, 0, 0, 0), (337, 0, rx_h_psh 2, .bipush 42, 2, 42, 0, 0, 0), (339, 0, rx_h_psh 2, .bipush 110, 2, 110, 0, 0, 0), (341, 0, rx_h_bast, .bastore, 1, 0, 0, 0, 0), (342, 0, rx_h_dup, .dup, 1, 0, 0, 0, 0), (343, 0, rx_h_psh 2, .bipush 43, 2, 43, 0, 0, 0), (345, 0, rx_h_psh 2, .bipush 107, 2, 107, 0, 0, 0), (347, 0, rx_h_bast, .bastore, 1, 0, 0, 0, 0), (348, 0, rx_h_dup, .dup, 1, 0, 0, 0, 0), (349, 0, rx_h_psh 2, .bipush 44, 2, 44, 0, 0, 0), (351, 0, rx_h_psh 2, .bipush 115, 2, 115, 0, 0, 0)],
  [(353, 0, rx_h_bast, .bastore, 1, 0, 0, 0, 0), (354, 0, rx_h_dup, .dup, 1, 0, 0, 0, 0), (355, 0, rx_h_psh 2, .bipush 45, 2, 45, 0, 0, 0), (357, 0, rx_h_psh 2, .bipush 32, 2, 32, 0, 0, 0), (359, 0, rx_h_bast, .bastore, 1, 0, 0, 0, 0), (360, 0, rx_h_pf, .putfield 45, 3, 11, 22, 6, 26), (363, 0, rx_h_ld rx_isR 0 1, .aload_n 0, 1, 0, 0, 0, 0), (364, 0, rx_h_psh 2, .bipush 100, 2, 100, 0, 0, 0), (366, 0, rx_h_newa .int, .newarray .int, 2, 0, 0, 1, 106)],
  [(368, 0, rx_h_pf, .putfield 48, 3, 11, 26, 6, 30), (371, 0, rx_h_ld rx_isR 0 1, .aload_n 0, 1, 0, 0, 0, 0), (372, 0, rx_h_psh 2, .bipush 10, 2, 10, 0, 0, 0), (374, 0, rx_h_newa .int, .newarray .int, 2, 0, 0, 1, 106), (376, 0, rx_h_pf, .putfield 51, 3, 11, 29, 6, 33), (379, 0, rx_h_ld rx_isR 0 1, .aload_n 0, 1, 0, 0, 0, 0), (380, 0, rx_h_psh 2, .bipush 10, 2, 10, 0, 0, 0), (382, 0, rx_h_newa .int, .newarray .int, 2, 0, 0, 1, 106)],
  [(384, 0, rx_h_pf, .putfield 54, 3, 11, 30, 6, 34), (387, 0, rx_h_ld rx_isR 0 1, .aload_n 0, 1, 0, 0, 0, 0), (388, 0, rx_h_psh 2, .bipush 20, 2, 20, 0, 0, 0), (390, 0, rx_h_newa .int, .newarray .int, 2, 0, 0, 1, 106), (392, 0, rx_h_pf, .putfield 57, 3, 11, 31, 6, 35), (395, 0, rx_h_ld rx_isR 0 1, .aload_n 0, 1, 0, 0, 0, 0), (396, 0, rx_h_psh 2, .bipush 100, 2, 100, 0, 0, 0), (398, 0, rx_h_newa .int, .newarray .int, 2, 0, 0, 1, 106)],
  [(400, 0, rx_h_pf, .putfield 60, 3, 11, 32, 6, 36), (403, 0, rx_h_ld rx_isR 0 1, .aload_n 0, 1, 0, 0, 0, 0), (404, 0, rx_h_psh 2, .bipush 40, 2, 40, 0, 0, 0), (406, 0, rx_h_newa .long, .newarray .long, 2, 0, 0, 1, 226), (408, 0, rx_h_pf, .putfield 63, 3, 11, 33, 6, 37), (411, 0, rx_h_ld rx_isR 0 1, .aload_n 0, 1, 0, 0, 0, 0), (412, 0, rx_h_psh 3, .sipush 200, 3, 200, 0, 0, 0), (415, 0, rx_h_newa .int, .newarray .int, 2, 0, 0, 1, 106)],
  [(417, 0, rx_h_pf, .putfield 67, 3, 11, 34, 6, 38), (420, 0, rx_h_ld rx_isR 0 1, .aload_n 0, 1, 0, 0, 0, 0), (421, 0, rx_h_psh 2, .bipush 20, 2, 20, 0, 0, 0), (423, 0, rx_h_newa .long, .newarray .long, 2, 0, 0, 1, 226), (425, 0, rx_h_pf, .putfield 70, 3, 11, 35, 6, 39), (428, 0, rx_h_ld rx_isR 0 1, .aload_n 0, 1, 0, 0, 0, 0), (429, 0, rx_h_psh 2, .bipush 20, 2, 20, 0, 0, 0), (431, 0, rx_h_newa .long, .newarray .long, 2, 0, 0, 1, 226)],
  [(433, 0, rx_h_pf, .putfield 73, 3, 11, 36, 6, 40), (436, 0, rx_h_ld rx_isR 0 1, .aload_n 0, 1, 0, 0, 0, 0), (437, 0, rx_h_psh 3, .sipush 200, 3, 200, 0, 0, 0), (440, 0, rx_h_newa .int, .newarray .int, 2, 0, 0, 1, 106), (442, 0, rx_h_pf, .putfield 76, 3, 11, 37, 6, 41), (445, 0, rx_h_ld rx_isR 0 1, .aload_n 0, 1, 0, 0, 0, 0), (446, 0, rx_h_psh 2, .bipush 40, 2, 40, 0, 0, 0)],
  [(448, 0, rx_h_newa .int, .newarray .int, 2, 0, 0, 1, 106), (450, 0, rx_h_pf, .putfield 79, 3, 11, 38, 6, 42), (453, 0, rx_h_ld rx_isR 0 1, .aload_n 0, 1, 0, 0, 0, 0), (454, 0, rx_h_psh 2, .bipush 40, 2, 40, 0, 0, 0), (456, 0, rx_h_newa .int, .newarray .int, 2, 0, 0, 1, 106), (458, 0, rx_h_pf, .putfield 82, 3, 11, 39, 6, 43), (461, 0, rx_h_ld rx_isR 0 1, .aload_n 0, 1, 0, 0, 0, 0), (462, 0, rx_h_psh 2, .bipush 103, 2, 103, 0, 0, 0)],
  [(464, 0, rx_h_newa .int, .newarray .int, 2, 0, 0, 1, 106), (466, 0, rx_h_pf, .putfield 85, 3, 11, 44, 6, 48), (469, 0, rx_h_ld rx_isR 0 1, .aload_n 0, 1, 0, 0, 0, 0), (470, 0, rx_h_psh 2, .bipush 20, 2, 20, 0, 0, 0), (472, 0, rx_h_newa .int, .newarray .int, 2, 0, 0, 1, 106), (474, 0, rx_h_pf, .putfield 88, 3, 11, 45, 6, 49), (477, 0, rx_h_ld rx_isR 0 1, .aload_n 0, 1, 0, 0, 0, 0), (478, 0, rx_h_psh 2, .bipush 10, 2, 10, 0, 0, 0)],
  [(480, 0, rx_h_newa .int, .newarray .int, 2, 0, 0, 1, 106), (482, 0, rx_h_pf, .putfield 91, 3, 11, 46, 6, 50), (485, 0, rx_h_ld rx_isR 0 1, .aload_n 0, 1, 0, 0, 0, 0), (486, 0, rx_h_psh 2, .bipush 20, 2, 20, 0, 0, 0), (488, 0, rx_h_newa .boolean, .newarray .boolean, 2, 0, 0, 2, 184), (490, 0, rx_h_pf, .putfield 94, 3, 11, 47, 6, 51), (493, 0, rx_h_ld rx_isR 0 1, .aload_n 0, 1, 0, 0, 0, 0), (494, 0, rx_h_psh 2, .bipush 20, 2, 20, 0, 0, 0)],
  [(496, 0, rx_h_newa .int, .newarray .int, 2, 0, 0, 1, 106), (498, 0, rx_h_pf, .putfield 98, 3, 11, 48, 6, 52), (501, 0, rx_h_ld rx_isR 0 1, .aload_n 0, 1, 0, 0, 0, 0), (502, 0, rx_h_psh 3, .sipush 2163, 3, 2163, 0, 0, 0), (505, 0, rx_h_newa .int, .newarray .int, 2, 0, 0, 1, 106), (507, 0, rx_h_pf, .putfield 101, 3, 11, 53, 6, 57), (510, 0, rx_h_ld rx_isR 0 1, .aload_n 0, 1, 0, 0, 0, 0), (511, 0, rx_h_psh 3, .sipush 206, 3, 206, 0, 0, 0)],
  [(514, 0, rx_h_newa .int, .newarray .int, 2, 0, 0, 1, 106), (516, 0, rx_h_pf, .putfield 104, 3, 11, 54, 6, 58), (519, 0, rx_h_ld rx_isR 0 1, .aload_n 0, 1, 0, 0, 0, 0), (520, 0, rx_h_psh 1, .iconst 2, 1, 2, 0, 0, 0), (521, 0, rx_h_newa .boolean, .newarray .boolean, 2, 0, 0, 2, 184), (523, 0, rx_h_pf, .putfield 107, 3, 11, 55, 6, 59), (526, 0, rx_h_ld rx_isR 0 1, .aload_n 0, 1, 0, 0, 0, 0), (527, 0, rx_h_psh 1, .iconst 0, 1, 0, 0, 0, 0)],
  [(528, 4, rx_h_no, .invokevirtual 110, 3, 35, 44, 5, 182), (531, 0, rx_h_ld rx_isR 0 1, .aload_n 0, 1, 0, 0, 0, 0), (532, 4, rx_h_no, .invokevirtual 114, 3, 160, 44, 5, 186), (535, 3, rx_h_no, .return_, 1, 0, 0, 0, 0)]], (yX11_init, cX11_init, none), ((5, 180), (5, 179), (0, 0), (1, 12)))
/-- TurnNetModel.net()I -/
noncomputable def rxm_163 : rx_M := ((2, 6, 134, 0, 0, 0, 1, 0), [[(0, 0, rx_h_psh 1, .iconst 1, 1, 1, 0, 0, 0), (1, 0, rx_h_ld rx_isR 0 1, .aload_n 0, 1, 0, 0, 0, 0), (2, 0, rx_h_gf, .getfield 255, 3, 11, 9, 6, 13), (5, 0, rx_h_ar rx_f_sub rx_g32, .isub, 1, 0, 0, 0, 0), (6, 0, rx_h_sto rx_isI 1 1, .istore_n 1, 1, 0, 0, 0, 0), (7, 0, rx_h_ld rx_isR 0 1, .aload_n 0, 1, 0, 0, 0, 0), (8, 0, rx_h_ld rx_isR 0 1, .aload_n 0, 1, 0, 0, 0, 0), (9, 0, rx_h_gf, .getfield 117, 3, 11, 11, 6, 15), (12, 0, rx_h_pf, .putfield 120, 3, 11, 12, 6, 16), (15, 0, rx_h_ld rx_isR 0 1, .aload_n 0, 1, 0, 0, 0, 0)],
  [(16, 0, rx_h_psh 1, .iconst 0, 1, 0, 0, 0, 0), (17, 0, rx_h_pf, .putfield 117, 3, 11, 11, 6, 15), (20, 0, rx_h_ld rx_isR 0 1, .aload_n 0, 1, 0, 0, 0, 0), (21, 0, rx_h_psh 1, .iconst 0, 1, 0, 0, 0, 0), (22, 0, rx_h_pf, .putfield 123, 3, 11, 13, 6, 17), (25, 0, rx_h_ld rx_isR 0 1, .aload_n 0, 1, 0, 0, 0, 0), (26, 0, rx_h_psh 1, .iconst 0, 1, 0, 0, 0, 0), (27, 0, rx_h_pf, .putfield 165, 3, 11, 18, 6, 22), (30, 0, rx_h_ld rx_isR 0 1, .aload_n 0, 1, 0, 0, 0, 0), (31, 0, rx_h_psh 1, .iconst (-1), 1, 4294967295, 0, 0, 0)],
  [(32, 0, rx_h_pf, .putfield 168, 3, 11, 19, 6, 23), (35, 0, rx_h_ld rx_isR 0 1, .aload_n 0, 1, 0, 0, 0, 0), (36, 0, rx_h_psh 1, .iconst 0, 1, 0, 0, 0, 0), (37, 0, rx_h_pf, .putfield 200, 3, 11, 23, 6, 27), (40, 0, rx_h_ld rx_isR 0 1, .aload_n 0, 1, 0, 0, 0, 0), (41, 0, rx_h_psh 1, .iconst 0, 1, 0, 0, 0, 0), (42, 0, rx_h_pf, .putfield 207, 3, 11, 24, 6, 28), (45, 0, rx_h_ld rx_isR 0 1, .aload_n 0, 1, 0, 0, 0, 0), (46, 0, rx_h_psh 1, .iconst 0, 1, 0, 0, 0, 0), (47, 0, rx_h_pf, .putfield 204, 3, 11, 25, 6, 29)],
  [(50, 0, rx_h_ld rx_isR 0 1, .aload_n 0, 1, 0, 0, 0, 0), (51, 0, rx_h_ld rx_isI 1 1, .iload_n 1, 1, 0, 0, 0, 0), (52, 4, rx_h_no, .invokevirtual 110, 3, 35, 44, 5, 182), (55, 0, rx_h_ld rx_isR 0 1, .aload_n 0, 1, 0, 0, 0, 0), (56, 0, rx_h_ld rx_isI 1 1, .iload_n 1, 1, 0, 0, 0, 0), (57, 4, rx_h_no, .invokevirtual 258, 3, 115, 44, 6, 191), (60, 0, rx_h_ld rx_isR 0 1, .aload_n 0, 1, 0, 0, 0, 0), (61, 0, rx_h_ld rx_isR 0 1, .aload_n 0, 1, 0, 0, 0, 0), (62, 0, rx_h_gf, .getfield 165, 3, 11, 18, 6, 22)],
  [(65, 0, rx_h_pf, .putfield 261, 3, 11, 20, 6, 24), (68, 0, rx_h_ld rx_isR 0 1, .aload_n 0, 1, 0, 0, 0, 0), (69, 0, rx_h_ld rx_isR 0 1, .aload_n 0, 1, 0, 0, 0, 0), (70, 0, rx_h_gf, .getfield 168, 3, 11, 19, 6, 23), (73, 0, rx_h_pf, .putfield 41, 3, 11, 21, 6, 25), (76, 0, rx_h_ld rx_isR 0 1, .aload_n 0, 1, 0, 0, 0, 0), (77, 0, rx_h_gf, .getfield 261, 3, 11, 20, 6, 24)],
  [(80, 0, rx_h_if .le, .ifCond .le 5, 3, 85, 0, 0, 0), (85, 0, rx_h_ld rx_isR 0 1, .aload_n 0, 1, 0, 0, 0, 0), (86, 0, rx_h_ld rx_isI 1 1, .iload_n 1, 1, 0, 0, 0, 0), (87, 0, rx_h_pf, .putfield 255, 3, 11, 9, 6, 13), (90, 0, rx_h_ld rx_isR 0 1, .aload_n 0, 1, 0, 0, 0, 0), (91, 4, rx_h_no, .invokevirtual 114, 3, 160, 44, 5, 186), (94, 0, rx_h_ld rx_isR 0 1, .aload_n 0, 1, 0, 0, 0, 0), (95, 4, rx_h_no, .invokevirtual 264, 3, 37, 44, 5, 206)],
  [(98, 1, rx_h_no, .ireturn, 1, 0, 0, 0, 0)]], (yX11_net, cX11_net, (some .int)), ((6, 190), (6, 188), (6, 189), (1, 12)))
noncomputable def rxL_0 : List rx_E := [(0, 0, rx_h_new, .new 7, 3, 10, 0, 1, 20), (3, 0, rx_h_dup, .dup, 1, 0, 0, 0, 0), (4, 4, rx_h_no, .invokespecial 9, 3, 145, 40, 1, 22), (7, 0, rx_h_sto rx_isR 1 1, .astore_n 1, 1, 0, 0, 0, 0), (8, 0, rx_h_new, .new 10, 3, 11, 0, 5, 176), (11, 0, rx_h_dup, .dup, 1, 0, 0, 0, 0), (12, 4, rx_h_no, .invokespecial 12, 3, 162, 44, 5, 178), (15, 0, rx_h_sto rx_isR 2 1, .astore_n 2, 1, 0, 0, 0, 0)]
noncomputable def rxL_1 : List rx_E := [(16, 0, rx_h_psh 1, .iconst 0, 1, 0, 0, 0, 0), (17, 0, rx_h_sto rx_isI 3 1, .istore_n 3, 1, 0, 0, 0, 0), (18, 0, rx_h_ld rx_isI 3 1, .iload_n 3, 1, 0, 0, 0, 0), (19, 0, rx_h_ld rx_isR 0 1, .aload_n 0, 1, 0, 0, 0, 0), (20, 0, rx_h_alen, .arraylength, 1, 0, 0, 0, 0), (21, 0, rx_h_psh 2, .bipush 6, 2, 6, 0, 0, 0), (23, 0, rx_h_ar rx_f_sub rx_g32, .isub, 1, 0, 0, 0, 0), (24, 0, rx_h_icmp .gt, .if_icmp .gt 1393, 3, 1417, 0, 0, 0), (27, 0, rx_h_ld rx_isR 0 1, .aload_n 0, 1, 0, 0, 0, 0), (28, 0, rx_h_ld rx_isI 3 1, .iload_n 3, 1, 0, 0, 0, 0), (29, 0, rx_h_ald (fun t => Nat.beq t 13), .iaload, 1, 0, 0, 0, 0), (30, 0, rx_h_psh 2, .bipush 63, 2, 63, 0, 0, 0)]
noncomputable def rxL_2 : List rx_E := [(32, 0, rx_h_ar rx_f_and rx_gand, .iand, 1, 0, 0, 0, 0), (33, 0, rx_h_tsw 0 42 #[187, 250, 273, 286, 309, 332, 355, 378, 401, 434, 467, 490, 503, 516, 549, 582, 615, 648, 682, 726, 769, 812, 835, 858, 881, 914, 927, 950, 983, 1016, 1049, 1072, 1105, 1118, 1151, 1194, 1207, 1250, 1283, 1296, 1309, 1332, 1355], .tableswitch 1378 0 42 #[187, 250, 273, 286, 309, 332, 355, 378, 401, 434, 467, 490, 503, 516, 549, 582, 615, 648, 682, 726, 769, 812, 835, 858, 881, 914, 927, 950, 983, 1016, 1049, 1072, 1105, 1118, 1151, 1194, 1207, 1250, 1283, 1296, 1309, 1332, 1355], 187, 1411, 0, 0, 0)]
noncomputable def rxL_3 : List rx_E := []
noncomputable def rxL_4 : List rx_E := []
noncomputable def rxL_5 : List rx_E := []
noncomputable def rxL_6 : List rx_E := []
noncomputable def rxL_7 : List rx_E := []
noncomputable def rxL_8 : List rx_E := []
noncomputable def rxL_9 : List rx_E := []
noncomputable def rxL_10 : List rx_E := []
noncomputable def rxL_11 : List rx_E := []
noncomputable def rxL_12 : List rx_E := []
noncomputable def rxL_13 : List rx_E := [(220, 0, rx_h_ld rx_isR 1 1, .aload_n 1, 1, 0, 0, 0, 0), (221, 0, rx_h_ld rx_isR 0 1, .aload_n 0, 1, 0, 0, 0, 0), (222, 0, rx_h_ld rx_isI 3 1, .iload_n 3, 1, 0, 0, 0, 0), (223, 0, rx_h_psh 1, .iconst 1, 1, 1, 0, 0, 0)]
noncomputable def rxL_14 : List rx_E := [(224, 0, rx_h_ar rx_f_add rx_g32, .iadd, 1, 0, 0, 0, 0), (225, 0, rx_h_ald (fun t => Nat.beq t 13), .iaload, 1, 0, 0, 0, 0), (226, 0, rx_h_ld rx_isR 0 1, .aload_n 0, 1, 0, 0, 0, 0), (227, 0, rx_h_ld rx_isI 3 1, .iload_n 3, 1, 0, 0, 0, 0), (228, 0, rx_h_psh 1, .iconst 2, 1, 2, 0, 0, 0), (229, 0, rx_h_ar rx_f_add rx_g32, .iadd, 1, 0, 0, 0, 0), (230, 0, rx_h_ald (fun t => Nat.beq t 13), .iaload, 1, 0, 0, 0, 0), (231, 0, rx_h_ld rx_isR 0 1, .aload_n 0, 1, 0, 0, 0, 0), (232, 0, rx_h_ld rx_isI 3 1, .iload_n 3, 1, 0, 0, 0, 0), (233, 0, rx_h_psh 1, .iconst 3, 1, 3, 0, 0, 0), (234, 0, rx_h_ar rx_f_add rx_g32, .iadd, 1, 0, 0, 0, 0), (235, 0, rx_h_ald (fun t => Nat.beq t 13), .iaload, 1, 0, 0, 0, 0), (236, 0, rx_h_ld rx_isR 0 1, .aload_n 0, 1, 0, 0, 0, 0), (237, 0, rx_h_ld rx_isI 3 1, .iload_n 3, 1, 0, 0, 0, 0), (238, 0, rx_h_psh 1, .iconst 4, 1, 4, 0, 0, 0), (239, 0, rx_h_ar rx_f_add rx_g32, .iadd, 1, 0, 0, 0, 0)]
noncomputable def rxL_15 : List rx_E := [(240, 0, rx_h_ald (fun t => Nat.beq t 13), .iaload, 1, 0, 0, 0, 0), (241, 0, rx_h_ld rx_isR 0 1, .aload_n 0, 1, 0, 0, 0, 0), (242, 0, rx_h_ld rx_isI 3 1, .iload_n 3, 1, 0, 0, 0, 0), (243, 0, rx_h_psh 1, .iconst 5, 1, 5, 0, 0, 0), (244, 0, rx_h_ar rx_f_add rx_g32, .iadd, 1, 0, 0, 0, 0), (245, 0, rx_h_ald (fun t => Nat.beq t 13), .iaload, 1, 0, 0, 0, 0), (246, 4, rx_h_no, .invokevirtual 13, 3, 64, 40, 2, 185), (249, 0, rx_h_ld rx_isR 2 1, .aload_n 2, 1, 0, 0, 0, 0), (250, 0, rx_h_ld rx_isR 0 1, .aload_n 0, 1, 0, 0, 0, 0), (251, 0, rx_h_ld rx_isI 3 1, .iload_n 3, 1, 0, 0, 0, 0), (252, 0, rx_h_psh 1, .iconst 1, 1, 1, 0, 0, 0), (253, 0, rx_h_ar rx_f_add rx_g32, .iadd, 1, 0, 0, 0, 0), (254, 0, rx_h_ald (fun t => Nat.beq t 13), .iaload, 1, 0, 0, 0, 0), (255, 0, rx_h_ld rx_isR 0 1, .aload_n 0, 1, 0, 0, 0, 0)]
noncomputable def rxL_16 : List rx_E := [(256, 0, rx_h_ld rx_isI 3 1, .iload_n 3, 1, 0, 0, 0, 0), (257, 0, rx_h_psh 1, .iconst 2, 1, 2, 0, 0, 0), (258, 0, rx_h_ar rx_f_add rx_g32, .iadd, 1, 0, 0, 0, 0), (259, 0, rx_h_ald (fun t => Nat.beq t 13), .iaload, 1, 0, 0, 0, 0), (260, 0, rx_h_ld rx_isR 0 1, .aload_n 0, 1, 0, 0, 0, 0), (261, 0, rx_h_ld rx_isI 3 1, .iload_n 3, 1, 0, 0, 0, 0), (262, 0, rx_h_psh 1, .iconst 3, 1, 3, 0, 0, 0), (263, 0, rx_h_ar rx_f_add rx_g32, .iadd, 1, 0, 0, 0, 0), (264, 0, rx_h_ald (fun t => Nat.beq t 13), .iaload, 1, 0, 0, 0, 0), (265, 0, rx_h_ld rx_isR 0 1, .aload_n 0, 1, 0, 0, 0, 0), (266, 0, rx_h_ld rx_isI 3 1, .iload_n 3, 1, 0, 0, 0, 0), (267, 0, rx_h_psh 1, .iconst 4, 1, 4, 0, 0, 0), (268, 0, rx_h_ar rx_f_add rx_g32, .iadd, 1, 0, 0, 0, 0), (269, 0, rx_h_ald (fun t => Nat.beq t 13), .iaload, 1, 0, 0, 0, 0), (270, 0, rx_h_ld rx_isR 0 1, .aload_n 0, 1, 0, 0, 0, 0), (271, 0, rx_h_ld rx_isI 3 1, .iload_n 3, 1, 0, 0, 0, 0)]
noncomputable def rxL_17 : List rx_E := [(272, 0, rx_h_psh 1, .iconst 5, 1, 5, 0, 0, 0), (273, 0, rx_h_ar rx_f_add rx_g32, .iadd, 1, 0, 0, 0, 0), (274, 0, rx_h_ald (fun t => Nat.beq t 13), .iaload, 1, 0, 0, 0, 0), (275, 4, rx_h_no, .invokevirtual 17, 3, 31, 44, 6, 179), (278, 0, rx_h_icmp .eq, .if_icmp .eq 1133, 3, 1411, 0, 0, 0), (283, 0, rx_h_ld rx_isR 1 1, .aload_n 1, 1, 0, 0, 0, 0), (284, 0, rx_h_ld rx_isR 0 1, .aload_n 0, 1, 0, 0, 0, 0), (285, 0, rx_h_ld rx_isI 3 1, .iload_n 3, 1, 0, 0, 0, 0), (286, 0, rx_h_psh 1, .iconst 1, 1, 1, 0, 0, 0), (287, 0, rx_h_ar rx_f_add rx_g32, .iadd, 1, 0, 0, 0, 0)]
noncomputable def rxL_18 : List rx_E := [(288, 0, rx_h_ald (fun t => Nat.beq t 13), .iaload, 1, 0, 0, 0, 0), (289, 4, rx_h_no, .invokevirtual 18, 3, 19, 40, 2, 193), (292, 0, rx_h_ld rx_isR 2 1, .aload_n 2, 1, 0, 0, 0, 0), (293, 0, rx_h_ld rx_isR 0 1, .aload_n 0, 1, 0, 0, 0, 0), (294, 0, rx_h_ld rx_isI 3 1, .iload_n 3, 1, 0, 0, 0, 0), (295, 0, rx_h_psh 1, .iconst 1, 1, 1, 0, 0, 0), (296, 0, rx_h_ar rx_f_add rx_g32, .iadd, 1, 0, 0, 0, 0), (297, 0, rx_h_ald (fun t => Nat.beq t 13), .iaload, 1, 0, 0, 0, 0), (298, 4, rx_h_no, .invokevirtual 22, 3, 32, 44, 6, 183), (301, 0, rx_h_icmp .eq, .if_icmp .eq 1110, 3, 1411, 0, 0, 0)]
noncomputable def rxL_19 : List rx_E := [(306, 0, rx_h_ld rx_isR 1 1, .aload_n 1, 1, 0, 0, 0, 0), (307, 4, rx_h_no, .invokevirtual 23, 3, 146, 40, 2, 197), (310, 0, rx_h_ld rx_isR 2 1, .aload_n 2, 1, 0, 0, 0, 0), (311, 4, rx_h_no, .invokevirtual 27, 3, 163, 44, 6, 187), (314, 0, rx_h_icmp .eq, .if_icmp .eq 1097, 3, 1411, 0, 0, 0), (319, 0, rx_h_ld rx_isR 1 1, .aload_n 1, 1, 0, 0, 0, 0)]
noncomputable def rxL_20 : List rx_E := [(320, 0, rx_h_ld rx_isR 0 1, .aload_n 0, 1, 0, 0, 0, 0), (321, 0, rx_h_ld rx_isI 3 1, .iload_n 3, 1, 0, 0, 0, 0), (322, 0, rx_h_psh 1, .iconst 1, 1, 1, 0, 0, 0), (323, 0, rx_h_ar rx_f_add rx_g32, .iadd, 1, 0, 0, 0, 0), (324, 0, rx_h_ald (fun t => Nat.beq t 13), .iaload, 1, 0, 0, 0, 0), (325, 4, rx_h_no, .invokevirtual 28, 3, 20, 40, 3, 160), (328, 0, rx_h_ld rx_isR 2 1, .aload_n 2, 1, 0, 0, 0, 0), (329, 0, rx_h_ld rx_isR 0 1, .aload_n 0, 1, 0, 0, 0, 0), (330, 0, rx_h_ld rx_isI 3 1, .iload_n 3, 1, 0, 0, 0, 0), (331, 0, rx_h_psh 1, .iconst 1, 1, 1, 0, 0, 0), (332, 0, rx_h_ar rx_f_add rx_g32, .iadd, 1, 0, 0, 0, 0), (333, 0, rx_h_ald (fun t => Nat.beq t 13), .iaload, 1, 0, 0, 0, 0), (334, 4, rx_h_no, .invokevirtual 31, 3, 36, 44, 7, 59)]
noncomputable def rxL_21 : List rx_E := [(337, 0, rx_h_icmp .eq, .if_icmp .eq 1074, 3, 1411, 0, 0, 0), (342, 0, rx_h_ld rx_isR 1 1, .aload_n 1, 1, 0, 0, 0, 0), (343, 0, rx_h_ld rx_isR 0 1, .aload_n 0, 1, 0, 0, 0, 0), (344, 0, rx_h_ld rx_isI 3 1, .iload_n 3, 1, 0, 0, 0, 0), (345, 0, rx_h_psh 1, .iconst 1, 1, 1, 0, 0, 0), (346, 0, rx_h_ar rx_f_add rx_g32, .iadd, 1, 0, 0, 0, 0), (347, 0, rx_h_ald (fun t => Nat.beq t 13), .iaload, 1, 0, 0, 0, 0), (348, 4, rx_h_no, .invokevirtual 32, 3, 65, 40, 3, 164), (351, 0, rx_h_ld rx_isR 2 1, .aload_n 2, 1, 0, 0, 0, 0)]
noncomputable def rxL_22 : List rx_E := [(352, 0, rx_h_ld rx_isR 0 1, .aload_n 0, 1, 0, 0, 0, 0), (353, 0, rx_h_ld rx_isI 3 1, .iload_n 3, 1, 0, 0, 0, 0), (354, 0, rx_h_psh 1, .iconst 1, 1, 1, 0, 0, 0), (355, 0, rx_h_ar rx_f_add rx_g32, .iadd, 1, 0, 0, 0, 0), (356, 0, rx_h_ald (fun t => Nat.beq t 13), .iaload, 1, 0, 0, 0, 0), (357, 4, rx_h_no, .invokevirtual 35, 3, 153, 44, 8, 101), (360, 0, rx_h_icmp .eq, .if_icmp .eq 1051, 3, 1411, 0, 0, 0), (365, 0, rx_h_ld rx_isR 1 1, .aload_n 1, 1, 0, 0, 0, 0), (366, 0, rx_h_ld rx_isR 0 1, .aload_n 0, 1, 0, 0, 0, 0), (367, 0, rx_h_ld rx_isI 3 1, .iload_n 3, 1, 0, 0, 0, 0)]
noncomputable def rxL_23 : List rx_E := [(368, 0, rx_h_psh 1, .iconst 1, 1, 1, 0, 0, 0), (369, 0, rx_h_ar rx_f_add rx_g32, .iadd, 1, 0, 0, 0, 0), (370, 0, rx_h_ald (fun t => Nat.beq t 13), .iaload, 1, 0, 0, 0, 0), (371, 4, rx_h_no, .invokevirtual 36, 3, 66, 40, 3, 195), (374, 0, rx_h_ld rx_isR 2 1, .aload_n 2, 1, 0, 0, 0, 0), (375, 0, rx_h_ld rx_isR 0 1, .aload_n 0, 1, 0, 0, 0, 0), (376, 0, rx_h_ld rx_isI 3 1, .iload_n 3, 1, 0, 0, 0, 0), (377, 0, rx_h_psh 1, .iconst 1, 1, 1, 0, 0, 0), (378, 0, rx_h_ar rx_f_add rx_g32, .iadd, 1, 0, 0, 0, 0), (379, 0, rx_h_ald (fun t => Nat.beq t 13), .iaload, 1, 0, 0, 0, 0), (380, 4, rx_h_no, .invokevirtual 39, 3, 136, 44, 8, 113), (383, 0, rx_h_icmp .eq, .if_icmp .eq 1028, 3, 1411, 0, 0, 0)]
noncomputable def rxL_24 : List rx_E := [(388, 0, rx_h_ld rx_isR 1 1, .aload_n 1, 1, 0, 0, 0, 0), (389, 0, rx_h_ld rx_isR 0 1, .aload_n 0, 1, 0, 0, 0, 0), (390, 0, rx_h_ld rx_isI 3 1, .iload_n 3, 1, 0, 0, 0, 0), (391, 0, rx_h_psh 1, .iconst 1, 1, 1, 0, 0, 0), (392, 0, rx_h_ar rx_f_add rx_g32, .iadd, 1, 0, 0, 0, 0), (393, 0, rx_h_ald (fun t => Nat.beq t 13), .iaload, 1, 0, 0, 0, 0), (394, 4, rx_h_no, .invokevirtual 40, 3, 67, 40, 3, 199), (397, 0, rx_h_ld rx_isR 2 1, .aload_n 2, 1, 0, 0, 0, 0), (398, 0, rx_h_ld rx_isR 0 1, .aload_n 0, 1, 0, 0, 0, 0), (399, 0, rx_h_ld rx_isI 3 1, .iload_n 3, 1, 0, 0, 0, 0)]
noncomputable def rxL_25 : List rx_E := [(400, 0, rx_h_psh 1, .iconst 1, 1, 1, 0, 0, 0), (401, 0, rx_h_ar rx_f_add rx_g32, .iadd, 1, 0, 0, 0, 0), (402, 0, rx_h_ald (fun t => Nat.beq t 13), .iaload, 1, 0, 0, 0, 0), (403, 4, rx_h_no, .invokevirtual 43, 3, 137, 44, 8, 117), (406, 0, rx_h_icmp .eq, .if_icmp .eq 1005, 3, 1411, 0, 0, 0), (411, 0, rx_h_ld rx_isR 1 1, .aload_n 1, 1, 0, 0, 0, 0), (412, 0, rx_h_ld rx_isR 0 1, .aload_n 0, 1, 0, 0, 0, 0), (413, 0, rx_h_ld rx_isI 3 1, .iload_n 3, 1, 0, 0, 0, 0), (414, 0, rx_h_psh 1, .iconst 1, 1, 1, 0, 0, 0), (415, 0, rx_h_ar rx_f_add rx_g32, .iadd, 1, 0, 0, 0, 0)]
noncomputable def rxL_26 : List rx_E := [(416, 0, rx_h_ald (fun t => Nat.beq t 13), .iaload, 1, 0, 0, 0, 0), (417, 4, rx_h_no, .invokevirtual 44, 3, 68, 40, 3, 207), (420, 0, rx_h_ld rx_isR 2 1, .aload_n 2, 1, 0, 0, 0, 0), (421, 0, rx_h_ld rx_isR 0 1, .aload_n 0, 1, 0, 0, 0, 0), (422, 0, rx_h_ld rx_isI 3 1, .iload_n 3, 1, 0, 0, 0, 0), (423, 0, rx_h_psh 1, .iconst 1, 1, 1, 0, 0, 0), (424, 0, rx_h_ar rx_f_add rx_g32, .iadd, 1, 0, 0, 0, 0), (425, 0, rx_h_ald (fun t => Nat.beq t 13), .iaload, 1, 0, 0, 0, 0), (426, 4, rx_h_no, .invokevirtual 47, 3, 138, 44, 8, 121), (429, 0, rx_h_icmp .eq, .if_icmp .eq 982, 3, 1411, 0, 0, 0)]
noncomputable def rxL_27 : List rx_E := [(434, 0, rx_h_ld rx_isR 1 1, .aload_n 1, 1, 0, 0, 0, 0), (435, 0, rx_h_ld rx_isR 0 1, .aload_n 0, 1, 0, 0, 0, 0), (436, 0, rx_h_ld rx_isI 3 1, .iload_n 3, 1, 0, 0, 0, 0), (437, 0, rx_h_psh 1, .iconst 1, 1, 1, 0, 0, 0), (438, 0, rx_h_ar rx_f_add rx_g32, .iadd, 1, 0, 0, 0, 0), (439, 0, rx_h_ald (fun t => Nat.beq t 13), .iaload, 1, 0, 0, 0, 0), (440, 0, rx_h_ld rx_isR 0 1, .aload_n 0, 1, 0, 0, 0, 0), (441, 0, rx_h_ld rx_isI 3 1, .iload_n 3, 1, 0, 0, 0, 0), (442, 0, rx_h_psh 1, .iconst 2, 1, 2, 0, 0, 0), (443, 0, rx_h_ar rx_f_add rx_g32, .iadd, 1, 0, 0, 0, 0), (444, 0, rx_h_ald (fun t => Nat.beq t 13), .iaload, 1, 0, 0, 0, 0), (445, 4, rx_h_no, .invokevirtual 48, 3, 69, 40, 3, 216)]
noncomputable def rxL_28 : List rx_E := [(448, 0, rx_h_ld rx_isR 2 1, .aload_n 2, 1, 0, 0, 0, 0), (449, 0, rx_h_ld rx_isR 0 1, .aload_n 0, 1, 0, 0, 0, 0), (450, 0, rx_h_ld rx_isI 3 1, .iload_n 3, 1, 0, 0, 0, 0), (451, 0, rx_h_psh 1, .iconst 1, 1, 1, 0, 0, 0), (452, 0, rx_h_ar rx_f_add rx_g32, .iadd, 1, 0, 0, 0, 0), (453, 0, rx_h_ald (fun t => Nat.beq t 13), .iaload, 1, 0, 0, 0, 0), (454, 0, rx_h_ld rx_isR 0 1, .aload_n 0, 1, 0, 0, 0, 0), (455, 0, rx_h_ld rx_isI 3 1, .iload_n 3, 1, 0, 0, 0, 0), (456, 0, rx_h_psh 1, .iconst 2, 1, 2, 0, 0, 0), (457, 0, rx_h_ar rx_f_add rx_g32, .iadd, 1, 0, 0, 0, 0), (458, 0, rx_h_ald (fun t => Nat.beq t 13), .iaload, 1, 0, 0, 0, 0), (459, 4, rx_h_no, .invokevirtual 52, 3, 139, 44, 8, 125), (462, 0, rx_h_icmp .eq, .if_icmp .eq 949, 3, 1411, 0, 0, 0)]
noncomputable def rxL_29 : List rx_E := [(467, 0, rx_h_ld rx_isR 1 1, .aload_n 1, 1, 0, 0, 0, 0), (468, 0, rx_h_ld rx_isR 0 1, .aload_n 0, 1, 0, 0, 0, 0), (469, 0, rx_h_ld rx_isI 3 1, .iload_n 3, 1, 0, 0, 0, 0), (470, 0, rx_h_psh 1, .iconst 1, 1, 1, 0, 0, 0), (471, 0, rx_h_ar rx_f_add rx_g32, .iadd, 1, 0, 0, 0, 0), (472, 0, rx_h_ald (fun t => Nat.beq t 13), .iaload, 1, 0, 0, 0, 0), (473, 0, rx_h_ld rx_isR 0 1, .aload_n 0, 1, 0, 0, 0, 0), (474, 0, rx_h_ld rx_isI 3 1, .iload_n 3, 1, 0, 0, 0, 0), (475, 0, rx_h_psh 1, .iconst 2, 1, 2, 0, 0, 0), (476, 0, rx_h_ar rx_f_add rx_g32, .iadd, 1, 0, 0, 0, 0), (477, 0, rx_h_ald (fun t => Nat.beq t 13), .iaload, 1, 0, 0, 0, 0), (478, 4, rx_h_no, .invokevirtual 53, 3, 70, 40, 4, 106)]
noncomputable def rxL_30 : List rx_E := [(481, 0, rx_h_ld rx_isR 2 1, .aload_n 2, 1, 0, 0, 0, 0), (482, 0, rx_h_ld rx_isR 0 1, .aload_n 0, 1, 0, 0, 0, 0), (483, 0, rx_h_ld rx_isI 3 1, .iload_n 3, 1, 0, 0, 0, 0), (484, 0, rx_h_psh 1, .iconst 1, 1, 1, 0, 0, 0), (485, 0, rx_h_ar rx_f_add rx_g32, .iadd, 1, 0, 0, 0, 0), (486, 0, rx_h_ald (fun t => Nat.beq t 13), .iaload, 1, 0, 0, 0, 0), (487, 0, rx_h_ld rx_isR 0 1, .aload_n 0, 1, 0, 0, 0, 0), (488, 0, rx_h_ld rx_isI 3 1, .iload_n 3, 1, 0, 0, 0, 0), (489, 0, rx_h_psh 1, .iconst 2, 1, 2, 0, 0, 0), (490, 0, rx_h_ar rx_f_add rx_g32, .iadd, 1, 0, 0, 0, 0), (491, 0, rx_h_ald (fun t => Nat.beq t 13), .iaload, 1, 0, 0, 0, 0), (492, 4, rx_h_no, .invokevirtual 56, 3, 154, 44, 8, 129), (495, 0, rx_h_icmp .eq, .if_icmp .eq 916, 3, 1411, 0, 0, 0)]
noncomputable def rxL_31 : List rx_E := [(500, 0, rx_h_ld rx_isR 1 1, .aload_n 1, 1, 0, 0, 0, 0), (501, 0, rx_h_ld rx_isR 0 1, .aload_n 0, 1, 0, 0, 0, 0), (502, 0, rx_h_ld rx_isI 3 1, .iload_n 3, 1, 0, 0, 0, 0), (503, 0, rx_h_psh 1, .iconst 1, 1, 1, 0, 0, 0), (504, 0, rx_h_ar rx_f_add rx_g32, .iadd, 1, 0, 0, 0, 0), (505, 0, rx_h_ald (fun t => Nat.beq t 13), .iaload, 1, 0, 0, 0, 0), (506, 4, rx_h_no, .invokevirtual 57, 3, 21, 40, 4, 119), (509, 0, rx_h_ld rx_isR 2 1, .aload_n 2, 1, 0, 0, 0, 0), (510, 0, rx_h_ld rx_isR 0 1, .aload_n 0, 1, 0, 0, 0, 0), (511, 0, rx_h_ld rx_isI 3 1, .iload_n 3, 1, 0, 0, 0, 0)]
noncomputable def rxL_32 : List rx_E := [(512, 0, rx_h_psh 1, .iconst 1, 1, 1, 0, 0, 0), (513, 0, rx_h_ar rx_f_add rx_g32, .iadd, 1, 0, 0, 0, 0), (514, 0, rx_h_ald (fun t => Nat.beq t 13), .iaload, 1, 0, 0, 0, 0), (515, 4, rx_h_no, .invokevirtual 60, 3, 99, 44, 8, 145), (518, 0, rx_h_icmp .eq, .if_icmp .eq 893, 3, 1411, 0, 0, 0), (523, 0, rx_h_ld rx_isR 1 1, .aload_n 1, 1, 0, 0, 0, 0), (524, 4, rx_h_no, .invokevirtual 61, 3, 22, 40, 4, 123), (527, 0, rx_h_ld rx_isR 2 1, .aload_n 2, 1, 0, 0, 0, 0)]
noncomputable def rxL_33 : List rx_E := [(528, 4, rx_h_no, .invokevirtual 65, 3, 42, 44, 8, 197), (531, 0, rx_h_icmp .eq, .if_icmp .eq 880, 3, 1411, 0, 0, 0), (536, 0, rx_h_ld rx_isR 1 1, .aload_n 1, 1, 0, 0, 0, 0), (537, 4, rx_h_no, .invokevirtual 66, 3, 23, 40, 4, 135), (540, 0, rx_h_ld rx_isR 2 1, .aload_n 2, 1, 0, 0, 0, 0), (541, 4, rx_h_no, .invokevirtual 69, 3, 43, 44, 8, 205)]
noncomputable def rxL_34 : List rx_E := [(544, 0, rx_h_icmp .eq, .if_icmp .eq 867, 3, 1411, 0, 0, 0), (549, 0, rx_h_ld rx_isR 1 1, .aload_n 1, 1, 0, 0, 0, 0), (550, 0, rx_h_ld rx_isR 0 1, .aload_n 0, 1, 0, 0, 0, 0), (551, 0, rx_h_ld rx_isI 3 1, .iload_n 3, 1, 0, 0, 0, 0), (552, 0, rx_h_psh 1, .iconst 1, 1, 1, 0, 0, 0), (553, 0, rx_h_ar rx_f_add rx_g32, .iadd, 1, 0, 0, 0, 0), (554, 0, rx_h_ald (fun t => Nat.beq t 13), .iaload, 1, 0, 0, 0, 0), (555, 0, rx_h_ld rx_isR 0 1, .aload_n 0, 1, 0, 0, 0, 0), (556, 0, rx_h_ld rx_isI 3 1, .iload_n 3, 1, 0, 0, 0, 0), (557, 0, rx_h_psh 1, .iconst 2, 1, 2, 0, 0, 0), (558, 0, rx_h_ar rx_f_add rx_g32, .iadd, 1, 0, 0, 0, 0), (559, 0, rx_h_ald (fun t => Nat.beq t 13), .iaload, 1, 0, 0, 0, 0)]
noncomputable def rxL_35 : List rx_E := [(560, 4, rx_h_no, .invokevirtual 70, 3, 71, 40, 4, 143), (563, 0, rx_h_ld rx_isR 2 1, .aload_n 2, 1, 0, 0, 0, 0), (564, 0, rx_h_ld rx_isR 0 1, .aload_n 0, 1, 0, 0, 0, 0), (565, 0, rx_h_ld rx_isI 3 1, .iload_n 3, 1, 0, 0, 0, 0), (566, 0, rx_h_psh 1, .iconst 1, 1, 1, 0, 0, 0), (567, 0, rx_h_ar rx_f_add rx_g32, .iadd, 1, 0, 0, 0, 0), (568, 0, rx_h_ald (fun t => Nat.beq t 13), .iaload, 1, 0, 0, 0, 0), (569, 0, rx_h_ld rx_isR 0 1, .aload_n 0, 1, 0, 0, 0, 0), (570, 0, rx_h_ld rx_isI 3 1, .iload_n 3, 1, 0, 0, 0, 0), (571, 0, rx_h_psh 1, .iconst 2, 1, 2, 0, 0, 0), (572, 0, rx_h_ar rx_f_add rx_g32, .iadd, 1, 0, 0, 0, 0), (573, 0, rx_h_ald (fun t => Nat.beq t 13), .iaload, 1, 0, 0, 0, 0), (574, 4, rx_h_no, .invokevirtual 73, 3, 142, 44, 8, 181)]
noncomputable def rxL_36 : List rx_E := [(577, 0, rx_h_icmp .eq, .if_icmp .eq 834, 3, 1411, 0, 0, 0), (582, 0, rx_h_ld rx_isR 1 1, .aload_n 1, 1, 0, 0, 0, 0), (583, 0, rx_h_ld rx_isR 0 1, .aload_n 0, 1, 0, 0, 0, 0), (584, 0, rx_h_ld rx_isI 3 1, .iload_n 3, 1, 0, 0, 0, 0), (585, 0, rx_h_psh 1, .iconst 1, 1, 1, 0, 0, 0), (586, 0, rx_h_ar rx_f_add rx_g32, .iadd, 1, 0, 0, 0, 0), (587, 0, rx_h_ald (fun t => Nat.beq t 13), .iaload, 1, 0, 0, 0, 0), (588, 0, rx_h_ld rx_isR 0 1, .aload_n 0, 1, 0, 0, 0, 0), (589, 0, rx_h_ld rx_isI 3 1, .iload_n 3, 1, 0, 0, 0, 0), (590, 0, rx_h_psh 1, .iconst 2, 1, 2, 0, 0, 0), (591, 0, rx_h_ar rx_f_add rx_g32, .iadd, 1, 0, 0, 0, 0)]
noncomputable def rxL_37 : List rx_E := [(592, 0, rx_h_ald (fun t => Nat.beq t 13), .iaload, 1, 0, 0, 0, 0), (593, 4, rx_h_no, .invokevirtual 74, 3, 72, 40, 4, 155), (596, 0, rx_h_ld rx_isR 2 1, .aload_n 2, 1, 0, 0, 0, 0), (597, 0, rx_h_ld rx_isR 0 1, .aload_n 0, 1, 0, 0, 0, 0), (598, 0, rx_h_ld rx_isI 3 1, .iload_n 3, 1, 0, 0, 0, 0), (599, 0, rx_h_psh 1, .iconst 1, 1, 1, 0, 0, 0), (600, 0, rx_h_ar rx_f_add rx_g32, .iadd, 1, 0, 0, 0, 0), (601, 0, rx_h_ald (fun t => Nat.beq t 13), .iaload, 1, 0, 0, 0, 0), (602, 0, rx_h_ld rx_isR 0 1, .aload_n 0, 1, 0, 0, 0, 0), (603, 0, rx_h_ld rx_isI 3 1, .iload_n 3, 1, 0, 0, 0, 0), (604, 0, rx_h_psh 1, .iconst 2, 1, 2, 0, 0, 0), (605, 0, rx_h_ar rx_f_add rx_g32, .iadd, 1, 0, 0, 0, 0), (606, 0, rx_h_ald (fun t => Nat.beq t 13), .iaload, 1, 0, 0, 0, 0), (607, 4, rx_h_no, .invokevirtual 77, 3, 143, 44, 8, 193)]
noncomputable def rxL_38 : List rx_E := [(610, 0, rx_h_icmp .eq, .if_icmp .eq 801, 3, 1411, 0, 0, 0), (615, 0, rx_h_ld rx_isR 1 1, .aload_n 1, 1, 0, 0, 0, 0), (616, 0, rx_h_ld rx_isR 0 1, .aload_n 0, 1, 0, 0, 0, 0), (617, 0, rx_h_ld rx_isI 3 1, .iload_n 3, 1, 0, 0, 0, 0), (618, 0, rx_h_psh 1, .iconst 1, 1, 1, 0, 0, 0), (619, 0, rx_h_ar rx_f_add rx_g32, .iadd, 1, 0, 0, 0, 0), (620, 0, rx_h_ald (fun t => Nat.beq t 13), .iaload, 1, 0, 0, 0, 0), (621, 0, rx_h_ld rx_isR 0 1, .aload_n 0, 1, 0, 0, 0, 0), (622, 0, rx_h_ld rx_isI 3 1, .iload_n 3, 1, 0, 0, 0, 0), (623, 0, rx_h_psh 1, .iconst 2, 1, 2, 0, 0, 0)]
noncomputable def rxL_39 : List rx_E := [(624, 0, rx_h_ar rx_f_add rx_g32, .iadd, 1, 0, 0, 0, 0), (625, 0, rx_h_ald (fun t => Nat.beq t 13), .iaload, 1, 0, 0, 0, 0), (626, 4, rx_h_no, .invokevirtual 78, 3, 73, 40, 4, 159), (629, 0, rx_h_ld rx_isR 2 1, .aload_n 2, 1, 0, 0, 0, 0), (630, 0, rx_h_ld rx_isR 0 1, .aload_n 0, 1, 0, 0, 0, 0), (631, 0, rx_h_ld rx_isI 3 1, .iload_n 3, 1, 0, 0, 0, 0), (632, 0, rx_h_psh 1, .iconst 1, 1, 1, 0, 0, 0), (633, 0, rx_h_ar rx_f_add rx_g32, .iadd, 1, 0, 0, 0, 0), (634, 0, rx_h_ald (fun t => Nat.beq t 13), .iaload, 1, 0, 0, 0, 0), (635, 0, rx_h_ld rx_isR 0 1, .aload_n 0, 1, 0, 0, 0, 0), (636, 0, rx_h_ld rx_isI 3 1, .iload_n 3, 1, 0, 0, 0, 0), (637, 0, rx_h_psh 1, .iconst 2, 1, 2, 0, 0, 0), (638, 0, rx_h_ar rx_f_add rx_g32, .iadd, 1, 0, 0, 0, 0), (639, 0, rx_h_ald (fun t => Nat.beq t 13), .iaload, 1, 0, 0, 0, 0)]
noncomputable def rxL_40 : List rx_E := [(640, 4, rx_h_no, .invokevirtual 81, 3, 120, 44, 7, 112), (643, 0, rx_h_icmp .eq, .if_icmp .eq 768, 3, 1411, 0, 0, 0), (648, 0, rx_h_ld rx_isR 1 1, .aload_n 1, 1, 0, 0, 0, 0), (649, 0, rx_h_ld rx_isR 0 1, .aload_n 0, 1, 0, 0, 0, 0), (650, 0, rx_h_ld rx_isI 3 1, .iload_n 3, 1, 0, 0, 0, 0), (651, 0, rx_h_psh 1, .iconst 1, 1, 1, 0, 0, 0), (652, 0, rx_h_ar rx_f_add rx_g32, .iadd, 1, 0, 0, 0, 0), (653, 0, rx_h_ald (fun t => Nat.beq t 13), .iaload, 1, 0, 0, 0, 0), (654, 0, rx_h_ld rx_isR 0 1, .aload_n 0, 1, 0, 0, 0, 0), (655, 0, rx_h_ld rx_isI 3 1, .iload_n 3, 1, 0, 0, 0, 0)]
noncomputable def rxL_41 : List rx_E := [(656, 0, rx_h_psh 1, .iconst 2, 1, 2, 0, 0, 0), (657, 0, rx_h_ar rx_f_add rx_g32, .iadd, 1, 0, 0, 0, 0), (658, 0, rx_h_ald (fun t => Nat.beq t 13), .iaload, 1, 0, 0, 0, 0), (659, 4, rx_h_no, .invokevirtual 82, 3, 74, 40, 4, 168), (662, 0, rx_h_ld rx_isR 2 1, .aload_n 2, 1, 0, 0, 0, 0), (663, 0, rx_h_ld rx_isR 0 1, .aload_n 0, 1, 0, 0, 0, 0), (664, 0, rx_h_ld rx_isI 3 1, .iload_n 3, 1, 0, 0, 0, 0), (665, 0, rx_h_psh 1, .iconst 1, 1, 1, 0, 0, 0), (666, 0, rx_h_ar rx_f_add rx_g32, .iadd, 1, 0, 0, 0, 0), (667, 0, rx_h_ald (fun t => Nat.beq t 13), .iaload, 1, 0, 0, 0, 0), (668, 0, rx_h_ld rx_isR 0 1, .aload_n 0, 1, 0, 0, 0, 0), (669, 0, rx_h_ld rx_isI 3 1, .iload_n 3, 1, 0, 0, 0, 0), (670, 0, rx_h_psh 1, .iconst 2, 1, 2, 0, 0, 0), (671, 0, rx_h_ar rx_f_add rx_g32, .iadd, 1, 0, 0, 0, 0)]
noncomputable def rxL_42 : List rx_E := [(672, 0, rx_h_ald (fun t => Nat.beq t 13), .iaload, 1, 0, 0, 0, 0), (673, 4, rx_h_no, .invokevirtual 85, 3, 121, 44, 7, 139), (676, 0, rx_h_icmp .eq, .if_icmp .eq 735, 3, 1411, 0, 0, 0), (681, 0, rx_h_ld rx_isR 1 1, .aload_n 1, 1, 0, 0, 0, 0), (682, 0, rx_h_ld rx_isR 0 1, .aload_n 0, 1, 0, 0, 0, 0), (683, 0, rx_h_ld rx_isI 3 1, .iload_n 3, 1, 0, 0, 0, 0), (684, 0, rx_h_psh 1, .iconst 1, 1, 1, 0, 0, 0), (685, 0, rx_h_ar rx_f_add rx_g32, .iadd, 1, 0, 0, 0, 0), (686, 0, rx_h_ald (fun t => Nat.beq t 13), .iaload, 1, 0, 0, 0, 0), (687, 0, rx_h_ld rx_isR 0 1, .aload_n 0, 1, 0, 0, 0, 0)]
noncomputable def rxL_43 : List rx_E := [(688, 0, rx_h_ld rx_isI 3 1, .iload_n 3, 1, 0, 0, 0, 0), (689, 0, rx_h_psh 1, .iconst 2, 1, 2, 0, 0, 0), (690, 0, rx_h_ar rx_f_add rx_g32, .iadd, 1, 0, 0, 0, 0), (691, 0, rx_h_ald (fun t => Nat.beq t 13), .iaload, 1, 0, 0, 0, 0), (692, 4, rx_h_no, .invokevirtual 86, 3, 75, 40, 4, 181), (695, 0, rx_h_ld rx_isR 2 1, .aload_n 2, 1, 0, 0, 0, 0), (696, 0, rx_h_ld rx_isR 0 1, .aload_n 0, 1, 0, 0, 0, 0), (697, 0, rx_h_ld rx_isI 3 1, .iload_n 3, 1, 0, 0, 0, 0), (698, 0, rx_h_psh 1, .iconst 1, 1, 1, 0, 0, 0), (699, 0, rx_h_ar rx_f_add rx_g32, .iadd, 1, 0, 0, 0, 0), (700, 0, rx_h_ald (fun t => Nat.beq t 13), .iaload, 1, 0, 0, 0, 0), (701, 0, rx_h_ld rx_isR 0 1, .aload_n 0, 1, 0, 0, 0, 0), (702, 0, rx_h_ld rx_isI 3 1, .iload_n 3, 1, 0, 0, 0, 0), (703, 0, rx_h_psh 1, .iconst 2, 1, 2, 0, 0, 0)]
noncomputable def rxL_44 : List rx_E := [(704, 0, rx_h_ar rx_f_add rx_g32, .iadd, 1, 0, 0, 0, 0), (705, 0, rx_h_ald (fun t => Nat.beq t 13), .iaload, 1, 0, 0, 0, 0), (706, 4, rx_h_no, .invokevirtual 90, 3, 122, 44, 7, 143), (709, 0, rx_h_lcmp, .lcmp, 1, 0, 0, 0, 0), (710, 0, rx_h_if .eq, .ifCond .eq 701, 3, 1411, 0, 0, 0), (715, 0, rx_h_ld rx_isR 1 1, .aload_n 1, 1, 0, 0, 0, 0), (716, 0, rx_h_ld rx_isR 0 1, .aload_n 0, 1, 0, 0, 0, 0), (717, 0, rx_h_ld rx_isI 3 1, .iload_n 3, 1, 0, 0, 0, 0), (718, 0, rx_h_psh 1, .iconst 1, 1, 1, 0, 0, 0), (719, 0, rx_h_ar rx_f_add rx_g32, .iadd, 1, 0, 0, 0, 0)]
noncomputable def rxL_45 : List rx_E := [(720, 0, rx_h_ald (fun t => Nat.beq t 13), .iaload, 1, 0, 0, 0, 0), (721, 0, rx_h_ld rx_isR 0 1, .aload_n 0, 1, 0, 0, 0, 0), (722, 0, rx_h_ld rx_isI 3 1, .iload_n 3, 1, 0, 0, 0, 0), (723, 0, rx_h_psh 1, .iconst 2, 1, 2, 0, 0, 0), (724, 0, rx_h_ar rx_f_add rx_g32, .iadd, 1, 0, 0, 0, 0), (725, 0, rx_h_ald (fun t => Nat.beq t 13), .iaload, 1, 0, 0, 0, 0), (726, 0, rx_h_ld rx_isR 0 1, .aload_n 0, 1, 0, 0, 0, 0), (727, 0, rx_h_ld rx_isI 3 1, .iload_n 3, 1, 0, 0, 0, 0), (728, 0, rx_h_psh 1, .iconst 3, 1, 3, 0, 0, 0), (729, 0, rx_h_ar rx_f_add rx_g32, .iadd, 1, 0, 0, 0, 0), (730, 0, rx_h_ald (fun t => Nat.beq t 13), .iaload, 1, 0, 0, 0, 0), (731, 4, rx_h_no, .invokevirtual 91, 3, 76, 40, 4, 198), (734, 0, rx_h_ld rx_isR 2 1, .aload_n 2, 1, 0, 0, 0, 0), (735, 0, rx_h_ld rx_isR 0 1, .aload_n 0, 1, 0, 0, 0, 0)]
noncomputable def rxL_46 : List rx_E := [(736, 0, rx_h_ld rx_isI 3 1, .iload_n 3, 1, 0, 0, 0, 0), (737, 0, rx_h_psh 1, .iconst 1, 1, 1, 0, 0, 0), (738, 0, rx_h_ar rx_f_add rx_g32, .iadd, 1, 0, 0, 0, 0), (739, 0, rx_h_ald (fun t => Nat.beq t 13), .iaload, 1, 0, 0, 0, 0), (740, 0, rx_h_ld rx_isR 0 1, .aload_n 0, 1, 0, 0, 0, 0), (741, 0, rx_h_ld rx_isI 3 1, .iload_n 3, 1, 0, 0, 0, 0), (742, 0, rx_h_psh 1, .iconst 2, 1, 2, 0, 0, 0), (743, 0, rx_h_ar rx_f_add rx_g32, .iadd, 1, 0, 0, 0, 0), (744, 0, rx_h_ald (fun t => Nat.beq t 13), .iaload, 1, 0, 0, 0, 0), (745, 0, rx_h_ld rx_isR 0 1, .aload_n 0, 1, 0, 0, 0, 0), (746, 0, rx_h_ld rx_isI 3 1, .iload_n 3, 1, 0, 0, 0, 0), (747, 0, rx_h_psh 1, .iconst 3, 1, 3, 0, 0, 0), (748, 0, rx_h_ar rx_f_add rx_g32, .iadd, 1, 0, 0, 0, 0), (749, 0, rx_h_ald (fun t => Nat.beq t 13), .iaload, 1, 0, 0, 0, 0), (750, 4, rx_h_no, .invokevirtual 95, 3, 123, 44, 7, 155)]
noncomputable def rxL_47 : List rx_E := [(753, 0, rx_h_lcmp, .lcmp, 1, 0, 0, 0, 0), (754, 0, rx_h_if .eq, .ifCond .eq 657, 3, 1411, 0, 0, 0), (759, 0, rx_h_ld rx_isR 1 1, .aload_n 1, 1, 0, 0, 0, 0), (760, 0, rx_h_ld rx_isR 0 1, .aload_n 0, 1, 0, 0, 0, 0), (761, 0, rx_h_ld rx_isI 3 1, .iload_n 3, 1, 0, 0, 0, 0), (762, 0, rx_h_psh 1, .iconst 1, 1, 1, 0, 0, 0), (763, 0, rx_h_ar rx_f_add rx_g32, .iadd, 1, 0, 0, 0, 0), (764, 0, rx_h_ald (fun t => Nat.beq t 13), .iaload, 1, 0, 0, 0, 0), (765, 0, rx_h_ld rx_isR 0 1, .aload_n 0, 1, 0, 0, 0, 0), (766, 0, rx_h_ld rx_isI 3 1, .iload_n 3, 1, 0, 0, 0, 0), (767, 0, rx_h_psh 1, .iconst 2, 1, 2, 0, 0, 0)]
noncomputable def rxL_48 : List rx_E := [(768, 0, rx_h_ar rx_f_add rx_g32, .iadd, 1, 0, 0, 0, 0), (769, 0, rx_h_ald (fun t => Nat.beq t 13), .iaload, 1, 0, 0, 0, 0), (770, 0, rx_h_ld rx_isR 0 1, .aload_n 0, 1, 0, 0, 0, 0), (771, 0, rx_h_ld rx_isI 3 1, .iload_n 3, 1, 0, 0, 0, 0), (772, 0, rx_h_psh 1, .iconst 3, 1, 3, 0, 0, 0), (773, 0, rx_h_ar rx_f_add rx_g32, .iadd, 1, 0, 0, 0, 0), (774, 0, rx_h_ald (fun t => Nat.beq t 13), .iaload, 1, 0, 0, 0, 0), (775, 4, rx_h_no, .invokevirtual 96, 3, 77, 40, 4, 218), (778, 0, rx_h_ld rx_isR 2 1, .aload_n 2, 1, 0, 0, 0, 0), (779, 0, rx_h_ld rx_isR 0 1, .aload_n 0, 1, 0, 0, 0, 0), (780, 0, rx_h_ld rx_isI 3 1, .iload_n 3, 1, 0, 0, 0, 0), (781, 0, rx_h_psh 1, .iconst 1, 1, 1, 0, 0, 0), (782, 0, rx_h_ar rx_f_add rx_g32, .iadd, 1, 0, 0, 0, 0), (783, 0, rx_h_ald (fun t => Nat.beq t 13), .iaload, 1, 0, 0, 0, 0)]
noncomputable def rxL_49 : List rx_E := [(784, 0, rx_h_ld rx_isR 0 1, .aload_n 0, 1, 0, 0, 0, 0), (785, 0, rx_h_ld rx_isI 3 1, .iload_n 3, 1, 0, 0, 0, 0), (786, 0, rx_h_psh 1, .iconst 2, 1, 2, 0, 0, 0), (787, 0, rx_h_ar rx_f_add rx_g32, .iadd, 1, 0, 0, 0, 0), (788, 0, rx_h_ald (fun t => Nat.beq t 13), .iaload, 1, 0, 0, 0, 0), (789, 0, rx_h_ld rx_isR 0 1, .aload_n 0, 1, 0, 0, 0, 0), (790, 0, rx_h_ld rx_isI 3 1, .iload_n 3, 1, 0, 0, 0, 0), (791, 0, rx_h_psh 1, .iconst 3, 1, 3, 0, 0, 0), (792, 0, rx_h_ar rx_f_add rx_g32, .iadd, 1, 0, 0, 0, 0), (793, 0, rx_h_ald (fun t => Nat.beq t 13), .iaload, 1, 0, 0, 0, 0), (794, 4, rx_h_no, .invokevirtual 100, 3, 125, 44, 7, 163), (797, 0, rx_h_icmp .eq, .if_icmp .eq 614, 3, 1411, 0, 0, 0)]
noncomputable def rxL_50 : List rx_E := [(802, 0, rx_h_ld rx_isR 1 1, .aload_n 1, 1, 0, 0, 0, 0), (803, 0, rx_h_ld rx_isR 0 1, .aload_n 0, 1, 0, 0, 0, 0), (804, 0, rx_h_ld rx_isI 3 1, .iload_n 3, 1, 0, 0, 0, 0), (805, 0, rx_h_psh 1, .iconst 1, 1, 1, 0, 0, 0), (806, 0, rx_h_ar rx_f_add rx_g32, .iadd, 1, 0, 0, 0, 0), (807, 0, rx_h_ald (fun t => Nat.beq t 13), .iaload, 1, 0, 0, 0, 0), (808, 0, rx_h_ld rx_isR 0 1, .aload_n 0, 1, 0, 0, 0, 0), (809, 0, rx_h_ld rx_isI 3 1, .iload_n 3, 1, 0, 0, 0, 0), (810, 0, rx_h_psh 1, .iconst 2, 1, 2, 0, 0, 0), (811, 0, rx_h_ar rx_f_add rx_g32, .iadd, 1, 0, 0, 0, 0), (812, 0, rx_h_ald (fun t => Nat.beq t 13), .iaload, 1, 0, 0, 0, 0), (813, 0, rx_h_ld rx_isR 0 1, .aload_n 0, 1, 0, 0, 0, 0), (814, 0, rx_h_ld rx_isI 3 1, .iload_n 3, 1, 0, 0, 0, 0), (815, 0, rx_h_psh 1, .iconst 3, 1, 3, 0, 0, 0)]
noncomputable def rxL_51 : List rx_E := [(816, 0, rx_h_ar rx_f_add rx_g32, .iadd, 1, 0, 0, 0, 0), (817, 0, rx_h_ald (fun t => Nat.beq t 13), .iaload, 1, 0, 0, 0, 0), (818, 4, rx_h_no, .invokevirtual 101, 3, 78, 40, 4, 223), (821, 0, rx_h_ld rx_isR 2 1, .aload_n 2, 1, 0, 0, 0, 0), (822, 0, rx_h_ld rx_isR 0 1, .aload_n 0, 1, 0, 0, 0, 0), (823, 0, rx_h_ld rx_isI 3 1, .iload_n 3, 1, 0, 0, 0, 0), (824, 0, rx_h_psh 1, .iconst 1, 1, 1, 0, 0, 0), (825, 0, rx_h_ar rx_f_add rx_g32, .iadd, 1, 0, 0, 0, 0), (826, 0, rx_h_ald (fun t => Nat.beq t 13), .iaload, 1, 0, 0, 0, 0), (827, 0, rx_h_ld rx_isR 0 1, .aload_n 0, 1, 0, 0, 0, 0), (828, 0, rx_h_ld rx_isI 3 1, .iload_n 3, 1, 0, 0, 0, 0), (829, 0, rx_h_psh 1, .iconst 2, 1, 2, 0, 0, 0), (830, 0, rx_h_ar rx_f_add rx_g32, .iadd, 1, 0, 0, 0, 0), (831, 0, rx_h_ald (fun t => Nat.beq t 13), .iaload, 1, 0, 0, 0, 0)]
noncomputable def rxL_52 : List rx_E := [(832, 0, rx_h_ld rx_isR 0 1, .aload_n 0, 1, 0, 0, 0, 0), (833, 0, rx_h_ld rx_isI 3 1, .iload_n 3, 1, 0, 0, 0, 0), (834, 0, rx_h_psh 1, .iconst 3, 1, 3, 0, 0, 0), (835, 0, rx_h_ar rx_f_add rx_g32, .iadd, 1, 0, 0, 0, 0), (836, 0, rx_h_ald (fun t => Nat.beq t 13), .iaload, 1, 0, 0, 0, 0), (837, 4, rx_h_no, .invokevirtual 104, 3, 126, 44, 7, 179), (840, 0, rx_h_icmp .eq, .if_icmp .eq 571, 3, 1411, 0, 0, 0), (845, 0, rx_h_ld rx_isR 1 1, .aload_n 1, 1, 0, 0, 0, 0), (846, 0, rx_h_ld rx_isR 0 1, .aload_n 0, 1, 0, 0, 0, 0), (847, 0, rx_h_ld rx_isI 3 1, .iload_n 3, 1, 0, 0, 0, 0)]
noncomputable def rxL_53 : List rx_E := [(848, 0, rx_h_psh 1, .iconst 1, 1, 1, 0, 0, 0), (849, 0, rx_h_ar rx_f_add rx_g32, .iadd, 1, 0, 0, 0, 0), (850, 0, rx_h_ald (fun t => Nat.beq t 13), .iaload, 1, 0, 0, 0, 0), (851, 4, rx_h_no, .invokevirtual 105, 3, 109, 40, 4, 231), (854, 0, rx_h_ld rx_isR 2 1, .aload_n 2, 1, 0, 0, 0, 0), (855, 0, rx_h_ld rx_isR 0 1, .aload_n 0, 1, 0, 0, 0, 0), (856, 0, rx_h_ld rx_isI 3 1, .iload_n 3, 1, 0, 0, 0, 0), (857, 0, rx_h_psh 1, .iconst 1, 1, 1, 0, 0, 0), (858, 0, rx_h_ar rx_f_add rx_g32, .iadd, 1, 0, 0, 0, 0), (859, 0, rx_h_ald (fun t => Nat.beq t 13), .iaload, 1, 0, 0, 0, 0), (860, 4, rx_h_no, .invokevirtual 108, 3, 127, 44, 7, 187), (863, 0, rx_h_icmp .eq, .if_icmp .eq 548, 3, 1411, 0, 0, 0)]
noncomputable def rxL_54 : List rx_E := [(868, 0, rx_h_ld rx_isR 1 1, .aload_n 1, 1, 0, 0, 0, 0), (869, 0, rx_h_ld rx_isR 0 1, .aload_n 0, 1, 0, 0, 0, 0), (870, 0, rx_h_ld rx_isI 3 1, .iload_n 3, 1, 0, 0, 0, 0), (871, 0, rx_h_psh 1, .iconst 1, 1, 1, 0, 0, 0), (872, 0, rx_h_ar rx_f_add rx_g32, .iadd, 1, 0, 0, 0, 0), (873, 0, rx_h_ald (fun t => Nat.beq t 13), .iaload, 1, 0, 0, 0, 0), (874, 4, rx_h_no, .invokevirtual 109, 3, 24, 40, 4, 235), (877, 0, rx_h_ld rx_isR 2 1, .aload_n 2, 1, 0, 0, 0, 0), (878, 0, rx_h_ld rx_isR 0 1, .aload_n 0, 1, 0, 0, 0, 0), (879, 0, rx_h_ld rx_isI 3 1, .iload_n 3, 1, 0, 0, 0, 0)]
noncomputable def rxL_55 : List rx_E := [(880, 0, rx_h_psh 1, .iconst 1, 1, 1, 0, 0, 0), (881, 0, rx_h_ar rx_f_add rx_g32, .iadd, 1, 0, 0, 0, 0), (882, 0, rx_h_ald (fun t => Nat.beq t 13), .iaload, 1, 0, 0, 0, 0), (883, 4, rx_h_no, .invokevirtual 112, 3, 93, 44, 7, 195), (886, 0, rx_h_icmp .eq, .if_icmp .eq 525, 3, 1411, 0, 0, 0), (891, 0, rx_h_ld rx_isR 1 1, .aload_n 1, 1, 0, 0, 0, 0), (892, 0, rx_h_ld rx_isR 0 1, .aload_n 0, 1, 0, 0, 0, 0), (893, 0, rx_h_ld rx_isI 3 1, .iload_n 3, 1, 0, 0, 0, 0), (894, 0, rx_h_psh 1, .iconst 1, 1, 1, 0, 0, 0), (895, 0, rx_h_ar rx_f_add rx_g32, .iadd, 1, 0, 0, 0, 0)]
noncomputable def rxL_56 : List rx_E := [(896, 0, rx_h_ald (fun t => Nat.beq t 13), .iaload, 1, 0, 0, 0, 0), (897, 4, rx_h_no, .invokevirtual 113, 3, 110, 40, 5, 3), (900, 0, rx_h_ld rx_isR 2 1, .aload_n 2, 1, 0, 0, 0, 0), (901, 0, rx_h_ld rx_isR 0 1, .aload_n 0, 1, 0, 0, 0, 0), (902, 0, rx_h_ld rx_isI 3 1, .iload_n 3, 1, 0, 0, 0, 0), (903, 0, rx_h_psh 1, .iconst 1, 1, 1, 0, 0, 0), (904, 0, rx_h_ar rx_f_add rx_g32, .iadd, 1, 0, 0, 0, 0), (905, 0, rx_h_ald (fun t => Nat.beq t 13), .iaload, 1, 0, 0, 0, 0), (906, 4, rx_h_no, .invokevirtual 116, 3, 151, 44, 7, 203), (909, 0, rx_h_icmp .eq, .if_icmp .eq 502, 3, 1411, 0, 0, 0)]
noncomputable def rxL_57 : List rx_E := [(914, 0, rx_h_ld rx_isR 1 1, .aload_n 1, 1, 0, 0, 0, 0), (915, 0, rx_h_ld rx_isR 0 1, .aload_n 0, 1, 0, 0, 0, 0), (916, 0, rx_h_ld rx_isI 3 1, .iload_n 3, 1, 0, 0, 0, 0), (917, 0, rx_h_psh 1, .iconst 1, 1, 1, 0, 0, 0), (918, 0, rx_h_ar rx_f_add rx_g32, .iadd, 1, 0, 0, 0, 0), (919, 0, rx_h_ald (fun t => Nat.beq t 13), .iaload, 1, 0, 0, 0, 0), (920, 0, rx_h_ld rx_isR 0 1, .aload_n 0, 1, 0, 0, 0, 0), (921, 0, rx_h_ld rx_isI 3 1, .iload_n 3, 1, 0, 0, 0, 0), (922, 0, rx_h_psh 1, .iconst 2, 1, 2, 0, 0, 0), (923, 0, rx_h_ar rx_f_add rx_g32, .iadd, 1, 0, 0, 0, 0), (924, 0, rx_h_ald (fun t => Nat.beq t 13), .iaload, 1, 0, 0, 0, 0), (925, 4, rx_h_no, .invokevirtual 117, 3, 111, 40, 5, 28)]
noncomputable def rxL_58 : List rx_E := [(928, 0, rx_h_ld rx_isR 2 1, .aload_n 2, 1, 0, 0, 0, 0), (929, 0, rx_h_ld rx_isR 0 1, .aload_n 0, 1, 0, 0, 0, 0), (930, 0, rx_h_ld rx_isI 3 1, .iload_n 3, 1, 0, 0, 0, 0), (931, 0, rx_h_psh 1, .iconst 1, 1, 1, 0, 0, 0), (932, 0, rx_h_ar rx_f_add rx_g32, .iadd, 1, 0, 0, 0, 0), (933, 0, rx_h_ald (fun t => Nat.beq t 13), .iaload, 1, 0, 0, 0, 0), (934, 0, rx_h_ld rx_isR 0 1, .aload_n 0, 1, 0, 0, 0, 0), (935, 0, rx_h_ld rx_isI 3 1, .iload_n 3, 1, 0, 0, 0, 0), (936, 0, rx_h_psh 1, .iconst 2, 1, 2, 0, 0, 0), (937, 0, rx_h_ar rx_f_add rx_g32, .iadd, 1, 0, 0, 0, 0), (938, 0, rx_h_ald (fun t => Nat.beq t 13), .iaload, 1, 0, 0, 0, 0), (939, 4, rx_h_no, .invokevirtual 120, 3, 118, 44, 7, 63), (942, 0, rx_h_icmp .eq, .if_icmp .eq 469, 3, 1411, 0, 0, 0)]
noncomputable def rxL_59 : List rx_E := [(947, 0, rx_h_ld rx_isR 1 1, .aload_n 1, 1, 0, 0, 0, 0), (948, 4, rx_h_no, .invokevirtual 121, 3, 147, 40, 5, 37), (951, 0, rx_h_ld rx_isR 2 1, .aload_n 2, 1, 0, 0, 0, 0), (952, 4, rx_h_no, .invokevirtual 124, 3, 150, 44, 7, 91), (955, 0, rx_h_icmp .eq, .if_icmp .eq 456, 3, 1411, 0, 0, 0)]
noncomputable def rxL_60 : List rx_E := [(960, 0, rx_h_ld rx_isR 1 1, .aload_n 1, 1, 0, 0, 0, 0), (961, 0, rx_h_ld rx_isR 0 1, .aload_n 0, 1, 0, 0, 0, 0), (962, 0, rx_h_ld rx_isI 3 1, .iload_n 3, 1, 0, 0, 0, 0), (963, 0, rx_h_psh 1, .iconst 1, 1, 1, 0, 0, 0), (964, 0, rx_h_ar rx_f_add rx_g32, .iadd, 1, 0, 0, 0, 0), (965, 0, rx_h_ald (fun t => Nat.beq t 13), .iaload, 1, 0, 0, 0, 0), (966, 4, rx_h_no, .invokevirtual 125, 3, 112, 40, 5, 50), (969, 0, rx_h_ld rx_isR 2 1, .aload_n 2, 1, 0, 0, 0, 0), (970, 0, rx_h_ld rx_isR 0 1, .aload_n 0, 1, 0, 0, 0, 0), (971, 0, rx_h_ld rx_isI 3 1, .iload_n 3, 1, 0, 0, 0, 0), (972, 0, rx_h_psh 1, .iconst 1, 1, 1, 0, 0, 0), (973, 0, rx_h_ar rx_f_add rx_g32, .iadd, 1, 0, 0, 0, 0), (974, 0, rx_h_ald (fun t => Nat.beq t 13), .iaload, 1, 0, 0, 0, 0), (975, 4, rx_h_no, .invokevirtual 128, 3, 119, 44, 7, 108)]
noncomputable def rxL_61 : List rx_E := [(978, 0, rx_h_icmp .eq, .if_icmp .eq 433, 3, 1411, 0, 0, 0), (983, 0, rx_h_ld rx_isR 1 1, .aload_n 1, 1, 0, 0, 0, 0), (984, 0, rx_h_ld rx_isR 0 1, .aload_n 0, 1, 0, 0, 0, 0), (985, 0, rx_h_ld rx_isI 3 1, .iload_n 3, 1, 0, 0, 0, 0), (986, 0, rx_h_psh 1, .iconst 1, 1, 1, 0, 0, 0), (987, 0, rx_h_ar rx_f_add rx_g32, .iadd, 1, 0, 0, 0, 0), (988, 0, rx_h_ald (fun t => Nat.beq t 13), .iaload, 1, 0, 0, 0, 0), (989, 0, rx_h_ld rx_isR 0 1, .aload_n 0, 1, 0, 0, 0, 0), (990, 0, rx_h_ld rx_isI 3 1, .iload_n 3, 1, 0, 0, 0, 0), (991, 0, rx_h_psh 1, .iconst 2, 1, 2, 0, 0, 0)]
noncomputable def rxL_62 : List rx_E := [(992, 0, rx_h_ar rx_f_add rx_g32, .iadd, 1, 0, 0, 0, 0), (993, 0, rx_h_ald (fun t => Nat.beq t 13), .iaload, 1, 0, 0, 0, 0), (994, 4, rx_h_no, .invokevirtual 129, 3, 79, 40, 5, 54), (997, 0, rx_h_ld rx_isR 2 1, .aload_n 2, 1, 0, 0, 0, 0), (998, 0, rx_h_ld rx_isR 0 1, .aload_n 0, 1, 0, 0, 0, 0), (999, 0, rx_h_ld rx_isI 3 1, .iload_n 3, 1, 0, 0, 0, 0), (1000, 0, rx_h_psh 1, .iconst 1, 1, 1, 0, 0, 0), (1001, 0, rx_h_ar rx_f_add rx_g32, .iadd, 1, 0, 0, 0, 0), (1002, 0, rx_h_ald (fun t => Nat.beq t 13), .iaload, 1, 0, 0, 0, 0), (1003, 0, rx_h_ld rx_isR 0 1, .aload_n 0, 1, 0, 0, 0, 0), (1004, 0, rx_h_ld rx_isI 3 1, .iload_n 3, 1, 0, 0, 0, 0), (1005, 0, rx_h_psh 1, .iconst 2, 1, 2, 0, 0, 0), (1006, 0, rx_h_ar rx_f_add rx_g32, .iadd, 1, 0, 0, 0, 0), (1007, 0, rx_h_ald (fun t => Nat.beq t 13), .iaload, 1, 0, 0, 0, 0)]
noncomputable def rxL_63 : List rx_E := [(1008, 4, rx_h_no, .invokevirtual 132, 3, 134, 44, 8, 45), (1011, 0, rx_h_icmp .eq, .if_icmp .eq 400, 3, 1411, 0, 0, 0), (1016, 0, rx_h_ld rx_isR 1 1, .aload_n 1, 1, 0, 0, 0, 0), (1017, 0, rx_h_ld rx_isR 0 1, .aload_n 0, 1, 0, 0, 0, 0), (1018, 0, rx_h_ld rx_isI 3 1, .iload_n 3, 1, 0, 0, 0, 0), (1019, 0, rx_h_psh 1, .iconst 1, 1, 1, 0, 0, 0), (1020, 0, rx_h_ar rx_f_add rx_g32, .iadd, 1, 0, 0, 0, 0), (1021, 0, rx_h_ald (fun t => Nat.beq t 13), .iaload, 1, 0, 0, 0, 0), (1022, 0, rx_h_ld rx_isR 0 1, .aload_n 0, 1, 0, 0, 0, 0), (1023, 0, rx_h_ld rx_isI 3 1, .iload_n 3, 1, 0, 0, 0, 0)]
noncomputable def rxL_64 : List rx_E := [(1024, 0, rx_h_psh 1, .iconst 2, 1, 2, 0, 0, 0), (1025, 0, rx_h_ar rx_f_add rx_g32, .iadd, 1, 0, 0, 0, 0), (1026, 0, rx_h_ald (fun t => Nat.beq t 13), .iaload, 1, 0, 0, 0, 0), (1027, 4, rx_h_no, .invokevirtual 133, 3, 80, 40, 5, 58), (1030, 0, rx_h_ld rx_isR 2 1, .aload_n 2, 1, 0, 0, 0, 0), (1031, 0, rx_h_ld rx_isR 0 1, .aload_n 0, 1, 0, 0, 0, 0), (1032, 0, rx_h_ld rx_isI 3 1, .iload_n 3, 1, 0, 0, 0, 0), (1033, 0, rx_h_psh 1, .iconst 1, 1, 1, 0, 0, 0), (1034, 0, rx_h_ar rx_f_add rx_g32, .iadd, 1, 0, 0, 0, 0), (1035, 0, rx_h_ald (fun t => Nat.beq t 13), .iaload, 1, 0, 0, 0, 0), (1036, 0, rx_h_ld rx_isR 0 1, .aload_n 0, 1, 0, 0, 0, 0), (1037, 0, rx_h_ld rx_isI 3 1, .iload_n 3, 1, 0, 0, 0, 0), (1038, 0, rx_h_psh 1, .iconst 2, 1, 2, 0, 0, 0), (1039, 0, rx_h_ar rx_f_add rx_g32, .iadd, 1, 0, 0, 0, 0)]
noncomputable def rxL_65 : List rx_E := [(1040, 0, rx_h_ald (fun t => Nat.beq t 13), .iaload, 1, 0, 0, 0, 0), (1041, 4, rx_h_no, .invokevirtual 136, 3, 135, 44, 8, 97), (1044, 0, rx_h_icmp .eq, .if_icmp .eq 367, 3, 1411, 0, 0, 0), (1049, 0, rx_h_ld rx_isR 1 1, .aload_n 1, 1, 0, 0, 0, 0), (1050, 0, rx_h_ld rx_isR 0 1, .aload_n 0, 1, 0, 0, 0, 0), (1051, 0, rx_h_ld rx_isI 3 1, .iload_n 3, 1, 0, 0, 0, 0), (1052, 0, rx_h_psh 1, .iconst 1, 1, 1, 0, 0, 0), (1053, 0, rx_h_ar rx_f_add rx_g32, .iadd, 1, 0, 0, 0, 0), (1054, 0, rx_h_ald (fun t => Nat.beq t 13), .iaload, 1, 0, 0, 0, 0), (1055, 0, rx_h_ld rx_isR 0 1, .aload_n 0, 1, 0, 0, 0, 0)]
noncomputable def rxL_66 : List rx_E := [(1056, 0, rx_h_ld rx_isI 3 1, .iload_n 3, 1, 0, 0, 0, 0), (1057, 0, rx_h_psh 1, .iconst 2, 1, 2, 0, 0, 0), (1058, 0, rx_h_ar rx_f_add rx_g32, .iadd, 1, 0, 0, 0, 0), (1059, 0, rx_h_ald (fun t => Nat.beq t 13), .iaload, 1, 0, 0, 0, 0), (1060, 4, rx_h_no, .invokevirtual 137, 3, 81, 40, 5, 66), (1063, 0, rx_h_ld rx_isR 2 1, .aload_n 2, 1, 0, 0, 0, 0), (1064, 0, rx_h_ld rx_isR 0 1, .aload_n 0, 1, 0, 0, 0, 0), (1065, 0, rx_h_ld rx_isI 3 1, .iload_n 3, 1, 0, 0, 0, 0), (1066, 0, rx_h_psh 1, .iconst 1, 1, 1, 0, 0, 0), (1067, 0, rx_h_ar rx_f_add rx_g32, .iadd, 1, 0, 0, 0, 0), (1068, 0, rx_h_ald (fun t => Nat.beq t 13), .iaload, 1, 0, 0, 0, 0), (1069, 0, rx_h_ld rx_isR 0 1, .aload_n 0, 1, 0, 0, 0, 0), (1070, 0, rx_h_ld rx_isI 3 1, .iload_n 3, 1, 0, 0, 0, 0), (1071, 0, rx_h_psh 1, .iconst 2, 1, 2, 0, 0, 0)]
noncomputable def rxL_67 : List rx_E := [(1072, 0, rx_h_ar rx_f_add rx_g32, .iadd, 1, 0, 0, 0, 0), (1073, 0, rx_h_ald (fun t => Nat.beq t 13), .iaload, 1, 0, 0, 0, 0), (1074, 4, rx_h_no, .invokevirtual 140, 3, 129, 44, 7, 215), (1077, 0, rx_h_icmp .eq, .if_icmp .eq 334, 3, 1411, 0, 0, 0), (1082, 0, rx_h_ld rx_isR 1 1, .aload_n 1, 1, 0, 0, 0, 0), (1083, 0, rx_h_ld rx_isR 0 1, .aload_n 0, 1, 0, 0, 0, 0), (1084, 0, rx_h_ld rx_isI 3 1, .iload_n 3, 1, 0, 0, 0, 0), (1085, 0, rx_h_psh 1, .iconst 1, 1, 1, 0, 0, 0), (1086, 0, rx_h_ar rx_f_add rx_g32, .iadd, 1, 0, 0, 0, 0), (1087, 0, rx_h_ald (fun t => Nat.beq t 13), .iaload, 1, 0, 0, 0, 0)]
noncomputable def rxL_68 : List rx_E := [(1088, 4, rx_h_no, .invokevirtual 141, 3, 25, 40, 5, 78), (1091, 0, rx_h_ld rx_isR 2 1, .aload_n 2, 1, 0, 0, 0, 0), (1092, 0, rx_h_ld rx_isR 0 1, .aload_n 0, 1, 0, 0, 0, 0), (1093, 0, rx_h_ld rx_isI 3 1, .iload_n 3, 1, 0, 0, 0, 0), (1094, 0, rx_h_psh 1, .iconst 1, 1, 1, 0, 0, 0), (1095, 0, rx_h_ar rx_f_add rx_g32, .iadd, 1, 0, 0, 0, 0), (1096, 0, rx_h_ald (fun t => Nat.beq t 13), .iaload, 1, 0, 0, 0, 0), (1097, 4, rx_h_no, .invokevirtual 144, 3, 94, 44, 7, 235), (1100, 0, rx_h_icmp .eq, .if_icmp .eq 311, 3, 1411, 0, 0, 0)]
noncomputable def rxL_69 : List rx_E := [(1105, 0, rx_h_ld rx_isR 1 1, .aload_n 1, 1, 0, 0, 0, 0), (1106, 0, rx_h_ld rx_isR 0 1, .aload_n 0, 1, 0, 0, 0, 0), (1107, 0, rx_h_ld rx_isI 3 1, .iload_n 3, 1, 0, 0, 0, 0), (1108, 0, rx_h_psh 1, .iconst 1, 1, 1, 0, 0, 0), (1109, 0, rx_h_ar rx_f_add rx_g32, .iadd, 1, 0, 0, 0, 0), (1110, 0, rx_h_ald (fun t => Nat.beq t 13), .iaload, 1, 0, 0, 0, 0), (1111, 0, rx_h_ld rx_isR 0 1, .aload_n 0, 1, 0, 0, 0, 0), (1112, 0, rx_h_ld rx_isI 3 1, .iload_n 3, 1, 0, 0, 0, 0), (1113, 0, rx_h_psh 1, .iconst 2, 1, 2, 0, 0, 0), (1114, 0, rx_h_ar rx_f_add rx_g32, .iadd, 1, 0, 0, 0, 0), (1115, 0, rx_h_ald (fun t => Nat.beq t 13), .iaload, 1, 0, 0, 0, 0), (1116, 4, rx_h_no, .invokevirtual 145, 3, 82, 40, 5, 82), (1119, 0, rx_h_ld rx_isR 2 1, .aload_n 2, 1, 0, 0, 0, 0)]
noncomputable def rxL_70 : List rx_E := [(1120, 0, rx_h_ld rx_isR 0 1, .aload_n 0, 1, 0, 0, 0, 0), (1121, 0, rx_h_ld rx_isI 3 1, .iload_n 3, 1, 0, 0, 0, 0), (1122, 0, rx_h_psh 1, .iconst 1, 1, 1, 0, 0, 0), (1123, 0, rx_h_ar rx_f_add rx_g32, .iadd, 1, 0, 0, 0, 0), (1124, 0, rx_h_ald (fun t => Nat.beq t 13), .iaload, 1, 0, 0, 0, 0), (1125, 0, rx_h_ld rx_isR 0 1, .aload_n 0, 1, 0, 0, 0, 0), (1126, 0, rx_h_ld rx_isI 3 1, .iload_n 3, 1, 0, 0, 0, 0), (1127, 0, rx_h_psh 1, .iconst 2, 1, 2, 0, 0, 0), (1128, 0, rx_h_ar rx_f_add rx_g32, .iadd, 1, 0, 0, 0, 0), (1129, 0, rx_h_ald (fun t => Nat.beq t 13), .iaload, 1, 0, 0, 0, 0), (1130, 4, rx_h_no, .invokevirtual 148, 3, 152, 44, 7, 239), (1133, 0, rx_h_icmp .eq, .if_icmp .eq 278, 3, 1411, 0, 0, 0)]
noncomputable def rxL_71 : List rx_E := [(1138, 0, rx_h_ld rx_isR 1 1, .aload_n 1, 1, 0, 0, 0, 0), (1139, 4, rx_h_no, .invokevirtual 149, 3, 26, 40, 5, 86), (1142, 0, rx_h_ld rx_isR 2 1, .aload_n 2, 1, 0, 0, 0, 0), (1143, 4, rx_h_no, .invokevirtual 152, 3, 95, 44, 8, 15), (1146, 0, rx_h_icmp .eq, .if_icmp .eq 265, 3, 1411, 0, 0, 0), (1151, 0, rx_h_ld rx_isR 1 1, .aload_n 1, 1, 0, 0, 0, 0)]
noncomputable def rxL_72 : List rx_E := [(1152, 0, rx_h_ld rx_isR 0 1, .aload_n 0, 1, 0, 0, 0, 0), (1153, 0, rx_h_ld rx_isI 3 1, .iload_n 3, 1, 0, 0, 0, 0), (1154, 0, rx_h_psh 1, .iconst 1, 1, 1, 0, 0, 0), (1155, 0, rx_h_ar rx_f_add rx_g32, .iadd, 1, 0, 0, 0, 0), (1156, 0, rx_h_ald (fun t => Nat.beq t 13), .iaload, 1, 0, 0, 0, 0), (1157, 0, rx_h_ld rx_isR 0 1, .aload_n 0, 1, 0, 0, 0, 0), (1158, 0, rx_h_ld rx_isI 3 1, .iload_n 3, 1, 0, 0, 0, 0), (1159, 0, rx_h_psh 1, .iconst 2, 1, 2, 0, 0, 0), (1160, 0, rx_h_ar rx_f_add rx_g32, .iadd, 1, 0, 0, 0, 0), (1161, 0, rx_h_ald (fun t => Nat.beq t 13), .iaload, 1, 0, 0, 0, 0), (1162, 4, rx_h_no, .invokevirtual 153, 3, 83, 40, 5, 90), (1165, 0, rx_h_ld rx_isR 2 1, .aload_n 2, 1, 0, 0, 0, 0), (1166, 0, rx_h_ld rx_isR 0 1, .aload_n 0, 1, 0, 0, 0, 0), (1167, 0, rx_h_ld rx_isI 3 1, .iload_n 3, 1, 0, 0, 0, 0)]
noncomputable def rxL_73 : List rx_E := [(1168, 0, rx_h_psh 1, .iconst 1, 1, 1, 0, 0, 0), (1169, 0, rx_h_ar rx_f_add rx_g32, .iadd, 1, 0, 0, 0, 0), (1170, 0, rx_h_ald (fun t => Nat.beq t 13), .iaload, 1, 0, 0, 0, 0), (1171, 0, rx_h_ld rx_isR 0 1, .aload_n 0, 1, 0, 0, 0, 0), (1172, 0, rx_h_ld rx_isI 3 1, .iload_n 3, 1, 0, 0, 0, 0), (1173, 0, rx_h_psh 1, .iconst 2, 1, 2, 0, 0, 0), (1174, 0, rx_h_ar rx_f_add rx_g32, .iadd, 1, 0, 0, 0, 0), (1175, 0, rx_h_ald (fun t => Nat.beq t 13), .iaload, 1, 0, 0, 0, 0), (1176, 4, rx_h_no, .invokevirtual 156, 3, 133, 44, 8, 37), (1179, 0, rx_h_icmp .eq, .if_icmp .eq 232, 3, 1411, 0, 0, 0)]
noncomputable def rxL_74 : List rx_E := [(1184, 0, rx_h_ld rx_isR 1 1, .aload_n 1, 1, 0, 0, 0, 0), (1185, 0, rx_h_ld rx_isR 0 1, .aload_n 0, 1, 0, 0, 0, 0), (1186, 0, rx_h_ld rx_isI 3 1, .iload_n 3, 1, 0, 0, 0, 0), (1187, 0, rx_h_psh 1, .iconst 1, 1, 1, 0, 0, 0), (1188, 0, rx_h_ar rx_f_add rx_g32, .iadd, 1, 0, 0, 0, 0), (1189, 0, rx_h_ald (fun t => Nat.beq t 13), .iaload, 1, 0, 0, 0, 0), (1190, 0, rx_h_ld rx_isR 0 1, .aload_n 0, 1, 0, 0, 0, 0), (1191, 0, rx_h_ld rx_isI 3 1, .iload_n 3, 1, 0, 0, 0, 0), (1192, 0, rx_h_psh 1, .iconst 2, 1, 2, 0, 0, 0), (1193, 0, rx_h_ar rx_f_add rx_g32, .iadd, 1, 0, 0, 0, 0), (1194, 0, rx_h_ald (fun t => Nat.beq t 13), .iaload, 1, 0, 0, 0, 0), (1195, 0, rx_h_ld rx_isR 0 1, .aload_n 0, 1, 0, 0, 0, 0), (1196, 0, rx_h_ld rx_isI 3 1, .iload_n 3, 1, 0, 0, 0, 0), (1197, 0, rx_h_psh 1, .iconst 3, 1, 3, 0, 0, 0), (1198, 0, rx_h_ar rx_f_add rx_g32, .iadd, 1, 0, 0, 0, 0), (1199, 0, rx_h_ald (fun t => Nat.beq t 13), .iaload, 1, 0, 0, 0, 0)]
noncomputable def rxL_75 : List rx_E := [(1200, 4, rx_h_no, .invokevirtual 157, 3, 84, 40, 5, 110), (1203, 0, rx_h_ld rx_isR 2 1, .aload_n 2, 1, 0, 0, 0, 0), (1204, 0, rx_h_ld rx_isR 0 1, .aload_n 0, 1, 0, 0, 0, 0), (1205, 0, rx_h_ld rx_isI 3 1, .iload_n 3, 1, 0, 0, 0, 0), (1206, 0, rx_h_psh 1, .iconst 1, 1, 1, 0, 0, 0), (1207, 0, rx_h_ar rx_f_add rx_g32, .iadd, 1, 0, 0, 0, 0), (1208, 0, rx_h_ald (fun t => Nat.beq t 13), .iaload, 1, 0, 0, 0, 0), (1209, 0, rx_h_ld rx_isR 0 1, .aload_n 0, 1, 0, 0, 0, 0), (1210, 0, rx_h_ld rx_isI 3 1, .iload_n 3, 1, 0, 0, 0, 0), (1211, 0, rx_h_psh 1, .iconst 2, 1, 2, 0, 0, 0), (1212, 0, rx_h_ar rx_f_add rx_g32, .iadd, 1, 0, 0, 0, 0), (1213, 0, rx_h_ald (fun t => Nat.beq t 13), .iaload, 1, 0, 0, 0, 0), (1214, 0, rx_h_ld rx_isR 0 1, .aload_n 0, 1, 0, 0, 0, 0), (1215, 0, rx_h_ld rx_isI 3 1, .iload_n 3, 1, 0, 0, 0, 0)]
noncomputable def rxL_76 : List rx_E := [(1216, 0, rx_h_psh 1, .iconst 3, 1, 3, 0, 0, 0), (1217, 0, rx_h_ar rx_f_add rx_g32, .iadd, 1, 0, 0, 0, 0), (1218, 0, rx_h_ald (fun t => Nat.beq t 13), .iaload, 1, 0, 0, 0, 0), (1219, 4, rx_h_no, .invokevirtual 160, 3, 131, 44, 8, 20), (1222, 0, rx_h_icmp .eq, .if_icmp .eq 189, 3, 1411, 0, 0, 0), (1227, 0, rx_h_ld rx_isR 1 1, .aload_n 1, 1, 0, 0, 0, 0), (1228, 4, rx_h_no, .invokevirtual 161, 3, 113, 40, 5, 114), (1231, 0, rx_h_ld rx_isR 2 1, .aload_n 2, 1, 0, 0, 0, 0)]
noncomputable def rxL_77 : List rx_E := [(1232, 4, rx_h_no, .invokevirtual 164, 3, 132, 44, 8, 25), (1235, 0, rx_h_icmp .eq, .if_icmp .eq 176, 3, 1411, 0, 0, 0), (1240, 0, rx_h_ld rx_isR 1 1, .aload_n 1, 1, 0, 0, 0, 0), (1241, 0, rx_h_ld rx_isR 0 1, .aload_n 0, 1, 0, 0, 0, 0), (1242, 0, rx_h_ld rx_isI 3 1, .iload_n 3, 1, 0, 0, 0, 0), (1243, 0, rx_h_psh 1, .iconst 1, 1, 1, 0, 0, 0), (1244, 0, rx_h_ar rx_f_add rx_g32, .iadd, 1, 0, 0, 0, 0), (1245, 0, rx_h_ald (fun t => Nat.beq t 13), .iaload, 1, 0, 0, 0, 0), (1246, 0, rx_h_ld rx_isR 0 1, .aload_n 0, 1, 0, 0, 0, 0), (1247, 0, rx_h_ld rx_isI 3 1, .iload_n 3, 1, 0, 0, 0, 0)]
noncomputable def rxL_78 : List rx_E := [(1248, 0, rx_h_psh 1, .iconst 2, 1, 2, 0, 0, 0), (1249, 0, rx_h_ar rx_f_add rx_g32, .iadd, 1, 0, 0, 0, 0), (1250, 0, rx_h_ald (fun t => Nat.beq t 13), .iaload, 1, 0, 0, 0, 0), (1251, 0, rx_h_ld rx_isR 0 1, .aload_n 0, 1, 0, 0, 0, 0), (1252, 0, rx_h_ld rx_isI 3 1, .iload_n 3, 1, 0, 0, 0, 0), (1253, 0, rx_h_psh 1, .iconst 3, 1, 3, 0, 0, 0), (1254, 0, rx_h_ar rx_f_add rx_g32, .iadd, 1, 0, 0, 0, 0), (1255, 0, rx_h_ald (fun t => Nat.beq t 13), .iaload, 1, 0, 0, 0, 0), (1256, 4, rx_h_no, .invokevirtual 165, 3, 27, 40, 5, 127), (1259, 0, rx_h_ld rx_isR 2 1, .aload_n 2, 1, 0, 0, 0, 0), (1260, 0, rx_h_ld rx_isR 0 1, .aload_n 0, 1, 0, 0, 0, 0), (1261, 0, rx_h_ld rx_isI 3 1, .iload_n 3, 1, 0, 0, 0, 0), (1262, 0, rx_h_psh 1, .iconst 1, 1, 1, 0, 0, 0), (1263, 0, rx_h_ar rx_f_add rx_g32, .iadd, 1, 0, 0, 0, 0)]
noncomputable def rxL_79 : List rx_E := [(1264, 0, rx_h_ald (fun t => Nat.beq t 13), .iaload, 1, 0, 0, 0, 0), (1265, 0, rx_h_ld rx_isR 0 1, .aload_n 0, 1, 0, 0, 0, 0), (1266, 0, rx_h_ld rx_isI 3 1, .iload_n 3, 1, 0, 0, 0, 0), (1267, 0, rx_h_psh 1, .iconst 2, 1, 2, 0, 0, 0), (1268, 0, rx_h_ar rx_f_add rx_g32, .iadd, 1, 0, 0, 0, 0), (1269, 0, rx_h_ald (fun t => Nat.beq t 13), .iaload, 1, 0, 0, 0, 0), (1270, 0, rx_h_ld rx_isR 0 1, .aload_n 0, 1, 0, 0, 0, 0), (1271, 0, rx_h_ld rx_isI 3 1, .iload_n 3, 1, 0, 0, 0, 0), (1272, 0, rx_h_psh 1, .iconst 3, 1, 3, 0, 0, 0), (1273, 0, rx_h_ar rx_f_add rx_g32, .iadd, 1, 0, 0, 0, 0), (1274, 0, rx_h_ald (fun t => Nat.beq t 13), .iaload, 1, 0, 0, 0, 0), (1275, 4, rx_h_no, .invokevirtual 168, 3, 101, 44, 8, 169), (1278, 0, rx_h_icmp .eq, .if_icmp .eq 133, 3, 1411, 0, 0, 0)]
noncomputable def rxL_80 : List rx_E := [(1283, 0, rx_h_ld rx_isR 1 1, .aload_n 1, 1, 0, 0, 0, 0), (1284, 0, rx_h_ld rx_isR 0 1, .aload_n 0, 1, 0, 0, 0, 0), (1285, 0, rx_h_ld rx_isI 3 1, .iload_n 3, 1, 0, 0, 0, 0), (1286, 0, rx_h_psh 1, .iconst 1, 1, 1, 0, 0, 0), (1287, 0, rx_h_ar rx_f_add rx_g32, .iadd, 1, 0, 0, 0, 0), (1288, 0, rx_h_ald (fun t => Nat.beq t 13), .iaload, 1, 0, 0, 0, 0), (1289, 0, rx_h_ld rx_isR 0 1, .aload_n 0, 1, 0, 0, 0, 0), (1290, 0, rx_h_ld rx_isI 3 1, .iload_n 3, 1, 0, 0, 0, 0), (1291, 0, rx_h_psh 1, .iconst 2, 1, 2, 0, 0, 0), (1292, 0, rx_h_ar rx_f_add rx_g32, .iadd, 1, 0, 0, 0, 0), (1293, 0, rx_h_ald (fun t => Nat.beq t 13), .iaload, 1, 0, 0, 0, 0), (1294, 4, rx_h_no, .invokevirtual 169, 3, 85, 40, 5, 146)]
noncomputable def rxL_81 : List rx_E := [(1297, 0, rx_h_ld rx_isR 2 1, .aload_n 2, 1, 0, 0, 0, 0), (1298, 0, rx_h_ld rx_isR 0 1, .aload_n 0, 1, 0, 0, 0, 0), (1299, 0, rx_h_ld rx_isI 3 1, .iload_n 3, 1, 0, 0, 0, 0), (1300, 0, rx_h_psh 1, .iconst 1, 1, 1, 0, 0, 0), (1301, 0, rx_h_ar rx_f_add rx_g32, .iadd, 1, 0, 0, 0, 0), (1302, 0, rx_h_ald (fun t => Nat.beq t 13), .iaload, 1, 0, 0, 0, 0), (1303, 0, rx_h_ld rx_isR 0 1, .aload_n 0, 1, 0, 0, 0, 0), (1304, 0, rx_h_ld rx_isI 3 1, .iload_n 3, 1, 0, 0, 0, 0), (1305, 0, rx_h_psh 1, .iconst 2, 1, 2, 0, 0, 0), (1306, 0, rx_h_ar rx_f_add rx_g32, .iadd, 1, 0, 0, 0, 0), (1307, 0, rx_h_ald (fun t => Nat.beq t 13), .iaload, 1, 0, 0, 0, 0), (1308, 4, rx_h_no, .invokevirtual 172, 3, 141, 44, 8, 149), (1311, 0, rx_h_icmp .eq, .if_icmp .eq 100, 3, 1411, 0, 0, 0)]
noncomputable def rxL_82 : List rx_E := [(1316, 0, rx_h_ld rx_isR 1 1, .aload_n 1, 1, 0, 0, 0, 0), (1317, 4, rx_h_no, .invokevirtual 173, 3, 156, 40, 5, 152), (1320, 0, rx_h_ld rx_isR 2 1, .aload_n 2, 1, 0, 0, 0, 0), (1321, 4, rx_h_no, .invokevirtual 176, 3, 100, 44, 8, 157), (1324, 0, rx_h_icmp .eq, .if_icmp .eq 87, 3, 1411, 0, 0, 0)]
noncomputable def rxL_83 : List rx_E := [(1329, 0, rx_h_ld rx_isR 1 1, .aload_n 1, 1, 0, 0, 0, 0), (1330, 4, rx_h_no, .invokevirtual 177, 3, 157, 40, 5, 160), (1333, 0, rx_h_ld rx_isR 2 1, .aload_n 2, 1, 0, 0, 0, 0), (1334, 4, rx_h_no, .invokevirtual 180, 3, 161, 44, 8, 165), (1337, 0, rx_h_icmp .eq, .if_icmp .eq 74, 3, 1411, 0, 0, 0), (1342, 0, rx_h_ld rx_isR 1 1, .aload_n 1, 1, 0, 0, 0, 0), (1343, 0, rx_h_ld rx_isR 0 1, .aload_n 0, 1, 0, 0, 0, 0)]
noncomputable def rxL_84 : List rx_E := [(1344, 0, rx_h_ld rx_isI 3 1, .iload_n 3, 1, 0, 0, 0, 0), (1345, 0, rx_h_psh 1, .iconst 1, 1, 1, 0, 0, 0), (1346, 0, rx_h_ar rx_f_add rx_g32, .iadd, 1, 0, 0, 0, 0), (1347, 0, rx_h_ald (fun t => Nat.beq t 13), .iaload, 1, 0, 0, 0, 0), (1348, 4, rx_h_no, .invokevirtual 181, 3, 114, 40, 5, 164), (1351, 0, rx_h_ld rx_isR 2 1, .aload_n 2, 1, 0, 0, 0, 0), (1352, 0, rx_h_ld rx_isR 0 1, .aload_n 0, 1, 0, 0, 0, 0), (1353, 0, rx_h_ld rx_isI 3 1, .iload_n 3, 1, 0, 0, 0, 0), (1354, 0, rx_h_psh 1, .iconst 1, 1, 1, 0, 0, 0), (1355, 0, rx_h_ar rx_f_add rx_g32, .iadd, 1, 0, 0, 0, 0), (1356, 0, rx_h_ald (fun t => Nat.beq t 13), .iaload, 1, 0, 0, 0, 0), (1357, 4, rx_h_no, .invokevirtual 184, 3, 102, 44, 8, 209)]
noncomputable def rxL_85 : List rx_E := [(1360, 0, rx_h_icmp .eq, .if_icmp .eq 51, 3, 1411, 0, 0, 0), (1365, 0, rx_h_ld rx_isR 1 1, .aload_n 1, 1, 0, 0, 0, 0), (1366, 0, rx_h_ld rx_isR 0 1, .aload_n 0, 1, 0, 0, 0, 0), (1367, 0, rx_h_ld rx_isI 3 1, .iload_n 3, 1, 0, 0, 0, 0), (1368, 0, rx_h_psh 1, .iconst 1, 1, 1, 0, 0, 0), (1369, 0, rx_h_ar rx_f_add rx_g32, .iadd, 1, 0, 0, 0, 0), (1370, 0, rx_h_ald (fun t => Nat.beq t 13), .iaload, 1, 0, 0, 0, 0), (1371, 4, rx_h_no, .invokevirtual 185, 3, 28, 40, 5, 168), (1374, 0, rx_h_ld rx_isR 2 1, .aload_n 2, 1, 0, 0, 0, 0), (1375, 0, rx_h_ld rx_isR 0 1, .aload_n 0, 1, 0, 0, 0, 0)]
noncomputable def rxL_86 : List rx_E := [(1376, 0, rx_h_ld rx_isI 3 1, .iload_n 3, 1, 0, 0, 0, 0), (1377, 0, rx_h_psh 1, .iconst 1, 1, 1, 0, 0, 0), (1378, 0, rx_h_ar rx_f_add rx_g32, .iadd, 1, 0, 0, 0, 0), (1379, 0, rx_h_ald (fun t => Nat.beq t 13), .iaload, 1, 0, 0, 0, 0), (1380, 4, rx_h_no, .invokevirtual 188, 3, 103, 44, 8, 213), (1383, 0, rx_h_icmp .eq, .if_icmp .eq 28, 3, 1411, 0, 0, 0), (1388, 0, rx_h_ld rx_isR 1 1, .aload_n 1, 1, 0, 0, 0, 0), (1389, 0, rx_h_ld rx_isR 0 1, .aload_n 0, 1, 0, 0, 0, 0), (1390, 0, rx_h_ld rx_isI 3 1, .iload_n 3, 1, 0, 0, 0, 0), (1391, 0, rx_h_psh 1, .iconst 1, 1, 1, 0, 0, 0)]
noncomputable def rxL_87 : List rx_E := [(1392, 0, rx_h_ar rx_f_add rx_g32, .iadd, 1, 0, 0, 0, 0), (1393, 0, rx_h_ald (fun t => Nat.beq t 13), .iaload, 1, 0, 0, 0, 0), (1394, 4, rx_h_no, .invokevirtual 189, 3, 86, 40, 5, 172), (1397, 0, rx_h_ld rx_isR 2 1, .aload_n 2, 1, 0, 0, 0, 0), (1398, 0, rx_h_ld rx_isR 0 1, .aload_n 0, 1, 0, 0, 0, 0), (1399, 0, rx_h_ld rx_isI 3 1, .iload_n 3, 1, 0, 0, 0, 0), (1400, 0, rx_h_psh 1, .iconst 1, 1, 1, 0, 0, 0), (1401, 0, rx_h_ar rx_f_add rx_g32, .iadd, 1, 0, 0, 0, 0), (1402, 0, rx_h_ald (fun t => Nat.beq t 13), .iaload, 1, 0, 0, 0, 0), (1403, 4, rx_h_no, .invokevirtual 192, 3, 144, 44, 8, 217), (1406, 0, rx_h_icmp .eq, .if_icmp .eq 5, 3, 1411, 0, 0, 0)]
noncomputable def rxL_88 : List rx_E := [(1411, 0, rx_h_inc 3, .iinc 3 6, 3, 6, 0, 0, 0), (1414, 0, rx_h_goto, .goto (-1396), 3, 18, 0, 0, 0), (1417, 0, rx_h_psh 1, .iconst 1, 1, 1, 0, 0, 0), (1418, 1, rx_h_no, .ireturn, 1, 0, 0, 0, 0)]
/-- TurnNetLaw.law([I)Z -/
noncomputable def rxm_164 : rx_M := ((4, 7, 155, 205, 8956, 1, 2, 0), [rxL_0,
  rxL_1,
  rxL_2,
  rxL_3,
  rxL_4,
  rxL_5,
  rxL_6,
  rxL_7,
  rxL_8,
  rxL_9,
  rxL_10,
  rxL_11,
  rxL_12,
  rxL_13,
  rxL_14,
  rxL_15,
  rxL_16,
  rxL_17,
  rxL_18,
  rxL_19,
  rxL_20,
  rxL_21,
  rxL_22,
  rxL_23,
  rxL_24,
  rxL_25,
  rxL_26,
  rxL_27,
  rxL_28,
  rxL_29,
  rxL_30,
  rxL_31,
  rxL_32,
  rxL_33,
  rxL_34,
  rxL_35,
  rxL_36,
  rxL_37,
  rxL_38,
  rxL_39,
  rxL_40,
  rxL_41,
  rxL_42,
  rxL_43,
  rxL_44,
  rxL_45,
  rxL_46,
  rxL_47,
  rxL_48,
  rxL_49,
  rxL_50,
  rxL_51,
  rxL_52,
  rxL_53,
  rxL_54,
  rxL_55,
  rxL_56,
  rxL_57,
  rxL_58,
  rxL_59,
  rxL_60,
  rxL_61,
  rxL_62,
  rxL_63,
  rxL_64,
  rxL_65,
  rxL_66,
  rxL_67,
  rxL_68,
  rxL_69,
  rxL_70,
  rxL_71,
  rxL_72,
  rxL_73,
  rxL_74,
  rxL_75,
  rxL_76,
  rxL_77,
  rxL_78,
  rxL_79,
  rxL_80,
  rxL_81,
  rxL_82,
  rxL_83,
  rxL_84,
  rxL_85,
  rxL_86,
  rxL_87,
  rxL_88], (yL_law, cL_law, (some .boolean)), ((0, 0), (0, 0), (0, 0), (0, 0)))
noncomputable def rx_DF : List (List Nat) := [[2, 2, 2, 2, 2],
  [2, 0, 0, 0],
  [0, 0, 0, 0, 0, 0, 2, 2, 2, 2, 2, 2],
  [2, 2, 2, 2, 2],
  [2, 2, 2, 0, 0],
  [2, 0, 2, 0, 0, 0, 0, 0, 0, 0, 0, 0],
  [2, 0, 0, 0, 0, 2, 2, 2, 2, 2, 2, 2],
  [0, 0, 0, 0, 0, 2, 2, 2, 2],
  [2, 0, 0],
  [2, 2, 2],
  [2, 2, 2, 2, 2, 2, 2, 2, 2, 2, 2, 2, 2, 2],
  [2, 2, 2, 2, 2, 2, 2, 2, 2, 0, 2, 0, 0, 0, 0, 0, 0, 0, 0, 0, 0, 0, 2, 0, 0, 0, 2, 0, 0, 2, 2, 2, 2, 2, 2, 2, 2, 2, 2, 2, 0, 0, 0, 0, 2, 2, 2, 2, 2, 0, 0, 0, 0, 2, 2, 2, 0, 0]]
noncomputable def rx_FK : List (List Nat) := [[2, 2, 2, 2, 2],
  [2, 0, 0, 0],
  [0, 0, 0, 0, 0, 0, 2, 2, 2, 2, 2, 2],
  [2, 2, 2, 2, 2],
  [2, 2, 2, 0, 0],
  [2, 0, 2, 0, 0, 0, 0, 0, 0, 1, 1, 1],
  [2, 0, 0, 1, 1, 2, 2, 2, 2, 2, 2, 2],
  [0, 0, 0, 0, 0, 2, 2, 2, 2],
  [2, 0, 0],
  [2, 2, 2],
  [2, 2, 2, 2, 2, 2, 2, 2, 2, 2, 2, 2, 2, 2],
  [2, 2, 2, 2, 2, 2, 2, 2, 2, 0, 2, 0, 0, 0, 0, 0, 0, 0, 0, 0, 0, 0, 2, 1, 1, 1, 2, 0, 0, 2, 2, 2, 2, 2, 2, 2, 2, 2, 2, 2, 0, 0, 0, 0, 2, 2, 2, 2, 2, 0, 0, 0, 0, 2, 2, 2, 0, 0]]
noncomputable def rx_P : List rx_M := [rxm_0, rxm_1, rxm_2, rxm_3, rxm_4, rxm_5, rxm_6, rxm_7, rxm_8, rxm_9, rxm_10, rxm_11, rxm_12, rxm_13, rxm_14, rxm_15, rxm_16, rxm_17, rxm_18, rxm_19, rxm_20, rxm_21, rxm_22, rxm_23, rxm_24, rxm_25, rxm_26, rxm_27, rxm_28, rxm_29, rxm_30, rxm_31, rxm_32, rxm_33, rxm_34, rxm_35, rxm_36, rxm_37, rxm_38, rxm_39, rxm_40, rxm_41, rxm_42, rxm_43, rxm_44, rxm_45, rxm_46, rxm_47, rxm_48, rxm_49, rxm_50, rxm_51, rxm_52, rxm_53, rxm_54, rxm_55, rxm_56, rxm_57, rxm_58, rxm_59, rxm_60, rxm_61, rxm_62, rxm_63, rxm_64, rxm_65, rxm_66, rxm_67, rxm_68, rxm_69, rxm_70, rxm_71, rxm_72, rxm_73, rxm_74, rxm_75, rxm_76, rxm_77, rxm_78, rxm_79, rxm_80, rxm_81, rxm_82, rxm_83, rxm_84, rxm_85, rxm_86, rxm_87, rxm_88, rxm_89, rxm_90, rxm_91, rxm_92, rxm_93, rxm_94, rxm_95, rxm_96, rxm_97, rxm_98, rxm_99, rxm_100, rxm_101, rxm_102, rxm_103, rxm_104, rxm_105, rxm_106, rxm_107, rxm_108, rxm_109, rxm_110, rxm_111, rxm_112, rxm_113, rxm_114, rxm_115, rxm_116, rxm_117, rxm_118, rxm_119, rxm_120, rxm_121, rxm_122, rxm_123, rxm_124, rxm_125, rxm_126, rxm_127, rxm_128, rxm_129, rxm_130, rxm_131, rxm_132, rxm_133, rxm_134, rxm_135, rxm_136, rxm_137, rxm_138, rxm_139, rxm_140, rxm_141, rxm_142, rxm_143, rxm_144, rxm_145, rxm_146, rxm_147, rxm_148, rxm_149, rxm_150, rxm_151, rxm_152, rxm_153, rxm_154, rxm_155, rxm_156, rxm_157, rxm_158, rxm_159, rxm_160, rxm_161, rxm_162, rxm_163]
end
section
-- lists by places
theorem rx_nth_eq {α : Type} (l : List α) : ∀ i, rx_nth l i = l[i]? := by
  induction l with
  | nil => intro i; simp [rx_nth]
  | cons x t ih =>
    intro i
    cases i with
    | zero => rfl
    | succ j => exact (ih j).trans (by simp)
theorem rx_upd_eq {α : Type} (l : List α) : ∀ i v, rx_upd l i v = l.set i v := by
  induction l with
  | nil => intro i v; simp [rx_upd]
  | cons x t ih =>
    intro i v
    cases i with
    | zero => rfl
    | succ j => exact congrArg (fun z => x :: z) (ih j v)
theorem rx_len_eq {α : Type} (l : List α) : rx_len l = l.length := by
  induction l with
  | nil => rfl
  | cons x t ih => exact congrArg Nat.succ ih
-- the tree
theorem rx_tg_ts (n : Nat) : ∀ (t : rx_T n) (k k' : Nat) (c : rx_C), k < 2 ^ n → k' < 2 ^ n → rx_tg n (rx_ts n t k c) k' = if k' = k then some c else rx_tg n t k' := by
  induction n with
  | zero =>
    intro t k k' c h h'
    have e : k' = k := by simp at h h'; omega
    rw [if_pos e]
    rfl
  | succ n ih =>
    intro t k k' c h h'
    have hk : k / 2 < 2 ^ n := by rw [Nat.pow_succ] at h; omega
    have hk' : k' / 2 < 2 ^ n := by rw [Nat.pow_succ] at h'; omega
    have one : ∀ (u : rx_T n × rx_T n) (j : Nat), rx_tg (n + 1) u j = bif Nat.beq (j % 2) 0 then rx_tg n u.1 (j / 2) else rx_tg n u.2 (j / 2) := fun u j => rfl
    have two : ∀ (u : rx_T n × rx_T n) (j : Nat), rx_ts (n + 1) u j c = (bif Nat.beq (j % 2) 0 then ((rx_ts n u.1 (j / 2) c, u.2) : rx_T n × rx_T n) else ((u.1, rx_ts n u.2 (j / 2) c) : rx_T n × rx_T n)) := fun u j => rfl
    rw [two t k, one, one t k']
    by_cases e0 : k % 2 = 0 <;> by_cases e1 : k' % 2 = 0
    · rw [show Nat.beq (k % 2) 0 = true by rw [e0]; rfl, show Nat.beq (k' % 2) 0 = true by rw [e1]; rfl]
      simp only [cond_true]
      rw [ih _ _ _ _ hk hk']
      by_cases e : k' = k
      · rw [if_pos e, if_pos (by rw [e])]
      · rw [if_neg e, if_neg (by omega)]
    · rw [show Nat.beq (k % 2) 0 = true by rw [e0]; rfl, show Nat.beq (k' % 2) 0 = false by rw [show k' % 2 = 1 by omega]; rfl]
      simp only [cond_true, cond_false]
      rw [if_neg (by omega)]
    · rw [show Nat.beq (k % 2) 0 = false by rw [show k % 2 = 1 by omega]; rfl, show Nat.beq (k' % 2) 0 = true by rw [e1]; rfl]
      simp only [cond_true, cond_false]
      rw [if_neg (by omega)]
    · rw [show Nat.beq (k % 2) 0 = false by rw [show k % 2 = 1 by omega]; rfl, show Nat.beq (k' % 2) 0 = false by rw [show k' % 2 = 1 by omega]; rfl]
      simp only [cond_false]
      rw [ih _ _ _ _ hk hk']
      by_cases e : k' = k
      · rw [if_pos e, if_pos (by rw [e])]
      · rw [if_neg e, if_neg (by omega)]
theorem rx_blt {a b : Nat} : Nat.blt a b = true ↔ a < b := by simp [Nat.blt_eq]
theorem rx_hg_lt {h : rx_H} {q : Nat} {c : rx_C} (e : rx_hg h q = some c) : q < h.1 := by
  unfold rx_hg at e
  cases hb : Nat.blt q h.1 with
  | true => exact rx_blt.mp hb
  | false => rw [hb] at e; cases e
theorem rx_hg_hs {h : rx_H} (h8 : h.1 ≤ 256) {q q' : Nat} {c : rx_C} (hq : q < h.1) : rx_hg (rx_hs h q c) q' = if q' = q then some c else rx_hg h q' := by
  unfold rx_hg rx_hs
  by_cases hl : q' < h.1
  · rw [rx_blt.mpr hl]
    exact rx_tg_ts 8 h.2 q q' c (by simpa using Nat.lt_of_lt_of_le hq h8) (by simpa using Nat.lt_of_lt_of_le hl h8)
  · rw [show Nat.blt q' h.1 = false from Bool.eq_false_iff.mpr (fun z => hl (rx_blt.mp z)), if_neg (by omega)]; rfl
theorem rx_hg_hp {h : rx_H} (h8 : h.1 < 256) {q' : Nat} {c : rx_C} : rx_hg (rx_hp h c) q' = if q' = h.1 then some c else rx_hg h q' := by
  unfold rx_hg rx_hp
  show (bif Nat.blt q' (h.1 + 1) then rx_tg 8 (rx_ts 8 h.2 h.1 c) q' else none) = _
  by_cases hl : q' < h.1 + 1
  · rw [rx_blt.mpr hl]
    show rx_tg 8 (rx_ts 8 h.2 h.1 c) q' = _
    rw [rx_tg_ts 8 h.2 h.1 q' c (by simpa using h8) (by simp; omega)]
    by_cases e : q' = h.1
    · rw [if_pos e, if_pos e]
    · rw [if_neg e, if_neg e, rx_blt.mpr (by omega)]; rfl
  · rw [show Nat.blt q' (h.1 + 1) = false from Bool.eq_false_iff.mpr (fun z => hl (rx_blt.mp z)), show Nat.blt q' h.1 = false from Bool.eq_false_iff.mpr (fun z => hl (Nat.lt_succ_of_lt (rx_blt.mp z))), if_neg (by omega)]; rfl
-- what the numbers stand for
noncomputable def rx_bias (x : Int32) : Nat := (x.toInt + 2147483648).toNat
noncomputable def rx_cv (b : Nat) (ad : List Nat) (en : List Int32) (v : Nat) : Option Value :=
  if v % 4 = 0 then some (.int (Int32.ofNat (v / 4)))
  else if v % 4 = 1 then some (.long (Int64.ofNat (v / 4)))
  else if v % 4 = 2 then (if v / 4 = 0 then some .null else if v / 4 = 1 then some (.ref b) else (ad[v / 4 - 2]?).map Value.ref)
  else (en[v / 4]?).map Value.int
theorem rx_get_mono {α : Type} {l l' : List α} (h : l <+: l') {i : Nat} {x : α} (e : l[i]? = some x) : l'[i]? = some x := by
  obtain ⟨t, rfl⟩ := h
  rw [List.getElem?_append_left (List.getElem?_eq_some_iff.mp e).1]
  exact e
theorem rx_cv_mono {b : Nat} {ad ad' : List Nat} {en en' : List Int32} (ha : ad <+: ad') (he : en <+: en') {v : Nat} {x : Value} (h : rx_cv b ad en v = some x) : rx_cv b ad' en' v = some x := by
  unfold rx_cv at h ⊢
  by_cases h0 : v % 4 = 0
  · rw [if_pos h0] at h ⊢; exact h
  rw [if_neg h0] at h ⊢
  by_cases h1 : v % 4 = 1
  · rw [if_pos h1] at h ⊢; exact h
  rw [if_neg h1] at h ⊢
  by_cases h2 : v % 4 = 2
  · rw [if_pos h2] at h ⊢
    by_cases h3 : v / 4 = 0
    · rw [if_pos h3] at h ⊢; exact h
    rw [if_neg h3] at h ⊢
    by_cases h4 : v / 4 = 1
    · rw [if_pos h4] at h ⊢; exact h
    rw [if_neg h4] at h ⊢
    obtain ⟨a, h5, h6⟩ := Option.map_eq_some_iff.mp h
    exact Option.map_eq_some_iff.mpr ⟨a, rx_get_mono ha h5, h6⟩
  · rw [if_neg h2] at h ⊢
    obtain ⟨a, h5, h6⟩ := Option.map_eq_some_iff.mp h
    exact Option.map_eq_some_iff.mpr ⟨a, rx_get_mono he h5, h6⟩
theorem rx_bias_ofNat (n : Nat) : rx_bias (Int32.ofNat n) = rx_bi n := by
  have h : (Int32.ofNat n).toInt = Int.bmod (n : Int) (2 ^ 32) := by simp
  unfold rx_bias rx_bi
  rw [h]
  show _ = (n + 2147483648) % 4294967296
  simp only [Int.bmod]
  omega
theorem rx_bias_inj {x y : Int32} (h : rx_bias x = rx_bias y) : x = y := by
  have h1 := x.le_toInt
  have h2 := y.le_toInt
  unfold rx_bias at h
  apply Int32.toInt_inj.mp
  omega
theorem rx_bias_lt {x y : Int32} : x < y ↔ rx_bias x < rx_bias y := by
  have h1 := x.le_toInt
  have h2 := y.le_toInt
  rw [Int32.lt_iff_toInt_lt]
  unfold rx_bias
  omega
theorem rx_bias_le {x y : Int32} : x ≤ y ↔ rx_bias x ≤ rx_bias y := by
  have h1 := x.le_toInt
  have h2 := y.le_toInt
  rw [Int32.le_iff_toInt_le]
  unfold rx_bias
  omega
theorem rx_bias_max (x : Int32) : rx_bias x ≤ 4294967295 := by
  have h1 := x.toInt_lt
  unfold rx_bias
  omega
theorem rx_of_bias {x : Int32} {a : Nat} (h : rx_bias x = a) : x = Int32.ofNat (rx_bi a) := by
  apply rx_bias_inj
  rw [rx_bias_ofNat, h]
  have := rx_bias_max x
  unfold rx_bi
  show a = ((a + 2147483648) % 4294967296 + 2147483648) % 4294967296
  omega
end
section
-- tags
theorem rx_cv0 {b : Nat} {ad : List Nat} {en : List Int32} {v : Nat} (h : v % 4 = 0) : rx_cv b ad en v = some (.int (Int32.ofNat (v / 4))) := by unfold rx_cv; rw [if_pos h]
theorem rx_cv1 {b : Nat} {ad : List Nat} {en : List Int32} {v : Nat} (h : v % 4 = 1) : rx_cv b ad en v = some (.long (Int64.ofNat (v / 4))) := by unfold rx_cv; rw [if_neg (by omega), if_pos h]
theorem rx_cv2 {b : Nat} {ad : List Nat} {en : List Int32} {v : Nat} (h : v % 4 = 2) (h2 : 2 ≤ v / 4) : rx_cv b ad en v = (ad[v / 4 - 2]?).map Value.ref := by
  unfold rx_cv; rw [if_neg (by omega), if_neg (by omega), if_pos h, if_neg (by omega), if_neg (by omega)]
theorem rx_cv3 {b : Nat} {ad : List Nat} {en : List Int32} {v : Nat} (h : v % 4 = 3) : rx_cv b ad en v = (en[v / 4]?).map Value.int := by unfold rx_cv; rw [if_neg (by omega), if_neg (by omega), if_neg (by omega)]
theorem rx_beq {a b : Nat} : Nat.beq a b = true ↔ a = b := ⟨Nat.eq_of_beq_eq_true, fun h => by rw [h]; exact Nat.beq_refl b⟩
theorem rx_ble {a b : Nat} : Nat.ble a b = true ↔ a ≤ b := ⟨Nat.le_of_ble_eq_true, Nat.ble_eq_true_of_le⟩
theorem rx_and2 {a b : Bool} : (a && b) = true ↔ a = true ∧ b = true := by cases a <;> cases b <;> simp
theorem rx_or2 {a b : Bool} : (a || b) = true ↔ a = true ∨ b = true := by cases a <;> cases b <;> simp
theorem rx_cond {α : Type} {b : Bool} {x : Option α} {y : α} (h : (bif b then x else none) = some y) : b = true ∧ x = some y := by
  cases b with
  | true => exact ⟨rfl, h⟩
  | false => cases h
theorem rx_int_cv (b : Nat) (ad : List Nat) (en : List Int32) (n : Nat) : rx_cv b ad en (rx_int n) = some (.int (Int32.ofNat n)) := by
  rw [rx_cv0 (show rx_int n % 4 = 0 by show (4 * n) % 4 = 0; omega)]
  rw [show rx_int n / 4 = n by show (4 * n) / 4 = n; omega]
theorem rx_lng_cv (b : Nat) (ad : List Nat) (en : List Int32) (n : Nat) : rx_cv b ad en (rx_lng n) = some (.long (Int64.ofNat n)) := by
  rw [rx_cv1 (show rx_lng n % 4 = 1 by show (4 * n + 1) % 4 = 1; omega)]
  rw [show rx_lng n / 4 = n by show (4 * n + 1) / 4 = n; omega]
theorem rx_ref_cv {b : Nat} {ad : List Nat} {en : List Int32} {q a : Nat} (h : ad[q]? = some a) : rx_cv b ad en (rx_ref q) = some (.ref a) := by
  have e1 : rx_ref q % 4 = 2 := by show (4 * (q + 2) + 2) % 4 = 2; omega
  have e2 : rx_ref q / 4 = q + 2 := by show (4 * (q + 2) + 2) / 4 = q + 2; omega
  rw [rx_cv2 e1 (by omega), e2, show q + 2 - 2 = q by omega, h]; rfl
theorem rx_sym_cv {b : Nat} {ad : List Nat} {en : List Int32} {t : Nat} {x : Int32} (h : en[t]? = some x) : rx_cv b ad en (rx_sym t) = some (.int x) := by
  have e1 : rx_sym t % 4 = 3 := by show (4 * t + 3) % 4 = 3; omega
  have e2 : rx_sym t / 4 = t := by show (4 * t + 3) / 4 = t; omega
  rw [rx_cv3 e1, e2, h]; rfl
/-- an int -/
theorem rx_isI_cv {b : Nat} {ad : List Nat} {en : List Int32} {v : Nat} {x : Value} (h : rx_isI v = true) (hx : rx_cv b ad en v = some x) : ∃ n, x = .int n := by
  rcases rx_or2.mp h with h | h
  · rw [rx_cv0 (rx_beq.mp h)] at hx; exact ⟨_, (Option.some.inj hx).symm⟩
  · rw [rx_cv3 (rx_beq.mp h)] at hx
    obtain ⟨n, -, hn⟩ := Option.map_eq_some_iff.mp hx
    exact ⟨n, hn.symm⟩
theorem rx_isJ_cv {b : Nat} {ad : List Nat} {en : List Int32} {v : Nat} {x : Value} (h : rx_isJ v = true) (hx : rx_cv b ad en v = some x) : x = .long (Int64.ofNat (v / 4)) := by
  rw [rx_cv1 (rx_beq.mp h)] at hx; exact (Option.some.inj hx).symm
theorem rx_isA_cv {b : Nat} {ad : List Nat} {en : List Int32} {v : Nat} {x : Value} (h : rx_isA v = true) (hx : rx_cv b ad en v = some x) : x = .null ∨ ∃ a, x = .ref a := by
  have h2 : v % 4 = 2 := rx_beq.mp h
  unfold rx_cv at hx
  rw [if_neg (by omega), if_neg (by omega), if_pos h2] at hx
  by_cases h3 : v / 4 = 0
  · rw [if_pos h3] at hx; exact Or.inl (Option.some.inj hx).symm
  rw [if_neg h3] at hx
  by_cases h4 : v / 4 = 1
  · rw [if_pos h4] at hx; exact Or.inr ⟨b, (Option.some.inj hx).symm⟩
  rw [if_neg h4] at hx
  obtain ⟨a, -, ha⟩ := Option.map_eq_some_iff.mp hx
  exact Or.inr ⟨a, ha.symm⟩
theorem rx_isR_cv {b : Nat} {ad : List Nat} {en : List Int32} {v : Nat} {x : Value} (h : rx_isR v = true) (hx : rx_cv b ad en v = some x) : ∃ a, x = .ref a := by
  obtain ⟨h1, h2⟩ := rx_and2.mp h
  have h2 : 0 < v / 4 := rx_blt.mp h2
  have h1 : v % 4 = 2 := rx_beq.mp h1
  unfold rx_cv at hx
  rw [if_neg (by omega), if_neg (by omega), if_pos h1, if_neg (by omega)] at hx
  by_cases h4 : v / 4 = 1
  · rw [if_pos h4] at hx; exact ⟨b, (Option.some.inj hx).symm⟩
  rw [if_neg h4] at hx
  obtain ⟨a, -, ha⟩ := Option.map_eq_some_iff.mp hx
  exact ⟨a, ha.symm⟩
theorem rx_cat_cv {b : Nat} {ad : List Nat} {en : List Int32} {v : Nat} {x : Value} (hx : rx_cv b ad en v = some x) : x.category = if rx_isJ v = true then 2 else 1 := by
  by_cases h1 : v % 4 = 1
  · rw [if_pos (show rx_isJ v = true from rx_beq.mpr h1)]
    rw [rx_cv1 h1] at hx; cases hx; rfl
  · rw [if_neg (show ¬ rx_isJ v = true from fun z => h1 (rx_beq.mp z))]
    by_cases h0 : v % 4 = 0
    · rw [rx_cv0 h0] at hx; cases hx; rfl
    by_cases h2 : v % 4 = 2
    · rcases rx_isA_cv (show rx_isA v = true from rx_beq.mpr h2) hx with rfl | ⟨a, rfl⟩ <;> rfl
    · rw [rx_cv3 (by omega)] at hx
      obtain ⟨n, -, hn⟩ := Option.map_eq_some_iff.mp hx
      cases hn; rfl
-- the numbers that are not known
noncomputable def rx_RI (iv : rx_I) (en : List Int32) : Prop := iv.length = en.length ∧ ∀ (t a b : Nat) (x : Int32), iv[t]? = some (a, b) → en[t]? = some x → a ≤ rx_bias x ∧ rx_bias x ≤ b
theorem rx_RI.ex {iv : rx_I} {en : List Int32} (h : rx_RI iv en) {t a b : Nat} (e : iv[t]? = some (a, b)) : ∃ x, en[t]? = some x ∧ a ≤ rx_bias x ∧ rx_bias x ≤ b := by
  have hl : t < en.length := by rw [← h.1]; exact (List.getElem?_eq_some_iff.mp e).1
  exact ⟨en[t], List.getElem?_eq_getElem hl, h.2 t a b _ e (List.getElem?_eq_getElem hl)⟩
theorem rx_RI.push {iv : rx_I} {en : List Int32} (h : rx_RI iv en) {a b : Nat} {x : Int32} (h1 : a ≤ rx_bias x) (h2 : rx_bias x ≤ b) : rx_RI (iv ++ [(a, b)]) (en ++ [x]) := by
  refine ⟨by simp [h.1], fun t a' b' y e1 e2 => ?_⟩
  by_cases ht : t < iv.length
  · rw [List.getElem?_append_left ht] at e1
    rw [List.getElem?_append_left (by rw [← h.1]; exact ht)] at e2
    exact h.2 t a' b' y e1 e2
  · rw [List.getElem?_append_right (by omega)] at e1
    rw [List.getElem?_append_right (by rw [← h.1]; omega)] at e2
    have hz : t - iv.length < 1 := (List.getElem?_eq_some_iff.mp e1).1
    have h0 : t - iv.length = 0 := by omega
    rw [h0] at e1
    rw [← h.1, h0] at e2
    cases e1; cases e2
    exact ⟨h1, h2⟩
theorem rx_kn_or (iv : rx_I) (v : Nat) : rx_kn iv v = v ∨ ∃ a : Nat, rx_tk v = 3 ∧ iv[rx_pl v]? = some (a, a) ∧ rx_kn iv v = rx_int (rx_bi a) := by
  unfold rx_kn
  cases h3 : Nat.beq (rx_tk v) 3 with
  | false => exact Or.inl rfl
  | true =>
    rw [cond_true, rx_nth_eq]
    cases e : iv[rx_pl v]? with
    | none => exact Or.inl rfl
    | some q =>
      obtain ⟨a, b'⟩ := q
      show (bif Nat.beq a b' then rx_int (rx_bi a) else v) = v ∨ _
      cases hab : Nat.beq a b' with
      | false => exact Or.inl rfl
      | true =>
        have hab : a = b' := rx_beq.mp hab
        subst hab
        refine Or.inr ⟨a, rx_beq.mp h3, rfl, ?_⟩
        show (bif Nat.beq a a then _ else _) = _
        rw [Nat.beq_refl, cond_true]
/-- a value of which the interval is one number -/
theorem rx_kn_cv {b : Nat} {ad : List Nat} {iv : rx_I} {en : List Int32} (h : rx_RI iv en) {v : Nat} {x : Value} (hx : rx_cv b ad en v = some x) : rx_cv b ad en (rx_kn iv v) = some x := by
  rcases rx_kn_or iv v with h1 | ⟨a, h3, e, h1⟩
  · rw [h1]; exact hx
  · obtain ⟨y, e1, e2, e3⟩ := h.ex e
    have hy : y = Int32.ofNat (rx_bi a) := rx_of_bias (Nat.le_antisymm e3 e2)
    rw [h1, rx_int_cv, ← hy]
    have h4 := rx_cv3 (b := b) (ad := ad) (en := en) h3
    rw [hx] at h4
    rw [h4]
    exact (congrArg (Option.map Value.int) e1).symm
/-- the interval of a value -/
theorem rx_io_cv {b : Nat} {ad : List Nat} {iv : rx_I} {en : List Int32} (h : rx_RI iv en) {v lo hi : Nat} (hi' : rx_io iv v = some (lo, hi)) : ∃ n, rx_cv b ad en v = some (.int n) ∧ lo ≤ rx_bias n ∧ rx_bias n ≤ hi := by
  unfold rx_io at hi'
  cases h0 : Nat.beq (rx_tk v) 0 with
  | true =>
    rw [h0] at hi'
    simp only [cond_true, Option.some.injEq, Prod.mk.injEq] at hi'
    refine ⟨_, rx_cv0 (rx_beq.mp h0), ?_⟩
    rw [rx_bias_ofNat]
    exact ⟨Nat.le_of_eq hi'.1.symm, Nat.le_of_eq hi'.2⟩
  | false =>
    rw [h0] at hi'
    simp only [cond_false] at hi'
    cases h3 : Nat.beq (rx_tk v) 3 with
    | false => rw [h3] at hi'; cases hi'
    | true =>
      rw [h3] at hi'
      simp only [cond_true] at hi'
      rw [rx_nth_eq] at hi'
      obtain ⟨y, e1, e2, e3⟩ := h.ex hi'
      exact ⟨y, by rw [rx_cv3 (rx_beq.mp h3), show v / 4 = rx_pl v from rfl, e1]; rfl, e2, e3⟩
theorem rx_RI.set {iv : rx_I} {en : List Int32} (h : rx_RI iv en) {t a b : Nat} {x : Int32} (e : en[t]? = some x) (h1 : a ≤ rx_bias x) (h2 : rx_bias x ≤ b) : rx_RI (iv.set t (a, b)) en := by
  refine ⟨by simp [h.1], fun t' a' b' y e1 e2 => ?_⟩
  by_cases ht : t' = t
  · subst ht
    have hl : t' < iv.length := by rw [h.1]; exact (List.getElem?_eq_some_iff.mp e).1
    rw [List.getElem?_set_self hl] at e1
    cases e1
    cases e.symm.trans e2
    exact ⟨h1, h2⟩
  · rw [List.getElem?_set_ne (Ne.symm ht)] at e1
    exact h.2 t' a' b' y e1 e2
theorem rx_cut_ok {iv i1 i2 : rx_I} {en : List Int32} (h : rx_RI iv en) {v m : Nat} (hc : rx_cut iv v m = some (i1, i2)) : rx_RI i1 en ∨ rx_RI i2 en := by
  unfold rx_cut at hc
  obtain ⟨-, hc⟩ := rx_cond hc
  rw [rx_nth_eq] at hc
  cases e : iv[rx_pl v]? with
  | none => rw [e] at hc; cases hc
  | some q =>
    obtain ⟨a, b⟩ := q
    rw [e] at hc
    obtain ⟨-, hc⟩ := rx_cond hc
    simp only [Option.some.injEq, Prod.mk.injEq] at hc
    obtain ⟨rfl, rfl⟩ := hc
    obtain ⟨y, e1, e2, e3⟩ := h.ex e
    rw [rx_upd_eq, rx_upd_eq]
    by_cases hm : rx_bias y ≤ m
    · exact Or.inl (h.set e1 e2 hm)
    · exact Or.inr (h.set e1 (by show m + 1 ≤ _; omega) e3)
-- cells, worlds
noncomputable def rx_RC (cy : Nat → ClassId) (b : Nat) (ad : List Nat) (en : List Int32) (c : rx_C) (e : va_E) : Prop :=
  c.2.2.length = c.2.1 ∧
  ((c.1 < 12 ∧ ∃ fs : List Value, e = .inr (c.1, fs) ∧ c.2.2.map (rx_cv b ad en) = fs.map some) ∨
  ((c.1 = 12 ∨ c.1 = 13 ∨ c.1 = 15) ∧ ∃ f : Nat → Int32, e = .inl (cy c.1, c.2.1, .inl f) ∧ ∀ j v, c.2.2[j]? = some v → rx_cv b ad en v = some (.int (f j))) ∨
  (c.1 = 14 ∧ ∃ f : Nat → Int64, e = .inl (cy 14, c.2.1, .inr (.inl f))) ∨
  (c.1 = 16 ∧ ∃ f : Nat → Option Nat, e = .inl (cy 16, c.2.1, .inr (.inr (.inr (.inr f)))) ∧ ∀ j v, c.2.2[j]? = some v → rx_cv b ad en v = some (va_rf (f j))))
theorem rx_map_mono {b : Nat} {ad ad' : List Nat} {en en' : List Int32} (ha : ad <+: ad') (he : en <+: en') : ∀ {l : List Nat} {fs : List Value}, l.map (rx_cv b ad en) = fs.map some → l.map (rx_cv b ad' en') = fs.map some
  | [], [], _ => rfl
  | [], _ :: _, h => by cases h
  | _ :: _, [], h => by cases h
  | v :: l, x :: fs, h => by
    simp only [List.map_cons, List.cons.injEq] at h ⊢
    exact ⟨rx_cv_mono ha he h.1, rx_map_mono ha he h.2⟩
theorem rx_RC.mono {cy : Nat → ClassId} {b : Nat} {ad ad' : List Nat} {en en' : List Int32} (ha : ad <+: ad') (he : en <+: en') {c : rx_C} {e : va_E} (h : rx_RC cy b ad en c e) : rx_RC cy b ad' en' c e := by
  obtain ⟨h0, h⟩ := h
  refine ⟨h0, ?_⟩
  rcases h with ⟨h1, fs, h2, h3⟩ | ⟨h1, f, h2, h3⟩ | h | ⟨h1, f, h2, h3⟩
  · exact Or.inl ⟨h1, fs, h2, rx_map_mono ha he h3⟩
  · exact Or.inr (Or.inl ⟨h1, f, h2, fun j v hj => rx_cv_mono ha he (h3 j v hj)⟩)
  · exact Or.inr (Or.inr (Or.inl h))
  · exact Or.inr (Or.inr (Or.inr ⟨h1, f, h2, fun j v hj => rx_cv_mono ha he (h3 j v hj)⟩))
noncomputable def rx_RW (cy : Nat → ClassId) (b : Nat) (ad : List Nat) (en : List Int32) (hp : rx_H) (ws : va_W) : Prop :=
  hp.1 ≤ 256 ∧ ad.length = hp.1 ∧ ws.length = hp.1 ∧ ∀ (q : Nat) (c : rx_C), rx_hg hp q = some c → ∃ (a : Nat) (e : va_E), ad[q]? = some a ∧ ws[q]? = some (a, e) ∧ rx_RC cy b ad en c e
theorem rx_RW.mono {cy : Nat → ClassId} {b : Nat} {ad : List Nat} {en en' : List Int32} (he : en <+: en') {hp : rx_H} {ws : va_W} (h : rx_RW cy b ad en hp ws) : rx_RW cy b ad en' hp ws :=
  ⟨h.1, h.2.1, h.2.2.1, fun q c hq => by obtain ⟨a, e, h1, h2, h3⟩ := h.2.2.2 q c hq; exact ⟨a, e, h1, h2, h3.mono (List.prefix_refl _) he⟩⟩
/-- a cell is written -/
theorem rx_RW.set {cy : Nat → ClassId} {b : Nat} {ad : List Nat} {en : List Int32} {hp : rx_H} {ws : va_W} (h : rx_RW cy b ad en hp ws) {q a : Nat} {c : rx_C} {e : va_E} (hq : q < hp.1) (ha : ad[q]? = some a) (hc : rx_RC cy b ad en c e) : rx_RW cy b ad en (rx_hs hp q c) (ws.set q (a, e)) := by
  refine ⟨h.1, h.2.1, by rw [List.length_set]; exact h.2.2.1, fun q' c' hq' => ?_⟩
  rw [rx_hg_hs h.1 hq] at hq'
  by_cases e0 : q' = q
  · subst e0
    rw [if_pos rfl] at hq'
    cases hq'
    exact ⟨a, e, ha, by rw [List.getElem?_set_self (by rw [h.2.2.1]; exact hq)], hc⟩
  · rw [if_neg e0] at hq'
    obtain ⟨a', e', h1, h2, h3⟩ := h.2.2.2 q' c' hq'
    exact ⟨a', e', h1, by rw [List.getElem?_set_ne (Ne.symm e0)]; exact h2, h3⟩
/-- a cell is made -/
theorem rx_RW.push {cy : Nat → ClassId} {b : Nat} {ad : List Nat} {en : List Int32} {hp : rx_H} {ws : va_W} (h : rx_RW cy b ad en hp ws) (h8 : hp.1 < 256) {a : Nat} {c : rx_C} {e : va_E} (hc : rx_RC cy b ad en c e) : rx_RW cy b (ad ++ [a]) en (rx_hp hp c) (ws ++ [(a, e)]) := by
  have hm : ad <+: ad ++ [a] := List.prefix_append _ _
  refine ⟨h8, by simp only [List.length_append, List.length_singleton, h.2.1]; rfl, by simp only [List.length_append, List.length_singleton, h.2.2.1]; rfl, fun q' c' hq' => ?_⟩
  rw [rx_hg_hp h8] at hq'
  by_cases e0 : q' = hp.1
  · subst e0
    rw [if_pos rfl] at hq'
    cases hq'
    exact ⟨a, e, by rw [← h.2.1]; simp, by rw [← h.2.2.1]; simp, hc.mono hm (List.prefix_refl _)⟩
  · rw [if_neg e0] at hq'
    obtain ⟨a', e', h1, h2, h3⟩ := h.2.2.2 q' c' hq'
    exact ⟨a', e', rx_get_mono hm h1, rx_get_mono (List.prefix_append _ _) h2, h3.mono hm (List.prefix_refl _)⟩
end
section
-- locals
noncomputable def rx_RL (b : Nat) (ad : List Nat) (en : List Int32) (nL : Nat) (lv : rx_L) (ls : Array Slot) : Prop :=
  lv.length = nL ∧ ls.size = nL ∧ lv_wf ls ∧ ∀ (i v : Nat), lv[i]? = some v → v ≠ 2 → ∃ x : Value, rx_cv b ad en v = some x ∧ ls[i]? = some (.val x)
noncomputable def rx_lva (b : Nat) (ad : List Nat) (en : List Int32) (lv : rx_L) : List (Nat × Value) :=
  (List.range lv.length).filterMap (fun i => match lv[i]? with
    | some v => if v = 2 then none else (rx_cv b ad en v).map (fun x => (i, x))
    | none => none)
theorem rx_lva_in {b : Nat} {ad : List Nat} {en : List Int32} {lv : rx_L} {i v : Nat} {x : Value} (h : lv[i]? = some v) (h2 : v ≠ 2) (hx : rx_cv b ad en v = some x) : (i, x) ∈ rx_lva b ad en lv := by
  refine List.mem_filterMap.mpr ⟨i, List.mem_range.mpr (List.getElem?_eq_some_iff.mp h).1, ?_⟩
  simp only [h, if_neg h2, hx, Option.map_some]
theorem rx_lva_of {b : Nat} {ad : List Nat} {en : List Int32} {lv : rx_L} {q : Nat × Value} (h : q ∈ rx_lva b ad en lv) : ∃ v, lv[q.1]? = some v ∧ v ≠ 2 ∧ rx_cv b ad en v = some q.2 := by
  obtain ⟨i, -, hi⟩ := List.mem_filterMap.mp h
  cases e : lv[i]? with
  | none => rw [e] at hi; cases hi
  | some v =>
    rw [e] at hi
    simp only at hi
    by_cases h2 : v = 2
    · rw [if_pos h2] at hi; cases hi
    · rw [if_neg h2] at hi
      obtain ⟨x, hx, he⟩ := Option.map_eq_some_iff.mp hi
      subst he
      exact ⟨v, e, h2, hx⟩
theorem rx_RL.has {b : Nat} {ad : List Nat} {en : List Int32} {nL : Nat} {lv : rx_L} {ls : Array Slot} (h : rx_RL b ad en nL lv ls) : lv_has ls nL (rx_lva b ad en lv) := by
  refine ⟨h.2.1, h.2.2.1, fun q hq => ?_⟩
  obtain ⟨v, h1, h2, h3⟩ := rx_lva_of hq
  obtain ⟨x, h4, h5⟩ := h.2.2.2 q.1 v h1 h2
  cases h3.symm.trans h4
  exact h5
theorem rx_RL.mono {b : Nat} {ad ad' : List Nat} {en en' : List Int32} (ha : ad <+: ad') (he : en <+: en') {nL : Nat} {lv : rx_L} {ls : Array Slot} (h : rx_RL b ad en nL lv ls) : rx_RL b ad' en' nL lv ls :=
  ⟨h.1, h.2.1, h.2.2.1, fun i v h1 h2 => by obtain ⟨x, h3, h4⟩ := h.2.2.2 i v h1 h2; exact ⟨x, rx_cv_mono ha he h3, h4⟩⟩
theorem rx_low_len (lv : rx_L) (i : Nat) : (rx_low lv i).length = lv.length := by
  unfold rx_low
  cases i with
  | zero => rfl
  | succ j =>
    show List.length (match rx_nth lv j with | some v => bif rx_isJ v then rx_upd lv j 2 else lv | none => lv) = _
    cases rx_nth lv j with
    | none => rfl
    | some v =>
      show List.length (bif rx_isJ v then rx_upd lv j 2 else lv) = _
      cases rx_isJ v with
      | true => rw [cond_true, rx_upd_eq, List.length_set]
      | false => rfl
theorem rx_low_get {lv : rx_L} {i j w : Nat} (h : (rx_low lv i)[j]? = some w) (h2 : w ≠ 2) : lv[j]? = some w ∧ ¬ (j + 1 = i ∧ rx_isJ w = true) := by
  unfold rx_low at h
  cases i with
  | zero => exact ⟨h, fun z => by omega⟩
  | succ k =>
    replace h : (match rx_nth lv k with | some v => bif rx_isJ v then rx_upd lv k 2 else lv | none => lv)[j]? = some w := h
    rw [rx_nth_eq] at h
    cases e : lv[k]? with
    | none =>
      rw [e] at h
      replace h : lv[j]? = some w := h
      exact ⟨h, fun z => by rw [show j = k by omega, e] at h; cases h⟩
    | some v =>
      rw [e] at h
      replace h : (bif rx_isJ v then rx_upd lv k 2 else lv)[j]? = some w := h
      cases hj : rx_isJ v with
      | false =>
        rw [hj] at h
        replace h : lv[j]? = some w := h
        refine ⟨h, fun z => ?_⟩
        rw [show j = k by omega, e] at h
        cases h
        rw [hj] at z; exact Bool.noConfusion z.2
      | true =>
        rw [hj, cond_true, rx_upd_eq] at h
        by_cases ejk : j = k
        · subst ejk
          rw [List.getElem?_set_self (List.getElem?_eq_some_iff.mp e).1] at h
          cases h
          exact absurd rfl h2
        · rw [List.getElem?_set_ne (Ne.symm ejk)] at h
          exact ⟨h, fun z => by omega⟩
theorem rx_RL.put {b : Nat} {ad : List Nat} {en : List Int32} {nL : Nat} {lv : rx_L} {ls' : Array Slot} {i v : Nat} {x : Value} (hl : lv.length = nL) (hv : rx_cv b ad en v = some x) (hd : ∀ j w : Nat, lv[j]? = some w → w ≠ 2 → ∃ y, rx_cv b ad en w = some y)
    (h : lv_has ls' nL ((i, x) :: (rx_lva b ad en lv).filter (fun q => !(q.1 == i) && !(q.1 + 1 == i && q.2.category == 2)))) : rx_RL b ad en nL (rx_put lv i v) ls' := by
  refine ⟨by unfold rx_put; rw [rx_upd_eq, List.length_set, rx_low_len]; exact hl, h.1, h.2.1, fun j w hj h2 => ?_⟩
  unfold rx_put at hj
  rw [rx_upd_eq] at hj
  by_cases e : j = i
  · subst e
    have hlt : j < (rx_low lv j).length := by have := (List.getElem?_eq_some_iff.mp hj).1; rwa [List.length_set] at this
    rw [List.getElem?_set_self hlt] at hj
    cases hj
    exact ⟨x, hv, h.2.2 (j, x) List.mem_cons_self⟩
  · rw [List.getElem?_set_ne (Ne.symm e)] at hj
    obtain ⟨h3, h4⟩ := rx_low_get hj h2
    obtain ⟨y, hy⟩ := hd j w h3 h2
    refine ⟨y, hy, h.2.2 (j, y) (List.mem_cons_of_mem _ (List.mem_filter.mpr ⟨rx_lva_in h3 h2 hy, ?_⟩))⟩
    have hc := rx_cat_cv hy
    by_cases hji : j + 1 = i
    · have hJ : ¬ rx_isJ w = true := fun z => h4 ⟨hji, z⟩
      rw [if_neg hJ] at hc
      simp [e, hc]
    · simp [e, hji]
theorem rx_RL.putJ {b : Nat} {ad : List Nat} {en : List Int32} {nL : Nat} {lv : rx_L} {ls' : Array Slot} {i v : Nat} {x : Value} (hl : lv.length = nL) (hv : rx_cv b ad en v = some x) (hd : ∀ j w : Nat, lv[j]? = some w → w ≠ 2 → ∃ y, rx_cv b ad en w = some y)
    (h : lv_has ls' nL ((i, x) :: (rx_lva b ad en lv).filter (fun q => !(q.1 == i) && (!(q.1 == i + 1) && !(q.1 + 1 == i && q.2.category == 2))))) : rx_RL b ad en nL (rx_putJ lv i v) ls' := by
  refine ⟨by unfold rx_putJ; rw [rx_upd_eq, rx_upd_eq, List.length_set, List.length_set, rx_low_len]; exact hl, h.1, h.2.1, fun j w hj h2 => ?_⟩
  unfold rx_putJ at hj
  rw [rx_upd_eq, rx_upd_eq] at hj
  by_cases e1 : j = i + 1
  · subst e1
    have hlt := (List.getElem?_eq_some_iff.mp hj).1
    rw [List.length_set] at hlt
    rw [show Nat.succ i = i + 1 from rfl, List.getElem?_set_self hlt] at hj
    cases hj
    exact absurd rfl h2
  · rw [List.getElem?_set_ne (show Nat.succ i ≠ j from Ne.symm e1)] at hj
    by_cases e : j = i
    · subst e
      have hlt : j < (rx_low lv j).length := by have := (List.getElem?_eq_some_iff.mp hj).1; rwa [List.length_set] at this
      rw [List.getElem?_set_self hlt] at hj
      cases hj
      exact ⟨x, hv, h.2.2 (j, x) List.mem_cons_self⟩
    · rw [List.getElem?_set_ne (Ne.symm e)] at hj
      obtain ⟨h3, h4⟩ := rx_low_get hj h2
      obtain ⟨y, hy⟩ := hd j w h3 h2
      refine ⟨y, hy, h.2.2 (j, y) (List.mem_cons_of_mem _ (List.mem_filter.mpr ⟨rx_lva_in h3 h2 hy, ?_⟩))⟩
      have hc := rx_cat_cv hy
      by_cases hji : j + 1 = i
      · have hJ : ¬ rx_isJ w = true := fun z => h4 ⟨hji, z⟩
        rw [if_neg hJ] at hc
        simp [e, e1, hc]
      · simp [e, e1, hji]
end
section
noncomputable def lw_G : List Cond := lw_tbl.filter goodWord
theorem lw_G_of {w : Cond} (h : w ∈ lw_tbl) (hg : goodWord w = true) : w ∈ lw_G := List.mem_filter.mpr ⟨h, hg⟩
noncomputable def rx_tys (cy : Nat → ClassId) : List (ClassId × FieldType) := [(cy 12, .byte), (cy 13, .int), (cy 14, .long), (cy 15, .boolean), (cy 16, .object "TurnNet$State")]
/-- a state of the interpreter, and one of the machine -/
noncomputable def rx_Rl (cy : Nat → ClassId) (D : va_G) (b : Nat) (A : Nat → Prop) (H0 : Heap) (ad0 : List Nat) (en0 : List Int32) (nL : Nat) (σ : rx_S) (ad : List Nat) (en : List Int32) (ls : Array Slot) (stA : List Value) (H : Heap) (locs : List Loc) (ws : va_W) : Prop :=
  ad0 <+: ad ∧ en0 <+: en ∧ rx_RW cy b ad en σ.2.2.2.1 ws ∧ va_P D vwCl ws H ∧ va_D A ws ∧ va_S A H0 H locs ∧ rx_RL b ad en nL σ.2.1 ls ∧ σ.2.2.1.map (rx_cv b ad en) = stA.map some ∧ rx_RI σ.2.2.2.2.1 en
/-- from all states of the machine that a state of the interpreter stands for, the machine comes to Q -/
noncomputable def rx_G (p : Program) (l : Launch) (e : Env) (R : Room) (s : State) (m : MethodId) (args : Array Value) (below : List Frame) (meth : Method) (c : Code) (Q : State → Prop) (cy : Nat → ClassId) (D : va_G) (b : Nat) (A : Nat → Prop) (H0 : Heap) (ad0 : List Nat) (en0 : List Int32) (nL : Nat) (σ : rx_S) : Prop :=
  ∀ (ad : List Nat) (en : List Int32) (ls : Array Slot) (stA : List Value) (H : Heap) (locs : List Loc) (ws : va_W), rx_Rl cy D b A H0 ad0 en0 nL σ ad en ls stA H locs ws → W p l e R s m args below meth c H locs σ.2.2.2.2.2.1 σ.2.2.2.2.2.2 Q (F0 m σ.1 ls stA)
theorem rx_st_cons {b : Nat} {ad : List Nat} {en : List Int32} {v : Nat} {st : List Nat} {stA : List Value} (h : (v :: st).map (rx_cv b ad en) = stA.map some) : ∃ (x : Value) (r : List Value), stA = x :: r ∧ rx_cv b ad en v = some x ∧ st.map (rx_cv b ad en) = r.map some := by
  cases stA with
  | nil => cases h
  | cons x r =>
    simp only [List.map_cons, List.cons.injEq] at h
    exact ⟨x, r, rfl, h.1, h.2⟩
theorem rx_st_push {b : Nat} {ad : List Nat} {en : List Int32} {v : Nat} {st : List Nat} {x : Value} {r : List Value} (hv : rx_cv b ad en v = some x) (h : st.map (rx_cv b ad en) = r.map some) : (v :: st).map (rx_cv b ad en) = (x :: r).map some := by
  simp only [List.map_cons, hv, h]
section RXS
variable {p : Program} {l : Launch} {e : Env} {R : Room} {s : State} {m : MethodId} {args : Array Value} {below : List Frame} {meth : Method} {c : Code} {Q : State → Prop} {cc : ByteArray}
variable {cy : Nat → ClassId} {D : va_G} {b : Nat} {A : Nat → Prop} {H0 : Heap} {ad0 : List Nat} {en0 : List Int32} {nL : Nat}
variable {K : rx_K} {N : rx_N} {pc na nb cn sn : Nat} {lv : rx_L} {st : List Nat} {hp : rx_H} {iv : rx_I} {out : List rx_S}
theorem rx_s_two {q : Option (rx_I × rx_I)} {v mm : Nat} (hq : q = rx_cut iv v mm) (h : rx_two pc lv st hp q cn sn = some out) (hG : ∀ σ ∈ out, rx_G p l e R s m args below meth c Q cy D b A H0 ad0 en0 nL σ) : rx_G p l e R s m args below meth c Q cy D b A H0 ad0 en0 nL (pc, lv, st, hp, iv, cn, sn) := by
  intro ad en ls stA H locs ws hR
  obtain ⟨h1, h2, h3, h4, h5, h6, h7, h8, h9⟩ := hR
  cases hc : q with
  | none => rw [hc] at h; cases h
  | some w =>
    obtain ⟨i1, i2⟩ := w
    rw [hc] at h
    cases h
    rcases rx_cut_ok h9 (hq.symm.trans hc) with h9 | h9
    · exact hG (pc, lv, st, hp, i1, cn, sn) List.mem_cons_self ad en ls stA H locs ws ⟨h1, h2, h3, h4, h5, h6, h7, h8, h9⟩
    · exact hG (pc, lv, st, hp, i2, cn, sn) (List.mem_cons_of_mem _ List.mem_cons_self) ad en ls stA H locs ws ⟨h1, h2, h3, h4, h5, h6, h7, h8, h9⟩
theorem rx_s_half {v : Nat} (h : rx_half pc lv st hp iv cn sn v = some out) (hG : ∀ σ ∈ out, rx_G p l e R s m args below meth c Q cy D b A H0 ad0 en0 nL σ) : rx_G p l e R s m args below meth c Q cy D b A H0 ad0 en0 nL (pc, lv, st, hp, iv, cn, sn) := by
  unfold rx_half at h
  cases hi : rx_io iv v with
  | none => rw [hi] at h; cases h
  | some w =>
    obtain ⟨x, y⟩ := w
    rw [hi] at h
    exact rx_s_two rfl h hG
/-- loads -/
theorem rx_s_ld {ok : Nat → Bool} {i n : Nat} {T : Value → Prop} (hok : ∀ (ad : List Nat) (en : List Int32) (v : Nat) (x : Value), ok v = true → rx_cv b ad en v = some x → T x) (h2 : ok 2 = false)
    (row : ∀ {H : Heap} {locs : List Loc} {cells slots : Nat} {ls : Array Slot} {rest : List Value} {x : Value}, T x → ls[i]? = some (Slot.val x) → W p l e R s m args below meth c H locs cells slots Q (F0 m (pc + n) ls (x :: rest)) → W p l e R s m args below meth c H locs cells slots Q (F0 m pc ls rest))
    (h : rx_h_ld ok i n K N pc na nb lv st hp iv cn sn = some out) (hG : ∀ σ ∈ out, rx_G p l e R s m args below meth c Q cy D b A H0 ad0 en0 nL σ) : rx_G p l e R s m args below meth c Q cy D b A H0 ad0 en0 nL (pc, lv, st, hp, iv, cn, sn) := by
  intro ad en ls stA H locs ws hR
  obtain ⟨h1, h2', h3, h4, h5, h6, h7, h8, h9⟩ := hR
  unfold rx_h_ld at h
  rw [rx_nth_eq] at h
  cases hv : lv[i]? with
  | none => rw [hv] at h; cases h
  | some v =>
    rw [hv] at h
    obtain ⟨hk, h⟩ := rx_cond h
    cases h
    obtain ⟨x, hx, hl⟩ := h7.2.2.2 i v hv (fun z => by rw [z, h2] at hk; cases hk)
    exact row (hok ad en v x hk hx) hl (hG _ List.mem_cons_self ad en ls (x :: stA) H locs ws ⟨h1, h2', h3, h4, h5, h6, h7, rx_st_push hx h8, h9⟩)
/-- stores -/
theorem rx_s_sto {ok : Nat → Bool} {i n : Nat} {T : Value → Prop} (hN : nL = rx_mL N) (hok : ∀ (ad : List Nat) (en : List Int32) (v : Nat) (x : Value), ok v = true → rx_cv b ad en v = some x → T x)
    (row : ∀ {H : Heap} {locs : List Loc} {cells slots : Nat} {ls : Array Slot} {rest : List Value} {x : Value} {lw : List (Nat × Value)}, T x → i < nL → lv_has ls nL lw → (∀ ls' : Array Slot, lv_has ls' nL ((i, x) :: lw.filter (fun q => !(q.1 == i) && !(q.1 + 1 == i && q.2.category == 2))) → W p l e R s m args below meth c H locs cells slots Q (F0 m (pc + n) ls' rest)) → W p l e R s m args below meth c H locs cells slots Q (F0 m pc ls (x :: rest)))
    (h : rx_h_sto ok i n K N pc na nb lv st hp iv cn sn = some out) (hG : ∀ σ ∈ out, rx_G p l e R s m args below meth c Q cy D b A H0 ad0 en0 nL σ) : rx_G p l e R s m args below meth c Q cy D b A H0 ad0 en0 nL (pc, lv, st, hp, iv, cn, sn) := by
  intro ad en ls stA H locs ws hR
  obtain ⟨h1, h2, h3, h4, h5, h6, h7, h8, h9⟩ := hR
  cases st with
  | nil => cases h
  | cons v st' =>
    obtain ⟨hk, h⟩ := rx_cond h
    cases h
    obtain ⟨hk, hi⟩ := rx_and2.mp hk
    obtain ⟨x, r, rfl, hx, h8⟩ := rx_st_cons h8
    refine row (hok ad en v x hk hx) (by rw [hN]; exact rx_blt.mp hi) h7.has (fun ls' hl' => ?_)
    exact hG _ List.mem_cons_self ad en ls' r H locs ws ⟨h1, h2, h3, h4, h5, h6, rx_RL.put h7.1 hx (fun j w hj hw => by obtain ⟨y, hy, -⟩ := h7.2.2.2 j w hj hw; exact ⟨y, hy⟩) hl', h8, h9⟩
theorem rx_s_stJ {i n : Nat} (hN : nL = rx_mL N)
    (row : ∀ {H : Heap} {locs : List Loc} {cells slots : Nat} {ls : Array Slot} {rest : List Value} {x : Int64} {lw : List (Nat × Value)}, i + 1 < nL → lv_has ls nL lw → (∀ ls' : Array Slot, lv_has ls' nL ((i, .long x) :: lw.filter (fun q => !(q.1 == i) && (!(q.1 == i + 1) && !(q.1 + 1 == i && q.2.category == 2)))) → W p l e R s m args below meth c H locs cells slots Q (F0 m (pc + n) ls' rest)) → W p l e R s m args below meth c H locs cells slots Q (F0 m pc ls (.long x :: rest)))
    (h : rx_h_stJ i n K N pc na nb lv st hp iv cn sn = some out) (hG : ∀ σ ∈ out, rx_G p l e R s m args below meth c Q cy D b A H0 ad0 en0 nL σ) : rx_G p l e R s m args below meth c Q cy D b A H0 ad0 en0 nL (pc, lv, st, hp, iv, cn, sn) := by
  intro ad en ls stA H locs ws hR
  obtain ⟨h1, h2, h3, h4, h5, h6, h7, h8, h9⟩ := hR
  cases st with
  | nil => cases h
  | cons v st' =>
    obtain ⟨hk, h⟩ := rx_cond h
    cases h
    obtain ⟨hk, hi⟩ := rx_and2.mp hk
    obtain ⟨x, r, rfl, hx, h8n⟩ := rx_st_cons h8
    have hx' := rx_isJ_cv hk hx
    subst hx'
    refine row (by rw [hN]; exact rx_blt.mp hi) h7.has (fun ls' hl' => ?_)
    exact hG _ List.mem_cons_self ad en ls' r H locs ws ⟨h1, h2, h3, h4, h5, h6, rx_RL.putJ h7.1 hx (fun j w hj hw => by obtain ⟨y, hy, -⟩ := h7.2.2.2 j w hj hw; exact ⟨y, hy⟩) hl', h8n, h9⟩
/-- what is pushed -/
theorem rx_s_psh {n : Nat} (row : ∀ {H : Heap} {locs : List Loc} {cells slots : Nat} {ls : Array Slot} {rest : List Value}, W p l e R s m args below meth c H locs cells slots Q (F0 m (pc + n) ls (.int (Int32.ofNat na) :: rest)) → W p l e R s m args below meth c H locs cells slots Q (F0 m pc ls rest))
    (h : rx_h_psh n K N pc na nb lv st hp iv cn sn = some out) (hG : ∀ σ ∈ out, rx_G p l e R s m args below meth c Q cy D b A H0 ad0 en0 nL σ) : rx_G p l e R s m args below meth c Q cy D b A H0 ad0 en0 nL (pc, lv, st, hp, iv, cn, sn) := by
  intro ad en ls stA H locs ws hR
  obtain ⟨h1, h2, h3, h4, h5, h6, h7, h8, h9⟩ := hR
  cases h
  exact row (hG _ List.mem_cons_self ad en ls (.int (Int32.ofNat na) :: stA) H locs ws ⟨h1, h2, h3, h4, h5, h6, h7, rx_st_push (rx_int_cv b ad en na) h8, h9⟩)
theorem rx_s_pshJ {n : Nat} (row : ∀ {H : Heap} {locs : List Loc} {cells slots : Nat} {ls : Array Slot} {rest : List Value}, W p l e R s m args below meth c H locs cells slots Q (F0 m (pc + n) ls (.long (Int64.ofNat na) :: rest)) → W p l e R s m args below meth c H locs cells slots Q (F0 m pc ls rest))
    (h : rx_h_pshJ n K N pc na nb lv st hp iv cn sn = some out) (hG : ∀ σ ∈ out, rx_G p l e R s m args below meth c Q cy D b A H0 ad0 en0 nL σ) : rx_G p l e R s m args below meth c Q cy D b A H0 ad0 en0 nL (pc, lv, st, hp, iv, cn, sn) := by
  intro ad en ls stA H locs ws hR
  obtain ⟨h1, h2, h3, h4, h5, h6, h7, h8, h9⟩ := hR
  cases h
  exact row (hG _ List.mem_cons_self ad en ls (.long (Int64.ofNat na) :: stA) H locs ws ⟨h1, h2, h3, h4, h5, h6, h7, rx_st_push (rx_lng_cv b ad en na) h8, h9⟩)
/-- iinc -/
theorem rx_s_inc {i : Nat} {n : Int} (hN : nL = rx_mL N) (hn : Int32.ofInt n = Int32.ofNat na) (hx : p.tables.exec = Jvm.exec) (hb : c.code = cc) (hd : decode cc pc = .ok (.iinc i n, 3))
    (h : rx_h_inc i K N pc na nb lv st hp iv cn sn = some out) (hG : ∀ σ ∈ out, rx_G p l e R s m args below meth c Q cy D b A H0 ad0 en0 nL σ) : rx_G p l e R s m args below meth c Q cy D b A H0 ad0 en0 nL (pc, lv, st, hp, iv, cn, sn) := by
  intro ad en ls stA H locs ws hR
  obtain ⟨h1, h2, h3, h4, h5, h6, h7, h8, h9⟩ := hR
  unfold rx_h_inc at h
  rw [rx_nth_eq] at h
  cases hv : lv[i]? with
  | none => rw [hv] at h; cases h
  | some v =>
    rw [hv] at h
    obtain ⟨hk, h⟩ := rx_cond h
    cases h
    obtain ⟨hk, hi⟩ := rx_and2.mp hk
    have hk : v % 4 = 0 := rx_beq.mp hk
    have hcv : rx_cv b ad en v = some (.int (Int32.ofNat (v / 4))) := rx_cv0 hk
    have hmem := rx_lva_in (b := b) (ad := ad) (en := en) hv (by omega) hcv
    obtain ⟨k, hk2⟩ := List.getElem?_of_mem hmem
    have hw : Int32.ofNat (v / 4) + Int32.ofInt n = Int32.ofNat (Nat.mod (Nat.add (rx_pl v) na) 4294967296) := by
      rw [hn]
      show _ = Int32.ofNat ((v / 4 + na) % 4294967296)
      apply rx_bias_inj
      rw [rx_bias_ofNat, ← Int32.ofNat_add, rx_bias_ofNat]
      unfold rx_bi
      show (v / 4 + na + 2147483648) % 4294967296 = ((v / 4 + na) % 4294967296 + 2147483648) % 4294967296
      omega
    refine lv_iinc hx hb hd h7.has hk2 hw (by rw [hN]; exact rx_blt.mp hi) rfl (fun ls' hl' => ?_)
    exact hG _ List.mem_cons_self ad en ls' stA H locs ws ⟨h1, h2, h3, h4, h5, h6, rx_RL.put h7.1 (rx_int_cv b ad en _) (fun j w hj hw => by obtain ⟨y, hy, -⟩ := h7.2.2.2 j w hj hw; exact ⟨y, hy⟩) hl', h8, h9⟩
end RXS
end
section
section RXS2
variable {p : Program} {l : Launch} {e : Env} {R : Room} {s : State} {m : MethodId} {args : Array Value} {below : List Frame} {meth : Method} {c : Code} {Q : State → Prop} {cc : ByteArray}
variable {cy : Nat → ClassId} {D : va_G} {b : Nat} {A : Nat → Prop} {H0 : Heap} {ad0 : List Nat} {en0 : List Int32} {nL : Nat}
variable {K : rx_K} {N : rx_N} {pc na nb cn sn : Nat} {lv : rx_L} {st : List Nat} {hp : rx_H} {iv : rx_I} {out : List rx_S}
theorem rx_pre1 {α : Type} {a b : List α} (h : a <+: b) (x : α) : a <+: b ++ [x] := h.trans (List.prefix_append _ _)
/-- a number comes that isn't known -/
theorem rx_fresh {st' : List Nat} {r : List Value} {y : Int32} {n lo hi : Nat} (hG : rx_G p l e R s m args below meth c Q cy D b A H0 ad0 en0 nL (n, lv, rx_sym (rx_len iv) :: st', hp, iv ++ [(lo, hi)], cn, sn)) {ad : List Nat} {en : List Int32} {ls : Array Slot} {H : Heap} {locs : List Loc} {ws : va_W}
    (h1 : ad0 <+: ad) (h2 : en0 <+: en) (h3 : rx_RW cy b ad en hp ws) (h4 : va_P D vwCl ws H) (h5 : va_D A ws) (h6 : va_S A H0 H locs) (h7 : rx_RL b ad en nL lv ls) (h8 : st'.map (rx_cv b ad en) = r.map some) (h9 : rx_RI iv en) (hlo : lo ≤ rx_bias y) (hhi : rx_bias y ≤ hi) :
    W p l e R s m args below meth c H locs cn sn Q (F0 m n ls (.int y :: r)) := by
  have hm : en <+: en ++ [y] := List.prefix_append _ _
  have hy : (en ++ [y])[rx_len iv]? = some y := by rw [rx_len_eq, h9.1]; simp
  exact hG ad (en ++ [y]) ls (.int y :: r) H locs ws ⟨h1, rx_pre1 h2 y, h3.mono hm, h4, h5, h6, h7.mono (List.prefix_refl _) hm, rx_st_push (rx_sym_cv hy) (rx_map_mono (List.prefix_refl _) hm h8), h9.push hlo hhi⟩
/-- arithmetic -/
theorem rx_s_ar {f : Nat → Nat → Option Nat} {g : Nat → Nat × Nat} {F : Int32 → Int32 → Int32}
    (row : ∀ {H : Heap} {locs : List Loc} {cells slots : Nat} {ls : Array Slot} {rest : List Value} {x y : Int32}, W p l e R s m args below meth c H locs cells slots Q (F0 m (pc + 1) ls (.int (F x y) :: rest)) → W p l e R s m args below meth c H locs cells slots Q (F0 m pc ls (.int y :: .int x :: rest)))
    (hf : ∀ i j n, f i j = some n → F (Int32.ofNat i) (Int32.ofNat j) = Int32.ofNat n) (hg : ∀ (ad : List Nat) (en : List Int32) (v : Nat) (x y : Int32), rx_cv b ad en v = some (.int y) → (g v).1 ≤ rx_bias (F x y) ∧ rx_bias (F x y) ≤ (g v).2)
    (h : rx_h_ar f g K N pc na nb lv st hp iv cn sn = some out) (hG : ∀ σ ∈ out, rx_G p l e R s m args below meth c Q cy D b A H0 ad0 en0 nL σ) : rx_G p l e R s m args below meth c Q cy D b A H0 ad0 en0 nL (pc, lv, st, hp, iv, cn, sn) := by
  match st, h with
  | [], h => cases h
  | [_], h => cases h
  | y0 :: x0 :: st', h =>
    unfold rx_h_ar at h
    replace h : (bif Nat.beq (rx_tk (rx_kn iv x0)) 0 && Nat.beq (rx_tk (rx_kn iv y0)) 0 then (match f (rx_pl (rx_kn iv x0)) (rx_pl (rx_kn iv y0)) with
      | some n => some [(Nat.add pc 1, lv, rx_int n :: st', hp, iv, cn, sn)]
      | none => none)
      else bif rx_sml iv (rx_kn iv y0) then rx_half pc lv (y0 :: x0 :: st') hp iv cn sn (rx_kn iv y0)
      else bif rx_sml iv (rx_kn iv x0) then rx_half pc lv (y0 :: x0 :: st') hp iv cn sn (rx_kn iv x0)
      else bif rx_isI x0 && rx_isI y0 then some [(Nat.add pc 1, lv, rx_sym (rx_len iv) :: st', hp, iv ++ [g (rx_kn iv y0)], cn, sn)] else none) = some out := h
    cases hc : (Nat.beq (rx_tk (rx_kn iv x0)) 0 && Nat.beq (rx_tk (rx_kn iv y0)) 0) with
    | true =>
      rw [hc, cond_true] at h
      obtain ⟨hcx, hcy⟩ := rx_and2.mp hc
      cases hn : f (rx_pl (rx_kn iv x0)) (rx_pl (rx_kn iv y0)) with
      | none => rw [hn] at h; cases h
      | some n =>
        rw [hn] at h
        cases h
        intro ad en ls stA H locs ws hR
        obtain ⟨h1, h2, h3, h4, h5, h6, h7, h8, h9⟩ := hR
        obtain ⟨y, r1, rfl, hy, h8a⟩ := rx_st_cons h8
        obtain ⟨x, r, rfl, hx, h8b⟩ := rx_st_cons h8a
        have ex := (rx_cv0 (b := b) (ad := ad) (en := en) (rx_beq.mp hcx)).symm.trans (rx_kn_cv h9 hx)
        have ey := (rx_cv0 (b := b) (ad := ad) (en := en) (rx_beq.mp hcy)).symm.trans (rx_kn_cv h9 hy)
        cases ex
        cases ey
        refine row ?_
        have hfn : F (Int32.ofNat (rx_kn iv x0 / 4)) (Int32.ofNat (rx_kn iv y0 / 4)) = Int32.ofNat n := hf _ _ _ hn
        rw [hfn]
        exact hG _ List.mem_cons_self ad en ls _ H locs ws ⟨h1, h2, h3, h4, h5, h6, h7, rx_st_push (rx_int_cv b ad en n) h8b, h9⟩
    | false =>
      rw [hc, cond_false] at h
      cases hs1 : rx_sml iv (rx_kn iv y0) with
      | true => rw [hs1, cond_true] at h; exact rx_s_half h hG
      | false =>
        rw [hs1, cond_false] at h
        cases hs2 : rx_sml iv (rx_kn iv x0) with
        | true => rw [hs2, cond_true] at h; exact rx_s_half h hG
        | false =>
          rw [hs2, cond_false] at h
          obtain ⟨hi, h⟩ := rx_cond h
          cases h
          obtain ⟨hix, hiy⟩ := rx_and2.mp hi
          intro ad en ls stA H locs ws hR
          obtain ⟨h1, h2, h3, h4, h5, h6, h7, h8, h9⟩ := hR
          obtain ⟨y, r1, rfl, hy, h8a⟩ := rx_st_cons h8
          obtain ⟨x, r, rfl, hx, h8b⟩ := rx_st_cons h8a
          obtain ⟨x', rfl⟩ := rx_isI_cv hix hx
          obtain ⟨y', rfl⟩ := rx_isI_cv hiy hy
          have hgg := hg ad en (rx_kn iv y0) x' y' (rx_kn_cv h9 hy)
          refine row ?_
          exact rx_fresh (hG _ List.mem_cons_self) h1 h2 h3 h4 h5 h6 h7 h8b h9 hgg.1 hgg.2
theorem rx_g32_ok (v : Nat) (x : Int32) : (rx_g32 v).1 ≤ rx_bias x ∧ rx_bias x ≤ (rx_g32 v).2 := ⟨Nat.zero_le _, rx_bias_max x⟩
theorem rx_ofN_mod (n : Nat) : Int32.ofNat (n % 4294967296) = Int32.ofNat n := by
  apply rx_bias_inj
  rw [rx_bias_ofNat, rx_bias_ofNat]
  unfold rx_bi
  show (n % 4294967296 + 2147483648) % 4294967296 = (n + 2147483648) % 4294967296
  omega
theorem rx_add_ok : ∀ i j n, rx_f_add i j = some n → Int32.ofNat i + Int32.ofNat j = Int32.ofNat n := by
  intro i j n h
  cases h
  show _ = Int32.ofNat ((i + j) % 4294967296)
  rw [rx_ofN_mod]
  exact (Int32.ofNat_add i j).symm
theorem rx_mul_ok : ∀ i j n, rx_f_mul i j = some n → Int32.ofNat i * Int32.ofNat j = Int32.ofNat n := by
  intro i j n h
  cases h
  show _ = Int32.ofNat ((i * j) % 4294967296)
  rw [rx_ofN_mod]
  exact (Int32.ofNat_mul i j).symm
theorem rx_sub_ok : ∀ i j n, rx_f_sub i j = some n → Int32.ofNat i - Int32.ofNat j = Int32.ofNat n := by
  intro i j n h
  cases h
  show _ = Int32.ofNat ((i + (4294967296 - j % 4294967296)) % 4294967296)
  rw [rx_ofN_mod]
  have h1 : Int32.ofNat i = Int32.ofNat (i + (4294967296 - j % 4294967296)) + Int32.ofNat (j % 4294967296) := by
    rw [← Int32.ofNat_add]
    have h2 : j % 4294967296 < 4294967296 := Nat.mod_lt _ (by decide)
    rw [show i + (4294967296 - j % 4294967296) + j % 4294967296 = i + 4294967296 by omega, ← rx_ofN_mod (i + 4294967296), ← rx_ofN_mod i, show (i + 4294967296) % 4294967296 = i % 4294967296 by omega]
  rw [h1, rx_ofN_mod, Int32.add_sub_cancel]
theorem rx_and_ok : ∀ i j n, rx_f_and i j = some n → Int32.ofNat i &&& Int32.ofNat j = Int32.ofNat n := by
  intro i j n h
  cases h
  show _ = Int32.ofNat ((i &&& j) % 4294967296)
  rw [rx_ofN_mod]
  apply Int32.toBitVec_inj.mp
  simp [Int32.toBitVec_and]
theorem rx_s_l : ∀ n, n < 32 → ((nI n &&& 31).toBitVec.smod 32).toNat = n := by decide +kernel
theorem rx_s_u : ∀ n, n < 32 → (((nI n).toUInt32 &&& Int32.toUInt32 31).toBitVec % 32).toNat = n := by decide +kernel
theorem rx_shl_ok : ∀ i j n, rx_f_shl i j = some n → Int32.ofNat i <<< (Int32.ofNat j &&& 31) = Int32.ofNat n := by
  intro i j n h
  obtain ⟨hj, h⟩ := rx_cond h
  obtain ⟨hj, h2⟩ := rx_and2.mp hj
  cases h
  exact pk_shlN (n := i) (nI j &&& 31) j (rx_s_l j (rx_blt.mp hj)) (rx_blt.mp h2)
theorem rx_ushr_ok : ∀ i j n, rx_f_ushr i j = some n → ((Int32.ofNat i).toUInt32 >>> ((Int32.ofNat j).toUInt32 &&& Int32.toUInt32 31)).toInt32 = Int32.ofNat n := by
  intro i j n h
  obtain ⟨hj, h⟩ := rx_cond h
  obtain ⟨hj, h2⟩ := rx_and2.mp hj
  cases h
  exact pk_ushrN (n := i) (rx_blt.mp h2) (nI j) j (rx_s_u j (rx_blt.mp hj))
theorem rx_ofN_bv (z : Int32) : z = Int32.ofNat z.toBitVec.toNat := by
  apply Int32.toBitVec_inj.mp
  simp
theorem rx_no_ok {F : Int32 → Int32 → Int32} : ∀ i j n, rx_f_no i j = some n → F (Int32.ofNat i) (Int32.ofNat j) = Int32.ofNat n := fun _ _ _ h => by cases h
theorem rx_gand_ok (ad : List Nat) (en : List Int32) (v : Nat) (x y : Int32) (h : rx_cv b ad en v = some (.int y)) : (rx_gand v).1 ≤ rx_bias (x &&& y) ∧ rx_bias (x &&& y) ≤ (rx_gand v).2 := by
  unfold rx_gand
  cases hc : (Nat.beq (rx_tk v) 0 && Nat.blt (rx_pl v) 2147483648) with
  | false => exact ⟨Nat.zero_le _, rx_bias_max _⟩
  | true =>
    obtain ⟨h0, h1⟩ := rx_and2.mp hc
    have h1 : v / 4 < 2147483648 := rx_blt.mp h1
    rw [rx_cv0 (rx_beq.mp h0)] at h
    cases h
    have hk : (x &&& Int32.ofNat (v / 4)).toBitVec.toNat ≤ v / 4 := by
      rw [Int32.toBitVec_and, BitVec.toNat_and]
      refine Nat.le_trans Nat.and_le_right ?_
      rw [show (Int32.ofNat (v / 4)).toBitVec = BitVec.ofNat 32 (v / 4) by simp, BitVec.toNat_ofNat]
      exact Nat.mod_le _ _
    rw [rx_ofN_bv (x &&& Int32.ofNat (v / 4)), rx_bias_ofNat]
    generalize (x &&& Int32.ofNat (v / 4)).toBitVec.toNat = k at hk
    have hb : rx_bi k = k + 2147483648 := by unfold rx_bi; show (k + 2147483648) % 4294967296 = _; omega
    rw [hb]
    show 2147483648 ≤ k + 2147483648 ∧ k + 2147483648 ≤ v / 4 + 2147483648
    omega
end RXS2
end
section
section RXS3
variable {p : Program} {l : Launch} {e : Env} {R : Room} {s : State} {m : MethodId} {args : Array Value} {below : List Frame} {meth : Method} {c : Code} {Q : State → Prop} {cc : ByteArray}
variable {cy : Nat → ClassId} {D : va_G} {b : Nat} {A : Nat → Prop} {H0 : Heap} {ad0 : List Nat} {en0 : List Int32} {nL : Nat}
variable {K : rx_K} {N : rx_N} {pc na nb cn sn : Nat} {lv : rx_L} {st : List Nat} {hp : rx_H} {iv : rx_I} {out : List rx_S}
theorem rx_i8_ok (x : Int32) : 2147483520 ≤ rx_bias x.toInt8.toInt32 ∧ rx_bias x.toInt8.toInt32 ≤ 2147483775 := by
  have h1 := x.toInt8.le_toInt
  have h2 := x.toInt8.toInt_lt
  unfold rx_bias
  rw [Int8.toInt_toInt32]
  omega
theorem rx_s_i2b (hx : p.tables.exec = Jvm.exec) (hb : c.code = cc) (hd : decode cc pc = .ok (.i2b, 1)) (h : rx_h_i2b K N pc na nb lv st hp iv cn sn = some out) (hG : ∀ σ ∈ out, rx_G p l e R s m args below meth c Q cy D b A H0 ad0 en0 nL σ) : rx_G p l e R s m args below meth c Q cy D b A H0 ad0 en0 nL (pc, lv, st, hp, iv, cn, sn) := by
  intro ad en ls stA H locs ws hR
  obtain ⟨h1, h2, h3, h4, h5, h6, h7, h8, h9⟩ := hR
  cases st with
  | nil => cases h
  | cons v st' =>
    obtain ⟨hk, h⟩ := rx_cond h
    cases h
    obtain ⟨x, r, rfl, hxv, h8n⟩ := rx_st_cons h8
    obtain ⟨x', rfl⟩ := rx_isI_cv hk hxv
    have ho := rx_i8_ok x'
    exact lv_i2b hx hb hd rfl (rx_fresh (hG _ List.mem_cons_self) h1 h2 h3 h4 h5 h6 h7 h8n h9 ho.1 ho.2)
theorem rx_lg0 (x : Int64) : lg_cmp x x = 0 := by simp [lg_cmp]
theorem rx_s_lcmp (hx : p.tables.exec = Jvm.exec) (hb : c.code = cc) (hd : decode cc pc = .ok (.lcmp, 1)) (h : rx_h_lcmp K N pc na nb lv st hp iv cn sn = some out) (hG : ∀ σ ∈ out, rx_G p l e R s m args below meth c Q cy D b A H0 ad0 en0 nL σ) : rx_G p l e R s m args below meth c Q cy D b A H0 ad0 en0 nL (pc, lv, st, hp, iv, cn, sn) := by
  intro ad en ls stA H locs ws hR
  obtain ⟨h1, h2, h3, h4, h5, h6, h7, h8, h9⟩ := hR
  match st, h with
  | [], h => cases h
  | [_], h => cases h
  | y :: x :: st', h =>
    obtain ⟨hk, h⟩ := rx_cond h
    cases h
    obtain ⟨hj, he⟩ := rx_and2.mp hk
    have he : x = y := rx_beq.mp he
    subst he
    obtain ⟨yv, r1, rfl, hy, h8a⟩ := rx_st_cons h8
    obtain ⟨xv, r, rfl, hxv, h8b⟩ := rx_st_cons h8a
    have e1 := rx_isJ_cv hj hy
    have e2 := rx_isJ_cv hj hxv
    subst e1
    subst e2
    refine W.lcmp hx hb hd ?_
    rw [rx_lg0]
    exact hG _ List.mem_cons_self ad en ls (.int 0 :: r) H locs ws ⟨h1, h2, h3, h4, h5, h6, h7, rx_st_push (v := 0) (rx_int_cv b ad en 0) h8b, h9⟩
theorem rx_cat1 {ad : List Nat} {en : List Int32} {v : Nat} {x : Value} (hj : rx_isJ v = false) (hx : rx_cv b ad en v = some x) : x.category = 1 := by
  rw [rx_cat_cv hx, if_neg (by rw [hj]; exact Bool.noConfusion)]
theorem rx_condF {α : Type} {q : Bool} {x : Option α} {y : α} (h : (bif q then none else x) = some y) : q = false ∧ x = some y := by
  cases q with
  | true => cases h
  | false => exact ⟨rfl, h⟩
theorem rx_s_dup (hx : p.tables.exec = Jvm.exec) (hb : c.code = cc) (hd : decode cc pc = .ok (.dup, 1)) (h : rx_h_dup K N pc na nb lv st hp iv cn sn = some out) (hG : ∀ σ ∈ out, rx_G p l e R s m args below meth c Q cy D b A H0 ad0 en0 nL σ) : rx_G p l e R s m args below meth c Q cy D b A H0 ad0 en0 nL (pc, lv, st, hp, iv, cn, sn) := by
  intro ad en ls stA H locs ws hR
  obtain ⟨h1, h2, h3, h4, h5, h6, h7, h8, h9⟩ := hR
  cases st with
  | nil => cases h
  | cons v st' =>
    obtain ⟨hk, h⟩ := rx_condF h
    cases h
    obtain ⟨x, r, rfl, hxv, h8n⟩ := rx_st_cons h8
    exact lv_dup hx hb hd (rx_cat1 hk hxv) (hG _ List.mem_cons_self ad en ls (x :: x :: r) H locs ws ⟨h1, h2, h3, h4, h5, h6, h7, rx_st_push hxv (rx_st_push hxv h8n), h9⟩)
theorem rx_s_pop (hx : p.tables.exec = Jvm.exec) (hb : c.code = cc) (hd : decode cc pc = .ok (.pop, 1)) (h : rx_h_pop K N pc na nb lv st hp iv cn sn = some out) (hG : ∀ σ ∈ out, rx_G p l e R s m args below meth c Q cy D b A H0 ad0 en0 nL σ) : rx_G p l e R s m args below meth c Q cy D b A H0 ad0 en0 nL (pc, lv, st, hp, iv, cn, sn) := by
  intro ad en ls stA H locs ws hR
  obtain ⟨h1, h2, h3, h4, h5, h6, h7, h8, h9⟩ := hR
  cases st with
  | nil => cases h
  | cons v st' =>
    obtain ⟨hk, h⟩ := rx_condF h
    cases h
    obtain ⟨x, r, rfl, hxv, h8n⟩ := rx_st_cons h8
    exact lv_pop hx hb hd (rx_cat1 hk hxv) (hG _ List.mem_cons_self ad en ls r H locs ws ⟨h1, h2, h3, h4, h5, h6, h7, h8n, h9⟩)
theorem rx_s_dup2 (hx : p.tables.exec = Jvm.exec) (hb : c.code = cc) (hd : decode cc pc = .ok (.dup2, 1)) (h : rx_h_dup2 K N pc na nb lv st hp iv cn sn = some out) (hG : ∀ σ ∈ out, rx_G p l e R s m args below meth c Q cy D b A H0 ad0 en0 nL σ) : rx_G p l e R s m args below meth c Q cy D b A H0 ad0 en0 nL (pc, lv, st, hp, iv, cn, sn) := by
  intro ad en ls stA H locs ws hR
  obtain ⟨h1, h2, h3, h4, h5, h6, h7, h8, h9⟩ := hR
  match st, h with
  | [], h => cases h
  | [_], h => cases h
  | v :: w :: st', h =>
    obtain ⟨hk, h⟩ := rx_condF h
    cases h
    have hkv : rx_isJ v = false := by cases hv : rx_isJ v with | false => rfl | true => rw [hv] at hk; cases hk
    have hkw : rx_isJ w = false := by cases hw : rx_isJ w with | false => rfl | true => rw [hw, hkv] at hk; cases hk
    obtain ⟨x, r1, rfl, hxv, h8a⟩ := rx_st_cons h8
    obtain ⟨y, r, rfl, hyv, h8b⟩ := rx_st_cons h8a
    exact lv_dup2_11 hx hb hd (rx_cat1 hkv hxv) (rx_cat1 hkw hyv) (hG _ List.mem_cons_self ad en ls (x :: y :: x :: y :: r) H locs ws ⟨h1, h2, h3, h4, h5, h6, h7, rx_st_push hxv (rx_st_push hyv (rx_st_push hxv (rx_st_push hyv h8b))), h9⟩)
theorem rx_s_goto {off : Int} (hx : p.tables.exec = Jvm.exec) (hb : c.code = cc) (hd : decode cc pc = .ok (.goto off, 3)) (ht : (pc : Int) + off = (na : Int)) (h : rx_h_goto K N pc na nb lv st hp iv cn sn = some out) (hG : ∀ σ ∈ out, rx_G p l e R s m args below meth c Q cy D b A H0 ad0 en0 nL σ) : rx_G p l e R s m args below meth c Q cy D b A H0 ad0 en0 nL (pc, lv, st, hp, iv, cn, sn) := by
  intro ad en ls stA H locs ws hR
  obtain ⟨h1, h2, h3, h4, h5, h6, h7, h8, h9⟩ := hR
  cases h
  exact lv_goto hx hb hd ht (hG _ List.mem_cons_self ad en ls stA H locs ws ⟨h1, h2, h3, h4, h5, h6, h7, h8, h9⟩)
/-- a condition of two ints -/
noncomputable def rx_cnd (k : ClassFile.Cond) (x y : Int32) : Prop := match k with
  | .lt => x < y | .ge => x ≥ y | .gt => x > y | .le => x ≤ y | .eq => x = y | .ne => x ≠ y
theorem rx_tri_ok {k : ClassFile.Cond} {x y : Int32} {a1 a2 b1 b2 : Nat} (h1 : a1 ≤ rx_bias x) (h2 : rx_bias x ≤ a2) (h3 : b1 ≤ rx_bias y) (h4 : rx_bias y ≤ b2) {t : Bool} (h : rx_tri k (a1, a2) (b1, b2) = some t) : (t = true ↔ rx_cnd k x y) := by
  have two : ∀ {u v : Bool} {z w : Bool}, (bif u then some z else bif v then some w else none) = some t → (u = true ∧ t = z) ∨ (v = true ∧ t = w) := by
    intro u v z w hh
    cases u with
    | true => exact Or.inl ⟨rfl, (Option.some.inj hh).symm⟩
    | false => cases v with
      | true => exact Or.inr ⟨rfl, (Option.some.inj hh).symm⟩
      | false => cases hh
  have ne : ∀ z : x = y, rx_bias x = rx_bias y := fun z => by rw [z]
  cases k <;> simp only [rx_tri] at h <;> rcases two h with ⟨hu, rfl⟩ | ⟨hu, rfl⟩ <;> simp only [rx_cnd]
  · rcases rx_or2.mp hu with q | q <;> have q := rx_blt.mp q <;> simp only [Bool.false_eq_true, false_iff] <;> exact fun z => by have := ne z; omega
  · obtain ⟨q1, q2⟩ := rx_and2.mp hu
    obtain ⟨q2, q3⟩ := rx_and2.mp q2
    have q1 := rx_beq.mp q1; have q2 := rx_beq.mp q2; have q3 := rx_beq.mp q3
    simp only [true_iff]
    exact rx_bias_inj (by omega)
  · rcases rx_or2.mp hu with q | q <;> have q := rx_blt.mp q <;> simp only [true_iff] <;> exact fun z => by have := ne z; omega
  · obtain ⟨q1, q2⟩ := rx_and2.mp hu
    obtain ⟨q2, q3⟩ := rx_and2.mp q2
    have q1 := rx_beq.mp q1; have q2 := rx_beq.mp q2; have q3 := rx_beq.mp q3
    simp only [Bool.false_eq_true, false_iff]
    exact fun z => z (rx_bias_inj (by omega))
  · have q := rx_blt.mp hu; simp only [true_iff]; exact rx_bias_lt.mpr (by omega)
  · have q := rx_ble.mp hu; simp only [Bool.false_eq_true, false_iff]; exact fun z => by have := rx_bias_lt.mp z; omega
  · have q := rx_blt.mp hu; simp only [Bool.false_eq_true, false_iff]; exact fun z => by have := rx_bias_le.mp z; omega
  · have q := rx_ble.mp hu; simp only [true_iff]; exact rx_bias_le.mpr (by omega)
  · have q := rx_blt.mp hu; simp only [true_iff]; exact rx_bias_lt.mpr (by omega)
  · have q := rx_ble.mp hu; simp only [Bool.false_eq_true, false_iff]; exact fun z => by have := rx_bias_lt.mp z; omega
  · have q := rx_blt.mp hu; simp only [Bool.false_eq_true, false_iff]; exact fun z => by have := rx_bias_le.mp z; omega
  · have q := rx_ble.mp hu; simp only [true_iff]; exact rx_bias_le.mpr (by omega)
/-- branches: the row tells the machine's two ways -/
theorem rx_s_br {k : ClassFile.Cond} {x y : Nat} {st' : List Nat}
    (row : ∀ {ad : List Nat} {en : List Int32} {H : Heap} {locs : List Loc} {ls : Array Slot} {stA : List Value} {xa ya : Int32}, rx_cv b ad en x = some (.int xa) → rx_cv b ad en y = some (.int ya) → st.map (rx_cv b ad en) = stA.map some → ∃ r : List Value, st'.map (rx_cv b ad en) = r.map some ∧ ((rx_cnd k xa ya → W p l e R s m args below meth c H locs cn sn Q (F0 m na ls r)) → (¬ rx_cnd k xa ya → W p l e R s m args below meth c H locs cn sn Q (F0 m (pc + 3) ls r)) → W p l e R s m args below meth c H locs cn sn Q (F0 m pc ls stA)))
    (h : rx_br k na pc x y st st' lv hp iv cn sn = some out) (hG : ∀ σ ∈ out, rx_G p l e R s m args below meth c Q cy D b A H0 ad0 en0 nL σ) : rx_G p l e R s m args below meth c Q cy D b A H0 ad0 en0 nL (pc, lv, st, hp, iv, cn, sn) := by
  unfold rx_br at h
  cases hi1 : rx_io iv x with
  | none => rw [hi1] at h; cases h
  | some a =>
    cases hi2 : rx_io iv y with
    | none => rw [hi1, hi2] at h; cases h
    | some b' =>
      rw [hi1, hi2] at h
      obtain ⟨a1, a2⟩ := a
      obtain ⟨b1, b2⟩ := b'
      replace h : (match rx_tri k (a1, a2) (b1, b2) with
        | some true => some [(na, lv, st', hp, iv, cn, sn)]
        | some false => some [(Nat.add pc 3, lv, st', hp, iv, cn, sn)]
        | none => bif Nat.beq b1 b2 then rx_two pc lv st hp (rx_cut iv x (bif Nat.blt a1 b1 then Nat.pred b1 else b1)) cn sn else rx_two pc lv st hp (rx_cut iv y (bif Nat.blt b1 a1 then Nat.pred a1 else a1)) cn sn) = some out := h
      cases ht : rx_tri k (a1, a2) (b1, b2) with
      | none =>
        rw [ht] at h
        replace h : (bif Nat.beq b1 b2 then rx_two pc lv st hp (rx_cut iv x (bif Nat.blt a1 b1 then Nat.pred b1 else b1)) cn sn else rx_two pc lv st hp (rx_cut iv y (bif Nat.blt b1 a1 then Nat.pred a1 else a1)) cn sn) = some out := h
        cases hbb : Nat.beq b1 b2 with
        | true => rw [hbb, cond_true] at h; exact rx_s_two rfl h hG
        | false => rw [hbb, cond_false] at h; exact rx_s_two rfl h hG
      | some t =>
        rw [ht] at h
        intro ad en ls stA H locs ws hR
        obtain ⟨h1, h2, h3, h4, h5, h6, h7, h8, h9⟩ := hR
        obtain ⟨xa, ex, e1, e2⟩ := rx_io_cv (b := b) (ad := ad) h9 hi1
        obtain ⟨ya, ey, e3, e4⟩ := rx_io_cv (b := b) (ad := ad) h9 hi2
        have hiff := rx_tri_ok e1 e2 e3 e4 ht
        obtain ⟨r, hr, hrow⟩ := row (H := H) (locs := locs) (ls := ls) ex ey h8
        cases t with
        | true =>
          cases h
          exact hrow (fun _ => hG _ List.mem_cons_self ad en ls r H locs ws ⟨h1, h2, h3, h4, h5, h6, h7, hr, h9⟩) (fun z => absurd (hiff.mp rfl) z)
        | false =>
          cases h
          exact hrow (fun z => absurd (hiff.mpr z) (by decide)) (fun _ => hG _ List.mem_cons_self ad en ls r H locs ws ⟨h1, h2, h3, h4, h5, h6, h7, hr, h9⟩)
theorem rx_s_if {k : ClassFile.Cond} {off : Int} (hx : p.tables.exec = Jvm.exec) (hb : c.code = cc) (hd : decode cc pc = .ok (.ifCond k off, 3)) (ht : (pc : Int) + off = (na : Int)) (h : rx_h_if k K N pc na nb lv st hp iv cn sn = some out) (hG : ∀ σ ∈ out, rx_G p l e R s m args below meth c Q cy D b A H0 ad0 en0 nL σ) : rx_G p l e R s m args below meth c Q cy D b A H0 ad0 en0 nL (pc, lv, st, hp, iv, cn, sn) := by
  match st, h with
  | [], h => cases h
  | x :: st', h =>
    refine rx_s_br (k := k) (x := x) (y := 0) (st' := st') ?_ h hG
    intro ad en H locs ls stA xa ya ex ey hs
    obtain ⟨x1, r, rfl, hx1, hr⟩ := rx_st_cons hs
    cases ex.symm.trans hx1
    have e0 : ya = 0 := by
      have := ey.symm.trans (rx_int_cv b ad en 0)
      cases this; rfl
    subst e0
    refine ⟨r, hr, fun kt kf => ?_⟩
    cases k with
    | eq => exact lv_if_eq hx hb hd ht kt kf
    | ne => exact lv_if_ne hx hb hd ht kt (fun z => kf (fun w => w z))
    | lt => exact lv_if_lt hx hb hd ht kt kf
    | ge => exact lv_if_ge hx hb hd ht kt kf
    | gt => exact lv_if_gt hx hb hd ht kt kf
    | le => exact lv_if_le hx hb hd ht kt kf
theorem rx_s_icmp {k : ClassFile.Cond} {off : Int} (hx : p.tables.exec = Jvm.exec) (hb : c.code = cc) (hd : decode cc pc = .ok (.if_icmp k off, 3)) (ht : (pc : Int) + off = (na : Int)) (h : rx_h_icmp k K N pc na nb lv st hp iv cn sn = some out) (hG : ∀ σ ∈ out, rx_G p l e R s m args below meth c Q cy D b A H0 ad0 en0 nL σ) : rx_G p l e R s m args below meth c Q cy D b A H0 ad0 en0 nL (pc, lv, st, hp, iv, cn, sn) := by
  match st, h with
  | [], h => cases h
  | [_], h => cases h
  | y :: x :: st', h =>
    refine rx_s_br (k := k) (x := x) (y := y) (st' := st') ?_ h hG
    intro ad en H locs ls stA xa ya ex ey hs
    obtain ⟨y1, r1, rfl, hy1, hr1⟩ := rx_st_cons hs
    obtain ⟨x1, r, rfl, hx1, hr⟩ := rx_st_cons hr1
    cases ex.symm.trans hx1
    cases ey.symm.trans hy1
    refine ⟨r, hr, fun kt kf => ?_⟩
    cases k with
    | eq => exact lv_icmp_eq hx hb hd ht kt kf
    | ne => exact lv_icmp_ne hx hb hd ht kt (fun z => kf (fun w => w z))
    | lt => exact lv_icmp_lt hx hb hd ht kt kf
    | ge => exact lv_icmp_ge hx hb hd ht kt kf
    | gt => exact lv_icmp_gt hx hb hd ht kt kf
    | le => exact lv_icmp_le hx hb hd ht kt kf
end RXS3
end
section
theorem rx_map_get {b : Nat} {ad : List Nat} {en : List Int32} {l : List Nat} {fs : List Value} (h : l.map (rx_cv b ad en) = fs.map some) {i v : Nat} (hv : l[i]? = some v) : ∃ x, fs[i]? = some x ∧ rx_cv b ad en v = some x := by
  have h1 : (l.map (rx_cv b ad en))[i]? = (fs.map some)[i]? := by rw [h]
  rw [List.getElem?_map, List.getElem?_map, hv] at h1
  cases e : fs[i]? with
  | none => rw [e] at h1; cases h1
  | some x => rw [e] at h1; exact ⟨x, rfl, Option.some.inj h1⟩
theorem rx_map_set {b : Nat} {ad : List Nat} {en : List Int32} {l : List Nat} {fs : List Value} (h : l.map (rx_cv b ad en) = fs.map some) {i v : Nat} {x : Value} (hv : rx_cv b ad en v = some x) : (l.set i v).map (rx_cv b ad en) = (fs.set i x).map some := by
  rw [List.map_set, List.map_set, h, hv]
theorem rx_map_len {b : Nat} {ad : List Nat} {en : List Int32} {l : List Nat} {fs : List Value} (h : l.map (rx_cv b ad en) = fs.map some) : fs.length = l.length := by
  have := congrArg List.length h
  simpa using this.symm
/-- a reference to a place -/
theorem rx_ref_at {cy : Nat → ClassId} {b : Nat} {ad : List Nat} {en : List Int32} {hp : rx_H} {ws : va_W} (h3 : rx_RW cy b ad en hp ws) {v : Nat} {x : Value} {cl : rx_C} (ht : (Nat.beq (rx_tk v) 2 && Nat.ble 2 (rx_pl v)) = true) (hx : rx_cv b ad en v = some x) (hg : rx_hg hp (Nat.sub (rx_pl v) 2) = some cl) : ∃ (a : Nat) (e : va_E), x = .ref a ∧ ad[Nat.sub (rx_pl v) 2]? = some a ∧ ws[Nat.sub (rx_pl v) 2]? = some (a, e) ∧ rx_RC cy b ad en cl e := by
  obtain ⟨t1, t2⟩ := rx_and2.mp ht
  obtain ⟨a, e, h1, h2, h4⟩ := h3.2.2.2 _ _ hg
  refine ⟨a, e, ?_, h1, h2, h4⟩
  rw [rx_cv2 (rx_beq.mp t1) (rx_ble.mp t2)] at hx
  have h1' : ad[v / 4 - 2]? = some a := h1
  rw [h1'] at hx
  exact (Option.some.inj hx).symm
theorem rx_RC.obj {cy : Nat → ClassId} {b : Nat} {ad : List Nat} {en : List Int32} {c : rx_C} {e : va_E} (h : rx_RC cy b ad en c e) (hc : c.1 < 12) : ∃ fs : List Value, e = .inr (c.1, fs) ∧ c.2.2.map (rx_cv b ad en) = fs.map some := by
  rcases h.2 with ⟨-, h⟩ | ⟨h1, -⟩ | ⟨h1, -⟩ | ⟨h1, -⟩
  · exact h
  · omega
  · omega
  · omega
theorem rx_RC.nums {cy : Nat → ClassId} {b : Nat} {ad : List Nat} {en : List Int32} {c : rx_C} {e : va_E} (h : rx_RC cy b ad en c e) (hc : c.1 = 12 ∨ c.1 = 13 ∨ c.1 = 15) : ∃ f : Nat → Int32, e = .inl (cy c.1, c.2.1, .inl f) ∧ ∀ j v, c.2.2[j]? = some v → rx_cv b ad en v = some (.int (f j)) := by
  rcases h.2 with ⟨h1, -⟩ | ⟨-, h⟩ | ⟨h1, -⟩ | ⟨h1, -⟩
  · omega
  · exact h
  · omega
  · omega
theorem rx_RC.refs {cy : Nat → ClassId} {b : Nat} {ad : List Nat} {en : List Int32} {c : rx_C} {e : va_E} (h : rx_RC cy b ad en c e) (hc : c.1 = 16) : ∃ f : Nat → Option Nat, e = .inl (cy 16, c.2.1, .inr (.inr (.inr (.inr f)))) ∧ ∀ j v, c.2.2[j]? = some v → rx_cv b ad en v = some (va_rf (f j)) := by
  rcases h.2 with ⟨h1, -⟩ | ⟨h1, -⟩ | ⟨h1, -⟩ | ⟨-, h⟩
  · omega
  · omega
  · omega
  · exact h
/-- what the tables say of a field that is read -/
noncomputable def rx_SF (own : String) (idx na nb : Nat) : Prop := ∃ (C : String) (T : u_T) (Nf : Nat), vwCl[na]? = some (C, T, Nf) ∧ na < 12 ∧ nb < Nf ∧ Cond.fieldLink own idx (T nb).1 (T nb).2.1 (T nb).2.2.1 ∈ lw_G ∧ ∀ w ∈ u_ws C T Nf, w ∈ lw_G
noncomputable def rx_fkt (k : Nat) (ty : FieldType) : Prop := (k = 0 ∧ ty = .int) ∨ (k = 1 ∧ ty = .boolean) ∨ (k = 2 ∧ ((∃ n, ty = .object n) ∨ ∃ t, ty = .array t))
/-- and of one that is written -/
noncomputable def rx_SP (K : rx_K) (own mn : String) (idx na nb : Nat) : Prop := ∃ (C : String) (T : u_T) (Nf : Nat) (ty0 : Nat → FieldType), vwCl[na]? = some (C, T, Nf) ∧ na < 12 ∧ nb < Nf ∧ Cond.fieldLink own idx (T nb).1 (T nb).2.1 (T nb).2.2.1 ∈ lw_G ∧ (∀ w ∈ u_ws C T Nf, w ∈ lw_G) ∧
  (∀ k, k < Nf → parseFieldDescriptor (T k).2.2.1 = some (ty0 k)) ∧ (∀ a, a < Nf → ∀ b, b < Nf → a ≠ b → (T a).2.1 ≠ (T b).2.1) ∧ ((T nb).2.2.2 = false ∨ ((T nb).2.2.2 = true ∧ mn = "<init>" ∧ (T nb).1 = own)) ∧ ∀ ks k, rx_nth K.2 na = some ks → rx_nth ks nb = some k → rx_fkt k (ty0 nb)
theorem rx_bit_cv {b : Nat} {ad : List Nat} {en : List Int32} {v : Nat} {x : Value} (h : rx_bit v = true) (hx : rx_cv b ad en v = some x) : x = .int 0 ∨ x = .int 1 := by
  rcases rx_or2.mp h with h | h
  · have h := rx_beq.mp h
    subst h
    exact Or.inl (Option.some.inj (hx.symm.trans (rx_int_cv b ad en 0)))
  · have h := rx_beq.mp h
    subst h
    exact Or.inr (Option.some.inj (hx.symm.trans (rx_int_cv b ad en 1)))
theorem rx_fok_cv {b : Nat} {ad : List Nat} {en : List Int32} {k v : Nat} {x : Value} {ty : FieldType} (hk : rx_fkt k ty) (h : rx_fok k v = true) (hx : rx_cv b ad en v = some x) : narrow ty x = x ∧ fits ty x = true := by
  unfold rx_fok at h
  rcases hk with ⟨rfl, rfl⟩ | ⟨rfl, rfl⟩ | ⟨rfl, ht⟩
  · replace h : rx_isI v = true := h
    obtain ⟨n, rfl⟩ := rx_isI_cv h hx
    exact ⟨rfl, rfl⟩
  · replace h : rx_bit v = true := h
    rcases rx_bit_cv h hx with rfl | rfl
    · exact ⟨rfl, rfl⟩
    · exact ⟨rfl, rfl⟩
  · replace h : rx_isA v = true := h
    rcases ht with ⟨n, rfl⟩ | ⟨n, rfl⟩ <;> rcases rx_isA_cv h hx with rfl | ⟨a, rfl⟩ <;> exact ⟨rfl, rfl⟩
section RXS4
variable {p : Program} {l : Launch} {e : Env} {R : Room} {s : State} {m : MethodId} {args : Array Value} {below : List Frame} {meth : Method} {c : Code} {Q : State → Prop} {cc : ByteArray}
variable {cy : Nat → ClassId} {D : va_G} {b : Nat} {A : Nat → Prop} {H0 : Heap} {ad0 : List Nat} {en0 : List Int32} {nL : Nat}
variable {K : rx_K} {N : rx_N} {pc na nb cn sn : Nat} {lv : rx_L} {st : List Nat} {hp : rx_H} {iv : rx_I} {out : List rx_S} {own : String}
theorem rx_s_gf {idx : Nat} (hx : p.tables.exec = Jvm.exec) (hb : c.code = cc) (hts : ∀ w ∈ lw_G, w.before args s = true) (hown : s.vm.findClass own = some m.cls) (hK : va_K D vwCl (rx_tys cy) s) (hd : decode cc pc = .ok (.getfield idx, 3)) (hF : rx_SF own idx na nb)
    (h : rx_h_gf K N pc na nb lv st hp iv cn sn = some out) (hG : ∀ σ ∈ out, rx_G p l e R s m args below meth c Q cy D b A H0 ad0 en0 nL σ) : rx_G p l e R s m args below meth c Q cy D b A H0 ad0 en0 nL (pc, lv, st, hp, iv, cn, sn) := by
  intro ad en ls stA H locs ws hR
  obtain ⟨h1, h2, h3, h4, h5, h6, h7, h8, h9⟩ := hR
  match st, h with
  | [], h => cases h
  | v :: st', h =>
    obtain ⟨ht, h⟩ := rx_cond h
    cases hg : rx_hg hp (Nat.sub (rx_pl v) 2) with
    | none => rw [hg] at h; cases h
    | some cl =>
      obtain ⟨t, n, f⟩ := cl
      rw [hg] at h
      obtain ⟨hta, hn⟩ := rx_cond h
      have hta : t = na := rx_beq.mp hta
      subst hta
      rw [rx_nth_eq] at hn
      cases hv : f[nb]? with
      | none => rw [hv] at hn; cases hn
      | some w =>
        rw [hv] at hn
        cases hn
        obtain ⟨x, r, rfl, hxv, h8n⟩ := rx_st_cons h8
        obtain ⟨a, ee, rfl, ha, hw, hc⟩ := rx_ref_at h3 ht hxv hg
        obtain ⟨C, T, Nf, q1, q2, q3, q4, q5⟩ := hF
        obtain ⟨fs, rfl, hfs⟩ := hc.obj q2
        obtain ⟨y, hy, hcv⟩ := rx_map_get hfs hv
        exact va_get hx hb hts q5 hown hK h4 _ hw q1 nb q3 (hts _ q4) (fun _ z => z) hy hd (hG _ List.mem_cons_self ad en ls (y :: r) H locs ws ⟨h1, h2, h3, h4, h5, h6, h7, rx_st_push hcv h8n, h9⟩)
theorem rx_s_pf {idx : Nat} {mn : String} (hx : p.tables.exec = Jvm.exec) (hb : c.code = cc) (hts : ∀ w ∈ lw_G, w.before args s = true) (hown : s.vm.findClass own = some m.cls) (hK : va_K D vwCl (rx_tys cy) s) (hmn : mn = "<init>" → meth.name = "<init>") (hd : decode cc pc = .ok (.putfield idx, 3)) (hF : rx_SP K own mn idx na nb)
    (h : rx_h_pf K N pc na nb lv st hp iv cn sn = some out) (hG : ∀ σ ∈ out, rx_G p l e R s m args below meth c Q cy D b A H0 ad0 en0 nL σ) : rx_G p l e R s m args below meth c Q cy D b A H0 ad0 en0 nL (pc, lv, st, hp, iv, cn, sn) := by
  intro ad en ls stA H locs ws hR
  obtain ⟨h1, h2, h3, h4, h5, h6, h7, h8, h9⟩ := hR
  match st, h with
  | [], h => cases h
  | [_], h => cases h
  | u :: v :: st', h =>
    obtain ⟨ht, h⟩ := rx_cond h
    cases hg : rx_hg hp (Nat.sub (rx_pl v) 2) with
    | none => rw [hg] at h; cases h
    | some cl =>
      obtain ⟨t, n, f⟩ := cl
      rw [hg] at h
      replace h : (match rx_nth K.2 na with
        | some ks => (match rx_nth ks nb with
          | some k => bif Nat.beq t na && (Nat.blt nb n && rx_fok k u) then some [(Nat.add pc 3, lv, st', rx_hs hp (Nat.sub (rx_pl v) 2) (t, n, rx_upd f nb u), iv, cn, sn)] else none
          | none => none)
        | none => none) = some out := h
      cases hks : rx_nth K.2 na with
      | none => rw [hks] at h; cases h
      | some ks =>
        rw [hks] at h
        replace h : (match rx_nth ks nb with
          | some k => bif Nat.beq t na && (Nat.blt nb n && rx_fok k u) then some [(Nat.add pc 3, lv, st', rx_hs hp (Nat.sub (rx_pl v) 2) (t, n, rx_upd f nb u), iv, cn, sn)] else none
          | none => none) = some out := h
        cases hk : rx_nth ks nb with
        | none => rw [hk] at h; cases h
        | some k =>
          rw [hk] at h
          obtain ⟨hc, hn⟩ := rx_cond h
          obtain ⟨hta, hc⟩ := rx_and2.mp hc
          obtain ⟨hbn, hfok⟩ := rx_and2.mp hc
          have hta : t = na := rx_beq.mp hta
          have hbn : nb < n := rx_blt.mp hbn
          subst hta
          cases hn
          obtain ⟨y, r1, rfl, hy, h8a⟩ := rx_st_cons h8
          obtain ⟨x, r, rfl, hxv, h8n⟩ := rx_st_cons h8a
          obtain ⟨a, ee, rfl, ha, hw, hcl⟩ := rx_ref_at h3 ht hxv hg
          obtain ⟨C, T, Nf, ty0, q1, q2, q3, q4, q5, q6, q7, q8, q9⟩ := hF
          obtain ⟨fs, rfl, hfs⟩ := hcl.obj q2
          obtain ⟨hn1, hn2⟩ := rx_fok_cv (q9 ks k hks hk) hfok hy
          have hlen : nb < fs.length := by rw [rx_map_len hfs]; show nb < f.length; rw [show f.length = n from hcl.1]; exact hbn
          have hcl2 : rx_RC cy b ad en (t, n, rx_upd f nb u) (.inr (t, fs.set nb y)) := by
            refine ⟨by show (rx_upd f nb u).length = n; rw [rx_upd_eq, List.length_set]; exact hcl.1, Or.inl ⟨q2, _, rfl, ?_⟩⟩
            show (rx_upd f nb u).map _ = _
            rw [rx_upd_eq]
            exact rx_map_set hfs hy
          have hRW := h3.set (rx_hg_lt hg) ha hcl2
          have done : ∀ (H1 : Heap) (locs1 : List Loc), va_P D vwCl (ws.set (Nat.sub (rx_pl v) 2) (a, .inr (t, fs.set nb y))) H1 → va_D A (ws.set (Nat.sub (rx_pl v) 2) (a, .inr (t, fs.set nb y))) → va_S A H0 H1 locs1 → W p l e R s m args below meth c H1 locs1 cn sn Q (F0 m (pc + 3) ls r) := fun H1 locs1 p1 p2 p3 =>
            hG _ List.mem_cons_self ad en ls r H1 locs1 _ ⟨h1, h2, hRW, p1, p2, p3, h7, h8n, h9⟩
          rcases q8 with q8 | ⟨q8, q10, q11⟩
          · exact va_put hx hb hts q5 ty0 q6 q7 hown hK h4 h5 h6 _ hw q1 nb q3 (hts _ q4) (fun _ z => z) q8 (q6 nb q3) hn1 hn2 hlen hd done
          · exact va_putF hx hb hts q5 ty0 q6 q7 hown hK h4 h5 h6 _ hw q1 nb q3 (hts _ q4) (fun _ z => z) q8 (hmn q10) q11 (q6 nb q3) hn1 hn2 hlen hd done
end RXS4
end
section
theorem rx_bv2 {P : Prop} (h : P) : P := h
theorem rx_i8_id {x : Int32} (h1 : 2147483520 ≤ rx_bias x) (h2 : rx_bias x ≤ 2147483775) : vp_nar .byte x = x := by
  rw [vp_nar_byte]
  have h3 := x.le_toInt
  have h4 := x.toInt_lt
  unfold rx_bias at h1 h2
  apply Int32.toInt_inj.mp
  rw [Int8.toInt_toInt32, Int32.toInt_toInt8]
  rw [Int.bmod_eq_of_le (by omega) (by omega)]
/-- the script, if there is one -/
noncomputable def rx_Sc (N : rx_N) (b : Nat) (A : Nat → Prop) (H0 : Heap) (en0 : List Int32) (s : State) : Prop := ∀ L : Nat, rx_sl N = L + 1 → ∃ xs : Nat → Int32, va_X b L xs s H0 ∧ b < H0.size ∧ ¬ A b ∧ L < 100000 ∧ ∀ j : Nat, j < 6 → j < L → en0[j]? = some (xs j)
section RXS5
variable {p : Program} {l : Launch} {e : Env} {R : Room} {s : State} {m : MethodId} {args : Array Value} {below : List Frame} {meth : Method} {c : Code} {Q : State → Prop} {cc : ByteArray}
variable {cy : Nat → ClassId} {D : va_G} {b : Nat} {A : Nat → Prop} {H0 : Heap} {ad0 : List Nat} {en0 : List Int32} {nL : Nat}
variable {K : rx_K} {N : rx_N} {pc na nb cn sn : Nat} {lv : rx_L} {st : List Nat} {hp : rx_H} {iv : rx_I} {out : List rx_S} {own : String}
theorem rx_s_alen (hx : p.tables.exec = Jvm.exec) (hb : c.code = cc) (hd : decode cc pc = .ok (.arraylength, 1)) (hSc : rx_Sc N b A H0 en0 s)
    (h : rx_h_alen K N pc na nb lv st hp iv cn sn = some out) (hG : ∀ σ ∈ out, rx_G p l e R s m args below meth c Q cy D b A H0 ad0 en0 nL σ) : rx_G p l e R s m args below meth c Q cy D b A H0 ad0 en0 nL (pc, lv, st, hp, iv, cn, sn) := by
  intro ad en ls stA H locs ws hR
  obtain ⟨h1, h2, h3, h4, h5, h6, h7, h8, h9⟩ := hR
  cases st with
  | nil => cases h
  | cons v st' =>
    obtain ⟨hk, h⟩ := rx_cond h
    cases h
    obtain ⟨hv, hl⟩ := rx_and2.mp hk
    have hv : v = 6 := rx_beq.mp hv
    have hl : 0 < rx_sl N := rx_blt.mp hl
    obtain ⟨xs, q1, q2, q3, q4, q5⟩ := hSc (rx_sl N - 1) (by omega)
    obtain ⟨x, r, rfl, hxv, h8n⟩ := rx_st_cons h8
    subst hv
    have hx6 : x = .ref b := (Option.some.inj hxv).symm
    subst hx6
    exact va_slen hx hb q1 q2 q3 h6 hd (hG _ List.mem_cons_self ad en ls _ H locs ws ⟨h1, h2, h3, h4, h5, h6, h7, rx_st_push (rx_int_cv b ad en _) h8n, h9⟩)
/-- an array is read: the row for each kind -/
theorem rx_s_ald {ok : Nat → Bool} (hx : p.tables.exec = Jvm.exec) (hb : c.code = cc) (hSc : rx_Sc N b A H0 en0 s)
    (hs : ok 13 = true → decode cc pc = .ok (.iaload, 1))
    (row : ∀ {ad : List Nat} {en : List Int32} {t n i a q : Nat} {f : List Nat} {ee : va_E} {ws : va_W} {H : Heap} {locs : List Loc} {ls : Array Slot} {r : List Value} {v : Nat}, ok t = true → rx_RC cy b ad en (t, n, f) ee → ws[q]? = some (a, ee) → va_P D vwCl ws H → i < n → n < 2 ^ 31 → f[i]? = some v → ∃ x : Value, rx_cv b ad en v = some x ∧ (W p l e R s m args below meth c H locs cn sn Q (F0 m (pc + 1) ls (x :: r)) → W p l e R s m args below meth c H locs cn sn Q (F0 m pc ls (.int (nI i) :: .ref a :: r))))
    (h : rx_h_ald ok K N pc na nb lv st hp iv cn sn = some out) (hG : ∀ σ ∈ out, rx_G p l e R s m args below meth c Q cy D b A H0 ad0 en0 nL σ) : rx_G p l e R s m args below meth c Q cy D b A H0 ad0 en0 nL (pc, lv, st, hp, iv, cn, sn) := by
  match st, h with
  | [], h => cases h
  | [_], h => cases h
  | ix :: v :: st', h =>
    unfold rx_h_ald at h
    replace h : (bif Nat.beq v 6 then (bif Nat.beq (rx_tk (rx_kn iv ix)) 0 && (ok 13 && (Nat.blt (Nat.succ (rx_pl (rx_kn iv ix))) (rx_sl N) && Nat.blt (rx_pl (rx_kn iv ix)) 6)) then some [(Nat.add pc 1, lv, rx_sym (rx_pl (rx_kn iv ix)) :: st', hp, iv, cn, sn)] else none)
      else bif Nat.beq (rx_tk v) 2 && Nat.ble 2 (rx_pl v) then (match rx_hg hp (Nat.sub (rx_pl v) 2) with
      | some (t, n, l) => bif Nat.beq (rx_tk (rx_kn iv ix)) 0 then (bif ok t && (Nat.blt (rx_pl (rx_kn iv ix)) n && Nat.blt n 100000) then (match rx_nth l (rx_pl (rx_kn iv ix)) with
            | some x => some [(Nat.add pc 1, lv, x :: st', hp, iv, cn, sn)]
            | none => none) else none)
          else rx_half pc lv (ix :: v :: st') hp iv cn sn (rx_kn iv ix)
      | none => none) else none) = some out := h
    cases hv6 : Nat.beq v 6 with
    | true =>
      rw [hv6, cond_true] at h
      obtain ⟨hc, h⟩ := rx_cond h
      cases h
      obtain ⟨c1, hc⟩ := rx_and2.mp hc
      obtain ⟨c2, hc⟩ := rx_and2.mp hc
      obtain ⟨c3, c4⟩ := rx_and2.mp hc
      have c3 : rx_pl (rx_kn iv ix) + 1 < rx_sl N := rx_blt.mp c3
      have c4 : rx_pl (rx_kn iv ix) < 6 := rx_blt.mp c4
      have hv6 : v = 6 := rx_beq.mp hv6
      intro ad en ls stA H locs ws hR
      obtain ⟨h1, h2, h3, h4, h5, h6, h7, h8, h9⟩ := hR
      obtain ⟨xs, q1, q2, q3, q4, q5⟩ := hSc (rx_sl N - 1) (by omega)
      obtain ⟨ii, r1, rfl, hii, h8a⟩ := rx_st_cons h8
      obtain ⟨vv, r, rfl, hvv, h8b⟩ := rx_st_cons h8a
      have ei := (rx_cv0 (b := b) (ad := ad) (en := en) (rx_beq.mp c1)).symm.trans (rx_kn_cv h9 hii)
      have ei := Option.some.inj ei
      subst ei
      rw [hv6] at hvv
      have ev : vv = .ref b := (Option.some.inj hvv).symm
      subst ev
      have hin : vp_in (nI (rx_pl (rx_kn iv ix))) (rx_sl N - 1) := vp_in_nI (by omega) (by omega)
      have hval : en[rx_pl (rx_kn iv ix)]? = some (xs (rx_pl (rx_kn iv ix))) := rx_get_mono h2 (q5 _ c4 (by omega))
      have hcl : (nI (rx_pl (rx_kn iv ix))).toNatClampNeg = rx_pl (rx_kn iv ix) := nI_clamp (by omega)
      refine va_sld hx hb q1 q2 q3 h6 hin (hs c2) ?_
      rw [show (Int32.ofNat (rx_kn iv ix / 4)).toNatClampNeg = rx_pl (rx_kn iv ix) from hcl]
      exact hG _ List.mem_cons_self ad en ls _ H locs ws ⟨h1, h2, h3, h4, h5, h6, h7, rx_st_push (rx_sym_cv hval) h8b, h9⟩
    | false =>
      rw [hv6, cond_false] at h
      obtain ⟨ht, h⟩ := rx_cond h
      cases hg : rx_hg hp (Nat.sub (rx_pl v) 2) with
      | none => rw [hg] at h; cases h
      | some cl =>
        obtain ⟨t, n, f⟩ := cl
        rw [hg] at h
        replace h : (bif Nat.beq (rx_tk (rx_kn iv ix)) 0 then (bif ok t && (Nat.blt (rx_pl (rx_kn iv ix)) n && Nat.blt n 100000) then (match rx_nth f (rx_pl (rx_kn iv ix)) with
            | some x => some [(Nat.add pc 1, lv, x :: st', hp, iv, cn, sn)]
            | none => none) else none)
          else rx_half pc lv (ix :: v :: st') hp iv cn sn (rx_kn iv ix)) = some out := h
        cases hi0 : Nat.beq (rx_tk (rx_kn iv ix)) 0 with
        | false => rw [hi0, cond_false] at h; exact rx_s_half h hG
        | true =>
          rw [hi0, cond_true] at h
          obtain ⟨hc, h⟩ := rx_cond h
          obtain ⟨c1, hc⟩ := rx_and2.mp hc
          obtain ⟨c2, c3⟩ := rx_and2.mp hc
          have c2 : rx_pl (rx_kn iv ix) < n := rx_blt.mp c2
          have c3 : n < 100000 := rx_blt.mp c3
          rw [rx_nth_eq] at h
          cases hf : f[rx_pl (rx_kn iv ix)]? with
          | none => rw [hf] at h; cases h
          | some w =>
            rw [hf] at h
            cases h
            intro ad en ls stA H locs ws hR
            obtain ⟨h1, h2, h3, h4, h5, h6, h7, h8, h9⟩ := hR
            obtain ⟨ii, r1, rfl, hii, h8a⟩ := rx_st_cons h8
            obtain ⟨vv, r, rfl, hvv, h8b⟩ := rx_st_cons h8a
            have ei := (rx_cv0 (b := b) (ad := ad) (en := en) (rx_beq.mp hi0)).symm.trans (rx_kn_cv h9 hii)
            have ei := Option.some.inj ei
            subst ei
            obtain ⟨a, ee, rfl, ha, hw, hcl⟩ := rx_ref_at h3 ht hvv hg
            obtain ⟨x, hx1, hrow⟩ := row (locs := locs) (ls := ls) (r := r) c1 hcl hw h4 c2 (Nat.lt_trans c3 (by decide)) hf
            exact hrow (hG _ List.mem_cons_self ad en ls (x :: r) H locs ws ⟨h1, h2, h3, h4, h5, h6, h7, rx_st_push hx1 h8b, h9⟩)
theorem rx_s_iald (hx : p.tables.exec = Jvm.exec) (hb : c.code = cc) (hSc : rx_Sc N b A H0 en0 s) (hK : va_K D vwCl (rx_tys cy) s) (hd : decode cc pc = .ok (.iaload, 1))
    (h : rx_h_ald (fun t => Nat.beq t 13) K N pc na nb lv st hp iv cn sn = some out) (hG : ∀ σ ∈ out, rx_G p l e R s m args below meth c Q cy D b A H0 ad0 en0 nL σ) : rx_G p l e R s m args below meth c Q cy D b A H0 ad0 en0 nL (pc, lv, st, hp, iv, cn, sn) := by
  refine rx_s_ald hx hb hSc (fun _ => hd) ?_ h hG
  intro ad en t n i a q f ee ws H locs ls r v ht hc hw hP hi hn hf
  have ht : t = 13 := rx_beq.mp ht
  subst ht
  obtain ⟨g, rfl, hg⟩ := hc.nums (Or.inr (Or.inl rfl))
  refine ⟨_, hg i v hf, fun k => ?_⟩
  refine va_iald hx hb hK hP q 1 hw rfl (vp_in_nI hi hn) hd ?_
  rw [nI_clamp (Nat.lt_trans hi hn)]
  exact k
theorem rx_s_bald (hx : p.tables.exec = Jvm.exec) (hb : c.code = cc) (hSc : rx_Sc N b A H0 en0 s) (hK : va_K D vwCl (rx_tys cy) s) (hd : decode cc pc = .ok (.baload, 1))
    (h : rx_h_ald (fun t => Nat.beq t 12 || Nat.beq t 15) K N pc na nb lv st hp iv cn sn = some out) (hG : ∀ σ ∈ out, rx_G p l e R s m args below meth c Q cy D b A H0 ad0 en0 nL σ) : rx_G p l e R s m args below meth c Q cy D b A H0 ad0 en0 nL (pc, lv, st, hp, iv, cn, sn) := by
  refine rx_s_ald hx hb hSc (fun z => by cases z) ?_ h hG
  intro ad en t n i a q f ee ws H locs ls r v ht hc hw hP hi hn hf
  rcases rx_or2.mp ht with ht | ht
  · have ht : t = 12 := rx_beq.mp ht
    subst ht
    obtain ⟨g, rfl, hg⟩ := hc.nums (Or.inl rfl)
    refine ⟨_, hg i v hf, fun k => ?_⟩
    refine va_bald hx hb hK hP q 0 hw rfl (vp_in_nI hi hn) hd ?_
    rw [nI_clamp (Nat.lt_trans hi hn)]
    exact k
  · have ht : t = 15 := rx_beq.mp ht
    subst ht
    obtain ⟨g, rfl, hg⟩ := hc.nums (Or.inr (Or.inr rfl))
    refine ⟨_, hg i v hf, fun k => ?_⟩
    refine va_zald hx hb hK hP q 3 hw rfl (vp_in_nI hi hn) hd ?_
    rw [nI_clamp (Nat.lt_trans hi hn)]
    exact k
theorem rx_s_aald (hx : p.tables.exec = Jvm.exec) (hb : c.code = cc) (hSc : rx_Sc N b A H0 en0 s) (hK : va_K D vwCl (rx_tys cy) s) (hd : decode cc pc = .ok (.aaload, 1))
    (h : rx_h_ald (fun t => Nat.beq t 16) K N pc na nb lv st hp iv cn sn = some out) (hG : ∀ σ ∈ out, rx_G p l e R s m args below meth c Q cy D b A H0 ad0 en0 nL σ) : rx_G p l e R s m args below meth c Q cy D b A H0 ad0 en0 nL (pc, lv, st, hp, iv, cn, sn) := by
  refine rx_s_ald hx hb hSc (fun z => by cases z) ?_ h hG
  intro ad en t n i a q f ee ws H locs ls r v ht hc hw hP hi hn hf
  have ht : t = 16 := rx_beq.mp ht
  subst ht
  obtain ⟨g, rfl, hg⟩ := hc.refs rfl
  refine ⟨_, hg i v hf, fun k => ?_⟩
  refine va_aldq hx hb hK hP q 4 hw rfl (vp_in_nI hi hn) hd ?_
  rw [nI_clamp (Nat.lt_trans hi hn)]
  exact k
/-- an array is written: the row for each kind -/
theorem rx_s_ast {ok : Nat → Nat → Bool}
    (row : ∀ {ad : List Nat} {en : List Int32} {t n i a q u : Nat} {f : List Nat} {ee : va_E} {ws : va_W} {H : Heap} {locs : List Loc} {ls : Array Slot} {r : List Value} {x : Value}, ok t u = true → rx_RI iv en → rx_RW cy b ad en hp ws → rx_RC cy b ad en (t, n, f) ee → ws[q]? = some (a, ee) → va_P D vwCl ws H → va_D A ws → va_S A H0 H locs → i < n → n < 2 ^ 31 → rx_cv b ad en u = some x →
      ∃ ee' : va_E, rx_RC cy b ad en (t, n, f.set i u) ee' ∧ ((∀ (H1 : Heap) (locs1 : List Loc), va_P D vwCl (ws.set q (a, ee')) H1 → va_D A (ws.set q (a, ee')) → va_S A H0 H1 locs1 → W p l e R s m args below meth c H1 locs1 cn sn Q (F0 m (pc + 1) ls r)) → W p l e R s m args below meth c H locs cn sn Q (F0 m pc ls (x :: .int (nI i) :: .ref a :: r))))
    (h : rx_ast ok pc lv st hp iv cn sn = some out) (hG : ∀ σ ∈ out, rx_G p l e R s m args below meth c Q cy D b A H0 ad0 en0 nL σ) : rx_G p l e R s m args below meth c Q cy D b A H0 ad0 en0 nL (pc, lv, st, hp, iv, cn, sn) := by
  match st, h with
  | [], h => cases h
  | [_], h => cases h
  | [_, _], h => cases h
  | u :: ix :: v :: st', h =>
    unfold rx_ast at h
    obtain ⟨ht, h⟩ := rx_cond h
    cases hg : rx_hg hp (Nat.sub (rx_pl v) 2) with
    | none => rw [hg] at h; cases h
    | some cl =>
      obtain ⟨t, n, f⟩ := cl
      rw [hg] at h
      replace h : (bif Nat.beq (rx_tk (rx_kn iv ix)) 0 then (bif ok t u && (Nat.blt (rx_pl (rx_kn iv ix)) n && Nat.blt n 100000) then some [(Nat.add pc 1, lv, st', rx_hs hp (Nat.sub (rx_pl v) 2) (t, n, rx_upd f (rx_pl (rx_kn iv ix)) u), iv, cn, sn)] else none)
        else rx_half pc lv (u :: ix :: v :: st') hp iv cn sn (rx_kn iv ix)) = some out := h
      cases hi0 : Nat.beq (rx_tk (rx_kn iv ix)) 0 with
      | false => rw [hi0, cond_false] at h; exact rx_s_half h hG
      | true =>
        rw [hi0, cond_true] at h
        obtain ⟨hc, h⟩ := rx_cond h
        cases h
        obtain ⟨c1, hc⟩ := rx_and2.mp hc
        obtain ⟨c2, c3⟩ := rx_and2.mp hc
        have c2 : rx_pl (rx_kn iv ix) < n := rx_blt.mp c2
        have c3 : n < 100000 := rx_blt.mp c3
        intro ad en ls stA H locs ws hR
        obtain ⟨h1, h2, h3, h4, h5, h6, h7, h8, h9⟩ := hR
        obtain ⟨x, r1, rfl, hxu, h8a⟩ := rx_st_cons h8
        obtain ⟨ii, r2, rfl, hii, h8b⟩ := rx_st_cons h8a
        obtain ⟨vv, r, rfl, hvv, h8c⟩ := rx_st_cons h8b
        have ei := (rx_cv0 (b := b) (ad := ad) (en := en) (rx_beq.mp hi0)).symm.trans (rx_kn_cv h9 hii)
        have ei := Option.some.inj ei
        subst ei
        obtain ⟨a, ee, rfl, ha, hw, hcl⟩ := rx_ref_at h3 ht hvv hg
        obtain ⟨ee', hc', hrow⟩ := row (ls := ls) (r := r) c1 h9 h3 hcl hw h4 h5 h6 c2 (Nat.lt_trans c3 (by decide)) hxu
        have hRW := h3.set (rx_hg_lt hg) ha hc'
        rw [← rx_upd_eq] at hRW
        exact hrow (fun H1 locs1 p1 p2 p3 => hG _ List.mem_cons_self ad en ls r H1 locs1 _ ⟨h1, h2, hRW, p1, p2, p3, h7, h8c, h9⟩)
theorem rx_nums_set {ad : List Nat} {en : List Int32} {t n i u : Nat} {f : List Nat} {g : Nat → Int32} {x : Int32} (h0 : f.length = n) (ht : t = 12 ∨ t = 13 ∨ t = 15) (hg : ∀ j v, f[j]? = some v → rx_cv b ad en v = some (.int (g j))) (hu : rx_cv b ad en u = some (.int x)) : rx_RC cy b ad en (t, n, f.set i u) (.inl (cy t, n, .inl (upd g i x))) := by
  refine ⟨by show (f.set i u).length = n; rw [List.length_set]; exact h0, Or.inr (Or.inl ⟨ht, _, rfl, fun j v hj => ?_⟩)⟩
  replace hj : (f.set i u)[j]? = some v := hj
  by_cases e : j = i
  · subst e
    have hlt := (List.getElem?_eq_some_iff.mp hj).1
    rw [List.length_set] at hlt
    rw [List.getElem?_set_self hlt] at hj
    cases hj
    rw [pk_us]
    exact hu
  · rw [List.getElem?_set_ne (Ne.symm e)] at hj
    rw [pk_un e]
    exact hg j v hj
theorem rx_s_iast (hx : p.tables.exec = Jvm.exec) (hb : c.code = cc) (hK : va_K D vwCl (rx_tys cy) s) (hd : decode cc pc = .ok (.iastore, 1))
    (h : rx_h_iast K N pc na nb lv st hp iv cn sn = some out) (hG : ∀ σ ∈ out, rx_G p l e R s m args below meth c Q cy D b A H0 ad0 en0 nL σ) : rx_G p l e R s m args below meth c Q cy D b A H0 ad0 en0 nL (pc, lv, st, hp, iv, cn, sn) := by
  refine rx_s_ast ?_ h hG
  intro ad en t n i a q u f ee ws H locs ls r x hok h9 h3 hc hw hP hD hS hi hn hxu
  obtain ⟨ht, hI⟩ := rx_and2.mp hok
  have ht : t = 13 := rx_beq.mp ht
  subst ht
  obtain ⟨g, rfl, hg⟩ := hc.nums (Or.inr (Or.inl rfl))
  obtain ⟨y, rfl⟩ := rx_isI_cv hI hxu
  refine ⟨_, rx_nums_set hc.1 (Or.inr (Or.inl rfl)) hg hxu, fun k => ?_⟩
  refine va_iast hx hb hK hP hD hS q 1 hw rfl (vp_in_nI hi hn) hd ?_
  rw [nI_clamp (Nat.lt_trans hi hn)]
  exact k
theorem rx_s_bast (hx : p.tables.exec = Jvm.exec) (hb : c.code = cc) (hK : va_K D vwCl (rx_tys cy) s) (hd : decode cc pc = .ok (.bastore, 1))
    (h : rx_h_bast K N pc na nb lv st hp iv cn sn = some out) (hG : ∀ σ ∈ out, rx_G p l e R s m args below meth c Q cy D b A H0 ad0 en0 nL σ) : rx_G p l e R s m args below meth c Q cy D b A H0 ad0 en0 nL (pc, lv, st, hp, iv, cn, sn) := by
  refine rx_s_ast ?_ h hG
  intro ad en t n i a q u f ee ws H locs ls r x hok h9 h3 hc hw hP hD hS hi hn hxu
  rcases rx_or2.mp hok with hok | hok
  · obtain ⟨ht, hI⟩ := rx_and2.mp hok
    have ht : t = 12 := rx_beq.mp ht
    subst ht
    obtain ⟨g, rfl, hg⟩ := hc.nums (Or.inl rfl)
    unfold rx_within at hI
    cases hio : rx_io iv u with
    | none => rw [hio] at hI; cases hI
    | some w =>
      obtain ⟨w1, w2⟩ := w
      rw [hio] at hI
      obtain ⟨i1, i2⟩ := rx_and2.mp hI
      obtain ⟨y, hy, e1, e2⟩ := rx_io_cv (b := b) (ad := ad) h9 hio
      cases hy.symm.trans hxu
      have hnar : vp_nar .byte y = y := rx_i8_id (Nat.le_trans (rx_ble.mp i1) e1) (Nat.le_trans e2 (rx_ble.mp i2))
      refine ⟨_, rx_nums_set hc.1 (Or.inl rfl) hg hxu, fun k => ?_⟩
      refine va_bast hx hb hK hP hD hS q 0 hw rfl (vp_in_nI hi hn) hd ?_
      rw [nI_clamp (Nat.lt_trans hi hn), hnar]
      exact k
  · obtain ⟨ht, hI⟩ := rx_and2.mp hok
    have ht : t = 15 := rx_beq.mp ht
    subst ht
    obtain ⟨g, rfl, hg⟩ := hc.nums (Or.inr (Or.inr rfl))
    have key : ∃ y : Int32, x = .int y ∧ vp_nar .boolean y = y := by
      rcases rx_bit_cv hI hxu with rfl | rfl
      · exact ⟨0, rfl, by decide +kernel⟩
      · exact ⟨1, rfl, by decide +kernel⟩
    obtain ⟨y, rfl, hnar⟩ := key
    refine ⟨_, rx_nums_set hc.1 (Or.inr (Or.inr rfl)) hg hxu, fun k => ?_⟩
    refine va_zast hx hb hK hP hD hS q 3 hw rfl (vp_in_nI hi hn) hd ?_
    rw [nI_clamp (Nat.lt_trans hi hn), hnar]
    exact k
theorem rx_s_aast (hx : p.tables.exec = Jvm.exec) (hb : c.code = cc) (hK : va_K D vwCl (rx_tys cy) s) (hd : decode cc pc = .ok (.aastore, 1))
    (h : rx_h_aast K N pc na nb lv st hp iv cn sn = some out) (hG : ∀ σ ∈ out, rx_G p l e R s m args below meth c Q cy D b A H0 ad0 en0 nL σ) : rx_G p l e R s m args below meth c Q cy D b A H0 ad0 en0 nL (pc, lv, st, hp, iv, cn, sn) := by
  refine rx_s_ast ?_ h hG
  intro ad en t n i a q u f ee ws H locs ls r x hok h9 h3 hc hw hP hD hS hi hn hxu
  obtain ⟨ht, hI⟩ := rx_and2.mp hok
  have ht : t = 16 := rx_beq.mp ht
  subst ht
  obtain ⟨g, rfl, hg⟩ := hc.refs rfl
  unfold rx_obj at hI
  obtain ⟨j1, hI⟩ := rx_and2.mp hI
  obtain ⟨j2, hI⟩ := rx_and2.mp hI
  cases hgo : rx_hg hp (Nat.sub (rx_pl u) 2) with
  | none => rw [hgo] at hI; cases hI
  | some cl =>
    obtain ⟨t2, n2, f2⟩ := cl
    rw [hgo] at hI
    have ht2 : t2 = 7 := rx_beq.mp hI
    subst ht2
    obtain ⟨a2, e2, rfl, ha2, hw2, hc2⟩ := rx_ref_at h3 (rx_and2.mpr ⟨j1, j2⟩) hxu hgo
    obtain ⟨fs, rfl, hfs⟩ := hc2.obj (show 7 < 12 by decide)
    refine ⟨.inl (cy 16, n, .inr (.inr (.inr (.inr (va_up g i (some a2)))))), ?_, fun k => ?_⟩
    · refine ⟨by show (f.set i u).length = n; rw [List.length_set]; exact hc.1, Or.inr (Or.inr (Or.inr ⟨rfl, _, rfl, fun j v hj => ?_⟩))⟩
      replace hj : (f.set i u)[j]? = some v := hj
      by_cases ee : j = i
      · subst ee
        have hlt := (List.getElem?_eq_some_iff.mp hj).1
        rw [List.length_set] at hlt
        rw [List.getElem?_set_self hlt] at hj
        cases hj
        rw [va_up_self]
        exact hxu
      · rw [List.getElem?_set_ne (Ne.symm ee)] at hj
        rw [va_up_ne _ _ ee]
        exact hg j v hj
    · refine va_astq hx hb hK hP hD hS q 4 _ 7 (r := (RX7, TX7, 9)) hw rfl hw2 rfl (vp_in_nI hi hn) hd ?_
      rw [nI_clamp (Nat.lt_trans hi hn)]
      exact k
end RXS5
end
section
/-- what the tables say of a class of which an object is made -/
noncomputable def rx_SN (K : rx_K) (own : String) (idx na : Nat) : Prop := ∃ (C : String) (T : u_T) (Nf : Nat) (ty0 : Nat → FieldType) (fs : List Value) (l : List Nat), vwCl[na]? = some (C, T, Nf) ∧ na < 12 ∧ rx_nth K.1 na = some l ∧ l.length = Nf ∧ (∀ b ad en, l.map (rx_cv b ad en) = fs.map some) ∧ (∀ j, j < Nf → defaultValue (ty0 j) = vp_V fs j) ∧
  (∀ k, k < Nf → parseFieldDescriptor (T k).2.2.1 = some (ty0 k)) ∧ (∀ w ∈ u_ws C T Nf, w ∈ lw_G) ∧ Cond.classLink own idx C ∈ lw_G ∧ Cond.instantiable C Nf ∈ lw_G ∧ Cond.initialized C ∈ lw_G
section RXS6
variable {p : Program} {l : Launch} {e : Env} {R : Room} {s : State} {m : MethodId} {args : Array Value} {below : List Frame} {meth : Method} {c : Code} {Q : State → Prop} {cc : ByteArray}
variable {cy : Nat → ClassId} {D : va_G} {b : Nat} {A : Nat → Prop} {H0 : Heap} {ad0 : List Nat} {en0 : List Int32} {nL : Nat}
variable {K : rx_K} {N : rx_N} {pc na nb cn sn : Nat} {lv : rx_L} {st : List Nat} {hp : rx_H} {iv : rx_I} {out : List rx_S} {own : String}
/-- a cell is made: behind it -/
theorem rx_made {n : Nat} {st' : List Nat} {x : rx_C} (h : rx_new N n lv st' hp iv cn sn x = some out) (hG : ∀ σ ∈ out, rx_G p l e R s m args below meth c Q cy D b A H0 ad0 en0 nL σ) (hR : rx_rc N ≤ R.cells ∧ rx_rs N ≤ R.slots) : (cn + 1 ≤ R.cells ∧ sn + x.2.1 ≤ R.slots) ∧
    ∀ {ad : List Nat} {en : List Int32} {ls : Array Slot} {r : List Value} {H1 : Heap} {locs : List Loc} {ws : va_W} {q : Nat} {ee : va_E}, ad0 <+: ad → en0 <+: en → rx_RW cy b ad en hp ws → rx_RC cy b ad en x ee → va_P D vwCl (ws ++ [(q, ee)]) H1 → va_D A (ws ++ [(q, ee)]) → va_S A H0 H1 locs → rx_RL b ad en nL lv ls → st'.map (rx_cv b ad en) = r.map some → rx_RI iv en → W p l e R s m args below meth c H1 locs (cn + 1) (sn + x.2.1) Q (F0 m n ls (.ref q :: r)) := by
  obtain ⟨hc, h⟩ := rx_cond h
  cases h
  obtain ⟨c1, hc⟩ := rx_and2.mp hc
  obtain ⟨c2, c3⟩ := rx_and2.mp hc
  have c1 : hp.1 < 256 := rx_blt.mp c1
  refine ⟨⟨Nat.le_trans (rx_ble.mp c2) hR.1, Nat.le_trans (rx_ble.mp c3) hR.2⟩, ?_⟩
  intro ad en ls r H1 locs ws q ee h1 h2 h3 hcl p1 p2 p3 h7 h8 h9
  have hm : ad <+: ad ++ [q] := List.prefix_append _ _
  have hq : (ad ++ [q])[hp.1]? = some q := by rw [← h3.2.1]; simp
  exact hG _ List.mem_cons_self (ad ++ [q]) en ls (.ref q :: r) H1 locs (ws ++ [(q, ee)]) ⟨rx_pre1 h1 q, h2, h3.push c1 hcl, p1, p2, p3, h7.mono hm (List.prefix_refl _), rx_st_push (rx_ref_cv hq) (rx_map_mono hm (List.prefix_refl _) h8), h9⟩
theorem rx_s_new {idx : Nat} (hx : p.tables.exec = Jvm.exec) (hb : c.code = cc) (hts : ∀ w ∈ lw_G, w.before args s = true) (hown : s.vm.findClass own = some m.cls) (hK : va_K D vwCl (rx_tys cy) s) (hA : ∀ q, H0.size ≤ q → A q) (hR : rx_rc N ≤ R.cells ∧ rx_rs N ≤ R.slots) (hd : decode cc pc = .ok (.new idx, 3)) (hF : rx_SN K own idx na)
    (h : rx_h_new K N pc na nb lv st hp iv cn sn = some out) (hG : ∀ σ ∈ out, rx_G p l e R s m args below meth c Q cy D b A H0 ad0 en0 nL σ) : rx_G p l e R s m args below meth c Q cy D b A H0 ad0 en0 nL (pc, lv, st, hp, iv, cn, sn) := by
  obtain ⟨C, T, Nf, ty0, fs, l0, q1, q2, q3, q4, q5, q6, q7, q8, q9, q10, q11⟩ := hF
  unfold rx_h_new at h
  rw [q3] at h
  obtain ⟨⟨r1, r2⟩, k⟩ := rx_made h hG hR
  intro ad en ls stA H locs ws hRl
  obtain ⟨h1, h2, h3, h4, h5, h6, h7, h8, h9⟩ := hRl
  have hl : rx_len l0 = Nf := by rw [rx_len_eq]; exact q4
  have hRC : rx_RC cy b ad en (na, rx_len l0, l0) (.inr (na, fs)) := ⟨by show l0.length = rx_len l0; rw [rx_len_eq], Or.inl ⟨q2, fs, rfl, q5 b ad en⟩⟩
  refine va_new hx hb hts q8 ty0 q7 hown (hts _ q9) (hts _ q10) (hts _ q11) hK h4 h5 h6 hA q1 q6 r1 (by rw [← hl]; exact r2) hd (fun q H1 p1 p2 p3 => ?_)
  have := k h1 h2 h3 hRC p1 p2 p3 h7 h8 h9
  rw [← hl]
  exact this
theorem rx_rep {ad : List Nat} {en : List Int32} {n v j w : Nat} (h : (List.replicate n v)[j]? = some w) : w = v := by
  rw [List.getElem?_replicate] at h
  by_cases hj : j < n
  · rw [if_pos hj] at h; exact (Option.some.inj h).symm
  · rw [if_neg hj] at h; cases h
theorem rx_cyE {k : Nat} {ty : FieldType} {cA : ClassId} (hK : va_K D vwCl (rx_tys cy) s) {i : Nat} (hi : (rx_tys cy)[i]? = some (cy k, ty)) (hno : ∀ C, ty ≠ .object C) (hK2 : va_K D vwCl (rx_tys cy ++ [(cA, ty)]) s) : cA = cy k := by
  have h1 := (hK.2 i _ hi).2
  have h2 := (hK2.2 5 (cA, ty) rfl).2
  cases ty with
  | object C => exact absurd rfl (hno C)
  | _ => exact Option.some.inj (h2.symm.trans h1)
theorem rx_s_newa {t : ArrayType} (hx : p.tables.exec = Jvm.exec) (hb : c.code = cc) (hts : ∀ w ∈ lw_G, w.before args s = true) (hK : va_K D vwCl (rx_tys cy) s) (hA : ∀ q, H0.size ≤ q → A q) (hR : rx_rc N ≤ R.cells ∧ rx_rs N ≤ R.slots) (hd : decode cc pc = .ok (.newarray t, 2)) (hF : Cond.arrayClass (newarray.typeOf t) ∈ lw_G)
    (h : rx_h_newa t K N pc na nb lv st hp iv cn sn = some out) (hG : ∀ σ ∈ out, rx_G p l e R s m args below meth c Q cy D b A H0 ad0 en0 nL σ) : rx_G p l e R s m args below meth c Q cy D b A H0 ad0 en0 nL (pc, lv, st, hp, iv, cn, sn) := by
  match st, h with
  | [], h => cases h
  | v :: st', h =>
    unfold rx_h_newa at h
    replace h : (match rx_nk t with
      | some (k, d) => bif Nat.beq (rx_tk v) 0 && Nat.ble (rx_pl v) 10000 then rx_new N (Nat.add pc 2) lv st' hp iv cn sn (k, rx_pl v, List.replicate (rx_pl v) d) else none
      | none => none) = some out := h
    have fin : ∀ {k d : Nat}, (bif Nat.beq (rx_tk v) 0 && Nat.ble (rx_pl v) 10000 then rx_new N (Nat.add pc 2) lv st' hp iv cn sn (k, rx_pl v, List.replicate (rx_pl v) d) else none) = some out → v % 4 = 0 ∧ v / 4 ≤ 10000 ∧ rx_new N (Nat.add pc 2) lv st' hp iv cn sn (k, rx_pl v, List.replicate (rx_pl v) d) = some out := by
      intro k d hh
      obtain ⟨hc, hh⟩ := rx_cond hh
      obtain ⟨c1, c2⟩ := rx_and2.mp hc
      exact ⟨rx_beq.mp c1, rx_ble.mp c2, hh⟩
    have hneg : ∀ n : Nat, n ≤ 10000 → ¬ nI n < 0 ∧ (nI n).toNatClampNeg = n := fun n hn => ⟨nI_pos (by omega), nI_clamp (by omega)⟩
    cases t with
    | int =>
      obtain ⟨c1, c2, h⟩ := fin h
      obtain ⟨⟨r1, r2⟩, k⟩ := rx_made h hG hR
      intro ad en ls stA H locs ws hRl
      obtain ⟨h1, h2, h3, h4, h5, h6, h7, h8, h9⟩ := hRl
      obtain ⟨x, r, rfl, hxv, h8n⟩ := rx_st_cons h8
      cases (rx_cv0 (b := b) (ad := ad) (en := en) c1).symm.trans hxv
      refine va_newa (atype := .int) (ty := .int) (a0 := (v / 4, .inl (fun _ => 0))) hx hb (hts _ hF) rfl hK h4 h5 h6 hA (fun _ => rfl) (hneg _ c2).1 (hneg _ c2).2 (by show v / 4 * 4 ≤ _; omega) r1 r2 hd (fun q cA H1 hK2 p1 p2 p3 => ?_)
      have hcA : cA = cy 13 := rx_cyE hK (i := 1) rfl (fun C z => by cases z) hK2
      subst hcA
      exact k h1 h2 h3 ⟨List.length_replicate, Or.inr (Or.inl ⟨Or.inr (Or.inl rfl), _, rfl, fun j w hj => by rw [rx_rep (ad := ad) (en := en) hj]; exact rx_int_cv b ad en 0⟩)⟩ p1 p2 p3 h7 h8n h9
    | byte =>
      obtain ⟨c1, c2, h⟩ := fin h
      obtain ⟨⟨r1, r2⟩, k⟩ := rx_made h hG hR
      intro ad en ls stA H locs ws hRl
      obtain ⟨h1, h2, h3, h4, h5, h6, h7, h8, h9⟩ := hRl
      obtain ⟨x, r, rfl, hxv, h8n⟩ := rx_st_cons h8
      cases (rx_cv0 (b := b) (ad := ad) (en := en) c1).symm.trans hxv
      refine va_newa (atype := .byte) (ty := .byte) (a0 := (v / 4, .inl (fun _ => 0))) hx hb (hts _ hF) rfl hK h4 h5 h6 hA (fun _ => rfl) (hneg _ c2).1 (hneg _ c2).2 (by show v / 4 * 1 ≤ _; omega) r1 r2 hd (fun q cA H1 hK2 p1 p2 p3 => ?_)
      have hcA : cA = cy 12 := rx_cyE hK (i := 0) rfl (fun C z => by cases z) hK2
      subst hcA
      exact k h1 h2 h3 ⟨List.length_replicate, Or.inr (Or.inl ⟨Or.inl rfl, _, rfl, fun j w hj => by rw [rx_rep (ad := ad) (en := en) hj]; exact rx_int_cv b ad en 0⟩)⟩ p1 p2 p3 h7 h8n h9
    | boolean =>
      obtain ⟨c1, c2, h⟩ := fin h
      obtain ⟨⟨r1, r2⟩, k⟩ := rx_made h hG hR
      intro ad en ls stA H locs ws hRl
      obtain ⟨h1, h2, h3, h4, h5, h6, h7, h8, h9⟩ := hRl
      obtain ⟨x, r, rfl, hxv, h8n⟩ := rx_st_cons h8
      cases (rx_cv0 (b := b) (ad := ad) (en := en) c1).symm.trans hxv
      refine va_newa (atype := .boolean) (ty := .boolean) (a0 := (v / 4, .inl (fun _ => 0))) hx hb (hts _ hF) rfl hK h4 h5 h6 hA (fun _ => rfl) (hneg _ c2).1 (hneg _ c2).2 (by show v / 4 * 1 ≤ _; omega) r1 r2 hd (fun q cA H1 hK2 p1 p2 p3 => ?_)
      have hcA : cA = cy 15 := rx_cyE hK (i := 3) rfl (fun C z => by cases z) hK2
      subst hcA
      exact k h1 h2 h3 ⟨List.length_replicate, Or.inr (Or.inl ⟨Or.inr (Or.inr rfl), _, rfl, fun j w hj => by rw [rx_rep (ad := ad) (en := en) hj]; exact rx_int_cv b ad en 0⟩)⟩ p1 p2 p3 h7 h8n h9
    | long =>
      obtain ⟨c1, c2, h⟩ := fin h
      obtain ⟨⟨r1, r2⟩, k⟩ := rx_made h hG hR
      intro ad en ls stA H locs ws hRl
      obtain ⟨h1, h2, h3, h4, h5, h6, h7, h8, h9⟩ := hRl
      obtain ⟨x, r, rfl, hxv, h8n⟩ := rx_st_cons h8
      cases (rx_cv0 (b := b) (ad := ad) (en := en) c1).symm.trans hxv
      refine va_newa (atype := .long) (ty := .long) (a0 := (v / 4, .inr (.inl (fun _ => 0)))) hx hb (hts _ hF) rfl hK h4 h5 h6 hA (fun _ => rfl) (hneg _ c2).1 (hneg _ c2).2 (by show v / 4 * 8 ≤ _; omega) r1 r2 hd (fun q cA H1 hK2 p1 p2 p3 => ?_)
      have hcA : cA = cy 14 := rx_cyE hK (i := 2) rfl (fun C z => by cases z) hK2
      subst hcA
      exact k h1 h2 h3 ⟨List.length_replicate, Or.inr (Or.inr (Or.inl ⟨rfl, _, rfl⟩))⟩ p1 p2 p3 h7 h8n h9
    | _ => cases h
theorem rx_s_anew {idx : Nat} (hx : p.tables.exec = Jvm.exec) (hb : c.code = cc) (hts : ∀ w ∈ lw_G, w.before args s = true) (hown : s.vm.findClass own = some m.cls) (hK : va_K D vwCl (rx_tys cy) s) (hAO : va_AO "TurnNet$State" s) (hA : ∀ q, H0.size ≤ q → A q) (hR : rx_rc N ≤ R.cells ∧ rx_rs N ≤ R.slots) (hd : decode cc pc = .ok (.anewarray idx, 3)) (hF : Cond.classLink own idx "TurnNet$State" ∈ lw_G)
    (h : rx_h_anew K N pc na nb lv st hp iv cn sn = some out) (hG : ∀ σ ∈ out, rx_G p l e R s m args below meth c Q cy D b A H0 ad0 en0 nL σ) : rx_G p l e R s m args below meth c Q cy D b A H0 ad0 en0 nL (pc, lv, st, hp, iv, cn, sn) := by
  match st, h with
  | [], h => cases h
  | v :: st', h =>
    obtain ⟨hc, h⟩ := rx_cond h
    obtain ⟨c1, c2⟩ := rx_and2.mp hc
    have c1 : v % 4 = 0 := rx_beq.mp c1
    have c2 : v / 4 ≤ 10000 := rx_ble.mp c2
    obtain ⟨⟨r1, r2⟩, k⟩ := rx_made h hG hR
    intro ad en ls stA H locs ws hRl
    obtain ⟨h1, h2, h3, h4, h5, h6, h7, h8, h9⟩ := hRl
    obtain ⟨x, r, rfl, hxv, h8n⟩ := rx_st_cons h8
    cases (rx_cv0 (b := b) (ad := ad) (en := en) c1).symm.trans hxv
    refine va_newq hx hb hown (hts _ hF) hAO hK h4 h5 h6 hA (show ¬ nI (v / 4) < 0 from nI_pos (by omega)) (show (nI (v / 4)).toNatClampNeg = v / 4 from nI_clamp (by omega)) (by omega) r1 r2 hd (fun q cA H1 hK2 p1 p2 p3 => ?_)
    have hcA : cA = cy 16 := by
      obtain ⟨k1, m1, -, -, -, e1⟩ := (hK.2 4 (cy 16, .object "TurnNet$State") rfl).2
      obtain ⟨k2, m2, -, -, -, e2⟩ := (hK2.2 5 (cA, .object "TurnNet$State") rfl).2
      exact Option.some.inj (e2.symm.trans e1)
    subst hcA
    exact k h1 h2 h3 ⟨List.length_replicate, Or.inr (Or.inr (Or.inr ⟨rfl, _, rfl, fun j w hj => by rw [rx_rep (ad := ad) (en := en) hj]; rfl⟩))⟩ p1 p2 p3 h7 h8n h9
theorem rx_lit (a : Nat) : Nat.add a 2147483648 = a + 2147483648 := rfl
theorem rx_s_tsw1 {d : Int} {l0 h0 LB HB x y v : Nat} {st' : List Nat} {offs : Array Int} {len : Nat} (hLB : LB = l0 + 2147483648) (hHB : HB = h0 + 2147483648) (hio : rx_io iv v = some (x, y)) (hx : p.tables.exec = Jvm.exec) (hb : c.code = cc) (hd : decode cc pc = .ok (.tableswitch d (Int.ofNat l0) (Int.ofNat h0) offs, len)) (ht : (pc : Int) + d = (na : Int))
    (h : rx_tsw1 LB HB offs pc na v x y lv st' hp iv cn sn = some out) (hG : ∀ σ ∈ out, rx_G p l e R s m args below meth c Q cy D b A H0 ad0 en0 nL σ) : rx_G p l e R s m args below meth c Q cy D b A H0 ad0 en0 nL (pc, lv, v :: st', hp, iv, cn, sn) := by
  unfold rx_tsw1 at h
  cases hc : (Nat.blt y LB || Nat.blt HB x) with
  | true =>
    rw [hc, cond_true] at h
    cases h
    intro ad en ls stA H locs ws hRl
    obtain ⟨h1, h2, h3, h4, h5, h6, h7, h8, h9⟩ := hRl
    obtain ⟨xa, r, rfl, hxv, h8n⟩ := rx_st_cons h8
    obtain ⟨n, en1, e1, e2⟩ := rx_io_cv (b := b) (ad := ad) h9 hio
    cases en1.symm.trans hxv
    refine lv_tableOut hx hb hd ?_ ht (hG _ List.mem_cons_self ad en ls r H locs ws ⟨h1, h2, h3, h4, h5, h6, h7, h8n, h9⟩)
    have hb1 := n.le_toInt
    unfold rx_bias at e1 e2
    rcases rx_or2.mp hc with q | q
    · have q := rx_blt.mp q
      exact Or.inl (by rw [Int.ofNat_eq_natCast]; omega)
    · have q := rx_blt.mp q
      exact Or.inr (by rw [Int.ofNat_eq_natCast]; omega)
  | false =>
    rw [hc, cond_false] at h
    cases hxy : Nat.beq x y with
    | false => rw [hxy, cond_false] at h; exact rx_s_two rfl h hG
    | true =>
      rw [hxy, cond_true] at h
      have hxy : x = y := rx_beq.mp hxy
      have n1 : ¬ y < LB := fun z => by rw [rx_blt.mpr z] at hc; cases hc
      have n2 : ¬ HB < x := fun z => by rw [rx_blt.mpr z, Bool.or_true] at hc; cases hc
      cases ho : offs[Nat.sub x LB]? with
      | none => rw [ho] at h; cases h
      | some o =>
        rw [ho] at h
        replace h : (match (pc : Int) + o with
          | .ofNat t => some [(t, lv, st', hp, iv, cn, sn)]
          | _ => none) = some out := h
        cases hpo : (pc : Int) + o with
        | negSucc z => rw [hpo] at h; cases h
        | ofNat t =>
          rw [hpo] at h
          cases h
          intro ad en ls stA H locs ws hRl
          obtain ⟨h1, h2, h3, h4, h5, h6, h7, h8, h9⟩ := hRl
          obtain ⟨xa, r, rfl, hxv, h8n⟩ := rx_st_cons h8
          obtain ⟨n, en1, e1, e2⟩ := rx_io_cv (b := b) (ad := ad) h9 hio
          cases en1.symm.trans hxv
          have hb1 := n.le_toInt
          unfold rx_bias at e1 e2
          have hix : (n.toInt - Int.ofNat l0).toNat = x - LB := by rw [Int.ofNat_eq_natCast]; omega
          refine lv_tableIn hx hb hd (by rw [Int.ofNat_eq_natCast]; omega) (by rw [Int.ofNat_eq_natCast]; omega) ?_ hpo (hG _ List.mem_cons_self ad en ls r H locs ws ⟨h1, h2, h3, h4, h5, h6, h7, h8n, h9⟩)
          rw [hix]
          exact ho
theorem rx_s_tsw {d lo hi : Int} {offs : Array Int} {len : Nat} (hx : p.tables.exec = Jvm.exec) (hb : c.code = cc) (hd : decode cc pc = .ok (.tableswitch d lo hi offs, len)) (ht : (pc : Int) + d = (na : Int))
    (h : rx_h_tsw lo hi offs K N pc na nb lv st hp iv cn sn = some out) (hG : ∀ σ ∈ out, rx_G p l e R s m args below meth c Q cy D b A H0 ad0 en0 nL σ) : rx_G p l e R s m args below meth c Q cy D b A H0 ad0 en0 nL (pc, lv, st, hp, iv, cn, sn) := by
  match st, h with
  | [], h => cases h
  | v :: st', h =>
    replace h : rx_tsw2 (rx_io iv v) lo hi offs pc na v lv st' hp iv cn sn = some out := h
    cases hio : rx_io iv v with
    | none => rw [hio] at h; cases h
    | some w =>
      obtain ⟨x, y⟩ := w
      rw [hio] at h
      cases lo with
      | negSucc z => cases h
      | ofNat l0 =>
        cases hi with
        | negSucc z => cases h
        | ofNat h0 =>
          replace h : rx_tsw1 (Nat.add l0 2147483648) (Nat.add h0 2147483648) offs pc na v x y lv st' hp iv cn sn = some out := h
          exact rx_s_tsw1 (rx_lit l0) (rx_lit h0) hio hx hb hd ht h hG
/-- a copy -/
theorem rx_cat_eq {ad : List Nat} {en : List Int32} : ∀ {st : List Nat} {r : List Value}, st.map (rx_cv b ad en) = r.map some → (r.map fun v => v.category).sum = rx_cat st
  | [], [], _ => rfl
  | [], _ :: _, h => by cases h
  | _ :: _, [], h => by cases h
  | v :: st, x :: r, h => by
    obtain ⟨x', r', e, hx, h⟩ := rx_st_cons h
    cases e
    have ih := rx_cat_eq h
    show x.category + (r.map fun v => v.category).sum = (bif rx_isJ v then Nat.add (rx_cat st) 2 else Nat.succ (rx_cat st))
    rw [ih, rx_cat_cv hx]
    cases rx_isJ v with
    | true => show 2 + rx_cat st = rx_cat st + 2; omega
    | false => show 1 + rx_cat st = rx_cat st + 1; omega
theorem rx_s_cpy {idx : Nat} {σ : rx_S} (hx : p.tables.exec = Jvm.exec) (hb : c.code = cc) (hml : c.maxLocals = nL) (hown : s.vm.findClass own = some m.cls) (hK : va_K D vwCl (rx_tys cy) s) (hw1 : (Cond.methodLink own idx arraycopyName).before args s = true) (hw2 : (Cond.native arraycopyName).before args s = true) (hw3 : (Cond.static arraycopyName).before args s = true) (hw4 : (Cond.initialized "java/lang/System").before args s = true) (hfr : 1 ≤ R.frames) (hlo : 40 ≤ R.locals) (hd : decode cc pc = .ok (.invokestatic idx, 3))
    (h : rx_cpy pc lv st hp iv cn sn = some σ) (hG : rx_G p l e R s m args below meth c Q cy D b A H0 ad0 en0 nL σ) : rx_G p l e R s m args below meth c Q cy D b A H0 ad0 en0 nL (pc, lv, st, hp, iv, cn, sn) := by
  match st, h with
  | [], h => cases h
  | [_], h => cases h
  | [_, _], h => cases h
  | [_, _, _], h => cases h
  | [_, _, _, _], h => cases h
  | n :: dp :: d :: sp :: q :: st', h =>
    unfold rx_cpy at h
    dsimp only at h
    obtain ⟨hc, h⟩ := rx_cond h
    obtain ⟨c1, hc⟩ := rx_and2.mp hc
    obtain ⟨c2, hc⟩ := rx_and2.mp hc
    obtain ⟨c3, hc⟩ := rx_and2.mp hc
    obtain ⟨c4, hc⟩ := rx_and2.mp hc
    obtain ⟨c5, c6⟩ := rx_and2.mp hc
    cases hg1 : rx_hg hp (Nat.sub (rx_pl q) 2) with
    | none => rw [hg1] at h; cases h
    | some cl1 =>
      cases hg2 : rx_hg hp (Nat.sub (rx_pl d) 2) with
      | none => rw [hg1, hg2] at h; cases h
      | some cl2 =>
        obtain ⟨t, m1, f1⟩ := cl1
        obtain ⟨t2, m2, f2⟩ := cl2
        rw [hg1, hg2] at h
        dsimp only at h
        obtain ⟨hc2, hn⟩ := rx_cond h
        obtain ⟨d1, hc2⟩ := rx_and2.mp hc2
        obtain ⟨d2, hc2⟩ := rx_and2.mp hc2
        obtain ⟨d3, hc2⟩ := rx_and2.mp hc2
        obtain ⟨d4, hc2⟩ := rx_and2.mp hc2
        obtain ⟨d5, d6⟩ := rx_and2.mp hc2
        have d1 : t = 13 := rx_beq.mp d1
        have d2 : t2 = 13 := rx_beq.mp d2
        have d3 : n = rx_int m1 := rx_beq.mp d3
        have d4 : m1 = m2 := rx_beq.mp d4
        have d5 : m1 < 100000 := rx_blt.mp d5
        have d6 : rx_cat st' ≤ 8 := rx_ble.mp d6
        have c1 : dp = 0 := rx_beq.mp c1
        have c2 : sp = 0 := rx_beq.mp c2
        subst d1; subst d2; subst d3; subst d4; subst c1; subst c2
        cases hn
        intro ad en ls stA H locs ws hRl
        obtain ⟨h1, h2, h3, h4, h5, h6, h7, h8, h9⟩ := hRl
        obtain ⟨x1, r1, rfl, hx1, h8a⟩ := rx_st_cons h8
        obtain ⟨x2, r2, rfl, hx2, h8b⟩ := rx_st_cons h8a
        obtain ⟨x3, r3, rfl, hx3, h8c⟩ := rx_st_cons h8b
        obtain ⟨x4, r4, rfl, hx4, h8d⟩ := rx_st_cons h8c
        obtain ⟨x5, r, rfl, hx5, h8e⟩ := rx_st_cons h8d
        have e1 := Option.some.inj (hx1.symm.trans (rx_int_cv b ad en m1))
        have e2 := Option.some.inj (hx2.symm.trans (rx_int_cv b ad en 0))
        have e4 := Option.some.inj (hx4.symm.trans (rx_int_cv b ad en 0))
        subst e1; subst e2; subst e4
        obtain ⟨aq, eq, rfl, haq, hwq, hcq⟩ := rx_ref_at h3 (rx_and2.mpr ⟨c5, c6⟩) hx5 hg1
        obtain ⟨ad', ed, rfl, had, hwd, hcd⟩ := rx_ref_at h3 (rx_and2.mpr ⟨c3, c4⟩) hx3 hg2
        obtain ⟨gq, rfl, hgq⟩ := hcq.nums (Or.inr (Or.inl rfl))
        obtain ⟨gd, rfl, hgd⟩ := hcd.nums (Or.inr (Or.inl rfl))
        have k0 : (Int32.ofNat 0).toNatClampNeg = 0 := by decide
        have km : (Int32.ofNat m1).toNatClampNeg = m1 := nI_clamp (n := m1) (by omega)
        have hcl2 : rx_RC cy b ad en (13, m1, f1) (.inl (cy 13, m1, .inl (va_cpy gq gd 0 0 m1))) := by
          refine ⟨hcq.1, Or.inr (Or.inl ⟨Or.inr (Or.inl rfl), _, rfl, fun j v hj => ?_⟩)⟩
          have hlt : j < m1 := by have := (List.getElem?_eq_some_iff.mp hj).1; exact Nat.lt_of_lt_of_eq this hcq.1
          rw [sb_cpy0 hlt]
          exact hgq j v hj
        have hRW := h3.set (rx_hg_lt hg2) had hcl2
        refine va_copyi hx hb (by rw [hml]; exact h7.2.1.symm) hown hw1 hw2 hw3 hw4 hK h4 h5 h6 _ _ 1 1 hwq hwd rfl rfl rfl (by decide) (by decide) (nI_pos (n := m1) (by omega)) (by rw [k0, km]; exact Nat.le_of_eq (Nat.zero_add m1)) (by rw [k0, km]; exact Nat.le_of_eq (Nat.zero_add m1)) (fun _ _ => rfl) hfr ?_ hd (fun H1 locs1 p1 p2 p3 => ?_)
        · rw [rx_cat_eq h8e]
          have : nativeFrameWords "java/lang/System" "arraycopy" 5 = 7 := by decide +kernel
          rw [this]
          omega
        · rw [k0, km] at p1 p2
          exact hG ad en ls r H1 locs1 _ ⟨h1, h2, hRW, p1, p2, p3, h7, h8e, h9⟩
end RXS6
end
section
noncomputable def rx_ln (ins : Instr) : Nat := match ins with
  | .iload _ => 2 | .istore _ => 2 | .lstore _ => 2 | .bipush _ => 2 | .newarray _ => 2
  | .iinc _ _ => 3 | .sipush _ => 3 | .ldc_w _ => 3 | .ldc2_w _ => 3 | .goto _ => 3 | .ifCond _ _ => 3 | .if_icmp _ _ => 3 | .getfield _ => 3 | .putfield _ => 3 | .anewarray _ => 3 | .new _ => 3 | .invokevirtual _ => 3 | .invokespecial _ => 3 | .invokestatic _ => 3
  | _ => 1
/-- what must hold of an instruction's notes -/
noncomputable def rx_wd (K : rx_K) (own mn : String) (pc na nb : Nat) (ins : Instr) : Prop := match ins with
  | .iinc _ n => Int32.ofInt n = Int32.ofNat na
  | .iconst n => Int32.ofInt n = Int32.ofNat na
  | .bipush n => (Int8.ofInt n).toInt32 = Int32.ofNat na
  | .sipush n => (Int16.ofInt n).toInt32 = Int32.ofNat na
  | .lconst n => Int64.ofNat n.val = Int64.ofNat na
  | .ldc_w i => Jvm.Cond.constant own i (Int32.ofNat na) ∈ lw_G
  | .ldc2_w i => Jvm.Cond.constantLong own i (Int64.ofNat na) ∈ lw_G
  | .goto off => (pc : Int) + off = (na : Int)
  | .ifCond _ off => (pc : Int) + off = (na : Int)
  | .if_icmp _ off => (pc : Int) + off = (na : Int)
  | .tableswitch d _ _ _ => (pc : Int) + d = (na : Int)
  | .getfield i => rx_SF own i na nb
  | .putfield i => rx_SP K own mn i na nb
  | .newarray t => Jvm.Cond.arrayClass (newarray.typeOf t) ∈ lw_G
  | .anewarray i => Jvm.Cond.classLink own i "TurnNet$State" ∈ lw_G
  | .new i => rx_SN K own i na
  | _ => True
noncomputable def rx_dec (bytes : ByteArray) (pc : Nat) (ins : Instr) : Prop := match ins with
  | .tableswitch d lo hi offs => ∃ len, decode bytes pc = .ok (.tableswitch d lo hi offs, len)
  | i => decode bytes pc = .ok (i, rx_ln i)
noncomputable def lw_nest : List Jvm.Cond := lw_tbl.filter (fun w => match w with | .methodLinkNest _ _ _ _ => true | _ => false)
/-- what a method's run stands on -/
noncomputable def rx_Cx (cy : Nat → ClassId) (D : va_G) (r : rx_M) (p : Program) (R : Room) (s : State) (m : MethodId) (args : Array Value) (meth : Method) (c : Code) : Prop :=
  p.tables.exec = Jvm.exec ∧ c.code = rx_b r ∧ meth.sig.returnType = rx_rt r ∧ c.maxLocals = rx_mL (rx_n r) ∧ s.vm.findClass (rx_y r).cls = some m.cls ∧ (∀ w ∈ lw_G, w.before args s = true) ∧ meth.locks = false ∧ ((rx_y r).name = "<init>" → meth.name = "<init>") ∧ va_K D vwCl (rx_tys cy) s ∧ (∀ w ∈ lw_nest, va_Nw w s) ∧ va_AO "TurnNet$State" s ∧
  rx_rf (rx_n r) ≤ R.frames ∧ rx_rl (rx_n r) ≤ R.locals ∧ rx_rc (rx_n r) ≤ R.cells ∧ rx_rs (rx_n r) ≤ R.slots
section RXS7
variable {p : Program} {l : Launch} {e : Env} {R : Room} {s : State} {m : MethodId} {args : Array Value} {below : List Frame} {meth : Method} {c : Code} {Q : State → Prop}
variable {cy : Nat → ClassId} {D : va_G} {b : Nat} {A : Nat → Prop} {H0 : Heap} {ad0 : List Nat} {en0 : List Int32} {nL : Nat}
variable {K : rx_K} {pc na nb cn sn : Nat} {lv : rx_L} {st : List Nat} {hp : rx_H} {iv : rx_I} {out : List rx_S} {r : rx_M}
set_option maxHeartbeats 1000000 in
theorem rx_s_sem {ins : Instr} (C : rx_Cx cy D r p R s m args meth c) (hN : nL = rx_mL (rx_n r)) (hSc : rx_Sc (rx_n r) b A H0 en0 s) (hA : ∀ q, H0.size ≤ q → A q) (hd : rx_dec (rx_b r) pc ins) (hw : rx_wd K (rx_y r).cls (rx_y r).name pc na nb ins)
    (h : rx_sem ins K (rx_n r) pc na nb lv st hp iv cn sn = some out) (hG : ∀ σ ∈ out, rx_G p l e R s m args below meth c Q cy D b A H0 ad0 en0 nL σ) : rx_G p l e R s m args below meth c Q cy D b A H0 ad0 en0 nL (pc, lv, st, hp, iv, cn, sn) := by
  obtain ⟨hx, hb, hr, hml, hown, hts, hlocks, hmn, hK, hNest, hAO, hR1, hR2, hR3, hR4⟩ := C
  cases ins with
  | aload_n k => exact rx_s_ld (K := K) (N := rx_n r) (na := na) (nb := nb) (T := fun x => ∃ a, x = .ref a) (fun ad en v x hk hx' => rx_isR_cv hk hx') rfl (fun hT hl kk => by obtain ⟨a, rfl⟩ := hT; exact lv_aload_n hx hb hd rfl hl kk) h hG
  | iload_n k => exact rx_s_ld (K := K) (N := rx_n r) (na := na) (nb := nb) (T := fun x => ∃ a, x = .int a) (fun ad en v x hk hx' => rx_isI_cv hk hx') rfl (fun hT hl kk => by obtain ⟨a, rfl⟩ := hT; exact lv_iload_n hx hb hd rfl hl kk) h hG
  | lload_n k => exact rx_s_ld (K := K) (N := rx_n r) (na := na) (nb := nb) (T := fun x => ∃ a, x = .long a) (fun ad en v x hk hx' => ⟨_, rx_isJ_cv hk hx'⟩) rfl (fun hT hl kk => by obtain ⟨a, rfl⟩ := hT; exact lv_lload_n hx hb hd rfl hl kk) h hG
  | iload i => exact rx_s_ld (K := K) (N := rx_n r) (na := na) (nb := nb) (T := fun x => ∃ a, x = .int a) (fun ad en v x hk hx' => rx_isI_cv hk hx') rfl (fun hT hl kk => by obtain ⟨a, rfl⟩ := hT; exact lv_iload hx hb hd hl kk) h hG
  | istore_n k => exact rx_s_sto (K := K) (N := rx_n r) (na := na) (nb := nb) hN (T := fun x => ∃ a, x = .int a) (fun ad en v x hk hx' => rx_isI_cv hk hx') (fun hT hi hl kk => by obtain ⟨a, rfl⟩ := hT; exact lv_istore_n hx hb hd rfl hl hi rfl kk) h hG
  | astore_n k => exact rx_s_sto (K := K) (N := rx_n r) (na := na) (nb := nb) hN (T := fun x => ∃ a, x = .ref a) (fun ad en v x hk hx' => rx_isR_cv hk hx') (fun hT hi hl kk => by obtain ⟨a, rfl⟩ := hT; exact lv_astore_n hx hb hd rfl hl hi rfl kk) h hG
  | istore i => exact rx_s_sto (K := K) (N := rx_n r) (na := na) (nb := nb) hN (T := fun x => ∃ a, x = .int a) (fun ad en v x hk hx' => rx_isI_cv hk hx') (fun hT hi hl kk => by obtain ⟨a, rfl⟩ := hT; exact lv_istore hx hb hd hl hi rfl kk) h hG
  | lstore_n k => exact rx_s_stJ (K := K) (N := rx_n r) (na := na) (nb := nb) hN (fun hi hl kk => lv_lstore_n hx hb hd rfl hl hi rfl kk) h hG
  | lstore i => exact rx_s_stJ (K := K) (N := rx_n r) (na := na) (nb := nb) hN (fun hi hl kk => lv_lstore hx hb hd hl hi rfl kk) h hG
  | iinc i n => exact rx_s_inc (K := K) (N := rx_n r) (na := na) (nb := nb) hN hw hx hb hd h hG
  | iconst n => exact rx_s_psh (K := K) (N := rx_n r) (na := na) (nb := nb) (fun kk => lv_iconst hx hb hd hw kk) h hG
  | bipush n => exact rx_s_psh (K := K) (N := rx_n r) (na := na) (nb := nb) (fun kk => lv_bipush hx hb hd hw kk) h hG
  | sipush n => exact rx_s_psh (K := K) (N := rx_n r) (na := na) (nb := nb) (fun kk => lv_sipush hx hb hd hw kk) h hG
  | lconst n => exact rx_s_pshJ (K := K) (N := rx_n r) (na := na) (nb := nb) (fun kk => lv_lconst hx hb hd hw kk) h hG
  | ldc_w i => exact rx_s_psh (K := K) (N := rx_n r) (na := na) (nb := nb) (fun kk => lv_ldcw hx hb hown (hts _ hw) hd kk) h hG
  | ldc2_w i => exact rx_s_pshJ (K := K) (N := rx_n r) (na := na) (nb := nb) (fun kk => lv_ldc2 hx hb hown (hts _ hw) hd kk) h hG
  | iadd => exact rx_s_ar (K := K) (N := rx_n r) (na := na) (nb := nb) (F := fun x y => x + y) (fun kk => lv_iadd hx hb hd kk) rx_add_ok (fun _ _ v x y _ => rx_g32_ok v _) h hG
  | isub => exact rx_s_ar (K := K) (N := rx_n r) (na := na) (nb := nb) (F := fun x y => x - y) (fun kk => lv_isub hx hb hd kk) rx_sub_ok (fun _ _ v x y _ => rx_g32_ok v _) h hG
  | imul => exact rx_s_ar (K := K) (N := rx_n r) (na := na) (nb := nb) (F := fun x y => x * y) (fun kk => lv_imul hx hb hd kk) rx_mul_ok (fun _ _ v x y _ => rx_g32_ok v _) h hG
  | iand => exact rx_s_ar (K := K) (N := rx_n r) (na := na) (nb := nb) (F := fun x y => x &&& y) (fun kk => lv_iand hx hb hd kk) rx_and_ok (fun ad en v x y hv => rx_gand_ok ad en v x y hv) h hG
  | ishl => exact rx_s_ar (K := K) (N := rx_n r) (na := na) (nb := nb) (F := fun x y => x <<< (y &&& 31)) (fun kk => lv_ishl hx hb hd kk) rx_shl_ok (fun _ _ v x y _ => rx_g32_ok v _) h hG
  | ishr => exact rx_s_ar (K := K) (N := rx_n r) (na := na) (nb := nb) (f := rx_f_no) (F := fun x y => x >>> (y &&& 31)) (fun kk => lv_ishr hx hb hd kk) (fun _ _ _ z => by cases z) (fun _ _ v x y _ => rx_g32_ok v _) h hG
  | iushr => exact rx_s_ar (K := K) (N := rx_n r) (na := na) (nb := nb) (F := fun x y => (x.toUInt32 >>> (y.toUInt32 &&& Int32.toUInt32 31)).toInt32) (fun kk => lv_iushr hx hb hd rfl kk) rx_ushr_ok (fun _ _ v x y _ => rx_g32_ok v _) h hG
  | i2b => exact rx_s_i2b (K := K) (N := rx_n r) (na := na) (nb := nb) hx hb hd h hG
  | lcmp => exact rx_s_lcmp (K := K) (N := rx_n r) (na := na) (nb := nb) hx hb hd h hG
  | dup => exact rx_s_dup (K := K) (N := rx_n r) (na := na) (nb := nb) hx hb hd h hG
  | pop => exact rx_s_pop (K := K) (N := rx_n r) (na := na) (nb := nb) hx hb hd h hG
  | dup2 => exact rx_s_dup2 (K := K) (N := rx_n r) (na := na) (nb := nb) hx hb hd h hG
  | goto off => exact rx_s_goto (K := K) (N := rx_n r) (na := na) (nb := nb) hx hb hd hw h hG
  | ifCond k off => exact rx_s_if (K := K) (N := rx_n r) (na := na) (nb := nb) hx hb hd hw h hG
  | if_icmp k off => exact rx_s_icmp (K := K) (N := rx_n r) (na := na) (nb := nb) hx hb hd hw h hG
  | tableswitch d lo hi offs => obtain ⟨len, hd⟩ := hd; exact rx_s_tsw (K := K) (N := rx_n r) (na := na) (nb := nb) hx hb hd hw h hG
  | getfield i => exact rx_s_gf (K := K) (N := rx_n r) (na := na) (nb := nb) hx hb hts hown hK hd hw h hG
  | putfield i => exact rx_s_pf (K := K) (N := rx_n r) (na := na) (nb := nb) hx hb hts hown hK hmn hd hw h hG
  | iaload => exact rx_s_iald (K := K) (N := rx_n r) (na := na) (nb := nb) hx hb hSc hK hd h hG
  | baload => exact rx_s_bald (K := K) (N := rx_n r) (na := na) (nb := nb) hx hb hSc hK hd h hG
  | aaload => exact rx_s_aald (K := K) (N := rx_n r) (na := na) (nb := nb) hx hb hSc hK hd h hG
  | iastore => exact rx_s_iast (K := K) (N := rx_n r) (na := na) (nb := nb) hx hb hK hd h hG
  | bastore => exact rx_s_bast (K := K) (N := rx_n r) (na := na) (nb := nb) hx hb hK hd h hG
  | aastore => exact rx_s_aast (K := K) (N := rx_n r) (na := na) (nb := nb) hx hb hK hd h hG
  | arraylength => exact rx_s_alen (K := K) (N := rx_n r) (na := na) (nb := nb) hx hb hd hSc h hG
  | newarray t => exact rx_s_newa (K := K) (N := rx_n r) (na := na) (nb := nb) hx hb hts hK hA ⟨hR3, hR4⟩ hd hw h hG
  | anewarray i => exact rx_s_anew (K := K) (N := rx_n r) (na := na) (nb := nb) hx hb hts hown hK hAO hA ⟨hR3, hR4⟩ hd hw h hG
  | new i => exact rx_s_new (K := K) (N := rx_n r) (na := na) (nb := nb) hx hb hts hown hK hA ⟨hR3, hR4⟩ hd hw h hG
  | _ => cases h
end RXS7
end
section
/-- the words that a method's contract takes -/
noncomputable def rx_ws (q : rx_M) : List Jvm.Cond := Jvm.Cond.code (rx_y q) (rx_b q) (rx_mL (rx_n q)) (rx_rt q) :: lw_G
noncomputable def rx_room (q : rx_M) : Room := { frames := rx_rf (rx_n q), cells := rx_rc (rx_n q), slots := rx_rs (rx_n q), locals := rx_rl (rx_n q) }
/-- how a method begins -/
noncomputable def rx_Pc (cy : Nat → ClassId) (D : va_G) (asA : List Value) (ws : va_W) (sz : Nat) : Array Value → State → Prop :=
  va_Pc asA (fun U => U.heap.size = sz ∧ va_P D vwCl ws U.heap ∧ va_K D vwCl (rx_tys cy) U ∧ va_D (fun _ => True) ws ∧ (∀ w ∈ lw_nest, va_Nw w U) ∧ va_AO "TurnNet$State" U)
/-- how it ends: as one of the interpreter's outcomes -/
noncomputable def rx_end (cy : Nat → ClassId) (D : va_G) (b : Nat) (ad : List Nat) (en : List Int32) (A : Nat → Prop) (rk : Nat) (o : rx_O) (v : Option Value) (H : Heap) : Prop := ∃ (ad' : List Nat) (en' : List Int32) (ws' : va_W), ad <+: ad' ∧ en <+: en' ∧ ((rk = 0 ∧ v = none) ∨ (rk ≠ 0 ∧ ∃ x, rx_cv b ad' en' o.1 = some x ∧ v = some x)) ∧ rx_RW cy b ad' en' o.2.1 ws' ∧ va_P D vwCl ws' H ∧ va_D A ws' ∧ rx_RI o.2.2 en'
noncomputable def rx_Qc (cy : Nat → ClassId) (D : va_G) (b : Nat) (ad : List Nat) (en : List Int32) (A : Nat → Prop) (rk : Nat) (outs : List rx_O) : Array Value → State → Outcome → State → Prop :=
  fun _ st oc t => (∃ o ∈ outs, ∃ v : Option Value, oc = .returned v ∧ rx_end cy D b ad en A rk o v t.heap) ∧ va_F A st t
theorem lw_G_good {ws : List Jvm.Cond} (h : ∀ w ∈ ws, w ∈ lw_G) : GoodIn lw_G ws := fun w hw => ⟨h w hw, good_of_word (List.mem_filter.mp (h w hw)).2⟩
theorem lw_nest_warm {s U : State} (hW : s.WarmedH U.vm) (h : ∀ w ∈ lw_nest, va_Nw w s) : ∀ w ∈ lw_nest, va_Nw w U := by
  intro w hw
  have h1 := h w hw
  have h2 := (List.mem_filter.mp hw).2
  cases w with
  | methodLinkNest a i x hh => exact va_Nw.warmM hW h1
  | _ => cases h2
theorem lw_nest_same {s U : State} (hv : s.vm = U.vm) (h : ∀ w ∈ lw_nest, va_Nw w s) : ∀ w ∈ lw_nest, va_Nw w U := by
  intro w hw
  have h1 := h w hw
  have h2 := (List.mem_filter.mp hw).2
  cases w with
  | methodLinkNest a i x hh => exact va_Nw.same rfl hv h1
  | _ => cases h2
theorem rx_Pc_blind {cy : Nat → ClassId} {D : va_G} {asA : List Value} {ws : va_W} {sz : Nat} : FrameBlind (rx_Pc cy D asA ws sz) := by
  intro a U g mk q
  obtain ⟨q0, q1, qP, qK, qD, qN, qA⟩ := q
  exact ⟨q0, q1, qP, va_K.moved (u := U) (U := U.calling g mk a) (Vm.Alike.refl U.vm) qK, qD, lw_nest_same (s := U) (U := U.calling g mk a) rfl qN, va_AO.moved (u := U) (U := U.calling g mk a) (Vm.Alike.refl U.vm) qA⟩
section RXC
variable {p : Program} {l : Launch} {e : Env} {R : Room} {s : State} {m : MethodId} {args : Array Value} {below : List Frame} {meth : Method} {c : Code} {Q : State → Prop}
variable {cy : Nat → ClassId} {D : va_G} {b : Nat} {A : Nat → Prop} {H0 : Heap} {ad0 : List Nat} {en0 : List Int32} {nL : Nat}
variable {K : rx_K} {pc na nb cn sn : Nat} {lv : rx_L} {st : List Nat} {hp : rx_H} {iv : rx_I} {r q : rx_M}
/-- behind a call, whatever kind -/
theorem rx_back {ad : List Nat} {en : List Int32} {ls : Array Slot} {H : Heap} {locs : List Loc} {ws : va_W} {rest : List Nat} {restA st0 : List Value} {outs : List rx_O} {aa : Array Value} {mc ms : Nat} {rk : Nat}
    (hr : va_Run p l e R s m args below meth c H locs cn sn mc ms (F0 m pc ls st0) restA (rx_Qc cy D b ad en (va_A ws H.size) rk outs aa) (va_A ws H.size))
    (h1 : ad0 <+: ad) (h2 : en0 <+: en) (h5 : va_D A ws) (h6 : va_S A H0 H locs) (hA : ∀ z, H0.size ≤ z → A z) (h7 : rx_RL b ad en nL lv ls) (h8 : rest.map (rx_cv b ad en) = restA.map some)
    (hG : ∀ o ∈ outs, rx_G p l e R s m args below meth c Q cy D b A H0 ad0 en0 nL (Nat.add pc 3, lv, (bif Nat.beq rk 0 then rest else o.1 :: rest), o.2.1, o.2.2, Nat.add cn mc, Nat.add sn ms)) : W p l e R s m args below meth c H locs cn sn Q (F0 m pc ls st0) := by
  intro T hT X
  obtain ⟨v, st₀, t, T', L, g0, X', hL, e1, e2, ⟨⟨o, ho, v', hv, ad', en', ws', a1, a2, a3, a4, a5, a6, a7⟩, hz, hk⟩, stp⟩ := hr T hT X
  cases hv
  rw [g0] at hz hk
  have hAA : ∀ z, va_A ws H.size z → A z := fun z hz' => by
    rcases hz' with ⟨k, ee, hk'⟩ | hk'
    · exact h5.2 k (z, ee) hk'
    · exact hA z (Nat.le_trans h6.1 hk')
  have hS' : va_S A H0 T'.heap (locs ++ L) := ⟨Nat.le_trans h6.1 (by rw [e1]; exact hz), fun z z1 z2 => by
      rw [e1, hk z (Nat.lt_of_lt_of_le z1 h6.1) (fun y => z2 (hAA z y))]
      exact h6.2.1 z z1 z2, fun z hz' => by
      rcases List.mem_append.mp hz' with h | h
      · exact h6.2.2 z h
      · exact hAA _ (hL z h)⟩
  have key : ∃ stB : List Value, v.toList ++ restA = stB ∧ (bif Nat.beq rk 0 then rest else o.1 :: rest).map (rx_cv b ad' en') = stB.map some := by
    refine ⟨_, rfl, ?_⟩
    have h8' := rx_map_mono a1 a2 h8
    rcases a3 with ⟨rfl, rfl⟩ | ⟨hne, x, hx, rfl⟩
    · exact h8'
    · rw [show Nat.beq rk 0 = false from Bool.eq_false_iff.mpr (fun z => hne (rx_beq.mp z))]
      exact rx_st_push hx h8'
  obtain ⟨stB, hst, hmap⟩ := key
  obtain ⟨t2, b1, b2⟩ := hG o ho ad' en' ls stB T'.heap (locs ++ L) ws' ⟨h1.trans a1, h2.trans a2, a4, by rw [e1]; exact a5, a6.weaken (fun _ _ _ hz' => hAA _ hz'), hS', h7.mono a1 a2, hmap, a7⟩ T' rfl X'
  refine ⟨t2, stp t2 ?_, b2⟩
  rw [← hst] at b1
  exact b1
end RXC
end
section
noncomputable def rx_rkt (rk : Nat) (rt : Option FieldType) : Prop := (rk = 0 ∧ rt = none) ∨ (rk = 1 ∧ rt = some .int) ∨ (rk = 2 ∧ rt = some .boolean) ∨ (rk = 3 ∧ rt = some .long)
/-- what must hold of a method that is called -/
noncomputable def rx_QW (q : rx_M) : Prop := plainName (rx_y q).cls = true ∧ Jvm.Cond.code (rx_y q) (rx_b q) (rx_mL (rx_n q)) (rx_rt q) ∈ lw_G ∧ Jvm.Cond.initialized (rx_y q).cls ∈ lw_G ∧ (rx_y q).cls ≠ "java/lang/invoke/MethodHandle" ∧ (rx_y q).cls ≠ "java/lang/invoke/VarHandle" ∧ (parseMethodDescriptor (rx_y q).desc).map (fun d => d.parameters.length) = some (rx_np (rx_n q)) ∧ rx_sl (rx_n q) = 0 ∧ rx_rkt (rx_rk (rx_n q)) (rx_rt q)
/-- and of a place where one is called -/
noncomputable def rx_site (P : List rx_M) (own : String) (na nb : Nat) (ins : Instr) : Prop := match ins with
  | .invokevirtual i => nb ≠ 1 ∧ nb ≠ 2 ∧ ∃ q, rx_nth P na = some q ∧ Jvm.Cond.methodLink own i (rx_y q) ∈ lw_G ∧ Jvm.Cond.instanceMethod (rx_y q) ∈ lw_G ∧ Jvm.Cond.selects (rx_y q).cls (rx_y q) (rx_y q) ∈ lw_G ∧ (∃ T N, vwCl[nb / 4]? = some ((rx_y q).cls, T, N)) ∧ nb / 4 < 12
  | .invokespecial i => (nb = 1 ∧ Jvm.Cond.methodLink own i objectInit ∈ lw_G ∧ Jvm.Cond.instanceMethod objectInit ∈ lw_G ∧ Jvm.Cond.code objectInit ⟨#[0xb1]⟩ 1 none ∈ lw_G) ∨ (nb ≠ 1 ∧ nb ≠ 2 ∧ ∃ q, rx_nth P na = some q ∧ (rx_y q).name = "<init>" ∧ rx_rt q = none ∧ Jvm.Cond.instanceMethod (rx_y q) ∈ lw_G ∧ (Jvm.Cond.methodLink own i (rx_y q) ∈ lw_G ∨ ∃ host, Jvm.Cond.methodLinkNest own i (rx_y q) host ∈ lw_nest))
  | .invokestatic i => (nb = 2 ∧ Jvm.Cond.methodLink own i arraycopyName ∈ lw_G ∧ Jvm.Cond.native arraycopyName ∈ lw_G ∧ Jvm.Cond.static arraycopyName ∈ lw_G ∧ Jvm.Cond.initialized "java/lang/System" ∈ lw_G) ∨ (nb ≠ 1 ∧ nb ≠ 2 ∧ ∃ q, rx_nth P na = some q ∧ Jvm.Cond.methodLink own i (rx_y q) ∈ lw_G ∧ Jvm.Cond.static (rx_y q) ∈ lw_G)
  | _ => True
noncomputable def rx_OK (P : List rx_M) (K : rx_K) (r : rx_M) (x : rx_E) : Prop := rx_dec (rx_b r) x.1 x.2.2.2.1 ∧ x.2.1 = rx_kd x.2.2.2.1 ∧ (x.2.1 = 0 → x.2.2.1 = rx_sem x.2.2.2.1) ∧ rx_wd K (rx_y r).cls (rx_y r).name x.1 x.2.2.2.2.2.1 x.2.2.2.2.2.2.1 x.2.2.2.1 ∧ rx_site P (rx_y r).cls x.2.2.2.2.2.1 x.2.2.2.2.2.2.1 x.2.2.2.1
noncomputable def rx_ST (P : List rx_M) (K : rx_K) (r : rx_M) : Prop := ∀ ch ∈ rx_cd r, ∀ x ∈ ch, rx_OK P K r x
theorem rx_find_ok {pc : Nat} : ∀ {ch : List rx_E} {x : rx_E}, rx_find pc ch = some x → x ∈ ch ∧ x.1 = pc
  | [], x, h => by cases h
  | y :: ch, x, h => by
    replace h : (bif Nat.beq y.1 pc then some y else rx_find pc ch) = some x := h
    cases hb : Nat.beq y.1 pc with
    | true =>
      rw [hb, cond_true] at h
      cases h
      exact ⟨List.mem_cons_self, rx_beq.mp hb⟩
    | false =>
      rw [hb, cond_false] at h
      obtain ⟨h1, h2⟩ := rx_find_ok h
      exact ⟨List.mem_cons_of_mem _ h1, h2⟩
theorem rx_look_ok {cd : List (List rx_E)} {pc : Nat} {x : rx_E} (h : rx_look cd pc = some x) : (∃ ch ∈ cd, x ∈ ch) ∧ x.1 = pc := by
  unfold rx_look at h
  rw [rx_nth_eq] at h
  cases e : cd[Nat.div pc 16]? with
  | none => rw [e] at h; cases h
  | some ch =>
    rw [e] at h
    obtain ⟨h1, h2⟩ := rx_find_ok h
    exact ⟨⟨ch, List.mem_of_getElem? e, h1⟩, h2⟩
theorem rx_all_ok {α β : Type} {f : α → Option (List β)} {l : List α} {outs : List β} (h : rx_all f l = some outs) : ∀ x ∈ l, ∃ o, f x = some o ∧ ∀ y ∈ o, y ∈ outs := by
  have gen : ∀ (l : List α) (outs : List β), l.foldr (fun x acc => match f x with
    | some a => (match acc with
      | some b => some (a ++ b)
      | none => none)
    | none => none) (some []) = some outs → ∀ x ∈ l, ∃ o, f x = some o ∧ ∀ y ∈ o, y ∈ outs := by
    intro l
    induction l with
    | nil => intro outs _ x hx; cases hx
    | cons z l ih =>
      intro outs h x hx
      rw [List.foldr_cons] at h
      cases hz : f z with
      | none => rw [hz] at h; cases h
      | some a =>
        rw [hz] at h
        dsimp only at h
        cases hb : l.foldr (fun x acc => match f x with
          | some a => (match acc with
            | some b => some (a ++ b)
            | none => none)
          | none => none) (some []) with
        | none => rw [hb] at h; cases h
        | some b =>
          rw [hb] at h
          cases h
          rcases List.mem_cons.mp hx with rfl | hx
          · exact ⟨a, hz, fun y hy => List.mem_append_left _ hy⟩
          · obtain ⟨o, h1, h2⟩ := ih b hb x hx
            exact ⟨o, h1, fun y hy => List.mem_append_right _ (h2 y hy)⟩
  match l, h with
  | [], h => intro x hx; cases hx
  | [z], h =>
    intro x hx
    rcases List.mem_cons.mp hx with rfl | hx
    · exact ⟨outs, h, fun _ hy => hy⟩
    · cases hx
  | z :: w :: l, h => exact gen (z :: w :: l) outs h
/-- the locals of a method that begins -/
theorem rx_args_ok {b : Nat} {ad : List Nat} {en : List Int32} : ∀ {as : List Nat} {asA : List Value} {n off : Nat}, as.map (rx_cv b ad en) = asA.map some → rx_cat as ≤ n → (rx_args as n).length = n ∧ ∀ i v : Nat, (rx_args as n)[i]? = some v → v ≠ 2 → ∃ x, rx_cv b ad en v = some x ∧ (off + i, x) ∈ lv_args off asA
  | [], asA, n, off, h, hc => by
    refine ⟨by show (List.replicate n 2).length = n; simp, fun i v hv h2 => ?_⟩
    replace hv : (List.replicate n 2)[i]? = some v := hv
    rw [List.getElem?_replicate] at hv
    by_cases hi : i < n
    · rw [if_pos hi] at hv; cases hv; exact absurd rfl h2
    · rw [if_neg hi] at hv; cases hv
  | w :: as, asA, n, off, h, hc => by
    obtain ⟨y, asB, rfl, hy, hB⟩ := rx_st_cons h
    have hcat := rx_cat_cv hy
    replace hc : (bif rx_isJ w then Nat.add (rx_cat as) 2 else Nat.succ (rx_cat as)) ≤ n := hc
    cases hj : rx_isJ w with
    | true =>
      rw [hj, cond_true] at hc
      replace hc : rx_cat as + 2 ≤ n := hc
      rw [hj] at hcat
      have ih := rx_args_ok (as := as) (n := n - 2) (off := off + 2) hB (by omega)
      have e : rx_args (w :: as) n = w :: 2 :: rx_args as (n - 2) := by show (bif rx_isJ w then w :: 2 :: rx_args as (n - 2) else w :: rx_args as (n - 1)) = _; rw [hj]; rfl
      rw [e]
      refine ⟨by simp only [List.length_cons, ih.1]; omega, fun i v hv h2 => ?_⟩
      have eA : lv_args off (y :: asB) = (off, y) :: lv_args (off + 2) asB := by simp [lv_args, hcat]
      rw [eA]
      match i, hv with
      | 0, hv => cases hv; exact ⟨y, hy, List.mem_cons_self⟩
      | 1, hv => cases hv; exact absurd rfl h2
      | i + 2, hv =>
        obtain ⟨x, h3, h4⟩ := ih.2 i v (by simpa using hv) h2
        exact ⟨x, h3, List.mem_cons_of_mem _ (by rw [show off + (i + 2) = off + 2 + i by omega]; exact h4)⟩
    | false =>
      rw [hj, cond_false] at hc
      replace hc : rx_cat as + 1 ≤ n := hc
      rw [hj] at hcat
      have ih := rx_args_ok (as := as) (n := n - 1) (off := off + 1) hB (by omega)
      have e : rx_args (w :: as) n = w :: rx_args as (n - 1) := by show (bif rx_isJ w then w :: 2 :: rx_args as (n - 2) else w :: rx_args as (n - 1)) = _; rw [hj]; rfl
      rw [e]
      refine ⟨by simp only [List.length_cons, ih.1]; omega, fun i v hv h2 => ?_⟩
      have eA : lv_args off (y :: asB) = (off, y) :: lv_args (off + 1) asB := by simp [lv_args, hcat]
      rw [eA]
      match i, hv with
      | 0, hv => cases hv; exact ⟨y, hy, List.mem_cons_self⟩
      | i + 1, hv =>
        obtain ⟨x, h3, h4⟩ := ih.2 i v (by simpa using hv) h2
        exact ⟨x, h3, List.mem_cons_of_mem _ (by rw [show off + (i + 1) = off + 1 + i by omega]; exact h4)⟩
theorem rx_lg_sl {b : Nat} {ad : List Nat} {en : List Int32} : ∀ {as : List Nat} {asA : List Value}, as.map (rx_cv b ad en) = asA.map some → (lg_sl asA).length = rx_cat as
  | [], [], _ => rfl
  | [], _ :: _, h => by cases h
  | _ :: _, [], h => by cases h
  | v :: as, x :: asA, h => by
    obtain ⟨x', r', e, hx, h⟩ := rx_st_cons h
    cases e
    have ih := rx_lg_sl h
    have hc := rx_cat_cv hx
    show (lg_sl (x :: asA)).length = (bif rx_isJ v then Nat.add (rx_cat as) 2 else Nat.succ (rx_cat as))
    have e2 : (lg_sl (x :: asA)).length = (if x.category = 2 then 2 else 1) + (lg_sl asA).length := by
      unfold lg_sl
      rw [List.flatMap_cons, List.length_append]
      by_cases h2 : x.category = 2 <;> simp [h2]
    rw [e2, ih]
    cases hj : rx_isJ v with
    | true => rw [hj] at hc; rw [if_pos (by rw [hc]; rfl)]; show 2 + rx_cat as = rx_cat as + 2; omega
    | false => rw [hj] at hc; rw [if_neg (by rw [hc]; decide)]; show 1 + rx_cat as = rx_cat as + 1; omega
end
section
/-- a return of the interpreter, and what the machine does there -/
noncomputable def rx_Ret (p : Program) (l : Launch) (e : Env) (R : Room) (s : State) (m : MethodId) (args : Array Value) (below : List Frame) (meth : Method) (c : Code) (Q : State → Prop) (cy : Nat → ClassId) (D : va_G) (b : Nat) (A : Nat → Prop) (H0 : Heap) (ad0 : List Nat) (en0 : List Int32) (r : rx_M) (o : rx_O) : Prop :=
  ∀ (ad : List Nat) (en : List Int32) (ls : Array Slot) (stA : List Value) (H : Heap) (locs : List Loc) (ws : va_W) (cn sn pc : Nat),
    ((rx_rk (rx_n r) = 0 ∧ decode (rx_b r) pc = .ok (.return_, 1) ∧ stA = []) ∨ ((rx_rk (rx_n r) = 1 ∨ rx_rk (rx_n r) = 2) ∧ decode (rx_b r) pc = .ok (.ireturn, 1) ∧ ∃ x : Int32, stA = [.int x] ∧ rx_cv b ad en o.1 = some (.int x) ∧ (rx_rk (rx_n r) = 2 → x = 0 ∨ x = 1)) ∨ (rx_rk (rx_n r) = 3 ∧ decode (rx_b r) pc = .ok (.lreturn, 1) ∧ ∃ x : Int64, stA = [.long x] ∧ rx_cv b ad en o.1 = some (.long x))) →
    ad0 <+: ad → en0 <+: en → rx_RW cy b ad en o.2.1 ws → va_P D vwCl ws H → va_D A ws → va_S A H0 H locs → rx_RI o.2.2 en → cn ≤ rx_rc (rx_n r) → sn ≤ rx_rs (rx_n r) → W p l e R s m args below meth c H locs cn sn Q (F0 m pc ls stA)
/-- from a state of a method on: the machine comes to one of these ends -/
noncomputable def rx_At (l : Launch) (cy : Nat → ClassId) (D : va_G) (r : rx_M) (σ : rx_S) (outs : List rx_O) : Prop :=
  ∀ (p : Program) (e : Env) (R : Room) (s : State) (m : MethodId) (args : Array Value) (below : List Frame) (meth : Method) (c : Code) (Q : State → Prop) (b : Nat) (A : Nat → Prop) (H0 : Heap) (ad0 : List Nat) (en0 : List Int32),
    rx_Cx cy D r p R s m args meth c → rx_Sc (rx_n r) b A H0 en0 s → (∀ q, H0.size ≤ q → A q) → (∀ o ∈ outs, rx_Ret p l e R s m args below meth c Q cy D b A H0 ad0 en0 r o) → rx_G p l e R s m args below meth c Q cy D b A H0 ad0 en0 (rx_mL (rx_n r)) σ
/-- what a way of running methods must keep -/
noncomputable def rx_SndG (P : List rx_M) (K : rx_K) (l : Launch) (cy : Nat → ClassId) (D : va_G) (g : rx_M → rx_S → Option (List rx_O)) : Prop :=
  ∀ (r : rx_M), rx_ST P K r → rx_rkt (rx_rk (rx_n r)) (rx_rt r) → ∀ (σ : rx_S) (outs : List rx_O), g r σ = some outs → rx_At l cy D r σ outs
/-- the interpreter's run of n steps says what the machine does -/
noncomputable def rx_Snd (P : List rx_M) (K : rx_K) (l : Launch) (cy : Nat → ClassId) (D : va_G) (n : Nat) : Prop := rx_SndG P K l cy D (rx_run P K n)
set_option maxHeartbeats 1000000 in
/-- a method's contract -/
theorem rx_met {l : Launch} {cy : Nat → ClassId} {D : va_G} {q : rx_M} (hQ : rx_QW q) {as : List Nat} {hp : rx_H} {iv : rx_I} {outs : List rx_O} (hat : rx_At l cy D q (0, rx_args as (rx_mL (rx_n q)), [], hp, iv, 0, 0) outs)
    {b : Nat} {ad : List Nat} {en : List Int32} {asA : List Value} {ws : va_W} (sz : Nat) (has : as.map (rx_cv b ad en) = asA.map some) (hcat : rx_cat as ≤ rx_mL (rx_n q)) (hRW : rx_RW cy b ad en hp ws) (hRI : rx_RI iv en) :
    Met l (rx_y q) (rx_ws q) (rx_room q) (rx_Pc cy D asA ws sz) (rx_Qc cy D b ad en (va_A ws sz) (rx_rk (rx_n q)) outs) (rx_rc (rx_n q)) (rx_rs (rx_n q)) (va_A ws sz) := by
  obtain ⟨w1, w2, w3, w4, w5, w6, w7, w8⟩ := hQ
  refine Met.ofW (cc := rx_b q) (maxL := rx_mL (rx_n q)) (ret := rx_rt q) w1 rfl ?_
  intro p e s m args below meth c s₁ B hml hv
  obtain ⟨rfl, hsz, hPw, hK, hD0, hN, hAO⟩ := hv
  have hx := B.exec
  have hb := B.bytes
  have hr := B.returns
  have hts := atoms_spec (ws := rx_ws q) B.pre
  have hown : s.vm.findClass (rx_y q).cls = some m.cls := findClass_of_methodNamed B.named
  have hlocks := B.notSynchronized
  have hin : meth.name = (rx_y q).name := (name_of_methodNamed B.named B.method).1
  subst hsz
  have hD := hD0.self (sz := s.heap.size)
  have hA : ∀ z : Nat, s.heap.size ≤ z → va_A ws s.heap.size z := fun z h => Or.inr h
  have C : rx_Cx cy D q p (headSpec (rx_ws q) (rx_room q)).room s m asA.toArray meth c := ⟨hx, hb, hr, hml, hown, fun w hw => hts w (List.mem_cons_of_mem _ hw), hlocks, (fun z => hin.trans z), hK, hN, hAO, Nat.le_refl _, Nat.le_refl _, Nat.le_refl _, Nat.le_refl _⟩
  have hSc : rx_Sc (rx_n q) b (va_A ws s.heap.size) s.heap en s := fun L hL => by rw [w7] at hL; cases hL
  have hl := lv_entry asA (n := rx_mL (rx_n q)) (by rw [rx_lg_sl has]; exact hcat)
  rw [lg_entry_eq]
  generalize (lg_sl asA ++ List.replicate (rx_mL (rx_n q) - (lg_sl asA).length) Slot.unset).toArray = ls at hl ⊢
  obtain ⟨ha1, ha2⟩ := rx_args_ok (n := rx_mL (rx_n q)) (off := 0) has hcat
  have hRL : rx_RL b ad en (rx_mL (rx_n q)) (rx_args as (rx_mL (rx_n q))) ls := ⟨ha1, hl.1, hl.2.1, fun i v hv h2 => by
    obtain ⟨x, h3, h4⟩ := ha2 i v hv h2
    exact ⟨x, h3, by have := hl.2.2 _ h4; rwa [Nat.zero_add] at this⟩⟩
  have G := hat p e (headSpec (rx_ws q) (rx_room q)).room s m asA.toArray below meth c (MQ below (rx_Qc cy D b ad en (va_A ws s.heap.size) (rx_rk (rx_n q)) outs) asA.toArray s (rx_rc (rx_n q)) (rx_rs (rx_n q)) (va_A ws s.heap.size)) b (va_A ws s.heap.size) s.heap ad en C hSc hA ?_
  · exact G ad en ls [] s.heap [] ws ⟨List.prefix_refl _, List.prefix_refl _, hRW, hPw, hD, va_S.rf, hRL, rfl, hRI⟩
  · intro o ho ad' en' ls' stA H locs ws' cn sn pc hk a1 a2 a3 a4 a5 a6 a7 a8 a9
    refine W.widen a8 a9 ?_
    rcases hk with ⟨k1, k2, rfl⟩ | ⟨k1, k2, x, rfl, hxo, kz⟩ | ⟨k1, k2, x, rfl, hxo⟩
    · have hr0 : meth.sig.returnType = none := by
        rcases w8 with ⟨-, z⟩ | ⟨z, -⟩ | ⟨z, -⟩ | ⟨z, -⟩
        · exact hr.trans z
        · omega
        · omega
        · omega
      exact W.vret hx hb hr0 (fun t ht hW => ⟨⟨o, ho, none, rfl, ad', en', ws', a1, a2, Or.inl ⟨k1, rfl⟩, a3, by rw [ht]; exact a4, a5, a7⟩, a6.F ht⟩) a6.2.2 k2
    · rcases k1 with k1 | k1
      · have hr0 : meth.sig.returnType = some .int := by
          rcases w8 with ⟨z, -⟩ | ⟨-, z⟩ | ⟨z, -⟩ | ⟨z, -⟩
          · omega
          · exact hr.trans z
          · omega
          · omega
        exact W.iret hx hb hr0 (fun t ht hW => ⟨⟨o, ho, some (.int x), rfl, ad', en', ws', a1, a2, Or.inr ⟨by omega, _, hxo, rfl⟩, a3, by rw [ht]; exact a4, a5, a7⟩, a6.F ht⟩) a6.2.2 k2
      · have hr0 : meth.sig.returnType = some .boolean := by
          rcases w8 with ⟨z, -⟩ | ⟨z, -⟩ | ⟨-, z⟩ | ⟨z, -⟩
          · omega
          · omega
          · exact hr.trans z
          · omega
        have hnar : narrow .boolean (.int x) = .int x := by
          rcases kz k1 with rfl | rfl
          · rfl
          · rfl
        exact W.zret hx hb hr0 hnar (fun t ht hW => ⟨⟨o, ho, some (.int x), rfl, ad', en', ws', a1, a2, Or.inr ⟨by omega, _, hxo, rfl⟩, a3, by rw [ht]; exact a4, a5, a7⟩, a6.F ht⟩) a6.2.2 k2
    · have hr0 : meth.sig.returnType = some .long := by
        rcases w8 with ⟨z, -⟩ | ⟨z, -⟩ | ⟨z, -⟩ | ⟨-, z⟩
        · omega
        · omega
        · omega
        · exact hr.trans z
      exact W.lret hx hb hr0 (fun t ht hW => ⟨⟨o, ho, some (.long x), rfl, ad', en', ws', a1, a2, Or.inr ⟨by omega, _, hxo, rfl⟩, a3, by rw [ht]; exact a4, a5, a7⟩, a6.F ht⟩) a6.2.2 k2
end
section
theorem rx_kd_or (ins : Instr) : rx_kd ins = 0 ∨ ins = .ireturn ∨ ins = .lreturn ∨ ins = .return_ ∨ (∃ i, ins = .invokevirtual i) ∨ (∃ i, ins = .invokespecial i) ∨ ∃ i, ins = .invokestatic i := by
  cases ins <;> first | exact Or.inl rfl | exact Or.inr (Or.inl rfl) | exact Or.inr (Or.inr (Or.inl rfl)) | exact Or.inr (Or.inr (Or.inr (Or.inl rfl))) | exact Or.inr (Or.inr (Or.inr (Or.inr (Or.inl ⟨_, rfl⟩)))) | exact Or.inr (Or.inr (Or.inr (Or.inr (Or.inr (Or.inl ⟨_, rfl⟩))))) | exact Or.inr (Or.inr (Or.inr (Or.inr (Or.inr (Or.inr ⟨_, rfl⟩)))))
theorem rx_spl_ok : ∀ (n : Nat) (st acc as rest : List Nat), rx_spl n st acc = some (as, rest) → ∃ pre, st = pre ++ rest ∧ pre.length = n ∧ as = pre.reverse ++ acc
  | 0, st, acc, as, rest, h => by
    replace h : some (acc, st) = some (as, rest) := h
    cases h
    exact ⟨[], rfl, rfl, rfl⟩
  | n + 1, [], acc, as, rest, h => by cases h
  | n + 1, v :: st, acc, as, rest, h => by
    replace h : rx_spl n st (v :: acc) = some (as, rest) := h
    obtain ⟨pre, h1, h2, h3⟩ := rx_spl_ok n st (v :: acc) as rest h
    exact ⟨v :: pre, by rw [h1]; rfl, by simp [h2], by rw [h3]; simp⟩
theorem rx_split {b : Nat} {ad : List Nat} {en : List Int32} {as rest : List Nat} {stA : List Value} (h : (as.reverse ++ rest).map (rx_cv b ad en) = stA.map some) : ∃ asA restA : List Value, stA = asA.reverse ++ restA ∧ as.map (rx_cv b ad en) = asA.map some ∧ rest.map (rx_cv b ad en) = restA.map some := by
  rw [List.map_append] at h
  obtain ⟨x, y, h1, h2, h3⟩ := List.map_eq_append_iff.mp h.symm
  refine ⟨x.reverse, y, by rw [List.reverse_reverse]; exact h1, ?_, h3.symm⟩
  have : (as.reverse.map (rx_cv b ad en)).reverse = (x.map some).reverse := by rw [h2]
  simpa [List.map_reverse] using this
section RXD
variable {p : Program} {l : Launch} {e : Env} {R : Room} {s : State} {m : MethodId} {args : Array Value} {below : List Frame} {meth : Method} {c : Code} {Q : State → Prop}
variable {cy : Nat → ClassId} {D : va_G} {b : Nat} {A : Nat → Prop} {H0 : Heap} {ad0 : List Nat} {en0 : List Int32} {nL : Nat}
variable {P : List rx_M} {K : rx_K} {pc na nb cn sn : Nat} {g : rx_M → rx_S → Option (List rx_O)} {lv : rx_L} {st : List Nat} {hp : rx_H} {iv : rx_I} {r q : rx_M} {β : Type} {f : rx_M → rx_S → Option (List β)} {outs : List β}
theorem rx_s_inv1 {i : Nat} (C : rx_Cx cy D r p R s m args meth c) (hN : nL = rx_mL (rx_n r)) (hd : decode (rx_b r) pc = .ok (.invokespecial i, 3)) (w1 : Jvm.Cond.methodLink (rx_y r).cls i objectInit ∈ lw_G) (w2 : Jvm.Cond.instanceMethod objectInit ∈ lw_G) (w3 : Jvm.Cond.code objectInit ⟨#[0xb1]⟩ 1 none ∈ lw_G)
    (h : rx_inv1 f r pc lv st hp iv cn sn = some outs) (hG : ∀ σ, f r σ = some outs → rx_G p l e R s m args below meth c Q cy D b A H0 ad0 en0 nL σ) : rx_G p l e R s m args below meth c Q cy D b A H0 ad0 en0 nL (pc, lv, st, hp, iv, cn, sn) := by
  obtain ⟨hx, hb, hr, hml, hown, hts, hlocks, hmn, hK, hNest, hAO, hR1, hR2, hR3, hR4⟩ := C
  match st, h with
  | [], h => cases h
  | v :: st', h =>
    obtain ⟨hc, h⟩ := rx_cond h
    obtain ⟨c1, hc⟩ := rx_and2.mp hc
    obtain ⟨c2, hc⟩ := rx_and2.mp hc
    obtain ⟨c3, c4⟩ := rx_and2.mp hc
    intro ad en ls stA H locs ws hRl
    obtain ⟨h1, h2, h3, h4, h5, h6, h7, h8, h9⟩ := hRl
    obtain ⟨x, rA, rfl, hxv, h8n⟩ := rx_st_cons h8
    have hx2 : rx_isR v = true := rx_and2.mpr ⟨c1, rx_blt.mpr (Nat.lt_of_lt_of_le (by decide) (rx_ble.mp c2))⟩
    obtain ⟨a, rfl⟩ := rx_isR_cv hx2 hxv
    refine W.objInit hx hb hown (hts _ w1) (hts _ w2) (hts _ w3) rfl (by show ls.size = _; rw [hml, ← hN]; exact h7.2.1) rfl hd (Nat.le_trans (rx_ble.mp c3) hR1) ?_ ?_
    · show 2 * 0 + (rA.map fun v => v.category).sum + 12 ≤ R.locals
      rw [rx_cat_eq h8n]
      have : rx_cat st' + 12 ≤ rx_rl (rx_n r) := rx_ble.mp c4
      omega
    · exact hG _ h ad en ls rA H locs ws ⟨h1, h2, h3, h4, h5, h6, h7, h8n, h9⟩
set_option maxHeartbeats 1000000 in
/-- a call of a method of the table, of any of the three kinds -/
theorem rx_s_inv {ins : Instr} {stat : Bool} (hP : ∀ q ∈ P, rx_QW q ∧ rx_ST P K q) (ih : rx_SndG P K l cy D g) (C : rx_Cx cy D r p R s m args meth c) (hN : nL = rx_mL (rx_n r)) (hA : ∀ z, H0.size ≤ z → A z) (hd : decode (rx_b r) pc = .ok (ins, 3)) (hS : rx_site P (rx_y r).cls na nb ins) (hn1 : nb ≠ 1) (hn2 : nb ≠ 2)
    (hk : (∃ i, ins = .invokevirtual i ∧ stat = false) ∨ (∃ i, ins = .invokespecial i ∧ stat = false) ∨ (∃ i, ins = .invokestatic i ∧ stat = true))
    (h : rx_inv stat P g f r pc na (Nat.div nb 4) lv st hp iv cn sn = some outs)
    (hG : ∀ (σ : rx_S) (o : List β), f r σ = some o → (∀ y ∈ o, y ∈ outs) → rx_G p l e R s m args below meth c Q cy D b A H0 ad0 en0 nL σ) : rx_G p l e R s m args below meth c Q cy D b A H0 ad0 en0 nL (pc, lv, st, hp, iv, cn, sn) := by
  obtain ⟨hx, hb, hr, hml, hown, hts, hlocks, hmn, hK, hNest, hAO, hR1, hR2, hR3, hR4⟩ := C
  unfold rx_inv at h
  cases hq : rx_nth P na with
  | none => rw [hq] at h; cases h
  | some q =>
    rw [hq] at h
    dsimp only at h
    cases hs : rx_spl (bif stat then rx_np (rx_n q) else Nat.succ (rx_np (rx_n q))) st [] with
    | none => rw [hs] at h; cases h
    | some w =>
      obtain ⟨as, rest⟩ := w
      rw [hs] at h
      dsimp only at h
      obtain ⟨hc, h⟩ := rx_cond h
      obtain ⟨hcr, hck⟩ := rx_and2.mp hc
      unfold rx_cok at hck
      obtain ⟨k1, hck⟩ := rx_and2.mp hck
      obtain ⟨k2, hck⟩ := rx_and2.mp hck
      obtain ⟨k3, hck⟩ := rx_and2.mp hck
      obtain ⟨k4, hck⟩ := rx_and2.mp hck
      obtain ⟨k5, k6⟩ := rx_and2.mp hck
      have k1 : rx_cat rest ≤ 8 := rx_ble.mp k1
      have k2 : rx_rf (rx_n q) + 1 ≤ rx_rf (rx_n r) := rx_ble.mp k2
      have k3 : 19 + rx_mL (rx_n q) + rx_rl (rx_n q) ≤ rx_rl (rx_n r) := rx_ble.mp k3
      have k4 : cn + rx_rc (rx_n q) ≤ rx_rc (rx_n r) := rx_ble.mp k4
      have k5 : sn + rx_rs (rx_n q) ≤ rx_rs (rx_n r) := rx_ble.mp k5
      have k6 : rx_cat as ≤ rx_mL (rx_n q) := rx_ble.mp k6
      unfold rx_inv3 at h
      cases hrun : g q (0, rx_args as (rx_mL (rx_n q)), [], hp, iv, 0, 0) with
      | none => rw [hrun] at h; cases h
      | some os =>
        rw [hrun] at h
        dsimp only at h
        have hall := rx_all_ok h
        obtain ⟨pre, hp1, hp2, hp3⟩ := rx_spl_ok _ _ _ _ _ hs
        rw [List.append_nil] at hp3
        have hpre : pre = as.reverse := by rw [hp3, List.reverse_reverse]
        subst hpre
        have hqm : q ∈ P := by rw [rx_nth_eq] at hq; exact List.mem_of_getElem? hq
        obtain ⟨hQ, hSTq⟩ := hP q hqm
        have hQ' := hQ
        obtain ⟨v1, v2, v3, v4, v5, v6, v7, v8⟩ := hQ'
        intro ad en ls stA H locs ws hRl
        obtain ⟨h1, h2, h3, h4, h5, h6, h7, h8, h9⟩ := hRl
        replace h8 : st.map (rx_cv b ad en) = stA.map some := h8
        rw [hp1] at h8
        obtain ⟨asA, restA, rfl, has, hrest⟩ := rx_split h8
        have hM := rx_met hQ (ih q hSTq v8 _ _ hrun) H.size has k6 h3 h9
        have hGw : GoodIn lw_G (rx_ws q) := lw_G_good (fun w hw => by rcases List.mem_cons.mp hw with rfl | hw; exact v2; exact hw)
        have hRm : (rx_room q).frames + 1 ≤ R.frames ∧ 8 + (rx_mL (rx_n q) + 11) + (rx_room q).locals ≤ R.locals := ⟨Nat.le_trans k2 hR1, by show 8 + (rx_mL (rx_n q) + 11) + rx_rl (rx_n q) ≤ R.locals; omega⟩
        have hf : cn + rx_rc (rx_n q) ≤ R.cells ∧ sn + rx_rs (rx_n q) ≤ R.slots := ⟨Nat.le_trans k4 hR3, Nat.le_trans k5 hR4⟩
        have hroom : 2 * (F0 m pc ls (asA.reverse ++ restA)).monitorRoom + (restA.map fun v => v.category).sum ≤ 8 := by
          show 2 * 0 + _ ≤ 8
          rw [rx_cat_eq hrest]
          omega
        have hPc : ∀ U : State, U.heap = H → s.WarmedH U.vm → rx_Pc cy D asA ws H.size asA.toArray U := fun U hU hW => ⟨rfl, by rw [hU], by rw [hU]; exact h4, va_K.moved hW.alike hK, h5.weaken (fun _ _ _ _ => trivial), lw_nest_warm hW hNest, va_AO.moved hW.alike hAO⟩
        have hsize : (F0 m pc ls (asA.reverse ++ restA)).locals.size = rx_mL (rx_n r) := by rw [← hN]; exact h7.2.1
        have hlenA : asA.length = as.length := rx_map_len has
        have hlen : as.length = bif stat then rx_np (rx_n q) else Nat.succ (rx_np (rx_n q)) := by rw [← hp2, List.length_reverse]
        have fix : CallFix p m c (rx_b r) (rx_mL (rx_n r)) s args lw_G (rx_y r).cls := ⟨hx, hb, hml, hown, hts⟩
        have fin : ∀ {aa : Array Value}, va_Run p l e R s m args below meth c H locs cn sn (rx_rc (rx_n q)) (rx_rs (rx_n q)) (F0 m pc ls (asA.reverse ++ restA)) restA (rx_Qc cy D b ad en (va_A ws H.size) (rx_rk (rx_n q)) os aa) (va_A ws H.size) → W p l e R s m args below meth c H locs cn sn Q (F0 m pc ls (asA.reverse ++ restA)) := fun hR =>
          rx_back hR h1 h2 h5 h6 hA h7 hrest (fun o ho => by obtain ⟨o', ho', hsub⟩ := hall o ho; exact hG _ o' ho' hsub)
        rcases hk with ⟨i, rfl, rfl⟩ | ⟨i, rfl, rfl⟩ | ⟨i, rfl, rfl⟩
        · obtain ⟨-, -, q', hq', u1, u2, u3, ⟨T, Nf, u4⟩, u5⟩ := hS
          cases hq.symm.trans hq'
          match as, hlen, has, hcr with
          | [], hlen, _, _ => cases hlen
          | v :: as', hlen, has, hcr =>
            obtain ⟨x, As, rfl, hxv, hAs⟩ := rx_st_cons has
            replace hcr : rx_obj hp (Nat.div nb 4) v = true := hcr
            unfold rx_obj at hcr
            obtain ⟨j1, hcr⟩ := rx_and2.mp hcr
            obtain ⟨j2, hcr⟩ := rx_and2.mp hcr
            cases hgo : rx_hg hp (Nat.sub (rx_pl v) 2) with
            | none => rw [hgo] at hcr; cases hcr
            | some cl =>
              obtain ⟨t2, n2, f2⟩ := cl
              rw [hgo] at hcr
              have ht2 : t2 = nb / 4 := rx_beq.mp hcr
              subst ht2
              obtain ⟨a2, e2, rfl, ha2, hw2, hc2⟩ := rx_ref_at h3 (rx_and2.mpr ⟨j1, j2⟩) hxv hgo
              obtain ⟨fs, rfl, hfs⟩ := hc2.obj u5
              have hAl : As.length = rx_np (rx_n q) := by
                have e1 : As.length = as'.length := rx_map_len hAs
                have e2 : as'.length + 1 = Nat.succ (rx_np (rx_n q)) := hlen
                omega
              refine fin (va_runV (As := As) (rest := restA) (b := a2) (C := (rx_y q).cls) fix hM (cwV (rx_np (rx_n q)) hts (lw_G_good (fun w hw => ?_)) rfl rfl rfl ⟨rfl, v4, v5, v6⟩ hRm) ⟨rx_Pc_blind, va_recv hK h4 u4 hw2, hPc⟩ rfl hAl hsize ?_ hroom hd hf)
              · rcases List.mem_append.mp hw with hw | hw
                · simp only [List.mem_cons, List.not_mem_nil, or_false] at hw
                  rcases hw with rfl | rfl | rfl | rfl
                  · exact u1
                  · exact u2
                  · exact u3
                  · exact v3
                · exact (hGw w hw).1
              · show (Value.ref a2 :: As).reverse ++ restA = As.reverse ++ .ref a2 :: restA
                simp
        · rcases hS with ⟨z, -⟩ | ⟨-, -, q', hq', u1, u2, u3, u4⟩
          · exact absurd z hn1
          cases hq.symm.trans hq'
          match as, hlen, has, hcr with
          | [], hlen, _, _ => cases hlen
          | v :: as', hlen, has, hcr =>
            obtain ⟨x, As, rfl, hxv, hAs⟩ := rx_st_cons has
            replace hcr : rx_obj hp (Nat.div nb 4) v = true := hcr
            unfold rx_obj at hcr
            obtain ⟨j1, hcr⟩ := rx_and2.mp hcr
            obtain ⟨j2, hcr⟩ := rx_and2.mp hcr
            have hx2 : rx_isR v = true := rx_and2.mpr ⟨j1, rx_blt.mpr (Nat.lt_of_lt_of_le (by decide) (rx_ble.mp j2))⟩
            obtain ⟨a2, rfl⟩ := rx_isR_cv hx2 hxv
            have hAl : As.length = rx_np (rx_n q) := by
              have e1 : As.length = as'.length := rx_map_len hAs
              have e2 : as'.length + 1 = Nat.succ (rx_np (rx_n q)) := hlen
              omega
            have hstk : (Value.ref a2 :: As).reverse ++ restA = As.reverse ++ .ref a2 :: restA := by simp
            have hwn : rx_ws q = Jvm.Cond.code (rx_y q) (rx_b q) (rx_mL (rx_n q)) none :: lw_G := by unfold rx_ws; rw [u2]
            rcases u4 with u4 | ⟨host, u4⟩
            · exact fin (va_runI (As := As) (rest := restA) (b := a2) fix hM (cwI (rx_np (rx_n q)) hts hGw hwn rfl rfl (hts _ v3) (hts _ u4) (hts _ u3) u1 ⟨v4, v5, v6⟩ hRm) ⟨rx_Pc_blind, hPc⟩ rfl hAl hsize hstk hroom hd hf)
            · exact fin (va_runIN (As := As) (rest := restA) (b := a2) fix hM ⟨va_cnB (host := host) (rx_np (rx_n q)) hts hGw hwn rfl rfl (hNest _ u4) (hts _ v3) ⟨v4, v5, v6⟩ hRm, u1, hts _ u3⟩ ⟨rx_Pc_blind, hPc⟩ rfl hAl hsize hstk hroom hd hf)
        · rcases hS with ⟨z, -⟩ | ⟨-, -, q', hq', u1, u2⟩
          · exact absurd z hn2
          cases hq.symm.trans hq'
          have hAl : asA.length = rx_np (rx_n q) := hlenA.trans hlen
          refine fin (va_runS (As := asA) (rest := restA) fix hM (va_cwS (rx_np (rx_n q)) hts (lw_G_good (fun w hw => ?_)) rfl rfl rfl ⟨v4, v5, v6⟩ hRm) ⟨rx_Pc_blind, hPc⟩ rfl hAl hsize rfl hroom hd hf)
          rcases List.mem_append.mp hw with hw | hw
          · simp only [List.mem_cons, List.not_mem_nil, or_false] at hw
            rcases hw with rfl | rfl | rfl
            · exact u1
            · exact u2
            · exact v3
          · exact (hGw w hw).1
end RXD
end
section
section RXE
variable {p : Program} {l : Launch} {e : Env} {R : Room} {s : State} {m : MethodId} {args : Array Value} {below : List Frame} {meth : Method} {c : Code} {Q : State → Prop}
variable {cy : Nat → ClassId} {D : va_G} {b : Nat} {A : Nat → Prop} {H0 : Heap} {ad0 : List Nat} {en0 : List Int32}
set_option maxHeartbeats 1000000 in
/-- one instruction, whatever comes then (f) and is made of a return (z) -/
theorem rx_go_ok {P : List rx_M} {K : rx_K} (hP : ∀ q ∈ P, rx_QW q ∧ rx_ST P K q) {g : rx_M → rx_S → Option (List rx_O)} (ih : rx_SndG P K l cy D g) {r : rx_M} (hST : rx_ST P K r) (C : rx_Cx cy D r p R s m args meth c) (hSc : rx_Sc (rx_n r) b A H0 en0 s) (hA : ∀ q, H0.size ≤ q → A q) {β : Type} {f : rx_M → rx_S → Option (List β)} {z : rx_O → Option (List β)} {σ : rx_S} {outs : List β} (h : rx_go P K g f z r σ = some outs)
    (go : ∀ (σ : rx_S) (o : List β), f r σ = some o → (∀ y ∈ o, y ∈ outs) → rx_G p l e R s m args below meth c Q cy D b A H0 ad0 en0 (rx_mL (rx_n r)) σ)
    (hret : ∀ (x : rx_O) (o : List β), z x = some o → (∀ y ∈ o, y ∈ outs) → rx_Ret p l e R s m args below meth c Q cy D b A H0 ad0 en0 r x) : rx_G p l e R s m args below meth c Q cy D b A H0 ad0 en0 (rx_mL (rx_n r)) σ := by
  obtain ⟨pc, lv, st, hp, iv, cn, sn⟩ := σ
  have C0 := C
  obtain ⟨hx, hb, hr, hml, hown, hts, hlocks, hmn, hK, hNest, hAO, hR1, hR2, hR3, hR4⟩ := C0
  unfold rx_go at h
  dsimp only at h
  cases hl : rx_look (rx_cd r) pc with
  | none => rw [hl] at h; cases h
  | some x =>
    rw [hl] at h
    dsimp only at h
    obtain ⟨⟨ch, hc1, hc2⟩, hpc⟩ := rx_look_ok hl
    have hOK := hST ch hc1 x hc2
    obtain ⟨xpc, kd, hh, ins, len, na, nb, w1, w2⟩ := x
    obtain ⟨o1, o2, o3, o4, o5⟩ := hOK
    dsimp only at h o1 o2 o3 o4 o5 hpc
    subst hpc
    subst o2
    have outz : ∀ {q : Option (List rx_O)}, rx_out z q = some outs → ∃ xs, q = some xs ∧ ∀ x ∈ xs, rx_Ret p l e R s m args below meth c Q cy D b A H0 ad0 en0 r x := by
      intro q hq
      cases q with
      | none => cases hq
      | some xs =>
        replace hq : rx_all z xs = some outs := hq
        exact ⟨xs, rfl, fun x hx => by obtain ⟨o, ho, hsub⟩ := rx_all_ok hq x hx; exact hret x o ho hsub⟩
    rcases rx_kd_or ins with hk | rfl | rfl | rfl | ⟨i, rfl⟩ | ⟨i, rfl⟩ | ⟨i, rfl⟩
    · have hh0 := o3 hk
      subst hh0
      unfold rx_do at h
      rw [hk] at h
      replace h : rx_nxt f r (rx_sem ins K (rx_n r) xpc na nb lv st hp iv cn sn) = some outs := h
      cases hst : rx_sem ins K (rx_n r) xpc na nb lv st hp iv cn sn with
      | none => rw [hst] at h; cases h
      | some out =>
        rw [hst] at h
        replace h : rx_all (f r) out = some outs := h
        refine rx_s_sem C rfl hSc hA o1 o4 hst (fun σ' hσ' => ?_)
        obtain ⟨o, ho, hsub⟩ := rx_all_ok h σ' hσ'
        exact go σ' o ho hsub
    · replace h : rx_out z (rx_iret (rx_n r) st hp iv cn sn) = some outs := h
      obtain ⟨xs, hxs, hR⟩ := outz h
      match st, hxs with
      | [], hxs => cases hxs
      | _ :: _ :: _, hxs => cases hxs
      | [v], hxs =>
        obtain ⟨hc, hxs⟩ := rx_cond hxs
        obtain ⟨hf, hc⟩ := rx_and2.mp hc
        obtain ⟨f1, f2⟩ := rx_and2.mp hf
        cases hxs
        intro ad en ls stA H locs ws hRl
        obtain ⟨h1, h2, h3, h4, h5, h6, h7, h8, h9⟩ := hRl
        obtain ⟨xv, rA, rfl, hxv, h8n⟩ := rx_st_cons h8
        have hrA : rA = [] := by cases rA with | nil => rfl | cons _ _ => cases h8n
        subst hrA
        have hkv := rx_kn_cv h9 hxv
        have key : (rx_rk (rx_n r) = 1 ∨ rx_rk (rx_n r) = 2) ∧ ∃ z : Int32, xv = .int z ∧ (rx_rk (rx_n r) = 2 → z = 0 ∨ z = 1) := by
          rcases rx_or2.mp hc with hc | hc
          · obtain ⟨d1, d2⟩ := rx_and2.mp hc
            have d1 := rx_beq.mp d1
            obtain ⟨z, rfl⟩ := rx_isI_cv d2 hxv
            exact ⟨Or.inl d1, z, rfl, fun hz => by omega⟩
          · obtain ⟨d1, d2⟩ := rx_and2.mp hc
            have d1 := rx_beq.mp d1
            rcases rx_bit_cv d2 hkv with rfl | rfl
            · exact ⟨Or.inr d1, 0, rfl, fun _ => Or.inl rfl⟩
            · exact ⟨Or.inr d1, 1, rfl, fun _ => Or.inr rfl⟩
        obtain ⟨kk, zz, rfl, kz⟩ := key
        exact hR _ List.mem_cons_self ad en ls [.int zz] H locs ws cn sn xpc (Or.inr (Or.inl ⟨kk, o1, zz, rfl, hkv, kz⟩)) h1 h2 h3 h4 h5 h6 h9 (rx_ble.mp f1) (rx_ble.mp f2)
    · replace h : rx_out z (rx_lret (rx_n r) st hp iv cn sn) = some outs := h
      obtain ⟨xs, hxs, hR⟩ := outz h
      match st, hxs with
      | [], hxs => cases hxs
      | _ :: _ :: _, hxs => cases hxs
      | [v], hxs =>
        obtain ⟨hc, hxs⟩ := rx_cond hxs
        obtain ⟨hf, hc⟩ := rx_and2.mp hc
        obtain ⟨f1, f2⟩ := rx_and2.mp hf
        obtain ⟨d1, d2⟩ := rx_and2.mp hc
        cases hxs
        intro ad en ls stA H locs ws hRl
        obtain ⟨h1, h2, h3, h4, h5, h6, h7, h8, h9⟩ := hRl
        obtain ⟨xv, rA, rfl, hxv, h8n⟩ := rx_st_cons h8
        have hrA : rA = [] := by cases rA with | nil => rfl | cons _ _ => cases h8n
        subst hrA
        have hj := rx_isJ_cv d2 hxv
        subst hj
        exact hR _ List.mem_cons_self ad en ls _ H locs ws cn sn xpc (Or.inr (Or.inr ⟨rx_beq.mp d1, o1, _, rfl, hxv⟩)) h1 h2 h3 h4 h5 h6 h9 (rx_ble.mp f1) (rx_ble.mp f2)
    · replace h : rx_out z (rx_vret (rx_n r) st hp iv cn sn) = some outs := h
      obtain ⟨xs, hxs, hR⟩ := outz h
      match st, hxs with
      | _ :: _, hxs => cases hxs
      | [], hxs =>
        obtain ⟨hc, hxs⟩ := rx_cond hxs
        obtain ⟨d1, hf⟩ := rx_and2.mp hc
        obtain ⟨f1, f2⟩ := rx_and2.mp hf
        cases hxs
        intro ad en ls stA H locs ws hRl
        obtain ⟨h1, h2, h3, h4, h5, h6, h7, h8, h9⟩ := hRl
        have hrA : stA = [] := by cases stA with | nil => rfl | cons _ _ => cases h8
        subst hrA
        exact hR _ List.mem_cons_self ad en ls [] H locs ws cn sn xpc (Or.inl ⟨rx_beq.mp d1, o1, rfl⟩) h1 h2 h3 h4 h5 h6 h9 (rx_ble.mp f1) (rx_ble.mp f2)
    · replace h : rx_call false P g f r xpc na nb lv st hp iv cn sn = some outs := h
      have hn1 : nb ≠ 1 := o5.1
      have hn2 : nb ≠ 2 := o5.2.1
      unfold rx_call at h
      rw [show Nat.beq nb 1 = false from Bool.eq_false_iff.mpr (fun z => hn1 (rx_beq.mp z)), show Nat.beq nb 2 = false from Bool.eq_false_iff.mpr (fun z => hn2 (rx_beq.mp z)), cond_false, cond_false] at h
      exact rx_s_inv hP ih C rfl hA o1 o5 hn1 hn2 (Or.inl ⟨i, rfl, rfl⟩) h go
    · replace h : rx_call false P g f r xpc na nb lv st hp iv cn sn = some outs := h
      have o5' := o5
      rcases o5' with ⟨hn, u1, u2, u3⟩ | ⟨hn1, hn2, -⟩
      · subst hn
        replace h : rx_inv1 f r xpc lv st hp iv cn sn = some outs := h
        exact rx_s_inv1 C rfl o1 u1 u2 u3 h (fun σ ho => go σ outs ho (fun _ hy => hy))
      · unfold rx_call at h
        rw [show Nat.beq nb 1 = false from Bool.eq_false_iff.mpr (fun z => hn1 (rx_beq.mp z)), show Nat.beq nb 2 = false from Bool.eq_false_iff.mpr (fun z => hn2 (rx_beq.mp z)), cond_false, cond_false] at h
        exact rx_s_inv hP ih C rfl hA o1 o5 hn1 hn2 (Or.inr (Or.inl ⟨i, rfl, rfl⟩)) h go
    · replace h : rx_call true P g f r xpc na nb lv st hp iv cn sn = some outs := h
      have o5' := o5
      rcases o5' with ⟨hn, u1, u2, u3, u4⟩ | ⟨hn1, hn2, -⟩
      · subst hn
        replace h : rx_inv2 f r xpc lv st hp iv cn sn = some outs := h
        unfold rx_inv2 at h
        cases hcp : rx_cpy xpc lv st hp iv cn sn with
        | none => rw [hcp] at h; cases h
        | some σ =>
          rw [hcp] at h
          dsimp only at h
          obtain ⟨hc, h⟩ := rx_cond h
          obtain ⟨c1, c2⟩ := rx_and2.mp hc
          exact rx_s_cpy hx hb hml hown hK (hts _ u1) (hts _ u2) (hts _ u3) (hts _ u4) (Nat.le_trans (rx_ble.mp c1) hR1) (Nat.le_trans (rx_ble.mp c2) hR2) o1 hcp (go σ outs h (fun _ hy => hy))
      · unfold rx_call at h
        rw [show Nat.beq nb 1 = false from Bool.eq_false_iff.mpr (fun z => hn1 (rx_beq.mp z)), show Nat.beq nb 2 = false from Bool.eq_false_iff.mpr (fun z => hn2 (rx_beq.mp z)), cond_false, cond_false] at h
        exact rx_s_inv hP ih C rfl hA o1 o5 hn1 hn2 (Or.inr (Or.inr ⟨i, rfl, rfl⟩)) h go
end RXE
/-- THE INTERPRETER IS RIGHT: what it says of a run, the machine does -/
theorem rx_sound {P : List rx_M} {K : rx_K} {l : Launch} {cy : Nat → ClassId} {D : va_G} (hP : ∀ q ∈ P, rx_QW q ∧ rx_ST P K q) : ∀ n, rx_Snd P K l cy D n := by
  intro n
  induction n with
  | zero => intro r _ _ σ outs h; cases h
  | succ n ih =>
    intro r hST hrk σ outs h p e R s m args below meth c Q b A H0 ad0 en0 C hSc hA hret
    replace h : rx_go P K (rx_run P K n) (rx_run P K n) (fun o => some [o]) r σ = some outs := h
    exact rx_go_ok hP ih hST C hSc hA h (fun σ o ho hsub => ih r hST hrk σ o ho p e R s m args below meth c Q b A H0 ad0 en0 C hSc hA (fun y hy => hret y (hsub y hy))) (fun x o ho hsub => hret x (hsub x (by cases ho; exact List.mem_cons_self)))
/-- and so of a stretch of a method's own instructions -/
theorem rx_adv_ok {P : List rx_M} {K : rx_K} {l : Launch} {cy : Nat → ClassId} {D : va_G} (hP : ∀ q ∈ P, rx_QW q ∧ rx_ST P K q) {p : Program} {e : Env} {R : Room} {s : State} {m : MethodId} {args : Array Value} {below : List Frame} {meth : Method} {c : Code} {Q : State → Prop} {b : Nat} {A : Nat → Prop} {H0 : Heap} {ad0 : List Nat} {en0 : List Int32} {n stop : Nat} {r : rx_M} (hST : rx_ST P K r) (C : rx_Cx cy D r p R s m args meth c) (hSc : rx_Sc (rx_n r) b A H0 en0 s) (hA : ∀ q, H0.size ≤ q → A q) :
    ∀ (k : Nat) (σ : rx_S) (l' : List rx_S), rx_adv P K n stop r k σ = some l' → (∀ σ' ∈ l', rx_G p l e R s m args below meth c Q cy D b A H0 ad0 en0 (rx_mL (rx_n r)) σ') → rx_G p l e R s m args below meth c Q cy D b A H0 ad0 en0 (rx_mL (rx_n r)) σ
  | 0, σ, l', h, hG => by
    cases h
    exact hG σ List.mem_cons_self
  | k + 1, σ, l', h, hG => by
    replace h : (bif Nat.beq σ.1 stop then some [σ] else rx_go P K (rx_run P K n) (fun _ σ' => rx_adv P K n stop r k σ') (fun _ => none) r σ) = some l' := h
    cases hs : Nat.beq σ.1 stop with
    | true =>
      rw [hs, cond_true] at h
      cases h
      exact hG σ List.mem_cons_self
    | false =>
      rw [hs, cond_false] at h
      exact rx_go_ok hP (rx_sound hP n) hST C hSc hA h (fun σ' o ho hsub => rx_adv_ok hP hST C hSc hA k σ' o ho (fun y hy => hG y (hsub y hy))) (fun x o ho _ => by cases ho)
end
section
/-! Calls by contract; states that are alike -/
theorem rx_at_run {P : List rx_M} {K : rx_K} {l : Launch} {cy : Nat → ClassId} {D : va_G} (hP : ∀ q ∈ P, rx_QW q ∧ rx_ST P K q) {r : rx_M} (hr : r ∈ P) {n : Nat} {σ : rx_S} {outs : List rx_O} (h : rx_run P K n r σ = some outs) : rx_At l cy D r σ outs :=
  rx_sound hP n r (hP r hr).2 (hP r hr).1.2.2.2.2.2.2.2 σ outs h
theorem rx_at_adv {P : List rx_M} {K : rx_K} {l : Launch} {cy : Nat → ClassId} {D : va_G} (hP : ∀ q ∈ P, rx_QW q ∧ rx_ST P K q) {r : rx_M} (hr : r ∈ P) {n stop k : Nat} {σ : rx_S} {l' : List rx_S} {outs : List rx_O} (h : rx_adv P K n stop r k σ = some l') (hl : ∀ σ' ∈ l', rx_At l cy D r σ' outs) : rx_At l cy D r σ outs :=
  fun p e R s m args below meth c Q b A H0 ad0 en0 C hSc hA hret => rx_adv_ok hP (hP r hr).2 C hSc hA k σ l' h (fun σ' hσ => hl σ' hσ p e R s m args below meth c Q b A H0 ad0 en0 C hSc hA hret)
/-- a state ahead of a call of the i-th method: what it is called with, what stays on the stack -/
noncomputable def rx_cal (P : List rx_M) (r : rx_M) (i : Nat) (σ : rx_S) : Option (List Nat × List Nat) := match rx_look (rx_cd r) σ.1 with
  | some x => (match rx_nth P i with
    | some q => (match rx_spl (bif Nat.beq x.2.1 5 then rx_np (rx_n q) else Nat.succ (rx_np (rx_n q))) σ.2.2.1 [] with
      | some (as, rest) => bif (Nat.beq x.2.1 4 || Nat.beq x.2.1 5) && (Nat.beq x.2.2.2.2.2.1 i && (!(Nat.beq x.2.2.2.2.2.2.1 1) && (!(Nat.beq x.2.2.2.2.2.2.1 2) && ((Nat.beq x.2.1 5 || rx_rcv σ.2.2.2.1 (Nat.div x.2.2.2.2.2.2.1 4) as) && rx_cok (rx_n r) (rx_n q) as rest σ.2.2.2.2.2.1 σ.2.2.2.2.2.2)))) then some (as, rest) else none
      | none => none)
    | none => none)
  | none => none
/-- how the method called begins -/
noncomputable def rx_ent (q : rx_M) (as : List Nat) (σ : rx_S) : rx_S := (0, rx_args as (rx_mL (rx_n q)), [], σ.2.2.2.1, σ.2.2.2.2.1, 0, 0)
/-- behind the call -/
noncomputable def rx_bh (q : rx_M) (rest : List Nat) (σ : rx_S) (o : rx_O) : rx_S := (Nat.add σ.1 3, σ.2.1, (bif Nat.beq (rx_rk (rx_n q)) 0 then rest else o.1 :: rest), o.2.1, o.2.2, Nat.add σ.2.2.2.2.2.1 (rx_rc (rx_n q)), Nat.add σ.2.2.2.2.2.2 (rx_rs (rx_n q)))
theorem rx_all_map {α β : Type} (k : α → β) (l : List α) : rx_all (fun x => some [k x]) l = some (l.map k) := by
  have gen : ∀ l : List α, l.foldr (fun x acc => match (fun x => some [k x]) x with
    | some a => (match acc with
      | some b => some (a ++ b)
      | none => none)
    | none => none) (some []) = some (l.map k) := by
    intro l
    induction l with
    | nil => rfl
    | cons z l ih => rw [List.foldr_cons, ih]; rfl
  match l with
  | [] => rfl
  | [z] => rfl
  | z :: w :: l => exact gen (z :: w :: l)
section RXF
variable {p : Program} {l : Launch} {e : Env} {R : Room} {s : State} {m : MethodId} {args : Array Value} {below : List Frame} {meth : Method} {c : Code} {Q : State → Prop}
variable {cy : Nat → ClassId} {D : va_G} {b : Nat} {A : Nat → Prop} {H0 : Heap} {ad0 : List Nat} {en0 : List Int32} {nL : Nat}
theorem rx_G_call {P : List rx_M} {K : rx_K} (hP : ∀ q ∈ P, rx_QW q ∧ rx_ST P K q) {r q : rx_M} (hST : rx_ST P K r) (C : rx_Cx cy D r p R s m args meth c) (hA : ∀ z, H0.size ≤ z → A z) {i : Nat} {as rest : List Nat} {os : List rx_O} {σ : rx_S} (hN : nL = rx_mL (rx_n r))
    (hq : rx_nth P i = some q) (hc : rx_cal P r i σ = some (as, rest)) (hat : rx_At l cy D q (rx_ent q as σ) os) (hG : ∀ o ∈ os, rx_G p l e R s m args below meth c Q cy D b A H0 ad0 en0 nL (rx_bh q rest σ o)) : rx_G p l e R s m args below meth c Q cy D b A H0 ad0 en0 nL σ := by
  obtain ⟨pc, lv, st, hp, iv, cn, sn⟩ := σ
  unfold rx_cal at hc
  dsimp only at hc
  cases hl : rx_look (rx_cd r) pc with
  | none => rw [hl] at hc; cases hc
  | some x =>
    rw [hl, hq] at hc
    dsimp only at hc
    obtain ⟨⟨ch, hc1, hc2⟩, hpc⟩ := rx_look_ok hl
    have hOK := hST ch hc1 x hc2
    obtain ⟨xpc, kd, hh, ins, len, na, nb, w1, w2⟩ := x
    obtain ⟨o1, o2, o3, o4, o5⟩ := hOK
    dsimp only at hc o1 o2 o3 o4 o5 hpc
    subst hpc
    cases hs : rx_spl (bif Nat.beq kd 5 then rx_np (rx_n q) else Nat.succ (rx_np (rx_n q))) st [] with
    | none => rw [hs] at hc; cases hc
    | some w =>
      obtain ⟨as', rest'⟩ := w
      rw [hs] at hc
      dsimp only at hc
      obtain ⟨hb0, he⟩ := rx_cond hc
      cases he
      obtain ⟨b1, hb1⟩ := rx_and2.mp hb0
      obtain ⟨b2, hb2⟩ := rx_and2.mp hb1
      obtain ⟨b3, hb3⟩ := rx_and2.mp hb2
      obtain ⟨b4, hb4⟩ := rx_and2.mp hb3
      have e2 : na = i := rx_beq.mp b2
      subst e2
      have hn1 : nb ≠ 1 := fun z => by rw [z] at b3; cases b3
      have hn2 : nb ≠ 2 := fun z => by rw [z] at b4; cases b4
      have hqP : q ∈ P := by rw [rx_nth_eq] at hq; exact List.mem_of_getElem? hq
      have sh : ∃ g : rx_M → rx_S → Option (List rx_O), g q (rx_ent q as (xpc, lv, st, hp, iv, cn, sn)) = some os ∧ rx_SndG P K l cy D g := by
        refine ⟨fun r' σ' => @ite _ (r' = q ∧ σ' = rx_ent q as (xpc, lv, st, hp, iv, cn, sn)) (Classical.propDecidable _) (some os) none, if_pos ⟨rfl, rfl⟩, ?_⟩
        intro r' _ _ σ' outs' h'
        by_cases hz : r' = q ∧ σ' = rx_ent q as (xpc, lv, st, hp, iv, cn, sn)
        · obtain ⟨rfl, rfl⟩ := hz
          have h2 := (@if_pos _ (Classical.propDecidable _) ⟨rfl, rfl⟩ _ (some os) none).symm.trans h'
          cases h2
          exact hat
        · have h2 := (@if_neg _ (Classical.propDecidable _) hz _ (some os) none).symm.trans h'
          cases h2
      obtain ⟨g, hg, hSnd⟩ := sh
      have hinv : ∀ stat : Bool, stat = Nat.beq kd 5 → rx_inv stat P g (fun _ σ' => some [σ']) r xpc na (Nat.div nb 4) lv st hp iv cn sn = some (os.map (rx_bh q rest (xpc, lv, st, hp, iv, cn, sn))) := by
        intro stat hst
        subst hst
        unfold rx_inv
        rw [hq]
        dsimp only
        rw [hs]
        dsimp only
        rw [hb4, cond_true]
        unfold rx_inv3
        have hg' : g q (0, rx_args as (rx_mL (rx_n q)), [], hp, iv, 0, 0) = some os := hg
        rw [hg']
        exact rx_all_map (rx_bh q rest (xpc, lv, st, hp, iv, cn, sn)) os
      have fin : ∀ (σ : rx_S) (o : List rx_S), (fun (_ : rx_M) (σ' : rx_S) => some [σ']) r σ = some o → (∀ y ∈ o, y ∈ os.map (rx_bh q rest (xpc, lv, st, hp, iv, cn, sn))) → rx_G p l e R s m args below meth c Q cy D b A H0 ad0 en0 nL σ := by
        intro σ o ho hsub
        cases ho
        obtain ⟨o', h1, h2⟩ := List.mem_map.mp (hsub σ List.mem_cons_self)
        rw [← h2]
        exact hG o' h1
      rcases rx_kd_or ins with hk | rfl | rfl | rfl | ⟨j, rfl⟩ | ⟨j, rfl⟩ | ⟨j, rfl⟩
      · rw [o2, hk] at b1; cases b1
      · rw [o2] at b1; cases b1
      · rw [o2] at b1; cases b1
      · rw [o2] at b1; cases b1
      · exact rx_s_inv hP hSnd C hN hA o1 o5 hn1 hn2 (Or.inl ⟨j, rfl, rfl⟩) (hinv false (by rw [o2]; rfl)) fin
      · exact rx_s_inv hP hSnd C hN hA o1 o5 hn1 hn2 (Or.inr (Or.inl ⟨j, rfl, rfl⟩)) (hinv false (by rw [o2]; rfl)) fin
      · exact rx_s_inv hP hSnd C hN hA o1 o5 hn1 hn2 (Or.inr (Or.inr ⟨j, rfl, rfl⟩)) (hinv true (by rw [o2]; rfl)) fin
end RXF
theorem rx_at_call {P : List rx_M} {K : rx_K} {l : Launch} {cy : Nat → ClassId} {D : va_G} (hP : ∀ q ∈ P, rx_QW q ∧ rx_ST P K q) {r q : rx_M} (hr : r ∈ P) {i : Nat} {as rest : List Nat} {os outs : List rx_O} {σ : rx_S}
    (hq : rx_nth P i = some q) (hc : rx_cal P r i σ = some (as, rest)) (hat : rx_At l cy D q (rx_ent q as σ) os) (hl : ∀ o ∈ os, rx_At l cy D r (rx_bh q rest σ o) outs) : rx_At l cy D r σ outs :=
  fun p e R s m args below meth c Q b A H0 ad0 en0 C hSc hA hret => rx_G_call hP (hP r hr).2 C hA rfl hq hc hat (fun o ho => hl o ho p e R s m args below meth c Q b A H0 ad0 en0 C hSc hA hret)
-- states that are alike
noncomputable def rx_eqL (a : List Nat) : List Nat → Bool := List.rec (motive := fun _ => List Nat → Bool) (fun b => match b with | [] => true | _ => false) (fun x _ ih b => match b with | y :: u => Nat.beq x y && ih u | [] => false) a
theorem rx_eqL_ok : ∀ {a b : List Nat}, rx_eqL a b = true → a = b
  | [], [], _ => rfl
  | [], _ :: _, h => by cases h
  | _ :: _, [], h => by cases h
  | x :: a, y :: b, h => by
    replace h : (Nat.beq x y && rx_eqL a b) = true := h
    obtain ⟨h1, h2⟩ := rx_and2.mp h
    rw [rx_beq.mp h1, rx_eqL_ok h2]
noncomputable def rx_eqI (a : rx_I) : rx_I → Bool := List.rec (motive := fun _ => rx_I → Bool) (fun b => match b with | [] => true | _ => false) (fun x _ ih b => match b with | y :: u => Nat.beq x.1 y.1 && (Nat.beq x.2 y.2 && ih u) | [] => false) a
theorem rx_eqI_ok : ∀ {a b : rx_I}, rx_eqI a b = true → a = b
  | [], [], _ => rfl
  | [], _ :: _, h => by cases h
  | _ :: _, [], h => by cases h
  | x :: a, y :: b, h => by
    replace h : (Nat.beq x.1 y.1 && (Nat.beq x.2 y.2 && rx_eqI a b)) = true := h
    obtain ⟨h1, h2⟩ := rx_and2.mp h
    obtain ⟨h2, h3⟩ := rx_and2.mp h2
    rw [rx_eqI_ok h3, Prod.ext (rx_beq.mp h1) (rx_beq.mp h2)]
noncomputable def rx_eqC (a b : Option rx_C) : Bool := match a, b with
  | none, none => true
  | some (t, n, l), some (u, k, f) => Nat.beq t u && (Nat.beq n k && rx_eqL l f)
  | _, _ => false
theorem rx_eqC_ok {a b : Option rx_C} (h : rx_eqC a b = true) : a = b := by
  match a, b, h with
  | none, none, _ => rfl
  | some (t, n, l), some (u, k, f), h =>
    replace h : (Nat.beq t u && (Nat.beq n k && rx_eqL l f)) = true := h
    obtain ⟨h1, h2⟩ := rx_and2.mp h
    obtain ⟨h2, h3⟩ := rx_and2.mp h2
    rw [rx_beq.mp h1, rx_beq.mp h2, rx_eqL_ok h3]
  | none, some _, h => cases h
  | some _, none, h => cases h
noncomputable def rx_eqT (n : Nat) : rx_T n → rx_T n → Bool := Nat.rec (motive := fun n => rx_T n → rx_T n → Bool) (fun a b => rx_eqC a b) (fun n ih (t u : rx_T n × rx_T n) => ih t.1 u.1 && ih t.2 u.2) n
theorem rx_eqT_ok : ∀ (n : Nat) (t u : rx_T n), rx_eqT n t u = true → t = u
  | 0, t, u, h => rx_eqC_ok (a := t) (b := u) h
  | n + 1, t, u, h => by
    have key : ∀ t u : rx_T n × rx_T n, (rx_eqT n t.1 u.1 && rx_eqT n t.2 u.2) = true → t = u := fun t u h => by
      obtain ⟨h1, h2⟩ := rx_and2.mp h
      exact Prod.ext (rx_eqT_ok n _ _ h1) (rx_eqT_ok n _ _ h2)
    exact key t u h
noncomputable def rx_eqS (a b : rx_S) : Bool := Nat.beq a.1 b.1 && (rx_eqL a.2.1 b.2.1 && (rx_eqL a.2.2.1 b.2.2.1 && (Nat.beq a.2.2.2.1.1 b.2.2.2.1.1 && (rx_eqT 8 a.2.2.2.1.2 b.2.2.2.1.2 && (rx_eqI a.2.2.2.2.1 b.2.2.2.2.1 && (Nat.beq a.2.2.2.2.2.1 b.2.2.2.2.2.1 && Nat.beq a.2.2.2.2.2.2 b.2.2.2.2.2.2))))))
theorem rx_eqS_ok {a b : rx_S} (h : rx_eqS a b = true) : a = b := by
  unfold rx_eqS at h
  obtain ⟨h1, h⟩ := rx_and2.mp h
  obtain ⟨h2, h⟩ := rx_and2.mp h
  obtain ⟨h3, h⟩ := rx_and2.mp h
  obtain ⟨h4, h⟩ := rx_and2.mp h
  obtain ⟨h5, h⟩ := rx_and2.mp h
  obtain ⟨h6, h⟩ := rx_and2.mp h
  obtain ⟨h7, h8⟩ := rx_and2.mp h
  exact Prod.ext (rx_beq.mp h1) (Prod.ext (rx_eqL_ok h2) (Prod.ext (rx_eqL_ok h3) (Prod.ext (Prod.ext (rx_beq.mp h4) (rx_eqT_ok 8 _ _ h5)) (Prod.ext (rx_eqI_ok h6) (Prod.ext (rx_beq.mp h7) (rx_beq.mp h8))))))
/-- one alone -/
noncomputable def rx_is1 {α : Type} (o : Option (List α)) : Bool := match o with
  | some [_] => true
  | _ => false
noncomputable def rx_get1 {α : Type} (d : α) (o : Option (List α)) : α := match o with
  | some [x] => x
  | _ => d
theorem rx_is1_ok {α : Type} {o : Option (List α)} (d : α) (h : rx_is1 o = true) : o = some [rx_get1 d o] := by
  match o, h with
  | none, h => cases h
  | some [], h => cases h
  | some [x], _ => rfl
  | some (_ :: _ :: _), h => cases h
noncomputable def rx_eq1 (o : Option (List rx_S)) (σ : rx_S) : Bool := match o with
  | some [τ] => rx_eqS τ σ
  | _ => false
theorem rx_eq1_ok {o : Option (List rx_S)} {σ : rx_S} (h : rx_eq1 o σ = true) : o = some [σ] := by
  match o, h with
  | none, h => cases h
  | some [], h => cases h
  | some [x], h => rw [rx_eqS_ok (a := x) (b := σ) h]
  | some (_ :: _ :: _), h => cases h
noncomputable def rx_isS {α : Type} (o : Option α) : Bool := match o with
  | some _ => true
  | none => false
noncomputable def rx_getS {α : Type} (d : α) (o : Option α) : α := match o with
  | some x => x
  | none => d
theorem rx_isS_ok {α : Type} {o : Option α} (d : α) (h : rx_isS o = true) : o = some (rx_getS d o) := by
  match o, h with
  | none, h => cases h
  | some x, _ => rfl
end
section
/-- the tables, by number -/
noncomputable def rx_tb (j : Nat) : List Jvm.Cond := match j with
  | 0 => k2_sels lw_privs | 1 => tables_1_1 | 2 => tables_1_2 | 3 => tables_1_3 | 4 => tables_1_4 | 5 => tables_1_5 | 6 => tables_1_6 | 7 => tables_1_7 | 8 => tables_1_8 | _ => []
theorem rx_tb_in {j : Nat} {w : Jvm.Cond} (h : w ∈ rx_tb j) : w ∈ lw_tbl := by
  have t : ∀ {w : Jvm.Cond}, w ∈ tables_1 → w ∈ lw_tbl := fun h => List.mem_append_right _ h
  match j, h with
  | 0, h => exact List.mem_append_left _ h
  | 1, h => exact t (List.mem_append_left _ h)
  | 2, h => exact t (List.mem_append_right _ (List.mem_append_left _ h))
  | 3, h => exact t (List.mem_append_right _ (List.mem_append_right _ (List.mem_append_left _ h)))
  | 4, h => exact t (List.mem_append_right _ (List.mem_append_right _ (List.mem_append_right _ (List.mem_append_left _ h))))
  | 5, h => exact t (List.mem_append_right _ (List.mem_append_right _ (List.mem_append_right _ (List.mem_append_right _ (List.mem_append_left _ h)))))
  | 6, h => exact t (List.mem_append_right _ (List.mem_append_right _ (List.mem_append_right _ (List.mem_append_right _ (List.mem_append_right _ (List.mem_append_left _ h))))))
  | 7, h => exact t (List.mem_append_right _ (List.mem_append_right _ (List.mem_append_right _ (List.mem_append_right _ (List.mem_append_right _ (List.mem_append_right _ (List.mem_append_left _ h)))))))
  | 8, h => exact t (List.mem_append_right _ (List.mem_append_right _ (List.mem_append_right _ (List.mem_append_right _ (List.mem_append_right _ (List.mem_append_right _ (List.mem_append_right _ h)))))))
  | _ + 9, h => cases h
/-- a word stands at a place -/
noncomputable def rx_has (w : Nat × Nat) (x : Jvm.Cond) : Bool := (match rx_nth (rx_tb w.1) w.2 with
  | some y => decide (y = x)
  | none => false) && goodWord x
theorem rx_has_ok {w : Nat × Nat} {x : Jvm.Cond} (h : rx_has w x = true) : x ∈ lw_G := by
  obtain ⟨h1, h2⟩ := rx_and2.mp h
  rw [rx_nth_eq] at h1
  cases e : (rx_tb w.1)[w.2]? with
  | none => rw [e] at h1; cases h1
  | some y =>
    rw [e] at h1
    have e2 : y = x := of_decide_eq_true h1
    subst e2
    exact lw_G_of (rx_tb_in (List.mem_of_getElem? e)) h2
noncomputable def rx_hasN (w : Nat × Nat) (own : String) (i : Nat) (y : MethodName) (host : String) : Bool := match rx_nth (rx_tb w.1) w.2 with
  | some z => decide (z = Jvm.Cond.methodLinkNest own i y host)
  | none => false
theorem rx_hasN_ok {w : Nat × Nat} {own : String} {i : Nat} {y : MethodName} {host : String} (h : rx_hasN w own i y host = true) : Jvm.Cond.methodLinkNest own i y host ∈ lw_nest := by
  unfold rx_hasN at h
  rw [rx_nth_eq] at h
  cases e : (rx_tb w.1)[w.2]? with
  | none => rw [e] at h; cases h
  | some z =>
    rw [e] at h
    have e2 : z = _ := of_decide_eq_true h
    subst e2
    exact List.mem_filter.mpr ⟨rx_tb_in (List.mem_of_getElem? e), rfl⟩
/-- what the tables say of a class -/
noncomputable def rx_CL (K : rx_K) (na : Nat) : Prop := ∃ (C : String) (T : u_T) (Nf : Nat) (ty0 : Nat → FieldType) (fs : List Value) (l : List Nat), vwCl[na]? = some (C, T, Nf) ∧ (∀ k, k < Nf → parseFieldDescriptor (T k).2.2.1 = some (ty0 k)) ∧ (∀ a, a < Nf → ∀ b, b < Nf → a ≠ b → (T a).2.1 ≠ (T b).2.1) ∧ (∀ w ∈ u_ws C T Nf, w ∈ lw_G) ∧ (∀ nb ks k, nb < Nf → rx_nth K.2 na = some ks → rx_nth ks nb = some k → rx_fkt k (ty0 nb)) ∧
  rx_nth K.1 na = some l ∧ l.length = Nf ∧ (∀ b ad en, l.map (rx_cv b ad en) = fs.map some) ∧ (∀ j, j < Nf → defaultValue (ty0 j) = vp_V fs j) ∧ Jvm.Cond.instantiable C Nf ∈ lw_G ∧ Jvm.Cond.initialized C ∈ lw_G
noncomputable def rx_wI (q : rx_M) : Nat × Nat := q.2.2.2.2.1
noncomputable def rx_wS (q : rx_M) : Nat × Nat := q.2.2.2.2.2.1
noncomputable def rx_wC (q : rx_M) : Nat × Nat := q.2.2.2.1
noncomputable def rx_wN (q : rx_M) : Nat × Nat := q.2.2.2.2.2.2
/-- the notes of an instruction, by program; X: where five words of the JDK stand -/
noncomputable def rx_cw (X : (Nat × Nat) × (Nat × Nat) × (Nat × Nat) × (Nat × Nat) × (Nat × Nat)) (P : List rx_M) (own mn : String) (pc na nb : Nat) (w : Nat × Nat) (ins : Instr) : Bool := match ins with
  | .iinc _ n => decide (Int32.ofInt n = Int32.ofNat na)
  | .iconst n => decide (Int32.ofInt n = Int32.ofNat na)
  | .bipush n => decide ((Int8.ofInt n).toInt32 = Int32.ofNat na)
  | .sipush n => decide ((Int16.ofInt n).toInt32 = Int32.ofNat na)
  | .lconst n => decide (Int64.ofNat n.val = Int64.ofNat na)
  | .ldc_w i => rx_has w (.constant own i (Int32.ofNat na))
  | .ldc2_w i => rx_has w (.constantLong own i (Int64.ofNat na))
  | .goto off => decide ((pc : Int) + off = (na : Int))
  | .ifCond _ off => decide ((pc : Int) + off = (na : Int))
  | .if_icmp _ off => decide ((pc : Int) + off = (na : Int))
  | .tableswitch d _ _ _ => decide ((pc : Int) + d = (na : Int))
  | .getfield i => (match rx_nth vwCl na with
    | some q => Nat.blt na 12 && (Nat.blt nb q.2.2 && rx_has w (.fieldLink own i (q.2.1 nb).1 (q.2.1 nb).2.1 (q.2.1 nb).2.2.1))
    | none => false)
  | .putfield i => (match rx_nth vwCl na with
    | some q => Nat.blt na 12 && (Nat.blt nb q.2.2 && (rx_has w (.fieldLink own i (q.2.1 nb).1 (q.2.1 nb).2.1 (q.2.1 nb).2.2.1) && (decide ((q.2.1 nb).2.2.2 = false) || (decide ((q.2.1 nb).2.2.2 = true) && (decide (mn = "<init>") && decide ((q.2.1 nb).1 = own))))))
    | none => false)
  | .newarray t => rx_has w (.arrayClass (newarray.typeOf t))
  | .anewarray i => rx_has w (.classLink own i "TurnNet$State")
  | .new i => (match rx_nth vwCl na with
    | some q => Nat.blt na 12 && rx_has w (.classLink own i q.1)
    | none => false)
  | .invokevirtual i => (match rx_nth P na with
    | some q => decide (nb ≠ 1) && (decide (nb ≠ 2) && (rx_has w (.methodLink own i (rx_y q)) && (rx_has (rx_wI q) (.instanceMethod (rx_y q)) && (rx_has (rx_wS q) (.selects (rx_y q).cls (rx_y q) (rx_y q)) && (Nat.blt (nb / 4) 12 && (match rx_nth vwCl (nb / 4) with
      | some z => decide (z.1 = (rx_y q).cls)
      | none => false))))))
    | none => false)
  | .invokespecial i => bif Nat.beq nb 1 then rx_has w (.methodLink own i objectInit) && (rx_has X.1 (.instanceMethod objectInit) && rx_has X.2.1 (.code objectInit ⟨#[0xb1]⟩ 1 none)) else (match rx_nth P na with
    | some q => decide (nb ≠ 1) && (decide (nb ≠ 2) && (decide ((rx_y q).name = "<init>") && (decide (rx_rt q = none) && (rx_has (rx_wI q) (.instanceMethod (rx_y q)) && (rx_has w (.methodLink own i (rx_y q)) || rx_hasN w own i (rx_y q) "TurnNet")))))
    | none => false)
  | .invokestatic i => bif Nat.beq nb 2 then rx_has w (.methodLink own i arraycopyName) && (rx_has X.2.2.1 (.native arraycopyName) && (rx_has X.2.2.2.1 (.static arraycopyName) && rx_has X.2.2.2.2 (.initialized "java/lang/System"))) else (match rx_nth P na with
    | some q => decide (nb ≠ 1) && (decide (nb ≠ 2) && (rx_has w (.methodLink own i (rx_y q)) && rx_has (rx_wI q) (.static (rx_y q))))
    | none => false)
  | _ => true
noncomputable def rx_cd1 (bytes : ByteArray) (pc len : Nat) (ins : Instr) : Bool := decide (decode bytes pc = .ok (ins, len)) && (match ins with
  | .tableswitch _ _ _ _ => true
  | i => Nat.beq len (rx_ln i))
theorem rx_cd1_ok {bytes : ByteArray} {pc len : Nat} {ins : Instr} (h : rx_cd1 bytes pc len ins = true) : rx_dec bytes pc ins := by
  obtain ⟨h1, h2⟩ := rx_and2.mp h
  have h1 : decode bytes pc = .ok (ins, len) := of_decide_eq_true h1
  cases ins with
  | tableswitch d lo hi offs => exact ⟨len, h1⟩
  | _ => have h2 := rx_beq.mp h2; rw [h2] at h1; exact h1
theorem rx_cw_wd {X : (Nat × Nat) × (Nat × Nat) × (Nat × Nat) × (Nat × Nat) × (Nat × Nat)} {P : List rx_M} {K : rx_K} (hCL : ∀ na, na < 12 → rx_CL K na) {own mn : String} {pc na nb : Nat} {w : Nat × Nat} {ins : Instr} (h : rx_cw X P own mn pc na nb w ins = true) : rx_wd K own mn pc na nb ins := by
  cases ins with
  | iinc i n => exact (show Int32.ofInt n = Int32.ofNat na from of_decide_eq_true h)
  | iconst n => exact (show Int32.ofInt n = Int32.ofNat na from of_decide_eq_true h)
  | bipush n => exact (show (Int8.ofInt n).toInt32 = Int32.ofNat na from of_decide_eq_true h)
  | sipush n => exact (show (Int16.ofInt n).toInt32 = Int32.ofNat na from of_decide_eq_true h)
  | lconst n => exact (show Int64.ofNat n.val = Int64.ofNat na from of_decide_eq_true h)
  | ldc_w i => exact rx_has_ok h
  | ldc2_w i => exact rx_has_ok h
  | goto off => exact (show (pc : Int) + off = (na : Int) from of_decide_eq_true h)
  | ifCond k off => exact (show (pc : Int) + off = (na : Int) from of_decide_eq_true h)
  | if_icmp k off => exact (show (pc : Int) + off = (na : Int) from of_decide_eq_true h)
  | tableswitch d lo hi offs => exact (show (pc : Int) + d = (na : Int) from of_decide_eq_true h)
  | getfield i =>
    replace h : (match rx_nth vwCl na with
      | some q => Nat.blt na 12 && (Nat.blt nb q.2.2 && rx_has w (.fieldLink own i (q.2.1 nb).1 (q.2.1 nb).2.1 (q.2.1 nb).2.2.1))
      | none => false) = true := h
    rw [rx_nth_eq] at h
    cases e : vwCl[na]? with
    | none => rw [e] at h; cases h
    | some q =>
      rw [e] at h
      obtain ⟨d1, h⟩ := rx_and2.mp h
      obtain ⟨d2, d3⟩ := rx_and2.mp h
      obtain ⟨C, T, Nf, ty0, fs, l, q1, q2, q3, q4, q5, q6, q7, q8, q9, q10, q11⟩ := hCL na (rx_blt.mp d1)
      cases e.symm.trans q1
      exact ⟨C, T, Nf, e, rx_blt.mp d1, rx_blt.mp d2, rx_has_ok d3, q4⟩
  | putfield i =>
    replace h : (match rx_nth vwCl na with
      | some q => Nat.blt na 12 && (Nat.blt nb q.2.2 && (rx_has w (.fieldLink own i (q.2.1 nb).1 (q.2.1 nb).2.1 (q.2.1 nb).2.2.1) && (decide ((q.2.1 nb).2.2.2 = false) || (decide ((q.2.1 nb).2.2.2 = true) && (decide (mn = "<init>") && decide ((q.2.1 nb).1 = own))))))
      | none => false) = true := h
    rw [rx_nth_eq] at h
    cases e : vwCl[na]? with
    | none => rw [e] at h; cases h
    | some q =>
      rw [e] at h
      obtain ⟨d1, h⟩ := rx_and2.mp h
      obtain ⟨d2, h⟩ := rx_and2.mp h
      obtain ⟨d3, d4⟩ := rx_and2.mp h
      obtain ⟨C, T, Nf, ty0, fs, l, q1, q2, q3, q4, q5, q6, q7, q8, q9, q10, q11⟩ := hCL na (rx_blt.mp d1)
      cases e.symm.trans q1
      refine ⟨C, T, Nf, ty0, e, rx_blt.mp d1, rx_blt.mp d2, rx_has_ok d3, q4, q2, q3, ?_, fun ks k hks hk => q5 nb ks k (rx_blt.mp d2) hks hk⟩
      rcases rx_or2.mp d4 with d | d
      · exact Or.inl (of_decide_eq_true d)
      · obtain ⟨e1, d⟩ := rx_and2.mp d
        obtain ⟨e2, e3⟩ := rx_and2.mp d
        exact Or.inr ⟨of_decide_eq_true e1, of_decide_eq_true e2, of_decide_eq_true e3⟩
  | newarray t => exact rx_has_ok h
  | anewarray i => exact rx_has_ok h
  | new i =>
    replace h : (match rx_nth vwCl na with
      | some q => Nat.blt na 12 && rx_has w (.classLink own i q.1)
      | none => false) = true := h
    rw [rx_nth_eq] at h
    cases e : vwCl[na]? with
    | none => rw [e] at h; cases h
    | some q =>
      rw [e] at h
      obtain ⟨d1, d2⟩ := rx_and2.mp h
      obtain ⟨C, T, Nf, ty0, fs, l, q1, q2, q3, q4, q5, q6, q7, q8, q9, q10, q11⟩ := hCL na (rx_blt.mp d1)
      cases e.symm.trans q1
      exact ⟨C, T, Nf, ty0, fs, l, e, rx_blt.mp d1, q6, q7, q8, q9, q2, q4, rx_has_ok d2, q10, q11⟩
  | _ => trivial
theorem rx_cw_site {X : (Nat × Nat) × (Nat × Nat) × (Nat × Nat) × (Nat × Nat) × (Nat × Nat)} {P : List rx_M} {own mn : String} {pc na nb : Nat} {w : Nat × Nat} {ins : Instr} (h : rx_cw X P own mn pc na nb w ins = true) : rx_site P own na nb ins := by
  cases ins with
  | invokevirtual i =>
    replace h : (match rx_nth P na with
      | some q => decide (nb ≠ 1) && (decide (nb ≠ 2) && (rx_has w (.methodLink own i (rx_y q)) && (rx_has (rx_wI q) (.instanceMethod (rx_y q)) && (rx_has (rx_wS q) (.selects (rx_y q).cls (rx_y q) (rx_y q)) && (Nat.blt (nb / 4) 12 && (match rx_nth vwCl (nb / 4) with
        | some z => decide (z.1 = (rx_y q).cls)
        | none => false))))))
      | none => false) = true := h
    cases e : rx_nth P na with
    | none => rw [e] at h; cases h
    | some q =>
      rw [e] at h
      obtain ⟨d1, h⟩ := rx_and2.mp h
      obtain ⟨d2, h⟩ := rx_and2.mp h
      obtain ⟨d3, h⟩ := rx_and2.mp h
      obtain ⟨d4, h⟩ := rx_and2.mp h
      obtain ⟨d5, h⟩ := rx_and2.mp h
      obtain ⟨d6, h⟩ := rx_and2.mp h
      rw [rx_nth_eq] at h
      cases e2 : vwCl[nb / 4]? with
      | none => rw [e2] at h; cases h
      | some z =>
        rw [e2] at h
        obtain ⟨z1, z2, z3⟩ := z
        have hz : z1 = (rx_y q).cls := of_decide_eq_true h
        subst hz
        exact ⟨of_decide_eq_true d1, of_decide_eq_true d2, q, e, rx_has_ok d3, rx_has_ok d4, rx_has_ok d5, ⟨z2, z3, e2⟩, rx_blt.mp d6⟩
  | invokespecial i =>
    replace h : (bif Nat.beq nb 1 then rx_has w (.methodLink own i objectInit) && (rx_has X.1 (.instanceMethod objectInit) && rx_has X.2.1 (.code objectInit ⟨#[0xb1]⟩ 1 none)) else (match rx_nth P na with
      | some q => decide (nb ≠ 1) && (decide (nb ≠ 2) && (decide ((rx_y q).name = "<init>") && (decide (rx_rt q = none) && (rx_has (rx_wI q) (.instanceMethod (rx_y q)) && (rx_has w (.methodLink own i (rx_y q)) || rx_hasN w own i (rx_y q) "TurnNet")))))
      | none => false)) = true := h
    cases hb : Nat.beq nb 1 with
    | true =>
      rw [hb, cond_true] at h
      obtain ⟨d1, h⟩ := rx_and2.mp h
      obtain ⟨d2, d3⟩ := rx_and2.mp h
      exact Or.inl ⟨rx_beq.mp hb, rx_has_ok d1, rx_has_ok d2, rx_has_ok d3⟩
    | false =>
      rw [hb, cond_false] at h
      cases e : rx_nth P na with
      | none => rw [e] at h; cases h
      | some q =>
        rw [e] at h
        obtain ⟨d1, h⟩ := rx_and2.mp h
        obtain ⟨d2, h⟩ := rx_and2.mp h
        obtain ⟨d3, h⟩ := rx_and2.mp h
        obtain ⟨d4, h⟩ := rx_and2.mp h
        obtain ⟨d5, h⟩ := rx_and2.mp h
        refine Or.inr ⟨of_decide_eq_true d1, of_decide_eq_true d2, q, e, of_decide_eq_true d3, of_decide_eq_true d4, rx_has_ok d5, ?_⟩
        rcases rx_or2.mp h with h | h
        · exact Or.inl (rx_has_ok h)
        · exact Or.inr ⟨_, rx_hasN_ok h⟩
  | invokestatic i =>
    replace h : (bif Nat.beq nb 2 then rx_has w (.methodLink own i arraycopyName) && (rx_has X.2.2.1 (.native arraycopyName) && (rx_has X.2.2.2.1 (.static arraycopyName) && rx_has X.2.2.2.2 (.initialized "java/lang/System"))) else (match rx_nth P na with
      | some q => decide (nb ≠ 1) && (decide (nb ≠ 2) && (rx_has w (.methodLink own i (rx_y q)) && rx_has (rx_wI q) (.static (rx_y q))))
      | none => false)) = true := h
    cases hb : Nat.beq nb 2 with
    | true =>
      rw [hb, cond_true] at h
      obtain ⟨d1, h⟩ := rx_and2.mp h
      obtain ⟨d2, h⟩ := rx_and2.mp h
      obtain ⟨d3, d4⟩ := rx_and2.mp h
      exact Or.inl ⟨rx_beq.mp hb, rx_has_ok d1, rx_has_ok d2, rx_has_ok d3, rx_has_ok d4⟩
    | false =>
      rw [hb, cond_false] at h
      cases e : rx_nth P na with
      | none => rw [e] at h; cases h
      | some q =>
        rw [e] at h
        obtain ⟨d1, h⟩ := rx_and2.mp h
        obtain ⟨d2, h⟩ := rx_and2.mp h
        obtain ⟨d3, d4⟩ := rx_and2.mp h
        exact Or.inr ⟨of_decide_eq_true d1, of_decide_eq_true d2, q, e, rx_has_ok d3, rx_has_ok d4⟩
  | _ => trivial
/-- a method's code, by program (but for what its steps do: that is by rfl) -/
noncomputable def rx_cm (X : (Nat × Nat) × (Nat × Nat) × (Nat × Nat) × (Nat × Nat) × (Nat × Nat)) (P : List rx_M) (r : rx_M) : Bool := (rx_cd r).all (fun ch => ch.all (fun x => rx_cd1 (rx_b r) x.1 x.2.2.2.2.1 x.2.2.2.1 && (Nat.beq x.2.1 (rx_kd x.2.2.2.1) && rx_cw X P (rx_y r).cls (rx_y r).name x.1 x.2.2.2.2.2.1 x.2.2.2.2.2.2.1 (x.2.2.2.2.2.2.2.1, x.2.2.2.2.2.2.2.2) x.2.2.2.1)))
theorem rx_cm_ok {X : (Nat × Nat) × (Nat × Nat) × (Nat × Nat) × (Nat × Nat) × (Nat × Nat)} {P : List rx_M} {K : rx_K} {r : rx_M} (hCL : ∀ na, na < 12 → rx_CL K na) (h : rx_cm X P r = true) (hh : ∀ ch ∈ rx_cd r, ∀ x ∈ ch, x.2.1 = 0 → x.2.2.1 = rx_sem x.2.2.2.1) : rx_ST P K r := by
  intro ch hch x hx
  have h1 := List.all_eq_true.mp (List.all_eq_true.mp h ch hch) x hx
  obtain ⟨d1, h1⟩ := rx_and2.mp h1
  obtain ⟨d2, d3⟩ := rx_and2.mp h1
  exact ⟨rx_cd1_ok d1, rx_beq.mp d2, hh ch hch x hx, rx_cw_wd hCL d3, rx_cw_site d3⟩
/-- a method that is called, by program -/
noncomputable def rx_cq (q : rx_M) : Bool := plainName (rx_y q).cls && (rx_has (rx_wC q) (.code (rx_y q) (rx_b q) (rx_mL (rx_n q)) (rx_rt q)) && (rx_has (rx_wN q) (.initialized (rx_y q).cls) && (decide ((rx_y q).cls ≠ "java/lang/invoke/MethodHandle") && (decide ((rx_y q).cls ≠ "java/lang/invoke/VarHandle") && (decide ((parseMethodDescriptor (rx_y q).desc).map (fun d => d.parameters.length) = some (rx_np (rx_n q))) && (Nat.beq (rx_sl (rx_n q)) 0 &&
  ((Nat.beq (rx_rk (rx_n q)) 0 && decide (rx_rt q = none)) || ((Nat.beq (rx_rk (rx_n q)) 1 && decide (rx_rt q = some .int)) || ((Nat.beq (rx_rk (rx_n q)) 2 && decide (rx_rt q = some .boolean)) || (Nat.beq (rx_rk (rx_n q)) 3 && decide (rx_rt q = some .long)))))))))))
theorem rx_cq_ok {q : rx_M} (h : rx_cq q = true) : rx_QW q := by
  obtain ⟨d1, h⟩ := rx_and2.mp h
  obtain ⟨d2, h⟩ := rx_and2.mp h
  obtain ⟨d3, h⟩ := rx_and2.mp h
  obtain ⟨d4, h⟩ := rx_and2.mp h
  obtain ⟨d5, h⟩ := rx_and2.mp h
  obtain ⟨d6, h⟩ := rx_and2.mp h
  obtain ⟨d7, h⟩ := rx_and2.mp h
  refine ⟨d1, rx_has_ok d2, rx_has_ok d3, of_decide_eq_true d4, of_decide_eq_true d5, of_decide_eq_true d6, rx_beq.mp d7, ?_⟩
  rcases rx_or2.mp h with h | h
  · obtain ⟨a, b⟩ := rx_and2.mp h
    exact Or.inl ⟨rx_beq.mp a, of_decide_eq_true b⟩
  rcases rx_or2.mp h with h | h
  · obtain ⟨a, b⟩ := rx_and2.mp h
    exact Or.inr (Or.inl ⟨rx_beq.mp a, of_decide_eq_true b⟩)
  rcases rx_or2.mp h with h | h
  · obtain ⟨a, b⟩ := rx_and2.mp h
    exact Or.inr (Or.inr (Or.inl ⟨rx_beq.mp a, of_decide_eq_true b⟩))
  · obtain ⟨a, b⟩ := rx_and2.mp h
    exact Or.inr (Or.inr (Or.inr ⟨rx_beq.mp a, of_decide_eq_true b⟩))
end
section
noncomputable def rx_dv (v : Nat) : Value := if v = 0 then .int 0 else if v = 1 then .long 0 else .null
theorem rx_dv_ok (b : Nat) (ad : List Nat) (en : List Int32) : ∀ (l : List Nat), l.all (fun v => Nat.ble v 2) = true → l.map (rx_cv b ad en) = (l.map rx_dv).map some
  | [], _ => rfl
  | v :: l, h => by
    rw [List.all_cons] at h
    obtain ⟨h1, h2⟩ := rx_and2.mp h
    have h1 : v ≤ 2 := rx_ble.mp h1
    simp only [List.map_cons, List.cons.injEq]
    refine ⟨?_, rx_dv_ok b ad en l h2⟩
    rcases (show v = 0 ∨ v = 1 ∨ v = 2 by omega) with rfl | rfl | rfl <;> rfl
noncomputable def rx_fktB (k : Nat) (ty : FieldType) : Bool := match ty with
  | .int => Nat.beq k 0 | .boolean => Nat.beq k 1 | .object _ => Nat.beq k 2 | .array _ => Nat.beq k 2 | _ => false
theorem rx_fktB_ok {k : Nat} {ty : FieldType} (h : rx_fktB k ty = true) : rx_fkt k ty := by
  cases ty with
  | int => exact Or.inl ⟨rx_beq.mp h, rfl⟩
  | boolean => exact Or.inr (Or.inl ⟨rx_beq.mp h, rfl⟩)
  | object n => exact Or.inr (Or.inr ⟨rx_beq.mp h, Or.inl ⟨n, rfl⟩⟩)
  | array n => exact Or.inr (Or.inr ⟨rx_beq.mp h, Or.inr ⟨n, rfl⟩⟩)
  | _ => cases h
/-- a class, by program: its layout's words, its fields' kinds, its default contents -/
noncomputable def rx_cc (K : rx_K) (na : Nat) (C : String) (T : u_T) (Nf : Nat) (ty : Nat → FieldType) (l : List Nat) (pls : List (Nat × Nat)) (wi wn : Nat × Nat) : Bool :=
  (List.range Nf).all (fun i => match rx_nth pls i with | some w => rx_has w (u_lay C T i) | none => false) &&
  ((match rx_nth K.2 na with | some ks => (List.range Nf).all (fun i => match rx_nth ks i with | some k => rx_fktB k (ty i) | none => false) | none => false) &&
  (l.all (fun v => Nat.ble v 2) && ((List.range Nf).all (fun j => decide (defaultValue (ty j) = vp_V (l.map rx_dv) j)) && (rx_has wi (.instantiable C Nf) && rx_has wn (.initialized C)))))
theorem rx_cc_ok {K : rx_K} {na : Nat} {C : String} {T : u_T} {Nf : Nat} {ty : Nat → FieldType} {l : List Nat} {pls : List (Nat × Nat)} {wi wn : Nat × Nat} (h : rx_cc K na C T Nf ty l pls wi wn = true) (h1 : vwCl[na]? = some (C, T, Nf)) (h2 : ∀ k, k < Nf → parseFieldDescriptor (T k).2.2.1 = some (ty k)) (h3 : ∀ a, a < Nf → ∀ b, b < Nf → a ≠ b → (T a).2.1 ≠ (T b).2.1) (h4 : rx_nth K.1 na = some l) (h5 : l.length = Nf) : rx_CL K na := by
  obtain ⟨d1, h⟩ := rx_and2.mp h
  obtain ⟨d2, h⟩ := rx_and2.mp h
  obtain ⟨d3, h⟩ := rx_and2.mp h
  obtain ⟨d4, h⟩ := rx_and2.mp h
  obtain ⟨d5, d6⟩ := rx_and2.mp h
  refine ⟨C, T, Nf, ty, l.map rx_dv, l, h1, h2, h3, ?_, ?_, h4, h5, fun b ad en => rx_dv_ok b ad en l d3, ?_, rx_has_ok d5, rx_has_ok d6⟩
  · intro w hw
    obtain ⟨i, hi, rfl⟩ := List.mem_map.mp hw
    have := List.all_eq_true.mp d1 i hi
    cases e : rx_nth pls i with
    | none => rw [e] at this; cases this
    | some z => rw [e] at this; exact rx_has_ok this
  · intro nb ks k hnb hks hk
    rw [hks] at d2
    have := List.all_eq_true.mp d2 nb (List.mem_range.mpr hnb)
    rw [hk] at this
    exact rx_fktB_ok this
  · intro j hj
    exact of_decide_eq_true (List.all_eq_true.mp d4 j (List.mem_range.mpr hj))
theorem rx_co_12 {p : Nat → Prop} (h0 : p 0) (h1 : p 1) (h2 : p 2) (h3 : p 3) (h4 : p 4) (h5 : p 5) (h6 : p 6) (h7 : p 7) (h8 : p 8) (h9 : p 9) (h10 : p 10) (h11 : p 11) : ∀ n, n < 12 → p n := by
  intro n hn
  match n, hn with
  | 0, _ => exact h0
  | 1, _ => exact h1
  | 2, _ => exact h2
  | 3, _ => exact h3
  | 4, _ => exact h4
  | 5, _ => exact h5
  | 6, _ => exact h6
  | 7, _ => exact h7
  | 8, _ => exact h8
  | 9, _ => exact h9
  | 10, _ => exact h10
  | 11, _ => exact h11
  | n + 12, h => exact absurd h (by omega)
/-- a stretch of a method's code, by program -/
noncomputable def rx_cmA (X : (Nat × Nat) × (Nat × Nat) × (Nat × Nat) × (Nat × Nat) × (Nat × Nat)) (P : List rx_M) (r : rx_M) (ch : List rx_E) : Bool := ch.all (fun x => rx_cd1 (rx_b r) x.1 x.2.2.2.2.1 x.2.2.2.1 && (Nat.beq x.2.1 (rx_kd x.2.2.2.1) && rx_cw X P (rx_y r).cls (rx_y r).name x.1 x.2.2.2.2.2.1 x.2.2.2.2.2.2.1 (x.2.2.2.2.2.2.2.1, x.2.2.2.2.2.2.2.2) x.2.2.2.1))
theorem rx_cmA_ok {X : (Nat × Nat) × (Nat × Nat) × (Nat × Nat) × (Nat × Nat) × (Nat × Nat)} {P : List rx_M} {K : rx_K} {r : rx_M} {ch : List rx_E} (hCL : ∀ na, na < 12 → rx_CL K na) (h : rx_cmA X P r ch = true) (hh : ∀ x ∈ ch, x.2.1 = 0 → x.2.2.1 = rx_sem x.2.2.2.1) : ∀ x ∈ ch, rx_OK P K r x := by
  intro x hx
  have h1 := List.all_eq_true.mp h x hx
  obtain ⟨d1, h1⟩ := rx_and2.mp h1
  obtain ⟨d2, d3⟩ := rx_and2.mp h1
  exact ⟨rx_cd1_ok d1, rx_beq.mp d2, hh x hx, rx_cw_wd hCL d3, rx_cw_site d3⟩
end
section
theorem rxc_0 : rx_CL (rx_DF, rx_FK) 0 := rx_cc_ok (C := RX0) (T := TX0) (Nf := 5) (ty := tyX0) (l := [2, 2, 2, 2, 2]) (pls := [(1, 238), (2, 0), (2, 2), (2, 4), (2, 6)]) (wi := (1, 228)) (wn := (1, 6)) (by decide +kernel) rfl tyX0_ok nmX0 rfl rfl
theorem rxc_1 : rx_CL (rx_DF, rx_FK) 1 := rx_cc_ok (C := RX1) (T := TX1) (Nf := 4) (ty := tyX1) (l := [2, 0, 0, 0]) (pls := [(2, 130), (2, 132), (2, 134), (2, 136)]) (wi := (2, 68)) (wn := (1, 10)) (by decide +kernel) rfl tyX1_ok nmX1 rfl rfl
theorem rxc_2 : rx_CL (rx_DF, rx_FK) 2 := rx_cc_ok (C := RX2) (T := TX2) (Nf := 12) (ty := tyX2) (l := [0, 0, 0, 0, 0, 0, 2, 2, 2, 2, 2, 2]) (pls := [(1, 81), (1, 83), (1, 85), (1, 87), (1, 89), (1, 91), (1, 93), (1, 95), (1, 97), (1, 99), (1, 101), (1, 103)]) (wi := (1, 29)) (wn := (1, 2)) (by decide +kernel) rfl tyX2_ok nmX2 rfl rfl
theorem rxc_3 : rx_CL (rx_DF, rx_FK) 3 := rx_cc_ok (C := RX3) (T := TX3) (Nf := 5) (ty := tyX3) (l := [2, 2, 2, 2, 2]) (pls := [(1, 171), (1, 173), (1, 175), (1, 177), (1, 179)]) (wi := (1, 158)) (wn := (1, 4)) (by decide +kernel) rfl tyX3_ok nmX3 rfl rfl
theorem rxc_4 : rx_CL (rx_DF, rx_FK) 4 := rx_cc_ok (C := RX4) (T := TX4) (Nf := 5) (ty := tyX4) (l := [2, 2, 2, 0, 0]) (pls := [(2, 38), (2, 40), (2, 42), (2, 44), (2, 46)]) (wi := (2, 26)) (wn := (1, 8)) (by decide +kernel) rfl tyX4_ok nmX4 rfl rfl
theorem rxc_5 : rx_CL (rx_DF, rx_FK) 5 := rx_cc_ok (C := RX5) (T := TX5) (Nf := 12) (ty := tyX5) (l := [2, 0, 2, 0, 0, 0, 0, 0, 0, 0, 0, 0]) (pls := [(1, 131), (1, 133), (1, 135), (1, 137), (1, 139), (1, 141), (1, 143), (1, 145), (1, 147), (1, 149), (1, 151), (1, 153)]) (wi := (1, 108)) (wn := (1, 3)) (by decide +kernel) rfl tyX5_ok nmX5 rfl rfl
theorem rxc_6 : rx_CL (rx_DF, rx_FK) 6 := rx_cc_ok (C := RX6) (T := TX6) (Nf := 12) (ty := tyX6) (l := [2, 0, 0, 0, 0, 2, 2, 2, 2, 2, 2, 2]) (pls := [(1, 201), (1, 203), (1, 205), (1, 207), (1, 209), (1, 211), (1, 213), (1, 215), (1, 217), (1, 219), (1, 221), (1, 223)]) (wi := (1, 183)) (wn := (1, 5)) (by decide +kernel) rfl tyX6_ok nmX6 rfl rfl
theorem rxc_7 : rx_CL (rx_DF, rx_FK) 7 := rx_cc_ok (C := RX7) (T := TX7) (Nf := 9) (ty := tyX7) (l := [0, 0, 0, 0, 0, 2, 2, 2, 2]) (pls := [(2, 105), (2, 107), (2, 109), (2, 111), (2, 113), (2, 115), (2, 117), (2, 119), (2, 121)]) (wi := (2, 75)) (wn := (1, 11)) (by decide +kernel) rfl tyX7_ok nmX7 rfl rfl
theorem rxc_8 : rx_CL (rx_DF, rx_FK) 8 := rx_cc_ok (C := RX8) (T := TX8) (Nf := 3) (ty := tyX8) (l := [2, 0, 0]) (pls := [(2, 60), (2, 62), (2, 64)]) (wi := (2, 50)) (wn := (1, 9)) (by decide +kernel) rfl tyX8_ok nmX8 rfl rfl
theorem rxc_9 : rx_CL (rx_DF, rx_FK) 9 := rx_cc_ok (C := RX9) (T := TX9) (Nf := 3) (ty := tyX9) (l := [2, 2, 2]) (pls := [(2, 18), (2, 20), (2, 22)]) (wi := (2, 10)) (wn := (1, 7)) (by decide +kernel) rfl tyX9_ok nmX9 rfl rfl
theorem rxc_10 : rx_CL (rx_DF, rx_FK) 10 := rx_cc_ok (C := RX10) (T := TX10) (Nf := 14) (ty := tyX10) (l := [2, 2, 2, 2, 2, 2, 2, 2, 2, 2, 2, 2, 2, 2]) (pls := [(2, 155), (2, 157), (2, 159), (2, 161), (2, 163), (2, 165), (2, 167), (2, 169), (2, 171), (2, 173), (2, 175), (2, 177), (2, 179), (2, 181)]) (wi := (1, 21)) (wn := (1, 1)) (by decide +kernel) rfl tyX10_ok nmX10 rfl rfl
theorem rxc_11 : rx_CL (rx_DF, rx_FK) 11 := rx_cc_ok (C := RX11) (T := TX11) (Nf := 58) (ty := tyX11) (l := [2, 2, 2, 2, 2, 2, 2, 2, 2, 0, 2, 0, 0, 0, 0, 0, 0, 0, 0, 0, 0, 0, 2, 0, 0, 0, 2, 0, 0, 2, 2, 2, 2, 2, 2, 2, 2, 2, 2, 2, 0, 0, 0, 0, 2, 2, 2, 2, 2, 0, 0, 0, 0, 2, 2, 2, 0, 0]) (pls := [(6, 62), (6, 64), (6, 66), (6, 68), (6, 70), (6, 72), (6, 74), (6, 76), (6, 78), (6, 80), (6, 82), (6, 84), (6, 86), (6, 88), (6, 90), (6, 92), (6, 94), (6, 96), (6, 98), (6, 100), (6, 102), (6, 104), (6, 106), (6, 108), (6, 110), (6, 112), (6, 114), (6, 116), (6, 118), (6, 120), (6, 122), (6, 124), (6, 126), (6, 128), (6, 130), (6, 132), (6, 134), (6, 136), (6, 138), (6, 140), (6, 142), (6, 144), (6, 146), (6, 148), (6, 150), (6, 152), (6, 154), (6, 156), (6, 158), (6, 160), (6, 162), (6, 164), (6, 166), (6, 168), (6, 170), (6, 172), (6, 174), (6, 176)]) (wi := (5, 177)) (wn := (1, 12)) (by decide +kernel) rfl tyX11_ok nmX11 rfl rfl
theorem rxc_all : ∀ na, na < 12 → rx_CL (rx_DF, rx_FK) na := rx_co_12 rxc_0 rxc_1 rxc_2 rxc_3 rxc_4 rxc_5 rxc_6 rxc_7 rxc_8 rxc_9 rxc_10 rxc_11
noncomputable def rx_X : (Nat × Nat) × (Nat × Nat) × (Nat × Nat) × (Nat × Nat) × (Nat × Nat) := ((1, 26), (1, 27), (3, 103), (3, 102), (1, 18))
end
section
theorem rxh_0 : ∀ ch ∈ rx_cd rxm_0, ∀ x ∈ ch, x.2.1 = 0 → x.2.2.1 = rx_sem x.2.2.2.1 := List.forall_mem_cons.mpr ⟨List.forall_mem_cons.mpr ⟨fun _ => rfl, List.forall_mem_cons.mpr ⟨fun _ => rfl, List.forall_mem_cons.mpr ⟨fun _ => rfl, List.forall_mem_cons.mpr ⟨fun _ => rfl, List.forall_mem_cons.mpr ⟨fun _ => rfl, List.forall_mem_cons.mpr ⟨fun _ => rfl, List.forall_mem_cons.mpr ⟨fun _ => rfl, fun _ h => absurd h List.not_mem_nil⟩⟩⟩⟩⟩⟩⟩, List.forall_mem_cons.mpr ⟨fun _ h => absurd h List.not_mem_nil, List.forall_mem_cons.mpr ⟨List.forall_mem_cons.mpr ⟨fun z => absurd z (by decide), fun _ h => absurd h List.not_mem_nil⟩, fun _ h => absurd h List.not_mem_nil⟩⟩⟩
theorem rxk_0 : rx_cm rx_X rx_P rxm_0 = true := by decide +kernel
theorem rxq_0 : rx_cq rxm_0 = true := by decide +kernel
theorem rxs_0 : rx_ST rx_P (rx_DF, rx_FK) rxm_0 := rx_cm_ok rxc_all rxk_0 rxh_0
theorem rxh_1 : ∀ ch ∈ rx_cd rxm_1, ∀ x ∈ ch, x.2.1 = 0 → x.2.2.1 = rx_sem x.2.2.2.1 := List.forall_mem_cons.mpr ⟨List.forall_mem_cons.mpr ⟨fun _ => rfl, List.forall_mem_cons.mpr ⟨fun _ => rfl, List.forall_mem_cons.mpr ⟨fun _ => rfl, List.forall_mem_cons.mpr ⟨fun _ => rfl, List.forall_mem_cons.mpr ⟨fun _ => rfl, List.forall_mem_cons.mpr ⟨fun _ => rfl, List.forall_mem_cons.mpr ⟨fun _ => rfl, List.forall_mem_cons.mpr ⟨fun _ => rfl, List.forall_mem_cons.mpr ⟨fun _ => rfl, fun _ h => absurd h List.not_mem_nil⟩⟩⟩⟩⟩⟩⟩⟩⟩, List.forall_mem_cons.mpr ⟨fun _ h => absurd h List.not_mem_nil, List.forall_mem_cons.mpr ⟨fun _ h => absurd h List.not_mem_nil, List.forall_mem_cons.mpr ⟨List.forall_mem_cons.mpr ⟨fun _ => rfl, List.forall_mem_cons.mpr ⟨fun z => absurd z (by decide), fun _ h => absurd h List.not_mem_nil⟩⟩, fun _ h => absurd h List.not_mem_nil⟩⟩⟩⟩
theorem rxk_1 : rx_cm rx_X rx_P rxm_1 = true := by decide +kernel
theorem rxq_1 : rx_cq rxm_1 = true := by decide +kernel
theorem rxs_1 : rx_ST rx_P (rx_DF, rx_FK) rxm_1 := rx_cm_ok rxc_all rxk_1 rxh_1
theorem rxh_2 : ∀ ch ∈ rx_cd rxm_2, ∀ x ∈ ch, x.2.1 = 0 → x.2.2.1 = rx_sem x.2.2.2.1 := List.forall_mem_cons.mpr ⟨List.forall_mem_cons.mpr ⟨fun _ => rfl, List.forall_mem_cons.mpr ⟨fun _ => rfl, List.forall_mem_cons.mpr ⟨fun _ => rfl, List.forall_mem_cons.mpr ⟨fun _ => rfl, List.forall_mem_cons.mpr ⟨fun _ => rfl, List.forall_mem_cons.mpr ⟨fun _ => rfl, List.forall_mem_cons.mpr ⟨fun z => absurd z (by decide), fun _ h => absurd h List.not_mem_nil⟩⟩⟩⟩⟩⟩⟩, fun _ h => absurd h List.not_mem_nil⟩
theorem rxk_2 : rx_cm rx_X rx_P rxm_2 = true := by decide +kernel
theorem rxq_2 : rx_cq rxm_2 = true := by decide +kernel
theorem rxs_2 : rx_ST rx_P (rx_DF, rx_FK) rxm_2 := rx_cm_ok rxc_all rxk_2 rxh_2
theorem rxh_3 : ∀ ch ∈ rx_cd rxm_3, ∀ x ∈ ch, x.2.1 = 0 → x.2.2.1 = rx_sem x.2.2.2.1 := List.forall_mem_cons.mpr ⟨List.forall_mem_cons.mpr ⟨fun _ => rfl, List.forall_mem_cons.mpr ⟨fun _ => rfl, List.forall_mem_cons.mpr ⟨fun _ => rfl, List.forall_mem_cons.mpr ⟨fun _ => rfl, List.forall_mem_cons.mpr ⟨fun _ => rfl, List.forall_mem_cons.mpr ⟨fun _ => rfl, List.forall_mem_cons.mpr ⟨fun _ => rfl, List.forall_mem_cons.mpr ⟨fun _ => rfl, List.forall_mem_cons.mpr ⟨fun _ => rfl, List.forall_mem_cons.mpr ⟨fun _ => rfl, fun _ h => absurd h List.not_mem_nil⟩⟩⟩⟩⟩⟩⟩⟩⟩⟩, List.forall_mem_cons.mpr ⟨List.forall_mem_cons.mpr ⟨fun _ => rfl, List.forall_mem_cons.mpr ⟨fun _ => rfl, List.forall_mem_cons.mpr ⟨fun _ => rfl, List.forall_mem_cons.mpr ⟨fun _ => rfl, List.forall_mem_cons.mpr ⟨fun _ => rfl, List.forall_mem_cons.mpr ⟨fun _ => rfl, List.forall_mem_cons.mpr ⟨fun _ => rfl, List.forall_mem_cons.mpr ⟨fun _ => rfl, List.forall_mem_cons.mpr ⟨fun z => absurd z (by decide), fun _ h => absurd h List.not_mem_nil⟩⟩⟩⟩⟩⟩⟩⟩⟩, fun _ h => absurd h List.not_mem_nil⟩⟩
theorem rxk_3 : rx_cm rx_X rx_P rxm_3 = true := by decide +kernel
theorem rxq_3 : rx_cq rxm_3 = true := by decide +kernel
theorem rxs_3 : rx_ST rx_P (rx_DF, rx_FK) rxm_3 := rx_cm_ok rxc_all rxk_3 rxh_3
theorem rxh_4 : ∀ ch ∈ rx_cd rxm_4, ∀ x ∈ ch, x.2.1 = 0 → x.2.2.1 = rx_sem x.2.2.2.1 := List.forall_mem_cons.mpr ⟨List.forall_mem_cons.mpr ⟨fun _ => rfl, List.forall_mem_cons.mpr ⟨fun _ => rfl, List.forall_mem_cons.mpr ⟨fun _ => rfl, List.forall_mem_cons.mpr ⟨fun _ => rfl, List.forall_mem_cons.mpr ⟨fun _ => rfl, List.forall_mem_cons.mpr ⟨fun _ => rfl, List.forall_mem_cons.mpr ⟨fun _ => rfl, List.forall_mem_cons.mpr ⟨fun _ => rfl, fun _ h => absurd h List.not_mem_nil⟩⟩⟩⟩⟩⟩⟩⟩, List.forall_mem_cons.mpr ⟨fun _ h => absurd h List.not_mem_nil, List.forall_mem_cons.mpr ⟨fun _ h => absurd h List.not_mem_nil, List.forall_mem_cons.mpr ⟨List.forall_mem_cons.mpr ⟨fun _ => rfl, List.forall_mem_cons.mpr ⟨fun _ => rfl, fun _ h => absurd h List.not_mem_nil⟩⟩, List.forall_mem_cons.mpr ⟨List.forall_mem_cons.mpr ⟨fun _ => rfl, List.forall_mem_cons.mpr ⟨fun _ => rfl, List.forall_mem_cons.mpr ⟨fun _ => rfl, List.forall_mem_cons.mpr ⟨fun _ => rfl, List.forall_mem_cons.mpr ⟨fun z => absurd z (by decide), fun _ h => absurd h List.not_mem_nil⟩⟩⟩⟩⟩, fun _ h => absurd h List.not_mem_nil⟩⟩⟩⟩⟩
theorem rxk_4 : rx_cm rx_X rx_P rxm_4 = true := by decide +kernel
theorem rxq_4 : rx_cq rxm_4 = true := by decide +kernel
theorem rxs_4 : rx_ST rx_P (rx_DF, rx_FK) rxm_4 := rx_cm_ok rxc_all rxk_4 rxh_4
theorem rxh_5 : ∀ ch ∈ rx_cd rxm_5, ∀ x ∈ ch, x.2.1 = 0 → x.2.2.1 = rx_sem x.2.2.2.1 := List.forall_mem_cons.mpr ⟨List.forall_mem_cons.mpr ⟨fun _ => rfl, List.forall_mem_cons.mpr ⟨fun _ => rfl, List.forall_mem_cons.mpr ⟨fun _ => rfl, List.forall_mem_cons.mpr ⟨fun _ => rfl, List.forall_mem_cons.mpr ⟨fun z => absurd z (by decide), fun _ h => absurd h List.not_mem_nil⟩⟩⟩⟩⟩, fun _ h => absurd h List.not_mem_nil⟩
theorem rxk_5 : rx_cm rx_X rx_P rxm_5 = true := by decide +kernel
theorem rxq_5 : rx_cq rxm_5 = true := by decide +kernel
theorem rxs_5 : rx_ST rx_P (rx_DF, rx_FK) rxm_5 := rx_cm_ok rxc_all rxk_5 rxh_5
theorem rxh_6 : ∀ ch ∈ rx_cd rxm_6, ∀ x ∈ ch, x.2.1 = 0 → x.2.2.1 = rx_sem x.2.2.2.1 := List.forall_mem_cons.mpr ⟨List.forall_mem_cons.mpr ⟨fun _ => rfl, List.forall_mem_cons.mpr ⟨fun _ => rfl, List.forall_mem_cons.mpr ⟨fun _ => rfl, List.forall_mem_cons.mpr ⟨fun _ => rfl, List.forall_mem_cons.mpr ⟨fun _ => rfl, List.forall_mem_cons.mpr ⟨fun _ => rfl, List.forall_mem_cons.mpr ⟨fun z => absurd z (by decide), fun _ h => absurd h List.not_mem_nil⟩⟩⟩⟩⟩⟩⟩, fun _ h => absurd h List.not_mem_nil⟩
theorem rxk_6 : rx_cm rx_X rx_P rxm_6 = true := by decide +kernel
theorem rxq_6 : rx_cq rxm_6 = true := by decide +kernel
theorem rxs_6 : rx_ST rx_P (rx_DF, rx_FK) rxm_6 := rx_cm_ok rxc_all rxk_6 rxh_6
theorem rxh_7 : ∀ ch ∈ rx_cd rxm_7, ∀ x ∈ ch, x.2.1 = 0 → x.2.2.1 = rx_sem x.2.2.2.1 := List.forall_mem_cons.mpr ⟨List.forall_mem_cons.mpr ⟨fun _ => rfl, List.forall_mem_cons.mpr ⟨fun _ => rfl, List.forall_mem_cons.mpr ⟨fun _ => rfl, List.forall_mem_cons.mpr ⟨fun _ => rfl, List.forall_mem_cons.mpr ⟨fun _ => rfl, List.forall_mem_cons.mpr ⟨fun _ => rfl, fun _ h => absurd h List.not_mem_nil⟩⟩⟩⟩⟩⟩, List.forall_mem_cons.mpr ⟨List.forall_mem_cons.mpr ⟨fun _ => rfl, List.forall_mem_cons.mpr ⟨fun z => absurd z (by decide), fun _ h => absurd h List.not_mem_nil⟩⟩, fun _ h => absurd h List.not_mem_nil⟩⟩
theorem rxk_7 : rx_cm rx_X rx_P rxm_7 = true := by decide +kernel
theorem rxq_7 : rx_cq rxm_7 = true := by decide +kernel
theorem rxs_7 : rx_ST rx_P (rx_DF, rx_FK) rxm_7 := rx_cm_ok rxc_all rxk_7 rxh_7
theorem rxh_8 : ∀ ch ∈ rx_cd rxm_8, ∀ x ∈ ch, x.2.1 = 0 → x.2.2.1 = rx_sem x.2.2.2.1 := List.forall_mem_cons.mpr ⟨List.forall_mem_cons.mpr ⟨fun _ => rfl, List.forall_mem_cons.mpr ⟨fun _ => rfl, List.forall_mem_cons.mpr ⟨fun _ => rfl, List.forall_mem_cons.mpr ⟨fun _ => rfl, List.forall_mem_cons.mpr ⟨fun _ => rfl, List.forall_mem_cons.mpr ⟨fun _ => rfl, fun _ h => absurd h List.not_mem_nil⟩⟩⟩⟩⟩⟩, List.forall_mem_cons.mpr ⟨List.forall_mem_cons.mpr ⟨fun _ => rfl, List.forall_mem_cons.mpr ⟨fun z => absurd z (by decide), fun _ h => absurd h List.not_mem_nil⟩⟩, fun _ h => absurd h List.not_mem_nil⟩⟩
theorem rxk_8 : rx_cm rx_X rx_P rxm_8 = true := by decide +kernel
theorem rxq_8 : rx_cq rxm_8 = true := by decide +kernel
theorem rxs_8 : rx_ST rx_P (rx_DF, rx_FK) rxm_8 := rx_cm_ok rxc_all rxk_8 rxh_8
theorem rxh_9 : ∀ ch ∈ rx_cd rxm_9, ∀ x ∈ ch, x.2.1 = 0 → x.2.2.1 = rx_sem x.2.2.2.1 := List.forall_mem_cons.mpr ⟨List.forall_mem_cons.mpr ⟨fun _ => rfl, List.forall_mem_cons.mpr ⟨fun _ => rfl, List.forall_mem_cons.mpr ⟨fun _ => rfl, List.forall_mem_cons.mpr ⟨fun _ => rfl, List.forall_mem_cons.mpr ⟨fun _ => rfl, List.forall_mem_cons.mpr ⟨fun _ => rfl, List.forall_mem_cons.mpr ⟨fun _ => rfl, List.forall_mem_cons.mpr ⟨fun _ => rfl, List.forall_mem_cons.mpr ⟨fun _ => rfl, fun _ h => absurd h List.not_mem_nil⟩⟩⟩⟩⟩⟩⟩⟩⟩, List.forall_mem_cons.mpr ⟨fun _ h => absurd h List.not_mem_nil, List.forall_mem_cons.mpr ⟨fun _ h => absurd h List.not_mem_nil, List.forall_mem_cons.mpr ⟨List.forall_mem_cons.mpr ⟨fun _ => rfl, List.forall_mem_cons.mpr ⟨fun z => absurd z (by decide), fun _ h => absurd h List.not_mem_nil⟩⟩, fun _ h => absurd h List.not_mem_nil⟩⟩⟩⟩
theorem rxk_9 : rx_cm rx_X rx_P rxm_9 = true := by decide +kernel
theorem rxq_9 : rx_cq rxm_9 = true := by decide +kernel
theorem rxs_9 : rx_ST rx_P (rx_DF, rx_FK) rxm_9 := rx_cm_ok rxc_all rxk_9 rxh_9
theorem rxh_10 : ∀ ch ∈ rx_cd rxm_10, ∀ x ∈ ch, x.2.1 = 0 → x.2.2.1 = rx_sem x.2.2.2.1 := List.forall_mem_cons.mpr ⟨List.forall_mem_cons.mpr ⟨fun _ => rfl, List.forall_mem_cons.mpr ⟨fun _ => rfl, List.forall_mem_cons.mpr ⟨fun _ => rfl, List.forall_mem_cons.mpr ⟨fun _ => rfl, List.forall_mem_cons.mpr ⟨fun _ => rfl, List.forall_mem_cons.mpr ⟨fun _ => rfl, List.forall_mem_cons.mpr ⟨fun _ => rfl, List.forall_mem_cons.mpr ⟨fun _ => rfl, fun _ h => absurd h List.not_mem_nil⟩⟩⟩⟩⟩⟩⟩⟩, List.forall_mem_cons.mpr ⟨List.forall_mem_cons.mpr ⟨fun _ => rfl, List.forall_mem_cons.mpr ⟨fun _ => rfl, List.forall_mem_cons.mpr ⟨fun _ => rfl, List.forall_mem_cons.mpr ⟨fun _ => rfl, List.forall_mem_cons.mpr ⟨fun _ => rfl, List.forall_mem_cons.mpr ⟨fun _ => rfl, List.forall_mem_cons.mpr ⟨fun _ => rfl, List.forall_mem_cons.mpr ⟨fun _ => rfl, List.forall_mem_cons.mpr ⟨fun _ => rfl, List.forall_mem_cons.mpr ⟨fun _ => rfl, List.forall_mem_cons.mpr ⟨fun _ => rfl, fun _ h => absurd h List.not_mem_nil⟩⟩⟩⟩⟩⟩⟩⟩⟩⟩⟩, List.forall_mem_cons.mpr ⟨List.forall_mem_cons.mpr ⟨fun _ => rfl, List.forall_mem_cons.mpr ⟨fun _ => rfl, List.forall_mem_cons.mpr ⟨fun _ => rfl, List.forall_mem_cons.mpr ⟨fun _ => rfl, List.forall_mem_cons.mpr ⟨fun _ => rfl, List.forall_mem_cons.mpr ⟨fun _ => rfl, List.forall_mem_cons.mpr ⟨fun z => absurd z (by decide), fun _ h => absurd h List.not_mem_nil⟩⟩⟩⟩⟩⟩⟩, fun _ h => absurd h List.not_mem_nil⟩⟩⟩
theorem rxk_10 : rx_cm rx_X rx_P rxm_10 = true := by decide +kernel
theorem rxq_10 : rx_cq rxm_10 = true := by decide +kernel
theorem rxs_10 : rx_ST rx_P (rx_DF, rx_FK) rxm_10 := rx_cm_ok rxc_all rxk_10 rxh_10
theorem rxh_11 : ∀ ch ∈ rx_cd rxm_11, ∀ x ∈ ch, x.2.1 = 0 → x.2.2.1 = rx_sem x.2.2.2.1 := List.forall_mem_cons.mpr ⟨List.forall_mem_cons.mpr ⟨fun _ => rfl, List.forall_mem_cons.mpr ⟨fun _ => rfl, List.forall_mem_cons.mpr ⟨fun _ => rfl, List.forall_mem_cons.mpr ⟨fun _ => rfl, List.forall_mem_cons.mpr ⟨fun _ => rfl, fun _ h => absurd h List.not_mem_nil⟩⟩⟩⟩⟩, List.forall_mem_cons.mpr ⟨fun _ h => absurd h List.not_mem_nil, List.forall_mem_cons.mpr ⟨fun _ h => absurd h List.not_mem_nil, List.forall_mem_cons.mpr ⟨List.forall_mem_cons.mpr ⟨fun _ => rfl, List.forall_mem_cons.mpr ⟨fun _ => rfl, List.forall_mem_cons.mpr ⟨fun _ => rfl, List.forall_mem_cons.mpr ⟨fun _ => rfl, List.forall_mem_cons.mpr ⟨fun _ => rfl, List.forall_mem_cons.mpr ⟨fun _ => rfl, List.forall_mem_cons.mpr ⟨fun _ => rfl, fun _ h => absurd h List.not_mem_nil⟩⟩⟩⟩⟩⟩⟩, List.forall_mem_cons.mpr ⟨List.forall_mem_cons.mpr ⟨fun _ => rfl, List.forall_mem_cons.mpr ⟨fun _ => rfl, List.forall_mem_cons.mpr ⟨fun _ => rfl, List.forall_mem_cons.mpr ⟨fun _ => rfl, List.forall_mem_cons.mpr ⟨fun _ => rfl, List.forall_mem_cons.mpr ⟨fun _ => rfl, List.forall_mem_cons.mpr ⟨fun _ => rfl, List.forall_mem_cons.mpr ⟨fun _ => rfl, fun _ h => absurd h List.not_mem_nil⟩⟩⟩⟩⟩⟩⟩⟩, List.forall_mem_cons.mpr ⟨List.forall_mem_cons.mpr ⟨fun z => absurd z (by decide), fun _ h => absurd h List.not_mem_nil⟩, fun _ h => absurd h List.not_mem_nil⟩⟩⟩⟩⟩⟩
theorem rxk_11 : rx_cm rx_X rx_P rxm_11 = true := by decide +kernel
theorem rxq_11 : rx_cq rxm_11 = true := by decide +kernel
theorem rxs_11 : rx_ST rx_P (rx_DF, rx_FK) rxm_11 := rx_cm_ok rxc_all rxk_11 rxh_11
theorem rxh_12 : ∀ ch ∈ rx_cd rxm_12, ∀ x ∈ ch, x.2.1 = 0 → x.2.2.1 = rx_sem x.2.2.2.1 := List.forall_mem_cons.mpr ⟨List.forall_mem_cons.mpr ⟨fun _ => rfl, List.forall_mem_cons.mpr ⟨fun _ => rfl, List.forall_mem_cons.mpr ⟨fun _ => rfl, List.forall_mem_cons.mpr ⟨fun _ => rfl, List.forall_mem_cons.mpr ⟨fun _ => rfl, List.forall_mem_cons.mpr ⟨fun _ => rfl, List.forall_mem_cons.mpr ⟨fun z => absurd z (by decide), fun _ h => absurd h List.not_mem_nil⟩⟩⟩⟩⟩⟩⟩, fun _ h => absurd h List.not_mem_nil⟩
theorem rxk_12 : rx_cm rx_X rx_P rxm_12 = true := by decide +kernel
theorem rxq_12 : rx_cq rxm_12 = true := by decide +kernel
theorem rxs_12 : rx_ST rx_P (rx_DF, rx_FK) rxm_12 := rx_cm_ok rxc_all rxk_12 rxh_12
theorem rxh_13 : ∀ ch ∈ rx_cd rxm_13, ∀ x ∈ ch, x.2.1 = 0 → x.2.2.1 = rx_sem x.2.2.2.1 := List.forall_mem_cons.mpr ⟨List.forall_mem_cons.mpr ⟨fun _ => rfl, List.forall_mem_cons.mpr ⟨fun _ => rfl, List.forall_mem_cons.mpr ⟨fun _ => rfl, List.forall_mem_cons.mpr ⟨fun _ => rfl, List.forall_mem_cons.mpr ⟨fun _ => rfl, List.forall_mem_cons.mpr ⟨fun _ => rfl, List.forall_mem_cons.mpr ⟨fun _ => rfl, List.forall_mem_cons.mpr ⟨fun _ => rfl, List.forall_mem_cons.mpr ⟨fun _ => rfl, fun _ h => absurd h List.not_mem_nil⟩⟩⟩⟩⟩⟩⟩⟩⟩, List.forall_mem_cons.mpr ⟨fun _ h => absurd h List.not_mem_nil, List.forall_mem_cons.mpr ⟨fun _ h => absurd h List.not_mem_nil, List.forall_mem_cons.mpr ⟨List.forall_mem_cons.mpr ⟨fun _ => rfl, List.forall_mem_cons.mpr ⟨fun z => absurd z (by decide), fun _ h => absurd h List.not_mem_nil⟩⟩, fun _ h => absurd h List.not_mem_nil⟩⟩⟩⟩
theorem rxk_13 : rx_cm rx_X rx_P rxm_13 = true := by decide +kernel
theorem rxq_13 : rx_cq rxm_13 = true := by decide +kernel
theorem rxs_13 : rx_ST rx_P (rx_DF, rx_FK) rxm_13 := rx_cm_ok rxc_all rxk_13 rxh_13
theorem rxh_14 : ∀ ch ∈ rx_cd rxm_14, ∀ x ∈ ch, x.2.1 = 0 → x.2.2.1 = rx_sem x.2.2.2.1 := List.forall_mem_cons.mpr ⟨List.forall_mem_cons.mpr ⟨fun _ => rfl, List.forall_mem_cons.mpr ⟨fun _ => rfl, List.forall_mem_cons.mpr ⟨fun _ => rfl, List.forall_mem_cons.mpr ⟨fun _ => rfl, List.forall_mem_cons.mpr ⟨fun _ => rfl, List.forall_mem_cons.mpr ⟨fun _ => rfl, List.forall_mem_cons.mpr ⟨fun _ => rfl, List.forall_mem_cons.mpr ⟨fun _ => rfl, List.forall_mem_cons.mpr ⟨fun _ => rfl, fun _ h => absurd h List.not_mem_nil⟩⟩⟩⟩⟩⟩⟩⟩⟩, List.forall_mem_cons.mpr ⟨fun _ h => absurd h List.not_mem_nil, List.forall_mem_cons.mpr ⟨fun _ h => absurd h List.not_mem_nil, List.forall_mem_cons.mpr ⟨List.forall_mem_cons.mpr ⟨fun _ => rfl, List.forall_mem_cons.mpr ⟨fun z => absurd z (by decide), fun _ h => absurd h List.not_mem_nil⟩⟩, fun _ h => absurd h List.not_mem_nil⟩⟩⟩⟩
theorem rxk_14 : rx_cm rx_X rx_P rxm_14 = true := by decide +kernel
theorem rxq_14 : rx_cq rxm_14 = true := by decide +kernel
theorem rxs_14 : rx_ST rx_P (rx_DF, rx_FK) rxm_14 := rx_cm_ok rxc_all rxk_14 rxh_14
theorem rxh_15 : ∀ ch ∈ rx_cd rxm_15, ∀ x ∈ ch, x.2.1 = 0 → x.2.2.1 = rx_sem x.2.2.2.1 := List.forall_mem_cons.mpr ⟨List.forall_mem_cons.mpr ⟨fun _ => rfl, List.forall_mem_cons.mpr ⟨fun _ => rfl, List.forall_mem_cons.mpr ⟨fun _ => rfl, List.forall_mem_cons.mpr ⟨fun _ => rfl, List.forall_mem_cons.mpr ⟨fun _ => rfl, List.forall_mem_cons.mpr ⟨fun _ => rfl, List.forall_mem_cons.mpr ⟨fun _ => rfl, List.forall_mem_cons.mpr ⟨fun _ => rfl, List.forall_mem_cons.mpr ⟨fun _ => rfl, List.forall_mem_cons.mpr ⟨fun _ => rfl, fun _ h => absurd h List.not_mem_nil⟩⟩⟩⟩⟩⟩⟩⟩⟩⟩, List.forall_mem_cons.mpr ⟨List.forall_mem_cons.mpr ⟨fun _ => rfl, List.forall_mem_cons.mpr ⟨fun _ => rfl, List.forall_mem_cons.mpr ⟨fun _ => rfl, List.forall_mem_cons.mpr ⟨fun _ => rfl, List.forall_mem_cons.mpr ⟨fun _ => rfl, List.forall_mem_cons.mpr ⟨fun _ => rfl, List.forall_mem_cons.mpr ⟨fun _ => rfl, List.forall_mem_cons.mpr ⟨fun _ => rfl, List.forall_mem_cons.mpr ⟨fun _ => rfl, fun _ h => absurd h List.not_mem_nil⟩⟩⟩⟩⟩⟩⟩⟩⟩, List.forall_mem_cons.mpr ⟨List.forall_mem_cons.mpr ⟨fun _ => rfl, List.forall_mem_cons.mpr ⟨fun _ => rfl, List.forall_mem_cons.mpr ⟨fun _ => rfl, List.forall_mem_cons.mpr ⟨fun _ => rfl, List.forall_mem_cons.mpr ⟨fun _ => rfl, List.forall_mem_cons.mpr ⟨fun z => absurd z (by decide), fun _ h => absurd h List.not_mem_nil⟩⟩⟩⟩⟩⟩, fun _ h => absurd h List.not_mem_nil⟩⟩⟩
theorem rxk_15 : rx_cm rx_X rx_P rxm_15 = true := by decide +kernel
theorem rxq_15 : rx_cq rxm_15 = true := by decide +kernel
theorem rxs_15 : rx_ST rx_P (rx_DF, rx_FK) rxm_15 := rx_cm_ok rxc_all rxk_15 rxh_15
theorem rxh_16 : ∀ ch ∈ rx_cd rxm_16, ∀ x ∈ ch, x.2.1 = 0 → x.2.2.1 = rx_sem x.2.2.2.1 := List.forall_mem_cons.mpr ⟨List.forall_mem_cons.mpr ⟨fun _ => rfl, List.forall_mem_cons.mpr ⟨fun _ => rfl, List.forall_mem_cons.mpr ⟨fun _ => rfl, List.forall_mem_cons.mpr ⟨fun _ => rfl, List.forall_mem_cons.mpr ⟨fun _ => rfl, List.forall_mem_cons.mpr ⟨fun _ => rfl, List.forall_mem_cons.mpr ⟨fun _ => rfl, List.forall_mem_cons.mpr ⟨fun _ => rfl, List.forall_mem_cons.mpr ⟨fun _ => rfl, fun _ h => absurd h List.not_mem_nil⟩⟩⟩⟩⟩⟩⟩⟩⟩, List.forall_mem_cons.mpr ⟨List.forall_mem_cons.mpr ⟨fun _ => rfl, List.forall_mem_cons.mpr ⟨fun _ => rfl, List.forall_mem_cons.mpr ⟨fun _ => rfl, List.forall_mem_cons.mpr ⟨fun z => absurd z (by decide), fun _ h => absurd h List.not_mem_nil⟩⟩⟩⟩, fun _ h => absurd h List.not_mem_nil⟩⟩
theorem rxk_16 : rx_cm rx_X rx_P rxm_16 = true := by decide +kernel
theorem rxq_16 : rx_cq rxm_16 = true := by decide +kernel
theorem rxs_16 : rx_ST rx_P (rx_DF, rx_FK) rxm_16 := rx_cm_ok rxc_all rxk_16 rxh_16
theorem rxh_17 : ∀ ch ∈ rx_cd rxm_17, ∀ x ∈ ch, x.2.1 = 0 → x.2.2.1 = rx_sem x.2.2.2.1 := List.forall_mem_cons.mpr ⟨List.forall_mem_cons.mpr ⟨fun _ => rfl, List.forall_mem_cons.mpr ⟨fun _ => rfl, List.forall_mem_cons.mpr ⟨fun _ => rfl, List.forall_mem_cons.mpr ⟨fun _ => rfl, List.forall_mem_cons.mpr ⟨fun _ => rfl, List.forall_mem_cons.mpr ⟨fun _ => rfl, List.forall_mem_cons.mpr ⟨fun _ => rfl, List.forall_mem_cons.mpr ⟨fun _ => rfl, List.forall_mem_cons.mpr ⟨fun _ => rfl, List.forall_mem_cons.mpr ⟨fun _ => rfl, List.forall_mem_cons.mpr ⟨fun _ => rfl, fun _ h => absurd h List.not_mem_nil⟩⟩⟩⟩⟩⟩⟩⟩⟩⟩⟩, List.forall_mem_cons.mpr ⟨List.forall_mem_cons.mpr ⟨fun _ => rfl, List.forall_mem_cons.mpr ⟨fun _ => rfl, List.forall_mem_cons.mpr ⟨fun _ => rfl, List.forall_mem_cons.mpr ⟨fun _ => rfl, List.forall_mem_cons.mpr ⟨fun _ => rfl, List.forall_mem_cons.mpr ⟨fun z => absurd z (by decide), fun _ h => absurd h List.not_mem_nil⟩⟩⟩⟩⟩⟩, fun _ h => absurd h List.not_mem_nil⟩⟩
theorem rxk_17 : rx_cm rx_X rx_P rxm_17 = true := by decide +kernel
theorem rxq_17 : rx_cq rxm_17 = true := by decide +kernel
theorem rxs_17 : rx_ST rx_P (rx_DF, rx_FK) rxm_17 := rx_cm_ok rxc_all rxk_17 rxh_17
theorem rxh_18 : ∀ ch ∈ rx_cd rxm_18, ∀ x ∈ ch, x.2.1 = 0 → x.2.2.1 = rx_sem x.2.2.2.1 := List.forall_mem_cons.mpr ⟨List.forall_mem_cons.mpr ⟨fun _ => rfl, List.forall_mem_cons.mpr ⟨fun _ => rfl, List.forall_mem_cons.mpr ⟨fun _ => rfl, List.forall_mem_cons.mpr ⟨fun _ => rfl, List.forall_mem_cons.mpr ⟨fun _ => rfl, List.forall_mem_cons.mpr ⟨fun _ => rfl, List.forall_mem_cons.mpr ⟨fun z => absurd z (by decide), fun _ h => absurd h List.not_mem_nil⟩⟩⟩⟩⟩⟩⟩, fun _ h => absurd h List.not_mem_nil⟩
theorem rxk_18 : rx_cm rx_X rx_P rxm_18 = true := by decide +kernel
theorem rxq_18 : rx_cq rxm_18 = true := by decide +kernel
theorem rxs_18 : rx_ST rx_P (rx_DF, rx_FK) rxm_18 := rx_cm_ok rxc_all rxk_18 rxh_18
theorem rxh_19 : ∀ ch ∈ rx_cd rxm_19, ∀ x ∈ ch, x.2.1 = 0 → x.2.2.1 = rx_sem x.2.2.2.1 := List.forall_mem_cons.mpr ⟨List.forall_mem_cons.mpr ⟨fun _ => rfl, List.forall_mem_cons.mpr ⟨fun _ => rfl, List.forall_mem_cons.mpr ⟨fun _ => rfl, List.forall_mem_cons.mpr ⟨fun _ => rfl, List.forall_mem_cons.mpr ⟨fun _ => rfl, List.forall_mem_cons.mpr ⟨fun _ => rfl, List.forall_mem_cons.mpr ⟨fun _ => rfl, List.forall_mem_cons.mpr ⟨fun _ => rfl, fun _ h => absurd h List.not_mem_nil⟩⟩⟩⟩⟩⟩⟩⟩, List.forall_mem_cons.mpr ⟨List.forall_mem_cons.mpr ⟨fun z => absurd z (by decide), List.forall_mem_cons.mpr ⟨fun _ => rfl, List.forall_mem_cons.mpr ⟨fun _ => rfl, List.forall_mem_cons.mpr ⟨fun _ => rfl, List.forall_mem_cons.mpr ⟨fun _ => rfl, List.forall_mem_cons.mpr ⟨fun _ => rfl, List.forall_mem_cons.mpr ⟨fun z => absurd z (by decide), fun _ h => absurd h List.not_mem_nil⟩⟩⟩⟩⟩⟩⟩, fun _ h => absurd h List.not_mem_nil⟩⟩
theorem rxk_19 : rx_cm rx_X rx_P rxm_19 = true := by decide +kernel
theorem rxq_19 : rx_cq rxm_19 = true := by decide +kernel
theorem rxs_19 : rx_ST rx_P (rx_DF, rx_FK) rxm_19 := rx_cm_ok rxc_all rxk_19 rxh_19
theorem rxh_20 : ∀ ch ∈ rx_cd rxm_20, ∀ x ∈ ch, x.2.1 = 0 → x.2.2.1 = rx_sem x.2.2.2.1 := List.forall_mem_cons.mpr ⟨List.forall_mem_cons.mpr ⟨fun _ => rfl, List.forall_mem_cons.mpr ⟨fun _ => rfl, List.forall_mem_cons.mpr ⟨fun _ => rfl, List.forall_mem_cons.mpr ⟨fun _ => rfl, List.forall_mem_cons.mpr ⟨fun _ => rfl, List.forall_mem_cons.mpr ⟨fun z => absurd z (by decide), List.forall_mem_cons.mpr ⟨fun _ => rfl, List.forall_mem_cons.mpr ⟨fun _ => rfl, List.forall_mem_cons.mpr ⟨fun _ => rfl, fun _ h => absurd h List.not_mem_nil⟩⟩⟩⟩⟩⟩⟩⟩⟩, List.forall_mem_cons.mpr ⟨List.forall_mem_cons.mpr ⟨fun _ => rfl, List.forall_mem_cons.mpr ⟨fun _ => rfl, List.forall_mem_cons.mpr ⟨fun _ => rfl, List.forall_mem_cons.mpr ⟨fun _ => rfl, List.forall_mem_cons.mpr ⟨fun _ => rfl, List.forall_mem_cons.mpr ⟨fun z => absurd z (by decide), fun _ h => absurd h List.not_mem_nil⟩⟩⟩⟩⟩⟩, fun _ h => absurd h List.not_mem_nil⟩⟩
theorem rxk_20 : rx_cm rx_X rx_P rxm_20 = true := by decide +kernel
theorem rxq_20 : rx_cq rxm_20 = true := by decide +kernel
theorem rxs_20 : rx_ST rx_P (rx_DF, rx_FK) rxm_20 := rx_cm_ok rxc_all rxk_20 rxh_20
theorem rxh_21 : ∀ ch ∈ rx_cd rxm_21, ∀ x ∈ ch, x.2.1 = 0 → x.2.2.1 = rx_sem x.2.2.2.1 := List.forall_mem_cons.mpr ⟨List.forall_mem_cons.mpr ⟨fun _ => rfl, List.forall_mem_cons.mpr ⟨fun _ => rfl, List.forall_mem_cons.mpr ⟨fun _ => rfl, List.forall_mem_cons.mpr ⟨fun _ => rfl, fun _ h => absurd h List.not_mem_nil⟩⟩⟩⟩, List.forall_mem_cons.mpr ⟨List.forall_mem_cons.mpr ⟨fun _ => rfl, List.forall_mem_cons.mpr ⟨fun z => absurd z (by decide), fun _ h => absurd h List.not_mem_nil⟩⟩, fun _ h => absurd h List.not_mem_nil⟩⟩
theorem rxk_21 : rx_cm rx_X rx_P rxm_21 = true := by decide +kernel
theorem rxq_21 : rx_cq rxm_21 = true := by decide +kernel
theorem rxs_21 : rx_ST rx_P (rx_DF, rx_FK) rxm_21 := rx_cm_ok rxc_all rxk_21 rxh_21
theorem rxh_22 : ∀ ch ∈ rx_cd rxm_22, ∀ x ∈ ch, x.2.1 = 0 → x.2.2.1 = rx_sem x.2.2.2.1 := List.forall_mem_cons.mpr ⟨List.forall_mem_cons.mpr ⟨fun _ => rfl, List.forall_mem_cons.mpr ⟨fun _ => rfl, List.forall_mem_cons.mpr ⟨fun _ => rfl, List.forall_mem_cons.mpr ⟨fun _ => rfl, List.forall_mem_cons.mpr ⟨fun _ => rfl, List.forall_mem_cons.mpr ⟨fun z => absurd z (by decide), fun _ h => absurd h List.not_mem_nil⟩⟩⟩⟩⟩⟩, fun _ h => absurd h List.not_mem_nil⟩
theorem rxk_22 : rx_cm rx_X rx_P rxm_22 = true := by decide +kernel
theorem rxq_22 : rx_cq rxm_22 = true := by decide +kernel
theorem rxs_22 : rx_ST rx_P (rx_DF, rx_FK) rxm_22 := rx_cm_ok rxc_all rxk_22 rxh_22
theorem rxh_23 : ∀ ch ∈ rx_cd rxm_23, ∀ x ∈ ch, x.2.1 = 0 → x.2.2.1 = rx_sem x.2.2.2.1 := List.forall_mem_cons.mpr ⟨List.forall_mem_cons.mpr ⟨fun _ => rfl, List.forall_mem_cons.mpr ⟨fun _ => rfl, List.forall_mem_cons.mpr ⟨fun _ => rfl, List.forall_mem_cons.mpr ⟨fun _ => rfl, List.forall_mem_cons.mpr ⟨fun _ => rfl, List.forall_mem_cons.mpr ⟨fun z => absurd z (by decide), fun _ h => absurd h List.not_mem_nil⟩⟩⟩⟩⟩⟩, fun _ h => absurd h List.not_mem_nil⟩
theorem rxk_23 : rx_cm rx_X rx_P rxm_23 = true := by decide +kernel
theorem rxq_23 : rx_cq rxm_23 = true := by decide +kernel
theorem rxs_23 : rx_ST rx_P (rx_DF, rx_FK) rxm_23 := rx_cm_ok rxc_all rxk_23 rxh_23
theorem rxh_24 : ∀ ch ∈ rx_cd rxm_24, ∀ x ∈ ch, x.2.1 = 0 → x.2.2.1 = rx_sem x.2.2.2.1 := List.forall_mem_cons.mpr ⟨List.forall_mem_cons.mpr ⟨fun _ => rfl, List.forall_mem_cons.mpr ⟨fun _ => rfl, List.forall_mem_cons.mpr ⟨fun _ => rfl, List.forall_mem_cons.mpr ⟨fun _ => rfl, fun _ h => absurd h List.not_mem_nil⟩⟩⟩⟩, List.forall_mem_cons.mpr ⟨List.forall_mem_cons.mpr ⟨fun _ => rfl, List.forall_mem_cons.mpr ⟨fun z => absurd z (by decide), fun _ h => absurd h List.not_mem_nil⟩⟩, fun _ h => absurd h List.not_mem_nil⟩⟩
theorem rxk_24 : rx_cm rx_X rx_P rxm_24 = true := by decide +kernel
theorem rxq_24 : rx_cq rxm_24 = true := by decide +kernel
theorem rxs_24 : rx_ST rx_P (rx_DF, rx_FK) rxm_24 := rx_cm_ok rxc_all rxk_24 rxh_24
theorem rxh_25 : ∀ ch ∈ rx_cd rxm_25, ∀ x ∈ ch, x.2.1 = 0 → x.2.2.1 = rx_sem x.2.2.2.1 := List.forall_mem_cons.mpr ⟨List.forall_mem_cons.mpr ⟨fun _ => rfl, List.forall_mem_cons.mpr ⟨fun _ => rfl, List.forall_mem_cons.mpr ⟨fun _ => rfl, List.forall_mem_cons.mpr ⟨fun _ => rfl, fun _ h => absurd h List.not_mem_nil⟩⟩⟩⟩, List.forall_mem_cons.mpr ⟨List.forall_mem_cons.mpr ⟨fun _ => rfl, List.forall_mem_cons.mpr ⟨fun z => absurd z (by decide), fun _ h => absurd h List.not_mem_nil⟩⟩, fun _ h => absurd h List.not_mem_nil⟩⟩
theorem rxk_25 : rx_cm rx_X rx_P rxm_25 = true := by decide +kernel
theorem rxq_25 : rx_cq rxm_25 = true := by decide +kernel
theorem rxs_25 : rx_ST rx_P (rx_DF, rx_FK) rxm_25 := rx_cm_ok rxc_all rxk_25 rxh_25
theorem rxh_26 : ∀ ch ∈ rx_cd rxm_26, ∀ x ∈ ch, x.2.1 = 0 → x.2.2.1 = rx_sem x.2.2.2.1 := List.forall_mem_cons.mpr ⟨List.forall_mem_cons.mpr ⟨fun _ => rfl, List.forall_mem_cons.mpr ⟨fun _ => rfl, List.forall_mem_cons.mpr ⟨fun _ => rfl, List.forall_mem_cons.mpr ⟨fun _ => rfl, List.forall_mem_cons.mpr ⟨fun _ => rfl, List.forall_mem_cons.mpr ⟨fun _ => rfl, List.forall_mem_cons.mpr ⟨fun _ => rfl, List.forall_mem_cons.mpr ⟨fun _ => rfl, List.forall_mem_cons.mpr ⟨fun _ => rfl, List.forall_mem_cons.mpr ⟨fun _ => rfl, List.forall_mem_cons.mpr ⟨fun _ => rfl, fun _ h => absurd h List.not_mem_nil⟩⟩⟩⟩⟩⟩⟩⟩⟩⟩⟩, List.forall_mem_cons.mpr ⟨fun _ h => absurd h List.not_mem_nil, List.forall_mem_cons.mpr ⟨fun _ h => absurd h List.not_mem_nil, List.forall_mem_cons.mpr ⟨fun _ h => absurd h List.not_mem_nil, List.forall_mem_cons.mpr ⟨List.forall_mem_cons.mpr ⟨fun _ => rfl, List.forall_mem_cons.mpr ⟨fun z => absurd z (by decide), fun _ h => absurd h List.not_mem_nil⟩⟩, fun _ h => absurd h List.not_mem_nil⟩⟩⟩⟩⟩
theorem rxk_26 : rx_cm rx_X rx_P rxm_26 = true := by decide +kernel
theorem rxq_26 : rx_cq rxm_26 = true := by decide +kernel
theorem rxs_26 : rx_ST rx_P (rx_DF, rx_FK) rxm_26 := rx_cm_ok rxc_all rxk_26 rxh_26
theorem rxh_27 : ∀ ch ∈ rx_cd rxm_27, ∀ x ∈ ch, x.2.1 = 0 → x.2.2.1 = rx_sem x.2.2.2.1 := List.forall_mem_cons.mpr ⟨List.forall_mem_cons.mpr ⟨fun _ => rfl, List.forall_mem_cons.mpr ⟨fun _ => rfl, List.forall_mem_cons.mpr ⟨fun _ => rfl, List.forall_mem_cons.mpr ⟨fun _ => rfl, fun _ h => absurd h List.not_mem_nil⟩⟩⟩⟩, List.forall_mem_cons.mpr ⟨fun _ h => absurd h List.not_mem_nil, List.forall_mem_cons.mpr ⟨List.forall_mem_cons.mpr ⟨fun _ => rfl, List.forall_mem_cons.mpr ⟨fun z => absurd z (by decide), fun _ h => absurd h List.not_mem_nil⟩⟩, fun _ h => absurd h List.not_mem_nil⟩⟩⟩
theorem rxk_27 : rx_cm rx_X rx_P rxm_27 = true := by decide +kernel
theorem rxq_27 : rx_cq rxm_27 = true := by decide +kernel
theorem rxs_27 : rx_ST rx_P (rx_DF, rx_FK) rxm_27 := rx_cm_ok rxc_all rxk_27 rxh_27
theorem rxh_28 : ∀ ch ∈ rx_cd rxm_28, ∀ x ∈ ch, x.2.1 = 0 → x.2.2.1 = rx_sem x.2.2.2.1 := List.forall_mem_cons.mpr ⟨List.forall_mem_cons.mpr ⟨fun _ => rfl, List.forall_mem_cons.mpr ⟨fun _ => rfl, List.forall_mem_cons.mpr ⟨fun _ => rfl, List.forall_mem_cons.mpr ⟨fun _ => rfl, List.forall_mem_cons.mpr ⟨fun _ => rfl, List.forall_mem_cons.mpr ⟨fun _ => rfl, List.forall_mem_cons.mpr ⟨fun _ => rfl, List.forall_mem_cons.mpr ⟨fun _ => rfl, List.forall_mem_cons.mpr ⟨fun _ => rfl, List.forall_mem_cons.mpr ⟨fun _ => rfl, fun _ h => absurd h List.not_mem_nil⟩⟩⟩⟩⟩⟩⟩⟩⟩⟩, List.forall_mem_cons.mpr ⟨List.forall_mem_cons.mpr ⟨fun _ => rfl, List.forall_mem_cons.mpr ⟨fun z => absurd z (by decide), fun _ h => absurd h List.not_mem_nil⟩⟩, fun _ h => absurd h List.not_mem_nil⟩⟩
theorem rxk_28 : rx_cm rx_X rx_P rxm_28 = true := by decide +kernel
theorem rxq_28 : rx_cq rxm_28 = true := by decide +kernel
theorem rxs_28 : rx_ST rx_P (rx_DF, rx_FK) rxm_28 := rx_cm_ok rxc_all rxk_28 rxh_28
theorem rxh_29 : ∀ ch ∈ rx_cd rxm_29, ∀ x ∈ ch, x.2.1 = 0 → x.2.2.1 = rx_sem x.2.2.2.1 := List.forall_mem_cons.mpr ⟨List.forall_mem_cons.mpr ⟨fun _ => rfl, List.forall_mem_cons.mpr ⟨fun _ => rfl, List.forall_mem_cons.mpr ⟨fun _ => rfl, List.forall_mem_cons.mpr ⟨fun _ => rfl, List.forall_mem_cons.mpr ⟨fun _ => rfl, List.forall_mem_cons.mpr ⟨fun _ => rfl, List.forall_mem_cons.mpr ⟨fun _ => rfl, List.forall_mem_cons.mpr ⟨fun _ => rfl, List.forall_mem_cons.mpr ⟨fun _ => rfl, fun _ h => absurd h List.not_mem_nil⟩⟩⟩⟩⟩⟩⟩⟩⟩, List.forall_mem_cons.mpr ⟨fun _ h => absurd h List.not_mem_nil, List.forall_mem_cons.mpr ⟨fun _ h => absurd h List.not_mem_nil, List.forall_mem_cons.mpr ⟨fun _ h => absurd h List.not_mem_nil, List.forall_mem_cons.mpr ⟨List.forall_mem_cons.mpr ⟨fun _ => rfl, List.forall_mem_cons.mpr ⟨fun z => absurd z (by decide), fun _ h => absurd h List.not_mem_nil⟩⟩, fun _ h => absurd h List.not_mem_nil⟩⟩⟩⟩⟩
theorem rxk_29 : rx_cm rx_X rx_P rxm_29 = true := by decide +kernel
theorem rxq_29 : rx_cq rxm_29 = true := by decide +kernel
theorem rxs_29 : rx_ST rx_P (rx_DF, rx_FK) rxm_29 := rx_cm_ok rxc_all rxk_29 rxh_29
theorem rxh_30 : ∀ ch ∈ rx_cd rxm_30, ∀ x ∈ ch, x.2.1 = 0 → x.2.2.1 = rx_sem x.2.2.2.1 := List.forall_mem_cons.mpr ⟨List.forall_mem_cons.mpr ⟨fun _ => rfl, List.forall_mem_cons.mpr ⟨fun _ => rfl, List.forall_mem_cons.mpr ⟨fun _ => rfl, List.forall_mem_cons.mpr ⟨fun _ => rfl, List.forall_mem_cons.mpr ⟨fun _ => rfl, List.forall_mem_cons.mpr ⟨fun _ => rfl, List.forall_mem_cons.mpr ⟨fun _ => rfl, List.forall_mem_cons.mpr ⟨fun _ => rfl, List.forall_mem_cons.mpr ⟨fun _ => rfl, List.forall_mem_cons.mpr ⟨fun z => absurd z (by decide), fun _ h => absurd h List.not_mem_nil⟩⟩⟩⟩⟩⟩⟩⟩⟩⟩, fun _ h => absurd h List.not_mem_nil⟩
theorem rxk_30 : rx_cm rx_X rx_P rxm_30 = true := by decide +kernel
theorem rxq_30 : rx_cq rxm_30 = true := by decide +kernel
theorem rxs_30 : rx_ST rx_P (rx_DF, rx_FK) rxm_30 := rx_cm_ok rxc_all rxk_30 rxh_30
theorem rxh_31 : ∀ ch ∈ rx_cd rxm_31, ∀ x ∈ ch, x.2.1 = 0 → x.2.2.1 = rx_sem x.2.2.2.1 := List.forall_mem_cons.mpr ⟨List.forall_mem_cons.mpr ⟨fun _ => rfl, List.forall_mem_cons.mpr ⟨fun _ => rfl, List.forall_mem_cons.mpr ⟨fun _ => rfl, List.forall_mem_cons.mpr ⟨fun _ => rfl, List.forall_mem_cons.mpr ⟨fun _ => rfl, List.forall_mem_cons.mpr ⟨fun _ => rfl, List.forall_mem_cons.mpr ⟨fun _ => rfl, fun _ h => absurd h List.not_mem_nil⟩⟩⟩⟩⟩⟩⟩, List.forall_mem_cons.mpr ⟨List.forall_mem_cons.mpr ⟨fun _ => rfl, List.forall_mem_cons.mpr ⟨fun _ => rfl, List.forall_mem_cons.mpr ⟨fun _ => rfl, List.forall_mem_cons.mpr ⟨fun _ => rfl, List.forall_mem_cons.mpr ⟨fun _ => rfl, List.forall_mem_cons.mpr ⟨fun _ => rfl, List.forall_mem_cons.mpr ⟨fun _ => rfl, List.forall_mem_cons.mpr ⟨fun _ => rfl, fun _ h => absurd h List.not_mem_nil⟩⟩⟩⟩⟩⟩⟩⟩, List.forall_mem_cons.mpr ⟨List.forall_mem_cons.mpr ⟨fun _ => rfl, List.forall_mem_cons.mpr ⟨fun _ => rfl, List.forall_mem_cons.mpr ⟨fun _ => rfl, List.forall_mem_cons.mpr ⟨fun _ => rfl, List.forall_mem_cons.mpr ⟨fun _ => rfl, List.forall_mem_cons.mpr ⟨fun _ => rfl, List.forall_mem_cons.mpr ⟨fun _ => rfl, fun _ h => absurd h List.not_mem_nil⟩⟩⟩⟩⟩⟩⟩, List.forall_mem_cons.mpr ⟨List.forall_mem_cons.mpr ⟨fun _ => rfl, List.forall_mem_cons.mpr ⟨fun _ => rfl, List.forall_mem_cons.mpr ⟨fun _ => rfl, List.forall_mem_cons.mpr ⟨fun _ => rfl, List.forall_mem_cons.mpr ⟨fun _ => rfl, List.forall_mem_cons.mpr ⟨fun _ => rfl, List.forall_mem_cons.mpr ⟨fun _ => rfl, fun _ h => absurd h List.not_mem_nil⟩⟩⟩⟩⟩⟩⟩, List.forall_mem_cons.mpr ⟨List.forall_mem_cons.mpr ⟨fun _ => rfl, List.forall_mem_cons.mpr ⟨fun _ => rfl, List.forall_mem_cons.mpr ⟨fun _ => rfl, List.forall_mem_cons.mpr ⟨fun _ => rfl, List.forall_mem_cons.mpr ⟨fun _ => rfl, List.forall_mem_cons.mpr ⟨fun _ => rfl, List.forall_mem_cons.mpr ⟨fun _ => rfl, List.forall_mem_cons.mpr ⟨fun _ => rfl, fun _ h => absurd h List.not_mem_nil⟩⟩⟩⟩⟩⟩⟩⟩, List.forall_mem_cons.mpr ⟨List.forall_mem_cons.mpr ⟨fun _ => rfl, List.forall_mem_cons.mpr ⟨fun _ => rfl, List.forall_mem_cons.mpr ⟨fun _ => rfl, List.forall_mem_cons.mpr ⟨fun _ => rfl, List.forall_mem_cons.mpr ⟨fun _ => rfl, List.forall_mem_cons.mpr ⟨fun _ => rfl, List.forall_mem_cons.mpr ⟨fun _ => rfl, List.forall_mem_cons.mpr ⟨fun _ => rfl, List.forall_mem_cons.mpr ⟨fun _ => rfl, List.forall_mem_cons.mpr ⟨fun _ => rfl, fun _ h => absurd h List.not_mem_nil⟩⟩⟩⟩⟩⟩⟩⟩⟩⟩, List.forall_mem_cons.mpr ⟨List.forall_mem_cons.mpr ⟨fun _ => rfl, List.forall_mem_cons.mpr ⟨fun _ => rfl, List.forall_mem_cons.mpr ⟨fun _ => rfl, List.forall_mem_cons.mpr ⟨fun _ => rfl, List.forall_mem_cons.mpr ⟨fun _ => rfl, List.forall_mem_cons.mpr ⟨fun _ => rfl, List.forall_mem_cons.mpr ⟨fun _ => rfl, List.forall_mem_cons.mpr ⟨fun _ => rfl, List.forall_mem_cons.mpr ⟨fun _ => rfl, fun _ h => absurd h List.not_mem_nil⟩⟩⟩⟩⟩⟩⟩⟩⟩, List.forall_mem_cons.mpr ⟨List.forall_mem_cons.mpr ⟨fun _ => rfl, List.forall_mem_cons.mpr ⟨fun _ => rfl, List.forall_mem_cons.mpr ⟨fun _ => rfl, List.forall_mem_cons.mpr ⟨fun _ => rfl, List.forall_mem_cons.mpr ⟨fun z => absurd z (by decide), fun _ h => absurd h List.not_mem_nil⟩⟩⟩⟩⟩, fun _ h => absurd h List.not_mem_nil⟩⟩⟩⟩⟩⟩⟩⟩
theorem rxk_31 : rx_cm rx_X rx_P rxm_31 = true := by decide +kernel
theorem rxq_31 : rx_cq rxm_31 = true := by decide +kernel
theorem rxs_31 : rx_ST rx_P (rx_DF, rx_FK) rxm_31 := rx_cm_ok rxc_all rxk_31 rxh_31
theorem rxh_32 : ∀ ch ∈ rx_cd rxm_32, ∀ x ∈ ch, x.2.1 = 0 → x.2.2.1 = rx_sem x.2.2.2.1 := List.forall_mem_cons.mpr ⟨List.forall_mem_cons.mpr ⟨fun _ => rfl, List.forall_mem_cons.mpr ⟨fun _ => rfl, List.forall_mem_cons.mpr ⟨fun _ => rfl, List.forall_mem_cons.mpr ⟨fun _ => rfl, List.forall_mem_cons.mpr ⟨fun _ => rfl, List.forall_mem_cons.mpr ⟨fun _ => rfl, List.forall_mem_cons.mpr ⟨fun _ => rfl, List.forall_mem_cons.mpr ⟨fun z => absurd z (by decide), List.forall_mem_cons.mpr ⟨fun _ => rfl, List.forall_mem_cons.mpr ⟨fun _ => rfl, fun _ h => absurd h List.not_mem_nil⟩⟩⟩⟩⟩⟩⟩⟩⟩⟩, List.forall_mem_cons.mpr ⟨List.forall_mem_cons.mpr ⟨fun _ => rfl, List.forall_mem_cons.mpr ⟨fun _ => rfl, List.forall_mem_cons.mpr ⟨fun z => absurd z (by decide), fun _ h => absurd h List.not_mem_nil⟩⟩⟩, fun _ h => absurd h List.not_mem_nil⟩⟩
theorem rxk_32 : rx_cm rx_X rx_P rxm_32 = true := by decide +kernel
theorem rxq_32 : rx_cq rxm_32 = true := by decide +kernel
theorem rxs_32 : rx_ST rx_P (rx_DF, rx_FK) rxm_32 := rx_cm_ok rxc_all rxk_32 rxh_32
theorem rxh_33 : ∀ ch ∈ rx_cd rxm_33, ∀ x ∈ ch, x.2.1 = 0 → x.2.2.1 = rx_sem x.2.2.2.1 := List.forall_mem_cons.mpr ⟨List.forall_mem_cons.mpr ⟨fun _ => rfl, List.forall_mem_cons.mpr ⟨fun _ => rfl, List.forall_mem_cons.mpr ⟨fun _ => rfl, List.forall_mem_cons.mpr ⟨fun _ => rfl, fun _ h => absurd h List.not_mem_nil⟩⟩⟩⟩, List.forall_mem_cons.mpr ⟨List.forall_mem_cons.mpr ⟨fun _ => rfl, List.forall_mem_cons.mpr ⟨fun z => absurd z (by decide), fun _ h => absurd h List.not_mem_nil⟩⟩, fun _ h => absurd h List.not_mem_nil⟩⟩
theorem rxk_33 : rx_cm rx_X rx_P rxm_33 = true := by decide +kernel
theorem rxq_33 : rx_cq rxm_33 = true := by decide +kernel
theorem rxs_33 : rx_ST rx_P (rx_DF, rx_FK) rxm_33 := rx_cm_ok rxc_all rxk_33 rxh_33
theorem rxh_34 : ∀ ch ∈ rx_cd rxm_34, ∀ x ∈ ch, x.2.1 = 0 → x.2.2.1 = rx_sem x.2.2.2.1 := List.forall_mem_cons.mpr ⟨List.forall_mem_cons.mpr ⟨fun _ => rfl, List.forall_mem_cons.mpr ⟨fun _ => rfl, List.forall_mem_cons.mpr ⟨fun _ => rfl, List.forall_mem_cons.mpr ⟨fun _ => rfl, fun _ h => absurd h List.not_mem_nil⟩⟩⟩⟩, List.forall_mem_cons.mpr ⟨fun _ h => absurd h List.not_mem_nil, List.forall_mem_cons.mpr ⟨List.forall_mem_cons.mpr ⟨fun _ => rfl, List.forall_mem_cons.mpr ⟨fun z => absurd z (by decide), fun _ h => absurd h List.not_mem_nil⟩⟩, fun _ h => absurd h List.not_mem_nil⟩⟩⟩
theorem rxk_34 : rx_cm rx_X rx_P rxm_34 = true := by decide +kernel
theorem rxq_34 : rx_cq rxm_34 = true := by decide +kernel
theorem rxs_34 : rx_ST rx_P (rx_DF, rx_FK) rxm_34 := rx_cm_ok rxc_all rxk_34 rxh_34
theorem rxh_35 : ∀ ch ∈ rx_cd rxm_35, ∀ x ∈ ch, x.2.1 = 0 → x.2.2.1 = rx_sem x.2.2.2.1 := List.forall_mem_cons.mpr ⟨List.forall_mem_cons.mpr ⟨fun _ => rfl, List.forall_mem_cons.mpr ⟨fun _ => rfl, List.forall_mem_cons.mpr ⟨fun _ => rfl, List.forall_mem_cons.mpr ⟨fun _ => rfl, List.forall_mem_cons.mpr ⟨fun _ => rfl, List.forall_mem_cons.mpr ⟨fun _ => rfl, List.forall_mem_cons.mpr ⟨fun _ => rfl, List.forall_mem_cons.mpr ⟨fun _ => rfl, List.forall_mem_cons.mpr ⟨fun _ => rfl, List.forall_mem_cons.mpr ⟨fun _ => rfl, List.forall_mem_cons.mpr ⟨fun _ => rfl, List.forall_mem_cons.mpr ⟨fun _ => rfl, fun _ h => absurd h List.not_mem_nil⟩⟩⟩⟩⟩⟩⟩⟩⟩⟩⟩⟩, List.forall_mem_cons.mpr ⟨List.forall_mem_cons.mpr ⟨fun _ => rfl, List.forall_mem_cons.mpr ⟨fun _ => rfl, List.forall_mem_cons.mpr ⟨fun _ => rfl, List.forall_mem_cons.mpr ⟨fun _ => rfl, List.forall_mem_cons.mpr ⟨fun _ => rfl, List.forall_mem_cons.mpr ⟨fun _ => rfl, List.forall_mem_cons.mpr ⟨fun _ => rfl, List.forall_mem_cons.mpr ⟨fun _ => rfl, List.forall_mem_cons.mpr ⟨fun _ => rfl, List.forall_mem_cons.mpr ⟨fun _ => rfl, fun _ h => absurd h List.not_mem_nil⟩⟩⟩⟩⟩⟩⟩⟩⟩⟩, List.forall_mem_cons.mpr ⟨List.forall_mem_cons.mpr ⟨fun _ => rfl, List.forall_mem_cons.mpr ⟨fun _ => rfl, List.forall_mem_cons.mpr ⟨fun _ => rfl, List.forall_mem_cons.mpr ⟨fun _ => rfl, List.forall_mem_cons.mpr ⟨fun _ => rfl, List.forall_mem_cons.mpr ⟨fun _ => rfl, List.forall_mem_cons.mpr ⟨fun _ => rfl, List.forall_mem_cons.mpr ⟨fun _ => rfl, List.forall_mem_cons.mpr ⟨fun z => absurd z (by decide), fun _ h => absurd h List.not_mem_nil⟩⟩⟩⟩⟩⟩⟩⟩⟩, fun _ h => absurd h List.not_mem_nil⟩⟩⟩
theorem rxk_35 : rx_cm rx_X rx_P rxm_35 = true := by decide +kernel
theorem rxq_35 : rx_cq rxm_35 = true := by decide +kernel
theorem rxs_35 : rx_ST rx_P (rx_DF, rx_FK) rxm_35 := rx_cm_ok rxc_all rxk_35 rxh_35
theorem rxh_36 : ∀ ch ∈ rx_cd rxm_36, ∀ x ∈ ch, x.2.1 = 0 → x.2.2.1 = rx_sem x.2.2.2.1 := List.forall_mem_cons.mpr ⟨List.forall_mem_cons.mpr ⟨fun _ => rfl, List.forall_mem_cons.mpr ⟨fun _ => rfl, List.forall_mem_cons.mpr ⟨fun _ => rfl, List.forall_mem_cons.mpr ⟨fun _ => rfl, List.forall_mem_cons.mpr ⟨fun _ => rfl, List.forall_mem_cons.mpr ⟨fun _ => rfl, List.forall_mem_cons.mpr ⟨fun _ => rfl, List.forall_mem_cons.mpr ⟨fun _ => rfl, fun _ h => absurd h List.not_mem_nil⟩⟩⟩⟩⟩⟩⟩⟩, List.forall_mem_cons.mpr ⟨List.forall_mem_cons.mpr ⟨fun _ => rfl, List.forall_mem_cons.mpr ⟨fun _ => rfl, List.forall_mem_cons.mpr ⟨fun _ => rfl, List.forall_mem_cons.mpr ⟨fun _ => rfl, List.forall_mem_cons.mpr ⟨fun z => absurd z (by decide), fun _ h => absurd h List.not_mem_nil⟩⟩⟩⟩⟩, fun _ h => absurd h List.not_mem_nil⟩⟩
theorem rxk_36 : rx_cm rx_X rx_P rxm_36 = true := by decide +kernel
theorem rxq_36 : rx_cq rxm_36 = true := by decide +kernel
theorem rxs_36 : rx_ST rx_P (rx_DF, rx_FK) rxm_36 := rx_cm_ok rxc_all rxk_36 rxh_36
theorem rxh_37 : ∀ ch ∈ rx_cd rxm_37, ∀ x ∈ ch, x.2.1 = 0 → x.2.2.1 = rx_sem x.2.2.2.1 := List.forall_mem_cons.mpr ⟨List.forall_mem_cons.mpr ⟨fun _ => rfl, List.forall_mem_cons.mpr ⟨fun _ => rfl, List.forall_mem_cons.mpr ⟨fun _ => rfl, List.forall_mem_cons.mpr ⟨fun _ => rfl, List.forall_mem_cons.mpr ⟨fun _ => rfl, List.forall_mem_cons.mpr ⟨fun z => absurd z (by decide), fun _ h => absurd h List.not_mem_nil⟩⟩⟩⟩⟩⟩, fun _ h => absurd h List.not_mem_nil⟩
theorem rxk_37 : rx_cm rx_X rx_P rxm_37 = true := by decide +kernel
theorem rxq_37 : rx_cq rxm_37 = true := by decide +kernel
theorem rxs_37 : rx_ST rx_P (rx_DF, rx_FK) rxm_37 := rx_cm_ok rxc_all rxk_37 rxh_37
theorem rxh_38 : ∀ ch ∈ rx_cd rxm_38, ∀ x ∈ ch, x.2.1 = 0 → x.2.2.1 = rx_sem x.2.2.2.1 := List.forall_mem_cons.mpr ⟨List.forall_mem_cons.mpr ⟨fun _ => rfl, List.forall_mem_cons.mpr ⟨fun _ => rfl, List.forall_mem_cons.mpr ⟨fun _ => rfl, List.forall_mem_cons.mpr ⟨fun _ => rfl, List.forall_mem_cons.mpr ⟨fun _ => rfl, List.forall_mem_cons.mpr ⟨fun z => absurd z (by decide), fun _ h => absurd h List.not_mem_nil⟩⟩⟩⟩⟩⟩, fun _ h => absurd h List.not_mem_nil⟩
theorem rxk_38 : rx_cm rx_X rx_P rxm_38 = true := by decide +kernel
theorem rxq_38 : rx_cq rxm_38 = true := by decide +kernel
theorem rxs_38 : rx_ST rx_P (rx_DF, rx_FK) rxm_38 := rx_cm_ok rxc_all rxk_38 rxh_38
theorem rxh_39 : ∀ ch ∈ rx_cd rxm_39, ∀ x ∈ ch, x.2.1 = 0 → x.2.2.1 = rx_sem x.2.2.2.1 := List.forall_mem_cons.mpr ⟨List.forall_mem_cons.mpr ⟨fun _ => rfl, List.forall_mem_cons.mpr ⟨fun _ => rfl, List.forall_mem_cons.mpr ⟨fun _ => rfl, List.forall_mem_cons.mpr ⟨fun _ => rfl, List.forall_mem_cons.mpr ⟨fun _ => rfl, List.forall_mem_cons.mpr ⟨fun _ => rfl, List.forall_mem_cons.mpr ⟨fun _ => rfl, List.forall_mem_cons.mpr ⟨fun _ => rfl, List.forall_mem_cons.mpr ⟨fun _ => rfl, List.forall_mem_cons.mpr ⟨fun _ => rfl, fun _ h => absurd h List.not_mem_nil⟩⟩⟩⟩⟩⟩⟩⟩⟩⟩, List.forall_mem_cons.mpr ⟨List.forall_mem_cons.mpr ⟨fun _ => rfl, List.forall_mem_cons.mpr ⟨fun _ => rfl, List.forall_mem_cons.mpr ⟨fun _ => rfl, List.forall_mem_cons.mpr ⟨fun _ => rfl, List.forall_mem_cons.mpr ⟨fun _ => rfl, List.forall_mem_cons.mpr ⟨fun z => absurd z (by decide), fun _ h => absurd h List.not_mem_nil⟩⟩⟩⟩⟩⟩, fun _ h => absurd h List.not_mem_nil⟩⟩
theorem rxk_39 : rx_cm rx_X rx_P rxm_39 = true := by decide +kernel
theorem rxq_39 : rx_cq rxm_39 = true := by decide +kernel
theorem rxs_39 : rx_ST rx_P (rx_DF, rx_FK) rxm_39 := rx_cm_ok rxc_all rxk_39 rxh_39
theorem rxh_40 : ∀ ch ∈ rx_cd rxm_40, ∀ x ∈ ch, x.2.1 = 0 → x.2.2.1 = rx_sem x.2.2.2.1 := List.forall_mem_cons.mpr ⟨List.forall_mem_cons.mpr ⟨fun _ => rfl, List.forall_mem_cons.mpr ⟨fun _ => rfl, List.forall_mem_cons.mpr ⟨fun _ => rfl, List.forall_mem_cons.mpr ⟨fun _ => rfl, List.forall_mem_cons.mpr ⟨fun _ => rfl, List.forall_mem_cons.mpr ⟨fun _ => rfl, List.forall_mem_cons.mpr ⟨fun _ => rfl, List.forall_mem_cons.mpr ⟨fun _ => rfl, List.forall_mem_cons.mpr ⟨fun _ => rfl, List.forall_mem_cons.mpr ⟨fun _ => rfl, fun _ h => absurd h List.not_mem_nil⟩⟩⟩⟩⟩⟩⟩⟩⟩⟩, List.forall_mem_cons.mpr ⟨List.forall_mem_cons.mpr ⟨fun _ => rfl, List.forall_mem_cons.mpr ⟨fun _ => rfl, List.forall_mem_cons.mpr ⟨fun _ => rfl, List.forall_mem_cons.mpr ⟨fun _ => rfl, List.forall_mem_cons.mpr ⟨fun _ => rfl, List.forall_mem_cons.mpr ⟨fun z => absurd z (by decide), fun _ h => absurd h List.not_mem_nil⟩⟩⟩⟩⟩⟩, fun _ h => absurd h List.not_mem_nil⟩⟩
theorem rxk_40 : rx_cm rx_X rx_P rxm_40 = true := by decide +kernel
theorem rxq_40 : rx_cq rxm_40 = true := by decide +kernel
theorem rxs_40 : rx_ST rx_P (rx_DF, rx_FK) rxm_40 := rx_cm_ok rxc_all rxk_40 rxh_40
theorem rxh_41 : ∀ ch ∈ rx_cd rxm_41, ∀ x ∈ ch, x.2.1 = 0 → x.2.2.1 = rx_sem x.2.2.2.1 := List.forall_mem_cons.mpr ⟨List.forall_mem_cons.mpr ⟨fun _ => rfl, List.forall_mem_cons.mpr ⟨fun _ => rfl, List.forall_mem_cons.mpr ⟨fun _ => rfl, List.forall_mem_cons.mpr ⟨fun _ => rfl, List.forall_mem_cons.mpr ⟨fun _ => rfl, List.forall_mem_cons.mpr ⟨fun _ => rfl, List.forall_mem_cons.mpr ⟨fun _ => rfl, List.forall_mem_cons.mpr ⟨fun _ => rfl, List.forall_mem_cons.mpr ⟨fun _ => rfl, List.forall_mem_cons.mpr ⟨fun _ => rfl, List.forall_mem_cons.mpr ⟨fun _ => rfl, fun _ h => absurd h List.not_mem_nil⟩⟩⟩⟩⟩⟩⟩⟩⟩⟩⟩, List.forall_mem_cons.mpr ⟨List.forall_mem_cons.mpr ⟨fun _ => rfl, List.forall_mem_cons.mpr ⟨fun _ => rfl, List.forall_mem_cons.mpr ⟨fun _ => rfl, List.forall_mem_cons.mpr ⟨fun _ => rfl, List.forall_mem_cons.mpr ⟨fun _ => rfl, List.forall_mem_cons.mpr ⟨fun _ => rfl, List.forall_mem_cons.mpr ⟨fun _ => rfl, List.forall_mem_cons.mpr ⟨fun _ => rfl, List.forall_mem_cons.mpr ⟨fun z => absurd z (by decide), fun _ h => absurd h List.not_mem_nil⟩⟩⟩⟩⟩⟩⟩⟩⟩, fun _ h => absurd h List.not_mem_nil⟩⟩
theorem rxk_41 : rx_cm rx_X rx_P rxm_41 = true := by decide +kernel
theorem rxq_41 : rx_cq rxm_41 = true := by decide +kernel
theorem rxs_41 : rx_ST rx_P (rx_DF, rx_FK) rxm_41 := rx_cm_ok rxc_all rxk_41 rxh_41
theorem rxh_42 : ∀ ch ∈ rx_cd rxm_42, ∀ x ∈ ch, x.2.1 = 0 → x.2.2.1 = rx_sem x.2.2.2.1 := List.forall_mem_cons.mpr ⟨List.forall_mem_cons.mpr ⟨fun _ => rfl, List.forall_mem_cons.mpr ⟨fun _ => rfl, List.forall_mem_cons.mpr ⟨fun _ => rfl, List.forall_mem_cons.mpr ⟨fun _ => rfl, List.forall_mem_cons.mpr ⟨fun z => absurd z (by decide), fun _ h => absurd h List.not_mem_nil⟩⟩⟩⟩⟩, fun _ h => absurd h List.not_mem_nil⟩
theorem rxk_42 : rx_cm rx_X rx_P rxm_42 = true := by decide +kernel
theorem rxq_42 : rx_cq rxm_42 = true := by decide +kernel
theorem rxs_42 : rx_ST rx_P (rx_DF, rx_FK) rxm_42 := rx_cm_ok rxc_all rxk_42 rxh_42
theorem rxh_43 : ∀ ch ∈ rx_cd rxm_43, ∀ x ∈ ch, x.2.1 = 0 → x.2.2.1 = rx_sem x.2.2.2.1 := List.forall_mem_cons.mpr ⟨List.forall_mem_cons.mpr ⟨fun _ => rfl, List.forall_mem_cons.mpr ⟨fun _ => rfl, List.forall_mem_cons.mpr ⟨fun _ => rfl, List.forall_mem_cons.mpr ⟨fun _ => rfl, List.forall_mem_cons.mpr ⟨fun z => absurd z (by decide), fun _ h => absurd h List.not_mem_nil⟩⟩⟩⟩⟩, fun _ h => absurd h List.not_mem_nil⟩
theorem rxk_43 : rx_cm rx_X rx_P rxm_43 = true := by decide +kernel
theorem rxq_43 : rx_cq rxm_43 = true := by decide +kernel
theorem rxs_43 : rx_ST rx_P (rx_DF, rx_FK) rxm_43 := rx_cm_ok rxc_all rxk_43 rxh_43
theorem rxh_44 : ∀ ch ∈ rx_cd rxm_44, ∀ x ∈ ch, x.2.1 = 0 → x.2.2.1 = rx_sem x.2.2.2.1 := List.forall_mem_cons.mpr ⟨List.forall_mem_cons.mpr ⟨fun _ => rfl, List.forall_mem_cons.mpr ⟨fun _ => rfl, List.forall_mem_cons.mpr ⟨fun _ => rfl, List.forall_mem_cons.mpr ⟨fun _ => rfl, List.forall_mem_cons.mpr ⟨fun _ => rfl, List.forall_mem_cons.mpr ⟨fun _ => rfl, List.forall_mem_cons.mpr ⟨fun _ => rfl, List.forall_mem_cons.mpr ⟨fun _ => rfl, List.forall_mem_cons.mpr ⟨fun _ => rfl, List.forall_mem_cons.mpr ⟨fun _ => rfl, List.forall_mem_cons.mpr ⟨fun _ => rfl, List.forall_mem_cons.mpr ⟨fun _ => rfl, fun _ h => absurd h List.not_mem_nil⟩⟩⟩⟩⟩⟩⟩⟩⟩⟩⟩⟩, List.forall_mem_cons.mpr ⟨List.forall_mem_cons.mpr ⟨fun _ => rfl, List.forall_mem_cons.mpr ⟨fun _ => rfl, List.forall_mem_cons.mpr ⟨fun _ => rfl, List.forall_mem_cons.mpr ⟨fun _ => rfl, List.forall_mem_cons.mpr ⟨fun _ => rfl, List.forall_mem_cons.mpr ⟨fun _ => rfl, List.forall_mem_cons.mpr ⟨fun _ => rfl, List.forall_mem_cons.mpr ⟨fun _ => rfl, List.forall_mem_cons.mpr ⟨fun _ => rfl, List.forall_mem_cons.mpr ⟨fun _ => rfl, List.forall_mem_cons.mpr ⟨fun _ => rfl, List.forall_mem_cons.mpr ⟨fun _ => rfl, fun _ h => absurd h List.not_mem_nil⟩⟩⟩⟩⟩⟩⟩⟩⟩⟩⟩⟩, List.forall_mem_cons.mpr ⟨List.forall_mem_cons.mpr ⟨fun _ => rfl, List.forall_mem_cons.mpr ⟨fun _ => rfl, List.forall_mem_cons.mpr ⟨fun _ => rfl, List.forall_mem_cons.mpr ⟨fun _ => rfl, List.forall_mem_cons.mpr ⟨fun _ => rfl, List.forall_mem_cons.mpr ⟨fun _ => rfl, List.forall_mem_cons.mpr ⟨fun _ => rfl, List.forall_mem_cons.mpr ⟨fun _ => rfl, List.forall_mem_cons.mpr ⟨fun _ => rfl, List.forall_mem_cons.mpr ⟨fun _ => rfl, List.forall_mem_cons.mpr ⟨fun _ => rfl, List.forall_mem_cons.mpr ⟨fun _ => rfl, List.forall_mem_cons.mpr ⟨fun _ => rfl, List.forall_mem_cons.mpr ⟨fun _ => rfl, fun _ h => absurd h List.not_mem_nil⟩⟩⟩⟩⟩⟩⟩⟩⟩⟩⟩⟩⟩⟩, List.forall_mem_cons.mpr ⟨List.forall_mem_cons.mpr ⟨fun _ => rfl, List.forall_mem_cons.mpr ⟨fun _ => rfl, List.forall_mem_cons.mpr ⟨fun _ => rfl, List.forall_mem_cons.mpr ⟨fun z => absurd z (by decide), fun _ h => absurd h List.not_mem_nil⟩⟩⟩⟩, fun _ h => absurd h List.not_mem_nil⟩⟩⟩⟩
theorem rxk_44 : rx_cm rx_X rx_P rxm_44 = true := by decide +kernel
theorem rxq_44 : rx_cq rxm_44 = true := by decide +kernel
theorem rxs_44 : rx_ST rx_P (rx_DF, rx_FK) rxm_44 := rx_cm_ok rxc_all rxk_44 rxh_44
theorem rxh_45 : ∀ ch ∈ rx_cd rxm_45, ∀ x ∈ ch, x.2.1 = 0 → x.2.2.1 = rx_sem x.2.2.2.1 := List.forall_mem_cons.mpr ⟨List.forall_mem_cons.mpr ⟨fun _ => rfl, List.forall_mem_cons.mpr ⟨fun z => absurd z (by decide), List.forall_mem_cons.mpr ⟨fun _ => rfl, List.forall_mem_cons.mpr ⟨fun _ => rfl, List.forall_mem_cons.mpr ⟨fun _ => rfl, List.forall_mem_cons.mpr ⟨fun _ => rfl, List.forall_mem_cons.mpr ⟨fun _ => rfl, List.forall_mem_cons.mpr ⟨fun _ => rfl, List.forall_mem_cons.mpr ⟨fun _ => rfl, fun _ h => absurd h List.not_mem_nil⟩⟩⟩⟩⟩⟩⟩⟩⟩, List.forall_mem_cons.mpr ⟨List.forall_mem_cons.mpr ⟨fun _ => rfl, List.forall_mem_cons.mpr ⟨fun _ => rfl, List.forall_mem_cons.mpr ⟨fun _ => rfl, List.forall_mem_cons.mpr ⟨fun _ => rfl, List.forall_mem_cons.mpr ⟨fun _ => rfl, List.forall_mem_cons.mpr ⟨fun _ => rfl, List.forall_mem_cons.mpr ⟨fun _ => rfl, List.forall_mem_cons.mpr ⟨fun _ => rfl, fun _ h => absurd h List.not_mem_nil⟩⟩⟩⟩⟩⟩⟩⟩, List.forall_mem_cons.mpr ⟨List.forall_mem_cons.mpr ⟨fun _ => rfl, List.forall_mem_cons.mpr ⟨fun _ => rfl, List.forall_mem_cons.mpr ⟨fun _ => rfl, List.forall_mem_cons.mpr ⟨fun _ => rfl, List.forall_mem_cons.mpr ⟨fun z => absurd z (by decide), fun _ h => absurd h List.not_mem_nil⟩⟩⟩⟩⟩, fun _ h => absurd h List.not_mem_nil⟩⟩⟩
theorem rxk_45 : rx_cm rx_X rx_P rxm_45 = true := by decide +kernel
theorem rxq_45 : rx_cq rxm_45 = true := by decide +kernel
theorem rxs_45 : rx_ST rx_P (rx_DF, rx_FK) rxm_45 := rx_cm_ok rxc_all rxk_45 rxh_45
theorem rxh_46 : ∀ ch ∈ rx_cd rxm_46, ∀ x ∈ ch, x.2.1 = 0 → x.2.2.1 = rx_sem x.2.2.2.1 := List.forall_mem_cons.mpr ⟨List.forall_mem_cons.mpr ⟨fun _ => rfl, List.forall_mem_cons.mpr ⟨fun _ => rfl, List.forall_mem_cons.mpr ⟨fun z => absurd z (by decide), List.forall_mem_cons.mpr ⟨fun _ => rfl, List.forall_mem_cons.mpr ⟨fun z => absurd z (by decide), fun _ h => absurd h List.not_mem_nil⟩⟩⟩⟩⟩, fun _ h => absurd h List.not_mem_nil⟩
theorem rxk_46 : rx_cm rx_X rx_P rxm_46 = true := by decide +kernel
theorem rxq_46 : rx_cq rxm_46 = true := by decide +kernel
theorem rxs_46 : rx_ST rx_P (rx_DF, rx_FK) rxm_46 := rx_cm_ok rxc_all rxk_46 rxh_46
theorem rxh_47 : ∀ ch ∈ rx_cd rxm_47, ∀ x ∈ ch, x.2.1 = 0 → x.2.2.1 = rx_sem x.2.2.2.1 := List.forall_mem_cons.mpr ⟨List.forall_mem_cons.mpr ⟨fun _ => rfl, List.forall_mem_cons.mpr ⟨fun _ => rfl, List.forall_mem_cons.mpr ⟨fun z => absurd z (by decide), List.forall_mem_cons.mpr ⟨fun _ => rfl, List.forall_mem_cons.mpr ⟨fun _ => rfl, List.forall_mem_cons.mpr ⟨fun _ => rfl, List.forall_mem_cons.mpr ⟨fun _ => rfl, List.forall_mem_cons.mpr ⟨fun _ => rfl, List.forall_mem_cons.mpr ⟨fun _ => rfl, List.forall_mem_cons.mpr ⟨fun _ => rfl, List.forall_mem_cons.mpr ⟨fun _ => rfl, fun _ h => absurd h List.not_mem_nil⟩⟩⟩⟩⟩⟩⟩⟩⟩⟩⟩, List.forall_mem_cons.mpr ⟨List.forall_mem_cons.mpr ⟨fun _ => rfl, fun _ h => absurd h List.not_mem_nil⟩, List.forall_mem_cons.mpr ⟨List.forall_mem_cons.mpr ⟨fun _ => rfl, List.forall_mem_cons.mpr ⟨fun z => absurd z (by decide), fun _ h => absurd h List.not_mem_nil⟩⟩, fun _ h => absurd h List.not_mem_nil⟩⟩⟩
theorem rxk_47 : rx_cm rx_X rx_P rxm_47 = true := by decide +kernel
theorem rxq_47 : rx_cq rxm_47 = true := by decide +kernel
theorem rxs_47 : rx_ST rx_P (rx_DF, rx_FK) rxm_47 := rx_cm_ok rxc_all rxk_47 rxh_47
theorem rxh_48 : ∀ ch ∈ rx_cd rxm_48, ∀ x ∈ ch, x.2.1 = 0 → x.2.2.1 = rx_sem x.2.2.2.1 := List.forall_mem_cons.mpr ⟨List.forall_mem_cons.mpr ⟨fun _ => rfl, List.forall_mem_cons.mpr ⟨fun z => absurd z (by decide), List.forall_mem_cons.mpr ⟨fun _ => rfl, List.forall_mem_cons.mpr ⟨fun _ => rfl, List.forall_mem_cons.mpr ⟨fun _ => rfl, List.forall_mem_cons.mpr ⟨fun _ => rfl, List.forall_mem_cons.mpr ⟨fun _ => rfl, List.forall_mem_cons.mpr ⟨fun _ => rfl, List.forall_mem_cons.mpr ⟨fun _ => rfl, fun _ h => absurd h List.not_mem_nil⟩⟩⟩⟩⟩⟩⟩⟩⟩, List.forall_mem_cons.mpr ⟨List.forall_mem_cons.mpr ⟨fun _ => rfl, List.forall_mem_cons.mpr ⟨fun _ => rfl, List.forall_mem_cons.mpr ⟨fun _ => rfl, List.forall_mem_cons.mpr ⟨fun _ => rfl, List.forall_mem_cons.mpr ⟨fun _ => rfl, List.forall_mem_cons.mpr ⟨fun _ => rfl, List.forall_mem_cons.mpr ⟨fun _ => rfl, List.forall_mem_cons.mpr ⟨fun _ => rfl, fun _ h => absurd h List.not_mem_nil⟩⟩⟩⟩⟩⟩⟩⟩, List.forall_mem_cons.mpr ⟨List.forall_mem_cons.mpr ⟨fun _ => rfl, List.forall_mem_cons.mpr ⟨fun _ => rfl, List.forall_mem_cons.mpr ⟨fun _ => rfl, List.forall_mem_cons.mpr ⟨fun _ => rfl, List.forall_mem_cons.mpr ⟨fun _ => rfl, List.forall_mem_cons.mpr ⟨fun _ => rfl, List.forall_mem_cons.mpr ⟨fun _ => rfl, List.forall_mem_cons.mpr ⟨fun _ => rfl, fun _ h => absurd h List.not_mem_nil⟩⟩⟩⟩⟩⟩⟩⟩, List.forall_mem_cons.mpr ⟨List.forall_mem_cons.mpr ⟨fun _ => rfl, List.forall_mem_cons.mpr ⟨fun _ => rfl, List.forall_mem_cons.mpr ⟨fun _ => rfl, List.forall_mem_cons.mpr ⟨fun _ => rfl, List.forall_mem_cons.mpr ⟨fun z => absurd z (by decide), fun _ h => absurd h List.not_mem_nil⟩⟩⟩⟩⟩, fun _ h => absurd h List.not_mem_nil⟩⟩⟩⟩
theorem rxk_48 : rx_cm rx_X rx_P rxm_48 = true := by decide +kernel
theorem rxq_48 : rx_cq rxm_48 = true := by decide +kernel
theorem rxs_48 : rx_ST rx_P (rx_DF, rx_FK) rxm_48 := rx_cm_ok rxc_all rxk_48 rxh_48
theorem rxh_49 : ∀ ch ∈ rx_cd rxm_49, ∀ x ∈ ch, x.2.1 = 0 → x.2.2.1 = rx_sem x.2.2.2.1 := List.forall_mem_cons.mpr ⟨List.forall_mem_cons.mpr ⟨fun _ => rfl, List.forall_mem_cons.mpr ⟨fun _ => rfl, List.forall_mem_cons.mpr ⟨fun _ => rfl, List.forall_mem_cons.mpr ⟨fun _ => rfl, List.forall_mem_cons.mpr ⟨fun _ => rfl, List.forall_mem_cons.mpr ⟨fun _ => rfl, List.forall_mem_cons.mpr ⟨fun _ => rfl, List.forall_mem_cons.mpr ⟨fun _ => rfl, fun _ h => absurd h List.not_mem_nil⟩⟩⟩⟩⟩⟩⟩⟩, List.forall_mem_cons.mpr ⟨List.forall_mem_cons.mpr ⟨fun _ => rfl, List.forall_mem_cons.mpr ⟨fun _ => rfl, List.forall_mem_cons.mpr ⟨fun _ => rfl, List.forall_mem_cons.mpr ⟨fun _ => rfl, List.forall_mem_cons.mpr ⟨fun _ => rfl, List.forall_mem_cons.mpr ⟨fun _ => rfl, List.forall_mem_cons.mpr ⟨fun _ => rfl, List.forall_mem_cons.mpr ⟨fun _ => rfl, fun _ h => absurd h List.not_mem_nil⟩⟩⟩⟩⟩⟩⟩⟩, List.forall_mem_cons.mpr ⟨List.forall_mem_cons.mpr ⟨fun _ => rfl, List.forall_mem_cons.mpr ⟨fun _ => rfl, List.forall_mem_cons.mpr ⟨fun _ => rfl, List.forall_mem_cons.mpr ⟨fun _ => rfl, List.forall_mem_cons.mpr ⟨fun _ => rfl, List.forall_mem_cons.mpr ⟨fun _ => rfl, List.forall_mem_cons.mpr ⟨fun _ => rfl, List.forall_mem_cons.mpr ⟨fun _ => rfl, fun _ h => absurd h List.not_mem_nil⟩⟩⟩⟩⟩⟩⟩⟩, List.forall_mem_cons.mpr ⟨List.forall_mem_cons.mpr ⟨fun _ => rfl, List.forall_mem_cons.mpr ⟨fun _ => rfl, List.forall_mem_cons.mpr ⟨fun _ => rfl, List.forall_mem_cons.mpr ⟨fun _ => rfl, List.forall_mem_cons.mpr ⟨fun _ => rfl, List.forall_mem_cons.mpr ⟨fun _ => rfl, List.forall_mem_cons.mpr ⟨fun _ => rfl, List.forall_mem_cons.mpr ⟨fun z => absurd z (by decide), List.forall_mem_cons.mpr ⟨fun _ => rfl, fun _ h => absurd h List.not_mem_nil⟩⟩⟩⟩⟩⟩⟩⟩⟩, List.forall_mem_cons.mpr ⟨List.forall_mem_cons.mpr ⟨fun _ => rfl, List.forall_mem_cons.mpr ⟨fun _ => rfl, List.forall_mem_cons.mpr ⟨fun _ => rfl, List.forall_mem_cons.mpr ⟨fun _ => rfl, List.forall_mem_cons.mpr ⟨fun _ => rfl, List.forall_mem_cons.mpr ⟨fun _ => rfl, List.forall_mem_cons.mpr ⟨fun z => absurd z (by decide), List.forall_mem_cons.mpr ⟨fun _ => rfl, List.forall_mem_cons.mpr ⟨fun _ => rfl, fun _ h => absurd h List.not_mem_nil⟩⟩⟩⟩⟩⟩⟩⟩⟩, List.forall_mem_cons.mpr ⟨List.forall_mem_cons.mpr ⟨fun _ => rfl, List.forall_mem_cons.mpr ⟨fun _ => rfl, List.forall_mem_cons.mpr ⟨fun _ => rfl, List.forall_mem_cons.mpr ⟨fun _ => rfl, List.forall_mem_cons.mpr ⟨fun _ => rfl, List.forall_mem_cons.mpr ⟨fun z => absurd z (by decide), List.forall_mem_cons.mpr ⟨fun _ => rfl, List.forall_mem_cons.mpr ⟨fun _ => rfl, fun _ h => absurd h List.not_mem_nil⟩⟩⟩⟩⟩⟩⟩⟩, List.forall_mem_cons.mpr ⟨List.forall_mem_cons.mpr ⟨fun _ => rfl, List.forall_mem_cons.mpr ⟨fun _ => rfl, List.forall_mem_cons.mpr ⟨fun _ => rfl, List.forall_mem_cons.mpr ⟨fun _ => rfl, List.forall_mem_cons.mpr ⟨fun _ => rfl, List.forall_mem_cons.mpr ⟨fun z => absurd z (by decide), List.forall_mem_cons.mpr ⟨fun _ => rfl, List.forall_mem_cons.mpr ⟨fun z => absurd z (by decide), fun _ h => absurd h List.not_mem_nil⟩⟩⟩⟩⟩⟩⟩⟩, List.forall_mem_cons.mpr ⟨List.forall_mem_cons.mpr ⟨fun z => absurd z (by decide), fun _ h => absurd h List.not_mem_nil⟩, fun _ h => absurd h List.not_mem_nil⟩⟩⟩⟩⟩⟩⟩⟩
theorem rxk_49 : rx_cm rx_X rx_P rxm_49 = true := by decide +kernel
theorem rxq_49 : rx_cq rxm_49 = true := by decide +kernel
theorem rxs_49 : rx_ST rx_P (rx_DF, rx_FK) rxm_49 := rx_cm_ok rxc_all rxk_49 rxh_49
theorem rxh_50 : ∀ ch ∈ rx_cd rxm_50, ∀ x ∈ ch, x.2.1 = 0 → x.2.2.1 = rx_sem x.2.2.2.1 := List.forall_mem_cons.mpr ⟨List.forall_mem_cons.mpr ⟨fun _ => rfl, List.forall_mem_cons.mpr ⟨fun _ => rfl, List.forall_mem_cons.mpr ⟨fun _ => rfl, List.forall_mem_cons.mpr ⟨fun _ => rfl, List.forall_mem_cons.mpr ⟨fun z => absurd z (by decide), List.forall_mem_cons.mpr ⟨fun _ => rfl, fun _ h => absurd h List.not_mem_nil⟩⟩⟩⟩⟩⟩, List.forall_mem_cons.mpr ⟨List.forall_mem_cons.mpr ⟨fun _ => rfl, List.forall_mem_cons.mpr ⟨fun z => absurd z (by decide), fun _ h => absurd h List.not_mem_nil⟩⟩, fun _ h => absurd h List.not_mem_nil⟩⟩
theorem rxk_50 : rx_cm rx_X rx_P rxm_50 = true := by decide +kernel
theorem rxq_50 : rx_cq rxm_50 = true := by decide +kernel
theorem rxs_50 : rx_ST rx_P (rx_DF, rx_FK) rxm_50 := rx_cm_ok rxc_all rxk_50 rxh_50
theorem rxh_51 : ∀ ch ∈ rx_cd rxm_51, ∀ x ∈ ch, x.2.1 = 0 → x.2.2.1 = rx_sem x.2.2.2.1 := List.forall_mem_cons.mpr ⟨List.forall_mem_cons.mpr ⟨fun _ => rfl, List.forall_mem_cons.mpr ⟨fun z => absurd z (by decide), List.forall_mem_cons.mpr ⟨fun _ => rfl, List.forall_mem_cons.mpr ⟨fun _ => rfl, List.forall_mem_cons.mpr ⟨fun _ => rfl, List.forall_mem_cons.mpr ⟨fun _ => rfl, List.forall_mem_cons.mpr ⟨fun _ => rfl, List.forall_mem_cons.mpr ⟨fun _ => rfl, List.forall_mem_cons.mpr ⟨fun _ => rfl, fun _ h => absurd h List.not_mem_nil⟩⟩⟩⟩⟩⟩⟩⟩⟩, List.forall_mem_cons.mpr ⟨List.forall_mem_cons.mpr ⟨fun _ => rfl, List.forall_mem_cons.mpr ⟨fun _ => rfl, List.forall_mem_cons.mpr ⟨fun _ => rfl, List.forall_mem_cons.mpr ⟨fun _ => rfl, List.forall_mem_cons.mpr ⟨fun _ => rfl, List.forall_mem_cons.mpr ⟨fun _ => rfl, List.forall_mem_cons.mpr ⟨fun _ => rfl, List.forall_mem_cons.mpr ⟨fun _ => rfl, fun _ h => absurd h List.not_mem_nil⟩⟩⟩⟩⟩⟩⟩⟩, List.forall_mem_cons.mpr ⟨List.forall_mem_cons.mpr ⟨fun _ => rfl, List.forall_mem_cons.mpr ⟨fun _ => rfl, List.forall_mem_cons.mpr ⟨fun _ => rfl, List.forall_mem_cons.mpr ⟨fun _ => rfl, List.forall_mem_cons.mpr ⟨fun z => absurd z (by decide), fun _ h => absurd h List.not_mem_nil⟩⟩⟩⟩⟩, fun _ h => absurd h List.not_mem_nil⟩⟩⟩
theorem rxk_51 : rx_cm rx_X rx_P rxm_51 = true := by decide +kernel
theorem rxq_51 : rx_cq rxm_51 = true := by decide +kernel
theorem rxs_51 : rx_ST rx_P (rx_DF, rx_FK) rxm_51 := rx_cm_ok rxc_all rxk_51 rxh_51
theorem rxh_52 : ∀ ch ∈ rx_cd rxm_52, ∀ x ∈ ch, x.2.1 = 0 → x.2.2.1 = rx_sem x.2.2.2.1 := List.forall_mem_cons.mpr ⟨List.forall_mem_cons.mpr ⟨fun _ => rfl, List.forall_mem_cons.mpr ⟨fun _ => rfl, List.forall_mem_cons.mpr ⟨fun _ => rfl, List.forall_mem_cons.mpr ⟨fun _ => rfl, List.forall_mem_cons.mpr ⟨fun _ => rfl, List.forall_mem_cons.mpr ⟨fun _ => rfl, List.forall_mem_cons.mpr ⟨fun _ => rfl, fun _ h => absurd h List.not_mem_nil⟩⟩⟩⟩⟩⟩⟩, List.forall_mem_cons.mpr ⟨List.forall_mem_cons.mpr ⟨fun _ => rfl, List.forall_mem_cons.mpr ⟨fun _ => rfl, List.forall_mem_cons.mpr ⟨fun _ => rfl, List.forall_mem_cons.mpr ⟨fun _ => rfl, List.forall_mem_cons.mpr ⟨fun _ => rfl, fun _ h => absurd h List.not_mem_nil⟩⟩⟩⟩⟩, List.forall_mem_cons.mpr ⟨List.forall_mem_cons.mpr ⟨fun z => absurd z (by decide), List.forall_mem_cons.mpr ⟨fun _ => rfl, fun _ h => absurd h List.not_mem_nil⟩⟩, List.forall_mem_cons.mpr ⟨fun _ h => absurd h List.not_mem_nil, List.forall_mem_cons.mpr ⟨List.forall_mem_cons.mpr ⟨fun z => absurd z (by decide), fun _ h => absurd h List.not_mem_nil⟩, fun _ h => absurd h List.not_mem_nil⟩⟩⟩⟩⟩
theorem rxk_52 : rx_cm rx_X rx_P rxm_52 = true := by decide +kernel
theorem rxq_52 : rx_cq rxm_52 = true := by decide +kernel
theorem rxs_52 : rx_ST rx_P (rx_DF, rx_FK) rxm_52 := rx_cm_ok rxc_all rxk_52 rxh_52
theorem rxh_53 : ∀ ch ∈ rx_cd rxm_53, ∀ x ∈ ch, x.2.1 = 0 → x.2.2.1 = rx_sem x.2.2.2.1 := List.forall_mem_cons.mpr ⟨List.forall_mem_cons.mpr ⟨fun _ => rfl, List.forall_mem_cons.mpr ⟨fun z => absurd z (by decide), List.forall_mem_cons.mpr ⟨fun _ => rfl, List.forall_mem_cons.mpr ⟨fun _ => rfl, List.forall_mem_cons.mpr ⟨fun _ => rfl, List.forall_mem_cons.mpr ⟨fun _ => rfl, List.forall_mem_cons.mpr ⟨fun _ => rfl, List.forall_mem_cons.mpr ⟨fun _ => rfl, List.forall_mem_cons.mpr ⟨fun _ => rfl, fun _ h => absurd h List.not_mem_nil⟩⟩⟩⟩⟩⟩⟩⟩⟩, List.forall_mem_cons.mpr ⟨List.forall_mem_cons.mpr ⟨fun _ => rfl, List.forall_mem_cons.mpr ⟨fun _ => rfl, List.forall_mem_cons.mpr ⟨fun _ => rfl, List.forall_mem_cons.mpr ⟨fun z => absurd z (by decide), fun _ h => absurd h List.not_mem_nil⟩⟩⟩⟩, fun _ h => absurd h List.not_mem_nil⟩⟩
theorem rxk_53 : rx_cm rx_X rx_P rxm_53 = true := by decide +kernel
theorem rxq_53 : rx_cq rxm_53 = true := by decide +kernel
theorem rxs_53 : rx_ST rx_P (rx_DF, rx_FK) rxm_53 := rx_cm_ok rxc_all rxk_53 rxh_53
theorem rxh_54 : ∀ ch ∈ rx_cd rxm_54, ∀ x ∈ ch, x.2.1 = 0 → x.2.2.1 = rx_sem x.2.2.2.1 := List.forall_mem_cons.mpr ⟨List.forall_mem_cons.mpr ⟨fun _ => rfl, List.forall_mem_cons.mpr ⟨fun _ => rfl, List.forall_mem_cons.mpr ⟨fun z => absurd z (by decide), List.forall_mem_cons.mpr ⟨fun _ => rfl, List.forall_mem_cons.mpr ⟨fun _ => rfl, List.forall_mem_cons.mpr ⟨fun _ => rfl, List.forall_mem_cons.mpr ⟨fun _ => rfl, List.forall_mem_cons.mpr ⟨fun _ => rfl, List.forall_mem_cons.mpr ⟨fun _ => rfl, fun _ h => absurd h List.not_mem_nil⟩⟩⟩⟩⟩⟩⟩⟩⟩, List.forall_mem_cons.mpr ⟨List.forall_mem_cons.mpr ⟨fun _ => rfl, List.forall_mem_cons.mpr ⟨fun _ => rfl, List.forall_mem_cons.mpr ⟨fun _ => rfl, List.forall_mem_cons.mpr ⟨fun _ => rfl, List.forall_mem_cons.mpr ⟨fun _ => rfl, List.forall_mem_cons.mpr ⟨fun _ => rfl, List.forall_mem_cons.mpr ⟨fun _ => rfl, List.forall_mem_cons.mpr ⟨fun _ => rfl, List.forall_mem_cons.mpr ⟨fun _ => rfl, fun _ h => absurd h List.not_mem_nil⟩⟩⟩⟩⟩⟩⟩⟩⟩, List.forall_mem_cons.mpr ⟨List.forall_mem_cons.mpr ⟨fun _ => rfl, List.forall_mem_cons.mpr ⟨fun _ => rfl, List.forall_mem_cons.mpr ⟨fun _ => rfl, List.forall_mem_cons.mpr ⟨fun _ => rfl, List.forall_mem_cons.mpr ⟨fun z => absurd z (by decide), List.forall_mem_cons.mpr ⟨fun _ => rfl, List.forall_mem_cons.mpr ⟨fun _ => rfl, List.forall_mem_cons.mpr ⟨fun _ => rfl, fun _ h => absurd h List.not_mem_nil⟩⟩⟩⟩⟩⟩⟩⟩, List.forall_mem_cons.mpr ⟨List.forall_mem_cons.mpr ⟨fun _ => rfl, List.forall_mem_cons.mpr ⟨fun z => absurd z (by decide), fun _ h => absurd h List.not_mem_nil⟩⟩, fun _ h => absurd h List.not_mem_nil⟩⟩⟩⟩
theorem rxk_54 : rx_cm rx_X rx_P rxm_54 = true := by decide +kernel
theorem rxq_54 : rx_cq rxm_54 = true := by decide +kernel
theorem rxs_54 : rx_ST rx_P (rx_DF, rx_FK) rxm_54 := rx_cm_ok rxc_all rxk_54 rxh_54
theorem rxh_55 : ∀ ch ∈ rx_cd rxm_55, ∀ x ∈ ch, x.2.1 = 0 → x.2.2.1 = rx_sem x.2.2.2.1 := List.forall_mem_cons.mpr ⟨List.forall_mem_cons.mpr ⟨fun _ => rfl, List.forall_mem_cons.mpr ⟨fun z => absurd z (by decide), List.forall_mem_cons.mpr ⟨fun _ => rfl, List.forall_mem_cons.mpr ⟨fun _ => rfl, List.forall_mem_cons.mpr ⟨fun _ => rfl, List.forall_mem_cons.mpr ⟨fun _ => rfl, List.forall_mem_cons.mpr ⟨fun _ => rfl, List.forall_mem_cons.mpr ⟨fun _ => rfl, fun _ h => absurd h List.not_mem_nil⟩⟩⟩⟩⟩⟩⟩⟩, List.forall_mem_cons.mpr ⟨List.forall_mem_cons.mpr ⟨fun _ => rfl, List.forall_mem_cons.mpr ⟨fun _ => rfl, List.forall_mem_cons.mpr ⟨fun _ => rfl, List.forall_mem_cons.mpr ⟨fun _ => rfl, List.forall_mem_cons.mpr ⟨fun _ => rfl, List.forall_mem_cons.mpr ⟨fun _ => rfl, List.forall_mem_cons.mpr ⟨fun _ => rfl, List.forall_mem_cons.mpr ⟨fun _ => rfl, fun _ h => absurd h List.not_mem_nil⟩⟩⟩⟩⟩⟩⟩⟩, List.forall_mem_cons.mpr ⟨List.forall_mem_cons.mpr ⟨fun _ => rfl, List.forall_mem_cons.mpr ⟨fun _ => rfl, List.forall_mem_cons.mpr ⟨fun _ => rfl, List.forall_mem_cons.mpr ⟨fun _ => rfl, List.forall_mem_cons.mpr ⟨fun _ => rfl, List.forall_mem_cons.mpr ⟨fun _ => rfl, List.forall_mem_cons.mpr ⟨fun _ => rfl, List.forall_mem_cons.mpr ⟨fun _ => rfl, fun _ h => absurd h List.not_mem_nil⟩⟩⟩⟩⟩⟩⟩⟩, List.forall_mem_cons.mpr ⟨List.forall_mem_cons.mpr ⟨fun _ => rfl, List.forall_mem_cons.mpr ⟨fun _ => rfl, List.forall_mem_cons.mpr ⟨fun _ => rfl, List.forall_mem_cons.mpr ⟨fun _ => rfl, List.forall_mem_cons.mpr ⟨fun _ => rfl, List.forall_mem_cons.mpr ⟨fun _ => rfl, List.forall_mem_cons.mpr ⟨fun _ => rfl, List.forall_mem_cons.mpr ⟨fun _ => rfl, fun _ h => absurd h List.not_mem_nil⟩⟩⟩⟩⟩⟩⟩⟩, List.forall_mem_cons.mpr ⟨List.forall_mem_cons.mpr ⟨fun _ => rfl, List.forall_mem_cons.mpr ⟨fun z => absurd z (by decide), fun _ h => absurd h List.not_mem_nil⟩⟩, fun _ h => absurd h List.not_mem_nil⟩⟩⟩⟩⟩
theorem rxk_55 : rx_cm rx_X rx_P rxm_55 = true := by decide +kernel
theorem rxq_55 : rx_cq rxm_55 = true := by decide +kernel
theorem rxs_55 : rx_ST rx_P (rx_DF, rx_FK) rxm_55 := rx_cm_ok rxc_all rxk_55 rxh_55
theorem rxh_56 : ∀ ch ∈ rx_cd rxm_56, ∀ x ∈ ch, x.2.1 = 0 → x.2.2.1 = rx_sem x.2.2.2.1 := List.forall_mem_cons.mpr ⟨List.forall_mem_cons.mpr ⟨fun _ => rfl, List.forall_mem_cons.mpr ⟨fun _ => rfl, List.forall_mem_cons.mpr ⟨fun _ => rfl, fun _ h => absurd h List.not_mem_nil⟩⟩⟩, List.forall_mem_cons.mpr ⟨List.forall_mem_cons.mpr ⟨fun _ => rfl, List.forall_mem_cons.mpr ⟨fun _ => rfl, List.forall_mem_cons.mpr ⟨fun _ => rfl, List.forall_mem_cons.mpr ⟨fun _ => rfl, List.forall_mem_cons.mpr ⟨fun _ => rfl, List.forall_mem_cons.mpr ⟨fun _ => rfl, fun _ h => absurd h List.not_mem_nil⟩⟩⟩⟩⟩⟩, List.forall_mem_cons.mpr ⟨List.forall_mem_cons.mpr ⟨fun _ => rfl, List.forall_mem_cons.mpr ⟨fun _ => rfl, List.forall_mem_cons.mpr ⟨fun _ => rfl, List.forall_mem_cons.mpr ⟨fun _ => rfl, List.forall_mem_cons.mpr ⟨fun _ => rfl, List.forall_mem_cons.mpr ⟨fun z => absurd z (by decide), List.forall_mem_cons.mpr ⟨fun _ => rfl, fun _ h => absurd h List.not_mem_nil⟩⟩⟩⟩⟩⟩⟩, List.forall_mem_cons.mpr ⟨fun _ h => absurd h List.not_mem_nil, List.forall_mem_cons.mpr ⟨List.forall_mem_cons.mpr ⟨fun _ => rfl, List.forall_mem_cons.mpr ⟨fun _ => rfl, List.forall_mem_cons.mpr ⟨fun _ => rfl, List.forall_mem_cons.mpr ⟨fun _ => rfl, List.forall_mem_cons.mpr ⟨fun _ => rfl, fun _ h => absurd h List.not_mem_nil⟩⟩⟩⟩⟩, List.forall_mem_cons.mpr ⟨List.forall_mem_cons.mpr ⟨fun _ => rfl, List.forall_mem_cons.mpr ⟨fun _ => rfl, fun _ h => absurd h List.not_mem_nil⟩⟩, List.forall_mem_cons.mpr ⟨List.forall_mem_cons.mpr ⟨fun _ => rfl, List.forall_mem_cons.mpr ⟨fun _ => rfl, List.forall_mem_cons.mpr ⟨fun _ => rfl, List.forall_mem_cons.mpr ⟨fun _ => rfl, List.forall_mem_cons.mpr ⟨fun _ => rfl, List.forall_mem_cons.mpr ⟨fun _ => rfl, List.forall_mem_cons.mpr ⟨fun z => absurd z (by decide), fun _ h => absurd h List.not_mem_nil⟩⟩⟩⟩⟩⟩⟩, fun _ h => absurd h List.not_mem_nil⟩⟩⟩⟩⟩⟩⟩
theorem rxk_56 : rx_cm rx_X rx_P rxm_56 = true := by decide +kernel
theorem rxq_56 : rx_cq rxm_56 = true := by decide +kernel
theorem rxs_56 : rx_ST rx_P (rx_DF, rx_FK) rxm_56 := rx_cm_ok rxc_all rxk_56 rxh_56
theorem rxh_57 : ∀ ch ∈ rx_cd rxm_57, ∀ x ∈ ch, x.2.1 = 0 → x.2.2.1 = rx_sem x.2.2.2.1 := List.forall_mem_cons.mpr ⟨List.forall_mem_cons.mpr ⟨fun _ => rfl, List.forall_mem_cons.mpr ⟨fun _ => rfl, List.forall_mem_cons.mpr ⟨fun _ => rfl, List.forall_mem_cons.mpr ⟨fun _ => rfl, List.forall_mem_cons.mpr ⟨fun _ => rfl, List.forall_mem_cons.mpr ⟨fun z => absurd z (by decide), List.forall_mem_cons.mpr ⟨fun _ => rfl, fun _ h => absurd h List.not_mem_nil⟩⟩⟩⟩⟩⟩⟩, List.forall_mem_cons.mpr ⟨List.forall_mem_cons.mpr ⟨fun _ => rfl, List.forall_mem_cons.mpr ⟨fun _ => rfl, List.forall_mem_cons.mpr ⟨fun _ => rfl, List.forall_mem_cons.mpr ⟨fun _ => rfl, List.forall_mem_cons.mpr ⟨fun _ => rfl, fun _ h => absurd h List.not_mem_nil⟩⟩⟩⟩⟩, List.forall_mem_cons.mpr ⟨List.forall_mem_cons.mpr ⟨fun _ => rfl, List.forall_mem_cons.mpr ⟨fun _ => rfl, fun _ h => absurd h List.not_mem_nil⟩⟩, List.forall_mem_cons.mpr ⟨fun _ h => absurd h List.not_mem_nil, List.forall_mem_cons.mpr ⟨fun _ h => absurd h List.not_mem_nil, List.forall_mem_cons.mpr ⟨fun _ h => absurd h List.not_mem_nil, List.forall_mem_cons.mpr ⟨List.forall_mem_cons.mpr ⟨fun z => absurd z (by decide), fun _ h => absurd h List.not_mem_nil⟩, fun _ h => absurd h List.not_mem_nil⟩⟩⟩⟩⟩⟩⟩
theorem rxk_57 : rx_cm rx_X rx_P rxm_57 = true := by decide +kernel
theorem rxq_57 : rx_cq rxm_57 = true := by decide +kernel
theorem rxs_57 : rx_ST rx_P (rx_DF, rx_FK) rxm_57 := rx_cm_ok rxc_all rxk_57 rxh_57
theorem rxh_58 : ∀ ch ∈ rx_cd rxm_58, ∀ x ∈ ch, x.2.1 = 0 → x.2.2.1 = rx_sem x.2.2.2.1 := List.forall_mem_cons.mpr ⟨List.forall_mem_cons.mpr ⟨fun _ => rfl, List.forall_mem_cons.mpr ⟨fun _ => rfl, List.forall_mem_cons.mpr ⟨fun _ => rfl, List.forall_mem_cons.mpr ⟨fun _ => rfl, List.forall_mem_cons.mpr ⟨fun _ => rfl, List.forall_mem_cons.mpr ⟨fun z => absurd z (by decide), List.forall_mem_cons.mpr ⟨fun _ => rfl, fun _ h => absurd h List.not_mem_nil⟩⟩⟩⟩⟩⟩⟩, List.forall_mem_cons.mpr ⟨List.forall_mem_cons.mpr ⟨fun _ => rfl, List.forall_mem_cons.mpr ⟨fun _ => rfl, List.forall_mem_cons.mpr ⟨fun _ => rfl, List.forall_mem_cons.mpr ⟨fun _ => rfl, List.forall_mem_cons.mpr ⟨fun _ => rfl, fun _ h => absurd h List.not_mem_nil⟩⟩⟩⟩⟩, List.forall_mem_cons.mpr ⟨List.forall_mem_cons.mpr ⟨fun _ => rfl, List.forall_mem_cons.mpr ⟨fun _ => rfl, fun _ h => absurd h List.not_mem_nil⟩⟩, List.forall_mem_cons.mpr ⟨fun _ h => absurd h List.not_mem_nil, List.forall_mem_cons.mpr ⟨List.forall_mem_cons.mpr ⟨fun z => absurd z (by decide), fun _ h => absurd h List.not_mem_nil⟩, fun _ h => absurd h List.not_mem_nil⟩⟩⟩⟩⟩
theorem rxk_58 : rx_cm rx_X rx_P rxm_58 = true := by decide +kernel
theorem rxq_58 : rx_cq rxm_58 = true := by decide +kernel
theorem rxs_58 : rx_ST rx_P (rx_DF, rx_FK) rxm_58 := rx_cm_ok rxc_all rxk_58 rxh_58
theorem rxh_59 : ∀ ch ∈ rx_cd rxm_59, ∀ x ∈ ch, x.2.1 = 0 → x.2.2.1 = rx_sem x.2.2.2.1 := List.forall_mem_cons.mpr ⟨List.forall_mem_cons.mpr ⟨fun _ => rfl, List.forall_mem_cons.mpr ⟨fun z => absurd z (by decide), List.forall_mem_cons.mpr ⟨fun _ => rfl, List.forall_mem_cons.mpr ⟨fun _ => rfl, List.forall_mem_cons.mpr ⟨fun _ => rfl, List.forall_mem_cons.mpr ⟨fun _ => rfl, List.forall_mem_cons.mpr ⟨fun _ => rfl, List.forall_mem_cons.mpr ⟨fun _ => rfl, List.forall_mem_cons.mpr ⟨fun _ => rfl, fun _ h => absurd h List.not_mem_nil⟩⟩⟩⟩⟩⟩⟩⟩⟩, List.forall_mem_cons.mpr ⟨List.forall_mem_cons.mpr ⟨fun _ => rfl, List.forall_mem_cons.mpr ⟨fun _ => rfl, List.forall_mem_cons.mpr ⟨fun _ => rfl, List.forall_mem_cons.mpr ⟨fun _ => rfl, List.forall_mem_cons.mpr ⟨fun _ => rfl, List.forall_mem_cons.mpr ⟨fun _ => rfl, List.forall_mem_cons.mpr ⟨fun _ => rfl, List.forall_mem_cons.mpr ⟨fun _ => rfl, fun _ h => absurd h List.not_mem_nil⟩⟩⟩⟩⟩⟩⟩⟩, List.forall_mem_cons.mpr ⟨List.forall_mem_cons.mpr ⟨fun _ => rfl, List.forall_mem_cons.mpr ⟨fun _ => rfl, List.forall_mem_cons.mpr ⟨fun _ => rfl, List.forall_mem_cons.mpr ⟨fun _ => rfl, List.forall_mem_cons.mpr ⟨fun _ => rfl, List.forall_mem_cons.mpr ⟨fun _ => rfl, List.forall_mem_cons.mpr ⟨fun _ => rfl, List.forall_mem_cons.mpr ⟨fun _ => rfl, fun _ h => absurd h List.not_mem_nil⟩⟩⟩⟩⟩⟩⟩⟩, List.forall_mem_cons.mpr ⟨List.forall_mem_cons.mpr ⟨fun _ => rfl, List.forall_mem_cons.mpr ⟨fun _ => rfl, List.forall_mem_cons.mpr ⟨fun _ => rfl, List.forall_mem_cons.mpr ⟨fun _ => rfl, List.forall_mem_cons.mpr ⟨fun _ => rfl, List.forall_mem_cons.mpr ⟨fun z => absurd z (by decide), fun _ h => absurd h List.not_mem_nil⟩⟩⟩⟩⟩⟩, fun _ h => absurd h List.not_mem_nil⟩⟩⟩⟩
theorem rxk_59 : rx_cm rx_X rx_P rxm_59 = true := by decide +kernel
theorem rxq_59 : rx_cq rxm_59 = true := by decide +kernel
theorem rxs_59 : rx_ST rx_P (rx_DF, rx_FK) rxm_59 := rx_cm_ok rxc_all rxk_59 rxh_59
theorem rxh_60 : ∀ ch ∈ rx_cd rxm_60, ∀ x ∈ ch, x.2.1 = 0 → x.2.2.1 = rx_sem x.2.2.2.1 := List.forall_mem_cons.mpr ⟨List.forall_mem_cons.mpr ⟨fun _ => rfl, List.forall_mem_cons.mpr ⟨fun _ => rfl, List.forall_mem_cons.mpr ⟨fun _ => rfl, List.forall_mem_cons.mpr ⟨fun _ => rfl, List.forall_mem_cons.mpr ⟨fun _ => rfl, List.forall_mem_cons.mpr ⟨fun _ => rfl, List.forall_mem_cons.mpr ⟨fun _ => rfl, List.forall_mem_cons.mpr ⟨fun _ => rfl, fun _ h => absurd h List.not_mem_nil⟩⟩⟩⟩⟩⟩⟩⟩, List.forall_mem_cons.mpr ⟨List.forall_mem_cons.mpr ⟨fun _ => rfl, List.forall_mem_cons.mpr ⟨fun _ => rfl, List.forall_mem_cons.mpr ⟨fun _ => rfl, List.forall_mem_cons.mpr ⟨fun _ => rfl, List.forall_mem_cons.mpr ⟨fun _ => rfl, List.forall_mem_cons.mpr ⟨fun _ => rfl, List.forall_mem_cons.mpr ⟨fun _ => rfl, List.forall_mem_cons.mpr ⟨fun _ => rfl, fun _ h => absurd h List.not_mem_nil⟩⟩⟩⟩⟩⟩⟩⟩, List.forall_mem_cons.mpr ⟨List.forall_mem_cons.mpr ⟨fun _ => rfl, List.forall_mem_cons.mpr ⟨fun _ => rfl, List.forall_mem_cons.mpr ⟨fun _ => rfl, List.forall_mem_cons.mpr ⟨fun _ => rfl, List.forall_mem_cons.mpr ⟨fun _ => rfl, List.forall_mem_cons.mpr ⟨fun _ => rfl, List.forall_mem_cons.mpr ⟨fun _ => rfl, List.forall_mem_cons.mpr ⟨fun _ => rfl, List.forall_mem_cons.mpr ⟨fun _ => rfl, fun _ h => absurd h List.not_mem_nil⟩⟩⟩⟩⟩⟩⟩⟩⟩, List.forall_mem_cons.mpr ⟨List.forall_mem_cons.mpr ⟨fun _ => rfl, List.forall_mem_cons.mpr ⟨fun _ => rfl, List.forall_mem_cons.mpr ⟨fun z => absurd z (by decide), List.forall_mem_cons.mpr ⟨fun _ => rfl, List.forall_mem_cons.mpr ⟨fun _ => rfl, List.forall_mem_cons.mpr ⟨fun _ => rfl, List.forall_mem_cons.mpr ⟨fun _ => rfl, List.forall_mem_cons.mpr ⟨fun _ => rfl, fun _ h => absurd h List.not_mem_nil⟩⟩⟩⟩⟩⟩⟩⟩, List.forall_mem_cons.mpr ⟨List.forall_mem_cons.mpr ⟨fun _ => rfl, List.forall_mem_cons.mpr ⟨fun _ => rfl, List.forall_mem_cons.mpr ⟨fun z => absurd z (by decide), List.forall_mem_cons.mpr ⟨fun _ => rfl, List.forall_mem_cons.mpr ⟨fun _ => rfl, List.forall_mem_cons.mpr ⟨fun _ => rfl, List.forall_mem_cons.mpr ⟨fun _ => rfl, List.forall_mem_cons.mpr ⟨fun _ => rfl, List.forall_mem_cons.mpr ⟨fun _ => rfl, fun _ h => absurd h List.not_mem_nil⟩⟩⟩⟩⟩⟩⟩⟩⟩, List.forall_mem_cons.mpr ⟨List.forall_mem_cons.mpr ⟨fun _ => rfl, List.forall_mem_cons.mpr ⟨fun z => absurd z (by decide), List.forall_mem_cons.mpr ⟨fun _ => rfl, List.forall_mem_cons.mpr ⟨fun _ => rfl, List.forall_mem_cons.mpr ⟨fun _ => rfl, List.forall_mem_cons.mpr ⟨fun _ => rfl, List.forall_mem_cons.mpr ⟨fun _ => rfl, List.forall_mem_cons.mpr ⟨fun _ => rfl, List.forall_mem_cons.mpr ⟨fun _ => rfl, fun _ h => absurd h List.not_mem_nil⟩⟩⟩⟩⟩⟩⟩⟩⟩, List.forall_mem_cons.mpr ⟨List.forall_mem_cons.mpr ⟨fun z => absurd z (by decide), List.forall_mem_cons.mpr ⟨fun z => absurd z (by decide), fun _ h => absurd h List.not_mem_nil⟩⟩, fun _ h => absurd h List.not_mem_nil⟩⟩⟩⟩⟩⟩⟩
theorem rxk_60 : rx_cm rx_X rx_P rxm_60 = true := by decide +kernel
theorem rxq_60 : rx_cq rxm_60 = true := by decide +kernel
theorem rxs_60 : rx_ST rx_P (rx_DF, rx_FK) rxm_60 := rx_cm_ok rxc_all rxk_60 rxh_60
theorem rxh_61 : ∀ ch ∈ rx_cd rxm_61, ∀ x ∈ ch, x.2.1 = 0 → x.2.2.1 = rx_sem x.2.2.2.1 := List.forall_mem_cons.mpr ⟨List.forall_mem_cons.mpr ⟨fun _ => rfl, List.forall_mem_cons.mpr ⟨fun z => absurd z (by decide), List.forall_mem_cons.mpr ⟨fun _ => rfl, List.forall_mem_cons.mpr ⟨fun _ => rfl, List.forall_mem_cons.mpr ⟨fun _ => rfl, List.forall_mem_cons.mpr ⟨fun z => absurd z (by decide), fun _ h => absurd h List.not_mem_nil⟩⟩⟩⟩⟩⟩, fun _ h => absurd h List.not_mem_nil⟩
theorem rxk_61 : rx_cm rx_X rx_P rxm_61 = true := by decide +kernel
theorem rxq_61 : rx_cq rxm_61 = true := by decide +kernel
theorem rxs_61 : rx_ST rx_P (rx_DF, rx_FK) rxm_61 := rx_cm_ok rxc_all rxk_61 rxh_61
theorem rxh_62 : ∀ ch ∈ rx_cd rxm_62, ∀ x ∈ ch, x.2.1 = 0 → x.2.2.1 = rx_sem x.2.2.2.1 := List.forall_mem_cons.mpr ⟨List.forall_mem_cons.mpr ⟨fun _ => rfl, List.forall_mem_cons.mpr ⟨fun z => absurd z (by decide), List.forall_mem_cons.mpr ⟨fun _ => rfl, List.forall_mem_cons.mpr ⟨fun _ => rfl, List.forall_mem_cons.mpr ⟨fun _ => rfl, List.forall_mem_cons.mpr ⟨fun _ => rfl, List.forall_mem_cons.mpr ⟨fun _ => rfl, List.forall_mem_cons.mpr ⟨fun _ => rfl, List.forall_mem_cons.mpr ⟨fun _ => rfl, fun _ h => absurd h List.not_mem_nil⟩⟩⟩⟩⟩⟩⟩⟩⟩, List.forall_mem_cons.mpr ⟨List.forall_mem_cons.mpr ⟨fun _ => rfl, List.forall_mem_cons.mpr ⟨fun _ => rfl, List.forall_mem_cons.mpr ⟨fun _ => rfl, List.forall_mem_cons.mpr ⟨fun _ => rfl, List.forall_mem_cons.mpr ⟨fun z => absurd z (by decide), fun _ h => absurd h List.not_mem_nil⟩⟩⟩⟩⟩, fun _ h => absurd h List.not_mem_nil⟩⟩
theorem rxk_62 : rx_cm rx_X rx_P rxm_62 = true := by decide +kernel
theorem rxq_62 : rx_cq rxm_62 = true := by decide +kernel
theorem rxs_62 : rx_ST rx_P (rx_DF, rx_FK) rxm_62 := rx_cm_ok rxc_all rxk_62 rxh_62
theorem rxh_63 : ∀ ch ∈ rx_cd rxm_63, ∀ x ∈ ch, x.2.1 = 0 → x.2.2.1 = rx_sem x.2.2.2.1 := List.forall_mem_cons.mpr ⟨List.forall_mem_cons.mpr ⟨fun _ => rfl, List.forall_mem_cons.mpr ⟨fun _ => rfl, List.forall_mem_cons.mpr ⟨fun _ => rfl, List.forall_mem_cons.mpr ⟨fun _ => rfl, List.forall_mem_cons.mpr ⟨fun _ => rfl, List.forall_mem_cons.mpr ⟨fun _ => rfl, List.forall_mem_cons.mpr ⟨fun _ => rfl, List.forall_mem_cons.mpr ⟨fun z => absurd z (by decide), List.forall_mem_cons.mpr ⟨fun _ => rfl, fun _ h => absurd h List.not_mem_nil⟩⟩⟩⟩⟩⟩⟩⟩⟩, List.forall_mem_cons.mpr ⟨fun _ h => absurd h List.not_mem_nil, List.forall_mem_cons.mpr ⟨List.forall_mem_cons.mpr ⟨fun _ => rfl, List.forall_mem_cons.mpr ⟨fun z => absurd z (by decide), fun _ h => absurd h List.not_mem_nil⟩⟩, fun _ h => absurd h List.not_mem_nil⟩⟩⟩
theorem rxk_63 : rx_cm rx_X rx_P rxm_63 = true := by decide +kernel
theorem rxq_63 : rx_cq rxm_63 = true := by decide +kernel
theorem rxs_63 : rx_ST rx_P (rx_DF, rx_FK) rxm_63 := rx_cm_ok rxc_all rxk_63 rxh_63
theorem rxh_64 : ∀ ch ∈ rx_cd rxm_64, ∀ x ∈ ch, x.2.1 = 0 → x.2.2.1 = rx_sem x.2.2.2.1 := List.forall_mem_cons.mpr ⟨List.forall_mem_cons.mpr ⟨fun _ => rfl, List.forall_mem_cons.mpr ⟨fun _ => rfl, List.forall_mem_cons.mpr ⟨fun _ => rfl, List.forall_mem_cons.mpr ⟨fun _ => rfl, List.forall_mem_cons.mpr ⟨fun _ => rfl, List.forall_mem_cons.mpr ⟨fun _ => rfl, List.forall_mem_cons.mpr ⟨fun _ => rfl, fun _ h => absurd h List.not_mem_nil⟩⟩⟩⟩⟩⟩⟩, List.forall_mem_cons.mpr ⟨List.forall_mem_cons.mpr ⟨fun _ => rfl, List.forall_mem_cons.mpr ⟨fun _ => rfl, List.forall_mem_cons.mpr ⟨fun _ => rfl, List.forall_mem_cons.mpr ⟨fun z => absurd z (by decide), List.forall_mem_cons.mpr ⟨fun _ => rfl, List.forall_mem_cons.mpr ⟨fun _ => rfl, List.forall_mem_cons.mpr ⟨fun _ => rfl, List.forall_mem_cons.mpr ⟨fun z => absurd z (by decide), fun _ h => absurd h List.not_mem_nil⟩⟩⟩⟩⟩⟩⟩⟩, List.forall_mem_cons.mpr ⟨List.forall_mem_cons.mpr ⟨fun _ => rfl, List.forall_mem_cons.mpr ⟨fun _ => rfl, List.forall_mem_cons.mpr ⟨fun _ => rfl, List.forall_mem_cons.mpr ⟨fun z => absurd z (by decide), List.forall_mem_cons.mpr ⟨fun _ => rfl, List.forall_mem_cons.mpr ⟨fun _ => rfl, List.forall_mem_cons.mpr ⟨fun _ => rfl, fun _ h => absurd h List.not_mem_nil⟩⟩⟩⟩⟩⟩⟩, List.forall_mem_cons.mpr ⟨List.forall_mem_cons.mpr ⟨fun z => absurd z (by decide), List.forall_mem_cons.mpr ⟨fun _ => rfl, List.forall_mem_cons.mpr ⟨fun _ => rfl, List.forall_mem_cons.mpr ⟨fun _ => rfl, List.forall_mem_cons.mpr ⟨fun z => absurd z (by decide), List.forall_mem_cons.mpr ⟨fun _ => rfl, List.forall_mem_cons.mpr ⟨fun _ => rfl, fun _ h => absurd h List.not_mem_nil⟩⟩⟩⟩⟩⟩⟩, List.forall_mem_cons.mpr ⟨List.forall_mem_cons.mpr ⟨fun _ => rfl, List.forall_mem_cons.mpr ⟨fun z => absurd z (by decide), fun _ h => absurd h List.not_mem_nil⟩⟩, fun _ h => absurd h List.not_mem_nil⟩⟩⟩⟩⟩
theorem rxk_64 : rx_cm rx_X rx_P rxm_64 = true := by decide +kernel
theorem rxq_64 : rx_cq rxm_64 = true := by decide +kernel
theorem rxs_64 : rx_ST rx_P (rx_DF, rx_FK) rxm_64 := rx_cm_ok rxc_all rxk_64 rxh_64
theorem rxh_65 : ∀ ch ∈ rx_cd rxm_65, ∀ x ∈ ch, x.2.1 = 0 → x.2.2.1 = rx_sem x.2.2.2.1 := List.forall_mem_cons.mpr ⟨List.forall_mem_cons.mpr ⟨fun _ => rfl, List.forall_mem_cons.mpr ⟨fun _ => rfl, List.forall_mem_cons.mpr ⟨fun _ => rfl, List.forall_mem_cons.mpr ⟨fun z => absurd z (by decide), List.forall_mem_cons.mpr ⟨fun _ => rfl, fun _ h => absurd h List.not_mem_nil⟩⟩⟩⟩⟩, List.forall_mem_cons.mpr ⟨List.forall_mem_cons.mpr ⟨fun _ => rfl, List.forall_mem_cons.mpr ⟨fun z => absurd z (by decide), fun _ h => absurd h List.not_mem_nil⟩⟩, fun _ h => absurd h List.not_mem_nil⟩⟩
theorem rxk_65 : rx_cm rx_X rx_P rxm_65 = true := by decide +kernel
theorem rxq_65 : rx_cq rxm_65 = true := by decide +kernel
theorem rxs_65 : rx_ST rx_P (rx_DF, rx_FK) rxm_65 := rx_cm_ok rxc_all rxk_65 rxh_65
theorem rxh_66 : ∀ ch ∈ rx_cd rxm_66, ∀ x ∈ ch, x.2.1 = 0 → x.2.2.1 = rx_sem x.2.2.2.1 := List.forall_mem_cons.mpr ⟨List.forall_mem_cons.mpr ⟨fun _ => rfl, List.forall_mem_cons.mpr ⟨fun _ => rfl, List.forall_mem_cons.mpr ⟨fun _ => rfl, List.forall_mem_cons.mpr ⟨fun z => absurd z (by decide), List.forall_mem_cons.mpr ⟨fun _ => rfl, fun _ h => absurd h List.not_mem_nil⟩⟩⟩⟩⟩, List.forall_mem_cons.mpr ⟨List.forall_mem_cons.mpr ⟨fun _ => rfl, List.forall_mem_cons.mpr ⟨fun z => absurd z (by decide), fun _ h => absurd h List.not_mem_nil⟩⟩, fun _ h => absurd h List.not_mem_nil⟩⟩
theorem rxk_66 : rx_cm rx_X rx_P rxm_66 = true := by decide +kernel
theorem rxq_66 : rx_cq rxm_66 = true := by decide +kernel
theorem rxs_66 : rx_ST rx_P (rx_DF, rx_FK) rxm_66 := rx_cm_ok rxc_all rxk_66 rxh_66
theorem rxh_67 : ∀ ch ∈ rx_cd rxm_67, ∀ x ∈ ch, x.2.1 = 0 → x.2.2.1 = rx_sem x.2.2.2.1 := List.forall_mem_cons.mpr ⟨List.forall_mem_cons.mpr ⟨fun _ => rfl, List.forall_mem_cons.mpr ⟨fun _ => rfl, List.forall_mem_cons.mpr ⟨fun _ => rfl, List.forall_mem_cons.mpr ⟨fun z => absurd z (by decide), List.forall_mem_cons.mpr ⟨fun _ => rfl, List.forall_mem_cons.mpr ⟨fun _ => rfl, List.forall_mem_cons.mpr ⟨fun z => absurd z (by decide), fun _ h => absurd h List.not_mem_nil⟩⟩⟩⟩⟩⟩⟩, fun _ h => absurd h List.not_mem_nil⟩
theorem rxk_67 : rx_cm rx_X rx_P rxm_67 = true := by decide +kernel
theorem rxq_67 : rx_cq rxm_67 = true := by decide +kernel
theorem rxs_67 : rx_ST rx_P (rx_DF, rx_FK) rxm_67 := rx_cm_ok rxc_all rxk_67 rxh_67
theorem rxh_68 : ∀ ch ∈ rx_cd rxm_68, ∀ x ∈ ch, x.2.1 = 0 → x.2.2.1 = rx_sem x.2.2.2.1 := List.forall_mem_cons.mpr ⟨List.forall_mem_cons.mpr ⟨fun _ => rfl, List.forall_mem_cons.mpr ⟨fun _ => rfl, List.forall_mem_cons.mpr ⟨fun _ => rfl, List.forall_mem_cons.mpr ⟨fun z => absurd z (by decide), List.forall_mem_cons.mpr ⟨fun _ => rfl, List.forall_mem_cons.mpr ⟨fun _ => rfl, List.forall_mem_cons.mpr ⟨fun z => absurd z (by decide), fun _ h => absurd h List.not_mem_nil⟩⟩⟩⟩⟩⟩⟩, fun _ h => absurd h List.not_mem_nil⟩
theorem rxk_68 : rx_cm rx_X rx_P rxm_68 = true := by decide +kernel
theorem rxq_68 : rx_cq rxm_68 = true := by decide +kernel
theorem rxs_68 : rx_ST rx_P (rx_DF, rx_FK) rxm_68 := rx_cm_ok rxc_all rxk_68 rxh_68
theorem rxh_69 : ∀ ch ∈ rx_cd rxm_69, ∀ x ∈ ch, x.2.1 = 0 → x.2.2.1 = rx_sem x.2.2.2.1 := List.forall_mem_cons.mpr ⟨List.forall_mem_cons.mpr ⟨fun _ => rfl, List.forall_mem_cons.mpr ⟨fun _ => rfl, List.forall_mem_cons.mpr ⟨fun _ => rfl, List.forall_mem_cons.mpr ⟨fun z => absurd z (by decide), List.forall_mem_cons.mpr ⟨fun _ => rfl, fun _ h => absurd h List.not_mem_nil⟩⟩⟩⟩⟩, List.forall_mem_cons.mpr ⟨List.forall_mem_cons.mpr ⟨fun _ => rfl, List.forall_mem_cons.mpr ⟨fun z => absurd z (by decide), fun _ h => absurd h List.not_mem_nil⟩⟩, fun _ h => absurd h List.not_mem_nil⟩⟩
theorem rxk_69 : rx_cm rx_X rx_P rxm_69 = true := by decide +kernel
theorem rxq_69 : rx_cq rxm_69 = true := by decide +kernel
theorem rxs_69 : rx_ST rx_P (rx_DF, rx_FK) rxm_69 := rx_cm_ok rxc_all rxk_69 rxh_69
theorem rxh_70 : ∀ ch ∈ rx_cd rxm_70, ∀ x ∈ ch, x.2.1 = 0 → x.2.2.1 = rx_sem x.2.2.2.1 := List.forall_mem_cons.mpr ⟨List.forall_mem_cons.mpr ⟨fun _ => rfl, List.forall_mem_cons.mpr ⟨fun _ => rfl, List.forall_mem_cons.mpr ⟨fun _ => rfl, List.forall_mem_cons.mpr ⟨fun z => absurd z (by decide), List.forall_mem_cons.mpr ⟨fun _ => rfl, fun _ h => absurd h List.not_mem_nil⟩⟩⟩⟩⟩, List.forall_mem_cons.mpr ⟨fun _ h => absurd h List.not_mem_nil, List.forall_mem_cons.mpr ⟨List.forall_mem_cons.mpr ⟨fun _ => rfl, List.forall_mem_cons.mpr ⟨fun z => absurd z (by decide), fun _ h => absurd h List.not_mem_nil⟩⟩, fun _ h => absurd h List.not_mem_nil⟩⟩⟩
theorem rxk_70 : rx_cm rx_X rx_P rxm_70 = true := by decide +kernel
theorem rxq_70 : rx_cq rxm_70 = true := by decide +kernel
theorem rxs_70 : rx_ST rx_P (rx_DF, rx_FK) rxm_70 := rx_cm_ok rxc_all rxk_70 rxh_70
theorem rxh_71 : ∀ ch ∈ rx_cd rxm_71, ∀ x ∈ ch, x.2.1 = 0 → x.2.2.1 = rx_sem x.2.2.2.1 := List.forall_mem_cons.mpr ⟨List.forall_mem_cons.mpr ⟨fun _ => rfl, List.forall_mem_cons.mpr ⟨fun _ => rfl, List.forall_mem_cons.mpr ⟨fun _ => rfl, List.forall_mem_cons.mpr ⟨fun z => absurd z (by decide), List.forall_mem_cons.mpr ⟨fun _ => rfl, List.forall_mem_cons.mpr ⟨fun _ => rfl, List.forall_mem_cons.mpr ⟨fun z => absurd z (by decide), fun _ h => absurd h List.not_mem_nil⟩⟩⟩⟩⟩⟩⟩, fun _ h => absurd h List.not_mem_nil⟩
theorem rxk_71 : rx_cm rx_X rx_P rxm_71 = true := by decide +kernel
theorem rxq_71 : rx_cq rxm_71 = true := by decide +kernel
theorem rxs_71 : rx_ST rx_P (rx_DF, rx_FK) rxm_71 := rx_cm_ok rxc_all rxk_71 rxh_71
theorem rxh_72 : ∀ ch ∈ rx_cd rxm_72, ∀ x ∈ ch, x.2.1 = 0 → x.2.2.1 = rx_sem x.2.2.2.1 := List.forall_mem_cons.mpr ⟨List.forall_mem_cons.mpr ⟨fun _ => rfl, List.forall_mem_cons.mpr ⟨fun _ => rfl, List.forall_mem_cons.mpr ⟨fun _ => rfl, List.forall_mem_cons.mpr ⟨fun z => absurd z (by decide), List.forall_mem_cons.mpr ⟨fun _ => rfl, List.forall_mem_cons.mpr ⟨fun _ => rfl, List.forall_mem_cons.mpr ⟨fun z => absurd z (by decide), fun _ h => absurd h List.not_mem_nil⟩⟩⟩⟩⟩⟩⟩, fun _ h => absurd h List.not_mem_nil⟩
theorem rxk_72 : rx_cm rx_X rx_P rxm_72 = true := by decide +kernel
theorem rxq_72 : rx_cq rxm_72 = true := by decide +kernel
theorem rxs_72 : rx_ST rx_P (rx_DF, rx_FK) rxm_72 := rx_cm_ok rxc_all rxk_72 rxh_72
theorem rxh_73 : ∀ ch ∈ rx_cd rxm_73, ∀ x ∈ ch, x.2.1 = 0 → x.2.2.1 = rx_sem x.2.2.2.1 := List.forall_mem_cons.mpr ⟨List.forall_mem_cons.mpr ⟨fun _ => rfl, List.forall_mem_cons.mpr ⟨fun _ => rfl, List.forall_mem_cons.mpr ⟨fun _ => rfl, List.forall_mem_cons.mpr ⟨fun z => absurd z (by decide), List.forall_mem_cons.mpr ⟨fun _ => rfl, fun _ h => absurd h List.not_mem_nil⟩⟩⟩⟩⟩, List.forall_mem_cons.mpr ⟨List.forall_mem_cons.mpr ⟨fun _ => rfl, List.forall_mem_cons.mpr ⟨fun z => absurd z (by decide), fun _ h => absurd h List.not_mem_nil⟩⟩, fun _ h => absurd h List.not_mem_nil⟩⟩
theorem rxk_73 : rx_cm rx_X rx_P rxm_73 = true := by decide +kernel
theorem rxq_73 : rx_cq rxm_73 = true := by decide +kernel
theorem rxs_73 : rx_ST rx_P (rx_DF, rx_FK) rxm_73 := rx_cm_ok rxc_all rxk_73 rxh_73
theorem rxh_74 : ∀ ch ∈ rx_cd rxm_74, ∀ x ∈ ch, x.2.1 = 0 → x.2.2.1 = rx_sem x.2.2.2.1 := List.forall_mem_cons.mpr ⟨List.forall_mem_cons.mpr ⟨fun _ => rfl, List.forall_mem_cons.mpr ⟨fun _ => rfl, List.forall_mem_cons.mpr ⟨fun _ => rfl, List.forall_mem_cons.mpr ⟨fun z => absurd z (by decide), List.forall_mem_cons.mpr ⟨fun _ => rfl, fun _ h => absurd h List.not_mem_nil⟩⟩⟩⟩⟩, List.forall_mem_cons.mpr ⟨List.forall_mem_cons.mpr ⟨fun _ => rfl, List.forall_mem_cons.mpr ⟨fun z => absurd z (by decide), fun _ h => absurd h List.not_mem_nil⟩⟩, fun _ h => absurd h List.not_mem_nil⟩⟩
theorem rxk_74 : rx_cm rx_X rx_P rxm_74 = true := by decide +kernel
theorem rxq_74 : rx_cq rxm_74 = true := by decide +kernel
theorem rxs_74 : rx_ST rx_P (rx_DF, rx_FK) rxm_74 := rx_cm_ok rxc_all rxk_74 rxh_74
theorem rxh_75 : ∀ ch ∈ rx_cd rxm_75, ∀ x ∈ ch, x.2.1 = 0 → x.2.2.1 = rx_sem x.2.2.2.1 := List.forall_mem_cons.mpr ⟨List.forall_mem_cons.mpr ⟨fun _ => rfl, List.forall_mem_cons.mpr ⟨fun _ => rfl, List.forall_mem_cons.mpr ⟨fun _ => rfl, List.forall_mem_cons.mpr ⟨fun z => absurd z (by decide), List.forall_mem_cons.mpr ⟨fun _ => rfl, fun _ h => absurd h List.not_mem_nil⟩⟩⟩⟩⟩, List.forall_mem_cons.mpr ⟨List.forall_mem_cons.mpr ⟨fun _ => rfl, List.forall_mem_cons.mpr ⟨fun z => absurd z (by decide), fun _ h => absurd h List.not_mem_nil⟩⟩, fun _ h => absurd h List.not_mem_nil⟩⟩
theorem rxk_75 : rx_cm rx_X rx_P rxm_75 = true := by decide +kernel
theorem rxq_75 : rx_cq rxm_75 = true := by decide +kernel
theorem rxs_75 : rx_ST rx_P (rx_DF, rx_FK) rxm_75 := rx_cm_ok rxc_all rxk_75 rxh_75
theorem rxh_76 : ∀ ch ∈ rx_cd rxm_76, ∀ x ∈ ch, x.2.1 = 0 → x.2.2.1 = rx_sem x.2.2.2.1 := List.forall_mem_cons.mpr ⟨List.forall_mem_cons.mpr ⟨fun _ => rfl, List.forall_mem_cons.mpr ⟨fun _ => rfl, List.forall_mem_cons.mpr ⟨fun _ => rfl, List.forall_mem_cons.mpr ⟨fun z => absurd z (by decide), List.forall_mem_cons.mpr ⟨fun _ => rfl, fun _ h => absurd h List.not_mem_nil⟩⟩⟩⟩⟩, List.forall_mem_cons.mpr ⟨fun _ h => absurd h List.not_mem_nil, List.forall_mem_cons.mpr ⟨List.forall_mem_cons.mpr ⟨fun _ => rfl, List.forall_mem_cons.mpr ⟨fun z => absurd z (by decide), fun _ h => absurd h List.not_mem_nil⟩⟩, fun _ h => absurd h List.not_mem_nil⟩⟩⟩
theorem rxk_76 : rx_cm rx_X rx_P rxm_76 = true := by decide +kernel
theorem rxq_76 : rx_cq rxm_76 = true := by decide +kernel
theorem rxs_76 : rx_ST rx_P (rx_DF, rx_FK) rxm_76 := rx_cm_ok rxc_all rxk_76 rxh_76
theorem rxh_77 : ∀ ch ∈ rx_cd rxm_77, ∀ x ∈ ch, x.2.1 = 0 → x.2.2.1 = rx_sem x.2.2.2.1 := List.forall_mem_cons.mpr ⟨List.forall_mem_cons.mpr ⟨fun _ => rfl, List.forall_mem_cons.mpr ⟨fun _ => rfl, List.forall_mem_cons.mpr ⟨fun _ => rfl, List.forall_mem_cons.mpr ⟨fun z => absurd z (by decide), List.forall_mem_cons.mpr ⟨fun _ => rfl, fun _ h => absurd h List.not_mem_nil⟩⟩⟩⟩⟩, List.forall_mem_cons.mpr ⟨List.forall_mem_cons.mpr ⟨fun _ => rfl, fun _ h => absurd h List.not_mem_nil⟩, List.forall_mem_cons.mpr ⟨List.forall_mem_cons.mpr ⟨fun z => absurd z (by decide), fun _ h => absurd h List.not_mem_nil⟩, fun _ h => absurd h List.not_mem_nil⟩⟩⟩
theorem rxk_77 : rx_cm rx_X rx_P rxm_77 = true := by decide +kernel
theorem rxq_77 : rx_cq rxm_77 = true := by decide +kernel
theorem rxs_77 : rx_ST rx_P (rx_DF, rx_FK) rxm_77 := rx_cm_ok rxc_all rxk_77 rxh_77
theorem rxh_78 : ∀ ch ∈ rx_cd rxm_78, ∀ x ∈ ch, x.2.1 = 0 → x.2.2.1 = rx_sem x.2.2.2.1 := List.forall_mem_cons.mpr ⟨List.forall_mem_cons.mpr ⟨fun _ => rfl, List.forall_mem_cons.mpr ⟨fun _ => rfl, List.forall_mem_cons.mpr ⟨fun _ => rfl, List.forall_mem_cons.mpr ⟨fun z => absurd z (by decide), List.forall_mem_cons.mpr ⟨fun _ => rfl, fun _ h => absurd h List.not_mem_nil⟩⟩⟩⟩⟩, List.forall_mem_cons.mpr ⟨List.forall_mem_cons.mpr ⟨fun _ => rfl, List.forall_mem_cons.mpr ⟨fun z => absurd z (by decide), fun _ h => absurd h List.not_mem_nil⟩⟩, fun _ h => absurd h List.not_mem_nil⟩⟩
theorem rxk_78 : rx_cm rx_X rx_P rxm_78 = true := by decide +kernel
theorem rxq_78 : rx_cq rxm_78 = true := by decide +kernel
theorem rxs_78 : rx_ST rx_P (rx_DF, rx_FK) rxm_78 := rx_cm_ok rxc_all rxk_78 rxh_78
theorem rxh_79 : ∀ ch ∈ rx_cd rxm_79, ∀ x ∈ ch, x.2.1 = 0 → x.2.2.1 = rx_sem x.2.2.2.1 := List.forall_mem_cons.mpr ⟨List.forall_mem_cons.mpr ⟨fun _ => rfl, List.forall_mem_cons.mpr ⟨fun _ => rfl, List.forall_mem_cons.mpr ⟨fun _ => rfl, List.forall_mem_cons.mpr ⟨fun z => absurd z (by decide), List.forall_mem_cons.mpr ⟨fun _ => rfl, fun _ h => absurd h List.not_mem_nil⟩⟩⟩⟩⟩, List.forall_mem_cons.mpr ⟨List.forall_mem_cons.mpr ⟨fun _ => rfl, List.forall_mem_cons.mpr ⟨fun z => absurd z (by decide), fun _ h => absurd h List.not_mem_nil⟩⟩, fun _ h => absurd h List.not_mem_nil⟩⟩
theorem rxk_79 : rx_cm rx_X rx_P rxm_79 = true := by decide +kernel
theorem rxq_79 : rx_cq rxm_79 = true := by decide +kernel
theorem rxs_79 : rx_ST rx_P (rx_DF, rx_FK) rxm_79 := rx_cm_ok rxc_all rxk_79 rxh_79
theorem rxh_80 : ∀ ch ∈ rx_cd rxm_80, ∀ x ∈ ch, x.2.1 = 0 → x.2.2.1 = rx_sem x.2.2.2.1 := List.forall_mem_cons.mpr ⟨List.forall_mem_cons.mpr ⟨fun _ => rfl, List.forall_mem_cons.mpr ⟨fun _ => rfl, List.forall_mem_cons.mpr ⟨fun _ => rfl, List.forall_mem_cons.mpr ⟨fun z => absurd z (by decide), List.forall_mem_cons.mpr ⟨fun _ => rfl, fun _ h => absurd h List.not_mem_nil⟩⟩⟩⟩⟩, List.forall_mem_cons.mpr ⟨List.forall_mem_cons.mpr ⟨fun _ => rfl, List.forall_mem_cons.mpr ⟨fun z => absurd z (by decide), fun _ h => absurd h List.not_mem_nil⟩⟩, fun _ h => absurd h List.not_mem_nil⟩⟩
theorem rxk_80 : rx_cm rx_X rx_P rxm_80 = true := by decide +kernel
theorem rxq_80 : rx_cq rxm_80 = true := by decide +kernel
theorem rxs_80 : rx_ST rx_P (rx_DF, rx_FK) rxm_80 := rx_cm_ok rxc_all rxk_80 rxh_80
theorem rxh_81 : ∀ ch ∈ rx_cd rxm_81, ∀ x ∈ ch, x.2.1 = 0 → x.2.2.1 = rx_sem x.2.2.2.1 := List.forall_mem_cons.mpr ⟨List.forall_mem_cons.mpr ⟨fun _ => rfl, List.forall_mem_cons.mpr ⟨fun _ => rfl, List.forall_mem_cons.mpr ⟨fun _ => rfl, List.forall_mem_cons.mpr ⟨fun z => absurd z (by decide), List.forall_mem_cons.mpr ⟨fun _ => rfl, fun _ h => absurd h List.not_mem_nil⟩⟩⟩⟩⟩, List.forall_mem_cons.mpr ⟨List.forall_mem_cons.mpr ⟨fun _ => rfl, List.forall_mem_cons.mpr ⟨fun z => absurd z (by decide), fun _ h => absurd h List.not_mem_nil⟩⟩, fun _ h => absurd h List.not_mem_nil⟩⟩
theorem rxk_81 : rx_cm rx_X rx_P rxm_81 = true := by decide +kernel
theorem rxq_81 : rx_cq rxm_81 = true := by decide +kernel
theorem rxs_81 : rx_ST rx_P (rx_DF, rx_FK) rxm_81 := rx_cm_ok rxc_all rxk_81 rxh_81
theorem rxh_82 : ∀ ch ∈ rx_cd rxm_82, ∀ x ∈ ch, x.2.1 = 0 → x.2.2.1 = rx_sem x.2.2.2.1 := List.forall_mem_cons.mpr ⟨List.forall_mem_cons.mpr ⟨fun _ => rfl, List.forall_mem_cons.mpr ⟨fun _ => rfl, List.forall_mem_cons.mpr ⟨fun _ => rfl, List.forall_mem_cons.mpr ⟨fun z => absurd z (by decide), List.forall_mem_cons.mpr ⟨fun _ => rfl, fun _ h => absurd h List.not_mem_nil⟩⟩⟩⟩⟩, List.forall_mem_cons.mpr ⟨List.forall_mem_cons.mpr ⟨fun _ => rfl, List.forall_mem_cons.mpr ⟨fun z => absurd z (by decide), fun _ h => absurd h List.not_mem_nil⟩⟩, fun _ h => absurd h List.not_mem_nil⟩⟩
theorem rxk_82 : rx_cm rx_X rx_P rxm_82 = true := by decide +kernel
theorem rxq_82 : rx_cq rxm_82 = true := by decide +kernel
theorem rxs_82 : rx_ST rx_P (rx_DF, rx_FK) rxm_82 := rx_cm_ok rxc_all rxk_82 rxh_82
theorem rxh_83 : ∀ ch ∈ rx_cd rxm_83, ∀ x ∈ ch, x.2.1 = 0 → x.2.2.1 = rx_sem x.2.2.2.1 := List.forall_mem_cons.mpr ⟨List.forall_mem_cons.mpr ⟨fun _ => rfl, List.forall_mem_cons.mpr ⟨fun _ => rfl, List.forall_mem_cons.mpr ⟨fun _ => rfl, List.forall_mem_cons.mpr ⟨fun z => absurd z (by decide), List.forall_mem_cons.mpr ⟨fun _ => rfl, fun _ h => absurd h List.not_mem_nil⟩⟩⟩⟩⟩, List.forall_mem_cons.mpr ⟨List.forall_mem_cons.mpr ⟨fun _ => rfl, List.forall_mem_cons.mpr ⟨fun z => absurd z (by decide), fun _ h => absurd h List.not_mem_nil⟩⟩, fun _ h => absurd h List.not_mem_nil⟩⟩
theorem rxk_83 : rx_cm rx_X rx_P rxm_83 = true := by decide +kernel
theorem rxq_83 : rx_cq rxm_83 = true := by decide +kernel
theorem rxs_83 : rx_ST rx_P (rx_DF, rx_FK) rxm_83 := rx_cm_ok rxc_all rxk_83 rxh_83
theorem rxh_84 : ∀ ch ∈ rx_cd rxm_84, ∀ x ∈ ch, x.2.1 = 0 → x.2.2.1 = rx_sem x.2.2.2.1 := List.forall_mem_cons.mpr ⟨List.forall_mem_cons.mpr ⟨fun _ => rfl, List.forall_mem_cons.mpr ⟨fun _ => rfl, List.forall_mem_cons.mpr ⟨fun _ => rfl, List.forall_mem_cons.mpr ⟨fun z => absurd z (by decide), List.forall_mem_cons.mpr ⟨fun _ => rfl, fun _ h => absurd h List.not_mem_nil⟩⟩⟩⟩⟩, List.forall_mem_cons.mpr ⟨fun _ h => absurd h List.not_mem_nil, List.forall_mem_cons.mpr ⟨List.forall_mem_cons.mpr ⟨fun _ => rfl, List.forall_mem_cons.mpr ⟨fun z => absurd z (by decide), fun _ h => absurd h List.not_mem_nil⟩⟩, fun _ h => absurd h List.not_mem_nil⟩⟩⟩
theorem rxk_84 : rx_cm rx_X rx_P rxm_84 = true := by decide +kernel
theorem rxq_84 : rx_cq rxm_84 = true := by decide +kernel
theorem rxs_84 : rx_ST rx_P (rx_DF, rx_FK) rxm_84 := rx_cm_ok rxc_all rxk_84 rxh_84
theorem rxh_85 : ∀ ch ∈ rx_cd rxm_85, ∀ x ∈ ch, x.2.1 = 0 → x.2.2.1 = rx_sem x.2.2.2.1 := List.forall_mem_cons.mpr ⟨List.forall_mem_cons.mpr ⟨fun _ => rfl, List.forall_mem_cons.mpr ⟨fun _ => rfl, List.forall_mem_cons.mpr ⟨fun _ => rfl, List.forall_mem_cons.mpr ⟨fun z => absurd z (by decide), List.forall_mem_cons.mpr ⟨fun _ => rfl, List.forall_mem_cons.mpr ⟨fun _ => rfl, List.forall_mem_cons.mpr ⟨fun z => absurd z (by decide), fun _ h => absurd h List.not_mem_nil⟩⟩⟩⟩⟩⟩⟩, fun _ h => absurd h List.not_mem_nil⟩
theorem rxk_85 : rx_cm rx_X rx_P rxm_85 = true := by decide +kernel
theorem rxq_85 : rx_cq rxm_85 = true := by decide +kernel
theorem rxs_85 : rx_ST rx_P (rx_DF, rx_FK) rxm_85 := rx_cm_ok rxc_all rxk_85 rxh_85
theorem rxh_86 : ∀ ch ∈ rx_cd rxm_86, ∀ x ∈ ch, x.2.1 = 0 → x.2.2.1 = rx_sem x.2.2.2.1 := List.forall_mem_cons.mpr ⟨List.forall_mem_cons.mpr ⟨fun _ => rfl, List.forall_mem_cons.mpr ⟨fun _ => rfl, fun _ h => absurd h List.not_mem_nil⟩⟩, List.forall_mem_cons.mpr ⟨fun _ h => absurd h List.not_mem_nil, List.forall_mem_cons.mpr ⟨fun _ h => absurd h List.not_mem_nil, List.forall_mem_cons.mpr ⟨fun _ h => absurd h List.not_mem_nil, List.forall_mem_cons.mpr ⟨List.forall_mem_cons.mpr ⟨fun _ => rfl, List.forall_mem_cons.mpr ⟨fun _ => rfl, List.forall_mem_cons.mpr ⟨fun _ => rfl, List.forall_mem_cons.mpr ⟨fun z => absurd z (by decide), List.forall_mem_cons.mpr ⟨fun _ => rfl, List.forall_mem_cons.mpr ⟨fun _ => rfl, List.forall_mem_cons.mpr ⟨fun _ => rfl, List.forall_mem_cons.mpr ⟨fun z => absurd z (by decide), fun _ h => absurd h List.not_mem_nil⟩⟩⟩⟩⟩⟩⟩⟩, List.forall_mem_cons.mpr ⟨List.forall_mem_cons.mpr ⟨fun _ => rfl, List.forall_mem_cons.mpr ⟨fun _ => rfl, List.forall_mem_cons.mpr ⟨fun _ => rfl, List.forall_mem_cons.mpr ⟨fun z => absurd z (by decide), List.forall_mem_cons.mpr ⟨fun z => absurd z (by decide), List.forall_mem_cons.mpr ⟨fun _ => rfl, List.forall_mem_cons.mpr ⟨fun _ => rfl, List.forall_mem_cons.mpr ⟨fun _ => rfl, fun _ h => absurd h List.not_mem_nil⟩⟩⟩⟩⟩⟩⟩⟩, List.forall_mem_cons.mpr ⟨List.forall_mem_cons.mpr ⟨fun _ => rfl, List.forall_mem_cons.mpr ⟨fun _ => rfl, List.forall_mem_cons.mpr ⟨fun _ => rfl, fun _ h => absurd h List.not_mem_nil⟩⟩⟩, List.forall_mem_cons.mpr ⟨List.forall_mem_cons.mpr ⟨fun z => absurd z (by decide), List.forall_mem_cons.mpr ⟨fun _ => rfl, List.forall_mem_cons.mpr ⟨fun _ => rfl, List.forall_mem_cons.mpr ⟨fun _ => rfl, List.forall_mem_cons.mpr ⟨fun z => absurd z (by decide), List.forall_mem_cons.mpr ⟨fun _ => rfl, List.forall_mem_cons.mpr ⟨fun _ => rfl, List.forall_mem_cons.mpr ⟨fun z => absurd z (by decide), fun _ h => absurd h List.not_mem_nil⟩⟩⟩⟩⟩⟩⟩⟩, List.forall_mem_cons.mpr ⟨List.forall_mem_cons.mpr ⟨fun z => absurd z (by decide), List.forall_mem_cons.mpr ⟨fun _ => rfl, List.forall_mem_cons.mpr ⟨fun _ => rfl, List.forall_mem_cons.mpr ⟨fun _ => rfl, List.forall_mem_cons.mpr ⟨fun z => absurd z (by decide), List.forall_mem_cons.mpr ⟨fun _ => rfl, List.forall_mem_cons.mpr ⟨fun _ => rfl, List.forall_mem_cons.mpr ⟨fun _ => rfl, fun _ h => absurd h List.not_mem_nil⟩⟩⟩⟩⟩⟩⟩⟩, List.forall_mem_cons.mpr ⟨List.forall_mem_cons.mpr ⟨fun z => absurd z (by decide), List.forall_mem_cons.mpr ⟨fun _ => rfl, List.forall_mem_cons.mpr ⟨fun _ => rfl, List.forall_mem_cons.mpr ⟨fun _ => rfl, List.forall_mem_cons.mpr ⟨fun z => absurd z (by decide), List.forall_mem_cons.mpr ⟨fun _ => rfl, List.forall_mem_cons.mpr ⟨fun _ => rfl, List.forall_mem_cons.mpr ⟨fun _ => rfl, fun _ h => absurd h List.not_mem_nil⟩⟩⟩⟩⟩⟩⟩⟩, List.forall_mem_cons.mpr ⟨List.forall_mem_cons.mpr ⟨fun z => absurd z (by decide), List.forall_mem_cons.mpr ⟨fun _ => rfl, List.forall_mem_cons.mpr ⟨fun _ => rfl, List.forall_mem_cons.mpr ⟨fun _ => rfl, List.forall_mem_cons.mpr ⟨fun z => absurd z (by decide), List.forall_mem_cons.mpr ⟨fun _ => rfl, List.forall_mem_cons.mpr ⟨fun _ => rfl, List.forall_mem_cons.mpr ⟨fun _ => rfl, fun _ h => absurd h List.not_mem_nil⟩⟩⟩⟩⟩⟩⟩⟩, List.forall_mem_cons.mpr ⟨List.forall_mem_cons.mpr ⟨fun z => absurd z (by decide), List.forall_mem_cons.mpr ⟨fun _ => rfl, List.forall_mem_cons.mpr ⟨fun z => absurd z (by decide), fun _ h => absurd h List.not_mem_nil⟩⟩⟩, fun _ h => absurd h List.not_mem_nil⟩⟩⟩⟩⟩⟩⟩⟩⟩⟩⟩⟩
theorem rxk_86 : rx_cm rx_X rx_P rxm_86 = true := by decide +kernel
theorem rxq_86 : rx_cq rxm_86 = true := by decide +kernel
theorem rxs_86 : rx_ST rx_P (rx_DF, rx_FK) rxm_86 := rx_cm_ok rxc_all rxk_86 rxh_86
theorem rxh_87 : ∀ ch ∈ rx_cd rxm_87, ∀ x ∈ ch, x.2.1 = 0 → x.2.2.1 = rx_sem x.2.2.2.1 := List.forall_mem_cons.mpr ⟨List.forall_mem_cons.mpr ⟨fun _ => rfl, List.forall_mem_cons.mpr ⟨fun _ => rfl, List.forall_mem_cons.mpr ⟨fun _ => rfl, List.forall_mem_cons.mpr ⟨fun _ => rfl, List.forall_mem_cons.mpr ⟨fun _ => rfl, List.forall_mem_cons.mpr ⟨fun _ => rfl, List.forall_mem_cons.mpr ⟨fun _ => rfl, List.forall_mem_cons.mpr ⟨fun z => absurd z (by decide), fun _ h => absurd h List.not_mem_nil⟩⟩⟩⟩⟩⟩⟩⟩, List.forall_mem_cons.mpr ⟨List.forall_mem_cons.mpr ⟨fun _ => rfl, fun _ h => absurd h List.not_mem_nil⟩, List.forall_mem_cons.mpr ⟨List.forall_mem_cons.mpr ⟨fun _ => rfl, List.forall_mem_cons.mpr ⟨fun _ => rfl, List.forall_mem_cons.mpr ⟨fun _ => rfl, List.forall_mem_cons.mpr ⟨fun _ => rfl, List.forall_mem_cons.mpr ⟨fun _ => rfl, List.forall_mem_cons.mpr ⟨fun _ => rfl, List.forall_mem_cons.mpr ⟨fun _ => rfl, List.forall_mem_cons.mpr ⟨fun _ => rfl, List.forall_mem_cons.mpr ⟨fun _ => rfl, List.forall_mem_cons.mpr ⟨fun z => absurd z (by decide), fun _ h => absurd h List.not_mem_nil⟩⟩⟩⟩⟩⟩⟩⟩⟩⟩, List.forall_mem_cons.mpr ⟨List.forall_mem_cons.mpr ⟨fun _ => rfl, List.forall_mem_cons.mpr ⟨fun _ => rfl, List.forall_mem_cons.mpr ⟨fun _ => rfl, List.forall_mem_cons.mpr ⟨fun _ => rfl, List.forall_mem_cons.mpr ⟨fun _ => rfl, List.forall_mem_cons.mpr ⟨fun _ => rfl, List.forall_mem_cons.mpr ⟨fun _ => rfl, List.forall_mem_cons.mpr ⟨fun _ => rfl, fun _ h => absurd h List.not_mem_nil⟩⟩⟩⟩⟩⟩⟩⟩, List.forall_mem_cons.mpr ⟨List.forall_mem_cons.mpr ⟨fun _ => rfl, List.forall_mem_cons.mpr ⟨fun _ => rfl, List.forall_mem_cons.mpr ⟨fun _ => rfl, List.forall_mem_cons.mpr ⟨fun _ => rfl, List.forall_mem_cons.mpr ⟨fun _ => rfl, List.forall_mem_cons.mpr ⟨fun _ => rfl, fun _ h => absurd h List.not_mem_nil⟩⟩⟩⟩⟩⟩, List.forall_mem_cons.mpr ⟨fun _ h => absurd h List.not_mem_nil, List.forall_mem_cons.mpr ⟨fun _ h => absurd h List.not_mem_nil, List.forall_mem_cons.mpr ⟨List.forall_mem_cons.mpr ⟨fun z => absurd z (by decide), fun _ h => absurd h List.not_mem_nil⟩, fun _ h => absurd h List.not_mem_nil⟩⟩⟩⟩⟩⟩⟩⟩
theorem rxk_87 : rx_cm rx_X rx_P rxm_87 = true := by decide +kernel
theorem rxq_87 : rx_cq rxm_87 = true := by decide +kernel
theorem rxs_87 : rx_ST rx_P (rx_DF, rx_FK) rxm_87 := rx_cm_ok rxc_all rxk_87 rxh_87
theorem rxh_88 : ∀ ch ∈ rx_cd rxm_88, ∀ x ∈ ch, x.2.1 = 0 → x.2.2.1 = rx_sem x.2.2.2.1 := List.forall_mem_cons.mpr ⟨List.forall_mem_cons.mpr ⟨fun _ => rfl, List.forall_mem_cons.mpr ⟨fun _ => rfl, List.forall_mem_cons.mpr ⟨fun _ => rfl, List.forall_mem_cons.mpr ⟨fun z => absurd z (by decide), List.forall_mem_cons.mpr ⟨fun _ => rfl, List.forall_mem_cons.mpr ⟨fun _ => rfl, List.forall_mem_cons.mpr ⟨fun z => absurd z (by decide), List.forall_mem_cons.mpr ⟨fun z => absurd z (by decide), fun _ h => absurd h List.not_mem_nil⟩⟩⟩⟩⟩⟩⟩⟩, fun _ h => absurd h List.not_mem_nil⟩
theorem rxk_88 : rx_cm rx_X rx_P rxm_88 = true := by decide +kernel
theorem rxq_88 : rx_cq rxm_88 = true := by decide +kernel
theorem rxs_88 : rx_ST rx_P (rx_DF, rx_FK) rxm_88 := rx_cm_ok rxc_all rxk_88 rxh_88
theorem rxh_89 : ∀ ch ∈ rx_cd rxm_89, ∀ x ∈ ch, x.2.1 = 0 → x.2.2.1 = rx_sem x.2.2.2.1 := List.forall_mem_cons.mpr ⟨List.forall_mem_cons.mpr ⟨fun _ => rfl, List.forall_mem_cons.mpr ⟨fun _ => rfl, List.forall_mem_cons.mpr ⟨fun _ => rfl, List.forall_mem_cons.mpr ⟨fun z => absurd z (by decide), List.forall_mem_cons.mpr ⟨fun _ => rfl, List.forall_mem_cons.mpr ⟨fun _ => rfl, List.forall_mem_cons.mpr ⟨fun z => absurd z (by decide), List.forall_mem_cons.mpr ⟨fun z => absurd z (by decide), fun _ h => absurd h List.not_mem_nil⟩⟩⟩⟩⟩⟩⟩⟩, fun _ h => absurd h List.not_mem_nil⟩
theorem rxk_89 : rx_cm rx_X rx_P rxm_89 = true := by decide +kernel
theorem rxq_89 : rx_cq rxm_89 = true := by decide +kernel
theorem rxs_89 : rx_ST rx_P (rx_DF, rx_FK) rxm_89 := rx_cm_ok rxc_all rxk_89 rxh_89
theorem rxh_90 : ∀ ch ∈ rx_cd rxm_90, ∀ x ∈ ch, x.2.1 = 0 → x.2.2.1 = rx_sem x.2.2.2.1 := List.forall_mem_cons.mpr ⟨List.forall_mem_cons.mpr ⟨fun _ => rfl, List.forall_mem_cons.mpr ⟨fun _ => rfl, List.forall_mem_cons.mpr ⟨fun _ => rfl, List.forall_mem_cons.mpr ⟨fun _ => rfl, List.forall_mem_cons.mpr ⟨fun z => absurd z (by decide), List.forall_mem_cons.mpr ⟨fun _ => rfl, List.forall_mem_cons.mpr ⟨fun _ => rfl, List.forall_mem_cons.mpr ⟨fun _ => rfl, List.forall_mem_cons.mpr ⟨fun z => absurd z (by decide), List.forall_mem_cons.mpr ⟨fun z => absurd z (by decide), fun _ h => absurd h List.not_mem_nil⟩⟩⟩⟩⟩⟩⟩⟩⟩⟩, fun _ h => absurd h List.not_mem_nil⟩
theorem rxk_90 : rx_cm rx_X rx_P rxm_90 = true := by decide +kernel
theorem rxq_90 : rx_cq rxm_90 = true := by decide +kernel
theorem rxs_90 : rx_ST rx_P (rx_DF, rx_FK) rxm_90 := rx_cm_ok rxc_all rxk_90 rxh_90
theorem rxh_91 : ∀ ch ∈ rx_cd rxm_91, ∀ x ∈ ch, x.2.1 = 0 → x.2.2.1 = rx_sem x.2.2.2.1 := List.forall_mem_cons.mpr ⟨List.forall_mem_cons.mpr ⟨fun _ => rfl, List.forall_mem_cons.mpr ⟨fun _ => rfl, List.forall_mem_cons.mpr ⟨fun z => absurd z (by decide), List.forall_mem_cons.mpr ⟨fun _ => rfl, List.forall_mem_cons.mpr ⟨fun z => absurd z (by decide), fun _ h => absurd h List.not_mem_nil⟩⟩⟩⟩⟩, fun _ h => absurd h List.not_mem_nil⟩
theorem rxk_91 : rx_cm rx_X rx_P rxm_91 = true := by decide +kernel
theorem rxq_91 : rx_cq rxm_91 = true := by decide +kernel
theorem rxs_91 : rx_ST rx_P (rx_DF, rx_FK) rxm_91 := rx_cm_ok rxc_all rxk_91 rxh_91
theorem rxh_92 : ∀ ch ∈ rx_cd rxm_92, ∀ x ∈ ch, x.2.1 = 0 → x.2.2.1 = rx_sem x.2.2.2.1 := List.forall_mem_cons.mpr ⟨List.forall_mem_cons.mpr ⟨fun _ => rfl, List.forall_mem_cons.mpr ⟨fun _ => rfl, List.forall_mem_cons.mpr ⟨fun _ => rfl, List.forall_mem_cons.mpr ⟨fun _ => rfl, List.forall_mem_cons.mpr ⟨fun z => absurd z (by decide), List.forall_mem_cons.mpr ⟨fun _ => rfl, fun _ h => absurd h List.not_mem_nil⟩⟩⟩⟩⟩⟩, List.forall_mem_cons.mpr ⟨List.forall_mem_cons.mpr ⟨fun z => absurd z (by decide), fun _ h => absurd h List.not_mem_nil⟩, fun _ h => absurd h List.not_mem_nil⟩⟩
theorem rxk_92 : rx_cm rx_X rx_P rxm_92 = true := by decide +kernel
theorem rxq_92 : rx_cq rxm_92 = true := by decide +kernel
theorem rxs_92 : rx_ST rx_P (rx_DF, rx_FK) rxm_92 := rx_cm_ok rxc_all rxk_92 rxh_92
theorem rxh_93 : ∀ ch ∈ rx_cd rxm_93, ∀ x ∈ ch, x.2.1 = 0 → x.2.2.1 = rx_sem x.2.2.2.1 := List.forall_mem_cons.mpr ⟨List.forall_mem_cons.mpr ⟨fun _ => rfl, List.forall_mem_cons.mpr ⟨fun _ => rfl, List.forall_mem_cons.mpr ⟨fun _ => rfl, List.forall_mem_cons.mpr ⟨fun z => absurd z (by decide), List.forall_mem_cons.mpr ⟨fun _ => rfl, List.forall_mem_cons.mpr ⟨fun _ => rfl, List.forall_mem_cons.mpr ⟨fun z => absurd z (by decide), List.forall_mem_cons.mpr ⟨fun _ => rfl, fun _ h => absurd h List.not_mem_nil⟩⟩⟩⟩⟩⟩⟩⟩, List.forall_mem_cons.mpr ⟨List.forall_mem_cons.mpr ⟨fun _ => rfl, List.forall_mem_cons.mpr ⟨fun z => absurd z (by decide), fun _ h => absurd h List.not_mem_nil⟩⟩, fun _ h => absurd h List.not_mem_nil⟩⟩
theorem rxk_93 : rx_cm rx_X rx_P rxm_93 = true := by decide +kernel
theorem rxq_93 : rx_cq rxm_93 = true := by decide +kernel
theorem rxs_93 : rx_ST rx_P (rx_DF, rx_FK) rxm_93 := rx_cm_ok rxc_all rxk_93 rxh_93
theorem rxh_94 : ∀ ch ∈ rx_cd rxm_94, ∀ x ∈ ch, x.2.1 = 0 → x.2.2.1 = rx_sem x.2.2.2.1 := List.forall_mem_cons.mpr ⟨List.forall_mem_cons.mpr ⟨fun _ => rfl, List.forall_mem_cons.mpr ⟨fun _ => rfl, List.forall_mem_cons.mpr ⟨fun _ => rfl, List.forall_mem_cons.mpr ⟨fun z => absurd z (by decide), List.forall_mem_cons.mpr ⟨fun _ => rfl, List.forall_mem_cons.mpr ⟨fun _ => rfl, List.forall_mem_cons.mpr ⟨fun z => absurd z (by decide), List.forall_mem_cons.mpr ⟨fun _ => rfl, fun _ h => absurd h List.not_mem_nil⟩⟩⟩⟩⟩⟩⟩⟩, List.forall_mem_cons.mpr ⟨List.forall_mem_cons.mpr ⟨fun _ => rfl, List.forall_mem_cons.mpr ⟨fun z => absurd z (by decide), fun _ h => absurd h List.not_mem_nil⟩⟩, fun _ h => absurd h List.not_mem_nil⟩⟩
theorem rxk_94 : rx_cm rx_X rx_P rxm_94 = true := by decide +kernel
theorem rxq_94 : rx_cq rxm_94 = true := by decide +kernel
theorem rxs_94 : rx_ST rx_P (rx_DF, rx_FK) rxm_94 := rx_cm_ok rxc_all rxk_94 rxh_94
theorem rxh_95 : ∀ ch ∈ rx_cd rxm_95, ∀ x ∈ ch, x.2.1 = 0 → x.2.2.1 = rx_sem x.2.2.2.1 := List.forall_mem_cons.mpr ⟨List.forall_mem_cons.mpr ⟨fun _ => rfl, List.forall_mem_cons.mpr ⟨fun _ => rfl, List.forall_mem_cons.mpr ⟨fun _ => rfl, List.forall_mem_cons.mpr ⟨fun _ => rfl, List.forall_mem_cons.mpr ⟨fun _ => rfl, List.forall_mem_cons.mpr ⟨fun _ => rfl, List.forall_mem_cons.mpr ⟨fun _ => rfl, List.forall_mem_cons.mpr ⟨fun _ => rfl, List.forall_mem_cons.mpr ⟨fun z => absurd z (by decide), List.forall_mem_cons.mpr ⟨fun _ => rfl, fun _ h => absurd h List.not_mem_nil⟩⟩⟩⟩⟩⟩⟩⟩⟩⟩, List.forall_mem_cons.mpr ⟨fun _ h => absurd h List.not_mem_nil, List.forall_mem_cons.mpr ⟨List.forall_mem_cons.mpr ⟨fun _ => rfl, List.forall_mem_cons.mpr ⟨fun z => absurd z (by decide), fun _ h => absurd h List.not_mem_nil⟩⟩, fun _ h => absurd h List.not_mem_nil⟩⟩⟩
theorem rxk_95 : rx_cm rx_X rx_P rxm_95 = true := by decide +kernel
theorem rxq_95 : rx_cq rxm_95 = true := by decide +kernel
theorem rxs_95 : rx_ST rx_P (rx_DF, rx_FK) rxm_95 := rx_cm_ok rxc_all rxk_95 rxh_95
theorem rxh_96 : ∀ ch ∈ rx_cd rxm_96, ∀ x ∈ ch, x.2.1 = 0 → x.2.2.1 = rx_sem x.2.2.2.1 := List.forall_mem_cons.mpr ⟨List.forall_mem_cons.mpr ⟨fun _ => rfl, List.forall_mem_cons.mpr ⟨fun _ => rfl, List.forall_mem_cons.mpr ⟨fun _ => rfl, List.forall_mem_cons.mpr ⟨fun _ => rfl, List.forall_mem_cons.mpr ⟨fun _ => rfl, List.forall_mem_cons.mpr ⟨fun _ => rfl, List.forall_mem_cons.mpr ⟨fun z => absurd z (by decide), List.forall_mem_cons.mpr ⟨fun _ => rfl, fun _ h => absurd h List.not_mem_nil⟩⟩⟩⟩⟩⟩⟩⟩, List.forall_mem_cons.mpr ⟨fun _ h => absurd h List.not_mem_nil, List.forall_mem_cons.mpr ⟨fun _ h => absurd h List.not_mem_nil, List.forall_mem_cons.mpr ⟨fun _ h => absurd h List.not_mem_nil, List.forall_mem_cons.mpr ⟨fun _ h => absurd h List.not_mem_nil, List.forall_mem_cons.mpr ⟨List.forall_mem_cons.mpr ⟨fun _ => rfl, List.forall_mem_cons.mpr ⟨fun z => absurd z (by decide), fun _ h => absurd h List.not_mem_nil⟩⟩, fun _ h => absurd h List.not_mem_nil⟩⟩⟩⟩⟩⟩
theorem rxk_96 : rx_cm rx_X rx_P rxm_96 = true := by decide +kernel
theorem rxq_96 : rx_cq rxm_96 = true := by decide +kernel
theorem rxs_96 : rx_ST rx_P (rx_DF, rx_FK) rxm_96 := rx_cm_ok rxc_all rxk_96 rxh_96
theorem rxh_97 : ∀ ch ∈ rx_cd rxm_97, ∀ x ∈ ch, x.2.1 = 0 → x.2.2.1 = rx_sem x.2.2.2.1 := List.forall_mem_cons.mpr ⟨List.forall_mem_cons.mpr ⟨fun _ => rfl, List.forall_mem_cons.mpr ⟨fun _ => rfl, List.forall_mem_cons.mpr ⟨fun _ => rfl, List.forall_mem_cons.mpr ⟨fun _ => rfl, List.forall_mem_cons.mpr ⟨fun _ => rfl, List.forall_mem_cons.mpr ⟨fun _ => rfl, List.forall_mem_cons.mpr ⟨fun z => absurd z (by decide), List.forall_mem_cons.mpr ⟨fun _ => rfl, fun _ h => absurd h List.not_mem_nil⟩⟩⟩⟩⟩⟩⟩⟩, List.forall_mem_cons.mpr ⟨fun _ h => absurd h List.not_mem_nil, List.forall_mem_cons.mpr ⟨List.forall_mem_cons.mpr ⟨fun _ => rfl, List.forall_mem_cons.mpr ⟨fun z => absurd z (by decide), fun _ h => absurd h List.not_mem_nil⟩⟩, fun _ h => absurd h List.not_mem_nil⟩⟩⟩
theorem rxk_97 : rx_cm rx_X rx_P rxm_97 = true := by decide +kernel
theorem rxq_97 : rx_cq rxm_97 = true := by decide +kernel
theorem rxs_97 : rx_ST rx_P (rx_DF, rx_FK) rxm_97 := rx_cm_ok rxc_all rxk_97 rxh_97
theorem rxh_98 : ∀ ch ∈ rx_cd rxm_98, ∀ x ∈ ch, x.2.1 = 0 → x.2.2.1 = rx_sem x.2.2.2.1 := List.forall_mem_cons.mpr ⟨List.forall_mem_cons.mpr ⟨fun _ => rfl, List.forall_mem_cons.mpr ⟨fun _ => rfl, List.forall_mem_cons.mpr ⟨fun _ => rfl, List.forall_mem_cons.mpr ⟨fun z => absurd z (by decide), List.forall_mem_cons.mpr ⟨fun _ => rfl, List.forall_mem_cons.mpr ⟨fun _ => rfl, List.forall_mem_cons.mpr ⟨fun _ => rfl, List.forall_mem_cons.mpr ⟨fun _ => rfl, fun _ h => absurd h List.not_mem_nil⟩⟩⟩⟩⟩⟩⟩⟩, List.forall_mem_cons.mpr ⟨List.forall_mem_cons.mpr ⟨fun _ => rfl, List.forall_mem_cons.mpr ⟨fun _ => rfl, List.forall_mem_cons.mpr ⟨fun _ => rfl, List.forall_mem_cons.mpr ⟨fun _ => rfl, List.forall_mem_cons.mpr ⟨fun _ => rfl, List.forall_mem_cons.mpr ⟨fun _ => rfl, List.forall_mem_cons.mpr ⟨fun z => absurd z (by decide), fun _ h => absurd h List.not_mem_nil⟩⟩⟩⟩⟩⟩⟩, fun _ h => absurd h List.not_mem_nil⟩⟩
theorem rxk_98 : rx_cm rx_X rx_P rxm_98 = true := by decide +kernel
theorem rxq_98 : rx_cq rxm_98 = true := by decide +kernel
theorem rxs_98 : rx_ST rx_P (rx_DF, rx_FK) rxm_98 := rx_cm_ok rxc_all rxk_98 rxh_98
theorem rxh_99 : ∀ ch ∈ rx_cd rxm_99, ∀ x ∈ ch, x.2.1 = 0 → x.2.2.1 = rx_sem x.2.2.2.1 := List.forall_mem_cons.mpr ⟨List.forall_mem_cons.mpr ⟨fun _ => rfl, List.forall_mem_cons.mpr ⟨fun _ => rfl, List.forall_mem_cons.mpr ⟨fun _ => rfl, List.forall_mem_cons.mpr ⟨fun z => absurd z (by decide), List.forall_mem_cons.mpr ⟨fun _ => rfl, List.forall_mem_cons.mpr ⟨fun _ => rfl, List.forall_mem_cons.mpr ⟨fun z => absurd z (by decide), List.forall_mem_cons.mpr ⟨fun _ => rfl, fun _ h => absurd h List.not_mem_nil⟩⟩⟩⟩⟩⟩⟩⟩, List.forall_mem_cons.mpr ⟨List.forall_mem_cons.mpr ⟨fun _ => rfl, List.forall_mem_cons.mpr ⟨fun z => absurd z (by decide), fun _ h => absurd h List.not_mem_nil⟩⟩, fun _ h => absurd h List.not_mem_nil⟩⟩
theorem rxk_99 : rx_cm rx_X rx_P rxm_99 = true := by decide +kernel
theorem rxq_99 : rx_cq rxm_99 = true := by decide +kernel
theorem rxs_99 : rx_ST rx_P (rx_DF, rx_FK) rxm_99 := rx_cm_ok rxc_all rxk_99 rxh_99
theorem rxh_100 : ∀ ch ∈ rx_cd rxm_100, ∀ x ∈ ch, x.2.1 = 0 → x.2.2.1 = rx_sem x.2.2.2.1 := List.forall_mem_cons.mpr ⟨List.forall_mem_cons.mpr ⟨fun _ => rfl, List.forall_mem_cons.mpr ⟨fun z => absurd z (by decide), List.forall_mem_cons.mpr ⟨fun _ => rfl, List.forall_mem_cons.mpr ⟨fun _ => rfl, List.forall_mem_cons.mpr ⟨fun _ => rfl, List.forall_mem_cons.mpr ⟨fun _ => rfl, List.forall_mem_cons.mpr ⟨fun _ => rfl, List.forall_mem_cons.mpr ⟨fun z => absurd z (by decide), List.forall_mem_cons.mpr ⟨fun _ => rfl, fun _ h => absurd h List.not_mem_nil⟩⟩⟩⟩⟩⟩⟩⟩⟩, List.forall_mem_cons.mpr ⟨fun _ h => absurd h List.not_mem_nil, List.forall_mem_cons.mpr ⟨List.forall_mem_cons.mpr ⟨fun _ => rfl, List.forall_mem_cons.mpr ⟨fun z => absurd z (by decide), List.forall_mem_cons.mpr ⟨fun _ => rfl, List.forall_mem_cons.mpr ⟨fun _ => rfl, List.forall_mem_cons.mpr ⟨fun _ => rfl, List.forall_mem_cons.mpr ⟨fun _ => rfl, List.forall_mem_cons.mpr ⟨fun _ => rfl, fun _ h => absurd h List.not_mem_nil⟩⟩⟩⟩⟩⟩⟩, List.forall_mem_cons.mpr ⟨List.forall_mem_cons.mpr ⟨fun _ => rfl, List.forall_mem_cons.mpr ⟨fun z => absurd z (by decide), fun _ h => absurd h List.not_mem_nil⟩⟩, fun _ h => absurd h List.not_mem_nil⟩⟩⟩⟩
theorem rxk_100 : rx_cm rx_X rx_P rxm_100 = true := by decide +kernel
theorem rxq_100 : rx_cq rxm_100 = true := by decide +kernel
theorem rxs_100 : rx_ST rx_P (rx_DF, rx_FK) rxm_100 := rx_cm_ok rxc_all rxk_100 rxh_100
theorem rxh_101 : ∀ ch ∈ rx_cd rxm_101, ∀ x ∈ ch, x.2.1 = 0 → x.2.2.1 = rx_sem x.2.2.2.1 := List.forall_mem_cons.mpr ⟨List.forall_mem_cons.mpr ⟨fun _ => rfl, List.forall_mem_cons.mpr ⟨fun z => absurd z (by decide), List.forall_mem_cons.mpr ⟨fun _ => rfl, fun _ h => absurd h List.not_mem_nil⟩⟩⟩, List.forall_mem_cons.mpr ⟨fun _ h => absurd h List.not_mem_nil, List.forall_mem_cons.mpr ⟨List.forall_mem_cons.mpr ⟨fun _ => rfl, List.forall_mem_cons.mpr ⟨fun z => absurd z (by decide), fun _ h => absurd h List.not_mem_nil⟩⟩, fun _ h => absurd h List.not_mem_nil⟩⟩⟩
theorem rxk_101 : rx_cm rx_X rx_P rxm_101 = true := by decide +kernel
theorem rxq_101 : rx_cq rxm_101 = true := by decide +kernel
theorem rxs_101 : rx_ST rx_P (rx_DF, rx_FK) rxm_101 := rx_cm_ok rxc_all rxk_101 rxh_101
theorem rxh_102 : ∀ ch ∈ rx_cd rxm_102, ∀ x ∈ ch, x.2.1 = 0 → x.2.2.1 = rx_sem x.2.2.2.1 := List.forall_mem_cons.mpr ⟨List.forall_mem_cons.mpr ⟨fun _ => rfl, List.forall_mem_cons.mpr ⟨fun _ => rfl, List.forall_mem_cons.mpr ⟨fun _ => rfl, List.forall_mem_cons.mpr ⟨fun z => absurd z (by decide), List.forall_mem_cons.mpr ⟨fun _ => rfl, List.forall_mem_cons.mpr ⟨fun _ => rfl, List.forall_mem_cons.mpr ⟨fun z => absurd z (by decide), List.forall_mem_cons.mpr ⟨fun _ => rfl, List.forall_mem_cons.mpr ⟨fun _ => rfl, List.forall_mem_cons.mpr ⟨fun _ => rfl, List.forall_mem_cons.mpr ⟨fun _ => rfl, fun _ h => absurd h List.not_mem_nil⟩⟩⟩⟩⟩⟩⟩⟩⟩⟩⟩, List.forall_mem_cons.mpr ⟨List.forall_mem_cons.mpr ⟨fun _ => rfl, List.forall_mem_cons.mpr ⟨fun _ => rfl, List.forall_mem_cons.mpr ⟨fun _ => rfl, List.forall_mem_cons.mpr ⟨fun _ => rfl, List.forall_mem_cons.mpr ⟨fun _ => rfl, List.forall_mem_cons.mpr ⟨fun _ => rfl, List.forall_mem_cons.mpr ⟨fun _ => rfl, List.forall_mem_cons.mpr ⟨fun _ => rfl, List.forall_mem_cons.mpr ⟨fun _ => rfl, List.forall_mem_cons.mpr ⟨fun _ => rfl, fun _ h => absurd h List.not_mem_nil⟩⟩⟩⟩⟩⟩⟩⟩⟩⟩, List.forall_mem_cons.mpr ⟨List.forall_mem_cons.mpr ⟨fun _ => rfl, List.forall_mem_cons.mpr ⟨fun _ => rfl, List.forall_mem_cons.mpr ⟨fun _ => rfl, List.forall_mem_cons.mpr ⟨fun _ => rfl, List.forall_mem_cons.mpr ⟨fun _ => rfl, List.forall_mem_cons.mpr ⟨fun _ => rfl, List.forall_mem_cons.mpr ⟨fun _ => rfl, List.forall_mem_cons.mpr ⟨fun _ => rfl, List.forall_mem_cons.mpr ⟨fun _ => rfl, fun _ h => absurd h List.not_mem_nil⟩⟩⟩⟩⟩⟩⟩⟩⟩, List.forall_mem_cons.mpr ⟨List.forall_mem_cons.mpr ⟨fun _ => rfl, List.forall_mem_cons.mpr ⟨fun _ => rfl, List.forall_mem_cons.mpr ⟨fun z => absurd z (by decide), List.forall_mem_cons.mpr ⟨fun z => absurd z (by decide), fun _ h => absurd h List.not_mem_nil⟩⟩⟩⟩, fun _ h => absurd h List.not_mem_nil⟩⟩⟩⟩
theorem rxk_102 : rx_cm rx_X rx_P rxm_102 = true := by decide +kernel
theorem rxq_102 : rx_cq rxm_102 = true := by decide +kernel
theorem rxs_102 : rx_ST rx_P (rx_DF, rx_FK) rxm_102 := rx_cm_ok rxc_all rxk_102 rxh_102
theorem rxh_103 : ∀ ch ∈ rx_cd rxm_103, ∀ x ∈ ch, x.2.1 = 0 → x.2.2.1 = rx_sem x.2.2.2.1 := List.forall_mem_cons.mpr ⟨List.forall_mem_cons.mpr ⟨fun _ => rfl, List.forall_mem_cons.mpr ⟨fun _ => rfl, List.forall_mem_cons.mpr ⟨fun _ => rfl, List.forall_mem_cons.mpr ⟨fun z => absurd z (by decide), List.forall_mem_cons.mpr ⟨fun _ => rfl, List.forall_mem_cons.mpr ⟨fun _ => rfl, List.forall_mem_cons.mpr ⟨fun _ => rfl, List.forall_mem_cons.mpr ⟨fun _ => rfl, List.forall_mem_cons.mpr ⟨fun _ => rfl, List.forall_mem_cons.mpr ⟨fun _ => rfl, fun _ h => absurd h List.not_mem_nil⟩⟩⟩⟩⟩⟩⟩⟩⟩⟩, List.forall_mem_cons.mpr ⟨List.forall_mem_cons.mpr ⟨fun _ => rfl, List.forall_mem_cons.mpr ⟨fun z => absurd z (by decide), fun _ h => absurd h List.not_mem_nil⟩⟩, fun _ h => absurd h List.not_mem_nil⟩⟩
theorem rxk_103 : rx_cm rx_X rx_P rxm_103 = true := by decide +kernel
theorem rxq_103 : rx_cq rxm_103 = true := by decide +kernel
theorem rxs_103 : rx_ST rx_P (rx_DF, rx_FK) rxm_103 := rx_cm_ok rxc_all rxk_103 rxh_103
theorem rxh_104 : ∀ ch ∈ rx_cd rxm_104, ∀ x ∈ ch, x.2.1 = 0 → x.2.2.1 = rx_sem x.2.2.2.1 := List.forall_mem_cons.mpr ⟨List.forall_mem_cons.mpr ⟨fun _ => rfl, List.forall_mem_cons.mpr ⟨fun z => absurd z (by decide), List.forall_mem_cons.mpr ⟨fun _ => rfl, List.forall_mem_cons.mpr ⟨fun _ => rfl, List.forall_mem_cons.mpr ⟨fun _ => rfl, List.forall_mem_cons.mpr ⟨fun _ => rfl, List.forall_mem_cons.mpr ⟨fun _ => rfl, List.forall_mem_cons.mpr ⟨fun _ => rfl, List.forall_mem_cons.mpr ⟨fun _ => rfl, fun _ h => absurd h List.not_mem_nil⟩⟩⟩⟩⟩⟩⟩⟩⟩, List.forall_mem_cons.mpr ⟨List.forall_mem_cons.mpr ⟨fun _ => rfl, List.forall_mem_cons.mpr ⟨fun _ => rfl, List.forall_mem_cons.mpr ⟨fun _ => rfl, List.forall_mem_cons.mpr ⟨fun _ => rfl, List.forall_mem_cons.mpr ⟨fun _ => rfl, List.forall_mem_cons.mpr ⟨fun _ => rfl, List.forall_mem_cons.mpr ⟨fun _ => rfl, List.forall_mem_cons.mpr ⟨fun z => absurd z (by decide), fun _ h => absurd h List.not_mem_nil⟩⟩⟩⟩⟩⟩⟩⟩, List.forall_mem_cons.mpr ⟨List.forall_mem_cons.mpr ⟨fun _ => rfl, List.forall_mem_cons.mpr ⟨fun _ => rfl, List.forall_mem_cons.mpr ⟨fun _ => rfl, List.forall_mem_cons.mpr ⟨fun z => absurd z (by decide), fun _ h => absurd h List.not_mem_nil⟩⟩⟩⟩, fun _ h => absurd h List.not_mem_nil⟩⟩⟩
theorem rxk_104 : rx_cm rx_X rx_P rxm_104 = true := by decide +kernel
theorem rxq_104 : rx_cq rxm_104 = true := by decide +kernel
theorem rxs_104 : rx_ST rx_P (rx_DF, rx_FK) rxm_104 := rx_cm_ok rxc_all rxk_104 rxh_104
theorem rxh_105 : ∀ ch ∈ rx_cd rxm_105, ∀ x ∈ ch, x.2.1 = 0 → x.2.2.1 = rx_sem x.2.2.2.1 := List.forall_mem_cons.mpr ⟨List.forall_mem_cons.mpr ⟨fun _ => rfl, List.forall_mem_cons.mpr ⟨fun _ => rfl, List.forall_mem_cons.mpr ⟨fun z => absurd z (by decide), List.forall_mem_cons.mpr ⟨fun _ => rfl, List.forall_mem_cons.mpr ⟨fun _ => rfl, List.forall_mem_cons.mpr ⟨fun _ => rfl, List.forall_mem_cons.mpr ⟨fun _ => rfl, List.forall_mem_cons.mpr ⟨fun _ => rfl, List.forall_mem_cons.mpr ⟨fun _ => rfl, List.forall_mem_cons.mpr ⟨fun _ => rfl, fun _ h => absurd h List.not_mem_nil⟩⟩⟩⟩⟩⟩⟩⟩⟩⟩, List.forall_mem_cons.mpr ⟨List.forall_mem_cons.mpr ⟨fun z => absurd z (by decide), List.forall_mem_cons.mpr ⟨fun _ => rfl, List.forall_mem_cons.mpr ⟨fun _ => rfl, List.forall_mem_cons.mpr ⟨fun _ => rfl, List.forall_mem_cons.mpr ⟨fun _ => rfl, List.forall_mem_cons.mpr ⟨fun _ => rfl, List.forall_mem_cons.mpr ⟨fun _ => rfl, List.forall_mem_cons.mpr ⟨fun _ => rfl, fun _ h => absurd h List.not_mem_nil⟩⟩⟩⟩⟩⟩⟩⟩, List.forall_mem_cons.mpr ⟨fun _ h => absurd h List.not_mem_nil, List.forall_mem_cons.mpr ⟨fun _ h => absurd h List.not_mem_nil, List.forall_mem_cons.mpr ⟨fun _ h => absurd h List.not_mem_nil, List.forall_mem_cons.mpr ⟨List.forall_mem_cons.mpr ⟨fun z => absurd z (by decide), fun _ h => absurd h List.not_mem_nil⟩, fun _ h => absurd h List.not_mem_nil⟩⟩⟩⟩⟩⟩
theorem rxk_105 : rx_cm rx_X rx_P rxm_105 = true := by decide +kernel
theorem rxq_105 : rx_cq rxm_105 = true := by decide +kernel
theorem rxs_105 : rx_ST rx_P (rx_DF, rx_FK) rxm_105 := rx_cm_ok rxc_all rxk_105 rxh_105
theorem rxh_106 : ∀ ch ∈ rx_cd rxm_106, ∀ x ∈ ch, x.2.1 = 0 → x.2.2.1 = rx_sem x.2.2.2.1 := List.forall_mem_cons.mpr ⟨List.forall_mem_cons.mpr ⟨fun _ => rfl, List.forall_mem_cons.mpr ⟨fun z => absurd z (by decide), List.forall_mem_cons.mpr ⟨fun _ => rfl, List.forall_mem_cons.mpr ⟨fun _ => rfl, List.forall_mem_cons.mpr ⟨fun _ => rfl, List.forall_mem_cons.mpr ⟨fun _ => rfl, List.forall_mem_cons.mpr ⟨fun _ => rfl, List.forall_mem_cons.mpr ⟨fun _ => rfl, fun _ h => absurd h List.not_mem_nil⟩⟩⟩⟩⟩⟩⟩⟩, List.forall_mem_cons.mpr ⟨List.forall_mem_cons.mpr ⟨fun _ => rfl, List.forall_mem_cons.mpr ⟨fun z => absurd z (by decide), List.forall_mem_cons.mpr ⟨fun _ => rfl, List.forall_mem_cons.mpr ⟨fun _ => rfl, List.forall_mem_cons.mpr ⟨fun _ => rfl, List.forall_mem_cons.mpr ⟨fun _ => rfl, List.forall_mem_cons.mpr ⟨fun z => absurd z (by decide), fun _ h => absurd h List.not_mem_nil⟩⟩⟩⟩⟩⟩⟩, fun _ h => absurd h List.not_mem_nil⟩⟩
theorem rxk_106 : rx_cm rx_X rx_P rxm_106 = true := by decide +kernel
theorem rxq_106 : rx_cq rxm_106 = true := by decide +kernel
theorem rxs_106 : rx_ST rx_P (rx_DF, rx_FK) rxm_106 := rx_cm_ok rxc_all rxk_106 rxh_106
theorem rxh_107 : ∀ ch ∈ rx_cd rxm_107, ∀ x ∈ ch, x.2.1 = 0 → x.2.2.1 = rx_sem x.2.2.2.1 := List.forall_mem_cons.mpr ⟨List.forall_mem_cons.mpr ⟨fun _ => rfl, List.forall_mem_cons.mpr ⟨fun _ => rfl, List.forall_mem_cons.mpr ⟨fun _ => rfl, List.forall_mem_cons.mpr ⟨fun z => absurd z (by decide), List.forall_mem_cons.mpr ⟨fun _ => rfl, List.forall_mem_cons.mpr ⟨fun _ => rfl, List.forall_mem_cons.mpr ⟨fun _ => rfl, List.forall_mem_cons.mpr ⟨fun _ => rfl, List.forall_mem_cons.mpr ⟨fun z => absurd z (by decide), fun _ h => absurd h List.not_mem_nil⟩⟩⟩⟩⟩⟩⟩⟩⟩, List.forall_mem_cons.mpr ⟨List.forall_mem_cons.mpr ⟨fun _ => rfl, List.forall_mem_cons.mpr ⟨fun z => absurd z (by decide), List.forall_mem_cons.mpr ⟨fun _ => rfl, List.forall_mem_cons.mpr ⟨fun _ => rfl, List.forall_mem_cons.mpr ⟨fun _ => rfl, List.forall_mem_cons.mpr ⟨fun z => absurd z (by decide), fun _ h => absurd h List.not_mem_nil⟩⟩⟩⟩⟩⟩, fun _ h => absurd h List.not_mem_nil⟩⟩
theorem rxk_107 : rx_cm rx_X rx_P rxm_107 = true := by decide +kernel
theorem rxq_107 : rx_cq rxm_107 = true := by decide +kernel
theorem rxs_107 : rx_ST rx_P (rx_DF, rx_FK) rxm_107 := rx_cm_ok rxc_all rxk_107 rxh_107
theorem rxh_108 : ∀ ch ∈ rx_cd rxm_108, ∀ x ∈ ch, x.2.1 = 0 → x.2.2.1 = rx_sem x.2.2.2.1 := List.forall_mem_cons.mpr ⟨List.forall_mem_cons.mpr ⟨fun _ => rfl, List.forall_mem_cons.mpr ⟨fun _ => rfl, List.forall_mem_cons.mpr ⟨fun _ => rfl, List.forall_mem_cons.mpr ⟨fun _ => rfl, List.forall_mem_cons.mpr ⟨fun _ => rfl, List.forall_mem_cons.mpr ⟨fun _ => rfl, List.forall_mem_cons.mpr ⟨fun _ => rfl, fun _ h => absurd h List.not_mem_nil⟩⟩⟩⟩⟩⟩⟩, List.forall_mem_cons.mpr ⟨List.forall_mem_cons.mpr ⟨fun _ => rfl, List.forall_mem_cons.mpr ⟨fun _ => rfl, fun _ h => absurd h List.not_mem_nil⟩⟩, List.forall_mem_cons.mpr ⟨List.forall_mem_cons.mpr ⟨fun _ => rfl, List.forall_mem_cons.mpr ⟨fun _ => rfl, List.forall_mem_cons.mpr ⟨fun _ => rfl, List.forall_mem_cons.mpr ⟨fun z => absurd z (by decide), List.forall_mem_cons.mpr ⟨fun _ => rfl, fun _ h => absurd h List.not_mem_nil⟩⟩⟩⟩⟩, List.forall_mem_cons.mpr ⟨fun _ h => absurd h List.not_mem_nil, List.forall_mem_cons.mpr ⟨fun _ h => absurd h List.not_mem_nil, List.forall_mem_cons.mpr ⟨List.forall_mem_cons.mpr ⟨fun _ => rfl, List.forall_mem_cons.mpr ⟨fun _ => rfl, List.forall_mem_cons.mpr ⟨fun z => absurd z (by decide), List.forall_mem_cons.mpr ⟨fun _ => rfl, List.forall_mem_cons.mpr ⟨fun _ => rfl, List.forall_mem_cons.mpr ⟨fun _ => rfl, List.forall_mem_cons.mpr ⟨fun z => absurd z (by decide), fun _ h => absurd h List.not_mem_nil⟩⟩⟩⟩⟩⟩⟩, List.forall_mem_cons.mpr ⟨List.forall_mem_cons.mpr ⟨fun _ => rfl, List.forall_mem_cons.mpr ⟨fun _ => rfl, List.forall_mem_cons.mpr ⟨fun _ => rfl, List.forall_mem_cons.mpr ⟨fun _ => rfl, List.forall_mem_cons.mpr ⟨fun _ => rfl, List.forall_mem_cons.mpr ⟨fun _ => rfl, List.forall_mem_cons.mpr ⟨fun z => absurd z (by decide), List.forall_mem_cons.mpr ⟨fun _ => rfl, fun _ h => absurd h List.not_mem_nil⟩⟩⟩⟩⟩⟩⟩⟩, List.forall_mem_cons.mpr ⟨fun _ h => absurd h List.not_mem_nil, List.forall_mem_cons.mpr ⟨fun _ h => absurd h List.not_mem_nil, List.forall_mem_cons.mpr ⟨List.forall_mem_cons.mpr ⟨fun z => absurd z (by decide), fun _ h => absurd h List.not_mem_nil⟩, fun _ h => absurd h List.not_mem_nil⟩⟩⟩⟩⟩⟩⟩⟩⟩⟩
theorem rxk_108 : rx_cm rx_X rx_P rxm_108 = true := by decide +kernel
theorem rxq_108 : rx_cq rxm_108 = true := by decide +kernel
theorem rxs_108 : rx_ST rx_P (rx_DF, rx_FK) rxm_108 := rx_cm_ok rxc_all rxk_108 rxh_108
theorem rxh_109 : ∀ ch ∈ rx_cd rxm_109, ∀ x ∈ ch, x.2.1 = 0 → x.2.2.1 = rx_sem x.2.2.2.1 := List.forall_mem_cons.mpr ⟨List.forall_mem_cons.mpr ⟨fun _ => rfl, List.forall_mem_cons.mpr ⟨fun _ => rfl, List.forall_mem_cons.mpr ⟨fun _ => rfl, List.forall_mem_cons.mpr ⟨fun z => absurd z (by decide), List.forall_mem_cons.mpr ⟨fun _ => rfl, List.forall_mem_cons.mpr ⟨fun _ => rfl, List.forall_mem_cons.mpr ⟨fun z => absurd z (by decide), fun _ h => absurd h List.not_mem_nil⟩⟩⟩⟩⟩⟩⟩, fun _ h => absurd h List.not_mem_nil⟩
theorem rxk_109 : rx_cm rx_X rx_P rxm_109 = true := by decide +kernel
theorem rxq_109 : rx_cq rxm_109 = true := by decide +kernel
theorem rxs_109 : rx_ST rx_P (rx_DF, rx_FK) rxm_109 := rx_cm_ok rxc_all rxk_109 rxh_109
theorem rxh_110 : ∀ ch ∈ rx_cd rxm_110, ∀ x ∈ ch, x.2.1 = 0 → x.2.2.1 = rx_sem x.2.2.2.1 := List.forall_mem_cons.mpr ⟨List.forall_mem_cons.mpr ⟨fun _ => rfl, List.forall_mem_cons.mpr ⟨fun _ => rfl, List.forall_mem_cons.mpr ⟨fun _ => rfl, List.forall_mem_cons.mpr ⟨fun _ => rfl, List.forall_mem_cons.mpr ⟨fun _ => rfl, List.forall_mem_cons.mpr ⟨fun _ => rfl, List.forall_mem_cons.mpr ⟨fun _ => rfl, List.forall_mem_cons.mpr ⟨fun _ => rfl, fun _ h => absurd h List.not_mem_nil⟩⟩⟩⟩⟩⟩⟩⟩, List.forall_mem_cons.mpr ⟨List.forall_mem_cons.mpr ⟨fun z => absurd z (by decide), List.forall_mem_cons.mpr ⟨fun _ => rfl, List.forall_mem_cons.mpr ⟨fun _ => rfl, fun _ h => absurd h List.not_mem_nil⟩⟩⟩, List.forall_mem_cons.mpr ⟨fun _ h => absurd h List.not_mem_nil, List.forall_mem_cons.mpr ⟨List.forall_mem_cons.mpr ⟨fun _ => rfl, List.forall_mem_cons.mpr ⟨fun _ => rfl, List.forall_mem_cons.mpr ⟨fun z => absurd z (by decide), List.forall_mem_cons.mpr ⟨fun z => absurd z (by decide), List.forall_mem_cons.mpr ⟨fun _ => rfl, List.forall_mem_cons.mpr ⟨fun _ => rfl, fun _ h => absurd h List.not_mem_nil⟩⟩⟩⟩⟩⟩, List.forall_mem_cons.mpr ⟨List.forall_mem_cons.mpr ⟨fun z => absurd z (by decide), List.forall_mem_cons.mpr ⟨fun z => absurd z (by decide), List.forall_mem_cons.mpr ⟨fun _ => rfl, List.forall_mem_cons.mpr ⟨fun _ => rfl, List.forall_mem_cons.mpr ⟨fun _ => rfl, List.forall_mem_cons.mpr ⟨fun _ => rfl, List.forall_mem_cons.mpr ⟨fun _ => rfl, List.forall_mem_cons.mpr ⟨fun z => absurd z (by decide), fun _ h => absurd h List.not_mem_nil⟩⟩⟩⟩⟩⟩⟩⟩, List.forall_mem_cons.mpr ⟨List.forall_mem_cons.mpr ⟨fun _ => rfl, List.forall_mem_cons.mpr ⟨fun _ => rfl, List.forall_mem_cons.mpr ⟨fun z => absurd z (by decide), List.forall_mem_cons.mpr ⟨fun _ => rfl, List.forall_mem_cons.mpr ⟨fun z => absurd z (by decide), List.forall_mem_cons.mpr ⟨fun _ => rfl, List.forall_mem_cons.mpr ⟨fun z => absurd z (by decide), List.forall_mem_cons.mpr ⟨fun _ => rfl, fun _ h => absurd h List.not_mem_nil⟩⟩⟩⟩⟩⟩⟩⟩, List.forall_mem_cons.mpr ⟨List.forall_mem_cons.mpr ⟨fun _ => rfl, List.forall_mem_cons.mpr ⟨fun _ => rfl, List.forall_mem_cons.mpr ⟨fun _ => rfl, List.forall_mem_cons.mpr ⟨fun _ => rfl, List.forall_mem_cons.mpr ⟨fun z => absurd z (by decide), List.forall_mem_cons.mpr ⟨fun _ => rfl, List.forall_mem_cons.mpr ⟨fun _ => rfl, fun _ h => absurd h List.not_mem_nil⟩⟩⟩⟩⟩⟩⟩, List.forall_mem_cons.mpr ⟨List.forall_mem_cons.mpr ⟨fun z => absurd z (by decide), List.forall_mem_cons.mpr ⟨fun z => absurd z (by decide), List.forall_mem_cons.mpr ⟨fun _ => rfl, List.forall_mem_cons.mpr ⟨fun z => absurd z (by decide), fun _ h => absurd h List.not_mem_nil⟩⟩⟩⟩, fun _ h => absurd h List.not_mem_nil⟩⟩⟩⟩⟩⟩⟩⟩
theorem rxk_110 : rx_cm rx_X rx_P rxm_110 = true := by decide +kernel
theorem rxq_110 : rx_cq rxm_110 = true := by decide +kernel
theorem rxs_110 : rx_ST rx_P (rx_DF, rx_FK) rxm_110 := rx_cm_ok rxc_all rxk_110 rxh_110
theorem rxh_111 : ∀ ch ∈ rx_cd rxm_111, ∀ x ∈ ch, x.2.1 = 0 → x.2.2.1 = rx_sem x.2.2.2.1 := List.forall_mem_cons.mpr ⟨List.forall_mem_cons.mpr ⟨fun _ => rfl, List.forall_mem_cons.mpr ⟨fun _ => rfl, List.forall_mem_cons.mpr ⟨fun _ => rfl, List.forall_mem_cons.mpr ⟨fun z => absurd z (by decide), List.forall_mem_cons.mpr ⟨fun _ => rfl, fun _ h => absurd h List.not_mem_nil⟩⟩⟩⟩⟩, List.forall_mem_cons.mpr ⟨List.forall_mem_cons.mpr ⟨fun _ => rfl, List.forall_mem_cons.mpr ⟨fun z => absurd z (by decide), fun _ h => absurd h List.not_mem_nil⟩⟩, fun _ h => absurd h List.not_mem_nil⟩⟩
theorem rxk_111 : rx_cm rx_X rx_P rxm_111 = true := by decide +kernel
theorem rxq_111 : rx_cq rxm_111 = true := by decide +kernel
theorem rxs_111 : rx_ST rx_P (rx_DF, rx_FK) rxm_111 := rx_cm_ok rxc_all rxk_111 rxh_111
theorem rxh_112 : ∀ ch ∈ rx_cd rxm_112, ∀ x ∈ ch, x.2.1 = 0 → x.2.2.1 = rx_sem x.2.2.2.1 := List.forall_mem_cons.mpr ⟨List.forall_mem_cons.mpr ⟨fun _ => rfl, List.forall_mem_cons.mpr ⟨fun _ => rfl, List.forall_mem_cons.mpr ⟨fun _ => rfl, List.forall_mem_cons.mpr ⟨fun z => absurd z (by decide), List.forall_mem_cons.mpr ⟨fun _ => rfl, List.forall_mem_cons.mpr ⟨fun _ => rfl, List.forall_mem_cons.mpr ⟨fun z => absurd z (by decide), fun _ h => absurd h List.not_mem_nil⟩⟩⟩⟩⟩⟩⟩, fun _ h => absurd h List.not_mem_nil⟩
theorem rxk_112 : rx_cm rx_X rx_P rxm_112 = true := by decide +kernel
theorem rxq_112 : rx_cq rxm_112 = true := by decide +kernel
theorem rxs_112 : rx_ST rx_P (rx_DF, rx_FK) rxm_112 := rx_cm_ok rxc_all rxk_112 rxh_112
theorem rxh_113 : ∀ ch ∈ rx_cd rxm_113, ∀ x ∈ ch, x.2.1 = 0 → x.2.2.1 = rx_sem x.2.2.2.1 := List.forall_mem_cons.mpr ⟨List.forall_mem_cons.mpr ⟨fun _ => rfl, List.forall_mem_cons.mpr ⟨fun _ => rfl, List.forall_mem_cons.mpr ⟨fun _ => rfl, List.forall_mem_cons.mpr ⟨fun _ => rfl, List.forall_mem_cons.mpr ⟨fun _ => rfl, List.forall_mem_cons.mpr ⟨fun z => absurd z (by decide), List.forall_mem_cons.mpr ⟨fun z => absurd z (by decide), fun _ h => absurd h List.not_mem_nil⟩⟩⟩⟩⟩⟩⟩, fun _ h => absurd h List.not_mem_nil⟩
theorem rxk_113 : rx_cm rx_X rx_P rxm_113 = true := by decide +kernel
theorem rxq_113 : rx_cq rxm_113 = true := by decide +kernel
theorem rxs_113 : rx_ST rx_P (rx_DF, rx_FK) rxm_113 := rx_cm_ok rxc_all rxk_113 rxh_113
theorem rxh_114 : ∀ ch ∈ rx_cd rxm_114, ∀ x ∈ ch, x.2.1 = 0 → x.2.2.1 = rx_sem x.2.2.2.1 := List.forall_mem_cons.mpr ⟨List.forall_mem_cons.mpr ⟨fun _ => rfl, List.forall_mem_cons.mpr ⟨fun _ => rfl, List.forall_mem_cons.mpr ⟨fun _ => rfl, List.forall_mem_cons.mpr ⟨fun _ => rfl, List.forall_mem_cons.mpr ⟨fun _ => rfl, List.forall_mem_cons.mpr ⟨fun _ => rfl, List.forall_mem_cons.mpr ⟨fun z => absurd z (by decide), List.forall_mem_cons.mpr ⟨fun _ => rfl, List.forall_mem_cons.mpr ⟨fun _ => rfl, List.forall_mem_cons.mpr ⟨fun _ => rfl, fun _ h => absurd h List.not_mem_nil⟩⟩⟩⟩⟩⟩⟩⟩⟩⟩, List.forall_mem_cons.mpr ⟨List.forall_mem_cons.mpr ⟨fun _ => rfl, List.forall_mem_cons.mpr ⟨fun _ => rfl, List.forall_mem_cons.mpr ⟨fun _ => rfl, List.forall_mem_cons.mpr ⟨fun z => absurd z (by decide), List.forall_mem_cons.mpr ⟨fun _ => rfl, List.forall_mem_cons.mpr ⟨fun _ => rfl, List.forall_mem_cons.mpr ⟨fun _ => rfl, List.forall_mem_cons.mpr ⟨fun _ => rfl, List.forall_mem_cons.mpr ⟨fun _ => rfl, List.forall_mem_cons.mpr ⟨fun _ => rfl, fun _ h => absurd h List.not_mem_nil⟩⟩⟩⟩⟩⟩⟩⟩⟩⟩, List.forall_mem_cons.mpr ⟨List.forall_mem_cons.mpr ⟨fun _ => rfl, List.forall_mem_cons.mpr ⟨fun z => absurd z (by decide), List.forall_mem_cons.mpr ⟨fun z => absurd z (by decide), fun _ h => absurd h List.not_mem_nil⟩⟩⟩, fun _ h => absurd h List.not_mem_nil⟩⟩⟩
theorem rxk_114 : rx_cm rx_X rx_P rxm_114 = true := by decide +kernel
theorem rxq_114 : rx_cq rxm_114 = true := by decide +kernel
theorem rxs_114 : rx_ST rx_P (rx_DF, rx_FK) rxm_114 := rx_cm_ok rxc_all rxk_114 rxh_114
theorem rxh_115 : ∀ ch ∈ rx_cd rxm_115, ∀ x ∈ ch, x.2.1 = 0 → x.2.2.1 = rx_sem x.2.2.2.1 := List.forall_mem_cons.mpr ⟨List.forall_mem_cons.mpr ⟨fun _ => rfl, List.forall_mem_cons.mpr ⟨fun z => absurd z (by decide), List.forall_mem_cons.mpr ⟨fun _ => rfl, List.forall_mem_cons.mpr ⟨fun _ => rfl, List.forall_mem_cons.mpr ⟨fun _ => rfl, List.forall_mem_cons.mpr ⟨fun z => absurd z (by decide), fun _ h => absurd h List.not_mem_nil⟩⟩⟩⟩⟩⟩, fun _ h => absurd h List.not_mem_nil⟩
theorem rxk_115 : rx_cm rx_X rx_P rxm_115 = true := by decide +kernel
theorem rxq_115 : rx_cq rxm_115 = true := by decide +kernel
theorem rxs_115 : rx_ST rx_P (rx_DF, rx_FK) rxm_115 := rx_cm_ok rxc_all rxk_115 rxh_115
theorem rxh_116 : ∀ ch ∈ rx_cd rxm_116, ∀ x ∈ ch, x.2.1 = 0 → x.2.2.1 = rx_sem x.2.2.2.1 := List.forall_mem_cons.mpr ⟨List.forall_mem_cons.mpr ⟨fun _ => rfl, List.forall_mem_cons.mpr ⟨fun _ => rfl, List.forall_mem_cons.mpr ⟨fun _ => rfl, List.forall_mem_cons.mpr ⟨fun _ => rfl, List.forall_mem_cons.mpr ⟨fun _ => rfl, List.forall_mem_cons.mpr ⟨fun _ => rfl, List.forall_mem_cons.mpr ⟨fun _ => rfl, List.forall_mem_cons.mpr ⟨fun _ => rfl, List.forall_mem_cons.mpr ⟨fun _ => rfl, List.forall_mem_cons.mpr ⟨fun _ => rfl, fun _ h => absurd h List.not_mem_nil⟩⟩⟩⟩⟩⟩⟩⟩⟩⟩, List.forall_mem_cons.mpr ⟨List.forall_mem_cons.mpr ⟨fun _ => rfl, List.forall_mem_cons.mpr ⟨fun _ => rfl, List.forall_mem_cons.mpr ⟨fun _ => rfl, List.forall_mem_cons.mpr ⟨fun _ => rfl, List.forall_mem_cons.mpr ⟨fun z => absurd z (by decide), List.forall_mem_cons.mpr ⟨fun _ => rfl, List.forall_mem_cons.mpr ⟨fun z => absurd z (by decide), fun _ h => absurd h List.not_mem_nil⟩⟩⟩⟩⟩⟩⟩, fun _ h => absurd h List.not_mem_nil⟩⟩
theorem rxk_116 : rx_cm rx_X rx_P rxm_116 = true := by decide +kernel
theorem rxq_116 : rx_cq rxm_116 = true := by decide +kernel
theorem rxs_116 : rx_ST rx_P (rx_DF, rx_FK) rxm_116 := rx_cm_ok rxc_all rxk_116 rxh_116
theorem rxh_117 : ∀ ch ∈ rx_cd rxm_117, ∀ x ∈ ch, x.2.1 = 0 → x.2.2.1 = rx_sem x.2.2.2.1 := List.forall_mem_cons.mpr ⟨List.forall_mem_cons.mpr ⟨fun _ => rfl, List.forall_mem_cons.mpr ⟨fun _ => rfl, List.forall_mem_cons.mpr ⟨fun _ => rfl, List.forall_mem_cons.mpr ⟨fun _ => rfl, List.forall_mem_cons.mpr ⟨fun z => absurd z (by decide), List.forall_mem_cons.mpr ⟨fun _ => rfl, fun _ h => absurd h List.not_mem_nil⟩⟩⟩⟩⟩⟩, List.forall_mem_cons.mpr ⟨fun _ h => absurd h List.not_mem_nil, List.forall_mem_cons.mpr ⟨fun _ h => absurd h List.not_mem_nil, List.forall_mem_cons.mpr ⟨List.forall_mem_cons.mpr ⟨fun z => absurd z (by decide), fun _ h => absurd h List.not_mem_nil⟩, fun _ h => absurd h List.not_mem_nil⟩⟩⟩⟩
theorem rxk_117 : rx_cm rx_X rx_P rxm_117 = true := by decide +kernel
theorem rxq_117 : rx_cq rxm_117 = true := by decide +kernel
theorem rxs_117 : rx_ST rx_P (rx_DF, rx_FK) rxm_117 := rx_cm_ok rxc_all rxk_117 rxh_117
theorem rxh_118 : ∀ ch ∈ rx_cd rxm_118, ∀ x ∈ ch, x.2.1 = 0 → x.2.2.1 = rx_sem x.2.2.2.1 := List.forall_mem_cons.mpr ⟨List.forall_mem_cons.mpr ⟨fun _ => rfl, List.forall_mem_cons.mpr ⟨fun _ => rfl, List.forall_mem_cons.mpr ⟨fun z => absurd z (by decide), List.forall_mem_cons.mpr ⟨fun _ => rfl, fun _ h => absurd h List.not_mem_nil⟩⟩⟩⟩, List.forall_mem_cons.mpr ⟨List.forall_mem_cons.mpr ⟨fun _ => rfl, List.forall_mem_cons.mpr ⟨fun z => absurd z (by decide), fun _ h => absurd h List.not_mem_nil⟩⟩, fun _ h => absurd h List.not_mem_nil⟩⟩
theorem rxk_118 : rx_cm rx_X rx_P rxm_118 = true := by decide +kernel
theorem rxq_118 : rx_cq rxm_118 = true := by decide +kernel
theorem rxs_118 : rx_ST rx_P (rx_DF, rx_FK) rxm_118 := rx_cm_ok rxc_all rxk_118 rxh_118
theorem rxh_119 : ∀ ch ∈ rx_cd rxm_119, ∀ x ∈ ch, x.2.1 = 0 → x.2.2.1 = rx_sem x.2.2.2.1 := List.forall_mem_cons.mpr ⟨List.forall_mem_cons.mpr ⟨fun _ => rfl, List.forall_mem_cons.mpr ⟨fun _ => rfl, List.forall_mem_cons.mpr ⟨fun z => absurd z (by decide), List.forall_mem_cons.mpr ⟨fun _ => rfl, List.forall_mem_cons.mpr ⟨fun _ => rfl, List.forall_mem_cons.mpr ⟨fun z => absurd z (by decide), fun _ h => absurd h List.not_mem_nil⟩⟩⟩⟩⟩⟩, fun _ h => absurd h List.not_mem_nil⟩
theorem rxk_119 : rx_cm rx_X rx_P rxm_119 = true := by decide +kernel
theorem rxq_119 : rx_cq rxm_119 = true := by decide +kernel
theorem rxs_119 : rx_ST rx_P (rx_DF, rx_FK) rxm_119 := rx_cm_ok rxc_all rxk_119 rxh_119
theorem rxh_120 : ∀ ch ∈ rx_cd rxm_120, ∀ x ∈ ch, x.2.1 = 0 → x.2.2.1 = rx_sem x.2.2.2.1 := List.forall_mem_cons.mpr ⟨List.forall_mem_cons.mpr ⟨fun _ => rfl, List.forall_mem_cons.mpr ⟨fun _ => rfl, List.forall_mem_cons.mpr ⟨fun z => absurd z (by decide), List.forall_mem_cons.mpr ⟨fun _ => rfl, fun _ h => absurd h List.not_mem_nil⟩⟩⟩⟩, List.forall_mem_cons.mpr ⟨List.forall_mem_cons.mpr ⟨fun _ => rfl, List.forall_mem_cons.mpr ⟨fun z => absurd z (by decide), fun _ h => absurd h List.not_mem_nil⟩⟩, fun _ h => absurd h List.not_mem_nil⟩⟩
theorem rxk_120 : rx_cm rx_X rx_P rxm_120 = true := by decide +kernel
theorem rxq_120 : rx_cq rxm_120 = true := by decide +kernel
theorem rxs_120 : rx_ST rx_P (rx_DF, rx_FK) rxm_120 := rx_cm_ok rxc_all rxk_120 rxh_120
theorem rxh_121 : ∀ ch ∈ rx_cd rxm_121, ∀ x ∈ ch, x.2.1 = 0 → x.2.2.1 = rx_sem x.2.2.2.1 := List.forall_mem_cons.mpr ⟨List.forall_mem_cons.mpr ⟨fun _ => rfl, List.forall_mem_cons.mpr ⟨fun _ => rfl, List.forall_mem_cons.mpr ⟨fun z => absurd z (by decide), List.forall_mem_cons.mpr ⟨fun _ => rfl, fun _ h => absurd h List.not_mem_nil⟩⟩⟩⟩, List.forall_mem_cons.mpr ⟨List.forall_mem_cons.mpr ⟨fun _ => rfl, List.forall_mem_cons.mpr ⟨fun z => absurd z (by decide), fun _ h => absurd h List.not_mem_nil⟩⟩, fun _ h => absurd h List.not_mem_nil⟩⟩
theorem rxk_121 : rx_cm rx_X rx_P rxm_121 = true := by decide +kernel
theorem rxq_121 : rx_cq rxm_121 = true := by decide +kernel
theorem rxs_121 : rx_ST rx_P (rx_DF, rx_FK) rxm_121 := rx_cm_ok rxc_all rxk_121 rxh_121
theorem rxh_122 : ∀ ch ∈ rx_cd rxm_122, ∀ x ∈ ch, x.2.1 = 0 → x.2.2.1 = rx_sem x.2.2.2.1 := List.forall_mem_cons.mpr ⟨List.forall_mem_cons.mpr ⟨fun _ => rfl, List.forall_mem_cons.mpr ⟨fun _ => rfl, List.forall_mem_cons.mpr ⟨fun z => absurd z (by decide), List.forall_mem_cons.mpr ⟨fun _ => rfl, fun _ h => absurd h List.not_mem_nil⟩⟩⟩⟩, List.forall_mem_cons.mpr ⟨List.forall_mem_cons.mpr ⟨fun _ => rfl, List.forall_mem_cons.mpr ⟨fun z => absurd z (by decide), fun _ h => absurd h List.not_mem_nil⟩⟩, fun _ h => absurd h List.not_mem_nil⟩⟩
theorem rxk_122 : rx_cm rx_X rx_P rxm_122 = true := by decide +kernel
theorem rxq_122 : rx_cq rxm_122 = true := by decide +kernel
theorem rxs_122 : rx_ST rx_P (rx_DF, rx_FK) rxm_122 := rx_cm_ok rxc_all rxk_122 rxh_122
theorem rxh_123 : ∀ ch ∈ rx_cd rxm_123, ∀ x ∈ ch, x.2.1 = 0 → x.2.2.1 = rx_sem x.2.2.2.1 := List.forall_mem_cons.mpr ⟨List.forall_mem_cons.mpr ⟨fun _ => rfl, List.forall_mem_cons.mpr ⟨fun _ => rfl, List.forall_mem_cons.mpr ⟨fun z => absurd z (by decide), List.forall_mem_cons.mpr ⟨fun _ => rfl, fun _ h => absurd h List.not_mem_nil⟩⟩⟩⟩, List.forall_mem_cons.mpr ⟨List.forall_mem_cons.mpr ⟨fun _ => rfl, List.forall_mem_cons.mpr ⟨fun z => absurd z (by decide), fun _ h => absurd h List.not_mem_nil⟩⟩, fun _ h => absurd h List.not_mem_nil⟩⟩
theorem rxk_123 : rx_cm rx_X rx_P rxm_123 = true := by decide +kernel
theorem rxq_123 : rx_cq rxm_123 = true := by decide +kernel
theorem rxs_123 : rx_ST rx_P (rx_DF, rx_FK) rxm_123 := rx_cm_ok rxc_all rxk_123 rxh_123
theorem rxh_124 : ∀ ch ∈ rx_cd rxm_124, ∀ x ∈ ch, x.2.1 = 0 → x.2.2.1 = rx_sem x.2.2.2.1 := List.forall_mem_cons.mpr ⟨List.forall_mem_cons.mpr ⟨fun _ => rfl, List.forall_mem_cons.mpr ⟨fun z => absurd z (by decide), List.forall_mem_cons.mpr ⟨fun _ => rfl, List.forall_mem_cons.mpr ⟨fun _ => rfl, List.forall_mem_cons.mpr ⟨fun _ => rfl, List.forall_mem_cons.mpr ⟨fun _ => rfl, List.forall_mem_cons.mpr ⟨fun _ => rfl, List.forall_mem_cons.mpr ⟨fun _ => rfl, List.forall_mem_cons.mpr ⟨fun _ => rfl, fun _ h => absurd h List.not_mem_nil⟩⟩⟩⟩⟩⟩⟩⟩⟩, List.forall_mem_cons.mpr ⟨List.forall_mem_cons.mpr ⟨fun _ => rfl, List.forall_mem_cons.mpr ⟨fun _ => rfl, List.forall_mem_cons.mpr ⟨fun _ => rfl, List.forall_mem_cons.mpr ⟨fun _ => rfl, List.forall_mem_cons.mpr ⟨fun _ => rfl, List.forall_mem_cons.mpr ⟨fun _ => rfl, List.forall_mem_cons.mpr ⟨fun _ => rfl, List.forall_mem_cons.mpr ⟨fun _ => rfl, List.forall_mem_cons.mpr ⟨fun _ => rfl, List.forall_mem_cons.mpr ⟨fun z => absurd z (by decide), fun _ h => absurd h List.not_mem_nil⟩⟩⟩⟩⟩⟩⟩⟩⟩⟩, List.forall_mem_cons.mpr ⟨List.forall_mem_cons.mpr ⟨fun _ => rfl, fun _ h => absurd h List.not_mem_nil⟩, List.forall_mem_cons.mpr ⟨fun _ h => absurd h List.not_mem_nil, List.forall_mem_cons.mpr ⟨fun _ h => absurd h List.not_mem_nil, List.forall_mem_cons.mpr ⟨fun _ h => absurd h List.not_mem_nil, List.forall_mem_cons.mpr ⟨fun _ h => absurd h List.not_mem_nil, List.forall_mem_cons.mpr ⟨List.forall_mem_cons.mpr ⟨fun z => absurd z (by decide), fun _ h => absurd h List.not_mem_nil⟩, fun _ h => absurd h List.not_mem_nil⟩⟩⟩⟩⟩⟩⟩⟩
theorem rxk_124 : rx_cm rx_X rx_P rxm_124 = true := by decide +kernel
theorem rxq_124 : rx_cq rxm_124 = true := by decide +kernel
theorem rxs_124 : rx_ST rx_P (rx_DF, rx_FK) rxm_124 := rx_cm_ok rxc_all rxk_124 rxh_124
theorem rxh_125 : ∀ ch ∈ rx_cd rxm_125, ∀ x ∈ ch, x.2.1 = 0 → x.2.2.1 = rx_sem x.2.2.2.1 := List.forall_mem_cons.mpr ⟨List.forall_mem_cons.mpr ⟨fun _ => rfl, List.forall_mem_cons.mpr ⟨fun _ => rfl, List.forall_mem_cons.mpr ⟨fun z => absurd z (by decide), List.forall_mem_cons.mpr ⟨fun _ => rfl, fun _ h => absurd h List.not_mem_nil⟩⟩⟩⟩, List.forall_mem_cons.mpr ⟨List.forall_mem_cons.mpr ⟨fun _ => rfl, List.forall_mem_cons.mpr ⟨fun z => absurd z (by decide), fun _ h => absurd h List.not_mem_nil⟩⟩, fun _ h => absurd h List.not_mem_nil⟩⟩
theorem rxk_125 : rx_cm rx_X rx_P rxm_125 = true := by decide +kernel
theorem rxq_125 : rx_cq rxm_125 = true := by decide +kernel
theorem rxs_125 : rx_ST rx_P (rx_DF, rx_FK) rxm_125 := rx_cm_ok rxc_all rxk_125 rxh_125
theorem rxh_126 : ∀ ch ∈ rx_cd rxm_126, ∀ x ∈ ch, x.2.1 = 0 → x.2.2.1 = rx_sem x.2.2.2.1 := List.forall_mem_cons.mpr ⟨List.forall_mem_cons.mpr ⟨fun _ => rfl, List.forall_mem_cons.mpr ⟨fun _ => rfl, List.forall_mem_cons.mpr ⟨fun z => absurd z (by decide), List.forall_mem_cons.mpr ⟨fun _ => rfl, fun _ h => absurd h List.not_mem_nil⟩⟩⟩⟩, List.forall_mem_cons.mpr ⟨List.forall_mem_cons.mpr ⟨fun _ => rfl, List.forall_mem_cons.mpr ⟨fun z => absurd z (by decide), fun _ h => absurd h List.not_mem_nil⟩⟩, fun _ h => absurd h List.not_mem_nil⟩⟩
theorem rxk_126 : rx_cm rx_X rx_P rxm_126 = true := by decide +kernel
theorem rxq_126 : rx_cq rxm_126 = true := by decide +kernel
theorem rxs_126 : rx_ST rx_P (rx_DF, rx_FK) rxm_126 := rx_cm_ok rxc_all rxk_126 rxh_126
theorem rxh_127 : ∀ ch ∈ rx_cd rxm_127, ∀ x ∈ ch, x.2.1 = 0 → x.2.2.1 = rx_sem x.2.2.2.1 := List.forall_mem_cons.mpr ⟨List.forall_mem_cons.mpr ⟨fun _ => rfl, List.forall_mem_cons.mpr ⟨fun _ => rfl, List.forall_mem_cons.mpr ⟨fun z => absurd z (by decide), List.forall_mem_cons.mpr ⟨fun _ => rfl, List.forall_mem_cons.mpr ⟨fun _ => rfl, List.forall_mem_cons.mpr ⟨fun z => absurd z (by decide), fun _ h => absurd h List.not_mem_nil⟩⟩⟩⟩⟩⟩, fun _ h => absurd h List.not_mem_nil⟩
theorem rxk_127 : rx_cm rx_X rx_P rxm_127 = true := by decide +kernel
theorem rxq_127 : rx_cq rxm_127 = true := by decide +kernel
theorem rxs_127 : rx_ST rx_P (rx_DF, rx_FK) rxm_127 := rx_cm_ok rxc_all rxk_127 rxh_127
theorem rxh_128 : ∀ ch ∈ rx_cd rxm_128, ∀ x ∈ ch, x.2.1 = 0 → x.2.2.1 = rx_sem x.2.2.2.1 := List.forall_mem_cons.mpr ⟨List.forall_mem_cons.mpr ⟨fun _ => rfl, List.forall_mem_cons.mpr ⟨fun z => absurd z (by decide), List.forall_mem_cons.mpr ⟨fun _ => rfl, List.forall_mem_cons.mpr ⟨fun _ => rfl, List.forall_mem_cons.mpr ⟨fun _ => rfl, List.forall_mem_cons.mpr ⟨fun _ => rfl, List.forall_mem_cons.mpr ⟨fun _ => rfl, List.forall_mem_cons.mpr ⟨fun _ => rfl, List.forall_mem_cons.mpr ⟨fun _ => rfl, List.forall_mem_cons.mpr ⟨fun _ => rfl, fun _ h => absurd h List.not_mem_nil⟩⟩⟩⟩⟩⟩⟩⟩⟩⟩, List.forall_mem_cons.mpr ⟨List.forall_mem_cons.mpr ⟨fun _ => rfl, List.forall_mem_cons.mpr ⟨fun _ => rfl, List.forall_mem_cons.mpr ⟨fun _ => rfl, List.forall_mem_cons.mpr ⟨fun _ => rfl, List.forall_mem_cons.mpr ⟨fun _ => rfl, List.forall_mem_cons.mpr ⟨fun _ => rfl, List.forall_mem_cons.mpr ⟨fun _ => rfl, List.forall_mem_cons.mpr ⟨fun _ => rfl, List.forall_mem_cons.mpr ⟨fun z => absurd z (by decide), List.forall_mem_cons.mpr ⟨fun _ => rfl, fun _ h => absurd h List.not_mem_nil⟩⟩⟩⟩⟩⟩⟩⟩⟩⟩, List.forall_mem_cons.mpr ⟨fun _ h => absurd h List.not_mem_nil, List.forall_mem_cons.mpr ⟨fun _ h => absurd h List.not_mem_nil, List.forall_mem_cons.mpr ⟨List.forall_mem_cons.mpr ⟨fun z => absurd z (by decide), fun _ h => absurd h List.not_mem_nil⟩, fun _ h => absurd h List.not_mem_nil⟩⟩⟩⟩⟩
theorem rxk_128 : rx_cm rx_X rx_P rxm_128 = true := by decide +kernel
theorem rxq_128 : rx_cq rxm_128 = true := by decide +kernel
theorem rxs_128 : rx_ST rx_P (rx_DF, rx_FK) rxm_128 := rx_cm_ok rxc_all rxk_128 rxh_128
theorem rxh_129 : ∀ ch ∈ rx_cd rxm_129, ∀ x ∈ ch, x.2.1 = 0 → x.2.2.1 = rx_sem x.2.2.2.1 := List.forall_mem_cons.mpr ⟨List.forall_mem_cons.mpr ⟨fun _ => rfl, List.forall_mem_cons.mpr ⟨fun _ => rfl, List.forall_mem_cons.mpr ⟨fun z => absurd z (by decide), List.forall_mem_cons.mpr ⟨fun _ => rfl, fun _ h => absurd h List.not_mem_nil⟩⟩⟩⟩, List.forall_mem_cons.mpr ⟨List.forall_mem_cons.mpr ⟨fun _ => rfl, List.forall_mem_cons.mpr ⟨fun z => absurd z (by decide), fun _ h => absurd h List.not_mem_nil⟩⟩, fun _ h => absurd h List.not_mem_nil⟩⟩
theorem rxk_129 : rx_cm rx_X rx_P rxm_129 = true := by decide +kernel
theorem rxq_129 : rx_cq rxm_129 = true := by decide +kernel
theorem rxs_129 : rx_ST rx_P (rx_DF, rx_FK) rxm_129 := rx_cm_ok rxc_all rxk_129 rxh_129
theorem rxh_130 : ∀ ch ∈ rx_cd rxm_130, ∀ x ∈ ch, x.2.1 = 0 → x.2.2.1 = rx_sem x.2.2.2.1 := List.forall_mem_cons.mpr ⟨List.forall_mem_cons.mpr ⟨fun _ => rfl, List.forall_mem_cons.mpr ⟨fun _ => rfl, List.forall_mem_cons.mpr ⟨fun z => absurd z (by decide), List.forall_mem_cons.mpr ⟨fun _ => rfl, fun _ h => absurd h List.not_mem_nil⟩⟩⟩⟩, List.forall_mem_cons.mpr ⟨List.forall_mem_cons.mpr ⟨fun _ => rfl, List.forall_mem_cons.mpr ⟨fun z => absurd z (by decide), fun _ h => absurd h List.not_mem_nil⟩⟩, fun _ h => absurd h List.not_mem_nil⟩⟩
theorem rxk_130 : rx_cm rx_X rx_P rxm_130 = true := by decide +kernel
theorem rxq_130 : rx_cq rxm_130 = true := by decide +kernel
theorem rxs_130 : rx_ST rx_P (rx_DF, rx_FK) rxm_130 := rx_cm_ok rxc_all rxk_130 rxh_130
theorem rxh_131 : ∀ ch ∈ rx_cd rxm_131, ∀ x ∈ ch, x.2.1 = 0 → x.2.2.1 = rx_sem x.2.2.2.1 := List.forall_mem_cons.mpr ⟨List.forall_mem_cons.mpr ⟨fun _ => rfl, List.forall_mem_cons.mpr ⟨fun _ => rfl, List.forall_mem_cons.mpr ⟨fun z => absurd z (by decide), List.forall_mem_cons.mpr ⟨fun _ => rfl, fun _ h => absurd h List.not_mem_nil⟩⟩⟩⟩, List.forall_mem_cons.mpr ⟨List.forall_mem_cons.mpr ⟨fun _ => rfl, List.forall_mem_cons.mpr ⟨fun z => absurd z (by decide), fun _ h => absurd h List.not_mem_nil⟩⟩, fun _ h => absurd h List.not_mem_nil⟩⟩
theorem rxk_131 : rx_cm rx_X rx_P rxm_131 = true := by decide +kernel
theorem rxq_131 : rx_cq rxm_131 = true := by decide +kernel
theorem rxs_131 : rx_ST rx_P (rx_DF, rx_FK) rxm_131 := rx_cm_ok rxc_all rxk_131 rxh_131
theorem rxh_132 : ∀ ch ∈ rx_cd rxm_132, ∀ x ∈ ch, x.2.1 = 0 → x.2.2.1 = rx_sem x.2.2.2.1 := List.forall_mem_cons.mpr ⟨List.forall_mem_cons.mpr ⟨fun _ => rfl, List.forall_mem_cons.mpr ⟨fun _ => rfl, List.forall_mem_cons.mpr ⟨fun _ => rfl, List.forall_mem_cons.mpr ⟨fun _ => rfl, List.forall_mem_cons.mpr ⟨fun z => absurd z (by decide), List.forall_mem_cons.mpr ⟨fun _ => rfl, List.forall_mem_cons.mpr ⟨fun _ => rfl, List.forall_mem_cons.mpr ⟨fun _ => rfl, List.forall_mem_cons.mpr ⟨fun _ => rfl, List.forall_mem_cons.mpr ⟨fun _ => rfl, List.forall_mem_cons.mpr ⟨fun z => absurd z (by decide), List.forall_mem_cons.mpr ⟨fun _ => rfl, fun _ h => absurd h List.not_mem_nil⟩⟩⟩⟩⟩⟩⟩⟩⟩⟩⟩⟩, List.forall_mem_cons.mpr ⟨fun _ h => absurd h List.not_mem_nil, List.forall_mem_cons.mpr ⟨List.forall_mem_cons.mpr ⟨fun _ => rfl, List.forall_mem_cons.mpr ⟨fun z => absurd z (by decide), fun _ h => absurd h List.not_mem_nil⟩⟩, fun _ h => absurd h List.not_mem_nil⟩⟩⟩
theorem rxk_132 : rx_cm rx_X rx_P rxm_132 = true := by decide +kernel
theorem rxq_132 : rx_cq rxm_132 = true := by decide +kernel
theorem rxs_132 : rx_ST rx_P (rx_DF, rx_FK) rxm_132 := rx_cm_ok rxc_all rxk_132 rxh_132
theorem rxh_133 : ∀ ch ∈ rx_cd rxm_133, ∀ x ∈ ch, x.2.1 = 0 → x.2.2.1 = rx_sem x.2.2.2.1 := List.forall_mem_cons.mpr ⟨List.forall_mem_cons.mpr ⟨fun _ => rfl, List.forall_mem_cons.mpr ⟨fun _ => rfl, List.forall_mem_cons.mpr ⟨fun z => absurd z (by decide), List.forall_mem_cons.mpr ⟨fun _ => rfl, fun _ h => absurd h List.not_mem_nil⟩⟩⟩⟩, List.forall_mem_cons.mpr ⟨List.forall_mem_cons.mpr ⟨fun _ => rfl, List.forall_mem_cons.mpr ⟨fun z => absurd z (by decide), fun _ h => absurd h List.not_mem_nil⟩⟩, fun _ h => absurd h List.not_mem_nil⟩⟩
theorem rxk_133 : rx_cm rx_X rx_P rxm_133 = true := by decide +kernel
theorem rxq_133 : rx_cq rxm_133 = true := by decide +kernel
theorem rxs_133 : rx_ST rx_P (rx_DF, rx_FK) rxm_133 := rx_cm_ok rxc_all rxk_133 rxh_133
theorem rxh_134 : ∀ ch ∈ rx_cd rxm_134, ∀ x ∈ ch, x.2.1 = 0 → x.2.2.1 = rx_sem x.2.2.2.1 := List.forall_mem_cons.mpr ⟨List.forall_mem_cons.mpr ⟨fun _ => rfl, List.forall_mem_cons.mpr ⟨fun _ => rfl, List.forall_mem_cons.mpr ⟨fun z => absurd z (by decide), List.forall_mem_cons.mpr ⟨fun _ => rfl, fun _ h => absurd h List.not_mem_nil⟩⟩⟩⟩, List.forall_mem_cons.mpr ⟨List.forall_mem_cons.mpr ⟨fun _ => rfl, List.forall_mem_cons.mpr ⟨fun z => absurd z (by decide), fun _ h => absurd h List.not_mem_nil⟩⟩, fun _ h => absurd h List.not_mem_nil⟩⟩
theorem rxk_134 : rx_cm rx_X rx_P rxm_134 = true := by decide +kernel
theorem rxq_134 : rx_cq rxm_134 = true := by decide +kernel
theorem rxs_134 : rx_ST rx_P (rx_DF, rx_FK) rxm_134 := rx_cm_ok rxc_all rxk_134 rxh_134
theorem rxh_135 : ∀ ch ∈ rx_cd rxm_135, ∀ x ∈ ch, x.2.1 = 0 → x.2.2.1 = rx_sem x.2.2.2.1 := List.forall_mem_cons.mpr ⟨List.forall_mem_cons.mpr ⟨fun _ => rfl, List.forall_mem_cons.mpr ⟨fun _ => rfl, List.forall_mem_cons.mpr ⟨fun z => absurd z (by decide), List.forall_mem_cons.mpr ⟨fun _ => rfl, fun _ h => absurd h List.not_mem_nil⟩⟩⟩⟩, List.forall_mem_cons.mpr ⟨List.forall_mem_cons.mpr ⟨fun _ => rfl, List.forall_mem_cons.mpr ⟨fun z => absurd z (by decide), fun _ h => absurd h List.not_mem_nil⟩⟩, fun _ h => absurd h List.not_mem_nil⟩⟩
theorem rxk_135 : rx_cm rx_X rx_P rxm_135 = true := by decide +kernel
theorem rxq_135 : rx_cq rxm_135 = true := by decide +kernel
theorem rxs_135 : rx_ST rx_P (rx_DF, rx_FK) rxm_135 := rx_cm_ok rxc_all rxk_135 rxh_135
theorem rxh_136 : ∀ ch ∈ rx_cd rxm_136, ∀ x ∈ ch, x.2.1 = 0 → x.2.2.1 = rx_sem x.2.2.2.1 := List.forall_mem_cons.mpr ⟨List.forall_mem_cons.mpr ⟨fun _ => rfl, List.forall_mem_cons.mpr ⟨fun _ => rfl, List.forall_mem_cons.mpr ⟨fun z => absurd z (by decide), List.forall_mem_cons.mpr ⟨fun _ => rfl, fun _ h => absurd h List.not_mem_nil⟩⟩⟩⟩, List.forall_mem_cons.mpr ⟨List.forall_mem_cons.mpr ⟨fun _ => rfl, List.forall_mem_cons.mpr ⟨fun z => absurd z (by decide), fun _ h => absurd h List.not_mem_nil⟩⟩, fun _ h => absurd h List.not_mem_nil⟩⟩
theorem rxk_136 : rx_cm rx_X rx_P rxm_136 = true := by decide +kernel
theorem rxq_136 : rx_cq rxm_136 = true := by decide +kernel
theorem rxs_136 : rx_ST rx_P (rx_DF, rx_FK) rxm_136 := rx_cm_ok rxc_all rxk_136 rxh_136
theorem rxh_137 : ∀ ch ∈ rx_cd rxm_137, ∀ x ∈ ch, x.2.1 = 0 → x.2.2.1 = rx_sem x.2.2.2.1 := List.forall_mem_cons.mpr ⟨List.forall_mem_cons.mpr ⟨fun _ => rfl, List.forall_mem_cons.mpr ⟨fun _ => rfl, List.forall_mem_cons.mpr ⟨fun z => absurd z (by decide), List.forall_mem_cons.mpr ⟨fun _ => rfl, List.forall_mem_cons.mpr ⟨fun _ => rfl, List.forall_mem_cons.mpr ⟨fun z => absurd z (by decide), fun _ h => absurd h List.not_mem_nil⟩⟩⟩⟩⟩⟩, fun _ h => absurd h List.not_mem_nil⟩
theorem rxk_137 : rx_cm rx_X rx_P rxm_137 = true := by decide +kernel
theorem rxq_137 : rx_cq rxm_137 = true := by decide +kernel
theorem rxs_137 : rx_ST rx_P (rx_DF, rx_FK) rxm_137 := rx_cm_ok rxc_all rxk_137 rxh_137
theorem rxh_138 : ∀ ch ∈ rx_cd rxm_138, ∀ x ∈ ch, x.2.1 = 0 → x.2.2.1 = rx_sem x.2.2.2.1 := List.forall_mem_cons.mpr ⟨List.forall_mem_cons.mpr ⟨fun _ => rfl, List.forall_mem_cons.mpr ⟨fun _ => rfl, List.forall_mem_cons.mpr ⟨fun z => absurd z (by decide), List.forall_mem_cons.mpr ⟨fun _ => rfl, List.forall_mem_cons.mpr ⟨fun _ => rfl, List.forall_mem_cons.mpr ⟨fun z => absurd z (by decide), fun _ h => absurd h List.not_mem_nil⟩⟩⟩⟩⟩⟩, fun _ h => absurd h List.not_mem_nil⟩
theorem rxk_138 : rx_cm rx_X rx_P rxm_138 = true := by decide +kernel
theorem rxq_138 : rx_cq rxm_138 = true := by decide +kernel
theorem rxs_138 : rx_ST rx_P (rx_DF, rx_FK) rxm_138 := rx_cm_ok rxc_all rxk_138 rxh_138
theorem rxh_139 : ∀ ch ∈ rx_cd rxm_139, ∀ x ∈ ch, x.2.1 = 0 → x.2.2.1 = rx_sem x.2.2.2.1 := List.forall_mem_cons.mpr ⟨List.forall_mem_cons.mpr ⟨fun _ => rfl, List.forall_mem_cons.mpr ⟨fun _ => rfl, List.forall_mem_cons.mpr ⟨fun z => absurd z (by decide), List.forall_mem_cons.mpr ⟨fun _ => rfl, fun _ h => absurd h List.not_mem_nil⟩⟩⟩⟩, List.forall_mem_cons.mpr ⟨List.forall_mem_cons.mpr ⟨fun _ => rfl, List.forall_mem_cons.mpr ⟨fun z => absurd z (by decide), fun _ h => absurd h List.not_mem_nil⟩⟩, fun _ h => absurd h List.not_mem_nil⟩⟩
theorem rxk_139 : rx_cm rx_X rx_P rxm_139 = true := by decide +kernel
theorem rxq_139 : rx_cq rxm_139 = true := by decide +kernel
theorem rxs_139 : rx_ST rx_P (rx_DF, rx_FK) rxm_139 := rx_cm_ok rxc_all rxk_139 rxh_139
theorem rxh_140 : ∀ ch ∈ rx_cd rxm_140, ∀ x ∈ ch, x.2.1 = 0 → x.2.2.1 = rx_sem x.2.2.2.1 := List.forall_mem_cons.mpr ⟨List.forall_mem_cons.mpr ⟨fun _ => rfl, List.forall_mem_cons.mpr ⟨fun _ => rfl, List.forall_mem_cons.mpr ⟨fun z => absurd z (by decide), List.forall_mem_cons.mpr ⟨fun _ => rfl, fun _ h => absurd h List.not_mem_nil⟩⟩⟩⟩, List.forall_mem_cons.mpr ⟨fun _ h => absurd h List.not_mem_nil, List.forall_mem_cons.mpr ⟨List.forall_mem_cons.mpr ⟨fun _ => rfl, List.forall_mem_cons.mpr ⟨fun z => absurd z (by decide), fun _ h => absurd h List.not_mem_nil⟩⟩, fun _ h => absurd h List.not_mem_nil⟩⟩⟩
theorem rxk_140 : rx_cm rx_X rx_P rxm_140 = true := by decide +kernel
theorem rxq_140 : rx_cq rxm_140 = true := by decide +kernel
theorem rxs_140 : rx_ST rx_P (rx_DF, rx_FK) rxm_140 := rx_cm_ok rxc_all rxk_140 rxh_140
theorem rxh_141 : ∀ ch ∈ rx_cd rxm_141, ∀ x ∈ ch, x.2.1 = 0 → x.2.2.1 = rx_sem x.2.2.2.1 := List.forall_mem_cons.mpr ⟨List.forall_mem_cons.mpr ⟨fun _ => rfl, List.forall_mem_cons.mpr ⟨fun _ => rfl, List.forall_mem_cons.mpr ⟨fun z => absurd z (by decide), List.forall_mem_cons.mpr ⟨fun _ => rfl, List.forall_mem_cons.mpr ⟨fun _ => rfl, List.forall_mem_cons.mpr ⟨fun z => absurd z (by decide), fun _ h => absurd h List.not_mem_nil⟩⟩⟩⟩⟩⟩, fun _ h => absurd h List.not_mem_nil⟩
theorem rxk_141 : rx_cm rx_X rx_P rxm_141 = true := by decide +kernel
theorem rxq_141 : rx_cq rxm_141 = true := by decide +kernel
theorem rxs_141 : rx_ST rx_P (rx_DF, rx_FK) rxm_141 := rx_cm_ok rxc_all rxk_141 rxh_141
theorem rxh_142 : ∀ ch ∈ rx_cd rxm_142, ∀ x ∈ ch, x.2.1 = 0 → x.2.2.1 = rx_sem x.2.2.2.1 := List.forall_mem_cons.mpr ⟨List.forall_mem_cons.mpr ⟨fun _ => rfl, List.forall_mem_cons.mpr ⟨fun _ => rfl, List.forall_mem_cons.mpr ⟨fun z => absurd z (by decide), List.forall_mem_cons.mpr ⟨fun _ => rfl, List.forall_mem_cons.mpr ⟨fun _ => rfl, List.forall_mem_cons.mpr ⟨fun z => absurd z (by decide), fun _ h => absurd h List.not_mem_nil⟩⟩⟩⟩⟩⟩, fun _ h => absurd h List.not_mem_nil⟩
theorem rxk_142 : rx_cm rx_X rx_P rxm_142 = true := by decide +kernel
theorem rxq_142 : rx_cq rxm_142 = true := by decide +kernel
theorem rxs_142 : rx_ST rx_P (rx_DF, rx_FK) rxm_142 := rx_cm_ok rxc_all rxk_142 rxh_142
theorem rxh_143 : ∀ ch ∈ rx_cd rxm_143, ∀ x ∈ ch, x.2.1 = 0 → x.2.2.1 = rx_sem x.2.2.2.1 := List.forall_mem_cons.mpr ⟨List.forall_mem_cons.mpr ⟨fun _ => rfl, List.forall_mem_cons.mpr ⟨fun _ => rfl, List.forall_mem_cons.mpr ⟨fun z => absurd z (by decide), List.forall_mem_cons.mpr ⟨fun _ => rfl, List.forall_mem_cons.mpr ⟨fun _ => rfl, List.forall_mem_cons.mpr ⟨fun z => absurd z (by decide), fun _ h => absurd h List.not_mem_nil⟩⟩⟩⟩⟩⟩, fun _ h => absurd h List.not_mem_nil⟩
theorem rxk_143 : rx_cm rx_X rx_P rxm_143 = true := by decide +kernel
theorem rxq_143 : rx_cq rxm_143 = true := by decide +kernel
theorem rxs_143 : rx_ST rx_P (rx_DF, rx_FK) rxm_143 := rx_cm_ok rxc_all rxk_143 rxh_143
theorem rxh_144 : ∀ ch ∈ rx_cd rxm_144, ∀ x ∈ ch, x.2.1 = 0 → x.2.2.1 = rx_sem x.2.2.2.1 := List.forall_mem_cons.mpr ⟨List.forall_mem_cons.mpr ⟨fun _ => rfl, List.forall_mem_cons.mpr ⟨fun _ => rfl, fun _ h => absurd h List.not_mem_nil⟩⟩, List.forall_mem_cons.mpr ⟨fun _ h => absurd h List.not_mem_nil, List.forall_mem_cons.mpr ⟨fun _ h => absurd h List.not_mem_nil, List.forall_mem_cons.mpr ⟨fun _ h => absurd h List.not_mem_nil, List.forall_mem_cons.mpr ⟨List.forall_mem_cons.mpr ⟨fun _ => rfl, List.forall_mem_cons.mpr ⟨fun z => absurd z (by decide), List.forall_mem_cons.mpr ⟨fun z => absurd z (by decide), List.forall_mem_cons.mpr ⟨fun _ => rfl, List.forall_mem_cons.mpr ⟨fun z => absurd z (by decide), List.forall_mem_cons.mpr ⟨fun z => absurd z (by decide), List.forall_mem_cons.mpr ⟨fun _ => rfl, List.forall_mem_cons.mpr ⟨fun z => absurd z (by decide), List.forall_mem_cons.mpr ⟨fun z => absurd z (by decide), List.forall_mem_cons.mpr ⟨fun _ => rfl, fun _ h => absurd h List.not_mem_nil⟩⟩⟩⟩⟩⟩⟩⟩⟩⟩, List.forall_mem_cons.mpr ⟨List.forall_mem_cons.mpr ⟨fun z => absurd z (by decide), List.forall_mem_cons.mpr ⟨fun _ => rfl, List.forall_mem_cons.mpr ⟨fun _ => rfl, List.forall_mem_cons.mpr ⟨fun _ => rfl, fun _ h => absurd h List.not_mem_nil⟩⟩⟩⟩, List.forall_mem_cons.mpr ⟨List.forall_mem_cons.mpr ⟨fun z => absurd z (by decide), List.forall_mem_cons.mpr ⟨fun _ => rfl, List.forall_mem_cons.mpr ⟨fun _ => rfl, List.forall_mem_cons.mpr ⟨fun _ => rfl, List.forall_mem_cons.mpr ⟨fun _ => rfl, List.forall_mem_cons.mpr ⟨fun _ => rfl, List.forall_mem_cons.mpr ⟨fun z => absurd z (by decide), List.forall_mem_cons.mpr ⟨fun _ => rfl, List.forall_mem_cons.mpr ⟨fun z => absurd z (by decide), fun _ h => absurd h List.not_mem_nil⟩⟩⟩⟩⟩⟩⟩⟩⟩, List.forall_mem_cons.mpr ⟨List.forall_mem_cons.mpr ⟨fun z => absurd z (by decide), List.forall_mem_cons.mpr ⟨fun _ => rfl, List.forall_mem_cons.mpr ⟨fun _ => rfl, List.forall_mem_cons.mpr ⟨fun _ => rfl, List.forall_mem_cons.mpr ⟨fun _ => rfl, List.forall_mem_cons.mpr ⟨fun z => absurd z (by decide), List.forall_mem_cons.mpr ⟨fun _ => rfl, List.forall_mem_cons.mpr ⟨fun _ => rfl, List.forall_mem_cons.mpr ⟨fun _ => rfl, List.forall_mem_cons.mpr ⟨fun _ => rfl, fun _ h => absurd h List.not_mem_nil⟩⟩⟩⟩⟩⟩⟩⟩⟩⟩, List.forall_mem_cons.mpr ⟨List.forall_mem_cons.mpr ⟨fun z => absurd z (by decide), List.forall_mem_cons.mpr ⟨fun _ => rfl, List.forall_mem_cons.mpr ⟨fun _ => rfl, List.forall_mem_cons.mpr ⟨fun _ => rfl, List.forall_mem_cons.mpr ⟨fun _ => rfl, List.forall_mem_cons.mpr ⟨fun _ => rfl, List.forall_mem_cons.mpr ⟨fun z => absurd z (by decide), List.forall_mem_cons.mpr ⟨fun _ => rfl, List.forall_mem_cons.mpr ⟨fun _ => rfl, List.forall_mem_cons.mpr ⟨fun z => absurd z (by decide), fun _ h => absurd h List.not_mem_nil⟩⟩⟩⟩⟩⟩⟩⟩⟩⟩, List.forall_mem_cons.mpr ⟨List.forall_mem_cons.mpr ⟨fun _ => rfl, List.forall_mem_cons.mpr ⟨fun _ => rfl, List.forall_mem_cons.mpr ⟨fun z => absurd z (by decide), List.forall_mem_cons.mpr ⟨fun _ => rfl, List.forall_mem_cons.mpr ⟨fun _ => rfl, List.forall_mem_cons.mpr ⟨fun z => absurd z (by decide), List.forall_mem_cons.mpr ⟨fun _ => rfl, List.forall_mem_cons.mpr ⟨fun z => absurd z (by decide), fun _ h => absurd h List.not_mem_nil⟩⟩⟩⟩⟩⟩⟩⟩, fun _ h => absurd h List.not_mem_nil⟩⟩⟩⟩⟩⟩⟩⟩⟩⟩
theorem rxk_144 : rx_cm rx_X rx_P rxm_144 = true := by decide +kernel
theorem rxq_144 : rx_cq rxm_144 = true := by decide +kernel
theorem rxs_144 : rx_ST rx_P (rx_DF, rx_FK) rxm_144 := rx_cm_ok rxc_all rxk_144 rxh_144
theorem rxh_145 : ∀ ch ∈ rx_cd rxm_145, ∀ x ∈ ch, x.2.1 = 0 → x.2.2.1 = rx_sem x.2.2.2.1 := List.forall_mem_cons.mpr ⟨List.forall_mem_cons.mpr ⟨fun _ => rfl, List.forall_mem_cons.mpr ⟨fun z => absurd z (by decide), List.forall_mem_cons.mpr ⟨fun _ => rfl, List.forall_mem_cons.mpr ⟨fun _ => rfl, List.forall_mem_cons.mpr ⟨fun _ => rfl, List.forall_mem_cons.mpr ⟨fun z => absurd z (by decide), List.forall_mem_cons.mpr ⟨fun _ => rfl, List.forall_mem_cons.mpr ⟨fun _ => rfl, fun _ h => absurd h List.not_mem_nil⟩⟩⟩⟩⟩⟩⟩⟩, List.forall_mem_cons.mpr ⟨List.forall_mem_cons.mpr ⟨fun _ => rfl, List.forall_mem_cons.mpr ⟨fun _ => rfl, List.forall_mem_cons.mpr ⟨fun z => absurd z (by decide), List.forall_mem_cons.mpr ⟨fun _ => rfl, List.forall_mem_cons.mpr ⟨fun _ => rfl, List.forall_mem_cons.mpr ⟨fun _ => rfl, List.forall_mem_cons.mpr ⟨fun _ => rfl, List.forall_mem_cons.mpr ⟨fun _ => rfl, fun _ h => absurd h List.not_mem_nil⟩⟩⟩⟩⟩⟩⟩⟩, List.forall_mem_cons.mpr ⟨List.forall_mem_cons.mpr ⟨fun _ => rfl, List.forall_mem_cons.mpr ⟨fun z => absurd z (by decide), List.forall_mem_cons.mpr ⟨fun _ => rfl, List.forall_mem_cons.mpr ⟨fun _ => rfl, List.forall_mem_cons.mpr ⟨fun _ => rfl, List.forall_mem_cons.mpr ⟨fun _ => rfl, List.forall_mem_cons.mpr ⟨fun _ => rfl, List.forall_mem_cons.mpr ⟨fun _ => rfl, fun _ h => absurd h List.not_mem_nil⟩⟩⟩⟩⟩⟩⟩⟩, List.forall_mem_cons.mpr ⟨List.forall_mem_cons.mpr ⟨fun z => absurd z (by decide), List.forall_mem_cons.mpr ⟨fun _ => rfl, List.forall_mem_cons.mpr ⟨fun _ => rfl, List.forall_mem_cons.mpr ⟨fun _ => rfl, List.forall_mem_cons.mpr ⟨fun _ => rfl, List.forall_mem_cons.mpr ⟨fun _ => rfl, List.forall_mem_cons.mpr ⟨fun _ => rfl, fun _ h => absurd h List.not_mem_nil⟩⟩⟩⟩⟩⟩⟩, List.forall_mem_cons.mpr ⟨List.forall_mem_cons.mpr ⟨fun z => absurd z (by decide), List.forall_mem_cons.mpr ⟨fun _ => rfl, List.forall_mem_cons.mpr ⟨fun _ => rfl, List.forall_mem_cons.mpr ⟨fun _ => rfl, List.forall_mem_cons.mpr ⟨fun _ => rfl, List.forall_mem_cons.mpr ⟨fun _ => rfl, List.forall_mem_cons.mpr ⟨fun _ => rfl, fun _ h => absurd h List.not_mem_nil⟩⟩⟩⟩⟩⟩⟩, List.forall_mem_cons.mpr ⟨List.forall_mem_cons.mpr ⟨fun z => absurd z (by decide), List.forall_mem_cons.mpr ⟨fun _ => rfl, List.forall_mem_cons.mpr ⟨fun _ => rfl, List.forall_mem_cons.mpr ⟨fun _ => rfl, List.forall_mem_cons.mpr ⟨fun _ => rfl, List.forall_mem_cons.mpr ⟨fun _ => rfl, List.forall_mem_cons.mpr ⟨fun _ => rfl, List.forall_mem_cons.mpr ⟨fun z => absurd z (by decide), fun _ h => absurd h List.not_mem_nil⟩⟩⟩⟩⟩⟩⟩⟩, List.forall_mem_cons.mpr ⟨List.forall_mem_cons.mpr ⟨fun _ => rfl, List.forall_mem_cons.mpr ⟨fun _ => rfl, List.forall_mem_cons.mpr ⟨fun _ => rfl, List.forall_mem_cons.mpr ⟨fun _ => rfl, List.forall_mem_cons.mpr ⟨fun _ => rfl, List.forall_mem_cons.mpr ⟨fun _ => rfl, List.forall_mem_cons.mpr ⟨fun _ => rfl, List.forall_mem_cons.mpr ⟨fun _ => rfl, fun _ h => absurd h List.not_mem_nil⟩⟩⟩⟩⟩⟩⟩⟩, List.forall_mem_cons.mpr ⟨List.forall_mem_cons.mpr ⟨fun z => absurd z (by decide), List.forall_mem_cons.mpr ⟨fun _ => rfl, List.forall_mem_cons.mpr ⟨fun _ => rfl, List.forall_mem_cons.mpr ⟨fun _ => rfl, List.forall_mem_cons.mpr ⟨fun _ => rfl, List.forall_mem_cons.mpr ⟨fun _ => rfl, List.forall_mem_cons.mpr ⟨fun _ => rfl, fun _ h => absurd h List.not_mem_nil⟩⟩⟩⟩⟩⟩⟩, List.forall_mem_cons.mpr ⟨List.forall_mem_cons.mpr ⟨fun z => absurd z (by decide), List.forall_mem_cons.mpr ⟨fun _ => rfl, List.forall_mem_cons.mpr ⟨fun _ => rfl, List.forall_mem_cons.mpr ⟨fun _ => rfl, List.forall_mem_cons.mpr ⟨fun _ => rfl, List.forall_mem_cons.mpr ⟨fun z => absurd z (by decide), List.forall_mem_cons.mpr ⟨fun _ => rfl, fun _ h => absurd h List.not_mem_nil⟩⟩⟩⟩⟩⟩⟩, List.forall_mem_cons.mpr ⟨List.forall_mem_cons.mpr ⟨fun _ => rfl, List.forall_mem_cons.mpr ⟨fun _ => rfl, List.forall_mem_cons.mpr ⟨fun _ => rfl, List.forall_mem_cons.mpr ⟨fun z => absurd z (by decide), List.forall_mem_cons.mpr ⟨fun _ => rfl, List.forall_mem_cons.mpr ⟨fun _ => rfl, List.forall_mem_cons.mpr ⟨fun _ => rfl, List.forall_mem_cons.mpr ⟨fun _ => rfl, fun _ h => absurd h List.not_mem_nil⟩⟩⟩⟩⟩⟩⟩⟩, List.forall_mem_cons.mpr ⟨List.forall_mem_cons.mpr ⟨fun _ => rfl, List.forall_mem_cons.mpr ⟨fun _ => rfl, List.forall_mem_cons.mpr ⟨fun _ => rfl, List.forall_mem_cons.mpr ⟨fun _ => rfl, List.forall_mem_cons.mpr ⟨fun _ => rfl, List.forall_mem_cons.mpr ⟨fun _ => rfl, List.forall_mem_cons.mpr ⟨fun _ => rfl, fun _ h => absurd h List.not_mem_nil⟩⟩⟩⟩⟩⟩⟩, List.forall_mem_cons.mpr ⟨List.forall_mem_cons.mpr ⟨fun _ => rfl, List.forall_mem_cons.mpr ⟨fun z => absurd z (by decide), List.forall_mem_cons.mpr ⟨fun _ => rfl, List.forall_mem_cons.mpr ⟨fun _ => rfl, List.forall_mem_cons.mpr ⟨fun _ => rfl, List.forall_mem_cons.mpr ⟨fun _ => rfl, List.forall_mem_cons.mpr ⟨fun _ => rfl, List.forall_mem_cons.mpr ⟨fun _ => rfl, List.forall_mem_cons.mpr ⟨fun _ => rfl, List.forall_mem_cons.mpr ⟨fun _ => rfl, fun _ h => absurd h List.not_mem_nil⟩⟩⟩⟩⟩⟩⟩⟩⟩⟩, List.forall_mem_cons.mpr ⟨List.forall_mem_cons.mpr ⟨fun _ => rfl, List.forall_mem_cons.mpr ⟨fun _ => rfl, List.forall_mem_cons.mpr ⟨fun _ => rfl, List.forall_mem_cons.mpr ⟨fun z => absurd z (by decide), List.forall_mem_cons.mpr ⟨fun _ => rfl, List.forall_mem_cons.mpr ⟨fun _ => rfl, List.forall_mem_cons.mpr ⟨fun _ => rfl, fun _ h => absurd h List.not_mem_nil⟩⟩⟩⟩⟩⟩⟩, List.forall_mem_cons.mpr ⟨List.forall_mem_cons.mpr ⟨fun z => absurd z (by decide), fun _ h => absurd h List.not_mem_nil⟩, fun _ h => absurd h List.not_mem_nil⟩⟩⟩⟩⟩⟩⟩⟩⟩⟩⟩⟩⟩⟩
theorem rxk_145 : rx_cm rx_X rx_P rxm_145 = true := by decide +kernel
theorem rxq_145 : rx_cq rxm_145 = true := by decide +kernel
theorem rxs_145 : rx_ST rx_P (rx_DF, rx_FK) rxm_145 := rx_cm_ok rxc_all rxk_145 rxh_145
theorem rxh_146 : ∀ ch ∈ rx_cd rxm_146, ∀ x ∈ ch, x.2.1 = 0 → x.2.2.1 = rx_sem x.2.2.2.1 := List.forall_mem_cons.mpr ⟨List.forall_mem_cons.mpr ⟨fun _ => rfl, List.forall_mem_cons.mpr ⟨fun _ => rfl, List.forall_mem_cons.mpr ⟨fun z => absurd z (by decide), List.forall_mem_cons.mpr ⟨fun _ => rfl, List.forall_mem_cons.mpr ⟨fun _ => rfl, List.forall_mem_cons.mpr ⟨fun _ => rfl, List.forall_mem_cons.mpr ⟨fun _ => rfl, List.forall_mem_cons.mpr ⟨fun _ => rfl, fun _ h => absurd h List.not_mem_nil⟩⟩⟩⟩⟩⟩⟩⟩, List.forall_mem_cons.mpr ⟨List.forall_mem_cons.mpr ⟨fun _ => rfl, List.forall_mem_cons.mpr ⟨fun _ => rfl, List.forall_mem_cons.mpr ⟨fun _ => rfl, List.forall_mem_cons.mpr ⟨fun _ => rfl, List.forall_mem_cons.mpr ⟨fun _ => rfl, List.forall_mem_cons.mpr ⟨fun _ => rfl, List.forall_mem_cons.mpr ⟨fun _ => rfl, fun _ h => absurd h List.not_mem_nil⟩⟩⟩⟩⟩⟩⟩, List.forall_mem_cons.mpr ⟨List.forall_mem_cons.mpr ⟨fun z => absurd z (by decide), List.forall_mem_cons.mpr ⟨fun _ => rfl, List.forall_mem_cons.mpr ⟨fun _ => rfl, List.forall_mem_cons.mpr ⟨fun z => absurd z (by decide), List.forall_mem_cons.mpr ⟨fun _ => rfl, List.forall_mem_cons.mpr ⟨fun _ => rfl, List.forall_mem_cons.mpr ⟨fun z => absurd z (by decide), fun _ h => absurd h List.not_mem_nil⟩⟩⟩⟩⟩⟩⟩, List.forall_mem_cons.mpr ⟨List.forall_mem_cons.mpr ⟨fun _ => rfl, List.forall_mem_cons.mpr ⟨fun _ => rfl, List.forall_mem_cons.mpr ⟨fun z => absurd z (by decide), List.forall_mem_cons.mpr ⟨fun _ => rfl, List.forall_mem_cons.mpr ⟨fun _ => rfl, List.forall_mem_cons.mpr ⟨fun _ => rfl, List.forall_mem_cons.mpr ⟨fun _ => rfl, List.forall_mem_cons.mpr ⟨fun _ => rfl, fun _ h => absurd h List.not_mem_nil⟩⟩⟩⟩⟩⟩⟩⟩, List.forall_mem_cons.mpr ⟨List.forall_mem_cons.mpr ⟨fun _ => rfl, List.forall_mem_cons.mpr ⟨fun _ => rfl, List.forall_mem_cons.mpr ⟨fun _ => rfl, List.forall_mem_cons.mpr ⟨fun _ => rfl, List.forall_mem_cons.mpr ⟨fun _ => rfl, List.forall_mem_cons.mpr ⟨fun _ => rfl, List.forall_mem_cons.mpr ⟨fun _ => rfl, List.forall_mem_cons.mpr ⟨fun _ => rfl, List.forall_mem_cons.mpr ⟨fun _ => rfl, fun _ h => absurd h List.not_mem_nil⟩⟩⟩⟩⟩⟩⟩⟩⟩, List.forall_mem_cons.mpr ⟨List.forall_mem_cons.mpr ⟨fun z => absurd z (by decide), List.forall_mem_cons.mpr ⟨fun _ => rfl, List.forall_mem_cons.mpr ⟨fun _ => rfl, List.forall_mem_cons.mpr ⟨fun _ => rfl, List.forall_mem_cons.mpr ⟨fun _ => rfl, List.forall_mem_cons.mpr ⟨fun _ => rfl, List.forall_mem_cons.mpr ⟨fun _ => rfl, fun _ h => absurd h List.not_mem_nil⟩⟩⟩⟩⟩⟩⟩, List.forall_mem_cons.mpr ⟨List.forall_mem_cons.mpr ⟨fun _ => rfl, List.forall_mem_cons.mpr ⟨fun z => absurd z (by decide), List.forall_mem_cons.mpr ⟨fun _ => rfl, List.forall_mem_cons.mpr ⟨fun _ => rfl, List.forall_mem_cons.mpr ⟨fun _ => rfl, List.forall_mem_cons.mpr ⟨fun _ => rfl, List.forall_mem_cons.mpr ⟨fun _ => rfl, List.forall_mem_cons.mpr ⟨fun _ => rfl, fun _ h => absurd h List.not_mem_nil⟩⟩⟩⟩⟩⟩⟩⟩, List.forall_mem_cons.mpr ⟨List.forall_mem_cons.mpr ⟨fun _ => rfl, List.forall_mem_cons.mpr ⟨fun z => absurd z (by decide), List.forall_mem_cons.mpr ⟨fun _ => rfl, List.forall_mem_cons.mpr ⟨fun z => absurd z (by decide), List.forall_mem_cons.mpr ⟨fun _ => rfl, List.forall_mem_cons.mpr ⟨fun _ => rfl, List.forall_mem_cons.mpr ⟨fun _ => rfl, fun _ h => absurd h List.not_mem_nil⟩⟩⟩⟩⟩⟩⟩, List.forall_mem_cons.mpr ⟨List.forall_mem_cons.mpr ⟨fun z => absurd z (by decide), fun _ h => absurd h List.not_mem_nil⟩, fun _ h => absurd h List.not_mem_nil⟩⟩⟩⟩⟩⟩⟩⟩⟩
theorem rxk_146 : rx_cm rx_X rx_P rxm_146 = true := by decide +kernel
theorem rxq_146 : rx_cq rxm_146 = true := by decide +kernel
theorem rxs_146 : rx_ST rx_P (rx_DF, rx_FK) rxm_146 := rx_cm_ok rxc_all rxk_146 rxh_146
theorem rxh_147 : ∀ ch ∈ rx_cd rxm_147, ∀ x ∈ ch, x.2.1 = 0 → x.2.2.1 = rx_sem x.2.2.2.1 := List.forall_mem_cons.mpr ⟨List.forall_mem_cons.mpr ⟨fun _ => rfl, List.forall_mem_cons.mpr ⟨fun _ => rfl, List.forall_mem_cons.mpr ⟨fun _ => rfl, List.forall_mem_cons.mpr ⟨fun _ => rfl, List.forall_mem_cons.mpr ⟨fun _ => rfl, List.forall_mem_cons.mpr ⟨fun _ => rfl, List.forall_mem_cons.mpr ⟨fun _ => rfl, List.forall_mem_cons.mpr ⟨fun _ => rfl, fun _ h => absurd h List.not_mem_nil⟩⟩⟩⟩⟩⟩⟩⟩, List.forall_mem_cons.mpr ⟨List.forall_mem_cons.mpr ⟨fun _ => rfl, List.forall_mem_cons.mpr ⟨fun _ => rfl, List.forall_mem_cons.mpr ⟨fun _ => rfl, List.forall_mem_cons.mpr ⟨fun z => absurd z (by decide), List.forall_mem_cons.mpr ⟨fun _ => rfl, List.forall_mem_cons.mpr ⟨fun _ => rfl, List.forall_mem_cons.mpr ⟨fun _ => rfl, List.forall_mem_cons.mpr ⟨fun _ => rfl, fun _ h => absurd h List.not_mem_nil⟩⟩⟩⟩⟩⟩⟩⟩, List.forall_mem_cons.mpr ⟨List.forall_mem_cons.mpr ⟨fun _ => rfl, List.forall_mem_cons.mpr ⟨fun _ => rfl, List.forall_mem_cons.mpr ⟨fun _ => rfl, List.forall_mem_cons.mpr ⟨fun z => absurd z (by decide), List.forall_mem_cons.mpr ⟨fun _ => rfl, fun _ h => absurd h List.not_mem_nil⟩⟩⟩⟩⟩, List.forall_mem_cons.mpr ⟨fun _ h => absurd h List.not_mem_nil, List.forall_mem_cons.mpr ⟨List.forall_mem_cons.mpr ⟨fun _ => rfl, List.forall_mem_cons.mpr ⟨fun z => absurd z (by decide), fun _ h => absurd h List.not_mem_nil⟩⟩, fun _ h => absurd h List.not_mem_nil⟩⟩⟩⟩⟩
theorem rxk_147 : rx_cm rx_X rx_P rxm_147 = true := by decide +kernel
theorem rxq_147 : rx_cq rxm_147 = true := by decide +kernel
theorem rxs_147 : rx_ST rx_P (rx_DF, rx_FK) rxm_147 := rx_cm_ok rxc_all rxk_147 rxh_147
theorem rxh_148 : ∀ ch ∈ rx_cd rxm_148, ∀ x ∈ ch, x.2.1 = 0 → x.2.2.1 = rx_sem x.2.2.2.1 := List.forall_mem_cons.mpr ⟨List.forall_mem_cons.mpr ⟨fun _ => rfl, List.forall_mem_cons.mpr ⟨fun _ => rfl, List.forall_mem_cons.mpr ⟨fun _ => rfl, List.forall_mem_cons.mpr ⟨fun _ => rfl, List.forall_mem_cons.mpr ⟨fun _ => rfl, List.forall_mem_cons.mpr ⟨fun _ => rfl, List.forall_mem_cons.mpr ⟨fun _ => rfl, List.forall_mem_cons.mpr ⟨fun _ => rfl, fun _ h => absurd h List.not_mem_nil⟩⟩⟩⟩⟩⟩⟩⟩, List.forall_mem_cons.mpr ⟨List.forall_mem_cons.mpr ⟨fun z => absurd z (by decide), List.forall_mem_cons.mpr ⟨fun _ => rfl, List.forall_mem_cons.mpr ⟨fun _ => rfl, List.forall_mem_cons.mpr ⟨fun z => absurd z (by decide), List.forall_mem_cons.mpr ⟨fun _ => rfl, List.forall_mem_cons.mpr ⟨fun _ => rfl, List.forall_mem_cons.mpr ⟨fun _ => rfl, List.forall_mem_cons.mpr ⟨fun _ => rfl, fun _ h => absurd h List.not_mem_nil⟩⟩⟩⟩⟩⟩⟩⟩, List.forall_mem_cons.mpr ⟨List.forall_mem_cons.mpr ⟨fun _ => rfl, List.forall_mem_cons.mpr ⟨fun _ => rfl, List.forall_mem_cons.mpr ⟨fun _ => rfl, List.forall_mem_cons.mpr ⟨fun _ => rfl, List.forall_mem_cons.mpr ⟨fun _ => rfl, List.forall_mem_cons.mpr ⟨fun _ => rfl, List.forall_mem_cons.mpr ⟨fun _ => rfl, fun _ h => absurd h List.not_mem_nil⟩⟩⟩⟩⟩⟩⟩, List.forall_mem_cons.mpr ⟨List.forall_mem_cons.mpr ⟨fun z => absurd z (by decide), List.forall_mem_cons.mpr ⟨fun _ => rfl, List.forall_mem_cons.mpr ⟨fun _ => rfl, List.forall_mem_cons.mpr ⟨fun z => absurd z (by decide), fun _ h => absurd h List.not_mem_nil⟩⟩⟩⟩, fun _ h => absurd h List.not_mem_nil⟩⟩⟩⟩
theorem rxk_148 : rx_cm rx_X rx_P rxm_148 = true := by decide +kernel
theorem rxq_148 : rx_cq rxm_148 = true := by decide +kernel
theorem rxs_148 : rx_ST rx_P (rx_DF, rx_FK) rxm_148 := rx_cm_ok rxc_all rxk_148 rxh_148
theorem rxh_149 : ∀ ch ∈ rx_cd rxm_149, ∀ x ∈ ch, x.2.1 = 0 → x.2.2.1 = rx_sem x.2.2.2.1 := List.forall_mem_cons.mpr ⟨List.forall_mem_cons.mpr ⟨fun _ => rfl, List.forall_mem_cons.mpr ⟨fun _ => rfl, List.forall_mem_cons.mpr ⟨fun _ => rfl, List.forall_mem_cons.mpr ⟨fun z => absurd z (by decide), List.forall_mem_cons.mpr ⟨fun _ => rfl, List.forall_mem_cons.mpr ⟨fun _ => rfl, List.forall_mem_cons.mpr ⟨fun _ => rfl, List.forall_mem_cons.mpr ⟨fun _ => rfl, List.forall_mem_cons.mpr ⟨fun z => absurd z (by decide), List.forall_mem_cons.mpr ⟨fun _ => rfl, fun _ h => absurd h List.not_mem_nil⟩⟩⟩⟩⟩⟩⟩⟩⟩⟩, List.forall_mem_cons.mpr ⟨fun _ h => absurd h List.not_mem_nil, List.forall_mem_cons.mpr ⟨List.forall_mem_cons.mpr ⟨fun z => absurd z (by decide), fun _ h => absurd h List.not_mem_nil⟩, fun _ h => absurd h List.not_mem_nil⟩⟩⟩
theorem rxk_149 : rx_cm rx_X rx_P rxm_149 = true := by decide +kernel
theorem rxq_149 : rx_cq rxm_149 = true := by decide +kernel
theorem rxs_149 : rx_ST rx_P (rx_DF, rx_FK) rxm_149 := rx_cm_ok rxc_all rxk_149 rxh_149
theorem rxh_150 : ∀ ch ∈ rx_cd rxm_150, ∀ x ∈ ch, x.2.1 = 0 → x.2.2.1 = rx_sem x.2.2.2.1 := List.forall_mem_cons.mpr ⟨List.forall_mem_cons.mpr ⟨fun _ => rfl, List.forall_mem_cons.mpr ⟨fun z => absurd z (by decide), List.forall_mem_cons.mpr ⟨fun _ => rfl, List.forall_mem_cons.mpr ⟨fun _ => rfl, List.forall_mem_cons.mpr ⟨fun _ => rfl, List.forall_mem_cons.mpr ⟨fun _ => rfl, List.forall_mem_cons.mpr ⟨fun _ => rfl, List.forall_mem_cons.mpr ⟨fun _ => rfl, List.forall_mem_cons.mpr ⟨fun z => absurd z (by decide), List.forall_mem_cons.mpr ⟨fun _ => rfl, fun _ h => absurd h List.not_mem_nil⟩⟩⟩⟩⟩⟩⟩⟩⟩⟩, List.forall_mem_cons.mpr ⟨fun _ h => absurd h List.not_mem_nil, List.forall_mem_cons.mpr ⟨List.forall_mem_cons.mpr ⟨fun _ => rfl, List.forall_mem_cons.mpr ⟨fun z => absurd z (by decide), fun _ h => absurd h List.not_mem_nil⟩⟩, fun _ h => absurd h List.not_mem_nil⟩⟩⟩
theorem rxk_150 : rx_cm rx_X rx_P rxm_150 = true := by decide +kernel
theorem rxq_150 : rx_cq rxm_150 = true := by decide +kernel
theorem rxs_150 : rx_ST rx_P (rx_DF, rx_FK) rxm_150 := rx_cm_ok rxc_all rxk_150 rxh_150
theorem rxh_151 : ∀ ch ∈ rx_cd rxm_151, ∀ x ∈ ch, x.2.1 = 0 → x.2.2.1 = rx_sem x.2.2.2.1 := List.forall_mem_cons.mpr ⟨List.forall_mem_cons.mpr ⟨fun _ => rfl, List.forall_mem_cons.mpr ⟨fun z => absurd z (by decide), List.forall_mem_cons.mpr ⟨fun _ => rfl, List.forall_mem_cons.mpr ⟨fun _ => rfl, fun _ h => absurd h List.not_mem_nil⟩⟩⟩⟩, List.forall_mem_cons.mpr ⟨fun _ h => absurd h List.not_mem_nil, List.forall_mem_cons.mpr ⟨List.forall_mem_cons.mpr ⟨fun _ => rfl, List.forall_mem_cons.mpr ⟨fun _ => rfl, List.forall_mem_cons.mpr ⟨fun z => absurd z (by decide), List.forall_mem_cons.mpr ⟨fun _ => rfl, List.forall_mem_cons.mpr ⟨fun _ => rfl, List.forall_mem_cons.mpr ⟨fun z => absurd z (by decide), List.forall_mem_cons.mpr ⟨fun _ => rfl, List.forall_mem_cons.mpr ⟨fun _ => rfl, fun _ h => absurd h List.not_mem_nil⟩⟩⟩⟩⟩⟩⟩⟩, List.forall_mem_cons.mpr ⟨List.forall_mem_cons.mpr ⟨fun z => absurd z (by decide), List.forall_mem_cons.mpr ⟨fun _ => rfl, List.forall_mem_cons.mpr ⟨fun _ => rfl, List.forall_mem_cons.mpr ⟨fun z => absurd z (by decide), List.forall_mem_cons.mpr ⟨fun _ => rfl, List.forall_mem_cons.mpr ⟨fun z => absurd z (by decide), fun _ h => absurd h List.not_mem_nil⟩⟩⟩⟩⟩⟩, fun _ h => absurd h List.not_mem_nil⟩⟩⟩⟩
theorem rxk_151 : rx_cm rx_X rx_P rxm_151 = true := by decide +kernel
theorem rxq_151 : rx_cq rxm_151 = true := by decide +kernel
theorem rxs_151 : rx_ST rx_P (rx_DF, rx_FK) rxm_151 := rx_cm_ok rxc_all rxk_151 rxh_151
theorem rxh_152 : ∀ ch ∈ rx_cd rxm_152, ∀ x ∈ ch, x.2.1 = 0 → x.2.2.1 = rx_sem x.2.2.2.1 := List.forall_mem_cons.mpr ⟨List.forall_mem_cons.mpr ⟨fun _ => rfl, List.forall_mem_cons.mpr ⟨fun _ => rfl, List.forall_mem_cons.mpr ⟨fun z => absurd z (by decide), List.forall_mem_cons.mpr ⟨fun _ => rfl, fun _ h => absurd h List.not_mem_nil⟩⟩⟩⟩, List.forall_mem_cons.mpr ⟨List.forall_mem_cons.mpr ⟨fun _ => rfl, List.forall_mem_cons.mpr ⟨fun z => absurd z (by decide), fun _ h => absurd h List.not_mem_nil⟩⟩, fun _ h => absurd h List.not_mem_nil⟩⟩
theorem rxk_152 : rx_cm rx_X rx_P rxm_152 = true := by decide +kernel
theorem rxq_152 : rx_cq rxm_152 = true := by decide +kernel
theorem rxs_152 : rx_ST rx_P (rx_DF, rx_FK) rxm_152 := rx_cm_ok rxc_all rxk_152 rxh_152
theorem rxh_153 : ∀ ch ∈ rx_cd rxm_153, ∀ x ∈ ch, x.2.1 = 0 → x.2.2.1 = rx_sem x.2.2.2.1 := List.forall_mem_cons.mpr ⟨List.forall_mem_cons.mpr ⟨fun _ => rfl, List.forall_mem_cons.mpr ⟨fun _ => rfl, List.forall_mem_cons.mpr ⟨fun z => absurd z (by decide), List.forall_mem_cons.mpr ⟨fun _ => rfl, List.forall_mem_cons.mpr ⟨fun _ => rfl, List.forall_mem_cons.mpr ⟨fun z => absurd z (by decide), fun _ h => absurd h List.not_mem_nil⟩⟩⟩⟩⟩⟩, fun _ h => absurd h List.not_mem_nil⟩
theorem rxk_153 : rx_cm rx_X rx_P rxm_153 = true := by decide +kernel
theorem rxq_153 : rx_cq rxm_153 = true := by decide +kernel
theorem rxs_153 : rx_ST rx_P (rx_DF, rx_FK) rxm_153 := rx_cm_ok rxc_all rxk_153 rxh_153
theorem rxh_154 : ∀ ch ∈ rx_cd rxm_154, ∀ x ∈ ch, x.2.1 = 0 → x.2.2.1 = rx_sem x.2.2.2.1 := List.forall_mem_cons.mpr ⟨List.forall_mem_cons.mpr ⟨fun _ => rfl, List.forall_mem_cons.mpr ⟨fun _ => rfl, List.forall_mem_cons.mpr ⟨fun _ => rfl, List.forall_mem_cons.mpr ⟨fun z => absurd z (by decide), List.forall_mem_cons.mpr ⟨fun _ => rfl, List.forall_mem_cons.mpr ⟨fun _ => rfl, List.forall_mem_cons.mpr ⟨fun z => absurd z (by decide), fun _ h => absurd h List.not_mem_nil⟩⟩⟩⟩⟩⟩⟩, fun _ h => absurd h List.not_mem_nil⟩
theorem rxk_154 : rx_cm rx_X rx_P rxm_154 = true := by decide +kernel
theorem rxq_154 : rx_cq rxm_154 = true := by decide +kernel
theorem rxs_154 : rx_ST rx_P (rx_DF, rx_FK) rxm_154 := rx_cm_ok rxc_all rxk_154 rxh_154
theorem rxh_155 : ∀ ch ∈ rx_cd rxm_155, ∀ x ∈ ch, x.2.1 = 0 → x.2.2.1 = rx_sem x.2.2.2.1 := List.forall_mem_cons.mpr ⟨List.forall_mem_cons.mpr ⟨fun _ => rfl, List.forall_mem_cons.mpr ⟨fun z => absurd z (by decide), List.forall_mem_cons.mpr ⟨fun _ => rfl, List.forall_mem_cons.mpr ⟨fun _ => rfl, List.forall_mem_cons.mpr ⟨fun _ => rfl, List.forall_mem_cons.mpr ⟨fun _ => rfl, List.forall_mem_cons.mpr ⟨fun _ => rfl, List.forall_mem_cons.mpr ⟨fun _ => rfl, List.forall_mem_cons.mpr ⟨fun _ => rfl, List.forall_mem_cons.mpr ⟨fun _ => rfl, List.forall_mem_cons.mpr ⟨fun _ => rfl, fun _ h => absurd h List.not_mem_nil⟩⟩⟩⟩⟩⟩⟩⟩⟩⟩⟩, List.forall_mem_cons.mpr ⟨List.forall_mem_cons.mpr ⟨fun _ => rfl, List.forall_mem_cons.mpr ⟨fun _ => rfl, List.forall_mem_cons.mpr ⟨fun _ => rfl, List.forall_mem_cons.mpr ⟨fun _ => rfl, List.forall_mem_cons.mpr ⟨fun _ => rfl, List.forall_mem_cons.mpr ⟨fun _ => rfl, List.forall_mem_cons.mpr ⟨fun _ => rfl, List.forall_mem_cons.mpr ⟨fun _ => rfl, List.forall_mem_cons.mpr ⟨fun _ => rfl, List.forall_mem_cons.mpr ⟨fun _ => rfl, fun _ h => absurd h List.not_mem_nil⟩⟩⟩⟩⟩⟩⟩⟩⟩⟩, List.forall_mem_cons.mpr ⟨List.forall_mem_cons.mpr ⟨fun _ => rfl, List.forall_mem_cons.mpr ⟨fun _ => rfl, List.forall_mem_cons.mpr ⟨fun _ => rfl, List.forall_mem_cons.mpr ⟨fun _ => rfl, fun _ h => absurd h List.not_mem_nil⟩⟩⟩⟩, List.forall_mem_cons.mpr ⟨fun _ h => absurd h List.not_mem_nil, List.forall_mem_cons.mpr ⟨List.forall_mem_cons.mpr ⟨fun _ => rfl, List.forall_mem_cons.mpr ⟨fun _ => rfl, List.forall_mem_cons.mpr ⟨fun _ => rfl, List.forall_mem_cons.mpr ⟨fun z => absurd z (by decide), fun _ h => absurd h List.not_mem_nil⟩⟩⟩⟩, fun _ h => absurd h List.not_mem_nil⟩⟩⟩⟩⟩
theorem rxk_155 : rx_cm rx_X rx_P rxm_155 = true := by decide +kernel
theorem rxq_155 : rx_cq rxm_155 = true := by decide +kernel
theorem rxs_155 : rx_ST rx_P (rx_DF, rx_FK) rxm_155 := rx_cm_ok rxc_all rxk_155 rxh_155
theorem rxh_156 : ∀ ch ∈ rx_cd rxm_156, ∀ x ∈ ch, x.2.1 = 0 → x.2.2.1 = rx_sem x.2.2.2.1 := List.forall_mem_cons.mpr ⟨List.forall_mem_cons.mpr ⟨fun _ => rfl, List.forall_mem_cons.mpr ⟨fun _ => rfl, List.forall_mem_cons.mpr ⟨fun _ => rfl, List.forall_mem_cons.mpr ⟨fun _ => rfl, List.forall_mem_cons.mpr ⟨fun z => absurd z (by decide), List.forall_mem_cons.mpr ⟨fun _ => rfl, List.forall_mem_cons.mpr ⟨fun z => absurd z (by decide), List.forall_mem_cons.mpr ⟨fun _ => rfl, fun _ h => absurd h List.not_mem_nil⟩⟩⟩⟩⟩⟩⟩⟩, List.forall_mem_cons.mpr ⟨List.forall_mem_cons.mpr ⟨fun _ => rfl, List.forall_mem_cons.mpr ⟨fun _ => rfl, List.forall_mem_cons.mpr ⟨fun z => absurd z (by decide), List.forall_mem_cons.mpr ⟨fun _ => rfl, List.forall_mem_cons.mpr ⟨fun _ => rfl, List.forall_mem_cons.mpr ⟨fun _ => rfl, List.forall_mem_cons.mpr ⟨fun z => absurd z (by decide), fun _ h => absurd h List.not_mem_nil⟩⟩⟩⟩⟩⟩⟩, fun _ h => absurd h List.not_mem_nil⟩⟩
theorem rxk_156 : rx_cm rx_X rx_P rxm_156 = true := by decide +kernel
theorem rxq_156 : rx_cq rxm_156 = true := by decide +kernel
theorem rxs_156 : rx_ST rx_P (rx_DF, rx_FK) rxm_156 := rx_cm_ok rxc_all rxk_156 rxh_156
theorem rxh_157 : ∀ ch ∈ rx_cd rxm_157, ∀ x ∈ ch, x.2.1 = 0 → x.2.2.1 = rx_sem x.2.2.2.1 := List.forall_mem_cons.mpr ⟨List.forall_mem_cons.mpr ⟨fun _ => rfl, List.forall_mem_cons.mpr ⟨fun _ => rfl, List.forall_mem_cons.mpr ⟨fun _ => rfl, List.forall_mem_cons.mpr ⟨fun _ => rfl, List.forall_mem_cons.mpr ⟨fun z => absurd z (by decide), List.forall_mem_cons.mpr ⟨fun _ => rfl, List.forall_mem_cons.mpr ⟨fun z => absurd z (by decide), List.forall_mem_cons.mpr ⟨fun _ => rfl, fun _ h => absurd h List.not_mem_nil⟩⟩⟩⟩⟩⟩⟩⟩, List.forall_mem_cons.mpr ⟨List.forall_mem_cons.mpr ⟨fun _ => rfl, List.forall_mem_cons.mpr ⟨fun _ => rfl, List.forall_mem_cons.mpr ⟨fun _ => rfl, List.forall_mem_cons.mpr ⟨fun _ => rfl, List.forall_mem_cons.mpr ⟨fun _ => rfl, List.forall_mem_cons.mpr ⟨fun _ => rfl, List.forall_mem_cons.mpr ⟨fun _ => rfl, List.forall_mem_cons.mpr ⟨fun _ => rfl, List.forall_mem_cons.mpr ⟨fun _ => rfl, List.forall_mem_cons.mpr ⟨fun _ => rfl, List.forall_mem_cons.mpr ⟨fun z => absurd z (by decide), fun _ h => absurd h List.not_mem_nil⟩⟩⟩⟩⟩⟩⟩⟩⟩⟩⟩, List.forall_mem_cons.mpr ⟨List.forall_mem_cons.mpr ⟨fun _ => rfl, List.forall_mem_cons.mpr ⟨fun _ => rfl, List.forall_mem_cons.mpr ⟨fun _ => rfl, fun _ h => absurd h List.not_mem_nil⟩⟩⟩, List.forall_mem_cons.mpr ⟨List.forall_mem_cons.mpr ⟨fun _ => rfl, List.forall_mem_cons.mpr ⟨fun z => absurd z (by decide), fun _ h => absurd h List.not_mem_nil⟩⟩, fun _ h => absurd h List.not_mem_nil⟩⟩⟩⟩
theorem rxk_157 : rx_cm rx_X rx_P rxm_157 = true := by decide +kernel
theorem rxq_157 : rx_cq rxm_157 = true := by decide +kernel
theorem rxs_157 : rx_ST rx_P (rx_DF, rx_FK) rxm_157 := rx_cm_ok rxc_all rxk_157 rxh_157
theorem rxh_158 : ∀ ch ∈ rx_cd rxm_158, ∀ x ∈ ch, x.2.1 = 0 → x.2.2.1 = rx_sem x.2.2.2.1 := List.forall_mem_cons.mpr ⟨List.forall_mem_cons.mpr ⟨fun _ => rfl, List.forall_mem_cons.mpr ⟨fun _ => rfl, List.forall_mem_cons.mpr ⟨fun z => absurd z (by decide), List.forall_mem_cons.mpr ⟨fun _ => rfl, List.forall_mem_cons.mpr ⟨fun _ => rfl, List.forall_mem_cons.mpr ⟨fun _ => rfl, List.forall_mem_cons.mpr ⟨fun _ => rfl, List.forall_mem_cons.mpr ⟨fun z => absurd z (by decide), List.forall_mem_cons.mpr ⟨fun _ => rfl, fun _ h => absurd h List.not_mem_nil⟩⟩⟩⟩⟩⟩⟩⟩⟩, List.forall_mem_cons.mpr ⟨fun _ h => absurd h List.not_mem_nil, List.forall_mem_cons.mpr ⟨fun _ h => absurd h List.not_mem_nil, List.forall_mem_cons.mpr ⟨List.forall_mem_cons.mpr ⟨fun z => absurd z (by decide), fun _ h => absurd h List.not_mem_nil⟩, fun _ h => absurd h List.not_mem_nil⟩⟩⟩⟩
theorem rxk_158 : rx_cm rx_X rx_P rxm_158 = true := by decide +kernel
theorem rxq_158 : rx_cq rxm_158 = true := by decide +kernel
theorem rxs_158 : rx_ST rx_P (rx_DF, rx_FK) rxm_158 := rx_cm_ok rxc_all rxk_158 rxh_158
theorem rxh_159 : ∀ ch ∈ rx_cd rxm_159, ∀ x ∈ ch, x.2.1 = 0 → x.2.2.1 = rx_sem x.2.2.2.1 := List.forall_mem_cons.mpr ⟨List.forall_mem_cons.mpr ⟨fun _ => rfl, List.forall_mem_cons.mpr ⟨fun _ => rfl, List.forall_mem_cons.mpr ⟨fun _ => rfl, List.forall_mem_cons.mpr ⟨fun _ => rfl, List.forall_mem_cons.mpr ⟨fun _ => rfl, List.forall_mem_cons.mpr ⟨fun _ => rfl, List.forall_mem_cons.mpr ⟨fun _ => rfl, List.forall_mem_cons.mpr ⟨fun _ => rfl, List.forall_mem_cons.mpr ⟨fun _ => rfl, List.forall_mem_cons.mpr ⟨fun z => absurd z (by decide), List.forall_mem_cons.mpr ⟨fun _ => rfl, List.forall_mem_cons.mpr ⟨fun _ => rfl, fun _ h => absurd h List.not_mem_nil⟩⟩⟩⟩⟩⟩⟩⟩⟩⟩⟩⟩, List.forall_mem_cons.mpr ⟨List.forall_mem_cons.mpr ⟨fun _ => rfl, List.forall_mem_cons.mpr ⟨fun _ => rfl, List.forall_mem_cons.mpr ⟨fun _ => rfl, List.forall_mem_cons.mpr ⟨fun z => absurd z (by decide), fun _ h => absurd h List.not_mem_nil⟩⟩⟩⟩, fun _ h => absurd h List.not_mem_nil⟩⟩
theorem rxk_159 : rx_cm rx_X rx_P rxm_159 = true := by decide +kernel
theorem rxq_159 : rx_cq rxm_159 = true := by decide +kernel
theorem rxs_159 : rx_ST rx_P (rx_DF, rx_FK) rxm_159 := rx_cm_ok rxc_all rxk_159 rxh_159
theorem rxh_160 : ∀ ch ∈ rx_cd rxm_160, ∀ x ∈ ch, x.2.1 = 0 → x.2.2.1 = rx_sem x.2.2.2.1 := List.forall_mem_cons.mpr ⟨List.forall_mem_cons.mpr ⟨fun _ => rfl, List.forall_mem_cons.mpr ⟨fun _ => rfl, List.forall_mem_cons.mpr ⟨fun _ => rfl, List.forall_mem_cons.mpr ⟨fun _ => rfl, List.forall_mem_cons.mpr ⟨fun _ => rfl, List.forall_mem_cons.mpr ⟨fun _ => rfl, List.forall_mem_cons.mpr ⟨fun _ => rfl, List.forall_mem_cons.mpr ⟨fun _ => rfl, List.forall_mem_cons.mpr ⟨fun _ => rfl, List.forall_mem_cons.mpr ⟨fun _ => rfl, List.forall_mem_cons.mpr ⟨fun _ => rfl, fun _ h => absurd h List.not_mem_nil⟩⟩⟩⟩⟩⟩⟩⟩⟩⟩⟩, List.forall_mem_cons.mpr ⟨List.forall_mem_cons.mpr ⟨fun _ => rfl, List.forall_mem_cons.mpr ⟨fun _ => rfl, List.forall_mem_cons.mpr ⟨fun _ => rfl, List.forall_mem_cons.mpr ⟨fun _ => rfl, List.forall_mem_cons.mpr ⟨fun _ => rfl, List.forall_mem_cons.mpr ⟨fun _ => rfl, List.forall_mem_cons.mpr ⟨fun _ => rfl, List.forall_mem_cons.mpr ⟨fun _ => rfl, fun _ h => absurd h List.not_mem_nil⟩⟩⟩⟩⟩⟩⟩⟩, List.forall_mem_cons.mpr ⟨List.forall_mem_cons.mpr ⟨fun _ => rfl, List.forall_mem_cons.mpr ⟨fun _ => rfl, List.forall_mem_cons.mpr ⟨fun _ => rfl, List.forall_mem_cons.mpr ⟨fun _ => rfl, List.forall_mem_cons.mpr ⟨fun _ => rfl, List.forall_mem_cons.mpr ⟨fun _ => rfl, List.forall_mem_cons.mpr ⟨fun _ => rfl, List.forall_mem_cons.mpr ⟨fun _ => rfl, List.forall_mem_cons.mpr ⟨fun _ => rfl, fun _ h => absurd h List.not_mem_nil⟩⟩⟩⟩⟩⟩⟩⟩⟩, List.forall_mem_cons.mpr ⟨List.forall_mem_cons.mpr ⟨fun _ => rfl, List.forall_mem_cons.mpr ⟨fun _ => rfl, List.forall_mem_cons.mpr ⟨fun _ => rfl, List.forall_mem_cons.mpr ⟨fun _ => rfl, List.forall_mem_cons.mpr ⟨fun _ => rfl, List.forall_mem_cons.mpr ⟨fun _ => rfl, List.forall_mem_cons.mpr ⟨fun _ => rfl, List.forall_mem_cons.mpr ⟨fun _ => rfl, List.forall_mem_cons.mpr ⟨fun _ => rfl, List.forall_mem_cons.mpr ⟨fun _ => rfl, fun _ h => absurd h List.not_mem_nil⟩⟩⟩⟩⟩⟩⟩⟩⟩⟩, List.forall_mem_cons.mpr ⟨List.forall_mem_cons.mpr ⟨fun _ => rfl, List.forall_mem_cons.mpr ⟨fun _ => rfl, List.forall_mem_cons.mpr ⟨fun _ => rfl, List.forall_mem_cons.mpr ⟨fun z => absurd z (by decide), List.forall_mem_cons.mpr ⟨fun _ => rfl, List.forall_mem_cons.mpr ⟨fun _ => rfl, List.forall_mem_cons.mpr ⟨fun _ => rfl, List.forall_mem_cons.mpr ⟨fun _ => rfl, List.forall_mem_cons.mpr ⟨fun z => absurd z (by decide), fun _ h => absurd h List.not_mem_nil⟩⟩⟩⟩⟩⟩⟩⟩⟩, List.forall_mem_cons.mpr ⟨List.forall_mem_cons.mpr ⟨fun _ => rfl, fun _ h => absurd h List.not_mem_nil⟩, List.forall_mem_cons.mpr ⟨List.forall_mem_cons.mpr ⟨fun _ => rfl, List.forall_mem_cons.mpr ⟨fun _ => rfl, List.forall_mem_cons.mpr ⟨fun _ => rfl, List.forall_mem_cons.mpr ⟨fun _ => rfl, List.forall_mem_cons.mpr ⟨fun _ => rfl, List.forall_mem_cons.mpr ⟨fun _ => rfl, fun _ h => absurd h List.not_mem_nil⟩⟩⟩⟩⟩⟩, List.forall_mem_cons.mpr ⟨List.forall_mem_cons.mpr ⟨fun _ => rfl, List.forall_mem_cons.mpr ⟨fun _ => rfl, List.forall_mem_cons.mpr ⟨fun _ => rfl, List.forall_mem_cons.mpr ⟨fun _ => rfl, List.forall_mem_cons.mpr ⟨fun _ => rfl, List.forall_mem_cons.mpr ⟨fun _ => rfl, List.forall_mem_cons.mpr ⟨fun _ => rfl, List.forall_mem_cons.mpr ⟨fun _ => rfl, List.forall_mem_cons.mpr ⟨fun _ => rfl, List.forall_mem_cons.mpr ⟨fun _ => rfl, fun _ h => absurd h List.not_mem_nil⟩⟩⟩⟩⟩⟩⟩⟩⟩⟩, List.forall_mem_cons.mpr ⟨List.forall_mem_cons.mpr ⟨fun _ => rfl, List.forall_mem_cons.mpr ⟨fun _ => rfl, List.forall_mem_cons.mpr ⟨fun z => absurd z (by decide), fun _ h => absurd h List.not_mem_nil⟩⟩⟩, fun _ h => absurd h List.not_mem_nil⟩⟩⟩⟩⟩⟩⟩⟩⟩
theorem rxk_160 : rx_cm rx_X rx_P rxm_160 = true := by decide +kernel
theorem rxq_160 : rx_cq rxm_160 = true := by decide +kernel
theorem rxs_160 : rx_ST rx_P (rx_DF, rx_FK) rxm_160 := rx_cm_ok rxc_all rxk_160 rxh_160
theorem rxh_161 : ∀ ch ∈ rx_cd rxm_161, ∀ x ∈ ch, x.2.1 = 0 → x.2.2.1 = rx_sem x.2.2.2.1 := List.forall_mem_cons.mpr ⟨List.forall_mem_cons.mpr ⟨fun _ => rfl, List.forall_mem_cons.mpr ⟨fun z => absurd z (by decide), List.forall_mem_cons.mpr ⟨fun _ => rfl, List.forall_mem_cons.mpr ⟨fun _ => rfl, List.forall_mem_cons.mpr ⟨fun z => absurd z (by decide), List.forall_mem_cons.mpr ⟨fun _ => rfl, fun _ h => absurd h List.not_mem_nil⟩⟩⟩⟩⟩⟩, List.forall_mem_cons.mpr ⟨List.forall_mem_cons.mpr ⟨fun _ => rfl, List.forall_mem_cons.mpr ⟨fun _ => rfl, List.forall_mem_cons.mpr ⟨fun _ => rfl, List.forall_mem_cons.mpr ⟨fun _ => rfl, List.forall_mem_cons.mpr ⟨fun _ => rfl, List.forall_mem_cons.mpr ⟨fun _ => rfl, List.forall_mem_cons.mpr ⟨fun _ => rfl, List.forall_mem_cons.mpr ⟨fun _ => rfl, List.forall_mem_cons.mpr ⟨fun _ => rfl, fun _ h => absurd h List.not_mem_nil⟩⟩⟩⟩⟩⟩⟩⟩⟩, List.forall_mem_cons.mpr ⟨List.forall_mem_cons.mpr ⟨fun _ => rfl, List.forall_mem_cons.mpr ⟨fun _ => rfl, List.forall_mem_cons.mpr ⟨fun _ => rfl, List.forall_mem_cons.mpr ⟨fun _ => rfl, List.forall_mem_cons.mpr ⟨fun _ => rfl, List.forall_mem_cons.mpr ⟨fun _ => rfl, List.forall_mem_cons.mpr ⟨fun _ => rfl, fun _ h => absurd h List.not_mem_nil⟩⟩⟩⟩⟩⟩⟩, List.forall_mem_cons.mpr ⟨List.forall_mem_cons.mpr ⟨fun _ => rfl, List.forall_mem_cons.mpr ⟨fun _ => rfl, List.forall_mem_cons.mpr ⟨fun z => absurd z (by decide), List.forall_mem_cons.mpr ⟨fun _ => rfl, List.forall_mem_cons.mpr ⟨fun z => absurd z (by decide), fun _ h => absurd h List.not_mem_nil⟩⟩⟩⟩⟩, fun _ h => absurd h List.not_mem_nil⟩⟩⟩⟩
theorem rxk_161 : rx_cm rx_X rx_P rxm_161 = true := by decide +kernel
theorem rxq_161 : rx_cq rxm_161 = true := by decide +kernel
theorem rxs_161 : rx_ST rx_P (rx_DF, rx_FK) rxm_161 := rx_cm_ok rxc_all rxk_161 rxh_161
theorem rxh_162 : ∀ ch ∈ rx_cd rxm_162, ∀ x ∈ ch, x.2.1 = 0 → x.2.2.1 = rx_sem x.2.2.2.1 := List.forall_mem_cons.mpr ⟨List.forall_mem_cons.mpr ⟨fun _ => rfl, List.forall_mem_cons.mpr ⟨fun z => absurd z (by decide), List.forall_mem_cons.mpr ⟨fun _ => rfl, List.forall_mem_cons.mpr ⟨fun _ => rfl, List.forall_mem_cons.mpr ⟨fun _ => rfl, List.forall_mem_cons.mpr ⟨fun _ => rfl, List.forall_mem_cons.mpr ⟨fun _ => rfl, List.forall_mem_cons.mpr ⟨fun _ => rfl, List.forall_mem_cons.mpr ⟨fun _ => rfl, fun _ h => absurd h List.not_mem_nil⟩⟩⟩⟩⟩⟩⟩⟩⟩, List.forall_mem_cons.mpr ⟨List.forall_mem_cons.mpr ⟨fun _ => rfl, List.forall_mem_cons.mpr ⟨fun _ => rfl, List.forall_mem_cons.mpr ⟨fun _ => rfl, List.forall_mem_cons.mpr ⟨fun _ => rfl, List.forall_mem_cons.mpr ⟨fun _ => rfl, List.forall_mem_cons.mpr ⟨fun _ => rfl, List.forall_mem_cons.mpr ⟨fun _ => rfl, List.forall_mem_cons.mpr ⟨fun _ => rfl, List.forall_mem_cons.mpr ⟨fun _ => rfl, fun _ h => absurd h List.not_mem_nil⟩⟩⟩⟩⟩⟩⟩⟩⟩, List.forall_mem_cons.mpr ⟨List.forall_mem_cons.mpr ⟨fun _ => rfl, List.forall_mem_cons.mpr ⟨fun _ => rfl, List.forall_mem_cons.mpr ⟨fun _ => rfl, List.forall_mem_cons.mpr ⟨fun _ => rfl, List.forall_mem_cons.mpr ⟨fun _ => rfl, List.forall_mem_cons.mpr ⟨fun _ => rfl, List.forall_mem_cons.mpr ⟨fun _ => rfl, List.forall_mem_cons.mpr ⟨fun _ => rfl, List.forall_mem_cons.mpr ⟨fun _ => rfl, fun _ h => absurd h List.not_mem_nil⟩⟩⟩⟩⟩⟩⟩⟩⟩, List.forall_mem_cons.mpr ⟨List.forall_mem_cons.mpr ⟨fun _ => rfl, List.forall_mem_cons.mpr ⟨fun _ => rfl, List.forall_mem_cons.mpr ⟨fun _ => rfl, List.forall_mem_cons.mpr ⟨fun _ => rfl, List.forall_mem_cons.mpr ⟨fun _ => rfl, List.forall_mem_cons.mpr ⟨fun _ => rfl, List.forall_mem_cons.mpr ⟨fun _ => rfl, List.forall_mem_cons.mpr ⟨fun _ => rfl, List.forall_mem_cons.mpr ⟨fun _ => rfl, fun _ h => absurd h List.not_mem_nil⟩⟩⟩⟩⟩⟩⟩⟩⟩, List.forall_mem_cons.mpr ⟨List.forall_mem_cons.mpr ⟨fun _ => rfl, List.forall_mem_cons.mpr ⟨fun _ => rfl, List.forall_mem_cons.mpr ⟨fun _ => rfl, List.forall_mem_cons.mpr ⟨fun _ => rfl, List.forall_mem_cons.mpr ⟨fun _ => rfl, List.forall_mem_cons.mpr ⟨fun _ => rfl, fun _ h => absurd h List.not_mem_nil⟩⟩⟩⟩⟩⟩, List.forall_mem_cons.mpr ⟨List.forall_mem_cons.mpr ⟨fun _ => rfl, List.forall_mem_cons.mpr ⟨fun _ => rfl, List.forall_mem_cons.mpr ⟨fun _ => rfl, List.forall_mem_cons.mpr ⟨fun _ => rfl, List.forall_mem_cons.mpr ⟨fun _ => rfl, List.forall_mem_cons.mpr ⟨fun _ => rfl, List.forall_mem_cons.mpr ⟨fun _ => rfl, List.forall_mem_cons.mpr ⟨fun _ => rfl, List.forall_mem_cons.mpr ⟨fun _ => rfl, List.forall_mem_cons.mpr ⟨fun _ => rfl, List.forall_mem_cons.mpr ⟨fun _ => rfl, fun _ h => absurd h List.not_mem_nil⟩⟩⟩⟩⟩⟩⟩⟩⟩⟩⟩, List.forall_mem_cons.mpr ⟨List.forall_mem_cons.mpr ⟨fun _ => rfl, List.forall_mem_cons.mpr ⟨fun _ => rfl, List.forall_mem_cons.mpr ⟨fun _ => rfl, List.forall_mem_cons.mpr ⟨fun _ => rfl, List.forall_mem_cons.mpr ⟨fun _ => rfl, List.forall_mem_cons.mpr ⟨fun _ => rfl, List.forall_mem_cons.mpr ⟨fun _ => rfl, List.forall_mem_cons.mpr ⟨fun _ => rfl, List.forall_mem_cons.mpr ⟨fun _ => rfl, List.forall_mem_cons.mpr ⟨fun _ => rfl, List.forall_mem_cons.mpr ⟨fun _ => rfl, List.forall_mem_cons.mpr ⟨fun _ => rfl, List.forall_mem_cons.mpr ⟨fun _ => rfl, fun _ h => absurd h List.not_mem_nil⟩⟩⟩⟩⟩⟩⟩⟩⟩⟩⟩⟩⟩, List.forall_mem_cons.mpr ⟨List.forall_mem_cons.mpr ⟨fun _ => rfl, List.forall_mem_cons.mpr ⟨fun _ => rfl, List.forall_mem_cons.mpr ⟨fun _ => rfl, List.forall_mem_cons.mpr ⟨fun _ => rfl, List.forall_mem_cons.mpr ⟨fun _ => rfl, List.forall_mem_cons.mpr ⟨fun _ => rfl, List.forall_mem_cons.mpr ⟨fun _ => rfl, List.forall_mem_cons.mpr ⟨fun _ => rfl, List.forall_mem_cons.mpr ⟨fun _ => rfl, List.forall_mem_cons.mpr ⟨fun _ => rfl, List.forall_mem_cons.mpr ⟨fun _ => rfl, List.forall_mem_cons.mpr ⟨fun _ => rfl, fun _ h => absurd h List.not_mem_nil⟩⟩⟩⟩⟩⟩⟩⟩⟩⟩⟩⟩, List.forall_mem_cons.mpr ⟨List.forall_mem_cons.mpr ⟨fun _ => rfl, List.forall_mem_cons.mpr ⟨fun _ => rfl, List.forall_mem_cons.mpr ⟨fun _ => rfl, List.forall_mem_cons.mpr ⟨fun _ => rfl, List.forall_mem_cons.mpr ⟨fun _ => rfl, List.forall_mem_cons.mpr ⟨fun _ => rfl, List.forall_mem_cons.mpr ⟨fun _ => rfl, List.forall_mem_cons.mpr ⟨fun _ => rfl, List.forall_mem_cons.mpr ⟨fun _ => rfl, List.forall_mem_cons.mpr ⟨fun _ => rfl, fun _ h => absurd h List.not_mem_nil⟩⟩⟩⟩⟩⟩⟩⟩⟩⟩, List.forall_mem_cons.mpr ⟨List.forall_mem_cons.mpr ⟨fun _ => rfl, List.forall_mem_cons.mpr ⟨fun _ => rfl, List.forall_mem_cons.mpr ⟨fun _ => rfl, List.forall_mem_cons.mpr ⟨fun _ => rfl, List.forall_mem_cons.mpr ⟨fun _ => rfl, List.forall_mem_cons.mpr ⟨fun _ => rfl, List.forall_mem_cons.mpr ⟨fun _ => rfl, List.forall_mem_cons.mpr ⟨fun _ => rfl, List.forall_mem_cons.mpr ⟨fun _ => rfl, List.forall_mem_cons.mpr ⟨fun _ => rfl, List.forall_mem_cons.mpr ⟨fun _ => rfl, fun _ h => absurd h List.not_mem_nil⟩⟩⟩⟩⟩⟩⟩⟩⟩⟩⟩, List.forall_mem_cons.mpr ⟨List.forall_mem_cons.mpr ⟨fun _ => rfl, List.forall_mem_cons.mpr ⟨fun _ => rfl, List.forall_mem_cons.mpr ⟨fun _ => rfl, List.forall_mem_cons.mpr ⟨fun _ => rfl, List.forall_mem_cons.mpr ⟨fun _ => rfl, List.forall_mem_cons.mpr ⟨fun _ => rfl, List.forall_mem_cons.mpr ⟨fun _ => rfl, List.forall_mem_cons.mpr ⟨fun _ => rfl, List.forall_mem_cons.mpr ⟨fun _ => rfl, List.forall_mem_cons.mpr ⟨fun _ => rfl, List.forall_mem_cons.mpr ⟨fun _ => rfl, fun _ h => absurd h List.not_mem_nil⟩⟩⟩⟩⟩⟩⟩⟩⟩⟩⟩, List.forall_mem_cons.mpr ⟨List.forall_mem_cons.mpr ⟨fun _ => rfl, List.forall_mem_cons.mpr ⟨fun _ => rfl, List.forall_mem_cons.mpr ⟨fun _ => rfl, List.forall_mem_cons.mpr ⟨fun _ => rfl, List.forall_mem_cons.mpr ⟨fun _ => rfl, List.forall_mem_cons.mpr ⟨fun _ => rfl, List.forall_mem_cons.mpr ⟨fun _ => rfl, List.forall_mem_cons.mpr ⟨fun _ => rfl, List.forall_mem_cons.mpr ⟨fun _ => rfl, List.forall_mem_cons.mpr ⟨fun _ => rfl, fun _ h => absurd h List.not_mem_nil⟩⟩⟩⟩⟩⟩⟩⟩⟩⟩, List.forall_mem_cons.mpr ⟨List.forall_mem_cons.mpr ⟨fun _ => rfl, List.forall_mem_cons.mpr ⟨fun _ => rfl, List.forall_mem_cons.mpr ⟨fun _ => rfl, List.forall_mem_cons.mpr ⟨fun _ => rfl, List.forall_mem_cons.mpr ⟨fun _ => rfl, List.forall_mem_cons.mpr ⟨fun _ => rfl, List.forall_mem_cons.mpr ⟨fun _ => rfl, List.forall_mem_cons.mpr ⟨fun _ => rfl, List.forall_mem_cons.mpr ⟨fun _ => rfl, List.forall_mem_cons.mpr ⟨fun _ => rfl, List.forall_mem_cons.mpr ⟨fun _ => rfl, fun _ h => absurd h List.not_mem_nil⟩⟩⟩⟩⟩⟩⟩⟩⟩⟩⟩, List.forall_mem_cons.mpr ⟨List.forall_mem_cons.mpr ⟨fun _ => rfl, List.forall_mem_cons.mpr ⟨fun _ => rfl, List.forall_mem_cons.mpr ⟨fun _ => rfl, List.forall_mem_cons.mpr ⟨fun _ => rfl, List.forall_mem_cons.mpr ⟨fun _ => rfl, List.forall_mem_cons.mpr ⟨fun _ => rfl, List.forall_mem_cons.mpr ⟨fun _ => rfl, List.forall_mem_cons.mpr ⟨fun _ => rfl, List.forall_mem_cons.mpr ⟨fun _ => rfl, List.forall_mem_cons.mpr ⟨fun _ => rfl, List.forall_mem_cons.mpr ⟨fun _ => rfl, fun _ h => absurd h List.not_mem_nil⟩⟩⟩⟩⟩⟩⟩⟩⟩⟩⟩, List.forall_mem_cons.mpr ⟨List.forall_mem_cons.mpr ⟨fun _ => rfl, List.forall_mem_cons.mpr ⟨fun _ => rfl, List.forall_mem_cons.mpr ⟨fun _ => rfl, List.forall_mem_cons.mpr ⟨fun _ => rfl, List.forall_mem_cons.mpr ⟨fun _ => rfl, List.forall_mem_cons.mpr ⟨fun _ => rfl, List.forall_mem_cons.mpr ⟨fun _ => rfl, List.forall_mem_cons.mpr ⟨fun _ => rfl, List.forall_mem_cons.mpr ⟨fun _ => rfl, List.forall_mem_cons.mpr ⟨fun _ => rfl, fun _ h => absurd h List.not_mem_nil⟩⟩⟩⟩⟩⟩⟩⟩⟩⟩, List.forall_mem_cons.mpr ⟨List.forall_mem_cons.mpr ⟨fun _ => rfl, List.forall_mem_cons.mpr ⟨fun _ => rfl, List.forall_mem_cons.mpr ⟨fun _ => rfl, List.forall_mem_cons.mpr ⟨fun _ => rfl, List.forall_mem_cons.mpr ⟨fun _ => rfl, List.forall_mem_cons.mpr ⟨fun _ => rfl, List.forall_mem_cons.mpr ⟨fun _ => rfl, List.forall_mem_cons.mpr ⟨fun _ => rfl, List.forall_mem_cons.mpr ⟨fun _ => rfl, List.forall_mem_cons.mpr ⟨fun _ => rfl, List.forall_mem_cons.mpr ⟨fun _ => rfl, fun _ h => absurd h List.not_mem_nil⟩⟩⟩⟩⟩⟩⟩⟩⟩⟩⟩, List.forall_mem_cons.mpr ⟨List.forall_mem_cons.mpr ⟨fun _ => rfl, List.forall_mem_cons.mpr ⟨fun _ => rfl, List.forall_mem_cons.mpr ⟨fun _ => rfl, List.forall_mem_cons.mpr ⟨fun _ => rfl, List.forall_mem_cons.mpr ⟨fun _ => rfl, List.forall_mem_cons.mpr ⟨fun _ => rfl, List.forall_mem_cons.mpr ⟨fun _ => rfl, List.forall_mem_cons.mpr ⟨fun _ => rfl, List.forall_mem_cons.mpr ⟨fun _ => rfl, List.forall_mem_cons.mpr ⟨fun _ => rfl, List.forall_mem_cons.mpr ⟨fun _ => rfl, fun _ h => absurd h List.not_mem_nil⟩⟩⟩⟩⟩⟩⟩⟩⟩⟩⟩, List.forall_mem_cons.mpr ⟨List.forall_mem_cons.mpr ⟨fun _ => rfl, List.forall_mem_cons.mpr ⟨fun _ => rfl, List.forall_mem_cons.mpr ⟨fun _ => rfl, List.forall_mem_cons.mpr ⟨fun _ => rfl, List.forall_mem_cons.mpr ⟨fun _ => rfl, List.forall_mem_cons.mpr ⟨fun _ => rfl, List.forall_mem_cons.mpr ⟨fun _ => rfl, List.forall_mem_cons.mpr ⟨fun _ => rfl, List.forall_mem_cons.mpr ⟨fun _ => rfl, List.forall_mem_cons.mpr ⟨fun _ => rfl, fun _ h => absurd h List.not_mem_nil⟩⟩⟩⟩⟩⟩⟩⟩⟩⟩, List.forall_mem_cons.mpr ⟨List.forall_mem_cons.mpr ⟨fun _ => rfl, List.forall_mem_cons.mpr ⟨fun _ => rfl, List.forall_mem_cons.mpr ⟨fun _ => rfl, List.forall_mem_cons.mpr ⟨fun _ => rfl, List.forall_mem_cons.mpr ⟨fun _ => rfl, List.forall_mem_cons.mpr ⟨fun _ => rfl, List.forall_mem_cons.mpr ⟨fun _ => rfl, List.forall_mem_cons.mpr ⟨fun _ => rfl, List.forall_mem_cons.mpr ⟨fun _ => rfl, List.forall_mem_cons.mpr ⟨fun _ => rfl, List.forall_mem_cons.mpr ⟨fun _ => rfl, fun _ h => absurd h List.not_mem_nil⟩⟩⟩⟩⟩⟩⟩⟩⟩⟩⟩, List.forall_mem_cons.mpr ⟨List.forall_mem_cons.mpr ⟨fun _ => rfl, List.forall_mem_cons.mpr ⟨fun _ => rfl, List.forall_mem_cons.mpr ⟨fun _ => rfl, List.forall_mem_cons.mpr ⟨fun _ => rfl, List.forall_mem_cons.mpr ⟨fun _ => rfl, List.forall_mem_cons.mpr ⟨fun _ => rfl, List.forall_mem_cons.mpr ⟨fun _ => rfl, List.forall_mem_cons.mpr ⟨fun _ => rfl, List.forall_mem_cons.mpr ⟨fun _ => rfl, List.forall_mem_cons.mpr ⟨fun _ => rfl, List.forall_mem_cons.mpr ⟨fun _ => rfl, fun _ h => absurd h List.not_mem_nil⟩⟩⟩⟩⟩⟩⟩⟩⟩⟩⟩, List.forall_mem_cons.mpr ⟨List.forall_mem_cons.mpr ⟨fun _ => rfl, List.forall_mem_cons.mpr ⟨fun _ => rfl, List.forall_mem_cons.mpr ⟨fun _ => rfl, List.forall_mem_cons.mpr ⟨fun _ => rfl, List.forall_mem_cons.mpr ⟨fun _ => rfl, List.forall_mem_cons.mpr ⟨fun _ => rfl, List.forall_mem_cons.mpr ⟨fun _ => rfl, List.forall_mem_cons.mpr ⟨fun _ => rfl, List.forall_mem_cons.mpr ⟨fun _ => rfl, List.forall_mem_cons.mpr ⟨fun _ => rfl, fun _ h => absurd h List.not_mem_nil⟩⟩⟩⟩⟩⟩⟩⟩⟩⟩, List.forall_mem_cons.mpr ⟨List.forall_mem_cons.mpr ⟨fun _ => rfl, List.forall_mem_cons.mpr ⟨fun _ => rfl, List.forall_mem_cons.mpr ⟨fun _ => rfl, List.forall_mem_cons.mpr ⟨fun _ => rfl, List.forall_mem_cons.mpr ⟨fun _ => rfl, List.forall_mem_cons.mpr ⟨fun _ => rfl, List.forall_mem_cons.mpr ⟨fun _ => rfl, List.forall_mem_cons.mpr ⟨fun _ => rfl, List.forall_mem_cons.mpr ⟨fun _ => rfl, List.forall_mem_cons.mpr ⟨fun _ => rfl, List.forall_mem_cons.mpr ⟨fun _ => rfl, fun _ h => absurd h List.not_mem_nil⟩⟩⟩⟩⟩⟩⟩⟩⟩⟩⟩, List.forall_mem_cons.mpr ⟨List.forall_mem_cons.mpr ⟨fun _ => rfl, List.forall_mem_cons.mpr ⟨fun _ => rfl, List.forall_mem_cons.mpr ⟨fun _ => rfl, List.forall_mem_cons.mpr ⟨fun _ => rfl, List.forall_mem_cons.mpr ⟨fun _ => rfl, List.forall_mem_cons.mpr ⟨fun _ => rfl, List.forall_mem_cons.mpr ⟨fun _ => rfl, List.forall_mem_cons.mpr ⟨fun _ => rfl, List.forall_mem_cons.mpr ⟨fun _ => rfl, fun _ h => absurd h List.not_mem_nil⟩⟩⟩⟩⟩⟩⟩⟩⟩, List.forall_mem_cons.mpr ⟨List.forall_mem_cons.mpr ⟨fun _ => rfl, List.forall_mem_cons.mpr ⟨fun _ => rfl, List.forall_mem_cons.mpr ⟨fun _ => rfl, List.forall_mem_cons.mpr ⟨fun _ => rfl, List.forall_mem_cons.mpr ⟨fun _ => rfl, List.forall_mem_cons.mpr ⟨fun _ => rfl, List.forall_mem_cons.mpr ⟨fun _ => rfl, List.forall_mem_cons.mpr ⟨fun _ => rfl, fun _ h => absurd h List.not_mem_nil⟩⟩⟩⟩⟩⟩⟩⟩, List.forall_mem_cons.mpr ⟨List.forall_mem_cons.mpr ⟨fun _ => rfl, List.forall_mem_cons.mpr ⟨fun _ => rfl, List.forall_mem_cons.mpr ⟨fun _ => rfl, List.forall_mem_cons.mpr ⟨fun _ => rfl, List.forall_mem_cons.mpr ⟨fun _ => rfl, List.forall_mem_cons.mpr ⟨fun _ => rfl, List.forall_mem_cons.mpr ⟨fun _ => rfl, List.forall_mem_cons.mpr ⟨fun _ => rfl, fun _ h => absurd h List.not_mem_nil⟩⟩⟩⟩⟩⟩⟩⟩, List.forall_mem_cons.mpr ⟨List.forall_mem_cons.mpr ⟨fun _ => rfl, List.forall_mem_cons.mpr ⟨fun _ => rfl, List.forall_mem_cons.mpr ⟨fun _ => rfl, List.forall_mem_cons.mpr ⟨fun _ => rfl, List.forall_mem_cons.mpr ⟨fun _ => rfl, List.forall_mem_cons.mpr ⟨fun _ => rfl, List.forall_mem_cons.mpr ⟨fun _ => rfl, List.forall_mem_cons.mpr ⟨fun _ => rfl, fun _ h => absurd h List.not_mem_nil⟩⟩⟩⟩⟩⟩⟩⟩, List.forall_mem_cons.mpr ⟨List.forall_mem_cons.mpr ⟨fun _ => rfl, List.forall_mem_cons.mpr ⟨fun _ => rfl, List.forall_mem_cons.mpr ⟨fun _ => rfl, List.forall_mem_cons.mpr ⟨fun _ => rfl, List.forall_mem_cons.mpr ⟨fun _ => rfl, List.forall_mem_cons.mpr ⟨fun _ => rfl, List.forall_mem_cons.mpr ⟨fun _ => rfl, List.forall_mem_cons.mpr ⟨fun _ => rfl, fun _ h => absurd h List.not_mem_nil⟩⟩⟩⟩⟩⟩⟩⟩, List.forall_mem_cons.mpr ⟨List.forall_mem_cons.mpr ⟨fun _ => rfl, List.forall_mem_cons.mpr ⟨fun _ => rfl, List.forall_mem_cons.mpr ⟨fun _ => rfl, List.forall_mem_cons.mpr ⟨fun _ => rfl, List.forall_mem_cons.mpr ⟨fun _ => rfl, List.forall_mem_cons.mpr ⟨fun _ => rfl, List.forall_mem_cons.mpr ⟨fun _ => rfl, fun _ h => absurd h List.not_mem_nil⟩⟩⟩⟩⟩⟩⟩, List.forall_mem_cons.mpr ⟨List.forall_mem_cons.mpr ⟨fun _ => rfl, List.forall_mem_cons.mpr ⟨fun _ => rfl, List.forall_mem_cons.mpr ⟨fun _ => rfl, List.forall_mem_cons.mpr ⟨fun _ => rfl, List.forall_mem_cons.mpr ⟨fun _ => rfl, List.forall_mem_cons.mpr ⟨fun _ => rfl, List.forall_mem_cons.mpr ⟨fun _ => rfl, List.forall_mem_cons.mpr ⟨fun _ => rfl, fun _ h => absurd h List.not_mem_nil⟩⟩⟩⟩⟩⟩⟩⟩, List.forall_mem_cons.mpr ⟨List.forall_mem_cons.mpr ⟨fun _ => rfl, List.forall_mem_cons.mpr ⟨fun _ => rfl, List.forall_mem_cons.mpr ⟨fun _ => rfl, List.forall_mem_cons.mpr ⟨fun _ => rfl, List.forall_mem_cons.mpr ⟨fun _ => rfl, List.forall_mem_cons.mpr ⟨fun _ => rfl, List.forall_mem_cons.mpr ⟨fun _ => rfl, List.forall_mem_cons.mpr ⟨fun _ => rfl, fun _ h => absurd h List.not_mem_nil⟩⟩⟩⟩⟩⟩⟩⟩, List.forall_mem_cons.mpr ⟨List.forall_mem_cons.mpr ⟨fun _ => rfl, List.forall_mem_cons.mpr ⟨fun _ => rfl, List.forall_mem_cons.mpr ⟨fun _ => rfl, List.forall_mem_cons.mpr ⟨fun _ => rfl, List.forall_mem_cons.mpr ⟨fun _ => rfl, List.forall_mem_cons.mpr ⟨fun _ => rfl, List.forall_mem_cons.mpr ⟨fun _ => rfl, List.forall_mem_cons.mpr ⟨fun _ => rfl, fun _ h => absurd h List.not_mem_nil⟩⟩⟩⟩⟩⟩⟩⟩, List.forall_mem_cons.mpr ⟨List.forall_mem_cons.mpr ⟨fun _ => rfl, List.forall_mem_cons.mpr ⟨fun _ => rfl, List.forall_mem_cons.mpr ⟨fun _ => rfl, List.forall_mem_cons.mpr ⟨fun _ => rfl, List.forall_mem_cons.mpr ⟨fun _ => rfl, List.forall_mem_cons.mpr ⟨fun _ => rfl, List.forall_mem_cons.mpr ⟨fun _ => rfl, List.forall_mem_cons.mpr ⟨fun _ => rfl, fun _ h => absurd h List.not_mem_nil⟩⟩⟩⟩⟩⟩⟩⟩, List.forall_mem_cons.mpr ⟨List.forall_mem_cons.mpr ⟨fun _ => rfl, List.forall_mem_cons.mpr ⟨fun _ => rfl, List.forall_mem_cons.mpr ⟨fun _ => rfl, List.forall_mem_cons.mpr ⟨fun _ => rfl, List.forall_mem_cons.mpr ⟨fun _ => rfl, List.forall_mem_cons.mpr ⟨fun _ => rfl, List.forall_mem_cons.mpr ⟨fun _ => rfl, List.forall_mem_cons.mpr ⟨fun _ => rfl, fun _ h => absurd h List.not_mem_nil⟩⟩⟩⟩⟩⟩⟩⟩, List.forall_mem_cons.mpr ⟨List.forall_mem_cons.mpr ⟨fun z => absurd z (by decide), List.forall_mem_cons.mpr ⟨fun _ => rfl, List.forall_mem_cons.mpr ⟨fun z => absurd z (by decide), List.forall_mem_cons.mpr ⟨fun z => absurd z (by decide), fun _ h => absurd h List.not_mem_nil⟩⟩⟩⟩, fun _ h => absurd h List.not_mem_nil⟩⟩⟩⟩⟩⟩⟩⟩⟩⟩⟩⟩⟩⟩⟩⟩⟩⟩⟩⟩⟩⟩⟩⟩⟩⟩⟩⟩⟩⟩⟩⟩⟩⟩
theorem rxk_162 : rx_cm rx_X rx_P rxm_162 = true := by decide +kernel
theorem rxq_162 : rx_cq rxm_162 = true := by decide +kernel
theorem rxs_162 : rx_ST rx_P (rx_DF, rx_FK) rxm_162 := rx_cm_ok rxc_all rxk_162 rxh_162
theorem rxh_163 : ∀ ch ∈ rx_cd rxm_163, ∀ x ∈ ch, x.2.1 = 0 → x.2.2.1 = rx_sem x.2.2.2.1 := List.forall_mem_cons.mpr ⟨List.forall_mem_cons.mpr ⟨fun _ => rfl, List.forall_mem_cons.mpr ⟨fun _ => rfl, List.forall_mem_cons.mpr ⟨fun _ => rfl, List.forall_mem_cons.mpr ⟨fun _ => rfl, List.forall_mem_cons.mpr ⟨fun _ => rfl, List.forall_mem_cons.mpr ⟨fun _ => rfl, List.forall_mem_cons.mpr ⟨fun _ => rfl, List.forall_mem_cons.mpr ⟨fun _ => rfl, List.forall_mem_cons.mpr ⟨fun _ => rfl, List.forall_mem_cons.mpr ⟨fun _ => rfl, fun _ h => absurd h List.not_mem_nil⟩⟩⟩⟩⟩⟩⟩⟩⟩⟩, List.forall_mem_cons.mpr ⟨List.forall_mem_cons.mpr ⟨fun _ => rfl, List.forall_mem_cons.mpr ⟨fun _ => rfl, List.forall_mem_cons.mpr ⟨fun _ => rfl, List.forall_mem_cons.mpr ⟨fun _ => rfl, List.forall_mem_cons.mpr ⟨fun _ => rfl, List.forall_mem_cons.mpr ⟨fun _ => rfl, List.forall_mem_cons.mpr ⟨fun _ => rfl, List.forall_mem_cons.mpr ⟨fun _ => rfl, List.forall_mem_cons.mpr ⟨fun _ => rfl, List.forall_mem_cons.mpr ⟨fun _ => rfl, fun _ h => absurd h List.not_mem_nil⟩⟩⟩⟩⟩⟩⟩⟩⟩⟩, List.forall_mem_cons.mpr ⟨List.forall_mem_cons.mpr ⟨fun _ => rfl, List.forall_mem_cons.mpr ⟨fun _ => rfl, List.forall_mem_cons.mpr ⟨fun _ => rfl, List.forall_mem_cons.mpr ⟨fun _ => rfl, List.forall_mem_cons.mpr ⟨fun _ => rfl, List.forall_mem_cons.mpr ⟨fun _ => rfl, List.forall_mem_cons.mpr ⟨fun _ => rfl, List.forall_mem_cons.mpr ⟨fun _ => rfl, List.forall_mem_cons.mpr ⟨fun _ => rfl, List.forall_mem_cons.mpr ⟨fun _ => rfl, fun _ h => absurd h List.not_mem_nil⟩⟩⟩⟩⟩⟩⟩⟩⟩⟩, List.forall_mem_cons.mpr ⟨List.forall_mem_cons.mpr ⟨fun _ => rfl, List.forall_mem_cons.mpr ⟨fun _ => rfl, List.forall_mem_cons.mpr ⟨fun z => absurd z (by decide), List.forall_mem_cons.mpr ⟨fun _ => rfl, List.forall_mem_cons.mpr ⟨fun _ => rfl, List.forall_mem_cons.mpr ⟨fun z => absurd z (by decide), List.forall_mem_cons.mpr ⟨fun _ => rfl, List.forall_mem_cons.mpr ⟨fun _ => rfl, List.forall_mem_cons.mpr ⟨fun _ => rfl, fun _ h => absurd h List.not_mem_nil⟩⟩⟩⟩⟩⟩⟩⟩⟩, List.forall_mem_cons.mpr ⟨List.forall_mem_cons.mpr ⟨fun _ => rfl, List.forall_mem_cons.mpr ⟨fun _ => rfl, List.forall_mem_cons.mpr ⟨fun _ => rfl, List.forall_mem_cons.mpr ⟨fun _ => rfl, List.forall_mem_cons.mpr ⟨fun _ => rfl, List.forall_mem_cons.mpr ⟨fun _ => rfl, List.forall_mem_cons.mpr ⟨fun _ => rfl, fun _ h => absurd h List.not_mem_nil⟩⟩⟩⟩⟩⟩⟩, List.forall_mem_cons.mpr ⟨List.forall_mem_cons.mpr ⟨fun _ => rfl, List.forall_mem_cons.mpr ⟨fun _ => rfl, List.forall_mem_cons.mpr ⟨fun _ => rfl, List.forall_mem_cons.mpr ⟨fun _ => rfl, List.forall_mem_cons.mpr ⟨fun _ => rfl, List.forall_mem_cons.mpr ⟨fun z => absurd z (by decide), List.forall_mem_cons.mpr ⟨fun _ => rfl, List.forall_mem_cons.mpr ⟨fun z => absurd z (by decide), fun _ h => absurd h List.not_mem_nil⟩⟩⟩⟩⟩⟩⟩⟩, List.forall_mem_cons.mpr ⟨List.forall_mem_cons.mpr ⟨fun z => absurd z (by decide), fun _ h => absurd h List.not_mem_nil⟩, fun _ h => absurd h List.not_mem_nil⟩⟩⟩⟩⟩⟩⟩
theorem rxk_163 : rx_cm rx_X rx_P rxm_163 = true := by decide +kernel
theorem rxq_163 : rx_cq rxm_163 = true := by decide +kernel
theorem rxs_163 : rx_ST rx_P (rx_DF, rx_FK) rxm_163 := rx_cm_ok rxc_all rxk_163 rxh_163
set_option maxRecDepth 20000 in
theorem rxP_ok : ∀ q ∈ rx_P, rx_QW q ∧ rx_ST rx_P (rx_DF, rx_FK) q := List.forall_mem_cons.mpr ⟨⟨rx_cq_ok rxq_0, rxs_0⟩, List.forall_mem_cons.mpr ⟨⟨rx_cq_ok rxq_1, rxs_1⟩, List.forall_mem_cons.mpr ⟨⟨rx_cq_ok rxq_2, rxs_2⟩, List.forall_mem_cons.mpr ⟨⟨rx_cq_ok rxq_3, rxs_3⟩, List.forall_mem_cons.mpr ⟨⟨rx_cq_ok rxq_4, rxs_4⟩, List.forall_mem_cons.mpr ⟨⟨rx_cq_ok rxq_5, rxs_5⟩, List.forall_mem_cons.mpr ⟨⟨rx_cq_ok rxq_6, rxs_6⟩, List.forall_mem_cons.mpr ⟨⟨rx_cq_ok rxq_7, rxs_7⟩, List.forall_mem_cons.mpr ⟨⟨rx_cq_ok rxq_8, rxs_8⟩, List.forall_mem_cons.mpr ⟨⟨rx_cq_ok rxq_9, rxs_9⟩, List.forall_mem_cons.mpr ⟨⟨rx_cq_ok rxq_10, rxs_10⟩, List.forall_mem_cons.mpr ⟨⟨rx_cq_ok rxq_11, rxs_11⟩, List.forall_mem_cons.mpr ⟨⟨rx_cq_ok rxq_12, rxs_12⟩, List.forall_mem_cons.mpr ⟨⟨rx_cq_ok rxq_13, rxs_13⟩, List.forall_mem_cons.mpr ⟨⟨rx_cq_ok rxq_14, rxs_14⟩, List.forall_mem_cons.mpr ⟨⟨rx_cq_ok rxq_15, rxs_15⟩, List.forall_mem_cons.mpr ⟨⟨rx_cq_ok rxq_16, rxs_16⟩, List.forall_mem_cons.mpr ⟨⟨rx_cq_ok rxq_17, rxs_17⟩, List.forall_mem_cons.mpr ⟨⟨rx_cq_ok rxq_18, rxs_18⟩, List.forall_mem_cons.mpr ⟨⟨rx_cq_ok rxq_19, rxs_19⟩, List.forall_mem_cons.mpr ⟨⟨rx_cq_ok rxq_20, rxs_20⟩, List.forall_mem_cons.mpr ⟨⟨rx_cq_ok rxq_21, rxs_21⟩, List.forall_mem_cons.mpr ⟨⟨rx_cq_ok rxq_22, rxs_22⟩, List.forall_mem_cons.mpr ⟨⟨rx_cq_ok rxq_23, rxs_23⟩, List.forall_mem_cons.mpr ⟨⟨rx_cq_ok rxq_24, rxs_24⟩, List.forall_mem_cons.mpr ⟨⟨rx_cq_ok rxq_25, rxs_25⟩, List.forall_mem_cons.mpr ⟨⟨rx_cq_ok rxq_26, rxs_26⟩, List.forall_mem_cons.mpr ⟨⟨rx_cq_ok rxq_27, rxs_27⟩, List.forall_mem_cons.mpr ⟨⟨rx_cq_ok rxq_28, rxs_28⟩, List.forall_mem_cons.mpr ⟨⟨rx_cq_ok rxq_29, rxs_29⟩, List.forall_mem_cons.mpr ⟨⟨rx_cq_ok rxq_30, rxs_30⟩, List.forall_mem_cons.mpr ⟨⟨rx_cq_ok rxq_31, rxs_31⟩, List.forall_mem_cons.mpr ⟨⟨rx_cq_ok rxq_32, rxs_32⟩, List.forall_mem_cons.mpr ⟨⟨rx_cq_ok rxq_33, rxs_33⟩, List.forall_mem_cons.mpr ⟨⟨rx_cq_ok rxq_34, rxs_34⟩, List.forall_mem_cons.mpr ⟨⟨rx_cq_ok rxq_35, rxs_35⟩, List.forall_mem_cons.mpr ⟨⟨rx_cq_ok rxq_36, rxs_36⟩, List.forall_mem_cons.mpr ⟨⟨rx_cq_ok rxq_37, rxs_37⟩, List.forall_mem_cons.mpr ⟨⟨rx_cq_ok rxq_38, rxs_38⟩, List.forall_mem_cons.mpr ⟨⟨rx_cq_ok rxq_39, rxs_39⟩, List.forall_mem_cons.mpr ⟨⟨rx_cq_ok rxq_40, rxs_40⟩, List.forall_mem_cons.mpr ⟨⟨rx_cq_ok rxq_41, rxs_41⟩, List.forall_mem_cons.mpr ⟨⟨rx_cq_ok rxq_42, rxs_42⟩, List.forall_mem_cons.mpr ⟨⟨rx_cq_ok rxq_43, rxs_43⟩, List.forall_mem_cons.mpr ⟨⟨rx_cq_ok rxq_44, rxs_44⟩, List.forall_mem_cons.mpr ⟨⟨rx_cq_ok rxq_45, rxs_45⟩, List.forall_mem_cons.mpr ⟨⟨rx_cq_ok rxq_46, rxs_46⟩, List.forall_mem_cons.mpr ⟨⟨rx_cq_ok rxq_47, rxs_47⟩, List.forall_mem_cons.mpr ⟨⟨rx_cq_ok rxq_48, rxs_48⟩, List.forall_mem_cons.mpr ⟨⟨rx_cq_ok rxq_49, rxs_49⟩, List.forall_mem_cons.mpr ⟨⟨rx_cq_ok rxq_50, rxs_50⟩, List.forall_mem_cons.mpr ⟨⟨rx_cq_ok rxq_51, rxs_51⟩, List.forall_mem_cons.mpr ⟨⟨rx_cq_ok rxq_52, rxs_52⟩, List.forall_mem_cons.mpr ⟨⟨rx_cq_ok rxq_53, rxs_53⟩, List.forall_mem_cons.mpr ⟨⟨rx_cq_ok rxq_54, rxs_54⟩, List.forall_mem_cons.mpr ⟨⟨rx_cq_ok rxq_55, rxs_55⟩, List.forall_mem_cons.mpr ⟨⟨rx_cq_ok rxq_56, rxs_56⟩, List.forall_mem_cons.mpr ⟨⟨rx_cq_ok rxq_57, rxs_57⟩, List.forall_mem_cons.mpr ⟨⟨rx_cq_ok rxq_58, rxs_58⟩, List.forall_mem_cons.mpr ⟨⟨rx_cq_ok rxq_59, rxs_59⟩, List.forall_mem_cons.mpr ⟨⟨rx_cq_ok rxq_60, rxs_60⟩, List.forall_mem_cons.mpr ⟨⟨rx_cq_ok rxq_61, rxs_61⟩, List.forall_mem_cons.mpr ⟨⟨rx_cq_ok rxq_62, rxs_62⟩, List.forall_mem_cons.mpr ⟨⟨rx_cq_ok rxq_63, rxs_63⟩, List.forall_mem_cons.mpr ⟨⟨rx_cq_ok rxq_64, rxs_64⟩, List.forall_mem_cons.mpr ⟨⟨rx_cq_ok rxq_65, rxs_65⟩, List.forall_mem_cons.mpr ⟨⟨rx_cq_ok rxq_66, rxs_66⟩, List.forall_mem_cons.mpr ⟨⟨rx_cq_ok rxq_67, rxs_67⟩, List.forall_mem_cons.mpr ⟨⟨rx_cq_ok rxq_68, rxs_68⟩, List.forall_mem_cons.mpr ⟨⟨rx_cq_ok rxq_69, rxs_69⟩, List.forall_mem_cons.mpr ⟨⟨rx_cq_ok rxq_70, rxs_70⟩, List.forall_mem_cons.mpr ⟨⟨rx_cq_ok rxq_71, rxs_71⟩, List.forall_mem_cons.mpr ⟨⟨rx_cq_ok rxq_72, rxs_72⟩, List.forall_mem_cons.mpr ⟨⟨rx_cq_ok rxq_73, rxs_73⟩, List.forall_mem_cons.mpr ⟨⟨rx_cq_ok rxq_74, rxs_74⟩, List.forall_mem_cons.mpr ⟨⟨rx_cq_ok rxq_75, rxs_75⟩, List.forall_mem_cons.mpr ⟨⟨rx_cq_ok rxq_76, rxs_76⟩, List.forall_mem_cons.mpr ⟨⟨rx_cq_ok rxq_77, rxs_77⟩, List.forall_mem_cons.mpr ⟨⟨rx_cq_ok rxq_78, rxs_78⟩, List.forall_mem_cons.mpr ⟨⟨rx_cq_ok rxq_79, rxs_79⟩, List.forall_mem_cons.mpr ⟨⟨rx_cq_ok rxq_80, rxs_80⟩, List.forall_mem_cons.mpr ⟨⟨rx_cq_ok rxq_81, rxs_81⟩, List.forall_mem_cons.mpr ⟨⟨rx_cq_ok rxq_82, rxs_82⟩, List.forall_mem_cons.mpr ⟨⟨rx_cq_ok rxq_83, rxs_83⟩, List.forall_mem_cons.mpr ⟨⟨rx_cq_ok rxq_84, rxs_84⟩, List.forall_mem_cons.mpr ⟨⟨rx_cq_ok rxq_85, rxs_85⟩, List.forall_mem_cons.mpr ⟨⟨rx_cq_ok rxq_86, rxs_86⟩, List.forall_mem_cons.mpr ⟨⟨rx_cq_ok rxq_87, rxs_87⟩, List.forall_mem_cons.mpr ⟨⟨rx_cq_ok rxq_88, rxs_88⟩, List.forall_mem_cons.mpr ⟨⟨rx_cq_ok rxq_89, rxs_89⟩, List.forall_mem_cons.mpr ⟨⟨rx_cq_ok rxq_90, rxs_90⟩, List.forall_mem_cons.mpr ⟨⟨rx_cq_ok rxq_91, rxs_91⟩, List.forall_mem_cons.mpr ⟨⟨rx_cq_ok rxq_92, rxs_92⟩, List.forall_mem_cons.mpr ⟨⟨rx_cq_ok rxq_93, rxs_93⟩, List.forall_mem_cons.mpr ⟨⟨rx_cq_ok rxq_94, rxs_94⟩, List.forall_mem_cons.mpr ⟨⟨rx_cq_ok rxq_95, rxs_95⟩, List.forall_mem_cons.mpr ⟨⟨rx_cq_ok rxq_96, rxs_96⟩, List.forall_mem_cons.mpr ⟨⟨rx_cq_ok rxq_97, rxs_97⟩, List.forall_mem_cons.mpr ⟨⟨rx_cq_ok rxq_98, rxs_98⟩, List.forall_mem_cons.mpr ⟨⟨rx_cq_ok rxq_99, rxs_99⟩, List.forall_mem_cons.mpr ⟨⟨rx_cq_ok rxq_100, rxs_100⟩, List.forall_mem_cons.mpr ⟨⟨rx_cq_ok rxq_101, rxs_101⟩, List.forall_mem_cons.mpr ⟨⟨rx_cq_ok rxq_102, rxs_102⟩, List.forall_mem_cons.mpr ⟨⟨rx_cq_ok rxq_103, rxs_103⟩, List.forall_mem_cons.mpr ⟨⟨rx_cq_ok rxq_104, rxs_104⟩, List.forall_mem_cons.mpr ⟨⟨rx_cq_ok rxq_105, rxs_105⟩, List.forall_mem_cons.mpr ⟨⟨rx_cq_ok rxq_106, rxs_106⟩, List.forall_mem_cons.mpr ⟨⟨rx_cq_ok rxq_107, rxs_107⟩, List.forall_mem_cons.mpr ⟨⟨rx_cq_ok rxq_108, rxs_108⟩, List.forall_mem_cons.mpr ⟨⟨rx_cq_ok rxq_109, rxs_109⟩, List.forall_mem_cons.mpr ⟨⟨rx_cq_ok rxq_110, rxs_110⟩, List.forall_mem_cons.mpr ⟨⟨rx_cq_ok rxq_111, rxs_111⟩, List.forall_mem_cons.mpr ⟨⟨rx_cq_ok rxq_112, rxs_112⟩, List.forall_mem_cons.mpr ⟨⟨rx_cq_ok rxq_113, rxs_113⟩, List.forall_mem_cons.mpr ⟨⟨rx_cq_ok rxq_114, rxs_114⟩, List.forall_mem_cons.mpr ⟨⟨rx_cq_ok rxq_115, rxs_115⟩, List.forall_mem_cons.mpr ⟨⟨rx_cq_ok rxq_116, rxs_116⟩, List.forall_mem_cons.mpr ⟨⟨rx_cq_ok rxq_117, rxs_117⟩, List.forall_mem_cons.mpr ⟨⟨rx_cq_ok rxq_118, rxs_118⟩, List.forall_mem_cons.mpr ⟨⟨rx_cq_ok rxq_119, rxs_119⟩, List.forall_mem_cons.mpr ⟨⟨rx_cq_ok rxq_120, rxs_120⟩, List.forall_mem_cons.mpr ⟨⟨rx_cq_ok rxq_121, rxs_121⟩, List.forall_mem_cons.mpr ⟨⟨rx_cq_ok rxq_122, rxs_122⟩, List.forall_mem_cons.mpr ⟨⟨rx_cq_ok rxq_123, rxs_123⟩, List.forall_mem_cons.mpr ⟨⟨rx_cq_ok rxq_124, rxs_124⟩, List.forall_mem_cons.mpr ⟨⟨rx_cq_ok rxq_125, rxs_125⟩, List.forall_mem_cons.mpr ⟨⟨rx_cq_ok rxq_126, rxs_126⟩, List.forall_mem_cons.mpr ⟨⟨rx_cq_ok rxq_127, rxs_127⟩, List.forall_mem_cons.mpr ⟨⟨rx_cq_ok rxq_128, rxs_128⟩, List.forall_mem_cons.mpr ⟨⟨rx_cq_ok rxq_129, rxs_129⟩, List.forall_mem_cons.mpr ⟨⟨rx_cq_ok rxq_130, rxs_130⟩, List.forall_mem_cons.mpr ⟨⟨rx_cq_ok rxq_131, rxs_131⟩, List.forall_mem_cons.mpr ⟨⟨rx_cq_ok rxq_132, rxs_132⟩, List.forall_mem_cons.mpr ⟨⟨rx_cq_ok rxq_133, rxs_133⟩, List.forall_mem_cons.mpr ⟨⟨rx_cq_ok rxq_134, rxs_134⟩, List.forall_mem_cons.mpr ⟨⟨rx_cq_ok rxq_135, rxs_135⟩, List.forall_mem_cons.mpr ⟨⟨rx_cq_ok rxq_136, rxs_136⟩, List.forall_mem_cons.mpr ⟨⟨rx_cq_ok rxq_137, rxs_137⟩, List.forall_mem_cons.mpr ⟨⟨rx_cq_ok rxq_138, rxs_138⟩, List.forall_mem_cons.mpr ⟨⟨rx_cq_ok rxq_139, rxs_139⟩, List.forall_mem_cons.mpr ⟨⟨rx_cq_ok rxq_140, rxs_140⟩, List.forall_mem_cons.mpr ⟨⟨rx_cq_ok rxq_141, rxs_141⟩, List.forall_mem_cons.mpr ⟨⟨rx_cq_ok rxq_142, rxs_142⟩, List.forall_mem_cons.mpr ⟨⟨rx_cq_ok rxq_143, rxs_143⟩, List.forall_mem_cons.mpr ⟨⟨rx_cq_ok rxq_144, rxs_144⟩, List.forall_mem_cons.mpr ⟨⟨rx_cq_ok rxq_145, rxs_145⟩, List.forall_mem_cons.mpr ⟨⟨rx_cq_ok rxq_146, rxs_146⟩, List.forall_mem_cons.mpr ⟨⟨rx_cq_ok rxq_147, rxs_147⟩, List.forall_mem_cons.mpr ⟨⟨rx_cq_ok rxq_148, rxs_148⟩, List.forall_mem_cons.mpr ⟨⟨rx_cq_ok rxq_149, rxs_149⟩, List.forall_mem_cons.mpr ⟨⟨rx_cq_ok rxq_150, rxs_150⟩, List.forall_mem_cons.mpr ⟨⟨rx_cq_ok rxq_151, rxs_151⟩, List.forall_mem_cons.mpr ⟨⟨rx_cq_ok rxq_152, rxs_152⟩, List.forall_mem_cons.mpr ⟨⟨rx_cq_ok rxq_153, rxs_153⟩, List.forall_mem_cons.mpr ⟨⟨rx_cq_ok rxq_154, rxs_154⟩, List.forall_mem_cons.mpr ⟨⟨rx_cq_ok rxq_155, rxs_155⟩, List.forall_mem_cons.mpr ⟨⟨rx_cq_ok rxq_156, rxs_156⟩, List.forall_mem_cons.mpr ⟨⟨rx_cq_ok rxq_157, rxs_157⟩, List.forall_mem_cons.mpr ⟨⟨rx_cq_ok rxq_158, rxs_158⟩, List.forall_mem_cons.mpr ⟨⟨rx_cq_ok rxq_159, rxs_159⟩, List.forall_mem_cons.mpr ⟨⟨rx_cq_ok rxq_160, rxs_160⟩, List.forall_mem_cons.mpr ⟨⟨rx_cq_ok rxq_161, rxs_161⟩, List.forall_mem_cons.mpr ⟨⟨rx_cq_ok rxq_162, rxs_162⟩, List.forall_mem_cons.mpr ⟨⟨rx_cq_ok rxq_163, rxs_163⟩, fun _ h => absurd h List.not_mem_nil⟩⟩⟩⟩⟩⟩⟩⟩⟩⟩⟩⟩⟩⟩⟩⟩⟩⟩⟩⟩⟩⟩⟩⟩⟩⟩⟩⟩⟩⟩⟩⟩⟩⟩⟩⟩⟩⟩⟩⟩⟩⟩⟩⟩⟩⟩⟩⟩⟩⟩⟩⟩⟩⟩⟩⟩⟩⟩⟩⟩⟩⟩⟩⟩⟩⟩⟩⟩⟩⟩⟩⟩⟩⟩⟩⟩⟩⟩⟩⟩⟩⟩⟩⟩⟩⟩⟩⟩⟩⟩⟩⟩⟩⟩⟩⟩⟩⟩⟩⟩⟩⟩⟩⟩⟩⟩⟩⟩⟩⟩⟩⟩⟩⟩⟩⟩⟩⟩⟩⟩⟩⟩⟩⟩⟩⟩⟩⟩⟩⟩⟩⟩⟩⟩⟩⟩⟩⟩⟩⟩⟩⟩⟩⟩⟩⟩⟩⟩⟩⟩⟩⟩⟩⟩⟩⟩⟩⟩⟩⟩⟩⟩⟩⟩
end
section
theorem rxLk_0 : rx_cmA rx_X rx_P rxm_164 rxL_0 = true := by decide +kernel
theorem rxLh_0 : ∀ x ∈ rxL_0, x.2.1 = 0 → x.2.2.1 = rx_sem x.2.2.2.1 := List.forall_mem_cons.mpr ⟨fun _ => rfl, List.forall_mem_cons.mpr ⟨fun _ => rfl, List.forall_mem_cons.mpr ⟨fun z => absurd z (by decide), List.forall_mem_cons.mpr ⟨fun _ => rfl, List.forall_mem_cons.mpr ⟨fun _ => rfl, List.forall_mem_cons.mpr ⟨fun _ => rfl, List.forall_mem_cons.mpr ⟨fun z => absurd z (by decide), List.forall_mem_cons.mpr ⟨fun _ => rfl, fun _ h => absurd h List.not_mem_nil⟩⟩⟩⟩⟩⟩⟩⟩
theorem rxLk_1 : rx_cmA rx_X rx_P rxm_164 rxL_1 = true := by decide +kernel
theorem rxLh_1 : ∀ x ∈ rxL_1, x.2.1 = 0 → x.2.2.1 = rx_sem x.2.2.2.1 := List.forall_mem_cons.mpr ⟨fun _ => rfl, List.forall_mem_cons.mpr ⟨fun _ => rfl, List.forall_mem_cons.mpr ⟨fun _ => rfl, List.forall_mem_cons.mpr ⟨fun _ => rfl, List.forall_mem_cons.mpr ⟨fun _ => rfl, List.forall_mem_cons.mpr ⟨fun _ => rfl, List.forall_mem_cons.mpr ⟨fun _ => rfl, List.forall_mem_cons.mpr ⟨fun _ => rfl, List.forall_mem_cons.mpr ⟨fun _ => rfl, List.forall_mem_cons.mpr ⟨fun _ => rfl, List.forall_mem_cons.mpr ⟨fun _ => rfl, List.forall_mem_cons.mpr ⟨fun _ => rfl, fun _ h => absurd h List.not_mem_nil⟩⟩⟩⟩⟩⟩⟩⟩⟩⟩⟩⟩
theorem rxLk_2 : rx_cmA rx_X rx_P rxm_164 rxL_2 = true := by decide +kernel
theorem rxLh_2 : ∀ x ∈ rxL_2, x.2.1 = 0 → x.2.2.1 = rx_sem x.2.2.2.1 := List.forall_mem_cons.mpr ⟨fun _ => rfl, List.forall_mem_cons.mpr ⟨fun _ => rfl, fun _ h => absurd h List.not_mem_nil⟩⟩
theorem rxLk_3 : rx_cmA rx_X rx_P rxm_164 rxL_3 = true := by decide +kernel
theorem rxLh_3 : ∀ x ∈ rxL_3, x.2.1 = 0 → x.2.2.1 = rx_sem x.2.2.2.1 := fun _ h => absurd h List.not_mem_nil
theorem rxLk_4 : rx_cmA rx_X rx_P rxm_164 rxL_4 = true := by decide +kernel
theorem rxLh_4 : ∀ x ∈ rxL_4, x.2.1 = 0 → x.2.2.1 = rx_sem x.2.2.2.1 := fun _ h => absurd h List.not_mem_nil
theorem rxLk_5 : rx_cmA rx_X rx_P rxm_164 rxL_5 = true := by decide +kernel
theorem rxLh_5 : ∀ x ∈ rxL_5, x.2.1 = 0 → x.2.2.1 = rx_sem x.2.2.2.1 := fun _ h => absurd h List.not_mem_nil
theorem rxLk_6 : rx_cmA rx_X rx_P rxm_164 rxL_6 = true := by decide +kernel
theorem rxLh_6 : ∀ x ∈ rxL_6, x.2.1 = 0 → x.2.2.1 = rx_sem x.2.2.2.1 := fun _ h => absurd h List.not_mem_nil
theorem rxLk_7 : rx_cmA rx_X rx_P rxm_164 rxL_7 = true := by decide +kernel
theorem rxLh_7 : ∀ x ∈ rxL_7, x.2.1 = 0 → x.2.2.1 = rx_sem x.2.2.2.1 := fun _ h => absurd h List.not_mem_nil
theorem rxLk_8 : rx_cmA rx_X rx_P rxm_164 rxL_8 = true := by decide +kernel
theorem rxLh_8 : ∀ x ∈ rxL_8, x.2.1 = 0 → x.2.2.1 = rx_sem x.2.2.2.1 := fun _ h => absurd h List.not_mem_nil
theorem rxLk_9 : rx_cmA rx_X rx_P rxm_164 rxL_9 = true := by decide +kernel
theorem rxLh_9 : ∀ x ∈ rxL_9, x.2.1 = 0 → x.2.2.1 = rx_sem x.2.2.2.1 := fun _ h => absurd h List.not_mem_nil
theorem rxLk_10 : rx_cmA rx_X rx_P rxm_164 rxL_10 = true := by decide +kernel
theorem rxLh_10 : ∀ x ∈ rxL_10, x.2.1 = 0 → x.2.2.1 = rx_sem x.2.2.2.1 := fun _ h => absurd h List.not_mem_nil
theorem rxLk_11 : rx_cmA rx_X rx_P rxm_164 rxL_11 = true := by decide +kernel
theorem rxLh_11 : ∀ x ∈ rxL_11, x.2.1 = 0 → x.2.2.1 = rx_sem x.2.2.2.1 := fun _ h => absurd h List.not_mem_nil
theorem rxLk_12 : rx_cmA rx_X rx_P rxm_164 rxL_12 = true := by decide +kernel
theorem rxLh_12 : ∀ x ∈ rxL_12, x.2.1 = 0 → x.2.2.1 = rx_sem x.2.2.2.1 := fun _ h => absurd h List.not_mem_nil
theorem rxLk_13 : rx_cmA rx_X rx_P rxm_164 rxL_13 = true := by decide +kernel
theorem rxLh_13 : ∀ x ∈ rxL_13, x.2.1 = 0 → x.2.2.1 = rx_sem x.2.2.2.1 := List.forall_mem_cons.mpr ⟨fun _ => rfl, List.forall_mem_cons.mpr ⟨fun _ => rfl, List.forall_mem_cons.mpr ⟨fun _ => rfl, List.forall_mem_cons.mpr ⟨fun _ => rfl, fun _ h => absurd h List.not_mem_nil⟩⟩⟩⟩
theorem rxLk_14 : rx_cmA rx_X rx_P rxm_164 rxL_14 = true := by decide +kernel
theorem rxLh_14 : ∀ x ∈ rxL_14, x.2.1 = 0 → x.2.2.1 = rx_sem x.2.2.2.1 := List.forall_mem_cons.mpr ⟨fun _ => rfl, List.forall_mem_cons.mpr ⟨fun _ => rfl, List.forall_mem_cons.mpr ⟨fun _ => rfl, List.forall_mem_cons.mpr ⟨fun _ => rfl, List.forall_mem_cons.mpr ⟨fun _ => rfl, List.forall_mem_cons.mpr ⟨fun _ => rfl, List.forall_mem_cons.mpr ⟨fun _ => rfl, List.forall_mem_cons.mpr ⟨fun _ => rfl, List.forall_mem_cons.mpr ⟨fun _ => rfl, List.forall_mem_cons.mpr ⟨fun _ => rfl, List.forall_mem_cons.mpr ⟨fun _ => rfl, List.forall_mem_cons.mpr ⟨fun _ => rfl, List.forall_mem_cons.mpr ⟨fun _ => rfl, List.forall_mem_cons.mpr ⟨fun _ => rfl, List.forall_mem_cons.mpr ⟨fun _ => rfl, List.forall_mem_cons.mpr ⟨fun _ => rfl, fun _ h => absurd h List.not_mem_nil⟩⟩⟩⟩⟩⟩⟩⟩⟩⟩⟩⟩⟩⟩⟩⟩
theorem rxLk_15 : rx_cmA rx_X rx_P rxm_164 rxL_15 = true := by decide +kernel
theorem rxLh_15 : ∀ x ∈ rxL_15, x.2.1 = 0 → x.2.2.1 = rx_sem x.2.2.2.1 := List.forall_mem_cons.mpr ⟨fun _ => rfl, List.forall_mem_cons.mpr ⟨fun _ => rfl, List.forall_mem_cons.mpr ⟨fun _ => rfl, List.forall_mem_cons.mpr ⟨fun _ => rfl, List.forall_mem_cons.mpr ⟨fun _ => rfl, List.forall_mem_cons.mpr ⟨fun _ => rfl, List.forall_mem_cons.mpr ⟨fun z => absurd z (by decide), List.forall_mem_cons.mpr ⟨fun _ => rfl, List.forall_mem_cons.mpr ⟨fun _ => rfl, List.forall_mem_cons.mpr ⟨fun _ => rfl, List.forall_mem_cons.mpr ⟨fun _ => rfl, List.forall_mem_cons.mpr ⟨fun _ => rfl, List.forall_mem_cons.mpr ⟨fun _ => rfl, List.forall_mem_cons.mpr ⟨fun _ => rfl, fun _ h => absurd h List.not_mem_nil⟩⟩⟩⟩⟩⟩⟩⟩⟩⟩⟩⟩⟩⟩
theorem rxLk_16 : rx_cmA rx_X rx_P rxm_164 rxL_16 = true := by decide +kernel
theorem rxLh_16 : ∀ x ∈ rxL_16, x.2.1 = 0 → x.2.2.1 = rx_sem x.2.2.2.1 := List.forall_mem_cons.mpr ⟨fun _ => rfl, List.forall_mem_cons.mpr ⟨fun _ => rfl, List.forall_mem_cons.mpr ⟨fun _ => rfl, List.forall_mem_cons.mpr ⟨fun _ => rfl, List.forall_mem_cons.mpr ⟨fun _ => rfl, List.forall_mem_cons.mpr ⟨fun _ => rfl, List.forall_mem_cons.mpr ⟨fun _ => rfl, List.forall_mem_cons.mpr ⟨fun _ => rfl, List.forall_mem_cons.mpr ⟨fun _ => rfl, List.forall_mem_cons.mpr ⟨fun _ => rfl, List.forall_mem_cons.mpr ⟨fun _ => rfl, List.forall_mem_cons.mpr ⟨fun _ => rfl, List.forall_mem_cons.mpr ⟨fun _ => rfl, List.forall_mem_cons.mpr ⟨fun _ => rfl, List.forall_mem_cons.mpr ⟨fun _ => rfl, List.forall_mem_cons.mpr ⟨fun _ => rfl, fun _ h => absurd h List.not_mem_nil⟩⟩⟩⟩⟩⟩⟩⟩⟩⟩⟩⟩⟩⟩⟩⟩
theorem rxLk_17 : rx_cmA rx_X rx_P rxm_164 rxL_17 = true := by decide +kernel
theorem rxLh_17 : ∀ x ∈ rxL_17, x.2.1 = 0 → x.2.2.1 = rx_sem x.2.2.2.1 := List.forall_mem_cons.mpr ⟨fun _ => rfl, List.forall_mem_cons.mpr ⟨fun _ => rfl, List.forall_mem_cons.mpr ⟨fun _ => rfl, List.forall_mem_cons.mpr ⟨fun z => absurd z (by decide), List.forall_mem_cons.mpr ⟨fun _ => rfl, List.forall_mem_cons.mpr ⟨fun _ => rfl, List.forall_mem_cons.mpr ⟨fun _ => rfl, List.forall_mem_cons.mpr ⟨fun _ => rfl, List.forall_mem_cons.mpr ⟨fun _ => rfl, List.forall_mem_cons.mpr ⟨fun _ => rfl, fun _ h => absurd h List.not_mem_nil⟩⟩⟩⟩⟩⟩⟩⟩⟩⟩
theorem rxLk_18 : rx_cmA rx_X rx_P rxm_164 rxL_18 = true := by decide +kernel
theorem rxLh_18 : ∀ x ∈ rxL_18, x.2.1 = 0 → x.2.2.1 = rx_sem x.2.2.2.1 := List.forall_mem_cons.mpr ⟨fun _ => rfl, List.forall_mem_cons.mpr ⟨fun z => absurd z (by decide), List.forall_mem_cons.mpr ⟨fun _ => rfl, List.forall_mem_cons.mpr ⟨fun _ => rfl, List.forall_mem_cons.mpr ⟨fun _ => rfl, List.forall_mem_cons.mpr ⟨fun _ => rfl, List.forall_mem_cons.mpr ⟨fun _ => rfl, List.forall_mem_cons.mpr ⟨fun _ => rfl, List.forall_mem_cons.mpr ⟨fun z => absurd z (by decide), List.forall_mem_cons.mpr ⟨fun _ => rfl, fun _ h => absurd h List.not_mem_nil⟩⟩⟩⟩⟩⟩⟩⟩⟩⟩
theorem rxLk_19 : rx_cmA rx_X rx_P rxm_164 rxL_19 = true := by decide +kernel
theorem rxLh_19 : ∀ x ∈ rxL_19, x.2.1 = 0 → x.2.2.1 = rx_sem x.2.2.2.1 := List.forall_mem_cons.mpr ⟨fun _ => rfl, List.forall_mem_cons.mpr ⟨fun z => absurd z (by decide), List.forall_mem_cons.mpr ⟨fun _ => rfl, List.forall_mem_cons.mpr ⟨fun z => absurd z (by decide), List.forall_mem_cons.mpr ⟨fun _ => rfl, List.forall_mem_cons.mpr ⟨fun _ => rfl, fun _ h => absurd h List.not_mem_nil⟩⟩⟩⟩⟩⟩
theorem rxLk_20 : rx_cmA rx_X rx_P rxm_164 rxL_20 = true := by decide +kernel
theorem rxLh_20 : ∀ x ∈ rxL_20, x.2.1 = 0 → x.2.2.1 = rx_sem x.2.2.2.1 := List.forall_mem_cons.mpr ⟨fun _ => rfl, List.forall_mem_cons.mpr ⟨fun _ => rfl, List.forall_mem_cons.mpr ⟨fun _ => rfl, List.forall_mem_cons.mpr ⟨fun _ => rfl, List.forall_mem_cons.mpr ⟨fun _ => rfl, List.forall_mem_cons.mpr ⟨fun z => absurd z (by decide), List.forall_mem_cons.mpr ⟨fun _ => rfl, List.forall_mem_cons.mpr ⟨fun _ => rfl, List.forall_mem_cons.mpr ⟨fun _ => rfl, List.forall_mem_cons.mpr ⟨fun _ => rfl, List.forall_mem_cons.mpr ⟨fun _ => rfl, List.forall_mem_cons.mpr ⟨fun _ => rfl, List.forall_mem_cons.mpr ⟨fun z => absurd z (by decide), fun _ h => absurd h List.not_mem_nil⟩⟩⟩⟩⟩⟩⟩⟩⟩⟩⟩⟩⟩
theorem rxLk_21 : rx_cmA rx_X rx_P rxm_164 rxL_21 = true := by decide +kernel
theorem rxLh_21 : ∀ x ∈ rxL_21, x.2.1 = 0 → x.2.2.1 = rx_sem x.2.2.2.1 := List.forall_mem_cons.mpr ⟨fun _ => rfl, List.forall_mem_cons.mpr ⟨fun _ => rfl, List.forall_mem_cons.mpr ⟨fun _ => rfl, List.forall_mem_cons.mpr ⟨fun _ => rfl, List.forall_mem_cons.mpr ⟨fun _ => rfl, List.forall_mem_cons.mpr ⟨fun _ => rfl, List.forall_mem_cons.mpr ⟨fun _ => rfl, List.forall_mem_cons.mpr ⟨fun z => absurd z (by decide), List.forall_mem_cons.mpr ⟨fun _ => rfl, fun _ h => absurd h List.not_mem_nil⟩⟩⟩⟩⟩⟩⟩⟩⟩
theorem rxLk_22 : rx_cmA rx_X rx_P rxm_164 rxL_22 = true := by decide +kernel
theorem rxLh_22 : ∀ x ∈ rxL_22, x.2.1 = 0 → x.2.2.1 = rx_sem x.2.2.2.1 := List.forall_mem_cons.mpr ⟨fun _ => rfl, List.forall_mem_cons.mpr ⟨fun _ => rfl, List.forall_mem_cons.mpr ⟨fun _ => rfl, List.forall_mem_cons.mpr ⟨fun _ => rfl, List.forall_mem_cons.mpr ⟨fun _ => rfl, List.forall_mem_cons.mpr ⟨fun z => absurd z (by decide), List.forall_mem_cons.mpr ⟨fun _ => rfl, List.forall_mem_cons.mpr ⟨fun _ => rfl, List.forall_mem_cons.mpr ⟨fun _ => rfl, List.forall_mem_cons.mpr ⟨fun _ => rfl, fun _ h => absurd h List.not_mem_nil⟩⟩⟩⟩⟩⟩⟩⟩⟩⟩
theorem rxLk_23 : rx_cmA rx_X rx_P rxm_164 rxL_23 = true := by decide +kernel
theorem rxLh_23 : ∀ x ∈ rxL_23, x.2.1 = 0 → x.2.2.1 = rx_sem x.2.2.2.1 := List.forall_mem_cons.mpr ⟨fun _ => rfl, List.forall_mem_cons.mpr ⟨fun _ => rfl, List.forall_mem_cons.mpr ⟨fun _ => rfl, List.forall_mem_cons.mpr ⟨fun z => absurd z (by decide), List.forall_mem_cons.mpr ⟨fun _ => rfl, List.forall_mem_cons.mpr ⟨fun _ => rfl, List.forall_mem_cons.mpr ⟨fun _ => rfl, List.forall_mem_cons.mpr ⟨fun _ => rfl, List.forall_mem_cons.mpr ⟨fun _ => rfl, List.forall_mem_cons.mpr ⟨fun _ => rfl, List.forall_mem_cons.mpr ⟨fun z => absurd z (by decide), List.forall_mem_cons.mpr ⟨fun _ => rfl, fun _ h => absurd h List.not_mem_nil⟩⟩⟩⟩⟩⟩⟩⟩⟩⟩⟩⟩
theorem rxLk_24 : rx_cmA rx_X rx_P rxm_164 rxL_24 = true := by decide +kernel
theorem rxLh_24 : ∀ x ∈ rxL_24, x.2.1 = 0 → x.2.2.1 = rx_sem x.2.2.2.1 := List.forall_mem_cons.mpr ⟨fun _ => rfl, List.forall_mem_cons.mpr ⟨fun _ => rfl, List.forall_mem_cons.mpr ⟨fun _ => rfl, List.forall_mem_cons.mpr ⟨fun _ => rfl, List.forall_mem_cons.mpr ⟨fun _ => rfl, List.forall_mem_cons.mpr ⟨fun _ => rfl, List.forall_mem_cons.mpr ⟨fun z => absurd z (by decide), List.forall_mem_cons.mpr ⟨fun _ => rfl, List.forall_mem_cons.mpr ⟨fun _ => rfl, List.forall_mem_cons.mpr ⟨fun _ => rfl, fun _ h => absurd h List.not_mem_nil⟩⟩⟩⟩⟩⟩⟩⟩⟩⟩
theorem rxLk_25 : rx_cmA rx_X rx_P rxm_164 rxL_25 = true := by decide +kernel
theorem rxLh_25 : ∀ x ∈ rxL_25, x.2.1 = 0 → x.2.2.1 = rx_sem x.2.2.2.1 := List.forall_mem_cons.mpr ⟨fun _ => rfl, List.forall_mem_cons.mpr ⟨fun _ => rfl, List.forall_mem_cons.mpr ⟨fun _ => rfl, List.forall_mem_cons.mpr ⟨fun z => absurd z (by decide), List.forall_mem_cons.mpr ⟨fun _ => rfl, List.forall_mem_cons.mpr ⟨fun _ => rfl, List.forall_mem_cons.mpr ⟨fun _ => rfl, List.forall_mem_cons.mpr ⟨fun _ => rfl, List.forall_mem_cons.mpr ⟨fun _ => rfl, List.forall_mem_cons.mpr ⟨fun _ => rfl, fun _ h => absurd h List.not_mem_nil⟩⟩⟩⟩⟩⟩⟩⟩⟩⟩
theorem rxLk_26 : rx_cmA rx_X rx_P rxm_164 rxL_26 = true := by decide +kernel
theorem rxLh_26 : ∀ x ∈ rxL_26, x.2.1 = 0 → x.2.2.1 = rx_sem x.2.2.2.1 := List.forall_mem_cons.mpr ⟨fun _ => rfl, List.forall_mem_cons.mpr ⟨fun z => absurd z (by decide), List.forall_mem_cons.mpr ⟨fun _ => rfl, List.forall_mem_cons.mpr ⟨fun _ => rfl, List.forall_mem_cons.mpr ⟨fun _ => rfl, List.forall_mem_cons.mpr ⟨fun _ => rfl, List.forall_mem_cons.mpr ⟨fun _ => rfl, List.forall_mem_cons.mpr ⟨fun _ => rfl, List.forall_mem_cons.mpr ⟨fun z => absurd z (by decide), List.forall_mem_cons.mpr ⟨fun _ => rfl, fun _ h => absurd h List.not_mem_nil⟩⟩⟩⟩⟩⟩⟩⟩⟩⟩
theorem rxLk_27 : rx_cmA rx_X rx_P rxm_164 rxL_27 = true := by decide +kernel
theorem rxLh_27 : ∀ x ∈ rxL_27, x.2.1 = 0 → x.2.2.1 = rx_sem x.2.2.2.1 := List.forall_mem_cons.mpr ⟨fun _ => rfl, List.forall_mem_cons.mpr ⟨fun _ => rfl, List.forall_mem_cons.mpr ⟨fun _ => rfl, List.forall_mem_cons.mpr ⟨fun _ => rfl, List.forall_mem_cons.mpr ⟨fun _ => rfl, List.forall_mem_cons.mpr ⟨fun _ => rfl, List.forall_mem_cons.mpr ⟨fun _ => rfl, List.forall_mem_cons.mpr ⟨fun _ => rfl, List.forall_mem_cons.mpr ⟨fun _ => rfl, List.forall_mem_cons.mpr ⟨fun _ => rfl, List.forall_mem_cons.mpr ⟨fun _ => rfl, List.forall_mem_cons.mpr ⟨fun z => absurd z (by decide), fun _ h => absurd h List.not_mem_nil⟩⟩⟩⟩⟩⟩⟩⟩⟩⟩⟩⟩
theorem rxLk_28 : rx_cmA rx_X rx_P rxm_164 rxL_28 = true := by decide +kernel
theorem rxLh_28 : ∀ x ∈ rxL_28, x.2.1 = 0 → x.2.2.1 = rx_sem x.2.2.2.1 := List.forall_mem_cons.mpr ⟨fun _ => rfl, List.forall_mem_cons.mpr ⟨fun _ => rfl, List.forall_mem_cons.mpr ⟨fun _ => rfl, List.forall_mem_cons.mpr ⟨fun _ => rfl, List.forall_mem_cons.mpr ⟨fun _ => rfl, List.forall_mem_cons.mpr ⟨fun _ => rfl, List.forall_mem_cons.mpr ⟨fun _ => rfl, List.forall_mem_cons.mpr ⟨fun _ => rfl, List.forall_mem_cons.mpr ⟨fun _ => rfl, List.forall_mem_cons.mpr ⟨fun _ => rfl, List.forall_mem_cons.mpr ⟨fun _ => rfl, List.forall_mem_cons.mpr ⟨fun z => absurd z (by decide), List.forall_mem_cons.mpr ⟨fun _ => rfl, fun _ h => absurd h List.not_mem_nil⟩⟩⟩⟩⟩⟩⟩⟩⟩⟩⟩⟩⟩
theorem rxLk_29 : rx_cmA rx_X rx_P rxm_164 rxL_29 = true := by decide +kernel
theorem rxLh_29 : ∀ x ∈ rxL_29, x.2.1 = 0 → x.2.2.1 = rx_sem x.2.2.2.1 := List.forall_mem_cons.mpr ⟨fun _ => rfl, List.forall_mem_cons.mpr ⟨fun _ => rfl, List.forall_mem_cons.mpr ⟨fun _ => rfl, List.forall_mem_cons.mpr ⟨fun _ => rfl, List.forall_mem_cons.mpr ⟨fun _ => rfl, List.forall_mem_cons.mpr ⟨fun _ => rfl, List.forall_mem_cons.mpr ⟨fun _ => rfl, List.forall_mem_cons.mpr ⟨fun _ => rfl, List.forall_mem_cons.mpr ⟨fun _ => rfl, List.forall_mem_cons.mpr ⟨fun _ => rfl, List.forall_mem_cons.mpr ⟨fun _ => rfl, List.forall_mem_cons.mpr ⟨fun z => absurd z (by decide), fun _ h => absurd h List.not_mem_nil⟩⟩⟩⟩⟩⟩⟩⟩⟩⟩⟩⟩
theorem rxLk_30 : rx_cmA rx_X rx_P rxm_164 rxL_30 = true := by decide +kernel
theorem rxLh_30 : ∀ x ∈ rxL_30, x.2.1 = 0 → x.2.2.1 = rx_sem x.2.2.2.1 := List.forall_mem_cons.mpr ⟨fun _ => rfl, List.forall_mem_cons.mpr ⟨fun _ => rfl, List.forall_mem_cons.mpr ⟨fun _ => rfl, List.forall_mem_cons.mpr ⟨fun _ => rfl, List.forall_mem_cons.mpr ⟨fun _ => rfl, List.forall_mem_cons.mpr ⟨fun _ => rfl, List.forall_mem_cons.mpr ⟨fun _ => rfl, List.forall_mem_cons.mpr ⟨fun _ => rfl, List.forall_mem_cons.mpr ⟨fun _ => rfl, List.forall_mem_cons.mpr ⟨fun _ => rfl, List.forall_mem_cons.mpr ⟨fun _ => rfl, List.forall_mem_cons.mpr ⟨fun z => absurd z (by decide), List.forall_mem_cons.mpr ⟨fun _ => rfl, fun _ h => absurd h List.not_mem_nil⟩⟩⟩⟩⟩⟩⟩⟩⟩⟩⟩⟩⟩
theorem rxLk_31 : rx_cmA rx_X rx_P rxm_164 rxL_31 = true := by decide +kernel
theorem rxLh_31 : ∀ x ∈ rxL_31, x.2.1 = 0 → x.2.2.1 = rx_sem x.2.2.2.1 := List.forall_mem_cons.mpr ⟨fun _ => rfl, List.forall_mem_cons.mpr ⟨fun _ => rfl, List.forall_mem_cons.mpr ⟨fun _ => rfl, List.forall_mem_cons.mpr ⟨fun _ => rfl, List.forall_mem_cons.mpr ⟨fun _ => rfl, List.forall_mem_cons.mpr ⟨fun _ => rfl, List.forall_mem_cons.mpr ⟨fun z => absurd z (by decide), List.forall_mem_cons.mpr ⟨fun _ => rfl, List.forall_mem_cons.mpr ⟨fun _ => rfl, List.forall_mem_cons.mpr ⟨fun _ => rfl, fun _ h => absurd h List.not_mem_nil⟩⟩⟩⟩⟩⟩⟩⟩⟩⟩
theorem rxLk_32 : rx_cmA rx_X rx_P rxm_164 rxL_32 = true := by decide +kernel
theorem rxLh_32 : ∀ x ∈ rxL_32, x.2.1 = 0 → x.2.2.1 = rx_sem x.2.2.2.1 := List.forall_mem_cons.mpr ⟨fun _ => rfl, List.forall_mem_cons.mpr ⟨fun _ => rfl, List.forall_mem_cons.mpr ⟨fun _ => rfl, List.forall_mem_cons.mpr ⟨fun z => absurd z (by decide), List.forall_mem_cons.mpr ⟨fun _ => rfl, List.forall_mem_cons.mpr ⟨fun _ => rfl, List.forall_mem_cons.mpr ⟨fun z => absurd z (by decide), List.forall_mem_cons.mpr ⟨fun _ => rfl, fun _ h => absurd h List.not_mem_nil⟩⟩⟩⟩⟩⟩⟩⟩
theorem rxLk_33 : rx_cmA rx_X rx_P rxm_164 rxL_33 = true := by decide +kernel
theorem rxLh_33 : ∀ x ∈ rxL_33, x.2.1 = 0 → x.2.2.1 = rx_sem x.2.2.2.1 := List.forall_mem_cons.mpr ⟨fun z => absurd z (by decide), List.forall_mem_cons.mpr ⟨fun _ => rfl, List.forall_mem_cons.mpr ⟨fun _ => rfl, List.forall_mem_cons.mpr ⟨fun z => absurd z (by decide), List.forall_mem_cons.mpr ⟨fun _ => rfl, List.forall_mem_cons.mpr ⟨fun z => absurd z (by decide), fun _ h => absurd h List.not_mem_nil⟩⟩⟩⟩⟩⟩
theorem rxLk_34 : rx_cmA rx_X rx_P rxm_164 rxL_34 = true := by decide +kernel
theorem rxLh_34 : ∀ x ∈ rxL_34, x.2.1 = 0 → x.2.2.1 = rx_sem x.2.2.2.1 := List.forall_mem_cons.mpr ⟨fun _ => rfl, List.forall_mem_cons.mpr ⟨fun _ => rfl, List.forall_mem_cons.mpr ⟨fun _ => rfl, List.forall_mem_cons.mpr ⟨fun _ => rfl, List.forall_mem_cons.mpr ⟨fun _ => rfl, List.forall_mem_cons.mpr ⟨fun _ => rfl, List.forall_mem_cons.mpr ⟨fun _ => rfl, List.forall_mem_cons.mpr ⟨fun _ => rfl, List.forall_mem_cons.mpr ⟨fun _ => rfl, List.forall_mem_cons.mpr ⟨fun _ => rfl, List.forall_mem_cons.mpr ⟨fun _ => rfl, List.forall_mem_cons.mpr ⟨fun _ => rfl, fun _ h => absurd h List.not_mem_nil⟩⟩⟩⟩⟩⟩⟩⟩⟩⟩⟩⟩
theorem rxLk_35 : rx_cmA rx_X rx_P rxm_164 rxL_35 = true := by decide +kernel
theorem rxLh_35 : ∀ x ∈ rxL_35, x.2.1 = 0 → x.2.2.1 = rx_sem x.2.2.2.1 := List.forall_mem_cons.mpr ⟨fun z => absurd z (by decide), List.forall_mem_cons.mpr ⟨fun _ => rfl, List.forall_mem_cons.mpr ⟨fun _ => rfl, List.forall_mem_cons.mpr ⟨fun _ => rfl, List.forall_mem_cons.mpr ⟨fun _ => rfl, List.forall_mem_cons.mpr ⟨fun _ => rfl, List.forall_mem_cons.mpr ⟨fun _ => rfl, List.forall_mem_cons.mpr ⟨fun _ => rfl, List.forall_mem_cons.mpr ⟨fun _ => rfl, List.forall_mem_cons.mpr ⟨fun _ => rfl, List.forall_mem_cons.mpr ⟨fun _ => rfl, List.forall_mem_cons.mpr ⟨fun _ => rfl, List.forall_mem_cons.mpr ⟨fun z => absurd z (by decide), fun _ h => absurd h List.not_mem_nil⟩⟩⟩⟩⟩⟩⟩⟩⟩⟩⟩⟩⟩
theorem rxLk_36 : rx_cmA rx_X rx_P rxm_164 rxL_36 = true := by decide +kernel
theorem rxLh_36 : ∀ x ∈ rxL_36, x.2.1 = 0 → x.2.2.1 = rx_sem x.2.2.2.1 := List.forall_mem_cons.mpr ⟨fun _ => rfl, List.forall_mem_cons.mpr ⟨fun _ => rfl, List.forall_mem_cons.mpr ⟨fun _ => rfl, List.forall_mem_cons.mpr ⟨fun _ => rfl, List.forall_mem_cons.mpr ⟨fun _ => rfl, List.forall_mem_cons.mpr ⟨fun _ => rfl, List.forall_mem_cons.mpr ⟨fun _ => rfl, List.forall_mem_cons.mpr ⟨fun _ => rfl, List.forall_mem_cons.mpr ⟨fun _ => rfl, List.forall_mem_cons.mpr ⟨fun _ => rfl, List.forall_mem_cons.mpr ⟨fun _ => rfl, fun _ h => absurd h List.not_mem_nil⟩⟩⟩⟩⟩⟩⟩⟩⟩⟩⟩
theorem rxLk_37 : rx_cmA rx_X rx_P rxm_164 rxL_37 = true := by decide +kernel
theorem rxLh_37 : ∀ x ∈ rxL_37, x.2.1 = 0 → x.2.2.1 = rx_sem x.2.2.2.1 := List.forall_mem_cons.mpr ⟨fun _ => rfl, List.forall_mem_cons.mpr ⟨fun z => absurd z (by decide), List.forall_mem_cons.mpr ⟨fun _ => rfl, List.forall_mem_cons.mpr ⟨fun _ => rfl, List.forall_mem_cons.mpr ⟨fun _ => rfl, List.forall_mem_cons.mpr ⟨fun _ => rfl, List.forall_mem_cons.mpr ⟨fun _ => rfl, List.forall_mem_cons.mpr ⟨fun _ => rfl, List.forall_mem_cons.mpr ⟨fun _ => rfl, List.forall_mem_cons.mpr ⟨fun _ => rfl, List.forall_mem_cons.mpr ⟨fun _ => rfl, List.forall_mem_cons.mpr ⟨fun _ => rfl, List.forall_mem_cons.mpr ⟨fun _ => rfl, List.forall_mem_cons.mpr ⟨fun z => absurd z (by decide), fun _ h => absurd h List.not_mem_nil⟩⟩⟩⟩⟩⟩⟩⟩⟩⟩⟩⟩⟩⟩
theorem rxLk_38 : rx_cmA rx_X rx_P rxm_164 rxL_38 = true := by decide +kernel
theorem rxLh_38 : ∀ x ∈ rxL_38, x.2.1 = 0 → x.2.2.1 = rx_sem x.2.2.2.1 := List.forall_mem_cons.mpr ⟨fun _ => rfl, List.forall_mem_cons.mpr ⟨fun _ => rfl, List.forall_mem_cons.mpr ⟨fun _ => rfl, List.forall_mem_cons.mpr ⟨fun _ => rfl, List.forall_mem_cons.mpr ⟨fun _ => rfl, List.forall_mem_cons.mpr ⟨fun _ => rfl, List.forall_mem_cons.mpr ⟨fun _ => rfl, List.forall_mem_cons.mpr ⟨fun _ => rfl, List.forall_mem_cons.mpr ⟨fun _ => rfl, List.forall_mem_cons.mpr ⟨fun _ => rfl, fun _ h => absurd h List.not_mem_nil⟩⟩⟩⟩⟩⟩⟩⟩⟩⟩
theorem rxLk_39 : rx_cmA rx_X rx_P rxm_164 rxL_39 = true := by decide +kernel
theorem rxLh_39 : ∀ x ∈ rxL_39, x.2.1 = 0 → x.2.2.1 = rx_sem x.2.2.2.1 := List.forall_mem_cons.mpr ⟨fun _ => rfl, List.forall_mem_cons.mpr ⟨fun _ => rfl, List.forall_mem_cons.mpr ⟨fun z => absurd z (by decide), List.forall_mem_cons.mpr ⟨fun _ => rfl, List.forall_mem_cons.mpr ⟨fun _ => rfl, List.forall_mem_cons.mpr ⟨fun _ => rfl, List.forall_mem_cons.mpr ⟨fun _ => rfl, List.forall_mem_cons.mpr ⟨fun _ => rfl, List.forall_mem_cons.mpr ⟨fun _ => rfl, List.forall_mem_cons.mpr ⟨fun _ => rfl, List.forall_mem_cons.mpr ⟨fun _ => rfl, List.forall_mem_cons.mpr ⟨fun _ => rfl, List.forall_mem_cons.mpr ⟨fun _ => rfl, List.forall_mem_cons.mpr ⟨fun _ => rfl, fun _ h => absurd h List.not_mem_nil⟩⟩⟩⟩⟩⟩⟩⟩⟩⟩⟩⟩⟩⟩
theorem rxLk_40 : rx_cmA rx_X rx_P rxm_164 rxL_40 = true := by decide +kernel
theorem rxLh_40 : ∀ x ∈ rxL_40, x.2.1 = 0 → x.2.2.1 = rx_sem x.2.2.2.1 := List.forall_mem_cons.mpr ⟨fun z => absurd z (by decide), List.forall_mem_cons.mpr ⟨fun _ => rfl, List.forall_mem_cons.mpr ⟨fun _ => rfl, List.forall_mem_cons.mpr ⟨fun _ => rfl, List.forall_mem_cons.mpr ⟨fun _ => rfl, List.forall_mem_cons.mpr ⟨fun _ => rfl, List.forall_mem_cons.mpr ⟨fun _ => rfl, List.forall_mem_cons.mpr ⟨fun _ => rfl, List.forall_mem_cons.mpr ⟨fun _ => rfl, List.forall_mem_cons.mpr ⟨fun _ => rfl, fun _ h => absurd h List.not_mem_nil⟩⟩⟩⟩⟩⟩⟩⟩⟩⟩
theorem rxLk_41 : rx_cmA rx_X rx_P rxm_164 rxL_41 = true := by decide +kernel
theorem rxLh_41 : ∀ x ∈ rxL_41, x.2.1 = 0 → x.2.2.1 = rx_sem x.2.2.2.1 := List.forall_mem_cons.mpr ⟨fun _ => rfl, List.forall_mem_cons.mpr ⟨fun _ => rfl, List.forall_mem_cons.mpr ⟨fun _ => rfl, List.forall_mem_cons.mpr ⟨fun z => absurd z (by decide), List.forall_mem_cons.mpr ⟨fun _ => rfl, List.forall_mem_cons.mpr ⟨fun _ => rfl, List.forall_mem_cons.mpr ⟨fun _ => rfl, List.forall_mem_cons.mpr ⟨fun _ => rfl, List.forall_mem_cons.mpr ⟨fun _ => rfl, List.forall_mem_cons.mpr ⟨fun _ => rfl, List.forall_mem_cons.mpr ⟨fun _ => rfl, List.forall_mem_cons.mpr ⟨fun _ => rfl, List.forall_mem_cons.mpr ⟨fun _ => rfl, List.forall_mem_cons.mpr ⟨fun _ => rfl, fun _ h => absurd h List.not_mem_nil⟩⟩⟩⟩⟩⟩⟩⟩⟩⟩⟩⟩⟩⟩
theorem rxLk_42 : rx_cmA rx_X rx_P rxm_164 rxL_42 = true := by decide +kernel
theorem rxLh_42 : ∀ x ∈ rxL_42, x.2.1 = 0 → x.2.2.1 = rx_sem x.2.2.2.1 := List.forall_mem_cons.mpr ⟨fun _ => rfl, List.forall_mem_cons.mpr ⟨fun z => absurd z (by decide), List.forall_mem_cons.mpr ⟨fun _ => rfl, List.forall_mem_cons.mpr ⟨fun _ => rfl, List.forall_mem_cons.mpr ⟨fun _ => rfl, List.forall_mem_cons.mpr ⟨fun _ => rfl, List.forall_mem_cons.mpr ⟨fun _ => rfl, List.forall_mem_cons.mpr ⟨fun _ => rfl, List.forall_mem_cons.mpr ⟨fun _ => rfl, List.forall_mem_cons.mpr ⟨fun _ => rfl, fun _ h => absurd h List.not_mem_nil⟩⟩⟩⟩⟩⟩⟩⟩⟩⟩
theorem rxLk_43 : rx_cmA rx_X rx_P rxm_164 rxL_43 = true := by decide +kernel
theorem rxLh_43 : ∀ x ∈ rxL_43, x.2.1 = 0 → x.2.2.1 = rx_sem x.2.2.2.1 := List.forall_mem_cons.mpr ⟨fun _ => rfl, List.forall_mem_cons.mpr ⟨fun _ => rfl, List.forall_mem_cons.mpr ⟨fun _ => rfl, List.forall_mem_cons.mpr ⟨fun _ => rfl, List.forall_mem_cons.mpr ⟨fun z => absurd z (by decide), List.forall_mem_cons.mpr ⟨fun _ => rfl, List.forall_mem_cons.mpr ⟨fun _ => rfl, List.forall_mem_cons.mpr ⟨fun _ => rfl, List.forall_mem_cons.mpr ⟨fun _ => rfl, List.forall_mem_cons.mpr ⟨fun _ => rfl, List.forall_mem_cons.mpr ⟨fun _ => rfl, List.forall_mem_cons.mpr ⟨fun _ => rfl, List.forall_mem_cons.mpr ⟨fun _ => rfl, List.forall_mem_cons.mpr ⟨fun _ => rfl, fun _ h => absurd h List.not_mem_nil⟩⟩⟩⟩⟩⟩⟩⟩⟩⟩⟩⟩⟩⟩
theorem rxLk_44 : rx_cmA rx_X rx_P rxm_164 rxL_44 = true := by decide +kernel
theorem rxLh_44 : ∀ x ∈ rxL_44, x.2.1 = 0 → x.2.2.1 = rx_sem x.2.2.2.1 := List.forall_mem_cons.mpr ⟨fun _ => rfl, List.forall_mem_cons.mpr ⟨fun _ => rfl, List.forall_mem_cons.mpr ⟨fun z => absurd z (by decide), List.forall_mem_cons.mpr ⟨fun _ => rfl, List.forall_mem_cons.mpr ⟨fun _ => rfl, List.forall_mem_cons.mpr ⟨fun _ => rfl, List.forall_mem_cons.mpr ⟨fun _ => rfl, List.forall_mem_cons.mpr ⟨fun _ => rfl, List.forall_mem_cons.mpr ⟨fun _ => rfl, List.forall_mem_cons.mpr ⟨fun _ => rfl, fun _ h => absurd h List.not_mem_nil⟩⟩⟩⟩⟩⟩⟩⟩⟩⟩
theorem rxLk_45 : rx_cmA rx_X rx_P rxm_164 rxL_45 = true := by decide +kernel
theorem rxLh_45 : ∀ x ∈ rxL_45, x.2.1 = 0 → x.2.2.1 = rx_sem x.2.2.2.1 := List.forall_mem_cons.mpr ⟨fun _ => rfl, List.forall_mem_cons.mpr ⟨fun _ => rfl, List.forall_mem_cons.mpr ⟨fun _ => rfl, List.forall_mem_cons.mpr ⟨fun _ => rfl, List.forall_mem_cons.mpr ⟨fun _ => rfl, List.forall_mem_cons.mpr ⟨fun _ => rfl, List.forall_mem_cons.mpr ⟨fun _ => rfl, List.forall_mem_cons.mpr ⟨fun _ => rfl, List.forall_mem_cons.mpr ⟨fun _ => rfl, List.forall_mem_cons.mpr ⟨fun _ => rfl, List.forall_mem_cons.mpr ⟨fun _ => rfl, List.forall_mem_cons.mpr ⟨fun z => absurd z (by decide), List.forall_mem_cons.mpr ⟨fun _ => rfl, List.forall_mem_cons.mpr ⟨fun _ => rfl, fun _ h => absurd h List.not_mem_nil⟩⟩⟩⟩⟩⟩⟩⟩⟩⟩⟩⟩⟩⟩
theorem rxLk_46 : rx_cmA rx_X rx_P rxm_164 rxL_46 = true := by decide +kernel
theorem rxLh_46 : ∀ x ∈ rxL_46, x.2.1 = 0 → x.2.2.1 = rx_sem x.2.2.2.1 := List.forall_mem_cons.mpr ⟨fun _ => rfl, List.forall_mem_cons.mpr ⟨fun _ => rfl, List.forall_mem_cons.mpr ⟨fun _ => rfl, List.forall_mem_cons.mpr ⟨fun _ => rfl, List.forall_mem_cons.mpr ⟨fun _ => rfl, List.forall_mem_cons.mpr ⟨fun _ => rfl, List.forall_mem_cons.mpr ⟨fun _ => rfl, List.forall_mem_cons.mpr ⟨fun _ => rfl, List.forall_mem_cons.mpr ⟨fun _ => rfl, List.forall_mem_cons.mpr ⟨fun _ => rfl, List.forall_mem_cons.mpr ⟨fun _ => rfl, List.forall_mem_cons.mpr ⟨fun _ => rfl, List.forall_mem_cons.mpr ⟨fun _ => rfl, List.forall_mem_cons.mpr ⟨fun _ => rfl, List.forall_mem_cons.mpr ⟨fun z => absurd z (by decide), fun _ h => absurd h List.not_mem_nil⟩⟩⟩⟩⟩⟩⟩⟩⟩⟩⟩⟩⟩⟩⟩
theorem rxLk_47 : rx_cmA rx_X rx_P rxm_164 rxL_47 = true := by decide +kernel
theorem rxLh_47 : ∀ x ∈ rxL_47, x.2.1 = 0 → x.2.2.1 = rx_sem x.2.2.2.1 := List.forall_mem_cons.mpr ⟨fun _ => rfl, List.forall_mem_cons.mpr ⟨fun _ => rfl, List.forall_mem_cons.mpr ⟨fun _ => rfl, List.forall_mem_cons.mpr ⟨fun _ => rfl, List.forall_mem_cons.mpr ⟨fun _ => rfl, List.forall_mem_cons.mpr ⟨fun _ => rfl, List.forall_mem_cons.mpr ⟨fun _ => rfl, List.forall_mem_cons.mpr ⟨fun _ => rfl, List.forall_mem_cons.mpr ⟨fun _ => rfl, List.forall_mem_cons.mpr ⟨fun _ => rfl, List.forall_mem_cons.mpr ⟨fun _ => rfl, fun _ h => absurd h List.not_mem_nil⟩⟩⟩⟩⟩⟩⟩⟩⟩⟩⟩
theorem rxLk_48 : rx_cmA rx_X rx_P rxm_164 rxL_48 = true := by decide +kernel
theorem rxLh_48 : ∀ x ∈ rxL_48, x.2.1 = 0 → x.2.2.1 = rx_sem x.2.2.2.1 := List.forall_mem_cons.mpr ⟨fun _ => rfl, List.forall_mem_cons.mpr ⟨fun _ => rfl, List.forall_mem_cons.mpr ⟨fun _ => rfl, List.forall_mem_cons.mpr ⟨fun _ => rfl, List.forall_mem_cons.mpr ⟨fun _ => rfl, List.forall_mem_cons.mpr ⟨fun _ => rfl, List.forall_mem_cons.mpr ⟨fun _ => rfl, List.forall_mem_cons.mpr ⟨fun z => absurd z (by decide), List.forall_mem_cons.mpr ⟨fun _ => rfl, List.forall_mem_cons.mpr ⟨fun _ => rfl, List.forall_mem_cons.mpr ⟨fun _ => rfl, List.forall_mem_cons.mpr ⟨fun _ => rfl, List.forall_mem_cons.mpr ⟨fun _ => rfl, List.forall_mem_cons.mpr ⟨fun _ => rfl, fun _ h => absurd h List.not_mem_nil⟩⟩⟩⟩⟩⟩⟩⟩⟩⟩⟩⟩⟩⟩
theorem rxLk_49 : rx_cmA rx_X rx_P rxm_164 rxL_49 = true := by decide +kernel
theorem rxLh_49 : ∀ x ∈ rxL_49, x.2.1 = 0 → x.2.2.1 = rx_sem x.2.2.2.1 := List.forall_mem_cons.mpr ⟨fun _ => rfl, List.forall_mem_cons.mpr ⟨fun _ => rfl, List.forall_mem_cons.mpr ⟨fun _ => rfl, List.forall_mem_cons.mpr ⟨fun _ => rfl, List.forall_mem_cons.mpr ⟨fun _ => rfl, List.forall_mem_cons.mpr ⟨fun _ => rfl, List.forall_mem_cons.mpr ⟨fun _ => rfl, List.forall_mem_cons.mpr ⟨fun _ => rfl, List.forall_mem_cons.mpr ⟨fun _ => rfl, List.forall_mem_cons.mpr ⟨fun _ => rfl, List.forall_mem_cons.mpr ⟨fun z => absurd z (by decide), List.forall_mem_cons.mpr ⟨fun _ => rfl, fun _ h => absurd h List.not_mem_nil⟩⟩⟩⟩⟩⟩⟩⟩⟩⟩⟩⟩
theorem rxLk_50 : rx_cmA rx_X rx_P rxm_164 rxL_50 = true := by decide +kernel
theorem rxLh_50 : ∀ x ∈ rxL_50, x.2.1 = 0 → x.2.2.1 = rx_sem x.2.2.2.1 := List.forall_mem_cons.mpr ⟨fun _ => rfl, List.forall_mem_cons.mpr ⟨fun _ => rfl, List.forall_mem_cons.mpr ⟨fun _ => rfl, List.forall_mem_cons.mpr ⟨fun _ => rfl, List.forall_mem_cons.mpr ⟨fun _ => rfl, List.forall_mem_cons.mpr ⟨fun _ => rfl, List.forall_mem_cons.mpr ⟨fun _ => rfl, List.forall_mem_cons.mpr ⟨fun _ => rfl, List.forall_mem_cons.mpr ⟨fun _ => rfl, List.forall_mem_cons.mpr ⟨fun _ => rfl, List.forall_mem_cons.mpr ⟨fun _ => rfl, List.forall_mem_cons.mpr ⟨fun _ => rfl, List.forall_mem_cons.mpr ⟨fun _ => rfl, List.forall_mem_cons.mpr ⟨fun _ => rfl, fun _ h => absurd h List.not_mem_nil⟩⟩⟩⟩⟩⟩⟩⟩⟩⟩⟩⟩⟩⟩
theorem rxLk_51 : rx_cmA rx_X rx_P rxm_164 rxL_51 = true := by decide +kernel
theorem rxLh_51 : ∀ x ∈ rxL_51, x.2.1 = 0 → x.2.2.1 = rx_sem x.2.2.2.1 := List.forall_mem_cons.mpr ⟨fun _ => rfl, List.forall_mem_cons.mpr ⟨fun _ => rfl, List.forall_mem_cons.mpr ⟨fun z => absurd z (by decide), List.forall_mem_cons.mpr ⟨fun _ => rfl, List.forall_mem_cons.mpr ⟨fun _ => rfl, List.forall_mem_cons.mpr ⟨fun _ => rfl, List.forall_mem_cons.mpr ⟨fun _ => rfl, List.forall_mem_cons.mpr ⟨fun _ => rfl, List.forall_mem_cons.mpr ⟨fun _ => rfl, List.forall_mem_cons.mpr ⟨fun _ => rfl, List.forall_mem_cons.mpr ⟨fun _ => rfl, List.forall_mem_cons.mpr ⟨fun _ => rfl, List.forall_mem_cons.mpr ⟨fun _ => rfl, List.forall_mem_cons.mpr ⟨fun _ => rfl, fun _ h => absurd h List.not_mem_nil⟩⟩⟩⟩⟩⟩⟩⟩⟩⟩⟩⟩⟩⟩
theorem rxLk_52 : rx_cmA rx_X rx_P rxm_164 rxL_52 = true := by decide +kernel
theorem rxLh_52 : ∀ x ∈ rxL_52, x.2.1 = 0 → x.2.2.1 = rx_sem x.2.2.2.1 := List.forall_mem_cons.mpr ⟨fun _ => rfl, List.forall_mem_cons.mpr ⟨fun _ => rfl, List.forall_mem_cons.mpr ⟨fun _ => rfl, List.forall_mem_cons.mpr ⟨fun _ => rfl, List.forall_mem_cons.mpr ⟨fun _ => rfl, List.forall_mem_cons.mpr ⟨fun z => absurd z (by decide), List.forall_mem_cons.mpr ⟨fun _ => rfl, List.forall_mem_cons.mpr ⟨fun _ => rfl, List.forall_mem_cons.mpr ⟨fun _ => rfl, List.forall_mem_cons.mpr ⟨fun _ => rfl, fun _ h => absurd h List.not_mem_nil⟩⟩⟩⟩⟩⟩⟩⟩⟩⟩
theorem rxLk_53 : rx_cmA rx_X rx_P rxm_164 rxL_53 = true := by decide +kernel
theorem rxLh_53 : ∀ x ∈ rxL_53, x.2.1 = 0 → x.2.2.1 = rx_sem x.2.2.2.1 := List.forall_mem_cons.mpr ⟨fun _ => rfl, List.forall_mem_cons.mpr ⟨fun _ => rfl, List.forall_mem_cons.mpr ⟨fun _ => rfl, List.forall_mem_cons.mpr ⟨fun z => absurd z (by decide), List.forall_mem_cons.mpr ⟨fun _ => rfl, List.forall_mem_cons.mpr ⟨fun _ => rfl, List.forall_mem_cons.mpr ⟨fun _ => rfl, List.forall_mem_cons.mpr ⟨fun _ => rfl, List.forall_mem_cons.mpr ⟨fun _ => rfl, List.forall_mem_cons.mpr ⟨fun _ => rfl, List.forall_mem_cons.mpr ⟨fun z => absurd z (by decide), List.forall_mem_cons.mpr ⟨fun _ => rfl, fun _ h => absurd h List.not_mem_nil⟩⟩⟩⟩⟩⟩⟩⟩⟩⟩⟩⟩
theorem rxLk_54 : rx_cmA rx_X rx_P rxm_164 rxL_54 = true := by decide +kernel
theorem rxLh_54 : ∀ x ∈ rxL_54, x.2.1 = 0 → x.2.2.1 = rx_sem x.2.2.2.1 := List.forall_mem_cons.mpr ⟨fun _ => rfl, List.forall_mem_cons.mpr ⟨fun _ => rfl, List.forall_mem_cons.mpr ⟨fun _ => rfl, List.forall_mem_cons.mpr ⟨fun _ => rfl, List.forall_mem_cons.mpr ⟨fun _ => rfl, List.forall_mem_cons.mpr ⟨fun _ => rfl, List.forall_mem_cons.mpr ⟨fun z => absurd z (by decide), List.forall_mem_cons.mpr ⟨fun _ => rfl, List.forall_mem_cons.mpr ⟨fun _ => rfl, List.forall_mem_cons.mpr ⟨fun _ => rfl, fun _ h => absurd h List.not_mem_nil⟩⟩⟩⟩⟩⟩⟩⟩⟩⟩
theorem rxLk_55 : rx_cmA rx_X rx_P rxm_164 rxL_55 = true := by decide +kernel
theorem rxLh_55 : ∀ x ∈ rxL_55, x.2.1 = 0 → x.2.2.1 = rx_sem x.2.2.2.1 := List.forall_mem_cons.mpr ⟨fun _ => rfl, List.forall_mem_cons.mpr ⟨fun _ => rfl, List.forall_mem_cons.mpr ⟨fun _ => rfl, List.forall_mem_cons.mpr ⟨fun z => absurd z (by decide), List.forall_mem_cons.mpr ⟨fun _ => rfl, List.forall_mem_cons.mpr ⟨fun _ => rfl, List.forall_mem_cons.mpr ⟨fun _ => rfl, List.forall_mem_cons.mpr ⟨fun _ => rfl, List.forall_mem_cons.mpr ⟨fun _ => rfl, List.forall_mem_cons.mpr ⟨fun _ => rfl, fun _ h => absurd h List.not_mem_nil⟩⟩⟩⟩⟩⟩⟩⟩⟩⟩
theorem rxLk_56 : rx_cmA rx_X rx_P rxm_164 rxL_56 = true := by decide +kernel
theorem rxLh_56 : ∀ x ∈ rxL_56, x.2.1 = 0 → x.2.2.1 = rx_sem x.2.2.2.1 := List.forall_mem_cons.mpr ⟨fun _ => rfl, List.forall_mem_cons.mpr ⟨fun z => absurd z (by decide), List.forall_mem_cons.mpr ⟨fun _ => rfl, List.forall_mem_cons.mpr ⟨fun _ => rfl, List.forall_mem_cons.mpr ⟨fun _ => rfl, List.forall_mem_cons.mpr ⟨fun _ => rfl, List.forall_mem_cons.mpr ⟨fun _ => rfl, List.forall_mem_cons.mpr ⟨fun _ => rfl, List.forall_mem_cons.mpr ⟨fun z => absurd z (by decide), List.forall_mem_cons.mpr ⟨fun _ => rfl, fun _ h => absurd h List.not_mem_nil⟩⟩⟩⟩⟩⟩⟩⟩⟩⟩
theorem rxLk_57 : rx_cmA rx_X rx_P rxm_164 rxL_57 = true := by decide +kernel
theorem rxLh_57 : ∀ x ∈ rxL_57, x.2.1 = 0 → x.2.2.1 = rx_sem x.2.2.2.1 := List.forall_mem_cons.mpr ⟨fun _ => rfl, List.forall_mem_cons.mpr ⟨fun _ => rfl, List.forall_mem_cons.mpr ⟨fun _ => rfl, List.forall_mem_cons.mpr ⟨fun _ => rfl, List.forall_mem_cons.mpr ⟨fun _ => rfl, List.forall_mem_cons.mpr ⟨fun _ => rfl, List.forall_mem_cons.mpr ⟨fun _ => rfl, List.forall_mem_cons.mpr ⟨fun _ => rfl, List.forall_mem_cons.mpr ⟨fun _ => rfl, List.forall_mem_cons.mpr ⟨fun _ => rfl, List.forall_mem_cons.mpr ⟨fun _ => rfl, List.forall_mem_cons.mpr ⟨fun z => absurd z (by decide), fun _ h => absurd h List.not_mem_nil⟩⟩⟩⟩⟩⟩⟩⟩⟩⟩⟩⟩
theorem rxLk_58 : rx_cmA rx_X rx_P rxm_164 rxL_58 = true := by decide +kernel
theorem rxLh_58 : ∀ x ∈ rxL_58, x.2.1 = 0 → x.2.2.1 = rx_sem x.2.2.2.1 := List.forall_mem_cons.mpr ⟨fun _ => rfl, List.forall_mem_cons.mpr ⟨fun _ => rfl, List.forall_mem_cons.mpr ⟨fun _ => rfl, List.forall_mem_cons.mpr ⟨fun _ => rfl, List.forall_mem_cons.mpr ⟨fun _ => rfl, List.forall_mem_cons.mpr ⟨fun _ => rfl, List.forall_mem_cons.mpr ⟨fun _ => rfl, List.forall_mem_cons.mpr ⟨fun _ => rfl, List.forall_mem_cons.mpr ⟨fun _ => rfl, List.forall_mem_cons.mpr ⟨fun _ => rfl, List.forall_mem_cons.mpr ⟨fun _ => rfl, List.forall_mem_cons.mpr ⟨fun z => absurd z (by decide), List.forall_mem_cons.mpr ⟨fun _ => rfl, fun _ h => absurd h List.not_mem_nil⟩⟩⟩⟩⟩⟩⟩⟩⟩⟩⟩⟩⟩
theorem rxLk_59 : rx_cmA rx_X rx_P rxm_164 rxL_59 = true := by decide +kernel
theorem rxLh_59 : ∀ x ∈ rxL_59, x.2.1 = 0 → x.2.2.1 = rx_sem x.2.2.2.1 := List.forall_mem_cons.mpr ⟨fun _ => rfl, List.forall_mem_cons.mpr ⟨fun z => absurd z (by decide), List.forall_mem_cons.mpr ⟨fun _ => rfl, List.forall_mem_cons.mpr ⟨fun z => absurd z (by decide), List.forall_mem_cons.mpr ⟨fun _ => rfl, fun _ h => absurd h List.not_mem_nil⟩⟩⟩⟩⟩
theorem rxLk_60 : rx_cmA rx_X rx_P rxm_164 rxL_60 = true := by decide +kernel
theorem rxLh_60 : ∀ x ∈ rxL_60, x.2.1 = 0 → x.2.2.1 = rx_sem x.2.2.2.1 := List.forall_mem_cons.mpr ⟨fun _ => rfl, List.forall_mem_cons.mpr ⟨fun _ => rfl, List.forall_mem_cons.mpr ⟨fun _ => rfl, List.forall_mem_cons.mpr ⟨fun _ => rfl, List.forall_mem_cons.mpr ⟨fun _ => rfl, List.forall_mem_cons.mpr ⟨fun _ => rfl, List.forall_mem_cons.mpr ⟨fun z => absurd z (by decide), List.forall_mem_cons.mpr ⟨fun _ => rfl, List.forall_mem_cons.mpr ⟨fun _ => rfl, List.forall_mem_cons.mpr ⟨fun _ => rfl, List.forall_mem_cons.mpr ⟨fun _ => rfl, List.forall_mem_cons.mpr ⟨fun _ => rfl, List.forall_mem_cons.mpr ⟨fun _ => rfl, List.forall_mem_cons.mpr ⟨fun z => absurd z (by decide), fun _ h => absurd h List.not_mem_nil⟩⟩⟩⟩⟩⟩⟩⟩⟩⟩⟩⟩⟩⟩
theorem rxLk_61 : rx_cmA rx_X rx_P rxm_164 rxL_61 = true := by decide +kernel
theorem rxLh_61 : ∀ x ∈ rxL_61, x.2.1 = 0 → x.2.2.1 = rx_sem x.2.2.2.1 := List.forall_mem_cons.mpr ⟨fun _ => rfl, List.forall_mem_cons.mpr ⟨fun _ => rfl, List.forall_mem_cons.mpr ⟨fun _ => rfl, List.forall_mem_cons.mpr ⟨fun _ => rfl, List.forall_mem_cons.mpr ⟨fun _ => rfl, List.forall_mem_cons.mpr ⟨fun _ => rfl, List.forall_mem_cons.mpr ⟨fun _ => rfl, List.forall_mem_cons.mpr ⟨fun _ => rfl, List.forall_mem_cons.mpr ⟨fun _ => rfl, List.forall_mem_cons.mpr ⟨fun _ => rfl, fun _ h => absurd h List.not_mem_nil⟩⟩⟩⟩⟩⟩⟩⟩⟩⟩
theorem rxLk_62 : rx_cmA rx_X rx_P rxm_164 rxL_62 = true := by decide +kernel
theorem rxLh_62 : ∀ x ∈ rxL_62, x.2.1 = 0 → x.2.2.1 = rx_sem x.2.2.2.1 := List.forall_mem_cons.mpr ⟨fun _ => rfl, List.forall_mem_cons.mpr ⟨fun _ => rfl, List.forall_mem_cons.mpr ⟨fun z => absurd z (by decide), List.forall_mem_cons.mpr ⟨fun _ => rfl, List.forall_mem_cons.mpr ⟨fun _ => rfl, List.forall_mem_cons.mpr ⟨fun _ => rfl, List.forall_mem_cons.mpr ⟨fun _ => rfl, List.forall_mem_cons.mpr ⟨fun _ => rfl, List.forall_mem_cons.mpr ⟨fun _ => rfl, List.forall_mem_cons.mpr ⟨fun _ => rfl, List.forall_mem_cons.mpr ⟨fun _ => rfl, List.forall_mem_cons.mpr ⟨fun _ => rfl, List.forall_mem_cons.mpr ⟨fun _ => rfl, List.forall_mem_cons.mpr ⟨fun _ => rfl, fun _ h => absurd h List.not_mem_nil⟩⟩⟩⟩⟩⟩⟩⟩⟩⟩⟩⟩⟩⟩
theorem rxLk_63 : rx_cmA rx_X rx_P rxm_164 rxL_63 = true := by decide +kernel
theorem rxLh_63 : ∀ x ∈ rxL_63, x.2.1 = 0 → x.2.2.1 = rx_sem x.2.2.2.1 := List.forall_mem_cons.mpr ⟨fun z => absurd z (by decide), List.forall_mem_cons.mpr ⟨fun _ => rfl, List.forall_mem_cons.mpr ⟨fun _ => rfl, List.forall_mem_cons.mpr ⟨fun _ => rfl, List.forall_mem_cons.mpr ⟨fun _ => rfl, List.forall_mem_cons.mpr ⟨fun _ => rfl, List.forall_mem_cons.mpr ⟨fun _ => rfl, List.forall_mem_cons.mpr ⟨fun _ => rfl, List.forall_mem_cons.mpr ⟨fun _ => rfl, List.forall_mem_cons.mpr ⟨fun _ => rfl, fun _ h => absurd h List.not_mem_nil⟩⟩⟩⟩⟩⟩⟩⟩⟩⟩
theorem rxLk_64 : rx_cmA rx_X rx_P rxm_164 rxL_64 = true := by decide +kernel
theorem rxLh_64 : ∀ x ∈ rxL_64, x.2.1 = 0 → x.2.2.1 = rx_sem x.2.2.2.1 := List.forall_mem_cons.mpr ⟨fun _ => rfl, List.forall_mem_cons.mpr ⟨fun _ => rfl, List.forall_mem_cons.mpr ⟨fun _ => rfl, List.forall_mem_cons.mpr ⟨fun z => absurd z (by decide), List.forall_mem_cons.mpr ⟨fun _ => rfl, List.forall_mem_cons.mpr ⟨fun _ => rfl, List.forall_mem_cons.mpr ⟨fun _ => rfl, List.forall_mem_cons.mpr ⟨fun _ => rfl, List.forall_mem_cons.mpr ⟨fun _ => rfl, List.forall_mem_cons.mpr ⟨fun _ => rfl, List.forall_mem_cons.mpr ⟨fun _ => rfl, List.forall_mem_cons.mpr ⟨fun _ => rfl, List.forall_mem_cons.mpr ⟨fun _ => rfl, List.forall_mem_cons.mpr ⟨fun _ => rfl, fun _ h => absurd h List.not_mem_nil⟩⟩⟩⟩⟩⟩⟩⟩⟩⟩⟩⟩⟩⟩
theorem rxLk_65 : rx_cmA rx_X rx_P rxm_164 rxL_65 = true := by decide +kernel
theorem rxLh_65 : ∀ x ∈ rxL_65, x.2.1 = 0 → x.2.2.1 = rx_sem x.2.2.2.1 := List.forall_mem_cons.mpr ⟨fun _ => rfl, List.forall_mem_cons.mpr ⟨fun z => absurd z (by decide), List.forall_mem_cons.mpr ⟨fun _ => rfl, List.forall_mem_cons.mpr ⟨fun _ => rfl, List.forall_mem_cons.mpr ⟨fun _ => rfl, List.forall_mem_cons.mpr ⟨fun _ => rfl, List.forall_mem_cons.mpr ⟨fun _ => rfl, List.forall_mem_cons.mpr ⟨fun _ => rfl, List.forall_mem_cons.mpr ⟨fun _ => rfl, List.forall_mem_cons.mpr ⟨fun _ => rfl, fun _ h => absurd h List.not_mem_nil⟩⟩⟩⟩⟩⟩⟩⟩⟩⟩
theorem rxLk_66 : rx_cmA rx_X rx_P rxm_164 rxL_66 = true := by decide +kernel
theorem rxLh_66 : ∀ x ∈ rxL_66, x.2.1 = 0 → x.2.2.1 = rx_sem x.2.2.2.1 := List.forall_mem_cons.mpr ⟨fun _ => rfl, List.forall_mem_cons.mpr ⟨fun _ => rfl, List.forall_mem_cons.mpr ⟨fun _ => rfl, List.forall_mem_cons.mpr ⟨fun _ => rfl, List.forall_mem_cons.mpr ⟨fun z => absurd z (by decide), List.forall_mem_cons.mpr ⟨fun _ => rfl, List.forall_mem_cons.mpr ⟨fun _ => rfl, List.forall_mem_cons.mpr ⟨fun _ => rfl, List.forall_mem_cons.mpr ⟨fun _ => rfl, List.forall_mem_cons.mpr ⟨fun _ => rfl, List.forall_mem_cons.mpr ⟨fun _ => rfl, List.forall_mem_cons.mpr ⟨fun _ => rfl, List.forall_mem_cons.mpr ⟨fun _ => rfl, List.forall_mem_cons.mpr ⟨fun _ => rfl, fun _ h => absurd h List.not_mem_nil⟩⟩⟩⟩⟩⟩⟩⟩⟩⟩⟩⟩⟩⟩
theorem rxLk_67 : rx_cmA rx_X rx_P rxm_164 rxL_67 = true := by decide +kernel
theorem rxLh_67 : ∀ x ∈ rxL_67, x.2.1 = 0 → x.2.2.1 = rx_sem x.2.2.2.1 := List.forall_mem_cons.mpr ⟨fun _ => rfl, List.forall_mem_cons.mpr ⟨fun _ => rfl, List.forall_mem_cons.mpr ⟨fun z => absurd z (by decide), List.forall_mem_cons.mpr ⟨fun _ => rfl, List.forall_mem_cons.mpr ⟨fun _ => rfl, List.forall_mem_cons.mpr ⟨fun _ => rfl, List.forall_mem_cons.mpr ⟨fun _ => rfl, List.forall_mem_cons.mpr ⟨fun _ => rfl, List.forall_mem_cons.mpr ⟨fun _ => rfl, List.forall_mem_cons.mpr ⟨fun _ => rfl, fun _ h => absurd h List.not_mem_nil⟩⟩⟩⟩⟩⟩⟩⟩⟩⟩
theorem rxLk_68 : rx_cmA rx_X rx_P rxm_164 rxL_68 = true := by decide +kernel
theorem rxLh_68 : ∀ x ∈ rxL_68, x.2.1 = 0 → x.2.2.1 = rx_sem x.2.2.2.1 := List.forall_mem_cons.mpr ⟨fun z => absurd z (by decide), List.forall_mem_cons.mpr ⟨fun _ => rfl, List.forall_mem_cons.mpr ⟨fun _ => rfl, List.forall_mem_cons.mpr ⟨fun _ => rfl, List.forall_mem_cons.mpr ⟨fun _ => rfl, List.forall_mem_cons.mpr ⟨fun _ => rfl, List.forall_mem_cons.mpr ⟨fun _ => rfl, List.forall_mem_cons.mpr ⟨fun z => absurd z (by decide), List.forall_mem_cons.mpr ⟨fun _ => rfl, fun _ h => absurd h List.not_mem_nil⟩⟩⟩⟩⟩⟩⟩⟩⟩
theorem rxLk_69 : rx_cmA rx_X rx_P rxm_164 rxL_69 = true := by decide +kernel
theorem rxLh_69 : ∀ x ∈ rxL_69, x.2.1 = 0 → x.2.2.1 = rx_sem x.2.2.2.1 := List.forall_mem_cons.mpr ⟨fun _ => rfl, List.forall_mem_cons.mpr ⟨fun _ => rfl, List.forall_mem_cons.mpr ⟨fun _ => rfl, List.forall_mem_cons.mpr ⟨fun _ => rfl, List.forall_mem_cons.mpr ⟨fun _ => rfl, List.forall_mem_cons.mpr ⟨fun _ => rfl, List.forall_mem_cons.mpr ⟨fun _ => rfl, List.forall_mem_cons.mpr ⟨fun _ => rfl, List.forall_mem_cons.mpr ⟨fun _ => rfl, List.forall_mem_cons.mpr ⟨fun _ => rfl, List.forall_mem_cons.mpr ⟨fun _ => rfl, List.forall_mem_cons.mpr ⟨fun z => absurd z (by decide), List.forall_mem_cons.mpr ⟨fun _ => rfl, fun _ h => absurd h List.not_mem_nil⟩⟩⟩⟩⟩⟩⟩⟩⟩⟩⟩⟩⟩
theorem rxLk_70 : rx_cmA rx_X rx_P rxm_164 rxL_70 = true := by decide +kernel
theorem rxLh_70 : ∀ x ∈ rxL_70, x.2.1 = 0 → x.2.2.1 = rx_sem x.2.2.2.1 := List.forall_mem_cons.mpr ⟨fun _ => rfl, List.forall_mem_cons.mpr ⟨fun _ => rfl, List.forall_mem_cons.mpr ⟨fun _ => rfl, List.forall_mem_cons.mpr ⟨fun _ => rfl, List.forall_mem_cons.mpr ⟨fun _ => rfl, List.forall_mem_cons.mpr ⟨fun _ => rfl, List.forall_mem_cons.mpr ⟨fun _ => rfl, List.forall_mem_cons.mpr ⟨fun _ => rfl, List.forall_mem_cons.mpr ⟨fun _ => rfl, List.forall_mem_cons.mpr ⟨fun _ => rfl, List.forall_mem_cons.mpr ⟨fun z => absurd z (by decide), List.forall_mem_cons.mpr ⟨fun _ => rfl, fun _ h => absurd h List.not_mem_nil⟩⟩⟩⟩⟩⟩⟩⟩⟩⟩⟩⟩
theorem rxLk_71 : rx_cmA rx_X rx_P rxm_164 rxL_71 = true := by decide +kernel
theorem rxLh_71 : ∀ x ∈ rxL_71, x.2.1 = 0 → x.2.2.1 = rx_sem x.2.2.2.1 := List.forall_mem_cons.mpr ⟨fun _ => rfl, List.forall_mem_cons.mpr ⟨fun z => absurd z (by decide), List.forall_mem_cons.mpr ⟨fun _ => rfl, List.forall_mem_cons.mpr ⟨fun z => absurd z (by decide), List.forall_mem_cons.mpr ⟨fun _ => rfl, List.forall_mem_cons.mpr ⟨fun _ => rfl, fun _ h => absurd h List.not_mem_nil⟩⟩⟩⟩⟩⟩
theorem rxLk_72 : rx_cmA rx_X rx_P rxm_164 rxL_72 = true := by decide +kernel
theorem rxLh_72 : ∀ x ∈ rxL_72, x.2.1 = 0 → x.2.2.1 = rx_sem x.2.2.2.1 := List.forall_mem_cons.mpr ⟨fun _ => rfl, List.forall_mem_cons.mpr ⟨fun _ => rfl, List.forall_mem_cons.mpr ⟨fun _ => rfl, List.forall_mem_cons.mpr ⟨fun _ => rfl, List.forall_mem_cons.mpr ⟨fun _ => rfl, List.forall_mem_cons.mpr ⟨fun _ => rfl, List.forall_mem_cons.mpr ⟨fun _ => rfl, List.forall_mem_cons.mpr ⟨fun _ => rfl, List.forall_mem_cons.mpr ⟨fun _ => rfl, List.forall_mem_cons.mpr ⟨fun _ => rfl, List.forall_mem_cons.mpr ⟨fun z => absurd z (by decide), List.forall_mem_cons.mpr ⟨fun _ => rfl, List.forall_mem_cons.mpr ⟨fun _ => rfl, List.forall_mem_cons.mpr ⟨fun _ => rfl, fun _ h => absurd h List.not_mem_nil⟩⟩⟩⟩⟩⟩⟩⟩⟩⟩⟩⟩⟩⟩
theorem rxLk_73 : rx_cmA rx_X rx_P rxm_164 rxL_73 = true := by decide +kernel
theorem rxLh_73 : ∀ x ∈ rxL_73, x.2.1 = 0 → x.2.2.1 = rx_sem x.2.2.2.1 := List.forall_mem_cons.mpr ⟨fun _ => rfl, List.forall_mem_cons.mpr ⟨fun _ => rfl, List.forall_mem_cons.mpr ⟨fun _ => rfl, List.forall_mem_cons.mpr ⟨fun _ => rfl, List.forall_mem_cons.mpr ⟨fun _ => rfl, List.forall_mem_cons.mpr ⟨fun _ => rfl, List.forall_mem_cons.mpr ⟨fun _ => rfl, List.forall_mem_cons.mpr ⟨fun _ => rfl, List.forall_mem_cons.mpr ⟨fun z => absurd z (by decide), List.forall_mem_cons.mpr ⟨fun _ => rfl, fun _ h => absurd h List.not_mem_nil⟩⟩⟩⟩⟩⟩⟩⟩⟩⟩
theorem rxLk_74 : rx_cmA rx_X rx_P rxm_164 rxL_74 = true := by decide +kernel
theorem rxLh_74 : ∀ x ∈ rxL_74, x.2.1 = 0 → x.2.2.1 = rx_sem x.2.2.2.1 := List.forall_mem_cons.mpr ⟨fun _ => rfl, List.forall_mem_cons.mpr ⟨fun _ => rfl, List.forall_mem_cons.mpr ⟨fun _ => rfl, List.forall_mem_cons.mpr ⟨fun _ => rfl, List.forall_mem_cons.mpr ⟨fun _ => rfl, List.forall_mem_cons.mpr ⟨fun _ => rfl, List.forall_mem_cons.mpr ⟨fun _ => rfl, List.forall_mem_cons.mpr ⟨fun _ => rfl, List.forall_mem_cons.mpr ⟨fun _ => rfl, List.forall_mem_cons.mpr ⟨fun _ => rfl, List.forall_mem_cons.mpr ⟨fun _ => rfl, List.forall_mem_cons.mpr ⟨fun _ => rfl, List.forall_mem_cons.mpr ⟨fun _ => rfl, List.forall_mem_cons.mpr ⟨fun _ => rfl, List.forall_mem_cons.mpr ⟨fun _ => rfl, List.forall_mem_cons.mpr ⟨fun _ => rfl, fun _ h => absurd h List.not_mem_nil⟩⟩⟩⟩⟩⟩⟩⟩⟩⟩⟩⟩⟩⟩⟩⟩
theorem rxLk_75 : rx_cmA rx_X rx_P rxm_164 rxL_75 = true := by decide +kernel
theorem rxLh_75 : ∀ x ∈ rxL_75, x.2.1 = 0 → x.2.2.1 = rx_sem x.2.2.2.1 := List.forall_mem_cons.mpr ⟨fun z => absurd z (by decide), List.forall_mem_cons.mpr ⟨fun _ => rfl, List.forall_mem_cons.mpr ⟨fun _ => rfl, List.forall_mem_cons.mpr ⟨fun _ => rfl, List.forall_mem_cons.mpr ⟨fun _ => rfl, List.forall_mem_cons.mpr ⟨fun _ => rfl, List.forall_mem_cons.mpr ⟨fun _ => rfl, List.forall_mem_cons.mpr ⟨fun _ => rfl, List.forall_mem_cons.mpr ⟨fun _ => rfl, List.forall_mem_cons.mpr ⟨fun _ => rfl, List.forall_mem_cons.mpr ⟨fun _ => rfl, List.forall_mem_cons.mpr ⟨fun _ => rfl, List.forall_mem_cons.mpr ⟨fun _ => rfl, List.forall_mem_cons.mpr ⟨fun _ => rfl, fun _ h => absurd h List.not_mem_nil⟩⟩⟩⟩⟩⟩⟩⟩⟩⟩⟩⟩⟩⟩
theorem rxLk_76 : rx_cmA rx_X rx_P rxm_164 rxL_76 = true := by decide +kernel
theorem rxLh_76 : ∀ x ∈ rxL_76, x.2.1 = 0 → x.2.2.1 = rx_sem x.2.2.2.1 := List.forall_mem_cons.mpr ⟨fun _ => rfl, List.forall_mem_cons.mpr ⟨fun _ => rfl, List.forall_mem_cons.mpr ⟨fun _ => rfl, List.forall_mem_cons.mpr ⟨fun z => absurd z (by decide), List.forall_mem_cons.mpr ⟨fun _ => rfl, List.forall_mem_cons.mpr ⟨fun _ => rfl, List.forall_mem_cons.mpr ⟨fun z => absurd z (by decide), List.forall_mem_cons.mpr ⟨fun _ => rfl, fun _ h => absurd h List.not_mem_nil⟩⟩⟩⟩⟩⟩⟩⟩
theorem rxLk_77 : rx_cmA rx_X rx_P rxm_164 rxL_77 = true := by decide +kernel
theorem rxLh_77 : ∀ x ∈ rxL_77, x.2.1 = 0 → x.2.2.1 = rx_sem x.2.2.2.1 := List.forall_mem_cons.mpr ⟨fun z => absurd z (by decide), List.forall_mem_cons.mpr ⟨fun _ => rfl, List.forall_mem_cons.mpr ⟨fun _ => rfl, List.forall_mem_cons.mpr ⟨fun _ => rfl, List.forall_mem_cons.mpr ⟨fun _ => rfl, List.forall_mem_cons.mpr ⟨fun _ => rfl, List.forall_mem_cons.mpr ⟨fun _ => rfl, List.forall_mem_cons.mpr ⟨fun _ => rfl, List.forall_mem_cons.mpr ⟨fun _ => rfl, List.forall_mem_cons.mpr ⟨fun _ => rfl, fun _ h => absurd h List.not_mem_nil⟩⟩⟩⟩⟩⟩⟩⟩⟩⟩
theorem rxLk_78 : rx_cmA rx_X rx_P rxm_164 rxL_78 = true := by decide +kernel
theorem rxLh_78 : ∀ x ∈ rxL_78, x.2.1 = 0 → x.2.2.1 = rx_sem x.2.2.2.1 := List.forall_mem_cons.mpr ⟨fun _ => rfl, List.forall_mem_cons.mpr ⟨fun _ => rfl, List.forall_mem_cons.mpr ⟨fun _ => rfl, List.forall_mem_cons.mpr ⟨fun _ => rfl, List.forall_mem_cons.mpr ⟨fun _ => rfl, List.forall_mem_cons.mpr ⟨fun _ => rfl, List.forall_mem_cons.mpr ⟨fun _ => rfl, List.forall_mem_cons.mpr ⟨fun _ => rfl, List.forall_mem_cons.mpr ⟨fun z => absurd z (by decide), List.forall_mem_cons.mpr ⟨fun _ => rfl, List.forall_mem_cons.mpr ⟨fun _ => rfl, List.forall_mem_cons.mpr ⟨fun _ => rfl, List.forall_mem_cons.mpr ⟨fun _ => rfl, List.forall_mem_cons.mpr ⟨fun _ => rfl, fun _ h => absurd h List.not_mem_nil⟩⟩⟩⟩⟩⟩⟩⟩⟩⟩⟩⟩⟩⟩
theorem rxLk_79 : rx_cmA rx_X rx_P rxm_164 rxL_79 = true := by decide +kernel
theorem rxLh_79 : ∀ x ∈ rxL_79, x.2.1 = 0 → x.2.2.1 = rx_sem x.2.2.2.1 := List.forall_mem_cons.mpr ⟨fun _ => rfl, List.forall_mem_cons.mpr ⟨fun _ => rfl, List.forall_mem_cons.mpr ⟨fun _ => rfl, List.forall_mem_cons.mpr ⟨fun _ => rfl, List.forall_mem_cons.mpr ⟨fun _ => rfl, List.forall_mem_cons.mpr ⟨fun _ => rfl, List.forall_mem_cons.mpr ⟨fun _ => rfl, List.forall_mem_cons.mpr ⟨fun _ => rfl, List.forall_mem_cons.mpr ⟨fun _ => rfl, List.forall_mem_cons.mpr ⟨fun _ => rfl, List.forall_mem_cons.mpr ⟨fun _ => rfl, List.forall_mem_cons.mpr ⟨fun z => absurd z (by decide), List.forall_mem_cons.mpr ⟨fun _ => rfl, fun _ h => absurd h List.not_mem_nil⟩⟩⟩⟩⟩⟩⟩⟩⟩⟩⟩⟩⟩
theorem rxLk_80 : rx_cmA rx_X rx_P rxm_164 rxL_80 = true := by decide +kernel
theorem rxLh_80 : ∀ x ∈ rxL_80, x.2.1 = 0 → x.2.2.1 = rx_sem x.2.2.2.1 := List.forall_mem_cons.mpr ⟨fun _ => rfl, List.forall_mem_cons.mpr ⟨fun _ => rfl, List.forall_mem_cons.mpr ⟨fun _ => rfl, List.forall_mem_cons.mpr ⟨fun _ => rfl, List.forall_mem_cons.mpr ⟨fun _ => rfl, List.forall_mem_cons.mpr ⟨fun _ => rfl, List.forall_mem_cons.mpr ⟨fun _ => rfl, List.forall_mem_cons.mpr ⟨fun _ => rfl, List.forall_mem_cons.mpr ⟨fun _ => rfl, List.forall_mem_cons.mpr ⟨fun _ => rfl, List.forall_mem_cons.mpr ⟨fun _ => rfl, List.forall_mem_cons.mpr ⟨fun z => absurd z (by decide), fun _ h => absurd h List.not_mem_nil⟩⟩⟩⟩⟩⟩⟩⟩⟩⟩⟩⟩
theorem rxLk_81 : rx_cmA rx_X rx_P rxm_164 rxL_81 = true := by decide +kernel
theorem rxLh_81 : ∀ x ∈ rxL_81, x.2.1 = 0 → x.2.2.1 = rx_sem x.2.2.2.1 := List.forall_mem_cons.mpr ⟨fun _ => rfl, List.forall_mem_cons.mpr ⟨fun _ => rfl, List.forall_mem_cons.mpr ⟨fun _ => rfl, List.forall_mem_cons.mpr ⟨fun _ => rfl, List.forall_mem_cons.mpr ⟨fun _ => rfl, List.forall_mem_cons.mpr ⟨fun _ => rfl, List.forall_mem_cons.mpr ⟨fun _ => rfl, List.forall_mem_cons.mpr ⟨fun _ => rfl, List.forall_mem_cons.mpr ⟨fun _ => rfl, List.forall_mem_cons.mpr ⟨fun _ => rfl, List.forall_mem_cons.mpr ⟨fun _ => rfl, List.forall_mem_cons.mpr ⟨fun z => absurd z (by decide), List.forall_mem_cons.mpr ⟨fun _ => rfl, fun _ h => absurd h List.not_mem_nil⟩⟩⟩⟩⟩⟩⟩⟩⟩⟩⟩⟩⟩
theorem rxLk_82 : rx_cmA rx_X rx_P rxm_164 rxL_82 = true := by decide +kernel
theorem rxLh_82 : ∀ x ∈ rxL_82, x.2.1 = 0 → x.2.2.1 = rx_sem x.2.2.2.1 := List.forall_mem_cons.mpr ⟨fun _ => rfl, List.forall_mem_cons.mpr ⟨fun z => absurd z (by decide), List.forall_mem_cons.mpr ⟨fun _ => rfl, List.forall_mem_cons.mpr ⟨fun z => absurd z (by decide), List.forall_mem_cons.mpr ⟨fun _ => rfl, fun _ h => absurd h List.not_mem_nil⟩⟩⟩⟩⟩
theorem rxLk_83 : rx_cmA rx_X rx_P rxm_164 rxL_83 = true := by decide +kernel
theorem rxLh_83 : ∀ x ∈ rxL_83, x.2.1 = 0 → x.2.2.1 = rx_sem x.2.2.2.1 := List.forall_mem_cons.mpr ⟨fun _ => rfl, List.forall_mem_cons.mpr ⟨fun z => absurd z (by decide), List.forall_mem_cons.mpr ⟨fun _ => rfl, List.forall_mem_cons.mpr ⟨fun z => absurd z (by decide), List.forall_mem_cons.mpr ⟨fun _ => rfl, List.forall_mem_cons.mpr ⟨fun _ => rfl, List.forall_mem_cons.mpr ⟨fun _ => rfl, fun _ h => absurd h List.not_mem_nil⟩⟩⟩⟩⟩⟩⟩
theorem rxLk_84 : rx_cmA rx_X rx_P rxm_164 rxL_84 = true := by decide +kernel
theorem rxLh_84 : ∀ x ∈ rxL_84, x.2.1 = 0 → x.2.2.1 = rx_sem x.2.2.2.1 := List.forall_mem_cons.mpr ⟨fun _ => rfl, List.forall_mem_cons.mpr ⟨fun _ => rfl, List.forall_mem_cons.mpr ⟨fun _ => rfl, List.forall_mem_cons.mpr ⟨fun _ => rfl, List.forall_mem_cons.mpr ⟨fun z => absurd z (by decide), List.forall_mem_cons.mpr ⟨fun _ => rfl, List.forall_mem_cons.mpr ⟨fun _ => rfl, List.forall_mem_cons.mpr ⟨fun _ => rfl, List.forall_mem_cons.mpr ⟨fun _ => rfl, List.forall_mem_cons.mpr ⟨fun _ => rfl, List.forall_mem_cons.mpr ⟨fun _ => rfl, List.forall_mem_cons.mpr ⟨fun z => absurd z (by decide), fun _ h => absurd h List.not_mem_nil⟩⟩⟩⟩⟩⟩⟩⟩⟩⟩⟩⟩
theorem rxLk_85 : rx_cmA rx_X rx_P rxm_164 rxL_85 = true := by decide +kernel
theorem rxLh_85 : ∀ x ∈ rxL_85, x.2.1 = 0 → x.2.2.1 = rx_sem x.2.2.2.1 := List.forall_mem_cons.mpr ⟨fun _ => rfl, List.forall_mem_cons.mpr ⟨fun _ => rfl, List.forall_mem_cons.mpr ⟨fun _ => rfl, List.forall_mem_cons.mpr ⟨fun _ => rfl, List.forall_mem_cons.mpr ⟨fun _ => rfl, List.forall_mem_cons.mpr ⟨fun _ => rfl, List.forall_mem_cons.mpr ⟨fun _ => rfl, List.forall_mem_cons.mpr ⟨fun z => absurd z (by decide), List.forall_mem_cons.mpr ⟨fun _ => rfl, List.forall_mem_cons.mpr ⟨fun _ => rfl, fun _ h => absurd h List.not_mem_nil⟩⟩⟩⟩⟩⟩⟩⟩⟩⟩
theorem rxLk_86 : rx_cmA rx_X rx_P rxm_164 rxL_86 = true := by decide +kernel
theorem rxLh_86 : ∀ x ∈ rxL_86, x.2.1 = 0 → x.2.2.1 = rx_sem x.2.2.2.1 := List.forall_mem_cons.mpr ⟨fun _ => rfl, List.forall_mem_cons.mpr ⟨fun _ => rfl, List.forall_mem_cons.mpr ⟨fun _ => rfl, List.forall_mem_cons.mpr ⟨fun _ => rfl, List.forall_mem_cons.mpr ⟨fun z => absurd z (by decide), List.forall_mem_cons.mpr ⟨fun _ => rfl, List.forall_mem_cons.mpr ⟨fun _ => rfl, List.forall_mem_cons.mpr ⟨fun _ => rfl, List.forall_mem_cons.mpr ⟨fun _ => rfl, List.forall_mem_cons.mpr ⟨fun _ => rfl, fun _ h => absurd h List.not_mem_nil⟩⟩⟩⟩⟩⟩⟩⟩⟩⟩
theorem rxLk_87 : rx_cmA rx_X rx_P rxm_164 rxL_87 = true := by decide +kernel
theorem rxLh_87 : ∀ x ∈ rxL_87, x.2.1 = 0 → x.2.2.1 = rx_sem x.2.2.2.1 := List.forall_mem_cons.mpr ⟨fun _ => rfl, List.forall_mem_cons.mpr ⟨fun _ => rfl, List.forall_mem_cons.mpr ⟨fun z => absurd z (by decide), List.forall_mem_cons.mpr ⟨fun _ => rfl, List.forall_mem_cons.mpr ⟨fun _ => rfl, List.forall_mem_cons.mpr ⟨fun _ => rfl, List.forall_mem_cons.mpr ⟨fun _ => rfl, List.forall_mem_cons.mpr ⟨fun _ => rfl, List.forall_mem_cons.mpr ⟨fun _ => rfl, List.forall_mem_cons.mpr ⟨fun z => absurd z (by decide), List.forall_mem_cons.mpr ⟨fun _ => rfl, fun _ h => absurd h List.not_mem_nil⟩⟩⟩⟩⟩⟩⟩⟩⟩⟩⟩
theorem rxLk_88 : rx_cmA rx_X rx_P rxm_164 rxL_88 = true := by decide +kernel
theorem rxLh_88 : ∀ x ∈ rxL_88, x.2.1 = 0 → x.2.2.1 = rx_sem x.2.2.2.1 := List.forall_mem_cons.mpr ⟨fun _ => rfl, List.forall_mem_cons.mpr ⟨fun _ => rfl, List.forall_mem_cons.mpr ⟨fun _ => rfl, List.forall_mem_cons.mpr ⟨fun z => absurd z (by decide), fun _ h => absurd h List.not_mem_nil⟩⟩⟩⟩
set_option maxRecDepth 20000 in
theorem rxs_164 : rx_ST rx_P (rx_DF, rx_FK) rxm_164 := List.forall_mem_cons.mpr ⟨rx_cmA_ok rxc_all rxLk_0 rxLh_0, List.forall_mem_cons.mpr ⟨rx_cmA_ok rxc_all rxLk_1 rxLh_1, List.forall_mem_cons.mpr ⟨rx_cmA_ok rxc_all rxLk_2 rxLh_2, List.forall_mem_cons.mpr ⟨rx_cmA_ok rxc_all rxLk_3 rxLh_3, List.forall_mem_cons.mpr ⟨rx_cmA_ok rxc_all rxLk_4 rxLh_4, List.forall_mem_cons.mpr ⟨rx_cmA_ok rxc_all rxLk_5 rxLh_5, List.forall_mem_cons.mpr ⟨rx_cmA_ok rxc_all rxLk_6 rxLh_6, List.forall_mem_cons.mpr ⟨rx_cmA_ok rxc_all rxLk_7 rxLh_7, List.forall_mem_cons.mpr ⟨rx_cmA_ok rxc_all rxLk_8 rxLh_8, List.forall_mem_cons.mpr ⟨rx_cmA_ok rxc_all rxLk_9 rxLh_9, List.forall_mem_cons.mpr ⟨rx_cmA_ok rxc_all rxLk_10 rxLh_10, List.forall_mem_cons.mpr ⟨rx_cmA_ok rxc_all rxLk_11 rxLh_11, List.forall_mem_cons.mpr ⟨rx_cmA_ok rxc_all rxLk_12 rxLh_12, List.forall_mem_cons.mpr ⟨rx_cmA_ok rxc_all rxLk_13 rxLh_13, List.forall_mem_cons.mpr ⟨rx_cmA_ok rxc_all rxLk_14 rxLh_14, List.forall_mem_cons.mpr ⟨rx_cmA_ok rxc_all rxLk_15 rxLh_15, List.forall_mem_cons.mpr ⟨rx_cmA_ok rxc_all rxLk_16 rxLh_16, List.forall_mem_cons.mpr ⟨rx_cmA_ok rxc_all rxLk_17 rxLh_17, List.forall_mem_cons.mpr ⟨rx_cmA_ok rxc_all rxLk_18 rxLh_18, List.forall_mem_cons.mpr ⟨rx_cmA_ok rxc_all rxLk_19 rxLh_19, List.forall_mem_cons.mpr ⟨rx_cmA_ok rxc_all rxLk_20 rxLh_20, List.forall_mem_cons.mpr ⟨rx_cmA_ok rxc_all rxLk_21 rxLh_21, List.forall_mem_cons.mpr ⟨rx_cmA_ok rxc_all rxLk_22 rxLh_22, List.forall_mem_cons.mpr ⟨rx_cmA_ok rxc_all rxLk_23 rxLh_23, List.forall_mem_cons.mpr ⟨rx_cmA_ok rxc_all rxLk_24 rxLh_24, List.forall_mem_cons.mpr ⟨rx_cmA_ok rxc_all rxLk_25 rxLh_25, List.forall_mem_cons.mpr ⟨rx_cmA_ok rxc_all rxLk_26 rxLh_26, List.forall_mem_cons.mpr ⟨rx_cmA_ok rxc_all rxLk_27 rxLh_27, List.forall_mem_cons.mpr ⟨rx_cmA_ok rxc_all rxLk_28 rxLh_28, List.forall_mem_cons.mpr ⟨rx_cmA_ok rxc_all rxLk_29 rxLh_29, List.forall_mem_cons.mpr ⟨rx_cmA_ok rxc_all rxLk_30 rxLh_30, List.forall_mem_cons.mpr ⟨rx_cmA_ok rxc_all rxLk_31 rxLh_31, List.forall_mem_cons.mpr ⟨rx_cmA_ok rxc_all rxLk_32 rxLh_32, List.forall_mem_cons.mpr ⟨rx_cmA_ok rxc_all rxLk_33 rxLh_33, List.forall_mem_cons.mpr ⟨rx_cmA_ok rxc_all rxLk_34 rxLh_34, List.forall_mem_cons.mpr ⟨rx_cmA_ok rxc_all rxLk_35 rxLh_35, List.forall_mem_cons.mpr ⟨rx_cmA_ok rxc_all rxLk_36 rxLh_36, List.forall_mem_cons.mpr ⟨rx_cmA_ok rxc_all rxLk_37 rxLh_37, List.forall_mem_cons.mpr ⟨rx_cmA_ok rxc_all rxLk_38 rxLh_38, List.forall_mem_cons.mpr ⟨rx_cmA_ok rxc_all rxLk_39 rxLh_39, List.forall_mem_cons.mpr ⟨rx_cmA_ok rxc_all rxLk_40 rxLh_40, List.forall_mem_cons.mpr ⟨rx_cmA_ok rxc_all rxLk_41 rxLh_41, List.forall_mem_cons.mpr ⟨rx_cmA_ok rxc_all rxLk_42 rxLh_42, List.forall_mem_cons.mpr ⟨rx_cmA_ok rxc_all rxLk_43 rxLh_43, List.forall_mem_cons.mpr ⟨rx_cmA_ok rxc_all rxLk_44 rxLh_44, List.forall_mem_cons.mpr ⟨rx_cmA_ok rxc_all rxLk_45 rxLh_45, List.forall_mem_cons.mpr ⟨rx_cmA_ok rxc_all rxLk_46 rxLh_46, List.forall_mem_cons.mpr ⟨rx_cmA_ok rxc_all rxLk_47 rxLh_47, List.forall_mem_cons.mpr ⟨rx_cmA_ok rxc_all rxLk_48 rxLh_48, List.forall_mem_cons.mpr ⟨rx_cmA_ok rxc_all rxLk_49 rxLh_49, List.forall_mem_cons.mpr ⟨rx_cmA_ok rxc_all rxLk_50 rxLh_50, List.forall_mem_cons.mpr ⟨rx_cmA_ok rxc_all rxLk_51 rxLh_51, List.forall_mem_cons.mpr ⟨rx_cmA_ok rxc_all rxLk_52 rxLh_52, List.forall_mem_cons.mpr ⟨rx_cmA_ok rxc_all rxLk_53 rxLh_53, List.forall_mem_cons.mpr ⟨rx_cmA_ok rxc_all rxLk_54 rxLh_54, List.forall_mem_cons.mpr ⟨rx_cmA_ok rxc_all rxLk_55 rxLh_55, List.forall_mem_cons.mpr ⟨rx_cmA_ok rxc_all rxLk_56 rxLh_56, List.forall_mem_cons.mpr ⟨rx_cmA_ok rxc_all rxLk_57 rxLh_57, List.forall_mem_cons.mpr ⟨rx_cmA_ok rxc_all rxLk_58 rxLh_58, List.forall_mem_cons.mpr ⟨rx_cmA_ok rxc_all rxLk_59 rxLh_59, List.forall_mem_cons.mpr ⟨rx_cmA_ok rxc_all rxLk_60 rxLh_60, List.forall_mem_cons.mpr ⟨rx_cmA_ok rxc_all rxLk_61 rxLh_61, List.forall_mem_cons.mpr ⟨rx_cmA_ok rxc_all rxLk_62 rxLh_62, List.forall_mem_cons.mpr ⟨rx_cmA_ok rxc_all rxLk_63 rxLh_63, List.forall_mem_cons.mpr ⟨rx_cmA_ok rxc_all rxLk_64 rxLh_64, List.forall_mem_cons.mpr ⟨rx_cmA_ok rxc_all rxLk_65 rxLh_65, List.forall_mem_cons.mpr ⟨rx_cmA_ok rxc_all rxLk_66 rxLh_66, List.forall_mem_cons.mpr ⟨rx_cmA_ok rxc_all rxLk_67 rxLh_67, List.forall_mem_cons.mpr ⟨rx_cmA_ok rxc_all rxLk_68 rxLh_68, List.forall_mem_cons.mpr ⟨rx_cmA_ok rxc_all rxLk_69 rxLh_69, List.forall_mem_cons.mpr ⟨rx_cmA_ok rxc_all rxLk_70 rxLh_70, List.forall_mem_cons.mpr ⟨rx_cmA_ok rxc_all rxLk_71 rxLh_71, List.forall_mem_cons.mpr ⟨rx_cmA_ok rxc_all rxLk_72 rxLh_72, List.forall_mem_cons.mpr ⟨rx_cmA_ok rxc_all rxLk_73 rxLh_73, List.forall_mem_cons.mpr ⟨rx_cmA_ok rxc_all rxLk_74 rxLh_74, List.forall_mem_cons.mpr ⟨rx_cmA_ok rxc_all rxLk_75 rxLh_75, List.forall_mem_cons.mpr ⟨rx_cmA_ok rxc_all rxLk_76 rxLh_76, List.forall_mem_cons.mpr ⟨rx_cmA_ok rxc_all rxLk_77 rxLh_77, List.forall_mem_cons.mpr ⟨rx_cmA_ok rxc_all rxLk_78 rxLh_78, List.forall_mem_cons.mpr ⟨rx_cmA_ok rxc_all rxLk_79 rxLh_79, List.forall_mem_cons.mpr ⟨rx_cmA_ok rxc_all rxLk_80 rxLh_80, List.forall_mem_cons.mpr ⟨rx_cmA_ok rxc_all rxLk_81 rxLh_81, List.forall_mem_cons.mpr ⟨rx_cmA_ok rxc_all rxLk_82 rxLh_82, List.forall_mem_cons.mpr ⟨rx_cmA_ok rxc_all rxLk_83 rxLh_83, List.forall_mem_cons.mpr ⟨rx_cmA_ok rxc_all rxLk_84 rxLh_84, List.forall_mem_cons.mpr ⟨rx_cmA_ok rxc_all rxLk_85 rxLh_85, List.forall_mem_cons.mpr ⟨rx_cmA_ok rxc_all rxLk_86 rxLh_86, List.forall_mem_cons.mpr ⟨rx_cmA_ok rxc_all rxLk_87 rxLh_87, List.forall_mem_cons.mpr ⟨rx_cmA_ok rxc_all rxLk_88 rxLh_88, fun _ h => absurd h List.not_mem_nil⟩⟩⟩⟩⟩⟩⟩⟩⟩⟩⟩⟩⟩⟩⟩⟩⟩⟩⟩⟩⟩⟩⟩⟩⟩⟩⟩⟩⟩⟩⟩⟩⟩⟩⟩⟩⟩⟩⟩⟩⟩⟩⟩⟩⟩⟩⟩⟩⟩⟩⟩⟩⟩⟩⟩⟩⟩⟩⟩⟩⟩⟩⟩⟩⟩⟩⟩⟩⟩⟩⟩⟩⟩⟩⟩⟩⟩⟩⟩⟩⟩⟩⟩⟩⟩⟩⟩⟩⟩
end
section
theorem rxa_byte : Jvm.Cond.arrayClass .byte ∈ lw_tbl := rx_tb_in (j := 1) (List.mem_of_getElem? (i := 156) (by decide +kernel))
theorem rxa_int : Jvm.Cond.arrayClass .int ∈ lw_tbl := rx_tb_in (j := 1) (List.mem_of_getElem? (i := 106) (by decide +kernel))
theorem rxa_long : Jvm.Cond.arrayClass .long ∈ lw_tbl := rx_tb_in (j := 1) (List.mem_of_getElem? (i := 226) (by decide +kernel))
theorem rxa_boolean : Jvm.Cond.arrayClass .boolean ∈ lw_tbl := rx_tb_in (j := 2) (List.mem_of_getElem? (i := 184) (by decide +kernel))
theorem rxa_over : Jvm.Cond.arrayOver (.object "TurnNet$State") ∈ lw_tbl := rx_tb_in (j := 2) (List.mem_of_getElem? (i := 74) (by decide +kernel))
/-- the law, with a script of L ints -/
noncomputable def rxl (L : Nat) : rx_M := ((4, 7, 155, 205, 8956, 1, 2, L + 1), rxm_164.2)
theorem rxl_st (L : Nat) : rx_ST rx_P (rx_DF, rx_FK) (rxl L) := rxs_164
end
section
/-! THE CLAIM OUT OF ONE WALK OF THE LAW'S BODY. Your part is whole_start (and what it stands on); all else here is the same for every law, but numbers. -/
def R_law : String := "TurnNetLaw"
def lw_P (b : Addr) (xs : List Int32) (args : Array Value) (s : State) : Prop := args = #[.ref b] ∧ s.IntsAt b xs ∧ xs.length ≤ 6 ∧ (Jvm.Cond.and given_1 narrow_1).before args s = true
def lw_Q (_ : Array Value) (s : State) (o : Outcome) (t : State) : Prop := o = .returned (some (.int 1)) ∧ Framed s o t [] 600000 7302250
def lw_Z (below : List Frame) (a : Array Value) (s : State) : State → Prop := fun t => ∃ o, t.status = .running ∧ Ended t below o ∧ lw_Q a s o t
/-- the law's own end, with 1 on the stack, nothing written that was there before, its room as the claim has it -/
theorem lw_ret {p : Program} {l : Launch} {e : Env} {s : State} {m : MethodId} {below : List Frame} {meth : Method} {c : Code} {b : Nat} (hx : p.tables.exec = Jvm.exec) (hb : c.code = code) (hr : meth.sig.returnType = ret) (hlocks : meth.locks = false) {pc : Nat} {H : Heap} {ls : Array Slot} (hdg : decode code pc = .ok (.ireturn, 1)) : W p l e room_1 s m #[Value.ref b] below meth c H [] 600000 7302250 (lw_Z below #[Value.ref b] s) (F0 m pc ls [.int 1]) := by
  intro T hT X
  obtain ⟨fs, hret, hrun, hended, hW, hframe⟩ := X.leave (v := some (.int 1)) (hlocks := hlocks) (fun h => by rw [hr] at h; cases h)
  have hmeth' : T.vm.method? m = some meth := X.method'
  refine ⟨T.setFrames fs, ?_, .returned (some (.int 1)), hrun, hended, rfl, ⟨_, rfl⟩, hW, hframe⟩
  jvm_step X.here [X.here.top, hx, hb, hdg, hmeth', hr, ret, narrow_b1]
  (try refine ⟨rfl, ?_⟩); (try refine ⟨rfl, ?_⟩)
  first | (intro acts; rw [hret _ acts rfl rfl rfl]) | rw [hret _ _ rfl rfl rfl]
  exact Steps.refl _
/-- what holds at the law's entry: the machine, the code, the tables' words (any of lw_tbl by 'hts w (by decide +kernel)'), the script of L ints xs at the cell b, what the Statement gives of the start (any of its parts by flat_of_before) -/
def lw_At (p : Program) (s : State) (m : MethodId) (meth : Method) (c : Code) (b L : Nat) (xs : Nat → Int32) : Prop :=
  p.tables.exec = Jvm.exec ∧ c.code = code ∧ meth.sig.returnType = ret ∧ c.maxLocals = 4 ∧ s.vm.findClass R_law = some m.cls ∧ (∀ w ∈ lw_tbl, w.before #[Value.ref b] s = true) ∧ va_X b L xs s s.heap ∧ b < s.heap.size ∧ meth.locks = false ∧ (Jvm.Cond.and given_1 narrow_1).before #[Value.ref b] s = true
end
section
/-- the numbers of the script that the law reads, and their intervals -/
noncomputable def rx_en (xs : Nat → Int32) : List Int32 := [xs 0, xs 1, xs 2, xs 3, xs 4, xs 5]
noncomputable def rx_iv0 : rx_I := [(0, 4294967295), (0, 4294967295), (0, 4294967295), (0, 4294967295), (0, 4294967295), (0, 4294967295)]
noncomputable def rx_s0 : rx_S := (0, rx_args [6] 4, [], rx_h0, rx_iv0, 0, 0)
theorem rx_RI0 (xs : Nat → Int32) : rx_RI rx_iv0 (rx_en xs) := by
  refine ⟨rfl, fun t a b x e1 e2 => ?_⟩
  have ht : t < 6 := (List.getElem?_eq_some_iff.mp e1).1
  have key : (a, b) = (0, 4294967295) := by
    match t, ht, e1 with
    | 0, _, e1 => exact (Option.some.inj e1).symm
    | 1, _, e1 => exact (Option.some.inj e1).symm
    | 2, _, e1 => exact (Option.some.inj e1).symm
    | 3, _, e1 => exact (Option.some.inj e1).symm
    | 4, _, e1 => exact (Option.some.inj e1).symm
    | 5, _, e1 => exact (Option.some.inj e1).symm
  cases key
  exact ⟨Nat.zero_le _, rx_bias_max x⟩
theorem rx_ar_K {s : State} {ty : FieldType} {args : Array Value} (h : (Jvm.Cond.arrayClass ty).before args s = true) (hno : ∀ C, ty ≠ .object C) : ∃ cA : ClassId, ArrOfT s cA ty ∧ va_RA s cA ty := by
  obtain ⟨cA, kA, comp, h1, h2, h3⟩ := Cond.arrayClass_spec h
  refine ⟨cA, fun n z => ⟨fun k h => (by cases h), kA, h2, comp, h3⟩, ?_⟩
  cases ty with
  | object C => exact absurd rfl (hno C)
  | _ => exact h1
theorem rx_ar_O {s : State} {C : String} {args : Array Value} (h : (Jvm.Cond.arrayOver (.object C)).before args s = true) : ∃ cA : ClassId, ArrOfT s cA (.object C) ∧ va_RA s cA (.object C) := by
  obtain ⟨comp, cA, kA, h1, -, h2, h3, h4⟩ := Cond.arrayOver_spec h
  exact ⟨cA, fun n z => ⟨fun k h => (by cases h), kA, h2, comp, h3⟩, kA, comp, h2, h3, h1, h4⟩
theorem lw_G_tbl {w : Jvm.Cond} (h : w ∈ lw_G) : w ∈ lw_tbl := (List.mem_filter.mp h).1
/-- a call by contract, in the law -/
noncomputable def rx_Rule (L : Nat) (G : rx_S → Prop) : Prop := ∀ (i : Nat) (q : rx_M) (as rest : List Nat) (os : List rx_O) (σ : rx_S), rx_nth rx_P i = some q → rx_cal rx_P (rxl L) i σ = some (as, rest) → (∀ (l : Launch) (cy : Nat → ClassId) (D : va_G), rx_At l cy D q (rx_ent q as σ) os) → (∀ o ∈ os, G (rx_bh q rest σ o)) → G σ
/-- THE LAW, from its entry: what every rule of the interpreter keeps holds of it -/
theorem rx_law_start {p : Program} {e : Env} {s : State} {m : MethodId} {below : List Frame} {meth : Method} {c : Code} (l : Launch) {b L : Nat} {xs : Nat → Int32} (hL : L ≤ 6) (C0 : lw_At p s m meth c b L xs)
    (hroom : rx_rf (rx_n (rxl L)) ≤ room_1.frames ∧ rx_rl (rx_n (rxl L)) ≤ room_1.locals ∧ rx_rc (rx_n (rxl L)) ≤ room_1.cells ∧ rx_rs (rx_n (rxl L)) ≤ room_1.slots) (hcs : rx_rc (rx_n (rxl L)) ≤ 600000 ∧ rx_rs (rx_n (rxl L)) ≤ 7302250)
    (hmain : ∀ G : rx_S → Prop, (∀ n σ outs, rx_run rx_P (rx_DF, rx_FK) n (rxl L) σ = some outs → (∀ o ∈ outs, o.1 = 4) → G σ) → (∀ n stop k σ l', rx_adv rx_P (rx_DF, rx_FK) n stop (rxl L) k σ = some l' → (∀ σ' ∈ l', G σ') → G σ) → rx_Rule L G → G rx_s0) :
    W p l e room_1 s m #[Value.ref b] below meth c s.heap [] 0 0 (lw_Z below #[Value.ref b] s) (entryFrame m ([Value.ref b] : List Value).toArray 4) := by
  obtain ⟨hx, hb, hr, hml, hown, hts, hX, hbl, hlocks, hgv⟩ := id C0
  have hcls : ∀ k : Nat, ∃ z : ClassId × (Nat → Nat), ∀ q : vw_C, vwCl[k]? = some q → u_Kn s q.1 q.2.1 q.2.2 z.1 z.2 := by
    intro k
    cases hq : vwCl[k]? with
    | none => exact ⟨(0, fun _ => 0), fun q h => by cases h⟩
    | some q =>
      have hk : k < 12 := (List.getElem?_eq_some_iff.mp hq).1
      obtain ⟨C, T, Nf, ty0, fs, l0, q1, q2, q3, q4, q5, q6, q7, q8, q9, q10, q11⟩ := rxc_all k hk
      cases hq.symm.trans q1
      obtain ⟨cC, iS, h⟩ := u_known (C := C) (T := T) (N := Nf) (n := Nf) hts (fun w hw => lw_G_tbl (q4 w hw)) (hts _ (lw_G_tbl q10))
      exact ⟨(cC, iS), fun q' h' => by cases h'; exact h⟩
  obtain ⟨dF, hdF⟩ := Classical.axiomOfChoice hcls
  obtain ⟨cB, hcB⟩ := rx_ar_K (hts _ rxa_byte) (fun C z => by cases z)
  obtain ⟨cI, hcI⟩ := rx_ar_K (hts _ rxa_int) (fun C z => by cases z)
  obtain ⟨cJ, hcJ⟩ := rx_ar_K (hts _ rxa_long) (fun C z => by cases z)
  obtain ⟨cZ, hcZ⟩ := rx_ar_K (hts _ rxa_boolean) (fun C z => by cases z)
  obtain ⟨cO, hcO⟩ := rx_ar_O (hts _ rxa_over)
  obtain ⟨cy, hy12, hy13, hy14, hy15, hy16⟩ : ∃ cy : Nat → ClassId, cy 12 = cB ∧ cy 13 = cI ∧ cy 14 = cJ ∧ cy 15 = cZ ∧ cy 16 = cO := ⟨fun k => if k = 12 then cB else if k = 13 then cI else if k = 14 then cJ else if k = 15 then cZ else cO, rfl, rfl, rfl, rfl, rfl⟩
  have hK : va_K (fun k => (dF k).1, fun k => (dF k).2) vwCl (rx_tys cy) s := by
    refine ⟨fun k q hq => hdF k q hq, fun k q hq => ?_⟩
    have hk : k < 5 := (List.getElem?_eq_some_iff.mp hq).1
    match k, hk, hq with
    | 0, _, hq => cases hq; rw [hy12]; exact hcB
    | 1, _, hq => cases hq; rw [hy13]; exact hcI
    | 2, _, hq => cases hq; rw [hy14]; exact hcJ
    | 3, _, hq => cases hq; rw [hy15]; exact hcZ
    | 4, _, hq => cases hq; rw [hy16]; exact hcO
  have hNest : ∀ w ∈ lw_nest, va_Nw w s := by
    intro w hw
    have h1 := List.mem_filter.mp hw
    have h2 := h1.2
    cases w with
    | methodLinkNest a i x hh => exact va_Nw.of rfl (hts _ h1.1)
    | _ => cases h2
  have C : rx_Cx cy (fun k => (dF k).1, fun k => (dF k).2) (rxl L) p room_1 s m #[Value.ref b] meth c := ⟨hx, hb, hr, hml, hown, fun w hw => hts w (lw_G_tbl hw), hlocks, fun z => absurd (show ("law" : String) = "<init>" from z) (by decide), hK, hNest, va_AO.of (hts _ rxa_over), hroom.1, hroom.2.1, hroom.2.2.1, hroom.2.2.2⟩
  have hA : ∀ q : Nat, s.heap.size ≤ q → (fun q : Nat => s.heap.size ≤ q) q := fun _ h => h
  have hSc : rx_Sc (rx_n (rxl L)) b (fun q : Nat => s.heap.size ≤ q) s.heap (rx_en xs) s := by
    intro L' hL'
    have : L' = L := by have : L + 1 = L' + 1 := hL'; omega
    subst this
    refine ⟨xs, hX, hbl, Nat.not_le.mpr hbl, by omega, fun j hj _ => ?_⟩
    match j, hj with
    | 0, _ => rfl
    | 1, _ => rfl
    | 2, _ => rfl
    | 3, _ => rfl
    | 4, _ => rfl
    | 5, _ => rfl
  have hret : ∀ o : rx_O, o.1 = 4 → rx_Ret p l e room_1 s m #[Value.ref b] below meth c (lw_Z below #[Value.ref b] s) cy (fun k => (dF k).1, fun k => (dF k).2) b (fun q : Nat => s.heap.size ≤ q) s.heap [] (rx_en xs) (rxl L) o := by
    intro o ho ad en ls stA H locs ws cn sn pc hk a1 a2 a3 a4 a5 a6 a7 a8 a9
    rcases hk with ⟨k1, -⟩ | ⟨-, k2, x, rfl, hxo, -⟩ | ⟨k1, -⟩
    · exact absurd (show 2 = 0 from k1) (by decide)
    · rw [ho] at hxo
      have h1 := Option.some.inj (hxo.symm.trans (rx_int_cv b ad en 1))
      cases h1
      refine W.widen (Nat.le_trans a8 hcs.1) (Nat.le_trans a9 hcs.2) ?_
      exact va_forget a6.2.2 (lw_ret hx hb hr hlocks k2)
    · exact absurd (show 2 = 3 from k1) (by decide)
  have hG := hmain (fun σ => rx_G p l e room_1 s m #[Value.ref b] below meth c (lw_Z below #[Value.ref b] s) cy (fun k => (dF k).1, fun k => (dF k).2) b (fun q : Nat => s.heap.size ≤ q) s.heap [] (rx_en xs) (rx_mL (rx_n (rxl L))) σ)
    (fun n σ outs hrun hall => rx_sound rxP_ok n (rxl L) (rxl_st L) (Or.inr (Or.inr (Or.inl ⟨rfl, rfl⟩))) σ outs hrun p e room_1 s m _ below meth c _ b _ s.heap [] (rx_en xs) C hSc hA (fun o ho => hret o (hall o ho)))
    (fun n stop k σ l' hadv hall => rx_adv_ok rxP_ok (rxl_st L) C hSc hA k σ l' hadv hall)
    (fun i q as rest os σ hq hc hat hall => rx_G_call rxP_ok (rxl_st L) C hA rfl hq hc (hat l _ _) hall)
  have hl := lv_entry ([.ref b]) (n := 4) (Nat.le_of_ble_eq_true rfl)
  rw [lg_entry_eq]
  generalize (lg_sl ([.ref b]) ++ List.replicate (4 - (lg_sl ([.ref b])).length) Slot.unset).toArray = ls at hl ⊢
  have has : ([6] : List Nat).map (rx_cv b [] (rx_en xs)) = ([.ref b] : List Value).map some := rfl
  obtain ⟨ha1, ha2⟩ := rx_args_ok (n := 4) (off := 0) has (Nat.le_of_ble_eq_true rfl)
  have hRL : rx_RL b [] (rx_en xs) 4 (rx_args [6] 4) ls := ⟨ha1, hl.1, hl.2.1, fun i v hv h2 => by
    obtain ⟨x, h3, h4⟩ := ha2 i v hv h2
    exact ⟨x, h3, by have := hl.2.2 _ h4; rwa [Nat.zero_add] at this⟩⟩
  exact hG [] (rx_en xs) ls [] s.heap [] [] ⟨List.prefix_refl _, List.prefix_refl _, ⟨Nat.zero_le _, rfl, rfl, fun q c h => absurd (rx_hg_lt h) (Nat.not_lt_zero _)⟩, fun k q h => by simp at h, ⟨fun i j p q h => by simp at h, fun k q h => by simp at h⟩, va_S.rf, hRL, rfl, rx_RI0 xs⟩
end
section
noncomputable def rx_ok (o : Option (List rx_O)) : Bool := match o with
  | some l => l.all (fun x => Nat.beq x.1 4)
  | none => false
theorem rx_ok_ex {o : Option (List rx_O)} (h : rx_ok o = true) : ∃ l, o = some l ∧ ∀ x ∈ l, x.1 = 4 := by
  cases o with
  | none => cases h
  | some l => exact ⟨l, rfl, fun x hx => rx_beq.mp (List.all_eq_true.mp h x hx)⟩
/-- what whole runs of the law give -/
noncomputable def rx_Main (L : Nat) : Prop := ∀ G : rx_S → Prop, (∀ n σ outs, rx_run rx_P (rx_DF, rx_FK) n (rxl L) σ = some outs → (∀ o ∈ outs, o.1 = 4) → G σ) → (∀ n stop k σ l', rx_adv rx_P (rx_DF, rx_FK) n stop (rxl L) k σ = some l' → (∀ σ' ∈ l', G σ') → G σ) → rx_Rule L G → G rx_s0
theorem rx_main_run {L n : Nat} (h : rx_ok (rx_run rx_P (rx_DF, rx_FK) n (rxl L) rx_s0) = true) : rx_Main L := fun G hrun _ _ => by
  obtain ⟨l, h1, h2⟩ := rx_ok_ex h
  exact hrun n rx_s0 l h1 h2
/-- up to the law's switch -/
noncomputable def rx_f6 (stop : Nat) : Option (List rx_S) := rx_adv rx_P (rx_DF, rx_FK) 20000 stop (rxl 6) 200 rx_s0
noncomputable def rx_one (o : Option (List rx_S)) : Option rx_S := match o with
  | some [σ] => some σ
  | _ => none
/-- behind it: a state for each number -/
noncomputable def rx_g6 (stop : Nat) : Option (List rx_S) := match rx_one (rx_f6 stop) with
  | some σ => rx_adv rx_P (rx_DF, rx_FK) 20000 999999 (rxl 6) 7 σ
  | none => none
/-- the i-th of them goes well -/
noncomputable def rx_c6 (stop i : Nat) : Bool := match rx_g6 stop with
  | some l => (match rx_nth l i with
    | some σ => rx_ok (rx_run rx_P (rx_DF, rx_FK) 200000 (rxl 6) σ)
    | none => true)
  | none => false
noncomputable def rx_n6 (stop : Nat) : Bool := match rx_g6 stop with
  | some l => Nat.ble (rx_len l) 64
  | none => false
/-- the i-th goes well, by whatever rules -/
noncomputable def rx_d6 (stop i : Nat) : Prop := ∀ G : rx_S → Prop, (∀ n σ outs, rx_run rx_P (rx_DF, rx_FK) n (rxl 6) σ = some outs → (∀ o ∈ outs, o.1 = 4) → G σ) → (∀ n stop k σ l', rx_adv rx_P (rx_DF, rx_FK) n stop (rxl 6) k σ = some l' → (∀ σ' ∈ l', G σ') → G σ) → rx_Rule 6 G → ∀ l σ, rx_g6 stop = some l → rx_nth l i = some σ → G σ
theorem rx_c6_d {stop i : Nat} (h : rx_c6 stop i = true) : rx_d6 stop i := fun G hrun _ _ l σ hg hi => by
  unfold rx_c6 at h
  rw [hg] at h
  replace h : (match rx_nth l i with
    | some σ => rx_ok (rx_run rx_P (rx_DF, rx_FK) 200000 (rxl 6) σ)
    | none => true) = true := h
  rw [hi] at h
  obtain ⟨o, h1, h2⟩ := rx_ok_ex h
  exact hrun 200000 σ o h1 h2
theorem rx_main_6 {stop : Nat} (hn : rx_n6 stop = true) (hc : ∀ i, i < 64 → rx_d6 stop i) : rx_Main 6 := fun G hrun hadv hcal => by
  unfold rx_n6 at hn
  cases hg : rx_g6 stop with
  | none => rw [hg] at hn; cases hn
  | some l =>
    rw [hg] at hn
    have hlen : l.length ≤ 64 := by rw [← rx_len_eq]; exact rx_ble.mp hn
    have hall : ∀ σ ∈ l, G σ := by
      intro σ hσ
      obtain ⟨i, hi⟩ := List.getElem?_of_mem hσ
      have hil : i < 64 := Nat.lt_of_lt_of_le (List.getElem?_eq_some_iff.mp hi).1 hlen
      exact hc i hil G hrun hadv hcal l σ hg (by rw [rx_nth_eq]; exact hi)
    unfold rx_g6 at hg
    cases ho : rx_one (rx_f6 stop) with
    | none => rw [ho] at hg; cases hg
    | some σ =>
      rw [ho] at hg
      have h1 : rx_f6 stop = some [σ] := by
        cases hf : rx_f6 stop with
        | none => rw [hf] at ho; cases ho
        | some z =>
          rw [hf] at ho
          match z, ho with
          | [], ho => cases ho
          | [w], ho => cases ho; rfl
          | _ :: _ :: _, ho => cases ho
      exact hadv 20000 stop 200 rx_s0 [σ] h1 (fun σ' h' => by
        rcases List.mem_cons.mp h' with rfl | h'
        · exact hadv 20000 999999 7 σ' l hg hall
        · cases h')
/-- cases from a to a + n -/
theorem rx_c6_all {stop a n : Nat} (h : (List.range n).all (fun i => rx_c6 stop (a + i)) = true) : ∀ i, a ≤ i → i < a + n → rx_c6 stop i = true := fun i h1 h2 => by
  have := List.all_eq_true.mp h (i - a) (List.mem_range.mpr (by omega))
  rwa [show a + (i - a) = i by omega] at this
end
section
theorem rxw_0 : rx_Main 0 := rx_main_run (n := 20000) (by decide +kernel)
theorem rxw_1 : rx_Main 1 := rx_main_run (n := 20000) (by decide +kernel)
theorem rxw_2 : rx_Main 2 := rx_main_run (n := 20000) (by decide +kernel)
theorem rxw_3 : rx_Main 3 := rx_main_run (n := 20000) (by decide +kernel)
theorem rxw_4 : rx_Main 4 := rx_main_run (n := 20000) (by decide +kernel)
theorem rxw_5 : rx_Main 5 := rx_main_run (n := 20000) (by decide +kernel)
theorem rxw_n : rx_n6 33 = true := by decide +kernel
theorem rxw6_0 : (List.range 4).all (fun i => rx_c6 33 (0 + i)) = true := by decide +kernel
theorem rxw6_4 : (List.range 6).all (fun i => rx_c6 33 (4 + i)) = true := by decide +kernel
theorem rxw6_10 : (List.range 8).all (fun i => rx_c6 33 (10 + i)) = true := by decide +kernel
theorem rxw6_18 : (List.range 8).all (fun i => rx_c6 33 (18 + i)) = true := by decide +kernel
theorem rxw6_26 : (List.range 8).all (fun i => rx_c6 33 (26 + i)) = true := by decide +kernel
theorem rxw6_34 : (List.range 4).all (fun i => rx_c6 33 (34 + i)) = true := by decide +kernel
theorem rxw6_38 : (List.range 1).all (fun i => rx_c6 33 (38 + i)) = true := by decide +kernel
theorem rxw6_40 : (List.range 3).all (fun i => rx_c6 33 (40 + i)) = true := by decide +kernel
theorem rxw6_43 : (List.range 21).all (fun i => rx_c6 33 (43 + i)) = true := by decide +kernel
end
section
/-! stuck() on a new object: the reference goes 200 steps; in stretches, each from a state that is given by its difference -/
noncomputable def rx_a0 : rx_S := rx_getS rx_s0 (match rx_g6 33 with
  | some l => rx_nth l 39
  | none => none)
noncomputable def rx_o1 : Option (List rx_S) := rx_adv rx_P (rx_DF, rx_FK) 20000 1334 (rxl 6) 50 rx_a0
noncomputable def rx_a1 : rx_S := rx_get1 rx_s0 rx_o1
theorem rx_o1_1 : rx_is1 rx_o1 = true := by decide +kernel
noncomputable def rx_k1 : List Nat × List Nat := rx_getS ([], []) (rx_cal rx_P (rxl 6) 161 rx_a1)
theorem rx_k1_1 : rx_isS (rx_cal rx_P (rxl 6) 161 rx_a1) = true := by decide +kernel
noncomputable def rx_b0 : rx_S := rx_ent rxm_161 rx_k1.1 rx_a1
noncomputable def rx_o2 : Option (List rx_S) := rx_adv rx_P (rx_DF, rx_FK) 20000 8 rxm_161 20 rx_b0
noncomputable def rx_b1 : rx_S := rx_get1 rx_s0 rx_o2
theorem rx_o2_1 : rx_is1 rx_o2 = true := by decide +kernel
noncomputable def rx_k2 : List Nat × List Nat := rx_getS ([], []) (rx_cal rx_P rxm_161 159 rx_b1)
theorem rx_k2_1 : rx_isS (rx_cal rx_P rxm_161 159 rx_b1) = true := by decide +kernel
noncomputable def rx_c0 : rx_S := rx_ent rxm_159 rx_k2.1 rx_b1
noncomputable def rx_ct (hp : rx_H) (q : Nat) : List Nat := match rx_hg hp q with
  | some (_, _, l) => l
  | none => []
/-- where the array of all lies -/
noncomputable def rx_pa : Nat := Nat.sub (rx_pl (rx_getS 0 (rx_nth (rx_ct rx_c0.2.2.2.1 (Nat.sub (rx_pl (rx_getS 0 (rx_nth rx_c0.2.1 0))) 2)) 0))) 2
noncomputable def rx_Sk (k : Nat) : rx_S := (4, rx_upd (rx_upd rx_c0.2.1 2 0) 3 (rx_int k), [], rx_hs rx_c0.2.2.2.1 rx_pa (13, 103, rx_upd (rx_ct rx_c0.2.2.2.1 rx_pa) 102 (rx_int k)), rx_c0.2.2.2.2.1, 0, 0)
theorem rxg_s : rx_eq1 (rx_adv rx_P (rx_DF, rx_FK) 20000 999999 rxm_159 14 rx_c0) (rx_Sk 1) = true := by decide +kernel
noncomputable def rx_o3 : Option (List rx_O) := rx_run rx_P (rx_DF, rx_FK) 20000 rxm_159 (rx_Sk 200)
noncomputable def rx_e1 : rx_O := rx_get1 (0, rx_h0, []) rx_o3
theorem rx_o3_1 : rx_is1 rx_o3 = true := by decide +kernel
noncomputable def rx_o4 : Option (List rx_O) := rx_run rx_P (rx_DF, rx_FK) 20000 rxm_161 (rx_bh rxm_159 rx_k2.2 rx_b1 rx_e1)
noncomputable def rx_e2 : rx_O := rx_get1 (0, rx_h0, []) rx_o4
theorem rx_o4_1 : rx_is1 rx_o4 = true := by decide +kernel
theorem rx_o5_1 : rx_ok (rx_run rx_P (rx_DF, rx_FK) 20000 (rxl 6) (rx_bh rxm_161 rx_k1.2 rx_a1 rx_e2)) = true := by decide +kernel
end
section
theorem rxg_0 : rx_eq1 (rx_adv rx_P (rx_DF, rx_FK) 20000 999999 rxm_159 490 (rx_Sk 1)) (rx_Sk 50) = true := by decide +kernel
end
section
theorem rxg_1 : rx_eq1 (rx_adv rx_P (rx_DF, rx_FK) 20000 999999 rxm_159 500 (rx_Sk 50)) (rx_Sk 100) = true := by decide +kernel
end
section
theorem rxg_2 : rx_eq1 (rx_adv rx_P (rx_DF, rx_FK) 20000 999999 rxm_159 500 (rx_Sk 100)) (rx_Sk 150) = true := by decide +kernel
end
section
theorem rxg_3 : rx_eq1 (rx_adv rx_P (rx_DF, rx_FK) 20000 999999 rxm_159 500 (rx_Sk 150)) (rx_Sk 200) = true := by decide +kernel
end
section
theorem rx_isS_two {α β : Type} {o : Option (α × β)} (d : α × β) (h : rx_isS o = true) : o = some ((rx_getS d o).1, (rx_getS d o).2) := by
  match o, h with
  | none, h => cases h
  | some x, _ => rfl
theorem rx_k1_e : rx_cal rx_P (rxl 6) 161 rx_a1 = some (rx_k1.1, rx_k1.2) := by unfold rx_k1; exact rx_isS_two ([], []) rx_k1_1
theorem rx_k2_e : rx_cal rx_P rxm_161 159 rx_b1 = some (rx_k2.1, rx_k2.2) := by unfold rx_k2; exact rx_isS_two ([], []) rx_k2_1
theorem rxq_SI : rx_nth rx_P 161 = some rxm_161 := rfl
theorem rxq_GI : rx_nth rx_P 159 = some rxm_159 := rfl
theorem rxm_SI_in : rxm_161 ∈ rx_P := by have h := rxq_SI; rw [rx_nth_eq] at h; exact List.mem_of_getElem? h
theorem rxm_GI_in : rxm_159 ∈ rx_P := by have h := rxq_GI; rw [rx_nth_eq] at h; exact List.mem_of_getElem? h
theorem rxg_at (l : Launch) (cy : Nat → ClassId) (D : va_G) : rx_At l cy D rxm_159 rx_c0 [rx_e1] := by
  have one : ∀ {k : Nat} {σ τ : rx_S}, rx_eq1 (rx_adv rx_P (rx_DF, rx_FK) 20000 999999 rxm_159 k σ) τ = true → rx_At l cy D rxm_159 τ [rx_e1] → rx_At l cy D rxm_159 σ [rx_e1] := fun h1 h2 =>
    rx_at_adv rxP_ok rxm_GI_in (rx_eq1_ok h1) (fun σ' hσ => by rw [List.mem_singleton.mp hσ]; exact h2)
  exact one rxg_s (one rxg_0 (one rxg_1 (one rxg_2 (one rxg_3 (rx_at_run rxP_ok rxm_GI_in (rx_is1_ok (0, rx_h0, []) rx_o3_1))))))
theorem rxs_at (l : Launch) (cy : Nat → ClassId) (D : va_G) : rx_At l cy D rxm_161 rx_b0 [rx_e2] :=
  rx_at_adv rxP_ok rxm_SI_in (rx_is1_ok rx_s0 rx_o2_1) (fun σ' hσ => by
    rw [List.mem_singleton.mp hσ]
    exact rx_at_call rxP_ok rxm_SI_in rxq_GI rx_k2_e (rxg_at l cy D) (fun o ho => by
      rw [List.mem_singleton.mp ho]
      exact rx_at_run rxP_ok rxm_SI_in (rx_is1_ok (0, rx_h0, []) rx_o4_1)))
theorem rx_d39 : rx_d6 33 39 := fun G hrun hadv hcal l σ hg hi => by
  have h0 : σ = rx_a0 := by unfold rx_a0; rw [hg]; show σ = rx_getS rx_s0 (rx_nth l 39); rw [hi]; rfl
  rw [h0]
  refine hadv 20000 1334 50 rx_a0 [rx_a1] (rx_is1_ok rx_s0 rx_o1_1) (fun σ' hσ => ?_)
  rw [List.mem_singleton.mp hσ]
  refine hcal 161 rxm_161 rx_k1.1 rx_k1.2 [rx_e2] rx_a1 rxq_SI rx_k1_e (fun l cy D => rxs_at l cy D) (fun o ho => ?_)
  rw [List.mem_singleton.mp ho]
  obtain ⟨os, h1, h2⟩ := rx_ok_ex rx_o5_1
  exact hrun 20000 _ os h1 h2
theorem rxw_6 : rx_Main 6 := rx_main_6 rxw_n (by
  intro i hi
  by_cases g0 : 0 ≤ i ∧ i < 4
  · exact rx_c6_d (rx_c6_all rxw6_0 i g0.1 g0.2)
  by_cases g4 : 4 ≤ i ∧ i < 10
  · exact rx_c6_d (rx_c6_all rxw6_4 i g4.1 g4.2)
  by_cases g10 : 10 ≤ i ∧ i < 18
  · exact rx_c6_d (rx_c6_all rxw6_10 i g10.1 g10.2)
  by_cases g18 : 18 ≤ i ∧ i < 26
  · exact rx_c6_d (rx_c6_all rxw6_18 i g18.1 g18.2)
  by_cases g26 : 26 ≤ i ∧ i < 34
  · exact rx_c6_d (rx_c6_all rxw6_26 i g26.1 g26.2)
  by_cases g34 : 34 ≤ i ∧ i < 38
  · exact rx_c6_d (rx_c6_all rxw6_34 i g34.1 g34.2)
  by_cases g38 : 38 ≤ i ∧ i < 39
  · exact rx_c6_d (rx_c6_all rxw6_38 i g38.1 g38.2)
  by_cases g40 : 40 ≤ i ∧ i < 43
  · exact rx_c6_d (rx_c6_all rxw6_40 i g40.1 g40.2)
  by_cases g43 : 43 ≤ i ∧ i < 64
  · exact rx_c6_d (rx_c6_all rxw6_43 i g43.1 g43.2)
  have h39 : i = 39 := by omega
  subst h39
  exact rx_d39)
theorem rxw_all : ∀ L, L ≤ 6 → rx_Main L := by
  intro L h
  match L, h with
  | 0, _ => exact rxw_0
  | 1, _ => exact rxw_1
  | 2, _ => exact rxw_2
  | 3, _ => exact rxw_3
  | 4, _ => exact rxw_4
  | 5, _ => exact rxw_5
  | 6, _ => exact rxw_6
  | n + 7, h => exact absurd h (by omega)
end
section
/-- YOUR PART: from the entry, for every script of at most 6 ints, the law comes to its end with true ('hflags': the launch's flags, for a law that throws: no stack traces) -/
theorem whole_start {p : Program} {e : Env} {s : State} {m : MethodId} {below : List Frame} {meth : Method} {c : Code} (l : Launch) (hflags : l.flags = flags0) {b L : Nat} {xs : Nat → Int32} (hL : L ≤ 6) (C0 : lw_At p s m meth c b L xs) : W p l e room_1 s m #[Value.ref b] below meth c s.heap [] 0 0 (lw_Z below #[Value.ref b] s) (entryFrame m ([Value.ref b] : List Value).toArray 4) := rx_law_start l hL C0 ⟨Nat.le_of_ble_eq_true rfl, Nat.le_of_ble_eq_true rfl, Nat.le_of_ble_eq_true rfl, Nat.le_of_ble_eq_true rfl⟩ ⟨Nat.le_of_ble_eq_true rfl, Nat.le_of_ble_eq_true rfl⟩ (rxw_all L hL)
-- ===== YOUR PART ENDS =====
set_option maxHeartbeats 4000000 in
theorem lw_walk (l : Launch) (hflags : l.flags = flags0) (b : Addr) (xs : List Int32) : MetFree l x (headSpec (Jvm.Cond.code x code maxLocals ret :: tables_1) room_1) (lw_P b xs) (fun _ _ _ _ _ => True) lw_Q := by
  refine MetFree.of_bodyS (code := code) (maxLocals := maxLocals) (ret := ret) (by decide) ?_ ?_
  · intro args s m h hn
    obtain ⟨meth, c, h1, h2, h3, h4, h5, h6, -, -⟩ := Cond.code_spec hn (atoms_spec (ws := Jvm.Cond.code x code maxLocals ret :: tables_1) h _ List.mem_cons_self)
    exact ⟨meth, c, h1, h2, h3, h4, h5, h6⟩
  · intro p e s m args below meth c s₁ B hml0 hP _
    obtain ⟨rfl, hx, hbd, hgv⟩ := hP
    obtain ⟨scr, harrAt, hlist, hof, hsmall⟩ := hx
    obtain ⟨hcb, hkn, -, -⟩ := State.arrayAt?_spec harrAt
    have hown : s.vm.findClass R_law = some m.cls := findClass_of_methodNamed B.named
    have hts0 : ∀ c ∈ (Jvm.Cond.code x code maxLocals ret :: tables_1), c.before #[Value.ref b] s = true := atoms_spec (ws := Jvm.Cond.code x code maxLocals ret :: tables_1) B.pre
    have hts : ∀ w ∈ lw_tbl, w.before #[Value.ref b] s = true := k2_hts_sels lw_privs (fun w hw => hts0 w (List.mem_cons_of_mem _ hw)) lw_privs_ok
    have hml : c.maxLocals = 4 := B.maxLocals_eq (hts0 _ List.mem_cons_self)
    have X₀ : Stand p l e room_1 s m #[Value.ref b] below meth c s₁ [] 0 0 := Stand.of_body B
    have hh0 : s₁.heap = s.heap := by rw [B.state]; rfl
    have hsz : scr.slots.size = xs.length := by rw [← Array.length_toList, hlist, List.length_map]
    have hval : ∀ j : Nat, j < xs.length → scr.slots[j]? = some (.int (xs.getD j 0)) := fun j hj => by
      rw [← Array.getElem?_toList, hlist]
      simp [hj]
    have hbl : b < s.heap.size := (Array.getElem?_eq_some_iff.mp hcb).1
    have hX : va_X b xs.length (fun j => xs.getD j 0) s s.heap := ⟨scr, hcb, hof, hkn, hsz, hval⟩
    have K : W p l e room_1 s m #[Value.ref b] below meth c s₁.heap [] 0 0 (lw_Z below #[Value.ref b] s) (entryFrame m ([Value.ref b] : List Value).toArray 4) := by
      rw [hh0]
      exact whole_start l hflags hbd ⟨B.exec, B.bytes, B.returns, hml, hown, hts, hX, hbl, B.notSynchronized, hgv⟩
    obtain ⟨t, a1, o, b1, b2, b3⟩ := K s₁ rfl X₀
    exact ⟨t, o, a1, b1, b2, b3⟩
theorem lw_pre_spec {args : Array Value} {s : State} (h : (Jvm.Cond.and given_1 narrow_1).before args s = true) (hr : rest_1_c.before args s = true) : ∃ (b : Addr) (xs : List Int32), lw_P b xs args s := by
  have hs := flat_of_before _ h
  have hq := flat_of_before _ hr
  have hc : (Cond.count 1).before args s = true := hs _ (by decide +kernel)
  have harr : (Cond.arrayOf (.arg 0) .int).before args s = true := hs _ (by decide +kernel)
  have hle : (Cond.le (.length (.arg 0)) (.int 6)).before args s = true := hs _ (by decide +kernel)
  have hlen : (Cond.isInt (.length (.arg 0))).before args s = true := hq _ (by decide +kernel)
  have hall : (Cond.all (.arg 0) (.isInt (.elem (.arg 0) (.index 0)))).before args s = true := hq _ (by decide +kernel)
  obtain ⟨b, xs, hb, hx⟩ := State.ints_of_pre rfl harr hlen hall
  have hsm : xs.length < 2 ^ 31 := hx.choose_spec.2.2.2
  have hev : (Term.length (.arg 0)).eval args s none [] s = some (.int xs.length.toInt32) := hx.length_eval hb
  have hv := Cond.le_ints hev (show (Term.int 6).eval args s none [] s = some (.int 6) from rfl)
  have hd : xs.length.toInt32 ≤ 6 := by
    simpa [Cond.before, Cond.holds, hv] using hle
  have hN : xs.length ≤ 6 := (Int32.ofNat_le_ofNat hsm (by decide)).mp (show Int32.ofNat xs.length ≤ Int32.ofNat 6 from hd)
  exact ⟨b, xs, Cond.one_arg hc (show args[0]? = some (.ref b) from hb), hx, hN, h⟩
theorem lw_comes (l : Launch) (hflags : l.flags = flags0) : Comes l x (Jvm.Cond.code x code maxLocals ret :: tables_1) room_1 (fun tb e args s => Calls_1 tb e args s ∧ rest_1 tb e args s ∧ Pre_1 tb e args s)
    (fun _ _ args s o t => lw_Q args s o t) := by
  intro p e ha hc hk s m args below hf hfit hheap happ hpre
  obtain ⟨b, xs, hP⟩ := lw_pre_spec hpre.2.2 hpre.2.1
  obtain ⟨k, o, h1, h2, h3, hQ⟩ := lw_walk l hflags b xs p e ha hc hk s m args below hf ((Spec.applies_iff_loose hf).mp happ).1 hP trivial
  exact ⟨k, o, h1, h2, h3, hQ⟩
theorem lw_frame {s t : State} {o : Outcome} {args : Array Value} (h : Framed s o t [] 600000 7302250) :
    Framed s o t (fieldLocs frame_1_writes args s ++ arrayLocs frame_1_arrays args s ++ staticLocs frame_1_statics s) 600000 7302250 := h
theorem lw_limb (L : Cond) (hL : ∀ (args : Array Value) (s t : State), L.after args s (.returned (some (.int 1))) t = true) :
    ArmFor flags0 classFile x code maxLocals ret World_1 tables_1 room_1 Calls_1 rest_1 Pre_1
      (fun tb e a s o t => postC L tb e a s o t ∧ Framed s o t (fieldLocs frame_1_writes a s ++ arrayLocs frame_1_arrays a s ++ staticLocs frame_1_statics s) 600000 7302250) := by
  intro l hflags _ _ p e ha hc hk s m args below hf hfit hheap happ hpre
  obtain ⟨k, o, h1, h2, h3, rfl, hF⟩ := lw_comes l hflags p e ha hc hk s m args below hf hfit hheap happ hpre
  exact ⟨k, _, h1, h2, h3, hL args s _, lw_frame hF⟩
theorem i_vc : Claimed_1_1 ∧ Claimed_1_2 := ⟨lw_limb limb_1_1 (fun args s t => by simp [limb_1_1, Cond.after, Cond.holds, Cond.value]), lw_limb limb_1_2 (fun args s t => Cond.after_iff.mpr (by
  first | (rw [show limb_1_2 = Cond.eq .result (.int 1) from rfl, Cond.eq_ints (x := 1) (y := 1) rfl rfl]; simp; done) | (simp [limb_1_2, Cond.value, Term.eval]; done)))⟩
end
