section
-- ===== PART A: goes FIRST, ahead of the names: the tables' words, and 'selects' of the private methods out of them =====
/-- a private method of a class that the tables say can be made, by its rows of tables_1 -/
def lw_okq (q : MethodName × Nat) : Prop := (q.1.cls ≠ "java/lang/invoke/MethodHandle" ∧ q.1.cls ≠ "java/lang/invoke/VarHandle") ∧ Cond.instantiable q.1.cls q.2 ∈ tables_1 ∧ Cond.privateMethod q.1 ∈ tables_1 ∧ Cond.instanceMethod q.1 ∈ tables_1
noncomputable def lw_nt {α : Type} (l : List α) : Nat → Option α := List.rec (motive := fun _ => Nat → Option α) (fun _ => none) (fun x _ ih i => Nat.casesOn i (some x) (fun j => ih j)) l
theorem lw_nt_in {α : Type} {x : α} : ∀ {l : List α} {i : Nat}, lw_nt l i = some x → x ∈ l
  | [], _, h => by cases h
  | y :: _, 0, h => by
    have e : some y = some x := h
    rw [Option.some.inj e]
    exact List.mem_cons_self
  | _ :: _, _ + 1, h => List.mem_cons_of_mem _ (lw_nt_in h)
theorem lw_in1 {x : Cond} (h : x ∈ tables_1_1) : x ∈ tables_1 := List.mem_append_left _ h
theorem lw_in2 {x : Cond} (h : x ∈ tables_1_2) : x ∈ tables_1 := List.mem_append_right _ (List.mem_append_left _ h)
theorem lw_in3 {x : Cond} (h : x ∈ tables_1_3) : x ∈ tables_1 := List.mem_append_right _ (List.mem_append_right _ (List.mem_append_left _ h))
theorem lw_in4 {x : Cond} (h : x ∈ tables_1_4) : x ∈ tables_1 := List.mem_append_right _ (List.mem_append_right _ (List.mem_append_right _ (List.mem_append_left _ h)))
theorem lw_in5 {x : Cond} (h : x ∈ tables_1_5) : x ∈ tables_1 := List.mem_append_right _ (List.mem_append_right _ (List.mem_append_right _ (List.mem_append_right _ (List.mem_append_left _ h))))
theorem lw_in6 {x : Cond} (h : x ∈ tables_1_6) : x ∈ tables_1 := List.mem_append_right _ (List.mem_append_right _ (List.mem_append_right _ (List.mem_append_right _ (List.mem_append_right _ (List.mem_append_left _ h)))))
theorem lw_in7 {x : Cond} (h : x ∈ tables_1_7) : x ∈ tables_1 := List.mem_append_right _ (List.mem_append_right _ (List.mem_append_right _ (List.mem_append_right _ (List.mem_append_right _ (List.mem_append_right _ (List.mem_append_left _ h))))))
theorem lw_in8 {x : Cond} (h : x ∈ tables_1_8) : x ∈ tables_1 := List.mem_append_right _ (List.mem_append_right _ (List.mem_append_right _ (List.mem_append_right _ (List.mem_append_right _ (List.mem_append_right _ (List.mem_append_right _ (h)))))))
theorem lw_nc0 : "TurnNet$Reader" ≠ "java/lang/invoke/MethodHandle" ∧ "TurnNet$Reader" ≠ "java/lang/invoke/VarHandle" := ⟨by decide +kernel, by decide +kernel⟩
theorem lw_nc1 : "TurnNet$Net" ≠ "java/lang/invoke/MethodHandle" ∧ "TurnNet$Net" ≠ "java/lang/invoke/VarHandle" := ⟨by decide +kernel, by decide +kernel⟩
theorem lw_nc2 : "TurnNet$Order" ≠ "java/lang/invoke/MethodHandle" ∧ "TurnNet$Order" ≠ "java/lang/invoke/VarHandle" := ⟨by decide +kernel, by decide +kernel⟩
theorem lw_nc3 : "TurnNet$History" ≠ "java/lang/invoke/MethodHandle" ∧ "TurnNet$History" ≠ "java/lang/invoke/VarHandle" := ⟨by decide +kernel, by decide +kernel⟩
theorem lw_nc4 : "TurnNet" ≠ "java/lang/invoke/MethodHandle" ∧ "TurnNet" ≠ "java/lang/invoke/VarHandle" := ⟨by decide +kernel, by decide +kernel⟩
theorem lw_nc5 : "TurnNet$Planner" ≠ "java/lang/invoke/MethodHandle" ∧ "TurnNet$Planner" ≠ "java/lang/invoke/VarHandle" := ⟨by decide +kernel, by decide +kernel⟩
theorem lw_nc6 : "TurnNet$Turns" ≠ "java/lang/invoke/MethodHandle" ∧ "TurnNet$Turns" ≠ "java/lang/invoke/VarHandle" := ⟨by decide +kernel, by decide +kernel⟩
theorem lw_nc7 : "TurnNet$Routes" ≠ "java/lang/invoke/MethodHandle" ∧ "TurnNet$Routes" ≠ "java/lang/invoke/VarHandle" := ⟨by decide +kernel, by decide +kernel⟩
theorem lw_nc8 : "TurnNet$Traffic" ≠ "java/lang/invoke/MethodHandle" ∧ "TurnNet$Traffic" ≠ "java/lang/invoke/VarHandle" := ⟨by decide +kernel, by decide +kernel⟩
theorem lw_nc9 : "TurnNet$Graph" ≠ "java/lang/invoke/MethodHandle" ∧ "TurnNet$Graph" ≠ "java/lang/invoke/VarHandle" := ⟨by decide +kernel, by decide +kernel⟩
theorem lw_nc10 : "TurnNetModel" ≠ "java/lang/invoke/MethodHandle" ∧ "TurnNetModel" ≠ "java/lang/invoke/VarHandle" := ⟨by decide +kernel, by decide +kernel⟩
theorem lw_p0 : lw_okq (⟨"TurnNet$Reader", "advance", "()V"⟩, 12) := ⟨lw_nc0, lw_in1 (lw_nt_in (i := 108) rfl), lw_in2 (lw_nt_in (i := 210) rfl), lw_in2 (lw_nt_in (i := 211) rfl)⟩
theorem lw_p1 : lw_okq (⟨"TurnNet$Reader", "readSwitches", "()Z"⟩, 12) := ⟨lw_nc0, lw_in1 (lw_nt_in (i := 108) rfl), lw_in2 (lw_nt_in (i := 218) rfl), lw_in2 (lw_nt_in (i := 219) rfl)⟩
theorem lw_p2 : lw_okq (⟨"TurnNet$Reader", "isWord", "(Ljava/lang/String;)Z"⟩, 12) := ⟨lw_nc0, lw_in1 (lw_nt_in (i := 108) rfl), lw_in2 (lw_nt_in (i := 223) rfl), lw_in2 (lw_nt_in (i := 224) rfl)⟩
theorem lw_p3 : lw_okq (⟨"TurnNet$Reader", "fail", "(I)Z"⟩, 12) := ⟨lw_nc0, lw_in1 (lw_nt_in (i := 108) rfl), lw_in3 (lw_nt_in (i := 35) rfl), lw_in3 (lw_nt_in (i := 36) rfl)⟩
theorem lw_p4 : lw_okq (⟨"TurnNet$Reader", "readNumber", "(II)Z"⟩, 12) := ⟨lw_nc0, lw_in1 (lw_nt_in (i := 108) rfl), lw_in3 (lw_nt_in (i := 39) rfl), lw_in3 (lw_nt_in (i := 40) rfl)⟩
theorem lw_p5 : lw_okq (⟨"TurnNet$Reader", "closeLine", "()Z"⟩, 12) := ⟨lw_nc0, lw_in1 (lw_nt_in (i := 108) rfl), lw_in3 (lw_nt_in (i := 43) rfl), lw_in3 (lw_nt_in (i := 44) rfl)⟩
theorem lw_p6 : lw_okq (⟨"TurnNet$Reader", "readSign", "(I)Z"⟩, 12) := ⟨lw_nc0, lw_in1 (lw_nt_in (i := 108) rfl), lw_in3 (lw_nt_in (i := 47) rfl), lw_in3 (lw_nt_in (i := 48) rfl)⟩
theorem lw_p7 : lw_okq (⟨"TurnNet$Reader", "readLine", "()Z"⟩, 12) := ⟨lw_nc0, lw_in1 (lw_nt_in (i := 108) rfl), lw_in3 (lw_nt_in (i := 51) rfl), lw_in3 (lw_nt_in (i := 52) rfl)⟩
theorem lw_p8 : lw_okq (⟨"TurnNet$Reader", "readLink", "()Z"⟩, 12) := ⟨lw_nc0, lw_in1 (lw_nt_in (i := 108) rfl), lw_in3 (lw_nt_in (i := 56) rfl), lw_in3 (lw_nt_in (i := 57) rfl)⟩
theorem lw_p9 : lw_okq (⟨"TurnNet$Reader", "readSum", "(I)Z"⟩, 12) := ⟨lw_nc0, lw_in1 (lw_nt_in (i := 108) rfl), lw_in3 (lw_nt_in (i := 75) rfl), lw_in3 (lw_nt_in (i := 76) rfl)⟩
theorem lw_p10 : lw_okq (⟨"TurnNet$Reader", "readProduct", "(I)Z"⟩, 12) := ⟨lw_nc0, lw_in1 (lw_nt_in (i := 108) rfl), lw_in3 (lw_nt_in (i := 79) rfl), lw_in3 (lw_nt_in (i := 80) rfl)⟩
theorem lw_p11 : lw_okq (⟨"TurnNet$Reader", "readUnit", "(I)Z"⟩, 12) := ⟨lw_nc0, lw_in1 (lw_nt_in (i := 108) rfl), lw_in3 (lw_nt_in (i := 83) rfl), lw_in3 (lw_nt_in (i := 84) rfl)⟩
theorem lw_p12 : lw_okq (⟨"TurnNet$Reader", "unitKind", "()I"⟩, 12) := ⟨lw_nc0, lw_in1 (lw_nt_in (i := 108) rfl), lw_in3 (lw_nt_in (i := 87) rfl), lw_in3 (lw_nt_in (i := 88) rfl)⟩
theorem lw_p13 : lw_okq (⟨"TurnNet$Net", "listChannels", "()V"⟩, 12) := ⟨lw_nc1, lw_in1 (lw_nt_in (i := 29) rfl), lw_in3 (lw_nt_in (i := 105) rfl), lw_in3 (lw_nt_in (i := 106) rfl)⟩
theorem lw_p14 : lw_okq (⟨"TurnNet$Order", "countLinks", "(I)V"⟩, 5) := ⟨lw_nc2, lw_in1 (lw_nt_in (i := 158) rfl), lw_in3 (lw_nt_in (i := 125) rfl), lw_in3 (lw_nt_in (i := 126) rfl)⟩
theorem lw_p15 : lw_okq (⟨"TurnNet$Order", "evaluate", "(I)I"⟩, 5) := ⟨lw_nc2, lw_in1 (lw_nt_in (i := 158) rfl), lw_in3 (lw_nt_in (i := 138) rfl), lw_in3 (lw_nt_in (i := 139) rfl)⟩
def lw_privs_1 : List (MethodName × Nat) := [(⟨"TurnNet$Reader", "advance", "()V"⟩, 12), (⟨"TurnNet$Reader", "readSwitches", "()Z"⟩, 12), (⟨"TurnNet$Reader", "isWord", "(Ljava/lang/String;)Z"⟩, 12), (⟨"TurnNet$Reader", "fail", "(I)Z"⟩, 12), (⟨"TurnNet$Reader", "readNumber", "(II)Z"⟩, 12), (⟨"TurnNet$Reader", "closeLine", "()Z"⟩, 12), (⟨"TurnNet$Reader", "readSign", "(I)Z"⟩, 12), (⟨"TurnNet$Reader", "readLine", "()Z"⟩, 12), (⟨"TurnNet$Reader", "readLink", "()Z"⟩, 12), (⟨"TurnNet$Reader", "readSum", "(I)Z"⟩, 12), (⟨"TurnNet$Reader", "readProduct", "(I)Z"⟩, 12), (⟨"TurnNet$Reader", "readUnit", "(I)Z"⟩, 12), (⟨"TurnNet$Reader", "unitKind", "()I"⟩, 12), (⟨"TurnNet$Net", "listChannels", "()V"⟩, 12), (⟨"TurnNet$Order", "countLinks", "(I)V"⟩, 5), (⟨"TurnNet$Order", "evaluate", "(I)I"⟩, 5)]
theorem lw_r1 : ∀ q ∈ lw_privs_1, lw_okq q := List.forall_mem_cons.mpr ⟨lw_p0, List.forall_mem_cons.mpr ⟨lw_p1, List.forall_mem_cons.mpr ⟨lw_p2, List.forall_mem_cons.mpr ⟨lw_p3, List.forall_mem_cons.mpr ⟨lw_p4, List.forall_mem_cons.mpr ⟨lw_p5, List.forall_mem_cons.mpr ⟨lw_p6, List.forall_mem_cons.mpr ⟨lw_p7, List.forall_mem_cons.mpr ⟨lw_p8, List.forall_mem_cons.mpr ⟨lw_p9, List.forall_mem_cons.mpr ⟨lw_p10, List.forall_mem_cons.mpr ⟨lw_p11, List.forall_mem_cons.mpr ⟨lw_p12, List.forall_mem_cons.mpr ⟨lw_p13, List.forall_mem_cons.mpr ⟨lw_p14, List.forall_mem_cons.mpr ⟨lw_p15, fun _ h => absurd h List.not_mem_nil⟩⟩⟩⟩⟩⟩⟩⟩⟩⟩⟩⟩⟩⟩⟩⟩
theorem lw_p16 : lw_okq (⟨"TurnNet$Order", "leaf", "(III)I"⟩, 5) := ⟨lw_nc2, lw_in1 (lw_nt_in (i := 158) rfl), lw_in3 (lw_nt_in (i := 142) rfl), lw_in3 (lw_nt_in (i := 143) rfl)⟩
theorem lw_p17 : lw_okq (⟨"TurnNet$Order", "isAbove", "(II)Z"⟩, 5) := ⟨lw_nc2, lw_in1 (lw_nt_in (i := 158) rfl), lw_in3 (lw_nt_in (i := 153) rfl), lw_in3 (lw_nt_in (i := 154) rfl)⟩
theorem lw_p18 : lw_okq (⟨"TurnNet$History", "slotOf", "(I)I"⟩, 4) := ⟨lw_nc3, lw_in2 (lw_nt_in (i := 68) rfl), lw_in3 (lw_nt_in (i := 181) rfl), lw_in3 (lw_nt_in (i := 182) rfl)⟩
theorem lw_p19 : lw_okq (⟨"TurnNet", "upEndsBy", "(I)I"⟩, 14) := ⟨lw_nc4, lw_in1 (lw_nt_in (i := 21) rfl), lw_in3 (lw_nt_in (i := 213) rfl), lw_in3 (lw_nt_in (i := 214) rfl)⟩
theorem lw_p20 : lw_okq (⟨"TurnNet", "planFor", "(I)V"⟩, 14) := ⟨lw_nc4, lw_in1 (lw_nt_in (i := 21) rfl), lw_in3 (lw_nt_in (i := 221) rfl), lw_in3 (lw_nt_in (i := 222) rfl)⟩
theorem lw_p21 : lw_okq (⟨"TurnNet$Planner", "takeLinks", "(III)I"⟩, 5) := ⟨lw_nc5, lw_in2 (lw_nt_in (i := 26) rfl), lw_in3 (lw_nt_in (i := 230) rfl), lw_in3 (lw_nt_in (i := 231) rfl)⟩
theorem lw_p22 : lw_okq (⟨"TurnNet$Turns", "upChannels", "(I)J"⟩, 3) := ⟨lw_nc6, lw_in2 (lw_nt_in (i := 10) rfl), lw_in3 (lw_nt_in (i := 239) rfl), lw_in4 (lw_nt_in (i := 0) rfl)⟩
theorem lw_p23 : lw_okq (⟨"TurnNet$Turns", "lawful", "(IJ)J"⟩, 3) := ⟨lw_nc6, lw_in2 (lw_nt_in (i := 10) rfl), lw_in4 (lw_nt_in (i := 6) rfl), lw_in4 (lw_nt_in (i := 7) rfl)⟩
theorem lw_p24 : lw_okq (⟨"TurnNet", "goSteps", "(LTurnNet$State;I)I"⟩, 14) := ⟨lw_nc4, lw_in1 (lw_nt_in (i := 21) rfl), lw_in4 (lw_nt_in (i := 19) rfl), lw_in4 (lw_nt_in (i := 20) rfl)⟩
theorem lw_p25 : lw_okq (⟨"TurnNet$Routes", "measure", "(I)V"⟩, 12) := ⟨lw_nc7, lw_in1 (lw_nt_in (i := 183) rfl), lw_in4 (lw_nt_in (i := 33) rfl), lw_in4 (lw_nt_in (i := 34) rfl)⟩
theorem lw_p26 : lw_okq (⟨"TurnNet$Routes", "growLevel", "(II)Z"⟩, 12) := ⟨lw_nc7, lw_in1 (lw_nt_in (i := 183) rfl), lw_in4 (lw_nt_in (i := 37) rfl), lw_in4 (lw_nt_in (i := 38) rfl)⟩
theorem lw_p27 : lw_okq (⟨"TurnNet$Routes", "stands", "(I)Z"⟩, 12) := ⟨lw_nc7, lw_in1 (lw_nt_in (i := 183) rfl), lw_in4 (lw_nt_in (i := 41) rfl), lw_in4 (lw_nt_in (i := 42) rfl)⟩
theorem lw_p28 : lw_okq (⟨"TurnNet$Routes", "reach", "(III)Z"⟩, 12) := ⟨lw_nc7, lw_in1 (lw_nt_in (i := 183) rfl), lw_in4 (lw_nt_in (i := 45) rfl), lw_in4 (lw_nt_in (i := 46) rfl)⟩
theorem lw_p29 : lw_okq (⟨"TurnNet$Routes", "fillTable", "()V"⟩, 12) := ⟨lw_nc7, lw_in1 (lw_nt_in (i := 183) rfl), lw_in4 (lw_nt_in (i := 49) rfl), lw_in4 (lw_nt_in (i := 50) rfl)⟩
theorem lw_p30 : lw_okq (⟨"TurnNet$Routes", "leastUsed", "(III)I"⟩, 12) := ⟨lw_nc7, lw_in1 (lw_nt_in (i := 183) rfl), lw_in4 (lw_nt_in (i := 53) rfl), lw_in4 (lw_nt_in (i := 54) rfl)⟩
theorem lw_p31 : lw_okq (⟨"TurnNet$Routes", "leadsOn", "(III)Z"⟩, 12) := ⟨lw_nc7, lw_in1 (lw_nt_in (i := 183) rfl), lw_in4 (lw_nt_in (i := 57) rfl), lw_in4 (lw_nt_in (i := 58) rfl)⟩
def lw_privs_2 : List (MethodName × Nat) := [(⟨"TurnNet$Order", "leaf", "(III)I"⟩, 5), (⟨"TurnNet$Order", "isAbove", "(II)Z"⟩, 5), (⟨"TurnNet$History", "slotOf", "(I)I"⟩, 4), (⟨"TurnNet", "upEndsBy", "(I)I"⟩, 14), (⟨"TurnNet", "planFor", "(I)V"⟩, 14), (⟨"TurnNet$Planner", "takeLinks", "(III)I"⟩, 5), (⟨"TurnNet$Turns", "upChannels", "(I)J"⟩, 3), (⟨"TurnNet$Turns", "lawful", "(IJ)J"⟩, 3), (⟨"TurnNet", "goSteps", "(LTurnNet$State;I)I"⟩, 14), (⟨"TurnNet$Routes", "measure", "(I)V"⟩, 12), (⟨"TurnNet$Routes", "growLevel", "(II)Z"⟩, 12), (⟨"TurnNet$Routes", "stands", "(I)Z"⟩, 12), (⟨"TurnNet$Routes", "reach", "(III)Z"⟩, 12), (⟨"TurnNet$Routes", "fillTable", "()V"⟩, 12), (⟨"TurnNet$Routes", "leastUsed", "(III)I"⟩, 12), (⟨"TurnNet$Routes", "leadsOn", "(III)Z"⟩, 12)]
theorem lw_r2 : ∀ q ∈ lw_privs_2, lw_okq q := List.forall_mem_cons.mpr ⟨lw_p16, List.forall_mem_cons.mpr ⟨lw_p17, List.forall_mem_cons.mpr ⟨lw_p18, List.forall_mem_cons.mpr ⟨lw_p19, List.forall_mem_cons.mpr ⟨lw_p20, List.forall_mem_cons.mpr ⟨lw_p21, List.forall_mem_cons.mpr ⟨lw_p22, List.forall_mem_cons.mpr ⟨lw_p23, List.forall_mem_cons.mpr ⟨lw_p24, List.forall_mem_cons.mpr ⟨lw_p25, List.forall_mem_cons.mpr ⟨lw_p26, List.forall_mem_cons.mpr ⟨lw_p27, List.forall_mem_cons.mpr ⟨lw_p28, List.forall_mem_cons.mpr ⟨lw_p29, List.forall_mem_cons.mpr ⟨lw_p30, List.forall_mem_cons.mpr ⟨lw_p31, fun _ h => absurd h List.not_mem_nil⟩⟩⟩⟩⟩⟩⟩⟩⟩⟩⟩⟩⟩⟩⟩⟩
theorem lw_p32 : lw_okq (⟨"TurnNet$Routes", "placeBehind", "(I)I"⟩, 12) := ⟨lw_nc7, lw_in1 (lw_nt_in (i := 183) rfl), lw_in4 (lw_nt_in (i := 61) rfl), lw_in4 (lw_nt_in (i := 62) rfl)⟩
theorem lw_p33 : lw_okq (⟨"TurnNet$Routes", "countLoads", "()V"⟩, 12) := ⟨lw_nc7, lw_in1 (lw_nt_in (i := 183) rfl), lw_in4 (lw_nt_in (i := 65) rfl), lw_in4 (lw_nt_in (i := 66) rfl)⟩
theorem lw_p34 : lw_okq (⟨"TurnNet$Routes", "countPath", "(II)V"⟩, 12) := ⟨lw_nc7, lw_in1 (lw_nt_in (i := 183) rfl), lw_in4 (lw_nt_in (i := 69) rfl), lw_in4 (lw_nt_in (i := 70) rfl)⟩
theorem lw_p35 : lw_okq (⟨"TurnNet$Routes", "entryBehind", "(II)I"⟩, 12) := ⟨lw_nc7, lw_in1 (lw_nt_in (i := 183) rfl), lw_in4 (lw_nt_in (i := 77) rfl), lw_in4 (lw_nt_in (i := 78) rfl)⟩
theorem lw_p36 : lw_okq (⟨"TurnNet$Traffic", "goOn", "(LTurnNet$State;LTurnNet$Routes;I)V"⟩, 3) := ⟨lw_nc8, lw_in2 (lw_nt_in (i := 50) rfl), lw_in4 (lw_nt_in (i := 93) rfl), lw_in4 (lw_nt_in (i := 94) rfl)⟩
theorem lw_p37 : lw_okq (⟨"TurnNet$History", "exchange", "(ILTurnNet$State;)LTurnNet$State;"⟩, 4) := ⟨lw_nc3, lw_in2 (lw_nt_in (i := 68) rfl), lw_in4 (lw_nt_in (i := 132) rfl), lw_in4 (lw_nt_in (i := 133) rfl)⟩
theorem lw_p38 : lw_okq (⟨"TurnNet$Routes", "countOnward", "(I)V"⟩, 12) := ⟨lw_nc7, lw_in1 (lw_nt_in (i := 183) rfl), lw_in4 (lw_nt_in (i := 191) rfl), lw_in4 (lw_nt_in (i := 192) rfl)⟩
theorem lw_p39 : lw_okq (⟨"TurnNet$Routes", "addOnward", "(II)V"⟩, 12) := ⟨lw_nc7, lw_in1 (lw_nt_in (i := 183) rfl), lw_in4 (lw_nt_in (i := 195) rfl), lw_in4 (lw_nt_in (i := 196) rfl)⟩
theorem lw_p40 : lw_okq (⟨"TurnNet$Routes", "countArriving", "(II)V"⟩, 12) := ⟨lw_nc7, lw_in1 (lw_nt_in (i := 183) rfl), lw_in4 (lw_nt_in (i := 211) rfl), lw_in4 (lw_nt_in (i := 212) rfl)⟩
theorem lw_p41 : lw_okq (⟨"TurnNet$Routes", "passArriving", "(II)V"⟩, 12) := ⟨lw_nc7, lw_in1 (lw_nt_in (i := 183) rfl), lw_in4 (lw_nt_in (i := 215) rfl), lw_in4 (lw_nt_in (i := 216) rfl)⟩
theorem lw_p42 : lw_okq (⟨"TurnNet", "hopsWhereWays", "()I"⟩, 14) := ⟨lw_nc4, lw_in1 (lw_nt_in (i := 21) rfl), lw_in5 (lw_nt_in (i := 20) rfl), lw_in5 (lw_nt_in (i := 21) rfl)⟩
theorem lw_p43 : lw_okq (⟨"TurnNet$Turns", "ontoFrom", "(J)J"⟩, 3) := ⟨lw_nc6, lw_in2 (lw_nt_in (i := 10) rfl), lw_in5 (lw_nt_in (i := 47) rfl), lw_in5 (lw_nt_in (i := 48) rfl)⟩
theorem lw_p44 : lw_okq (⟨"TurnNet", "worthOf", "(II)I"⟩, 14) := ⟨lw_nc4, lw_in1 (lw_nt_in (i := 21) rfl), lw_in5 (lw_nt_in (i := 71) rfl), lw_in5 (lw_nt_in (i := 72) rfl)⟩
theorem lw_p45 : lw_okq (⟨"TurnNet", "pairsWithoutWay", "(II)I"⟩, 14) := ⟨lw_nc4, lw_in1 (lw_nt_in (i := 21) rfl), lw_in5 (lw_nt_in (i := 75) rfl), lw_in5 (lw_nt_in (i := 76) rfl)⟩
theorem lw_p46 : lw_okq (⟨"TurnNet$Graph", "findRow", "(III)Z"⟩, 5) := ⟨lw_nc9, lw_in1 (lw_nt_in (i := 228) rfl), lw_in5 (lw_nt_in (i := 99) rfl), lw_in5 (lw_nt_in (i := 100) rfl)⟩
theorem lw_p47 : lw_okq (⟨"TurnNet$Graph", "hasSpace", "(II)Z"⟩, 5) := ⟨lw_nc9, lw_in1 (lw_nt_in (i := 228) rfl), lw_in5 (lw_nt_in (i := 103) rfl), lw_in5 (lw_nt_in (i := 104) rfl)⟩
def lw_privs_3 : List (MethodName × Nat) := [(⟨"TurnNet$Routes", "placeBehind", "(I)I"⟩, 12), (⟨"TurnNet$Routes", "countLoads", "()V"⟩, 12), (⟨"TurnNet$Routes", "countPath", "(II)V"⟩, 12), (⟨"TurnNet$Routes", "entryBehind", "(II)I"⟩, 12), (⟨"TurnNet$Traffic", "goOn", "(LTurnNet$State;LTurnNet$Routes;I)V"⟩, 3), (⟨"TurnNet$History", "exchange", "(ILTurnNet$State;)LTurnNet$State;"⟩, 4), (⟨"TurnNet$Routes", "countOnward", "(I)V"⟩, 12), (⟨"TurnNet$Routes", "addOnward", "(II)V"⟩, 12), (⟨"TurnNet$Routes", "countArriving", "(II)V"⟩, 12), (⟨"TurnNet$Routes", "passArriving", "(II)V"⟩, 12), (⟨"TurnNet", "hopsWhereWays", "()I"⟩, 14), (⟨"TurnNet$Turns", "ontoFrom", "(J)J"⟩, 3), (⟨"TurnNet", "worthOf", "(II)I"⟩, 14), (⟨"TurnNet", "pairsWithoutWay", "(II)I"⟩, 14), (⟨"TurnNet$Graph", "findRow", "(III)Z"⟩, 5), (⟨"TurnNet$Graph", "hasSpace", "(II)Z"⟩, 5)]
theorem lw_r3 : ∀ q ∈ lw_privs_3, lw_okq q := List.forall_mem_cons.mpr ⟨lw_p32, List.forall_mem_cons.mpr ⟨lw_p33, List.forall_mem_cons.mpr ⟨lw_p34, List.forall_mem_cons.mpr ⟨lw_p35, List.forall_mem_cons.mpr ⟨lw_p36, List.forall_mem_cons.mpr ⟨lw_p37, List.forall_mem_cons.mpr ⟨lw_p38, List.forall_mem_cons.mpr ⟨lw_p39, List.forall_mem_cons.mpr ⟨lw_p40, List.forall_mem_cons.mpr ⟨lw_p41, List.forall_mem_cons.mpr ⟨lw_p42, List.forall_mem_cons.mpr ⟨lw_p43, List.forall_mem_cons.mpr ⟨lw_p44, List.forall_mem_cons.mpr ⟨lw_p45, List.forall_mem_cons.mpr ⟨lw_p46, List.forall_mem_cons.mpr ⟨lw_p47, fun _ h => absurd h List.not_mem_nil⟩⟩⟩⟩⟩⟩⟩⟩⟩⟩⟩⟩⟩⟩⟩⟩
theorem lw_p48 : lw_okq (⟨"TurnNet$Graph", "useRow", "(II)V"⟩, 5) := ⟨lw_nc9, lw_in1 (lw_nt_in (i := 228) rfl), lw_in5 (lw_nt_in (i := 107) rfl), lw_in5 (lw_nt_in (i := 108) rfl)⟩
theorem lw_p49 : lw_okq (⟨"TurnNet$Graph", "parts", "(II)Z"⟩, 5) := ⟨lw_nc9, lw_in1 (lw_nt_in (i := 228) rfl), lw_in5 (lw_nt_in (i := 124) rfl), lw_in5 (lw_nt_in (i := 125) rfl)⟩
theorem lw_p50 : lw_okq (⟨"TurnNet", "runEmpty", "()I"⟩, 14) := ⟨lw_nc4, lw_in1 (lw_nt_in (i := 21) rfl), lw_in5 (lw_nt_in (i := 157) rfl), lw_in5 (lw_nt_in (i := 158) rfl)⟩
theorem lw_p51 : lw_okq (⟨"TurnNetModel", "clearBank", "(I)V"⟩, 58) := ⟨lw_nc10, lw_in5 (lw_nt_in (i := 177) rfl), lw_in5 (lw_nt_in (i := 183) rfl), lw_in5 (lw_nt_in (i := 184) rfl)⟩
theorem lw_p52 : lw_okq (⟨"TurnNetModel", "startAnew", "()V"⟩, 58) := ⟨lw_nc10, lw_in5 (lw_nt_in (i := 177) rfl), lw_in5 (lw_nt_in (i := 187) rfl), lw_in5 (lw_nt_in (i := 188) rfl)⟩
theorem lw_p53 : lw_okq (⟨"TurnNetModel", "orientBy", "(I)V"⟩, 58) := ⟨lw_nc10, lw_in5 (lw_nt_in (i := 177) rfl), lw_in5 (lw_nt_in (i := 191) rfl), lw_in5 (lw_nt_in (i := 192) rfl)⟩
theorem lw_p54 : lw_okq (⟨"TurnNetModel", "layRanks", "(I)V"⟩, 58) := ⟨lw_nc10, lw_in5 (lw_nt_in (i := 177) rfl), lw_in5 (lw_nt_in (i := 195) rfl), lw_in5 (lw_nt_in (i := 196) rfl)⟩
theorem lw_p55 : lw_okq (⟨"TurnNetModel", "layFar", "(II)V"⟩, 58) := ⟨lw_nc10, lw_in5 (lw_nt_in (i := 177) rfl), lw_in5 (lw_nt_in (i := 199) rfl), lw_in5 (lw_nt_in (i := 200) rfl)⟩
theorem lw_p56 : lw_okq (⟨"TurnNetModel", "isNode", "(I)Z"⟩, 58) := ⟨lw_nc10, lw_in5 (lw_nt_in (i := 177) rfl), lw_in5 (lw_nt_in (i := 203) rfl), lw_in5 (lw_nt_in (i := 204) rfl)⟩
theorem lw_p57 : lw_okq (⟨"TurnNetModel", "nodesNow", "()I"⟩, 58) := ⟨lw_nc10, lw_in5 (lw_nt_in (i := 177) rfl), lw_in5 (lw_nt_in (i := 207) rfl), lw_in5 (lw_nt_in (i := 208) rfl)⟩
theorem lw_p58 : lw_okq (⟨"TurnNetModel", "linksNow", "()I"⟩, 58) := ⟨lw_nc10, lw_in5 (lw_nt_in (i := 177) rfl), lw_in5 (lw_nt_in (i := 214) rfl), lw_in5 (lw_nt_in (i := 215) rfl)⟩
theorem lw_p59 : lw_okq (⟨"TurnNetModel", "endOf", "(II)I"⟩, 58) := ⟨lw_nc10, lw_in5 (lw_nt_in (i := 177) rfl), lw_in5 (lw_nt_in (i := 218) rfl), lw_in5 (lw_nt_in (i := 219) rfl)⟩
theorem lw_p60 : lw_okq (⟨"TurnNetModel", "stands", "(I)Z"⟩, 58) := ⟨lw_nc10, lw_in5 (lw_nt_in (i := 177) rfl), lw_in5 (lw_nt_in (i := 225) rfl), lw_in5 (lw_nt_in (i := 226) rfl)⟩
theorem lw_p61 : lw_okq (⟨"TurnNetModel", "rankOf", "(I)I"⟩, 58) := ⟨lw_nc10, lw_in5 (lw_nt_in (i := 177) rfl), lw_in5 (lw_nt_in (i := 229) rfl), lw_in5 (lw_nt_in (i := 230) rfl)⟩
theorem lw_p62 : lw_okq (⟨"TurnNetModel", "work", "(III)I"⟩, 58) := ⟨lw_nc10, lw_in5 (lw_nt_in (i := 177) rfl), lw_in5 (lw_nt_in (i := 233) rfl), lw_in5 (lw_nt_in (i := 234) rfl)⟩
theorem lw_p63 : lw_okq (⟨"TurnNetModel", "linksOf", "(I)I"⟩, 58) := ⟨lw_nc10, lw_in5 (lw_nt_in (i := 177) rfl), lw_in5 (lw_nt_in (i := 237) rfl), lw_in5 (lw_nt_in (i := 238) rfl)⟩
def lw_privs_4 : List (MethodName × Nat) := [(⟨"TurnNet$Graph", "useRow", "(II)V"⟩, 5), (⟨"TurnNet$Graph", "parts", "(II)Z"⟩, 5), (⟨"TurnNet", "runEmpty", "()I"⟩, 14), (⟨"TurnNetModel", "clearBank", "(I)V"⟩, 58), (⟨"TurnNetModel", "startAnew", "()V"⟩, 58), (⟨"TurnNetModel", "orientBy", "(I)V"⟩, 58), (⟨"TurnNetModel", "layRanks", "(I)V"⟩, 58), (⟨"TurnNetModel", "layFar", "(II)V"⟩, 58), (⟨"TurnNetModel", "isNode", "(I)Z"⟩, 58), (⟨"TurnNetModel", "nodesNow", "()I"⟩, 58), (⟨"TurnNetModel", "linksNow", "()I"⟩, 58), (⟨"TurnNetModel", "endOf", "(II)I"⟩, 58), (⟨"TurnNetModel", "stands", "(I)Z"⟩, 58), (⟨"TurnNetModel", "rankOf", "(I)I"⟩, 58), (⟨"TurnNetModel", "work", "(III)I"⟩, 58), (⟨"TurnNetModel", "linksOf", "(I)I"⟩, 58)]
theorem lw_r4 : ∀ q ∈ lw_privs_4, lw_okq q := List.forall_mem_cons.mpr ⟨lw_p48, List.forall_mem_cons.mpr ⟨lw_p49, List.forall_mem_cons.mpr ⟨lw_p50, List.forall_mem_cons.mpr ⟨lw_p51, List.forall_mem_cons.mpr ⟨lw_p52, List.forall_mem_cons.mpr ⟨lw_p53, List.forall_mem_cons.mpr ⟨lw_p54, List.forall_mem_cons.mpr ⟨lw_p55, List.forall_mem_cons.mpr ⟨lw_p56, List.forall_mem_cons.mpr ⟨lw_p57, List.forall_mem_cons.mpr ⟨lw_p58, List.forall_mem_cons.mpr ⟨lw_p59, List.forall_mem_cons.mpr ⟨lw_p60, List.forall_mem_cons.mpr ⟨lw_p61, List.forall_mem_cons.mpr ⟨lw_p62, List.forall_mem_cons.mpr ⟨lw_p63, fun _ h => absurd h List.not_mem_nil⟩⟩⟩⟩⟩⟩⟩⟩⟩⟩⟩⟩⟩⟩⟩⟩
theorem lw_p64 : lw_okq (⟨"TurnNetModel", "isAbove", "(II)Z"⟩, 58) := ⟨lw_nc10, lw_in5 (lw_nt_in (i := 177) rfl), lw_in6 (lw_nt_in (i := 1) rfl), lw_in6 (lw_nt_in (i := 2) rfl)⟩
theorem lw_p65 : lw_okq (⟨"TurnNetModel", "readAll", "(I)V"⟩, 58) := ⟨lw_nc10, lw_in5 (lw_nt_in (i := 177) rfl), lw_in6 (lw_nt_in (i := 192) rfl), lw_in6 (lw_nt_in (i := 193) rfl)⟩
theorem lw_p66 : lw_okq (⟨"TurnNetModel", "scan", "()V"⟩, 58) := ⟨lw_nc10, lw_in5 (lw_nt_in (i := 177) rfl), lw_in6 (lw_nt_in (i := 196) rfl), lw_in6 (lw_nt_in (i := 197) rfl)⟩
theorem lw_p67 : lw_okq (⟨"TurnNetModel", "isBlank", "(I)Z"⟩, 58) := ⟨lw_nc10, lw_in5 (lw_nt_in (i := 177) rfl), lw_in6 (lw_nt_in (i := 200) rfl), lw_in6 (lw_nt_in (i := 201) rfl)⟩
theorem lw_p68 : lw_okq (⟨"TurnNetModel", "signAt", "(I)I"⟩, 58) := ⟨lw_nc10, lw_in5 (lw_nt_in (i := 177) rfl), lw_in6 (lw_nt_in (i := 204) rfl), lw_in6 (lw_nt_in (i := 205) rfl)⟩
theorem lw_p69 : lw_okq (⟨"TurnNetModel", "scanWord", "()V"⟩, 58) := ⟨lw_nc10, lw_in5 (lw_nt_in (i := 177) rfl), lw_in6 (lw_nt_in (i := 211) rfl), lw_in6 (lw_nt_in (i := 212) rfl)⟩
theorem lw_p70 : lw_okq (⟨"TurnNetModel", "isSame", "(II)Z"⟩, 58) := ⟨lw_nc10, lw_in5 (lw_nt_in (i := 177) rfl), lw_in6 (lw_nt_in (i := 215) rfl), lw_in6 (lw_nt_in (i := 216) rfl)⟩
theorem lw_p71 : lw_okq (⟨"TurnNetModel", "scanNumber", "()V"⟩, 58) := ⟨lw_nc10, lw_in5 (lw_nt_in (i := 177) rfl), lw_in6 (lw_nt_in (i := 222) rfl), lw_in6 (lw_nt_in (i := 223) rfl)⟩
theorem lw_p72 : lw_okq (⟨"TurnNetModel", "isWord", "(I)Z"⟩, 58) := ⟨lw_nc10, lw_in5 (lw_nt_in (i := 177) rfl), lw_in6 (lw_nt_in (i := 229) rfl), lw_in6 (lw_nt_in (i := 230) rfl)⟩
theorem lw_p73 : lw_okq (⟨"TurnNetModel", "fail", "(I)V"⟩, 58) := ⟨lw_nc10, lw_in5 (lw_nt_in (i := 177) rfl), lw_in6 (lw_nt_in (i := 233) rfl), lw_in6 (lw_nt_in (i := 234) rfl)⟩
theorem lw_p74 : lw_okq (⟨"TurnNetModel", "numeral", "(II)I"⟩, 58) := ⟨lw_nc10, lw_in5 (lw_nt_in (i := 177) rfl), lw_in6 (lw_nt_in (i := 237) rfl), lw_in6 (lw_nt_in (i := 238) rfl)⟩
theorem lw_p75 : lw_okq (⟨"TurnNetModel", "need", "(I)V"⟩, 58) := ⟨lw_nc10, lw_in5 (lw_nt_in (i := 177) rfl), lw_in7 (lw_nt_in (i := 1) rfl), lw_in7 (lw_nt_in (i := 2) rfl)⟩
theorem lw_p76 : lw_okq (⟨"TurnNetModel", "isAt", "(I)Z"⟩, 58) := ⟨lw_nc10, lw_in5 (lw_nt_in (i := 177) rfl), lw_in7 (lw_nt_in (i := 5) rfl), lw_in7 (lw_nt_in (i := 6) rfl)⟩
theorem lw_p77 : lw_okq (⟨"TurnNetModel", "readLine", "(I)V"⟩, 58) := ⟨lw_nc10, lw_in5 (lw_nt_in (i := 177) rfl), lw_in7 (lw_nt_in (i := 9) rfl), lw_in7 (lw_nt_in (i := 10) rfl)⟩
theorem lw_p78 : lw_okq (⟨"TurnNetModel", "readLink", "(I)V"⟩, 58) := ⟨lw_nc10, lw_in5 (lw_nt_in (i := 177) rfl), lw_in7 (lw_nt_in (i := 13) rfl), lw_in7 (lw_nt_in (i := 14) rfl)⟩
theorem lw_p79 : lw_okq (⟨"TurnNetModel", "isJoined", "(III)Z"⟩, 58) := ⟨lw_nc10, lw_in5 (lw_nt_in (i := 177) rfl), lw_in7 (lw_nt_in (i := 17) rfl), lw_in7 (lw_nt_in (i := 18) rfl)⟩
def lw_privs_5 : List (MethodName × Nat) := [(⟨"TurnNetModel", "isAbove", "(II)Z"⟩, 58), (⟨"TurnNetModel", "readAll", "(I)V"⟩, 58), (⟨"TurnNetModel", "scan", "()V"⟩, 58), (⟨"TurnNetModel", "isBlank", "(I)Z"⟩, 58), (⟨"TurnNetModel", "signAt", "(I)I"⟩, 58), (⟨"TurnNetModel", "scanWord", "()V"⟩, 58), (⟨"TurnNetModel", "isSame", "(II)Z"⟩, 58), (⟨"TurnNetModel", "scanNumber", "()V"⟩, 58), (⟨"TurnNetModel", "isWord", "(I)Z"⟩, 58), (⟨"TurnNetModel", "fail", "(I)V"⟩, 58), (⟨"TurnNetModel", "numeral", "(II)I"⟩, 58), (⟨"TurnNetModel", "need", "(I)V"⟩, 58), (⟨"TurnNetModel", "isAt", "(I)Z"⟩, 58), (⟨"TurnNetModel", "readLine", "(I)V"⟩, 58), (⟨"TurnNetModel", "readLink", "(I)V"⟩, 58), (⟨"TurnNetModel", "isJoined", "(III)Z"⟩, 58)]
theorem lw_r5 : ∀ q ∈ lw_privs_5, lw_okq q := List.forall_mem_cons.mpr ⟨lw_p64, List.forall_mem_cons.mpr ⟨lw_p65, List.forall_mem_cons.mpr ⟨lw_p66, List.forall_mem_cons.mpr ⟨lw_p67, List.forall_mem_cons.mpr ⟨lw_p68, List.forall_mem_cons.mpr ⟨lw_p69, List.forall_mem_cons.mpr ⟨lw_p70, List.forall_mem_cons.mpr ⟨lw_p71, List.forall_mem_cons.mpr ⟨lw_p72, List.forall_mem_cons.mpr ⟨lw_p73, List.forall_mem_cons.mpr ⟨lw_p74, List.forall_mem_cons.mpr ⟨lw_p75, List.forall_mem_cons.mpr ⟨lw_p76, List.forall_mem_cons.mpr ⟨lw_p77, List.forall_mem_cons.mpr ⟨lw_p78, List.forall_mem_cons.mpr ⟨lw_p79, fun _ h => absurd h List.not_mem_nil⟩⟩⟩⟩⟩⟩⟩⟩⟩⟩⟩⟩⟩⟩⟩⟩
theorem lw_p80 : lw_okq (⟨"TurnNetModel", "readRule", "(I)V"⟩, 58) := ⟨lw_nc10, lw_in5 (lw_nt_in (i := 177) rfl), lw_in7 (lw_nt_in (i := 21) rfl), lw_in7 (lw_nt_in (i := 22) rfl)⟩
theorem lw_p81 : lw_okq (⟨"TurnNetModel", "readUnit", "(I)Z"⟩, 58) := ⟨lw_nc10, lw_in5 (lw_nt_in (i := 177) rfl), lw_in7 (lw_nt_in (i := 25) rfl), lw_in7 (lw_nt_in (i := 26) rfl)⟩
theorem lw_p82 : lw_okq (⟨"TurnNetModel", "push", "(I)V"⟩, 58) := ⟨lw_nc10, lw_in5 (lw_nt_in (i := 177) rfl), lw_in7 (lw_nt_in (i := 29) rfl), lw_in7 (lw_nt_in (i := 30) rfl)⟩
theorem lw_p83 : lw_okq (⟨"TurnNetModel", "lay", "(II)V"⟩, 58) := ⟨lw_nc10, lw_in5 (lw_nt_in (i := 177) rfl), lw_in7 (lw_nt_in (i := 33) rfl), lw_in7 (lw_nt_in (i := 34) rfl)⟩
theorem lw_p84 : lw_okq (⟨"TurnNetModel", "closeMinus", "(I)V"⟩, 58) := ⟨lw_nc10, lw_in5 (lw_nt_in (i := 177) rfl), lw_in7 (lw_nt_in (i := 37) rfl), lw_in7 (lw_nt_in (i := 38) rfl)⟩
theorem lw_p85 : lw_okq (⟨"TurnNetModel", "layOpen", "(I)V"⟩, 58) := ⟨lw_nc10, lw_in5 (lw_nt_in (i := 177) rfl), lw_in7 (lw_nt_in (i := 41) rfl), lw_in7 (lw_nt_in (i := 42) rfl)⟩
theorem lw_p86 : lw_okq (⟨"TurnNetModel", "closeOne", "(I)V"⟩, 58) := ⟨lw_nc10, lw_in5 (lw_nt_in (i := 177) rfl), lw_in7 (lw_nt_in (i := 45) rfl), lw_in7 (lw_nt_in (i := 46) rfl)⟩
theorem lw_p87 : lw_okq (⟨"TurnNetModel", "binary", "()I"⟩, 58) := ⟨lw_nc10, lw_in5 (lw_nt_in (i := 177) rfl), lw_in7 (lw_nt_in (i := 49) rfl), lw_in7 (lw_nt_in (i := 50) rfl)⟩
theorem lw_p88 : lw_okq (⟨"TurnNetModel", "readBinary", "(I)Z"⟩, 58) := ⟨lw_nc10, lw_in5 (lw_nt_in (i := 177) rfl), lw_in7 (lw_nt_in (i := 53) rfl), lw_in7 (lw_nt_in (i := 54) rfl)⟩
theorem lw_p89 : lw_okq (⟨"TurnNetModel", "isChannel", "(I)Z"⟩, 58) := ⟨lw_nc10, lw_in5 (lw_nt_in (i := 177) rfl), lw_in7 (lw_nt_in (i := 68) rfl), lw_in7 (lw_nt_in (i := 69) rfl)⟩
theorem lw_p90 : lw_okq (⟨"TurnNetModel", "isLawful", "(II)Z"⟩, 58) := ⟨lw_nc10, lw_in5 (lw_nt_in (i := 177) rfl), lw_in7 (lw_nt_in (i := 72) rfl), lw_in7 (lw_nt_in (i := 73) rfl)⟩
theorem lw_p91 : lw_okq (⟨"TurnNetModel", "isTurn", "(IIII)Z"⟩, 58) := ⟨lw_nc10, lw_in5 (lw_nt_in (i := 177) rfl), lw_in7 (lw_nt_in (i := 76) rfl), lw_in7 (lw_nt_in (i := 77) rfl)⟩
theorem lw_p92 : lw_okq (⟨"TurnNetModel", "toOf", "(I)I"⟩, 58) := ⟨lw_nc10, lw_in5 (lw_nt_in (i := 177) rfl), lw_in7 (lw_nt_in (i := 80) rfl), lw_in7 (lw_nt_in (i := 81) rfl)⟩
theorem lw_p93 : lw_okq (⟨"TurnNetModel", "fromOf", "(I)I"⟩, 58) := ⟨lw_nc10, lw_in5 (lw_nt_in (i := 177) rfl), lw_in7 (lw_nt_in (i := 84) rfl), lw_in7 (lw_nt_in (i := 85) rfl)⟩
theorem lw_p94 : lw_okq (⟨"TurnNetModel", "isUpBy", "(II)Z"⟩, 58) := ⟨lw_nc10, lw_in5 (lw_nt_in (i := 177) rfl), lw_in7 (lw_nt_in (i := 88) rfl), lw_in7 (lw_nt_in (i := 89) rfl)⟩
theorem lw_p95 : lw_okq (⟨"TurnNetModel", "layTurns", "()V"⟩, 58) := ⟨lw_nc10, lw_in5 (lw_nt_in (i := 177) rfl), lw_in7 (lw_nt_in (i := 96) rfl), lw_in7 (lw_nt_in (i := 97) rfl)⟩
def lw_privs_6 : List (MethodName × Nat) := [(⟨"TurnNetModel", "readRule", "(I)V"⟩, 58), (⟨"TurnNetModel", "readUnit", "(I)Z"⟩, 58), (⟨"TurnNetModel", "push", "(I)V"⟩, 58), (⟨"TurnNetModel", "lay", "(II)V"⟩, 58), (⟨"TurnNetModel", "closeMinus", "(I)V"⟩, 58), (⟨"TurnNetModel", "layOpen", "(I)V"⟩, 58), (⟨"TurnNetModel", "closeOne", "(I)V"⟩, 58), (⟨"TurnNetModel", "binary", "()I"⟩, 58), (⟨"TurnNetModel", "readBinary", "(I)Z"⟩, 58), (⟨"TurnNetModel", "isChannel", "(I)Z"⟩, 58), (⟨"TurnNetModel", "isLawful", "(II)Z"⟩, 58), (⟨"TurnNetModel", "isTurn", "(IIII)Z"⟩, 58), (⟨"TurnNetModel", "toOf", "(I)I"⟩, 58), (⟨"TurnNetModel", "fromOf", "(I)I"⟩, 58), (⟨"TurnNetModel", "isUpBy", "(II)Z"⟩, 58), (⟨"TurnNetModel", "layTurns", "()V"⟩, 58)]
theorem lw_r6 : ∀ q ∈ lw_privs_6, lw_okq q := List.forall_mem_cons.mpr ⟨lw_p80, List.forall_mem_cons.mpr ⟨lw_p81, List.forall_mem_cons.mpr ⟨lw_p82, List.forall_mem_cons.mpr ⟨lw_p83, List.forall_mem_cons.mpr ⟨lw_p84, List.forall_mem_cons.mpr ⟨lw_p85, List.forall_mem_cons.mpr ⟨lw_p86, List.forall_mem_cons.mpr ⟨lw_p87, List.forall_mem_cons.mpr ⟨lw_p88, List.forall_mem_cons.mpr ⟨lw_p89, List.forall_mem_cons.mpr ⟨lw_p90, List.forall_mem_cons.mpr ⟨lw_p91, List.forall_mem_cons.mpr ⟨lw_p92, List.forall_mem_cons.mpr ⟨lw_p93, List.forall_mem_cons.mpr ⟨lw_p94, List.forall_mem_cons.mpr ⟨lw_p95, fun _ h => absurd h List.not_mem_nil⟩⟩⟩⟩⟩⟩⟩⟩⟩⟩⟩⟩⟩⟩⟩⟩
theorem lw_p96 : lw_okq (⟨"TurnNetModel", "channels", "()I"⟩, 58) := ⟨lw_nc10, lw_in5 (lw_nt_in (i := 177) rfl), lw_in7 (lw_nt_in (i := 100) rfl), lw_in7 (lw_nt_in (i := 101) rfl)⟩
theorem lw_p97 : lw_okq (⟨"TurnNetModel", "roundOf", "(I)I"⟩, 58) := ⟨lw_nc10, lw_in5 (lw_nt_in (i := 177) rfl), lw_in7 (lw_nt_in (i := 104) rfl), lw_in7 (lw_nt_in (i := 105) rfl)⟩
theorem lw_p98 : lw_okq (⟨"TurnNetModel", "layGoal", "(I)V"⟩, 58) := ⟨lw_nc10, lw_in5 (lw_nt_in (i := 177) rfl), lw_in7 (lw_nt_in (i := 117) rfl), lw_in7 (lw_nt_in (i := 118) rfl)⟩
theorem lw_p99 : lw_okq (⟨"TurnNetModel", "isOpen", "(II)Z"⟩, 58) := ⟨lw_nc10, lw_in5 (lw_nt_in (i := 177) rfl), lw_in7 (lw_nt_in (i := 125) rfl), lw_in7 (lw_nt_in (i := 126) rfl)⟩
theorem lw_p100 : lw_okq (⟨"TurnNetModel", "isUp", "(I)Z"⟩, 58) := ⟨lw_nc10, lw_in5 (lw_nt_in (i := 177) rfl), lw_in7 (lw_nt_in (i := 129) rfl), lw_in7 (lw_nt_in (i := 130) rfl)⟩
theorem lw_p101 : lw_okq (⟨"TurnNetModel", "lengthTo", "(II)I"⟩, 58) := ⟨lw_nc10, lw_in5 (lw_nt_in (i := 177) rfl), lw_in7 (lw_nt_in (i := 136) rfl), lw_in7 (lw_nt_in (i := 137) rfl)⟩
theorem lw_p102 : lw_okq (⟨"TurnNetModel", "layOnward", "(I)V"⟩, 58) := ⟨lw_nc10, lw_in5 (lw_nt_in (i := 177) rfl), lw_in7 (lw_nt_in (i := 148) rfl), lw_in7 (lw_nt_in (i := 149) rfl)⟩
theorem lw_p103 : lw_okq (⟨"TurnNetModel", "isNext", "(III)Z"⟩, 58) := ⟨lw_nc10, lw_in5 (lw_nt_in (i := 177) rfl), lw_in7 (lw_nt_in (i := 152) rfl), lw_in7 (lw_nt_in (i := 153) rfl)⟩
theorem lw_p104 : lw_okq (⟨"TurnNetModel", "layCome", "(II)V"⟩, 58) := ⟨lw_nc10, lw_in5 (lw_nt_in (i := 177) rfl), lw_in7 (lw_nt_in (i := 160) rfl), lw_in7 (lw_nt_in (i := 161) rfl)⟩
theorem lw_p105 : lw_okq (⟨"TurnNetModel", "layTable", "()V"⟩, 58) := ⟨lw_nc10, lw_in5 (lw_nt_in (i := 177) rfl), lw_in7 (lw_nt_in (i := 168) rfl), lw_in7 (lw_nt_in (i := 169) rfl)⟩
theorem lw_p106 : lw_okq (⟨"TurnNetModel", "layGoals", "()V"⟩, 58) := ⟨lw_nc10, lw_in5 (lw_nt_in (i := 177) rfl), lw_in7 (lw_nt_in (i := 172) rfl), lw_in7 (lw_nt_in (i := 173) rfl)⟩
theorem lw_p107 : lw_okq (⟨"TurnNetModel", "leastUsed", "(III)I"⟩, 58) := ⟨lw_nc10, lw_in5 (lw_nt_in (i := 177) rfl), lw_in7 (lw_nt_in (i := 176) rfl), lw_in7 (lw_nt_in (i := 177) rfl)⟩
theorem lw_p108 : lw_okq (⟨"TurnNetModel", "pathAt", "(III)I"⟩, 58) := ⟨lw_nc10, lw_in5 (lw_nt_in (i := 177) rfl), lw_in7 (lw_nt_in (i := 184) rfl), lw_in7 (lw_nt_in (i := 185) rfl)⟩
theorem lw_p109 : lw_okq (⟨"TurnNetModel", "layLoads", "()V"⟩, 58) := ⟨lw_nc10, lw_in5 (lw_nt_in (i := 177) rfl), lw_in7 (lw_nt_in (i := 192) rfl), lw_in7 (lw_nt_in (i := 193) rfl)⟩
theorem lw_p110 : lw_okq (⟨"TurnNetModel", "heaviestNow", "()I"⟩, 58) := ⟨lw_nc10, lw_in5 (lw_nt_in (i := 177) rfl), lw_in7 (lw_nt_in (i := 200) rfl), lw_in7 (lw_nt_in (i := 201) rfl)⟩
theorem lw_p111 : lw_okq (⟨"TurnNetModel", "layPairs", "()V"⟩, 58) := ⟨lw_nc10, lw_in5 (lw_nt_in (i := 177) rfl), lw_in7 (lw_nt_in (i := 208) rfl), lw_in7 (lw_nt_in (i := 209) rfl)⟩
def lw_privs_7 : List (MethodName × Nat) := [(⟨"TurnNetModel", "channels", "()I"⟩, 58), (⟨"TurnNetModel", "roundOf", "(I)I"⟩, 58), (⟨"TurnNetModel", "layGoal", "(I)V"⟩, 58), (⟨"TurnNetModel", "isOpen", "(II)Z"⟩, 58), (⟨"TurnNetModel", "isUp", "(I)Z"⟩, 58), (⟨"TurnNetModel", "lengthTo", "(II)I"⟩, 58), (⟨"TurnNetModel", "layOnward", "(I)V"⟩, 58), (⟨"TurnNetModel", "isNext", "(III)Z"⟩, 58), (⟨"TurnNetModel", "layCome", "(II)V"⟩, 58), (⟨"TurnNetModel", "layTable", "()V"⟩, 58), (⟨"TurnNetModel", "layGoals", "()V"⟩, 58), (⟨"TurnNetModel", "leastUsed", "(III)I"⟩, 58), (⟨"TurnNetModel", "pathAt", "(III)I"⟩, 58), (⟨"TurnNetModel", "layLoads", "()V"⟩, 58), (⟨"TurnNetModel", "heaviestNow", "()I"⟩, 58), (⟨"TurnNetModel", "layPairs", "()V"⟩, 58)]
theorem lw_r7 : ∀ q ∈ lw_privs_7, lw_okq q := List.forall_mem_cons.mpr ⟨lw_p96, List.forall_mem_cons.mpr ⟨lw_p97, List.forall_mem_cons.mpr ⟨lw_p98, List.forall_mem_cons.mpr ⟨lw_p99, List.forall_mem_cons.mpr ⟨lw_p100, List.forall_mem_cons.mpr ⟨lw_p101, List.forall_mem_cons.mpr ⟨lw_p102, List.forall_mem_cons.mpr ⟨lw_p103, List.forall_mem_cons.mpr ⟨lw_p104, List.forall_mem_cons.mpr ⟨lw_p105, List.forall_mem_cons.mpr ⟨lw_p106, List.forall_mem_cons.mpr ⟨lw_p107, List.forall_mem_cons.mpr ⟨lw_p108, List.forall_mem_cons.mpr ⟨lw_p109, List.forall_mem_cons.mpr ⟨lw_p110, List.forall_mem_cons.mpr ⟨lw_p111, fun _ h => absurd h List.not_mem_nil⟩⟩⟩⟩⟩⟩⟩⟩⟩⟩⟩⟩⟩⟩⟩⟩
theorem lw_p112 : lw_okq (⟨"TurnNetModel", "addPair", "(II)V"⟩, 58) := ⟨lw_nc10, lw_in5 (lw_nt_in (i := 177) rfl), lw_in7 (lw_nt_in (i := 212) rfl), lw_in7 (lw_nt_in (i := 213) rfl)⟩
theorem lw_p113 : lw_okq (⟨"TurnNetModel", "rootedBy", "(II)I"⟩, 58) := ⟨lw_nc10, lw_in5 (lw_nt_in (i := 177) rfl), lw_in7 (lw_nt_in (i := 220) rfl), lw_in7 (lw_nt_in (i := 221) rfl)⟩
theorem lw_p114 : lw_okq (⟨"TurnNetModel", "putAside", "()V"⟩, 58) := ⟨lw_nc10, lw_in5 (lw_nt_in (i := 177) rfl), lw_in7 (lw_nt_in (i := 224) rfl), lw_in7 (lw_nt_in (i := 225) rfl)⟩
theorem lw_p115 : lw_okq (⟨"TurnNetModel", "takeOver", "()V"⟩, 58) := ⟨lw_nc10, lw_in5 (lw_nt_in (i := 177) rfl), lw_in7 (lw_nt_in (i := 228) rfl), lw_in7 (lw_nt_in (i := 229) rfl)⟩
theorem lw_p116 : lw_okq (⟨"TurnNetModel", "bringBack", "()V"⟩, 58) := ⟨lw_nc10, lw_in5 (lw_nt_in (i := 177) rfl), lw_in7 (lw_nt_in (i := 232) rfl), lw_in7 (lw_nt_in (i := 233) rfl)⟩
theorem lw_p117 : lw_okq (⟨"TurnNetModel", "isStanding", "(I)Z"⟩, 58) := ⟨lw_nc10, lw_in5 (lw_nt_in (i := 177) rfl), lw_in8 (lw_nt_in (i := 4) rfl), lw_in8 (lw_nt_in (i := 5) rfl)⟩
theorem lw_p118 : lw_okq (⟨"TurnNetModel", "isLink", "(I)Z"⟩, 58) := ⟨lw_nc10, lw_in5 (lw_nt_in (i := 177) rfl), lw_in8 (lw_nt_in (i := 8) rfl), lw_in8 (lw_nt_in (i := 9) rfl)⟩
theorem lw_p119 : lw_okq (⟨"TurnNetModel", "flips", "()I"⟩, 58) := ⟨lw_nc10, lw_in5 (lw_nt_in (i := 177) rfl), lw_in8 (lw_nt_in (i := 12) rfl), lw_in8 (lw_nt_in (i := 13) rfl)⟩
theorem lw_p120 : lw_okq (⟨"TurnNetModel", "plainPairs", "(I)I"⟩, 58) := ⟨lw_nc10, lw_in5 (lw_nt_in (i := 177) rfl), lw_in8 (lw_nt_in (i := 30) rfl), lw_in8 (lw_nt_in (i := 31) rfl)⟩
theorem lw_p121 : lw_okq (⟨"TurnNetModel", "pairsOf", "(I)I"⟩, 58) := ⟨lw_nc10, lw_in5 (lw_nt_in (i := 177) rfl), lw_in8 (lw_nt_in (i := 34) rfl), lw_in8 (lw_nt_in (i := 35) rfl)⟩
theorem lw_p122 : lw_okq (⟨"TurnNetModel", "oneMore", "(II)Z"⟩, 58) := ⟨lw_nc10, lw_in5 (lw_nt_in (i := 177) rfl), lw_in8 (lw_nt_in (i := 42) rfl), lw_in8 (lw_nt_in (i := 43) rfl)⟩
theorem lw_p123 : lw_okq (⟨"TurnNetModel", "planFor", "(I)I"⟩, 58) := ⟨lw_nc10, lw_in5 (lw_nt_in (i := 177) rfl), lw_in8 (lw_nt_in (i := 50) rfl), lw_in8 (lw_nt_in (i := 51) rfl)⟩
theorem lw_p124 : lw_okq (⟨"TurnNetModel", "goPhases", "(II)I"⟩, 58) := ⟨lw_nc10, lw_in5 (lw_nt_in (i := 177) rfl), lw_in8 (lw_nt_in (i := 54) rfl), lw_in8 (lw_nt_in (i := 55) rfl)⟩
theorem lw_p125 : lw_okq (⟨"TurnNetModel", "takePhase", "(I)I"⟩, 58) := ⟨lw_nc10, lw_in5 (lw_nt_in (i := 177) rfl), lw_in8 (lw_nt_in (i := 58) rfl), lw_in8 (lw_nt_in (i := 59) rfl)⟩
theorem lw_p126 : lw_okq (⟨"TurnNetModel", "isSafe", "()Z"⟩, 58) := ⟨lw_nc10, lw_in5 (lw_nt_in (i := 177) rfl), lw_in8 (lw_nt_in (i := 62) rfl), lw_in8 (lw_nt_in (i := 63) rfl)⟩
theorem lw_p127 : lw_okq (⟨"TurnNetModel", "isEither", "(II)Z"⟩, 58) := ⟨lw_nc10, lw_in5 (lw_nt_in (i := 177) rfl), lw_in8 (lw_nt_in (i := 66) rfl), lw_in8 (lw_nt_in (i := 67) rfl)⟩
def lw_privs_8 : List (MethodName × Nat) := [(⟨"TurnNetModel", "addPair", "(II)V"⟩, 58), (⟨"TurnNetModel", "rootedBy", "(II)I"⟩, 58), (⟨"TurnNetModel", "putAside", "()V"⟩, 58), (⟨"TurnNetModel", "takeOver", "()V"⟩, 58), (⟨"TurnNetModel", "bringBack", "()V"⟩, 58), (⟨"TurnNetModel", "isStanding", "(I)Z"⟩, 58), (⟨"TurnNetModel", "isLink", "(I)Z"⟩, 58), (⟨"TurnNetModel", "flips", "()I"⟩, 58), (⟨"TurnNetModel", "plainPairs", "(I)I"⟩, 58), (⟨"TurnNetModel", "pairsOf", "(I)I"⟩, 58), (⟨"TurnNetModel", "oneMore", "(II)Z"⟩, 58), (⟨"TurnNetModel", "planFor", "(I)I"⟩, 58), (⟨"TurnNetModel", "goPhases", "(II)I"⟩, 58), (⟨"TurnNetModel", "takePhase", "(I)I"⟩, 58), (⟨"TurnNetModel", "isSafe", "()Z"⟩, 58), (⟨"TurnNetModel", "isEither", "(II)Z"⟩, 58)]
theorem lw_r8 : ∀ q ∈ lw_privs_8, lw_okq q := List.forall_mem_cons.mpr ⟨lw_p112, List.forall_mem_cons.mpr ⟨lw_p113, List.forall_mem_cons.mpr ⟨lw_p114, List.forall_mem_cons.mpr ⟨lw_p115, List.forall_mem_cons.mpr ⟨lw_p116, List.forall_mem_cons.mpr ⟨lw_p117, List.forall_mem_cons.mpr ⟨lw_p118, List.forall_mem_cons.mpr ⟨lw_p119, List.forall_mem_cons.mpr ⟨lw_p120, List.forall_mem_cons.mpr ⟨lw_p121, List.forall_mem_cons.mpr ⟨lw_p122, List.forall_mem_cons.mpr ⟨lw_p123, List.forall_mem_cons.mpr ⟨lw_p124, List.forall_mem_cons.mpr ⟨lw_p125, List.forall_mem_cons.mpr ⟨lw_p126, List.forall_mem_cons.mpr ⟨lw_p127, fun _ h => absurd h List.not_mem_nil⟩⟩⟩⟩⟩⟩⟩⟩⟩⟩⟩⟩⟩⟩⟩⟩
theorem lw_p128 : lw_okq (⟨"TurnNetModel", "hasRing", "()Z"⟩, 58) := ⟨lw_nc10, lw_in5 (lw_nt_in (i := 177) rfl), lw_in8 (lw_nt_in (i := 70) rfl), lw_in8 (lw_nt_in (i := 71) rfl)⟩
theorem lw_p129 : lw_okq (⟨"TurnNetModel", "turnTaken", "()V"⟩, 58) := ⟨lw_nc10, lw_in5 (lw_nt_in (i := 177) rfl), lw_in8 (lw_nt_in (i := 74) rfl), lw_in8 (lw_nt_in (i := 75) rfl)⟩
theorem lw_p130 : lw_okq (⟨"TurnNetModel", "goSteps", "(I)I"⟩, 58) := ⟨lw_nc10, lw_in5 (lw_nt_in (i := 177) rfl), lw_in8 (lw_nt_in (i := 78) rfl), lw_in8 (lw_nt_in (i := 79) rfl)⟩
theorem lw_p131 : lw_okq (⟨"TurnNetModel", "goStep", "()I"⟩, 58) := ⟨lw_nc10, lw_in5 (lw_nt_in (i := 177) rfl), lw_in8 (lw_nt_in (i := 82) rfl), lw_in8 (lw_nt_in (i := 83) rfl)⟩
theorem lw_p132 : lw_okq (⟨"TurnNetModel", "goPacket", "(I)Z"⟩, 58) := ⟨lw_nc10, lw_in5 (lw_nt_in (i := 177) rfl), lw_in8 (lw_nt_in (i := 86) rfl), lw_in8 (lw_nt_in (i := 87) rfl)⟩
theorem lw_p133 : lw_okq (⟨"TurnNetModel", "wayOf", "(I)I"⟩, 58) := ⟨lw_nc10, lw_in5 (lw_nt_in (i := 177) rfl), lw_in8 (lw_nt_in (i := 90) rfl), lw_in8 (lw_nt_in (i := 91) rfl)⟩
theorem lw_p134 : lw_okq (⟨"TurnNetModel", "cameBy", "(I)I"⟩, 58) := ⟨lw_nc10, lw_in5 (lw_nt_in (i := 177) rfl), lw_in8 (lw_nt_in (i := 94) rfl), lw_in8 (lw_nt_in (i := 95) rfl)⟩
theorem lw_p135 : lw_okq (⟨"TurnNetModel", "keepAct", "()V"⟩, 58) := ⟨lw_nc10, lw_in5 (lw_nt_in (i := 177) rfl), lw_in8 (lw_nt_in (i := 106) rfl), lw_in8 (lw_nt_in (i := 107) rfl)⟩
theorem lw_p136 : lw_okq (⟨"TurnNetModel", "standing", "()I"⟩, 58) := ⟨lw_nc10, lw_in5 (lw_nt_in (i := 177) rfl), lw_in8 (lw_nt_in (i := 110) rfl), lw_in8 (lw_nt_in (i := 111) rfl)⟩
theorem lw_p137 : lw_okq (⟨"TurnNetModel", "canSend", "(II)Z"⟩, 58) := ⟨lw_nc10, lw_in5 (lw_nt_in (i := 177) rfl), lw_in8 (lw_nt_in (i := 134) rfl), lw_in8 (lw_nt_in (i := 135) rfl)⟩
theorem lw_p138 : lw_okq (⟨"TurnNetModel", "freePacket", "()I"⟩, 58) := ⟨lw_nc10, lw_in5 (lw_nt_in (i := 177) rfl), lw_in8 (lw_nt_in (i := 138) rfl), lw_in8 (lw_nt_in (i := 139) rfl)⟩
theorem lw_p139 : lw_okq (⟨"TurnNetModel", "goSend", "(II)I"⟩, 58) := ⟨lw_nc10, lw_in5 (lw_nt_in (i := 177) rfl), lw_in8 (lw_nt_in (i := 142) rfl), lw_in8 (lw_nt_in (i := 143) rfl)⟩
theorem lw_p140 : lw_okq (⟨"TurnNetModel", "isPacket", "(I)Z"⟩, 58) := ⟨lw_nc10, lw_in5 (lw_nt_in (i := 177) rfl), lw_in8 (lw_nt_in (i := 154) rfl), lw_in8 (lw_nt_in (i := 155) rfl)⟩
theorem lw_p141 : lw_okq (⟨"TurnNetModel", "packetsNow", "()I"⟩, 58) := ⟨lw_nc10, lw_in5 (lw_nt_in (i := 177) rfl), lw_in8 (lw_nt_in (i := 162) rfl), lw_in8 (lw_nt_in (i := 163) rfl)⟩
theorem lw_p142 : lw_okq (⟨"TurnNetModel", "gameOnce", "()V"⟩, 58) := ⟨lw_nc10, lw_in5 (lw_nt_in (i := 177) rfl), lw_in8 (lw_nt_in (i := 174) rfl), lw_in8 (lw_nt_in (i := 175) rfl)⟩
theorem lw_p143 : lw_okq (⟨"TurnNetModel", "draw", "()I"⟩, 58) := ⟨lw_nc10, lw_in5 (lw_nt_in (i := 177) rfl), lw_in8 (lw_nt_in (i := 178) rfl), lw_in8 (lw_nt_in (i := 179) rfl)⟩
def lw_privs_9 : List (MethodName × Nat) := [(⟨"TurnNetModel", "hasRing", "()Z"⟩, 58), (⟨"TurnNetModel", "turnTaken", "()V"⟩, 58), (⟨"TurnNetModel", "goSteps", "(I)I"⟩, 58), (⟨"TurnNetModel", "goStep", "()I"⟩, 58), (⟨"TurnNetModel", "goPacket", "(I)Z"⟩, 58), (⟨"TurnNetModel", "wayOf", "(I)I"⟩, 58), (⟨"TurnNetModel", "cameBy", "(I)I"⟩, 58), (⟨"TurnNetModel", "keepAct", "()V"⟩, 58), (⟨"TurnNetModel", "standing", "()I"⟩, 58), (⟨"TurnNetModel", "canSend", "(II)Z"⟩, 58), (⟨"TurnNetModel", "freePacket", "()I"⟩, 58), (⟨"TurnNetModel", "goSend", "(II)I"⟩, 58), (⟨"TurnNetModel", "isPacket", "(I)Z"⟩, 58), (⟨"TurnNetModel", "packetsNow", "()I"⟩, 58), (⟨"TurnNetModel", "gameOnce", "()V"⟩, 58), (⟨"TurnNetModel", "draw", "()I"⟩, 58)]
theorem lw_r9 : ∀ q ∈ lw_privs_9, lw_okq q := List.forall_mem_cons.mpr ⟨lw_p128, List.forall_mem_cons.mpr ⟨lw_p129, List.forall_mem_cons.mpr ⟨lw_p130, List.forall_mem_cons.mpr ⟨lw_p131, List.forall_mem_cons.mpr ⟨lw_p132, List.forall_mem_cons.mpr ⟨lw_p133, List.forall_mem_cons.mpr ⟨lw_p134, List.forall_mem_cons.mpr ⟨lw_p135, List.forall_mem_cons.mpr ⟨lw_p136, List.forall_mem_cons.mpr ⟨lw_p137, List.forall_mem_cons.mpr ⟨lw_p138, List.forall_mem_cons.mpr ⟨lw_p139, List.forall_mem_cons.mpr ⟨lw_p140, List.forall_mem_cons.mpr ⟨lw_p141, List.forall_mem_cons.mpr ⟨lw_p142, List.forall_mem_cons.mpr ⟨lw_p143, fun _ h => absurd h List.not_mem_nil⟩⟩⟩⟩⟩⟩⟩⟩⟩⟩⟩⟩⟩⟩⟩⟩
theorem lw_p144 : lw_okq (⟨"TurnNetModel", "aboveOf", "(I)I"⟩, 58) := ⟨lw_nc10, lw_in5 (lw_nt_in (i := 177) rfl), lw_in8 (lw_nt_in (i := 186) rfl), lw_in8 (lw_nt_in (i := 187) rfl)⟩
theorem lw_p145 : lw_okq (⟨"TurnNetModel", "packetsAt", "(I)I"⟩, 58) := ⟨lw_nc10, lw_in5 (lw_nt_in (i := 177) rfl), lw_in8 (lw_nt_in (i := 190) rfl), lw_in8 (lw_nt_in (i := 191) rfl)⟩
theorem lw_p146 : lw_okq (⟨"TurnNetModel", "swapAll", "()V"⟩, 58) := ⟨lw_nc10, lw_in5 (lw_nt_in (i := 177) rfl), lw_in8 (lw_nt_in (i := 202) rfl), lw_in8 (lw_nt_in (i := 203) rfl)⟩
def lw_privs_10 : List (MethodName × Nat) := [(⟨"TurnNetModel", "aboveOf", "(I)I"⟩, 58), (⟨"TurnNetModel", "packetsAt", "(I)I"⟩, 58), (⟨"TurnNetModel", "swapAll", "()V"⟩, 58)]
theorem lw_r10 : ∀ q ∈ lw_privs_10, lw_okq q := List.forall_mem_cons.mpr ⟨lw_p144, List.forall_mem_cons.mpr ⟨lw_p145, List.forall_mem_cons.mpr ⟨lw_p146, fun _ h => absurd h List.not_mem_nil⟩⟩⟩
def lw_privs : List (MethodName × Nat) := lw_privs_1 ++ (lw_privs_2 ++ (lw_privs_3 ++ (lw_privs_4 ++ (lw_privs_5 ++ (lw_privs_6 ++ (lw_privs_7 ++ (lw_privs_8 ++ (lw_privs_9 ++ (lw_privs_10)))))))))
def lw_tbl : List Cond := k2_sels lw_privs ++ tables_1
theorem lw_privs_ok : ∀ q ∈ lw_privs, lw_okq q := by
  show ∀ q ∈ lw_privs_1 ++ (lw_privs_2 ++ (lw_privs_3 ++ (lw_privs_4 ++ (lw_privs_5 ++ (lw_privs_6 ++ (lw_privs_7 ++ (lw_privs_8 ++ (lw_privs_9 ++ (lw_privs_10))))))))), lw_okq q
  exact List.forall_mem_append.mpr ⟨lw_r1, List.forall_mem_append.mpr ⟨lw_r2, List.forall_mem_append.mpr ⟨lw_r3, List.forall_mem_append.mpr ⟨lw_r4, List.forall_mem_append.mpr ⟨lw_r5, List.forall_mem_append.mpr ⟨lw_r6, List.forall_mem_append.mpr ⟨lw_r7, List.forall_mem_append.mpr ⟨lw_r8, List.forall_mem_append.mpr ⟨lw_r9, lw_r10⟩⟩⟩⟩⟩⟩⟩⟩⟩
end
section
/-! ===== BEGIN words of one list among another's, by their places ===== -/
theorem goodIn_r {big : List Cond} (ws : List Cond) (ps : List Nat) (hp : ws = ps.filterMap (fun i => big[i]?)) (h : ws.all goodWord = true) : GoodIn big ws := by
  intro w hw
  have h1 := List.all_eq_true.mp h w hw
  rw [hp] at hw
  obtain ⟨i, -, hi⟩ := List.mem_filterMap.mp hw
  have hm : w ∈ big := by first | exact List.mem_of_getElem? hi | exact List.getElem?_mem hi
  exact ⟨hm, good_of_word h1⟩
theorem goodIn_app {big a b : List Cond} (ha : GoodIn big a) (hb : GoodIn big b) : GoodIn big (a ++ b) := fun w h => (List.mem_append.mp h).elim (ha w) (hb w)
theorem goodIn_ca {big a b : List Cond} {c : Cond} (ha : GoodIn big (c :: a)) (hb : GoodIn big b) : GoodIn big (c :: (a ++ b)) := fun w h => (List.mem_cons.mp h).elim (fun e => ha w (List.mem_cons.mpr (Or.inl e))) (fun h => (List.mem_append.mp h).elim (fun h => ha w (List.mem_cons.mpr (Or.inr h))) (hb w))
theorem goodIn_sub {big ws : List Cond} (hm : ∀ w ∈ ws, w ∈ big) (h : ws.all goodWord = true) : GoodIn big ws := fun w hw => ⟨hm w hw, good_of_word (List.all_eq_true.mp h w hw)⟩
/-! ===== END ===== -/

/-! ===== BEGIN printed: names, fields, word lists, decode rows ===== -/
def RX0 : String := "TurnNet$Graph"
def TX0 : u_T := fun k => match k with
  | 0 => ("TurnNet$Graph", "net", "LTurnNet$Net;", true)
  | 1 => ("TurnNet$Graph", "hops", "[I", true)
  | 2 => ("TurnNet$Graph", "reached", "[I", true)
  | 3 => ("TurnNet$Graph", "cameBy", "[I", true)
  | _ => ("TurnNet$Graph", "flow", "[I", true)
def tyX0 : Nat → FieldType := fun k => match k with
  | 0 => .object "TurnNet$Net"
  | 1 => .array .int
  | 2 => .array .int
  | 3 => .array .int
  | _ => .array .int
abbrev wsX00 : List Cond := u_ws RX0 TX0 5
theorem nmX0 : ∀ a, a < 5 → ∀ b, b < 5 → a ≠ b → (TX0 a).2.1 ≠ (TX0 b).2.1 := by decide +kernel
theorem tyX0_ok : ∀ k, k < 5 → parseFieldDescriptor (TX0 k).2.2.1 = some (tyX0 k) := by decide +kernel
abbrev cX0_init : ByteArray := prog_2_method_1_code
def yX0_init : MethodName := ⟨RX0, "<init>", "(LTurnNet$Net;)V"⟩
abbrev cX0_see : ByteArray := prog_2_method_2_code
def yX0_see : MethodName := ⟨RX0, "see", "(I)V"⟩
abbrev cX0_hopsOf : ByteArray := prog_2_method_3_code
def yX0_hopsOf : MethodName := ⟨RX0, "hopsOf", "(II)I"⟩
abbrev cX0_pairsWithout : ByteArray := prog_2_method_4_code
def yX0_pairsWithout : MethodName := ⟨RX0, "pairsWithout", "()I"⟩
abbrev cX0_spread : ByteArray := prog_2_method_5_code
def yX0_spread : MethodName := ⟨RX0, "spread", "(LTurnNet$Net;II[II)V"⟩
abbrev cX0_findPivots : ByteArray := prog_2_method_6_code
def yX0_findPivots : MethodName := ⟨RX0, "findPivots", "(I)I"⟩
abbrev cX0_parts : ByteArray := prog_2_method_7_code
def yX0_parts : MethodName := ⟨RX0, "parts", "(II)Z"⟩
abbrev cX0_countApart : ByteArray := prog_2_method_8_code
def yX0_countApart : MethodName := ⟨RX0, "countApart", "(III)I"⟩
abbrev cX0_findRow : ByteArray := prog_2_method_9_code
def yX0_findRow : MethodName := ⟨RX0, "findRow", "(III)Z"⟩
abbrev cX0_hasSpace : ByteArray := prog_2_method_10_code
def yX0_hasSpace : MethodName := ⟨RX0, "hasSpace", "(II)Z"⟩
abbrev cX0_useRow : ByteArray := prog_2_method_11_code
def yX0_useRow : MethodName := ⟨RX0, "useRow", "(II)V"⟩
def RX1 : String := "TurnNet$History"
def TX1 : u_T := fun k => match k with
  | 0 => ("TurnNet$History", "slots", "[LTurnNet$State;", true)
  | 1 => ("TurnNet$History", "oldest", "I", false)
  | 2 => ("TurnNet$History", "done", "I", false)
  | _ => ("TurnNet$History", "undone", "I", false)
def tyX1 : Nat → FieldType := fun k => match k with
  | 0 => .array (.object "TurnNet$State")
  | 1 => .int
  | 2 => .int
  | _ => .int
abbrev wsX10 : List Cond := u_ws RX1 TX1 4
theorem nmX1 : ∀ a, a < 4 → ∀ b, b < 4 → a ≠ b → (TX1 a).2.1 ≠ (TX1 b).2.1 := by decide +kernel
theorem tyX1_ok : ∀ k, k < 4 → parseFieldDescriptor (TX1 k).2.2.1 = some (tyX1 k) := by decide +kernel
abbrev cX1_init : ByteArray := prog_3_method_1_code
def yX1_init : MethodName := ⟨RX1, "<init>", "()V"⟩
abbrev cX1_clear : ByteArray := prog_3_method_2_code
def yX1_clear : MethodName := ⟨RX1, "clear", "()V"⟩
abbrev cX1_keep : ByteArray := prog_3_method_3_code
def yX1_keep : MethodName := ⟨RX1, "keep", "(LTurnNet$State;)V"⟩
abbrev cX1_stepBack : ByteArray := prog_3_method_4_code
def yX1_stepBack : MethodName := ⟨RX1, "stepBack", "(LTurnNet$State;)LTurnNet$State;"⟩
abbrev cX1_stepOn : ByteArray := prog_3_method_5_code
def yX1_stepOn : MethodName := ⟨RX1, "stepOn", "(LTurnNet$State;)LTurnNet$State;"⟩
abbrev cX1_slotOf : ByteArray := prog_3_method_6_code
def yX1_slotOf : MethodName := ⟨RX1, "slotOf", "(I)I"⟩
abbrev cX1_exchange : ByteArray := prog_3_method_7_code
def yX1_exchange : MethodName := ⟨RX1, "exchange", "(ILTurnNet$State;)LTurnNet$State;"⟩
def RX2 : String := "TurnNet$Net"
def TX2 : u_T := fun k => match k with
  | 0 => ("TurnNet$Net", "switches", "I", false)
  | 1 => ("TurnNet$Net", "links", "I", false)
  | 2 => ("TurnNet$Net", "root", "I", false)
  | 3 => ("TurnNet$Net", "room", "I", false)
  | 4 => ("TurnNet$Net", "units", "I", false)
  | 5 => ("TurnNet$Net", "codeSize", "I", false)
  | 6 => ("TurnNet$Net", "begin", "[I", true)
  | 7 => ("TurnNet$Net", "finish", "[I", true)
  | 8 => ("TurnNet$Net", "outFrom", "[I", true)
  | 9 => ("TurnNet$Net", "outList", "[I", true)
  | 10 => ("TurnNet$Net", "operations", "[I", true)
  | _ => ("TurnNet$Net", "operands", "[I", true)
def tyX2 : Nat → FieldType := fun k => match k with
  | 0 => .int
  | 1 => .int
  | 2 => .int
  | 3 => .int
  | 4 => .int
  | 5 => .int
  | 6 => .array .int
  | 7 => .array .int
  | 8 => .array .int
  | 9 => .array .int
  | 10 => .array .int
  | _ => .array .int
abbrev wsX20 : List Cond := u_ws RX2 TX2 12
theorem nmX2 : ∀ a, a < 12 → ∀ b, b < 12 → a ≠ b → (TX2 a).2.1 ≠ (TX2 b).2.1 := by decide +kernel
theorem tyX2_ok : ∀ k, k < 12 → parseFieldDescriptor (TX2 k).2.2.1 = some (tyX2 k) := by decide +kernel
abbrev cX2_init : ByteArray := prog_4_method_1_code
def yX2_init : MethodName := ⟨RX2, "<init>", "()V"⟩
abbrev cX2_clear : ByteArray := prog_4_method_2_code
def yX2_clear : MethodName := ⟨RX2, "clear", "()V"⟩
abbrev cX2_copyFrom : ByteArray := prog_4_method_3_code
def yX2_copyFrom : MethodName := ⟨RX2, "copyFrom", "(LTurnNet$Net;)V"⟩
abbrev cX2_listChannels : ByteArray := prog_4_method_4_code
def yX2_listChannels : MethodName := ⟨RX2, "listChannels", "()V"⟩
abbrev cX2_addLink : ByteArray := prog_4_method_5_code
def yX2_addLink : MethodName := ⟨RX2, "addLink", "(II)V"⟩
abbrev cX2_joins : ByteArray := prog_4_method_6_code
def yX2_joins : MethodName := ⟨RX2, "joins", "(II)Z"⟩
abbrev cX2_addCode : ByteArray := prog_4_method_7_code
def yX2_addCode : MethodName := ⟨RX2, "addCode", "(II)V"⟩
abbrev cX2_channels : ByteArray := prog_4_method_8_code
def yX2_channels : MethodName := ⟨RX2, "channels", "()I"⟩
abbrev cX2_allLinks : ByteArray := prog_4_method_9_code
def yX2_allLinks : MethodName := ⟨RX2, "allLinks", "()I"⟩
abbrev cX2_hasSwitch : ByteArray := prog_4_method_10_code
def yX2_hasSwitch : MethodName := ⟨RX2, "hasSwitch", "(I)Z"⟩
abbrev cX2_hasLink : ByteArray := prog_4_method_11_code
def yX2_hasLink : MethodName := ⟨RX2, "hasLink", "(I)Z"⟩
abbrev cX2_hasChannel : ByteArray := prog_4_method_12_code
def yX2_hasChannel : MethodName := ⟨RX2, "hasChannel", "(I)Z"⟩
abbrev cX2_upEnd : ByteArray := prog_4_method_13_code
def yX2_upEnd : MethodName := ⟨RX2, "upEnd", "(II)I"⟩
abbrev cX2_isUp : ByteArray := prog_4_method_14_code
def yX2_isUp : MethodName := ⟨RX2, "isUp", "(II)Z"⟩
def RX3 : String := "TurnNet$Order"
def TX3 : u_T := fun k => match k with
  | 0 => ("TurnNet$Order", "net", "LTurnNet$Net;", true)
  | 1 => ("TurnNet$Order", "far", "[I", true)
  | 2 => ("TurnNet$Order", "degree", "[I", true)
  | 3 => ("TurnNet$Order", "rank", "[I", true)
  | _ => ("TurnNet$Order", "stack", "[I", true)
def tyX3 : Nat → FieldType := fun k => match k with
  | 0 => .object "TurnNet$Net"
  | 1 => .array .int
  | 2 => .array .int
  | 3 => .array .int
  | _ => .array .int
abbrev wsX30 : List Cond := u_ws RX3 TX3 5
theorem nmX3 : ∀ a, a < 5 → ∀ b, b < 5 → a ≠ b → (TX3 a).2.1 ≠ (TX3 b).2.1 := by decide +kernel
theorem tyX3_ok : ∀ k, k < 5 → parseFieldDescriptor (TX3 k).2.2.1 = some (tyX3 k) := by decide +kernel
abbrev cX3_init : ByteArray := prog_5_method_1_code
def yX3_init : MethodName := ⟨RX3, "<init>", "(LTurnNet$Net;)V"⟩
abbrev cX3_rate : ByteArray := prog_5_method_2_code
def yX3_rate : MethodName := ⟨RX3, "rate", "(II)V"⟩
abbrev cX3_countLinks : ByteArray := prog_5_method_3_code
def yX3_countLinks : MethodName := ⟨RX3, "countLinks", "(I)V"⟩
abbrev cX3_evaluate : ByteArray := prog_5_method_4_code
def yX3_evaluate : MethodName := ⟨RX3, "evaluate", "(I)I"⟩
abbrev cX3_leaf : ByteArray := prog_5_method_5_code
def yX3_leaf : MethodName := ⟨RX3, "leaf", "(III)I"⟩
abbrev cX3_combine : ByteArray := prog_5_method_6_code
def yX3_combine : MethodName := ⟨RX3, "combine", "(III)I"⟩
abbrev cX3_isAbove : ByteArray := prog_5_method_7_code
def yX3_isAbove : MethodName := ⟨RX3, "isAbove", "(II)Z"⟩
abbrev cX3_countAbove : ByteArray := prog_5_method_8_code
def yX3_countAbove : MethodName := ⟨RX3, "countAbove", "(I)I"⟩
abbrev cX3_upEnds : ByteArray := prog_5_method_9_code
def yX3_upEnds : MethodName := ⟨RX3, "upEnds", "()I"⟩
def RX4 : String := "TurnNet$Planner"
def TX4 : u_T := fun k => match k with
  | 0 => ("TurnNet$Planner", "net", "LTurnNet$Net;", true)
  | 1 => ("TurnNet$Planner", "turns", "LTurnNet$Turns;", true)
  | 2 => ("TurnNet$Planner", "taken", "[I", true)
  | 3 => ("TurnNet$Planner", "flips", "I", false)
  | _ => ("TurnNet$Planner", "phases", "I", false)
def tyX4 : Nat → FieldType := fun k => match k with
  | 0 => .object "TurnNet$Net"
  | 1 => .object "TurnNet$Turns"
  | 2 => .array .int
  | 3 => .int
  | _ => .int
abbrev wsX40 : List Cond := u_ws RX4 TX4 5
theorem nmX4 : ∀ a, a < 5 → ∀ b, b < 5 → a ≠ b → (TX4 a).2.1 ≠ (TX4 b).2.1 := by decide +kernel
theorem tyX4_ok : ∀ k, k < 5 → parseFieldDescriptor (TX4 k).2.2.1 = some (tyX4 k) := by decide +kernel
abbrev cX4_init : ByteArray := prog_6_method_1_code
def yX4_init : MethodName := ⟨RX4, "<init>", "(LTurnNet$Net;LTurnNet$Turns;)V"⟩
abbrev cX4_lay : ByteArray := prog_6_method_2_code
def yX4_lay : MethodName := ⟨RX4, "lay", "(III)V"⟩
abbrev cX4_takeLinks : ByteArray := prog_6_method_3_code
def yX4_takeLinks : MethodName := ⟨RX4, "takeLinks", "(III)I"⟩
abbrev cX4_linksOf : ByteArray := prog_6_method_4_code
def yX4_linksOf : MethodName := ⟨RX4, "linksOf", "(I)I"⟩
abbrev cX4_phaseOf : ByteArray := prog_6_method_5_code
def yX4_phaseOf : MethodName := ⟨RX4, "phaseOf", "(I)I"⟩
def RX5 : String := "TurnNet$Reader"
def TX5 : u_T := fun k => match k with
  | 0 => ("TurnNet$Reader", "tape", "[B", true)
  | 1 => ("TurnNet$Reader", "size", "I", false)
  | 2 => ("TurnNet$Reader", "draft", "LTurnNet$Net;", true)
  | 3 => ("TurnNet$Reader", "fault", "I", false)
  | 4 => ("TurnNet$Reader", "faultPlace", "I", false)
  | 5 => ("TurnNet$Reader", "ahead", "I", false)
  | 6 => ("TurnNet$Reader", "place", "I", false)
  | 7 => ("TurnNet$Reader", "kind", "I", false)
  | 8 => ("TurnNet$Reader", "value", "I", false)
  | 9 => ("TurnNet$Reader", "rootTold", "Z", false)
  | 10 => ("TurnNet$Reader", "rankTold", "Z", false)
  | _ => ("TurnNet$Reader", "roomTold", "Z", false)
def tyX5 : Nat → FieldType := fun k => match k with
  | 0 => .array .byte
  | 1 => .int
  | 2 => .object "TurnNet$Net"
  | 3 => .int
  | 4 => .int
  | 5 => .int
  | 6 => .int
  | 7 => .int
  | 8 => .int
  | 9 => .boolean
  | 10 => .boolean
  | _ => .boolean
abbrev wsX50 : List Cond := u_ws RX5 TX5 12
theorem nmX5 : ∀ a, a < 12 → ∀ b, b < 12 → a ≠ b → (TX5 a).2.1 ≠ (TX5 b).2.1 := by decide +kernel
theorem tyX5_ok : ∀ k, k < 12 → parseFieldDescriptor (TX5 k).2.2.1 = some (tyX5 k) := by decide +kernel
abbrev cX5_init : ByteArray := prog_7_method_1_code
def yX5_init : MethodName := ⟨RX5, "<init>", "()V"⟩
abbrev cX5_append : ByteArray := prog_7_method_2_code
def yX5_append : MethodName := ⟨RX5, "append", "(I)V"⟩
abbrev cX5_readText : ByteArray := prog_7_method_3_code
def yX5_readText : MethodName := ⟨RX5, "readText", "()Z"⟩
abbrev cX5_fail : ByteArray := prog_7_method_4_code
def yX5_fail : MethodName := ⟨RX5, "fail", "(I)Z"⟩
abbrev cX5_readSwitches : ByteArray := prog_7_method_5_code
def yX5_readSwitches : MethodName := ⟨RX5, "readSwitches", "()Z"⟩
abbrev cX5_readLine : ByteArray := prog_7_method_6_code
def yX5_readLine : MethodName := ⟨RX5, "readLine", "()Z"⟩
abbrev cX5_readLink : ByteArray := prog_7_method_7_code
def yX5_readLink : MethodName := ⟨RX5, "readLink", "()Z"⟩
abbrev cX5_closeLine : ByteArray := prog_7_method_8_code
def yX5_closeLine : MethodName := ⟨RX5, "closeLine", "()Z"⟩
abbrev cX5_readNumber : ByteArray := prog_7_method_9_code
def yX5_readNumber : MethodName := ⟨RX5, "readNumber", "(II)Z"⟩
abbrev cX5_readSign : ByteArray := prog_7_method_10_code
def yX5_readSign : MethodName := ⟨RX5, "readSign", "(I)Z"⟩
abbrev cX5_readSum : ByteArray := prog_7_method_11_code
def yX5_readSum : MethodName := ⟨RX5, "readSum", "(I)Z"⟩
abbrev cX5_readProduct : ByteArray := prog_7_method_12_code
def yX5_readProduct : MethodName := ⟨RX5, "readProduct", "(I)Z"⟩
abbrev cX5_readUnit : ByteArray := prog_7_method_13_code
def yX5_readUnit : MethodName := ⟨RX5, "readUnit", "(I)Z"⟩
abbrev cX5_unitKind : ByteArray := prog_7_method_14_code
def yX5_unitKind : MethodName := ⟨RX5, "unitKind", "()I"⟩
abbrev cX5_isWord : ByteArray := prog_7_method_15_code
def yX5_isWord : MethodName := ⟨RX5, "isWord", "(Ljava/lang/String;)Z"⟩
abbrev cX5_advance : ByteArray := prog_7_method_16_code
def yX5_advance : MethodName := ⟨RX5, "advance", "()V"⟩
def RX6 : String := "TurnNet$Routes"
def TX6 : u_T := fun k => match k with
  | 0 => ("TurnNet$Routes", "net", "LTurnNet$Net;", true)
  | 1 => ("TurnNet$Routes", "up", "I", false)
  | 2 => ("TurnNet$Routes", "standing", "I", false)
  | 3 => ("TurnNet$Routes", "measured", "Z", false)
  | 4 => ("TurnNet$Routes", "tabled", "Z", false)
  | 5 => ("TurnNet$Routes", "hops", "[I", true)
  | 6 => ("TurnNet$Routes", "entries", "[I", true)
  | 7 => ("TurnNet$Routes", "uses", "[I", true)
  | 8 => ("TurnNet$Routes", "loads", "[I", true)
  | 9 => ("TurnNet$Routes", "behind", "[I", true)
  | 10 => ("TurnNet$Routes", "onward", "[J", true)
  | _ => ("TurnNet$Routes", "arriving", "[J", true)
def tyX6 : Nat → FieldType := fun k => match k with
  | 0 => .object "TurnNet$Net"
  | 1 => .int
  | 2 => .int
  | 3 => .boolean
  | 4 => .boolean
  | 5 => .array .int
  | 6 => .array .int
  | 7 => .array .int
  | 8 => .array .int
  | 9 => .array .int
  | 10 => .array .long
  | _ => .array .long
abbrev wsX60 : List Cond := u_ws RX6 TX6 12
theorem nmX6 : ∀ a, a < 12 → ∀ b, b < 12 → a ≠ b → (TX6 a).2.1 ≠ (TX6 b).2.1 := by decide +kernel
theorem tyX6_ok : ∀ k, k < 12 → parseFieldDescriptor (TX6 k).2.2.1 = some (tyX6 k) := by decide +kernel
abbrev cX6_init : ByteArray := prog_8_method_1_code
def yX6_init : MethodName := ⟨RX6, "<init>", "(LTurnNet$Net;)V"⟩
abbrev cX6_forget : ByteArray := prog_8_method_2_code
def yX6_forget : MethodName := ⟨RX6, "forget", "()V"⟩
abbrev cX6_see : ByteArray := prog_8_method_3_code
def yX6_see : MethodName := ⟨RX6, "see", "(II)V"⟩
abbrev cX6_seeTable : ByteArray := prog_8_method_4_code
def yX6_seeTable : MethodName := ⟨RX6, "seeTable", "(II)V"⟩
abbrev cX6_measure : ByteArray := prog_8_method_5_code
def yX6_measure : MethodName := ⟨RX6, "measure", "(I)V"⟩
abbrev cX6_growLevel : ByteArray := prog_8_method_6_code
def yX6_growLevel : MethodName := ⟨RX6, "growLevel", "(II)Z"⟩
abbrev cX6_reach : ByteArray := prog_8_method_7_code
def yX6_reach : MethodName := ⟨RX6, "reach", "(III)Z"⟩
abbrev cX6_stands : ByteArray := prog_8_method_8_code
def yX6_stands : MethodName := ⟨RX6, "stands", "(I)Z"⟩
abbrev cX6_placeBehind : ByteArray := prog_8_method_9_code
def yX6_placeBehind : MethodName := ⟨RX6, "placeBehind", "(I)I"⟩
abbrev cX6_hopsOf : ByteArray := prog_8_method_10_code
def yX6_hopsOf : MethodName := ⟨RX6, "hopsOf", "(II)I"⟩
abbrev cX6_pairsWithout : ByteArray := prog_8_method_11_code
def yX6_pairsWithout : MethodName := ⟨RX6, "pairsWithout", "()I"⟩
abbrev cX6_hopsTogether : ByteArray := prog_8_method_12_code
def yX6_hopsTogether : MethodName := ⟨RX6, "hopsTogether", "()I"⟩
abbrev cX6_leadsOn : ByteArray := prog_8_method_13_code
def yX6_leadsOn : MethodName := ⟨RX6, "leadsOn", "(III)Z"⟩
abbrev cX6_fillTable : ByteArray := prog_8_method_14_code
def yX6_fillTable : MethodName := ⟨RX6, "fillTable", "()V"⟩
abbrev cX6_leastUsed : ByteArray := prog_8_method_15_code
def yX6_leastUsed : MethodName := ⟨RX6, "leastUsed", "(III)I"⟩
abbrev cX6_entryOf : ByteArray := prog_8_method_16_code
def yX6_entryOf : MethodName := ⟨RX6, "entryOf", "(III)I"⟩
abbrev cX6_countLoads : ByteArray := prog_8_method_17_code
def yX6_countLoads : MethodName := ⟨RX6, "countLoads", "()V"⟩
abbrev cX6_countPath : ByteArray := prog_8_method_18_code
def yX6_countPath : MethodName := ⟨RX6, "countPath", "(II)V"⟩
abbrev cX6_entryBehind : ByteArray := prog_8_method_19_code
def yX6_entryBehind : MethodName := ⟨RX6, "entryBehind", "(II)I"⟩
abbrev cX6_channelOnPath : ByteArray := prog_8_method_20_code
def yX6_channelOnPath : MethodName := ⟨RX6, "channelOnPath", "(III)I"⟩
abbrev cX6_heaviestChannel : ByteArray := prog_8_method_21_code
def yX6_heaviestChannel : MethodName := ⟨RX6, "heaviestChannel", "()I"⟩
abbrev cX6_countWays : ByteArray := prog_8_method_22_code
def yX6_countWays : MethodName := ⟨RX6, "countWays", "(II)J"⟩
abbrev cX6_countOnward : ByteArray := prog_8_method_23_code
def yX6_countOnward : MethodName := ⟨RX6, "countOnward", "(I)V"⟩
abbrev cX6_addOnward : ByteArray := prog_8_method_24_code
def yX6_addOnward : MethodName := ⟨RX6, "addOnward", "(II)V"⟩
abbrev cX6_countArriving : ByteArray := prog_8_method_25_code
def yX6_countArriving : MethodName := ⟨RX6, "countArriving", "(II)V"⟩
abbrev cX6_passArriving : ByteArray := prog_8_method_26_code
def yX6_passArriving : MethodName := ⟨RX6, "passArriving", "(II)V"⟩
abbrev cX6_countThrough : ByteArray := prog_8_method_27_code
def yX6_countThrough : MethodName := ⟨RX6, "countThrough", "(III)J"⟩
def RX7 : String := "TurnNet$State"
def TX7 : u_T := fun k => match k with
  | 0 => ("TurnNet$State", "root", "I", false)
  | 1 => ("TurnNet$State", "up", "I", false)
  | 2 => ("TurnNet$State", "standing", "I", false)
  | 3 => ("TurnNet$State", "arrived", "I", false)
  | 4 => ("TurnNet$State", "stepsEver", "I", false)
  | 5 => ("TurnNet$State", "at", "[I", true)
  | 6 => ("TurnNet$State", "goal", "[I", true)
  | 7 => ("TurnNet$State", "came", "[I", true)
  | _ => ("TurnNet$State", "waited", "[I", true)
def tyX7 : Nat → FieldType := fun k => match k with
  | 0 => .int
  | 1 => .int
  | 2 => .int
  | 3 => .int
  | 4 => .int
  | 5 => .array .int
  | 6 => .array .int
  | 7 => .array .int
  | _ => .array .int
abbrev wsX70 : List Cond := u_ws RX7 TX7 9
theorem nmX7 : ∀ a, a < 9 → ∀ b, b < 9 → a ≠ b → (TX7 a).2.1 ≠ (TX7 b).2.1 := by decide +kernel
theorem tyX7_ok : ∀ k, k < 9 → parseFieldDescriptor (TX7 k).2.2.1 = some (tyX7 k) := by decide +kernel
abbrev cX7_init : ByteArray := prog_9_method_1_code
def yX7_init : MethodName := ⟨RX7, "<init>", "()V"⟩
abbrev cX7_begin : ByteArray := prog_9_method_2_code
def yX7_begin : MethodName := ⟨RX7, "begin", "(III)V"⟩
abbrev cX7_copyFrom : ByteArray := prog_9_method_3_code
def yX7_copyFrom : MethodName := ⟨RX7, "copyFrom", "(LTurnNet$State;)V"⟩
abbrev cX7_stands : ByteArray := prog_9_method_4_code
def yX7_stands : MethodName := ⟨RX7, "stands", "(I)Z"⟩
abbrev cX7_hasPacket : ByteArray := prog_9_method_5_code
def yX7_hasPacket : MethodName := ⟨RX7, "hasPacket", "(I)Z"⟩
abbrev cX7_freePacket : ByteArray := prog_9_method_6_code
def yX7_freePacket : MethodName := ⟨RX7, "freePacket", "()I"⟩
abbrev cX7_put : ByteArray := prog_9_method_7_code
def yX7_put : MethodName := ⟨RX7, "put", "(II)I"⟩
abbrev cX7_countPackets : ByteArray := prog_9_method_8_code
def yX7_countPackets : MethodName := ⟨RX7, "countPackets", "()I"⟩
abbrev cX7_countAt : ByteArray := prog_9_method_9_code
def yX7_countAt : MethodName := ⟨RX7, "countAt", "(I)I"⟩
abbrev cX7_countCameBy : ByteArray := prog_9_method_10_code
def yX7_countCameBy : MethodName := ⟨RX7, "countCameBy", "(I)I"⟩
def RX8 : String := "TurnNet$Traffic"
def TX8 : u_T := fun k => match k with
  | 0 => ("TurnNet$Traffic", "net", "LTurnNet$Net;", true)
  | 1 => ("TurnNet$Traffic", "moves", "I", false)
  | _ => ("TurnNet$Traffic", "waits", "I", false)
def tyX8 : Nat → FieldType := fun k => match k with
  | 0 => .object "TurnNet$Net"
  | 1 => .int
  | _ => .int
abbrev wsX80 : List Cond := u_ws RX8 TX8 3
theorem nmX8 : ∀ a, a < 3 → ∀ b, b < 3 → a ≠ b → (TX8 a).2.1 ≠ (TX8 b).2.1 := by decide +kernel
theorem tyX8_ok : ∀ k, k < 3 → parseFieldDescriptor (TX8 k).2.2.1 = some (tyX8 k) := by decide +kernel
abbrev cX8_init : ByteArray := prog_10_method_1_code
def yX8_init : MethodName := ⟨RX8, "<init>", "(LTurnNet$Net;)V"⟩
abbrev cX8_startCount : ByteArray := prog_10_method_2_code
def yX8_startCount : MethodName := ⟨RX8, "startCount", "()V"⟩
abbrev cX8_goStep : ByteArray := prog_10_method_3_code
def yX8_goStep : MethodName := ⟨RX8, "goStep", "(LTurnNet$State;LTurnNet$Routes;)V"⟩
abbrev cX8_goOn : ByteArray := prog_10_method_4_code
def yX8_goOn : MethodName := ⟨RX8, "goOn", "(LTurnNet$State;LTurnNet$Routes;I)V"⟩
abbrev cX8_nextChannel : ByteArray := prog_10_method_5_code
def yX8_nextChannel : MethodName := ⟨RX8, "nextChannel", "(LTurnNet$State;LTurnNet$Routes;I)I"⟩
abbrev cX8_play : ByteArray := prog_10_method_6_code
def yX8_play : MethodName := ⟨RX8, "play", "(LTurnNet$State;LTurnNet$Routes;II)I"⟩
abbrev cX8_draw : ByteArray := prog_10_method_7_code
def yX8_draw : MethodName := ⟨RX8, "draw", "(I)I"⟩
def RX9 : String := "TurnNet$Turns"
def TX9 : u_T := fun k => match k with
  | 0 => ("TurnNet$Turns", "net", "LTurnNet$Net;", true)
  | 1 => ("TurnNet$Turns", "leaving", "[J", true)
  | _ => ("TurnNet$Turns", "onto", "[J", true)
def tyX9 : Nat → FieldType := fun k => match k with
  | 0 => .object "TurnNet$Net"
  | 1 => .array .long
  | _ => .array .long
abbrev wsX90 : List Cond := u_ws RX9 TX9 3
theorem nmX9 : ∀ a, a < 3 → ∀ b, b < 3 → a ≠ b → (TX9 a).2.1 ≠ (TX9 b).2.1 := by decide +kernel
theorem tyX9_ok : ∀ k, k < 3 → parseFieldDescriptor (TX9 k).2.2.1 = some (tyX9 k) := by decide +kernel
abbrev cX9_init : ByteArray := prog_11_method_1_code
def yX9_init : MethodName := ⟨RX9, "<init>", "(LTurnNet$Net;)V"⟩
abbrev cX9_take : ByteArray := prog_11_method_2_code
def yX9_take : MethodName := ⟨RX9, "take", "(III)V"⟩
abbrev cX9_upChannels : ByteArray := prog_11_method_3_code
def yX9_upChannels : MethodName := ⟨RX9, "upChannels", "(I)J"⟩
abbrev cX9_lawful : ByteArray := prog_11_method_4_code
def yX9_lawful : MethodName := ⟨RX9, "lawful", "(IJ)J"⟩
abbrev cX9_leads : ByteArray := prog_11_method_5_code
def yX9_leads : MethodName := ⟨RX9, "leads", "(II)Z"⟩
abbrev cX9_haveRing : ByteArray := prog_11_method_6_code
def yX9_haveRing : MethodName := ⟨RX9, "haveRing", "()Z"⟩
abbrev cX9_shortestRing : ByteArray := prog_11_method_7_code
def yX9_shortestRing : MethodName := ⟨RX9, "shortestRing", "(I)I"⟩
abbrev cX9_ontoFrom : ByteArray := prog_11_method_8_code
def yX9_ontoFrom : MethodName := ⟨RX9, "ontoFrom", "(J)J"⟩
def RX10 : String := "TurnNet"
def TX10 : u_T := fun k => match k with
  | 0 => ("TurnNet", "net", "LTurnNet$Net;", true)
  | 1 => ("TurnNet", "reader", "LTurnNet$Reader;", true)
  | 2 => ("TurnNet", "order", "LTurnNet$Order;", true)
  | 3 => ("TurnNet", "routes", "LTurnNet$Routes;", true)
  | 4 => ("TurnNet", "guess", "LTurnNet$Routes;", true)
  | 5 => ("TurnNet", "graph", "LTurnNet$Graph;", true)
  | 6 => ("TurnNet", "turns", "LTurnNet$Turns;", true)
  | 7 => ("TurnNet", "planner", "LTurnNet$Planner;", true)
  | 8 => ("TurnNet", "traffic", "LTurnNet$Traffic;", true)
  | 9 => ("TurnNet", "history", "LTurnNet$History;", true)
  | 10 => ("TurnNet", "trial", "LTurnNet$State;", true)
  | 11 => ("TurnNet", "boxes", "[LTurnNet$State;", true)
  | 12 => ("TurnNet", "filled", "[Z", true)
  | _ => ("TurnNet", "now", "LTurnNet$State;", false)
def tyX10 : Nat → FieldType := fun k => match k with
  | 0 => .object "TurnNet$Net"
  | 1 => .object "TurnNet$Reader"
  | 2 => .object "TurnNet$Order"
  | 3 => .object "TurnNet$Routes"
  | 4 => .object "TurnNet$Routes"
  | 5 => .object "TurnNet$Graph"
  | 6 => .object "TurnNet$Turns"
  | 7 => .object "TurnNet$Planner"
  | 8 => .object "TurnNet$Traffic"
  | 9 => .object "TurnNet$History"
  | 10 => .object "TurnNet$State"
  | 11 => .array (.object "TurnNet$State")
  | 12 => .array .boolean
  | _ => .object "TurnNet$State"
abbrev wsX100 : List Cond := u_ws RX10 TX10 14
theorem nmX10 : ∀ a, a < 14 → ∀ b, b < 14 → a ≠ b → (TX10 a).2.1 ≠ (TX10 b).2.1 := by decide +kernel
theorem tyX10_ok : ∀ k, k < 14 → parseFieldDescriptor (TX10 k).2.2.1 = some (tyX10 k) := by decide +kernel
abbrev cX10_init : ByteArray := prog_1_method_1_code
def yX10_init : MethodName := ⟨RX10, "<init>", "()V"⟩
abbrev cX10_feed : ByteArray := prog_1_method_2_code
def yX10_feed : MethodName := ⟨RX10, "feed", "(IIIII)I"⟩
abbrev cX10_end : ByteArray := prog_1_method_3_code
def yX10_end : MethodName := ⟨RX10, "end", "(I)I"⟩
abbrev cX10_net : ByteArray := prog_1_method_4_code
def yX10_net : MethodName := ⟨RX10, "net", "()I"⟩
abbrev cX10_fault : ByteArray := prog_1_method_5_code
def yX10_fault : MethodName := ⟨RX10, "fault", "(I)I"⟩
abbrev cX10_cut : ByteArray := prog_1_method_6_code
def yX10_cut : MethodName := ⟨RX10, "cut", "(I)I"⟩
abbrev cX10_mend : ByteArray := prog_1_method_7_code
def yX10_mend : MethodName := ⟨RX10, "mend", "(I)I"⟩
abbrev cX10_turn : ByteArray := prog_1_method_8_code
def yX10_turn : MethodName := ⟨RX10, "turn", "(I)I"⟩
abbrev cX10_orient : ByteArray := prog_1_method_9_code
def yX10_orient : MethodName := ⟨RX10, "orient", "(I)I"⟩
abbrev cX10_change : ByteArray := prog_1_method_10_code
def yX10_change : MethodName := ⟨RX10, "change", "(II)I"⟩
abbrev cX10_send : ByteArray := prog_1_method_11_code
def yX10_send : MethodName := ⟨RX10, "send", "(II)I"⟩
abbrev cX10_steps : ByteArray := prog_1_method_12_code
def yX10_steps : MethodName := ⟨RX10, "steps", "(I)I"⟩
abbrev cX10_undo : ByteArray := prog_1_method_13_code
def yX10_undo : MethodName := ⟨RX10, "undo", "()Z"⟩
abbrev cX10_redo : ByteArray := prog_1_method_14_code
def yX10_redo : MethodName := ⟨RX10, "redo", "()Z"⟩
abbrev cX10_node : ByteArray := prog_1_method_15_code
def yX10_node : MethodName := ⟨RX10, "node", "(II)I"⟩
abbrev cX10_link : ByteArray := prog_1_method_16_code
def yX10_link : MethodName := ⟨RX10, "link", "(II)I"⟩
abbrev cX10_length : ByteArray := prog_1_method_17_code
def yX10_length : MethodName := ⟨RX10, "length", "(II)I"⟩
abbrev cX10_plain : ByteArray := prog_1_method_18_code
def yX10_plain : MethodName := ⟨RX10, "plain", "(II)I"⟩
abbrev cX10_ways : ByteArray := prog_1_method_19_code
def yX10_ways : MethodName := ⟨RX10, "ways", "(II)J"⟩
abbrev cX10_through : ByteArray := prog_1_method_20_code
def yX10_through : MethodName := ⟨RX10, "through", "(III)J"⟩
abbrev cX10_entry : ByteArray := prog_1_method_21_code
def yX10_entry : MethodName := ⟨RX10, "entry", "(III)I"⟩
abbrev cX10_path : ByteArray := prog_1_method_22_code
def yX10_path : MethodName := ⟨RX10, "path", "(III)I"⟩
abbrev cX10_load : ByteArray := prog_1_method_23_code
def yX10_load : MethodName := ⟨RX10, "load", "(I)I"⟩
abbrev cX10_heaviest : ByteArray := prog_1_method_24_code
def yX10_heaviest : MethodName := ⟨RX10, "heaviest", "(I)I"⟩
abbrev cX10_pairs : ByteArray := prog_1_method_25_code
def yX10_pairs : MethodName := ⟨RX10, "pairs", "(I)I"⟩
abbrev cX10_depends : ByteArray := prog_1_method_26_code
def yX10_depends : MethodName := ⟨RX10, "depends", "(II)I"⟩
abbrev cX10_rings : ByteArray := prog_1_method_27_code
def yX10_rings : MethodName := ⟨RX10, "rings", "()I"⟩
abbrev cX10_ring : ByteArray := prog_1_method_28_code
def yX10_ring : MethodName := ⟨RX10, "ring", "(I)I"⟩
abbrev cX10_plan : ByteArray := prog_1_method_29_code
def yX10_plan : MethodName := ⟨RX10, "plan", "(II)I"⟩
abbrev cX10_phase : ByteArray := prog_1_method_30_code
def yX10_phase : MethodName := ⟨RX10, "phase", "(II)I"⟩
abbrev cX10_rooted : ByteArray := prog_1_method_31_code
def yX10_rooted : MethodName := ⟨RX10, "rooted", "(II)I"⟩
abbrev cX10_best : ByteArray := prog_1_method_32_code
def yX10_best : MethodName := ⟨RX10, "best", "(I)I"⟩
abbrev cX10_without : ByteArray := prog_1_method_33_code
def yX10_without : MethodName := ⟨RX10, "without", "(II)I"⟩
abbrev cX10_dearest : ByteArray := prog_1_method_34_code
def yX10_dearest : MethodName := ⟨RX10, "dearest", "()I"⟩
abbrev cX10_apart : ByteArray := prog_1_method_35_code
def yX10_apart : MethodName := ⟨RX10, "apart", "(II)I"⟩
abbrev cX10_around : ByteArray := prog_1_method_36_code
def yX10_around : MethodName := ⟨RX10, "around", "(III)I"⟩
abbrev cX10_pivots : ByteArray := prog_1_method_37_code
def yX10_pivots : MethodName := ⟨RX10, "pivots", "()I"⟩
abbrev cX10_game : ByteArray := prog_1_method_38_code
def yX10_game : MethodName := ⟨RX10, "game", "(III)I"⟩
abbrev cX10_packet : ByteArray := prog_1_method_39_code
def yX10_packet : MethodName := ⟨RX10, "packet", "(II)I"⟩
abbrev cX10_drains : ByteArray := prog_1_method_40_code
def yX10_drains : MethodName := ⟨RX10, "drains", "()I"⟩
abbrev cX10_stuck : ByteArray := prog_1_method_41_code
def yX10_stuck : MethodName := ⟨RX10, "stuck", "()I"⟩
abbrev cX10_image : ByteArray := prog_1_method_42_code
def yX10_image : MethodName := ⟨RX10, "image", "(I)I"⟩
abbrev cX10_back : ByteArray := prog_1_method_43_code
def yX10_back : MethodName := ⟨RX10, "back", "(I)I"⟩
abbrev cX10_about : ByteArray := prog_1_method_44_code
def yX10_about : MethodName := ⟨RX10, "about", "(I)I"⟩
abbrev cX10_upEndsBy : ByteArray := prog_1_method_45_code
def yX10_upEndsBy : MethodName := ⟨RX10, "upEndsBy", "(I)I"⟩
abbrev cX10_planFor : ByteArray := prog_1_method_46_code
def yX10_planFor : MethodName := ⟨RX10, "planFor", "(I)V"⟩
abbrev cX10_goSteps : ByteArray := prog_1_method_47_code
def yX10_goSteps : MethodName := ⟨RX10, "goSteps", "(LTurnNet$State;I)I"⟩
abbrev cX10_runEmpty : ByteArray := prog_1_method_48_code
def yX10_runEmpty : MethodName := ⟨RX10, "runEmpty", "()I"⟩
abbrev cX10_worthOf : ByteArray := prog_1_method_49_code
def yX10_worthOf : MethodName := ⟨RX10, "worthOf", "(II)I"⟩
abbrev cX10_pairsWithoutWay : ByteArray := prog_1_method_50_code
def yX10_pairsWithoutWay : MethodName := ⟨RX10, "pairsWithoutWay", "(II)I"⟩
abbrev cX10_hopsWhereWays : ByteArray := prog_1_method_51_code
def yX10_hopsWhereWays : MethodName := ⟨RX10, "hopsWhereWays", "()I"⟩
def RX11 : String := "TurnNetModel"
def TX11 : u_T := fun k => match k with
  | 0 => ("TurnNetModel", "all", "[I", true)
  | 1 => ("TurnNetModel", "nodes", "[I", true)
  | 2 => ("TurnNetModel", "links", "[I", true)
  | 3 => ("TurnNetModel", "roots", "[I", true)
  | 4 => ("TurnNetModel", "rooms", "[I", true)
  | 5 => ("TurnNetModel", "units", "[I", true)
  | 6 => ("TurnNetModel", "ruled", "[I", true)
  | 7 => ("TurnNetModel", "ends", "[I", true)
  | 8 => ("TurnNetModel", "rule", "[I", true)
  | 9 => ("TurnNetModel", "bank", "I", false)
  | 10 => ("TurnNetModel", "tape", "[B", true)
  | 11 => ("TurnNetModel", "taped", "I", false)
  | 12 => ("TurnNetModel", "size", "I", false)
  | 13 => ("TurnNetModel", "next", "I", false)
  | 14 => ("TurnNetModel", "at", "I", false)
  | 15 => ("TurnNetModel", "token", "I", false)
  | 16 => ("TurnNetModel", "number", "I", false)
  | 17 => ("TurnNetModel", "word", "I", false)
  | 18 => ("TurnNetModel", "found", "I", false)
  | 19 => ("TurnNetModel", "foundAt", "I", false)
  | 20 => ("TurnNetModel", "fault", "I", false)
  | 21 => ("TurnNetModel", "faultAt", "I", false)
  | 22 => ("TurnNetModel", "letters", "[B", true)
  | 23 => ("TurnNetModel", "hasRoot", "Z", false)
  | 24 => ("TurnNetModel", "hasRank", "Z", false)
  | 25 => ("TurnNetModel", "hasRoom", "Z", false)
  | 26 => ("TurnNetModel", "open", "[I", true)
  | 27 => ("TurnNetModel", "opened", "I", false)
  | 28 => ("TurnNetModel", "deep", "I", false)
  | 29 => ("TurnNetModel", "far", "[I", true)
  | 30 => ("TurnNetModel", "ranks", "[I", true)
  | 31 => ("TurnNetModel", "wouldBe", "[I", true)
  | 32 => ("TurnNetModel", "stack", "[I", true)
  | 33 => ("TurnNetModel", "turns", "[J", true)
  | 34 => ("TurnNetModel", "farTo", "[I", true)
  | 35 => ("TurnNetModel", "onward", "[J", true)
  | 36 => ("TurnNetModel", "come", "[J", true)
  | 37 => ("TurnNetModel", "entries", "[I", true)
  | 38 => ("TurnNetModel", "used", "[I", true)
  | 39 => ("TurnNetModel", "loads", "[I", true)
  | 40 => ("TurnNetModel", "noWay", "I", false)
  | 41 => ("TurnNetModel", "lengths", "I", false)
  | 42 => ("TurnNetModel", "longer", "I", false)
  | 43 => ("TurnNetModel", "noneAtAll", "I", false)
  | 44 => ("TurnNetModel", "aside", "[I", true)
  | 45 => ("TurnNetModel", "carries", "[I", true)
  | 46 => ("TurnNetModel", "cameBy", "[I", true)
  | 47 => ("TurnNetModel", "isTaken", "[Z", true)
  | 48 => ("TurnNetModel", "phaseOf", "[I", true)
  | 49 => ("TurnNetModel", "drawn", "I", false)
  | 50 => ("TurnNetModel", "waited", "I", false)
  | 51 => ("TurnNetModel", "went", "I", false)
  | 52 => ("TurnNetModel", "refused", "I", false)
  | 53 => ("TurnNetModel", "was", "[I", true)
  | 54 => ("TurnNetModel", "boxAll", "[I", true)
  | 55 => ("TurnNetModel", "isBoxed", "[Z", true)
  | 56 => ("TurnNetModel", "acts", "I", false)
  | _ => ("TurnNetModel", "undone", "I", false)
def tyX11 : Nat → FieldType := fun k => match k with
  | 0 => .array .int
  | 1 => .array .int
  | 2 => .array .int
  | 3 => .array .int
  | 4 => .array .int
  | 5 => .array .int
  | 6 => .array .int
  | 7 => .array .int
  | 8 => .array .int
  | 9 => .int
  | 10 => .array .byte
  | 11 => .int
  | 12 => .int
  | 13 => .int
  | 14 => .int
  | 15 => .int
  | 16 => .int
  | 17 => .int
  | 18 => .int
  | 19 => .int
  | 20 => .int
  | 21 => .int
  | 22 => .array .byte
  | 23 => .boolean
  | 24 => .boolean
  | 25 => .boolean
  | 26 => .array .int
  | 27 => .int
  | 28 => .int
  | 29 => .array .int
  | 30 => .array .int
  | 31 => .array .int
  | 32 => .array .int
  | 33 => .array .long
  | 34 => .array .int
  | 35 => .array .long
  | 36 => .array .long
  | 37 => .array .int
  | 38 => .array .int
  | 39 => .array .int
  | 40 => .int
  | 41 => .int
  | 42 => .int
  | 43 => .int
  | 44 => .array .int
  | 45 => .array .int
  | 46 => .array .int
  | 47 => .array .boolean
  | 48 => .array .int
  | 49 => .int
  | 50 => .int
  | 51 => .int
  | 52 => .int
  | 53 => .array .int
  | 54 => .array .int
  | 55 => .array .boolean
  | 56 => .int
  | _ => .int
abbrev wsX110 : List Cond := u_ws RX11 TX11 58
theorem nmX11 : ∀ a, a < 58 → ∀ b, b < 58 → a ≠ b → (TX11 a).2.1 ≠ (TX11 b).2.1 := by decide +kernel
theorem tyX11_ok : ∀ k, k < 58 → parseFieldDescriptor (TX11 k).2.2.1 = some (tyX11 k) := by decide +kernel
abbrev cX11_init : ByteArray := prog_13_method_1_code
def yX11_init : MethodName := ⟨RX11, "<init>", "()V"⟩
abbrev cX11_isIn : ByteArray := prog_13_method_2_code
def yX11_isIn : MethodName := ⟨RX11, "isIn", "(III)Z"⟩
abbrev cX11_feed : ByteArray := prog_13_method_3_code
def yX11_feed : MethodName := ⟨RX11, "feed", "(IIIII)I"⟩
abbrev cX11_end : ByteArray := prog_13_method_4_code
def yX11_end : MethodName := ⟨RX11, "end", "(I)I"⟩
abbrev cX11_signAt : ByteArray := prog_13_method_5_code
def yX11_signAt : MethodName := ⟨RX11, "signAt", "(I)I"⟩
abbrev cX11_isLetter : ByteArray := prog_13_method_6_code
def yX11_isLetter : MethodName := ⟨RX11, "isLetter", "(I)Z"⟩
abbrev cX11_isDigit : ByteArray := prog_13_method_7_code
def yX11_isDigit : MethodName := ⟨RX11, "isDigit", "(I)Z"⟩
abbrev cX11_isSign : ByteArray := prog_13_method_8_code
def yX11_isSign : MethodName := ⟨RX11, "isSign", "(I)Z"⟩
abbrev cX11_isBlank : ByteArray := prog_13_method_9_code
def yX11_isBlank : MethodName := ⟨RX11, "isBlank", "(I)Z"⟩
abbrev cX11_scan : ByteArray := prog_13_method_10_code
def yX11_scan : MethodName := ⟨RX11, "scan", "()V"⟩
abbrev cX11_scanWord : ByteArray := prog_13_method_11_code
def yX11_scanWord : MethodName := ⟨RX11, "scanWord", "()V"⟩
abbrev cX11_isSame : ByteArray := prog_13_method_12_code
def yX11_isSame : MethodName := ⟨RX11, "isSame", "(II)Z"⟩
abbrev cX11_scanNumber : ByteArray := prog_13_method_13_code
def yX11_scanNumber : MethodName := ⟨RX11, "scanNumber", "()V"⟩
abbrev cX11_fail : ByteArray := prog_13_method_14_code
def yX11_fail : MethodName := ⟨RX11, "fail", "(I)V"⟩
abbrev cX11_isAt : ByteArray := prog_13_method_15_code
def yX11_isAt : MethodName := ⟨RX11, "isAt", "(I)Z"⟩
abbrev cX11_isWord : ByteArray := prog_13_method_16_code
def yX11_isWord : MethodName := ⟨RX11, "isWord", "(I)Z"⟩
abbrev cX11_need : ByteArray := prog_13_method_17_code
def yX11_need : MethodName := ⟨RX11, "need", "(I)V"⟩
abbrev cX11_numeral : ByteArray := prog_13_method_18_code
def yX11_numeral : MethodName := ⟨RX11, "numeral", "(II)I"⟩
abbrev cX11_clearBank : ByteArray := prog_13_method_19_code
def yX11_clearBank : MethodName := ⟨RX11, "clearBank", "(I)V"⟩
abbrev cX11_endAt : ByteArray := prog_13_method_20_code
def yX11_endAt : MethodName := ⟨RX11, "endAt", "(III)I"⟩
abbrev cX11_readAll : ByteArray := prog_13_method_21_code
def yX11_readAll : MethodName := ⟨RX11, "readAll", "(I)V"⟩
abbrev cX11_readLine : ByteArray := prog_13_method_22_code
def yX11_readLine : MethodName := ⟨RX11, "readLine", "(I)V"⟩
abbrev cX11_readLink : ByteArray := prog_13_method_23_code
def yX11_readLink : MethodName := ⟨RX11, "readLink", "(I)V"⟩
abbrev cX11_isJoined : ByteArray := prog_13_method_24_code
def yX11_isJoined : MethodName := ⟨RX11, "isJoined", "(III)Z"⟩
abbrev cX11_lay : ByteArray := prog_13_method_25_code
def yX11_lay : MethodName := ⟨RX11, "lay", "(II)V"⟩
abbrev cX11_bindsBy : ByteArray := prog_13_method_26_code
def yX11_bindsBy : MethodName := ⟨RX11, "bindsBy", "(I)I"⟩
abbrev cX11_readRule : ByteArray := prog_13_method_27_code
def yX11_readRule : MethodName := ⟨RX11, "readRule", "(I)V"⟩
abbrev cX11_layOpen : ByteArray := prog_13_method_28_code
def yX11_layOpen : MethodName := ⟨RX11, "layOpen", "(I)V"⟩
abbrev cX11_push : ByteArray := prog_13_method_29_code
def yX11_push : MethodName := ⟨RX11, "push", "(I)V"⟩
abbrev cX11_readUnit : ByteArray := prog_13_method_30_code
def yX11_readUnit : MethodName := ⟨RX11, "readUnit", "(I)Z"⟩
abbrev cX11_closeMinus : ByteArray := prog_13_method_31_code
def yX11_closeMinus : MethodName := ⟨RX11, "closeMinus", "(I)V"⟩
abbrev cX11_closeOne : ByteArray := prog_13_method_32_code
def yX11_closeOne : MethodName := ⟨RX11, "closeOne", "(I)V"⟩
abbrev cX11_binary : ByteArray := prog_13_method_33_code
def yX11_binary : MethodName := ⟨RX11, "binary", "()I"⟩
abbrev cX11_readBinary : ByteArray := prog_13_method_34_code
def yX11_readBinary : MethodName := ⟨RX11, "readBinary", "(I)Z"⟩
abbrev cX11_net : ByteArray := prog_13_method_35_code
def yX11_net : MethodName := ⟨RX11, "net", "()I"⟩
abbrev cX11_fault : ByteArray := prog_13_method_36_code
def yX11_fault : MethodName := ⟨RX11, "fault", "(I)I"⟩
abbrev cX11_nodesNow : ByteArray := prog_13_method_37_code
def yX11_nodesNow : MethodName := ⟨RX11, "nodesNow", "()I"⟩
abbrev cX11_linksNow : ByteArray := prog_13_method_38_code
def yX11_linksNow : MethodName := ⟨RX11, "linksNow", "()I"⟩
abbrev cX11_endOf : ByteArray := prog_13_method_39_code
def yX11_endOf : MethodName := ⟨RX11, "endOf", "(II)I"⟩
abbrev cX11_isNode : ByteArray := prog_13_method_40_code
def yX11_isNode : MethodName := ⟨RX11, "isNode", "(I)Z"⟩
abbrev cX11_isLink : ByteArray := prog_13_method_41_code
def yX11_isLink : MethodName := ⟨RX11, "isLink", "(I)Z"⟩
abbrev cX11_isChannel : ByteArray := prog_13_method_42_code
def yX11_isChannel : MethodName := ⟨RX11, "isChannel", "(I)Z"⟩
abbrev cX11_stands : ByteArray := prog_13_method_43_code
def yX11_stands : MethodName := ⟨RX11, "stands", "(I)Z"⟩
abbrev cX11_startAnew : ByteArray := prog_13_method_44_code
def yX11_startAnew : MethodName := ⟨RX11, "startAnew", "()V"⟩
abbrev cX11_linksOf : ByteArray := prog_13_method_45_code
def yX11_linksOf : MethodName := ⟨RX11, "linksOf", "(I)I"⟩
abbrev cX11_layFar : ByteArray := prog_13_method_46_code
def yX11_layFar : MethodName := ⟨RX11, "layFar", "(II)V"⟩
abbrev cX11_work : ByteArray := prog_13_method_47_code
def yX11_work : MethodName := ⟨RX11, "work", "(III)I"⟩
abbrev cX11_rankOf : ByteArray := prog_13_method_48_code
def yX11_rankOf : MethodName := ⟨RX11, "rankOf", "(I)I"⟩
abbrev cX11_layRanks : ByteArray := prog_13_method_49_code
def yX11_layRanks : MethodName := ⟨RX11, "layRanks", "(I)V"⟩
abbrev cX11_isAbove : ByteArray := prog_13_method_50_code
def yX11_isAbove : MethodName := ⟨RX11, "isAbove", "(II)Z"⟩
abbrev cX11_orientBy : ByteArray := prog_13_method_51_code
def yX11_orientBy : MethodName := ⟨RX11, "orientBy", "(I)V"⟩
abbrev cX11_flips : ByteArray := prog_13_method_52_code
def yX11_flips : MethodName := ⟨RX11, "flips", "()I"⟩
abbrev cX11_takeOver : ByteArray := prog_13_method_53_code
def yX11_takeOver : MethodName := ⟨RX11, "takeOver", "()V"⟩
abbrev cX11_fromOf : ByteArray := prog_13_method_54_code
def yX11_fromOf : MethodName := ⟨RX11, "fromOf", "(I)I"⟩
abbrev cX11_toOf : ByteArray := prog_13_method_55_code
def yX11_toOf : MethodName := ⟨RX11, "toOf", "(I)I"⟩
abbrev cX11_channels : ByteArray := prog_13_method_56_code
def yX11_channels : MethodName := ⟨RX11, "channels", "()I"⟩
abbrev cX11_isUpBy : ByteArray := prog_13_method_57_code
def yX11_isUpBy : MethodName := ⟨RX11, "isUpBy", "(II)Z"⟩
abbrev cX11_isUp : ByteArray := prog_13_method_58_code
def yX11_isUp : MethodName := ⟨RX11, "isUp", "(I)Z"⟩
abbrev cX11_isTurn : ByteArray := prog_13_method_59_code
def yX11_isTurn : MethodName := ⟨RX11, "isTurn", "(IIII)Z"⟩
abbrev cX11_isLawful : ByteArray := prog_13_method_60_code
def yX11_isLawful : MethodName := ⟨RX11, "isLawful", "(II)Z"⟩
abbrev cX11_layTurns : ByteArray := prog_13_method_61_code
def yX11_layTurns : MethodName := ⟨RX11, "layTurns", "()V"⟩
abbrev cX11_roundOf : ByteArray := prog_13_method_62_code
def yX11_roundOf : MethodName := ⟨RX11, "roundOf", "(I)I"⟩
abbrev cX11_hasRing : ByteArray := prog_13_method_63_code
def yX11_hasRing : MethodName := ⟨RX11, "hasRing", "()Z"⟩
abbrev cX11_depends : ByteArray := prog_13_method_64_code
def yX11_depends : MethodName := ⟨RX11, "depends", "(II)I"⟩
abbrev cX11_rings : ByteArray := prog_13_method_65_code
def yX11_rings : MethodName := ⟨RX11, "rings", "()I"⟩
abbrev cX11_ring : ByteArray := prog_13_method_66_code
def yX11_ring : MethodName := ⟨RX11, "ring", "(I)I"⟩
abbrev cX11_stateAt : ByteArray := prog_13_method_67_code
def yX11_stateAt : MethodName := ⟨RX11, "stateAt", "(III)I"⟩
abbrev cX11_isOpen : ByteArray := prog_13_method_68_code
def yX11_isOpen : MethodName := ⟨RX11, "isOpen", "(II)Z"⟩
abbrev cX11_behind : ByteArray := prog_13_method_69_code
def yX11_behind : MethodName := ⟨RX11, "behind", "(IZ)I"⟩
abbrev cX11_layGoal : ByteArray := prog_13_method_70_code
def yX11_layGoal : MethodName := ⟨RX11, "layGoal", "(I)V"⟩
abbrev cX11_layGoals : ByteArray := prog_13_method_71_code
def yX11_layGoals : MethodName := ⟨RX11, "layGoals", "()V"⟩
abbrev cX11_isNext : ByteArray := prog_13_method_72_code
def yX11_isNext : MethodName := ⟨RX11, "isNext", "(III)Z"⟩
abbrev cX11_lengthTo : ByteArray := prog_13_method_73_code
def yX11_lengthTo : MethodName := ⟨RX11, "lengthTo", "(II)I"⟩
abbrev cX11_length : ByteArray := prog_13_method_74_code
def yX11_length : MethodName := ⟨RX11, "length", "(II)I"⟩
abbrev cX11_plain : ByteArray := prog_13_method_75_code
def yX11_plain : MethodName := ⟨RX11, "plain", "(II)I"⟩
abbrev cX11_layOnward : ByteArray := prog_13_method_76_code
def yX11_layOnward : MethodName := ⟨RX11, "layOnward", "(I)V"⟩
abbrev cX11_layCome : ByteArray := prog_13_method_77_code
def yX11_layCome : MethodName := ⟨RX11, "layCome", "(II)V"⟩
abbrev cX11_ways : ByteArray := prog_13_method_78_code
def yX11_ways : MethodName := ⟨RX11, "ways", "(II)J"⟩
abbrev cX11_through : ByteArray := prog_13_method_79_code
def yX11_through : MethodName := ⟨RX11, "through", "(III)J"⟩
abbrev cX11_layTable : ByteArray := prog_13_method_80_code
def yX11_layTable : MethodName := ⟨RX11, "layTable", "()V"⟩
abbrev cX11_leastUsed : ByteArray := prog_13_method_81_code
def yX11_leastUsed : MethodName := ⟨RX11, "leastUsed", "(III)I"⟩
abbrev cX11_entry : ByteArray := prog_13_method_82_code
def yX11_entry : MethodName := ⟨RX11, "entry", "(III)I"⟩
abbrev cX11_pathAt : ByteArray := prog_13_method_83_code
def yX11_pathAt : MethodName := ⟨RX11, "pathAt", "(III)I"⟩
abbrev cX11_path : ByteArray := prog_13_method_84_code
def yX11_path : MethodName := ⟨RX11, "path", "(III)I"⟩
abbrev cX11_layLoads : ByteArray := prog_13_method_85_code
def yX11_layLoads : MethodName := ⟨RX11, "layLoads", "()V"⟩
abbrev cX11_load : ByteArray := prog_13_method_86_code
def yX11_load : MethodName := ⟨RX11, "load", "(I)I"⟩
abbrev cX11_heaviestNow : ByteArray := prog_13_method_87_code
def yX11_heaviestNow : MethodName := ⟨RX11, "heaviestNow", "()I"⟩
abbrev cX11_heaviest : ByteArray := prog_13_method_88_code
def yX11_heaviest : MethodName := ⟨RX11, "heaviest", "(I)I"⟩
abbrev cX11_layPairs : ByteArray := prog_13_method_89_code
def yX11_layPairs : MethodName := ⟨RX11, "layPairs", "()V"⟩
abbrev cX11_addPair : ByteArray := prog_13_method_90_code
def yX11_addPair : MethodName := ⟨RX11, "addPair", "(II)V"⟩
abbrev cX11_pairs : ByteArray := prog_13_method_91_code
def yX11_pairs : MethodName := ⟨RX11, "pairs", "(I)I"⟩
abbrev cX11_putAside : ByteArray := prog_13_method_92_code
def yX11_putAside : MethodName := ⟨RX11, "putAside", "()V"⟩
abbrev cX11_bringBack : ByteArray := prog_13_method_93_code
def yX11_bringBack : MethodName := ⟨RX11, "bringBack", "()V"⟩
abbrev cX11_rootedBy : ByteArray := prog_13_method_94_code
def yX11_rootedBy : MethodName := ⟨RX11, "rootedBy", "(II)I"⟩
abbrev cX11_rooted : ByteArray := prog_13_method_95_code
def yX11_rooted : MethodName := ⟨RX11, "rooted", "(II)I"⟩
abbrev cX11_best : ByteArray := prog_13_method_96_code
def yX11_best : MethodName := ⟨RX11, "best", "(I)I"⟩
abbrev cX11_isStanding : ByteArray := prog_13_method_97_code
def yX11_isStanding : MethodName := ⟨RX11, "isStanding", "(I)Z"⟩
abbrev cX11_without : ByteArray := prog_13_method_98_code
def yX11_without : MethodName := ⟨RX11, "without", "(II)I"⟩
abbrev cX11_dearest : ByteArray := prog_13_method_99_code
def yX11_dearest : MethodName := ⟨RX11, "dearest", "()I"⟩
abbrev cX11_around : ByteArray := prog_13_method_100_code
def yX11_around : MethodName := ⟨RX11, "around", "(III)I"⟩
abbrev cX11_plainPairs : ByteArray := prog_13_method_101_code
def yX11_plainPairs : MethodName := ⟨RX11, "plainPairs", "(I)I"⟩
abbrev cX11_pairsOf : ByteArray := prog_13_method_102_code
def yX11_pairsOf : MethodName := ⟨RX11, "pairsOf", "(I)I"⟩
abbrev cX11_pivots : ByteArray := prog_13_method_103_code
def yX11_pivots : MethodName := ⟨RX11, "pivots", "()I"⟩
abbrev cX11_oneMore : ByteArray := prog_13_method_104_code
def yX11_oneMore : MethodName := ⟨RX11, "oneMore", "(II)Z"⟩
abbrev cX11_apart : ByteArray := prog_13_method_105_code
def yX11_apart : MethodName := ⟨RX11, "apart", "(II)I"⟩
abbrev cX11_isEither : ByteArray := prog_13_method_106_code
def yX11_isEither : MethodName := ⟨RX11, "isEither", "(II)Z"⟩
abbrev cX11_isSafe : ByteArray := prog_13_method_107_code
def yX11_isSafe : MethodName := ⟨RX11, "isSafe", "()Z"⟩
abbrev cX11_takePhase : ByteArray := prog_13_method_108_code
def yX11_takePhase : MethodName := ⟨RX11, "takePhase", "(I)I"⟩
abbrev cX11_turnTaken : ByteArray := prog_13_method_109_code
def yX11_turnTaken : MethodName := ⟨RX11, "turnTaken", "()V"⟩
abbrev cX11_goPhases : ByteArray := prog_13_method_110_code
def yX11_goPhases : MethodName := ⟨RX11, "goPhases", "(II)I"⟩
abbrev cX11_planFor : ByteArray := prog_13_method_111_code
def yX11_planFor : MethodName := ⟨RX11, "planFor", "(I)I"⟩
abbrev cX11_plan : ByteArray := prog_13_method_112_code
def yX11_plan : MethodName := ⟨RX11, "plan", "(II)I"⟩
abbrev cX11_phase : ByteArray := prog_13_method_113_code
def yX11_phase : MethodName := ⟨RX11, "phase", "(II)I"⟩
abbrev cX11_standing : ByteArray := prog_13_method_114_code
def yX11_standing : MethodName := ⟨RX11, "standing", "()I"⟩
abbrev cX11_cut : ByteArray := prog_13_method_115_code
def yX11_cut : MethodName := ⟨RX11, "cut", "(I)I"⟩
abbrev cX11_mend : ByteArray := prog_13_method_116_code
def yX11_mend : MethodName := ⟨RX11, "mend", "(I)I"⟩
abbrev cX11_turn : ByteArray := prog_13_method_117_code
def yX11_turn : MethodName := ⟨RX11, "turn", "(I)I"⟩
abbrev cX11_orient : ByteArray := prog_13_method_118_code
def yX11_orient : MethodName := ⟨RX11, "orient", "(I)I"⟩
abbrev cX11_change : ByteArray := prog_13_method_119_code
def yX11_change : MethodName := ⟨RX11, "change", "(II)I"⟩
abbrev cX11_isPacket : ByteArray := prog_13_method_120_code
def yX11_isPacket : MethodName := ⟨RX11, "isPacket", "(I)Z"⟩
abbrev cX11_freePacket : ByteArray := prog_13_method_121_code
def yX11_freePacket : MethodName := ⟨RX11, "freePacket", "()I"⟩
abbrev cX11_packetsNow : ByteArray := prog_13_method_122_code
def yX11_packetsNow : MethodName := ⟨RX11, "packetsNow", "()I"⟩
abbrev cX11_canSend : ByteArray := prog_13_method_123_code
def yX11_canSend : MethodName := ⟨RX11, "canSend", "(II)Z"⟩
abbrev cX11_goSend : ByteArray := prog_13_method_124_code
def yX11_goSend : MethodName := ⟨RX11, "goSend", "(II)I"⟩
abbrev cX11_send : ByteArray := prog_13_method_125_code
def yX11_send : MethodName := ⟨RX11, "send", "(II)I"⟩
abbrev cX11_wayOf : ByteArray := prog_13_method_126_code
def yX11_wayOf : MethodName := ⟨RX11, "wayOf", "(I)I"⟩
abbrev cX11_cameBy : ByteArray := prog_13_method_127_code
def yX11_cameBy : MethodName := ⟨RX11, "cameBy", "(I)I"⟩
abbrev cX11_goStep : ByteArray := prog_13_method_128_code
def yX11_goStep : MethodName := ⟨RX11, "goStep", "()I"⟩
abbrev cX11_goPacket : ByteArray := prog_13_method_129_code
def yX11_goPacket : MethodName := ⟨RX11, "goPacket", "(I)Z"⟩
abbrev cX11_goSteps : ByteArray := prog_13_method_130_code
def yX11_goSteps : MethodName := ⟨RX11, "goSteps", "(I)I"⟩
abbrev cX11_steps : ByteArray := prog_13_method_131_code
def yX11_steps : MethodName := ⟨RX11, "steps", "(I)I"⟩
abbrev cX11_packet : ByteArray := prog_13_method_132_code
def yX11_packet : MethodName := ⟨RX11, "packet", "(II)I"⟩
abbrev cX11_drains : ByteArray := prog_13_method_133_code
def yX11_drains : MethodName := ⟨RX11, "drains", "()I"⟩
abbrev cX11_stuck : ByteArray := prog_13_method_134_code
def yX11_stuck : MethodName := ⟨RX11, "stuck", "()I"⟩
abbrev cX11_draw : ByteArray := prog_13_method_135_code
def yX11_draw : MethodName := ⟨RX11, "draw", "()I"⟩
abbrev cX11_gameOnce : ByteArray := prog_13_method_137_code
def yX11_gameOnce : MethodName := ⟨RX11, "gameOnce", "()V"⟩
abbrev cX11_game : ByteArray := prog_13_method_138_code
def yX11_game : MethodName := ⟨RX11, "game", "(III)I"⟩
abbrev cX11_node : ByteArray := prog_13_method_139_code
def yX11_node : MethodName := ⟨RX11, "node", "(II)I"⟩
abbrev cX11_aboveOf : ByteArray := prog_13_method_140_code
def yX11_aboveOf : MethodName := ⟨RX11, "aboveOf", "(I)I"⟩
abbrev cX11_packetsAt : ByteArray := prog_13_method_141_code
def yX11_packetsAt : MethodName := ⟨RX11, "packetsAt", "(I)I"⟩
abbrev cX11_link : ByteArray := prog_13_method_142_code
def yX11_link : MethodName := ⟨RX11, "link", "(II)I"⟩
abbrev cX11_keepAct : ByteArray := prog_13_method_143_code
def yX11_keepAct : MethodName := ⟨RX11, "keepAct", "()V"⟩
abbrev cX11_swapAll : ByteArray := prog_13_method_144_code
def yX11_swapAll : MethodName := ⟨RX11, "swapAll", "()V"⟩
abbrev cX11_undo : ByteArray := prog_13_method_145_code
def yX11_undo : MethodName := ⟨RX11, "undo", "()Z"⟩
abbrev cX11_redo : ByteArray := prog_13_method_146_code
def yX11_redo : MethodName := ⟨RX11, "redo", "()Z"⟩
abbrev cX11_image : ByteArray := prog_13_method_147_code
def yX11_image : MethodName := ⟨RX11, "image", "(I)I"⟩
abbrev cX11_back : ByteArray := prog_13_method_148_code
def yX11_back : MethodName := ⟨RX11, "back", "(I)I"⟩
abbrev cX11_about : ByteArray := prog_13_method_149_code
def yX11_about : MethodName := ⟨RX11, "about", "(I)I"⟩
def RJ6 : String := "java/lang/Integer"
def TJ6 : u_T := fun k => match k with
  | _ => ("", "", "", false)
def tyJ6 : Nat → FieldType := fun k => match k with
  | _ => .int
abbrev wsJ60 : List Cond := u_ws RJ6 TJ6 0
theorem nmJ6 : ∀ a, a < 0 → ∀ b, b < 0 → a ≠ b → (TJ6 a).2.1 ≠ (TJ6 b).2.1 := by decide +kernel
theorem tyJ6_ok : ∀ k, k < 0 → parseFieldDescriptor (TJ6 k).2.2.1 = some (tyJ6 k) := by decide +kernel
abbrev cJ6_bitCount_0f7a4 : ByteArray := prog_14_method_49_code
def yJ6_bitCount_0f7a4 : MethodName := ⟨RJ6, "bitCount", "(I)I"⟩
def RJ9 : String := "java/lang/Math"
def TJ9 : u_T := fun k => match k with
  | _ => ("", "", "", false)
def tyJ9 : Nat → FieldType := fun k => match k with
  | _ => .int
abbrev wsJ90 : List Cond := u_ws RJ9 TJ9 0
theorem nmJ9 : ∀ a, a < 0 → ∀ b, b < 0 → a ≠ b → (TJ9 a).2.1 ≠ (TJ9 b).2.1 := by decide +kernel
theorem tyJ9_ok : ∀ k, k < 0 → parseFieldDescriptor (TJ9 k).2.2.1 = some (tyJ9 k) := by decide +kernel
abbrev cJ9_max_7cf53 : ByteArray := prog_15_method_65_code
def yJ9_max_7cf53 : MethodName := ⟨RJ9, "max", "(II)I"⟩
abbrev cJ9_min_7cf53 : ByteArray := prog_15_method_69_code
def yJ9_min_7cf53 : MethodName := ⟨RJ9, "min", "(II)I"⟩
def RJ0 : String := "java/lang/String"
def TJ0 : u_T := fun k => match k with
  | _ => ("", "", "", false)
def tyJ0 : Nat → FieldType := fun k => match k with
  | _ => .int
abbrev wsJ00 : List Cond := u_ws RJ0 TJ0 0
theorem nmJ0 : ∀ a, a < 0 → ∀ b, b < 0 → a ≠ b → (TJ0 a).2.1 ≠ (TJ0 b).2.1 := by decide +kernel
theorem tyJ0_ok : ∀ k, k < 0 → parseFieldDescriptor (TJ0 k).2.2.1 = some (tyJ0 k) := by decide +kernel
abbrev cJ0_length_8abf5 : ByteArray := prog_16_method_54_code
def yJ0_length_8abf5 : MethodName := ⟨RJ0, "length", "()I"⟩
abbrev cJ0_charAt_5068e : ByteArray := prog_16_method_56_code
def yJ0_charAt_5068e : MethodName := ⟨RJ0, "charAt", "(I)C"⟩
abbrev cJ0_coder_7d493 : ByteArray := prog_16_method_152_code
def yJ0_coder_7d493 : MethodName := ⟨RJ0, "coder", "()B"⟩
abbrev cJ0_isLatin1_aae02 : ByteArray := prog_16_method_154_code
def yJ0_isLatin1_aae02 : MethodName := ⟨RJ0, "isLatin1", "()Z"⟩
abbrev cJ0_checkIndex_df160 : ByteArray := prog_16_method_155_code
def yJ0_checkIndex_df160 : MethodName := ⟨RJ0, "checkIndex", "(II)V"⟩
def RJ1 : String := "java/lang/StringLatin1"
def TJ1 : u_T := fun k => match k with
  | _ => ("", "", "", false)
def tyJ1 : Nat → FieldType := fun k => match k with
  | _ => .int
abbrev wsJ10 : List Cond := u_ws RJ1 TJ1 0
theorem nmJ1 : ∀ a, a < 0 → ∀ b, b < 0 → a ≠ b → (TJ1 a).2.1 ≠ (TJ1 b).2.1 := by decide +kernel
theorem tyJ1_ok : ∀ k, k < 0 → parseFieldDescriptor (TJ1 k).2.2.1 = some (tyJ1 k) := by decide +kernel
abbrev cJ1_charAt_3b067 : ByteArray := prog_17_method_2_code
def yJ1_charAt_3b067 : MethodName := ⟨RJ1, "charAt", "([BI)C"⟩
def RJ2 : String := "java/lang/StringUTF16"
def TJ2 : u_T := fun k => match k with
  | _ => ("", "", "", false)
def tyJ2 : Nat → FieldType := fun k => match k with
  | _ => .int
abbrev wsJ20 : List Cond := u_ws RJ2 TJ2 0
theorem nmJ2 : ∀ a, a < 0 → ∀ b, b < 0 → a ≠ b → (TJ2 a).2.1 ≠ (TJ2 b).2.1 := by decide +kernel
theorem tyJ2_ok : ∀ k, k < 0 → parseFieldDescriptor (TJ2 k).2.2.1 = some (tyJ2 k) := by decide +kernel
abbrev cJ2_getChar_3b067 : ByteArray := prog_18_method_5_code
def yJ2_getChar_3b067 : MethodName := ⟨RJ2, "getChar", "([BI)C"⟩
abbrev cJ2_length_9d52b : ByteArray := prog_18_method_6_code
def yJ2_length_9d52b : MethodName := ⟨RJ2, "length", "([B)I"⟩
abbrev cJ2_charAt_3b067 : ByteArray := prog_18_method_83_code
def yJ2_charAt_3b067 : MethodName := ⟨RJ2, "charAt", "([BI)C"⟩
abbrev cJ2_checkIndex_2214a : ByteArray := prog_18_method_91_code
def yJ2_checkIndex_2214a : MethodName := ⟨RJ2, "checkIndex", "(I[B)V"⟩
def RJ10 : String := "java/lang/System"
def TJ10 : u_T := fun k => match k with
  | _ => ("", "", "", false)
def tyJ10 : Nat → FieldType := fun k => match k with
  | _ => .int
abbrev wsJ100 : List Cond := u_ws RJ10 TJ10 0
theorem nmJ10 : ∀ a, a < 0 → ∀ b, b < 0 → a ≠ b → (TJ10 a).2.1 ≠ (TJ10 b).2.1 := by decide +kernel
theorem tyJ10_ok : ∀ k, k < 0 → parseFieldDescriptor (TJ10 k).2.2.1 = some (tyJ10 k) := by decide +kernel
def RJ3 : String := "jdk/internal/util/Preconditions"
def TJ3 : u_T := fun k => match k with
  | _ => ("", "", "", false)
def tyJ3 : Nat → FieldType := fun k => match k with
  | _ => .int
abbrev wsJ30 : List Cond := u_ws RJ3 TJ3 0
theorem nmJ3 : ∀ a, a < 0 → ∀ b, b < 0 → a ≠ b → (TJ3 a).2.1 ≠ (TJ3 b).2.1 := by decide +kernel
theorem tyJ3_ok : ∀ k, k < 0 → parseFieldDescriptor (TJ3 k).2.2.1 = some (tyJ3 k) := by decide +kernel
abbrev cJ3_checkIndex_8e157 : ByteArray := prog_20_method_11_code
def yJ3_checkIndex_8e157 : MethodName := ⟨RJ3, "checkIndex", "(IILjava/util/function/BiFunction;)I"⟩
def RL : String := "TurnNetLaw"
abbrev cL_law : ByteArray := code
def yL_law : MethodName := ⟨RL, "law", "([I)Z"⟩
abbrev vwCl : List vw_C := [(RX0, TX0, 5), (RX1, TX1, 4), (RX2, TX2, 12), (RX3, TX3, 5), (RX4, TX4, 5), (RX5, TX5, 12), (RX6, TX6, 12), (RX7, TX7, 9), (RX8, TX8, 3), (RX9, TX9, 3), (RX10, TX10, 14), (RX11, TX11, 58)]
end
section
/-! An interpreter of bytecode over a picture of the heap, for the kernel to run: all is numbers. A value is 4 n + k: k = 0 the int n (modulo 2^32), 1 the long n, 2 a reference (0: null, 1: the script, q + 2: place q, 1000 + i: the i-th String), 3 the n-th number that is not known: it lies in an interval. -/
/-- a cell: its kind (0 .. 11 a class, 12 byte[], 13 int[], 14 long[], 15 boolean[], 16 State[]), its length, what it holds -/
abbrev rx_C : Type := Nat × Nat × List Nat
/-- the picture of a heap: how many cells, and a tree of 256 places -/
noncomputable def rx_T : Nat → Type := fun n => Nat.rec (Option rx_C) (fun _ t => t × t) n
abbrev rx_H : Type := Nat × rx_T 8
noncomputable def rx_tg (n : Nat) : rx_T n → Nat → Option rx_C := Nat.rec (motive := fun n => rx_T n → Nat → Option rx_C) (fun t _ => t) (fun n ih (t : rx_T n × rx_T n) k => bif Nat.beq (Nat.mod k 2) 0 then ih t.1 (Nat.div k 2) else ih t.2 (Nat.div k 2)) n
noncomputable def rx_ts (n : Nat) : rx_T n → Nat → rx_C → rx_T n := Nat.rec (motive := fun n => rx_T n → Nat → rx_C → rx_T n) (fun _ _ c => some c) (fun n ih (t : rx_T n × rx_T n) k c => bif Nat.beq (Nat.mod k 2) 0 then ((ih t.1 (Nat.div k 2) c, t.2) : rx_T n × rx_T n) else ((t.1, ih t.2 (Nat.div k 2) c) : rx_T n × rx_T n)) n
noncomputable def rx_t0 (n : Nat) : rx_T n := Nat.rec (motive := fun n => rx_T n) (none : Option rx_C) (fun n t => ((t, t) : rx_T n × rx_T n)) n
noncomputable def rx_h0 : rx_H := (0, rx_t0 8)
noncomputable def rx_hg (h : rx_H) (q : Nat) : Option rx_C := bif Nat.blt q h.1 then rx_tg 8 h.2 q else none
noncomputable def rx_hs (h : rx_H) (q : Nat) (c : rx_C) : rx_H := (h.1, rx_ts 8 h.2 q c)
noncomputable def rx_hp (h : rx_H) (c : rx_C) : rx_H := (Nat.succ h.1, rx_ts 8 h.2 h.1 c)
/-- intervals of the numbers that are not known, each number 2^31 more -/
abbrev rx_I : Type := List (Nat × Nat)
abbrev rx_L : Type := List Nat
/-- pc, locals (2: none), stack, heap, intervals, cells and slots made -/
abbrev rx_S : Type := Nat × rx_L × List Nat × rx_H × rx_I × Nat × Nat
/-- what comes back: an answer (2: none), heap, intervals -/
abbrev rx_O : Type := Nat × rx_H × rx_I
/-- what every step knows: default contents, kinds of fields -/
abbrev rx_K : Type := List (List Nat) × List (List Nat)
/-- a method's numbers: locals, room (frames, locals, cells, slots), parameters, what it answers (0 nothing, 1 int, 2 boolean, 3 long), the script's length and 1 (0: there is none) -/
abbrev rx_N : Type := Nat × Nat × Nat × Nat × Nat × Nat × Nat × Nat × (Nat → Nat)
noncomputable def rx_mL (r : rx_N) : Nat := r.1
noncomputable def rx_rf (r : rx_N) : Nat := r.2.1
noncomputable def rx_rl (r : rx_N) : Nat := r.2.2.1
noncomputable def rx_rc (r : rx_N) : Nat := r.2.2.2.1
noncomputable def rx_rs (r : rx_N) : Nat := r.2.2.2.2.1
noncomputable def rx_np (r : rx_N) : Nat := r.2.2.2.2.2.1
noncomputable def rx_rk (r : rx_N) : Nat := r.2.2.2.2.2.2.1
noncomputable def rx_sl (r : rx_N) : Nat := r.2.2.2.2.2.2.2.1
/-- the script's ints -/
noncomputable def rx_sx (r : rx_N) : Nat → Nat := r.2.2.2.2.2.2.2.2
noncomputable def rx_nil : Nat → Nat := fun _ => 0
/-- what an instruction does that isn't a call or a return: pc, two notes, locals, stack .. -/
abbrev rx_Hd : Type := rx_K → rx_N → Nat → Nat → Nat → rx_L → List Nat → rx_H → rx_I → Nat → Nat → Option (List rx_S)
/-- an instruction: place, kind (0 a step, 1 ireturn, 2 lreturn, 3 return, 4 a call, 5 a static call), what it does, itself, length, two notes, where its word stands -/
abbrev rx_E : Type := Nat × Nat × rx_Hd × Instr × Nat × Nat × Nat × Nat × Nat
/-- a method: its numbers; code; name, bytes, return type; where its words stand (code, instance or static, selects, initialized) -/
abbrev rx_M : Type := rx_N × List (List rx_E) × (MethodName × ByteArray × Option FieldType) × ((Nat × Nat) × (Nat × Nat) × (Nat × Nat) × (Nat × Nat))
noncomputable def rx_n (r : rx_M) : rx_N := r.1
noncomputable def rx_cd (r : rx_M) : List (List rx_E) := r.2.1
noncomputable def rx_y (r : rx_M) : MethodName := r.2.2.1.1
noncomputable def rx_b (r : rx_M) : ByteArray := r.2.2.1.2.1
noncomputable def rx_rt (r : rx_M) : Option FieldType := r.2.2.1.2.2
/-- lists by places -/
noncomputable def rx_nth {α : Type} (l : List α) : Nat → Option α := List.rec (motive := fun _ => Nat → Option α) (fun _ => none) (fun x _ ih i => Nat.casesOn i (some x) (fun j => ih j)) l
noncomputable def rx_upd {α : Type} (l : List α) : Nat → α → List α := List.rec (motive := fun _ => Nat → α → List α) (fun _ _ => []) (fun x t ih i v => Nat.casesOn i (v :: t) (fun j => x :: ih j v)) l
noncomputable def rx_len {α : Type} (l : List α) : Nat := List.rec (motive := fun _ => Nat) 0 (fun _ _ n => Nat.succ n) l
noncomputable def rx_tk (v : Nat) : Nat := Nat.mod v 4
noncomputable def rx_pl (v : Nat) : Nat := Nat.div v 4
noncomputable def rx_isI (v : Nat) : Bool := Nat.beq (rx_tk v) 0 || Nat.beq (rx_tk v) 3
noncomputable def rx_isR (v : Nat) : Bool := Nat.beq (rx_tk v) 2 && Nat.blt 0 (rx_pl v)
noncomputable def rx_isA (v : Nat) : Bool := Nat.beq (rx_tk v) 2
noncomputable def rx_isJ (v : Nat) : Bool := Nat.beq (rx_tk v) 1
noncomputable def rx_int (n : Nat) : Nat := Nat.mul 4 n
noncomputable def rx_lng (n : Nat) : Nat := Nat.succ (Nat.mul 4 n)
noncomputable def rx_ref (q : Nat) : Nat := Nat.add (Nat.mul 4 (Nat.add q 2)) 2
noncomputable def rx_sym (t : Nat) : Nat := Nat.add (Nat.mul 4 t) 3
/-- an int's place among all, the least being 0 -/
noncomputable def rx_bi (n : Nat) : Nat := Nat.mod (Nat.add n 2147483648) 4294967296
/-- a number of which the interval is one number -/
noncomputable def rx_kn (iv : rx_I) (v : Nat) : Nat := bif Nat.beq (rx_tk v) 3 then (match rx_nth iv (rx_pl v) with
    | some (a, b) => bif Nat.beq a b then rx_int (rx_bi a) else v
    | none => v) else v
noncomputable def rx_io (iv : rx_I) (v : Nat) : Option (Nat × Nat) := bif Nat.beq (rx_tk v) 0 then some (rx_bi (rx_pl v), rx_bi (rx_pl v)) else bif Nat.beq (rx_tk v) 3 then rx_nth iv (rx_pl v) else none
/-- an interval cut in two: (a .. m), (m + 1 .. b) -/
noncomputable def rx_cut (iv : rx_I) (v m : Nat) : Option (rx_I × rx_I) := bif Nat.beq (rx_tk v) 3 then (match rx_nth iv (rx_pl v) with
    | some (a, b) => bif Nat.ble a m && Nat.blt m b then some (rx_upd iv (rx_pl v) (a, m), rx_upd iv (rx_pl v) (Nat.succ m, b)) else none
    | none => none) else none
noncomputable def rx_two (pc : Nat) (lv : rx_L) (st : List Nat) (hp : rx_H) (q : Option (rx_I × rx_I)) (c s : Nat) : Option (List rx_S) := match q with
  | some (i1, i2) => some [(pc, lv, st, hp, i1, c, s), (pc, lv, st, hp, i2, c, s)]
  | none => none
/-- cut in the middle -/
noncomputable def rx_half (pc : Nat) (lv : rx_L) (st : List Nat) (hp : rx_H) (iv : rx_I) (c s : Nat) (v : Nat) : Option (List rx_S) := match rx_io iv v with
  | some (a, b) => rx_two pc lv st hp (rx_cut iv v (Nat.div (Nat.add a b) 2)) c s
  | none => none
noncomputable def rx_sml (iv : rx_I) (v : Nat) : Bool := bif Nat.beq (rx_tk v) 3 then (match rx_nth iv (rx_pl v) with
    | some (a, b) => Nat.ble b (Nat.add a 15)
    | none => false) else false
/-- what stood ahead of a local that is written goes, if it was a long -/
noncomputable def rx_low (lv : rx_L) (i : Nat) : rx_L := Nat.casesOn i lv (fun j => match rx_nth lv j with
  | some v => bif rx_isJ v then rx_upd lv j 2 else lv
  | none => lv)
noncomputable def rx_put (lv : rx_L) (i v : Nat) : rx_L := rx_upd (rx_low lv i) i v
noncomputable def rx_putJ (lv : rx_L) (i v : Nat) : rx_L := rx_upd (rx_upd (rx_low lv i) i v) (Nat.succ i) 2
/-- the locals of a method that begins: the arguments, then none -/
noncomputable def rx_args (as : List Nat) : Nat → rx_L := List.rec (motive := fun _ => Nat → rx_L) (fun n => List.replicate n 2) (fun v _ ih n => bif rx_isJ v then v :: 2 :: ih (n - 2) else v :: ih (n - 1)) as
noncomputable def rx_tri (k : ClassFile.Cond) (x y : Nat × Nat) : Option Bool := match k with
  | .lt => bif Nat.blt x.2 y.1 then some true else bif Nat.ble y.2 x.1 then some false else none
  | .ge => bif Nat.blt x.2 y.1 then some false else bif Nat.ble y.2 x.1 then some true else none
  | .gt => bif Nat.blt y.2 x.1 then some true else bif Nat.ble x.2 y.1 then some false else none
  | .le => bif Nat.blt y.2 x.1 then some false else bif Nat.ble x.2 y.1 then some true else none
  | .eq => bif Nat.blt x.2 y.1 || Nat.blt y.2 x.1 then some false else bif Nat.beq x.1 x.2 && (Nat.beq y.1 y.2 && Nat.beq x.1 y.1) then some true else none
  | .ne => bif Nat.blt x.2 y.1 || Nat.blt y.2 x.1 then some true else bif Nat.beq x.1 x.2 && (Nat.beq y.1 y.2 && Nat.beq x.1 y.1) then some false else none
/-- a jump to t, or on -/
noncomputable def rx_br (k : ClassFile.Cond) (t pc : Nat) (x y : Nat) (st r : List Nat) (lv : rx_L) (hp : rx_H) (iv : rx_I) (c s : Nat) : Option (List rx_S) := match rx_io iv x, rx_io iv y with
  | some a, some b => (match rx_tri k a b with
    | some true => some [(t, lv, r, hp, iv, c, s)]
    | some false => some [(Nat.add pc 3, lv, r, hp, iv, c, s)]
    | none => bif Nat.beq b.1 b.2 then rx_two pc lv st hp (rx_cut iv x (bif Nat.blt a.1 b.1 then Nat.pred b.1 else b.1)) c s else rx_two pc lv st hp (rx_cut iv y (bif Nat.blt b.1 a.1 then Nat.pred a.1 else a.1)) c s)
  | _, _ => none
noncomputable def rx_within (iv : rx_I) (v a b : Nat) : Bool := match rx_io iv v with
  | some (x, y) => Nat.ble a x && Nat.ble y b
  | none => false
noncomputable def rx_bit (v : Nat) : Bool := Nat.beq v 0 || Nat.beq v 4
noncomputable def rx_obj (hp : rx_H) (k v : Nat) : Bool := Nat.beq (rx_tk v) 2 && (Nat.ble 2 (rx_pl v) && (match rx_hg hp (Nat.sub (rx_pl v) 2) with
    | some (t, _, _) => Nat.beq t k
    | none => false))
noncomputable def rx_nk (t : ArrayType) : Option (Nat × Nat) := match t with
  | .byte => some (12, 0) | .int => some (13, 0) | .long => some (14, 1) | .boolean => some (15, 0) | _ => none
/-- a field is written: kind 0 int, 1 boolean, 2 a reference -/
noncomputable def rx_fok (k v : Nat) : Bool := bif Nat.beq k 0 then rx_isI v else bif Nat.beq k 1 then rx_bit v else bif Nat.beq k 2 then rx_isA v else false
end
section
noncomputable def rx_h_ld (ok : Nat → Bool) (i n : Nat) : rx_Hd := fun _ _ pc _ _ lv st hp iv c s => match rx_nth lv i with
  | some v => bif ok v then some [(Nat.add pc n, lv, v :: st, hp, iv, c, s)] else none
  | none => none
noncomputable def rx_h_sto (ok : Nat → Bool) (i n : Nat) : rx_Hd := fun _ r pc _ _ lv st hp iv c s => match st with
  | v :: st' => bif ok v && Nat.blt i (rx_mL r) then some [(Nat.add pc n, rx_put lv i v, st', hp, iv, c, s)] else none
  | [] => none
noncomputable def rx_h_stJ (i n : Nat) : rx_Hd := fun _ r pc _ _ lv st hp iv c s => match st with
  | v :: st' => bif rx_isJ v && Nat.blt (Nat.succ i) (rx_mL r) then some [(Nat.add pc n, rx_putJ lv i v, st', hp, iv, c, s)] else none
  | [] => none
noncomputable def rx_h_inc (i : Nat) : rx_Hd := fun _ r pc a _ lv st hp iv c s => match rx_nth lv i with
    | some v => bif Nat.beq (rx_tk v) 0 && Nat.blt i (rx_mL r) then some [(Nat.add pc 3, rx_put lv i (rx_int (Nat.mod (Nat.add (rx_pl v) a) 4294967296)), st, hp, iv, c, s)] else none
    | none => none
noncomputable def rx_h_psh (n : Nat) : rx_Hd := fun _ _ pc a _ lv st hp iv c s => some [(Nat.add pc n, lv, rx_int a :: st, hp, iv, c, s)]
noncomputable def rx_h_pshJ (n : Nat) : rx_Hd := fun _ _ pc a _ lv st hp iv c s => some [(Nat.add pc n, lv, rx_lng a :: st, hp, iv, c, s)]
/-- the words of the class, by their bytes -/
noncomputable def rx_sbyt : List (List Nat) := [[115, 119, 105, 116, 99, 104, 101, 115], [108, 105, 110, 107], [114, 111, 111, 116], [114, 111, 111, 109], [114, 97, 110, 107], [102, 97, 114], [110, 117, 109, 98, 101, 114], [108, 105, 110, 107, 115]]
noncomputable def rx_isW (v : Nat) : Bool := Nat.beq (rx_tk v) 2 && (Nat.ble 1000 (rx_pl v) && Nat.blt (rx_pl v) 1008)
noncomputable def rx_lok (v : Nat) : Bool := (Nat.beq (rx_tk v) 0 && Nat.blt (rx_pl v) 4294967296) || rx_isW v
noncomputable def rx_h_ldc : rx_Hd := fun _ _ pc a _ lv st hp iv c s => bif rx_lok a then some [(Nat.add pc 2, lv, a :: st, hp, iv, c, s)] else none
/-- arithmetic of two ints: f of known ones; g: the interval of what comes, if one is not known -/
noncomputable def rx_h_ar (f : Nat → Nat → Option Nat) (g : Nat → Nat × Nat) : rx_Hd := fun _ _ pc _ _ lv st hp iv c s => match st with
  | y0 :: x0 :: st' =>
    bif Nat.beq (rx_tk (rx_kn iv x0)) 0 && Nat.beq (rx_tk (rx_kn iv y0)) 0 then (match f (rx_pl (rx_kn iv x0)) (rx_pl (rx_kn iv y0)) with
      | some n => some [(Nat.add pc 1, lv, rx_int n :: st', hp, iv, c, s)]
      | none => none)
    else bif rx_sml iv (rx_kn iv y0) then rx_half pc lv st hp iv c s (rx_kn iv y0)
    else bif rx_sml iv (rx_kn iv x0) then rx_half pc lv st hp iv c s (rx_kn iv x0)
    else bif rx_isI x0 && rx_isI y0 then some [(Nat.add pc 1, lv, rx_sym (rx_len iv) :: st', hp, iv ++ [g (rx_kn iv y0)], c, s)] else none
  | _ => none
noncomputable def rx_g32 : Nat → Nat × Nat := fun _ => (0, 4294967295)
/-- of x &&& n, if n is known and not below 0 -/
noncomputable def rx_gand : Nat → Nat × Nat := fun y => bif Nat.beq (rx_tk y) 0 && Nat.blt (rx_pl y) 2147483648 then (2147483648, Nat.add (rx_pl y) 2147483648) else (0, 4294967295)
noncomputable def rx_f_add : Nat → Nat → Option Nat := fun x y => some (Nat.mod (Nat.add x y) 4294967296)
noncomputable def rx_f_sub : Nat → Nat → Option Nat := fun x y => some (Nat.mod (Nat.add x (Nat.sub 4294967296 (Nat.mod y 4294967296))) 4294967296)
noncomputable def rx_f_mul : Nat → Nat → Option Nat := fun x y => some (Nat.mod (Nat.mul x y) 4294967296)
noncomputable def rx_f_and : Nat → Nat → Option Nat := fun x y => some (Nat.mod (Nat.land x y) 4294967296)
noncomputable def rx_f_shl : Nat → Nat → Option Nat := fun x y => some (Nat.mod (Nat.mul x (Nat.pow 2 (Nat.mod y 32))) 4294967296)
noncomputable def rx_f_ushr : Nat → Nat → Option Nat := fun x y => some (Nat.div (Nat.mod x 4294967296) (Nat.pow 2 (Nat.mod y 32)))
noncomputable def rx_i32 (z : Int32) : Nat := z.toBitVec.toNat
noncomputable def rx_i64 (z : Int64) : Nat := z.toBitVec.toNat
noncomputable def rx_f_shr : Nat → Nat → Option Nat := fun x y => some (rx_i32 (Int32.ofNat x >>> (Int32.ofNat y &&& 31)))
noncomputable def rx_f_or : Nat → Nat → Option Nat := fun x y => some (Nat.mod (Nat.lor x y) 4294967296)
noncomputable def rx_f_xor : Nat → Nat → Option Nat := fun x y => some (Nat.mod (Nat.xor x y) 4294967296)
noncomputable def rx_f_div : Nat → Nat → Option Nat := fun x y => bif Nat.beq (Nat.mod y 4294967296) 0 then none else some (rx_i32 (Int32.ofNat x / Int32.ofNat y))
noncomputable def rx_f_rem : Nat → Nat → Option Nat := fun x y => bif Nat.beq (Nat.mod y 4294967296) 0 then none else some (rx_i32 (Int32.ofNat x - Int32.ofNat x / Int32.ofNat y * Int32.ofNat y))
noncomputable def rx_f_neg : Nat → Nat := fun x => rx_i32 (-(Int32.ofNat x))
noncomputable def rx_f_i2b : Nat → Nat := fun x => rx_i32 (Int32.ofNat x).toInt8.toInt32
noncomputable def rx_f_i2c : Nat → Nat := fun x => rx_i32 ((Int32.ofNat x).toUInt32 % 65536).toInt32
noncomputable def rx_j_add : Nat → Nat → Nat := fun x y => rx_i64 (Int64.ofNat x + Int64.ofNat y)
noncomputable def rx_j_sub : Nat → Nat → Nat := fun x y => rx_i64 (Int64.ofNat x - Int64.ofNat y)
noncomputable def rx_j_mul : Nat → Nat → Nat := fun x y => rx_i64 (Int64.ofNat x * Int64.ofNat y)
noncomputable def rx_j_and : Nat → Nat → Nat := fun x y => rx_i64 (Int64.ofNat x &&& Int64.ofNat y)
noncomputable def rx_j_or : Nat → Nat → Nat := fun x y => rx_i64 (Int64.ofNat x ||| Int64.ofNat y)
noncomputable def rx_j_xor : Nat → Nat → Nat := fun x y => rx_i64 (Int64.ofNat x ^^^ Int64.ofNat y)
noncomputable def rx_j_shl : Nat → Nat → Nat := fun x y => rx_i64 (Int64.ofNat x <<< ((Int32.ofNat y).toInt64 &&& 63))
noncomputable def rx_j_shr : Nat → Nat → Nat := fun x y => rx_i64 (Int64.ofNat x >>> ((Int32.ofNat y).toInt64 &&& 63))
/-- of two ints that are known; of one -/
noncomputable def rx_h_ark (f : Nat → Nat → Option Nat) : rx_Hd := fun _ _ pc _ _ lv st hp iv c s => match st with
  | y :: x :: st' => bif Nat.beq (rx_tk x) 0 && Nat.beq (rx_tk y) 0 then (match f (rx_pl x) (rx_pl y) with
    | some n => some [(Nat.add pc 1, lv, rx_int n :: st', hp, iv, c, s)]
    | none => none) else none
  | _ => none
noncomputable def rx_h_un (f : Nat → Nat) : rx_Hd := fun _ _ pc _ _ lv st hp iv c s => match st with
  | x :: st' => bif Nat.beq (rx_tk x) 0 then some [(Nat.add pc 1, lv, rx_int (f (rx_pl x)) :: st', hp, iv, c, s)] else none
  | [] => none
/-- of two longs; of a long and an int -/
noncomputable def rx_h_arJ (f : Nat → Nat → Nat) : rx_Hd := fun _ _ pc _ _ lv st hp iv c s => match st with
  | y :: x :: st' => bif rx_isJ x && rx_isJ y then some [(Nat.add pc 1, lv, rx_lng (f (rx_pl x) (rx_pl y)) :: st', hp, iv, c, s)] else none
  | _ => none
noncomputable def rx_h_shJ (f : Nat → Nat → Nat) : rx_Hd := fun _ _ pc _ _ lv st hp iv c s => match st with
  | y :: x :: st' => bif rx_isJ x && Nat.beq (rx_tk y) 0 then some [(Nat.add pc 1, lv, rx_lng (f (rx_pl x) (rx_pl y)) :: st', hp, iv, c, s)] else none
  | _ => none
noncomputable def rx_f_no : Nat → Nat → Option Nat := fun _ _ => none
noncomputable def rx_f_lcmp : Nat → Nat → Nat := fun x y => rx_i32 (lg_cmp (Int64.ofNat x) (Int64.ofNat y))
noncomputable def rx_h_lcmp : rx_Hd := fun _ _ pc _ _ lv st hp iv c s => match st with
    | y :: x :: st' => bif rx_isJ x && rx_isJ y then some [(Nat.add pc 1, lv, rx_int (rx_f_lcmp (rx_pl x) (rx_pl y)) :: st', hp, iv, c, s)] else none
    | _ => none
noncomputable def rx_h_dup : rx_Hd := fun _ _ pc _ _ lv st hp iv c s => match st with
    | v :: st' => bif rx_isJ v then none else some [(Nat.add pc 1, lv, v :: v :: st', hp, iv, c, s)]
    | [] => none
noncomputable def rx_h_pop : rx_Hd := fun _ _ pc _ _ lv st hp iv c s => match st with
    | v :: st' => bif rx_isJ v then none else some [(Nat.add pc 1, lv, st', hp, iv, c, s)]
    | [] => none
noncomputable def rx_h_pop2 : rx_Hd := fun _ _ pc _ _ lv st hp iv c s => match st with
    | v :: st' => bif rx_isJ v then some [(Nat.add pc 1, lv, st', hp, iv, c, s)] else none
    | [] => none
noncomputable def rx_h_dup2 : rx_Hd := fun _ _ pc _ _ lv st hp iv c s => match st with
    | v :: w :: st' => bif rx_isJ v || rx_isJ w then none else some [(Nat.add pc 1, lv, v :: w :: v :: w :: st', hp, iv, c, s)]
    | _ => none
noncomputable def rx_h_goto : rx_Hd := fun _ _ _ a _ lv st hp iv c s => some [(a, lv, st, hp, iv, c, s)]
noncomputable def rx_h_if (k : ClassFile.Cond) : rx_Hd := fun _ _ pc a _ lv st hp iv c s => match st with
    | x :: st' => rx_br k a pc x 0 st st' lv hp iv c s
    | [] => none
noncomputable def rx_h_icmp (k : ClassFile.Cond) : rx_Hd := fun _ _ pc a _ lv st hp iv c s => match st with
    | y :: x :: st' => rx_br k a pc x y st st' lv hp iv c s
    | _ => none
/-- a switch: a is where it goes if none fits -/
noncomputable def rx_tsw1 (LB HB : Nat) (offs : Array Int) (pc a v x y : Nat) (lv : rx_L) (st' : List Nat) (hp : rx_H) (iv : rx_I) (c s : Nat) : Option (List rx_S) :=
      bif Nat.blt y LB || Nat.blt HB x then some [(a, lv, st', hp, iv, c, s)]
      else bif Nat.beq x y then (match offs[Nat.sub x LB]? with
        | some o => (match (pc : Int) + o with
          | .ofNat t => some [(t, lv, st', hp, iv, c, s)]
          | _ => none)
        | none => none)
      else rx_two pc lv (v :: st') hp (rx_cut iv v (bif Nat.blt x LB then Nat.pred LB else bif Nat.blt HB y then HB else Nat.div (Nat.add x y) 2)) c s
noncomputable def rx_tsw2 (q : Option (Nat × Nat)) (lo hi : Int) (offs : Array Int) (pc a v : Nat) (lv : rx_L) (st' : List Nat) (hp : rx_H) (iv : rx_I) (c s : Nat) : Option (List rx_S) := match q, lo, hi with
    | some (x, y), .ofNat l0, .ofNat h0 => rx_tsw1 (Nat.add l0 2147483648) (Nat.add h0 2147483648) offs pc a v x y lv st' hp iv c s
    | _, _, _ => none
noncomputable def rx_h_tsw (lo hi : Int) (offs : Array Int) : rx_Hd := fun _ _ pc a _ lv st hp iv c s => match st with
  | v :: st' => rx_tsw2 (rx_io iv v) lo hi offs pc a v lv st' hp iv c s
  | [] => none
noncomputable def rx_h_gf : rx_Hd := fun _ _ pc a b lv st hp iv c s => match st with
  | v :: st' => bif Nat.beq (rx_tk v) 2 && Nat.ble 2 (rx_pl v) then (match rx_hg hp (Nat.sub (rx_pl v) 2) with
    | some (t, _, l) => bif Nat.beq t a then (match rx_nth l b with
        | some x => some [(Nat.add pc 3, lv, x :: st', hp, iv, c, s)]
        | none => none) else none
    | none => none) else none
  | [] => none
noncomputable def rx_h_pf : rx_Hd := fun K _ pc a b lv st hp iv c s => match st with
  | x :: v :: st' => bif Nat.beq (rx_tk v) 2 && Nat.ble 2 (rx_pl v) then (match rx_hg hp (Nat.sub (rx_pl v) 2) with
    | some (t, n, l) => (match rx_nth K.2 a with
      | some ks => (match rx_nth ks b with
        | some k => bif Nat.beq t a && (Nat.blt b n && rx_fok k x) then some [(Nat.add pc 3, lv, st', rx_hs hp (Nat.sub (rx_pl v) 2) (t, n, rx_upd l b x), iv, c, s)] else none
        | none => none)
      | none => none)
    | none => none) else none
  | _ => none
/-- an array is read: kinds that will do -/
noncomputable def rx_h_ald (ok : Nat → Bool) : rx_Hd := fun _ r pc _ _ lv st hp iv c s => match st with
  | ix :: v :: st' =>
    bif Nat.beq v 6 then (bif Nat.beq (rx_tk (rx_kn iv ix)) 0 && (ok 13 && Nat.blt (Nat.succ (rx_pl (rx_kn iv ix))) (rx_sl r)) then some [(Nat.add pc 1, lv, rx_int (rx_sx r (rx_pl (rx_kn iv ix))) :: st', hp, iv, c, s)] else none)
    else bif Nat.beq (rx_tk v) 2 && Nat.ble 2 (rx_pl v) then (match rx_hg hp (Nat.sub (rx_pl v) 2) with
    | some (t, n, l) => bif Nat.beq (rx_tk (rx_kn iv ix)) 0 then (bif ok t && (Nat.blt (rx_pl (rx_kn iv ix)) n && Nat.blt n 100000) then (match rx_nth l (rx_pl (rx_kn iv ix)) with
          | some x => some [(Nat.add pc 1, lv, x :: st', hp, iv, c, s)]
          | none => none) else none)
        else rx_half pc lv st hp iv c s (rx_kn iv ix)
    | none => none) else none
  | _ => none
/-- an array is written: whether a value will do in a kind of array -/
noncomputable def rx_ast (ok : Nat → Nat → Bool) (pc : Nat) (lv : rx_L) (st : List Nat) (hp : rx_H) (iv : rx_I) (c s : Nat) : Option (List rx_S) := match st with
  | x :: ix :: v :: st' => bif Nat.beq (rx_tk v) 2 && Nat.ble 2 (rx_pl v) then (match rx_hg hp (Nat.sub (rx_pl v) 2) with
    | some (t, n, l) => bif Nat.beq (rx_tk (rx_kn iv ix)) 0 then (bif ok t x && (Nat.blt (rx_pl (rx_kn iv ix)) n && Nat.blt n 100000) then some [(Nat.add pc 1, lv, st', rx_hs hp (Nat.sub (rx_pl v) 2) (t, n, rx_upd l (rx_pl (rx_kn iv ix)) x), iv, c, s)] else none)
        else rx_half pc lv st hp iv c s (rx_kn iv ix)
    | none => none) else none
  | _ => none
noncomputable def rx_h_iast : rx_Hd := fun _ _ pc _ _ lv st hp iv c s => rx_ast (fun t v => Nat.beq t 13 && rx_isI v) pc lv st hp iv c s
noncomputable def rx_h_bast : rx_Hd := fun _ _ pc _ _ lv st hp iv c s => rx_ast (fun t v => (Nat.beq t 12 && rx_within iv v 2147483520 2147483775) || (Nat.beq t 15 && rx_bit v)) pc lv st hp iv c s
noncomputable def rx_h_aast : rx_Hd := fun _ _ pc _ _ lv st hp iv c s => rx_ast (fun t v => Nat.beq t 16 && rx_obj hp 7 v) pc lv st hp iv c s
noncomputable def rx_h_last : rx_Hd := fun _ _ pc _ _ lv st hp iv c s => rx_ast (fun t v => Nat.beq t 14 && rx_isJ v) pc lv st hp iv c s
noncomputable def rx_h_alen : rx_Hd := fun _ r pc _ _ lv st hp iv c s => match st with
    | v :: st' => bif Nat.beq v 6 then (bif Nat.blt 0 (rx_sl r) then some [(Nat.add pc 1, lv, rx_int (Nat.pred (rx_sl r)) :: st', hp, iv, c, s)] else none)
      else bif Nat.beq (rx_tk v) 2 && Nat.ble 2 (rx_pl v) then (match rx_hg hp (Nat.sub (rx_pl v) 2) with
        | some (t, n, _) => bif Nat.beq t 13 && Nat.blt n 100000 then some [(Nat.add pc 1, lv, rx_int n :: st', hp, iv, c, s)] else none
        | none => none) else none
    | [] => none
/-- a new cell: there is a place, and room -/
noncomputable def rx_new (r : rx_N) (pc : Nat) (lv : rx_L) (st : List Nat) (hp : rx_H) (iv : rx_I) (c s : Nat) (x : rx_C) : Option (List rx_S) :=
  bif Nat.blt hp.1 256 && (Nat.ble (Nat.succ c) (rx_rc r) && Nat.ble (Nat.add s x.2.1) (rx_rs r)) then some [(pc, lv, rx_ref hp.1 :: st, rx_hp hp x, iv, Nat.succ c, Nat.add s x.2.1)] else none
noncomputable def rx_h_newa (t : ArrayType) : rx_Hd := fun _ r pc _ _ lv st hp iv c s => match st with
    | v :: st' => (match rx_nk t with
      | some (k, d) => bif Nat.beq (rx_tk v) 0 && Nat.ble (rx_pl v) 10000 then rx_new r (Nat.add pc 2) lv st' hp iv c s (k, rx_pl v, List.replicate (rx_pl v) d) else none
      | none => none)
    | [] => none
noncomputable def rx_h_anew : rx_Hd := fun _ r pc _ _ lv st hp iv c s => match st with
    | v :: st' => bif Nat.beq (rx_tk v) 0 && Nat.ble (rx_pl v) 10000 then rx_new r (Nat.add pc 3) lv st' hp iv c s (16, rx_pl v, List.replicate (rx_pl v) 2) else none
    | [] => none
noncomputable def rx_h_new : rx_Hd := fun K r pc a _ lv st hp iv c s => match rx_nth K.1 a with
    | some l => rx_new r (Nat.add pc 3) lv st hp iv c s (a, rx_len l, l)
    | none => none
noncomputable def rx_h_no : rx_Hd := fun _ _ _ _ _ _ _ _ _ _ _ => none
/-- what an instruction does that isn't a call or a return -/
noncomputable def rx_sem (ins : Instr) : rx_Hd := match ins with
  | .aload_n k => rx_h_ld rx_isR k.val 1
  | .iload_n k => rx_h_ld rx_isI k.val 1
  | .lload_n k => rx_h_ld rx_isJ k.val 1
  | .iload i => rx_h_ld rx_isI i 2
  | .istore_n k => rx_h_sto rx_isI k.val 1
  | .astore_n k => rx_h_sto rx_isR k.val 1
  | .istore i => rx_h_sto rx_isI i 2
  | .lstore_n k => rx_h_stJ k.val 1
  | .lstore i => rx_h_stJ i 2
  | .iinc i _ => rx_h_inc i
  | .iconst _ => rx_h_psh 1
  | .bipush _ => rx_h_psh 2
  | .sipush _ => rx_h_psh 3
  | .lconst _ => rx_h_pshJ 1
  | .ldc_w _ => rx_h_psh 3
  | .ldc2_w _ => rx_h_pshJ 3
  | .iadd => rx_h_ar rx_f_add rx_g32
  | .isub => rx_h_ar rx_f_sub rx_g32
  | .imul => rx_h_ar rx_f_mul rx_g32
  | .iand => rx_h_ar rx_f_and rx_gand
  | .ishl => rx_h_ar rx_f_shl rx_g32
  | .ishr => rx_h_ark rx_f_shr
  | .iushr => rx_h_ar rx_f_ushr rx_g32
  | .i2b => rx_h_un rx_f_i2b
  | .ineg => rx_h_un rx_f_neg
  | .ior => rx_h_ark rx_f_or
  | .ixor => rx_h_ark rx_f_xor
  | .idiv => rx_h_ark rx_f_div
  | .irem => rx_h_ark rx_f_rem
  | .ladd => rx_h_arJ rx_j_add
  | .lsub => rx_h_arJ rx_j_sub
  | .lmul => rx_h_arJ rx_j_mul
  | .land => rx_h_arJ rx_j_and
  | .lor => rx_h_arJ rx_j_or
  | .lxor => rx_h_arJ rx_j_xor
  | .lshl => rx_h_shJ rx_j_shl
  | .lshr => rx_h_shJ rx_j_shr
  | .lload i => rx_h_ld rx_isJ i 2
  | .laload => rx_h_ald (fun t => Nat.beq t 14)
  | .lastore => rx_h_last
  | .lcmp => rx_h_lcmp
  | .dup => rx_h_dup
  | .pop => rx_h_pop
  | .dup2 => rx_h_dup2
  | .pop2 => rx_h_pop2
  | .ldc _ => rx_h_ldc
  | .goto _ => rx_h_goto
  | .ifCond k _ => rx_h_if k
  | .if_icmp k _ => rx_h_icmp k
  | .tableswitch _ lo hi offs => rx_h_tsw lo hi offs
  | .getfield _ => rx_h_gf
  | .putfield _ => rx_h_pf
  | .iaload => rx_h_ald (fun t => Nat.beq t 13)
  | .baload => rx_h_ald (fun t => Nat.beq t 12 || Nat.beq t 15)
  | .aaload => rx_h_ald (fun t => Nat.beq t 16)
  | .iastore => rx_h_iast
  | .bastore => rx_h_bast
  | .aastore => rx_h_aast
  | .arraylength => rx_h_alen
  | .newarray t => rx_h_newa t
  | .anewarray _ => rx_h_anew
  | .new _ => rx_h_new
  | _ => rx_h_no
noncomputable def rx_find (pc : Nat) (l : List rx_E) : Option rx_E := List.rec (motive := fun _ => Option rx_E) none (fun x _ ih => bif Nat.beq x.1 pc then some x else ih) l
noncomputable def rx_look (cd : List (List rx_E)) (pc : Nat) : Option rx_E := match rx_nth cd (Nat.div pc 16) with
  | some l => rx_find pc l
  | none => none
/-- all of a list -/
noncomputable def rx_all {α β : Type} (f : α → Option (List β)) (l : List α) : Option (List β) := match l with
  | [x] => f x
  | l => l.foldr (fun x acc => match f x with
    | some a => (match acc with
      | some b => some (a ++ b)
      | none => none)
    | none => none) (some [])
noncomputable def rx_cat (st : List Nat) : Nat := List.rec (motive := fun _ => Nat) 0 (fun v _ n => bif rx_isJ v then Nat.add n 2 else Nat.succ n) st
/-- a copy of a whole array of ints onto one that is as long -/
noncomputable def rx_cpy (pc : Nat) (lv : rx_L) (st : List Nat) (hp : rx_H) (iv : rx_I) (c s : Nat) : Option rx_S := match st with
  | n :: dp :: d :: sp :: q :: st' => bif Nat.beq dp 0 && (Nat.beq sp 0 && (Nat.beq (rx_tk d) 2 && (Nat.ble 2 (rx_pl d) && (Nat.beq (rx_tk q) 2 && Nat.ble 2 (rx_pl q))))) then (match rx_hg hp (Nat.sub (rx_pl q) 2), rx_hg hp (Nat.sub (rx_pl d) 2) with
    | some (t, m, l), some (t2, m2, _) => bif Nat.beq t 13 && (Nat.beq t2 13 && (Nat.beq n (rx_int m) && (Nat.beq m m2 && (Nat.blt m 100000 && Nat.ble (rx_cat st') 8)))) then some (Nat.add pc 3, lv, st', rx_hs hp (Nat.sub (rx_pl d) 2) (13, m, l), iv, c, s) else none
    | _, _ => none) else none
  | _ => none
noncomputable def rx_fit (r : rx_N) (c s : Nat) : Bool := Nat.ble c (rx_rc r) && Nat.ble s (rx_rs r)
noncomputable def rx_vret (r : rx_N) (st : List Nat) (hp : rx_H) (iv : rx_I) (c s : Nat) : Option (List rx_O) := match st with
  | [] => bif Nat.beq (rx_rk r) 0 && rx_fit r c s then some [(2, hp, iv)] else none
  | _ => none
noncomputable def rx_iret (r : rx_N) (st : List Nat) (hp : rx_H) (iv : rx_I) (c s : Nat) : Option (List rx_O) := match st with
  | [v] => bif rx_fit r c s && ((Nat.beq (rx_rk r) 1 && rx_isI v) || (Nat.beq (rx_rk r) 2 && rx_bit (rx_kn iv v))) then some [(rx_kn iv v, hp, iv)] else none
  | _ => none
noncomputable def rx_lret (r : rx_N) (st : List Nat) (hp : rx_H) (iv : rx_I) (c s : Nat) : Option (List rx_O) := match st with
  | [v] => bif rx_fit r c s && (Nat.beq (rx_rk r) 3 && rx_isJ v) then some [(v, hp, iv)] else none
  | _ => none
noncomputable def rx_aret (r : rx_N) (st : List Nat) (hp : rx_H) (iv : rx_I) (c s : Nat) : Option (List rx_O) := match st with
  | [v] => bif rx_fit r c s && (Nat.beq (rx_rk r) 4 && rx_isA v) then some [(v, hp, iv)] else none
  | _ => none
/-- a stack, an argument list: the first n of it the other way round, and the rest -/
noncomputable def rx_spl (n : Nat) : List Nat → List Nat → Option (List Nat × List Nat) := Nat.rec (motive := fun _ => List Nat → List Nat → Option (List Nat × List Nat)) (fun st acc => some (acc, st)) (fun _ ih st acc => match st with
  | v :: st' => ih st' (v :: acc)
  | [] => none) n
noncomputable def rx_rcv (hp : rx_H) (ci : Nat) (as : List Nat) : Bool := match as with
  | v :: _ => rx_obj hp ci v
  | [] => false
/-- there is room for a call of q out of r -/
noncomputable def rx_cok (r q : rx_N) (as rest : List Nat) (c s : Nat) : Bool := Nat.ble (rx_cat rest) 8 && (Nat.ble (Nat.succ (rx_rf q)) (rx_rf r) && (Nat.ble (Nat.add (Nat.add 19 (rx_mL q)) (rx_rl q)) (rx_rl r) && (Nat.ble (Nat.add c (rx_rc q)) (rx_rc r) && (Nat.ble (Nat.add s (rx_rs q)) (rx_rs r) && Nat.ble (rx_cat as) (rx_mL q)))))
/-- behind a call; f: what comes then -/
noncomputable def rx_beh {β : Type} (f : rx_M → rx_S → Option (List β)) (r : rx_M) (q : rx_N) (pc : Nat) (lv : rx_L) (rest : List Nat) (c s : Nat) (o : rx_O) : Option (List β) :=
  f r (Nat.add pc 3, lv, (bif Nat.beq (rx_rk q) 0 then rest else o.1 :: rest), o.2.1, o.2.2, Nat.add c (rx_rc q), Nat.add s (rx_rs q))
noncomputable def rx_inv3 {β : Type} (g : rx_M → rx_S → Option (List rx_O)) (f : rx_M → rx_S → Option (List β)) (r q : rx_M) (pc : Nat) (lv : rx_L) (hp : rx_H) (iv : rx_I) (c s : Nat) (as rest : List Nat) : Option (List β) :=
  match g q (0, rx_args as (rx_mL (rx_n q)), [], hp, iv, 0, 0) with
  | some outs => rx_all (rx_beh f r (rx_n q) pc lv rest c s) outs
  | none => none
/-- a call of a method of the table; g: what is called -/
noncomputable def rx_inv {β : Type} (stat : Bool) (P : List rx_M) (g : rx_M → rx_S → Option (List rx_O)) (f : rx_M → rx_S → Option (List β)) (r : rx_M) (pc a ci : Nat) (lv : rx_L) (st : List Nat) (hp : rx_H) (iv : rx_I) (c s : Nat) : Option (List β) := match rx_nth P a with
    | some q => (match rx_spl (bif stat then rx_np (rx_n q) else Nat.succ (rx_np (rx_n q))) st [] with
      | some (as, rest) => bif (stat || rx_rcv hp ci as) && rx_cok (rx_n r) (rx_n q) as rest c s then rx_inv3 g f r q pc lv hp iv c s as rest else none
      | none => none)
    | none => none
/-- Object's own constructor -/
noncomputable def rx_inv1 {β : Type} (f : rx_M → rx_S → Option (List β)) (r : rx_M) (pc : Nat) (lv : rx_L) (st : List Nat) (hp : rx_H) (iv : rx_I) (c s : Nat) : Option (List β) := match st with
    | v :: st' => bif Nat.beq (rx_tk v) 2 && (Nat.ble 2 (rx_pl v) && (Nat.ble 1 (rx_rf (rx_n r)) && Nat.ble (Nat.add (rx_cat st') 12) (rx_rl (rx_n r)))) then f r (Nat.add pc 3, lv, st', hp, iv, c, s) else none
    | [] => none
noncomputable def rx_inv2 {β : Type} (f : rx_M → rx_S → Option (List β)) (r : rx_M) (pc : Nat) (lv : rx_L) (st : List Nat) (hp : rx_H) (iv : rx_I) (c s : Nat) : Option (List β) := match rx_cpy pc lv st hp iv c s with
    | some σ => bif Nat.ble 1 (rx_rf (rx_n r)) && Nat.ble 40 (rx_rl (rx_n r)) then f r σ else none
    | none => none
/-- what the machine does itself: 1 Math.max, 2 Math.min -/
noncomputable def rx_prim (k : Nat) (st : List Nat) : Option (List Nat) := match st with
  | y :: x :: st' => bif Nat.beq (rx_tk x) 0 && Nat.beq (rx_tk y) 0 then (bif Nat.beq k 1 then some ((bif Nat.blt (rx_bi (rx_pl x)) (rx_bi (rx_pl y)) then y else x) :: st') else bif Nat.beq k 2 then some ((bif Nat.blt (rx_bi (rx_pl y)) (rx_bi (rx_pl x)) then y else x) :: st') else none) else none
  | _ => none
noncomputable def rx_invP {β : Type} (f : rx_M → rx_S → Option (List β)) (r : rx_M) (pc k : Nat) (lv : rx_L) (st : List Nat) (hp : rx_H) (iv : rx_I) (c s : Nat) : Option (List β) := match rx_prim k st with
    | some st' => bif Nat.ble 1 (rx_rf (rx_n r)) && (Nat.ble 40 (rx_rl (rx_n r)) && (Nat.ble (rx_cat st') 9 && rx_fit (rx_n r) c s)) then f r (Nat.add pc 3, lv, st', hp, iv, c, s) else none
    | none => none
/-- of words: 3 length, 4 charAt -/
noncomputable def rx_wrd (v : Nat) : Option (List Nat) := bif rx_isW v then rx_nth rx_sbyt (Nat.sub (rx_pl v) 1000) else none
noncomputable def rx_primL (v : Nat) (st : List Nat) : Option (List Nat) := match rx_wrd v with
  | some l => some (rx_int (rx_len l) :: st)
  | none => none
noncomputable def rx_primC (i : Nat) (st : List Nat) : Option (List Nat) := match st with
  | v :: st' => (match rx_wrd v with
    | some l => bif Nat.beq (rx_tk i) 0 then (match rx_nth l (rx_pl i) with
      | some c => some (rx_int c :: st')
      | none => none) else none
    | none => none)
  | [] => none
noncomputable def rx_primS (k : Nat) (st : List Nat) : Option (List Nat) := match st with
  | v :: st' => bif Nat.beq k 3 then rx_primL v st' else bif Nat.beq k 4 then rx_primC v st' else none
  | [] => none
noncomputable def rx_invS {β : Type} (f : rx_M → rx_S → Option (List β)) (r : rx_M) (pc k : Nat) (lv : rx_L) (st : List Nat) (hp : rx_H) (iv : rx_I) (c s : Nat) : Option (List β) := match rx_primS k st with
    | some st' => bif Nat.ble 8 (rx_rf (rx_n r)) && (Nat.ble 400 (rx_rl (rx_n r)) && (Nat.ble (rx_cat st') 9 && rx_fit (rx_n r) c s)) then f r (Nat.add pc 3, lv, st', hp, iv, c, s) else none
    | none => none
noncomputable def rx_call {β : Type} (stat : Bool) (P : List rx_M) (g : rx_M → rx_S → Option (List rx_O)) (f : rx_M → rx_S → Option (List β)) (r : rx_M) (pc a b : Nat) (lv : rx_L) (st : List Nat) (hp : rx_H) (iv : rx_I) (c s : Nat) : Option (List β) :=
  bif Nat.beq b 1 then rx_inv1 f r pc lv st hp iv c s else bif Nat.beq b 2 then rx_inv2 f r pc lv st hp iv c s else bif Nat.beq (Nat.mod b 4) 1 then (bif stat then rx_invP f r pc (Nat.div b 4) lv st hp iv c s else rx_invS f r pc (Nat.div b 4) lv st hp iv c s) else rx_inv stat P g f r pc a (Nat.div b 4) lv st hp iv c s
noncomputable def rx_nxt {β : Type} (f : rx_M → rx_S → Option (List β)) (r : rx_M) (o : Option (List rx_S)) : Option (List β) := match o with
  | some l => rx_all (f r) l
  | none => none
noncomputable def rx_out {β : Type} (z : rx_O → Option (List β)) (o : Option (List rx_O)) : Option (List β) := match o with
  | some l => rx_all z l
  | none => none
/-- one instruction; g: what is called, f: what comes then, z: what a return makes -/
noncomputable def rx_do {β : Type} (P : List rx_M) (K : rx_K) (g : rx_M → rx_S → Option (List rx_O)) (f : rx_M → rx_S → Option (List β)) (z : rx_O → Option (List β)) (r : rx_M) (k : Nat) (h : rx_Hd) (pc a b : Nat) (lv : rx_L) (st : List Nat) (hp : rx_H) (iv : rx_I) (c s : Nat) : Option (List β) :=
  bif Nat.beq k 0 then rx_nxt f r (h K (rx_n r) pc a b lv st hp iv c s)
  else bif Nat.beq k 4 then rx_call false P g f r pc a b lv st hp iv c s
  else bif Nat.beq k 1 then rx_out z (rx_iret (rx_n r) st hp iv c s)
  else bif Nat.beq k 5 then rx_call true P g f r pc a b lv st hp iv c s
  else bif Nat.beq k 3 then rx_out z (rx_vret (rx_n r) st hp iv c s)
  else bif Nat.beq k 2 then rx_out z (rx_lret (rx_n r) st hp iv c s)
  else bif Nat.beq k 6 then rx_out z (rx_aret (rx_n r) st hp iv c s) else none
noncomputable def rx_go {β : Type} (P : List rx_M) (K : rx_K) (g : rx_M → rx_S → Option (List rx_O)) (f : rx_M → rx_S → Option (List β)) (z : rx_O → Option (List β)) (r : rx_M) (σ : rx_S) : Option (List β) := match rx_look (rx_cd r) σ.1 with
    | some x => rx_do P K g f z r x.2.1 x.2.2.1 σ.1 x.2.2.2.2.2.1 x.2.2.2.2.2.2.1 σ.2.1 σ.2.2.1 σ.2.2.2.1 σ.2.2.2.2.1 σ.2.2.2.2.2.1 σ.2.2.2.2.2.2
    | none => none
/-- a whole run: all outcomes -/
noncomputable def rx_run (P : List rx_M) (K : rx_K) (n : Nat) : rx_M → rx_S → Option (List rx_O) :=
  Nat.rec (fun _ _ => none) (fun _ ih r σ => rx_go P K ih ih (fun o => some [o]) r σ) n
/-- k instructions of a method's own (calls are run whole), or up to a place -/
noncomputable def rx_adv (P : List rx_M) (K : rx_K) (n stop : Nat) (r : rx_M) (k : Nat) : rx_S → Option (List rx_S) :=
  Nat.rec (fun σ => some [σ]) (fun _ ih σ => bif Nat.beq σ.1 stop then some [σ] else rx_go P K (rx_run P K n) (fun _ σ' => ih σ') (fun _ => none) r σ) k
/-- the kind of an instruction -/
noncomputable def rx_kd (ins : Instr) : Nat := match ins with
  | .ireturn => 1
  | .lreturn => 2
  | .areturn => 6
  | .return_ => 3
  | .invokevirtual _ => 4
  | .invokespecial _ => 4
  | .invokestatic _ => 5
  | _ => 0
end
section
-- lists by places
theorem rx_nth_eq {α : Type} (l : List α) : ∀ i, rx_nth l i = l[i]? := by
  induction l with
  | nil => intro i; simp [rx_nth]
  | cons x t ih =>
    intro i
    cases i with
    | zero => rfl
    | succ j => exact (ih j).trans (by simp)
theorem rx_upd_eq {α : Type} (l : List α) : ∀ i v, rx_upd l i v = l.set i v := by
  induction l with
  | nil => intro i v; simp [rx_upd]
  | cons x t ih =>
    intro i v
    cases i with
    | zero => rfl
    | succ j => exact congrArg (fun z => x :: z) (ih j v)
theorem rx_len_eq {α : Type} (l : List α) : rx_len l = l.length := by
  induction l with
  | nil => rfl
  | cons x t ih => exact congrArg Nat.succ ih
-- the tree
theorem rx_tg_ts (n : Nat) : ∀ (t : rx_T n) (k k' : Nat) (c : rx_C), k < 2 ^ n → k' < 2 ^ n → rx_tg n (rx_ts n t k c) k' = if k' = k then some c else rx_tg n t k' := by
  induction n with
  | zero =>
    intro t k k' c h h'
    have e : k' = k := by simp at h h'; omega
    rw [if_pos e]
    rfl
  | succ n ih =>
    intro t k k' c h h'
    have hk : k / 2 < 2 ^ n := by rw [Nat.pow_succ] at h; omega
    have hk' : k' / 2 < 2 ^ n := by rw [Nat.pow_succ] at h'; omega
    have one : ∀ (u : rx_T n × rx_T n) (j : Nat), rx_tg (n + 1) u j = bif Nat.beq (j % 2) 0 then rx_tg n u.1 (j / 2) else rx_tg n u.2 (j / 2) := fun u j => rfl
    have two : ∀ (u : rx_T n × rx_T n) (j : Nat), rx_ts (n + 1) u j c = (bif Nat.beq (j % 2) 0 then ((rx_ts n u.1 (j / 2) c, u.2) : rx_T n × rx_T n) else ((u.1, rx_ts n u.2 (j / 2) c) : rx_T n × rx_T n)) := fun u j => rfl
    rw [two t k, one, one t k']
    by_cases e0 : k % 2 = 0 <;> by_cases e1 : k' % 2 = 0
    · rw [show Nat.beq (k % 2) 0 = true by rw [e0]; rfl, show Nat.beq (k' % 2) 0 = true by rw [e1]; rfl]
      simp only [cond_true]
      rw [ih _ _ _ _ hk hk']
      by_cases e : k' = k
      · rw [if_pos e, if_pos (by rw [e])]
      · rw [if_neg e, if_neg (by omega)]
    · rw [show Nat.beq (k % 2) 0 = true by rw [e0]; rfl, show Nat.beq (k' % 2) 0 = false by rw [show k' % 2 = 1 by omega]; rfl]
      simp only [cond_true, cond_false]
      rw [if_neg (by omega)]
    · rw [show Nat.beq (k % 2) 0 = false by rw [show k % 2 = 1 by omega]; rfl, show Nat.beq (k' % 2) 0 = true by rw [e1]; rfl]
      simp only [cond_true, cond_false]
      rw [if_neg (by omega)]
    · rw [show Nat.beq (k % 2) 0 = false by rw [show k % 2 = 1 by omega]; rfl, show Nat.beq (k' % 2) 0 = false by rw [show k' % 2 = 1 by omega]; rfl]
      simp only [cond_false]
      rw [ih _ _ _ _ hk hk']
      by_cases e : k' = k
      · rw [if_pos e, if_pos (by rw [e])]
      · rw [if_neg e, if_neg (by omega)]
theorem rx_blt {a b : Nat} : Nat.blt a b = true ↔ a < b := by simp [Nat.blt_eq]
theorem rx_hg_lt {h : rx_H} {q : Nat} {c : rx_C} (e : rx_hg h q = some c) : q < h.1 := by
  unfold rx_hg at e
  cases hb : Nat.blt q h.1 with
  | true => exact rx_blt.mp hb
  | false => rw [hb] at e; cases e
theorem rx_hg_hs {h : rx_H} (h8 : h.1 ≤ 256) {q q' : Nat} {c : rx_C} (hq : q < h.1) : rx_hg (rx_hs h q c) q' = if q' = q then some c else rx_hg h q' := by
  unfold rx_hg rx_hs
  by_cases hl : q' < h.1
  · rw [rx_blt.mpr hl]
    exact rx_tg_ts 8 h.2 q q' c (by simpa using Nat.lt_of_lt_of_le hq h8) (by simpa using Nat.lt_of_lt_of_le hl h8)
  · rw [show Nat.blt q' h.1 = false from Bool.eq_false_iff.mpr (fun z => hl (rx_blt.mp z)), if_neg (by omega)]; rfl
theorem rx_hg_hp {h : rx_H} (h8 : h.1 < 256) {q' : Nat} {c : rx_C} : rx_hg (rx_hp h c) q' = if q' = h.1 then some c else rx_hg h q' := by
  unfold rx_hg rx_hp
  show (bif Nat.blt q' (h.1 + 1) then rx_tg 8 (rx_ts 8 h.2 h.1 c) q' else none) = _
  by_cases hl : q' < h.1 + 1
  · rw [rx_blt.mpr hl]
    show rx_tg 8 (rx_ts 8 h.2 h.1 c) q' = _
    rw [rx_tg_ts 8 h.2 h.1 q' c (by simpa using h8) (by simp; omega)]
    by_cases e : q' = h.1
    · rw [if_pos e, if_pos e]
    · rw [if_neg e, if_neg e, rx_blt.mpr (by omega)]; rfl
  · rw [show Nat.blt q' (h.1 + 1) = false from Bool.eq_false_iff.mpr (fun z => hl (rx_blt.mp z)), show Nat.blt q' h.1 = false from Bool.eq_false_iff.mpr (fun z => hl (Nat.lt_succ_of_lt (rx_blt.mp z))), if_neg (by omega)]; rfl
-- what the numbers stand for
noncomputable def rx_bias (x : Int32) : Nat := (x.toInt + 2147483648).toNat
noncomputable def rx_cv (b : Nat → Nat) (ad : List Nat) (en : List Int32) (v : Nat) : Option Value :=
  if v % 4 = 0 then some (.int (Int32.ofNat (v / 4)))
  else if v % 4 = 1 then some (.long (Int64.ofNat (v / 4)))
  else if v % 4 = 2 then (if v / 4 = 0 then some .null else if v / 4 = 1 then some (.ref (b 0)) else if 1000 ≤ v / 4 then some (.ref (b (v / 4 - 999))) else (ad[v / 4 - 2]?).map Value.ref)
  else (en[v / 4]?).map Value.int
theorem rx_get_mono {α : Type} {l l' : List α} (h : l <+: l') {i : Nat} {x : α} (e : l[i]? = some x) : l'[i]? = some x := by
  obtain ⟨t, rfl⟩ := h
  rw [List.getElem?_append_left (List.getElem?_eq_some_iff.mp e).1]
  exact e
theorem rx_cv_mono {b : Nat → Nat} {ad ad' : List Nat} {en en' : List Int32} (ha : ad <+: ad') (he : en <+: en') {v : Nat} {x : Value} (h : rx_cv b ad en v = some x) : rx_cv b ad' en' v = some x := by
  unfold rx_cv at h ⊢
  by_cases h0 : v % 4 = 0
  · rw [if_pos h0] at h ⊢; exact h
  rw [if_neg h0] at h ⊢
  by_cases h1 : v % 4 = 1
  · rw [if_pos h1] at h ⊢; exact h
  rw [if_neg h1] at h ⊢
  by_cases h2 : v % 4 = 2
  · rw [if_pos h2] at h ⊢
    by_cases h3 : v / 4 = 0
    · rw [if_pos h3] at h ⊢; exact h
    rw [if_neg h3] at h ⊢
    by_cases h4 : v / 4 = 1
    · rw [if_pos h4] at h ⊢; exact h
    rw [if_neg h4] at h ⊢
    by_cases h9 : 1000 ≤ v / 4
    · rw [if_pos h9] at h ⊢; exact h
    rw [if_neg h9] at h ⊢
    obtain ⟨a, h5, h6⟩ := Option.map_eq_some_iff.mp h
    exact Option.map_eq_some_iff.mpr ⟨a, rx_get_mono ha h5, h6⟩
  · rw [if_neg h2] at h ⊢
    obtain ⟨a, h5, h6⟩ := Option.map_eq_some_iff.mp h
    exact Option.map_eq_some_iff.mpr ⟨a, rx_get_mono he h5, h6⟩
theorem rx_bias_ofNat (n : Nat) : rx_bias (Int32.ofNat n) = rx_bi n := by
  have h : (Int32.ofNat n).toInt = Int.bmod (n : Int) (2 ^ 32) := by simp
  unfold rx_bias rx_bi
  rw [h]
  show _ = (n + 2147483648) % 4294967296
  simp only [Int.bmod]
  omega
theorem rx_bias_inj {x y : Int32} (h : rx_bias x = rx_bias y) : x = y := by
  have h1 := x.le_toInt
  have h2 := y.le_toInt
  unfold rx_bias at h
  apply Int32.toInt_inj.mp
  omega
theorem rx_bias_lt {x y : Int32} : x < y ↔ rx_bias x < rx_bias y := by
  have h1 := x.le_toInt
  have h2 := y.le_toInt
  rw [Int32.lt_iff_toInt_lt]
  unfold rx_bias
  omega
theorem rx_bias_le {x y : Int32} : x ≤ y ↔ rx_bias x ≤ rx_bias y := by
  have h1 := x.le_toInt
  have h2 := y.le_toInt
  rw [Int32.le_iff_toInt_le]
  unfold rx_bias
  omega
theorem rx_bias_max (x : Int32) : rx_bias x ≤ 4294967295 := by
  have h1 := x.toInt_lt
  unfold rx_bias
  omega
theorem rx_of_bias {x : Int32} {a : Nat} (h : rx_bias x = a) : x = Int32.ofNat (rx_bi a) := by
  apply rx_bias_inj
  rw [rx_bias_ofNat, h]
  have := rx_bias_max x
  unfold rx_bi
  show a = ((a + 2147483648) % 4294967296 + 2147483648) % 4294967296
  omega
end
section
-- tags
theorem rx_cv0 {b : Nat → Nat} {ad : List Nat} {en : List Int32} {v : Nat} (h : v % 4 = 0) : rx_cv b ad en v = some (.int (Int32.ofNat (v / 4))) := by unfold rx_cv; rw [if_pos h]
theorem rx_cv1 {b : Nat → Nat} {ad : List Nat} {en : List Int32} {v : Nat} (h : v % 4 = 1) : rx_cv b ad en v = some (.long (Int64.ofNat (v / 4))) := by unfold rx_cv; rw [if_neg (by omega), if_pos h]
theorem rx_cv2 {b : Nat → Nat} {ad : List Nat} {en : List Int32} {v : Nat} (h : v % 4 = 2) (h2 : 2 ≤ v / 4) (h3 : v / 4 < 1000) : rx_cv b ad en v = (ad[v / 4 - 2]?).map Value.ref := by
  unfold rx_cv; rw [if_neg (by omega), if_neg (by omega), if_pos h, if_neg (by omega), if_neg (by omega), if_neg (by omega)]
theorem rx_cvS {b : Nat → Nat} {ad : List Nat} {en : List Int32} {v : Nat} (h : v % 4 = 2) (h3 : 1000 ≤ v / 4) : rx_cv b ad en v = some (.ref (b (v / 4 - 999))) := by
  unfold rx_cv; rw [if_neg (by omega), if_neg (by omega), if_pos h, if_neg (by omega), if_neg (by omega), if_pos h3]
theorem rx_cv3 {b : Nat → Nat} {ad : List Nat} {en : List Int32} {v : Nat} (h : v % 4 = 3) : rx_cv b ad en v = (en[v / 4]?).map Value.int := by unfold rx_cv; rw [if_neg (by omega), if_neg (by omega), if_neg (by omega)]
theorem rx_beq {a b : Nat} : Nat.beq a b = true ↔ a = b := ⟨Nat.eq_of_beq_eq_true, fun h => by rw [h]; exact Nat.beq_refl b⟩
theorem rx_ble {a b : Nat} : Nat.ble a b = true ↔ a ≤ b := ⟨Nat.le_of_ble_eq_true, Nat.ble_eq_true_of_le⟩
theorem rx_and2 {a b : Bool} : (a && b) = true ↔ a = true ∧ b = true := by cases a <;> cases b <;> simp
theorem rx_or2 {a b : Bool} : (a || b) = true ↔ a = true ∨ b = true := by cases a <;> cases b <;> simp
theorem rx_cond {α : Type} {b : Bool} {x : Option α} {y : α} (h : (bif b then x else none) = some y) : b = true ∧ x = some y := by
  cases b with
  | true => exact ⟨rfl, h⟩
  | false => cases h
theorem rx_int_cv (b : Nat → Nat) (ad : List Nat) (en : List Int32) (n : Nat) : rx_cv b ad en (rx_int n) = some (.int (Int32.ofNat n)) := by
  rw [rx_cv0 (show rx_int n % 4 = 0 by show (4 * n) % 4 = 0; omega)]
  rw [show rx_int n / 4 = n by show (4 * n) / 4 = n; omega]
theorem rx_lng_cv (b : Nat → Nat) (ad : List Nat) (en : List Int32) (n : Nat) : rx_cv b ad en (rx_lng n) = some (.long (Int64.ofNat n)) := by
  rw [rx_cv1 (show rx_lng n % 4 = 1 by show (4 * n + 1) % 4 = 1; omega)]
  rw [show rx_lng n / 4 = n by show (4 * n + 1) / 4 = n; omega]
theorem rx_ref_cv {b : Nat → Nat} {ad : List Nat} {en : List Int32} {q a : Nat} (hq : q < 256) (h : ad[q]? = some a) : rx_cv b ad en (rx_ref q) = some (.ref a) := by
  have e1 : rx_ref q % 4 = 2 := by show (4 * (q + 2) + 2) % 4 = 2; omega
  have e2 : rx_ref q / 4 = q + 2 := by show (4 * (q + 2) + 2) / 4 = q + 2; omega
  rw [rx_cv2 e1 (by omega) (by omega), e2, show q + 2 - 2 = q by omega, h]; rfl
theorem rx_sym_cv {b : Nat → Nat} {ad : List Nat} {en : List Int32} {t : Nat} {x : Int32} (h : en[t]? = some x) : rx_cv b ad en (rx_sym t) = some (.int x) := by
  have e1 : rx_sym t % 4 = 3 := by show (4 * t + 3) % 4 = 3; omega
  have e2 : rx_sym t / 4 = t := by show (4 * t + 3) / 4 = t; omega
  rw [rx_cv3 e1, e2, h]; rfl
/-- an int -/
theorem rx_isI_cv {b : Nat → Nat} {ad : List Nat} {en : List Int32} {v : Nat} {x : Value} (h : rx_isI v = true) (hx : rx_cv b ad en v = some x) : ∃ n, x = .int n := by
  rcases rx_or2.mp h with h | h
  · rw [rx_cv0 (rx_beq.mp h)] at hx; exact ⟨_, (Option.some.inj hx).symm⟩
  · rw [rx_cv3 (rx_beq.mp h)] at hx
    obtain ⟨n, -, hn⟩ := Option.map_eq_some_iff.mp hx
    exact ⟨n, hn.symm⟩
theorem rx_isJ_cv {b : Nat → Nat} {ad : List Nat} {en : List Int32} {v : Nat} {x : Value} (h : rx_isJ v = true) (hx : rx_cv b ad en v = some x) : x = .long (Int64.ofNat (v / 4)) := by
  rw [rx_cv1 (rx_beq.mp h)] at hx; exact (Option.some.inj hx).symm
theorem rx_isA_cv {b : Nat → Nat} {ad : List Nat} {en : List Int32} {v : Nat} {x : Value} (h : rx_isA v = true) (hx : rx_cv b ad en v = some x) : x = .null ∨ ∃ a, x = .ref a := by
  have h2 : v % 4 = 2 := rx_beq.mp h
  unfold rx_cv at hx
  rw [if_neg (by omega), if_neg (by omega), if_pos h2] at hx
  by_cases h3 : v / 4 = 0
  · rw [if_pos h3] at hx; exact Or.inl (Option.some.inj hx).symm
  rw [if_neg h3] at hx
  by_cases h4 : v / 4 = 1
  · rw [if_pos h4] at hx; exact Or.inr ⟨_, (Option.some.inj hx).symm⟩
  rw [if_neg h4] at hx
  by_cases h5 : 1000 ≤ v / 4
  · rw [if_pos h5] at hx; exact Or.inr ⟨_, (Option.some.inj hx).symm⟩
  rw [if_neg h5] at hx
  obtain ⟨a, -, ha⟩ := Option.map_eq_some_iff.mp hx
  exact Or.inr ⟨a, ha.symm⟩
theorem rx_isR_cv {b : Nat → Nat} {ad : List Nat} {en : List Int32} {v : Nat} {x : Value} (h : rx_isR v = true) (hx : rx_cv b ad en v = some x) : ∃ a, x = .ref a := by
  obtain ⟨h1, h2⟩ := rx_and2.mp h
  have h2 : 0 < v / 4 := rx_blt.mp h2
  have h1 : v % 4 = 2 := rx_beq.mp h1
  unfold rx_cv at hx
  rw [if_neg (by omega), if_neg (by omega), if_pos h1, if_neg (by omega)] at hx
  by_cases h4 : v / 4 = 1
  · rw [if_pos h4] at hx; exact ⟨_, (Option.some.inj hx).symm⟩
  rw [if_neg h4] at hx
  by_cases h5 : 1000 ≤ v / 4
  · rw [if_pos h5] at hx; exact ⟨_, (Option.some.inj hx).symm⟩
  rw [if_neg h5] at hx
  obtain ⟨a, -, ha⟩ := Option.map_eq_some_iff.mp hx
  exact ⟨a, ha.symm⟩
theorem rx_cat_cv {b : Nat → Nat} {ad : List Nat} {en : List Int32} {v : Nat} {x : Value} (hx : rx_cv b ad en v = some x) : x.category = if rx_isJ v = true then 2 else 1 := by
  by_cases h1 : v % 4 = 1
  · rw [if_pos (show rx_isJ v = true from rx_beq.mpr h1)]
    rw [rx_cv1 h1] at hx; cases hx; rfl
  · rw [if_neg (show ¬ rx_isJ v = true from fun z => h1 (rx_beq.mp z))]
    by_cases h0 : v % 4 = 0
    · rw [rx_cv0 h0] at hx; cases hx; rfl
    by_cases h2 : v % 4 = 2
    · rcases rx_isA_cv (show rx_isA v = true from rx_beq.mpr h2) hx with rfl | ⟨a, rfl⟩ <;> rfl
    · rw [rx_cv3 (by omega)] at hx
      obtain ⟨n, -, hn⟩ := Option.map_eq_some_iff.mp hx
      cases hn; rfl
-- the numbers that are not known
noncomputable def rx_RI (iv : rx_I) (en : List Int32) : Prop := iv.length = en.length ∧ ∀ (t a b : Nat) (x : Int32), iv[t]? = some (a, b) → en[t]? = some x → a ≤ rx_bias x ∧ rx_bias x ≤ b
theorem rx_RI.ex {iv : rx_I} {en : List Int32} (h : rx_RI iv en) {t a b : Nat} (e : iv[t]? = some (a, b)) : ∃ x, en[t]? = some x ∧ a ≤ rx_bias x ∧ rx_bias x ≤ b := by
  have hl : t < en.length := by rw [← h.1]; exact (List.getElem?_eq_some_iff.mp e).1
  exact ⟨en[t], List.getElem?_eq_getElem hl, h.2 t a b _ e (List.getElem?_eq_getElem hl)⟩
theorem rx_RI.push {iv : rx_I} {en : List Int32} (h : rx_RI iv en) {a b : Nat} {x : Int32} (h1 : a ≤ rx_bias x) (h2 : rx_bias x ≤ b) : rx_RI (iv ++ [(a, b)]) (en ++ [x]) := by
  refine ⟨by simp [h.1], fun t a' b' y e1 e2 => ?_⟩
  by_cases ht : t < iv.length
  · rw [List.getElem?_append_left ht] at e1
    rw [List.getElem?_append_left (by rw [← h.1]; exact ht)] at e2
    exact h.2 t a' b' y e1 e2
  · rw [List.getElem?_append_right (by omega)] at e1
    rw [List.getElem?_append_right (by rw [← h.1]; omega)] at e2
    have hz : t - iv.length < 1 := (List.getElem?_eq_some_iff.mp e1).1
    have h0 : t - iv.length = 0 := by omega
    rw [h0] at e1
    rw [← h.1, h0] at e2
    cases e1; cases e2
    exact ⟨h1, h2⟩
theorem rx_kn_or (iv : rx_I) (v : Nat) : rx_kn iv v = v ∨ ∃ a : Nat, rx_tk v = 3 ∧ iv[rx_pl v]? = some (a, a) ∧ rx_kn iv v = rx_int (rx_bi a) := by
  unfold rx_kn
  cases h3 : Nat.beq (rx_tk v) 3 with
  | false => exact Or.inl rfl
  | true =>
    rw [cond_true, rx_nth_eq]
    cases e : iv[rx_pl v]? with
    | none => exact Or.inl rfl
    | some q =>
      obtain ⟨a, b'⟩ := q
      show (bif Nat.beq a b' then rx_int (rx_bi a) else v) = v ∨ _
      cases hab : Nat.beq a b' with
      | false => exact Or.inl rfl
      | true =>
        have hab : a = b' := rx_beq.mp hab
        subst hab
        refine Or.inr ⟨a, rx_beq.mp h3, rfl, ?_⟩
        show (bif Nat.beq a a then _ else _) = _
        rw [Nat.beq_refl, cond_true]
/-- a value of which the interval is one number -/
theorem rx_kn_cv {b : Nat → Nat} {ad : List Nat} {iv : rx_I} {en : List Int32} (h : rx_RI iv en) {v : Nat} {x : Value} (hx : rx_cv b ad en v = some x) : rx_cv b ad en (rx_kn iv v) = some x := by
  rcases rx_kn_or iv v with h1 | ⟨a, h3, e, h1⟩
  · rw [h1]; exact hx
  · obtain ⟨y, e1, e2, e3⟩ := h.ex e
    have hy : y = Int32.ofNat (rx_bi a) := rx_of_bias (Nat.le_antisymm e3 e2)
    rw [h1, rx_int_cv, ← hy]
    have h4 := rx_cv3 (b := b) (ad := ad) (en := en) h3
    rw [hx] at h4
    rw [h4]
    exact (congrArg (Option.map Value.int) e1).symm
/-- the interval of a value -/
theorem rx_io_cv {b : Nat → Nat} {ad : List Nat} {iv : rx_I} {en : List Int32} (h : rx_RI iv en) {v lo hi : Nat} (hi' : rx_io iv v = some (lo, hi)) : ∃ n, rx_cv b ad en v = some (.int n) ∧ lo ≤ rx_bias n ∧ rx_bias n ≤ hi := by
  unfold rx_io at hi'
  cases h0 : Nat.beq (rx_tk v) 0 with
  | true =>
    rw [h0] at hi'
    simp only [cond_true, Option.some.injEq, Prod.mk.injEq] at hi'
    refine ⟨_, rx_cv0 (rx_beq.mp h0), ?_⟩
    rw [rx_bias_ofNat]
    exact ⟨Nat.le_of_eq hi'.1.symm, Nat.le_of_eq hi'.2⟩
  | false =>
    rw [h0] at hi'
    simp only [cond_false] at hi'
    cases h3 : Nat.beq (rx_tk v) 3 with
    | false => rw [h3] at hi'; cases hi'
    | true =>
      rw [h3] at hi'
      simp only [cond_true] at hi'
      rw [rx_nth_eq] at hi'
      obtain ⟨y, e1, e2, e3⟩ := h.ex hi'
      exact ⟨y, by rw [rx_cv3 (rx_beq.mp h3), show v / 4 = rx_pl v from rfl, e1]; rfl, e2, e3⟩
theorem rx_RI.set {iv : rx_I} {en : List Int32} (h : rx_RI iv en) {t a b : Nat} {x : Int32} (e : en[t]? = some x) (h1 : a ≤ rx_bias x) (h2 : rx_bias x ≤ b) : rx_RI (iv.set t (a, b)) en := by
  refine ⟨by simp [h.1], fun t' a' b' y e1 e2 => ?_⟩
  by_cases ht : t' = t
  · subst ht
    have hl : t' < iv.length := by rw [h.1]; exact (List.getElem?_eq_some_iff.mp e).1
    rw [List.getElem?_set_self hl] at e1
    cases e1
    cases e.symm.trans e2
    exact ⟨h1, h2⟩
  · rw [List.getElem?_set_ne (Ne.symm ht)] at e1
    exact h.2 t' a' b' y e1 e2
theorem rx_cut_ok {iv i1 i2 : rx_I} {en : List Int32} (h : rx_RI iv en) {v m : Nat} (hc : rx_cut iv v m = some (i1, i2)) : rx_RI i1 en ∨ rx_RI i2 en := by
  unfold rx_cut at hc
  obtain ⟨-, hc⟩ := rx_cond hc
  rw [rx_nth_eq] at hc
  cases e : iv[rx_pl v]? with
  | none => rw [e] at hc; cases hc
  | some q =>
    obtain ⟨a, b⟩ := q
    rw [e] at hc
    obtain ⟨-, hc⟩ := rx_cond hc
    simp only [Option.some.injEq, Prod.mk.injEq] at hc
    obtain ⟨rfl, rfl⟩ := hc
    obtain ⟨y, e1, e2, e3⟩ := h.ex e
    rw [rx_upd_eq, rx_upd_eq]
    by_cases hm : rx_bias y ≤ m
    · exact Or.inl (h.set e1 e2 hm)
    · exact Or.inr (h.set e1 (by show m + 1 ≤ _; omega) e3)
-- cells, worlds
noncomputable def rx_RC (cy : Nat → ClassId) (b : Nat → Nat) (ad : List Nat) (en : List Int32) (c : rx_C) (e : va_E) : Prop :=
  c.2.2.length = c.2.1 ∧
  ((c.1 < 12 ∧ ∃ fs : List Value, e = .inr (c.1, fs) ∧ c.2.2.map (rx_cv b ad en) = fs.map some) ∨
  ((c.1 = 12 ∨ c.1 = 13 ∨ c.1 = 15) ∧ ∃ f : Nat → Int32, e = .inl (cy c.1, c.2.1, .inl f) ∧ ∀ j v, c.2.2[j]? = some v → rx_cv b ad en v = some (.int (f j))) ∨
  (c.1 = 14 ∧ ∃ f : Nat → Int64, e = .inl (cy 14, c.2.1, .inr (.inl f)) ∧ ∀ j v, c.2.2[j]? = some v → rx_cv b ad en v = some (.long (f j))) ∨
  (c.1 = 16 ∧ ∃ f : Nat → Option Nat, e = .inl (cy 16, c.2.1, .inr (.inr (.inr (.inr f)))) ∧ ∀ j v, c.2.2[j]? = some v → rx_cv b ad en v = some (va_rf (f j))))
theorem rx_map_mono {b : Nat → Nat} {ad ad' : List Nat} {en en' : List Int32} (ha : ad <+: ad') (he : en <+: en') : ∀ {l : List Nat} {fs : List Value}, l.map (rx_cv b ad en) = fs.map some → l.map (rx_cv b ad' en') = fs.map some
  | [], [], _ => rfl
  | [], _ :: _, h => by cases h
  | _ :: _, [], h => by cases h
  | v :: l, x :: fs, h => by
    simp only [List.map_cons, List.cons.injEq] at h ⊢
    exact ⟨rx_cv_mono ha he h.1, rx_map_mono ha he h.2⟩
theorem rx_RC.mono {cy : Nat → ClassId} {b : Nat → Nat} {ad ad' : List Nat} {en en' : List Int32} (ha : ad <+: ad') (he : en <+: en') {c : rx_C} {e : va_E} (h : rx_RC cy b ad en c e) : rx_RC cy b ad' en' c e := by
  obtain ⟨h0, h⟩ := h
  refine ⟨h0, ?_⟩
  rcases h with ⟨h1, fs, h2, h3⟩ | ⟨h1, f, h2, h3⟩ | ⟨h1, f, h2, h3⟩ | ⟨h1, f, h2, h3⟩
  · exact Or.inl ⟨h1, fs, h2, rx_map_mono ha he h3⟩
  · exact Or.inr (Or.inl ⟨h1, f, h2, fun j v hj => rx_cv_mono ha he (h3 j v hj)⟩)
  · exact Or.inr (Or.inr (Or.inl ⟨h1, f, h2, fun j v hj => rx_cv_mono ha he (h3 j v hj)⟩))
  · exact Or.inr (Or.inr (Or.inr ⟨h1, f, h2, fun j v hj => rx_cv_mono ha he (h3 j v hj)⟩))
noncomputable def rx_RW (cy : Nat → ClassId) (b : Nat → Nat) (ad : List Nat) (en : List Int32) (hp : rx_H) (ws : va_W) : Prop :=
  hp.1 ≤ 256 ∧ ad.length = hp.1 ∧ ws.length = hp.1 ∧ ∀ (q : Nat) (c : rx_C), rx_hg hp q = some c → ∃ (a : Nat) (e : va_E), ad[q]? = some a ∧ ws[q]? = some (a, e) ∧ rx_RC cy b ad en c e
theorem rx_RW.mono {cy : Nat → ClassId} {b : Nat → Nat} {ad : List Nat} {en en' : List Int32} (he : en <+: en') {hp : rx_H} {ws : va_W} (h : rx_RW cy b ad en hp ws) : rx_RW cy b ad en' hp ws :=
  ⟨h.1, h.2.1, h.2.2.1, fun q c hq => by obtain ⟨a, e, h1, h2, h3⟩ := h.2.2.2 q c hq; exact ⟨a, e, h1, h2, h3.mono (List.prefix_refl _) he⟩⟩
/-- a cell is written -/
theorem rx_RW.set {cy : Nat → ClassId} {b : Nat → Nat} {ad : List Nat} {en : List Int32} {hp : rx_H} {ws : va_W} (h : rx_RW cy b ad en hp ws) {q a : Nat} {c : rx_C} {e : va_E} (hq : q < hp.1) (ha : ad[q]? = some a) (hc : rx_RC cy b ad en c e) : rx_RW cy b ad en (rx_hs hp q c) (ws.set q (a, e)) := by
  refine ⟨h.1, h.2.1, by rw [List.length_set]; exact h.2.2.1, fun q' c' hq' => ?_⟩
  rw [rx_hg_hs h.1 hq] at hq'
  by_cases e0 : q' = q
  · subst e0
    rw [if_pos rfl] at hq'
    cases hq'
    exact ⟨a, e, ha, by rw [List.getElem?_set_self (by rw [h.2.2.1]; exact hq)], hc⟩
  · rw [if_neg e0] at hq'
    obtain ⟨a', e', h1, h2, h3⟩ := h.2.2.2 q' c' hq'
    exact ⟨a', e', h1, by rw [List.getElem?_set_ne (Ne.symm e0)]; exact h2, h3⟩
/-- a cell is made -/
theorem rx_RW.push {cy : Nat → ClassId} {b : Nat → Nat} {ad : List Nat} {en : List Int32} {hp : rx_H} {ws : va_W} (h : rx_RW cy b ad en hp ws) (h8 : hp.1 < 256) {a : Nat} {c : rx_C} {e : va_E} (hc : rx_RC cy b ad en c e) : rx_RW cy b (ad ++ [a]) en (rx_hp hp c) (ws ++ [(a, e)]) := by
  have hm : ad <+: ad ++ [a] := List.prefix_append _ _
  refine ⟨h8, by simp only [List.length_append, List.length_singleton, h.2.1]; rfl, by simp only [List.length_append, List.length_singleton, h.2.2.1]; rfl, fun q' c' hq' => ?_⟩
  rw [rx_hg_hp h8] at hq'
  by_cases e0 : q' = hp.1
  · subst e0
    rw [if_pos rfl] at hq'
    cases hq'
    exact ⟨a, e, by rw [← h.2.1]; simp, by rw [← h.2.2.1]; simp, hc.mono hm (List.prefix_refl _)⟩
  · rw [if_neg e0] at hq'
    obtain ⟨a', e', h1, h2, h3⟩ := h.2.2.2 q' c' hq'
    exact ⟨a', e', rx_get_mono hm h1, rx_get_mono (List.prefix_append _ _) h2, h3.mono hm (List.prefix_refl _)⟩
end
section
-- locals
noncomputable def rx_RL (b : Nat → Nat) (ad : List Nat) (en : List Int32) (nL : Nat) (lv : rx_L) (ls : Array Slot) : Prop :=
  lv.length = nL ∧ ls.size = nL ∧ lv_wf ls ∧ ∀ (i v : Nat), lv[i]? = some v → v ≠ 2 → ∃ x : Value, rx_cv b ad en v = some x ∧ ls[i]? = some (.val x)
noncomputable def rx_lva (b : Nat → Nat) (ad : List Nat) (en : List Int32) (lv : rx_L) : List (Nat × Value) :=
  (List.range lv.length).filterMap (fun i => match lv[i]? with
    | some v => if v = 2 then none else (rx_cv b ad en v).map (fun x => (i, x))
    | none => none)
theorem rx_lva_in {b : Nat → Nat} {ad : List Nat} {en : List Int32} {lv : rx_L} {i v : Nat} {x : Value} (h : lv[i]? = some v) (h2 : v ≠ 2) (hx : rx_cv b ad en v = some x) : (i, x) ∈ rx_lva b ad en lv := by
  refine List.mem_filterMap.mpr ⟨i, List.mem_range.mpr (List.getElem?_eq_some_iff.mp h).1, ?_⟩
  simp only [h, if_neg h2, hx, Option.map_some]
theorem rx_lva_of {b : Nat → Nat} {ad : List Nat} {en : List Int32} {lv : rx_L} {q : Nat × Value} (h : q ∈ rx_lva b ad en lv) : ∃ v, lv[q.1]? = some v ∧ v ≠ 2 ∧ rx_cv b ad en v = some q.2 := by
  obtain ⟨i, -, hi⟩ := List.mem_filterMap.mp h
  cases e : lv[i]? with
  | none => rw [e] at hi; cases hi
  | some v =>
    rw [e] at hi
    simp only at hi
    by_cases h2 : v = 2
    · rw [if_pos h2] at hi; cases hi
    · rw [if_neg h2] at hi
      obtain ⟨x, hx, he⟩ := Option.map_eq_some_iff.mp hi
      subst he
      exact ⟨v, e, h2, hx⟩
theorem rx_RL.has {b : Nat → Nat} {ad : List Nat} {en : List Int32} {nL : Nat} {lv : rx_L} {ls : Array Slot} (h : rx_RL b ad en nL lv ls) : lv_has ls nL (rx_lva b ad en lv) := by
  refine ⟨h.2.1, h.2.2.1, fun q hq => ?_⟩
  obtain ⟨v, h1, h2, h3⟩ := rx_lva_of hq
  obtain ⟨x, h4, h5⟩ := h.2.2.2 q.1 v h1 h2
  cases h3.symm.trans h4
  exact h5
theorem rx_RL.mono {b : Nat → Nat} {ad ad' : List Nat} {en en' : List Int32} (ha : ad <+: ad') (he : en <+: en') {nL : Nat} {lv : rx_L} {ls : Array Slot} (h : rx_RL b ad en nL lv ls) : rx_RL b ad' en' nL lv ls :=
  ⟨h.1, h.2.1, h.2.2.1, fun i v h1 h2 => by obtain ⟨x, h3, h4⟩ := h.2.2.2 i v h1 h2; exact ⟨x, rx_cv_mono ha he h3, h4⟩⟩
theorem rx_low_len (lv : rx_L) (i : Nat) : (rx_low lv i).length = lv.length := by
  unfold rx_low
  cases i with
  | zero => rfl
  | succ j =>
    show List.length (match rx_nth lv j with | some v => bif rx_isJ v then rx_upd lv j 2 else lv | none => lv) = _
    cases rx_nth lv j with
    | none => rfl
    | some v =>
      show List.length (bif rx_isJ v then rx_upd lv j 2 else lv) = _
      cases rx_isJ v with
      | true => rw [cond_true, rx_upd_eq, List.length_set]
      | false => rfl
theorem rx_low_get {lv : rx_L} {i j w : Nat} (h : (rx_low lv i)[j]? = some w) (h2 : w ≠ 2) : lv[j]? = some w ∧ ¬ (j + 1 = i ∧ rx_isJ w = true) := by
  unfold rx_low at h
  cases i with
  | zero => exact ⟨h, fun z => by omega⟩
  | succ k =>
    replace h : (match rx_nth lv k with | some v => bif rx_isJ v then rx_upd lv k 2 else lv | none => lv)[j]? = some w := h
    rw [rx_nth_eq] at h
    cases e : lv[k]? with
    | none =>
      rw [e] at h
      replace h : lv[j]? = some w := h
      exact ⟨h, fun z => by rw [show j = k by omega, e] at h; cases h⟩
    | some v =>
      rw [e] at h
      replace h : (bif rx_isJ v then rx_upd lv k 2 else lv)[j]? = some w := h
      cases hj : rx_isJ v with
      | false =>
        rw [hj] at h
        replace h : lv[j]? = some w := h
        refine ⟨h, fun z => ?_⟩
        rw [show j = k by omega, e] at h
        cases h
        rw [hj] at z; exact Bool.noConfusion z.2
      | true =>
        rw [hj, cond_true, rx_upd_eq] at h
        by_cases ejk : j = k
        · subst ejk
          rw [List.getElem?_set_self (List.getElem?_eq_some_iff.mp e).1] at h
          cases h
          exact absurd rfl h2
        · rw [List.getElem?_set_ne (Ne.symm ejk)] at h
          exact ⟨h, fun z => by omega⟩
theorem rx_RL.put {b : Nat → Nat} {ad : List Nat} {en : List Int32} {nL : Nat} {lv : rx_L} {ls' : Array Slot} {i v : Nat} {x : Value} (hl : lv.length = nL) (hv : rx_cv b ad en v = some x) (hd : ∀ j w : Nat, lv[j]? = some w → w ≠ 2 → ∃ y, rx_cv b ad en w = some y)
    (h : lv_has ls' nL ((i, x) :: (rx_lva b ad en lv).filter (fun q => !(q.1 == i) && !(q.1 + 1 == i && q.2.category == 2)))) : rx_RL b ad en nL (rx_put lv i v) ls' := by
  refine ⟨by unfold rx_put; rw [rx_upd_eq, List.length_set, rx_low_len]; exact hl, h.1, h.2.1, fun j w hj h2 => ?_⟩
  unfold rx_put at hj
  rw [rx_upd_eq] at hj
  by_cases e : j = i
  · subst e
    have hlt : j < (rx_low lv j).length := by have := (List.getElem?_eq_some_iff.mp hj).1; rwa [List.length_set] at this
    rw [List.getElem?_set_self hlt] at hj
    cases hj
    exact ⟨x, hv, h.2.2 (j, x) List.mem_cons_self⟩
  · rw [List.getElem?_set_ne (Ne.symm e)] at hj
    obtain ⟨h3, h4⟩ := rx_low_get hj h2
    obtain ⟨y, hy⟩ := hd j w h3 h2
    refine ⟨y, hy, h.2.2 (j, y) (List.mem_cons_of_mem _ (List.mem_filter.mpr ⟨rx_lva_in h3 h2 hy, ?_⟩))⟩
    have hc := rx_cat_cv hy
    by_cases hji : j + 1 = i
    · have hJ : ¬ rx_isJ w = true := fun z => h4 ⟨hji, z⟩
      rw [if_neg hJ] at hc
      simp [e, hc]
    · simp [e, hji]
theorem rx_RL.putJ {b : Nat → Nat} {ad : List Nat} {en : List Int32} {nL : Nat} {lv : rx_L} {ls' : Array Slot} {i v : Nat} {x : Value} (hl : lv.length = nL) (hv : rx_cv b ad en v = some x) (hd : ∀ j w : Nat, lv[j]? = some w → w ≠ 2 → ∃ y, rx_cv b ad en w = some y)
    (h : lv_has ls' nL ((i, x) :: (rx_lva b ad en lv).filter (fun q => !(q.1 == i) && (!(q.1 == i + 1) && !(q.1 + 1 == i && q.2.category == 2))))) : rx_RL b ad en nL (rx_putJ lv i v) ls' := by
  refine ⟨by unfold rx_putJ; rw [rx_upd_eq, rx_upd_eq, List.length_set, List.length_set, rx_low_len]; exact hl, h.1, h.2.1, fun j w hj h2 => ?_⟩
  unfold rx_putJ at hj
  rw [rx_upd_eq, rx_upd_eq] at hj
  by_cases e1 : j = i + 1
  · subst e1
    have hlt := (List.getElem?_eq_some_iff.mp hj).1
    rw [List.length_set] at hlt
    rw [show Nat.succ i = i + 1 from rfl, List.getElem?_set_self hlt] at hj
    cases hj
    exact absurd rfl h2
  · rw [List.getElem?_set_ne (show Nat.succ i ≠ j from Ne.symm e1)] at hj
    by_cases e : j = i
    · subst e
      have hlt : j < (rx_low lv j).length := by have := (List.getElem?_eq_some_iff.mp hj).1; rwa [List.length_set] at this
      rw [List.getElem?_set_self hlt] at hj
      cases hj
      exact ⟨x, hv, h.2.2 (j, x) List.mem_cons_self⟩
    · rw [List.getElem?_set_ne (Ne.symm e)] at hj
      obtain ⟨h3, h4⟩ := rx_low_get hj h2
      obtain ⟨y, hy⟩ := hd j w h3 h2
      refine ⟨y, hy, h.2.2 (j, y) (List.mem_cons_of_mem _ (List.mem_filter.mpr ⟨rx_lva_in h3 h2 hy, ?_⟩))⟩
      have hc := rx_cat_cv hy
      by_cases hji : j + 1 = i
      · have hJ : ¬ rx_isJ w = true := fun z => h4 ⟨hji, z⟩
        rw [if_neg hJ] at hc
        simp [e, e1, hc]
      · simp [e, e1, hji]
end
section
noncomputable def lw_G : List Cond := lw_tbl.filter goodWord
theorem lw_G_of {w : Cond} (h : w ∈ lw_tbl) (hg : goodWord w = true) : w ∈ lw_G := List.mem_filter.mpr ⟨h, hg⟩
noncomputable def rx_tys (cy : Nat → ClassId) : List (ClassId × FieldType) := [(cy 12, .byte), (cy 13, .int), (cy 14, .long), (cy 15, .boolean), (cy 16, .object "TurnNet$State")]
/-- a state of the interpreter, and one of the machine -/
noncomputable def rx_Rl (cy : Nat → ClassId) (D : va_G) (b : Nat → Nat) (A : Nat → Prop) (H0 : Heap) (ad0 : List Nat) (en0 : List Int32) (nL : Nat) (σ : rx_S) (ad : List Nat) (en : List Int32) (ls : Array Slot) (stA : List Value) (H : Heap) (locs : List Loc) (ws : va_W) : Prop :=
  ad0 <+: ad ∧ en0 <+: en ∧ rx_RW cy b ad en σ.2.2.2.1 ws ∧ va_P D vwCl ws H ∧ va_D A ws ∧ va_S A H0 H locs ∧ rx_RL b ad en nL σ.2.1 ls ∧ σ.2.2.1.map (rx_cv b ad en) = stA.map some ∧ rx_RI σ.2.2.2.2.1 en
/-- from all states of the machine that a state of the interpreter stands for, the machine comes to Q -/
noncomputable def rx_G (p : Program) (l : Launch) (e : Env) (R : Room) (s : State) (m : MethodId) (args : Array Value) (below : List Frame) (meth : Method) (c : Code) (Q : State → Prop) (cy : Nat → ClassId) (D : va_G) (b : Nat → Nat) (A : Nat → Prop) (H0 : Heap) (ad0 : List Nat) (en0 : List Int32) (nL : Nat) (σ : rx_S) : Prop :=
  ∀ (ad : List Nat) (en : List Int32) (ls : Array Slot) (stA : List Value) (H : Heap) (locs : List Loc) (ws : va_W), rx_Rl cy D b A H0 ad0 en0 nL σ ad en ls stA H locs ws → W p l e R s m args below meth c H locs σ.2.2.2.2.2.1 σ.2.2.2.2.2.2 Q (F0 m σ.1 ls stA)
theorem rx_st_cons {b : Nat → Nat} {ad : List Nat} {en : List Int32} {v : Nat} {st : List Nat} {stA : List Value} (h : (v :: st).map (rx_cv b ad en) = stA.map some) : ∃ (x : Value) (r : List Value), stA = x :: r ∧ rx_cv b ad en v = some x ∧ st.map (rx_cv b ad en) = r.map some := by
  cases stA with
  | nil => cases h
  | cons x r =>
    simp only [List.map_cons, List.cons.injEq] at h
    exact ⟨x, r, rfl, h.1, h.2⟩
theorem rx_st_push {b : Nat → Nat} {ad : List Nat} {en : List Int32} {v : Nat} {st : List Nat} {x : Value} {r : List Value} (hv : rx_cv b ad en v = some x) (h : st.map (rx_cv b ad en) = r.map some) : (v :: st).map (rx_cv b ad en) = (x :: r).map some := by
  simp only [List.map_cons, hv, h]
section RXS
variable {p : Program} {l : Launch} {e : Env} {R : Room} {s : State} {m : MethodId} {args : Array Value} {below : List Frame} {meth : Method} {c : Code} {Q : State → Prop} {cc : ByteArray}
variable {cy : Nat → ClassId} {D : va_G} {b : Nat → Nat} {A : Nat → Prop} {H0 : Heap} {ad0 : List Nat} {en0 : List Int32} {nL : Nat}
variable {K : rx_K} {N : rx_N} {pc na nb cn sn : Nat} {lv : rx_L} {st : List Nat} {hp : rx_H} {iv : rx_I} {out : List rx_S}
theorem rx_s_two {q : Option (rx_I × rx_I)} {v mm : Nat} (hq : q = rx_cut iv v mm) (h : rx_two pc lv st hp q cn sn = some out) (hG : ∀ σ ∈ out, rx_G p l e R s m args below meth c Q cy D b A H0 ad0 en0 nL σ) : rx_G p l e R s m args below meth c Q cy D b A H0 ad0 en0 nL (pc, lv, st, hp, iv, cn, sn) := by
  intro ad en ls stA H locs ws hR
  obtain ⟨h1, h2, h3, h4, h5, h6, h7, h8, h9⟩ := hR
  cases hc : q with
  | none => rw [hc] at h; cases h
  | some w =>
    obtain ⟨i1, i2⟩ := w
    rw [hc] at h
    cases h
    rcases rx_cut_ok h9 (hq.symm.trans hc) with h9 | h9
    · exact hG (pc, lv, st, hp, i1, cn, sn) List.mem_cons_self ad en ls stA H locs ws ⟨h1, h2, h3, h4, h5, h6, h7, h8, h9⟩
    · exact hG (pc, lv, st, hp, i2, cn, sn) (List.mem_cons_of_mem _ List.mem_cons_self) ad en ls stA H locs ws ⟨h1, h2, h3, h4, h5, h6, h7, h8, h9⟩
theorem rx_s_half {v : Nat} (h : rx_half pc lv st hp iv cn sn v = some out) (hG : ∀ σ ∈ out, rx_G p l e R s m args below meth c Q cy D b A H0 ad0 en0 nL σ) : rx_G p l e R s m args below meth c Q cy D b A H0 ad0 en0 nL (pc, lv, st, hp, iv, cn, sn) := by
  unfold rx_half at h
  cases hi : rx_io iv v with
  | none => rw [hi] at h; cases h
  | some w =>
    obtain ⟨x, y⟩ := w
    rw [hi] at h
    exact rx_s_two rfl h hG
/-- loads -/
theorem rx_s_ld {ok : Nat → Bool} {i n : Nat} {T : Value → Prop} (hok : ∀ (ad : List Nat) (en : List Int32) (v : Nat) (x : Value), ok v = true → rx_cv b ad en v = some x → T x) (h2 : ok 2 = false)
    (row : ∀ {H : Heap} {locs : List Loc} {cells slots : Nat} {ls : Array Slot} {rest : List Value} {x : Value}, T x → ls[i]? = some (Slot.val x) → W p l e R s m args below meth c H locs cells slots Q (F0 m (pc + n) ls (x :: rest)) → W p l e R s m args below meth c H locs cells slots Q (F0 m pc ls rest))
    (h : rx_h_ld ok i n K N pc na nb lv st hp iv cn sn = some out) (hG : ∀ σ ∈ out, rx_G p l e R s m args below meth c Q cy D b A H0 ad0 en0 nL σ) : rx_G p l e R s m args below meth c Q cy D b A H0 ad0 en0 nL (pc, lv, st, hp, iv, cn, sn) := by
  intro ad en ls stA H locs ws hR
  obtain ⟨h1, h2', h3, h4, h5, h6, h7, h8, h9⟩ := hR
  unfold rx_h_ld at h
  rw [rx_nth_eq] at h
  cases hv : lv[i]? with
  | none => rw [hv] at h; cases h
  | some v =>
    rw [hv] at h
    obtain ⟨hk, h⟩ := rx_cond h
    cases h
    obtain ⟨x, hx, hl⟩ := h7.2.2.2 i v hv (fun z => by rw [z, h2] at hk; cases hk)
    exact row (hok ad en v x hk hx) hl (hG _ List.mem_cons_self ad en ls (x :: stA) H locs ws ⟨h1, h2', h3, h4, h5, h6, h7, rx_st_push hx h8, h9⟩)
/-- stores -/
theorem rx_s_sto {ok : Nat → Bool} {i n : Nat} {T : Value → Prop} (hN : nL = rx_mL N) (hok : ∀ (ad : List Nat) (en : List Int32) (v : Nat) (x : Value), ok v = true → rx_cv b ad en v = some x → T x)
    (row : ∀ {H : Heap} {locs : List Loc} {cells slots : Nat} {ls : Array Slot} {rest : List Value} {x : Value} {lw : List (Nat × Value)}, T x → i < nL → lv_has ls nL lw → (∀ ls' : Array Slot, lv_has ls' nL ((i, x) :: lw.filter (fun q => !(q.1 == i) && !(q.1 + 1 == i && q.2.category == 2))) → W p l e R s m args below meth c H locs cells slots Q (F0 m (pc + n) ls' rest)) → W p l e R s m args below meth c H locs cells slots Q (F0 m pc ls (x :: rest)))
    (h : rx_h_sto ok i n K N pc na nb lv st hp iv cn sn = some out) (hG : ∀ σ ∈ out, rx_G p l e R s m args below meth c Q cy D b A H0 ad0 en0 nL σ) : rx_G p l e R s m args below meth c Q cy D b A H0 ad0 en0 nL (pc, lv, st, hp, iv, cn, sn) := by
  intro ad en ls stA H locs ws hR
  obtain ⟨h1, h2, h3, h4, h5, h6, h7, h8, h9⟩ := hR
  cases st with
  | nil => cases h
  | cons v st' =>
    obtain ⟨hk, h⟩ := rx_cond h
    cases h
    obtain ⟨hk, hi⟩ := rx_and2.mp hk
    obtain ⟨x, r, rfl, hx, h8⟩ := rx_st_cons h8
    refine row (hok ad en v x hk hx) (by rw [hN]; exact rx_blt.mp hi) h7.has (fun ls' hl' => ?_)
    exact hG _ List.mem_cons_self ad en ls' r H locs ws ⟨h1, h2, h3, h4, h5, h6, rx_RL.put h7.1 hx (fun j w hj hw => by obtain ⟨y, hy, -⟩ := h7.2.2.2 j w hj hw; exact ⟨y, hy⟩) hl', h8, h9⟩
theorem rx_s_stJ {i n : Nat} (hN : nL = rx_mL N)
    (row : ∀ {H : Heap} {locs : List Loc} {cells slots : Nat} {ls : Array Slot} {rest : List Value} {x : Int64} {lw : List (Nat × Value)}, i + 1 < nL → lv_has ls nL lw → (∀ ls' : Array Slot, lv_has ls' nL ((i, .long x) :: lw.filter (fun q => !(q.1 == i) && (!(q.1 == i + 1) && !(q.1 + 1 == i && q.2.category == 2)))) → W p l e R s m args below meth c H locs cells slots Q (F0 m (pc + n) ls' rest)) → W p l e R s m args below meth c H locs cells slots Q (F0 m pc ls (.long x :: rest)))
    (h : rx_h_stJ i n K N pc na nb lv st hp iv cn sn = some out) (hG : ∀ σ ∈ out, rx_G p l e R s m args below meth c Q cy D b A H0 ad0 en0 nL σ) : rx_G p l e R s m args below meth c Q cy D b A H0 ad0 en0 nL (pc, lv, st, hp, iv, cn, sn) := by
  intro ad en ls stA H locs ws hR
  obtain ⟨h1, h2, h3, h4, h5, h6, h7, h8, h9⟩ := hR
  cases st with
  | nil => cases h
  | cons v st' =>
    obtain ⟨hk, h⟩ := rx_cond h
    cases h
    obtain ⟨hk, hi⟩ := rx_and2.mp hk
    obtain ⟨x, r, rfl, hx, h8n⟩ := rx_st_cons h8
    have hx' := rx_isJ_cv hk hx
    subst hx'
    refine row (by rw [hN]; exact rx_blt.mp hi) h7.has (fun ls' hl' => ?_)
    exact hG _ List.mem_cons_self ad en ls' r H locs ws ⟨h1, h2, h3, h4, h5, h6, rx_RL.putJ h7.1 hx (fun j w hj hw => by obtain ⟨y, hy, -⟩ := h7.2.2.2 j w hj hw; exact ⟨y, hy⟩) hl', h8n, h9⟩
/-- what is pushed -/
theorem rx_s_psh {n : Nat} (row : ∀ {H : Heap} {locs : List Loc} {cells slots : Nat} {ls : Array Slot} {rest : List Value}, W p l e R s m args below meth c H locs cells slots Q (F0 m (pc + n) ls (.int (Int32.ofNat na) :: rest)) → W p l e R s m args below meth c H locs cells slots Q (F0 m pc ls rest))
    (h : rx_h_psh n K N pc na nb lv st hp iv cn sn = some out) (hG : ∀ σ ∈ out, rx_G p l e R s m args below meth c Q cy D b A H0 ad0 en0 nL σ) : rx_G p l e R s m args below meth c Q cy D b A H0 ad0 en0 nL (pc, lv, st, hp, iv, cn, sn) := by
  intro ad en ls stA H locs ws hR
  obtain ⟨h1, h2, h3, h4, h5, h6, h7, h8, h9⟩ := hR
  cases h
  exact row (hG _ List.mem_cons_self ad en ls (.int (Int32.ofNat na) :: stA) H locs ws ⟨h1, h2, h3, h4, h5, h6, h7, rx_st_push (rx_int_cv b ad en na) h8, h9⟩)
theorem rx_s_pshJ {n : Nat} (row : ∀ {H : Heap} {locs : List Loc} {cells slots : Nat} {ls : Array Slot} {rest : List Value}, W p l e R s m args below meth c H locs cells slots Q (F0 m (pc + n) ls (.long (Int64.ofNat na) :: rest)) → W p l e R s m args below meth c H locs cells slots Q (F0 m pc ls rest))
    (h : rx_h_pshJ n K N pc na nb lv st hp iv cn sn = some out) (hG : ∀ σ ∈ out, rx_G p l e R s m args below meth c Q cy D b A H0 ad0 en0 nL σ) : rx_G p l e R s m args below meth c Q cy D b A H0 ad0 en0 nL (pc, lv, st, hp, iv, cn, sn) := by
  intro ad en ls stA H locs ws hR
  obtain ⟨h1, h2, h3, h4, h5, h6, h7, h8, h9⟩ := hR
  cases h
  exact row (hG _ List.mem_cons_self ad en ls (.long (Int64.ofNat na) :: stA) H locs ws ⟨h1, h2, h3, h4, h5, h6, h7, rx_st_push (rx_lng_cv b ad en na) h8, h9⟩)
/-- iinc -/
theorem rx_s_inc {i : Nat} {n : Int} (hN : nL = rx_mL N) (hn : Int32.ofInt n = Int32.ofNat na) (hx : p.tables.exec = Jvm.exec) (hb : c.code = cc) (hd : decode cc pc = .ok (.iinc i n, 3))
    (h : rx_h_inc i K N pc na nb lv st hp iv cn sn = some out) (hG : ∀ σ ∈ out, rx_G p l e R s m args below meth c Q cy D b A H0 ad0 en0 nL σ) : rx_G p l e R s m args below meth c Q cy D b A H0 ad0 en0 nL (pc, lv, st, hp, iv, cn, sn) := by
  intro ad en ls stA H locs ws hR
  obtain ⟨h1, h2, h3, h4, h5, h6, h7, h8, h9⟩ := hR
  unfold rx_h_inc at h
  rw [rx_nth_eq] at h
  cases hv : lv[i]? with
  | none => rw [hv] at h; cases h
  | some v =>
    rw [hv] at h
    obtain ⟨hk, h⟩ := rx_cond h
    cases h
    obtain ⟨hk, hi⟩ := rx_and2.mp hk
    have hk : v % 4 = 0 := rx_beq.mp hk
    have hcv : rx_cv b ad en v = some (.int (Int32.ofNat (v / 4))) := rx_cv0 hk
    have hmem := rx_lva_in (b := b) (ad := ad) (en := en) hv (by omega) hcv
    obtain ⟨k, hk2⟩ := List.getElem?_of_mem hmem
    have hw : Int32.ofNat (v / 4) + Int32.ofInt n = Int32.ofNat (Nat.mod (Nat.add (rx_pl v) na) 4294967296) := by
      rw [hn]
      show _ = Int32.ofNat ((v / 4 + na) % 4294967296)
      apply rx_bias_inj
      rw [rx_bias_ofNat, ← Int32.ofNat_add, rx_bias_ofNat]
      unfold rx_bi
      show (v / 4 + na + 2147483648) % 4294967296 = ((v / 4 + na) % 4294967296 + 2147483648) % 4294967296
      omega
    refine lv_iinc hx hb hd h7.has hk2 hw (by rw [hN]; exact rx_blt.mp hi) rfl (fun ls' hl' => ?_)
    exact hG _ List.mem_cons_self ad en ls' stA H locs ws ⟨h1, h2, h3, h4, h5, h6, rx_RL.put h7.1 (rx_int_cv b ad en _) (fun j w hj hw => by obtain ⟨y, hy, -⟩ := h7.2.2.2 j w hj hw; exact ⟨y, hy⟩) hl', h8, h9⟩
end RXS
end
section
section RXS2
variable {p : Program} {l : Launch} {e : Env} {R : Room} {s : State} {m : MethodId} {args : Array Value} {below : List Frame} {meth : Method} {c : Code} {Q : State → Prop} {cc : ByteArray}
variable {cy : Nat → ClassId} {D : va_G} {b : Nat → Nat} {A : Nat → Prop} {H0 : Heap} {ad0 : List Nat} {en0 : List Int32} {nL : Nat}
variable {K : rx_K} {N : rx_N} {pc na nb cn sn : Nat} {lv : rx_L} {st : List Nat} {hp : rx_H} {iv : rx_I} {out : List rx_S}
theorem rx_pre1 {α : Type} {a b : List α} (h : a <+: b) (x : α) : a <+: b ++ [x] := h.trans (List.prefix_append _ _)
/-- a number comes that isn't known -/
theorem rx_fresh {st' : List Nat} {r : List Value} {y : Int32} {n lo hi : Nat} (hG : rx_G p l e R s m args below meth c Q cy D b A H0 ad0 en0 nL (n, lv, rx_sym (rx_len iv) :: st', hp, iv ++ [(lo, hi)], cn, sn)) {ad : List Nat} {en : List Int32} {ls : Array Slot} {H : Heap} {locs : List Loc} {ws : va_W}
    (h1 : ad0 <+: ad) (h2 : en0 <+: en) (h3 : rx_RW cy b ad en hp ws) (h4 : va_P D vwCl ws H) (h5 : va_D A ws) (h6 : va_S A H0 H locs) (h7 : rx_RL b ad en nL lv ls) (h8 : st'.map (rx_cv b ad en) = r.map some) (h9 : rx_RI iv en) (hlo : lo ≤ rx_bias y) (hhi : rx_bias y ≤ hi) :
    W p l e R s m args below meth c H locs cn sn Q (F0 m n ls (.int y :: r)) := by
  have hm : en <+: en ++ [y] := List.prefix_append _ _
  have hy : (en ++ [y])[rx_len iv]? = some y := by rw [rx_len_eq, h9.1]; simp
  exact hG ad (en ++ [y]) ls (.int y :: r) H locs ws ⟨h1, rx_pre1 h2 y, h3.mono hm, h4, h5, h6, h7.mono (List.prefix_refl _) hm, rx_st_push (rx_sym_cv hy) (rx_map_mono (List.prefix_refl _) hm h8), h9.push hlo hhi⟩
/-- arithmetic -/
theorem rx_s_ar {f : Nat → Nat → Option Nat} {g : Nat → Nat × Nat} {F : Int32 → Int32 → Int32}
    (row : ∀ {H : Heap} {locs : List Loc} {cells slots : Nat} {ls : Array Slot} {rest : List Value} {x y : Int32}, W p l e R s m args below meth c H locs cells slots Q (F0 m (pc + 1) ls (.int (F x y) :: rest)) → W p l e R s m args below meth c H locs cells slots Q (F0 m pc ls (.int y :: .int x :: rest)))
    (hf : ∀ i j n, f i j = some n → F (Int32.ofNat i) (Int32.ofNat j) = Int32.ofNat n) (hg : ∀ (ad : List Nat) (en : List Int32) (v : Nat) (x y : Int32), rx_cv b ad en v = some (.int y) → (g v).1 ≤ rx_bias (F x y) ∧ rx_bias (F x y) ≤ (g v).2)
    (h : rx_h_ar f g K N pc na nb lv st hp iv cn sn = some out) (hG : ∀ σ ∈ out, rx_G p l e R s m args below meth c Q cy D b A H0 ad0 en0 nL σ) : rx_G p l e R s m args below meth c Q cy D b A H0 ad0 en0 nL (pc, lv, st, hp, iv, cn, sn) := by
  match st, h with
  | [], h => cases h
  | [_], h => cases h
  | y0 :: x0 :: st', h =>
    unfold rx_h_ar at h
    replace h : (bif Nat.beq (rx_tk (rx_kn iv x0)) 0 && Nat.beq (rx_tk (rx_kn iv y0)) 0 then (match f (rx_pl (rx_kn iv x0)) (rx_pl (rx_kn iv y0)) with
      | some n => some [(Nat.add pc 1, lv, rx_int n :: st', hp, iv, cn, sn)]
      | none => none)
      else bif rx_sml iv (rx_kn iv y0) then rx_half pc lv (y0 :: x0 :: st') hp iv cn sn (rx_kn iv y0)
      else bif rx_sml iv (rx_kn iv x0) then rx_half pc lv (y0 :: x0 :: st') hp iv cn sn (rx_kn iv x0)
      else bif rx_isI x0 && rx_isI y0 then some [(Nat.add pc 1, lv, rx_sym (rx_len iv) :: st', hp, iv ++ [g (rx_kn iv y0)], cn, sn)] else none) = some out := h
    cases hc : (Nat.beq (rx_tk (rx_kn iv x0)) 0 && Nat.beq (rx_tk (rx_kn iv y0)) 0) with
    | true =>
      rw [hc, cond_true] at h
      obtain ⟨hcx, hcy⟩ := rx_and2.mp hc
      cases hn : f (rx_pl (rx_kn iv x0)) (rx_pl (rx_kn iv y0)) with
      | none => rw [hn] at h; cases h
      | some n =>
        rw [hn] at h
        cases h
        intro ad en ls stA H locs ws hR
        obtain ⟨h1, h2, h3, h4, h5, h6, h7, h8, h9⟩ := hR
        obtain ⟨y, r1, rfl, hy, h8a⟩ := rx_st_cons h8
        obtain ⟨x, r, rfl, hx, h8b⟩ := rx_st_cons h8a
        have ex := (rx_cv0 (b := b) (ad := ad) (en := en) (rx_beq.mp hcx)).symm.trans (rx_kn_cv h9 hx)
        have ey := (rx_cv0 (b := b) (ad := ad) (en := en) (rx_beq.mp hcy)).symm.trans (rx_kn_cv h9 hy)
        cases ex
        cases ey
        refine row ?_
        have hfn : F (Int32.ofNat (rx_kn iv x0 / 4)) (Int32.ofNat (rx_kn iv y0 / 4)) = Int32.ofNat n := hf _ _ _ hn
        rw [hfn]
        exact hG _ List.mem_cons_self ad en ls _ H locs ws ⟨h1, h2, h3, h4, h5, h6, h7, rx_st_push (rx_int_cv b ad en n) h8b, h9⟩
    | false =>
      rw [hc, cond_false] at h
      cases hs1 : rx_sml iv (rx_kn iv y0) with
      | true => rw [hs1, cond_true] at h; exact rx_s_half h hG
      | false =>
        rw [hs1, cond_false] at h
        cases hs2 : rx_sml iv (rx_kn iv x0) with
        | true => rw [hs2, cond_true] at h; exact rx_s_half h hG
        | false =>
          rw [hs2, cond_false] at h
          obtain ⟨hi, h⟩ := rx_cond h
          cases h
          obtain ⟨hix, hiy⟩ := rx_and2.mp hi
          intro ad en ls stA H locs ws hR
          obtain ⟨h1, h2, h3, h4, h5, h6, h7, h8, h9⟩ := hR
          obtain ⟨y, r1, rfl, hy, h8a⟩ := rx_st_cons h8
          obtain ⟨x, r, rfl, hx, h8b⟩ := rx_st_cons h8a
          obtain ⟨x', rfl⟩ := rx_isI_cv hix hx
          obtain ⟨y', rfl⟩ := rx_isI_cv hiy hy
          have hgg := hg ad en (rx_kn iv y0) x' y' (rx_kn_cv h9 hy)
          refine row ?_
          exact rx_fresh (hG _ List.mem_cons_self) h1 h2 h3 h4 h5 h6 h7 h8b h9 hgg.1 hgg.2
theorem rx_g32_ok (v : Nat) (x : Int32) : (rx_g32 v).1 ≤ rx_bias x ∧ rx_bias x ≤ (rx_g32 v).2 := ⟨Nat.zero_le _, rx_bias_max x⟩
theorem rx_ofN_mod (n : Nat) : Int32.ofNat (n % 4294967296) = Int32.ofNat n := by
  apply rx_bias_inj
  rw [rx_bias_ofNat, rx_bias_ofNat]
  unfold rx_bi
  show (n % 4294967296 + 2147483648) % 4294967296 = (n + 2147483648) % 4294967296
  omega
theorem rx_add_ok : ∀ i j n, rx_f_add i j = some n → Int32.ofNat i + Int32.ofNat j = Int32.ofNat n := by
  intro i j n h
  cases h
  show _ = Int32.ofNat ((i + j) % 4294967296)
  rw [rx_ofN_mod]
  exact (Int32.ofNat_add i j).symm
theorem rx_mul_ok : ∀ i j n, rx_f_mul i j = some n → Int32.ofNat i * Int32.ofNat j = Int32.ofNat n := by
  intro i j n h
  cases h
  show _ = Int32.ofNat ((i * j) % 4294967296)
  rw [rx_ofN_mod]
  exact (Int32.ofNat_mul i j).symm
theorem rx_sub_ok : ∀ i j n, rx_f_sub i j = some n → Int32.ofNat i - Int32.ofNat j = Int32.ofNat n := by
  intro i j n h
  cases h
  show _ = Int32.ofNat ((i + (4294967296 - j % 4294967296)) % 4294967296)
  rw [rx_ofN_mod]
  have h1 : Int32.ofNat i = Int32.ofNat (i + (4294967296 - j % 4294967296)) + Int32.ofNat (j % 4294967296) := by
    rw [← Int32.ofNat_add]
    have h2 : j % 4294967296 < 4294967296 := Nat.mod_lt _ (by decide)
    rw [show i + (4294967296 - j % 4294967296) + j % 4294967296 = i + 4294967296 by omega, ← rx_ofN_mod (i + 4294967296), ← rx_ofN_mod i, show (i + 4294967296) % 4294967296 = i % 4294967296 by omega]
  rw [h1, rx_ofN_mod, Int32.add_sub_cancel]
theorem rx_and_ok : ∀ i j n, rx_f_and i j = some n → Int32.ofNat i &&& Int32.ofNat j = Int32.ofNat n := by
  intro i j n h
  cases h
  show _ = Int32.ofNat ((i &&& j) % 4294967296)
  rw [rx_ofN_mod]
  apply Int32.toBitVec_inj.mp
  simp [Int32.toBitVec_and]
theorem rx_m31 (j : Nat) : nI j &&& 31 = nI (j % 32) := by
  have h := pk_and (nI j) (m := 31) 5 (by decide)
  rw [h]
  have e : (nI j).toBitVec.toNat = j % 4294967296 := by show (BitVec.ofNat 32 j).toNat = _; rw [BitVec.toNat_ofNat]
  rw [e, show (2 : Nat) ^ 5 = 32 from rfl]
  congr 1
  omega
theorem rx_s_l0 : ∀ n, n < 32 → ((nI n).toBitVec.smod 32).toNat = n := by decide +kernel
theorem rx_s_u0 : ∀ n, n < 32 → (((nI n).toUInt32).toBitVec % 32).toNat = n := by decide +kernel
theorem rx_shl_ok : ∀ i j n, rx_f_shl i j = some n → Int32.ofNat i <<< (Int32.ofNat j &&& 31) = Int32.ofNat n := by
  intro i j n h
  cases h
  have hj : j % 32 < 32 := Nat.mod_lt _ (by decide)
  rw [show Int32.ofNat j &&& 31 = nI (j % 32) from rx_m31 j]
  apply Int32.toBitVec_inj.mp
  apply BitVec.eq_of_toNat_eq
  rw [pk_shl _ _ (j % 32) (rx_s_l0 _ hj)]
  show (BitVec.ofNat 32 i).toNat * 2 ^ (j % 32) % 2 ^ 32 = (BitVec.ofNat 32 (i * 2 ^ (j % 32) % 4294967296)).toNat
  rw [BitVec.toNat_ofNat, BitVec.toNat_ofNat, Nat.mod_mul_mod]
  omega
theorem rx_ushr_ok : ∀ i j n, rx_f_ushr i j = some n → ((Int32.ofNat i).toUInt32 >>> ((Int32.ofNat j).toUInt32 &&& Int32.toUInt32 31)).toInt32 = Int32.ofNat n := by
  intro i j n h
  cases h
  have hj : j % 32 < 32 := Nat.mod_lt _ (by decide)
  have e0 : (Int32.ofNat j).toUInt32 &&& Int32.toUInt32 31 = (Int32.ofNat j &&& 31).toUInt32 := by
    apply UInt32.toBitVec_inj.mp
    simp
  have hk : (((Int32.ofNat j).toUInt32 &&& Int32.toUInt32 31).toBitVec % 32).toNat = j % 32 := by
    rw [e0, show Int32.ofNat j &&& 31 = nI (j % 32) from rx_m31 j]
    exact rx_s_u0 _ hj
  apply Int32.toBitVec_inj.mp
  apply BitVec.eq_of_toNat_eq
  rw [pk_ushr _ (Int32.ofNat j) (j % 32) hk]
  show (BitVec.ofNat 32 i).toNat / 2 ^ (j % 32) = (BitVec.ofNat 32 (i % 4294967296 / 2 ^ (j % 32))).toNat
  rw [BitVec.toNat_ofNat, BitVec.toNat_ofNat]
  have h1 : i % 4294967296 / 2 ^ (j % 32) ≤ i % 4294967296 := Nat.div_le_self _ _
  rw [Nat.mod_eq_of_lt (show i % 4294967296 / 2 ^ (j % 32) < 2 ^ 32 by omega)]
theorem rx_ofN_bv (z : Int32) : z = Int32.ofNat z.toBitVec.toNat := by
  apply Int32.toBitVec_inj.mp
  simp
theorem rx_no_ok {F : Int32 → Int32 → Int32} : ∀ i j n, rx_f_no i j = some n → F (Int32.ofNat i) (Int32.ofNat j) = Int32.ofNat n := fun _ _ _ h => by cases h
theorem rx_gand_ok (ad : List Nat) (en : List Int32) (v : Nat) (x y : Int32) (h : rx_cv b ad en v = some (.int y)) : (rx_gand v).1 ≤ rx_bias (x &&& y) ∧ rx_bias (x &&& y) ≤ (rx_gand v).2 := by
  unfold rx_gand
  cases hc : (Nat.beq (rx_tk v) 0 && Nat.blt (rx_pl v) 2147483648) with
  | false => exact ⟨Nat.zero_le _, rx_bias_max _⟩
  | true =>
    obtain ⟨h0, h1⟩ := rx_and2.mp hc
    have h1 : v / 4 < 2147483648 := rx_blt.mp h1
    rw [rx_cv0 (rx_beq.mp h0)] at h
    cases h
    have hk : (x &&& Int32.ofNat (v / 4)).toBitVec.toNat ≤ v / 4 := by
      rw [Int32.toBitVec_and, BitVec.toNat_and]
      refine Nat.le_trans Nat.and_le_right ?_
      rw [show (Int32.ofNat (v / 4)).toBitVec = BitVec.ofNat 32 (v / 4) by simp, BitVec.toNat_ofNat]
      exact Nat.mod_le _ _
    rw [rx_ofN_bv (x &&& Int32.ofNat (v / 4)), rx_bias_ofNat]
    generalize (x &&& Int32.ofNat (v / 4)).toBitVec.toNat = k at hk
    have hb : rx_bi k = k + 2147483648 := by unfold rx_bi; show (k + 2147483648) % 4294967296 = _; omega
    rw [hb]
    show 2147483648 ≤ k + 2147483648 ∧ k + 2147483648 ≤ v / 4 + 2147483648
    omega
end RXS2
end
section
section RXS3
variable {p : Program} {l : Launch} {e : Env} {R : Room} {s : State} {m : MethodId} {args : Array Value} {below : List Frame} {meth : Method} {c : Code} {Q : State → Prop} {cc : ByteArray}
variable {cy : Nat → ClassId} {D : va_G} {b : Nat → Nat} {A : Nat → Prop} {H0 : Heap} {ad0 : List Nat} {en0 : List Int32} {nL : Nat}
variable {K : rx_K} {N : rx_N} {pc na nb cn sn : Nat} {lv : rx_L} {st : List Nat} {hp : rx_H} {iv : rx_I} {out : List rx_S}
theorem rx_i8_ok (x : Int32) : 2147483520 ≤ rx_bias x.toInt8.toInt32 ∧ rx_bias x.toInt8.toInt32 ≤ 2147483775 := by
  have h1 := x.toInt8.le_toInt
  have h2 := x.toInt8.toInt_lt
  unfold rx_bias
  rw [Int8.toInt_toInt32]
  omega
theorem rx_i32_of (z : Int32) : Int32.ofNat (rx_i32 z) = z := (rx_ofN_bv z).symm
theorem rx_i64_of (z : Int64) : Int64.ofNat (rx_i64 z) = z := by
  apply Int64.toBitVec_inj.mp
  simp [rx_i64]
theorem rx_s_un {f : Nat → Nat} {F : Int32 → Int32} (row : ∀ {H : Heap} {locs : List Loc} {cells slots : Nat} {ls : Array Slot} {rest : List Value} {x : Int32}, W p l e R s m args below meth c H locs cells slots Q (F0 m (pc + 1) ls (.int (F x) :: rest)) → W p l e R s m args below meth c H locs cells slots Q (F0 m pc ls (.int x :: rest)))
    (hf : ∀ i, F (Int32.ofNat i) = Int32.ofNat (f i)) (h : rx_h_un f K N pc na nb lv st hp iv cn sn = some out) (hG : ∀ σ ∈ out, rx_G p l e R s m args below meth c Q cy D b A H0 ad0 en0 nL σ) : rx_G p l e R s m args below meth c Q cy D b A H0 ad0 en0 nL (pc, lv, st, hp, iv, cn, sn) := by
  intro ad en ls stA H locs ws hR
  obtain ⟨h1, h2, h3, h4, h5, h6, h7, h8, h9⟩ := hR
  match st, h with
  | [], h => cases h
  | x :: st', h =>
    obtain ⟨hk, h⟩ := rx_cond h
    cases h
    obtain ⟨xv, r, rfl, hxv, h8n⟩ := rx_st_cons h8
    cases (rx_cv0 (b := b) (ad := ad) (en := en) (rx_beq.mp hk)).symm.trans hxv
    refine row ?_
    rw [hf]
    exact hG _ List.mem_cons_self ad en ls _ H locs ws ⟨h1, h2, h3, h4, h5, h6, h7, rx_st_push (rx_int_cv b ad en _) h8n, h9⟩
theorem rx_s_ark {f : Nat → Nat → Option Nat} {F : Int32 → Int32 → Int32} (ok : Int32 → Prop) (row : ∀ {H : Heap} {locs : List Loc} {cells slots : Nat} {ls : Array Slot} {rest : List Value} {x y : Int32}, ok y → W p l e R s m args below meth c H locs cells slots Q (F0 m (pc + 1) ls (.int (F x y) :: rest)) → W p l e R s m args below meth c H locs cells slots Q (F0 m pc ls (.int y :: .int x :: rest)))
    (hf : ∀ i j n, f i j = some n → ok (Int32.ofNat j) ∧ F (Int32.ofNat i) (Int32.ofNat j) = Int32.ofNat n) (h : rx_h_ark f K N pc na nb lv st hp iv cn sn = some out) (hG : ∀ σ ∈ out, rx_G p l e R s m args below meth c Q cy D b A H0 ad0 en0 nL σ) : rx_G p l e R s m args below meth c Q cy D b A H0 ad0 en0 nL (pc, lv, st, hp, iv, cn, sn) := by
  intro ad en ls stA H locs ws hR
  obtain ⟨h1, h2, h3, h4, h5, h6, h7, h8, h9⟩ := hR
  match st, h with
  | [], h => cases h
  | [_], h => cases h
  | y :: x :: st', h =>
    obtain ⟨hk, h⟩ := rx_cond h
    obtain ⟨hkx, hky⟩ := rx_and2.mp hk
    cases hn : f (rx_pl x) (rx_pl y) with
    | none => rw [hn] at h; cases h
    | some n =>
      rw [hn] at h
      cases h
      obtain ⟨yv, r1, rfl, hyv, h8a⟩ := rx_st_cons h8
      obtain ⟨xv, r, rfl, hxv, h8b⟩ := rx_st_cons h8a
      cases (rx_cv0 (b := b) (ad := ad) (en := en) (rx_beq.mp hkx)).symm.trans hxv
      cases (rx_cv0 (b := b) (ad := ad) (en := en) (rx_beq.mp hky)).symm.trans hyv
      obtain ⟨ho, he⟩ := hf _ _ _ hn
      refine row ho ?_
      have he' : F (Int32.ofNat (x / 4)) (Int32.ofNat (y / 4)) = Int32.ofNat n := he
      rw [he']
      exact hG _ List.mem_cons_self ad en ls _ H locs ws ⟨h1, h2, h3, h4, h5, h6, h7, rx_st_push (rx_int_cv b ad en _) h8b, h9⟩
theorem rx_s_arJ {f : Nat → Nat → Nat} {F : Int64 → Int64 → Int64} (row : ∀ {H : Heap} {locs : List Loc} {cells slots : Nat} {ls : Array Slot} {rest : List Value} {x y : Int64}, W p l e R s m args below meth c H locs cells slots Q (F0 m (pc + 1) ls (.long (F x y) :: rest)) → W p l e R s m args below meth c H locs cells slots Q (F0 m pc ls (.long y :: .long x :: rest)))
    (hf : ∀ i j, F (Int64.ofNat i) (Int64.ofNat j) = Int64.ofNat (f i j)) (h : rx_h_arJ f K N pc na nb lv st hp iv cn sn = some out) (hG : ∀ σ ∈ out, rx_G p l e R s m args below meth c Q cy D b A H0 ad0 en0 nL σ) : rx_G p l e R s m args below meth c Q cy D b A H0 ad0 en0 nL (pc, lv, st, hp, iv, cn, sn) := by
  intro ad en ls stA H locs ws hR
  obtain ⟨h1, h2, h3, h4, h5, h6, h7, h8, h9⟩ := hR
  match st, h with
  | [], h => cases h
  | [_], h => cases h
  | y :: x :: st', h =>
    obtain ⟨hk, h⟩ := rx_cond h
    cases h
    obtain ⟨hkx, hky⟩ := rx_and2.mp hk
    obtain ⟨yv, r1, rfl, hyv, h8a⟩ := rx_st_cons h8
    obtain ⟨xv, r, rfl, hxv, h8b⟩ := rx_st_cons h8a
    have e1 := rx_isJ_cv hkx hxv
    have e2 := rx_isJ_cv hky hyv
    subst e1
    subst e2
    refine row ?_
    rw [hf]
    exact hG _ List.mem_cons_self ad en ls _ H locs ws ⟨h1, h2, h3, h4, h5, h6, h7, rx_st_push (rx_lng_cv b ad en _) h8b, h9⟩
theorem rx_s_shJ {f : Nat → Nat → Nat} {F : Int64 → Int32 → Int64} (row : ∀ {H : Heap} {locs : List Loc} {cells slots : Nat} {ls : Array Slot} {rest : List Value} {x : Int64} {y : Int32}, W p l e R s m args below meth c H locs cells slots Q (F0 m (pc + 1) ls (.long (F x y) :: rest)) → W p l e R s m args below meth c H locs cells slots Q (F0 m pc ls (.int y :: .long x :: rest)))
    (hf : ∀ i j, F (Int64.ofNat i) (Int32.ofNat j) = Int64.ofNat (f i j)) (h : rx_h_shJ f K N pc na nb lv st hp iv cn sn = some out) (hG : ∀ σ ∈ out, rx_G p l e R s m args below meth c Q cy D b A H0 ad0 en0 nL σ) : rx_G p l e R s m args below meth c Q cy D b A H0 ad0 en0 nL (pc, lv, st, hp, iv, cn, sn) := by
  intro ad en ls stA H locs ws hR
  obtain ⟨h1, h2, h3, h4, h5, h6, h7, h8, h9⟩ := hR
  match st, h with
  | [], h => cases h
  | [_], h => cases h
  | y :: x :: st', h =>
    obtain ⟨hk, h⟩ := rx_cond h
    cases h
    obtain ⟨hkx, hky⟩ := rx_and2.mp hk
    obtain ⟨yv, r1, rfl, hyv, h8a⟩ := rx_st_cons h8
    obtain ⟨xv, r, rfl, hxv, h8b⟩ := rx_st_cons h8a
    have e1 := rx_isJ_cv hkx hxv
    subst e1
    cases (rx_cv0 (b := b) (ad := ad) (en := en) (rx_beq.mp hky)).symm.trans hyv
    refine row ?_
    have he : F (Int64.ofNat (x / 4)) (Int32.ofNat (y / 4)) = Int64.ofNat (f (x / 4) (y / 4)) := hf _ _
    rw [he]
    exact hG _ List.mem_cons_self ad en ls _ H locs ws ⟨h1, h2, h3, h4, h5, h6, h7, rx_st_push (rx_lng_cv b ad en _) h8b, h9⟩
theorem rx_s_lcmp (hx : p.tables.exec = Jvm.exec) (hb : c.code = cc) (hd : decode cc pc = .ok (.lcmp, 1)) (h : rx_h_lcmp K N pc na nb lv st hp iv cn sn = some out) (hG : ∀ σ ∈ out, rx_G p l e R s m args below meth c Q cy D b A H0 ad0 en0 nL σ) : rx_G p l e R s m args below meth c Q cy D b A H0 ad0 en0 nL (pc, lv, st, hp, iv, cn, sn) := by
  intro ad en ls stA H locs ws hR
  obtain ⟨h1, h2, h3, h4, h5, h6, h7, h8, h9⟩ := hR
  match st, h with
  | [], h => cases h
  | [_], h => cases h
  | y :: x :: st', h =>
    obtain ⟨hk, h⟩ := rx_cond h
    cases h
    obtain ⟨hkx, hky⟩ := rx_and2.mp hk
    obtain ⟨yv, r1, rfl, hyv, h8a⟩ := rx_st_cons h8
    obtain ⟨xv, r, rfl, hxv, h8b⟩ := rx_st_cons h8a
    have e1 := rx_isJ_cv hkx hxv
    have e2 := rx_isJ_cv hky hyv
    subst e1
    subst e2
    refine W.lcmp hx hb hd ?_
    rw [← rx_i32_of (lg_cmp (Int64.ofNat (x / 4)) (Int64.ofNat (y / 4)))]
    exact hG _ List.mem_cons_self ad en ls _ H locs ws ⟨h1, h2, h3, h4, h5, h6, h7, rx_st_push (rx_int_cv b ad en _) h8b, h9⟩
theorem rx_cat1 {ad : List Nat} {en : List Int32} {v : Nat} {x : Value} (hj : rx_isJ v = false) (hx : rx_cv b ad en v = some x) : x.category = 1 := by
  rw [rx_cat_cv hx, if_neg (by rw [hj]; exact Bool.noConfusion)]
theorem rx_condF {α : Type} {q : Bool} {x : Option α} {y : α} (h : (bif q then none else x) = some y) : q = false ∧ x = some y := by
  cases q with
  | true => cases h
  | false => exact ⟨rfl, h⟩
theorem rx_s_dup (hx : p.tables.exec = Jvm.exec) (hb : c.code = cc) (hd : decode cc pc = .ok (.dup, 1)) (h : rx_h_dup K N pc na nb lv st hp iv cn sn = some out) (hG : ∀ σ ∈ out, rx_G p l e R s m args below meth c Q cy D b A H0 ad0 en0 nL σ) : rx_G p l e R s m args below meth c Q cy D b A H0 ad0 en0 nL (pc, lv, st, hp, iv, cn, sn) := by
  intro ad en ls stA H locs ws hR
  obtain ⟨h1, h2, h3, h4, h5, h6, h7, h8, h9⟩ := hR
  cases st with
  | nil => cases h
  | cons v st' =>
    obtain ⟨hk, h⟩ := rx_condF h
    cases h
    obtain ⟨x, r, rfl, hxv, h8n⟩ := rx_st_cons h8
    exact lv_dup hx hb hd (rx_cat1 hk hxv) (hG _ List.mem_cons_self ad en ls (x :: x :: r) H locs ws ⟨h1, h2, h3, h4, h5, h6, h7, rx_st_push hxv (rx_st_push hxv h8n), h9⟩)
theorem rx_s_pop (hx : p.tables.exec = Jvm.exec) (hb : c.code = cc) (hd : decode cc pc = .ok (.pop, 1)) (h : rx_h_pop K N pc na nb lv st hp iv cn sn = some out) (hG : ∀ σ ∈ out, rx_G p l e R s m args below meth c Q cy D b A H0 ad0 en0 nL σ) : rx_G p l e R s m args below meth c Q cy D b A H0 ad0 en0 nL (pc, lv, st, hp, iv, cn, sn) := by
  intro ad en ls stA H locs ws hR
  obtain ⟨h1, h2, h3, h4, h5, h6, h7, h8, h9⟩ := hR
  cases st with
  | nil => cases h
  | cons v st' =>
    obtain ⟨hk, h⟩ := rx_condF h
    cases h
    obtain ⟨x, r, rfl, hxv, h8n⟩ := rx_st_cons h8
    exact lv_pop hx hb hd (rx_cat1 hk hxv) (hG _ List.mem_cons_self ad en ls r H locs ws ⟨h1, h2, h3, h4, h5, h6, h7, h8n, h9⟩)
theorem rx_s_pop2 (hx : p.tables.exec = Jvm.exec) (hb : c.code = cc) (hd : decode cc pc = .ok (.pop2, 1)) (h : rx_h_pop2 K N pc na nb lv st hp iv cn sn = some out) (hG : ∀ σ ∈ out, rx_G p l e R s m args below meth c Q cy D b A H0 ad0 en0 nL σ) : rx_G p l e R s m args below meth c Q cy D b A H0 ad0 en0 nL (pc, lv, st, hp, iv, cn, sn) := by
  intro ad en ls stA H locs ws hR
  obtain ⟨h1, h2, h3, h4, h5, h6, h7, h8, h9⟩ := hR
  cases st with
  | nil => cases h
  | cons v st' =>
    obtain ⟨hk, h⟩ := rx_cond h
    cases h
    obtain ⟨x, r, rfl, hxv, h8n⟩ := rx_st_cons h8
    exact lv_pop2_2 hx hb hd (by rw [rx_cat_cv hxv, if_pos hk]) (hG _ List.mem_cons_self ad en ls r H locs ws ⟨h1, h2, h3, h4, h5, h6, h7, h8n, h9⟩)
theorem rx_s_dup2 (hx : p.tables.exec = Jvm.exec) (hb : c.code = cc) (hd : decode cc pc = .ok (.dup2, 1)) (h : rx_h_dup2 K N pc na nb lv st hp iv cn sn = some out) (hG : ∀ σ ∈ out, rx_G p l e R s m args below meth c Q cy D b A H0 ad0 en0 nL σ) : rx_G p l e R s m args below meth c Q cy D b A H0 ad0 en0 nL (pc, lv, st, hp, iv, cn, sn) := by
  intro ad en ls stA H locs ws hR
  obtain ⟨h1, h2, h3, h4, h5, h6, h7, h8, h9⟩ := hR
  match st, h with
  | [], h => cases h
  | [_], h => cases h
  | v :: w :: st', h =>
    obtain ⟨hk, h⟩ := rx_condF h
    cases h
    have hkv : rx_isJ v = false := by cases hv : rx_isJ v with | false => rfl | true => rw [hv] at hk; cases hk
    have hkw : rx_isJ w = false := by cases hw : rx_isJ w with | false => rfl | true => rw [hw, hkv] at hk; cases hk
    obtain ⟨x, r1, rfl, hxv, h8a⟩ := rx_st_cons h8
    obtain ⟨y, r, rfl, hyv, h8b⟩ := rx_st_cons h8a
    exact lv_dup2_11 hx hb hd (rx_cat1 hkv hxv) (rx_cat1 hkw hyv) (hG _ List.mem_cons_self ad en ls (x :: y :: x :: y :: r) H locs ws ⟨h1, h2, h3, h4, h5, h6, h7, rx_st_push hxv (rx_st_push hyv (rx_st_push hxv (rx_st_push hyv h8b))), h9⟩)
theorem rx_s_goto {off : Int} (hx : p.tables.exec = Jvm.exec) (hb : c.code = cc) (hd : decode cc pc = .ok (.goto off, 3)) (ht : (pc : Int) + off = (na : Int)) (h : rx_h_goto K N pc na nb lv st hp iv cn sn = some out) (hG : ∀ σ ∈ out, rx_G p l e R s m args below meth c Q cy D b A H0 ad0 en0 nL σ) : rx_G p l e R s m args below meth c Q cy D b A H0 ad0 en0 nL (pc, lv, st, hp, iv, cn, sn) := by
  intro ad en ls stA H locs ws hR
  obtain ⟨h1, h2, h3, h4, h5, h6, h7, h8, h9⟩ := hR
  cases h
  exact lv_goto hx hb hd ht (hG _ List.mem_cons_self ad en ls stA H locs ws ⟨h1, h2, h3, h4, h5, h6, h7, h8, h9⟩)
/-- a condition of two ints -/
noncomputable def rx_cnd (k : ClassFile.Cond) (x y : Int32) : Prop := match k with
  | .lt => x < y | .ge => x ≥ y | .gt => x > y | .le => x ≤ y | .eq => x = y | .ne => x ≠ y
theorem rx_tri_ok {k : ClassFile.Cond} {x y : Int32} {a1 a2 b1 b2 : Nat} (h1 : a1 ≤ rx_bias x) (h2 : rx_bias x ≤ a2) (h3 : b1 ≤ rx_bias y) (h4 : rx_bias y ≤ b2) {t : Bool} (h : rx_tri k (a1, a2) (b1, b2) = some t) : (t = true ↔ rx_cnd k x y) := by
  have two : ∀ {u v : Bool} {z w : Bool}, (bif u then some z else bif v then some w else none) = some t → (u = true ∧ t = z) ∨ (v = true ∧ t = w) := by
    intro u v z w hh
    cases u with
    | true => exact Or.inl ⟨rfl, (Option.some.inj hh).symm⟩
    | false => cases v with
      | true => exact Or.inr ⟨rfl, (Option.some.inj hh).symm⟩
      | false => cases hh
  have ne : ∀ z : x = y, rx_bias x = rx_bias y := fun z => by rw [z]
  cases k <;> simp only [rx_tri] at h <;> rcases two h with ⟨hu, rfl⟩ | ⟨hu, rfl⟩ <;> simp only [rx_cnd]
  · rcases rx_or2.mp hu with q | q <;> have q := rx_blt.mp q <;> simp only [Bool.false_eq_true, false_iff] <;> exact fun z => by have := ne z; omega
  · obtain ⟨q1, q2⟩ := rx_and2.mp hu
    obtain ⟨q2, q3⟩ := rx_and2.mp q2
    have q1 := rx_beq.mp q1; have q2 := rx_beq.mp q2; have q3 := rx_beq.mp q3
    simp only [true_iff]
    exact rx_bias_inj (by omega)
  · rcases rx_or2.mp hu with q | q <;> have q := rx_blt.mp q <;> simp only [true_iff] <;> exact fun z => by have := ne z; omega
  · obtain ⟨q1, q2⟩ := rx_and2.mp hu
    obtain ⟨q2, q3⟩ := rx_and2.mp q2
    have q1 := rx_beq.mp q1; have q2 := rx_beq.mp q2; have q3 := rx_beq.mp q3
    simp only [Bool.false_eq_true, false_iff]
    exact fun z => z (rx_bias_inj (by omega))
  · have q := rx_blt.mp hu; simp only [true_iff]; exact rx_bias_lt.mpr (by omega)
  · have q := rx_ble.mp hu; simp only [Bool.false_eq_true, false_iff]; exact fun z => by have := rx_bias_lt.mp z; omega
  · have q := rx_blt.mp hu; simp only [Bool.false_eq_true, false_iff]; exact fun z => by have := rx_bias_le.mp z; omega
  · have q := rx_ble.mp hu; simp only [true_iff]; exact rx_bias_le.mpr (by omega)
  · have q := rx_blt.mp hu; simp only [true_iff]; exact rx_bias_lt.mpr (by omega)
  · have q := rx_ble.mp hu; simp only [Bool.false_eq_true, false_iff]; exact fun z => by have := rx_bias_lt.mp z; omega
  · have q := rx_blt.mp hu; simp only [Bool.false_eq_true, false_iff]; exact fun z => by have := rx_bias_le.mp z; omega
  · have q := rx_ble.mp hu; simp only [true_iff]; exact rx_bias_le.mpr (by omega)
/-- branches: the row tells the machine's two ways -/
theorem rx_s_br {k : ClassFile.Cond} {x y : Nat} {st' : List Nat}
    (row : ∀ {ad : List Nat} {en : List Int32} {H : Heap} {locs : List Loc} {ls : Array Slot} {stA : List Value} {xa ya : Int32}, rx_cv b ad en x = some (.int xa) → rx_cv b ad en y = some (.int ya) → st.map (rx_cv b ad en) = stA.map some → ∃ r : List Value, st'.map (rx_cv b ad en) = r.map some ∧ ((rx_cnd k xa ya → W p l e R s m args below meth c H locs cn sn Q (F0 m na ls r)) → (¬ rx_cnd k xa ya → W p l e R s m args below meth c H locs cn sn Q (F0 m (pc + 3) ls r)) → W p l e R s m args below meth c H locs cn sn Q (F0 m pc ls stA)))
    (h : rx_br k na pc x y st st' lv hp iv cn sn = some out) (hG : ∀ σ ∈ out, rx_G p l e R s m args below meth c Q cy D b A H0 ad0 en0 nL σ) : rx_G p l e R s m args below meth c Q cy D b A H0 ad0 en0 nL (pc, lv, st, hp, iv, cn, sn) := by
  unfold rx_br at h
  cases hi1 : rx_io iv x with
  | none => rw [hi1] at h; cases h
  | some a =>
    cases hi2 : rx_io iv y with
    | none => rw [hi1, hi2] at h; cases h
    | some b' =>
      rw [hi1, hi2] at h
      obtain ⟨a1, a2⟩ := a
      obtain ⟨b1, b2⟩ := b'
      replace h : (match rx_tri k (a1, a2) (b1, b2) with
        | some true => some [(na, lv, st', hp, iv, cn, sn)]
        | some false => some [(Nat.add pc 3, lv, st', hp, iv, cn, sn)]
        | none => bif Nat.beq b1 b2 then rx_two pc lv st hp (rx_cut iv x (bif Nat.blt a1 b1 then Nat.pred b1 else b1)) cn sn else rx_two pc lv st hp (rx_cut iv y (bif Nat.blt b1 a1 then Nat.pred a1 else a1)) cn sn) = some out := h
      cases ht : rx_tri k (a1, a2) (b1, b2) with
      | none =>
        rw [ht] at h
        replace h : (bif Nat.beq b1 b2 then rx_two pc lv st hp (rx_cut iv x (bif Nat.blt a1 b1 then Nat.pred b1 else b1)) cn sn else rx_two pc lv st hp (rx_cut iv y (bif Nat.blt b1 a1 then Nat.pred a1 else a1)) cn sn) = some out := h
        cases hbb : Nat.beq b1 b2 with
        | true => rw [hbb, cond_true] at h; exact rx_s_two rfl h hG
        | false => rw [hbb, cond_false] at h; exact rx_s_two rfl h hG
      | some t =>
        rw [ht] at h
        intro ad en ls stA H locs ws hR
        obtain ⟨h1, h2, h3, h4, h5, h6, h7, h8, h9⟩ := hR
        obtain ⟨xa, ex, e1, e2⟩ := rx_io_cv (b := b) (ad := ad) h9 hi1
        obtain ⟨ya, ey, e3, e4⟩ := rx_io_cv (b := b) (ad := ad) h9 hi2
        have hiff := rx_tri_ok e1 e2 e3 e4 ht
        obtain ⟨r, hr, hrow⟩ := row (H := H) (locs := locs) (ls := ls) ex ey h8
        cases t with
        | true =>
          cases h
          exact hrow (fun _ => hG _ List.mem_cons_self ad en ls r H locs ws ⟨h1, h2, h3, h4, h5, h6, h7, hr, h9⟩) (fun z => absurd (hiff.mp rfl) z)
        | false =>
          cases h
          exact hrow (fun z => absurd (hiff.mpr z) (by decide)) (fun _ => hG _ List.mem_cons_self ad en ls r H locs ws ⟨h1, h2, h3, h4, h5, h6, h7, hr, h9⟩)
theorem rx_s_if {k : ClassFile.Cond} {off : Int} (hx : p.tables.exec = Jvm.exec) (hb : c.code = cc) (hd : decode cc pc = .ok (.ifCond k off, 3)) (ht : (pc : Int) + off = (na : Int)) (h : rx_h_if k K N pc na nb lv st hp iv cn sn = some out) (hG : ∀ σ ∈ out, rx_G p l e R s m args below meth c Q cy D b A H0 ad0 en0 nL σ) : rx_G p l e R s m args below meth c Q cy D b A H0 ad0 en0 nL (pc, lv, st, hp, iv, cn, sn) := by
  match st, h with
  | [], h => cases h
  | x :: st', h =>
    refine rx_s_br (k := k) (x := x) (y := 0) (st' := st') ?_ h hG
    intro ad en H locs ls stA xa ya ex ey hs
    obtain ⟨x1, r, rfl, hx1, hr⟩ := rx_st_cons hs
    cases ex.symm.trans hx1
    have e0 : ya = 0 := by
      have := ey.symm.trans (rx_int_cv b ad en 0)
      cases this; rfl
    subst e0
    refine ⟨r, hr, fun kt kf => ?_⟩
    cases k with
    | eq => exact lv_if_eq hx hb hd ht kt kf
    | ne => exact lv_if_ne hx hb hd ht kt (fun z => kf (fun w => w z))
    | lt => exact lv_if_lt hx hb hd ht kt kf
    | ge => exact lv_if_ge hx hb hd ht kt kf
    | gt => exact lv_if_gt hx hb hd ht kt kf
    | le => exact lv_if_le hx hb hd ht kt kf
theorem rx_s_icmp {k : ClassFile.Cond} {off : Int} (hx : p.tables.exec = Jvm.exec) (hb : c.code = cc) (hd : decode cc pc = .ok (.if_icmp k off, 3)) (ht : (pc : Int) + off = (na : Int)) (h : rx_h_icmp k K N pc na nb lv st hp iv cn sn = some out) (hG : ∀ σ ∈ out, rx_G p l e R s m args below meth c Q cy D b A H0 ad0 en0 nL σ) : rx_G p l e R s m args below meth c Q cy D b A H0 ad0 en0 nL (pc, lv, st, hp, iv, cn, sn) := by
  match st, h with
  | [], h => cases h
  | [_], h => cases h
  | y :: x :: st', h =>
    refine rx_s_br (k := k) (x := x) (y := y) (st' := st') ?_ h hG
    intro ad en H locs ls stA xa ya ex ey hs
    obtain ⟨y1, r1, rfl, hy1, hr1⟩ := rx_st_cons hs
    obtain ⟨x1, r, rfl, hx1, hr⟩ := rx_st_cons hr1
    cases ex.symm.trans hx1
    cases ey.symm.trans hy1
    refine ⟨r, hr, fun kt kf => ?_⟩
    cases k with
    | eq => exact lv_icmp_eq hx hb hd ht kt kf
    | ne => exact lv_icmp_ne hx hb hd ht kt (fun z => kf (fun w => w z))
    | lt => exact lv_icmp_lt hx hb hd ht kt kf
    | ge => exact lv_icmp_ge hx hb hd ht kt kf
    | gt => exact lv_icmp_gt hx hb hd ht kt kf
    | le => exact lv_icmp_le hx hb hd ht kt kf
end RXS3
end
section
theorem rx_map_get {b : Nat → Nat} {ad : List Nat} {en : List Int32} {l : List Nat} {fs : List Value} (h : l.map (rx_cv b ad en) = fs.map some) {i v : Nat} (hv : l[i]? = some v) : ∃ x, fs[i]? = some x ∧ rx_cv b ad en v = some x := by
  have h1 : (l.map (rx_cv b ad en))[i]? = (fs.map some)[i]? := by rw [h]
  rw [List.getElem?_map, List.getElem?_map, hv] at h1
  cases e : fs[i]? with
  | none => rw [e] at h1; cases h1
  | some x => rw [e] at h1; exact ⟨x, rfl, Option.some.inj h1⟩
theorem rx_map_set {b : Nat → Nat} {ad : List Nat} {en : List Int32} {l : List Nat} {fs : List Value} (h : l.map (rx_cv b ad en) = fs.map some) {i v : Nat} {x : Value} (hv : rx_cv b ad en v = some x) : (l.set i v).map (rx_cv b ad en) = (fs.set i x).map some := by
  rw [List.map_set, List.map_set, h, hv]
theorem rx_map_len {b : Nat → Nat} {ad : List Nat} {en : List Int32} {l : List Nat} {fs : List Value} (h : l.map (rx_cv b ad en) = fs.map some) : fs.length = l.length := by
  have := congrArg List.length h
  simpa using this.symm
/-- a reference to a place -/
theorem rx_ref_at {cy : Nat → ClassId} {b : Nat → Nat} {ad : List Nat} {en : List Int32} {hp : rx_H} {ws : va_W} (h3 : rx_RW cy b ad en hp ws) {v : Nat} {x : Value} {cl : rx_C} (ht : (Nat.beq (rx_tk v) 2 && Nat.ble 2 (rx_pl v)) = true) (hx : rx_cv b ad en v = some x) (hg : rx_hg hp (Nat.sub (rx_pl v) 2) = some cl) : ∃ (a : Nat) (e : va_E), x = .ref a ∧ ad[Nat.sub (rx_pl v) 2]? = some a ∧ ws[Nat.sub (rx_pl v) 2]? = some (a, e) ∧ rx_RC cy b ad en cl e := by
  obtain ⟨t1, t2⟩ := rx_and2.mp ht
  obtain ⟨a, e, h1, h2, h4⟩ := h3.2.2.2 _ _ hg
  refine ⟨a, e, ?_, h1, h2, h4⟩
  have hlt := rx_hg_lt hg
  have h256 := h3.1
  have hlt2 : v / 4 - 2 < hp.1 := hlt
  rw [rx_cv2 (rx_beq.mp t1) (rx_ble.mp t2) (by omega)] at hx
  have h1' : ad[v / 4 - 2]? = some a := h1
  rw [h1'] at hx
  exact (Option.some.inj hx).symm
theorem rx_RC.obj {cy : Nat → ClassId} {b : Nat → Nat} {ad : List Nat} {en : List Int32} {c : rx_C} {e : va_E} (h : rx_RC cy b ad en c e) (hc : c.1 < 12) : ∃ fs : List Value, e = .inr (c.1, fs) ∧ c.2.2.map (rx_cv b ad en) = fs.map some := by
  rcases h.2 with ⟨-, h⟩ | ⟨h1, -⟩ | ⟨h1, -⟩ | ⟨h1, -⟩
  · exact h
  · omega
  · omega
  · omega
theorem rx_RC.nums {cy : Nat → ClassId} {b : Nat → Nat} {ad : List Nat} {en : List Int32} {c : rx_C} {e : va_E} (h : rx_RC cy b ad en c e) (hc : c.1 = 12 ∨ c.1 = 13 ∨ c.1 = 15) : ∃ f : Nat → Int32, e = .inl (cy c.1, c.2.1, .inl f) ∧ ∀ j v, c.2.2[j]? = some v → rx_cv b ad en v = some (.int (f j)) := by
  rcases h.2 with ⟨h1, -⟩ | ⟨-, h⟩ | ⟨h1, -⟩ | ⟨h1, -⟩
  · omega
  · exact h
  · omega
  · omega
theorem rx_RC.refs {cy : Nat → ClassId} {b : Nat → Nat} {ad : List Nat} {en : List Int32} {c : rx_C} {e : va_E} (h : rx_RC cy b ad en c e) (hc : c.1 = 16) : ∃ f : Nat → Option Nat, e = .inl (cy 16, c.2.1, .inr (.inr (.inr (.inr f)))) ∧ ∀ j v, c.2.2[j]? = some v → rx_cv b ad en v = some (va_rf (f j)) := by
  rcases h.2 with ⟨h1, -⟩ | ⟨h1, -⟩ | ⟨h1, -⟩ | ⟨-, h⟩
  · omega
  · omega
  · omega
  · exact h
theorem rx_RC.lngs {cy : Nat → ClassId} {b : Nat → Nat} {ad : List Nat} {en : List Int32} {c : rx_C} {e : va_E} (h : rx_RC cy b ad en c e) (hc : c.1 = 14) : ∃ f : Nat → Int64, e = .inl (cy 14, c.2.1, .inr (.inl f)) ∧ ∀ j v, c.2.2[j]? = some v → rx_cv b ad en v = some (.long (f j)) := by
  rcases h.2 with ⟨h1, -⟩ | ⟨h1, -⟩ | ⟨-, h⟩ | ⟨h1, -⟩
  · omega
  · omega
  · exact h
  · omega
/-- what the tables say of a field that is read -/
noncomputable def rx_SF (own : String) (idx na nb : Nat) : Prop := ∃ (C : String) (T : u_T) (Nf : Nat), vwCl[na]? = some (C, T, Nf) ∧ na < 12 ∧ nb < Nf ∧ Cond.fieldLink own idx (T nb).1 (T nb).2.1 (T nb).2.2.1 ∈ lw_G ∧ ∀ w ∈ u_ws C T Nf, w ∈ lw_G
noncomputable def rx_fkt (k : Nat) (ty : FieldType) : Prop := (k = 0 ∧ ty = .int) ∨ (k = 1 ∧ ty = .boolean) ∨ (k = 2 ∧ ((∃ n, ty = .object n) ∨ ∃ t, ty = .array t))
/-- and of one that is written -/
noncomputable def rx_SP (K : rx_K) (own mn : String) (idx na nb : Nat) : Prop := ∃ (C : String) (T : u_T) (Nf : Nat) (ty0 : Nat → FieldType), vwCl[na]? = some (C, T, Nf) ∧ na < 12 ∧ nb < Nf ∧ Cond.fieldLink own idx (T nb).1 (T nb).2.1 (T nb).2.2.1 ∈ lw_G ∧ (∀ w ∈ u_ws C T Nf, w ∈ lw_G) ∧
  (∀ k, k < Nf → parseFieldDescriptor (T k).2.2.1 = some (ty0 k)) ∧ (∀ a, a < Nf → ∀ b, b < Nf → a ≠ b → (T a).2.1 ≠ (T b).2.1) ∧ ((T nb).2.2.2 = false ∨ ((T nb).2.2.2 = true ∧ mn = "<init>" ∧ (T nb).1 = own)) ∧ ∀ ks k, rx_nth K.2 na = some ks → rx_nth ks nb = some k → rx_fkt k (ty0 nb)
theorem rx_bit_cv {b : Nat → Nat} {ad : List Nat} {en : List Int32} {v : Nat} {x : Value} (h : rx_bit v = true) (hx : rx_cv b ad en v = some x) : x = .int 0 ∨ x = .int 1 := by
  rcases rx_or2.mp h with h | h
  · have h := rx_beq.mp h
    subst h
    exact Or.inl (Option.some.inj (hx.symm.trans (rx_int_cv b ad en 0)))
  · have h := rx_beq.mp h
    subst h
    exact Or.inr (Option.some.inj (hx.symm.trans (rx_int_cv b ad en 1)))
theorem rx_fok_cv {b : Nat → Nat} {ad : List Nat} {en : List Int32} {k v : Nat} {x : Value} {ty : FieldType} (hk : rx_fkt k ty) (h : rx_fok k v = true) (hx : rx_cv b ad en v = some x) : narrow ty x = x ∧ fits ty x = true := by
  unfold rx_fok at h
  rcases hk with ⟨rfl, rfl⟩ | ⟨rfl, rfl⟩ | ⟨rfl, ht⟩
  · replace h : rx_isI v = true := h
    obtain ⟨n, rfl⟩ := rx_isI_cv h hx
    exact ⟨rfl, rfl⟩
  · replace h : rx_bit v = true := h
    rcases rx_bit_cv h hx with rfl | rfl
    · exact ⟨rfl, rfl⟩
    · exact ⟨rfl, rfl⟩
  · replace h : rx_isA v = true := h
    rcases ht with ⟨n, rfl⟩ | ⟨n, rfl⟩ <;> rcases rx_isA_cv h hx with rfl | ⟨a, rfl⟩ <;> exact ⟨rfl, rfl⟩
section RXS4
variable {p : Program} {l : Launch} {e : Env} {R : Room} {s : State} {m : MethodId} {args : Array Value} {below : List Frame} {meth : Method} {c : Code} {Q : State → Prop} {cc : ByteArray}
variable {cy : Nat → ClassId} {D : va_G} {b : Nat → Nat} {A : Nat → Prop} {H0 : Heap} {ad0 : List Nat} {en0 : List Int32} {nL : Nat}
variable {K : rx_K} {N : rx_N} {pc na nb cn sn : Nat} {lv : rx_L} {st : List Nat} {hp : rx_H} {iv : rx_I} {out : List rx_S} {own : String}
theorem rx_s_gf {idx : Nat} (hx : p.tables.exec = Jvm.exec) (hb : c.code = cc) (hts : ∀ w ∈ lw_G, w.before args s = true) (hown : s.vm.findClass own = some m.cls) (hK : va_K D vwCl (rx_tys cy) s) (hd : decode cc pc = .ok (.getfield idx, 3)) (hF : rx_SF own idx na nb)
    (h : rx_h_gf K N pc na nb lv st hp iv cn sn = some out) (hG : ∀ σ ∈ out, rx_G p l e R s m args below meth c Q cy D b A H0 ad0 en0 nL σ) : rx_G p l e R s m args below meth c Q cy D b A H0 ad0 en0 nL (pc, lv, st, hp, iv, cn, sn) := by
  intro ad en ls stA H locs ws hR
  obtain ⟨h1, h2, h3, h4, h5, h6, h7, h8, h9⟩ := hR
  match st, h with
  | [], h => cases h
  | v :: st', h =>
    obtain ⟨ht, h⟩ := rx_cond h
    cases hg : rx_hg hp (Nat.sub (rx_pl v) 2) with
    | none => rw [hg] at h; cases h
    | some cl =>
      obtain ⟨t, n, f⟩ := cl
      rw [hg] at h
      obtain ⟨hta, hn⟩ := rx_cond h
      have hta : t = na := rx_beq.mp hta
      subst hta
      rw [rx_nth_eq] at hn
      cases hv : f[nb]? with
      | none => rw [hv] at hn; cases hn
      | some w =>
        rw [hv] at hn
        cases hn
        obtain ⟨x, r, rfl, hxv, h8n⟩ := rx_st_cons h8
        obtain ⟨a, ee, rfl, ha, hw, hc⟩ := rx_ref_at h3 ht hxv hg
        obtain ⟨C, T, Nf, q1, q2, q3, q4, q5⟩ := hF
        obtain ⟨fs, rfl, hfs⟩ := hc.obj q2
        obtain ⟨y, hy, hcv⟩ := rx_map_get hfs hv
        exact va_get hx hb hts q5 hown hK h4 _ hw q1 nb q3 (hts _ q4) (fun _ z => z) hy hd (hG _ List.mem_cons_self ad en ls (y :: r) H locs ws ⟨h1, h2, h3, h4, h5, h6, h7, rx_st_push hcv h8n, h9⟩)
theorem rx_s_pf {idx : Nat} {mn : String} (hx : p.tables.exec = Jvm.exec) (hb : c.code = cc) (hts : ∀ w ∈ lw_G, w.before args s = true) (hown : s.vm.findClass own = some m.cls) (hK : va_K D vwCl (rx_tys cy) s) (hmn : mn = "<init>" → meth.name = "<init>") (hd : decode cc pc = .ok (.putfield idx, 3)) (hF : rx_SP K own mn idx na nb)
    (h : rx_h_pf K N pc na nb lv st hp iv cn sn = some out) (hG : ∀ σ ∈ out, rx_G p l e R s m args below meth c Q cy D b A H0 ad0 en0 nL σ) : rx_G p l e R s m args below meth c Q cy D b A H0 ad0 en0 nL (pc, lv, st, hp, iv, cn, sn) := by
  intro ad en ls stA H locs ws hR
  obtain ⟨h1, h2, h3, h4, h5, h6, h7, h8, h9⟩ := hR
  match st, h with
  | [], h => cases h
  | [_], h => cases h
  | u :: v :: st', h =>
    obtain ⟨ht, h⟩ := rx_cond h
    cases hg : rx_hg hp (Nat.sub (rx_pl v) 2) with
    | none => rw [hg] at h; cases h
    | some cl =>
      obtain ⟨t, n, f⟩ := cl
      rw [hg] at h
      replace h : (match rx_nth K.2 na with
        | some ks => (match rx_nth ks nb with
          | some k => bif Nat.beq t na && (Nat.blt nb n && rx_fok k u) then some [(Nat.add pc 3, lv, st', rx_hs hp (Nat.sub (rx_pl v) 2) (t, n, rx_upd f nb u), iv, cn, sn)] else none
          | none => none)
        | none => none) = some out := h
      cases hks : rx_nth K.2 na with
      | none => rw [hks] at h; cases h
      | some ks =>
        rw [hks] at h
        replace h : (match rx_nth ks nb with
          | some k => bif Nat.beq t na && (Nat.blt nb n && rx_fok k u) then some [(Nat.add pc 3, lv, st', rx_hs hp (Nat.sub (rx_pl v) 2) (t, n, rx_upd f nb u), iv, cn, sn)] else none
          | none => none) = some out := h
        cases hk : rx_nth ks nb with
        | none => rw [hk] at h; cases h
        | some k =>
          rw [hk] at h
          obtain ⟨hc, hn⟩ := rx_cond h
          obtain ⟨hta, hc⟩ := rx_and2.mp hc
          obtain ⟨hbn, hfok⟩ := rx_and2.mp hc
          have hta : t = na := rx_beq.mp hta
          have hbn : nb < n := rx_blt.mp hbn
          subst hta
          cases hn
          obtain ⟨y, r1, rfl, hy, h8a⟩ := rx_st_cons h8
          obtain ⟨x, r, rfl, hxv, h8n⟩ := rx_st_cons h8a
          obtain ⟨a, ee, rfl, ha, hw, hcl⟩ := rx_ref_at h3 ht hxv hg
          obtain ⟨C, T, Nf, ty0, q1, q2, q3, q4, q5, q6, q7, q8, q9⟩ := hF
          obtain ⟨fs, rfl, hfs⟩ := hcl.obj q2
          obtain ⟨hn1, hn2⟩ := rx_fok_cv (q9 ks k hks hk) hfok hy
          have hlen : nb < fs.length := by rw [rx_map_len hfs]; show nb < f.length; rw [show f.length = n from hcl.1]; exact hbn
          have hcl2 : rx_RC cy b ad en (t, n, rx_upd f nb u) (.inr (t, fs.set nb y)) := by
            refine ⟨by show (rx_upd f nb u).length = n; rw [rx_upd_eq, List.length_set]; exact hcl.1, Or.inl ⟨q2, _, rfl, ?_⟩⟩
            show (rx_upd f nb u).map _ = _
            rw [rx_upd_eq]
            exact rx_map_set hfs hy
          have hRW := h3.set (rx_hg_lt hg) ha hcl2
          have done : ∀ (H1 : Heap) (locs1 : List Loc), va_P D vwCl (ws.set (Nat.sub (rx_pl v) 2) (a, .inr (t, fs.set nb y))) H1 → va_D A (ws.set (Nat.sub (rx_pl v) 2) (a, .inr (t, fs.set nb y))) → va_S A H0 H1 locs1 → W p l e R s m args below meth c H1 locs1 cn sn Q (F0 m (pc + 3) ls r) := fun H1 locs1 p1 p2 p3 =>
            hG _ List.mem_cons_self ad en ls r H1 locs1 _ ⟨h1, h2, hRW, p1, p2, p3, h7, h8n, h9⟩
          rcases q8 with q8 | ⟨q8, q10, q11⟩
          · exact va_put hx hb hts q5 ty0 q6 q7 hown hK h4 h5 h6 _ hw q1 nb q3 (hts _ q4) (fun _ z => z) q8 (q6 nb q3) hn1 hn2 hlen hd done
          · exact va_putF hx hb hts q5 ty0 q6 q7 hown hK h4 h5 h6 _ hw q1 nb q3 (hts _ q4) (fun _ z => z) q8 (hmn q10) q11 (q6 nb q3) hn1 hn2 hlen hd done
end RXS4
end
section
theorem rx_bv2 {P : Prop} (h : P) : P := h
theorem rx_i8_id {x : Int32} (h1 : 2147483520 ≤ rx_bias x) (h2 : rx_bias x ≤ 2147483775) : vp_nar .byte x = x := by
  rw [vp_nar_byte]
  have h3 := x.le_toInt
  have h4 := x.toInt_lt
  unfold rx_bias at h1 h2
  apply Int32.toInt_inj.mp
  rw [Int8.toInt_toInt32, Int32.toInt_toInt8]
  rw [Int.bmod_eq_of_le (by omega) (by omega)]
/-- the words, and what String's methods read -/
noncomputable def rx_sln : List Nat := rx_sbyt.map List.length
noncomputable def rx_sb32 : List (List Int32) := rx_sbyt.map (fun l => l.map Int32.ofNat)
noncomputable def rx_sidx : List Nat := [64, 86, 91, 95, 99, 135, 137, 139]
noncomputable def rx_stx : List String := ["switches", "link", "root", "room", "rank", "far", "number", "links"]
noncomputable def rx_Zt (b : Nat → Nat) (A : Nat → Prop) (s : State) : Prop :=
  vk_S 8 rx_sln rx_sb32 (fun i => b (i + 1)) (fun i => b (i + 9)) A s s.heap ∧ (∀ i : Nat, i < 8 → vk_R "TurnNet$Reader" (rx_sidx.getD i 0) (rx_stx.getD i "") (b (i + 1)) s) ∧ va_Z "java/lang/String" "COMPACT_STRINGS" "Z" (.int 1) A s s.heap ∧ va_Zq "jdk/internal/util/Preconditions" "SIOOBE_FORMATTER" "Ljava/util/function/BiFunction;" A s s.heap
theorem rx_Zt.call {b : Nat → Nat} {A B : Nat → Prop} {s U : State} {H : Heap} {locs : List Loc} (hW : s.WarmedH U.vm) (hU : U.heap = H) (hS : va_S A s.heap H locs) (hAB : ∀ q, B q → A q) (h : rx_Zt b A s) : rx_Zt b B U := by
  obtain ⟨h1, h2, h3, h4⟩ := h
  refine ⟨?_, fun i hi => vk_R.warm hW (h2 i hi), ?_, ?_⟩
  · rw [hU]; exact ((vk_S.moved hW.alike h1).kept hS.2.1).narrow hAB
  · rw [hU]; exact ((va_Z.moved hW.alike h3).kept hS.2.1).narrow hAB
  · rw [hU]; exact ((va_Zq.moved hW.alike h4).kept hS.2.1).narrow hAB
theorem rx_Zt.blind {b : Nat → Nat} {A : Nat → Prop} {U : State} {g : JFrame} {mk : MethodId} {a : Array Value} (h : rx_Zt b A U) : rx_Zt b A (U.calling g mk a) :=
  ⟨vk_S.moved (u := U) (U := U.calling g mk a) (Vm.Alike.refl U.vm) h.1, fun i hi => vk_R.same (u := U) (U := U.calling g mk a) rfl (h.2.1 i hi), va_Z.moved (u := U) (U := U.calling g mk a) (Vm.Alike.refl U.vm) h.2.2.1, va_Zq.moved (u := U) (U := U.calling g mk a) (Vm.Alike.refl U.vm) h.2.2.2⟩
/-- the script, if there is one; the words -/
noncomputable def rx_Sc (N : rx_N) (b : Nat → Nat) (A : Nat → Prop) (H0 : Heap) (en0 : List Int32) (s : State) : Prop := (∀ L : Nat, rx_sl N = L + 1 → ∃ xs : Nat → Int32, va_X (b 0) L xs s H0 ∧ b 0 < H0.size ∧ ¬ A (b 0) ∧ L < 100000 ∧ ∀ j : Nat, j < L → Int32.ofNat (rx_sx N j) = xs j) ∧ H0 = s.heap ∧ rx_Zt b A s
section RXS5
variable {p : Program} {l : Launch} {e : Env} {R : Room} {s : State} {m : MethodId} {args : Array Value} {below : List Frame} {meth : Method} {c : Code} {Q : State → Prop} {cc : ByteArray}
variable {cy : Nat → ClassId} {D : va_G} {b : Nat → Nat} {A : Nat → Prop} {H0 : Heap} {ad0 : List Nat} {en0 : List Int32} {nL : Nat}
variable {K : rx_K} {N : rx_N} {pc na nb cn sn : Nat} {lv : rx_L} {st : List Nat} {hp : rx_H} {iv : rx_I} {out : List rx_S} {own : String}
theorem rx_s_alen (hx : p.tables.exec = Jvm.exec) (hb : c.code = cc) (hd : decode cc pc = .ok (.arraylength, 1)) (hSc : rx_Sc N b A H0 en0 s) (hK : va_K D vwCl (rx_tys cy) s)
    (h : rx_h_alen K N pc na nb lv st hp iv cn sn = some out) (hG : ∀ σ ∈ out, rx_G p l e R s m args below meth c Q cy D b A H0 ad0 en0 nL σ) : rx_G p l e R s m args below meth c Q cy D b A H0 ad0 en0 nL (pc, lv, st, hp, iv, cn, sn) := by
  intro ad en ls stA H locs ws hR
  obtain ⟨h1, h2, h3, h4, h5, h6, h7, h8, h9⟩ := hR
  cases st with
  | nil => cases h
  | cons v st' =>
    replace h : (bif Nat.beq v 6 then (bif Nat.blt 0 (rx_sl N) then some [(Nat.add pc 1, lv, rx_int (Nat.pred (rx_sl N)) :: st', hp, iv, cn, sn)] else none)
      else bif Nat.beq (rx_tk v) 2 && Nat.ble 2 (rx_pl v) then (match rx_hg hp (Nat.sub (rx_pl v) 2) with
        | some (t, n, _) => bif Nat.beq t 13 && Nat.blt n 100000 then some [(Nat.add pc 1, lv, rx_int n :: st', hp, iv, cn, sn)] else none
        | none => none) else none) = some out := h
    obtain ⟨x, r, rfl, hxv, h8n⟩ := rx_st_cons h8
    cases hv : Nat.beq v 6 with
    | true =>
      rw [hv, cond_true] at h
      obtain ⟨hl, h⟩ := rx_cond h
      cases h
      have hv : v = 6 := rx_beq.mp hv
      have hl : 0 < rx_sl N := rx_blt.mp hl
      obtain ⟨xs, q1, q2, q3, q4, q5⟩ := hSc.1 (rx_sl N - 1) (by omega)
      subst hv
      have hx6 : x = .ref (b 0) := (Option.some.inj hxv).symm
      subst hx6
      exact va_slen hx hb q1 q2 q3 h6 hd (hG _ List.mem_cons_self ad en ls _ H locs ws ⟨h1, h2, h3, h4, h5, h6, h7, rx_st_push (rx_int_cv b ad en _) h8n, h9⟩)
    | false =>
      rw [hv, cond_false] at h
      obtain ⟨ht, h⟩ := rx_cond h
      cases hg : rx_hg hp (Nat.sub (rx_pl v) 2) with
      | none => rw [hg] at h; cases h
      | some cl =>
        obtain ⟨t, n, f⟩ := cl
        rw [hg] at h
        dsimp only at h
        obtain ⟨hc, h⟩ := rx_cond h
        cases h
        obtain ⟨c1, c2⟩ := rx_and2.mp hc
        have c1 : t = 13 := rx_beq.mp c1
        subst c1
        obtain ⟨a, ee, rfl, ha, hw, hcl⟩ := rx_ref_at h3 ht hxv hg
        obtain ⟨gg, rfl, hgg⟩ := hcl.nums (Or.inr (Or.inl rfl))
        exact va_alen hx hb hK h4 _ 1 hw rfl rfl hd (hG _ List.mem_cons_self ad en ls _ H locs ws ⟨h1, h2, h3, h4, h5, h6, h7, rx_st_push (rx_int_cv b ad en _) h8n, h9⟩)
/-- an array is read: the row for each kind -/
theorem rx_s_ald {ok : Nat → Bool} (hx : p.tables.exec = Jvm.exec) (hb : c.code = cc) (hSc : rx_Sc N b A H0 en0 s)
    (hs : ok 13 = true → decode cc pc = .ok (.iaload, 1))
    (row : ∀ {ad : List Nat} {en : List Int32} {t n i a q : Nat} {f : List Nat} {ee : va_E} {ws : va_W} {H : Heap} {locs : List Loc} {ls : Array Slot} {r : List Value} {v : Nat}, ok t = true → rx_RC cy b ad en (t, n, f) ee → ws[q]? = some (a, ee) → va_P D vwCl ws H → i < n → n < 2 ^ 31 → f[i]? = some v → ∃ x : Value, rx_cv b ad en v = some x ∧ (W p l e R s m args below meth c H locs cn sn Q (F0 m (pc + 1) ls (x :: r)) → W p l e R s m args below meth c H locs cn sn Q (F0 m pc ls (.int (nI i) :: .ref a :: r))))
    (h : rx_h_ald ok K N pc na nb lv st hp iv cn sn = some out) (hG : ∀ σ ∈ out, rx_G p l e R s m args below meth c Q cy D b A H0 ad0 en0 nL σ) : rx_G p l e R s m args below meth c Q cy D b A H0 ad0 en0 nL (pc, lv, st, hp, iv, cn, sn) := by
  match st, h with
  | [], h => cases h
  | [_], h => cases h
  | ix :: v :: st', h =>
    unfold rx_h_ald at h
    replace h : (bif Nat.beq v 6 then (bif Nat.beq (rx_tk (rx_kn iv ix)) 0 && (ok 13 && Nat.blt (Nat.succ (rx_pl (rx_kn iv ix))) (rx_sl N)) then some [(Nat.add pc 1, lv, rx_int (rx_sx N (rx_pl (rx_kn iv ix))) :: st', hp, iv, cn, sn)] else none)
      else bif Nat.beq (rx_tk v) 2 && Nat.ble 2 (rx_pl v) then (match rx_hg hp (Nat.sub (rx_pl v) 2) with
      | some (t, n, l) => bif Nat.beq (rx_tk (rx_kn iv ix)) 0 then (bif ok t && (Nat.blt (rx_pl (rx_kn iv ix)) n && Nat.blt n 100000) then (match rx_nth l (rx_pl (rx_kn iv ix)) with
            | some x => some [(Nat.add pc 1, lv, x :: st', hp, iv, cn, sn)]
            | none => none) else none)
          else rx_half pc lv (ix :: v :: st') hp iv cn sn (rx_kn iv ix)
      | none => none) else none) = some out := h
    cases hv6 : Nat.beq v 6 with
    | true =>
      rw [hv6, cond_true] at h
      obtain ⟨hc, h⟩ := rx_cond h
      cases h
      obtain ⟨c1, hc⟩ := rx_and2.mp hc
      obtain ⟨c2, c3⟩ := rx_and2.mp hc
      have c3 : rx_pl (rx_kn iv ix) + 1 < rx_sl N := rx_blt.mp c3
      have hv6 : v = 6 := rx_beq.mp hv6
      intro ad en ls stA H locs ws hR
      obtain ⟨h1, h2, h3, h4, h5, h6, h7, h8, h9⟩ := hR
      obtain ⟨xs, q1, q2, q3, q4, q5⟩ := hSc.1 (rx_sl N - 1) (by omega)
      obtain ⟨ii, r1, rfl, hii, h8a⟩ := rx_st_cons h8
      obtain ⟨vv, r, rfl, hvv, h8b⟩ := rx_st_cons h8a
      have ei := (rx_cv0 (b := b) (ad := ad) (en := en) (rx_beq.mp c1)).symm.trans (rx_kn_cv h9 hii)
      have ei := Option.some.inj ei
      subst ei
      rw [hv6] at hvv
      have ev : vv = .ref (b 0) := (Option.some.inj hvv).symm
      subst ev
      have hin : vp_in (nI (rx_pl (rx_kn iv ix))) (rx_sl N - 1) := vp_in_nI (by omega) (by omega)
      have hval := q5 (rx_pl (rx_kn iv ix)) (by omega)
      have hcl : (nI (rx_pl (rx_kn iv ix))).toNatClampNeg = rx_pl (rx_kn iv ix) := nI_clamp (by omega)
      refine va_sld hx hb q1 q2 q3 h6 hin (hs c2) ?_
      rw [show (Int32.ofNat (rx_kn iv ix / 4)).toNatClampNeg = rx_pl (rx_kn iv ix) from hcl]
      exact hG _ List.mem_cons_self ad en ls _ H locs ws ⟨h1, h2, h3, h4, h5, h6, h7, rx_st_push (by rw [rx_int_cv, hval]) h8b, h9⟩
    | false =>
      rw [hv6, cond_false] at h
      obtain ⟨ht, h⟩ := rx_cond h
      cases hg : rx_hg hp (Nat.sub (rx_pl v) 2) with
      | none => rw [hg] at h; cases h
      | some cl =>
        obtain ⟨t, n, f⟩ := cl
        rw [hg] at h
        replace h : (bif Nat.beq (rx_tk (rx_kn iv ix)) 0 then (bif ok t && (Nat.blt (rx_pl (rx_kn iv ix)) n && Nat.blt n 100000) then (match rx_nth f (rx_pl (rx_kn iv ix)) with
            | some x => some [(Nat.add pc 1, lv, x :: st', hp, iv, cn, sn)]
            | none => none) else none)
          else rx_half pc lv (ix :: v :: st') hp iv cn sn (rx_kn iv ix)) = some out := h
        cases hi0 : Nat.beq (rx_tk (rx_kn iv ix)) 0 with
        | false => rw [hi0, cond_false] at h; exact rx_s_half h hG
        | true =>
          rw [hi0, cond_true] at h
          obtain ⟨hc, h⟩ := rx_cond h
          obtain ⟨c1, hc⟩ := rx_and2.mp hc
          obtain ⟨c2, c3⟩ := rx_and2.mp hc
          have c2 : rx_pl (rx_kn iv ix) < n := rx_blt.mp c2
          have c3 : n < 100000 := rx_blt.mp c3
          rw [rx_nth_eq] at h
          cases hf : f[rx_pl (rx_kn iv ix)]? with
          | none => rw [hf] at h; cases h
          | some w =>
            rw [hf] at h
            cases h
            intro ad en ls stA H locs ws hR
            obtain ⟨h1, h2, h3, h4, h5, h6, h7, h8, h9⟩ := hR
            obtain ⟨ii, r1, rfl, hii, h8a⟩ := rx_st_cons h8
            obtain ⟨vv, r, rfl, hvv, h8b⟩ := rx_st_cons h8a
            have ei := (rx_cv0 (b := b) (ad := ad) (en := en) (rx_beq.mp hi0)).symm.trans (rx_kn_cv h9 hii)
            have ei := Option.some.inj ei
            subst ei
            obtain ⟨a, ee, rfl, ha, hw, hcl⟩ := rx_ref_at h3 ht hvv hg
            obtain ⟨x, hx1, hrow⟩ := row (locs := locs) (ls := ls) (r := r) c1 hcl hw h4 c2 (Nat.lt_trans c3 (by decide)) hf
            exact hrow (hG _ List.mem_cons_self ad en ls (x :: r) H locs ws ⟨h1, h2, h3, h4, h5, h6, h7, rx_st_push hx1 h8b, h9⟩)
theorem rx_s_iald (hx : p.tables.exec = Jvm.exec) (hb : c.code = cc) (hSc : rx_Sc N b A H0 en0 s) (hK : va_K D vwCl (rx_tys cy) s) (hd : decode cc pc = .ok (.iaload, 1))
    (h : rx_h_ald (fun t => Nat.beq t 13) K N pc na nb lv st hp iv cn sn = some out) (hG : ∀ σ ∈ out, rx_G p l e R s m args below meth c Q cy D b A H0 ad0 en0 nL σ) : rx_G p l e R s m args below meth c Q cy D b A H0 ad0 en0 nL (pc, lv, st, hp, iv, cn, sn) := by
  refine rx_s_ald hx hb hSc (fun _ => hd) ?_ h hG
  intro ad en t n i a q f ee ws H locs ls r v ht hc hw hP hi hn hf
  have ht : t = 13 := rx_beq.mp ht
  subst ht
  obtain ⟨g, rfl, hg⟩ := hc.nums (Or.inr (Or.inl rfl))
  refine ⟨_, hg i v hf, fun k => ?_⟩
  refine va_iald hx hb hK hP q 1 hw rfl (vp_in_nI hi hn) hd ?_
  rw [nI_clamp (Nat.lt_trans hi hn)]
  exact k
theorem rx_s_bald (hx : p.tables.exec = Jvm.exec) (hb : c.code = cc) (hSc : rx_Sc N b A H0 en0 s) (hK : va_K D vwCl (rx_tys cy) s) (hd : decode cc pc = .ok (.baload, 1))
    (h : rx_h_ald (fun t => Nat.beq t 12 || Nat.beq t 15) K N pc na nb lv st hp iv cn sn = some out) (hG : ∀ σ ∈ out, rx_G p l e R s m args below meth c Q cy D b A H0 ad0 en0 nL σ) : rx_G p l e R s m args below meth c Q cy D b A H0 ad0 en0 nL (pc, lv, st, hp, iv, cn, sn) := by
  refine rx_s_ald hx hb hSc (fun z => by cases z) ?_ h hG
  intro ad en t n i a q f ee ws H locs ls r v ht hc hw hP hi hn hf
  rcases rx_or2.mp ht with ht | ht
  · have ht : t = 12 := rx_beq.mp ht
    subst ht
    obtain ⟨g, rfl, hg⟩ := hc.nums (Or.inl rfl)
    refine ⟨_, hg i v hf, fun k => ?_⟩
    refine va_bald hx hb hK hP q 0 hw rfl (vp_in_nI hi hn) hd ?_
    rw [nI_clamp (Nat.lt_trans hi hn)]
    exact k
  · have ht : t = 15 := rx_beq.mp ht
    subst ht
    obtain ⟨g, rfl, hg⟩ := hc.nums (Or.inr (Or.inr rfl))
    refine ⟨_, hg i v hf, fun k => ?_⟩
    refine va_zald hx hb hK hP q 3 hw rfl (vp_in_nI hi hn) hd ?_
    rw [nI_clamp (Nat.lt_trans hi hn)]
    exact k
theorem rx_s_aald (hx : p.tables.exec = Jvm.exec) (hb : c.code = cc) (hSc : rx_Sc N b A H0 en0 s) (hK : va_K D vwCl (rx_tys cy) s) (hd : decode cc pc = .ok (.aaload, 1))
    (h : rx_h_ald (fun t => Nat.beq t 16) K N pc na nb lv st hp iv cn sn = some out) (hG : ∀ σ ∈ out, rx_G p l e R s m args below meth c Q cy D b A H0 ad0 en0 nL σ) : rx_G p l e R s m args below meth c Q cy D b A H0 ad0 en0 nL (pc, lv, st, hp, iv, cn, sn) := by
  refine rx_s_ald hx hb hSc (fun z => by cases z) ?_ h hG
  intro ad en t n i a q f ee ws H locs ls r v ht hc hw hP hi hn hf
  have ht : t = 16 := rx_beq.mp ht
  subst ht
  obtain ⟨g, rfl, hg⟩ := hc.refs rfl
  refine ⟨_, hg i v hf, fun k => ?_⟩
  refine va_aldq hx hb hK hP q 4 hw rfl (vp_in_nI hi hn) hd ?_
  rw [nI_clamp (Nat.lt_trans hi hn)]
  exact k
/-- an array is written: the row for each kind -/
theorem rx_s_ast {ok : Nat → Nat → Bool}
    (row : ∀ {ad : List Nat} {en : List Int32} {t n i a q u : Nat} {f : List Nat} {ee : va_E} {ws : va_W} {H : Heap} {locs : List Loc} {ls : Array Slot} {r : List Value} {x : Value}, ok t u = true → rx_RI iv en → rx_RW cy b ad en hp ws → rx_RC cy b ad en (t, n, f) ee → ws[q]? = some (a, ee) → va_P D vwCl ws H → va_D A ws → va_S A H0 H locs → i < n → n < 2 ^ 31 → rx_cv b ad en u = some x →
      ∃ ee' : va_E, rx_RC cy b ad en (t, n, f.set i u) ee' ∧ ((∀ (H1 : Heap) (locs1 : List Loc), va_P D vwCl (ws.set q (a, ee')) H1 → va_D A (ws.set q (a, ee')) → va_S A H0 H1 locs1 → W p l e R s m args below meth c H1 locs1 cn sn Q (F0 m (pc + 1) ls r)) → W p l e R s m args below meth c H locs cn sn Q (F0 m pc ls (x :: .int (nI i) :: .ref a :: r))))
    (h : rx_ast ok pc lv st hp iv cn sn = some out) (hG : ∀ σ ∈ out, rx_G p l e R s m args below meth c Q cy D b A H0 ad0 en0 nL σ) : rx_G p l e R s m args below meth c Q cy D b A H0 ad0 en0 nL (pc, lv, st, hp, iv, cn, sn) := by
  match st, h with
  | [], h => cases h
  | [_], h => cases h
  | [_, _], h => cases h
  | u :: ix :: v :: st', h =>
    unfold rx_ast at h
    obtain ⟨ht, h⟩ := rx_cond h
    cases hg : rx_hg hp (Nat.sub (rx_pl v) 2) with
    | none => rw [hg] at h; cases h
    | some cl =>
      obtain ⟨t, n, f⟩ := cl
      rw [hg] at h
      replace h : (bif Nat.beq (rx_tk (rx_kn iv ix)) 0 then (bif ok t u && (Nat.blt (rx_pl (rx_kn iv ix)) n && Nat.blt n 100000) then some [(Nat.add pc 1, lv, st', rx_hs hp (Nat.sub (rx_pl v) 2) (t, n, rx_upd f (rx_pl (rx_kn iv ix)) u), iv, cn, sn)] else none)
        else rx_half pc lv (u :: ix :: v :: st') hp iv cn sn (rx_kn iv ix)) = some out := h
      cases hi0 : Nat.beq (rx_tk (rx_kn iv ix)) 0 with
      | false => rw [hi0, cond_false] at h; exact rx_s_half h hG
      | true =>
        rw [hi0, cond_true] at h
        obtain ⟨hc, h⟩ := rx_cond h
        cases h
        obtain ⟨c1, hc⟩ := rx_and2.mp hc
        obtain ⟨c2, c3⟩ := rx_and2.mp hc
        have c2 : rx_pl (rx_kn iv ix) < n := rx_blt.mp c2
        have c3 : n < 100000 := rx_blt.mp c3
        intro ad en ls stA H locs ws hR
        obtain ⟨h1, h2, h3, h4, h5, h6, h7, h8, h9⟩ := hR
        obtain ⟨x, r1, rfl, hxu, h8a⟩ := rx_st_cons h8
        obtain ⟨ii, r2, rfl, hii, h8b⟩ := rx_st_cons h8a
        obtain ⟨vv, r, rfl, hvv, h8c⟩ := rx_st_cons h8b
        have ei := (rx_cv0 (b := b) (ad := ad) (en := en) (rx_beq.mp hi0)).symm.trans (rx_kn_cv h9 hii)
        have ei := Option.some.inj ei
        subst ei
        obtain ⟨a, ee, rfl, ha, hw, hcl⟩ := rx_ref_at h3 ht hvv hg
        obtain ⟨ee', hc', hrow⟩ := row (ls := ls) (r := r) c1 h9 h3 hcl hw h4 h5 h6 c2 (Nat.lt_trans c3 (by decide)) hxu
        have hRW := h3.set (rx_hg_lt hg) ha hc'
        rw [← rx_upd_eq] at hRW
        exact hrow (fun H1 locs1 p1 p2 p3 => hG _ List.mem_cons_self ad en ls r H1 locs1 _ ⟨h1, h2, hRW, p1, p2, p3, h7, h8c, h9⟩)
theorem rx_nums_set {ad : List Nat} {en : List Int32} {t n i u : Nat} {f : List Nat} {g : Nat → Int32} {x : Int32} (h0 : f.length = n) (ht : t = 12 ∨ t = 13 ∨ t = 15) (hg : ∀ j v, f[j]? = some v → rx_cv b ad en v = some (.int (g j))) (hu : rx_cv b ad en u = some (.int x)) : rx_RC cy b ad en (t, n, f.set i u) (.inl (cy t, n, .inl (upd g i x))) := by
  refine ⟨by show (f.set i u).length = n; rw [List.length_set]; exact h0, Or.inr (Or.inl ⟨ht, _, rfl, fun j v hj => ?_⟩)⟩
  replace hj : (f.set i u)[j]? = some v := hj
  by_cases e : j = i
  · subst e
    have hlt := (List.getElem?_eq_some_iff.mp hj).1
    rw [List.length_set] at hlt
    rw [List.getElem?_set_self hlt] at hj
    cases hj
    rw [pk_us]
    exact hu
  · rw [List.getElem?_set_ne (Ne.symm e)] at hj
    rw [pk_un e]
    exact hg j v hj
theorem rx_s_iast (hx : p.tables.exec = Jvm.exec) (hb : c.code = cc) (hK : va_K D vwCl (rx_tys cy) s) (hd : decode cc pc = .ok (.iastore, 1))
    (h : rx_h_iast K N pc na nb lv st hp iv cn sn = some out) (hG : ∀ σ ∈ out, rx_G p l e R s m args below meth c Q cy D b A H0 ad0 en0 nL σ) : rx_G p l e R s m args below meth c Q cy D b A H0 ad0 en0 nL (pc, lv, st, hp, iv, cn, sn) := by
  refine rx_s_ast ?_ h hG
  intro ad en t n i a q u f ee ws H locs ls r x hok h9 h3 hc hw hP hD hS hi hn hxu
  obtain ⟨ht, hI⟩ := rx_and2.mp hok
  have ht : t = 13 := rx_beq.mp ht
  subst ht
  obtain ⟨g, rfl, hg⟩ := hc.nums (Or.inr (Or.inl rfl))
  obtain ⟨y, rfl⟩ := rx_isI_cv hI hxu
  refine ⟨_, rx_nums_set hc.1 (Or.inr (Or.inl rfl)) hg hxu, fun k => ?_⟩
  refine va_iast hx hb hK hP hD hS q 1 hw rfl (vp_in_nI hi hn) hd ?_
  rw [nI_clamp (Nat.lt_trans hi hn)]
  exact k
theorem rx_s_bast (hx : p.tables.exec = Jvm.exec) (hb : c.code = cc) (hK : va_K D vwCl (rx_tys cy) s) (hd : decode cc pc = .ok (.bastore, 1))
    (h : rx_h_bast K N pc na nb lv st hp iv cn sn = some out) (hG : ∀ σ ∈ out, rx_G p l e R s m args below meth c Q cy D b A H0 ad0 en0 nL σ) : rx_G p l e R s m args below meth c Q cy D b A H0 ad0 en0 nL (pc, lv, st, hp, iv, cn, sn) := by
  refine rx_s_ast ?_ h hG
  intro ad en t n i a q u f ee ws H locs ls r x hok h9 h3 hc hw hP hD hS hi hn hxu
  rcases rx_or2.mp hok with hok | hok
  · obtain ⟨ht, hI⟩ := rx_and2.mp hok
    have ht : t = 12 := rx_beq.mp ht
    subst ht
    obtain ⟨g, rfl, hg⟩ := hc.nums (Or.inl rfl)
    unfold rx_within at hI
    cases hio : rx_io iv u with
    | none => rw [hio] at hI; cases hI
    | some w =>
      obtain ⟨w1, w2⟩ := w
      rw [hio] at hI
      obtain ⟨i1, i2⟩ := rx_and2.mp hI
      obtain ⟨y, hy, e1, e2⟩ := rx_io_cv (b := b) (ad := ad) h9 hio
      cases hy.symm.trans hxu
      have hnar : vp_nar .byte y = y := rx_i8_id (Nat.le_trans (rx_ble.mp i1) e1) (Nat.le_trans e2 (rx_ble.mp i2))
      refine ⟨_, rx_nums_set hc.1 (Or.inl rfl) hg hxu, fun k => ?_⟩
      refine va_bast hx hb hK hP hD hS q 0 hw rfl (vp_in_nI hi hn) hd ?_
      rw [nI_clamp (Nat.lt_trans hi hn), hnar]
      exact k
  · obtain ⟨ht, hI⟩ := rx_and2.mp hok
    have ht : t = 15 := rx_beq.mp ht
    subst ht
    obtain ⟨g, rfl, hg⟩ := hc.nums (Or.inr (Or.inr rfl))
    have key : ∃ y : Int32, x = .int y ∧ vp_nar .boolean y = y := by
      rcases rx_bit_cv hI hxu with rfl | rfl
      · exact ⟨0, rfl, by decide +kernel⟩
      · exact ⟨1, rfl, by decide +kernel⟩
    obtain ⟨y, rfl, hnar⟩ := key
    refine ⟨_, rx_nums_set hc.1 (Or.inr (Or.inr rfl)) hg hxu, fun k => ?_⟩
    refine va_zast hx hb hK hP hD hS q 3 hw rfl (vp_in_nI hi hn) hd ?_
    rw [nI_clamp (Nat.lt_trans hi hn), hnar]
    exact k
theorem rx_s_aast (hx : p.tables.exec = Jvm.exec) (hb : c.code = cc) (hK : va_K D vwCl (rx_tys cy) s) (hd : decode cc pc = .ok (.aastore, 1))
    (h : rx_h_aast K N pc na nb lv st hp iv cn sn = some out) (hG : ∀ σ ∈ out, rx_G p l e R s m args below meth c Q cy D b A H0 ad0 en0 nL σ) : rx_G p l e R s m args below meth c Q cy D b A H0 ad0 en0 nL (pc, lv, st, hp, iv, cn, sn) := by
  refine rx_s_ast ?_ h hG
  intro ad en t n i a q u f ee ws H locs ls r x hok h9 h3 hc hw hP hD hS hi hn hxu
  obtain ⟨ht, hI⟩ := rx_and2.mp hok
  have ht : t = 16 := rx_beq.mp ht
  subst ht
  obtain ⟨g, rfl, hg⟩ := hc.refs rfl
  unfold rx_obj at hI
  obtain ⟨j1, hI⟩ := rx_and2.mp hI
  obtain ⟨j2, hI⟩ := rx_and2.mp hI
  cases hgo : rx_hg hp (Nat.sub (rx_pl u) 2) with
  | none => rw [hgo] at hI; cases hI
  | some cl =>
    obtain ⟨t2, n2, f2⟩ := cl
    rw [hgo] at hI
    have ht2 : t2 = 7 := rx_beq.mp hI
    subst ht2
    obtain ⟨a2, e2, rfl, ha2, hw2, hc2⟩ := rx_ref_at h3 (rx_and2.mpr ⟨j1, j2⟩) hxu hgo
    obtain ⟨fs, rfl, hfs⟩ := hc2.obj (show 7 < 12 by decide)
    refine ⟨.inl (cy 16, n, .inr (.inr (.inr (.inr (va_up g i (some a2)))))), ?_, fun k => ?_⟩
    · refine ⟨by show (f.set i u).length = n; rw [List.length_set]; exact hc.1, Or.inr (Or.inr (Or.inr ⟨rfl, _, rfl, fun j v hj => ?_⟩))⟩
      replace hj : (f.set i u)[j]? = some v := hj
      by_cases ee : j = i
      · subst ee
        have hlt := (List.getElem?_eq_some_iff.mp hj).1
        rw [List.length_set] at hlt
        rw [List.getElem?_set_self hlt] at hj
        cases hj
        rw [va_up_self]
        exact hxu
      · rw [List.getElem?_set_ne (Ne.symm ee)] at hj
        rw [va_up_ne _ _ ee]
        exact hg j v hj
    · refine va_astq hx hb hK hP hD hS q 4 _ 7 (r := (RX7, TX7, 9)) hw rfl hw2 rfl (vp_in_nI hi hn) hd ?_
      rw [nI_clamp (Nat.lt_trans hi hn)]
      exact k
theorem rx_s_lald (hx : p.tables.exec = Jvm.exec) (hb : c.code = cc) (hSc : rx_Sc N b A H0 en0 s) (hK : va_K D vwCl (rx_tys cy) s) (hd : decode cc pc = .ok (.laload, 1))
    (h : rx_h_ald (fun t => Nat.beq t 14) K N pc na nb lv st hp iv cn sn = some out) (hG : ∀ σ ∈ out, rx_G p l e R s m args below meth c Q cy D b A H0 ad0 en0 nL σ) : rx_G p l e R s m args below meth c Q cy D b A H0 ad0 en0 nL (pc, lv, st, hp, iv, cn, sn) := by
  refine rx_s_ald hx hb hSc (fun z => by cases z) ?_ h hG
  intro ad en t n i a q f ee ws H locs ls r v ht hc hw hP hi hn hf
  have ht : t = 14 := rx_beq.mp ht
  subst ht
  obtain ⟨g, rfl, hg⟩ := hc.lngs rfl
  refine ⟨_, hg i v hf, fun k => ?_⟩
  refine va_lald hx hb hK hP q 2 hw rfl (vp_in_nI hi hn) hd ?_
  rw [nI_clamp (Nat.lt_trans hi hn)]
  exact k
theorem rx_s_last (hx : p.tables.exec = Jvm.exec) (hb : c.code = cc) (hK : va_K D vwCl (rx_tys cy) s) (hd : decode cc pc = .ok (.lastore, 1))
    (h : rx_h_last K N pc na nb lv st hp iv cn sn = some out) (hG : ∀ σ ∈ out, rx_G p l e R s m args below meth c Q cy D b A H0 ad0 en0 nL σ) : rx_G p l e R s m args below meth c Q cy D b A H0 ad0 en0 nL (pc, lv, st, hp, iv, cn, sn) := by
  refine rx_s_ast ?_ h hG
  intro ad en t n i a q u f ee ws H locs ls r x hok h9 h3 hc hw hP hD hS hi hn hxu
  obtain ⟨ht, hI⟩ := rx_and2.mp hok
  have ht : t = 14 := rx_beq.mp ht
  subst ht
  obtain ⟨g, rfl, hg⟩ := hc.lngs rfl
  have hy := rx_isJ_cv hI hxu
  subst hy
  refine ⟨.inl (cy 14, n, .inr (.inl (vp_updL g i (Int64.ofNat (u / 4))))), ⟨by show (f.set i u).length = n; rw [List.length_set]; exact hc.1, Or.inr (Or.inr (Or.inl ⟨rfl, _, rfl, fun j v hj => ?_⟩))⟩, fun k => ?_⟩
  · replace hj : (f.set i u)[j]? = some v := hj
    by_cases e : j = i
    · subst e
      have hlt := (List.getElem?_eq_some_iff.mp hj).1
      rw [List.length_set] at hlt
      rw [List.getElem?_set_self hlt] at hj
      cases hj
      rw [pk_uLs]
      exact hxu
    · rw [List.getElem?_set_ne (Ne.symm e)] at hj
      rw [pk_uLn e]
      exact hg j v hj
  · refine va_last hx hb hK hP hD hS q 2 hw rfl (vp_in_nI hi hn) hd ?_
    rw [nI_clamp (Nat.lt_trans hi hn)]
    exact k
end RXS5
end
section
/-- what the tables say of a class of which an object is made -/
noncomputable def rx_SN (K : rx_K) (own : String) (idx na : Nat) : Prop := ∃ (C : String) (T : u_T) (Nf : Nat) (ty0 : Nat → FieldType) (fs : List Value) (l : List Nat), vwCl[na]? = some (C, T, Nf) ∧ na < 12 ∧ rx_nth K.1 na = some l ∧ l.length = Nf ∧ (∀ b ad en, l.map (rx_cv b ad en) = fs.map some) ∧ (∀ j, j < Nf → defaultValue (ty0 j) = vp_V fs j) ∧
  (∀ k, k < Nf → parseFieldDescriptor (T k).2.2.1 = some (ty0 k)) ∧ (∀ w ∈ u_ws C T Nf, w ∈ lw_G) ∧ Cond.classLink own idx C ∈ lw_G ∧ Cond.instantiable C Nf ∈ lw_G ∧ Cond.initialized C ∈ lw_G
section RXS6
variable {p : Program} {l : Launch} {e : Env} {R : Room} {s : State} {m : MethodId} {args : Array Value} {below : List Frame} {meth : Method} {c : Code} {Q : State → Prop} {cc : ByteArray}
variable {cy : Nat → ClassId} {D : va_G} {b : Nat → Nat} {A : Nat → Prop} {H0 : Heap} {ad0 : List Nat} {en0 : List Int32} {nL : Nat}
variable {K : rx_K} {N : rx_N} {pc na nb cn sn : Nat} {lv : rx_L} {st : List Nat} {hp : rx_H} {iv : rx_I} {out : List rx_S} {own : String}
/-- a cell is made: behind it -/
theorem rx_made {n : Nat} {st' : List Nat} {x : rx_C} (h : rx_new N n lv st' hp iv cn sn x = some out) (hG : ∀ σ ∈ out, rx_G p l e R s m args below meth c Q cy D b A H0 ad0 en0 nL σ) (hR : rx_rc N ≤ R.cells ∧ rx_rs N ≤ R.slots) : (cn + 1 ≤ R.cells ∧ sn + x.2.1 ≤ R.slots) ∧
    ∀ {ad : List Nat} {en : List Int32} {ls : Array Slot} {r : List Value} {H1 : Heap} {locs : List Loc} {ws : va_W} {q : Nat} {ee : va_E}, ad0 <+: ad → en0 <+: en → rx_RW cy b ad en hp ws → rx_RC cy b ad en x ee → va_P D vwCl (ws ++ [(q, ee)]) H1 → va_D A (ws ++ [(q, ee)]) → va_S A H0 H1 locs → rx_RL b ad en nL lv ls → st'.map (rx_cv b ad en) = r.map some → rx_RI iv en → W p l e R s m args below meth c H1 locs (cn + 1) (sn + x.2.1) Q (F0 m n ls (.ref q :: r)) := by
  obtain ⟨hc, h⟩ := rx_cond h
  cases h
  obtain ⟨c1, hc⟩ := rx_and2.mp hc
  obtain ⟨c2, c3⟩ := rx_and2.mp hc
  have c1 : hp.1 < 256 := rx_blt.mp c1
  refine ⟨⟨Nat.le_trans (rx_ble.mp c2) hR.1, Nat.le_trans (rx_ble.mp c3) hR.2⟩, ?_⟩
  intro ad en ls r H1 locs ws q ee h1 h2 h3 hcl p1 p2 p3 h7 h8 h9
  have hm : ad <+: ad ++ [q] := List.prefix_append _ _
  have hq : (ad ++ [q])[hp.1]? = some q := by rw [← h3.2.1]; simp
  exact hG _ List.mem_cons_self (ad ++ [q]) en ls (.ref q :: r) H1 locs (ws ++ [(q, ee)]) ⟨rx_pre1 h1 q, h2, h3.push c1 hcl, p1, p2, p3, h7.mono hm (List.prefix_refl _), rx_st_push (rx_ref_cv c1 hq) (rx_map_mono hm (List.prefix_refl _) h8), h9⟩
theorem rx_s_new {idx : Nat} (hx : p.tables.exec = Jvm.exec) (hb : c.code = cc) (hts : ∀ w ∈ lw_G, w.before args s = true) (hown : s.vm.findClass own = some m.cls) (hK : va_K D vwCl (rx_tys cy) s) (hA : ∀ q, H0.size ≤ q → A q) (hR : rx_rc N ≤ R.cells ∧ rx_rs N ≤ R.slots) (hd : decode cc pc = .ok (.new idx, 3)) (hF : rx_SN K own idx na)
    (h : rx_h_new K N pc na nb lv st hp iv cn sn = some out) (hG : ∀ σ ∈ out, rx_G p l e R s m args below meth c Q cy D b A H0 ad0 en0 nL σ) : rx_G p l e R s m args below meth c Q cy D b A H0 ad0 en0 nL (pc, lv, st, hp, iv, cn, sn) := by
  obtain ⟨C, T, Nf, ty0, fs, l0, q1, q2, q3, q4, q5, q6, q7, q8, q9, q10, q11⟩ := hF
  unfold rx_h_new at h
  rw [q3] at h
  obtain ⟨⟨r1, r2⟩, k⟩ := rx_made h hG hR
  intro ad en ls stA H locs ws hRl
  obtain ⟨h1, h2, h3, h4, h5, h6, h7, h8, h9⟩ := hRl
  have hl : rx_len l0 = Nf := by rw [rx_len_eq]; exact q4
  have hRC : rx_RC cy b ad en (na, rx_len l0, l0) (.inr (na, fs)) := ⟨by show l0.length = rx_len l0; rw [rx_len_eq], Or.inl ⟨q2, fs, rfl, q5 b ad en⟩⟩
  refine va_new hx hb hts q8 ty0 q7 hown (hts _ q9) (hts _ q10) (hts _ q11) hK h4 h5 h6 hA q1 q6 r1 (by rw [← hl]; exact r2) hd (fun q H1 p1 p2 p3 => ?_)
  have := k h1 h2 h3 hRC p1 p2 p3 h7 h8 h9
  rw [← hl]
  exact this
theorem rx_rep {ad : List Nat} {en : List Int32} {n v j w : Nat} (h : (List.replicate n v)[j]? = some w) : w = v := by
  rw [List.getElem?_replicate] at h
  by_cases hj : j < n
  · rw [if_pos hj] at h; exact (Option.some.inj h).symm
  · rw [if_neg hj] at h; cases h
theorem rx_cyE {k : Nat} {ty : FieldType} {cA : ClassId} (hK : va_K D vwCl (rx_tys cy) s) {i : Nat} (hi : (rx_tys cy)[i]? = some (cy k, ty)) (hno : ∀ C, ty ≠ .object C) (hK2 : va_K D vwCl (rx_tys cy ++ [(cA, ty)]) s) : cA = cy k := by
  have h1 := (hK.2 i _ hi).2
  have h2 := (hK2.2 5 (cA, ty) rfl).2
  cases ty with
  | object C => exact absurd rfl (hno C)
  | _ => exact Option.some.inj (h2.symm.trans h1)
theorem rx_s_newa {t : ArrayType} (hx : p.tables.exec = Jvm.exec) (hb : c.code = cc) (hts : ∀ w ∈ lw_G, w.before args s = true) (hK : va_K D vwCl (rx_tys cy) s) (hA : ∀ q, H0.size ≤ q → A q) (hR : rx_rc N ≤ R.cells ∧ rx_rs N ≤ R.slots) (hd : decode cc pc = .ok (.newarray t, 2)) (hF : Cond.arrayClass (newarray.typeOf t) ∈ lw_G)
    (h : rx_h_newa t K N pc na nb lv st hp iv cn sn = some out) (hG : ∀ σ ∈ out, rx_G p l e R s m args below meth c Q cy D b A H0 ad0 en0 nL σ) : rx_G p l e R s m args below meth c Q cy D b A H0 ad0 en0 nL (pc, lv, st, hp, iv, cn, sn) := by
  match st, h with
  | [], h => cases h
  | v :: st', h =>
    unfold rx_h_newa at h
    replace h : (match rx_nk t with
      | some (k, d) => bif Nat.beq (rx_tk v) 0 && Nat.ble (rx_pl v) 10000 then rx_new N (Nat.add pc 2) lv st' hp iv cn sn (k, rx_pl v, List.replicate (rx_pl v) d) else none
      | none => none) = some out := h
    have fin : ∀ {k d : Nat}, (bif Nat.beq (rx_tk v) 0 && Nat.ble (rx_pl v) 10000 then rx_new N (Nat.add pc 2) lv st' hp iv cn sn (k, rx_pl v, List.replicate (rx_pl v) d) else none) = some out → v % 4 = 0 ∧ v / 4 ≤ 10000 ∧ rx_new N (Nat.add pc 2) lv st' hp iv cn sn (k, rx_pl v, List.replicate (rx_pl v) d) = some out := by
      intro k d hh
      obtain ⟨hc, hh⟩ := rx_cond hh
      obtain ⟨c1, c2⟩ := rx_and2.mp hc
      exact ⟨rx_beq.mp c1, rx_ble.mp c2, hh⟩
    have hneg : ∀ n : Nat, n ≤ 10000 → ¬ nI n < 0 ∧ (nI n).toNatClampNeg = n := fun n hn => ⟨nI_pos (by omega), nI_clamp (by omega)⟩
    cases t with
    | int =>
      obtain ⟨c1, c2, h⟩ := fin h
      obtain ⟨⟨r1, r2⟩, k⟩ := rx_made h hG hR
      intro ad en ls stA H locs ws hRl
      obtain ⟨h1, h2, h3, h4, h5, h6, h7, h8, h9⟩ := hRl
      obtain ⟨x, r, rfl, hxv, h8n⟩ := rx_st_cons h8
      cases (rx_cv0 (b := b) (ad := ad) (en := en) c1).symm.trans hxv
      refine va_newa (atype := .int) (ty := .int) (a0 := (v / 4, .inl (fun _ => 0))) hx hb (hts _ hF) rfl hK h4 h5 h6 hA (fun _ => rfl) (hneg _ c2).1 (hneg _ c2).2 (by show v / 4 * 4 ≤ _; omega) r1 r2 hd (fun q cA H1 hK2 p1 p2 p3 => ?_)
      have hcA : cA = cy 13 := rx_cyE hK (i := 1) rfl (fun C z => by cases z) hK2
      subst hcA
      exact k h1 h2 h3 ⟨List.length_replicate, Or.inr (Or.inl ⟨Or.inr (Or.inl rfl), _, rfl, fun j w hj => by rw [rx_rep (ad := ad) (en := en) hj]; exact rx_int_cv b ad en 0⟩)⟩ p1 p2 p3 h7 h8n h9
    | byte =>
      obtain ⟨c1, c2, h⟩ := fin h
      obtain ⟨⟨r1, r2⟩, k⟩ := rx_made h hG hR
      intro ad en ls stA H locs ws hRl
      obtain ⟨h1, h2, h3, h4, h5, h6, h7, h8, h9⟩ := hRl
      obtain ⟨x, r, rfl, hxv, h8n⟩ := rx_st_cons h8
      cases (rx_cv0 (b := b) (ad := ad) (en := en) c1).symm.trans hxv
      refine va_newa (atype := .byte) (ty := .byte) (a0 := (v / 4, .inl (fun _ => 0))) hx hb (hts _ hF) rfl hK h4 h5 h6 hA (fun _ => rfl) (hneg _ c2).1 (hneg _ c2).2 (by show v / 4 * 1 ≤ _; omega) r1 r2 hd (fun q cA H1 hK2 p1 p2 p3 => ?_)
      have hcA : cA = cy 12 := rx_cyE hK (i := 0) rfl (fun C z => by cases z) hK2
      subst hcA
      exact k h1 h2 h3 ⟨List.length_replicate, Or.inr (Or.inl ⟨Or.inl rfl, _, rfl, fun j w hj => by rw [rx_rep (ad := ad) (en := en) hj]; exact rx_int_cv b ad en 0⟩)⟩ p1 p2 p3 h7 h8n h9
    | boolean =>
      obtain ⟨c1, c2, h⟩ := fin h
      obtain ⟨⟨r1, r2⟩, k⟩ := rx_made h hG hR
      intro ad en ls stA H locs ws hRl
      obtain ⟨h1, h2, h3, h4, h5, h6, h7, h8, h9⟩ := hRl
      obtain ⟨x, r, rfl, hxv, h8n⟩ := rx_st_cons h8
      cases (rx_cv0 (b := b) (ad := ad) (en := en) c1).symm.trans hxv
      refine va_newa (atype := .boolean) (ty := .boolean) (a0 := (v / 4, .inl (fun _ => 0))) hx hb (hts _ hF) rfl hK h4 h5 h6 hA (fun _ => rfl) (hneg _ c2).1 (hneg _ c2).2 (by show v / 4 * 1 ≤ _; omega) r1 r2 hd (fun q cA H1 hK2 p1 p2 p3 => ?_)
      have hcA : cA = cy 15 := rx_cyE hK (i := 3) rfl (fun C z => by cases z) hK2
      subst hcA
      exact k h1 h2 h3 ⟨List.length_replicate, Or.inr (Or.inl ⟨Or.inr (Or.inr rfl), _, rfl, fun j w hj => by rw [rx_rep (ad := ad) (en := en) hj]; exact rx_int_cv b ad en 0⟩)⟩ p1 p2 p3 h7 h8n h9
    | long =>
      obtain ⟨c1, c2, h⟩ := fin h
      obtain ⟨⟨r1, r2⟩, k⟩ := rx_made h hG hR
      intro ad en ls stA H locs ws hRl
      obtain ⟨h1, h2, h3, h4, h5, h6, h7, h8, h9⟩ := hRl
      obtain ⟨x, r, rfl, hxv, h8n⟩ := rx_st_cons h8
      cases (rx_cv0 (b := b) (ad := ad) (en := en) c1).symm.trans hxv
      refine va_newa (atype := .long) (ty := .long) (a0 := (v / 4, .inr (.inl (fun _ => 0)))) hx hb (hts _ hF) rfl hK h4 h5 h6 hA (fun _ => rfl) (hneg _ c2).1 (hneg _ c2).2 (by show v / 4 * 8 ≤ _; omega) r1 r2 hd (fun q cA H1 hK2 p1 p2 p3 => ?_)
      have hcA : cA = cy 14 := rx_cyE hK (i := 2) rfl (fun C z => by cases z) hK2
      subst hcA
      exact k h1 h2 h3 ⟨List.length_replicate, Or.inr (Or.inr (Or.inl ⟨rfl, _, rfl, fun j w hj => by rw [rx_rep (ad := ad) (en := en) hj]; exact rx_lng_cv b ad en 0⟩))⟩ p1 p2 p3 h7 h8n h9
    | _ => cases h
theorem rx_s_anew {idx : Nat} (hx : p.tables.exec = Jvm.exec) (hb : c.code = cc) (hts : ∀ w ∈ lw_G, w.before args s = true) (hown : s.vm.findClass own = some m.cls) (hK : va_K D vwCl (rx_tys cy) s) (hAO : va_AO "TurnNet$State" s) (hA : ∀ q, H0.size ≤ q → A q) (hR : rx_rc N ≤ R.cells ∧ rx_rs N ≤ R.slots) (hd : decode cc pc = .ok (.anewarray idx, 3)) (hF : Cond.classLink own idx "TurnNet$State" ∈ lw_G)
    (h : rx_h_anew K N pc na nb lv st hp iv cn sn = some out) (hG : ∀ σ ∈ out, rx_G p l e R s m args below meth c Q cy D b A H0 ad0 en0 nL σ) : rx_G p l e R s m args below meth c Q cy D b A H0 ad0 en0 nL (pc, lv, st, hp, iv, cn, sn) := by
  match st, h with
  | [], h => cases h
  | v :: st', h =>
    obtain ⟨hc, h⟩ := rx_cond h
    obtain ⟨c1, c2⟩ := rx_and2.mp hc
    have c1 : v % 4 = 0 := rx_beq.mp c1
    have c2 : v / 4 ≤ 10000 := rx_ble.mp c2
    obtain ⟨⟨r1, r2⟩, k⟩ := rx_made h hG hR
    intro ad en ls stA H locs ws hRl
    obtain ⟨h1, h2, h3, h4, h5, h6, h7, h8, h9⟩ := hRl
    obtain ⟨x, r, rfl, hxv, h8n⟩ := rx_st_cons h8
    cases (rx_cv0 (b := b) (ad := ad) (en := en) c1).symm.trans hxv
    refine va_newq hx hb hown (hts _ hF) hAO hK h4 h5 h6 hA (show ¬ nI (v / 4) < 0 from nI_pos (by omega)) (show (nI (v / 4)).toNatClampNeg = v / 4 from nI_clamp (by omega)) (by omega) r1 r2 hd (fun q cA H1 hK2 p1 p2 p3 => ?_)
    have hcA : cA = cy 16 := by
      obtain ⟨k1, m1, -, -, -, e1⟩ := (hK.2 4 (cy 16, .object "TurnNet$State") rfl).2
      obtain ⟨k2, m2, -, -, -, e2⟩ := (hK2.2 5 (cA, .object "TurnNet$State") rfl).2
      exact Option.some.inj (e2.symm.trans e1)
    subst hcA
    exact k h1 h2 h3 ⟨List.length_replicate, Or.inr (Or.inr (Or.inr ⟨rfl, _, rfl, fun j w hj => by rw [rx_rep (ad := ad) (en := en) hj]; rfl⟩))⟩ p1 p2 p3 h7 h8n h9
theorem rx_lit (a : Nat) : Nat.add a 2147483648 = a + 2147483648 := rfl
theorem rx_s_tsw1 {d : Int} {l0 h0 LB HB x y v : Nat} {st' : List Nat} {offs : Array Int} {len : Nat} (hLB : LB = l0 + 2147483648) (hHB : HB = h0 + 2147483648) (hio : rx_io iv v = some (x, y)) (hx : p.tables.exec = Jvm.exec) (hb : c.code = cc) (hd : decode cc pc = .ok (.tableswitch d (Int.ofNat l0) (Int.ofNat h0) offs, len)) (ht : (pc : Int) + d = (na : Int))
    (h : rx_tsw1 LB HB offs pc na v x y lv st' hp iv cn sn = some out) (hG : ∀ σ ∈ out, rx_G p l e R s m args below meth c Q cy D b A H0 ad0 en0 nL σ) : rx_G p l e R s m args below meth c Q cy D b A H0 ad0 en0 nL (pc, lv, v :: st', hp, iv, cn, sn) := by
  unfold rx_tsw1 at h
  cases hc : (Nat.blt y LB || Nat.blt HB x) with
  | true =>
    rw [hc, cond_true] at h
    cases h
    intro ad en ls stA H locs ws hRl
    obtain ⟨h1, h2, h3, h4, h5, h6, h7, h8, h9⟩ := hRl
    obtain ⟨xa, r, rfl, hxv, h8n⟩ := rx_st_cons h8
    obtain ⟨n, en1, e1, e2⟩ := rx_io_cv (b := b) (ad := ad) h9 hio
    cases en1.symm.trans hxv
    refine lv_tableOut hx hb hd ?_ ht (hG _ List.mem_cons_self ad en ls r H locs ws ⟨h1, h2, h3, h4, h5, h6, h7, h8n, h9⟩)
    have hb1 := n.le_toInt
    unfold rx_bias at e1 e2
    rcases rx_or2.mp hc with q | q
    · have q := rx_blt.mp q
      exact Or.inl (by rw [Int.ofNat_eq_natCast]; omega)
    · have q := rx_blt.mp q
      exact Or.inr (by rw [Int.ofNat_eq_natCast]; omega)
  | false =>
    rw [hc, cond_false] at h
    cases hxy : Nat.beq x y with
    | false => rw [hxy, cond_false] at h; exact rx_s_two rfl h hG
    | true =>
      rw [hxy, cond_true] at h
      have hxy : x = y := rx_beq.mp hxy
      have n1 : ¬ y < LB := fun z => by rw [rx_blt.mpr z] at hc; cases hc
      have n2 : ¬ HB < x := fun z => by rw [rx_blt.mpr z, Bool.or_true] at hc; cases hc
      cases ho : offs[Nat.sub x LB]? with
      | none => rw [ho] at h; cases h
      | some o =>
        rw [ho] at h
        replace h : (match (pc : Int) + o with
          | .ofNat t => some [(t, lv, st', hp, iv, cn, sn)]
          | _ => none) = some out := h
        cases hpo : (pc : Int) + o with
        | negSucc z => rw [hpo] at h; cases h
        | ofNat t =>
          rw [hpo] at h
          cases h
          intro ad en ls stA H locs ws hRl
          obtain ⟨h1, h2, h3, h4, h5, h6, h7, h8, h9⟩ := hRl
          obtain ⟨xa, r, rfl, hxv, h8n⟩ := rx_st_cons h8
          obtain ⟨n, en1, e1, e2⟩ := rx_io_cv (b := b) (ad := ad) h9 hio
          cases en1.symm.trans hxv
          have hb1 := n.le_toInt
          unfold rx_bias at e1 e2
          have hix : (n.toInt - Int.ofNat l0).toNat = x - LB := by rw [Int.ofNat_eq_natCast]; omega
          refine lv_tableIn hx hb hd (by rw [Int.ofNat_eq_natCast]; omega) (by rw [Int.ofNat_eq_natCast]; omega) ?_ hpo (hG _ List.mem_cons_self ad en ls r H locs ws ⟨h1, h2, h3, h4, h5, h6, h7, h8n, h9⟩)
          rw [hix]
          exact ho
theorem rx_s_tsw {d lo hi : Int} {offs : Array Int} {len : Nat} (hx : p.tables.exec = Jvm.exec) (hb : c.code = cc) (hd : decode cc pc = .ok (.tableswitch d lo hi offs, len)) (ht : (pc : Int) + d = (na : Int))
    (h : rx_h_tsw lo hi offs K N pc na nb lv st hp iv cn sn = some out) (hG : ∀ σ ∈ out, rx_G p l e R s m args below meth c Q cy D b A H0 ad0 en0 nL σ) : rx_G p l e R s m args below meth c Q cy D b A H0 ad0 en0 nL (pc, lv, st, hp, iv, cn, sn) := by
  match st, h with
  | [], h => cases h
  | v :: st', h =>
    replace h : rx_tsw2 (rx_io iv v) lo hi offs pc na v lv st' hp iv cn sn = some out := h
    cases hio : rx_io iv v with
    | none => rw [hio] at h; cases h
    | some w =>
      obtain ⟨x, y⟩ := w
      rw [hio] at h
      cases lo with
      | negSucc z => cases h
      | ofNat l0 =>
        cases hi with
        | negSucc z => cases h
        | ofNat h0 =>
          replace h : rx_tsw1 (Nat.add l0 2147483648) (Nat.add h0 2147483648) offs pc na v x y lv st' hp iv cn sn = some out := h
          exact rx_s_tsw1 (rx_lit l0) (rx_lit h0) hio hx hb hd ht h hG
/-- a copy -/
theorem rx_cat_eq {ad : List Nat} {en : List Int32} : ∀ {st : List Nat} {r : List Value}, st.map (rx_cv b ad en) = r.map some → (r.map fun v => v.category).sum = rx_cat st
  | [], [], _ => rfl
  | [], _ :: _, h => by cases h
  | _ :: _, [], h => by cases h
  | v :: st, x :: r, h => by
    obtain ⟨x', r', e, hx, h⟩ := rx_st_cons h
    cases e
    have ih := rx_cat_eq h
    show x.category + (r.map fun v => v.category).sum = (bif rx_isJ v then Nat.add (rx_cat st) 2 else Nat.succ (rx_cat st))
    rw [ih, rx_cat_cv hx]
    cases rx_isJ v with
    | true => show 2 + rx_cat st = rx_cat st + 2; omega
    | false => show 1 + rx_cat st = rx_cat st + 1; omega
theorem rx_s_cpy {idx : Nat} {σ : rx_S} (hx : p.tables.exec = Jvm.exec) (hb : c.code = cc) (hml : c.maxLocals = nL) (hown : s.vm.findClass own = some m.cls) (hK : va_K D vwCl (rx_tys cy) s) (hw1 : (Cond.methodLink own idx arraycopyName).before args s = true) (hw2 : (Cond.native arraycopyName).before args s = true) (hw3 : (Cond.static arraycopyName).before args s = true) (hw4 : (Cond.initialized "java/lang/System").before args s = true) (hfr : 1 ≤ R.frames) (hlo : 40 ≤ R.locals) (hd : decode cc pc = .ok (.invokestatic idx, 3))
    (h : rx_cpy pc lv st hp iv cn sn = some σ) (hG : rx_G p l e R s m args below meth c Q cy D b A H0 ad0 en0 nL σ) : rx_G p l e R s m args below meth c Q cy D b A H0 ad0 en0 nL (pc, lv, st, hp, iv, cn, sn) := by
  match st, h with
  | [], h => cases h
  | [_], h => cases h
  | [_, _], h => cases h
  | [_, _, _], h => cases h
  | [_, _, _, _], h => cases h
  | n :: dp :: d :: sp :: q :: st', h =>
    unfold rx_cpy at h
    dsimp only at h
    obtain ⟨hc, h⟩ := rx_cond h
    obtain ⟨c1, hc⟩ := rx_and2.mp hc
    obtain ⟨c2, hc⟩ := rx_and2.mp hc
    obtain ⟨c3, hc⟩ := rx_and2.mp hc
    obtain ⟨c4, hc⟩ := rx_and2.mp hc
    obtain ⟨c5, c6⟩ := rx_and2.mp hc
    cases hg1 : rx_hg hp (Nat.sub (rx_pl q) 2) with
    | none => rw [hg1] at h; cases h
    | some cl1 =>
      cases hg2 : rx_hg hp (Nat.sub (rx_pl d) 2) with
      | none => rw [hg1, hg2] at h; cases h
      | some cl2 =>
        obtain ⟨t, m1, f1⟩ := cl1
        obtain ⟨t2, m2, f2⟩ := cl2
        rw [hg1, hg2] at h
        dsimp only at h
        obtain ⟨hc2, hn⟩ := rx_cond h
        obtain ⟨d1, hc2⟩ := rx_and2.mp hc2
        obtain ⟨d2, hc2⟩ := rx_and2.mp hc2
        obtain ⟨d3, hc2⟩ := rx_and2.mp hc2
        obtain ⟨d4, hc2⟩ := rx_and2.mp hc2
        obtain ⟨d5, d6⟩ := rx_and2.mp hc2
        have d1 : t = 13 := rx_beq.mp d1
        have d2 : t2 = 13 := rx_beq.mp d2
        have d3 : n = rx_int m1 := rx_beq.mp d3
        have d4 : m1 = m2 := rx_beq.mp d4
        have d5 : m1 < 100000 := rx_blt.mp d5
        have d6 : rx_cat st' ≤ 8 := rx_ble.mp d6
        have c1 : dp = 0 := rx_beq.mp c1
        have c2 : sp = 0 := rx_beq.mp c2
        subst d1; subst d2; subst d3; subst d4; subst c1; subst c2
        cases hn
        intro ad en ls stA H locs ws hRl
        obtain ⟨h1, h2, h3, h4, h5, h6, h7, h8, h9⟩ := hRl
        obtain ⟨x1, r1, rfl, hx1, h8a⟩ := rx_st_cons h8
        obtain ⟨x2, r2, rfl, hx2, h8b⟩ := rx_st_cons h8a
        obtain ⟨x3, r3, rfl, hx3, h8c⟩ := rx_st_cons h8b
        obtain ⟨x4, r4, rfl, hx4, h8d⟩ := rx_st_cons h8c
        obtain ⟨x5, r, rfl, hx5, h8e⟩ := rx_st_cons h8d
        have e1 := Option.some.inj (hx1.symm.trans (rx_int_cv b ad en m1))
        have e2 := Option.some.inj (hx2.symm.trans (rx_int_cv b ad en 0))
        have e4 := Option.some.inj (hx4.symm.trans (rx_int_cv b ad en 0))
        subst e1; subst e2; subst e4
        obtain ⟨aq, eq, rfl, haq, hwq, hcq⟩ := rx_ref_at h3 (rx_and2.mpr ⟨c5, c6⟩) hx5 hg1
        obtain ⟨ad', ed, rfl, had, hwd, hcd⟩ := rx_ref_at h3 (rx_and2.mpr ⟨c3, c4⟩) hx3 hg2
        obtain ⟨gq, rfl, hgq⟩ := hcq.nums (Or.inr (Or.inl rfl))
        obtain ⟨gd, rfl, hgd⟩ := hcd.nums (Or.inr (Or.inl rfl))
        have k0 : (Int32.ofNat 0).toNatClampNeg = 0 := by decide
        have km : (Int32.ofNat m1).toNatClampNeg = m1 := nI_clamp (n := m1) (by omega)
        have hcl2 : rx_RC cy b ad en (13, m1, f1) (.inl (cy 13, m1, .inl (va_cpy gq gd 0 0 m1))) := by
          refine ⟨hcq.1, Or.inr (Or.inl ⟨Or.inr (Or.inl rfl), _, rfl, fun j v hj => ?_⟩)⟩
          have hlt : j < m1 := by have := (List.getElem?_eq_some_iff.mp hj).1; exact Nat.lt_of_lt_of_eq this hcq.1
          rw [sb_cpy0 hlt]
          exact hgq j v hj
        have hRW := h3.set (rx_hg_lt hg2) had hcl2
        refine va_copyi hx hb (by rw [hml]; exact h7.2.1.symm) hown hw1 hw2 hw3 hw4 hK h4 h5 h6 _ _ 1 1 hwq hwd rfl rfl rfl (by decide) (by decide) (nI_pos (n := m1) (by omega)) (by rw [k0, km]; exact Nat.le_of_eq (Nat.zero_add m1)) (by rw [k0, km]; exact Nat.le_of_eq (Nat.zero_add m1)) (fun _ _ => rfl) hfr ?_ hd (fun H1 locs1 p1 p2 p3 => ?_)
        · rw [rx_cat_eq h8e]
          have : nativeFrameWords "java/lang/System" "arraycopy" 5 = 7 := by decide +kernel
          rw [this]
          omega
        · rw [k0, km] at p1 p2
          exact hG ad en ls r H1 locs1 _ ⟨h1, h2, hRW, p1, p2, p3, h7, h8e, h9⟩
end RXS6
end
section
theorem rx_shr_ok : ∀ i j n, rx_f_shr i j = some n → Int32.ofNat i >>> (Int32.ofNat j &&& 31) = Int32.ofNat n := by
  intro i j n h
  cases h
  exact (rx_i32_of _).symm
theorem rx_or_ok : ∀ i j n, rx_f_or i j = some n → Int32.ofNat i ||| Int32.ofNat j = Int32.ofNat n := by
  intro i j n h
  cases h
  show _ = Int32.ofNat ((i ||| j) % 4294967296)
  rw [rx_ofN_mod]
  apply Int32.toBitVec_inj.mp
  simp [Int32.toBitVec_or]
theorem rx_xor_ok : ∀ i j n, rx_f_xor i j = some n → Int32.ofNat i ^^^ Int32.ofNat j = Int32.ofNat n := by
  intro i j n h
  cases h
  show _ = Int32.ofNat ((i ^^^ j) % 4294967296)
  rw [rx_ofN_mod]
  apply Int32.toBitVec_inj.mp
  simp [Int32.toBitVec_xor]
theorem rx_ne0 {j : Nat} (h : Nat.beq (Nat.mod j 4294967296) 0 = false) : ¬ Int32.ofNat j = 0 := by
  intro z
  have h1 := congrArg rx_bias z
  rw [rx_bias_ofNat, show (0 : Int32) = Int32.ofNat 0 from rfl, rx_bias_ofNat] at h1
  unfold rx_bi at h1
  replace h1 : (j + 2147483648) % 4294967296 = (0 + 2147483648) % 4294967296 := h1
  have h2 : j % 4294967296 = 0 := by omega
  have h3 : Nat.mod j 4294967296 = 0 := h2
  rw [h3] at h
  cases h
theorem rx_div_ok : ∀ i j n, rx_f_div i j = some n → (¬ Int32.ofNat j = 0) ∧ Int32.ofNat i / Int32.ofNat j = Int32.ofNat n := by
  intro i j n h
  obtain ⟨h0, h⟩ := rx_condF h
  cases h
  exact ⟨rx_ne0 h0, (rx_i32_of _).symm⟩
theorem rx_rem_ok : ∀ i j n, rx_f_rem i j = some n → (¬ Int32.ofNat j = 0) ∧ Int32.ofNat i - Int32.ofNat i / Int32.ofNat j * Int32.ofNat j = Int32.ofNat n := by
  intro i j n h
  obtain ⟨h0, h⟩ := rx_condF h
  cases h
  exact ⟨rx_ne0 h0, (rx_i32_of _).symm⟩
noncomputable def rx_ln (ins : Instr) : Nat := match ins with
  | .iload _ => 2 | .lload _ => 2 | .ldc _ => 2 | .istore _ => 2 | .lstore _ => 2 | .bipush _ => 2 | .newarray _ => 2
  | .iinc _ _ => 3 | .sipush _ => 3 | .ldc_w _ => 3 | .ldc2_w _ => 3 | .goto _ => 3 | .ifCond _ _ => 3 | .if_icmp _ _ => 3 | .getfield _ => 3 | .putfield _ => 3 | .anewarray _ => 3 | .new _ => 3 | .invokevirtual _ => 3 | .invokespecial _ => 3 | .invokestatic _ => 3
  | _ => 1
/-- what must hold of an instruction's notes -/
noncomputable def rx_wd (K : rx_K) (own mn : String) (pc na nb : Nat) (ins : Instr) : Prop := match ins with
  | .iinc _ n => Int32.ofInt n = Int32.ofNat na
  | .iconst n => Int32.ofInt n = Int32.ofNat na
  | .bipush n => (Int8.ofInt n).toInt32 = Int32.ofNat na
  | .sipush n => (Int16.ofInt n).toInt32 = Int32.ofNat na
  | .lconst n => Int64.ofNat n.val = Int64.ofNat na
  | .ldc_w i => Jvm.Cond.constant own i (Int32.ofNat na) ∈ lw_G
  | .ldc i => (∃ n, na = 4 * n ∧ Jvm.Cond.constant own i (Int32.ofNat n) ∈ lw_G) ∨ ∃ k, k < 8 ∧ na = 4 * (1000 + k) + 2 ∧ own = "TurnNet$Reader" ∧ i = rx_sidx.getD k 0
  | .ldc2_w i => Jvm.Cond.constantLong own i (Int64.ofNat na) ∈ lw_G
  | .goto off => (pc : Int) + off = (na : Int)
  | .ifCond _ off => (pc : Int) + off = (na : Int)
  | .if_icmp _ off => (pc : Int) + off = (na : Int)
  | .tableswitch d _ _ _ => (pc : Int) + d = (na : Int)
  | .getfield i => rx_SF own i na nb
  | .putfield i => rx_SP K own mn i na nb
  | .newarray t => Jvm.Cond.arrayClass (newarray.typeOf t) ∈ lw_G
  | .anewarray i => Jvm.Cond.classLink own i "TurnNet$State" ∈ lw_G
  | .new i => rx_SN K own i na
  | _ => True
noncomputable def rx_dec (bytes : ByteArray) (pc : Nat) (ins : Instr) : Prop := match ins with
  | .tableswitch d lo hi offs => ∃ len, decode bytes pc = .ok (.tableswitch d lo hi offs, len)
  | i => decode bytes pc = .ok (i, rx_ln i)
noncomputable def lw_nest : List Jvm.Cond := lw_tbl.filter (fun w => match w with | .methodLinkNest _ _ _ _ => true | _ => false)
/-- what a method's run stands on -/
noncomputable def rx_Cx (cy : Nat → ClassId) (D : va_G) (r : rx_M) (p : Program) (R : Room) (s : State) (m : MethodId) (args : Array Value) (meth : Method) (c : Code) : Prop :=
  p.tables.exec = Jvm.exec ∧ c.code = rx_b r ∧ meth.sig.returnType = rx_rt r ∧ c.maxLocals = rx_mL (rx_n r) ∧ s.vm.findClass (rx_y r).cls = some m.cls ∧ (∀ w ∈ lw_G, w.before args s = true) ∧ meth.locks = false ∧ ((rx_y r).name = "<init>" → meth.name = "<init>") ∧ va_K D vwCl (rx_tys cy) s ∧ (∀ w ∈ lw_nest, va_Nw w s) ∧ va_AO "TurnNet$State" s ∧
  rx_rf (rx_n r) ≤ R.frames ∧ rx_rl (rx_n r) ≤ R.locals ∧ rx_rc (rx_n r) ≤ R.cells ∧ rx_rs (rx_n r) ≤ R.slots
section RXS7
variable {p : Program} {l : Launch} {e : Env} {R : Room} {s : State} {m : MethodId} {args : Array Value} {below : List Frame} {meth : Method} {c : Code} {Q : State → Prop}
variable {cy : Nat → ClassId} {D : va_G} {b : Nat → Nat} {A : Nat → Prop} {H0 : Heap} {ad0 : List Nat} {en0 : List Int32} {nL : Nat}
variable {K : rx_K} {pc na nb cn sn : Nat} {lv : rx_L} {st : List Nat} {hp : rx_H} {iv : rx_I} {out : List rx_S} {r : rx_M}
theorem rx_s_ldc {i : Nat} (hx : p.tables.exec = Jvm.exec) (hb : c.code = rx_b r) (hown : s.vm.findClass (rx_y r).cls = some m.cls) (hts : ∀ w ∈ lw_G, w.before args s = true) (hZ : rx_Zt b A s) (hd : decode (rx_b r) pc = .ok (.ldc i, 2))
    (hw : (∃ n, na = 4 * n ∧ Jvm.Cond.constant (rx_y r).cls i (Int32.ofNat n) ∈ lw_G) ∨ ∃ k, k < 8 ∧ na = 4 * (1000 + k) + 2 ∧ (rx_y r).cls = "TurnNet$Reader" ∧ i = rx_sidx.getD k 0)
    (h : rx_h_ldc K (rx_n r) pc na nb lv st hp iv cn sn = some out) (hG : ∀ σ ∈ out, rx_G p l e R s m args below meth c Q cy D b A H0 ad0 en0 nL σ) : rx_G p l e R s m args below meth c Q cy D b A H0 ad0 en0 nL (pc, lv, st, hp, iv, cn, sn) := by
  intro ad en ls stA H locs ws hR
  obtain ⟨h1, h2, h3, h4, h5, h6, h7, h8, h9⟩ := hR
  obtain ⟨-, h⟩ := rx_cond h
  cases h
  rcases hw with ⟨n, hn, hw⟩ | ⟨k, hk, hn, ho, hi⟩
  · subst hn
    exact lv_ldc hx hb hown (hts _ hw) hd (hG _ List.mem_cons_self ad en ls (.int (Int32.ofNat n) :: stA) H locs ws ⟨h1, h2, h3, h4, h5, h6, h7, rx_st_push (rx_int_cv b ad en n) h8, h9⟩)
  · have hcv : rx_cv b ad en na = some (.ref (b (k + 1))) := by
      rw [rx_cvS (by omega) (by omega), show na / 4 - 999 = k + 1 by omega]
    subst hi
    rw [ho] at hown
    exact va_ldcS hx hb hown (hZ.2.1 k hk) hd (hG _ List.mem_cons_self ad en ls (.ref (b (k + 1)) :: stA) H locs ws ⟨h1, h2, h3, h4, h5, h6, h7, rx_st_push hcv h8, h9⟩)
set_option maxHeartbeats 1000000 in
theorem rx_s_sem {ins : Instr} (C : rx_Cx cy D r p R s m args meth c) (hN : nL = rx_mL (rx_n r)) (hSc : rx_Sc (rx_n r) b A H0 en0 s) (hA : ∀ q, H0.size ≤ q → A q) (hd : rx_dec (rx_b r) pc ins) (hw : rx_wd K (rx_y r).cls (rx_y r).name pc na nb ins)
    (h : rx_sem ins K (rx_n r) pc na nb lv st hp iv cn sn = some out) (hG : ∀ σ ∈ out, rx_G p l e R s m args below meth c Q cy D b A H0 ad0 en0 nL σ) : rx_G p l e R s m args below meth c Q cy D b A H0 ad0 en0 nL (pc, lv, st, hp, iv, cn, sn) := by
  obtain ⟨hx, hb, hr, hml, hown, hts, hlocks, hmn, hK, hNest, hAO, hR1, hR2, hR3, hR4⟩ := C
  cases ins with
  | aload_n k => exact rx_s_ld (K := K) (N := rx_n r) (na := na) (nb := nb) (T := fun x => ∃ a, x = .ref a) (fun ad en v x hk hx' => rx_isR_cv hk hx') rfl (fun hT hl kk => by obtain ⟨a, rfl⟩ := hT; exact lv_aload_n hx hb hd rfl hl kk) h hG
  | iload_n k => exact rx_s_ld (K := K) (N := rx_n r) (na := na) (nb := nb) (T := fun x => ∃ a, x = .int a) (fun ad en v x hk hx' => rx_isI_cv hk hx') rfl (fun hT hl kk => by obtain ⟨a, rfl⟩ := hT; exact lv_iload_n hx hb hd rfl hl kk) h hG
  | lload_n k => exact rx_s_ld (K := K) (N := rx_n r) (na := na) (nb := nb) (T := fun x => ∃ a, x = .long a) (fun ad en v x hk hx' => ⟨_, rx_isJ_cv hk hx'⟩) rfl (fun hT hl kk => by obtain ⟨a, rfl⟩ := hT; exact lv_lload_n hx hb hd rfl hl kk) h hG
  | iload i => exact rx_s_ld (K := K) (N := rx_n r) (na := na) (nb := nb) (T := fun x => ∃ a, x = .int a) (fun ad en v x hk hx' => rx_isI_cv hk hx') rfl (fun hT hl kk => by obtain ⟨a, rfl⟩ := hT; exact lv_iload hx hb hd hl kk) h hG
  | istore_n k => exact rx_s_sto (K := K) (N := rx_n r) (na := na) (nb := nb) hN (T := fun x => ∃ a, x = .int a) (fun ad en v x hk hx' => rx_isI_cv hk hx') (fun hT hi hl kk => by obtain ⟨a, rfl⟩ := hT; exact lv_istore_n hx hb hd rfl hl hi rfl kk) h hG
  | astore_n k => exact rx_s_sto (K := K) (N := rx_n r) (na := na) (nb := nb) hN (T := fun x => ∃ a, x = .ref a) (fun ad en v x hk hx' => rx_isR_cv hk hx') (fun hT hi hl kk => by obtain ⟨a, rfl⟩ := hT; exact lv_astore_n hx hb hd rfl hl hi rfl kk) h hG
  | istore i => exact rx_s_sto (K := K) (N := rx_n r) (na := na) (nb := nb) hN (T := fun x => ∃ a, x = .int a) (fun ad en v x hk hx' => rx_isI_cv hk hx') (fun hT hi hl kk => by obtain ⟨a, rfl⟩ := hT; exact lv_istore hx hb hd hl hi rfl kk) h hG
  | lstore_n k => exact rx_s_stJ (K := K) (N := rx_n r) (na := na) (nb := nb) hN (fun hi hl kk => lv_lstore_n hx hb hd rfl hl hi rfl kk) h hG
  | lstore i => exact rx_s_stJ (K := K) (N := rx_n r) (na := na) (nb := nb) hN (fun hi hl kk => lv_lstore hx hb hd hl hi rfl kk) h hG
  | iinc i n => exact rx_s_inc (K := K) (N := rx_n r) (na := na) (nb := nb) hN hw hx hb hd h hG
  | iconst n => exact rx_s_psh (K := K) (N := rx_n r) (na := na) (nb := nb) (fun kk => lv_iconst hx hb hd hw kk) h hG
  | bipush n => exact rx_s_psh (K := K) (N := rx_n r) (na := na) (nb := nb) (fun kk => lv_bipush hx hb hd hw kk) h hG
  | sipush n => exact rx_s_psh (K := K) (N := rx_n r) (na := na) (nb := nb) (fun kk => lv_sipush hx hb hd hw kk) h hG
  | lconst n => exact rx_s_pshJ (K := K) (N := rx_n r) (na := na) (nb := nb) (fun kk => lv_lconst hx hb hd hw kk) h hG
  | ldc_w i => exact rx_s_psh (K := K) (N := rx_n r) (na := na) (nb := nb) (fun kk => lv_ldcw hx hb hown (hts _ hw) hd kk) h hG
  | ldc2_w i => exact rx_s_pshJ (K := K) (N := rx_n r) (na := na) (nb := nb) (fun kk => lv_ldc2 hx hb hown (hts _ hw) hd kk) h hG
  | iadd => exact rx_s_ar (K := K) (N := rx_n r) (na := na) (nb := nb) (F := fun x y => x + y) (fun kk => lv_iadd hx hb hd kk) rx_add_ok (fun _ _ v x y _ => rx_g32_ok v _) h hG
  | isub => exact rx_s_ar (K := K) (N := rx_n r) (na := na) (nb := nb) (F := fun x y => x - y) (fun kk => lv_isub hx hb hd kk) rx_sub_ok (fun _ _ v x y _ => rx_g32_ok v _) h hG
  | imul => exact rx_s_ar (K := K) (N := rx_n r) (na := na) (nb := nb) (F := fun x y => x * y) (fun kk => lv_imul hx hb hd kk) rx_mul_ok (fun _ _ v x y _ => rx_g32_ok v _) h hG
  | iand => exact rx_s_ar (K := K) (N := rx_n r) (na := na) (nb := nb) (F := fun x y => x &&& y) (fun kk => lv_iand hx hb hd kk) rx_and_ok (fun ad en v x y hv => rx_gand_ok ad en v x y hv) h hG
  | ishl => exact rx_s_ar (K := K) (N := rx_n r) (na := na) (nb := nb) (F := fun x y => x <<< (y &&& 31)) (fun kk => lv_ishl hx hb hd kk) rx_shl_ok (fun _ _ v x y _ => rx_g32_ok v _) h hG
  | ishr => exact rx_s_ark (K := K) (N := rx_n r) (na := na) (nb := nb) (f := rx_f_shr) (F := fun x y => x >>> (y &&& 31)) (fun _ => True) (fun _ kk => lv_ishr hx hb hd kk) (fun i j n z => ⟨trivial, rx_shr_ok i j n z⟩) h hG
  | ior => exact rx_s_ark (K := K) (N := rx_n r) (na := na) (nb := nb) (F := fun x y => x ||| y) (fun _ => True) (fun _ kk => lv_ior hx hb hd kk) (fun i j n z => ⟨trivial, rx_or_ok i j n z⟩) h hG
  | ixor => exact rx_s_ark (K := K) (N := rx_n r) (na := na) (nb := nb) (F := fun x y => x ^^^ y) (fun _ => True) (fun _ kk => lv_ixor hx hb hd kk) (fun i j n z => ⟨trivial, rx_xor_ok i j n z⟩) h hG
  | idiv => exact rx_s_ark (K := K) (N := rx_n r) (na := na) (nb := nb) (F := fun x y => x / y) (fun y => ¬ y = 0) (fun hy kk => lv_idiv hx hb hd hy kk) (fun i j n z => rx_div_ok i j n z) h hG
  | irem => exact rx_s_ark (K := K) (N := rx_n r) (na := na) (nb := nb) (F := fun x y => x - x / y * y) (fun y => ¬ y = 0) (fun hy kk => lv_irem hx hb hd hy kk) (fun i j n z => rx_rem_ok i j n z) h hG
  | ineg => exact rx_s_un (K := K) (N := rx_n r) (na := na) (nb := nb) (F := fun x => -x) (fun kk => lv_ineg hx hb hd kk) (fun i => (rx_i32_of _).symm) h hG
  | ladd => exact rx_s_arJ (K := K) (N := rx_n r) (na := na) (nb := nb) (F := fun x y => x + y) (fun kk => lv_ladd hx hb hd kk) (fun i j => (rx_i64_of _).symm) h hG
  | lsub => exact rx_s_arJ (K := K) (N := rx_n r) (na := na) (nb := nb) (F := fun x y => x - y) (fun kk => lv_lsub hx hb hd kk) (fun i j => (rx_i64_of _).symm) h hG
  | lmul => exact rx_s_arJ (K := K) (N := rx_n r) (na := na) (nb := nb) (F := fun x y => x * y) (fun kk => lv_lmul hx hb hd kk) (fun i j => (rx_i64_of _).symm) h hG
  | land => exact rx_s_arJ (K := K) (N := rx_n r) (na := na) (nb := nb) (F := fun x y => x &&& y) (fun kk => lv_land hx hb hd kk) (fun i j => (rx_i64_of _).symm) h hG
  | lor => exact rx_s_arJ (K := K) (N := rx_n r) (na := na) (nb := nb) (F := fun x y => x ||| y) (fun kk => lv_lor hx hb hd kk) (fun i j => (rx_i64_of _).symm) h hG
  | lxor => exact rx_s_arJ (K := K) (N := rx_n r) (na := na) (nb := nb) (F := fun x y => x ^^^ y) (fun kk => lv_lxor hx hb hd kk) (fun i j => (rx_i64_of _).symm) h hG
  | lshl => exact rx_s_shJ (K := K) (N := rx_n r) (na := na) (nb := nb) (F := fun x y => x <<< (y.toInt64 &&& 63)) (fun kk => lv_lshl hx hb hd rfl kk) (fun i j => (rx_i64_of _).symm) h hG
  | lshr => exact rx_s_shJ (K := K) (N := rx_n r) (na := na) (nb := nb) (F := fun x y => x >>> (y.toInt64 &&& 63)) (fun kk => lv_lshr hx hb hd rfl kk) (fun i j => (rx_i64_of _).symm) h hG
  | lload i => exact rx_s_ld (K := K) (N := rx_n r) (na := na) (nb := nb) (T := fun x => ∃ a, x = .long a) (fun ad en v x hk hx' => ⟨_, rx_isJ_cv hk hx'⟩) rfl (fun hT hl kk => by obtain ⟨a, rfl⟩ := hT; exact lv_lload hx hb hd hl kk) h hG
  | laload => exact rx_s_lald (K := K) (N := rx_n r) (na := na) (nb := nb) hx hb hSc hK hd h hG
  | lastore => exact rx_s_last (K := K) (N := rx_n r) (na := na) (nb := nb) hx hb hK hd h hG
  | iushr => exact rx_s_ar (K := K) (N := rx_n r) (na := na) (nb := nb) (F := fun x y => (x.toUInt32 >>> (y.toUInt32 &&& Int32.toUInt32 31)).toInt32) (fun kk => lv_iushr hx hb hd rfl kk) rx_ushr_ok (fun _ _ v x y _ => rx_g32_ok v _) h hG
  | i2b => exact rx_s_un (K := K) (N := rx_n r) (na := na) (nb := nb) (F := fun x => x.toInt8.toInt32) (fun kk => lv_i2b hx hb hd rfl kk) (fun i => (rx_i32_of _).symm) h hG
  | lcmp => exact rx_s_lcmp (K := K) (N := rx_n r) (na := na) (nb := nb) hx hb hd h hG
  | dup => exact rx_s_dup (K := K) (N := rx_n r) (na := na) (nb := nb) hx hb hd h hG
  | pop => exact rx_s_pop (K := K) (N := rx_n r) (na := na) (nb := nb) hx hb hd h hG
  | pop2 => exact rx_s_pop2 (K := K) (N := rx_n r) (na := na) (nb := nb) hx hb hd h hG
  | ldc i => exact rx_s_ldc (K := K) (na := na) (nb := nb) hx hb hown hts hSc.2.2 hd hw h hG
  | dup2 => exact rx_s_dup2 (K := K) (N := rx_n r) (na := na) (nb := nb) hx hb hd h hG
  | goto off => exact rx_s_goto (K := K) (N := rx_n r) (na := na) (nb := nb) hx hb hd hw h hG
  | ifCond k off => exact rx_s_if (K := K) (N := rx_n r) (na := na) (nb := nb) hx hb hd hw h hG
  | if_icmp k off => exact rx_s_icmp (K := K) (N := rx_n r) (na := na) (nb := nb) hx hb hd hw h hG
  | tableswitch d lo hi offs => obtain ⟨len, hd⟩ := hd; exact rx_s_tsw (K := K) (N := rx_n r) (na := na) (nb := nb) hx hb hd hw h hG
  | getfield i => exact rx_s_gf (K := K) (N := rx_n r) (na := na) (nb := nb) hx hb hts hown hK hd hw h hG
  | putfield i => exact rx_s_pf (K := K) (N := rx_n r) (na := na) (nb := nb) hx hb hts hown hK hmn hd hw h hG
  | iaload => exact rx_s_iald (K := K) (N := rx_n r) (na := na) (nb := nb) hx hb hSc hK hd h hG
  | baload => exact rx_s_bald (K := K) (N := rx_n r) (na := na) (nb := nb) hx hb hSc hK hd h hG
  | aaload => exact rx_s_aald (K := K) (N := rx_n r) (na := na) (nb := nb) hx hb hSc hK hd h hG
  | iastore => exact rx_s_iast (K := K) (N := rx_n r) (na := na) (nb := nb) hx hb hK hd h hG
  | bastore => exact rx_s_bast (K := K) (N := rx_n r) (na := na) (nb := nb) hx hb hK hd h hG
  | aastore => exact rx_s_aast (K := K) (N := rx_n r) (na := na) (nb := nb) hx hb hK hd h hG
  | arraylength => exact rx_s_alen (K := K) (N := rx_n r) (na := na) (nb := nb) hx hb hd hSc hK h hG
  | newarray t => exact rx_s_newa (K := K) (N := rx_n r) (na := na) (nb := nb) hx hb hts hK hA ⟨hR3, hR4⟩ hd hw h hG
  | anewarray i => exact rx_s_anew (K := K) (N := rx_n r) (na := na) (nb := nb) hx hb hts hown hK hAO hA ⟨hR3, hR4⟩ hd hw h hG
  | new i => exact rx_s_new (K := K) (N := rx_n r) (na := na) (nb := nb) hx hb hts hown hK hA ⟨hR3, hR4⟩ hd hw h hG
  | _ => cases h
end RXS7
end
section
/-- the words that a method's contract takes -/
noncomputable def rx_ws (q : rx_M) : List Jvm.Cond := Jvm.Cond.code (rx_y q) (rx_b q) (rx_mL (rx_n q)) (rx_rt q) :: lw_G
noncomputable def rx_room (q : rx_M) : Room := { frames := rx_rf (rx_n q), cells := rx_rc (rx_n q), slots := rx_rs (rx_n q), locals := rx_rl (rx_n q) }
/-- how a method begins -/
noncomputable def rx_Pc (cy : Nat → ClassId) (D : va_G) (b : Nat → Nat) (asA : List Value) (ws : va_W) (sz : Nat) : Array Value → State → Prop :=
  va_Pc asA (fun U => U.heap.size = sz ∧ va_P D vwCl ws U.heap ∧ va_K D vwCl (rx_tys cy) U ∧ va_D (fun _ => True) ws ∧ (∀ w ∈ lw_nest, va_Nw w U) ∧ va_AO "TurnNet$State" U ∧ rx_Zt b (va_A ws sz) U)
/-- how it ends: as one of the interpreter's outcomes -/
noncomputable def rx_end (cy : Nat → ClassId) (D : va_G) (b : Nat → Nat) (ad : List Nat) (en : List Int32) (A : Nat → Prop) (rk : Nat) (o : rx_O) (v : Option Value) (H : Heap) : Prop := ∃ (ad' : List Nat) (en' : List Int32) (ws' : va_W), ad <+: ad' ∧ en <+: en' ∧ ((rk = 0 ∧ v = none) ∨ (rk ≠ 0 ∧ ∃ x, rx_cv b ad' en' o.1 = some x ∧ v = some x)) ∧ rx_RW cy b ad' en' o.2.1 ws' ∧ va_P D vwCl ws' H ∧ va_D A ws' ∧ rx_RI o.2.2 en'
noncomputable def rx_Qc (cy : Nat → ClassId) (D : va_G) (b : Nat → Nat) (ad : List Nat) (en : List Int32) (A : Nat → Prop) (rk : Nat) (outs : List rx_O) : Array Value → State → Outcome → State → Prop :=
  fun _ st oc t => (∃ o ∈ outs, ∃ v : Option Value, oc = .returned v ∧ rx_end cy D b ad en A rk o v t.heap) ∧ va_F A st t
theorem lw_G_good {ws : List Jvm.Cond} (h : ∀ w ∈ ws, w ∈ lw_G) : GoodIn lw_G ws := fun w hw => ⟨h w hw, good_of_word (List.mem_filter.mp (h w hw)).2⟩
theorem lw_nest_warm {s U : State} (hW : s.WarmedH U.vm) (h : ∀ w ∈ lw_nest, va_Nw w s) : ∀ w ∈ lw_nest, va_Nw w U := by
  intro w hw
  have h1 := h w hw
  have h2 := (List.mem_filter.mp hw).2
  cases w with
  | methodLinkNest a i x hh => exact va_Nw.warmM hW h1
  | _ => cases h2
theorem lw_nest_same {s U : State} (hv : s.vm = U.vm) (h : ∀ w ∈ lw_nest, va_Nw w s) : ∀ w ∈ lw_nest, va_Nw w U := by
  intro w hw
  have h1 := h w hw
  have h2 := (List.mem_filter.mp hw).2
  cases w with
  | methodLinkNest a i x hh => exact va_Nw.same rfl hv h1
  | _ => cases h2
theorem rx_Pc_blind {cy : Nat → ClassId} {D : va_G} {b : Nat → Nat} {asA : List Value} {ws : va_W} {sz : Nat} : FrameBlind (rx_Pc cy D b asA ws sz) := by
  intro a U g mk q
  obtain ⟨q0, q1, qP, qK, qD, qN, qA, qZ⟩ := q
  exact ⟨q0, q1, qP, va_K.moved (u := U) (U := U.calling g mk a) (Vm.Alike.refl U.vm) qK, qD, lw_nest_same (s := U) (U := U.calling g mk a) rfl qN, va_AO.moved (u := U) (U := U.calling g mk a) (Vm.Alike.refl U.vm) qA, qZ.blind⟩
theorem rx_AA {A : Nat → Prop} {H0 H : Heap} {locs : List Loc} {ws : va_W} (h5 : va_D A ws) (h6 : va_S A H0 H locs) (hA : ∀ z, H0.size ≤ z → A z) : ∀ z, va_A ws H.size z → A z := fun z hz' => by
  rcases hz' with ⟨k, ee, hk'⟩ | hk'
  · exact h5.2 k (z, ee) hk'
  · exact hA z (Nat.le_trans h6.1 hk')
section RXC
variable {p : Program} {l : Launch} {e : Env} {R : Room} {s : State} {m : MethodId} {args : Array Value} {below : List Frame} {meth : Method} {c : Code} {Q : State → Prop}
variable {cy : Nat → ClassId} {D : va_G} {b : Nat → Nat} {A : Nat → Prop} {H0 : Heap} {ad0 : List Nat} {en0 : List Int32} {nL : Nat}
variable {K : rx_K} {pc na nb cn sn : Nat} {lv : rx_L} {st : List Nat} {hp : rx_H} {iv : rx_I} {r q : rx_M}
/-- behind a call, whatever kind -/
theorem rx_back {ad : List Nat} {en : List Int32} {ls : Array Slot} {H : Heap} {locs : List Loc} {ws : va_W} {rest : List Nat} {restA st0 : List Value} {outs : List rx_O} {aa : Array Value} {mc ms : Nat} {rk : Nat}
    (hr : va_Run p l e R s m args below meth c H locs cn sn mc ms (F0 m pc ls st0) restA (rx_Qc cy D b ad en (va_A ws H.size) rk outs aa) (va_A ws H.size))
    (h1 : ad0 <+: ad) (h2 : en0 <+: en) (h5 : va_D A ws) (h6 : va_S A H0 H locs) (hA : ∀ z, H0.size ≤ z → A z) (h7 : rx_RL b ad en nL lv ls) (h8 : rest.map (rx_cv b ad en) = restA.map some)
    (hG : ∀ o ∈ outs, rx_G p l e R s m args below meth c Q cy D b A H0 ad0 en0 nL (Nat.add pc 3, lv, (bif Nat.beq rk 0 then rest else o.1 :: rest), o.2.1, o.2.2, Nat.add cn mc, Nat.add sn ms)) : W p l e R s m args below meth c H locs cn sn Q (F0 m pc ls st0) := by
  intro T hT X
  obtain ⟨v, st₀, t, T', L, g0, X', hL, e1, e2, ⟨⟨o, ho, v', hv, ad', en', ws', a1, a2, a3, a4, a5, a6, a7⟩, hz, hk⟩, stp⟩ := hr T hT X
  cases hv
  rw [g0] at hz hk
  have hAA : ∀ z, va_A ws H.size z → A z := fun z hz' => by
    rcases hz' with ⟨k, ee, hk'⟩ | hk'
    · exact h5.2 k (z, ee) hk'
    · exact hA z (Nat.le_trans h6.1 hk')
  have hS' : va_S A H0 T'.heap (locs ++ L) := ⟨Nat.le_trans h6.1 (by rw [e1]; exact hz), fun z z1 z2 => by
      rw [e1, hk z (Nat.lt_of_lt_of_le z1 h6.1) (fun y => z2 (hAA z y))]
      exact h6.2.1 z z1 z2, fun z hz' => by
      rcases List.mem_append.mp hz' with h | h
      · exact h6.2.2 z h
      · exact hAA _ (hL z h)⟩
  have key : ∃ stB : List Value, v.toList ++ restA = stB ∧ (bif Nat.beq rk 0 then rest else o.1 :: rest).map (rx_cv b ad' en') = stB.map some := by
    refine ⟨_, rfl, ?_⟩
    have h8' := rx_map_mono a1 a2 h8
    rcases a3 with ⟨rfl, rfl⟩ | ⟨hne, x, hx, rfl⟩
    · exact h8'
    · rw [show Nat.beq rk 0 = false from Bool.eq_false_iff.mpr (fun z => hne (rx_beq.mp z))]
      exact rx_st_push hx h8'
  obtain ⟨stB, hst, hmap⟩ := key
  obtain ⟨t2, b1, b2⟩ := hG o ho ad' en' ls stB T'.heap (locs ++ L) ws' ⟨h1.trans a1, h2.trans a2, a4, by rw [e1]; exact a5, a6.weaken (fun _ _ _ hz' => hAA _ hz'), hS', h7.mono a1 a2, hmap, a7⟩ T' rfl X'
  refine ⟨t2, stp t2 ?_, b2⟩
  rw [← hst] at b1
  exact b1
end RXC
end
section
/-- the tables, by number -/
noncomputable def rx_tb (j : Nat) : List Jvm.Cond := match j with
  | 0 => k2_sels lw_privs | 1 => tables_1_1 | 2 => tables_1_2 | 3 => tables_1_3 | 4 => tables_1_4 | 5 => tables_1_5 | 6 => tables_1_6 | 7 => tables_1_7 | 8 => tables_1_8 | _ => []
theorem rx_tb_in {j : Nat} {w : Jvm.Cond} (h : w ∈ rx_tb j) : w ∈ lw_tbl := by
  have t : ∀ {w : Jvm.Cond}, w ∈ tables_1 → w ∈ lw_tbl := fun h => List.mem_append_right _ h
  match j, h with
  | 0, h => exact List.mem_append_left _ h
  | 1, h => exact t (List.mem_append_left _ h)
  | 2, h => exact t (List.mem_append_right _ (List.mem_append_left _ h))
  | 3, h => exact t (List.mem_append_right _ (List.mem_append_right _ (List.mem_append_left _ h)))
  | 4, h => exact t (List.mem_append_right _ (List.mem_append_right _ (List.mem_append_right _ (List.mem_append_left _ h))))
  | 5, h => exact t (List.mem_append_right _ (List.mem_append_right _ (List.mem_append_right _ (List.mem_append_right _ (List.mem_append_left _ h)))))
  | 6, h => exact t (List.mem_append_right _ (List.mem_append_right _ (List.mem_append_right _ (List.mem_append_right _ (List.mem_append_right _ (List.mem_append_left _ h))))))
  | 7, h => exact t (List.mem_append_right _ (List.mem_append_right _ (List.mem_append_right _ (List.mem_append_right _ (List.mem_append_right _ (List.mem_append_right _ (List.mem_append_left _ h)))))))
  | 8, h => exact t (List.mem_append_right _ (List.mem_append_right _ (List.mem_append_right _ (List.mem_append_right _ (List.mem_append_right _ (List.mem_append_right _ (List.mem_append_right _ h)))))))
  | _ + 9, h => cases h
/-- a word stands at a place -/
noncomputable def rx_has (w : Nat × Nat) (x : Jvm.Cond) : Bool := (match rx_nth (rx_tb w.1) w.2 with
  | some y => decide (y = x)
  | none => false) && goodWord x
theorem rx_has_ok {w : Nat × Nat} {x : Jvm.Cond} (h : rx_has w x = true) : x ∈ lw_G := by
  obtain ⟨h1, h2⟩ := rx_and2.mp h
  rw [rx_nth_eq] at h1
  cases e : (rx_tb w.1)[w.2]? with
  | none => rw [e] at h1; cases h1
  | some y =>
    rw [e] at h1
    have e2 : y = x := of_decide_eq_true h1
    subst e2
    exact lw_G_of (rx_tb_in (List.mem_of_getElem? e)) h2
theorem rx_w_c_coder : Jvm.Cond.code yJ0_coder_7d493 cJ0_coder_7d493 1 (some .byte) ∈ lw_G := rx_has_ok (w := (2, 233)) (by decide +kernel)
theorem rx_w_i_coder : Jvm.Cond.instanceMethod yJ0_coder_7d493 ∈ lw_G := rx_has_ok (w := (2, 231)) (by decide +kernel)
theorem rx_w_s_coder : Jvm.Cond.selects RJ0 yJ0_coder_7d493 yJ0_coder_7d493 ∈ lw_G := rx_has_ok (w := (2, 232)) (by decide +kernel)
theorem rx_w_c_len : Jvm.Cond.code yJ0_length_8abf5 cJ0_length_8abf5 1 (some .int) ∈ lw_G := rx_has_ok (w := (2, 229)) (by decide +kernel)
theorem rx_w_i_len : Jvm.Cond.instanceMethod yJ0_length_8abf5 ∈ lw_G := rx_has_ok (w := (2, 227)) (by decide +kernel)
theorem rx_w_s_len : Jvm.Cond.selects RJ0 yJ0_length_8abf5 yJ0_length_8abf5 ∈ lw_G := rx_has_ok (w := (2, 228)) (by decide +kernel)
theorem rx_w_c_lat : Jvm.Cond.code yJ0_isLatin1_aae02 cJ0_isLatin1_aae02 1 (some .boolean) ∈ lw_G := rx_has_ok (w := (3, 3)) (by decide +kernel)
theorem rx_w_i_lat : Jvm.Cond.instanceMethod yJ0_isLatin1_aae02 ∈ lw_G := rx_has_ok (w := (3, 1)) (by decide +kernel)
theorem rx_w_s_lat : Jvm.Cond.selects RJ0 yJ0_isLatin1_aae02 yJ0_isLatin1_aae02 ∈ lw_G := rx_has_ok (w := (3, 2)) (by decide +kernel)
theorem rx_w_c_ca : Jvm.Cond.code yJ0_charAt_5068e cJ0_charAt_5068e 2 (some .char) ∈ lw_G := rx_has_ok (w := (2, 239)) (by decide +kernel)
theorem rx_w_i_ca : Jvm.Cond.instanceMethod yJ0_charAt_5068e ∈ lw_G := rx_has_ok (w := (2, 237)) (by decide +kernel)
theorem rx_w_s_ca : Jvm.Cond.selects RJ0 yJ0_charAt_5068e yJ0_charAt_5068e ∈ lw_G := rx_has_ok (w := (2, 238)) (by decide +kernel)
theorem rx_w_c_ci : Jvm.Cond.code yJ0_checkIndex_df160 cJ0_checkIndex_df160 2 none ∈ lw_G := rx_has_ok (w := (3, 9)) (by decide +kernel)
theorem rx_w_t_ci : Jvm.Cond.static yJ0_checkIndex_df160 ∈ lw_G := rx_has_ok (w := (3, 8)) (by decide +kernel)
theorem rx_w_c_lca : Jvm.Cond.code yJ1_charAt_3b067 cJ1_charAt_3b067 2 (some .char) ∈ lw_G := rx_has_ok (w := (3, 6)) (by decide +kernel)
theorem rx_w_t_lca : Jvm.Cond.static yJ1_charAt_3b067 ∈ lw_G := rx_has_ok (w := (3, 5)) (by decide +kernel)
theorem rx_w_c_pci : Jvm.Cond.code yJ3_checkIndex_8e157 cJ3_checkIndex_8e157 3 (some .int) ∈ lw_G := rx_has_ok (w := (3, 14)) (by decide +kernel)
theorem rx_w_t_pci : Jvm.Cond.static yJ3_checkIndex_8e157 ∈ lw_G := rx_has_ok (w := (3, 13)) (by decide +kernel)
theorem rx_w_l_coder : Jvm.Cond.methodLink RJ0 335 yJ0_coder_7d493 ∈ lw_G := rx_has_ok (w := (2, 230)) (by decide +kernel)
theorem rx_w_l_lat : Jvm.Cond.methodLink RJ0 492 yJ0_isLatin1_aae02 ∈ lw_G := rx_has_ok (w := (3, 0)) (by decide +kernel)
theorem rx_w_l_lca : Jvm.Cond.methodLink RJ0 495 yJ1_charAt_3b067 ∈ lw_G := rx_has_ok (w := (3, 4)) (by decide +kernel)
theorem rx_w_l_ci : Jvm.Cond.methodLink RJ1 9 yJ0_checkIndex_df160 ∈ lw_G := rx_has_ok (w := (3, 7)) (by decide +kernel)
theorem rx_w_l_pci : Jvm.Cond.methodLink RJ0 1059 yJ3_checkIndex_8e157 ∈ lw_G := rx_has_ok (w := (3, 12)) (by decide +kernel)
theorem rx_w_f_cs : Jvm.Cond.fieldLink RJ0 38 "java/lang/String" "COMPACT_STRINGS" "Z" ∈ lw_G := rx_has_ok (w := (2, 234)) (by decide +kernel)
theorem rx_w_f_coder : Jvm.Cond.fieldLink RJ0 15 "java/lang/String" "coder" "B" ∈ lw_G := rx_has_ok (w := (8, 222)) (by decide +kernel)
theorem rx_w_f_val : Jvm.Cond.fieldLink RJ0 9 "java/lang/String" "value" "[B" ∈ lw_G := rx_has_ok (w := (8, 221)) (by decide +kernel)
theorem rx_w_f_fmt : Jvm.Cond.fieldLink RJ0 1053 "jdk/internal/util/Preconditions" "SIOOBE_FORMATTER" "Ljava/util/function/BiFunction;" ∈ lw_G := rx_has_ok (w := (3, 10)) (by decide +kernel)
theorem rx_w_n_0 : Jvm.Cond.initialized RJ0 ∈ lw_G := rx_has_ok (w := (1, 14)) (by decide +kernel)
theorem rx_w_n_1 : Jvm.Cond.initialized RJ1 ∈ lw_G := rx_has_ok (w := (1, 15)) (by decide +kernel)
theorem rx_w_n_3 : Jvm.Cond.initialized RJ3 ∈ lw_G := rx_has_ok (w := (1, 16)) (by decide +kernel)
theorem rx_d_coder_0 : decode cJ0_coder_7d493 0 = .ok (.getstatic 38, 3) := by decide +kernel
theorem rx_d_coder_3 : decode cJ0_coder_7d493 3 = .ok (.ifCond .eq 10, 3) := by decide +kernel
theorem rx_d_coder_6 : decode cJ0_coder_7d493 6 = .ok (.aload_n 0, 1) := by decide +kernel
theorem rx_d_coder_7 : decode cJ0_coder_7d493 7 = .ok (.getfield 15, 3) := by decide +kernel
theorem rx_d_coder_10 : decode cJ0_coder_7d493 10 = .ok (.goto 4, 3) := by decide +kernel
theorem rx_d_coder_13 : decode cJ0_coder_7d493 13 = .ok (.iconst 1, 1) := by decide +kernel
theorem rx_d_coder_14 : decode cJ0_coder_7d493 14 = .ok (.ireturn, 1) := by decide +kernel
theorem rx_d_len_0 : decode cJ0_length_8abf5 0 = .ok (.aload_n 0, 1) := by decide +kernel
theorem rx_d_len_1 : decode cJ0_length_8abf5 1 = .ok (.getfield 9, 3) := by decide +kernel
theorem rx_d_len_4 : decode cJ0_length_8abf5 4 = .ok (.arraylength, 1) := by decide +kernel
theorem rx_d_len_5 : decode cJ0_length_8abf5 5 = .ok (.aload_n 0, 1) := by decide +kernel
theorem rx_d_len_6 : decode cJ0_length_8abf5 6 = .ok (.invokevirtual 335, 3) := by decide +kernel
theorem rx_d_len_9 : decode cJ0_length_8abf5 9 = .ok (.ishr, 1) := by decide +kernel
theorem rx_d_len_10 : decode cJ0_length_8abf5 10 = .ok (.ireturn, 1) := by decide +kernel
theorem rx_d_lat_0 : decode cJ0_isLatin1_aae02 0 = .ok (.getstatic 38, 3) := by decide +kernel
theorem rx_d_lat_3 : decode cJ0_isLatin1_aae02 3 = .ok (.ifCond .eq 14, 3) := by decide +kernel
theorem rx_d_lat_6 : decode cJ0_isLatin1_aae02 6 = .ok (.aload_n 0, 1) := by decide +kernel
theorem rx_d_lat_7 : decode cJ0_isLatin1_aae02 7 = .ok (.getfield 15, 3) := by decide +kernel
theorem rx_d_lat_10 : decode cJ0_isLatin1_aae02 10 = .ok (.ifCond .ne 7, 3) := by decide +kernel
theorem rx_d_lat_13 : decode cJ0_isLatin1_aae02 13 = .ok (.iconst 1, 1) := by decide +kernel
theorem rx_d_lat_14 : decode cJ0_isLatin1_aae02 14 = .ok (.goto 4, 3) := by decide +kernel
theorem rx_d_lat_17 : decode cJ0_isLatin1_aae02 17 = .ok (.iconst 0, 1) := by decide +kernel
theorem rx_d_lat_18 : decode cJ0_isLatin1_aae02 18 = .ok (.ireturn, 1) := by decide +kernel
theorem rx_d_ca_0 : decode cJ0_charAt_5068e 0 = .ok (.aload_n 0, 1) := by decide +kernel
theorem rx_d_ca_1 : decode cJ0_charAt_5068e 1 = .ok (.invokevirtual 492, 3) := by decide +kernel
theorem rx_d_ca_4 : decode cJ0_charAt_5068e 4 = .ok (.ifCond .eq 12, 3) := by decide +kernel
theorem rx_d_ca_7 : decode cJ0_charAt_5068e 7 = .ok (.aload_n 0, 1) := by decide +kernel
theorem rx_d_ca_8 : decode cJ0_charAt_5068e 8 = .ok (.getfield 9, 3) := by decide +kernel
theorem rx_d_ca_11 : decode cJ0_charAt_5068e 11 = .ok (.iload_n 1, 1) := by decide +kernel
theorem rx_d_ca_12 : decode cJ0_charAt_5068e 12 = .ok (.invokestatic 495, 3) := by decide +kernel
theorem rx_d_ca_15 : decode cJ0_charAt_5068e 15 = .ok (.ireturn, 1) := by decide +kernel
theorem rx_d_ca_16 : decode cJ0_charAt_5068e 16 = .ok (.aload_n 0, 1) := by decide +kernel
theorem rx_d_ca_17 : decode cJ0_charAt_5068e 17 = .ok (.getfield 9, 3) := by decide +kernel
theorem rx_d_ca_20 : decode cJ0_charAt_5068e 20 = .ok (.iload_n 1, 1) := by decide +kernel
theorem rx_d_ca_21 : decode cJ0_charAt_5068e 21 = .ok (.invokestatic 498, 3) := by decide +kernel
theorem rx_d_ca_24 : decode cJ0_charAt_5068e 24 = .ok (.ireturn, 1) := by decide +kernel
theorem rx_d_ci_0 : decode cJ0_checkIndex_df160 0 = .ok (.iload_n 0, 1) := by decide +kernel
theorem rx_d_ci_1 : decode cJ0_checkIndex_df160 1 = .ok (.iload_n 1, 1) := by decide +kernel
theorem rx_d_ci_2 : decode cJ0_checkIndex_df160 2 = .ok (.getstatic 1053, 3) := by decide +kernel
theorem rx_d_ci_5 : decode cJ0_checkIndex_df160 5 = .ok (.invokestatic 1059, 3) := by decide +kernel
theorem rx_d_ci_8 : decode cJ0_checkIndex_df160 8 = .ok (.pop, 1) := by decide +kernel
theorem rx_d_ci_9 : decode cJ0_checkIndex_df160 9 = .ok (.return_, 1) := by decide +kernel
theorem rx_d_lca_0 : decode cJ1_charAt_3b067 0 = .ok (.iload_n 1, 1) := by decide +kernel
theorem rx_d_lca_1 : decode cJ1_charAt_3b067 1 = .ok (.aload_n 0, 1) := by decide +kernel
theorem rx_d_lca_2 : decode cJ1_charAt_3b067 2 = .ok (.arraylength, 1) := by decide +kernel
theorem rx_d_lca_3 : decode cJ1_charAt_3b067 3 = .ok (.invokestatic 9, 3) := by decide +kernel
theorem rx_d_lca_6 : decode cJ1_charAt_3b067 6 = .ok (.aload_n 0, 1) := by decide +kernel
theorem rx_d_lca_7 : decode cJ1_charAt_3b067 7 = .ok (.iload_n 1, 1) := by decide +kernel
theorem rx_d_lca_8 : decode cJ1_charAt_3b067 8 = .ok (.baload, 1) := by decide +kernel
theorem rx_d_lca_9 : decode cJ1_charAt_3b067 9 = .ok (.sipush 255, 3) := by decide +kernel
theorem rx_d_lca_12 : decode cJ1_charAt_3b067 12 = .ok (.iand, 1) := by decide +kernel
theorem rx_d_lca_13 : decode cJ1_charAt_3b067 13 = .ok (.i2c, 1) := by decide +kernel
theorem rx_d_lca_14 : decode cJ1_charAt_3b067 14 = .ok (.ireturn, 1) := by decide +kernel
theorem rx_d_pci_0 : decode cJ3_checkIndex_8e157 0 = .ok (.iload_n 0, 1) := by decide +kernel
theorem rx_d_pci_1 : decode cJ3_checkIndex_8e157 1 = .ok (.ifCond .lt 8, 3) := by decide +kernel
theorem rx_d_pci_4 : decode cJ3_checkIndex_8e157 4 = .ok (.iload_n 0, 1) := by decide +kernel
theorem rx_d_pci_5 : decode cJ3_checkIndex_8e157 5 = .ok (.iload_n 1, 1) := by decide +kernel
theorem rx_d_pci_6 : decode cJ3_checkIndex_8e157 6 = .ok (.if_icmp .lt 10, 3) := by decide +kernel
theorem rx_d_pci_9 : decode cJ3_checkIndex_8e157 9 = .ok (.aload_n 2, 1) := by decide +kernel
theorem rx_d_pci_10 : decode cJ3_checkIndex_8e157 10 = .ok (.iload_n 0, 1) := by decide +kernel
theorem rx_d_pci_11 : decode cJ3_checkIndex_8e157 11 = .ok (.iload_n 1, 1) := by decide +kernel
theorem rx_d_pci_12 : decode cJ3_checkIndex_8e157 12 = .ok (.invokestatic 95, 3) := by decide +kernel
theorem rx_d_pci_16 : decode cJ3_checkIndex_8e157 16 = .ok (.iload_n 0, 1) := by decide +kernel
theorem rx_d_pci_17 : decode cJ3_checkIndex_8e157 17 = .ok (.ireturn, 1) := by decide +kernel
end
