theorem axt_0 : ax_tabB (rx_cd rxm_0) axm_0 = true := by decide +kernel
theorem axr_0 (hP : ∀ q ∈ rx_P, rx_QW q ∧ rx_ST rx_P (rx_DF, rx_FK) q) {l : Launch} {cy : Nat → ClassId} {D : va_G} : ax_Row ax_wC ax_XC rx_P ax_APC l cy D rxm_0 (axm_0, axc_0) := fun hr => ⟨ax_tabB_ok axt_0, fun hL => ax_con_nil⟩
theorem axt_1 : ax_tabB (rx_cd rxm_1) axm_1 = true := by decide +kernel
theorem axr_1 (hP : ∀ q ∈ rx_P, rx_QW q ∧ rx_ST rx_P (rx_DF, rx_FK) q) {l : Launch} {cy : Nat → ClassId} {D : va_G} : ax_Row ax_wC ax_XC rx_P ax_APC l cy D rxm_1 (axm_1, axc_1) := fun hr => ⟨ax_tabB_ok axt_1, fun hL => ax_con_nil⟩
theorem axt_2 : ax_tabB (rx_cd rxm_2) axm_2 = true := by decide +kernel
/-- TurnNet$Graph.useRow: 555 steps -/
theorem axk_2_0 : ax_chk ax_wC rx_P (rx_DF, rx_FK) ax_APC (rx_n rxm_2) axm_2 (([3, 7, 11], (3, [(0, 2147483648, 2147483657), (0, 2147483648, 2147483657), (2, 5, 0)], [], [], [])), [(35, 999)], [([2], (3, [(0, 2147483648, 2147483657), (0, 2147483648, 2147483657), (2, 5, 0)], [], [], []))]) [] [5] 3000 1 (([((5, 1, 4, ([3, 7, 11, 15, 19, 2], (5, [(0, 2147483648, 2147483658), (0, 2147483648, 2147483657), (0, 2147483648, 2147483657), (0, 2147483648, 2147483657), (2, 5, 0)], [], [], []))), ())] : List ((Nat × Nat × Nat × ax_T) × ax_Tr 0)) : ax_Tr 1) = true := by decide +kernel
theorem axr_2 (hP : ∀ q ∈ rx_P, rx_QW q ∧ rx_ST rx_P (rx_DF, rx_FK) q) {l : Launch} {cy : Nat → ClassId} {D : va_G} : ax_Row ax_wC ax_XC rx_P ax_APC l cy D rxm_2 (axm_2, axc_2) := fun hr => ⟨ax_tabB_ok axt_2, fun hL => ax_con_cons (ax_chk_ok hP ax_XC_ok hr hL (ax_tabB_ok axt_2) ax_ro_nil axk_2_0) (ax_con_nil)⟩
theorem axt_3 : ax_tabB (rx_cd rxm_3) axm_3 = true := by decide +kernel
theorem axs_3 : ∀ x ∈ ([axu_hsC] : List ax_RL), ax_RO ax_wC ax_XC x := ax_ro_cons axq_hsC (ax_ro_nil)
/-- TurnNet$History.clear: 21 steps -/
theorem axk_3_0 : ax_chk ax_wC rx_P (rx_DF, rx_FK) ax_APC (rx_n rxm_3) axm_3 (([206], (0, [], [], [], [])), [(9, 2), (9, 3)], [([2], (0, [], [], [], [(0, [80])]))]) [axu_hsC] [] 3000 0 (() : ax_Tr 0) = true := by decide +kernel
theorem axr_3 (hP : ∀ q ∈ rx_P, rx_QW q ∧ rx_ST rx_P (rx_DF, rx_FK) q) {l : Launch} {cy : Nat → ClassId} {D : va_G} : ax_Row ax_wC ax_XC rx_P ax_APC l cy D rxm_3 (axm_3, axc_3) := fun hr => ⟨ax_tabB_ok axt_3, fun hL => ax_con_cons (ax_chk_ok hP ax_XC_ok hr hL (ax_tabB_ok axt_3) axs_3 axk_3_0) (ax_con_nil)⟩
theorem axt_4 : ax_tabB (rx_cd rxm_4) axm_4 = true := by decide +kernel
theorem axr_4 (hP : ∀ q ∈ rx_P, rx_QW q ∧ rx_ST rx_P (rx_DF, rx_FK) q) {l : Launch} {cy : Nat → ClassId} {D : va_G} : ax_Row ax_wC ax_XC rx_P ax_APC l cy D rxm_4 (axm_4, axc_4) := fun hr => ⟨ax_tabB_ok axt_4, fun hL => ax_con_nil⟩
theorem axt_5 : ax_tabB (rx_cd rxm_5) axm_5 = true := by decide +kernel
theorem axr_5 (hP : ∀ q ∈ rx_P, rx_QW q ∧ rx_ST rx_P (rx_DF, rx_FK) q) {l : Launch} {cy : Nat → ClassId} {D : va_G} : ax_Row ax_wC ax_XC rx_P ax_APC l cy D rxm_5 (axm_5, axc_5) := fun hr => ⟨ax_tabB_ok axt_5, fun hL => ax_con_nil⟩
theorem axt_6 : ax_tabB (rx_cd rxm_6) axm_6 = true := by decide +kernel
theorem axr_6 (hP : ∀ q ∈ rx_P, rx_QW q ∧ rx_ST rx_P (rx_DF, rx_FK) q) {l : Launch} {cy : Nat → ClassId} {D : va_G} : ax_Row ax_wC ax_XC rx_P ax_APC l cy D rxm_6 (axm_6, axc_6) := fun hr => ⟨ax_tabB_ok axt_6, fun hL => ax_con_nil⟩
theorem axt_7 : ax_tabB (rx_cd rxm_7) axm_7 = true := by decide +kernel
theorem axr_7 (hP : ∀ q ∈ rx_P, rx_QW q ∧ rx_ST rx_P (rx_DF, rx_FK) q) {l : Launch} {cy : Nat → ClassId} {D : va_G} : ax_Row ax_wC ax_XC rx_P ax_APC l cy D rxm_7 (axm_7, axc_7) := fun hr => ⟨ax_tabB_ok axt_7, fun hL => ax_con_nil⟩
theorem axt_8 : ax_tabB (rx_cd rxm_8) axm_8 = true := by decide +kernel
theorem axr_8 (hP : ∀ q ∈ rx_P, rx_QW q ∧ rx_ST rx_P (rx_DF, rx_FK) q) {l : Launch} {cy : Nat → ClassId} {D : va_G} : ax_Row ax_wC ax_XC rx_P ax_APC l cy D rxm_8 (axm_8, axc_8) := fun hr => ⟨ax_tabB_ok axt_8, fun hL => ax_con_nil⟩
theorem axt_9 : ax_tabB (rx_cd rxm_9) axm_9 = true := by decide +kernel
theorem axr_9 (hP : ∀ q ∈ rx_P, rx_QW q ∧ rx_ST rx_P (rx_DF, rx_FK) q) {l : Launch} {cy : Nat → ClassId} {D : va_G} : ax_Row ax_wC ax_XC rx_P ax_APC l cy D rxm_9 (axm_9, axc_9) := fun hr => ⟨ax_tabB_ok axt_9, fun hL => ax_con_nil⟩
theorem axt_10 : ax_tabB (rx_cd rxm_10) axm_10 = true := by decide +kernel
theorem axr_10 (hP : ∀ q ∈ rx_P, rx_QW q ∧ rx_ST rx_P (rx_DF, rx_FK) q) {l : Launch} {cy : Nat → ClassId} {D : va_G} : ax_Row ax_wC ax_XC rx_P ax_APC l cy D rxm_10 (axm_10, axc_10) := fun hr => ⟨ax_tabB_ok axt_10, fun hL => ax_con_nil⟩
theorem axt_11 : ax_tabB (rx_cd rxm_11) axm_11 = true := by decide +kernel
theorem axr_11 (hP : ∀ q ∈ rx_P, rx_QW q ∧ rx_ST rx_P (rx_DF, rx_FK) q) {l : Launch} {cy : Nat → ClassId} {D : va_G} : ax_Row ax_wC ax_XC rx_P ax_APC l cy D rxm_11 (axm_11, axc_11) := fun hr => ⟨ax_tabB_ok axt_11, fun hL => ax_con_nil⟩
theorem axt_12 : ax_tabB (rx_cd rxm_12) axm_12 = true := by decide +kernel
theorem axr_12 (hP : ∀ q ∈ rx_P, rx_QW q ∧ rx_ST rx_P (rx_DF, rx_FK) q) {l : Launch} {cy : Nat → ClassId} {D : va_G} : ax_Row ax_wC ax_XC rx_P ax_APC l cy D rxm_12 (axm_12, axc_12) := fun hr => ⟨ax_tabB_ok axt_12, fun hL => ax_con_nil⟩
theorem axt_13 : ax_tabB (rx_cd rxm_13) axm_13 = true := by decide +kernel
theorem axr_13 (hP : ∀ q ∈ rx_P, rx_QW q ∧ rx_ST rx_P (rx_DF, rx_FK) q) {l : Launch} {cy : Nat → ClassId} {D : va_G} : ax_Row ax_wC ax_XC rx_P ax_APC l cy D rxm_13 (axm_13, axc_13) := fun hr => ⟨ax_tabB_ok axt_13, fun hL => ax_con_nil⟩
theorem axt_14 : ax_tabB (rx_cd rxm_14) axm_14 = true := by decide +kernel
theorem axr_14 (hP : ∀ q ∈ rx_P, rx_QW q ∧ rx_ST rx_P (rx_DF, rx_FK) q) {l : Launch} {cy : Nat → ClassId} {D : va_G} : ax_Row ax_wC ax_XC rx_P ax_APC l cy D rxm_14 (axm_14, axc_14) := fun hr => ⟨ax_tabB_ok axt_14, fun hL => ax_con_nil⟩
theorem axt_15 : ax_tabB (rx_cd rxm_15) axm_15 = true := by decide +kernel
theorem axr_15 (hP : ∀ q ∈ rx_P, rx_QW q ∧ rx_ST rx_P (rx_DF, rx_FK) q) {l : Launch} {cy : Nat → ClassId} {D : va_G} : ax_Row ax_wC ax_XC rx_P ax_APC l cy D rxm_15 (axm_15, axc_15) := fun hr => ⟨ax_tabB_ok axt_15, fun hL => ax_con_nil⟩
theorem axt_16 : ax_tabB (rx_cd rxm_16) axm_16 = true := by decide +kernel
theorem axr_16 (hP : ∀ q ∈ rx_P, rx_QW q ∧ rx_ST rx_P (rx_DF, rx_FK) q) {l : Launch} {cy : Nat → ClassId} {D : va_G} : ax_Row ax_wC ax_XC rx_P ax_APC l cy D rxm_16 (axm_16, axc_16) := fun hr => ⟨ax_tabB_ok axt_16, fun hL => ax_con_nil⟩
theorem axt_17 : ax_tabB (rx_cd rxm_17) axm_17 = true := by decide +kernel
theorem axr_17 (hP : ∀ q ∈ rx_P, rx_QW q ∧ rx_ST rx_P (rx_DF, rx_FK) q) {l : Launch} {cy : Nat → ClassId} {D : va_G} : ax_Row ax_wC ax_XC rx_P ax_APC l cy D rxm_17 (axm_17, axc_17) := fun hr => ⟨ax_tabB_ok axt_17, fun hL => ax_con_nil⟩
theorem axt_18 : ax_tabB (rx_cd rxm_18) axm_18 = true := by decide +kernel
theorem axr_18 (hP : ∀ q ∈ rx_P, rx_QW q ∧ rx_ST rx_P (rx_DF, rx_FK) q) {l : Launch} {cy : Nat → ClassId} {D : va_G} : ax_Row ax_wC ax_XC rx_P ax_APC l cy D rxm_18 (axm_18, axc_18) := fun hr => ⟨ax_tabB_ok axt_18, fun hL => ax_con_nil⟩
theorem axt_19 : ax_tabB (rx_cd rxm_19) axm_19 = true := by decide +kernel
/-- TurnNet$Planner.phaseOf: 186 steps -/
theorem axk_19_0 : ax_chk ax_wC rx_P (rx_DF, rx_FK) ax_APC (rx_n rxm_19) axm_19 (([3, 7], (2, [(0, 0, 4294967295), (2, 7, 0)], [], [], [])), [], [([11], (3, [(0, 2147483647, 2147483667), (0, 0, 4294967295), (2, 7, 0)], [], [], []))]) [] [2] 3000 1 (([((2, 1, 2, ([3, 7, 11], (3, [(0, 2147483648, 2147483668), (0, 0, 4294967295), (2, 7, 0)], [], [], []))), ())] : List ((Nat × Nat × Nat × ax_T) × ax_Tr 0)) : ax_Tr 1) = true := by decide +kernel
theorem axr_19 (hP : ∀ q ∈ rx_P, rx_QW q ∧ rx_ST rx_P (rx_DF, rx_FK) q) {l : Launch} {cy : Nat → ClassId} {D : va_G} : ax_Row ax_wC ax_XC rx_P ax_APC l cy D rxm_19 (axm_19, axc_19) := fun hr => ⟨ax_tabB_ok axt_19, fun hL => ax_con_cons (ax_chk_ok hP ax_XC_ok hr hL (ax_tabB_ok axt_19) ax_ro_nil axk_19_0) (ax_con_nil)⟩
theorem axt_20 : ax_tabB (rx_cd rxm_20) axm_20 = true := by decide +kernel
theorem axr_20 (hP : ∀ q ∈ rx_P, rx_QW q ∧ rx_ST rx_P (rx_DF, rx_FK) q) {l : Launch} {cy : Nat → ClassId} {D : va_G} : ax_Row ax_wC ax_XC rx_P ax_APC l cy D rxm_20 (axm_20, axc_20) := fun hr => ⟨ax_tabB_ok axt_20, fun hL => ax_con_nil⟩
theorem axt_21 : ax_tabB (rx_cd rxm_21) axm_21 = true := by decide +kernel
theorem axr_21 (hP : ∀ q ∈ rx_P, rx_QW q ∧ rx_ST rx_P (rx_DF, rx_FK) q) {l : Launch} {cy : Nat → ClassId} {D : va_G} : ax_Row ax_wC ax_XC rx_P ax_APC l cy D rxm_21 (axm_21, axc_21) := fun hr => ⟨ax_tabB_ok axt_21, fun hL => ax_con_nil⟩
theorem axt_22 : ax_tabB (rx_cd rxm_22) axm_22 = true := by decide +kernel
theorem axr_22 (hP : ∀ q ∈ rx_P, rx_QW q ∧ rx_ST rx_P (rx_DF, rx_FK) q) {l : Launch} {cy : Nat → ClassId} {D : va_G} : ax_Row ax_wC ax_XC rx_P ax_APC l cy D rxm_22 (axm_22, axc_22) := fun hr => ⟨ax_tabB_ok axt_22, fun hL => ax_con_nil⟩
theorem axt_23 : ax_tabB (rx_cd rxm_23) axm_23 = true := by decide +kernel
theorem axr_23 (hP : ∀ q ∈ rx_P, rx_QW q ∧ rx_ST rx_P (rx_DF, rx_FK) q) {l : Launch} {cy : Nat → ClassId} {D : va_G} : ax_Row ax_wC ax_XC rx_P ax_APC l cy D rxm_23 (axm_23, axc_23) := fun hr => ⟨ax_tabB_ok axt_23, fun hL => ax_con_nil⟩
theorem axt_24 : ax_tabB (rx_cd rxm_24) axm_24 = true := by decide +kernel
theorem axr_24 (hP : ∀ q ∈ rx_P, rx_QW q ∧ rx_ST rx_P (rx_DF, rx_FK) q) {l : Launch} {cy : Nat → ClassId} {D : va_G} : ax_Row ax_wC ax_XC rx_P ax_APC l cy D rxm_24 (axm_24, axc_24) := fun hr => ⟨ax_tabB_ok axt_24, fun hL => ax_con_nil⟩
theorem axt_25 : ax_tabB (rx_cd rxm_25) axm_25 = true := by decide +kernel
theorem axr_25 (hP : ∀ q ∈ rx_P, rx_QW q ∧ rx_ST rx_P (rx_DF, rx_FK) q) {l : Launch} {cy : Nat → ClassId} {D : va_G} : ax_Row ax_wC ax_XC rx_P ax_APC l cy D rxm_25 (axm_25, axc_25) := fun hr => ⟨ax_tabB_ok axt_25, fun hL => ax_con_nil⟩
theorem axt_26 : ax_tabB (rx_cd rxm_26) axm_26 = true := by decide +kernel
theorem axr_26 (hP : ∀ q ∈ rx_P, rx_QW q ∧ rx_ST rx_P (rx_DF, rx_FK) q) {l : Launch} {cy : Nat → ClassId} {D : va_G} : ax_Row ax_wC ax_XC rx_P ax_APC l cy D rxm_26 (axm_26, axc_26) := fun hr => ⟨ax_tabB_ok axt_26, fun hL => ax_con_nil⟩
theorem axt_27 : ax_tabB (rx_cd rxm_27) axm_27 = true := by decide +kernel
theorem axr_27 (hP : ∀ q ∈ rx_P, rx_QW q ∧ rx_ST rx_P (rx_DF, rx_FK) q) {l : Launch} {cy : Nat → ClassId} {D : va_G} : ax_Row ax_wC ax_XC rx_P ax_APC l cy D rxm_27 (axm_27, axc_27) := fun hr => ⟨ax_tabB_ok axt_27, fun hL => ax_con_nil⟩
theorem axt_28 : ax_tabB (rx_cd rxm_28) axm_28 = true := by decide +kernel
/-- TurnNet$State.begin: 175 steps -/
theorem axk_28_0 : ax_chk ax_wC rx_P (rx_DF, rx_FK) ax_APC (rx_n rxm_28) axm_28 (([3, 7, 11, 15], (4, [(0, 0, 4294967295), (0, 0, 4294967295), (0, 2147483648, 2147483657), (2, 10, 0)], [], [], [])), [(10, 0), (10, 1), (10, 2), (10, 3), (40, 999)], [([2], (4, [(0, 0, 4294967295), (0, 0, 4294967295), (0, 2147483648, 2147483657), (2, 10, 0)], [], [], []))]) [] [23] 3000 1 (([((23, 1, 4, ([3, 7, 11, 15, 19], (5, [(0, 2147483648, 2147483660), (0, 0, 4294967295), (0, 0, 4294967295), (0, 2147483648, 2147483657), (2, 10, 0)], [(3, 12, 0), (3, 8, 15), (3, 4, 11), (3, 0, 7)], [], []))), ())] : List ((Nat × Nat × Nat × ax_T) × ax_Tr 0)) : ax_Tr 1) = true := by decide +kernel
theorem axr_28 (hP : ∀ q ∈ rx_P, rx_QW q ∧ rx_ST rx_P (rx_DF, rx_FK) q) {l : Launch} {cy : Nat → ClassId} {D : va_G} : ax_Row ax_wC ax_XC rx_P ax_APC l cy D rxm_28 (axm_28, axc_28) := fun hr => ⟨ax_tabB_ok axt_28, fun hL => ax_con_cons (ax_chk_ok hP ax_XC_ok hr hL (ax_tabB_ok axt_28) ax_ro_nil axk_28_0) (ax_con_nil)⟩
theorem axt_29 : ax_tabB (rx_cd rxm_29) axm_29 = true := by decide +kernel
/-- TurnNet$State.countAt: 348 steps -/
theorem axk_29_0 : ax_chk ax_wC rx_P (rx_DF, rx_FK) ax_APC (rx_n rxm_29) axm_29 (([3, 7], (2, [(0, 0, 4294967295), (2, 10, 0)], [], [], [])), [], [([11], (3, [(0, 0, 4294967295), (0, 0, 4294967295), (2, 10, 0)], [], [], []))]) [] [4] 3000 1 (([((4, 1, 3, ([3, 7, 11, 15], (4, [(0, 2147483648, 2147483660), (0, 0, 4294967295), (0, 0, 4294967295), (2, 10, 0)], [], [], []))), ())] : List ((Nat × Nat × Nat × ax_T) × ax_Tr 0)) : ax_Tr 1) = true := by decide +kernel
theorem axr_29 (hP : ∀ q ∈ rx_P, rx_QW q ∧ rx_ST rx_P (rx_DF, rx_FK) q) {l : Launch} {cy : Nat → ClassId} {D : va_G} : ax_Row ax_wC ax_XC rx_P ax_APC l cy D rxm_29 (axm_29, axc_29) := fun hr => ⟨ax_tabB_ok axt_29, fun hL => ax_con_cons (ax_chk_ok hP ax_XC_ok hr hL (ax_tabB_ok axt_29) ax_ro_nil axk_29_0) (ax_con_nil)⟩
theorem axt_30 : ax_tabB (rx_cd rxm_30) axm_30 = true := by decide +kernel
/-- TurnNet$State.countCameBy: 516 steps -/
theorem axk_30_0 : ax_chk ax_wC rx_P (rx_DF, rx_FK) ax_APC (rx_n rxm_30) axm_30 (([3, 7], (2, [(0, 0, 4294967295), (2, 10, 0)], [], [], [])), [], [([11], (3, [(0, 0, 4294967295), (0, 0, 4294967295), (2, 10, 0)], [], [], []))]) [] [4] 3000 1 (([((4, 1, 3, ([3, 7, 11, 15], (4, [(0, 2147483648, 2147483660), (0, 0, 4294967295), (0, 0, 4294967295), (2, 10, 0)], [], [], []))), ())] : List ((Nat × Nat × Nat × ax_T) × ax_Tr 0)) : ax_Tr 1) = true := by decide +kernel
theorem axr_30 (hP : ∀ q ∈ rx_P, rx_QW q ∧ rx_ST rx_P (rx_DF, rx_FK) q) {l : Launch} {cy : Nat → ClassId} {D : va_G} : ax_Row ax_wC ax_XC rx_P ax_APC l cy D rxm_30 (axm_30, axc_30) := fun hr => ⟨ax_tabB_ok axt_30, fun hL => ax_con_cons (ax_chk_ok hP ax_XC_ok hr hL (ax_tabB_ok axt_30) ax_ro_nil axk_30_0) (ax_con_nil)⟩
theorem axt_31 : ax_tabB (rx_cd rxm_31) axm_31 = true := by decide +kernel
/-- TurnNet$State.countPackets: 348 steps -/
theorem axk_31_0 : ax_chk ax_wC rx_P (rx_DF, rx_FK) ax_APC (rx_n rxm_31) axm_31 (([3], (1, [(2, 10, 0)], [], [], [])), [], [([7], (2, [(0, 0, 4294967295), (2, 10, 0)], [], [], []))]) [] [4] 3000 1 (([((4, 1, 2, ([3, 7, 11], (3, [(0, 2147483648, 2147483660), (0, 0, 4294967295), (2, 10, 0)], [], [], []))), ())] : List ((Nat × Nat × Nat × ax_T) × ax_Tr 0)) : ax_Tr 1) = true := by decide +kernel
theorem axr_31 (hP : ∀ q ∈ rx_P, rx_QW q ∧ rx_ST rx_P (rx_DF, rx_FK) q) {l : Launch} {cy : Nat → ClassId} {D : va_G} : ax_Row ax_wC ax_XC rx_P ax_APC l cy D rxm_31 (axm_31, axc_31) := fun hr => ⟨ax_tabB_ok axt_31, fun hL => ax_con_cons (ax_chk_ok hP ax_XC_ok hr hL (ax_tabB_ok axt_31) ax_ro_nil axk_31_0) (ax_con_nil)⟩
theorem axt_32 : ax_tabB (rx_cd rxm_32) axm_32 = true := by decide +kernel
/-- TurnNet$State.freePacket: 150 steps -/
theorem axk_32_0 : ax_chk ax_wC rx_P (rx_DF, rx_FK) ax_APC (rx_n rxm_32) axm_32 (([3], (1, [(2, 10, 0)], [], [], [])), [], [([7], (2, [(0, 2147483647, 2147483659), (2, 10, 0)], [], [], []))]) [] [2] 3000 1 (([((2, 1, 1, ([3, 7], (2, [(0, 2147483648, 2147483660), (2, 10, 0)], [], [], []))), ())] : List ((Nat × Nat × Nat × ax_T) × ax_Tr 0)) : ax_Tr 1) = true := by decide +kernel
theorem axr_32 (hP : ∀ q ∈ rx_P, rx_QW q ∧ rx_ST rx_P (rx_DF, rx_FK) q) {l : Launch} {cy : Nat → ClassId} {D : va_G} : ax_Row ax_wC ax_XC rx_P ax_APC l cy D rxm_32 (axm_32, axc_32) := fun hr => ⟨ax_tabB_ok axt_32, fun hL => ax_con_cons (ax_chk_ok hP ax_XC_ok hr hL (ax_tabB_ok axt_32) ax_ro_nil axk_32_0) (ax_con_nil)⟩
theorem axt_33 : ax_tabB (rx_cd rxm_33) axm_33 = true := by decide +kernel
theorem axr_33 (hP : ∀ q ∈ rx_P, rx_QW q ∧ rx_ST rx_P (rx_DF, rx_FK) q) {l : Launch} {cy : Nat → ClassId} {D : va_G} : ax_Row ax_wC ax_XC rx_P ax_APC l cy D rxm_33 (axm_33, axc_33) := fun hr => ⟨ax_tabB_ok axt_33, fun hL => ax_con_nil⟩
theorem axt_34 : ax_tabB (rx_cd rxm_34) axm_34 = true := by decide +kernel
theorem axr_34 (hP : ∀ q ∈ rx_P, rx_QW q ∧ rx_ST rx_P (rx_DF, rx_FK) q) {l : Launch} {cy : Nat → ClassId} {D : va_G} : ax_Row ax_wC ax_XC rx_P ax_APC l cy D rxm_34 (axm_34, axc_34) := fun hr => ⟨ax_tabB_ok axt_34, fun hL => ax_con_nil⟩
theorem axt_35 : ax_tabB (rx_cd rxm_35) axm_35 = true := by decide +kernel
theorem axr_35 (hP : ∀ q ∈ rx_P, rx_QW q ∧ rx_ST rx_P (rx_DF, rx_FK) q) {l : Launch} {cy : Nat → ClassId} {D : va_G} : ax_Row ax_wC ax_XC rx_P ax_APC l cy D rxm_35 (axm_35, axc_35) := fun hr => ⟨ax_tabB_ok axt_35, fun hL => ax_con_nil⟩
theorem axt_36 : ax_tabB (rx_cd rxm_36) axm_36 = true := by decide +kernel
theorem axr_36 (hP : ∀ q ∈ rx_P, rx_QW q ∧ rx_ST rx_P (rx_DF, rx_FK) q) {l : Launch} {cy : Nat → ClassId} {D : va_G} : ax_Row ax_wC ax_XC rx_P ax_APC l cy D rxm_36 (axm_36, axc_36) := fun hr => ⟨ax_tabB_ok axt_36, fun hL => ax_con_nil⟩
theorem axt_37 : ax_tabB (rx_cd rxm_37) axm_37 = true := by decide +kernel
theorem axr_37 (hP : ∀ q ∈ rx_P, rx_QW q ∧ rx_ST rx_P (rx_DF, rx_FK) q) {l : Launch} {cy : Nat → ClassId} {D : va_G} : ax_Row ax_wC ax_XC rx_P ax_APC l cy D rxm_37 (axm_37, axc_37) := fun hr => ⟨ax_tabB_ok axt_37, fun hL => ax_con_nil⟩
theorem axt_38 : ax_tabB (rx_cd rxm_38) axm_38 = true := by decide +kernel
theorem axr_38 (hP : ∀ q ∈ rx_P, rx_QW q ∧ rx_ST rx_P (rx_DF, rx_FK) q) {l : Launch} {cy : Nat → ClassId} {D : va_G} : ax_Row ax_wC ax_XC rx_P ax_APC l cy D rxm_38 (axm_38, axc_38) := fun hr => ⟨ax_tabB_ok axt_38, fun hL => ax_con_nil⟩
theorem axt_39 : ax_tabB (rx_cd rxm_39) axm_39 = true := by decide +kernel
/-- TurnNet.end: 45 steps -/
theorem axk_39_1 : ax_chk ax_wC rx_P (rx_DF, rx_FK) ax_APC (rx_n rxm_39) axm_39 (([10, 3], (2, [(0, 2147483648, 2147484448), (0, 2147483648, 4294967295)], [(42, 4, 7)], [], [(0, [80])])), [(2, 1)], [([17179869180], (2, [(0, 2147483648, 2147484448), (0, 2147483648, 4294967295)], [(42, 4, 7)], [], [(0, [80]), (1024, [3, 7])])), ([3], (2, [(0, 2147483648, 2147484448), (0, 2147483648, 4294967295)], [(42, 4, 3)], [], [(0, [80]), (1025, [3, 7])]))]) [] [] 3000 0 (() : ax_Tr 0) = true := by decide +kernel
/-- TurnNet.end: 12 steps -/
theorem axk_39_0 : ax_chk ax_wC rx_P (rx_DF, rx_FK) ax_APC (rx_n rxm_39) axm_39 (([10, 3], (2, [(0, 2147483648, 2147484448), (0, 0, 2147483647)], [(42, 4, 7)], [], [(0, [80])])), [], [([17179869180], (2, [(0, 2147483648, 2147484448), (0, 0, 2147483647)], [(42, 4, 7)], [], [(0, [80])]))]) [] [] 3000 0 (() : ax_Tr 0) = true := by decide +kernel
theorem axr_39 (hP : ∀ q ∈ rx_P, rx_QW q ∧ rx_ST rx_P (rx_DF, rx_FK) q) {l : Launch} {cy : Nat → ClassId} {D : va_G} : ax_Row ax_wC ax_XC rx_P ax_APC l cy D rxm_39 (axm_39, axc_39) := fun hr => ⟨ax_tabB_ok axt_39, fun hL => ax_con_cons (ax_chk_ok hP ax_XC_ok hr hL (ax_tabB_ok axt_39) ax_ro_nil axk_39_0) (ax_con_cons (ax_chk_ok hP ax_XC_ok hr hL (ax_tabB_ok axt_39) ax_ro_nil axk_39_1) (ax_con_nil))⟩
theorem axt_40 : ax_tabB (rx_cd rxm_40) axm_40 = true := by decide +kernel
/-- TurnNet.fault: 63 steps -/
theorem axk_40_0 : ax_chk ax_wC rx_P (rx_DF, rx_FK) ax_APC (rx_n rxm_40) axm_40 (([3, 7], (2, [(0, 0, 4294967295), (2, 0, 0)], [], [], [(0, [80])])), [], [([11], (3, [(0, 0, 4294967295), (0, 0, 4294967295), (2, 0, 0)], [], [], [(0, [80])]))]) [] [] 3000 0 (() : ax_Tr 0) = true := by decide +kernel
theorem axr_40 (hP : ∀ q ∈ rx_P, rx_QW q ∧ rx_ST rx_P (rx_DF, rx_FK) q) {l : Launch} {cy : Nat → ClassId} {D : va_G} : ax_Row ax_wC ax_XC rx_P ax_APC l cy D rxm_40 (axm_40, axc_40) := fun hr => ⟨ax_tabB_ok axt_40, fun hL => ax_con_cons (ax_chk_ok hP ax_XC_ok hr hL (ax_tabB_ok axt_40) ax_ro_nil axk_40_0) (ax_con_nil)⟩
theorem axt_41 : ax_tabB (rx_cd rxm_41) axm_41 = true := by decide +kernel
theorem axr_41 (hP : ∀ q ∈ rx_P, rx_QW q ∧ rx_ST rx_P (rx_DF, rx_FK) q) {l : Launch} {cy : Nat → ClassId} {D : va_G} : ax_Row ax_wC ax_XC rx_P ax_APC l cy D rxm_41 (axm_41, axc_41) := fun hr => ⟨ax_tabB_ok axt_41, fun hL => ax_con_nil⟩
theorem axt_42 : ax_tabB (rx_cd rxm_42) axm_42 = true := by decide +kernel
theorem axr_42 (hP : ∀ q ∈ rx_P, rx_QW q ∧ rx_ST rx_P (rx_DF, rx_FK) q) {l : Launch} {cy : Nat → ClassId} {D : va_G} : ax_Row ax_wC ax_XC rx_P ax_APC l cy D rxm_42 (axm_42, axc_42) := fun hr => ⟨ax_tabB_ok axt_42, fun hL => ax_con_nil⟩
theorem axt_43 : ax_tabB (rx_cd rxm_43) axm_43 = true := by decide +kernel
theorem axr_43 (hP : ∀ q ∈ rx_P, rx_QW q ∧ rx_ST rx_P (rx_DF, rx_FK) q) {l : Launch} {cy : Nat → ClassId} {D : va_G} : ax_Row ax_wC ax_XC rx_P ax_APC l cy D rxm_43 (axm_43, axc_43) := fun hr => ⟨ax_tabB_ok axt_43, fun hL => ax_con_nil⟩
theorem axt_44 : ax_tabB (rx_cd rxm_44) axm_44 = true := by decide +kernel
theorem axr_44 (hP : ∀ q ∈ rx_P, rx_QW q ∧ rx_ST rx_P (rx_DF, rx_FK) q) {l : Launch} {cy : Nat → ClassId} {D : va_G} : ax_Row ax_wC ax_XC rx_P ax_APC l cy D rxm_44 (axm_44, axc_44) := fun hr => ⟨ax_tabB_ok axt_44, fun hL => ax_con_nil⟩
theorem axt_45 : ax_tabB (rx_cd rxm_45) axm_45 = true := by decide +kernel
theorem axr_45 (hP : ∀ q ∈ rx_P, rx_QW q ∧ rx_ST rx_P (rx_DF, rx_FK) q) {l : Launch} {cy : Nat → ClassId} {D : va_G} : ax_Row ax_wC ax_XC rx_P ax_APC l cy D rxm_45 (axm_45, axc_45) := fun hr => ⟨ax_tabB_ok axt_45, fun hL => ax_con_nil⟩
theorem axt_46 : ax_tabB (rx_cd rxm_46) axm_46 = true := by decide +kernel
theorem axr_46 (hP : ∀ q ∈ rx_P, rx_QW q ∧ rx_ST rx_P (rx_DF, rx_FK) q) {l : Launch} {cy : Nat → ClassId} {D : va_G} : ax_Row ax_wC ax_XC rx_P ax_APC l cy D rxm_46 (axm_46, axc_46) := fun hr => ⟨ax_tabB_ok axt_46, fun hL => ax_con_nil⟩
theorem axt_47 : ax_tabB (rx_cd rxm_47) axm_47 = true := by decide +kernel
theorem axr_47 (hP : ∀ q ∈ rx_P, rx_QW q ∧ rx_ST rx_P (rx_DF, rx_FK) q) {l : Launch} {cy : Nat → ClassId} {D : va_G} : ax_Row ax_wC ax_XC rx_P ax_APC l cy D rxm_47 (axm_47, axc_47) := fun hr => ⟨ax_tabB_ok axt_47, fun hL => ax_con_nil⟩
theorem axt_48 : ax_tabB (rx_cd rxm_48) axm_48 = true := by decide +kernel
theorem axr_48 (hP : ∀ q ∈ rx_P, rx_QW q ∧ rx_ST rx_P (rx_DF, rx_FK) q) {l : Launch} {cy : Nat → ClassId} {D : va_G} : ax_Row ax_wC ax_XC rx_P ax_APC l cy D rxm_48 (axm_48, axc_48) := fun hr => ⟨ax_tabB_ok axt_48, fun hL => ax_con_nil⟩
theorem axt_49 : ax_tabB (rx_cd rxm_49) axm_49 = true := by decide +kernel
theorem axr_49 (hP : ∀ q ∈ rx_P, rx_QW q ∧ rx_ST rx_P (rx_DF, rx_FK) q) {l : Launch} {cy : Nat → ClassId} {D : va_G} : ax_Row ax_wC ax_XC rx_P ax_APC l cy D rxm_49 (axm_49, axc_49) := fun hr => ⟨ax_tabB_ok axt_49, fun hL => ax_con_nil⟩
theorem axt_50 : ax_tabB (rx_cd rxm_50) axm_50 = true := by decide +kernel
theorem axr_50 (hP : ∀ q ∈ rx_P, rx_QW q ∧ rx_ST rx_P (rx_DF, rx_FK) q) {l : Launch} {cy : Nat → ClassId} {D : va_G} : ax_Row ax_wC ax_XC rx_P ax_APC l cy D rxm_50 (axm_50, axc_50) := fun hr => ⟨ax_tabB_ok axt_50, fun hL => ax_con_nil⟩
theorem axt_51 : ax_tabB (rx_cd rxm_51) axm_51 = true := by decide +kernel
theorem axr_51 (hP : ∀ q ∈ rx_P, rx_QW q ∧ rx_ST rx_P (rx_DF, rx_FK) q) {l : Launch} {cy : Nat → ClassId} {D : va_G} : ax_Row ax_wC ax_XC rx_P ax_APC l cy D rxm_51 (axm_51, axc_51) := fun hr => ⟨ax_tabB_ok axt_51, fun hL => ax_con_nil⟩
theorem axt_52 : ax_tabB (rx_cd rxm_52) axm_52 = true := by decide +kernel
theorem axr_52 (hP : ∀ q ∈ rx_P, rx_QW q ∧ rx_ST rx_P (rx_DF, rx_FK) q) {l : Launch} {cy : Nat → ClassId} {D : va_G} : ax_Row ax_wC ax_XC rx_P ax_APC l cy D rxm_52 (axm_52, axc_52) := fun hr => ⟨ax_tabB_ok axt_52, fun hL => ax_con_nil⟩
theorem axt_53 : ax_tabB (rx_cd rxm_53) axm_53 = true := by decide +kernel
theorem axr_53 (hP : ∀ q ∈ rx_P, rx_QW q ∧ rx_ST rx_P (rx_DF, rx_FK) q) {l : Launch} {cy : Nat → ClassId} {D : va_G} : ax_Row ax_wC ax_XC rx_P ax_APC l cy D rxm_53 (axm_53, axc_53) := fun hr => ⟨ax_tabB_ok axt_53, fun hL => ax_con_nil⟩
theorem axt_54 : ax_tabB (rx_cd rxm_54) axm_54 = true := by decide +kernel
theorem axr_54 (hP : ∀ q ∈ rx_P, rx_QW q ∧ rx_ST rx_P (rx_DF, rx_FK) q) {l : Launch} {cy : Nat → ClassId} {D : va_G} : ax_Row ax_wC ax_XC rx_P ax_APC l cy D rxm_54 (axm_54, axc_54) := fun hr => ⟨ax_tabB_ok axt_54, fun hL => ax_con_nil⟩
theorem axt_55 : ax_tabB (rx_cd rxm_55) axm_55 = true := by decide +kernel
theorem axr_55 (hP : ∀ q ∈ rx_P, rx_QW q ∧ rx_ST rx_P (rx_DF, rx_FK) q) {l : Launch} {cy : Nat → ClassId} {D : va_G} : ax_Row ax_wC ax_XC rx_P ax_APC l cy D rxm_55 (axm_55, axc_55) := fun hr => ⟨ax_tabB_ok axt_55, fun hL => ax_con_nil⟩
theorem axt_56 : ax_tabB (rx_cd rxm_56) axm_56 = true := by decide +kernel
theorem axr_56 (hP : ∀ q ∈ rx_P, rx_QW q ∧ rx_ST rx_P (rx_DF, rx_FK) q) {l : Launch} {cy : Nat → ClassId} {D : va_G} : ax_Row ax_wC ax_XC rx_P ax_APC l cy D rxm_56 (axm_56, axc_56) := fun hr => ⟨ax_tabB_ok axt_56, fun hL => ax_con_nil⟩
theorem axt_57 : ax_tabB (rx_cd rxm_57) axm_57 = true := by decide +kernel
theorem axr_57 (hP : ∀ q ∈ rx_P, rx_QW q ∧ rx_ST rx_P (rx_DF, rx_FK) q) {l : Launch} {cy : Nat → ClassId} {D : va_G} : ax_Row ax_wC ax_XC rx_P ax_APC l cy D rxm_57 (axm_57, axc_57) := fun hr => ⟨ax_tabB_ok axt_57, fun hL => ax_con_nil⟩
theorem axt_58 : ax_tabB (rx_cd rxm_58) axm_58 = true := by decide +kernel
theorem axr_58 (hP : ∀ q ∈ rx_P, rx_QW q ∧ rx_ST rx_P (rx_DF, rx_FK) q) {l : Launch} {cy : Nat → ClassId} {D : va_G} : ax_Row ax_wC ax_XC rx_P ax_APC l cy D rxm_58 (axm_58, axc_58) := fun hr => ⟨ax_tabB_ok axt_58, fun hL => ax_con_nil⟩
theorem axt_59 : ax_tabB (rx_cd rxm_59) axm_59 = true := by decide +kernel
theorem axr_59 (hP : ∀ q ∈ rx_P, rx_QW q ∧ rx_ST rx_P (rx_DF, rx_FK) q) {l : Launch} {cy : Nat → ClassId} {D : va_G} : ax_Row ax_wC ax_XC rx_P ax_APC l cy D rxm_59 (axm_59, axc_59) := fun hr => ⟨ax_tabB_ok axt_59, fun hL => ax_con_nil⟩
theorem axt_60 : ax_tabB (rx_cd rxm_60) axm_60 = true := by decide +kernel
theorem axr_60 (hP : ∀ q ∈ rx_P, rx_QW q ∧ rx_ST rx_P (rx_DF, rx_FK) q) {l : Launch} {cy : Nat → ClassId} {D : va_G} : ax_Row ax_wC ax_XC rx_P ax_APC l cy D rxm_60 (axm_60, axc_60) := fun hr => ⟨ax_tabB_ok axt_60, fun hL => ax_con_nil⟩
theorem axt_61 : ax_tabB (rx_cd rxm_61) axm_61 = true := by decide +kernel
theorem axr_61 (hP : ∀ q ∈ rx_P, rx_QW q ∧ rx_ST rx_P (rx_DF, rx_FK) q) {l : Launch} {cy : Nat → ClassId} {D : va_G} : ax_Row ax_wC ax_XC rx_P ax_APC l cy D rxm_61 (axm_61, axc_61) := fun hr => ⟨ax_tabB_ok axt_61, fun hL => ax_con_nil⟩
theorem axt_62 : ax_tabB (rx_cd rxm_62) axm_62 = true := by decide +kernel
theorem axr_62 (hP : ∀ q ∈ rx_P, rx_QW q ∧ rx_ST rx_P (rx_DF, rx_FK) q) {l : Launch} {cy : Nat → ClassId} {D : va_G} : ax_Row ax_wC ax_XC rx_P ax_APC l cy D rxm_62 (axm_62, axc_62) := fun hr => ⟨ax_tabB_ok axt_62, fun hL => ax_con_nil⟩
theorem axt_63 : ax_tabB (rx_cd rxm_63) axm_63 = true := by decide +kernel
theorem axr_63 (hP : ∀ q ∈ rx_P, rx_QW q ∧ rx_ST rx_P (rx_DF, rx_FK) q) {l : Launch} {cy : Nat → ClassId} {D : va_G} : ax_Row ax_wC ax_XC rx_P ax_APC l cy D rxm_63 (axm_63, axc_63) := fun hr => ⟨ax_tabB_ok axt_63, fun hL => ax_con_nil⟩
theorem axt_64 : ax_tabB (rx_cd rxm_64) axm_64 = true := by decide +kernel
theorem axr_64 (hP : ∀ q ∈ rx_P, rx_QW q ∧ rx_ST rx_P (rx_DF, rx_FK) q) {l : Launch} {cy : Nat → ClassId} {D : va_G} : ax_Row ax_wC ax_XC rx_P ax_APC l cy D rxm_64 (axm_64, axc_64) := fun hr => ⟨ax_tabB_ok axt_64, fun hL => ax_con_nil⟩
theorem axt_65 : ax_tabB (rx_cd rxm_65) axm_65 = true := by decide +kernel
theorem axr_65 (hP : ∀ q ∈ rx_P, rx_QW q ∧ rx_ST rx_P (rx_DF, rx_FK) q) {l : Launch} {cy : Nat → ClassId} {D : va_G} : ax_Row ax_wC ax_XC rx_P ax_APC l cy D rxm_65 (axm_65, axc_65) := fun hr => ⟨ax_tabB_ok axt_65, fun hL => ax_con_nil⟩
theorem axt_66 : ax_tabB (rx_cd rxm_66) axm_66 = true := by decide +kernel
theorem axr_66 (hP : ∀ q ∈ rx_P, rx_QW q ∧ rx_ST rx_P (rx_DF, rx_FK) q) {l : Launch} {cy : Nat → ClassId} {D : va_G} : ax_Row ax_wC ax_XC rx_P ax_APC l cy D rxm_66 (axm_66, axc_66) := fun hr => ⟨ax_tabB_ok axt_66, fun hL => ax_con_nil⟩
theorem axt_67 : ax_tabB (rx_cd rxm_67) axm_67 = true := by decide +kernel
theorem axr_67 (hP : ∀ q ∈ rx_P, rx_QW q ∧ rx_ST rx_P (rx_DF, rx_FK) q) {l : Launch} {cy : Nat → ClassId} {D : va_G} : ax_Row ax_wC ax_XC rx_P ax_APC l cy D rxm_67 (axm_67, axc_67) := fun hr => ⟨ax_tabB_ok axt_67, fun hL => ax_con_nil⟩
theorem axt_68 : ax_tabB (rx_cd rxm_68) axm_68 = true := by decide +kernel
theorem axr_68 (hP : ∀ q ∈ rx_P, rx_QW q ∧ rx_ST rx_P (rx_DF, rx_FK) q) {l : Launch} {cy : Nat → ClassId} {D : va_G} : ax_Row ax_wC ax_XC rx_P ax_APC l cy D rxm_68 (axm_68, axc_68) := fun hr => ⟨ax_tabB_ok axt_68, fun hL => ax_con_nil⟩
theorem axt_69 : ax_tabB (rx_cd rxm_69) axm_69 = true := by decide +kernel
theorem axr_69 (hP : ∀ q ∈ rx_P, rx_QW q ∧ rx_ST rx_P (rx_DF, rx_FK) q) {l : Launch} {cy : Nat → ClassId} {D : va_G} : ax_Row ax_wC ax_XC rx_P ax_APC l cy D rxm_69 (axm_69, axc_69) := fun hr => ⟨ax_tabB_ok axt_69, fun hL => ax_con_nil⟩
theorem axt_70 : ax_tabB (rx_cd rxm_70) axm_70 = true := by decide +kernel
theorem axr_70 (hP : ∀ q ∈ rx_P, rx_QW q ∧ rx_ST rx_P (rx_DF, rx_FK) q) {l : Launch} {cy : Nat → ClassId} {D : va_G} : ax_Row ax_wC ax_XC rx_P ax_APC l cy D rxm_70 (axm_70, axc_70) := fun hr => ⟨ax_tabB_ok axt_70, fun hL => ax_con_nil⟩
theorem axt_71 : ax_tabB (rx_cd rxm_71) axm_71 = true := by decide +kernel
theorem axr_71 (hP : ∀ q ∈ rx_P, rx_QW q ∧ rx_ST rx_P (rx_DF, rx_FK) q) {l : Launch} {cy : Nat → ClassId} {D : va_G} : ax_Row ax_wC ax_XC rx_P ax_APC l cy D rxm_71 (axm_71, axc_71) := fun hr => ⟨ax_tabB_ok axt_71, fun hL => ax_con_nil⟩
theorem axt_72 : ax_tabB (rx_cd rxm_72) axm_72 = true := by decide +kernel
theorem axr_72 (hP : ∀ q ∈ rx_P, rx_QW q ∧ rx_ST rx_P (rx_DF, rx_FK) q) {l : Launch} {cy : Nat → ClassId} {D : va_G} : ax_Row ax_wC ax_XC rx_P ax_APC l cy D rxm_72 (axm_72, axc_72) := fun hr => ⟨ax_tabB_ok axt_72, fun hL => ax_con_nil⟩
theorem axt_73 : ax_tabB (rx_cd rxm_73) axm_73 = true := by decide +kernel
theorem axr_73 (hP : ∀ q ∈ rx_P, rx_QW q ∧ rx_ST rx_P (rx_DF, rx_FK) q) {l : Launch} {cy : Nat → ClassId} {D : va_G} : ax_Row ax_wC ax_XC rx_P ax_APC l cy D rxm_73 (axm_73, axc_73) := fun hr => ⟨ax_tabB_ok axt_73, fun hL => ax_con_nil⟩
theorem axt_74 : ax_tabB (rx_cd rxm_74) axm_74 = true := by decide +kernel
/-- java/lang/Integer.bitCount: 126 steps -/
theorem axk_74_0 : ax_chk ax_wC rx_P (rx_DF, rx_FK) ax_APC (rx_n rxm_74) axm_74 (([3], (1, [(0, 0, 4294967295)], [], [], [])), [], [([7], (2, [(0, 2147483648, 2147483711), (0, 0, 4294967295)], [], [], []))]) [] [] 3000 0 (() : ax_Tr 0) = true := by decide +kernel
theorem axr_74 (hP : ∀ q ∈ rx_P, rx_QW q ∧ rx_ST rx_P (rx_DF, rx_FK) q) {l : Launch} {cy : Nat → ClassId} {D : va_G} : ax_Row ax_wC ax_XC rx_P ax_APC l cy D rxm_74 (axm_74, axc_74) := fun hr => ⟨ax_tabB_ok axt_74, fun hL => ax_con_cons (ax_chk_ok hP ax_XC_ok hr hL (ax_tabB_ok axt_74) ax_ro_nil axk_74_0) (ax_con_nil)⟩
theorem axt_75 : ax_tabB (rx_cd rxm_75) axm_75 = true := by decide +kernel
theorem axr_75 (hP : ∀ q ∈ rx_P, rx_QW q ∧ rx_ST rx_P (rx_DF, rx_FK) q) {l : Launch} {cy : Nat → ClassId} {D : va_G} : ax_Row ax_wC ax_XC rx_P ax_APC l cy D rxm_75 (axm_75, axc_75) := fun hr => ⟨ax_tabB_ok axt_75, fun hL => ax_con_nil⟩
theorem axt_76 : ax_tabB (rx_cd rxm_76) axm_76 = true := by decide +kernel
/-- TurnNet$Graph.findRow: 4558 steps -/
theorem axk_76_0 : ax_chk ax_wC rx_P (rx_DF, rx_FK) ax_APC (rx_n rxm_76) axm_76 (([3, 7, 11, 15], (4, [(0, 0, 4294967295), (0, 2147483648, 2147483657), (0, 2147483648, 2147483657), (2, 5, 0)], [], [], [])), [(34, 999)], [([19], (5, [(0, 2147483648, 2147483649), (0, 0, 4294967295), (0, 2147483648, 2147483657), (0, 2147483648, 2147483657), (2, 5, 0)], [], [], []))]) [] [3, 35, 58] 3000 2 (([((3, 1, 4, ([3, 7, 11, 15, 19, 2, 2, 2, 2], (5, [(0, 2147483648, 2147483667), (0, 0, 4294967295), (0, 2147483648, 2147483657), (0, 2147483648, 2147483657), (2, 5, 0)], [], [], []))), ([] : List ((Nat × Nat × Nat × ax_T) × ax_Tr 0))), ((35, 1, 5, ([3, 7, 11, 15, 19, 23, 2, 2, 2], (6, [(0, 2147483649, 2147483667), (0, 0, 2147483667), (0, 0, 4294967295), (0, 2147483648, 2147483657), (0, 2147483648, 2147483657), (2, 5, 0)], [(3, 0, 14)], [], []))), ([((58, 1, 7, ([3, 7, 11, 15, 27, 23, 31, 2, 2], (9, [(0, 2147483650, 2147483658), (0, 2147483648, 4294967295), (0, 2147483648, 2147483667), (0, 2147483649, 2147483657), (0, 0, 2147483667), (0, 0, 4294967295), (0, 2147483648, 2147483657), (0, 2147483648, 2147483657), (2, 5, 0)], [(14, 0, 35), (3, 0, 14)], [], []))), ())] : List ((Nat × Nat × Nat × ax_T) × ax_Tr 0)))] : List ((Nat × Nat × Nat × ax_T) × ax_Tr 1)) : ax_Tr 2) = true := by decide +kernel
theorem axr_76 (hP : ∀ q ∈ rx_P, rx_QW q ∧ rx_ST rx_P (rx_DF, rx_FK) q) {l : Launch} {cy : Nat → ClassId} {D : va_G} : ax_Row ax_wC ax_XC rx_P ax_APC l cy D rxm_76 (axm_76, axc_76) := fun hr => ⟨ax_tabB_ok axt_76, fun hL => ax_con_cons (ax_chk_ok hP ax_XC_ok hr hL (ax_tabB_ok axt_76) ax_ro_nil axk_76_0) (ax_con_nil)⟩
