set_option maxRecDepth 4000 in
theorem axs1_62_2 : ∀ x ∈ ([axu1_ly0, axu1_ly1, axu1_ly2, axu1_lyM, axu1_co1y, axu1_co2y] : List ax_RL), ax_RO ax_wM1 (ax_XM 1) x := ax_ro_cons axq1_ly0 (ax_ro_cons axq1_ly1 (ax_ro_cons axq1_ly2 (ax_ro_cons axq1_lyM (ax_ro_cons axq1_co1y (ax_ro_cons axq1_co2y (ax_ro_nil))))))
-- TurnNetModel.lay: 21 steps
set_option maxRecDepth 4000 in
theorem axk1_62_2 : ax_chk ax_wM1 rx_P (rx_DF, rx_FK) ax_APM1 (rx_n rxm_62) axm_62 (([702, 0, 3], (2, [(1, 0, 0), (0, 2147484656, 2147484656)], [], [], [(40, [0, 0, 8, 4, 4]), (26, []), (241, [7])])), [(50, 0), (52, 999)], [([2], (3, [(1, 0, 0), (1, 0, 0), (0, 2147484656, 2147484656)], [], [], [(40, [0, 0, 8, 0, 4]), (26, []), (241, [11]), (251, [11, 3, 7])]))]) [axu1_ly0, axu1_ly1, axu1_ly2, axu1_lyM, axu1_co1y, axu1_co2y] [] 3000 0 (() : ax_Tr 0) = true := by decide +kernel
set_option maxRecDepth 4000 in
theorem axs1_62_1 : ∀ x ∈ ([axu1_ly0, axu1_ly1, axu1_ly2, axu1_lyB, axu1_co1y, axu1_co2y] : List ax_RL), ax_RO ax_wM1 (ax_XM 1) x := ax_ro_cons axq1_ly0 (ax_ro_cons axq1_ly1 (ax_ro_cons axq1_ly2 (ax_ro_cons axq1_lyB (ax_ro_cons axq1_co1y (ax_ro_cons axq1_co2y (ax_ro_nil))))))
-- TurnNetModel.lay: 21 steps
set_option maxRecDepth 4000 in
theorem axk1_62_1 : ax_chk ax_wM1 rx_P (rx_DF, rx_FK) ax_APM1 (rx_n rxm_62) axm_62 (([702, 0, 3], (2, [(1, 0, 0), (0, 2147484651, 2147484655)], [], [], [(40, [0, 4, 4, 4, 0]), (26, []), (241, [7])])), [(50, 0), (52, 999)], [([2], (3, [(1, 0, 0), (1, 0, 0), (0, 2147484651, 2147484655)], [], [], [(40, [0, 0, 4, 0, 0]), (26, []), (241, [11]), (251, [11, 3, 7])]))]) [axu1_ly0, axu1_ly1, axu1_ly2, axu1_lyB, axu1_co1y, axu1_co2y] [] 3000 0 (() : ax_Tr 0) = true := by decide +kernel
set_option maxRecDepth 4000 in
theorem axs1_62_0 : ∀ x ∈ ([axu1_ly0, axu1_ly1, axu1_ly2, axu1_lyO, axu1_co1y, axu1_co2y] : List ax_RL), ax_RO ax_wM1 (ax_XM 1) x := ax_ro_cons axq1_ly0 (ax_ro_cons axq1_ly1 (ax_ro_cons axq1_ly2 (ax_ro_cons axq1_lyO (ax_ro_cons axq1_co1y (ax_ro_cons axq1_co2y (ax_ro_nil))))))
-- TurnNetModel.lay: 21 steps
set_option maxRecDepth 4000 in
theorem axk1_62_0 : ax_chk ax_wM1 rx_P (rx_DF, rx_FK) ax_APM1 (rx_n rxm_62) axm_62 (([702, 0, 3], (2, [(1, 0, 0), (0, 2147483648, 2147484650)], [], [], [(40, [4, 0, 4, 8, 4]), (26, []), (241, [7])])), [(50, 0), (52, 999)], [([2], (3, [(1, 0, 0), (1, 0, 0), (0, 2147483648, 2147484650)], [], [], [(40, [0, 0, 4, 0, 4]), (26, []), (241, [11]), (251, [11, 3, 7])]))]) [axu1_ly0, axu1_ly1, axu1_ly2, axu1_lyO, axu1_co1y, axu1_co2y] [] 3000 0 (() : ax_Tr 0) = true := by decide +kernel
theorem axr1_62 (hP : ∀ q ∈ rx_P, rx_QW q ∧ rx_ST rx_P (rx_DF, rx_FK) q) : ax_Row ax_wM1 (ax_XM 1) rx_P ax_APM1 rx_P (rx_DF, rx_FK) rxm_62 (axm_62, axc1_62) := fun hr => ⟨ax_tabB_ok axt_62, fun hL => ax_con_cons (ax_chk_ok hP ax_XM1_ok hr hL (ax_tabB_ok axt_62) axs1_62_0 axk1_62_0) (ax_con_cons (ax_chk_ok hP ax_XM1_ok hr hL (ax_tabB_ok axt_62) axs1_62_1 axk1_62_1) (ax_con_cons (ax_chk_ok hP ax_XM1_ok hr hL (ax_tabB_ok axt_62) axs1_62_2 axk1_62_2) (ax_con_nil)))⟩
theorem axr1_63 (hP : ∀ q ∈ rx_P, rx_QW q ∧ rx_ST rx_P (rx_DF, rx_FK) q) : ax_Row ax_wM1 (ax_XM 1) rx_P ax_APM1 rx_P (rx_DF, rx_FK) rxm_63 (axm_63, axc1_63) := fun hr => ⟨ax_tabB_ok axt_63, fun hL => ax_con_nil⟩
theorem axr1_64 (hP : ∀ q ∈ rx_P, rx_QW q ∧ rx_ST rx_P (rx_DF, rx_FK) q) : ax_Row ax_wM1 (ax_XM 1) rx_P ax_APM1 rx_P (rx_DF, rx_FK) rxm_64 (axm_64, axc1_64) := fun hr => ⟨ax_tabB_ok axt_64, fun hL => ax_con_nil⟩
-- TurnNetModel.packetsAt: 42 steps
set_option maxRecDepth 4000 in
theorem axk1_65_0 : ax_chk ax_wM1 rx_P (rx_DF, rx_FK) ax_APM1 (rx_n rxm_65) axm_65 (([702, 3], (1, [(0, 0, 4294967295)], [], [], [])), [], [([7], (2, [(0, 0, 4294967295), (0, 0, 4294967295)], [], [], []))]) [] [4] 3000 1 (([((4, 1, 2, ([702, 3, 7, 11], (3, [(0, 2147483648, 2147483660), (0, 0, 4294967295), (0, 0, 4294967295)], [], [], []))), ())] : List ((Nat × Nat × Nat × ax_T) × ax_Tr 0)) : ax_Tr 1) = true := by decide +kernel
theorem axr1_65 (hP : ∀ q ∈ rx_P, rx_QW q ∧ rx_ST rx_P (rx_DF, rx_FK) q) : ax_Row ax_wM1 (ax_XM 1) rx_P ax_APM1 rx_P (rx_DF, rx_FK) rxm_65 (axm_65, axc1_65) := fun hr => ⟨ax_tabB_ok axt_65, fun hL => ax_con_cons (ax_chk_ok hP ax_XM1_ok hr hL (ax_tabB_ok axt_65) ax_ro_nil axk1_65_0) (ax_con_nil)⟩
-- TurnNetModel.packetsNow: 20 steps
set_option maxRecDepth 4000 in
theorem axk1_66_0 : ax_chk ax_wM1 rx_P (rx_DF, rx_FK) ax_APM1 (rx_n rxm_66) axm_66 (([702], (0, [], [], [], [])), [], [([3], (1, [(0, 0, 4294967295)], [], [], []))]) [] [4] 3000 1 (([((4, 1, 1, ([702, 3, 7], (2, [(0, 2147483648, 2147483660), (0, 0, 4294967295)], [], [], []))), ())] : List ((Nat × Nat × Nat × ax_T) × ax_Tr 0)) : ax_Tr 1) = true := by decide +kernel
theorem axr1_66 (hP : ∀ q ∈ rx_P, rx_QW q ∧ rx_ST rx_P (rx_DF, rx_FK) q) : ax_Row ax_wM1 (ax_XM 1) rx_P ax_APM1 rx_P (rx_DF, rx_FK) rxm_66 (axm_66, axc1_66) := fun hr => ⟨ax_tabB_ok axt_66, fun hL => ax_con_cons (ax_chk_ok hP ax_XM1_ok hr hL (ax_tabB_ok axt_66) ax_ro_nil axk1_66_0) (ax_con_nil)⟩
set_option maxRecDepth 4000 in
theorem axs1_67_2 : ∀ x ∈ ([axu1_pu0, axu1_pu1, axu1_puB, axu1_pu4, axu1_pu5B, axu1_pu6, axu1_pu7] : List ax_RL), ax_RO ax_wM1 (ax_XM 1) x := ax_ro_cons axq1_pu0 (ax_ro_cons axq1_pu1 (ax_ro_cons axq1_puB (ax_ro_cons axq1_pu4 (ax_ro_cons axq1_pu5B (ax_ro_cons axq1_pu6 (ax_ro_cons axq1_pu7 (ax_ro_nil)))))))
-- TurnNetModel.push: 13 steps
set_option maxRecDepth 4000 in
theorem axk1_67_2 : ax_chk ax_wM1 rx_P (rx_DF, rx_FK) ax_APM1 (rx_n rxm_67) axm_67 (([702, 7], (3, [(1, 0, 0), (0, 2147484651, 2147484655), (1, 0, 0)], [], [], [(40, [0, 0, 4, 0, 0]), (196, [3]), (192, [3, 3]), (242, [11])])), [(11, 27), (55, 999)], [([2], (4, [(1, 0, 0), (1, 0, 0), (0, 2147484651, 2147484655), (1, 0, 0)], [], [], [(40, [4, 0, 4, 0, 4]), (196, [3]), (242, [15]), (251, [15, 7, 11])]))]) [axu1_pu0, axu1_pu1, axu1_puB, axu1_pu4, axu1_pu5B, axu1_pu6, axu1_pu7] [] 3000 0 (() : ax_Tr 0) = true := by decide +kernel
set_option maxRecDepth 4000 in
theorem axs1_67_1 : ∀ x ∈ ([axu1_pu0, axu1_pu1, axu1_puP, axu1_pu4, axu1_pu5M, axu1_pu6, axu1_pu7] : List ax_RL), ax_RO ax_wM1 (ax_XM 1) x := ax_ro_cons axq1_pu0 (ax_ro_cons axq1_pu1 (ax_ro_cons axq1_puP (ax_ro_cons axq1_pu4 (ax_ro_cons axq1_pu5M (ax_ro_cons axq1_pu6 (ax_ro_cons axq1_pu7 (ax_ro_nil)))))))
-- TurnNetModel.push: 13 steps
set_option maxRecDepth 4000 in
theorem axk1_67_1 : ax_chk ax_wM1 rx_P (rx_DF, rx_FK) ax_APM1 (rx_n rxm_67) axm_67 (([702, 4032], (2, [(1, 0, 0), (1, 0, 0)], [], [], [(40, [4, 0, 4, 8, 4]), (196, [3]), (242, [7])])), [(11, 27), (55, 999)], [([2], (4, [(1, 0, 0), (1, 0, 0), (1, 0, 0), (1, 0, 0)], [], [], [(40, [4, 0, 0, 4, 4]), (196, [11]), (208, [3, 11]), (242, [15]), (251, [15, 4032, 7])]))]) [axu1_pu0, axu1_pu1, axu1_puP, axu1_pu4, axu1_pu5M, axu1_pu6, axu1_pu7] [] 3000 0 (() : ax_Tr 0) = true := by decide +kernel
set_option maxRecDepth 4000 in
theorem axs1_67_0 : ∀ x ∈ ([axu1_pu0, axu1_pu1, axu1_puP, axu1_pu4, axu1_pu5O, axu1_pu6, axu1_pu7] : List ax_RL), ax_RO ax_wM1 (ax_XM 1) x := ax_ro_cons axq1_pu0 (ax_ro_cons axq1_pu1 (ax_ro_cons axq1_puP (ax_ro_cons axq1_pu4 (ax_ro_cons axq1_pu5O (ax_ro_cons axq1_pu6 (ax_ro_cons axq1_pu7 (ax_ro_nil)))))))
-- TurnNetModel.push: 13 steps
set_option maxRecDepth 4000 in
theorem axk1_67_0 : ax_chk ax_wM1 rx_P (rx_DF, rx_FK) ax_APM1 (rx_n rxm_67) axm_67 (([702, 4036], (2, [(1, 0, 0), (1, 0, 0)], [], [], [(40, [4, 0, 4, 8, 4]), (196, [3]), (242, [7])])), [(11, 27), (55, 999)], [([2], (4, [(1, 0, 0), (1, 0, 0), (1, 0, 0), (1, 0, 0)], [], [], [(40, [4, 0, 0, 4, 4]), (196, [11]), (193, [11, 3]), (242, [15]), (251, [15, 4036, 7])]))]) [axu1_pu0, axu1_pu1, axu1_puP, axu1_pu4, axu1_pu5O, axu1_pu6, axu1_pu7] [] 3000 0 (() : ax_Tr 0) = true := by decide +kernel
theorem axr1_67 (hP : ∀ q ∈ rx_P, rx_QW q ∧ rx_ST rx_P (rx_DF, rx_FK) q) : ax_Row ax_wM1 (ax_XM 1) rx_P ax_APM1 rx_P (rx_DF, rx_FK) rxm_67 (axm_67, axc1_67) := fun hr => ⟨ax_tabB_ok axt_67, fun hL => ax_con_cons (ax_chk_ok hP ax_XM1_ok hr hL (ax_tabB_ok axt_67) axs1_67_0 axk1_67_0) (ax_con_cons (ax_chk_ok hP ax_XM1_ok hr hL (ax_tabB_ok axt_67) axs1_67_1 axk1_67_1) (ax_con_cons (ax_chk_ok hP ax_XM1_ok hr hL (ax_tabB_ok axt_67) axs1_67_2 axk1_67_2) (ax_con_nil)))⟩
-- TurnNetModel.putAside: 1345 steps
set_option maxRecDepth 4000 in
theorem axk1_68_0 : ax_chk ax_wM1 rx_P (rx_DF, rx_FK) ax_APM1 (rx_n rxm_68) axm_68 (([702], (0, [], [], [], [])), [(67, 999)], [([2], (0, [], [], [], []))]) [] [] 3000 0 (() : ax_Tr 0) = true := by decide +kernel
theorem axr1_68 (hP : ∀ q ∈ rx_P, rx_QW q ∧ rx_ST rx_P (rx_DF, rx_FK) q) : ax_Row ax_wM1 (ax_XM 1) rx_P ax_APM1 rx_P (rx_DF, rx_FK) rxm_68 (axm_68, axc1_68) := fun hr => ⟨ax_tabB_ok axt_68, fun hL => ax_con_cons (ax_chk_ok hP ax_XM1_ok hr hL (ax_tabB_ok axt_68) ax_ro_nil axk1_68_0) (ax_con_nil)⟩
theorem axr1_69 (hP : ∀ q ∈ rx_P, rx_QW q ∧ rx_ST rx_P (rx_DF, rx_FK) q) : ax_Row ax_wM1 (ax_XM 1) rx_P ax_APM1 rx_P (rx_DF, rx_FK) rxm_69 (axm_69, axc1_69) := fun hr => ⟨ax_tabB_ok axt_69, fun hL => ax_con_nil⟩
theorem axr1_70 (hP : ∀ q ∈ rx_P, rx_QW q ∧ rx_ST rx_P (rx_DF, rx_FK) q) : ax_Row ax_wM1 (ax_XM 1) rx_P ax_APM1 rx_P (rx_DF, rx_FK) rxm_70 (axm_70, axc1_70) := fun hr => ⟨ax_tabB_ok axt_70, fun hL => ax_con_nil⟩
theorem axr1_71 (hP : ∀ q ∈ rx_P, rx_QW q ∧ rx_ST rx_P (rx_DF, rx_FK) q) : ax_Row ax_wM1 (ax_XM 1) rx_P ax_APM1 rx_P (rx_DF, rx_FK) rxm_71 (axm_71, axc1_71) := fun hr => ⟨ax_tabB_ok axt_71, fun hL => ax_con_nil⟩
set_option maxRecDepth 4000 in
theorem axs1_72_0 : ∀ x ∈ ([axu1_wSs0, axu1_wSs1, axu1_wR1, axu1_wSs2, axu1_wR2, axu1_wSs3, axu1_wR3, axu1_wSs4] : List ax_RL), ax_RO ax_wM1 (ax_XM 1) x := ax_ro_cons axq1_wSs0 (ax_ro_cons axq1_wSs1 (ax_ro_cons axq1_wR1 (ax_ro_cons axq1_wSs2 (ax_ro_cons axq1_wR2 (ax_ro_cons axq1_wSs3 (ax_ro_cons axq1_wR3 (ax_ro_cons axq1_wSs4 (ax_ro_nil))))))))
-- TurnNetModel.swapAll: 3405 steps
set_option maxRecDepth 4000 in
theorem axk1_72_0 : ax_chk ax_wM1 rx_P (rx_DF, rx_FK) ax_APM1 (rx_n rxm_72) axm_72 (([702], (0, [], [], [], [(1, [])])), [(44, 999), (72, 999)], [([2], (0, [], [], [], [(1, [])]))]) [axu1_wSs0, axu1_wSs1, axu1_wR1, axu1_wSs2, axu1_wR2, axu1_wSs3, axu1_wR3, axu1_wSs4] [] 30000 0 (() : ax_Tr 0) = true := by decide +kernel
theorem axr1_72 (hP : ∀ q ∈ rx_P, rx_QW q ∧ rx_ST rx_P (rx_DF, rx_FK) q) : ax_Row ax_wM1 (ax_XM 1) rx_P ax_APM1 rx_P (rx_DF, rx_FK) rxm_72 (axm_72, axc1_72) := fun hr => ⟨ax_tabB_ok axt_72, fun hL => ax_con_cons (ax_chk_ok hP ax_XM1_ok hr hL (ax_tabB_ok axt_72) axs1_72_0 axk1_72_0) (ax_con_nil)⟩
theorem axr1_73 (hP : ∀ q ∈ rx_P, rx_QW q ∧ rx_ST rx_P (rx_DF, rx_FK) q) : ax_Row ax_wM1 (ax_XM 1) rx_P ax_APM1 rx_P (rx_DF, rx_FK) rxm_73 (axm_73, axc1_73) := fun hr => ⟨ax_tabB_ok axt_73, fun hL => ax_con_nil⟩
theorem axr1_74 (hP : ∀ q ∈ rx_P, rx_QW q ∧ rx_ST rx_P (rx_DF, rx_FK) q) : ax_Row ax_wM1 (ax_XM 1) rx_P ax_APM1 rx_P (rx_DF, rx_FK) rxm_74 (axm_74, []) := fun hr => ⟨ax_tabB_ok axt_74, fun hL => ax_con_nil⟩
theorem axr1_75 (hP : ∀ q ∈ rx_P, rx_QW q ∧ rx_ST rx_P (rx_DF, rx_FK) q) : ax_Row ax_wM1 (ax_XM 1) rx_P ax_APM1 rx_P (rx_DF, rx_FK) rxm_75 (axm_75, []) := fun hr => ⟨ax_tabB_ok axt_75, fun hL => ax_con_nil⟩
theorem axr1_76 (hP : ∀ q ∈ rx_P, rx_QW q ∧ rx_ST rx_P (rx_DF, rx_FK) q) : ax_Row ax_wM1 (ax_XM 1) rx_P ax_APM1 rx_P (rx_DF, rx_FK) rxm_76 (axm_76, []) := fun hr => ⟨ax_tabB_ok axt_76, fun hL => ax_con_nil⟩
theorem axr1_77 (hP : ∀ q ∈ rx_P, rx_QW q ∧ rx_ST rx_P (rx_DF, rx_FK) q) : ax_Row ax_wM1 (ax_XM 1) rx_P ax_APM1 rx_P (rx_DF, rx_FK) rxm_77 (axm_77, []) := fun hr => ⟨ax_tabB_ok axt_77, fun hL => ax_con_nil⟩
theorem axr1_78 (hP : ∀ q ∈ rx_P, rx_QW q ∧ rx_ST rx_P (rx_DF, rx_FK) q) : ax_Row ax_wM1 (ax_XM 1) rx_P ax_APM1 rx_P (rx_DF, rx_FK) rxm_78 (axm_78, []) := fun hr => ⟨ax_tabB_ok axt_78, fun hL => ax_con_nil⟩
theorem axr1_79 (hP : ∀ q ∈ rx_P, rx_QW q ∧ rx_ST rx_P (rx_DF, rx_FK) q) : ax_Row ax_wM1 (ax_XM 1) rx_P ax_APM1 rx_P (rx_DF, rx_FK) rxm_79 (axm_79, []) := fun hr => ⟨ax_tabB_ok axt_79, fun hL => ax_con_nil⟩
theorem axr1_80 (hP : ∀ q ∈ rx_P, rx_QW q ∧ rx_ST rx_P (rx_DF, rx_FK) q) : ax_Row ax_wM1 (ax_XM 1) rx_P ax_APM1 rx_P (rx_DF, rx_FK) rxm_80 (axm_80, []) := fun hr => ⟨ax_tabB_ok axt_80, fun hL => ax_con_nil⟩
theorem axr1_81 (hP : ∀ q ∈ rx_P, rx_QW q ∧ rx_ST rx_P (rx_DF, rx_FK) q) : ax_Row ax_wM1 (ax_XM 1) rx_P ax_APM1 rx_P (rx_DF, rx_FK) rxm_81 (axm_81, []) := fun hr => ⟨ax_tabB_ok axt_81, fun hL => ax_con_nil⟩
theorem axr1_82 (hP : ∀ q ∈ rx_P, rx_QW q ∧ rx_ST rx_P (rx_DF, rx_FK) q) : ax_Row ax_wM1 (ax_XM 1) rx_P ax_APM1 rx_P (rx_DF, rx_FK) rxm_82 (axm_82, []) := fun hr => ⟨ax_tabB_ok axt_82, fun hL => ax_con_nil⟩
theorem axr1_83 (hP : ∀ q ∈ rx_P, rx_QW q ∧ rx_ST rx_P (rx_DF, rx_FK) q) : ax_Row ax_wM1 (ax_XM 1) rx_P ax_APM1 rx_P (rx_DF, rx_FK) rxm_83 (axm_83, []) := fun hr => ⟨ax_tabB_ok axt_83, fun hL => ax_con_nil⟩
theorem axr1_84 (hP : ∀ q ∈ rx_P, rx_QW q ∧ rx_ST rx_P (rx_DF, rx_FK) q) : ax_Row ax_wM1 (ax_XM 1) rx_P ax_APM1 rx_P (rx_DF, rx_FK) rxm_84 (axm_84, []) := fun hr => ⟨ax_tabB_ok axt_84, fun hL => ax_con_nil⟩
theorem axr1_85 (hP : ∀ q ∈ rx_P, rx_QW q ∧ rx_ST rx_P (rx_DF, rx_FK) q) : ax_Row ax_wM1 (ax_XM 1) rx_P ax_APM1 rx_P (rx_DF, rx_FK) rxm_85 (axm_85, []) := fun hr => ⟨ax_tabB_ok axt_85, fun hL => ax_con_nil⟩
theorem axr1_86 (hP : ∀ q ∈ rx_P, rx_QW q ∧ rx_ST rx_P (rx_DF, rx_FK) q) : ax_Row ax_wM1 (ax_XM 1) rx_P ax_APM1 rx_P (rx_DF, rx_FK) rxm_86 (axm_86, []) := fun hr => ⟨ax_tabB_ok axt_86, fun hL => ax_con_nil⟩
theorem axr1_87 (hP : ∀ q ∈ rx_P, rx_QW q ∧ rx_ST rx_P (rx_DF, rx_FK) q) : ax_Row ax_wM1 (ax_XM 1) rx_P ax_APM1 rx_P (rx_DF, rx_FK) rxm_87 (axm_87, []) := fun hr => ⟨ax_tabB_ok axt_87, fun hL => ax_con_nil⟩
theorem axr1_88 (hP : ∀ q ∈ rx_P, rx_QW q ∧ rx_ST rx_P (rx_DF, rx_FK) q) : ax_Row ax_wM1 (ax_XM 1) rx_P ax_APM1 rx_P (rx_DF, rx_FK) rxm_88 (axm_88, []) := fun hr => ⟨ax_tabB_ok axt_88, fun hL => ax_con_nil⟩
theorem axr1_89 (hP : ∀ q ∈ rx_P, rx_QW q ∧ rx_ST rx_P (rx_DF, rx_FK) q) : ax_Row ax_wM1 (ax_XM 1) rx_P ax_APM1 rx_P (rx_DF, rx_FK) rxm_89 (axm_89, []) := fun hr => ⟨ax_tabB_ok axt_89, fun hL => ax_con_nil⟩
theorem axr1_90 (hP : ∀ q ∈ rx_P, rx_QW q ∧ rx_ST rx_P (rx_DF, rx_FK) q) : ax_Row ax_wM1 (ax_XM 1) rx_P ax_APM1 rx_P (rx_DF, rx_FK) rxm_90 (axm_90, []) := fun hr => ⟨ax_tabB_ok axt_90, fun hL => ax_con_nil⟩
theorem axr1_91 (hP : ∀ q ∈ rx_P, rx_QW q ∧ rx_ST rx_P (rx_DF, rx_FK) q) : ax_Row ax_wM1 (ax_XM 1) rx_P ax_APM1 rx_P (rx_DF, rx_FK) rxm_91 (axm_91, []) := fun hr => ⟨ax_tabB_ok axt_91, fun hL => ax_con_nil⟩
theorem axr1_92 (hP : ∀ q ∈ rx_P, rx_QW q ∧ rx_ST rx_P (rx_DF, rx_FK) q) : ax_Row ax_wM1 (ax_XM 1) rx_P ax_APM1 rx_P (rx_DF, rx_FK) rxm_92 (axm_92, []) := fun hr => ⟨ax_tabB_ok axt_92, fun hL => ax_con_nil⟩
theorem axr1_93 (hP : ∀ q ∈ rx_P, rx_QW q ∧ rx_ST rx_P (rx_DF, rx_FK) q) : ax_Row ax_wM1 (ax_XM 1) rx_P ax_APM1 rx_P (rx_DF, rx_FK) rxm_93 (axm_93, []) := fun hr => ⟨ax_tabB_ok axt_93, fun hL => ax_con_nil⟩
theorem axr1_94 (hP : ∀ q ∈ rx_P, rx_QW q ∧ rx_ST rx_P (rx_DF, rx_FK) q) : ax_Row ax_wM1 (ax_XM 1) rx_P ax_APM1 rx_P (rx_DF, rx_FK) rxm_94 (axm_94, []) := fun hr => ⟨ax_tabB_ok axt_94, fun hL => ax_con_nil⟩
theorem axr1_95 (hP : ∀ q ∈ rx_P, rx_QW q ∧ rx_ST rx_P (rx_DF, rx_FK) q) : ax_Row ax_wM1 (ax_XM 1) rx_P ax_APM1 rx_P (rx_DF, rx_FK) rxm_95 (axm_95, []) := fun hr => ⟨ax_tabB_ok axt_95, fun hL => ax_con_nil⟩
theorem axr1_96 (hP : ∀ q ∈ rx_P, rx_QW q ∧ rx_ST rx_P (rx_DF, rx_FK) q) : ax_Row ax_wM1 (ax_XM 1) rx_P ax_APM1 rx_P (rx_DF, rx_FK) rxm_96 (axm_96, []) := fun hr => ⟨ax_tabB_ok axt_96, fun hL => ax_con_nil⟩
theorem axr1_97 (hP : ∀ q ∈ rx_P, rx_QW q ∧ rx_ST rx_P (rx_DF, rx_FK) q) : ax_Row ax_wM1 (ax_XM 1) rx_P ax_APM1 rx_P (rx_DF, rx_FK) rxm_97 (axm_97, []) := fun hr => ⟨ax_tabB_ok axt_97, fun hL => ax_con_nil⟩
theorem axr1_98 (hP : ∀ q ∈ rx_P, rx_QW q ∧ rx_ST rx_P (rx_DF, rx_FK) q) : ax_Row ax_wM1 (ax_XM 1) rx_P ax_APM1 rx_P (rx_DF, rx_FK) rxm_98 (axm_98, []) := fun hr => ⟨ax_tabB_ok axt_98, fun hL => ax_con_nil⟩
theorem axr1_99 (hP : ∀ q ∈ rx_P, rx_QW q ∧ rx_ST rx_P (rx_DF, rx_FK) q) : ax_Row ax_wM1 (ax_XM 1) rx_P ax_APM1 rx_P (rx_DF, rx_FK) rxm_99 (axm_99, []) := fun hr => ⟨ax_tabB_ok axt_99, fun hL => ax_con_nil⟩
theorem axr1_100 (hP : ∀ q ∈ rx_P, rx_QW q ∧ rx_ST rx_P (rx_DF, rx_FK) q) : ax_Row ax_wM1 (ax_XM 1) rx_P ax_APM1 rx_P (rx_DF, rx_FK) rxm_100 (axm_100, []) := fun hr => ⟨ax_tabB_ok axt_100, fun hL => ax_con_nil⟩
theorem axr1_101 (hP : ∀ q ∈ rx_P, rx_QW q ∧ rx_ST rx_P (rx_DF, rx_FK) q) : ax_Row ax_wM1 (ax_XM 1) rx_P ax_APM1 rx_P (rx_DF, rx_FK) rxm_101 (axm_101, []) := fun hr => ⟨ax_tabB_ok axt_101, fun hL => ax_con_nil⟩
theorem axr1_102 (hP : ∀ q ∈ rx_P, rx_QW q ∧ rx_ST rx_P (rx_DF, rx_FK) q) : ax_Row ax_wM1 (ax_XM 1) rx_P ax_APM1 rx_P (rx_DF, rx_FK) rxm_102 (axm_102, []) := fun hr => ⟨ax_tabB_ok axt_102, fun hL => ax_con_nil⟩
theorem axr1_103 (hP : ∀ q ∈ rx_P, rx_QW q ∧ rx_ST rx_P (rx_DF, rx_FK) q) : ax_Row ax_wM1 (ax_XM 1) rx_P ax_APM1 rx_P (rx_DF, rx_FK) rxm_103 (axm_103, []) := fun hr => ⟨ax_tabB_ok axt_103, fun hL => ax_con_nil⟩
theorem axr1_104 (hP : ∀ q ∈ rx_P, rx_QW q ∧ rx_ST rx_P (rx_DF, rx_FK) q) : ax_Row ax_wM1 (ax_XM 1) rx_P ax_APM1 rx_P (rx_DF, rx_FK) rxm_104 (axm_104, []) := fun hr => ⟨ax_tabB_ok axt_104, fun hL => ax_con_nil⟩
theorem axr1_105 (hP : ∀ q ∈ rx_P, rx_QW q ∧ rx_ST rx_P (rx_DF, rx_FK) q) : ax_Row ax_wM1 (ax_XM 1) rx_P ax_APM1 rx_P (rx_DF, rx_FK) rxm_105 (axm_105, []) := fun hr => ⟨ax_tabB_ok axt_105, fun hL => ax_con_nil⟩
