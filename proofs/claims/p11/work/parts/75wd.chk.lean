theorem axr1_73 (hP : ∀ q ∈ rx_P, rx_QW q ∧ rx_ST rx_P (rx_DF, rx_FK) q) : ax_Row ax_wM1 (ax_XM 1) rx_P ax_APM1 rx_P (rx_DF, rx_FK) rxm_73 (axm_73, axc1_73) := fun hr => ⟨ax_tabB_ok axt_73, fun hL => ax_con_nil⟩
theorem axr1_74 (hP : ∀ q ∈ rx_P, rx_QW q ∧ rx_ST rx_P (rx_DF, rx_FK) q) : ax_Row ax_wM1 (ax_XM 1) rx_P ax_APM1 rx_P (rx_DF, rx_FK) rxm_74 (axm_74, []) := fun hr => ⟨ax_tabB_ok axt_74, fun hL => ax_con_nil⟩
theorem axr1_75 (hP : ∀ q ∈ rx_P, rx_QW q ∧ rx_ST rx_P (rx_DF, rx_FK) q) : ax_Row ax_wM1 (ax_XM 1) rx_P ax_APM1 rx_P (rx_DF, rx_FK) rxm_75 (axm_75, []) := fun hr => ⟨ax_tabB_ok axt_75, fun hL => ax_con_nil⟩
theorem axr1_76 (hP : ∀ q ∈ rx_P, rx_QW q ∧ rx_ST rx_P (rx_DF, rx_FK) q) : ax_Row ax_wM1 (ax_XM 1) rx_P ax_APM1 rx_P (rx_DF, rx_FK) rxm_76 (axm_76, []) := fun hr => ⟨ax_tabB_ok axt_76, fun hL => ax_con_nil⟩
theorem axr1_77 (hP : ∀ q ∈ rx_P, rx_QW q ∧ rx_ST rx_P (rx_DF, rx_FK) q) : ax_Row ax_wM1 (ax_XM 1) rx_P ax_APM1 rx_P (rx_DF, rx_FK) rxm_77 (axm_77, []) := fun hr => ⟨ax_tabB_ok axt_77, fun hL => ax_con_nil⟩
theorem axr1_78 (hP : ∀ q ∈ rx_P, rx_QW q ∧ rx_ST rx_P (rx_DF, rx_FK) q) : ax_Row ax_wM1 (ax_XM 1) rx_P ax_APM1 rx_P (rx_DF, rx_FK) rxm_78 (axm_78, []) := fun hr => ⟨ax_tabB_ok axt_78, fun hL => ax_con_nil⟩
theorem axr1_79 (hP : ∀ q ∈ rx_P, rx_QW q ∧ rx_ST rx_P (rx_DF, rx_FK) q) : ax_Row ax_wM1 (ax_XM 1) rx_P ax_APM1 rx_P (rx_DF, rx_FK) rxm_79 (axm_79, []) := fun hr => ⟨ax_tabB_ok axt_79, fun hL => ax_con_nil⟩
theorem axr1_80 (hP : ∀ q ∈ rx_P, rx_QW q ∧ rx_ST rx_P (rx_DF, rx_FK) q) : ax_Row ax_wM1 (ax_XM 1) rx_P ax_APM1 rx_P (rx_DF, rx_FK) rxm_80 (axm_80, []) := fun hr => ⟨ax_tabB_ok axt_80, fun hL => ax_con_nil⟩
theorem axr1_81 (hP : ∀ q ∈ rx_P, rx_QW q ∧ rx_ST rx_P (rx_DF, rx_FK) q) : ax_Row ax_wM1 (ax_XM 1) rx_P ax_APM1 rx_P (rx_DF, rx_FK) rxm_81 (axm_81, []) := fun hr => ⟨ax_tabB_ok axt_81, fun hL => ax_con_nil⟩
theorem axr1_82 (hP : ∀ q ∈ rx_P, rx_QW q ∧ rx_ST rx_P (rx_DF, rx_FK) q) : ax_Row ax_wM1 (ax_XM 1) rx_P ax_APM1 rx_P (rx_DF, rx_FK) rxm_82 (axm_82, []) := fun hr => ⟨ax_tabB_ok axt_82, fun hL => ax_con_nil⟩
theorem axr1_83 (hP : ∀ q ∈ rx_P, rx_QW q ∧ rx_ST rx_P (rx_DF, rx_FK) q) : ax_Row ax_wM1 (ax_XM 1) rx_P ax_APM1 rx_P (rx_DF, rx_FK) rxm_83 (axm_83, []) := fun hr => ⟨ax_tabB_ok axt_83, fun hL => ax_con_nil⟩
theorem axr1_84 (hP : ∀ q ∈ rx_P, rx_QW q ∧ rx_ST rx_P (rx_DF, rx_FK) q) : ax_Row ax_wM1 (ax_XM 1) rx_P ax_APM1 rx_P (rx_DF, rx_FK) rxm_84 (axm_84, []) := fun hr => ⟨ax_tabB_ok axt_84, fun hL => ax_con_nil⟩
theorem axr1_85 (hP : ∀ q ∈ rx_P, rx_QW q ∧ rx_ST rx_P (rx_DF, rx_FK) q) : ax_Row ax_wM1 (ax_XM 1) rx_P ax_APM1 rx_P (rx_DF, rx_FK) rxm_85 (axm_85, []) := fun hr => ⟨ax_tabB_ok axt_85, fun hL => ax_con_nil⟩
theorem axr1_86 (hP : ∀ q ∈ rx_P, rx_QW q ∧ rx_ST rx_P (rx_DF, rx_FK) q) : ax_Row ax_wM1 (ax_XM 1) rx_P ax_APM1 rx_P (rx_DF, rx_FK) rxm_86 (axm_86, []) := fun hr => ⟨ax_tabB_ok axt_86, fun hL => ax_con_nil⟩
theorem axr1_87 (hP : ∀ q ∈ rx_P, rx_QW q ∧ rx_ST rx_P (rx_DF, rx_FK) q) : ax_Row ax_wM1 (ax_XM 1) rx_P ax_APM1 rx_P (rx_DF, rx_FK) rxm_87 (axm_87, []) := fun hr => ⟨ax_tabB_ok axt_87, fun hL => ax_con_nil⟩
theorem axr1_88 (hP : ∀ q ∈ rx_P, rx_QW q ∧ rx_ST rx_P (rx_DF, rx_FK) q) : ax_Row ax_wM1 (ax_XM 1) rx_P ax_APM1 rx_P (rx_DF, rx_FK) rxm_88 (axm_88, []) := fun hr => ⟨ax_tabB_ok axt_88, fun hL => ax_con_nil⟩
theorem axr1_89 (hP : ∀ q ∈ rx_P, rx_QW q ∧ rx_ST rx_P (rx_DF, rx_FK) q) : ax_Row ax_wM1 (ax_XM 1) rx_P ax_APM1 rx_P (rx_DF, rx_FK) rxm_89 (axm_89, []) := fun hr => ⟨ax_tabB_ok axt_89, fun hL => ax_con_nil⟩
theorem axr1_90 (hP : ∀ q ∈ rx_P, rx_QW q ∧ rx_ST rx_P (rx_DF, rx_FK) q) : ax_Row ax_wM1 (ax_XM 1) rx_P ax_APM1 rx_P (rx_DF, rx_FK) rxm_90 (axm_90, []) := fun hr => ⟨ax_tabB_ok axt_90, fun hL => ax_con_nil⟩
theorem axr1_91 (hP : ∀ q ∈ rx_P, rx_QW q ∧ rx_ST rx_P (rx_DF, rx_FK) q) : ax_Row ax_wM1 (ax_XM 1) rx_P ax_APM1 rx_P (rx_DF, rx_FK) rxm_91 (axm_91, []) := fun hr => ⟨ax_tabB_ok axt_91, fun hL => ax_con_nil⟩
theorem axr1_92 (hP : ∀ q ∈ rx_P, rx_QW q ∧ rx_ST rx_P (rx_DF, rx_FK) q) : ax_Row ax_wM1 (ax_XM 1) rx_P ax_APM1 rx_P (rx_DF, rx_FK) rxm_92 (axm_92, []) := fun hr => ⟨ax_tabB_ok axt_92, fun hL => ax_con_nil⟩
theorem axr1_93 (hP : ∀ q ∈ rx_P, rx_QW q ∧ rx_ST rx_P (rx_DF, rx_FK) q) : ax_Row ax_wM1 (ax_XM 1) rx_P ax_APM1 rx_P (rx_DF, rx_FK) rxm_93 (axm_93, []) := fun hr => ⟨ax_tabB_ok axt_93, fun hL => ax_con_nil⟩
theorem axr1_94 (hP : ∀ q ∈ rx_P, rx_QW q ∧ rx_ST rx_P (rx_DF, rx_FK) q) : ax_Row ax_wM1 (ax_XM 1) rx_P ax_APM1 rx_P (rx_DF, rx_FK) rxm_94 (axm_94, []) := fun hr => ⟨ax_tabB_ok axt_94, fun hL => ax_con_nil⟩
theorem axr1_95 (hP : ∀ q ∈ rx_P, rx_QW q ∧ rx_ST rx_P (rx_DF, rx_FK) q) : ax_Row ax_wM1 (ax_XM 1) rx_P ax_APM1 rx_P (rx_DF, rx_FK) rxm_95 (axm_95, []) := fun hr => ⟨ax_tabB_ok axt_95, fun hL => ax_con_nil⟩
theorem axr1_96 (hP : ∀ q ∈ rx_P, rx_QW q ∧ rx_ST rx_P (rx_DF, rx_FK) q) : ax_Row ax_wM1 (ax_XM 1) rx_P ax_APM1 rx_P (rx_DF, rx_FK) rxm_96 (axm_96, []) := fun hr => ⟨ax_tabB_ok axt_96, fun hL => ax_con_nil⟩
theorem axr1_97 (hP : ∀ q ∈ rx_P, rx_QW q ∧ rx_ST rx_P (rx_DF, rx_FK) q) : ax_Row ax_wM1 (ax_XM 1) rx_P ax_APM1 rx_P (rx_DF, rx_FK) rxm_97 (axm_97, []) := fun hr => ⟨ax_tabB_ok axt_97, fun hL => ax_con_nil⟩
theorem axr1_98 (hP : ∀ q ∈ rx_P, rx_QW q ∧ rx_ST rx_P (rx_DF, rx_FK) q) : ax_Row ax_wM1 (ax_XM 1) rx_P ax_APM1 rx_P (rx_DF, rx_FK) rxm_98 (axm_98, []) := fun hr => ⟨ax_tabB_ok axt_98, fun hL => ax_con_nil⟩
theorem axr1_99 (hP : ∀ q ∈ rx_P, rx_QW q ∧ rx_ST rx_P (rx_DF, rx_FK) q) : ax_Row ax_wM1 (ax_XM 1) rx_P ax_APM1 rx_P (rx_DF, rx_FK) rxm_99 (axm_99, []) := fun hr => ⟨ax_tabB_ok axt_99, fun hL => ax_con_nil⟩
theorem axr1_100 (hP : ∀ q ∈ rx_P, rx_QW q ∧ rx_ST rx_P (rx_DF, rx_FK) q) : ax_Row ax_wM1 (ax_XM 1) rx_P ax_APM1 rx_P (rx_DF, rx_FK) rxm_100 (axm_100, []) := fun hr => ⟨ax_tabB_ok axt_100, fun hL => ax_con_nil⟩
theorem axr1_101 (hP : ∀ q ∈ rx_P, rx_QW q ∧ rx_ST rx_P (rx_DF, rx_FK) q) : ax_Row ax_wM1 (ax_XM 1) rx_P ax_APM1 rx_P (rx_DF, rx_FK) rxm_101 (axm_101, []) := fun hr => ⟨ax_tabB_ok axt_101, fun hL => ax_con_nil⟩
theorem axr1_102 (hP : ∀ q ∈ rx_P, rx_QW q ∧ rx_ST rx_P (rx_DF, rx_FK) q) : ax_Row ax_wM1 (ax_XM 1) rx_P ax_APM1 rx_P (rx_DF, rx_FK) rxm_102 (axm_102, []) := fun hr => ⟨ax_tabB_ok axt_102, fun hL => ax_con_nil⟩
theorem axr1_103 (hP : ∀ q ∈ rx_P, rx_QW q ∧ rx_ST rx_P (rx_DF, rx_FK) q) : ax_Row ax_wM1 (ax_XM 1) rx_P ax_APM1 rx_P (rx_DF, rx_FK) rxm_103 (axm_103, []) := fun hr => ⟨ax_tabB_ok axt_103, fun hL => ax_con_nil⟩
theorem axr1_104 (hP : ∀ q ∈ rx_P, rx_QW q ∧ rx_ST rx_P (rx_DF, rx_FK) q) : ax_Row ax_wM1 (ax_XM 1) rx_P ax_APM1 rx_P (rx_DF, rx_FK) rxm_104 (axm_104, []) := fun hr => ⟨ax_tabB_ok axt_104, fun hL => ax_con_nil⟩
theorem axr1_105 (hP : ∀ q ∈ rx_P, rx_QW q ∧ rx_ST rx_P (rx_DF, rx_FK) q) : ax_Row ax_wM1 (ax_XM 1) rx_P ax_APM1 rx_P (rx_DF, rx_FK) rxm_105 (axm_105, []) := fun hr => ⟨ax_tabB_ok axt_105, fun hL => ax_con_nil⟩
theorem axr1_106 (hP : ∀ q ∈ rx_P, rx_QW q ∧ rx_ST rx_P (rx_DF, rx_FK) q) : ax_Row ax_wM1 (ax_XM 1) rx_P ax_APM1 rx_P (rx_DF, rx_FK) rxm_106 (axm_106, []) := fun hr => ⟨ax_tabB_ok axt_106, fun hL => ax_con_nil⟩
theorem axr1_107 (hP : ∀ q ∈ rx_P, rx_QW q ∧ rx_ST rx_P (rx_DF, rx_FK) q) : ax_Row ax_wM1 (ax_XM 1) rx_P ax_APM1 rx_P (rx_DF, rx_FK) rxm_107 (axm_107, []) := fun hr => ⟨ax_tabB_ok axt_107, fun hL => ax_con_nil⟩
theorem axr1_108 (hP : ∀ q ∈ rx_P, rx_QW q ∧ rx_ST rx_P (rx_DF, rx_FK) q) : ax_Row ax_wM1 (ax_XM 1) rx_P ax_APM1 rx_P (rx_DF, rx_FK) rxm_108 (axm_108, []) := fun hr => ⟨ax_tabB_ok axt_108, fun hL => ax_con_nil⟩
theorem axr1_109 (hP : ∀ q ∈ rx_P, rx_QW q ∧ rx_ST rx_P (rx_DF, rx_FK) q) : ax_Row ax_wM1 (ax_XM 1) rx_P ax_APM1 rx_P (rx_DF, rx_FK) rxm_109 (axm_109, []) := fun hr => ⟨ax_tabB_ok axt_109, fun hL => ax_con_nil⟩
theorem axr1_110 (hP : ∀ q ∈ rx_P, rx_QW q ∧ rx_ST rx_P (rx_DF, rx_FK) q) : ax_Row ax_wM1 (ax_XM 1) rx_P ax_APM1 rx_P (rx_DF, rx_FK) rxm_110 (axm_110, []) := fun hr => ⟨ax_tabB_ok axt_110, fun hL => ax_con_nil⟩
theorem axr1_111 (hP : ∀ q ∈ rx_P, rx_QW q ∧ rx_ST rx_P (rx_DF, rx_FK) q) : ax_Row ax_wM1 (ax_XM 1) rx_P ax_APM1 rx_P (rx_DF, rx_FK) rxm_111 (axm_111, []) := fun hr => ⟨ax_tabB_ok axt_111, fun hL => ax_con_nil⟩
-- TurnNetModel.aboveOf: 1734 steps
set_option maxRecDepth 4000 in
theorem axk1_112_0 : ax_chk ax_wM1 rx_P (rx_DF, rx_FK) ax_APM1 (rx_n rxm_112) axm_112 (([702, 3], (1, [(0, 2147483648, 2147483657)], [], [], [])), [], [([7], (2, [(0, 0, 4294967295), (0, 2147483648, 2147483657)], [], [], []))]) [] [4] 3000 1 (([((4, 1, 2, ([702, 3, 7, 11], (3, [(0, 2147483648, 2147483658), (0, 0, 4294967295), (0, 2147483648, 2147483657)], [], [], []))), ())] : List ((Nat × Nat × Nat × ax_T) × ax_Tr 0)) : ax_Tr 1) = true := by decide +kernel
theorem axr1_112 (hP : ∀ q ∈ rx_P, rx_QW q ∧ rx_ST rx_P (rx_DF, rx_FK) q) : ax_Row ax_wM1 (ax_XM 1) rx_P ax_APM1 rx_P (rx_DF, rx_FK) rxm_112 (axm_112, axc1_112) := fun hr => ⟨ax_tabB_ok axt_112, fun hL => ax_con_cons (ax_chk_ok hP ax_XM1_ok hr hL (ax_tabB_ok axt_112) ax_ro_nil axk1_112_0) (ax_con_nil)⟩
set_option maxRecDepth 4000 in
theorem axs1_113 : ∀ x ∈ ([axu1_hzback, axu1_bR1, axu1_bR2, axu1_bR3] : List ax_RL), ax_RO ax_wM1 (ax_XM 1) x := ax_ro_cons axq1_hzback (ax_ro_cons axq1_bR1 (ax_ro_cons axq1_bR2 (ax_ro_cons axq1_bR3 (ax_ro_nil))))
-- TurnNetModel.back: 5388 steps
set_option maxRecDepth 4000 in
theorem axk1_113_0 : ax_chk ax_wM1 rx_P (rx_DF, rx_FK) ax_APM1 (rx_n rxm_113) axm_113 (([702, 3], (1, [(0, 0, 4294967295)], [], [], [(0, [80]), (1, []), (2, []), (25, []), (26, [])])), [(11, 56), (11, 57), (44, 999)], [([7], (2, [(0, 0, 4294967295), (0, 0, 4294967295)], [], [], [(0, [80]), (1, []), (2, []), (25, []), (26, [])]))]) [axu1_hzback, axu1_bR1, axu1_bR2, axu1_bR3] [] 3000 0 (() : ax_Tr 0) = true := by decide +kernel
theorem axr1_113 (hP : ∀ q ∈ rx_P, rx_QW q ∧ rx_ST rx_P (rx_DF, rx_FK) q) : ax_Row ax_wM1 (ax_XM 1) rx_P ax_APM1 rx_P (rx_DF, rx_FK) rxm_113 (axm_113, axc1_113) := fun hr => ⟨ax_tabB_ok axt_113, fun hL => ax_con_cons (ax_chk_ok hP ax_XM1_ok hr hL (ax_tabB_ok axt_113) axs1_113 axk1_113_0) (ax_con_nil)⟩
theorem axr1_114 (hP : ∀ q ∈ rx_P, rx_QW q ∧ rx_ST rx_P (rx_DF, rx_FK) q) : ax_Row ax_wM1 (ax_XM 1) rx_P ax_APM1 rx_P (rx_DF, rx_FK) rxm_114 (axm_114, axc1_114) := fun hr => ⟨ax_tabB_ok axt_114, fun hL => ax_con_nil⟩
theorem axr1_115 (hP : ∀ q ∈ rx_P, rx_QW q ∧ rx_ST rx_P (rx_DF, rx_FK) q) : ax_Row ax_wM1 (ax_XM 1) rx_P ax_APM1 rx_P (rx_DF, rx_FK) rxm_115 (axm_115, axc1_115) := fun hr => ⟨ax_tabB_ok axt_115, fun hL => ax_con_nil⟩
-- TurnNetModel.flips: 677 steps
set_option maxRecDepth 4000 in
theorem axk1_116_0 : ax_chk ax_wM1 rx_P (rx_DF, rx_FK) ax_APM1 (rx_n rxm_116) axm_116 (([702], (0, [], [], [], [])), [], [([3], (1, [(0, 0, 4294967295)], [], [], []))]) [] [4] 3000 1 (([((4, 1, 1, ([702, 3, 7], (2, [(0, 2147483648, 2147483668), (0, 0, 4294967295)], [], [], []))), ())] : List ((Nat × Nat × Nat × ax_T) × ax_Tr 0)) : ax_Tr 1) = true := by decide +kernel
theorem axr1_116 (hP : ∀ q ∈ rx_P, rx_QW q ∧ rx_ST rx_P (rx_DF, rx_FK) q) : ax_Row ax_wM1 (ax_XM 1) rx_P ax_APM1 rx_P (rx_DF, rx_FK) rxm_116 (axm_116, axc1_116) := fun hr => ⟨ax_tabB_ok axt_116, fun hL => ax_con_cons (ax_chk_ok hP ax_XM1_ok hr hL (ax_tabB_ok axt_116) ax_ro_nil axk1_116_0) (ax_con_nil)⟩
-- TurnNetModel.goSend: 120 steps
set_option maxRecDepth 4000 in
theorem axk1_117_0 : ax_chk ax_wM1 rx_P (rx_DF, rx_FK) ax_APM1 (rx_n rxm_117) axm_117 (([702, 3, 7], (2, [(0, 2147483648, 2147483657), (0, 2147483648, 2147483657)], [], [], [(3, [])])), [(44, 999)], [([11], (3, [(0, 2147483648, 2147483659), (0, 2147483648, 2147483657), (0, 2147483648, 2147483657)], [], [], []))]) [] [] 3000 0 (() : ax_Tr 0) = true := by decide +kernel
theorem axr1_117 (hP : ∀ q ∈ rx_P, rx_QW q ∧ rx_ST rx_P (rx_DF, rx_FK) q) : ax_Row ax_wM1 (ax_XM 1) rx_P ax_APM1 rx_P (rx_DF, rx_FK) rxm_117 (axm_117, axc1_117) := fun hr => ⟨ax_tabB_ok axt_117, fun hL => ax_con_cons (ax_chk_ok hP ax_XM1_ok hr hL (ax_tabB_ok axt_117) ax_ro_nil axk1_117_0) (ax_con_nil)⟩
set_option maxRecDepth 4000 in
theorem axs1_118 : ∀ x ∈ ([axu1_bS0, axu1_bS1, axu1_bS2, axu1_bS3, axu1_bS4] : List ax_RL), ax_RO ax_wM1 (ax_XM 1) x := ax_ro_cons axq1_bS0 (ax_ro_cons axq1_bS1 (ax_ro_cons axq1_bS2 (ax_ro_cons axq1_bS3 (ax_ro_cons axq1_bS4 (ax_ro_nil)))))
-- TurnNetModel.image: 5364 steps
set_option maxRecDepth 4000 in
theorem axk1_118_0 : ax_chk ax_wM1 rx_P (rx_DF, rx_FK) ax_APM1 (rx_n rxm_118) axm_118 (([702, 3], (1, [(0, 0, 4294967295)], [], [], [(0, [80]), (1, []), (2, []), (25, []), (26, [])])), [(73, 999), (74, 999)], [([7], (2, [(0, 0, 4294967295), (0, 0, 4294967295)], [], [], [(0, [80]), (1, []), (2, []), (25, []), (26, [])]))]) [axu1_bS0, axu1_bS1, axu1_bS2, axu1_bS3, axu1_bS4] [] 3000 0 (() : ax_Tr 0) = true := by decide +kernel
theorem axr1_118 (hP : ∀ q ∈ rx_P, rx_QW q ∧ rx_ST rx_P (rx_DF, rx_FK) q) : ax_Row ax_wM1 (ax_XM 1) rx_P ax_APM1 rx_P (rx_DF, rx_FK) rxm_118 (axm_118, axc1_118) := fun hr => ⟨ax_tabB_ok axt_118, fun hL => ax_con_cons (ax_chk_ok hP ax_XM1_ok hr hL (ax_tabB_ok axt_118) axs1_118 axk1_118_0) (ax_con_nil)⟩
