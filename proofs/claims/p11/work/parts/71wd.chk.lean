theorem axr0_73 (hP : ∀ q ∈ rx_P, rx_QW q ∧ rx_ST rx_P (rx_DF, rx_FK) q) : ax_Row ax_wM0 (ax_XM 0) rx_P ax_APM0 rx_P (rx_DF, rx_FK) rxm_73 (axm_73, axc0_73) := fun hr => ⟨ax_tabB_ok axt_73, fun hL => ax_con_nil⟩
theorem axr0_74 (hP : ∀ q ∈ rx_P, rx_QW q ∧ rx_ST rx_P (rx_DF, rx_FK) q) : ax_Row ax_wM0 (ax_XM 0) rx_P ax_APM0 rx_P (rx_DF, rx_FK) rxm_74 (axm_74, []) := fun hr => ⟨ax_tabB_ok axt_74, fun hL => ax_con_nil⟩
theorem axr0_75 (hP : ∀ q ∈ rx_P, rx_QW q ∧ rx_ST rx_P (rx_DF, rx_FK) q) : ax_Row ax_wM0 (ax_XM 0) rx_P ax_APM0 rx_P (rx_DF, rx_FK) rxm_75 (axm_75, []) := fun hr => ⟨ax_tabB_ok axt_75, fun hL => ax_con_nil⟩
theorem axr0_76 (hP : ∀ q ∈ rx_P, rx_QW q ∧ rx_ST rx_P (rx_DF, rx_FK) q) : ax_Row ax_wM0 (ax_XM 0) rx_P ax_APM0 rx_P (rx_DF, rx_FK) rxm_76 (axm_76, []) := fun hr => ⟨ax_tabB_ok axt_76, fun hL => ax_con_nil⟩
theorem axr0_77 (hP : ∀ q ∈ rx_P, rx_QW q ∧ rx_ST rx_P (rx_DF, rx_FK) q) : ax_Row ax_wM0 (ax_XM 0) rx_P ax_APM0 rx_P (rx_DF, rx_FK) rxm_77 (axm_77, []) := fun hr => ⟨ax_tabB_ok axt_77, fun hL => ax_con_nil⟩
theorem axr0_78 (hP : ∀ q ∈ rx_P, rx_QW q ∧ rx_ST rx_P (rx_DF, rx_FK) q) : ax_Row ax_wM0 (ax_XM 0) rx_P ax_APM0 rx_P (rx_DF, rx_FK) rxm_78 (axm_78, []) := fun hr => ⟨ax_tabB_ok axt_78, fun hL => ax_con_nil⟩
theorem axr0_79 (hP : ∀ q ∈ rx_P, rx_QW q ∧ rx_ST rx_P (rx_DF, rx_FK) q) : ax_Row ax_wM0 (ax_XM 0) rx_P ax_APM0 rx_P (rx_DF, rx_FK) rxm_79 (axm_79, []) := fun hr => ⟨ax_tabB_ok axt_79, fun hL => ax_con_nil⟩
theorem axr0_80 (hP : ∀ q ∈ rx_P, rx_QW q ∧ rx_ST rx_P (rx_DF, rx_FK) q) : ax_Row ax_wM0 (ax_XM 0) rx_P ax_APM0 rx_P (rx_DF, rx_FK) rxm_80 (axm_80, []) := fun hr => ⟨ax_tabB_ok axt_80, fun hL => ax_con_nil⟩
theorem axr0_81 (hP : ∀ q ∈ rx_P, rx_QW q ∧ rx_ST rx_P (rx_DF, rx_FK) q) : ax_Row ax_wM0 (ax_XM 0) rx_P ax_APM0 rx_P (rx_DF, rx_FK) rxm_81 (axm_81, []) := fun hr => ⟨ax_tabB_ok axt_81, fun hL => ax_con_nil⟩
theorem axr0_82 (hP : ∀ q ∈ rx_P, rx_QW q ∧ rx_ST rx_P (rx_DF, rx_FK) q) : ax_Row ax_wM0 (ax_XM 0) rx_P ax_APM0 rx_P (rx_DF, rx_FK) rxm_82 (axm_82, []) := fun hr => ⟨ax_tabB_ok axt_82, fun hL => ax_con_nil⟩
theorem axr0_83 (hP : ∀ q ∈ rx_P, rx_QW q ∧ rx_ST rx_P (rx_DF, rx_FK) q) : ax_Row ax_wM0 (ax_XM 0) rx_P ax_APM0 rx_P (rx_DF, rx_FK) rxm_83 (axm_83, []) := fun hr => ⟨ax_tabB_ok axt_83, fun hL => ax_con_nil⟩
theorem axr0_84 (hP : ∀ q ∈ rx_P, rx_QW q ∧ rx_ST rx_P (rx_DF, rx_FK) q) : ax_Row ax_wM0 (ax_XM 0) rx_P ax_APM0 rx_P (rx_DF, rx_FK) rxm_84 (axm_84, []) := fun hr => ⟨ax_tabB_ok axt_84, fun hL => ax_con_nil⟩
theorem axr0_85 (hP : ∀ q ∈ rx_P, rx_QW q ∧ rx_ST rx_P (rx_DF, rx_FK) q) : ax_Row ax_wM0 (ax_XM 0) rx_P ax_APM0 rx_P (rx_DF, rx_FK) rxm_85 (axm_85, []) := fun hr => ⟨ax_tabB_ok axt_85, fun hL => ax_con_nil⟩
theorem axr0_86 (hP : ∀ q ∈ rx_P, rx_QW q ∧ rx_ST rx_P (rx_DF, rx_FK) q) : ax_Row ax_wM0 (ax_XM 0) rx_P ax_APM0 rx_P (rx_DF, rx_FK) rxm_86 (axm_86, []) := fun hr => ⟨ax_tabB_ok axt_86, fun hL => ax_con_nil⟩
theorem axr0_87 (hP : ∀ q ∈ rx_P, rx_QW q ∧ rx_ST rx_P (rx_DF, rx_FK) q) : ax_Row ax_wM0 (ax_XM 0) rx_P ax_APM0 rx_P (rx_DF, rx_FK) rxm_87 (axm_87, []) := fun hr => ⟨ax_tabB_ok axt_87, fun hL => ax_con_nil⟩
theorem axr0_88 (hP : ∀ q ∈ rx_P, rx_QW q ∧ rx_ST rx_P (rx_DF, rx_FK) q) : ax_Row ax_wM0 (ax_XM 0) rx_P ax_APM0 rx_P (rx_DF, rx_FK) rxm_88 (axm_88, []) := fun hr => ⟨ax_tabB_ok axt_88, fun hL => ax_con_nil⟩
theorem axr0_89 (hP : ∀ q ∈ rx_P, rx_QW q ∧ rx_ST rx_P (rx_DF, rx_FK) q) : ax_Row ax_wM0 (ax_XM 0) rx_P ax_APM0 rx_P (rx_DF, rx_FK) rxm_89 (axm_89, []) := fun hr => ⟨ax_tabB_ok axt_89, fun hL => ax_con_nil⟩
theorem axr0_90 (hP : ∀ q ∈ rx_P, rx_QW q ∧ rx_ST rx_P (rx_DF, rx_FK) q) : ax_Row ax_wM0 (ax_XM 0) rx_P ax_APM0 rx_P (rx_DF, rx_FK) rxm_90 (axm_90, []) := fun hr => ⟨ax_tabB_ok axt_90, fun hL => ax_con_nil⟩
theorem axr0_91 (hP : ∀ q ∈ rx_P, rx_QW q ∧ rx_ST rx_P (rx_DF, rx_FK) q) : ax_Row ax_wM0 (ax_XM 0) rx_P ax_APM0 rx_P (rx_DF, rx_FK) rxm_91 (axm_91, []) := fun hr => ⟨ax_tabB_ok axt_91, fun hL => ax_con_nil⟩
theorem axr0_92 (hP : ∀ q ∈ rx_P, rx_QW q ∧ rx_ST rx_P (rx_DF, rx_FK) q) : ax_Row ax_wM0 (ax_XM 0) rx_P ax_APM0 rx_P (rx_DF, rx_FK) rxm_92 (axm_92, []) := fun hr => ⟨ax_tabB_ok axt_92, fun hL => ax_con_nil⟩
theorem axr0_93 (hP : ∀ q ∈ rx_P, rx_QW q ∧ rx_ST rx_P (rx_DF, rx_FK) q) : ax_Row ax_wM0 (ax_XM 0) rx_P ax_APM0 rx_P (rx_DF, rx_FK) rxm_93 (axm_93, []) := fun hr => ⟨ax_tabB_ok axt_93, fun hL => ax_con_nil⟩
theorem axr0_94 (hP : ∀ q ∈ rx_P, rx_QW q ∧ rx_ST rx_P (rx_DF, rx_FK) q) : ax_Row ax_wM0 (ax_XM 0) rx_P ax_APM0 rx_P (rx_DF, rx_FK) rxm_94 (axm_94, []) := fun hr => ⟨ax_tabB_ok axt_94, fun hL => ax_con_nil⟩
theorem axr0_95 (hP : ∀ q ∈ rx_P, rx_QW q ∧ rx_ST rx_P (rx_DF, rx_FK) q) : ax_Row ax_wM0 (ax_XM 0) rx_P ax_APM0 rx_P (rx_DF, rx_FK) rxm_95 (axm_95, []) := fun hr => ⟨ax_tabB_ok axt_95, fun hL => ax_con_nil⟩
theorem axr0_96 (hP : ∀ q ∈ rx_P, rx_QW q ∧ rx_ST rx_P (rx_DF, rx_FK) q) : ax_Row ax_wM0 (ax_XM 0) rx_P ax_APM0 rx_P (rx_DF, rx_FK) rxm_96 (axm_96, []) := fun hr => ⟨ax_tabB_ok axt_96, fun hL => ax_con_nil⟩
theorem axr0_97 (hP : ∀ q ∈ rx_P, rx_QW q ∧ rx_ST rx_P (rx_DF, rx_FK) q) : ax_Row ax_wM0 (ax_XM 0) rx_P ax_APM0 rx_P (rx_DF, rx_FK) rxm_97 (axm_97, []) := fun hr => ⟨ax_tabB_ok axt_97, fun hL => ax_con_nil⟩
theorem axr0_98 (hP : ∀ q ∈ rx_P, rx_QW q ∧ rx_ST rx_P (rx_DF, rx_FK) q) : ax_Row ax_wM0 (ax_XM 0) rx_P ax_APM0 rx_P (rx_DF, rx_FK) rxm_98 (axm_98, []) := fun hr => ⟨ax_tabB_ok axt_98, fun hL => ax_con_nil⟩
theorem axr0_99 (hP : ∀ q ∈ rx_P, rx_QW q ∧ rx_ST rx_P (rx_DF, rx_FK) q) : ax_Row ax_wM0 (ax_XM 0) rx_P ax_APM0 rx_P (rx_DF, rx_FK) rxm_99 (axm_99, []) := fun hr => ⟨ax_tabB_ok axt_99, fun hL => ax_con_nil⟩
theorem axr0_100 (hP : ∀ q ∈ rx_P, rx_QW q ∧ rx_ST rx_P (rx_DF, rx_FK) q) : ax_Row ax_wM0 (ax_XM 0) rx_P ax_APM0 rx_P (rx_DF, rx_FK) rxm_100 (axm_100, []) := fun hr => ⟨ax_tabB_ok axt_100, fun hL => ax_con_nil⟩
theorem axr0_101 (hP : ∀ q ∈ rx_P, rx_QW q ∧ rx_ST rx_P (rx_DF, rx_FK) q) : ax_Row ax_wM0 (ax_XM 0) rx_P ax_APM0 rx_P (rx_DF, rx_FK) rxm_101 (axm_101, []) := fun hr => ⟨ax_tabB_ok axt_101, fun hL => ax_con_nil⟩
theorem axr0_102 (hP : ∀ q ∈ rx_P, rx_QW q ∧ rx_ST rx_P (rx_DF, rx_FK) q) : ax_Row ax_wM0 (ax_XM 0) rx_P ax_APM0 rx_P (rx_DF, rx_FK) rxm_102 (axm_102, []) := fun hr => ⟨ax_tabB_ok axt_102, fun hL => ax_con_nil⟩
theorem axr0_103 (hP : ∀ q ∈ rx_P, rx_QW q ∧ rx_ST rx_P (rx_DF, rx_FK) q) : ax_Row ax_wM0 (ax_XM 0) rx_P ax_APM0 rx_P (rx_DF, rx_FK) rxm_103 (axm_103, []) := fun hr => ⟨ax_tabB_ok axt_103, fun hL => ax_con_nil⟩
theorem axr0_104 (hP : ∀ q ∈ rx_P, rx_QW q ∧ rx_ST rx_P (rx_DF, rx_FK) q) : ax_Row ax_wM0 (ax_XM 0) rx_P ax_APM0 rx_P (rx_DF, rx_FK) rxm_104 (axm_104, []) := fun hr => ⟨ax_tabB_ok axt_104, fun hL => ax_con_nil⟩
theorem axr0_105 (hP : ∀ q ∈ rx_P, rx_QW q ∧ rx_ST rx_P (rx_DF, rx_FK) q) : ax_Row ax_wM0 (ax_XM 0) rx_P ax_APM0 rx_P (rx_DF, rx_FK) rxm_105 (axm_105, []) := fun hr => ⟨ax_tabB_ok axt_105, fun hL => ax_con_nil⟩
theorem axr0_106 (hP : ∀ q ∈ rx_P, rx_QW q ∧ rx_ST rx_P (rx_DF, rx_FK) q) : ax_Row ax_wM0 (ax_XM 0) rx_P ax_APM0 rx_P (rx_DF, rx_FK) rxm_106 (axm_106, []) := fun hr => ⟨ax_tabB_ok axt_106, fun hL => ax_con_nil⟩
theorem axr0_107 (hP : ∀ q ∈ rx_P, rx_QW q ∧ rx_ST rx_P (rx_DF, rx_FK) q) : ax_Row ax_wM0 (ax_XM 0) rx_P ax_APM0 rx_P (rx_DF, rx_FK) rxm_107 (axm_107, []) := fun hr => ⟨ax_tabB_ok axt_107, fun hL => ax_con_nil⟩
theorem axr0_108 (hP : ∀ q ∈ rx_P, rx_QW q ∧ rx_ST rx_P (rx_DF, rx_FK) q) : ax_Row ax_wM0 (ax_XM 0) rx_P ax_APM0 rx_P (rx_DF, rx_FK) rxm_108 (axm_108, []) := fun hr => ⟨ax_tabB_ok axt_108, fun hL => ax_con_nil⟩
theorem axr0_109 (hP : ∀ q ∈ rx_P, rx_QW q ∧ rx_ST rx_P (rx_DF, rx_FK) q) : ax_Row ax_wM0 (ax_XM 0) rx_P ax_APM0 rx_P (rx_DF, rx_FK) rxm_109 (axm_109, []) := fun hr => ⟨ax_tabB_ok axt_109, fun hL => ax_con_nil⟩
theorem axr0_110 (hP : ∀ q ∈ rx_P, rx_QW q ∧ rx_ST rx_P (rx_DF, rx_FK) q) : ax_Row ax_wM0 (ax_XM 0) rx_P ax_APM0 rx_P (rx_DF, rx_FK) rxm_110 (axm_110, []) := fun hr => ⟨ax_tabB_ok axt_110, fun hL => ax_con_nil⟩
theorem axr0_111 (hP : ∀ q ∈ rx_P, rx_QW q ∧ rx_ST rx_P (rx_DF, rx_FK) q) : ax_Row ax_wM0 (ax_XM 0) rx_P ax_APM0 rx_P (rx_DF, rx_FK) rxm_111 (axm_111, []) := fun hr => ⟨ax_tabB_ok axt_111, fun hL => ax_con_nil⟩
-- TurnNetModel.aboveOf: 1734 steps
set_option maxRecDepth 4000 in
theorem axk0_112_0 : ax_chk ax_wM0 rx_P (rx_DF, rx_FK) ax_APM0 (rx_n rxm_112) axm_112 (([702, 3], (1, [(0, 2147483648, 2147483657)], [], [], [])), [], [([7], (2, [(0, 0, 4294967295), (0, 2147483648, 2147483657)], [], [], []))]) [] [4] 3000 1 (([((4, 1, 2, ([702, 3, 7, 11], (3, [(0, 2147483648, 2147483658), (0, 0, 4294967295), (0, 2147483648, 2147483657)], [], [], []))), ())] : List ((Nat × Nat × Nat × ax_T) × ax_Tr 0)) : ax_Tr 1) = true := by decide +kernel
theorem axr0_112 (hP : ∀ q ∈ rx_P, rx_QW q ∧ rx_ST rx_P (rx_DF, rx_FK) q) : ax_Row ax_wM0 (ax_XM 0) rx_P ax_APM0 rx_P (rx_DF, rx_FK) rxm_112 (axm_112, axc0_112) := fun hr => ⟨ax_tabB_ok axt_112, fun hL => ax_con_cons (ax_chk_ok hP ax_XM0_ok hr hL (ax_tabB_ok axt_112) ax_ro_nil axk0_112_0) (ax_con_nil)⟩
set_option maxRecDepth 4000 in
theorem axs0_113 : ∀ x ∈ ([axu0_hzback, axu0_bR1, axu0_bR2, axu0_bR3] : List ax_RL), ax_RO ax_wM0 (ax_XM 0) x := ax_ro_cons axq0_hzback (ax_ro_cons axq0_bR1 (ax_ro_cons axq0_bR2 (ax_ro_cons axq0_bR3 (ax_ro_nil))))
-- TurnNetModel.back: 5388 steps
set_option maxRecDepth 4000 in
theorem axk0_113_0 : ax_chk ax_wM0 rx_P (rx_DF, rx_FK) ax_APM0 (rx_n rxm_113) axm_113 (([702, 3], (1, [(0, 0, 4294967295)], [], [], [(0, [80]), (1, []), (2, []), (25, []), (26, [])])), [(11, 56), (11, 57), (44, 999)], [([7], (2, [(0, 0, 4294967295), (0, 0, 4294967295)], [], [], [(0, [80]), (1, []), (2, []), (25, []), (26, [])]))]) [axu0_hzback, axu0_bR1, axu0_bR2, axu0_bR3] [] 3000 0 (() : ax_Tr 0) = true := by decide +kernel
theorem axr0_113 (hP : ∀ q ∈ rx_P, rx_QW q ∧ rx_ST rx_P (rx_DF, rx_FK) q) : ax_Row ax_wM0 (ax_XM 0) rx_P ax_APM0 rx_P (rx_DF, rx_FK) rxm_113 (axm_113, axc0_113) := fun hr => ⟨ax_tabB_ok axt_113, fun hL => ax_con_cons (ax_chk_ok hP ax_XM0_ok hr hL (ax_tabB_ok axt_113) axs0_113 axk0_113_0) (ax_con_nil)⟩
theorem axr0_114 (hP : ∀ q ∈ rx_P, rx_QW q ∧ rx_ST rx_P (rx_DF, rx_FK) q) : ax_Row ax_wM0 (ax_XM 0) rx_P ax_APM0 rx_P (rx_DF, rx_FK) rxm_114 (axm_114, axc0_114) := fun hr => ⟨ax_tabB_ok axt_114, fun hL => ax_con_nil⟩
theorem axr0_115 (hP : ∀ q ∈ rx_P, rx_QW q ∧ rx_ST rx_P (rx_DF, rx_FK) q) : ax_Row ax_wM0 (ax_XM 0) rx_P ax_APM0 rx_P (rx_DF, rx_FK) rxm_115 (axm_115, axc0_115) := fun hr => ⟨ax_tabB_ok axt_115, fun hL => ax_con_nil⟩
-- TurnNetModel.flips: 677 steps
set_option maxRecDepth 4000 in
theorem axk0_116_0 : ax_chk ax_wM0 rx_P (rx_DF, rx_FK) ax_APM0 (rx_n rxm_116) axm_116 (([702], (0, [], [], [], [])), [], [([3], (1, [(0, 0, 4294967295)], [], [], []))]) [] [4] 3000 1 (([((4, 1, 1, ([702, 3, 7], (2, [(0, 2147483648, 2147483668), (0, 0, 4294967295)], [], [], []))), ())] : List ((Nat × Nat × Nat × ax_T) × ax_Tr 0)) : ax_Tr 1) = true := by decide +kernel
theorem axr0_116 (hP : ∀ q ∈ rx_P, rx_QW q ∧ rx_ST rx_P (rx_DF, rx_FK) q) : ax_Row ax_wM0 (ax_XM 0) rx_P ax_APM0 rx_P (rx_DF, rx_FK) rxm_116 (axm_116, axc0_116) := fun hr => ⟨ax_tabB_ok axt_116, fun hL => ax_con_cons (ax_chk_ok hP ax_XM0_ok hr hL (ax_tabB_ok axt_116) ax_ro_nil axk0_116_0) (ax_con_nil)⟩
-- TurnNetModel.goSend: 120 steps
set_option maxRecDepth 4000 in
theorem axk0_117_0 : ax_chk ax_wM0 rx_P (rx_DF, rx_FK) ax_APM0 (rx_n rxm_117) axm_117 (([702, 3, 7], (2, [(0, 2147483648, 2147483657), (0, 2147483648, 2147483657)], [], [], [(3, [])])), [(44, 999)], [([11], (3, [(0, 2147483648, 2147483659), (0, 2147483648, 2147483657), (0, 2147483648, 2147483657)], [], [], []))]) [] [] 3000 0 (() : ax_Tr 0) = true := by decide +kernel
theorem axr0_117 (hP : ∀ q ∈ rx_P, rx_QW q ∧ rx_ST rx_P (rx_DF, rx_FK) q) : ax_Row ax_wM0 (ax_XM 0) rx_P ax_APM0 rx_P (rx_DF, rx_FK) rxm_117 (axm_117, axc0_117) := fun hr => ⟨ax_tabB_ok axt_117, fun hL => ax_con_cons (ax_chk_ok hP ax_XM0_ok hr hL (ax_tabB_ok axt_117) ax_ro_nil axk0_117_0) (ax_con_nil)⟩
set_option maxRecDepth 4000 in
theorem axs0_118 : ∀ x ∈ ([axu0_bS0, axu0_bS1, axu0_bS2, axu0_bS3, axu0_bS4] : List ax_RL), ax_RO ax_wM0 (ax_XM 0) x := ax_ro_cons axq0_bS0 (ax_ro_cons axq0_bS1 (ax_ro_cons axq0_bS2 (ax_ro_cons axq0_bS3 (ax_ro_cons axq0_bS4 (ax_ro_nil)))))
-- TurnNetModel.image: 5364 steps
set_option maxRecDepth 4000 in
theorem axk0_118_0 : ax_chk ax_wM0 rx_P (rx_DF, rx_FK) ax_APM0 (rx_n rxm_118) axm_118 (([702, 3], (1, [(0, 0, 4294967295)], [], [], [(0, [80]), (1, []), (2, []), (25, []), (26, [])])), [(73, 999), (74, 999)], [([7], (2, [(0, 0, 4294967295), (0, 0, 4294967295)], [], [], [(0, [80]), (1, []), (2, []), (25, []), (26, [])]))]) [axu0_bS0, axu0_bS1, axu0_bS2, axu0_bS3, axu0_bS4] [] 3000 0 (() : ax_Tr 0) = true := by decide +kernel
theorem axr0_118 (hP : ∀ q ∈ rx_P, rx_QW q ∧ rx_ST rx_P (rx_DF, rx_FK) q) : ax_Row ax_wM0 (ax_XM 0) rx_P ax_APM0 rx_P (rx_DF, rx_FK) rxm_118 (axm_118, axc0_118) := fun hr => ⟨ax_tabB_ok axt_118, fun hL => ax_con_cons (ax_chk_ok hP ax_XM0_ok hr hL (ax_tabB_ok axt_118) axs0_118 axk0_118_0) (ax_con_nil)⟩
