section
theorem axt_108 : ax_tabB (rx_cd rxm_108) axm_108 = true := by decide +kernel
/-- TurnNet.about: 62 steps -/
theorem axk_108_0 : ax_chk ax_wC rx_P (rx_DF, rx_FK) ax_APC (rx_n rxm_108) axm_108 (([3, 7], (2, [(0, 0, 4294967295), (2, 0, 0)], [], [], [(0, [80])])), [], [([11], (3, [(0, 0, 4294967295), (0, 0, 4294967295), (2, 0, 0)], [], [], [(0, [80])]))]) [] [] 3000 0 (() : ax_Tr 0) = true := by decide +kernel
theorem axr_108 (hP : ∀ q ∈ rx_P, rx_QW q ∧ rx_ST rx_P (rx_DF, rx_FK) q) : ax_Row ax_wC ax_XC rx_P ax_APC rx_P (rx_DF, rx_FK) rxm_108 (axm_108, axc_108) := fun hr => ⟨ax_tabB_ok axt_108, fun hL => ax_con_cons (ax_chk_ok hP ax_XC_ok hr hL (ax_tabB_ok axt_108) ax_ro_nil axk_108_0) (ax_con_nil)⟩
theorem axt_109 : ax_tabB (rx_cd rxm_109) axm_109 = true := by decide +kernel
theorem axs_109_1 : ∀ x ∈ ([axu_fd0, axu_fd1, axu_fd2, axu_fd3, axu_fd4, axu_fd5] : List ax_RL), ax_RO ax_wC ax_XC x := ax_ro_cons axq_fd0 (ax_ro_cons axq_fd1 (ax_ro_cons axq_fd2 (ax_ro_cons axq_fd3 (ax_ro_cons axq_fd4 (ax_ro_cons axq_fd5 (ax_ro_nil))))))
/-- TurnNet.feed: 31 steps -/
theorem axk_109_1 : ax_chk ax_wC rx_P (rx_DF, rx_FK) ax_APC (rx_n rxm_109) axm_109 (([10, 7, 11, 15, 19, 23], (7, [(0, 2147483648, 2147484428), (0, 0, 4294967295), (0, 0, 4294967295), (0, 0, 4294967295), (0, 0, 4294967295), (0, 0, 4294967295), (1, 0, 0)], [(42, 4, 27)], [], [(0, [80]), (30, [3])])), [(2, 1), (20, 999)], [([35], (9, [(0, 2147483648, 2147484448), (1, 0, 0), (0, 2147483648, 2147484428), (0, 0, 4294967295), (0, 0, 4294967295), (0, 0, 4294967295), (0, 0, 4294967295), (0, 0, 4294967295), (1, 0, 0)], [(42, 4, 35)], [], [(0, [80]), (30, [31]), (37, [3, 7, 11, 15, 19, 23, 31])]))]) [axu_fd0, axu_fd1, axu_fd2, axu_fd3, axu_fd4, axu_fd5] [] 3000 0 (() : ax_Tr 0) = true := by decide +kernel
/-- TurnNet.feed: 9 steps -/
theorem axk_109_0 : ax_chk ax_wC rx_P (rx_DF, rx_FK) ax_APC (rx_n rxm_109) axm_109 (([10, 7, 11, 15, 19, 23], (7, [(0, 2147484429, 2147484448), (0, 0, 4294967295), (0, 0, 4294967295), (0, 0, 4294967295), (0, 0, 4294967295), (0, 0, 4294967295), (1, 0, 0)], [(42, 4, 27)], [], [(0, [80]), (30, [3])])), [], [([17179869180], (7, [(0, 2147484429, 2147484448), (0, 0, 4294967295), (0, 0, 4294967295), (0, 0, 4294967295), (0, 0, 4294967295), (0, 0, 4294967295), (1, 0, 0)], [(42, 4, 27)], [], [(0, [80]), (30, [3])]))]) [] [] 3000 0 (() : ax_Tr 0) = true := by decide +kernel
theorem axr_109 (hP : ∀ q ∈ rx_P, rx_QW q ∧ rx_ST rx_P (rx_DF, rx_FK) q) : ax_Row ax_wC ax_XC rx_P ax_APC rx_P (rx_DF, rx_FK) rxm_109 (axm_109, axc_109) := fun hr => ⟨ax_tabB_ok axt_109, fun hL => ax_con_cons (ax_chk_ok hP ax_XC_ok hr hL (ax_tabB_ok axt_109) ax_ro_nil axk_109_0) (ax_con_cons (ax_chk_ok hP ax_XC_ok hr hL (ax_tabB_ok axt_109) axs_109_1 axk_109_1) (ax_con_nil))⟩
theorem axt_110 : ax_tabB (rx_cd rxm_110) axm_110 = true := by decide +kernel
/-- TurnNet.hopsWhereWays: 58 steps -/
theorem axk_110_0 : ax_chk ax_wC rx_P (rx_DF, rx_FK) ax_APC (rx_n rxm_110) axm_110 (([3], (1, [(2, 0, 0)], [], [], [(0, [80])])), [], [([7], (2, [(0, 0, 4294967295), (2, 0, 0)], [], [], [(0, [80])]))]) [] [4, 17] 3000 2 (([((4, 1, 2, ([3, 7, 11, 2], (3, [(0, 2147483648, 2147483667), (0, 0, 4294967295), (2, 0, 0)], [], [], [(0, [80])]))), ([((17, 1, 4, ([3, 15, 11, 19], (6, [(0, 2147483649, 2147483658), (0, 2147483648, 2147483667), (0, 0, 4294967295), (0, 2147483648, 2147483657), (0, 0, 4294967295), (2, 0, 0)], [(14, 0, 23), (3, 0, 14)], [], [(0, [80])]))), ())] : List ((Nat × Nat × Nat × ax_T) × ax_Tr 0)))] : List ((Nat × Nat × Nat × ax_T) × ax_Tr 1)) : ax_Tr 2) = true := by decide +kernel
theorem axr_110 (hP : ∀ q ∈ rx_P, rx_QW q ∧ rx_ST rx_P (rx_DF, rx_FK) q) : ax_Row ax_wC ax_XC rx_P ax_APC rx_P (rx_DF, rx_FK) rxm_110 (axm_110, axc_110) := fun hr => ⟨ax_tabB_ok axt_110, fun hL => ax_con_cons (ax_chk_ok hP ax_XC_ok hr hL (ax_tabB_ok axt_110) ax_ro_nil axk_110_0) (ax_con_nil)⟩
theorem axt_111 : ax_tabB (rx_cd rxm_111) axm_111 = true := by decide +kernel
/-- TurnNet.link: 101 steps -/
theorem axk_111_0 : ax_chk ax_wC rx_P (rx_DF, rx_FK) ax_APC (rx_n rxm_111) axm_111 (([3, 7, 11], (3, [(0, 0, 4294967295), (0, 0, 4294967295), (2, 0, 0)], [], [], [(0, [80])])), [], [([15], (4, [(0, 2147483647, 2147483657), (0, 0, 4294967295), (0, 0, 4294967295), (2, 0, 0)], [], [], [(0, [80])]))]) [] [] 3000 0 (() : ax_Tr 0) = true := by decide +kernel
theorem axr_111 (hP : ∀ q ∈ rx_P, rx_QW q ∧ rx_ST rx_P (rx_DF, rx_FK) q) : ax_Row ax_wC ax_XC rx_P ax_APC rx_P (rx_DF, rx_FK) rxm_111 (axm_111, axc_111) := fun hr => ⟨ax_tabB_ok axt_111, fun hL => ax_con_cons (ax_chk_ok hP ax_XC_ok hr hL (ax_tabB_ok axt_111) ax_ro_nil axk_111_0) (ax_con_nil)⟩
theorem axt_112 : ax_tabB (rx_cd rxm_112) axm_112 = true := by decide +kernel
theorem axr_112 (hP : ∀ q ∈ rx_P, rx_QW q ∧ rx_ST rx_P (rx_DF, rx_FK) q) : ax_Row ax_wC ax_XC rx_P ax_APC rx_P (rx_DF, rx_FK) rxm_112 (axm_112, axc_112) := fun hr => ⟨ax_tabB_ok axt_112, fun hL => ax_con_nil⟩
theorem axt_113 : ax_tabB (rx_cd rxm_113) axm_113 = true := by decide +kernel
theorem axr_113 (hP : ∀ q ∈ rx_P, rx_QW q ∧ rx_ST rx_P (rx_DF, rx_FK) q) : ax_Row ax_wC ax_XC rx_P ax_APC rx_P (rx_DF, rx_FK) rxm_113 (axm_113, axc_113) := fun hr => ⟨ax_tabB_ok axt_113, fun hL => ax_con_nil⟩
theorem axt_114 : ax_tabB (rx_cd rxm_114) axm_114 = true := by decide +kernel
theorem axr_114 (hP : ∀ q ∈ rx_P, rx_QW q ∧ rx_ST rx_P (rx_DF, rx_FK) q) : ax_Row ax_wC ax_XC rx_P ax_APC rx_P (rx_DF, rx_FK) rxm_114 (axm_114, axc_114) := fun hr => ⟨ax_tabB_ok axt_114, fun hL => ax_con_nil⟩
theorem axt_115 : ax_tabB (rx_cd rxm_115) axm_115 = true := by decide +kernel
theorem axr_115 (hP : ∀ q ∈ rx_P, rx_QW q ∧ rx_ST rx_P (rx_DF, rx_FK) q) : ax_Row ax_wC ax_XC rx_P ax_APC rx_P (rx_DF, rx_FK) rxm_115 (axm_115, axc_115) := fun hr => ⟨ax_tabB_ok axt_115, fun hL => ax_con_nil⟩
theorem axt_116 : ax_tabB (rx_cd rxm_116) axm_116 = true := by decide +kernel
theorem axr_116 (hP : ∀ q ∈ rx_P, rx_QW q ∧ rx_ST rx_P (rx_DF, rx_FK) q) : ax_Row ax_wC ax_XC rx_P ax_APC rx_P (rx_DF, rx_FK) rxm_116 (axm_116, axc_116) := fun hr => ⟨ax_tabB_ok axt_116, fun hL => ax_con_nil⟩
theorem axt_117 : ax_tabB (rx_cd rxm_117) axm_117 = true := by decide +kernel
theorem axr_117 (hP : ∀ q ∈ rx_P, rx_QW q ∧ rx_ST rx_P (rx_DF, rx_FK) q) : ax_Row ax_wC ax_XC rx_P ax_APC rx_P (rx_DF, rx_FK) rxm_117 (axm_117, axc_117) := fun hr => ⟨ax_tabB_ok axt_117, fun hL => ax_con_nil⟩
theorem axt_118 : ax_tabB (rx_cd rxm_118) axm_118 = true := by decide +kernel
theorem axr_118 (hP : ∀ q ∈ rx_P, rx_QW q ∧ rx_ST rx_P (rx_DF, rx_FK) q) : ax_Row ax_wC ax_XC rx_P ax_APC rx_P (rx_DF, rx_FK) rxm_118 (axm_118, axc_118) := fun hr => ⟨ax_tabB_ok axt_118, fun hL => ax_con_nil⟩
theorem axt_119 : ax_tabB (rx_cd rxm_119) axm_119 = true := by decide +kernel
theorem axr_119 (hP : ∀ q ∈ rx_P, rx_QW q ∧ rx_ST rx_P (rx_DF, rx_FK) q) : ax_Row ax_wC ax_XC rx_P ax_APC rx_P (rx_DF, rx_FK) rxm_119 (axm_119, axc_119) := fun hr => ⟨ax_tabB_ok axt_119, fun hL => ax_con_nil⟩
theorem axt_120 : ax_tabB (rx_cd rxm_120) axm_120 = true := by decide +kernel
theorem axr_120 (hP : ∀ q ∈ rx_P, rx_QW q ∧ rx_ST rx_P (rx_DF, rx_FK) q) : ax_Row ax_wC ax_XC rx_P ax_APC rx_P (rx_DF, rx_FK) rxm_120 (axm_120, axc_120) := fun hr => ⟨ax_tabB_ok axt_120, fun hL => ax_con_nil⟩
theorem axt_121 : ax_tabB (rx_cd rxm_121) axm_121 = true := by decide +kernel
theorem axr_121 (hP : ∀ q ∈ rx_P, rx_QW q ∧ rx_ST rx_P (rx_DF, rx_FK) q) : ax_Row ax_wC ax_XC rx_P ax_APC rx_P (rx_DF, rx_FK) rxm_121 (axm_121, axc_121) := fun hr => ⟨ax_tabB_ok axt_121, fun hL => ax_con_nil⟩
theorem axt_122 : ax_tabB (rx_cd rxm_122) axm_122 = true := by decide +kernel
theorem axr_122 (hP : ∀ q ∈ rx_P, rx_QW q ∧ rx_ST rx_P (rx_DF, rx_FK) q) : ax_Row ax_wC ax_XC rx_P ax_APC rx_P (rx_DF, rx_FK) rxm_122 (axm_122, axc_122) := fun hr => ⟨ax_tabB_ok axt_122, fun hL => ax_con_nil⟩
theorem axt_123 : ax_tabB (rx_cd rxm_123) axm_123 = true := by decide +kernel
theorem axr_123 (hP : ∀ q ∈ rx_P, rx_QW q ∧ rx_ST rx_P (rx_DF, rx_FK) q) : ax_Row ax_wC ax_XC rx_P ax_APC rx_P (rx_DF, rx_FK) rxm_123 (axm_123, axc_123) := fun hr => ⟨ax_tabB_ok axt_123, fun hL => ax_con_nil⟩
theorem axt_124 : ax_tabB (rx_cd rxm_124) axm_124 = true := by decide +kernel
theorem axr_124 (hP : ∀ q ∈ rx_P, rx_QW q ∧ rx_ST rx_P (rx_DF, rx_FK) q) : ax_Row ax_wC ax_XC rx_P ax_APC rx_P (rx_DF, rx_FK) rxm_124 (axm_124, axc_124) := fun hr => ⟨ax_tabB_ok axt_124, fun hL => ax_con_nil⟩
theorem axt_125 : ax_tabB (rx_cd rxm_125) axm_125 = true := by decide +kernel
theorem axr_125 (hP : ∀ q ∈ rx_P, rx_QW q ∧ rx_ST rx_P (rx_DF, rx_FK) q) : ax_Row ax_wC ax_XC rx_P ax_APC rx_P (rx_DF, rx_FK) rxm_125 (axm_125, axc_125) := fun hr => ⟨ax_tabB_ok axt_125, fun hL => ax_con_nil⟩
theorem axt_126 : ax_tabB (rx_cd rxm_126) axm_126 = true := by decide +kernel
theorem axr_126 (hP : ∀ q ∈ rx_P, rx_QW q ∧ rx_ST rx_P (rx_DF, rx_FK) q) : ax_Row ax_wC ax_XC rx_P ax_APC rx_P (rx_DF, rx_FK) rxm_126 (axm_126, axc_126) := fun hr => ⟨ax_tabB_ok axt_126, fun hL => ax_con_nil⟩
theorem axt_127 : ax_tabB (rx_cd rxm_127) axm_127 = true := by decide +kernel
theorem axr_127 (hP : ∀ q ∈ rx_P, rx_QW q ∧ rx_ST rx_P (rx_DF, rx_FK) q) : ax_Row ax_wC ax_XC rx_P ax_APC rx_P (rx_DF, rx_FK) rxm_127 (axm_127, axc_127) := fun hr => ⟨ax_tabB_ok axt_127, fun hL => ax_con_nil⟩
theorem axt_128 : ax_tabB (rx_cd rxm_128) axm_128 = true := by decide +kernel
theorem axr_128 (hP : ∀ q ∈ rx_P, rx_QW q ∧ rx_ST rx_P (rx_DF, rx_FK) q) : ax_Row ax_wC ax_XC rx_P ax_APC rx_P (rx_DF, rx_FK) rxm_128 (axm_128, axc_128) := fun hr => ⟨ax_tabB_ok axt_128, fun hL => ax_con_nil⟩
theorem axt_129 : ax_tabB (rx_cd rxm_129) axm_129 = true := by decide +kernel
theorem axr_129 (hP : ∀ q ∈ rx_P, rx_QW q ∧ rx_ST rx_P (rx_DF, rx_FK) q) : ax_Row ax_wC ax_XC rx_P ax_APC rx_P (rx_DF, rx_FK) rxm_129 (axm_129, axc_129) := fun hr => ⟨ax_tabB_ok axt_129, fun hL => ax_con_nil⟩
theorem axt_130 : ax_tabB (rx_cd rxm_130) axm_130 = true := by decide +kernel
theorem axr_130 (hP : ∀ q ∈ rx_P, rx_QW q ∧ rx_ST rx_P (rx_DF, rx_FK) q) : ax_Row ax_wC ax_XC rx_P ax_APC rx_P (rx_DF, rx_FK) rxm_130 (axm_130, axc_130) := fun hr => ⟨ax_tabB_ok axt_130, fun hL => ax_con_nil⟩
theorem axt_131 : ax_tabB (rx_cd rxm_131) axm_131 = true := by decide +kernel
theorem axr_131 (hP : ∀ q ∈ rx_P, rx_QW q ∧ rx_ST rx_P (rx_DF, rx_FK) q) : ax_Row ax_wC ax_XC rx_P ax_APC rx_P (rx_DF, rx_FK) rxm_131 (axm_131, axc_131) := fun hr => ⟨ax_tabB_ok axt_131, fun hL => ax_con_nil⟩
theorem axt_132 : ax_tabB (rx_cd rxm_132) axm_132 = true := by decide +kernel
theorem axr_132 (hP : ∀ q ∈ rx_P, rx_QW q ∧ rx_ST rx_P (rx_DF, rx_FK) q) : ax_Row ax_wC ax_XC rx_P ax_APC rx_P (rx_DF, rx_FK) rxm_132 (axm_132, axc_132) := fun hr => ⟨ax_tabB_ok axt_132, fun hL => ax_con_nil⟩
theorem axt_133 : ax_tabB (rx_cd rxm_133) axm_133 = true := by decide +kernel
theorem axr_133 (hP : ∀ q ∈ rx_P, rx_QW q ∧ rx_ST rx_P (rx_DF, rx_FK) q) : ax_Row ax_wC ax_XC rx_P ax_APC rx_P (rx_DF, rx_FK) rxm_133 (axm_133, axc_133) := fun hr => ⟨ax_tabB_ok axt_133, fun hL => ax_con_nil⟩
theorem axt_134 : ax_tabB (rx_cd rxm_134) axm_134 = true := by decide +kernel
/-- TurnNet$Graph.countApart: 38 steps -/
theorem axk_134_0 : ax_chk ax_wC rx_P (rx_DF, rx_FK) ax_APC (rx_n rxm_134) axm_134 (([3, 7, 11, 15], (4, [(0, 0, 4294967295), (0, 2147483648, 2147483657), (0, 2147483648, 2147483657), (2, 5, 0)], [], [], [])), [(34, 999), (35, 999)], [([19], (5, [(0, 2147483648, 2147483668), (0, 0, 4294967295), (0, 2147483648, 2147483657), (0, 2147483648, 2147483657), (2, 5, 0)], [], [], []))]) [] [3, 35] 3000 1 (([((3, 1, 4, ([3, 7, 11, 15, 19, 2], (5, [(0, 2147483648, 2147483668), (0, 0, 4294967295), (0, 2147483648, 2147483657), (0, 2147483648, 2147483657), (2, 5, 0)], [], [], []))), ()), ((35, 1, 4, ([3, 7, 11, 15, 19, 19], (5, [(0, 2147483648, 2147483668), (0, 0, 4294967295), (0, 2147483648, 2147483657), (0, 2147483648, 2147483657), (2, 5, 0)], [(3, 0, 14)], [], []))), ())] : List ((Nat × Nat × Nat × ax_T) × ax_Tr 0)) : ax_Tr 1) = true := by decide +kernel
theorem axr_134 (hP : ∀ q ∈ rx_P, rx_QW q ∧ rx_ST rx_P (rx_DF, rx_FK) q) : ax_Row ax_wC ax_XC rx_P ax_APC rx_P (rx_DF, rx_FK) rxm_134 (axm_134, axc_134) := fun hr => ⟨ax_tabB_ok axt_134, fun hL => ax_con_cons (ax_chk_ok hP ax_XC_ok hr hL (ax_tabB_ok axt_134) ax_ro_nil axk_134_0) (ax_con_nil)⟩
theorem axt_135 : ax_tabB (rx_cd rxm_135) axm_135 = true := by decide +kernel
/-- TurnNet$Graph.parts: 112 steps -/
theorem axk_135_0 : ax_chk ax_wC rx_P (rx_DF, rx_FK) ax_APC (rx_n rxm_135) axm_135 (([3, 7, 11], (3, [(0, 0, 4294967295), (0, 2147483648, 2147483657), (2, 5, 0)], [], [], [])), [(33, 999)], [([15], (4, [(0, 2147483648, 2147483649), (0, 0, 4294967295), (0, 2147483648, 2147483657), (2, 5, 0)], [], [], []))]) [] [5, 67, 103] 3000 2 (([((5, 1, 4, ([3, 7, 11, 15, 19, 2], (5, [(0, 2147483648, 2147483668), (0, 0, 4294967295), (0, 0, 4294967295), (0, 2147483648, 2147483657), (2, 5, 0)], [], [], []))), ([] : List ((Nat × Nat × Nat × ax_T) × ax_Tr 0))), ((67, 1, 4, ([3, 7, 11, 15, 19, 2], (5, [(0, 2147483648, 2147483667), (0, 0, 4294967295), (0, 0, 4294967295), (0, 2147483648, 2147483657), (2, 5, 0)], [(3, 0, 14)], [], []))), ([((103, 1, 5, ([3, 7, 11, 15, 19, 23], (7, [(0, 2147483649, 2147483658), (0, 2147483648, 2147483667), (0, 2147483648, 2147483657), (0, 0, 4294967295), (0, 0, 4294967295), (0, 2147483648, 2147483657), (2, 5, 0)], [(3, 8, 170), (14, 0, 27), (3, 0, 14)], [], []))), ())] : List ((Nat × Nat × Nat × ax_T) × ax_Tr 0)))] : List ((Nat × Nat × Nat × ax_T) × ax_Tr 1)) : ax_Tr 2) = true := by decide +kernel
theorem axr_135 (hP : ∀ q ∈ rx_P, rx_QW q ∧ rx_ST rx_P (rx_DF, rx_FK) q) : ax_Row ax_wC ax_XC rx_P ax_APC rx_P (rx_DF, rx_FK) rxm_135 (axm_135, axc_135) := fun hr => ⟨ax_tabB_ok axt_135, fun hL => ax_con_cons (ax_chk_ok hP ax_XC_ok hr hL (ax_tabB_ok axt_135) ax_ro_nil axk_135_0) (ax_con_nil)⟩
theorem axt_136 : ax_tabB (rx_cd rxm_136) axm_136 = true := by decide +kernel
/-- TurnNet$Graph.see: 20 steps -/
theorem axk_136_0 : ax_chk ax_wC rx_P (rx_DF, rx_FK) ax_APC (rx_n rxm_136) axm_136 (([3, 7], (2, [(0, 0, 4294967295), (2, 5, 0)], [], [], [])), [(32, 999)], [([2], (2, [(0, 0, 4294967295), (2, 5, 0)], [], [], []))]) [] [2] 3000 1 (([((2, 1, 2, ([3, 7, 11], (3, [(0, 2147483648, 2147483658), (0, 0, 4294967295), (2, 5, 0)], [], [], []))), ())] : List ((Nat × Nat × Nat × ax_T) × ax_Tr 0)) : ax_Tr 1) = true := by decide +kernel
theorem axr_136 (hP : ∀ q ∈ rx_P, rx_QW q ∧ rx_ST rx_P (rx_DF, rx_FK) q) : ax_Row ax_wC ax_XC rx_P ax_APC rx_P (rx_DF, rx_FK) rxm_136 (axm_136, axc_136) := fun hr => ⟨ax_tabB_ok axt_136, fun hL => ax_con_cons (ax_chk_ok hP ax_XC_ok hr hL (ax_tabB_ok axt_136) ax_ro_nil axk_136_0) (ax_con_nil)⟩
theorem axt_137 : ax_tabB (rx_cd rxm_137) axm_137 = true := by decide +kernel
theorem axr_137 (hP : ∀ q ∈ rx_P, rx_QW q ∧ rx_ST rx_P (rx_DF, rx_FK) q) : ax_Row ax_wC ax_XC rx_P ax_APC rx_P (rx_DF, rx_FK) rxm_137 (axm_137, axc_137) := fun hr => ⟨ax_tabB_ok axt_137, fun hL => ax_con_nil⟩
theorem axt_138 : ax_tabB (rx_cd rxm_138) axm_138 = true := by decide +kernel
theorem axs_138_0 : ∀ x ∈ ([axu_hsK] : List ax_RL), ax_RO ax_wC ax_XC x := ax_ro_cons axq_hsK (ax_ro_nil)
/-- TurnNet$History.keep: 176 steps -/
theorem axk_138_0 : ax_chk ax_wC rx_P (rx_DF, rx_FK) ax_APC (rx_n rxm_138) axm_138 (([206, 3], (1, [(2, 10, 0)], [], [], [])), [(9, 1), (9, 2), (9, 3), (10, 0), (10, 1), (10, 2), (10, 3), (10, 4), (40, 999), (41, 999), (42, 999), (43, 999)], [([2], (1, [(2, 10, 0)], [], [], [(0, [80])]))]) [axu_hsK] [] 3000 0 (() : ax_Tr 0) = true := by decide +kernel
theorem axr_138 (hP : ∀ q ∈ rx_P, rx_QW q ∧ rx_ST rx_P (rx_DF, rx_FK) q) : ax_Row ax_wC ax_XC rx_P ax_APC rx_P (rx_DF, rx_FK) rxm_138 (axm_138, axc_138) := fun hr => ⟨ax_tabB_ok axt_138, fun hL => ax_con_cons (ax_chk_ok hP ax_XC_ok hr hL (ax_tabB_ok axt_138) axs_138_0 axk_138_0) (ax_con_nil)⟩
theorem axt_139 : ax_tabB (rx_cd rxm_139) axm_139 = true := by decide +kernel
/-- TurnNet$Net.copyFrom: 59 steps -/
theorem axk_139_0 : ax_chk ax_wC rx_P (rx_DF, rx_FK) ax_APC (rx_n rxm_139) axm_139 (([14, 50], (1, [(0, 2147483648, 2147483658)], [(50, 0, 3)], [], [])), [(1, 0), (1, 1), (1, 2), (1, 3), (1, 4), (1, 5), (14, 999), (15, 999), (16, 999), (17, 999), (18, 999), (19, 999)], [([2], (1, [(0, 2147483648, 2147483658)], [(14, 0, 3)], [], []))]) [] [] 3000 0 (() : ax_Tr 0) = true := by decide +kernel
theorem axr_139 (hP : ∀ q ∈ rx_P, rx_QW q ∧ rx_ST rx_P (rx_DF, rx_FK) q) : ax_Row ax_wC ax_XC rx_P ax_APC rx_P (rx_DF, rx_FK) rxm_139 (axm_139, axc_139) := fun hr => ⟨ax_tabB_ok axt_139, fun hL => ax_con_cons (ax_chk_ok hP ax_XC_ok hr hL (ax_tabB_ok axt_139) ax_ro_nil axk_139_0) (ax_con_nil)⟩
theorem axt_140 : ax_tabB (rx_cd rxm_140) axm_140 = true := by decide +kernel
/-- TurnNet$Order.rate: 72 steps -/
theorem axk_140_0 : ax_chk ax_wC rx_P (rx_DF, rx_FK) ax_APC (rx_n rxm_140) axm_140 (([3, 7, 11], (3, [(0, 0, 4294967295), (0, 0, 4294967295), (2, 3, 0)], [], [], [])), [(21, 999), (22, 999), (23, 999), (24, 999)], [([2], (3, [(0, 0, 4294967295), (0, 0, 4294967295), (2, 3, 0)], [], [], []))]) [] [21] 3000 1 (([((21, 1, 3, ([3, 7, 11, 15], (4, [(0, 2147483648, 2147483658), (0, 0, 4294967295), (0, 0, 4294967295), (2, 3, 0)], [(3, 4, 82), (3, 0, 14)], [], []))), ())] : List ((Nat × Nat × Nat × ax_T) × ax_Tr 0)) : ax_Tr 1) = true := by decide +kernel
theorem axr_140 (hP : ∀ q ∈ rx_P, rx_QW q ∧ rx_ST rx_P (rx_DF, rx_FK) q) : ax_Row ax_wC ax_XC rx_P ax_APC rx_P (rx_DF, rx_FK) rxm_140 (axm_140, axc_140) := fun hr => ⟨ax_tabB_ok axt_140, fun hL => ax_con_cons (ax_chk_ok hP ax_XC_ok hr hL (ax_tabB_ok axt_140) ax_ro_nil axk_140_0) (ax_con_nil)⟩
theorem axt_141 : ax_tabB (rx_cd rxm_141) axm_141 = true := by decide +kernel
theorem axr_141 (hP : ∀ q ∈ rx_P, rx_QW q ∧ rx_ST rx_P (rx_DF, rx_FK) q) : ax_Row ax_wC ax_XC rx_P ax_APC rx_P (rx_DF, rx_FK) rxm_141 (axm_141, axc_141) := fun hr => ⟨ax_tabB_ok axt_141, fun hL => ax_con_nil⟩
theorem axt_142 : ax_tabB (rx_cd rxm_142) axm_142 = true := by decide +kernel
theorem axs_142_4 : ∀ x ∈ ([axu_rn1a_7, axu_rn1b_7, axu_rn3a_7, axu_rn3b_7, axu_rn5_7] : List ax_RL), ax_RO ax_wC ax_XC x := ax_ro_cons axq_rn1a_7 (ax_ro_cons axq_rn1b_7 (ax_ro_cons axq_rn3a_7 (ax_ro_cons axq_rn3b_7 (ax_ro_cons axq_rn5_7 (ax_ro_nil)))))
/-- TurnNet$Reader.readNumber: 32 steps -/
theorem axk_142_4 : ax_chk ax_wC rx_P (rx_DF, rx_FK) ax_APC (rx_n rxm_142) axm_142 (([42, 4, 12], (2, [(1, 0, 0), (1, 0, 0)], [], [], [(30, [3]), (53, [3, 7]), (77, [3, 7])])), [(2, 3), (2, 4), (2, 5), (2, 6), (2, 7), (2, 8)], [([0], (2, [(1, 0, 0), (1, 0, 0)], [], [], [(63, [3])])), ([4], (3, [(0, 2147483649, 2147483651), (1, 0, 0), (1, 0, 0)], [(42, 32, 11)], [], [(50, [3, 7]), (66, [3, 7, 11])]))]) [axu_rn1a_7, axu_rn1b_7, axu_rn3a_7, axu_rn3b_7, axu_rn5_7] [] 3000 0 (() : ax_Tr 0) = true := by decide +kernel
theorem axs_142_3 : ∀ x ∈ ([axu_rn4_4, axu_rn4_5, axu_rn1a_6, axu_rn1b_6, axu_rn2_6, axu_rn4_6] : List ax_RL), ax_RO ax_wC ax_XC x := ax_ro_cons axq_rn4_4 (ax_ro_cons axq_rn4_5 (ax_ro_cons axq_rn1a_6 (ax_ro_cons axq_rn1b_6 (ax_ro_cons axq_rn2_6 (ax_ro_cons axq_rn4_6 (ax_ro_nil))))))
/-- TurnNet$Reader.readNumber: 28 steps -/
theorem axk_142_3 : ax_chk ax_wC rx_P (rx_DF, rx_FK) ax_APC (rx_n rxm_142) axm_142 (([42, 0, 11], (3, [(0, 2147483647, 2147483657), (1, 0, 0), (1, 0, 0)], [], [], [(30, [3]), (53, [3, 7]), (76, [3, 7]), (103, [3, 7, 11])])), [(2, 3), (2, 4), (2, 5), (2, 6), (2, 7), (2, 8)], [([0], (3, [(0, 2147483647, 2147483657), (1, 0, 0), (1, 0, 0)], [], [], [(63, [3])])), ([4], (4, [(0, 2147483648, 2147483657), (0, 2147483647, 2147483657), (1, 0, 0), (1, 0, 0)], [(42, 32, 15)], [], [(50, [3, 7]), (104, [3, 7, 15])]))]) [axu_rn4_4, axu_rn4_5, axu_rn1a_6, axu_rn1b_6, axu_rn2_6, axu_rn4_6] [] 3000 0 (() : ax_Tr 0) = true := by decide +kernel
theorem axs_142_2 : ∀ x ∈ ([axu_rn4_4, axu_rn1a_5, axu_rn1b_5, axu_rn2_5, axu_rn4_5, axu_rn4_6] : List ax_RL), ax_RO ax_wC ax_XC x := ax_ro_cons axq_rn4_4 (ax_ro_cons axq_rn1a_5 (ax_ro_cons axq_rn1b_5 (ax_ro_cons axq_rn2_5 (ax_ro_cons axq_rn4_5 (ax_ro_cons axq_rn4_6 (ax_ro_nil))))))
/-- TurnNet$Reader.readNumber: 28 steps -/
theorem axk_142_2 : ax_chk ax_wC rx_P (rx_DF, rx_FK) ax_APC (rx_n rxm_142) axm_142 (([42, 0, 11], (3, [(0, 2147483647, 2147483657), (1, 0, 0), (1, 0, 0)], [], [], [(30, [3]), (53, [3, 7]), (75, [3, 7]), (103, [3, 7, 11])])), [(2, 3), (2, 4), (2, 5), (2, 6), (2, 7), (2, 8)], [([0], (3, [(0, 2147483647, 2147483657), (1, 0, 0), (1, 0, 0)], [], [], [(63, [3])])), ([4], (4, [(0, 2147483648, 2147483657), (0, 2147483647, 2147483657), (1, 0, 0), (1, 0, 0)], [(42, 32, 15)], [], [(50, [3, 7]), (104, [3, 7, 15])]))]) [axu_rn4_4, axu_rn1a_5, axu_rn1b_5, axu_rn2_5, axu_rn4_5, axu_rn4_6] [] 3000 0 (() : ax_Tr 0) = true := by decide +kernel
theorem axs_142_1 : ∀ x ∈ ([axu_rn1a_4, axu_rn1b_4, axu_rn2_4, axu_rn4_4, axu_rn4_5, axu_rn4_6] : List ax_RL), ax_RO ax_wC ax_XC x := ax_ro_cons axq_rn1a_4 (ax_ro_cons axq_rn1b_4 (ax_ro_cons axq_rn2_4 (ax_ro_cons axq_rn4_4 (ax_ro_cons axq_rn4_5 (ax_ro_cons axq_rn4_6 (ax_ro_nil))))))
/-- TurnNet$Reader.readNumber: 28 steps -/
theorem axk_142_1 : ax_chk ax_wC rx_P (rx_DF, rx_FK) ax_APC (rx_n rxm_142) axm_142 (([42, 0, 11], (3, [(0, 2147483647, 2147483657), (1, 0, 0), (1, 0, 0)], [], [], [(30, [3]), (53, [3, 7]), (74, [3, 7]), (103, [3, 7, 11])])), [(2, 3), (2, 4), (2, 5), (2, 6), (2, 7), (2, 8)], [([0], (3, [(0, 2147483647, 2147483657), (1, 0, 0), (1, 0, 0)], [], [], [(63, [3])])), ([4], (4, [(0, 2147483648, 2147483657), (0, 2147483647, 2147483657), (1, 0, 0), (1, 0, 0)], [(42, 32, 15)], [], [(50, [3, 7]), (104, [3, 7, 15])]))]) [axu_rn1a_4, axu_rn1b_4, axu_rn2_4, axu_rn4_4, axu_rn4_5, axu_rn4_6] [] 3000 0 (() : ax_Tr 0) = true := by decide +kernel
theorem axs_142_0 : ∀ x ∈ ([axu_rn1a_1, axu_rn1b_1, axu_rn3a_1, axu_rn3b_1, axu_rn5_1] : List ax_RL), ax_RO ax_wC ax_XC x := ax_ro_cons axq_rn1a_1 (ax_ro_cons axq_rn1b_1 (ax_ro_cons axq_rn3a_1 (ax_ro_cons axq_rn3b_1 (ax_ro_cons axq_rn5_1 (ax_ro_nil)))))
/-- TurnNet$Reader.readNumber: 32 steps -/
theorem axk_142_0 : ax_chk ax_wC rx_P (rx_DF, rx_FK) ax_APC (rx_n rxm_142) axm_142 (([42, 8, 40], (2, [(1, 0, 0), (1, 0, 0)], [], [], [(30, [3]), (53, [3, 7]), (71, [3, 7])])), [(2, 3), (2, 4), (2, 5), (2, 6), (2, 7), (2, 8)], [([0], (2, [(1, 0, 0), (1, 0, 0)], [], [], [(63, [3])])), ([4], (3, [(0, 2147483650, 2147483658), (1, 0, 0), (1, 0, 0)], [(42, 32, 11)], [], [(50, [3, 7]), (66, [3, 7, 11])]))]) [axu_rn1a_1, axu_rn1b_1, axu_rn3a_1, axu_rn3b_1, axu_rn5_1] [] 3000 0 (() : ax_Tr 0) = true := by decide +kernel
theorem axr_142 (hP : ∀ q ∈ rx_P, rx_QW q ∧ rx_ST rx_P (rx_DF, rx_FK) q) : ax_Row ax_wC ax_XC rx_P ax_APC rx_P (rx_DF, rx_FK) rxm_142 (axm_142, axc_142) := fun hr => ⟨ax_tabB_ok axt_142, fun hL => ax_con_cons (ax_chk_ok hP ax_XC_ok hr hL (ax_tabB_ok axt_142) axs_142_0 axk_142_0) (ax_con_cons (ax_chk_ok hP ax_XC_ok hr hL (ax_tabB_ok axt_142) axs_142_1 axk_142_1) (ax_con_cons (ax_chk_ok hP ax_XC_ok hr hL (ax_tabB_ok axt_142) axs_142_2 axk_142_2) (ax_con_cons (ax_chk_ok hP ax_XC_ok hr hL (ax_tabB_ok axt_142) axs_142_3 axk_142_3) (ax_con_cons (ax_chk_ok hP ax_XC_ok hr hL (ax_tabB_ok axt_142) axs_142_4 axk_142_4) (ax_con_nil)))))⟩
theorem axt_143 : ax_tabB (rx_cd rxm_143) axm_143 = true := by decide +kernel
theorem axs_143_2 : ∀ x ∈ ([axu_rs3a, axu_rs3b, axu_rs6, axu_sC] : List ax_RL), ax_RO ax_wC ax_XC x := ax_ro_cons axq_rs3a (ax_ro_cons axq_rs3b (ax_ro_cons axq_rs6 (ax_ro_cons axq_sC (ax_ro_nil))))
/-- TurnNet$Reader.readSign: 16 steps -/
theorem axk_143_2 : ax_chk ax_wC rx_P (rx_DF, rx_FK) ax_APC (rx_n rxm_143) axm_143 (([42, 164], (7, [(1, 0, 0), (1, 0, 0), (1, 0, 0), (1, 0, 0), (1, 0, 0), (1, 0, 0), (1, 0, 0)], [], [], [(30, [3]), (50, [3, 7]), (79, [3, 7]), (90, [3, 7, 11]), (93, [11, 15]), (94, [3, 7]), (49, [3, 7, 19, 27]), (99, [19, 4036, 23])])), [(2, 3), (2, 4), (2, 5), (2, 6), (2, 7), (2, 8)], [([0], (7, [(1, 0, 0), (1, 0, 0), (1, 0, 0), (1, 0, 0), (1, 0, 0), (1, 0, 0), (1, 0, 0)], [], [], [(63, [3])])), ([4], (9, [(1, 0, 0), (1, 0, 0), (1, 0, 0), (1, 0, 0), (1, 0, 0), (1, 0, 0), (1, 0, 0), (1, 0, 0), (1, 0, 0)], [], [], [(50, [3, 31]), (79, [3, 31]), (90, [3, 31, 35]), (92, [15, 35]), (1030, [7, 31]), (47, [3, 31, 23, 27])]))]) [axu_rs3a, axu_rs3b, axu_rs6, axu_sC] [] 3000 0 (() : ax_Tr 0) = true := by decide +kernel
theorem axs_143_1 : ∀ x ∈ ([axu_rs2a, axu_rs2b, axu_rs5, axu_sE] : List ax_RL), ax_RO ax_wC ax_XC x := ax_ro_cons axq_rs2a (ax_ro_cons axq_rs2b (ax_ro_cons axq_rs5 (ax_ro_cons axq_sE (ax_ro_nil))))
/-- TurnNet$Reader.readSign: 16 steps -/
theorem axk_143_1 : ax_chk ax_wC rx_P (rx_DF, rx_FK) ax_APC (rx_n rxm_143) axm_143 (([42, 236], (3, [(1, 0, 0), (1, 0, 0), (1, 0, 0)], [], [], [(30, [3]), (50, [3, 7]), (79, [3, 7]), (90, [3, 7, 5]), (94, [3, 7]), (49, [3, 7, 5, 11])])), [(2, 3), (2, 4), (2, 5), (2, 6), (2, 7), (2, 8)], [([0], (3, [(1, 0, 0), (1, 0, 0), (1, 0, 0)], [], [], [(63, [3])])), ([4], (4, [(1, 0, 0), (1, 0, 0), (1, 0, 0), (1, 0, 0)], [], [], [(50, [3, 15]), (73, [3, 15]), (1030, [7, 15]), (46, [3, 15, 5, 11])]))]) [axu_rs2a, axu_rs2b, axu_rs5, axu_sE] [] 3000 0 (() : ax_Tr 0) = true := by decide +kernel
theorem axs_143_0 : ∀ x ∈ ([axu_rs1a, axu_rs1b, axu_rs4, axu_s0_rs4] : List ax_RL), ax_RO ax_wC ax_XC x := ax_ro_cons axq_rs1a (ax_ro_cons axq_rs1b (ax_ro_cons axq_rs4 (ax_ro_cons axq_s0_rs4 (ax_ro_nil))))
/-- TurnNet$Reader.readSign: 16 steps -/
theorem axk_143_0 : ax_chk ax_wC rx_P (rx_DF, rx_FK) ax_APC (rx_n rxm_143) axm_143 (([42, 236], (3, [(1, 0, 0), (1, 0, 0), (1, 0, 0)], [], [], [(30, [3]), (50, [3, 7]), (72, [3, 7]), (46, [3, 7, 5, 11])])), [(2, 3), (2, 4), (2, 5), (2, 6), (2, 7), (2, 8)], [([0], (3, [(1, 0, 0), (1, 0, 0), (1, 0, 0)], [], [], [(63, [3])])), ([4], (4, [(1, 0, 0), (1, 0, 0), (1, 0, 0), (1, 0, 0)], [], [], [(50, [3, 15]), (73, [3, 15]), (1030, [7, 15]), (46, [3, 15, 5, 11])]))]) [axu_rs1a, axu_rs1b, axu_rs4, axu_s0_rs4] [] 3000 0 (() : ax_Tr 0) = true := by decide +kernel
theorem axr_143 (hP : ∀ q ∈ rx_P, rx_QW q ∧ rx_ST rx_P (rx_DF, rx_FK) q) : ax_Row ax_wC ax_XC rx_P ax_APC rx_P (rx_DF, rx_FK) rxm_143 (axm_143, axc_143) := fun hr => ⟨ax_tabB_ok axt_143, fun hL => ax_con_cons (ax_chk_ok hP ax_XC_ok hr hL (ax_tabB_ok axt_143) axs_143_0 axk_143_0) (ax_con_cons (ax_chk_ok hP ax_XC_ok hr hL (ax_tabB_ok axt_143) axs_143_1 axk_143_1) (ax_con_cons (ax_chk_ok hP ax_XC_ok hr hL (ax_tabB_ok axt_143) axs_143_2 axk_143_2) (ax_con_nil)))⟩
theorem axt_144 : ax_tabB (rx_cd rxm_144) axm_144 = true := by decide +kernel
/-- TurnNet$Routes.addOnward: 64 steps -/
theorem axk_144_0 : ax_chk ax_wC rx_P (rx_DF, rx_FK) ax_APC (rx_n rxm_144) axm_144 (([3, 7, 11], (3, [(0, 2147483648, 2147483667), (0, 2147483648, 2147483657), (2, 4, 0)], [], [], [])), [(30, 999)], [([2], (3, [(0, 2147483648, 2147483667), (0, 2147483648, 2147483657), (2, 4, 0)], [], [], []))]) [] [15] 3000 1 (([((15, 1, 4, ([3, 7, 11, 15, 19, 2], (6, [(2, 16, 0), (0, 2147483648, 2147483688), (0, 2147483648, 2147483657), (0, 2147483648, 2147483667), (0, 2147483648, 2147483657), (2, 4, 0)], [(14, 32, 23), (3, 0, 14)], [], []))), ())] : List ((Nat × Nat × Nat × ax_T) × ax_Tr 0)) : ax_Tr 1) = true := by decide +kernel
theorem axr_144 (hP : ∀ q ∈ rx_P, rx_QW q ∧ rx_ST rx_P (rx_DF, rx_FK) q) : ax_Row ax_wC ax_XC rx_P ax_APC rx_P (rx_DF, rx_FK) rxm_144 (axm_144, axc_144) := fun hr => ⟨ax_tabB_ok axt_144, fun hL => ax_con_cons (ax_chk_ok hP ax_XC_ok hr hL (ax_tabB_ok axt_144) ax_ro_nil axk_144_0) (ax_con_nil)⟩
theorem axt_145 : ax_tabB (rx_cd rxm_145) axm_145 = true := by decide +kernel
/-- TurnNet$Routes.channelOnPath: 67 steps -/
theorem axk_145_0 : ax_chk ax_wC rx_P (rx_DF, rx_FK) ax_APC (rx_n rxm_145) axm_145 (([3, 7, 11, 15], (4, [(0, 2147483648, 4294967295), (0, 2147483648, 2147483657), (0, 2147483648, 2147483657), (2, 4, 0)], [], [], [])), [], [([19], (5, [(0, 2147483647, 2147483687), (0, 2147483648, 4294967295), (0, 2147483648, 2147483657), (0, 2147483648, 2147483657), (2, 4, 0)], [], [], []))]) [] [12] 3000 1 (([((12, 1, 5, ([3, 7, 11, 15, 19, 23], (7, [(2, 26, 0), (0, 2147483648, 2147483668), (0, 2147483647, 2147483687), (0, 2147483648, 4294967295), (0, 2147483648, 2147483657), (0, 2147483648, 2147483657), (2, 4, 0)], [(3, 24, 27)], [], []))), ())] : List ((Nat × Nat × Nat × ax_T) × ax_Tr 0)) : ax_Tr 1) = true := by decide +kernel
theorem axr_145 (hP : ∀ q ∈ rx_P, rx_QW q ∧ rx_ST rx_P (rx_DF, rx_FK) q) : ax_Row ax_wC ax_XC rx_P ax_APC rx_P (rx_DF, rx_FK) rxm_145 (axm_145, axc_145) := fun hr => ⟨ax_tabB_ok axt_145, fun hL => ax_con_cons (ax_chk_ok hP ax_XC_ok hr hL (ax_tabB_ok axt_145) ax_ro_nil axk_145_0) (ax_con_nil)⟩
theorem axt_146 : ax_tabB (rx_cd rxm_146) axm_146 = true := by decide +kernel
/-- TurnNet$Routes.countPath: 68 steps -/
theorem axk_146_0 : ax_chk ax_wC rx_P (rx_DF, rx_FK) ax_APC (rx_n rxm_146) axm_146 (([3, 7, 11], (3, [(0, 2147483648, 2147483657), (0, 2147483648, 2147483657), (2, 4, 0)], [], [], [])), [(28, 999)], [([2], (3, [(0, 2147483648, 2147483657), (0, 2147483648, 2147483657), (2, 4, 0)], [], [], []))]) [] [11] 3000 1 (([((11, 1, 4, ([3, 7, 11, 15, 19], (6, [(2, 26, 0), (0, 2147483648, 2147483668), (0, 2147483647, 2147483687), (0, 2147483648, 2147483657), (0, 2147483648, 2147483657), (2, 4, 0)], [(3, 24, 23)], [], []))), ())] : List ((Nat × Nat × Nat × ax_T) × ax_Tr 0)) : ax_Tr 1) = true := by decide +kernel
theorem axr_146 (hP : ∀ q ∈ rx_P, rx_QW q ∧ rx_ST rx_P (rx_DF, rx_FK) q) : ax_Row ax_wC ax_XC rx_P ax_APC rx_P (rx_DF, rx_FK) rxm_146 (axm_146, axc_146) := fun hr => ⟨ax_tabB_ok axt_146, fun hL => ax_con_cons (ax_chk_ok hP ax_XC_ok hr hL (ax_tabB_ok axt_146) ax_ro_nil axk_146_0) (ax_con_nil)⟩
theorem axt_147 : ax_tabB (rx_cd rxm_147) axm_147 = true := by decide +kernel
/-- TurnNet$Routes.leastUsed: 55 steps -/
theorem axk_147_0 : ax_chk ax_wC rx_P (rx_DF, rx_FK) ax_APC (rx_n rxm_147) axm_147 (([3, 7, 11, 15], (4, [(0, 2147483648, 2147483649), (0, 2147483648, 2147483657), (0, 2147483648, 2147483657), (2, 4, 0)], [], [], [])), [], [([19], (5, [(0, 2147483647, 2147483687), (0, 2147483648, 2147483649), (0, 2147483648, 2147483657), (0, 2147483648, 2147483657), (2, 4, 0)], [], [], []))]) [] [14] 3000 1 (([((14, 1, 5, ([3, 7, 11, 15, 19, 23, 2], (7, [(2, 16, 0), (0, 2147483648, 2147483688), (0, 2147483647, 2147483687), (0, 2147483648, 2147483649), (0, 2147483648, 2147483657), (0, 2147483648, 2147483657), (2, 4, 0)], [(14, 32, 27), (3, 0, 14)], [], []))), ())] : List ((Nat × Nat × Nat × ax_T) × ax_Tr 0)) : ax_Tr 1) = true := by decide +kernel
theorem axr_147 (hP : ∀ q ∈ rx_P, rx_QW q ∧ rx_ST rx_P (rx_DF, rx_FK) q) : ax_Row ax_wC ax_XC rx_P ax_APC rx_P (rx_DF, rx_FK) rxm_147 (axm_147, axc_147) := fun hr => ⟨ax_tabB_ok axt_147, fun hL => ax_con_cons (ax_chk_ok hP ax_XC_ok hr hL (ax_tabB_ok axt_147) ax_ro_nil axk_147_0) (ax_con_nil)⟩
theorem axt_148 : ax_tabB (rx_cd rxm_148) axm_148 = true := by decide +kernel
/-- TurnNet$Routes.measure: 56 steps -/
theorem axk_148_0 : ax_chk ax_wC rx_P (rx_DF, rx_FK) ax_APC (rx_n rxm_148) axm_148 (([3, 7], (2, [(0, 2147483648, 2147483657), (2, 4, 0)], [], [], [])), [(25, 999)], [([2], (2, [(0, 2147483648, 2147483657), (2, 4, 0)], [], [], []))]) [] [7, 57] 3000 1 (([((7, 1, 3, ([3, 7, 11, 15, 2], (4, [(0, 2147483648, 2147483668), (0, 2147483648, 2147483828), (0, 2147483648, 2147483657), (2, 4, 0)], [], [], []))), ()), ((57, 1, 4, ([3, 7, 11, 15, 19], (6, [(2, 25, 0), (0, 2147483649, 2147483669), (0, 2147483648, 2147483649), (0, 2147483648, 2147483828), (0, 2147483648, 2147483657), (2, 4, 0)], [(3, 20, 23)], [], []))), ())] : List ((Nat × Nat × Nat × ax_T) × ax_Tr 0)) : ax_Tr 1) = true := by decide +kernel
theorem axr_148 (hP : ∀ q ∈ rx_P, rx_QW q ∧ rx_ST rx_P (rx_DF, rx_FK) q) : ax_Row ax_wC ax_XC rx_P ax_APC rx_P (rx_DF, rx_FK) rxm_148 (axm_148, axc_148) := fun hr => ⟨ax_tabB_ok axt_148, fun hL => ax_con_cons (ax_chk_ok hP ax_XC_ok hr hL (ax_tabB_ok axt_148) ax_ro_nil axk_148_0) (ax_con_nil)⟩
theorem axt_149 : ax_tabB (rx_cd rxm_149) axm_149 = true := by decide +kernel
/-- TurnNet$Routes.passArriving: 64 steps -/
theorem axk_149_0 : ax_chk ax_wC rx_P (rx_DF, rx_FK) ax_APC (rx_n rxm_149) axm_149 (([3, 7, 11], (3, [(0, 2147483648, 2147483667), (0, 2147483648, 2147483657), (2, 4, 0)], [], [], [])), [(31, 999)], [([2], (3, [(0, 2147483648, 2147483667), (0, 2147483648, 2147483657), (2, 4, 0)], [], [], []))]) [] [15] 3000 1 (([((15, 1, 4, ([3, 7, 11, 15, 19, 2], (6, [(2, 16, 0), (0, 2147483648, 2147483688), (0, 2147483648, 2147483657), (0, 2147483648, 2147483667), (0, 2147483648, 2147483657), (2, 4, 0)], [(14, 32, 23), (3, 0, 14)], [], []))), ())] : List ((Nat × Nat × Nat × ax_T) × ax_Tr 0)) : ax_Tr 1) = true := by decide +kernel
theorem axr_149 (hP : ∀ q ∈ rx_P, rx_QW q ∧ rx_ST rx_P (rx_DF, rx_FK) q) : ax_Row ax_wC ax_XC rx_P ax_APC rx_P (rx_DF, rx_FK) rxm_149 (axm_149, axc_149) := fun hr => ⟨ax_tabB_ok axt_149, fun hL => ax_con_cons (ax_chk_ok hP ax_XC_ok hr hL (ax_tabB_ok axt_149) ax_ro_nil axk_149_0) (ax_con_nil)⟩
theorem axt_150 : ax_tabB (rx_cd rxm_150) axm_150 = true := by decide +kernel
theorem axr_150 (hP : ∀ q ∈ rx_P, rx_QW q ∧ rx_ST rx_P (rx_DF, rx_FK) q) : ax_Row ax_wC ax_XC rx_P ax_APC rx_P (rx_DF, rx_FK) rxm_150 (axm_150, axc_150) := fun hr => ⟨ax_tabB_ok axt_150, fun hL => ax_con_nil⟩
theorem axt_151 : ax_tabB (rx_cd rxm_151) axm_151 = true := by decide +kernel
/-- TurnNet$Turns.shortestRing: 96 steps -/
theorem axk_151_0 : ax_chk ax_wC rx_P (rx_DF, rx_FK) ax_APC (rx_n rxm_151) axm_151 (([3, 7], (2, [(0, 2147483648, 2147483687), (2, 6, 0)], [], [], [])), [], [([11], (3, [(0, 2147483647, 2147483688), (0, 2147483648, 2147483687), (2, 6, 0)], [], [], []))]) [] [13] 3000 1 (([((13, 1, 4, ([3, 7, 11, 2, 15, 2, 19], (5, [(0, 2147483649, 2147483689), (1, 0, 0), (1, 0, 0), (0, 2147483648, 2147483687), (2, 6, 0)], [(3, 8, 190)], [], []))), ())] : List ((Nat × Nat × Nat × ax_T) × ax_Tr 0)) : ax_Tr 1) = true := by decide +kernel
theorem axr_151 (hP : ∀ q ∈ rx_P, rx_QW q ∧ rx_ST rx_P (rx_DF, rx_FK) q) : ax_Row ax_wC ax_XC rx_P ax_APC rx_P (rx_DF, rx_FK) rxm_151 (axm_151, axc_151) := fun hr => ⟨ax_tabB_ok axt_151, fun hL => ax_con_cons (ax_chk_ok hP ax_XC_ok hr hL (ax_tabB_ok axt_151) ax_ro_nil axk_151_0) (ax_con_nil)⟩
theorem axt_152 : ax_tabB (rx_cd rxm_152) axm_152 = true := by decide +kernel
/-- TurnNet$Turns.take: 311 steps -/
theorem axk_152_0 : ax_chk ax_wC rx_P (rx_DF, rx_FK) ax_APC (rx_n rxm_152) axm_152 (([3, 7, 11, 15], (4, [(0, 0, 4294967295), (0, 0, 4294967295), (0, 0, 4294967295), (2, 6, 0)], [], [], [])), [(36, 999), (37, 999)], [([2], (4, [(0, 0, 4294967295), (0, 0, 4294967295), (0, 0, 4294967295), (2, 6, 0)], [], [], []))]) [] [3, 32, 101] 3000 1 (([((3, 1, 4, ([3, 7, 11, 15, 19, 2, 2, 2, 2], (5, [(0, 2147483648, 2147483658), (0, 0, 4294967295), (0, 0, 4294967295), (0, 0, 4294967295), (2, 6, 0)], [], [], []))), ()), ((32, 1, 4, ([3, 7, 11, 15, 19, 2, 2, 2, 2], (6, [(0, 2147483648, 2147483667), (0, 2147483648, 2147483688), (0, 0, 4294967295), (0, 0, 4294967295), (0, 0, 4294967295), (2, 6, 0)], [(14, 0, 23), (3, 0, 14)], [], []))), ()), ((101, 1, 6, ([3, 7, 11, 15, 19, 2, 23, 2, 27], (7, [(0, 2147483648, 2147483688), (1, 0, 0), (1, 0, 0), (0, 0, 4294967295), (0, 0, 4294967295), (0, 0, 4294967295), (2, 6, 0)], [(3, 0, 14)], [], []))), ())] : List ((Nat × Nat × Nat × ax_T) × ax_Tr 0)) : ax_Tr 1) = true := by decide +kernel
theorem axr_152 (hP : ∀ q ∈ rx_P, rx_QW q ∧ rx_ST rx_P (rx_DF, rx_FK) q) : ax_Row ax_wC ax_XC rx_P ax_APC rx_P (rx_DF, rx_FK) rxm_152 (axm_152, axc_152) := fun hr => ⟨ax_tabB_ok axt_152, fun hL => ax_con_cons (ax_chk_ok hP ax_XC_ok hr hL (ax_tabB_ok axt_152) ax_ro_nil axk_152_0) (ax_con_nil)⟩
theorem axt_153 : ax_tabB (rx_cd rxm_153) axm_153 = true := by decide +kernel
/-- TurnNet.back: 83 steps -/
theorem axk_153_0 : ax_chk ax_wC rx_P (rx_DF, rx_FK) ax_APC (rx_n rxm_153) axm_153 (([3, 7], (2, [(0, 0, 4294967295), (2, 0, 0)], [], [], [(0, [80])])), [(9, 2), (9, 3), (10, 0), (10, 1), (10, 2), (10, 3), (10, 4), (40, 999), (41, 999), (42, 999), (43, 999)], [([11], (3, [(0, 0, 4294967295), (0, 0, 4294967295), (2, 0, 0)], [], [], [(0, [80])]))]) [] [] 3000 0 (() : ax_Tr 0) = true := by decide +kernel
theorem axr_153 (hP : ∀ q ∈ rx_P, rx_QW q ∧ rx_ST rx_P (rx_DF, rx_FK) q) : ax_Row ax_wC ax_XC rx_P ax_APC rx_P (rx_DF, rx_FK) rxm_153 (axm_153, axc_153) := fun hr => ⟨ax_tabB_ok axt_153, fun hL => ax_con_cons (ax_chk_ok hP ax_XC_ok hr hL (ax_tabB_ok axt_153) ax_ro_nil axk_153_0) (ax_con_nil)⟩
theorem axt_154 : ax_tabB (rx_cd rxm_154) axm_154 = true := by decide +kernel
/-- TurnNet.image: 78 steps -/
theorem axk_154_0 : ax_chk ax_wC rx_P (rx_DF, rx_FK) ax_APC (rx_n rxm_154) axm_154 (([3, 7], (2, [(0, 0, 4294967295), (2, 0, 0)], [], [], [(0, [80])])), [(10, 0), (10, 1), (10, 2), (10, 3), (10, 4), (13, 999), (40, 999), (41, 999), (42, 999), (43, 999)], [([11], (3, [(0, 0, 4294967295), (0, 0, 4294967295), (2, 0, 0)], [], [], [(0, [80])]))]) [] [] 3000 0 (() : ax_Tr 0) = true := by decide +kernel
theorem axr_154 (hP : ∀ q ∈ rx_P, rx_QW q ∧ rx_ST rx_P (rx_DF, rx_FK) q) : ax_Row ax_wC ax_XC rx_P ax_APC rx_P (rx_DF, rx_FK) rxm_154 (axm_154, axc_154) := fun hr => ⟨ax_tabB_ok axt_154, fun hL => ax_con_cons (ax_chk_ok hP ax_XC_ok hr hL (ax_tabB_ok axt_154) ax_ro_nil axk_154_0) (ax_con_nil)⟩
theorem axt_155 : ax_tabB (rx_cd rxm_155) axm_155 = true := by decide +kernel
/-- TurnNet.redo: 15 steps -/
theorem axk_155_0 : ax_chk ax_wC rx_P (rx_DF, rx_FK) ax_APC (rx_n rxm_155) axm_155 (([3], (1, [(2, 0, 0)], [], [], [(0, [80])])), [(0, 13), (9, 2), (9, 3), (39, 999)], [([7], (2, [(0, 2147483648, 2147483649), (2, 0, 0)], [], [], [(0, [80])]))]) [] [] 3000 0 (() : ax_Tr 0) = true := by decide +kernel
theorem axr_155 (hP : ∀ q ∈ rx_P, rx_QW q ∧ rx_ST rx_P (rx_DF, rx_FK) q) : ax_Row ax_wC ax_XC rx_P ax_APC rx_P (rx_DF, rx_FK) rxm_155 (axm_155, axc_155) := fun hr => ⟨ax_tabB_ok axt_155, fun hL => ax_con_cons (ax_chk_ok hP ax_XC_ok hr hL (ax_tabB_ok axt_155) ax_ro_nil axk_155_0) (ax_con_nil)⟩
theorem axt_156 : ax_tabB (rx_cd rxm_156) axm_156 = true := by decide +kernel
/-- TurnNet.undo: 15 steps -/
theorem axk_156_0 : ax_chk ax_wC rx_P (rx_DF, rx_FK) ax_APC (rx_n rxm_156) axm_156 (([3], (1, [(2, 0, 0)], [], [], [(0, [80])])), [(0, 13), (9, 2), (9, 3), (39, 999)], [([7], (2, [(0, 2147483648, 2147483649), (2, 0, 0)], [], [], [(0, [80])]))]) [] [] 3000 0 (() : ax_Tr 0) = true := by decide +kernel
theorem axr_156 (hP : ∀ q ∈ rx_P, rx_QW q ∧ rx_ST rx_P (rx_DF, rx_FK) q) : ax_Row ax_wC ax_XC rx_P ax_APC rx_P (rx_DF, rx_FK) rxm_156 (axm_156, axc_156) := fun hr => ⟨ax_tabB_ok axt_156, fun hL => ax_con_cons (ax_chk_ok hP ax_XC_ok hr hL (ax_tabB_ok axt_156) ax_ro_nil axk_156_0) (ax_con_nil)⟩
theorem axt_157 : ax_tabB (rx_cd rxm_157) axm_157 = true := by decide +kernel
theorem axr_157 (hP : ∀ q ∈ rx_P, rx_QW q ∧ rx_ST rx_P (rx_DF, rx_FK) q) : ax_Row ax_wC ax_XC rx_P ax_APC rx_P (rx_DF, rx_FK) rxm_157 (axm_157, axc_157) := fun hr => ⟨ax_tabB_ok axt_157, fun hL => ax_con_nil⟩
theorem axt_158 : ax_tabB (rx_cd rxm_158) axm_158 = true := by decide +kernel
theorem axr_158 (hP : ∀ q ∈ rx_P, rx_QW q ∧ rx_ST rx_P (rx_DF, rx_FK) q) : ax_Row ax_wC ax_XC rx_P ax_APC rx_P (rx_DF, rx_FK) rxm_158 (axm_158, axc_158) := fun hr => ⟨ax_tabB_ok axt_158, fun hL => ax_con_nil⟩
theorem axt_159 : ax_tabB (rx_cd rxm_159) axm_159 = true := by decide +kernel
theorem axr_159 (hP : ∀ q ∈ rx_P, rx_QW q ∧ rx_ST rx_P (rx_DF, rx_FK) q) : ax_Row ax_wC ax_XC rx_P ax_APC rx_P (rx_DF, rx_FK) rxm_159 (axm_159, axc_159) := fun hr => ⟨ax_tabB_ok axt_159, fun hL => ax_con_nil⟩
theorem axt_160 : ax_tabB (rx_cd rxm_160) axm_160 = true := by decide +kernel
theorem axr_160 (hP : ∀ q ∈ rx_P, rx_QW q ∧ rx_ST rx_P (rx_DF, rx_FK) q) : ax_Row ax_wC ax_XC rx_P ax_APC rx_P (rx_DF, rx_FK) rxm_160 (axm_160, axc_160) := fun hr => ⟨ax_tabB_ok axt_160, fun hL => ax_con_nil⟩
theorem axt_161 : ax_tabB (rx_cd rxm_161) axm_161 = true := by decide +kernel
theorem axr_161 (hP : ∀ q ∈ rx_P, rx_QW q ∧ rx_ST rx_P (rx_DF, rx_FK) q) : ax_Row ax_wC ax_XC rx_P ax_APC rx_P (rx_DF, rx_FK) rxm_161 (axm_161, axc_161) := fun hr => ⟨ax_tabB_ok axt_161, fun hL => ax_con_nil⟩
theorem axt_162 : ax_tabB (rx_cd rxm_162) axm_162 = true := by decide +kernel
theorem axr_162 (hP : ∀ q ∈ rx_P, rx_QW q ∧ rx_ST rx_P (rx_DF, rx_FK) q) : ax_Row ax_wC ax_XC rx_P ax_APC rx_P (rx_DF, rx_FK) rxm_162 (axm_162, axc_162) := fun hr => ⟨ax_tabB_ok axt_162, fun hL => ax_con_nil⟩
theorem axt_163 : ax_tabB (rx_cd rxm_163) axm_163 = true := by decide +kernel
theorem axr_163 (hP : ∀ q ∈ rx_P, rx_QW q ∧ rx_ST rx_P (rx_DF, rx_FK) q) : ax_Row ax_wC ax_XC rx_P ax_APC rx_P (rx_DF, rx_FK) rxm_163 (axm_163, axc_163) := fun hr => ⟨ax_tabB_ok axt_163, fun hL => ax_con_nil⟩
theorem axt_164 : ax_tabB (rx_cd rxm_164) axm_164 = true := by decide +kernel
theorem axr_164 (hP : ∀ q ∈ rx_P, rx_QW q ∧ rx_ST rx_P (rx_DF, rx_FK) q) : ax_Row ax_wC ax_XC rx_P ax_APC rx_P (rx_DF, rx_FK) rxm_164 (axm_164, axc_164) := fun hr => ⟨ax_tabB_ok axt_164, fun hL => ax_con_nil⟩
theorem axt_165 : ax_tabB (rx_cd rxm_165) axm_165 = true := by decide +kernel
theorem axr_165 (hP : ∀ q ∈ rx_P, rx_QW q ∧ rx_ST rx_P (rx_DF, rx_FK) q) : ax_Row ax_wC ax_XC rx_P ax_APC rx_P (rx_DF, rx_FK) rxm_165 (axm_165, axc_165) := fun hr => ⟨ax_tabB_ok axt_165, fun hL => ax_con_nil⟩
theorem axt_166 : ax_tabB (rx_cd rxm_166) axm_166 = true := by decide +kernel
theorem axr_166 (hP : ∀ q ∈ rx_P, rx_QW q ∧ rx_ST rx_P (rx_DF, rx_FK) q) : ax_Row ax_wC ax_XC rx_P ax_APC rx_P (rx_DF, rx_FK) rxm_166 (axm_166, axc_166) := fun hr => ⟨ax_tabB_ok axt_166, fun hL => ax_con_nil⟩
theorem axt_167 : ax_tabB (rx_cd rxm_167) axm_167 = true := by decide +kernel
theorem axr_167 (hP : ∀ q ∈ rx_P, rx_QW q ∧ rx_ST rx_P (rx_DF, rx_FK) q) : ax_Row ax_wC ax_XC rx_P ax_APC rx_P (rx_DF, rx_FK) rxm_167 (axm_167, axc_167) := fun hr => ⟨ax_tabB_ok axt_167, fun hL => ax_con_nil⟩
theorem axt_168 : ax_tabB (rx_cd rxm_168) axm_168 = true := by decide +kernel
theorem axr_168 (hP : ∀ q ∈ rx_P, rx_QW q ∧ rx_ST rx_P (rx_DF, rx_FK) q) : ax_Row ax_wC ax_XC rx_P ax_APC rx_P (rx_DF, rx_FK) rxm_168 (axm_168, axc_168) := fun hr => ⟨ax_tabB_ok axt_168, fun hL => ax_con_nil⟩
theorem axt_169 : ax_tabB (rx_cd rxm_169) axm_169 = true := by decide +kernel
theorem axr_169 (hP : ∀ q ∈ rx_P, rx_QW q ∧ rx_ST rx_P (rx_DF, rx_FK) q) : ax_Row ax_wC ax_XC rx_P ax_APC rx_P (rx_DF, rx_FK) rxm_169 (axm_169, axc_169) := fun hr => ⟨ax_tabB_ok axt_169, fun hL => ax_con_nil⟩
theorem axt_170 : ax_tabB (rx_cd rxm_170) axm_170 = true := by decide +kernel
theorem axr_170 (hP : ∀ q ∈ rx_P, rx_QW q ∧ rx_ST rx_P (rx_DF, rx_FK) q) : ax_Row ax_wC ax_XC rx_P ax_APC rx_P (rx_DF, rx_FK) rxm_170 (axm_170, axc_170) := fun hr => ⟨ax_tabB_ok axt_170, fun hL => ax_con_nil⟩
theorem axt_171 : ax_tabB (rx_cd rxm_171) axm_171 = true := by decide +kernel
theorem axr_171 (hP : ∀ q ∈ rx_P, rx_QW q ∧ rx_ST rx_P (rx_DF, rx_FK) q) : ax_Row ax_wC ax_XC rx_P ax_APC rx_P (rx_DF, rx_FK) rxm_171 (axm_171, axc_171) := fun hr => ⟨ax_tabB_ok axt_171, fun hL => ax_con_nil⟩
theorem axt_172 : ax_tabB (rx_cd rxm_172) axm_172 = true := by decide +kernel
theorem axr_172 (hP : ∀ q ∈ rx_P, rx_QW q ∧ rx_ST rx_P (rx_DF, rx_FK) q) : ax_Row ax_wC ax_XC rx_P ax_APC rx_P (rx_DF, rx_FK) rxm_172 (axm_172, axc_172) := fun hr => ⟨ax_tabB_ok axt_172, fun hL => ax_con_nil⟩
theorem axt_173 : ax_tabB (rx_cd rxm_173) axm_173 = true := by decide +kernel
/-- TurnNet$Graph.findPivots: 29 steps -/
theorem axk_173_0 : ax_chk ax_wC rx_P (rx_DF, rx_FK) ax_APC (rx_n rxm_173) axm_173 (([3, 7], (2, [(0, 0, 4294967295), (2, 5, 0)], [], [], [])), [(32, 999), (33, 999)], [([11], (3, [(0, 0, 4294967295), (0, 0, 4294967295), (2, 5, 0)], [], [], []))]) [] [9] 3000 1 (([((9, 1, 3, ([3, 7, 11, 15], (4, [(0, 2147483648, 2147483658), (0, 0, 4294967295), (0, 0, 4294967295), (2, 5, 0)], [], [], []))), ())] : List ((Nat × Nat × Nat × ax_T) × ax_Tr 0)) : ax_Tr 1) = true := by decide +kernel
theorem axr_173 (hP : ∀ q ∈ rx_P, rx_QW q ∧ rx_ST rx_P (rx_DF, rx_FK) q) : ax_Row ax_wC ax_XC rx_P ax_APC rx_P (rx_DF, rx_FK) rxm_173 (axm_173, axc_173) := fun hr => ⟨ax_tabB_ok axt_173, fun hL => ax_con_cons (ax_chk_ok hP ax_XC_ok hr hL (ax_tabB_ok axt_173) ax_ro_nil axk_173_0) (ax_con_nil)⟩
theorem axt_174 : ax_tabB (rx_cd rxm_174) axm_174 = true := by decide +kernel
/-- TurnNet$Planner.takeLinks: 44 steps -/
theorem axk_174_0 : ax_chk ax_wC rx_P (rx_DF, rx_FK) ax_APC (rx_n rxm_174) axm_174 (([3, 7, 11, 15], (4, [(0, 0, 4294967295), (0, 0, 4294967295), (0, 0, 4294967295), (2, 7, 0)], [], [], [])), [(36, 999), (37, 999)], [([19], (5, [(0, 0, 4294967295), (0, 0, 4294967295), (0, 0, 4294967295), (0, 0, 4294967295), (2, 7, 0)], [], [], []))]) [] [6] 3000 1 (([((6, 1, 5, ([3, 7, 11, 15, 19, 23, 2], (6, [(0, 2147483648, 2147483668), (0, 0, 4294967295), (0, 0, 4294967295), (0, 0, 4294967295), (0, 0, 4294967295), (2, 7, 0)], [], [], []))), ())] : List ((Nat × Nat × Nat × ax_T) × ax_Tr 0)) : ax_Tr 1) = true := by decide +kernel
theorem axr_174 (hP : ∀ q ∈ rx_P, rx_QW q ∧ rx_ST rx_P (rx_DF, rx_FK) q) : ax_Row ax_wC ax_XC rx_P ax_APC rx_P (rx_DF, rx_FK) rxm_174 (axm_174, axc_174) := fun hr => ⟨ax_tabB_ok axt_174, fun hL => ax_con_cons (ax_chk_ok hP ax_XC_ok hr hL (ax_tabB_ok axt_174) ax_ro_nil axk_174_0) (ax_con_nil)⟩
theorem axt_175 : ax_tabB (rx_cd rxm_175) axm_175 = true := by decide +kernel
/-- TurnNet$Reader.closeLine: 7 steps -/
theorem axk_175_0 : ax_chk ax_wC rx_P (rx_DF, rx_FK) ax_APC (rx_n rxm_175) axm_175 (([42], (3, [(1, 0, 0), (1, 0, 0), (1, 0, 0)], [], [], [(30, [3]), (53, [3, 7]), (72, [3, 7]), (46, [3, 7, 5, 11])])), [(2, 3), (2, 4), (2, 5), (2, 6), (2, 7), (2, 8)], [([0], (3, [(1, 0, 0), (1, 0, 0), (1, 0, 0)], [], [], [(63, [3])])), ([4], (4, [(1, 0, 0), (1, 0, 0), (1, 0, 0), (1, 0, 0)], [], [], [(50, [3, 15]), (73, [3, 15]), (1030, [7, 15]), (46, [3, 15, 5, 11])]))]) [] [] 3000 0 (() : ax_Tr 0) = true := by decide +kernel
theorem axr_175 (hP : ∀ q ∈ rx_P, rx_QW q ∧ rx_ST rx_P (rx_DF, rx_FK) q) : ax_Row ax_wC ax_XC rx_P ax_APC rx_P (rx_DF, rx_FK) rxm_175 (axm_175, axc_175) := fun hr => ⟨ax_tabB_ok axt_175, fun hL => ax_con_cons (ax_chk_ok hP ax_XC_ok hr hL (ax_tabB_ok axt_175) ax_ro_nil axk_175_0) (ax_con_nil)⟩
theorem axt_176 : ax_tabB (rx_cd rxm_176) axm_176 = true := by decide +kernel
/-- TurnNet$Routes.countArriving: 63 steps -/
theorem axk_176_0 : ax_chk ax_wC rx_P (rx_DF, rx_FK) ax_APC (rx_n rxm_176) axm_176 (([3, 7, 11], (3, [(0, 2147483648, 2147483657), (0, 2147483648, 2147483657), (2, 4, 0)], [], [], [])), [(31, 999)], [([2], (3, [(0, 2147483648, 2147483657), (0, 2147483648, 2147483657), (2, 4, 0)], [], [], []))]) [] [2, 33, 41] 3000 2 (([((2, 1, 3, ([3, 7, 11, 15, 2], (4, [(0, 2147483648, 2147483668), (0, 2147483648, 2147483657), (0, 2147483648, 2147483657), (2, 4, 0)], [], [], []))), ([] : List ((Nat × Nat × Nat × ax_T) × ax_Tr 0))), ((33, 2, 3, ([3, 7, 11, 15, 2], (5, [(2, 31, 0), (0, 0, 2147483668), (0, 2147483648, 2147483657), (0, 2147483648, 2147483657), (2, 4, 0)], [(3, 44, 19)], [], []))), ([((41, 1, 5, ([3, 7, 11, 15, 23], (6, [(0, 2147483648, 2147483668), (2, 31, 0), (0, 2147483649, 2147483668), (0, 2147483648, 2147483657), (0, 2147483648, 2147483657), (2, 4, 0)], [(3, 44, 19)], [], []))), ())] : List ((Nat × Nat × Nat × ax_T) × ax_Tr 0)))] : List ((Nat × Nat × Nat × ax_T) × ax_Tr 1)) : ax_Tr 2) = true := by decide +kernel
theorem axr_176 (hP : ∀ q ∈ rx_P, rx_QW q ∧ rx_ST rx_P (rx_DF, rx_FK) q) : ax_Row ax_wC ax_XC rx_P ax_APC rx_P (rx_DF, rx_FK) rxm_176 (axm_176, axc_176) := fun hr => ⟨ax_tabB_ok axt_176, fun hL => ax_con_cons (ax_chk_ok hP ax_XC_ok hr hL (ax_tabB_ok axt_176) ax_ro_nil axk_176_0) (ax_con_nil)⟩
theorem axt_177 : ax_tabB (rx_cd rxm_177) axm_177 = true := by decide +kernel
/-- TurnNet$Routes.countLoads: 42 steps -/
theorem axk_177_0 : ax_chk ax_wC rx_P (rx_DF, rx_FK) ax_APC (rx_n rxm_177) axm_177 (([3], (1, [(2, 4, 0)], [], [], [])), [(28, 999)], [([2], (1, [(2, 4, 0)], [], [], []))]) [] [2, 28, 41] 3000 2 (([((2, 1, 1, ([3, 7, 2], (2, [(0, 2147483648, 2147483688), (2, 4, 0)], [], [], []))), ([] : List ((Nat × Nat × Nat × ax_T) × ax_Tr 0))), ((28, 1, 1, ([3, 7, 2], (2, [(0, 2147483648, 2147483667), (2, 4, 0)], [(3, 0, 14)], [], []))), ([((41, 1, 2, ([3, 7, 11], (4, [(0, 2147483649, 2147483658), (0, 2147483648, 2147483667), (0, 2147483648, 2147483657), (2, 4, 0)], [(14, 0, 15), (3, 0, 14)], [], []))), ())] : List ((Nat × Nat × Nat × ax_T) × ax_Tr 0)))] : List ((Nat × Nat × Nat × ax_T) × ax_Tr 1)) : ax_Tr 2) = true := by decide +kernel
theorem axr_177 (hP : ∀ q ∈ rx_P, rx_QW q ∧ rx_ST rx_P (rx_DF, rx_FK) q) : ax_Row ax_wC ax_XC rx_P ax_APC rx_P (rx_DF, rx_FK) rxm_177 (axm_177, axc_177) := fun hr => ⟨ax_tabB_ok axt_177, fun hL => ax_con_cons (ax_chk_ok hP ax_XC_ok hr hL (ax_tabB_ok axt_177) ax_ro_nil axk_177_0) (ax_con_nil)⟩
theorem axt_178 : ax_tabB (rx_cd rxm_178) axm_178 = true := by decide +kernel
/-- TurnNet$Routes.countOnward: 65 steps -/
theorem axk_178_0 : ax_chk ax_wC rx_P (rx_DF, rx_FK) ax_APC (rx_n rxm_178) axm_178 (([3, 7], (2, [(0, 2147483648, 2147483657), (2, 4, 0)], [], [], [])), [(30, 999)], [([2], (2, [(0, 2147483648, 2147483657), (2, 4, 0)], [], [], []))]) [] [2, 41, 49] 3000 2 (([((2, 1, 2, ([3, 7, 11, 2], (3, [(0, 2147483648, 2147483668), (0, 2147483648, 2147483657), (2, 4, 0)], [], [], []))), ([] : List ((Nat × Nat × Nat × ax_T) × ax_Tr 0))), ((41, 1, 2, ([3, 7, 11, 2], (3, [(0, 2147483649, 2147483687), (0, 2147483648, 2147483657), (2, 4, 0)], [], [], []))), ([((49, 1, 3, ([3, 7, 11, 15], (4, [(0, 2147483648, 2147483668), (0, 2147483649, 2147483668), (0, 2147483648, 2147483657), (2, 4, 0)], [], [], []))), ())] : List ((Nat × Nat × Nat × ax_T) × ax_Tr 0)))] : List ((Nat × Nat × Nat × ax_T) × ax_Tr 1)) : ax_Tr 2) = true := by decide +kernel
theorem axr_178 (hP : ∀ q ∈ rx_P, rx_QW q ∧ rx_ST rx_P (rx_DF, rx_FK) q) : ax_Row ax_wC ax_XC rx_P ax_APC rx_P (rx_DF, rx_FK) rxm_178 (axm_178, axc_178) := fun hr => ⟨ax_tabB_ok axt_178, fun hL => ax_con_cons (ax_chk_ok hP ax_XC_ok hr hL (ax_tabB_ok axt_178) ax_ro_nil axk_178_0) (ax_con_nil)⟩
theorem axt_179 : ax_tabB (rx_cd rxm_179) axm_179 = true := by decide +kernel
/-- TurnNet$Routes.fillTable: 72 steps -/
theorem axk_179_0 : ax_chk ax_wC rx_P (rx_DF, rx_FK) ax_APC (rx_n rxm_179) axm_179 (([3], (1, [(2, 4, 0)], [], [], [])), [(26, 999), (27, 999)], [([2], (1, [(2, 4, 0)], [], [], []))]) [] [2, 28, 41] 3000 2 (([((2, 1, 1, ([3, 7, 2, 2], (2, [(0, 2147483648, 2147483688), (2, 4, 0)], [], [], []))), ([] : List ((Nat × Nat × Nat × ax_T) × ax_Tr 0))), ((28, 1, 1, ([3, 7, 2, 2], (2, [(0, 2147483648, 2147483667), (2, 4, 0)], [(3, 0, 14)], [], []))), ([((41, 1, 2, ([3, 7, 11, 2], (4, [(0, 2147483649, 2147483658), (0, 2147483648, 2147483668), (0, 2147483648, 2147483657), (2, 4, 0)], [(14, 0, 15), (3, 0, 14)], [], []))), ())] : List ((Nat × Nat × Nat × ax_T) × ax_Tr 0)))] : List ((Nat × Nat × Nat × ax_T) × ax_Tr 1)) : ax_Tr 2) = true := by decide +kernel
theorem axr_179 (hP : ∀ q ∈ rx_P, rx_QW q ∧ rx_ST rx_P (rx_DF, rx_FK) q) : ax_Row ax_wC ax_XC rx_P ax_APC rx_P (rx_DF, rx_FK) rxm_179 (axm_179, axc_179) := fun hr => ⟨ax_tabB_ok axt_179, fun hL => ax_con_cons (ax_chk_ok hP ax_XC_ok hr hL (ax_tabB_ok axt_179) ax_ro_nil axk_179_0) (ax_con_nil)⟩
theorem axt_180 : ax_tabB (rx_cd rxm_180) axm_180 = true := by decide +kernel
/-- TurnNet$Routes.see: 99 steps -/
theorem axk_180_0 : ax_chk ax_wC rx_P (rx_DF, rx_FK) ax_APC (rx_n rxm_180) axm_180 (([3, 7, 11], (3, [(0, 0, 4294967295), (0, 0, 4294967295), (2, 4, 0)], [], [], [])), [(4, 1), (4, 2), (4, 3), (4, 4), (25, 999), (29, 999)], [([2], (3, [(0, 0, 4294967295), (0, 0, 4294967295), (2, 4, 0)], [], [], []))]) [] [36, 77] 3000 1 (([((36, 1, 3, ([3, 7, 11, 15], (4, [(0, 2147483648, 2147483688), (0, 0, 4294967295), (0, 0, 4294967295), (2, 4, 0)], [(3, 8, 11), (3, 4, 7)], [], []))), ()), ((77, 1, 3, ([3, 7, 11, 15], (4, [(0, 2147483648, 2147483658), (0, 0, 4294967295), (0, 0, 4294967295), (2, 4, 0)], [(3, 0, 14), (3, 8, 11), (3, 4, 7)], [], []))), ())] : List ((Nat × Nat × Nat × ax_T) × ax_Tr 0)) : ax_Tr 1) = true := by decide +kernel
theorem axr_180 (hP : ∀ q ∈ rx_P, rx_QW q ∧ rx_ST rx_P (rx_DF, rx_FK) q) : ax_Row ax_wC ax_XC rx_P ax_APC rx_P (rx_DF, rx_FK) rxm_180 (axm_180, axc_180) := fun hr => ⟨ax_tabB_ok axt_180, fun hL => ax_con_cons (ax_chk_ok hP ax_XC_ok hr hL (ax_tabB_ok axt_180) ax_ro_nil axk_180_0) (ax_con_nil)⟩
theorem axt_181 : ax_tabB (rx_cd rxm_181) axm_181 = true := by decide +kernel
/-- TurnNet$Traffic.goStep: 390 steps -/
theorem axk_181_0 : ax_chk ax_wC rx_P (rx_DF, rx_FK) ax_APC (rx_n rxm_181) axm_181 (([3, 7, 11], (3, [(2, 4, 0), (2, 10, 0), (2, 8, 0)], [], [], [])), [(8, 1), (8, 2), (10, 3), (10, 4), (40, 999), (42, 999), (43, 999)], [([2], (3, [(2, 4, 0), (2, 10, 0), (2, 8, 0)], [], [], []))]) [] [2] 3000 1 (([((2, 1, 3, ([3, 7, 11, 15], (4, [(0, 2147483648, 2147483660), (2, 4, 0), (2, 10, 0), (2, 8, 0)], [], [], []))), ())] : List ((Nat × Nat × Nat × ax_T) × ax_Tr 0)) : ax_Tr 1) = true := by decide +kernel
theorem axr_181 (hP : ∀ q ∈ rx_P, rx_QW q ∧ rx_ST rx_P (rx_DF, rx_FK) q) : ax_Row ax_wC ax_XC rx_P ax_APC rx_P (rx_DF, rx_FK) rxm_181 (axm_181, axc_181) := fun hr => ⟨ax_tabB_ok axt_181, fun hL => ax_con_cons (ax_chk_ok hP ax_XC_ok hr hL (ax_tabB_ok axt_181) ax_ro_nil axk_181_0) (ax_con_nil)⟩
theorem axt_182 : ax_tabB (rx_cd rxm_182) axm_182 = true := by decide +kernel
theorem axr_182 (hP : ∀ q ∈ rx_P, rx_QW q ∧ rx_ST rx_P (rx_DF, rx_FK) q) : ax_Row ax_wC ax_XC rx_P ax_APC rx_P (rx_DF, rx_FK) rxm_182 (axm_182, axc_182) := fun hr => ⟨ax_tabB_ok axt_182, fun hL => ax_con_nil⟩
theorem axt_183 : ax_tabB (rx_cd rxm_183) axm_183 = true := by decide +kernel
/-- TurnNet.apart: 62 steps -/
theorem axk_183_0 : ax_chk ax_wC rx_P (rx_DF, rx_FK) ax_APC (rx_n rxm_183) axm_183 (([3, 7, 11], (3, [(0, 0, 4294967295), (0, 0, 4294967295), (2, 0, 0)], [], [], [(0, [80])])), [(34, 999), (35, 999)], [([15], (4, [(0, 2147483647, 2147483668), (0, 0, 4294967295), (0, 0, 4294967295), (2, 0, 0)], [], [], [(0, [80])]))]) [] [] 3000 0 (() : ax_Tr 0) = true := by decide +kernel
theorem axr_183 (hP : ∀ q ∈ rx_P, rx_QW q ∧ rx_ST rx_P (rx_DF, rx_FK) q) : ax_Row ax_wC ax_XC rx_P ax_APC rx_P (rx_DF, rx_FK) rxm_183 (axm_183, axc_183) := fun hr => ⟨ax_tabB_ok axt_183, fun hL => ax_con_cons (ax_chk_ok hP ax_XC_ok hr hL (ax_tabB_ok axt_183) ax_ro_nil axk_183_0) (ax_con_nil)⟩
theorem axt_184 : ax_tabB (rx_cd rxm_184) axm_184 = true := by decide +kernel
/-- TurnNet.cut: 67 steps -/
theorem axk_184_0 : ax_chk ax_wC rx_P (rx_DF, rx_FK) ax_APC (rx_n rxm_184) axm_184 (([3, 7], (2, [(0, 0, 4294967295), (2, 0, 0)], [], [], [(0, [80])])), [(9, 1), (9, 2), (9, 3), (10, 0), (10, 1), (10, 2), (10, 3), (10, 4), (40, 999), (41, 999), (42, 999), (43, 999)], [([11], (3, [(0, 2147483647, 2147483711), (0, 0, 4294967295), (2, 0, 0)], [], [], [(0, [80])]))]) [] [] 3000 0 (() : ax_Tr 0) = true := by decide +kernel
theorem axr_184 (hP : ∀ q ∈ rx_P, rx_QW q ∧ rx_ST rx_P (rx_DF, rx_FK) q) : ax_Row ax_wC ax_XC rx_P ax_APC rx_P (rx_DF, rx_FK) rxm_184 (axm_184, axc_184) := fun hr => ⟨ax_tabB_ok axt_184, fun hL => ax_con_cons (ax_chk_ok hP ax_XC_ok hr hL (ax_tabB_ok axt_184) ax_ro_nil axk_184_0) (ax_con_nil)⟩
theorem axt_185 : ax_tabB (rx_cd rxm_185) axm_185 = true := by decide +kernel
/-- TurnNet.depends: 103 steps -/
theorem axk_185_0 : ax_chk ax_wC rx_P (rx_DF, rx_FK) ax_APC (rx_n rxm_185) axm_185 (([3, 7, 11], (3, [(0, 0, 4294967295), (0, 0, 4294967295), (2, 0, 0)], [], [], [(0, [80])])), [(36, 999), (37, 999)], [([15], (4, [(0, 2147483647, 2147483649), (0, 0, 4294967295), (0, 0, 4294967295), (2, 0, 0)], [], [], [(0, [80])]))]) [] [] 3000 0 (() : ax_Tr 0) = true := by decide +kernel
theorem axr_185 (hP : ∀ q ∈ rx_P, rx_QW q ∧ rx_ST rx_P (rx_DF, rx_FK) q) : ax_Row ax_wC ax_XC rx_P ax_APC rx_P (rx_DF, rx_FK) rxm_185 (axm_185, axc_185) := fun hr => ⟨ax_tabB_ok axt_185, fun hL => ax_con_cons (ax_chk_ok hP ax_XC_ok hr hL (ax_tabB_ok axt_185) ax_ro_nil axk_185_0) (ax_con_nil)⟩
theorem axt_186 : ax_tabB (rx_cd rxm_186) axm_186 = true := by decide +kernel
/-- TurnNet.mend: 65 steps -/
theorem axk_186_0 : ax_chk ax_wC rx_P (rx_DF, rx_FK) ax_APC (rx_n rxm_186) axm_186 (([3, 7], (2, [(0, 0, 4294967295), (2, 0, 0)], [], [], [(0, [80])])), [(9, 1), (9, 2), (9, 3), (10, 0), (10, 1), (10, 2), (10, 3), (10, 4), (40, 999), (41, 999), (42, 999), (43, 999)], [([11], (3, [(0, 2147483647, 2147483711), (0, 0, 4294967295), (2, 0, 0)], [], [], [(0, [80])]))]) [] [] 3000 0 (() : ax_Tr 0) = true := by decide +kernel
theorem axr_186 (hP : ∀ q ∈ rx_P, rx_QW q ∧ rx_ST rx_P (rx_DF, rx_FK) q) : ax_Row ax_wC ax_XC rx_P ax_APC rx_P (rx_DF, rx_FK) rxm_186 (axm_186, axc_186) := fun hr => ⟨ax_tabB_ok axt_186, fun hL => ax_con_cons (ax_chk_ok hP ax_XC_ok hr hL (ax_tabB_ok axt_186) ax_ro_nil axk_186_0) (ax_con_nil)⟩
theorem axt_187 : ax_tabB (rx_cd rxm_187) axm_187 = true := by decide +kernel
/-- TurnNet.node: 67 steps -/
theorem axk_187_0 : ax_chk ax_wC rx_P (rx_DF, rx_FK) ax_APC (rx_n rxm_187) axm_187 (([3, 7, 11], (3, [(0, 0, 4294967295), (0, 0, 4294967295), (2, 0, 0)], [], [], [(0, [80])])), [(21, 999), (22, 999), (23, 999), (24, 999)], [([15], (4, [(0, 0, 4294967295), (0, 0, 4294967295), (0, 0, 4294967295), (2, 0, 0)], [], [], [(0, [80])]))]) [] [] 3000 0 (() : ax_Tr 0) = true := by decide +kernel
theorem axr_187 (hP : ∀ q ∈ rx_P, rx_QW q ∧ rx_ST rx_P (rx_DF, rx_FK) q) : ax_Row ax_wC ax_XC rx_P ax_APC rx_P (rx_DF, rx_FK) rxm_187 (axm_187, axc_187) := fun hr => ⟨ax_tabB_ok axt_187, fun hL => ax_con_cons (ax_chk_ok hP ax_XC_ok hr hL (ax_tabB_ok axt_187) ax_ro_nil axk_187_0) (ax_con_nil)⟩
theorem axt_188 : ax_tabB (rx_cd rxm_188) axm_188 = true := by decide +kernel
/-- TurnNet.plain: 69 steps -/
theorem axk_188_0 : ax_chk ax_wC rx_P (rx_DF, rx_FK) ax_APC (rx_n rxm_188) axm_188 (([3, 7, 11], (3, [(0, 0, 4294967295), (0, 0, 4294967295), (2, 0, 0)], [], [], [(0, [80])])), [(32, 999)], [([15], (4, [(0, 2147483647, 2147483657), (0, 0, 4294967295), (0, 0, 4294967295), (2, 0, 0)], [], [], [(0, [80])]))]) [] [] 3000 0 (() : ax_Tr 0) = true := by decide +kernel
theorem axr_188 (hP : ∀ q ∈ rx_P, rx_QW q ∧ rx_ST rx_P (rx_DF, rx_FK) q) : ax_Row ax_wC ax_XC rx_P ax_APC rx_P (rx_DF, rx_FK) rxm_188 (axm_188, axc_188) := fun hr => ⟨ax_tabB_ok axt_188, fun hL => ax_con_cons (ax_chk_ok hP ax_XC_ok hr hL (ax_tabB_ok axt_188) ax_ro_nil axk_188_0) (ax_con_nil)⟩
theorem axt_189 : ax_tabB (rx_cd rxm_189) axm_189 = true := by decide +kernel
/-- TurnNet.ring: 46 steps -/
theorem axk_189_0 : ax_chk ax_wC rx_P (rx_DF, rx_FK) ax_APC (rx_n rxm_189) axm_189 (([3, 7], (2, [(0, 0, 4294967295), (2, 0, 0)], [], [], [(0, [80])])), [(36, 999), (37, 999)], [([11], (3, [(0, 2147483647, 2147483688), (0, 0, 4294967295), (2, 0, 0)], [], [], [(0, [80])]))]) [] [] 3000 0 (() : ax_Tr 0) = true := by decide +kernel
theorem axr_189 (hP : ∀ q ∈ rx_P, rx_QW q ∧ rx_ST rx_P (rx_DF, rx_FK) q) : ax_Row ax_wC ax_XC rx_P ax_APC rx_P (rx_DF, rx_FK) rxm_189 (axm_189, axc_189) := fun hr => ⟨ax_tabB_ok axt_189, fun hL => ax_con_cons (ax_chk_ok hP ax_XC_ok hr hL (ax_tabB_ok axt_189) ax_ro_nil axk_189_0) (ax_con_nil)⟩
theorem axt_190 : ax_tabB (rx_cd rxm_190) axm_190 = true := by decide +kernel
/-- TurnNet.rings: 39 steps -/
theorem axk_190_0 : ax_chk ax_wC rx_P (rx_DF, rx_FK) ax_APC (rx_n rxm_190) axm_190 (([3], (1, [(2, 0, 0)], [], [], [(0, [80])])), [(36, 999), (37, 999)], [([7], (2, [(0, 0, 4294967295), (2, 0, 0)], [], [], [(0, [80])]))]) [] [32] 3000 1 (([((32, 1, 2, ([3, 7, 11], (4, [(2, 10, 0), (0, 2147483648, 2147483688), (0, 0, 4294967295), (2, 0, 0)], [(3, 52, 15), (3, 24, 182)], [], [(0, [80])]))), ())] : List ((Nat × Nat × Nat × ax_T) × ax_Tr 0)) : ax_Tr 1) = true := by decide +kernel
theorem axr_190 (hP : ∀ q ∈ rx_P, rx_QW q ∧ rx_ST rx_P (rx_DF, rx_FK) q) : ax_Row ax_wC ax_XC rx_P ax_APC rx_P (rx_DF, rx_FK) rxm_190 (axm_190, axc_190) := fun hr => ⟨ax_tabB_ok axt_190, fun hL => ax_con_cons (ax_chk_ok hP ax_XC_ok hr hL (ax_tabB_ok axt_190) ax_ro_nil axk_190_0) (ax_con_nil)⟩
theorem axt_191 : ax_tabB (rx_cd rxm_191) axm_191 = true := by decide +kernel
/-- TurnNet.send: 71 steps -/
theorem axk_191_0 : ax_chk ax_wC rx_P (rx_DF, rx_FK) ax_APC (rx_n rxm_191) axm_191 (([3, 7, 11], (3, [(0, 0, 4294967295), (0, 0, 4294967295), (2, 0, 0)], [], [], [(0, [80])])), [(9, 1), (9, 2), (9, 3), (10, 0), (10, 1), (10, 2), (10, 3), (10, 4), (40, 999), (41, 999), (42, 999), (43, 999)], [([15], (4, [(0, 2147483647, 2147483659), (0, 0, 4294967295), (0, 0, 4294967295), (2, 0, 0)], [], [], [(0, [80])]))]) [] [] 3000 0 (() : ax_Tr 0) = true := by decide +kernel
theorem axr_191 (hP : ∀ q ∈ rx_P, rx_QW q ∧ rx_ST rx_P (rx_DF, rx_FK) q) : ax_Row ax_wC ax_XC rx_P ax_APC rx_P (rx_DF, rx_FK) rxm_191 (axm_191, axc_191) := fun hr => ⟨ax_tabB_ok axt_191, fun hL => ax_con_cons (ax_chk_ok hP ax_XC_ok hr hL (ax_tabB_ok axt_191) ax_ro_nil axk_191_0) (ax_con_nil)⟩
theorem axt_192 : ax_tabB (rx_cd rxm_192) axm_192 = true := by decide +kernel
/-- TurnNet.turn: 70 steps -/
theorem axk_192_0 : ax_chk ax_wC rx_P (rx_DF, rx_FK) ax_APC (rx_n rxm_192) axm_192 (([3, 7], (2, [(0, 0, 4294967295), (2, 0, 0)], [], [], [(0, [80])])), [(9, 1), (9, 2), (9, 3), (10, 0), (10, 1), (10, 2), (10, 3), (10, 4), (40, 999), (41, 999), (42, 999), (43, 999)], [([11], (3, [(0, 2147483647, 2147483657), (0, 0, 4294967295), (2, 0, 0)], [], [], [(0, [80])]))]) [] [] 3000 0 (() : ax_Tr 0) = true := by decide +kernel
theorem axr_192 (hP : ∀ q ∈ rx_P, rx_QW q ∧ rx_ST rx_P (rx_DF, rx_FK) q) : ax_Row ax_wC ax_XC rx_P ax_APC rx_P (rx_DF, rx_FK) rxm_192 (axm_192, axc_192) := fun hr => ⟨ax_tabB_ok axt_192, fun hL => ax_con_cons (ax_chk_ok hP ax_XC_ok hr hL (ax_tabB_ok axt_192) ax_ro_nil axk_192_0) (ax_con_nil)⟩
theorem axt_193 : ax_tabB (rx_cd rxm_193) axm_193 = true := by decide +kernel
/-- TurnNet.upEndsBy: 11 steps -/
theorem axk_193_0 : ax_chk ax_wC rx_P (rx_DF, rx_FK) ax_APC (rx_n rxm_193) axm_193 (([3, 7], (2, [(0, 0, 4294967295), (2, 0, 0)], [], [], [(0, [80])])), [(21, 999), (22, 999), (23, 999), (24, 999)], [([11], (3, [(0, 0, 4294967295), (0, 0, 4294967295), (2, 0, 0)], [], [], [(0, [80])]))]) [] [] 3000 0 (() : ax_Tr 0) = true := by decide +kernel
theorem axr_193 (hP : ∀ q ∈ rx_P, rx_QW q ∧ rx_ST rx_P (rx_DF, rx_FK) q) : ax_Row ax_wC ax_XC rx_P ax_APC rx_P (rx_DF, rx_FK) rxm_193 (axm_193, axc_193) := fun hr => ⟨ax_tabB_ok axt_193, fun hL => ax_con_cons (ax_chk_ok hP ax_XC_ok hr hL (ax_tabB_ok axt_193) ax_ro_nil axk_193_0) (ax_con_nil)⟩
theorem axt_194 : ax_tabB (rx_cd rxm_194) axm_194 = true := by decide +kernel
theorem axr_194 (hP : ∀ q ∈ rx_P, rx_QW q ∧ rx_ST rx_P (rx_DF, rx_FK) q) : ax_Row ax_wC ax_XC rx_P ax_APC rx_P (rx_DF, rx_FK) rxm_194 (axm_194, axc_194) := fun hr => ⟨ax_tabB_ok axt_194, fun hL => ax_con_nil⟩
theorem axt_195 : ax_tabB (rx_cd rxm_195) axm_195 = true := by decide +kernel
theorem axr_195 (hP : ∀ q ∈ rx_P, rx_QW q ∧ rx_ST rx_P (rx_DF, rx_FK) q) : ax_Row ax_wC ax_XC rx_P ax_APC rx_P (rx_DF, rx_FK) rxm_195 (axm_195, axc_195) := fun hr => ⟨ax_tabB_ok axt_195, fun hL => ax_con_nil⟩
theorem axt_196 : ax_tabB (rx_cd rxm_196) axm_196 = true := by decide +kernel
theorem axr_196 (hP : ∀ q ∈ rx_P, rx_QW q ∧ rx_ST rx_P (rx_DF, rx_FK) q) : ax_Row ax_wC ax_XC rx_P ax_APC rx_P (rx_DF, rx_FK) rxm_196 (axm_196, axc_196) := fun hr => ⟨ax_tabB_ok axt_196, fun hL => ax_con_nil⟩
theorem axt_197 : ax_tabB (rx_cd rxm_197) axm_197 = true := by decide +kernel
theorem axr_197 (hP : ∀ q ∈ rx_P, rx_QW q ∧ rx_ST rx_P (rx_DF, rx_FK) q) : ax_Row ax_wC ax_XC rx_P ax_APC rx_P (rx_DF, rx_FK) rxm_197 (axm_197, axc_197) := fun hr => ⟨ax_tabB_ok axt_197, fun hL => ax_con_nil⟩
theorem axt_198 : ax_tabB (rx_cd rxm_198) axm_198 = true := by decide +kernel
theorem axr_198 (hP : ∀ q ∈ rx_P, rx_QW q ∧ rx_ST rx_P (rx_DF, rx_FK) q) : ax_Row ax_wC ax_XC rx_P ax_APC rx_P (rx_DF, rx_FK) rxm_198 (axm_198, axc_198) := fun hr => ⟨ax_tabB_ok axt_198, fun hL => ax_con_nil⟩
theorem axt_199 : ax_tabB (rx_cd rxm_199) axm_199 = true := by decide +kernel
theorem axr_199 (hP : ∀ q ∈ rx_P, rx_QW q ∧ rx_ST rx_P (rx_DF, rx_FK) q) : ax_Row ax_wC ax_XC rx_P ax_APC rx_P (rx_DF, rx_FK) rxm_199 (axm_199, axc_199) := fun hr => ⟨ax_tabB_ok axt_199, fun hL => ax_con_nil⟩
theorem axt_200 : ax_tabB (rx_cd rxm_200) axm_200 = true := by decide +kernel
theorem axr_200 (hP : ∀ q ∈ rx_P, rx_QW q ∧ rx_ST rx_P (rx_DF, rx_FK) q) : ax_Row ax_wC ax_XC rx_P ax_APC rx_P (rx_DF, rx_FK) rxm_200 (axm_200, axc_200) := fun hr => ⟨ax_tabB_ok axt_200, fun hL => ax_con_nil⟩
theorem axt_201 : ax_tabB (rx_cd rxm_201) axm_201 = true := by decide +kernel
theorem axr_201 (hP : ∀ q ∈ rx_P, rx_QW q ∧ rx_ST rx_P (rx_DF, rx_FK) q) : ax_Row ax_wC ax_XC rx_P ax_APC rx_P (rx_DF, rx_FK) rxm_201 (axm_201, axc_201) := fun hr => ⟨ax_tabB_ok axt_201, fun hL => ax_con_nil⟩
theorem axt_202 : ax_tabB (rx_cd rxm_202) axm_202 = true := by decide +kernel
theorem axr_202 (hP : ∀ q ∈ rx_P, rx_QW q ∧ rx_ST rx_P (rx_DF, rx_FK) q) : ax_Row ax_wC ax_XC rx_P ax_APC rx_P (rx_DF, rx_FK) rxm_202 (axm_202, axc_202) := fun hr => ⟨ax_tabB_ok axt_202, fun hL => ax_con_nil⟩
theorem axt_203 : ax_tabB (rx_cd rxm_203) axm_203 = true := by decide +kernel
theorem axr_203 (hP : ∀ q ∈ rx_P, rx_QW q ∧ rx_ST rx_P (rx_DF, rx_FK) q) : ax_Row ax_wC ax_XC rx_P ax_APC rx_P (rx_DF, rx_FK) rxm_203 (axm_203, axc_203) := fun hr => ⟨ax_tabB_ok axt_203, fun hL => ax_con_nil⟩
theorem axt_204 : ax_tabB (rx_cd rxm_204) axm_204 = true := by decide +kernel
theorem axr_204 (hP : ∀ q ∈ rx_P, rx_QW q ∧ rx_ST rx_P (rx_DF, rx_FK) q) : ax_Row ax_wC ax_XC rx_P ax_APC rx_P (rx_DF, rx_FK) rxm_204 (axm_204, axc_204) := fun hr => ⟨ax_tabB_ok axt_204, fun hL => ax_con_nil⟩
theorem axt_205 : ax_tabB (rx_cd rxm_205) axm_205 = true := by decide +kernel
theorem axr_205 (hP : ∀ q ∈ rx_P, rx_QW q ∧ rx_ST rx_P (rx_DF, rx_FK) q) : ax_Row ax_wC ax_XC rx_P ax_APC rx_P (rx_DF, rx_FK) rxm_205 (axm_205, axc_205) := fun hr => ⟨ax_tabB_ok axt_205, fun hL => ax_con_nil⟩
theorem axt_206 : ax_tabB (rx_cd rxm_206) axm_206 = true := by decide +kernel
theorem axr_206 (hP : ∀ q ∈ rx_P, rx_QW q ∧ rx_ST rx_P (rx_DF, rx_FK) q) : ax_Row ax_wC ax_XC rx_P ax_APC rx_P (rx_DF, rx_FK) rxm_206 (axm_206, axc_206) := fun hr => ⟨ax_tabB_ok axt_206, fun hL => ax_con_nil⟩
end
section
theorem axt_207 : ax_tabB (rx_cd rxm_207) axm_207 = true := by decide +kernel
theorem axr_207 (hP : ∀ q ∈ rx_P, rx_QW q ∧ rx_ST rx_P (rx_DF, rx_FK) q) : ax_Row ax_wC ax_XC rx_P ax_APC rx_P (rx_DF, rx_FK) rxm_207 (axm_207, axc_207) := fun hr => ⟨ax_tabB_ok axt_207, fun hL => ax_con_nil⟩
theorem axt_208 : ax_tabB (rx_cd rxm_208) axm_208 = true := by decide +kernel
/-- TurnNet$Planner.lay: 142 steps -/
theorem axk_208_0 : ax_chk ax_wC rx_P (rx_DF, rx_FK) ax_APC (rx_n rxm_208) axm_208 (([3, 7, 11, 15], (4, [(0, 0, 4294967295), (0, 0, 4294967295), (0, 0, 4294967295), (2, 7, 0)], [], [], [])), [(7, 3), (7, 4), (36, 999), (37, 999), (38, 999)], [([2], (4, [(0, 0, 4294967295), (0, 0, 4294967295), (0, 0, 4294967295), (2, 7, 0)], [], [], []))]) [] [25] 3000 1 (([((25, 1, 6, ([3, 7, 11, 15, 19, 23, 27, 2], (8, [(0, 2147483648, 2147483711), (0, 2147483648, 2147483668), (0, 0, 4294967295), (0, 0, 4294967295), (0, 0, 4294967295), (0, 0, 4294967295), (0, 0, 4294967295), (2, 7, 0)], [(3, 16, 27), (3, 12, 31)], [], []))), ())] : List ((Nat × Nat × Nat × ax_T) × ax_Tr 0)) : ax_Tr 1) = true := by decide +kernel
theorem axr_208 (hP : ∀ q ∈ rx_P, rx_QW q ∧ rx_ST rx_P (rx_DF, rx_FK) q) : ax_Row ax_wC ax_XC rx_P ax_APC rx_P (rx_DF, rx_FK) rxm_208 (axm_208, axc_208) := fun hr => ⟨ax_tabB_ok axt_208, fun hL => ax_con_cons (ax_chk_ok hP ax_XC_ok hr hL (ax_tabB_ok axt_208) ax_ro_nil axk_208_0) (ax_con_nil)⟩
theorem axt_209 : ax_tabB (rx_cd rxm_209) axm_209 = true := by decide +kernel
theorem axs_209_0 : ∀ x ∈ ([axu_lk1, axu_lk2, axu_lk3_29, axu_lk3_53, axu_lk4, axu_lk5, axu_lk6, axu_lk7, axu_lk8, axu_s0_lk2, axu_s0_lk4] : List ax_RL), ax_RO ax_wC ax_XC x := ax_ro_cons axq_lk1 (ax_ro_cons axq_lk2 (ax_ro_cons axq_lk3_29 (ax_ro_cons axq_lk3_53 (ax_ro_cons axq_lk4 (ax_ro_cons axq_lk5 (ax_ro_cons axq_lk6 (ax_ro_cons axq_lk7 (ax_ro_cons axq_lk8 (ax_ro_cons axq_s0_lk2 (ax_ro_cons axq_s0_lk4 (ax_ro_nil)))))))))))
/-- TurnNet$Reader.readLink: 66 steps -/
theorem axk_209_0 : ax_chk ax_wC rx_P (rx_DF, rx_FK) ax_APC (rx_n rxm_209) axm_209 (([42], (3, [(1, 0, 0), (1, 0, 0), (1, 0, 0)], [], [], [(31, []), (30, [3]), (50, [3, 7]), (73, [3, 7]), (60, [3, 7, 4006]), (46, [3, 7, 5, 11])])), [(1, 1), (2, 3), (2, 4), (2, 5), (2, 6), (2, 7), (2, 8), (14, 999), (15, 999)], [([0], (3, [(1, 0, 0), (1, 0, 0), (1, 0, 0)], [], [], [(63, [3])])), ([4], (4, [(1, 0, 0), (1, 0, 0), (1, 0, 0), (1, 0, 0)], [], [], [(50, [3, 15]), (73, [3, 15]), (1030, [7, 15]), (46, [3, 15, 5, 11])]))]) [axu_lk1, axu_lk2, axu_lk3_29, axu_lk3_53, axu_lk4, axu_lk5, axu_lk6, axu_lk7, axu_lk8, axu_s0_lk2, axu_s0_lk4] [] 3000 0 (() : ax_Tr 0) = true := by decide +kernel
theorem axr_209 (hP : ∀ q ∈ rx_P, rx_QW q ∧ rx_ST rx_P (rx_DF, rx_FK) q) : ax_Row ax_wC ax_XC rx_P ax_APC rx_P (rx_DF, rx_FK) rxm_209 (axm_209, axc_209) := fun hr => ⟨ax_tabB_ok axt_209, fun hL => ax_con_cons (ax_chk_ok hP ax_XC_ok hr hL (ax_tabB_ok axt_209) axs_209_0 axk_209_0) (ax_con_nil)⟩
theorem axt_210 : ax_tabB (rx_cd rxm_210) axm_210 = true := by decide +kernel
/-- TurnNet$Routes.countThrough: 63 steps -/
theorem axk_210_0 : ax_chk ax_wC rx_P (rx_DF, rx_FK) ax_APC (rx_n rxm_210) axm_210 (([3, 7, 11, 15], (4, [(0, 2147483648, 2147483687), (0, 2147483648, 2147483657), (0, 2147483648, 2147483657), (2, 4, 0)], [], [], [])), [(30, 999), (31, 999)], [([19], (5, [(1, 0, 0), (0, 2147483648, 2147483687), (0, 2147483648, 2147483657), (0, 2147483648, 2147483657), (2, 4, 0)], [], [], []))]) [] [29] 3000 1 (([((29, 1, 6, ([3, 7, 11, 15, 19, 2, 23, 2, 27], (10, [(2, 30, 0), (2, 15, 0), (2, 29, 0), (0, 2147483648, 2147483650), (1, 0, 0), (1, 0, 0), (0, 2147483648, 2147483687), (0, 2147483648, 2147483657), (0, 2147483648, 2147483657), (2, 4, 0)], [(3, 36, 31), (14, 28, 35), (3, 0, 14), (3, 40, 39)], [], []))), ())] : List ((Nat × Nat × Nat × ax_T) × ax_Tr 0)) : ax_Tr 1) = true := by decide +kernel
theorem axr_210 (hP : ∀ q ∈ rx_P, rx_QW q ∧ rx_ST rx_P (rx_DF, rx_FK) q) : ax_Row ax_wC ax_XC rx_P ax_APC rx_P (rx_DF, rx_FK) rxm_210 (axm_210, axc_210) := fun hr => ⟨ax_tabB_ok axt_210, fun hL => ax_con_cons (ax_chk_ok hP ax_XC_ok hr hL (ax_tabB_ok axt_210) ax_ro_nil axk_210_0) (ax_con_nil)⟩
theorem axt_211 : ax_tabB (rx_cd rxm_211) axm_211 = true := by decide +kernel
/-- TurnNet$Routes.countWays: 10 steps -/
theorem axk_211_0 : ax_chk ax_wC rx_P (rx_DF, rx_FK) ax_APC (rx_n rxm_211) axm_211 (([3, 7, 11], (3, [(0, 2147483648, 2147483657), (0, 2147483648, 2147483657), (2, 4, 0)], [], [], [])), [(30, 999)], [([15], (4, [(1, 0, 0), (0, 2147483648, 2147483657), (0, 2147483648, 2147483657), (2, 4, 0)], [], [], []))]) [] [] 3000 0 (() : ax_Tr 0) = true := by decide +kernel
theorem axr_211 (hP : ∀ q ∈ rx_P, rx_QW q ∧ rx_ST rx_P (rx_DF, rx_FK) q) : ax_Row ax_wC ax_XC rx_P ax_APC rx_P (rx_DF, rx_FK) rxm_211 (axm_211, axc_211) := fun hr => ⟨ax_tabB_ok axt_211, fun hL => ax_con_cons (ax_chk_ok hP ax_XC_ok hr hL (ax_tabB_ok axt_211) ax_ro_nil axk_211_0) (ax_con_nil)⟩
theorem axt_212 : ax_tabB (rx_cd rxm_212) axm_212 = true := by decide +kernel
/-- TurnNet$Routes.seeTable: 16 steps -/
theorem axk_212_0 : ax_chk ax_wC rx_P (rx_DF, rx_FK) ax_APC (rx_n rxm_212) axm_212 (([3, 7, 11], (3, [(0, 0, 4294967295), (0, 0, 4294967295), (2, 4, 0)], [], [], [])), [(4, 1), (4, 2), (4, 3), (4, 4), (25, 999), (26, 999), (27, 999), (28, 999), (29, 999)], [([2], (3, [(0, 0, 4294967295), (0, 0, 4294967295), (2, 4, 0)], [], [], []))]) [] [] 3000 0 (() : ax_Tr 0) = true := by decide +kernel
theorem axr_212 (hP : ∀ q ∈ rx_P, rx_QW q ∧ rx_ST rx_P (rx_DF, rx_FK) q) : ax_Row ax_wC ax_XC rx_P ax_APC rx_P (rx_DF, rx_FK) rxm_212 (axm_212, axc_212) := fun hr => ⟨ax_tabB_ok axt_212, fun hL => ax_con_cons (ax_chk_ok hP ax_XC_ok hr hL (ax_tabB_ok axt_212) ax_ro_nil axk_212_0) (ax_con_nil)⟩
theorem axt_213 : ax_tabB (rx_cd rxm_213) axm_213 = true := by decide +kernel
/-- TurnNet$Traffic.play: 78 steps -/
theorem axk_213_0 : ax_chk ax_wC rx_P (rx_DF, rx_FK) ax_APC (rx_n rxm_213) axm_213 (([3, 7, 11, 15, 19], (5, [(0, 0, 4294967295), (0, 2147483648, 2147493647), (2, 4, 0), (2, 10, 0), (2, 8, 0)], [], [], [])), [(8, 1), (8, 2), (10, 3), (10, 4), (40, 999), (41, 999), (42, 999), (43, 999)], [([23], (6, [(0, 0, 4294967295), (0, 0, 4294967295), (0, 2147483648, 2147493647), (2, 4, 0), (2, 10, 0), (2, 8, 0)], [], [], []))]) [] [9] 3000 1 (([((9, 1, 7, ([3, 7, 11, 15, 19, 23, 27, 31, 2, 2], (8, [(0, 2147483648, 4294967295), (0, 2147483648, 2147493654), (0, 0, 4294967295), (0, 0, 4294967295), (0, 2147483648, 2147493647), (2, 4, 0), (2, 10, 0), (2, 8, 0)], [], [], []))), ())] : List ((Nat × Nat × Nat × ax_T) × ax_Tr 0)) : ax_Tr 1) = true := by decide +kernel
theorem axr_213 (hP : ∀ q ∈ rx_P, rx_QW q ∧ rx_ST rx_P (rx_DF, rx_FK) q) : ax_Row ax_wC ax_XC rx_P ax_APC rx_P (rx_DF, rx_FK) rxm_213 (axm_213, axc_213) := fun hr => ⟨ax_tabB_ok axt_213, fun hL => ax_con_cons (ax_chk_ok hP ax_XC_ok hr hL (ax_tabB_ok axt_213) ax_ro_nil axk_213_0) (ax_con_nil)⟩
theorem axt_214 : ax_tabB (rx_cd rxm_214) axm_214 = true := by decide +kernel
/-- TurnNet.around: 125 steps -/
theorem axk_214_0 : ax_chk ax_wC rx_P (rx_DF, rx_FK) ax_APC (rx_n rxm_214) axm_214 (([3, 7, 11, 15], (4, [(0, 0, 4294967295), (0, 0, 4294967295), (0, 0, 4294967295), (2, 0, 0)], [], [], [(0, [80])])), [(4, 1), (4, 2), (4, 3), (4, 4), (25, 999), (29, 999)], [([19], (5, [(0, 2147483647, 2147483668), (0, 0, 4294967295), (0, 0, 4294967295), (0, 0, 4294967295), (2, 0, 0)], [], [], [(0, [80])]))]) [] [] 3000 0 (() : ax_Tr 0) = true := by decide +kernel
theorem axr_214 (hP : ∀ q ∈ rx_P, rx_QW q ∧ rx_ST rx_P (rx_DF, rx_FK) q) : ax_Row ax_wC ax_XC rx_P ax_APC rx_P (rx_DF, rx_FK) rxm_214 (axm_214, axc_214) := fun hr => ⟨ax_tabB_ok axt_214, fun hL => ax_con_cons (ax_chk_ok hP ax_XC_ok hr hL (ax_tabB_ok axt_214) ax_ro_nil axk_214_0) (ax_con_nil)⟩
theorem axt_215 : ax_tabB (rx_cd rxm_215) axm_215 = true := by decide +kernel
/-- TurnNet.length: 74 steps -/
theorem axk_215_0 : ax_chk ax_wC rx_P (rx_DF, rx_FK) ax_APC (rx_n rxm_215) axm_215 (([3, 7, 11], (3, [(0, 0, 4294967295), (0, 0, 4294967295), (2, 0, 0)], [], [], [(0, [80])])), [(4, 1), (4, 2), (4, 3), (4, 4), (25, 999), (29, 999)], [([15], (4, [(0, 2147483647, 2147483668), (0, 0, 4294967295), (0, 0, 4294967295), (2, 0, 0)], [], [], [(0, [80])]))]) [] [] 3000 0 (() : ax_Tr 0) = true := by decide +kernel
theorem axr_215 (hP : ∀ q ∈ rx_P, rx_QW q ∧ rx_ST rx_P (rx_DF, rx_FK) q) : ax_Row ax_wC ax_XC rx_P ax_APC rx_P (rx_DF, rx_FK) rxm_215 (axm_215, axc_215) := fun hr => ⟨ax_tabB_ok axt_215, fun hL => ax_con_cons (ax_chk_ok hP ax_XC_ok hr hL (ax_tabB_ok axt_215) ax_ro_nil axk_215_0) (ax_con_nil)⟩
theorem axt_216 : ax_tabB (rx_cd rxm_216) axm_216 = true := by decide +kernel
/-- TurnNet.orient: 50 steps -/
theorem axk_216_0 : ax_chk ax_wC rx_P (rx_DF, rx_FK) ax_APC (rx_n rxm_216) axm_216 (([3, 7], (2, [(0, 0, 4294967295), (2, 0, 0)], [], [], [(0, [80])])), [(9, 1), (9, 2), (9, 3), (10, 0), (10, 1), (10, 2), (10, 3), (10, 4), (21, 999), (22, 999), (23, 999), (24, 999), (40, 999), (41, 999), (42, 999), (43, 999)], [([11], (3, [(0, 2147483647, 2147483711), (0, 0, 4294967295), (2, 0, 0)], [], [], [(0, [80])]))]) [] [] 3000 0 (() : ax_Tr 0) = true := by decide +kernel
theorem axr_216 (hP : ∀ q ∈ rx_P, rx_QW q ∧ rx_ST rx_P (rx_DF, rx_FK) q) : ax_Row ax_wC ax_XC rx_P ax_APC rx_P (rx_DF, rx_FK) rxm_216 (axm_216, axc_216) := fun hr => ⟨ax_tabB_ok axt_216, fun hL => ax_con_cons (ax_chk_ok hP ax_XC_ok hr hL (ax_tabB_ok axt_216) ax_ro_nil axk_216_0) (ax_con_nil)⟩
theorem axt_217 : ax_tabB (rx_cd rxm_217) axm_217 = true := by decide +kernel
/-- TurnNet.pairs: 46 steps -/
theorem axk_217_0 : ax_chk ax_wC rx_P (rx_DF, rx_FK) ax_APC (rx_n rxm_217) axm_217 (([3, 7], (2, [(0, 0, 4294967295), (2, 0, 0)], [], [], [(0, [80])])), [(4, 1), (4, 2), (4, 3), (4, 4), (25, 999), (29, 999), (32, 999)], [([11], (3, [(0, 0, 4294967295), (0, 0, 4294967295), (2, 0, 0)], [], [], [(0, [80])]))]) [] [] 3000 0 (() : ax_Tr 0) = true := by decide +kernel
theorem axr_217 (hP : ∀ q ∈ rx_P, rx_QW q ∧ rx_ST rx_P (rx_DF, rx_FK) q) : ax_Row ax_wC ax_XC rx_P ax_APC rx_P (rx_DF, rx_FK) rxm_217 (axm_217, axc_217) := fun hr => ⟨ax_tabB_ok axt_217, fun hL => ax_con_cons (ax_chk_ok hP ax_XC_ok hr hL (ax_tabB_ok axt_217) ax_ro_nil axk_217_0) (ax_con_nil)⟩
theorem axt_218 : ax_tabB (rx_cd rxm_218) axm_218 = true := by decide +kernel
/-- TurnNet.pairsWithoutWay: 9 steps -/
theorem axk_218_0 : ax_chk ax_wC rx_P (rx_DF, rx_FK) ax_APC (rx_n rxm_218) axm_218 (([3, 7, 11], (3, [(0, 0, 4294967295), (0, 0, 4294967295), (2, 0, 0)], [], [], [(0, [80])])), [(4, 1), (4, 2), (4, 3), (4, 4), (25, 999), (29, 999)], [([15], (4, [(0, 0, 4294967295), (0, 0, 4294967295), (0, 0, 4294967295), (2, 0, 0)], [], [], [(0, [80])]))]) [] [] 3000 0 (() : ax_Tr 0) = true := by decide +kernel
theorem axr_218 (hP : ∀ q ∈ rx_P, rx_QW q ∧ rx_ST rx_P (rx_DF, rx_FK) q) : ax_Row ax_wC ax_XC rx_P ax_APC rx_P (rx_DF, rx_FK) rxm_218 (axm_218, axc_218) := fun hr => ⟨ax_tabB_ok axt_218, fun hL => ax_con_cons (ax_chk_ok hP ax_XC_ok hr hL (ax_tabB_ok axt_218) ax_ro_nil axk_218_0) (ax_con_nil)⟩
theorem axt_219 : ax_tabB (rx_cd rxm_219) axm_219 = true := by decide +kernel
/-- TurnNet.pivots: 7 steps -/
theorem axk_219_0 : ax_chk ax_wC rx_P (rx_DF, rx_FK) ax_APC (rx_n rxm_219) axm_219 (([3], (1, [(2, 0, 0)], [], [], [(0, [80])])), [(32, 999), (33, 999)], [([7], (2, [(0, 0, 4294967295), (2, 0, 0)], [], [], [(0, [80])]))]) [] [] 3000 0 (() : ax_Tr 0) = true := by decide +kernel
theorem axr_219 (hP : ∀ q ∈ rx_P, rx_QW q ∧ rx_ST rx_P (rx_DF, rx_FK) q) : ax_Row ax_wC ax_XC rx_P ax_APC rx_P (rx_DF, rx_FK) rxm_219 (axm_219, axc_219) := fun hr => ⟨ax_tabB_ok axt_219, fun hL => ax_con_cons (ax_chk_ok hP ax_XC_ok hr hL (ax_tabB_ok axt_219) ax_ro_nil axk_219_0) (ax_con_nil)⟩
theorem axt_220 : ax_tabB (rx_cd rxm_220) axm_220 = true := by decide +kernel
theorem axr_220 (hP : ∀ q ∈ rx_P, rx_QW q ∧ rx_ST rx_P (rx_DF, rx_FK) q) : ax_Row ax_wC ax_XC rx_P ax_APC rx_P (rx_DF, rx_FK) rxm_220 (axm_220, axc_220) := fun hr => ⟨ax_tabB_ok axt_220, fun hL => ax_con_nil⟩
theorem axt_221 : ax_tabB (rx_cd rxm_221) axm_221 = true := by decide +kernel
theorem axr_221 (hP : ∀ q ∈ rx_P, rx_QW q ∧ rx_ST rx_P (rx_DF, rx_FK) q) : ax_Row ax_wC ax_XC rx_P ax_APC rx_P (rx_DF, rx_FK) rxm_221 (axm_221, axc_221) := fun hr => ⟨ax_tabB_ok axt_221, fun hL => ax_con_nil⟩
theorem axt_222 : ax_tabB (rx_cd rxm_222) axm_222 = true := by decide +kernel
theorem axr_222 (hP : ∀ q ∈ rx_P, rx_QW q ∧ rx_ST rx_P (rx_DF, rx_FK) q) : ax_Row ax_wC ax_XC rx_P ax_APC rx_P (rx_DF, rx_FK) rxm_222 (axm_222, axc_222) := fun hr => ⟨ax_tabB_ok axt_222, fun hL => ax_con_nil⟩
theorem axt_223 : ax_tabB (rx_cd rxm_223) axm_223 = true := by decide +kernel
theorem axr_223 (hP : ∀ q ∈ rx_P, rx_QW q ∧ rx_ST rx_P (rx_DF, rx_FK) q) : ax_Row ax_wC ax_XC rx_P ax_APC rx_P (rx_DF, rx_FK) rxm_223 (axm_223, axc_223) := fun hr => ⟨ax_tabB_ok axt_223, fun hL => ax_con_nil⟩
theorem axt_224 : ax_tabB (rx_cd rxm_224) axm_224 = true := by decide +kernel
theorem axr_224 (hP : ∀ q ∈ rx_P, rx_QW q ∧ rx_ST rx_P (rx_DF, rx_FK) q) : ax_Row ax_wC ax_XC rx_P ax_APC rx_P (rx_DF, rx_FK) rxm_224 (axm_224, axc_224) := fun hr => ⟨ax_tabB_ok axt_224, fun hL => ax_con_nil⟩
theorem axt_225 : ax_tabB (rx_cd rxm_225) axm_225 = true := by decide +kernel
theorem axr_225 (hP : ∀ q ∈ rx_P, rx_QW q ∧ rx_ST rx_P (rx_DF, rx_FK) q) : ax_Row ax_wC ax_XC rx_P ax_APC rx_P (rx_DF, rx_FK) rxm_225 (axm_225, axc_225) := fun hr => ⟨ax_tabB_ok axt_225, fun hL => ax_con_nil⟩
theorem axt_226 : ax_tabB (rx_cd rxm_226) axm_226 = true := by decide +kernel
theorem axr_226 (hP : ∀ q ∈ rx_P, rx_QW q ∧ rx_ST rx_P (rx_DF, rx_FK) q) : ax_Row ax_wC ax_XC rx_P ax_APC rx_P (rx_DF, rx_FK) rxm_226 (axm_226, axc_226) := fun hr => ⟨ax_tabB_ok axt_226, fun hL => ax_con_nil⟩
theorem axt_227 : ax_tabB (rx_cd rxm_227) axm_227 = true := by decide +kernel
/-- TurnNet.dearest: 60 steps -/
theorem axk_227_0 : ax_chk ax_wC rx_P (rx_DF, rx_FK) ax_APC (rx_n rxm_227) axm_227 (([3], (1, [(2, 0, 0)], [], [], [(0, [80])])), [(4, 1), (4, 2), (4, 3), (4, 4), (25, 999), (29, 999)], [([7], (2, [(0, 2147483647, 2147483667), (2, 0, 0)], [], [], [(0, [80])]))]) [] [6] 3000 1 (([((6, 1, 3, ([3, 7, 11, 15, 2], (4, [(0, 2147483648, 2147483668), (0, 2147483647, 4294967295), (0, 2147483647, 2147483667), (2, 0, 0)], [], [], [(0, [80])]))), ())] : List ((Nat × Nat × Nat × ax_T) × ax_Tr 0)) : ax_Tr 1) = true := by decide +kernel
theorem axr_227 (hP : ∀ q ∈ rx_P, rx_QW q ∧ rx_ST rx_P (rx_DF, rx_FK) q) : ax_Row ax_wC ax_XC rx_P ax_APC rx_P (rx_DF, rx_FK) rxm_227 (axm_227, axc_227) := fun hr => ⟨ax_tabB_ok axt_227, fun hL => ax_con_cons (ax_chk_ok hP ax_XC_ok hr hL (ax_tabB_ok axt_227) ax_ro_nil axk_227_0) (ax_con_nil)⟩
theorem axt_228 : ax_tabB (rx_cd rxm_228) axm_228 = true := by decide +kernel
/-- TurnNet.entry: 86 steps -/
theorem axk_228_0 : ax_chk ax_wC rx_P (rx_DF, rx_FK) ax_APC (rx_n rxm_228) axm_228 (([3, 7, 11, 15], (4, [(0, 0, 4294967295), (0, 0, 4294967295), (0, 0, 4294967295), (2, 0, 0)], [], [], [(0, [80])])), [(4, 1), (4, 2), (4, 3), (4, 4), (25, 999), (26, 999), (27, 999), (28, 999), (29, 999)], [([19], (5, [(0, 2147483647, 2147483687), (0, 0, 4294967295), (0, 0, 4294967295), (0, 0, 4294967295), (2, 0, 0)], [], [], [(0, [80])]))]) [] [] 3000 0 (() : ax_Tr 0) = true := by decide +kernel
theorem axr_228 (hP : ∀ q ∈ rx_P, rx_QW q ∧ rx_ST rx_P (rx_DF, rx_FK) q) : ax_Row ax_wC ax_XC rx_P ax_APC rx_P (rx_DF, rx_FK) rxm_228 (axm_228, axc_228) := fun hr => ⟨ax_tabB_ok axt_228, fun hL => ax_con_cons (ax_chk_ok hP ax_XC_ok hr hL (ax_tabB_ok axt_228) ax_ro_nil axk_228_0) (ax_con_nil)⟩
theorem axt_229 : ax_tabB (rx_cd rxm_229) axm_229 = true := by decide +kernel
/-- TurnNet.game: 141 steps -/
theorem axk_229_0 : ax_chk ax_wC rx_P (rx_DF, rx_FK) ax_APC (rx_n rxm_229) axm_229 (([3, 7, 11, 15], (4, [(0, 0, 4294967295), (0, 0, 4294967295), (0, 0, 4294967295), (2, 0, 0)], [], [], [(0, [80])])), [(4, 1), (4, 2), (4, 3), (4, 4), (8, 1), (8, 2), (10, 0), (10, 1), (10, 2), (10, 3), (10, 4), (25, 999), (26, 999), (27, 999), (28, 999), (29, 999), (40, 999), (41, 999), (42, 999), (43, 999)], [([19], (5, [(0, 0, 4294967295), (0, 0, 4294967295), (0, 0, 4294967295), (0, 0, 4294967295), (2, 0, 0)], [], [], [(0, [80])]))]) [] [] 3000 0 (() : ax_Tr 0) = true := by decide +kernel
theorem axr_229 (hP : ∀ q ∈ rx_P, rx_QW q ∧ rx_ST rx_P (rx_DF, rx_FK) q) : ax_Row ax_wC ax_XC rx_P ax_APC rx_P (rx_DF, rx_FK) rxm_229 (axm_229, axc_229) := fun hr => ⟨ax_tabB_ok axt_229, fun hL => ax_con_cons (ax_chk_ok hP ax_XC_ok hr hL (ax_tabB_ok axt_229) ax_ro_nil axk_229_0) (ax_con_nil)⟩
theorem axt_230 : ax_tabB (rx_cd rxm_230) axm_230 = true := by decide +kernel
/-- TurnNet.goSteps: 34 steps -/
theorem axk_230_0 : ax_chk ax_wC rx_P (rx_DF, rx_FK) ax_APC (rx_n rxm_230) axm_230 (([3, 7, 11], (3, [(0, 0, 4294967295), (2, 10, 0), (2, 0, 0)], [], [], [(0, [80])])), [(4, 1), (4, 2), (4, 3), (4, 4), (8, 1), (8, 2), (10, 3), (10, 4), (25, 999), (26, 999), (27, 999), (28, 999), (29, 999), (40, 999), (42, 999), (43, 999)], [([15], (4, [(0, 0, 4294967295), (0, 0, 4294967295), (2, 10, 0), (2, 0, 0)], [], [], [(0, [80])]))]) [] [24] 3000 1 (([((24, 1, 3, ([3, 7, 11, 15], (4, [(0, 2147483648, 4294967295), (0, 0, 4294967295), (2, 10, 0), (2, 0, 0)], [(3, 32, 202), (3, 12, 98)], [], [(0, [80])]))), ())] : List ((Nat × Nat × Nat × ax_T) × ax_Tr 0)) : ax_Tr 1) = true := by decide +kernel
theorem axr_230 (hP : ∀ q ∈ rx_P, rx_QW q ∧ rx_ST rx_P (rx_DF, rx_FK) q) : ax_Row ax_wC ax_XC rx_P ax_APC rx_P (rx_DF, rx_FK) rxm_230 (axm_230, axc_230) := fun hr => ⟨ax_tabB_ok axt_230, fun hL => ax_con_cons (ax_chk_ok hP ax_XC_ok hr hL (ax_tabB_ok axt_230) ax_ro_nil axk_230_0) (ax_con_nil)⟩
theorem axt_231 : ax_tabB (rx_cd rxm_231) axm_231 = true := by decide +kernel
/-- TurnNet.heaviest: 39 steps -/
theorem axk_231_0 : ax_chk ax_wC rx_P (rx_DF, rx_FK) ax_APC (rx_n rxm_231) axm_231 (([3, 7], (2, [(0, 0, 4294967295), (2, 0, 0)], [], [], [(0, [80])])), [(4, 1), (4, 2), (4, 3), (4, 4), (25, 999), (26, 999), (27, 999), (28, 999), (29, 999)], [([11], (3, [(0, 0, 4294967295), (0, 0, 4294967295), (2, 0, 0)], [], [], [(0, [80])]))]) [] [] 3000 0 (() : ax_Tr 0) = true := by decide +kernel
theorem axr_231 (hP : ∀ q ∈ rx_P, rx_QW q ∧ rx_ST rx_P (rx_DF, rx_FK) q) : ax_Row ax_wC ax_XC rx_P ax_APC rx_P (rx_DF, rx_FK) rxm_231 (axm_231, axc_231) := fun hr => ⟨ax_tabB_ok axt_231, fun hL => ax_con_cons (ax_chk_ok hP ax_XC_ok hr hL (ax_tabB_ok axt_231) ax_ro_nil axk_231_0) (ax_con_nil)⟩
theorem axt_232 : ax_tabB (rx_cd rxm_232) axm_232 = true := by decide +kernel
/-- TurnNet.load: 44 steps -/
theorem axk_232_0 : ax_chk ax_wC rx_P (rx_DF, rx_FK) ax_APC (rx_n rxm_232) axm_232 (([3, 7], (2, [(0, 0, 4294967295), (2, 0, 0)], [], [], [(0, [80])])), [(4, 1), (4, 2), (4, 3), (4, 4), (25, 999), (26, 999), (27, 999), (28, 999), (29, 999)], [([11], (3, [(0, 0, 4294967295), (0, 0, 4294967295), (2, 0, 0)], [], [], [(0, [80])]))]) [] [] 3000 0 (() : ax_Tr 0) = true := by decide +kernel
theorem axr_232 (hP : ∀ q ∈ rx_P, rx_QW q ∧ rx_ST rx_P (rx_DF, rx_FK) q) : ax_Row ax_wC ax_XC rx_P ax_APC rx_P (rx_DF, rx_FK) rxm_232 (axm_232, axc_232) := fun hr => ⟨ax_tabB_ok axt_232, fun hL => ax_con_cons (ax_chk_ok hP ax_XC_ok hr hL (ax_tabB_ok axt_232) ax_ro_nil axk_232_0) (ax_con_nil)⟩
theorem axt_233 : ax_tabB (rx_cd rxm_233) axm_233 = true := by decide +kernel
/-- TurnNet.packet: 196 steps -/
theorem axk_233_0 : ax_chk ax_wC rx_P (rx_DF, rx_FK) ax_APC (rx_n rxm_233) axm_233 (([3, 7, 11], (3, [(0, 0, 4294967295), (0, 0, 4294967295), (2, 0, 0)], [], [], [(0, [80])])), [(4, 1), (4, 2), (4, 3), (4, 4), (25, 999), (26, 999), (27, 999), (28, 999), (29, 999)], [([15], (4, [(0, 0, 4294967295), (0, 0, 4294967295), (0, 0, 4294967295), (2, 0, 0)], [], [], [(0, [80])]))]) [] [] 3000 0 (() : ax_Tr 0) = true := by decide +kernel
theorem axr_233 (hP : ∀ q ∈ rx_P, rx_QW q ∧ rx_ST rx_P (rx_DF, rx_FK) q) : ax_Row ax_wC ax_XC rx_P ax_APC rx_P (rx_DF, rx_FK) rxm_233 (axm_233, axc_233) := fun hr => ⟨ax_tabB_ok axt_233, fun hL => ax_con_cons (ax_chk_ok hP ax_XC_ok hr hL (ax_tabB_ok axt_233) ax_ro_nil axk_233_0) (ax_con_nil)⟩
theorem axt_234 : ax_tabB (rx_cd rxm_234) axm_234 = true := by decide +kernel
/-- TurnNet.path: 68 steps -/
theorem axk_234_0 : ax_chk ax_wC rx_P (rx_DF, rx_FK) ax_APC (rx_n rxm_234) axm_234 (([3, 7, 11, 15], (4, [(0, 0, 4294967295), (0, 0, 4294967295), (0, 0, 4294967295), (2, 0, 0)], [], [], [(0, [80])])), [(4, 1), (4, 2), (4, 3), (4, 4), (25, 999), (26, 999), (27, 999), (28, 999), (29, 999)], [([19], (5, [(0, 2147483647, 2147483687), (0, 0, 4294967295), (0, 0, 4294967295), (0, 0, 4294967295), (2, 0, 0)], [], [], [(0, [80])]))]) [] [] 3000 0 (() : ax_Tr 0) = true := by decide +kernel
theorem axr_234 (hP : ∀ q ∈ rx_P, rx_QW q ∧ rx_ST rx_P (rx_DF, rx_FK) q) : ax_Row ax_wC ax_XC rx_P ax_APC rx_P (rx_DF, rx_FK) rxm_234 (axm_234, axc_234) := fun hr => ⟨ax_tabB_ok axt_234, fun hL => ax_con_cons (ax_chk_ok hP ax_XC_ok hr hL (ax_tabB_ok axt_234) ax_ro_nil axk_234_0) (ax_con_nil)⟩
theorem axt_235 : ax_tabB (rx_cd rxm_235) axm_235 = true := by decide +kernel
/-- TurnNet.planFor: 13 steps -/
theorem axk_235_0 : ax_chk ax_wC rx_P (rx_DF, rx_FK) ax_APC (rx_n rxm_235) axm_235 (([3, 7], (2, [(0, 0, 4294967295), (2, 0, 0)], [], [], [(0, [80])])), [(7, 3), (7, 4), (21, 999), (22, 999), (23, 999), (24, 999), (36, 999), (37, 999), (38, 999)], [([2], (2, [(0, 0, 4294967295), (2, 0, 0)], [], [], [(0, [80])]))]) [] [] 3000 0 (() : ax_Tr 0) = true := by decide +kernel
theorem axr_235 (hP : ∀ q ∈ rx_P, rx_QW q ∧ rx_ST rx_P (rx_DF, rx_FK) q) : ax_Row ax_wC ax_XC rx_P ax_APC rx_P (rx_DF, rx_FK) rxm_235 (axm_235, axc_235) := fun hr => ⟨ax_tabB_ok axt_235, fun hL => ax_con_cons (ax_chk_ok hP ax_XC_ok hr hL (ax_tabB_ok axt_235) ax_ro_nil axk_235_0) (ax_con_nil)⟩
theorem axt_236 : ax_tabB (rx_cd rxm_236) axm_236 = true := by decide +kernel
/-- TurnNet.runEmpty: 68 steps -/
theorem axk_236_0 : ax_chk ax_wC rx_P (rx_DF, rx_FK) ax_APC (rx_n rxm_236) axm_236 (([3], (1, [(2, 0, 0)], [], [], [(0, [80])])), [(4, 1), (4, 2), (4, 3), (4, 4), (8, 1), (8, 2), (10, 3), (10, 4), (25, 999), (26, 999), (27, 999), (28, 999), (29, 999), (40, 999), (42, 999), (43, 999)], [([7], (2, [(0, 2147483648, 2147483848), (2, 0, 0)], [], [], [(0, [80])]))]) [] [30] 3000 1 (([((30, 1, 1, ([3, 7, 2], (2, [(0, 2147483648, 2147483848), (2, 0, 0)], [(3, 32, 202), (3, 40, 614), (3, 12, 98)], [], [(0, [80])]))), ())] : List ((Nat × Nat × Nat × ax_T) × ax_Tr 0)) : ax_Tr 1) = true := by decide +kernel
theorem axr_236 (hP : ∀ q ∈ rx_P, rx_QW q ∧ rx_ST rx_P (rx_DF, rx_FK) q) : ax_Row ax_wC ax_XC rx_P ax_APC rx_P (rx_DF, rx_FK) rxm_236 (axm_236, axc_236) := fun hr => ⟨ax_tabB_ok axt_236, fun hL => ax_con_cons (ax_chk_ok hP ax_XC_ok hr hL (ax_tabB_ok axt_236) ax_ro_nil axk_236_0) (ax_con_nil)⟩
theorem axt_237 : ax_tabB (rx_cd rxm_237) axm_237 = true := by decide +kernel
/-- TurnNet.through: 93 steps -/
theorem axk_237_0 : ax_chk ax_wC rx_P (rx_DF, rx_FK) ax_APC (rx_n rxm_237) axm_237 (([3, 7, 11, 15], (4, [(0, 0, 4294967295), (0, 0, 4294967295), (0, 0, 4294967295), (2, 0, 0)], [], [], [(0, [80])])), [(4, 1), (4, 2), (4, 3), (4, 4), (25, 999), (29, 999), (30, 999), (31, 999)], [([19], (5, [(1, 0, 0), (0, 0, 4294967295), (0, 0, 4294967295), (0, 0, 4294967295), (2, 0, 0)], [], [], [(0, [80])]))]) [] [] 3000 0 (() : ax_Tr 0) = true := by decide +kernel
theorem axr_237 (hP : ∀ q ∈ rx_P, rx_QW q ∧ rx_ST rx_P (rx_DF, rx_FK) q) : ax_Row ax_wC ax_XC rx_P ax_APC rx_P (rx_DF, rx_FK) rxm_237 (axm_237, axc_237) := fun hr => ⟨ax_tabB_ok axt_237, fun hL => ax_con_cons (ax_chk_ok hP ax_XC_ok hr hL (ax_tabB_ok axt_237) ax_ro_nil axk_237_0) (ax_con_nil)⟩
theorem axt_238 : ax_tabB (rx_cd rxm_238) axm_238 = true := by decide +kernel
/-- TurnNet.ways: 63 steps -/
theorem axk_238_0 : ax_chk ax_wC rx_P (rx_DF, rx_FK) ax_APC (rx_n rxm_238) axm_238 (([3, 7, 11], (3, [(0, 0, 4294967295), (0, 0, 4294967295), (2, 0, 0)], [], [], [(0, [80])])), [(4, 1), (4, 2), (4, 3), (4, 4), (25, 999), (29, 999), (30, 999)], [([15], (4, [(1, 0, 0), (0, 0, 4294967295), (0, 0, 4294967295), (2, 0, 0)], [], [], [(0, [80])]))]) [] [] 3000 0 (() : ax_Tr 0) = true := by decide +kernel
theorem axr_238 (hP : ∀ q ∈ rx_P, rx_QW q ∧ rx_ST rx_P (rx_DF, rx_FK) q) : ax_Row ax_wC ax_XC rx_P ax_APC rx_P (rx_DF, rx_FK) rxm_238 (axm_238, axc_238) := fun hr => ⟨ax_tabB_ok axt_238, fun hL => ax_con_cons (ax_chk_ok hP ax_XC_ok hr hL (ax_tabB_ok axt_238) ax_ro_nil axk_238_0) (ax_con_nil)⟩
theorem axt_239 : ax_tabB (rx_cd rxm_239) axm_239 = true := by decide +kernel
/-- TurnNet.without: 121 steps -/
theorem axk_239_0 : ax_chk ax_wC rx_P (rx_DF, rx_FK) ax_APC (rx_n rxm_239) axm_239 (([3, 7, 11], (3, [(0, 0, 4294967295), (0, 0, 4294967295), (2, 0, 0)], [], [], [(0, [80])])), [(4, 1), (4, 2), (4, 3), (4, 4), (21, 999), (22, 999), (23, 999), (24, 999), (25, 999), (29, 999)], [([15], (4, [(0, 0, 4294967295), (0, 0, 4294967295), (0, 0, 4294967295), (2, 0, 0)], [], [], [(0, [80])]))]) [] [] 3000 0 (() : ax_Tr 0) = true := by decide +kernel
theorem axr_239 (hP : ∀ q ∈ rx_P, rx_QW q ∧ rx_ST rx_P (rx_DF, rx_FK) q) : ax_Row ax_wC ax_XC rx_P ax_APC rx_P (rx_DF, rx_FK) rxm_239 (axm_239, axc_239) := fun hr => ⟨ax_tabB_ok axt_239, fun hL => ax_con_cons (ax_chk_ok hP ax_XC_ok hr hL (ax_tabB_ok axt_239) ax_ro_nil axk_239_0) (ax_con_nil)⟩
theorem axt_240 : ax_tabB (rx_cd rxm_240) axm_240 = true := by decide +kernel
/-- TurnNet.worthOf: 72 steps -/
theorem axk_240_0 : ax_chk ax_wC rx_P (rx_DF, rx_FK) ax_APC (rx_n rxm_240) axm_240 (([3, 7, 11], (3, [(0, 0, 4294967295), (0, 0, 4294967295), (2, 0, 0)], [], [], [(0, [80])])), [(4, 1), (4, 2), (4, 3), (4, 4), (21, 999), (22, 999), (23, 999), (24, 999), (25, 999), (26, 999), (27, 999), (28, 999), (29, 999)], [([15], (4, [(0, 0, 4294967295), (0, 0, 4294967295), (0, 0, 4294967295), (2, 0, 0)], [], [], [(0, [80])]))]) [] [] 3000 0 (() : ax_Tr 0) = true := by decide +kernel
theorem axr_240 (hP : ∀ q ∈ rx_P, rx_QW q ∧ rx_ST rx_P (rx_DF, rx_FK) q) : ax_Row ax_wC ax_XC rx_P ax_APC rx_P (rx_DF, rx_FK) rxm_240 (axm_240, axc_240) := fun hr => ⟨ax_tabB_ok axt_240, fun hL => ax_con_cons (ax_chk_ok hP ax_XC_ok hr hL (ax_tabB_ok axt_240) ax_ro_nil axk_240_0) (ax_con_nil)⟩
theorem axt_241 : ax_tabB (rx_cd rxm_241) axm_241 = true := by decide +kernel
theorem axr_241 (hP : ∀ q ∈ rx_P, rx_QW q ∧ rx_ST rx_P (rx_DF, rx_FK) q) : ax_Row ax_wC ax_XC rx_P ax_APC rx_P (rx_DF, rx_FK) rxm_241 (axm_241, axc_241) := fun hr => ⟨ax_tabB_ok axt_241, fun hL => ax_con_nil⟩
theorem axt_242 : ax_tabB (rx_cd rxm_242) axm_242 = true := by decide +kernel
theorem axr_242 (hP : ∀ q ∈ rx_P, rx_QW q ∧ rx_ST rx_P (rx_DF, rx_FK) q) : ax_Row ax_wC ax_XC rx_P ax_APC rx_P (rx_DF, rx_FK) rxm_242 (axm_242, axc_242) := fun hr => ⟨ax_tabB_ok axt_242, fun hL => ax_con_nil⟩
theorem axt_243 : ax_tabB (rx_cd rxm_243) axm_243 = true := by decide +kernel
theorem axr_243 (hP : ∀ q ∈ rx_P, rx_QW q ∧ rx_ST rx_P (rx_DF, rx_FK) q) : ax_Row ax_wC ax_XC rx_P ax_APC rx_P (rx_DF, rx_FK) rxm_243 (axm_243, axc_243) := fun hr => ⟨ax_tabB_ok axt_243, fun hL => ax_con_nil⟩
theorem axt_244 : ax_tabB (rx_cd rxm_244) axm_244 = true := by decide +kernel
theorem axr_244 (hP : ∀ q ∈ rx_P, rx_QW q ∧ rx_ST rx_P (rx_DF, rx_FK) q) : ax_Row ax_wC ax_XC rx_P ax_APC rx_P (rx_DF, rx_FK) rxm_244 (axm_244, axc_244) := fun hr => ⟨ax_tabB_ok axt_244, fun hL => ax_con_nil⟩
theorem axt_245 : ax_tabB (rx_cd rxm_245) axm_245 = true := by decide +kernel
theorem axr_245 (hP : ∀ q ∈ rx_P, rx_QW q ∧ rx_ST rx_P (rx_DF, rx_FK) q) : ax_Row ax_wC ax_XC rx_P ax_APC rx_P (rx_DF, rx_FK) rxm_245 (axm_245, axc_245) := fun hr => ⟨ax_tabB_ok axt_245, fun hL => ax_con_nil⟩
theorem axt_246 : ax_tabB (rx_cd rxm_246) axm_246 = true := by decide +kernel
theorem axr_246 (hP : ∀ q ∈ rx_P, rx_QW q ∧ rx_ST rx_P (rx_DF, rx_FK) q) : ax_Row ax_wC ax_XC rx_P ax_APC rx_P (rx_DF, rx_FK) rxm_246 (axm_246, axc_246) := fun hr => ⟨ax_tabB_ok axt_246, fun hL => ax_con_nil⟩
theorem axt_247 : ax_tabB (rx_cd rxm_247) axm_247 = true := by decide +kernel
theorem axr_247 (hP : ∀ q ∈ rx_P, rx_QW q ∧ rx_ST rx_P (rx_DF, rx_FK) q) : ax_Row ax_wC ax_XC rx_P ax_APC rx_P (rx_DF, rx_FK) rxm_247 (axm_247, axc_247) := fun hr => ⟨ax_tabB_ok axt_247, fun hL => ax_con_nil⟩
theorem axt_248 : ax_tabB (rx_cd rxm_248) axm_248 = true := by decide +kernel
/-- TurnNet.best: 47 steps -/
theorem axk_248_0 : ax_chk ax_wC rx_P (rx_DF, rx_FK) ax_APC (rx_n rxm_248) axm_248 (([3, 7], (2, [(0, 0, 4294967295), (2, 0, 0)], [], [], [(0, [80])])), [(4, 1), (4, 2), (4, 3), (4, 4), (21, 999), (22, 999), (23, 999), (24, 999), (25, 999), (26, 999), (27, 999), (28, 999), (29, 999)], [([11], (3, [(0, 2147483647, 2147483667), (0, 0, 4294967295), (2, 0, 0)], [], [], [(0, [80])]))]) [] [33] 3000 1 (([((33, 1, 4, ([3, 7, 11, 15, 19, 2], (6, [(0, 2147483649, 2147483658), (0, 2147483649, 2147483658), (0, 0, 4294967295), (0, 2147483648, 2147483667), (0, 0, 4294967295), (2, 0, 0)], [(14, 0, 23), (3, 0, 14)], [], [(0, [80])]))), ())] : List ((Nat × Nat × Nat × ax_T) × ax_Tr 0)) : ax_Tr 1) = true := by decide +kernel
theorem axr_248 (hP : ∀ q ∈ rx_P, rx_QW q ∧ rx_ST rx_P (rx_DF, rx_FK) q) : ax_Row ax_wC ax_XC rx_P ax_APC rx_P (rx_DF, rx_FK) rxm_248 (axm_248, axc_248) := fun hr => ⟨ax_tabB_ok axt_248, fun hL => ax_con_cons (ax_chk_ok hP ax_XC_ok hr hL (ax_tabB_ok axt_248) ax_ro_nil axk_248_0) (ax_con_nil)⟩
theorem axt_249 : ax_tabB (rx_cd rxm_249) axm_249 = true := by decide +kernel
/-- TurnNet.change: 93 steps -/
theorem axk_249_0 : ax_chk ax_wC rx_P (rx_DF, rx_FK) ax_APC (rx_n rxm_249) axm_249 (([3, 7, 11], (3, [(0, 0, 4294967295), (0, 0, 4294967295), (2, 0, 0)], [], [], [(0, [80])])), [(4, 1), (4, 2), (4, 3), (4, 4), (7, 3), (7, 4), (8, 1), (8, 2), (9, 1), (9, 2), (9, 3), (10, 0), (10, 1), (10, 2), (10, 3), (10, 4), (21, 999), (22, 999), (23, 999), (24, 999), (25, 999), (26, 999), (27, 999), (28, 999), (29, 999), (36, 999), (37, 999), (38, 999), (40, 999), (41, 999), (42, 999), (43, 999)], [([15], (4, [(0, 2147483646, 2147483668), (0, 0, 4294967295), (0, 0, 4294967295), (2, 0, 0)], [], [], [(0, [80])]))]) [] [54] 3000 1 (([((54, 1, 3, ([3, 7, 11, 15], (7, [(0, 2147483649, 2147483658), (0, 2147483648, 2147483668), (2, 10, 0), (0, 2147483648, 2147483668), (0, 2147483648, 2147483668), (0, 2147483648, 2147483657), (2, 0, 0)], [(3, 52, 19), (3, 36, 206), (194, 16, 23), (3, 28, 194), (14, 0, 27), (3, 0, 14)], [], [(0, [80])]))), ())] : List ((Nat × Nat × Nat × ax_T) × ax_Tr 0)) : ax_Tr 1) = true := by decide +kernel
theorem axr_249 (hP : ∀ q ∈ rx_P, rx_QW q ∧ rx_ST rx_P (rx_DF, rx_FK) q) : ax_Row ax_wC ax_XC rx_P ax_APC rx_P (rx_DF, rx_FK) rxm_249 (axm_249, axc_249) := fun hr => ⟨ax_tabB_ok axt_249, fun hL => ax_con_cons (ax_chk_ok hP ax_XC_ok hr hL (ax_tabB_ok axt_249) ax_ro_nil axk_249_0) (ax_con_nil)⟩
theorem axt_250 : ax_tabB (rx_cd rxm_250) axm_250 = true := by decide +kernel
/-- TurnNet.drains: 72 steps -/
theorem axk_250_0 : ax_chk ax_wC rx_P (rx_DF, rx_FK) ax_APC (rx_n rxm_250) axm_250 (([3], (1, [(2, 0, 0)], [], [], [(0, [80])])), [(4, 1), (4, 2), (4, 3), (4, 4), (8, 1), (8, 2), (10, 0), (10, 1), (10, 2), (10, 3), (10, 4), (25, 999), (26, 999), (27, 999), (28, 999), (29, 999), (40, 999), (41, 999), (42, 999), (43, 999)], [([7], (2, [(0, 2147483647, 2147483848), (2, 0, 0)], [], [], [(0, [80])]))]) [] [] 3000 0 (() : ax_Tr 0) = true := by decide +kernel
theorem axr_250 (hP : ∀ q ∈ rx_P, rx_QW q ∧ rx_ST rx_P (rx_DF, rx_FK) q) : ax_Row ax_wC ax_XC rx_P ax_APC rx_P (rx_DF, rx_FK) rxm_250 (axm_250, axc_250) := fun hr => ⟨ax_tabB_ok axt_250, fun hL => ax_con_cons (ax_chk_ok hP ax_XC_ok hr hL (ax_tabB_ok axt_250) ax_ro_nil axk_250_0) (ax_con_nil)⟩
theorem axt_251 : ax_tabB (rx_cd rxm_251) axm_251 = true := by decide +kernel
/-- TurnNet.phase: 56 steps -/
theorem axk_251_0 : ax_chk ax_wC rx_P (rx_DF, rx_FK) ax_APC (rx_n rxm_251) axm_251 (([3, 7, 11], (3, [(0, 0, 4294967295), (0, 0, 4294967295), (2, 0, 0)], [], [], [(0, [80])])), [(7, 3), (7, 4), (21, 999), (22, 999), (23, 999), (24, 999), (36, 999), (37, 999), (38, 999)], [([15], (4, [(0, 2147483647, 2147483667), (0, 0, 4294967295), (0, 0, 4294967295), (2, 0, 0)], [], [], [(0, [80])]))]) [] [] 3000 0 (() : ax_Tr 0) = true := by decide +kernel
theorem axr_251 (hP : ∀ q ∈ rx_P, rx_QW q ∧ rx_ST rx_P (rx_DF, rx_FK) q) : ax_Row ax_wC ax_XC rx_P ax_APC rx_P (rx_DF, rx_FK) rxm_251 (axm_251, axc_251) := fun hr => ⟨ax_tabB_ok axt_251, fun hL => ax_con_cons (ax_chk_ok hP ax_XC_ok hr hL (ax_tabB_ok axt_251) ax_ro_nil axk_251_0) (ax_con_nil)⟩
theorem axt_252 : ax_tabB (rx_cd rxm_252) axm_252 = true := by decide +kernel
/-- TurnNet.plan: 47 steps -/
theorem axk_252_0 : ax_chk ax_wC rx_P (rx_DF, rx_FK) ax_APC (rx_n rxm_252) axm_252 (([3, 7, 11], (3, [(0, 0, 4294967295), (0, 0, 4294967295), (2, 0, 0)], [], [], [(0, [80])])), [(7, 3), (7, 4), (21, 999), (22, 999), (23, 999), (24, 999), (36, 999), (37, 999), (38, 999)], [([15], (4, [(0, 0, 4294967295), (0, 0, 4294967295), (0, 0, 4294967295), (2, 0, 0)], [], [], [(0, [80])]))]) [] [] 3000 0 (() : ax_Tr 0) = true := by decide +kernel
theorem axr_252 (hP : ∀ q ∈ rx_P, rx_QW q ∧ rx_ST rx_P (rx_DF, rx_FK) q) : ax_Row ax_wC ax_XC rx_P ax_APC rx_P (rx_DF, rx_FK) rxm_252 (axm_252, axc_252) := fun hr => ⟨ax_tabB_ok axt_252, fun hL => ax_con_cons (ax_chk_ok hP ax_XC_ok hr hL (ax_tabB_ok axt_252) ax_ro_nil axk_252_0) (ax_con_nil)⟩
theorem axt_253 : ax_tabB (rx_cd rxm_253) axm_253 = true := by decide +kernel
/-- TurnNet.rooted: 38 steps -/
theorem axk_253_0 : ax_chk ax_wC rx_P (rx_DF, rx_FK) ax_APC (rx_n rxm_253) axm_253 (([3, 7, 11], (3, [(0, 0, 4294967295), (0, 0, 4294967295), (2, 0, 0)], [], [], [(0, [80])])), [(4, 1), (4, 2), (4, 3), (4, 4), (21, 999), (22, 999), (23, 999), (24, 999), (25, 999), (26, 999), (27, 999), (28, 999), (29, 999)], [([15], (4, [(0, 0, 4294967295), (0, 0, 4294967295), (0, 0, 4294967295), (2, 0, 0)], [], [], [(0, [80])]))]) [] [] 3000 0 (() : ax_Tr 0) = true := by decide +kernel
theorem axr_253 (hP : ∀ q ∈ rx_P, rx_QW q ∧ rx_ST rx_P (rx_DF, rx_FK) q) : ax_Row ax_wC ax_XC rx_P ax_APC rx_P (rx_DF, rx_FK) rxm_253 (axm_253, axc_253) := fun hr => ⟨ax_tabB_ok axt_253, fun hL => ax_con_cons (ax_chk_ok hP ax_XC_ok hr hL (ax_tabB_ok axt_253) ax_ro_nil axk_253_0) (ax_con_nil)⟩
theorem axt_254 : ax_tabB (rx_cd rxm_254) axm_254 = true := by decide +kernel
/-- TurnNet.steps: 27 steps -/
theorem axk_254_0 : ax_chk ax_wC rx_P (rx_DF, rx_FK) ax_APC (rx_n rxm_254) axm_254 (([3, 7], (2, [(0, 0, 4294967295), (2, 0, 0)], [], [], [(0, [80])])), [(4, 1), (4, 2), (4, 3), (4, 4), (8, 1), (8, 2), (9, 1), (9, 2), (9, 3), (10, 0), (10, 1), (10, 2), (10, 3), (10, 4), (25, 999), (26, 999), (27, 999), (28, 999), (29, 999), (40, 999), (41, 999), (42, 999), (43, 999)], [([11], (3, [(0, 0, 4294967295), (0, 0, 4294967295), (2, 0, 0)], [], [], [(0, [80])]))]) [] [] 3000 0 (() : ax_Tr 0) = true := by decide +kernel
theorem axr_254 (hP : ∀ q ∈ rx_P, rx_QW q ∧ rx_ST rx_P (rx_DF, rx_FK) q) : ax_Row ax_wC ax_XC rx_P ax_APC rx_P (rx_DF, rx_FK) rxm_254 (axm_254, axc_254) := fun hr => ⟨ax_tabB_ok axt_254, fun hL => ax_con_cons (ax_chk_ok hP ax_XC_ok hr hL (ax_tabB_ok axt_254) ax_ro_nil axk_254_0) (ax_con_nil)⟩
theorem axt_255 : ax_tabB (rx_cd rxm_255) axm_255 = true := by decide +kernel
/-- TurnNet.stuck: 102 steps -/
theorem axk_255_0 : ax_chk ax_wC rx_P (rx_DF, rx_FK) ax_APC (rx_n rxm_255) axm_255 (([3], (1, [(2, 0, 0)], [], [], [(0, [80])])), [(4, 1), (4, 2), (4, 3), (4, 4), (8, 1), (8, 2), (10, 0), (10, 1), (10, 2), (10, 3), (10, 4), (25, 999), (26, 999), (27, 999), (28, 999), (29, 999), (40, 999), (41, 999), (42, 999), (43, 999)], [([7], (2, [(0, 0, 4294967295), (2, 0, 0)], [], [], [(0, [80])]))]) [] [20] 3000 1 (([((20, 1, 2, ([3, 7, 11], (8, [(2, 10, 0), (2, 40, 0), (2, 41, 0), (2, 42, 0), (2, 43, 0), (0, 2147483648, 2147483660), (0, 0, 4294967295), (2, 0, 0)], [(614, 32, 15), (614, 28, 19), (614, 24, 23), (614, 20, 27), (3, 52, 31), (3, 40, 614)], [], [(0, [80])]))), ())] : List ((Nat × Nat × Nat × ax_T) × ax_Tr 0)) : ax_Tr 1) = true := by decide +kernel
theorem axr_255 (hP : ∀ q ∈ rx_P, rx_QW q ∧ rx_ST rx_P (rx_DF, rx_FK) q) : ax_Row ax_wC ax_XC rx_P ax_APC rx_P (rx_DF, rx_FK) rxm_255 (axm_255, axc_255) := fun hr => ⟨ax_tabB_ok axt_255, fun hL => ax_con_cons (ax_chk_ok hP ax_XC_ok hr hL (ax_tabB_ok axt_255) ax_ro_nil axk_255_0) (ax_con_nil)⟩
theorem axt_256 : ax_tabB (rx_cd rxm_256) axm_256 = true := by decide +kernel
theorem axr_256 (hP : ∀ q ∈ rx_P, rx_QW q ∧ rx_ST rx_P (rx_DF, rx_FK) q) : ax_Row ax_wC ax_XC rx_P ax_APC rx_P (rx_DF, rx_FK) rxm_256 (axm_256, axc_256) := fun hr => ⟨ax_tabB_ok axt_256, fun hL => ax_con_nil⟩
theorem axt_257 : ax_tabB (rx_cd rxm_257) axm_257 = true := by decide +kernel
theorem axr_257 (hP : ∀ q ∈ rx_P, rx_QW q ∧ rx_ST rx_P (rx_DF, rx_FK) q) : ax_Row ax_wC ax_XC rx_P ax_APC rx_P (rx_DF, rx_FK) rxm_257 (axm_257, axc_257) := fun hr => ⟨ax_tabB_ok axt_257, fun hL => ax_con_nil⟩
theorem axt_258 : ax_tabB (rx_cd rxm_258) axm_258 = true := by decide +kernel
theorem axr_258 (hP : ∀ q ∈ rx_P, rx_QW q ∧ rx_ST rx_P (rx_DF, rx_FK) q) : ax_Row ax_wC ax_XC rx_P ax_APC rx_P (rx_DF, rx_FK) rxm_258 (axm_258, axc_258) := fun hr => ⟨ax_tabB_ok axt_258, fun hL => ax_con_nil⟩
theorem axt_259 : ax_tabB (rx_cd rxm_259) axm_259 = true := by decide +kernel
theorem axr_259 (hP : ∀ q ∈ rx_P, rx_QW q ∧ rx_ST rx_P (rx_DF, rx_FK) q) : ax_Row ax_wC ax_XC rx_P ax_APC rx_P (rx_DF, rx_FK) rxm_259 (axm_259, axc_259) := fun hr => ⟨ax_tabB_ok axt_259, fun hL => ax_con_nil⟩
theorem axt_260 : ax_tabB (rx_cd rxm_260) axm_260 = true := by decide +kernel
theorem axr_260 (hP : ∀ q ∈ rx_P, rx_QW q ∧ rx_ST rx_P (rx_DF, rx_FK) q) : ax_Row ax_wC ax_XC rx_P ax_APC rx_P (rx_DF, rx_FK) rxm_260 (axm_260, axc_260) := fun hr => ⟨ax_tabB_ok axt_260, fun hL => ax_con_nil⟩
theorem axt_261 : ax_tabB (rx_cd rxm_261) axm_261 = true := by decide +kernel
theorem axr_261 (hP : ∀ q ∈ rx_P, rx_QW q ∧ rx_ST rx_P (rx_DF, rx_FK) q) : ax_Row ax_wC ax_XC rx_P ax_APC rx_P (rx_DF, rx_FK) rxm_261 (axm_261, axc_261) := fun hr => ⟨ax_tabB_ok axt_261, fun hL => ax_con_nil⟩
theorem axt_262 : ax_tabB (rx_cd rxm_262) axm_262 = true := by decide +kernel
theorem axr_262 (hP : ∀ q ∈ rx_P, rx_QW q ∧ rx_ST rx_P (rx_DF, rx_FK) q) : ax_Row ax_wC ax_XC rx_P ax_APC rx_P (rx_DF, rx_FK) rxm_262 (axm_262, axc_262) := fun hr => ⟨ax_tabB_ok axt_262, fun hL => ax_con_nil⟩
theorem axt_263 : ax_tabB (rx_cd rxm_263) axm_263 = true := by decide +kernel
theorem axr_263 (hP : ∀ q ∈ rx_P, rx_QW q ∧ rx_ST rx_P (rx_DF, rx_FK) q) : ax_Row ax_wC ax_XC rx_P ax_APC rx_P (rx_DF, rx_FK) rxm_263 (axm_263, axc_263) := fun hr => ⟨ax_tabB_ok axt_263, fun hL => ax_con_nil⟩
theorem axt_264 : ax_tabB (rx_cd rxm_264) axm_264 = true := by decide +kernel
theorem axr_264 (hP : ∀ q ∈ rx_P, rx_QW q ∧ rx_ST rx_P (rx_DF, rx_FK) q) : ax_Row ax_wC ax_XC rx_P ax_APC rx_P (rx_DF, rx_FK) rxm_264 (axm_264, axc_264) := fun hr => ⟨ax_tabB_ok axt_264, fun hL => ax_con_nil⟩
theorem axt_265 : ax_tabB (rx_cd rxm_265) axm_265 = true := by decide +kernel
theorem axr_265 (hP : ∀ q ∈ rx_P, rx_QW q ∧ rx_ST rx_P (rx_DF, rx_FK) q) : ax_Row ax_wC ax_XC rx_P ax_APC rx_P (rx_DF, rx_FK) rxm_265 (axm_265, axc_265) := fun hr => ⟨ax_tabB_ok axt_265, fun hL => ax_con_nil⟩
theorem axt_266 : ax_tabB (rx_cd rxm_266) axm_266 = true := by decide +kernel
theorem axr_266 (hP : ∀ q ∈ rx_P, rx_QW q ∧ rx_ST rx_P (rx_DF, rx_FK) q) : ax_Row ax_wC ax_XC rx_P ax_APC rx_P (rx_DF, rx_FK) rxm_266 (axm_266, axc_266) := fun hr => ⟨ax_tabB_ok axt_266, fun hL => ax_con_nil⟩
theorem axt_267 : ax_tabB (rx_cd rxm_267) axm_267 = true := by decide +kernel
theorem axr_267 (hP : ∀ q ∈ rx_P, rx_QW q ∧ rx_ST rx_P (rx_DF, rx_FK) q) : ax_Row ax_wC ax_XC rx_P ax_APC rx_P (rx_DF, rx_FK) rxm_267 (axm_267, axc_267) := fun hr => ⟨ax_tabB_ok axt_267, fun hL => ax_con_nil⟩
theorem axt_268 : ax_tabB (rx_cd rxm_268) axm_268 = true := by decide +kernel
theorem axr_268 (hP : ∀ q ∈ rx_P, rx_QW q ∧ rx_ST rx_P (rx_DF, rx_FK) q) : ax_Row ax_wC ax_XC rx_P ax_APC rx_P (rx_DF, rx_FK) rxm_268 (axm_268, axc_268) := fun hr => ⟨ax_tabB_ok axt_268, fun hL => ax_con_nil⟩
theorem axt_269 : ax_tabB (rx_cd rxm_269) axm_269 = true := by decide +kernel
theorem axr_269 (hP : ∀ q ∈ rx_P, rx_QW q ∧ rx_ST rx_P (rx_DF, rx_FK) q) : ax_Row ax_wC ax_XC rx_P ax_APC rx_P (rx_DF, rx_FK) rxm_269 (axm_269, axc_269) := fun hr => ⟨ax_tabB_ok axt_269, fun hL => ax_con_nil⟩
theorem axt_270 : ax_tabB (rx_cd rxm_270) axm_270 = true := by decide +kernel
theorem axr_270 (hP : ∀ q ∈ rx_P, rx_QW q ∧ rx_ST rx_P (rx_DF, rx_FK) q) : ax_Row ax_wC ax_XC rx_P ax_APC rx_P (rx_DF, rx_FK) rxm_270 (axm_270, axc_270) := fun hr => ⟨ax_tabB_ok axt_270, fun hL => ax_con_nil⟩
theorem axt_271 : ax_tabB (rx_cd rxm_271) axm_271 = true := by decide +kernel
theorem axr_271 (hP : ∀ q ∈ rx_P, rx_QW q ∧ rx_ST rx_P (rx_DF, rx_FK) q) : ax_Row ax_wC ax_XC rx_P ax_APC rx_P (rx_DF, rx_FK) rxm_271 (axm_271, axc_271) := fun hr => ⟨ax_tabB_ok axt_271, fun hL => ax_con_nil⟩
theorem axt_272 : ax_tabB (rx_cd rxm_272) axm_272 = true := by decide +kernel
theorem axr_272 (hP : ∀ q ∈ rx_P, rx_QW q ∧ rx_ST rx_P (rx_DF, rx_FK) q) : ax_Row ax_wC ax_XC rx_P ax_APC rx_P (rx_DF, rx_FK) rxm_272 (axm_272, axc_272) := fun hr => ⟨ax_tabB_ok axt_272, fun hL => ax_con_nil⟩
theorem axt_273 : ax_tabB (rx_cd rxm_273) axm_273 = true := by decide +kernel
theorem axr_273 (hP : ∀ q ∈ rx_P, rx_QW q ∧ rx_ST rx_P (rx_DF, rx_FK) q) : ax_Row ax_wC ax_XC rx_P ax_APC rx_P (rx_DF, rx_FK) rxm_273 (axm_273, axc_273) := fun hr => ⟨ax_tabB_ok axt_273, fun hL => ax_con_nil⟩
theorem axt_274 : ax_tabB (rx_cd rxm_274) axm_274 = true := by decide +kernel
theorem axr_274 (hP : ∀ q ∈ rx_P, rx_QW q ∧ rx_ST rx_P (rx_DF, rx_FK) q) : ax_Row ax_wC ax_XC rx_P ax_APC rx_P (rx_DF, rx_FK) rxm_274 (axm_274, axc_274) := fun hr => ⟨ax_tabB_ok axt_274, fun hL => ax_con_nil⟩
theorem axt_275 : ax_tabB (rx_cd rxm_275) axm_275 = true := by decide +kernel
theorem axs_275_7 : ∀ x ∈ ([axu_iw1a_7, axu_iw1b_7, axu_iw2a_7, axu_iw2b_7, axu_iw3_7, axu_iw4_7, axu_iw5_7, axu_iw6_7] : List ax_RL), ax_RO ax_wC ax_XC x := ax_ro_cons axq_iw1a_7 (ax_ro_cons axq_iw1b_7 (ax_ro_cons axq_iw2a_7 (ax_ro_cons axq_iw2b_7 (ax_ro_cons axq_iw3_7 (ax_ro_cons axq_iw4_7 (ax_ro_cons axq_iw5_7 (ax_ro_cons axq_iw6_7 (ax_ro_nil))))))))
/-- TurnNet$Reader.isWord: 43 steps -/
theorem axk_275_7 : ax_chk ax_wC rx_P (rx_DF, rx_FK) ax_APC (rx_n rxm_275) axm_275 (([42, 4030], (2, [(1, 0, 0), (1, 0, 0)], [], [], [(30, [3]), (50, [3, 7])])), [], [([0], (2, [(1, 0, 0), (1, 0, 0)], [], [], [(61, [3, 7, 4030])])), ([4], (2, [(1, 0, 0), (1, 0, 0)], [], [], [(60, [3, 7, 4030])]))]) [axu_iw1a_7, axu_iw1b_7, axu_iw2a_7, axu_iw2b_7, axu_iw3_7, axu_iw4_7, axu_iw5_7, axu_iw6_7] [28] 3000 1 (([((28, 1, 2, ([42, 4030, 11], (6, [(0, 2147483649, 2147483649), (0, 2147483653, 2147484448), (0, 2147483648, 2147484443), (0, 2147483648, 2147483653), (1, 0, 0), (1, 0, 0)], [(42, 24, 15), (42, 20, 19), (42, 28, 23)], [], [(62, [3, 7, 4030, 11]), (30, [3]), (50, [3, 7])]))), ())] : List ((Nat × Nat × Nat × ax_T) × ax_Tr 0)) : ax_Tr 1) = true := by decide +kernel
theorem axs_275_6 : ∀ x ∈ ([axu_iw1a_6, axu_iw1b_6, axu_iw2a_6, axu_iw2b_6, axu_iw3_6, axu_iw4_6, axu_iw5_6, axu_iw6_6] : List ax_RL), ax_RO ax_wC ax_XC x := ax_ro_cons axq_iw1a_6 (ax_ro_cons axq_iw1b_6 (ax_ro_cons axq_iw2a_6 (ax_ro_cons axq_iw2b_6 (ax_ro_cons axq_iw3_6 (ax_ro_cons axq_iw4_6 (ax_ro_cons axq_iw5_6 (ax_ro_cons axq_iw6_6 (ax_ro_nil))))))))
/-- TurnNet$Reader.isWord: 43 steps -/
theorem axk_275_6 : ax_chk ax_wC rx_P (rx_DF, rx_FK) ax_APC (rx_n rxm_275) axm_275 (([42, 4026], (2, [(1, 0, 0), (1, 0, 0)], [], [], [(30, [3]), (50, [3, 7])])), [], [([0], (2, [(1, 0, 0), (1, 0, 0)], [], [], [(61, [3, 7, 4026])])), ([4], (2, [(1, 0, 0), (1, 0, 0)], [], [], [(60, [3, 7, 4026])]))]) [axu_iw1a_6, axu_iw1b_6, axu_iw2a_6, axu_iw2b_6, axu_iw3_6, axu_iw4_6, axu_iw5_6, axu_iw6_6] [28] 3000 1 (([((28, 1, 2, ([42, 4026, 11], (6, [(0, 2147483649, 2147483649), (0, 2147483654, 2147484448), (0, 2147483648, 2147484442), (0, 2147483648, 2147483654), (1, 0, 0), (1, 0, 0)], [(42, 24, 15), (42, 20, 19), (42, 28, 23)], [], [(62, [3, 7, 4026, 11]), (30, [3]), (50, [3, 7])]))), ())] : List ((Nat × Nat × Nat × ax_T) × ax_Tr 0)) : ax_Tr 1) = true := by decide +kernel
theorem axs_275_5 : ∀ x ∈ ([axu_iw1a_5, axu_iw1b_5, axu_iw2a_5, axu_iw2b_5, axu_iw3_5, axu_iw4_5, axu_iw5_5, axu_iw6_5] : List ax_RL), ax_RO ax_wC ax_XC x := ax_ro_cons axq_iw1a_5 (ax_ro_cons axq_iw1b_5 (ax_ro_cons axq_iw2a_5 (ax_ro_cons axq_iw2b_5 (ax_ro_cons axq_iw3_5 (ax_ro_cons axq_iw4_5 (ax_ro_cons axq_iw5_5 (ax_ro_cons axq_iw6_5 (ax_ro_nil))))))))
/-- TurnNet$Reader.isWord: 43 steps -/
theorem axk_275_5 : ax_chk ax_wC rx_P (rx_DF, rx_FK) ax_APC (rx_n rxm_275) axm_275 (([42, 4022], (2, [(1, 0, 0), (1, 0, 0)], [], [], [(30, [3]), (50, [3, 7])])), [], [([0], (2, [(1, 0, 0), (1, 0, 0)], [], [], [(61, [3, 7, 4022])])), ([4], (2, [(1, 0, 0), (1, 0, 0)], [], [], [(60, [3, 7, 4022])]))]) [axu_iw1a_5, axu_iw1b_5, axu_iw2a_5, axu_iw2b_5, axu_iw3_5, axu_iw4_5, axu_iw5_5, axu_iw6_5] [28] 3000 1 (([((28, 1, 2, ([42, 4022, 11], (6, [(0, 2147483649, 2147483649), (0, 2147483651, 2147484448), (0, 2147483648, 2147484445), (0, 2147483648, 2147483651), (1, 0, 0), (1, 0, 0)], [(42, 24, 15), (42, 20, 19), (42, 28, 23)], [], [(62, [3, 7, 4022, 11]), (30, [3]), (50, [3, 7])]))), ())] : List ((Nat × Nat × Nat × ax_T) × ax_Tr 0)) : ax_Tr 1) = true := by decide +kernel
theorem axs_275_4 : ∀ x ∈ ([axu_iw1a_4, axu_iw1b_4, axu_iw2a_4, axu_iw2b_4, axu_iw3_4, axu_iw4_4, axu_iw5_4, axu_iw6_4] : List ax_RL), ax_RO ax_wC ax_XC x := ax_ro_cons axq_iw1a_4 (ax_ro_cons axq_iw1b_4 (ax_ro_cons axq_iw2a_4 (ax_ro_cons axq_iw2b_4 (ax_ro_cons axq_iw3_4 (ax_ro_cons axq_iw4_4 (ax_ro_cons axq_iw5_4 (ax_ro_cons axq_iw6_4 (ax_ro_nil))))))))
/-- TurnNet$Reader.isWord: 43 steps -/
theorem axk_275_4 : ax_chk ax_wC rx_P (rx_DF, rx_FK) ax_APC (rx_n rxm_275) axm_275 (([42, 4018], (2, [(1, 0, 0), (1, 0, 0)], [], [], [(30, [3]), (50, [3, 7])])), [], [([0], (2, [(1, 0, 0), (1, 0, 0)], [], [], [(61, [3, 7, 4018])])), ([4], (2, [(1, 0, 0), (1, 0, 0)], [], [], [(60, [3, 7, 4018])]))]) [axu_iw1a_4, axu_iw1b_4, axu_iw2a_4, axu_iw2b_4, axu_iw3_4, axu_iw4_4, axu_iw5_4, axu_iw6_4] [28] 3000 1 (([((28, 1, 2, ([42, 4018, 11], (6, [(0, 2147483649, 2147483649), (0, 2147483652, 2147484448), (0, 2147483648, 2147484444), (0, 2147483648, 2147483652), (1, 0, 0), (1, 0, 0)], [(42, 24, 15), (42, 20, 19), (42, 28, 23)], [], [(62, [3, 7, 4018, 11]), (30, [3]), (50, [3, 7])]))), ())] : List ((Nat × Nat × Nat × ax_T) × ax_Tr 0)) : ax_Tr 1) = true := by decide +kernel
theorem axs_275_3 : ∀ x ∈ ([axu_iw1a_3, axu_iw1b_3, axu_iw2a_3, axu_iw2b_3, axu_iw3_3, axu_iw4_3, axu_iw5_3, axu_iw6_3] : List ax_RL), ax_RO ax_wC ax_XC x := ax_ro_cons axq_iw1a_3 (ax_ro_cons axq_iw1b_3 (ax_ro_cons axq_iw2a_3 (ax_ro_cons axq_iw2b_3 (ax_ro_cons axq_iw3_3 (ax_ro_cons axq_iw4_3 (ax_ro_cons axq_iw5_3 (ax_ro_cons axq_iw6_3 (ax_ro_nil))))))))
/-- TurnNet$Reader.isWord: 43 steps -/
theorem axk_275_3 : ax_chk ax_wC rx_P (rx_DF, rx_FK) ax_APC (rx_n rxm_275) axm_275 (([42, 4014], (2, [(1, 0, 0), (1, 0, 0)], [], [], [(30, [3]), (50, [3, 7])])), [], [([0], (2, [(1, 0, 0), (1, 0, 0)], [], [], [(61, [3, 7, 4014])])), ([4], (2, [(1, 0, 0), (1, 0, 0)], [], [], [(60, [3, 7, 4014])]))]) [axu_iw1a_3, axu_iw1b_3, axu_iw2a_3, axu_iw2b_3, axu_iw3_3, axu_iw4_3, axu_iw5_3, axu_iw6_3] [28] 3000 1 (([((28, 1, 2, ([42, 4014, 11], (6, [(0, 2147483649, 2147483649), (0, 2147483652, 2147484448), (0, 2147483648, 2147484444), (0, 2147483648, 2147483652), (1, 0, 0), (1, 0, 0)], [(42, 24, 15), (42, 20, 19), (42, 28, 23)], [], [(62, [3, 7, 4014, 11]), (30, [3]), (50, [3, 7])]))), ())] : List ((Nat × Nat × Nat × ax_T) × ax_Tr 0)) : ax_Tr 1) = true := by decide +kernel
theorem axs_275_2 : ∀ x ∈ ([axu_iw1a_2, axu_iw1b_2, axu_iw2a_2, axu_iw2b_2, axu_iw3_2, axu_iw4_2, axu_iw5_2, axu_iw6_2] : List ax_RL), ax_RO ax_wC ax_XC x := ax_ro_cons axq_iw1a_2 (ax_ro_cons axq_iw1b_2 (ax_ro_cons axq_iw2a_2 (ax_ro_cons axq_iw2b_2 (ax_ro_cons axq_iw3_2 (ax_ro_cons axq_iw4_2 (ax_ro_cons axq_iw5_2 (ax_ro_cons axq_iw6_2 (ax_ro_nil))))))))
/-- TurnNet$Reader.isWord: 43 steps -/
theorem axk_275_2 : ax_chk ax_wC rx_P (rx_DF, rx_FK) ax_APC (rx_n rxm_275) axm_275 (([42, 4010], (2, [(1, 0, 0), (1, 0, 0)], [], [], [(30, [3]), (50, [3, 7])])), [], [([0], (2, [(1, 0, 0), (1, 0, 0)], [], [], [(61, [3, 7, 4010])])), ([4], (2, [(1, 0, 0), (1, 0, 0)], [], [], [(60, [3, 7, 4010])]))]) [axu_iw1a_2, axu_iw1b_2, axu_iw2a_2, axu_iw2b_2, axu_iw3_2, axu_iw4_2, axu_iw5_2, axu_iw6_2] [28] 3000 1 (([((28, 1, 2, ([42, 4010, 11], (6, [(0, 2147483649, 2147483649), (0, 2147483652, 2147484448), (0, 2147483648, 2147484444), (0, 2147483648, 2147483652), (1, 0, 0), (1, 0, 0)], [(42, 24, 15), (42, 20, 19), (42, 28, 23)], [], [(62, [3, 7, 4010, 11]), (30, [3]), (50, [3, 7])]))), ())] : List ((Nat × Nat × Nat × ax_T) × ax_Tr 0)) : ax_Tr 1) = true := by decide +kernel
theorem axs_275_1 : ∀ x ∈ ([axu_iw1a_1, axu_iw1b_1, axu_iw2a_1, axu_iw2b_1, axu_iw3_1, axu_iw4_1, axu_iw5_1, axu_iw6_1] : List ax_RL), ax_RO ax_wC ax_XC x := ax_ro_cons axq_iw1a_1 (ax_ro_cons axq_iw1b_1 (ax_ro_cons axq_iw2a_1 (ax_ro_cons axq_iw2b_1 (ax_ro_cons axq_iw3_1 (ax_ro_cons axq_iw4_1 (ax_ro_cons axq_iw5_1 (ax_ro_cons axq_iw6_1 (ax_ro_nil))))))))
/-- TurnNet$Reader.isWord: 43 steps -/
theorem axk_275_1 : ax_chk ax_wC rx_P (rx_DF, rx_FK) ax_APC (rx_n rxm_275) axm_275 (([42, 4006], (2, [(1, 0, 0), (1, 0, 0)], [], [], [(30, [3]), (50, [3, 7])])), [], [([0], (2, [(1, 0, 0), (1, 0, 0)], [], [], [(61, [3, 7, 4006])])), ([4], (2, [(1, 0, 0), (1, 0, 0)], [], [], [(60, [3, 7, 4006])]))]) [axu_iw1a_1, axu_iw1b_1, axu_iw2a_1, axu_iw2b_1, axu_iw3_1, axu_iw4_1, axu_iw5_1, axu_iw6_1] [28] 3000 1 (([((28, 1, 2, ([42, 4006, 11], (6, [(0, 2147483649, 2147483649), (0, 2147483652, 2147484448), (0, 2147483648, 2147484444), (0, 2147483648, 2147483652), (1, 0, 0), (1, 0, 0)], [(42, 24, 15), (42, 20, 19), (42, 28, 23)], [], [(62, [3, 7, 4006, 11]), (30, [3]), (50, [3, 7])]))), ())] : List ((Nat × Nat × Nat × ax_T) × ax_Tr 0)) : ax_Tr 1) = true := by decide +kernel
theorem axs_275_0 : ∀ x ∈ ([axu_iw1a_0, axu_iw1b_0, axu_iw2a_0, axu_iw2b_0, axu_iw3_0, axu_iw4_0, axu_iw5_0, axu_iw6_0] : List ax_RL), ax_RO ax_wC ax_XC x := ax_ro_cons axq_iw1a_0 (ax_ro_cons axq_iw1b_0 (ax_ro_cons axq_iw2a_0 (ax_ro_cons axq_iw2b_0 (ax_ro_cons axq_iw3_0 (ax_ro_cons axq_iw4_0 (ax_ro_cons axq_iw5_0 (ax_ro_cons axq_iw6_0 (ax_ro_nil))))))))
/-- TurnNet$Reader.isWord: 43 steps -/
theorem axk_275_0 : ax_chk ax_wC rx_P (rx_DF, rx_FK) ax_APC (rx_n rxm_275) axm_275 (([42, 4002], (2, [(1, 0, 0), (1, 0, 0)], [], [], [(30, [3]), (50, [3, 7])])), [], [([0], (2, [(1, 0, 0), (1, 0, 0)], [], [], [(61, [3, 7, 4002])])), ([4], (2, [(1, 0, 0), (1, 0, 0)], [], [], [(60, [3, 7, 4002])]))]) [axu_iw1a_0, axu_iw1b_0, axu_iw2a_0, axu_iw2b_0, axu_iw3_0, axu_iw4_0, axu_iw5_0, axu_iw6_0] [28] 3000 1 (([((28, 1, 2, ([42, 4002, 11], (6, [(0, 2147483649, 2147483649), (0, 2147483656, 2147484448), (0, 2147483648, 2147484440), (0, 2147483648, 2147483656), (1, 0, 0), (1, 0, 0)], [(42, 24, 15), (42, 20, 19), (42, 28, 23)], [], [(62, [3, 7, 4002, 11]), (30, [3]), (50, [3, 7])]))), ())] : List ((Nat × Nat × Nat × ax_T) × ax_Tr 0)) : ax_Tr 1) = true := by decide +kernel
theorem axr_275 (hP : ∀ q ∈ rx_P, rx_QW q ∧ rx_ST rx_P (rx_DF, rx_FK) q) : ax_Row ax_wC ax_XC rx_P ax_APC rx_P (rx_DF, rx_FK) rxm_275 (axm_275, axc_275) := fun hr => ⟨ax_tabB_ok axt_275, fun hL => ax_con_cons (ax_chk_ok hP ax_XC_ok hr hL (ax_tabB_ok axt_275) axs_275_0 axk_275_0) (ax_con_cons (ax_chk_ok hP ax_XC_ok hr hL (ax_tabB_ok axt_275) axs_275_1 axk_275_1) (ax_con_cons (ax_chk_ok hP ax_XC_ok hr hL (ax_tabB_ok axt_275) axs_275_2 axk_275_2) (ax_con_cons (ax_chk_ok hP ax_XC_ok hr hL (ax_tabB_ok axt_275) axs_275_3 axk_275_3) (ax_con_cons (ax_chk_ok hP ax_XC_ok hr hL (ax_tabB_ok axt_275) axs_275_4 axk_275_4) (ax_con_cons (ax_chk_ok hP ax_XC_ok hr hL (ax_tabB_ok axt_275) axs_275_5 axk_275_5) (ax_con_cons (ax_chk_ok hP ax_XC_ok hr hL (ax_tabB_ok axt_275) axs_275_6 axk_275_6) (ax_con_cons (ax_chk_ok hP ax_XC_ok hr hL (ax_tabB_ok axt_275) axs_275_7 axk_275_7) (ax_con_nil))))))))⟩
theorem axt_276 : ax_tabB (rx_cd rxm_276) axm_276 = true := by decide +kernel
theorem axr_276 (hP : ∀ q ∈ rx_P, rx_QW q ∧ rx_ST rx_P (rx_DF, rx_FK) q) : ax_Row ax_wC ax_XC rx_P ax_APC rx_P (rx_DF, rx_FK) rxm_276 (axm_276, axc_276) := fun hr => ⟨ax_tabB_ok axt_276, fun hL => ax_con_nil⟩
theorem axt_277 : ax_tabB (rx_cd rxm_277) axm_277 = true := by decide +kernel
theorem axr_277 (hP : ∀ q ∈ rx_P, rx_QW q ∧ rx_ST rx_P (rx_DF, rx_FK) q) : ax_Row ax_wC ax_XC rx_P ax_APC rx_P (rx_DF, rx_FK) rxm_277 (axm_277, axc_277) := fun hr => ⟨ax_tabB_ok axt_277, fun hL => ax_con_nil⟩
theorem axt_278 : ax_tabB (rx_cd rxm_278) axm_278 = true := by decide +kernel
theorem axr_278 (hP : ∀ q ∈ rx_P, rx_QW q ∧ rx_ST rx_P (rx_DF, rx_FK) q) : ax_Row ax_wC ax_XC rx_P ax_APC rx_P (rx_DF, rx_FK) rxm_278 (axm_278, axc_278) := fun hr => ⟨ax_tabB_ok axt_278, fun hL => ax_con_nil⟩
theorem axt_279 : ax_tabB (rx_cd rxm_279) axm_279 = true := by decide +kernel
theorem axr_279 (hP : ∀ q ∈ rx_P, rx_QW q ∧ rx_ST rx_P (rx_DF, rx_FK) q) : ax_Row ax_wC ax_XC rx_P ax_APC rx_P (rx_DF, rx_FK) rxm_279 (axm_279, axc_279) := fun hr => ⟨ax_tabB_ok axt_279, fun hL => ax_con_nil⟩
theorem axt_280 : ax_tabB (rx_cd rxm_280) axm_280 = true := by decide +kernel
theorem axr_280 (hP : ∀ q ∈ rx_P, rx_QW q ∧ rx_ST rx_P (rx_DF, rx_FK) q) : ax_Row ax_wC ax_XC rx_P ax_APC rx_P (rx_DF, rx_FK) rxm_280 (axm_280, axc_280) := fun hr => ⟨ax_tabB_ok axt_280, fun hL => ax_con_nil⟩
theorem axt_281 : ax_tabB (rx_cd rxm_281) axm_281 = true := by decide +kernel
theorem axr_281 (hP : ∀ q ∈ rx_P, rx_QW q ∧ rx_ST rx_P (rx_DF, rx_FK) q) : ax_Row ax_wC ax_XC rx_P ax_APC rx_P (rx_DF, rx_FK) rxm_281 (axm_281, axc_281) := fun hr => ⟨ax_tabB_ok axt_281, fun hL => ax_con_nil⟩
theorem axt_282 : ax_tabB (rx_cd rxm_282) axm_282 = true := by decide +kernel
theorem axs_282_0 : ∀ x ∈ ([axu_sw1, axu_sw2, axu_sw3, axu_sw4, axu_s0_sw2, axu_s0_sw3] : List ax_RL), ax_RO ax_wC ax_XC x := ax_ro_cons axq_sw1 (ax_ro_cons axq_sw2 (ax_ro_cons axq_sw3 (ax_ro_cons axq_sw4 (ax_ro_cons axq_s0_sw2 (ax_ro_cons axq_s0_sw3 (ax_ro_nil))))))
/-- TurnNet$Reader.readSwitches: 26 steps -/
theorem axk_282_0 : ax_chk ax_wC rx_P (rx_DF, rx_FK) ax_APC (rx_n rxm_282) axm_282 (([42], (3, [(1, 0, 0), (1, 0, 0), (1, 0, 0)], [], [], [(30, [3]), (50, [3, 7]), (70, [3, 7]), (111, [3, 7]), (46, [3, 7, 5, 11])])), [(1, 0), (2, 3), (2, 4), (2, 5), (2, 6), (2, 7), (2, 8)], [([0], (3, [(1, 0, 0), (1, 0, 0), (1, 0, 0)], [], [], [(63, [3])])), ([4], (4, [(1, 0, 0), (1, 0, 0), (1, 0, 0), (1, 0, 0)], [], [], [(50, [3, 15]), (73, [3, 15]), (1030, [7, 15]), (46, [3, 15, 5, 11])]))]) [axu_sw1, axu_sw2, axu_sw3, axu_sw4, axu_s0_sw2, axu_s0_sw3] [] 3000 0 (() : ax_Tr 0) = true := by decide +kernel
theorem axr_282 (hP : ∀ q ∈ rx_P, rx_QW q ∧ rx_ST rx_P (rx_DF, rx_FK) q) : ax_Row ax_wC ax_XC rx_P ax_APC rx_P (rx_DF, rx_FK) rxm_282 (axm_282, axc_282) := fun hr => ⟨ax_tabB_ok axt_282, fun hL => ax_con_cons (ax_chk_ok hP ax_XC_ok hr hL (ax_tabB_ok axt_282) axs_282_0 axk_282_0) (ax_con_nil)⟩
theorem axt_283 : ax_tabB (rx_cd rxm_283) axm_283 = true := by decide +kernel
theorem axs_283_0 : ∀ x ∈ ([axu_uk_1, axu_uk_40, axu_uk_5, axu_uk_2, axu_uk_3, axu_uk_4, axu_uk0a, axu_uk0b, axu_uk0c, axu_uk0d] : List ax_RL), ax_RO ax_wC ax_XC x := ax_ro_cons axq_uk_1 (ax_ro_cons axq_uk_40 (ax_ro_cons axq_uk_5 (ax_ro_cons axq_uk_2 (ax_ro_cons axq_uk_3 (ax_ro_cons axq_uk_4 (ax_ro_cons axq_uk0a (ax_ro_cons axq_uk0b (ax_ro_cons axq_uk0c (ax_ro_cons axq_uk0d (ax_ro_nil))))))))))
/-- TurnNet$Reader.unitKind: 126 steps -/
theorem axk_283_0 : ax_chk ax_wC rx_P (rx_DF, rx_FK) ax_APC (rx_n rxm_283) axm_283 (([42], (2, [(1, 0, 0), (1, 0, 0)], [], [], [(30, [3]), (50, [3, 7])])), [], [([0], (2, [(1, 0, 0), (1, 0, 0)], [], [], [(106, [3, 7, 0])])), ([4], (2, [(1, 0, 0), (1, 0, 0)], [], [], [(106, [3, 7, 4])])), ([8], (2, [(1, 0, 0), (1, 0, 0)], [], [], [(106, [3, 7, 8])])), ([12], (2, [(1, 0, 0), (1, 0, 0)], [], [], [(106, [3, 7, 12])])), ([16], (2, [(1, 0, 0), (1, 0, 0)], [], [], [(106, [3, 7, 16])])), ([20], (2, [(1, 0, 0), (1, 0, 0)], [], [], [(106, [3, 7, 20])])), ([160], (2, [(1, 0, 0), (1, 0, 0)], [], [], [(106, [3, 7, 160])]))]) [axu_uk_1, axu_uk_40, axu_uk_5, axu_uk_2, axu_uk_3, axu_uk_4, axu_uk0a, axu_uk0b, axu_uk0c, axu_uk0d] [] 3000 0 (() : ax_Tr 0) = true := by decide +kernel
theorem axr_283 (hP : ∀ q ∈ rx_P, rx_QW q ∧ rx_ST rx_P (rx_DF, rx_FK) q) : ax_Row ax_wC ax_XC rx_P ax_APC rx_P (rx_DF, rx_FK) rxm_283 (axm_283, axc_283) := fun hr => ⟨ax_tabB_ok axt_283, fun hL => ax_con_cons (ax_chk_ok hP ax_XC_ok hr hL (ax_tabB_ok axt_283) axs_283_0 axk_283_0) (ax_con_nil)⟩
theorem axt_284 : ax_tabB (rx_cd rxm_284) axm_284 = true := by decide +kernel
theorem axr_284 (hP : ∀ q ∈ rx_P, rx_QW q ∧ rx_ST rx_P (rx_DF, rx_FK) q) : ax_Row ax_wC ax_XC rx_P ax_APC rx_P (rx_DF, rx_FK) rxm_284 (axm_284, axc_284) := fun hr => ⟨ax_tabB_ok axt_284, fun hL => ax_con_nil⟩
theorem axt_285 : ax_tabB (rx_cd rxm_285) axm_285 = true := by decide +kernel
theorem axr_285 (hP : ∀ q ∈ rx_P, rx_QW q ∧ rx_ST rx_P (rx_DF, rx_FK) q) : ax_Row ax_wC ax_XC rx_P ax_APC rx_P (rx_DF, rx_FK) rxm_285 (axm_285, axc_285) := fun hr => ⟨ax_tabB_ok axt_285, fun hL => ax_con_nil⟩
theorem axt_286 : ax_tabB (rx_cd rxm_286) axm_286 = true := by decide +kernel
theorem axr_286 (hP : ∀ q ∈ rx_P, rx_QW q ∧ rx_ST rx_P (rx_DF, rx_FK) q) : ax_Row ax_wC ax_XC rx_P ax_APC rx_P (rx_DF, rx_FK) rxm_286 (axm_286, axc_286) := fun hr => ⟨ax_tabB_ok axt_286, fun hL => ax_con_nil⟩
theorem axt_287 : ax_tabB (rx_cd rxm_287) axm_287 = true := by decide +kernel
theorem axr_287 (hP : ∀ q ∈ rx_P, rx_QW q ∧ rx_ST rx_P (rx_DF, rx_FK) q) : ax_Row ax_wC ax_XC rx_P ax_APC rx_P (rx_DF, rx_FK) rxm_287 (axm_287, axc_287) := fun hr => ⟨ax_tabB_ok axt_287, fun hL => ax_con_nil⟩
theorem axt_288 : ax_tabB (rx_cd rxm_288) axm_288 = true := by decide +kernel
theorem axr_288 (hP : ∀ q ∈ rx_P, rx_QW q ∧ rx_ST rx_P (rx_DF, rx_FK) q) : ax_Row ax_wC ax_XC rx_P ax_APC rx_P (rx_DF, rx_FK) rxm_288 (axm_288, axc_288) := fun hr => ⟨ax_tabB_ok axt_288, fun hL => ax_con_nil⟩
theorem axt_289 : ax_tabB (rx_cd rxm_289) axm_289 = true := by decide +kernel
theorem axr_289 (hP : ∀ q ∈ rx_P, rx_QW q ∧ rx_ST rx_P (rx_DF, rx_FK) q) : ax_Row ax_wC ax_XC rx_P ax_APC rx_P (rx_DF, rx_FK) rxm_289 (axm_289, axc_289) := fun hr => ⟨ax_tabB_ok axt_289, fun hL => ax_con_nil⟩
theorem axt_290 : ax_tabB (rx_cd rxm_290) axm_290 = true := by decide +kernel
theorem axr_290 (hP : ∀ q ∈ rx_P, rx_QW q ∧ rx_ST rx_P (rx_DF, rx_FK) q) : ax_Row ax_wC ax_XC rx_P ax_APC rx_P (rx_DF, rx_FK) rxm_290 (axm_290, axc_290) := fun hr => ⟨ax_tabB_ok axt_290, fun hL => ax_con_nil⟩
theorem axt_291 : ax_tabB (rx_cd rxm_291) axm_291 = true := by decide +kernel
theorem axs_291_0 : ∀ x ∈ ([axu_ru1_6, axu_ru2_6, axu_ru3_6, axu_ru3c2_6, axu_ru3c3_6, axu_ru3c4_6, axu_ru3c5_6, axu_ru3c40_6, axu_ru4c1_6, axu_ru5c1, axu_ru4c2_6, axu_ru5c2, axu_ru4c3_6, axu_ru5c3, axu_ru4c4_6, axu_ru5c4, axu_ru4c5_6, axu_ru5c5, axu_ru4c40_6, axu_ru5c40] : List ax_RL), ax_RO ax_wC ax_XC x := ax_ro_cons axq_ru1_6 (ax_ro_cons axq_ru2_6 (ax_ro_cons axq_ru3_6 (ax_ro_cons axq_ru3c2_6 (ax_ro_cons axq_ru3c3_6 (ax_ro_cons axq_ru3c4_6 (ax_ro_cons axq_ru3c5_6 (ax_ro_cons axq_ru3c40_6 (ax_ro_cons axq_ru4c1_6 (ax_ro_cons axq_ru5c1 (ax_ro_cons axq_ru4c2_6 (ax_ro_cons axq_ru5c2 (ax_ro_cons axq_ru4c3_6 (ax_ro_cons axq_ru5c3 (ax_ro_cons axq_ru4c4_6 (ax_ro_cons axq_ru5c4 (ax_ro_cons axq_ru4c5_6 (ax_ro_cons axq_ru5c5 (ax_ro_cons axq_ru4c40_6 (ax_ro_cons axq_ru5c40 (ax_ro_nil))))))))))))))))))))
/-- TurnNet$Reader.readUnit: 149 steps -/
theorem axk_291_0 : ax_chk ax_wC rx_P (rx_DF, rx_FK) ax_APC (rx_n rxm_291) axm_291 (([42, 24], (5, [(1, 0, 0), (1, 0, 0), (1, 0, 0), (1, 0, 0), (1, 0, 0)], [], [], [(31, []), (30, [3]), (50, [3, 7]), (78, [3, 7]), (90, [3, 7, 11]), (91, [11, 24]), (46, [3, 7, 15, 19]), (41, [19])])), [(2, 3), (2, 4)], [([0], (5, [(1, 0, 0), (1, 0, 0), (1, 0, 0), (1, 0, 0), (1, 0, 0)], [], [], [(63, [3])]))]) [axu_ru1_6, axu_ru2_6, axu_ru3_6, axu_ru3c2_6, axu_ru3c3_6, axu_ru3c4_6, axu_ru3c5_6, axu_ru3c40_6, axu_ru4c1_6, axu_ru5c1, axu_ru4c2_6, axu_ru5c2, axu_ru4c3_6, axu_ru5c3, axu_ru4c4_6, axu_ru5c4, axu_ru4c5_6, axu_ru5c5, axu_ru4c40_6, axu_ru5c40] [] 3000 0 (() : ax_Tr 0) = true := by decide +kernel
theorem axr_291 (hP : ∀ q ∈ rx_P, rx_QW q ∧ rx_ST rx_P (rx_DF, rx_FK) q) : ax_Row ax_wC ax_XC rx_P ax_APC rx_P (rx_DF, rx_FK) rxm_291 (axm_291, axc_291) := fun hr => ⟨ax_tabB_ok axt_291, fun hL => ax_con_cons (ax_chk_ok hP ax_XC_ok hr hL (ax_tabB_ok axt_291) axs_291_0 axk_291_0) (ax_con_nil)⟩
theorem axt_292 : ax_tabB (rx_cd rxm_292) axm_292 = true := by decide +kernel
theorem axr_292 (hP : ∀ q ∈ rx_P, rx_QW q ∧ rx_ST rx_P (rx_DF, rx_FK) q) : ax_Row ax_wC ax_XC rx_P ax_APC rx_P (rx_DF, rx_FK) rxm_292 (axm_292, axc_292) := fun hr => ⟨ax_tabB_ok axt_292, fun hL => ax_con_nil⟩
end
section
theorem axt_293 : ax_tabB (rx_cd rxm_293) axm_293 = true := by decide +kernel
theorem axr_293 (hP : ∀ q ∈ rx_P, rx_QW q ∧ rx_ST rx_P (rx_DF, rx_FK) q) : ax_Row ax_wC ax_XC rx_P ax_APC rx_P (rx_DF, rx_FK) rxm_293 (axm_293, axc_293) := fun hr => ⟨ax_tabB_ok axt_293, fun hL => ax_con_nil⟩
theorem axt_294 : ax_tabB (rx_cd rxm_294) axm_294 = true := by decide +kernel
theorem axr_294 (hP : ∀ q ∈ rx_P, rx_QW q ∧ rx_ST rx_P (rx_DF, rx_FK) q) : ax_Row ax_wC ax_XC rx_P ax_APC rx_P (rx_DF, rx_FK) rxm_294 (axm_294, axc_294) := fun hr => ⟨ax_tabB_ok axt_294, fun hL => ax_con_nil⟩
theorem axt_295 : ax_tabB (rx_cd rxm_295) axm_295 = true := by decide +kernel
theorem axr_295 (hP : ∀ q ∈ rx_P, rx_QW q ∧ rx_ST rx_P (rx_DF, rx_FK) q) : ax_Row ax_wC ax_XC rx_P ax_APC rx_P (rx_DF, rx_FK) rxm_295 (axm_295, axc_295) := fun hr => ⟨ax_tabB_ok axt_295, fun hL => ax_con_nil⟩
theorem axt_296 : ax_tabB (rx_cd rxm_296) axm_296 = true := by decide +kernel
theorem axr_296 (hP : ∀ q ∈ rx_P, rx_QW q ∧ rx_ST rx_P (rx_DF, rx_FK) q) : ax_Row ax_wC ax_XC rx_P ax_APC rx_P (rx_DF, rx_FK) rxm_296 (axm_296, axc_296) := fun hr => ⟨ax_tabB_ok axt_296, fun hL => ax_con_nil⟩
theorem axt_297 : ax_tabB (rx_cd rxm_297) axm_297 = true := by decide +kernel
theorem axr_297 (hP : ∀ q ∈ rx_P, rx_QW q ∧ rx_ST rx_P (rx_DF, rx_FK) q) : ax_Row ax_wC ax_XC rx_P ax_APC rx_P (rx_DF, rx_FK) rxm_297 (axm_297, axc_297) := fun hr => ⟨ax_tabB_ok axt_297, fun hL => ax_con_nil⟩
theorem axt_298 : ax_tabB (rx_cd rxm_298) axm_298 = true := by decide +kernel
theorem axr_298 (hP : ∀ q ∈ rx_P, rx_QW q ∧ rx_ST rx_P (rx_DF, rx_FK) q) : ax_Row ax_wC ax_XC rx_P ax_APC rx_P (rx_DF, rx_FK) rxm_298 (axm_298, axc_298) := fun hr => ⟨ax_tabB_ok axt_298, fun hL => ax_con_nil⟩
theorem axt_299 : ax_tabB (rx_cd rxm_299) axm_299 = true := by decide +kernel
/-- TurnNet$Reader.readProduct: 6 steps -/
theorem axk_299_0 : ax_chk ax_wC rx_P (rx_DF, rx_FK) ax_APC (rx_n rxm_299) axm_299 (([42, 24], (5, [(1, 0, 0), (1, 0, 0), (1, 0, 0), (1, 0, 0), (1, 0, 0)], [], [], [(31, []), (30, [3]), (50, [3, 7]), (78, [3, 7]), (90, [3, 7, 11]), (91, [11, 24]), (46, [3, 7, 15, 19]), (41, [19]), (92, [11, 11]), (44, [15])])), [(2, 3), (2, 4)], [([0], (5, [(1, 0, 0), (1, 0, 0), (1, 0, 0), (1, 0, 0), (1, 0, 0)], [], [], [(63, [3])]))]) [] [12] 3000 0 (() : ax_Tr 0) = true := by decide +kernel
theorem axr_299 (hP : ∀ q ∈ rx_P, rx_QW q ∧ rx_ST rx_P (rx_DF, rx_FK) q) : ax_Row ax_wC ax_XC rx_P ax_APC rx_P (rx_DF, rx_FK) rxm_299 (axm_299, axc_299) := fun hr => ⟨ax_tabB_ok axt_299, fun hL => ax_con_cons (ax_chk_ok hP ax_XC_ok hr hL (ax_tabB_ok axt_299) ax_ro_nil axk_299_0) (ax_con_nil)⟩
theorem axt_300 : ax_tabB (rx_cd rxm_300) axm_300 = true := by decide +kernel
theorem axr_300 (hP : ∀ q ∈ rx_P, rx_QW q ∧ rx_ST rx_P (rx_DF, rx_FK) q) : ax_Row ax_wC ax_XC rx_P ax_APC rx_P (rx_DF, rx_FK) rxm_300 (axm_300, axc_300) := fun hr => ⟨ax_tabB_ok axt_300, fun hL => ax_con_nil⟩
theorem axt_301 : ax_tabB (rx_cd rxm_301) axm_301 = true := by decide +kernel
theorem axr_301 (hP : ∀ q ∈ rx_P, rx_QW q ∧ rx_ST rx_P (rx_DF, rx_FK) q) : ax_Row ax_wC ax_XC rx_P ax_APC rx_P (rx_DF, rx_FK) rxm_301 (axm_301, axc_301) := fun hr => ⟨ax_tabB_ok axt_301, fun hL => ax_con_nil⟩
theorem axt_302 : ax_tabB (rx_cd rxm_302) axm_302 = true := by decide +kernel
theorem axr_302 (hP : ∀ q ∈ rx_P, rx_QW q ∧ rx_ST rx_P (rx_DF, rx_FK) q) : ax_Row ax_wC ax_XC rx_P ax_APC rx_P (rx_DF, rx_FK) rxm_302 (axm_302, axc_302) := fun hr => ⟨ax_tabB_ok axt_302, fun hL => ax_con_nil⟩
theorem axt_303 : ax_tabB (rx_cd rxm_303) axm_303 = true := by decide +kernel
theorem axr_303 (hP : ∀ q ∈ rx_P, rx_QW q ∧ rx_ST rx_P (rx_DF, rx_FK) q) : ax_Row ax_wC ax_XC rx_P ax_APC rx_P (rx_DF, rx_FK) rxm_303 (axm_303, axc_303) := fun hr => ⟨ax_tabB_ok axt_303, fun hL => ax_con_nil⟩
theorem axt_304 : ax_tabB (rx_cd rxm_304) axm_304 = true := by decide +kernel
theorem axr_304 (hP : ∀ q ∈ rx_P, rx_QW q ∧ rx_ST rx_P (rx_DF, rx_FK) q) : ax_Row ax_wC ax_XC rx_P ax_APC rx_P (rx_DF, rx_FK) rxm_304 (axm_304, axc_304) := fun hr => ⟨ax_tabB_ok axt_304, fun hL => ax_con_nil⟩
theorem axt_305 : ax_tabB (rx_cd rxm_305) axm_305 = true := by decide +kernel
theorem axr_305 (hP : ∀ q ∈ rx_P, rx_QW q ∧ rx_ST rx_P (rx_DF, rx_FK) q) : ax_Row ax_wC ax_XC rx_P ax_APC rx_P (rx_DF, rx_FK) rxm_305 (axm_305, axc_305) := fun hr => ⟨ax_tabB_ok axt_305, fun hL => ax_con_nil⟩
theorem axt_306 : ax_tabB (rx_cd rxm_306) axm_306 = true := by decide +kernel
theorem axs_306_0 : ∀ x ∈ ([axu_s45_6] : List ax_RL), ax_RO ax_wC ax_XC x := ax_ro_cons axq_s45_6 (ax_ro_nil)
/-- TurnNet$Reader.readSum: 6 steps -/
theorem axk_306_0 : ax_chk ax_wC rx_P (rx_DF, rx_FK) ax_APC (rx_n rxm_306) axm_306 (([42, 24], (5, [(1, 0, 0), (1, 0, 0), (1, 0, 0), (1, 0, 0), (1, 0, 0)], [], [], [(31, []), (30, [3]), (50, [3, 7]), (78, [3, 7]), (90, [3, 7, 11]), (91, [11, 24]), (46, [3, 7, 15, 19]), (41, [19]), (92, [11, 11]), (45, [15])])), [(2, 3), (2, 4)], [([0], (5, [(1, 0, 0), (1, 0, 0), (1, 0, 0), (1, 0, 0), (1, 0, 0)], [], [], [(63, [3])]))]) [axu_s45_6] [12] 3000 0 (() : ax_Tr 0) = true := by decide +kernel
theorem axr_306 (hP : ∀ q ∈ rx_P, rx_QW q ∧ rx_ST rx_P (rx_DF, rx_FK) q) : ax_Row ax_wC ax_XC rx_P ax_APC rx_P (rx_DF, rx_FK) rxm_306 (axm_306, axc_306) := fun hr => ⟨ax_tabB_ok axt_306, fun hL => ax_con_cons (ax_chk_ok hP ax_XC_ok hr hL (ax_tabB_ok axt_306) axs_306_0 axk_306_0) (ax_con_nil)⟩
theorem axt_307 : ax_tabB (rx_cd rxm_307) axm_307 = true := by decide +kernel
theorem axr_307 (hP : ∀ q ∈ rx_P, rx_QW q ∧ rx_ST rx_P (rx_DF, rx_FK) q) : ax_Row ax_wC ax_XC rx_P ax_APC rx_P (rx_DF, rx_FK) rxm_307 (axm_307, axc_307) := fun hr => ⟨ax_tabB_ok axt_307, fun hL => ax_con_nil⟩
theorem axt_308 : ax_tabB (rx_cd rxm_308) axm_308 = true := by decide +kernel
theorem axs_308_0 : ∀ x ∈ ([axu_ru1_5, axu_ru2_5, axu_ru3_5, axu_ru3c2_5, axu_ru3c3_5, axu_ru3c4_5, axu_ru3c5_5, axu_ru3c40_5, axu_ru4c1_5, axu_ru6c1_5, axu_ru4c2_5, axu_ru6c2_5, axu_ru4c3_5, axu_ru6c3_5, axu_ru4c4_5, axu_ru6c4_5, axu_ru4c5_5, axu_ru6c5_5, axu_ru4c40_5, axu_ru6c40_5, axu_su1_5, axu_sv1_5, axu_sl1_5, axu_su2_5, axu_sv2_5, axu_sl2_5, axu_su3_5, axu_sv3_5, axu_sl3_5, axu_su4_5, axu_sv4_5, axu_sl4_5, axu_su40_5, axu_su5_5] : List ax_RL), ax_RO ax_wC ax_XC x := ax_ro_cons axq_ru1_5 (ax_ro_cons axq_ru2_5 (ax_ro_cons axq_ru3_5 (ax_ro_cons axq_ru3c2_5 (ax_ro_cons axq_ru3c3_5 (ax_ro_cons axq_ru3c4_5 (ax_ro_cons axq_ru3c5_5 (ax_ro_cons axq_ru3c40_5 (ax_ro_cons axq_ru4c1_5 (ax_ro_cons axq_ru6c1_5 (ax_ro_cons axq_ru4c2_5 (ax_ro_cons axq_ru6c2_5 (ax_ro_cons axq_ru4c3_5 (ax_ro_cons axq_ru6c3_5 (ax_ro_cons axq_ru4c4_5 (ax_ro_cons axq_ru6c4_5 (ax_ro_cons axq_ru4c5_5 (ax_ro_cons axq_ru6c5_5 (ax_ro_cons axq_ru4c40_5 (ax_ro_cons axq_ru6c40_5 (ax_ro_cons axq_su1_5 (ax_ro_cons axq_sv1_5 (ax_ro_cons axq_sl1_5 (ax_ro_cons axq_su2_5 (ax_ro_cons axq_sv2_5 (ax_ro_cons axq_sl2_5 (ax_ro_cons axq_su3_5 (ax_ro_cons axq_sv3_5 (ax_ro_cons axq_sl3_5 (ax_ro_cons axq_su4_5 (ax_ro_cons axq_sv4_5 (ax_ro_cons axq_sl4_5 (ax_ro_cons axq_su40_5 (ax_ro_cons axq_su5_5 (ax_ro_nil))))))))))))))))))))))))))))))))))
/-- TurnNet$Reader.readUnit: 274 steps -/
theorem axk_308_0 : ax_chk ax_wC rx_P (rx_DF, rx_FK) ax_APC (rx_n rxm_308) axm_308 (([42, 20], (5, [(1, 0, 0), (1, 0, 0), (1, 0, 0), (1, 0, 0), (1, 0, 0)], [], [], [(31, []), (30, [3]), (50, [3, 7]), (78, [3, 7]), (90, [3, 7, 11]), (91, [11, 20]), (46, [3, 7, 15, 19]), (41, [19])])), [(1, 4), (1, 5), (2, 3), (2, 4), (2, 5), (2, 6), (2, 7), (2, 8), (18, 999), (19, 999)], [([0], (5, [(1, 0, 0), (1, 0, 0), (1, 0, 0), (1, 0, 0), (1, 0, 0)], [], [], [(63, [3])])), ([4], (8, [(1, 0, 0), (1, 0, 0), (1, 0, 0), (1, 0, 0), (1, 0, 0), (1, 0, 0), (1, 0, 0), (1, 0, 0)], [], [], [(50, [3, 23]), (79, [3, 23]), (90, [3, 23, 27]), (92, [11, 27]), (1030, [7, 23]), (47, [3, 23, 15, 31]), (41, [31])]))]) [axu_ru1_5, axu_ru2_5, axu_ru3_5, axu_ru3c2_5, axu_ru3c3_5, axu_ru3c4_5, axu_ru3c5_5, axu_ru3c40_5, axu_ru4c1_5, axu_ru6c1_5, axu_ru4c2_5, axu_ru6c2_5, axu_ru4c3_5, axu_ru6c3_5, axu_ru4c4_5, axu_ru6c4_5, axu_ru4c5_5, axu_ru6c5_5, axu_ru4c40_5, axu_ru6c40_5, axu_su1_5, axu_sv1_5, axu_sl1_5, axu_su2_5, axu_sv2_5, axu_sl2_5, axu_su3_5, axu_sv3_5, axu_sl3_5, axu_su4_5, axu_sv4_5, axu_sl4_5, axu_su40_5, axu_su5_5] [] 3000 0 (() : ax_Tr 0) = true := by decide +kernel
theorem axr_308 (hP : ∀ q ∈ rx_P, rx_QW q ∧ rx_ST rx_P (rx_DF, rx_FK) q) : ax_Row ax_wC ax_XC rx_P ax_APC rx_P (rx_DF, rx_FK) rxm_308 (axm_308, axc_308) := fun hr => ⟨ax_tabB_ok axt_308, fun hL => ax_con_cons (ax_chk_ok hP ax_XC_ok hr hL (ax_tabB_ok axt_308) axs_308_0 axk_308_0) (ax_con_nil)⟩
theorem axt_309 : ax_tabB (rx_cd rxm_309) axm_309 = true := by decide +kernel
theorem axr_309 (hP : ∀ q ∈ rx_P, rx_QW q ∧ rx_ST rx_P (rx_DF, rx_FK) q) : ax_Row ax_wC ax_XC rx_P ax_APC rx_P (rx_DF, rx_FK) rxm_309 (axm_309, axc_309) := fun hr => ⟨ax_tabB_ok axt_309, fun hL => ax_con_nil⟩
theorem axt_310 : ax_tabB (rx_cd rxm_310) axm_310 = true := by decide +kernel
theorem axr_310 (hP : ∀ q ∈ rx_P, rx_QW q ∧ rx_ST rx_P (rx_DF, rx_FK) q) : ax_Row ax_wC ax_XC rx_P ax_APC rx_P (rx_DF, rx_FK) rxm_310 (axm_310, axc_310) := fun hr => ⟨ax_tabB_ok axt_310, fun hL => ax_con_nil⟩
theorem axt_311 : ax_tabB (rx_cd rxm_311) axm_311 = true := by decide +kernel
theorem axr_311 (hP : ∀ q ∈ rx_P, rx_QW q ∧ rx_ST rx_P (rx_DF, rx_FK) q) : ax_Row ax_wC ax_XC rx_P ax_APC rx_P (rx_DF, rx_FK) rxm_311 (axm_311, axc_311) := fun hr => ⟨ax_tabB_ok axt_311, fun hL => ax_con_nil⟩
theorem axt_312 : ax_tabB (rx_cd rxm_312) axm_312 = true := by decide +kernel
theorem axs_312_0 : ∀ x ∈ ([axu_rp1_5, axu_rp2_5, axu_rp3c42_5, axu_rp3c47_5, axu_rp3c37_5, axu_rp4_5, axu_rp5_5, axu_rp6_5, axu_rp7_5, axu_rp8a_5, axu_rp8b_5, axu_rp8c_5, axu_rp8d_5, axu_sp1_5, axu_sp2c42_5, axu_sp3c42_5, axu_sp2c47_5, axu_sp3c47_5, axu_sp2c37_5, axu_sp3c37_5, axu_spl_5] : List ax_RL), ax_RO ax_wC ax_XC x := ax_ro_cons axq_rp1_5 (ax_ro_cons axq_rp2_5 (ax_ro_cons axq_rp3c42_5 (ax_ro_cons axq_rp3c47_5 (ax_ro_cons axq_rp3c37_5 (ax_ro_cons axq_rp4_5 (ax_ro_cons axq_rp5_5 (ax_ro_cons axq_rp6_5 (ax_ro_cons axq_rp7_5 (ax_ro_cons axq_rp8a_5 (ax_ro_cons axq_rp8b_5 (ax_ro_cons axq_rp8c_5 (ax_ro_cons axq_rp8d_5 (ax_ro_cons axq_sp1_5 (ax_ro_cons axq_sp2c42_5 (ax_ro_cons axq_sp3c42_5 (ax_ro_cons axq_sp2c47_5 (ax_ro_cons axq_sp3c47_5 (ax_ro_cons axq_sp2c37_5 (ax_ro_cons axq_sp3c37_5 (ax_ro_cons axq_spl_5 (ax_ro_nil)))))))))))))))))))))
/-- TurnNet$Reader.readProduct: 103 steps -/
theorem axk_312_0 : ax_chk ax_wC rx_P (rx_DF, rx_FK) ax_APC (rx_n rxm_312) axm_312 (([42, 20], (5, [(1, 0, 0), (1, 0, 0), (1, 0, 0), (1, 0, 0), (1, 0, 0)], [], [], [(31, []), (30, [3]), (50, [3, 7]), (78, [3, 7]), (90, [3, 7, 11]), (91, [11, 20]), (46, [3, 7, 15, 19]), (41, [19]), (92, [11, 11]), (44, [15])])), [(1, 4), (1, 5), (2, 3), (2, 4), (2, 5), (2, 6), (2, 7), (2, 8), (18, 999), (19, 999)], [([0], (5, [(1, 0, 0), (1, 0, 0), (1, 0, 0), (1, 0, 0), (1, 0, 0)], [], [], [(63, [3])])), ([4], (7, [(1, 0, 0), (1, 0, 0), (1, 0, 0), (1, 0, 0), (1, 0, 0), (1, 0, 0), (1, 0, 0)], [], [], [(50, [3, 23]), (79, [3, 23]), (90, [3, 23, 11]), (95, [3, 23]), (1030, [7, 23]), (48, [3, 23, 15, 27]), (41, [27])]))]) [axu_rp1_5, axu_rp2_5, axu_rp3c42_5, axu_rp3c47_5, axu_rp3c37_5, axu_rp4_5, axu_rp5_5, axu_rp6_5, axu_rp7_5, axu_rp8a_5, axu_rp8b_5, axu_rp8c_5, axu_rp8d_5, axu_sp1_5, axu_sp2c42_5, axu_sp3c42_5, axu_sp2c47_5, axu_sp3c47_5, axu_sp2c37_5, axu_sp3c37_5, axu_spl_5] [12] 3000 1 (([((12, 1, 5, ([42, 20, 23, 2], (11, [(1, 0, 0), (1, 0, 0), (1, 0, 0), (1, 0, 0), (1, 0, 0), (0, 2147483648, 2147484448), (1, 0, 0), (1, 0, 0), (1, 0, 0), (1, 0, 0), (1, 0, 0)], [], [], [(50, [3, 27]), (79, [3, 27]), (90, [3, 27, 11]), (97, [27, 23]), (1030, [7, 27]), (48, [3, 27, 15, 31]), (41, [31]), (92, [11, 35]), (47, [3, 27, 39, 43]), (31, []), (30, [3]), (78, [3, 7]), (91, [11, 20]), (46, [3, 7, 15, 19]), (92, [11, 11]), (44, [15])]))), ())] : List ((Nat × Nat × Nat × ax_T) × ax_Tr 0)) : ax_Tr 1) = true := by decide +kernel
theorem axr_312 (hP : ∀ q ∈ rx_P, rx_QW q ∧ rx_ST rx_P (rx_DF, rx_FK) q) : ax_Row ax_wC ax_XC rx_P ax_APC rx_P (rx_DF, rx_FK) rxm_312 (axm_312, axc_312) := fun hr => ⟨ax_tabB_ok axt_312, fun hL => ax_con_cons (ax_chk_ok hP ax_XC_ok hr hL (ax_tabB_ok axt_312) axs_312_0 axk_312_0) (ax_con_nil)⟩
theorem axt_313 : ax_tabB (rx_cd rxm_313) axm_313 = true := by decide +kernel
theorem axs_313_0 : ∀ x ∈ ([axu_rq2_5, axu_rq3c43_5, axu_rq3c45_5, axu_rq5_5, axu_rq6_5, axu_rq7_5, axu_rq8a_5, axu_rq8b_5, axu_rq8c_5, axu_sq1_5, axu_sq2c43_5, axu_sq3c43_5, axu_sq2c45_5, axu_sq3c45_5, axu_sql_5, axu_s45_5] : List ax_RL), ax_RO ax_wC ax_XC x := ax_ro_cons axq_rq2_5 (ax_ro_cons axq_rq3c43_5 (ax_ro_cons axq_rq3c45_5 (ax_ro_cons axq_rq5_5 (ax_ro_cons axq_rq6_5 (ax_ro_cons axq_rq7_5 (ax_ro_cons axq_rq8a_5 (ax_ro_cons axq_rq8b_5 (ax_ro_cons axq_rq8c_5 (ax_ro_cons axq_sq1_5 (ax_ro_cons axq_sq2c43_5 (ax_ro_cons axq_sq3c43_5 (ax_ro_cons axq_sq2c45_5 (ax_ro_cons axq_sq3c45_5 (ax_ro_cons axq_sql_5 (ax_ro_cons axq_s45_5 (ax_ro_nil))))))))))))))))
/-- TurnNet$Reader.readSum: 70 steps -/
theorem axk_313_0 : ax_chk ax_wC rx_P (rx_DF, rx_FK) ax_APC (rx_n rxm_313) axm_313 (([42, 20], (5, [(1, 0, 0), (1, 0, 0), (1, 0, 0), (1, 0, 0), (1, 0, 0)], [], [], [(31, []), (30, [3]), (50, [3, 7]), (78, [3, 7]), (90, [3, 7, 11]), (91, [11, 20]), (46, [3, 7, 15, 19]), (41, [19]), (92, [11, 11]), (45, [15])])), [(1, 4), (1, 5), (2, 3), (2, 4), (2, 5), (2, 6), (2, 7), (2, 8), (18, 999), (19, 999)], [([0], (5, [(1, 0, 0), (1, 0, 0), (1, 0, 0), (1, 0, 0), (1, 0, 0)], [], [], [(63, [3])])), ([4], (7, [(1, 0, 0), (1, 0, 0), (1, 0, 0), (1, 0, 0), (1, 0, 0), (1, 0, 0), (1, 0, 0)], [], [], [(50, [3, 23]), (79, [3, 23]), (90, [3, 23, 11]), (94, [3, 23]), (1030, [7, 23]), (49, [3, 23, 15, 27]), (41, [27])]))]) [axu_rq2_5, axu_rq3c43_5, axu_rq3c45_5, axu_rq5_5, axu_rq6_5, axu_rq7_5, axu_rq8a_5, axu_rq8b_5, axu_rq8c_5, axu_sq1_5, axu_sq2c43_5, axu_sq3c43_5, axu_sq2c45_5, axu_sq3c45_5, axu_sql_5, axu_s45_5] [12] 3000 1 (([((12, 1, 5, ([42, 20, 23, 2], (10, [(1, 0, 0), (1, 0, 0), (1, 0, 0), (1, 0, 0), (0, 2147483648, 2147484448), (1, 0, 0), (1, 0, 0), (1, 0, 0), (1, 0, 0), (1, 0, 0)], [], [], [(50, [3, 27]), (79, [3, 27]), (90, [3, 27, 11]), (97, [27, 23]), (1030, [7, 27]), (95, [3, 27]), (49, [3, 27, 15, 31]), (41, [31]), (48, [3, 27, 35, 39]), (44, [35]), (31, []), (30, [3]), (78, [3, 7]), (91, [11, 20]), (46, [3, 7, 15, 19]), (92, [11, 11]), (45, [15])]))), ())] : List ((Nat × Nat × Nat × ax_T) × ax_Tr 0)) : ax_Tr 1) = true := by decide +kernel
theorem axr_313 (hP : ∀ q ∈ rx_P, rx_QW q ∧ rx_ST rx_P (rx_DF, rx_FK) q) : ax_Row ax_wC ax_XC rx_P ax_APC rx_P (rx_DF, rx_FK) rxm_313 (axm_313, axc_313) := fun hr => ⟨ax_tabB_ok axt_313, fun hL => ax_con_cons (ax_chk_ok hP ax_XC_ok hr hL (ax_tabB_ok axt_313) axs_313_0 axk_313_0) (ax_con_nil)⟩
theorem axt_314 : ax_tabB (rx_cd rxm_314) axm_314 = true := by decide +kernel
theorem axs_314_0 : ∀ x ∈ ([axu_ru1_4, axu_ru2_4, axu_ru3_4, axu_ru3c2_4, axu_ru3c3_4, axu_ru3c4_4, axu_ru3c5_4, axu_ru3c40_4, axu_ru4c1_4, axu_ru6c1_4, axu_ru4c2_4, axu_ru6c2_4, axu_ru4c3_4, axu_ru6c3_4, axu_ru4c4_4, axu_ru6c4_4, axu_ru4c5_4, axu_ru6c5_4, axu_ru4c40_4, axu_ru6c40_4, axu_rut1_4, axu_rut2_4, axu_rut3_4, axu_ru7_4, axu_su1_4, axu_sv1_4, axu_sl1_4, axu_su2_4, axu_sv2_4, axu_sl2_4, axu_su3_4, axu_sv3_4, axu_sl3_4, axu_su4_4, axu_sv4_4, axu_sl4_4, axu_su40_4, axu_su5_4, axu_sl5_4, axu_sv5_4] : List ax_RL), ax_RO ax_wC ax_XC x := ax_ro_cons axq_ru1_4 (ax_ro_cons axq_ru2_4 (ax_ro_cons axq_ru3_4 (ax_ro_cons axq_ru3c2_4 (ax_ro_cons axq_ru3c3_4 (ax_ro_cons axq_ru3c4_4 (ax_ro_cons axq_ru3c5_4 (ax_ro_cons axq_ru3c40_4 (ax_ro_cons axq_ru4c1_4 (ax_ro_cons axq_ru6c1_4 (ax_ro_cons axq_ru4c2_4 (ax_ro_cons axq_ru6c2_4 (ax_ro_cons axq_ru4c3_4 (ax_ro_cons axq_ru6c3_4 (ax_ro_cons axq_ru4c4_4 (ax_ro_cons axq_ru6c4_4 (ax_ro_cons axq_ru4c5_4 (ax_ro_cons axq_ru6c5_4 (ax_ro_cons axq_ru4c40_4 (ax_ro_cons axq_ru6c40_4 (ax_ro_cons axq_rut1_4 (ax_ro_cons axq_rut2_4 (ax_ro_cons axq_rut3_4 (ax_ro_cons axq_ru7_4 (ax_ro_cons axq_su1_4 (ax_ro_cons axq_sv1_4 (ax_ro_cons axq_sl1_4 (ax_ro_cons axq_su2_4 (ax_ro_cons axq_sv2_4 (ax_ro_cons axq_sl2_4 (ax_ro_cons axq_su3_4 (ax_ro_cons axq_sv3_4 (ax_ro_cons axq_sl3_4 (ax_ro_cons axq_su4_4 (ax_ro_cons axq_sv4_4 (ax_ro_cons axq_sl4_4 (ax_ro_cons axq_su40_4 (ax_ro_cons axq_su5_4 (ax_ro_cons axq_sl5_4 (ax_ro_cons axq_sv5_4 (ax_ro_nil))))))))))))))))))))))))))))))))))))))))
/-- TurnNet$Reader.readUnit: 293 steps -/
theorem axk_314_0 : ax_chk ax_wC rx_P (rx_DF, rx_FK) ax_APC (rx_n rxm_314) axm_314 (([42, 16], (5, [(1, 0, 0), (1, 0, 0), (1, 0, 0), (1, 0, 0), (1, 0, 0)], [], [], [(31, []), (30, [3]), (50, [3, 7]), (78, [3, 7]), (90, [3, 7, 11]), (91, [11, 16]), (46, [3, 7, 15, 19]), (41, [19])])), [(1, 4), (1, 5), (2, 3), (2, 4), (2, 5), (2, 6), (2, 7), (2, 8), (18, 999), (19, 999)], [([0], (5, [(1, 0, 0), (1, 0, 0), (1, 0, 0), (1, 0, 0), (1, 0, 0)], [], [], [(63, [3])])), ([4], (8, [(1, 0, 0), (1, 0, 0), (1, 0, 0), (1, 0, 0), (1, 0, 0), (1, 0, 0), (1, 0, 0), (1, 0, 0)], [], [], [(50, [3, 23]), (79, [3, 23]), (90, [3, 23, 27]), (92, [11, 27]), (1030, [7, 23]), (47, [3, 23, 15, 31]), (41, [31])]))]) [axu_ru1_4, axu_ru2_4, axu_ru3_4, axu_ru3c2_4, axu_ru3c3_4, axu_ru3c4_4, axu_ru3c5_4, axu_ru3c40_4, axu_ru4c1_4, axu_ru6c1_4, axu_ru4c2_4, axu_ru6c2_4, axu_ru4c3_4, axu_ru6c3_4, axu_ru4c4_4, axu_ru6c4_4, axu_ru4c5_4, axu_ru6c5_4, axu_ru4c40_4, axu_ru6c40_4, axu_rut1_4, axu_rut2_4, axu_rut3_4, axu_ru7_4, axu_su1_4, axu_sv1_4, axu_sl1_4, axu_su2_4, axu_sv2_4, axu_sl2_4, axu_su3_4, axu_sv3_4, axu_sl3_4, axu_su4_4, axu_sv4_4, axu_sl4_4, axu_su40_4, axu_su5_4, axu_sl5_4, axu_sv5_4] [] 3000 0 (() : ax_Tr 0) = true := by decide +kernel
theorem axr_314 (hP : ∀ q ∈ rx_P, rx_QW q ∧ rx_ST rx_P (rx_DF, rx_FK) q) : ax_Row ax_wC ax_XC rx_P ax_APC rx_P (rx_DF, rx_FK) rxm_314 (axm_314, axc_314) := fun hr => ⟨ax_tabB_ok axt_314, fun hL => ax_con_cons (ax_chk_ok hP ax_XC_ok hr hL (ax_tabB_ok axt_314) axs_314_0 axk_314_0) (ax_con_nil)⟩
theorem axt_315 : ax_tabB (rx_cd rxm_315) axm_315 = true := by decide +kernel
theorem axs_315_0 : ∀ x ∈ ([axu_rp1_4, axu_rp2_4, axu_rp3c42_4, axu_rp3c47_4, axu_rp3c37_4, axu_rp4_4, axu_rp5_4, axu_rp6_4, axu_rp7_4, axu_rp8a_4, axu_rp8b_4, axu_rp8c_4, axu_rp8d_4, axu_sp1_4, axu_sp2c42_4, axu_sp3c42_4, axu_sp2c47_4, axu_sp3c47_4, axu_sp2c37_4, axu_sp3c37_4, axu_spl_4] : List ax_RL), ax_RO ax_wC ax_XC x := ax_ro_cons axq_rp1_4 (ax_ro_cons axq_rp2_4 (ax_ro_cons axq_rp3c42_4 (ax_ro_cons axq_rp3c47_4 (ax_ro_cons axq_rp3c37_4 (ax_ro_cons axq_rp4_4 (ax_ro_cons axq_rp5_4 (ax_ro_cons axq_rp6_4 (ax_ro_cons axq_rp7_4 (ax_ro_cons axq_rp8a_4 (ax_ro_cons axq_rp8b_4 (ax_ro_cons axq_rp8c_4 (ax_ro_cons axq_rp8d_4 (ax_ro_cons axq_sp1_4 (ax_ro_cons axq_sp2c42_4 (ax_ro_cons axq_sp3c42_4 (ax_ro_cons axq_sp2c47_4 (ax_ro_cons axq_sp3c47_4 (ax_ro_cons axq_sp2c37_4 (ax_ro_cons axq_sp3c37_4 (ax_ro_cons axq_spl_4 (ax_ro_nil)))))))))))))))))))))
/-- TurnNet$Reader.readProduct: 103 steps -/
theorem axk_315_0 : ax_chk ax_wC rx_P (rx_DF, rx_FK) ax_APC (rx_n rxm_315) axm_315 (([42, 16], (5, [(1, 0, 0), (1, 0, 0), (1, 0, 0), (1, 0, 0), (1, 0, 0)], [], [], [(31, []), (30, [3]), (50, [3, 7]), (78, [3, 7]), (90, [3, 7, 11]), (91, [11, 16]), (46, [3, 7, 15, 19]), (41, [19]), (92, [11, 11]), (44, [15])])), [(1, 4), (1, 5), (2, 3), (2, 4), (2, 5), (2, 6), (2, 7), (2, 8), (18, 999), (19, 999)], [([0], (5, [(1, 0, 0), (1, 0, 0), (1, 0, 0), (1, 0, 0), (1, 0, 0)], [], [], [(63, [3])])), ([4], (7, [(1, 0, 0), (1, 0, 0), (1, 0, 0), (1, 0, 0), (1, 0, 0), (1, 0, 0), (1, 0, 0)], [], [], [(50, [3, 23]), (79, [3, 23]), (90, [3, 23, 11]), (95, [3, 23]), (1030, [7, 23]), (48, [3, 23, 15, 27]), (41, [27])]))]) [axu_rp1_4, axu_rp2_4, axu_rp3c42_4, axu_rp3c47_4, axu_rp3c37_4, axu_rp4_4, axu_rp5_4, axu_rp6_4, axu_rp7_4, axu_rp8a_4, axu_rp8b_4, axu_rp8c_4, axu_rp8d_4, axu_sp1_4, axu_sp2c42_4, axu_sp3c42_4, axu_sp2c47_4, axu_sp3c47_4, axu_sp2c37_4, axu_sp3c37_4, axu_spl_4] [12] 3000 1 (([((12, 1, 5, ([42, 16, 23, 2], (11, [(1, 0, 0), (1, 0, 0), (1, 0, 0), (1, 0, 0), (1, 0, 0), (0, 2147483648, 2147484448), (1, 0, 0), (1, 0, 0), (1, 0, 0), (1, 0, 0), (1, 0, 0)], [], [], [(50, [3, 27]), (79, [3, 27]), (90, [3, 27, 11]), (97, [27, 23]), (1030, [7, 27]), (48, [3, 27, 15, 31]), (41, [31]), (92, [11, 35]), (47, [3, 27, 39, 43]), (31, []), (30, [3]), (78, [3, 7]), (91, [11, 16]), (46, [3, 7, 15, 19]), (92, [11, 11]), (44, [15])]))), ())] : List ((Nat × Nat × Nat × ax_T) × ax_Tr 0)) : ax_Tr 1) = true := by decide +kernel
theorem axr_315 (hP : ∀ q ∈ rx_P, rx_QW q ∧ rx_ST rx_P (rx_DF, rx_FK) q) : ax_Row ax_wC ax_XC rx_P ax_APC rx_P (rx_DF, rx_FK) rxm_315 (axm_315, axc_315) := fun hr => ⟨ax_tabB_ok axt_315, fun hL => ax_con_cons (ax_chk_ok hP ax_XC_ok hr hL (ax_tabB_ok axt_315) axs_315_0 axk_315_0) (ax_con_nil)⟩
theorem axt_316 : ax_tabB (rx_cd rxm_316) axm_316 = true := by decide +kernel
theorem axs_316_0 : ∀ x ∈ ([axu_rq2_4, axu_rq3c43_4, axu_rq3c45_4, axu_rq5_4, axu_rq6_4, axu_rq7_4, axu_rq8a_4, axu_rq8b_4, axu_rq8c_4, axu_sq1_4, axu_sq2c43_4, axu_sq3c43_4, axu_sq2c45_4, axu_sq3c45_4, axu_sql_4, axu_s45_4] : List ax_RL), ax_RO ax_wC ax_XC x := ax_ro_cons axq_rq2_4 (ax_ro_cons axq_rq3c43_4 (ax_ro_cons axq_rq3c45_4 (ax_ro_cons axq_rq5_4 (ax_ro_cons axq_rq6_4 (ax_ro_cons axq_rq7_4 (ax_ro_cons axq_rq8a_4 (ax_ro_cons axq_rq8b_4 (ax_ro_cons axq_rq8c_4 (ax_ro_cons axq_sq1_4 (ax_ro_cons axq_sq2c43_4 (ax_ro_cons axq_sq3c43_4 (ax_ro_cons axq_sq2c45_4 (ax_ro_cons axq_sq3c45_4 (ax_ro_cons axq_sql_4 (ax_ro_cons axq_s45_4 (ax_ro_nil))))))))))))))))
/-- TurnNet$Reader.readSum: 70 steps -/
theorem axk_316_0 : ax_chk ax_wC rx_P (rx_DF, rx_FK) ax_APC (rx_n rxm_316) axm_316 (([42, 16], (5, [(1, 0, 0), (1, 0, 0), (1, 0, 0), (1, 0, 0), (1, 0, 0)], [], [], [(31, []), (30, [3]), (50, [3, 7]), (78, [3, 7]), (90, [3, 7, 11]), (91, [11, 16]), (46, [3, 7, 15, 19]), (41, [19]), (92, [11, 11]), (45, [15])])), [(1, 4), (1, 5), (2, 3), (2, 4), (2, 5), (2, 6), (2, 7), (2, 8), (18, 999), (19, 999)], [([0], (5, [(1, 0, 0), (1, 0, 0), (1, 0, 0), (1, 0, 0), (1, 0, 0)], [], [], [(63, [3])])), ([4], (7, [(1, 0, 0), (1, 0, 0), (1, 0, 0), (1, 0, 0), (1, 0, 0), (1, 0, 0), (1, 0, 0)], [], [], [(50, [3, 23]), (79, [3, 23]), (90, [3, 23, 11]), (94, [3, 23]), (1030, [7, 23]), (49, [3, 23, 15, 27]), (41, [27])]))]) [axu_rq2_4, axu_rq3c43_4, axu_rq3c45_4, axu_rq5_4, axu_rq6_4, axu_rq7_4, axu_rq8a_4, axu_rq8b_4, axu_rq8c_4, axu_sq1_4, axu_sq2c43_4, axu_sq3c43_4, axu_sq2c45_4, axu_sq3c45_4, axu_sql_4, axu_s45_4] [12] 3000 1 (([((12, 1, 5, ([42, 16, 23, 2], (10, [(1, 0, 0), (1, 0, 0), (1, 0, 0), (1, 0, 0), (0, 2147483648, 2147484448), (1, 0, 0), (1, 0, 0), (1, 0, 0), (1, 0, 0), (1, 0, 0)], [], [], [(50, [3, 27]), (79, [3, 27]), (90, [3, 27, 11]), (97, [27, 23]), (1030, [7, 27]), (95, [3, 27]), (49, [3, 27, 15, 31]), (41, [31]), (48, [3, 27, 35, 39]), (44, [35]), (31, []), (30, [3]), (78, [3, 7]), (91, [11, 16]), (46, [3, 7, 15, 19]), (92, [11, 11]), (45, [15])]))), ())] : List ((Nat × Nat × Nat × ax_T) × ax_Tr 0)) : ax_Tr 1) = true := by decide +kernel
theorem axr_316 (hP : ∀ q ∈ rx_P, rx_QW q ∧ rx_ST rx_P (rx_DF, rx_FK) q) : ax_Row ax_wC ax_XC rx_P ax_APC rx_P (rx_DF, rx_FK) rxm_316 (axm_316, axc_316) := fun hr => ⟨ax_tabB_ok axt_316, fun hL => ax_con_cons (ax_chk_ok hP ax_XC_ok hr hL (ax_tabB_ok axt_316) axs_316_0 axk_316_0) (ax_con_nil)⟩
theorem axt_317 : ax_tabB (rx_cd rxm_317) axm_317 = true := by decide +kernel
theorem axs_317_0 : ∀ x ∈ ([axu_ru1_3, axu_ru2_3, axu_ru3_3, axu_ru3c2_3, axu_ru3c3_3, axu_ru3c4_3, axu_ru3c5_3, axu_ru3c40_3, axu_ru4c1_3, axu_ru6c1_3, axu_ru4c2_3, axu_ru6c2_3, axu_ru4c3_3, axu_ru6c3_3, axu_ru4c4_3, axu_ru6c4_3, axu_ru4c5_3, axu_ru6c5_3, axu_ru4c40_3, axu_ru6c40_3, axu_rut1_3, axu_rut2_3, axu_rut3_3, axu_ru7_3, axu_su1_3, axu_sv1_3, axu_sl1_3, axu_su2_3, axu_sv2_3, axu_sl2_3, axu_su3_3, axu_sv3_3, axu_sl3_3, axu_su4_3, axu_sv4_3, axu_sl4_3, axu_su40_3, axu_su5_3, axu_sl5_3, axu_sv5_3] : List ax_RL), ax_RO ax_wC ax_XC x := ax_ro_cons axq_ru1_3 (ax_ro_cons axq_ru2_3 (ax_ro_cons axq_ru3_3 (ax_ro_cons axq_ru3c2_3 (ax_ro_cons axq_ru3c3_3 (ax_ro_cons axq_ru3c4_3 (ax_ro_cons axq_ru3c5_3 (ax_ro_cons axq_ru3c40_3 (ax_ro_cons axq_ru4c1_3 (ax_ro_cons axq_ru6c1_3 (ax_ro_cons axq_ru4c2_3 (ax_ro_cons axq_ru6c2_3 (ax_ro_cons axq_ru4c3_3 (ax_ro_cons axq_ru6c3_3 (ax_ro_cons axq_ru4c4_3 (ax_ro_cons axq_ru6c4_3 (ax_ro_cons axq_ru4c5_3 (ax_ro_cons axq_ru6c5_3 (ax_ro_cons axq_ru4c40_3 (ax_ro_cons axq_ru6c40_3 (ax_ro_cons axq_rut1_3 (ax_ro_cons axq_rut2_3 (ax_ro_cons axq_rut3_3 (ax_ro_cons axq_ru7_3 (ax_ro_cons axq_su1_3 (ax_ro_cons axq_sv1_3 (ax_ro_cons axq_sl1_3 (ax_ro_cons axq_su2_3 (ax_ro_cons axq_sv2_3 (ax_ro_cons axq_sl2_3 (ax_ro_cons axq_su3_3 (ax_ro_cons axq_sv3_3 (ax_ro_cons axq_sl3_3 (ax_ro_cons axq_su4_3 (ax_ro_cons axq_sv4_3 (ax_ro_cons axq_sl4_3 (ax_ro_cons axq_su40_3 (ax_ro_cons axq_su5_3 (ax_ro_cons axq_sl5_3 (ax_ro_cons axq_sv5_3 (ax_ro_nil))))))))))))))))))))))))))))))))))))))))
/-- TurnNet$Reader.readUnit: 293 steps -/
theorem axk_317_0 : ax_chk ax_wC rx_P (rx_DF, rx_FK) ax_APC (rx_n rxm_317) axm_317 (([42, 12], (5, [(1, 0, 0), (1, 0, 0), (1, 0, 0), (1, 0, 0), (1, 0, 0)], [], [], [(31, []), (30, [3]), (50, [3, 7]), (78, [3, 7]), (90, [3, 7, 11]), (91, [11, 12]), (46, [3, 7, 15, 19]), (41, [19])])), [(1, 4), (1, 5), (2, 3), (2, 4), (2, 5), (2, 6), (2, 7), (2, 8), (18, 999), (19, 999)], [([0], (5, [(1, 0, 0), (1, 0, 0), (1, 0, 0), (1, 0, 0), (1, 0, 0)], [], [], [(63, [3])])), ([4], (8, [(1, 0, 0), (1, 0, 0), (1, 0, 0), (1, 0, 0), (1, 0, 0), (1, 0, 0), (1, 0, 0), (1, 0, 0)], [], [], [(50, [3, 23]), (79, [3, 23]), (90, [3, 23, 27]), (92, [11, 27]), (1030, [7, 23]), (47, [3, 23, 15, 31]), (41, [31])]))]) [axu_ru1_3, axu_ru2_3, axu_ru3_3, axu_ru3c2_3, axu_ru3c3_3, axu_ru3c4_3, axu_ru3c5_3, axu_ru3c40_3, axu_ru4c1_3, axu_ru6c1_3, axu_ru4c2_3, axu_ru6c2_3, axu_ru4c3_3, axu_ru6c3_3, axu_ru4c4_3, axu_ru6c4_3, axu_ru4c5_3, axu_ru6c5_3, axu_ru4c40_3, axu_ru6c40_3, axu_rut1_3, axu_rut2_3, axu_rut3_3, axu_ru7_3, axu_su1_3, axu_sv1_3, axu_sl1_3, axu_su2_3, axu_sv2_3, axu_sl2_3, axu_su3_3, axu_sv3_3, axu_sl3_3, axu_su4_3, axu_sv4_3, axu_sl4_3, axu_su40_3, axu_su5_3, axu_sl5_3, axu_sv5_3] [] 3000 0 (() : ax_Tr 0) = true := by decide +kernel
theorem axr_317 (hP : ∀ q ∈ rx_P, rx_QW q ∧ rx_ST rx_P (rx_DF, rx_FK) q) : ax_Row ax_wC ax_XC rx_P ax_APC rx_P (rx_DF, rx_FK) rxm_317 (axm_317, axc_317) := fun hr => ⟨ax_tabB_ok axt_317, fun hL => ax_con_cons (ax_chk_ok hP ax_XC_ok hr hL (ax_tabB_ok axt_317) axs_317_0 axk_317_0) (ax_con_nil)⟩
theorem axt_318 : ax_tabB (rx_cd rxm_318) axm_318 = true := by decide +kernel
theorem axs_318_0 : ∀ x ∈ ([axu_rp1_3, axu_rp2_3, axu_rp3c42_3, axu_rp3c47_3, axu_rp3c37_3, axu_rp4_3, axu_rp5_3, axu_rp6_3, axu_rp7_3, axu_rp8a_3, axu_rp8b_3, axu_rp8c_3, axu_rp8d_3, axu_sp1_3, axu_sp2c42_3, axu_sp3c42_3, axu_sp2c47_3, axu_sp3c47_3, axu_sp2c37_3, axu_sp3c37_3, axu_spl_3] : List ax_RL), ax_RO ax_wC ax_XC x := ax_ro_cons axq_rp1_3 (ax_ro_cons axq_rp2_3 (ax_ro_cons axq_rp3c42_3 (ax_ro_cons axq_rp3c47_3 (ax_ro_cons axq_rp3c37_3 (ax_ro_cons axq_rp4_3 (ax_ro_cons axq_rp5_3 (ax_ro_cons axq_rp6_3 (ax_ro_cons axq_rp7_3 (ax_ro_cons axq_rp8a_3 (ax_ro_cons axq_rp8b_3 (ax_ro_cons axq_rp8c_3 (ax_ro_cons axq_rp8d_3 (ax_ro_cons axq_sp1_3 (ax_ro_cons axq_sp2c42_3 (ax_ro_cons axq_sp3c42_3 (ax_ro_cons axq_sp2c47_3 (ax_ro_cons axq_sp3c47_3 (ax_ro_cons axq_sp2c37_3 (ax_ro_cons axq_sp3c37_3 (ax_ro_cons axq_spl_3 (ax_ro_nil)))))))))))))))))))))
/-- TurnNet$Reader.readProduct: 103 steps -/
theorem axk_318_0 : ax_chk ax_wC rx_P (rx_DF, rx_FK) ax_APC (rx_n rxm_318) axm_318 (([42, 12], (5, [(1, 0, 0), (1, 0, 0), (1, 0, 0), (1, 0, 0), (1, 0, 0)], [], [], [(31, []), (30, [3]), (50, [3, 7]), (78, [3, 7]), (90, [3, 7, 11]), (91, [11, 12]), (46, [3, 7, 15, 19]), (41, [19]), (92, [11, 11]), (44, [15])])), [(1, 4), (1, 5), (2, 3), (2, 4), (2, 5), (2, 6), (2, 7), (2, 8), (18, 999), (19, 999)], [([0], (5, [(1, 0, 0), (1, 0, 0), (1, 0, 0), (1, 0, 0), (1, 0, 0)], [], [], [(63, [3])])), ([4], (7, [(1, 0, 0), (1, 0, 0), (1, 0, 0), (1, 0, 0), (1, 0, 0), (1, 0, 0), (1, 0, 0)], [], [], [(50, [3, 23]), (79, [3, 23]), (90, [3, 23, 11]), (95, [3, 23]), (1030, [7, 23]), (48, [3, 23, 15, 27]), (41, [27])]))]) [axu_rp1_3, axu_rp2_3, axu_rp3c42_3, axu_rp3c47_3, axu_rp3c37_3, axu_rp4_3, axu_rp5_3, axu_rp6_3, axu_rp7_3, axu_rp8a_3, axu_rp8b_3, axu_rp8c_3, axu_rp8d_3, axu_sp1_3, axu_sp2c42_3, axu_sp3c42_3, axu_sp2c47_3, axu_sp3c47_3, axu_sp2c37_3, axu_sp3c37_3, axu_spl_3] [12] 3000 1 (([((12, 1, 5, ([42, 12, 23, 2], (11, [(1, 0, 0), (1, 0, 0), (1, 0, 0), (1, 0, 0), (1, 0, 0), (0, 2147483648, 2147484448), (1, 0, 0), (1, 0, 0), (1, 0, 0), (1, 0, 0), (1, 0, 0)], [], [], [(50, [3, 27]), (79, [3, 27]), (90, [3, 27, 11]), (97, [27, 23]), (1030, [7, 27]), (48, [3, 27, 15, 31]), (41, [31]), (92, [11, 35]), (47, [3, 27, 39, 43]), (31, []), (30, [3]), (78, [3, 7]), (91, [11, 12]), (46, [3, 7, 15, 19]), (92, [11, 11]), (44, [15])]))), ())] : List ((Nat × Nat × Nat × ax_T) × ax_Tr 0)) : ax_Tr 1) = true := by decide +kernel
theorem axr_318 (hP : ∀ q ∈ rx_P, rx_QW q ∧ rx_ST rx_P (rx_DF, rx_FK) q) : ax_Row ax_wC ax_XC rx_P ax_APC rx_P (rx_DF, rx_FK) rxm_318 (axm_318, axc_318) := fun hr => ⟨ax_tabB_ok axt_318, fun hL => ax_con_cons (ax_chk_ok hP ax_XC_ok hr hL (ax_tabB_ok axt_318) axs_318_0 axk_318_0) (ax_con_nil)⟩
theorem axt_319 : ax_tabB (rx_cd rxm_319) axm_319 = true := by decide +kernel
theorem axs_319_0 : ∀ x ∈ ([axu_rq2_3, axu_rq3c43_3, axu_rq3c45_3, axu_rq5_3, axu_rq6_3, axu_rq7_3, axu_rq8a_3, axu_rq8b_3, axu_rq8c_3, axu_sq1_3, axu_sq2c43_3, axu_sq3c43_3, axu_sq2c45_3, axu_sq3c45_3, axu_sql_3, axu_s45_3] : List ax_RL), ax_RO ax_wC ax_XC x := ax_ro_cons axq_rq2_3 (ax_ro_cons axq_rq3c43_3 (ax_ro_cons axq_rq3c45_3 (ax_ro_cons axq_rq5_3 (ax_ro_cons axq_rq6_3 (ax_ro_cons axq_rq7_3 (ax_ro_cons axq_rq8a_3 (ax_ro_cons axq_rq8b_3 (ax_ro_cons axq_rq8c_3 (ax_ro_cons axq_sq1_3 (ax_ro_cons axq_sq2c43_3 (ax_ro_cons axq_sq3c43_3 (ax_ro_cons axq_sq2c45_3 (ax_ro_cons axq_sq3c45_3 (ax_ro_cons axq_sql_3 (ax_ro_cons axq_s45_3 (ax_ro_nil))))))))))))))))
/-- TurnNet$Reader.readSum: 70 steps -/
theorem axk_319_0 : ax_chk ax_wC rx_P (rx_DF, rx_FK) ax_APC (rx_n rxm_319) axm_319 (([42, 12], (5, [(1, 0, 0), (1, 0, 0), (1, 0, 0), (1, 0, 0), (1, 0, 0)], [], [], [(31, []), (30, [3]), (50, [3, 7]), (78, [3, 7]), (90, [3, 7, 11]), (91, [11, 12]), (46, [3, 7, 15, 19]), (41, [19]), (92, [11, 11]), (45, [15])])), [(1, 4), (1, 5), (2, 3), (2, 4), (2, 5), (2, 6), (2, 7), (2, 8), (18, 999), (19, 999)], [([0], (5, [(1, 0, 0), (1, 0, 0), (1, 0, 0), (1, 0, 0), (1, 0, 0)], [], [], [(63, [3])])), ([4], (7, [(1, 0, 0), (1, 0, 0), (1, 0, 0), (1, 0, 0), (1, 0, 0), (1, 0, 0), (1, 0, 0)], [], [], [(50, [3, 23]), (79, [3, 23]), (90, [3, 23, 11]), (94, [3, 23]), (1030, [7, 23]), (49, [3, 23, 15, 27]), (41, [27])]))]) [axu_rq2_3, axu_rq3c43_3, axu_rq3c45_3, axu_rq5_3, axu_rq6_3, axu_rq7_3, axu_rq8a_3, axu_rq8b_3, axu_rq8c_3, axu_sq1_3, axu_sq2c43_3, axu_sq3c43_3, axu_sq2c45_3, axu_sq3c45_3, axu_sql_3, axu_s45_3] [12] 3000 1 (([((12, 1, 5, ([42, 12, 23, 2], (10, [(1, 0, 0), (1, 0, 0), (1, 0, 0), (1, 0, 0), (0, 2147483648, 2147484448), (1, 0, 0), (1, 0, 0), (1, 0, 0), (1, 0, 0), (1, 0, 0)], [], [], [(50, [3, 27]), (79, [3, 27]), (90, [3, 27, 11]), (97, [27, 23]), (1030, [7, 27]), (95, [3, 27]), (49, [3, 27, 15, 31]), (41, [31]), (48, [3, 27, 35, 39]), (44, [35]), (31, []), (30, [3]), (78, [3, 7]), (91, [11, 12]), (46, [3, 7, 15, 19]), (92, [11, 11]), (45, [15])]))), ())] : List ((Nat × Nat × Nat × ax_T) × ax_Tr 0)) : ax_Tr 1) = true := by decide +kernel
theorem axr_319 (hP : ∀ q ∈ rx_P, rx_QW q ∧ rx_ST rx_P (rx_DF, rx_FK) q) : ax_Row ax_wC ax_XC rx_P ax_APC rx_P (rx_DF, rx_FK) rxm_319 (axm_319, axc_319) := fun hr => ⟨ax_tabB_ok axt_319, fun hL => ax_con_cons (ax_chk_ok hP ax_XC_ok hr hL (ax_tabB_ok axt_319) axs_319_0 axk_319_0) (ax_con_nil)⟩
theorem axt_320 : ax_tabB (rx_cd rxm_320) axm_320 = true := by decide +kernel
theorem axs_320_0 : ∀ x ∈ ([axu_ru1_2, axu_ru2_2, axu_ru3_2, axu_ru3c2_2, axu_ru3c3_2, axu_ru3c4_2, axu_ru3c5_2, axu_ru3c40_2, axu_ru4c1_2, axu_ru6c1_2, axu_ru4c2_2, axu_ru6c2_2, axu_ru4c3_2, axu_ru6c3_2, axu_ru4c4_2, axu_ru6c4_2, axu_ru4c5_2, axu_ru6c5_2, axu_ru4c40_2, axu_ru6c40_2, axu_rut1_2, axu_rut2_2, axu_rut3_2, axu_ru7_2, axu_su1_2, axu_sv1_2, axu_sl1_2, axu_su2_2, axu_sv2_2, axu_sl2_2, axu_su3_2, axu_sv3_2, axu_sl3_2, axu_su4_2, axu_sv4_2, axu_sl4_2, axu_su40_2, axu_su5_2, axu_sl5_2, axu_sv5_2] : List ax_RL), ax_RO ax_wC ax_XC x := ax_ro_cons axq_ru1_2 (ax_ro_cons axq_ru2_2 (ax_ro_cons axq_ru3_2 (ax_ro_cons axq_ru3c2_2 (ax_ro_cons axq_ru3c3_2 (ax_ro_cons axq_ru3c4_2 (ax_ro_cons axq_ru3c5_2 (ax_ro_cons axq_ru3c40_2 (ax_ro_cons axq_ru4c1_2 (ax_ro_cons axq_ru6c1_2 (ax_ro_cons axq_ru4c2_2 (ax_ro_cons axq_ru6c2_2 (ax_ro_cons axq_ru4c3_2 (ax_ro_cons axq_ru6c3_2 (ax_ro_cons axq_ru4c4_2 (ax_ro_cons axq_ru6c4_2 (ax_ro_cons axq_ru4c5_2 (ax_ro_cons axq_ru6c5_2 (ax_ro_cons axq_ru4c40_2 (ax_ro_cons axq_ru6c40_2 (ax_ro_cons axq_rut1_2 (ax_ro_cons axq_rut2_2 (ax_ro_cons axq_rut3_2 (ax_ro_cons axq_ru7_2 (ax_ro_cons axq_su1_2 (ax_ro_cons axq_sv1_2 (ax_ro_cons axq_sl1_2 (ax_ro_cons axq_su2_2 (ax_ro_cons axq_sv2_2 (ax_ro_cons axq_sl2_2 (ax_ro_cons axq_su3_2 (ax_ro_cons axq_sv3_2 (ax_ro_cons axq_sl3_2 (ax_ro_cons axq_su4_2 (ax_ro_cons axq_sv4_2 (ax_ro_cons axq_sl4_2 (ax_ro_cons axq_su40_2 (ax_ro_cons axq_su5_2 (ax_ro_cons axq_sl5_2 (ax_ro_cons axq_sv5_2 (ax_ro_nil))))))))))))))))))))))))))))))))))))))))
/-- TurnNet$Reader.readUnit: 293 steps -/
theorem axk_320_0 : ax_chk ax_wC rx_P (rx_DF, rx_FK) ax_APC (rx_n rxm_320) axm_320 (([42, 8], (5, [(1, 0, 0), (1, 0, 0), (1, 0, 0), (1, 0, 0), (1, 0, 0)], [], [], [(31, []), (30, [3]), (50, [3, 7]), (78, [3, 7]), (90, [3, 7, 11]), (91, [11, 8]), (46, [3, 7, 15, 19]), (41, [19])])), [(1, 4), (1, 5), (2, 3), (2, 4), (2, 5), (2, 6), (2, 7), (2, 8), (18, 999), (19, 999)], [([0], (5, [(1, 0, 0), (1, 0, 0), (1, 0, 0), (1, 0, 0), (1, 0, 0)], [], [], [(63, [3])])), ([4], (8, [(1, 0, 0), (1, 0, 0), (1, 0, 0), (1, 0, 0), (1, 0, 0), (1, 0, 0), (1, 0, 0), (1, 0, 0)], [], [], [(50, [3, 23]), (79, [3, 23]), (90, [3, 23, 27]), (92, [11, 27]), (1030, [7, 23]), (47, [3, 23, 15, 31]), (41, [31])]))]) [axu_ru1_2, axu_ru2_2, axu_ru3_2, axu_ru3c2_2, axu_ru3c3_2, axu_ru3c4_2, axu_ru3c5_2, axu_ru3c40_2, axu_ru4c1_2, axu_ru6c1_2, axu_ru4c2_2, axu_ru6c2_2, axu_ru4c3_2, axu_ru6c3_2, axu_ru4c4_2, axu_ru6c4_2, axu_ru4c5_2, axu_ru6c5_2, axu_ru4c40_2, axu_ru6c40_2, axu_rut1_2, axu_rut2_2, axu_rut3_2, axu_ru7_2, axu_su1_2, axu_sv1_2, axu_sl1_2, axu_su2_2, axu_sv2_2, axu_sl2_2, axu_su3_2, axu_sv3_2, axu_sl3_2, axu_su4_2, axu_sv4_2, axu_sl4_2, axu_su40_2, axu_su5_2, axu_sl5_2, axu_sv5_2] [] 3000 0 (() : ax_Tr 0) = true := by decide +kernel
theorem axr_320 (hP : ∀ q ∈ rx_P, rx_QW q ∧ rx_ST rx_P (rx_DF, rx_FK) q) : ax_Row ax_wC ax_XC rx_P ax_APC rx_P (rx_DF, rx_FK) rxm_320 (axm_320, axc_320) := fun hr => ⟨ax_tabB_ok axt_320, fun hL => ax_con_cons (ax_chk_ok hP ax_XC_ok hr hL (ax_tabB_ok axt_320) axs_320_0 axk_320_0) (ax_con_nil)⟩
theorem axt_321 : ax_tabB (rx_cd rxm_321) axm_321 = true := by decide +kernel
theorem axs_321_0 : ∀ x ∈ ([axu_rp1_2, axu_rp2_2, axu_rp3c42_2, axu_rp3c47_2, axu_rp3c37_2, axu_rp4_2, axu_rp5_2, axu_rp6_2, axu_rp7_2, axu_rp8a_2, axu_rp8b_2, axu_rp8c_2, axu_rp8d_2, axu_sp1_2, axu_sp2c42_2, axu_sp3c42_2, axu_sp2c47_2, axu_sp3c47_2, axu_sp2c37_2, axu_sp3c37_2, axu_spl_2] : List ax_RL), ax_RO ax_wC ax_XC x := ax_ro_cons axq_rp1_2 (ax_ro_cons axq_rp2_2 (ax_ro_cons axq_rp3c42_2 (ax_ro_cons axq_rp3c47_2 (ax_ro_cons axq_rp3c37_2 (ax_ro_cons axq_rp4_2 (ax_ro_cons axq_rp5_2 (ax_ro_cons axq_rp6_2 (ax_ro_cons axq_rp7_2 (ax_ro_cons axq_rp8a_2 (ax_ro_cons axq_rp8b_2 (ax_ro_cons axq_rp8c_2 (ax_ro_cons axq_rp8d_2 (ax_ro_cons axq_sp1_2 (ax_ro_cons axq_sp2c42_2 (ax_ro_cons axq_sp3c42_2 (ax_ro_cons axq_sp2c47_2 (ax_ro_cons axq_sp3c47_2 (ax_ro_cons axq_sp2c37_2 (ax_ro_cons axq_sp3c37_2 (ax_ro_cons axq_spl_2 (ax_ro_nil)))))))))))))))))))))
/-- TurnNet$Reader.readProduct: 103 steps -/
theorem axk_321_0 : ax_chk ax_wC rx_P (rx_DF, rx_FK) ax_APC (rx_n rxm_321) axm_321 (([42, 8], (5, [(1, 0, 0), (1, 0, 0), (1, 0, 0), (1, 0, 0), (1, 0, 0)], [], [], [(31, []), (30, [3]), (50, [3, 7]), (78, [3, 7]), (90, [3, 7, 11]), (91, [11, 8]), (46, [3, 7, 15, 19]), (41, [19]), (92, [11, 11]), (44, [15])])), [(1, 4), (1, 5), (2, 3), (2, 4), (2, 5), (2, 6), (2, 7), (2, 8), (18, 999), (19, 999)], [([0], (5, [(1, 0, 0), (1, 0, 0), (1, 0, 0), (1, 0, 0), (1, 0, 0)], [], [], [(63, [3])])), ([4], (7, [(1, 0, 0), (1, 0, 0), (1, 0, 0), (1, 0, 0), (1, 0, 0), (1, 0, 0), (1, 0, 0)], [], [], [(50, [3, 23]), (79, [3, 23]), (90, [3, 23, 11]), (95, [3, 23]), (1030, [7, 23]), (48, [3, 23, 15, 27]), (41, [27])]))]) [axu_rp1_2, axu_rp2_2, axu_rp3c42_2, axu_rp3c47_2, axu_rp3c37_2, axu_rp4_2, axu_rp5_2, axu_rp6_2, axu_rp7_2, axu_rp8a_2, axu_rp8b_2, axu_rp8c_2, axu_rp8d_2, axu_sp1_2, axu_sp2c42_2, axu_sp3c42_2, axu_sp2c47_2, axu_sp3c47_2, axu_sp2c37_2, axu_sp3c37_2, axu_spl_2] [12] 3000 1 (([((12, 1, 5, ([42, 8, 23, 2], (11, [(1, 0, 0), (1, 0, 0), (1, 0, 0), (1, 0, 0), (1, 0, 0), (0, 2147483648, 2147484448), (1, 0, 0), (1, 0, 0), (1, 0, 0), (1, 0, 0), (1, 0, 0)], [], [], [(50, [3, 27]), (79, [3, 27]), (90, [3, 27, 11]), (97, [27, 23]), (1030, [7, 27]), (48, [3, 27, 15, 31]), (41, [31]), (92, [11, 35]), (47, [3, 27, 39, 43]), (31, []), (30, [3]), (78, [3, 7]), (91, [11, 8]), (46, [3, 7, 15, 19]), (92, [11, 11]), (44, [15])]))), ())] : List ((Nat × Nat × Nat × ax_T) × ax_Tr 0)) : ax_Tr 1) = true := by decide +kernel
theorem axr_321 (hP : ∀ q ∈ rx_P, rx_QW q ∧ rx_ST rx_P (rx_DF, rx_FK) q) : ax_Row ax_wC ax_XC rx_P ax_APC rx_P (rx_DF, rx_FK) rxm_321 (axm_321, axc_321) := fun hr => ⟨ax_tabB_ok axt_321, fun hL => ax_con_cons (ax_chk_ok hP ax_XC_ok hr hL (ax_tabB_ok axt_321) axs_321_0 axk_321_0) (ax_con_nil)⟩
theorem axt_322 : ax_tabB (rx_cd rxm_322) axm_322 = true := by decide +kernel
theorem axs_322_0 : ∀ x ∈ ([axu_rq2_2, axu_rq3c43_2, axu_rq3c45_2, axu_rq5_2, axu_rq6_2, axu_rq7_2, axu_rq8a_2, axu_rq8b_2, axu_rq8c_2, axu_sq1_2, axu_sq2c43_2, axu_sq3c43_2, axu_sq2c45_2, axu_sq3c45_2, axu_sql_2, axu_s45_2] : List ax_RL), ax_RO ax_wC ax_XC x := ax_ro_cons axq_rq2_2 (ax_ro_cons axq_rq3c43_2 (ax_ro_cons axq_rq3c45_2 (ax_ro_cons axq_rq5_2 (ax_ro_cons axq_rq6_2 (ax_ro_cons axq_rq7_2 (ax_ro_cons axq_rq8a_2 (ax_ro_cons axq_rq8b_2 (ax_ro_cons axq_rq8c_2 (ax_ro_cons axq_sq1_2 (ax_ro_cons axq_sq2c43_2 (ax_ro_cons axq_sq3c43_2 (ax_ro_cons axq_sq2c45_2 (ax_ro_cons axq_sq3c45_2 (ax_ro_cons axq_sql_2 (ax_ro_cons axq_s45_2 (ax_ro_nil))))))))))))))))
/-- TurnNet$Reader.readSum: 70 steps -/
theorem axk_322_0 : ax_chk ax_wC rx_P (rx_DF, rx_FK) ax_APC (rx_n rxm_322) axm_322 (([42, 8], (5, [(1, 0, 0), (1, 0, 0), (1, 0, 0), (1, 0, 0), (1, 0, 0)], [], [], [(31, []), (30, [3]), (50, [3, 7]), (78, [3, 7]), (90, [3, 7, 11]), (91, [11, 8]), (46, [3, 7, 15, 19]), (41, [19]), (92, [11, 11]), (45, [15])])), [(1, 4), (1, 5), (2, 3), (2, 4), (2, 5), (2, 6), (2, 7), (2, 8), (18, 999), (19, 999)], [([0], (5, [(1, 0, 0), (1, 0, 0), (1, 0, 0), (1, 0, 0), (1, 0, 0)], [], [], [(63, [3])])), ([4], (7, [(1, 0, 0), (1, 0, 0), (1, 0, 0), (1, 0, 0), (1, 0, 0), (1, 0, 0), (1, 0, 0)], [], [], [(50, [3, 23]), (79, [3, 23]), (90, [3, 23, 11]), (94, [3, 23]), (1030, [7, 23]), (49, [3, 23, 15, 27]), (41, [27])]))]) [axu_rq2_2, axu_rq3c43_2, axu_rq3c45_2, axu_rq5_2, axu_rq6_2, axu_rq7_2, axu_rq8a_2, axu_rq8b_2, axu_rq8c_2, axu_sq1_2, axu_sq2c43_2, axu_sq3c43_2, axu_sq2c45_2, axu_sq3c45_2, axu_sql_2, axu_s45_2] [12] 3000 1 (([((12, 1, 5, ([42, 8, 23, 2], (10, [(1, 0, 0), (1, 0, 0), (1, 0, 0), (1, 0, 0), (0, 2147483648, 2147484448), (1, 0, 0), (1, 0, 0), (1, 0, 0), (1, 0, 0), (1, 0, 0)], [], [], [(50, [3, 27]), (79, [3, 27]), (90, [3, 27, 11]), (97, [27, 23]), (1030, [7, 27]), (95, [3, 27]), (49, [3, 27, 15, 31]), (41, [31]), (48, [3, 27, 35, 39]), (44, [35]), (31, []), (30, [3]), (78, [3, 7]), (91, [11, 8]), (46, [3, 7, 15, 19]), (92, [11, 11]), (45, [15])]))), ())] : List ((Nat × Nat × Nat × ax_T) × ax_Tr 0)) : ax_Tr 1) = true := by decide +kernel
theorem axr_322 (hP : ∀ q ∈ rx_P, rx_QW q ∧ rx_ST rx_P (rx_DF, rx_FK) q) : ax_Row ax_wC ax_XC rx_P ax_APC rx_P (rx_DF, rx_FK) rxm_322 (axm_322, axc_322) := fun hr => ⟨ax_tabB_ok axt_322, fun hL => ax_con_cons (ax_chk_ok hP ax_XC_ok hr hL (ax_tabB_ok axt_322) axs_322_0 axk_322_0) (ax_con_nil)⟩
theorem axt_323 : ax_tabB (rx_cd rxm_323) axm_323 = true := by decide +kernel
theorem axs_323_0 : ∀ x ∈ ([axu_ru1_1, axu_ru2_1, axu_ru3_1, axu_ru3c2_1, axu_ru3c3_1, axu_ru3c4_1, axu_ru3c5_1, axu_ru3c40_1, axu_ru4c1_1, axu_ru6c1_1, axu_ru4c2_1, axu_ru6c2_1, axu_ru4c3_1, axu_ru6c3_1, axu_ru4c4_1, axu_ru6c4_1, axu_ru4c5_1, axu_ru6c5_1, axu_ru4c40_1, axu_ru6c40_1, axu_rut1_1, axu_rut2_1, axu_rut3_1, axu_ru7_1, axu_su1_1, axu_sv1_1, axu_sl1_1, axu_su2_1, axu_sv2_1, axu_sl2_1, axu_su3_1, axu_sv3_1, axu_sl3_1, axu_su4_1, axu_sv4_1, axu_sl4_1, axu_su40_1, axu_su5_1, axu_sl5_1, axu_sv5_1] : List ax_RL), ax_RO ax_wC ax_XC x := ax_ro_cons axq_ru1_1 (ax_ro_cons axq_ru2_1 (ax_ro_cons axq_ru3_1 (ax_ro_cons axq_ru3c2_1 (ax_ro_cons axq_ru3c3_1 (ax_ro_cons axq_ru3c4_1 (ax_ro_cons axq_ru3c5_1 (ax_ro_cons axq_ru3c40_1 (ax_ro_cons axq_ru4c1_1 (ax_ro_cons axq_ru6c1_1 (ax_ro_cons axq_ru4c2_1 (ax_ro_cons axq_ru6c2_1 (ax_ro_cons axq_ru4c3_1 (ax_ro_cons axq_ru6c3_1 (ax_ro_cons axq_ru4c4_1 (ax_ro_cons axq_ru6c4_1 (ax_ro_cons axq_ru4c5_1 (ax_ro_cons axq_ru6c5_1 (ax_ro_cons axq_ru4c40_1 (ax_ro_cons axq_ru6c40_1 (ax_ro_cons axq_rut1_1 (ax_ro_cons axq_rut2_1 (ax_ro_cons axq_rut3_1 (ax_ro_cons axq_ru7_1 (ax_ro_cons axq_su1_1 (ax_ro_cons axq_sv1_1 (ax_ro_cons axq_sl1_1 (ax_ro_cons axq_su2_1 (ax_ro_cons axq_sv2_1 (ax_ro_cons axq_sl2_1 (ax_ro_cons axq_su3_1 (ax_ro_cons axq_sv3_1 (ax_ro_cons axq_sl3_1 (ax_ro_cons axq_su4_1 (ax_ro_cons axq_sv4_1 (ax_ro_cons axq_sl4_1 (ax_ro_cons axq_su40_1 (ax_ro_cons axq_su5_1 (ax_ro_cons axq_sl5_1 (ax_ro_cons axq_sv5_1 (ax_ro_nil))))))))))))))))))))))))))))))))))))))))
/-- TurnNet$Reader.readUnit: 293 steps -/
theorem axk_323_0 : ax_chk ax_wC rx_P (rx_DF, rx_FK) ax_APC (rx_n rxm_323) axm_323 (([42, 4], (5, [(1, 0, 0), (1, 0, 0), (1, 0, 0), (1, 0, 0), (1, 0, 0)], [], [], [(31, []), (30, [3]), (50, [3, 7]), (78, [3, 7]), (90, [3, 7, 11]), (91, [11, 4]), (46, [3, 7, 15, 19]), (41, [19])])), [(1, 4), (1, 5), (2, 3), (2, 4), (2, 5), (2, 6), (2, 7), (2, 8), (18, 999), (19, 999)], [([0], (5, [(1, 0, 0), (1, 0, 0), (1, 0, 0), (1, 0, 0), (1, 0, 0)], [], [], [(63, [3])])), ([4], (8, [(1, 0, 0), (1, 0, 0), (1, 0, 0), (1, 0, 0), (1, 0, 0), (1, 0, 0), (1, 0, 0), (1, 0, 0)], [], [], [(50, [3, 23]), (79, [3, 23]), (90, [3, 23, 27]), (92, [11, 27]), (1030, [7, 23]), (47, [3, 23, 15, 31]), (41, [31])]))]) [axu_ru1_1, axu_ru2_1, axu_ru3_1, axu_ru3c2_1, axu_ru3c3_1, axu_ru3c4_1, axu_ru3c5_1, axu_ru3c40_1, axu_ru4c1_1, axu_ru6c1_1, axu_ru4c2_1, axu_ru6c2_1, axu_ru4c3_1, axu_ru6c3_1, axu_ru4c4_1, axu_ru6c4_1, axu_ru4c5_1, axu_ru6c5_1, axu_ru4c40_1, axu_ru6c40_1, axu_rut1_1, axu_rut2_1, axu_rut3_1, axu_ru7_1, axu_su1_1, axu_sv1_1, axu_sl1_1, axu_su2_1, axu_sv2_1, axu_sl2_1, axu_su3_1, axu_sv3_1, axu_sl3_1, axu_su4_1, axu_sv4_1, axu_sl4_1, axu_su40_1, axu_su5_1, axu_sl5_1, axu_sv5_1] [] 3000 0 (() : ax_Tr 0) = true := by decide +kernel
theorem axr_323 (hP : ∀ q ∈ rx_P, rx_QW q ∧ rx_ST rx_P (rx_DF, rx_FK) q) : ax_Row ax_wC ax_XC rx_P ax_APC rx_P (rx_DF, rx_FK) rxm_323 (axm_323, axc_323) := fun hr => ⟨ax_tabB_ok axt_323, fun hL => ax_con_cons (ax_chk_ok hP ax_XC_ok hr hL (ax_tabB_ok axt_323) axs_323_0 axk_323_0) (ax_con_nil)⟩
theorem axt_324 : ax_tabB (rx_cd rxm_324) axm_324 = true := by decide +kernel
theorem axs_324_0 : ∀ x ∈ ([axu_rp1_1, axu_rp2_1, axu_rp3c42_1, axu_rp3c47_1, axu_rp3c37_1, axu_rp4_1, axu_rp5_1, axu_rp6_1, axu_rp7_1, axu_rp8a_1, axu_rp8b_1, axu_rp8c_1, axu_rp8d_1, axu_sp1_1, axu_sp2c42_1, axu_sp3c42_1, axu_sp2c47_1, axu_sp3c47_1, axu_sp2c37_1, axu_sp3c37_1, axu_spl_1] : List ax_RL), ax_RO ax_wC ax_XC x := ax_ro_cons axq_rp1_1 (ax_ro_cons axq_rp2_1 (ax_ro_cons axq_rp3c42_1 (ax_ro_cons axq_rp3c47_1 (ax_ro_cons axq_rp3c37_1 (ax_ro_cons axq_rp4_1 (ax_ro_cons axq_rp5_1 (ax_ro_cons axq_rp6_1 (ax_ro_cons axq_rp7_1 (ax_ro_cons axq_rp8a_1 (ax_ro_cons axq_rp8b_1 (ax_ro_cons axq_rp8c_1 (ax_ro_cons axq_rp8d_1 (ax_ro_cons axq_sp1_1 (ax_ro_cons axq_sp2c42_1 (ax_ro_cons axq_sp3c42_1 (ax_ro_cons axq_sp2c47_1 (ax_ro_cons axq_sp3c47_1 (ax_ro_cons axq_sp2c37_1 (ax_ro_cons axq_sp3c37_1 (ax_ro_cons axq_spl_1 (ax_ro_nil)))))))))))))))))))))
/-- TurnNet$Reader.readProduct: 103 steps -/
theorem axk_324_0 : ax_chk ax_wC rx_P (rx_DF, rx_FK) ax_APC (rx_n rxm_324) axm_324 (([42, 4], (5, [(1, 0, 0), (1, 0, 0), (1, 0, 0), (1, 0, 0), (1, 0, 0)], [], [], [(31, []), (30, [3]), (50, [3, 7]), (78, [3, 7]), (90, [3, 7, 11]), (91, [11, 4]), (46, [3, 7, 15, 19]), (41, [19]), (92, [11, 11]), (44, [15])])), [(1, 4), (1, 5), (2, 3), (2, 4), (2, 5), (2, 6), (2, 7), (2, 8), (18, 999), (19, 999)], [([0], (5, [(1, 0, 0), (1, 0, 0), (1, 0, 0), (1, 0, 0), (1, 0, 0)], [], [], [(63, [3])])), ([4], (7, [(1, 0, 0), (1, 0, 0), (1, 0, 0), (1, 0, 0), (1, 0, 0), (1, 0, 0), (1, 0, 0)], [], [], [(50, [3, 23]), (79, [3, 23]), (90, [3, 23, 11]), (95, [3, 23]), (1030, [7, 23]), (48, [3, 23, 15, 27]), (41, [27])]))]) [axu_rp1_1, axu_rp2_1, axu_rp3c42_1, axu_rp3c47_1, axu_rp3c37_1, axu_rp4_1, axu_rp5_1, axu_rp6_1, axu_rp7_1, axu_rp8a_1, axu_rp8b_1, axu_rp8c_1, axu_rp8d_1, axu_sp1_1, axu_sp2c42_1, axu_sp3c42_1, axu_sp2c47_1, axu_sp3c47_1, axu_sp2c37_1, axu_sp3c37_1, axu_spl_1] [12] 3000 1 (([((12, 1, 5, ([42, 4, 23, 2], (11, [(1, 0, 0), (1, 0, 0), (1, 0, 0), (1, 0, 0), (1, 0, 0), (0, 2147483648, 2147484448), (1, 0, 0), (1, 0, 0), (1, 0, 0), (1, 0, 0), (1, 0, 0)], [], [], [(50, [3, 27]), (79, [3, 27]), (90, [3, 27, 11]), (97, [27, 23]), (1030, [7, 27]), (48, [3, 27, 15, 31]), (41, [31]), (92, [11, 35]), (47, [3, 27, 39, 43]), (31, []), (30, [3]), (78, [3, 7]), (91, [11, 4]), (46, [3, 7, 15, 19]), (92, [11, 11]), (44, [15])]))), ())] : List ((Nat × Nat × Nat × ax_T) × ax_Tr 0)) : ax_Tr 1) = true := by decide +kernel
theorem axr_324 (hP : ∀ q ∈ rx_P, rx_QW q ∧ rx_ST rx_P (rx_DF, rx_FK) q) : ax_Row ax_wC ax_XC rx_P ax_APC rx_P (rx_DF, rx_FK) rxm_324 (axm_324, axc_324) := fun hr => ⟨ax_tabB_ok axt_324, fun hL => ax_con_cons (ax_chk_ok hP ax_XC_ok hr hL (ax_tabB_ok axt_324) axs_324_0 axk_324_0) (ax_con_nil)⟩
theorem axt_325 : ax_tabB (rx_cd rxm_325) axm_325 = true := by decide +kernel
theorem axs_325_0 : ∀ x ∈ ([axu_rq2_1, axu_rq3c43_1, axu_rq3c45_1, axu_rq5_1, axu_rq6_1, axu_rq7_1, axu_rq8a_1, axu_rq8b_1, axu_rq8c_1, axu_sq1_1, axu_sq2c43_1, axu_sq3c43_1, axu_sq2c45_1, axu_sq3c45_1, axu_sql_1, axu_s45_1] : List ax_RL), ax_RO ax_wC ax_XC x := ax_ro_cons axq_rq2_1 (ax_ro_cons axq_rq3c43_1 (ax_ro_cons axq_rq3c45_1 (ax_ro_cons axq_rq5_1 (ax_ro_cons axq_rq6_1 (ax_ro_cons axq_rq7_1 (ax_ro_cons axq_rq8a_1 (ax_ro_cons axq_rq8b_1 (ax_ro_cons axq_rq8c_1 (ax_ro_cons axq_sq1_1 (ax_ro_cons axq_sq2c43_1 (ax_ro_cons axq_sq3c43_1 (ax_ro_cons axq_sq2c45_1 (ax_ro_cons axq_sq3c45_1 (ax_ro_cons axq_sql_1 (ax_ro_cons axq_s45_1 (ax_ro_nil))))))))))))))))
/-- TurnNet$Reader.readSum: 70 steps -/
theorem axk_325_0 : ax_chk ax_wC rx_P (rx_DF, rx_FK) ax_APC (rx_n rxm_325) axm_325 (([42, 4], (5, [(1, 0, 0), (1, 0, 0), (1, 0, 0), (1, 0, 0), (1, 0, 0)], [], [], [(31, []), (30, [3]), (50, [3, 7]), (78, [3, 7]), (90, [3, 7, 11]), (91, [11, 4]), (46, [3, 7, 15, 19]), (41, [19]), (92, [11, 11]), (45, [15])])), [(1, 4), (1, 5), (2, 3), (2, 4), (2, 5), (2, 6), (2, 7), (2, 8), (18, 999), (19, 999)], [([0], (5, [(1, 0, 0), (1, 0, 0), (1, 0, 0), (1, 0, 0), (1, 0, 0)], [], [], [(63, [3])])), ([4], (7, [(1, 0, 0), (1, 0, 0), (1, 0, 0), (1, 0, 0), (1, 0, 0), (1, 0, 0), (1, 0, 0)], [], [], [(50, [3, 23]), (79, [3, 23]), (90, [3, 23, 11]), (94, [3, 23]), (1030, [7, 23]), (49, [3, 23, 15, 27]), (41, [27])]))]) [axu_rq2_1, axu_rq3c43_1, axu_rq3c45_1, axu_rq5_1, axu_rq6_1, axu_rq7_1, axu_rq8a_1, axu_rq8b_1, axu_rq8c_1, axu_sq1_1, axu_sq2c43_1, axu_sq3c43_1, axu_sq2c45_1, axu_sq3c45_1, axu_sql_1, axu_s45_1] [12] 3000 1 (([((12, 1, 5, ([42, 4, 23, 2], (10, [(1, 0, 0), (1, 0, 0), (1, 0, 0), (1, 0, 0), (0, 2147483648, 2147484448), (1, 0, 0), (1, 0, 0), (1, 0, 0), (1, 0, 0), (1, 0, 0)], [], [], [(50, [3, 27]), (79, [3, 27]), (90, [3, 27, 11]), (97, [27, 23]), (1030, [7, 27]), (95, [3, 27]), (49, [3, 27, 15, 31]), (41, [31]), (48, [3, 27, 35, 39]), (44, [35]), (31, []), (30, [3]), (78, [3, 7]), (91, [11, 4]), (46, [3, 7, 15, 19]), (92, [11, 11]), (45, [15])]))), ())] : List ((Nat × Nat × Nat × ax_T) × ax_Tr 0)) : ax_Tr 1) = true := by decide +kernel
theorem axr_325 (hP : ∀ q ∈ rx_P, rx_QW q ∧ rx_ST rx_P (rx_DF, rx_FK) q) : ax_Row ax_wC ax_XC rx_P ax_APC rx_P (rx_DF, rx_FK) rxm_325 (axm_325, axc_325) := fun hr => ⟨ax_tabB_ok axt_325, fun hL => ax_con_cons (ax_chk_ok hP ax_XC_ok hr hL (ax_tabB_ok axt_325) axs_325_0 axk_325_0) (ax_con_nil)⟩
theorem axt_326 : ax_tabB (rx_cd rxm_326) axm_326 = true := by decide +kernel
theorem axs_326_0 : ∀ x ∈ ([axu_ru1_0, axu_ru2_0, axu_ru3_0, axu_ru3c2_0, axu_ru3c3_0, axu_ru3c4_0, axu_ru3c5_0, axu_ru3c40_0, axu_ru4c1_0, axu_ru6c1_0, axu_ru4c2_0, axu_ru6c2_0, axu_ru4c3_0, axu_ru6c3_0, axu_ru4c4_0, axu_ru6c4_0, axu_ru4c5_0, axu_ru6c5_0, axu_ru4c40_0, axu_ru6c40_0, axu_rut1_0, axu_rut2_0, axu_rut3_0, axu_ru7_0, axu_su1_0, axu_sv1_0, axu_sl1_0, axu_su2_0, axu_sv2_0, axu_sl2_0, axu_su3_0, axu_sv3_0, axu_sl3_0, axu_su4_0, axu_sv4_0, axu_sl4_0, axu_su40_0, axu_su5_0, axu_sl5_0, axu_sv5_0] : List ax_RL), ax_RO ax_wC ax_XC x := ax_ro_cons axq_ru1_0 (ax_ro_cons axq_ru2_0 (ax_ro_cons axq_ru3_0 (ax_ro_cons axq_ru3c2_0 (ax_ro_cons axq_ru3c3_0 (ax_ro_cons axq_ru3c4_0 (ax_ro_cons axq_ru3c5_0 (ax_ro_cons axq_ru3c40_0 (ax_ro_cons axq_ru4c1_0 (ax_ro_cons axq_ru6c1_0 (ax_ro_cons axq_ru4c2_0 (ax_ro_cons axq_ru6c2_0 (ax_ro_cons axq_ru4c3_0 (ax_ro_cons axq_ru6c3_0 (ax_ro_cons axq_ru4c4_0 (ax_ro_cons axq_ru6c4_0 (ax_ro_cons axq_ru4c5_0 (ax_ro_cons axq_ru6c5_0 (ax_ro_cons axq_ru4c40_0 (ax_ro_cons axq_ru6c40_0 (ax_ro_cons axq_rut1_0 (ax_ro_cons axq_rut2_0 (ax_ro_cons axq_rut3_0 (ax_ro_cons axq_ru7_0 (ax_ro_cons axq_su1_0 (ax_ro_cons axq_sv1_0 (ax_ro_cons axq_sl1_0 (ax_ro_cons axq_su2_0 (ax_ro_cons axq_sv2_0 (ax_ro_cons axq_sl2_0 (ax_ro_cons axq_su3_0 (ax_ro_cons axq_sv3_0 (ax_ro_cons axq_sl3_0 (ax_ro_cons axq_su4_0 (ax_ro_cons axq_sv4_0 (ax_ro_cons axq_sl4_0 (ax_ro_cons axq_su40_0 (ax_ro_cons axq_su5_0 (ax_ro_cons axq_sl5_0 (ax_ro_cons axq_sv5_0 (ax_ro_nil))))))))))))))))))))))))))))))))))))))))
/-- TurnNet$Reader.readUnit: 293 steps -/
theorem axk_326_0 : ax_chk ax_wC rx_P (rx_DF, rx_FK) ax_APC (rx_n rxm_326) axm_326 (([42, 0], (5, [(1, 0, 0), (1, 0, 0), (1, 0, 0), (1, 0, 0), (1, 0, 0)], [], [], [(31, []), (30, [3]), (50, [3, 7]), (78, [3, 7]), (90, [3, 7, 11]), (91, [11, 0]), (46, [3, 7, 15, 19]), (41, [19])])), [(1, 4), (1, 5), (2, 3), (2, 4), (2, 5), (2, 6), (2, 7), (2, 8), (18, 999), (19, 999)], [([0], (5, [(1, 0, 0), (1, 0, 0), (1, 0, 0), (1, 0, 0), (1, 0, 0)], [], [], [(63, [3])])), ([4], (8, [(1, 0, 0), (1, 0, 0), (1, 0, 0), (1, 0, 0), (1, 0, 0), (1, 0, 0), (1, 0, 0), (1, 0, 0)], [], [], [(50, [3, 23]), (79, [3, 23]), (90, [3, 23, 27]), (92, [11, 27]), (1030, [7, 23]), (47, [3, 23, 15, 31]), (41, [31])]))]) [axu_ru1_0, axu_ru2_0, axu_ru3_0, axu_ru3c2_0, axu_ru3c3_0, axu_ru3c4_0, axu_ru3c5_0, axu_ru3c40_0, axu_ru4c1_0, axu_ru6c1_0, axu_ru4c2_0, axu_ru6c2_0, axu_ru4c3_0, axu_ru6c3_0, axu_ru4c4_0, axu_ru6c4_0, axu_ru4c5_0, axu_ru6c5_0, axu_ru4c40_0, axu_ru6c40_0, axu_rut1_0, axu_rut2_0, axu_rut3_0, axu_ru7_0, axu_su1_0, axu_sv1_0, axu_sl1_0, axu_su2_0, axu_sv2_0, axu_sl2_0, axu_su3_0, axu_sv3_0, axu_sl3_0, axu_su4_0, axu_sv4_0, axu_sl4_0, axu_su40_0, axu_su5_0, axu_sl5_0, axu_sv5_0] [] 3000 0 (() : ax_Tr 0) = true := by decide +kernel
theorem axr_326 (hP : ∀ q ∈ rx_P, rx_QW q ∧ rx_ST rx_P (rx_DF, rx_FK) q) : ax_Row ax_wC ax_XC rx_P ax_APC rx_P (rx_DF, rx_FK) rxm_326 (axm_326, axc_326) := fun hr => ⟨ax_tabB_ok axt_326, fun hL => ax_con_cons (ax_chk_ok hP ax_XC_ok hr hL (ax_tabB_ok axt_326) axs_326_0 axk_326_0) (ax_con_nil)⟩
theorem axt_327 : ax_tabB (rx_cd rxm_327) axm_327 = true := by decide +kernel
theorem axs_327_0 : ∀ x ∈ ([axu_rp1_0, axu_rp2_0, axu_rp3c42_0, axu_rp3c47_0, axu_rp3c37_0, axu_rp4_0, axu_rp5_0, axu_rp6_0, axu_rp7_0, axu_rp8a_0, axu_rp8b_0, axu_rp8c_0, axu_rp8d_0, axu_sp1_0, axu_sp2c42_0, axu_sp3c42_0, axu_sp2c47_0, axu_sp3c47_0, axu_sp2c37_0, axu_sp3c37_0, axu_spl_0] : List ax_RL), ax_RO ax_wC ax_XC x := ax_ro_cons axq_rp1_0 (ax_ro_cons axq_rp2_0 (ax_ro_cons axq_rp3c42_0 (ax_ro_cons axq_rp3c47_0 (ax_ro_cons axq_rp3c37_0 (ax_ro_cons axq_rp4_0 (ax_ro_cons axq_rp5_0 (ax_ro_cons axq_rp6_0 (ax_ro_cons axq_rp7_0 (ax_ro_cons axq_rp8a_0 (ax_ro_cons axq_rp8b_0 (ax_ro_cons axq_rp8c_0 (ax_ro_cons axq_rp8d_0 (ax_ro_cons axq_sp1_0 (ax_ro_cons axq_sp2c42_0 (ax_ro_cons axq_sp3c42_0 (ax_ro_cons axq_sp2c47_0 (ax_ro_cons axq_sp3c47_0 (ax_ro_cons axq_sp2c37_0 (ax_ro_cons axq_sp3c37_0 (ax_ro_cons axq_spl_0 (ax_ro_nil)))))))))))))))))))))
/-- TurnNet$Reader.readProduct: 103 steps -/
theorem axk_327_0 : ax_chk ax_wC rx_P (rx_DF, rx_FK) ax_APC (rx_n rxm_327) axm_327 (([42, 0], (5, [(1, 0, 0), (1, 0, 0), (1, 0, 0), (1, 0, 0), (1, 0, 0)], [], [], [(31, []), (30, [3]), (50, [3, 7]), (78, [3, 7]), (90, [3, 7, 11]), (91, [11, 0]), (46, [3, 7, 15, 19]), (41, [19]), (92, [11, 11]), (44, [15])])), [(1, 4), (1, 5), (2, 3), (2, 4), (2, 5), (2, 6), (2, 7), (2, 8), (18, 999), (19, 999)], [([0], (5, [(1, 0, 0), (1, 0, 0), (1, 0, 0), (1, 0, 0), (1, 0, 0)], [], [], [(63, [3])])), ([4], (7, [(1, 0, 0), (1, 0, 0), (1, 0, 0), (1, 0, 0), (1, 0, 0), (1, 0, 0), (1, 0, 0)], [], [], [(50, [3, 23]), (79, [3, 23]), (90, [3, 23, 11]), (95, [3, 23]), (1030, [7, 23]), (48, [3, 23, 15, 27]), (41, [27])]))]) [axu_rp1_0, axu_rp2_0, axu_rp3c42_0, axu_rp3c47_0, axu_rp3c37_0, axu_rp4_0, axu_rp5_0, axu_rp6_0, axu_rp7_0, axu_rp8a_0, axu_rp8b_0, axu_rp8c_0, axu_rp8d_0, axu_sp1_0, axu_sp2c42_0, axu_sp3c42_0, axu_sp2c47_0, axu_sp3c47_0, axu_sp2c37_0, axu_sp3c37_0, axu_spl_0] [12] 3000 1 (([((12, 1, 5, ([42, 0, 23, 2], (11, [(1, 0, 0), (1, 0, 0), (1, 0, 0), (1, 0, 0), (1, 0, 0), (0, 2147483648, 2147484448), (1, 0, 0), (1, 0, 0), (1, 0, 0), (1, 0, 0), (1, 0, 0)], [], [], [(50, [3, 27]), (79, [3, 27]), (90, [3, 27, 11]), (97, [27, 23]), (1030, [7, 27]), (48, [3, 27, 15, 31]), (41, [31]), (92, [11, 35]), (47, [3, 27, 39, 43]), (31, []), (30, [3]), (78, [3, 7]), (91, [11, 0]), (46, [3, 7, 15, 19]), (92, [11, 11]), (44, [15])]))), ())] : List ((Nat × Nat × Nat × ax_T) × ax_Tr 0)) : ax_Tr 1) = true := by decide +kernel
theorem axr_327 (hP : ∀ q ∈ rx_P, rx_QW q ∧ rx_ST rx_P (rx_DF, rx_FK) q) : ax_Row ax_wC ax_XC rx_P ax_APC rx_P (rx_DF, rx_FK) rxm_327 (axm_327, axc_327) := fun hr => ⟨ax_tabB_ok axt_327, fun hL => ax_con_cons (ax_chk_ok hP ax_XC_ok hr hL (ax_tabB_ok axt_327) axs_327_0 axk_327_0) (ax_con_nil)⟩
theorem axt_328 : ax_tabB (rx_cd rxm_328) axm_328 = true := by decide +kernel
theorem axs_328_0 : ∀ x ∈ ([axu_rq2_0, axu_rq3c43_0, axu_rq3c45_0, axu_rq5_0, axu_rq6_0, axu_rq7_0, axu_rq8a_0, axu_rq8b_0, axu_rq8c_0, axu_sq1_0, axu_sq2c43_0, axu_sq3c43_0, axu_sq2c45_0, axu_sq3c45_0, axu_sql_0, axu_s45_0] : List ax_RL), ax_RO ax_wC ax_XC x := ax_ro_cons axq_rq2_0 (ax_ro_cons axq_rq3c43_0 (ax_ro_cons axq_rq3c45_0 (ax_ro_cons axq_rq5_0 (ax_ro_cons axq_rq6_0 (ax_ro_cons axq_rq7_0 (ax_ro_cons axq_rq8a_0 (ax_ro_cons axq_rq8b_0 (ax_ro_cons axq_rq8c_0 (ax_ro_cons axq_sq1_0 (ax_ro_cons axq_sq2c43_0 (ax_ro_cons axq_sq3c43_0 (ax_ro_cons axq_sq2c45_0 (ax_ro_cons axq_sq3c45_0 (ax_ro_cons axq_sql_0 (ax_ro_cons axq_s45_0 (ax_ro_nil))))))))))))))))
/-- TurnNet$Reader.readSum: 70 steps -/
theorem axk_328_0 : ax_chk ax_wC rx_P (rx_DF, rx_FK) ax_APC (rx_n rxm_328) axm_328 (([42, 0], (5, [(1, 0, 0), (1, 0, 0), (1, 0, 0), (1, 0, 0), (1, 0, 0)], [], [], [(31, []), (30, [3]), (50, [3, 7]), (78, [3, 7]), (90, [3, 7, 11]), (91, [11, 0]), (46, [3, 7, 15, 19]), (41, [19]), (92, [11, 11]), (45, [15])])), [(1, 4), (1, 5), (2, 3), (2, 4), (2, 5), (2, 6), (2, 7), (2, 8), (18, 999), (19, 999)], [([0], (5, [(1, 0, 0), (1, 0, 0), (1, 0, 0), (1, 0, 0), (1, 0, 0)], [], [], [(63, [3])])), ([4], (7, [(1, 0, 0), (1, 0, 0), (1, 0, 0), (1, 0, 0), (1, 0, 0), (1, 0, 0), (1, 0, 0)], [], [], [(50, [3, 23]), (79, [3, 23]), (90, [3, 23, 11]), (94, [3, 23]), (1030, [7, 23]), (49, [3, 23, 15, 27]), (41, [27])]))]) [axu_rq2_0, axu_rq3c43_0, axu_rq3c45_0, axu_rq5_0, axu_rq6_0, axu_rq7_0, axu_rq8a_0, axu_rq8b_0, axu_rq8c_0, axu_sq1_0, axu_sq2c43_0, axu_sq3c43_0, axu_sq2c45_0, axu_sq3c45_0, axu_sql_0, axu_s45_0] [12] 3000 1 (([((12, 1, 5, ([42, 0, 23, 2], (10, [(1, 0, 0), (1, 0, 0), (1, 0, 0), (1, 0, 0), (0, 2147483648, 2147484448), (1, 0, 0), (1, 0, 0), (1, 0, 0), (1, 0, 0), (1, 0, 0)], [], [], [(50, [3, 27]), (79, [3, 27]), (90, [3, 27, 11]), (97, [27, 23]), (1030, [7, 27]), (95, [3, 27]), (49, [3, 27, 15, 31]), (41, [31]), (48, [3, 27, 35, 39]), (44, [35]), (31, []), (30, [3]), (78, [3, 7]), (91, [11, 0]), (46, [3, 7, 15, 19]), (92, [11, 11]), (45, [15])]))), ())] : List ((Nat × Nat × Nat × ax_T) × ax_Tr 0)) : ax_Tr 1) = true := by decide +kernel
theorem axr_328 (hP : ∀ q ∈ rx_P, rx_QW q ∧ rx_ST rx_P (rx_DF, rx_FK) q) : ax_Row ax_wC ax_XC rx_P ax_APC rx_P (rx_DF, rx_FK) rxm_328 (axm_328, axc_328) := fun hr => ⟨ax_tabB_ok axt_328, fun hL => ax_con_cons (ax_chk_ok hP ax_XC_ok hr hL (ax_tabB_ok axt_328) axs_328_0 axk_328_0) (ax_con_nil)⟩
theorem axt_329 : ax_tabB (rx_cd rxm_329) axm_329 = true := by decide +kernel
theorem axs_329_0 : ∀ x ∈ ([axu_rl_ro, axu_rl_rm, axu_rl_rk, axu_rl_m, axu_rl_ro2, axu_rl_rm2, axu_rl_n2, axu_rl_t2, axu_rl_n3, axu_rl_t3, axu_rl_n4, axu_rl_t4, axu_rl_f, axu_rl_tr1, axu_rl_tr2, axu_rl_tr3, axu_rl_tr4, axu_s0_ro, axu_s0_rm, axu_s0_rk, axu_s0_ro2, axu_s0_rm2] : List ax_RL), ax_RO ax_wC ax_XC x := ax_ro_cons axq_rl_ro (ax_ro_cons axq_rl_rm (ax_ro_cons axq_rl_rk (ax_ro_cons axq_rl_m (ax_ro_cons axq_rl_ro2 (ax_ro_cons axq_rl_rm2 (ax_ro_cons axq_rl_n2 (ax_ro_cons axq_rl_t2 (ax_ro_cons axq_rl_n3 (ax_ro_cons axq_rl_t3 (ax_ro_cons axq_rl_n4 (ax_ro_cons axq_rl_t4 (ax_ro_cons axq_rl_f (ax_ro_cons axq_rl_tr1 (ax_ro_cons axq_rl_tr2 (ax_ro_cons axq_rl_tr3 (ax_ro_cons axq_rl_tr4 (ax_ro_cons axq_s0_ro (ax_ro_cons axq_s0_rm (ax_ro_cons axq_s0_rk (ax_ro_cons axq_s0_ro2 (ax_ro_cons axq_s0_rm2 (ax_ro_nil))))))))))))))))))))))
/-- TurnNet$Reader.readLine: 249 steps -/
theorem axk_329_0 : ax_chk ax_wC rx_P (rx_DF, rx_FK) ax_APC (rx_n rxm_329) axm_329 (([42], (3, [(1, 0, 0), (1, 0, 0), (1, 0, 0)], [], [], [(31, []), (30, [3]), (50, [3, 7]), (73, [3, 7]), (111, [3, 7]), (45, [5]), (46, [3, 7, 5, 11]), (41, [11])])), [(1, 1), (1, 2), (1, 3), (1, 4), (1, 5), (2, 3), (2, 4), (2, 5), (2, 6), (2, 7), (2, 8), (2, 9), (2, 10), (2, 11), (14, 999), (15, 999), (18, 999), (19, 999)], [([0], (3, [(1, 0, 0), (1, 0, 0), (1, 0, 0)], [], [], [(63, [3])])), ([4], (5, [(1, 0, 0), (1, 0, 0), (1, 0, 0), (1, 0, 0), (1, 0, 0)], [], [], [(50, [3, 15]), (73, [3, 15]), (1030, [7, 15]), (46, [3, 15, 5, 19]), (41, [19])]))]) [axu_rl_ro, axu_rl_rm, axu_rl_rk, axu_rl_m, axu_rl_ro2, axu_rl_rm2, axu_rl_n2, axu_rl_t2, axu_rl_n3, axu_rl_t3, axu_rl_n4, axu_rl_t4, axu_rl_f, axu_rl_tr1, axu_rl_tr2, axu_rl_tr3, axu_rl_tr4, axu_s0_ro, axu_s0_rm, axu_s0_rk, axu_s0_ro2, axu_s0_rm2] [] 3000 0 (() : ax_Tr 0) = true := by decide +kernel
theorem axr_329 (hP : ∀ q ∈ rx_P, rx_QW q ∧ rx_ST rx_P (rx_DF, rx_FK) q) : ax_Row ax_wC ax_XC rx_P ax_APC rx_P (rx_DF, rx_FK) rxm_329 (axm_329, axc_329) := fun hr => ⟨ax_tabB_ok axt_329, fun hL => ax_con_cons (ax_chk_ok hP ax_XC_ok hr hL (ax_tabB_ok axt_329) axs_329_0 axk_329_0) (ax_con_nil)⟩
theorem axt_330 : ax_tabB (rx_cd rxm_330) axm_330 = true := by decide +kernel
theorem axs_330_0 : ∀ x ∈ ([axu_rt1, axu_rt2, axu_rt3a, axu_rt4a, axu_rt3b, axu_rt4b, axu_rt5, axu_rt6, axu_rt7, axu_rt8, axu_st1, axu_st0, axu_st2a, axu_st2b, axu_st2c] : List ax_RL), ax_RO ax_wC ax_XC x := ax_ro_cons axq_rt1 (ax_ro_cons axq_rt2 (ax_ro_cons axq_rt3a (ax_ro_cons axq_rt4a (ax_ro_cons axq_rt3b (ax_ro_cons axq_rt4b (ax_ro_cons axq_rt5 (ax_ro_cons axq_rt6 (ax_ro_cons axq_rt7 (ax_ro_cons axq_rt8 (ax_ro_cons axq_st1 (ax_ro_cons axq_st0 (ax_ro_cons axq_st2a (ax_ro_cons axq_st2b (ax_ro_cons axq_st2c (ax_ro_nil)))))))))))))))
/-- TurnNet$Reader.readText: 89 steps -/
theorem axk_330_0 : ax_chk ax_wC rx_P (rx_DF, rx_FK) ax_APC (rx_n rxm_330) axm_330 (([42], (1, [(1, 0, 0)], [], [], [(31, []), (30, [3])])), [(1, 0), (1, 1), (1, 2), (1, 3), (1, 4), (1, 5), (2, 3), (2, 4), (2, 5), (2, 6), (2, 7), (2, 8), (2, 9), (2, 10), (2, 11), (14, 999), (15, 999), (18, 999), (19, 999)], [([0], (1, [(1, 0, 0)], [], [], [(63, [3])])), ([4], (2, [(1, 0, 0), (1, 0, 0)], [], [], [(110, [3]), (82, [3, 7]), (41, [7])]))]) [axu_rt1, axu_rt2, axu_rt3a, axu_rt4a, axu_rt3b, axu_rt4b, axu_rt5, axu_rt6, axu_rt7, axu_rt8, axu_st1, axu_st0, axu_st2a, axu_st2b, axu_st2c] [61] 3000 1 (([((61, 1, 1, ([42, 7], (6, [(1, 0, 0), (1, 0, 0), (1, 0, 0), (1, 0, 0), (0, 2147483648, 2147484448), (1, 0, 0)], [(42, 8, 50)], [], [(30, [3]), (50, [3, 11]), (73, [3, 11]), (97, [11, 7]), (46, [3, 11, 5, 15]), (41, [15]), (111, [3, 19]), (70, [3, 23]), (45, [5]), (31, [])]))), ())] : List ((Nat × Nat × Nat × ax_T) × ax_Tr 0)) : ax_Tr 1) = true := by decide +kernel
theorem axr_330 (hP : ∀ q ∈ rx_P, rx_QW q ∧ rx_ST rx_P (rx_DF, rx_FK) q) : ax_Row ax_wC ax_XC rx_P ax_APC rx_P (rx_DF, rx_FK) rxm_330 (axm_330, axc_330) := fun hr => ⟨ax_tabB_ok axt_330, fun hL => ax_con_cons (ax_chk_ok hP ax_XC_ok hr hL (ax_tabB_ok axt_330) axs_330_0 axk_330_0) (ax_con_nil)⟩
theorem axt_331 : ax_tabB (rx_cd rxm_331) axm_331 = true := by decide +kernel
theorem axs_331_0 : ∀ x ∈ ([axu_ne1] : List ax_RL), ax_RO ax_wC ax_XC x := ax_ro_cons axq_ne1 (ax_ro_nil)
/-- TurnNet.net: 92 steps -/
theorem axk_331_0 : ax_chk ax_wC rx_P (rx_DF, rx_FK) ax_APC (rx_n rxm_331) axm_331 (([10], (1, [(1, 0, 0)], [], [], [(0, [80]), (31, []), (30, [3])])), [(1, 0), (1, 1), (1, 2), (1, 3), (1, 4), (1, 5), (2, 1), (2, 3), (2, 4), (2, 5), (2, 6), (2, 7), (2, 8), (2, 9), (2, 10), (2, 11), (4, 3), (4, 4), (9, 2), (9, 3), (10, 0), (10, 1), (10, 2), (10, 3), (13, 999), (14, 999), (15, 999), (16, 999), (17, 999), (18, 999), (19, 999), (21, 999), (22, 999), (23, 999), (24, 999), (40, 999)], [([17179869180], (1, [(1, 0, 0)], [(42, 4, 0)], [], [(0, [80]), (31, []), (63, [3])])), ([7], (2, [(0, 2147483648, 2147483658), (1, 0, 0)], [(42, 4, 0)], [], [(0, [80]), (31, []), (126, [3, 7]), (127, [])]))]) [axu_ne1] [59] 3000 1 (([((59, 1, 1, ([10, 4, 7], (4, [(1, 0, 0), (0, 2147483648, 2147483658), (0, 2147483648, 2147483650), (1, 0, 0)], [(10, 36, 206), (130, 16, 0), (130, 12, 0), (10, 16, 130), (98, 16, 0), (98, 12, 0), (10, 12, 98), (14, 0, 11), (42, 8, 50), (10, 0, 14), (42, 4, 0), (10, 4, 42)], [], [(126, [3, 11]), (0, [80]), (127, []), (82, [3, 15]), (31, [])]))), ())] : List ((Nat × Nat × Nat × ax_T) × ax_Tr 0)) : ax_Tr 1) = true := by decide +kernel
theorem axr_331 (hP : ∀ q ∈ rx_P, rx_QW q ∧ rx_ST rx_P (rx_DF, rx_FK) q) : ax_Row ax_wC ax_XC rx_P ax_APC rx_P (rx_DF, rx_FK) rxm_331 (axm_331, axc_331) := fun hr => ⟨ax_tabB_ok axt_331, fun hL => ax_con_cons (ax_chk_ok hP ax_XC_ok hr hL (ax_tabB_ok axt_331) axs_331_0 axk_331_0) (ax_con_nil)⟩
end
section
set_option maxRecDepth 20000 in
theorem axR_C (hP : ∀ q ∈ rx_P, rx_QW q ∧ rx_ST rx_P (rx_DF, rx_FK) q) : ax_Rows ax_wC ax_XC rx_P ax_APC rx_P (rx_DF, rx_FK) rx_P ax_APC := ax_rows_cons (axr_0 hP) (ax_rows_cons (axr_1 hP) (ax_rows_cons (axr_2 hP) (ax_rows_cons (axr_3 hP) (ax_rows_cons (axr_4 hP) (ax_rows_cons (axr_5 hP) (ax_rows_cons (axr_6 hP) (ax_rows_cons (axr_7 hP) (ax_rows_cons (axr_8 hP) (ax_rows_cons (axr_9 hP) (ax_rows_cons (axr_10 hP) (ax_rows_cons (axr_11 hP) (ax_rows_cons (axr_12 hP) (ax_rows_cons (axr_13 hP) (ax_rows_cons (axr_14 hP) (ax_rows_cons (axr_15 hP) (ax_rows_cons (axr_16 hP) (ax_rows_cons (axr_17 hP) (ax_rows_cons (axr_18 hP) (ax_rows_cons (axr_19 hP) (ax_rows_cons (axr_20 hP) (ax_rows_cons (axr_21 hP) (ax_rows_cons (axr_22 hP) (ax_rows_cons (axr_23 hP) (ax_rows_cons (axr_24 hP) (ax_rows_cons (axr_25 hP) (ax_rows_cons (axr_26 hP) (ax_rows_cons (axr_27 hP) (ax_rows_cons (axr_28 hP) (ax_rows_cons (axr_29 hP) (ax_rows_cons (axr_30 hP) (ax_rows_cons (axr_31 hP) (ax_rows_cons (axr_32 hP) (ax_rows_cons (axr_33 hP) (ax_rows_cons (axr_34 hP) (ax_rows_cons (axr_35 hP) (ax_rows_cons (axr_36 hP) (ax_rows_cons (axr_37 hP) (ax_rows_cons (axr_38 hP) (ax_rows_cons (axr_39 hP) (ax_rows_cons (axr_40 hP) (ax_rows_cons (axr_41 hP) (ax_rows_cons (axr_42 hP) (ax_rows_cons (axr_43 hP) (ax_rows_cons (axr_44 hP) (ax_rows_cons (axr_45 hP) (ax_rows_cons (axr_46 hP) (ax_rows_cons (axr_47 hP) (ax_rows_cons (axr_48 hP) (ax_rows_cons (axr_49 hP) (ax_rows_cons (axr_50 hP) (ax_rows_cons (axr_51 hP) (ax_rows_cons (axr_52 hP) (ax_rows_cons (axr_53 hP) (ax_rows_cons (axr_54 hP) (ax_rows_cons (axr_55 hP) (ax_rows_cons (axr_56 hP) (ax_rows_cons (axr_57 hP) (ax_rows_cons (axr_58 hP) (ax_rows_cons (axr_59 hP) (ax_rows_cons (axr_60 hP) (ax_rows_cons (axr_61 hP) (ax_rows_cons (axr_62 hP) (ax_rows_cons (axr_63 hP) (ax_rows_cons (axr_64 hP) (ax_rows_cons (axr_65 hP) (ax_rows_cons (axr_66 hP) (ax_rows_cons (axr_67 hP) (ax_rows_cons (axr_68 hP) (ax_rows_cons (axr_69 hP) (ax_rows_cons (axr_70 hP) (ax_rows_cons (axr_71 hP) (ax_rows_cons (axr_72 hP) (ax_rows_cons (axr_73 hP) (ax_rows_cons (axr_74 hP) (ax_rows_cons (axr_75 hP) (ax_rows_cons (axr_76 hP) (ax_rows_cons (axr_77 hP) (ax_rows_cons (axr_78 hP) (ax_rows_cons (axr_79 hP) (ax_rows_cons (axr_80 hP) (ax_rows_cons (axr_81 hP) (ax_rows_cons (axr_82 hP) (ax_rows_cons (axr_83 hP) (ax_rows_cons (axr_84 hP) (ax_rows_cons (axr_85 hP) (ax_rows_cons (axr_86 hP) (ax_rows_cons (axr_87 hP) (ax_rows_cons (axr_88 hP) (ax_rows_cons (axr_89 hP) (ax_rows_cons (axr_90 hP) (ax_rows_cons (axr_91 hP) (ax_rows_cons (axr_92 hP) (ax_rows_cons (axr_93 hP) (ax_rows_cons (axr_94 hP) (ax_rows_cons (axr_95 hP) (ax_rows_cons (axr_96 hP) (ax_rows_cons (axr_97 hP) (ax_rows_cons (axr_98 hP) (ax_rows_cons (axr_99 hP) (ax_rows_cons (axr_100 hP) (ax_rows_cons (axr_101 hP) (ax_rows_cons (axr_102 hP) (ax_rows_cons (axr_103 hP) (ax_rows_cons (axr_104 hP) (ax_rows_cons (axr_105 hP) (ax_rows_cons (axr_106 hP) (ax_rows_cons (axr_107 hP) (ax_rows_cons (axr_108 hP) (ax_rows_cons (axr_109 hP) (ax_rows_cons (axr_110 hP) (ax_rows_cons (axr_111 hP) (ax_rows_cons (axr_112 hP) (ax_rows_cons (axr_113 hP) (ax_rows_cons (axr_114 hP) (ax_rows_cons (axr_115 hP) (ax_rows_cons (axr_116 hP) (ax_rows_cons (axr_117 hP) (ax_rows_cons (axr_118 hP) (ax_rows_cons (axr_119 hP) (ax_rows_cons (axr_120 hP) (ax_rows_cons (axr_121 hP) (ax_rows_cons (axr_122 hP) (ax_rows_cons (axr_123 hP) (ax_rows_cons (axr_124 hP) (ax_rows_cons (axr_125 hP) (ax_rows_cons (axr_126 hP) (ax_rows_cons (axr_127 hP) (ax_rows_cons (axr_128 hP) (ax_rows_cons (axr_129 hP) (ax_rows_cons (axr_130 hP) (ax_rows_cons (axr_131 hP) (ax_rows_cons (axr_132 hP) (ax_rows_cons (axr_133 hP) (ax_rows_cons (axr_134 hP) (ax_rows_cons (axr_135 hP) (ax_rows_cons (axr_136 hP) (ax_rows_cons (axr_137 hP) (ax_rows_cons (axr_138 hP) (ax_rows_cons (axr_139 hP) (ax_rows_cons (axr_140 hP) (ax_rows_cons (axr_141 hP) (ax_rows_cons (axr_142 hP) (ax_rows_cons (axr_143 hP) (ax_rows_cons (axr_144 hP) (ax_rows_cons (axr_145 hP) (ax_rows_cons (axr_146 hP) (ax_rows_cons (axr_147 hP) (ax_rows_cons (axr_148 hP) (ax_rows_cons (axr_149 hP) (ax_rows_cons (axr_150 hP) (ax_rows_cons (axr_151 hP) (ax_rows_cons (axr_152 hP) (ax_rows_cons (axr_153 hP) (ax_rows_cons (axr_154 hP) (ax_rows_cons (axr_155 hP) (ax_rows_cons (axr_156 hP) (ax_rows_cons (axr_157 hP) (ax_rows_cons (axr_158 hP) (ax_rows_cons (axr_159 hP) (ax_rows_cons (axr_160 hP) (ax_rows_cons (axr_161 hP) (ax_rows_cons (axr_162 hP) (ax_rows_cons (axr_163 hP) (ax_rows_cons (axr_164 hP) (ax_rows_cons (axr_165 hP) (ax_rows_cons (axr_166 hP) (ax_rows_cons (axr_167 hP) (ax_rows_cons (axr_168 hP) (ax_rows_cons (axr_169 hP) (ax_rows_cons (axr_170 hP) (ax_rows_cons (axr_171 hP) (ax_rows_cons (axr_172 hP) (ax_rows_cons (axr_173 hP) (ax_rows_cons (axr_174 hP) (ax_rows_cons (axr_175 hP) (ax_rows_cons (axr_176 hP) (ax_rows_cons (axr_177 hP) (ax_rows_cons (axr_178 hP) (ax_rows_cons (axr_179 hP) (ax_rows_cons (axr_180 hP) (ax_rows_cons (axr_181 hP) (ax_rows_cons (axr_182 hP) (ax_rows_cons (axr_183 hP) (ax_rows_cons (axr_184 hP) (ax_rows_cons (axr_185 hP) (ax_rows_cons (axr_186 hP) (ax_rows_cons (axr_187 hP) (ax_rows_cons (axr_188 hP) (ax_rows_cons (axr_189 hP) (ax_rows_cons (axr_190 hP) (ax_rows_cons (axr_191 hP) (ax_rows_cons (axr_192 hP) (ax_rows_cons (axr_193 hP) (ax_rows_cons (axr_194 hP) (ax_rows_cons (axr_195 hP) (ax_rows_cons (axr_196 hP) (ax_rows_cons (axr_197 hP) (ax_rows_cons (axr_198 hP) (ax_rows_cons (axr_199 hP) (ax_rows_cons (axr_200 hP) (ax_rows_cons (axr_201 hP) (ax_rows_cons (axr_202 hP) (ax_rows_cons (axr_203 hP) (ax_rows_cons (axr_204 hP) (ax_rows_cons (axr_205 hP) (ax_rows_cons (axr_206 hP) (ax_rows_cons (axr_207 hP) (ax_rows_cons (axr_208 hP) (ax_rows_cons (axr_209 hP) (ax_rows_cons (axr_210 hP) (ax_rows_cons (axr_211 hP) (ax_rows_cons (axr_212 hP) (ax_rows_cons (axr_213 hP) (ax_rows_cons (axr_214 hP) (ax_rows_cons (axr_215 hP) (ax_rows_cons (axr_216 hP) (ax_rows_cons (axr_217 hP) (ax_rows_cons (axr_218 hP) (ax_rows_cons (axr_219 hP) (ax_rows_cons (axr_220 hP) (ax_rows_cons (axr_221 hP) (ax_rows_cons (axr_222 hP) (ax_rows_cons (axr_223 hP) (ax_rows_cons (axr_224 hP) (ax_rows_cons (axr_225 hP) (ax_rows_cons (axr_226 hP) (ax_rows_cons (axr_227 hP) (ax_rows_cons (axr_228 hP) (ax_rows_cons (axr_229 hP) (ax_rows_cons (axr_230 hP) (ax_rows_cons (axr_231 hP) (ax_rows_cons (axr_232 hP) (ax_rows_cons (axr_233 hP) (ax_rows_cons (axr_234 hP) (ax_rows_cons (axr_235 hP) (ax_rows_cons (axr_236 hP) (ax_rows_cons (axr_237 hP) (ax_rows_cons (axr_238 hP) (ax_rows_cons (axr_239 hP) (ax_rows_cons (axr_240 hP) (ax_rows_cons (axr_241 hP) (ax_rows_cons (axr_242 hP) (ax_rows_cons (axr_243 hP) (ax_rows_cons (axr_244 hP) (ax_rows_cons (axr_245 hP) (ax_rows_cons (axr_246 hP) (ax_rows_cons (axr_247 hP) (ax_rows_cons (axr_248 hP) (ax_rows_cons (axr_249 hP) (ax_rows_cons (axr_250 hP) (ax_rows_cons (axr_251 hP) (ax_rows_cons (axr_252 hP) (ax_rows_cons (axr_253 hP) (ax_rows_cons (axr_254 hP) (ax_rows_cons (axr_255 hP) (ax_rows_cons (axr_256 hP) (ax_rows_cons (axr_257 hP) (ax_rows_cons (axr_258 hP) (ax_rows_cons (axr_259 hP) (ax_rows_cons (axr_260 hP) (ax_rows_cons (axr_261 hP) (ax_rows_cons (axr_262 hP) (ax_rows_cons (axr_263 hP) (ax_rows_cons (axr_264 hP) (ax_rows_cons (axr_265 hP) (ax_rows_cons (axr_266 hP) (ax_rows_cons (axr_267 hP) (ax_rows_cons (axr_268 hP) (ax_rows_cons (axr_269 hP) (ax_rows_cons (axr_270 hP) (ax_rows_cons (axr_271 hP) (ax_rows_cons (axr_272 hP) (ax_rows_cons (axr_273 hP) (ax_rows_cons (axr_274 hP) (ax_rows_cons (axr_275 hP) (ax_rows_cons (axr_276 hP) (ax_rows_cons (axr_277 hP) (ax_rows_cons (axr_278 hP) (ax_rows_cons (axr_279 hP) (ax_rows_cons (axr_280 hP) (ax_rows_cons (axr_281 hP) (ax_rows_cons (axr_282 hP) (ax_rows_cons (axr_283 hP) (ax_rows_cons (axr_284 hP) (ax_rows_cons (axr_285 hP) (ax_rows_cons (axr_286 hP) (ax_rows_cons (axr_287 hP) (ax_rows_cons (axr_288 hP) (ax_rows_cons (axr_289 hP) (ax_rows_cons (axr_290 hP) (ax_rows_cons (axr_291 hP) (ax_rows_cons (axr_292 hP) (ax_rows_cons (axr_293 hP) (ax_rows_cons (axr_294 hP) (ax_rows_cons (axr_295 hP) (ax_rows_cons (axr_296 hP) (ax_rows_cons (axr_297 hP) (ax_rows_cons (axr_298 hP) (ax_rows_cons (axr_299 hP) (ax_rows_cons (axr_300 hP) (ax_rows_cons (axr_301 hP) (ax_rows_cons (axr_302 hP) (ax_rows_cons (axr_303 hP) (ax_rows_cons (axr_304 hP) (ax_rows_cons (axr_305 hP) (ax_rows_cons (axr_306 hP) (ax_rows_cons (axr_307 hP) (ax_rows_cons (axr_308 hP) (ax_rows_cons (axr_309 hP) (ax_rows_cons (axr_310 hP) (ax_rows_cons (axr_311 hP) (ax_rows_cons (axr_312 hP) (ax_rows_cons (axr_313 hP) (ax_rows_cons (axr_314 hP) (ax_rows_cons (axr_315 hP) (ax_rows_cons (axr_316 hP) (ax_rows_cons (axr_317 hP) (ax_rows_cons (axr_318 hP) (ax_rows_cons (axr_319 hP) (ax_rows_cons (axr_320 hP) (ax_rows_cons (axr_321 hP) (ax_rows_cons (axr_322 hP) (ax_rows_cons (axr_323 hP) (ax_rows_cons (axr_324 hP) (ax_rows_cons (axr_325 hP) (ax_rows_cons (axr_326 hP) (ax_rows_cons (axr_327 hP) (ax_rows_cons (axr_328 hP) (ax_rows_cons (axr_329 hP) (ax_rows_cons (axr_330 hP) (ax_rows_cons (axr_331 hP) (ax_rows_nil))))))))))))))))))))))))))))))))))))))))))))))))))))))))))))))))))))))))))))))))))))))))))))))))))))))))))))))))))))))))))))))))))))))))))))))))))))))))))))))))))))))))))))))))))))))))))))))))))))))))))))))))))))))))))))))))))))))))))))))))))))))))))))))))))))))))))))))))))))))))))))))))))))))))))))))))))))))))))))))))))))))))))))
theorem axL_C (hP : ∀ q ∈ rx_P, rx_QW q ∧ rx_ST rx_P (rx_DF, rx_FK) q) : ∀ B, ax_Low ax_wC ax_XC rx_P ax_APC rx_P (rx_DF, rx_FK) B := ax_all (axR_C hP)
end
section
/-! What the reference's named facts say of the code -/
noncomputable def py_y241 (b l : Nat) (rd : Option Nat) (ru : Nat → Option Nat) : Prop := 1 ≤ l / 4 ∧ ay_ln rd = (py_L (l / 4)).length ∧ ∀ i c, (py_L (l / 4)).reverse[i]? = some c → ru (100 * b + i) = some (4 * c)
noncomputable def py_y243 (b l c : Nat) (rd : Option Nat) (ru : Nat → Option Nat) : Prop := py_y241 b l rd ru ∧ ru (100 * b + (py_L (l / 4)).length) = some c
noncomputable def py_y242 (s : Nat) (od : Option Nat) (op : Nat → Option Nat) : Prop := 1 ≤ s / 4 ∧ ay_ln od = (py_L (s / 4)).length ∧ (∀ x ∈ py_L (s / 4), x < 4096) ∧ ∀ i c, (py_L (s / 4)).reverse[i]? = some c → op i = some (4 * c)
def py_251 (r c s : Nat) : Prop := py_L (r / 4) = c / 4 :: py_L (s / 4)
noncomputable def py_y254 (s r : Nat) (od : Option Nat) (op : Nat → Option Nat) : Prop := ∃ c, op (ay_ln od) = some (4 * c) ∧ py_L (s / 4) = c :: py_L (r / 4)
def py_y246 (t N n s l : Nat) : Prop := py_cx t N n = (py_L (s / 4), py_L (l / 4))
def py_261 (g n l : Nat) : Prop := py_pop 1 (py_cx (pz_gt g) (pz_gN g) (n / 4)).1 (py_cx (pz_gt g) (pz_gN g) (n / 4)).2 = ([], py_L (l / 4)) ∧ (pz7 (pz_gt g) (pz_gN g) (n / 4) 2 → py_cx (pz_gt g) (pz_gN g) (n / 4) = ([], py_L (l / 4)))
theorem py_enc_1 : ∀ l, 1 ≤ py_enc l
  | [] => Nat.le_refl 1
  | x :: l => by have := py_enc_1 l; show 1 ≤ py_enc l * 4096 + x; omega
theorem py_L_enc : ∀ l : List Nat, (∀ x ∈ l, x < 4096) → py_L (py_enc l) = l
  | [], _ => rfl
  | x :: l, h => by
    show py_L (py_enc l * 4096 + x) = _
    rw [py_L_c (py_enc_1 l) (h x List.mem_cons_self), py_L_enc l (fun y hy => h y (List.mem_cons_of_mem _ hy))]
theorem py_top_rev {x : Nat} {l : List Nat} : (x :: l).reverse[l.length]? = some x := by
  rw [List.reverse_cons, List.getElem?_append_right (by simp), List.length_reverse, Nat.sub_self]
  rfl
theorem py_rev_lt {x i c : Nat} {l : List Nat} (h : l.reverse[i]? = some c) : (x :: l).reverse[i]? = some c := by
  have hi := (List.getElem?_eq_some_iff.mp h).1
  rw [List.reverse_cons, List.getElem?_append_left hi]
  exact h
theorem py_lay {b l l2 c : Nat} {rd rd2 : Option Nat} {ru : Nat → Option Nat} (h : py_y243 b l (4 * c) rd ru) (y : py_L (l2 / 4) = c :: py_L (l / 4)) (h1 : 1 ≤ l2 / 4) (h2 : ay_ln rd2 = ay_ln rd + 1) : py_y241 b l2 rd2 ru := by
  obtain ⟨⟨a1, a2, a3⟩, a4⟩ := h
  refine ⟨h1, by rw [h2, a2, y]; rfl, fun i x hx => ?_⟩
  rw [y] at hx
  rcases py_rev hx with ⟨-, h⟩ | ⟨h, h'⟩
  · exact a3 i x h
  · subst h h'; exact a4
theorem py_push {s s2 c : Nat} {od od2 : Option Nat} {op : Nat → Option Nat} (h : py_y242 s od op) (ht : op (py_L (s / 4)).length = some (4 * c)) (y : py_L (s2 / 4) = c :: py_L (s / 4)) (hc : c < 4096) (h1 : 1 ≤ s2 / 4) (h2 : ay_ln od2 = ay_ln od + 1) : py_y242 s2 od2 op := by
  obtain ⟨a1, a2, a3, a4⟩ := h
  refine ⟨h1, by rw [h2, a2, y]; rfl, fun x hx => ?_, fun i x hx => ?_⟩
  · rw [y] at hx
    rcases List.mem_cons.mp hx with e | hx
    · subst e; exact hc
    · exact a3 x hx
  · rw [y] at hx
    rcases py_rev hx with ⟨-, h⟩ | ⟨h, h'⟩
    · exact a4 i x h
    · subst h h'; exact ht
/-- the top goes -/
theorem py_take {s : Nat} {od : Option Nat} {op : Nat → Option Nat} {o : Nat} (h : py_y242 s od op) (ho : ay_ln od = o + 1) : ∃ c T, py_L (s / 4) = c :: T ∧ T.length = o ∧ op o = some (4 * c) ∧ py_L (py_enc T) = T ∧ 1 ≤ py_enc T ∧ (∀ x ∈ T, x < 4096) ∧ ∀ i x, T.reverse[i]? = some x → op i = some (4 * x) := by
  obtain ⟨a1, a2, a3, a4⟩ := h
  cases e : py_L (s / 4) with
  | nil => rw [e] at a2; replace a2 : ay_ln od = 0 := a2; omega
  | cons c T =>
    rw [e] at a2 a3 a4
    replace a2 : ay_ln od = T.length + 1 := a2
    have hT : T.length = o := by omega
    have a5 : ∀ x ∈ T, x < 4096 := fun x hx => a3 x (List.mem_cons_of_mem _ hx)
    exact ⟨c, T, rfl, hT, by rw [← hT]; exact a4 _ _ py_top_rev, py_L_enc T a5, py_enc_1 T, a5, fun i x hx => a4 i x (py_rev_lt hx)⟩
theorem py_none {s : Nat} {od : Option Nat} {op : Nat → Option Nat} (h : py_y242 s od op) (ho : ay_ln od = 0) : py_L (s / 4) = [] := by
  have e := h.2.1
  rw [ho] at e
  exact List.eq_nil_of_length_eq_zero e.symm
/-- no rank was told: no code -/
theorem py_stk {t N : Nat} {c : pz_C} (hc : pz_md c = 21 ∨ pz_fk c = true ∨ (pz_md c ≠ 8 ∧ pz_md c ≠ 9)) : pz_md (pz_st t N c) = 21 ∨ pz_fk (pz_st t N c) = true ∨ (pz_fk c = false ∧ pz_md c ≠ 8 ∧ pz_md c ≠ 9 ∧ pz_md (pz_st t N c) ≠ 8 ∧ pz_md (pz_st t N c) ≠ 9) := by
  obtain ⟨md, p, no, ls, ⟨r, m, k⟩, u, s, o, a, b⟩ := c
  rcases hc with hc | hc | hc
  · replace hc : md = 21 := hc
    subst hc
    exact Or.inl rfl
  · replace hc : k = true := hc
    subst hc
    show (fun z => pz_md z = 21 ∨ pz_fk z = true ∨ _) (pz_st t N (md, p, no, ls, (r, m, true), u, s, o, a, b))
    unfold pz_st
    dsimp only
    repeat' first
      | exact Or.inl rfl
      | exact Or.inr (Or.inl rfl)
      | refine pz_ite (Q := fun z => pz_md z = 21 ∨ pz_fk z = true ∨ _) (fun _ => ?_) (fun _ => ?_)
  · obtain ⟨h8, h9⟩ := hc
    replace h8 : md ≠ 8 := h8
    replace h9 : md ≠ 9 := h9
    cases k with
    | true =>
      show (fun z => pz_md z = 21 ∨ pz_fk z = true ∨ _) (pz_st t N (md, p, no, ls, (r, m, true), u, s, o, a, b))
      unfold pz_st
      dsimp only
      repeat' first
        | exact Or.inl rfl
        | exact Or.inr (Or.inl rfl)
        | refine pz_ite (Q := fun z => pz_md z = 21 ∨ pz_fk z = true ∨ _) (fun _ => ?_) (fun _ => ?_)
    | false =>
      show (fun z => pz_md z = 21 ∨ pz_fk z = true ∨ (false = false ∧ md ≠ 8 ∧ md ≠ 9 ∧ pz_md z ≠ 8 ∧ pz_md z ≠ 9)) (pz_st t N (md, p, no, ls, (r, m, false), u, s, o, a, b))
      unfold pz_st
      dsimp only
      repeat' first
        | exact Or.inl rfl
        | exact Or.inr (Or.inl rfl)
        | exact absurd (by assumption) h8
        | exact absurd (by assumption) h9
        | exact Or.inr (Or.inr ⟨rfl, h8, h9, (show (20 : Nat) ≠ 8 by decide), (show (20 : Nat) ≠ 9 by decide)⟩)
        | exact Or.inr (Or.inr ⟨rfl, h8, h9, (show (1 : Nat) ≠ 8 by decide), (show (1 : Nat) ≠ 9 by decide)⟩)
        | exact Or.inr (Or.inr ⟨rfl, h8, h9, (show (2 : Nat) ≠ 8 by decide), (show (2 : Nat) ≠ 9 by decide)⟩)
        | exact Or.inr (Or.inr ⟨rfl, h8, h9, (show (3 : Nat) ≠ 8 by decide), (show (3 : Nat) ≠ 9 by decide)⟩)
        | exact Or.inr (Or.inr ⟨rfl, h8, h9, (show (4 : Nat) ≠ 8 by decide), (show (4 : Nat) ≠ 9 by decide)⟩)
        | exact Or.inr (Or.inr ⟨rfl, h8, h9, (show (5 : Nat) ≠ 8 by decide), (show (5 : Nat) ≠ 9 by decide)⟩)
        | exact Or.inr (Or.inr ⟨rfl, h8, h9, (show (6 : Nat) ≠ 8 by decide), (show (6 : Nat) ≠ 9 by decide)⟩)
        | exact Or.inr (Or.inr ⟨rfl, h8, h9, (show (7 : Nat) ≠ 8 by decide), (show (7 : Nat) ≠ 9 by decide)⟩)
        | exact Or.inr (Or.inr ⟨rfl, h8, h9, h8, h9⟩)
        | refine pz_ite (Q := fun z => pz_md z = 21 ∨ pz_fk z = true ∨ (false = false ∧ md ≠ 8 ∧ md ≠ 9 ∧ pz_md z ≠ 8 ∧ pz_md z ≠ 9)) (fun _ => ?_) (fun _ => ?_)
theorem py_fk {t N : Nat} : ∀ n, pz_md (pz_cf t N n) = 21 ∨ pz_fk (pz_cf t N n) = true ∨ (pz_md (pz_cf t N n) ≠ 8 ∧ pz_md (pz_cf t N n) ≠ 9 ∧ py_cx t N n = ([], []))
  | 0 => Or.inr (Or.inr ⟨(show (0 : Nat) ≠ 8 by decide), (show (0 : Nat) ≠ 9 by decide), rfl⟩)
  | n + 1 => by
    have ih := py_fk (t := t) (N := N) n
    rcases py_stk (t := t) (N := N) (c := pz_cf t N n) (by rcases ih with h | h | h; exact Or.inl h; exact Or.inr (Or.inl h); exact Or.inr (Or.inr ⟨h.1, h.2.1⟩)) with h | h | ⟨h1, h2, h3, h4, h5⟩
    · exact Or.inl h
    · exact Or.inr (Or.inl h)
    · rcases ih with h | h | h
      · refine Or.inl ?_
        rw [pz_cf_s]
        generalize pz_cf t N n = c at h
        obtain ⟨md, p, no, ls, ⟨r, m, k⟩, u, s, o, a, b⟩ := c
        replace h : md = 21 := h
        subst h
        rfl
      · rw [h1] at h; cases h
      · exact Or.inr (Or.inr ⟨h4, h5, py_s0 (m := pz_md (pz_cf t N n)) rfl h2 h3 h.2.2⟩)
def py_247 (t N n s l : Nat) : Prop := py_cx t N n = py_neg (py_L (s / 4)) (py_L (l / 4))
def py_248 (t N n l : Nat) : Prop := py_pop 1 (py_cx t N n).1 (py_cx t N n).2 = ([], py_L (l / 4))
def py_249 (p q s l : Nat) : Prop := py_neg (py_L (p / 4)) (py_L (q / 4)) = py_neg (py_L (s / 4)) (py_L (l / 4))
def py_250 (c p q s l : Nat) : Prop := py_pop (py_bd (c / 4)) (py_L (p / 4)) (py_L (q / 4)) = py_pop (py_bd (c / 4)) (py_L (s / 4)) (py_L (l / 4))
def py_253 (p q s l : Nat) : Prop := py_neg (py_L (p / 4)) (py_L (q / 4)) = (py_L (s / 4), py_L (l / 4))
def py_260 (c p q s l : Nat) : Prop := py_pop (py_bd (c / 4)) (py_L (p / 4)) (py_L (q / 4)) = (py_L (s / 4), py_L (l / 4))
def py_256 (s c : Nat) : Prop := ∃ T, py_L (s / 4) = c / 4 :: T
def py_257 (t N n s l c : Nat) : Prop := py_cx t N n = py_neg (py_L (s / 4)) (c / 4 :: py_L (l / 4))
def py_258 (t N n c s l : Nat) : Prop := py_cx t N n = (c / 4 :: py_L (s / 4), py_L (l / 4))
section PYM
variable {t N n m s l p q c k s1 l1 d e : Nat}
theorem pm_cm6 (x : py_249 p q s l) (y : py_251 s c s1) (z : py_251 l1 c l) (hc : c / 4 = 1008) : py_249 p q s1 l1 := by
  unfold py_249 py_251 at *
  rw [x, y, z, hc]
  exact py_neg_c
theorem pm_cm7 (x : py_249 p q s l) (h : py_top (py_L (s / 4)) ≠ 1008) : py_253 p q s l := by
  unfold py_249 at x
  unfold py_253
  rw [x, py_neg_0 h]
theorem pm_cq1 (x : py_250 k p q s l) (y : py_251 s c s1) (z : py_251 l1 c l) (hc : py_bd (k / 4) ≤ py_bd (c / 4)) : py_250 k p q s1 l1 := by
  unfold py_250 py_251 at *
  rw [x, y, z]
  exact py_pop_c hc
theorem pm_mc4 (x : py_250 k p q s l) (h : py_bd (py_top (py_L (s / 4))) < py_bd (k / 4)) : py_260 k p q s l := by
  unfold py_250 at x
  unfold py_260
  rw [x, py_pop_0 h (by omega)]
theorem py_bd_1 (h : 1003 ≤ c) (h2 : c ≤ 1007) : 1 ≤ py_bd c := by
  unfold py_bd
  split
  · omega
  · split <;> omega
theorem py_bd_a (h : 1003 ≤ c) (h2 : c ≤ 1004) : py_bd c = 1 := if_pos (by omega)
theorem py_bd_b (h : 1005 ≤ c) (h2 : c ≤ 1007) : py_bd c = 2 := by
  unfold py_bd
  rw [if_neg (by omega), if_neg (by omega)]
theorem py_bd_c (h : 1008 ≤ c) (h2 : c ≤ 1009) : py_bd c = 0 := by
  unfold py_bd
  rw [if_neg (by omega), if_pos (by omega)]
theorem pm_cq3 {S : Nat} (h : pz7 t N n 9) (hk : pz_kd t N (pz_p (pz_cf t N n)) = 41) (hs : pz90 t N n S) (h1 : 1 < S) (hm : m / 4 = n + 1) (x : py_y246 t N n p q) (y : py_250 4012 p q s l) (z : py_251 s 4036 s1) : py_247 t N (m / 4) s1 l := by
  unfold py_y246 at x
  unfold py_250 py_251 at *
  unfold py_247
  rw [hm]
  refine py_sC h hk hs h1 ?_
  rw [x]
  refine (show py_pop 1 (py_L (p / 4)) (py_L (q / 4)) = py_pop 1 (py_L (s / 4)) (py_L (l / 4)) from y).trans ?_
  rw [z]
  rfl
theorem pm_cq5 (x : py_247 t N n p q) (y : py_253 p q s l) : py_y246 t N n s l := x.trans y
theorem pm_mv1 (h : pz7 t N n 8) (h40 : pz_kd t N (pz_p (pz_cf t N n)) ≠ 40) (h45 : pz_kd t N (pz_p (pz_cf t N n)) ≠ 45) (hm : m / 4 = n + 1) (x : py_y246 t N n s l) (hc : c / 4 = py_un t N (pz_p (pz_cf t N n))) : py_257 t N (m / 4) s l c := by
  unfold py_257
  rw [hm, hc]
  exact py_sU h h40 h45 x
theorem pm_mv2 (x : py_257 t N n s l c) (y : py_251 l1 c l) : py_247 t N n s l1 := by
  unfold py_251 at y
  unfold py_247
  rw [y]
  exact x
theorem pm_mvO (h : pz7 t N n 8) (hk : pz_kd t N (pz_p (pz_cf t N n)) = 40) (hm : m / 4 = n + 1) (x : py_y246 t N n s l) : py_258 t N (m / 4) 4036 s l := by
  unfold py_258
  rw [hm]
  exact py_sO h hk x
theorem pm_mvM (h : pz7 t N n 8) (hk : pz_kd t N (pz_p (pz_cf t N n)) = 45) (hm : m / 4 = n + 1) (x : py_y246 t N n s l) : py_258 t N (m / 4) 4032 s l := by
  unfold py_258
  rw [hm]
  exact py_sM h hk x
theorem pm_mv5 (x : py_258 t N n c s l) (y : py_251 s1 c s) : py_y246 t N n s1 l := by
  unfold py_251 at y
  unfold py_y246
  rw [y]
  exact x
theorem pm_mc2 (y : py_251 s d s1) (z : py_256 s e) : d / 4 = e / 4 := by
  obtain ⟨T, h⟩ := z
  unfold py_251 at y
  rw [y] at h
  injection h
theorem pm_mc5 (h : pz7 t N n 9) (ho : pz_op (pz_kd t N (pz_p (pz_cf t N n))) = true) (hc : c / 4 = py_op (pz_kd t N (pz_p (pz_cf t N n)))) (hm : m / 4 = n + 1) (x : py_y246 t N n p q) (y : py_260 c p q s l) (z : py_251 s1 c s) : py_y246 t N (m / 4) s1 l := by
  unfold py_y246 at x
  unfold py_260 py_251 at *
  unfold py_y246
  rw [hm, z, hc]
  refine py_sB h rfl ho ?_
  rw [x, ← hc]
  exact y
theorem pm_mw4 (x : py_y246 t N n p q) (y : py_250 4012 p q s l) (h : py_L (s / 4) = []) : py_248 t N n l := by
  unfold py_y246 at x
  unfold py_250 at y
  unfold py_248
  rw [x]
  refine (show py_pop 1 (py_L (p / 4)) (py_L (q / 4)) = py_pop 1 (py_L (s / 4)) (py_L (l / 4)) from y).trans ?_
  rw [h]
  rfl
theorem pm_t0 (h : pz7 t N n k) (h8 : k ≠ 8) (h9 : k ≠ 9) (hm : m / 4 = n + 1) (x : py_y246 t N n s l) : py_y246 t N (m / 4) s l := by
  unfold py_y246
  rw [hm]
  exact py_s0 h h8 h9 x
theorem pm_rk (h : pz7 t N n 3) (hf : pz_fk (pz_cf t N n) = false) (hm : m / 4 = n + 1) : py_y246 t N (m / 4) 5 5 := by
  refine pm_t0 h (by decide) (by decide) hm ?_
  rcases py_fk (t := t) (N := N) n with e | e | e
  · exact absurd (h.symm.trans e) (by decide)
  · rw [hf] at e; cases e
  · exact e.2.2
theorem pm_t1 {g : Nat} (x : py_261 g n l) (y : pz_y181 g n) (hm : m / 4 = n / 4 + 1) : py_y246 (pz_gt g) (pz_gN g) (m / 4) 5 l := by
  unfold py_y246
  rw [hm]
  rcases y with y | ⟨y1, y2, y3⟩
  · exact py_s0 y (by decide) (by decide) (x.2 y)
  · exact py_sE y1 (fun z => absurd z.2 (by rw [show pz_s (pz_cf (pz_gt g) (pz_gN g) (n / 4)) = 1 from y2]; decide)) y3 x.1
theorem pm_t2 {g : Nat} (x : py_y246 (pz_gt g) (pz_gN g) (n / 4) 5 l) : py_261 g n l := by
  unfold py_y246 at x
  unfold py_261
  rw [x]
  exact ⟨rfl, fun _ => rfl⟩
theorem pm_t3 {g : Nat} (h : pz7 (pz_gt g) (pz_gN g) (n / 4) 9) (x : py_248 (pz_gt g) (pz_gN g) (n / 4) l) : py_261 g n l := ⟨x, fun z => absurd (h.symm.trans z) (by decide)⟩
end PYM
theorem pm_242_0 {op : Nat → Option Nat} : py_y242 5 (some 0) op := by
  have e : py_L (5 / 4) = [] := rfl
  refine ⟨by decide, by rw [e]; rfl, ?_, ?_⟩
  · rw [e]; intro x hx; cases hx
  · rw [e]; intro i c hc; cases hc
theorem pm_241_0 {b : Nat} {rd : Option Nat} {ru : Nat → Option Nat} (h : ay_ln rd = 0) : py_y241 b 5 rd ru := by
  have e : py_L (5 / 4) = [] := rfl
  refine ⟨by decide, by rw [h, e]; rfl, ?_⟩
  rw [e]; intro i c hc; cases hc
theorem pm_82 {g n k l : Nat} (h : pz7 (pz_gt g) (pz_gN g) (n / 4) k) (hk : k = 0 ∨ k = 3) (h0 : pz_kd (pz_gt g) (pz_gN g) (pz_p (pz_cf (pz_gt g) (pz_gN g) (n / 4))) = 0) (x : py_y246 (pz_gt g) (pz_gN g) (n / 4) 5 l) (h1 : 1 ≤ l / 4) : py_82 g l := by
  refine ⟨n / 4 + 1, ?_, ?_, h1⟩
  · rw [pz_cf_s]
    unfold pz7 at h
    generalize pz_cf (pz_gt g) (pz_gN g) (n / 4) = c at *
    obtain ⟨md, p, no, ls, ⟨r, m, kk⟩, u, s, o, a, b⟩ := c
    simp only [pz_md, pz_p] at *
    unfold pz_st
    dsimp only
    rcases hk with rfl | rfl
    · subst h
      rw [if_pos rfl, if_pos h0]
    · subst h
      rw [if_neg (by decide), if_neg (by decide), if_neg (by decide), if_pos rfl, if_pos h0]
  · exact py_s0 h (by omega) (by omega) x
end
section
-- the reader
noncomputable def ay_isb (o : Option Nat) : Bool := match o with
  | some v => decide (1003 ≤ v / 4) && decide (v / 4 ≤ 1007)
  | none => false
noncomputable def ay_ism (o : Option Nat) : Bool := match o with
  | some v => decide (v / 4 = 1008) || decide (v / 4 = 1009)
  | none => false
noncomputable def ay_pg (b u x d e m : Nat) (op : Nat → Option Nat) (od : Nat) (ru : Nat → Option Nat) (rl un dp : Nat) : Prop :=
  (∃ h, ay_ht ru (100 * b) rl = some h ∧ h + u = 1 + ay_cnt (fun j => ay_isb (op j)) od + x) ∧ dp + 1 = ay_cnt (fun j => ay_ism (op j)) od + d ∧ rl + od + e + (1 - u) ≤ 2 * un ∧ (∀ j, j < od → op j = some 4032 → (j + 1 < od → ay_ism (op (j + 1)) = true) ∧ (j + 1 = od → m = 1)) ∧ ∀ j, j < od → ∃ c, op j = some (4 * c) ∧ 1003 ≤ c ∧ c ≤ 1009
noncomputable def ay_M40 (b u x d e m : Nat) (op : Nat → Option Nat) (od : Option Nat) (ru : Nat → Option Nat) (rl un dp : Option Nat) : Prop := ay_pg b (u / 4) (x / 4) (d / 4) (e / 4) (m / 4) op (ay_ln od) ru (ay_ln rl) (ay_ln un) (ay_ln dp)
noncomputable def ay_M42 (rl un : Option Nat) : Prop := ay_ln rl = 0 ∧ ay_ln un = 0
noncomputable def ay_M50 (b : Nat) (no ro ln : Option Nat) (en : Nat → Option Nat) (fo : Option Nat) : Prop := fo = some 0 → ay_ln no ≤ 10 ∧ ay_ln ro ≤ 9 ∧ ay_M25 b en no ln
noncomputable def ay_M52 (b : Nat) (ru : Nat → Option Nat) (rl un fo hr : Option Nat) : Prop := (fo = some 0 → ay_M26 b ru rl) ∧ (hr = some 0 → ay_ln rl = 0 ∧ ay_ln un = 0)
noncomputable def ay_M53 (k u : Nat) (un dp : Option Nat) : Prop := 20 * (40 - ay_ln un) + 2 * ay_ln dp + (1 - u / 4) ≤ k / 4
noncomputable def ay_M55 (k : Nat) (un : Option Nat) : Prop := 20 * (40 - ay_ln un) + 13 ≤ k / 4
noncomputable def ay_M54 (k : Nat) (ln h1 h2 h3 : Option Nat) : Prop := (20 - ay_ln ln) + (1 - ay_ln h1) + (1 - ay_ln h2) + (1 - ay_ln h3) + 1 ≤ k / 4
noncomputable def ay_M56 (k : Nat) (od : Option Nat) : Prop := ay_ln od ≤ k / 4
noncomputable def ay_M57 (od : Option Nat) (op : Nat → Option Nat) : Prop := 1 ≤ ay_ln od ∧ ay_isb (op (ay_ln od - 1)) = true
noncomputable def ay_M58 (od : Option Nat) (op : Nat → Option Nat) : Prop := 1 ≤ ay_ln od ∧ op (ay_ln od - 1) = some 4032
noncomputable def ay_M59 (od : Option Nat) (op : Nat → Option Nat) : Prop := ay_isb (op (ay_ln od)) = true
noncomputable def ay_M61 (od : Option Nat) (op : Nat → Option Nat) : Prop := op (ay_ln od) = some 4032
noncomputable def ay_M62 (fo tk at_ sz : Option Nat) (tp : Nat → Option Nat) : Prop := fo = some 0 ∧ tk = some 16 ∧ ay_ln at_ < ay_ln sz ∧ (tp (ay_ln at_) = some 172 ∨ tp (ay_ln at_) = some 180 ∨ tp (ay_ln at_) = some 168 ∨ tp (ay_ln at_) = some 188 ∨ tp (ay_ln at_) = some 148)
noncomputable def ay_M64 (b : Nat) (en : Nat → Option Nat) (ln no : Option Nat) : Prop := ∃ t, en (40 * b + 2 * ay_ln ln) = some (4 * t) ∧ t < ay_ln no
noncomputable def ay_M65 (b : Nat) (en : Nat → Option Nat) (ln no : Option Nat) : Prop := (∃ t, en (40 * b + 2 * ay_ln ln) = some (4 * t) ∧ t < ay_ln no) ∧ ∃ t, en (40 * b + 2 * ay_ln ln + 1) = some (4 * t) ∧ t < ay_ln no
theorem ay_ht_same {ru ru' : Nat → Option Nat} {o : Nat} : ∀ {k : Nat}, (∀ j, j < k → ru' (o + j) = ru (o + j)) → ay_ht ru' o k = ay_ht ru o k
  | 0, _ => rfl
  | k + 1, h => by
    show (match ay_ht ru' o k, ru' (o + k) with
      | some h, some v => ay_stp h v
      | _, _ => none) = (match ay_ht ru o k, ru (o + k) with
      | some h, some v => ay_stp h v
      | _, _ => none)
    rw [h k (by omega), ay_ht_same (k := k) (fun j hj => h j (by omega))]
theorem ay_ht_pre {ru : Nat → Option Nat} {o : Nat} : ∀ {k : Nat}, ay_ht ru o k ≠ none → ∀ j, j ≤ k → ay_ht ru o j ≠ none
  | 0, h, j, hj => by
    have : j = 0 := by omega
    rw [this]
    exact h
  | k + 1, h, j, hj => by
    by_cases e : j = k + 1
    · rw [e]; exact h
    · refine ay_ht_pre (k := k) (fun z => h ?_) j (by omega)
      show (match ay_ht ru o k, ru (o + k) with
        | some h, some v => ay_stp h v
        | _, _ => none) = none
      rw [z]
theorem ay_isb_c {c : Nat} (h1 : 1003 ≤ c) (h2 : c ≤ 1007) : ay_isb (some (4 * c)) = true := by
  show (decide (1003 ≤ 4 * c / 4) && decide (4 * c / 4 ≤ 1007)) = true
  rw [show 4 * c / 4 = c by omega]
  exact rx_and2.mpr ⟨decide_eq_true h1, decide_eq_true h2⟩
theorem ay_isb_n {c : Nat} (h : c < 1003 ∨ 1007 < c) : ay_isb (some (4 * c)) = false := by
  refine Bool.eq_false_iff.mpr (fun z => ?_)
  replace z : (decide (1003 ≤ 4 * c / 4) && decide (4 * c / 4 ≤ 1007)) = true := z
  obtain ⟨z1, z2⟩ := rx_and2.mp z
  have z1 := of_decide_eq_true z1
  have z2 := of_decide_eq_true z2
  omega
theorem ay_ism_c {c : Nat} (h : c = 1008 ∨ c = 1009) : ay_ism (some (4 * c)) = true := by
  rcases h with rfl | rfl <;> decide
theorem ay_ism_n {c : Nat} (h : c < 1008) : ay_ism (some (4 * c)) = false := by
  refine Bool.eq_false_iff.mpr (fun z => ?_)
  replace z : (decide (4 * c / 4 = 1008) || decide (4 * c / 4 = 1009)) = true := z
  rcases rx_or2.mp z with z | z
  · have z := of_decide_eq_true z; omega
  · have z := of_decide_eq_true z; omega
section AYP
variable {b u x d e m od rl un dp : Nat} {op op' ru ru' : Nat → Option Nat}
/-- what lies beyond does not matter -/
theorem ay_pg_far (h : ay_pg b u x d e m op od ru rl un dp) (h1 : ∀ j, j < od → op' j = op j) (h2 : ∀ j, j < rl → ru' (100 * b + j) = ru (100 * b + j)) : ay_pg b u x d e m op' od ru' rl un dp := by
  obtain ⟨⟨h0, p1, p2⟩, p3, p4, p5, p6⟩ := h
  refine ⟨⟨h0, by rw [ay_ht_same h2]; exact p1, by rw [ay_cnt_same (p := fun j => ay_isb (op j)) (fun j hj => by rw [h1 j hj])]; exact p2⟩, by rw [ay_cnt_same (p := fun j => ay_ism (op j)) (fun j hj => by rw [h1 j hj])]; exact p3, p4, ?_, ?_⟩
  · intro j hj hm
    rw [h1 j hj] at hm
    refine ⟨fun hl => ?_, (p5 j hj hm).2⟩
    rw [h1 (j + 1) hl]
    exact (p5 j hj hm).1 hl
  · intro j hj
    rw [h1 j hj]
    exact p6 j hj
theorem ay_pg_bound (h : ay_pg b u x d e m op od ru rl un dp) : rl ≤ 2 * un ∧ od ≤ 2 * un := by
  obtain ⟨-, -, p4, -⟩ := h
  omega
theorem ay_pg_O {c : Nat} (h : ay_pg b 1 0 1 2 1 op od ru rl un dp) (hr : ru (100 * b + rl) = some (4 * c)) (hc : c ≤ 1002) : ay_pg b 0 0 1 0 1 op od ru (rl + 1) un dp := by
  obtain ⟨⟨h0, p1, p2⟩, p3, p4, p5, p6⟩ := h
  refine ⟨⟨h0 + 1, ?_, by omega⟩, p3, by omega, p5, p6⟩
  rw [ay_ht_s p1 hr]
  unfold ay_stp
  rw [if_pos (by omega)]
theorem ay_pg_B {c : Nat} (h : ay_pg b 0 1 1 1 0 op od ru rl un dp) (hr : ru (100 * b + rl) = some (4 * c)) (h1 : 1003 ≤ c) (h2 : c ≤ 1007) : ay_pg b 0 0 1 0 0 op od ru (rl + 1) un dp := by
  obtain ⟨⟨h0, p1, p2⟩, p3, p4, p5, p6⟩ := h
  refine ⟨⟨h0 - 1, ?_, by omega⟩, p3, by omega, p5, p6⟩
  rw [ay_ht_s p1 hr]
  unfold ay_stp
  rw [if_neg (by omega), if_neg (by omega), if_pos (by omega), if_pos (by omega)]
theorem ay_pg_M (h : ay_pg b 0 0 2 1 1 op od ru rl un dp) (hr : ru (100 * b + rl) = some (4 * 1008)) : ay_pg b 0 0 2 0 1 op od ru (rl + 1) un dp := by
  obtain ⟨⟨h0, p1, p2⟩, p3, p4, p5, p6⟩ := h
  refine ⟨⟨h0, ?_, by omega⟩, p3, by omega, p5, p6⟩
  rw [ay_ht_s p1 hr]
  unfold ay_stp
  rw [if_neg (by omega), if_pos (by omega), if_pos (by omega)]
theorem ay_cnt_s {p : Nat → Bool} (n : Nat) : ay_cnt p (n + 1) = (if p n = true then 1 else 0) + ay_cnt p n := rfl
theorem ay_pg_pP {c : Nat} (h : ay_pg b 1 0 1 2 1 op od ru rl un dp) (ho : op od = some (4 * c)) (hc : c = 1008 ∨ c = 1009) : ay_pg b 1 0 0 1 1 op (od + 1) ru rl un dp := by
  obtain ⟨⟨h0, p1, p2⟩, p3, p4, p5, p6⟩ := h
  have i1 : ay_isb (op od) = false := by rw [ho]; exact ay_isb_n (by omega)
  have i2 : ay_ism (op od) = true := by rw [ho]; exact ay_ism_c hc
  refine ⟨⟨h0, p1, ?_⟩, ?_, by omega, ?_, ?_⟩
  · rw [ay_cnt_s]
    show h0 + 1 = 1 + ((if ay_isb (op od) = true then 1 else 0) + _) + 0
    rw [i1, if_neg (by decide)]
    omega
  · rw [ay_cnt_s]
    show dp + 1 = (if ay_ism (op od) = true then 1 else 0) + _ + 0
    rw [i2, if_pos rfl]
    omega
  · intro j hj hm
    refine ⟨fun hl => ?_, fun _ => rfl⟩
    by_cases e1 : j + 1 = od
    · rw [e1]; exact i2
    · exact (p5 j (by omega) hm).1 (by omega)
  · intro j hj
    by_cases e1 : j = od
    · rw [e1]; exact ⟨c, ho, by omega, by omega⟩
    · exact p6 j (by omega)
theorem ay_pg_pB {c : Nat} (h : ay_pg b 0 0 1 0 0 op od ru rl un dp) (ho : op od = some (4 * c)) (h1 : 1003 ≤ c) (h2 : c ≤ 1007) : ay_pg b 1 0 1 0 1 op (od + 1) ru rl un dp := by
  obtain ⟨⟨h0, p1, p2⟩, p3, p4, p5, p6⟩ := h
  have i1 : ay_isb (op od) = true := by rw [ho]; exact ay_isb_c h1 h2
  have i2 : ay_ism (op od) = false := by rw [ho]; exact ay_ism_n (by omega)
  refine ⟨⟨h0, p1, ?_⟩, ?_, by omega, ?_, ?_⟩
  · rw [ay_cnt_s]
    show h0 + 1 = 1 + ((if ay_isb (op od) = true then 1 else 0) + _) + 0
    rw [i1, if_pos rfl]
    omega
  · rw [ay_cnt_s]
    show dp + 1 = (if ay_ism (op od) = true then 1 else 0) + _ + 1
    rw [i2, if_neg (by decide)]
    omega
  · intro j hj hm
    refine ⟨fun hl => ?_, fun _ => rfl⟩
    by_cases e1 : j + 1 = od
    · have := (p5 j (by omega) hm).2 e1
      omega
    · exact (p5 j (by omega) hm).1 (by omega)
  · intro j hj
    by_cases e1 : j = od
    · rw [e1]; exact ⟨c, ho, by omega, by omega⟩
    · exact p6 j (by omega)
theorem ay_pg_qB (h : ay_pg b 0 0 1 0 0 op (od + 1) ru rl un dp) (ho : ay_isb (op od) = true) : ay_pg b 0 1 1 1 0 op od ru rl un dp := by
  obtain ⟨⟨h0, p1, p2⟩, p3, p4, p5, p6⟩ := h
  obtain ⟨c, hc, hc1, hc2⟩ := p6 od (by omega)
  have hc3 : c ≤ 1007 := by
    rw [hc] at ho
    replace ho : (decide (1003 ≤ 4 * c / 4) && decide (4 * c / 4 ≤ 1007)) = true := ho
    have := of_decide_eq_true (rx_and2.mp ho).2
    omega
  have i2 : ay_ism (op od) = false := by rw [hc]; exact ay_ism_n (by omega)
  rw [ay_cnt_s] at p2 p3
  replace p2 : h0 + 0 = 1 + ((if ay_isb (op od) = true then 1 else 0) + ay_cnt (fun j => ay_isb (op j)) od) + 0 := p2
  replace p3 : dp + 1 = (if ay_ism (op od) = true then 1 else 0) + ay_cnt (fun j => ay_ism (op j)) od + 1 := p3
  rw [ho, if_pos rfl] at p2
  rw [i2, if_neg (by decide)] at p3
  refine ⟨⟨h0, p1, by omega⟩, by omega, by omega, ?_, fun j hj => p6 j (by omega)⟩
  intro j hj hm
  refine ⟨fun hl => (p5 j (by omega) hm).1 (by omega), fun hl => ?_⟩
  have := (p5 j (by omega) hm).1 (by omega)
  rw [hl, i2] at this
  cases this
theorem ay_pg_qM {m : Nat} {c : Nat} (h : ay_pg b 0 0 1 0 m op (od + 1) ru rl un dp) (ho : op od = some (4 * c)) (hc : c = 1008 ∨ c = 1009) : ay_pg b 0 0 2 1 1 op od ru rl un dp := by
  obtain ⟨⟨h0, p1, p2⟩, p3, p4, p5, p6⟩ := h
  have i1 : ay_isb (op od) = false := by rw [ho]; exact ay_isb_n (by omega)
  have i2 : ay_ism (op od) = true := by rw [ho]; exact ay_ism_c hc
  rw [ay_cnt_s] at p2 p3
  replace p2 : h0 + 0 = 1 + ((if ay_isb (op od) = true then 1 else 0) + ay_cnt (fun j => ay_isb (op j)) od) + 0 := p2
  replace p3 : dp + 1 = (if ay_ism (op od) = true then 1 else 0) + ay_cnt (fun j => ay_ism (op j)) od + 1 := p3
  rw [i1, if_neg (by decide)] at p2
  rw [i2, if_pos rfl] at p3
  refine ⟨⟨h0, p1, by omega⟩, by omega, by omega, ?_, fun j hj => p6 j (by omega)⟩
  intro j hj hm
  exact ⟨fun hl => (p5 j (by omega) hm).1 (by omega), fun _ => rfl⟩
theorem ay_pg_d1 (h : ay_pg b 0 0 2 e 1 op od ru rl un (dp + 1)) : ay_pg b 0 0 1 0 1 op od ru rl un dp := by
  obtain ⟨⟨h0, p1, p2⟩, p3, p4, p5, p6⟩ := h
  exact ⟨⟨h0, p1, p2⟩, by omega, by omega, p5, p6⟩
theorem ay_pg_d0 (h : ay_pg b 0 0 2 e 1 op od ru rl un dp) : 1 ≤ dp := by
  obtain ⟨-, p3, -⟩ := h
  omega
theorem ay_pg_du (h : ay_pg b 1 0 0 1 1 op od ru rl un dp) : ay_pg b 1 0 1 0 1 op od ru rl un (dp + 1) := by
  obtain ⟨⟨h0, p1, p2⟩, p3, p4, p5, p6⟩ := h
  exact ⟨⟨h0, p1, p2⟩, by omega, by omega, p5, p6⟩
theorem ay_pg_un (h : ay_pg b 1 0 1 0 1 op od ru rl un dp) : ay_pg b 1 0 1 2 1 op od ru rl (un + 1) dp := by
  obtain ⟨⟨h0, p1, p2⟩, p3, p4, p5, p6⟩ := h
  exact ⟨⟨h0, p1, p2⟩, p3, by omega, p5, p6⟩
theorem ay_pg_m0 (h : ay_pg b 0 0 1 0 1 op od ru rl un dp) (ht : 1 ≤ od → op (od - 1) ≠ some 4032) : ay_pg b 0 0 1 0 0 op od ru rl un dp := by
  obtain ⟨⟨h0, p1, p2⟩, p3, p4, p5, p6⟩ := h
  refine ⟨⟨h0, p1, p2⟩, p3, p4, ?_, p6⟩
  intro j hj hm
  refine ⟨(p5 j hj hm).1, fun hl => ?_⟩
  exfalso
  refine ht (by omega) ?_
  rw [show od - 1 = j by omega]
  exact hm
theorem ay_pg_top (h : ay_pg b 0 0 1 0 0 op (od + 1) ru rl un dp) {c : Nat} (ho : op od = some (4 * c)) : (1003 ≤ c ∧ c ≤ 1007) ∨ c = 1009 := by
  obtain ⟨-, -, -, p5, p6⟩ := h
  obtain ⟨c', hc, hc1, hc2⟩ := p6 od (by omega)
  rw [ho] at hc
  have e1 : c = c' := by have := Option.some.inj hc; omega
  by_cases e2 : c = 1008
  · exfalso
    have := (p5 od (by omega) (by rw [ho, e2])).2 rfl
    omega
  · omega
/-- nothing is open -/
theorem ay_pg_deep (h : ay_pg b 0 0 1 0 0 op od ru rl un dp) (hd : 1 ≤ dp) : 1 ≤ od := by
  obtain ⟨-, p3, -⟩ := h
  rcases Nat.eq_zero_or_pos od with h0 | h0
  · rw [h0] at p3
    replace p3 : dp + 1 = 0 + 1 := p3
    omega
  · exact h0
theorem ay_pg_flat (h : ay_pg b 0 0 1 0 0 op (od + 1) ru rl un 0) : ay_isb (op od) = true := by
  obtain ⟨-, p3, -, p5, p6⟩ := h
  obtain ⟨c, hc, hc1, hc2⟩ := p6 od (by omega)
  rw [ay_cnt_s] at p3
  replace p3 : 0 + 1 = (if ay_ism (op od) = true then 1 else 0) + ay_cnt (fun j => ay_ism (op j)) od + 1 := p3
  by_cases e1 : c ≤ 1007
  · rw [hc]; exact ay_isb_c hc1 e1
  · exfalso
    rw [hc, ay_ism_c (by omega), if_pos rfl] at p3
    omega
theorem ay_pg_end (h : ay_pg b 0 0 1 0 0 op 0 ru rl un dp) : ∀ k, k ≤ rl → ay_ht ru (100 * b) k ≠ none := by
  obtain ⟨⟨h0, p1, -⟩, -⟩ := h
  exact ay_ht_pre (by rw [p1]; exact fun z => by cases z)
theorem ay_pg_0 : ay_pg b 1 0 1 0 1 op 0 ru 0 0 0 := ⟨⟨0, rfl, rfl⟩, rfl, Nat.le_refl _, fun j hj => absurd hj (Nat.not_lt_zero _), fun j hj => absurd hj (Nat.not_lt_zero _)⟩
end AYP
theorem pz_isb {o : Option Nat} (h : ay_isb o = true) : o ≠ some 4036 ∧ o ≠ some 4032 := by
  constructor
  · intro z
    rw [z] at h
    exact absurd h (by decide)
  · intro z
    rw [z] at h
    exact absurd h (by decide)
noncomputable def ax_XMq0 (b : Nat) : ax_X := fun x vs hp => match x, vs with
  | 0, [k] => ax_M0 k hp
  | 1, [] => ax_M1 202 hp
  | 2, [] => ax_M1 203 hp
  | 3, [] => ax_M3 hp
  | 4, [p] => ax_M4 p hp
  | 5, [s, c] => ax_M5 s c hp
  | 6, [k, s, n] => ax_M6 k s n
  | 7, [k, s] => ax_M7 k s
  | 8, [s, c] => ay_ex hp 199 ∧ ay_M8 s c (ay_at hp 199)
  | 9, [f, i] => ay_ex hp 199 ∧ ay_M9 f i (ay_at hp 199)
  | 10, [f, i] => ay_ex hp 199 ∧ ay_M10 f i (ay_at hp 199)
  | 11, [f] => ay_ex hp 199 ∧ ay_ex hp 198 ∧ ay_ex hp 181 ∧ ay_M11 b f (ay_at hp 199) (ay_at hp 198) (ay_at hp 181)
  | 12, [k, f, v] => ay_ex hp 199 ∧ ay_ex hp 198 ∧ ay_ex hp 181 ∧ ay_M12 b k f v (ay_at hp 199) (ay_at hp 198) (ay_at hp 181)
  | 13, [k, f, v] => ay_ex hp 199 ∧ ay_ex hp 198 ∧ ay_ex hp 181 ∧ ay_M13 b k f v (ay_at hp 199) (ay_at hp 198) (ay_at hp 181)
  | 14, [k, f] => ay_ex hp 198 ∧ ay_ex hp 181 ∧ ay_M14 b k f (ay_at hp 198) (ay_at hp 181)
  | 15, [k, f, v] => ay_ex hp 198 ∧ ay_ex hp 181 ∧ ay_M15 b k f v (ay_at hp 198) (ay_at hp 181)
  | _, _ => True
noncomputable def ax_XMq1 (b : Nat) : ax_X := fun x vs hp => match x, vs with
  | 0, [k, f, v] => ay_ex hp 198 ∧ ay_ex hp 181 ∧ ay_ex hp 199 ∧ ay_M16 b k f v (ay_at hp 199) (ay_at hp 198) (ay_at hp 181)
  | 1, [k] => ay_ex hp 188 ∧ ay_ex hp 174 ∧ ay_ex hp 176 ∧ ay_M17 k (ay_at hp 188) (ay_at hp 174) (ay_at hp 176 b)
  | 2, [n, l] => ay_ex hp 188 ∧ ay_ex hp 174 ∧ ay_ex hp 176 ∧ ay_ex hp 200 ∧ ay_M18 n l (ay_at hp 188) (ay_at hp 174) (ay_at hp 200) (ay_at hp 176 b)
  | 3, [n] => ay_ex hp 188 ∧ ay_ex hp 174 ∧ ay_ex hp 176 ∧ ay_ex hp 200 ∧ ay_M19 n (ay_at hp 188) (ay_at hp 174) (ay_at hp 200) (ay_at hp 176 b)
  | 4, [k, l] => ay_ex hp 188 ∧ ay_ex hp 174 ∧ ay_ex hp 176 ∧ ay_ex hp 200 ∧ ay_M20 k l (ay_at hp 188) (ay_at hp 174) (ay_at hp 200) (ay_at hp 176 b)
  | 5, [k, l] => ay_ex hp 188 ∧ ay_ex hp 174 ∧ ay_ex hp 176 ∧ ay_ex hp 200 ∧ ay_M21 k l (ay_at hp 188) (ay_at hp 174) (ay_at hp 200) (ay_at hp 176 b)
  | 6, [] => ay_ex hp 188 ∧ ay_ex hp 174 ∧ ay_ex hp 176 ∧ ay_ex hp 200 ∧ ay_M22 (ay_at hp 188) (ay_at hp 174) (ay_at hp 200) (ay_at hp 176 b)
  | 8, [] => ay_ex hp 194 ∧ ay_ex hp 191 ∧ ay_ex hp 181 ∧ ay_ex hp 174 ∧ ay_ex hp 175 ∧ ay_ex hp 176 ∧ ay_M24 b (ay_at hp 194) (ay_at hp 191) (ay_at hp 181) (ay_at hp 174) (ay_at hp 175 b) (ay_at hp 176 b)
  | 9, [] => ay_ex hp 181 ∧ ay_ex hp 175 ∧ ay_ex hp 176 ∧ ay_M25 b (ay_at hp 181) (ay_at hp 175 b) (ay_at hp 176 b)
  | 10, [] => ay_ex hp 182 ∧ ay_ex hp 180 ∧ ay_M26 b (ay_at hp 182) (ay_at hp 180 b)
  | 12, [g, v, s, c] => ay_ex hp 191 ∧ ay_ex hp 181 ∧ ay_ex hp 174 ∧ ay_ex hp 176 ∧ ay_M28 b g v s c (ay_at hp 191) (ay_at hp 181) (ay_at hp 174) (ay_at hp 176 b)
  | 13, [g, v, s] => ay_ex hp 194 ∧ ay_ex hp 191 ∧ ay_ex hp 181 ∧ ay_ex hp 174 ∧ ay_ex hp 175 ∧ ay_ex hp 176 ∧ ay_M29 b g v s (ay_at hp 194) (ay_at hp 191) (ay_at hp 181) (ay_at hp 174) (ay_at hp 175 b) (ay_at hp 176 b)
  | 14, [g, v, s] => ay_ex hp 194 ∧ ay_ex hp 191 ∧ ay_ex hp 181 ∧ ay_ex hp 174 ∧ ay_ex hp 175 ∧ ay_ex hp 176 ∧ ay_M30 b g v s (ay_at hp 194) (ay_at hp 191) (ay_at hp 181) (ay_at hp 174) (ay_at hp 175 b) (ay_at hp 176 b)
  | 15, [f, t, i, n, v, s, c] => ay_ex hp 194 ∧ ay_ex hp 181 ∧ ay_ex hp 174 ∧ ay_M31 b f t i n v s c (ay_at hp 194) (ay_at hp 181) (ay_at hp 174)
  | _, _ => True
noncomputable def ax_XMq2 (b : Nat) : ax_X := fun x vs hp => match x, vs with
  | 0, [f, t, i, c] => ay_ex hp 194 ∧ ay_ex hp 181 ∧ ay_ex hp 174 ∧ ay_M32 b f t i c (ay_at hp 194) (ay_at hp 181) (ay_at hp 174)
  | 1, [f, t, i, n, v, s] => ay_ex hp 194 ∧ ay_ex hp 181 ∧ ay_ex hp 174 ∧ ay_M33 b f t i n v s (ay_at hp 194) (ay_at hp 181) (ay_at hp 174)
  | 2, [f, t, i] => ay_ex hp 194 ∧ ay_ex hp 181 ∧ ay_ex hp 174 ∧ ay_M34 b f t i (ay_at hp 194) (ay_at hp 181) (ay_at hp 174)
  | 4, [n, k] => ay_ex hp 182 ∧ ay_ex hp 180 ∧ ay_M36 b n k (ay_at hp 182)
  | 8, [u, x, d, e, m] => ay_ex hp 185 ∧ ay_ex hp 173 ∧ ay_ex hp 182 ∧ ay_ex hp 180 ∧ ay_ex hp 179 ∧ ay_ex hp 173 ∧ ay_M40 (1 - b) u x d e m (ay_at hp 185) (ay_at hp 173 27) (ay_at hp 182) (ay_at hp 180 (1 - b)) (ay_at hp 179 (1 - b)) (ay_at hp 173 28)
  | 10, [] => ay_ex hp 180 ∧ ay_ex hp 179 ∧ ay_M42 (ay_at hp 180 (1 - b)) (ay_at hp 179 (1 - b))
  | _, _ => True
noncomputable def ax_XMq3 (b : Nat) : ax_X := fun x vs hp => match x, vs with
  | 2, [] => ay_ex hp 175 ∧ ay_ex hp 177 ∧ ay_ex hp 176 ∧ ay_ex hp 181 ∧ ay_ex hp 173 ∧ ay_M50 (1 - b) (ay_at hp 175 (1 - b)) (ay_at hp 177 (1 - b)) (ay_at hp 176 (1 - b)) (ay_at hp 181) (ay_at hp 173 18)
  | 4, [] => ay_ex hp 182 ∧ ay_ex hp 180 ∧ ay_ex hp 179 ∧ ay_ex hp 173 ∧ ay_ex hp 173 ∧ ay_M52 (1 - b) (ay_at hp 182) (ay_at hp 180 (1 - b)) (ay_at hp 179 (1 - b)) (ay_at hp 173 18) (ay_at hp 173 24)
  | 5, [k, u] => ay_ex hp 179 ∧ ay_ex hp 173 ∧ ay_M53 k u (ay_at hp 179 (1 - b)) (ay_at hp 173 28)
  | 6, [k] => ay_ex hp 176 ∧ ay_ex hp 173 ∧ ay_ex hp 173 ∧ ay_ex hp 173 ∧ ay_M54 k (ay_at hp 176 (1 - b)) (ay_at hp 173 23) (ay_at hp 173 24) (ay_at hp 173 25)
  | 7, [k] => ay_ex hp 179 ∧ ay_M55 k (ay_at hp 179 (1 - b))
  | 8, [k] => ay_ex hp 173 ∧ ay_M56 k (ay_at hp 173 27)
  | 9, [] => ay_ex hp 173 ∧ ay_ex hp 185 ∧ ay_M57 (ay_at hp 173 27) (ay_at hp 185)
  | 10, [] => ay_ex hp 173 ∧ ay_ex hp 185 ∧ ay_M58 (ay_at hp 173 27) (ay_at hp 185)
  | 11, [] => ay_ex hp 173 ∧ ay_ex hp 185 ∧ ay_M59 (ay_at hp 173 27) (ay_at hp 185)
  | 13, [] => ay_ex hp 173 ∧ ay_ex hp 185 ∧ ay_M61 (ay_at hp 173 27) (ay_at hp 185)
  | 14, [] => ay_ex hp 173 ∧ ay_ex hp 173 ∧ ay_ex hp 173 ∧ ay_ex hp 173 ∧ ay_ex hp 183 ∧ ay_M62 (ay_at hp 173 18) (ay_at hp 173 15) (ay_at hp 173 14) (ay_at hp 173 12) (ay_at hp 183)
  | _, _ => True
noncomputable def ax_XMq4 (b : Nat) : ax_X := fun x vs hp => match x, vs with
  | 0, [] => ay_ex hp 181 ∧ ay_ex hp 176 ∧ ay_ex hp 175 ∧ ay_M64 (1 - b) (ay_at hp 181) (ay_at hp 176 (1 - b)) (ay_at hp 175 (1 - b))
  | 1, [] => ay_ex hp 181 ∧ ay_ex hp 176 ∧ ay_ex hp 175 ∧ ay_M65 (1 - b) (ay_at hp 181) (ay_at hp 176 (1 - b)) (ay_at hp 175 (1 - b))
  | _, _ => True
noncomputable def ax_XMq8 (b : Nat) : ax_X := fun x vs hp => match x, vs with
  | 2, [g] => ay_ex hp 173 ∧ ay_ex hp 183 ∧ pz_x30 g (ay_at hp 173 11) (ay_at hp 183)
  | 3, [g] => ay_ex hp 173 ∧ ay_ex hp 183 ∧ pz_x30 g (ay_at hp 173 12) (ay_at hp 183)
  | 6, [g, p, q, u, v, w, k, r] => pz_y134 g p q u v w k r
  | 7, [g] => ay_ex hp 183 ∧ pz_y135 g (ay_at hp 183)
  | 8, [g, p, q, u, v, w, k, r] => pz_y136 g p q u v w k r
  | 9, [g, p, q, u, v, w, r] => r = pz_a20 (p / 4) (q / 4) (u / 4) (v / 4) (w / 4) g 20
  | 10, [g, n, r] => r = pz_cut g (n / 4)
  | 11, [g, s] => pz_gN g = s / 4
  | _, _ => True
noncomputable def ax_XMq9 (b : Nat) : ax_X := fun x vs hp => match x, vs with
  | 7, [g, n] => ay_ex hp 173 ∧ ay_ex hp 173 ∧ ay_ex hp 173 ∧ ay_ex hp 173 ∧ ay_ex hp 173 ∧ pz_y151 g n (ay_at hp 173 13) (ay_at hp 173 14) (ay_at hp 173 15) (ay_at hp 173 16) (ay_at hp 173 17)
  | 8, [g, n] => ay_ex hp 175 ∧ ay_ex hp 176 ∧ ay_ex hp 177 ∧ ay_ex hp 178 ∧ ay_ex hp 179 ∧ ay_ex hp 173 ∧ ay_ex hp 173 ∧ ay_ex hp 173 ∧ ay_ex hp 173 ∧ ay_ex hp 173 ∧ ay_ex hp 181 ∧ pz_y152 (1 - b) g n (ay_at hp 175 (1 - b)) (ay_at hp 176 (1 - b)) (ay_at hp 177 (1 - b)) (ay_at hp 178 (1 - b)) (ay_at hp 179 (1 - b)) (ay_at hp 173 23) (ay_at hp 173 25) (ay_at hp 173 24) (ay_at hp 173 18) (ay_at hp 173 19) (ay_at hp 181)
  | 9, [g, n] => ay_ex hp 173 ∧ pz_at (pz_gt g) (pz_gN g) (ay_ln (ay_at hp 173 13)) = pz_at (pz_gt g) (pz_gN g) (pz_p (pz_cF g n))
  | 10, [g, n] => ay_ex hp 173 ∧ ay_ln (ay_at hp 173 14) = pz_at (pz_gt g) (pz_gN g) (pz_p (pz_cF g n))
  | 11, [g, n] => ay_ex hp 173 ∧ pz_e pz_lt (pz_gt g) (pz_gN g) (ay_ln (ay_at hp 173 13)) = pz_nx (pz_gt g) (pz_gN g) (pz_p (pz_cF g n))
  | 12, [g, n] => ay_ex hp 173 ∧ ay_ln (ay_at hp 173 13) = pz_nx (pz_gt g) (pz_gN g) (pz_p (pz_cF g n))
  | 13, [g, n] => ay_ex hp 173 ∧ pz_at (pz_gt g) (pz_gN g) (ay_ln (ay_at hp 173 14)) = pz_at (pz_gt g) (pz_gN g) (pz_p (pz_cF g n))
  | 14, [g, n] => ay_ex hp 173 ∧ ay_ex hp 173 ∧ pz_y158 g n (ay_at hp 173 13) (ay_at hp 173 16)
  | 15, [g, n] => ay_ex hp 173 ∧ ay_ex hp 173 ∧ pz_y159 g n (ay_at hp 173 13) (ay_at hp 173 16)
  | _, _ => True
noncomputable def ax_XMq10 (b : Nat) : ax_X := fun x vs hp => match x, vs with
  | 0, [g, n, w] => pz60 (pz_gt g) (pz_gN g) (n / 4) (w / 4)
  | 1, [g, n, w] => pz61 (pz_gt g) (pz_gN g) (n / 4) (w / 4)
  | 2, [g, n, w, v] => pz_y162 g n w v
  | 3, [g] => ay_ex hp 173 ∧ ay_ex hp 173 ∧ pz63 (pz_gt g) (pz_gN g) (ay_ln (ay_at hp 173 18)) (ay_ln (ay_at hp 173 19))
  | 4, [g, n, k] => pz64 (pz_gt g) (pz_gN g) (n / 4) (k / 4)
  | 5, [g, n, k] => ay_ex hp 173 ∧ ay_ex hp 173 ∧ pz_y165 g n k (ay_at hp 173 14) (ay_at hp 173 18)
  | 6, [g, n, v] => pz66 (pz_gt g) (pz_gN g) (n / 4) (v / 4)
  | 7, [g, n, a] => pz67 (pz_gt g) (pz_gN g) (n / 4) (a / 4)
  | 8, [g, n, k] => pz_kd (pz_gt g) (pz_gN g) (pz_p (pz_cF g n)) = k / 4
  | 9, [g, n, k] => pz_kd (pz_gt g) (pz_gN g) (pz_p (pz_cF g n)) ≠ k / 4
  | 10, [g, n] => pz7 (pz_gt g) (pz_gN g) (n / 4) 0
  | 11, [g, n] => pz7 (pz_gt g) (pz_gN g) (n / 4) 1
  | 12, [g, n] => pz7 (pz_gt g) (pz_gN g) (n / 4) 2
  | 13, [g, n] => pz7 (pz_gt g) (pz_gN g) (n / 4) 3
  | 14, [g, n] => pz7 (pz_gt g) (pz_gN g) (n / 4) 4
  | 15, [g, n] => pz7 (pz_gt g) (pz_gN g) (n / 4) 5
  | _, _ => True
noncomputable def ax_XMq11 (b : Nat) : ax_X := fun x vs hp => match x, vs with
  | 0, [g, n] => pz7 (pz_gt g) (pz_gN g) (n / 4) 6
  | 1, [g, n] => pz7 (pz_gt g) (pz_gN g) (n / 4) 7
  | 2, [g, n] => pz7 (pz_gt g) (pz_gN g) (n / 4) 8
  | 3, [g, n] => pz7 (pz_gt g) (pz_gN g) (n / 4) 9
  | 4, [g, n, s, u] => pz_y180 g n s u
  | 5, [g, n] => pz_y181 g n
  | 6, [n, m] => m / 4 = n / 4 + 1
  | 11, [g, n, s] => (pz90 (pz_gt g) (pz_gN g) (n / 4) (2 * (s / 4)) ∧ 1 ≤ s / 4)
  | 12, [g, n, s] => (pz90 (pz_gt g) (pz_gN g) (n / 4) (2 * (s / 4) + 1) ∧ 1 ≤ s / 4)
  | 13, [s] => s / 4 = 1
  | 14, [g, n, s] => (pz90 (pz_gt g) (pz_gN g) (n / 4) (s / 4) ∧ 1 ≤ s / 4)
  | _, _ => True
noncomputable def ax_XMq12 (b : Nat) : ax_X := fun x vs hp => match x, vs with
  | 0, [s, r] => pz_strip (s / 4) = r / 4
  | 1, [r, s] => (r / 4 = 2 * (s / 4) ∧ 1 ≤ s / 4)
  | 2, [g, n] => pz94 (pz_gt g) (pz_gN g) (n / 4)
  | 3, [s] => ay_ex hp 173 ∧ ay_ln (ay_at hp 173 28) = pz_dp (s / 4)
  | 4, [s] => ay_ex hp 173 ∧ ay_ex hp 185 ∧ pz_y196 s (ay_at hp 173 27) (ay_at hp 185)
  | 5, [g, n, s] => (pz90 (pz_gt g) (pz_gN g) (n / 4) (pz_strip (s / 4)) ∧ 1 ≤ s / 4)
  | 6, [g, n] => pz_op (pz_kd (pz_gt g) (pz_gN g) (pz_p (pz_cF g n))) = true
  | 7, [g, n, s] => ¬ (pz_kd (pz_gt g) (pz_gN g) (pz_p (pz_cF g n)) = 41 ∧ 1 < s / 4)
  | 11, [g, n, m] => pz_x103 g n m
  | 12, [g, n, v] => pz104 (pz_gt g) (pz_gN g) (n / 4) (v / 4)
  | 15, [g, n, o] => pz107 (pz_gt g) (pz_gN g) (n / 4) (o / 4)
  | _, _ => True
noncomputable def ax_XMq13 (b : Nat) : ax_X := fun x vs hp => match x, vs with
  | 0, [s, r] => (r / 4 = 2 * (s / 4) + 1 ∧ 1 ≤ s / 4)
  | 1, [s, r] => pz_strip (s / 4) = pz_strip (r / 4)
  | 2, [g] => ay_ex hp 175 ∧ ay_ex hp 176 ∧ ay_ex hp 177 ∧ ay_ex hp 178 ∧ ay_ex hp 179 ∧ ay_ex hp 173 ∧ ay_ex hp 173 ∧ ay_ex hp 173 ∧ ay_ex hp 173 ∧ ay_ex hp 173 ∧ ay_ex hp 181 ∧ pz110 (pz_gt g) (pz_gN g) (ay_ln (ay_at hp 175 (1 - b))) (ay_ln (ay_at hp 176 (1 - b))) (ay_ln (ay_at hp 177 (1 - b))) (ay_ln (ay_at hp 178 (1 - b))) (ay_ln (ay_at hp 179 (1 - b))) (ay_ln (ay_at hp 173 23)) (ay_ln (ay_at hp 173 25)) (ay_ln (ay_at hp 173 24)) (ay_ln (ay_at hp 173 18)) (ay_ln (ay_at hp 173 19)) (pz_be (1 - b) (ay_at hp 181)) (pz_fi (1 - b) (ay_at hp 181))
  | 3, [g, n] => pz111 (pz_gt g) (pz_gN g) (n / 4)
  | 4, [g, n, w, i] => pz_x62 g n w i
  | 5, [g, n, a, e] => pz112 (pz_gt g) (pz_gN g) (n / 4) (a / 4) (e / 4)
  | 6, [g, n, a, e] => pz113 (pz_gt g) (pz_gN g) (n / 4) (a / 4) (e / 4)
  | 7, [g, n, a, e, i] => pz_y215 g n a e i
  | 8, [g, n, a, e, l] => ay_ex hp 175 ∧ ay_ex hp 176 ∧ ay_ex hp 177 ∧ ay_ex hp 178 ∧ ay_ex hp 179 ∧ ay_ex hp 173 ∧ ay_ex hp 173 ∧ ay_ex hp 173 ∧ ay_ex hp 173 ∧ ay_ex hp 173 ∧ ay_ex hp 181 ∧ pz_yal 1 (1 - b) g n a e l (ay_at hp 175 (1 - b)) (ay_at hp 176 (1 - b)) (ay_at hp 177 (1 - b)) (ay_at hp 178 (1 - b)) (ay_at hp 179 (1 - b)) (ay_at hp 173 23) (ay_at hp 173 25) (ay_at hp 173 24) (ay_at hp 173 18) (ay_at hp 173 19) (ay_at hp 181)
  | 9, [g, n, a, e, l] => ay_ex hp 175 ∧ ay_ex hp 176 ∧ ay_ex hp 177 ∧ ay_ex hp 178 ∧ ay_ex hp 179 ∧ ay_ex hp 173 ∧ ay_ex hp 173 ∧ ay_ex hp 173 ∧ ay_ex hp 173 ∧ ay_ex hp 173 ∧ ay_ex hp 181 ∧ pz_yal 2 (1 - b) g n a e l (ay_at hp 175 (1 - b)) (ay_at hp 176 (1 - b)) (ay_at hp 177 (1 - b)) (ay_at hp 178 (1 - b)) (ay_at hp 179 (1 - b)) (ay_at hp 173 23) (ay_at hp 173 25) (ay_at hp 173 24) (ay_at hp 173 18) (ay_at hp 173 19) (ay_at hp 181)
  | 14, [g, n] => ay_ex hp 173 ∧ (pz61 (pz_gt g) (pz_gN g) (n / 4) 2 ∨ ay_ln (ay_at hp 173 23) = 1)
  | 15, [g, n] => ay_ex hp 173 ∧ (pz61 (pz_gt g) (pz_gN g) (n / 4) 3 ∨ ay_ln (ay_at hp 173 25) = 1)
  | _, _ => True
noncomputable def ax_XMq14 (b : Nat) : ax_X := fun x vs hp => match x, vs with
  | 0, [g, n] => ay_ex hp 173 ∧ (pz61 (pz_gt g) (pz_gN g) (n / 4) 4 ∨ ay_ln (ay_at hp 173 24) = 1)
  | 2, [g, v] => pz_x126 g v
  | 3, [] => ay_ex hp 173 ∧ ay_ex hp 173 ∧ (ay_ln (ay_at hp 173 20) = 0 ∧ ay_ln (ay_at hp 173 21) = 4294967295)
  | 4, [g] => ay_ex hp 173 ∧ ay_ex hp 173 ∧ pz63 (pz_gt g) (pz_gN g) (ay_ln (ay_at hp 173 20)) (ay_ln (ay_at hp 173 21))
  | _, _ => True
noncomputable def ax_XMq15 (b : Nat) : ax_X := fun x vs hp => match x, vs with
  | 1, [l] => ay_ex hp 180 ∧ ay_ex hp 182 ∧ py_y241 (1 - b) l (ay_at hp 180 (1 - b)) (ay_at hp 182)
  | 2, [s] => ay_ex hp 173 ∧ ay_ex hp 185 ∧ py_y242 s (ay_at hp 173 27) (ay_at hp 185)
  | 3, [l, c] => ay_ex hp 180 ∧ ay_ex hp 182 ∧ py_y243 (1 - b) l c (ay_at hp 180 (1 - b)) (ay_at hp 182)
  | 6, [g, n, s, l] => py_y246 (pz_gt g) (pz_gN g) (n / 4) s l
  | 7, [g, n, s, l] => py_247 (pz_gt g) (pz_gN g) (n / 4) s l
  | 8, [g, n, l] => py_248 (pz_gt g) (pz_gN g) (n / 4) l
  | 9, [p, q, s, l] => py_249 p q s l
  | 10, [c, p, q, s, l] => py_250 c p q s l
  | 11, [r, c, s] => py_251 r c s
  | 13, [p, q, s, l] => py_253 p q s l
  | 14, [s, r] => ay_ex hp 173 ∧ ay_ex hp 185 ∧ py_y254 s r (ay_at hp 173 27) (ay_at hp 185)
  | _, _ => True
noncomputable def ax_XMq16 (b : Nat) : ax_X := fun x vs hp => match x, vs with
  | 0, [s, c] => py_256 s c
  | 1, [g, n, s, l, c] => py_257 (pz_gt g) (pz_gN g) (n / 4) s l c
  | 2, [g, n, c, s, l] => py_258 (pz_gt g) (pz_gN g) (n / 4) c s l
  | 3, [g, n, c] => c / 4 = py_op (pz_kd (pz_gt g) (pz_gN g) (pz_p (pz_cF g n)))
  | 4, [c, p, q, s, l] => py_260 c p q s l
  | 5, [g, n, l] => py_261 g n l
  | 6, [g, l] => py_82 g l
  | _, _ => True
noncomputable def ax_XM (b : Nat) : ax_X := fun x vs hp => bif Nat.blt x 16 then ax_XMq0 b (Nat.sub x 0) vs hp else bif Nat.blt x 32 then ax_XMq1 b (Nat.sub x 16) vs hp else bif Nat.blt x 48 then ax_XMq2 b (Nat.sub x 32) vs hp else bif Nat.blt x 64 then ax_XMq3 b (Nat.sub x 48) vs hp else bif Nat.blt x 80 then ax_XMq4 b (Nat.sub x 64) vs hp else bif Nat.blt x 128 then True else bif Nat.blt x 144 then ax_XMq8 b (Nat.sub x 128) vs hp else bif Nat.blt x 160 then ax_XMq9 b (Nat.sub x 144) vs hp else bif Nat.blt x 176 then ax_XMq10 b (Nat.sub x 160) vs hp else bif Nat.blt x 192 then ax_XMq11 b (Nat.sub x 176) vs hp else bif Nat.blt x 208 then ax_XMq12 b (Nat.sub x 192) vs hp else bif Nat.blt x 224 then ax_XMq13 b (Nat.sub x 208) vs hp else bif Nat.blt x 240 then ax_XMq14 b (Nat.sub x 224) vs hp else bif Nat.blt x 256 then ax_XMq15 b (Nat.sub x 240) vs hp else bif Nat.blt x 272 then ax_XMq16 b (Nat.sub x 256) vs hp else True
end
section
/-! What a new net is: the class's list of channels, the start of a state; a congruence of the relation -/
section CG
variable {nn L R N : Nat} {E C : Nat → Nat} {v v2 : fx_V} {F F' F1 F2 G G' : fx_F}
/-- the relation looks at no more than this -/
theorem lr.cg (h : lr F G nn L E C N R) (hF : ∀ p i, p < 175 → (p < 10 ∨ 19 ≤ p) → F' p i = F p i) (hG6 : ∀ p i, 186 ≤ p ∨ p = 176 → G' p i = G p i) (g9 : G' 175 9 = G 175 9) (g56 : G' 175 56 = G 175 56) (g57 : G' 175 57 = G 175 57) (g177 : G' 177 (G 175 9) = G 177 (G 175 9)) (g178 : G' 178 (G 175 9) = G 178 (G 175 9)) (g180 : G' 180 (G 175 9) = G 180 (G 175 9)) (g182 : G' 182 (G 175 9) = G 182 (G 175 9)) (g183 : ∀ j, j < 40 → G' 183 (40 * G 175 9 + j) = G 183 (40 * G 175 9 + j)) (g184 : ∀ k, k < 100 → G' 184 (100 * G 175 9 + k) = G 184 (100 * G 175 9 + k)) : lr F' G' nn L E C N R := by
  obtain ⟨h1, ⟨k1, k2, k3, k4⟩, ⟨m1, m2, m3⟩, ⟨x1, x2⟩, ra, rb⟩ := h
  have f3 : ∀ p i, 3 ≤ p → p ≤ 9 → F' p i = F p i := fun p i a b => hF p i (by omega) (by omega)
  have hL := h1.1.2.1
  have hN := h1.2.1.1
  have e2 : F' 2 13 = F 2 13 := hF 2 13 (by decide) (by decide)
  have st : ∀ {q : Nat} {X X' : Nat → Nat}, sc F q X nn L E → 19 ≤ q → q + 4 < 175 → (∀ x, x < 103 → X' x = X x) → sc F' q X' nn L E := fun h a b hx => sc_congr h hL (fun i _ => hF _ i (by omega) (by omega)) (fun i _ => ⟨hF _ i (by omega) (by omega), hF _ i (by omega) (by omega), hF _ i (by omega) (by omega), hF _ i (by omega) (by omega)⟩) (fun x hx2 => hx x (by omega))
  have lo : ∀ {q : Nat}, S0 q → 19 ≤ q ∧ q + 4 < 175 := fun h => by unfold S0 at h; omega
  obtain ⟨⟨a1, a2, a3⟩, ⟨b1, b2, b3, b4⟩, c1, d1, d2⟩ := x1
  have k : ∀ p i, p = 2 ∨ p = 51 ∨ p = 52 ∨ p = 158 ∨ p = 159 → F' p i = F p i := fun p i hp => hF p i (by omega) (by omega)
  refine ⟨h1, ⟨k1.eq f3, k2.eq f3, k3.eq f3, (f3 3 3 (by decide) (by decide)).trans k4⟩, ⟨⟨by rw [g9]; exact m1.1, by rw [g9, g177]; exact m1.2.1, by rw [g9, g178]; exact m1.2.2.1, fun j hj => by rw [g9, g183 j (by omega)]; exact m1.2.2.2 j hj⟩, ⟨by rw [g9, g182]; exact m2.1, fun k hk => by rw [g9, g184 k (by omega)]; exact m2.2 k hk⟩, by rw [g9, g180]; exact m3⟩, ⟨⟨?_, ?_, fun i hi => ?_, ?_, fun b hb => ?_⟩, ?_⟩, ra.eq (fun t i ht => hF _ i (by omega) (by omega)), rb.eq (fun t i ht => hF _ i (by omega) (by omega))⟩
  · rw [e2]
    exact ⟨a1, fun i hi => by rw [k 52 i (by decide)]; exact a2 i hi, fun i j hi hj => by rw [k 52 i (by decide), k 52 j (by decide)]; exact a3 i j hi hj⟩
  · rw [k 51 1 (by decide), k 51 2 (by decide), k 51 3 (by decide), g56, g57]; exact ⟨b1, b2, b3, b4⟩
  · rw [k 51 2 (by decide), k 51 3 (by decide)] at hi
    rw [k 51 1 (by decide), k 52 _ (by decide)]
    obtain ⟨l1, l2⟩ := lo (a2 _ (Nat.mod_lt _ (by decide))).1
    exact st (c1 i hi) l1 l2 (fun x _ => hG6 204 _ (by decide))
  · rw [k 158 0 (by decide), k 158 1 (by decide)]; exact d1
  · obtain ⟨t1, t2⟩ := d2 b hb
    rw [k 158 b (by decide), k 159 b (by decide), hG6 206 b (by decide)]
    refine ⟨t1, fun w => ?_⟩
    have hb158 : F 158 b = 165 ∨ F 158 b = 170 := by
      have : b = 0 ∨ b = 1 := by omega
      rcases this with e | e
      · subst e; exact Or.inl d1.1
      · subst e; exact Or.inr d1.2
    exact st (t2 w) (by omega) (by omega) (fun x _ => hG6 205 _ (by decide))
  · rw [e2]
    obtain ⟨l1, l2⟩ := lo a1
    exact st x2 l1 l2 (fun x _ => hG6 176 x (by decide))
theorem cnt_lt_s {E : Nat → Nat} {w : Nat} : ∀ k, cnt (fun c => Nat.blt (E c) (w + 1)) k = cnt (fun c => Nat.blt (E c) w) k + cnt (fun c => Nat.beq (E c) w) k
  | 0 => rfl
  | k + 1 => by
    have ih := cnt_lt_s (E := E) (w := w) k
    have e1 : (if Nat.blt (E k) (w + 1) = true then (1 : Nat) else 0) = (if Nat.blt (E k) w = true then (1 : Nat) else 0) + (if Nat.beq (E k) w = true then (1 : Nat) else 0) := by
      by_cases a : E k < w
      · rw [if_pos (rx_blt.mpr (show E k < w + 1 by omega)), if_pos (rx_blt.mpr a), if_neg (fun z => by have := rx_beq.mp z; omega)]
      · by_cases b : E k = w
        · rw [if_pos (rx_blt.mpr (show E k < w + 1 by omega)), if_neg (fun z => a (rx_blt.mp z)), if_pos (rx_beq.mpr b)]
        · rw [if_neg (fun z => by have := rx_blt.mp z; omega), if_neg (fun z => a (rx_blt.mp z)), if_neg (fun z => b (rx_beq.mp z))]
    show cnt (fun c => Nat.blt (E c) (w + 1)) k + (if Nat.blt (E k) (w + 1) = true then (1 : Nat) else 0) = (cnt (fun c => Nat.blt (E c) w) k + (if Nat.blt (E k) w = true then (1 : Nat) else 0)) + (cnt (fun c => Nat.beq (E c) w) k + (if Nat.beq (E k) w = true then (1 : Nat) else 0))
    omega
/-- where a switch's channels begin in the list -/
def plc (E : Nat → Nat) (L w : Nat) : Nat := cnt (fun c => Nat.blt (E c) w) (2 * L)
theorem plc_s {w : Nat} : plc E L (w + 1) = plc E L w + cnt (fun c => Nat.beq (E c) w) (2 * L) := cnt_lt_s _
theorem plc_le {w : Nat} : plc E L w ≤ 2 * L := cnt_le _ _
theorem plc_mono {w w' : Nat} (h : w ≤ w') : plc E L w ≤ plc E L w' := cnt_mono (fun i _ z => rx_blt.mpr (by have := rx_blt.mp z; omega))
theorem cnt_y {p : Nat → Bool} {k : Nat} (h : p k = true) : cnt p (k + 1) = cnt p k + 1 := by
  show cnt p k + (if p k = true then 1 else 0) = _
  rw [if_pos h]
theorem cnt_n {p : Nat → Bool} {k : Nat} (h : p k = false) : cnt p (k + 1) = cnt p k := by
  show cnt p k + (if p k = true then 1 else 0) = _
  rw [h]; rfl
theorem s_listCh (hN : nt_ok nn L E) (hc : cn F nn L E) (h : Cl k_Net_listChannels [(2, 3)] F v F') : v = (2, 0) ∧ fxo [6, 7] F F' ∧ ocl F' nn L E := by
  obtain ⟨n, h⟩ := c_Net_listChannels h
  obtain ⟨m, hm, hR⟩ := q_Net_listChannels_0 h
  have hn := hN.1
  have hL := hN.2.1
  have lp : ∀ n : Nat, (∀ (F2 : fx_F) (w : Nat), Rn n k_Net_listChannels 4 [(2, 3), (0, plc E L w), (0, w), (3, 0)] [] F2 v F' → w ≤ nn → fxo [6, 7] F F2 → (∀ w', w' < w → F2 6 w' = plc E L w') → (∀ w' c, w' < w → c < 2 * L → E c = w' → F2 7 (plc E L w' + cnt (fun c => Nat.beq (E c) w') c) = c) → v = (2, 0) ∧ fxo [6, 7] F F' ∧ ocl F' nn L E)
      ∧ (∀ (F2 : fx_F) (w c : Nat), Rn n k_Net_listChannels 21 [(2, 3), (0, plc E L w + cnt (fun c => Nat.beq (E c) w) c), (0, w), (0, c)] [] F2 v F' → w < nn → c ≤ 2 * L → fxo [6, 7] F F2 → (∀ w', w' ≤ w → F2 6 w' = plc E L w') → (∀ w' c', (w' < w ∨ (w' = w ∧ c' < c)) → c' < 2 * L → E c' = w' → F2 7 (plc E L w' + cnt (fun c => Nat.beq (E c) w') c') = c') → v = (2, 0) ∧ fxo [6, 7] F F' ∧ ocl F' nn L E) := by
    intro n
    induction n using Nat.strongRecOn with
    | ind n ih =>
      refine ⟨fun F2 w h hw ho h6 h7 => ?_, fun F2 w c h hw hcL ho h6 h7 => ?_⟩
      · have Q := q_Net_listChannels_4 h
        have hc2 := hc.keep ho (by decide) (by decide) (by decide)
        rw [hc2.1] at Q
        rcases Nat.lt_or_ge w nn with hlt | hge
        · obtain ⟨m, hm, hR⟩ := Q.2 (by rw [b_lt (by clear Q; omega) (by clear Q; omega)]; exact hlt)
          clear Q
          refine (ih m hm).2 _ w 0 hR hlt (Nat.zero_le _) (ho.wr (by decide)) (fun w' hw' => ?_) (fun w' c' hw' hc' he => ?_)
          · by_cases e : w' = w
            · subst e; exact fu_same
            · rw [show (3 : Nat) + 3 = 6 from rfl, fu_i e]; exact h6 w' (by omega)
          · rw [show (3 : Nat) + 3 = 6 from rfl, fu_p (by decide)]
            rcases hw' with z | ⟨_, z⟩
            · exact h7 w' c' z hc' he
            · exact absurd z (Nat.not_lt_zero _)
        · have e : w = nn := by clear Q; omega
          subst e
          obtain ⟨x1, x2⟩ := Q.1 (by rw [b_le (by clear Q; omega) (by clear Q; omega)]; exact Nat.le_refl _)
          clear Q
          replace x2 : F' = fu F2 6 w (plc E L w) := x2
          subst x2
          have g6 : ∀ w', w' ≤ w → fu F2 6 w (plc E L w) 6 w' = plc E L w' := fun w' hw' => by
            by_cases e : w' = w
            · subst e; exact fu_same
            · rw [fu_i e]; exact h6 w' (by omega)
          refine ⟨x1, ho.wr (by decide), fun w' hw' => ?_, fun w' hw' => ⟨?_, fun c hc3 he => ?_⟩⟩
          · rw [g6 w' hw']; have := plc_le (E := E) (L := L) (w := w'); omega
          · rw [g6 (w' + 1) (by omega), g6 w' (by omega)]; exact plc_s
          · rw [g6 w' (by omega), fu_p (by decide)]; exact h7 w' c hw' hc3 he
      · have Q := q_Net_listChannels_21 h
        have hc2 := hc.keep ho (by decide) (by decide) (by decide)
        have hpl := plc_le (E := E) (L := L) (w := w + 1)
        rw [plc_s] at hpl
        rw [hc2.2.1, b_mul (show 2 * L < 4294967296 by clear Q; omega)] at Q
        rcases Nat.lt_or_ge c (2 * L) with hlt | hge
        · replace Q := Q.2 (by rw [b_lt (by clear Q; omega) (by clear Q; omega)]; exact hlt)
          rw [show (3 : Nat) + 1 = 4 from rfl, show (3 : Nat) + 4 = 7 from rfl, (hc2.2.2 c hlt).1, b_add (show c + 1 < 4294967296 by clear Q; omega)] at Q
          by_cases e : E c = w
          · have hy := cnt_y (p := fun c => Nat.beq (E c) w) (k := c) (rx_beq.mpr e)
            have hcu := cnt_up2 (p := fun c => Nat.beq (E c) w) (show c + 1 ≤ 2 * L from hlt)
            obtain ⟨m, hm, hR⟩ := Q.2 e
            clear Q
            rw [b_add (show plc E L w + cnt (fun c => Nat.beq (E c) w) c + 1 < 4294967296 by omega), Nat.add_assoc, ← hy] at hR
            refine (ih m hm).2 _ w (c + 1) hR hw hlt (ho.wr (by decide)) (fun w' hw' => by rw [fu_p (by decide)]; exact h6 w' hw') (fun w' c' hw' hc' he => ?_)
            by_cases ec : c' = c
            · subst ec
              have : w' = w := by omega
              subst this
              exact fu_same
            · rw [fu_i ?_]
              · exact h7 w' c' (by omega) hc' he
              · rcases hw' with z | ⟨z, z2⟩
                · have h1 := plc_mono (E := E) (L := L) (show w' + 1 ≤ w from z)
                  rw [plc_s] at h1
                  have h2 := cnt_y (p := fun c => Nat.beq (E c) w') (k := c') (rx_beq.mpr he)
                  have h3 := cnt_up2 (p := fun c => Nat.beq (E c) w') (show c' + 1 ≤ 2 * L from hc')
                  omega
                · subst z
                  have h2 := cnt_y (p := fun c => Nat.beq (E c) w') (k := c') (rx_beq.mpr he)
                  have h3 := cnt_up2 (p := fun c => Nat.beq (E c) w') (show c' + 1 ≤ c by omega)
                  omega
          · have hy := cnt_n (p := fun c => Nat.beq (E c) w) (k := c) (Bool.eq_false_iff.mpr (fun z => e (rx_beq.mp z)))
            obtain ⟨m, hm, hR⟩ := Q.1 e
            clear Q
            rw [← hy] at hR
            refine (ih m hm).2 _ w (c + 1) hR hw hlt ho h6 (fun w' c' hw' hc' he => ?_)
            by_cases ec : c' = c ∧ w' = w
            · obtain ⟨z1, z2⟩ := ec
              subst z1
              exact absurd (he.trans z2) e
            · exact h7 w' c' (by omega) hc' he
        · have e : c = 2 * L := by clear Q; omega
          subst e
          obtain ⟨m, hm, hR⟩ := Q.1 (by rw [b_le (by clear Q; omega) (by clear Q; omega)]; exact Nat.le_refl _)
          clear Q
          rw [← plc_s, b_add (show w + 1 < 4294967296 by omega)] at hR
          exact (ih m hm).1 _ (w + 1) hR hw ho (fun w' hw' => h6 w' (by omega)) (fun w' c' hw' hc' he => h7 w' c' (by omega) hc' he)
  have e0 : plc E L 0 = 0 := cnt_zero (fun i _ => Bool.eq_false_iff.mpr (fun z => absurd (rx_blt.mp z) (Nat.not_lt_zero _)))
  refine (lp m).1 F 0 ?_ (Nat.zero_le _) fxo.rf (fun w' hw' => absurd hw' (Nat.not_lt_zero _)) (fun w' c hw' => absurd hw' (Nat.not_lt_zero _))
  rw [e0]; exact hR
end CG
end
section
/-! The class's side of an accepted net -/
section CNET
variable {nn L R N ro rm un q : Nat} {E C : Nat → Nat} {v v2 : fx_V} {F F' F1 F2 G G' : fx_F}
theorem s_netCopy (hN : nt_ok nn L E) (d0 : F 12 0 = nn) (d1 : F 12 1 = L) (dE : ∀ c, c < 2 * L → F 13 c = E c ∧ F 14 c = E (nf c)) (h : Cl k_Net_copyFrom [(2, 3), (2, 12)] F v F') : v = (2, 0) ∧ fxo [3, 4, 5, 6, 7, 8, 9] F F' ∧ cn F' nn L E ∧ ocl F' nn L E ∧ F' 3 2 = F 12 2 ∧ F' 3 3 = F 12 3 ∧ F' 3 4 = F 12 4 ∧ F' 3 5 = F 12 5 ∧ ∀ i, F' 8 i = F 17 i ∧ F' 9 i = F 18 i := by
  obtain ⟨n, h⟩ := c_Net_copyFrom h
  obtain ⟨F1, c1, x1, x2⟩ := q_Net_copyFrom_0 h
  subst x2
  simp only [fu_p (show (12 : Nat) ≠ 3 by decide)] at c1
  obtain ⟨H, hH⟩ : ∃ H, H = fcp (fcp (fcp (fcp (fu (fu (fu (fu (fu (fu F 3 0 (F 12 0)) 3 1 (F 12 1)) 3 2 (F 12 2)) 3 3 (F 12 3)) 3 4 (F 12 4)) 3 5 (F 12 5)) (12 + 1) (3 + 1)) (12 + 2) (3 + 2)) (12 + 5) (3 + 5)) (12 + 6) (3 + 6) := ⟨_, rfl⟩
  rw [← hH] at c1
  have h3 : ∀ i, H 3 i = (fu (fu (fu (fu (fu (fu F 3 0 (F 12 0)) 3 1 (F 12 1)) 3 2 (F 12 2)) 3 3 (F 12 3)) 3 4 (F 12 4)) 3 5 (F 12 5)) 3 i := fun i => by
    rw [hH]; exact (fcp_o (by decide)).trans ((fcp_o (by decide)).trans ((fcp_o (by decide)).trans (fcp_o (by decide))))
  have h30 : H 3 0 = nn := by rw [h3, fu_i (by decide), fu_i (by decide), fu_i (by decide), fu_i (by decide), fu_i (by decide), fu_same]; exact d0
  have h31 : H 3 1 = L := by rw [h3, fu_i (by decide), fu_i (by decide), fu_i (by decide), fu_i (by decide), fu_same]; exact d1
  have h32 : H 3 2 = F 12 2 := by rw [h3, fu_i (by decide), fu_i (by decide), fu_i (by decide), fu_same]
  have h33 : H 3 3 = F 12 3 := by rw [h3, fu_i (by decide), fu_i (by decide), fu_same]
  have h34 : H 3 4 = F 12 4 := by rw [h3, fu_i (by decide), fu_same]
  have h35 : H 3 5 = F 12 5 := by rw [h3, fu_same]
  have u6 : ∀ p i, p ≠ 3 → (fu (fu (fu (fu (fu (fu F 3 0 (F 12 0)) 3 1 (F 12 1)) 3 2 (F 12 2)) 3 3 (F 12 3)) 3 4 (F 12 4)) 3 5 (F 12 5)) p i = F p i := fun p i hp => by
    rw [fu_p hp, fu_p hp, fu_p hp, fu_p hp, fu_p hp, fu_p hp]
  have h4 : ∀ i, H 4 i = F 13 i := fun i => by
    rw [hH]; exact (fcp_o (by decide)).trans ((fcp_o (by decide)).trans ((fcp_o (by decide)).trans (fcp_d.trans (u6 13 i (by decide)))))
  have h5 : ∀ i, H 5 i = F 14 i := fun i => by
    rw [hH]; exact (fcp_o (by decide)).trans ((fcp_o (by decide)).trans (fcp_d.trans ((fcp_o (by decide)).trans (u6 14 i (by decide)))))
  have h8 : ∀ i, H 8 i = F 17 i := fun i => by
    rw [hH]; exact (fcp_o (by decide)).trans (fcp_d.trans ((fcp_o (by decide)).trans ((fcp_o (by decide)).trans (u6 17 i (by decide)))))
  have h9 : ∀ i, H 9 i = F 18 i := fun i => by
    rw [hH]; exact fcp_d.trans ((fcp_o (by decide)).trans ((fcp_o (by decide)).trans ((fcp_o (by decide)).trans (u6 18 i (by decide)))))
  have ho : fxo [3, 4, 5, 6, 7, 8, 9] F H := fun p i hp => by
    rw [hH, fcp_o (fun z => hp (by simp; omega)), fcp_o (fun z => hp (by simp; omega)), fcp_o (fun z => hp (by simp; omega)), fcp_o (fun z => hp (by simp; omega)), u6 p i (fun z => hp (by simp; omega))]
  have hc : cn H nn L E := ⟨h30, h31, fun c hc => ⟨(h4 c).trans (dE c hc).1, (h5 c).trans (dE c hc).2⟩⟩
  obtain ⟨-, y1, y2⟩ := s_listCh hN hc c1
  refine ⟨x1, ho.tr (y1.mono (by simp)), hc.keep y1 (by decide) (by decide) (by decide), y2, ?_, ?_, ?_, ?_, fun i => ⟨?_, ?_⟩⟩
  · rw [y1 3 2 (by decide), h32]
  · rw [y1 3 3 (by decide), h33]
  · rw [y1 3 4 (by decide), h34]
  · rw [y1 3 5 (by decide), h35]
  · rw [y1 8 i (by decide), h8]
  · rw [y1 9 i (by decide), h9]
theorem s_stBegin {p a b c : Nat} (h : Cl k_St_begin [(2, p), (0, a), (0, b), (0, c)] F v F') : v = (2, 0) ∧ fxo [p, p + 1] F F' ∧ F' p 0 = a ∧ F' p 1 = b ∧ F' p 2 = c ∧ F' p 3 = 0 ∧ ∀ j, j < 12 → F' (p + 1) j = 4294967295 := by
  obtain ⟨n, h⟩ := c_St_begin h
  obtain ⟨m, hm, hR⟩ := q_St_begin_0 h
  have lp : ∀ (n : Nat) (F2 : fx_F) (l : Nat), Rn n k_St_begin 23 [(2, p), (3, 0), (3, 0), (3, 0), (0, l)] [] F2 v F' → l ≤ 12 → (∀ j, j < l → F2 (p + 1) j = 4294967295) → v = (2, 0) ∧ fxo [p + 1] F2 F' ∧ ∀ j, j < 12 → F' (p + 1) j = 4294967295 := by
    intro n
    induction n using Nat.strongRecOn with
    | ind n ih =>
      intro F2 l h hl hA
      have Q := q_St_begin_23 h
      rcases Nat.lt_or_ge l 12 with hlt | hge
      · obtain ⟨m, hm, hR⟩ := Q.2 (by rw [b_lt (by clear Q; omega) (by decide)]; exact hlt)
        clear Q
        rw [b_add (show l + 1 < 4294967296 by omega)] at hR
        obtain ⟨y1, y2, y3⟩ := ih m hm _ (l + 1) hR hlt (fun j hj => by
          by_cases e : j = l
          · subst e; exact fu_same
          · rw [fu_i e]; exact hA j (by omega))
        exact ⟨y1, (fxo.rf.wr List.mem_cons_self).tr y2, y3⟩
      · obtain ⟨x1, x2⟩ := Q.1 (by rw [b_le (by decide) (by clear Q; omega)]; exact hge)
        clear Q
        subst x2
        exact ⟨x1, fxo.rf, fun j hj => hA j (by omega)⟩
  obtain ⟨y1, y2, y3⟩ := lp m _ 0 hR (Nat.zero_le _) (fun j hj => absurd hj (Nat.not_lt_zero _))
  have hp : p ∉ [p + 1] := by simp
  refine ⟨y1, ((((fxo.rf.wr (by simp)).wr (by simp)).wr (by simp)).wr (by simp)).tr (y2.mono (by simp)), ?_, ?_, ?_, ?_, y3⟩
  · rw [y2 p 0 hp, fu_i (by decide), fu_i (by decide), fu_i (by decide), fu_same]
  · rw [y2 p 1 hp, fu_i (by decide), fu_i (by decide), fu_same]
  · rw [y2 p 2 hp, fu_i (by decide), fu_same]
  · rw [y2 p 3 hp, fu_same]
/-- from the text on: the new net is laid -/
theorem s_cnet (hN : nt_ok nn L E) (hC : cd_ok C N) (hC2 : N ≠ 0 → 0 < hgt C N) (hr : ro < nn ∨ nn = 0) (hr2 : ro < 10) (hS : S0 q) (hq : F 2 13 = q) (d0 : F 12 0 = nn) (d1 : F 12 1 = L) (d2 : F 12 2 = ro) (d5 : F 12 5 = N) (dE : ∀ c, c < 2 * L → F 13 c = E c ∧ F 14 c = E (nf c)) (dC : ∀ k, k < N → F 17 k = cop (C k) ∧ (C k < 1000 → F 18 k = C k))
    (h : ∃ n1, Cl k_Net_copyFrom [(2, 3), (2, 12)] F (2, 0) F2 ∧ Rn n1 k_T_net 59 [(2, 2), (3, 0), (0, 0)] [] (fu (fu (fu (fu (fu (fu F2 24 3 0) 24 4 0) 32 3 0) 32 4 0) 51 2 0) 51 3 0) v F') :
    v = (0, nn) ∧ (cn F' nn L E ∧ ocl F' nn L E ∧ cc F' C N) ∧ (F' 3 3 = F 12 3 ∧ F' 3 4 = F 12 4) ∧ (F' 24 3 = 0 ∧ F' 24 4 = 0 ∧ F' 32 3 = 0 ∧ F' 32 4 = 0) ∧ (F' 24 1 = F 24 1 ∧ F' 24 2 = F 24 2 ∧ F' 32 1 = F 32 1 ∧ F' 32 2 = F 32 2) ∧ (F' 51 1 = F 51 1 ∧ F' 51 2 = 0 ∧ F' 51 3 = 0) ∧ (F' 159 0 = 0 ∧ F' 159 1 = 0) ∧ (∃ up, nwb up L E (rk C N (fr L E (bts (2 ^ L - 1)) ro) (fun u => dgc E (bts (2 ^ L - 1)) u (2 * L))) ∧ F' q 0 = ro ∧ F' q 1 = up ∧ F' q 2 = 2 ^ L - 1 ∧ F' q 3 = 0 ∧ ∀ j, j < 12 → F' (q + 1) j = 4294967295) ∧ fxo [3, 4, 5, 6, 7, 8, 9, 20, 21, 22, 23, 24, 32, 51, 159, q, q + 1] F F' := by
  obtain ⟨n1, hcp, hR⟩ := h
  have hL := hN.2.1
  have hn := hN.1
  have hq1 : 53 ≤ q ∧ q ≤ 160 := by unfold S0 at hS; omega
  have hq2 : q + 1 ≠ 159 ∧ q ≠ 159 := by unfold S0 at hS; omega
  obtain ⟨-, y1, y2, y3, y4, y5, y6, y7, y8⟩ := s_netCopy hN d0 d1 dE hcp
  obtain ⟨H, hH⟩ : ∃ H, H = fu (fu (fu (fu (fu (fu F2 24 3 0) 24 4 0) 32 3 0) 32 4 0) 51 2 0) 51 3 0 := ⟨_, rfl⟩
  rw [← hH] at hR
  have hHo : fxo [24, 32, 51] F2 H := by
    rw [hH]; exact (((((fxo.rf.wr (by simp)).wr (by simp)).wr (by simp)).wr (by simp)).wr (by simp)).wr (by simp)
  have g1 : H 24 3 = 0 ∧ H 24 4 = 0 ∧ H 32 3 = 0 ∧ H 32 4 = 0 ∧ H 51 2 = 0 ∧ H 51 3 = 0 ∧ H 51 1 = F 51 1 ∧ H 24 1 = F 24 1 ∧ H 24 2 = F 24 2 ∧ H 32 1 = F 32 1 ∧ H 32 2 = F 32 2 := by
    rw [hH]
    refine ⟨?_, ?_, ?_, ?_, ?_, ?_, ?_, ?_, ?_, ?_, ?_⟩
    · rw [fu_p (by decide), fu_p (by decide), fu_p (by decide), fu_p (by decide), fu_i (by decide), fu_same]
    · rw [fu_p (by decide), fu_p (by decide), fu_p (by decide), fu_p (by decide), fu_same]
    · rw [fu_p (by decide), fu_p (by decide), fu_i (by decide), fu_same]
    · rw [fu_p (by decide), fu_p (by decide), fu_same]
    · rw [fu_i (by decide), fu_same]
    · rw [fu_same]
    · rw [fu_i (by decide), fu_i (by decide), fu_p (by decide), fu_p (by decide), fu_p (by decide), fu_p (by decide)]; exact y1 51 1 (by decide)
    · rw [fu_p (by decide), fu_p (by decide), fu_p (by decide), fu_p (by decide), fu_i (by decide), fu_i (by decide)]; exact y1 24 1 (by decide)
    · rw [fu_p (by decide), fu_p (by decide), fu_p (by decide), fu_p (by decide), fu_i (by decide), fu_i (by decide)]; exact y1 24 2 (by decide)
    · rw [fu_p (by decide), fu_p (by decide), fu_i (by decide), fu_i (by decide), fu_p (by decide), fu_p (by decide)]; exact y1 32 1 (by decide)
    · rw [fu_p (by decide), fu_p (by decide), fu_i (by decide), fu_i (by decide), fu_p (by decide), fu_p (by decide)]; exact y1 32 2 (by decide)
  have lp : ∀ (n : Nat) (F3 : fx_F) (l : Nat), Rn n k_T_net 59 [(2, 2), (3, 0), (0, l)] [] F3 v F' → l ≤ 2 → fxo [159] H F3 → (∀ j, j < l → F3 159 j = 0) → ∃ F4, fxo [159] H F4 ∧ (∀ j, j < 2 → F4 159 j = 0) ∧ ∃ F5, Cl k_Or_rate [(2, 19), (0, F4 3 2), (0, i_sub (i_shl 1 (F4 3 1)) 1)] F4 (2, 0) F5 ∧ ∃ (n2 : Nat) (F6 : fx_F), Cl k_Or_upEnds [(2, 19)] F5 (0, n2) F6 ∧ ∃ F7 : fx_F, Cl k_St_begin [(2, F5 2 13), (0, F5 3 2), (0, n2), (0, i_sub (i_shl 1 (F4 3 1)) 1)] F6 (2, 0) F7 ∧ v = (0, F7 3 0) ∧ F' = F7 := by
    intro n
    induction n using Nat.strongRecOn with
    | ind n ih =>
      intro F3 l h hl ho hA
      have Q := q_T_net_59 h
      rcases Nat.lt_or_ge l 2 with hlt | hge
      · obtain ⟨m, hm, hR⟩ := Q.2 (by rw [b_lt (by clear Q; omega) (by decide)]; exact hlt)
        clear Q
        rw [b_add (show l + 1 < 4294967296 by omega)] at hR
        exact ih m hm _ (l + 1) hR hlt (ho.wr (by decide)) (fun j hj => by
          by_cases e : j = l
          · subst e; exact fu_same
          · rw [fu_i e]; exact hA j (by omega))
      · have Q1 := Q.1 (by rw [b_le (by decide) (by clear Q; omega)]; exact hge)
        clear Q
        exact ⟨F3, ho, fun j hj => hA j (by omega), Q1⟩
  obtain ⟨F4, o4, a4, F5, c5, n2, F6, c6, F7, c7, x1, x2⟩ := lp n1 H 0 hR (Nat.zero_le _) fxo.rf (fun j hj => absurd hj (Nat.not_lt_zero _))
  subst x2
  have o24 : fxo [24, 32, 51, 159] F2 F4 := (hHo.mono (by simp)).tr (o4.mono (by simp))
  have cn4 := y2.keep o24 (by decide) (by decide) (by decide)
  have ocl4 := y3.keep o24 (by decide) (by decide)
  have cc4 : cc F4 C N := ⟨(o24 3 5 (by decide)).trans (y7.trans d5), fun k hk => by
    rw [o24 8 k (by decide), o24 9 k (by decide), (y8 k).1, (y8 k).2]; exact dC k hk⟩
  have e32 : F4 3 2 = ro := (o24 3 2 (by decide)).trans (y4.trans d2)
  have hpw : 1 ≤ 2 ^ L := Nat.one_le_two_pow
  have hp20 : 2 ^ L ≤ 1048576 := show 2 ^ L ≤ 2 ^ 20 from Nat.pow_le_pow_right (by decide) hL
  have es : i_sub (i_shl 1 (F4 3 1)) 1 = 2 ^ L - 1 := by
    rw [cn4.2.1, b_shl1 (show L < 32 by omega), b_sub hpw (by omega)]
  rw [e32, es] at c5
  rw [es] at c7
  obtain ⟨r1, r2⟩ := s_rate hN hC hC2 (show 2 ^ L - 1 < 2147483648 by omega) hr hr2 cn4 cc4 c5
  have cn5 := cn4.keep r1 (by decide) (by decide) (by decide)
  obtain ⟨up, b1, b2, b3, b4⟩ := s_upEnds hN cn5 (fun u hu => (r2 u hu).2.2) c6
  cases b1
  rw [b2] at c7
  have e5 : F5 2 13 = q := by
    rw [r1 2 13 (by decide), o24 2 13 (by decide), y1 2 13 (by decide)]; exact hq
  have e532 : F5 3 2 = ro := (r1 3 2 (by decide)).trans e32
  rw [e5, e532] at c7
  obtain ⟨-, z1, z2, z3, z4, z5, z6⟩ := s_stBegin c7
  have zF : ∀ p i, p ∉ [20, 21, 22, 23, q, q + 1] → F' p i = F4 p i := fun p i hp => (z1 p i (fun z => hp (by simp at z ⊢; omega))).trans (r1 p i (fun z => hp (by simp at z ⊢; omega)))
  have zL : ∀ p i, p ≤ 19 → F' p i = F4 p i := fun p i hp => zF p i (by simp; omega)
  have zM : ∀ p i, p = 24 ∨ p = 32 ∨ p = 51 → F' p i = H p i := fun p i hp => (zF p i (by simp; omega)).trans (o4 p i (by simp; omega))
  obtain ⟨w1, w2, w3, w4, w5, w6, w7, w8, w9, w10, w11⟩ := g1
  refine ⟨?_, ⟨cn4.eq (fun p i _ h2 => zL p i (by omega)), ocl4.eq (fun p i _ h2 => zL p i (by omega)), cc4.eq (fun p i _ h2 => zL p i (by omega))⟩, ⟨?_, ?_⟩, ⟨?_, ?_, ?_, ?_⟩, ⟨?_, ?_, ?_, ?_⟩, ⟨?_, ?_, ?_⟩, ⟨?_, ?_⟩, ⟨_, ⟨b3, b4⟩, z2, z3, z4, z5, z6⟩, fun p i hp => ?_⟩
  · rw [x1, zL 3 0 (by decide), cn4.1]
  · rw [zL 3 3 (by decide), o24 3 3 (by decide)]; exact y5
  · rw [zL 3 4 (by decide), o24 3 4 (by decide)]; exact y6
  · rw [zM 24 3 (by decide)]; exact w1
  · rw [zM 24 4 (by decide)]; exact w2
  · rw [zM 32 3 (by decide)]; exact w3
  · rw [zM 32 4 (by decide)]; exact w4
  · rw [zM 24 1 (by decide)]; exact w8
  · rw [zM 24 2 (by decide)]; exact w9
  · rw [zM 32 1 (by decide)]; exact w10
  · rw [zM 32 2 (by decide)]; exact w11
  · rw [zM 51 1 (by decide)]; exact w7
  · rw [zM 51 2 (by decide)]; exact w5
  · rw [zM 51 3 (by decide)]; exact w6
  · rw [zF 159 0 (by simp; omega)]; exact a4 0 (by decide)
  · rw [zF 159 1 (by simp; omega)]; exact a4 1 (by decide)
  · rw [zF p i (fun z => hp (by simp at z ⊢; omega)), o24 p i (fun z => hp (by simp at z ⊢; omega)), y1 p i (fun z => hp (by simp at z ⊢; omega))]
end CNET
end
