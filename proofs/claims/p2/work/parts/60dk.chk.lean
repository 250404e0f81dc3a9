theorem axt_241 : ax_tabB (rx_cd rxm_241) axm_241 = true := by decide +kernel
theorem axr_241 (hP : ∀ q ∈ rx_P, rx_QW q ∧ rx_ST rx_P (rx_DF, rx_FK) q) {l : Launch} {cy : Nat → ClassId} {D : va_G} : ax_Row ax_wC ax_XC rx_P ax_APC l cy D rxm_241 (axm_241, axc_241) := fun hr => ⟨ax_tabB_ok axt_241, fun hL => ax_con_nil⟩
theorem axt_242 : ax_tabB (rx_cd rxm_242) axm_242 = true := by decide +kernel
theorem axr_242 (hP : ∀ q ∈ rx_P, rx_QW q ∧ rx_ST rx_P (rx_DF, rx_FK) q) {l : Launch} {cy : Nat → ClassId} {D : va_G} : ax_Row ax_wC ax_XC rx_P ax_APC l cy D rxm_242 (axm_242, axc_242) := fun hr => ⟨ax_tabB_ok axt_242, fun hL => ax_con_nil⟩
theorem axt_243 : ax_tabB (rx_cd rxm_243) axm_243 = true := by decide +kernel
theorem axr_243 (hP : ∀ q ∈ rx_P, rx_QW q ∧ rx_ST rx_P (rx_DF, rx_FK) q) {l : Launch} {cy : Nat → ClassId} {D : va_G} : ax_Row ax_wC ax_XC rx_P ax_APC l cy D rxm_243 (axm_243, axc_243) := fun hr => ⟨ax_tabB_ok axt_243, fun hL => ax_con_nil⟩
theorem axt_244 : ax_tabB (rx_cd rxm_244) axm_244 = true := by decide +kernel
theorem axr_244 (hP : ∀ q ∈ rx_P, rx_QW q ∧ rx_ST rx_P (rx_DF, rx_FK) q) {l : Launch} {cy : Nat → ClassId} {D : va_G} : ax_Row ax_wC ax_XC rx_P ax_APC l cy D rxm_244 (axm_244, axc_244) := fun hr => ⟨ax_tabB_ok axt_244, fun hL => ax_con_nil⟩
theorem axt_245 : ax_tabB (rx_cd rxm_245) axm_245 = true := by decide +kernel
theorem axr_245 (hP : ∀ q ∈ rx_P, rx_QW q ∧ rx_ST rx_P (rx_DF, rx_FK) q) {l : Launch} {cy : Nat → ClassId} {D : va_G} : ax_Row ax_wC ax_XC rx_P ax_APC l cy D rxm_245 (axm_245, axc_245) := fun hr => ⟨ax_tabB_ok axt_245, fun hL => ax_con_nil⟩
theorem axt_246 : ax_tabB (rx_cd rxm_246) axm_246 = true := by decide +kernel
theorem axr_246 (hP : ∀ q ∈ rx_P, rx_QW q ∧ rx_ST rx_P (rx_DF, rx_FK) q) {l : Launch} {cy : Nat → ClassId} {D : va_G} : ax_Row ax_wC ax_XC rx_P ax_APC l cy D rxm_246 (axm_246, axc_246) := fun hr => ⟨ax_tabB_ok axt_246, fun hL => ax_con_nil⟩
theorem axt_247 : ax_tabB (rx_cd rxm_247) axm_247 = true := by decide +kernel
theorem axr_247 (hP : ∀ q ∈ rx_P, rx_QW q ∧ rx_ST rx_P (rx_DF, rx_FK) q) {l : Launch} {cy : Nat → ClassId} {D : va_G} : ax_Row ax_wC ax_XC rx_P ax_APC l cy D rxm_247 (axm_247, axc_247) := fun hr => ⟨ax_tabB_ok axt_247, fun hL => ax_con_nil⟩
theorem axt_248 : ax_tabB (rx_cd rxm_248) axm_248 = true := by decide +kernel
/-- TurnNet.best: 350 steps -/
theorem axk_248_0 : ax_chk ax_wC rx_P (rx_DF, rx_FK) ax_APC (rx_n rxm_248) axm_248 (([3, 7], (2, [(0, 0, 4294967295), (2, 0, 0)], [], [], [(0, [80])])), [(4, 1), (4, 2), (4, 3), (4, 4), (21, 999), (22, 999), (23, 999), (24, 999), (25, 999), (26, 999), (27, 999), (28, 999), (29, 999)], [([11], (3, [(0, 2147483647, 2147483667), (0, 0, 4294967295), (2, 0, 0)], [], [], [(0, [80])]))]) [] [33] 3000 1 (([((33, 1, 4, ([3, 7, 11, 15, 19, 2], (6, [(0, 2147483649, 2147483658), (0, 2147483649, 2147483658), (0, 0, 4294967295), (0, 2147483648, 2147483667), (0, 0, 4294967295), (2, 0, 0)], [(14, 0, 23), (3, 0, 14)], [], [(0, [80])]))), ())] : List ((Nat × Nat × Nat × ax_T) × ax_Tr 0)) : ax_Tr 1) = true := by decide +kernel
theorem axr_248 (hP : ∀ q ∈ rx_P, rx_QW q ∧ rx_ST rx_P (rx_DF, rx_FK) q) {l : Launch} {cy : Nat → ClassId} {D : va_G} : ax_Row ax_wC ax_XC rx_P ax_APC l cy D rxm_248 (axm_248, axc_248) := fun hr => ⟨ax_tabB_ok axt_248, fun hL => ax_con_cons (ax_chk_ok hP ax_XC_ok hr hL (ax_tabB_ok axt_248) ax_ro_nil axk_248_0) (ax_con_nil)⟩
theorem axt_249 : ax_tabB (rx_cd rxm_249) axm_249 = true := by decide +kernel
/-- TurnNet.change: 543 steps -/
theorem axk_249_0 : ax_chk ax_wC rx_P (rx_DF, rx_FK) ax_APC (rx_n rxm_249) axm_249 (([3, 7, 11], (3, [(0, 0, 4294967295), (0, 0, 4294967295), (2, 0, 0)], [], [], [(0, [80])])), [(4, 1), (4, 2), (4, 3), (4, 4), (7, 3), (7, 4), (8, 1), (8, 2), (9, 1), (9, 2), (9, 3), (10, 0), (10, 1), (10, 2), (10, 3), (10, 4), (21, 999), (22, 999), (23, 999), (24, 999), (25, 999), (26, 999), (27, 999), (28, 999), (29, 999), (36, 999), (37, 999), (38, 999), (40, 999), (41, 999), (42, 999), (43, 999)], [([15], (4, [(0, 2147483646, 2147483668), (0, 0, 4294967295), (0, 0, 4294967295), (2, 0, 0)], [], [], [(0, [80])]))]) [] [54] 3000 1 (([((54, 1, 3, ([3, 7, 11, 15], (7, [(0, 2147483649, 2147483658), (0, 2147483648, 2147483668), (2, 10, 0), (0, 2147483648, 2147483668), (0, 2147483648, 2147483668), (0, 2147483648, 2147483657), (2, 0, 0)], [(3, 52, 19), (3, 36, 206), (194, 16, 23), (3, 28, 194), (14, 0, 27), (3, 0, 14)], [], [(0, [80])]))), ())] : List ((Nat × Nat × Nat × ax_T) × ax_Tr 0)) : ax_Tr 1) = true := by decide +kernel
theorem axr_249 (hP : ∀ q ∈ rx_P, rx_QW q ∧ rx_ST rx_P (rx_DF, rx_FK) q) {l : Launch} {cy : Nat → ClassId} {D : va_G} : ax_Row ax_wC ax_XC rx_P ax_APC l cy D rxm_249 (axm_249, axc_249) := fun hr => ⟨ax_tabB_ok axt_249, fun hL => ax_con_cons (ax_chk_ok hP ax_XC_ok hr hL (ax_tabB_ok axt_249) ax_ro_nil axk_249_0) (ax_con_nil)⟩
theorem axt_250 : ax_tabB (rx_cd rxm_250) axm_250 = true := by decide +kernel
/-- TurnNet.drains: 216 steps -/
theorem axk_250_0 : ax_chk ax_wC rx_P (rx_DF, rx_FK) ax_APC (rx_n rxm_250) axm_250 (([3], (1, [(2, 0, 0)], [], [], [(0, [80])])), [(4, 1), (4, 2), (4, 3), (4, 4), (8, 1), (8, 2), (10, 0), (10, 1), (10, 2), (10, 3), (10, 4), (25, 999), (26, 999), (27, 999), (28, 999), (29, 999), (40, 999), (41, 999), (42, 999), (43, 999)], [([7], (2, [(0, 2147483647, 2147483848), (2, 0, 0)], [], [], [(0, [80])]))]) [] [] 3000 0 (() : ax_Tr 0) = true := by decide +kernel
theorem axr_250 (hP : ∀ q ∈ rx_P, rx_QW q ∧ rx_ST rx_P (rx_DF, rx_FK) q) {l : Launch} {cy : Nat → ClassId} {D : va_G} : ax_Row ax_wC ax_XC rx_P ax_APC l cy D rxm_250 (axm_250, axc_250) := fun hr => ⟨ax_tabB_ok axt_250, fun hL => ax_con_cons (ax_chk_ok hP ax_XC_ok hr hL (ax_tabB_ok axt_250) ax_ro_nil axk_250_0) (ax_con_nil)⟩
theorem axt_251 : ax_tabB (rx_cd rxm_251) axm_251 = true := by decide +kernel
/-- TurnNet.phase: 168 steps -/
theorem axk_251_0 : ax_chk ax_wC rx_P (rx_DF, rx_FK) ax_APC (rx_n rxm_251) axm_251 (([3, 7, 11], (3, [(0, 0, 4294967295), (0, 0, 4294967295), (2, 0, 0)], [], [], [(0, [80])])), [(7, 3), (7, 4), (21, 999), (22, 999), (23, 999), (24, 999), (36, 999), (37, 999), (38, 999)], [([15], (4, [(0, 2147483647, 2147483667), (0, 0, 4294967295), (0, 0, 4294967295), (2, 0, 0)], [], [], [(0, [80])]))]) [] [] 3000 0 (() : ax_Tr 0) = true := by decide +kernel
theorem axr_251 (hP : ∀ q ∈ rx_P, rx_QW q ∧ rx_ST rx_P (rx_DF, rx_FK) q) {l : Launch} {cy : Nat → ClassId} {D : va_G} : ax_Row ax_wC ax_XC rx_P ax_APC l cy D rxm_251 (axm_251, axc_251) := fun hr => ⟨ax_tabB_ok axt_251, fun hL => ax_con_cons (ax_chk_ok hP ax_XC_ok hr hL (ax_tabB_ok axt_251) ax_ro_nil axk_251_0) (ax_con_nil)⟩
theorem axt_252 : ax_tabB (rx_cd rxm_252) axm_252 = true := by decide +kernel
/-- TurnNet.plan: 141 steps -/
theorem axk_252_0 : ax_chk ax_wC rx_P (rx_DF, rx_FK) ax_APC (rx_n rxm_252) axm_252 (([3, 7, 11], (3, [(0, 0, 4294967295), (0, 0, 4294967295), (2, 0, 0)], [], [], [(0, [80])])), [(7, 3), (7, 4), (21, 999), (22, 999), (23, 999), (24, 999), (36, 999), (37, 999), (38, 999)], [([15], (4, [(0, 0, 4294967295), (0, 0, 4294967295), (0, 0, 4294967295), (2, 0, 0)], [], [], [(0, [80])]))]) [] [] 3000 0 (() : ax_Tr 0) = true := by decide +kernel
theorem axr_252 (hP : ∀ q ∈ rx_P, rx_QW q ∧ rx_ST rx_P (rx_DF, rx_FK) q) {l : Launch} {cy : Nat → ClassId} {D : va_G} : ax_Row ax_wC ax_XC rx_P ax_APC l cy D rxm_252 (axm_252, axc_252) := fun hr => ⟨ax_tabB_ok axt_252, fun hL => ax_con_cons (ax_chk_ok hP ax_XC_ok hr hL (ax_tabB_ok axt_252) ax_ro_nil axk_252_0) (ax_con_nil)⟩
theorem axt_253 : ax_tabB (rx_cd rxm_253) axm_253 = true := by decide +kernel
/-- TurnNet.rooted: 114 steps -/
theorem axk_253_0 : ax_chk ax_wC rx_P (rx_DF, rx_FK) ax_APC (rx_n rxm_253) axm_253 (([3, 7, 11], (3, [(0, 0, 4294967295), (0, 0, 4294967295), (2, 0, 0)], [], [], [(0, [80])])), [(4, 1), (4, 2), (4, 3), (4, 4), (21, 999), (22, 999), (23, 999), (24, 999), (25, 999), (26, 999), (27, 999), (28, 999), (29, 999)], [([15], (4, [(0, 0, 4294967295), (0, 0, 4294967295), (0, 0, 4294967295), (2, 0, 0)], [], [], [(0, [80])]))]) [] [] 3000 0 (() : ax_Tr 0) = true := by decide +kernel
theorem axr_253 (hP : ∀ q ∈ rx_P, rx_QW q ∧ rx_ST rx_P (rx_DF, rx_FK) q) {l : Launch} {cy : Nat → ClassId} {D : va_G} : ax_Row ax_wC ax_XC rx_P ax_APC l cy D rxm_253 (axm_253, axc_253) := fun hr => ⟨ax_tabB_ok axt_253, fun hL => ax_con_cons (ax_chk_ok hP ax_XC_ok hr hL (ax_tabB_ok axt_253) ax_ro_nil axk_253_0) (ax_con_nil)⟩
theorem axt_254 : ax_tabB (rx_cd rxm_254) axm_254 = true := by decide +kernel
/-- TurnNet.steps: 81 steps -/
theorem axk_254_0 : ax_chk ax_wC rx_P (rx_DF, rx_FK) ax_APC (rx_n rxm_254) axm_254 (([3, 7], (2, [(0, 0, 4294967295), (2, 0, 0)], [], [], [(0, [80])])), [(4, 1), (4, 2), (4, 3), (4, 4), (8, 1), (8, 2), (9, 1), (9, 2), (9, 3), (10, 0), (10, 1), (10, 2), (10, 3), (10, 4), (25, 999), (26, 999), (27, 999), (28, 999), (29, 999), (40, 999), (41, 999), (42, 999), (43, 999)], [([11], (3, [(0, 0, 4294967295), (0, 0, 4294967295), (2, 0, 0)], [], [], [(0, [80])]))]) [] [] 3000 0 (() : ax_Tr 0) = true := by decide +kernel
theorem axr_254 (hP : ∀ q ∈ rx_P, rx_QW q ∧ rx_ST rx_P (rx_DF, rx_FK) q) {l : Launch} {cy : Nat → ClassId} {D : va_G} : ax_Row ax_wC ax_XC rx_P ax_APC l cy D rxm_254 (axm_254, axc_254) := fun hr => ⟨ax_tabB_ok axt_254, fun hL => ax_con_cons (ax_chk_ok hP ax_XC_ok hr hL (ax_tabB_ok axt_254) ax_ro_nil axk_254_0) (ax_con_nil)⟩
theorem axt_255 : ax_tabB (rx_cd rxm_255) axm_255 = true := by decide +kernel
/-- TurnNet.stuck: 650 steps -/
theorem axk_255_0 : ax_chk ax_wC rx_P (rx_DF, rx_FK) ax_APC (rx_n rxm_255) axm_255 (([3], (1, [(2, 0, 0)], [], [], [(0, [80])])), [(4, 1), (4, 2), (4, 3), (4, 4), (8, 1), (8, 2), (10, 0), (10, 1), (10, 2), (10, 3), (10, 4), (25, 999), (26, 999), (27, 999), (28, 999), (29, 999), (40, 999), (41, 999), (42, 999), (43, 999)], [([7], (2, [(0, 0, 4294967295), (2, 0, 0)], [], [], [(0, [80])]))]) [] [20] 3000 1 (([((20, 1, 2, ([3, 7, 11], (8, [(2, 10, 0), (2, 40, 0), (2, 41, 0), (2, 42, 0), (2, 43, 0), (0, 2147483648, 2147483660), (0, 0, 4294967295), (2, 0, 0)], [(614, 32, 15), (614, 28, 19), (614, 24, 23), (614, 20, 27), (3, 52, 31), (3, 40, 614)], [], [(0, [80])]))), ())] : List ((Nat × Nat × Nat × ax_T) × ax_Tr 0)) : ax_Tr 1) = true := by decide +kernel
theorem axr_255 (hP : ∀ q ∈ rx_P, rx_QW q ∧ rx_ST rx_P (rx_DF, rx_FK) q) {l : Launch} {cy : Nat → ClassId} {D : va_G} : ax_Row ax_wC ax_XC rx_P ax_APC l cy D rxm_255 (axm_255, axc_255) := fun hr => ⟨ax_tabB_ok axt_255, fun hL => ax_con_cons (ax_chk_ok hP ax_XC_ok hr hL (ax_tabB_ok axt_255) ax_ro_nil axk_255_0) (ax_con_nil)⟩
theorem axt_256 : ax_tabB (rx_cd rxm_256) axm_256 = true := by decide +kernel
theorem axr_256 (hP : ∀ q ∈ rx_P, rx_QW q ∧ rx_ST rx_P (rx_DF, rx_FK) q) {l : Launch} {cy : Nat → ClassId} {D : va_G} : ax_Row ax_wC ax_XC rx_P ax_APC l cy D rxm_256 (axm_256, axc_256) := fun hr => ⟨ax_tabB_ok axt_256, fun hL => ax_con_nil⟩
theorem axt_257 : ax_tabB (rx_cd rxm_257) axm_257 = true := by decide +kernel
theorem axr_257 (hP : ∀ q ∈ rx_P, rx_QW q ∧ rx_ST rx_P (rx_DF, rx_FK) q) {l : Launch} {cy : Nat → ClassId} {D : va_G} : ax_Row ax_wC ax_XC rx_P ax_APC l cy D rxm_257 (axm_257, axc_257) := fun hr => ⟨ax_tabB_ok axt_257, fun hL => ax_con_nil⟩
theorem axt_258 : ax_tabB (rx_cd rxm_258) axm_258 = true := by decide +kernel
theorem axr_258 (hP : ∀ q ∈ rx_P, rx_QW q ∧ rx_ST rx_P (rx_DF, rx_FK) q) {l : Launch} {cy : Nat → ClassId} {D : va_G} : ax_Row ax_wC ax_XC rx_P ax_APC l cy D rxm_258 (axm_258, axc_258) := fun hr => ⟨ax_tabB_ok axt_258, fun hL => ax_con_nil⟩
theorem axt_259 : ax_tabB (rx_cd rxm_259) axm_259 = true := by decide +kernel
theorem axr_259 (hP : ∀ q ∈ rx_P, rx_QW q ∧ rx_ST rx_P (rx_DF, rx_FK) q) {l : Launch} {cy : Nat → ClassId} {D : va_G} : ax_Row ax_wC ax_XC rx_P ax_APC l cy D rxm_259 (axm_259, axc_259) := fun hr => ⟨ax_tabB_ok axt_259, fun hL => ax_con_nil⟩
theorem axt_260 : ax_tabB (rx_cd rxm_260) axm_260 = true := by decide +kernel
theorem axr_260 (hP : ∀ q ∈ rx_P, rx_QW q ∧ rx_ST rx_P (rx_DF, rx_FK) q) {l : Launch} {cy : Nat → ClassId} {D : va_G} : ax_Row ax_wC ax_XC rx_P ax_APC l cy D rxm_260 (axm_260, axc_260) := fun hr => ⟨ax_tabB_ok axt_260, fun hL => ax_con_nil⟩
theorem axt_261 : ax_tabB (rx_cd rxm_261) axm_261 = true := by decide +kernel
theorem axr_261 (hP : ∀ q ∈ rx_P, rx_QW q ∧ rx_ST rx_P (rx_DF, rx_FK) q) {l : Launch} {cy : Nat → ClassId} {D : va_G} : ax_Row ax_wC ax_XC rx_P ax_APC l cy D rxm_261 (axm_261, axc_261) := fun hr => ⟨ax_tabB_ok axt_261, fun hL => ax_con_nil⟩
theorem axt_262 : ax_tabB (rx_cd rxm_262) axm_262 = true := by decide +kernel
theorem axr_262 (hP : ∀ q ∈ rx_P, rx_QW q ∧ rx_ST rx_P (rx_DF, rx_FK) q) {l : Launch} {cy : Nat → ClassId} {D : va_G} : ax_Row ax_wC ax_XC rx_P ax_APC l cy D rxm_262 (axm_262, axc_262) := fun hr => ⟨ax_tabB_ok axt_262, fun hL => ax_con_nil⟩
theorem axt_263 : ax_tabB (rx_cd rxm_263) axm_263 = true := by decide +kernel
theorem axr_263 (hP : ∀ q ∈ rx_P, rx_QW q ∧ rx_ST rx_P (rx_DF, rx_FK) q) {l : Launch} {cy : Nat → ClassId} {D : va_G} : ax_Row ax_wC ax_XC rx_P ax_APC l cy D rxm_263 (axm_263, axc_263) := fun hr => ⟨ax_tabB_ok axt_263, fun hL => ax_con_nil⟩
theorem axt_264 : ax_tabB (rx_cd rxm_264) axm_264 = true := by decide +kernel
theorem axr_264 (hP : ∀ q ∈ rx_P, rx_QW q ∧ rx_ST rx_P (rx_DF, rx_FK) q) {l : Launch} {cy : Nat → ClassId} {D : va_G} : ax_Row ax_wC ax_XC rx_P ax_APC l cy D rxm_264 (axm_264, axc_264) := fun hr => ⟨ax_tabB_ok axt_264, fun hL => ax_con_nil⟩
theorem axt_265 : ax_tabB (rx_cd rxm_265) axm_265 = true := by decide +kernel
theorem axr_265 (hP : ∀ q ∈ rx_P, rx_QW q ∧ rx_ST rx_P (rx_DF, rx_FK) q) {l : Launch} {cy : Nat → ClassId} {D : va_G} : ax_Row ax_wC ax_XC rx_P ax_APC l cy D rxm_265 (axm_265, axc_265) := fun hr => ⟨ax_tabB_ok axt_265, fun hL => ax_con_nil⟩
theorem axt_266 : ax_tabB (rx_cd rxm_266) axm_266 = true := by decide +kernel
theorem axr_266 (hP : ∀ q ∈ rx_P, rx_QW q ∧ rx_ST rx_P (rx_DF, rx_FK) q) {l : Launch} {cy : Nat → ClassId} {D : va_G} : ax_Row ax_wC ax_XC rx_P ax_APC l cy D rxm_266 (axm_266, axc_266) := fun hr => ⟨ax_tabB_ok axt_266, fun hL => ax_con_nil⟩
theorem axt_267 : ax_tabB (rx_cd rxm_267) axm_267 = true := by decide +kernel
theorem axr_267 (hP : ∀ q ∈ rx_P, rx_QW q ∧ rx_ST rx_P (rx_DF, rx_FK) q) {l : Launch} {cy : Nat → ClassId} {D : va_G} : ax_Row ax_wC ax_XC rx_P ax_APC l cy D rxm_267 (axm_267, axc_267) := fun hr => ⟨ax_tabB_ok axt_267, fun hL => ax_con_nil⟩
theorem axt_268 : ax_tabB (rx_cd rxm_268) axm_268 = true := by decide +kernel
theorem axr_268 (hP : ∀ q ∈ rx_P, rx_QW q ∧ rx_ST rx_P (rx_DF, rx_FK) q) {l : Launch} {cy : Nat → ClassId} {D : va_G} : ax_Row ax_wC ax_XC rx_P ax_APC l cy D rxm_268 (axm_268, axc_268) := fun hr => ⟨ax_tabB_ok axt_268, fun hL => ax_con_nil⟩
theorem axt_269 : ax_tabB (rx_cd rxm_269) axm_269 = true := by decide +kernel
theorem axr_269 (hP : ∀ q ∈ rx_P, rx_QW q ∧ rx_ST rx_P (rx_DF, rx_FK) q) {l : Launch} {cy : Nat → ClassId} {D : va_G} : ax_Row ax_wC ax_XC rx_P ax_APC l cy D rxm_269 (axm_269, axc_269) := fun hr => ⟨ax_tabB_ok axt_269, fun hL => ax_con_nil⟩
theorem axt_270 : ax_tabB (rx_cd rxm_270) axm_270 = true := by decide +kernel
theorem axr_270 (hP : ∀ q ∈ rx_P, rx_QW q ∧ rx_ST rx_P (rx_DF, rx_FK) q) {l : Launch} {cy : Nat → ClassId} {D : va_G} : ax_Row ax_wC ax_XC rx_P ax_APC l cy D rxm_270 (axm_270, axc_270) := fun hr => ⟨ax_tabB_ok axt_270, fun hL => ax_con_nil⟩
theorem axt_271 : ax_tabB (rx_cd rxm_271) axm_271 = true := by decide +kernel
theorem axr_271 (hP : ∀ q ∈ rx_P, rx_QW q ∧ rx_ST rx_P (rx_DF, rx_FK) q) {l : Launch} {cy : Nat → ClassId} {D : va_G} : ax_Row ax_wC ax_XC rx_P ax_APC l cy D rxm_271 (axm_271, axc_271) := fun hr => ⟨ax_tabB_ok axt_271, fun hL => ax_con_nil⟩
theorem axt_272 : ax_tabB (rx_cd rxm_272) axm_272 = true := by decide +kernel
theorem axr_272 (hP : ∀ q ∈ rx_P, rx_QW q ∧ rx_ST rx_P (rx_DF, rx_FK) q) {l : Launch} {cy : Nat → ClassId} {D : va_G} : ax_Row ax_wC ax_XC rx_P ax_APC l cy D rxm_272 (axm_272, axc_272) := fun hr => ⟨ax_tabB_ok axt_272, fun hL => ax_con_nil⟩
theorem axt_273 : ax_tabB (rx_cd rxm_273) axm_273 = true := by decide +kernel
theorem axr_273 (hP : ∀ q ∈ rx_P, rx_QW q ∧ rx_ST rx_P (rx_DF, rx_FK) q) {l : Launch} {cy : Nat → ClassId} {D : va_G} : ax_Row ax_wC ax_XC rx_P ax_APC l cy D rxm_273 (axm_273, axc_273) := fun hr => ⟨ax_tabB_ok axt_273, fun hL => ax_con_nil⟩
theorem axt_274 : ax_tabB (rx_cd rxm_274) axm_274 = true := by decide +kernel
theorem axr_274 (hP : ∀ q ∈ rx_P, rx_QW q ∧ rx_ST rx_P (rx_DF, rx_FK) q) {l : Launch} {cy : Nat → ClassId} {D : va_G} : ax_Row ax_wC ax_XC rx_P ax_APC l cy D rxm_274 (axm_274, axc_274) := fun hr => ⟨ax_tabB_ok axt_274, fun hL => ax_con_nil⟩
theorem axt_275 : ax_tabB (rx_cd rxm_275) axm_275 = true := by decide +kernel
theorem axr_275 (hP : ∀ q ∈ rx_P, rx_QW q ∧ rx_ST rx_P (rx_DF, rx_FK) q) {l : Launch} {cy : Nat → ClassId} {D : va_G} : ax_Row ax_wC ax_XC rx_P ax_APC l cy D rxm_275 (axm_275, axc_275) := fun hr => ⟨ax_tabB_ok axt_275, fun hL => ax_con_nil⟩
theorem axt_276 : ax_tabB (rx_cd rxm_276) axm_276 = true := by decide +kernel
theorem axr_276 (hP : ∀ q ∈ rx_P, rx_QW q ∧ rx_ST rx_P (rx_DF, rx_FK) q) {l : Launch} {cy : Nat → ClassId} {D : va_G} : ax_Row ax_wC ax_XC rx_P ax_APC l cy D rxm_276 (axm_276, axc_276) := fun hr => ⟨ax_tabB_ok axt_276, fun hL => ax_con_nil⟩
theorem axt_277 : ax_tabB (rx_cd rxm_277) axm_277 = true := by decide +kernel
theorem axr_277 (hP : ∀ q ∈ rx_P, rx_QW q ∧ rx_ST rx_P (rx_DF, rx_FK) q) {l : Launch} {cy : Nat → ClassId} {D : va_G} : ax_Row ax_wC ax_XC rx_P ax_APC l cy D rxm_277 (axm_277, axc_277) := fun hr => ⟨ax_tabB_ok axt_277, fun hL => ax_con_nil⟩
theorem axt_278 : ax_tabB (rx_cd rxm_278) axm_278 = true := by decide +kernel
theorem axr_278 (hP : ∀ q ∈ rx_P, rx_QW q ∧ rx_ST rx_P (rx_DF, rx_FK) q) {l : Launch} {cy : Nat → ClassId} {D : va_G} : ax_Row ax_wC ax_XC rx_P ax_APC l cy D rxm_278 (axm_278, axc_278) := fun hr => ⟨ax_tabB_ok axt_278, fun hL => ax_con_nil⟩
theorem axt_279 : ax_tabB (rx_cd rxm_279) axm_279 = true := by decide +kernel
theorem axr_279 (hP : ∀ q ∈ rx_P, rx_QW q ∧ rx_ST rx_P (rx_DF, rx_FK) q) {l : Launch} {cy : Nat → ClassId} {D : va_G} : ax_Row ax_wC ax_XC rx_P ax_APC l cy D rxm_279 (axm_279, axc_279) := fun hr => ⟨ax_tabB_ok axt_279, fun hL => ax_con_nil⟩
theorem axt_280 : ax_tabB (rx_cd rxm_280) axm_280 = true := by decide +kernel
theorem axr_280 (hP : ∀ q ∈ rx_P, rx_QW q ∧ rx_ST rx_P (rx_DF, rx_FK) q) {l : Launch} {cy : Nat → ClassId} {D : va_G} : ax_Row ax_wC ax_XC rx_P ax_APC l cy D rxm_280 (axm_280, axc_280) := fun hr => ⟨ax_tabB_ok axt_280, fun hL => ax_con_nil⟩
theorem axt_281 : ax_tabB (rx_cd rxm_281) axm_281 = true := by decide +kernel
theorem axr_281 (hP : ∀ q ∈ rx_P, rx_QW q ∧ rx_ST rx_P (rx_DF, rx_FK) q) {l : Launch} {cy : Nat → ClassId} {D : va_G} : ax_Row ax_wC ax_XC rx_P ax_APC l cy D rxm_281 (axm_281, axc_281) := fun hr => ⟨ax_tabB_ok axt_281, fun hL => ax_con_nil⟩
theorem axt_282 : ax_tabB (rx_cd rxm_282) axm_282 = true := by decide +kernel
theorem axr_282 (hP : ∀ q ∈ rx_P, rx_QW q ∧ rx_ST rx_P (rx_DF, rx_FK) q) {l : Launch} {cy : Nat → ClassId} {D : va_G} : ax_Row ax_wC ax_XC rx_P ax_APC l cy D rxm_282 (axm_282, axc_282) := fun hr => ⟨ax_tabB_ok axt_282, fun hL => ax_con_nil⟩
theorem axt_283 : ax_tabB (rx_cd rxm_283) axm_283 = true := by decide +kernel
theorem axr_283 (hP : ∀ q ∈ rx_P, rx_QW q ∧ rx_ST rx_P (rx_DF, rx_FK) q) {l : Launch} {cy : Nat → ClassId} {D : va_G} : ax_Row ax_wC ax_XC rx_P ax_APC l cy D rxm_283 (axm_283, axc_283) := fun hr => ⟨ax_tabB_ok axt_283, fun hL => ax_con_nil⟩
theorem axt_284 : ax_tabB (rx_cd rxm_284) axm_284 = true := by decide +kernel
theorem axr_284 (hP : ∀ q ∈ rx_P, rx_QW q ∧ rx_ST rx_P (rx_DF, rx_FK) q) {l : Launch} {cy : Nat → ClassId} {D : va_G} : ax_Row ax_wC ax_XC rx_P ax_APC l cy D rxm_284 (axm_284, axc_284) := fun hr => ⟨ax_tabB_ok axt_284, fun hL => ax_con_nil⟩
theorem axt_285 : ax_tabB (rx_cd rxm_285) axm_285 = true := by decide +kernel
theorem axr_285 (hP : ∀ q ∈ rx_P, rx_QW q ∧ rx_ST rx_P (rx_DF, rx_FK) q) {l : Launch} {cy : Nat → ClassId} {D : va_G} : ax_Row ax_wC ax_XC rx_P ax_APC l cy D rxm_285 (axm_285, axc_285) := fun hr => ⟨ax_tabB_ok axt_285, fun hL => ax_con_nil⟩
theorem axt_286 : ax_tabB (rx_cd rxm_286) axm_286 = true := by decide +kernel
theorem axr_286 (hP : ∀ q ∈ rx_P, rx_QW q ∧ rx_ST rx_P (rx_DF, rx_FK) q) {l : Launch} {cy : Nat → ClassId} {D : va_G} : ax_Row ax_wC ax_XC rx_P ax_APC l cy D rxm_286 (axm_286, axc_286) := fun hr => ⟨ax_tabB_ok axt_286, fun hL => ax_con_nil⟩
theorem axt_287 : ax_tabB (rx_cd rxm_287) axm_287 = true := by decide +kernel
theorem axr_287 (hP : ∀ q ∈ rx_P, rx_QW q ∧ rx_ST rx_P (rx_DF, rx_FK) q) {l : Launch} {cy : Nat → ClassId} {D : va_G} : ax_Row ax_wC ax_XC rx_P ax_APC l cy D rxm_287 (axm_287, axc_287) := fun hr => ⟨ax_tabB_ok axt_287, fun hL => ax_con_nil⟩
theorem axt_288 : ax_tabB (rx_cd rxm_288) axm_288 = true := by decide +kernel
theorem axr_288 (hP : ∀ q ∈ rx_P, rx_QW q ∧ rx_ST rx_P (rx_DF, rx_FK) q) {l : Launch} {cy : Nat → ClassId} {D : va_G} : ax_Row ax_wC ax_XC rx_P ax_APC l cy D rxm_288 (axm_288, axc_288) := fun hr => ⟨ax_tabB_ok axt_288, fun hL => ax_con_nil⟩
theorem axt_289 : ax_tabB (rx_cd rxm_289) axm_289 = true := by decide +kernel
theorem axr_289 (hP : ∀ q ∈ rx_P, rx_QW q ∧ rx_ST rx_P (rx_DF, rx_FK) q) {l : Launch} {cy : Nat → ClassId} {D : va_G} : ax_Row ax_wC ax_XC rx_P ax_APC l cy D rxm_289 (axm_289, axc_289) := fun hr => ⟨ax_tabB_ok axt_289, fun hL => ax_con_nil⟩
theorem axt_290 : ax_tabB (rx_cd rxm_290) axm_290 = true := by decide +kernel
theorem axr_290 (hP : ∀ q ∈ rx_P, rx_QW q ∧ rx_ST rx_P (rx_DF, rx_FK) q) {l : Launch} {cy : Nat → ClassId} {D : va_G} : ax_Row ax_wC ax_XC rx_P ax_APC l cy D rxm_290 (axm_290, axc_290) := fun hr => ⟨ax_tabB_ok axt_290, fun hL => ax_con_nil⟩
theorem axt_291 : ax_tabB (rx_cd rxm_291) axm_291 = true := by decide +kernel
theorem axr_291 (hP : ∀ q ∈ rx_P, rx_QW q ∧ rx_ST rx_P (rx_DF, rx_FK) q) {l : Launch} {cy : Nat → ClassId} {D : va_G} : ax_Row ax_wC ax_XC rx_P ax_APC l cy D rxm_291 (axm_291, axc_291) := fun hr => ⟨ax_tabB_ok axt_291, fun hL => ax_con_nil⟩
theorem axt_292 : ax_tabB (rx_cd rxm_292) axm_292 = true := by decide +kernel
theorem axr_292 (hP : ∀ q ∈ rx_P, rx_QW q ∧ rx_ST rx_P (rx_DF, rx_FK) q) {l : Launch} {cy : Nat → ClassId} {D : va_G} : ax_Row ax_wC ax_XC rx_P ax_APC l cy D rxm_292 (axm_292, axc_292) := fun hr => ⟨ax_tabB_ok axt_292, fun hL => ax_con_nil⟩
theorem axt_293 : ax_tabB (rx_cd rxm_293) axm_293 = true := by decide +kernel
theorem axr_293 (hP : ∀ q ∈ rx_P, rx_QW q ∧ rx_ST rx_P (rx_DF, rx_FK) q) {l : Launch} {cy : Nat → ClassId} {D : va_G} : ax_Row ax_wC ax_XC rx_P ax_APC l cy D rxm_293 (axm_293, axc_293) := fun hr => ⟨ax_tabB_ok axt_293, fun hL => ax_con_nil⟩
theorem axt_294 : ax_tabB (rx_cd rxm_294) axm_294 = true := by decide +kernel
theorem axr_294 (hP : ∀ q ∈ rx_P, rx_QW q ∧ rx_ST rx_P (rx_DF, rx_FK) q) {l : Launch} {cy : Nat → ClassId} {D : va_G} : ax_Row ax_wC ax_XC rx_P ax_APC l cy D rxm_294 (axm_294, axc_294) := fun hr => ⟨ax_tabB_ok axt_294, fun hL => ax_con_nil⟩
theorem axt_295 : ax_tabB (rx_cd rxm_295) axm_295 = true := by decide +kernel
theorem axr_295 (hP : ∀ q ∈ rx_P, rx_QW q ∧ rx_ST rx_P (rx_DF, rx_FK) q) {l : Launch} {cy : Nat → ClassId} {D : va_G} : ax_Row ax_wC ax_XC rx_P ax_APC l cy D rxm_295 (axm_295, axc_295) := fun hr => ⟨ax_tabB_ok axt_295, fun hL => ax_con_nil⟩
theorem axt_296 : ax_tabB (rx_cd rxm_296) axm_296 = true := by decide +kernel
theorem axr_296 (hP : ∀ q ∈ rx_P, rx_QW q ∧ rx_ST rx_P (rx_DF, rx_FK) q) {l : Launch} {cy : Nat → ClassId} {D : va_G} : ax_Row ax_wC ax_XC rx_P ax_APC l cy D rxm_296 (axm_296, axc_296) := fun hr => ⟨ax_tabB_ok axt_296, fun hL => ax_con_nil⟩
theorem axt_297 : ax_tabB (rx_cd rxm_297) axm_297 = true := by decide +kernel
theorem axr_297 (hP : ∀ q ∈ rx_P, rx_QW q ∧ rx_ST rx_P (rx_DF, rx_FK) q) {l : Launch} {cy : Nat → ClassId} {D : va_G} : ax_Row ax_wC ax_XC rx_P ax_APC l cy D rxm_297 (axm_297, axc_297) := fun hr => ⟨ax_tabB_ok axt_297, fun hL => ax_con_nil⟩
theorem axt_298 : ax_tabB (rx_cd rxm_298) axm_298 = true := by decide +kernel
theorem axr_298 (hP : ∀ q ∈ rx_P, rx_QW q ∧ rx_ST rx_P (rx_DF, rx_FK) q) {l : Launch} {cy : Nat → ClassId} {D : va_G} : ax_Row ax_wC ax_XC rx_P ax_APC l cy D rxm_298 (axm_298, axc_298) := fun hr => ⟨ax_tabB_ok axt_298, fun hL => ax_con_nil⟩
theorem axt_299 : ax_tabB (rx_cd rxm_299) axm_299 = true := by decide +kernel
theorem axr_299 (hP : ∀ q ∈ rx_P, rx_QW q ∧ rx_ST rx_P (rx_DF, rx_FK) q) {l : Launch} {cy : Nat → ClassId} {D : va_G} : ax_Row ax_wC ax_XC rx_P ax_APC l cy D rxm_299 (axm_299, axc_299) := fun hr => ⟨ax_tabB_ok axt_299, fun hL => ax_con_nil⟩
theorem axt_300 : ax_tabB (rx_cd rxm_300) axm_300 = true := by decide +kernel
theorem axr_300 (hP : ∀ q ∈ rx_P, rx_QW q ∧ rx_ST rx_P (rx_DF, rx_FK) q) {l : Launch} {cy : Nat → ClassId} {D : va_G} : ax_Row ax_wC ax_XC rx_P ax_APC l cy D rxm_300 (axm_300, axc_300) := fun hr => ⟨ax_tabB_ok axt_300, fun hL => ax_con_nil⟩
theorem axt_301 : ax_tabB (rx_cd rxm_301) axm_301 = true := by decide +kernel
theorem axr_301 (hP : ∀ q ∈ rx_P, rx_QW q ∧ rx_ST rx_P (rx_DF, rx_FK) q) {l : Launch} {cy : Nat → ClassId} {D : va_G} : ax_Row ax_wC ax_XC rx_P ax_APC l cy D rxm_301 (axm_301, axc_301) := fun hr => ⟨ax_tabB_ok axt_301, fun hL => ax_con_nil⟩
theorem axt_302 : ax_tabB (rx_cd rxm_302) axm_302 = true := by decide +kernel
theorem axr_302 (hP : ∀ q ∈ rx_P, rx_QW q ∧ rx_ST rx_P (rx_DF, rx_FK) q) {l : Launch} {cy : Nat → ClassId} {D : va_G} : ax_Row ax_wC ax_XC rx_P ax_APC l cy D rxm_302 (axm_302, axc_302) := fun hr => ⟨ax_tabB_ok axt_302, fun hL => ax_con_nil⟩
theorem axt_303 : ax_tabB (rx_cd rxm_303) axm_303 = true := by decide +kernel
theorem axr_303 (hP : ∀ q ∈ rx_P, rx_QW q ∧ rx_ST rx_P (rx_DF, rx_FK) q) {l : Launch} {cy : Nat → ClassId} {D : va_G} : ax_Row ax_wC ax_XC rx_P ax_APC l cy D rxm_303 (axm_303, axc_303) := fun hr => ⟨ax_tabB_ok axt_303, fun hL => ax_con_nil⟩
theorem axt_304 : ax_tabB (rx_cd rxm_304) axm_304 = true := by decide +kernel
theorem axr_304 (hP : ∀ q ∈ rx_P, rx_QW q ∧ rx_ST rx_P (rx_DF, rx_FK) q) {l : Launch} {cy : Nat → ClassId} {D : va_G} : ax_Row ax_wC ax_XC rx_P ax_APC l cy D rxm_304 (axm_304, axc_304) := fun hr => ⟨ax_tabB_ok axt_304, fun hL => ax_con_nil⟩
theorem axt_305 : ax_tabB (rx_cd rxm_305) axm_305 = true := by decide +kernel
theorem axr_305 (hP : ∀ q ∈ rx_P, rx_QW q ∧ rx_ST rx_P (rx_DF, rx_FK) q) {l : Launch} {cy : Nat → ClassId} {D : va_G} : ax_Row ax_wC ax_XC rx_P ax_APC l cy D rxm_305 (axm_305, axc_305) := fun hr => ⟨ax_tabB_ok axt_305, fun hL => ax_con_nil⟩
theorem axt_306 : ax_tabB (rx_cd rxm_306) axm_306 = true := by decide +kernel
theorem axr_306 (hP : ∀ q ∈ rx_P, rx_QW q ∧ rx_ST rx_P (rx_DF, rx_FK) q) {l : Launch} {cy : Nat → ClassId} {D : va_G} : ax_Row ax_wC ax_XC rx_P ax_APC l cy D rxm_306 (axm_306, axc_306) := fun hr => ⟨ax_tabB_ok axt_306, fun hL => ax_con_nil⟩
theorem axt_307 : ax_tabB (rx_cd rxm_307) axm_307 = true := by decide +kernel
theorem axr_307 (hP : ∀ q ∈ rx_P, rx_QW q ∧ rx_ST rx_P (rx_DF, rx_FK) q) {l : Launch} {cy : Nat → ClassId} {D : va_G} : ax_Row ax_wC ax_XC rx_P ax_APC l cy D rxm_307 (axm_307, axc_307) := fun hr => ⟨ax_tabB_ok axt_307, fun hL => ax_con_nil⟩
theorem axt_308 : ax_tabB (rx_cd rxm_308) axm_308 = true := by decide +kernel
theorem axr_308 (hP : ∀ q ∈ rx_P, rx_QW q ∧ rx_ST rx_P (rx_DF, rx_FK) q) {l : Launch} {cy : Nat → ClassId} {D : va_G} : ax_Row ax_wC ax_XC rx_P ax_APC l cy D rxm_308 (axm_308, axc_308) := fun hr => ⟨ax_tabB_ok axt_308, fun hL => ax_con_nil⟩
theorem axt_309 : ax_tabB (rx_cd rxm_309) axm_309 = true := by decide +kernel
theorem axr_309 (hP : ∀ q ∈ rx_P, rx_QW q ∧ rx_ST rx_P (rx_DF, rx_FK) q) {l : Launch} {cy : Nat → ClassId} {D : va_G} : ax_Row ax_wC ax_XC rx_P ax_APC l cy D rxm_309 (axm_309, axc_309) := fun hr => ⟨ax_tabB_ok axt_309, fun hL => ax_con_nil⟩
theorem axt_310 : ax_tabB (rx_cd rxm_310) axm_310 = true := by decide +kernel
theorem axr_310 (hP : ∀ q ∈ rx_P, rx_QW q ∧ rx_ST rx_P (rx_DF, rx_FK) q) {l : Launch} {cy : Nat → ClassId} {D : va_G} : ax_Row ax_wC ax_XC rx_P ax_APC l cy D rxm_310 (axm_310, axc_310) := fun hr => ⟨ax_tabB_ok axt_310, fun hL => ax_con_nil⟩
theorem axt_311 : ax_tabB (rx_cd rxm_311) axm_311 = true := by decide +kernel
theorem axr_311 (hP : ∀ q ∈ rx_P, rx_QW q ∧ rx_ST rx_P (rx_DF, rx_FK) q) {l : Launch} {cy : Nat → ClassId} {D : va_G} : ax_Row ax_wC ax_XC rx_P ax_APC l cy D rxm_311 (axm_311, axc_311) := fun hr => ⟨ax_tabB_ok axt_311, fun hL => ax_con_nil⟩
theorem axt_312 : ax_tabB (rx_cd rxm_312) axm_312 = true := by decide +kernel
theorem axr_312 (hP : ∀ q ∈ rx_P, rx_QW q ∧ rx_ST rx_P (rx_DF, rx_FK) q) {l : Launch} {cy : Nat → ClassId} {D : va_G} : ax_Row ax_wC ax_XC rx_P ax_APC l cy D rxm_312 (axm_312, axc_312) := fun hr => ⟨ax_tabB_ok axt_312, fun hL => ax_con_nil⟩
theorem axt_313 : ax_tabB (rx_cd rxm_313) axm_313 = true := by decide +kernel
theorem axr_313 (hP : ∀ q ∈ rx_P, rx_QW q ∧ rx_ST rx_P (rx_DF, rx_FK) q) {l : Launch} {cy : Nat → ClassId} {D : va_G} : ax_Row ax_wC ax_XC rx_P ax_APC l cy D rxm_313 (axm_313, axc_313) := fun hr => ⟨ax_tabB_ok axt_313, fun hL => ax_con_nil⟩
theorem axt_314 : ax_tabB (rx_cd rxm_314) axm_314 = true := by decide +kernel
theorem axr_314 (hP : ∀ q ∈ rx_P, rx_QW q ∧ rx_ST rx_P (rx_DF, rx_FK) q) {l : Launch} {cy : Nat → ClassId} {D : va_G} : ax_Row ax_wC ax_XC rx_P ax_APC l cy D rxm_314 (axm_314, axc_314) := fun hr => ⟨ax_tabB_ok axt_314, fun hL => ax_con_nil⟩
theorem axt_315 : ax_tabB (rx_cd rxm_315) axm_315 = true := by decide +kernel
theorem axr_315 (hP : ∀ q ∈ rx_P, rx_QW q ∧ rx_ST rx_P (rx_DF, rx_FK) q) {l : Launch} {cy : Nat → ClassId} {D : va_G} : ax_Row ax_wC ax_XC rx_P ax_APC l cy D rxm_315 (axm_315, axc_315) := fun hr => ⟨ax_tabB_ok axt_315, fun hL => ax_con_nil⟩
theorem axt_316 : ax_tabB (rx_cd rxm_316) axm_316 = true := by decide +kernel
theorem axr_316 (hP : ∀ q ∈ rx_P, rx_QW q ∧ rx_ST rx_P (rx_DF, rx_FK) q) {l : Launch} {cy : Nat → ClassId} {D : va_G} : ax_Row ax_wC ax_XC rx_P ax_APC l cy D rxm_316 (axm_316, axc_316) := fun hr => ⟨ax_tabB_ok axt_316, fun hL => ax_con_nil⟩
theorem axt_317 : ax_tabB (rx_cd rxm_317) axm_317 = true := by decide +kernel
theorem axr_317 (hP : ∀ q ∈ rx_P, rx_QW q ∧ rx_ST rx_P (rx_DF, rx_FK) q) {l : Launch} {cy : Nat → ClassId} {D : va_G} : ax_Row ax_wC ax_XC rx_P ax_APC l cy D rxm_317 (axm_317, axc_317) := fun hr => ⟨ax_tabB_ok axt_317, fun hL => ax_con_nil⟩
theorem axt_318 : ax_tabB (rx_cd rxm_318) axm_318 = true := by decide +kernel
theorem axr_318 (hP : ∀ q ∈ rx_P, rx_QW q ∧ rx_ST rx_P (rx_DF, rx_FK) q) {l : Launch} {cy : Nat → ClassId} {D : va_G} : ax_Row ax_wC ax_XC rx_P ax_APC l cy D rxm_318 (axm_318, axc_318) := fun hr => ⟨ax_tabB_ok axt_318, fun hL => ax_con_nil⟩
theorem axt_319 : ax_tabB (rx_cd rxm_319) axm_319 = true := by decide +kernel
theorem axr_319 (hP : ∀ q ∈ rx_P, rx_QW q ∧ rx_ST rx_P (rx_DF, rx_FK) q) {l : Launch} {cy : Nat → ClassId} {D : va_G} : ax_Row ax_wC ax_XC rx_P ax_APC l cy D rxm_319 (axm_319, axc_319) := fun hr => ⟨ax_tabB_ok axt_319, fun hL => ax_con_nil⟩
theorem axt_320 : ax_tabB (rx_cd rxm_320) axm_320 = true := by decide +kernel
theorem axr_320 (hP : ∀ q ∈ rx_P, rx_QW q ∧ rx_ST rx_P (rx_DF, rx_FK) q) {l : Launch} {cy : Nat → ClassId} {D : va_G} : ax_Row ax_wC ax_XC rx_P ax_APC l cy D rxm_320 (axm_320, axc_320) := fun hr => ⟨ax_tabB_ok axt_320, fun hL => ax_con_nil⟩
theorem axt_321 : ax_tabB (rx_cd rxm_321) axm_321 = true := by decide +kernel
theorem axr_321 (hP : ∀ q ∈ rx_P, rx_QW q ∧ rx_ST rx_P (rx_DF, rx_FK) q) {l : Launch} {cy : Nat → ClassId} {D : va_G} : ax_Row ax_wC ax_XC rx_P ax_APC l cy D rxm_321 (axm_321, axc_321) := fun hr => ⟨ax_tabB_ok axt_321, fun hL => ax_con_nil⟩
theorem axt_322 : ax_tabB (rx_cd rxm_322) axm_322 = true := by decide +kernel
theorem axr_322 (hP : ∀ q ∈ rx_P, rx_QW q ∧ rx_ST rx_P (rx_DF, rx_FK) q) {l : Launch} {cy : Nat → ClassId} {D : va_G} : ax_Row ax_wC ax_XC rx_P ax_APC l cy D rxm_322 (axm_322, axc_322) := fun hr => ⟨ax_tabB_ok axt_322, fun hL => ax_con_nil⟩
theorem axt_323 : ax_tabB (rx_cd rxm_323) axm_323 = true := by decide +kernel
theorem axr_323 (hP : ∀ q ∈ rx_P, rx_QW q ∧ rx_ST rx_P (rx_DF, rx_FK) q) {l : Launch} {cy : Nat → ClassId} {D : va_G} : ax_Row ax_wC ax_XC rx_P ax_APC l cy D rxm_323 (axm_323, axc_323) := fun hr => ⟨ax_tabB_ok axt_323, fun hL => ax_con_nil⟩
theorem axt_324 : ax_tabB (rx_cd rxm_324) axm_324 = true := by decide +kernel
theorem axr_324 (hP : ∀ q ∈ rx_P, rx_QW q ∧ rx_ST rx_P (rx_DF, rx_FK) q) {l : Launch} {cy : Nat → ClassId} {D : va_G} : ax_Row ax_wC ax_XC rx_P ax_APC l cy D rxm_324 (axm_324, axc_324) := fun hr => ⟨ax_tabB_ok axt_324, fun hL => ax_con_nil⟩
