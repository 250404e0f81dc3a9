theorem axt_276 : ax_tabB (rx_cd rxm_276) axm_276 = true := by decide +kernel
theorem axr_276 (hP : ∀ q ∈ rx_P, rx_QW q ∧ rx_ST rx_P (rx_DF, rx_FK) q) {l : Launch} {cy : Nat → ClassId} {D : va_G} : ax_Row ax_wC ax_XC rx_P ax_APC l cy D rxm_276 (axm_276, axc_276) := fun hr => ⟨ax_tabB_ok axt_276, fun hL => ax_con_nil⟩
theorem axt_277 : ax_tabB (rx_cd rxm_277) axm_277 = true := by decide +kernel
theorem axr_277 (hP : ∀ q ∈ rx_P, rx_QW q ∧ rx_ST rx_P (rx_DF, rx_FK) q) {l : Launch} {cy : Nat → ClassId} {D : va_G} : ax_Row ax_wC ax_XC rx_P ax_APC l cy D rxm_277 (axm_277, axc_277) := fun hr => ⟨ax_tabB_ok axt_277, fun hL => ax_con_nil⟩
theorem axt_278 : ax_tabB (rx_cd rxm_278) axm_278 = true := by decide +kernel
theorem axr_278 (hP : ∀ q ∈ rx_P, rx_QW q ∧ rx_ST rx_P (rx_DF, rx_FK) q) {l : Launch} {cy : Nat → ClassId} {D : va_G} : ax_Row ax_wC ax_XC rx_P ax_APC l cy D rxm_278 (axm_278, axc_278) := fun hr => ⟨ax_tabB_ok axt_278, fun hL => ax_con_nil⟩
theorem axt_279 : ax_tabB (rx_cd rxm_279) axm_279 = true := by decide +kernel
theorem axr_279 (hP : ∀ q ∈ rx_P, rx_QW q ∧ rx_ST rx_P (rx_DF, rx_FK) q) {l : Launch} {cy : Nat → ClassId} {D : va_G} : ax_Row ax_wC ax_XC rx_P ax_APC l cy D rxm_279 (axm_279, axc_279) := fun hr => ⟨ax_tabB_ok axt_279, fun hL => ax_con_nil⟩
theorem axt_280 : ax_tabB (rx_cd rxm_280) axm_280 = true := by decide +kernel
theorem axr_280 (hP : ∀ q ∈ rx_P, rx_QW q ∧ rx_ST rx_P (rx_DF, rx_FK) q) {l : Launch} {cy : Nat → ClassId} {D : va_G} : ax_Row ax_wC ax_XC rx_P ax_APC l cy D rxm_280 (axm_280, axc_280) := fun hr => ⟨ax_tabB_ok axt_280, fun hL => ax_con_nil⟩
theorem axt_281 : ax_tabB (rx_cd rxm_281) axm_281 = true := by decide +kernel
theorem axr_281 (hP : ∀ q ∈ rx_P, rx_QW q ∧ rx_ST rx_P (rx_DF, rx_FK) q) {l : Launch} {cy : Nat → ClassId} {D : va_G} : ax_Row ax_wC ax_XC rx_P ax_APC l cy D rxm_281 (axm_281, axc_281) := fun hr => ⟨ax_tabB_ok axt_281, fun hL => ax_con_nil⟩
theorem axt_282 : ax_tabB (rx_cd rxm_282) axm_282 = true := by decide +kernel
/-- TurnNet$Reader.readSwitches: 348 steps -/
theorem axk_282_0 : ax_chk ax_wC rx_P (rx_DF, rx_FK) ax_APC (rx_n rxm_282) axm_282 (([3], (1, [(2, 2, 0)], [], [], [])), [(1, 0), (2, 3), (2, 4), (2, 5), (2, 6), (2, 7), (2, 8)], [([7], (2, [(0, 2147483648, 2147483649), (2, 2, 0)], [], [], []))]) [] [] 3000 0 (() : ax_Tr 0) = true := by decide +kernel
theorem axr_282 (hP : ∀ q ∈ rx_P, rx_QW q ∧ rx_ST rx_P (rx_DF, rx_FK) q) {l : Launch} {cy : Nat → ClassId} {D : va_G} : ax_Row ax_wC ax_XC rx_P ax_APC l cy D rxm_282 (axm_282, axc_282) := fun hr => ⟨ax_tabB_ok axt_282, fun hL => ax_con_cons (ax_chk_ok hP ax_XC_ok hr hL (ax_tabB_ok axt_282) ax_ro_nil axk_282_0) (ax_con_nil)⟩
theorem axt_283 : ax_tabB (rx_cd rxm_283) axm_283 = true := by decide +kernel
/-- TurnNet$Reader.unitKind: 342 steps -/
theorem axk_283_0 : ax_chk ax_wC rx_P (rx_DF, rx_FK) ax_APC (rx_n rxm_283) axm_283 (([3], (1, [(2, 2, 0)], [], [], [])), [], [([7], (2, [(0, 2147483648, 2147483688), (2, 2, 0)], [], [], []))]) [] [] 3000 0 (() : ax_Tr 0) = true := by decide +kernel
theorem axr_283 (hP : ∀ q ∈ rx_P, rx_QW q ∧ rx_ST rx_P (rx_DF, rx_FK) q) {l : Launch} {cy : Nat → ClassId} {D : va_G} : ax_Row ax_wC ax_XC rx_P ax_APC l cy D rxm_283 (axm_283, axc_283) := fun hr => ⟨ax_tabB_ok axt_283, fun hL => ax_con_cons (ax_chk_ok hP ax_XC_ok hr hL (ax_tabB_ok axt_283) ax_ro_nil axk_283_0) (ax_con_nil)⟩
theorem axt_284 : ax_tabB (rx_cd rxm_284) axm_284 = true := by decide +kernel
theorem axr_284 (hP : ∀ q ∈ rx_P, rx_QW q ∧ rx_ST rx_P (rx_DF, rx_FK) q) {l : Launch} {cy : Nat → ClassId} {D : va_G} : ax_Row ax_wC ax_XC rx_P ax_APC l cy D rxm_284 (axm_284, axc_284) := fun hr => ⟨ax_tabB_ok axt_284, fun hL => ax_con_nil⟩
theorem axt_285 : ax_tabB (rx_cd rxm_285) axm_285 = true := by decide +kernel
theorem axr_285 (hP : ∀ q ∈ rx_P, rx_QW q ∧ rx_ST rx_P (rx_DF, rx_FK) q) {l : Launch} {cy : Nat → ClassId} {D : va_G} : ax_Row ax_wC ax_XC rx_P ax_APC l cy D rxm_285 (axm_285, axc_285) := fun hr => ⟨ax_tabB_ok axt_285, fun hL => ax_con_nil⟩
theorem axt_286 : ax_tabB (rx_cd rxm_286) axm_286 = true := by decide +kernel
theorem axr_286 (hP : ∀ q ∈ rx_P, rx_QW q ∧ rx_ST rx_P (rx_DF, rx_FK) q) {l : Launch} {cy : Nat → ClassId} {D : va_G} : ax_Row ax_wC ax_XC rx_P ax_APC l cy D rxm_286 (axm_286, axc_286) := fun hr => ⟨ax_tabB_ok axt_286, fun hL => ax_con_nil⟩
theorem axt_287 : ax_tabB (rx_cd rxm_287) axm_287 = true := by decide +kernel
theorem axr_287 (hP : ∀ q ∈ rx_P, rx_QW q ∧ rx_ST rx_P (rx_DF, rx_FK) q) {l : Launch} {cy : Nat → ClassId} {D : va_G} : ax_Row ax_wC ax_XC rx_P ax_APC l cy D rxm_287 (axm_287, axc_287) := fun hr => ⟨ax_tabB_ok axt_287, fun hL => ax_con_nil⟩
theorem axt_288 : ax_tabB (rx_cd rxm_288) axm_288 = true := by decide +kernel
theorem axr_288 (hP : ∀ q ∈ rx_P, rx_QW q ∧ rx_ST rx_P (rx_DF, rx_FK) q) {l : Launch} {cy : Nat → ClassId} {D : va_G} : ax_Row ax_wC ax_XC rx_P ax_APC l cy D rxm_288 (axm_288, axc_288) := fun hr => ⟨ax_tabB_ok axt_288, fun hL => ax_con_nil⟩
theorem axt_289 : ax_tabB (rx_cd rxm_289) axm_289 = true := by decide +kernel
theorem axr_289 (hP : ∀ q ∈ rx_P, rx_QW q ∧ rx_ST rx_P (rx_DF, rx_FK) q) {l : Launch} {cy : Nat → ClassId} {D : va_G} : ax_Row ax_wC ax_XC rx_P ax_APC l cy D rxm_289 (axm_289, axc_289) := fun hr => ⟨ax_tabB_ok axt_289, fun hL => ax_con_nil⟩
theorem axt_290 : ax_tabB (rx_cd rxm_290) axm_290 = true := by decide +kernel
theorem axr_290 (hP : ∀ q ∈ rx_P, rx_QW q ∧ rx_ST rx_P (rx_DF, rx_FK) q) {l : Launch} {cy : Nat → ClassId} {D : va_G} : ax_Row ax_wC ax_XC rx_P ax_APC l cy D rxm_290 (axm_290, axc_290) := fun hr => ⟨ax_tabB_ok axt_290, fun hL => ax_con_nil⟩
theorem axt_291 : ax_tabB (rx_cd rxm_291) axm_291 = true := by decide +kernel
/-- TurnNet$Reader.readUnit: 318 steps -/
theorem axk_291_0 : ax_chk ax_wC rx_P (rx_DF, rx_FK) ax_APC (rx_n rxm_291) axm_291 (([3, 24], (1, [(2, 2, 0)], [], [], [])), [(2, 3), (2, 4)], [([0], (1, [(2, 2, 0)], [], [], []))]) [] [] 3000 0 (() : ax_Tr 0) = true := by decide +kernel
theorem axr_291 (hP : ∀ q ∈ rx_P, rx_QW q ∧ rx_ST rx_P (rx_DF, rx_FK) q) {l : Launch} {cy : Nat → ClassId} {D : va_G} : ax_Row ax_wC ax_XC rx_P ax_APC l cy D rxm_291 (axm_291, axc_291) := fun hr => ⟨ax_tabB_ok axt_291, fun hL => ax_con_cons (ax_chk_ok hP ax_XC_ok hr hL (ax_tabB_ok axt_291) ax_ro_nil axk_291_0) (ax_con_nil)⟩
theorem axt_292 : ax_tabB (rx_cd rxm_292) axm_292 = true := by decide +kernel
theorem axr_292 (hP : ∀ q ∈ rx_P, rx_QW q ∧ rx_ST rx_P (rx_DF, rx_FK) q) {l : Launch} {cy : Nat → ClassId} {D : va_G} : ax_Row ax_wC ax_XC rx_P ax_APC l cy D rxm_292 (axm_292, axc_292) := fun hr => ⟨ax_tabB_ok axt_292, fun hL => ax_con_nil⟩
theorem axt_293 : ax_tabB (rx_cd rxm_293) axm_293 = true := by decide +kernel
theorem axr_293 (hP : ∀ q ∈ rx_P, rx_QW q ∧ rx_ST rx_P (rx_DF, rx_FK) q) {l : Launch} {cy : Nat → ClassId} {D : va_G} : ax_Row ax_wC ax_XC rx_P ax_APC l cy D rxm_293 (axm_293, axc_293) := fun hr => ⟨ax_tabB_ok axt_293, fun hL => ax_con_nil⟩
theorem axt_294 : ax_tabB (rx_cd rxm_294) axm_294 = true := by decide +kernel
theorem axr_294 (hP : ∀ q ∈ rx_P, rx_QW q ∧ rx_ST rx_P (rx_DF, rx_FK) q) {l : Launch} {cy : Nat → ClassId} {D : va_G} : ax_Row ax_wC ax_XC rx_P ax_APC l cy D rxm_294 (axm_294, axc_294) := fun hr => ⟨ax_tabB_ok axt_294, fun hL => ax_con_nil⟩
theorem axt_295 : ax_tabB (rx_cd rxm_295) axm_295 = true := by decide +kernel
theorem axr_295 (hP : ∀ q ∈ rx_P, rx_QW q ∧ rx_ST rx_P (rx_DF, rx_FK) q) {l : Launch} {cy : Nat → ClassId} {D : va_G} : ax_Row ax_wC ax_XC rx_P ax_APC l cy D rxm_295 (axm_295, axc_295) := fun hr => ⟨ax_tabB_ok axt_295, fun hL => ax_con_nil⟩
theorem axt_296 : ax_tabB (rx_cd rxm_296) axm_296 = true := by decide +kernel
theorem axr_296 (hP : ∀ q ∈ rx_P, rx_QW q ∧ rx_ST rx_P (rx_DF, rx_FK) q) {l : Launch} {cy : Nat → ClassId} {D : va_G} : ax_Row ax_wC ax_XC rx_P ax_APC l cy D rxm_296 (axm_296, axc_296) := fun hr => ⟨ax_tabB_ok axt_296, fun hL => ax_con_nil⟩
theorem axt_297 : ax_tabB (rx_cd rxm_297) axm_297 = true := by decide +kernel
theorem axr_297 (hP : ∀ q ∈ rx_P, rx_QW q ∧ rx_ST rx_P (rx_DF, rx_FK) q) {l : Launch} {cy : Nat → ClassId} {D : va_G} : ax_Row ax_wC ax_XC rx_P ax_APC l cy D rxm_297 (axm_297, axc_297) := fun hr => ⟨ax_tabB_ok axt_297, fun hL => ax_con_nil⟩
theorem axt_298 : ax_tabB (rx_cd rxm_298) axm_298 = true := by decide +kernel
theorem axr_298 (hP : ∀ q ∈ rx_P, rx_QW q ∧ rx_ST rx_P (rx_DF, rx_FK) q) {l : Launch} {cy : Nat → ClassId} {D : va_G} : ax_Row ax_wC ax_XC rx_P ax_APC l cy D rxm_298 (axm_298, axc_298) := fun hr => ⟨ax_tabB_ok axt_298, fun hL => ax_con_nil⟩
theorem axt_299 : ax_tabB (rx_cd rxm_299) axm_299 = true := by decide +kernel
/-- TurnNet$Reader.readProduct: 18 steps -/
theorem axk_299_0 : ax_chk ax_wC rx_P (rx_DF, rx_FK) ax_APC (rx_n rxm_299) axm_299 (([3, 24], (1, [(2, 2, 0)], [], [], [])), [(2, 3), (2, 4)], [([0], (1, [(2, 2, 0)], [], [], []))]) [] [12] 3000 0 (() : ax_Tr 0) = true := by decide +kernel
theorem axr_299 (hP : ∀ q ∈ rx_P, rx_QW q ∧ rx_ST rx_P (rx_DF, rx_FK) q) {l : Launch} {cy : Nat → ClassId} {D : va_G} : ax_Row ax_wC ax_XC rx_P ax_APC l cy D rxm_299 (axm_299, axc_299) := fun hr => ⟨ax_tabB_ok axt_299, fun hL => ax_con_cons (ax_chk_ok hP ax_XC_ok hr hL (ax_tabB_ok axt_299) ax_ro_nil axk_299_0) (ax_con_nil)⟩
theorem axt_300 : ax_tabB (rx_cd rxm_300) axm_300 = true := by decide +kernel
theorem axr_300 (hP : ∀ q ∈ rx_P, rx_QW q ∧ rx_ST rx_P (rx_DF, rx_FK) q) {l : Launch} {cy : Nat → ClassId} {D : va_G} : ax_Row ax_wC ax_XC rx_P ax_APC l cy D rxm_300 (axm_300, axc_300) := fun hr => ⟨ax_tabB_ok axt_300, fun hL => ax_con_nil⟩
theorem axt_301 : ax_tabB (rx_cd rxm_301) axm_301 = true := by decide +kernel
theorem axr_301 (hP : ∀ q ∈ rx_P, rx_QW q ∧ rx_ST rx_P (rx_DF, rx_FK) q) {l : Launch} {cy : Nat → ClassId} {D : va_G} : ax_Row ax_wC ax_XC rx_P ax_APC l cy D rxm_301 (axm_301, axc_301) := fun hr => ⟨ax_tabB_ok axt_301, fun hL => ax_con_nil⟩
theorem axt_302 : ax_tabB (rx_cd rxm_302) axm_302 = true := by decide +kernel
theorem axr_302 (hP : ∀ q ∈ rx_P, rx_QW q ∧ rx_ST rx_P (rx_DF, rx_FK) q) {l : Launch} {cy : Nat → ClassId} {D : va_G} : ax_Row ax_wC ax_XC rx_P ax_APC l cy D rxm_302 (axm_302, axc_302) := fun hr => ⟨ax_tabB_ok axt_302, fun hL => ax_con_nil⟩
theorem axt_303 : ax_tabB (rx_cd rxm_303) axm_303 = true := by decide +kernel
theorem axr_303 (hP : ∀ q ∈ rx_P, rx_QW q ∧ rx_ST rx_P (rx_DF, rx_FK) q) {l : Launch} {cy : Nat → ClassId} {D : va_G} : ax_Row ax_wC ax_XC rx_P ax_APC l cy D rxm_303 (axm_303, axc_303) := fun hr => ⟨ax_tabB_ok axt_303, fun hL => ax_con_nil⟩
theorem axt_304 : ax_tabB (rx_cd rxm_304) axm_304 = true := by decide +kernel
theorem axr_304 (hP : ∀ q ∈ rx_P, rx_QW q ∧ rx_ST rx_P (rx_DF, rx_FK) q) {l : Launch} {cy : Nat → ClassId} {D : va_G} : ax_Row ax_wC ax_XC rx_P ax_APC l cy D rxm_304 (axm_304, axc_304) := fun hr => ⟨ax_tabB_ok axt_304, fun hL => ax_con_nil⟩
theorem axt_305 : ax_tabB (rx_cd rxm_305) axm_305 = true := by decide +kernel
theorem axr_305 (hP : ∀ q ∈ rx_P, rx_QW q ∧ rx_ST rx_P (rx_DF, rx_FK) q) {l : Launch} {cy : Nat → ClassId} {D : va_G} : ax_Row ax_wC ax_XC rx_P ax_APC l cy D rxm_305 (axm_305, axc_305) := fun hr => ⟨ax_tabB_ok axt_305, fun hL => ax_con_nil⟩
theorem axt_306 : ax_tabB (rx_cd rxm_306) axm_306 = true := by decide +kernel
/-- TurnNet$Reader.readSum: 18 steps -/
theorem axk_306_0 : ax_chk ax_wC rx_P (rx_DF, rx_FK) ax_APC (rx_n rxm_306) axm_306 (([3, 24], (1, [(2, 2, 0)], [], [], [])), [(2, 3), (2, 4)], [([0], (1, [(2, 2, 0)], [], [], []))]) [] [12] 3000 0 (() : ax_Tr 0) = true := by decide +kernel
theorem axr_306 (hP : ∀ q ∈ rx_P, rx_QW q ∧ rx_ST rx_P (rx_DF, rx_FK) q) {l : Launch} {cy : Nat → ClassId} {D : va_G} : ax_Row ax_wC ax_XC rx_P ax_APC l cy D rxm_306 (axm_306, axc_306) := fun hr => ⟨ax_tabB_ok axt_306, fun hL => ax_con_cons (ax_chk_ok hP ax_XC_ok hr hL (ax_tabB_ok axt_306) ax_ro_nil axk_306_0) (ax_con_nil)⟩
theorem axt_307 : ax_tabB (rx_cd rxm_307) axm_307 = true := by decide +kernel
theorem axr_307 (hP : ∀ q ∈ rx_P, rx_QW q ∧ rx_ST rx_P (rx_DF, rx_FK) q) {l : Launch} {cy : Nat → ClassId} {D : va_G} : ax_Row ax_wC ax_XC rx_P ax_APC l cy D rxm_307 (axm_307, axc_307) := fun hr => ⟨ax_tabB_ok axt_307, fun hL => ax_con_nil⟩
theorem axt_308 : ax_tabB (rx_cd rxm_308) axm_308 = true := by decide +kernel
/-- TurnNet$Reader.readUnit: 693 steps -/
theorem axk_308_0 : ax_chk ax_wC rx_P (rx_DF, rx_FK) ax_APC (rx_n rxm_308) axm_308 (([3, 20], (1, [(2, 2, 0)], [], [], [])), [(1, 4), (1, 5), (2, 3), (2, 4), (2, 5), (2, 6), (2, 7), (2, 8), (18, 999), (19, 999)], [([7], (2, [(0, 2147483648, 2147483649), (2, 2, 0)], [], [], []))]) [] [] 3000 0 (() : ax_Tr 0) = true := by decide +kernel
theorem axr_308 (hP : ∀ q ∈ rx_P, rx_QW q ∧ rx_ST rx_P (rx_DF, rx_FK) q) {l : Launch} {cy : Nat → ClassId} {D : va_G} : ax_Row ax_wC ax_XC rx_P ax_APC l cy D rxm_308 (axm_308, axc_308) := fun hr => ⟨ax_tabB_ok axt_308, fun hL => ax_con_cons (ax_chk_ok hP ax_XC_ok hr hL (ax_tabB_ok axt_308) ax_ro_nil axk_308_0) (ax_con_nil)⟩
theorem axt_309 : ax_tabB (rx_cd rxm_309) axm_309 = true := by decide +kernel
theorem axr_309 (hP : ∀ q ∈ rx_P, rx_QW q ∧ rx_ST rx_P (rx_DF, rx_FK) q) {l : Launch} {cy : Nat → ClassId} {D : va_G} : ax_Row ax_wC ax_XC rx_P ax_APC l cy D rxm_309 (axm_309, axc_309) := fun hr => ⟨ax_tabB_ok axt_309, fun hL => ax_con_nil⟩
theorem axt_310 : ax_tabB (rx_cd rxm_310) axm_310 = true := by decide +kernel
theorem axr_310 (hP : ∀ q ∈ rx_P, rx_QW q ∧ rx_ST rx_P (rx_DF, rx_FK) q) {l : Launch} {cy : Nat → ClassId} {D : va_G} : ax_Row ax_wC ax_XC rx_P ax_APC l cy D rxm_310 (axm_310, axc_310) := fun hr => ⟨ax_tabB_ok axt_310, fun hL => ax_con_nil⟩
theorem axt_311 : ax_tabB (rx_cd rxm_311) axm_311 = true := by decide +kernel
theorem axr_311 (hP : ∀ q ∈ rx_P, rx_QW q ∧ rx_ST rx_P (rx_DF, rx_FK) q) {l : Launch} {cy : Nat → ClassId} {D : va_G} : ax_Row ax_wC ax_XC rx_P ax_APC l cy D rxm_311 (axm_311, axc_311) := fun hr => ⟨ax_tabB_ok axt_311, fun hL => ax_con_nil⟩
theorem axt_312 : ax_tabB (rx_cd rxm_312) axm_312 = true := by decide +kernel
/-- TurnNet$Reader.readProduct: 2702 steps -/
theorem axk_312_0 : ax_chk ax_wC rx_P (rx_DF, rx_FK) ax_APC (rx_n rxm_312) axm_312 (([3, 20], (1, [(2, 2, 0)], [], [], [])), [(1, 4), (1, 5), (2, 3), (2, 4), (2, 5), (2, 6), (2, 7), (2, 8), (18, 999), (19, 999)], [([7], (2, [(0, 2147483648, 2147483649), (2, 2, 0)], [], [], []))]) [] [12] 3000 1 (([((12, 1, 1, ([3, 20, 7, 2], (2, [(0, 2147483648, 2147484448), (2, 2, 0)], [], [], []))), ())] : List ((Nat × Nat × Nat × ax_T) × ax_Tr 0)) : ax_Tr 1) = true := by decide +kernel
theorem axr_312 (hP : ∀ q ∈ rx_P, rx_QW q ∧ rx_ST rx_P (rx_DF, rx_FK) q) {l : Launch} {cy : Nat → ClassId} {D : va_G} : ax_Row ax_wC ax_XC rx_P ax_APC l cy D rxm_312 (axm_312, axc_312) := fun hr => ⟨ax_tabB_ok axt_312, fun hL => ax_con_cons (ax_chk_ok hP ax_XC_ok hr hL (ax_tabB_ok axt_312) ax_ro_nil axk_312_0) (ax_con_nil)⟩
theorem axt_313 : ax_tabB (rx_cd rxm_313) axm_313 = true := by decide +kernel
/-- TurnNet$Reader.readSum: 1774 steps -/
theorem axk_313_0 : ax_chk ax_wC rx_P (rx_DF, rx_FK) ax_APC (rx_n rxm_313) axm_313 (([3, 20], (1, [(2, 2, 0)], [], [], [])), [(1, 4), (1, 5), (2, 3), (2, 4), (2, 5), (2, 6), (2, 7), (2, 8), (18, 999), (19, 999)], [([7], (2, [(0, 2147483648, 2147483649), (2, 2, 0)], [], [], []))]) [] [12] 3000 1 (([((12, 1, 1, ([3, 20, 7, 2], (2, [(0, 2147483648, 2147484448), (2, 2, 0)], [], [], []))), ())] : List ((Nat × Nat × Nat × ax_T) × ax_Tr 0)) : ax_Tr 1) = true := by decide +kernel
theorem axr_313 (hP : ∀ q ∈ rx_P, rx_QW q ∧ rx_ST rx_P (rx_DF, rx_FK) q) {l : Launch} {cy : Nat → ClassId} {D : va_G} : ax_Row ax_wC ax_XC rx_P ax_APC l cy D rxm_313 (axm_313, axc_313) := fun hr => ⟨ax_tabB_ok axt_313, fun hL => ax_con_cons (ax_chk_ok hP ax_XC_ok hr hL (ax_tabB_ok axt_313) ax_ro_nil axk_313_0) (ax_con_nil)⟩
