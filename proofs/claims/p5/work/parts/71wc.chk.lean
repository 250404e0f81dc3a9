set_option maxRecDepth 4000 in
theorem axs0_62 : ∀ x ∈ ([axu0_ly0, axu0_ly1, axu0_ly2, axu0_lyO, axu0_lyB, axu0_lyM] : List ax_RL), ax_RO ax_wM0 (ax_XM 0) x := ax_ro_cons axq0_ly0 (ax_ro_cons axq0_ly1 (ax_ro_cons axq0_ly2 (ax_ro_cons axq0_lyO (ax_ro_cons axq0_lyB (ax_ro_cons axq0_lyM (ax_ro_nil))))))
-- TurnNetModel.lay: 63 steps
set_option maxRecDepth 4000 in
theorem axk0_62_2 : ax_chk ax_wM0 rx_P (rx_DF, rx_FK) ax_APM0 (rx_n rxm_62) axm_62 (([702, 4, 3], (1, [(0, 2147484656, 2147484656)], [], [], [(40, [0, 0, 8, 4, 4]), (26, [])])), [(50, 1), (52, 999)], [([2], (1, [(0, 2147484656, 2147484656)], [], [], [(40, [0, 0, 8, 0, 4]), (26, [])]))]) [axu0_ly0, axu0_ly1, axu0_ly2, axu0_lyO, axu0_lyB, axu0_lyM] [] 3000 0 (() : ax_Tr 0) = true := by decide +kernel
-- TurnNetModel.lay: 63 steps
set_option maxRecDepth 4000 in
theorem axk0_62_1 : ax_chk ax_wM0 rx_P (rx_DF, rx_FK) ax_APM0 (rx_n rxm_62) axm_62 (([702, 4, 3], (1, [(0, 2147484651, 2147484655)], [], [], [(40, [0, 4, 4, 4, 0]), (26, [])])), [(50, 1), (52, 999)], [([2], (1, [(0, 2147484651, 2147484655)], [], [], [(40, [0, 0, 4, 0, 0]), (26, [])]))]) [axu0_ly0, axu0_ly1, axu0_ly2, axu0_lyO, axu0_lyB, axu0_lyM] [] 3000 0 (() : ax_Tr 0) = true := by decide +kernel
-- TurnNetModel.lay: 63 steps
set_option maxRecDepth 4000 in
theorem axk0_62_0 : ax_chk ax_wM0 rx_P (rx_DF, rx_FK) ax_APM0 (rx_n rxm_62) axm_62 (([702, 4, 3], (1, [(0, 2147483648, 2147484650)], [], [], [(40, [4, 0, 4, 8, 4]), (26, [])])), [(50, 1), (52, 999)], [([2], (1, [(0, 2147483648, 2147484650)], [], [], [(40, [0, 0, 4, 0, 4]), (26, [])]))]) [axu0_ly0, axu0_ly1, axu0_ly2, axu0_lyO, axu0_lyB, axu0_lyM] [] 3000 0 (() : ax_Tr 0) = true := by decide +kernel
theorem axr0_62 (hP : ∀ q ∈ rx_P, rx_QW q ∧ rx_ST rx_P (rx_DF, rx_FK) q) {l : Launch} {cy : Nat → ClassId} {D : va_G} : ax_Row ax_wM0 (ax_XM 0) rx_P ax_APM0 l cy D rxm_62 (axm_62, axc0_62) := fun hr => ⟨ax_tabB_ok axt_62, fun hL => ax_con_cons (ax_chk_ok hP ax_XM0_ok hr hL (ax_tabB_ok axt_62) axs0_62 axk0_62_0) (ax_con_cons (ax_chk_ok hP ax_XM0_ok hr hL (ax_tabB_ok axt_62) axs0_62 axk0_62_1) (ax_con_cons (ax_chk_ok hP ax_XM0_ok hr hL (ax_tabB_ok axt_62) axs0_62 axk0_62_2) (ax_con_nil)))⟩
theorem axr0_63 (hP : ∀ q ∈ rx_P, rx_QW q ∧ rx_ST rx_P (rx_DF, rx_FK) q) {l : Launch} {cy : Nat → ClassId} {D : va_G} : ax_Row ax_wM0 (ax_XM 0) rx_P ax_APM0 l cy D rxm_63 (axm_63, axc0_63) := fun hr => ⟨ax_tabB_ok axt_63, fun hL => ax_con_nil⟩
theorem axr0_64 (hP : ∀ q ∈ rx_P, rx_QW q ∧ rx_ST rx_P (rx_DF, rx_FK) q) {l : Launch} {cy : Nat → ClassId} {D : va_G} : ax_Row ax_wM0 (ax_XM 0) rx_P ax_APM0 l cy D rxm_64 (axm_64, axc0_64) := fun hr => ⟨ax_tabB_ok axt_64, fun hL => ax_con_nil⟩
-- TurnNetModel.packetsAt: 810 steps
set_option maxRecDepth 4000 in
theorem axk0_65_0 : ax_chk ax_wM0 rx_P (rx_DF, rx_FK) ax_APM0 (rx_n rxm_65) axm_65 (([702, 3], (1, [(0, 0, 4294967295)], [], [], [])), [], [([7], (2, [(0, 0, 4294967295), (0, 0, 4294967295)], [], [], []))]) [] [4] 3000 1 (([((4, 1, 2, ([702, 3, 7, 11], (3, [(0, 2147483648, 2147483660), (0, 0, 4294967295), (0, 0, 4294967295)], [], [], []))), ())] : List ((Nat × Nat × Nat × ax_T) × ax_Tr 0)) : ax_Tr 1) = true := by decide +kernel
theorem axr0_65 (hP : ∀ q ∈ rx_P, rx_QW q ∧ rx_ST rx_P (rx_DF, rx_FK) q) {l : Launch} {cy : Nat → ClassId} {D : va_G} : ax_Row ax_wM0 (ax_XM 0) rx_P ax_APM0 l cy D rxm_65 (axm_65, axc0_65) := fun hr => ⟨ax_tabB_ok axt_65, fun hL => ax_con_cons (ax_chk_ok hP ax_XM0_ok hr hL (ax_tabB_ok axt_65) ax_ro_nil axk0_65_0) (ax_con_nil)⟩
-- TurnNetModel.packetsNow: 362 steps
set_option maxRecDepth 4000 in
theorem axk0_66_0 : ax_chk ax_wM0 rx_P (rx_DF, rx_FK) ax_APM0 (rx_n rxm_66) axm_66 (([702], (0, [], [], [], [])), [], [([3], (1, [(0, 0, 4294967295)], [], [], []))]) [] [4] 3000 1 (([((4, 1, 1, ([702, 3, 7], (2, [(0, 2147483648, 2147483660), (0, 0, 4294967295)], [], [], []))), ())] : List ((Nat × Nat × Nat × ax_T) × ax_Tr 0)) : ax_Tr 1) = true := by decide +kernel
theorem axr0_66 (hP : ∀ q ∈ rx_P, rx_QW q ∧ rx_ST rx_P (rx_DF, rx_FK) q) {l : Launch} {cy : Nat → ClassId} {D : va_G} : ax_Row ax_wM0 (ax_XM 0) rx_P ax_APM0 l cy D rxm_66 (axm_66, axc0_66) := fun hr => ⟨ax_tabB_ok axt_66, fun hL => ax_con_cons (ax_chk_ok hP ax_XM0_ok hr hL (ax_tabB_ok axt_66) ax_ro_nil axk0_66_0) (ax_con_nil)⟩
set_option maxRecDepth 4000 in
theorem axs0_67 : ∀ x ∈ ([axu0_pu0, axu0_pu1, axu0_puP, axu0_puB, axu0_pu4, axu0_pu5O, axu0_pu5M, axu0_pu5B] : List ax_RL), ax_RO ax_wM0 (ax_XM 0) x := ax_ro_cons axq0_pu0 (ax_ro_cons axq0_pu1 (ax_ro_cons axq0_puP (ax_ro_cons axq0_puB (ax_ro_cons axq0_pu4 (ax_ro_cons axq0_pu5O (ax_ro_cons axq0_pu5M (ax_ro_cons axq0_pu5B (ax_ro_nil))))))))
-- TurnNetModel.push: 39 steps
set_option maxRecDepth 4000 in
theorem axk0_67_2 : ax_chk ax_wM0 rx_P (rx_DF, rx_FK) ax_APM0 (rx_n rxm_67) axm_67 (([702, 7], (2, [(0, 2147484651, 2147484655), (1, 0, 0)], [], [], [(40, [0, 0, 4, 0, 0]), (196, [3]), (192, [3, 3])])), [(11, 27), (55, 999)], [([2], (2, [(0, 2147484651, 2147484655), (1, 0, 0)], [], [], [(40, [4, 0, 4, 0, 4]), (196, [3])]))]) [axu0_pu0, axu0_pu1, axu0_puP, axu0_puB, axu0_pu4, axu0_pu5O, axu0_pu5M, axu0_pu5B] [] 3000 0 (() : ax_Tr 0) = true := by decide +kernel
-- TurnNetModel.push: 39 steps
set_option maxRecDepth 4000 in
theorem axk0_67_1 : ax_chk ax_wM0 rx_P (rx_DF, rx_FK) ax_APM0 (rx_n rxm_67) axm_67 (([702, 4032], (1, [(1, 0, 0)], [], [], [(40, [4, 0, 4, 8, 4]), (196, [3])])), [(11, 27), (55, 999)], [([2], (2, [(1, 0, 0), (1, 0, 0)], [], [], [(40, [4, 0, 0, 4, 4]), (196, [7]), (208, [3, 7])]))]) [axu0_pu0, axu0_pu1, axu0_puP, axu0_puB, axu0_pu4, axu0_pu5O, axu0_pu5M, axu0_pu5B] [] 3000 0 (() : ax_Tr 0) = true := by decide +kernel
-- TurnNetModel.push: 39 steps
set_option maxRecDepth 4000 in
theorem axk0_67_0 : ax_chk ax_wM0 rx_P (rx_DF, rx_FK) ax_APM0 (rx_n rxm_67) axm_67 (([702, 4036], (1, [(1, 0, 0)], [], [], [(40, [4, 0, 4, 8, 4]), (196, [3])])), [(11, 27), (55, 999)], [([2], (2, [(1, 0, 0), (1, 0, 0)], [], [], [(40, [4, 0, 0, 4, 4]), (196, [7]), (193, [7, 3])]))]) [axu0_pu0, axu0_pu1, axu0_puP, axu0_puB, axu0_pu4, axu0_pu5O, axu0_pu5M, axu0_pu5B] [] 3000 0 (() : ax_Tr 0) = true := by decide +kernel
theorem axr0_67 (hP : ∀ q ∈ rx_P, rx_QW q ∧ rx_ST rx_P (rx_DF, rx_FK) q) {l : Launch} {cy : Nat → ClassId} {D : va_G} : ax_Row ax_wM0 (ax_XM 0) rx_P ax_APM0 l cy D rxm_67 (axm_67, axc0_67) := fun hr => ⟨ax_tabB_ok axt_67, fun hL => ax_con_cons (ax_chk_ok hP ax_XM0_ok hr hL (ax_tabB_ok axt_67) axs0_67 axk0_67_0) (ax_con_cons (ax_chk_ok hP ax_XM0_ok hr hL (ax_tabB_ok axt_67) axs0_67 axk0_67_1) (ax_con_cons (ax_chk_ok hP ax_XM0_ok hr hL (ax_tabB_ok axt_67) axs0_67 axk0_67_2) (ax_con_nil)))⟩
-- TurnNetModel.putAside: 4035 steps
set_option maxRecDepth 4000 in
theorem axk0_68_0 : ax_chk ax_wM0 rx_P (rx_DF, rx_FK) ax_APM0 (rx_n rxm_68) axm_68 (([702], (0, [], [], [], [])), [(67, 999)], [([2], (0, [], [], [], []))]) [] [] 3000 0 (() : ax_Tr 0) = true := by decide +kernel
theorem axr0_68 (hP : ∀ q ∈ rx_P, rx_QW q ∧ rx_ST rx_P (rx_DF, rx_FK) q) {l : Launch} {cy : Nat → ClassId} {D : va_G} : ax_Row ax_wM0 (ax_XM 0) rx_P ax_APM0 l cy D rxm_68 (axm_68, axc0_68) := fun hr => ⟨ax_tabB_ok axt_68, fun hL => ax_con_cons (ax_chk_ok hP ax_XM0_ok hr hL (ax_tabB_ok axt_68) ax_ro_nil axk0_68_0) (ax_con_nil)⟩
theorem axr0_69 (hP : ∀ q ∈ rx_P, rx_QW q ∧ rx_ST rx_P (rx_DF, rx_FK) q) {l : Launch} {cy : Nat → ClassId} {D : va_G} : ax_Row ax_wM0 (ax_XM 0) rx_P ax_APM0 l cy D rxm_69 (axm_69, axc0_69) := fun hr => ⟨ax_tabB_ok axt_69, fun hL => ax_con_nil⟩
theorem axr0_70 (hP : ∀ q ∈ rx_P, rx_QW q ∧ rx_ST rx_P (rx_DF, rx_FK) q) {l : Launch} {cy : Nat → ClassId} {D : va_G} : ax_Row ax_wM0 (ax_XM 0) rx_P ax_APM0 l cy D rxm_70 (axm_70, axc0_70) := fun hr => ⟨ax_tabB_ok axt_70, fun hL => ax_con_nil⟩
theorem axr0_71 (hP : ∀ q ∈ rx_P, rx_QW q ∧ rx_ST rx_P (rx_DF, rx_FK) q) {l : Launch} {cy : Nat → ClassId} {D : va_G} : ax_Row ax_wM0 (ax_XM 0) rx_P ax_APM0 l cy D rxm_71 (axm_71, axc0_71) := fun hr => ⟨ax_tabB_ok axt_71, fun hL => ax_con_nil⟩
set_option maxRecDepth 4000 in
theorem axs0_72 : ∀ x ∈ ([axu0_wSs0, axu0_wSs1, axu0_wR1, axu0_wSs2, axu0_wR2, axu0_wSs3, axu0_wR3, axu0_wSs4] : List ax_RL), ax_RO ax_wM0 (ax_XM 0) x := ax_ro_cons axq0_wSs0 (ax_ro_cons axq0_wSs1 (ax_ro_cons axq0_wR1 (ax_ro_cons axq0_wSs2 (ax_ro_cons axq0_wR2 (ax_ro_cons axq0_wSs3 (ax_ro_cons axq0_wR3 (ax_ro_cons axq0_wSs4 (ax_ro_nil))))))))
-- TurnNetModel.swapAll: 10215 steps
set_option maxRecDepth 4000 in
theorem axk0_72_0 : ax_chk ax_wM0 rx_P (rx_DF, rx_FK) ax_APM0 (rx_n rxm_72) axm_72 (([702], (0, [], [], [], [(1, [])])), [(44, 999), (72, 999)], [([2], (0, [], [], [], [(1, [])]))]) [axu0_wSs0, axu0_wSs1, axu0_wR1, axu0_wSs2, axu0_wR2, axu0_wSs3, axu0_wR3, axu0_wSs4] [] 30000 0 (() : ax_Tr 0) = true := by decide +kernel
theorem axr0_72 (hP : ∀ q ∈ rx_P, rx_QW q ∧ rx_ST rx_P (rx_DF, rx_FK) q) {l : Launch} {cy : Nat → ClassId} {D : va_G} : ax_Row ax_wM0 (ax_XM 0) rx_P ax_APM0 l cy D rxm_72 (axm_72, axc0_72) := fun hr => ⟨ax_tabB_ok axt_72, fun hL => ax_con_cons (ax_chk_ok hP ax_XM0_ok hr hL (ax_tabB_ok axt_72) axs0_72 axk0_72_0) (ax_con_nil)⟩
