theorem rxP_ok : ∀ q ∈ rx_P, rx_QW q ∧ rx_ST rx_P (rx_DF, rx_FK) q := sorry
theorem axt_272 : ax_tabB (rx_cd rxm_272) axm_272 = true := sorry
theorem axL_C (hP : ∀ q ∈ rx_P, rx_QW q ∧ rx_ST rx_P (rx_DF, rx_FK) q) {l : Launch} {cy : Nat → ClassId} {D : va_G} : ∀ B, ax_Low ax_wC ax_XC rx_P ax_APC l cy D B := sorry
theorem axL_M0 (hP : ∀ q ∈ rx_P, rx_QW q ∧ rx_ST rx_P (rx_DF, rx_FK) q) {l : Launch} {cy : Nat → ClassId} {D : va_G} : ∀ B, ax_Low ax_wM0 (ax_XM 0) rx_P ax_APM0 l cy D B := sorry
theorem axL_M1 (hP : ∀ q ∈ rx_P, rx_QW q ∧ rx_ST rx_P (rx_DF, rx_FK) q) {l : Launch} {cy : Nat → ClassId} {D : va_G} : ∀ B, ax_Low ax_wM1 (ax_XM 1) rx_P ax_APM1 l cy D B := sorry
