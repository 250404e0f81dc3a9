theorem axq1_mf2_2 : ax_RO ax_wM1 (ax_XM 1) axu1_mf2_2 := axqg_mf2_2 ax_WW1
theorem axq1_mf2_3 : ax_RO ax_wM1 (ax_XM 1) axu1_mf2_3 := axqg_mf2_3 ax_WW1
theorem axq1_mf2_4 : ax_RO ax_wM1 (ax_XM 1) axu1_mf2_4 := axqg_mf2_4 ax_WW1
theorem axq1_mf3 : ax_RO ax_wM1 (ax_XM 1) axu1_mf3 := axqg_mf3 ax_WW1
theorem axq1_mf4 : ax_RO ax_wM1 (ax_XM 1) axu1_mf4 := axqg_mf4 ax_WW1
theorem axq1_me1 : ax_RO ax_wM1 (ax_XM 1) axu1_me1 := axqg_me1 ax_WW1
