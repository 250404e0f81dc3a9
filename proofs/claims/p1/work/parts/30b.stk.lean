theorem rxg_0 : rx_eq1 (rx_adv rx_P (rx_DF, rx_FK) 20000 999999 rxm_159 490 (rx_Sk 1)) (rx_Sk 50) = true := by decide +kernel
