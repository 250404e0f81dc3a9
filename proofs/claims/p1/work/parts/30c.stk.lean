theorem rxg_1 : rx_eq1 (rx_adv rx_P (rx_DF, rx_FK) 20000 999999 rxm_159 500 (rx_Sk 50)) (rx_Sk 100) = true := by decide +kernel
