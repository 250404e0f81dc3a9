theorem rxg_3 : rx_eq1 (rx_adv rx_P (rx_DF, rx_FK) 20000 999999 rxm_159 500 (rx_Sk 150)) (rx_Sk 200) = true := by decide +kernel
