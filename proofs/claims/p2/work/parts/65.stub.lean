theorem rxs_332 : rx_ST rx_P (rx_DF, rx_FK) rxm_332 := sorry
