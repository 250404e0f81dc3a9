theorem rxw_0 : rx_Main 0 := rx_main_run (n := 20000) (by decide +kernel)
theorem rxw_1 : rx_Main 1 := rx_main_run (n := 20000) (by decide +kernel)
theorem rxw_2 : rx_Main 2 := rx_main_run (n := 20000) (by decide +kernel)
theorem rxw_3 : rx_Main 3 := rx_main_run (n := 20000) (by decide +kernel)
theorem rxw_4 : rx_Main 4 := rx_main_run (n := 20000) (by decide +kernel)
theorem rxw_5 : rx_Main 5 := rx_main_run (n := 20000) (by decide +kernel)
theorem rxw_n : rx_n6 33 = true := by decide +kernel
theorem rxw6_0 : (List.range 4).all (fun i => rx_c6 33 (0 + i)) = true := by decide +kernel
theorem rxw6_4 : (List.range 6).all (fun i => rx_c6 33 (4 + i)) = true := by decide +kernel
theorem rxw6_10 : (List.range 8).all (fun i => rx_c6 33 (10 + i)) = true := by decide +kernel
theorem rxw6_18 : (List.range 8).all (fun i => rx_c6 33 (18 + i)) = true := by decide +kernel
theorem rxw6_26 : (List.range 8).all (fun i => rx_c6 33 (26 + i)) = true := by decide +kernel
theorem rxw6_34 : (List.range 4).all (fun i => rx_c6 33 (34 + i)) = true := by decide +kernel
theorem rxw6_38 : (List.range 1).all (fun i => rx_c6 33 (38 + i)) = true := by decide +kernel
theorem rxw6_40 : (List.range 3).all (fun i => rx_c6 33 (40 + i)) = true := by decide +kernel
theorem rxw6_43 : (List.range 21).all (fun i => rx_c6 33 (43 + i)) = true := by decide +kernel
