/-! stuck() on a new object: the reference goes 200 steps; in stretches, each from a state that is given by its difference -/
noncomputable def rx_a0 : rx_S := rx_getS rx_s0 (match rx_g6 33 with
  | some l => rx_nth l 39
  | none => none)
noncomputable def rx_o1 : Option (List rx_S) := rx_adv rx_P (rx_DF, rx_FK) 20000 1334 (rxl 6) 50 rx_a0
noncomputable def rx_a1 : rx_S := rx_get1 rx_s0 rx_o1
theorem rx_o1_1 : rx_is1 rx_o1 = true := by decide +kernel
noncomputable def rx_k1 : List Nat × List Nat := rx_getS ([], []) (rx_cal rx_P (rxl 6) 161 rx_a1)
theorem rx_k1_1 : rx_isS (rx_cal rx_P (rxl 6) 161 rx_a1) = true := by decide +kernel
noncomputable def rx_b0 : rx_S := rx_ent rxm_161 rx_k1.1 rx_a1
noncomputable def rx_o2 : Option (List rx_S) := rx_adv rx_P (rx_DF, rx_FK) 20000 8 rxm_161 20 rx_b0
noncomputable def rx_b1 : rx_S := rx_get1 rx_s0 rx_o2
theorem rx_o2_1 : rx_is1 rx_o2 = true := by decide +kernel
noncomputable def rx_k2 : List Nat × List Nat := rx_getS ([], []) (rx_cal rx_P rxm_161 159 rx_b1)
theorem rx_k2_1 : rx_isS (rx_cal rx_P rxm_161 159 rx_b1) = true := by decide +kernel
noncomputable def rx_c0 : rx_S := rx_ent rxm_159 rx_k2.1 rx_b1
noncomputable def rx_ct (hp : rx_H) (q : Nat) : List Nat := match rx_hg hp q with
  | some (_, _, l) => l
  | none => []
/-- where the array of all lies -/
noncomputable def rx_pa : Nat := Nat.sub (rx_pl (rx_getS 0 (rx_nth (rx_ct rx_c0.2.2.2.1 (Nat.sub (rx_pl (rx_getS 0 (rx_nth rx_c0.2.1 0))) 2)) 0))) 2
noncomputable def rx_Sk (k : Nat) : rx_S := (4, rx_upd (rx_upd rx_c0.2.1 2 0) 3 (rx_int k), [], rx_hs rx_c0.2.2.2.1 rx_pa (13, 103, rx_upd (rx_ct rx_c0.2.2.2.1 rx_pa) 102 (rx_int k)), rx_c0.2.2.2.2.1, 0, 0)
theorem rxg_s : rx_eq1 (rx_adv rx_P (rx_DF, rx_FK) 20000 999999 rxm_159 14 rx_c0) (rx_Sk 1) = true := by decide +kernel
noncomputable def rx_o3 : Option (List rx_O) := rx_run rx_P (rx_DF, rx_FK) 20000 rxm_159 (rx_Sk 200)
noncomputable def rx_e1 : rx_O := rx_get1 (0, rx_h0, []) rx_o3
theorem rx_o3_1 : rx_is1 rx_o3 = true := by decide +kernel
noncomputable def rx_o4 : Option (List rx_O) := rx_run rx_P (rx_DF, rx_FK) 20000 rxm_161 (rx_bh rxm_159 rx_k2.2 rx_b1 rx_e1)
noncomputable def rx_e2 : rx_O := rx_get1 (0, rx_h0, []) rx_o4
theorem rx_o4_1 : rx_is1 rx_o4 = true := by decide +kernel
theorem rx_o5_1 : rx_ok (rx_run rx_P (rx_DF, rx_FK) 20000 (rxl 6) (rx_bh rxm_161 rx_k1.2 rx_a1 rx_e2)) = true := by decide +kernel
