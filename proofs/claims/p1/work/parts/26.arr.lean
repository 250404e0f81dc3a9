theorem rxa_byte : Jvm.Cond.arrayClass .byte ∈ lw_tbl := rx_tb_in (j := 1) (List.mem_of_getElem? (i := 156) (by decide +kernel))
theorem rxa_int : Jvm.Cond.arrayClass .int ∈ lw_tbl := rx_tb_in (j := 1) (List.mem_of_getElem? (i := 106) (by decide +kernel))
theorem rxa_long : Jvm.Cond.arrayClass .long ∈ lw_tbl := rx_tb_in (j := 1) (List.mem_of_getElem? (i := 226) (by decide +kernel))
theorem rxa_boolean : Jvm.Cond.arrayClass .boolean ∈ lw_tbl := rx_tb_in (j := 2) (List.mem_of_getElem? (i := 184) (by decide +kernel))
theorem rxa_over : Jvm.Cond.arrayOver (.object "TurnNet$State") ∈ lw_tbl := rx_tb_in (j := 2) (List.mem_of_getElem? (i := 74) (by decide +kernel))
/-- the law, with a script of L ints -/
noncomputable def rxl (L : Nat) : rx_M := ((4, 7, 155, 205, 8956, 1, 2, L + 1), rxm_164.2)
theorem rxl_st (L : Nat) : rx_ST rx_P (rx_DF, rx_FK) (rxl L) := rxs_164
