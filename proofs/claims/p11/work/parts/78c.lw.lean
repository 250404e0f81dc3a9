/-- the law, with a script of L ints -/
noncomputable def rxl (L : Nat) (sx : Nat → Nat) : rx_M := ((4, 34, 988, 205, 8956, 1, 2, L + 1, sx), rxm_332.2)
theorem rxl_st (L : Nat) (sx : Nat → Nat) : rx_ST rx_P (rx_DF, rx_FK) (rxl L sx) := rxs_332
theorem rxa_byte : Jvm.Cond.arrayClass .byte ∈ lw_tbl := rx_tb_in (j := 1) (List.mem_of_getElem? (i := 156) (by decide +kernel))
theorem rxa_int : Jvm.Cond.arrayClass .int ∈ lw_tbl := rx_tb_in (j := 1) (List.mem_of_getElem? (i := 106) (by decide +kernel))
theorem rxa_long : Jvm.Cond.arrayClass .long ∈ lw_tbl := rx_tb_in (j := 1) (List.mem_of_getElem? (i := 226) (by decide +kernel))
theorem rxa_boolean : Jvm.Cond.arrayClass .boolean ∈ lw_tbl := rx_tb_in (j := 2) (List.mem_of_getElem? (i := 184) (by decide +kernel))
theorem rxa_over : Jvm.Cond.arrayOver (.object "TurnNet$State") ∈ lw_tbl := rx_tb_in (j := 2) (List.mem_of_getElem? (i := 74) (by decide +kernel))
theorem rx_ls_cs : Jvm.Cond.laysStatic "java/lang/String" "COMPACT_STRINGS" "Z" ∈ lw_tbl := rx_tb_in (j := 2) (List.mem_of_getElem? (i := 235) (by decide +kernel))
theorem rx_ls_fm : Jvm.Cond.laysStatic "jdk/internal/util/Preconditions" "SIOOBE_FORMATTER" "Ljava/util/function/BiFunction;" ∈ lw_tbl := rx_tb_in (j := 3) (List.mem_of_getElem? (i := 11) (by decide +kernel))
theorem rx_sr0 : Jvm.Cond.stringRef "TurnNet$Reader" (rx_sidx.getD 0 0) (rx_stx.getD 0 "") ∈ lw_tbl := rx_tb_in (j := 2) (List.mem_of_getElem? (i := 221) (by decide +kernel))
theorem rx_sr1 : Jvm.Cond.stringRef "TurnNet$Reader" (rx_sidx.getD 1 0) (rx_stx.getD 1 "") ∈ lw_tbl := rx_tb_in (j := 3) (List.mem_of_getElem? (i := 54) (by decide +kernel))
theorem rx_sr2 : Jvm.Cond.stringRef "TurnNet$Reader" (rx_sidx.getD 2 0) (rx_stx.getD 2 "") ∈ lw_tbl := rx_tb_in (j := 3) (List.mem_of_getElem? (i := 71) (by decide +kernel))
theorem rx_sr3 : Jvm.Cond.stringRef "TurnNet$Reader" (rx_sidx.getD 3 0) (rx_stx.getD 3 "") ∈ lw_tbl := rx_tb_in (j := 3) (List.mem_of_getElem? (i := 72) (by decide +kernel))
theorem rx_sr4 : Jvm.Cond.stringRef "TurnNet$Reader" (rx_sidx.getD 4 0) (rx_stx.getD 4 "") ∈ lw_tbl := rx_tb_in (j := 3) (List.mem_of_getElem? (i := 73) (by decide +kernel))
theorem rx_sr5 : Jvm.Cond.stringRef "TurnNet$Reader" (rx_sidx.getD 5 0) (rx_stx.getD 5 "") ∈ lw_tbl := rx_tb_in (j := 3) (List.mem_of_getElem? (i := 90) (by decide +kernel))
theorem rx_sr6 : Jvm.Cond.stringRef "TurnNet$Reader" (rx_sidx.getD 6 0) (rx_stx.getD 6 "") ∈ lw_tbl := rx_tb_in (j := 3) (List.mem_of_getElem? (i := 91) (by decide +kernel))
theorem rx_sr7 : Jvm.Cond.stringRef "TurnNet$Reader" (rx_sidx.getD 7 0) (rx_stx.getD 7 "") ∈ lw_tbl := rx_tb_in (j := 3) (List.mem_of_getElem? (i := 92) (by decide +kernel))
theorem rx_sr (i : Nat) (hi : i < 8) : Jvm.Cond.stringRef "TurnNet$Reader" (rx_sidx.getD i 0) (rx_stx.getD i "") ∈ lw_tbl := by
  match i, hi with
  | 0, _ => exact rx_sr0
  | 1, _ => exact rx_sr1
  | 2, _ => exact rx_sr2
  | 3, _ => exact rx_sr3
  | 4, _ => exact rx_sr4
  | 5, _ => exact rx_sr5
  | 6, _ => exact rx_sr6
  | 7, _ => exact rx_sr7
