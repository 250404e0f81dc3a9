section
theorem rxLh_0 : ∀ x ∈ rxL_0, x.2.1 = 0 → x.2.2.1 = rx_sem x.2.2.2.1 := rx_Hl_ok (l := rxL_0) ⟨fun _ => (rx_sm_new 7).symm, fun _ => (rx_sm_dup).symm, rx_nz rfl, fun _ => (rx_sm_astore_n 1).symm, fun _ => (rx_sm_new 10).symm, fun _ => (rx_sm_dup).symm, rx_nz rfl, fun _ => (rx_sm_astore_n 2).symm, trivial⟩
theorem rxLh_1 : ∀ x ∈ rxL_1, x.2.1 = 0 → x.2.2.1 = rx_sem x.2.2.2.1 := rx_Hl_ok (l := rxL_1) ⟨fun _ => (rx_sm_iconst 0).symm, fun _ => (rx_sm_istore_n 3).symm, fun _ => (rx_sm_iload_n 3).symm, fun _ => (rx_sm_aload_n 0).symm, fun _ => (rx_sm_arraylength).symm, fun _ => (rx_sm_bipush 6).symm, fun _ => (rx_sm_isub).symm, fun _ => (rx_sm_if_icmp .gt 1391).symm, fun _ => (rx_sm_aload_n 0).symm, fun _ => (rx_sm_iload_n 3).symm, fun _ => (rx_sm_iaload).symm, fun _ => (rx_sm_bipush 63).symm, trivial⟩
theorem rxLh_2 : ∀ x ∈ rxL_2, x.2.1 = 0 → x.2.2.1 = rx_sem x.2.2.2.1 := rx_Hl_ok (l := rxL_2) ⟨fun _ => (rx_sm_iand).symm, fun _ => (rx_sm_tableswitch 1376 0 42 #[187, 250, 273, 286, 309, 332, 355, 378, 401, 434, 467, 490, 503, 516, 549, 582, 615, 648, 681, 724, 767, 810, 833, 856, 879, 912, 925, 948, 981, 1014, 1047, 1070, 1103, 1116, 1149, 1192, 1205, 1248, 1281, 1294, 1307, 1330, 1353]).symm, trivial⟩
theorem rxLh_3 : ∀ x ∈ rxL_3, x.2.1 = 0 → x.2.2.1 = rx_sem x.2.2.2.1 := fun _ h => absurd h List.not_mem_nil
theorem rxLh_4 : ∀ x ∈ rxL_4, x.2.1 = 0 → x.2.2.1 = rx_sem x.2.2.2.1 := fun _ h => absurd h List.not_mem_nil
theorem rxLh_5 : ∀ x ∈ rxL_5, x.2.1 = 0 → x.2.2.1 = rx_sem x.2.2.2.1 := fun _ h => absurd h List.not_mem_nil
theorem rxLh_6 : ∀ x ∈ rxL_6, x.2.1 = 0 → x.2.2.1 = rx_sem x.2.2.2.1 := fun _ h => absurd h List.not_mem_nil
theorem rxLh_7 : ∀ x ∈ rxL_7, x.2.1 = 0 → x.2.2.1 = rx_sem x.2.2.2.1 := fun _ h => absurd h List.not_mem_nil
theorem rxLh_8 : ∀ x ∈ rxL_8, x.2.1 = 0 → x.2.2.1 = rx_sem x.2.2.2.1 := fun _ h => absurd h List.not_mem_nil
theorem rxLh_9 : ∀ x ∈ rxL_9, x.2.1 = 0 → x.2.2.1 = rx_sem x.2.2.2.1 := fun _ h => absurd h List.not_mem_nil
theorem rxLh_10 : ∀ x ∈ rxL_10, x.2.1 = 0 → x.2.2.1 = rx_sem x.2.2.2.1 := fun _ h => absurd h List.not_mem_nil
theorem rxLh_11 : ∀ x ∈ rxL_11, x.2.1 = 0 → x.2.2.1 = rx_sem x.2.2.2.1 := fun _ h => absurd h List.not_mem_nil
theorem rxLh_12 : ∀ x ∈ rxL_12, x.2.1 = 0 → x.2.2.1 = rx_sem x.2.2.2.1 := fun _ h => absurd h List.not_mem_nil
theorem rxLh_13 : ∀ x ∈ rxL_13, x.2.1 = 0 → x.2.2.1 = rx_sem x.2.2.2.1 := rx_Hl_ok (l := rxL_13) ⟨fun _ => (rx_sm_aload_n 1).symm, fun _ => (rx_sm_aload_n 0).symm, fun _ => (rx_sm_iload_n 3).symm, fun _ => (rx_sm_iconst 1).symm, trivial⟩
theorem rxLh_14 : ∀ x ∈ rxL_14, x.2.1 = 0 → x.2.2.1 = rx_sem x.2.2.2.1 := rx_Hl_ok (l := rxL_14) ⟨fun _ => (rx_sm_iadd).symm, fun _ => (rx_sm_iaload).symm, fun _ => (rx_sm_aload_n 0).symm, fun _ => (rx_sm_iload_n 3).symm, fun _ => (rx_sm_iconst 2).symm, fun _ => (rx_sm_iadd).symm, fun _ => (rx_sm_iaload).symm, fun _ => (rx_sm_aload_n 0).symm, fun _ => (rx_sm_iload_n 3).symm, fun _ => (rx_sm_iconst 3).symm, fun _ => (rx_sm_iadd).symm, fun _ => (rx_sm_iaload).symm, fun _ => (rx_sm_aload_n 0).symm, fun _ => (rx_sm_iload_n 3).symm, fun _ => (rx_sm_iconst 4).symm, fun _ => (rx_sm_iadd).symm, trivial⟩
theorem rxLh_15 : ∀ x ∈ rxL_15, x.2.1 = 0 → x.2.2.1 = rx_sem x.2.2.2.1 := rx_Hl_ok (l := rxL_15) ⟨fun _ => (rx_sm_iaload).symm, fun _ => (rx_sm_aload_n 0).symm, fun _ => (rx_sm_iload_n 3).symm, fun _ => (rx_sm_iconst 5).symm, fun _ => (rx_sm_iadd).symm, fun _ => (rx_sm_iaload).symm, rx_nz rfl, fun _ => (rx_sm_pop).symm, fun _ => (rx_sm_aload_n 2).symm, fun _ => (rx_sm_aload_n 0).symm, fun _ => (rx_sm_iload_n 3).symm, fun _ => (rx_sm_iconst 1).symm, fun _ => (rx_sm_iadd).symm, fun _ => (rx_sm_iaload).symm, trivial⟩
theorem rxLh_16 : ∀ x ∈ rxL_16, x.2.1 = 0 → x.2.2.1 = rx_sem x.2.2.2.1 := rx_Hl_ok (l := rxL_16) ⟨fun _ => (rx_sm_aload_n 0).symm, fun _ => (rx_sm_iload_n 3).symm, fun _ => (rx_sm_iconst 2).symm, fun _ => (rx_sm_iadd).symm, fun _ => (rx_sm_iaload).symm, fun _ => (rx_sm_aload_n 0).symm, fun _ => (rx_sm_iload_n 3).symm, fun _ => (rx_sm_iconst 3).symm, fun _ => (rx_sm_iadd).symm, fun _ => (rx_sm_iaload).symm, fun _ => (rx_sm_aload_n 0).symm, fun _ => (rx_sm_iload_n 3).symm, fun _ => (rx_sm_iconst 4).symm, fun _ => (rx_sm_iadd).symm, fun _ => (rx_sm_iaload).symm, fun _ => (rx_sm_aload_n 0).symm, trivial⟩
theorem rxLh_17 : ∀ x ∈ rxL_17, x.2.1 = 0 → x.2.2.1 = rx_sem x.2.2.2.1 := rx_Hl_ok (l := rxL_17) ⟨fun _ => (rx_sm_iload_n 3).symm, fun _ => (rx_sm_iconst 5).symm, fun _ => (rx_sm_iadd).symm, fun _ => (rx_sm_iaload).symm, rx_nz rfl, fun _ => (rx_sm_pop).symm, fun _ => (rx_sm_goto 1129).symm, fun _ => (rx_sm_aload_n 1).symm, fun _ => (rx_sm_aload_n 0).symm, fun _ => (rx_sm_iload_n 3).symm, fun _ => (rx_sm_iconst 1).symm, fun _ => (rx_sm_iadd).symm, trivial⟩
theorem rxLh_18 : ∀ x ∈ rxL_18, x.2.1 = 0 → x.2.2.1 = rx_sem x.2.2.2.1 := rx_Hl_ok (l := rxL_18) ⟨fun _ => (rx_sm_iaload).symm, rx_nz rfl, fun _ => (rx_sm_pop).symm, fun _ => (rx_sm_aload_n 2).symm, fun _ => (rx_sm_aload_n 0).symm, fun _ => (rx_sm_iload_n 3).symm, fun _ => (rx_sm_iconst 1).symm, fun _ => (rx_sm_iadd).symm, fun _ => (rx_sm_iaload).symm, rx_nz rfl, fun _ => (rx_sm_pop).symm, fun _ => (rx_sm_goto 1106).symm, trivial⟩
theorem rxLh_19 : ∀ x ∈ rxL_19, x.2.1 = 0 → x.2.2.1 = rx_sem x.2.2.2.1 := rx_Hl_ok (l := rxL_19) ⟨fun _ => (rx_sm_aload_n 1).symm, rx_nz rfl, fun _ => (rx_sm_pop).symm, fun _ => (rx_sm_aload_n 2).symm, rx_nz rfl, fun _ => (rx_sm_pop).symm, fun _ => (rx_sm_goto 1093).symm, fun _ => (rx_sm_aload_n 1).symm, trivial⟩
theorem rxLh_20 : ∀ x ∈ rxL_20, x.2.1 = 0 → x.2.2.1 = rx_sem x.2.2.2.1 := rx_Hl_ok (l := rxL_20) ⟨fun _ => (rx_sm_aload_n 0).symm, fun _ => (rx_sm_iload_n 3).symm, fun _ => (rx_sm_iconst 1).symm, fun _ => (rx_sm_iadd).symm, fun _ => (rx_sm_iaload).symm, rx_nz rfl, fun _ => (rx_sm_pop).symm, fun _ => (rx_sm_aload_n 2).symm, fun _ => (rx_sm_aload_n 0).symm, fun _ => (rx_sm_iload_n 3).symm, fun _ => (rx_sm_iconst 1).symm, fun _ => (rx_sm_iadd).symm, fun _ => (rx_sm_iaload).symm, rx_nz rfl, trivial⟩
theorem rxLh_21 : ∀ x ∈ rxL_21, x.2.1 = 0 → x.2.2.1 = rx_sem x.2.2.2.1 := rx_Hl_ok (l := rxL_21) ⟨fun _ => (rx_sm_pop).symm, fun _ => (rx_sm_goto 1070).symm, fun _ => (rx_sm_aload_n 1).symm, fun _ => (rx_sm_aload_n 0).symm, fun _ => (rx_sm_iload_n 3).symm, fun _ => (rx_sm_iconst 1).symm, fun _ => (rx_sm_iadd).symm, fun _ => (rx_sm_iaload).symm, rx_nz rfl, fun _ => (rx_sm_pop).symm, trivial⟩
theorem rxLh_22 : ∀ x ∈ rxL_22, x.2.1 = 0 → x.2.2.1 = rx_sem x.2.2.2.1 := rx_Hl_ok (l := rxL_22) ⟨fun _ => (rx_sm_aload_n 2).symm, fun _ => (rx_sm_aload_n 0).symm, fun _ => (rx_sm_iload_n 3).symm, fun _ => (rx_sm_iconst 1).symm, fun _ => (rx_sm_iadd).symm, fun _ => (rx_sm_iaload).symm, rx_nz rfl, fun _ => (rx_sm_pop).symm, fun _ => (rx_sm_goto 1047).symm, fun _ => (rx_sm_aload_n 1).symm, fun _ => (rx_sm_aload_n 0).symm, fun _ => (rx_sm_iload_n 3).symm, trivial⟩
theorem rxLh_23 : ∀ x ∈ rxL_23, x.2.1 = 0 → x.2.2.1 = rx_sem x.2.2.2.1 := rx_Hl_ok (l := rxL_23) ⟨fun _ => (rx_sm_iconst 1).symm, fun _ => (rx_sm_iadd).symm, fun _ => (rx_sm_iaload).symm, rx_nz rfl, fun _ => (rx_sm_pop).symm, fun _ => (rx_sm_aload_n 2).symm, fun _ => (rx_sm_aload_n 0).symm, fun _ => (rx_sm_iload_n 3).symm, fun _ => (rx_sm_iconst 1).symm, fun _ => (rx_sm_iadd).symm, fun _ => (rx_sm_iaload).symm, rx_nz rfl, trivial⟩
theorem rxLh_24 : ∀ x ∈ rxL_24, x.2.1 = 0 → x.2.2.1 = rx_sem x.2.2.2.1 := rx_Hl_ok (l := rxL_24) ⟨fun _ => (rx_sm_pop).symm, fun _ => (rx_sm_goto 1024).symm, fun _ => (rx_sm_aload_n 1).symm, fun _ => (rx_sm_aload_n 0).symm, fun _ => (rx_sm_iload_n 3).symm, fun _ => (rx_sm_iconst 1).symm, fun _ => (rx_sm_iadd).symm, fun _ => (rx_sm_iaload).symm, rx_nz rfl, fun _ => (rx_sm_pop).symm, fun _ => (rx_sm_aload_n 2).symm, fun _ => (rx_sm_aload_n 0).symm, trivial⟩
theorem rxLh_25 : ∀ x ∈ rxL_25, x.2.1 = 0 → x.2.2.1 = rx_sem x.2.2.2.1 := rx_Hl_ok (l := rxL_25) ⟨fun _ => (rx_sm_iload_n 3).symm, fun _ => (rx_sm_iconst 1).symm, fun _ => (rx_sm_iadd).symm, fun _ => (rx_sm_iaload).symm, rx_nz rfl, fun _ => (rx_sm_pop).symm, fun _ => (rx_sm_goto 1001).symm, fun _ => (rx_sm_aload_n 1).symm, fun _ => (rx_sm_aload_n 0).symm, fun _ => (rx_sm_iload_n 3).symm, fun _ => (rx_sm_iconst 1).symm, fun _ => (rx_sm_iadd).symm, trivial⟩
theorem rxLh_26 : ∀ x ∈ rxL_26, x.2.1 = 0 → x.2.2.1 = rx_sem x.2.2.2.1 := rx_Hl_ok (l := rxL_26) ⟨fun _ => (rx_sm_iaload).symm, rx_nz rfl, fun _ => (rx_sm_pop).symm, fun _ => (rx_sm_aload_n 2).symm, fun _ => (rx_sm_aload_n 0).symm, fun _ => (rx_sm_iload_n 3).symm, fun _ => (rx_sm_iconst 1).symm, fun _ => (rx_sm_iadd).symm, fun _ => (rx_sm_iaload).symm, rx_nz rfl, fun _ => (rx_sm_pop).symm, fun _ => (rx_sm_goto 978).symm, trivial⟩
theorem rxLh_27 : ∀ x ∈ rxL_27, x.2.1 = 0 → x.2.2.1 = rx_sem x.2.2.2.1 := rx_Hl_ok (l := rxL_27) ⟨fun _ => (rx_sm_aload_n 1).symm, fun _ => (rx_sm_aload_n 0).symm, fun _ => (rx_sm_iload_n 3).symm, fun _ => (rx_sm_iconst 1).symm, fun _ => (rx_sm_iadd).symm, fun _ => (rx_sm_iaload).symm, fun _ => (rx_sm_aload_n 0).symm, fun _ => (rx_sm_iload_n 3).symm, fun _ => (rx_sm_iconst 2).symm, fun _ => (rx_sm_iadd).symm, fun _ => (rx_sm_iaload).symm, rx_nz rfl, trivial⟩
theorem rxLh_28 : ∀ x ∈ rxL_28, x.2.1 = 0 → x.2.2.1 = rx_sem x.2.2.2.1 := rx_Hl_ok (l := rxL_28) ⟨fun _ => (rx_sm_pop).symm, fun _ => (rx_sm_aload_n 2).symm, fun _ => (rx_sm_aload_n 0).symm, fun _ => (rx_sm_iload_n 3).symm, fun _ => (rx_sm_iconst 1).symm, fun _ => (rx_sm_iadd).symm, fun _ => (rx_sm_iaload).symm, fun _ => (rx_sm_aload_n 0).symm, fun _ => (rx_sm_iload_n 3).symm, fun _ => (rx_sm_iconst 2).symm, fun _ => (rx_sm_iadd).symm, fun _ => (rx_sm_iaload).symm, rx_nz rfl, fun _ => (rx_sm_pop).symm, trivial⟩
theorem rxLh_29 : ∀ x ∈ rxL_29, x.2.1 = 0 → x.2.2.1 = rx_sem x.2.2.2.1 := rx_Hl_ok (l := rxL_29) ⟨fun _ => (rx_sm_goto 945).symm, fun _ => (rx_sm_aload_n 1).symm, fun _ => (rx_sm_aload_n 0).symm, fun _ => (rx_sm_iload_n 3).symm, fun _ => (rx_sm_iconst 1).symm, fun _ => (rx_sm_iadd).symm, fun _ => (rx_sm_iaload).symm, fun _ => (rx_sm_aload_n 0).symm, fun _ => (rx_sm_iload_n 3).symm, fun _ => (rx_sm_iconst 2).symm, fun _ => (rx_sm_iadd).symm, fun _ => (rx_sm_iaload).symm, rx_nz rfl, trivial⟩
theorem rxLh_30 : ∀ x ∈ rxL_30, x.2.1 = 0 → x.2.2.1 = rx_sem x.2.2.2.1 := rx_Hl_ok (l := rxL_30) ⟨fun _ => (rx_sm_pop).symm, fun _ => (rx_sm_aload_n 2).symm, fun _ => (rx_sm_aload_n 0).symm, fun _ => (rx_sm_iload_n 3).symm, fun _ => (rx_sm_iconst 1).symm, fun _ => (rx_sm_iadd).symm, fun _ => (rx_sm_iaload).symm, fun _ => (rx_sm_aload_n 0).symm, fun _ => (rx_sm_iload_n 3).symm, fun _ => (rx_sm_iconst 2).symm, fun _ => (rx_sm_iadd).symm, fun _ => (rx_sm_iaload).symm, rx_nz rfl, trivial⟩
theorem rxLh_31 : ∀ x ∈ rxL_31, x.2.1 = 0 → x.2.2.1 = rx_sem x.2.2.2.1 := rx_Hl_ok (l := rxL_31) ⟨fun _ => (rx_sm_pop).symm, fun _ => (rx_sm_goto 912).symm, fun _ => (rx_sm_aload_n 1).symm, fun _ => (rx_sm_aload_n 0).symm, fun _ => (rx_sm_iload_n 3).symm, fun _ => (rx_sm_iconst 1).symm, fun _ => (rx_sm_iadd).symm, fun _ => (rx_sm_iaload).symm, rx_nz rfl, fun _ => (rx_sm_pop).symm, fun _ => (rx_sm_aload_n 2).symm, fun _ => (rx_sm_aload_n 0).symm, trivial⟩
theorem rxLh_32 : ∀ x ∈ rxL_32, x.2.1 = 0 → x.2.2.1 = rx_sem x.2.2.2.1 := rx_Hl_ok (l := rxL_32) ⟨fun _ => (rx_sm_iload_n 3).symm, fun _ => (rx_sm_iconst 1).symm, fun _ => (rx_sm_iadd).symm, fun _ => (rx_sm_iaload).symm, rx_nz rfl, fun _ => (rx_sm_pop).symm, fun _ => (rx_sm_goto 889).symm, fun _ => (rx_sm_aload_n 1).symm, rx_nz rfl, fun _ => (rx_sm_pop).symm, trivial⟩
theorem rxLh_33 : ∀ x ∈ rxL_33, x.2.1 = 0 → x.2.2.1 = rx_sem x.2.2.2.1 := rx_Hl_ok (l := rxL_33) ⟨fun _ => (rx_sm_aload_n 2).symm, rx_nz rfl, fun _ => (rx_sm_pop).symm, fun _ => (rx_sm_goto 876).symm, fun _ => (rx_sm_aload_n 1).symm, rx_nz rfl, fun _ => (rx_sm_pop).symm, fun _ => (rx_sm_aload_n 2).symm, rx_nz rfl, trivial⟩
theorem rxLh_34 : ∀ x ∈ rxL_34, x.2.1 = 0 → x.2.2.1 = rx_sem x.2.2.2.1 := rx_Hl_ok (l := rxL_34) ⟨fun _ => (rx_sm_pop).symm, fun _ => (rx_sm_goto 863).symm, fun _ => (rx_sm_aload_n 1).symm, fun _ => (rx_sm_aload_n 0).symm, fun _ => (rx_sm_iload_n 3).symm, fun _ => (rx_sm_iconst 1).symm, fun _ => (rx_sm_iadd).symm, fun _ => (rx_sm_iaload).symm, fun _ => (rx_sm_aload_n 0).symm, fun _ => (rx_sm_iload_n 3).symm, fun _ => (rx_sm_iconst 2).symm, fun _ => (rx_sm_iadd).symm, fun _ => (rx_sm_iaload).symm, trivial⟩
theorem rxLh_35 : ∀ x ∈ rxL_35, x.2.1 = 0 → x.2.2.1 = rx_sem x.2.2.2.1 := rx_Hl_ok (l := rxL_35) ⟨rx_nz rfl, fun _ => (rx_sm_aload_n 2).symm, fun _ => (rx_sm_aload_n 0).symm, fun _ => (rx_sm_iload_n 3).symm, fun _ => (rx_sm_iconst 1).symm, fun _ => (rx_sm_iadd).symm, fun _ => (rx_sm_iaload).symm, fun _ => (rx_sm_aload_n 0).symm, fun _ => (rx_sm_iload_n 3).symm, fun _ => (rx_sm_iconst 2).symm, fun _ => (rx_sm_iadd).symm, fun _ => (rx_sm_iaload).symm, rx_nz rfl, trivial⟩
theorem rxLh_36 : ∀ x ∈ rxL_36, x.2.1 = 0 → x.2.2.1 = rx_sem x.2.2.2.1 := rx_Hl_ok (l := rxL_36) ⟨fun _ => (rx_sm_if_icmp .eq 832).symm, fun _ => (rx_sm_iconst 0).symm, rx_nz rfl, fun _ => (rx_sm_aload_n 1).symm, fun _ => (rx_sm_aload_n 0).symm, fun _ => (rx_sm_iload_n 3).symm, fun _ => (rx_sm_iconst 1).symm, fun _ => (rx_sm_iadd).symm, fun _ => (rx_sm_iaload).symm, fun _ => (rx_sm_aload_n 0).symm, fun _ => (rx_sm_iload_n 3).symm, fun _ => (rx_sm_iconst 2).symm, fun _ => (rx_sm_iadd).symm, trivial⟩
theorem rxLh_37 : ∀ x ∈ rxL_37, x.2.1 = 0 → x.2.2.1 = rx_sem x.2.2.2.1 := rx_Hl_ok (l := rxL_37) ⟨fun _ => (rx_sm_iaload).symm, rx_nz rfl, fun _ => (rx_sm_pop).symm, fun _ => (rx_sm_aload_n 2).symm, fun _ => (rx_sm_aload_n 0).symm, fun _ => (rx_sm_iload_n 3).symm, fun _ => (rx_sm_iconst 1).symm, fun _ => (rx_sm_iadd).symm, fun _ => (rx_sm_iaload).symm, fun _ => (rx_sm_aload_n 0).symm, fun _ => (rx_sm_iload_n 3).symm, fun _ => (rx_sm_iconst 2).symm, fun _ => (rx_sm_iadd).symm, fun _ => (rx_sm_iaload).symm, trivial⟩
theorem rxLh_38 : ∀ x ∈ rxL_38, x.2.1 = 0 → x.2.2.1 = rx_sem x.2.2.2.1 := rx_Hl_ok (l := rxL_38) ⟨rx_nz rfl, fun _ => (rx_sm_pop).symm, fun _ => (rx_sm_goto 797).symm, fun _ => (rx_sm_aload_n 1).symm, fun _ => (rx_sm_aload_n 0).symm, fun _ => (rx_sm_iload_n 3).symm, fun _ => (rx_sm_iconst 1).symm, fun _ => (rx_sm_iadd).symm, fun _ => (rx_sm_iaload).symm, fun _ => (rx_sm_aload_n 0).symm, fun _ => (rx_sm_iload_n 3).symm, fun _ => (rx_sm_iconst 2).symm, trivial⟩
theorem rxLh_39 : ∀ x ∈ rxL_39, x.2.1 = 0 → x.2.2.1 = rx_sem x.2.2.2.1 := rx_Hl_ok (l := rxL_39) ⟨fun _ => (rx_sm_iadd).symm, fun _ => (rx_sm_iaload).symm, rx_nz rfl, fun _ => (rx_sm_pop).symm, fun _ => (rx_sm_aload_n 2).symm, fun _ => (rx_sm_aload_n 0).symm, fun _ => (rx_sm_iload_n 3).symm, fun _ => (rx_sm_iconst 1).symm, fun _ => (rx_sm_iadd).symm, fun _ => (rx_sm_iaload).symm, fun _ => (rx_sm_aload_n 0).symm, fun _ => (rx_sm_iload_n 3).symm, fun _ => (rx_sm_iconst 2).symm, fun _ => (rx_sm_iadd).symm, trivial⟩
theorem rxLh_40 : ∀ x ∈ rxL_40, x.2.1 = 0 → x.2.2.1 = rx_sem x.2.2.2.1 := rx_Hl_ok (l := rxL_40) ⟨fun _ => (rx_sm_iaload).symm, rx_nz rfl, fun _ => (rx_sm_pop).symm, fun _ => (rx_sm_goto 764).symm, fun _ => (rx_sm_aload_n 1).symm, fun _ => (rx_sm_aload_n 0).symm, fun _ => (rx_sm_iload_n 3).symm, fun _ => (rx_sm_iconst 1).symm, fun _ => (rx_sm_iadd).symm, fun _ => (rx_sm_iaload).symm, fun _ => (rx_sm_aload_n 0).symm, fun _ => (rx_sm_iload_n 3).symm, trivial⟩
theorem rxLh_41 : ∀ x ∈ rxL_41, x.2.1 = 0 → x.2.2.1 = rx_sem x.2.2.2.1 := rx_Hl_ok (l := rxL_41) ⟨fun _ => (rx_sm_iconst 2).symm, fun _ => (rx_sm_iadd).symm, fun _ => (rx_sm_iaload).symm, rx_nz rfl, fun _ => (rx_sm_pop).symm, fun _ => (rx_sm_aload_n 2).symm, fun _ => (rx_sm_aload_n 0).symm, fun _ => (rx_sm_iload_n 3).symm, fun _ => (rx_sm_iconst 1).symm, fun _ => (rx_sm_iadd).symm, fun _ => (rx_sm_iaload).symm, fun _ => (rx_sm_aload_n 0).symm, fun _ => (rx_sm_iload_n 3).symm, fun _ => (rx_sm_iconst 2).symm, trivial⟩
theorem rxLh_42 : ∀ x ∈ rxL_42, x.2.1 = 0 → x.2.2.1 = rx_sem x.2.2.2.1 := rx_Hl_ok (l := rxL_42) ⟨fun _ => (rx_sm_iadd).symm, fun _ => (rx_sm_iaload).symm, rx_nz rfl, fun _ => (rx_sm_pop).symm, fun _ => (rx_sm_goto 731).symm, fun _ => (rx_sm_aload_n 1).symm, fun _ => (rx_sm_aload_n 0).symm, fun _ => (rx_sm_iload_n 3).symm, fun _ => (rx_sm_iconst 1).symm, fun _ => (rx_sm_iadd).symm, fun _ => (rx_sm_iaload).symm, fun _ => (rx_sm_aload_n 0).symm, trivial⟩
theorem rxLh_43 : ∀ x ∈ rxL_43, x.2.1 = 0 → x.2.2.1 = rx_sem x.2.2.2.1 := rx_Hl_ok (l := rxL_43) ⟨fun _ => (rx_sm_iload_n 3).symm, fun _ => (rx_sm_iconst 2).symm, fun _ => (rx_sm_iadd).symm, fun _ => (rx_sm_iaload).symm, rx_nz rfl, fun _ => (rx_sm_pop2).symm, fun _ => (rx_sm_aload_n 2).symm, fun _ => (rx_sm_aload_n 0).symm, fun _ => (rx_sm_iload_n 3).symm, fun _ => (rx_sm_iconst 1).symm, fun _ => (rx_sm_iadd).symm, fun _ => (rx_sm_iaload).symm, fun _ => (rx_sm_aload_n 0).symm, fun _ => (rx_sm_iload_n 3).symm, trivial⟩
theorem rxLh_44 : ∀ x ∈ rxL_44, x.2.1 = 0 → x.2.2.1 = rx_sem x.2.2.2.1 := rx_Hl_ok (l := rxL_44) ⟨fun _ => (rx_sm_iconst 2).symm, fun _ => (rx_sm_iadd).symm, fun _ => (rx_sm_iaload).symm, rx_nz rfl, fun _ => (rx_sm_pop2).symm, fun _ => (rx_sm_goto 698).symm, fun _ => (rx_sm_aload_n 1).symm, fun _ => (rx_sm_aload_n 0).symm, fun _ => (rx_sm_iload_n 3).symm, fun _ => (rx_sm_iconst 1).symm, fun _ => (rx_sm_iadd).symm, fun _ => (rx_sm_iaload).symm, trivial⟩
theorem rxLh_45 : ∀ x ∈ rxL_45, x.2.1 = 0 → x.2.2.1 = rx_sem x.2.2.2.1 := rx_Hl_ok (l := rxL_45) ⟨fun _ => (rx_sm_aload_n 0).symm, fun _ => (rx_sm_iload_n 3).symm, fun _ => (rx_sm_iconst 2).symm, fun _ => (rx_sm_iadd).symm, fun _ => (rx_sm_iaload).symm, fun _ => (rx_sm_aload_n 0).symm, fun _ => (rx_sm_iload_n 3).symm, fun _ => (rx_sm_iconst 3).symm, fun _ => (rx_sm_iadd).symm, fun _ => (rx_sm_iaload).symm, rx_nz rfl, fun _ => (rx_sm_pop2).symm, fun _ => (rx_sm_aload_n 2).symm, fun _ => (rx_sm_aload_n 0).symm, trivial⟩
theorem rxLh_46 : ∀ x ∈ rxL_46, x.2.1 = 0 → x.2.2.1 = rx_sem x.2.2.2.1 := rx_Hl_ok (l := rxL_46) ⟨fun _ => (rx_sm_iload_n 3).symm, fun _ => (rx_sm_iconst 1).symm, fun _ => (rx_sm_iadd).symm, fun _ => (rx_sm_iaload).symm, fun _ => (rx_sm_aload_n 0).symm, fun _ => (rx_sm_iload_n 3).symm, fun _ => (rx_sm_iconst 2).symm, fun _ => (rx_sm_iadd).symm, fun _ => (rx_sm_iaload).symm, fun _ => (rx_sm_aload_n 0).symm, fun _ => (rx_sm_iload_n 3).symm, fun _ => (rx_sm_iconst 3).symm, fun _ => (rx_sm_iadd).symm, fun _ => (rx_sm_iaload).symm, rx_nz rfl, trivial⟩
theorem rxLh_47 : ∀ x ∈ rxL_47, x.2.1 = 0 → x.2.2.1 = rx_sem x.2.2.2.1 := rx_Hl_ok (l := rxL_47) ⟨fun _ => (rx_sm_pop2).symm, fun _ => (rx_sm_goto 655).symm, fun _ => (rx_sm_aload_n 1).symm, fun _ => (rx_sm_aload_n 0).symm, fun _ => (rx_sm_iload_n 3).symm, fun _ => (rx_sm_iconst 1).symm, fun _ => (rx_sm_iadd).symm, fun _ => (rx_sm_iaload).symm, fun _ => (rx_sm_aload_n 0).symm, fun _ => (rx_sm_iload_n 3).symm, fun _ => (rx_sm_iconst 2).symm, fun _ => (rx_sm_iadd).symm, fun _ => (rx_sm_iaload).symm, trivial⟩
theorem rxLh_48 : ∀ x ∈ rxL_48, x.2.1 = 0 → x.2.2.1 = rx_sem x.2.2.2.1 := rx_Hl_ok (l := rxL_48) ⟨fun _ => (rx_sm_aload_n 0).symm, fun _ => (rx_sm_iload_n 3).symm, fun _ => (rx_sm_iconst 3).symm, fun _ => (rx_sm_iadd).symm, fun _ => (rx_sm_iaload).symm, rx_nz rfl, fun _ => (rx_sm_pop).symm, fun _ => (rx_sm_aload_n 2).symm, fun _ => (rx_sm_aload_n 0).symm, fun _ => (rx_sm_iload_n 3).symm, fun _ => (rx_sm_iconst 1).symm, fun _ => (rx_sm_iadd).symm, fun _ => (rx_sm_iaload).symm, fun _ => (rx_sm_aload_n 0).symm, trivial⟩
theorem rxLh_49 : ∀ x ∈ rxL_49, x.2.1 = 0 → x.2.2.1 = rx_sem x.2.2.2.1 := rx_Hl_ok (l := rxL_49) ⟨fun _ => (rx_sm_iload_n 3).symm, fun _ => (rx_sm_iconst 2).symm, fun _ => (rx_sm_iadd).symm, fun _ => (rx_sm_iaload).symm, fun _ => (rx_sm_aload_n 0).symm, fun _ => (rx_sm_iload_n 3).symm, fun _ => (rx_sm_iconst 3).symm, fun _ => (rx_sm_iadd).symm, fun _ => (rx_sm_iaload).symm, rx_nz rfl, fun _ => (rx_sm_pop).symm, fun _ => (rx_sm_goto 612).symm, trivial⟩
theorem rxLh_50 : ∀ x ∈ rxL_50, x.2.1 = 0 → x.2.2.1 = rx_sem x.2.2.2.1 := rx_Hl_ok (l := rxL_50) ⟨fun _ => (rx_sm_aload_n 1).symm, fun _ => (rx_sm_aload_n 0).symm, fun _ => (rx_sm_iload_n 3).symm, fun _ => (rx_sm_iconst 1).symm, fun _ => (rx_sm_iadd).symm, fun _ => (rx_sm_iaload).symm, fun _ => (rx_sm_aload_n 0).symm, fun _ => (rx_sm_iload_n 3).symm, fun _ => (rx_sm_iconst 2).symm, fun _ => (rx_sm_iadd).symm, fun _ => (rx_sm_iaload).symm, fun _ => (rx_sm_aload_n 0).symm, fun _ => (rx_sm_iload_n 3).symm, fun _ => (rx_sm_iconst 3).symm, fun _ => (rx_sm_iadd).symm, fun _ => (rx_sm_iaload).symm, trivial⟩
theorem rxLh_51 : ∀ x ∈ rxL_51, x.2.1 = 0 → x.2.2.1 = rx_sem x.2.2.2.1 := rx_Hl_ok (l := rxL_51) ⟨rx_nz rfl, fun _ => (rx_sm_pop).symm, fun _ => (rx_sm_aload_n 2).symm, fun _ => (rx_sm_aload_n 0).symm, fun _ => (rx_sm_iload_n 3).symm, fun _ => (rx_sm_iconst 1).symm, fun _ => (rx_sm_iadd).symm, fun _ => (rx_sm_iaload).symm, fun _ => (rx_sm_aload_n 0).symm, fun _ => (rx_sm_iload_n 3).symm, fun _ => (rx_sm_iconst 2).symm, fun _ => (rx_sm_iadd).symm, fun _ => (rx_sm_iaload).symm, fun _ => (rx_sm_aload_n 0).symm, trivial⟩
theorem rxLh_52 : ∀ x ∈ rxL_52, x.2.1 = 0 → x.2.2.1 = rx_sem x.2.2.2.1 := rx_Hl_ok (l := rxL_52) ⟨fun _ => (rx_sm_iload_n 3).symm, fun _ => (rx_sm_iconst 3).symm, fun _ => (rx_sm_iadd).symm, fun _ => (rx_sm_iaload).symm, rx_nz rfl, fun _ => (rx_sm_pop).symm, fun _ => (rx_sm_goto 569).symm, fun _ => (rx_sm_aload_n 1).symm, fun _ => (rx_sm_aload_n 0).symm, fun _ => (rx_sm_iload_n 3).symm, fun _ => (rx_sm_iconst 1).symm, fun _ => (rx_sm_iadd).symm, trivial⟩
theorem rxLh_53 : ∀ x ∈ rxL_53, x.2.1 = 0 → x.2.2.1 = rx_sem x.2.2.2.1 := rx_Hl_ok (l := rxL_53) ⟨fun _ => (rx_sm_iaload).symm, rx_nz rfl, fun _ => (rx_sm_pop).symm, fun _ => (rx_sm_aload_n 2).symm, fun _ => (rx_sm_aload_n 0).symm, fun _ => (rx_sm_iload_n 3).symm, fun _ => (rx_sm_iconst 1).symm, fun _ => (rx_sm_iadd).symm, fun _ => (rx_sm_iaload).symm, rx_nz rfl, fun _ => (rx_sm_pop).symm, fun _ => (rx_sm_goto 546).symm, trivial⟩
theorem rxLh_54 : ∀ x ∈ rxL_54, x.2.1 = 0 → x.2.2.1 = rx_sem x.2.2.2.1 := rx_Hl_ok (l := rxL_54) ⟨fun _ => (rx_sm_aload_n 1).symm, fun _ => (rx_sm_aload_n 0).symm, fun _ => (rx_sm_iload_n 3).symm, fun _ => (rx_sm_iconst 1).symm, fun _ => (rx_sm_iadd).symm, fun _ => (rx_sm_iaload).symm, rx_nz rfl, fun _ => (rx_sm_pop).symm, fun _ => (rx_sm_aload_n 2).symm, fun _ => (rx_sm_aload_n 0).symm, fun _ => (rx_sm_iload_n 3).symm, fun _ => (rx_sm_iconst 1).symm, trivial⟩
theorem rxLh_55 : ∀ x ∈ rxL_55, x.2.1 = 0 → x.2.2.1 = rx_sem x.2.2.2.1 := rx_Hl_ok (l := rxL_55) ⟨fun _ => (rx_sm_iadd).symm, fun _ => (rx_sm_iaload).symm, rx_nz rfl, fun _ => (rx_sm_pop).symm, fun _ => (rx_sm_goto 523).symm, fun _ => (rx_sm_aload_n 1).symm, fun _ => (rx_sm_aload_n 0).symm, fun _ => (rx_sm_iload_n 3).symm, fun _ => (rx_sm_iconst 1).symm, fun _ => (rx_sm_iadd).symm, fun _ => (rx_sm_iaload).symm, rx_nz rfl, trivial⟩
theorem rxLh_56 : ∀ x ∈ rxL_56, x.2.1 = 0 → x.2.2.1 = rx_sem x.2.2.2.1 := rx_Hl_ok (l := rxL_56) ⟨fun _ => (rx_sm_pop).symm, fun _ => (rx_sm_aload_n 2).symm, fun _ => (rx_sm_aload_n 0).symm, fun _ => (rx_sm_iload_n 3).symm, fun _ => (rx_sm_iconst 1).symm, fun _ => (rx_sm_iadd).symm, fun _ => (rx_sm_iaload).symm, rx_nz rfl, fun _ => (rx_sm_pop).symm, fun _ => (rx_sm_goto 500).symm, trivial⟩
theorem rxLh_57 : ∀ x ∈ rxL_57, x.2.1 = 0 → x.2.2.1 = rx_sem x.2.2.2.1 := rx_Hl_ok (l := rxL_57) ⟨fun _ => (rx_sm_aload_n 1).symm, fun _ => (rx_sm_aload_n 0).symm, fun _ => (rx_sm_iload_n 3).symm, fun _ => (rx_sm_iconst 1).symm, fun _ => (rx_sm_iadd).symm, fun _ => (rx_sm_iaload).symm, fun _ => (rx_sm_aload_n 0).symm, fun _ => (rx_sm_iload_n 3).symm, fun _ => (rx_sm_iconst 2).symm, fun _ => (rx_sm_iadd).symm, fun _ => (rx_sm_iaload).symm, rx_nz rfl, fun _ => (rx_sm_pop).symm, fun _ => (rx_sm_aload_n 2).symm, trivial⟩
theorem rxLh_58 : ∀ x ∈ rxL_58, x.2.1 = 0 → x.2.2.1 = rx_sem x.2.2.2.1 := rx_Hl_ok (l := rxL_58) ⟨fun _ => (rx_sm_aload_n 0).symm, fun _ => (rx_sm_iload_n 3).symm, fun _ => (rx_sm_iconst 1).symm, fun _ => (rx_sm_iadd).symm, fun _ => (rx_sm_iaload).symm, fun _ => (rx_sm_aload_n 0).symm, fun _ => (rx_sm_iload_n 3).symm, fun _ => (rx_sm_iconst 2).symm, fun _ => (rx_sm_iadd).symm, fun _ => (rx_sm_iaload).symm, rx_nz rfl, fun _ => (rx_sm_pop).symm, fun _ => (rx_sm_goto 467).symm, trivial⟩
theorem rxLh_59 : ∀ x ∈ rxL_59, x.2.1 = 0 → x.2.2.1 = rx_sem x.2.2.2.1 := rx_Hl_ok (l := rxL_59) ⟨fun _ => (rx_sm_aload_n 1).symm, rx_nz rfl, fun _ => (rx_sm_pop).symm, fun _ => (rx_sm_aload_n 2).symm, rx_nz rfl, fun _ => (rx_sm_pop).symm, fun _ => (rx_sm_goto 454).symm, fun _ => (rx_sm_aload_n 1).symm, fun _ => (rx_sm_aload_n 0).symm, trivial⟩
theorem rxLh_60 : ∀ x ∈ rxL_60, x.2.1 = 0 → x.2.2.1 = rx_sem x.2.2.2.1 := rx_Hl_ok (l := rxL_60) ⟨fun _ => (rx_sm_iload_n 3).symm, fun _ => (rx_sm_iconst 1).symm, fun _ => (rx_sm_iadd).symm, fun _ => (rx_sm_iaload).symm, rx_nz rfl, fun _ => (rx_sm_pop).symm, fun _ => (rx_sm_aload_n 2).symm, fun _ => (rx_sm_aload_n 0).symm, fun _ => (rx_sm_iload_n 3).symm, fun _ => (rx_sm_iconst 1).symm, fun _ => (rx_sm_iadd).symm, fun _ => (rx_sm_iaload).symm, rx_nz rfl, trivial⟩
theorem rxLh_61 : ∀ x ∈ rxL_61, x.2.1 = 0 → x.2.2.1 = rx_sem x.2.2.2.1 := rx_Hl_ok (l := rxL_61) ⟨fun _ => (rx_sm_pop).symm, fun _ => (rx_sm_goto 431).symm, fun _ => (rx_sm_aload_n 1).symm, fun _ => (rx_sm_aload_n 0).symm, fun _ => (rx_sm_iload_n 3).symm, fun _ => (rx_sm_iconst 1).symm, fun _ => (rx_sm_iadd).symm, fun _ => (rx_sm_iaload).symm, fun _ => (rx_sm_aload_n 0).symm, fun _ => (rx_sm_iload_n 3).symm, fun _ => (rx_sm_iconst 2).symm, fun _ => (rx_sm_iadd).symm, fun _ => (rx_sm_iaload).symm, trivial⟩
theorem rxLh_62 : ∀ x ∈ rxL_62, x.2.1 = 0 → x.2.2.1 = rx_sem x.2.2.2.1 := rx_Hl_ok (l := rxL_62) ⟨rx_nz rfl, fun _ => (rx_sm_pop).symm, fun _ => (rx_sm_aload_n 2).symm, fun _ => (rx_sm_aload_n 0).symm, fun _ => (rx_sm_iload_n 3).symm, fun _ => (rx_sm_iconst 1).symm, fun _ => (rx_sm_iadd).symm, fun _ => (rx_sm_iaload).symm, fun _ => (rx_sm_aload_n 0).symm, fun _ => (rx_sm_iload_n 3).symm, fun _ => (rx_sm_iconst 2).symm, fun _ => (rx_sm_iadd).symm, fun _ => (rx_sm_iaload).symm, rx_nz rfl, trivial⟩
theorem rxLh_63 : ∀ x ∈ rxL_63, x.2.1 = 0 → x.2.2.1 = rx_sem x.2.2.2.1 := rx_Hl_ok (l := rxL_63) ⟨fun _ => (rx_sm_pop).symm, fun _ => (rx_sm_goto 398).symm, fun _ => (rx_sm_aload_n 1).symm, fun _ => (rx_sm_aload_n 0).symm, fun _ => (rx_sm_iload_n 3).symm, fun _ => (rx_sm_iconst 1).symm, fun _ => (rx_sm_iadd).symm, fun _ => (rx_sm_iaload).symm, fun _ => (rx_sm_aload_n 0).symm, fun _ => (rx_sm_iload_n 3).symm, fun _ => (rx_sm_iconst 2).symm, fun _ => (rx_sm_iadd).symm, trivial⟩
theorem rxLh_64 : ∀ x ∈ rxL_64, x.2.1 = 0 → x.2.2.1 = rx_sem x.2.2.2.1 := rx_Hl_ok (l := rxL_64) ⟨fun _ => (rx_sm_iaload).symm, rx_nz rfl, fun _ => (rx_sm_pop).symm, fun _ => (rx_sm_aload_n 2).symm, fun _ => (rx_sm_aload_n 0).symm, fun _ => (rx_sm_iload_n 3).symm, fun _ => (rx_sm_iconst 1).symm, fun _ => (rx_sm_iadd).symm, fun _ => (rx_sm_iaload).symm, fun _ => (rx_sm_aload_n 0).symm, fun _ => (rx_sm_iload_n 3).symm, fun _ => (rx_sm_iconst 2).symm, fun _ => (rx_sm_iadd).symm, fun _ => (rx_sm_iaload).symm, trivial⟩
theorem rxLh_65 : ∀ x ∈ rxL_65, x.2.1 = 0 → x.2.2.1 = rx_sem x.2.2.2.1 := rx_Hl_ok (l := rxL_65) ⟨rx_nz rfl, fun _ => (rx_sm_pop).symm, fun _ => (rx_sm_goto 365).symm, fun _ => (rx_sm_aload_n 1).symm, fun _ => (rx_sm_aload_n 0).symm, fun _ => (rx_sm_iload_n 3).symm, fun _ => (rx_sm_iconst 1).symm, fun _ => (rx_sm_iadd).symm, fun _ => (rx_sm_iaload).symm, fun _ => (rx_sm_aload_n 0).symm, fun _ => (rx_sm_iload_n 3).symm, fun _ => (rx_sm_iconst 2).symm, trivial⟩
theorem rxLh_66 : ∀ x ∈ rxL_66, x.2.1 = 0 → x.2.2.1 = rx_sem x.2.2.2.1 := rx_Hl_ok (l := rxL_66) ⟨fun _ => (rx_sm_iadd).symm, fun _ => (rx_sm_iaload).symm, rx_nz rfl, fun _ => (rx_sm_pop).symm, fun _ => (rx_sm_aload_n 2).symm, fun _ => (rx_sm_aload_n 0).symm, fun _ => (rx_sm_iload_n 3).symm, fun _ => (rx_sm_iconst 1).symm, fun _ => (rx_sm_iadd).symm, fun _ => (rx_sm_iaload).symm, fun _ => (rx_sm_aload_n 0).symm, fun _ => (rx_sm_iload_n 3).symm, fun _ => (rx_sm_iconst 2).symm, fun _ => (rx_sm_iadd).symm, trivial⟩
theorem rxLh_67 : ∀ x ∈ rxL_67, x.2.1 = 0 → x.2.2.1 = rx_sem x.2.2.2.1 := rx_Hl_ok (l := rxL_67) ⟨fun _ => (rx_sm_iaload).symm, rx_nz rfl, fun _ => (rx_sm_pop).symm, fun _ => (rx_sm_goto 332).symm, fun _ => (rx_sm_aload_n 1).symm, fun _ => (rx_sm_aload_n 0).symm, fun _ => (rx_sm_iload_n 3).symm, fun _ => (rx_sm_iconst 1).symm, fun _ => (rx_sm_iadd).symm, fun _ => (rx_sm_iaload).symm, rx_nz rfl, trivial⟩
theorem rxLh_68 : ∀ x ∈ rxL_68, x.2.1 = 0 → x.2.2.1 = rx_sem x.2.2.2.1 := rx_Hl_ok (l := rxL_68) ⟨fun _ => (rx_sm_pop).symm, fun _ => (rx_sm_aload_n 2).symm, fun _ => (rx_sm_aload_n 0).symm, fun _ => (rx_sm_iload_n 3).symm, fun _ => (rx_sm_iconst 1).symm, fun _ => (rx_sm_iadd).symm, fun _ => (rx_sm_iaload).symm, rx_nz rfl, fun _ => (rx_sm_pop).symm, fun _ => (rx_sm_goto 309).symm, fun _ => (rx_sm_aload_n 1).symm, trivial⟩
theorem rxLh_69 : ∀ x ∈ rxL_69, x.2.1 = 0 → x.2.2.1 = rx_sem x.2.2.2.1 := rx_Hl_ok (l := rxL_69) ⟨fun _ => (rx_sm_aload_n 0).symm, fun _ => (rx_sm_iload_n 3).symm, fun _ => (rx_sm_iconst 1).symm, fun _ => (rx_sm_iadd).symm, fun _ => (rx_sm_iaload).symm, fun _ => (rx_sm_aload_n 0).symm, fun _ => (rx_sm_iload_n 3).symm, fun _ => (rx_sm_iconst 2).symm, fun _ => (rx_sm_iadd).symm, fun _ => (rx_sm_iaload).symm, rx_nz rfl, fun _ => (rx_sm_pop).symm, fun _ => (rx_sm_aload_n 2).symm, fun _ => (rx_sm_aload_n 0).symm, trivial⟩
theorem rxLh_70 : ∀ x ∈ rxL_70, x.2.1 = 0 → x.2.2.1 = rx_sem x.2.2.2.1 := rx_Hl_ok (l := rxL_70) ⟨fun _ => (rx_sm_iload_n 3).symm, fun _ => (rx_sm_iconst 1).symm, fun _ => (rx_sm_iadd).symm, fun _ => (rx_sm_iaload).symm, fun _ => (rx_sm_aload_n 0).symm, fun _ => (rx_sm_iload_n 3).symm, fun _ => (rx_sm_iconst 2).symm, fun _ => (rx_sm_iadd).symm, fun _ => (rx_sm_iaload).symm, rx_nz rfl, fun _ => (rx_sm_pop).symm, fun _ => (rx_sm_goto 276).symm, trivial⟩
theorem rxLh_71 : ∀ x ∈ rxL_71, x.2.1 = 0 → x.2.2.1 = rx_sem x.2.2.2.1 := rx_Hl_ok (l := rxL_71) ⟨fun _ => (rx_sm_aload_n 1).symm, rx_nz rfl, fun _ => (rx_sm_pop).symm, fun _ => (rx_sm_aload_n 2).symm, rx_nz rfl, fun _ => (rx_sm_pop).symm, fun _ => (rx_sm_goto 263).symm, fun _ => (rx_sm_aload_n 1).symm, fun _ => (rx_sm_aload_n 0).symm, fun _ => (rx_sm_iload_n 3).symm, trivial⟩
theorem rxLh_72 : ∀ x ∈ rxL_72, x.2.1 = 0 → x.2.2.1 = rx_sem x.2.2.2.1 := rx_Hl_ok (l := rxL_72) ⟨fun _ => (rx_sm_iconst 1).symm, fun _ => (rx_sm_iadd).symm, fun _ => (rx_sm_iaload).symm, fun _ => (rx_sm_aload_n 0).symm, fun _ => (rx_sm_iload_n 3).symm, fun _ => (rx_sm_iconst 2).symm, fun _ => (rx_sm_iadd).symm, fun _ => (rx_sm_iaload).symm, rx_nz rfl, fun _ => (rx_sm_pop).symm, fun _ => (rx_sm_aload_n 2).symm, fun _ => (rx_sm_aload_n 0).symm, fun _ => (rx_sm_iload_n 3).symm, fun _ => (rx_sm_iconst 1).symm, trivial⟩
theorem rxLh_73 : ∀ x ∈ rxL_73, x.2.1 = 0 → x.2.2.1 = rx_sem x.2.2.2.1 := rx_Hl_ok (l := rxL_73) ⟨fun _ => (rx_sm_iadd).symm, fun _ => (rx_sm_iaload).symm, fun _ => (rx_sm_aload_n 0).symm, fun _ => (rx_sm_iload_n 3).symm, fun _ => (rx_sm_iconst 2).symm, fun _ => (rx_sm_iadd).symm, fun _ => (rx_sm_iaload).symm, rx_nz rfl, fun _ => (rx_sm_pop).symm, fun _ => (rx_sm_goto 230).symm, fun _ => (rx_sm_aload_n 1).symm, fun _ => (rx_sm_aload_n 0).symm, trivial⟩
theorem rxLh_74 : ∀ x ∈ rxL_74, x.2.1 = 0 → x.2.2.1 = rx_sem x.2.2.2.1 := rx_Hl_ok (l := rxL_74) ⟨fun _ => (rx_sm_iload_n 3).symm, fun _ => (rx_sm_iconst 1).symm, fun _ => (rx_sm_iadd).symm, fun _ => (rx_sm_iaload).symm, fun _ => (rx_sm_aload_n 0).symm, fun _ => (rx_sm_iload_n 3).symm, fun _ => (rx_sm_iconst 2).symm, fun _ => (rx_sm_iadd).symm, fun _ => (rx_sm_iaload).symm, fun _ => (rx_sm_aload_n 0).symm, fun _ => (rx_sm_iload_n 3).symm, fun _ => (rx_sm_iconst 3).symm, fun _ => (rx_sm_iadd).symm, fun _ => (rx_sm_iaload).symm, rx_nz rfl, trivial⟩
theorem rxLh_75 : ∀ x ∈ rxL_75, x.2.1 = 0 → x.2.2.1 = rx_sem x.2.2.2.1 := rx_Hl_ok (l := rxL_75) ⟨fun _ => (rx_sm_pop).symm, fun _ => (rx_sm_aload_n 2).symm, fun _ => (rx_sm_aload_n 0).symm, fun _ => (rx_sm_iload_n 3).symm, fun _ => (rx_sm_iconst 1).symm, fun _ => (rx_sm_iadd).symm, fun _ => (rx_sm_iaload).symm, fun _ => (rx_sm_aload_n 0).symm, fun _ => (rx_sm_iload_n 3).symm, fun _ => (rx_sm_iconst 2).symm, fun _ => (rx_sm_iadd).symm, fun _ => (rx_sm_iaload).symm, fun _ => (rx_sm_aload_n 0).symm, fun _ => (rx_sm_iload_n 3).symm, fun _ => (rx_sm_iconst 3).symm, trivial⟩
theorem rxLh_76 : ∀ x ∈ rxL_76, x.2.1 = 0 → x.2.2.1 = rx_sem x.2.2.2.1 := rx_Hl_ok (l := rxL_76) ⟨fun _ => (rx_sm_iadd).symm, fun _ => (rx_sm_iaload).symm, rx_nz rfl, fun _ => (rx_sm_pop).symm, fun _ => (rx_sm_goto 187).symm, fun _ => (rx_sm_aload_n 1).symm, rx_nz rfl, fun _ => (rx_sm_pop).symm, fun _ => (rx_sm_aload_n 2).symm, rx_nz rfl, trivial⟩
theorem rxLh_77 : ∀ x ∈ rxL_77, x.2.1 = 0 → x.2.2.1 = rx_sem x.2.2.2.1 := rx_Hl_ok (l := rxL_77) ⟨fun _ => (rx_sm_pop).symm, fun _ => (rx_sm_goto 174).symm, fun _ => (rx_sm_aload_n 1).symm, fun _ => (rx_sm_aload_n 0).symm, fun _ => (rx_sm_iload_n 3).symm, fun _ => (rx_sm_iconst 1).symm, fun _ => (rx_sm_iadd).symm, fun _ => (rx_sm_iaload).symm, fun _ => (rx_sm_aload_n 0).symm, fun _ => (rx_sm_iload_n 3).symm, fun _ => (rx_sm_iconst 2).symm, fun _ => (rx_sm_iadd).symm, trivial⟩
theorem rxLh_78 : ∀ x ∈ rxL_78, x.2.1 = 0 → x.2.2.1 = rx_sem x.2.2.2.1 := rx_Hl_ok (l := rxL_78) ⟨fun _ => (rx_sm_iaload).symm, fun _ => (rx_sm_aload_n 0).symm, fun _ => (rx_sm_iload_n 3).symm, fun _ => (rx_sm_iconst 3).symm, fun _ => (rx_sm_iadd).symm, fun _ => (rx_sm_iaload).symm, rx_nz rfl, fun _ => (rx_sm_pop).symm, fun _ => (rx_sm_aload_n 2).symm, fun _ => (rx_sm_aload_n 0).symm, fun _ => (rx_sm_iload_n 3).symm, fun _ => (rx_sm_iconst 1).symm, fun _ => (rx_sm_iadd).symm, fun _ => (rx_sm_iaload).symm, trivial⟩
theorem rxLh_79 : ∀ x ∈ rxL_79, x.2.1 = 0 → x.2.2.1 = rx_sem x.2.2.2.1 := rx_Hl_ok (l := rxL_79) ⟨fun _ => (rx_sm_aload_n 0).symm, fun _ => (rx_sm_iload_n 3).symm, fun _ => (rx_sm_iconst 2).symm, fun _ => (rx_sm_iadd).symm, fun _ => (rx_sm_iaload).symm, fun _ => (rx_sm_aload_n 0).symm, fun _ => (rx_sm_iload_n 3).symm, fun _ => (rx_sm_iconst 3).symm, fun _ => (rx_sm_iadd).symm, fun _ => (rx_sm_iaload).symm, rx_nz rfl, fun _ => (rx_sm_pop).symm, fun _ => (rx_sm_goto 131).symm, trivial⟩
theorem rxLh_80 : ∀ x ∈ rxL_80, x.2.1 = 0 → x.2.2.1 = rx_sem x.2.2.2.1 := rx_Hl_ok (l := rxL_80) ⟨fun _ => (rx_sm_aload_n 1).symm, fun _ => (rx_sm_aload_n 0).symm, fun _ => (rx_sm_iload_n 3).symm, fun _ => (rx_sm_iconst 1).symm, fun _ => (rx_sm_iadd).symm, fun _ => (rx_sm_iaload).symm, fun _ => (rx_sm_aload_n 0).symm, fun _ => (rx_sm_iload_n 3).symm, fun _ => (rx_sm_iconst 2).symm, fun _ => (rx_sm_iadd).symm, fun _ => (rx_sm_iaload).symm, rx_nz rfl, fun _ => (rx_sm_pop).symm, trivial⟩
theorem rxLh_81 : ∀ x ∈ rxL_81, x.2.1 = 0 → x.2.2.1 = rx_sem x.2.2.2.1 := rx_Hl_ok (l := rxL_81) ⟨fun _ => (rx_sm_aload_n 2).symm, fun _ => (rx_sm_aload_n 0).symm, fun _ => (rx_sm_iload_n 3).symm, fun _ => (rx_sm_iconst 1).symm, fun _ => (rx_sm_iadd).symm, fun _ => (rx_sm_iaload).symm, fun _ => (rx_sm_aload_n 0).symm, fun _ => (rx_sm_iload_n 3).symm, fun _ => (rx_sm_iconst 2).symm, fun _ => (rx_sm_iadd).symm, fun _ => (rx_sm_iaload).symm, rx_nz rfl, fun _ => (rx_sm_pop).symm, fun _ => (rx_sm_goto 98).symm, trivial⟩
theorem rxLh_82 : ∀ x ∈ rxL_82, x.2.1 = 0 → x.2.2.1 = rx_sem x.2.2.2.1 := rx_Hl_ok (l := rxL_82) ⟨fun _ => (rx_sm_aload_n 1).symm, rx_nz rfl, fun _ => (rx_sm_pop).symm, fun _ => (rx_sm_aload_n 2).symm, rx_nz rfl, fun _ => (rx_sm_pop).symm, fun _ => (rx_sm_goto 85).symm, fun _ => (rx_sm_aload_n 1).symm, trivial⟩
theorem rxLh_83 : ∀ x ∈ rxL_83, x.2.1 = 0 → x.2.2.1 = rx_sem x.2.2.2.1 := rx_Hl_ok (l := rxL_83) ⟨rx_nz rfl, fun _ => (rx_sm_pop).symm, fun _ => (rx_sm_aload_n 2).symm, rx_nz rfl, fun _ => (rx_sm_pop).symm, fun _ => (rx_sm_goto 72).symm, fun _ => (rx_sm_aload_n 1).symm, fun _ => (rx_sm_aload_n 0).symm, fun _ => (rx_sm_iload_n 3).symm, fun _ => (rx_sm_iconst 1).symm, trivial⟩
theorem rxLh_84 : ∀ x ∈ rxL_84, x.2.1 = 0 → x.2.2.1 = rx_sem x.2.2.2.1 := rx_Hl_ok (l := rxL_84) ⟨fun _ => (rx_sm_iadd).symm, fun _ => (rx_sm_iaload).symm, rx_nz rfl, fun _ => (rx_sm_pop).symm, fun _ => (rx_sm_aload_n 2).symm, fun _ => (rx_sm_aload_n 0).symm, fun _ => (rx_sm_iload_n 3).symm, fun _ => (rx_sm_iconst 1).symm, fun _ => (rx_sm_iadd).symm, fun _ => (rx_sm_iaload).symm, rx_nz rfl, fun _ => (rx_sm_pop).symm, trivial⟩
theorem rxLh_85 : ∀ x ∈ rxL_85, x.2.1 = 0 → x.2.2.1 = rx_sem x.2.2.2.1 := rx_Hl_ok (l := rxL_85) ⟨fun _ => (rx_sm_goto 49).symm, fun _ => (rx_sm_aload_n 1).symm, fun _ => (rx_sm_aload_n 0).symm, fun _ => (rx_sm_iload_n 3).symm, fun _ => (rx_sm_iconst 1).symm, fun _ => (rx_sm_iadd).symm, fun _ => (rx_sm_iaload).symm, rx_nz rfl, fun _ => (rx_sm_pop).symm, fun _ => (rx_sm_aload_n 2).symm, fun _ => (rx_sm_aload_n 0).symm, fun _ => (rx_sm_iload_n 3).symm, trivial⟩
theorem rxLh_86 : ∀ x ∈ rxL_86, x.2.1 = 0 → x.2.2.1 = rx_sem x.2.2.2.1 := rx_Hl_ok (l := rxL_86) ⟨fun _ => (rx_sm_iconst 1).symm, fun _ => (rx_sm_iadd).symm, fun _ => (rx_sm_iaload).symm, rx_nz rfl, fun _ => (rx_sm_pop).symm, fun _ => (rx_sm_goto 26).symm, fun _ => (rx_sm_aload_n 1).symm, fun _ => (rx_sm_aload_n 0).symm, fun _ => (rx_sm_iload_n 3).symm, fun _ => (rx_sm_iconst 1).symm, fun _ => (rx_sm_iadd).symm, fun _ => (rx_sm_iaload).symm, trivial⟩
theorem rxLh_87 : ∀ x ∈ rxL_87, x.2.1 = 0 → x.2.2.1 = rx_sem x.2.2.2.1 := rx_Hl_ok (l := rxL_87) ⟨rx_nz rfl, fun _ => (rx_sm_pop).symm, fun _ => (rx_sm_aload_n 2).symm, fun _ => (rx_sm_aload_n 0).symm, fun _ => (rx_sm_iload_n 3).symm, fun _ => (rx_sm_iconst 1).symm, fun _ => (rx_sm_iadd).symm, fun _ => (rx_sm_iaload).symm, rx_nz rfl, fun _ => (rx_sm_pop).symm, fun _ => (rx_sm_goto 3).symm, trivial⟩
theorem rxLh_88 : ∀ x ∈ rxL_88, x.2.1 = 0 → x.2.2.1 = rx_sem x.2.2.2.1 := rx_Hl_ok (l := rxL_88) ⟨fun _ => (rx_sm_iinc 3 6).symm, fun _ => (rx_sm_goto (-1394)).symm, fun _ => (rx_sm_iconst 1).symm, rx_nz rfl, trivial⟩
set_option maxRecDepth 20000 in
theorem rxh_332 : ∀ ch ∈ rx_cd rxm_332, ∀ x ∈ ch, x.2.1 = 0 → x.2.2.1 = rx_sem x.2.2.2.1 := List.forall_mem_cons.mpr ⟨rxLh_0, List.forall_mem_cons.mpr ⟨rxLh_1, List.forall_mem_cons.mpr ⟨rxLh_2, List.forall_mem_cons.mpr ⟨rxLh_3, List.forall_mem_cons.mpr ⟨rxLh_4, List.forall_mem_cons.mpr ⟨rxLh_5, List.forall_mem_cons.mpr ⟨rxLh_6, List.forall_mem_cons.mpr ⟨rxLh_7, List.forall_mem_cons.mpr ⟨rxLh_8, List.forall_mem_cons.mpr ⟨rxLh_9, List.forall_mem_cons.mpr ⟨rxLh_10, List.forall_mem_cons.mpr ⟨rxLh_11, List.forall_mem_cons.mpr ⟨rxLh_12, List.forall_mem_cons.mpr ⟨rxLh_13, List.forall_mem_cons.mpr ⟨rxLh_14, List.forall_mem_cons.mpr ⟨rxLh_15, List.forall_mem_cons.mpr ⟨rxLh_16, List.forall_mem_cons.mpr ⟨rxLh_17, List.forall_mem_cons.mpr ⟨rxLh_18, List.forall_mem_cons.mpr ⟨rxLh_19, List.forall_mem_cons.mpr ⟨rxLh_20, List.forall_mem_cons.mpr ⟨rxLh_21, List.forall_mem_cons.mpr ⟨rxLh_22, List.forall_mem_cons.mpr ⟨rxLh_23, List.forall_mem_cons.mpr ⟨rxLh_24, List.forall_mem_cons.mpr ⟨rxLh_25, List.forall_mem_cons.mpr ⟨rxLh_26, List.forall_mem_cons.mpr ⟨rxLh_27, List.forall_mem_cons.mpr ⟨rxLh_28, List.forall_mem_cons.mpr ⟨rxLh_29, List.forall_mem_cons.mpr ⟨rxLh_30, List.forall_mem_cons.mpr ⟨rxLh_31, List.forall_mem_cons.mpr ⟨rxLh_32, List.forall_mem_cons.mpr ⟨rxLh_33, List.forall_mem_cons.mpr ⟨rxLh_34, List.forall_mem_cons.mpr ⟨rxLh_35, List.forall_mem_cons.mpr ⟨rxLh_36, List.forall_mem_cons.mpr ⟨rxLh_37, List.forall_mem_cons.mpr ⟨rxLh_38, List.forall_mem_cons.mpr ⟨rxLh_39, List.forall_mem_cons.mpr ⟨rxLh_40, List.forall_mem_cons.mpr ⟨rxLh_41, List.forall_mem_cons.mpr ⟨rxLh_42, List.forall_mem_cons.mpr ⟨rxLh_43, List.forall_mem_cons.mpr ⟨rxLh_44, List.forall_mem_cons.mpr ⟨rxLh_45, List.forall_mem_cons.mpr ⟨rxLh_46, List.forall_mem_cons.mpr ⟨rxLh_47, List.forall_mem_cons.mpr ⟨rxLh_48, List.forall_mem_cons.mpr ⟨rxLh_49, List.forall_mem_cons.mpr ⟨rxLh_50, List.forall_mem_cons.mpr ⟨rxLh_51, List.forall_mem_cons.mpr ⟨rxLh_52, List.forall_mem_cons.mpr ⟨rxLh_53, List.forall_mem_cons.mpr ⟨rxLh_54, List.forall_mem_cons.mpr ⟨rxLh_55, List.forall_mem_cons.mpr ⟨rxLh_56, List.forall_mem_cons.mpr ⟨rxLh_57, List.forall_mem_cons.mpr ⟨rxLh_58, List.forall_mem_cons.mpr ⟨rxLh_59, List.forall_mem_cons.mpr ⟨rxLh_60, List.forall_mem_cons.mpr ⟨rxLh_61, List.forall_mem_cons.mpr ⟨rxLh_62, List.forall_mem_cons.mpr ⟨rxLh_63, List.forall_mem_cons.mpr ⟨rxLh_64, List.forall_mem_cons.mpr ⟨rxLh_65, List.forall_mem_cons.mpr ⟨rxLh_66, List.forall_mem_cons.mpr ⟨rxLh_67, List.forall_mem_cons.mpr ⟨rxLh_68, List.forall_mem_cons.mpr ⟨rxLh_69, List.forall_mem_cons.mpr ⟨rxLh_70, List.forall_mem_cons.mpr ⟨rxLh_71, List.forall_mem_cons.mpr ⟨rxLh_72, List.forall_mem_cons.mpr ⟨rxLh_73, List.forall_mem_cons.mpr ⟨rxLh_74, List.forall_mem_cons.mpr ⟨rxLh_75, List.forall_mem_cons.mpr ⟨rxLh_76, List.forall_mem_cons.mpr ⟨rxLh_77, List.forall_mem_cons.mpr ⟨rxLh_78, List.forall_mem_cons.mpr ⟨rxLh_79, List.forall_mem_cons.mpr ⟨rxLh_80, List.forall_mem_cons.mpr ⟨rxLh_81, List.forall_mem_cons.mpr ⟨rxLh_82, List.forall_mem_cons.mpr ⟨rxLh_83, List.forall_mem_cons.mpr ⟨rxLh_84, List.forall_mem_cons.mpr ⟨rxLh_85, List.forall_mem_cons.mpr ⟨rxLh_86, List.forall_mem_cons.mpr ⟨rxLh_87, List.forall_mem_cons.mpr ⟨rxLh_88, fun _ h => absurd h List.not_mem_nil⟩⟩⟩⟩⟩⟩⟩⟩⟩⟩⟩⟩⟩⟩⟩⟩⟩⟩⟩⟩⟩⟩⟩⟩⟩⟩⟩⟩⟩⟩⟩⟩⟩⟩⟩⟩⟩⟩⟩⟩⟩⟩⟩⟩⟩⟩⟩⟩⟩⟩⟩⟩⟩⟩⟩⟩⟩⟩⟩⟩⟩⟩⟩⟩⟩⟩⟩⟩⟩⟩⟩⟩⟩⟩⟩⟩⟩⟩⟩⟩⟩⟩⟩⟩⟩⟩⟩⟩⟩
theorem rxLk_0 : rx_cmA rx_X rx_P rxm_332 rxL_0 = true := by decide +kernel
theorem rxLk_1 : rx_cmA rx_X rx_P rxm_332 rxL_1 = true := by decide +kernel
theorem rxLk_2 : rx_cmA rx_X rx_P rxm_332 rxL_2 = true := by decide +kernel
theorem rxLk_3 : rx_cmA rx_X rx_P rxm_332 rxL_3 = true := by decide +kernel
theorem rxLk_4 : rx_cmA rx_X rx_P rxm_332 rxL_4 = true := by decide +kernel
theorem rxLk_5 : rx_cmA rx_X rx_P rxm_332 rxL_5 = true := by decide +kernel
theorem rxLk_6 : rx_cmA rx_X rx_P rxm_332 rxL_6 = true := by decide +kernel
theorem rxLk_7 : rx_cmA rx_X rx_P rxm_332 rxL_7 = true := by decide +kernel
theorem rxLk_8 : rx_cmA rx_X rx_P rxm_332 rxL_8 = true := by decide +kernel
theorem rxLk_9 : rx_cmA rx_X rx_P rxm_332 rxL_9 = true := by decide +kernel
theorem rxLk_10 : rx_cmA rx_X rx_P rxm_332 rxL_10 = true := by decide +kernel
theorem rxLk_11 : rx_cmA rx_X rx_P rxm_332 rxL_11 = true := by decide +kernel
theorem rxLk_12 : rx_cmA rx_X rx_P rxm_332 rxL_12 = true := by decide +kernel
theorem rxLk_13 : rx_cmA rx_X rx_P rxm_332 rxL_13 = true := by decide +kernel
theorem rxLk_14 : rx_cmA rx_X rx_P rxm_332 rxL_14 = true := by decide +kernel
theorem rxLk_15 : rx_cmA rx_X rx_P rxm_332 rxL_15 = true := by decide +kernel
theorem rxLk_16 : rx_cmA rx_X rx_P rxm_332 rxL_16 = true := by decide +kernel
theorem rxLk_17 : rx_cmA rx_X rx_P rxm_332 rxL_17 = true := by decide +kernel
theorem rxLk_18 : rx_cmA rx_X rx_P rxm_332 rxL_18 = true := by decide +kernel
theorem rxLk_19 : rx_cmA rx_X rx_P rxm_332 rxL_19 = true := by decide +kernel
theorem rxLk_20 : rx_cmA rx_X rx_P rxm_332 rxL_20 = true := by decide +kernel
theorem rxLk_21 : rx_cmA rx_X rx_P rxm_332 rxL_21 = true := by decide +kernel
theorem rxLk_22 : rx_cmA rx_X rx_P rxm_332 rxL_22 = true := by decide +kernel
theorem rxLk_23 : rx_cmA rx_X rx_P rxm_332 rxL_23 = true := by decide +kernel
theorem rxLk_24 : rx_cmA rx_X rx_P rxm_332 rxL_24 = true := by decide +kernel
theorem rxLk_25 : rx_cmA rx_X rx_P rxm_332 rxL_25 = true := by decide +kernel
theorem rxLk_26 : rx_cmA rx_X rx_P rxm_332 rxL_26 = true := by decide +kernel
theorem rxLk_27 : rx_cmA rx_X rx_P rxm_332 rxL_27 = true := by decide +kernel
theorem rxLk_28 : rx_cmA rx_X rx_P rxm_332 rxL_28 = true := by decide +kernel
theorem rxLk_29 : rx_cmA rx_X rx_P rxm_332 rxL_29 = true := by decide +kernel
theorem rxLk_30 : rx_cmA rx_X rx_P rxm_332 rxL_30 = true := by decide +kernel
theorem rxLk_31 : rx_cmA rx_X rx_P rxm_332 rxL_31 = true := by decide +kernel
theorem rxLk_32 : rx_cmA rx_X rx_P rxm_332 rxL_32 = true := by decide +kernel
theorem rxLk_33 : rx_cmA rx_X rx_P rxm_332 rxL_33 = true := by decide +kernel
theorem rxLk_34 : rx_cmA rx_X rx_P rxm_332 rxL_34 = true := by decide +kernel
theorem rxLk_35 : rx_cmA rx_X rx_P rxm_332 rxL_35 = true := by decide +kernel
theorem rxLk_36 : rx_cmA rx_X rx_P rxm_332 rxL_36 = true := by decide +kernel
theorem rxLk_37 : rx_cmA rx_X rx_P rxm_332 rxL_37 = true := by decide +kernel
theorem rxLk_38 : rx_cmA rx_X rx_P rxm_332 rxL_38 = true := by decide +kernel
theorem rxLk_39 : rx_cmA rx_X rx_P rxm_332 rxL_39 = true := by decide +kernel
theorem rxLk_40 : rx_cmA rx_X rx_P rxm_332 rxL_40 = true := by decide +kernel
theorem rxLk_41 : rx_cmA rx_X rx_P rxm_332 rxL_41 = true := by decide +kernel
theorem rxLk_42 : rx_cmA rx_X rx_P rxm_332 rxL_42 = true := by decide +kernel
theorem rxLk_43 : rx_cmA rx_X rx_P rxm_332 rxL_43 = true := by decide +kernel
theorem rxLk_44 : rx_cmA rx_X rx_P rxm_332 rxL_44 = true := by decide +kernel
theorem rxLk_45 : rx_cmA rx_X rx_P rxm_332 rxL_45 = true := by decide +kernel
theorem rxLk_46 : rx_cmA rx_X rx_P rxm_332 rxL_46 = true := by decide +kernel
theorem rxLk_47 : rx_cmA rx_X rx_P rxm_332 rxL_47 = true := by decide +kernel
theorem rxLk_48 : rx_cmA rx_X rx_P rxm_332 rxL_48 = true := by decide +kernel
theorem rxLk_49 : rx_cmA rx_X rx_P rxm_332 rxL_49 = true := by decide +kernel
theorem rxLk_50 : rx_cmA rx_X rx_P rxm_332 rxL_50 = true := by decide +kernel
theorem rxLk_51 : rx_cmA rx_X rx_P rxm_332 rxL_51 = true := by decide +kernel
theorem rxLk_52 : rx_cmA rx_X rx_P rxm_332 rxL_52 = true := by decide +kernel
theorem rxLk_53 : rx_cmA rx_X rx_P rxm_332 rxL_53 = true := by decide +kernel
theorem rxLk_54 : rx_cmA rx_X rx_P rxm_332 rxL_54 = true := by decide +kernel
theorem rxLk_55 : rx_cmA rx_X rx_P rxm_332 rxL_55 = true := by decide +kernel
theorem rxLk_56 : rx_cmA rx_X rx_P rxm_332 rxL_56 = true := by decide +kernel
theorem rxLk_57 : rx_cmA rx_X rx_P rxm_332 rxL_57 = true := by decide +kernel
theorem rxLk_58 : rx_cmA rx_X rx_P rxm_332 rxL_58 = true := by decide +kernel
theorem rxLk_59 : rx_cmA rx_X rx_P rxm_332 rxL_59 = true := by decide +kernel
theorem rxLk_60 : rx_cmA rx_X rx_P rxm_332 rxL_60 = true := by decide +kernel
theorem rxLk_61 : rx_cmA rx_X rx_P rxm_332 rxL_61 = true := by decide +kernel
theorem rxLk_62 : rx_cmA rx_X rx_P rxm_332 rxL_62 = true := by decide +kernel
theorem rxLk_63 : rx_cmA rx_X rx_P rxm_332 rxL_63 = true := by decide +kernel
theorem rxLk_64 : rx_cmA rx_X rx_P rxm_332 rxL_64 = true := by decide +kernel
theorem rxLk_65 : rx_cmA rx_X rx_P rxm_332 rxL_65 = true := by decide +kernel
theorem rxLk_66 : rx_cmA rx_X rx_P rxm_332 rxL_66 = true := by decide +kernel
theorem rxLk_67 : rx_cmA rx_X rx_P rxm_332 rxL_67 = true := by decide +kernel
theorem rxLk_68 : rx_cmA rx_X rx_P rxm_332 rxL_68 = true := by decide +kernel
theorem rxLk_69 : rx_cmA rx_X rx_P rxm_332 rxL_69 = true := by decide +kernel
theorem rxLk_70 : rx_cmA rx_X rx_P rxm_332 rxL_70 = true := by decide +kernel
theorem rxLk_71 : rx_cmA rx_X rx_P rxm_332 rxL_71 = true := by decide +kernel
theorem rxLk_72 : rx_cmA rx_X rx_P rxm_332 rxL_72 = true := by decide +kernel
theorem rxLk_73 : rx_cmA rx_X rx_P rxm_332 rxL_73 = true := by decide +kernel
theorem rxLk_74 : rx_cmA rx_X rx_P rxm_332 rxL_74 = true := by decide +kernel
theorem rxLk_75 : rx_cmA rx_X rx_P rxm_332 rxL_75 = true := by decide +kernel
theorem rxLk_76 : rx_cmA rx_X rx_P rxm_332 rxL_76 = true := by decide +kernel
theorem rxLk_77 : rx_cmA rx_X rx_P rxm_332 rxL_77 = true := by decide +kernel
theorem rxLk_78 : rx_cmA rx_X rx_P rxm_332 rxL_78 = true := by decide +kernel
theorem rxLk_79 : rx_cmA rx_X rx_P rxm_332 rxL_79 = true := by decide +kernel
theorem rxLk_80 : rx_cmA rx_X rx_P rxm_332 rxL_80 = true := by decide +kernel
theorem rxLk_81 : rx_cmA rx_X rx_P rxm_332 rxL_81 = true := by decide +kernel
theorem rxLk_82 : rx_cmA rx_X rx_P rxm_332 rxL_82 = true := by decide +kernel
theorem rxLk_83 : rx_cmA rx_X rx_P rxm_332 rxL_83 = true := by decide +kernel
theorem rxLk_84 : rx_cmA rx_X rx_P rxm_332 rxL_84 = true := by decide +kernel
theorem rxLk_85 : rx_cmA rx_X rx_P rxm_332 rxL_85 = true := by decide +kernel
theorem rxLk_86 : rx_cmA rx_X rx_P rxm_332 rxL_86 = true := by decide +kernel
theorem rxLk_87 : rx_cmA rx_X rx_P rxm_332 rxL_87 = true := by decide +kernel
theorem rxLk_88 : rx_cmA rx_X rx_P rxm_332 rxL_88 = true := by decide +kernel
set_option maxRecDepth 20000 in
theorem rxk_332 : rx_cm rx_X rx_P rxm_332 = true := List.all_eq_true.mpr (List.forall_mem_cons.mpr ⟨rxLk_0, List.forall_mem_cons.mpr ⟨rxLk_1, List.forall_mem_cons.mpr ⟨rxLk_2, List.forall_mem_cons.mpr ⟨rxLk_3, List.forall_mem_cons.mpr ⟨rxLk_4, List.forall_mem_cons.mpr ⟨rxLk_5, List.forall_mem_cons.mpr ⟨rxLk_6, List.forall_mem_cons.mpr ⟨rxLk_7, List.forall_mem_cons.mpr ⟨rxLk_8, List.forall_mem_cons.mpr ⟨rxLk_9, List.forall_mem_cons.mpr ⟨rxLk_10, List.forall_mem_cons.mpr ⟨rxLk_11, List.forall_mem_cons.mpr ⟨rxLk_12, List.forall_mem_cons.mpr ⟨rxLk_13, List.forall_mem_cons.mpr ⟨rxLk_14, List.forall_mem_cons.mpr ⟨rxLk_15, List.forall_mem_cons.mpr ⟨rxLk_16, List.forall_mem_cons.mpr ⟨rxLk_17, List.forall_mem_cons.mpr ⟨rxLk_18, List.forall_mem_cons.mpr ⟨rxLk_19, List.forall_mem_cons.mpr ⟨rxLk_20, List.forall_mem_cons.mpr ⟨rxLk_21, List.forall_mem_cons.mpr ⟨rxLk_22, List.forall_mem_cons.mpr ⟨rxLk_23, List.forall_mem_cons.mpr ⟨rxLk_24, List.forall_mem_cons.mpr ⟨rxLk_25, List.forall_mem_cons.mpr ⟨rxLk_26, List.forall_mem_cons.mpr ⟨rxLk_27, List.forall_mem_cons.mpr ⟨rxLk_28, List.forall_mem_cons.mpr ⟨rxLk_29, List.forall_mem_cons.mpr ⟨rxLk_30, List.forall_mem_cons.mpr ⟨rxLk_31, List.forall_mem_cons.mpr ⟨rxLk_32, List.forall_mem_cons.mpr ⟨rxLk_33, List.forall_mem_cons.mpr ⟨rxLk_34, List.forall_mem_cons.mpr ⟨rxLk_35, List.forall_mem_cons.mpr ⟨rxLk_36, List.forall_mem_cons.mpr ⟨rxLk_37, List.forall_mem_cons.mpr ⟨rxLk_38, List.forall_mem_cons.mpr ⟨rxLk_39, List.forall_mem_cons.mpr ⟨rxLk_40, List.forall_mem_cons.mpr ⟨rxLk_41, List.forall_mem_cons.mpr ⟨rxLk_42, List.forall_mem_cons.mpr ⟨rxLk_43, List.forall_mem_cons.mpr ⟨rxLk_44, List.forall_mem_cons.mpr ⟨rxLk_45, List.forall_mem_cons.mpr ⟨rxLk_46, List.forall_mem_cons.mpr ⟨rxLk_47, List.forall_mem_cons.mpr ⟨rxLk_48, List.forall_mem_cons.mpr ⟨rxLk_49, List.forall_mem_cons.mpr ⟨rxLk_50, List.forall_mem_cons.mpr ⟨rxLk_51, List.forall_mem_cons.mpr ⟨rxLk_52, List.forall_mem_cons.mpr ⟨rxLk_53, List.forall_mem_cons.mpr ⟨rxLk_54, List.forall_mem_cons.mpr ⟨rxLk_55, List.forall_mem_cons.mpr ⟨rxLk_56, List.forall_mem_cons.mpr ⟨rxLk_57, List.forall_mem_cons.mpr ⟨rxLk_58, List.forall_mem_cons.mpr ⟨rxLk_59, List.forall_mem_cons.mpr ⟨rxLk_60, List.forall_mem_cons.mpr ⟨rxLk_61, List.forall_mem_cons.mpr ⟨rxLk_62, List.forall_mem_cons.mpr ⟨rxLk_63, List.forall_mem_cons.mpr ⟨rxLk_64, List.forall_mem_cons.mpr ⟨rxLk_65, List.forall_mem_cons.mpr ⟨rxLk_66, List.forall_mem_cons.mpr ⟨rxLk_67, List.forall_mem_cons.mpr ⟨rxLk_68, List.forall_mem_cons.mpr ⟨rxLk_69, List.forall_mem_cons.mpr ⟨rxLk_70, List.forall_mem_cons.mpr ⟨rxLk_71, List.forall_mem_cons.mpr ⟨rxLk_72, List.forall_mem_cons.mpr ⟨rxLk_73, List.forall_mem_cons.mpr ⟨rxLk_74, List.forall_mem_cons.mpr ⟨rxLk_75, List.forall_mem_cons.mpr ⟨rxLk_76, List.forall_mem_cons.mpr ⟨rxLk_77, List.forall_mem_cons.mpr ⟨rxLk_78, List.forall_mem_cons.mpr ⟨rxLk_79, List.forall_mem_cons.mpr ⟨rxLk_80, List.forall_mem_cons.mpr ⟨rxLk_81, List.forall_mem_cons.mpr ⟨rxLk_82, List.forall_mem_cons.mpr ⟨rxLk_83, List.forall_mem_cons.mpr ⟨rxLk_84, List.forall_mem_cons.mpr ⟨rxLk_85, List.forall_mem_cons.mpr ⟨rxLk_86, List.forall_mem_cons.mpr ⟨rxLk_87, List.forall_mem_cons.mpr ⟨rxLk_88, fun _ h => absurd h List.not_mem_nil⟩⟩⟩⟩⟩⟩⟩⟩⟩⟩⟩⟩⟩⟩⟩⟩⟩⟩⟩⟩⟩⟩⟩⟩⟩⟩⟩⟩⟩⟩⟩⟩⟩⟩⟩⟩⟩⟩⟩⟩⟩⟩⟩⟩⟩⟩⟩⟩⟩⟩⟩⟩⟩⟩⟩⟩⟩⟩⟩⟩⟩⟩⟩⟩⟩⟩⟩⟩⟩⟩⟩⟩⟩⟩⟩⟩⟩⟩⟩⟩⟩⟩⟩⟩⟩⟩⟩⟩⟩)
theorem rxs_332 : rx_ST rx_P (rx_DF, rx_FK) rxm_332 := rx_cm_ok rxc_all rxk_332 rxh_332
end
section
/-- the law, with a script of L ints -/
noncomputable def rxl (L : Nat) (sx : Nat → Nat) : rx_M := ((4, 34, 988, 205, 8956, 1, 2, L + 1, sx), rxm_332.2)
theorem rxl_st (L : Nat) (sx : Nat → Nat) : rx_ST rx_P (rx_DF, rx_FK) (rxl L sx) := rxs_332
theorem rxa_byte : Jvm.Cond.arrayClass .byte ∈ lw_tbl := rx_tb_in (j := 1) (List.mem_of_getElem? (i := 156) (by decide +kernel))
theorem rxa_int : Jvm.Cond.arrayClass .int ∈ lw_tbl := rx_tb_in (j := 1) (List.mem_of_getElem? (i := 106) (by decide +kernel))
theorem rxa_long : Jvm.Cond.arrayClass .long ∈ lw_tbl := rx_tb_in (j := 1) (List.mem_of_getElem? (i := 226) (by decide +kernel))
theorem rxa_boolean : Jvm.Cond.arrayClass .boolean ∈ lw_tbl := rx_tb_in (j := 2) (List.mem_of_getElem? (i := 184) (by decide +kernel))
theorem rxa_over : Jvm.Cond.arrayOver (.object "TurnNet$State") ∈ lw_tbl := rx_tb_in (j := 2) (List.mem_of_getElem? (i := 74) (by decide +kernel))
theorem rx_ls_cs : Jvm.Cond.laysStatic "java/lang/String" "COMPACT_STRINGS" "Z" ∈ lw_tbl := rx_tb_in (j := 2) (List.mem_of_getElem? (i := 235) (by decide +kernel))
theorem rx_ls_fm : Jvm.Cond.laysStatic "jdk/internal/util/Preconditions" "SIOOBE_FORMATTER" "Ljava/util/function/BiFunction;" ∈ lw_tbl := rx_tb_in (j := 3) (List.mem_of_getElem? (i := 11) (by decide +kernel))
theorem rx_sr0 : Jvm.Cond.stringRef "TurnNet$Reader" (rx_sidx.getD 0 0) (rx_stx.getD 0 "") ∈ lw_tbl := rx_tb_in (j := 2) (List.mem_of_getElem? (i := 221) (by decide +kernel))
theorem rx_sr1 : Jvm.Cond.stringRef "TurnNet$Reader" (rx_sidx.getD 1 0) (rx_stx.getD 1 "") ∈ lw_tbl := rx_tb_in (j := 3) (List.mem_of_getElem? (i := 54) (by decide +kernel))
theorem rx_sr2 : Jvm.Cond.stringRef "TurnNet$Reader" (rx_sidx.getD 2 0) (rx_stx.getD 2 "") ∈ lw_tbl := rx_tb_in (j := 3) (List.mem_of_getElem? (i := 71) (by decide +kernel))
theorem rx_sr3 : Jvm.Cond.stringRef "TurnNet$Reader" (rx_sidx.getD 3 0) (rx_stx.getD 3 "") ∈ lw_tbl := rx_tb_in (j := 3) (List.mem_of_getElem? (i := 72) (by decide +kernel))
theorem rx_sr4 : Jvm.Cond.stringRef "TurnNet$Reader" (rx_sidx.getD 4 0) (rx_stx.getD 4 "") ∈ lw_tbl := rx_tb_in (j := 3) (List.mem_of_getElem? (i := 73) (by decide +kernel))
theorem rx_sr5 : Jvm.Cond.stringRef "TurnNet$Reader" (rx_sidx.getD 5 0) (rx_stx.getD 5 "") ∈ lw_tbl := rx_tb_in (j := 3) (List.mem_of_getElem? (i := 90) (by decide +kernel))
theorem rx_sr6 : Jvm.Cond.stringRef "TurnNet$Reader" (rx_sidx.getD 6 0) (rx_stx.getD 6 "") ∈ lw_tbl := rx_tb_in (j := 3) (List.mem_of_getElem? (i := 91) (by decide +kernel))
theorem rx_sr7 : Jvm.Cond.stringRef "TurnNet$Reader" (rx_sidx.getD 7 0) (rx_stx.getD 7 "") ∈ lw_tbl := rx_tb_in (j := 3) (List.mem_of_getElem? (i := 92) (by decide +kernel))
theorem rx_sr (i : Nat) (hi : i < 8) : Jvm.Cond.stringRef "TurnNet$Reader" (rx_sidx.getD i 0) (rx_stx.getD i "") ∈ lw_tbl := by
  match i, hi with
  | 0, _ => exact rx_sr0
  | 1, _ => exact rx_sr1
  | 2, _ => exact rx_sr2
  | 3, _ => exact rx_sr3
  | 4, _ => exact rx_sr4
  | 5, _ => exact rx_sr5
  | 6, _ => exact rx_sr6
  | 7, _ => exact rx_sr7
end
section
/-! THE CLAIM OUT OF ONE WALK OF THE LAW'S BODY. Your part is whole_start (and what it stands on); all else here is the same for every law, but numbers. -/
def R_law : String := "TurnNetLaw"
def lw_P (b : Addr) (xs : List Int32) (args : Array Value) (s : State) : Prop := args = #[.ref b] ∧ s.IntsAt b xs ∧ xs.length ≤ 3072 ∧ (Jvm.Cond.and given_1 narrow_1).before args s = true
def lw_Q (_ : Array Value) (s : State) (o : Outcome) (t : State) : Prop := o = .returned (some (.int 1)) ∧ Framed s o t [] 600000 7302250
def lw_Z (below : List Frame) (a : Array Value) (s : State) : State → Prop := fun t => ∃ o, t.status = .running ∧ Ended t below o ∧ lw_Q a s o t
/-- the law's own end, with 1 on the stack, nothing written that was there before, its room as the claim has it -/
theorem lw_ret {p : Program} {l : Launch} {e : Env} {s : State} {m : MethodId} {below : List Frame} {meth : Method} {c : Code} {b : Nat} (hx : p.tables.exec = Jvm.exec) (hb : c.code = code) (hr : meth.sig.returnType = ret) (hlocks : meth.locks = false) {pc : Nat} {H : Heap} {ls : Array Slot} (hdg : decode code pc = .ok (.ireturn, 1)) : W p l e room_1 s m #[Value.ref b] below meth c H [] 600000 7302250 (lw_Z below #[Value.ref b] s) (F0 m pc ls [.int 1]) := by
  intro T hT X
  obtain ⟨fs, hret, hrun, hended, hW, hframe⟩ := X.leave (v := some (.int 1)) (hlocks := hlocks) (fun h => by rw [hr] at h; cases h)
  have hmeth' : T.vm.method? m = some meth := X.method'
  refine ⟨T.setFrames fs, ?_, .returned (some (.int 1)), hrun, hended, rfl, ⟨_, rfl⟩, hW, hframe⟩
  jvm_step X.here [X.here.top, hx, hb, hdg, hmeth', hr, ret, narrow_b1]
  (try refine ⟨rfl, ?_⟩); (try refine ⟨rfl, ?_⟩)
  first | (intro acts; rw [hret _ acts rfl rfl rfl]) | rw [hret _ _ rfl rfl rfl]
  exact Steps.refl _
/-- what holds at the law's entry: the machine, the code, the tables' words (any of lw_tbl by 'hts w (by decide +kernel)'), the script of L ints xs at the cell b, what the Statement gives of the start (any of its parts by flat_of_before) -/
def lw_At (p : Program) (s : State) (m : MethodId) (meth : Method) (c : Code) (b L : Nat) (xs : Nat → Int32) : Prop :=
  p.tables.exec = Jvm.exec ∧ c.code = code ∧ meth.sig.returnType = ret ∧ c.maxLocals = 4 ∧ s.vm.findClass R_law = some m.cls ∧ (∀ w ∈ lw_tbl, w.before #[Value.ref b] s = true) ∧ va_X b L xs s s.heap ∧ b < s.heap.size ∧ meth.locks = false ∧ (Jvm.Cond.and given_1 narrow_1).before #[Value.ref b] s = true
end
section
/-! Runs, and what both worlds tell of them -/
section RUN
variable {P : List rx_M} {K : rx_K} {r : rx_M} {Po : rx_O → Prop}
theorem ax_wp_run {σ : rx_S} (h : ax_Wp P K r σ Po) : ax_Wp P K r σ (fun o => Po o ∧ ∃ n, rx_run P K n r σ = some [o]) := by
  obtain ⟨o, h1, h2⟩ := h
  exact ⟨o, h1, h2, h1⟩
theorem ax_inv_one (hP : ∀ q ∈ P, rx_QW q ∧ rx_ST P K q) (hr : r ∈ P) {σ : rx_S} {o o' : rx_O} (h : ∃ n, rx_run P K n r σ = some [o]) (h' : ∃ n, rx_run P K n r σ = some [o']) : o = o' := by
  obtain ⟨n, h⟩ := h
  obtain ⟨m, h'⟩ := h'
  have a := ax_run_up hP hr (Nat.le_max_left n m) h
  have b := ax_run_up hP hr (Nat.le_max_right n m) h'
  rw [a] at b
  exact (List.cons.inj (Option.some.inj b)).1
theorem ax_inv_step (hP : ∀ q ∈ P, rx_QW q ∧ rx_ST P K q) (hr : r ∈ P) {pc : Nat} {lv st : List Nat} {hp : rx_H} {x : rx_E} {σ' : rx_S} {o : rx_O} (hl : rx_look (rx_cd r) pc = some x) (hk : rx_kd x.2.2.2.1 = 0) (hh : rx_sem x.2.2.2.1 K (rx_n r) pc x.2.2.2.2.2.1 x.2.2.2.2.2.2.1 lv st hp [] 0 0 = some [σ']) (h : ∃ n, rx_run P K n r (pc, lv, st, hp, [], 0, 0) = some [o]) : ∃ n, rx_run P K n r σ' = some [o] := by
  obtain ⟨n, h⟩ := h
  have h := ax_run_up hP hr (Nat.le_succ n) h
  obtain ⟨⟨ch, hc1, hc2⟩, hpc⟩ := rx_look_ok hl
  obtain ⟨o1, o2, o3, o4, o5⟩ := (hP r hr).2 ch hc1 x hc2
  have k0 : x.2.1 = 0 := o2.trans hk
  replace h : rx_go P K (rx_run P K n) (rx_run P K n) (fun o => some [o]) r (pc, lv, st, hp, [], 0, 0) = some [o] := h
  rw [ax_go_x hl] at h
  unfold rx_do at h
  rw [k0, o3 k0] at h
  replace h : rx_nxt (rx_run P K n) r (rx_sem x.2.2.2.1 K (rx_n r) pc x.2.2.2.2.2.1 x.2.2.2.2.2.2.1 lv st hp [] 0 0) = some [o] := h
  rw [hh] at h
  exact ⟨n, h⟩
theorem ax_inv_call (hP : ∀ q ∈ P, rx_QW q ∧ rx_ST P K q) (hr : r ∈ P) {q : rx_M} {i : Nat} {as rest : List Nat} {σ : rx_S} {o1 o : rx_O} (hq : rx_nth P i = some q) (hc : rx_cal P r i σ = some (as, rest)) (h1 : ∃ n, rx_run P K n q (rx_ent q as σ) = some [o1]) (h : ∃ n, rx_run P K n r σ = some [o]) : ∃ n, rx_run P K n r (rx_bh q rest σ o1) = some [o] := by
  obtain ⟨n1, k1⟩ := h1
  obtain ⟨n2, m1⟩ := h
  have hqP : q ∈ P := by rw [rx_nth_eq] at hq; exact List.mem_of_getElem? hq
  have k1' := ax_run_up hP hqP (Nat.le_max_left n1 n2) k1
  have m1' := ax_run_up hP hr (Nat.le_succ_of_le (Nat.le_max_right n1 n2)) m1
  obtain ⟨N, hN⟩ : ∃ N, max n1 n2 = N := ⟨_, rfl⟩
  rw [hN] at k1' m1'
  refine ⟨N, ?_⟩
  rw [← m1']
  obtain ⟨pc, lv, st, hp, iv, cn, sn⟩ := σ
  unfold rx_cal at hc
  dsimp only at hc
  show rx_run P K N r (rx_bh q rest (pc, lv, st, hp, iv, cn, sn) o1) = rx_go P K (rx_run P K N) (rx_run P K N) (fun o => some [o]) r (pc, lv, st, hp, iv, cn, sn)
  unfold rx_go
  dsimp only
  cases hl : rx_look (rx_cd r) pc with
  | none => rw [hl] at hc; cases hc
  | some x =>
    rw [hl, hq] at hc
    dsimp only at hc ⊢
    cases hs : rx_spl (bif Nat.beq x.2.1 5 then rx_np (rx_n q) else Nat.succ (rx_np (rx_n q))) st [] with
    | none => rw [hs] at hc; cases hc
    | some w =>
      obtain ⟨as', rest'⟩ := w
      rw [hs] at hc
      dsimp only at hc
      obtain ⟨hb0, he⟩ := rx_cond hc
      cases he
      obtain ⟨b1, hb1⟩ := rx_and2.mp hb0
      obtain ⟨b2, hb2⟩ := rx_and2.mp hb1
      obtain ⟨b3, hb3⟩ := rx_and2.mp hb2
      obtain ⟨b4, hb4⟩ := rx_and2.mp hb3
      obtain ⟨b5, hb5⟩ := rx_and2.mp hb4
      obtain ⟨b6, b7⟩ := rx_and2.mp hb5
      have e2 : x.2.2.2.2.2.1 = i := rx_beq.mp b2
      have e3 : Nat.beq x.2.2.2.2.2.2.1 1 = false := by cases hz : Nat.beq x.2.2.2.2.2.2.1 1 with | true => rw [hz] at b3; cases b3 | false => rfl
      have e4 : Nat.beq x.2.2.2.2.2.2.1 2 = false := by cases hz : Nat.beq x.2.2.2.2.2.2.1 2 with | true => rw [hz] at b4; cases b4 | false => rfl
      have e5 : Nat.beq (Nat.mod x.2.2.2.2.2.2.1 4) 1 = false := by cases hz : Nat.beq (Nat.mod x.2.2.2.2.2.2.1 4) 1 with | true => rw [hz] at b5; cases b5 | false => rfl
      have key : ∀ stat : Bool, (stat = true ↔ Nat.beq x.2.1 5 = true) → rx_run P K N r (rx_bh q rest (pc, lv, st, hp, iv, cn, sn) o1) = rx_call stat P (rx_run P K N) (rx_run P K N) r pc x.2.2.2.2.2.1 x.2.2.2.2.2.2.1 lv st hp iv cn sn := by
        intro stat hst
        have hst' : stat = Nat.beq x.2.1 5 := by
          cases stat with
          | true => exact (hst.mp rfl).symm
          | false => cases hz : Nat.beq x.2.1 5 with | true => exact hst.mpr hz | false => rfl
        unfold rx_call
        rw [e3, e4, e5]
        dsimp only [cond_false]
        unfold rx_inv
        rw [e2, hq]
        dsimp only
        rw [hst', hs]
        show rx_run P K N r (rx_bh q rest (pc, lv, st, hp, iv, cn, sn) o1) = (bif (Nat.beq x.2.1 5 || rx_rcv hp (Nat.div x.2.2.2.2.2.2.1 4) as) && rx_cok (rx_n r) (rx_n q) as rest cn sn then rx_inv3 (rx_run P K N) (rx_run P K N) r q pc lv hp iv cn sn as rest else none)
        rw [show (Nat.beq x.2.1 5 || rx_rcv hp (Nat.div x.2.2.2.2.2.2.1 4) as) = true from b6, show rx_cok (rx_n r) (rx_n q) as rest cn sn = true from b7]
        show rx_run P K N r (rx_bh q rest (pc, lv, st, hp, iv, cn, sn) o1) = rx_inv3 (rx_run P K N) (rx_run P K N) r q pc lv hp iv cn sn as rest
        unfold rx_inv3
        rw [show rx_run P K N q (0, rx_args as (rx_mL (rx_n q)), [], hp, iv, 0, 0) = some [o1] from k1']
        rfl
      unfold rx_do
      rcases rx_or2.mp b1 with hk | hk
      · rw [rx_beq.mp hk] at key ⊢
        exact key false (by decide)
      · rw [rx_beq.mp hk] at key ⊢
        exact key true (by decide)
end RUN
theorem ax_XT_in {TE TR : rx_H → Prop} {X : ax_X} {n : Nat} {ρ : Nat → Nat} {hp : rx_H} {x : ax_N} (hx : x.1 < 500) (hE : TE hp) (hR : TR hp) (h : ax_NO X n ρ hp x) : ax_NO (ax_XT TE TR X) n ρ hp x := by
  obtain ⟨vs, h1, h2⟩ := h
  exact ⟨vs, h1, (ax_XF_lt hx).mpr ⟨(ax_XF_lt hx).mp h2, fun _ _ => hE, fun _ _ => hR⟩⟩
theorem fx_dI (a : Nat) : fx_d (rx_int a) = (0, a) := by
  show (4 * a % 4, 4 * a / 4) = (0, a)
  rw [Nat.mul_mod_right, Nat.mul_div_cancel_left a (by decide)]
theorem fx_d_inj {x y : Nat} (h : fx_d x = fx_d y) : x = y := by
  have h1 : x % 4 = y % 4 := congrArg Prod.fst h
  have h2 : x / 4 = y / 4 := congrArg Prod.snd h
  omega
theorem fx_wI {a : Nat} (h : a < 4294967296) : fx_wv (rx_int a) := by
  refine ⟨?_, fun _ => ?_⟩
  · show 4 * a % 4 ≠ 3
    omega
  · show 4 * a / 4 < 4294967296
    omega
theorem fx_wsI {r : Nat} (hr : r % 4 = 2) {vals : List Nat} (hv : ∀ v ∈ vals, v < 4294967296) : fx_ws (r :: vals.map rx_int) := by
  intro v h
  rcases List.mem_cons.mp h with e | h
  · subst e; exact ⟨by omega, fun z => by omega⟩
  · obtain ⟨a, ha, e⟩ := List.mem_map.mp h
    subst e
    exact fx_wI (hv a ha)
theorem fx_mapI {vals : List Nat} : (vals.map rx_int).map fx_d = vals.map (fun a => ((0, a) : fx_V)) := by
  rw [List.map_map]
  exact List.map_congr_left (fun a _ => fx_dI a)
/-- a run told of by the relation of heaps -/
theorem lw_cl {j : Nat} {q : rx_M} {s : Nat × Nat × Nat} {r : Nat} {vals : List Nat} {hp : rx_H} {o : rx_O} (hq : rx_nth rx_P j = some q) (hs : rx_nth fx_SG j = some s) (hm : s.2.2 = rx_mL (rx_n q)) (hr : r % 4 = 2) (hv : ∀ v ∈ vals, v < 4294967296) (hH : fx_H fx_w rx_FK fx_FZ hp) (h : ∃ n, rx_run rx_P (rx_DF, rx_FK) n q (0, rx_args (r :: vals.map rx_int) (rx_mL (rx_n q)), [], hp, [], 0, 0) = some [o]) : Cl j (fx_d r :: vals.map (fun a => (0, a))) (fx_hp hp) (fx_d o.1) (fx_hp o.2.1) := by
  obtain ⟨n, h⟩ := h
  have e : fx_d r :: vals.map (fun a => ((0, a) : fx_V)) = (r :: vals.map rx_int).map fx_d := by rw [List.map_cons, fx_mapI]
  rw [e]
  refine ⟨n, s, hs, q, _, [], hp, o, hq, fx_args_ws (fx_wsI hr hv), (fun v hv => by cases hv), hH, ?_, rfl, rfl, h, rfl, rfl⟩
  rw [hm]
  exact fx_args_L
theorem lw_hh {j : Nat} {q : rx_M} {r : Nat} {vals : List Nat} {hp : rx_H} {o : rx_O} (hc : rx_nth fx_CV j = some true) (hq : rx_nth rx_P j = some q) (hr : r % 4 = 2) (hv : ∀ v ∈ vals, v < 4294967296) (hH : fx_H fx_w rx_FK fx_FZ hp) (h : ∃ n, rx_run rx_P (rx_DF, rx_FK) n q (0, rx_args (r :: vals.map rx_int) (rx_mL (rx_n q)), [], hp, [], 0, 0) = some [o]) : fx_H fx_w rx_FK fx_FZ o.2.1 := by
  obtain ⟨n, h⟩ := h
  obtain ⟨o', e, -, h2, -⟩ := fx_A fx_all n j q hc hq 0 _ [] hp _ (fx_args_ws (fx_wsI hr hv)) (fun v hv => by cases hv) hH h
  cases e
  exact h2
theorem lw_fp {hp : rx_H} {q i : Nat} : fx_hp hp (q + 2) i = ay_ln (ay_at hp q i) := by
  unfold fx_hp ay_at
  rw [show Nat.ble 2 (q + 2) = true from rx_ble.mpr (by omega), cond_true, Nat.add_sub_cancel]
  cases e : rx_hg hp q with
  | none => rfl
  | some z =>
    obtain ⟨k, n, f⟩ := z
    show (f[i]?.getD 0) / 4 = ay_ln f[i]?
    cases f[i]? <;> rfl
theorem lw_fxs {w : ax_W} {md : List (Nat × Nat)} {hp hp' : rx_H} {p i : Nat} (hw : w.1 = fx_w.1) (hT : ax_HT w hp) (hR : ax_HR w md hp hp') (h1 : fx_H fx_w rx_FK fx_FZ hp) (h2 : fx_H fx_w rx_FK fx_FZ hp') (hm : ∀ g, 2 ≤ p → w.1[p - 2]? = some g → ax_mem md g i = false) : fx_hp hp' p i = fx_hp hp p i := by
  rcases Nat.lt_or_ge p 2 with h | h
  · unfold fx_hp
    rw [show Nat.ble 2 p = false from Bool.eq_false_iff.mpr (fun z => by have := rx_ble.mp z; omega)]
    rfl
  · obtain ⟨q, rfl⟩ : ∃ q, p = q + 2 := ⟨p - 2, by omega⟩
    rw [lw_fp, lw_fp]
    cases e : w.1[q]? with
    | some g => exact congrArg ay_ln (ay_HRat hR e (hm g h e) (ax_cellT hT e))
    | none =>
      have z : ∀ hp, fx_H fx_w rx_FK fx_FZ hp → ay_at hp q i = none := fun hp h => by
        unfold ay_at
        cases e2 : rx_hg hp q with
        | none => rfl
        | some c =>
          obtain ⟨k, n, f⟩ := c
          obtain ⟨-, ⟨g, l, hg, -⟩, -⟩ := h.2 q k n f e2
          rw [← hw, e] at hg
          cases hg
      rw [z hp h1, z hp' h2]
section LRL
variable {nn L R N : Nat} {E C : Nat → Nat} {F F' G G' : fx_F}
/-- the relation looks at no more than this -/
theorem lr_cg2 (h : lr F G nn L E C N R) (hF : ∀ p i, p < 175 → (p < 10 ∨ 19 ≤ p) → F' p i = F p i) (hG6 : ∀ p i, p = 204 ∨ p = 205 ∨ p = 206 ∨ p = 176 → G' p i = G p i) (g9 : G' 175 9 = G 175 9) (g56 : G' 175 56 = G 175 56) (g57 : G' 175 57 = G 175 57) (g177 : G' 177 (G 175 9) = G 177 (G 175 9)) (g178 : G' 178 (G 175 9) = G 178 (G 175 9)) (g180 : G' 180 (G 175 9) = G 180 (G 175 9)) (g182 : G' 182 (G 175 9) = G 182 (G 175 9)) (g183 : ∀ j, j < 40 → G' 183 (40 * G 175 9 + j) = G 183 (40 * G 175 9 + j)) (g184 : ∀ k, k < 100 → G' 184 (100 * G 175 9 + k) = G 184 (100 * G 175 9 + k)) : lr F' G' nn L E C N R := by
  obtain ⟨h1, ⟨k1, k2, k3, k4⟩, ⟨m1, m2, m3⟩, ⟨x1, x2⟩, ra, rb⟩ := h
  have f3 : ∀ p i, 3 ≤ p → p ≤ 9 → F' p i = F p i := fun p i a b => hF p i (by omega) (by omega)
  have hL := h1.1.2.1
  have hN := h1.2.1.1
  have e2 : F' 2 13 = F 2 13 := hF 2 13 (by decide) (by decide)
  have st : ∀ {q : Nat} {X X' : Nat → Nat}, sc F q X nn L E → 19 ≤ q → q + 4 < 175 → (∀ x, x < 103 → X' x = X x) → sc F' q X' nn L E := fun h a b hx => sc_congr h hL (fun i _ => hF _ i (by omega) (by omega)) (fun i _ => ⟨hF _ i (by omega) (by omega), hF _ i (by omega) (by omega), hF _ i (by omega) (by omega), hF _ i (by omega) (by omega)⟩) (fun x hx2 => hx x (by omega))
  have lo : ∀ {q : Nat}, S0 q → 19 ≤ q ∧ q + 4 < 175 := fun h => by unfold S0 at h; omega
  obtain ⟨⟨a1, a2, a3⟩, ⟨b1, b2, b3, b4⟩, c1, d1, d2⟩ := x1
  have k : ∀ p i, p = 2 ∨ p = 51 ∨ p = 52 ∨ p = 158 ∨ p = 159 → F' p i = F p i := fun p i hp => hF p i (by omega) (by omega)
  refine ⟨h1, ⟨k1.eq f3, k2.eq f3, k3.eq f3, (f3 3 3 (by decide) (by decide)).trans k4⟩, ⟨⟨by rw [g9]; exact m1.1, by rw [g9, g177]; exact m1.2.1, by rw [g9, g178]; exact m1.2.2.1, fun j hj => by rw [g9, g183 j (by omega)]; exact m1.2.2.2 j hj⟩, ⟨by rw [g9, g182]; exact m2.1, fun k hk => by rw [g9, g184 k (by omega)]; exact m2.2 k hk⟩, by rw [g9, g180]; exact m3⟩, ⟨⟨?_, ?_, fun i hi => ?_, ?_, fun b hb => ?_⟩, ?_⟩, ra.eq (fun t i ht => hF _ i (by omega) (by omega)), rb.eq (fun t i ht => hF _ i (by omega) (by omega))⟩
  · rw [e2]
    exact ⟨a1, fun i hi => by rw [k 52 i (by decide)]; exact a2 i hi, fun i j hi hj => by rw [k 52 i (by decide), k 52 j (by decide)]; exact a3 i j hi hj⟩
  · rw [k 51 1 (by decide), k 51 2 (by decide), k 51 3 (by decide), g56, g57]; exact ⟨b1, b2, b3, b4⟩
  · rw [k 51 2 (by decide), k 51 3 (by decide)] at hi
    rw [k 51 1 (by decide), k 52 _ (by decide)]
    obtain ⟨l1, l2⟩ := lo (a2 _ (Nat.mod_lt _ (by decide))).1
    exact st (c1 i hi) l1 l2 (fun x _ => hG6 204 _ (by decide))
  · rw [k 158 0 (by decide), k 158 1 (by decide)]; exact d1
  · obtain ⟨t1, t2⟩ := d2 b hb
    rw [k 158 b (by decide), k 159 b (by decide), hG6 206 b (by decide)]
    refine ⟨t1, fun w => ?_⟩
    have hb158 : F 158 b = 165 ∨ F 158 b = 170 := by
      have : b = 0 ∨ b = 1 := by omega
      rcases this with e | e
      · subst e; exact Or.inl d1.1
      · subst e; exact Or.inr d1.2
    exact st (t2 w) (by omega) (by omega) (fun x _ => hG6 205 _ (by decide))
  · rw [e2]
    obtain ⟨l1, l2⟩ := lo a1
    exact st x2 l1 l2 (fun x _ => hG6 176 x (by decide))
theorem lw_lrG (h : lr F G nn L E C N R) (c : ∀ p i, 175 ≤ p → G' p i = G p i) : lr F G' nn L E C N R := h.cg (fun _ _ _ _ => rfl) (fun p i hp => c p i (by omega)) (c _ _ (by decide)) (c _ _ (by decide)) (c _ _ (by decide)) (c _ _ (by decide)) (c _ _ (by decide)) (c _ _ (by decide)) (c _ _ (by decide)) (fun j _ => c _ _ (by decide)) (fun k _ => c _ _ (by decide))
theorem lw_lrF (h : lr F G nn L E C N R) (c : ∀ p i, p < 175 → F' p i = F p i) : lr F' G nn L E C N R := h.cg (fun p i hp _ => c p i hp) (fun _ _ _ => rfl) rfl rfl rfl rfl rfl rfl rfl (fun _ _ => rfl) (fun _ _ => rfl)
theorem lw_keep {S T S' T' : List Nat} (h : lr F G nn L E C N R) (k1 : gxo S T F F') (hS : ∀ p ∈ S, 10 ≤ p ∧ p ≤ 18) (k2 : gxo S' T' G G') (hS' : ∀ p ∈ S', p = 185) (hT' : ∀ i ∈ T', i = 11) : lr F' G' nn L E C N R := by
  have kF : ∀ p i, p < 175 → (p < 10 ∨ 19 ≤ p) → F' p i = F p i := fun p i hp hp2 => k1 p i (fun z => by have := hS p z; omega) (fun z => by omega)
  have kG : ∀ p i, p ≠ 185 → p ≠ 175 → G' p i = G p i := fun p i a b => k2 p i (fun z => a (hS' p z)) (fun z => absurd z b)
  have k5 : ∀ i, i ≠ 11 → G' 175 i = G 175 i := fun i a => k2 175 i (fun z => by have := hS' _ z; omega) (fun _ z => a (hT' i z))
  exact h.cg kF (fun p i hp => kG p i (by omega) (by omega)) (k5 9 (by decide)) (k5 56 (by decide)) (k5 57 (by decide)) (kG _ _ (by decide) (by decide)) (kG _ _ (by decide) (by decide)) (kG _ _ (by decide) (by decide)) (kG _ _ (by decide) (by decide)) (fun j _ => kG _ _ (by decide) (by decide)) (fun j _ => kG _ _ (by decide) (by decide))
end LRL
end
