/-- the tables, by number -/
noncomputable def rx_tb (j : Nat) : List Jvm.Cond := match j with
  | 0 => k2_sels lw_privs | 1 => tables_1_1 | 2 => tables_1_2 | 3 => tables_1_3 | 4 => tables_1_4 | 5 => tables_1_5 | 6 => tables_1_6 | 7 => tables_1_7 | 8 => tables_1_8 | _ => []
theorem rx_tb_in {j : Nat} {w : Jvm.Cond} (h : w ∈ rx_tb j) : w ∈ lw_tbl := by
  have t : ∀ {w : Jvm.Cond}, w ∈ tables_1 → w ∈ lw_tbl := fun h => List.mem_append_right _ h
  match j, h with
  | 0, h => exact List.mem_append_left _ h
  | 1, h => exact t (List.mem_append_left _ h)
  | 2, h => exact t (List.mem_append_right _ (List.mem_append_left _ h))
  | 3, h => exact t (List.mem_append_right _ (List.mem_append_right _ (List.mem_append_left _ h)))
  | 4, h => exact t (List.mem_append_right _ (List.mem_append_right _ (List.mem_append_right _ (List.mem_append_left _ h))))
  | 5, h => exact t (List.mem_append_right _ (List.mem_append_right _ (List.mem_append_right _ (List.mem_append_right _ (List.mem_append_left _ h)))))
  | 6, h => exact t (List.mem_append_right _ (List.mem_append_right _ (List.mem_append_right _ (List.mem_append_right _ (List.mem_append_right _ (List.mem_append_left _ h))))))
  | 7, h => exact t (List.mem_append_right _ (List.mem_append_right _ (List.mem_append_right _ (List.mem_append_right _ (List.mem_append_right _ (List.mem_append_right _ (List.mem_append_left _ h)))))))
  | 8, h => exact t (List.mem_append_right _ (List.mem_append_right _ (List.mem_append_right _ (List.mem_append_right _ (List.mem_append_right _ (List.mem_append_right _ (List.mem_append_right _ h)))))))
  | _ + 9, h => cases h
/-- a word stands at a place -/
noncomputable def rx_has (w : Nat × Nat) (x : Jvm.Cond) : Bool := (match rx_nth (rx_tb w.1) w.2 with
  | some y => decide (y = x)
  | none => false) && goodWord x
theorem rx_has_ok {w : Nat × Nat} {x : Jvm.Cond} (h : rx_has w x = true) : x ∈ lw_G := by
  obtain ⟨h1, h2⟩ := rx_and2.mp h
  rw [rx_nth_eq] at h1
  cases e : (rx_tb w.1)[w.2]? with
  | none => rw [e] at h1; cases h1
  | some y =>
    rw [e] at h1
    have e2 : y = x := of_decide_eq_true h1
    subst e2
    exact lw_G_of (rx_tb_in (List.mem_of_getElem? e)) h2
theorem rx_w_c_coder : Jvm.Cond.code yJ0_coder_7d493 cJ0_coder_7d493 1 (some .byte) ∈ lw_G := rx_has_ok (w := (2, 233)) (by decide +kernel)
theorem rx_w_i_coder : Jvm.Cond.instanceMethod yJ0_coder_7d493 ∈ lw_G := rx_has_ok (w := (2, 231)) (by decide +kernel)
theorem rx_w_s_coder : Jvm.Cond.selects RJ0 yJ0_coder_7d493 yJ0_coder_7d493 ∈ lw_G := rx_has_ok (w := (2, 232)) (by decide +kernel)
theorem rx_w_c_len : Jvm.Cond.code yJ0_length_8abf5 cJ0_length_8abf5 1 (some .int) ∈ lw_G := rx_has_ok (w := (2, 229)) (by decide +kernel)
theorem rx_w_i_len : Jvm.Cond.instanceMethod yJ0_length_8abf5 ∈ lw_G := rx_has_ok (w := (2, 227)) (by decide +kernel)
theorem rx_w_s_len : Jvm.Cond.selects RJ0 yJ0_length_8abf5 yJ0_length_8abf5 ∈ lw_G := rx_has_ok (w := (2, 228)) (by decide +kernel)
theorem rx_w_c_lat : Jvm.Cond.code yJ0_isLatin1_aae02 cJ0_isLatin1_aae02 1 (some .boolean) ∈ lw_G := rx_has_ok (w := (3, 3)) (by decide +kernel)
theorem rx_w_i_lat : Jvm.Cond.instanceMethod yJ0_isLatin1_aae02 ∈ lw_G := rx_has_ok (w := (3, 1)) (by decide +kernel)
theorem rx_w_s_lat : Jvm.Cond.selects RJ0 yJ0_isLatin1_aae02 yJ0_isLatin1_aae02 ∈ lw_G := rx_has_ok (w := (3, 2)) (by decide +kernel)
theorem rx_w_c_ca : Jvm.Cond.code yJ0_charAt_5068e cJ0_charAt_5068e 2 (some .char) ∈ lw_G := rx_has_ok (w := (2, 239)) (by decide +kernel)
theorem rx_w_i_ca : Jvm.Cond.instanceMethod yJ0_charAt_5068e ∈ lw_G := rx_has_ok (w := (2, 237)) (by decide +kernel)
theorem rx_w_s_ca : Jvm.Cond.selects RJ0 yJ0_charAt_5068e yJ0_charAt_5068e ∈ lw_G := rx_has_ok (w := (2, 238)) (by decide +kernel)
theorem rx_w_c_ci : Jvm.Cond.code yJ0_checkIndex_df160 cJ0_checkIndex_df160 2 none ∈ lw_G := rx_has_ok (w := (3, 9)) (by decide +kernel)
theorem rx_w_t_ci : Jvm.Cond.static yJ0_checkIndex_df160 ∈ lw_G := rx_has_ok (w := (3, 8)) (by decide +kernel)
theorem rx_w_c_lca : Jvm.Cond.code yJ1_charAt_3b067 cJ1_charAt_3b067 2 (some .char) ∈ lw_G := rx_has_ok (w := (3, 6)) (by decide +kernel)
theorem rx_w_t_lca : Jvm.Cond.static yJ1_charAt_3b067 ∈ lw_G := rx_has_ok (w := (3, 5)) (by decide +kernel)
theorem rx_w_c_pci : Jvm.Cond.code yJ3_checkIndex_8e157 cJ3_checkIndex_8e157 3 (some .int) ∈ lw_G := rx_has_ok (w := (3, 14)) (by decide +kernel)
theorem rx_w_t_pci : Jvm.Cond.static yJ3_checkIndex_8e157 ∈ lw_G := rx_has_ok (w := (3, 13)) (by decide +kernel)
theorem rx_w_l_coder : Jvm.Cond.methodLink RJ0 335 yJ0_coder_7d493 ∈ lw_G := rx_has_ok (w := (2, 230)) (by decide +kernel)
theorem rx_w_l_lat : Jvm.Cond.methodLink RJ0 492 yJ0_isLatin1_aae02 ∈ lw_G := rx_has_ok (w := (3, 0)) (by decide +kernel)
theorem rx_w_l_lca : Jvm.Cond.methodLink RJ0 495 yJ1_charAt_3b067 ∈ lw_G := rx_has_ok (w := (3, 4)) (by decide +kernel)
theorem rx_w_l_ci : Jvm.Cond.methodLink RJ1 9 yJ0_checkIndex_df160 ∈ lw_G := rx_has_ok (w := (3, 7)) (by decide +kernel)
theorem rx_w_l_pci : Jvm.Cond.methodLink RJ0 1059 yJ3_checkIndex_8e157 ∈ lw_G := rx_has_ok (w := (3, 12)) (by decide +kernel)
theorem rx_w_f_cs : Jvm.Cond.fieldLink RJ0 38 "java/lang/String" "COMPACT_STRINGS" "Z" ∈ lw_G := rx_has_ok (w := (2, 234)) (by decide +kernel)
theorem rx_w_f_coder : Jvm.Cond.fieldLink RJ0 15 "java/lang/String" "coder" "B" ∈ lw_G := rx_has_ok (w := (8, 222)) (by decide +kernel)
theorem rx_w_f_val : Jvm.Cond.fieldLink RJ0 9 "java/lang/String" "value" "[B" ∈ lw_G := rx_has_ok (w := (8, 221)) (by decide +kernel)
theorem rx_w_f_fmt : Jvm.Cond.fieldLink RJ0 1053 "jdk/internal/util/Preconditions" "SIOOBE_FORMATTER" "Ljava/util/function/BiFunction;" ∈ lw_G := rx_has_ok (w := (3, 10)) (by decide +kernel)
theorem rx_w_n_0 : Jvm.Cond.initialized RJ0 ∈ lw_G := rx_has_ok (w := (1, 14)) (by decide +kernel)
theorem rx_w_n_1 : Jvm.Cond.initialized RJ1 ∈ lw_G := rx_has_ok (w := (1, 15)) (by decide +kernel)
theorem rx_w_n_3 : Jvm.Cond.initialized RJ3 ∈ lw_G := rx_has_ok (w := (1, 16)) (by decide +kernel)
theorem rx_d_coder_0 : decode cJ0_coder_7d493 0 = .ok (.getstatic 38, 3) := by decide +kernel
theorem rx_d_coder_3 : decode cJ0_coder_7d493 3 = .ok (.ifCond .eq 10, 3) := by decide +kernel
theorem rx_d_coder_6 : decode cJ0_coder_7d493 6 = .ok (.aload_n 0, 1) := by decide +kernel
theorem rx_d_coder_7 : decode cJ0_coder_7d493 7 = .ok (.getfield 15, 3) := by decide +kernel
theorem rx_d_coder_10 : decode cJ0_coder_7d493 10 = .ok (.goto 4, 3) := by decide +kernel
theorem rx_d_coder_13 : decode cJ0_coder_7d493 13 = .ok (.iconst 1, 1) := by decide +kernel
theorem rx_d_coder_14 : decode cJ0_coder_7d493 14 = .ok (.ireturn, 1) := by decide +kernel
theorem rx_d_len_0 : decode cJ0_length_8abf5 0 = .ok (.aload_n 0, 1) := by decide +kernel
theorem rx_d_len_1 : decode cJ0_length_8abf5 1 = .ok (.getfield 9, 3) := by decide +kernel
theorem rx_d_len_4 : decode cJ0_length_8abf5 4 = .ok (.arraylength, 1) := by decide +kernel
theorem rx_d_len_5 : decode cJ0_length_8abf5 5 = .ok (.aload_n 0, 1) := by decide +kernel
theorem rx_d_len_6 : decode cJ0_length_8abf5 6 = .ok (.invokevirtual 335, 3) := by decide +kernel
theorem rx_d_len_9 : decode cJ0_length_8abf5 9 = .ok (.ishr, 1) := by decide +kernel
theorem rx_d_len_10 : decode cJ0_length_8abf5 10 = .ok (.ireturn, 1) := by decide +kernel
theorem rx_d_lat_0 : decode cJ0_isLatin1_aae02 0 = .ok (.getstatic 38, 3) := by decide +kernel
theorem rx_d_lat_3 : decode cJ0_isLatin1_aae02 3 = .ok (.ifCond .eq 14, 3) := by decide +kernel
theorem rx_d_lat_6 : decode cJ0_isLatin1_aae02 6 = .ok (.aload_n 0, 1) := by decide +kernel
theorem rx_d_lat_7 : decode cJ0_isLatin1_aae02 7 = .ok (.getfield 15, 3) := by decide +kernel
theorem rx_d_lat_10 : decode cJ0_isLatin1_aae02 10 = .ok (.ifCond .ne 7, 3) := by decide +kernel
theorem rx_d_lat_13 : decode cJ0_isLatin1_aae02 13 = .ok (.iconst 1, 1) := by decide +kernel
theorem rx_d_lat_14 : decode cJ0_isLatin1_aae02 14 = .ok (.goto 4, 3) := by decide +kernel
theorem rx_d_lat_17 : decode cJ0_isLatin1_aae02 17 = .ok (.iconst 0, 1) := by decide +kernel
theorem rx_d_lat_18 : decode cJ0_isLatin1_aae02 18 = .ok (.ireturn, 1) := by decide +kernel
theorem rx_d_ca_0 : decode cJ0_charAt_5068e 0 = .ok (.aload_n 0, 1) := by decide +kernel
theorem rx_d_ca_1 : decode cJ0_charAt_5068e 1 = .ok (.invokevirtual 492, 3) := by decide +kernel
theorem rx_d_ca_4 : decode cJ0_charAt_5068e 4 = .ok (.ifCond .eq 12, 3) := by decide +kernel
theorem rx_d_ca_7 : decode cJ0_charAt_5068e 7 = .ok (.aload_n 0, 1) := by decide +kernel
theorem rx_d_ca_8 : decode cJ0_charAt_5068e 8 = .ok (.getfield 9, 3) := by decide +kernel
theorem rx_d_ca_11 : decode cJ0_charAt_5068e 11 = .ok (.iload_n 1, 1) := by decide +kernel
theorem rx_d_ca_12 : decode cJ0_charAt_5068e 12 = .ok (.invokestatic 495, 3) := by decide +kernel
theorem rx_d_ca_15 : decode cJ0_charAt_5068e 15 = .ok (.ireturn, 1) := by decide +kernel
theorem rx_d_ca_16 : decode cJ0_charAt_5068e 16 = .ok (.aload_n 0, 1) := by decide +kernel
theorem rx_d_ca_17 : decode cJ0_charAt_5068e 17 = .ok (.getfield 9, 3) := by decide +kernel
theorem rx_d_ca_20 : decode cJ0_charAt_5068e 20 = .ok (.iload_n 1, 1) := by decide +kernel
theorem rx_d_ca_21 : decode cJ0_charAt_5068e 21 = .ok (.invokestatic 498, 3) := by decide +kernel
theorem rx_d_ca_24 : decode cJ0_charAt_5068e 24 = .ok (.ireturn, 1) := by decide +kernel
theorem rx_d_ci_0 : decode cJ0_checkIndex_df160 0 = .ok (.iload_n 0, 1) := by decide +kernel
theorem rx_d_ci_1 : decode cJ0_checkIndex_df160 1 = .ok (.iload_n 1, 1) := by decide +kernel
theorem rx_d_ci_2 : decode cJ0_checkIndex_df160 2 = .ok (.getstatic 1053, 3) := by decide +kernel
theorem rx_d_ci_5 : decode cJ0_checkIndex_df160 5 = .ok (.invokestatic 1059, 3) := by decide +kernel
theorem rx_d_ci_8 : decode cJ0_checkIndex_df160 8 = .ok (.pop, 1) := by decide +kernel
theorem rx_d_ci_9 : decode cJ0_checkIndex_df160 9 = .ok (.return_, 1) := by decide +kernel
theorem rx_d_lca_0 : decode cJ1_charAt_3b067 0 = .ok (.iload_n 1, 1) := by decide +kernel
theorem rx_d_lca_1 : decode cJ1_charAt_3b067 1 = .ok (.aload_n 0, 1) := by decide +kernel
theorem rx_d_lca_2 : decode cJ1_charAt_3b067 2 = .ok (.arraylength, 1) := by decide +kernel
theorem rx_d_lca_3 : decode cJ1_charAt_3b067 3 = .ok (.invokestatic 9, 3) := by decide +kernel
theorem rx_d_lca_6 : decode cJ1_charAt_3b067 6 = .ok (.aload_n 0, 1) := by decide +kernel
theorem rx_d_lca_7 : decode cJ1_charAt_3b067 7 = .ok (.iload_n 1, 1) := by decide +kernel
theorem rx_d_lca_8 : decode cJ1_charAt_3b067 8 = .ok (.baload, 1) := by decide +kernel
theorem rx_d_lca_9 : decode cJ1_charAt_3b067 9 = .ok (.sipush 255, 3) := by decide +kernel
theorem rx_d_lca_12 : decode cJ1_charAt_3b067 12 = .ok (.iand, 1) := by decide +kernel
theorem rx_d_lca_13 : decode cJ1_charAt_3b067 13 = .ok (.i2c, 1) := by decide +kernel
theorem rx_d_lca_14 : decode cJ1_charAt_3b067 14 = .ok (.ireturn, 1) := by decide +kernel
theorem rx_d_pci_0 : decode cJ3_checkIndex_8e157 0 = .ok (.iload_n 0, 1) := by decide +kernel
theorem rx_d_pci_1 : decode cJ3_checkIndex_8e157 1 = .ok (.ifCond .lt 8, 3) := by decide +kernel
theorem rx_d_pci_4 : decode cJ3_checkIndex_8e157 4 = .ok (.iload_n 0, 1) := by decide +kernel
theorem rx_d_pci_5 : decode cJ3_checkIndex_8e157 5 = .ok (.iload_n 1, 1) := by decide +kernel
theorem rx_d_pci_6 : decode cJ3_checkIndex_8e157 6 = .ok (.if_icmp .lt 10, 3) := by decide +kernel
theorem rx_d_pci_9 : decode cJ3_checkIndex_8e157 9 = .ok (.aload_n 2, 1) := by decide +kernel
theorem rx_d_pci_10 : decode cJ3_checkIndex_8e157 10 = .ok (.iload_n 0, 1) := by decide +kernel
theorem rx_d_pci_11 : decode cJ3_checkIndex_8e157 11 = .ok (.iload_n 1, 1) := by decide +kernel
theorem rx_d_pci_12 : decode cJ3_checkIndex_8e157 12 = .ok (.invokestatic 95, 3) := by decide +kernel
theorem rx_d_pci_16 : decode cJ3_checkIndex_8e157 16 = .ok (.iload_n 0, 1) := by decide +kernel
theorem rx_d_pci_17 : decode cJ3_checkIndex_8e157 17 = .ok (.ireturn, 1) := by decide +kernel
