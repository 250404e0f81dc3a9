section
theorem axq1_ia3a_47 : ax_RO ax_wM1 (ax_XM 1) axu1_ia3a_47 := axqg_ia3a_47 ax_WW1
theorem axq1_ia3b_47 : ax_RO ax_wM1 (ax_XM 1) axu1_ia3b_47 := axqg_ia3b_47 ax_WW1
theorem axq1_ia4_47 : ax_RO ax_wM1 (ax_XM 1) axu1_ia4_47 := axqg_ia4_47 ax_WW1
theorem axq1_ia1_37 : ax_RO ax_wM1 (ax_XM 1) axu1_ia1_37 := axqg_ia1_37 ax_WW1
theorem axq1_ia2a_37 : ax_RO ax_wM1 (ax_XM 1) axu1_ia2a_37 := axqg_ia2a_37 ax_WW1
theorem axq1_ia2b_37 : ax_RO ax_wM1 (ax_XM 1) axu1_ia2b_37 := axqg_ia2b_37 ax_WW1
theorem axq1_ia3a_37 : ax_RO ax_wM1 (ax_XM 1) axu1_ia3a_37 := axqg_ia3a_37 ax_WW1
theorem axq1_ia3b_37 : ax_RO ax_wM1 (ax_XM 1) axu1_ia3b_37 := axqg_ia3b_37 ax_WW1
theorem axq1_ia4_37 : ax_RO ax_wM1 (ax_XM 1) axu1_ia4_37 := axqg_ia4_37 ax_WW1
theorem axq1_iv1_0 : ax_RO ax_wM1 (ax_XM 1) axu1_iv1_0 := axqg_iv1_0 ax_WW1
theorem axq1_iv2a_0 : ax_RO ax_wM1 (ax_XM 1) axu1_iv2a_0 := axqg_iv2a_0 ax_WW1
theorem axq1_iv2b_0 : ax_RO ax_wM1 (ax_XM 1) axu1_iv2b_0 := axqg_iv2b_0 ax_WW1
theorem axq1_iv3a_0 : ax_RO ax_wM1 (ax_XM 1) axu1_iv3a_0 := axqg_iv3a_0 ax_WW1
theorem axq1_iv3b_0 : ax_RO ax_wM1 (ax_XM 1) axu1_iv3b_0 := axqg_iv3b_0 ax_WW1
theorem axq1_iv1_1 : ax_RO ax_wM1 (ax_XM 1) axu1_iv1_1 := axqg_iv1_1 ax_WW1
theorem axq1_iv2a_1 : ax_RO ax_wM1 (ax_XM 1) axu1_iv2a_1 := axqg_iv2a_1 ax_WW1
theorem axq1_iv2b_1 : ax_RO ax_wM1 (ax_XM 1) axu1_iv2b_1 := axqg_iv2b_1 ax_WW1
theorem axq1_iv3a_1 : ax_RO ax_wM1 (ax_XM 1) axu1_iv3a_1 := axqg_iv3a_1 ax_WW1
theorem axq1_iv3b_1 : ax_RO ax_wM1 (ax_XM 1) axu1_iv3b_1 := axqg_iv3b_1 ax_WW1
theorem axq1_iv1_2 : ax_RO ax_wM1 (ax_XM 1) axu1_iv1_2 := axqg_iv1_2 ax_WW1
theorem axq1_iv2a_2 : ax_RO ax_wM1 (ax_XM 1) axu1_iv2a_2 := axqg_iv2a_2 ax_WW1
theorem axq1_iv2b_2 : ax_RO ax_wM1 (ax_XM 1) axu1_iv2b_2 := axqg_iv2b_2 ax_WW1
theorem axq1_iv3a_2 : ax_RO ax_wM1 (ax_XM 1) axu1_iv3a_2 := axqg_iv3a_2 ax_WW1
theorem axq1_iv3b_2 : ax_RO ax_wM1 (ax_XM 1) axu1_iv3b_2 := axqg_iv3b_2 ax_WW1
theorem axq1_iv1_3 : ax_RO ax_wM1 (ax_XM 1) axu1_iv1_3 := axqg_iv1_3 ax_WW1
theorem axq1_iv2a_3 : ax_RO ax_wM1 (ax_XM 1) axu1_iv2a_3 := axqg_iv2a_3 ax_WW1
theorem axq1_iv2b_3 : ax_RO ax_wM1 (ax_XM 1) axu1_iv2b_3 := axqg_iv2b_3 ax_WW1
theorem axq1_iv3a_3 : ax_RO ax_wM1 (ax_XM 1) axu1_iv3a_3 := axqg_iv3a_3 ax_WW1
theorem axq1_iv3b_3 : ax_RO ax_wM1 (ax_XM 1) axu1_iv3b_3 := axqg_iv3b_3 ax_WW1
theorem axq1_iv1_4 : ax_RO ax_wM1 (ax_XM 1) axu1_iv1_4 := axqg_iv1_4 ax_WW1
theorem axq1_iv2a_4 : ax_RO ax_wM1 (ax_XM 1) axu1_iv2a_4 := axqg_iv2a_4 ax_WW1
theorem axq1_iv2b_4 : ax_RO ax_wM1 (ax_XM 1) axu1_iv2b_4 := axqg_iv2b_4 ax_WW1
theorem axq1_iv3a_4 : ax_RO ax_wM1 (ax_XM 1) axu1_iv3a_4 := axqg_iv3a_4 ax_WW1
theorem axq1_iv3b_4 : ax_RO ax_wM1 (ax_XM 1) axu1_iv3b_4 := axqg_iv3b_4 ax_WW1
theorem axq1_iv1_5 : ax_RO ax_wM1 (ax_XM 1) axu1_iv1_5 := axqg_iv1_5 ax_WW1
theorem axq1_iv2a_5 : ax_RO ax_wM1 (ax_XM 1) axu1_iv2a_5 := axqg_iv2a_5 ax_WW1
theorem axq1_iv2b_5 : ax_RO ax_wM1 (ax_XM 1) axu1_iv2b_5 := axqg_iv2b_5 ax_WW1
theorem axq1_iv3a_5 : ax_RO ax_wM1 (ax_XM 1) axu1_iv3a_5 := axqg_iv3a_5 ax_WW1
theorem axq1_iv3b_5 : ax_RO ax_wM1 (ax_XM 1) axu1_iv3b_5 := axqg_iv3b_5 ax_WW1
theorem axq1_iv1_6 : ax_RO ax_wM1 (ax_XM 1) axu1_iv1_6 := axqg_iv1_6 ax_WW1
theorem axq1_iv2a_6 : ax_RO ax_wM1 (ax_XM 1) axu1_iv2a_6 := axqg_iv2a_6 ax_WW1
theorem axq1_iv2b_6 : ax_RO ax_wM1 (ax_XM 1) axu1_iv2b_6 := axqg_iv2b_6 ax_WW1
theorem axq1_iv3a_6 : ax_RO ax_wM1 (ax_XM 1) axu1_iv3a_6 := axqg_iv3a_6 ax_WW1
theorem axq1_iv3b_6 : ax_RO ax_wM1 (ax_XM 1) axu1_iv3b_6 := axqg_iv3b_6 ax_WW1
theorem axq1_iv1_7 : ax_RO ax_wM1 (ax_XM 1) axu1_iv1_7 := axqg_iv1_7 ax_WW1
theorem axq1_iv2a_7 : ax_RO ax_wM1 (ax_XM 1) axu1_iv2a_7 := axqg_iv2a_7 ax_WW1
theorem axq1_iv2b_7 : ax_RO ax_wM1 (ax_XM 1) axu1_iv2b_7 := axqg_iv2b_7 ax_WW1
theorem axq1_iv3a_7 : ax_RO ax_wM1 (ax_XM 1) axu1_iv3a_7 := axqg_iv3a_7 ax_WW1
theorem axq1_iv3b_7 : ax_RO ax_wM1 (ax_XM 1) axu1_iv3b_7 := axqg_iv3b_7 ax_WW1
theorem axq1_nu1a_1 : ax_RO ax_wM1 (ax_XM 1) axu1_nu1a_1 := axqg_nu1a_1 ax_WW1
theorem axq1_nu1b_1 : ax_RO ax_wM1 (ax_XM 1) axu1_nu1b_1 := axqg_nu1b_1 ax_WW1
theorem axq1_nu2a_1 : ax_RO ax_wM1 (ax_XM 1) axu1_nu2a_1 := axqg_nu2a_1 ax_WW1
theorem axq1_nu2b_1 : ax_RO ax_wM1 (ax_XM 1) axu1_nu2b_1 := axqg_nu2b_1 ax_WW1
theorem axq1_nu3_1 : ax_RO ax_wM1 (ax_XM 1) axu1_nu3_1 := by
  intro ρ hp hE hT
  have j0 : ρ 0 % 4 = 1 := pz_gj hE 0 (Nat.le_of_ble_eq_true rfl) rfl
  have j1 : ρ 1 % 4 = 1 := pz_gj hE 1 (Nat.le_of_ble_eq_true rfl) rfl
  obtain ⟨i2a, i2b, i2c, i2d⟩ := pz_gi hE 2 2147483651 2147483651 (Nat.le_of_ble_eq_true rfl) rfl
  obtain ⟨i3a, i3b, i3c, i3d⟩ := pz_gi hE 3 2147483650 2147483658 (Nat.le_of_ble_eq_true rfl) rfl
  have c_token : ay_at hp 173 15 = some (ρ 2) := ay_gfj hE 702 60 11 173 15 (by decide) (ax_vlq rfl rfl) (ax_vlj rfl rfl)
  have c_number : ay_at hp 173 16 = some (ρ 3) := ay_gfj hE 702 64 15 173 16 (by decide) (ax_vlq rfl rfl) (ax_vlj rfl rfl)
  obtain ⟨-, -, -, -, -, F151⟩ : ay_ex hp 173 ∧ ay_ex hp 173 ∧ ay_ex hp 173 ∧ ay_ex hp 173 ∧ ay_ex hp 173 ∧ pz_y151 (ρ 0) (ρ 1) (ay_at hp 173 13) (ay_at hp 173 14) (ay_at hp 173 15) (ay_at hp 173 16) (ay_at hp 173 17) := (ax_XF_lt (x := 151) (Nat.le_of_ble_eq_true rfl)).mp (ax_gx hE (151, [3, 7]) (by decide))
  rw [c_token] at F151
  rw [c_number] at F151
  obtain ⟨-, -, -, -, -, -, -, -, -, -, -, F152⟩ : ay_ex hp 175 ∧ ay_ex hp 176 ∧ ay_ex hp 177 ∧ ay_ex hp 178 ∧ ay_ex hp 179 ∧ ay_ex hp 173 ∧ ay_ex hp 173 ∧ ay_ex hp 173 ∧ ay_ex hp 173 ∧ ay_ex hp 173 ∧ ay_ex hp 181 ∧ pz_y152 0 (ρ 0) (ρ 1) (ay_at hp 175 0) (ay_at hp 176 0) (ay_at hp 177 0) (ay_at hp 178 0) (ay_at hp 179 0) (ay_at hp 173 23) (ay_at hp 173 25) (ay_at hp 173 24) (ay_at hp 173 18) (ay_at hp 173 19) (ay_at hp 181) := (ax_XF_lt (x := 152) (Nat.le_of_ble_eq_true rfl)).mp (ax_gx hE (152, [3, 7]) (by decide))
  have F171 : pz7 (pz_gt (ρ 0)) (pz_gN (ρ 0)) ((ρ 1) / 4) 1 := (ax_XF_lt (x := 171) (Nat.le_of_ble_eq_true rfl)).mp (ax_gx hE (171, [3, 7]) (by decide))
  have ht : ρ 2 / 4 = pz_tok (pz_kd (pz_gt (ρ 0)) (pz_gN (ρ 0)) (pz_p (pz_cf (pz_gt (ρ 0)) (pz_gN (ρ 0)) (ρ 1 / 4)))) := F151.2.2.1
  have hc := pz_tok_c (pz_kd (pz_gt (ρ 0)) (pz_gN (ρ 0)) (pz_p (pz_cf (pz_gt (ρ 0)) (pz_gN (ρ 0)) (ρ 1 / 4))))
  have hk : pz_kd (pz_gt (ρ 0)) (pz_gN (ρ 0)) (pz_p (pz_cf (pz_gt (ρ 0)) (pz_gN (ρ 0)) (ρ 1 / 4))) = 2 := (by rcases hc with h | h | h | h | h <;> omega)
  have vl := pz_mc (F151.2.2.2.1 hk)
  replace vl : (ρ 3 / 4 ≤ 1000 ∧ pz_vl (pz_gt (ρ 0)) (pz_gN (ρ 0)) (pz_p (pz_cf (pz_gt (ρ 0)) (pz_gN (ρ 0)) (ρ 1 / 4))) = ρ 3 / 4) ∨ (1000 < ρ 3 / 4 ∧ pz_vl (pz_gt (ρ 0)) (pz_gN (ρ 0)) (pz_p (pz_cf (pz_gt (ρ 0)) (pz_gN (ρ 0)) (ρ 1 / 4))) = 1000) := vl
  have h66 : pz66 (pz_gt (ρ 0)) (pz_gN (ρ 0)) (ρ 1 / 4) (ρ 3 / 4) := ⟨hk, by omega⟩
  have st := pq_sw3 (pz_m50 F151 F152) F171 h66 (by omega) (by omega)
  obtain ⟨ρ', h1, h2⟩ := pz_pn1 (K := ρ 1 / 4 + 1) (xf := [(153, [3, 19]), (182, [7, 19]), (166, [3, 7, 15])]) hE (by decide) (fun ρ' h1 h2 x hx => by
    have q0 : ρ' 0 = ρ 0 := h1 0 (by decide)
    have q1 : ρ' 1 = ρ 1 := h1 1 (by decide)
    have q2 : ρ' 2 = ρ 2 := h1 2 (by decide)
    have q3 : ρ' 3 = ρ 3 := h1 3 (by decide)
    rcases List.mem_cons.mp hx with e | hx
    · subst e
      refine (ax_XF_lt (x := 153) (Nat.le_of_ble_eq_true rfl)).mpr ?_
      show ay_ex hp 173 ∧ pz_at (pz_gt (ρ' 0)) (pz_gN (ρ' 0)) (ay_ln (ay_at hp 173 13)) = pz_at (pz_gt (ρ' 0)) (pz_gN (ρ' 0)) (pz_p (pz_cF (ρ' 0) (ρ' 4)))
      rw [q0, h2]
      refine ⟨(ax_cellT hT (q := 173) (g := 11) (ax_wc ax_WW1 ax_cg_173)), ?_⟩
      exact pz_l153 (pz_41 _) st.1.1
    rcases List.mem_cons.mp hx with e | hx
    · subst e
      refine (ax_XF_lt (x := 182) (Nat.le_of_ble_eq_true rfl)).mpr ?_
      show (ρ' 4) / 4 = (ρ' 1) / 4 + 1
      rw [q1, h2]
      rw [pz_41]
    cases List.mem_singleton.mp hx
    refine (ax_XF_lt (x := 166) (Nat.le_of_ble_eq_true rfl)).mpr ?_
    show pz66 (pz_gt (ρ' 0)) (pz_gN (ρ' 0)) ((ρ' 1) / 4) ((ρ' 3) / 4)
    rw [q0, q1, q3]
    exact h66)
  exact ⟨(fun y hy => by cases hy), _, List.mem_cons_self, ρ', h1, h2⟩

theorem axq1_nu1a_4 : ax_RO ax_wM1 (ax_XM 1) axu1_nu1a_4 := axqg_nu1a_4 ax_WW1
theorem axq1_nu1b_4 : ax_RO ax_wM1 (ax_XM 1) axu1_nu1b_4 := axqg_nu1b_4 ax_WW1
theorem axq1_nu2_4 : ax_RO ax_wM1 (ax_XM 1) axu1_nu2_4 := axqg_nu2_4 ax_WW1
theorem axq1_nu3_4 : ax_RO ax_wM1 (ax_XM 1) axu1_nu3_4 := by
  intro ρ hp hE hT
  have j0 : ρ 0 % 4 = 1 := pz_gj hE 0 (Nat.le_of_ble_eq_true rfl) rfl
  have j1 : ρ 1 % 4 = 1 := pz_gj hE 1 (Nat.le_of_ble_eq_true rfl) rfl
  obtain ⟨i2a, i2b, i2c, i2d⟩ := pz_gi hE 2 2147483651 2147483651 (Nat.le_of_ble_eq_true rfl) rfl
  obtain ⟨i3a, i3b, i3c, i3d⟩ := pz_gi hE 3 2147483648 2147493647 (Nat.le_of_ble_eq_true rfl) rfl
  obtain ⟨i4a, i4b, i4c, i4d⟩ := pz_gi hE 4 2147483647 2147493646 (Nat.le_of_ble_eq_true rfl) rfl
  have c_token : ay_at hp 173 15 = some (ρ 2) := ay_gfj hE 702 60 11 173 15 (by decide) (ax_vlq rfl rfl) (ax_vlj rfl rfl)
  have c_number : ay_at hp 173 16 = some (ρ 3) := ay_gfj hE 702 64 15 173 16 (by decide) (ax_vlq rfl rfl) (ax_vlj rfl rfl)
  have r1 : (ρ 3 / 4 + 2147483648) % 4294967296 ≤ (ρ 4 / 4 + 2147483648) % 4294967296 := pz_gc hE 5 15 19 (Nat.le_of_ble_eq_true rfl) (by decide)
  obtain ⟨-, -, -, -, -, F151⟩ : ay_ex hp 173 ∧ ay_ex hp 173 ∧ ay_ex hp 173 ∧ ay_ex hp 173 ∧ ay_ex hp 173 ∧ pz_y151 (ρ 0) (ρ 1) (ay_at hp 173 13) (ay_at hp 173 14) (ay_at hp 173 15) (ay_at hp 173 16) (ay_at hp 173 17) := (ax_XF_lt (x := 151) (Nat.le_of_ble_eq_true rfl)).mp (ax_gx hE (151, [3, 7]) (by decide))
  rw [c_token] at F151
  rw [c_number] at F151
  obtain ⟨-, -, -, -, -, -, -, -, -, -, -, F152⟩ : ay_ex hp 175 ∧ ay_ex hp 176 ∧ ay_ex hp 177 ∧ ay_ex hp 178 ∧ ay_ex hp 179 ∧ ay_ex hp 173 ∧ ay_ex hp 173 ∧ ay_ex hp 173 ∧ ay_ex hp 173 ∧ ay_ex hp 173 ∧ ay_ex hp 181 ∧ pz_y152 0 (ρ 0) (ρ 1) (ay_at hp 175 0) (ay_at hp 176 0) (ay_at hp 177 0) (ay_at hp 178 0) (ay_at hp 179 0) (ay_at hp 173 23) (ay_at hp 173 25) (ay_at hp 173 24) (ay_at hp 173 18) (ay_at hp 173 19) (ay_at hp 181) := (ax_XF_lt (x := 152) (Nat.le_of_ble_eq_true rfl)).mp (ax_gx hE (152, [3, 7]) (by decide))
  have F174 : pz7 (pz_gt (ρ 0)) (pz_gN (ρ 0)) ((ρ 1) / 4) 4 := (ax_XF_lt (x := 174) (Nat.le_of_ble_eq_true rfl)).mp (ax_gx hE (174, [3, 7]) (by decide))
  have F203 : pz_x103 (ρ 0) (ρ 1) (ρ 4) := (ax_XF_lt (x := 203) (Nat.le_of_ble_eq_true rfl)).mp (ax_gx hE (203, [3, 7, 19]) (by decide))
  have ht : ρ 2 / 4 = pz_tok (pz_kd (pz_gt (ρ 0)) (pz_gN (ρ 0)) (pz_p (pz_cf (pz_gt (ρ 0)) (pz_gN (ρ 0)) (ρ 1 / 4)))) := F151.2.2.1
  have hc := pz_tok_c (pz_kd (pz_gt (ρ 0)) (pz_gN (ρ 0)) (pz_p (pz_cf (pz_gt (ρ 0)) (pz_gN (ρ 0)) (ρ 1 / 4))))
  have hk : pz_kd (pz_gt (ρ 0)) (pz_gN (ρ 0)) (pz_p (pz_cf (pz_gt (ρ 0)) (pz_gN (ρ 0)) (ρ 1 / 4))) = 2 := (by rcases hc with h | h | h | h | h <;> omega)
  have vl := pz_mc (F151.2.2.2.1 hk)
  replace vl : (ρ 3 / 4 ≤ 1000 ∧ pz_vl (pz_gt (ρ 0)) (pz_gN (ρ 0)) (pz_p (pz_cf (pz_gt (ρ 0)) (pz_gN (ρ 0)) (ρ 1 / 4))) = ρ 3 / 4) ∨ (1000 < ρ 3 / 4 ∧ pz_vl (pz_gt (ρ 0)) (pz_gN (ρ 0)) (pz_p (pz_cf (pz_gt (ρ 0)) (pz_gN (ρ 0)) (ρ 1 / 4))) = 1000) := vl
  replace F203 : (ρ 4 / 4 + 2147483648) % 4294967296 + 1 = pz_no (pz_cf (pz_gt (ρ 0)) (pz_gN (ρ 0)) (ρ 1 / 4)) + 2147483648 := F203
  have h9 := pz_no9 F174 (by decide)
  have h04 : pz104 (pz_gt (ρ 0)) (pz_gN (ρ 0)) (ρ 1 / 4) (ρ 3 / 4) := ⟨⟨hk, by omega⟩, by omega⟩
  have st := pq_lk4 (pz_m50 F151 F152) F174 h04
  obtain ⟨ρ', h1, h2⟩ := pz_pn1 (K := ρ 1 / 4 + 1) (xf := [(153, [3, 23]), (182, [7, 23]), (204, [3, 7, 15])]) hE (by decide) (fun ρ' h1 h2 x hx => by
    have q0 : ρ' 0 = ρ 0 := h1 0 (by decide)
    have q1 : ρ' 1 = ρ 1 := h1 1 (by decide)
    have q2 : ρ' 2 = ρ 2 := h1 2 (by decide)
    have q3 : ρ' 3 = ρ 3 := h1 3 (by decide)
    have q4 : ρ' 4 = ρ 4 := h1 4 (by decide)
    rcases List.mem_cons.mp hx with e | hx
    · subst e
      refine (ax_XF_lt (x := 153) (Nat.le_of_ble_eq_true rfl)).mpr ?_
      show ay_ex hp 173 ∧ pz_at (pz_gt (ρ' 0)) (pz_gN (ρ' 0)) (ay_ln (ay_at hp 173 13)) = pz_at (pz_gt (ρ' 0)) (pz_gN (ρ' 0)) (pz_p (pz_cF (ρ' 0) (ρ' 5)))
      rw [q0, h2]
      refine ⟨(ax_cellT hT (q := 173) (g := 11) (ax_wc ax_WW1 ax_cg_173)), ?_⟩
      exact pz_l153 (pz_41 _) st.1.1
    rcases List.mem_cons.mp hx with e | hx
    · subst e
      refine (ax_XF_lt (x := 182) (Nat.le_of_ble_eq_true rfl)).mpr ?_
      show (ρ' 5) / 4 = (ρ' 1) / 4 + 1
      rw [q1, h2]
      rw [pz_41]
    cases List.mem_singleton.mp hx
    refine (ax_XF_lt (x := 204) (Nat.le_of_ble_eq_true rfl)).mpr ?_
    show pz104 (pz_gt (ρ' 0)) (pz_gN (ρ' 0)) ((ρ' 1) / 4) ((ρ' 3) / 4)
    rw [q0, q1, q3]
    exact h04)
  exact ⟨(fun y hy => by cases hy), _, List.mem_cons_self, ρ', h1, h2⟩

theorem axq1_nu1a_6 : ax_RO ax_wM1 (ax_XM 1) axu1_nu1a_6 := axqg_nu1a_6 ax_WW1
theorem axq1_nu1b_6 : ax_RO ax_wM1 (ax_XM 1) axu1_nu1b_6 := axqg_nu1b_6 ax_WW1
theorem axq1_nu2_6 : ax_RO ax_wM1 (ax_XM 1) axu1_nu2_6 := axqg_nu2_6 ax_WW1
theorem axq1_nu3_6 : ax_RO ax_wM1 (ax_XM 1) axu1_nu3_6 := by
  intro ρ hp hE hT
  have j0 : ρ 0 % 4 = 1 := pz_gj hE 0 (Nat.le_of_ble_eq_true rfl) rfl
  have j1 : ρ 1 % 4 = 1 := pz_gj hE 1 (Nat.le_of_ble_eq_true rfl) rfl
  obtain ⟨i2a, i2b, i2c, i2d⟩ := pz_gi hE 2 2147483651 2147483651 (Nat.le_of_ble_eq_true rfl) rfl
  obtain ⟨i3a, i3b, i3c, i3d⟩ := pz_gi hE 3 2147483648 2147493647 (Nat.le_of_ble_eq_true rfl) rfl
  obtain ⟨i4a, i4b, i4c, i4d⟩ := pz_gi hE 4 2147483647 2147493646 (Nat.le_of_ble_eq_true rfl) rfl
  have c_token : ay_at hp 173 15 = some (ρ 2) := ay_gfj hE 702 60 11 173 15 (by decide) (ax_vlq rfl rfl) (ax_vlj rfl rfl)
  have c_number : ay_at hp 173 16 = some (ρ 3) := ay_gfj hE 702 64 15 173 16 (by decide) (ax_vlq rfl rfl) (ax_vlj rfl rfl)
  have r1 : (ρ 3 / 4 + 2147483648) % 4294967296 ≤ (ρ 4 / 4 + 2147483648) % 4294967296 := pz_gc hE 5 15 19 (Nat.le_of_ble_eq_true rfl) (by decide)
  obtain ⟨-, -, -, -, -, F151⟩ : ay_ex hp 173 ∧ ay_ex hp 173 ∧ ay_ex hp 173 ∧ ay_ex hp 173 ∧ ay_ex hp 173 ∧ pz_y151 (ρ 0) (ρ 1) (ay_at hp 173 13) (ay_at hp 173 14) (ay_at hp 173 15) (ay_at hp 173 16) (ay_at hp 173 17) := (ax_XF_lt (x := 151) (Nat.le_of_ble_eq_true rfl)).mp (ax_gx hE (151, [3, 7]) (by decide))
  rw [c_token] at F151
  rw [c_number] at F151
  obtain ⟨-, -, -, -, -, -, -, -, -, -, -, F152⟩ : ay_ex hp 175 ∧ ay_ex hp 176 ∧ ay_ex hp 177 ∧ ay_ex hp 178 ∧ ay_ex hp 179 ∧ ay_ex hp 173 ∧ ay_ex hp 173 ∧ ay_ex hp 173 ∧ ay_ex hp 173 ∧ ay_ex hp 173 ∧ ay_ex hp 181 ∧ pz_y152 0 (ρ 0) (ρ 1) (ay_at hp 175 0) (ay_at hp 176 0) (ay_at hp 177 0) (ay_at hp 178 0) (ay_at hp 179 0) (ay_at hp 173 23) (ay_at hp 173 25) (ay_at hp 173 24) (ay_at hp 173 18) (ay_at hp 173 19) (ay_at hp 181) := (ax_XF_lt (x := 152) (Nat.le_of_ble_eq_true rfl)).mp (ax_gx hE (152, [3, 7]) (by decide))
  have F176 : pz7 (pz_gt (ρ 0)) (pz_gN (ρ 0)) ((ρ 1) / 4) 6 := (ax_XF_lt (x := 176) (Nat.le_of_ble_eq_true rfl)).mp (ax_gx hE (176, [3, 7]) (by decide))
  have F203 : pz_x103 (ρ 0) (ρ 1) (ρ 4) := (ax_XF_lt (x := 203) (Nat.le_of_ble_eq_true rfl)).mp (ax_gx hE (203, [3, 7, 19]) (by decide))
  have ht : ρ 2 / 4 = pz_tok (pz_kd (pz_gt (ρ 0)) (pz_gN (ρ 0)) (pz_p (pz_cf (pz_gt (ρ 0)) (pz_gN (ρ 0)) (ρ 1 / 4)))) := F151.2.2.1
  have hc := pz_tok_c (pz_kd (pz_gt (ρ 0)) (pz_gN (ρ 0)) (pz_p (pz_cf (pz_gt (ρ 0)) (pz_gN (ρ 0)) (ρ 1 / 4))))
  have hk : pz_kd (pz_gt (ρ 0)) (pz_gN (ρ 0)) (pz_p (pz_cf (pz_gt (ρ 0)) (pz_gN (ρ 0)) (ρ 1 / 4))) = 2 := (by rcases hc with h | h | h | h | h <;> omega)
  have vl := pz_mc (F151.2.2.2.1 hk)
  replace vl : (ρ 3 / 4 ≤ 1000 ∧ pz_vl (pz_gt (ρ 0)) (pz_gN (ρ 0)) (pz_p (pz_cf (pz_gt (ρ 0)) (pz_gN (ρ 0)) (ρ 1 / 4))) = ρ 3 / 4) ∨ (1000 < ρ 3 / 4 ∧ pz_vl (pz_gt (ρ 0)) (pz_gN (ρ 0)) (pz_p (pz_cf (pz_gt (ρ 0)) (pz_gN (ρ 0)) (ρ 1 / 4))) = 1000) := vl
  replace F203 : (ρ 4 / 4 + 2147483648) % 4294967296 + 1 = pz_no (pz_cf (pz_gt (ρ 0)) (pz_gN (ρ 0)) (ρ 1 / 4)) + 2147483648 := F203
  have h9 := pz_no9 F176 (by decide)
  have h04 : pz104 (pz_gt (ρ 0)) (pz_gN (ρ 0)) (ρ 1 / 4) (ρ 3 / 4) := ⟨⟨hk, by omega⟩, by omega⟩
  have st := pq_rl_ro2 (pz_m50 F151 F152) F176 h04
  obtain ⟨ρ', h1, h2⟩ := pz_pn1 (K := ρ 1 / 4 + 1) (xf := [(153, [3, 23]), (182, [7, 23]), (204, [3, 7, 15])]) hE (by decide) (fun ρ' h1 h2 x hx => by
    have q0 : ρ' 0 = ρ 0 := h1 0 (by decide)
    have q1 : ρ' 1 = ρ 1 := h1 1 (by decide)
    have q2 : ρ' 2 = ρ 2 := h1 2 (by decide)
    have q3 : ρ' 3 = ρ 3 := h1 3 (by decide)
    have q4 : ρ' 4 = ρ 4 := h1 4 (by decide)
    rcases List.mem_cons.mp hx with e | hx
    · subst e
      refine (ax_XF_lt (x := 153) (Nat.le_of_ble_eq_true rfl)).mpr ?_
      show ay_ex hp 173 ∧ pz_at (pz_gt (ρ' 0)) (pz_gN (ρ' 0)) (ay_ln (ay_at hp 173 13)) = pz_at (pz_gt (ρ' 0)) (pz_gN (ρ' 0)) (pz_p (pz_cF (ρ' 0) (ρ' 5)))
      rw [q0, h2]
      refine ⟨(ax_cellT hT (q := 173) (g := 11) (ax_wc ax_WW1 ax_cg_173)), ?_⟩
      exact pz_l153 (pz_41 _) st.1.1
    rcases List.mem_cons.mp hx with e | hx
    · subst e
      refine (ax_XF_lt (x := 182) (Nat.le_of_ble_eq_true rfl)).mpr ?_
      show (ρ' 5) / 4 = (ρ' 1) / 4 + 1
      rw [q1, h2]
      rw [pz_41]
    cases List.mem_singleton.mp hx
    refine (ax_XF_lt (x := 204) (Nat.le_of_ble_eq_true rfl)).mpr ?_
    show pz104 (pz_gt (ρ' 0)) (pz_gN (ρ' 0)) ((ρ' 1) / 4) ((ρ' 3) / 4)
    rw [q0, q1, q3]
    exact h04)
  exact ⟨(fun y hy => by cases hy), _, List.mem_cons_self, ρ', h1, h2⟩

theorem axq1_nu1a_7 : ax_RO ax_wM1 (ax_XM 1) axu1_nu1a_7 := axqg_nu1a_7 ax_WW1
theorem axq1_nu1b_7 : ax_RO ax_wM1 (ax_XM 1) axu1_nu1b_7 := axqg_nu1b_7 ax_WW1
theorem axq1_nu2a_7 : ax_RO ax_wM1 (ax_XM 1) axu1_nu2a_7 := axqg_nu2a_7 ax_WW1
theorem axq1_nu2b_7 : ax_RO ax_wM1 (ax_XM 1) axu1_nu2b_7 := axqg_nu2b_7 ax_WW1
theorem axq1_nu3_7 : ax_RO ax_wM1 (ax_XM 1) axu1_nu3_7 := by
  intro ρ hp hE hT
  have j0 : ρ 0 % 4 = 1 := pz_gj hE 0 (Nat.le_of_ble_eq_true rfl) rfl
  have j1 : ρ 1 % 4 = 1 := pz_gj hE 1 (Nat.le_of_ble_eq_true rfl) rfl
  obtain ⟨i2a, i2b, i2c, i2d⟩ := pz_gi hE 2 2147483651 2147483651 (Nat.le_of_ble_eq_true rfl) rfl
  obtain ⟨i3a, i3b, i3c, i3d⟩ := pz_gi hE 3 2147483649 2147483651 (Nat.le_of_ble_eq_true rfl) rfl
  have c_token : ay_at hp 173 15 = some (ρ 2) := ay_gfj hE 702 60 11 173 15 (by decide) (ax_vlq rfl rfl) (ax_vlj rfl rfl)
  have c_number : ay_at hp 173 16 = some (ρ 3) := ay_gfj hE 702 64 15 173 16 (by decide) (ax_vlq rfl rfl) (ax_vlj rfl rfl)
  obtain ⟨-, -, -, -, -, F151⟩ : ay_ex hp 173 ∧ ay_ex hp 173 ∧ ay_ex hp 173 ∧ ay_ex hp 173 ∧ ay_ex hp 173 ∧ pz_y151 (ρ 0) (ρ 1) (ay_at hp 173 13) (ay_at hp 173 14) (ay_at hp 173 15) (ay_at hp 173 16) (ay_at hp 173 17) := (ax_XF_lt (x := 151) (Nat.le_of_ble_eq_true rfl)).mp (ax_gx hE (151, [3, 7]) (by decide))
  rw [c_token] at F151
  rw [c_number] at F151
  obtain ⟨-, -, -, -, -, -, -, -, -, -, -, F152⟩ : ay_ex hp 175 ∧ ay_ex hp 176 ∧ ay_ex hp 177 ∧ ay_ex hp 178 ∧ ay_ex hp 179 ∧ ay_ex hp 173 ∧ ay_ex hp 173 ∧ ay_ex hp 173 ∧ ay_ex hp 173 ∧ ay_ex hp 173 ∧ ay_ex hp 181 ∧ pz_y152 0 (ρ 0) (ρ 1) (ay_at hp 175 0) (ay_at hp 176 0) (ay_at hp 177 0) (ay_at hp 178 0) (ay_at hp 179 0) (ay_at hp 173 23) (ay_at hp 173 25) (ay_at hp 173 24) (ay_at hp 173 18) (ay_at hp 173 19) (ay_at hp 181) := (ax_XF_lt (x := 152) (Nat.le_of_ble_eq_true rfl)).mp (ax_gx hE (152, [3, 7]) (by decide))
  have F177 : pz7 (pz_gt (ρ 0)) (pz_gN (ρ 0)) ((ρ 1) / 4) 7 := (ax_XF_lt (x := 177) (Nat.le_of_ble_eq_true rfl)).mp (ax_gx hE (177, [3, 7]) (by decide))
  have ht : ρ 2 / 4 = pz_tok (pz_kd (pz_gt (ρ 0)) (pz_gN (ρ 0)) (pz_p (pz_cf (pz_gt (ρ 0)) (pz_gN (ρ 0)) (ρ 1 / 4)))) := F151.2.2.1
  have hc := pz_tok_c (pz_kd (pz_gt (ρ 0)) (pz_gN (ρ 0)) (pz_p (pz_cf (pz_gt (ρ 0)) (pz_gN (ρ 0)) (ρ 1 / 4))))
  have hk : pz_kd (pz_gt (ρ 0)) (pz_gN (ρ 0)) (pz_p (pz_cf (pz_gt (ρ 0)) (pz_gN (ρ 0)) (ρ 1 / 4))) = 2 := (by rcases hc with h | h | h | h | h <;> omega)
  have vl := pz_mc (F151.2.2.2.1 hk)
  replace vl : (ρ 3 / 4 ≤ 1000 ∧ pz_vl (pz_gt (ρ 0)) (pz_gN (ρ 0)) (pz_p (pz_cf (pz_gt (ρ 0)) (pz_gN (ρ 0)) (ρ 1 / 4))) = ρ 3 / 4) ∨ (1000 < ρ 3 / 4 ∧ pz_vl (pz_gt (ρ 0)) (pz_gN (ρ 0)) (pz_p (pz_cf (pz_gt (ρ 0)) (pz_gN (ρ 0)) (ρ 1 / 4))) = 1000) := vl
  have h66 : pz66 (pz_gt (ρ 0)) (pz_gN (ρ 0)) (ρ 1 / 4) (ρ 3 / 4) := ⟨hk, by omega⟩
  have st := pq_rl_rm2 (pz_m50 F151 F152) F177 h66 (by omega) (by omega)
  obtain ⟨ρ', h1, h2⟩ := pz_pn1 (K := ρ 1 / 4 + 1) (xf := [(153, [3, 19]), (182, [7, 19]), (166, [3, 7, 15])]) hE (by decide) (fun ρ' h1 h2 x hx => by
    have q0 : ρ' 0 = ρ 0 := h1 0 (by decide)
    have q1 : ρ' 1 = ρ 1 := h1 1 (by decide)
    have q2 : ρ' 2 = ρ 2 := h1 2 (by decide)
    have q3 : ρ' 3 = ρ 3 := h1 3 (by decide)
    rcases List.mem_cons.mp hx with e | hx
    · subst e
      refine (ax_XF_lt (x := 153) (Nat.le_of_ble_eq_true rfl)).mpr ?_
      show ay_ex hp 173 ∧ pz_at (pz_gt (ρ' 0)) (pz_gN (ρ' 0)) (ay_ln (ay_at hp 173 13)) = pz_at (pz_gt (ρ' 0)) (pz_gN (ρ' 0)) (pz_p (pz_cF (ρ' 0) (ρ' 4)))
      rw [q0, h2]
      refine ⟨(ax_cellT hT (q := 173) (g := 11) (ax_wc ax_WW1 ax_cg_173)), ?_⟩
      exact pz_l153 (pz_41 _) st.1.1
    rcases List.mem_cons.mp hx with e | hx
    · subst e
      refine (ax_XF_lt (x := 182) (Nat.le_of_ble_eq_true rfl)).mpr ?_
      show (ρ' 4) / 4 = (ρ' 1) / 4 + 1
      rw [q1, h2]
      rw [pz_41]
    cases List.mem_singleton.mp hx
    refine (ax_XF_lt (x := 166) (Nat.le_of_ble_eq_true rfl)).mpr ?_
    show pz66 (pz_gt (ρ' 0)) (pz_gN (ρ' 0)) ((ρ' 1) / 4) ((ρ' 3) / 4)
    rw [q0, q1, q3]
    exact h66)
  exact ⟨(fun y hy => by cases hy), _, List.mem_cons_self, ρ', h1, h2⟩

theorem axq1_nd1 : ax_RO ax_wM1 (ax_XM 1) axu1_nd1 := by
  intro ρ hp hE hT
  have j0 : ρ 0 % 4 = 1 := pz_gj hE 0 (Nat.le_of_ble_eq_true rfl) rfl
  have j1 : ρ 1 % 4 = 1 := pz_gj hE 1 (Nat.le_of_ble_eq_true rfl) rfl
  obtain ⟨-, -, -, -, -, F151⟩ : ay_ex hp 173 ∧ ay_ex hp 173 ∧ ay_ex hp 173 ∧ ay_ex hp 173 ∧ ay_ex hp 173 ∧ pz_y151 (ρ 0) (ρ 1) (ay_at hp 173 13) (ay_at hp 173 14) (ay_at hp 173 15) (ay_at hp 173 16) (ay_at hp 173 17) := (ax_XF_lt (x := 151) (Nat.le_of_ble_eq_true rfl)).mp (ax_gx hE (151, [3, 7]) (by decide))
  obtain ⟨-, -, -, -, -, -, -, -, -, -, -, F152⟩ : ay_ex hp 175 ∧ ay_ex hp 176 ∧ ay_ex hp 177 ∧ ay_ex hp 178 ∧ ay_ex hp 179 ∧ ay_ex hp 173 ∧ ay_ex hp 173 ∧ ay_ex hp 173 ∧ ay_ex hp 173 ∧ ay_ex hp 173 ∧ ay_ex hp 181 ∧ pz_y152 0 (ρ 0) (ρ 1) (ay_at hp 175 0) (ay_at hp 176 0) (ay_at hp 177 0) (ay_at hp 178 0) (ay_at hp 179 0) (ay_at hp 173 23) (ay_at hp 173 25) (ay_at hp 173 24) (ay_at hp 173 18) (ay_at hp 173 19) (ay_at hp 181) := (ax_XF_lt (x := 152) (Nat.le_of_ble_eq_true rfl)).mp (ax_gx hE (152, [3, 7]) (by decide))
  have F181 : pz_y181 (ρ 0) (ρ 1) := (ax_XF_lt (x := 181) (Nat.le_of_ble_eq_true rfl)).mp (ax_gx hE (181, [3, 7]) (by decide))
  have F168 : pz_kd (pz_gt (ρ 0)) (pz_gN (ρ 0)) (pz_p (pz_cF (ρ 0) (ρ 1))) = (236) / 4 := (ax_XF_lt (x := 168) (Nat.le_of_ble_eq_true rfl)).mp (ax_gx hE (168, [3, 7, 236]) (by decide))
  have st := F181.elim (fun h => pq_rs4 (pz_m50 F151 F152) h (show _ = 59 from F168)) (fun h => pq_rs5 (pz_m50 F151 F152) h.1 h.2.1 (show _ = 59 from F168))
  obtain ⟨ρ', h1, h2⟩ := pz_pn1 (K := ρ 1 / 4 + 1) (xf := [(153, [3, 11]), (182, [7, 11]), (152, [3, 11]), (173, [3, 11])]) hE (by decide) (fun ρ' h1 h2 x hx => by
    have q0 : ρ' 0 = ρ 0 := h1 0 (by decide)
    have q1 : ρ' 1 = ρ 1 := h1 1 (by decide)
    rcases List.mem_cons.mp hx with e | hx
    · subst e
      refine (ax_XF_lt (x := 153) (Nat.le_of_ble_eq_true rfl)).mpr ?_
      show ay_ex hp 173 ∧ pz_at (pz_gt (ρ' 0)) (pz_gN (ρ' 0)) (ay_ln (ay_at hp 173 13)) = pz_at (pz_gt (ρ' 0)) (pz_gN (ρ' 0)) (pz_p (pz_cF (ρ' 0) (ρ' 2)))
      rw [q0, h2]
      refine ⟨(ax_cellT hT (q := 173) (g := 11) (ax_wc ax_WW1 ax_cg_173)), ?_⟩
      exact pz_l153 (pz_41 _) st.1.1
    rcases List.mem_cons.mp hx with e | hx
    · subst e
      refine (ax_XF_lt (x := 182) (Nat.le_of_ble_eq_true rfl)).mpr ?_
      show (ρ' 2) / 4 = (ρ' 1) / 4 + 1
      rw [q1, h2]
      rw [pz_41]
    rcases List.mem_cons.mp hx with e | hx
    · subst e
      refine (ax_XF_lt (x := 152) (Nat.le_of_ble_eq_true rfl)).mpr ?_
      show ay_ex hp 175 ∧ ay_ex hp 176 ∧ ay_ex hp 177 ∧ ay_ex hp 178 ∧ ay_ex hp 179 ∧ ay_ex hp 173 ∧ ay_ex hp 173 ∧ ay_ex hp 173 ∧ ay_ex hp 173 ∧ ay_ex hp 173 ∧ ay_ex hp 181 ∧ pz_y152 0 (ρ' 0) (ρ' 2) (ay_at hp 175 0) (ay_at hp 176 0) (ay_at hp 177 0) (ay_at hp 178 0) (ay_at hp 179 0) (ay_at hp 173 23) (ay_at hp 173 25) (ay_at hp 173 24) (ay_at hp 173 18) (ay_at hp 173 19) (ay_at hp 181)
      rw [q0, h2]
      refine ⟨(ax_cellT hT (q := 175) (g := 45) (ax_wc ax_WW1 ax_cg_175)), (ax_cellT hT (q := 176) (g := 46) (ax_wc ax_WW1 ax_cg_176)), (ax_cellT hT (q := 177) (g := 47) (ax_wc ax_WW1 ax_cg_177)), (ax_cellT hT (q := 178) (g := 48) (ax_wc ax_WW1 ax_cg_178)), (ax_cellT hT (q := 179) (g := 49) (ax_wc ax_WW1 ax_cg_179)), (ax_cellT hT (q := 173) (g := 11) (ax_wc ax_WW1 ax_cg_173)), (ax_cellT hT (q := 173) (g := 11) (ax_wc ax_WW1 ax_cg_173)), (ax_cellT hT (q := 173) (g := 11) (ax_wc ax_WW1 ax_cg_173)), (ax_cellT hT (q := 173) (g := 11) (ax_wc ax_WW1 ax_cg_173)), (ax_cellT hT (q := 173) (g := 11) (ax_wc ax_WW1 ax_cg_173)), (ax_cellT hT (q := 181) (g := 51) (ax_wc ax_WW1 ax_cg_181)), ?_⟩
      exact pz_l152 (pz_41 _) st.1.2
    cases List.mem_singleton.mp hx
    refine (ax_XF_lt (x := 173) (Nat.le_of_ble_eq_true rfl)).mpr ?_
    show pz7 (pz_gt (ρ' 0)) (pz_gN (ρ' 0)) ((ρ' 2) / 4) 3
    rw [q0, h2]
    rw [pz_41]
    exact st.2)
  exact ⟨(fun y hy => by cases hy), _, List.mem_cons_self, ρ', h1, h2⟩

theorem axq1_nd2 : ax_RO ax_wM1 (ax_XM 1) axu1_nd2 := axqg_nd2 ax_WW1
theorem axq1_t1 : ax_RO ax_wM1 (ax_XM 1) axu1_t1 := axqg_t1 ax_WW1
theorem axq1_ij1 : ax_RO ax_wM1 (ax_XM 1) axu1_ij1 := by
  intro ρ hp hE hT
  have j0 : ρ 0 % 4 = 1 := pz_gj hE 0 (Nat.le_of_ble_eq_true rfl) rfl
  have j1 : ρ 1 % 4 = 1 := pz_gj hE 1 (Nat.le_of_ble_eq_true rfl) rfl
  obtain ⟨i2a, i2b, i2c, i2d⟩ := pz_gi hE 2 0 4294967295 (Nat.le_of_ble_eq_true rfl) rfl
  obtain ⟨i3a, i3b, i3c, i3d⟩ := pz_gi hE 3 0 4294967295 (Nat.le_of_ble_eq_true rfl) rfl
  obtain ⟨-, -, -, -, -, -, -, -, -, -, -, F152⟩ : ay_ex hp 175 ∧ ay_ex hp 176 ∧ ay_ex hp 177 ∧ ay_ex hp 178 ∧ ay_ex hp 179 ∧ ay_ex hp 173 ∧ ay_ex hp 173 ∧ ay_ex hp 173 ∧ ay_ex hp 173 ∧ ay_ex hp 173 ∧ ay_ex hp 181 ∧ pz_y152 0 (ρ 0) (ρ 1) (ay_at hp 175 0) (ay_at hp 176 0) (ay_at hp 177 0) (ay_at hp 178 0) (ay_at hp 179 0) (ay_at hp 173 23) (ay_at hp 173 25) (ay_at hp 173 24) (ay_at hp 173 18) (ay_at hp 173 19) (ay_at hp 181) := (ax_XF_lt (x := 152) (Nat.le_of_ble_eq_true rfl)).mp (ax_gx hE (152, [3, 7]) (by decide))
  refine ⟨(fun y hy => by cases hy), _, List.mem_cons_self, ρ, fun _ _ => rfl, ax_px hE rfl (fun x hx => ?_)⟩
  cases List.mem_singleton.mp hx
  refine (ax_XF_lt (x := 215) (Nat.le_of_ble_eq_true rfl)).mpr ?_
  show pz_y215 (ρ 0) (ρ 1) (ρ 2) (ρ 3) (0)
  intro j x y hj
  exact absurd (show j < 0 from hj) (by omega)

theorem axq1_ij2a : ax_RO ax_wM1 (ax_XM 1) axu1_ij2a := by
  intro ρ hp hE hT
  have j0 : ρ 0 % 4 = 1 := pz_gj hE 0 (Nat.le_of_ble_eq_true rfl) rfl
  have j1 : ρ 1 % 4 = 1 := pz_gj hE 1 (Nat.le_of_ble_eq_true rfl) rfl
  obtain ⟨i2a, i2b, i2c, i2d⟩ := pz_gi hE 2 0 4294967295 (Nat.le_of_ble_eq_true rfl) rfl
  obtain ⟨i3a, i3b, i3c, i3d⟩ := pz_gi hE 3 0 4294967295 (Nat.le_of_ble_eq_true rfl) rfl
  obtain ⟨i4a, i4b, i4c, i4d⟩ := pz_gi hE 4 2147483648 2147483667 (Nat.le_of_ble_eq_true rfl) rfl
  obtain ⟨i5a, i5b, i5c, i5d⟩ := pz_gi hE 5 2147483648 2147483668 (Nat.le_of_ble_eq_true rfl) rfl
  obtain ⟨i6a, i6b, i6c, i6d⟩ := pz_gi hE 6 0 4294967295 (Nat.le_of_ble_eq_true rfl) rfl
  obtain ⟨i7a, i7b, i7c, i7d⟩ := pz_gi hE 7 0 4294967295 (Nat.le_of_ble_eq_true rfl) rfl
  obtain ⟨i8a, i8b, i8c, i8d⟩ := pz_gi hE 8 0 4294967295 (Nat.le_of_ble_eq_true rfl) rfl
  obtain ⟨i9a, i9b, i9c, i9d⟩ := pz_gi hE 9 0 4294967295 (Nat.le_of_ble_eq_true rfl) rfl
  obtain ⟨i10a, i10b, i10c, i10d⟩ := pz_gi hE 10 2147483648 2147483657 (Nat.le_of_ble_eq_true rfl) rfl
  obtain ⟨i11a, i11b, i11c, i11d⟩ := pz_gi hE 11 2147483648 2147483657 (Nat.le_of_ble_eq_true rfl) rfl
  have c_links : ay_at hp 176 0 = some (ρ 5) := ay_gfj hE 714 0 23 176 0 ax_m1 (ax_vlq rfl rfl) (ax_vlj rfl rfl)
  have r1 : (ρ 4 / 4 + 2147483648) % 4294967296 < (ρ 5 / 4 + 2147483648) % 4294967296 := pz_gc hE 2 19 23 (Nat.le_of_ble_eq_true rfl) ax_m2
  have s1 : (0 / 4 + 2147483648) % 4294967296 + (ρ 6 / 4 + 2147483648) % 4294967296 = (ρ 7 / 4 + 2147483648) % 4294967296 + 2147483648 := pz_gs hE 0 27 31 ax_m4
  have s2 : (ρ 7 / 4 + 2147483648) % 4294967296 + (0 / 4 + 2147483648) % 4294967296 = (ρ 8 / 4 + 2147483648) % 4294967296 + 2147483648 := pz_gs hE 31 0 35 ax_m5
  have c_ends : ay_at hp 181 (ρ 8 / 4) = some (ρ 10) := ay_gf hE 734 35 43 181 ax_m6 (ax_vlq rfl rfl)
  have s3 : (ρ 7 / 4 + 2147483648) % 4294967296 + (4 / 4 + 2147483648) % 4294967296 = (ρ 9 / 4 + 2147483648) % 4294967296 + 2147483648 := pz_gs hE 31 4 39 ax_m7
  have c_ends2 : ay_at hp 181 (ρ 9 / 4) = some (ρ 11) := ay_gf hE 734 39 47 181 ax_m8 (ax_vlq rfl rfl)
  have r2 : (ρ 10 / 4 + 2147483648) % 4294967296 = (ρ 2 / 4 + 2147483648) % 4294967296 := pz_gc hE 0 43 11 (Nat.le_of_ble_eq_true rfl) ax_m9
  have r3 : (ρ 11 / 4 + 2147483648) % 4294967296 = (ρ 3 / 4 + 2147483648) % 4294967296 := pz_gc hE 0 47 15 (Nat.le_of_ble_eq_true rfl) ax_m10
  obtain ⟨-, -, -, -, -, -, -, -, -, -, -, F152⟩ : ay_ex hp 175 ∧ ay_ex hp 176 ∧ ay_ex hp 177 ∧ ay_ex hp 178 ∧ ay_ex hp 179 ∧ ay_ex hp 173 ∧ ay_ex hp 173 ∧ ay_ex hp 173 ∧ ay_ex hp 173 ∧ ay_ex hp 173 ∧ ay_ex hp 181 ∧ pz_y152 0 (ρ 0) (ρ 1) (ay_at hp 175 0) (ay_at hp 176 0) (ay_at hp 177 0) (ay_at hp 178 0) (ay_at hp 179 0) (ay_at hp 173 23) (ay_at hp 173 25) (ay_at hp 173 24) (ay_at hp 173 18) (ay_at hp 173 19) (ay_at hp 181) := (ax_XF_lt (x := 152) (Nat.le_of_ble_eq_true rfl)).mp (ax_gx hE (152, [3, 7]) ax_m0)
  rw [c_links] at F152
  obtain ⟨r, m1, m2', m3⟩ := ay_mk hE 2 8 19 27 (by decide) (by decide)
  replace m1 : some (8 / 4 * (ρ 4 / 4) % 4294967296) = some r := m1
  have m1 := Option.some.inj m1
  replace m3 : ρ 6 = 4 * r := m3
  have hi := (pz_ps 0 19 i4b i4c i4d (by decide)).2
  have hm : ρ 6 / 4 = 2 * (ρ 4 / 4) := by
    clear s1 s2 s3
    omega
  have h1 : ρ 7 / 4 = 0 + ρ 6 / 4 := pz_sm (by decide) (by omega) i7b s1
  have h2 : ρ 8 / 4 = ρ 7 / 4 + 0 := pz_sm (by omega) (by decide) i8b s2
  have h3 : ρ 9 / 4 = ρ 7 / 4 + 1 := pz_sm (by omega) (by decide) i9b s3
  rw [show ρ 8 / 4 = 40 * 0 + 2 * (ρ 4 / 4) by omega] at c_ends
  rw [show ρ 9 / 4 = 40 * 0 + 2 * (ρ 4 / 4) + 1 by omega] at c_ends2
  refine ⟨(fun y hy => by cases hy), _, List.mem_cons_self, ρ, fun _ _ => rfl, ax_px hE rfl (fun x hx => ?_)⟩
  cases List.mem_singleton.mp hx
  refine (ax_XF_lt (x := 213) (Nat.le_of_ble_eq_true rfl)).mpr ?_
  show pz112 (pz_gt (ρ 0)) (pz_gN (ρ 0)) ((ρ 1) / 4) ((ρ 2) / 4) ((ρ 3) / 4)
  exact pz_jn2 F152 (show ρ 4 / 4 < ρ 5 / 4 by omega) c_ends c_ends2 (Or.inl ⟨by omega, by omega⟩)

theorem axq1_ij2b : ax_RO ax_wM1 (ax_XM 1) axu1_ij2b := by
  intro ρ hp hE hT
  have j0 : ρ 0 % 4 = 1 := pz_gj hE 0 (Nat.le_of_ble_eq_true rfl) rfl
  have j1 : ρ 1 % 4 = 1 := pz_gj hE 1 (Nat.le_of_ble_eq_true rfl) rfl
  obtain ⟨i2a, i2b, i2c, i2d⟩ := pz_gi hE 2 0 4294967295 (Nat.le_of_ble_eq_true rfl) rfl
  obtain ⟨i3a, i3b, i3c, i3d⟩ := pz_gi hE 3 0 4294967295 (Nat.le_of_ble_eq_true rfl) rfl
  obtain ⟨i4a, i4b, i4c, i4d⟩ := pz_gi hE 4 2147483648 2147483667 (Nat.le_of_ble_eq_true rfl) rfl
  obtain ⟨i5a, i5b, i5c, i5d⟩ := pz_gi hE 5 2147483648 2147483668 (Nat.le_of_ble_eq_true rfl) rfl
  obtain ⟨i6a, i6b, i6c, i6d⟩ := pz_gi hE 6 0 4294967295 (Nat.le_of_ble_eq_true rfl) rfl
  obtain ⟨i7a, i7b, i7c, i7d⟩ := pz_gi hE 7 0 4294967295 (Nat.le_of_ble_eq_true rfl) rfl
  obtain ⟨i8a, i8b, i8c, i8d⟩ := pz_gi hE 8 0 4294967295 (Nat.le_of_ble_eq_true rfl) rfl
  obtain ⟨i9a, i9b, i9c, i9d⟩ := pz_gi hE 9 0 4294967295 (Nat.le_of_ble_eq_true rfl) rfl
  obtain ⟨i10a, i10b, i10c, i10d⟩ := pz_gi hE 10 2147483648 2147483657 (Nat.le_of_ble_eq_true rfl) rfl
  obtain ⟨i11a, i11b, i11c, i11d⟩ := pz_gi hE 11 2147483648 2147483657 (Nat.le_of_ble_eq_true rfl) rfl
  have c_links : ay_at hp 176 0 = some (ρ 5) := ay_gfj hE 714 0 23 176 0 ax_m1 (ax_vlq rfl rfl) (ax_vlj rfl rfl)
  have r1 : (ρ 4 / 4 + 2147483648) % 4294967296 < (ρ 5 / 4 + 2147483648) % 4294967296 := pz_gc hE 2 19 23 (Nat.le_of_ble_eq_true rfl) ax_m2
  have s1 : (0 / 4 + 2147483648) % 4294967296 + (ρ 6 / 4 + 2147483648) % 4294967296 = (ρ 7 / 4 + 2147483648) % 4294967296 + 2147483648 := pz_gs hE 0 27 31 ax_m4
  have s2 : (ρ 7 / 4 + 2147483648) % 4294967296 + (0 / 4 + 2147483648) % 4294967296 = (ρ 8 / 4 + 2147483648) % 4294967296 + 2147483648 := pz_gs hE 31 0 35 ax_m5
  have c_ends : ay_at hp 181 (ρ 8 / 4) = some (ρ 10) := ay_gf hE 734 35 43 181 ax_m6 (ax_vlq rfl rfl)
  have s3 : (ρ 7 / 4 + 2147483648) % 4294967296 + (4 / 4 + 2147483648) % 4294967296 = (ρ 9 / 4 + 2147483648) % 4294967296 + 2147483648 := pz_gs hE 31 4 39 ax_m7
  have c_ends2 : ay_at hp 181 (ρ 9 / 4) = some (ρ 11) := ay_gf hE 734 39 47 181 ax_m8 (ax_vlq rfl rfl)
  have r2 : (ρ 10 / 4 + 2147483648) % 4294967296 = (ρ 3 / 4 + 2147483648) % 4294967296 := pz_gc hE 0 43 15 (Nat.le_of_ble_eq_true rfl) ax_m9
  have r3 : (ρ 11 / 4 + 2147483648) % 4294967296 = (ρ 2 / 4 + 2147483648) % 4294967296 := pz_gc hE 0 47 11 (Nat.le_of_ble_eq_true rfl) ax_m10
  obtain ⟨-, -, -, -, -, -, -, -, -, -, -, F152⟩ : ay_ex hp 175 ∧ ay_ex hp 176 ∧ ay_ex hp 177 ∧ ay_ex hp 178 ∧ ay_ex hp 179 ∧ ay_ex hp 173 ∧ ay_ex hp 173 ∧ ay_ex hp 173 ∧ ay_ex hp 173 ∧ ay_ex hp 173 ∧ ay_ex hp 181 ∧ pz_y152 0 (ρ 0) (ρ 1) (ay_at hp 175 0) (ay_at hp 176 0) (ay_at hp 177 0) (ay_at hp 178 0) (ay_at hp 179 0) (ay_at hp 173 23) (ay_at hp 173 25) (ay_at hp 173 24) (ay_at hp 173 18) (ay_at hp 173 19) (ay_at hp 181) := (ax_XF_lt (x := 152) (Nat.le_of_ble_eq_true rfl)).mp (ax_gx hE (152, [3, 7]) ax_m0)
  rw [c_links] at F152
  obtain ⟨r, m1, m2', m3⟩ := ay_mk hE 2 8 19 27 (by decide) (by decide)
  replace m1 : some (8 / 4 * (ρ 4 / 4) % 4294967296) = some r := m1
  have m1 := Option.some.inj m1
  replace m3 : ρ 6 = 4 * r := m3
  have hi := (pz_ps 0 19 i4b i4c i4d (by decide)).2
  have hm : ρ 6 / 4 = 2 * (ρ 4 / 4) := by
    clear s1 s2 s3
    omega
  have h1 : ρ 7 / 4 = 0 + ρ 6 / 4 := pz_sm (by decide) (by omega) i7b s1
  have h2 : ρ 8 / 4 = ρ 7 / 4 + 0 := pz_sm (by omega) (by decide) i8b s2
  have h3 : ρ 9 / 4 = ρ 7 / 4 + 1 := pz_sm (by omega) (by decide) i9b s3
  rw [show ρ 8 / 4 = 40 * 0 + 2 * (ρ 4 / 4) by omega] at c_ends
  rw [show ρ 9 / 4 = 40 * 0 + 2 * (ρ 4 / 4) + 1 by omega] at c_ends2
  refine ⟨(fun y hy => by cases hy), _, List.mem_cons_self, ρ, fun _ _ => rfl, ax_px hE rfl (fun x hx => ?_)⟩
  cases List.mem_singleton.mp hx
  refine (ax_XF_lt (x := 213) (Nat.le_of_ble_eq_true rfl)).mpr ?_
  show pz112 (pz_gt (ρ 0)) (pz_gN (ρ 0)) ((ρ 1) / 4) ((ρ 2) / 4) ((ρ 3) / 4)
  exact pz_jn2 F152 (show ρ 4 / 4 < ρ 5 / 4 by omega) c_ends c_ends2 (Or.inr ⟨by omega, by omega⟩)

theorem axq1_ij3a : ax_RO ax_wM1 (ax_XM 1) axu1_ij3a := by
  intro ρ hp hE hT
  have j0 : ρ 0 % 4 = 1 := pz_gj hE 0 (Nat.le_of_ble_eq_true rfl) rfl
  have j1 : ρ 1 % 4 = 1 := pz_gj hE 1 (Nat.le_of_ble_eq_true rfl) rfl
  obtain ⟨i2a, i2b, i2c, i2d⟩ := pz_gi hE 2 0 4294967295 (Nat.le_of_ble_eq_true rfl) rfl
  obtain ⟨i3a, i3b, i3c, i3d⟩ := pz_gi hE 3 0 4294967295 (Nat.le_of_ble_eq_true rfl) rfl
  obtain ⟨i4a, i4b, i4c, i4d⟩ := pz_gi hE 4 2147483648 2147483667 (Nat.le_of_ble_eq_true rfl) rfl
  obtain ⟨i5a, i5b, i5c, i5d⟩ := pz_gi hE 5 0 4294967295 (Nat.le_of_ble_eq_true rfl) rfl
  obtain ⟨i6a, i6b, i6c, i6d⟩ := pz_gi hE 6 0 4294967295 (Nat.le_of_ble_eq_true rfl) rfl
  obtain ⟨i7a, i7b, i7c, i7d⟩ := pz_gi hE 7 0 4294967295 (Nat.le_of_ble_eq_true rfl) rfl
  obtain ⟨i8a, i8b, i8c, i8d⟩ := pz_gi hE 8 0 4294967295 (Nat.le_of_ble_eq_true rfl) rfl
  obtain ⟨i9a, i9b, i9c, i9d⟩ := pz_gi hE 9 0 4294967295 (Nat.le_of_ble_eq_true rfl) rfl
  obtain ⟨i10a, i10b, i10c, i10d⟩ := pz_gi hE 10 2147483648 2147483657 (Nat.le_of_ble_eq_true rfl) rfl
  obtain ⟨i11a, i11b, i11c, i11d⟩ := pz_gi hE 11 2147483648 2147483657 (Nat.le_of_ble_eq_true rfl) rfl
  have s1 : (ρ 4 / 4 + 2147483648) % 4294967296 + (4 / 4 + 2147483648) % 4294967296 = (ρ 5 / 4 + 2147483648) % 4294967296 + 2147483648 := pz_gs hE 19 4 23 ax_m2
  have s2 : (0 / 4 + 2147483648) % 4294967296 + (ρ 6 / 4 + 2147483648) % 4294967296 = (ρ 7 / 4 + 2147483648) % 4294967296 + 2147483648 := pz_gs hE 0 27 31 ax_m4
  have s3 : (ρ 7 / 4 + 2147483648) % 4294967296 + (0 / 4 + 2147483648) % 4294967296 = (ρ 8 / 4 + 2147483648) % 4294967296 + 2147483648 := pz_gs hE 31 0 35 ax_m5
  have c_ends : ay_at hp 181 (ρ 8 / 4) = some (ρ 10) := ay_gf hE 734 35 43 181 ax_m6 (ax_vlq rfl rfl)
  have s4 : (ρ 7 / 4 + 2147483648) % 4294967296 + (4 / 4 + 2147483648) % 4294967296 = (ρ 9 / 4 + 2147483648) % 4294967296 + 2147483648 := pz_gs hE 31 4 39 ax_m7
  have c_ends2 : ay_at hp 181 (ρ 9 / 4) = some (ρ 11) := ay_gf hE 734 39 47 181 ax_m8 (ax_vlq rfl rfl)
  have r1 : (ρ 10 / 4 + 2147483648) % 4294967296 ≠ (ρ 2 / 4 + 2147483648) % 4294967296 := pz_gc hE 1 43 11 (Nat.le_of_ble_eq_true rfl) ax_m9
  have r2 : (ρ 10 / 4 + 2147483648) % 4294967296 ≠ (ρ 3 / 4 + 2147483648) % 4294967296 := pz_gc hE 1 43 15 (Nat.le_of_ble_eq_true rfl) ax_m10
  obtain ⟨-, -, -, -, -, -, -, -, -, -, -, F152⟩ : ay_ex hp 175 ∧ ay_ex hp 176 ∧ ay_ex hp 177 ∧ ay_ex hp 178 ∧ ay_ex hp 179 ∧ ay_ex hp 173 ∧ ay_ex hp 173 ∧ ay_ex hp 173 ∧ ay_ex hp 173 ∧ ay_ex hp 173 ∧ ay_ex hp 181 ∧ pz_y152 0 (ρ 0) (ρ 1) (ay_at hp 175 0) (ay_at hp 176 0) (ay_at hp 177 0) (ay_at hp 178 0) (ay_at hp 179 0) (ay_at hp 173 23) (ay_at hp 173 25) (ay_at hp 173 24) (ay_at hp 173 18) (ay_at hp 173 19) (ay_at hp 181) := (ax_XF_lt (x := 152) (Nat.le_of_ble_eq_true rfl)).mp (ax_gx hE (152, [3, 7]) ax_m0)
  have F215 : pz_y215 (ρ 0) (ρ 1) (ρ 2) (ρ 3) (ρ 4) := (ax_XF_lt (x := 215) (Nat.le_of_ble_eq_true rfl)).mp (ax_gx hE (215, [3, 7, 11, 15, 19]) ax_m1)
  obtain ⟨r, m1, m2', m3⟩ := ay_mk hE 2 8 19 27 (by decide) (by decide)
  replace m1 : some (8 / 4 * (ρ 4 / 4) % 4294967296) = some r := m1
  have m1 := Option.some.inj m1
  replace m3 : ρ 6 = 4 * r := m3
  have hi := (pz_ps 0 19 i4b i4c i4d (by decide)).2
  have hm : ρ 6 / 4 = 2 * (ρ 4 / 4) := by
    clear s1 s2 s3 s4
    omega
  have h1 : ρ 7 / 4 = 0 + ρ 6 / 4 := pz_sm (by decide) (by omega) i7b s2
  have h2 : ρ 8 / 4 = ρ 7 / 4 + 0 := pz_sm (by omega) (by decide) i8b s3
  have h3 : ρ 9 / 4 = ρ 7 / 4 + 1 := pz_sm (by omega) (by decide) i9b s4
  rw [show ρ 8 / 4 = 40 * 0 + 2 * (ρ 4 / 4) by omega] at c_ends
  rw [show ρ 9 / 4 = 40 * 0 + 2 * (ρ 4 / 4) + 1 by omega] at c_ends2
  have hi2 : ρ 5 / 4 = ρ 4 / 4 + 1 := pz_sm (by omega) (by decide) i5b s1
  refine ⟨(fun y hy => by cases hy), _, List.mem_cons_self, ρ, fun _ _ => rfl, ax_px hE rfl (fun x hx => ?_)⟩
  cases List.mem_singleton.mp hx
  refine (ax_XF_lt (x := 215) (Nat.le_of_ble_eq_true rfl)).mpr ?_
  show pz_y215 (ρ 0) (ρ 1) (ρ 2) (ρ 3) (ρ 5)
  intro j u v hj hz
  replace hj : j < ρ 5 / 4 := hj
  by_cases h : j < ρ 4 / 4
  · exact F215 j u v h hz
  · have e : j = ρ 4 / 4 := by omega
    rw [e] at hz
    exact pz_jn3 F152 c_ends c_ends2 (by omega) hz

theorem axq1_ij3b : ax_RO ax_wM1 (ax_XM 1) axu1_ij3b := by
  intro ρ hp hE hT
  have j0 : ρ 0 % 4 = 1 := pz_gj hE 0 (Nat.le_of_ble_eq_true rfl) rfl
  have j1 : ρ 1 % 4 = 1 := pz_gj hE 1 (Nat.le_of_ble_eq_true rfl) rfl
  obtain ⟨i2a, i2b, i2c, i2d⟩ := pz_gi hE 2 0 4294967295 (Nat.le_of_ble_eq_true rfl) rfl
  obtain ⟨i3a, i3b, i3c, i3d⟩ := pz_gi hE 3 0 4294967295 (Nat.le_of_ble_eq_true rfl) rfl
  obtain ⟨i4a, i4b, i4c, i4d⟩ := pz_gi hE 4 2147483648 2147483667 (Nat.le_of_ble_eq_true rfl) rfl
  obtain ⟨i5a, i5b, i5c, i5d⟩ := pz_gi hE 5 0 4294967295 (Nat.le_of_ble_eq_true rfl) rfl
  obtain ⟨i6a, i6b, i6c, i6d⟩ := pz_gi hE 6 0 4294967295 (Nat.le_of_ble_eq_true rfl) rfl
  obtain ⟨i7a, i7b, i7c, i7d⟩ := pz_gi hE 7 0 4294967295 (Nat.le_of_ble_eq_true rfl) rfl
  obtain ⟨i8a, i8b, i8c, i8d⟩ := pz_gi hE 8 0 4294967295 (Nat.le_of_ble_eq_true rfl) rfl
  obtain ⟨i9a, i9b, i9c, i9d⟩ := pz_gi hE 9 0 4294967295 (Nat.le_of_ble_eq_true rfl) rfl
  obtain ⟨i10a, i10b, i10c, i10d⟩ := pz_gi hE 10 2147483648 2147483657 (Nat.le_of_ble_eq_true rfl) rfl
  obtain ⟨i11a, i11b, i11c, i11d⟩ := pz_gi hE 11 2147483648 2147483657 (Nat.le_of_ble_eq_true rfl) rfl
  have s1 : (ρ 4 / 4 + 2147483648) % 4294967296 + (4 / 4 + 2147483648) % 4294967296 = (ρ 5 / 4 + 2147483648) % 4294967296 + 2147483648 := pz_gs hE 19 4 23 ax_m2
  have s2 : (0 / 4 + 2147483648) % 4294967296 + (ρ 6 / 4 + 2147483648) % 4294967296 = (ρ 7 / 4 + 2147483648) % 4294967296 + 2147483648 := pz_gs hE 0 27 31 ax_m4
  have s3 : (ρ 7 / 4 + 2147483648) % 4294967296 + (0 / 4 + 2147483648) % 4294967296 = (ρ 8 / 4 + 2147483648) % 4294967296 + 2147483648 := pz_gs hE 31 0 35 ax_m5
  have c_ends : ay_at hp 181 (ρ 8 / 4) = some (ρ 10) := ay_gf hE 734 35 43 181 ax_m6 (ax_vlq rfl rfl)
  have s4 : (ρ 7 / 4 + 2147483648) % 4294967296 + (4 / 4 + 2147483648) % 4294967296 = (ρ 9 / 4 + 2147483648) % 4294967296 + 2147483648 := pz_gs hE 31 4 39 ax_m7
  have c_ends2 : ay_at hp 181 (ρ 9 / 4) = some (ρ 11) := ay_gf hE 734 39 47 181 ax_m8 (ax_vlq rfl rfl)
  have r1 : (ρ 10 / 4 + 2147483648) % 4294967296 ≠ (ρ 2 / 4 + 2147483648) % 4294967296 := pz_gc hE 1 43 11 (Nat.le_of_ble_eq_true rfl) ax_m9
  have r2 : (ρ 11 / 4 + 2147483648) % 4294967296 ≠ (ρ 2 / 4 + 2147483648) % 4294967296 := pz_gc hE 1 47 11 (Nat.le_of_ble_eq_true rfl) ax_m10
  obtain ⟨-, -, -, -, -, -, -, -, -, -, -, F152⟩ : ay_ex hp 175 ∧ ay_ex hp 176 ∧ ay_ex hp 177 ∧ ay_ex hp 178 ∧ ay_ex hp 179 ∧ ay_ex hp 173 ∧ ay_ex hp 173 ∧ ay_ex hp 173 ∧ ay_ex hp 173 ∧ ay_ex hp 173 ∧ ay_ex hp 181 ∧ pz_y152 0 (ρ 0) (ρ 1) (ay_at hp 175 0) (ay_at hp 176 0) (ay_at hp 177 0) (ay_at hp 178 0) (ay_at hp 179 0) (ay_at hp 173 23) (ay_at hp 173 25) (ay_at hp 173 24) (ay_at hp 173 18) (ay_at hp 173 19) (ay_at hp 181) := (ax_XF_lt (x := 152) (Nat.le_of_ble_eq_true rfl)).mp (ax_gx hE (152, [3, 7]) ax_m0)
  have F215 : pz_y215 (ρ 0) (ρ 1) (ρ 2) (ρ 3) (ρ 4) := (ax_XF_lt (x := 215) (Nat.le_of_ble_eq_true rfl)).mp (ax_gx hE (215, [3, 7, 11, 15, 19]) ax_m1)
  obtain ⟨r, m1, m2', m3⟩ := ay_mk hE 2 8 19 27 (by decide) (by decide)
  replace m1 : some (8 / 4 * (ρ 4 / 4) % 4294967296) = some r := m1
  have m1 := Option.some.inj m1
  replace m3 : ρ 6 = 4 * r := m3
  have hi := (pz_ps 0 19 i4b i4c i4d (by decide)).2
  have hm : ρ 6 / 4 = 2 * (ρ 4 / 4) := by
    clear s1 s2 s3 s4
    omega
  have h1 : ρ 7 / 4 = 0 + ρ 6 / 4 := pz_sm (by decide) (by omega) i7b s2
  have h2 : ρ 8 / 4 = ρ 7 / 4 + 0 := pz_sm (by omega) (by decide) i8b s3
  have h3 : ρ 9 / 4 = ρ 7 / 4 + 1 := pz_sm (by omega) (by decide) i9b s4
  rw [show ρ 8 / 4 = 40 * 0 + 2 * (ρ 4 / 4) by omega] at c_ends
  rw [show ρ 9 / 4 = 40 * 0 + 2 * (ρ 4 / 4) + 1 by omega] at c_ends2
  have hi2 : ρ 5 / 4 = ρ 4 / 4 + 1 := pz_sm (by omega) (by decide) i5b s1
  refine ⟨(fun y hy => by cases hy), _, List.mem_cons_self, ρ, fun _ _ => rfl, ax_px hE rfl (fun x hx => ?_)⟩
  cases List.mem_singleton.mp hx
  refine (ax_XF_lt (x := 215) (Nat.le_of_ble_eq_true rfl)).mpr ?_
  show pz_y215 (ρ 0) (ρ 1) (ρ 2) (ρ 3) (ρ 5)
  intro j u v hj hz
  replace hj : j < ρ 5 / 4 := hj
  by_cases h : j < ρ 4 / 4
  · exact F215 j u v h hz
  · have e : j = ρ 4 / 4 := by omega
    rw [e] at hz
    exact pz_jn3 F152 c_ends c_ends2 (by omega) hz
end
section
theorem axq1_ij3c : ax_RO ax_wM1 (ax_XM 1) axu1_ij3c := by
  intro ρ hp hE hT
  have j0 : ρ 0 % 4 = 1 := pz_gj hE 0 (Nat.le_of_ble_eq_true rfl) rfl
  have j1 : ρ 1 % 4 = 1 := pz_gj hE 1 (Nat.le_of_ble_eq_true rfl) rfl
  obtain ⟨i2a, i2b, i2c, i2d⟩ := pz_gi hE 2 0 4294967295 (Nat.le_of_ble_eq_true rfl) rfl
  obtain ⟨i3a, i3b, i3c, i3d⟩ := pz_gi hE 3 0 4294967295 (Nat.le_of_ble_eq_true rfl) rfl
  obtain ⟨i4a, i4b, i4c, i4d⟩ := pz_gi hE 4 2147483648 2147483667 (Nat.le_of_ble_eq_true rfl) rfl
  obtain ⟨i5a, i5b, i5c, i5d⟩ := pz_gi hE 5 0 4294967295 (Nat.le_of_ble_eq_true rfl) rfl
  obtain ⟨i6a, i6b, i6c, i6d⟩ := pz_gi hE 6 0 4294967295 (Nat.le_of_ble_eq_true rfl) rfl
  obtain ⟨i7a, i7b, i7c, i7d⟩ := pz_gi hE 7 0 4294967295 (Nat.le_of_ble_eq_true rfl) rfl
  obtain ⟨i8a, i8b, i8c, i8d⟩ := pz_gi hE 8 0 4294967295 (Nat.le_of_ble_eq_true rfl) rfl
  obtain ⟨i9a, i9b, i9c, i9d⟩ := pz_gi hE 9 0 4294967295 (Nat.le_of_ble_eq_true rfl) rfl
  obtain ⟨i10a, i10b, i10c, i10d⟩ := pz_gi hE 10 2147483648 2147483657 (Nat.le_of_ble_eq_true rfl) rfl
  obtain ⟨i11a, i11b, i11c, i11d⟩ := pz_gi hE 11 2147483648 2147483657 (Nat.le_of_ble_eq_true rfl) rfl
  have s1 : (ρ 4 / 4 + 2147483648) % 4294967296 + (4 / 4 + 2147483648) % 4294967296 = (ρ 5 / 4 + 2147483648) % 4294967296 + 2147483648 := pz_gs hE 19 4 23 ax_m2
  have s2 : (0 / 4 + 2147483648) % 4294967296 + (ρ 6 / 4 + 2147483648) % 4294967296 = (ρ 7 / 4 + 2147483648) % 4294967296 + 2147483648 := pz_gs hE 0 27 31 ax_m4
  have s3 : (ρ 7 / 4 + 2147483648) % 4294967296 + (0 / 4 + 2147483648) % 4294967296 = (ρ 8 / 4 + 2147483648) % 4294967296 + 2147483648 := pz_gs hE 31 0 35 ax_m5
  have c_ends : ay_at hp 181 (ρ 8 / 4) = some (ρ 10) := ay_gf hE 734 35 43 181 ax_m6 (ax_vlq rfl rfl)
  have s4 : (ρ 7 / 4 + 2147483648) % 4294967296 + (4 / 4 + 2147483648) % 4294967296 = (ρ 9 / 4 + 2147483648) % 4294967296 + 2147483648 := pz_gs hE 31 4 39 ax_m7
  have c_ends2 : ay_at hp 181 (ρ 9 / 4) = some (ρ 11) := ay_gf hE 734 39 47 181 ax_m8 (ax_vlq rfl rfl)
  have r1 : (ρ 11 / 4 + 2147483648) % 4294967296 ≠ (ρ 3 / 4 + 2147483648) % 4294967296 := pz_gc hE 1 47 15 (Nat.le_of_ble_eq_true rfl) ax_m9
  have r2 : (ρ 10 / 4 + 2147483648) % 4294967296 ≠ (ρ 3 / 4 + 2147483648) % 4294967296 := pz_gc hE 1 43 15 (Nat.le_of_ble_eq_true rfl) ax_m10
  obtain ⟨-, -, -, -, -, -, -, -, -, -, -, F152⟩ : ay_ex hp 175 ∧ ay_ex hp 176 ∧ ay_ex hp 177 ∧ ay_ex hp 178 ∧ ay_ex hp 179 ∧ ay_ex hp 173 ∧ ay_ex hp 173 ∧ ay_ex hp 173 ∧ ay_ex hp 173 ∧ ay_ex hp 173 ∧ ay_ex hp 181 ∧ pz_y152 0 (ρ 0) (ρ 1) (ay_at hp 175 0) (ay_at hp 176 0) (ay_at hp 177 0) (ay_at hp 178 0) (ay_at hp 179 0) (ay_at hp 173 23) (ay_at hp 173 25) (ay_at hp 173 24) (ay_at hp 173 18) (ay_at hp 173 19) (ay_at hp 181) := (ax_XF_lt (x := 152) (Nat.le_of_ble_eq_true rfl)).mp (ax_gx hE (152, [3, 7]) ax_m0)
  have F215 : pz_y215 (ρ 0) (ρ 1) (ρ 2) (ρ 3) (ρ 4) := (ax_XF_lt (x := 215) (Nat.le_of_ble_eq_true rfl)).mp (ax_gx hE (215, [3, 7, 11, 15, 19]) ax_m1)
  obtain ⟨r, m1, m2', m3⟩ := ay_mk hE 2 8 19 27 (by decide) (by decide)
  replace m1 : some (8 / 4 * (ρ 4 / 4) % 4294967296) = some r := m1
  have m1 := Option.some.inj m1
  replace m3 : ρ 6 = 4 * r := m3
  have hi := (pz_ps 0 19 i4b i4c i4d (by decide)).2
  have hm : ρ 6 / 4 = 2 * (ρ 4 / 4) := by
    clear s1 s2 s3 s4
    omega
  have h1 : ρ 7 / 4 = 0 + ρ 6 / 4 := pz_sm (by decide) (by omega) i7b s2
  have h2 : ρ 8 / 4 = ρ 7 / 4 + 0 := pz_sm (by omega) (by decide) i8b s3
  have h3 : ρ 9 / 4 = ρ 7 / 4 + 1 := pz_sm (by omega) (by decide) i9b s4
  rw [show ρ 8 / 4 = 40 * 0 + 2 * (ρ 4 / 4) by omega] at c_ends
  rw [show ρ 9 / 4 = 40 * 0 + 2 * (ρ 4 / 4) + 1 by omega] at c_ends2
  have hi2 : ρ 5 / 4 = ρ 4 / 4 + 1 := pz_sm (by omega) (by decide) i5b s1
  refine ⟨(fun y hy => by cases hy), _, List.mem_cons_self, ρ, fun _ _ => rfl, ax_px hE rfl (fun x hx => ?_)⟩
  cases List.mem_singleton.mp hx
  refine (ax_XF_lt (x := 215) (Nat.le_of_ble_eq_true rfl)).mpr ?_
  show pz_y215 (ρ 0) (ρ 1) (ρ 2) (ρ 3) (ρ 5)
  intro j u v hj hz
  replace hj : j < ρ 5 / 4 := hj
  by_cases h : j < ρ 4 / 4
  · exact F215 j u v h hz
  · have e : j = ρ 4 / 4 := by omega
    rw [e] at hz
    exact pz_jn3 F152 c_ends c_ends2 (by omega) hz

theorem axq1_ij3d : ax_RO ax_wM1 (ax_XM 1) axu1_ij3d := by
  intro ρ hp hE hT
  have j0 : ρ 0 % 4 = 1 := pz_gj hE 0 (Nat.le_of_ble_eq_true rfl) rfl
  have j1 : ρ 1 % 4 = 1 := pz_gj hE 1 (Nat.le_of_ble_eq_true rfl) rfl
  obtain ⟨i2a, i2b, i2c, i2d⟩ := pz_gi hE 2 0 4294967295 (Nat.le_of_ble_eq_true rfl) rfl
  obtain ⟨i3a, i3b, i3c, i3d⟩ := pz_gi hE 3 0 4294967295 (Nat.le_of_ble_eq_true rfl) rfl
  obtain ⟨i4a, i4b, i4c, i4d⟩ := pz_gi hE 4 2147483648 2147483667 (Nat.le_of_ble_eq_true rfl) rfl
  obtain ⟨i5a, i5b, i5c, i5d⟩ := pz_gi hE 5 0 4294967295 (Nat.le_of_ble_eq_true rfl) rfl
  obtain ⟨i6a, i6b, i6c, i6d⟩ := pz_gi hE 6 0 4294967295 (Nat.le_of_ble_eq_true rfl) rfl
  obtain ⟨i7a, i7b, i7c, i7d⟩ := pz_gi hE 7 0 4294967295 (Nat.le_of_ble_eq_true rfl) rfl
  obtain ⟨i8a, i8b, i8c, i8d⟩ := pz_gi hE 8 0 4294967295 (Nat.le_of_ble_eq_true rfl) rfl
  obtain ⟨i9a, i9b, i9c, i9d⟩ := pz_gi hE 9 0 4294967295 (Nat.le_of_ble_eq_true rfl) rfl
  obtain ⟨i10a, i10b, i10c, i10d⟩ := pz_gi hE 10 2147483648 2147483657 (Nat.le_of_ble_eq_true rfl) rfl
  obtain ⟨i11a, i11b, i11c, i11d⟩ := pz_gi hE 11 2147483648 2147483657 (Nat.le_of_ble_eq_true rfl) rfl
  have s1 : (ρ 4 / 4 + 2147483648) % 4294967296 + (4 / 4 + 2147483648) % 4294967296 = (ρ 5 / 4 + 2147483648) % 4294967296 + 2147483648 := pz_gs hE 19 4 23 ax_m2
  have s2 : (0 / 4 + 2147483648) % 4294967296 + (ρ 6 / 4 + 2147483648) % 4294967296 = (ρ 7 / 4 + 2147483648) % 4294967296 + 2147483648 := pz_gs hE 0 27 31 ax_m4
  have s3 : (ρ 7 / 4 + 2147483648) % 4294967296 + (0 / 4 + 2147483648) % 4294967296 = (ρ 8 / 4 + 2147483648) % 4294967296 + 2147483648 := pz_gs hE 31 0 35 ax_m5
  have c_ends : ay_at hp 181 (ρ 8 / 4) = some (ρ 10) := ay_gf hE 734 35 43 181 ax_m6 (ax_vlq rfl rfl)
  have s4 : (ρ 7 / 4 + 2147483648) % 4294967296 + (4 / 4 + 2147483648) % 4294967296 = (ρ 9 / 4 + 2147483648) % 4294967296 + 2147483648 := pz_gs hE 31 4 39 ax_m7
  have c_ends2 : ay_at hp 181 (ρ 9 / 4) = some (ρ 11) := ay_gf hE 734 39 47 181 ax_m8 (ax_vlq rfl rfl)
  have r1 : (ρ 11 / 4 + 2147483648) % 4294967296 ≠ (ρ 3 / 4 + 2147483648) % 4294967296 := pz_gc hE 1 47 15 (Nat.le_of_ble_eq_true rfl) ax_m9
  have r2 : (ρ 11 / 4 + 2147483648) % 4294967296 ≠ (ρ 2 / 4 + 2147483648) % 4294967296 := pz_gc hE 1 47 11 (Nat.le_of_ble_eq_true rfl) ax_m10
  obtain ⟨-, -, -, -, -, -, -, -, -, -, -, F152⟩ : ay_ex hp 175 ∧ ay_ex hp 176 ∧ ay_ex hp 177 ∧ ay_ex hp 178 ∧ ay_ex hp 179 ∧ ay_ex hp 173 ∧ ay_ex hp 173 ∧ ay_ex hp 173 ∧ ay_ex hp 173 ∧ ay_ex hp 173 ∧ ay_ex hp 181 ∧ pz_y152 0 (ρ 0) (ρ 1) (ay_at hp 175 0) (ay_at hp 176 0) (ay_at hp 177 0) (ay_at hp 178 0) (ay_at hp 179 0) (ay_at hp 173 23) (ay_at hp 173 25) (ay_at hp 173 24) (ay_at hp 173 18) (ay_at hp 173 19) (ay_at hp 181) := (ax_XF_lt (x := 152) (Nat.le_of_ble_eq_true rfl)).mp (ax_gx hE (152, [3, 7]) ax_m0)
  have F215 : pz_y215 (ρ 0) (ρ 1) (ρ 2) (ρ 3) (ρ 4) := (ax_XF_lt (x := 215) (Nat.le_of_ble_eq_true rfl)).mp (ax_gx hE (215, [3, 7, 11, 15, 19]) ax_m1)
  obtain ⟨r, m1, m2', m3⟩ := ay_mk hE 2 8 19 27 (by decide) (by decide)
  replace m1 : some (8 / 4 * (ρ 4 / 4) % 4294967296) = some r := m1
  have m1 := Option.some.inj m1
  replace m3 : ρ 6 = 4 * r := m3
  have hi := (pz_ps 0 19 i4b i4c i4d (by decide)).2
  have hm : ρ 6 / 4 = 2 * (ρ 4 / 4) := by
    clear s1 s2 s3 s4
    omega
  have h1 : ρ 7 / 4 = 0 + ρ 6 / 4 := pz_sm (by decide) (by omega) i7b s2
  have h2 : ρ 8 / 4 = ρ 7 / 4 + 0 := pz_sm (by omega) (by decide) i8b s3
  have h3 : ρ 9 / 4 = ρ 7 / 4 + 1 := pz_sm (by omega) (by decide) i9b s4
  rw [show ρ 8 / 4 = 40 * 0 + 2 * (ρ 4 / 4) by omega] at c_ends
  rw [show ρ 9 / 4 = 40 * 0 + 2 * (ρ 4 / 4) + 1 by omega] at c_ends2
  have hi2 : ρ 5 / 4 = ρ 4 / 4 + 1 := pz_sm (by omega) (by decide) i5b s1
  refine ⟨(fun y hy => by cases hy), _, List.mem_cons_self, ρ, fun _ _ => rfl, ax_px hE rfl (fun x hx => ?_)⟩
  cases List.mem_singleton.mp hx
  refine (ax_XF_lt (x := 215) (Nat.le_of_ble_eq_true rfl)).mpr ?_
  show pz_y215 (ρ 0) (ρ 1) (ρ 2) (ρ 3) (ρ 5)
  intro j u v hj hz
  replace hj : j < ρ 5 / 4 := hj
  by_cases h : j < ρ 4 / 4
  · exact F215 j u v h hz
  · have e : j = ρ 4 / 4 := by omega
    rw [e] at hz
    exact pz_jn3 F152 c_ends c_ends2 (by omega) hz

theorem axq1_ij4 : ax_RO ax_wM1 (ax_XM 1) axu1_ij4 := by
  intro ρ hp hE hT
  have j0 : ρ 0 % 4 = 1 := pz_gj hE 0 (Nat.le_of_ble_eq_true rfl) rfl
  have j1 : ρ 1 % 4 = 1 := pz_gj hE 1 (Nat.le_of_ble_eq_true rfl) rfl
  obtain ⟨i2a, i2b, i2c, i2d⟩ := pz_gi hE 2 0 4294967295 (Nat.le_of_ble_eq_true rfl) rfl
  obtain ⟨i3a, i3b, i3c, i3d⟩ := pz_gi hE 3 0 4294967295 (Nat.le_of_ble_eq_true rfl) rfl
  obtain ⟨i4a, i4b, i4c, i4d⟩ := pz_gi hE 4 2147483648 2147483668 (Nat.le_of_ble_eq_true rfl) rfl
  obtain ⟨i5a, i5b, i5c, i5d⟩ := pz_gi hE 5 2147483648 2147483668 (Nat.le_of_ble_eq_true rfl) rfl
  have c_links : ay_at hp 176 0 = some (ρ 5) := ay_gfj hE 714 0 23 176 0 ax_m2 (ax_vlq rfl rfl) (ax_vlj rfl rfl)
  have r1 : (ρ 5 / 4 + 2147483648) % 4294967296 ≤ (ρ 4 / 4 + 2147483648) % 4294967296 := pz_gc hE 3 19 23 (Nat.le_of_ble_eq_true rfl) ax_m3
  obtain ⟨-, -, -, -, -, -, -, -, -, -, -, F152⟩ : ay_ex hp 175 ∧ ay_ex hp 176 ∧ ay_ex hp 177 ∧ ay_ex hp 178 ∧ ay_ex hp 179 ∧ ay_ex hp 173 ∧ ay_ex hp 173 ∧ ay_ex hp 173 ∧ ay_ex hp 173 ∧ ay_ex hp 173 ∧ ay_ex hp 181 ∧ pz_y152 0 (ρ 0) (ρ 1) (ay_at hp 175 0) (ay_at hp 176 0) (ay_at hp 177 0) (ay_at hp 178 0) (ay_at hp 179 0) (ay_at hp 173 23) (ay_at hp 173 25) (ay_at hp 173 24) (ay_at hp 173 18) (ay_at hp 173 19) (ay_at hp 181) := (ax_XF_lt (x := 152) (Nat.le_of_ble_eq_true rfl)).mp (ax_gx hE (152, [3, 7]) ax_m0)
  rw [c_links] at F152
  have F215 : pz_y215 (ρ 0) (ρ 1) (ρ 2) (ρ 3) (ρ 4) := (ax_XF_lt (x := 215) (Nat.le_of_ble_eq_true rfl)).mp (ax_gx hE (215, [3, 7, 11, 15, 19]) ax_m1)
  refine ⟨(fun y hy => by cases hy), _, List.mem_cons_self, ρ, fun _ _ => rfl, ax_px hE rfl (fun x hx => ?_)⟩
  cases List.mem_singleton.mp hx
  refine (ax_XF_lt (x := 214) (Nat.le_of_ble_eq_true rfl)).mpr ?_
  show pz113 (pz_gt (ρ 0)) (pz_gN (ρ 0)) ((ρ 1) / 4) ((ρ 2) / 4) ((ρ 3) / 4)
  refine pz_jn_no (fun j u v hz => ?_)
  have hl := (List.getElem?_eq_some_iff.mp hz).1
  have el : ρ 5 / 4 = (pz_ls (pz_cf (pz_gt (ρ 0)) (pz_gN (ρ 0)) (ρ 1 / 4))).length := F152.2.1
  exact F215 j u v (show j < ρ 4 / 4 by omega) hz

theorem axq1_mf1 : ax_RO ax_wM1 (ax_XM 1) axu1_mf1 := axqg_mf1 ax_WW1
theorem axq1_mf2_0 : ax_RO ax_wM1 (ax_XM 1) axu1_mf2_0 := axqg_mf2_0 ax_WW1
theorem axq1_mf2_1 : ax_RO ax_wM1 (ax_XM 1) axu1_mf2_1 := axqg_mf2_1 ax_WW1
theorem axq1_mf2_2 : ax_RO ax_wM1 (ax_XM 1) axu1_mf2_2 := axqg_mf2_2 ax_WW1
theorem axq1_mf2_3 : ax_RO ax_wM1 (ax_XM 1) axu1_mf2_3 := axqg_mf2_3 ax_WW1
theorem axq1_mf2_4 : ax_RO ax_wM1 (ax_XM 1) axu1_mf2_4 := axqg_mf2_4 ax_WW1
theorem axq1_mf3 : ax_RO ax_wM1 (ax_XM 1) axu1_mf3 := axqg_mf3 ax_WW1
theorem axq1_mf4 : ax_RO ax_wM1 (ax_XM 1) axu1_mf4 := axqg_mf4 ax_WW1
theorem axq1_me1 : ax_RO ax_wM1 (ax_XM 1) axu1_me1 := axqg_me1 ax_WW1
end
section
theorem axr1_0 (hP : ∀ q ∈ rx_P, rx_QW q ∧ rx_ST rx_P (rx_DF, rx_FK) q) : ax_Row ax_wM1 (ax_XM 1) rx_P ax_APM1 rx_P (rx_DF, rx_FK) rxm_0 (axm_0, []) := fun hr => ⟨ax_tabB_ok axt_0, fun hL => ax_con_nil⟩
theorem axr1_1 (hP : ∀ q ∈ rx_P, rx_QW q ∧ rx_ST rx_P (rx_DF, rx_FK) q) : ax_Row ax_wM1 (ax_XM 1) rx_P ax_APM1 rx_P (rx_DF, rx_FK) rxm_1 (axm_1, []) := fun hr => ⟨ax_tabB_ok axt_1, fun hL => ax_con_nil⟩
theorem axr1_2 (hP : ∀ q ∈ rx_P, rx_QW q ∧ rx_ST rx_P (rx_DF, rx_FK) q) : ax_Row ax_wM1 (ax_XM 1) rx_P ax_APM1 rx_P (rx_DF, rx_FK) rxm_2 (axm_2, []) := fun hr => ⟨ax_tabB_ok axt_2, fun hL => ax_con_nil⟩
theorem axr1_3 (hP : ∀ q ∈ rx_P, rx_QW q ∧ rx_ST rx_P (rx_DF, rx_FK) q) : ax_Row ax_wM1 (ax_XM 1) rx_P ax_APM1 rx_P (rx_DF, rx_FK) rxm_3 (axm_3, []) := fun hr => ⟨ax_tabB_ok axt_3, fun hL => ax_con_nil⟩
theorem axr1_4 (hP : ∀ q ∈ rx_P, rx_QW q ∧ rx_ST rx_P (rx_DF, rx_FK) q) : ax_Row ax_wM1 (ax_XM 1) rx_P ax_APM1 rx_P (rx_DF, rx_FK) rxm_4 (axm_4, []) := fun hr => ⟨ax_tabB_ok axt_4, fun hL => ax_con_nil⟩
theorem axr1_5 (hP : ∀ q ∈ rx_P, rx_QW q ∧ rx_ST rx_P (rx_DF, rx_FK) q) : ax_Row ax_wM1 (ax_XM 1) rx_P ax_APM1 rx_P (rx_DF, rx_FK) rxm_5 (axm_5, []) := fun hr => ⟨ax_tabB_ok axt_5, fun hL => ax_con_nil⟩
theorem axr1_6 (hP : ∀ q ∈ rx_P, rx_QW q ∧ rx_ST rx_P (rx_DF, rx_FK) q) : ax_Row ax_wM1 (ax_XM 1) rx_P ax_APM1 rx_P (rx_DF, rx_FK) rxm_6 (axm_6, []) := fun hr => ⟨ax_tabB_ok axt_6, fun hL => ax_con_nil⟩
theorem axr1_7 (hP : ∀ q ∈ rx_P, rx_QW q ∧ rx_ST rx_P (rx_DF, rx_FK) q) : ax_Row ax_wM1 (ax_XM 1) rx_P ax_APM1 rx_P (rx_DF, rx_FK) rxm_7 (axm_7, []) := fun hr => ⟨ax_tabB_ok axt_7, fun hL => ax_con_nil⟩
theorem axr1_8 (hP : ∀ q ∈ rx_P, rx_QW q ∧ rx_ST rx_P (rx_DF, rx_FK) q) : ax_Row ax_wM1 (ax_XM 1) rx_P ax_APM1 rx_P (rx_DF, rx_FK) rxm_8 (axm_8, []) := fun hr => ⟨ax_tabB_ok axt_8, fun hL => ax_con_nil⟩
theorem axr1_9 (hP : ∀ q ∈ rx_P, rx_QW q ∧ rx_ST rx_P (rx_DF, rx_FK) q) : ax_Row ax_wM1 (ax_XM 1) rx_P ax_APM1 rx_P (rx_DF, rx_FK) rxm_9 (axm_9, []) := fun hr => ⟨ax_tabB_ok axt_9, fun hL => ax_con_nil⟩
theorem axr1_10 (hP : ∀ q ∈ rx_P, rx_QW q ∧ rx_ST rx_P (rx_DF, rx_FK) q) : ax_Row ax_wM1 (ax_XM 1) rx_P ax_APM1 rx_P (rx_DF, rx_FK) rxm_10 (axm_10, []) := fun hr => ⟨ax_tabB_ok axt_10, fun hL => ax_con_nil⟩
theorem axr1_11 (hP : ∀ q ∈ rx_P, rx_QW q ∧ rx_ST rx_P (rx_DF, rx_FK) q) : ax_Row ax_wM1 (ax_XM 1) rx_P ax_APM1 rx_P (rx_DF, rx_FK) rxm_11 (axm_11, []) := fun hr => ⟨ax_tabB_ok axt_11, fun hL => ax_con_nil⟩
theorem axr1_12 (hP : ∀ q ∈ rx_P, rx_QW q ∧ rx_ST rx_P (rx_DF, rx_FK) q) : ax_Row ax_wM1 (ax_XM 1) rx_P ax_APM1 rx_P (rx_DF, rx_FK) rxm_12 (axm_12, []) := fun hr => ⟨ax_tabB_ok axt_12, fun hL => ax_con_nil⟩
theorem axr1_13 (hP : ∀ q ∈ rx_P, rx_QW q ∧ rx_ST rx_P (rx_DF, rx_FK) q) : ax_Row ax_wM1 (ax_XM 1) rx_P ax_APM1 rx_P (rx_DF, rx_FK) rxm_13 (axm_13, []) := fun hr => ⟨ax_tabB_ok axt_13, fun hL => ax_con_nil⟩
theorem axr1_14 (hP : ∀ q ∈ rx_P, rx_QW q ∧ rx_ST rx_P (rx_DF, rx_FK) q) : ax_Row ax_wM1 (ax_XM 1) rx_P ax_APM1 rx_P (rx_DF, rx_FK) rxm_14 (axm_14, []) := fun hr => ⟨ax_tabB_ok axt_14, fun hL => ax_con_nil⟩
theorem axr1_15 (hP : ∀ q ∈ rx_P, rx_QW q ∧ rx_ST rx_P (rx_DF, rx_FK) q) : ax_Row ax_wM1 (ax_XM 1) rx_P ax_APM1 rx_P (rx_DF, rx_FK) rxm_15 (axm_15, []) := fun hr => ⟨ax_tabB_ok axt_15, fun hL => ax_con_nil⟩
theorem axr1_16 (hP : ∀ q ∈ rx_P, rx_QW q ∧ rx_ST rx_P (rx_DF, rx_FK) q) : ax_Row ax_wM1 (ax_XM 1) rx_P ax_APM1 rx_P (rx_DF, rx_FK) rxm_16 (axm_16, []) := fun hr => ⟨ax_tabB_ok axt_16, fun hL => ax_con_nil⟩
theorem axr1_17 (hP : ∀ q ∈ rx_P, rx_QW q ∧ rx_ST rx_P (rx_DF, rx_FK) q) : ax_Row ax_wM1 (ax_XM 1) rx_P ax_APM1 rx_P (rx_DF, rx_FK) rxm_17 (axm_17, []) := fun hr => ⟨ax_tabB_ok axt_17, fun hL => ax_con_nil⟩
theorem axr1_18 (hP : ∀ q ∈ rx_P, rx_QW q ∧ rx_ST rx_P (rx_DF, rx_FK) q) : ax_Row ax_wM1 (ax_XM 1) rx_P ax_APM1 rx_P (rx_DF, rx_FK) rxm_18 (axm_18, []) := fun hr => ⟨ax_tabB_ok axt_18, fun hL => ax_con_nil⟩
theorem axr1_19 (hP : ∀ q ∈ rx_P, rx_QW q ∧ rx_ST rx_P (rx_DF, rx_FK) q) : ax_Row ax_wM1 (ax_XM 1) rx_P ax_APM1 rx_P (rx_DF, rx_FK) rxm_19 (axm_19, []) := fun hr => ⟨ax_tabB_ok axt_19, fun hL => ax_con_nil⟩
theorem axr1_20 (hP : ∀ q ∈ rx_P, rx_QW q ∧ rx_ST rx_P (rx_DF, rx_FK) q) : ax_Row ax_wM1 (ax_XM 1) rx_P ax_APM1 rx_P (rx_DF, rx_FK) rxm_20 (axm_20, []) := fun hr => ⟨ax_tabB_ok axt_20, fun hL => ax_con_nil⟩
theorem axr1_21 (hP : ∀ q ∈ rx_P, rx_QW q ∧ rx_ST rx_P (rx_DF, rx_FK) q) : ax_Row ax_wM1 (ax_XM 1) rx_P ax_APM1 rx_P (rx_DF, rx_FK) rxm_21 (axm_21, []) := fun hr => ⟨ax_tabB_ok axt_21, fun hL => ax_con_nil⟩
theorem axr1_22 (hP : ∀ q ∈ rx_P, rx_QW q ∧ rx_ST rx_P (rx_DF, rx_FK) q) : ax_Row ax_wM1 (ax_XM 1) rx_P ax_APM1 rx_P (rx_DF, rx_FK) rxm_22 (axm_22, []) := fun hr => ⟨ax_tabB_ok axt_22, fun hL => ax_con_nil⟩
theorem axr1_23 (hP : ∀ q ∈ rx_P, rx_QW q ∧ rx_ST rx_P (rx_DF, rx_FK) q) : ax_Row ax_wM1 (ax_XM 1) rx_P ax_APM1 rx_P (rx_DF, rx_FK) rxm_23 (axm_23, []) := fun hr => ⟨ax_tabB_ok axt_23, fun hL => ax_con_nil⟩
theorem axr1_24 (hP : ∀ q ∈ rx_P, rx_QW q ∧ rx_ST rx_P (rx_DF, rx_FK) q) : ax_Row ax_wM1 (ax_XM 1) rx_P ax_APM1 rx_P (rx_DF, rx_FK) rxm_24 (axm_24, []) := fun hr => ⟨ax_tabB_ok axt_24, fun hL => ax_con_nil⟩
theorem axr1_25 (hP : ∀ q ∈ rx_P, rx_QW q ∧ rx_ST rx_P (rx_DF, rx_FK) q) : ax_Row ax_wM1 (ax_XM 1) rx_P ax_APM1 rx_P (rx_DF, rx_FK) rxm_25 (axm_25, []) := fun hr => ⟨ax_tabB_ok axt_25, fun hL => ax_con_nil⟩
theorem axr1_26 (hP : ∀ q ∈ rx_P, rx_QW q ∧ rx_ST rx_P (rx_DF, rx_FK) q) : ax_Row ax_wM1 (ax_XM 1) rx_P ax_APM1 rx_P (rx_DF, rx_FK) rxm_26 (axm_26, []) := fun hr => ⟨ax_tabB_ok axt_26, fun hL => ax_con_nil⟩
theorem axr1_27 (hP : ∀ q ∈ rx_P, rx_QW q ∧ rx_ST rx_P (rx_DF, rx_FK) q) : ax_Row ax_wM1 (ax_XM 1) rx_P ax_APM1 rx_P (rx_DF, rx_FK) rxm_27 (axm_27, []) := fun hr => ⟨ax_tabB_ok axt_27, fun hL => ax_con_nil⟩
theorem axr1_28 (hP : ∀ q ∈ rx_P, rx_QW q ∧ rx_ST rx_P (rx_DF, rx_FK) q) : ax_Row ax_wM1 (ax_XM 1) rx_P ax_APM1 rx_P (rx_DF, rx_FK) rxm_28 (axm_28, []) := fun hr => ⟨ax_tabB_ok axt_28, fun hL => ax_con_nil⟩
theorem axr1_29 (hP : ∀ q ∈ rx_P, rx_QW q ∧ rx_ST rx_P (rx_DF, rx_FK) q) : ax_Row ax_wM1 (ax_XM 1) rx_P ax_APM1 rx_P (rx_DF, rx_FK) rxm_29 (axm_29, []) := fun hr => ⟨ax_tabB_ok axt_29, fun hL => ax_con_nil⟩
theorem axr1_30 (hP : ∀ q ∈ rx_P, rx_QW q ∧ rx_ST rx_P (rx_DF, rx_FK) q) : ax_Row ax_wM1 (ax_XM 1) rx_P ax_APM1 rx_P (rx_DF, rx_FK) rxm_30 (axm_30, []) := fun hr => ⟨ax_tabB_ok axt_30, fun hL => ax_con_nil⟩
theorem axr1_31 (hP : ∀ q ∈ rx_P, rx_QW q ∧ rx_ST rx_P (rx_DF, rx_FK) q) : ax_Row ax_wM1 (ax_XM 1) rx_P ax_APM1 rx_P (rx_DF, rx_FK) rxm_31 (axm_31, []) := fun hr => ⟨ax_tabB_ok axt_31, fun hL => ax_con_nil⟩
theorem axr1_32 (hP : ∀ q ∈ rx_P, rx_QW q ∧ rx_ST rx_P (rx_DF, rx_FK) q) : ax_Row ax_wM1 (ax_XM 1) rx_P ax_APM1 rx_P (rx_DF, rx_FK) rxm_32 (axm_32, []) := fun hr => ⟨ax_tabB_ok axt_32, fun hL => ax_con_nil⟩
theorem axr1_33 (hP : ∀ q ∈ rx_P, rx_QW q ∧ rx_ST rx_P (rx_DF, rx_FK) q) : ax_Row ax_wM1 (ax_XM 1) rx_P ax_APM1 rx_P (rx_DF, rx_FK) rxm_33 (axm_33, []) := fun hr => ⟨ax_tabB_ok axt_33, fun hL => ax_con_nil⟩
theorem axr1_34 (hP : ∀ q ∈ rx_P, rx_QW q ∧ rx_ST rx_P (rx_DF, rx_FK) q) : ax_Row ax_wM1 (ax_XM 1) rx_P ax_APM1 rx_P (rx_DF, rx_FK) rxm_34 (axm_34, []) := fun hr => ⟨ax_tabB_ok axt_34, fun hL => ax_con_nil⟩
theorem axr1_35 (hP : ∀ q ∈ rx_P, rx_QW q ∧ rx_ST rx_P (rx_DF, rx_FK) q) : ax_Row ax_wM1 (ax_XM 1) rx_P ax_APM1 rx_P (rx_DF, rx_FK) rxm_35 (axm_35, []) := fun hr => ⟨ax_tabB_ok axt_35, fun hL => ax_con_nil⟩
theorem axr1_36 (hP : ∀ q ∈ rx_P, rx_QW q ∧ rx_ST rx_P (rx_DF, rx_FK) q) : ax_Row ax_wM1 (ax_XM 1) rx_P ax_APM1 rx_P (rx_DF, rx_FK) rxm_36 (axm_36, []) := fun hr => ⟨ax_tabB_ok axt_36, fun hL => ax_con_nil⟩
theorem axr1_37 (hP : ∀ q ∈ rx_P, rx_QW q ∧ rx_ST rx_P (rx_DF, rx_FK) q) : ax_Row ax_wM1 (ax_XM 1) rx_P ax_APM1 rx_P (rx_DF, rx_FK) rxm_37 (axm_37, []) := fun hr => ⟨ax_tabB_ok axt_37, fun hL => ax_con_nil⟩
theorem axr1_38 (hP : ∀ q ∈ rx_P, rx_QW q ∧ rx_ST rx_P (rx_DF, rx_FK) q) : ax_Row ax_wM1 (ax_XM 1) rx_P ax_APM1 rx_P (rx_DF, rx_FK) rxm_38 (axm_38, []) := fun hr => ⟨ax_tabB_ok axt_38, fun hL => ax_con_nil⟩
theorem axr1_39 (hP : ∀ q ∈ rx_P, rx_QW q ∧ rx_ST rx_P (rx_DF, rx_FK) q) : ax_Row ax_wM1 (ax_XM 1) rx_P ax_APM1 rx_P (rx_DF, rx_FK) rxm_39 (axm_39, []) := fun hr => ⟨ax_tabB_ok axt_39, fun hL => ax_con_nil⟩
theorem axr1_40 (hP : ∀ q ∈ rx_P, rx_QW q ∧ rx_ST rx_P (rx_DF, rx_FK) q) : ax_Row ax_wM1 (ax_XM 1) rx_P ax_APM1 rx_P (rx_DF, rx_FK) rxm_40 (axm_40, []) := fun hr => ⟨ax_tabB_ok axt_40, fun hL => ax_con_nil⟩
theorem axr1_41 (hP : ∀ q ∈ rx_P, rx_QW q ∧ rx_ST rx_P (rx_DF, rx_FK) q) : ax_Row ax_wM1 (ax_XM 1) rx_P ax_APM1 rx_P (rx_DF, rx_FK) rxm_41 (axm_41, axc1_41) := fun hr => ⟨ax_tabB_ok axt_41, fun hL => ax_con_nil⟩
theorem axr1_42 (hP : ∀ q ∈ rx_P, rx_QW q ∧ rx_ST rx_P (rx_DF, rx_FK) q) : ax_Row ax_wM1 (ax_XM 1) rx_P ax_APM1 rx_P (rx_DF, rx_FK) rxm_42 (axm_42, axc1_42) := fun hr => ⟨ax_tabB_ok axt_42, fun hL => ax_con_nil⟩
set_option maxRecDepth 4000 in
theorem axs1_43_0 : ∀ x ∈ ([axu1_sgbringBack] : List ax_RL), ax_RO ax_wM1 (ax_XM 1) x := ax_ro_cons axq1_sgbringBack (ax_ro_nil)
-- TurnNetModel.bringBack: 56 steps
set_option maxRecDepth 4000 in
theorem axk1_43_0 : ax_chk ax_wM1 rx_P (rx_DF, rx_FK) ax_APM1 (rx_n rxm_43) axm_43 (([702], (0, [], [], [], [])), [(44, 999)], [([2], (0, [], [], [], []))]) [axu1_sgbringBack] [2] 3000 1 (([((2, 1, 0, ([702, 3], (1, [(0, 2147483648, 2147483751)], [], [], []))), ())] : List ((Nat × Nat × Nat × ax_T) × ax_Tr 0)) : ax_Tr 1) = true := by decide +kernel
theorem axr1_43 (hP : ∀ q ∈ rx_P, rx_QW q ∧ rx_ST rx_P (rx_DF, rx_FK) q) : ax_Row ax_wM1 (ax_XM 1) rx_P ax_APM1 rx_P (rx_DF, rx_FK) rxm_43 (axm_43, axc1_43) := fun hr => ⟨ax_tabB_ok axt_43, fun hL => ax_con_cons (ax_chk_ok hP ax_XM1_ok hr hL (ax_tabB_ok axt_43) axs1_43_0 axk1_43_0) (ax_con_nil)⟩
-- TurnNetModel.cameBy: 42 steps
set_option maxRecDepth 4000 in
theorem axk1_44_0 : ax_chk ax_wM1 rx_P (rx_DF, rx_FK) ax_APM1 (rx_n rxm_44) axm_44 (([702, 3], (1, [(0, 2147483648, 2147483687)], [], [], [])), [], [([7], (2, [(0, 0, 4294967295), (0, 2147483648, 2147483687)], [], [], []))]) [] [4] 3000 1 (([((4, 1, 2, ([702, 3, 7, 11], (3, [(0, 2147483648, 2147483660), (0, 0, 4294967295), (0, 2147483648, 2147483687)], [], [], []))), ())] : List ((Nat × Nat × Nat × ax_T) × ax_Tr 0)) : ax_Tr 1) = true := by decide +kernel
theorem axr1_44 (hP : ∀ q ∈ rx_P, rx_QW q ∧ rx_ST rx_P (rx_DF, rx_FK) q) : ax_Row ax_wM1 (ax_XM 1) rx_P ax_APM1 rx_P (rx_DF, rx_FK) rxm_44 (axm_44, axc1_44) := fun hr => ⟨ax_tabB_ok axt_44, fun hL => ax_con_cons (ax_chk_ok hP ax_XM1_ok hr hL (ax_tabB_ok axt_44) ax_ro_nil axk1_44_0) (ax_con_nil)⟩
theorem axr1_45 (hP : ∀ q ∈ rx_P, rx_QW q ∧ rx_ST rx_P (rx_DF, rx_FK) q) : ax_Row ax_wM1 (ax_XM 1) rx_P ax_APM1 rx_P (rx_DF, rx_FK) rxm_45 (axm_45, axc1_45) := fun hr => ⟨ax_tabB_ok axt_45, fun hL => ax_con_nil⟩
theorem axr1_46 (hP : ∀ q ∈ rx_P, rx_QW q ∧ rx_ST rx_P (rx_DF, rx_FK) q) : ax_Row ax_wM1 (ax_XM 1) rx_P ax_APM1 rx_P (rx_DF, rx_FK) rxm_46 (axm_46, axc1_46) := fun hr => ⟨ax_tabB_ok axt_46, fun hL => ax_con_nil⟩
set_option maxRecDepth 4000 in
theorem axs1_47_1 : ∀ x ∈ ([axu1_me1] : List ax_RL), ax_RO ax_wM1 (ax_XM 1) x := ax_ro_cons axq1_me1 (ax_ro_nil)
-- TurnNetModel.end: 13 steps
set_option maxRecDepth 4000 in
theorem axk1_47_1 : ax_chk ax_wM1 rx_P (rx_DF, rx_FK) ax_APM1 (rx_n rxm_47) axm_47 (([702, 7], (3, [(0, 2147483648, 2147484448), (0, 2147483648, 4294967295), (1, 0, 0)], [(702, 44, 11)], [], [(0, [80]), (1, []), (2, []), (25, []), (26, []), (130, [3])])), [(11, 11)], [([17179869180], (3, [(0, 2147483648, 2147484448), (0, 2147483648, 4294967295), (1, 0, 0)], [(702, 44, 11)], [], [(0, [80]), (1, []), (2, []), (25, []), (26, []), (130, [3]), (1024, [7, 11])])), ([7], (4, [(1, 0, 0), (0, 2147483648, 2147484448), (0, 2147483648, 4294967295), (1, 0, 0)], [(702, 44, 7)], [], [(0, [80]), (1, []), (2, []), (25, []), (26, []), (130, [15]), (138, [3, 7, 15]), (1025, [7, 11])]))]) [axu1_me1] [] 3000 0 (() : ax_Tr 0) = true := by decide +kernel
-- TurnNetModel.end: 4 steps
set_option maxRecDepth 4000 in
theorem axk1_47_0 : ax_chk ax_wM1 rx_P (rx_DF, rx_FK) ax_APM1 (rx_n rxm_47) axm_47 (([702, 7], (3, [(0, 2147483648, 2147484448), (0, 0, 2147483647), (1, 0, 0)], [(702, 44, 11)], [], [(0, [80]), (1, []), (2, []), (25, []), (26, []), (130, [3])])), [], [([17179869180], (3, [(0, 2147483648, 2147484448), (0, 0, 2147483647), (1, 0, 0)], [(702, 44, 11)], [], [(0, [80]), (1, []), (2, []), (25, []), (26, []), (130, [3])]))]) [] [] 3000 0 (() : ax_Tr 0) = true := by decide +kernel
theorem axr1_47 (hP : ∀ q ∈ rx_P, rx_QW q ∧ rx_ST rx_P (rx_DF, rx_FK) q) : ax_Row ax_wM1 (ax_XM 1) rx_P ax_APM1 rx_P (rx_DF, rx_FK) rxm_47 (axm_47, axc1_47) := fun hr => ⟨ax_tabB_ok axt_47, fun hL => ax_con_cons (ax_chk_ok hP ax_XM1_ok hr hL (ax_tabB_ok axt_47) ax_ro_nil axk1_47_0) (ax_con_cons (ax_chk_ok hP ax_XM1_ok hr hL (ax_tabB_ok axt_47) axs1_47_1 axk1_47_1) (ax_con_nil))⟩
theorem axr1_48 (hP : ∀ q ∈ rx_P, rx_QW q ∧ rx_ST rx_P (rx_DF, rx_FK) q) : ax_Row ax_wM1 (ax_XM 1) rx_P ax_APM1 rx_P (rx_DF, rx_FK) rxm_48 (axm_48, axc1_48) := fun hr => ⟨ax_tabB_ok axt_48, fun hL => ax_con_nil⟩
-- TurnNetModel.fail: 4 steps
set_option maxRecDepth 4000 in
theorem axk1_49_11 : ax_chk ax_wM1 rx_P (rx_DF, rx_FK) ax_APM1 (rx_n rxm_49) axm_49 (([702, 16], (2, [(0, 2147483649, 2147483652), (1, 0, 0)], [(702, 72, 7)], [], [(163, [3]), (50, []), (52, [])])), [], [([2], (2, [(0, 2147483649, 2147483652), (1, 0, 0)], [(702, 72, 7)], [], [(163, [3]), (50, []), (52, [])]))]) [] [] 3000 0 (() : ax_Tr 0) = true := by decide +kernel
set_option maxRecDepth 4000 in
theorem axs1_49_10 : ∀ x ∈ ([axu1_fa0, axu1_fm1_4, axu1_fm2_4] : List ax_RL), ax_RO ax_wM1 (ax_XM 1) x := ax_ro_cons axq1_fa0 (ax_ro_cons axq1_fm1_4 (ax_ro_cons axq1_fm2_4 (ax_ro_nil)))
-- TurnNetModel.fail: 11 steps
set_option maxRecDepth 4000 in
theorem axk1_49_10 : ax_chk ax_wM1 rx_P (rx_DF, rx_FK) ax_APM1 (rx_n rxm_49) axm_49 (([702, 16], (3, [(0, 2147483648, 2147483648), (1, 0, 0), (1, 0, 0)], [(702, 72, 11)], [], [(151, [3, 7]), (164, [3, 7, 16]), (50, [])])), [(11, 18), (11, 19)], [([2], (4, [(0, 2147483649, 2147483652), (0, 2147483648, 2147483648), (1, 0, 0), (1, 0, 0)], [(702, 72, 15)], [], [(163, [3]), (50, [])]))]) [axu1_fa0, axu1_fm1_4, axu1_fm2_4] [] 3000 0 (() : ax_Tr 0) = true := by decide +kernel
set_option maxRecDepth 4000 in
theorem axs1_49_9 : ∀ x ∈ ([axu1_fa0, axu1_fa2, axu1_fm1_4, axu1_fm2_4] : List ax_RL), ax_RO ax_wM1 (ax_XM 1) x := ax_ro_cons axq1_fa0 (ax_ro_cons axq1_fa2 (ax_ro_cons axq1_fm1_4 (ax_ro_cons axq1_fm2_4 (ax_ro_nil))))
-- TurnNetModel.fail: 11 steps
set_option maxRecDepth 4000 in
theorem axk1_49_9 : ax_chk ax_wM1 rx_P (rx_DF, rx_FK) ax_APM1 (rx_n rxm_49) axm_49 (([702, 16], (3, [(0, 2147483648, 2147483648), (1, 0, 0), (1, 0, 0)], [(702, 72, 11)], [], [(151, [3, 7]), (164, [3, 7, 16]), (50, []), (52, [])])), [(11, 18), (11, 19)], [([2], (4, [(0, 2147483649, 2147483652), (0, 2147483648, 2147483648), (1, 0, 0), (1, 0, 0)], [(702, 72, 15)], [], [(163, [3]), (50, []), (52, [])]))]) [axu1_fa0, axu1_fa2, axu1_fm1_4, axu1_fm2_4] [] 3000 0 (() : ax_Tr 0) = true := by decide +kernel
-- TurnNetModel.fail: 4 steps
set_option maxRecDepth 4000 in
theorem axk1_49_8 : ax_chk ax_wM1 rx_P (rx_DF, rx_FK) ax_APM1 (rx_n rxm_49) axm_49 (([702, 12], (2, [(0, 2147483649, 2147483652), (1, 0, 0)], [(702, 72, 7)], [], [(163, [3]), (50, []), (52, [])])), [], [([2], (2, [(0, 2147483649, 2147483652), (1, 0, 0)], [(702, 72, 7)], [], [(163, [3]), (50, []), (52, [])]))]) [] [] 3000 0 (() : ax_Tr 0) = true := by decide +kernel
set_option maxRecDepth 4000 in
theorem axs1_49_7 : ∀ x ∈ ([axu1_fa0, axu1_fm1_3, axu1_fm2_3] : List ax_RL), ax_RO ax_wM1 (ax_XM 1) x := ax_ro_cons axq1_fa0 (ax_ro_cons axq1_fm1_3 (ax_ro_cons axq1_fm2_3 (ax_ro_nil)))
-- TurnNetModel.fail: 11 steps
set_option maxRecDepth 4000 in
theorem axk1_49_7 : ax_chk ax_wM1 rx_P (rx_DF, rx_FK) ax_APM1 (rx_n rxm_49) axm_49 (([702, 12], (3, [(0, 2147483648, 2147483648), (1, 0, 0), (1, 0, 0)], [(702, 72, 11)], [], [(151, [3, 7]), (164, [3, 7, 12]), (50, [])])), [(11, 18), (11, 19)], [([2], (4, [(0, 2147483649, 2147483652), (0, 2147483648, 2147483648), (1, 0, 0), (1, 0, 0)], [(702, 72, 15)], [], [(163, [3]), (50, [])]))]) [axu1_fa0, axu1_fm1_3, axu1_fm2_3] [] 3000 0 (() : ax_Tr 0) = true := by decide +kernel
set_option maxRecDepth 4000 in
theorem axs1_49_6 : ∀ x ∈ ([axu1_fa0, axu1_fa2, axu1_fm1_3, axu1_fm2_3] : List ax_RL), ax_RO ax_wM1 (ax_XM 1) x := ax_ro_cons axq1_fa0 (ax_ro_cons axq1_fa2 (ax_ro_cons axq1_fm1_3 (ax_ro_cons axq1_fm2_3 (ax_ro_nil))))
-- TurnNetModel.fail: 11 steps
set_option maxRecDepth 4000 in
theorem axk1_49_6 : ax_chk ax_wM1 rx_P (rx_DF, rx_FK) ax_APM1 (rx_n rxm_49) axm_49 (([702, 12], (3, [(0, 2147483648, 2147483648), (1, 0, 0), (1, 0, 0)], [(702, 72, 11)], [], [(151, [3, 7]), (164, [3, 7, 12]), (50, []), (52, [])])), [(11, 18), (11, 19)], [([2], (4, [(0, 2147483649, 2147483652), (0, 2147483648, 2147483648), (1, 0, 0), (1, 0, 0)], [(702, 72, 15)], [], [(163, [3]), (50, []), (52, [])]))]) [axu1_fa0, axu1_fa2, axu1_fm1_3, axu1_fm2_3] [] 3000 0 (() : ax_Tr 0) = true := by decide +kernel
-- TurnNetModel.fail: 4 steps
set_option maxRecDepth 4000 in
theorem axk1_49_5 : ax_chk ax_wM1 rx_P (rx_DF, rx_FK) ax_APM1 (rx_n rxm_49) axm_49 (([702, 8], (2, [(0, 2147483649, 2147483652), (1, 0, 0)], [(702, 72, 7)], [], [(163, [3]), (50, []), (52, [])])), [], [([2], (2, [(0, 2147483649, 2147483652), (1, 0, 0)], [(702, 72, 7)], [], [(163, [3]), (50, []), (52, [])]))]) [] [] 3000 0 (() : ax_Tr 0) = true := by decide +kernel
set_option maxRecDepth 4000 in
theorem axs1_49_4 : ∀ x ∈ ([axu1_fa0, axu1_fm1_2, axu1_fm2_2] : List ax_RL), ax_RO ax_wM1 (ax_XM 1) x := ax_ro_cons axq1_fa0 (ax_ro_cons axq1_fm1_2 (ax_ro_cons axq1_fm2_2 (ax_ro_nil)))
-- TurnNetModel.fail: 11 steps
set_option maxRecDepth 4000 in
theorem axk1_49_4 : ax_chk ax_wM1 rx_P (rx_DF, rx_FK) ax_APM1 (rx_n rxm_49) axm_49 (([702, 8], (3, [(0, 2147483648, 2147483648), (1, 0, 0), (1, 0, 0)], [(702, 72, 11)], [], [(151, [3, 7]), (164, [3, 7, 8]), (50, [])])), [(11, 18), (11, 19)], [([2], (4, [(0, 2147483649, 2147483652), (0, 2147483648, 2147483648), (1, 0, 0), (1, 0, 0)], [(702, 72, 15)], [], [(163, [3]), (50, [])]))]) [axu1_fa0, axu1_fm1_2, axu1_fm2_2] [] 3000 0 (() : ax_Tr 0) = true := by decide +kernel
set_option maxRecDepth 4000 in
theorem axs1_49_3 : ∀ x ∈ ([axu1_fa0, axu1_fa2, axu1_fm1_2, axu1_fm2_2] : List ax_RL), ax_RO ax_wM1 (ax_XM 1) x := ax_ro_cons axq1_fa0 (ax_ro_cons axq1_fa2 (ax_ro_cons axq1_fm1_2 (ax_ro_cons axq1_fm2_2 (ax_ro_nil))))
-- TurnNetModel.fail: 11 steps
set_option maxRecDepth 4000 in
theorem axk1_49_3 : ax_chk ax_wM1 rx_P (rx_DF, rx_FK) ax_APM1 (rx_n rxm_49) axm_49 (([702, 8], (3, [(0, 2147483648, 2147483648), (1, 0, 0), (1, 0, 0)], [(702, 72, 11)], [], [(151, [3, 7]), (164, [3, 7, 8]), (50, []), (52, [])])), [(11, 18), (11, 19)], [([2], (4, [(0, 2147483649, 2147483652), (0, 2147483648, 2147483648), (1, 0, 0), (1, 0, 0)], [(702, 72, 15)], [], [(163, [3]), (50, []), (52, [])]))]) [axu1_fa0, axu1_fa2, axu1_fm1_2, axu1_fm2_2] [] 3000 0 (() : ax_Tr 0) = true := by decide +kernel
-- TurnNetModel.fail: 4 steps
set_option maxRecDepth 4000 in
theorem axk1_49_2 : ax_chk ax_wM1 rx_P (rx_DF, rx_FK) ax_APM1 (rx_n rxm_49) axm_49 (([702, 4], (2, [(0, 2147483649, 2147483652), (1, 0, 0)], [(702, 72, 7)], [], [(163, [3]), (50, []), (52, [])])), [], [([2], (2, [(0, 2147483649, 2147483652), (1, 0, 0)], [(702, 72, 7)], [], [(163, [3]), (50, []), (52, [])]))]) [] [] 3000 0 (() : ax_Tr 0) = true := by decide +kernel
set_option maxRecDepth 4000 in
theorem axs1_49_1 : ∀ x ∈ ([axu1_fa0, axu1_fm1_1, axu1_fm2_1] : List ax_RL), ax_RO ax_wM1 (ax_XM 1) x := ax_ro_cons axq1_fa0 (ax_ro_cons axq1_fm1_1 (ax_ro_cons axq1_fm2_1 (ax_ro_nil)))
-- TurnNetModel.fail: 11 steps
set_option maxRecDepth 4000 in
theorem axk1_49_1 : ax_chk ax_wM1 rx_P (rx_DF, rx_FK) ax_APM1 (rx_n rxm_49) axm_49 (([702, 4], (3, [(0, 2147483648, 2147483648), (1, 0, 0), (1, 0, 0)], [(702, 72, 11)], [], [(151, [3, 7]), (164, [3, 7, 4]), (50, [])])), [(11, 18), (11, 19)], [([2], (4, [(0, 2147483649, 2147483652), (0, 2147483648, 2147483648), (1, 0, 0), (1, 0, 0)], [(702, 72, 15)], [], [(163, [3]), (50, [])]))]) [axu1_fa0, axu1_fm1_1, axu1_fm2_1] [] 3000 0 (() : ax_Tr 0) = true := by decide +kernel
set_option maxRecDepth 4000 in
theorem axs1_49_0 : ∀ x ∈ ([axu1_fa0, axu1_fa2, axu1_fm1_1, axu1_fm2_1] : List ax_RL), ax_RO ax_wM1 (ax_XM 1) x := ax_ro_cons axq1_fa0 (ax_ro_cons axq1_fa2 (ax_ro_cons axq1_fm1_1 (ax_ro_cons axq1_fm2_1 (ax_ro_nil))))
-- TurnNetModel.fail: 11 steps
set_option maxRecDepth 4000 in
theorem axk1_49_0 : ax_chk ax_wM1 rx_P (rx_DF, rx_FK) ax_APM1 (rx_n rxm_49) axm_49 (([702, 4], (3, [(0, 2147483648, 2147483648), (1, 0, 0), (1, 0, 0)], [(702, 72, 11)], [], [(151, [3, 7]), (164, [3, 7, 4]), (50, []), (52, [])])), [(11, 18), (11, 19)], [([2], (4, [(0, 2147483649, 2147483652), (0, 2147483648, 2147483648), (1, 0, 0), (1, 0, 0)], [(702, 72, 15)], [], [(163, [3]), (50, []), (52, [])]))]) [axu1_fa0, axu1_fa2, axu1_fm1_1, axu1_fm2_1] [] 3000 0 (() : ax_Tr 0) = true := by decide +kernel
theorem axr1_49 (hP : ∀ q ∈ rx_P, rx_QW q ∧ rx_ST rx_P (rx_DF, rx_FK) q) : ax_Row ax_wM1 (ax_XM 1) rx_P ax_APM1 rx_P (rx_DF, rx_FK) rxm_49 (axm_49, axc1_49) := fun hr => ⟨ax_tabB_ok axt_49, fun hL => ax_con_cons (ax_chk_ok hP ax_XM1_ok hr hL (ax_tabB_ok axt_49) axs1_49_0 axk1_49_0) (ax_con_cons (ax_chk_ok hP ax_XM1_ok hr hL (ax_tabB_ok axt_49) axs1_49_1 axk1_49_1) (ax_con_cons (ax_chk_ok hP ax_XM1_ok hr hL (ax_tabB_ok axt_49) ax_ro_nil axk1_49_2) (ax_con_cons (ax_chk_ok hP ax_XM1_ok hr hL (ax_tabB_ok axt_49) axs1_49_3 axk1_49_3) (ax_con_cons (ax_chk_ok hP ax_XM1_ok hr hL (ax_tabB_ok axt_49) axs1_49_4 axk1_49_4) (ax_con_cons (ax_chk_ok hP ax_XM1_ok hr hL (ax_tabB_ok axt_49) ax_ro_nil axk1_49_5) (ax_con_cons (ax_chk_ok hP ax_XM1_ok hr hL (ax_tabB_ok axt_49) axs1_49_6 axk1_49_6) (ax_con_cons (ax_chk_ok hP ax_XM1_ok hr hL (ax_tabB_ok axt_49) axs1_49_7 axk1_49_7) (ax_con_cons (ax_chk_ok hP ax_XM1_ok hr hL (ax_tabB_ok axt_49) ax_ro_nil axk1_49_8) (ax_con_cons (ax_chk_ok hP ax_XM1_ok hr hL (ax_tabB_ok axt_49) axs1_49_9 axk1_49_9) (ax_con_cons (ax_chk_ok hP ax_XM1_ok hr hL (ax_tabB_ok axt_49) axs1_49_10 axk1_49_10) (ax_con_cons (ax_chk_ok hP ax_XM1_ok hr hL (ax_tabB_ok axt_49) ax_ro_nil axk1_49_11) (ax_con_nil))))))))))))⟩
-- TurnNetModel.fault: 7 steps
set_option maxRecDepth 4000 in
theorem axk1_50_4 : ax_chk ax_wM1 rx_P (rx_DF, rx_FK) ax_APM1 (rx_n rxm_50) axm_50 (([702, 3], (1, [(0, 2147483650, 4294967295)], [], [], [(0, [80]), (1, []), (2, []), (25, []), (26, [])])), [], [([17179869180], (1, [(0, 2147483650, 4294967295)], [], [], [(0, [80]), (1, []), (2, []), (25, []), (26, [])]))]) [] [] 3000 0 (() : ax_Tr 0) = true := by decide +kernel
-- TurnNetModel.fault: 7 steps
set_option maxRecDepth 4000 in
theorem axk1_50_3 : ax_chk ax_wM1 rx_P (rx_DF, rx_FK) ax_APM1 (rx_n rxm_50) axm_50 (([702, 3], (1, [(0, 0, 2147483647)], [], [], [(0, [80]), (1, []), (2, []), (25, []), (26, [])])), [], [([17179869180], (1, [(0, 0, 2147483647)], [], [], [(0, [80]), (1, []), (2, []), (25, []), (26, [])]))]) [] [] 3000 0 (() : ax_Tr 0) = true := by decide +kernel
-- TurnNetModel.fault: 9 steps
set_option maxRecDepth 4000 in
theorem axk1_50_2 : ax_chk ax_wM1 rx_P (rx_DF, rx_FK) ax_APM1 (rx_n rxm_50) axm_50 (([702, 4], (1, [(0, 0, 4294967295)], [(702, 84, 3)], [], [(0, [80]), (1, []), (2, []), (25, []), (26, [])])), [], [([3], (1, [(0, 0, 4294967295)], [(702, 84, 3)], [], [(0, [80]), (1, []), (2, []), (25, []), (26, [])]))]) [] [] 3000 0 (() : ax_Tr 0) = true := by decide +kernel
-- TurnNetModel.fault: 6 steps
set_option maxRecDepth 4000 in
theorem axk1_50_1 : ax_chk ax_wM1 rx_P (rx_DF, rx_FK) ax_APM1 (rx_n rxm_50) axm_50 (([702, 0], (1, [(0, 0, 4294967295)], [(702, 80, 3)], [], [(0, [80]), (1, []), (2, []), (25, []), (26, [])])), [], [([3], (1, [(0, 0, 4294967295)], [(702, 80, 3)], [], [(0, [80]), (1, []), (2, []), (25, []), (26, [])]))]) [] [] 3000 0 (() : ax_Tr 0) = true := by decide +kernel
-- TurnNetModel.fault: 20 steps
set_option maxRecDepth 4000 in
theorem axk1_50_0 : ax_chk ax_wM1 rx_P (rx_DF, rx_FK) ax_APM1 (rx_n rxm_50) axm_50 (([702, 3], (1, [(0, 0, 4294967295)], [], [], [(0, [80]), (1, []), (2, []), (25, []), (26, [])])), [], [([7], (2, [(0, 0, 4294967295), (0, 0, 4294967295)], [], [], [(0, [80]), (1, []), (2, []), (25, []), (26, [])]))]) [] [] 3000 0 (() : ax_Tr 0) = true := by decide +kernel
theorem axr1_50 (hP : ∀ q ∈ rx_P, rx_QW q ∧ rx_ST rx_P (rx_DF, rx_FK) q) : ax_Row ax_wM1 (ax_XM 1) rx_P ax_APM1 rx_P (rx_DF, rx_FK) rxm_50 (axm_50, axc1_50) := fun hr => ⟨ax_tabB_ok axt_50, fun hL => ax_con_cons (ax_chk_ok hP ax_XM1_ok hr hL (ax_tabB_ok axt_50) ax_ro_nil axk1_50_0) (ax_con_cons (ax_chk_ok hP ax_XM1_ok hr hL (ax_tabB_ok axt_50) ax_ro_nil axk1_50_1) (ax_con_cons (ax_chk_ok hP ax_XM1_ok hr hL (ax_tabB_ok axt_50) ax_ro_nil axk1_50_2) (ax_con_cons (ax_chk_ok hP ax_XM1_ok hr hL (ax_tabB_ok axt_50) ax_ro_nil axk1_50_3) (ax_con_cons (ax_chk_ok hP ax_XM1_ok hr hL (ax_tabB_ok axt_50) ax_ro_nil axk1_50_4) (ax_con_nil)))))⟩
set_option maxRecDepth 4000 in
theorem axs1_51_1 : ∀ x ∈ ([axu1_mf1, axu1_mf2_0, axu1_mf2_1, axu1_mf2_2, axu1_mf2_3, axu1_mf2_4, axu1_mf3, axu1_mf4] : List ax_RL), ax_RO ax_wM1 (ax_XM 1) x := ax_ro_cons axq1_mf1 (ax_ro_cons axq1_mf2_0 (ax_ro_cons axq1_mf2_1 (ax_ro_cons axq1_mf2_2 (ax_ro_cons axq1_mf2_3 (ax_ro_cons axq1_mf2_4 (ax_ro_cons axq1_mf3 (ax_ro_cons axq1_mf4 (ax_ro_nil))))))))
-- TurnNetModel.feed: 141 steps
set_option maxRecDepth 4000 in
theorem axk1_51_1 : ax_chk ax_wM1 rx_P (rx_DF, rx_FK) ax_APM1 (rx_n rxm_51) axm_51 (([702, 7, 11, 15, 19, 23], (7, [(0, 2147483648, 2147484428), (0, 0, 4294967295), (0, 0, 4294967295), (0, 0, 4294967295), (0, 0, 4294967295), (0, 0, 4294967295), (1, 0, 0)], [(702, 44, 27)], [], [(0, [80]), (1, []), (2, []), (25, []), (26, []), (130, [3])])), [(11, 11), (53, 999)], [([35], (9, [(0, 2147483648, 2147484448), (1, 0, 0), (0, 2147483648, 2147484428), (0, 0, 4294967295), (0, 0, 4294967295), (0, 0, 4294967295), (0, 0, 4294967295), (0, 0, 4294967295), (1, 0, 0)], [(702, 44, 35)], [], [(0, [80]), (1, []), (2, []), (25, []), (26, []), (130, [31]), (137, [3, 7, 11, 15, 19, 23, 31])]))]) [axu1_mf1, axu1_mf2_0, axu1_mf2_1, axu1_mf2_2, axu1_mf2_3, axu1_mf2_4, axu1_mf3, axu1_mf4] [18] 3000 1 (([((18, 1, 7, ([702, 7, 11, 15, 19, 23, 31, 2], (9, [(1, 0, 0), (0, 2147483648, 2147483668), (0, 2147483648, 2147484428), (0, 0, 4294967295), (0, 0, 4294967295), (0, 0, 4294967295), (0, 0, 4294967295), (0, 0, 4294967295), (1, 0, 0)], [(702, 44, 27)], [], [(134, [3, 7, 11, 15, 19, 23, 31, 35]), (135, [35]), (139, [3, 27]), (0, [80]), (1, []), (2, []), (25, []), (26, [])]))), ())] : List ((Nat × Nat × Nat × ax_T) × ax_Tr 0)) : ax_Tr 1) = true := by decide +kernel
-- TurnNetModel.feed: 8 steps
set_option maxRecDepth 4000 in
theorem axk1_51_0 : ax_chk ax_wM1 rx_P (rx_DF, rx_FK) ax_APM1 (rx_n rxm_51) axm_51 (([702, 7, 11, 15, 19, 23], (7, [(0, 2147484429, 2147484448), (0, 0, 4294967295), (0, 0, 4294967295), (0, 0, 4294967295), (0, 0, 4294967295), (0, 0, 4294967295), (1, 0, 0)], [(702, 44, 27)], [], [(0, [80]), (1, []), (2, []), (25, []), (26, []), (130, [3])])), [], [([17179869180], (7, [(0, 2147484429, 2147484448), (0, 0, 4294967295), (0, 0, 4294967295), (0, 0, 4294967295), (0, 0, 4294967295), (0, 0, 4294967295), (1, 0, 0)], [(702, 44, 27)], [], [(0, [80]), (1, []), (2, []), (25, []), (26, []), (130, [3])]))]) [] [18] 3000 0 (() : ax_Tr 0) = true := by decide +kernel
theorem axr1_51 (hP : ∀ q ∈ rx_P, rx_QW q ∧ rx_ST rx_P (rx_DF, rx_FK) q) : ax_Row ax_wM1 (ax_XM 1) rx_P ax_APM1 rx_P (rx_DF, rx_FK) rxm_51 (axm_51, axc1_51) := fun hr => ⟨ax_tabB_ok axt_51, fun hL => ax_con_cons (ax_chk_ok hP ax_XM1_ok hr hL (ax_tabB_ok axt_51) ax_ro_nil axk1_51_0) (ax_con_cons (ax_chk_ok hP ax_XM1_ok hr hL (ax_tabB_ok axt_51) axs1_51_1 axk1_51_1) (ax_con_nil))⟩
set_option maxRecDepth 4000 in
theorem axs1_52_1 : ∀ x ∈ ([axu1_fp0, axu1_fpN, axu1_fpF] : List ax_RL), ax_RO ax_wM1 (ax_XM 1) x := ax_ro_cons axq1_fp0 (ax_ro_cons axq1_fpN (ax_ro_cons axq1_fpF (ax_ro_nil)))
-- TurnNetModel.freePacket: 18 steps
set_option maxRecDepth 4000 in
theorem axk1_52_1 : ax_chk ax_wM1 rx_P (rx_DF, rx_FK) ax_APM1 (rx_n rxm_52) axm_52 (([702], (0, [], [], [], [])), [], [([17179869180], (0, [], [], [], [])), ([3], (1, [(0, 2147483648, 2147483659)], [], [], [(3, [])]))]) [axu1_fp0, axu1_fpN, axu1_fpF] [2] 3000 1 (([((2, 1, 0, ([702, 3], (1, [(0, 2147483648, 2147483660)], [], [], [(4, [3])]))), ())] : List ((Nat × Nat × Nat × ax_T) × ax_Tr 0)) : ax_Tr 1) = true := by decide +kernel
set_option maxRecDepth 4000 in
theorem axs1_52_0 : ∀ x ∈ ([axu1_fp0, axu1_fpN, axu1_fpF, axu1_fpX] : List ax_RL), ax_RO ax_wM1 (ax_XM 1) x := ax_ro_cons axq1_fp0 (ax_ro_cons axq1_fpN (ax_ro_cons axq1_fpF (ax_ro_cons axq1_fpX (ax_ro_nil))))
-- TurnNetModel.freePacket: 17 steps
set_option maxRecDepth 4000 in
theorem axk1_52_0 : ax_chk ax_wM1 rx_P (rx_DF, rx_FK) ax_APM1 (rx_n rxm_52) axm_52 (([702], (0, [], [], [], [(3, [])])), [], [([3], (1, [(0, 2147483648, 2147483659)], [], [], [(3, [])]))]) [axu1_fp0, axu1_fpN, axu1_fpF, axu1_fpX] [2] 3000 1 (([((2, 1, 0, ([702, 3], (1, [(0, 2147483648, 2147483660)], [], [], [(4, [3]), (3, [])]))), ())] : List ((Nat × Nat × Nat × ax_T) × ax_Tr 0)) : ax_Tr 1) = true := by decide +kernel
theorem axr1_52 (hP : ∀ q ∈ rx_P, rx_QW q ∧ rx_ST rx_P (rx_DF, rx_FK) q) : ax_Row ax_wM1 (ax_XM 1) rx_P ax_APM1 rx_P (rx_DF, rx_FK) rxm_52 (axm_52, axc1_52) := fun hr => ⟨ax_tabB_ok axt_52, fun hL => ax_con_cons (ax_chk_ok hP ax_XM1_ok hr hL (ax_tabB_ok axt_52) axs1_52_0 axk1_52_0) (ax_con_cons (ax_chk_ok hP ax_XM1_ok hr hL (ax_tabB_ok axt_52) axs1_52_1 axk1_52_1) (ax_con_nil))⟩
theorem axr1_53 (hP : ∀ q ∈ rx_P, rx_QW q ∧ rx_ST rx_P (rx_DF, rx_FK) q) : ax_Row ax_wM1 (ax_XM 1) rx_P ax_APM1 rx_P (rx_DF, rx_FK) rxm_53 (axm_53, axc1_53) := fun hr => ⟨ax_tabB_ok axt_53, fun hL => ax_con_nil⟩
theorem axr1_54 (hP : ∀ q ∈ rx_P, rx_QW q ∧ rx_ST rx_P (rx_DF, rx_FK) q) : ax_Row ax_wM1 (ax_XM 1) rx_P ax_APM1 rx_P (rx_DF, rx_FK) rxm_54 (axm_54, axc1_54) := fun hr => ⟨ax_tabB_ok axt_54, fun hL => ax_con_nil⟩
theorem axr1_55 (hP : ∀ q ∈ rx_P, rx_QW q ∧ rx_ST rx_P (rx_DF, rx_FK) q) : ax_Row ax_wM1 (ax_XM 1) rx_P ax_APM1 rx_P (rx_DF, rx_FK) rxm_55 (axm_55, axc1_55) := fun hr => ⟨ax_tabB_ok axt_55, fun hL => ax_con_nil⟩
theorem axr1_56 (hP : ∀ q ∈ rx_P, rx_QW q ∧ rx_ST rx_P (rx_DF, rx_FK) q) : ax_Row ax_wM1 (ax_XM 1) rx_P ax_APM1 rx_P (rx_DF, rx_FK) rxm_56 (axm_56, axc1_56) := fun hr => ⟨ax_tabB_ok axt_56, fun hL => ax_con_nil⟩
theorem axr1_57 (hP : ∀ q ∈ rx_P, rx_QW q ∧ rx_ST rx_P (rx_DF, rx_FK) q) : ax_Row ax_wM1 (ax_XM 1) rx_P ax_APM1 rx_P (rx_DF, rx_FK) rxm_57 (axm_57, axc1_57) := fun hr => ⟨ax_tabB_ok axt_57, fun hL => ax_con_nil⟩
set_option maxRecDepth 4000 in
theorem axs1_58_7 : ∀ x ∈ ([axu1_is1a_7, axu1_is1b_7, axu1_is2_7, axu1_is3_7_0, axu1_is4a_7_0, axu1_is4b_7_0, axu1_is3_7_1, axu1_is4a_7_1, axu1_is4b_7_1, axu1_is3_7_2, axu1_is4a_7_2, axu1_is4b_7_2, axu1_is3_7_3, axu1_is4a_7_3, axu1_is4b_7_3, axu1_is3_7_4, axu1_is4a_7_4, axu1_is4b_7_4, axu1_is5_7] : List ax_RL), ax_RO ax_wM1 (ax_XM 1) x := ax_ro_cons axq1_is1a_7 (ax_ro_cons axq1_is1b_7 (ax_ro_cons axq1_is2_7 (ax_ro_cons axq1_is3_7_0 (ax_ro_cons axq1_is4a_7_0 (ax_ro_cons axq1_is4b_7_0 (ax_ro_cons axq1_is3_7_1 (ax_ro_cons axq1_is4a_7_1 (ax_ro_cons axq1_is4b_7_1 (ax_ro_cons axq1_is3_7_2 (ax_ro_cons axq1_is4a_7_2 (ax_ro_cons axq1_is4b_7_2 (ax_ro_cons axq1_is3_7_3 (ax_ro_cons axq1_is4a_7_3 (ax_ro_cons axq1_is4b_7_3 (ax_ro_cons axq1_is3_7_4 (ax_ro_cons axq1_is4a_7_4 (ax_ro_cons axq1_is4b_7_4 (ax_ro_cons axq1_is5_7 (ax_ro_nil)))))))))))))))))))
-- TurnNetModel.isSame: 147 steps
set_option maxRecDepth 4000 in
theorem axk1_58_7 : ax_chk ax_wM1 rx_P (rx_DF, rx_FK) ax_APM1 (rx_n rxm_58) axm_58 (([702, 160, 180], (3, [(0, 2147483648, 2147484448), (1, 0, 0), (1, 0, 0)], [(702, 52, 11)], [], [(131, [3]), (154, [3, 7]), (156, [3, 7]), (168, [3, 7, 4])])), [], [([0], (3, [(0, 2147483648, 2147484448), (1, 0, 0), (1, 0, 0)], [], [], [(161, [3, 7, 28])])), ([4], (3, [(0, 2147483648, 2147484448), (1, 0, 0), (1, 0, 0)], [], [], [(160, [3, 7, 28])]))]) [axu1_is1a_7, axu1_is1b_7, axu1_is2_7, axu1_is3_7_0, axu1_is4a_7_0, axu1_is4b_7_0, axu1_is3_7_1, axu1_is4a_7_1, axu1_is4b_7_1, axu1_is3_7_2, axu1_is4a_7_2, axu1_is4b_7_2, axu1_is3_7_3, axu1_is4a_7_3, axu1_is4b_7_3, axu1_is3_7_4, axu1_is4a_7_4, axu1_is4b_7_4, axu1_is5_7] [] 3000 0 (() : ax_Tr 0) = true := by decide +kernel
set_option maxRecDepth 4000 in
theorem axs1_58_6 : ∀ x ∈ ([axu1_is1a_6, axu1_is1b_6, axu1_is2_6, axu1_is3_6_0, axu1_is4a_6_0, axu1_is4b_6_0, axu1_is3_6_1, axu1_is4a_6_1, axu1_is4b_6_1, axu1_is3_6_2, axu1_is4a_6_2, axu1_is4b_6_2, axu1_is3_6_3, axu1_is4a_6_3, axu1_is4b_6_3, axu1_is3_6_4, axu1_is4a_6_4, axu1_is4b_6_4, axu1_is3_6_5, axu1_is4a_6_5, axu1_is4b_6_5, axu1_is5_6] : List ax_RL), ax_RO ax_wM1 (ax_XM 1) x := ax_ro_cons axq1_is1a_6 (ax_ro_cons axq1_is1b_6 (ax_ro_cons axq1_is2_6 (ax_ro_cons axq1_is3_6_0 (ax_ro_cons axq1_is4a_6_0 (ax_ro_cons axq1_is4b_6_0 (ax_ro_cons axq1_is3_6_1 (ax_ro_cons axq1_is4a_6_1 (ax_ro_cons axq1_is4b_6_1 (ax_ro_cons axq1_is3_6_2 (ax_ro_cons axq1_is4a_6_2 (ax_ro_cons axq1_is4b_6_2 (ax_ro_cons axq1_is3_6_3 (ax_ro_cons axq1_is4a_6_3 (ax_ro_cons axq1_is4b_6_3 (ax_ro_cons axq1_is3_6_4 (ax_ro_cons axq1_is4a_6_4 (ax_ro_cons axq1_is4b_6_4 (ax_ro_cons axq1_is3_6_5 (ax_ro_cons axq1_is4a_6_5 (ax_ro_cons axq1_is4b_6_5 (ax_ro_cons axq1_is5_6 (ax_ro_nil))))))))))))))))))))))
-- TurnNetModel.isSame: 172 steps
set_option maxRecDepth 4000 in
theorem axk1_58_6 : ax_chk ax_wM1 rx_P (rx_DF, rx_FK) ax_APM1 (rx_n rxm_58) axm_58 (([702, 132, 156], (3, [(0, 2147483648, 2147484448), (1, 0, 0), (1, 0, 0)], [(702, 52, 11)], [], [(131, [3]), (154, [3, 7]), (156, [3, 7]), (168, [3, 7, 4])])), [], [([0], (3, [(0, 2147483648, 2147484448), (1, 0, 0), (1, 0, 0)], [], [], [(161, [3, 7, 24])])), ([4], (3, [(0, 2147483648, 2147484448), (1, 0, 0), (1, 0, 0)], [], [], [(160, [3, 7, 24])]))]) [axu1_is1a_6, axu1_is1b_6, axu1_is2_6, axu1_is3_6_0, axu1_is4a_6_0, axu1_is4b_6_0, axu1_is3_6_1, axu1_is4a_6_1, axu1_is4b_6_1, axu1_is3_6_2, axu1_is4a_6_2, axu1_is4b_6_2, axu1_is3_6_3, axu1_is4a_6_3, axu1_is4b_6_3, axu1_is3_6_4, axu1_is4a_6_4, axu1_is4b_6_4, axu1_is3_6_5, axu1_is4a_6_5, axu1_is4b_6_5, axu1_is5_6] [] 3000 0 (() : ax_Tr 0) = true := by decide +kernel
set_option maxRecDepth 4000 in
theorem axs1_58_5 : ∀ x ∈ ([axu1_is1a_5, axu1_is1b_5, axu1_is2_5, axu1_is3_5_0, axu1_is4a_5_0, axu1_is4b_5_0, axu1_is3_5_1, axu1_is4a_5_1, axu1_is4b_5_1, axu1_is3_5_2, axu1_is4a_5_2, axu1_is4b_5_2, axu1_is5_5] : List ax_RL), ax_RO ax_wM1 (ax_XM 1) x := ax_ro_cons axq1_is1a_5 (ax_ro_cons axq1_is1b_5 (ax_ro_cons axq1_is2_5 (ax_ro_cons axq1_is3_5_0 (ax_ro_cons axq1_is4a_5_0 (ax_ro_cons axq1_is4b_5_0 (ax_ro_cons axq1_is3_5_1 (ax_ro_cons axq1_is4a_5_1 (ax_ro_cons axq1_is4b_5_1 (ax_ro_cons axq1_is3_5_2 (ax_ro_cons axq1_is4a_5_2 (ax_ro_cons axq1_is4b_5_2 (ax_ro_cons axq1_is5_5 (ax_ro_nil)))))))))))))
-- TurnNetModel.isSame: 97 steps
set_option maxRecDepth 4000 in
theorem axk1_58_5 : ax_chk ax_wM1 rx_P (rx_DF, rx_FK) ax_APM1 (rx_n rxm_58) axm_58 (([702, 116, 128], (3, [(0, 2147483648, 2147484448), (1, 0, 0), (1, 0, 0)], [(702, 52, 11)], [], [(131, [3]), (154, [3, 7]), (156, [3, 7]), (168, [3, 7, 4])])), [], [([0], (3, [(0, 2147483648, 2147484448), (1, 0, 0), (1, 0, 0)], [], [], [(161, [3, 7, 20])])), ([4], (3, [(0, 2147483648, 2147484448), (1, 0, 0), (1, 0, 0)], [], [], [(160, [3, 7, 20])]))]) [axu1_is1a_5, axu1_is1b_5, axu1_is2_5, axu1_is3_5_0, axu1_is4a_5_0, axu1_is4b_5_0, axu1_is3_5_1, axu1_is4a_5_1, axu1_is4b_5_1, axu1_is3_5_2, axu1_is4a_5_2, axu1_is4b_5_2, axu1_is5_5] [] 3000 0 (() : ax_Tr 0) = true := by decide +kernel
set_option maxRecDepth 4000 in
theorem axs1_58_4 : ∀ x ∈ ([axu1_is1a_4, axu1_is1b_4, axu1_is2_4, axu1_is3_4_0, axu1_is4a_4_0, axu1_is4b_4_0, axu1_is3_4_1, axu1_is4a_4_1, axu1_is4b_4_1, axu1_is3_4_2, axu1_is4a_4_2, axu1_is4b_4_2, axu1_is3_4_3, axu1_is4a_4_3, axu1_is4b_4_3, axu1_is5_4] : List ax_RL), ax_RO ax_wM1 (ax_XM 1) x := ax_ro_cons axq1_is1a_4 (ax_ro_cons axq1_is1b_4 (ax_ro_cons axq1_is2_4 (ax_ro_cons axq1_is3_4_0 (ax_ro_cons axq1_is4a_4_0 (ax_ro_cons axq1_is4b_4_0 (ax_ro_cons axq1_is3_4_1 (ax_ro_cons axq1_is4a_4_1 (ax_ro_cons axq1_is4b_4_1 (ax_ro_cons axq1_is3_4_2 (ax_ro_cons axq1_is4a_4_2 (ax_ro_cons axq1_is4b_4_2 (ax_ro_cons axq1_is3_4_3 (ax_ro_cons axq1_is4a_4_3 (ax_ro_cons axq1_is4b_4_3 (ax_ro_cons axq1_is5_4 (ax_ro_nil))))))))))))))))
-- TurnNetModel.isSame: 122 steps
set_option maxRecDepth 4000 in
theorem axk1_58_4 : ax_chk ax_wM1 rx_P (rx_DF, rx_FK) ax_APM1 (rx_n rxm_58) axm_58 (([702, 96, 112], (3, [(0, 2147483648, 2147484448), (1, 0, 0), (1, 0, 0)], [(702, 52, 11)], [], [(131, [3]), (154, [3, 7]), (156, [3, 7]), (168, [3, 7, 4])])), [], [([0], (3, [(0, 2147483648, 2147484448), (1, 0, 0), (1, 0, 0)], [], [], [(161, [3, 7, 12])])), ([4], (3, [(0, 2147483648, 2147484448), (1, 0, 0), (1, 0, 0)], [], [], [(160, [3, 7, 12])]))]) [axu1_is1a_4, axu1_is1b_4, axu1_is2_4, axu1_is3_4_0, axu1_is4a_4_0, axu1_is4b_4_0, axu1_is3_4_1, axu1_is4a_4_1, axu1_is4b_4_1, axu1_is3_4_2, axu1_is4a_4_2, axu1_is4b_4_2, axu1_is3_4_3, axu1_is4a_4_3, axu1_is4b_4_3, axu1_is5_4] [] 3000 0 (() : ax_Tr 0) = true := by decide +kernel
set_option maxRecDepth 4000 in
theorem axs1_58_3 : ∀ x ∈ ([axu1_is1a_3, axu1_is1b_3, axu1_is2_3, axu1_is3_3_0, axu1_is4a_3_0, axu1_is4b_3_0, axu1_is3_3_1, axu1_is4a_3_1, axu1_is4b_3_1, axu1_is3_3_2, axu1_is4a_3_2, axu1_is4b_3_2, axu1_is3_3_3, axu1_is4a_3_3, axu1_is4b_3_3, axu1_is5_3] : List ax_RL), ax_RO ax_wM1 (ax_XM 1) x := ax_ro_cons axq1_is1a_3 (ax_ro_cons axq1_is1b_3 (ax_ro_cons axq1_is2_3 (ax_ro_cons axq1_is3_3_0 (ax_ro_cons axq1_is4a_3_0 (ax_ro_cons axq1_is4b_3_0 (ax_ro_cons axq1_is3_3_1 (ax_ro_cons axq1_is4a_3_1 (ax_ro_cons axq1_is4b_3_1 (ax_ro_cons axq1_is3_3_2 (ax_ro_cons axq1_is4a_3_2 (ax_ro_cons axq1_is4b_3_2 (ax_ro_cons axq1_is3_3_3 (ax_ro_cons axq1_is4a_3_3 (ax_ro_cons axq1_is4b_3_3 (ax_ro_cons axq1_is5_3 (ax_ro_nil))))))))))))))))
-- TurnNetModel.isSame: 122 steps
set_option maxRecDepth 4000 in
theorem axk1_58_3 : ax_chk ax_wM1 rx_P (rx_DF, rx_FK) ax_APM1 (rx_n rxm_58) axm_58 (([702, 76, 92], (3, [(0, 2147483648, 2147484448), (1, 0, 0), (1, 0, 0)], [(702, 52, 11)], [], [(131, [3]), (154, [3, 7]), (156, [3, 7]), (168, [3, 7, 4])])), [], [([0], (3, [(0, 2147483648, 2147484448), (1, 0, 0), (1, 0, 0)], [], [], [(161, [3, 7, 16])])), ([4], (3, [(0, 2147483648, 2147484448), (1, 0, 0), (1, 0, 0)], [], [], [(160, [3, 7, 16])]))]) [axu1_is1a_3, axu1_is1b_3, axu1_is2_3, axu1_is3_3_0, axu1_is4a_3_0, axu1_is4b_3_0, axu1_is3_3_1, axu1_is4a_3_1, axu1_is4b_3_1, axu1_is3_3_2, axu1_is4a_3_2, axu1_is4b_3_2, axu1_is3_3_3, axu1_is4a_3_3, axu1_is4b_3_3, axu1_is5_3] [] 3000 0 (() : ax_Tr 0) = true := by decide +kernel
set_option maxRecDepth 4000 in
theorem axs1_58_2 : ∀ x ∈ ([axu1_is1a_2, axu1_is1b_2, axu1_is2_2, axu1_is3_2_0, axu1_is4a_2_0, axu1_is4b_2_0, axu1_is3_2_1, axu1_is4a_2_1, axu1_is4b_2_1, axu1_is3_2_2, axu1_is4a_2_2, axu1_is4b_2_2, axu1_is3_2_3, axu1_is4a_2_3, axu1_is4b_2_3, axu1_is5_2] : List ax_RL), ax_RO ax_wM1 (ax_XM 1) x := ax_ro_cons axq1_is1a_2 (ax_ro_cons axq1_is1b_2 (ax_ro_cons axq1_is2_2 (ax_ro_cons axq1_is3_2_0 (ax_ro_cons axq1_is4a_2_0 (ax_ro_cons axq1_is4b_2_0 (ax_ro_cons axq1_is3_2_1 (ax_ro_cons axq1_is4a_2_1 (ax_ro_cons axq1_is4b_2_1 (ax_ro_cons axq1_is3_2_2 (ax_ro_cons axq1_is4a_2_2 (ax_ro_cons axq1_is4b_2_2 (ax_ro_cons axq1_is3_2_3 (ax_ro_cons axq1_is4a_2_3 (ax_ro_cons axq1_is4b_2_3 (ax_ro_cons axq1_is5_2 (ax_ro_nil))))))))))))))))
-- TurnNetModel.isSame: 122 steps
set_option maxRecDepth 4000 in
theorem axk1_58_2 : ax_chk ax_wM1 rx_P (rx_DF, rx_FK) ax_APM1 (rx_n rxm_58) axm_58 (([702, 56, 72], (3, [(0, 2147483648, 2147484448), (1, 0, 0), (1, 0, 0)], [(702, 52, 11)], [], [(131, [3]), (154, [3, 7]), (156, [3, 7]), (168, [3, 7, 4])])), [], [([0], (3, [(0, 2147483648, 2147484448), (1, 0, 0), (1, 0, 0)], [], [], [(161, [3, 7, 8])])), ([4], (3, [(0, 2147483648, 2147484448), (1, 0, 0), (1, 0, 0)], [], [], [(160, [3, 7, 8])]))]) [axu1_is1a_2, axu1_is1b_2, axu1_is2_2, axu1_is3_2_0, axu1_is4a_2_0, axu1_is4b_2_0, axu1_is3_2_1, axu1_is4a_2_1, axu1_is4b_2_1, axu1_is3_2_2, axu1_is4a_2_2, axu1_is4b_2_2, axu1_is3_2_3, axu1_is4a_2_3, axu1_is4b_2_3, axu1_is5_2] [] 3000 0 (() : ax_Tr 0) = true := by decide +kernel
set_option maxRecDepth 4000 in
theorem axs1_58_1 : ∀ x ∈ ([axu1_is1a_1, axu1_is1b_1, axu1_is2_1, axu1_is3_1_0, axu1_is4a_1_0, axu1_is4b_1_0, axu1_is3_1_1, axu1_is4a_1_1, axu1_is4b_1_1, axu1_is3_1_2, axu1_is4a_1_2, axu1_is4b_1_2, axu1_is3_1_3, axu1_is4a_1_3, axu1_is4b_1_3, axu1_is5_1] : List ax_RL), ax_RO ax_wM1 (ax_XM 1) x := ax_ro_cons axq1_is1a_1 (ax_ro_cons axq1_is1b_1 (ax_ro_cons axq1_is2_1 (ax_ro_cons axq1_is3_1_0 (ax_ro_cons axq1_is4a_1_0 (ax_ro_cons axq1_is4b_1_0 (ax_ro_cons axq1_is3_1_1 (ax_ro_cons axq1_is4a_1_1 (ax_ro_cons axq1_is4b_1_1 (ax_ro_cons axq1_is3_1_2 (ax_ro_cons axq1_is4a_1_2 (ax_ro_cons axq1_is4b_1_2 (ax_ro_cons axq1_is3_1_3 (ax_ro_cons axq1_is4a_1_3 (ax_ro_cons axq1_is4b_1_3 (ax_ro_cons axq1_is5_1 (ax_ro_nil))))))))))))))))
-- TurnNetModel.isSame: 122 steps
set_option maxRecDepth 4000 in
theorem axk1_58_1 : ax_chk ax_wM1 rx_P (rx_DF, rx_FK) ax_APM1 (rx_n rxm_58) axm_58 (([702, 36, 52], (3, [(0, 2147483648, 2147484448), (1, 0, 0), (1, 0, 0)], [(702, 52, 11)], [], [(131, [3]), (154, [3, 7]), (156, [3, 7]), (168, [3, 7, 4])])), [], [([0], (3, [(0, 2147483648, 2147484448), (1, 0, 0), (1, 0, 0)], [], [], [(161, [3, 7, 4])])), ([4], (3, [(0, 2147483648, 2147484448), (1, 0, 0), (1, 0, 0)], [], [], [(160, [3, 7, 4])]))]) [axu1_is1a_1, axu1_is1b_1, axu1_is2_1, axu1_is3_1_0, axu1_is4a_1_0, axu1_is4b_1_0, axu1_is3_1_1, axu1_is4a_1_1, axu1_is4b_1_1, axu1_is3_1_2, axu1_is4a_1_2, axu1_is4b_1_2, axu1_is3_1_3, axu1_is4a_1_3, axu1_is4b_1_3, axu1_is5_1] [] 3000 0 (() : ax_Tr 0) = true := by decide +kernel
set_option maxRecDepth 4000 in
theorem axs1_58_0 : ∀ x ∈ ([axu1_is1a_0, axu1_is1b_0, axu1_is2_0, axu1_is3_0_0, axu1_is4a_0_0, axu1_is4b_0_0, axu1_is3_0_1, axu1_is4a_0_1, axu1_is4b_0_1, axu1_is3_0_2, axu1_is4a_0_2, axu1_is4b_0_2, axu1_is3_0_3, axu1_is4a_0_3, axu1_is4b_0_3, axu1_is3_0_4, axu1_is4a_0_4, axu1_is4b_0_4, axu1_is3_0_5, axu1_is4a_0_5, axu1_is4b_0_5, axu1_is3_0_6, axu1_is4a_0_6, axu1_is4b_0_6, axu1_is3_0_7, axu1_is4a_0_7, axu1_is4b_0_7, axu1_is5_0] : List ax_RL), ax_RO ax_wM1 (ax_XM 1) x := ax_ro_cons axq1_is1a_0 (ax_ro_cons axq1_is1b_0 (ax_ro_cons axq1_is2_0 (ax_ro_cons axq1_is3_0_0 (ax_ro_cons axq1_is4a_0_0 (ax_ro_cons axq1_is4b_0_0 (ax_ro_cons axq1_is3_0_1 (ax_ro_cons axq1_is4a_0_1 (ax_ro_cons axq1_is4b_0_1 (ax_ro_cons axq1_is3_0_2 (ax_ro_cons axq1_is4a_0_2 (ax_ro_cons axq1_is4b_0_2 (ax_ro_cons axq1_is3_0_3 (ax_ro_cons axq1_is4a_0_3 (ax_ro_cons axq1_is4b_0_3 (ax_ro_cons axq1_is3_0_4 (ax_ro_cons axq1_is4a_0_4 (ax_ro_cons axq1_is4b_0_4 (ax_ro_cons axq1_is3_0_5 (ax_ro_cons axq1_is4a_0_5 (ax_ro_cons axq1_is4b_0_5 (ax_ro_cons axq1_is3_0_6 (ax_ro_cons axq1_is4a_0_6 (ax_ro_cons axq1_is4b_0_6 (ax_ro_cons axq1_is3_0_7 (ax_ro_cons axq1_is4a_0_7 (ax_ro_cons axq1_is4b_0_7 (ax_ro_cons axq1_is5_0 (ax_ro_nil))))))))))))))))))))))))))))
-- TurnNetModel.isSame: 222 steps
set_option maxRecDepth 4000 in
theorem axk1_58_0 : ax_chk ax_wM1 rx_P (rx_DF, rx_FK) ax_APM1 (rx_n rxm_58) axm_58 (([702, 0, 32], (3, [(0, 2147483648, 2147484448), (1, 0, 0), (1, 0, 0)], [(702, 52, 11)], [], [(131, [3]), (154, [3, 7]), (156, [3, 7]), (168, [3, 7, 4])])), [], [([0], (3, [(0, 2147483648, 2147484448), (1, 0, 0), (1, 0, 0)], [], [], [(161, [3, 7, 0])])), ([4], (3, [(0, 2147483648, 2147484448), (1, 0, 0), (1, 0, 0)], [], [], [(160, [3, 7, 0])]))]) [axu1_is1a_0, axu1_is1b_0, axu1_is2_0, axu1_is3_0_0, axu1_is4a_0_0, axu1_is4b_0_0, axu1_is3_0_1, axu1_is4a_0_1, axu1_is4b_0_1, axu1_is3_0_2, axu1_is4a_0_2, axu1_is4b_0_2, axu1_is3_0_3, axu1_is4a_0_3, axu1_is4b_0_3, axu1_is3_0_4, axu1_is4a_0_4, axu1_is4b_0_4, axu1_is3_0_5, axu1_is4a_0_5, axu1_is4b_0_5, axu1_is3_0_6, axu1_is4a_0_6, axu1_is4b_0_6, axu1_is3_0_7, axu1_is4a_0_7, axu1_is4b_0_7, axu1_is5_0] [] 3000 0 (() : ax_Tr 0) = true := by decide +kernel
theorem axr1_58 (hP : ∀ q ∈ rx_P, rx_QW q ∧ rx_ST rx_P (rx_DF, rx_FK) q) : ax_Row ax_wM1 (ax_XM 1) rx_P ax_APM1 rx_P (rx_DF, rx_FK) rxm_58 (axm_58, axc1_58) := fun hr => ⟨ax_tabB_ok axt_58, fun hL => ax_con_cons (ax_chk_ok hP ax_XM1_ok hr hL (ax_tabB_ok axt_58) axs1_58_0 axk1_58_0) (ax_con_cons (ax_chk_ok hP ax_XM1_ok hr hL (ax_tabB_ok axt_58) axs1_58_1 axk1_58_1) (ax_con_cons (ax_chk_ok hP ax_XM1_ok hr hL (ax_tabB_ok axt_58) axs1_58_2 axk1_58_2) (ax_con_cons (ax_chk_ok hP ax_XM1_ok hr hL (ax_tabB_ok axt_58) axs1_58_3 axk1_58_3) (ax_con_cons (ax_chk_ok hP ax_XM1_ok hr hL (ax_tabB_ok axt_58) axs1_58_4 axk1_58_4) (ax_con_cons (ax_chk_ok hP ax_XM1_ok hr hL (ax_tabB_ok axt_58) axs1_58_5 axk1_58_5) (ax_con_cons (ax_chk_ok hP ax_XM1_ok hr hL (ax_tabB_ok axt_58) axs1_58_6 axk1_58_6) (ax_con_cons (ax_chk_ok hP ax_XM1_ok hr hL (ax_tabB_ok axt_58) axs1_58_7 axk1_58_7) (ax_con_nil))))))))⟩
theorem axr1_59 (hP : ∀ q ∈ rx_P, rx_QW q ∧ rx_ST rx_P (rx_DF, rx_FK) q) : ax_Row ax_wM1 (ax_XM 1) rx_P ax_APM1 rx_P (rx_DF, rx_FK) rxm_59 (axm_59, axc1_59) := fun hr => ⟨ax_tabB_ok axt_59, fun hL => ax_con_nil⟩
set_option maxRecDepth 4000 in
theorem axs1_60_7 : ∀ x ∈ ([axu1_iv1_7, axu1_iv2a_7, axu1_iv2b_7, axu1_iv3a_7, axu1_iv3b_7] : List ax_RL), ax_RO ax_wM1 (ax_XM 1) x := ax_ro_cons axq1_iv1_7 (ax_ro_cons axq1_iv2a_7 (ax_ro_cons axq1_iv2b_7 (ax_ro_cons axq1_iv3a_7 (ax_ro_cons axq1_iv3b_7 (ax_ro_nil)))))
-- TurnNetModel.isWord: 22 steps
set_option maxRecDepth 4000 in
theorem axk1_60_7 : ax_chk ax_wM1 rx_P (rx_DF, rx_FK) ax_APM1 (rx_n rxm_60) axm_60 (([702, 28], (3, [(0, 2147483648, 2147483648), (1, 0, 0), (1, 0, 0)], [(702, 72, 11)], [], [(151, [3, 7])])), [], [([0], (3, [(0, 2147483648, 2147483648), (1, 0, 0), (1, 0, 0)], [(702, 72, 11)], [], [(161, [3, 7, 28])])), ([4], (3, [(0, 2147483648, 2147483648), (1, 0, 0), (1, 0, 0)], [(702, 72, 11)], [], [(160, [3, 7, 28])]))]) [axu1_iv1_7, axu1_iv2a_7, axu1_iv2b_7, axu1_iv3a_7, axu1_iv3b_7] [] 3000 0 (() : ax_Tr 0) = true := by decide +kernel
set_option maxRecDepth 4000 in
theorem axs1_60_6 : ∀ x ∈ ([axu1_iv1_6, axu1_iv2a_6, axu1_iv2b_6, axu1_iv3a_6, axu1_iv3b_6] : List ax_RL), ax_RO ax_wM1 (ax_XM 1) x := ax_ro_cons axq1_iv1_6 (ax_ro_cons axq1_iv2a_6 (ax_ro_cons axq1_iv2b_6 (ax_ro_cons axq1_iv3a_6 (ax_ro_cons axq1_iv3b_6 (ax_ro_nil)))))
-- TurnNetModel.isWord: 22 steps
set_option maxRecDepth 4000 in
theorem axk1_60_6 : ax_chk ax_wM1 rx_P (rx_DF, rx_FK) ax_APM1 (rx_n rxm_60) axm_60 (([702, 24], (3, [(0, 2147483648, 2147483648), (1, 0, 0), (1, 0, 0)], [(702, 72, 11)], [], [(151, [3, 7])])), [], [([0], (3, [(0, 2147483648, 2147483648), (1, 0, 0), (1, 0, 0)], [(702, 72, 11)], [], [(161, [3, 7, 24])])), ([4], (3, [(0, 2147483648, 2147483648), (1, 0, 0), (1, 0, 0)], [(702, 72, 11)], [], [(160, [3, 7, 24])]))]) [axu1_iv1_6, axu1_iv2a_6, axu1_iv2b_6, axu1_iv3a_6, axu1_iv3b_6] [] 3000 0 (() : ax_Tr 0) = true := by decide +kernel
set_option maxRecDepth 4000 in
theorem axs1_60_5 : ∀ x ∈ ([axu1_iv1_5, axu1_iv2a_5, axu1_iv2b_5, axu1_iv3a_5, axu1_iv3b_5] : List ax_RL), ax_RO ax_wM1 (ax_XM 1) x := ax_ro_cons axq1_iv1_5 (ax_ro_cons axq1_iv2a_5 (ax_ro_cons axq1_iv2b_5 (ax_ro_cons axq1_iv3a_5 (ax_ro_cons axq1_iv3b_5 (ax_ro_nil)))))
-- TurnNetModel.isWord: 22 steps
set_option maxRecDepth 4000 in
theorem axk1_60_5 : ax_chk ax_wM1 rx_P (rx_DF, rx_FK) ax_APM1 (rx_n rxm_60) axm_60 (([702, 20], (3, [(0, 2147483648, 2147483648), (1, 0, 0), (1, 0, 0)], [(702, 72, 11)], [], [(151, [3, 7])])), [], [([0], (3, [(0, 2147483648, 2147483648), (1, 0, 0), (1, 0, 0)], [(702, 72, 11)], [], [(161, [3, 7, 20])])), ([4], (3, [(0, 2147483648, 2147483648), (1, 0, 0), (1, 0, 0)], [(702, 72, 11)], [], [(160, [3, 7, 20])]))]) [axu1_iv1_5, axu1_iv2a_5, axu1_iv2b_5, axu1_iv3a_5, axu1_iv3b_5] [] 3000 0 (() : ax_Tr 0) = true := by decide +kernel
set_option maxRecDepth 4000 in
theorem axs1_60_4 : ∀ x ∈ ([axu1_iv1_4, axu1_iv2a_4, axu1_iv2b_4, axu1_iv3a_4, axu1_iv3b_4] : List ax_RL), ax_RO ax_wM1 (ax_XM 1) x := ax_ro_cons axq1_iv1_4 (ax_ro_cons axq1_iv2a_4 (ax_ro_cons axq1_iv2b_4 (ax_ro_cons axq1_iv3a_4 (ax_ro_cons axq1_iv3b_4 (ax_ro_nil)))))
-- TurnNetModel.isWord: 22 steps
set_option maxRecDepth 4000 in
theorem axk1_60_4 : ax_chk ax_wM1 rx_P (rx_DF, rx_FK) ax_APM1 (rx_n rxm_60) axm_60 (([702, 16], (3, [(0, 2147483648, 2147483648), (1, 0, 0), (1, 0, 0)], [(702, 72, 11)], [], [(151, [3, 7])])), [], [([0], (3, [(0, 2147483648, 2147483648), (1, 0, 0), (1, 0, 0)], [(702, 72, 11)], [], [(161, [3, 7, 12])])), ([4], (3, [(0, 2147483648, 2147483648), (1, 0, 0), (1, 0, 0)], [(702, 72, 11)], [], [(160, [3, 7, 12])]))]) [axu1_iv1_4, axu1_iv2a_4, axu1_iv2b_4, axu1_iv3a_4, axu1_iv3b_4] [] 3000 0 (() : ax_Tr 0) = true := by decide +kernel
set_option maxRecDepth 4000 in
theorem axs1_60_3 : ∀ x ∈ ([axu1_iv1_3, axu1_iv2a_3, axu1_iv2b_3, axu1_iv3a_3, axu1_iv3b_3] : List ax_RL), ax_RO ax_wM1 (ax_XM 1) x := ax_ro_cons axq1_iv1_3 (ax_ro_cons axq1_iv2a_3 (ax_ro_cons axq1_iv2b_3 (ax_ro_cons axq1_iv3a_3 (ax_ro_cons axq1_iv3b_3 (ax_ro_nil)))))
-- TurnNetModel.isWord: 22 steps
set_option maxRecDepth 4000 in
theorem axk1_60_3 : ax_chk ax_wM1 rx_P (rx_DF, rx_FK) ax_APM1 (rx_n rxm_60) axm_60 (([702, 12], (3, [(0, 2147483648, 2147483648), (1, 0, 0), (1, 0, 0)], [(702, 72, 11)], [], [(151, [3, 7])])), [], [([0], (3, [(0, 2147483648, 2147483648), (1, 0, 0), (1, 0, 0)], [(702, 72, 11)], [], [(161, [3, 7, 16])])), ([4], (3, [(0, 2147483648, 2147483648), (1, 0, 0), (1, 0, 0)], [(702, 72, 11)], [], [(160, [3, 7, 16])]))]) [axu1_iv1_3, axu1_iv2a_3, axu1_iv2b_3, axu1_iv3a_3, axu1_iv3b_3] [] 3000 0 (() : ax_Tr 0) = true := by decide +kernel
set_option maxRecDepth 4000 in
theorem axs1_60_2 : ∀ x ∈ ([axu1_iv1_2, axu1_iv2a_2, axu1_iv2b_2, axu1_iv3a_2, axu1_iv3b_2] : List ax_RL), ax_RO ax_wM1 (ax_XM 1) x := ax_ro_cons axq1_iv1_2 (ax_ro_cons axq1_iv2a_2 (ax_ro_cons axq1_iv2b_2 (ax_ro_cons axq1_iv3a_2 (ax_ro_cons axq1_iv3b_2 (ax_ro_nil)))))
-- TurnNetModel.isWord: 22 steps
set_option maxRecDepth 4000 in
theorem axk1_60_2 : ax_chk ax_wM1 rx_P (rx_DF, rx_FK) ax_APM1 (rx_n rxm_60) axm_60 (([702, 8], (3, [(0, 2147483648, 2147483648), (1, 0, 0), (1, 0, 0)], [(702, 72, 11)], [], [(151, [3, 7])])), [], [([0], (3, [(0, 2147483648, 2147483648), (1, 0, 0), (1, 0, 0)], [(702, 72, 11)], [], [(161, [3, 7, 8])])), ([4], (3, [(0, 2147483648, 2147483648), (1, 0, 0), (1, 0, 0)], [(702, 72, 11)], [], [(160, [3, 7, 8])]))]) [axu1_iv1_2, axu1_iv2a_2, axu1_iv2b_2, axu1_iv3a_2, axu1_iv3b_2] [] 3000 0 (() : ax_Tr 0) = true := by decide +kernel
set_option maxRecDepth 4000 in
theorem axs1_60_1 : ∀ x ∈ ([axu1_iv1_1, axu1_iv2a_1, axu1_iv2b_1, axu1_iv3a_1, axu1_iv3b_1] : List ax_RL), ax_RO ax_wM1 (ax_XM 1) x := ax_ro_cons axq1_iv1_1 (ax_ro_cons axq1_iv2a_1 (ax_ro_cons axq1_iv2b_1 (ax_ro_cons axq1_iv3a_1 (ax_ro_cons axq1_iv3b_1 (ax_ro_nil)))))
-- TurnNetModel.isWord: 22 steps
set_option maxRecDepth 4000 in
theorem axk1_60_1 : ax_chk ax_wM1 rx_P (rx_DF, rx_FK) ax_APM1 (rx_n rxm_60) axm_60 (([702, 4], (3, [(0, 2147483648, 2147483648), (1, 0, 0), (1, 0, 0)], [(702, 72, 11)], [], [(151, [3, 7])])), [], [([0], (3, [(0, 2147483648, 2147483648), (1, 0, 0), (1, 0, 0)], [(702, 72, 11)], [], [(161, [3, 7, 4])])), ([4], (3, [(0, 2147483648, 2147483648), (1, 0, 0), (1, 0, 0)], [(702, 72, 11)], [], [(160, [3, 7, 4])]))]) [axu1_iv1_1, axu1_iv2a_1, axu1_iv2b_1, axu1_iv3a_1, axu1_iv3b_1] [] 3000 0 (() : ax_Tr 0) = true := by decide +kernel
set_option maxRecDepth 4000 in
theorem axs1_60_0 : ∀ x ∈ ([axu1_iv1_0, axu1_iv2a_0, axu1_iv2b_0, axu1_iv3a_0, axu1_iv3b_0] : List ax_RL), ax_RO ax_wM1 (ax_XM 1) x := ax_ro_cons axq1_iv1_0 (ax_ro_cons axq1_iv2a_0 (ax_ro_cons axq1_iv2b_0 (ax_ro_cons axq1_iv3a_0 (ax_ro_cons axq1_iv3b_0 (ax_ro_nil)))))
-- TurnNetModel.isWord: 22 steps
set_option maxRecDepth 4000 in
theorem axk1_60_0 : ax_chk ax_wM1 rx_P (rx_DF, rx_FK) ax_APM1 (rx_n rxm_60) axm_60 (([702, 0], (3, [(0, 2147483648, 2147483648), (1, 0, 0), (1, 0, 0)], [(702, 72, 11)], [], [(151, [3, 7])])), [], [([0], (3, [(0, 2147483648, 2147483648), (1, 0, 0), (1, 0, 0)], [(702, 72, 11)], [], [(161, [3, 7, 0])])), ([4], (3, [(0, 2147483648, 2147483648), (1, 0, 0), (1, 0, 0)], [(702, 72, 11)], [], [(160, [3, 7, 0])]))]) [axu1_iv1_0, axu1_iv2a_0, axu1_iv2b_0, axu1_iv3a_0, axu1_iv3b_0] [] 3000 0 (() : ax_Tr 0) = true := by decide +kernel
theorem axr1_60 (hP : ∀ q ∈ rx_P, rx_QW q ∧ rx_ST rx_P (rx_DF, rx_FK) q) : ax_Row ax_wM1 (ax_XM 1) rx_P ax_APM1 rx_P (rx_DF, rx_FK) rxm_60 (axm_60, axc1_60) := fun hr => ⟨ax_tabB_ok axt_60, fun hL => ax_con_cons (ax_chk_ok hP ax_XM1_ok hr hL (ax_tabB_ok axt_60) axs1_60_0 axk1_60_0) (ax_con_cons (ax_chk_ok hP ax_XM1_ok hr hL (ax_tabB_ok axt_60) axs1_60_1 axk1_60_1) (ax_con_cons (ax_chk_ok hP ax_XM1_ok hr hL (ax_tabB_ok axt_60) axs1_60_2 axk1_60_2) (ax_con_cons (ax_chk_ok hP ax_XM1_ok hr hL (ax_tabB_ok axt_60) axs1_60_3 axk1_60_3) (ax_con_cons (ax_chk_ok hP ax_XM1_ok hr hL (ax_tabB_ok axt_60) axs1_60_4 axk1_60_4) (ax_con_cons (ax_chk_ok hP ax_XM1_ok hr hL (ax_tabB_ok axt_60) axs1_60_5 axk1_60_5) (ax_con_cons (ax_chk_ok hP ax_XM1_ok hr hL (ax_tabB_ok axt_60) axs1_60_6 axk1_60_6) (ax_con_cons (ax_chk_ok hP ax_XM1_ok hr hL (ax_tabB_ok axt_60) axs1_60_7 axk1_60_7) (ax_con_nil))))))))⟩
set_option maxRecDepth 4000 in
theorem axs1_61_0 : ∀ x ∈ ([axu1_hk, axu1_kgen, axu1_wSk0, axu1_wSk1, axu1_wSk2, axu1_wSk3, axu1_wSk4, axu1_wM, axu1_sgkeepAct] : List ax_RL), ax_RO ax_wM1 (ax_XM 1) x := ax_ro_cons axq1_hk (ax_ro_cons axq1_kgen (ax_ro_cons axq1_wSk0 (ax_ro_cons axq1_wSk1 (ax_ro_cons axq1_wSk2 (ax_ro_cons axq1_wSk3 (ax_ro_cons axq1_wSk4 (ax_ro_cons axq1_wM (ax_ro_cons axq1_sgkeepAct (ax_ro_nil)))))))))
-- TurnNetModel.keepAct: 119 steps
set_option maxRecDepth 4000 in
theorem axk1_61_0 : ax_chk ax_wM1 rx_P (rx_DF, rx_FK) ax_APM1 (rx_n rxm_61) axm_61 (([702], (0, [], [], [], [(1, [])])), [(11, 56), (11, 57), (72, 999)], [([2], (0, [], [], [], [(0, [80]), (1, [])]))]) [axu1_hk, axu1_kgen, axu1_wSk0, axu1_wSk1, axu1_wSk2, axu1_wSk3, axu1_wSk4, axu1_wM, axu1_sgkeepAct] [11, 51] 3000 1 (([((11, 1, 0, ([702, 3], (2, [(0, 2147483668, 2147483668), (0, 2147483648, 2147485708)], [(702, 224, 7)], [], [(1, [])]))), ()), ((51, 1, 0, ([702, 3], (2, [(0, 2147483648, 2147483667), (0, 2147483648, 2147483751)], [(702, 224, 7)], [], [(1, [])]))), ())] : List ((Nat × Nat × Nat × ax_T) × ax_Tr 0)) : ax_Tr 1) = true := by decide +kernel
theorem axr1_61 (hP : ∀ q ∈ rx_P, rx_QW q ∧ rx_ST rx_P (rx_DF, rx_FK) q) : ax_Row ax_wM1 (ax_XM 1) rx_P ax_APM1 rx_P (rx_DF, rx_FK) rxm_61 (axm_61, axc1_61) := fun hr => ⟨ax_tabB_ok axt_61, fun hL => ax_con_cons (ax_chk_ok hP ax_XM1_ok hr hL (ax_tabB_ok axt_61) axs1_61_0 axk1_61_0) (ax_con_nil)⟩
set_option maxRecDepth 4000 in
theorem axs1_62_2 : ∀ x ∈ ([axu1_ly0, axu1_ly1, axu1_ly2, axu1_lyM, axu1_co1y, axu1_co2y] : List ax_RL), ax_RO ax_wM1 (ax_XM 1) x := ax_ro_cons axq1_ly0 (ax_ro_cons axq1_ly1 (ax_ro_cons axq1_ly2 (ax_ro_cons axq1_lyM (ax_ro_cons axq1_co1y (ax_ro_cons axq1_co2y (ax_ro_nil))))))
-- TurnNetModel.lay: 21 steps
set_option maxRecDepth 4000 in
theorem axk1_62_2 : ax_chk ax_wM1 rx_P (rx_DF, rx_FK) ax_APM1 (rx_n rxm_62) axm_62 (([702, 0, 3], (2, [(1, 0, 0), (0, 2147484656, 2147484656)], [], [], [(40, [0, 0, 8, 4, 4]), (26, []), (241, [7])])), [(50, 0), (52, 999)], [([2], (3, [(1, 0, 0), (1, 0, 0), (0, 2147484656, 2147484656)], [], [], [(40, [0, 0, 8, 0, 4]), (26, []), (241, [11]), (251, [11, 3, 7])]))]) [axu1_ly0, axu1_ly1, axu1_ly2, axu1_lyM, axu1_co1y, axu1_co2y] [] 3000 0 (() : ax_Tr 0) = true := by decide +kernel
set_option maxRecDepth 4000 in
theorem axs1_62_1 : ∀ x ∈ ([axu1_ly0, axu1_ly1, axu1_ly2, axu1_lyB, axu1_co1y, axu1_co2y] : List ax_RL), ax_RO ax_wM1 (ax_XM 1) x := ax_ro_cons axq1_ly0 (ax_ro_cons axq1_ly1 (ax_ro_cons axq1_ly2 (ax_ro_cons axq1_lyB (ax_ro_cons axq1_co1y (ax_ro_cons axq1_co2y (ax_ro_nil))))))
-- TurnNetModel.lay: 21 steps
set_option maxRecDepth 4000 in
theorem axk1_62_1 : ax_chk ax_wM1 rx_P (rx_DF, rx_FK) ax_APM1 (rx_n rxm_62) axm_62 (([702, 0, 3], (2, [(1, 0, 0), (0, 2147484651, 2147484655)], [], [], [(40, [0, 4, 4, 4, 0]), (26, []), (241, [7])])), [(50, 0), (52, 999)], [([2], (3, [(1, 0, 0), (1, 0, 0), (0, 2147484651, 2147484655)], [], [], [(40, [0, 0, 4, 0, 0]), (26, []), (241, [11]), (251, [11, 3, 7])]))]) [axu1_ly0, axu1_ly1, axu1_ly2, axu1_lyB, axu1_co1y, axu1_co2y] [] 3000 0 (() : ax_Tr 0) = true := by decide +kernel
set_option maxRecDepth 4000 in
theorem axs1_62_0 : ∀ x ∈ ([axu1_ly0, axu1_ly1, axu1_ly2, axu1_lyO, axu1_co1y, axu1_co2y] : List ax_RL), ax_RO ax_wM1 (ax_XM 1) x := ax_ro_cons axq1_ly0 (ax_ro_cons axq1_ly1 (ax_ro_cons axq1_ly2 (ax_ro_cons axq1_lyO (ax_ro_cons axq1_co1y (ax_ro_cons axq1_co2y (ax_ro_nil))))))
-- TurnNetModel.lay: 21 steps
set_option maxRecDepth 4000 in
theorem axk1_62_0 : ax_chk ax_wM1 rx_P (rx_DF, rx_FK) ax_APM1 (rx_n rxm_62) axm_62 (([702, 0, 3], (2, [(1, 0, 0), (0, 2147483648, 2147484650)], [], [], [(40, [4, 0, 4, 8, 4]), (26, []), (241, [7])])), [(50, 0), (52, 999)], [([2], (3, [(1, 0, 0), (1, 0, 0), (0, 2147483648, 2147484650)], [], [], [(40, [0, 0, 4, 0, 4]), (26, []), (241, [11]), (251, [11, 3, 7])]))]) [axu1_ly0, axu1_ly1, axu1_ly2, axu1_lyO, axu1_co1y, axu1_co2y] [] 3000 0 (() : ax_Tr 0) = true := by decide +kernel
theorem axr1_62 (hP : ∀ q ∈ rx_P, rx_QW q ∧ rx_ST rx_P (rx_DF, rx_FK) q) : ax_Row ax_wM1 (ax_XM 1) rx_P ax_APM1 rx_P (rx_DF, rx_FK) rxm_62 (axm_62, axc1_62) := fun hr => ⟨ax_tabB_ok axt_62, fun hL => ax_con_cons (ax_chk_ok hP ax_XM1_ok hr hL (ax_tabB_ok axt_62) axs1_62_0 axk1_62_0) (ax_con_cons (ax_chk_ok hP ax_XM1_ok hr hL (ax_tabB_ok axt_62) axs1_62_1 axk1_62_1) (ax_con_cons (ax_chk_ok hP ax_XM1_ok hr hL (ax_tabB_ok axt_62) axs1_62_2 axk1_62_2) (ax_con_nil)))⟩
theorem axr1_63 (hP : ∀ q ∈ rx_P, rx_QW q ∧ rx_ST rx_P (rx_DF, rx_FK) q) : ax_Row ax_wM1 (ax_XM 1) rx_P ax_APM1 rx_P (rx_DF, rx_FK) rxm_63 (axm_63, axc1_63) := fun hr => ⟨ax_tabB_ok axt_63, fun hL => ax_con_nil⟩
theorem axr1_64 (hP : ∀ q ∈ rx_P, rx_QW q ∧ rx_ST rx_P (rx_DF, rx_FK) q) : ax_Row ax_wM1 (ax_XM 1) rx_P ax_APM1 rx_P (rx_DF, rx_FK) rxm_64 (axm_64, axc1_64) := fun hr => ⟨ax_tabB_ok axt_64, fun hL => ax_con_nil⟩
-- TurnNetModel.packetsAt: 42 steps
set_option maxRecDepth 4000 in
theorem axk1_65_0 : ax_chk ax_wM1 rx_P (rx_DF, rx_FK) ax_APM1 (rx_n rxm_65) axm_65 (([702, 3], (1, [(0, 0, 4294967295)], [], [], [])), [], [([7], (2, [(0, 0, 4294967295), (0, 0, 4294967295)], [], [], []))]) [] [4] 3000 1 (([((4, 1, 2, ([702, 3, 7, 11], (3, [(0, 2147483648, 2147483660), (0, 0, 4294967295), (0, 0, 4294967295)], [], [], []))), ())] : List ((Nat × Nat × Nat × ax_T) × ax_Tr 0)) : ax_Tr 1) = true := by decide +kernel
theorem axr1_65 (hP : ∀ q ∈ rx_P, rx_QW q ∧ rx_ST rx_P (rx_DF, rx_FK) q) : ax_Row ax_wM1 (ax_XM 1) rx_P ax_APM1 rx_P (rx_DF, rx_FK) rxm_65 (axm_65, axc1_65) := fun hr => ⟨ax_tabB_ok axt_65, fun hL => ax_con_cons (ax_chk_ok hP ax_XM1_ok hr hL (ax_tabB_ok axt_65) ax_ro_nil axk1_65_0) (ax_con_nil)⟩
-- TurnNetModel.packetsNow: 20 steps
set_option maxRecDepth 4000 in
theorem axk1_66_0 : ax_chk ax_wM1 rx_P (rx_DF, rx_FK) ax_APM1 (rx_n rxm_66) axm_66 (([702], (0, [], [], [], [])), [], [([3], (1, [(0, 0, 4294967295)], [], [], []))]) [] [4] 3000 1 (([((4, 1, 1, ([702, 3, 7], (2, [(0, 2147483648, 2147483660), (0, 0, 4294967295)], [], [], []))), ())] : List ((Nat × Nat × Nat × ax_T) × ax_Tr 0)) : ax_Tr 1) = true := by decide +kernel
theorem axr1_66 (hP : ∀ q ∈ rx_P, rx_QW q ∧ rx_ST rx_P (rx_DF, rx_FK) q) : ax_Row ax_wM1 (ax_XM 1) rx_P ax_APM1 rx_P (rx_DF, rx_FK) rxm_66 (axm_66, axc1_66) := fun hr => ⟨ax_tabB_ok axt_66, fun hL => ax_con_cons (ax_chk_ok hP ax_XM1_ok hr hL (ax_tabB_ok axt_66) ax_ro_nil axk1_66_0) (ax_con_nil)⟩
set_option maxRecDepth 4000 in
theorem axs1_67_2 : ∀ x ∈ ([axu1_pu0, axu1_pu1, axu1_puB, axu1_pu4, axu1_pu5B, axu1_pu6, axu1_pu7] : List ax_RL), ax_RO ax_wM1 (ax_XM 1) x := ax_ro_cons axq1_pu0 (ax_ro_cons axq1_pu1 (ax_ro_cons axq1_puB (ax_ro_cons axq1_pu4 (ax_ro_cons axq1_pu5B (ax_ro_cons axq1_pu6 (ax_ro_cons axq1_pu7 (ax_ro_nil)))))))
-- TurnNetModel.push: 13 steps
set_option maxRecDepth 4000 in
theorem axk1_67_2 : ax_chk ax_wM1 rx_P (rx_DF, rx_FK) ax_APM1 (rx_n rxm_67) axm_67 (([702, 7], (3, [(1, 0, 0), (0, 2147484651, 2147484655), (1, 0, 0)], [], [], [(40, [0, 0, 4, 0, 0]), (196, [3]), (192, [3, 3]), (242, [11])])), [(11, 27), (55, 999)], [([2], (4, [(1, 0, 0), (1, 0, 0), (0, 2147484651, 2147484655), (1, 0, 0)], [], [], [(40, [4, 0, 4, 0, 4]), (196, [3]), (242, [15]), (251, [15, 7, 11])]))]) [axu1_pu0, axu1_pu1, axu1_puB, axu1_pu4, axu1_pu5B, axu1_pu6, axu1_pu7] [] 3000 0 (() : ax_Tr 0) = true := by decide +kernel
set_option maxRecDepth 4000 in
theorem axs1_67_1 : ∀ x ∈ ([axu1_pu0, axu1_pu1, axu1_puP, axu1_pu4, axu1_pu5M, axu1_pu6, axu1_pu7] : List ax_RL), ax_RO ax_wM1 (ax_XM 1) x := ax_ro_cons axq1_pu0 (ax_ro_cons axq1_pu1 (ax_ro_cons axq1_puP (ax_ro_cons axq1_pu4 (ax_ro_cons axq1_pu5M (ax_ro_cons axq1_pu6 (ax_ro_cons axq1_pu7 (ax_ro_nil)))))))
-- TurnNetModel.push: 13 steps
set_option maxRecDepth 4000 in
theorem axk1_67_1 : ax_chk ax_wM1 rx_P (rx_DF, rx_FK) ax_APM1 (rx_n rxm_67) axm_67 (([702, 4032], (2, [(1, 0, 0), (1, 0, 0)], [], [], [(40, [4, 0, 4, 8, 4]), (196, [3]), (242, [7])])), [(11, 27), (55, 999)], [([2], (4, [(1, 0, 0), (1, 0, 0), (1, 0, 0), (1, 0, 0)], [], [], [(40, [4, 0, 0, 4, 4]), (196, [11]), (208, [3, 11]), (242, [15]), (251, [15, 4032, 7])]))]) [axu1_pu0, axu1_pu1, axu1_puP, axu1_pu4, axu1_pu5M, axu1_pu6, axu1_pu7] [] 3000 0 (() : ax_Tr 0) = true := by decide +kernel
set_option maxRecDepth 4000 in
theorem axs1_67_0 : ∀ x ∈ ([axu1_pu0, axu1_pu1, axu1_puP, axu1_pu4, axu1_pu5O, axu1_pu6, axu1_pu7] : List ax_RL), ax_RO ax_wM1 (ax_XM 1) x := ax_ro_cons axq1_pu0 (ax_ro_cons axq1_pu1 (ax_ro_cons axq1_puP (ax_ro_cons axq1_pu4 (ax_ro_cons axq1_pu5O (ax_ro_cons axq1_pu6 (ax_ro_cons axq1_pu7 (ax_ro_nil)))))))
-- TurnNetModel.push: 13 steps
set_option maxRecDepth 4000 in
theorem axk1_67_0 : ax_chk ax_wM1 rx_P (rx_DF, rx_FK) ax_APM1 (rx_n rxm_67) axm_67 (([702, 4036], (2, [(1, 0, 0), (1, 0, 0)], [], [], [(40, [4, 0, 4, 8, 4]), (196, [3]), (242, [7])])), [(11, 27), (55, 999)], [([2], (4, [(1, 0, 0), (1, 0, 0), (1, 0, 0), (1, 0, 0)], [], [], [(40, [4, 0, 0, 4, 4]), (196, [11]), (193, [11, 3]), (242, [15]), (251, [15, 4036, 7])]))]) [axu1_pu0, axu1_pu1, axu1_puP, axu1_pu4, axu1_pu5O, axu1_pu6, axu1_pu7] [] 3000 0 (() : ax_Tr 0) = true := by decide +kernel
theorem axr1_67 (hP : ∀ q ∈ rx_P, rx_QW q ∧ rx_ST rx_P (rx_DF, rx_FK) q) : ax_Row ax_wM1 (ax_XM 1) rx_P ax_APM1 rx_P (rx_DF, rx_FK) rxm_67 (axm_67, axc1_67) := fun hr => ⟨ax_tabB_ok axt_67, fun hL => ax_con_cons (ax_chk_ok hP ax_XM1_ok hr hL (ax_tabB_ok axt_67) axs1_67_0 axk1_67_0) (ax_con_cons (ax_chk_ok hP ax_XM1_ok hr hL (ax_tabB_ok axt_67) axs1_67_1 axk1_67_1) (ax_con_cons (ax_chk_ok hP ax_XM1_ok hr hL (ax_tabB_ok axt_67) axs1_67_2 axk1_67_2) (ax_con_nil)))⟩
set_option maxRecDepth 4000 in
theorem axs1_68_0 : ∀ x ∈ ([axu1_sgputAside] : List ax_RL), ax_RO ax_wM1 (ax_XM 1) x := ax_ro_cons axq1_sgputAside (ax_ro_nil)
-- TurnNetModel.putAside: 56 steps
set_option maxRecDepth 4000 in
theorem axk1_68_0 : ax_chk ax_wM1 rx_P (rx_DF, rx_FK) ax_APM1 (rx_n rxm_68) axm_68 (([702], (0, [], [], [], [])), [(67, 999)], [([2], (0, [], [], [], []))]) [axu1_sgputAside] [2] 3000 1 (([((2, 1, 0, ([702, 3], (1, [(0, 2147483648, 2147483751)], [], [], []))), ())] : List ((Nat × Nat × Nat × ax_T) × ax_Tr 0)) : ax_Tr 1) = true := by decide +kernel
theorem axr1_68 (hP : ∀ q ∈ rx_P, rx_QW q ∧ rx_ST rx_P (rx_DF, rx_FK) q) : ax_Row ax_wM1 (ax_XM 1) rx_P ax_APM1 rx_P (rx_DF, rx_FK) rxm_68 (axm_68, axc1_68) := fun hr => ⟨ax_tabB_ok axt_68, fun hL => ax_con_cons (ax_chk_ok hP ax_XM1_ok hr hL (ax_tabB_ok axt_68) axs1_68_0 axk1_68_0) (ax_con_nil)⟩
theorem axr1_69 (hP : ∀ q ∈ rx_P, rx_QW q ∧ rx_ST rx_P (rx_DF, rx_FK) q) : ax_Row ax_wM1 (ax_XM 1) rx_P ax_APM1 rx_P (rx_DF, rx_FK) rxm_69 (axm_69, axc1_69) := fun hr => ⟨ax_tabB_ok axt_69, fun hL => ax_con_nil⟩
theorem axr1_70 (hP : ∀ q ∈ rx_P, rx_QW q ∧ rx_ST rx_P (rx_DF, rx_FK) q) : ax_Row ax_wM1 (ax_XM 1) rx_P ax_APM1 rx_P (rx_DF, rx_FK) rxm_70 (axm_70, axc1_70) := fun hr => ⟨ax_tabB_ok axt_70, fun hL => ax_con_nil⟩
theorem axr1_71 (hP : ∀ q ∈ rx_P, rx_QW q ∧ rx_ST rx_P (rx_DF, rx_FK) q) : ax_Row ax_wM1 (ax_XM 1) rx_P ax_APM1 rx_P (rx_DF, rx_FK) rxm_71 (axm_71, axc1_71) := fun hr => ⟨ax_tabB_ok axt_71, fun hL => ax_con_nil⟩
set_option maxRecDepth 4000 in
theorem axs1_72_0 : ∀ x ∈ ([axu1_wSs0, axu1_wSs1, axu1_wR1, axu1_wSs2, axu1_wR2, axu1_wSs3, axu1_wR3, axu1_wSs4, axu1_sgswapAll] : List ax_RL), ax_RO ax_wM1 (ax_XM 1) x := ax_ro_cons axq1_wSs0 (ax_ro_cons axq1_wSs1 (ax_ro_cons axq1_wR1 (ax_ro_cons axq1_wSs2 (ax_ro_cons axq1_wR2 (ax_ro_cons axq1_wSs3 (ax_ro_cons axq1_wR3 (ax_ro_cons axq1_wSs4 (ax_ro_cons axq1_sgswapAll (ax_ro_nil)))))))))
-- TurnNetModel.swapAll: 156 steps
set_option maxRecDepth 4000 in
theorem axk1_72_0 : ax_chk ax_wM1 rx_P (rx_DF, rx_FK) ax_APM1 (rx_n rxm_72) axm_72 (([702], (0, [], [], [], [(1, [])])), [(44, 999), (72, 999)], [([2], (0, [], [], [], [(1, [])]))]) [axu1_wSs0, axu1_wSs1, axu1_wR1, axu1_wSs2, axu1_wR2, axu1_wSs3, axu1_wR3, axu1_wSs4, axu1_sgswapAll] [2] 3000 1 (([((2, 1, 0, ([702, 3, 2], (1, [(0, 2147483648, 2147483751)], [], [], [(1, [])]))), ())] : List ((Nat × Nat × Nat × ax_T) × ax_Tr 0)) : ax_Tr 1) = true := by decide +kernel
theorem axr1_72 (hP : ∀ q ∈ rx_P, rx_QW q ∧ rx_ST rx_P (rx_DF, rx_FK) q) : ax_Row ax_wM1 (ax_XM 1) rx_P ax_APM1 rx_P (rx_DF, rx_FK) rxm_72 (axm_72, axc1_72) := fun hr => ⟨ax_tabB_ok axt_72, fun hL => ax_con_cons (ax_chk_ok hP ax_XM1_ok hr hL (ax_tabB_ok axt_72) axs1_72_0 axk1_72_0) (ax_con_nil)⟩
theorem axr1_73 (hP : ∀ q ∈ rx_P, rx_QW q ∧ rx_ST rx_P (rx_DF, rx_FK) q) : ax_Row ax_wM1 (ax_XM 1) rx_P ax_APM1 rx_P (rx_DF, rx_FK) rxm_73 (axm_73, axc1_73) := fun hr => ⟨ax_tabB_ok axt_73, fun hL => ax_con_nil⟩
theorem axr1_74 (hP : ∀ q ∈ rx_P, rx_QW q ∧ rx_ST rx_P (rx_DF, rx_FK) q) : ax_Row ax_wM1 (ax_XM 1) rx_P ax_APM1 rx_P (rx_DF, rx_FK) rxm_74 (axm_74, []) := fun hr => ⟨ax_tabB_ok axt_74, fun hL => ax_con_nil⟩
theorem axr1_75 (hP : ∀ q ∈ rx_P, rx_QW q ∧ rx_ST rx_P (rx_DF, rx_FK) q) : ax_Row ax_wM1 (ax_XM 1) rx_P ax_APM1 rx_P (rx_DF, rx_FK) rxm_75 (axm_75, []) := fun hr => ⟨ax_tabB_ok axt_75, fun hL => ax_con_nil⟩
theorem axr1_76 (hP : ∀ q ∈ rx_P, rx_QW q ∧ rx_ST rx_P (rx_DF, rx_FK) q) : ax_Row ax_wM1 (ax_XM 1) rx_P ax_APM1 rx_P (rx_DF, rx_FK) rxm_76 (axm_76, []) := fun hr => ⟨ax_tabB_ok axt_76, fun hL => ax_con_nil⟩
theorem axr1_77 (hP : ∀ q ∈ rx_P, rx_QW q ∧ rx_ST rx_P (rx_DF, rx_FK) q) : ax_Row ax_wM1 (ax_XM 1) rx_P ax_APM1 rx_P (rx_DF, rx_FK) rxm_77 (axm_77, []) := fun hr => ⟨ax_tabB_ok axt_77, fun hL => ax_con_nil⟩
theorem axr1_78 (hP : ∀ q ∈ rx_P, rx_QW q ∧ rx_ST rx_P (rx_DF, rx_FK) q) : ax_Row ax_wM1 (ax_XM 1) rx_P ax_APM1 rx_P (rx_DF, rx_FK) rxm_78 (axm_78, []) := fun hr => ⟨ax_tabB_ok axt_78, fun hL => ax_con_nil⟩
theorem axr1_79 (hP : ∀ q ∈ rx_P, rx_QW q ∧ rx_ST rx_P (rx_DF, rx_FK) q) : ax_Row ax_wM1 (ax_XM 1) rx_P ax_APM1 rx_P (rx_DF, rx_FK) rxm_79 (axm_79, []) := fun hr => ⟨ax_tabB_ok axt_79, fun hL => ax_con_nil⟩
theorem axr1_80 (hP : ∀ q ∈ rx_P, rx_QW q ∧ rx_ST rx_P (rx_DF, rx_FK) q) : ax_Row ax_wM1 (ax_XM 1) rx_P ax_APM1 rx_P (rx_DF, rx_FK) rxm_80 (axm_80, []) := fun hr => ⟨ax_tabB_ok axt_80, fun hL => ax_con_nil⟩
theorem axr1_81 (hP : ∀ q ∈ rx_P, rx_QW q ∧ rx_ST rx_P (rx_DF, rx_FK) q) : ax_Row ax_wM1 (ax_XM 1) rx_P ax_APM1 rx_P (rx_DF, rx_FK) rxm_81 (axm_81, []) := fun hr => ⟨ax_tabB_ok axt_81, fun hL => ax_con_nil⟩
theorem axr1_82 (hP : ∀ q ∈ rx_P, rx_QW q ∧ rx_ST rx_P (rx_DF, rx_FK) q) : ax_Row ax_wM1 (ax_XM 1) rx_P ax_APM1 rx_P (rx_DF, rx_FK) rxm_82 (axm_82, []) := fun hr => ⟨ax_tabB_ok axt_82, fun hL => ax_con_nil⟩
theorem axr1_83 (hP : ∀ q ∈ rx_P, rx_QW q ∧ rx_ST rx_P (rx_DF, rx_FK) q) : ax_Row ax_wM1 (ax_XM 1) rx_P ax_APM1 rx_P (rx_DF, rx_FK) rxm_83 (axm_83, []) := fun hr => ⟨ax_tabB_ok axt_83, fun hL => ax_con_nil⟩
theorem axr1_84 (hP : ∀ q ∈ rx_P, rx_QW q ∧ rx_ST rx_P (rx_DF, rx_FK) q) : ax_Row ax_wM1 (ax_XM 1) rx_P ax_APM1 rx_P (rx_DF, rx_FK) rxm_84 (axm_84, []) := fun hr => ⟨ax_tabB_ok axt_84, fun hL => ax_con_nil⟩
theorem axr1_85 (hP : ∀ q ∈ rx_P, rx_QW q ∧ rx_ST rx_P (rx_DF, rx_FK) q) : ax_Row ax_wM1 (ax_XM 1) rx_P ax_APM1 rx_P (rx_DF, rx_FK) rxm_85 (axm_85, []) := fun hr => ⟨ax_tabB_ok axt_85, fun hL => ax_con_nil⟩
theorem axr1_86 (hP : ∀ q ∈ rx_P, rx_QW q ∧ rx_ST rx_P (rx_DF, rx_FK) q) : ax_Row ax_wM1 (ax_XM 1) rx_P ax_APM1 rx_P (rx_DF, rx_FK) rxm_86 (axm_86, []) := fun hr => ⟨ax_tabB_ok axt_86, fun hL => ax_con_nil⟩
theorem axr1_87 (hP : ∀ q ∈ rx_P, rx_QW q ∧ rx_ST rx_P (rx_DF, rx_FK) q) : ax_Row ax_wM1 (ax_XM 1) rx_P ax_APM1 rx_P (rx_DF, rx_FK) rxm_87 (axm_87, []) := fun hr => ⟨ax_tabB_ok axt_87, fun hL => ax_con_nil⟩
theorem axr1_88 (hP : ∀ q ∈ rx_P, rx_QW q ∧ rx_ST rx_P (rx_DF, rx_FK) q) : ax_Row ax_wM1 (ax_XM 1) rx_P ax_APM1 rx_P (rx_DF, rx_FK) rxm_88 (axm_88, []) := fun hr => ⟨ax_tabB_ok axt_88, fun hL => ax_con_nil⟩
theorem axr1_89 (hP : ∀ q ∈ rx_P, rx_QW q ∧ rx_ST rx_P (rx_DF, rx_FK) q) : ax_Row ax_wM1 (ax_XM 1) rx_P ax_APM1 rx_P (rx_DF, rx_FK) rxm_89 (axm_89, []) := fun hr => ⟨ax_tabB_ok axt_89, fun hL => ax_con_nil⟩
theorem axr1_90 (hP : ∀ q ∈ rx_P, rx_QW q ∧ rx_ST rx_P (rx_DF, rx_FK) q) : ax_Row ax_wM1 (ax_XM 1) rx_P ax_APM1 rx_P (rx_DF, rx_FK) rxm_90 (axm_90, []) := fun hr => ⟨ax_tabB_ok axt_90, fun hL => ax_con_nil⟩
theorem axr1_91 (hP : ∀ q ∈ rx_P, rx_QW q ∧ rx_ST rx_P (rx_DF, rx_FK) q) : ax_Row ax_wM1 (ax_XM 1) rx_P ax_APM1 rx_P (rx_DF, rx_FK) rxm_91 (axm_91, []) := fun hr => ⟨ax_tabB_ok axt_91, fun hL => ax_con_nil⟩
theorem axr1_92 (hP : ∀ q ∈ rx_P, rx_QW q ∧ rx_ST rx_P (rx_DF, rx_FK) q) : ax_Row ax_wM1 (ax_XM 1) rx_P ax_APM1 rx_P (rx_DF, rx_FK) rxm_92 (axm_92, []) := fun hr => ⟨ax_tabB_ok axt_92, fun hL => ax_con_nil⟩
theorem axr1_93 (hP : ∀ q ∈ rx_P, rx_QW q ∧ rx_ST rx_P (rx_DF, rx_FK) q) : ax_Row ax_wM1 (ax_XM 1) rx_P ax_APM1 rx_P (rx_DF, rx_FK) rxm_93 (axm_93, []) := fun hr => ⟨ax_tabB_ok axt_93, fun hL => ax_con_nil⟩
theorem axr1_94 (hP : ∀ q ∈ rx_P, rx_QW q ∧ rx_ST rx_P (rx_DF, rx_FK) q) : ax_Row ax_wM1 (ax_XM 1) rx_P ax_APM1 rx_P (rx_DF, rx_FK) rxm_94 (axm_94, []) := fun hr => ⟨ax_tabB_ok axt_94, fun hL => ax_con_nil⟩
theorem axr1_95 (hP : ∀ q ∈ rx_P, rx_QW q ∧ rx_ST rx_P (rx_DF, rx_FK) q) : ax_Row ax_wM1 (ax_XM 1) rx_P ax_APM1 rx_P (rx_DF, rx_FK) rxm_95 (axm_95, []) := fun hr => ⟨ax_tabB_ok axt_95, fun hL => ax_con_nil⟩
theorem axr1_96 (hP : ∀ q ∈ rx_P, rx_QW q ∧ rx_ST rx_P (rx_DF, rx_FK) q) : ax_Row ax_wM1 (ax_XM 1) rx_P ax_APM1 rx_P (rx_DF, rx_FK) rxm_96 (axm_96, []) := fun hr => ⟨ax_tabB_ok axt_96, fun hL => ax_con_nil⟩
theorem axr1_97 (hP : ∀ q ∈ rx_P, rx_QW q ∧ rx_ST rx_P (rx_DF, rx_FK) q) : ax_Row ax_wM1 (ax_XM 1) rx_P ax_APM1 rx_P (rx_DF, rx_FK) rxm_97 (axm_97, []) := fun hr => ⟨ax_tabB_ok axt_97, fun hL => ax_con_nil⟩
theorem axr1_98 (hP : ∀ q ∈ rx_P, rx_QW q ∧ rx_ST rx_P (rx_DF, rx_FK) q) : ax_Row ax_wM1 (ax_XM 1) rx_P ax_APM1 rx_P (rx_DF, rx_FK) rxm_98 (axm_98, []) := fun hr => ⟨ax_tabB_ok axt_98, fun hL => ax_con_nil⟩
theorem axr1_99 (hP : ∀ q ∈ rx_P, rx_QW q ∧ rx_ST rx_P (rx_DF, rx_FK) q) : ax_Row ax_wM1 (ax_XM 1) rx_P ax_APM1 rx_P (rx_DF, rx_FK) rxm_99 (axm_99, []) := fun hr => ⟨ax_tabB_ok axt_99, fun hL => ax_con_nil⟩
theorem axr1_100 (hP : ∀ q ∈ rx_P, rx_QW q ∧ rx_ST rx_P (rx_DF, rx_FK) q) : ax_Row ax_wM1 (ax_XM 1) rx_P ax_APM1 rx_P (rx_DF, rx_FK) rxm_100 (axm_100, []) := fun hr => ⟨ax_tabB_ok axt_100, fun hL => ax_con_nil⟩
theorem axr1_101 (hP : ∀ q ∈ rx_P, rx_QW q ∧ rx_ST rx_P (rx_DF, rx_FK) q) : ax_Row ax_wM1 (ax_XM 1) rx_P ax_APM1 rx_P (rx_DF, rx_FK) rxm_101 (axm_101, []) := fun hr => ⟨ax_tabB_ok axt_101, fun hL => ax_con_nil⟩
theorem axr1_102 (hP : ∀ q ∈ rx_P, rx_QW q ∧ rx_ST rx_P (rx_DF, rx_FK) q) : ax_Row ax_wM1 (ax_XM 1) rx_P ax_APM1 rx_P (rx_DF, rx_FK) rxm_102 (axm_102, []) := fun hr => ⟨ax_tabB_ok axt_102, fun hL => ax_con_nil⟩
theorem axr1_103 (hP : ∀ q ∈ rx_P, rx_QW q ∧ rx_ST rx_P (rx_DF, rx_FK) q) : ax_Row ax_wM1 (ax_XM 1) rx_P ax_APM1 rx_P (rx_DF, rx_FK) rxm_103 (axm_103, []) := fun hr => ⟨ax_tabB_ok axt_103, fun hL => ax_con_nil⟩
theorem axr1_104 (hP : ∀ q ∈ rx_P, rx_QW q ∧ rx_ST rx_P (rx_DF, rx_FK) q) : ax_Row ax_wM1 (ax_XM 1) rx_P ax_APM1 rx_P (rx_DF, rx_FK) rxm_104 (axm_104, []) := fun hr => ⟨ax_tabB_ok axt_104, fun hL => ax_con_nil⟩
theorem axr1_105 (hP : ∀ q ∈ rx_P, rx_QW q ∧ rx_ST rx_P (rx_DF, rx_FK) q) : ax_Row ax_wM1 (ax_XM 1) rx_P ax_APM1 rx_P (rx_DF, rx_FK) rxm_105 (axm_105, []) := fun hr => ⟨ax_tabB_ok axt_105, fun hL => ax_con_nil⟩
theorem axr1_106 (hP : ∀ q ∈ rx_P, rx_QW q ∧ rx_ST rx_P (rx_DF, rx_FK) q) : ax_Row ax_wM1 (ax_XM 1) rx_P ax_APM1 rx_P (rx_DF, rx_FK) rxm_106 (axm_106, []) := fun hr => ⟨ax_tabB_ok axt_106, fun hL => ax_con_nil⟩
theorem axr1_107 (hP : ∀ q ∈ rx_P, rx_QW q ∧ rx_ST rx_P (rx_DF, rx_FK) q) : ax_Row ax_wM1 (ax_XM 1) rx_P ax_APM1 rx_P (rx_DF, rx_FK) rxm_107 (axm_107, []) := fun hr => ⟨ax_tabB_ok axt_107, fun hL => ax_con_nil⟩
theorem axr1_108 (hP : ∀ q ∈ rx_P, rx_QW q ∧ rx_ST rx_P (rx_DF, rx_FK) q) : ax_Row ax_wM1 (ax_XM 1) rx_P ax_APM1 rx_P (rx_DF, rx_FK) rxm_108 (axm_108, []) := fun hr => ⟨ax_tabB_ok axt_108, fun hL => ax_con_nil⟩
theorem axr1_109 (hP : ∀ q ∈ rx_P, rx_QW q ∧ rx_ST rx_P (rx_DF, rx_FK) q) : ax_Row ax_wM1 (ax_XM 1) rx_P ax_APM1 rx_P (rx_DF, rx_FK) rxm_109 (axm_109, []) := fun hr => ⟨ax_tabB_ok axt_109, fun hL => ax_con_nil⟩
theorem axr1_110 (hP : ∀ q ∈ rx_P, rx_QW q ∧ rx_ST rx_P (rx_DF, rx_FK) q) : ax_Row ax_wM1 (ax_XM 1) rx_P ax_APM1 rx_P (rx_DF, rx_FK) rxm_110 (axm_110, []) := fun hr => ⟨ax_tabB_ok axt_110, fun hL => ax_con_nil⟩
theorem axr1_111 (hP : ∀ q ∈ rx_P, rx_QW q ∧ rx_ST rx_P (rx_DF, rx_FK) q) : ax_Row ax_wM1 (ax_XM 1) rx_P ax_APM1 rx_P (rx_DF, rx_FK) rxm_111 (axm_111, []) := fun hr => ⟨ax_tabB_ok axt_111, fun hL => ax_con_nil⟩
-- TurnNetModel.aboveOf: 86 steps
set_option maxRecDepth 4000 in
theorem axk1_112_0 : ax_chk ax_wM1 rx_P (rx_DF, rx_FK) ax_APM1 (rx_n rxm_112) axm_112 (([702, 3], (1, [(0, 2147483648, 2147483657)], [], [], [])), [], [([7], (2, [(0, 0, 4294967295), (0, 2147483648, 2147483657)], [], [], []))]) [] [4] 3000 1 (([((4, 1, 2, ([702, 3, 7, 11], (3, [(0, 2147483648, 2147483658), (0, 0, 4294967295), (0, 2147483648, 2147483657)], [], [], []))), ())] : List ((Nat × Nat × Nat × ax_T) × ax_Tr 0)) : ax_Tr 1) = true := by decide +kernel
theorem axr1_112 (hP : ∀ q ∈ rx_P, rx_QW q ∧ rx_ST rx_P (rx_DF, rx_FK) q) : ax_Row ax_wM1 (ax_XM 1) rx_P ax_APM1 rx_P (rx_DF, rx_FK) rxm_112 (axm_112, axc1_112) := fun hr => ⟨ax_tabB_ok axt_112, fun hL => ax_con_cons (ax_chk_ok hP ax_XM1_ok hr hL (ax_tabB_ok axt_112) ax_ro_nil axk1_112_0) (ax_con_nil)⟩
set_option maxRecDepth 4000 in
theorem axs1_113_0 : ∀ x ∈ ([axu1_hzback, axu1_bR1, axu1_bR2, axu1_bR3, axu1_sgback] : List ax_RL), ax_RO ax_wM1 (ax_XM 1) x := ax_ro_cons axq1_hzback (ax_ro_cons axq1_bR1 (ax_ro_cons axq1_bR2 (ax_ro_cons axq1_bR3 (ax_ro_cons axq1_sgback (ax_ro_nil)))))
-- TurnNetModel.back: 115 steps
set_option maxRecDepth 4000 in
theorem axk1_113_0 : ax_chk ax_wM1 rx_P (rx_DF, rx_FK) ax_APM1 (rx_n rxm_113) axm_113 (([702, 3], (1, [(0, 0, 4294967295)], [], [], [(0, [80]), (1, []), (2, []), (25, []), (26, [])])), [(11, 56), (11, 57), (44, 999)], [([7], (2, [(0, 0, 4294967295), (0, 0, 4294967295)], [], [], [(0, [80]), (1, []), (2, []), (25, []), (26, [])]))]) [axu1_hzback, axu1_bR1, axu1_bR2, axu1_bR3, axu1_sgback] [22] 3000 1 (([((22, 1, 1, ([702, 3, 7], (3, [(0, 2147483649, 2147483649), (0, 2147483648, 2147483847), (0, 2147483648, 2147483649)], [(826, 3, 11), (702, 220, 826)], [], [(2, []), (0, [80]), (1, []), (25, []), (26, [])]))), ())] : List ((Nat × Nat × Nat × ax_T) × ax_Tr 0)) : ax_Tr 1) = true := by decide +kernel
theorem axr1_113 (hP : ∀ q ∈ rx_P, rx_QW q ∧ rx_ST rx_P (rx_DF, rx_FK) q) : ax_Row ax_wM1 (ax_XM 1) rx_P ax_APM1 rx_P (rx_DF, rx_FK) rxm_113 (axm_113, axc1_113) := fun hr => ⟨ax_tabB_ok axt_113, fun hL => ax_con_cons (ax_chk_ok hP ax_XM1_ok hr hL (ax_tabB_ok axt_113) axs1_113_0 axk1_113_0) (ax_con_nil)⟩
theorem axr1_114 (hP : ∀ q ∈ rx_P, rx_QW q ∧ rx_ST rx_P (rx_DF, rx_FK) q) : ax_Row ax_wM1 (ax_XM 1) rx_P ax_APM1 rx_P (rx_DF, rx_FK) rxm_114 (axm_114, axc1_114) := fun hr => ⟨ax_tabB_ok axt_114, fun hL => ax_con_nil⟩
theorem axr1_115 (hP : ∀ q ∈ rx_P, rx_QW q ∧ rx_ST rx_P (rx_DF, rx_FK) q) : ax_Row ax_wM1 (ax_XM 1) rx_P ax_APM1 rx_P (rx_DF, rx_FK) rxm_115 (axm_115, axc1_115) := fun hr => ⟨ax_tabB_ok axt_115, fun hL => ax_con_nil⟩
-- TurnNetModel.flips: 39 steps
set_option maxRecDepth 4000 in
theorem axk1_116_0 : ax_chk ax_wM1 rx_P (rx_DF, rx_FK) ax_APM1 (rx_n rxm_116) axm_116 (([702], (0, [], [], [], [])), [], [([3], (1, [(0, 0, 4294967295)], [], [], []))]) [] [4] 3000 1 (([((4, 1, 1, ([702, 3, 7], (2, [(0, 2147483648, 2147483668), (0, 0, 4294967295)], [], [], []))), ())] : List ((Nat × Nat × Nat × ax_T) × ax_Tr 0)) : ax_Tr 1) = true := by decide +kernel
theorem axr1_116 (hP : ∀ q ∈ rx_P, rx_QW q ∧ rx_ST rx_P (rx_DF, rx_FK) q) : ax_Row ax_wM1 (ax_XM 1) rx_P ax_APM1 rx_P (rx_DF, rx_FK) rxm_116 (axm_116, axc1_116) := fun hr => ⟨ax_tabB_ok axt_116, fun hL => ax_con_cons (ax_chk_ok hP ax_XM1_ok hr hL (ax_tabB_ok axt_116) ax_ro_nil axk1_116_0) (ax_con_nil)⟩
-- TurnNetModel.goSend: 40 steps
set_option maxRecDepth 4000 in
theorem axk1_117_0 : ax_chk ax_wM1 rx_P (rx_DF, rx_FK) ax_APM1 (rx_n rxm_117) axm_117 (([702, 3, 7], (2, [(0, 2147483648, 2147483657), (0, 2147483648, 2147483657)], [], [], [(3, [])])), [(44, 999)], [([11], (3, [(0, 2147483648, 2147483659), (0, 2147483648, 2147483657), (0, 2147483648, 2147483657)], [], [], []))]) [] [] 3000 0 (() : ax_Tr 0) = true := by decide +kernel
theorem axr1_117 (hP : ∀ q ∈ rx_P, rx_QW q ∧ rx_ST rx_P (rx_DF, rx_FK) q) : ax_Row ax_wM1 (ax_XM 1) rx_P ax_APM1 rx_P (rx_DF, rx_FK) rxm_117 (axm_117, axc1_117) := fun hr => ⟨ax_tabB_ok axt_117, fun hL => ax_con_cons (ax_chk_ok hP ax_XM1_ok hr hL (ax_tabB_ok axt_117) ax_ro_nil axk1_117_0) (ax_con_nil)⟩
set_option maxRecDepth 4000 in
theorem axs1_118_0 : ∀ x ∈ ([axu1_bS0, axu1_bS1, axu1_bS2, axu1_bS3, axu1_bS4, axu1_sgimage] : List ax_RL), ax_RO ax_wM1 (ax_XM 1) x := ax_ro_cons axq1_bS0 (ax_ro_cons axq1_bS1 (ax_ro_cons axq1_bS2 (ax_ro_cons axq1_bS3 (ax_ro_cons axq1_bS4 (ax_ro_cons axq1_sgimage (ax_ro_nil))))))
-- TurnNetModel.image: 107 steps
set_option maxRecDepth 4000 in
theorem axk1_118_0 : ax_chk ax_wM1 rx_P (rx_DF, rx_FK) ax_APM1 (rx_n rxm_118) axm_118 (([702, 3], (1, [(0, 0, 4294967295)], [], [], [(0, [80]), (1, []), (2, []), (25, []), (26, [])])), [(73, 999), (74, 999)], [([7], (2, [(0, 0, 4294967295), (0, 0, 4294967295)], [], [], [(0, [80]), (1, []), (2, []), (25, []), (26, [])]))]) [axu1_bS0, axu1_bS1, axu1_bS2, axu1_bS3, axu1_bS4, axu1_sgimage] [13] 3000 1 (([((13, 1, 1, ([702, 3, 7], (2, [(0, 2147483648, 2147483847), (0, 2147483648, 2147483649)], [], [], [(2, []), (0, [80]), (1, []), (25, []), (26, [])]))), ())] : List ((Nat × Nat × Nat × ax_T) × ax_Tr 0)) : ax_Tr 1) = true := by decide +kernel
theorem axr1_118 (hP : ∀ q ∈ rx_P, rx_QW q ∧ rx_ST rx_P (rx_DF, rx_FK) q) : ax_Row ax_wM1 (ax_XM 1) rx_P ax_APM1 rx_P (rx_DF, rx_FK) rxm_118 (axm_118, axc1_118) := fun hr => ⟨ax_tabB_ok axt_118, fun hL => ax_con_cons (ax_chk_ok hP ax_XM1_ok hr hL (ax_tabB_ok axt_118) axs1_118_0 axk1_118_0) (ax_con_nil)⟩
-- TurnNetModel.isAt: 5 steps
set_option maxRecDepth 4000 in
theorem axk1_119_8 : ax_chk ax_wM1 rx_P (rx_DF, rx_FK) ax_APM1 (rx_n rxm_119) axm_119 (([702, 236], (1, [(0, 2147483649, 2147483652)], [(702, 72, 3)], [], [])), [], [([0], (1, [(0, 2147483649, 2147483652)], [(702, 72, 3)], [], []))]) [] [] 3000 0 (() : ax_Tr 0) = true := by decide +kernel
set_option maxRecDepth 4000 in
theorem axs1_119_7 : ∀ x ∈ ([axu1_ia1_37, axu1_ia2a_37, axu1_ia2b_37, axu1_ia3a_37, axu1_ia3b_37, axu1_ia4_37] : List ax_RL), ax_RO ax_wM1 (ax_XM 1) x := ax_ro_cons axq1_ia1_37 (ax_ro_cons axq1_ia2a_37 (ax_ro_cons axq1_ia2b_37 (ax_ro_cons axq1_ia3a_37 (ax_ro_cons axq1_ia3b_37 (ax_ro_cons axq1_ia4_37 (ax_ro_nil))))))
-- TurnNetModel.isAt: 40 steps
set_option maxRecDepth 4000 in
theorem axk1_119_7 : ax_chk ax_wM1 rx_P (rx_DF, rx_FK) ax_APM1 (rx_n rxm_119) axm_119 (([702, 148], (3, [(0, 2147483648, 2147483648), (1, 0, 0), (1, 0, 0)], [(702, 72, 11)], [], [(131, [3]), (151, [3, 7])])), [], [([0], (3, [(0, 2147483648, 2147483648), (1, 0, 0), (1, 0, 0)], [(702, 72, 11)], [], [(169, [3, 7, 148])])), ([4], (3, [(0, 2147483648, 2147483648), (1, 0, 0), (1, 0, 0)], [(702, 72, 11)], [], [(168, [3, 7, 148])]))]) [axu1_ia1_37, axu1_ia2a_37, axu1_ia2b_37, axu1_ia3a_37, axu1_ia3b_37, axu1_ia4_37] [] 3000 0 (() : ax_Tr 0) = true := by decide +kernel
set_option maxRecDepth 4000 in
theorem axs1_119_6 : ∀ x ∈ ([axu1_ia1_47, axu1_ia2a_47, axu1_ia2b_47, axu1_ia3a_47, axu1_ia3b_47, axu1_ia4_47] : List ax_RL), ax_RO ax_wM1 (ax_XM 1) x := ax_ro_cons axq1_ia1_47 (ax_ro_cons axq1_ia2a_47 (ax_ro_cons axq1_ia2b_47 (ax_ro_cons axq1_ia3a_47 (ax_ro_cons axq1_ia3b_47 (ax_ro_cons axq1_ia4_47 (ax_ro_nil))))))
-- TurnNetModel.isAt: 40 steps
set_option maxRecDepth 4000 in
theorem axk1_119_6 : ax_chk ax_wM1 rx_P (rx_DF, rx_FK) ax_APM1 (rx_n rxm_119) axm_119 (([702, 188], (3, [(0, 2147483648, 2147483648), (1, 0, 0), (1, 0, 0)], [(702, 72, 11)], [], [(131, [3]), (151, [3, 7])])), [], [([0], (3, [(0, 2147483648, 2147483648), (1, 0, 0), (1, 0, 0)], [(702, 72, 11)], [], [(169, [3, 7, 188])])), ([4], (3, [(0, 2147483648, 2147483648), (1, 0, 0), (1, 0, 0)], [(702, 72, 11)], [], [(168, [3, 7, 188])]))]) [axu1_ia1_47, axu1_ia2a_47, axu1_ia2b_47, axu1_ia3a_47, axu1_ia3b_47, axu1_ia4_47] [] 3000 0 (() : ax_Tr 0) = true := by decide +kernel
set_option maxRecDepth 4000 in
theorem axs1_119_5 : ∀ x ∈ ([axu1_ia1_42, axu1_ia2a_42, axu1_ia2b_42, axu1_ia3a_42, axu1_ia3b_42, axu1_ia4_42] : List ax_RL), ax_RO ax_wM1 (ax_XM 1) x := ax_ro_cons axq1_ia1_42 (ax_ro_cons axq1_ia2a_42 (ax_ro_cons axq1_ia2b_42 (ax_ro_cons axq1_ia3a_42 (ax_ro_cons axq1_ia3b_42 (ax_ro_cons axq1_ia4_42 (ax_ro_nil))))))
-- TurnNetModel.isAt: 40 steps
set_option maxRecDepth 4000 in
theorem axk1_119_5 : ax_chk ax_wM1 rx_P (rx_DF, rx_FK) ax_APM1 (rx_n rxm_119) axm_119 (([702, 168], (3, [(0, 2147483648, 2147483648), (1, 0, 0), (1, 0, 0)], [(702, 72, 11)], [], [(131, [3]), (151, [3, 7])])), [], [([0], (3, [(0, 2147483648, 2147483648), (1, 0, 0), (1, 0, 0)], [(702, 72, 11)], [], [(169, [3, 7, 168])])), ([4], (3, [(0, 2147483648, 2147483648), (1, 0, 0), (1, 0, 0)], [(702, 72, 11)], [], [(168, [3, 7, 168])]))]) [axu1_ia1_42, axu1_ia2a_42, axu1_ia2b_42, axu1_ia3a_42, axu1_ia3b_42, axu1_ia4_42] [] 3000 0 (() : ax_Tr 0) = true := by decide +kernel
set_option maxRecDepth 4000 in
theorem axs1_119_4 : ∀ x ∈ ([axu1_ia1_45, axu1_ia2a_45, axu1_ia2b_45, axu1_ia3a_45, axu1_ia3b_45, axu1_ia4_45] : List ax_RL), ax_RO ax_wM1 (ax_XM 1) x := ax_ro_cons axq1_ia1_45 (ax_ro_cons axq1_ia2a_45 (ax_ro_cons axq1_ia2b_45 (ax_ro_cons axq1_ia3a_45 (ax_ro_cons axq1_ia3b_45 (ax_ro_cons axq1_ia4_45 (ax_ro_nil))))))
-- TurnNetModel.isAt: 40 steps
set_option maxRecDepth 4000 in
theorem axk1_119_4 : ax_chk ax_wM1 rx_P (rx_DF, rx_FK) ax_APM1 (rx_n rxm_119) axm_119 (([702, 180], (3, [(0, 2147483648, 2147483648), (1, 0, 0), (1, 0, 0)], [(702, 72, 11)], [], [(131, [3]), (151, [3, 7])])), [], [([0], (3, [(0, 2147483648, 2147483648), (1, 0, 0), (1, 0, 0)], [(702, 72, 11)], [], [(169, [3, 7, 180])])), ([4], (3, [(0, 2147483648, 2147483648), (1, 0, 0), (1, 0, 0)], [(702, 72, 11)], [], [(168, [3, 7, 180])]))]) [axu1_ia1_45, axu1_ia2a_45, axu1_ia2b_45, axu1_ia3a_45, axu1_ia3b_45, axu1_ia4_45] [] 3000 0 (() : ax_Tr 0) = true := by decide +kernel
set_option maxRecDepth 4000 in
theorem axs1_119_3 : ∀ x ∈ ([axu1_ia1_43, axu1_ia2a_43, axu1_ia2b_43, axu1_ia3a_43, axu1_ia3b_43, axu1_ia4_43] : List ax_RL), ax_RO ax_wM1 (ax_XM 1) x := ax_ro_cons axq1_ia1_43 (ax_ro_cons axq1_ia2a_43 (ax_ro_cons axq1_ia2b_43 (ax_ro_cons axq1_ia3a_43 (ax_ro_cons axq1_ia3b_43 (ax_ro_cons axq1_ia4_43 (ax_ro_nil))))))
-- TurnNetModel.isAt: 40 steps
set_option maxRecDepth 4000 in
theorem axk1_119_3 : ax_chk ax_wM1 rx_P (rx_DF, rx_FK) ax_APM1 (rx_n rxm_119) axm_119 (([702, 172], (3, [(0, 2147483648, 2147483648), (1, 0, 0), (1, 0, 0)], [(702, 72, 11)], [], [(131, [3]), (151, [3, 7])])), [], [([0], (3, [(0, 2147483648, 2147483648), (1, 0, 0), (1, 0, 0)], [(702, 72, 11)], [], [(169, [3, 7, 172])])), ([4], (3, [(0, 2147483648, 2147483648), (1, 0, 0), (1, 0, 0)], [(702, 72, 11)], [], [(168, [3, 7, 172])]))]) [axu1_ia1_43, axu1_ia2a_43, axu1_ia2b_43, axu1_ia3a_43, axu1_ia3b_43, axu1_ia4_43] [] 3000 0 (() : ax_Tr 0) = true := by decide +kernel
set_option maxRecDepth 4000 in
theorem axs1_119_2 : ∀ x ∈ ([axu1_ia1_41, axu1_ia2a_41, axu1_ia2b_41, axu1_ia3a_41, axu1_ia3b_41, axu1_ia4_41] : List ax_RL), ax_RO ax_wM1 (ax_XM 1) x := ax_ro_cons axq1_ia1_41 (ax_ro_cons axq1_ia2a_41 (ax_ro_cons axq1_ia2b_41 (ax_ro_cons axq1_ia3a_41 (ax_ro_cons axq1_ia3b_41 (ax_ro_cons axq1_ia4_41 (ax_ro_nil))))))
-- TurnNetModel.isAt: 40 steps
set_option maxRecDepth 4000 in
theorem axk1_119_2 : ax_chk ax_wM1 rx_P (rx_DF, rx_FK) ax_APM1 (rx_n rxm_119) axm_119 (([702, 164], (3, [(0, 2147483648, 2147483648), (1, 0, 0), (1, 0, 0)], [(702, 72, 11)], [], [(131, [3]), (151, [3, 7])])), [], [([0], (3, [(0, 2147483648, 2147483648), (1, 0, 0), (1, 0, 0)], [(702, 72, 11)], [], [(169, [3, 7, 164])])), ([4], (3, [(0, 2147483648, 2147483648), (1, 0, 0), (1, 0, 0)], [(702, 72, 11)], [], [(168, [3, 7, 164])]))]) [axu1_ia1_41, axu1_ia2a_41, axu1_ia2b_41, axu1_ia3a_41, axu1_ia3b_41, axu1_ia4_41] [] 3000 0 (() : ax_Tr 0) = true := by decide +kernel
set_option maxRecDepth 4000 in
theorem axs1_119_1 : ∀ x ∈ ([axu1_ia1_40, axu1_ia2a_40, axu1_ia2b_40, axu1_ia3a_40, axu1_ia3b_40, axu1_ia4_40] : List ax_RL), ax_RO ax_wM1 (ax_XM 1) x := ax_ro_cons axq1_ia1_40 (ax_ro_cons axq1_ia2a_40 (ax_ro_cons axq1_ia2b_40 (ax_ro_cons axq1_ia3a_40 (ax_ro_cons axq1_ia3b_40 (ax_ro_cons axq1_ia4_40 (ax_ro_nil))))))
-- TurnNetModel.isAt: 40 steps
set_option maxRecDepth 4000 in
theorem axk1_119_1 : ax_chk ax_wM1 rx_P (rx_DF, rx_FK) ax_APM1 (rx_n rxm_119) axm_119 (([702, 160], (3, [(0, 2147483648, 2147483648), (1, 0, 0), (1, 0, 0)], [(702, 72, 11)], [], [(131, [3]), (151, [3, 7])])), [], [([0], (3, [(0, 2147483648, 2147483648), (1, 0, 0), (1, 0, 0)], [(702, 72, 11)], [], [(169, [3, 7, 160])])), ([4], (3, [(0, 2147483648, 2147483648), (1, 0, 0), (1, 0, 0)], [(702, 72, 11)], [], [(168, [3, 7, 160])]))]) [axu1_ia1_40, axu1_ia2a_40, axu1_ia2b_40, axu1_ia3a_40, axu1_ia3b_40, axu1_ia4_40] [] 3000 0 (() : ax_Tr 0) = true := by decide +kernel
set_option maxRecDepth 4000 in
theorem axs1_119_0 : ∀ x ∈ ([axu1_ia1_59, axu1_ia2a_59, axu1_ia2b_59, axu1_ia3a_59, axu1_ia3b_59, axu1_ia4_59] : List ax_RL), ax_RO ax_wM1 (ax_XM 1) x := ax_ro_cons axq1_ia1_59 (ax_ro_cons axq1_ia2a_59 (ax_ro_cons axq1_ia2b_59 (ax_ro_cons axq1_ia3a_59 (ax_ro_cons axq1_ia3b_59 (ax_ro_cons axq1_ia4_59 (ax_ro_nil))))))
-- TurnNetModel.isAt: 40 steps
set_option maxRecDepth 4000 in
theorem axk1_119_0 : ax_chk ax_wM1 rx_P (rx_DF, rx_FK) ax_APM1 (rx_n rxm_119) axm_119 (([702, 236], (3, [(0, 2147483648, 2147483648), (1, 0, 0), (1, 0, 0)], [(702, 72, 11)], [], [(131, [3]), (151, [3, 7])])), [], [([0], (3, [(0, 2147483648, 2147483648), (1, 0, 0), (1, 0, 0)], [(702, 72, 11)], [], [(169, [3, 7, 236])])), ([4], (3, [(0, 2147483648, 2147483648), (1, 0, 0), (1, 0, 0)], [(702, 72, 11)], [], [(168, [3, 7, 236])]))]) [axu1_ia1_59, axu1_ia2a_59, axu1_ia2b_59, axu1_ia3a_59, axu1_ia3b_59, axu1_ia4_59] [] 3000 0 (() : ax_Tr 0) = true := by decide +kernel
theorem axr1_119 (hP : ∀ q ∈ rx_P, rx_QW q ∧ rx_ST rx_P (rx_DF, rx_FK) q) : ax_Row ax_wM1 (ax_XM 1) rx_P ax_APM1 rx_P (rx_DF, rx_FK) rxm_119 (axm_119, axc1_119) := fun hr => ⟨ax_tabB_ok axt_119, fun hL => ax_con_cons (ax_chk_ok hP ax_XM1_ok hr hL (ax_tabB_ok axt_119) axs1_119_0 axk1_119_0) (ax_con_cons (ax_chk_ok hP ax_XM1_ok hr hL (ax_tabB_ok axt_119) axs1_119_1 axk1_119_1) (ax_con_cons (ax_chk_ok hP ax_XM1_ok hr hL (ax_tabB_ok axt_119) axs1_119_2 axk1_119_2) (ax_con_cons (ax_chk_ok hP ax_XM1_ok hr hL (ax_tabB_ok axt_119) axs1_119_3 axk1_119_3) (ax_con_cons (ax_chk_ok hP ax_XM1_ok hr hL (ax_tabB_ok axt_119) axs1_119_4 axk1_119_4) (ax_con_cons (ax_chk_ok hP ax_XM1_ok hr hL (ax_tabB_ok axt_119) axs1_119_5 axk1_119_5) (ax_con_cons (ax_chk_ok hP ax_XM1_ok hr hL (ax_tabB_ok axt_119) axs1_119_6 axk1_119_6) (ax_con_cons (ax_chk_ok hP ax_XM1_ok hr hL (ax_tabB_ok axt_119) axs1_119_7 axk1_119_7) (ax_con_cons (ax_chk_ok hP ax_XM1_ok hr hL (ax_tabB_ok axt_119) ax_ro_nil axk1_119_8) (ax_con_nil)))))))))⟩
end
