theorem axqg_is4a_6_3 {w : ax_W} {b : Nat} (hw : ax_WW w) : ax_RO w (ax_XM b) axu0_is4a_6_3 := by
  intro ρ hp hE hT
  have j0 : ρ 0 % 4 = 1 := pz_gj hE 0 (Nat.le_of_ble_eq_true rfl) rfl
  have j1 : ρ 1 % 4 = 1 := pz_gj hE 1 (Nat.le_of_ble_eq_true rfl) rfl
  obtain ⟨i2a, i2b, i2c, i2d⟩ := pz_gi hE 2 2147483648 2147484448 (Nat.le_of_ble_eq_true rfl) rfl
  obtain ⟨i3a, i3b, i3c, i3d⟩ := pz_gi hE 3 0 4294967295 (Nat.le_of_ble_eq_true rfl) rfl
  obtain ⟨i4a, i4b, i4c, i4d⟩ := pz_gi hE 4 2147483520 2147483745 (Nat.le_of_ble_eq_true rfl) rfl
  have c_at : ay_at hp 173 14 = some (ρ 2) := ay_gfj hE 702 56 11 173 14 ax_m2 (ax_vlq rfl rfl) (ax_vlj rfl rfl)
  have s1 : (ρ 2 / 4 + 2147483648) % 4294967296 + (12 / 4 + 2147483648) % 4294967296 = (ρ 3 / 4 + 2147483648) % 4294967296 + 2147483648 := pz_gs hE 11 12 15 ax_m3
  have c_tape : ay_at hp 183 (ρ 3 / 4) = some (ρ 4) := ay_gf hE 742 15 19 183 ax_m4 (ax_vlq rfl rfl)
  obtain ⟨-, -, F131⟩ : ay_ex hp 173 ∧ ay_ex hp 183 ∧ pz_x30 (ρ 0) (ay_at hp 173 12) (ay_at hp 183) := (ax_XF_lt (x := 131) (Nat.le_of_ble_eq_true rfl)).mp (ax_gx hE (131, [3]) ax_m0)
  obtain ⟨-, F154⟩ : ay_ex hp 173 ∧ ay_ln (ay_at hp 173 14) = pz_at (pz_gt (ρ 0)) (pz_gN (ρ 0)) (pz_p (pz_cF (ρ 0) (ρ 1))) := (ax_XF_lt (x := 154) (Nat.le_of_ble_eq_true rfl)).mp (ax_gx hE (154, [3, 7]) ax_m1)
  rw [c_at] at F154
  have F212 : pz_x62 (ρ 0) (ρ 1) (4024) (12) := (ax_XF_lt (x := 212) (Nat.le_of_ble_eq_true rfl)).mp (ax_gx hE (212, [3, 7, 4024, 12]) ax_m5)
  have ep : ρ 2 / 4 = pz_at (pz_gt (ρ 0)) (pz_gN (ρ 0)) (pz_p (pz_cf (pz_gt (ρ 0)) (pz_gN (ρ 0)) (ρ 1 / 4))) := F154
  have hw : pz_at (pz_gt (ρ 0)) (pz_gN (ρ 0)) (pz_p (pz_cf (pz_gt (ρ 0)) (pz_gN (ρ 0)) (ρ 1 / 4))) < pz_gN (ρ 0) ∧ pz_nx (pz_gt (ρ 0)) (pz_gN (ρ 0)) (pz_p (pz_cf (pz_gt (ρ 0)) (pz_gN (ρ 0)) (ρ 1 / 4))) ≤ pz_gN (ρ 0) := pz_wd_le F212.1
  have hln : pz_nx (pz_gt (ρ 0)) (pz_gN (ρ 0)) (pz_p (pz_cf (pz_gt (ρ 0)) (pz_gN (ρ 0)) (ρ 1 / 4))) - pz_at (pz_gt (ρ 0)) (pz_gN (ρ 0)) (pz_p (pz_cf (pz_gt (ρ 0)) (pz_gN (ρ 0)) (ρ 1 / 4))) = 6 := F212.2.1
  have ha1 := (pz_ps 0 800 i2b i2c i2d (by decide))
  have hq1 : ρ 3 / 4 = ρ 2 / 4 + 3 := pz_sm (by omega) (by decide) i3b s1
  have hb := F131.2.2 (ρ 3 / 4) (by have := hw.2; omega)
  rw [c_tape] at hb
  have hb := Option.some.inj hb
  rw [show ρ 3 / 4 = pz_at (pz_gt (ρ 0)) (pz_gN (ρ 0)) (pz_p (pz_cf (pz_gt (ρ 0)) (pz_gN (ρ 0)) (ρ 1 / 4))) + 3 by omega] at hb
  have hb2 : pz_b (pz_gt (ρ 0)) (pz_at (pz_gt (ρ 0)) (pz_gN (ρ 0)) (pz_p (pz_cf (pz_gt (ρ 0)) (pz_gN (ρ 0)) (ρ 1 / 4))) + 3) = ρ 4 / 4 := by omega
  refine ⟨(fun y hy => by cases hy), _, List.mem_cons_self, ρ, fun _ _ => rfl, ax_px hE rfl (fun x hx => ?_)⟩
  cases List.mem_singleton.mp hx
  refine (ax_XF_lt (x := 161) (Nat.le_of_ble_eq_true rfl)).mpr ?_
  show pz61 (pz_gt (ρ 0)) (pz_gN (ρ 0)) ((ρ 1) / 4) ((24) / 4)
  refine pz_is_no (Or.inr (Or.inr ⟨3, by decide, fun z => ?_⟩))
  have z2 : ρ 4 / 4 = 98 := hb2.symm.trans z
  omega
theorem axq0_is4a_6_3 : ax_RO ax_wM0 (ax_XM 0) axu0_is4a_6_3 := axqg_is4a_6_3 ax_WW0
theorem axqg_is4b_6_3 {w : ax_W} {b : Nat} (hw : ax_WW w) : ax_RO w (ax_XM b) axu0_is4b_6_3 := by
  intro ρ hp hE hT
  have j0 : ρ 0 % 4 = 1 := pz_gj hE 0 (Nat.le_of_ble_eq_true rfl) rfl
  have j1 : ρ 1 % 4 = 1 := pz_gj hE 1 (Nat.le_of_ble_eq_true rfl) rfl
  obtain ⟨i2a, i2b, i2c, i2d⟩ := pz_gi hE 2 2147483648 2147484448 (Nat.le_of_ble_eq_true rfl) rfl
  obtain ⟨i3a, i3b, i3c, i3d⟩ := pz_gi hE 3 0 4294967295 (Nat.le_of_ble_eq_true rfl) rfl
  obtain ⟨i4a, i4b, i4c, i4d⟩ := pz_gi hE 4 2147483747 2147483775 (Nat.le_of_ble_eq_true rfl) rfl
  have c_at : ay_at hp 173 14 = some (ρ 2) := ay_gfj hE 702 56 11 173 14 ax_m2 (ax_vlq rfl rfl) (ax_vlj rfl rfl)
  have s1 : (ρ 2 / 4 + 2147483648) % 4294967296 + (12 / 4 + 2147483648) % 4294967296 = (ρ 3 / 4 + 2147483648) % 4294967296 + 2147483648 := pz_gs hE 11 12 15 ax_m3
  have c_tape : ay_at hp 183 (ρ 3 / 4) = some (ρ 4) := ay_gf hE 742 15 19 183 ax_m4 (ax_vlq rfl rfl)
  obtain ⟨-, -, F131⟩ : ay_ex hp 173 ∧ ay_ex hp 183 ∧ pz_x30 (ρ 0) (ay_at hp 173 12) (ay_at hp 183) := (ax_XF_lt (x := 131) (Nat.le_of_ble_eq_true rfl)).mp (ax_gx hE (131, [3]) ax_m0)
  obtain ⟨-, F154⟩ : ay_ex hp 173 ∧ ay_ln (ay_at hp 173 14) = pz_at (pz_gt (ρ 0)) (pz_gN (ρ 0)) (pz_p (pz_cF (ρ 0) (ρ 1))) := (ax_XF_lt (x := 154) (Nat.le_of_ble_eq_true rfl)).mp (ax_gx hE (154, [3, 7]) ax_m1)
  rw [c_at] at F154
  have F212 : pz_x62 (ρ 0) (ρ 1) (4024) (12) := (ax_XF_lt (x := 212) (Nat.le_of_ble_eq_true rfl)).mp (ax_gx hE (212, [3, 7, 4024, 12]) ax_m5)
  have ep : ρ 2 / 4 = pz_at (pz_gt (ρ 0)) (pz_gN (ρ 0)) (pz_p (pz_cf (pz_gt (ρ 0)) (pz_gN (ρ 0)) (ρ 1 / 4))) := F154
  have hw : pz_at (pz_gt (ρ 0)) (pz_gN (ρ 0)) (pz_p (pz_cf (pz_gt (ρ 0)) (pz_gN (ρ 0)) (ρ 1 / 4))) < pz_gN (ρ 0) ∧ pz_nx (pz_gt (ρ 0)) (pz_gN (ρ 0)) (pz_p (pz_cf (pz_gt (ρ 0)) (pz_gN (ρ 0)) (ρ 1 / 4))) ≤ pz_gN (ρ 0) := pz_wd_le F212.1
  have hln : pz_nx (pz_gt (ρ 0)) (pz_gN (ρ 0)) (pz_p (pz_cf (pz_gt (ρ 0)) (pz_gN (ρ 0)) (ρ 1 / 4))) - pz_at (pz_gt (ρ 0)) (pz_gN (ρ 0)) (pz_p (pz_cf (pz_gt (ρ 0)) (pz_gN (ρ 0)) (ρ 1 / 4))) = 6 := F212.2.1
  have ha1 := (pz_ps 0 800 i2b i2c i2d (by decide))
  have hq1 : ρ 3 / 4 = ρ 2 / 4 + 3 := pz_sm (by omega) (by decide) i3b s1
  have hb := F131.2.2 (ρ 3 / 4) (by have := hw.2; omega)
  rw [c_tape] at hb
  have hb := Option.some.inj hb
  rw [show ρ 3 / 4 = pz_at (pz_gt (ρ 0)) (pz_gN (ρ 0)) (pz_p (pz_cf (pz_gt (ρ 0)) (pz_gN (ρ 0)) (ρ 1 / 4))) + 3 by omega] at hb
  have hb2 : pz_b (pz_gt (ρ 0)) (pz_at (pz_gt (ρ 0)) (pz_gN (ρ 0)) (pz_p (pz_cf (pz_gt (ρ 0)) (pz_gN (ρ 0)) (ρ 1 / 4))) + 3) = ρ 4 / 4 := by omega
  refine ⟨(fun y hy => by cases hy), _, List.mem_cons_self, ρ, fun _ _ => rfl, ax_px hE rfl (fun x hx => ?_)⟩
  cases List.mem_singleton.mp hx
  refine (ax_XF_lt (x := 161) (Nat.le_of_ble_eq_true rfl)).mpr ?_
  show pz61 (pz_gt (ρ 0)) (pz_gN (ρ 0)) ((ρ 1) / 4) ((24) / 4)
  refine pz_is_no (Or.inr (Or.inr ⟨3, by decide, fun z => ?_⟩))
  have z2 : ρ 4 / 4 = 98 := hb2.symm.trans z
  omega
theorem axq0_is4b_6_3 : ax_RO ax_wM0 (ax_XM 0) axu0_is4b_6_3 := axqg_is4b_6_3 ax_WW0
theorem axqg_is3_6_4 {w : ax_W} {b : Nat} (hw : ax_WW w) : ax_RO w (ax_XM b) axu0_is3_6_4 := by
  intro ρ hp hE hT
  have j0 : ρ 0 % 4 = 1 := pz_gj hE 0 (Nat.le_of_ble_eq_true rfl) rfl
  have j1 : ρ 1 % 4 = 1 := pz_gj hE 1 (Nat.le_of_ble_eq_true rfl) rfl
  obtain ⟨i2a, i2b, i2c, i2d⟩ := pz_gi hE 2 2147483648 2147484448 (Nat.le_of_ble_eq_true rfl) rfl
  obtain ⟨i3a, i3b, i3c, i3d⟩ := pz_gi hE 3 0 4294967295 (Nat.le_of_ble_eq_true rfl) rfl
  obtain ⟨i4a, i4b, i4c, i4d⟩ := pz_gi hE 4 2147483749 2147483749 (Nat.le_of_ble_eq_true rfl) rfl
  have c_at : ay_at hp 173 14 = some (ρ 2) := ay_gfj hE 702 56 11 173 14 ax_m2 (ax_vlq rfl rfl) (ax_vlj rfl rfl)
  have s1 : (ρ 2 / 4 + 2147483648) % 4294967296 + (16 / 4 + 2147483648) % 4294967296 = (ρ 3 / 4 + 2147483648) % 4294967296 + 2147483648 := pz_gs hE 11 16 15 ax_m3
  have c_tape : ay_at hp 183 (ρ 3 / 4) = some (ρ 4) := ay_gf hE 742 15 19 183 ax_m4 (ax_vlq rfl rfl)
  obtain ⟨-, -, F131⟩ : ay_ex hp 173 ∧ ay_ex hp 183 ∧ pz_x30 (ρ 0) (ay_at hp 173 12) (ay_at hp 183) := (ax_XF_lt (x := 131) (Nat.le_of_ble_eq_true rfl)).mp (ax_gx hE (131, [3]) ax_m0)
  obtain ⟨-, F154⟩ : ay_ex hp 173 ∧ ay_ln (ay_at hp 173 14) = pz_at (pz_gt (ρ 0)) (pz_gN (ρ 0)) (pz_p (pz_cF (ρ 0) (ρ 1))) := (ax_XF_lt (x := 154) (Nat.le_of_ble_eq_true rfl)).mp (ax_gx hE (154, [3, 7]) ax_m1)
  rw [c_at] at F154
  have F212 : pz_x62 (ρ 0) (ρ 1) (4024) (16) := (ax_XF_lt (x := 212) (Nat.le_of_ble_eq_true rfl)).mp (ax_gx hE (212, [3, 7, 4024, 16]) ax_m5)
  have ep : ρ 2 / 4 = pz_at (pz_gt (ρ 0)) (pz_gN (ρ 0)) (pz_p (pz_cf (pz_gt (ρ 0)) (pz_gN (ρ 0)) (ρ 1 / 4))) := F154
  have hw : pz_at (pz_gt (ρ 0)) (pz_gN (ρ 0)) (pz_p (pz_cf (pz_gt (ρ 0)) (pz_gN (ρ 0)) (ρ 1 / 4))) < pz_gN (ρ 0) ∧ pz_nx (pz_gt (ρ 0)) (pz_gN (ρ 0)) (pz_p (pz_cf (pz_gt (ρ 0)) (pz_gN (ρ 0)) (ρ 1 / 4))) ≤ pz_gN (ρ 0) := pz_wd_le F212.1
  have hln : pz_nx (pz_gt (ρ 0)) (pz_gN (ρ 0)) (pz_p (pz_cf (pz_gt (ρ 0)) (pz_gN (ρ 0)) (ρ 1 / 4))) - pz_at (pz_gt (ρ 0)) (pz_gN (ρ 0)) (pz_p (pz_cf (pz_gt (ρ 0)) (pz_gN (ρ 0)) (ρ 1 / 4))) = 6 := F212.2.1
  have ha1 := (pz_ps 0 800 i2b i2c i2d (by decide))
  have hq1 : ρ 3 / 4 = ρ 2 / 4 + 4 := pz_sm (by omega) (by decide) i3b s1
  have hb := F131.2.2 (ρ 3 / 4) (by have := hw.2; omega)
  rw [c_tape] at hb
  have hb := Option.some.inj hb
  rw [show ρ 3 / 4 = pz_at (pz_gt (ρ 0)) (pz_gN (ρ 0)) (pz_p (pz_cf (pz_gt (ρ 0)) (pz_gN (ρ 0)) (ρ 1 / 4))) + 4 by omega] at hb
  have hb2 : pz_b (pz_gt (ρ 0)) (pz_at (pz_gt (ρ 0)) (pz_gN (ρ 0)) (pz_p (pz_cf (pz_gt (ρ 0)) (pz_gN (ρ 0)) (ρ 1 / 4))) + 4) = ρ 4 / 4 := by omega
  refine ⟨(fun y hy => by cases hy), _, List.mem_cons_self, ρ, fun _ _ => rfl, ax_px hE rfl (fun x hx => ?_)⟩
  cases List.mem_singleton.mp hx
  refine (ax_XF_lt (x := 212) (Nat.le_of_ble_eq_true rfl)).mpr ?_
  show pz_x62 (ρ 0) (ρ 1) (4024) (20)
  refine ⟨F212.1, F212.2.1, fun i hi => ?_⟩
  replace hi : i < 5 := hi
  by_cases h : i < 4
  · exact F212.2.2 i h
  · have e : i = 4 := by omega
    subst e
    exact hb2.trans (show ρ 4 / 4 = 101 by omega)
theorem axq0_is3_6_4 : ax_RO ax_wM0 (ax_XM 0) axu0_is3_6_4 := axqg_is3_6_4 ax_WW0
theorem axqg_is4a_6_4 {w : ax_W} {b : Nat} (hw : ax_WW w) : ax_RO w (ax_XM b) axu0_is4a_6_4 := by
  intro ρ hp hE hT
  have j0 : ρ 0 % 4 = 1 := pz_gj hE 0 (Nat.le_of_ble_eq_true rfl) rfl
  have j1 : ρ 1 % 4 = 1 := pz_gj hE 1 (Nat.le_of_ble_eq_true rfl) rfl
  obtain ⟨i2a, i2b, i2c, i2d⟩ := pz_gi hE 2 2147483648 2147484448 (Nat.le_of_ble_eq_true rfl) rfl
  obtain ⟨i3a, i3b, i3c, i3d⟩ := pz_gi hE 3 0 4294967295 (Nat.le_of_ble_eq_true rfl) rfl
  obtain ⟨i4a, i4b, i4c, i4d⟩ := pz_gi hE 4 2147483520 2147483748 (Nat.le_of_ble_eq_true rfl) rfl
  have c_at : ay_at hp 173 14 = some (ρ 2) := ay_gfj hE 702 56 11 173 14 ax_m2 (ax_vlq rfl rfl) (ax_vlj rfl rfl)
  have s1 : (ρ 2 / 4 + 2147483648) % 4294967296 + (16 / 4 + 2147483648) % 4294967296 = (ρ 3 / 4 + 2147483648) % 4294967296 + 2147483648 := pz_gs hE 11 16 15 ax_m3
  have c_tape : ay_at hp 183 (ρ 3 / 4) = some (ρ 4) := ay_gf hE 742 15 19 183 ax_m4 (ax_vlq rfl rfl)
  obtain ⟨-, -, F131⟩ : ay_ex hp 173 ∧ ay_ex hp 183 ∧ pz_x30 (ρ 0) (ay_at hp 173 12) (ay_at hp 183) := (ax_XF_lt (x := 131) (Nat.le_of_ble_eq_true rfl)).mp (ax_gx hE (131, [3]) ax_m0)
  obtain ⟨-, F154⟩ : ay_ex hp 173 ∧ ay_ln (ay_at hp 173 14) = pz_at (pz_gt (ρ 0)) (pz_gN (ρ 0)) (pz_p (pz_cF (ρ 0) (ρ 1))) := (ax_XF_lt (x := 154) (Nat.le_of_ble_eq_true rfl)).mp (ax_gx hE (154, [3, 7]) ax_m1)
  rw [c_at] at F154
  have F212 : pz_x62 (ρ 0) (ρ 1) (4024) (16) := (ax_XF_lt (x := 212) (Nat.le_of_ble_eq_true rfl)).mp (ax_gx hE (212, [3, 7, 4024, 16]) ax_m5)
  have ep : ρ 2 / 4 = pz_at (pz_gt (ρ 0)) (pz_gN (ρ 0)) (pz_p (pz_cf (pz_gt (ρ 0)) (pz_gN (ρ 0)) (ρ 1 / 4))) := F154
  have hw : pz_at (pz_gt (ρ 0)) (pz_gN (ρ 0)) (pz_p (pz_cf (pz_gt (ρ 0)) (pz_gN (ρ 0)) (ρ 1 / 4))) < pz_gN (ρ 0) ∧ pz_nx (pz_gt (ρ 0)) (pz_gN (ρ 0)) (pz_p (pz_cf (pz_gt (ρ 0)) (pz_gN (ρ 0)) (ρ 1 / 4))) ≤ pz_gN (ρ 0) := pz_wd_le F212.1
  have hln : pz_nx (pz_gt (ρ 0)) (pz_gN (ρ 0)) (pz_p (pz_cf (pz_gt (ρ 0)) (pz_gN (ρ 0)) (ρ 1 / 4))) - pz_at (pz_gt (ρ 0)) (pz_gN (ρ 0)) (pz_p (pz_cf (pz_gt (ρ 0)) (pz_gN (ρ 0)) (ρ 1 / 4))) = 6 := F212.2.1
  have ha1 := (pz_ps 0 800 i2b i2c i2d (by decide))
  have hq1 : ρ 3 / 4 = ρ 2 / 4 + 4 := pz_sm (by omega) (by decide) i3b s1
  have hb := F131.2.2 (ρ 3 / 4) (by have := hw.2; omega)
  rw [c_tape] at hb
  have hb := Option.some.inj hb
  rw [show ρ 3 / 4 = pz_at (pz_gt (ρ 0)) (pz_gN (ρ 0)) (pz_p (pz_cf (pz_gt (ρ 0)) (pz_gN (ρ 0)) (ρ 1 / 4))) + 4 by omega] at hb
  have hb2 : pz_b (pz_gt (ρ 0)) (pz_at (pz_gt (ρ 0)) (pz_gN (ρ 0)) (pz_p (pz_cf (pz_gt (ρ 0)) (pz_gN (ρ 0)) (ρ 1 / 4))) + 4) = ρ 4 / 4 := by omega
  refine ⟨(fun y hy => by cases hy), _, List.mem_cons_self, ρ, fun _ _ => rfl, ax_px hE rfl (fun x hx => ?_)⟩
  cases List.mem_singleton.mp hx
  refine (ax_XF_lt (x := 161) (Nat.le_of_ble_eq_true rfl)).mpr ?_
  show pz61 (pz_gt (ρ 0)) (pz_gN (ρ 0)) ((ρ 1) / 4) ((24) / 4)
  refine pz_is_no (Or.inr (Or.inr ⟨4, by decide, fun z => ?_⟩))
  have z2 : ρ 4 / 4 = 101 := hb2.symm.trans z
  omega
theorem axq0_is4a_6_4 : ax_RO ax_wM0 (ax_XM 0) axu0_is4a_6_4 := axqg_is4a_6_4 ax_WW0
theorem axqg_is4b_6_4 {w : ax_W} {b : Nat} (hw : ax_WW w) : ax_RO w (ax_XM b) axu0_is4b_6_4 := by
  intro ρ hp hE hT
  have j0 : ρ 0 % 4 = 1 := pz_gj hE 0 (Nat.le_of_ble_eq_true rfl) rfl
  have j1 : ρ 1 % 4 = 1 := pz_gj hE 1 (Nat.le_of_ble_eq_true rfl) rfl
  obtain ⟨i2a, i2b, i2c, i2d⟩ := pz_gi hE 2 2147483648 2147484448 (Nat.le_of_ble_eq_true rfl) rfl
  obtain ⟨i3a, i3b, i3c, i3d⟩ := pz_gi hE 3 0 4294967295 (Nat.le_of_ble_eq_true rfl) rfl
  obtain ⟨i4a, i4b, i4c, i4d⟩ := pz_gi hE 4 2147483750 2147483775 (Nat.le_of_ble_eq_true rfl) rfl
  have c_at : ay_at hp 173 14 = some (ρ 2) := ay_gfj hE 702 56 11 173 14 ax_m2 (ax_vlq rfl rfl) (ax_vlj rfl rfl)
  have s1 : (ρ 2 / 4 + 2147483648) % 4294967296 + (16 / 4 + 2147483648) % 4294967296 = (ρ 3 / 4 + 2147483648) % 4294967296 + 2147483648 := pz_gs hE 11 16 15 ax_m3
  have c_tape : ay_at hp 183 (ρ 3 / 4) = some (ρ 4) := ay_gf hE 742 15 19 183 ax_m4 (ax_vlq rfl rfl)
  obtain ⟨-, -, F131⟩ : ay_ex hp 173 ∧ ay_ex hp 183 ∧ pz_x30 (ρ 0) (ay_at hp 173 12) (ay_at hp 183) := (ax_XF_lt (x := 131) (Nat.le_of_ble_eq_true rfl)).mp (ax_gx hE (131, [3]) ax_m0)
  obtain ⟨-, F154⟩ : ay_ex hp 173 ∧ ay_ln (ay_at hp 173 14) = pz_at (pz_gt (ρ 0)) (pz_gN (ρ 0)) (pz_p (pz_cF (ρ 0) (ρ 1))) := (ax_XF_lt (x := 154) (Nat.le_of_ble_eq_true rfl)).mp (ax_gx hE (154, [3, 7]) ax_m1)
  rw [c_at] at F154
  have F212 : pz_x62 (ρ 0) (ρ 1) (4024) (16) := (ax_XF_lt (x := 212) (Nat.le_of_ble_eq_true rfl)).mp (ax_gx hE (212, [3, 7, 4024, 16]) ax_m5)
  have ep : ρ 2 / 4 = pz_at (pz_gt (ρ 0)) (pz_gN (ρ 0)) (pz_p (pz_cf (pz_gt (ρ 0)) (pz_gN (ρ 0)) (ρ 1 / 4))) := F154
  have hw : pz_at (pz_gt (ρ 0)) (pz_gN (ρ 0)) (pz_p (pz_cf (pz_gt (ρ 0)) (pz_gN (ρ 0)) (ρ 1 / 4))) < pz_gN (ρ 0) ∧ pz_nx (pz_gt (ρ 0)) (pz_gN (ρ 0)) (pz_p (pz_cf (pz_gt (ρ 0)) (pz_gN (ρ 0)) (ρ 1 / 4))) ≤ pz_gN (ρ 0) := pz_wd_le F212.1
  have hln : pz_nx (pz_gt (ρ 0)) (pz_gN (ρ 0)) (pz_p (pz_cf (pz_gt (ρ 0)) (pz_gN (ρ 0)) (ρ 1 / 4))) - pz_at (pz_gt (ρ 0)) (pz_gN (ρ 0)) (pz_p (pz_cf (pz_gt (ρ 0)) (pz_gN (ρ 0)) (ρ 1 / 4))) = 6 := F212.2.1
  have ha1 := (pz_ps 0 800 i2b i2c i2d (by decide))
  have hq1 : ρ 3 / 4 = ρ 2 / 4 + 4 := pz_sm (by omega) (by decide) i3b s1
  have hb := F131.2.2 (ρ 3 / 4) (by have := hw.2; omega)
  rw [c_tape] at hb
  have hb := Option.some.inj hb
  rw [show ρ 3 / 4 = pz_at (pz_gt (ρ 0)) (pz_gN (ρ 0)) (pz_p (pz_cf (pz_gt (ρ 0)) (pz_gN (ρ 0)) (ρ 1 / 4))) + 4 by omega] at hb
  have hb2 : pz_b (pz_gt (ρ 0)) (pz_at (pz_gt (ρ 0)) (pz_gN (ρ 0)) (pz_p (pz_cf (pz_gt (ρ 0)) (pz_gN (ρ 0)) (ρ 1 / 4))) + 4) = ρ 4 / 4 := by omega
  refine ⟨(fun y hy => by cases hy), _, List.mem_cons_self, ρ, fun _ _ => rfl, ax_px hE rfl (fun x hx => ?_)⟩
  cases List.mem_singleton.mp hx
  refine (ax_XF_lt (x := 161) (Nat.le_of_ble_eq_true rfl)).mpr ?_
  show pz61 (pz_gt (ρ 0)) (pz_gN (ρ 0)) ((ρ 1) / 4) ((24) / 4)
  refine pz_is_no (Or.inr (Or.inr ⟨4, by decide, fun z => ?_⟩))
  have z2 : ρ 4 / 4 = 101 := hb2.symm.trans z
  omega
theorem axq0_is4b_6_4 : ax_RO ax_wM0 (ax_XM 0) axu0_is4b_6_4 := axqg_is4b_6_4 ax_WW0
theorem axqg_is3_6_5 {w : ax_W} {b : Nat} (hw : ax_WW w) : ax_RO w (ax_XM b) axu0_is3_6_5 := by
  intro ρ hp hE hT
  have j0 : ρ 0 % 4 = 1 := pz_gj hE 0 (Nat.le_of_ble_eq_true rfl) rfl
  have j1 : ρ 1 % 4 = 1 := pz_gj hE 1 (Nat.le_of_ble_eq_true rfl) rfl
  obtain ⟨i2a, i2b, i2c, i2d⟩ := pz_gi hE 2 2147483648 2147484448 (Nat.le_of_ble_eq_true rfl) rfl
  obtain ⟨i3a, i3b, i3c, i3d⟩ := pz_gi hE 3 0 4294967295 (Nat.le_of_ble_eq_true rfl) rfl
  obtain ⟨i4a, i4b, i4c, i4d⟩ := pz_gi hE 4 2147483762 2147483762 (Nat.le_of_ble_eq_true rfl) rfl
  have c_at : ay_at hp 173 14 = some (ρ 2) := ay_gfj hE 702 56 11 173 14 ax_m2 (ax_vlq rfl rfl) (ax_vlj rfl rfl)
  have s1 : (ρ 2 / 4 + 2147483648) % 4294967296 + (20 / 4 + 2147483648) % 4294967296 = (ρ 3 / 4 + 2147483648) % 4294967296 + 2147483648 := pz_gs hE 11 20 15 ax_m3
  have c_tape : ay_at hp 183 (ρ 3 / 4) = some (ρ 4) := ay_gf hE 742 15 19 183 ax_m4 (ax_vlq rfl rfl)
  obtain ⟨-, -, F131⟩ : ay_ex hp 173 ∧ ay_ex hp 183 ∧ pz_x30 (ρ 0) (ay_at hp 173 12) (ay_at hp 183) := (ax_XF_lt (x := 131) (Nat.le_of_ble_eq_true rfl)).mp (ax_gx hE (131, [3]) ax_m0)
  obtain ⟨-, F154⟩ : ay_ex hp 173 ∧ ay_ln (ay_at hp 173 14) = pz_at (pz_gt (ρ 0)) (pz_gN (ρ 0)) (pz_p (pz_cF (ρ 0) (ρ 1))) := (ax_XF_lt (x := 154) (Nat.le_of_ble_eq_true rfl)).mp (ax_gx hE (154, [3, 7]) ax_m1)
  rw [c_at] at F154
  have F212 : pz_x62 (ρ 0) (ρ 1) (4024) (20) := (ax_XF_lt (x := 212) (Nat.le_of_ble_eq_true rfl)).mp (ax_gx hE (212, [3, 7, 4024, 20]) ax_m5)
  have ep : ρ 2 / 4 = pz_at (pz_gt (ρ 0)) (pz_gN (ρ 0)) (pz_p (pz_cf (pz_gt (ρ 0)) (pz_gN (ρ 0)) (ρ 1 / 4))) := F154
  have hw : pz_at (pz_gt (ρ 0)) (pz_gN (ρ 0)) (pz_p (pz_cf (pz_gt (ρ 0)) (pz_gN (ρ 0)) (ρ 1 / 4))) < pz_gN (ρ 0) ∧ pz_nx (pz_gt (ρ 0)) (pz_gN (ρ 0)) (pz_p (pz_cf (pz_gt (ρ 0)) (pz_gN (ρ 0)) (ρ 1 / 4))) ≤ pz_gN (ρ 0) := pz_wd_le F212.1
  have hln : pz_nx (pz_gt (ρ 0)) (pz_gN (ρ 0)) (pz_p (pz_cf (pz_gt (ρ 0)) (pz_gN (ρ 0)) (ρ 1 / 4))) - pz_at (pz_gt (ρ 0)) (pz_gN (ρ 0)) (pz_p (pz_cf (pz_gt (ρ 0)) (pz_gN (ρ 0)) (ρ 1 / 4))) = 6 := F212.2.1
  have ha1 := (pz_ps 0 800 i2b i2c i2d (by decide))
  have hq1 : ρ 3 / 4 = ρ 2 / 4 + 5 := pz_sm (by omega) (by decide) i3b s1
  have hb := F131.2.2 (ρ 3 / 4) (by have := hw.2; omega)
  rw [c_tape] at hb
  have hb := Option.some.inj hb
  rw [show ρ 3 / 4 = pz_at (pz_gt (ρ 0)) (pz_gN (ρ 0)) (pz_p (pz_cf (pz_gt (ρ 0)) (pz_gN (ρ 0)) (ρ 1 / 4))) + 5 by omega] at hb
  have hb2 : pz_b (pz_gt (ρ 0)) (pz_at (pz_gt (ρ 0)) (pz_gN (ρ 0)) (pz_p (pz_cf (pz_gt (ρ 0)) (pz_gN (ρ 0)) (ρ 1 / 4))) + 5) = ρ 4 / 4 := by omega
  refine ⟨(fun y hy => by cases hy), _, List.mem_cons_self, ρ, fun _ _ => rfl, ax_px hE rfl (fun x hx => ?_)⟩
  cases List.mem_singleton.mp hx
  refine (ax_XF_lt (x := 212) (Nat.le_of_ble_eq_true rfl)).mpr ?_
  show pz_x62 (ρ 0) (ρ 1) (4024) (24)
  refine ⟨F212.1, F212.2.1, fun i hi => ?_⟩
  replace hi : i < 6 := hi
  by_cases h : i < 5
  · exact F212.2.2 i h
  · have e : i = 5 := by omega
    subst e
    exact hb2.trans (show ρ 4 / 4 = 114 by omega)
theorem axq0_is3_6_5 : ax_RO ax_wM0 (ax_XM 0) axu0_is3_6_5 := axqg_is3_6_5 ax_WW0
theorem axqg_is4a_6_5 {w : ax_W} {b : Nat} (hw : ax_WW w) : ax_RO w (ax_XM b) axu0_is4a_6_5 := by
  intro ρ hp hE hT
  have j0 : ρ 0 % 4 = 1 := pz_gj hE 0 (Nat.le_of_ble_eq_true rfl) rfl
  have j1 : ρ 1 % 4 = 1 := pz_gj hE 1 (Nat.le_of_ble_eq_true rfl) rfl
  obtain ⟨i2a, i2b, i2c, i2d⟩ := pz_gi hE 2 2147483648 2147484448 (Nat.le_of_ble_eq_true rfl) rfl
  obtain ⟨i3a, i3b, i3c, i3d⟩ := pz_gi hE 3 0 4294967295 (Nat.le_of_ble_eq_true rfl) rfl
  obtain ⟨i4a, i4b, i4c, i4d⟩ := pz_gi hE 4 2147483520 2147483761 (Nat.le_of_ble_eq_true rfl) rfl
  have c_at : ay_at hp 173 14 = some (ρ 2) := ay_gfj hE 702 56 11 173 14 ax_m2 (ax_vlq rfl rfl) (ax_vlj rfl rfl)
  have s1 : (ρ 2 / 4 + 2147483648) % 4294967296 + (20 / 4 + 2147483648) % 4294967296 = (ρ 3 / 4 + 2147483648) % 4294967296 + 2147483648 := pz_gs hE 11 20 15 ax_m3
  have c_tape : ay_at hp 183 (ρ 3 / 4) = some (ρ 4) := ay_gf hE 742 15 19 183 ax_m4 (ax_vlq rfl rfl)
  obtain ⟨-, -, F131⟩ : ay_ex hp 173 ∧ ay_ex hp 183 ∧ pz_x30 (ρ 0) (ay_at hp 173 12) (ay_at hp 183) := (ax_XF_lt (x := 131) (Nat.le_of_ble_eq_true rfl)).mp (ax_gx hE (131, [3]) ax_m0)
  obtain ⟨-, F154⟩ : ay_ex hp 173 ∧ ay_ln (ay_at hp 173 14) = pz_at (pz_gt (ρ 0)) (pz_gN (ρ 0)) (pz_p (pz_cF (ρ 0) (ρ 1))) := (ax_XF_lt (x := 154) (Nat.le_of_ble_eq_true rfl)).mp (ax_gx hE (154, [3, 7]) ax_m1)
  rw [c_at] at F154
  have F212 : pz_x62 (ρ 0) (ρ 1) (4024) (20) := (ax_XF_lt (x := 212) (Nat.le_of_ble_eq_true rfl)).mp (ax_gx hE (212, [3, 7, 4024, 20]) ax_m5)
  have ep : ρ 2 / 4 = pz_at (pz_gt (ρ 0)) (pz_gN (ρ 0)) (pz_p (pz_cf (pz_gt (ρ 0)) (pz_gN (ρ 0)) (ρ 1 / 4))) := F154
  have hw : pz_at (pz_gt (ρ 0)) (pz_gN (ρ 0)) (pz_p (pz_cf (pz_gt (ρ 0)) (pz_gN (ρ 0)) (ρ 1 / 4))) < pz_gN (ρ 0) ∧ pz_nx (pz_gt (ρ 0)) (pz_gN (ρ 0)) (pz_p (pz_cf (pz_gt (ρ 0)) (pz_gN (ρ 0)) (ρ 1 / 4))) ≤ pz_gN (ρ 0) := pz_wd_le F212.1
  have hln : pz_nx (pz_gt (ρ 0)) (pz_gN (ρ 0)) (pz_p (pz_cf (pz_gt (ρ 0)) (pz_gN (ρ 0)) (ρ 1 / 4))) - pz_at (pz_gt (ρ 0)) (pz_gN (ρ 0)) (pz_p (pz_cf (pz_gt (ρ 0)) (pz_gN (ρ 0)) (ρ 1 / 4))) = 6 := F212.2.1
  have ha1 := (pz_ps 0 800 i2b i2c i2d (by decide))
  have hq1 : ρ 3 / 4 = ρ 2 / 4 + 5 := pz_sm (by omega) (by decide) i3b s1
  have hb := F131.2.2 (ρ 3 / 4) (by have := hw.2; omega)
  rw [c_tape] at hb
  have hb := Option.some.inj hb
  rw [show ρ 3 / 4 = pz_at (pz_gt (ρ 0)) (pz_gN (ρ 0)) (pz_p (pz_cf (pz_gt (ρ 0)) (pz_gN (ρ 0)) (ρ 1 / 4))) + 5 by omega] at hb
  have hb2 : pz_b (pz_gt (ρ 0)) (pz_at (pz_gt (ρ 0)) (pz_gN (ρ 0)) (pz_p (pz_cf (pz_gt (ρ 0)) (pz_gN (ρ 0)) (ρ 1 / 4))) + 5) = ρ 4 / 4 := by omega
  refine ⟨(fun y hy => by cases hy), _, List.mem_cons_self, ρ, fun _ _ => rfl, ax_px hE rfl (fun x hx => ?_)⟩
  cases List.mem_singleton.mp hx
  refine (ax_XF_lt (x := 161) (Nat.le_of_ble_eq_true rfl)).mpr ?_
  show pz61 (pz_gt (ρ 0)) (pz_gN (ρ 0)) ((ρ 1) / 4) ((24) / 4)
  refine pz_is_no (Or.inr (Or.inr ⟨5, by decide, fun z => ?_⟩))
  have z2 : ρ 4 / 4 = 114 := hb2.symm.trans z
  omega
theorem axq0_is4a_6_5 : ax_RO ax_wM0 (ax_XM 0) axu0_is4a_6_5 := axqg_is4a_6_5 ax_WW0
theorem axqg_is4b_6_5 {w : ax_W} {b : Nat} (hw : ax_WW w) : ax_RO w (ax_XM b) axu0_is4b_6_5 := by
  intro ρ hp hE hT
  have j0 : ρ 0 % 4 = 1 := pz_gj hE 0 (Nat.le_of_ble_eq_true rfl) rfl
  have j1 : ρ 1 % 4 = 1 := pz_gj hE 1 (Nat.le_of_ble_eq_true rfl) rfl
  obtain ⟨i2a, i2b, i2c, i2d⟩ := pz_gi hE 2 2147483648 2147484448 (Nat.le_of_ble_eq_true rfl) rfl
  obtain ⟨i3a, i3b, i3c, i3d⟩ := pz_gi hE 3 0 4294967295 (Nat.le_of_ble_eq_true rfl) rfl
  obtain ⟨i4a, i4b, i4c, i4d⟩ := pz_gi hE 4 2147483763 2147483775 (Nat.le_of_ble_eq_true rfl) rfl
  have c_at : ay_at hp 173 14 = some (ρ 2) := ay_gfj hE 702 56 11 173 14 ax_m2 (ax_vlq rfl rfl) (ax_vlj rfl rfl)
  have s1 : (ρ 2 / 4 + 2147483648) % 4294967296 + (20 / 4 + 2147483648) % 4294967296 = (ρ 3 / 4 + 2147483648) % 4294967296 + 2147483648 := pz_gs hE 11 20 15 ax_m3
  have c_tape : ay_at hp 183 (ρ 3 / 4) = some (ρ 4) := ay_gf hE 742 15 19 183 ax_m4 (ax_vlq rfl rfl)
  obtain ⟨-, -, F131⟩ : ay_ex hp 173 ∧ ay_ex hp 183 ∧ pz_x30 (ρ 0) (ay_at hp 173 12) (ay_at hp 183) := (ax_XF_lt (x := 131) (Nat.le_of_ble_eq_true rfl)).mp (ax_gx hE (131, [3]) ax_m0)
  obtain ⟨-, F154⟩ : ay_ex hp 173 ∧ ay_ln (ay_at hp 173 14) = pz_at (pz_gt (ρ 0)) (pz_gN (ρ 0)) (pz_p (pz_cF (ρ 0) (ρ 1))) := (ax_XF_lt (x := 154) (Nat.le_of_ble_eq_true rfl)).mp (ax_gx hE (154, [3, 7]) ax_m1)
  rw [c_at] at F154
  have F212 : pz_x62 (ρ 0) (ρ 1) (4024) (20) := (ax_XF_lt (x := 212) (Nat.le_of_ble_eq_true rfl)).mp (ax_gx hE (212, [3, 7, 4024, 20]) ax_m5)
  have ep : ρ 2 / 4 = pz_at (pz_gt (ρ 0)) (pz_gN (ρ 0)) (pz_p (pz_cf (pz_gt (ρ 0)) (pz_gN (ρ 0)) (ρ 1 / 4))) := F154
  have hw : pz_at (pz_gt (ρ 0)) (pz_gN (ρ 0)) (pz_p (pz_cf (pz_gt (ρ 0)) (pz_gN (ρ 0)) (ρ 1 / 4))) < pz_gN (ρ 0) ∧ pz_nx (pz_gt (ρ 0)) (pz_gN (ρ 0)) (pz_p (pz_cf (pz_gt (ρ 0)) (pz_gN (ρ 0)) (ρ 1 / 4))) ≤ pz_gN (ρ 0) := pz_wd_le F212.1
  have hln : pz_nx (pz_gt (ρ 0)) (pz_gN (ρ 0)) (pz_p (pz_cf (pz_gt (ρ 0)) (pz_gN (ρ 0)) (ρ 1 / 4))) - pz_at (pz_gt (ρ 0)) (pz_gN (ρ 0)) (pz_p (pz_cf (pz_gt (ρ 0)) (pz_gN (ρ 0)) (ρ 1 / 4))) = 6 := F212.2.1
  have ha1 := (pz_ps 0 800 i2b i2c i2d (by decide))
  have hq1 : ρ 3 / 4 = ρ 2 / 4 + 5 := pz_sm (by omega) (by decide) i3b s1
  have hb := F131.2.2 (ρ 3 / 4) (by have := hw.2; omega)
  rw [c_tape] at hb
  have hb := Option.some.inj hb
  rw [show ρ 3 / 4 = pz_at (pz_gt (ρ 0)) (pz_gN (ρ 0)) (pz_p (pz_cf (pz_gt (ρ 0)) (pz_gN (ρ 0)) (ρ 1 / 4))) + 5 by omega] at hb
  have hb2 : pz_b (pz_gt (ρ 0)) (pz_at (pz_gt (ρ 0)) (pz_gN (ρ 0)) (pz_p (pz_cf (pz_gt (ρ 0)) (pz_gN (ρ 0)) (ρ 1 / 4))) + 5) = ρ 4 / 4 := by omega
  refine ⟨(fun y hy => by cases hy), _, List.mem_cons_self, ρ, fun _ _ => rfl, ax_px hE rfl (fun x hx => ?_)⟩
  cases List.mem_singleton.mp hx
  refine (ax_XF_lt (x := 161) (Nat.le_of_ble_eq_true rfl)).mpr ?_
  show pz61 (pz_gt (ρ 0)) (pz_gN (ρ 0)) ((ρ 1) / 4) ((24) / 4)
  refine pz_is_no (Or.inr (Or.inr ⟨5, by decide, fun z => ?_⟩))
  have z2 : ρ 4 / 4 = 114 := hb2.symm.trans z
  omega
theorem axq0_is4b_6_5 : ax_RO ax_wM0 (ax_XM 0) axu0_is4b_6_5 := axqg_is4b_6_5 ax_WW0
theorem axqg_is5_6 {w : ax_W} {b : Nat} (hw : ax_WW w) : ax_RO w (ax_XM b) axu0_is5_6 := by
  intro ρ hp hE hT
  have j0 : ρ 0 % 4 = 1 := pz_gj hE 0 (Nat.le_of_ble_eq_true rfl) rfl
  have j1 : ρ 1 % 4 = 1 := pz_gj hE 1 (Nat.le_of_ble_eq_true rfl) rfl
  have F212 : pz_x62 (ρ 0) (ρ 1) (4024) (24) := (ax_XF_lt (x := 212) (Nat.le_of_ble_eq_true rfl)).mp (ax_gx hE (212, [3, 7, 4024, 24]) ax_m0)
  refine ⟨(fun y hy => by cases hy), _, List.mem_cons_self, ρ, fun _ _ => rfl, ax_px hE rfl (fun x hx => ?_)⟩
  cases List.mem_singleton.mp hx
  refine (ax_XF_lt (x := 160) (Nat.le_of_ble_eq_true rfl)).mpr ?_
  show pz60 (pz_gt (ρ 0)) (pz_gN (ρ 0)) ((ρ 1) / 4) ((24) / 4)
  exact pz_is_yes F212.1 F212.2.1 (fun i hi => F212.2.2 i hi)
theorem axq0_is5_6 : ax_RO ax_wM0 (ax_XM 0) axu0_is5_6 := axqg_is5_6 ax_WW0
theorem axqg_is1a_7 {w : ax_W} {b : Nat} (hw : ax_WW w) : ax_RO w (ax_XM b) axu0_is1a_7 := by
  intro ρ hp hE hT
  have j0 : ρ 0 % 4 = 1 := pz_gj hE 0 (Nat.le_of_ble_eq_true rfl) rfl
  have j1 : ρ 1 % 4 = 1 := pz_gj hE 1 (Nat.le_of_ble_eq_true rfl) rfl
  obtain ⟨i2a, i2b, i2c, i2d⟩ := pz_gi hE 2 2147482848 2147483652 (Nat.le_of_ble_eq_true rfl) rfl
  obtain ⟨i3a, i3b, i3c, i3d⟩ := pz_gi hE 3 2147483648 2147484448 (Nat.le_of_ble_eq_true rfl) rfl
  obtain ⟨i4a, i4b, i4c, i4d⟩ := pz_gi hE 4 2147483648 2147484448 (Nat.le_of_ble_eq_true rfl) rfl
  have c_next : ay_at hp 173 13 = some (ρ 4) := ay_gfj hE 702 52 19 173 13 ax_m2 (ax_vlq rfl rfl) (ax_vlj rfl rfl)
  have c_at : ay_at hp 173 14 = some (ρ 3) := ay_gfj hE 702 56 15 173 14 ax_m3 (ax_vlq rfl rfl) (ax_vlj rfl rfl)
  have s1 : (ρ 2 / 4 + 2147483648) % 4294967296 + (ρ 3 / 4 + 2147483648) % 4294967296 = (ρ 4 / 4 + 2147483648) % 4294967296 + 2147483648 := pz_gs hE 11 15 19 ax_m4
  obtain ⟨-, F154⟩ : ay_ex hp 173 ∧ ay_ln (ay_at hp 173 14) = pz_at (pz_gt (ρ 0)) (pz_gN (ρ 0)) (pz_p (pz_cF (ρ 0) (ρ 1))) := (ax_XF_lt (x := 154) (Nat.le_of_ble_eq_true rfl)).mp (ax_gx hE (154, [3, 7]) ax_m0)
  rw [c_at] at F154
  obtain ⟨-, F156⟩ : ay_ex hp 173 ∧ ay_ln (ay_at hp 173 13) = pz_nx (pz_gt (ρ 0)) (pz_gN (ρ 0)) (pz_p (pz_cF (ρ 0) (ρ 1))) := (ax_XF_lt (x := 156) (Nat.le_of_ble_eq_true rfl)).mp (ax_gx hE (156, [3, 7]) ax_m1)
  rw [c_next] at F156
  have e1 : ρ 4 / 4 = pz_nx (pz_gt (ρ 0)) (pz_gN (ρ 0)) (pz_p (pz_cf (pz_gt (ρ 0)) (pz_gN (ρ 0)) (ρ 1 / 4))) := F156
  have e2 : ρ 3 / 4 = pz_at (pz_gt (ρ 0)) (pz_gN (ρ 0)) (pz_p (pz_cf (pz_gt (ρ 0)) (pz_gN (ρ 0)) (ρ 1 / 4))) := F154
  refine ⟨(fun y hy => by cases hy), _, List.mem_cons_self, ρ, fun _ _ => rfl, ax_px hE rfl (fun x hx => ?_)⟩
  cases List.mem_singleton.mp hx
  refine (ax_XF_lt (x := 161) (Nat.le_of_ble_eq_true rfl)).mpr ?_
  show pz61 (pz_gt (ρ 0)) (pz_gN (ρ 0)) ((ρ 1) / 4) ((28) / 4)
  refine pz_is_no (Or.inr (Or.inl ?_))
  show pz_nx (pz_gt (ρ 0)) (pz_gN (ρ 0)) (pz_p (pz_cf (pz_gt (ρ 0)) (pz_gN (ρ 0)) (ρ 1 / 4))) - pz_at (pz_gt (ρ 0)) (pz_gN (ρ 0)) (pz_p (pz_cf (pz_gt (ρ 0)) (pz_gN (ρ 0)) (ρ 1 / 4))) ≠ 5
  omega
theorem axq0_is1a_7 : ax_RO ax_wM0 (ax_XM 0) axu0_is1a_7 := axqg_is1a_7 ax_WW0
theorem axqg_is1b_7 {w : ax_W} {b : Nat} (hw : ax_WW w) : ax_RO w (ax_XM b) axu0_is1b_7 := by
  intro ρ hp hE hT
  have j0 : ρ 0 % 4 = 1 := pz_gj hE 0 (Nat.le_of_ble_eq_true rfl) rfl
  have j1 : ρ 1 % 4 = 1 := pz_gj hE 1 (Nat.le_of_ble_eq_true rfl) rfl
  obtain ⟨i2a, i2b, i2c, i2d⟩ := pz_gi hE 2 2147483654 2147484449 (Nat.le_of_ble_eq_true rfl) rfl
  obtain ⟨i3a, i3b, i3c, i3d⟩ := pz_gi hE 3 2147483648 2147484448 (Nat.le_of_ble_eq_true rfl) rfl
  obtain ⟨i4a, i4b, i4c, i4d⟩ := pz_gi hE 4 2147483648 2147484448 (Nat.le_of_ble_eq_true rfl) rfl
  have c_next : ay_at hp 173 13 = some (ρ 4) := ay_gfj hE 702 52 19 173 13 ax_m2 (ax_vlq rfl rfl) (ax_vlj rfl rfl)
  have c_at : ay_at hp 173 14 = some (ρ 3) := ay_gfj hE 702 56 15 173 14 ax_m3 (ax_vlq rfl rfl) (ax_vlj rfl rfl)
  have s1 : (ρ 2 / 4 + 2147483648) % 4294967296 + (ρ 3 / 4 + 2147483648) % 4294967296 = (ρ 4 / 4 + 2147483648) % 4294967296 + 2147483648 := pz_gs hE 11 15 19 ax_m4
  obtain ⟨-, F154⟩ : ay_ex hp 173 ∧ ay_ln (ay_at hp 173 14) = pz_at (pz_gt (ρ 0)) (pz_gN (ρ 0)) (pz_p (pz_cF (ρ 0) (ρ 1))) := (ax_XF_lt (x := 154) (Nat.le_of_ble_eq_true rfl)).mp (ax_gx hE (154, [3, 7]) ax_m0)
  rw [c_at] at F154
  obtain ⟨-, F156⟩ : ay_ex hp 173 ∧ ay_ln (ay_at hp 173 13) = pz_nx (pz_gt (ρ 0)) (pz_gN (ρ 0)) (pz_p (pz_cF (ρ 0) (ρ 1))) := (ax_XF_lt (x := 156) (Nat.le_of_ble_eq_true rfl)).mp (ax_gx hE (156, [3, 7]) ax_m1)
  rw [c_next] at F156
  have e1 : ρ 4 / 4 = pz_nx (pz_gt (ρ 0)) (pz_gN (ρ 0)) (pz_p (pz_cf (pz_gt (ρ 0)) (pz_gN (ρ 0)) (ρ 1 / 4))) := F156
  have e2 : ρ 3 / 4 = pz_at (pz_gt (ρ 0)) (pz_gN (ρ 0)) (pz_p (pz_cf (pz_gt (ρ 0)) (pz_gN (ρ 0)) (ρ 1 / 4))) := F154
  refine ⟨(fun y hy => by cases hy), _, List.mem_cons_self, ρ, fun _ _ => rfl, ax_px hE rfl (fun x hx => ?_)⟩
  cases List.mem_singleton.mp hx
  refine (ax_XF_lt (x := 161) (Nat.le_of_ble_eq_true rfl)).mpr ?_
  show pz61 (pz_gt (ρ 0)) (pz_gN (ρ 0)) ((ρ 1) / 4) ((28) / 4)
  refine pz_is_no (Or.inr (Or.inl ?_))
  show pz_nx (pz_gt (ρ 0)) (pz_gN (ρ 0)) (pz_p (pz_cf (pz_gt (ρ 0)) (pz_gN (ρ 0)) (ρ 1 / 4))) - pz_at (pz_gt (ρ 0)) (pz_gN (ρ 0)) (pz_p (pz_cf (pz_gt (ρ 0)) (pz_gN (ρ 0)) (ρ 1 / 4))) ≠ 5
  omega
theorem axq0_is1b_7 : ax_RO ax_wM0 (ax_XM 0) axu0_is1b_7 := axqg_is1b_7 ax_WW0
theorem axqg_is2_7 {w : ax_W} {b : Nat} (hw : ax_WW w) : ax_RO w (ax_XM b) axu0_is2_7 := by
  intro ρ hp hE hT
  have j0 : ρ 0 % 4 = 1 := pz_gj hE 0 (Nat.le_of_ble_eq_true rfl) rfl
  have j1 : ρ 1 % 4 = 1 := pz_gj hE 1 (Nat.le_of_ble_eq_true rfl) rfl
  obtain ⟨i2a, i2b, i2c, i2d⟩ := pz_gi hE 2 2147483653 2147483653 (Nat.le_of_ble_eq_true rfl) rfl
  obtain ⟨i3a, i3b, i3c, i3d⟩ := pz_gi hE 3 2147483648 2147484448 (Nat.le_of_ble_eq_true rfl) rfl
  obtain ⟨i4a, i4b, i4c, i4d⟩ := pz_gi hE 4 2147483648 2147484448 (Nat.le_of_ble_eq_true rfl) rfl
  have c_next : ay_at hp 173 13 = some (ρ 4) := ay_gfj hE 702 52 19 173 13 ax_m3 (ax_vlq rfl rfl) (ax_vlj rfl rfl)
  have c_at : ay_at hp 173 14 = some (ρ 3) := ay_gfj hE 702 56 15 173 14 ax_m4 (ax_vlq rfl rfl) (ax_vlj rfl rfl)
  have s1 : (ρ 2 / 4 + 2147483648) % 4294967296 + (ρ 3 / 4 + 2147483648) % 4294967296 = (ρ 4 / 4 + 2147483648) % 4294967296 + 2147483648 := pz_gs hE 11 15 19 ax_m5
  have F168 : pz_kd (pz_gt (ρ 0)) (pz_gN (ρ 0)) (pz_p (pz_cF (ρ 0) (ρ 1))) = (4) / 4 := (ax_XF_lt (x := 168) (Nat.le_of_ble_eq_true rfl)).mp (ax_gx hE (168, [3, 7, 4]) ax_m0)
  obtain ⟨-, F154⟩ : ay_ex hp 173 ∧ ay_ln (ay_at hp 173 14) = pz_at (pz_gt (ρ 0)) (pz_gN (ρ 0)) (pz_p (pz_cF (ρ 0) (ρ 1))) := (ax_XF_lt (x := 154) (Nat.le_of_ble_eq_true rfl)).mp (ax_gx hE (154, [3, 7]) ax_m1)
  rw [c_at] at F154
  obtain ⟨-, F156⟩ : ay_ex hp 173 ∧ ay_ln (ay_at hp 173 13) = pz_nx (pz_gt (ρ 0)) (pz_gN (ρ 0)) (pz_p (pz_cF (ρ 0) (ρ 1))) := (ax_XF_lt (x := 156) (Nat.le_of_ble_eq_true rfl)).mp (ax_gx hE (156, [3, 7]) ax_m2)
  rw [c_next] at F156
  have e1 : ρ 4 / 4 = pz_nx (pz_gt (ρ 0)) (pz_gN (ρ 0)) (pz_p (pz_cf (pz_gt (ρ 0)) (pz_gN (ρ 0)) (ρ 1 / 4))) := F156
  have e2 : ρ 3 / 4 = pz_at (pz_gt (ρ 0)) (pz_gN (ρ 0)) (pz_p (pz_cf (pz_gt (ρ 0)) (pz_gN (ρ 0)) (ρ 1 / 4))) := F154
  refine ⟨(fun y hy => by cases hy), _, List.mem_cons_self, ρ, fun _ _ => rfl, ax_px hE rfl (fun x hx => ?_)⟩
  cases List.mem_singleton.mp hx
  refine (ax_XF_lt (x := 212) (Nat.le_of_ble_eq_true rfl)).mpr ?_
  show pz_x62 (ρ 0) (ρ 1) (4028) (0)
  refine ⟨F168, ?_, fun j hj => absurd (show j < 0 from hj) (by omega)⟩
  show pz_nx (pz_gt (ρ 0)) (pz_gN (ρ 0)) (pz_p (pz_cf (pz_gt (ρ 0)) (pz_gN (ρ 0)) (ρ 1 / 4))) - pz_at (pz_gt (ρ 0)) (pz_gN (ρ 0)) (pz_p (pz_cf (pz_gt (ρ 0)) (pz_gN (ρ 0)) (ρ 1 / 4))) = 5
  omega
theorem axq0_is2_7 : ax_RO ax_wM0 (ax_XM 0) axu0_is2_7 := axqg_is2_7 ax_WW0
theorem axqg_is3_7_0 {w : ax_W} {b : Nat} (hw : ax_WW w) : ax_RO w (ax_XM b) axu0_is3_7_0 := by
  intro ρ hp hE hT
  have j0 : ρ 0 % 4 = 1 := pz_gj hE 0 (Nat.le_of_ble_eq_true rfl) rfl
  have j1 : ρ 1 % 4 = 1 := pz_gj hE 1 (Nat.le_of_ble_eq_true rfl) rfl
  obtain ⟨i2a, i2b, i2c, i2d⟩ := pz_gi hE 2 2147483648 2147484448 (Nat.le_of_ble_eq_true rfl) rfl
  obtain ⟨i3a, i3b, i3c, i3d⟩ := pz_gi hE 3 0 4294967295 (Nat.le_of_ble_eq_true rfl) rfl
  obtain ⟨i4a, i4b, i4c, i4d⟩ := pz_gi hE 4 2147483756 2147483756 (Nat.le_of_ble_eq_true rfl) rfl
  have c_at : ay_at hp 173 14 = some (ρ 2) := ay_gfj hE 702 56 11 173 14 ax_m2 (ax_vlq rfl rfl) (ax_vlj rfl rfl)
  have s1 : (ρ 2 / 4 + 2147483648) % 4294967296 + (0 / 4 + 2147483648) % 4294967296 = (ρ 3 / 4 + 2147483648) % 4294967296 + 2147483648 := pz_gs hE 11 0 15 ax_m3
  have c_tape : ay_at hp 183 (ρ 3 / 4) = some (ρ 4) := ay_gf hE 742 15 19 183 ax_m4 (ax_vlq rfl rfl)
  obtain ⟨-, -, F131⟩ : ay_ex hp 173 ∧ ay_ex hp 183 ∧ pz_x30 (ρ 0) (ay_at hp 173 12) (ay_at hp 183) := (ax_XF_lt (x := 131) (Nat.le_of_ble_eq_true rfl)).mp (ax_gx hE (131, [3]) ax_m0)
  obtain ⟨-, F154⟩ : ay_ex hp 173 ∧ ay_ln (ay_at hp 173 14) = pz_at (pz_gt (ρ 0)) (pz_gN (ρ 0)) (pz_p (pz_cF (ρ 0) (ρ 1))) := (ax_XF_lt (x := 154) (Nat.le_of_ble_eq_true rfl)).mp (ax_gx hE (154, [3, 7]) ax_m1)
  rw [c_at] at F154
  have F212 : pz_x62 (ρ 0) (ρ 1) (4028) (0) := (ax_XF_lt (x := 212) (Nat.le_of_ble_eq_true rfl)).mp (ax_gx hE (212, [3, 7, 4028, 0]) ax_m5)
  have ep : ρ 2 / 4 = pz_at (pz_gt (ρ 0)) (pz_gN (ρ 0)) (pz_p (pz_cf (pz_gt (ρ 0)) (pz_gN (ρ 0)) (ρ 1 / 4))) := F154
  have hw : pz_at (pz_gt (ρ 0)) (pz_gN (ρ 0)) (pz_p (pz_cf (pz_gt (ρ 0)) (pz_gN (ρ 0)) (ρ 1 / 4))) < pz_gN (ρ 0) ∧ pz_nx (pz_gt (ρ 0)) (pz_gN (ρ 0)) (pz_p (pz_cf (pz_gt (ρ 0)) (pz_gN (ρ 0)) (ρ 1 / 4))) ≤ pz_gN (ρ 0) := pz_wd_le F212.1
  have hln : pz_nx (pz_gt (ρ 0)) (pz_gN (ρ 0)) (pz_p (pz_cf (pz_gt (ρ 0)) (pz_gN (ρ 0)) (ρ 1 / 4))) - pz_at (pz_gt (ρ 0)) (pz_gN (ρ 0)) (pz_p (pz_cf (pz_gt (ρ 0)) (pz_gN (ρ 0)) (ρ 1 / 4))) = 5 := F212.2.1
  have ha1 := (pz_ps 0 800 i2b i2c i2d (by decide))
  have hq1 : ρ 3 / 4 = ρ 2 / 4 + 0 := pz_sm (by omega) (by decide) i3b s1
  have hb := F131.2.2 (ρ 3 / 4) (by have := hw.2; omega)
  rw [c_tape] at hb
  have hb := Option.some.inj hb
  rw [show ρ 3 / 4 = pz_at (pz_gt (ρ 0)) (pz_gN (ρ 0)) (pz_p (pz_cf (pz_gt (ρ 0)) (pz_gN (ρ 0)) (ρ 1 / 4))) + 0 by omega] at hb
  have hb2 : pz_b (pz_gt (ρ 0)) (pz_at (pz_gt (ρ 0)) (pz_gN (ρ 0)) (pz_p (pz_cf (pz_gt (ρ 0)) (pz_gN (ρ 0)) (ρ 1 / 4))) + 0) = ρ 4 / 4 := by omega
  refine ⟨(fun y hy => by cases hy), _, List.mem_cons_self, ρ, fun _ _ => rfl, ax_px hE rfl (fun x hx => ?_)⟩
  cases List.mem_singleton.mp hx
  refine (ax_XF_lt (x := 212) (Nat.le_of_ble_eq_true rfl)).mpr ?_
  show pz_x62 (ρ 0) (ρ 1) (4028) (4)
  refine ⟨F212.1, F212.2.1, fun i hi => ?_⟩
  replace hi : i < 1 := hi
  by_cases h : i < 0
  · exact F212.2.2 i h
  · have e : i = 0 := by omega
    subst e
    exact hb2.trans (show ρ 4 / 4 = 108 by omega)
theorem axq0_is3_7_0 : ax_RO ax_wM0 (ax_XM 0) axu0_is3_7_0 := axqg_is3_7_0 ax_WW0
theorem axqg_is4a_7_0 {w : ax_W} {b : Nat} (hw : ax_WW w) : ax_RO w (ax_XM b) axu0_is4a_7_0 := by
  intro ρ hp hE hT
  have j0 : ρ 0 % 4 = 1 := pz_gj hE 0 (Nat.le_of_ble_eq_true rfl) rfl
  have j1 : ρ 1 % 4 = 1 := pz_gj hE 1 (Nat.le_of_ble_eq_true rfl) rfl
  obtain ⟨i2a, i2b, i2c, i2d⟩ := pz_gi hE 2 2147483648 2147484448 (Nat.le_of_ble_eq_true rfl) rfl
  obtain ⟨i3a, i3b, i3c, i3d⟩ := pz_gi hE 3 0 4294967295 (Nat.le_of_ble_eq_true rfl) rfl
  obtain ⟨i4a, i4b, i4c, i4d⟩ := pz_gi hE 4 2147483520 2147483755 (Nat.le_of_ble_eq_true rfl) rfl
  have c_at : ay_at hp 173 14 = some (ρ 2) := ay_gfj hE 702 56 11 173 14 ax_m2 (ax_vlq rfl rfl) (ax_vlj rfl rfl)
  have s1 : (ρ 2 / 4 + 2147483648) % 4294967296 + (0 / 4 + 2147483648) % 4294967296 = (ρ 3 / 4 + 2147483648) % 4294967296 + 2147483648 := pz_gs hE 11 0 15 ax_m3
  have c_tape : ay_at hp 183 (ρ 3 / 4) = some (ρ 4) := ay_gf hE 742 15 19 183 ax_m4 (ax_vlq rfl rfl)
  obtain ⟨-, -, F131⟩ : ay_ex hp 173 ∧ ay_ex hp 183 ∧ pz_x30 (ρ 0) (ay_at hp 173 12) (ay_at hp 183) := (ax_XF_lt (x := 131) (Nat.le_of_ble_eq_true rfl)).mp (ax_gx hE (131, [3]) ax_m0)
  obtain ⟨-, F154⟩ : ay_ex hp 173 ∧ ay_ln (ay_at hp 173 14) = pz_at (pz_gt (ρ 0)) (pz_gN (ρ 0)) (pz_p (pz_cF (ρ 0) (ρ 1))) := (ax_XF_lt (x := 154) (Nat.le_of_ble_eq_true rfl)).mp (ax_gx hE (154, [3, 7]) ax_m1)
  rw [c_at] at F154
  have F212 : pz_x62 (ρ 0) (ρ 1) (4028) (0) := (ax_XF_lt (x := 212) (Nat.le_of_ble_eq_true rfl)).mp (ax_gx hE (212, [3, 7, 4028, 0]) ax_m5)
  have ep : ρ 2 / 4 = pz_at (pz_gt (ρ 0)) (pz_gN (ρ 0)) (pz_p (pz_cf (pz_gt (ρ 0)) (pz_gN (ρ 0)) (ρ 1 / 4))) := F154
  have hw : pz_at (pz_gt (ρ 0)) (pz_gN (ρ 0)) (pz_p (pz_cf (pz_gt (ρ 0)) (pz_gN (ρ 0)) (ρ 1 / 4))) < pz_gN (ρ 0) ∧ pz_nx (pz_gt (ρ 0)) (pz_gN (ρ 0)) (pz_p (pz_cf (pz_gt (ρ 0)) (pz_gN (ρ 0)) (ρ 1 / 4))) ≤ pz_gN (ρ 0) := pz_wd_le F212.1
  have hln : pz_nx (pz_gt (ρ 0)) (pz_gN (ρ 0)) (pz_p (pz_cf (pz_gt (ρ 0)) (pz_gN (ρ 0)) (ρ 1 / 4))) - pz_at (pz_gt (ρ 0)) (pz_gN (ρ 0)) (pz_p (pz_cf (pz_gt (ρ 0)) (pz_gN (ρ 0)) (ρ 1 / 4))) = 5 := F212.2.1
  have ha1 := (pz_ps 0 800 i2b i2c i2d (by decide))
  have hq1 : ρ 3 / 4 = ρ 2 / 4 + 0 := pz_sm (by omega) (by decide) i3b s1
  have hb := F131.2.2 (ρ 3 / 4) (by have := hw.2; omega)
  rw [c_tape] at hb
  have hb := Option.some.inj hb
  rw [show ρ 3 / 4 = pz_at (pz_gt (ρ 0)) (pz_gN (ρ 0)) (pz_p (pz_cf (pz_gt (ρ 0)) (pz_gN (ρ 0)) (ρ 1 / 4))) + 0 by omega] at hb
  have hb2 : pz_b (pz_gt (ρ 0)) (pz_at (pz_gt (ρ 0)) (pz_gN (ρ 0)) (pz_p (pz_cf (pz_gt (ρ 0)) (pz_gN (ρ 0)) (ρ 1 / 4))) + 0) = ρ 4 / 4 := by omega
  refine ⟨(fun y hy => by cases hy), _, List.mem_cons_self, ρ, fun _ _ => rfl, ax_px hE rfl (fun x hx => ?_)⟩
  cases List.mem_singleton.mp hx
  refine (ax_XF_lt (x := 161) (Nat.le_of_ble_eq_true rfl)).mpr ?_
  show pz61 (pz_gt (ρ 0)) (pz_gN (ρ 0)) ((ρ 1) / 4) ((28) / 4)
  refine pz_is_no (Or.inr (Or.inr ⟨0, by decide, fun z => ?_⟩))
  have z2 : ρ 4 / 4 = 108 := hb2.symm.trans z
  omega
theorem axq0_is4a_7_0 : ax_RO ax_wM0 (ax_XM 0) axu0_is4a_7_0 := axqg_is4a_7_0 ax_WW0
theorem axqg_is4b_7_0 {w : ax_W} {b : Nat} (hw : ax_WW w) : ax_RO w (ax_XM b) axu0_is4b_7_0 := by
  intro ρ hp hE hT
  have j0 : ρ 0 % 4 = 1 := pz_gj hE 0 (Nat.le_of_ble_eq_true rfl) rfl
  have j1 : ρ 1 % 4 = 1 := pz_gj hE 1 (Nat.le_of_ble_eq_true rfl) rfl
  obtain ⟨i2a, i2b, i2c, i2d⟩ := pz_gi hE 2 2147483648 2147484448 (Nat.le_of_ble_eq_true rfl) rfl
  obtain ⟨i3a, i3b, i3c, i3d⟩ := pz_gi hE 3 0 4294967295 (Nat.le_of_ble_eq_true rfl) rfl
  obtain ⟨i4a, i4b, i4c, i4d⟩ := pz_gi hE 4 2147483757 2147483775 (Nat.le_of_ble_eq_true rfl) rfl
  have c_at : ay_at hp 173 14 = some (ρ 2) := ay_gfj hE 702 56 11 173 14 ax_m2 (ax_vlq rfl rfl) (ax_vlj rfl rfl)
  have s1 : (ρ 2 / 4 + 2147483648) % 4294967296 + (0 / 4 + 2147483648) % 4294967296 = (ρ 3 / 4 + 2147483648) % 4294967296 + 2147483648 := pz_gs hE 11 0 15 ax_m3
  have c_tape : ay_at hp 183 (ρ 3 / 4) = some (ρ 4) := ay_gf hE 742 15 19 183 ax_m4 (ax_vlq rfl rfl)
  obtain ⟨-, -, F131⟩ : ay_ex hp 173 ∧ ay_ex hp 183 ∧ pz_x30 (ρ 0) (ay_at hp 173 12) (ay_at hp 183) := (ax_XF_lt (x := 131) (Nat.le_of_ble_eq_true rfl)).mp (ax_gx hE (131, [3]) ax_m0)
  obtain ⟨-, F154⟩ : ay_ex hp 173 ∧ ay_ln (ay_at hp 173 14) = pz_at (pz_gt (ρ 0)) (pz_gN (ρ 0)) (pz_p (pz_cF (ρ 0) (ρ 1))) := (ax_XF_lt (x := 154) (Nat.le_of_ble_eq_true rfl)).mp (ax_gx hE (154, [3, 7]) ax_m1)
  rw [c_at] at F154
  have F212 : pz_x62 (ρ 0) (ρ 1) (4028) (0) := (ax_XF_lt (x := 212) (Nat.le_of_ble_eq_true rfl)).mp (ax_gx hE (212, [3, 7, 4028, 0]) ax_m5)
  have ep : ρ 2 / 4 = pz_at (pz_gt (ρ 0)) (pz_gN (ρ 0)) (pz_p (pz_cf (pz_gt (ρ 0)) (pz_gN (ρ 0)) (ρ 1 / 4))) := F154
  have hw : pz_at (pz_gt (ρ 0)) (pz_gN (ρ 0)) (pz_p (pz_cf (pz_gt (ρ 0)) (pz_gN (ρ 0)) (ρ 1 / 4))) < pz_gN (ρ 0) ∧ pz_nx (pz_gt (ρ 0)) (pz_gN (ρ 0)) (pz_p (pz_cf (pz_gt (ρ 0)) (pz_gN (ρ 0)) (ρ 1 / 4))) ≤ pz_gN (ρ 0) := pz_wd_le F212.1
  have hln : pz_nx (pz_gt (ρ 0)) (pz_gN (ρ 0)) (pz_p (pz_cf (pz_gt (ρ 0)) (pz_gN (ρ 0)) (ρ 1 / 4))) - pz_at (pz_gt (ρ 0)) (pz_gN (ρ 0)) (pz_p (pz_cf (pz_gt (ρ 0)) (pz_gN (ρ 0)) (ρ 1 / 4))) = 5 := F212.2.1
  have ha1 := (pz_ps 0 800 i2b i2c i2d (by decide))
  have hq1 : ρ 3 / 4 = ρ 2 / 4 + 0 := pz_sm (by omega) (by decide) i3b s1
  have hb := F131.2.2 (ρ 3 / 4) (by have := hw.2; omega)
  rw [c_tape] at hb
  have hb := Option.some.inj hb
  rw [show ρ 3 / 4 = pz_at (pz_gt (ρ 0)) (pz_gN (ρ 0)) (pz_p (pz_cf (pz_gt (ρ 0)) (pz_gN (ρ 0)) (ρ 1 / 4))) + 0 by omega] at hb
  have hb2 : pz_b (pz_gt (ρ 0)) (pz_at (pz_gt (ρ 0)) (pz_gN (ρ 0)) (pz_p (pz_cf (pz_gt (ρ 0)) (pz_gN (ρ 0)) (ρ 1 / 4))) + 0) = ρ 4 / 4 := by omega
  refine ⟨(fun y hy => by cases hy), _, List.mem_cons_self, ρ, fun _ _ => rfl, ax_px hE rfl (fun x hx => ?_)⟩
  cases List.mem_singleton.mp hx
  refine (ax_XF_lt (x := 161) (Nat.le_of_ble_eq_true rfl)).mpr ?_
  show pz61 (pz_gt (ρ 0)) (pz_gN (ρ 0)) ((ρ 1) / 4) ((28) / 4)
  refine pz_is_no (Or.inr (Or.inr ⟨0, by decide, fun z => ?_⟩))
  have z2 : ρ 4 / 4 = 108 := hb2.symm.trans z
  omega
theorem axq0_is4b_7_0 : ax_RO ax_wM0 (ax_XM 0) axu0_is4b_7_0 := axqg_is4b_7_0 ax_WW0
theorem axqg_is3_7_1 {w : ax_W} {b : Nat} (hw : ax_WW w) : ax_RO w (ax_XM b) axu0_is3_7_1 := by
  intro ρ hp hE hT
  have j0 : ρ 0 % 4 = 1 := pz_gj hE 0 (Nat.le_of_ble_eq_true rfl) rfl
  have j1 : ρ 1 % 4 = 1 := pz_gj hE 1 (Nat.le_of_ble_eq_true rfl) rfl
  obtain ⟨i2a, i2b, i2c, i2d⟩ := pz_gi hE 2 2147483648 2147484448 (Nat.le_of_ble_eq_true rfl) rfl
  obtain ⟨i3a, i3b, i3c, i3d⟩ := pz_gi hE 3 0 4294967295 (Nat.le_of_ble_eq_true rfl) rfl
  obtain ⟨i4a, i4b, i4c, i4d⟩ := pz_gi hE 4 2147483753 2147483753 (Nat.le_of_ble_eq_true rfl) rfl
  have c_at : ay_at hp 173 14 = some (ρ 2) := ay_gfj hE 702 56 11 173 14 ax_m2 (ax_vlq rfl rfl) (ax_vlj rfl rfl)
  have s1 : (ρ 2 / 4 + 2147483648) % 4294967296 + (4 / 4 + 2147483648) % 4294967296 = (ρ 3 / 4 + 2147483648) % 4294967296 + 2147483648 := pz_gs hE 11 4 15 ax_m3
  have c_tape : ay_at hp 183 (ρ 3 / 4) = some (ρ 4) := ay_gf hE 742 15 19 183 ax_m4 (ax_vlq rfl rfl)
  obtain ⟨-, -, F131⟩ : ay_ex hp 173 ∧ ay_ex hp 183 ∧ pz_x30 (ρ 0) (ay_at hp 173 12) (ay_at hp 183) := (ax_XF_lt (x := 131) (Nat.le_of_ble_eq_true rfl)).mp (ax_gx hE (131, [3]) ax_m0)
  obtain ⟨-, F154⟩ : ay_ex hp 173 ∧ ay_ln (ay_at hp 173 14) = pz_at (pz_gt (ρ 0)) (pz_gN (ρ 0)) (pz_p (pz_cF (ρ 0) (ρ 1))) := (ax_XF_lt (x := 154) (Nat.le_of_ble_eq_true rfl)).mp (ax_gx hE (154, [3, 7]) ax_m1)
  rw [c_at] at F154
  have F212 : pz_x62 (ρ 0) (ρ 1) (4028) (4) := (ax_XF_lt (x := 212) (Nat.le_of_ble_eq_true rfl)).mp (ax_gx hE (212, [3, 7, 4028, 4]) ax_m5)
  have ep : ρ 2 / 4 = pz_at (pz_gt (ρ 0)) (pz_gN (ρ 0)) (pz_p (pz_cf (pz_gt (ρ 0)) (pz_gN (ρ 0)) (ρ 1 / 4))) := F154
  have hw : pz_at (pz_gt (ρ 0)) (pz_gN (ρ 0)) (pz_p (pz_cf (pz_gt (ρ 0)) (pz_gN (ρ 0)) (ρ 1 / 4))) < pz_gN (ρ 0) ∧ pz_nx (pz_gt (ρ 0)) (pz_gN (ρ 0)) (pz_p (pz_cf (pz_gt (ρ 0)) (pz_gN (ρ 0)) (ρ 1 / 4))) ≤ pz_gN (ρ 0) := pz_wd_le F212.1
  have hln : pz_nx (pz_gt (ρ 0)) (pz_gN (ρ 0)) (pz_p (pz_cf (pz_gt (ρ 0)) (pz_gN (ρ 0)) (ρ 1 / 4))) - pz_at (pz_gt (ρ 0)) (pz_gN (ρ 0)) (pz_p (pz_cf (pz_gt (ρ 0)) (pz_gN (ρ 0)) (ρ 1 / 4))) = 5 := F212.2.1
  have ha1 := (pz_ps 0 800 i2b i2c i2d (by decide))
  have hq1 : ρ 3 / 4 = ρ 2 / 4 + 1 := pz_sm (by omega) (by decide) i3b s1
  have hb := F131.2.2 (ρ 3 / 4) (by have := hw.2; omega)
  rw [c_tape] at hb
  have hb := Option.some.inj hb
  rw [show ρ 3 / 4 = pz_at (pz_gt (ρ 0)) (pz_gN (ρ 0)) (pz_p (pz_cf (pz_gt (ρ 0)) (pz_gN (ρ 0)) (ρ 1 / 4))) + 1 by omega] at hb
  have hb2 : pz_b (pz_gt (ρ 0)) (pz_at (pz_gt (ρ 0)) (pz_gN (ρ 0)) (pz_p (pz_cf (pz_gt (ρ 0)) (pz_gN (ρ 0)) (ρ 1 / 4))) + 1) = ρ 4 / 4 := by omega
  refine ⟨(fun y hy => by cases hy), _, List.mem_cons_self, ρ, fun _ _ => rfl, ax_px hE rfl (fun x hx => ?_)⟩
  cases List.mem_singleton.mp hx
  refine (ax_XF_lt (x := 212) (Nat.le_of_ble_eq_true rfl)).mpr ?_
  show pz_x62 (ρ 0) (ρ 1) (4028) (8)
  refine ⟨F212.1, F212.2.1, fun i hi => ?_⟩
  replace hi : i < 2 := hi
  by_cases h : i < 1
  · exact F212.2.2 i h
  · have e : i = 1 := by omega
    subst e
    exact hb2.trans (show ρ 4 / 4 = 105 by omega)
theorem axq0_is3_7_1 : ax_RO ax_wM0 (ax_XM 0) axu0_is3_7_1 := axqg_is3_7_1 ax_WW0
theorem axqg_is4a_7_1 {w : ax_W} {b : Nat} (hw : ax_WW w) : ax_RO w (ax_XM b) axu0_is4a_7_1 := by
  intro ρ hp hE hT
  have j0 : ρ 0 % 4 = 1 := pz_gj hE 0 (Nat.le_of_ble_eq_true rfl) rfl
  have j1 : ρ 1 % 4 = 1 := pz_gj hE 1 (Nat.le_of_ble_eq_true rfl) rfl
  obtain ⟨i2a, i2b, i2c, i2d⟩ := pz_gi hE 2 2147483648 2147484448 (Nat.le_of_ble_eq_true rfl) rfl
  obtain ⟨i3a, i3b, i3c, i3d⟩ := pz_gi hE 3 0 4294967295 (Nat.le_of_ble_eq_true rfl) rfl
  obtain ⟨i4a, i4b, i4c, i4d⟩ := pz_gi hE 4 2147483520 2147483752 (Nat.le_of_ble_eq_true rfl) rfl
  have c_at : ay_at hp 173 14 = some (ρ 2) := ay_gfj hE 702 56 11 173 14 ax_m2 (ax_vlq rfl rfl) (ax_vlj rfl rfl)
  have s1 : (ρ 2 / 4 + 2147483648) % 4294967296 + (4 / 4 + 2147483648) % 4294967296 = (ρ 3 / 4 + 2147483648) % 4294967296 + 2147483648 := pz_gs hE 11 4 15 ax_m3
  have c_tape : ay_at hp 183 (ρ 3 / 4) = some (ρ 4) := ay_gf hE 742 15 19 183 ax_m4 (ax_vlq rfl rfl)
  obtain ⟨-, -, F131⟩ : ay_ex hp 173 ∧ ay_ex hp 183 ∧ pz_x30 (ρ 0) (ay_at hp 173 12) (ay_at hp 183) := (ax_XF_lt (x := 131) (Nat.le_of_ble_eq_true rfl)).mp (ax_gx hE (131, [3]) ax_m0)
  obtain ⟨-, F154⟩ : ay_ex hp 173 ∧ ay_ln (ay_at hp 173 14) = pz_at (pz_gt (ρ 0)) (pz_gN (ρ 0)) (pz_p (pz_cF (ρ 0) (ρ 1))) := (ax_XF_lt (x := 154) (Nat.le_of_ble_eq_true rfl)).mp (ax_gx hE (154, [3, 7]) ax_m1)
  rw [c_at] at F154
  have F212 : pz_x62 (ρ 0) (ρ 1) (4028) (4) := (ax_XF_lt (x := 212) (Nat.le_of_ble_eq_true rfl)).mp (ax_gx hE (212, [3, 7, 4028, 4]) ax_m5)
  have ep : ρ 2 / 4 = pz_at (pz_gt (ρ 0)) (pz_gN (ρ 0)) (pz_p (pz_cf (pz_gt (ρ 0)) (pz_gN (ρ 0)) (ρ 1 / 4))) := F154
  have hw : pz_at (pz_gt (ρ 0)) (pz_gN (ρ 0)) (pz_p (pz_cf (pz_gt (ρ 0)) (pz_gN (ρ 0)) (ρ 1 / 4))) < pz_gN (ρ 0) ∧ pz_nx (pz_gt (ρ 0)) (pz_gN (ρ 0)) (pz_p (pz_cf (pz_gt (ρ 0)) (pz_gN (ρ 0)) (ρ 1 / 4))) ≤ pz_gN (ρ 0) := pz_wd_le F212.1
  have hln : pz_nx (pz_gt (ρ 0)) (pz_gN (ρ 0)) (pz_p (pz_cf (pz_gt (ρ 0)) (pz_gN (ρ 0)) (ρ 1 / 4))) - pz_at (pz_gt (ρ 0)) (pz_gN (ρ 0)) (pz_p (pz_cf (pz_gt (ρ 0)) (pz_gN (ρ 0)) (ρ 1 / 4))) = 5 := F212.2.1
  have ha1 := (pz_ps 0 800 i2b i2c i2d (by decide))
  have hq1 : ρ 3 / 4 = ρ 2 / 4 + 1 := pz_sm (by omega) (by decide) i3b s1
  have hb := F131.2.2 (ρ 3 / 4) (by have := hw.2; omega)
  rw [c_tape] at hb
  have hb := Option.some.inj hb
  rw [show ρ 3 / 4 = pz_at (pz_gt (ρ 0)) (pz_gN (ρ 0)) (pz_p (pz_cf (pz_gt (ρ 0)) (pz_gN (ρ 0)) (ρ 1 / 4))) + 1 by omega] at hb
  have hb2 : pz_b (pz_gt (ρ 0)) (pz_at (pz_gt (ρ 0)) (pz_gN (ρ 0)) (pz_p (pz_cf (pz_gt (ρ 0)) (pz_gN (ρ 0)) (ρ 1 / 4))) + 1) = ρ 4 / 4 := by omega
  refine ⟨(fun y hy => by cases hy), _, List.mem_cons_self, ρ, fun _ _ => rfl, ax_px hE rfl (fun x hx => ?_)⟩
  cases List.mem_singleton.mp hx
  refine (ax_XF_lt (x := 161) (Nat.le_of_ble_eq_true rfl)).mpr ?_
  show pz61 (pz_gt (ρ 0)) (pz_gN (ρ 0)) ((ρ 1) / 4) ((28) / 4)
  refine pz_is_no (Or.inr (Or.inr ⟨1, by decide, fun z => ?_⟩))
  have z2 : ρ 4 / 4 = 105 := hb2.symm.trans z
  omega
theorem axq0_is4a_7_1 : ax_RO ax_wM0 (ax_XM 0) axu0_is4a_7_1 := axqg_is4a_7_1 ax_WW0
theorem axqg_is4b_7_1 {w : ax_W} {b : Nat} (hw : ax_WW w) : ax_RO w (ax_XM b) axu0_is4b_7_1 := by
  intro ρ hp hE hT
  have j0 : ρ 0 % 4 = 1 := pz_gj hE 0 (Nat.le_of_ble_eq_true rfl) rfl
  have j1 : ρ 1 % 4 = 1 := pz_gj hE 1 (Nat.le_of_ble_eq_true rfl) rfl
  obtain ⟨i2a, i2b, i2c, i2d⟩ := pz_gi hE 2 2147483648 2147484448 (Nat.le_of_ble_eq_true rfl) rfl
  obtain ⟨i3a, i3b, i3c, i3d⟩ := pz_gi hE 3 0 4294967295 (Nat.le_of_ble_eq_true rfl) rfl
  obtain ⟨i4a, i4b, i4c, i4d⟩ := pz_gi hE 4 2147483754 2147483775 (Nat.le_of_ble_eq_true rfl) rfl
  have c_at : ay_at hp 173 14 = some (ρ 2) := ay_gfj hE 702 56 11 173 14 ax_m2 (ax_vlq rfl rfl) (ax_vlj rfl rfl)
  have s1 : (ρ 2 / 4 + 2147483648) % 4294967296 + (4 / 4 + 2147483648) % 4294967296 = (ρ 3 / 4 + 2147483648) % 4294967296 + 2147483648 := pz_gs hE 11 4 15 ax_m3
  have c_tape : ay_at hp 183 (ρ 3 / 4) = some (ρ 4) := ay_gf hE 742 15 19 183 ax_m4 (ax_vlq rfl rfl)
  obtain ⟨-, -, F131⟩ : ay_ex hp 173 ∧ ay_ex hp 183 ∧ pz_x30 (ρ 0) (ay_at hp 173 12) (ay_at hp 183) := (ax_XF_lt (x := 131) (Nat.le_of_ble_eq_true rfl)).mp (ax_gx hE (131, [3]) ax_m0)
  obtain ⟨-, F154⟩ : ay_ex hp 173 ∧ ay_ln (ay_at hp 173 14) = pz_at (pz_gt (ρ 0)) (pz_gN (ρ 0)) (pz_p (pz_cF (ρ 0) (ρ 1))) := (ax_XF_lt (x := 154) (Nat.le_of_ble_eq_true rfl)).mp (ax_gx hE (154, [3, 7]) ax_m1)
  rw [c_at] at F154
  have F212 : pz_x62 (ρ 0) (ρ 1) (4028) (4) := (ax_XF_lt (x := 212) (Nat.le_of_ble_eq_true rfl)).mp (ax_gx hE (212, [3, 7, 4028, 4]) ax_m5)
  have ep : ρ 2 / 4 = pz_at (pz_gt (ρ 0)) (pz_gN (ρ 0)) (pz_p (pz_cf (pz_gt (ρ 0)) (pz_gN (ρ 0)) (ρ 1 / 4))) := F154
  have hw : pz_at (pz_gt (ρ 0)) (pz_gN (ρ 0)) (pz_p (pz_cf (pz_gt (ρ 0)) (pz_gN (ρ 0)) (ρ 1 / 4))) < pz_gN (ρ 0) ∧ pz_nx (pz_gt (ρ 0)) (pz_gN (ρ 0)) (pz_p (pz_cf (pz_gt (ρ 0)) (pz_gN (ρ 0)) (ρ 1 / 4))) ≤ pz_gN (ρ 0) := pz_wd_le F212.1
  have hln : pz_nx (pz_gt (ρ 0)) (pz_gN (ρ 0)) (pz_p (pz_cf (pz_gt (ρ 0)) (pz_gN (ρ 0)) (ρ 1 / 4))) - pz_at (pz_gt (ρ 0)) (pz_gN (ρ 0)) (pz_p (pz_cf (pz_gt (ρ 0)) (pz_gN (ρ 0)) (ρ 1 / 4))) = 5 := F212.2.1
  have ha1 := (pz_ps 0 800 i2b i2c i2d (by decide))
  have hq1 : ρ 3 / 4 = ρ 2 / 4 + 1 := pz_sm (by omega) (by decide) i3b s1
  have hb := F131.2.2 (ρ 3 / 4) (by have := hw.2; omega)
  rw [c_tape] at hb
  have hb := Option.some.inj hb
  rw [show ρ 3 / 4 = pz_at (pz_gt (ρ 0)) (pz_gN (ρ 0)) (pz_p (pz_cf (pz_gt (ρ 0)) (pz_gN (ρ 0)) (ρ 1 / 4))) + 1 by omega] at hb
  have hb2 : pz_b (pz_gt (ρ 0)) (pz_at (pz_gt (ρ 0)) (pz_gN (ρ 0)) (pz_p (pz_cf (pz_gt (ρ 0)) (pz_gN (ρ 0)) (ρ 1 / 4))) + 1) = ρ 4 / 4 := by omega
  refine ⟨(fun y hy => by cases hy), _, List.mem_cons_self, ρ, fun _ _ => rfl, ax_px hE rfl (fun x hx => ?_)⟩
  cases List.mem_singleton.mp hx
  refine (ax_XF_lt (x := 161) (Nat.le_of_ble_eq_true rfl)).mpr ?_
  show pz61 (pz_gt (ρ 0)) (pz_gN (ρ 0)) ((ρ 1) / 4) ((28) / 4)
  refine pz_is_no (Or.inr (Or.inr ⟨1, by decide, fun z => ?_⟩))
  have z2 : ρ 4 / 4 = 105 := hb2.symm.trans z
  omega
theorem axq0_is4b_7_1 : ax_RO ax_wM0 (ax_XM 0) axu0_is4b_7_1 := axqg_is4b_7_1 ax_WW0
theorem axqg_is3_7_2 {w : ax_W} {b : Nat} (hw : ax_WW w) : ax_RO w (ax_XM b) axu0_is3_7_2 := by
  intro ρ hp hE hT
  have j0 : ρ 0 % 4 = 1 := pz_gj hE 0 (Nat.le_of_ble_eq_true rfl) rfl
  have j1 : ρ 1 % 4 = 1 := pz_gj hE 1 (Nat.le_of_ble_eq_true rfl) rfl
  obtain ⟨i2a, i2b, i2c, i2d⟩ := pz_gi hE 2 2147483648 2147484448 (Nat.le_of_ble_eq_true rfl) rfl
  obtain ⟨i3a, i3b, i3c, i3d⟩ := pz_gi hE 3 0 4294967295 (Nat.le_of_ble_eq_true rfl) rfl
  obtain ⟨i4a, i4b, i4c, i4d⟩ := pz_gi hE 4 2147483758 2147483758 (Nat.le_of_ble_eq_true rfl) rfl
  have c_at : ay_at hp 173 14 = some (ρ 2) := ay_gfj hE 702 56 11 173 14 ax_m2 (ax_vlq rfl rfl) (ax_vlj rfl rfl)
  have s1 : (ρ 2 / 4 + 2147483648) % 4294967296 + (8 / 4 + 2147483648) % 4294967296 = (ρ 3 / 4 + 2147483648) % 4294967296 + 2147483648 := pz_gs hE 11 8 15 ax_m3
  have c_tape : ay_at hp 183 (ρ 3 / 4) = some (ρ 4) := ay_gf hE 742 15 19 183 ax_m4 (ax_vlq rfl rfl)
  obtain ⟨-, -, F131⟩ : ay_ex hp 173 ∧ ay_ex hp 183 ∧ pz_x30 (ρ 0) (ay_at hp 173 12) (ay_at hp 183) := (ax_XF_lt (x := 131) (Nat.le_of_ble_eq_true rfl)).mp (ax_gx hE (131, [3]) ax_m0)
  obtain ⟨-, F154⟩ : ay_ex hp 173 ∧ ay_ln (ay_at hp 173 14) = pz_at (pz_gt (ρ 0)) (pz_gN (ρ 0)) (pz_p (pz_cF (ρ 0) (ρ 1))) := (ax_XF_lt (x := 154) (Nat.le_of_ble_eq_true rfl)).mp (ax_gx hE (154, [3, 7]) ax_m1)
  rw [c_at] at F154
  have F212 : pz_x62 (ρ 0) (ρ 1) (4028) (8) := (ax_XF_lt (x := 212) (Nat.le_of_ble_eq_true rfl)).mp (ax_gx hE (212, [3, 7, 4028, 8]) ax_m5)
  have ep : ρ 2 / 4 = pz_at (pz_gt (ρ 0)) (pz_gN (ρ 0)) (pz_p (pz_cf (pz_gt (ρ 0)) (pz_gN (ρ 0)) (ρ 1 / 4))) := F154
  have hw : pz_at (pz_gt (ρ 0)) (pz_gN (ρ 0)) (pz_p (pz_cf (pz_gt (ρ 0)) (pz_gN (ρ 0)) (ρ 1 / 4))) < pz_gN (ρ 0) ∧ pz_nx (pz_gt (ρ 0)) (pz_gN (ρ 0)) (pz_p (pz_cf (pz_gt (ρ 0)) (pz_gN (ρ 0)) (ρ 1 / 4))) ≤ pz_gN (ρ 0) := pz_wd_le F212.1
  have hln : pz_nx (pz_gt (ρ 0)) (pz_gN (ρ 0)) (pz_p (pz_cf (pz_gt (ρ 0)) (pz_gN (ρ 0)) (ρ 1 / 4))) - pz_at (pz_gt (ρ 0)) (pz_gN (ρ 0)) (pz_p (pz_cf (pz_gt (ρ 0)) (pz_gN (ρ 0)) (ρ 1 / 4))) = 5 := F212.2.1
  have ha1 := (pz_ps 0 800 i2b i2c i2d (by decide))
  have hq1 : ρ 3 / 4 = ρ 2 / 4 + 2 := pz_sm (by omega) (by decide) i3b s1
  have hb := F131.2.2 (ρ 3 / 4) (by have := hw.2; omega)
  rw [c_tape] at hb
  have hb := Option.some.inj hb
  rw [show ρ 3 / 4 = pz_at (pz_gt (ρ 0)) (pz_gN (ρ 0)) (pz_p (pz_cf (pz_gt (ρ 0)) (pz_gN (ρ 0)) (ρ 1 / 4))) + 2 by omega] at hb
  have hb2 : pz_b (pz_gt (ρ 0)) (pz_at (pz_gt (ρ 0)) (pz_gN (ρ 0)) (pz_p (pz_cf (pz_gt (ρ 0)) (pz_gN (ρ 0)) (ρ 1 / 4))) + 2) = ρ 4 / 4 := by omega
  refine ⟨(fun y hy => by cases hy), _, List.mem_cons_self, ρ, fun _ _ => rfl, ax_px hE rfl (fun x hx => ?_)⟩
  cases List.mem_singleton.mp hx
  refine (ax_XF_lt (x := 212) (Nat.le_of_ble_eq_true rfl)).mpr ?_
  show pz_x62 (ρ 0) (ρ 1) (4028) (12)
  refine ⟨F212.1, F212.2.1, fun i hi => ?_⟩
  replace hi : i < 3 := hi
  by_cases h : i < 2
  · exact F212.2.2 i h
  · have e : i = 2 := by omega
    subst e
    exact hb2.trans (show ρ 4 / 4 = 110 by omega)
theorem axq0_is3_7_2 : ax_RO ax_wM0 (ax_XM 0) axu0_is3_7_2 := axqg_is3_7_2 ax_WW0
theorem axqg_is4a_7_2 {w : ax_W} {b : Nat} (hw : ax_WW w) : ax_RO w (ax_XM b) axu0_is4a_7_2 := by
  intro ρ hp hE hT
  have j0 : ρ 0 % 4 = 1 := pz_gj hE 0 (Nat.le_of_ble_eq_true rfl) rfl
  have j1 : ρ 1 % 4 = 1 := pz_gj hE 1 (Nat.le_of_ble_eq_true rfl) rfl
  obtain ⟨i2a, i2b, i2c, i2d⟩ := pz_gi hE 2 2147483648 2147484448 (Nat.le_of_ble_eq_true rfl) rfl
  obtain ⟨i3a, i3b, i3c, i3d⟩ := pz_gi hE 3 0 4294967295 (Nat.le_of_ble_eq_true rfl) rfl
  obtain ⟨i4a, i4b, i4c, i4d⟩ := pz_gi hE 4 2147483520 2147483757 (Nat.le_of_ble_eq_true rfl) rfl
  have c_at : ay_at hp 173 14 = some (ρ 2) := ay_gfj hE 702 56 11 173 14 ax_m2 (ax_vlq rfl rfl) (ax_vlj rfl rfl)
  have s1 : (ρ 2 / 4 + 2147483648) % 4294967296 + (8 / 4 + 2147483648) % 4294967296 = (ρ 3 / 4 + 2147483648) % 4294967296 + 2147483648 := pz_gs hE 11 8 15 ax_m3
  have c_tape : ay_at hp 183 (ρ 3 / 4) = some (ρ 4) := ay_gf hE 742 15 19 183 ax_m4 (ax_vlq rfl rfl)
  obtain ⟨-, -, F131⟩ : ay_ex hp 173 ∧ ay_ex hp 183 ∧ pz_x30 (ρ 0) (ay_at hp 173 12) (ay_at hp 183) := (ax_XF_lt (x := 131) (Nat.le_of_ble_eq_true rfl)).mp (ax_gx hE (131, [3]) ax_m0)
  obtain ⟨-, F154⟩ : ay_ex hp 173 ∧ ay_ln (ay_at hp 173 14) = pz_at (pz_gt (ρ 0)) (pz_gN (ρ 0)) (pz_p (pz_cF (ρ 0) (ρ 1))) := (ax_XF_lt (x := 154) (Nat.le_of_ble_eq_true rfl)).mp (ax_gx hE (154, [3, 7]) ax_m1)
  rw [c_at] at F154
  have F212 : pz_x62 (ρ 0) (ρ 1) (4028) (8) := (ax_XF_lt (x := 212) (Nat.le_of_ble_eq_true rfl)).mp (ax_gx hE (212, [3, 7, 4028, 8]) ax_m5)
  have ep : ρ 2 / 4 = pz_at (pz_gt (ρ 0)) (pz_gN (ρ 0)) (pz_p (pz_cf (pz_gt (ρ 0)) (pz_gN (ρ 0)) (ρ 1 / 4))) := F154
  have hw : pz_at (pz_gt (ρ 0)) (pz_gN (ρ 0)) (pz_p (pz_cf (pz_gt (ρ 0)) (pz_gN (ρ 0)) (ρ 1 / 4))) < pz_gN (ρ 0) ∧ pz_nx (pz_gt (ρ 0)) (pz_gN (ρ 0)) (pz_p (pz_cf (pz_gt (ρ 0)) (pz_gN (ρ 0)) (ρ 1 / 4))) ≤ pz_gN (ρ 0) := pz_wd_le F212.1
  have hln : pz_nx (pz_gt (ρ 0)) (pz_gN (ρ 0)) (pz_p (pz_cf (pz_gt (ρ 0)) (pz_gN (ρ 0)) (ρ 1 / 4))) - pz_at (pz_gt (ρ 0)) (pz_gN (ρ 0)) (pz_p (pz_cf (pz_gt (ρ 0)) (pz_gN (ρ 0)) (ρ 1 / 4))) = 5 := F212.2.1
  have ha1 := (pz_ps 0 800 i2b i2c i2d (by decide))
  have hq1 : ρ 3 / 4 = ρ 2 / 4 + 2 := pz_sm (by omega) (by decide) i3b s1
  have hb := F131.2.2 (ρ 3 / 4) (by have := hw.2; omega)
  rw [c_tape] at hb
  have hb := Option.some.inj hb
  rw [show ρ 3 / 4 = pz_at (pz_gt (ρ 0)) (pz_gN (ρ 0)) (pz_p (pz_cf (pz_gt (ρ 0)) (pz_gN (ρ 0)) (ρ 1 / 4))) + 2 by omega] at hb
  have hb2 : pz_b (pz_gt (ρ 0)) (pz_at (pz_gt (ρ 0)) (pz_gN (ρ 0)) (pz_p (pz_cf (pz_gt (ρ 0)) (pz_gN (ρ 0)) (ρ 1 / 4))) + 2) = ρ 4 / 4 := by omega
  refine ⟨(fun y hy => by cases hy), _, List.mem_cons_self, ρ, fun _ _ => rfl, ax_px hE rfl (fun x hx => ?_)⟩
  cases List.mem_singleton.mp hx
  refine (ax_XF_lt (x := 161) (Nat.le_of_ble_eq_true rfl)).mpr ?_
  show pz61 (pz_gt (ρ 0)) (pz_gN (ρ 0)) ((ρ 1) / 4) ((28) / 4)
  refine pz_is_no (Or.inr (Or.inr ⟨2, by decide, fun z => ?_⟩))
  have z2 : ρ 4 / 4 = 110 := hb2.symm.trans z
  omega
theorem axq0_is4a_7_2 : ax_RO ax_wM0 (ax_XM 0) axu0_is4a_7_2 := axqg_is4a_7_2 ax_WW0
theorem axqg_is4b_7_2 {w : ax_W} {b : Nat} (hw : ax_WW w) : ax_RO w (ax_XM b) axu0_is4b_7_2 := by
  intro ρ hp hE hT
  have j0 : ρ 0 % 4 = 1 := pz_gj hE 0 (Nat.le_of_ble_eq_true rfl) rfl
  have j1 : ρ 1 % 4 = 1 := pz_gj hE 1 (Nat.le_of_ble_eq_true rfl) rfl
  obtain ⟨i2a, i2b, i2c, i2d⟩ := pz_gi hE 2 2147483648 2147484448 (Nat.le_of_ble_eq_true rfl) rfl
  obtain ⟨i3a, i3b, i3c, i3d⟩ := pz_gi hE 3 0 4294967295 (Nat.le_of_ble_eq_true rfl) rfl
  obtain ⟨i4a, i4b, i4c, i4d⟩ := pz_gi hE 4 2147483759 2147483775 (Nat.le_of_ble_eq_true rfl) rfl
  have c_at : ay_at hp 173 14 = some (ρ 2) := ay_gfj hE 702 56 11 173 14 ax_m2 (ax_vlq rfl rfl) (ax_vlj rfl rfl)
  have s1 : (ρ 2 / 4 + 2147483648) % 4294967296 + (8 / 4 + 2147483648) % 4294967296 = (ρ 3 / 4 + 2147483648) % 4294967296 + 2147483648 := pz_gs hE 11 8 15 ax_m3
  have c_tape : ay_at hp 183 (ρ 3 / 4) = some (ρ 4) := ay_gf hE 742 15 19 183 ax_m4 (ax_vlq rfl rfl)
  obtain ⟨-, -, F131⟩ : ay_ex hp 173 ∧ ay_ex hp 183 ∧ pz_x30 (ρ 0) (ay_at hp 173 12) (ay_at hp 183) := (ax_XF_lt (x := 131) (Nat.le_of_ble_eq_true rfl)).mp (ax_gx hE (131, [3]) ax_m0)
  obtain ⟨-, F154⟩ : ay_ex hp 173 ∧ ay_ln (ay_at hp 173 14) = pz_at (pz_gt (ρ 0)) (pz_gN (ρ 0)) (pz_p (pz_cF (ρ 0) (ρ 1))) := (ax_XF_lt (x := 154) (Nat.le_of_ble_eq_true rfl)).mp (ax_gx hE (154, [3, 7]) ax_m1)
  rw [c_at] at F154
  have F212 : pz_x62 (ρ 0) (ρ 1) (4028) (8) := (ax_XF_lt (x := 212) (Nat.le_of_ble_eq_true rfl)).mp (ax_gx hE (212, [3, 7, 4028, 8]) ax_m5)
  have ep : ρ 2 / 4 = pz_at (pz_gt (ρ 0)) (pz_gN (ρ 0)) (pz_p (pz_cf (pz_gt (ρ 0)) (pz_gN (ρ 0)) (ρ 1 / 4))) := F154
  have hw : pz_at (pz_gt (ρ 0)) (pz_gN (ρ 0)) (pz_p (pz_cf (pz_gt (ρ 0)) (pz_gN (ρ 0)) (ρ 1 / 4))) < pz_gN (ρ 0) ∧ pz_nx (pz_gt (ρ 0)) (pz_gN (ρ 0)) (pz_p (pz_cf (pz_gt (ρ 0)) (pz_gN (ρ 0)) (ρ 1 / 4))) ≤ pz_gN (ρ 0) := pz_wd_le F212.1
  have hln : pz_nx (pz_gt (ρ 0)) (pz_gN (ρ 0)) (pz_p (pz_cf (pz_gt (ρ 0)) (pz_gN (ρ 0)) (ρ 1 / 4))) - pz_at (pz_gt (ρ 0)) (pz_gN (ρ 0)) (pz_p (pz_cf (pz_gt (ρ 0)) (pz_gN (ρ 0)) (ρ 1 / 4))) = 5 := F212.2.1
  have ha1 := (pz_ps 0 800 i2b i2c i2d (by decide))
  have hq1 : ρ 3 / 4 = ρ 2 / 4 + 2 := pz_sm (by omega) (by decide) i3b s1
  have hb := F131.2.2 (ρ 3 / 4) (by have := hw.2; omega)
  rw [c_tape] at hb
  have hb := Option.some.inj hb
  rw [show ρ 3 / 4 = pz_at (pz_gt (ρ 0)) (pz_gN (ρ 0)) (pz_p (pz_cf (pz_gt (ρ 0)) (pz_gN (ρ 0)) (ρ 1 / 4))) + 2 by omega] at hb
  have hb2 : pz_b (pz_gt (ρ 0)) (pz_at (pz_gt (ρ 0)) (pz_gN (ρ 0)) (pz_p (pz_cf (pz_gt (ρ 0)) (pz_gN (ρ 0)) (ρ 1 / 4))) + 2) = ρ 4 / 4 := by omega
  refine ⟨(fun y hy => by cases hy), _, List.mem_cons_self, ρ, fun _ _ => rfl, ax_px hE rfl (fun x hx => ?_)⟩
  cases List.mem_singleton.mp hx
  refine (ax_XF_lt (x := 161) (Nat.le_of_ble_eq_true rfl)).mpr ?_
  show pz61 (pz_gt (ρ 0)) (pz_gN (ρ 0)) ((ρ 1) / 4) ((28) / 4)
  refine pz_is_no (Or.inr (Or.inr ⟨2, by decide, fun z => ?_⟩))
  have z2 : ρ 4 / 4 = 110 := hb2.symm.trans z
  omega
theorem axq0_is4b_7_2 : ax_RO ax_wM0 (ax_XM 0) axu0_is4b_7_2 := axqg_is4b_7_2 ax_WW0
theorem axqg_is3_7_3 {w : ax_W} {b : Nat} (hw : ax_WW w) : ax_RO w (ax_XM b) axu0_is3_7_3 := by
  intro ρ hp hE hT
  have j0 : ρ 0 % 4 = 1 := pz_gj hE 0 (Nat.le_of_ble_eq_true rfl) rfl
  have j1 : ρ 1 % 4 = 1 := pz_gj hE 1 (Nat.le_of_ble_eq_true rfl) rfl
  obtain ⟨i2a, i2b, i2c, i2d⟩ := pz_gi hE 2 2147483648 2147484448 (Nat.le_of_ble_eq_true rfl) rfl
  obtain ⟨i3a, i3b, i3c, i3d⟩ := pz_gi hE 3 0 4294967295 (Nat.le_of_ble_eq_true rfl) rfl
  obtain ⟨i4a, i4b, i4c, i4d⟩ := pz_gi hE 4 2147483755 2147483755 (Nat.le_of_ble_eq_true rfl) rfl
  have c_at : ay_at hp 173 14 = some (ρ 2) := ay_gfj hE 702 56 11 173 14 ax_m2 (ax_vlq rfl rfl) (ax_vlj rfl rfl)
  have s1 : (ρ 2 / 4 + 2147483648) % 4294967296 + (12 / 4 + 2147483648) % 4294967296 = (ρ 3 / 4 + 2147483648) % 4294967296 + 2147483648 := pz_gs hE 11 12 15 ax_m3
  have c_tape : ay_at hp 183 (ρ 3 / 4) = some (ρ 4) := ay_gf hE 742 15 19 183 ax_m4 (ax_vlq rfl rfl)
  obtain ⟨-, -, F131⟩ : ay_ex hp 173 ∧ ay_ex hp 183 ∧ pz_x30 (ρ 0) (ay_at hp 173 12) (ay_at hp 183) := (ax_XF_lt (x := 131) (Nat.le_of_ble_eq_true rfl)).mp (ax_gx hE (131, [3]) ax_m0)
  obtain ⟨-, F154⟩ : ay_ex hp 173 ∧ ay_ln (ay_at hp 173 14) = pz_at (pz_gt (ρ 0)) (pz_gN (ρ 0)) (pz_p (pz_cF (ρ 0) (ρ 1))) := (ax_XF_lt (x := 154) (Nat.le_of_ble_eq_true rfl)).mp (ax_gx hE (154, [3, 7]) ax_m1)
  rw [c_at] at F154
  have F212 : pz_x62 (ρ 0) (ρ 1) (4028) (12) := (ax_XF_lt (x := 212) (Nat.le_of_ble_eq_true rfl)).mp (ax_gx hE (212, [3, 7, 4028, 12]) ax_m5)
  have ep : ρ 2 / 4 = pz_at (pz_gt (ρ 0)) (pz_gN (ρ 0)) (pz_p (pz_cf (pz_gt (ρ 0)) (pz_gN (ρ 0)) (ρ 1 / 4))) := F154
  have hw : pz_at (pz_gt (ρ 0)) (pz_gN (ρ 0)) (pz_p (pz_cf (pz_gt (ρ 0)) (pz_gN (ρ 0)) (ρ 1 / 4))) < pz_gN (ρ 0) ∧ pz_nx (pz_gt (ρ 0)) (pz_gN (ρ 0)) (pz_p (pz_cf (pz_gt (ρ 0)) (pz_gN (ρ 0)) (ρ 1 / 4))) ≤ pz_gN (ρ 0) := pz_wd_le F212.1
  have hln : pz_nx (pz_gt (ρ 0)) (pz_gN (ρ 0)) (pz_p (pz_cf (pz_gt (ρ 0)) (pz_gN (ρ 0)) (ρ 1 / 4))) - pz_at (pz_gt (ρ 0)) (pz_gN (ρ 0)) (pz_p (pz_cf (pz_gt (ρ 0)) (pz_gN (ρ 0)) (ρ 1 / 4))) = 5 := F212.2.1
  have ha1 := (pz_ps 0 800 i2b i2c i2d (by decide))
  have hq1 : ρ 3 / 4 = ρ 2 / 4 + 3 := pz_sm (by omega) (by decide) i3b s1
  have hb := F131.2.2 (ρ 3 / 4) (by have := hw.2; omega)
  rw [c_tape] at hb
  have hb := Option.some.inj hb
  rw [show ρ 3 / 4 = pz_at (pz_gt (ρ 0)) (pz_gN (ρ 0)) (pz_p (pz_cf (pz_gt (ρ 0)) (pz_gN (ρ 0)) (ρ 1 / 4))) + 3 by omega] at hb
  have hb2 : pz_b (pz_gt (ρ 0)) (pz_at (pz_gt (ρ 0)) (pz_gN (ρ 0)) (pz_p (pz_cf (pz_gt (ρ 0)) (pz_gN (ρ 0)) (ρ 1 / 4))) + 3) = ρ 4 / 4 := by omega
  refine ⟨(fun y hy => by cases hy), _, List.mem_cons_self, ρ, fun _ _ => rfl, ax_px hE rfl (fun x hx => ?_)⟩
  cases List.mem_singleton.mp hx
  refine (ax_XF_lt (x := 212) (Nat.le_of_ble_eq_true rfl)).mpr ?_
  show pz_x62 (ρ 0) (ρ 1) (4028) (16)
  refine ⟨F212.1, F212.2.1, fun i hi => ?_⟩
  replace hi : i < 4 := hi
  by_cases h : i < 3
  · exact F212.2.2 i h
  · have e : i = 3 := by omega
    subst e
    exact hb2.trans (show ρ 4 / 4 = 107 by omega)
theorem axq0_is3_7_3 : ax_RO ax_wM0 (ax_XM 0) axu0_is3_7_3 := axqg_is3_7_3 ax_WW0
theorem axqg_is4a_7_3 {w : ax_W} {b : Nat} (hw : ax_WW w) : ax_RO w (ax_XM b) axu0_is4a_7_3 := by
  intro ρ hp hE hT
  have j0 : ρ 0 % 4 = 1 := pz_gj hE 0 (Nat.le_of_ble_eq_true rfl) rfl
  have j1 : ρ 1 % 4 = 1 := pz_gj hE 1 (Nat.le_of_ble_eq_true rfl) rfl
  obtain ⟨i2a, i2b, i2c, i2d⟩ := pz_gi hE 2 2147483648 2147484448 (Nat.le_of_ble_eq_true rfl) rfl
  obtain ⟨i3a, i3b, i3c, i3d⟩ := pz_gi hE 3 0 4294967295 (Nat.le_of_ble_eq_true rfl) rfl
  obtain ⟨i4a, i4b, i4c, i4d⟩ := pz_gi hE 4 2147483520 2147483754 (Nat.le_of_ble_eq_true rfl) rfl
  have c_at : ay_at hp 173 14 = some (ρ 2) := ay_gfj hE 702 56 11 173 14 ax_m2 (ax_vlq rfl rfl) (ax_vlj rfl rfl)
  have s1 : (ρ 2 / 4 + 2147483648) % 4294967296 + (12 / 4 + 2147483648) % 4294967296 = (ρ 3 / 4 + 2147483648) % 4294967296 + 2147483648 := pz_gs hE 11 12 15 ax_m3
  have c_tape : ay_at hp 183 (ρ 3 / 4) = some (ρ 4) := ay_gf hE 742 15 19 183 ax_m4 (ax_vlq rfl rfl)
  obtain ⟨-, -, F131⟩ : ay_ex hp 173 ∧ ay_ex hp 183 ∧ pz_x30 (ρ 0) (ay_at hp 173 12) (ay_at hp 183) := (ax_XF_lt (x := 131) (Nat.le_of_ble_eq_true rfl)).mp (ax_gx hE (131, [3]) ax_m0)
  obtain ⟨-, F154⟩ : ay_ex hp 173 ∧ ay_ln (ay_at hp 173 14) = pz_at (pz_gt (ρ 0)) (pz_gN (ρ 0)) (pz_p (pz_cF (ρ 0) (ρ 1))) := (ax_XF_lt (x := 154) (Nat.le_of_ble_eq_true rfl)).mp (ax_gx hE (154, [3, 7]) ax_m1)
  rw [c_at] at F154
  have F212 : pz_x62 (ρ 0) (ρ 1) (4028) (12) := (ax_XF_lt (x := 212) (Nat.le_of_ble_eq_true rfl)).mp (ax_gx hE (212, [3, 7, 4028, 12]) ax_m5)
  have ep : ρ 2 / 4 = pz_at (pz_gt (ρ 0)) (pz_gN (ρ 0)) (pz_p (pz_cf (pz_gt (ρ 0)) (pz_gN (ρ 0)) (ρ 1 / 4))) := F154
  have hw : pz_at (pz_gt (ρ 0)) (pz_gN (ρ 0)) (pz_p (pz_cf (pz_gt (ρ 0)) (pz_gN (ρ 0)) (ρ 1 / 4))) < pz_gN (ρ 0) ∧ pz_nx (pz_gt (ρ 0)) (pz_gN (ρ 0)) (pz_p (pz_cf (pz_gt (ρ 0)) (pz_gN (ρ 0)) (ρ 1 / 4))) ≤ pz_gN (ρ 0) := pz_wd_le F212.1
  have hln : pz_nx (pz_gt (ρ 0)) (pz_gN (ρ 0)) (pz_p (pz_cf (pz_gt (ρ 0)) (pz_gN (ρ 0)) (ρ 1 / 4))) - pz_at (pz_gt (ρ 0)) (pz_gN (ρ 0)) (pz_p (pz_cf (pz_gt (ρ 0)) (pz_gN (ρ 0)) (ρ 1 / 4))) = 5 := F212.2.1
  have ha1 := (pz_ps 0 800 i2b i2c i2d (by decide))
  have hq1 : ρ 3 / 4 = ρ 2 / 4 + 3 := pz_sm (by omega) (by decide) i3b s1
  have hb := F131.2.2 (ρ 3 / 4) (by have := hw.2; omega)
  rw [c_tape] at hb
  have hb := Option.some.inj hb
  rw [show ρ 3 / 4 = pz_at (pz_gt (ρ 0)) (pz_gN (ρ 0)) (pz_p (pz_cf (pz_gt (ρ 0)) (pz_gN (ρ 0)) (ρ 1 / 4))) + 3 by omega] at hb
  have hb2 : pz_b (pz_gt (ρ 0)) (pz_at (pz_gt (ρ 0)) (pz_gN (ρ 0)) (pz_p (pz_cf (pz_gt (ρ 0)) (pz_gN (ρ 0)) (ρ 1 / 4))) + 3) = ρ 4 / 4 := by omega
  refine ⟨(fun y hy => by cases hy), _, List.mem_cons_self, ρ, fun _ _ => rfl, ax_px hE rfl (fun x hx => ?_)⟩
  cases List.mem_singleton.mp hx
  refine (ax_XF_lt (x := 161) (Nat.le_of_ble_eq_true rfl)).mpr ?_
  show pz61 (pz_gt (ρ 0)) (pz_gN (ρ 0)) ((ρ 1) / 4) ((28) / 4)
  refine pz_is_no (Or.inr (Or.inr ⟨3, by decide, fun z => ?_⟩))
  have z2 : ρ 4 / 4 = 107 := hb2.symm.trans z
  omega
theorem axq0_is4a_7_3 : ax_RO ax_wM0 (ax_XM 0) axu0_is4a_7_3 := axqg_is4a_7_3 ax_WW0
theorem axqg_is4b_7_3 {w : ax_W} {b : Nat} (hw : ax_WW w) : ax_RO w (ax_XM b) axu0_is4b_7_3 := by
  intro ρ hp hE hT
  have j0 : ρ 0 % 4 = 1 := pz_gj hE 0 (Nat.le_of_ble_eq_true rfl) rfl
  have j1 : ρ 1 % 4 = 1 := pz_gj hE 1 (Nat.le_of_ble_eq_true rfl) rfl
  obtain ⟨i2a, i2b, i2c, i2d⟩ := pz_gi hE 2 2147483648 2147484448 (Nat.le_of_ble_eq_true rfl) rfl
  obtain ⟨i3a, i3b, i3c, i3d⟩ := pz_gi hE 3 0 4294967295 (Nat.le_of_ble_eq_true rfl) rfl
  obtain ⟨i4a, i4b, i4c, i4d⟩ := pz_gi hE 4 2147483756 2147483775 (Nat.le_of_ble_eq_true rfl) rfl
  have c_at : ay_at hp 173 14 = some (ρ 2) := ay_gfj hE 702 56 11 173 14 ax_m2 (ax_vlq rfl rfl) (ax_vlj rfl rfl)
  have s1 : (ρ 2 / 4 + 2147483648) % 4294967296 + (12 / 4 + 2147483648) % 4294967296 = (ρ 3 / 4 + 2147483648) % 4294967296 + 2147483648 := pz_gs hE 11 12 15 ax_m3
  have c_tape : ay_at hp 183 (ρ 3 / 4) = some (ρ 4) := ay_gf hE 742 15 19 183 ax_m4 (ax_vlq rfl rfl)
  obtain ⟨-, -, F131⟩ : ay_ex hp 173 ∧ ay_ex hp 183 ∧ pz_x30 (ρ 0) (ay_at hp 173 12) (ay_at hp 183) := (ax_XF_lt (x := 131) (Nat.le_of_ble_eq_true rfl)).mp (ax_gx hE (131, [3]) ax_m0)
  obtain ⟨-, F154⟩ : ay_ex hp 173 ∧ ay_ln (ay_at hp 173 14) = pz_at (pz_gt (ρ 0)) (pz_gN (ρ 0)) (pz_p (pz_cF (ρ 0) (ρ 1))) := (ax_XF_lt (x := 154) (Nat.le_of_ble_eq_true rfl)).mp (ax_gx hE (154, [3, 7]) ax_m1)
  rw [c_at] at F154
  have F212 : pz_x62 (ρ 0) (ρ 1) (4028) (12) := (ax_XF_lt (x := 212) (Nat.le_of_ble_eq_true rfl)).mp (ax_gx hE (212, [3, 7, 4028, 12]) ax_m5)
  have ep : ρ 2 / 4 = pz_at (pz_gt (ρ 0)) (pz_gN (ρ 0)) (pz_p (pz_cf (pz_gt (ρ 0)) (pz_gN (ρ 0)) (ρ 1 / 4))) := F154
  have hw : pz_at (pz_gt (ρ 0)) (pz_gN (ρ 0)) (pz_p (pz_cf (pz_gt (ρ 0)) (pz_gN (ρ 0)) (ρ 1 / 4))) < pz_gN (ρ 0) ∧ pz_nx (pz_gt (ρ 0)) (pz_gN (ρ 0)) (pz_p (pz_cf (pz_gt (ρ 0)) (pz_gN (ρ 0)) (ρ 1 / 4))) ≤ pz_gN (ρ 0) := pz_wd_le F212.1
  have hln : pz_nx (pz_gt (ρ 0)) (pz_gN (ρ 0)) (pz_p (pz_cf (pz_gt (ρ 0)) (pz_gN (ρ 0)) (ρ 1 / 4))) - pz_at (pz_gt (ρ 0)) (pz_gN (ρ 0)) (pz_p (pz_cf (pz_gt (ρ 0)) (pz_gN (ρ 0)) (ρ 1 / 4))) = 5 := F212.2.1
  have ha1 := (pz_ps 0 800 i2b i2c i2d (by decide))
  have hq1 : ρ 3 / 4 = ρ 2 / 4 + 3 := pz_sm (by omega) (by decide) i3b s1
  have hb := F131.2.2 (ρ 3 / 4) (by have := hw.2; omega)
  rw [c_tape] at hb
  have hb := Option.some.inj hb
  rw [show ρ 3 / 4 = pz_at (pz_gt (ρ 0)) (pz_gN (ρ 0)) (pz_p (pz_cf (pz_gt (ρ 0)) (pz_gN (ρ 0)) (ρ 1 / 4))) + 3 by omega] at hb
  have hb2 : pz_b (pz_gt (ρ 0)) (pz_at (pz_gt (ρ 0)) (pz_gN (ρ 0)) (pz_p (pz_cf (pz_gt (ρ 0)) (pz_gN (ρ 0)) (ρ 1 / 4))) + 3) = ρ 4 / 4 := by omega
  refine ⟨(fun y hy => by cases hy), _, List.mem_cons_self, ρ, fun _ _ => rfl, ax_px hE rfl (fun x hx => ?_)⟩
  cases List.mem_singleton.mp hx
  refine (ax_XF_lt (x := 161) (Nat.le_of_ble_eq_true rfl)).mpr ?_
  show pz61 (pz_gt (ρ 0)) (pz_gN (ρ 0)) ((ρ 1) / 4) ((28) / 4)
  refine pz_is_no (Or.inr (Or.inr ⟨3, by decide, fun z => ?_⟩))
  have z2 : ρ 4 / 4 = 107 := hb2.symm.trans z
  omega
theorem axq0_is4b_7_3 : ax_RO ax_wM0 (ax_XM 0) axu0_is4b_7_3 := axqg_is4b_7_3 ax_WW0
theorem axqg_is3_7_4 {w : ax_W} {b : Nat} (hw : ax_WW w) : ax_RO w (ax_XM b) axu0_is3_7_4 := by
  intro ρ hp hE hT
  have j0 : ρ 0 % 4 = 1 := pz_gj hE 0 (Nat.le_of_ble_eq_true rfl) rfl
  have j1 : ρ 1 % 4 = 1 := pz_gj hE 1 (Nat.le_of_ble_eq_true rfl) rfl
  obtain ⟨i2a, i2b, i2c, i2d⟩ := pz_gi hE 2 2147483648 2147484448 (Nat.le_of_ble_eq_true rfl) rfl
  obtain ⟨i3a, i3b, i3c, i3d⟩ := pz_gi hE 3 0 4294967295 (Nat.le_of_ble_eq_true rfl) rfl
  obtain ⟨i4a, i4b, i4c, i4d⟩ := pz_gi hE 4 2147483763 2147483763 (Nat.le_of_ble_eq_true rfl) rfl
  have c_at : ay_at hp 173 14 = some (ρ 2) := ay_gfj hE 702 56 11 173 14 ax_m2 (ax_vlq rfl rfl) (ax_vlj rfl rfl)
  have s1 : (ρ 2 / 4 + 2147483648) % 4294967296 + (16 / 4 + 2147483648) % 4294967296 = (ρ 3 / 4 + 2147483648) % 4294967296 + 2147483648 := pz_gs hE 11 16 15 ax_m3
  have c_tape : ay_at hp 183 (ρ 3 / 4) = some (ρ 4) := ay_gf hE 742 15 19 183 ax_m4 (ax_vlq rfl rfl)
  obtain ⟨-, -, F131⟩ : ay_ex hp 173 ∧ ay_ex hp 183 ∧ pz_x30 (ρ 0) (ay_at hp 173 12) (ay_at hp 183) := (ax_XF_lt (x := 131) (Nat.le_of_ble_eq_true rfl)).mp (ax_gx hE (131, [3]) ax_m0)
  obtain ⟨-, F154⟩ : ay_ex hp 173 ∧ ay_ln (ay_at hp 173 14) = pz_at (pz_gt (ρ 0)) (pz_gN (ρ 0)) (pz_p (pz_cF (ρ 0) (ρ 1))) := (ax_XF_lt (x := 154) (Nat.le_of_ble_eq_true rfl)).mp (ax_gx hE (154, [3, 7]) ax_m1)
  rw [c_at] at F154
  have F212 : pz_x62 (ρ 0) (ρ 1) (4028) (16) := (ax_XF_lt (x := 212) (Nat.le_of_ble_eq_true rfl)).mp (ax_gx hE (212, [3, 7, 4028, 16]) ax_m5)
  have ep : ρ 2 / 4 = pz_at (pz_gt (ρ 0)) (pz_gN (ρ 0)) (pz_p (pz_cf (pz_gt (ρ 0)) (pz_gN (ρ 0)) (ρ 1 / 4))) := F154
  have hw : pz_at (pz_gt (ρ 0)) (pz_gN (ρ 0)) (pz_p (pz_cf (pz_gt (ρ 0)) (pz_gN (ρ 0)) (ρ 1 / 4))) < pz_gN (ρ 0) ∧ pz_nx (pz_gt (ρ 0)) (pz_gN (ρ 0)) (pz_p (pz_cf (pz_gt (ρ 0)) (pz_gN (ρ 0)) (ρ 1 / 4))) ≤ pz_gN (ρ 0) := pz_wd_le F212.1
  have hln : pz_nx (pz_gt (ρ 0)) (pz_gN (ρ 0)) (pz_p (pz_cf (pz_gt (ρ 0)) (pz_gN (ρ 0)) (ρ 1 / 4))) - pz_at (pz_gt (ρ 0)) (pz_gN (ρ 0)) (pz_p (pz_cf (pz_gt (ρ 0)) (pz_gN (ρ 0)) (ρ 1 / 4))) = 5 := F212.2.1
  have ha1 := (pz_ps 0 800 i2b i2c i2d (by decide))
  have hq1 : ρ 3 / 4 = ρ 2 / 4 + 4 := pz_sm (by omega) (by decide) i3b s1
  have hb := F131.2.2 (ρ 3 / 4) (by have := hw.2; omega)
  rw [c_tape] at hb
  have hb := Option.some.inj hb
  rw [show ρ 3 / 4 = pz_at (pz_gt (ρ 0)) (pz_gN (ρ 0)) (pz_p (pz_cf (pz_gt (ρ 0)) (pz_gN (ρ 0)) (ρ 1 / 4))) + 4 by omega] at hb
  have hb2 : pz_b (pz_gt (ρ 0)) (pz_at (pz_gt (ρ 0)) (pz_gN (ρ 0)) (pz_p (pz_cf (pz_gt (ρ 0)) (pz_gN (ρ 0)) (ρ 1 / 4))) + 4) = ρ 4 / 4 := by omega
  refine ⟨(fun y hy => by cases hy), _, List.mem_cons_self, ρ, fun _ _ => rfl, ax_px hE rfl (fun x hx => ?_)⟩
  cases List.mem_singleton.mp hx
  refine (ax_XF_lt (x := 212) (Nat.le_of_ble_eq_true rfl)).mpr ?_
  show pz_x62 (ρ 0) (ρ 1) (4028) (20)
  refine ⟨F212.1, F212.2.1, fun i hi => ?_⟩
  replace hi : i < 5 := hi
  by_cases h : i < 4
  · exact F212.2.2 i h
  · have e : i = 4 := by omega
    subst e
    exact hb2.trans (show ρ 4 / 4 = 115 by omega)
theorem axq0_is3_7_4 : ax_RO ax_wM0 (ax_XM 0) axu0_is3_7_4 := axqg_is3_7_4 ax_WW0
theorem axqg_is4a_7_4 {w : ax_W} {b : Nat} (hw : ax_WW w) : ax_RO w (ax_XM b) axu0_is4a_7_4 := by
  intro ρ hp hE hT
  have j0 : ρ 0 % 4 = 1 := pz_gj hE 0 (Nat.le_of_ble_eq_true rfl) rfl
  have j1 : ρ 1 % 4 = 1 := pz_gj hE 1 (Nat.le_of_ble_eq_true rfl) rfl
  obtain ⟨i2a, i2b, i2c, i2d⟩ := pz_gi hE 2 2147483648 2147484448 (Nat.le_of_ble_eq_true rfl) rfl
  obtain ⟨i3a, i3b, i3c, i3d⟩ := pz_gi hE 3 0 4294967295 (Nat.le_of_ble_eq_true rfl) rfl
  obtain ⟨i4a, i4b, i4c, i4d⟩ := pz_gi hE 4 2147483520 2147483762 (Nat.le_of_ble_eq_true rfl) rfl
  have c_at : ay_at hp 173 14 = some (ρ 2) := ay_gfj hE 702 56 11 173 14 ax_m2 (ax_vlq rfl rfl) (ax_vlj rfl rfl)
  have s1 : (ρ 2 / 4 + 2147483648) % 4294967296 + (16 / 4 + 2147483648) % 4294967296 = (ρ 3 / 4 + 2147483648) % 4294967296 + 2147483648 := pz_gs hE 11 16 15 ax_m3
  have c_tape : ay_at hp 183 (ρ 3 / 4) = some (ρ 4) := ay_gf hE 742 15 19 183 ax_m4 (ax_vlq rfl rfl)
  obtain ⟨-, -, F131⟩ : ay_ex hp 173 ∧ ay_ex hp 183 ∧ pz_x30 (ρ 0) (ay_at hp 173 12) (ay_at hp 183) := (ax_XF_lt (x := 131) (Nat.le_of_ble_eq_true rfl)).mp (ax_gx hE (131, [3]) ax_m0)
  obtain ⟨-, F154⟩ : ay_ex hp 173 ∧ ay_ln (ay_at hp 173 14) = pz_at (pz_gt (ρ 0)) (pz_gN (ρ 0)) (pz_p (pz_cF (ρ 0) (ρ 1))) := (ax_XF_lt (x := 154) (Nat.le_of_ble_eq_true rfl)).mp (ax_gx hE (154, [3, 7]) ax_m1)
  rw [c_at] at F154
  have F212 : pz_x62 (ρ 0) (ρ 1) (4028) (16) := (ax_XF_lt (x := 212) (Nat.le_of_ble_eq_true rfl)).mp (ax_gx hE (212, [3, 7, 4028, 16]) ax_m5)
  have ep : ρ 2 / 4 = pz_at (pz_gt (ρ 0)) (pz_gN (ρ 0)) (pz_p (pz_cf (pz_gt (ρ 0)) (pz_gN (ρ 0)) (ρ 1 / 4))) := F154
  have hw : pz_at (pz_gt (ρ 0)) (pz_gN (ρ 0)) (pz_p (pz_cf (pz_gt (ρ 0)) (pz_gN (ρ 0)) (ρ 1 / 4))) < pz_gN (ρ 0) ∧ pz_nx (pz_gt (ρ 0)) (pz_gN (ρ 0)) (pz_p (pz_cf (pz_gt (ρ 0)) (pz_gN (ρ 0)) (ρ 1 / 4))) ≤ pz_gN (ρ 0) := pz_wd_le F212.1
  have hln : pz_nx (pz_gt (ρ 0)) (pz_gN (ρ 0)) (pz_p (pz_cf (pz_gt (ρ 0)) (pz_gN (ρ 0)) (ρ 1 / 4))) - pz_at (pz_gt (ρ 0)) (pz_gN (ρ 0)) (pz_p (pz_cf (pz_gt (ρ 0)) (pz_gN (ρ 0)) (ρ 1 / 4))) = 5 := F212.2.1
  have ha1 := (pz_ps 0 800 i2b i2c i2d (by decide))
  have hq1 : ρ 3 / 4 = ρ 2 / 4 + 4 := pz_sm (by omega) (by decide) i3b s1
  have hb := F131.2.2 (ρ 3 / 4) (by have := hw.2; omega)
  rw [c_tape] at hb
  have hb := Option.some.inj hb
  rw [show ρ 3 / 4 = pz_at (pz_gt (ρ 0)) (pz_gN (ρ 0)) (pz_p (pz_cf (pz_gt (ρ 0)) (pz_gN (ρ 0)) (ρ 1 / 4))) + 4 by omega] at hb
  have hb2 : pz_b (pz_gt (ρ 0)) (pz_at (pz_gt (ρ 0)) (pz_gN (ρ 0)) (pz_p (pz_cf (pz_gt (ρ 0)) (pz_gN (ρ 0)) (ρ 1 / 4))) + 4) = ρ 4 / 4 := by omega
  refine ⟨(fun y hy => by cases hy), _, List.mem_cons_self, ρ, fun _ _ => rfl, ax_px hE rfl (fun x hx => ?_)⟩
  cases List.mem_singleton.mp hx
  refine (ax_XF_lt (x := 161) (Nat.le_of_ble_eq_true rfl)).mpr ?_
  show pz61 (pz_gt (ρ 0)) (pz_gN (ρ 0)) ((ρ 1) / 4) ((28) / 4)
  refine pz_is_no (Or.inr (Or.inr ⟨4, by decide, fun z => ?_⟩))
  have z2 : ρ 4 / 4 = 115 := hb2.symm.trans z
  omega
theorem axq0_is4a_7_4 : ax_RO ax_wM0 (ax_XM 0) axu0_is4a_7_4 := axqg_is4a_7_4 ax_WW0
theorem axqg_is4b_7_4 {w : ax_W} {b : Nat} (hw : ax_WW w) : ax_RO w (ax_XM b) axu0_is4b_7_4 := by
  intro ρ hp hE hT
  have j0 : ρ 0 % 4 = 1 := pz_gj hE 0 (Nat.le_of_ble_eq_true rfl) rfl
  have j1 : ρ 1 % 4 = 1 := pz_gj hE 1 (Nat.le_of_ble_eq_true rfl) rfl
  obtain ⟨i2a, i2b, i2c, i2d⟩ := pz_gi hE 2 2147483648 2147484448 (Nat.le_of_ble_eq_true rfl) rfl
  obtain ⟨i3a, i3b, i3c, i3d⟩ := pz_gi hE 3 0 4294967295 (Nat.le_of_ble_eq_true rfl) rfl
  obtain ⟨i4a, i4b, i4c, i4d⟩ := pz_gi hE 4 2147483764 2147483775 (Nat.le_of_ble_eq_true rfl) rfl
  have c_at : ay_at hp 173 14 = some (ρ 2) := ay_gfj hE 702 56 11 173 14 ax_m2 (ax_vlq rfl rfl) (ax_vlj rfl rfl)
  have s1 : (ρ 2 / 4 + 2147483648) % 4294967296 + (16 / 4 + 2147483648) % 4294967296 = (ρ 3 / 4 + 2147483648) % 4294967296 + 2147483648 := pz_gs hE 11 16 15 ax_m3
  have c_tape : ay_at hp 183 (ρ 3 / 4) = some (ρ 4) := ay_gf hE 742 15 19 183 ax_m4 (ax_vlq rfl rfl)
  obtain ⟨-, -, F131⟩ : ay_ex hp 173 ∧ ay_ex hp 183 ∧ pz_x30 (ρ 0) (ay_at hp 173 12) (ay_at hp 183) := (ax_XF_lt (x := 131) (Nat.le_of_ble_eq_true rfl)).mp (ax_gx hE (131, [3]) ax_m0)
  obtain ⟨-, F154⟩ : ay_ex hp 173 ∧ ay_ln (ay_at hp 173 14) = pz_at (pz_gt (ρ 0)) (pz_gN (ρ 0)) (pz_p (pz_cF (ρ 0) (ρ 1))) := (ax_XF_lt (x := 154) (Nat.le_of_ble_eq_true rfl)).mp (ax_gx hE (154, [3, 7]) ax_m1)
  rw [c_at] at F154
  have F212 : pz_x62 (ρ 0) (ρ 1) (4028) (16) := (ax_XF_lt (x := 212) (Nat.le_of_ble_eq_true rfl)).mp (ax_gx hE (212, [3, 7, 4028, 16]) ax_m5)
  have ep : ρ 2 / 4 = pz_at (pz_gt (ρ 0)) (pz_gN (ρ 0)) (pz_p (pz_cf (pz_gt (ρ 0)) (pz_gN (ρ 0)) (ρ 1 / 4))) := F154
  have hw : pz_at (pz_gt (ρ 0)) (pz_gN (ρ 0)) (pz_p (pz_cf (pz_gt (ρ 0)) (pz_gN (ρ 0)) (ρ 1 / 4))) < pz_gN (ρ 0) ∧ pz_nx (pz_gt (ρ 0)) (pz_gN (ρ 0)) (pz_p (pz_cf (pz_gt (ρ 0)) (pz_gN (ρ 0)) (ρ 1 / 4))) ≤ pz_gN (ρ 0) := pz_wd_le F212.1
  have hln : pz_nx (pz_gt (ρ 0)) (pz_gN (ρ 0)) (pz_p (pz_cf (pz_gt (ρ 0)) (pz_gN (ρ 0)) (ρ 1 / 4))) - pz_at (pz_gt (ρ 0)) (pz_gN (ρ 0)) (pz_p (pz_cf (pz_gt (ρ 0)) (pz_gN (ρ 0)) (ρ 1 / 4))) = 5 := F212.2.1
  have ha1 := (pz_ps 0 800 i2b i2c i2d (by decide))
  have hq1 : ρ 3 / 4 = ρ 2 / 4 + 4 := pz_sm (by omega) (by decide) i3b s1
  have hb := F131.2.2 (ρ 3 / 4) (by have := hw.2; omega)
  rw [c_tape] at hb
  have hb := Option.some.inj hb
  rw [show ρ 3 / 4 = pz_at (pz_gt (ρ 0)) (pz_gN (ρ 0)) (pz_p (pz_cf (pz_gt (ρ 0)) (pz_gN (ρ 0)) (ρ 1 / 4))) + 4 by omega] at hb
  have hb2 : pz_b (pz_gt (ρ 0)) (pz_at (pz_gt (ρ 0)) (pz_gN (ρ 0)) (pz_p (pz_cf (pz_gt (ρ 0)) (pz_gN (ρ 0)) (ρ 1 / 4))) + 4) = ρ 4 / 4 := by omega
  refine ⟨(fun y hy => by cases hy), _, List.mem_cons_self, ρ, fun _ _ => rfl, ax_px hE rfl (fun x hx => ?_)⟩
  cases List.mem_singleton.mp hx
  refine (ax_XF_lt (x := 161) (Nat.le_of_ble_eq_true rfl)).mpr ?_
  show pz61 (pz_gt (ρ 0)) (pz_gN (ρ 0)) ((ρ 1) / 4) ((28) / 4)
  refine pz_is_no (Or.inr (Or.inr ⟨4, by decide, fun z => ?_⟩))
  have z2 : ρ 4 / 4 = 115 := hb2.symm.trans z
  omega
theorem axq0_is4b_7_4 : ax_RO ax_wM0 (ax_XM 0) axu0_is4b_7_4 := axqg_is4b_7_4 ax_WW0
theorem axqg_is5_7 {w : ax_W} {b : Nat} (hw : ax_WW w) : ax_RO w (ax_XM b) axu0_is5_7 := by
  intro ρ hp hE hT
  have j0 : ρ 0 % 4 = 1 := pz_gj hE 0 (Nat.le_of_ble_eq_true rfl) rfl
  have j1 : ρ 1 % 4 = 1 := pz_gj hE 1 (Nat.le_of_ble_eq_true rfl) rfl
  have F212 : pz_x62 (ρ 0) (ρ 1) (4028) (20) := (ax_XF_lt (x := 212) (Nat.le_of_ble_eq_true rfl)).mp (ax_gx hE (212, [3, 7, 4028, 20]) ax_m0)
  refine ⟨(fun y hy => by cases hy), _, List.mem_cons_self, ρ, fun _ _ => rfl, ax_px hE rfl (fun x hx => ?_)⟩
  cases List.mem_singleton.mp hx
  refine (ax_XF_lt (x := 160) (Nat.le_of_ble_eq_true rfl)).mpr ?_
  show pz60 (pz_gt (ρ 0)) (pz_gN (ρ 0)) ((ρ 1) / 4) ((28) / 4)
  exact pz_is_yes F212.1 F212.2.1 (fun i hi => F212.2.2 i hi)
theorem axq0_is5_7 : ax_RO ax_wM0 (ax_XM 0) axu0_is5_7 := axqg_is5_7 ax_WW0
theorem axqg_sn1 {w : ax_W} {b : Nat} (hw : ax_WW w) : ax_RO w (ax_XM b) axu0_sn1 := by
  intro ρ hp hE hT
  have j0 : ρ 0 % 4 = 1 := pz_gj hE 0 (Nat.le_of_ble_eq_true rfl) rfl
  have j1 : ρ 1 % 4 = 1 := pz_gj hE 1 (Nat.le_of_ble_eq_true rfl) rfl
  obtain ⟨i2a, i2b, i2c, i2d⟩ := pz_gi hE 2 2147483648 2147484448 (Nat.le_of_ble_eq_true rfl) rfl
  have c_at : ay_at hp 173 14 = some (ρ 2) := ay_gfj hE 702 56 11 173 14 ax_m2 (ax_vlq rfl rfl) (ax_vlj rfl rfl)
  have c_number : ay_at hp 173 16 = some (0) := ay_gfj hE 702 64 0 173 16 ax_m3 (ax_vlq rfl rfl) (ax_vlj rfl rfl)
  obtain ⟨-, F154⟩ : ay_ex hp 173 ∧ ay_ln (ay_at hp 173 14) = pz_at (pz_gt (ρ 0)) (pz_gN (ρ 0)) (pz_p (pz_cF (ρ 0) (ρ 1))) := (ax_XF_lt (x := 154) (Nat.le_of_ble_eq_true rfl)).mp (ax_gx hE (154, [3, 7]) ax_m0)
  rw [c_at] at F154
  have F168 : pz_kd (pz_gt (ρ 0)) (pz_gN (ρ 0)) (pz_p (pz_cF (ρ 0) (ρ 1))) = (8) / 4 := (ax_XF_lt (x := 168) (Nat.le_of_ble_eq_true rfl)).mp (ax_gx hE (168, [3, 7, 8]) ax_m1)
  have e1 : ρ 2 / 4 = pz_at (pz_gt (ρ 0)) (pz_gN (ρ 0)) (pz_p (pz_cf (pz_gt (ρ 0)) (pz_gN (ρ 0)) (ρ 1 / 4))) := F154
  refine ⟨(fun y hy => by cases hy), _, List.mem_cons_self, ρ, fun _ _ => rfl, ax_px hE rfl (fun x hx => ?_)⟩
  cases List.mem_singleton.mp hx
  refine (ax_XF_wr (x := 158) (Nat.le_of_ble_eq_true rfl)).mpr ?_
  show ay_ex (ax_upd hp 702 (52) (ρ 2)) 173 ∧ ay_ex (ax_upd hp 702 (52) (ρ 2)) 173 ∧ pz_y158 (ρ 0) (ρ 1) (ay_at (ax_upd hp 702 (52) (ρ 2)) 173 13) (ay_at (ax_upd hp 702 (52) (ρ 2)) 173 16)
  obtain ⟨o0, ho0⟩ := ay_some hT (q := 173) (g := 11) (n := 58) (ax_wc hw ax_cg_173) (ax_wn hw ax_cn_11) (j := 52 / 4) (Nat.le_of_ble_eq_true rfl)
  have u1 : ∀ q, q ≠ 173 → ay_at (ax_upd hp 702 52 (ρ 2)) q = ay_at hp q := fun q hq => funext (fun j => ay_upd_ne hT.1 hq j)
  have u2 : ∀ j, ay_at (ax_upd hp 702 52 (ρ 2)) 173 j = if j = 13 then some (ρ 2) else ay_at hp 173 j := fun j => ay_upd_eq hT.1 rfl ho0 j
  refine ⟨ay_ex_upd hT.1 (ax_cellT hT (q := 173) (g := 11) (ax_wc hw ax_cg_173)), ay_ex_upd hT.1 (ax_cellT hT (q := 173) (g := 11) (ax_wc hw ax_cg_173)), ?_⟩
  rw [u2 13, if_pos rfl, u2 16, if_neg (show ¬ 16 = 13 from Nat.ne_of_beq_eq_false rfl)]
  rw [c_number]
  refine ⟨?_, ?_⟩
  · show pz_e pz_dg (pz_gt (ρ 0)) (pz_gN (ρ 0)) (ρ 2 / 4) = _
    rw [e1]
    exact (pz_kd2 (show _ = 2 from F168)).1.symm
  · show pz_n (pz_gt (ρ 0)) (pz_gN (ρ 0)) (ρ 2 / 4) (pz_m (0 / 4)) = _
    rw [e1]
    exact (pz_kd2 (show _ = 2 from F168)).2.symm
theorem axq0_sn1 : ax_RO ax_wM0 (ax_XM 0) axu0_sn1 := axqg_sn1 ax_WW0
theorem axqg_sn2 {w : ax_W} {b : Nat} (hw : ax_WW w) : ax_RO w (ax_XM b) axu0_sn2 := by
  intro ρ hp hE hT
  have j0 : ρ 0 % 4 = 1 := pz_gj hE 0 (Nat.le_of_ble_eq_true rfl) rfl
  have j1 : ρ 1 % 4 = 1 := pz_gj hE 1 (Nat.le_of_ble_eq_true rfl) rfl
  obtain ⟨i2a, i2b, i2c, i2d⟩ := pz_gi hE 2 2147483648 2147484448 (Nat.le_of_ble_eq_true rfl) rfl
  obtain ⟨i3a, i3b, i3c, i3d⟩ := pz_gi hE 3 2147483648 2147484448 (Nat.le_of_ble_eq_true rfl) rfl
  obtain ⟨i4a, i4b, i4c, i4d⟩ := pz_gi hE 4 2147483696 2147483705 (Nat.le_of_ble_eq_true rfl) rfl
  obtain ⟨i5a, i5b, i5c, i5d⟩ := pz_gi hE 5 2147484648 2147493647 (Nat.le_of_ble_eq_true rfl) rfl
  have c_next : ay_at hp 173 13 = some (ρ 2) := ay_gfj hE 702 52 11 173 13 ax_m2 (ax_vlq rfl rfl) (ax_vlj rfl rfl)
  have c_size : ay_at hp 173 12 = some (ρ 3) := ay_gfj hE 702 48 15 173 12 ax_m3 (ax_vlq rfl rfl) (ax_vlj rfl rfl)
  have r1 : (ρ 2 / 4 + 2147483648) % 4294967296 < (ρ 3 / 4 + 2147483648) % 4294967296 := pz_gc hE 2 11 15 (Nat.le_of_ble_eq_true rfl) ax_m4
  have c_tape : ay_at hp 183 (ρ 2 / 4) = some (ρ 4) := ay_gf hE 742 11 19 183 ax_m5 (ax_vlq rfl rfl)
  have c_number : ay_at hp 173 16 = some (ρ 5) := ay_gfj hE 702 64 23 173 16 ax_m6 (ax_vlq rfl rfl) (ax_vlj rfl rfl)
  obtain ⟨-, -, F131⟩ : ay_ex hp 173 ∧ ay_ex hp 183 ∧ pz_x30 (ρ 0) (ay_at hp 173 12) (ay_at hp 183) := (ax_XF_lt (x := 131) (Nat.le_of_ble_eq_true rfl)).mp (ax_gx hE (131, [3]) ax_m0)
  rw [c_size] at F131
  obtain ⟨-, -, F158⟩ : ay_ex hp 173 ∧ ay_ex hp 173 ∧ pz_y158 (ρ 0) (ρ 1) (ay_at hp 173 13) (ay_at hp 173 16) := (ax_XF_lt (x := 158) (Nat.le_of_ble_eq_true rfl)).mp (ax_gx hE (158, [3, 7]) ax_m1)
  rw [c_next] at F158
  rw [c_number] at F158
  have hb : ρ 2 / 4 < pz_gN (ρ 0) → pz_b (pz_gt (ρ 0)) (ρ 2 / 4) = ρ 4 / 4 := fun hl => by
    have e := F131.2.2 (ρ 2 / 4) hl
    rw [c_tape] at e
    have e := Option.some.inj e
    omega
  have hN : ρ 3 / 4 = pz_gN (ρ 0) := F131.1
  have hlt : ρ 2 / 4 < pz_gN (ρ 0) := by omega
  have hd : pz_dg (pz_b (pz_gt (ρ 0)) (ρ 2 / 4)) = true := by rw [hb hlt]; exact pz_dg_yes (pz_ps 48 57 i4b i4c i4d (by decide)).1 (pz_ps 48 57 i4b i4c i4d (by decide)).2
  have hv : ρ 5 / 4 = if 999 < ρ 5 / 4 then ρ 5 / 4 else 10 * (ρ 5 / 4) + (ρ 4 / 4 - 48) := by rw [if_pos (by omega)]
  refine ⟨(fun y hy => by cases hy), _, List.mem_cons_self, ρ, fun _ _ => rfl, ax_px hE rfl (fun x hx => ?_)⟩
  cases List.mem_singleton.mp hx
  refine (ax_XF_wr (x := 159) (Nat.le_of_ble_eq_true rfl)).mpr ?_
  show ay_ex (ax_upd hp 702 (64) (ρ 5)) 173 ∧ ay_ex (ax_upd hp 702 (64) (ρ 5)) 173 ∧ pz_y159 (ρ 0) (ρ 1) (ay_at (ax_upd hp 702 (64) (ρ 5)) 173 13) (ay_at (ax_upd hp 702 (64) (ρ 5)) 173 16)
  obtain ⟨o0, ho0⟩ := ay_some hT (q := 173) (g := 11) (n := 58) (ax_wc hw ax_cg_173) (ax_wn hw ax_cn_11) (j := 64 / 4) (Nat.le_of_ble_eq_true rfl)
  have u1 : ∀ q, q ≠ 173 → ay_at (ax_upd hp 702 64 (ρ 5)) q = ay_at hp q := fun q hq => funext (fun j => ay_upd_ne hT.1 hq j)
  have u2 : ∀ j, ay_at (ax_upd hp 702 64 (ρ 5)) 173 j = if j = 16 then some (ρ 5) else ay_at hp 173 j := fun j => ay_upd_eq hT.1 rfl ho0 j
  refine ⟨ay_ex_upd hT.1 (ax_cellT hT (q := 173) (g := 11) (ax_wc hw ax_cg_173)), ay_ex_upd hT.1 (ax_cellT hT (q := 173) (g := 11) (ax_wc hw ax_cg_173)), ?_⟩
  rw [u2 13, if_neg (show ¬ 13 = 16 from Nat.ne_of_beq_eq_false rfl), u2 16, if_pos rfl]
  rw [c_next]
  refine ⟨(pz_e_on hlt hd).symm.trans F158.1, ?_⟩
  show pz_n (pz_gt (ρ 0)) (pz_gN (ρ 0)) (ρ 2 / 4 + 1) (pz_m (ρ 5 / 4)) = _
  have hm := pz_m_ref (v := ρ 5 / 4) (d := ρ 4 / 4 - 48) (by have := (pz_ps 48 57 i4b i4c i4d (by decide)).2; omega)
  rw [← hv, ← hb hlt] at hm
  rw [hm]
  exact (pz_n_on hlt hd).symm.trans F158.2
theorem axq0_sn2 : ax_RO ax_wM0 (ax_XM 0) axu0_sn2 := axqg_sn2 ax_WW0
theorem axqg_sn3 {w : ax_W} {b : Nat} (hw : ax_WW w) : ax_RO w (ax_XM b) axu0_sn3 := by
  intro ρ hp hE hT
  have j0 : ρ 0 % 4 = 1 := pz_gj hE 0 (Nat.le_of_ble_eq_true rfl) rfl
  have j1 : ρ 1 % 4 = 1 := pz_gj hE 1 (Nat.le_of_ble_eq_true rfl) rfl
  obtain ⟨i2a, i2b, i2c, i2d⟩ := pz_gi hE 2 2147483648 2147484448 (Nat.le_of_ble_eq_true rfl) rfl
  obtain ⟨i3a, i3b, i3c, i3d⟩ := pz_gi hE 3 2147483648 2147484448 (Nat.le_of_ble_eq_true rfl) rfl
  obtain ⟨i4a, i4b, i4c, i4d⟩ := pz_gi hE 4 2147483696 2147483705 (Nat.le_of_ble_eq_true rfl) rfl
  obtain ⟨i5a, i5b, i5c, i5d⟩ := pz_gi hE 5 2147483648 2147484647 (Nat.le_of_ble_eq_true rfl) rfl
  obtain ⟨i6a, i6b, i6c, i6d⟩ := pz_gi hE 6 0 4294967295 (Nat.le_of_ble_eq_true rfl) rfl
  obtain ⟨i7a, i7b, i7c, i7d⟩ := pz_gi hE 7 0 4294967295 (Nat.le_of_ble_eq_true rfl) rfl
  obtain ⟨i8a, i8b, i8c, i8d⟩ := pz_gi hE 8 0 4294967295 (Nat.le_of_ble_eq_true rfl) rfl
  have c_next : ay_at hp 173 13 = some (ρ 2) := ay_gfj hE 702 52 11 173 13 ax_m2 (ax_vlq rfl rfl) (ax_vlj rfl rfl)
  have c_size : ay_at hp 173 12 = some (ρ 3) := ay_gfj hE 702 48 15 173 12 ax_m3 (ax_vlq rfl rfl) (ax_vlj rfl rfl)
  have r1 : (ρ 2 / 4 + 2147483648) % 4294967296 < (ρ 3 / 4 + 2147483648) % 4294967296 := pz_gc hE 2 11 15 (Nat.le_of_ble_eq_true rfl) ax_m4
  have c_tape : ay_at hp 183 (ρ 2 / 4) = some (ρ 4) := ay_gf hE 742 11 19 183 ax_m5 (ax_vlq rfl rfl)
  have c_number : ay_at hp 173 16 = some (ρ 5) := ay_gfj hE 702 64 23 173 16 ax_m6 (ax_vlq rfl rfl) (ax_vlj rfl rfl)
  have s1 : (ρ 8 / 4 + 2147483648) % 4294967296 + (192 / 4 + 2147483648) % 4294967296 = (ρ 7 / 4 + 2147483648) % 4294967296 + 2147483648 := pz_gs hE 35 192 31 ax_m7
  have s2 : (ρ 6 / 4 + 2147483648) % 4294967296 + (ρ 4 / 4 + 2147483648) % 4294967296 = (ρ 7 / 4 + 2147483648) % 4294967296 + 2147483648 := pz_gs hE 27 19 31 ax_m8
  obtain ⟨-, -, F131⟩ : ay_ex hp 173 ∧ ay_ex hp 183 ∧ pz_x30 (ρ 0) (ay_at hp 173 12) (ay_at hp 183) := (ax_XF_lt (x := 131) (Nat.le_of_ble_eq_true rfl)).mp (ax_gx hE (131, [3]) ax_m0)
  rw [c_size] at F131
  obtain ⟨-, -, F158⟩ : ay_ex hp 173 ∧ ay_ex hp 173 ∧ pz_y158 (ρ 0) (ρ 1) (ay_at hp 173 13) (ay_at hp 173 16) := (ax_XF_lt (x := 158) (Nat.le_of_ble_eq_true rfl)).mp (ax_gx hE (158, [3, 7]) ax_m1)
  rw [c_next] at F158
  rw [c_number] at F158
  have hb : ρ 2 / 4 < pz_gN (ρ 0) → pz_b (pz_gt (ρ 0)) (ρ 2 / 4) = ρ 4 / 4 := fun hl => by
    have e := F131.2.2 (ρ 2 / 4) hl
    rw [c_tape] at e
    have e := Option.some.inj e
    omega
  have hN : ρ 3 / 4 = pz_gN (ρ 0) := F131.1
  have hlt : ρ 2 / 4 < pz_gN (ρ 0) := by omega
  have hd : pz_dg (pz_b (pz_gt (ρ 0)) (ρ 2 / 4)) = true := by rw [hb hlt]; exact pz_dg_yes (pz_ps 48 57 i4b i4c i4d (by decide)).1 (pz_ps 48 57 i4b i4c i4d (by decide)).2
  obtain ⟨r, m1, m2, m3⟩ := ay_mk hE 2 40 23 27 (by decide) (by decide)
  replace m1 : some (40 / 4 * (ρ 5 / 4) % 4294967296) = some r := m1
  have m1 := Option.some.inj m1
  replace m3 : ρ 6 = 4 * r := m3
  have hc1 := (pz_ps 48 57 i4b i4c i4d (by decide))
  have ho1 := (pz_ps 0 999 i5b i5c i5d (by decide)).2
  have hr : ρ 6 / 4 = 10 * (ρ 5 / 4) := by
    clear s1 s2 r1
    omega
  have hz : ρ 7 / 4 = 10 * (ρ 5 / 4) + ρ 4 / 4 := by
    rw [pz_sm (by omega) (by omega) i7b s2, hr]
  have ey : ρ 8 / 4 = 10 * (ρ 5 / 4) + (ρ 4 / 4 - 48) := by
    rw [hz] at s1
    clear s2 r1 m1
    omega
  have hv : ρ 8 / 4 = if 999 < ρ 5 / 4 then ρ 5 / 4 else 10 * (ρ 5 / 4) + (ρ 4 / 4 - 48) := by rw [if_neg (by omega), ey]
  refine ⟨(fun y hy => by cases hy), _, List.mem_cons_self, ρ, fun _ _ => rfl, ax_px hE rfl (fun x hx => ?_)⟩
  cases List.mem_singleton.mp hx
  refine (ax_XF_wr (x := 159) (Nat.le_of_ble_eq_true rfl)).mpr ?_
  show ay_ex (ax_upd hp 702 (64) (ρ 8)) 173 ∧ ay_ex (ax_upd hp 702 (64) (ρ 8)) 173 ∧ pz_y159 (ρ 0) (ρ 1) (ay_at (ax_upd hp 702 (64) (ρ 8)) 173 13) (ay_at (ax_upd hp 702 (64) (ρ 8)) 173 16)
  obtain ⟨o0, ho0⟩ := ay_some hT (q := 173) (g := 11) (n := 58) (ax_wc hw ax_cg_173) (ax_wn hw ax_cn_11) (j := 64 / 4) (Nat.le_of_ble_eq_true rfl)
  have u1 : ∀ q, q ≠ 173 → ay_at (ax_upd hp 702 64 (ρ 8)) q = ay_at hp q := fun q hq => funext (fun j => ay_upd_ne hT.1 hq j)
  have u2 : ∀ j, ay_at (ax_upd hp 702 64 (ρ 8)) 173 j = if j = 16 then some (ρ 8) else ay_at hp 173 j := fun j => ay_upd_eq hT.1 rfl ho0 j
  refine ⟨ay_ex_upd hT.1 (ax_cellT hT (q := 173) (g := 11) (ax_wc hw ax_cg_173)), ay_ex_upd hT.1 (ax_cellT hT (q := 173) (g := 11) (ax_wc hw ax_cg_173)), ?_⟩
  rw [u2 13, if_neg (show ¬ 13 = 16 from Nat.ne_of_beq_eq_false rfl), u2 16, if_pos rfl]
  rw [c_next]
  refine ⟨(pz_e_on hlt hd).symm.trans F158.1, ?_⟩
  show pz_n (pz_gt (ρ 0)) (pz_gN (ρ 0)) (ρ 2 / 4 + 1) (pz_m (ρ 8 / 4)) = _
  have hm := pz_m_ref (v := ρ 5 / 4) (d := ρ 4 / 4 - 48) (by have := (pz_ps 48 57 i4b i4c i4d (by decide)).2; omega)
  rw [← hv, ← hb hlt] at hm
  rw [hm]
  exact (pz_n_on hlt hd).symm.trans F158.2
theorem axq0_sn3 : ax_RO ax_wM0 (ax_XM 0) axu0_sn3 := axqg_sn3 ax_WW0
theorem axqg_sn3z {w : ax_W} {b : Nat} (hw : ax_WW w) : ax_RO w (ax_XM b) axu0_sn3z := by
  intro ρ hp hE hT
  have j0 : ρ 0 % 4 = 1 := pz_gj hE 0 (Nat.le_of_ble_eq_true rfl) rfl
  have j1 : ρ 1 % 4 = 1 := pz_gj hE 1 (Nat.le_of_ble_eq_true rfl) rfl
  obtain ⟨i2a, i2b, i2c, i2d⟩ := pz_gi hE 2 2147483648 2147484448 (Nat.le_of_ble_eq_true rfl) rfl
  obtain ⟨i3a, i3b, i3c, i3d⟩ := pz_gi hE 3 2147483648 2147484448 (Nat.le_of_ble_eq_true rfl) rfl
  obtain ⟨i4a, i4b, i4c, i4d⟩ := pz_gi hE 4 2147483696 2147483705 (Nat.le_of_ble_eq_true rfl) rfl
  obtain ⟨i5a, i5b, i5c, i5d⟩ := pz_gi hE 5 0 4294967295 (Nat.le_of_ble_eq_true rfl) rfl
  obtain ⟨i6a, i6b, i6c, i6d⟩ := pz_gi hE 6 0 4294967295 (Nat.le_of_ble_eq_true rfl) rfl
  have c_next : ay_at hp 173 13 = some (ρ 2) := ay_gfj hE 702 52 11 173 13 ax_m2 (ax_vlq rfl rfl) (ax_vlj rfl rfl)
  have c_size : ay_at hp 173 12 = some (ρ 3) := ay_gfj hE 702 48 15 173 12 ax_m3 (ax_vlq rfl rfl) (ax_vlj rfl rfl)
  have r1 : (ρ 2 / 4 + 2147483648) % 4294967296 < (ρ 3 / 4 + 2147483648) % 4294967296 := pz_gc hE 2 11 15 (Nat.le_of_ble_eq_true rfl) ax_m4
  have c_tape : ay_at hp 183 (ρ 2 / 4) = some (ρ 4) := ay_gf hE 742 11 19 183 ax_m5 (ax_vlq rfl rfl)
  have c_number : ay_at hp 173 16 = some (0) := ay_gfj hE 702 64 0 173 16 ax_m6 (ax_vlq rfl rfl) (ax_vlj rfl rfl)
  have s1 : (ρ 6 / 4 + 2147483648) % 4294967296 + (192 / 4 + 2147483648) % 4294967296 = (ρ 5 / 4 + 2147483648) % 4294967296 + 2147483648 := pz_gs hE 27 192 23 ax_m7
  have s2 : (0 / 4 + 2147483648) % 4294967296 + (ρ 4 / 4 + 2147483648) % 4294967296 = (ρ 5 / 4 + 2147483648) % 4294967296 + 2147483648 := pz_gs hE 0 19 23 ax_m8
  obtain ⟨-, -, F131⟩ : ay_ex hp 173 ∧ ay_ex hp 183 ∧ pz_x30 (ρ 0) (ay_at hp 173 12) (ay_at hp 183) := (ax_XF_lt (x := 131) (Nat.le_of_ble_eq_true rfl)).mp (ax_gx hE (131, [3]) ax_m0)
  rw [c_size] at F131
  obtain ⟨-, -, F158⟩ : ay_ex hp 173 ∧ ay_ex hp 173 ∧ pz_y158 (ρ 0) (ρ 1) (ay_at hp 173 13) (ay_at hp 173 16) := (ax_XF_lt (x := 158) (Nat.le_of_ble_eq_true rfl)).mp (ax_gx hE (158, [3, 7]) ax_m1)
  rw [c_next] at F158
  rw [c_number] at F158
  have hb : ρ 2 / 4 < pz_gN (ρ 0) → pz_b (pz_gt (ρ 0)) (ρ 2 / 4) = ρ 4 / 4 := fun hl => by
    have e := F131.2.2 (ρ 2 / 4) hl
    rw [c_tape] at e
    have e := Option.some.inj e
    omega
  have hN : ρ 3 / 4 = pz_gN (ρ 0) := F131.1
  have hlt : ρ 2 / 4 < pz_gN (ρ 0) := by omega
  have hd : pz_dg (pz_b (pz_gt (ρ 0)) (ρ 2 / 4)) = true := by rw [hb hlt]; exact pz_dg_yes (pz_ps 48 57 i4b i4c i4d (by decide)).1 (pz_ps 48 57 i4b i4c i4d (by decide)).2
  have hc1 := (pz_ps 48 57 i4b i4c i4d (by decide))
  have hz : ρ 5 / 4 = 0 + ρ 4 / 4 := pz_sm (x := 0) (by decide) (by omega) i5b s2
  have ey : ρ 6 / 4 = ρ 4 / 4 - 48 := by
    rw [hz] at s1
    clear s2 r1
    omega
  have hv : ρ 6 / 4 = if 999 < 0 / 4 then 0 / 4 else 10 * (0 / 4) + (ρ 4 / 4 - 48) := by rw [if_neg (by decide), ey]; omega
  refine ⟨(fun y hy => by cases hy), _, List.mem_cons_self, ρ, fun _ _ => rfl, ax_px hE rfl (fun x hx => ?_)⟩
  cases List.mem_singleton.mp hx
  refine (ax_XF_wr (x := 159) (Nat.le_of_ble_eq_true rfl)).mpr ?_
  show ay_ex (ax_upd hp 702 (64) (ρ 6)) 173 ∧ ay_ex (ax_upd hp 702 (64) (ρ 6)) 173 ∧ pz_y159 (ρ 0) (ρ 1) (ay_at (ax_upd hp 702 (64) (ρ 6)) 173 13) (ay_at (ax_upd hp 702 (64) (ρ 6)) 173 16)
  obtain ⟨o0, ho0⟩ := ay_some hT (q := 173) (g := 11) (n := 58) (ax_wc hw ax_cg_173) (ax_wn hw ax_cn_11) (j := 64 / 4) (Nat.le_of_ble_eq_true rfl)
  have u1 : ∀ q, q ≠ 173 → ay_at (ax_upd hp 702 64 (ρ 6)) q = ay_at hp q := fun q hq => funext (fun j => ay_upd_ne hT.1 hq j)
  have u2 : ∀ j, ay_at (ax_upd hp 702 64 (ρ 6)) 173 j = if j = 16 then some (ρ 6) else ay_at hp 173 j := fun j => ay_upd_eq hT.1 rfl ho0 j
  refine ⟨ay_ex_upd hT.1 (ax_cellT hT (q := 173) (g := 11) (ax_wc hw ax_cg_173)), ay_ex_upd hT.1 (ax_cellT hT (q := 173) (g := 11) (ax_wc hw ax_cg_173)), ?_⟩
  rw [u2 13, if_neg (show ¬ 13 = 16 from Nat.ne_of_beq_eq_false rfl), u2 16, if_pos rfl]
  rw [c_next]
  refine ⟨(pz_e_on hlt hd).symm.trans F158.1, ?_⟩
  show pz_n (pz_gt (ρ 0)) (pz_gN (ρ 0)) (ρ 2 / 4 + 1) (pz_m (ρ 6 / 4)) = _
  have hm := pz_m_ref (v := 0 / 4) (d := ρ 4 / 4 - 48) (by have := (pz_ps 48 57 i4b i4c i4d (by decide)).2; omega)
  rw [← hv, ← hb hlt] at hm
  rw [hm]
  exact (pz_n_on hlt hd).symm.trans F158.2
theorem axq0_sn3z : ax_RO ax_wM0 (ax_XM 0) axu0_sn3z := axqg_sn3z ax_WW0
theorem axqg_sn4 {w : ax_W} {b : Nat} (hw : ax_WW w) : ax_RO w (ax_XM b) axu0_sn4 := by
  intro ρ hp hE hT
  have j0 : ρ 0 % 4 = 1 := pz_gj hE 0 (Nat.le_of_ble_eq_true rfl) rfl
  have j1 : ρ 1 % 4 = 1 := pz_gj hE 1 (Nat.le_of_ble_eq_true rfl) rfl
  obtain ⟨i2a, i2b, i2c, i2d⟩ := pz_gi hE 2 2147483648 2147484448 (Nat.le_of_ble_eq_true rfl) rfl
  obtain ⟨i3a, i3b, i3c, i3d⟩ := pz_gi hE 3 0 4294967295 (Nat.le_of_ble_eq_true rfl) rfl
  have c_next : ay_at hp 173 13 = some (ρ 2) := ay_gfj hE 702 52 11 173 13 ax_m1 (ax_vlq rfl rfl) (ax_vlj rfl rfl)
  have s1 : (ρ 2 / 4 + 2147483648) % 4294967296 + (4 / 4 + 2147483648) % 4294967296 = (ρ 3 / 4 + 2147483648) % 4294967296 + 2147483648 := pz_gs hE 11 4 15 ax_m2
  obtain ⟨-, -, F159⟩ : ay_ex hp 173 ∧ ay_ex hp 173 ∧ pz_y159 (ρ 0) (ρ 1) (ay_at hp 173 13) (ay_at hp 173 16) := (ax_XF_lt (x := 159) (Nat.le_of_ble_eq_true rfl)).mp (ax_gx hE (159, [3, 7]) ax_m0)
  rw [c_next] at F159
  have e : ρ 3 / 4 = ρ 2 / 4 + 1 := by omega
  refine ⟨(fun y hy => by cases hy), _, List.mem_cons_self, ρ, fun _ _ => rfl, ax_px hE rfl (fun x hx => ?_)⟩
  cases List.mem_singleton.mp hx
  refine (ax_XF_wr (x := 158) (Nat.le_of_ble_eq_true rfl)).mpr ?_
  show ay_ex (ax_upd hp 702 (52) (ρ 3)) 173 ∧ ay_ex (ax_upd hp 702 (52) (ρ 3)) 173 ∧ pz_y158 (ρ 0) (ρ 1) (ay_at (ax_upd hp 702 (52) (ρ 3)) 173 13) (ay_at (ax_upd hp 702 (52) (ρ 3)) 173 16)
  obtain ⟨o0, ho0⟩ := ay_some hT (q := 173) (g := 11) (n := 58) (ax_wc hw ax_cg_173) (ax_wn hw ax_cn_11) (j := 52 / 4) (Nat.le_of_ble_eq_true rfl)
  have u1 : ∀ q, q ≠ 173 → ay_at (ax_upd hp 702 52 (ρ 3)) q = ay_at hp q := fun q hq => funext (fun j => ay_upd_ne hT.1 hq j)
  have u2 : ∀ j, ay_at (ax_upd hp 702 52 (ρ 3)) 173 j = if j = 13 then some (ρ 3) else ay_at hp 173 j := fun j => ay_upd_eq hT.1 rfl ho0 j
  refine ⟨ay_ex_upd hT.1 (ax_cellT hT (q := 173) (g := 11) (ax_wc hw ax_cg_173)), ay_ex_upd hT.1 (ax_cellT hT (q := 173) (g := 11) (ax_wc hw ax_cg_173)), ?_⟩
  rw [u2 13, if_pos rfl, u2 16, if_neg (show ¬ 16 = 13 from Nat.ne_of_beq_eq_false rfl)]
  refine ⟨?_, ?_⟩
  · show pz_e pz_dg (pz_gt (ρ 0)) (pz_gN (ρ 0)) (ρ 3 / 4) = _
    rw [e]
    exact F159.1
  · show pz_n (pz_gt (ρ 0)) (pz_gN (ρ 0)) (ρ 3 / 4) _ = _
    rw [e]
    exact F159.2
theorem axq0_sn4 : ax_RO ax_wM0 (ax_XM 0) axu0_sn4 := axqg_sn4 ax_WW0
theorem axqg_sn5_e {w : ax_W} {b : Nat} (hw : ax_WW w) : ax_RO w (ax_XM b) axu0_sn5_e := by
  intro ρ hp hE hT
  have j0 : ρ 0 % 4 = 1 := pz_gj hE 0 (Nat.le_of_ble_eq_true rfl) rfl
  have j1 : ρ 1 % 4 = 1 := pz_gj hE 1 (Nat.le_of_ble_eq_true rfl) rfl
  obtain ⟨i2a, i2b, i2c, i2d⟩ := pz_gi hE 2 2147483648 2147484448 (Nat.le_of_ble_eq_true rfl) rfl
  obtain ⟨i3a, i3b, i3c, i3d⟩ := pz_gi hE 3 2147483648 2147484448 (Nat.le_of_ble_eq_true rfl) rfl
  have c_token : ay_at hp 173 15 = some (12) := ay_gfj hE 702 60 12 173 15 ax_m4 (ax_vlq rfl rfl) (ax_vlj rfl rfl)
  have c_next : ay_at hp 173 13 = some (ρ 2) := ay_gfj hE 702 52 11 173 13 ax_m5 (ax_vlq rfl rfl) (ax_vlj rfl rfl)
  have c_size : ay_at hp 173 12 = some (ρ 3) := ay_gfj hE 702 48 15 173 12 ax_m6 (ax_vlq rfl rfl) (ax_vlj rfl rfl)
  have r1 : (ρ 3 / 4 + 2147483648) % 4294967296 ≤ (ρ 2 / 4 + 2147483648) % 4294967296 := pz_gc hE 3 11 15 (Nat.le_of_ble_eq_true rfl) ax_m7
  obtain ⟨-, -, F131⟩ : ay_ex hp 173 ∧ ay_ex hp 183 ∧ pz_x30 (ρ 0) (ay_at hp 173 12) (ay_at hp 183) := (ax_XF_lt (x := 131) (Nat.le_of_ble_eq_true rfl)).mp (ax_gx hE (131, [3]) ax_m0)
  rw [c_size] at F131
  obtain ⟨-, F154⟩ : ay_ex hp 173 ∧ ay_ln (ay_at hp 173 14) = pz_at (pz_gt (ρ 0)) (pz_gN (ρ 0)) (pz_p (pz_cF (ρ 0) (ρ 1))) := (ax_XF_lt (x := 154) (Nat.le_of_ble_eq_true rfl)).mp (ax_gx hE (154, [3, 7]) ax_m1)
  have F168 : pz_kd (pz_gt (ρ 0)) (pz_gN (ρ 0)) (pz_p (pz_cF (ρ 0) (ρ 1))) = (8) / 4 := (ax_XF_lt (x := 168) (Nat.le_of_ble_eq_true rfl)).mp (ax_gx hE (168, [3, 7, 8]) ax_m2)
  obtain ⟨-, -, F158⟩ : ay_ex hp 173 ∧ ay_ex hp 173 ∧ pz_y158 (ρ 0) (ρ 1) (ay_at hp 173 13) (ay_at hp 173 16) := (ax_XF_lt (x := 158) (Nat.le_of_ble_eq_true rfl)).mp (ax_gx hE (158, [3, 7]) ax_m3)
  rw [c_next] at F158
  have hN : ρ 3 / 4 = pz_gN (ρ 0) := F131.1
  have hof : pz_gN (ρ 0) ≤ ρ 2 / 4 ∨ pz_dg (pz_b (pz_gt (ρ 0)) (ρ 2 / 4)) = false := Or.inl (by omega)
  have e : pz_e pz_dg (pz_gt (ρ 0)) (pz_gN (ρ 0)) (ρ 2 / 4) = ρ 2 / 4 := pz_e_off hof
  refine ⟨(fun y hy => by cases hy), _, List.mem_cons_self, ρ, fun _ _ => rfl, ax_px hE rfl (fun x hx => ?_)⟩
  cases List.mem_singleton.mp hx
  refine (ax_XF_lt (x := 151) (Nat.le_of_ble_eq_true rfl)).mpr ?_
  show ay_ex hp 173 ∧ ay_ex hp 173 ∧ ay_ex hp 173 ∧ ay_ex hp 173 ∧ ay_ex hp 173 ∧ pz_y151 (ρ 0) (ρ 1) (ay_at hp 173 13) (ay_at hp 173 14) (ay_at hp 173 15) (ay_at hp 173 16) (ay_at hp 173 17)
  refine ⟨(ax_cellT hT (q := 173) (g := 11) (ax_wc hw ax_cg_173)), (ax_cellT hT (q := 173) (g := 11) (ax_wc hw ax_cg_173)), (ax_cellT hT (q := 173) (g := 11) (ax_wc hw ax_cg_173)), (ax_cellT hT (q := 173) (g := 11) (ax_wc hw ax_cg_173)), (ax_cellT hT (q := 173) (g := 11) (ax_wc hw ax_cg_173)), ?_⟩
  rw [c_token]
  rw [c_next]
  refine ⟨e.symm.trans F158.1, F154, by show 12 / 4 = pz_tok _; rw [F168]; rfl, fun _ => ?_, fun z => absurd (F168.symm.trans z) (by decide)⟩
  have e3 : pz_n (pz_gt (ρ 0)) (pz_gN (ρ 0)) (ρ 2 / 4) _ = _ := F158.2
  rw [pz_n_off hof] at e3
  exact e3
theorem axq0_sn5_e : ax_RO ax_wM0 (ax_XM 0) axu0_sn5_e := axqg_sn5_e ax_WW0
theorem axqg_sn5_a {w : ax_W} {b : Nat} (hw : ax_WW w) : ax_RO w (ax_XM b) axu0_sn5_a := by
  intro ρ hp hE hT
  have j0 : ρ 0 % 4 = 1 := pz_gj hE 0 (Nat.le_of_ble_eq_true rfl) rfl
  have j1 : ρ 1 % 4 = 1 := pz_gj hE 1 (Nat.le_of_ble_eq_true rfl) rfl
  obtain ⟨i2a, i2b, i2c, i2d⟩ := pz_gi hE 2 2147483648 2147484448 (Nat.le_of_ble_eq_true rfl) rfl
  obtain ⟨i3a, i3b, i3c, i3d⟩ := pz_gi hE 3 2147483520 2147483695 (Nat.le_of_ble_eq_true rfl) rfl
  have c_token : ay_at hp 173 15 = some (12) := ay_gfj hE 702 60 12 173 15 ax_m4 (ax_vlq rfl rfl) (ax_vlj rfl rfl)
  have c_next : ay_at hp 173 13 = some (ρ 2) := ay_gfj hE 702 52 11 173 13 ax_m5 (ax_vlq rfl rfl) (ax_vlj rfl rfl)
  have c_tape : ay_at hp 183 (ρ 2 / 4) = some (ρ 3) := ay_gf hE 742 11 15 183 ax_m6 (ax_vlq rfl rfl)
  obtain ⟨-, -, F131⟩ : ay_ex hp 173 ∧ ay_ex hp 183 ∧ pz_x30 (ρ 0) (ay_at hp 173 12) (ay_at hp 183) := (ax_XF_lt (x := 131) (Nat.le_of_ble_eq_true rfl)).mp (ax_gx hE (131, [3]) ax_m0)
  obtain ⟨-, F154⟩ : ay_ex hp 173 ∧ ay_ln (ay_at hp 173 14) = pz_at (pz_gt (ρ 0)) (pz_gN (ρ 0)) (pz_p (pz_cF (ρ 0) (ρ 1))) := (ax_XF_lt (x := 154) (Nat.le_of_ble_eq_true rfl)).mp (ax_gx hE (154, [3, 7]) ax_m1)
  have F168 : pz_kd (pz_gt (ρ 0)) (pz_gN (ρ 0)) (pz_p (pz_cF (ρ 0) (ρ 1))) = (8) / 4 := (ax_XF_lt (x := 168) (Nat.le_of_ble_eq_true rfl)).mp (ax_gx hE (168, [3, 7, 8]) ax_m2)
  obtain ⟨-, -, F158⟩ : ay_ex hp 173 ∧ ay_ex hp 173 ∧ pz_y158 (ρ 0) (ρ 1) (ay_at hp 173 13) (ay_at hp 173 16) := (ax_XF_lt (x := 158) (Nat.le_of_ble_eq_true rfl)).mp (ax_gx hE (158, [3, 7]) ax_m3)
  rw [c_next] at F158
  have hb : ρ 2 / 4 < pz_gN (ρ 0) → pz_b (pz_gt (ρ 0)) (ρ 2 / 4) = ρ 3 / 4 := fun hl => by
    have e := F131.2.2 (ρ 2 / 4) hl
    rw [c_tape] at e
    have e := Option.some.inj e
    omega
  have hof : pz_gN (ρ 0) ≤ ρ 2 / 4 ∨ pz_dg (pz_b (pz_gt (ρ 0)) (ρ 2 / 4)) = false := (by
    by_cases hl : ρ 2 / 4 < pz_gN (ρ 0)
    · exact Or.inr (by rw [hb hl]; exact pz_dg_no (by omega))
    · exact Or.inl (by omega))
  have e : pz_e pz_dg (pz_gt (ρ 0)) (pz_gN (ρ 0)) (ρ 2 / 4) = ρ 2 / 4 := pz_e_off hof
  refine ⟨(fun y hy => by cases hy), _, List.mem_cons_self, ρ, fun _ _ => rfl, ax_px hE rfl (fun x hx => ?_)⟩
  cases List.mem_singleton.mp hx
  refine (ax_XF_lt (x := 151) (Nat.le_of_ble_eq_true rfl)).mpr ?_
  show ay_ex hp 173 ∧ ay_ex hp 173 ∧ ay_ex hp 173 ∧ ay_ex hp 173 ∧ ay_ex hp 173 ∧ pz_y151 (ρ 0) (ρ 1) (ay_at hp 173 13) (ay_at hp 173 14) (ay_at hp 173 15) (ay_at hp 173 16) (ay_at hp 173 17)
  refine ⟨(ax_cellT hT (q := 173) (g := 11) (ax_wc hw ax_cg_173)), (ax_cellT hT (q := 173) (g := 11) (ax_wc hw ax_cg_173)), (ax_cellT hT (q := 173) (g := 11) (ax_wc hw ax_cg_173)), (ax_cellT hT (q := 173) (g := 11) (ax_wc hw ax_cg_173)), (ax_cellT hT (q := 173) (g := 11) (ax_wc hw ax_cg_173)), ?_⟩
  rw [c_token]
  rw [c_next]
  refine ⟨e.symm.trans F158.1, F154, by show 12 / 4 = pz_tok _; rw [F168]; rfl, fun _ => ?_, fun z => absurd (F168.symm.trans z) (by decide)⟩
  have e3 : pz_n (pz_gt (ρ 0)) (pz_gN (ρ 0)) (ρ 2 / 4) _ = _ := F158.2
  rw [pz_n_off hof] at e3
  exact e3
theorem axq0_sn5_a : ax_RO ax_wM0 (ax_XM 0) axu0_sn5_a := axqg_sn5_a ax_WW0
theorem axqg_sn5_b {w : ax_W} {b : Nat} (hw : ax_WW w) : ax_RO w (ax_XM b) axu0_sn5_b := by
  intro ρ hp hE hT
  have j0 : ρ 0 % 4 = 1 := pz_gj hE 0 (Nat.le_of_ble_eq_true rfl) rfl
  have j1 : ρ 1 % 4 = 1 := pz_gj hE 1 (Nat.le_of_ble_eq_true rfl) rfl
  obtain ⟨i2a, i2b, i2c, i2d⟩ := pz_gi hE 2 2147483648 2147484448 (Nat.le_of_ble_eq_true rfl) rfl
  obtain ⟨i3a, i3b, i3c, i3d⟩ := pz_gi hE 3 2147483706 2147483775 (Nat.le_of_ble_eq_true rfl) rfl
  have c_token : ay_at hp 173 15 = some (12) := ay_gfj hE 702 60 12 173 15 ax_m4 (ax_vlq rfl rfl) (ax_vlj rfl rfl)
  have c_next : ay_at hp 173 13 = some (ρ 2) := ay_gfj hE 702 52 11 173 13 ax_m5 (ax_vlq rfl rfl) (ax_vlj rfl rfl)
  have c_tape : ay_at hp 183 (ρ 2 / 4) = some (ρ 3) := ay_gf hE 742 11 15 183 ax_m6 (ax_vlq rfl rfl)
  obtain ⟨-, -, F131⟩ : ay_ex hp 173 ∧ ay_ex hp 183 ∧ pz_x30 (ρ 0) (ay_at hp 173 12) (ay_at hp 183) := (ax_XF_lt (x := 131) (Nat.le_of_ble_eq_true rfl)).mp (ax_gx hE (131, [3]) ax_m0)
  obtain ⟨-, F154⟩ : ay_ex hp 173 ∧ ay_ln (ay_at hp 173 14) = pz_at (pz_gt (ρ 0)) (pz_gN (ρ 0)) (pz_p (pz_cF (ρ 0) (ρ 1))) := (ax_XF_lt (x := 154) (Nat.le_of_ble_eq_true rfl)).mp (ax_gx hE (154, [3, 7]) ax_m1)
  have F168 : pz_kd (pz_gt (ρ 0)) (pz_gN (ρ 0)) (pz_p (pz_cF (ρ 0) (ρ 1))) = (8) / 4 := (ax_XF_lt (x := 168) (Nat.le_of_ble_eq_true rfl)).mp (ax_gx hE (168, [3, 7, 8]) ax_m2)
  obtain ⟨-, -, F158⟩ : ay_ex hp 173 ∧ ay_ex hp 173 ∧ pz_y158 (ρ 0) (ρ 1) (ay_at hp 173 13) (ay_at hp 173 16) := (ax_XF_lt (x := 158) (Nat.le_of_ble_eq_true rfl)).mp (ax_gx hE (158, [3, 7]) ax_m3)
  rw [c_next] at F158
  have hb : ρ 2 / 4 < pz_gN (ρ 0) → pz_b (pz_gt (ρ 0)) (ρ 2 / 4) = ρ 3 / 4 := fun hl => by
    have e := F131.2.2 (ρ 2 / 4) hl
    rw [c_tape] at e
    have e := Option.some.inj e
    omega
  have hof : pz_gN (ρ 0) ≤ ρ 2 / 4 ∨ pz_dg (pz_b (pz_gt (ρ 0)) (ρ 2 / 4)) = false := (by
    by_cases hl : ρ 2 / 4 < pz_gN (ρ 0)
    · exact Or.inr (by rw [hb hl]; exact pz_dg_no (by omega))
    · exact Or.inl (by omega))
  have e : pz_e pz_dg (pz_gt (ρ 0)) (pz_gN (ρ 0)) (ρ 2 / 4) = ρ 2 / 4 := pz_e_off hof
  refine ⟨(fun y hy => by cases hy), _, List.mem_cons_self, ρ, fun _ _ => rfl, ax_px hE rfl (fun x hx => ?_)⟩
  cases List.mem_singleton.mp hx
  refine (ax_XF_lt (x := 151) (Nat.le_of_ble_eq_true rfl)).mpr ?_
  show ay_ex hp 173 ∧ ay_ex hp 173 ∧ ay_ex hp 173 ∧ ay_ex hp 173 ∧ ay_ex hp 173 ∧ pz_y151 (ρ 0) (ρ 1) (ay_at hp 173 13) (ay_at hp 173 14) (ay_at hp 173 15) (ay_at hp 173 16) (ay_at hp 173 17)
  refine ⟨(ax_cellT hT (q := 173) (g := 11) (ax_wc hw ax_cg_173)), (ax_cellT hT (q := 173) (g := 11) (ax_wc hw ax_cg_173)), (ax_cellT hT (q := 173) (g := 11) (ax_wc hw ax_cg_173)), (ax_cellT hT (q := 173) (g := 11) (ax_wc hw ax_cg_173)), (ax_cellT hT (q := 173) (g := 11) (ax_wc hw ax_cg_173)), ?_⟩
  rw [c_token]
  rw [c_next]
  refine ⟨e.symm.trans F158.1, F154, by show 12 / 4 = pz_tok _; rw [F168]; rfl, fun _ => ?_, fun z => absurd (F168.symm.trans z) (by decide)⟩
  have e3 : pz_n (pz_gt (ρ 0)) (pz_gN (ρ 0)) (ρ 2 / 4) _ = _ := F158.2
  rw [pz_n_off hof] at e3
  exact e3
theorem axq0_sn5_b : ax_RO ax_wM0 (ax_XM 0) axu0_sn5_b := axqg_sn5_b ax_WW0
theorem axqg_ia1_59 {w : ax_W} {b : Nat} (hw : ax_WW w) : ax_RO w (ax_XM b) axu0_ia1_59 := by
  intro ρ hp hE hT
  have j0 : ρ 0 % 4 = 1 := pz_gj hE 0 (Nat.le_of_ble_eq_true rfl) rfl
  have j1 : ρ 1 % 4 = 1 := pz_gj hE 1 (Nat.le_of_ble_eq_true rfl) rfl
  obtain ⟨i2a, i2b, i2c, i2d⟩ := pz_gi hE 2 2147483652 2147483652 (Nat.le_of_ble_eq_true rfl) rfl
  obtain ⟨i3a, i3b, i3c, i3d⟩ := pz_gi hE 3 2147483648 2147484448 (Nat.le_of_ble_eq_true rfl) rfl
  obtain ⟨i4a, i4b, i4c, i4d⟩ := pz_gi hE 4 2147483648 2147484448 (Nat.le_of_ble_eq_true rfl) rfl
  obtain ⟨i5a, i5b, i5c, i5d⟩ := pz_gi hE 5 2147483707 2147483707 (Nat.le_of_ble_eq_true rfl) rfl
  have c_token : ay_at hp 173 15 = some (ρ 2) := ay_gfj hE 702 60 11 173 15 ax_m2 (ax_vlq rfl rfl) (ax_vlj rfl rfl)
  have c_at : ay_at hp 173 14 = some (ρ 3) := ay_gfj hE 702 56 15 173 14 ax_m3 (ax_vlq rfl rfl) (ax_vlj rfl rfl)
  have c_size : ay_at hp 173 12 = some (ρ 4) := ay_gfj hE 702 48 19 173 12 ax_m4 (ax_vlq rfl rfl) (ax_vlj rfl rfl)
  have r1 : (ρ 3 / 4 + 2147483648) % 4294967296 < (ρ 4 / 4 + 2147483648) % 4294967296 := pz_gc hE 2 15 19 (Nat.le_of_ble_eq_true rfl) ax_m5
  have c_tape : ay_at hp 183 (ρ 3 / 4) = some (ρ 5) := ay_gf hE 742 15 23 183 ax_m6 (ax_vlq rfl rfl)
  obtain ⟨-, -, F131⟩ : ay_ex hp 173 ∧ ay_ex hp 183 ∧ pz_x30 (ρ 0) (ay_at hp 173 12) (ay_at hp 183) := (ax_XF_lt (x := 131) (Nat.le_of_ble_eq_true rfl)).mp (ax_gx hE (131, [3]) ax_m0)
  rw [c_size] at F131
  obtain ⟨-, -, -, -, -, F151⟩ : ay_ex hp 173 ∧ ay_ex hp 173 ∧ ay_ex hp 173 ∧ ay_ex hp 173 ∧ ay_ex hp 173 ∧ pz_y151 (ρ 0) (ρ 1) (ay_at hp 173 13) (ay_at hp 173 14) (ay_at hp 173 15) (ay_at hp 173 16) (ay_at hp 173 17) := (ax_XF_lt (x := 151) (Nat.le_of_ble_eq_true rfl)).mp (ax_gx hE (151, [3, 7]) ax_m1)
  rw [c_token] at F151
  rw [c_at] at F151
  have ht : ρ 2 / 4 = pz_tok (pz_kd (pz_gt (ρ 0)) (pz_gN (ρ 0)) (pz_p (pz_cf (pz_gt (ρ 0)) (pz_gN (ρ 0)) (ρ 1 / 4)))) := F151.2.2.1
  have hc := pz_tok_c (pz_kd (pz_gt (ρ 0)) (pz_gN (ρ 0)) (pz_p (pz_cf (pz_gt (ρ 0)) (pz_gN (ρ 0)) (ρ 1 / 4))))
  have hk : 4 ≤ pz_kd (pz_gt (ρ 0)) (pz_gN (ρ 0)) (pz_p (pz_cf (pz_gt (ρ 0)) (pz_gN (ρ 0)) (ρ 1 / 4))) := (by rcases hc with h | h | h | h | h <;> omega)
  have hb : ρ 3 / 4 < pz_gN (ρ 0) → pz_b (pz_gt (ρ 0)) (ρ 3 / 4) = ρ 5 / 4 := fun hl => by
    have e := F131.2.2 (ρ 3 / 4) hl
    rw [c_tape] at e
    have e := Option.some.inj e
    omega
  have hN : ρ 4 / 4 = pz_gN (ρ 0) := F131.1
  have hlt : ρ 3 / 4 < pz_gN (ρ 0) := by omega
  have e1 : ρ 3 / 4 = pz_at (pz_gt (ρ 0)) (pz_gN (ρ 0)) (pz_p (pz_cf (pz_gt (ρ 0)) (pz_gN (ρ 0)) (ρ 1 / 4))) := F151.2.1
  have e := (pz_kd4 hk).2
  rw [← e1, hb hlt] at e
  refine ⟨(fun y hy => by cases hy), _, List.mem_cons_self, ρ, fun _ _ => rfl, ax_px hE rfl (fun x hx => ?_)⟩
  cases List.mem_singleton.mp hx
  refine (ax_XF_lt (x := 168) (Nat.le_of_ble_eq_true rfl)).mpr ?_
  show pz_kd (pz_gt (ρ 0)) (pz_gN (ρ 0)) (pz_p (pz_cF (ρ 0) (ρ 1))) = (236) / 4
  show pz_kd (pz_gt (ρ 0)) (pz_gN (ρ 0)) (pz_p (pz_cf (pz_gt (ρ 0)) (pz_gN (ρ 0)) (ρ 1 / 4))) = 59
  omega
theorem axq0_ia1_59 : ax_RO ax_wM0 (ax_XM 0) axu0_ia1_59 := axqg_ia1_59 ax_WW0
theorem axqg_ia2a_59 {w : ax_W} {b : Nat} (hw : ax_WW w) : ax_RO w (ax_XM b) axu0_ia2a_59 := by
  intro ρ hp hE hT
  have j0 : ρ 0 % 4 = 1 := pz_gj hE 0 (Nat.le_of_ble_eq_true rfl) rfl
  have j1 : ρ 1 % 4 = 1 := pz_gj hE 1 (Nat.le_of_ble_eq_true rfl) rfl
  obtain ⟨i2a, i2b, i2c, i2d⟩ := pz_gi hE 2 0 2147483651 (Nat.le_of_ble_eq_true rfl) rfl
  have c_token : ay_at hp 173 15 = some (ρ 2) := ay_gfj hE 702 60 11 173 15 ax_m2 (ax_vlq rfl rfl) (ax_vlj rfl rfl)
  obtain ⟨-, -, F131⟩ : ay_ex hp 173 ∧ ay_ex hp 183 ∧ pz_x30 (ρ 0) (ay_at hp 173 12) (ay_at hp 183) := (ax_XF_lt (x := 131) (Nat.le_of_ble_eq_true rfl)).mp (ax_gx hE (131, [3]) ax_m0)
  obtain ⟨-, -, -, -, -, F151⟩ : ay_ex hp 173 ∧ ay_ex hp 173 ∧ ay_ex hp 173 ∧ ay_ex hp 173 ∧ ay_ex hp 173 ∧ pz_y151 (ρ 0) (ρ 1) (ay_at hp 173 13) (ay_at hp 173 14) (ay_at hp 173 15) (ay_at hp 173 16) (ay_at hp 173 17) := (ax_XF_lt (x := 151) (Nat.le_of_ble_eq_true rfl)).mp (ax_gx hE (151, [3, 7]) ax_m1)
  rw [c_token] at F151
  have ht : ρ 2 / 4 = pz_tok (pz_kd (pz_gt (ρ 0)) (pz_gN (ρ 0)) (pz_p (pz_cf (pz_gt (ρ 0)) (pz_gN (ρ 0)) (ρ 1 / 4)))) := F151.2.2.1
  have hc := pz_tok_c (pz_kd (pz_gt (ρ 0)) (pz_gN (ρ 0)) (pz_p (pz_cf (pz_gt (ρ 0)) (pz_gN (ρ 0)) (ρ 1 / 4))))
  refine ⟨(fun y hy => by cases hy), _, List.mem_cons_self, ρ, fun _ _ => rfl, ax_px hE rfl (fun x hx => ?_)⟩
  cases List.mem_singleton.mp hx
  refine (ax_XF_lt (x := 169) (Nat.le_of_ble_eq_true rfl)).mpr ?_
  show pz_kd (pz_gt (ρ 0)) (pz_gN (ρ 0)) (pz_p (pz_cF (ρ 0) (ρ 1))) ≠ (236) / 4
  show pz_kd (pz_gt (ρ 0)) (pz_gN (ρ 0)) (pz_p (pz_cf (pz_gt (ρ 0)) (pz_gN (ρ 0)) (ρ 1 / 4))) ≠ 59
  intro z
  rcases hc with h | h | h | h | h <;> omega
theorem axq0_ia2a_59 : ax_RO ax_wM0 (ax_XM 0) axu0_ia2a_59 := axqg_ia2a_59 ax_WW0
theorem axqg_ia2b_59 {w : ax_W} {b : Nat} (hw : ax_WW w) : ax_RO w (ax_XM b) axu0_ia2b_59 := by
  intro ρ hp hE hT
  have j0 : ρ 0 % 4 = 1 := pz_gj hE 0 (Nat.le_of_ble_eq_true rfl) rfl
  have j1 : ρ 1 % 4 = 1 := pz_gj hE 1 (Nat.le_of_ble_eq_true rfl) rfl
  obtain ⟨i2a, i2b, i2c, i2d⟩ := pz_gi hE 2 2147483653 4294967295 (Nat.le_of_ble_eq_true rfl) rfl
  have c_token : ay_at hp 173 15 = some (ρ 2) := ay_gfj hE 702 60 11 173 15 ax_m2 (ax_vlq rfl rfl) (ax_vlj rfl rfl)
  obtain ⟨-, -, F131⟩ : ay_ex hp 173 ∧ ay_ex hp 183 ∧ pz_x30 (ρ 0) (ay_at hp 173 12) (ay_at hp 183) := (ax_XF_lt (x := 131) (Nat.le_of_ble_eq_true rfl)).mp (ax_gx hE (131, [3]) ax_m0)
  obtain ⟨-, -, -, -, -, F151⟩ : ay_ex hp 173 ∧ ay_ex hp 173 ∧ ay_ex hp 173 ∧ ay_ex hp 173 ∧ ay_ex hp 173 ∧ pz_y151 (ρ 0) (ρ 1) (ay_at hp 173 13) (ay_at hp 173 14) (ay_at hp 173 15) (ay_at hp 173 16) (ay_at hp 173 17) := (ax_XF_lt (x := 151) (Nat.le_of_ble_eq_true rfl)).mp (ax_gx hE (151, [3, 7]) ax_m1)
  rw [c_token] at F151
  have ht : ρ 2 / 4 = pz_tok (pz_kd (pz_gt (ρ 0)) (pz_gN (ρ 0)) (pz_p (pz_cf (pz_gt (ρ 0)) (pz_gN (ρ 0)) (ρ 1 / 4)))) := F151.2.2.1
  have hc := pz_tok_c (pz_kd (pz_gt (ρ 0)) (pz_gN (ρ 0)) (pz_p (pz_cf (pz_gt (ρ 0)) (pz_gN (ρ 0)) (ρ 1 / 4))))
  refine ⟨(fun y hy => by cases hy), _, List.mem_cons_self, ρ, fun _ _ => rfl, ax_px hE rfl (fun x hx => ?_)⟩
  cases List.mem_singleton.mp hx
  refine (ax_XF_lt (x := 169) (Nat.le_of_ble_eq_true rfl)).mpr ?_
  show pz_kd (pz_gt (ρ 0)) (pz_gN (ρ 0)) (pz_p (pz_cF (ρ 0) (ρ 1))) ≠ (236) / 4
  show pz_kd (pz_gt (ρ 0)) (pz_gN (ρ 0)) (pz_p (pz_cf (pz_gt (ρ 0)) (pz_gN (ρ 0)) (ρ 1 / 4))) ≠ 59
  intro z
  rcases hc with h | h | h | h | h <;> omega
theorem axq0_ia2b_59 : ax_RO ax_wM0 (ax_XM 0) axu0_ia2b_59 := axqg_ia2b_59 ax_WW0
theorem axqg_ia3a_59 {w : ax_W} {b : Nat} (hw : ax_WW w) : ax_RO w (ax_XM b) axu0_ia3a_59 := by
  intro ρ hp hE hT
  have j0 : ρ 0 % 4 = 1 := pz_gj hE 0 (Nat.le_of_ble_eq_true rfl) rfl
  have j1 : ρ 1 % 4 = 1 := pz_gj hE 1 (Nat.le_of_ble_eq_true rfl) rfl
  obtain ⟨i2a, i2b, i2c, i2d⟩ := pz_gi hE 2 2147483648 2147484448 (Nat.le_of_ble_eq_true rfl) rfl
  obtain ⟨i3a, i3b, i3c, i3d⟩ := pz_gi hE 3 2147483648 2147484448 (Nat.le_of_ble_eq_true rfl) rfl
  obtain ⟨i4a, i4b, i4c, i4d⟩ := pz_gi hE 4 2147483520 2147483706 (Nat.le_of_ble_eq_true rfl) rfl
  have c_at : ay_at hp 173 14 = some (ρ 2) := ay_gfj hE 702 56 11 173 14 ax_m2 (ax_vlq rfl rfl) (ax_vlj rfl rfl)
  have c_size : ay_at hp 173 12 = some (ρ 3) := ay_gfj hE 702 48 15 173 12 ax_m3 (ax_vlq rfl rfl) (ax_vlj rfl rfl)
  have r1 : (ρ 2 / 4 + 2147483648) % 4294967296 < (ρ 3 / 4 + 2147483648) % 4294967296 := pz_gc hE 2 11 15 (Nat.le_of_ble_eq_true rfl) ax_m4
  have c_tape : ay_at hp 183 (ρ 2 / 4) = some (ρ 4) := ay_gf hE 742 11 19 183 ax_m5 (ax_vlq rfl rfl)
  obtain ⟨-, -, F131⟩ : ay_ex hp 173 ∧ ay_ex hp 183 ∧ pz_x30 (ρ 0) (ay_at hp 173 12) (ay_at hp 183) := (ax_XF_lt (x := 131) (Nat.le_of_ble_eq_true rfl)).mp (ax_gx hE (131, [3]) ax_m0)
  rw [c_size] at F131
  obtain ⟨-, -, -, -, -, F151⟩ : ay_ex hp 173 ∧ ay_ex hp 173 ∧ ay_ex hp 173 ∧ ay_ex hp 173 ∧ ay_ex hp 173 ∧ pz_y151 (ρ 0) (ρ 1) (ay_at hp 173 13) (ay_at hp 173 14) (ay_at hp 173 15) (ay_at hp 173 16) (ay_at hp 173 17) := (ax_XF_lt (x := 151) (Nat.le_of_ble_eq_true rfl)).mp (ax_gx hE (151, [3, 7]) ax_m1)
  rw [c_at] at F151
  have hb : ρ 2 / 4 < pz_gN (ρ 0) → pz_b (pz_gt (ρ 0)) (ρ 2 / 4) = ρ 4 / 4 := fun hl => by
    have e := F131.2.2 (ρ 2 / 4) hl
    rw [c_tape] at e
    have e := Option.some.inj e
    omega
  have hN : ρ 3 / 4 = pz_gN (ρ 0) := F131.1
  have hlt : ρ 2 / 4 < pz_gN (ρ 0) := by omega
  have e1 : ρ 2 / 4 = pz_at (pz_gt (ρ 0)) (pz_gN (ρ 0)) (pz_p (pz_cf (pz_gt (ρ 0)) (pz_gN (ρ 0)) (ρ 1 / 4))) := F151.2.1
  refine ⟨(fun y hy => by cases hy), _, List.mem_cons_self, ρ, fun _ _ => rfl, ax_px hE rfl (fun x hx => ?_)⟩
  cases List.mem_singleton.mp hx
  refine (ax_XF_lt (x := 169) (Nat.le_of_ble_eq_true rfl)).mpr ?_
  show pz_kd (pz_gt (ρ 0)) (pz_gN (ρ 0)) (pz_p (pz_cF (ρ 0) (ρ 1))) ≠ (236) / 4
  show pz_kd (pz_gt (ρ 0)) (pz_gN (ρ 0)) (pz_p (pz_cf (pz_gt (ρ 0)) (pz_gN (ρ 0)) (ρ 1 / 4))) ≠ 59
  intro z
  have e := (pz_kd4 (show 4 ≤ pz_kd (pz_gt (ρ 0)) (pz_gN (ρ 0)) (pz_p (pz_cf (pz_gt (ρ 0)) (pz_gN (ρ 0)) (ρ 1 / 4))) by omega)).2
  rw [← e1, hb hlt] at e
  omega
theorem axq0_ia3a_59 : ax_RO ax_wM0 (ax_XM 0) axu0_ia3a_59 := axqg_ia3a_59 ax_WW0
theorem axqg_ia3b_59 {w : ax_W} {b : Nat} (hw : ax_WW w) : ax_RO w (ax_XM b) axu0_ia3b_59 := by
  intro ρ hp hE hT
  have j0 : ρ 0 % 4 = 1 := pz_gj hE 0 (Nat.le_of_ble_eq_true rfl) rfl
  have j1 : ρ 1 % 4 = 1 := pz_gj hE 1 (Nat.le_of_ble_eq_true rfl) rfl
  obtain ⟨i2a, i2b, i2c, i2d⟩ := pz_gi hE 2 2147483648 2147484448 (Nat.le_of_ble_eq_true rfl) rfl
  obtain ⟨i3a, i3b, i3c, i3d⟩ := pz_gi hE 3 2147483648 2147484448 (Nat.le_of_ble_eq_true rfl) rfl
  obtain ⟨i4a, i4b, i4c, i4d⟩ := pz_gi hE 4 2147483708 2147483775 (Nat.le_of_ble_eq_true rfl) rfl
  have c_at : ay_at hp 173 14 = some (ρ 2) := ay_gfj hE 702 56 11 173 14 ax_m2 (ax_vlq rfl rfl) (ax_vlj rfl rfl)
  have c_size : ay_at hp 173 12 = some (ρ 3) := ay_gfj hE 702 48 15 173 12 ax_m3 (ax_vlq rfl rfl) (ax_vlj rfl rfl)
  have r1 : (ρ 2 / 4 + 2147483648) % 4294967296 < (ρ 3 / 4 + 2147483648) % 4294967296 := pz_gc hE 2 11 15 (Nat.le_of_ble_eq_true rfl) ax_m4
  have c_tape : ay_at hp 183 (ρ 2 / 4) = some (ρ 4) := ay_gf hE 742 11 19 183 ax_m5 (ax_vlq rfl rfl)
  obtain ⟨-, -, F131⟩ : ay_ex hp 173 ∧ ay_ex hp 183 ∧ pz_x30 (ρ 0) (ay_at hp 173 12) (ay_at hp 183) := (ax_XF_lt (x := 131) (Nat.le_of_ble_eq_true rfl)).mp (ax_gx hE (131, [3]) ax_m0)
  rw [c_size] at F131
  obtain ⟨-, -, -, -, -, F151⟩ : ay_ex hp 173 ∧ ay_ex hp 173 ∧ ay_ex hp 173 ∧ ay_ex hp 173 ∧ ay_ex hp 173 ∧ pz_y151 (ρ 0) (ρ 1) (ay_at hp 173 13) (ay_at hp 173 14) (ay_at hp 173 15) (ay_at hp 173 16) (ay_at hp 173 17) := (ax_XF_lt (x := 151) (Nat.le_of_ble_eq_true rfl)).mp (ax_gx hE (151, [3, 7]) ax_m1)
  rw [c_at] at F151
  have hb : ρ 2 / 4 < pz_gN (ρ 0) → pz_b (pz_gt (ρ 0)) (ρ 2 / 4) = ρ 4 / 4 := fun hl => by
    have e := F131.2.2 (ρ 2 / 4) hl
    rw [c_tape] at e
    have e := Option.some.inj e
    omega
  have hN : ρ 3 / 4 = pz_gN (ρ 0) := F131.1
  have hlt : ρ 2 / 4 < pz_gN (ρ 0) := by omega
  have e1 : ρ 2 / 4 = pz_at (pz_gt (ρ 0)) (pz_gN (ρ 0)) (pz_p (pz_cf (pz_gt (ρ 0)) (pz_gN (ρ 0)) (ρ 1 / 4))) := F151.2.1
  refine ⟨(fun y hy => by cases hy), _, List.mem_cons_self, ρ, fun _ _ => rfl, ax_px hE rfl (fun x hx => ?_)⟩
  cases List.mem_singleton.mp hx
  refine (ax_XF_lt (x := 169) (Nat.le_of_ble_eq_true rfl)).mpr ?_
  show pz_kd (pz_gt (ρ 0)) (pz_gN (ρ 0)) (pz_p (pz_cF (ρ 0) (ρ 1))) ≠ (236) / 4
  show pz_kd (pz_gt (ρ 0)) (pz_gN (ρ 0)) (pz_p (pz_cf (pz_gt (ρ 0)) (pz_gN (ρ 0)) (ρ 1 / 4))) ≠ 59
  intro z
  have e := (pz_kd4 (show 4 ≤ pz_kd (pz_gt (ρ 0)) (pz_gN (ρ 0)) (pz_p (pz_cf (pz_gt (ρ 0)) (pz_gN (ρ 0)) (ρ 1 / 4))) by omega)).2
  rw [← e1, hb hlt] at e
  omega
theorem axq0_ia3b_59 : ax_RO ax_wM0 (ax_XM 0) axu0_ia3b_59 := axqg_ia3b_59 ax_WW0
theorem axqg_ia4_59 {w : ax_W} {b : Nat} (hw : ax_WW w) : ax_RO w (ax_XM b) axu0_ia4_59 := by
  intro ρ hp hE hT
  have j0 : ρ 0 % 4 = 1 := pz_gj hE 0 (Nat.le_of_ble_eq_true rfl) rfl
  have j1 : ρ 1 % 4 = 1 := pz_gj hE 1 (Nat.le_of_ble_eq_true rfl) rfl
  obtain ⟨i2a, i2b, i2c, i2d⟩ := pz_gi hE 2 2147483648 2147484448 (Nat.le_of_ble_eq_true rfl) rfl
  obtain ⟨i3a, i3b, i3c, i3d⟩ := pz_gi hE 3 2147483648 2147484448 (Nat.le_of_ble_eq_true rfl) rfl
  have c_at : ay_at hp 173 14 = some (ρ 2) := ay_gfj hE 702 56 11 173 14 ax_m2 (ax_vlq rfl rfl) (ax_vlj rfl rfl)
  have c_size : ay_at hp 173 12 = some (ρ 3) := ay_gfj hE 702 48 15 173 12 ax_m3 (ax_vlq rfl rfl) (ax_vlj rfl rfl)
  have r1 : (ρ 3 / 4 + 2147483648) % 4294967296 ≤ (ρ 2 / 4 + 2147483648) % 4294967296 := pz_gc hE 3 11 15 (Nat.le_of_ble_eq_true rfl) ax_m4
  obtain ⟨-, -, F131⟩ : ay_ex hp 173 ∧ ay_ex hp 183 ∧ pz_x30 (ρ 0) (ay_at hp 173 12) (ay_at hp 183) := (ax_XF_lt (x := 131) (Nat.le_of_ble_eq_true rfl)).mp (ax_gx hE (131, [3]) ax_m0)
  rw [c_size] at F131
  obtain ⟨-, -, -, -, -, F151⟩ : ay_ex hp 173 ∧ ay_ex hp 173 ∧ ay_ex hp 173 ∧ ay_ex hp 173 ∧ ay_ex hp 173 ∧ pz_y151 (ρ 0) (ρ 1) (ay_at hp 173 13) (ay_at hp 173 14) (ay_at hp 173 15) (ay_at hp 173 16) (ay_at hp 173 17) := (ax_XF_lt (x := 151) (Nat.le_of_ble_eq_true rfl)).mp (ax_gx hE (151, [3, 7]) ax_m1)
  rw [c_at] at F151
  have hN : ρ 3 / 4 = pz_gN (ρ 0) := F131.1
  have e1 : ρ 2 / 4 = pz_at (pz_gt (ρ 0)) (pz_gN (ρ 0)) (pz_p (pz_cf (pz_gt (ρ 0)) (pz_gN (ρ 0)) (ρ 1 / 4))) := F151.2.1
  have k1 := (pz_kd_end (t := pz_gt (ρ 0)) (N := pz_gN (ρ 0)) (p := pz_p (pz_cf (pz_gt (ρ 0)) (pz_gN (ρ 0)) (ρ 1 / 4))) (by omega)).1
  refine ⟨(fun y hy => by cases hy), _, List.mem_cons_self, ρ, fun _ _ => rfl, ax_px hE rfl (fun x hx => ?_)⟩
  cases List.mem_singleton.mp hx
  refine (ax_XF_lt (x := 169) (Nat.le_of_ble_eq_true rfl)).mpr ?_
  show pz_kd (pz_gt (ρ 0)) (pz_gN (ρ 0)) (pz_p (pz_cF (ρ 0) (ρ 1))) ≠ (236) / 4
  show pz_kd (pz_gt (ρ 0)) (pz_gN (ρ 0)) (pz_p (pz_cf (pz_gt (ρ 0)) (pz_gN (ρ 0)) (ρ 1 / 4))) ≠ 59
  intro z
  rw [k1] at z
  cases z
theorem axq0_ia4_59 : ax_RO ax_wM0 (ax_XM 0) axu0_ia4_59 := axqg_ia4_59 ax_WW0
theorem axqg_ia1_40 {w : ax_W} {b : Nat} (hw : ax_WW w) : ax_RO w (ax_XM b) axu0_ia1_40 := by
  intro ρ hp hE hT
  have j0 : ρ 0 % 4 = 1 := pz_gj hE 0 (Nat.le_of_ble_eq_true rfl) rfl
  have j1 : ρ 1 % 4 = 1 := pz_gj hE 1 (Nat.le_of_ble_eq_true rfl) rfl
  obtain ⟨i2a, i2b, i2c, i2d⟩ := pz_gi hE 2 2147483652 2147483652 (Nat.le_of_ble_eq_true rfl) rfl
  obtain ⟨i3a, i3b, i3c, i3d⟩ := pz_gi hE 3 2147483648 2147484448 (Nat.le_of_ble_eq_true rfl) rfl
  obtain ⟨i4a, i4b, i4c, i4d⟩ := pz_gi hE 4 2147483648 2147484448 (Nat.le_of_ble_eq_true rfl) rfl
  obtain ⟨i5a, i5b, i5c, i5d⟩ := pz_gi hE 5 2147483688 2147483688 (Nat.le_of_ble_eq_true rfl) rfl
  have c_token : ay_at hp 173 15 = some (ρ 2) := ay_gfj hE 702 60 11 173 15 ax_m2 (ax_vlq rfl rfl) (ax_vlj rfl rfl)
  have c_at : ay_at hp 173 14 = some (ρ 3) := ay_gfj hE 702 56 15 173 14 ax_m3 (ax_vlq rfl rfl) (ax_vlj rfl rfl)
  have c_size : ay_at hp 173 12 = some (ρ 4) := ay_gfj hE 702 48 19 173 12 ax_m4 (ax_vlq rfl rfl) (ax_vlj rfl rfl)
  have r1 : (ρ 3 / 4 + 2147483648) % 4294967296 < (ρ 4 / 4 + 2147483648) % 4294967296 := pz_gc hE 2 15 19 (Nat.le_of_ble_eq_true rfl) ax_m5
  have c_tape : ay_at hp 183 (ρ 3 / 4) = some (ρ 5) := ay_gf hE 742 15 23 183 ax_m6 (ax_vlq rfl rfl)
  obtain ⟨-, -, F131⟩ : ay_ex hp 173 ∧ ay_ex hp 183 ∧ pz_x30 (ρ 0) (ay_at hp 173 12) (ay_at hp 183) := (ax_XF_lt (x := 131) (Nat.le_of_ble_eq_true rfl)).mp (ax_gx hE (131, [3]) ax_m0)
  rw [c_size] at F131
  obtain ⟨-, -, -, -, -, F151⟩ : ay_ex hp 173 ∧ ay_ex hp 173 ∧ ay_ex hp 173 ∧ ay_ex hp 173 ∧ ay_ex hp 173 ∧ pz_y151 (ρ 0) (ρ 1) (ay_at hp 173 13) (ay_at hp 173 14) (ay_at hp 173 15) (ay_at hp 173 16) (ay_at hp 173 17) := (ax_XF_lt (x := 151) (Nat.le_of_ble_eq_true rfl)).mp (ax_gx hE (151, [3, 7]) ax_m1)
  rw [c_token] at F151
  rw [c_at] at F151
  have ht : ρ 2 / 4 = pz_tok (pz_kd (pz_gt (ρ 0)) (pz_gN (ρ 0)) (pz_p (pz_cf (pz_gt (ρ 0)) (pz_gN (ρ 0)) (ρ 1 / 4)))) := F151.2.2.1
  have hc := pz_tok_c (pz_kd (pz_gt (ρ 0)) (pz_gN (ρ 0)) (pz_p (pz_cf (pz_gt (ρ 0)) (pz_gN (ρ 0)) (ρ 1 / 4))))
  have hk : 4 ≤ pz_kd (pz_gt (ρ 0)) (pz_gN (ρ 0)) (pz_p (pz_cf (pz_gt (ρ 0)) (pz_gN (ρ 0)) (ρ 1 / 4))) := (by rcases hc with h | h | h | h | h <;> omega)
  have hb : ρ 3 / 4 < pz_gN (ρ 0) → pz_b (pz_gt (ρ 0)) (ρ 3 / 4) = ρ 5 / 4 := fun hl => by
    have e := F131.2.2 (ρ 3 / 4) hl
    rw [c_tape] at e
    have e := Option.some.inj e
    omega
  have hN : ρ 4 / 4 = pz_gN (ρ 0) := F131.1
  have hlt : ρ 3 / 4 < pz_gN (ρ 0) := by omega
  have e1 : ρ 3 / 4 = pz_at (pz_gt (ρ 0)) (pz_gN (ρ 0)) (pz_p (pz_cf (pz_gt (ρ 0)) (pz_gN (ρ 0)) (ρ 1 / 4))) := F151.2.1
  have e := (pz_kd4 hk).2
  rw [← e1, hb hlt] at e
  refine ⟨(fun y hy => by cases hy), _, List.mem_cons_self, ρ, fun _ _ => rfl, ax_px hE rfl (fun x hx => ?_)⟩
  cases List.mem_singleton.mp hx
  refine (ax_XF_lt (x := 168) (Nat.le_of_ble_eq_true rfl)).mpr ?_
  show pz_kd (pz_gt (ρ 0)) (pz_gN (ρ 0)) (pz_p (pz_cF (ρ 0) (ρ 1))) = (160) / 4
  show pz_kd (pz_gt (ρ 0)) (pz_gN (ρ 0)) (pz_p (pz_cf (pz_gt (ρ 0)) (pz_gN (ρ 0)) (ρ 1 / 4))) = 40
  omega
theorem axq0_ia1_40 : ax_RO ax_wM0 (ax_XM 0) axu0_ia1_40 := axqg_ia1_40 ax_WW0
theorem axqg_ia2a_40 {w : ax_W} {b : Nat} (hw : ax_WW w) : ax_RO w (ax_XM b) axu0_ia2a_40 := by
  intro ρ hp hE hT
  have j0 : ρ 0 % 4 = 1 := pz_gj hE 0 (Nat.le_of_ble_eq_true rfl) rfl
  have j1 : ρ 1 % 4 = 1 := pz_gj hE 1 (Nat.le_of_ble_eq_true rfl) rfl
  obtain ⟨i2a, i2b, i2c, i2d⟩ := pz_gi hE 2 0 2147483651 (Nat.le_of_ble_eq_true rfl) rfl
  have c_token : ay_at hp 173 15 = some (ρ 2) := ay_gfj hE 702 60 11 173 15 ax_m2 (ax_vlq rfl rfl) (ax_vlj rfl rfl)
  obtain ⟨-, -, F131⟩ : ay_ex hp 173 ∧ ay_ex hp 183 ∧ pz_x30 (ρ 0) (ay_at hp 173 12) (ay_at hp 183) := (ax_XF_lt (x := 131) (Nat.le_of_ble_eq_true rfl)).mp (ax_gx hE (131, [3]) ax_m0)
  obtain ⟨-, -, -, -, -, F151⟩ : ay_ex hp 173 ∧ ay_ex hp 173 ∧ ay_ex hp 173 ∧ ay_ex hp 173 ∧ ay_ex hp 173 ∧ pz_y151 (ρ 0) (ρ 1) (ay_at hp 173 13) (ay_at hp 173 14) (ay_at hp 173 15) (ay_at hp 173 16) (ay_at hp 173 17) := (ax_XF_lt (x := 151) (Nat.le_of_ble_eq_true rfl)).mp (ax_gx hE (151, [3, 7]) ax_m1)
  rw [c_token] at F151
  have ht : ρ 2 / 4 = pz_tok (pz_kd (pz_gt (ρ 0)) (pz_gN (ρ 0)) (pz_p (pz_cf (pz_gt (ρ 0)) (pz_gN (ρ 0)) (ρ 1 / 4)))) := F151.2.2.1
  have hc := pz_tok_c (pz_kd (pz_gt (ρ 0)) (pz_gN (ρ 0)) (pz_p (pz_cf (pz_gt (ρ 0)) (pz_gN (ρ 0)) (ρ 1 / 4))))
  refine ⟨(fun y hy => by cases hy), _, List.mem_cons_self, ρ, fun _ _ => rfl, ax_px hE rfl (fun x hx => ?_)⟩
  cases List.mem_singleton.mp hx
  refine (ax_XF_lt (x := 169) (Nat.le_of_ble_eq_true rfl)).mpr ?_
  show pz_kd (pz_gt (ρ 0)) (pz_gN (ρ 0)) (pz_p (pz_cF (ρ 0) (ρ 1))) ≠ (160) / 4
  show pz_kd (pz_gt (ρ 0)) (pz_gN (ρ 0)) (pz_p (pz_cf (pz_gt (ρ 0)) (pz_gN (ρ 0)) (ρ 1 / 4))) ≠ 40
  intro z
  rcases hc with h | h | h | h | h <;> omega
theorem axq0_ia2a_40 : ax_RO ax_wM0 (ax_XM 0) axu0_ia2a_40 := axqg_ia2a_40 ax_WW0
theorem axqg_ia2b_40 {w : ax_W} {b : Nat} (hw : ax_WW w) : ax_RO w (ax_XM b) axu0_ia2b_40 := by
  intro ρ hp hE hT
  have j0 : ρ 0 % 4 = 1 := pz_gj hE 0 (Nat.le_of_ble_eq_true rfl) rfl
  have j1 : ρ 1 % 4 = 1 := pz_gj hE 1 (Nat.le_of_ble_eq_true rfl) rfl
  obtain ⟨i2a, i2b, i2c, i2d⟩ := pz_gi hE 2 2147483653 4294967295 (Nat.le_of_ble_eq_true rfl) rfl
  have c_token : ay_at hp 173 15 = some (ρ 2) := ay_gfj hE 702 60 11 173 15 ax_m2 (ax_vlq rfl rfl) (ax_vlj rfl rfl)
  obtain ⟨-, -, F131⟩ : ay_ex hp 173 ∧ ay_ex hp 183 ∧ pz_x30 (ρ 0) (ay_at hp 173 12) (ay_at hp 183) := (ax_XF_lt (x := 131) (Nat.le_of_ble_eq_true rfl)).mp (ax_gx hE (131, [3]) ax_m0)
  obtain ⟨-, -, -, -, -, F151⟩ : ay_ex hp 173 ∧ ay_ex hp 173 ∧ ay_ex hp 173 ∧ ay_ex hp 173 ∧ ay_ex hp 173 ∧ pz_y151 (ρ 0) (ρ 1) (ay_at hp 173 13) (ay_at hp 173 14) (ay_at hp 173 15) (ay_at hp 173 16) (ay_at hp 173 17) := (ax_XF_lt (x := 151) (Nat.le_of_ble_eq_true rfl)).mp (ax_gx hE (151, [3, 7]) ax_m1)
  rw [c_token] at F151
  have ht : ρ 2 / 4 = pz_tok (pz_kd (pz_gt (ρ 0)) (pz_gN (ρ 0)) (pz_p (pz_cf (pz_gt (ρ 0)) (pz_gN (ρ 0)) (ρ 1 / 4)))) := F151.2.2.1
  have hc := pz_tok_c (pz_kd (pz_gt (ρ 0)) (pz_gN (ρ 0)) (pz_p (pz_cf (pz_gt (ρ 0)) (pz_gN (ρ 0)) (ρ 1 / 4))))
  refine ⟨(fun y hy => by cases hy), _, List.mem_cons_self, ρ, fun _ _ => rfl, ax_px hE rfl (fun x hx => ?_)⟩
  cases List.mem_singleton.mp hx
  refine (ax_XF_lt (x := 169) (Nat.le_of_ble_eq_true rfl)).mpr ?_
  show pz_kd (pz_gt (ρ 0)) (pz_gN (ρ 0)) (pz_p (pz_cF (ρ 0) (ρ 1))) ≠ (160) / 4
  show pz_kd (pz_gt (ρ 0)) (pz_gN (ρ 0)) (pz_p (pz_cf (pz_gt (ρ 0)) (pz_gN (ρ 0)) (ρ 1 / 4))) ≠ 40
  intro z
  rcases hc with h | h | h | h | h <;> omega
theorem axq0_ia2b_40 : ax_RO ax_wM0 (ax_XM 0) axu0_ia2b_40 := axqg_ia2b_40 ax_WW0
theorem axqg_ia3a_40 {w : ax_W} {b : Nat} (hw : ax_WW w) : ax_RO w (ax_XM b) axu0_ia3a_40 := by
  intro ρ hp hE hT
  have j0 : ρ 0 % 4 = 1 := pz_gj hE 0 (Nat.le_of_ble_eq_true rfl) rfl
  have j1 : ρ 1 % 4 = 1 := pz_gj hE 1 (Nat.le_of_ble_eq_true rfl) rfl
  obtain ⟨i2a, i2b, i2c, i2d⟩ := pz_gi hE 2 2147483648 2147484448 (Nat.le_of_ble_eq_true rfl) rfl
  obtain ⟨i3a, i3b, i3c, i3d⟩ := pz_gi hE 3 2147483648 2147484448 (Nat.le_of_ble_eq_true rfl) rfl
  obtain ⟨i4a, i4b, i4c, i4d⟩ := pz_gi hE 4 2147483520 2147483687 (Nat.le_of_ble_eq_true rfl) rfl
  have c_at : ay_at hp 173 14 = some (ρ 2) := ay_gfj hE 702 56 11 173 14 ax_m2 (ax_vlq rfl rfl) (ax_vlj rfl rfl)
  have c_size : ay_at hp 173 12 = some (ρ 3) := ay_gfj hE 702 48 15 173 12 ax_m3 (ax_vlq rfl rfl) (ax_vlj rfl rfl)
  have r1 : (ρ 2 / 4 + 2147483648) % 4294967296 < (ρ 3 / 4 + 2147483648) % 4294967296 := pz_gc hE 2 11 15 (Nat.le_of_ble_eq_true rfl) ax_m4
  have c_tape : ay_at hp 183 (ρ 2 / 4) = some (ρ 4) := ay_gf hE 742 11 19 183 ax_m5 (ax_vlq rfl rfl)
  obtain ⟨-, -, F131⟩ : ay_ex hp 173 ∧ ay_ex hp 183 ∧ pz_x30 (ρ 0) (ay_at hp 173 12) (ay_at hp 183) := (ax_XF_lt (x := 131) (Nat.le_of_ble_eq_true rfl)).mp (ax_gx hE (131, [3]) ax_m0)
  rw [c_size] at F131
  obtain ⟨-, -, -, -, -, F151⟩ : ay_ex hp 173 ∧ ay_ex hp 173 ∧ ay_ex hp 173 ∧ ay_ex hp 173 ∧ ay_ex hp 173 ∧ pz_y151 (ρ 0) (ρ 1) (ay_at hp 173 13) (ay_at hp 173 14) (ay_at hp 173 15) (ay_at hp 173 16) (ay_at hp 173 17) := (ax_XF_lt (x := 151) (Nat.le_of_ble_eq_true rfl)).mp (ax_gx hE (151, [3, 7]) ax_m1)
  rw [c_at] at F151
  have hb : ρ 2 / 4 < pz_gN (ρ 0) → pz_b (pz_gt (ρ 0)) (ρ 2 / 4) = ρ 4 / 4 := fun hl => by
    have e := F131.2.2 (ρ 2 / 4) hl
    rw [c_tape] at e
    have e := Option.some.inj e
    omega
  have hN : ρ 3 / 4 = pz_gN (ρ 0) := F131.1
  have hlt : ρ 2 / 4 < pz_gN (ρ 0) := by omega
  have e1 : ρ 2 / 4 = pz_at (pz_gt (ρ 0)) (pz_gN (ρ 0)) (pz_p (pz_cf (pz_gt (ρ 0)) (pz_gN (ρ 0)) (ρ 1 / 4))) := F151.2.1
  refine ⟨(fun y hy => by cases hy), _, List.mem_cons_self, ρ, fun _ _ => rfl, ax_px hE rfl (fun x hx => ?_)⟩
  cases List.mem_singleton.mp hx
  refine (ax_XF_lt (x := 169) (Nat.le_of_ble_eq_true rfl)).mpr ?_
  show pz_kd (pz_gt (ρ 0)) (pz_gN (ρ 0)) (pz_p (pz_cF (ρ 0) (ρ 1))) ≠ (160) / 4
  show pz_kd (pz_gt (ρ 0)) (pz_gN (ρ 0)) (pz_p (pz_cf (pz_gt (ρ 0)) (pz_gN (ρ 0)) (ρ 1 / 4))) ≠ 40
  intro z
  have e := (pz_kd4 (show 4 ≤ pz_kd (pz_gt (ρ 0)) (pz_gN (ρ 0)) (pz_p (pz_cf (pz_gt (ρ 0)) (pz_gN (ρ 0)) (ρ 1 / 4))) by omega)).2
  rw [← e1, hb hlt] at e
  omega
theorem axq0_ia3a_40 : ax_RO ax_wM0 (ax_XM 0) axu0_ia3a_40 := axqg_ia3a_40 ax_WW0
theorem axqg_ia3b_40 {w : ax_W} {b : Nat} (hw : ax_WW w) : ax_RO w (ax_XM b) axu0_ia3b_40 := by
  intro ρ hp hE hT
  have j0 : ρ 0 % 4 = 1 := pz_gj hE 0 (Nat.le_of_ble_eq_true rfl) rfl
  have j1 : ρ 1 % 4 = 1 := pz_gj hE 1 (Nat.le_of_ble_eq_true rfl) rfl
  obtain ⟨i2a, i2b, i2c, i2d⟩ := pz_gi hE 2 2147483648 2147484448 (Nat.le_of_ble_eq_true rfl) rfl
  obtain ⟨i3a, i3b, i3c, i3d⟩ := pz_gi hE 3 2147483648 2147484448 (Nat.le_of_ble_eq_true rfl) rfl
  obtain ⟨i4a, i4b, i4c, i4d⟩ := pz_gi hE 4 2147483689 2147483775 (Nat.le_of_ble_eq_true rfl) rfl
  have c_at : ay_at hp 173 14 = some (ρ 2) := ay_gfj hE 702 56 11 173 14 ax_m2 (ax_vlq rfl rfl) (ax_vlj rfl rfl)
  have c_size : ay_at hp 173 12 = some (ρ 3) := ay_gfj hE 702 48 15 173 12 ax_m3 (ax_vlq rfl rfl) (ax_vlj rfl rfl)
  have r1 : (ρ 2 / 4 + 2147483648) % 4294967296 < (ρ 3 / 4 + 2147483648) % 4294967296 := pz_gc hE 2 11 15 (Nat.le_of_ble_eq_true rfl) ax_m4
  have c_tape : ay_at hp 183 (ρ 2 / 4) = some (ρ 4) := ay_gf hE 742 11 19 183 ax_m5 (ax_vlq rfl rfl)
  obtain ⟨-, -, F131⟩ : ay_ex hp 173 ∧ ay_ex hp 183 ∧ pz_x30 (ρ 0) (ay_at hp 173 12) (ay_at hp 183) := (ax_XF_lt (x := 131) (Nat.le_of_ble_eq_true rfl)).mp (ax_gx hE (131, [3]) ax_m0)
  rw [c_size] at F131
  obtain ⟨-, -, -, -, -, F151⟩ : ay_ex hp 173 ∧ ay_ex hp 173 ∧ ay_ex hp 173 ∧ ay_ex hp 173 ∧ ay_ex hp 173 ∧ pz_y151 (ρ 0) (ρ 1) (ay_at hp 173 13) (ay_at hp 173 14) (ay_at hp 173 15) (ay_at hp 173 16) (ay_at hp 173 17) := (ax_XF_lt (x := 151) (Nat.le_of_ble_eq_true rfl)).mp (ax_gx hE (151, [3, 7]) ax_m1)
  rw [c_at] at F151
  have hb : ρ 2 / 4 < pz_gN (ρ 0) → pz_b (pz_gt (ρ 0)) (ρ 2 / 4) = ρ 4 / 4 := fun hl => by
    have e := F131.2.2 (ρ 2 / 4) hl
    rw [c_tape] at e
    have e := Option.some.inj e
    omega
  have hN : ρ 3 / 4 = pz_gN (ρ 0) := F131.1
  have hlt : ρ 2 / 4 < pz_gN (ρ 0) := by omega
  have e1 : ρ 2 / 4 = pz_at (pz_gt (ρ 0)) (pz_gN (ρ 0)) (pz_p (pz_cf (pz_gt (ρ 0)) (pz_gN (ρ 0)) (ρ 1 / 4))) := F151.2.1
  refine ⟨(fun y hy => by cases hy), _, List.mem_cons_self, ρ, fun _ _ => rfl, ax_px hE rfl (fun x hx => ?_)⟩
  cases List.mem_singleton.mp hx
  refine (ax_XF_lt (x := 169) (Nat.le_of_ble_eq_true rfl)).mpr ?_
  show pz_kd (pz_gt (ρ 0)) (pz_gN (ρ 0)) (pz_p (pz_cF (ρ 0) (ρ 1))) ≠ (160) / 4
  show pz_kd (pz_gt (ρ 0)) (pz_gN (ρ 0)) (pz_p (pz_cf (pz_gt (ρ 0)) (pz_gN (ρ 0)) (ρ 1 / 4))) ≠ 40
  intro z
  have e := (pz_kd4 (show 4 ≤ pz_kd (pz_gt (ρ 0)) (pz_gN (ρ 0)) (pz_p (pz_cf (pz_gt (ρ 0)) (pz_gN (ρ 0)) (ρ 1 / 4))) by omega)).2
  rw [← e1, hb hlt] at e
  omega
theorem axq0_ia3b_40 : ax_RO ax_wM0 (ax_XM 0) axu0_ia3b_40 := axqg_ia3b_40 ax_WW0
theorem axqg_ia4_40 {w : ax_W} {b : Nat} (hw : ax_WW w) : ax_RO w (ax_XM b) axu0_ia4_40 := by
  intro ρ hp hE hT
  have j0 : ρ 0 % 4 = 1 := pz_gj hE 0 (Nat.le_of_ble_eq_true rfl) rfl
  have j1 : ρ 1 % 4 = 1 := pz_gj hE 1 (Nat.le_of_ble_eq_true rfl) rfl
  obtain ⟨i2a, i2b, i2c, i2d⟩ := pz_gi hE 2 2147483648 2147484448 (Nat.le_of_ble_eq_true rfl) rfl
  obtain ⟨i3a, i3b, i3c, i3d⟩ := pz_gi hE 3 2147483648 2147484448 (Nat.le_of_ble_eq_true rfl) rfl
  have c_at : ay_at hp 173 14 = some (ρ 2) := ay_gfj hE 702 56 11 173 14 ax_m2 (ax_vlq rfl rfl) (ax_vlj rfl rfl)
  have c_size : ay_at hp 173 12 = some (ρ 3) := ay_gfj hE 702 48 15 173 12 ax_m3 (ax_vlq rfl rfl) (ax_vlj rfl rfl)
  have r1 : (ρ 3 / 4 + 2147483648) % 4294967296 ≤ (ρ 2 / 4 + 2147483648) % 4294967296 := pz_gc hE 3 11 15 (Nat.le_of_ble_eq_true rfl) ax_m4
  obtain ⟨-, -, F131⟩ : ay_ex hp 173 ∧ ay_ex hp 183 ∧ pz_x30 (ρ 0) (ay_at hp 173 12) (ay_at hp 183) := (ax_XF_lt (x := 131) (Nat.le_of_ble_eq_true rfl)).mp (ax_gx hE (131, [3]) ax_m0)
  rw [c_size] at F131
  obtain ⟨-, -, -, -, -, F151⟩ : ay_ex hp 173 ∧ ay_ex hp 173 ∧ ay_ex hp 173 ∧ ay_ex hp 173 ∧ ay_ex hp 173 ∧ pz_y151 (ρ 0) (ρ 1) (ay_at hp 173 13) (ay_at hp 173 14) (ay_at hp 173 15) (ay_at hp 173 16) (ay_at hp 173 17) := (ax_XF_lt (x := 151) (Nat.le_of_ble_eq_true rfl)).mp (ax_gx hE (151, [3, 7]) ax_m1)
  rw [c_at] at F151
  have hN : ρ 3 / 4 = pz_gN (ρ 0) := F131.1
  have e1 : ρ 2 / 4 = pz_at (pz_gt (ρ 0)) (pz_gN (ρ 0)) (pz_p (pz_cf (pz_gt (ρ 0)) (pz_gN (ρ 0)) (ρ 1 / 4))) := F151.2.1
  have k1 := (pz_kd_end (t := pz_gt (ρ 0)) (N := pz_gN (ρ 0)) (p := pz_p (pz_cf (pz_gt (ρ 0)) (pz_gN (ρ 0)) (ρ 1 / 4))) (by omega)).1
  refine ⟨(fun y hy => by cases hy), _, List.mem_cons_self, ρ, fun _ _ => rfl, ax_px hE rfl (fun x hx => ?_)⟩
  cases List.mem_singleton.mp hx
  refine (ax_XF_lt (x := 169) (Nat.le_of_ble_eq_true rfl)).mpr ?_
  show pz_kd (pz_gt (ρ 0)) (pz_gN (ρ 0)) (pz_p (pz_cF (ρ 0) (ρ 1))) ≠ (160) / 4
  show pz_kd (pz_gt (ρ 0)) (pz_gN (ρ 0)) (pz_p (pz_cf (pz_gt (ρ 0)) (pz_gN (ρ 0)) (ρ 1 / 4))) ≠ 40
  intro z
  rw [k1] at z
  cases z
theorem axq0_ia4_40 : ax_RO ax_wM0 (ax_XM 0) axu0_ia4_40 := axqg_ia4_40 ax_WW0
theorem axqg_ia1_41 {w : ax_W} {b : Nat} (hw : ax_WW w) : ax_RO w (ax_XM b) axu0_ia1_41 := by
  intro ρ hp hE hT
  have j0 : ρ 0 % 4 = 1 := pz_gj hE 0 (Nat.le_of_ble_eq_true rfl) rfl
  have j1 : ρ 1 % 4 = 1 := pz_gj hE 1 (Nat.le_of_ble_eq_true rfl) rfl
  obtain ⟨i2a, i2b, i2c, i2d⟩ := pz_gi hE 2 2147483652 2147483652 (Nat.le_of_ble_eq_true rfl) rfl
  obtain ⟨i3a, i3b, i3c, i3d⟩ := pz_gi hE 3 2147483648 2147484448 (Nat.le_of_ble_eq_true rfl) rfl
  obtain ⟨i4a, i4b, i4c, i4d⟩ := pz_gi hE 4 2147483648 2147484448 (Nat.le_of_ble_eq_true rfl) rfl
  obtain ⟨i5a, i5b, i5c, i5d⟩ := pz_gi hE 5 2147483689 2147483689 (Nat.le_of_ble_eq_true rfl) rfl
  have c_token : ay_at hp 173 15 = some (ρ 2) := ay_gfj hE 702 60 11 173 15 ax_m2 (ax_vlq rfl rfl) (ax_vlj rfl rfl)
  have c_at : ay_at hp 173 14 = some (ρ 3) := ay_gfj hE 702 56 15 173 14 ax_m3 (ax_vlq rfl rfl) (ax_vlj rfl rfl)
  have c_size : ay_at hp 173 12 = some (ρ 4) := ay_gfj hE 702 48 19 173 12 ax_m4 (ax_vlq rfl rfl) (ax_vlj rfl rfl)
  have r1 : (ρ 3 / 4 + 2147483648) % 4294967296 < (ρ 4 / 4 + 2147483648) % 4294967296 := pz_gc hE 2 15 19 (Nat.le_of_ble_eq_true rfl) ax_m5
  have c_tape : ay_at hp 183 (ρ 3 / 4) = some (ρ 5) := ay_gf hE 742 15 23 183 ax_m6 (ax_vlq rfl rfl)
  obtain ⟨-, -, F131⟩ : ay_ex hp 173 ∧ ay_ex hp 183 ∧ pz_x30 (ρ 0) (ay_at hp 173 12) (ay_at hp 183) := (ax_XF_lt (x := 131) (Nat.le_of_ble_eq_true rfl)).mp (ax_gx hE (131, [3]) ax_m0)
  rw [c_size] at F131
  obtain ⟨-, -, -, -, -, F151⟩ : ay_ex hp 173 ∧ ay_ex hp 173 ∧ ay_ex hp 173 ∧ ay_ex hp 173 ∧ ay_ex hp 173 ∧ pz_y151 (ρ 0) (ρ 1) (ay_at hp 173 13) (ay_at hp 173 14) (ay_at hp 173 15) (ay_at hp 173 16) (ay_at hp 173 17) := (ax_XF_lt (x := 151) (Nat.le_of_ble_eq_true rfl)).mp (ax_gx hE (151, [3, 7]) ax_m1)
  rw [c_token] at F151
  rw [c_at] at F151
  have ht : ρ 2 / 4 = pz_tok (pz_kd (pz_gt (ρ 0)) (pz_gN (ρ 0)) (pz_p (pz_cf (pz_gt (ρ 0)) (pz_gN (ρ 0)) (ρ 1 / 4)))) := F151.2.2.1
  have hc := pz_tok_c (pz_kd (pz_gt (ρ 0)) (pz_gN (ρ 0)) (pz_p (pz_cf (pz_gt (ρ 0)) (pz_gN (ρ 0)) (ρ 1 / 4))))
  have hk : 4 ≤ pz_kd (pz_gt (ρ 0)) (pz_gN (ρ 0)) (pz_p (pz_cf (pz_gt (ρ 0)) (pz_gN (ρ 0)) (ρ 1 / 4))) := (by rcases hc with h | h | h | h | h <;> omega)
  have hb : ρ 3 / 4 < pz_gN (ρ 0) → pz_b (pz_gt (ρ 0)) (ρ 3 / 4) = ρ 5 / 4 := fun hl => by
    have e := F131.2.2 (ρ 3 / 4) hl
    rw [c_tape] at e
    have e := Option.some.inj e
    omega
  have hN : ρ 4 / 4 = pz_gN (ρ 0) := F131.1
  have hlt : ρ 3 / 4 < pz_gN (ρ 0) := by omega
  have e1 : ρ 3 / 4 = pz_at (pz_gt (ρ 0)) (pz_gN (ρ 0)) (pz_p (pz_cf (pz_gt (ρ 0)) (pz_gN (ρ 0)) (ρ 1 / 4))) := F151.2.1
  have e := (pz_kd4 hk).2
  rw [← e1, hb hlt] at e
  refine ⟨(fun y hy => by cases hy), _, List.mem_cons_self, ρ, fun _ _ => rfl, ax_px hE rfl (fun x hx => ?_)⟩
  cases List.mem_singleton.mp hx
  refine (ax_XF_lt (x := 168) (Nat.le_of_ble_eq_true rfl)).mpr ?_
  show pz_kd (pz_gt (ρ 0)) (pz_gN (ρ 0)) (pz_p (pz_cF (ρ 0) (ρ 1))) = (164) / 4
  show pz_kd (pz_gt (ρ 0)) (pz_gN (ρ 0)) (pz_p (pz_cf (pz_gt (ρ 0)) (pz_gN (ρ 0)) (ρ 1 / 4))) = 41
  omega
theorem axq0_ia1_41 : ax_RO ax_wM0 (ax_XM 0) axu0_ia1_41 := axqg_ia1_41 ax_WW0
theorem axqg_ia2a_41 {w : ax_W} {b : Nat} (hw : ax_WW w) : ax_RO w (ax_XM b) axu0_ia2a_41 := by
  intro ρ hp hE hT
  have j0 : ρ 0 % 4 = 1 := pz_gj hE 0 (Nat.le_of_ble_eq_true rfl) rfl
  have j1 : ρ 1 % 4 = 1 := pz_gj hE 1 (Nat.le_of_ble_eq_true rfl) rfl
  obtain ⟨i2a, i2b, i2c, i2d⟩ := pz_gi hE 2 0 2147483651 (Nat.le_of_ble_eq_true rfl) rfl
  have c_token : ay_at hp 173 15 = some (ρ 2) := ay_gfj hE 702 60 11 173 15 ax_m2 (ax_vlq rfl rfl) (ax_vlj rfl rfl)
  obtain ⟨-, -, F131⟩ : ay_ex hp 173 ∧ ay_ex hp 183 ∧ pz_x30 (ρ 0) (ay_at hp 173 12) (ay_at hp 183) := (ax_XF_lt (x := 131) (Nat.le_of_ble_eq_true rfl)).mp (ax_gx hE (131, [3]) ax_m0)
  obtain ⟨-, -, -, -, -, F151⟩ : ay_ex hp 173 ∧ ay_ex hp 173 ∧ ay_ex hp 173 ∧ ay_ex hp 173 ∧ ay_ex hp 173 ∧ pz_y151 (ρ 0) (ρ 1) (ay_at hp 173 13) (ay_at hp 173 14) (ay_at hp 173 15) (ay_at hp 173 16) (ay_at hp 173 17) := (ax_XF_lt (x := 151) (Nat.le_of_ble_eq_true rfl)).mp (ax_gx hE (151, [3, 7]) ax_m1)
  rw [c_token] at F151
  have ht : ρ 2 / 4 = pz_tok (pz_kd (pz_gt (ρ 0)) (pz_gN (ρ 0)) (pz_p (pz_cf (pz_gt (ρ 0)) (pz_gN (ρ 0)) (ρ 1 / 4)))) := F151.2.2.1
  have hc := pz_tok_c (pz_kd (pz_gt (ρ 0)) (pz_gN (ρ 0)) (pz_p (pz_cf (pz_gt (ρ 0)) (pz_gN (ρ 0)) (ρ 1 / 4))))
  refine ⟨(fun y hy => by cases hy), _, List.mem_cons_self, ρ, fun _ _ => rfl, ax_px hE rfl (fun x hx => ?_)⟩
  cases List.mem_singleton.mp hx
  refine (ax_XF_lt (x := 169) (Nat.le_of_ble_eq_true rfl)).mpr ?_
  show pz_kd (pz_gt (ρ 0)) (pz_gN (ρ 0)) (pz_p (pz_cF (ρ 0) (ρ 1))) ≠ (164) / 4
  show pz_kd (pz_gt (ρ 0)) (pz_gN (ρ 0)) (pz_p (pz_cf (pz_gt (ρ 0)) (pz_gN (ρ 0)) (ρ 1 / 4))) ≠ 41
  intro z
  rcases hc with h | h | h | h | h <;> omega
theorem axq0_ia2a_41 : ax_RO ax_wM0 (ax_XM 0) axu0_ia2a_41 := axqg_ia2a_41 ax_WW0
theorem axqg_ia2b_41 {w : ax_W} {b : Nat} (hw : ax_WW w) : ax_RO w (ax_XM b) axu0_ia2b_41 := by
  intro ρ hp hE hT
  have j0 : ρ 0 % 4 = 1 := pz_gj hE 0 (Nat.le_of_ble_eq_true rfl) rfl
  have j1 : ρ 1 % 4 = 1 := pz_gj hE 1 (Nat.le_of_ble_eq_true rfl) rfl
  obtain ⟨i2a, i2b, i2c, i2d⟩ := pz_gi hE 2 2147483653 4294967295 (Nat.le_of_ble_eq_true rfl) rfl
  have c_token : ay_at hp 173 15 = some (ρ 2) := ay_gfj hE 702 60 11 173 15 ax_m2 (ax_vlq rfl rfl) (ax_vlj rfl rfl)
  obtain ⟨-, -, F131⟩ : ay_ex hp 173 ∧ ay_ex hp 183 ∧ pz_x30 (ρ 0) (ay_at hp 173 12) (ay_at hp 183) := (ax_XF_lt (x := 131) (Nat.le_of_ble_eq_true rfl)).mp (ax_gx hE (131, [3]) ax_m0)
  obtain ⟨-, -, -, -, -, F151⟩ : ay_ex hp 173 ∧ ay_ex hp 173 ∧ ay_ex hp 173 ∧ ay_ex hp 173 ∧ ay_ex hp 173 ∧ pz_y151 (ρ 0) (ρ 1) (ay_at hp 173 13) (ay_at hp 173 14) (ay_at hp 173 15) (ay_at hp 173 16) (ay_at hp 173 17) := (ax_XF_lt (x := 151) (Nat.le_of_ble_eq_true rfl)).mp (ax_gx hE (151, [3, 7]) ax_m1)
  rw [c_token] at F151
  have ht : ρ 2 / 4 = pz_tok (pz_kd (pz_gt (ρ 0)) (pz_gN (ρ 0)) (pz_p (pz_cf (pz_gt (ρ 0)) (pz_gN (ρ 0)) (ρ 1 / 4)))) := F151.2.2.1
  have hc := pz_tok_c (pz_kd (pz_gt (ρ 0)) (pz_gN (ρ 0)) (pz_p (pz_cf (pz_gt (ρ 0)) (pz_gN (ρ 0)) (ρ 1 / 4))))
  refine ⟨(fun y hy => by cases hy), _, List.mem_cons_self, ρ, fun _ _ => rfl, ax_px hE rfl (fun x hx => ?_)⟩
  cases List.mem_singleton.mp hx
  refine (ax_XF_lt (x := 169) (Nat.le_of_ble_eq_true rfl)).mpr ?_
  show pz_kd (pz_gt (ρ 0)) (pz_gN (ρ 0)) (pz_p (pz_cF (ρ 0) (ρ 1))) ≠ (164) / 4
  show pz_kd (pz_gt (ρ 0)) (pz_gN (ρ 0)) (pz_p (pz_cf (pz_gt (ρ 0)) (pz_gN (ρ 0)) (ρ 1 / 4))) ≠ 41
  intro z
  rcases hc with h | h | h | h | h <;> omega
theorem axq0_ia2b_41 : ax_RO ax_wM0 (ax_XM 0) axu0_ia2b_41 := axqg_ia2b_41 ax_WW0
theorem axqg_ia3a_41 {w : ax_W} {b : Nat} (hw : ax_WW w) : ax_RO w (ax_XM b) axu0_ia3a_41 := by
  intro ρ hp hE hT
  have j0 : ρ 0 % 4 = 1 := pz_gj hE 0 (Nat.le_of_ble_eq_true rfl) rfl
  have j1 : ρ 1 % 4 = 1 := pz_gj hE 1 (Nat.le_of_ble_eq_true rfl) rfl
  obtain ⟨i2a, i2b, i2c, i2d⟩ := pz_gi hE 2 2147483648 2147484448 (Nat.le_of_ble_eq_true rfl) rfl
  obtain ⟨i3a, i3b, i3c, i3d⟩ := pz_gi hE 3 2147483648 2147484448 (Nat.le_of_ble_eq_true rfl) rfl
  obtain ⟨i4a, i4b, i4c, i4d⟩ := pz_gi hE 4 2147483520 2147483688 (Nat.le_of_ble_eq_true rfl) rfl
  have c_at : ay_at hp 173 14 = some (ρ 2) := ay_gfj hE 702 56 11 173 14 ax_m2 (ax_vlq rfl rfl) (ax_vlj rfl rfl)
  have c_size : ay_at hp 173 12 = some (ρ 3) := ay_gfj hE 702 48 15 173 12 ax_m3 (ax_vlq rfl rfl) (ax_vlj rfl rfl)
  have r1 : (ρ 2 / 4 + 2147483648) % 4294967296 < (ρ 3 / 4 + 2147483648) % 4294967296 := pz_gc hE 2 11 15 (Nat.le_of_ble_eq_true rfl) ax_m4
  have c_tape : ay_at hp 183 (ρ 2 / 4) = some (ρ 4) := ay_gf hE 742 11 19 183 ax_m5 (ax_vlq rfl rfl)
  obtain ⟨-, -, F131⟩ : ay_ex hp 173 ∧ ay_ex hp 183 ∧ pz_x30 (ρ 0) (ay_at hp 173 12) (ay_at hp 183) := (ax_XF_lt (x := 131) (Nat.le_of_ble_eq_true rfl)).mp (ax_gx hE (131, [3]) ax_m0)
  rw [c_size] at F131
  obtain ⟨-, -, -, -, -, F151⟩ : ay_ex hp 173 ∧ ay_ex hp 173 ∧ ay_ex hp 173 ∧ ay_ex hp 173 ∧ ay_ex hp 173 ∧ pz_y151 (ρ 0) (ρ 1) (ay_at hp 173 13) (ay_at hp 173 14) (ay_at hp 173 15) (ay_at hp 173 16) (ay_at hp 173 17) := (ax_XF_lt (x := 151) (Nat.le_of_ble_eq_true rfl)).mp (ax_gx hE (151, [3, 7]) ax_m1)
  rw [c_at] at F151
  have hb : ρ 2 / 4 < pz_gN (ρ 0) → pz_b (pz_gt (ρ 0)) (ρ 2 / 4) = ρ 4 / 4 := fun hl => by
    have e := F131.2.2 (ρ 2 / 4) hl
    rw [c_tape] at e
    have e := Option.some.inj e
    omega
  have hN : ρ 3 / 4 = pz_gN (ρ 0) := F131.1
  have hlt : ρ 2 / 4 < pz_gN (ρ 0) := by omega
  have e1 : ρ 2 / 4 = pz_at (pz_gt (ρ 0)) (pz_gN (ρ 0)) (pz_p (pz_cf (pz_gt (ρ 0)) (pz_gN (ρ 0)) (ρ 1 / 4))) := F151.2.1
  refine ⟨(fun y hy => by cases hy), _, List.mem_cons_self, ρ, fun _ _ => rfl, ax_px hE rfl (fun x hx => ?_)⟩
  cases List.mem_singleton.mp hx
  refine (ax_XF_lt (x := 169) (Nat.le_of_ble_eq_true rfl)).mpr ?_
  show pz_kd (pz_gt (ρ 0)) (pz_gN (ρ 0)) (pz_p (pz_cF (ρ 0) (ρ 1))) ≠ (164) / 4
  show pz_kd (pz_gt (ρ 0)) (pz_gN (ρ 0)) (pz_p (pz_cf (pz_gt (ρ 0)) (pz_gN (ρ 0)) (ρ 1 / 4))) ≠ 41
  intro z
  have e := (pz_kd4 (show 4 ≤ pz_kd (pz_gt (ρ 0)) (pz_gN (ρ 0)) (pz_p (pz_cf (pz_gt (ρ 0)) (pz_gN (ρ 0)) (ρ 1 / 4))) by omega)).2
  rw [← e1, hb hlt] at e
  omega
theorem axq0_ia3a_41 : ax_RO ax_wM0 (ax_XM 0) axu0_ia3a_41 := axqg_ia3a_41 ax_WW0
theorem axqg_ia3b_41 {w : ax_W} {b : Nat} (hw : ax_WW w) : ax_RO w (ax_XM b) axu0_ia3b_41 := by
  intro ρ hp hE hT
  have j0 : ρ 0 % 4 = 1 := pz_gj hE 0 (Nat.le_of_ble_eq_true rfl) rfl
  have j1 : ρ 1 % 4 = 1 := pz_gj hE 1 (Nat.le_of_ble_eq_true rfl) rfl
  obtain ⟨i2a, i2b, i2c, i2d⟩ := pz_gi hE 2 2147483648 2147484448 (Nat.le_of_ble_eq_true rfl) rfl
  obtain ⟨i3a, i3b, i3c, i3d⟩ := pz_gi hE 3 2147483648 2147484448 (Nat.le_of_ble_eq_true rfl) rfl
  obtain ⟨i4a, i4b, i4c, i4d⟩ := pz_gi hE 4 2147483690 2147483775 (Nat.le_of_ble_eq_true rfl) rfl
  have c_at : ay_at hp 173 14 = some (ρ 2) := ay_gfj hE 702 56 11 173 14 ax_m2 (ax_vlq rfl rfl) (ax_vlj rfl rfl)
  have c_size : ay_at hp 173 12 = some (ρ 3) := ay_gfj hE 702 48 15 173 12 ax_m3 (ax_vlq rfl rfl) (ax_vlj rfl rfl)
  have r1 : (ρ 2 / 4 + 2147483648) % 4294967296 < (ρ 3 / 4 + 2147483648) % 4294967296 := pz_gc hE 2 11 15 (Nat.le_of_ble_eq_true rfl) ax_m4
  have c_tape : ay_at hp 183 (ρ 2 / 4) = some (ρ 4) := ay_gf hE 742 11 19 183 ax_m5 (ax_vlq rfl rfl)
  obtain ⟨-, -, F131⟩ : ay_ex hp 173 ∧ ay_ex hp 183 ∧ pz_x30 (ρ 0) (ay_at hp 173 12) (ay_at hp 183) := (ax_XF_lt (x := 131) (Nat.le_of_ble_eq_true rfl)).mp (ax_gx hE (131, [3]) ax_m0)
  rw [c_size] at F131
  obtain ⟨-, -, -, -, -, F151⟩ : ay_ex hp 173 ∧ ay_ex hp 173 ∧ ay_ex hp 173 ∧ ay_ex hp 173 ∧ ay_ex hp 173 ∧ pz_y151 (ρ 0) (ρ 1) (ay_at hp 173 13) (ay_at hp 173 14) (ay_at hp 173 15) (ay_at hp 173 16) (ay_at hp 173 17) := (ax_XF_lt (x := 151) (Nat.le_of_ble_eq_true rfl)).mp (ax_gx hE (151, [3, 7]) ax_m1)
  rw [c_at] at F151
  have hb : ρ 2 / 4 < pz_gN (ρ 0) → pz_b (pz_gt (ρ 0)) (ρ 2 / 4) = ρ 4 / 4 := fun hl => by
    have e := F131.2.2 (ρ 2 / 4) hl
    rw [c_tape] at e
    have e := Option.some.inj e
    omega
  have hN : ρ 3 / 4 = pz_gN (ρ 0) := F131.1
  have hlt : ρ 2 / 4 < pz_gN (ρ 0) := by omega
  have e1 : ρ 2 / 4 = pz_at (pz_gt (ρ 0)) (pz_gN (ρ 0)) (pz_p (pz_cf (pz_gt (ρ 0)) (pz_gN (ρ 0)) (ρ 1 / 4))) := F151.2.1
  refine ⟨(fun y hy => by cases hy), _, List.mem_cons_self, ρ, fun _ _ => rfl, ax_px hE rfl (fun x hx => ?_)⟩
  cases List.mem_singleton.mp hx
  refine (ax_XF_lt (x := 169) (Nat.le_of_ble_eq_true rfl)).mpr ?_
  show pz_kd (pz_gt (ρ 0)) (pz_gN (ρ 0)) (pz_p (pz_cF (ρ 0) (ρ 1))) ≠ (164) / 4
  show pz_kd (pz_gt (ρ 0)) (pz_gN (ρ 0)) (pz_p (pz_cf (pz_gt (ρ 0)) (pz_gN (ρ 0)) (ρ 1 / 4))) ≠ 41
  intro z
  have e := (pz_kd4 (show 4 ≤ pz_kd (pz_gt (ρ 0)) (pz_gN (ρ 0)) (pz_p (pz_cf (pz_gt (ρ 0)) (pz_gN (ρ 0)) (ρ 1 / 4))) by omega)).2
  rw [← e1, hb hlt] at e
  omega
theorem axq0_ia3b_41 : ax_RO ax_wM0 (ax_XM 0) axu0_ia3b_41 := axqg_ia3b_41 ax_WW0
theorem axqg_ia4_41 {w : ax_W} {b : Nat} (hw : ax_WW w) : ax_RO w (ax_XM b) axu0_ia4_41 := by
  intro ρ hp hE hT
  have j0 : ρ 0 % 4 = 1 := pz_gj hE 0 (Nat.le_of_ble_eq_true rfl) rfl
  have j1 : ρ 1 % 4 = 1 := pz_gj hE 1 (Nat.le_of_ble_eq_true rfl) rfl
  obtain ⟨i2a, i2b, i2c, i2d⟩ := pz_gi hE 2 2147483648 2147484448 (Nat.le_of_ble_eq_true rfl) rfl
  obtain ⟨i3a, i3b, i3c, i3d⟩ := pz_gi hE 3 2147483648 2147484448 (Nat.le_of_ble_eq_true rfl) rfl
  have c_at : ay_at hp 173 14 = some (ρ 2) := ay_gfj hE 702 56 11 173 14 ax_m2 (ax_vlq rfl rfl) (ax_vlj rfl rfl)
  have c_size : ay_at hp 173 12 = some (ρ 3) := ay_gfj hE 702 48 15 173 12 ax_m3 (ax_vlq rfl rfl) (ax_vlj rfl rfl)
  have r1 : (ρ 3 / 4 + 2147483648) % 4294967296 ≤ (ρ 2 / 4 + 2147483648) % 4294967296 := pz_gc hE 3 11 15 (Nat.le_of_ble_eq_true rfl) ax_m4
  obtain ⟨-, -, F131⟩ : ay_ex hp 173 ∧ ay_ex hp 183 ∧ pz_x30 (ρ 0) (ay_at hp 173 12) (ay_at hp 183) := (ax_XF_lt (x := 131) (Nat.le_of_ble_eq_true rfl)).mp (ax_gx hE (131, [3]) ax_m0)
  rw [c_size] at F131
  obtain ⟨-, -, -, -, -, F151⟩ : ay_ex hp 173 ∧ ay_ex hp 173 ∧ ay_ex hp 173 ∧ ay_ex hp 173 ∧ ay_ex hp 173 ∧ pz_y151 (ρ 0) (ρ 1) (ay_at hp 173 13) (ay_at hp 173 14) (ay_at hp 173 15) (ay_at hp 173 16) (ay_at hp 173 17) := (ax_XF_lt (x := 151) (Nat.le_of_ble_eq_true rfl)).mp (ax_gx hE (151, [3, 7]) ax_m1)
  rw [c_at] at F151
  have hN : ρ 3 / 4 = pz_gN (ρ 0) := F131.1
  have e1 : ρ 2 / 4 = pz_at (pz_gt (ρ 0)) (pz_gN (ρ 0)) (pz_p (pz_cf (pz_gt (ρ 0)) (pz_gN (ρ 0)) (ρ 1 / 4))) := F151.2.1
  have k1 := (pz_kd_end (t := pz_gt (ρ 0)) (N := pz_gN (ρ 0)) (p := pz_p (pz_cf (pz_gt (ρ 0)) (pz_gN (ρ 0)) (ρ 1 / 4))) (by omega)).1
  refine ⟨(fun y hy => by cases hy), _, List.mem_cons_self, ρ, fun _ _ => rfl, ax_px hE rfl (fun x hx => ?_)⟩
  cases List.mem_singleton.mp hx
  refine (ax_XF_lt (x := 169) (Nat.le_of_ble_eq_true rfl)).mpr ?_
  show pz_kd (pz_gt (ρ 0)) (pz_gN (ρ 0)) (pz_p (pz_cF (ρ 0) (ρ 1))) ≠ (164) / 4
  show pz_kd (pz_gt (ρ 0)) (pz_gN (ρ 0)) (pz_p (pz_cf (pz_gt (ρ 0)) (pz_gN (ρ 0)) (ρ 1 / 4))) ≠ 41
  intro z
  rw [k1] at z
  cases z
theorem axq0_ia4_41 : ax_RO ax_wM0 (ax_XM 0) axu0_ia4_41 := axqg_ia4_41 ax_WW0
theorem axqg_ia1_43 {w : ax_W} {b : Nat} (hw : ax_WW w) : ax_RO w (ax_XM b) axu0_ia1_43 := by
  intro ρ hp hE hT
  have j0 : ρ 0 % 4 = 1 := pz_gj hE 0 (Nat.le_of_ble_eq_true rfl) rfl
  have j1 : ρ 1 % 4 = 1 := pz_gj hE 1 (Nat.le_of_ble_eq_true rfl) rfl
  obtain ⟨i2a, i2b, i2c, i2d⟩ := pz_gi hE 2 2147483652 2147483652 (Nat.le_of_ble_eq_true rfl) rfl
  obtain ⟨i3a, i3b, i3c, i3d⟩ := pz_gi hE 3 2147483648 2147484448 (Nat.le_of_ble_eq_true rfl) rfl
  obtain ⟨i4a, i4b, i4c, i4d⟩ := pz_gi hE 4 2147483648 2147484448 (Nat.le_of_ble_eq_true rfl) rfl
  obtain ⟨i5a, i5b, i5c, i5d⟩ := pz_gi hE 5 2147483691 2147483691 (Nat.le_of_ble_eq_true rfl) rfl
  have c_token : ay_at hp 173 15 = some (ρ 2) := ay_gfj hE 702 60 11 173 15 ax_m2 (ax_vlq rfl rfl) (ax_vlj rfl rfl)
  have c_at : ay_at hp 173 14 = some (ρ 3) := ay_gfj hE 702 56 15 173 14 ax_m3 (ax_vlq rfl rfl) (ax_vlj rfl rfl)
  have c_size : ay_at hp 173 12 = some (ρ 4) := ay_gfj hE 702 48 19 173 12 ax_m4 (ax_vlq rfl rfl) (ax_vlj rfl rfl)
  have r1 : (ρ 3 / 4 + 2147483648) % 4294967296 < (ρ 4 / 4 + 2147483648) % 4294967296 := pz_gc hE 2 15 19 (Nat.le_of_ble_eq_true rfl) ax_m5
  have c_tape : ay_at hp 183 (ρ 3 / 4) = some (ρ 5) := ay_gf hE 742 15 23 183 ax_m6 (ax_vlq rfl rfl)
  obtain ⟨-, -, F131⟩ : ay_ex hp 173 ∧ ay_ex hp 183 ∧ pz_x30 (ρ 0) (ay_at hp 173 12) (ay_at hp 183) := (ax_XF_lt (x := 131) (Nat.le_of_ble_eq_true rfl)).mp (ax_gx hE (131, [3]) ax_m0)
  rw [c_size] at F131
  obtain ⟨-, -, -, -, -, F151⟩ : ay_ex hp 173 ∧ ay_ex hp 173 ∧ ay_ex hp 173 ∧ ay_ex hp 173 ∧ ay_ex hp 173 ∧ pz_y151 (ρ 0) (ρ 1) (ay_at hp 173 13) (ay_at hp 173 14) (ay_at hp 173 15) (ay_at hp 173 16) (ay_at hp 173 17) := (ax_XF_lt (x := 151) (Nat.le_of_ble_eq_true rfl)).mp (ax_gx hE (151, [3, 7]) ax_m1)
  rw [c_token] at F151
  rw [c_at] at F151
  have ht : ρ 2 / 4 = pz_tok (pz_kd (pz_gt (ρ 0)) (pz_gN (ρ 0)) (pz_p (pz_cf (pz_gt (ρ 0)) (pz_gN (ρ 0)) (ρ 1 / 4)))) := F151.2.2.1
  have hc := pz_tok_c (pz_kd (pz_gt (ρ 0)) (pz_gN (ρ 0)) (pz_p (pz_cf (pz_gt (ρ 0)) (pz_gN (ρ 0)) (ρ 1 / 4))))
  have hk : 4 ≤ pz_kd (pz_gt (ρ 0)) (pz_gN (ρ 0)) (pz_p (pz_cf (pz_gt (ρ 0)) (pz_gN (ρ 0)) (ρ 1 / 4))) := (by rcases hc with h | h | h | h | h <;> omega)
  have hb : ρ 3 / 4 < pz_gN (ρ 0) → pz_b (pz_gt (ρ 0)) (ρ 3 / 4) = ρ 5 / 4 := fun hl => by
    have e := F131.2.2 (ρ 3 / 4) hl
    rw [c_tape] at e
    have e := Option.some.inj e
    omega
  have hN : ρ 4 / 4 = pz_gN (ρ 0) := F131.1
  have hlt : ρ 3 / 4 < pz_gN (ρ 0) := by omega
  have e1 : ρ 3 / 4 = pz_at (pz_gt (ρ 0)) (pz_gN (ρ 0)) (pz_p (pz_cf (pz_gt (ρ 0)) (pz_gN (ρ 0)) (ρ 1 / 4))) := F151.2.1
  have e := (pz_kd4 hk).2
  rw [← e1, hb hlt] at e
  refine ⟨(fun y hy => by cases hy), _, List.mem_cons_self, ρ, fun _ _ => rfl, ax_px hE rfl (fun x hx => ?_)⟩
  cases List.mem_singleton.mp hx
  refine (ax_XF_lt (x := 168) (Nat.le_of_ble_eq_true rfl)).mpr ?_
  show pz_kd (pz_gt (ρ 0)) (pz_gN (ρ 0)) (pz_p (pz_cF (ρ 0) (ρ 1))) = (172) / 4
  show pz_kd (pz_gt (ρ 0)) (pz_gN (ρ 0)) (pz_p (pz_cf (pz_gt (ρ 0)) (pz_gN (ρ 0)) (ρ 1 / 4))) = 43
  omega
theorem axq0_ia1_43 : ax_RO ax_wM0 (ax_XM 0) axu0_ia1_43 := axqg_ia1_43 ax_WW0
theorem axqg_ia2a_43 {w : ax_W} {b : Nat} (hw : ax_WW w) : ax_RO w (ax_XM b) axu0_ia2a_43 := by
  intro ρ hp hE hT
  have j0 : ρ 0 % 4 = 1 := pz_gj hE 0 (Nat.le_of_ble_eq_true rfl) rfl
  have j1 : ρ 1 % 4 = 1 := pz_gj hE 1 (Nat.le_of_ble_eq_true rfl) rfl
  obtain ⟨i2a, i2b, i2c, i2d⟩ := pz_gi hE 2 0 2147483651 (Nat.le_of_ble_eq_true rfl) rfl
  have c_token : ay_at hp 173 15 = some (ρ 2) := ay_gfj hE 702 60 11 173 15 ax_m2 (ax_vlq rfl rfl) (ax_vlj rfl rfl)
  obtain ⟨-, -, F131⟩ : ay_ex hp 173 ∧ ay_ex hp 183 ∧ pz_x30 (ρ 0) (ay_at hp 173 12) (ay_at hp 183) := (ax_XF_lt (x := 131) (Nat.le_of_ble_eq_true rfl)).mp (ax_gx hE (131, [3]) ax_m0)
  obtain ⟨-, -, -, -, -, F151⟩ : ay_ex hp 173 ∧ ay_ex hp 173 ∧ ay_ex hp 173 ∧ ay_ex hp 173 ∧ ay_ex hp 173 ∧ pz_y151 (ρ 0) (ρ 1) (ay_at hp 173 13) (ay_at hp 173 14) (ay_at hp 173 15) (ay_at hp 173 16) (ay_at hp 173 17) := (ax_XF_lt (x := 151) (Nat.le_of_ble_eq_true rfl)).mp (ax_gx hE (151, [3, 7]) ax_m1)
  rw [c_token] at F151
  have ht : ρ 2 / 4 = pz_tok (pz_kd (pz_gt (ρ 0)) (pz_gN (ρ 0)) (pz_p (pz_cf (pz_gt (ρ 0)) (pz_gN (ρ 0)) (ρ 1 / 4)))) := F151.2.2.1
  have hc := pz_tok_c (pz_kd (pz_gt (ρ 0)) (pz_gN (ρ 0)) (pz_p (pz_cf (pz_gt (ρ 0)) (pz_gN (ρ 0)) (ρ 1 / 4))))
  refine ⟨(fun y hy => by cases hy), _, List.mem_cons_self, ρ, fun _ _ => rfl, ax_px hE rfl (fun x hx => ?_)⟩
  cases List.mem_singleton.mp hx
  refine (ax_XF_lt (x := 169) (Nat.le_of_ble_eq_true rfl)).mpr ?_
  show pz_kd (pz_gt (ρ 0)) (pz_gN (ρ 0)) (pz_p (pz_cF (ρ 0) (ρ 1))) ≠ (172) / 4
  show pz_kd (pz_gt (ρ 0)) (pz_gN (ρ 0)) (pz_p (pz_cf (pz_gt (ρ 0)) (pz_gN (ρ 0)) (ρ 1 / 4))) ≠ 43
  intro z
  rcases hc with h | h | h | h | h <;> omega
theorem axq0_ia2a_43 : ax_RO ax_wM0 (ax_XM 0) axu0_ia2a_43 := axqg_ia2a_43 ax_WW0
theorem axqg_ia2b_43 {w : ax_W} {b : Nat} (hw : ax_WW w) : ax_RO w (ax_XM b) axu0_ia2b_43 := by
  intro ρ hp hE hT
  have j0 : ρ 0 % 4 = 1 := pz_gj hE 0 (Nat.le_of_ble_eq_true rfl) rfl
  have j1 : ρ 1 % 4 = 1 := pz_gj hE 1 (Nat.le_of_ble_eq_true rfl) rfl
  obtain ⟨i2a, i2b, i2c, i2d⟩ := pz_gi hE 2 2147483653 4294967295 (Nat.le_of_ble_eq_true rfl) rfl
  have c_token : ay_at hp 173 15 = some (ρ 2) := ay_gfj hE 702 60 11 173 15 ax_m2 (ax_vlq rfl rfl) (ax_vlj rfl rfl)
  obtain ⟨-, -, F131⟩ : ay_ex hp 173 ∧ ay_ex hp 183 ∧ pz_x30 (ρ 0) (ay_at hp 173 12) (ay_at hp 183) := (ax_XF_lt (x := 131) (Nat.le_of_ble_eq_true rfl)).mp (ax_gx hE (131, [3]) ax_m0)
  obtain ⟨-, -, -, -, -, F151⟩ : ay_ex hp 173 ∧ ay_ex hp 173 ∧ ay_ex hp 173 ∧ ay_ex hp 173 ∧ ay_ex hp 173 ∧ pz_y151 (ρ 0) (ρ 1) (ay_at hp 173 13) (ay_at hp 173 14) (ay_at hp 173 15) (ay_at hp 173 16) (ay_at hp 173 17) := (ax_XF_lt (x := 151) (Nat.le_of_ble_eq_true rfl)).mp (ax_gx hE (151, [3, 7]) ax_m1)
  rw [c_token] at F151
  have ht : ρ 2 / 4 = pz_tok (pz_kd (pz_gt (ρ 0)) (pz_gN (ρ 0)) (pz_p (pz_cf (pz_gt (ρ 0)) (pz_gN (ρ 0)) (ρ 1 / 4)))) := F151.2.2.1
  have hc := pz_tok_c (pz_kd (pz_gt (ρ 0)) (pz_gN (ρ 0)) (pz_p (pz_cf (pz_gt (ρ 0)) (pz_gN (ρ 0)) (ρ 1 / 4))))
  refine ⟨(fun y hy => by cases hy), _, List.mem_cons_self, ρ, fun _ _ => rfl, ax_px hE rfl (fun x hx => ?_)⟩
  cases List.mem_singleton.mp hx
  refine (ax_XF_lt (x := 169) (Nat.le_of_ble_eq_true rfl)).mpr ?_
  show pz_kd (pz_gt (ρ 0)) (pz_gN (ρ 0)) (pz_p (pz_cF (ρ 0) (ρ 1))) ≠ (172) / 4
  show pz_kd (pz_gt (ρ 0)) (pz_gN (ρ 0)) (pz_p (pz_cf (pz_gt (ρ 0)) (pz_gN (ρ 0)) (ρ 1 / 4))) ≠ 43
  intro z
  rcases hc with h | h | h | h | h <;> omega
theorem axq0_ia2b_43 : ax_RO ax_wM0 (ax_XM 0) axu0_ia2b_43 := axqg_ia2b_43 ax_WW0
theorem axqg_ia3a_43 {w : ax_W} {b : Nat} (hw : ax_WW w) : ax_RO w (ax_XM b) axu0_ia3a_43 := by
  intro ρ hp hE hT
  have j0 : ρ 0 % 4 = 1 := pz_gj hE 0 (Nat.le_of_ble_eq_true rfl) rfl
  have j1 : ρ 1 % 4 = 1 := pz_gj hE 1 (Nat.le_of_ble_eq_true rfl) rfl
  obtain ⟨i2a, i2b, i2c, i2d⟩ := pz_gi hE 2 2147483648 2147484448 (Nat.le_of_ble_eq_true rfl) rfl
  obtain ⟨i3a, i3b, i3c, i3d⟩ := pz_gi hE 3 2147483648 2147484448 (Nat.le_of_ble_eq_true rfl) rfl
  obtain ⟨i4a, i4b, i4c, i4d⟩ := pz_gi hE 4 2147483520 2147483690 (Nat.le_of_ble_eq_true rfl) rfl
  have c_at : ay_at hp 173 14 = some (ρ 2) := ay_gfj hE 702 56 11 173 14 ax_m2 (ax_vlq rfl rfl) (ax_vlj rfl rfl)
  have c_size : ay_at hp 173 12 = some (ρ 3) := ay_gfj hE 702 48 15 173 12 ax_m3 (ax_vlq rfl rfl) (ax_vlj rfl rfl)
  have r1 : (ρ 2 / 4 + 2147483648) % 4294967296 < (ρ 3 / 4 + 2147483648) % 4294967296 := pz_gc hE 2 11 15 (Nat.le_of_ble_eq_true rfl) ax_m4
  have c_tape : ay_at hp 183 (ρ 2 / 4) = some (ρ 4) := ay_gf hE 742 11 19 183 ax_m5 (ax_vlq rfl rfl)
  obtain ⟨-, -, F131⟩ : ay_ex hp 173 ∧ ay_ex hp 183 ∧ pz_x30 (ρ 0) (ay_at hp 173 12) (ay_at hp 183) := (ax_XF_lt (x := 131) (Nat.le_of_ble_eq_true rfl)).mp (ax_gx hE (131, [3]) ax_m0)
  rw [c_size] at F131
  obtain ⟨-, -, -, -, -, F151⟩ : ay_ex hp 173 ∧ ay_ex hp 173 ∧ ay_ex hp 173 ∧ ay_ex hp 173 ∧ ay_ex hp 173 ∧ pz_y151 (ρ 0) (ρ 1) (ay_at hp 173 13) (ay_at hp 173 14) (ay_at hp 173 15) (ay_at hp 173 16) (ay_at hp 173 17) := (ax_XF_lt (x := 151) (Nat.le_of_ble_eq_true rfl)).mp (ax_gx hE (151, [3, 7]) ax_m1)
  rw [c_at] at F151
  have hb : ρ 2 / 4 < pz_gN (ρ 0) → pz_b (pz_gt (ρ 0)) (ρ 2 / 4) = ρ 4 / 4 := fun hl => by
    have e := F131.2.2 (ρ 2 / 4) hl
    rw [c_tape] at e
    have e := Option.some.inj e
    omega
  have hN : ρ 3 / 4 = pz_gN (ρ 0) := F131.1
  have hlt : ρ 2 / 4 < pz_gN (ρ 0) := by omega
  have e1 : ρ 2 / 4 = pz_at (pz_gt (ρ 0)) (pz_gN (ρ 0)) (pz_p (pz_cf (pz_gt (ρ 0)) (pz_gN (ρ 0)) (ρ 1 / 4))) := F151.2.1
  refine ⟨(fun y hy => by cases hy), _, List.mem_cons_self, ρ, fun _ _ => rfl, ax_px hE rfl (fun x hx => ?_)⟩
  cases List.mem_singleton.mp hx
  refine (ax_XF_lt (x := 169) (Nat.le_of_ble_eq_true rfl)).mpr ?_
  show pz_kd (pz_gt (ρ 0)) (pz_gN (ρ 0)) (pz_p (pz_cF (ρ 0) (ρ 1))) ≠ (172) / 4
  show pz_kd (pz_gt (ρ 0)) (pz_gN (ρ 0)) (pz_p (pz_cf (pz_gt (ρ 0)) (pz_gN (ρ 0)) (ρ 1 / 4))) ≠ 43
  intro z
  have e := (pz_kd4 (show 4 ≤ pz_kd (pz_gt (ρ 0)) (pz_gN (ρ 0)) (pz_p (pz_cf (pz_gt (ρ 0)) (pz_gN (ρ 0)) (ρ 1 / 4))) by omega)).2
  rw [← e1, hb hlt] at e
  omega
theorem axq0_ia3a_43 : ax_RO ax_wM0 (ax_XM 0) axu0_ia3a_43 := axqg_ia3a_43 ax_WW0
theorem axqg_ia3b_43 {w : ax_W} {b : Nat} (hw : ax_WW w) : ax_RO w (ax_XM b) axu0_ia3b_43 := by
  intro ρ hp hE hT
  have j0 : ρ 0 % 4 = 1 := pz_gj hE 0 (Nat.le_of_ble_eq_true rfl) rfl
  have j1 : ρ 1 % 4 = 1 := pz_gj hE 1 (Nat.le_of_ble_eq_true rfl) rfl
  obtain ⟨i2a, i2b, i2c, i2d⟩ := pz_gi hE 2 2147483648 2147484448 (Nat.le_of_ble_eq_true rfl) rfl
  obtain ⟨i3a, i3b, i3c, i3d⟩ := pz_gi hE 3 2147483648 2147484448 (Nat.le_of_ble_eq_true rfl) rfl
  obtain ⟨i4a, i4b, i4c, i4d⟩ := pz_gi hE 4 2147483692 2147483775 (Nat.le_of_ble_eq_true rfl) rfl
  have c_at : ay_at hp 173 14 = some (ρ 2) := ay_gfj hE 702 56 11 173 14 ax_m2 (ax_vlq rfl rfl) (ax_vlj rfl rfl)
  have c_size : ay_at hp 173 12 = some (ρ 3) := ay_gfj hE 702 48 15 173 12 ax_m3 (ax_vlq rfl rfl) (ax_vlj rfl rfl)
  have r1 : (ρ 2 / 4 + 2147483648) % 4294967296 < (ρ 3 / 4 + 2147483648) % 4294967296 := pz_gc hE 2 11 15 (Nat.le_of_ble_eq_true rfl) ax_m4
  have c_tape : ay_at hp 183 (ρ 2 / 4) = some (ρ 4) := ay_gf hE 742 11 19 183 ax_m5 (ax_vlq rfl rfl)
  obtain ⟨-, -, F131⟩ : ay_ex hp 173 ∧ ay_ex hp 183 ∧ pz_x30 (ρ 0) (ay_at hp 173 12) (ay_at hp 183) := (ax_XF_lt (x := 131) (Nat.le_of_ble_eq_true rfl)).mp (ax_gx hE (131, [3]) ax_m0)
  rw [c_size] at F131
  obtain ⟨-, -, -, -, -, F151⟩ : ay_ex hp 173 ∧ ay_ex hp 173 ∧ ay_ex hp 173 ∧ ay_ex hp 173 ∧ ay_ex hp 173 ∧ pz_y151 (ρ 0) (ρ 1) (ay_at hp 173 13) (ay_at hp 173 14) (ay_at hp 173 15) (ay_at hp 173 16) (ay_at hp 173 17) := (ax_XF_lt (x := 151) (Nat.le_of_ble_eq_true rfl)).mp (ax_gx hE (151, [3, 7]) ax_m1)
  rw [c_at] at F151
  have hb : ρ 2 / 4 < pz_gN (ρ 0) → pz_b (pz_gt (ρ 0)) (ρ 2 / 4) = ρ 4 / 4 := fun hl => by
    have e := F131.2.2 (ρ 2 / 4) hl
    rw [c_tape] at e
    have e := Option.some.inj e
    omega
  have hN : ρ 3 / 4 = pz_gN (ρ 0) := F131.1
  have hlt : ρ 2 / 4 < pz_gN (ρ 0) := by omega
  have e1 : ρ 2 / 4 = pz_at (pz_gt (ρ 0)) (pz_gN (ρ 0)) (pz_p (pz_cf (pz_gt (ρ 0)) (pz_gN (ρ 0)) (ρ 1 / 4))) := F151.2.1
  refine ⟨(fun y hy => by cases hy), _, List.mem_cons_self, ρ, fun _ _ => rfl, ax_px hE rfl (fun x hx => ?_)⟩
  cases List.mem_singleton.mp hx
  refine (ax_XF_lt (x := 169) (Nat.le_of_ble_eq_true rfl)).mpr ?_
  show pz_kd (pz_gt (ρ 0)) (pz_gN (ρ 0)) (pz_p (pz_cF (ρ 0) (ρ 1))) ≠ (172) / 4
  show pz_kd (pz_gt (ρ 0)) (pz_gN (ρ 0)) (pz_p (pz_cf (pz_gt (ρ 0)) (pz_gN (ρ 0)) (ρ 1 / 4))) ≠ 43
  intro z
  have e := (pz_kd4 (show 4 ≤ pz_kd (pz_gt (ρ 0)) (pz_gN (ρ 0)) (pz_p (pz_cf (pz_gt (ρ 0)) (pz_gN (ρ 0)) (ρ 1 / 4))) by omega)).2
  rw [← e1, hb hlt] at e
  omega
theorem axq0_ia3b_43 : ax_RO ax_wM0 (ax_XM 0) axu0_ia3b_43 := axqg_ia3b_43 ax_WW0
theorem axqg_ia4_43 {w : ax_W} {b : Nat} (hw : ax_WW w) : ax_RO w (ax_XM b) axu0_ia4_43 := by
  intro ρ hp hE hT
  have j0 : ρ 0 % 4 = 1 := pz_gj hE 0 (Nat.le_of_ble_eq_true rfl) rfl
  have j1 : ρ 1 % 4 = 1 := pz_gj hE 1 (Nat.le_of_ble_eq_true rfl) rfl
  obtain ⟨i2a, i2b, i2c, i2d⟩ := pz_gi hE 2 2147483648 2147484448 (Nat.le_of_ble_eq_true rfl) rfl
  obtain ⟨i3a, i3b, i3c, i3d⟩ := pz_gi hE 3 2147483648 2147484448 (Nat.le_of_ble_eq_true rfl) rfl
  have c_at : ay_at hp 173 14 = some (ρ 2) := ay_gfj hE 702 56 11 173 14 ax_m2 (ax_vlq rfl rfl) (ax_vlj rfl rfl)
  have c_size : ay_at hp 173 12 = some (ρ 3) := ay_gfj hE 702 48 15 173 12 ax_m3 (ax_vlq rfl rfl) (ax_vlj rfl rfl)
  have r1 : (ρ 3 / 4 + 2147483648) % 4294967296 ≤ (ρ 2 / 4 + 2147483648) % 4294967296 := pz_gc hE 3 11 15 (Nat.le_of_ble_eq_true rfl) ax_m4
  obtain ⟨-, -, F131⟩ : ay_ex hp 173 ∧ ay_ex hp 183 ∧ pz_x30 (ρ 0) (ay_at hp 173 12) (ay_at hp 183) := (ax_XF_lt (x := 131) (Nat.le_of_ble_eq_true rfl)).mp (ax_gx hE (131, [3]) ax_m0)
  rw [c_size] at F131
  obtain ⟨-, -, -, -, -, F151⟩ : ay_ex hp 173 ∧ ay_ex hp 173 ∧ ay_ex hp 173 ∧ ay_ex hp 173 ∧ ay_ex hp 173 ∧ pz_y151 (ρ 0) (ρ 1) (ay_at hp 173 13) (ay_at hp 173 14) (ay_at hp 173 15) (ay_at hp 173 16) (ay_at hp 173 17) := (ax_XF_lt (x := 151) (Nat.le_of_ble_eq_true rfl)).mp (ax_gx hE (151, [3, 7]) ax_m1)
  rw [c_at] at F151
  have hN : ρ 3 / 4 = pz_gN (ρ 0) := F131.1
  have e1 : ρ 2 / 4 = pz_at (pz_gt (ρ 0)) (pz_gN (ρ 0)) (pz_p (pz_cf (pz_gt (ρ 0)) (pz_gN (ρ 0)) (ρ 1 / 4))) := F151.2.1
  have k1 := (pz_kd_end (t := pz_gt (ρ 0)) (N := pz_gN (ρ 0)) (p := pz_p (pz_cf (pz_gt (ρ 0)) (pz_gN (ρ 0)) (ρ 1 / 4))) (by omega)).1
  refine ⟨(fun y hy => by cases hy), _, List.mem_cons_self, ρ, fun _ _ => rfl, ax_px hE rfl (fun x hx => ?_)⟩
  cases List.mem_singleton.mp hx
  refine (ax_XF_lt (x := 169) (Nat.le_of_ble_eq_true rfl)).mpr ?_
  show pz_kd (pz_gt (ρ 0)) (pz_gN (ρ 0)) (pz_p (pz_cF (ρ 0) (ρ 1))) ≠ (172) / 4
  show pz_kd (pz_gt (ρ 0)) (pz_gN (ρ 0)) (pz_p (pz_cf (pz_gt (ρ 0)) (pz_gN (ρ 0)) (ρ 1 / 4))) ≠ 43
  intro z
  rw [k1] at z
  cases z
theorem axq0_ia4_43 : ax_RO ax_wM0 (ax_XM 0) axu0_ia4_43 := axqg_ia4_43 ax_WW0
theorem axqg_ia1_45 {w : ax_W} {b : Nat} (hw : ax_WW w) : ax_RO w (ax_XM b) axu0_ia1_45 := by
  intro ρ hp hE hT
  have j0 : ρ 0 % 4 = 1 := pz_gj hE 0 (Nat.le_of_ble_eq_true rfl) rfl
  have j1 : ρ 1 % 4 = 1 := pz_gj hE 1 (Nat.le_of_ble_eq_true rfl) rfl
  obtain ⟨i2a, i2b, i2c, i2d⟩ := pz_gi hE 2 2147483652 2147483652 (Nat.le_of_ble_eq_true rfl) rfl
  obtain ⟨i3a, i3b, i3c, i3d⟩ := pz_gi hE 3 2147483648 2147484448 (Nat.le_of_ble_eq_true rfl) rfl
  obtain ⟨i4a, i4b, i4c, i4d⟩ := pz_gi hE 4 2147483648 2147484448 (Nat.le_of_ble_eq_true rfl) rfl
  obtain ⟨i5a, i5b, i5c, i5d⟩ := pz_gi hE 5 2147483693 2147483693 (Nat.le_of_ble_eq_true rfl) rfl
  have c_token : ay_at hp 173 15 = some (ρ 2) := ay_gfj hE 702 60 11 173 15 ax_m2 (ax_vlq rfl rfl) (ax_vlj rfl rfl)
  have c_at : ay_at hp 173 14 = some (ρ 3) := ay_gfj hE 702 56 15 173 14 ax_m3 (ax_vlq rfl rfl) (ax_vlj rfl rfl)
  have c_size : ay_at hp 173 12 = some (ρ 4) := ay_gfj hE 702 48 19 173 12 ax_m4 (ax_vlq rfl rfl) (ax_vlj rfl rfl)
  have r1 : (ρ 3 / 4 + 2147483648) % 4294967296 < (ρ 4 / 4 + 2147483648) % 4294967296 := pz_gc hE 2 15 19 (Nat.le_of_ble_eq_true rfl) ax_m5
  have c_tape : ay_at hp 183 (ρ 3 / 4) = some (ρ 5) := ay_gf hE 742 15 23 183 ax_m6 (ax_vlq rfl rfl)
  obtain ⟨-, -, F131⟩ : ay_ex hp 173 ∧ ay_ex hp 183 ∧ pz_x30 (ρ 0) (ay_at hp 173 12) (ay_at hp 183) := (ax_XF_lt (x := 131) (Nat.le_of_ble_eq_true rfl)).mp (ax_gx hE (131, [3]) ax_m0)
  rw [c_size] at F131
  obtain ⟨-, -, -, -, -, F151⟩ : ay_ex hp 173 ∧ ay_ex hp 173 ∧ ay_ex hp 173 ∧ ay_ex hp 173 ∧ ay_ex hp 173 ∧ pz_y151 (ρ 0) (ρ 1) (ay_at hp 173 13) (ay_at hp 173 14) (ay_at hp 173 15) (ay_at hp 173 16) (ay_at hp 173 17) := (ax_XF_lt (x := 151) (Nat.le_of_ble_eq_true rfl)).mp (ax_gx hE (151, [3, 7]) ax_m1)
  rw [c_token] at F151
  rw [c_at] at F151
  have ht : ρ 2 / 4 = pz_tok (pz_kd (pz_gt (ρ 0)) (pz_gN (ρ 0)) (pz_p (pz_cf (pz_gt (ρ 0)) (pz_gN (ρ 0)) (ρ 1 / 4)))) := F151.2.2.1
  have hc := pz_tok_c (pz_kd (pz_gt (ρ 0)) (pz_gN (ρ 0)) (pz_p (pz_cf (pz_gt (ρ 0)) (pz_gN (ρ 0)) (ρ 1 / 4))))
  have hk : 4 ≤ pz_kd (pz_gt (ρ 0)) (pz_gN (ρ 0)) (pz_p (pz_cf (pz_gt (ρ 0)) (pz_gN (ρ 0)) (ρ 1 / 4))) := (by rcases hc with h | h | h | h | h <;> omega)
  have hb : ρ 3 / 4 < pz_gN (ρ 0) → pz_b (pz_gt (ρ 0)) (ρ 3 / 4) = ρ 5 / 4 := fun hl => by
    have e := F131.2.2 (ρ 3 / 4) hl
    rw [c_tape] at e
    have e := Option.some.inj e
    omega
  have hN : ρ 4 / 4 = pz_gN (ρ 0) := F131.1
  have hlt : ρ 3 / 4 < pz_gN (ρ 0) := by omega
  have e1 : ρ 3 / 4 = pz_at (pz_gt (ρ 0)) (pz_gN (ρ 0)) (pz_p (pz_cf (pz_gt (ρ 0)) (pz_gN (ρ 0)) (ρ 1 / 4))) := F151.2.1
  have e := (pz_kd4 hk).2
  rw [← e1, hb hlt] at e
  refine ⟨(fun y hy => by cases hy), _, List.mem_cons_self, ρ, fun _ _ => rfl, ax_px hE rfl (fun x hx => ?_)⟩
  cases List.mem_singleton.mp hx
  refine (ax_XF_lt (x := 168) (Nat.le_of_ble_eq_true rfl)).mpr ?_
  show pz_kd (pz_gt (ρ 0)) (pz_gN (ρ 0)) (pz_p (pz_cF (ρ 0) (ρ 1))) = (180) / 4
  show pz_kd (pz_gt (ρ 0)) (pz_gN (ρ 0)) (pz_p (pz_cf (pz_gt (ρ 0)) (pz_gN (ρ 0)) (ρ 1 / 4))) = 45
  omega
theorem axq0_ia1_45 : ax_RO ax_wM0 (ax_XM 0) axu0_ia1_45 := axqg_ia1_45 ax_WW0
theorem axqg_ia2a_45 {w : ax_W} {b : Nat} (hw : ax_WW w) : ax_RO w (ax_XM b) axu0_ia2a_45 := by
  intro ρ hp hE hT
  have j0 : ρ 0 % 4 = 1 := pz_gj hE 0 (Nat.le_of_ble_eq_true rfl) rfl
  have j1 : ρ 1 % 4 = 1 := pz_gj hE 1 (Nat.le_of_ble_eq_true rfl) rfl
  obtain ⟨i2a, i2b, i2c, i2d⟩ := pz_gi hE 2 0 2147483651 (Nat.le_of_ble_eq_true rfl) rfl
  have c_token : ay_at hp 173 15 = some (ρ 2) := ay_gfj hE 702 60 11 173 15 ax_m2 (ax_vlq rfl rfl) (ax_vlj rfl rfl)
  obtain ⟨-, -, F131⟩ : ay_ex hp 173 ∧ ay_ex hp 183 ∧ pz_x30 (ρ 0) (ay_at hp 173 12) (ay_at hp 183) := (ax_XF_lt (x := 131) (Nat.le_of_ble_eq_true rfl)).mp (ax_gx hE (131, [3]) ax_m0)
  obtain ⟨-, -, -, -, -, F151⟩ : ay_ex hp 173 ∧ ay_ex hp 173 ∧ ay_ex hp 173 ∧ ay_ex hp 173 ∧ ay_ex hp 173 ∧ pz_y151 (ρ 0) (ρ 1) (ay_at hp 173 13) (ay_at hp 173 14) (ay_at hp 173 15) (ay_at hp 173 16) (ay_at hp 173 17) := (ax_XF_lt (x := 151) (Nat.le_of_ble_eq_true rfl)).mp (ax_gx hE (151, [3, 7]) ax_m1)
  rw [c_token] at F151
  have ht : ρ 2 / 4 = pz_tok (pz_kd (pz_gt (ρ 0)) (pz_gN (ρ 0)) (pz_p (pz_cf (pz_gt (ρ 0)) (pz_gN (ρ 0)) (ρ 1 / 4)))) := F151.2.2.1
  have hc := pz_tok_c (pz_kd (pz_gt (ρ 0)) (pz_gN (ρ 0)) (pz_p (pz_cf (pz_gt (ρ 0)) (pz_gN (ρ 0)) (ρ 1 / 4))))
  refine ⟨(fun y hy => by cases hy), _, List.mem_cons_self, ρ, fun _ _ => rfl, ax_px hE rfl (fun x hx => ?_)⟩
  cases List.mem_singleton.mp hx
  refine (ax_XF_lt (x := 169) (Nat.le_of_ble_eq_true rfl)).mpr ?_
  show pz_kd (pz_gt (ρ 0)) (pz_gN (ρ 0)) (pz_p (pz_cF (ρ 0) (ρ 1))) ≠ (180) / 4
  show pz_kd (pz_gt (ρ 0)) (pz_gN (ρ 0)) (pz_p (pz_cf (pz_gt (ρ 0)) (pz_gN (ρ 0)) (ρ 1 / 4))) ≠ 45
  intro z
  rcases hc with h | h | h | h | h <;> omega
theorem axq0_ia2a_45 : ax_RO ax_wM0 (ax_XM 0) axu0_ia2a_45 := axqg_ia2a_45 ax_WW0
theorem axqg_ia2b_45 {w : ax_W} {b : Nat} (hw : ax_WW w) : ax_RO w (ax_XM b) axu0_ia2b_45 := by
  intro ρ hp hE hT
  have j0 : ρ 0 % 4 = 1 := pz_gj hE 0 (Nat.le_of_ble_eq_true rfl) rfl
  have j1 : ρ 1 % 4 = 1 := pz_gj hE 1 (Nat.le_of_ble_eq_true rfl) rfl
  obtain ⟨i2a, i2b, i2c, i2d⟩ := pz_gi hE 2 2147483653 4294967295 (Nat.le_of_ble_eq_true rfl) rfl
  have c_token : ay_at hp 173 15 = some (ρ 2) := ay_gfj hE 702 60 11 173 15 ax_m2 (ax_vlq rfl rfl) (ax_vlj rfl rfl)
  obtain ⟨-, -, F131⟩ : ay_ex hp 173 ∧ ay_ex hp 183 ∧ pz_x30 (ρ 0) (ay_at hp 173 12) (ay_at hp 183) := (ax_XF_lt (x := 131) (Nat.le_of_ble_eq_true rfl)).mp (ax_gx hE (131, [3]) ax_m0)
  obtain ⟨-, -, -, -, -, F151⟩ : ay_ex hp 173 ∧ ay_ex hp 173 ∧ ay_ex hp 173 ∧ ay_ex hp 173 ∧ ay_ex hp 173 ∧ pz_y151 (ρ 0) (ρ 1) (ay_at hp 173 13) (ay_at hp 173 14) (ay_at hp 173 15) (ay_at hp 173 16) (ay_at hp 173 17) := (ax_XF_lt (x := 151) (Nat.le_of_ble_eq_true rfl)).mp (ax_gx hE (151, [3, 7]) ax_m1)
  rw [c_token] at F151
  have ht : ρ 2 / 4 = pz_tok (pz_kd (pz_gt (ρ 0)) (pz_gN (ρ 0)) (pz_p (pz_cf (pz_gt (ρ 0)) (pz_gN (ρ 0)) (ρ 1 / 4)))) := F151.2.2.1
  have hc := pz_tok_c (pz_kd (pz_gt (ρ 0)) (pz_gN (ρ 0)) (pz_p (pz_cf (pz_gt (ρ 0)) (pz_gN (ρ 0)) (ρ 1 / 4))))
  refine ⟨(fun y hy => by cases hy), _, List.mem_cons_self, ρ, fun _ _ => rfl, ax_px hE rfl (fun x hx => ?_)⟩
  cases List.mem_singleton.mp hx
  refine (ax_XF_lt (x := 169) (Nat.le_of_ble_eq_true rfl)).mpr ?_
  show pz_kd (pz_gt (ρ 0)) (pz_gN (ρ 0)) (pz_p (pz_cF (ρ 0) (ρ 1))) ≠ (180) / 4
  show pz_kd (pz_gt (ρ 0)) (pz_gN (ρ 0)) (pz_p (pz_cf (pz_gt (ρ 0)) (pz_gN (ρ 0)) (ρ 1 / 4))) ≠ 45
  intro z
  rcases hc with h | h | h | h | h <;> omega
theorem axq0_ia2b_45 : ax_RO ax_wM0 (ax_XM 0) axu0_ia2b_45 := axqg_ia2b_45 ax_WW0
theorem axqg_ia3a_45 {w : ax_W} {b : Nat} (hw : ax_WW w) : ax_RO w (ax_XM b) axu0_ia3a_45 := by
  intro ρ hp hE hT
  have j0 : ρ 0 % 4 = 1 := pz_gj hE 0 (Nat.le_of_ble_eq_true rfl) rfl
  have j1 : ρ 1 % 4 = 1 := pz_gj hE 1 (Nat.le_of_ble_eq_true rfl) rfl
  obtain ⟨i2a, i2b, i2c, i2d⟩ := pz_gi hE 2 2147483648 2147484448 (Nat.le_of_ble_eq_true rfl) rfl
  obtain ⟨i3a, i3b, i3c, i3d⟩ := pz_gi hE 3 2147483648 2147484448 (Nat.le_of_ble_eq_true rfl) rfl
  obtain ⟨i4a, i4b, i4c, i4d⟩ := pz_gi hE 4 2147483520 2147483692 (Nat.le_of_ble_eq_true rfl) rfl
  have c_at : ay_at hp 173 14 = some (ρ 2) := ay_gfj hE 702 56 11 173 14 ax_m2 (ax_vlq rfl rfl) (ax_vlj rfl rfl)
  have c_size : ay_at hp 173 12 = some (ρ 3) := ay_gfj hE 702 48 15 173 12 ax_m3 (ax_vlq rfl rfl) (ax_vlj rfl rfl)
  have r1 : (ρ 2 / 4 + 2147483648) % 4294967296 < (ρ 3 / 4 + 2147483648) % 4294967296 := pz_gc hE 2 11 15 (Nat.le_of_ble_eq_true rfl) ax_m4
  have c_tape : ay_at hp 183 (ρ 2 / 4) = some (ρ 4) := ay_gf hE 742 11 19 183 ax_m5 (ax_vlq rfl rfl)
  obtain ⟨-, -, F131⟩ : ay_ex hp 173 ∧ ay_ex hp 183 ∧ pz_x30 (ρ 0) (ay_at hp 173 12) (ay_at hp 183) := (ax_XF_lt (x := 131) (Nat.le_of_ble_eq_true rfl)).mp (ax_gx hE (131, [3]) ax_m0)
  rw [c_size] at F131
  obtain ⟨-, -, -, -, -, F151⟩ : ay_ex hp 173 ∧ ay_ex hp 173 ∧ ay_ex hp 173 ∧ ay_ex hp 173 ∧ ay_ex hp 173 ∧ pz_y151 (ρ 0) (ρ 1) (ay_at hp 173 13) (ay_at hp 173 14) (ay_at hp 173 15) (ay_at hp 173 16) (ay_at hp 173 17) := (ax_XF_lt (x := 151) (Nat.le_of_ble_eq_true rfl)).mp (ax_gx hE (151, [3, 7]) ax_m1)
  rw [c_at] at F151
  have hb : ρ 2 / 4 < pz_gN (ρ 0) → pz_b (pz_gt (ρ 0)) (ρ 2 / 4) = ρ 4 / 4 := fun hl => by
    have e := F131.2.2 (ρ 2 / 4) hl
    rw [c_tape] at e
    have e := Option.some.inj e
    omega
  have hN : ρ 3 / 4 = pz_gN (ρ 0) := F131.1
  have hlt : ρ 2 / 4 < pz_gN (ρ 0) := by omega
  have e1 : ρ 2 / 4 = pz_at (pz_gt (ρ 0)) (pz_gN (ρ 0)) (pz_p (pz_cf (pz_gt (ρ 0)) (pz_gN (ρ 0)) (ρ 1 / 4))) := F151.2.1
  refine ⟨(fun y hy => by cases hy), _, List.mem_cons_self, ρ, fun _ _ => rfl, ax_px hE rfl (fun x hx => ?_)⟩
  cases List.mem_singleton.mp hx
  refine (ax_XF_lt (x := 169) (Nat.le_of_ble_eq_true rfl)).mpr ?_
  show pz_kd (pz_gt (ρ 0)) (pz_gN (ρ 0)) (pz_p (pz_cF (ρ 0) (ρ 1))) ≠ (180) / 4
  show pz_kd (pz_gt (ρ 0)) (pz_gN (ρ 0)) (pz_p (pz_cf (pz_gt (ρ 0)) (pz_gN (ρ 0)) (ρ 1 / 4))) ≠ 45
  intro z
  have e := (pz_kd4 (show 4 ≤ pz_kd (pz_gt (ρ 0)) (pz_gN (ρ 0)) (pz_p (pz_cf (pz_gt (ρ 0)) (pz_gN (ρ 0)) (ρ 1 / 4))) by omega)).2
  rw [← e1, hb hlt] at e
  omega
theorem axq0_ia3a_45 : ax_RO ax_wM0 (ax_XM 0) axu0_ia3a_45 := axqg_ia3a_45 ax_WW0
theorem axqg_ia3b_45 {w : ax_W} {b : Nat} (hw : ax_WW w) : ax_RO w (ax_XM b) axu0_ia3b_45 := by
  intro ρ hp hE hT
  have j0 : ρ 0 % 4 = 1 := pz_gj hE 0 (Nat.le_of_ble_eq_true rfl) rfl
  have j1 : ρ 1 % 4 = 1 := pz_gj hE 1 (Nat.le_of_ble_eq_true rfl) rfl
  obtain ⟨i2a, i2b, i2c, i2d⟩ := pz_gi hE 2 2147483648 2147484448 (Nat.le_of_ble_eq_true rfl) rfl
  obtain ⟨i3a, i3b, i3c, i3d⟩ := pz_gi hE 3 2147483648 2147484448 (Nat.le_of_ble_eq_true rfl) rfl
  obtain ⟨i4a, i4b, i4c, i4d⟩ := pz_gi hE 4 2147483694 2147483775 (Nat.le_of_ble_eq_true rfl) rfl
  have c_at : ay_at hp 173 14 = some (ρ 2) := ay_gfj hE 702 56 11 173 14 ax_m2 (ax_vlq rfl rfl) (ax_vlj rfl rfl)
  have c_size : ay_at hp 173 12 = some (ρ 3) := ay_gfj hE 702 48 15 173 12 ax_m3 (ax_vlq rfl rfl) (ax_vlj rfl rfl)
  have r1 : (ρ 2 / 4 + 2147483648) % 4294967296 < (ρ 3 / 4 + 2147483648) % 4294967296 := pz_gc hE 2 11 15 (Nat.le_of_ble_eq_true rfl) ax_m4
  have c_tape : ay_at hp 183 (ρ 2 / 4) = some (ρ 4) := ay_gf hE 742 11 19 183 ax_m5 (ax_vlq rfl rfl)
  obtain ⟨-, -, F131⟩ : ay_ex hp 173 ∧ ay_ex hp 183 ∧ pz_x30 (ρ 0) (ay_at hp 173 12) (ay_at hp 183) := (ax_XF_lt (x := 131) (Nat.le_of_ble_eq_true rfl)).mp (ax_gx hE (131, [3]) ax_m0)
  rw [c_size] at F131
  obtain ⟨-, -, -, -, -, F151⟩ : ay_ex hp 173 ∧ ay_ex hp 173 ∧ ay_ex hp 173 ∧ ay_ex hp 173 ∧ ay_ex hp 173 ∧ pz_y151 (ρ 0) (ρ 1) (ay_at hp 173 13) (ay_at hp 173 14) (ay_at hp 173 15) (ay_at hp 173 16) (ay_at hp 173 17) := (ax_XF_lt (x := 151) (Nat.le_of_ble_eq_true rfl)).mp (ax_gx hE (151, [3, 7]) ax_m1)
  rw [c_at] at F151
  have hb : ρ 2 / 4 < pz_gN (ρ 0) → pz_b (pz_gt (ρ 0)) (ρ 2 / 4) = ρ 4 / 4 := fun hl => by
    have e := F131.2.2 (ρ 2 / 4) hl
    rw [c_tape] at e
    have e := Option.some.inj e
    omega
  have hN : ρ 3 / 4 = pz_gN (ρ 0) := F131.1
  have hlt : ρ 2 / 4 < pz_gN (ρ 0) := by omega
  have e1 : ρ 2 / 4 = pz_at (pz_gt (ρ 0)) (pz_gN (ρ 0)) (pz_p (pz_cf (pz_gt (ρ 0)) (pz_gN (ρ 0)) (ρ 1 / 4))) := F151.2.1
  refine ⟨(fun y hy => by cases hy), _, List.mem_cons_self, ρ, fun _ _ => rfl, ax_px hE rfl (fun x hx => ?_)⟩
  cases List.mem_singleton.mp hx
  refine (ax_XF_lt (x := 169) (Nat.le_of_ble_eq_true rfl)).mpr ?_
  show pz_kd (pz_gt (ρ 0)) (pz_gN (ρ 0)) (pz_p (pz_cF (ρ 0) (ρ 1))) ≠ (180) / 4
  show pz_kd (pz_gt (ρ 0)) (pz_gN (ρ 0)) (pz_p (pz_cf (pz_gt (ρ 0)) (pz_gN (ρ 0)) (ρ 1 / 4))) ≠ 45
  intro z
  have e := (pz_kd4 (show 4 ≤ pz_kd (pz_gt (ρ 0)) (pz_gN (ρ 0)) (pz_p (pz_cf (pz_gt (ρ 0)) (pz_gN (ρ 0)) (ρ 1 / 4))) by omega)).2
  rw [← e1, hb hlt] at e
  omega
theorem axq0_ia3b_45 : ax_RO ax_wM0 (ax_XM 0) axu0_ia3b_45 := axqg_ia3b_45 ax_WW0
theorem axqg_ia4_45 {w : ax_W} {b : Nat} (hw : ax_WW w) : ax_RO w (ax_XM b) axu0_ia4_45 := by
  intro ρ hp hE hT
  have j0 : ρ 0 % 4 = 1 := pz_gj hE 0 (Nat.le_of_ble_eq_true rfl) rfl
  have j1 : ρ 1 % 4 = 1 := pz_gj hE 1 (Nat.le_of_ble_eq_true rfl) rfl
  obtain ⟨i2a, i2b, i2c, i2d⟩ := pz_gi hE 2 2147483648 2147484448 (Nat.le_of_ble_eq_true rfl) rfl
  obtain ⟨i3a, i3b, i3c, i3d⟩ := pz_gi hE 3 2147483648 2147484448 (Nat.le_of_ble_eq_true rfl) rfl
  have c_at : ay_at hp 173 14 = some (ρ 2) := ay_gfj hE 702 56 11 173 14 ax_m2 (ax_vlq rfl rfl) (ax_vlj rfl rfl)
  have c_size : ay_at hp 173 12 = some (ρ 3) := ay_gfj hE 702 48 15 173 12 ax_m3 (ax_vlq rfl rfl) (ax_vlj rfl rfl)
  have r1 : (ρ 3 / 4 + 2147483648) % 4294967296 ≤ (ρ 2 / 4 + 2147483648) % 4294967296 := pz_gc hE 3 11 15 (Nat.le_of_ble_eq_true rfl) ax_m4
  obtain ⟨-, -, F131⟩ : ay_ex hp 173 ∧ ay_ex hp 183 ∧ pz_x30 (ρ 0) (ay_at hp 173 12) (ay_at hp 183) := (ax_XF_lt (x := 131) (Nat.le_of_ble_eq_true rfl)).mp (ax_gx hE (131, [3]) ax_m0)
  rw [c_size] at F131
  obtain ⟨-, -, -, -, -, F151⟩ : ay_ex hp 173 ∧ ay_ex hp 173 ∧ ay_ex hp 173 ∧ ay_ex hp 173 ∧ ay_ex hp 173 ∧ pz_y151 (ρ 0) (ρ 1) (ay_at hp 173 13) (ay_at hp 173 14) (ay_at hp 173 15) (ay_at hp 173 16) (ay_at hp 173 17) := (ax_XF_lt (x := 151) (Nat.le_of_ble_eq_true rfl)).mp (ax_gx hE (151, [3, 7]) ax_m1)
  rw [c_at] at F151
  have hN : ρ 3 / 4 = pz_gN (ρ 0) := F131.1
  have e1 : ρ 2 / 4 = pz_at (pz_gt (ρ 0)) (pz_gN (ρ 0)) (pz_p (pz_cf (pz_gt (ρ 0)) (pz_gN (ρ 0)) (ρ 1 / 4))) := F151.2.1
  have k1 := (pz_kd_end (t := pz_gt (ρ 0)) (N := pz_gN (ρ 0)) (p := pz_p (pz_cf (pz_gt (ρ 0)) (pz_gN (ρ 0)) (ρ 1 / 4))) (by omega)).1
  refine ⟨(fun y hy => by cases hy), _, List.mem_cons_self, ρ, fun _ _ => rfl, ax_px hE rfl (fun x hx => ?_)⟩
  cases List.mem_singleton.mp hx
  refine (ax_XF_lt (x := 169) (Nat.le_of_ble_eq_true rfl)).mpr ?_
  show pz_kd (pz_gt (ρ 0)) (pz_gN (ρ 0)) (pz_p (pz_cF (ρ 0) (ρ 1))) ≠ (180) / 4
  show pz_kd (pz_gt (ρ 0)) (pz_gN (ρ 0)) (pz_p (pz_cf (pz_gt (ρ 0)) (pz_gN (ρ 0)) (ρ 1 / 4))) ≠ 45
  intro z
  rw [k1] at z
  cases z
theorem axq0_ia4_45 : ax_RO ax_wM0 (ax_XM 0) axu0_ia4_45 := axqg_ia4_45 ax_WW0
theorem axqg_ia1_42 {w : ax_W} {b : Nat} (hw : ax_WW w) : ax_RO w (ax_XM b) axu0_ia1_42 := by
  intro ρ hp hE hT
  have j0 : ρ 0 % 4 = 1 := pz_gj hE 0 (Nat.le_of_ble_eq_true rfl) rfl
  have j1 : ρ 1 % 4 = 1 := pz_gj hE 1 (Nat.le_of_ble_eq_true rfl) rfl
  obtain ⟨i2a, i2b, i2c, i2d⟩ := pz_gi hE 2 2147483652 2147483652 (Nat.le_of_ble_eq_true rfl) rfl
  obtain ⟨i3a, i3b, i3c, i3d⟩ := pz_gi hE 3 2147483648 2147484448 (Nat.le_of_ble_eq_true rfl) rfl
  obtain ⟨i4a, i4b, i4c, i4d⟩ := pz_gi hE 4 2147483648 2147484448 (Nat.le_of_ble_eq_true rfl) rfl
  obtain ⟨i5a, i5b, i5c, i5d⟩ := pz_gi hE 5 2147483690 2147483690 (Nat.le_of_ble_eq_true rfl) rfl
  have c_token : ay_at hp 173 15 = some (ρ 2) := ay_gfj hE 702 60 11 173 15 ax_m2 (ax_vlq rfl rfl) (ax_vlj rfl rfl)
  have c_at : ay_at hp 173 14 = some (ρ 3) := ay_gfj hE 702 56 15 173 14 ax_m3 (ax_vlq rfl rfl) (ax_vlj rfl rfl)
  have c_size : ay_at hp 173 12 = some (ρ 4) := ay_gfj hE 702 48 19 173 12 ax_m4 (ax_vlq rfl rfl) (ax_vlj rfl rfl)
  have r1 : (ρ 3 / 4 + 2147483648) % 4294967296 < (ρ 4 / 4 + 2147483648) % 4294967296 := pz_gc hE 2 15 19 (Nat.le_of_ble_eq_true rfl) ax_m5
  have c_tape : ay_at hp 183 (ρ 3 / 4) = some (ρ 5) := ay_gf hE 742 15 23 183 ax_m6 (ax_vlq rfl rfl)
  obtain ⟨-, -, F131⟩ : ay_ex hp 173 ∧ ay_ex hp 183 ∧ pz_x30 (ρ 0) (ay_at hp 173 12) (ay_at hp 183) := (ax_XF_lt (x := 131) (Nat.le_of_ble_eq_true rfl)).mp (ax_gx hE (131, [3]) ax_m0)
  rw [c_size] at F131
  obtain ⟨-, -, -, -, -, F151⟩ : ay_ex hp 173 ∧ ay_ex hp 173 ∧ ay_ex hp 173 ∧ ay_ex hp 173 ∧ ay_ex hp 173 ∧ pz_y151 (ρ 0) (ρ 1) (ay_at hp 173 13) (ay_at hp 173 14) (ay_at hp 173 15) (ay_at hp 173 16) (ay_at hp 173 17) := (ax_XF_lt (x := 151) (Nat.le_of_ble_eq_true rfl)).mp (ax_gx hE (151, [3, 7]) ax_m1)
  rw [c_token] at F151
  rw [c_at] at F151
  have ht : ρ 2 / 4 = pz_tok (pz_kd (pz_gt (ρ 0)) (pz_gN (ρ 0)) (pz_p (pz_cf (pz_gt (ρ 0)) (pz_gN (ρ 0)) (ρ 1 / 4)))) := F151.2.2.1
  have hc := pz_tok_c (pz_kd (pz_gt (ρ 0)) (pz_gN (ρ 0)) (pz_p (pz_cf (pz_gt (ρ 0)) (pz_gN (ρ 0)) (ρ 1 / 4))))
  have hk : 4 ≤ pz_kd (pz_gt (ρ 0)) (pz_gN (ρ 0)) (pz_p (pz_cf (pz_gt (ρ 0)) (pz_gN (ρ 0)) (ρ 1 / 4))) := (by rcases hc with h | h | h | h | h <;> omega)
  have hb : ρ 3 / 4 < pz_gN (ρ 0) → pz_b (pz_gt (ρ 0)) (ρ 3 / 4) = ρ 5 / 4 := fun hl => by
    have e := F131.2.2 (ρ 3 / 4) hl
    rw [c_tape] at e
    have e := Option.some.inj e
    omega
  have hN : ρ 4 / 4 = pz_gN (ρ 0) := F131.1
  have hlt : ρ 3 / 4 < pz_gN (ρ 0) := by omega
  have e1 : ρ 3 / 4 = pz_at (pz_gt (ρ 0)) (pz_gN (ρ 0)) (pz_p (pz_cf (pz_gt (ρ 0)) (pz_gN (ρ 0)) (ρ 1 / 4))) := F151.2.1
  have e := (pz_kd4 hk).2
  rw [← e1, hb hlt] at e
  refine ⟨(fun y hy => by cases hy), _, List.mem_cons_self, ρ, fun _ _ => rfl, ax_px hE rfl (fun x hx => ?_)⟩
  cases List.mem_singleton.mp hx
  refine (ax_XF_lt (x := 168) (Nat.le_of_ble_eq_true rfl)).mpr ?_
  show pz_kd (pz_gt (ρ 0)) (pz_gN (ρ 0)) (pz_p (pz_cF (ρ 0) (ρ 1))) = (168) / 4
  show pz_kd (pz_gt (ρ 0)) (pz_gN (ρ 0)) (pz_p (pz_cf (pz_gt (ρ 0)) (pz_gN (ρ 0)) (ρ 1 / 4))) = 42
  omega
theorem axq0_ia1_42 : ax_RO ax_wM0 (ax_XM 0) axu0_ia1_42 := axqg_ia1_42 ax_WW0
theorem axqg_ia2a_42 {w : ax_W} {b : Nat} (hw : ax_WW w) : ax_RO w (ax_XM b) axu0_ia2a_42 := by
  intro ρ hp hE hT
  have j0 : ρ 0 % 4 = 1 := pz_gj hE 0 (Nat.le_of_ble_eq_true rfl) rfl
  have j1 : ρ 1 % 4 = 1 := pz_gj hE 1 (Nat.le_of_ble_eq_true rfl) rfl
  obtain ⟨i2a, i2b, i2c, i2d⟩ := pz_gi hE 2 0 2147483651 (Nat.le_of_ble_eq_true rfl) rfl
  have c_token : ay_at hp 173 15 = some (ρ 2) := ay_gfj hE 702 60 11 173 15 ax_m2 (ax_vlq rfl rfl) (ax_vlj rfl rfl)
  obtain ⟨-, -, F131⟩ : ay_ex hp 173 ∧ ay_ex hp 183 ∧ pz_x30 (ρ 0) (ay_at hp 173 12) (ay_at hp 183) := (ax_XF_lt (x := 131) (Nat.le_of_ble_eq_true rfl)).mp (ax_gx hE (131, [3]) ax_m0)
  obtain ⟨-, -, -, -, -, F151⟩ : ay_ex hp 173 ∧ ay_ex hp 173 ∧ ay_ex hp 173 ∧ ay_ex hp 173 ∧ ay_ex hp 173 ∧ pz_y151 (ρ 0) (ρ 1) (ay_at hp 173 13) (ay_at hp 173 14) (ay_at hp 173 15) (ay_at hp 173 16) (ay_at hp 173 17) := (ax_XF_lt (x := 151) (Nat.le_of_ble_eq_true rfl)).mp (ax_gx hE (151, [3, 7]) ax_m1)
  rw [c_token] at F151
  have ht : ρ 2 / 4 = pz_tok (pz_kd (pz_gt (ρ 0)) (pz_gN (ρ 0)) (pz_p (pz_cf (pz_gt (ρ 0)) (pz_gN (ρ 0)) (ρ 1 / 4)))) := F151.2.2.1
  have hc := pz_tok_c (pz_kd (pz_gt (ρ 0)) (pz_gN (ρ 0)) (pz_p (pz_cf (pz_gt (ρ 0)) (pz_gN (ρ 0)) (ρ 1 / 4))))
  refine ⟨(fun y hy => by cases hy), _, List.mem_cons_self, ρ, fun _ _ => rfl, ax_px hE rfl (fun x hx => ?_)⟩
  cases List.mem_singleton.mp hx
  refine (ax_XF_lt (x := 169) (Nat.le_of_ble_eq_true rfl)).mpr ?_
  show pz_kd (pz_gt (ρ 0)) (pz_gN (ρ 0)) (pz_p (pz_cF (ρ 0) (ρ 1))) ≠ (168) / 4
  show pz_kd (pz_gt (ρ 0)) (pz_gN (ρ 0)) (pz_p (pz_cf (pz_gt (ρ 0)) (pz_gN (ρ 0)) (ρ 1 / 4))) ≠ 42
  intro z
  rcases hc with h | h | h | h | h <;> omega
theorem axq0_ia2a_42 : ax_RO ax_wM0 (ax_XM 0) axu0_ia2a_42 := axqg_ia2a_42 ax_WW0
theorem axqg_ia2b_42 {w : ax_W} {b : Nat} (hw : ax_WW w) : ax_RO w (ax_XM b) axu0_ia2b_42 := by
  intro ρ hp hE hT
  have j0 : ρ 0 % 4 = 1 := pz_gj hE 0 (Nat.le_of_ble_eq_true rfl) rfl
  have j1 : ρ 1 % 4 = 1 := pz_gj hE 1 (Nat.le_of_ble_eq_true rfl) rfl
  obtain ⟨i2a, i2b, i2c, i2d⟩ := pz_gi hE 2 2147483653 4294967295 (Nat.le_of_ble_eq_true rfl) rfl
  have c_token : ay_at hp 173 15 = some (ρ 2) := ay_gfj hE 702 60 11 173 15 ax_m2 (ax_vlq rfl rfl) (ax_vlj rfl rfl)
  obtain ⟨-, -, F131⟩ : ay_ex hp 173 ∧ ay_ex hp 183 ∧ pz_x30 (ρ 0) (ay_at hp 173 12) (ay_at hp 183) := (ax_XF_lt (x := 131) (Nat.le_of_ble_eq_true rfl)).mp (ax_gx hE (131, [3]) ax_m0)
  obtain ⟨-, -, -, -, -, F151⟩ : ay_ex hp 173 ∧ ay_ex hp 173 ∧ ay_ex hp 173 ∧ ay_ex hp 173 ∧ ay_ex hp 173 ∧ pz_y151 (ρ 0) (ρ 1) (ay_at hp 173 13) (ay_at hp 173 14) (ay_at hp 173 15) (ay_at hp 173 16) (ay_at hp 173 17) := (ax_XF_lt (x := 151) (Nat.le_of_ble_eq_true rfl)).mp (ax_gx hE (151, [3, 7]) ax_m1)
  rw [c_token] at F151
  have ht : ρ 2 / 4 = pz_tok (pz_kd (pz_gt (ρ 0)) (pz_gN (ρ 0)) (pz_p (pz_cf (pz_gt (ρ 0)) (pz_gN (ρ 0)) (ρ 1 / 4)))) := F151.2.2.1
  have hc := pz_tok_c (pz_kd (pz_gt (ρ 0)) (pz_gN (ρ 0)) (pz_p (pz_cf (pz_gt (ρ 0)) (pz_gN (ρ 0)) (ρ 1 / 4))))
  refine ⟨(fun y hy => by cases hy), _, List.mem_cons_self, ρ, fun _ _ => rfl, ax_px hE rfl (fun x hx => ?_)⟩
  cases List.mem_singleton.mp hx
  refine (ax_XF_lt (x := 169) (Nat.le_of_ble_eq_true rfl)).mpr ?_
  show pz_kd (pz_gt (ρ 0)) (pz_gN (ρ 0)) (pz_p (pz_cF (ρ 0) (ρ 1))) ≠ (168) / 4
  show pz_kd (pz_gt (ρ 0)) (pz_gN (ρ 0)) (pz_p (pz_cf (pz_gt (ρ 0)) (pz_gN (ρ 0)) (ρ 1 / 4))) ≠ 42
  intro z
  rcases hc with h | h | h | h | h <;> omega
theorem axq0_ia2b_42 : ax_RO ax_wM0 (ax_XM 0) axu0_ia2b_42 := axqg_ia2b_42 ax_WW0
theorem axqg_ia3a_42 {w : ax_W} {b : Nat} (hw : ax_WW w) : ax_RO w (ax_XM b) axu0_ia3a_42 := by
  intro ρ hp hE hT
  have j0 : ρ 0 % 4 = 1 := pz_gj hE 0 (Nat.le_of_ble_eq_true rfl) rfl
  have j1 : ρ 1 % 4 = 1 := pz_gj hE 1 (Nat.le_of_ble_eq_true rfl) rfl
  obtain ⟨i2a, i2b, i2c, i2d⟩ := pz_gi hE 2 2147483648 2147484448 (Nat.le_of_ble_eq_true rfl) rfl
  obtain ⟨i3a, i3b, i3c, i3d⟩ := pz_gi hE 3 2147483648 2147484448 (Nat.le_of_ble_eq_true rfl) rfl
  obtain ⟨i4a, i4b, i4c, i4d⟩ := pz_gi hE 4 2147483520 2147483689 (Nat.le_of_ble_eq_true rfl) rfl
  have c_at : ay_at hp 173 14 = some (ρ 2) := ay_gfj hE 702 56 11 173 14 ax_m2 (ax_vlq rfl rfl) (ax_vlj rfl rfl)
  have c_size : ay_at hp 173 12 = some (ρ 3) := ay_gfj hE 702 48 15 173 12 ax_m3 (ax_vlq rfl rfl) (ax_vlj rfl rfl)
  have r1 : (ρ 2 / 4 + 2147483648) % 4294967296 < (ρ 3 / 4 + 2147483648) % 4294967296 := pz_gc hE 2 11 15 (Nat.le_of_ble_eq_true rfl) ax_m4
  have c_tape : ay_at hp 183 (ρ 2 / 4) = some (ρ 4) := ay_gf hE 742 11 19 183 ax_m5 (ax_vlq rfl rfl)
  obtain ⟨-, -, F131⟩ : ay_ex hp 173 ∧ ay_ex hp 183 ∧ pz_x30 (ρ 0) (ay_at hp 173 12) (ay_at hp 183) := (ax_XF_lt (x := 131) (Nat.le_of_ble_eq_true rfl)).mp (ax_gx hE (131, [3]) ax_m0)
  rw [c_size] at F131
  obtain ⟨-, -, -, -, -, F151⟩ : ay_ex hp 173 ∧ ay_ex hp 173 ∧ ay_ex hp 173 ∧ ay_ex hp 173 ∧ ay_ex hp 173 ∧ pz_y151 (ρ 0) (ρ 1) (ay_at hp 173 13) (ay_at hp 173 14) (ay_at hp 173 15) (ay_at hp 173 16) (ay_at hp 173 17) := (ax_XF_lt (x := 151) (Nat.le_of_ble_eq_true rfl)).mp (ax_gx hE (151, [3, 7]) ax_m1)
  rw [c_at] at F151
  have hb : ρ 2 / 4 < pz_gN (ρ 0) → pz_b (pz_gt (ρ 0)) (ρ 2 / 4) = ρ 4 / 4 := fun hl => by
    have e := F131.2.2 (ρ 2 / 4) hl
    rw [c_tape] at e
    have e := Option.some.inj e
    omega
  have hN : ρ 3 / 4 = pz_gN (ρ 0) := F131.1
  have hlt : ρ 2 / 4 < pz_gN (ρ 0) := by omega
  have e1 : ρ 2 / 4 = pz_at (pz_gt (ρ 0)) (pz_gN (ρ 0)) (pz_p (pz_cf (pz_gt (ρ 0)) (pz_gN (ρ 0)) (ρ 1 / 4))) := F151.2.1
  refine ⟨(fun y hy => by cases hy), _, List.mem_cons_self, ρ, fun _ _ => rfl, ax_px hE rfl (fun x hx => ?_)⟩
  cases List.mem_singleton.mp hx
  refine (ax_XF_lt (x := 169) (Nat.le_of_ble_eq_true rfl)).mpr ?_
  show pz_kd (pz_gt (ρ 0)) (pz_gN (ρ 0)) (pz_p (pz_cF (ρ 0) (ρ 1))) ≠ (168) / 4
  show pz_kd (pz_gt (ρ 0)) (pz_gN (ρ 0)) (pz_p (pz_cf (pz_gt (ρ 0)) (pz_gN (ρ 0)) (ρ 1 / 4))) ≠ 42
  intro z
  have e := (pz_kd4 (show 4 ≤ pz_kd (pz_gt (ρ 0)) (pz_gN (ρ 0)) (pz_p (pz_cf (pz_gt (ρ 0)) (pz_gN (ρ 0)) (ρ 1 / 4))) by omega)).2
  rw [← e1, hb hlt] at e
  omega
theorem axq0_ia3a_42 : ax_RO ax_wM0 (ax_XM 0) axu0_ia3a_42 := axqg_ia3a_42 ax_WW0
theorem axqg_ia3b_42 {w : ax_W} {b : Nat} (hw : ax_WW w) : ax_RO w (ax_XM b) axu0_ia3b_42 := by
  intro ρ hp hE hT
  have j0 : ρ 0 % 4 = 1 := pz_gj hE 0 (Nat.le_of_ble_eq_true rfl) rfl
  have j1 : ρ 1 % 4 = 1 := pz_gj hE 1 (Nat.le_of_ble_eq_true rfl) rfl
  obtain ⟨i2a, i2b, i2c, i2d⟩ := pz_gi hE 2 2147483648 2147484448 (Nat.le_of_ble_eq_true rfl) rfl
  obtain ⟨i3a, i3b, i3c, i3d⟩ := pz_gi hE 3 2147483648 2147484448 (Nat.le_of_ble_eq_true rfl) rfl
  obtain ⟨i4a, i4b, i4c, i4d⟩ := pz_gi hE 4 2147483691 2147483775 (Nat.le_of_ble_eq_true rfl) rfl
  have c_at : ay_at hp 173 14 = some (ρ 2) := ay_gfj hE 702 56 11 173 14 ax_m2 (ax_vlq rfl rfl) (ax_vlj rfl rfl)
  have c_size : ay_at hp 173 12 = some (ρ 3) := ay_gfj hE 702 48 15 173 12 ax_m3 (ax_vlq rfl rfl) (ax_vlj rfl rfl)
  have r1 : (ρ 2 / 4 + 2147483648) % 4294967296 < (ρ 3 / 4 + 2147483648) % 4294967296 := pz_gc hE 2 11 15 (Nat.le_of_ble_eq_true rfl) ax_m4
  have c_tape : ay_at hp 183 (ρ 2 / 4) = some (ρ 4) := ay_gf hE 742 11 19 183 ax_m5 (ax_vlq rfl rfl)
  obtain ⟨-, -, F131⟩ : ay_ex hp 173 ∧ ay_ex hp 183 ∧ pz_x30 (ρ 0) (ay_at hp 173 12) (ay_at hp 183) := (ax_XF_lt (x := 131) (Nat.le_of_ble_eq_true rfl)).mp (ax_gx hE (131, [3]) ax_m0)
  rw [c_size] at F131
  obtain ⟨-, -, -, -, -, F151⟩ : ay_ex hp 173 ∧ ay_ex hp 173 ∧ ay_ex hp 173 ∧ ay_ex hp 173 ∧ ay_ex hp 173 ∧ pz_y151 (ρ 0) (ρ 1) (ay_at hp 173 13) (ay_at hp 173 14) (ay_at hp 173 15) (ay_at hp 173 16) (ay_at hp 173 17) := (ax_XF_lt (x := 151) (Nat.le_of_ble_eq_true rfl)).mp (ax_gx hE (151, [3, 7]) ax_m1)
  rw [c_at] at F151
  have hb : ρ 2 / 4 < pz_gN (ρ 0) → pz_b (pz_gt (ρ 0)) (ρ 2 / 4) = ρ 4 / 4 := fun hl => by
    have e := F131.2.2 (ρ 2 / 4) hl
    rw [c_tape] at e
    have e := Option.some.inj e
    omega
  have hN : ρ 3 / 4 = pz_gN (ρ 0) := F131.1
  have hlt : ρ 2 / 4 < pz_gN (ρ 0) := by omega
  have e1 : ρ 2 / 4 = pz_at (pz_gt (ρ 0)) (pz_gN (ρ 0)) (pz_p (pz_cf (pz_gt (ρ 0)) (pz_gN (ρ 0)) (ρ 1 / 4))) := F151.2.1
  refine ⟨(fun y hy => by cases hy), _, List.mem_cons_self, ρ, fun _ _ => rfl, ax_px hE rfl (fun x hx => ?_)⟩
  cases List.mem_singleton.mp hx
  refine (ax_XF_lt (x := 169) (Nat.le_of_ble_eq_true rfl)).mpr ?_
  show pz_kd (pz_gt (ρ 0)) (pz_gN (ρ 0)) (pz_p (pz_cF (ρ 0) (ρ 1))) ≠ (168) / 4
  show pz_kd (pz_gt (ρ 0)) (pz_gN (ρ 0)) (pz_p (pz_cf (pz_gt (ρ 0)) (pz_gN (ρ 0)) (ρ 1 / 4))) ≠ 42
  intro z
  have e := (pz_kd4 (show 4 ≤ pz_kd (pz_gt (ρ 0)) (pz_gN (ρ 0)) (pz_p (pz_cf (pz_gt (ρ 0)) (pz_gN (ρ 0)) (ρ 1 / 4))) by omega)).2
  rw [← e1, hb hlt] at e
  omega
theorem axq0_ia3b_42 : ax_RO ax_wM0 (ax_XM 0) axu0_ia3b_42 := axqg_ia3b_42 ax_WW0
theorem axqg_ia4_42 {w : ax_W} {b : Nat} (hw : ax_WW w) : ax_RO w (ax_XM b) axu0_ia4_42 := by
  intro ρ hp hE hT
  have j0 : ρ 0 % 4 = 1 := pz_gj hE 0 (Nat.le_of_ble_eq_true rfl) rfl
  have j1 : ρ 1 % 4 = 1 := pz_gj hE 1 (Nat.le_of_ble_eq_true rfl) rfl
  obtain ⟨i2a, i2b, i2c, i2d⟩ := pz_gi hE 2 2147483648 2147484448 (Nat.le_of_ble_eq_true rfl) rfl
  obtain ⟨i3a, i3b, i3c, i3d⟩ := pz_gi hE 3 2147483648 2147484448 (Nat.le_of_ble_eq_true rfl) rfl
  have c_at : ay_at hp 173 14 = some (ρ 2) := ay_gfj hE 702 56 11 173 14 ax_m2 (ax_vlq rfl rfl) (ax_vlj rfl rfl)
  have c_size : ay_at hp 173 12 = some (ρ 3) := ay_gfj hE 702 48 15 173 12 ax_m3 (ax_vlq rfl rfl) (ax_vlj rfl rfl)
  have r1 : (ρ 3 / 4 + 2147483648) % 4294967296 ≤ (ρ 2 / 4 + 2147483648) % 4294967296 := pz_gc hE 3 11 15 (Nat.le_of_ble_eq_true rfl) ax_m4
  obtain ⟨-, -, F131⟩ : ay_ex hp 173 ∧ ay_ex hp 183 ∧ pz_x30 (ρ 0) (ay_at hp 173 12) (ay_at hp 183) := (ax_XF_lt (x := 131) (Nat.le_of_ble_eq_true rfl)).mp (ax_gx hE (131, [3]) ax_m0)
  rw [c_size] at F131
  obtain ⟨-, -, -, -, -, F151⟩ : ay_ex hp 173 ∧ ay_ex hp 173 ∧ ay_ex hp 173 ∧ ay_ex hp 173 ∧ ay_ex hp 173 ∧ pz_y151 (ρ 0) (ρ 1) (ay_at hp 173 13) (ay_at hp 173 14) (ay_at hp 173 15) (ay_at hp 173 16) (ay_at hp 173 17) := (ax_XF_lt (x := 151) (Nat.le_of_ble_eq_true rfl)).mp (ax_gx hE (151, [3, 7]) ax_m1)
  rw [c_at] at F151
  have hN : ρ 3 / 4 = pz_gN (ρ 0) := F131.1
  have e1 : ρ 2 / 4 = pz_at (pz_gt (ρ 0)) (pz_gN (ρ 0)) (pz_p (pz_cf (pz_gt (ρ 0)) (pz_gN (ρ 0)) (ρ 1 / 4))) := F151.2.1
  have k1 := (pz_kd_end (t := pz_gt (ρ 0)) (N := pz_gN (ρ 0)) (p := pz_p (pz_cf (pz_gt (ρ 0)) (pz_gN (ρ 0)) (ρ 1 / 4))) (by omega)).1
  refine ⟨(fun y hy => by cases hy), _, List.mem_cons_self, ρ, fun _ _ => rfl, ax_px hE rfl (fun x hx => ?_)⟩
  cases List.mem_singleton.mp hx
  refine (ax_XF_lt (x := 169) (Nat.le_of_ble_eq_true rfl)).mpr ?_
  show pz_kd (pz_gt (ρ 0)) (pz_gN (ρ 0)) (pz_p (pz_cF (ρ 0) (ρ 1))) ≠ (168) / 4
  show pz_kd (pz_gt (ρ 0)) (pz_gN (ρ 0)) (pz_p (pz_cf (pz_gt (ρ 0)) (pz_gN (ρ 0)) (ρ 1 / 4))) ≠ 42
  intro z
  rw [k1] at z
  cases z
theorem axq0_ia4_42 : ax_RO ax_wM0 (ax_XM 0) axu0_ia4_42 := axqg_ia4_42 ax_WW0
theorem axqg_ia1_47 {w : ax_W} {b : Nat} (hw : ax_WW w) : ax_RO w (ax_XM b) axu0_ia1_47 := by
  intro ρ hp hE hT
  have j0 : ρ 0 % 4 = 1 := pz_gj hE 0 (Nat.le_of_ble_eq_true rfl) rfl
  have j1 : ρ 1 % 4 = 1 := pz_gj hE 1 (Nat.le_of_ble_eq_true rfl) rfl
  obtain ⟨i2a, i2b, i2c, i2d⟩ := pz_gi hE 2 2147483652 2147483652 (Nat.le_of_ble_eq_true rfl) rfl
  obtain ⟨i3a, i3b, i3c, i3d⟩ := pz_gi hE 3 2147483648 2147484448 (Nat.le_of_ble_eq_true rfl) rfl
  obtain ⟨i4a, i4b, i4c, i4d⟩ := pz_gi hE 4 2147483648 2147484448 (Nat.le_of_ble_eq_true rfl) rfl
  obtain ⟨i5a, i5b, i5c, i5d⟩ := pz_gi hE 5 2147483695 2147483695 (Nat.le_of_ble_eq_true rfl) rfl
  have c_token : ay_at hp 173 15 = some (ρ 2) := ay_gfj hE 702 60 11 173 15 ax_m2 (ax_vlq rfl rfl) (ax_vlj rfl rfl)
  have c_at : ay_at hp 173 14 = some (ρ 3) := ay_gfj hE 702 56 15 173 14 ax_m3 (ax_vlq rfl rfl) (ax_vlj rfl rfl)
  have c_size : ay_at hp 173 12 = some (ρ 4) := ay_gfj hE 702 48 19 173 12 ax_m4 (ax_vlq rfl rfl) (ax_vlj rfl rfl)
  have r1 : (ρ 3 / 4 + 2147483648) % 4294967296 < (ρ 4 / 4 + 2147483648) % 4294967296 := pz_gc hE 2 15 19 (Nat.le_of_ble_eq_true rfl) ax_m5
  have c_tape : ay_at hp 183 (ρ 3 / 4) = some (ρ 5) := ay_gf hE 742 15 23 183 ax_m6 (ax_vlq rfl rfl)
  obtain ⟨-, -, F131⟩ : ay_ex hp 173 ∧ ay_ex hp 183 ∧ pz_x30 (ρ 0) (ay_at hp 173 12) (ay_at hp 183) := (ax_XF_lt (x := 131) (Nat.le_of_ble_eq_true rfl)).mp (ax_gx hE (131, [3]) ax_m0)
  rw [c_size] at F131
  obtain ⟨-, -, -, -, -, F151⟩ : ay_ex hp 173 ∧ ay_ex hp 173 ∧ ay_ex hp 173 ∧ ay_ex hp 173 ∧ ay_ex hp 173 ∧ pz_y151 (ρ 0) (ρ 1) (ay_at hp 173 13) (ay_at hp 173 14) (ay_at hp 173 15) (ay_at hp 173 16) (ay_at hp 173 17) := (ax_XF_lt (x := 151) (Nat.le_of_ble_eq_true rfl)).mp (ax_gx hE (151, [3, 7]) ax_m1)
  rw [c_token] at F151
  rw [c_at] at F151
  have ht : ρ 2 / 4 = pz_tok (pz_kd (pz_gt (ρ 0)) (pz_gN (ρ 0)) (pz_p (pz_cf (pz_gt (ρ 0)) (pz_gN (ρ 0)) (ρ 1 / 4)))) := F151.2.2.1
  have hc := pz_tok_c (pz_kd (pz_gt (ρ 0)) (pz_gN (ρ 0)) (pz_p (pz_cf (pz_gt (ρ 0)) (pz_gN (ρ 0)) (ρ 1 / 4))))
  have hk : 4 ≤ pz_kd (pz_gt (ρ 0)) (pz_gN (ρ 0)) (pz_p (pz_cf (pz_gt (ρ 0)) (pz_gN (ρ 0)) (ρ 1 / 4))) := (by rcases hc with h | h | h | h | h <;> omega)
  have hb : ρ 3 / 4 < pz_gN (ρ 0) → pz_b (pz_gt (ρ 0)) (ρ 3 / 4) = ρ 5 / 4 := fun hl => by
    have e := F131.2.2 (ρ 3 / 4) hl
    rw [c_tape] at e
    have e := Option.some.inj e
    omega
  have hN : ρ 4 / 4 = pz_gN (ρ 0) := F131.1
  have hlt : ρ 3 / 4 < pz_gN (ρ 0) := by omega
  have e1 : ρ 3 / 4 = pz_at (pz_gt (ρ 0)) (pz_gN (ρ 0)) (pz_p (pz_cf (pz_gt (ρ 0)) (pz_gN (ρ 0)) (ρ 1 / 4))) := F151.2.1
  have e := (pz_kd4 hk).2
  rw [← e1, hb hlt] at e
  refine ⟨(fun y hy => by cases hy), _, List.mem_cons_self, ρ, fun _ _ => rfl, ax_px hE rfl (fun x hx => ?_)⟩
  cases List.mem_singleton.mp hx
  refine (ax_XF_lt (x := 168) (Nat.le_of_ble_eq_true rfl)).mpr ?_
  show pz_kd (pz_gt (ρ 0)) (pz_gN (ρ 0)) (pz_p (pz_cF (ρ 0) (ρ 1))) = (188) / 4
  show pz_kd (pz_gt (ρ 0)) (pz_gN (ρ 0)) (pz_p (pz_cf (pz_gt (ρ 0)) (pz_gN (ρ 0)) (ρ 1 / 4))) = 47
  omega
theorem axq0_ia1_47 : ax_RO ax_wM0 (ax_XM 0) axu0_ia1_47 := axqg_ia1_47 ax_WW0
theorem axqg_ia2a_47 {w : ax_W} {b : Nat} (hw : ax_WW w) : ax_RO w (ax_XM b) axu0_ia2a_47 := by
  intro ρ hp hE hT
  have j0 : ρ 0 % 4 = 1 := pz_gj hE 0 (Nat.le_of_ble_eq_true rfl) rfl
  have j1 : ρ 1 % 4 = 1 := pz_gj hE 1 (Nat.le_of_ble_eq_true rfl) rfl
  obtain ⟨i2a, i2b, i2c, i2d⟩ := pz_gi hE 2 0 2147483651 (Nat.le_of_ble_eq_true rfl) rfl
  have c_token : ay_at hp 173 15 = some (ρ 2) := ay_gfj hE 702 60 11 173 15 ax_m2 (ax_vlq rfl rfl) (ax_vlj rfl rfl)
  obtain ⟨-, -, F131⟩ : ay_ex hp 173 ∧ ay_ex hp 183 ∧ pz_x30 (ρ 0) (ay_at hp 173 12) (ay_at hp 183) := (ax_XF_lt (x := 131) (Nat.le_of_ble_eq_true rfl)).mp (ax_gx hE (131, [3]) ax_m0)
  obtain ⟨-, -, -, -, -, F151⟩ : ay_ex hp 173 ∧ ay_ex hp 173 ∧ ay_ex hp 173 ∧ ay_ex hp 173 ∧ ay_ex hp 173 ∧ pz_y151 (ρ 0) (ρ 1) (ay_at hp 173 13) (ay_at hp 173 14) (ay_at hp 173 15) (ay_at hp 173 16) (ay_at hp 173 17) := (ax_XF_lt (x := 151) (Nat.le_of_ble_eq_true rfl)).mp (ax_gx hE (151, [3, 7]) ax_m1)
  rw [c_token] at F151
  have ht : ρ 2 / 4 = pz_tok (pz_kd (pz_gt (ρ 0)) (pz_gN (ρ 0)) (pz_p (pz_cf (pz_gt (ρ 0)) (pz_gN (ρ 0)) (ρ 1 / 4)))) := F151.2.2.1
  have hc := pz_tok_c (pz_kd (pz_gt (ρ 0)) (pz_gN (ρ 0)) (pz_p (pz_cf (pz_gt (ρ 0)) (pz_gN (ρ 0)) (ρ 1 / 4))))
  refine ⟨(fun y hy => by cases hy), _, List.mem_cons_self, ρ, fun _ _ => rfl, ax_px hE rfl (fun x hx => ?_)⟩
  cases List.mem_singleton.mp hx
  refine (ax_XF_lt (x := 169) (Nat.le_of_ble_eq_true rfl)).mpr ?_
  show pz_kd (pz_gt (ρ 0)) (pz_gN (ρ 0)) (pz_p (pz_cF (ρ 0) (ρ 1))) ≠ (188) / 4
  show pz_kd (pz_gt (ρ 0)) (pz_gN (ρ 0)) (pz_p (pz_cf (pz_gt (ρ 0)) (pz_gN (ρ 0)) (ρ 1 / 4))) ≠ 47
  intro z
  rcases hc with h | h | h | h | h <;> omega
theorem axq0_ia2a_47 : ax_RO ax_wM0 (ax_XM 0) axu0_ia2a_47 := axqg_ia2a_47 ax_WW0
theorem axqg_ia2b_47 {w : ax_W} {b : Nat} (hw : ax_WW w) : ax_RO w (ax_XM b) axu0_ia2b_47 := by
  intro ρ hp hE hT
  have j0 : ρ 0 % 4 = 1 := pz_gj hE 0 (Nat.le_of_ble_eq_true rfl) rfl
  have j1 : ρ 1 % 4 = 1 := pz_gj hE 1 (Nat.le_of_ble_eq_true rfl) rfl
  obtain ⟨i2a, i2b, i2c, i2d⟩ := pz_gi hE 2 2147483653 4294967295 (Nat.le_of_ble_eq_true rfl) rfl
  have c_token : ay_at hp 173 15 = some (ρ 2) := ay_gfj hE 702 60 11 173 15 ax_m2 (ax_vlq rfl rfl) (ax_vlj rfl rfl)
  obtain ⟨-, -, F131⟩ : ay_ex hp 173 ∧ ay_ex hp 183 ∧ pz_x30 (ρ 0) (ay_at hp 173 12) (ay_at hp 183) := (ax_XF_lt (x := 131) (Nat.le_of_ble_eq_true rfl)).mp (ax_gx hE (131, [3]) ax_m0)
  obtain ⟨-, -, -, -, -, F151⟩ : ay_ex hp 173 ∧ ay_ex hp 173 ∧ ay_ex hp 173 ∧ ay_ex hp 173 ∧ ay_ex hp 173 ∧ pz_y151 (ρ 0) (ρ 1) (ay_at hp 173 13) (ay_at hp 173 14) (ay_at hp 173 15) (ay_at hp 173 16) (ay_at hp 173 17) := (ax_XF_lt (x := 151) (Nat.le_of_ble_eq_true rfl)).mp (ax_gx hE (151, [3, 7]) ax_m1)
  rw [c_token] at F151
  have ht : ρ 2 / 4 = pz_tok (pz_kd (pz_gt (ρ 0)) (pz_gN (ρ 0)) (pz_p (pz_cf (pz_gt (ρ 0)) (pz_gN (ρ 0)) (ρ 1 / 4)))) := F151.2.2.1
  have hc := pz_tok_c (pz_kd (pz_gt (ρ 0)) (pz_gN (ρ 0)) (pz_p (pz_cf (pz_gt (ρ 0)) (pz_gN (ρ 0)) (ρ 1 / 4))))
  refine ⟨(fun y hy => by cases hy), _, List.mem_cons_self, ρ, fun _ _ => rfl, ax_px hE rfl (fun x hx => ?_)⟩
  cases List.mem_singleton.mp hx
  refine (ax_XF_lt (x := 169) (Nat.le_of_ble_eq_true rfl)).mpr ?_
  show pz_kd (pz_gt (ρ 0)) (pz_gN (ρ 0)) (pz_p (pz_cF (ρ 0) (ρ 1))) ≠ (188) / 4
  show pz_kd (pz_gt (ρ 0)) (pz_gN (ρ 0)) (pz_p (pz_cf (pz_gt (ρ 0)) (pz_gN (ρ 0)) (ρ 1 / 4))) ≠ 47
  intro z
  rcases hc with h | h | h | h | h <;> omega
theorem axq0_ia2b_47 : ax_RO ax_wM0 (ax_XM 0) axu0_ia2b_47 := axqg_ia2b_47 ax_WW0
