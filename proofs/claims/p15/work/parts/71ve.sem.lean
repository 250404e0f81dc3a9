theorem axqg_is5_1 {w : ax_W} {b : Nat} (hw : ax_WW w) : ax_RO w (ax_XM b) axu0_is5_1 := by
  intro ρ hp hE hT
  have j0 : ρ 0 % 4 = 1 := pz_gj hE 0 (Nat.le_of_ble_eq_true rfl) rfl
  have j1 : ρ 1 % 4 = 1 := pz_gj hE 1 (Nat.le_of_ble_eq_true rfl) rfl
  have F212 : pz_x62 (ρ 0) (ρ 1) (4004) (16) := (ax_XF_lt (x := 212) (Nat.le_of_ble_eq_true rfl)).mp (ax_gx hE (212, [3, 7, 4004, 16]) ax_m0)
  refine ⟨(fun y hy => by cases hy), _, List.mem_cons_self, ρ, fun _ _ => rfl, ax_px hE rfl (fun x hx => ?_)⟩
  cases List.mem_singleton.mp hx
  refine (ax_XF_lt (x := 160) (Nat.le_of_ble_eq_true rfl)).mpr ?_
  show pz60 (pz_gt (ρ 0)) (pz_gN (ρ 0)) ((ρ 1) / 4) ((4) / 4)
  exact pz_is_yes F212.1 F212.2.1 (fun i hi => F212.2.2 i hi)
theorem axq0_is5_1 : ax_RO ax_wM0 (ax_XM 0) axu0_is5_1 := axqg_is5_1 ax_WW0
theorem axqg_is1a_2 {w : ax_W} {b : Nat} (hw : ax_WW w) : ax_RO w (ax_XM b) axu0_is1a_2 := by
  intro ρ hp hE hT
  have j0 : ρ 0 % 4 = 1 := pz_gj hE 0 (Nat.le_of_ble_eq_true rfl) rfl
  have j1 : ρ 1 % 4 = 1 := pz_gj hE 1 (Nat.le_of_ble_eq_true rfl) rfl
  obtain ⟨i2a, i2b, i2c, i2d⟩ := pz_gi hE 2 2147482848 2147483651 (Nat.le_of_ble_eq_true rfl) rfl
  obtain ⟨i3a, i3b, i3c, i3d⟩ := pz_gi hE 3 2147483648 2147484448 (Nat.le_of_ble_eq_true rfl) rfl
  obtain ⟨i4a, i4b, i4c, i4d⟩ := pz_gi hE 4 2147483648 2147484448 (Nat.le_of_ble_eq_true rfl) rfl
  have c_next : ay_at hp 173 13 = some (ρ 4) := ay_gfj hE 702 52 19 173 13 ax_m2 (ax_vlq rfl rfl) (ax_vlj rfl rfl)
  have c_at : ay_at hp 173 14 = some (ρ 3) := ay_gfj hE 702 56 15 173 14 ax_m3 (ax_vlq rfl rfl) (ax_vlj rfl rfl)
  have s1 : (ρ 2 / 4 + 2147483648) % 4294967296 + (ρ 3 / 4 + 2147483648) % 4294967296 = (ρ 4 / 4 + 2147483648) % 4294967296 + 2147483648 := pz_gs hE 11 15 19 ax_m4
  obtain ⟨-, F154⟩ : ay_ex hp 173 ∧ ay_ln (ay_at hp 173 14) = pz_at (pz_gt (ρ 0)) (pz_gN (ρ 0)) (pz_p (pz_cF (ρ 0) (ρ 1))) := (ax_XF_lt (x := 154) (Nat.le_of_ble_eq_true rfl)).mp (ax_gx hE (154, [3, 7]) ax_m0)
  rw [c_at] at F154
  obtain ⟨-, F156⟩ : ay_ex hp 173 ∧ ay_ln (ay_at hp 173 13) = pz_nx (pz_gt (ρ 0)) (pz_gN (ρ 0)) (pz_p (pz_cF (ρ 0) (ρ 1))) := (ax_XF_lt (x := 156) (Nat.le_of_ble_eq_true rfl)).mp (ax_gx hE (156, [3, 7]) ax_m1)
  rw [c_next] at F156
  have e1 : ρ 4 / 4 = pz_nx (pz_gt (ρ 0)) (pz_gN (ρ 0)) (pz_p (pz_cf (pz_gt (ρ 0)) (pz_gN (ρ 0)) (ρ 1 / 4))) := F156
  have e2 : ρ 3 / 4 = pz_at (pz_gt (ρ 0)) (pz_gN (ρ 0)) (pz_p (pz_cf (pz_gt (ρ 0)) (pz_gN (ρ 0)) (ρ 1 / 4))) := F154
  refine ⟨(fun y hy => by cases hy), _, List.mem_cons_self, ρ, fun _ _ => rfl, ax_px hE rfl (fun x hx => ?_)⟩
  cases List.mem_singleton.mp hx
  refine (ax_XF_lt (x := 161) (Nat.le_of_ble_eq_true rfl)).mpr ?_
  show pz61 (pz_gt (ρ 0)) (pz_gN (ρ 0)) ((ρ 1) / 4) ((8) / 4)
  refine pz_is_no (Or.inr (Or.inl ?_))
  show pz_nx (pz_gt (ρ 0)) (pz_gN (ρ 0)) (pz_p (pz_cf (pz_gt (ρ 0)) (pz_gN (ρ 0)) (ρ 1 / 4))) - pz_at (pz_gt (ρ 0)) (pz_gN (ρ 0)) (pz_p (pz_cf (pz_gt (ρ 0)) (pz_gN (ρ 0)) (ρ 1 / 4))) ≠ 4
  omega
theorem axq0_is1a_2 : ax_RO ax_wM0 (ax_XM 0) axu0_is1a_2 := axqg_is1a_2 ax_WW0
theorem axqg_is1b_2 {w : ax_W} {b : Nat} (hw : ax_WW w) : ax_RO w (ax_XM b) axu0_is1b_2 := by
  intro ρ hp hE hT
  have j0 : ρ 0 % 4 = 1 := pz_gj hE 0 (Nat.le_of_ble_eq_true rfl) rfl
  have j1 : ρ 1 % 4 = 1 := pz_gj hE 1 (Nat.le_of_ble_eq_true rfl) rfl
  obtain ⟨i2a, i2b, i2c, i2d⟩ := pz_gi hE 2 2147483653 2147484449 (Nat.le_of_ble_eq_true rfl) rfl
  obtain ⟨i3a, i3b, i3c, i3d⟩ := pz_gi hE 3 2147483648 2147484448 (Nat.le_of_ble_eq_true rfl) rfl
  obtain ⟨i4a, i4b, i4c, i4d⟩ := pz_gi hE 4 2147483648 2147484448 (Nat.le_of_ble_eq_true rfl) rfl
  have c_next : ay_at hp 173 13 = some (ρ 4) := ay_gfj hE 702 52 19 173 13 ax_m2 (ax_vlq rfl rfl) (ax_vlj rfl rfl)
  have c_at : ay_at hp 173 14 = some (ρ 3) := ay_gfj hE 702 56 15 173 14 ax_m3 (ax_vlq rfl rfl) (ax_vlj rfl rfl)
  have s1 : (ρ 2 / 4 + 2147483648) % 4294967296 + (ρ 3 / 4 + 2147483648) % 4294967296 = (ρ 4 / 4 + 2147483648) % 4294967296 + 2147483648 := pz_gs hE 11 15 19 ax_m4
  obtain ⟨-, F154⟩ : ay_ex hp 173 ∧ ay_ln (ay_at hp 173 14) = pz_at (pz_gt (ρ 0)) (pz_gN (ρ 0)) (pz_p (pz_cF (ρ 0) (ρ 1))) := (ax_XF_lt (x := 154) (Nat.le_of_ble_eq_true rfl)).mp (ax_gx hE (154, [3, 7]) ax_m0)
  rw [c_at] at F154
  obtain ⟨-, F156⟩ : ay_ex hp 173 ∧ ay_ln (ay_at hp 173 13) = pz_nx (pz_gt (ρ 0)) (pz_gN (ρ 0)) (pz_p (pz_cF (ρ 0) (ρ 1))) := (ax_XF_lt (x := 156) (Nat.le_of_ble_eq_true rfl)).mp (ax_gx hE (156, [3, 7]) ax_m1)
  rw [c_next] at F156
  have e1 : ρ 4 / 4 = pz_nx (pz_gt (ρ 0)) (pz_gN (ρ 0)) (pz_p (pz_cf (pz_gt (ρ 0)) (pz_gN (ρ 0)) (ρ 1 / 4))) := F156
  have e2 : ρ 3 / 4 = pz_at (pz_gt (ρ 0)) (pz_gN (ρ 0)) (pz_p (pz_cf (pz_gt (ρ 0)) (pz_gN (ρ 0)) (ρ 1 / 4))) := F154
  refine ⟨(fun y hy => by cases hy), _, List.mem_cons_self, ρ, fun _ _ => rfl, ax_px hE rfl (fun x hx => ?_)⟩
  cases List.mem_singleton.mp hx
  refine (ax_XF_lt (x := 161) (Nat.le_of_ble_eq_true rfl)).mpr ?_
  show pz61 (pz_gt (ρ 0)) (pz_gN (ρ 0)) ((ρ 1) / 4) ((8) / 4)
  refine pz_is_no (Or.inr (Or.inl ?_))
  show pz_nx (pz_gt (ρ 0)) (pz_gN (ρ 0)) (pz_p (pz_cf (pz_gt (ρ 0)) (pz_gN (ρ 0)) (ρ 1 / 4))) - pz_at (pz_gt (ρ 0)) (pz_gN (ρ 0)) (pz_p (pz_cf (pz_gt (ρ 0)) (pz_gN (ρ 0)) (ρ 1 / 4))) ≠ 4
  omega
theorem axq0_is1b_2 : ax_RO ax_wM0 (ax_XM 0) axu0_is1b_2 := axqg_is1b_2 ax_WW0
theorem axqg_is2_2 {w : ax_W} {b : Nat} (hw : ax_WW w) : ax_RO w (ax_XM b) axu0_is2_2 := by
  intro ρ hp hE hT
  have j0 : ρ 0 % 4 = 1 := pz_gj hE 0 (Nat.le_of_ble_eq_true rfl) rfl
  have j1 : ρ 1 % 4 = 1 := pz_gj hE 1 (Nat.le_of_ble_eq_true rfl) rfl
  obtain ⟨i2a, i2b, i2c, i2d⟩ := pz_gi hE 2 2147483652 2147483652 (Nat.le_of_ble_eq_true rfl) rfl
  obtain ⟨i3a, i3b, i3c, i3d⟩ := pz_gi hE 3 2147483648 2147484448 (Nat.le_of_ble_eq_true rfl) rfl
  obtain ⟨i4a, i4b, i4c, i4d⟩ := pz_gi hE 4 2147483648 2147484448 (Nat.le_of_ble_eq_true rfl) rfl
  have c_next : ay_at hp 173 13 = some (ρ 4) := ay_gfj hE 702 52 19 173 13 ax_m3 (ax_vlq rfl rfl) (ax_vlj rfl rfl)
  have c_at : ay_at hp 173 14 = some (ρ 3) := ay_gfj hE 702 56 15 173 14 ax_m4 (ax_vlq rfl rfl) (ax_vlj rfl rfl)
  have s1 : (ρ 2 / 4 + 2147483648) % 4294967296 + (ρ 3 / 4 + 2147483648) % 4294967296 = (ρ 4 / 4 + 2147483648) % 4294967296 + 2147483648 := pz_gs hE 11 15 19 ax_m5
  have F168 : pz_kd (pz_gt (ρ 0)) (pz_gN (ρ 0)) (pz_p (pz_cF (ρ 0) (ρ 1))) = (4) / 4 := (ax_XF_lt (x := 168) (Nat.le_of_ble_eq_true rfl)).mp (ax_gx hE (168, [3, 7, 4]) ax_m0)
  obtain ⟨-, F154⟩ : ay_ex hp 173 ∧ ay_ln (ay_at hp 173 14) = pz_at (pz_gt (ρ 0)) (pz_gN (ρ 0)) (pz_p (pz_cF (ρ 0) (ρ 1))) := (ax_XF_lt (x := 154) (Nat.le_of_ble_eq_true rfl)).mp (ax_gx hE (154, [3, 7]) ax_m1)
  rw [c_at] at F154
  obtain ⟨-, F156⟩ : ay_ex hp 173 ∧ ay_ln (ay_at hp 173 13) = pz_nx (pz_gt (ρ 0)) (pz_gN (ρ 0)) (pz_p (pz_cF (ρ 0) (ρ 1))) := (ax_XF_lt (x := 156) (Nat.le_of_ble_eq_true rfl)).mp (ax_gx hE (156, [3, 7]) ax_m2)
  rw [c_next] at F156
  have e1 : ρ 4 / 4 = pz_nx (pz_gt (ρ 0)) (pz_gN (ρ 0)) (pz_p (pz_cf (pz_gt (ρ 0)) (pz_gN (ρ 0)) (ρ 1 / 4))) := F156
  have e2 : ρ 3 / 4 = pz_at (pz_gt (ρ 0)) (pz_gN (ρ 0)) (pz_p (pz_cf (pz_gt (ρ 0)) (pz_gN (ρ 0)) (ρ 1 / 4))) := F154
  refine ⟨(fun y hy => by cases hy), _, List.mem_cons_self, ρ, fun _ _ => rfl, ax_px hE rfl (fun x hx => ?_)⟩
  cases List.mem_singleton.mp hx
  refine (ax_XF_lt (x := 212) (Nat.le_of_ble_eq_true rfl)).mpr ?_
  show pz_x62 (ρ 0) (ρ 1) (4008) (0)
  refine ⟨F168, ?_, fun j hj => absurd (show j < 0 from hj) (by omega)⟩
  show pz_nx (pz_gt (ρ 0)) (pz_gN (ρ 0)) (pz_p (pz_cf (pz_gt (ρ 0)) (pz_gN (ρ 0)) (ρ 1 / 4))) - pz_at (pz_gt (ρ 0)) (pz_gN (ρ 0)) (pz_p (pz_cf (pz_gt (ρ 0)) (pz_gN (ρ 0)) (ρ 1 / 4))) = 4
  omega
theorem axq0_is2_2 : ax_RO ax_wM0 (ax_XM 0) axu0_is2_2 := axqg_is2_2 ax_WW0
theorem axqg_is3_2_0 {w : ax_W} {b : Nat} (hw : ax_WW w) : ax_RO w (ax_XM b) axu0_is3_2_0 := by
  intro ρ hp hE hT
  have j0 : ρ 0 % 4 = 1 := pz_gj hE 0 (Nat.le_of_ble_eq_true rfl) rfl
  have j1 : ρ 1 % 4 = 1 := pz_gj hE 1 (Nat.le_of_ble_eq_true rfl) rfl
  obtain ⟨i2a, i2b, i2c, i2d⟩ := pz_gi hE 2 2147483648 2147484448 (Nat.le_of_ble_eq_true rfl) rfl
  obtain ⟨i3a, i3b, i3c, i3d⟩ := pz_gi hE 3 0 4294967295 (Nat.le_of_ble_eq_true rfl) rfl
  obtain ⟨i4a, i4b, i4c, i4d⟩ := pz_gi hE 4 2147483762 2147483762 (Nat.le_of_ble_eq_true rfl) rfl
  have c_at : ay_at hp 173 14 = some (ρ 2) := ay_gfj hE 702 56 11 173 14 ax_m2 (ax_vlq rfl rfl) (ax_vlj rfl rfl)
  have s1 : (ρ 2 / 4 + 2147483648) % 4294967296 + (0 / 4 + 2147483648) % 4294967296 = (ρ 3 / 4 + 2147483648) % 4294967296 + 2147483648 := pz_gs hE 11 0 15 ax_m3
  have c_tape : ay_at hp 183 (ρ 3 / 4) = some (ρ 4) := ay_gf hE 742 15 19 183 ax_m4 (ax_vlq rfl rfl)
  obtain ⟨-, -, F131⟩ : ay_ex hp 173 ∧ ay_ex hp 183 ∧ pz_x30 (ρ 0) (ay_at hp 173 12) (ay_at hp 183) := (ax_XF_lt (x := 131) (Nat.le_of_ble_eq_true rfl)).mp (ax_gx hE (131, [3]) ax_m0)
  obtain ⟨-, F154⟩ : ay_ex hp 173 ∧ ay_ln (ay_at hp 173 14) = pz_at (pz_gt (ρ 0)) (pz_gN (ρ 0)) (pz_p (pz_cF (ρ 0) (ρ 1))) := (ax_XF_lt (x := 154) (Nat.le_of_ble_eq_true rfl)).mp (ax_gx hE (154, [3, 7]) ax_m1)
  rw [c_at] at F154
  have F212 : pz_x62 (ρ 0) (ρ 1) (4008) (0) := (ax_XF_lt (x := 212) (Nat.le_of_ble_eq_true rfl)).mp (ax_gx hE (212, [3, 7, 4008, 0]) ax_m5)
  have ep : ρ 2 / 4 = pz_at (pz_gt (ρ 0)) (pz_gN (ρ 0)) (pz_p (pz_cf (pz_gt (ρ 0)) (pz_gN (ρ 0)) (ρ 1 / 4))) := F154
  have hw : pz_at (pz_gt (ρ 0)) (pz_gN (ρ 0)) (pz_p (pz_cf (pz_gt (ρ 0)) (pz_gN (ρ 0)) (ρ 1 / 4))) < pz_gN (ρ 0) ∧ pz_nx (pz_gt (ρ 0)) (pz_gN (ρ 0)) (pz_p (pz_cf (pz_gt (ρ 0)) (pz_gN (ρ 0)) (ρ 1 / 4))) ≤ pz_gN (ρ 0) := pz_wd_le F212.1
  have hln : pz_nx (pz_gt (ρ 0)) (pz_gN (ρ 0)) (pz_p (pz_cf (pz_gt (ρ 0)) (pz_gN (ρ 0)) (ρ 1 / 4))) - pz_at (pz_gt (ρ 0)) (pz_gN (ρ 0)) (pz_p (pz_cf (pz_gt (ρ 0)) (pz_gN (ρ 0)) (ρ 1 / 4))) = 4 := F212.2.1
  have ha1 := (pz_ps 0 800 i2b i2c i2d (by decide))
  have hq1 : ρ 3 / 4 = ρ 2 / 4 + 0 := pz_sm (by omega) (by decide) i3b s1
  have hb := F131.2.2 (ρ 3 / 4) (by have := hw.2; omega)
  rw [c_tape] at hb
  have hb := Option.some.inj hb
  rw [show ρ 3 / 4 = pz_at (pz_gt (ρ 0)) (pz_gN (ρ 0)) (pz_p (pz_cf (pz_gt (ρ 0)) (pz_gN (ρ 0)) (ρ 1 / 4))) + 0 by omega] at hb
  have hb2 : pz_b (pz_gt (ρ 0)) (pz_at (pz_gt (ρ 0)) (pz_gN (ρ 0)) (pz_p (pz_cf (pz_gt (ρ 0)) (pz_gN (ρ 0)) (ρ 1 / 4))) + 0) = ρ 4 / 4 := by omega
  refine ⟨(fun y hy => by cases hy), _, List.mem_cons_self, ρ, fun _ _ => rfl, ax_px hE rfl (fun x hx => ?_)⟩
  cases List.mem_singleton.mp hx
  refine (ax_XF_lt (x := 212) (Nat.le_of_ble_eq_true rfl)).mpr ?_
  show pz_x62 (ρ 0) (ρ 1) (4008) (4)
  refine ⟨F212.1, F212.2.1, fun i hi => ?_⟩
  replace hi : i < 1 := hi
  by_cases h : i < 0
  · exact F212.2.2 i h
  · have e : i = 0 := by omega
    subst e
    exact hb2.trans (show ρ 4 / 4 = 114 by omega)
theorem axq0_is3_2_0 : ax_RO ax_wM0 (ax_XM 0) axu0_is3_2_0 := axqg_is3_2_0 ax_WW0
theorem axqg_is4a_2_0 {w : ax_W} {b : Nat} (hw : ax_WW w) : ax_RO w (ax_XM b) axu0_is4a_2_0 := by
  intro ρ hp hE hT
  have j0 : ρ 0 % 4 = 1 := pz_gj hE 0 (Nat.le_of_ble_eq_true rfl) rfl
  have j1 : ρ 1 % 4 = 1 := pz_gj hE 1 (Nat.le_of_ble_eq_true rfl) rfl
  obtain ⟨i2a, i2b, i2c, i2d⟩ := pz_gi hE 2 2147483648 2147484448 (Nat.le_of_ble_eq_true rfl) rfl
  obtain ⟨i3a, i3b, i3c, i3d⟩ := pz_gi hE 3 0 4294967295 (Nat.le_of_ble_eq_true rfl) rfl
  obtain ⟨i4a, i4b, i4c, i4d⟩ := pz_gi hE 4 2147483520 2147483761 (Nat.le_of_ble_eq_true rfl) rfl
  have c_at : ay_at hp 173 14 = some (ρ 2) := ay_gfj hE 702 56 11 173 14 ax_m2 (ax_vlq rfl rfl) (ax_vlj rfl rfl)
  have s1 : (ρ 2 / 4 + 2147483648) % 4294967296 + (0 / 4 + 2147483648) % 4294967296 = (ρ 3 / 4 + 2147483648) % 4294967296 + 2147483648 := pz_gs hE 11 0 15 ax_m3
  have c_tape : ay_at hp 183 (ρ 3 / 4) = some (ρ 4) := ay_gf hE 742 15 19 183 ax_m4 (ax_vlq rfl rfl)
  obtain ⟨-, -, F131⟩ : ay_ex hp 173 ∧ ay_ex hp 183 ∧ pz_x30 (ρ 0) (ay_at hp 173 12) (ay_at hp 183) := (ax_XF_lt (x := 131) (Nat.le_of_ble_eq_true rfl)).mp (ax_gx hE (131, [3]) ax_m0)
  obtain ⟨-, F154⟩ : ay_ex hp 173 ∧ ay_ln (ay_at hp 173 14) = pz_at (pz_gt (ρ 0)) (pz_gN (ρ 0)) (pz_p (pz_cF (ρ 0) (ρ 1))) := (ax_XF_lt (x := 154) (Nat.le_of_ble_eq_true rfl)).mp (ax_gx hE (154, [3, 7]) ax_m1)
  rw [c_at] at F154
  have F212 : pz_x62 (ρ 0) (ρ 1) (4008) (0) := (ax_XF_lt (x := 212) (Nat.le_of_ble_eq_true rfl)).mp (ax_gx hE (212, [3, 7, 4008, 0]) ax_m5)
  have ep : ρ 2 / 4 = pz_at (pz_gt (ρ 0)) (pz_gN (ρ 0)) (pz_p (pz_cf (pz_gt (ρ 0)) (pz_gN (ρ 0)) (ρ 1 / 4))) := F154
  have hw : pz_at (pz_gt (ρ 0)) (pz_gN (ρ 0)) (pz_p (pz_cf (pz_gt (ρ 0)) (pz_gN (ρ 0)) (ρ 1 / 4))) < pz_gN (ρ 0) ∧ pz_nx (pz_gt (ρ 0)) (pz_gN (ρ 0)) (pz_p (pz_cf (pz_gt (ρ 0)) (pz_gN (ρ 0)) (ρ 1 / 4))) ≤ pz_gN (ρ 0) := pz_wd_le F212.1
  have hln : pz_nx (pz_gt (ρ 0)) (pz_gN (ρ 0)) (pz_p (pz_cf (pz_gt (ρ 0)) (pz_gN (ρ 0)) (ρ 1 / 4))) - pz_at (pz_gt (ρ 0)) (pz_gN (ρ 0)) (pz_p (pz_cf (pz_gt (ρ 0)) (pz_gN (ρ 0)) (ρ 1 / 4))) = 4 := F212.2.1
  have ha1 := (pz_ps 0 800 i2b i2c i2d (by decide))
  have hq1 : ρ 3 / 4 = ρ 2 / 4 + 0 := pz_sm (by omega) (by decide) i3b s1
  have hb := F131.2.2 (ρ 3 / 4) (by have := hw.2; omega)
  rw [c_tape] at hb
  have hb := Option.some.inj hb
  rw [show ρ 3 / 4 = pz_at (pz_gt (ρ 0)) (pz_gN (ρ 0)) (pz_p (pz_cf (pz_gt (ρ 0)) (pz_gN (ρ 0)) (ρ 1 / 4))) + 0 by omega] at hb
  have hb2 : pz_b (pz_gt (ρ 0)) (pz_at (pz_gt (ρ 0)) (pz_gN (ρ 0)) (pz_p (pz_cf (pz_gt (ρ 0)) (pz_gN (ρ 0)) (ρ 1 / 4))) + 0) = ρ 4 / 4 := by omega
  refine ⟨(fun y hy => by cases hy), _, List.mem_cons_self, ρ, fun _ _ => rfl, ax_px hE rfl (fun x hx => ?_)⟩
  cases List.mem_singleton.mp hx
  refine (ax_XF_lt (x := 161) (Nat.le_of_ble_eq_true rfl)).mpr ?_
  show pz61 (pz_gt (ρ 0)) (pz_gN (ρ 0)) ((ρ 1) / 4) ((8) / 4)
  refine pz_is_no (Or.inr (Or.inr ⟨0, by decide, fun z => ?_⟩))
  have z2 : ρ 4 / 4 = 114 := hb2.symm.trans z
  omega
theorem axq0_is4a_2_0 : ax_RO ax_wM0 (ax_XM 0) axu0_is4a_2_0 := axqg_is4a_2_0 ax_WW0
theorem axqg_is4b_2_0 {w : ax_W} {b : Nat} (hw : ax_WW w) : ax_RO w (ax_XM b) axu0_is4b_2_0 := by
  intro ρ hp hE hT
  have j0 : ρ 0 % 4 = 1 := pz_gj hE 0 (Nat.le_of_ble_eq_true rfl) rfl
  have j1 : ρ 1 % 4 = 1 := pz_gj hE 1 (Nat.le_of_ble_eq_true rfl) rfl
  obtain ⟨i2a, i2b, i2c, i2d⟩ := pz_gi hE 2 2147483648 2147484448 (Nat.le_of_ble_eq_true rfl) rfl
  obtain ⟨i3a, i3b, i3c, i3d⟩ := pz_gi hE 3 0 4294967295 (Nat.le_of_ble_eq_true rfl) rfl
  obtain ⟨i4a, i4b, i4c, i4d⟩ := pz_gi hE 4 2147483763 2147483775 (Nat.le_of_ble_eq_true rfl) rfl
  have c_at : ay_at hp 173 14 = some (ρ 2) := ay_gfj hE 702 56 11 173 14 ax_m2 (ax_vlq rfl rfl) (ax_vlj rfl rfl)
  have s1 : (ρ 2 / 4 + 2147483648) % 4294967296 + (0 / 4 + 2147483648) % 4294967296 = (ρ 3 / 4 + 2147483648) % 4294967296 + 2147483648 := pz_gs hE 11 0 15 ax_m3
  have c_tape : ay_at hp 183 (ρ 3 / 4) = some (ρ 4) := ay_gf hE 742 15 19 183 ax_m4 (ax_vlq rfl rfl)
  obtain ⟨-, -, F131⟩ : ay_ex hp 173 ∧ ay_ex hp 183 ∧ pz_x30 (ρ 0) (ay_at hp 173 12) (ay_at hp 183) := (ax_XF_lt (x := 131) (Nat.le_of_ble_eq_true rfl)).mp (ax_gx hE (131, [3]) ax_m0)
  obtain ⟨-, F154⟩ : ay_ex hp 173 ∧ ay_ln (ay_at hp 173 14) = pz_at (pz_gt (ρ 0)) (pz_gN (ρ 0)) (pz_p (pz_cF (ρ 0) (ρ 1))) := (ax_XF_lt (x := 154) (Nat.le_of_ble_eq_true rfl)).mp (ax_gx hE (154, [3, 7]) ax_m1)
  rw [c_at] at F154
  have F212 : pz_x62 (ρ 0) (ρ 1) (4008) (0) := (ax_XF_lt (x := 212) (Nat.le_of_ble_eq_true rfl)).mp (ax_gx hE (212, [3, 7, 4008, 0]) ax_m5)
  have ep : ρ 2 / 4 = pz_at (pz_gt (ρ 0)) (pz_gN (ρ 0)) (pz_p (pz_cf (pz_gt (ρ 0)) (pz_gN (ρ 0)) (ρ 1 / 4))) := F154
  have hw : pz_at (pz_gt (ρ 0)) (pz_gN (ρ 0)) (pz_p (pz_cf (pz_gt (ρ 0)) (pz_gN (ρ 0)) (ρ 1 / 4))) < pz_gN (ρ 0) ∧ pz_nx (pz_gt (ρ 0)) (pz_gN (ρ 0)) (pz_p (pz_cf (pz_gt (ρ 0)) (pz_gN (ρ 0)) (ρ 1 / 4))) ≤ pz_gN (ρ 0) := pz_wd_le F212.1
  have hln : pz_nx (pz_gt (ρ 0)) (pz_gN (ρ 0)) (pz_p (pz_cf (pz_gt (ρ 0)) (pz_gN (ρ 0)) (ρ 1 / 4))) - pz_at (pz_gt (ρ 0)) (pz_gN (ρ 0)) (pz_p (pz_cf (pz_gt (ρ 0)) (pz_gN (ρ 0)) (ρ 1 / 4))) = 4 := F212.2.1
  have ha1 := (pz_ps 0 800 i2b i2c i2d (by decide))
  have hq1 : ρ 3 / 4 = ρ 2 / 4 + 0 := pz_sm (by omega) (by decide) i3b s1
  have hb := F131.2.2 (ρ 3 / 4) (by have := hw.2; omega)
  rw [c_tape] at hb
  have hb := Option.some.inj hb
  rw [show ρ 3 / 4 = pz_at (pz_gt (ρ 0)) (pz_gN (ρ 0)) (pz_p (pz_cf (pz_gt (ρ 0)) (pz_gN (ρ 0)) (ρ 1 / 4))) + 0 by omega] at hb
  have hb2 : pz_b (pz_gt (ρ 0)) (pz_at (pz_gt (ρ 0)) (pz_gN (ρ 0)) (pz_p (pz_cf (pz_gt (ρ 0)) (pz_gN (ρ 0)) (ρ 1 / 4))) + 0) = ρ 4 / 4 := by omega
  refine ⟨(fun y hy => by cases hy), _, List.mem_cons_self, ρ, fun _ _ => rfl, ax_px hE rfl (fun x hx => ?_)⟩
  cases List.mem_singleton.mp hx
  refine (ax_XF_lt (x := 161) (Nat.le_of_ble_eq_true rfl)).mpr ?_
  show pz61 (pz_gt (ρ 0)) (pz_gN (ρ 0)) ((ρ 1) / 4) ((8) / 4)
  refine pz_is_no (Or.inr (Or.inr ⟨0, by decide, fun z => ?_⟩))
  have z2 : ρ 4 / 4 = 114 := hb2.symm.trans z
  omega
theorem axq0_is4b_2_0 : ax_RO ax_wM0 (ax_XM 0) axu0_is4b_2_0 := axqg_is4b_2_0 ax_WW0
theorem axqg_is3_2_1 {w : ax_W} {b : Nat} (hw : ax_WW w) : ax_RO w (ax_XM b) axu0_is3_2_1 := by
  intro ρ hp hE hT
  have j0 : ρ 0 % 4 = 1 := pz_gj hE 0 (Nat.le_of_ble_eq_true rfl) rfl
  have j1 : ρ 1 % 4 = 1 := pz_gj hE 1 (Nat.le_of_ble_eq_true rfl) rfl
  obtain ⟨i2a, i2b, i2c, i2d⟩ := pz_gi hE 2 2147483648 2147484448 (Nat.le_of_ble_eq_true rfl) rfl
  obtain ⟨i3a, i3b, i3c, i3d⟩ := pz_gi hE 3 0 4294967295 (Nat.le_of_ble_eq_true rfl) rfl
  obtain ⟨i4a, i4b, i4c, i4d⟩ := pz_gi hE 4 2147483759 2147483759 (Nat.le_of_ble_eq_true rfl) rfl
  have c_at : ay_at hp 173 14 = some (ρ 2) := ay_gfj hE 702 56 11 173 14 ax_m2 (ax_vlq rfl rfl) (ax_vlj rfl rfl)
  have s1 : (ρ 2 / 4 + 2147483648) % 4294967296 + (4 / 4 + 2147483648) % 4294967296 = (ρ 3 / 4 + 2147483648) % 4294967296 + 2147483648 := pz_gs hE 11 4 15 ax_m3
  have c_tape : ay_at hp 183 (ρ 3 / 4) = some (ρ 4) := ay_gf hE 742 15 19 183 ax_m4 (ax_vlq rfl rfl)
  obtain ⟨-, -, F131⟩ : ay_ex hp 173 ∧ ay_ex hp 183 ∧ pz_x30 (ρ 0) (ay_at hp 173 12) (ay_at hp 183) := (ax_XF_lt (x := 131) (Nat.le_of_ble_eq_true rfl)).mp (ax_gx hE (131, [3]) ax_m0)
  obtain ⟨-, F154⟩ : ay_ex hp 173 ∧ ay_ln (ay_at hp 173 14) = pz_at (pz_gt (ρ 0)) (pz_gN (ρ 0)) (pz_p (pz_cF (ρ 0) (ρ 1))) := (ax_XF_lt (x := 154) (Nat.le_of_ble_eq_true rfl)).mp (ax_gx hE (154, [3, 7]) ax_m1)
  rw [c_at] at F154
  have F212 : pz_x62 (ρ 0) (ρ 1) (4008) (4) := (ax_XF_lt (x := 212) (Nat.le_of_ble_eq_true rfl)).mp (ax_gx hE (212, [3, 7, 4008, 4]) ax_m5)
  have ep : ρ 2 / 4 = pz_at (pz_gt (ρ 0)) (pz_gN (ρ 0)) (pz_p (pz_cf (pz_gt (ρ 0)) (pz_gN (ρ 0)) (ρ 1 / 4))) := F154
  have hw : pz_at (pz_gt (ρ 0)) (pz_gN (ρ 0)) (pz_p (pz_cf (pz_gt (ρ 0)) (pz_gN (ρ 0)) (ρ 1 / 4))) < pz_gN (ρ 0) ∧ pz_nx (pz_gt (ρ 0)) (pz_gN (ρ 0)) (pz_p (pz_cf (pz_gt (ρ 0)) (pz_gN (ρ 0)) (ρ 1 / 4))) ≤ pz_gN (ρ 0) := pz_wd_le F212.1
  have hln : pz_nx (pz_gt (ρ 0)) (pz_gN (ρ 0)) (pz_p (pz_cf (pz_gt (ρ 0)) (pz_gN (ρ 0)) (ρ 1 / 4))) - pz_at (pz_gt (ρ 0)) (pz_gN (ρ 0)) (pz_p (pz_cf (pz_gt (ρ 0)) (pz_gN (ρ 0)) (ρ 1 / 4))) = 4 := F212.2.1
  have ha1 := (pz_ps 0 800 i2b i2c i2d (by decide))
  have hq1 : ρ 3 / 4 = ρ 2 / 4 + 1 := pz_sm (by omega) (by decide) i3b s1
  have hb := F131.2.2 (ρ 3 / 4) (by have := hw.2; omega)
  rw [c_tape] at hb
  have hb := Option.some.inj hb
  rw [show ρ 3 / 4 = pz_at (pz_gt (ρ 0)) (pz_gN (ρ 0)) (pz_p (pz_cf (pz_gt (ρ 0)) (pz_gN (ρ 0)) (ρ 1 / 4))) + 1 by omega] at hb
  have hb2 : pz_b (pz_gt (ρ 0)) (pz_at (pz_gt (ρ 0)) (pz_gN (ρ 0)) (pz_p (pz_cf (pz_gt (ρ 0)) (pz_gN (ρ 0)) (ρ 1 / 4))) + 1) = ρ 4 / 4 := by omega
  refine ⟨(fun y hy => by cases hy), _, List.mem_cons_self, ρ, fun _ _ => rfl, ax_px hE rfl (fun x hx => ?_)⟩
  cases List.mem_singleton.mp hx
  refine (ax_XF_lt (x := 212) (Nat.le_of_ble_eq_true rfl)).mpr ?_
  show pz_x62 (ρ 0) (ρ 1) (4008) (8)
  refine ⟨F212.1, F212.2.1, fun i hi => ?_⟩
  replace hi : i < 2 := hi
  by_cases h : i < 1
  · exact F212.2.2 i h
  · have e : i = 1 := by omega
    subst e
    exact hb2.trans (show ρ 4 / 4 = 111 by omega)
theorem axq0_is3_2_1 : ax_RO ax_wM0 (ax_XM 0) axu0_is3_2_1 := axqg_is3_2_1 ax_WW0
theorem axqg_is4a_2_1 {w : ax_W} {b : Nat} (hw : ax_WW w) : ax_RO w (ax_XM b) axu0_is4a_2_1 := by
  intro ρ hp hE hT
  have j0 : ρ 0 % 4 = 1 := pz_gj hE 0 (Nat.le_of_ble_eq_true rfl) rfl
  have j1 : ρ 1 % 4 = 1 := pz_gj hE 1 (Nat.le_of_ble_eq_true rfl) rfl
  obtain ⟨i2a, i2b, i2c, i2d⟩ := pz_gi hE 2 2147483648 2147484448 (Nat.le_of_ble_eq_true rfl) rfl
  obtain ⟨i3a, i3b, i3c, i3d⟩ := pz_gi hE 3 0 4294967295 (Nat.le_of_ble_eq_true rfl) rfl
  obtain ⟨i4a, i4b, i4c, i4d⟩ := pz_gi hE 4 2147483520 2147483758 (Nat.le_of_ble_eq_true rfl) rfl
  have c_at : ay_at hp 173 14 = some (ρ 2) := ay_gfj hE 702 56 11 173 14 ax_m2 (ax_vlq rfl rfl) (ax_vlj rfl rfl)
  have s1 : (ρ 2 / 4 + 2147483648) % 4294967296 + (4 / 4 + 2147483648) % 4294967296 = (ρ 3 / 4 + 2147483648) % 4294967296 + 2147483648 := pz_gs hE 11 4 15 ax_m3
  have c_tape : ay_at hp 183 (ρ 3 / 4) = some (ρ 4) := ay_gf hE 742 15 19 183 ax_m4 (ax_vlq rfl rfl)
  obtain ⟨-, -, F131⟩ : ay_ex hp 173 ∧ ay_ex hp 183 ∧ pz_x30 (ρ 0) (ay_at hp 173 12) (ay_at hp 183) := (ax_XF_lt (x := 131) (Nat.le_of_ble_eq_true rfl)).mp (ax_gx hE (131, [3]) ax_m0)
  obtain ⟨-, F154⟩ : ay_ex hp 173 ∧ ay_ln (ay_at hp 173 14) = pz_at (pz_gt (ρ 0)) (pz_gN (ρ 0)) (pz_p (pz_cF (ρ 0) (ρ 1))) := (ax_XF_lt (x := 154) (Nat.le_of_ble_eq_true rfl)).mp (ax_gx hE (154, [3, 7]) ax_m1)
  rw [c_at] at F154
  have F212 : pz_x62 (ρ 0) (ρ 1) (4008) (4) := (ax_XF_lt (x := 212) (Nat.le_of_ble_eq_true rfl)).mp (ax_gx hE (212, [3, 7, 4008, 4]) ax_m5)
  have ep : ρ 2 / 4 = pz_at (pz_gt (ρ 0)) (pz_gN (ρ 0)) (pz_p (pz_cf (pz_gt (ρ 0)) (pz_gN (ρ 0)) (ρ 1 / 4))) := F154
  have hw : pz_at (pz_gt (ρ 0)) (pz_gN (ρ 0)) (pz_p (pz_cf (pz_gt (ρ 0)) (pz_gN (ρ 0)) (ρ 1 / 4))) < pz_gN (ρ 0) ∧ pz_nx (pz_gt (ρ 0)) (pz_gN (ρ 0)) (pz_p (pz_cf (pz_gt (ρ 0)) (pz_gN (ρ 0)) (ρ 1 / 4))) ≤ pz_gN (ρ 0) := pz_wd_le F212.1
  have hln : pz_nx (pz_gt (ρ 0)) (pz_gN (ρ 0)) (pz_p (pz_cf (pz_gt (ρ 0)) (pz_gN (ρ 0)) (ρ 1 / 4))) - pz_at (pz_gt (ρ 0)) (pz_gN (ρ 0)) (pz_p (pz_cf (pz_gt (ρ 0)) (pz_gN (ρ 0)) (ρ 1 / 4))) = 4 := F212.2.1
  have ha1 := (pz_ps 0 800 i2b i2c i2d (by decide))
  have hq1 : ρ 3 / 4 = ρ 2 / 4 + 1 := pz_sm (by omega) (by decide) i3b s1
  have hb := F131.2.2 (ρ 3 / 4) (by have := hw.2; omega)
  rw [c_tape] at hb
  have hb := Option.some.inj hb
  rw [show ρ 3 / 4 = pz_at (pz_gt (ρ 0)) (pz_gN (ρ 0)) (pz_p (pz_cf (pz_gt (ρ 0)) (pz_gN (ρ 0)) (ρ 1 / 4))) + 1 by omega] at hb
  have hb2 : pz_b (pz_gt (ρ 0)) (pz_at (pz_gt (ρ 0)) (pz_gN (ρ 0)) (pz_p (pz_cf (pz_gt (ρ 0)) (pz_gN (ρ 0)) (ρ 1 / 4))) + 1) = ρ 4 / 4 := by omega
  refine ⟨(fun y hy => by cases hy), _, List.mem_cons_self, ρ, fun _ _ => rfl, ax_px hE rfl (fun x hx => ?_)⟩
  cases List.mem_singleton.mp hx
  refine (ax_XF_lt (x := 161) (Nat.le_of_ble_eq_true rfl)).mpr ?_
  show pz61 (pz_gt (ρ 0)) (pz_gN (ρ 0)) ((ρ 1) / 4) ((8) / 4)
  refine pz_is_no (Or.inr (Or.inr ⟨1, by decide, fun z => ?_⟩))
  have z2 : ρ 4 / 4 = 111 := hb2.symm.trans z
  omega
theorem axq0_is4a_2_1 : ax_RO ax_wM0 (ax_XM 0) axu0_is4a_2_1 := axqg_is4a_2_1 ax_WW0
theorem axqg_is4b_2_1 {w : ax_W} {b : Nat} (hw : ax_WW w) : ax_RO w (ax_XM b) axu0_is4b_2_1 := by
  intro ρ hp hE hT
  have j0 : ρ 0 % 4 = 1 := pz_gj hE 0 (Nat.le_of_ble_eq_true rfl) rfl
  have j1 : ρ 1 % 4 = 1 := pz_gj hE 1 (Nat.le_of_ble_eq_true rfl) rfl
  obtain ⟨i2a, i2b, i2c, i2d⟩ := pz_gi hE 2 2147483648 2147484448 (Nat.le_of_ble_eq_true rfl) rfl
  obtain ⟨i3a, i3b, i3c, i3d⟩ := pz_gi hE 3 0 4294967295 (Nat.le_of_ble_eq_true rfl) rfl
  obtain ⟨i4a, i4b, i4c, i4d⟩ := pz_gi hE 4 2147483760 2147483775 (Nat.le_of_ble_eq_true rfl) rfl
  have c_at : ay_at hp 173 14 = some (ρ 2) := ay_gfj hE 702 56 11 173 14 ax_m2 (ax_vlq rfl rfl) (ax_vlj rfl rfl)
  have s1 : (ρ 2 / 4 + 2147483648) % 4294967296 + (4 / 4 + 2147483648) % 4294967296 = (ρ 3 / 4 + 2147483648) % 4294967296 + 2147483648 := pz_gs hE 11 4 15 ax_m3
  have c_tape : ay_at hp 183 (ρ 3 / 4) = some (ρ 4) := ay_gf hE 742 15 19 183 ax_m4 (ax_vlq rfl rfl)
  obtain ⟨-, -, F131⟩ : ay_ex hp 173 ∧ ay_ex hp 183 ∧ pz_x30 (ρ 0) (ay_at hp 173 12) (ay_at hp 183) := (ax_XF_lt (x := 131) (Nat.le_of_ble_eq_true rfl)).mp (ax_gx hE (131, [3]) ax_m0)
  obtain ⟨-, F154⟩ : ay_ex hp 173 ∧ ay_ln (ay_at hp 173 14) = pz_at (pz_gt (ρ 0)) (pz_gN (ρ 0)) (pz_p (pz_cF (ρ 0) (ρ 1))) := (ax_XF_lt (x := 154) (Nat.le_of_ble_eq_true rfl)).mp (ax_gx hE (154, [3, 7]) ax_m1)
  rw [c_at] at F154
  have F212 : pz_x62 (ρ 0) (ρ 1) (4008) (4) := (ax_XF_lt (x := 212) (Nat.le_of_ble_eq_true rfl)).mp (ax_gx hE (212, [3, 7, 4008, 4]) ax_m5)
  have ep : ρ 2 / 4 = pz_at (pz_gt (ρ 0)) (pz_gN (ρ 0)) (pz_p (pz_cf (pz_gt (ρ 0)) (pz_gN (ρ 0)) (ρ 1 / 4))) := F154
  have hw : pz_at (pz_gt (ρ 0)) (pz_gN (ρ 0)) (pz_p (pz_cf (pz_gt (ρ 0)) (pz_gN (ρ 0)) (ρ 1 / 4))) < pz_gN (ρ 0) ∧ pz_nx (pz_gt (ρ 0)) (pz_gN (ρ 0)) (pz_p (pz_cf (pz_gt (ρ 0)) (pz_gN (ρ 0)) (ρ 1 / 4))) ≤ pz_gN (ρ 0) := pz_wd_le F212.1
  have hln : pz_nx (pz_gt (ρ 0)) (pz_gN (ρ 0)) (pz_p (pz_cf (pz_gt (ρ 0)) (pz_gN (ρ 0)) (ρ 1 / 4))) - pz_at (pz_gt (ρ 0)) (pz_gN (ρ 0)) (pz_p (pz_cf (pz_gt (ρ 0)) (pz_gN (ρ 0)) (ρ 1 / 4))) = 4 := F212.2.1
  have ha1 := (pz_ps 0 800 i2b i2c i2d (by decide))
  have hq1 : ρ 3 / 4 = ρ 2 / 4 + 1 := pz_sm (by omega) (by decide) i3b s1
  have hb := F131.2.2 (ρ 3 / 4) (by have := hw.2; omega)
  rw [c_tape] at hb
  have hb := Option.some.inj hb
  rw [show ρ 3 / 4 = pz_at (pz_gt (ρ 0)) (pz_gN (ρ 0)) (pz_p (pz_cf (pz_gt (ρ 0)) (pz_gN (ρ 0)) (ρ 1 / 4))) + 1 by omega] at hb
  have hb2 : pz_b (pz_gt (ρ 0)) (pz_at (pz_gt (ρ 0)) (pz_gN (ρ 0)) (pz_p (pz_cf (pz_gt (ρ 0)) (pz_gN (ρ 0)) (ρ 1 / 4))) + 1) = ρ 4 / 4 := by omega
  refine ⟨(fun y hy => by cases hy), _, List.mem_cons_self, ρ, fun _ _ => rfl, ax_px hE rfl (fun x hx => ?_)⟩
  cases List.mem_singleton.mp hx
  refine (ax_XF_lt (x := 161) (Nat.le_of_ble_eq_true rfl)).mpr ?_
  show pz61 (pz_gt (ρ 0)) (pz_gN (ρ 0)) ((ρ 1) / 4) ((8) / 4)
  refine pz_is_no (Or.inr (Or.inr ⟨1, by decide, fun z => ?_⟩))
  have z2 : ρ 4 / 4 = 111 := hb2.symm.trans z
  omega
theorem axq0_is4b_2_1 : ax_RO ax_wM0 (ax_XM 0) axu0_is4b_2_1 := axqg_is4b_2_1 ax_WW0
theorem axqg_is3_2_2 {w : ax_W} {b : Nat} (hw : ax_WW w) : ax_RO w (ax_XM b) axu0_is3_2_2 := by
  intro ρ hp hE hT
  have j0 : ρ 0 % 4 = 1 := pz_gj hE 0 (Nat.le_of_ble_eq_true rfl) rfl
  have j1 : ρ 1 % 4 = 1 := pz_gj hE 1 (Nat.le_of_ble_eq_true rfl) rfl
  obtain ⟨i2a, i2b, i2c, i2d⟩ := pz_gi hE 2 2147483648 2147484448 (Nat.le_of_ble_eq_true rfl) rfl
  obtain ⟨i3a, i3b, i3c, i3d⟩ := pz_gi hE 3 0 4294967295 (Nat.le_of_ble_eq_true rfl) rfl
  obtain ⟨i4a, i4b, i4c, i4d⟩ := pz_gi hE 4 2147483759 2147483759 (Nat.le_of_ble_eq_true rfl) rfl
  have c_at : ay_at hp 173 14 = some (ρ 2) := ay_gfj hE 702 56 11 173 14 ax_m2 (ax_vlq rfl rfl) (ax_vlj rfl rfl)
  have s1 : (ρ 2 / 4 + 2147483648) % 4294967296 + (8 / 4 + 2147483648) % 4294967296 = (ρ 3 / 4 + 2147483648) % 4294967296 + 2147483648 := pz_gs hE 11 8 15 ax_m3
  have c_tape : ay_at hp 183 (ρ 3 / 4) = some (ρ 4) := ay_gf hE 742 15 19 183 ax_m4 (ax_vlq rfl rfl)
  obtain ⟨-, -, F131⟩ : ay_ex hp 173 ∧ ay_ex hp 183 ∧ pz_x30 (ρ 0) (ay_at hp 173 12) (ay_at hp 183) := (ax_XF_lt (x := 131) (Nat.le_of_ble_eq_true rfl)).mp (ax_gx hE (131, [3]) ax_m0)
  obtain ⟨-, F154⟩ : ay_ex hp 173 ∧ ay_ln (ay_at hp 173 14) = pz_at (pz_gt (ρ 0)) (pz_gN (ρ 0)) (pz_p (pz_cF (ρ 0) (ρ 1))) := (ax_XF_lt (x := 154) (Nat.le_of_ble_eq_true rfl)).mp (ax_gx hE (154, [3, 7]) ax_m1)
  rw [c_at] at F154
  have F212 : pz_x62 (ρ 0) (ρ 1) (4008) (8) := (ax_XF_lt (x := 212) (Nat.le_of_ble_eq_true rfl)).mp (ax_gx hE (212, [3, 7, 4008, 8]) ax_m5)
  have ep : ρ 2 / 4 = pz_at (pz_gt (ρ 0)) (pz_gN (ρ 0)) (pz_p (pz_cf (pz_gt (ρ 0)) (pz_gN (ρ 0)) (ρ 1 / 4))) := F154
  have hw : pz_at (pz_gt (ρ 0)) (pz_gN (ρ 0)) (pz_p (pz_cf (pz_gt (ρ 0)) (pz_gN (ρ 0)) (ρ 1 / 4))) < pz_gN (ρ 0) ∧ pz_nx (pz_gt (ρ 0)) (pz_gN (ρ 0)) (pz_p (pz_cf (pz_gt (ρ 0)) (pz_gN (ρ 0)) (ρ 1 / 4))) ≤ pz_gN (ρ 0) := pz_wd_le F212.1
  have hln : pz_nx (pz_gt (ρ 0)) (pz_gN (ρ 0)) (pz_p (pz_cf (pz_gt (ρ 0)) (pz_gN (ρ 0)) (ρ 1 / 4))) - pz_at (pz_gt (ρ 0)) (pz_gN (ρ 0)) (pz_p (pz_cf (pz_gt (ρ 0)) (pz_gN (ρ 0)) (ρ 1 / 4))) = 4 := F212.2.1
  have ha1 := (pz_ps 0 800 i2b i2c i2d (by decide))
  have hq1 : ρ 3 / 4 = ρ 2 / 4 + 2 := pz_sm (by omega) (by decide) i3b s1
  have hb := F131.2.2 (ρ 3 / 4) (by have := hw.2; omega)
  rw [c_tape] at hb
  have hb := Option.some.inj hb
  rw [show ρ 3 / 4 = pz_at (pz_gt (ρ 0)) (pz_gN (ρ 0)) (pz_p (pz_cf (pz_gt (ρ 0)) (pz_gN (ρ 0)) (ρ 1 / 4))) + 2 by omega] at hb
  have hb2 : pz_b (pz_gt (ρ 0)) (pz_at (pz_gt (ρ 0)) (pz_gN (ρ 0)) (pz_p (pz_cf (pz_gt (ρ 0)) (pz_gN (ρ 0)) (ρ 1 / 4))) + 2) = ρ 4 / 4 := by omega
  refine ⟨(fun y hy => by cases hy), _, List.mem_cons_self, ρ, fun _ _ => rfl, ax_px hE rfl (fun x hx => ?_)⟩
  cases List.mem_singleton.mp hx
  refine (ax_XF_lt (x := 212) (Nat.le_of_ble_eq_true rfl)).mpr ?_
  show pz_x62 (ρ 0) (ρ 1) (4008) (12)
  refine ⟨F212.1, F212.2.1, fun i hi => ?_⟩
  replace hi : i < 3 := hi
  by_cases h : i < 2
  · exact F212.2.2 i h
  · have e : i = 2 := by omega
    subst e
    exact hb2.trans (show ρ 4 / 4 = 111 by omega)
theorem axq0_is3_2_2 : ax_RO ax_wM0 (ax_XM 0) axu0_is3_2_2 := axqg_is3_2_2 ax_WW0
theorem axqg_is4a_2_2 {w : ax_W} {b : Nat} (hw : ax_WW w) : ax_RO w (ax_XM b) axu0_is4a_2_2 := by
  intro ρ hp hE hT
  have j0 : ρ 0 % 4 = 1 := pz_gj hE 0 (Nat.le_of_ble_eq_true rfl) rfl
  have j1 : ρ 1 % 4 = 1 := pz_gj hE 1 (Nat.le_of_ble_eq_true rfl) rfl
  obtain ⟨i2a, i2b, i2c, i2d⟩ := pz_gi hE 2 2147483648 2147484448 (Nat.le_of_ble_eq_true rfl) rfl
  obtain ⟨i3a, i3b, i3c, i3d⟩ := pz_gi hE 3 0 4294967295 (Nat.le_of_ble_eq_true rfl) rfl
  obtain ⟨i4a, i4b, i4c, i4d⟩ := pz_gi hE 4 2147483520 2147483758 (Nat.le_of_ble_eq_true rfl) rfl
  have c_at : ay_at hp 173 14 = some (ρ 2) := ay_gfj hE 702 56 11 173 14 ax_m2 (ax_vlq rfl rfl) (ax_vlj rfl rfl)
  have s1 : (ρ 2 / 4 + 2147483648) % 4294967296 + (8 / 4 + 2147483648) % 4294967296 = (ρ 3 / 4 + 2147483648) % 4294967296 + 2147483648 := pz_gs hE 11 8 15 ax_m3
  have c_tape : ay_at hp 183 (ρ 3 / 4) = some (ρ 4) := ay_gf hE 742 15 19 183 ax_m4 (ax_vlq rfl rfl)
  obtain ⟨-, -, F131⟩ : ay_ex hp 173 ∧ ay_ex hp 183 ∧ pz_x30 (ρ 0) (ay_at hp 173 12) (ay_at hp 183) := (ax_XF_lt (x := 131) (Nat.le_of_ble_eq_true rfl)).mp (ax_gx hE (131, [3]) ax_m0)
  obtain ⟨-, F154⟩ : ay_ex hp 173 ∧ ay_ln (ay_at hp 173 14) = pz_at (pz_gt (ρ 0)) (pz_gN (ρ 0)) (pz_p (pz_cF (ρ 0) (ρ 1))) := (ax_XF_lt (x := 154) (Nat.le_of_ble_eq_true rfl)).mp (ax_gx hE (154, [3, 7]) ax_m1)
  rw [c_at] at F154
  have F212 : pz_x62 (ρ 0) (ρ 1) (4008) (8) := (ax_XF_lt (x := 212) (Nat.le_of_ble_eq_true rfl)).mp (ax_gx hE (212, [3, 7, 4008, 8]) ax_m5)
  have ep : ρ 2 / 4 = pz_at (pz_gt (ρ 0)) (pz_gN (ρ 0)) (pz_p (pz_cf (pz_gt (ρ 0)) (pz_gN (ρ 0)) (ρ 1 / 4))) := F154
  have hw : pz_at (pz_gt (ρ 0)) (pz_gN (ρ 0)) (pz_p (pz_cf (pz_gt (ρ 0)) (pz_gN (ρ 0)) (ρ 1 / 4))) < pz_gN (ρ 0) ∧ pz_nx (pz_gt (ρ 0)) (pz_gN (ρ 0)) (pz_p (pz_cf (pz_gt (ρ 0)) (pz_gN (ρ 0)) (ρ 1 / 4))) ≤ pz_gN (ρ 0) := pz_wd_le F212.1
  have hln : pz_nx (pz_gt (ρ 0)) (pz_gN (ρ 0)) (pz_p (pz_cf (pz_gt (ρ 0)) (pz_gN (ρ 0)) (ρ 1 / 4))) - pz_at (pz_gt (ρ 0)) (pz_gN (ρ 0)) (pz_p (pz_cf (pz_gt (ρ 0)) (pz_gN (ρ 0)) (ρ 1 / 4))) = 4 := F212.2.1
  have ha1 := (pz_ps 0 800 i2b i2c i2d (by decide))
  have hq1 : ρ 3 / 4 = ρ 2 / 4 + 2 := pz_sm (by omega) (by decide) i3b s1
  have hb := F131.2.2 (ρ 3 / 4) (by have := hw.2; omega)
  rw [c_tape] at hb
  have hb := Option.some.inj hb
  rw [show ρ 3 / 4 = pz_at (pz_gt (ρ 0)) (pz_gN (ρ 0)) (pz_p (pz_cf (pz_gt (ρ 0)) (pz_gN (ρ 0)) (ρ 1 / 4))) + 2 by omega] at hb
  have hb2 : pz_b (pz_gt (ρ 0)) (pz_at (pz_gt (ρ 0)) (pz_gN (ρ 0)) (pz_p (pz_cf (pz_gt (ρ 0)) (pz_gN (ρ 0)) (ρ 1 / 4))) + 2) = ρ 4 / 4 := by omega
  refine ⟨(fun y hy => by cases hy), _, List.mem_cons_self, ρ, fun _ _ => rfl, ax_px hE rfl (fun x hx => ?_)⟩
  cases List.mem_singleton.mp hx
  refine (ax_XF_lt (x := 161) (Nat.le_of_ble_eq_true rfl)).mpr ?_
  show pz61 (pz_gt (ρ 0)) (pz_gN (ρ 0)) ((ρ 1) / 4) ((8) / 4)
  refine pz_is_no (Or.inr (Or.inr ⟨2, by decide, fun z => ?_⟩))
  have z2 : ρ 4 / 4 = 111 := hb2.symm.trans z
  omega
theorem axq0_is4a_2_2 : ax_RO ax_wM0 (ax_XM 0) axu0_is4a_2_2 := axqg_is4a_2_2 ax_WW0
theorem axqg_is4b_2_2 {w : ax_W} {b : Nat} (hw : ax_WW w) : ax_RO w (ax_XM b) axu0_is4b_2_2 := by
  intro ρ hp hE hT
  have j0 : ρ 0 % 4 = 1 := pz_gj hE 0 (Nat.le_of_ble_eq_true rfl) rfl
  have j1 : ρ 1 % 4 = 1 := pz_gj hE 1 (Nat.le_of_ble_eq_true rfl) rfl
  obtain ⟨i2a, i2b, i2c, i2d⟩ := pz_gi hE 2 2147483648 2147484448 (Nat.le_of_ble_eq_true rfl) rfl
  obtain ⟨i3a, i3b, i3c, i3d⟩ := pz_gi hE 3 0 4294967295 (Nat.le_of_ble_eq_true rfl) rfl
  obtain ⟨i4a, i4b, i4c, i4d⟩ := pz_gi hE 4 2147483760 2147483775 (Nat.le_of_ble_eq_true rfl) rfl
  have c_at : ay_at hp 173 14 = some (ρ 2) := ay_gfj hE 702 56 11 173 14 ax_m2 (ax_vlq rfl rfl) (ax_vlj rfl rfl)
  have s1 : (ρ 2 / 4 + 2147483648) % 4294967296 + (8 / 4 + 2147483648) % 4294967296 = (ρ 3 / 4 + 2147483648) % 4294967296 + 2147483648 := pz_gs hE 11 8 15 ax_m3
  have c_tape : ay_at hp 183 (ρ 3 / 4) = some (ρ 4) := ay_gf hE 742 15 19 183 ax_m4 (ax_vlq rfl rfl)
  obtain ⟨-, -, F131⟩ : ay_ex hp 173 ∧ ay_ex hp 183 ∧ pz_x30 (ρ 0) (ay_at hp 173 12) (ay_at hp 183) := (ax_XF_lt (x := 131) (Nat.le_of_ble_eq_true rfl)).mp (ax_gx hE (131, [3]) ax_m0)
  obtain ⟨-, F154⟩ : ay_ex hp 173 ∧ ay_ln (ay_at hp 173 14) = pz_at (pz_gt (ρ 0)) (pz_gN (ρ 0)) (pz_p (pz_cF (ρ 0) (ρ 1))) := (ax_XF_lt (x := 154) (Nat.le_of_ble_eq_true rfl)).mp (ax_gx hE (154, [3, 7]) ax_m1)
  rw [c_at] at F154
  have F212 : pz_x62 (ρ 0) (ρ 1) (4008) (8) := (ax_XF_lt (x := 212) (Nat.le_of_ble_eq_true rfl)).mp (ax_gx hE (212, [3, 7, 4008, 8]) ax_m5)
  have ep : ρ 2 / 4 = pz_at (pz_gt (ρ 0)) (pz_gN (ρ 0)) (pz_p (pz_cf (pz_gt (ρ 0)) (pz_gN (ρ 0)) (ρ 1 / 4))) := F154
  have hw : pz_at (pz_gt (ρ 0)) (pz_gN (ρ 0)) (pz_p (pz_cf (pz_gt (ρ 0)) (pz_gN (ρ 0)) (ρ 1 / 4))) < pz_gN (ρ 0) ∧ pz_nx (pz_gt (ρ 0)) (pz_gN (ρ 0)) (pz_p (pz_cf (pz_gt (ρ 0)) (pz_gN (ρ 0)) (ρ 1 / 4))) ≤ pz_gN (ρ 0) := pz_wd_le F212.1
  have hln : pz_nx (pz_gt (ρ 0)) (pz_gN (ρ 0)) (pz_p (pz_cf (pz_gt (ρ 0)) (pz_gN (ρ 0)) (ρ 1 / 4))) - pz_at (pz_gt (ρ 0)) (pz_gN (ρ 0)) (pz_p (pz_cf (pz_gt (ρ 0)) (pz_gN (ρ 0)) (ρ 1 / 4))) = 4 := F212.2.1
  have ha1 := (pz_ps 0 800 i2b i2c i2d (by decide))
  have hq1 : ρ 3 / 4 = ρ 2 / 4 + 2 := pz_sm (by omega) (by decide) i3b s1
  have hb := F131.2.2 (ρ 3 / 4) (by have := hw.2; omega)
  rw [c_tape] at hb
  have hb := Option.some.inj hb
  rw [show ρ 3 / 4 = pz_at (pz_gt (ρ 0)) (pz_gN (ρ 0)) (pz_p (pz_cf (pz_gt (ρ 0)) (pz_gN (ρ 0)) (ρ 1 / 4))) + 2 by omega] at hb
  have hb2 : pz_b (pz_gt (ρ 0)) (pz_at (pz_gt (ρ 0)) (pz_gN (ρ 0)) (pz_p (pz_cf (pz_gt (ρ 0)) (pz_gN (ρ 0)) (ρ 1 / 4))) + 2) = ρ 4 / 4 := by omega
  refine ⟨(fun y hy => by cases hy), _, List.mem_cons_self, ρ, fun _ _ => rfl, ax_px hE rfl (fun x hx => ?_)⟩
  cases List.mem_singleton.mp hx
  refine (ax_XF_lt (x := 161) (Nat.le_of_ble_eq_true rfl)).mpr ?_
  show pz61 (pz_gt (ρ 0)) (pz_gN (ρ 0)) ((ρ 1) / 4) ((8) / 4)
  refine pz_is_no (Or.inr (Or.inr ⟨2, by decide, fun z => ?_⟩))
  have z2 : ρ 4 / 4 = 111 := hb2.symm.trans z
  omega
theorem axq0_is4b_2_2 : ax_RO ax_wM0 (ax_XM 0) axu0_is4b_2_2 := axqg_is4b_2_2 ax_WW0
theorem axqg_is3_2_3 {w : ax_W} {b : Nat} (hw : ax_WW w) : ax_RO w (ax_XM b) axu0_is3_2_3 := by
  intro ρ hp hE hT
  have j0 : ρ 0 % 4 = 1 := pz_gj hE 0 (Nat.le_of_ble_eq_true rfl) rfl
  have j1 : ρ 1 % 4 = 1 := pz_gj hE 1 (Nat.le_of_ble_eq_true rfl) rfl
  obtain ⟨i2a, i2b, i2c, i2d⟩ := pz_gi hE 2 2147483648 2147484448 (Nat.le_of_ble_eq_true rfl) rfl
  obtain ⟨i3a, i3b, i3c, i3d⟩ := pz_gi hE 3 0 4294967295 (Nat.le_of_ble_eq_true rfl) rfl
  obtain ⟨i4a, i4b, i4c, i4d⟩ := pz_gi hE 4 2147483764 2147483764 (Nat.le_of_ble_eq_true rfl) rfl
  have c_at : ay_at hp 173 14 = some (ρ 2) := ay_gfj hE 702 56 11 173 14 ax_m2 (ax_vlq rfl rfl) (ax_vlj rfl rfl)
  have s1 : (ρ 2 / 4 + 2147483648) % 4294967296 + (12 / 4 + 2147483648) % 4294967296 = (ρ 3 / 4 + 2147483648) % 4294967296 + 2147483648 := pz_gs hE 11 12 15 ax_m3
  have c_tape : ay_at hp 183 (ρ 3 / 4) = some (ρ 4) := ay_gf hE 742 15 19 183 ax_m4 (ax_vlq rfl rfl)
  obtain ⟨-, -, F131⟩ : ay_ex hp 173 ∧ ay_ex hp 183 ∧ pz_x30 (ρ 0) (ay_at hp 173 12) (ay_at hp 183) := (ax_XF_lt (x := 131) (Nat.le_of_ble_eq_true rfl)).mp (ax_gx hE (131, [3]) ax_m0)
  obtain ⟨-, F154⟩ : ay_ex hp 173 ∧ ay_ln (ay_at hp 173 14) = pz_at (pz_gt (ρ 0)) (pz_gN (ρ 0)) (pz_p (pz_cF (ρ 0) (ρ 1))) := (ax_XF_lt (x := 154) (Nat.le_of_ble_eq_true rfl)).mp (ax_gx hE (154, [3, 7]) ax_m1)
  rw [c_at] at F154
  have F212 : pz_x62 (ρ 0) (ρ 1) (4008) (12) := (ax_XF_lt (x := 212) (Nat.le_of_ble_eq_true rfl)).mp (ax_gx hE (212, [3, 7, 4008, 12]) ax_m5)
  have ep : ρ 2 / 4 = pz_at (pz_gt (ρ 0)) (pz_gN (ρ 0)) (pz_p (pz_cf (pz_gt (ρ 0)) (pz_gN (ρ 0)) (ρ 1 / 4))) := F154
  have hw : pz_at (pz_gt (ρ 0)) (pz_gN (ρ 0)) (pz_p (pz_cf (pz_gt (ρ 0)) (pz_gN (ρ 0)) (ρ 1 / 4))) < pz_gN (ρ 0) ∧ pz_nx (pz_gt (ρ 0)) (pz_gN (ρ 0)) (pz_p (pz_cf (pz_gt (ρ 0)) (pz_gN (ρ 0)) (ρ 1 / 4))) ≤ pz_gN (ρ 0) := pz_wd_le F212.1
  have hln : pz_nx (pz_gt (ρ 0)) (pz_gN (ρ 0)) (pz_p (pz_cf (pz_gt (ρ 0)) (pz_gN (ρ 0)) (ρ 1 / 4))) - pz_at (pz_gt (ρ 0)) (pz_gN (ρ 0)) (pz_p (pz_cf (pz_gt (ρ 0)) (pz_gN (ρ 0)) (ρ 1 / 4))) = 4 := F212.2.1
  have ha1 := (pz_ps 0 800 i2b i2c i2d (by decide))
  have hq1 : ρ 3 / 4 = ρ 2 / 4 + 3 := pz_sm (by omega) (by decide) i3b s1
  have hb := F131.2.2 (ρ 3 / 4) (by have := hw.2; omega)
  rw [c_tape] at hb
  have hb := Option.some.inj hb
  rw [show ρ 3 / 4 = pz_at (pz_gt (ρ 0)) (pz_gN (ρ 0)) (pz_p (pz_cf (pz_gt (ρ 0)) (pz_gN (ρ 0)) (ρ 1 / 4))) + 3 by omega] at hb
  have hb2 : pz_b (pz_gt (ρ 0)) (pz_at (pz_gt (ρ 0)) (pz_gN (ρ 0)) (pz_p (pz_cf (pz_gt (ρ 0)) (pz_gN (ρ 0)) (ρ 1 / 4))) + 3) = ρ 4 / 4 := by omega
  refine ⟨(fun y hy => by cases hy), _, List.mem_cons_self, ρ, fun _ _ => rfl, ax_px hE rfl (fun x hx => ?_)⟩
  cases List.mem_singleton.mp hx
  refine (ax_XF_lt (x := 212) (Nat.le_of_ble_eq_true rfl)).mpr ?_
  show pz_x62 (ρ 0) (ρ 1) (4008) (16)
  refine ⟨F212.1, F212.2.1, fun i hi => ?_⟩
  replace hi : i < 4 := hi
  by_cases h : i < 3
  · exact F212.2.2 i h
  · have e : i = 3 := by omega
    subst e
    exact hb2.trans (show ρ 4 / 4 = 116 by omega)
theorem axq0_is3_2_3 : ax_RO ax_wM0 (ax_XM 0) axu0_is3_2_3 := axqg_is3_2_3 ax_WW0
theorem axqg_is4a_2_3 {w : ax_W} {b : Nat} (hw : ax_WW w) : ax_RO w (ax_XM b) axu0_is4a_2_3 := by
  intro ρ hp hE hT
  have j0 : ρ 0 % 4 = 1 := pz_gj hE 0 (Nat.le_of_ble_eq_true rfl) rfl
  have j1 : ρ 1 % 4 = 1 := pz_gj hE 1 (Nat.le_of_ble_eq_true rfl) rfl
  obtain ⟨i2a, i2b, i2c, i2d⟩ := pz_gi hE 2 2147483648 2147484448 (Nat.le_of_ble_eq_true rfl) rfl
  obtain ⟨i3a, i3b, i3c, i3d⟩ := pz_gi hE 3 0 4294967295 (Nat.le_of_ble_eq_true rfl) rfl
  obtain ⟨i4a, i4b, i4c, i4d⟩ := pz_gi hE 4 2147483520 2147483763 (Nat.le_of_ble_eq_true rfl) rfl
  have c_at : ay_at hp 173 14 = some (ρ 2) := ay_gfj hE 702 56 11 173 14 ax_m2 (ax_vlq rfl rfl) (ax_vlj rfl rfl)
  have s1 : (ρ 2 / 4 + 2147483648) % 4294967296 + (12 / 4 + 2147483648) % 4294967296 = (ρ 3 / 4 + 2147483648) % 4294967296 + 2147483648 := pz_gs hE 11 12 15 ax_m3
  have c_tape : ay_at hp 183 (ρ 3 / 4) = some (ρ 4) := ay_gf hE 742 15 19 183 ax_m4 (ax_vlq rfl rfl)
  obtain ⟨-, -, F131⟩ : ay_ex hp 173 ∧ ay_ex hp 183 ∧ pz_x30 (ρ 0) (ay_at hp 173 12) (ay_at hp 183) := (ax_XF_lt (x := 131) (Nat.le_of_ble_eq_true rfl)).mp (ax_gx hE (131, [3]) ax_m0)
  obtain ⟨-, F154⟩ : ay_ex hp 173 ∧ ay_ln (ay_at hp 173 14) = pz_at (pz_gt (ρ 0)) (pz_gN (ρ 0)) (pz_p (pz_cF (ρ 0) (ρ 1))) := (ax_XF_lt (x := 154) (Nat.le_of_ble_eq_true rfl)).mp (ax_gx hE (154, [3, 7]) ax_m1)
  rw [c_at] at F154
  have F212 : pz_x62 (ρ 0) (ρ 1) (4008) (12) := (ax_XF_lt (x := 212) (Nat.le_of_ble_eq_true rfl)).mp (ax_gx hE (212, [3, 7, 4008, 12]) ax_m5)
  have ep : ρ 2 / 4 = pz_at (pz_gt (ρ 0)) (pz_gN (ρ 0)) (pz_p (pz_cf (pz_gt (ρ 0)) (pz_gN (ρ 0)) (ρ 1 / 4))) := F154
  have hw : pz_at (pz_gt (ρ 0)) (pz_gN (ρ 0)) (pz_p (pz_cf (pz_gt (ρ 0)) (pz_gN (ρ 0)) (ρ 1 / 4))) < pz_gN (ρ 0) ∧ pz_nx (pz_gt (ρ 0)) (pz_gN (ρ 0)) (pz_p (pz_cf (pz_gt (ρ 0)) (pz_gN (ρ 0)) (ρ 1 / 4))) ≤ pz_gN (ρ 0) := pz_wd_le F212.1
  have hln : pz_nx (pz_gt (ρ 0)) (pz_gN (ρ 0)) (pz_p (pz_cf (pz_gt (ρ 0)) (pz_gN (ρ 0)) (ρ 1 / 4))) - pz_at (pz_gt (ρ 0)) (pz_gN (ρ 0)) (pz_p (pz_cf (pz_gt (ρ 0)) (pz_gN (ρ 0)) (ρ 1 / 4))) = 4 := F212.2.1
  have ha1 := (pz_ps 0 800 i2b i2c i2d (by decide))
  have hq1 : ρ 3 / 4 = ρ 2 / 4 + 3 := pz_sm (by omega) (by decide) i3b s1
  have hb := F131.2.2 (ρ 3 / 4) (by have := hw.2; omega)
  rw [c_tape] at hb
  have hb := Option.some.inj hb
  rw [show ρ 3 / 4 = pz_at (pz_gt (ρ 0)) (pz_gN (ρ 0)) (pz_p (pz_cf (pz_gt (ρ 0)) (pz_gN (ρ 0)) (ρ 1 / 4))) + 3 by omega] at hb
  have hb2 : pz_b (pz_gt (ρ 0)) (pz_at (pz_gt (ρ 0)) (pz_gN (ρ 0)) (pz_p (pz_cf (pz_gt (ρ 0)) (pz_gN (ρ 0)) (ρ 1 / 4))) + 3) = ρ 4 / 4 := by omega
  refine ⟨(fun y hy => by cases hy), _, List.mem_cons_self, ρ, fun _ _ => rfl, ax_px hE rfl (fun x hx => ?_)⟩
  cases List.mem_singleton.mp hx
  refine (ax_XF_lt (x := 161) (Nat.le_of_ble_eq_true rfl)).mpr ?_
  show pz61 (pz_gt (ρ 0)) (pz_gN (ρ 0)) ((ρ 1) / 4) ((8) / 4)
  refine pz_is_no (Or.inr (Or.inr ⟨3, by decide, fun z => ?_⟩))
  have z2 : ρ 4 / 4 = 116 := hb2.symm.trans z
  omega
theorem axq0_is4a_2_3 : ax_RO ax_wM0 (ax_XM 0) axu0_is4a_2_3 := axqg_is4a_2_3 ax_WW0
theorem axqg_is4b_2_3 {w : ax_W} {b : Nat} (hw : ax_WW w) : ax_RO w (ax_XM b) axu0_is4b_2_3 := by
  intro ρ hp hE hT
  have j0 : ρ 0 % 4 = 1 := pz_gj hE 0 (Nat.le_of_ble_eq_true rfl) rfl
  have j1 : ρ 1 % 4 = 1 := pz_gj hE 1 (Nat.le_of_ble_eq_true rfl) rfl
  obtain ⟨i2a, i2b, i2c, i2d⟩ := pz_gi hE 2 2147483648 2147484448 (Nat.le_of_ble_eq_true rfl) rfl
  obtain ⟨i3a, i3b, i3c, i3d⟩ := pz_gi hE 3 0 4294967295 (Nat.le_of_ble_eq_true rfl) rfl
  obtain ⟨i4a, i4b, i4c, i4d⟩ := pz_gi hE 4 2147483765 2147483775 (Nat.le_of_ble_eq_true rfl) rfl
  have c_at : ay_at hp 173 14 = some (ρ 2) := ay_gfj hE 702 56 11 173 14 ax_m2 (ax_vlq rfl rfl) (ax_vlj rfl rfl)
  have s1 : (ρ 2 / 4 + 2147483648) % 4294967296 + (12 / 4 + 2147483648) % 4294967296 = (ρ 3 / 4 + 2147483648) % 4294967296 + 2147483648 := pz_gs hE 11 12 15 ax_m3
  have c_tape : ay_at hp 183 (ρ 3 / 4) = some (ρ 4) := ay_gf hE 742 15 19 183 ax_m4 (ax_vlq rfl rfl)
  obtain ⟨-, -, F131⟩ : ay_ex hp 173 ∧ ay_ex hp 183 ∧ pz_x30 (ρ 0) (ay_at hp 173 12) (ay_at hp 183) := (ax_XF_lt (x := 131) (Nat.le_of_ble_eq_true rfl)).mp (ax_gx hE (131, [3]) ax_m0)
  obtain ⟨-, F154⟩ : ay_ex hp 173 ∧ ay_ln (ay_at hp 173 14) = pz_at (pz_gt (ρ 0)) (pz_gN (ρ 0)) (pz_p (pz_cF (ρ 0) (ρ 1))) := (ax_XF_lt (x := 154) (Nat.le_of_ble_eq_true rfl)).mp (ax_gx hE (154, [3, 7]) ax_m1)
  rw [c_at] at F154
  have F212 : pz_x62 (ρ 0) (ρ 1) (4008) (12) := (ax_XF_lt (x := 212) (Nat.le_of_ble_eq_true rfl)).mp (ax_gx hE (212, [3, 7, 4008, 12]) ax_m5)
  have ep : ρ 2 / 4 = pz_at (pz_gt (ρ 0)) (pz_gN (ρ 0)) (pz_p (pz_cf (pz_gt (ρ 0)) (pz_gN (ρ 0)) (ρ 1 / 4))) := F154
  have hw : pz_at (pz_gt (ρ 0)) (pz_gN (ρ 0)) (pz_p (pz_cf (pz_gt (ρ 0)) (pz_gN (ρ 0)) (ρ 1 / 4))) < pz_gN (ρ 0) ∧ pz_nx (pz_gt (ρ 0)) (pz_gN (ρ 0)) (pz_p (pz_cf (pz_gt (ρ 0)) (pz_gN (ρ 0)) (ρ 1 / 4))) ≤ pz_gN (ρ 0) := pz_wd_le F212.1
  have hln : pz_nx (pz_gt (ρ 0)) (pz_gN (ρ 0)) (pz_p (pz_cf (pz_gt (ρ 0)) (pz_gN (ρ 0)) (ρ 1 / 4))) - pz_at (pz_gt (ρ 0)) (pz_gN (ρ 0)) (pz_p (pz_cf (pz_gt (ρ 0)) (pz_gN (ρ 0)) (ρ 1 / 4))) = 4 := F212.2.1
  have ha1 := (pz_ps 0 800 i2b i2c i2d (by decide))
  have hq1 : ρ 3 / 4 = ρ 2 / 4 + 3 := pz_sm (by omega) (by decide) i3b s1
  have hb := F131.2.2 (ρ 3 / 4) (by have := hw.2; omega)
  rw [c_tape] at hb
  have hb := Option.some.inj hb
  rw [show ρ 3 / 4 = pz_at (pz_gt (ρ 0)) (pz_gN (ρ 0)) (pz_p (pz_cf (pz_gt (ρ 0)) (pz_gN (ρ 0)) (ρ 1 / 4))) + 3 by omega] at hb
  have hb2 : pz_b (pz_gt (ρ 0)) (pz_at (pz_gt (ρ 0)) (pz_gN (ρ 0)) (pz_p (pz_cf (pz_gt (ρ 0)) (pz_gN (ρ 0)) (ρ 1 / 4))) + 3) = ρ 4 / 4 := by omega
  refine ⟨(fun y hy => by cases hy), _, List.mem_cons_self, ρ, fun _ _ => rfl, ax_px hE rfl (fun x hx => ?_)⟩
  cases List.mem_singleton.mp hx
  refine (ax_XF_lt (x := 161) (Nat.le_of_ble_eq_true rfl)).mpr ?_
  show pz61 (pz_gt (ρ 0)) (pz_gN (ρ 0)) ((ρ 1) / 4) ((8) / 4)
  refine pz_is_no (Or.inr (Or.inr ⟨3, by decide, fun z => ?_⟩))
  have z2 : ρ 4 / 4 = 116 := hb2.symm.trans z
  omega
theorem axq0_is4b_2_3 : ax_RO ax_wM0 (ax_XM 0) axu0_is4b_2_3 := axqg_is4b_2_3 ax_WW0
theorem axqg_is5_2 {w : ax_W} {b : Nat} (hw : ax_WW w) : ax_RO w (ax_XM b) axu0_is5_2 := by
  intro ρ hp hE hT
  have j0 : ρ 0 % 4 = 1 := pz_gj hE 0 (Nat.le_of_ble_eq_true rfl) rfl
  have j1 : ρ 1 % 4 = 1 := pz_gj hE 1 (Nat.le_of_ble_eq_true rfl) rfl
  have F212 : pz_x62 (ρ 0) (ρ 1) (4008) (16) := (ax_XF_lt (x := 212) (Nat.le_of_ble_eq_true rfl)).mp (ax_gx hE (212, [3, 7, 4008, 16]) ax_m0)
  refine ⟨(fun y hy => by cases hy), _, List.mem_cons_self, ρ, fun _ _ => rfl, ax_px hE rfl (fun x hx => ?_)⟩
  cases List.mem_singleton.mp hx
  refine (ax_XF_lt (x := 160) (Nat.le_of_ble_eq_true rfl)).mpr ?_
  show pz60 (pz_gt (ρ 0)) (pz_gN (ρ 0)) ((ρ 1) / 4) ((8) / 4)
  exact pz_is_yes F212.1 F212.2.1 (fun i hi => F212.2.2 i hi)
theorem axq0_is5_2 : ax_RO ax_wM0 (ax_XM 0) axu0_is5_2 := axqg_is5_2 ax_WW0
theorem axqg_is1a_3 {w : ax_W} {b : Nat} (hw : ax_WW w) : ax_RO w (ax_XM b) axu0_is1a_3 := by
  intro ρ hp hE hT
  have j0 : ρ 0 % 4 = 1 := pz_gj hE 0 (Nat.le_of_ble_eq_true rfl) rfl
  have j1 : ρ 1 % 4 = 1 := pz_gj hE 1 (Nat.le_of_ble_eq_true rfl) rfl
  obtain ⟨i2a, i2b, i2c, i2d⟩ := pz_gi hE 2 2147482848 2147483651 (Nat.le_of_ble_eq_true rfl) rfl
  obtain ⟨i3a, i3b, i3c, i3d⟩ := pz_gi hE 3 2147483648 2147484448 (Nat.le_of_ble_eq_true rfl) rfl
  obtain ⟨i4a, i4b, i4c, i4d⟩ := pz_gi hE 4 2147483648 2147484448 (Nat.le_of_ble_eq_true rfl) rfl
  have c_next : ay_at hp 173 13 = some (ρ 4) := ay_gfj hE 702 52 19 173 13 ax_m2 (ax_vlq rfl rfl) (ax_vlj rfl rfl)
  have c_at : ay_at hp 173 14 = some (ρ 3) := ay_gfj hE 702 56 15 173 14 ax_m3 (ax_vlq rfl rfl) (ax_vlj rfl rfl)
  have s1 : (ρ 2 / 4 + 2147483648) % 4294967296 + (ρ 3 / 4 + 2147483648) % 4294967296 = (ρ 4 / 4 + 2147483648) % 4294967296 + 2147483648 := pz_gs hE 11 15 19 ax_m4
  obtain ⟨-, F154⟩ : ay_ex hp 173 ∧ ay_ln (ay_at hp 173 14) = pz_at (pz_gt (ρ 0)) (pz_gN (ρ 0)) (pz_p (pz_cF (ρ 0) (ρ 1))) := (ax_XF_lt (x := 154) (Nat.le_of_ble_eq_true rfl)).mp (ax_gx hE (154, [3, 7]) ax_m0)
  rw [c_at] at F154
  obtain ⟨-, F156⟩ : ay_ex hp 173 ∧ ay_ln (ay_at hp 173 13) = pz_nx (pz_gt (ρ 0)) (pz_gN (ρ 0)) (pz_p (pz_cF (ρ 0) (ρ 1))) := (ax_XF_lt (x := 156) (Nat.le_of_ble_eq_true rfl)).mp (ax_gx hE (156, [3, 7]) ax_m1)
  rw [c_next] at F156
  have e1 : ρ 4 / 4 = pz_nx (pz_gt (ρ 0)) (pz_gN (ρ 0)) (pz_p (pz_cf (pz_gt (ρ 0)) (pz_gN (ρ 0)) (ρ 1 / 4))) := F156
  have e2 : ρ 3 / 4 = pz_at (pz_gt (ρ 0)) (pz_gN (ρ 0)) (pz_p (pz_cf (pz_gt (ρ 0)) (pz_gN (ρ 0)) (ρ 1 / 4))) := F154
  refine ⟨(fun y hy => by cases hy), _, List.mem_cons_self, ρ, fun _ _ => rfl, ax_px hE rfl (fun x hx => ?_)⟩
  cases List.mem_singleton.mp hx
  refine (ax_XF_lt (x := 161) (Nat.le_of_ble_eq_true rfl)).mpr ?_
  show pz61 (pz_gt (ρ 0)) (pz_gN (ρ 0)) ((ρ 1) / 4) ((16) / 4)
  refine pz_is_no (Or.inr (Or.inl ?_))
  show pz_nx (pz_gt (ρ 0)) (pz_gN (ρ 0)) (pz_p (pz_cf (pz_gt (ρ 0)) (pz_gN (ρ 0)) (ρ 1 / 4))) - pz_at (pz_gt (ρ 0)) (pz_gN (ρ 0)) (pz_p (pz_cf (pz_gt (ρ 0)) (pz_gN (ρ 0)) (ρ 1 / 4))) ≠ 4
  omega
theorem axq0_is1a_3 : ax_RO ax_wM0 (ax_XM 0) axu0_is1a_3 := axqg_is1a_3 ax_WW0
theorem axqg_is1b_3 {w : ax_W} {b : Nat} (hw : ax_WW w) : ax_RO w (ax_XM b) axu0_is1b_3 := by
  intro ρ hp hE hT
  have j0 : ρ 0 % 4 = 1 := pz_gj hE 0 (Nat.le_of_ble_eq_true rfl) rfl
  have j1 : ρ 1 % 4 = 1 := pz_gj hE 1 (Nat.le_of_ble_eq_true rfl) rfl
  obtain ⟨i2a, i2b, i2c, i2d⟩ := pz_gi hE 2 2147483653 2147484449 (Nat.le_of_ble_eq_true rfl) rfl
  obtain ⟨i3a, i3b, i3c, i3d⟩ := pz_gi hE 3 2147483648 2147484448 (Nat.le_of_ble_eq_true rfl) rfl
  obtain ⟨i4a, i4b, i4c, i4d⟩ := pz_gi hE 4 2147483648 2147484448 (Nat.le_of_ble_eq_true rfl) rfl
  have c_next : ay_at hp 173 13 = some (ρ 4) := ay_gfj hE 702 52 19 173 13 ax_m2 (ax_vlq rfl rfl) (ax_vlj rfl rfl)
  have c_at : ay_at hp 173 14 = some (ρ 3) := ay_gfj hE 702 56 15 173 14 ax_m3 (ax_vlq rfl rfl) (ax_vlj rfl rfl)
  have s1 : (ρ 2 / 4 + 2147483648) % 4294967296 + (ρ 3 / 4 + 2147483648) % 4294967296 = (ρ 4 / 4 + 2147483648) % 4294967296 + 2147483648 := pz_gs hE 11 15 19 ax_m4
  obtain ⟨-, F154⟩ : ay_ex hp 173 ∧ ay_ln (ay_at hp 173 14) = pz_at (pz_gt (ρ 0)) (pz_gN (ρ 0)) (pz_p (pz_cF (ρ 0) (ρ 1))) := (ax_XF_lt (x := 154) (Nat.le_of_ble_eq_true rfl)).mp (ax_gx hE (154, [3, 7]) ax_m0)
  rw [c_at] at F154
  obtain ⟨-, F156⟩ : ay_ex hp 173 ∧ ay_ln (ay_at hp 173 13) = pz_nx (pz_gt (ρ 0)) (pz_gN (ρ 0)) (pz_p (pz_cF (ρ 0) (ρ 1))) := (ax_XF_lt (x := 156) (Nat.le_of_ble_eq_true rfl)).mp (ax_gx hE (156, [3, 7]) ax_m1)
  rw [c_next] at F156
  have e1 : ρ 4 / 4 = pz_nx (pz_gt (ρ 0)) (pz_gN (ρ 0)) (pz_p (pz_cf (pz_gt (ρ 0)) (pz_gN (ρ 0)) (ρ 1 / 4))) := F156
  have e2 : ρ 3 / 4 = pz_at (pz_gt (ρ 0)) (pz_gN (ρ 0)) (pz_p (pz_cf (pz_gt (ρ 0)) (pz_gN (ρ 0)) (ρ 1 / 4))) := F154
  refine ⟨(fun y hy => by cases hy), _, List.mem_cons_self, ρ, fun _ _ => rfl, ax_px hE rfl (fun x hx => ?_)⟩
  cases List.mem_singleton.mp hx
  refine (ax_XF_lt (x := 161) (Nat.le_of_ble_eq_true rfl)).mpr ?_
  show pz61 (pz_gt (ρ 0)) (pz_gN (ρ 0)) ((ρ 1) / 4) ((16) / 4)
  refine pz_is_no (Or.inr (Or.inl ?_))
  show pz_nx (pz_gt (ρ 0)) (pz_gN (ρ 0)) (pz_p (pz_cf (pz_gt (ρ 0)) (pz_gN (ρ 0)) (ρ 1 / 4))) - pz_at (pz_gt (ρ 0)) (pz_gN (ρ 0)) (pz_p (pz_cf (pz_gt (ρ 0)) (pz_gN (ρ 0)) (ρ 1 / 4))) ≠ 4
  omega
theorem axq0_is1b_3 : ax_RO ax_wM0 (ax_XM 0) axu0_is1b_3 := axqg_is1b_3 ax_WW0
theorem axqg_is2_3 {w : ax_W} {b : Nat} (hw : ax_WW w) : ax_RO w (ax_XM b) axu0_is2_3 := by
  intro ρ hp hE hT
  have j0 : ρ 0 % 4 = 1 := pz_gj hE 0 (Nat.le_of_ble_eq_true rfl) rfl
  have j1 : ρ 1 % 4 = 1 := pz_gj hE 1 (Nat.le_of_ble_eq_true rfl) rfl
  obtain ⟨i2a, i2b, i2c, i2d⟩ := pz_gi hE 2 2147483652 2147483652 (Nat.le_of_ble_eq_true rfl) rfl
  obtain ⟨i3a, i3b, i3c, i3d⟩ := pz_gi hE 3 2147483648 2147484448 (Nat.le_of_ble_eq_true rfl) rfl
  obtain ⟨i4a, i4b, i4c, i4d⟩ := pz_gi hE 4 2147483648 2147484448 (Nat.le_of_ble_eq_true rfl) rfl
  have c_next : ay_at hp 173 13 = some (ρ 4) := ay_gfj hE 702 52 19 173 13 ax_m3 (ax_vlq rfl rfl) (ax_vlj rfl rfl)
  have c_at : ay_at hp 173 14 = some (ρ 3) := ay_gfj hE 702 56 15 173 14 ax_m4 (ax_vlq rfl rfl) (ax_vlj rfl rfl)
  have s1 : (ρ 2 / 4 + 2147483648) % 4294967296 + (ρ 3 / 4 + 2147483648) % 4294967296 = (ρ 4 / 4 + 2147483648) % 4294967296 + 2147483648 := pz_gs hE 11 15 19 ax_m5
  have F168 : pz_kd (pz_gt (ρ 0)) (pz_gN (ρ 0)) (pz_p (pz_cF (ρ 0) (ρ 1))) = (4) / 4 := (ax_XF_lt (x := 168) (Nat.le_of_ble_eq_true rfl)).mp (ax_gx hE (168, [3, 7, 4]) ax_m0)
  obtain ⟨-, F154⟩ : ay_ex hp 173 ∧ ay_ln (ay_at hp 173 14) = pz_at (pz_gt (ρ 0)) (pz_gN (ρ 0)) (pz_p (pz_cF (ρ 0) (ρ 1))) := (ax_XF_lt (x := 154) (Nat.le_of_ble_eq_true rfl)).mp (ax_gx hE (154, [3, 7]) ax_m1)
  rw [c_at] at F154
  obtain ⟨-, F156⟩ : ay_ex hp 173 ∧ ay_ln (ay_at hp 173 13) = pz_nx (pz_gt (ρ 0)) (pz_gN (ρ 0)) (pz_p (pz_cF (ρ 0) (ρ 1))) := (ax_XF_lt (x := 156) (Nat.le_of_ble_eq_true rfl)).mp (ax_gx hE (156, [3, 7]) ax_m2)
  rw [c_next] at F156
  have e1 : ρ 4 / 4 = pz_nx (pz_gt (ρ 0)) (pz_gN (ρ 0)) (pz_p (pz_cf (pz_gt (ρ 0)) (pz_gN (ρ 0)) (ρ 1 / 4))) := F156
  have e2 : ρ 3 / 4 = pz_at (pz_gt (ρ 0)) (pz_gN (ρ 0)) (pz_p (pz_cf (pz_gt (ρ 0)) (pz_gN (ρ 0)) (ρ 1 / 4))) := F154
  refine ⟨(fun y hy => by cases hy), _, List.mem_cons_self, ρ, fun _ _ => rfl, ax_px hE rfl (fun x hx => ?_)⟩
  cases List.mem_singleton.mp hx
  refine (ax_XF_lt (x := 212) (Nat.le_of_ble_eq_true rfl)).mpr ?_
  show pz_x62 (ρ 0) (ρ 1) (4016) (0)
  refine ⟨F168, ?_, fun j hj => absurd (show j < 0 from hj) (by omega)⟩
  show pz_nx (pz_gt (ρ 0)) (pz_gN (ρ 0)) (pz_p (pz_cf (pz_gt (ρ 0)) (pz_gN (ρ 0)) (ρ 1 / 4))) - pz_at (pz_gt (ρ 0)) (pz_gN (ρ 0)) (pz_p (pz_cf (pz_gt (ρ 0)) (pz_gN (ρ 0)) (ρ 1 / 4))) = 4
  omega
theorem axq0_is2_3 : ax_RO ax_wM0 (ax_XM 0) axu0_is2_3 := axqg_is2_3 ax_WW0
theorem axqg_is3_3_0 {w : ax_W} {b : Nat} (hw : ax_WW w) : ax_RO w (ax_XM b) axu0_is3_3_0 := by
  intro ρ hp hE hT
  have j0 : ρ 0 % 4 = 1 := pz_gj hE 0 (Nat.le_of_ble_eq_true rfl) rfl
  have j1 : ρ 1 % 4 = 1 := pz_gj hE 1 (Nat.le_of_ble_eq_true rfl) rfl
  obtain ⟨i2a, i2b, i2c, i2d⟩ := pz_gi hE 2 2147483648 2147484448 (Nat.le_of_ble_eq_true rfl) rfl
  obtain ⟨i3a, i3b, i3c, i3d⟩ := pz_gi hE 3 0 4294967295 (Nat.le_of_ble_eq_true rfl) rfl
  obtain ⟨i4a, i4b, i4c, i4d⟩ := pz_gi hE 4 2147483762 2147483762 (Nat.le_of_ble_eq_true rfl) rfl
  have c_at : ay_at hp 173 14 = some (ρ 2) := ay_gfj hE 702 56 11 173 14 ax_m2 (ax_vlq rfl rfl) (ax_vlj rfl rfl)
  have s1 : (ρ 2 / 4 + 2147483648) % 4294967296 + (0 / 4 + 2147483648) % 4294967296 = (ρ 3 / 4 + 2147483648) % 4294967296 + 2147483648 := pz_gs hE 11 0 15 ax_m3
  have c_tape : ay_at hp 183 (ρ 3 / 4) = some (ρ 4) := ay_gf hE 742 15 19 183 ax_m4 (ax_vlq rfl rfl)
  obtain ⟨-, -, F131⟩ : ay_ex hp 173 ∧ ay_ex hp 183 ∧ pz_x30 (ρ 0) (ay_at hp 173 12) (ay_at hp 183) := (ax_XF_lt (x := 131) (Nat.le_of_ble_eq_true rfl)).mp (ax_gx hE (131, [3]) ax_m0)
  obtain ⟨-, F154⟩ : ay_ex hp 173 ∧ ay_ln (ay_at hp 173 14) = pz_at (pz_gt (ρ 0)) (pz_gN (ρ 0)) (pz_p (pz_cF (ρ 0) (ρ 1))) := (ax_XF_lt (x := 154) (Nat.le_of_ble_eq_true rfl)).mp (ax_gx hE (154, [3, 7]) ax_m1)
  rw [c_at] at F154
  have F212 : pz_x62 (ρ 0) (ρ 1) (4016) (0) := (ax_XF_lt (x := 212) (Nat.le_of_ble_eq_true rfl)).mp (ax_gx hE (212, [3, 7, 4016, 0]) ax_m5)
  have ep : ρ 2 / 4 = pz_at (pz_gt (ρ 0)) (pz_gN (ρ 0)) (pz_p (pz_cf (pz_gt (ρ 0)) (pz_gN (ρ 0)) (ρ 1 / 4))) := F154
  have hw : pz_at (pz_gt (ρ 0)) (pz_gN (ρ 0)) (pz_p (pz_cf (pz_gt (ρ 0)) (pz_gN (ρ 0)) (ρ 1 / 4))) < pz_gN (ρ 0) ∧ pz_nx (pz_gt (ρ 0)) (pz_gN (ρ 0)) (pz_p (pz_cf (pz_gt (ρ 0)) (pz_gN (ρ 0)) (ρ 1 / 4))) ≤ pz_gN (ρ 0) := pz_wd_le F212.1
  have hln : pz_nx (pz_gt (ρ 0)) (pz_gN (ρ 0)) (pz_p (pz_cf (pz_gt (ρ 0)) (pz_gN (ρ 0)) (ρ 1 / 4))) - pz_at (pz_gt (ρ 0)) (pz_gN (ρ 0)) (pz_p (pz_cf (pz_gt (ρ 0)) (pz_gN (ρ 0)) (ρ 1 / 4))) = 4 := F212.2.1
  have ha1 := (pz_ps 0 800 i2b i2c i2d (by decide))
  have hq1 : ρ 3 / 4 = ρ 2 / 4 + 0 := pz_sm (by omega) (by decide) i3b s1
  have hb := F131.2.2 (ρ 3 / 4) (by have := hw.2; omega)
  rw [c_tape] at hb
  have hb := Option.some.inj hb
  rw [show ρ 3 / 4 = pz_at (pz_gt (ρ 0)) (pz_gN (ρ 0)) (pz_p (pz_cf (pz_gt (ρ 0)) (pz_gN (ρ 0)) (ρ 1 / 4))) + 0 by omega] at hb
  have hb2 : pz_b (pz_gt (ρ 0)) (pz_at (pz_gt (ρ 0)) (pz_gN (ρ 0)) (pz_p (pz_cf (pz_gt (ρ 0)) (pz_gN (ρ 0)) (ρ 1 / 4))) + 0) = ρ 4 / 4 := by omega
  refine ⟨(fun y hy => by cases hy), _, List.mem_cons_self, ρ, fun _ _ => rfl, ax_px hE rfl (fun x hx => ?_)⟩
  cases List.mem_singleton.mp hx
  refine (ax_XF_lt (x := 212) (Nat.le_of_ble_eq_true rfl)).mpr ?_
  show pz_x62 (ρ 0) (ρ 1) (4016) (4)
  refine ⟨F212.1, F212.2.1, fun i hi => ?_⟩
  replace hi : i < 1 := hi
  by_cases h : i < 0
  · exact F212.2.2 i h
  · have e : i = 0 := by omega
    subst e
    exact hb2.trans (show ρ 4 / 4 = 114 by omega)
theorem axq0_is3_3_0 : ax_RO ax_wM0 (ax_XM 0) axu0_is3_3_0 := axqg_is3_3_0 ax_WW0
theorem axqg_is4a_3_0 {w : ax_W} {b : Nat} (hw : ax_WW w) : ax_RO w (ax_XM b) axu0_is4a_3_0 := by
  intro ρ hp hE hT
  have j0 : ρ 0 % 4 = 1 := pz_gj hE 0 (Nat.le_of_ble_eq_true rfl) rfl
  have j1 : ρ 1 % 4 = 1 := pz_gj hE 1 (Nat.le_of_ble_eq_true rfl) rfl
  obtain ⟨i2a, i2b, i2c, i2d⟩ := pz_gi hE 2 2147483648 2147484448 (Nat.le_of_ble_eq_true rfl) rfl
  obtain ⟨i3a, i3b, i3c, i3d⟩ := pz_gi hE 3 0 4294967295 (Nat.le_of_ble_eq_true rfl) rfl
  obtain ⟨i4a, i4b, i4c, i4d⟩ := pz_gi hE 4 2147483520 2147483761 (Nat.le_of_ble_eq_true rfl) rfl
  have c_at : ay_at hp 173 14 = some (ρ 2) := ay_gfj hE 702 56 11 173 14 ax_m2 (ax_vlq rfl rfl) (ax_vlj rfl rfl)
  have s1 : (ρ 2 / 4 + 2147483648) % 4294967296 + (0 / 4 + 2147483648) % 4294967296 = (ρ 3 / 4 + 2147483648) % 4294967296 + 2147483648 := pz_gs hE 11 0 15 ax_m3
  have c_tape : ay_at hp 183 (ρ 3 / 4) = some (ρ 4) := ay_gf hE 742 15 19 183 ax_m4 (ax_vlq rfl rfl)
  obtain ⟨-, -, F131⟩ : ay_ex hp 173 ∧ ay_ex hp 183 ∧ pz_x30 (ρ 0) (ay_at hp 173 12) (ay_at hp 183) := (ax_XF_lt (x := 131) (Nat.le_of_ble_eq_true rfl)).mp (ax_gx hE (131, [3]) ax_m0)
  obtain ⟨-, F154⟩ : ay_ex hp 173 ∧ ay_ln (ay_at hp 173 14) = pz_at (pz_gt (ρ 0)) (pz_gN (ρ 0)) (pz_p (pz_cF (ρ 0) (ρ 1))) := (ax_XF_lt (x := 154) (Nat.le_of_ble_eq_true rfl)).mp (ax_gx hE (154, [3, 7]) ax_m1)
  rw [c_at] at F154
  have F212 : pz_x62 (ρ 0) (ρ 1) (4016) (0) := (ax_XF_lt (x := 212) (Nat.le_of_ble_eq_true rfl)).mp (ax_gx hE (212, [3, 7, 4016, 0]) ax_m5)
  have ep : ρ 2 / 4 = pz_at (pz_gt (ρ 0)) (pz_gN (ρ 0)) (pz_p (pz_cf (pz_gt (ρ 0)) (pz_gN (ρ 0)) (ρ 1 / 4))) := F154
  have hw : pz_at (pz_gt (ρ 0)) (pz_gN (ρ 0)) (pz_p (pz_cf (pz_gt (ρ 0)) (pz_gN (ρ 0)) (ρ 1 / 4))) < pz_gN (ρ 0) ∧ pz_nx (pz_gt (ρ 0)) (pz_gN (ρ 0)) (pz_p (pz_cf (pz_gt (ρ 0)) (pz_gN (ρ 0)) (ρ 1 / 4))) ≤ pz_gN (ρ 0) := pz_wd_le F212.1
  have hln : pz_nx (pz_gt (ρ 0)) (pz_gN (ρ 0)) (pz_p (pz_cf (pz_gt (ρ 0)) (pz_gN (ρ 0)) (ρ 1 / 4))) - pz_at (pz_gt (ρ 0)) (pz_gN (ρ 0)) (pz_p (pz_cf (pz_gt (ρ 0)) (pz_gN (ρ 0)) (ρ 1 / 4))) = 4 := F212.2.1
  have ha1 := (pz_ps 0 800 i2b i2c i2d (by decide))
  have hq1 : ρ 3 / 4 = ρ 2 / 4 + 0 := pz_sm (by omega) (by decide) i3b s1
  have hb := F131.2.2 (ρ 3 / 4) (by have := hw.2; omega)
  rw [c_tape] at hb
  have hb := Option.some.inj hb
  rw [show ρ 3 / 4 = pz_at (pz_gt (ρ 0)) (pz_gN (ρ 0)) (pz_p (pz_cf (pz_gt (ρ 0)) (pz_gN (ρ 0)) (ρ 1 / 4))) + 0 by omega] at hb
  have hb2 : pz_b (pz_gt (ρ 0)) (pz_at (pz_gt (ρ 0)) (pz_gN (ρ 0)) (pz_p (pz_cf (pz_gt (ρ 0)) (pz_gN (ρ 0)) (ρ 1 / 4))) + 0) = ρ 4 / 4 := by omega
  refine ⟨(fun y hy => by cases hy), _, List.mem_cons_self, ρ, fun _ _ => rfl, ax_px hE rfl (fun x hx => ?_)⟩
  cases List.mem_singleton.mp hx
  refine (ax_XF_lt (x := 161) (Nat.le_of_ble_eq_true rfl)).mpr ?_
  show pz61 (pz_gt (ρ 0)) (pz_gN (ρ 0)) ((ρ 1) / 4) ((16) / 4)
  refine pz_is_no (Or.inr (Or.inr ⟨0, by decide, fun z => ?_⟩))
  have z2 : ρ 4 / 4 = 114 := hb2.symm.trans z
  omega
theorem axq0_is4a_3_0 : ax_RO ax_wM0 (ax_XM 0) axu0_is4a_3_0 := axqg_is4a_3_0 ax_WW0
theorem axqg_is4b_3_0 {w : ax_W} {b : Nat} (hw : ax_WW w) : ax_RO w (ax_XM b) axu0_is4b_3_0 := by
  intro ρ hp hE hT
  have j0 : ρ 0 % 4 = 1 := pz_gj hE 0 (Nat.le_of_ble_eq_true rfl) rfl
  have j1 : ρ 1 % 4 = 1 := pz_gj hE 1 (Nat.le_of_ble_eq_true rfl) rfl
  obtain ⟨i2a, i2b, i2c, i2d⟩ := pz_gi hE 2 2147483648 2147484448 (Nat.le_of_ble_eq_true rfl) rfl
  obtain ⟨i3a, i3b, i3c, i3d⟩ := pz_gi hE 3 0 4294967295 (Nat.le_of_ble_eq_true rfl) rfl
  obtain ⟨i4a, i4b, i4c, i4d⟩ := pz_gi hE 4 2147483763 2147483775 (Nat.le_of_ble_eq_true rfl) rfl
  have c_at : ay_at hp 173 14 = some (ρ 2) := ay_gfj hE 702 56 11 173 14 ax_m2 (ax_vlq rfl rfl) (ax_vlj rfl rfl)
  have s1 : (ρ 2 / 4 + 2147483648) % 4294967296 + (0 / 4 + 2147483648) % 4294967296 = (ρ 3 / 4 + 2147483648) % 4294967296 + 2147483648 := pz_gs hE 11 0 15 ax_m3
  have c_tape : ay_at hp 183 (ρ 3 / 4) = some (ρ 4) := ay_gf hE 742 15 19 183 ax_m4 (ax_vlq rfl rfl)
  obtain ⟨-, -, F131⟩ : ay_ex hp 173 ∧ ay_ex hp 183 ∧ pz_x30 (ρ 0) (ay_at hp 173 12) (ay_at hp 183) := (ax_XF_lt (x := 131) (Nat.le_of_ble_eq_true rfl)).mp (ax_gx hE (131, [3]) ax_m0)
  obtain ⟨-, F154⟩ : ay_ex hp 173 ∧ ay_ln (ay_at hp 173 14) = pz_at (pz_gt (ρ 0)) (pz_gN (ρ 0)) (pz_p (pz_cF (ρ 0) (ρ 1))) := (ax_XF_lt (x := 154) (Nat.le_of_ble_eq_true rfl)).mp (ax_gx hE (154, [3, 7]) ax_m1)
  rw [c_at] at F154
  have F212 : pz_x62 (ρ 0) (ρ 1) (4016) (0) := (ax_XF_lt (x := 212) (Nat.le_of_ble_eq_true rfl)).mp (ax_gx hE (212, [3, 7, 4016, 0]) ax_m5)
  have ep : ρ 2 / 4 = pz_at (pz_gt (ρ 0)) (pz_gN (ρ 0)) (pz_p (pz_cf (pz_gt (ρ 0)) (pz_gN (ρ 0)) (ρ 1 / 4))) := F154
  have hw : pz_at (pz_gt (ρ 0)) (pz_gN (ρ 0)) (pz_p (pz_cf (pz_gt (ρ 0)) (pz_gN (ρ 0)) (ρ 1 / 4))) < pz_gN (ρ 0) ∧ pz_nx (pz_gt (ρ 0)) (pz_gN (ρ 0)) (pz_p (pz_cf (pz_gt (ρ 0)) (pz_gN (ρ 0)) (ρ 1 / 4))) ≤ pz_gN (ρ 0) := pz_wd_le F212.1
  have hln : pz_nx (pz_gt (ρ 0)) (pz_gN (ρ 0)) (pz_p (pz_cf (pz_gt (ρ 0)) (pz_gN (ρ 0)) (ρ 1 / 4))) - pz_at (pz_gt (ρ 0)) (pz_gN (ρ 0)) (pz_p (pz_cf (pz_gt (ρ 0)) (pz_gN (ρ 0)) (ρ 1 / 4))) = 4 := F212.2.1
  have ha1 := (pz_ps 0 800 i2b i2c i2d (by decide))
  have hq1 : ρ 3 / 4 = ρ 2 / 4 + 0 := pz_sm (by omega) (by decide) i3b s1
  have hb := F131.2.2 (ρ 3 / 4) (by have := hw.2; omega)
  rw [c_tape] at hb
  have hb := Option.some.inj hb
  rw [show ρ 3 / 4 = pz_at (pz_gt (ρ 0)) (pz_gN (ρ 0)) (pz_p (pz_cf (pz_gt (ρ 0)) (pz_gN (ρ 0)) (ρ 1 / 4))) + 0 by omega] at hb
  have hb2 : pz_b (pz_gt (ρ 0)) (pz_at (pz_gt (ρ 0)) (pz_gN (ρ 0)) (pz_p (pz_cf (pz_gt (ρ 0)) (pz_gN (ρ 0)) (ρ 1 / 4))) + 0) = ρ 4 / 4 := by omega
  refine ⟨(fun y hy => by cases hy), _, List.mem_cons_self, ρ, fun _ _ => rfl, ax_px hE rfl (fun x hx => ?_)⟩
  cases List.mem_singleton.mp hx
  refine (ax_XF_lt (x := 161) (Nat.le_of_ble_eq_true rfl)).mpr ?_
  show pz61 (pz_gt (ρ 0)) (pz_gN (ρ 0)) ((ρ 1) / 4) ((16) / 4)
  refine pz_is_no (Or.inr (Or.inr ⟨0, by decide, fun z => ?_⟩))
  have z2 : ρ 4 / 4 = 114 := hb2.symm.trans z
  omega
theorem axq0_is4b_3_0 : ax_RO ax_wM0 (ax_XM 0) axu0_is4b_3_0 := axqg_is4b_3_0 ax_WW0
theorem axqg_is3_3_1 {w : ax_W} {b : Nat} (hw : ax_WW w) : ax_RO w (ax_XM b) axu0_is3_3_1 := by
  intro ρ hp hE hT
  have j0 : ρ 0 % 4 = 1 := pz_gj hE 0 (Nat.le_of_ble_eq_true rfl) rfl
  have j1 : ρ 1 % 4 = 1 := pz_gj hE 1 (Nat.le_of_ble_eq_true rfl) rfl
  obtain ⟨i2a, i2b, i2c, i2d⟩ := pz_gi hE 2 2147483648 2147484448 (Nat.le_of_ble_eq_true rfl) rfl
  obtain ⟨i3a, i3b, i3c, i3d⟩ := pz_gi hE 3 0 4294967295 (Nat.le_of_ble_eq_true rfl) rfl
  obtain ⟨i4a, i4b, i4c, i4d⟩ := pz_gi hE 4 2147483745 2147483745 (Nat.le_of_ble_eq_true rfl) rfl
  have c_at : ay_at hp 173 14 = some (ρ 2) := ay_gfj hE 702 56 11 173 14 ax_m2 (ax_vlq rfl rfl) (ax_vlj rfl rfl)
  have s1 : (ρ 2 / 4 + 2147483648) % 4294967296 + (4 / 4 + 2147483648) % 4294967296 = (ρ 3 / 4 + 2147483648) % 4294967296 + 2147483648 := pz_gs hE 11 4 15 ax_m3
  have c_tape : ay_at hp 183 (ρ 3 / 4) = some (ρ 4) := ay_gf hE 742 15 19 183 ax_m4 (ax_vlq rfl rfl)
  obtain ⟨-, -, F131⟩ : ay_ex hp 173 ∧ ay_ex hp 183 ∧ pz_x30 (ρ 0) (ay_at hp 173 12) (ay_at hp 183) := (ax_XF_lt (x := 131) (Nat.le_of_ble_eq_true rfl)).mp (ax_gx hE (131, [3]) ax_m0)
  obtain ⟨-, F154⟩ : ay_ex hp 173 ∧ ay_ln (ay_at hp 173 14) = pz_at (pz_gt (ρ 0)) (pz_gN (ρ 0)) (pz_p (pz_cF (ρ 0) (ρ 1))) := (ax_XF_lt (x := 154) (Nat.le_of_ble_eq_true rfl)).mp (ax_gx hE (154, [3, 7]) ax_m1)
  rw [c_at] at F154
  have F212 : pz_x62 (ρ 0) (ρ 1) (4016) (4) := (ax_XF_lt (x := 212) (Nat.le_of_ble_eq_true rfl)).mp (ax_gx hE (212, [3, 7, 4016, 4]) ax_m5)
  have ep : ρ 2 / 4 = pz_at (pz_gt (ρ 0)) (pz_gN (ρ 0)) (pz_p (pz_cf (pz_gt (ρ 0)) (pz_gN (ρ 0)) (ρ 1 / 4))) := F154
  have hw : pz_at (pz_gt (ρ 0)) (pz_gN (ρ 0)) (pz_p (pz_cf (pz_gt (ρ 0)) (pz_gN (ρ 0)) (ρ 1 / 4))) < pz_gN (ρ 0) ∧ pz_nx (pz_gt (ρ 0)) (pz_gN (ρ 0)) (pz_p (pz_cf (pz_gt (ρ 0)) (pz_gN (ρ 0)) (ρ 1 / 4))) ≤ pz_gN (ρ 0) := pz_wd_le F212.1
  have hln : pz_nx (pz_gt (ρ 0)) (pz_gN (ρ 0)) (pz_p (pz_cf (pz_gt (ρ 0)) (pz_gN (ρ 0)) (ρ 1 / 4))) - pz_at (pz_gt (ρ 0)) (pz_gN (ρ 0)) (pz_p (pz_cf (pz_gt (ρ 0)) (pz_gN (ρ 0)) (ρ 1 / 4))) = 4 := F212.2.1
  have ha1 := (pz_ps 0 800 i2b i2c i2d (by decide))
  have hq1 : ρ 3 / 4 = ρ 2 / 4 + 1 := pz_sm (by omega) (by decide) i3b s1
  have hb := F131.2.2 (ρ 3 / 4) (by have := hw.2; omega)
  rw [c_tape] at hb
  have hb := Option.some.inj hb
  rw [show ρ 3 / 4 = pz_at (pz_gt (ρ 0)) (pz_gN (ρ 0)) (pz_p (pz_cf (pz_gt (ρ 0)) (pz_gN (ρ 0)) (ρ 1 / 4))) + 1 by omega] at hb
  have hb2 : pz_b (pz_gt (ρ 0)) (pz_at (pz_gt (ρ 0)) (pz_gN (ρ 0)) (pz_p (pz_cf (pz_gt (ρ 0)) (pz_gN (ρ 0)) (ρ 1 / 4))) + 1) = ρ 4 / 4 := by omega
  refine ⟨(fun y hy => by cases hy), _, List.mem_cons_self, ρ, fun _ _ => rfl, ax_px hE rfl (fun x hx => ?_)⟩
  cases List.mem_singleton.mp hx
  refine (ax_XF_lt (x := 212) (Nat.le_of_ble_eq_true rfl)).mpr ?_
  show pz_x62 (ρ 0) (ρ 1) (4016) (8)
  refine ⟨F212.1, F212.2.1, fun i hi => ?_⟩
  replace hi : i < 2 := hi
  by_cases h : i < 1
  · exact F212.2.2 i h
  · have e : i = 1 := by omega
    subst e
    exact hb2.trans (show ρ 4 / 4 = 97 by omega)
theorem axq0_is3_3_1 : ax_RO ax_wM0 (ax_XM 0) axu0_is3_3_1 := axqg_is3_3_1 ax_WW0
theorem axqg_is4a_3_1 {w : ax_W} {b : Nat} (hw : ax_WW w) : ax_RO w (ax_XM b) axu0_is4a_3_1 := by
  intro ρ hp hE hT
  have j0 : ρ 0 % 4 = 1 := pz_gj hE 0 (Nat.le_of_ble_eq_true rfl) rfl
  have j1 : ρ 1 % 4 = 1 := pz_gj hE 1 (Nat.le_of_ble_eq_true rfl) rfl
  obtain ⟨i2a, i2b, i2c, i2d⟩ := pz_gi hE 2 2147483648 2147484448 (Nat.le_of_ble_eq_true rfl) rfl
  obtain ⟨i3a, i3b, i3c, i3d⟩ := pz_gi hE 3 0 4294967295 (Nat.le_of_ble_eq_true rfl) rfl
  obtain ⟨i4a, i4b, i4c, i4d⟩ := pz_gi hE 4 2147483520 2147483744 (Nat.le_of_ble_eq_true rfl) rfl
  have c_at : ay_at hp 173 14 = some (ρ 2) := ay_gfj hE 702 56 11 173 14 ax_m2 (ax_vlq rfl rfl) (ax_vlj rfl rfl)
  have s1 : (ρ 2 / 4 + 2147483648) % 4294967296 + (4 / 4 + 2147483648) % 4294967296 = (ρ 3 / 4 + 2147483648) % 4294967296 + 2147483648 := pz_gs hE 11 4 15 ax_m3
  have c_tape : ay_at hp 183 (ρ 3 / 4) = some (ρ 4) := ay_gf hE 742 15 19 183 ax_m4 (ax_vlq rfl rfl)
  obtain ⟨-, -, F131⟩ : ay_ex hp 173 ∧ ay_ex hp 183 ∧ pz_x30 (ρ 0) (ay_at hp 173 12) (ay_at hp 183) := (ax_XF_lt (x := 131) (Nat.le_of_ble_eq_true rfl)).mp (ax_gx hE (131, [3]) ax_m0)
  obtain ⟨-, F154⟩ : ay_ex hp 173 ∧ ay_ln (ay_at hp 173 14) = pz_at (pz_gt (ρ 0)) (pz_gN (ρ 0)) (pz_p (pz_cF (ρ 0) (ρ 1))) := (ax_XF_lt (x := 154) (Nat.le_of_ble_eq_true rfl)).mp (ax_gx hE (154, [3, 7]) ax_m1)
  rw [c_at] at F154
  have F212 : pz_x62 (ρ 0) (ρ 1) (4016) (4) := (ax_XF_lt (x := 212) (Nat.le_of_ble_eq_true rfl)).mp (ax_gx hE (212, [3, 7, 4016, 4]) ax_m5)
  have ep : ρ 2 / 4 = pz_at (pz_gt (ρ 0)) (pz_gN (ρ 0)) (pz_p (pz_cf (pz_gt (ρ 0)) (pz_gN (ρ 0)) (ρ 1 / 4))) := F154
  have hw : pz_at (pz_gt (ρ 0)) (pz_gN (ρ 0)) (pz_p (pz_cf (pz_gt (ρ 0)) (pz_gN (ρ 0)) (ρ 1 / 4))) < pz_gN (ρ 0) ∧ pz_nx (pz_gt (ρ 0)) (pz_gN (ρ 0)) (pz_p (pz_cf (pz_gt (ρ 0)) (pz_gN (ρ 0)) (ρ 1 / 4))) ≤ pz_gN (ρ 0) := pz_wd_le F212.1
  have hln : pz_nx (pz_gt (ρ 0)) (pz_gN (ρ 0)) (pz_p (pz_cf (pz_gt (ρ 0)) (pz_gN (ρ 0)) (ρ 1 / 4))) - pz_at (pz_gt (ρ 0)) (pz_gN (ρ 0)) (pz_p (pz_cf (pz_gt (ρ 0)) (pz_gN (ρ 0)) (ρ 1 / 4))) = 4 := F212.2.1
  have ha1 := (pz_ps 0 800 i2b i2c i2d (by decide))
  have hq1 : ρ 3 / 4 = ρ 2 / 4 + 1 := pz_sm (by omega) (by decide) i3b s1
  have hb := F131.2.2 (ρ 3 / 4) (by have := hw.2; omega)
  rw [c_tape] at hb
  have hb := Option.some.inj hb
  rw [show ρ 3 / 4 = pz_at (pz_gt (ρ 0)) (pz_gN (ρ 0)) (pz_p (pz_cf (pz_gt (ρ 0)) (pz_gN (ρ 0)) (ρ 1 / 4))) + 1 by omega] at hb
  have hb2 : pz_b (pz_gt (ρ 0)) (pz_at (pz_gt (ρ 0)) (pz_gN (ρ 0)) (pz_p (pz_cf (pz_gt (ρ 0)) (pz_gN (ρ 0)) (ρ 1 / 4))) + 1) = ρ 4 / 4 := by omega
  refine ⟨(fun y hy => by cases hy), _, List.mem_cons_self, ρ, fun _ _ => rfl, ax_px hE rfl (fun x hx => ?_)⟩
  cases List.mem_singleton.mp hx
  refine (ax_XF_lt (x := 161) (Nat.le_of_ble_eq_true rfl)).mpr ?_
  show pz61 (pz_gt (ρ 0)) (pz_gN (ρ 0)) ((ρ 1) / 4) ((16) / 4)
  refine pz_is_no (Or.inr (Or.inr ⟨1, by decide, fun z => ?_⟩))
  have z2 : ρ 4 / 4 = 97 := hb2.symm.trans z
  omega
theorem axq0_is4a_3_1 : ax_RO ax_wM0 (ax_XM 0) axu0_is4a_3_1 := axqg_is4a_3_1 ax_WW0
theorem axqg_is4b_3_1 {w : ax_W} {b : Nat} (hw : ax_WW w) : ax_RO w (ax_XM b) axu0_is4b_3_1 := by
  intro ρ hp hE hT
  have j0 : ρ 0 % 4 = 1 := pz_gj hE 0 (Nat.le_of_ble_eq_true rfl) rfl
  have j1 : ρ 1 % 4 = 1 := pz_gj hE 1 (Nat.le_of_ble_eq_true rfl) rfl
  obtain ⟨i2a, i2b, i2c, i2d⟩ := pz_gi hE 2 2147483648 2147484448 (Nat.le_of_ble_eq_true rfl) rfl
  obtain ⟨i3a, i3b, i3c, i3d⟩ := pz_gi hE 3 0 4294967295 (Nat.le_of_ble_eq_true rfl) rfl
  obtain ⟨i4a, i4b, i4c, i4d⟩ := pz_gi hE 4 2147483746 2147483775 (Nat.le_of_ble_eq_true rfl) rfl
  have c_at : ay_at hp 173 14 = some (ρ 2) := ay_gfj hE 702 56 11 173 14 ax_m2 (ax_vlq rfl rfl) (ax_vlj rfl rfl)
  have s1 : (ρ 2 / 4 + 2147483648) % 4294967296 + (4 / 4 + 2147483648) % 4294967296 = (ρ 3 / 4 + 2147483648) % 4294967296 + 2147483648 := pz_gs hE 11 4 15 ax_m3
  have c_tape : ay_at hp 183 (ρ 3 / 4) = some (ρ 4) := ay_gf hE 742 15 19 183 ax_m4 (ax_vlq rfl rfl)
  obtain ⟨-, -, F131⟩ : ay_ex hp 173 ∧ ay_ex hp 183 ∧ pz_x30 (ρ 0) (ay_at hp 173 12) (ay_at hp 183) := (ax_XF_lt (x := 131) (Nat.le_of_ble_eq_true rfl)).mp (ax_gx hE (131, [3]) ax_m0)
  obtain ⟨-, F154⟩ : ay_ex hp 173 ∧ ay_ln (ay_at hp 173 14) = pz_at (pz_gt (ρ 0)) (pz_gN (ρ 0)) (pz_p (pz_cF (ρ 0) (ρ 1))) := (ax_XF_lt (x := 154) (Nat.le_of_ble_eq_true rfl)).mp (ax_gx hE (154, [3, 7]) ax_m1)
  rw [c_at] at F154
  have F212 : pz_x62 (ρ 0) (ρ 1) (4016) (4) := (ax_XF_lt (x := 212) (Nat.le_of_ble_eq_true rfl)).mp (ax_gx hE (212, [3, 7, 4016, 4]) ax_m5)
  have ep : ρ 2 / 4 = pz_at (pz_gt (ρ 0)) (pz_gN (ρ 0)) (pz_p (pz_cf (pz_gt (ρ 0)) (pz_gN (ρ 0)) (ρ 1 / 4))) := F154
  have hw : pz_at (pz_gt (ρ 0)) (pz_gN (ρ 0)) (pz_p (pz_cf (pz_gt (ρ 0)) (pz_gN (ρ 0)) (ρ 1 / 4))) < pz_gN (ρ 0) ∧ pz_nx (pz_gt (ρ 0)) (pz_gN (ρ 0)) (pz_p (pz_cf (pz_gt (ρ 0)) (pz_gN (ρ 0)) (ρ 1 / 4))) ≤ pz_gN (ρ 0) := pz_wd_le F212.1
  have hln : pz_nx (pz_gt (ρ 0)) (pz_gN (ρ 0)) (pz_p (pz_cf (pz_gt (ρ 0)) (pz_gN (ρ 0)) (ρ 1 / 4))) - pz_at (pz_gt (ρ 0)) (pz_gN (ρ 0)) (pz_p (pz_cf (pz_gt (ρ 0)) (pz_gN (ρ 0)) (ρ 1 / 4))) = 4 := F212.2.1
  have ha1 := (pz_ps 0 800 i2b i2c i2d (by decide))
  have hq1 : ρ 3 / 4 = ρ 2 / 4 + 1 := pz_sm (by omega) (by decide) i3b s1
  have hb := F131.2.2 (ρ 3 / 4) (by have := hw.2; omega)
  rw [c_tape] at hb
  have hb := Option.some.inj hb
  rw [show ρ 3 / 4 = pz_at (pz_gt (ρ 0)) (pz_gN (ρ 0)) (pz_p (pz_cf (pz_gt (ρ 0)) (pz_gN (ρ 0)) (ρ 1 / 4))) + 1 by omega] at hb
  have hb2 : pz_b (pz_gt (ρ 0)) (pz_at (pz_gt (ρ 0)) (pz_gN (ρ 0)) (pz_p (pz_cf (pz_gt (ρ 0)) (pz_gN (ρ 0)) (ρ 1 / 4))) + 1) = ρ 4 / 4 := by omega
  refine ⟨(fun y hy => by cases hy), _, List.mem_cons_self, ρ, fun _ _ => rfl, ax_px hE rfl (fun x hx => ?_)⟩
  cases List.mem_singleton.mp hx
  refine (ax_XF_lt (x := 161) (Nat.le_of_ble_eq_true rfl)).mpr ?_
  show pz61 (pz_gt (ρ 0)) (pz_gN (ρ 0)) ((ρ 1) / 4) ((16) / 4)
  refine pz_is_no (Or.inr (Or.inr ⟨1, by decide, fun z => ?_⟩))
  have z2 : ρ 4 / 4 = 97 := hb2.symm.trans z
  omega
theorem axq0_is4b_3_1 : ax_RO ax_wM0 (ax_XM 0) axu0_is4b_3_1 := axqg_is4b_3_1 ax_WW0
theorem axqg_is3_3_2 {w : ax_W} {b : Nat} (hw : ax_WW w) : ax_RO w (ax_XM b) axu0_is3_3_2 := by
  intro ρ hp hE hT
  have j0 : ρ 0 % 4 = 1 := pz_gj hE 0 (Nat.le_of_ble_eq_true rfl) rfl
  have j1 : ρ 1 % 4 = 1 := pz_gj hE 1 (Nat.le_of_ble_eq_true rfl) rfl
  obtain ⟨i2a, i2b, i2c, i2d⟩ := pz_gi hE 2 2147483648 2147484448 (Nat.le_of_ble_eq_true rfl) rfl
  obtain ⟨i3a, i3b, i3c, i3d⟩ := pz_gi hE 3 0 4294967295 (Nat.le_of_ble_eq_true rfl) rfl
  obtain ⟨i4a, i4b, i4c, i4d⟩ := pz_gi hE 4 2147483758 2147483758 (Nat.le_of_ble_eq_true rfl) rfl
  have c_at : ay_at hp 173 14 = some (ρ 2) := ay_gfj hE 702 56 11 173 14 ax_m2 (ax_vlq rfl rfl) (ax_vlj rfl rfl)
  have s1 : (ρ 2 / 4 + 2147483648) % 4294967296 + (8 / 4 + 2147483648) % 4294967296 = (ρ 3 / 4 + 2147483648) % 4294967296 + 2147483648 := pz_gs hE 11 8 15 ax_m3
  have c_tape : ay_at hp 183 (ρ 3 / 4) = some (ρ 4) := ay_gf hE 742 15 19 183 ax_m4 (ax_vlq rfl rfl)
  obtain ⟨-, -, F131⟩ : ay_ex hp 173 ∧ ay_ex hp 183 ∧ pz_x30 (ρ 0) (ay_at hp 173 12) (ay_at hp 183) := (ax_XF_lt (x := 131) (Nat.le_of_ble_eq_true rfl)).mp (ax_gx hE (131, [3]) ax_m0)
  obtain ⟨-, F154⟩ : ay_ex hp 173 ∧ ay_ln (ay_at hp 173 14) = pz_at (pz_gt (ρ 0)) (pz_gN (ρ 0)) (pz_p (pz_cF (ρ 0) (ρ 1))) := (ax_XF_lt (x := 154) (Nat.le_of_ble_eq_true rfl)).mp (ax_gx hE (154, [3, 7]) ax_m1)
  rw [c_at] at F154
  have F212 : pz_x62 (ρ 0) (ρ 1) (4016) (8) := (ax_XF_lt (x := 212) (Nat.le_of_ble_eq_true rfl)).mp (ax_gx hE (212, [3, 7, 4016, 8]) ax_m5)
  have ep : ρ 2 / 4 = pz_at (pz_gt (ρ 0)) (pz_gN (ρ 0)) (pz_p (pz_cf (pz_gt (ρ 0)) (pz_gN (ρ 0)) (ρ 1 / 4))) := F154
  have hw : pz_at (pz_gt (ρ 0)) (pz_gN (ρ 0)) (pz_p (pz_cf (pz_gt (ρ 0)) (pz_gN (ρ 0)) (ρ 1 / 4))) < pz_gN (ρ 0) ∧ pz_nx (pz_gt (ρ 0)) (pz_gN (ρ 0)) (pz_p (pz_cf (pz_gt (ρ 0)) (pz_gN (ρ 0)) (ρ 1 / 4))) ≤ pz_gN (ρ 0) := pz_wd_le F212.1
  have hln : pz_nx (pz_gt (ρ 0)) (pz_gN (ρ 0)) (pz_p (pz_cf (pz_gt (ρ 0)) (pz_gN (ρ 0)) (ρ 1 / 4))) - pz_at (pz_gt (ρ 0)) (pz_gN (ρ 0)) (pz_p (pz_cf (pz_gt (ρ 0)) (pz_gN (ρ 0)) (ρ 1 / 4))) = 4 := F212.2.1
  have ha1 := (pz_ps 0 800 i2b i2c i2d (by decide))
  have hq1 : ρ 3 / 4 = ρ 2 / 4 + 2 := pz_sm (by omega) (by decide) i3b s1
  have hb := F131.2.2 (ρ 3 / 4) (by have := hw.2; omega)
  rw [c_tape] at hb
  have hb := Option.some.inj hb
  rw [show ρ 3 / 4 = pz_at (pz_gt (ρ 0)) (pz_gN (ρ 0)) (pz_p (pz_cf (pz_gt (ρ 0)) (pz_gN (ρ 0)) (ρ 1 / 4))) + 2 by omega] at hb
  have hb2 : pz_b (pz_gt (ρ 0)) (pz_at (pz_gt (ρ 0)) (pz_gN (ρ 0)) (pz_p (pz_cf (pz_gt (ρ 0)) (pz_gN (ρ 0)) (ρ 1 / 4))) + 2) = ρ 4 / 4 := by omega
  refine ⟨(fun y hy => by cases hy), _, List.mem_cons_self, ρ, fun _ _ => rfl, ax_px hE rfl (fun x hx => ?_)⟩
  cases List.mem_singleton.mp hx
  refine (ax_XF_lt (x := 212) (Nat.le_of_ble_eq_true rfl)).mpr ?_
  show pz_x62 (ρ 0) (ρ 1) (4016) (12)
  refine ⟨F212.1, F212.2.1, fun i hi => ?_⟩
  replace hi : i < 3 := hi
  by_cases h : i < 2
  · exact F212.2.2 i h
  · have e : i = 2 := by omega
    subst e
    exact hb2.trans (show ρ 4 / 4 = 110 by omega)
theorem axq0_is3_3_2 : ax_RO ax_wM0 (ax_XM 0) axu0_is3_3_2 := axqg_is3_3_2 ax_WW0
theorem axqg_is4a_3_2 {w : ax_W} {b : Nat} (hw : ax_WW w) : ax_RO w (ax_XM b) axu0_is4a_3_2 := by
  intro ρ hp hE hT
  have j0 : ρ 0 % 4 = 1 := pz_gj hE 0 (Nat.le_of_ble_eq_true rfl) rfl
  have j1 : ρ 1 % 4 = 1 := pz_gj hE 1 (Nat.le_of_ble_eq_true rfl) rfl
  obtain ⟨i2a, i2b, i2c, i2d⟩ := pz_gi hE 2 2147483648 2147484448 (Nat.le_of_ble_eq_true rfl) rfl
  obtain ⟨i3a, i3b, i3c, i3d⟩ := pz_gi hE 3 0 4294967295 (Nat.le_of_ble_eq_true rfl) rfl
  obtain ⟨i4a, i4b, i4c, i4d⟩ := pz_gi hE 4 2147483520 2147483757 (Nat.le_of_ble_eq_true rfl) rfl
  have c_at : ay_at hp 173 14 = some (ρ 2) := ay_gfj hE 702 56 11 173 14 ax_m2 (ax_vlq rfl rfl) (ax_vlj rfl rfl)
  have s1 : (ρ 2 / 4 + 2147483648) % 4294967296 + (8 / 4 + 2147483648) % 4294967296 = (ρ 3 / 4 + 2147483648) % 4294967296 + 2147483648 := pz_gs hE 11 8 15 ax_m3
  have c_tape : ay_at hp 183 (ρ 3 / 4) = some (ρ 4) := ay_gf hE 742 15 19 183 ax_m4 (ax_vlq rfl rfl)
  obtain ⟨-, -, F131⟩ : ay_ex hp 173 ∧ ay_ex hp 183 ∧ pz_x30 (ρ 0) (ay_at hp 173 12) (ay_at hp 183) := (ax_XF_lt (x := 131) (Nat.le_of_ble_eq_true rfl)).mp (ax_gx hE (131, [3]) ax_m0)
  obtain ⟨-, F154⟩ : ay_ex hp 173 ∧ ay_ln (ay_at hp 173 14) = pz_at (pz_gt (ρ 0)) (pz_gN (ρ 0)) (pz_p (pz_cF (ρ 0) (ρ 1))) := (ax_XF_lt (x := 154) (Nat.le_of_ble_eq_true rfl)).mp (ax_gx hE (154, [3, 7]) ax_m1)
  rw [c_at] at F154
  have F212 : pz_x62 (ρ 0) (ρ 1) (4016) (8) := (ax_XF_lt (x := 212) (Nat.le_of_ble_eq_true rfl)).mp (ax_gx hE (212, [3, 7, 4016, 8]) ax_m5)
  have ep : ρ 2 / 4 = pz_at (pz_gt (ρ 0)) (pz_gN (ρ 0)) (pz_p (pz_cf (pz_gt (ρ 0)) (pz_gN (ρ 0)) (ρ 1 / 4))) := F154
  have hw : pz_at (pz_gt (ρ 0)) (pz_gN (ρ 0)) (pz_p (pz_cf (pz_gt (ρ 0)) (pz_gN (ρ 0)) (ρ 1 / 4))) < pz_gN (ρ 0) ∧ pz_nx (pz_gt (ρ 0)) (pz_gN (ρ 0)) (pz_p (pz_cf (pz_gt (ρ 0)) (pz_gN (ρ 0)) (ρ 1 / 4))) ≤ pz_gN (ρ 0) := pz_wd_le F212.1
  have hln : pz_nx (pz_gt (ρ 0)) (pz_gN (ρ 0)) (pz_p (pz_cf (pz_gt (ρ 0)) (pz_gN (ρ 0)) (ρ 1 / 4))) - pz_at (pz_gt (ρ 0)) (pz_gN (ρ 0)) (pz_p (pz_cf (pz_gt (ρ 0)) (pz_gN (ρ 0)) (ρ 1 / 4))) = 4 := F212.2.1
  have ha1 := (pz_ps 0 800 i2b i2c i2d (by decide))
  have hq1 : ρ 3 / 4 = ρ 2 / 4 + 2 := pz_sm (by omega) (by decide) i3b s1
  have hb := F131.2.2 (ρ 3 / 4) (by have := hw.2; omega)
  rw [c_tape] at hb
  have hb := Option.some.inj hb
  rw [show ρ 3 / 4 = pz_at (pz_gt (ρ 0)) (pz_gN (ρ 0)) (pz_p (pz_cf (pz_gt (ρ 0)) (pz_gN (ρ 0)) (ρ 1 / 4))) + 2 by omega] at hb
  have hb2 : pz_b (pz_gt (ρ 0)) (pz_at (pz_gt (ρ 0)) (pz_gN (ρ 0)) (pz_p (pz_cf (pz_gt (ρ 0)) (pz_gN (ρ 0)) (ρ 1 / 4))) + 2) = ρ 4 / 4 := by omega
  refine ⟨(fun y hy => by cases hy), _, List.mem_cons_self, ρ, fun _ _ => rfl, ax_px hE rfl (fun x hx => ?_)⟩
  cases List.mem_singleton.mp hx
  refine (ax_XF_lt (x := 161) (Nat.le_of_ble_eq_true rfl)).mpr ?_
  show pz61 (pz_gt (ρ 0)) (pz_gN (ρ 0)) ((ρ 1) / 4) ((16) / 4)
  refine pz_is_no (Or.inr (Or.inr ⟨2, by decide, fun z => ?_⟩))
  have z2 : ρ 4 / 4 = 110 := hb2.symm.trans z
  omega
theorem axq0_is4a_3_2 : ax_RO ax_wM0 (ax_XM 0) axu0_is4a_3_2 := axqg_is4a_3_2 ax_WW0
theorem axqg_is4b_3_2 {w : ax_W} {b : Nat} (hw : ax_WW w) : ax_RO w (ax_XM b) axu0_is4b_3_2 := by
  intro ρ hp hE hT
  have j0 : ρ 0 % 4 = 1 := pz_gj hE 0 (Nat.le_of_ble_eq_true rfl) rfl
  have j1 : ρ 1 % 4 = 1 := pz_gj hE 1 (Nat.le_of_ble_eq_true rfl) rfl
  obtain ⟨i2a, i2b, i2c, i2d⟩ := pz_gi hE 2 2147483648 2147484448 (Nat.le_of_ble_eq_true rfl) rfl
  obtain ⟨i3a, i3b, i3c, i3d⟩ := pz_gi hE 3 0 4294967295 (Nat.le_of_ble_eq_true rfl) rfl
  obtain ⟨i4a, i4b, i4c, i4d⟩ := pz_gi hE 4 2147483759 2147483775 (Nat.le_of_ble_eq_true rfl) rfl
  have c_at : ay_at hp 173 14 = some (ρ 2) := ay_gfj hE 702 56 11 173 14 ax_m2 (ax_vlq rfl rfl) (ax_vlj rfl rfl)
  have s1 : (ρ 2 / 4 + 2147483648) % 4294967296 + (8 / 4 + 2147483648) % 4294967296 = (ρ 3 / 4 + 2147483648) % 4294967296 + 2147483648 := pz_gs hE 11 8 15 ax_m3
  have c_tape : ay_at hp 183 (ρ 3 / 4) = some (ρ 4) := ay_gf hE 742 15 19 183 ax_m4 (ax_vlq rfl rfl)
  obtain ⟨-, -, F131⟩ : ay_ex hp 173 ∧ ay_ex hp 183 ∧ pz_x30 (ρ 0) (ay_at hp 173 12) (ay_at hp 183) := (ax_XF_lt (x := 131) (Nat.le_of_ble_eq_true rfl)).mp (ax_gx hE (131, [3]) ax_m0)
  obtain ⟨-, F154⟩ : ay_ex hp 173 ∧ ay_ln (ay_at hp 173 14) = pz_at (pz_gt (ρ 0)) (pz_gN (ρ 0)) (pz_p (pz_cF (ρ 0) (ρ 1))) := (ax_XF_lt (x := 154) (Nat.le_of_ble_eq_true rfl)).mp (ax_gx hE (154, [3, 7]) ax_m1)
  rw [c_at] at F154
  have F212 : pz_x62 (ρ 0) (ρ 1) (4016) (8) := (ax_XF_lt (x := 212) (Nat.le_of_ble_eq_true rfl)).mp (ax_gx hE (212, [3, 7, 4016, 8]) ax_m5)
  have ep : ρ 2 / 4 = pz_at (pz_gt (ρ 0)) (pz_gN (ρ 0)) (pz_p (pz_cf (pz_gt (ρ 0)) (pz_gN (ρ 0)) (ρ 1 / 4))) := F154
  have hw : pz_at (pz_gt (ρ 0)) (pz_gN (ρ 0)) (pz_p (pz_cf (pz_gt (ρ 0)) (pz_gN (ρ 0)) (ρ 1 / 4))) < pz_gN (ρ 0) ∧ pz_nx (pz_gt (ρ 0)) (pz_gN (ρ 0)) (pz_p (pz_cf (pz_gt (ρ 0)) (pz_gN (ρ 0)) (ρ 1 / 4))) ≤ pz_gN (ρ 0) := pz_wd_le F212.1
  have hln : pz_nx (pz_gt (ρ 0)) (pz_gN (ρ 0)) (pz_p (pz_cf (pz_gt (ρ 0)) (pz_gN (ρ 0)) (ρ 1 / 4))) - pz_at (pz_gt (ρ 0)) (pz_gN (ρ 0)) (pz_p (pz_cf (pz_gt (ρ 0)) (pz_gN (ρ 0)) (ρ 1 / 4))) = 4 := F212.2.1
  have ha1 := (pz_ps 0 800 i2b i2c i2d (by decide))
  have hq1 : ρ 3 / 4 = ρ 2 / 4 + 2 := pz_sm (by omega) (by decide) i3b s1
  have hb := F131.2.2 (ρ 3 / 4) (by have := hw.2; omega)
  rw [c_tape] at hb
  have hb := Option.some.inj hb
  rw [show ρ 3 / 4 = pz_at (pz_gt (ρ 0)) (pz_gN (ρ 0)) (pz_p (pz_cf (pz_gt (ρ 0)) (pz_gN (ρ 0)) (ρ 1 / 4))) + 2 by omega] at hb
  have hb2 : pz_b (pz_gt (ρ 0)) (pz_at (pz_gt (ρ 0)) (pz_gN (ρ 0)) (pz_p (pz_cf (pz_gt (ρ 0)) (pz_gN (ρ 0)) (ρ 1 / 4))) + 2) = ρ 4 / 4 := by omega
  refine ⟨(fun y hy => by cases hy), _, List.mem_cons_self, ρ, fun _ _ => rfl, ax_px hE rfl (fun x hx => ?_)⟩
  cases List.mem_singleton.mp hx
  refine (ax_XF_lt (x := 161) (Nat.le_of_ble_eq_true rfl)).mpr ?_
  show pz61 (pz_gt (ρ 0)) (pz_gN (ρ 0)) ((ρ 1) / 4) ((16) / 4)
  refine pz_is_no (Or.inr (Or.inr ⟨2, by decide, fun z => ?_⟩))
  have z2 : ρ 4 / 4 = 110 := hb2.symm.trans z
  omega
theorem axq0_is4b_3_2 : ax_RO ax_wM0 (ax_XM 0) axu0_is4b_3_2 := axqg_is4b_3_2 ax_WW0
theorem axqg_is3_3_3 {w : ax_W} {b : Nat} (hw : ax_WW w) : ax_RO w (ax_XM b) axu0_is3_3_3 := by
  intro ρ hp hE hT
  have j0 : ρ 0 % 4 = 1 := pz_gj hE 0 (Nat.le_of_ble_eq_true rfl) rfl
  have j1 : ρ 1 % 4 = 1 := pz_gj hE 1 (Nat.le_of_ble_eq_true rfl) rfl
  obtain ⟨i2a, i2b, i2c, i2d⟩ := pz_gi hE 2 2147483648 2147484448 (Nat.le_of_ble_eq_true rfl) rfl
  obtain ⟨i3a, i3b, i3c, i3d⟩ := pz_gi hE 3 0 4294967295 (Nat.le_of_ble_eq_true rfl) rfl
  obtain ⟨i4a, i4b, i4c, i4d⟩ := pz_gi hE 4 2147483755 2147483755 (Nat.le_of_ble_eq_true rfl) rfl
  have c_at : ay_at hp 173 14 = some (ρ 2) := ay_gfj hE 702 56 11 173 14 ax_m2 (ax_vlq rfl rfl) (ax_vlj rfl rfl)
  have s1 : (ρ 2 / 4 + 2147483648) % 4294967296 + (12 / 4 + 2147483648) % 4294967296 = (ρ 3 / 4 + 2147483648) % 4294967296 + 2147483648 := pz_gs hE 11 12 15 ax_m3
  have c_tape : ay_at hp 183 (ρ 3 / 4) = some (ρ 4) := ay_gf hE 742 15 19 183 ax_m4 (ax_vlq rfl rfl)
  obtain ⟨-, -, F131⟩ : ay_ex hp 173 ∧ ay_ex hp 183 ∧ pz_x30 (ρ 0) (ay_at hp 173 12) (ay_at hp 183) := (ax_XF_lt (x := 131) (Nat.le_of_ble_eq_true rfl)).mp (ax_gx hE (131, [3]) ax_m0)
  obtain ⟨-, F154⟩ : ay_ex hp 173 ∧ ay_ln (ay_at hp 173 14) = pz_at (pz_gt (ρ 0)) (pz_gN (ρ 0)) (pz_p (pz_cF (ρ 0) (ρ 1))) := (ax_XF_lt (x := 154) (Nat.le_of_ble_eq_true rfl)).mp (ax_gx hE (154, [3, 7]) ax_m1)
  rw [c_at] at F154
  have F212 : pz_x62 (ρ 0) (ρ 1) (4016) (12) := (ax_XF_lt (x := 212) (Nat.le_of_ble_eq_true rfl)).mp (ax_gx hE (212, [3, 7, 4016, 12]) ax_m5)
  have ep : ρ 2 / 4 = pz_at (pz_gt (ρ 0)) (pz_gN (ρ 0)) (pz_p (pz_cf (pz_gt (ρ 0)) (pz_gN (ρ 0)) (ρ 1 / 4))) := F154
  have hw : pz_at (pz_gt (ρ 0)) (pz_gN (ρ 0)) (pz_p (pz_cf (pz_gt (ρ 0)) (pz_gN (ρ 0)) (ρ 1 / 4))) < pz_gN (ρ 0) ∧ pz_nx (pz_gt (ρ 0)) (pz_gN (ρ 0)) (pz_p (pz_cf (pz_gt (ρ 0)) (pz_gN (ρ 0)) (ρ 1 / 4))) ≤ pz_gN (ρ 0) := pz_wd_le F212.1
  have hln : pz_nx (pz_gt (ρ 0)) (pz_gN (ρ 0)) (pz_p (pz_cf (pz_gt (ρ 0)) (pz_gN (ρ 0)) (ρ 1 / 4))) - pz_at (pz_gt (ρ 0)) (pz_gN (ρ 0)) (pz_p (pz_cf (pz_gt (ρ 0)) (pz_gN (ρ 0)) (ρ 1 / 4))) = 4 := F212.2.1
  have ha1 := (pz_ps 0 800 i2b i2c i2d (by decide))
  have hq1 : ρ 3 / 4 = ρ 2 / 4 + 3 := pz_sm (by omega) (by decide) i3b s1
  have hb := F131.2.2 (ρ 3 / 4) (by have := hw.2; omega)
  rw [c_tape] at hb
  have hb := Option.some.inj hb
  rw [show ρ 3 / 4 = pz_at (pz_gt (ρ 0)) (pz_gN (ρ 0)) (pz_p (pz_cf (pz_gt (ρ 0)) (pz_gN (ρ 0)) (ρ 1 / 4))) + 3 by omega] at hb
  have hb2 : pz_b (pz_gt (ρ 0)) (pz_at (pz_gt (ρ 0)) (pz_gN (ρ 0)) (pz_p (pz_cf (pz_gt (ρ 0)) (pz_gN (ρ 0)) (ρ 1 / 4))) + 3) = ρ 4 / 4 := by omega
  refine ⟨(fun y hy => by cases hy), _, List.mem_cons_self, ρ, fun _ _ => rfl, ax_px hE rfl (fun x hx => ?_)⟩
  cases List.mem_singleton.mp hx
  refine (ax_XF_lt (x := 212) (Nat.le_of_ble_eq_true rfl)).mpr ?_
  show pz_x62 (ρ 0) (ρ 1) (4016) (16)
  refine ⟨F212.1, F212.2.1, fun i hi => ?_⟩
  replace hi : i < 4 := hi
  by_cases h : i < 3
  · exact F212.2.2 i h
  · have e : i = 3 := by omega
    subst e
    exact hb2.trans (show ρ 4 / 4 = 107 by omega)
theorem axq0_is3_3_3 : ax_RO ax_wM0 (ax_XM 0) axu0_is3_3_3 := axqg_is3_3_3 ax_WW0
theorem axqg_is4a_3_3 {w : ax_W} {b : Nat} (hw : ax_WW w) : ax_RO w (ax_XM b) axu0_is4a_3_3 := by
  intro ρ hp hE hT
  have j0 : ρ 0 % 4 = 1 := pz_gj hE 0 (Nat.le_of_ble_eq_true rfl) rfl
  have j1 : ρ 1 % 4 = 1 := pz_gj hE 1 (Nat.le_of_ble_eq_true rfl) rfl
  obtain ⟨i2a, i2b, i2c, i2d⟩ := pz_gi hE 2 2147483648 2147484448 (Nat.le_of_ble_eq_true rfl) rfl
  obtain ⟨i3a, i3b, i3c, i3d⟩ := pz_gi hE 3 0 4294967295 (Nat.le_of_ble_eq_true rfl) rfl
  obtain ⟨i4a, i4b, i4c, i4d⟩ := pz_gi hE 4 2147483520 2147483754 (Nat.le_of_ble_eq_true rfl) rfl
  have c_at : ay_at hp 173 14 = some (ρ 2) := ay_gfj hE 702 56 11 173 14 ax_m2 (ax_vlq rfl rfl) (ax_vlj rfl rfl)
  have s1 : (ρ 2 / 4 + 2147483648) % 4294967296 + (12 / 4 + 2147483648) % 4294967296 = (ρ 3 / 4 + 2147483648) % 4294967296 + 2147483648 := pz_gs hE 11 12 15 ax_m3
  have c_tape : ay_at hp 183 (ρ 3 / 4) = some (ρ 4) := ay_gf hE 742 15 19 183 ax_m4 (ax_vlq rfl rfl)
  obtain ⟨-, -, F131⟩ : ay_ex hp 173 ∧ ay_ex hp 183 ∧ pz_x30 (ρ 0) (ay_at hp 173 12) (ay_at hp 183) := (ax_XF_lt (x := 131) (Nat.le_of_ble_eq_true rfl)).mp (ax_gx hE (131, [3]) ax_m0)
  obtain ⟨-, F154⟩ : ay_ex hp 173 ∧ ay_ln (ay_at hp 173 14) = pz_at (pz_gt (ρ 0)) (pz_gN (ρ 0)) (pz_p (pz_cF (ρ 0) (ρ 1))) := (ax_XF_lt (x := 154) (Nat.le_of_ble_eq_true rfl)).mp (ax_gx hE (154, [3, 7]) ax_m1)
  rw [c_at] at F154
  have F212 : pz_x62 (ρ 0) (ρ 1) (4016) (12) := (ax_XF_lt (x := 212) (Nat.le_of_ble_eq_true rfl)).mp (ax_gx hE (212, [3, 7, 4016, 12]) ax_m5)
  have ep : ρ 2 / 4 = pz_at (pz_gt (ρ 0)) (pz_gN (ρ 0)) (pz_p (pz_cf (pz_gt (ρ 0)) (pz_gN (ρ 0)) (ρ 1 / 4))) := F154
  have hw : pz_at (pz_gt (ρ 0)) (pz_gN (ρ 0)) (pz_p (pz_cf (pz_gt (ρ 0)) (pz_gN (ρ 0)) (ρ 1 / 4))) < pz_gN (ρ 0) ∧ pz_nx (pz_gt (ρ 0)) (pz_gN (ρ 0)) (pz_p (pz_cf (pz_gt (ρ 0)) (pz_gN (ρ 0)) (ρ 1 / 4))) ≤ pz_gN (ρ 0) := pz_wd_le F212.1
  have hln : pz_nx (pz_gt (ρ 0)) (pz_gN (ρ 0)) (pz_p (pz_cf (pz_gt (ρ 0)) (pz_gN (ρ 0)) (ρ 1 / 4))) - pz_at (pz_gt (ρ 0)) (pz_gN (ρ 0)) (pz_p (pz_cf (pz_gt (ρ 0)) (pz_gN (ρ 0)) (ρ 1 / 4))) = 4 := F212.2.1
  have ha1 := (pz_ps 0 800 i2b i2c i2d (by decide))
  have hq1 : ρ 3 / 4 = ρ 2 / 4 + 3 := pz_sm (by omega) (by decide) i3b s1
  have hb := F131.2.2 (ρ 3 / 4) (by have := hw.2; omega)
  rw [c_tape] at hb
  have hb := Option.some.inj hb
  rw [show ρ 3 / 4 = pz_at (pz_gt (ρ 0)) (pz_gN (ρ 0)) (pz_p (pz_cf (pz_gt (ρ 0)) (pz_gN (ρ 0)) (ρ 1 / 4))) + 3 by omega] at hb
  have hb2 : pz_b (pz_gt (ρ 0)) (pz_at (pz_gt (ρ 0)) (pz_gN (ρ 0)) (pz_p (pz_cf (pz_gt (ρ 0)) (pz_gN (ρ 0)) (ρ 1 / 4))) + 3) = ρ 4 / 4 := by omega
  refine ⟨(fun y hy => by cases hy), _, List.mem_cons_self, ρ, fun _ _ => rfl, ax_px hE rfl (fun x hx => ?_)⟩
  cases List.mem_singleton.mp hx
  refine (ax_XF_lt (x := 161) (Nat.le_of_ble_eq_true rfl)).mpr ?_
  show pz61 (pz_gt (ρ 0)) (pz_gN (ρ 0)) ((ρ 1) / 4) ((16) / 4)
  refine pz_is_no (Or.inr (Or.inr ⟨3, by decide, fun z => ?_⟩))
  have z2 : ρ 4 / 4 = 107 := hb2.symm.trans z
  omega
theorem axq0_is4a_3_3 : ax_RO ax_wM0 (ax_XM 0) axu0_is4a_3_3 := axqg_is4a_3_3 ax_WW0
theorem axqg_is4b_3_3 {w : ax_W} {b : Nat} (hw : ax_WW w) : ax_RO w (ax_XM b) axu0_is4b_3_3 := by
  intro ρ hp hE hT
  have j0 : ρ 0 % 4 = 1 := pz_gj hE 0 (Nat.le_of_ble_eq_true rfl) rfl
  have j1 : ρ 1 % 4 = 1 := pz_gj hE 1 (Nat.le_of_ble_eq_true rfl) rfl
  obtain ⟨i2a, i2b, i2c, i2d⟩ := pz_gi hE 2 2147483648 2147484448 (Nat.le_of_ble_eq_true rfl) rfl
  obtain ⟨i3a, i3b, i3c, i3d⟩ := pz_gi hE 3 0 4294967295 (Nat.le_of_ble_eq_true rfl) rfl
  obtain ⟨i4a, i4b, i4c, i4d⟩ := pz_gi hE 4 2147483756 2147483775 (Nat.le_of_ble_eq_true rfl) rfl
  have c_at : ay_at hp 173 14 = some (ρ 2) := ay_gfj hE 702 56 11 173 14 ax_m2 (ax_vlq rfl rfl) (ax_vlj rfl rfl)
  have s1 : (ρ 2 / 4 + 2147483648) % 4294967296 + (12 / 4 + 2147483648) % 4294967296 = (ρ 3 / 4 + 2147483648) % 4294967296 + 2147483648 := pz_gs hE 11 12 15 ax_m3
  have c_tape : ay_at hp 183 (ρ 3 / 4) = some (ρ 4) := ay_gf hE 742 15 19 183 ax_m4 (ax_vlq rfl rfl)
  obtain ⟨-, -, F131⟩ : ay_ex hp 173 ∧ ay_ex hp 183 ∧ pz_x30 (ρ 0) (ay_at hp 173 12) (ay_at hp 183) := (ax_XF_lt (x := 131) (Nat.le_of_ble_eq_true rfl)).mp (ax_gx hE (131, [3]) ax_m0)
  obtain ⟨-, F154⟩ : ay_ex hp 173 ∧ ay_ln (ay_at hp 173 14) = pz_at (pz_gt (ρ 0)) (pz_gN (ρ 0)) (pz_p (pz_cF (ρ 0) (ρ 1))) := (ax_XF_lt (x := 154) (Nat.le_of_ble_eq_true rfl)).mp (ax_gx hE (154, [3, 7]) ax_m1)
  rw [c_at] at F154
  have F212 : pz_x62 (ρ 0) (ρ 1) (4016) (12) := (ax_XF_lt (x := 212) (Nat.le_of_ble_eq_true rfl)).mp (ax_gx hE (212, [3, 7, 4016, 12]) ax_m5)
  have ep : ρ 2 / 4 = pz_at (pz_gt (ρ 0)) (pz_gN (ρ 0)) (pz_p (pz_cf (pz_gt (ρ 0)) (pz_gN (ρ 0)) (ρ 1 / 4))) := F154
  have hw : pz_at (pz_gt (ρ 0)) (pz_gN (ρ 0)) (pz_p (pz_cf (pz_gt (ρ 0)) (pz_gN (ρ 0)) (ρ 1 / 4))) < pz_gN (ρ 0) ∧ pz_nx (pz_gt (ρ 0)) (pz_gN (ρ 0)) (pz_p (pz_cf (pz_gt (ρ 0)) (pz_gN (ρ 0)) (ρ 1 / 4))) ≤ pz_gN (ρ 0) := pz_wd_le F212.1
  have hln : pz_nx (pz_gt (ρ 0)) (pz_gN (ρ 0)) (pz_p (pz_cf (pz_gt (ρ 0)) (pz_gN (ρ 0)) (ρ 1 / 4))) - pz_at (pz_gt (ρ 0)) (pz_gN (ρ 0)) (pz_p (pz_cf (pz_gt (ρ 0)) (pz_gN (ρ 0)) (ρ 1 / 4))) = 4 := F212.2.1
  have ha1 := (pz_ps 0 800 i2b i2c i2d (by decide))
  have hq1 : ρ 3 / 4 = ρ 2 / 4 + 3 := pz_sm (by omega) (by decide) i3b s1
  have hb := F131.2.2 (ρ 3 / 4) (by have := hw.2; omega)
  rw [c_tape] at hb
  have hb := Option.some.inj hb
  rw [show ρ 3 / 4 = pz_at (pz_gt (ρ 0)) (pz_gN (ρ 0)) (pz_p (pz_cf (pz_gt (ρ 0)) (pz_gN (ρ 0)) (ρ 1 / 4))) + 3 by omega] at hb
  have hb2 : pz_b (pz_gt (ρ 0)) (pz_at (pz_gt (ρ 0)) (pz_gN (ρ 0)) (pz_p (pz_cf (pz_gt (ρ 0)) (pz_gN (ρ 0)) (ρ 1 / 4))) + 3) = ρ 4 / 4 := by omega
  refine ⟨(fun y hy => by cases hy), _, List.mem_cons_self, ρ, fun _ _ => rfl, ax_px hE rfl (fun x hx => ?_)⟩
  cases List.mem_singleton.mp hx
  refine (ax_XF_lt (x := 161) (Nat.le_of_ble_eq_true rfl)).mpr ?_
  show pz61 (pz_gt (ρ 0)) (pz_gN (ρ 0)) ((ρ 1) / 4) ((16) / 4)
  refine pz_is_no (Or.inr (Or.inr ⟨3, by decide, fun z => ?_⟩))
  have z2 : ρ 4 / 4 = 107 := hb2.symm.trans z
  omega
theorem axq0_is4b_3_3 : ax_RO ax_wM0 (ax_XM 0) axu0_is4b_3_3 := axqg_is4b_3_3 ax_WW0
theorem axqg_is5_3 {w : ax_W} {b : Nat} (hw : ax_WW w) : ax_RO w (ax_XM b) axu0_is5_3 := by
  intro ρ hp hE hT
  have j0 : ρ 0 % 4 = 1 := pz_gj hE 0 (Nat.le_of_ble_eq_true rfl) rfl
  have j1 : ρ 1 % 4 = 1 := pz_gj hE 1 (Nat.le_of_ble_eq_true rfl) rfl
  have F212 : pz_x62 (ρ 0) (ρ 1) (4016) (16) := (ax_XF_lt (x := 212) (Nat.le_of_ble_eq_true rfl)).mp (ax_gx hE (212, [3, 7, 4016, 16]) ax_m0)
  refine ⟨(fun y hy => by cases hy), _, List.mem_cons_self, ρ, fun _ _ => rfl, ax_px hE rfl (fun x hx => ?_)⟩
  cases List.mem_singleton.mp hx
  refine (ax_XF_lt (x := 160) (Nat.le_of_ble_eq_true rfl)).mpr ?_
  show pz60 (pz_gt (ρ 0)) (pz_gN (ρ 0)) ((ρ 1) / 4) ((16) / 4)
  exact pz_is_yes F212.1 F212.2.1 (fun i hi => F212.2.2 i hi)
theorem axq0_is5_3 : ax_RO ax_wM0 (ax_XM 0) axu0_is5_3 := axqg_is5_3 ax_WW0
theorem axqg_is1a_4 {w : ax_W} {b : Nat} (hw : ax_WW w) : ax_RO w (ax_XM b) axu0_is1a_4 := by
  intro ρ hp hE hT
  have j0 : ρ 0 % 4 = 1 := pz_gj hE 0 (Nat.le_of_ble_eq_true rfl) rfl
  have j1 : ρ 1 % 4 = 1 := pz_gj hE 1 (Nat.le_of_ble_eq_true rfl) rfl
  obtain ⟨i2a, i2b, i2c, i2d⟩ := pz_gi hE 2 2147482848 2147483651 (Nat.le_of_ble_eq_true rfl) rfl
  obtain ⟨i3a, i3b, i3c, i3d⟩ := pz_gi hE 3 2147483648 2147484448 (Nat.le_of_ble_eq_true rfl) rfl
  obtain ⟨i4a, i4b, i4c, i4d⟩ := pz_gi hE 4 2147483648 2147484448 (Nat.le_of_ble_eq_true rfl) rfl
  have c_next : ay_at hp 173 13 = some (ρ 4) := ay_gfj hE 702 52 19 173 13 ax_m2 (ax_vlq rfl rfl) (ax_vlj rfl rfl)
  have c_at : ay_at hp 173 14 = some (ρ 3) := ay_gfj hE 702 56 15 173 14 ax_m3 (ax_vlq rfl rfl) (ax_vlj rfl rfl)
  have s1 : (ρ 2 / 4 + 2147483648) % 4294967296 + (ρ 3 / 4 + 2147483648) % 4294967296 = (ρ 4 / 4 + 2147483648) % 4294967296 + 2147483648 := pz_gs hE 11 15 19 ax_m4
  obtain ⟨-, F154⟩ : ay_ex hp 173 ∧ ay_ln (ay_at hp 173 14) = pz_at (pz_gt (ρ 0)) (pz_gN (ρ 0)) (pz_p (pz_cF (ρ 0) (ρ 1))) := (ax_XF_lt (x := 154) (Nat.le_of_ble_eq_true rfl)).mp (ax_gx hE (154, [3, 7]) ax_m0)
  rw [c_at] at F154
  obtain ⟨-, F156⟩ : ay_ex hp 173 ∧ ay_ln (ay_at hp 173 13) = pz_nx (pz_gt (ρ 0)) (pz_gN (ρ 0)) (pz_p (pz_cF (ρ 0) (ρ 1))) := (ax_XF_lt (x := 156) (Nat.le_of_ble_eq_true rfl)).mp (ax_gx hE (156, [3, 7]) ax_m1)
  rw [c_next] at F156
  have e1 : ρ 4 / 4 = pz_nx (pz_gt (ρ 0)) (pz_gN (ρ 0)) (pz_p (pz_cf (pz_gt (ρ 0)) (pz_gN (ρ 0)) (ρ 1 / 4))) := F156
  have e2 : ρ 3 / 4 = pz_at (pz_gt (ρ 0)) (pz_gN (ρ 0)) (pz_p (pz_cf (pz_gt (ρ 0)) (pz_gN (ρ 0)) (ρ 1 / 4))) := F154
  refine ⟨(fun y hy => by cases hy), _, List.mem_cons_self, ρ, fun _ _ => rfl, ax_px hE rfl (fun x hx => ?_)⟩
  cases List.mem_singleton.mp hx
  refine (ax_XF_lt (x := 161) (Nat.le_of_ble_eq_true rfl)).mpr ?_
  show pz61 (pz_gt (ρ 0)) (pz_gN (ρ 0)) ((ρ 1) / 4) ((12) / 4)
  refine pz_is_no (Or.inr (Or.inl ?_))
  show pz_nx (pz_gt (ρ 0)) (pz_gN (ρ 0)) (pz_p (pz_cf (pz_gt (ρ 0)) (pz_gN (ρ 0)) (ρ 1 / 4))) - pz_at (pz_gt (ρ 0)) (pz_gN (ρ 0)) (pz_p (pz_cf (pz_gt (ρ 0)) (pz_gN (ρ 0)) (ρ 1 / 4))) ≠ 4
  omega
theorem axq0_is1a_4 : ax_RO ax_wM0 (ax_XM 0) axu0_is1a_4 := axqg_is1a_4 ax_WW0
theorem axqg_is1b_4 {w : ax_W} {b : Nat} (hw : ax_WW w) : ax_RO w (ax_XM b) axu0_is1b_4 := by
  intro ρ hp hE hT
  have j0 : ρ 0 % 4 = 1 := pz_gj hE 0 (Nat.le_of_ble_eq_true rfl) rfl
  have j1 : ρ 1 % 4 = 1 := pz_gj hE 1 (Nat.le_of_ble_eq_true rfl) rfl
  obtain ⟨i2a, i2b, i2c, i2d⟩ := pz_gi hE 2 2147483653 2147484449 (Nat.le_of_ble_eq_true rfl) rfl
  obtain ⟨i3a, i3b, i3c, i3d⟩ := pz_gi hE 3 2147483648 2147484448 (Nat.le_of_ble_eq_true rfl) rfl
  obtain ⟨i4a, i4b, i4c, i4d⟩ := pz_gi hE 4 2147483648 2147484448 (Nat.le_of_ble_eq_true rfl) rfl
  have c_next : ay_at hp 173 13 = some (ρ 4) := ay_gfj hE 702 52 19 173 13 ax_m2 (ax_vlq rfl rfl) (ax_vlj rfl rfl)
  have c_at : ay_at hp 173 14 = some (ρ 3) := ay_gfj hE 702 56 15 173 14 ax_m3 (ax_vlq rfl rfl) (ax_vlj rfl rfl)
  have s1 : (ρ 2 / 4 + 2147483648) % 4294967296 + (ρ 3 / 4 + 2147483648) % 4294967296 = (ρ 4 / 4 + 2147483648) % 4294967296 + 2147483648 := pz_gs hE 11 15 19 ax_m4
  obtain ⟨-, F154⟩ : ay_ex hp 173 ∧ ay_ln (ay_at hp 173 14) = pz_at (pz_gt (ρ 0)) (pz_gN (ρ 0)) (pz_p (pz_cF (ρ 0) (ρ 1))) := (ax_XF_lt (x := 154) (Nat.le_of_ble_eq_true rfl)).mp (ax_gx hE (154, [3, 7]) ax_m0)
  rw [c_at] at F154
  obtain ⟨-, F156⟩ : ay_ex hp 173 ∧ ay_ln (ay_at hp 173 13) = pz_nx (pz_gt (ρ 0)) (pz_gN (ρ 0)) (pz_p (pz_cF (ρ 0) (ρ 1))) := (ax_XF_lt (x := 156) (Nat.le_of_ble_eq_true rfl)).mp (ax_gx hE (156, [3, 7]) ax_m1)
  rw [c_next] at F156
  have e1 : ρ 4 / 4 = pz_nx (pz_gt (ρ 0)) (pz_gN (ρ 0)) (pz_p (pz_cf (pz_gt (ρ 0)) (pz_gN (ρ 0)) (ρ 1 / 4))) := F156
  have e2 : ρ 3 / 4 = pz_at (pz_gt (ρ 0)) (pz_gN (ρ 0)) (pz_p (pz_cf (pz_gt (ρ 0)) (pz_gN (ρ 0)) (ρ 1 / 4))) := F154
  refine ⟨(fun y hy => by cases hy), _, List.mem_cons_self, ρ, fun _ _ => rfl, ax_px hE rfl (fun x hx => ?_)⟩
  cases List.mem_singleton.mp hx
  refine (ax_XF_lt (x := 161) (Nat.le_of_ble_eq_true rfl)).mpr ?_
  show pz61 (pz_gt (ρ 0)) (pz_gN (ρ 0)) ((ρ 1) / 4) ((12) / 4)
  refine pz_is_no (Or.inr (Or.inl ?_))
  show pz_nx (pz_gt (ρ 0)) (pz_gN (ρ 0)) (pz_p (pz_cf (pz_gt (ρ 0)) (pz_gN (ρ 0)) (ρ 1 / 4))) - pz_at (pz_gt (ρ 0)) (pz_gN (ρ 0)) (pz_p (pz_cf (pz_gt (ρ 0)) (pz_gN (ρ 0)) (ρ 1 / 4))) ≠ 4
  omega
theorem axq0_is1b_4 : ax_RO ax_wM0 (ax_XM 0) axu0_is1b_4 := axqg_is1b_4 ax_WW0
theorem axqg_is2_4 {w : ax_W} {b : Nat} (hw : ax_WW w) : ax_RO w (ax_XM b) axu0_is2_4 := by
  intro ρ hp hE hT
  have j0 : ρ 0 % 4 = 1 := pz_gj hE 0 (Nat.le_of_ble_eq_true rfl) rfl
  have j1 : ρ 1 % 4 = 1 := pz_gj hE 1 (Nat.le_of_ble_eq_true rfl) rfl
  obtain ⟨i2a, i2b, i2c, i2d⟩ := pz_gi hE 2 2147483652 2147483652 (Nat.le_of_ble_eq_true rfl) rfl
  obtain ⟨i3a, i3b, i3c, i3d⟩ := pz_gi hE 3 2147483648 2147484448 (Nat.le_of_ble_eq_true rfl) rfl
  obtain ⟨i4a, i4b, i4c, i4d⟩ := pz_gi hE 4 2147483648 2147484448 (Nat.le_of_ble_eq_true rfl) rfl
  have c_next : ay_at hp 173 13 = some (ρ 4) := ay_gfj hE 702 52 19 173 13 ax_m3 (ax_vlq rfl rfl) (ax_vlj rfl rfl)
  have c_at : ay_at hp 173 14 = some (ρ 3) := ay_gfj hE 702 56 15 173 14 ax_m4 (ax_vlq rfl rfl) (ax_vlj rfl rfl)
  have s1 : (ρ 2 / 4 + 2147483648) % 4294967296 + (ρ 3 / 4 + 2147483648) % 4294967296 = (ρ 4 / 4 + 2147483648) % 4294967296 + 2147483648 := pz_gs hE 11 15 19 ax_m5
  have F168 : pz_kd (pz_gt (ρ 0)) (pz_gN (ρ 0)) (pz_p (pz_cF (ρ 0) (ρ 1))) = (4) / 4 := (ax_XF_lt (x := 168) (Nat.le_of_ble_eq_true rfl)).mp (ax_gx hE (168, [3, 7, 4]) ax_m0)
  obtain ⟨-, F154⟩ : ay_ex hp 173 ∧ ay_ln (ay_at hp 173 14) = pz_at (pz_gt (ρ 0)) (pz_gN (ρ 0)) (pz_p (pz_cF (ρ 0) (ρ 1))) := (ax_XF_lt (x := 154) (Nat.le_of_ble_eq_true rfl)).mp (ax_gx hE (154, [3, 7]) ax_m1)
  rw [c_at] at F154
  obtain ⟨-, F156⟩ : ay_ex hp 173 ∧ ay_ln (ay_at hp 173 13) = pz_nx (pz_gt (ρ 0)) (pz_gN (ρ 0)) (pz_p (pz_cF (ρ 0) (ρ 1))) := (ax_XF_lt (x := 156) (Nat.le_of_ble_eq_true rfl)).mp (ax_gx hE (156, [3, 7]) ax_m2)
  rw [c_next] at F156
  have e1 : ρ 4 / 4 = pz_nx (pz_gt (ρ 0)) (pz_gN (ρ 0)) (pz_p (pz_cf (pz_gt (ρ 0)) (pz_gN (ρ 0)) (ρ 1 / 4))) := F156
  have e2 : ρ 3 / 4 = pz_at (pz_gt (ρ 0)) (pz_gN (ρ 0)) (pz_p (pz_cf (pz_gt (ρ 0)) (pz_gN (ρ 0)) (ρ 1 / 4))) := F154
  refine ⟨(fun y hy => by cases hy), _, List.mem_cons_self, ρ, fun _ _ => rfl, ax_px hE rfl (fun x hx => ?_)⟩
  cases List.mem_singleton.mp hx
  refine (ax_XF_lt (x := 212) (Nat.le_of_ble_eq_true rfl)).mpr ?_
  show pz_x62 (ρ 0) (ρ 1) (4012) (0)
  refine ⟨F168, ?_, fun j hj => absurd (show j < 0 from hj) (by omega)⟩
  show pz_nx (pz_gt (ρ 0)) (pz_gN (ρ 0)) (pz_p (pz_cf (pz_gt (ρ 0)) (pz_gN (ρ 0)) (ρ 1 / 4))) - pz_at (pz_gt (ρ 0)) (pz_gN (ρ 0)) (pz_p (pz_cf (pz_gt (ρ 0)) (pz_gN (ρ 0)) (ρ 1 / 4))) = 4
  omega
theorem axq0_is2_4 : ax_RO ax_wM0 (ax_XM 0) axu0_is2_4 := axqg_is2_4 ax_WW0
theorem axqg_is3_4_0 {w : ax_W} {b : Nat} (hw : ax_WW w) : ax_RO w (ax_XM b) axu0_is3_4_0 := by
  intro ρ hp hE hT
  have j0 : ρ 0 % 4 = 1 := pz_gj hE 0 (Nat.le_of_ble_eq_true rfl) rfl
  have j1 : ρ 1 % 4 = 1 := pz_gj hE 1 (Nat.le_of_ble_eq_true rfl) rfl
  obtain ⟨i2a, i2b, i2c, i2d⟩ := pz_gi hE 2 2147483648 2147484448 (Nat.le_of_ble_eq_true rfl) rfl
  obtain ⟨i3a, i3b, i3c, i3d⟩ := pz_gi hE 3 0 4294967295 (Nat.le_of_ble_eq_true rfl) rfl
  obtain ⟨i4a, i4b, i4c, i4d⟩ := pz_gi hE 4 2147483762 2147483762 (Nat.le_of_ble_eq_true rfl) rfl
  have c_at : ay_at hp 173 14 = some (ρ 2) := ay_gfj hE 702 56 11 173 14 ax_m2 (ax_vlq rfl rfl) (ax_vlj rfl rfl)
  have s1 : (ρ 2 / 4 + 2147483648) % 4294967296 + (0 / 4 + 2147483648) % 4294967296 = (ρ 3 / 4 + 2147483648) % 4294967296 + 2147483648 := pz_gs hE 11 0 15 ax_m3
  have c_tape : ay_at hp 183 (ρ 3 / 4) = some (ρ 4) := ay_gf hE 742 15 19 183 ax_m4 (ax_vlq rfl rfl)
  obtain ⟨-, -, F131⟩ : ay_ex hp 173 ∧ ay_ex hp 183 ∧ pz_x30 (ρ 0) (ay_at hp 173 12) (ay_at hp 183) := (ax_XF_lt (x := 131) (Nat.le_of_ble_eq_true rfl)).mp (ax_gx hE (131, [3]) ax_m0)
  obtain ⟨-, F154⟩ : ay_ex hp 173 ∧ ay_ln (ay_at hp 173 14) = pz_at (pz_gt (ρ 0)) (pz_gN (ρ 0)) (pz_p (pz_cF (ρ 0) (ρ 1))) := (ax_XF_lt (x := 154) (Nat.le_of_ble_eq_true rfl)).mp (ax_gx hE (154, [3, 7]) ax_m1)
  rw [c_at] at F154
  have F212 : pz_x62 (ρ 0) (ρ 1) (4012) (0) := (ax_XF_lt (x := 212) (Nat.le_of_ble_eq_true rfl)).mp (ax_gx hE (212, [3, 7, 4012, 0]) ax_m5)
  have ep : ρ 2 / 4 = pz_at (pz_gt (ρ 0)) (pz_gN (ρ 0)) (pz_p (pz_cf (pz_gt (ρ 0)) (pz_gN (ρ 0)) (ρ 1 / 4))) := F154
  have hw : pz_at (pz_gt (ρ 0)) (pz_gN (ρ 0)) (pz_p (pz_cf (pz_gt (ρ 0)) (pz_gN (ρ 0)) (ρ 1 / 4))) < pz_gN (ρ 0) ∧ pz_nx (pz_gt (ρ 0)) (pz_gN (ρ 0)) (pz_p (pz_cf (pz_gt (ρ 0)) (pz_gN (ρ 0)) (ρ 1 / 4))) ≤ pz_gN (ρ 0) := pz_wd_le F212.1
  have hln : pz_nx (pz_gt (ρ 0)) (pz_gN (ρ 0)) (pz_p (pz_cf (pz_gt (ρ 0)) (pz_gN (ρ 0)) (ρ 1 / 4))) - pz_at (pz_gt (ρ 0)) (pz_gN (ρ 0)) (pz_p (pz_cf (pz_gt (ρ 0)) (pz_gN (ρ 0)) (ρ 1 / 4))) = 4 := F212.2.1
  have ha1 := (pz_ps 0 800 i2b i2c i2d (by decide))
  have hq1 : ρ 3 / 4 = ρ 2 / 4 + 0 := pz_sm (by omega) (by decide) i3b s1
  have hb := F131.2.2 (ρ 3 / 4) (by have := hw.2; omega)
  rw [c_tape] at hb
  have hb := Option.some.inj hb
  rw [show ρ 3 / 4 = pz_at (pz_gt (ρ 0)) (pz_gN (ρ 0)) (pz_p (pz_cf (pz_gt (ρ 0)) (pz_gN (ρ 0)) (ρ 1 / 4))) + 0 by omega] at hb
  have hb2 : pz_b (pz_gt (ρ 0)) (pz_at (pz_gt (ρ 0)) (pz_gN (ρ 0)) (pz_p (pz_cf (pz_gt (ρ 0)) (pz_gN (ρ 0)) (ρ 1 / 4))) + 0) = ρ 4 / 4 := by omega
  refine ⟨(fun y hy => by cases hy), _, List.mem_cons_self, ρ, fun _ _ => rfl, ax_px hE rfl (fun x hx => ?_)⟩
  cases List.mem_singleton.mp hx
  refine (ax_XF_lt (x := 212) (Nat.le_of_ble_eq_true rfl)).mpr ?_
  show pz_x62 (ρ 0) (ρ 1) (4012) (4)
  refine ⟨F212.1, F212.2.1, fun i hi => ?_⟩
  replace hi : i < 1 := hi
  by_cases h : i < 0
  · exact F212.2.2 i h
  · have e : i = 0 := by omega
    subst e
    exact hb2.trans (show ρ 4 / 4 = 114 by omega)
theorem axq0_is3_4_0 : ax_RO ax_wM0 (ax_XM 0) axu0_is3_4_0 := axqg_is3_4_0 ax_WW0
theorem axqg_is4a_4_0 {w : ax_W} {b : Nat} (hw : ax_WW w) : ax_RO w (ax_XM b) axu0_is4a_4_0 := by
  intro ρ hp hE hT
  have j0 : ρ 0 % 4 = 1 := pz_gj hE 0 (Nat.le_of_ble_eq_true rfl) rfl
  have j1 : ρ 1 % 4 = 1 := pz_gj hE 1 (Nat.le_of_ble_eq_true rfl) rfl
  obtain ⟨i2a, i2b, i2c, i2d⟩ := pz_gi hE 2 2147483648 2147484448 (Nat.le_of_ble_eq_true rfl) rfl
  obtain ⟨i3a, i3b, i3c, i3d⟩ := pz_gi hE 3 0 4294967295 (Nat.le_of_ble_eq_true rfl) rfl
  obtain ⟨i4a, i4b, i4c, i4d⟩ := pz_gi hE 4 2147483520 2147483761 (Nat.le_of_ble_eq_true rfl) rfl
  have c_at : ay_at hp 173 14 = some (ρ 2) := ay_gfj hE 702 56 11 173 14 ax_m2 (ax_vlq rfl rfl) (ax_vlj rfl rfl)
  have s1 : (ρ 2 / 4 + 2147483648) % 4294967296 + (0 / 4 + 2147483648) % 4294967296 = (ρ 3 / 4 + 2147483648) % 4294967296 + 2147483648 := pz_gs hE 11 0 15 ax_m3
  have c_tape : ay_at hp 183 (ρ 3 / 4) = some (ρ 4) := ay_gf hE 742 15 19 183 ax_m4 (ax_vlq rfl rfl)
  obtain ⟨-, -, F131⟩ : ay_ex hp 173 ∧ ay_ex hp 183 ∧ pz_x30 (ρ 0) (ay_at hp 173 12) (ay_at hp 183) := (ax_XF_lt (x := 131) (Nat.le_of_ble_eq_true rfl)).mp (ax_gx hE (131, [3]) ax_m0)
  obtain ⟨-, F154⟩ : ay_ex hp 173 ∧ ay_ln (ay_at hp 173 14) = pz_at (pz_gt (ρ 0)) (pz_gN (ρ 0)) (pz_p (pz_cF (ρ 0) (ρ 1))) := (ax_XF_lt (x := 154) (Nat.le_of_ble_eq_true rfl)).mp (ax_gx hE (154, [3, 7]) ax_m1)
  rw [c_at] at F154
  have F212 : pz_x62 (ρ 0) (ρ 1) (4012) (0) := (ax_XF_lt (x := 212) (Nat.le_of_ble_eq_true rfl)).mp (ax_gx hE (212, [3, 7, 4012, 0]) ax_m5)
  have ep : ρ 2 / 4 = pz_at (pz_gt (ρ 0)) (pz_gN (ρ 0)) (pz_p (pz_cf (pz_gt (ρ 0)) (pz_gN (ρ 0)) (ρ 1 / 4))) := F154
  have hw : pz_at (pz_gt (ρ 0)) (pz_gN (ρ 0)) (pz_p (pz_cf (pz_gt (ρ 0)) (pz_gN (ρ 0)) (ρ 1 / 4))) < pz_gN (ρ 0) ∧ pz_nx (pz_gt (ρ 0)) (pz_gN (ρ 0)) (pz_p (pz_cf (pz_gt (ρ 0)) (pz_gN (ρ 0)) (ρ 1 / 4))) ≤ pz_gN (ρ 0) := pz_wd_le F212.1
  have hln : pz_nx (pz_gt (ρ 0)) (pz_gN (ρ 0)) (pz_p (pz_cf (pz_gt (ρ 0)) (pz_gN (ρ 0)) (ρ 1 / 4))) - pz_at (pz_gt (ρ 0)) (pz_gN (ρ 0)) (pz_p (pz_cf (pz_gt (ρ 0)) (pz_gN (ρ 0)) (ρ 1 / 4))) = 4 := F212.2.1
  have ha1 := (pz_ps 0 800 i2b i2c i2d (by decide))
  have hq1 : ρ 3 / 4 = ρ 2 / 4 + 0 := pz_sm (by omega) (by decide) i3b s1
  have hb := F131.2.2 (ρ 3 / 4) (by have := hw.2; omega)
  rw [c_tape] at hb
  have hb := Option.some.inj hb
  rw [show ρ 3 / 4 = pz_at (pz_gt (ρ 0)) (pz_gN (ρ 0)) (pz_p (pz_cf (pz_gt (ρ 0)) (pz_gN (ρ 0)) (ρ 1 / 4))) + 0 by omega] at hb
  have hb2 : pz_b (pz_gt (ρ 0)) (pz_at (pz_gt (ρ 0)) (pz_gN (ρ 0)) (pz_p (pz_cf (pz_gt (ρ 0)) (pz_gN (ρ 0)) (ρ 1 / 4))) + 0) = ρ 4 / 4 := by omega
  refine ⟨(fun y hy => by cases hy), _, List.mem_cons_self, ρ, fun _ _ => rfl, ax_px hE rfl (fun x hx => ?_)⟩
  cases List.mem_singleton.mp hx
  refine (ax_XF_lt (x := 161) (Nat.le_of_ble_eq_true rfl)).mpr ?_
  show pz61 (pz_gt (ρ 0)) (pz_gN (ρ 0)) ((ρ 1) / 4) ((12) / 4)
  refine pz_is_no (Or.inr (Or.inr ⟨0, by decide, fun z => ?_⟩))
  have z2 : ρ 4 / 4 = 114 := hb2.symm.trans z
  omega
theorem axq0_is4a_4_0 : ax_RO ax_wM0 (ax_XM 0) axu0_is4a_4_0 := axqg_is4a_4_0 ax_WW0
theorem axqg_is4b_4_0 {w : ax_W} {b : Nat} (hw : ax_WW w) : ax_RO w (ax_XM b) axu0_is4b_4_0 := by
  intro ρ hp hE hT
  have j0 : ρ 0 % 4 = 1 := pz_gj hE 0 (Nat.le_of_ble_eq_true rfl) rfl
  have j1 : ρ 1 % 4 = 1 := pz_gj hE 1 (Nat.le_of_ble_eq_true rfl) rfl
  obtain ⟨i2a, i2b, i2c, i2d⟩ := pz_gi hE 2 2147483648 2147484448 (Nat.le_of_ble_eq_true rfl) rfl
  obtain ⟨i3a, i3b, i3c, i3d⟩ := pz_gi hE 3 0 4294967295 (Nat.le_of_ble_eq_true rfl) rfl
  obtain ⟨i4a, i4b, i4c, i4d⟩ := pz_gi hE 4 2147483763 2147483775 (Nat.le_of_ble_eq_true rfl) rfl
  have c_at : ay_at hp 173 14 = some (ρ 2) := ay_gfj hE 702 56 11 173 14 ax_m2 (ax_vlq rfl rfl) (ax_vlj rfl rfl)
  have s1 : (ρ 2 / 4 + 2147483648) % 4294967296 + (0 / 4 + 2147483648) % 4294967296 = (ρ 3 / 4 + 2147483648) % 4294967296 + 2147483648 := pz_gs hE 11 0 15 ax_m3
  have c_tape : ay_at hp 183 (ρ 3 / 4) = some (ρ 4) := ay_gf hE 742 15 19 183 ax_m4 (ax_vlq rfl rfl)
  obtain ⟨-, -, F131⟩ : ay_ex hp 173 ∧ ay_ex hp 183 ∧ pz_x30 (ρ 0) (ay_at hp 173 12) (ay_at hp 183) := (ax_XF_lt (x := 131) (Nat.le_of_ble_eq_true rfl)).mp (ax_gx hE (131, [3]) ax_m0)
  obtain ⟨-, F154⟩ : ay_ex hp 173 ∧ ay_ln (ay_at hp 173 14) = pz_at (pz_gt (ρ 0)) (pz_gN (ρ 0)) (pz_p (pz_cF (ρ 0) (ρ 1))) := (ax_XF_lt (x := 154) (Nat.le_of_ble_eq_true rfl)).mp (ax_gx hE (154, [3, 7]) ax_m1)
  rw [c_at] at F154
  have F212 : pz_x62 (ρ 0) (ρ 1) (4012) (0) := (ax_XF_lt (x := 212) (Nat.le_of_ble_eq_true rfl)).mp (ax_gx hE (212, [3, 7, 4012, 0]) ax_m5)
  have ep : ρ 2 / 4 = pz_at (pz_gt (ρ 0)) (pz_gN (ρ 0)) (pz_p (pz_cf (pz_gt (ρ 0)) (pz_gN (ρ 0)) (ρ 1 / 4))) := F154
  have hw : pz_at (pz_gt (ρ 0)) (pz_gN (ρ 0)) (pz_p (pz_cf (pz_gt (ρ 0)) (pz_gN (ρ 0)) (ρ 1 / 4))) < pz_gN (ρ 0) ∧ pz_nx (pz_gt (ρ 0)) (pz_gN (ρ 0)) (pz_p (pz_cf (pz_gt (ρ 0)) (pz_gN (ρ 0)) (ρ 1 / 4))) ≤ pz_gN (ρ 0) := pz_wd_le F212.1
  have hln : pz_nx (pz_gt (ρ 0)) (pz_gN (ρ 0)) (pz_p (pz_cf (pz_gt (ρ 0)) (pz_gN (ρ 0)) (ρ 1 / 4))) - pz_at (pz_gt (ρ 0)) (pz_gN (ρ 0)) (pz_p (pz_cf (pz_gt (ρ 0)) (pz_gN (ρ 0)) (ρ 1 / 4))) = 4 := F212.2.1
  have ha1 := (pz_ps 0 800 i2b i2c i2d (by decide))
  have hq1 : ρ 3 / 4 = ρ 2 / 4 + 0 := pz_sm (by omega) (by decide) i3b s1
  have hb := F131.2.2 (ρ 3 / 4) (by have := hw.2; omega)
  rw [c_tape] at hb
  have hb := Option.some.inj hb
  rw [show ρ 3 / 4 = pz_at (pz_gt (ρ 0)) (pz_gN (ρ 0)) (pz_p (pz_cf (pz_gt (ρ 0)) (pz_gN (ρ 0)) (ρ 1 / 4))) + 0 by omega] at hb
  have hb2 : pz_b (pz_gt (ρ 0)) (pz_at (pz_gt (ρ 0)) (pz_gN (ρ 0)) (pz_p (pz_cf (pz_gt (ρ 0)) (pz_gN (ρ 0)) (ρ 1 / 4))) + 0) = ρ 4 / 4 := by omega
  refine ⟨(fun y hy => by cases hy), _, List.mem_cons_self, ρ, fun _ _ => rfl, ax_px hE rfl (fun x hx => ?_)⟩
  cases List.mem_singleton.mp hx
  refine (ax_XF_lt (x := 161) (Nat.le_of_ble_eq_true rfl)).mpr ?_
  show pz61 (pz_gt (ρ 0)) (pz_gN (ρ 0)) ((ρ 1) / 4) ((12) / 4)
  refine pz_is_no (Or.inr (Or.inr ⟨0, by decide, fun z => ?_⟩))
  have z2 : ρ 4 / 4 = 114 := hb2.symm.trans z
  omega
theorem axq0_is4b_4_0 : ax_RO ax_wM0 (ax_XM 0) axu0_is4b_4_0 := axqg_is4b_4_0 ax_WW0
theorem axqg_is3_4_1 {w : ax_W} {b : Nat} (hw : ax_WW w) : ax_RO w (ax_XM b) axu0_is3_4_1 := by
  intro ρ hp hE hT
  have j0 : ρ 0 % 4 = 1 := pz_gj hE 0 (Nat.le_of_ble_eq_true rfl) rfl
  have j1 : ρ 1 % 4 = 1 := pz_gj hE 1 (Nat.le_of_ble_eq_true rfl) rfl
  obtain ⟨i2a, i2b, i2c, i2d⟩ := pz_gi hE 2 2147483648 2147484448 (Nat.le_of_ble_eq_true rfl) rfl
  obtain ⟨i3a, i3b, i3c, i3d⟩ := pz_gi hE 3 0 4294967295 (Nat.le_of_ble_eq_true rfl) rfl
  obtain ⟨i4a, i4b, i4c, i4d⟩ := pz_gi hE 4 2147483759 2147483759 (Nat.le_of_ble_eq_true rfl) rfl
  have c_at : ay_at hp 173 14 = some (ρ 2) := ay_gfj hE 702 56 11 173 14 ax_m2 (ax_vlq rfl rfl) (ax_vlj rfl rfl)
  have s1 : (ρ 2 / 4 + 2147483648) % 4294967296 + (4 / 4 + 2147483648) % 4294967296 = (ρ 3 / 4 + 2147483648) % 4294967296 + 2147483648 := pz_gs hE 11 4 15 ax_m3
  have c_tape : ay_at hp 183 (ρ 3 / 4) = some (ρ 4) := ay_gf hE 742 15 19 183 ax_m4 (ax_vlq rfl rfl)
  obtain ⟨-, -, F131⟩ : ay_ex hp 173 ∧ ay_ex hp 183 ∧ pz_x30 (ρ 0) (ay_at hp 173 12) (ay_at hp 183) := (ax_XF_lt (x := 131) (Nat.le_of_ble_eq_true rfl)).mp (ax_gx hE (131, [3]) ax_m0)
  obtain ⟨-, F154⟩ : ay_ex hp 173 ∧ ay_ln (ay_at hp 173 14) = pz_at (pz_gt (ρ 0)) (pz_gN (ρ 0)) (pz_p (pz_cF (ρ 0) (ρ 1))) := (ax_XF_lt (x := 154) (Nat.le_of_ble_eq_true rfl)).mp (ax_gx hE (154, [3, 7]) ax_m1)
  rw [c_at] at F154
  have F212 : pz_x62 (ρ 0) (ρ 1) (4012) (4) := (ax_XF_lt (x := 212) (Nat.le_of_ble_eq_true rfl)).mp (ax_gx hE (212, [3, 7, 4012, 4]) ax_m5)
  have ep : ρ 2 / 4 = pz_at (pz_gt (ρ 0)) (pz_gN (ρ 0)) (pz_p (pz_cf (pz_gt (ρ 0)) (pz_gN (ρ 0)) (ρ 1 / 4))) := F154
  have hw : pz_at (pz_gt (ρ 0)) (pz_gN (ρ 0)) (pz_p (pz_cf (pz_gt (ρ 0)) (pz_gN (ρ 0)) (ρ 1 / 4))) < pz_gN (ρ 0) ∧ pz_nx (pz_gt (ρ 0)) (pz_gN (ρ 0)) (pz_p (pz_cf (pz_gt (ρ 0)) (pz_gN (ρ 0)) (ρ 1 / 4))) ≤ pz_gN (ρ 0) := pz_wd_le F212.1
  have hln : pz_nx (pz_gt (ρ 0)) (pz_gN (ρ 0)) (pz_p (pz_cf (pz_gt (ρ 0)) (pz_gN (ρ 0)) (ρ 1 / 4))) - pz_at (pz_gt (ρ 0)) (pz_gN (ρ 0)) (pz_p (pz_cf (pz_gt (ρ 0)) (pz_gN (ρ 0)) (ρ 1 / 4))) = 4 := F212.2.1
  have ha1 := (pz_ps 0 800 i2b i2c i2d (by decide))
  have hq1 : ρ 3 / 4 = ρ 2 / 4 + 1 := pz_sm (by omega) (by decide) i3b s1
  have hb := F131.2.2 (ρ 3 / 4) (by have := hw.2; omega)
  rw [c_tape] at hb
  have hb := Option.some.inj hb
  rw [show ρ 3 / 4 = pz_at (pz_gt (ρ 0)) (pz_gN (ρ 0)) (pz_p (pz_cf (pz_gt (ρ 0)) (pz_gN (ρ 0)) (ρ 1 / 4))) + 1 by omega] at hb
  have hb2 : pz_b (pz_gt (ρ 0)) (pz_at (pz_gt (ρ 0)) (pz_gN (ρ 0)) (pz_p (pz_cf (pz_gt (ρ 0)) (pz_gN (ρ 0)) (ρ 1 / 4))) + 1) = ρ 4 / 4 := by omega
  refine ⟨(fun y hy => by cases hy), _, List.mem_cons_self, ρ, fun _ _ => rfl, ax_px hE rfl (fun x hx => ?_)⟩
  cases List.mem_singleton.mp hx
  refine (ax_XF_lt (x := 212) (Nat.le_of_ble_eq_true rfl)).mpr ?_
  show pz_x62 (ρ 0) (ρ 1) (4012) (8)
  refine ⟨F212.1, F212.2.1, fun i hi => ?_⟩
  replace hi : i < 2 := hi
  by_cases h : i < 1
  · exact F212.2.2 i h
  · have e : i = 1 := by omega
    subst e
    exact hb2.trans (show ρ 4 / 4 = 111 by omega)
theorem axq0_is3_4_1 : ax_RO ax_wM0 (ax_XM 0) axu0_is3_4_1 := axqg_is3_4_1 ax_WW0
theorem axqg_is4a_4_1 {w : ax_W} {b : Nat} (hw : ax_WW w) : ax_RO w (ax_XM b) axu0_is4a_4_1 := by
  intro ρ hp hE hT
  have j0 : ρ 0 % 4 = 1 := pz_gj hE 0 (Nat.le_of_ble_eq_true rfl) rfl
  have j1 : ρ 1 % 4 = 1 := pz_gj hE 1 (Nat.le_of_ble_eq_true rfl) rfl
  obtain ⟨i2a, i2b, i2c, i2d⟩ := pz_gi hE 2 2147483648 2147484448 (Nat.le_of_ble_eq_true rfl) rfl
  obtain ⟨i3a, i3b, i3c, i3d⟩ := pz_gi hE 3 0 4294967295 (Nat.le_of_ble_eq_true rfl) rfl
  obtain ⟨i4a, i4b, i4c, i4d⟩ := pz_gi hE 4 2147483520 2147483758 (Nat.le_of_ble_eq_true rfl) rfl
  have c_at : ay_at hp 173 14 = some (ρ 2) := ay_gfj hE 702 56 11 173 14 ax_m2 (ax_vlq rfl rfl) (ax_vlj rfl rfl)
  have s1 : (ρ 2 / 4 + 2147483648) % 4294967296 + (4 / 4 + 2147483648) % 4294967296 = (ρ 3 / 4 + 2147483648) % 4294967296 + 2147483648 := pz_gs hE 11 4 15 ax_m3
  have c_tape : ay_at hp 183 (ρ 3 / 4) = some (ρ 4) := ay_gf hE 742 15 19 183 ax_m4 (ax_vlq rfl rfl)
  obtain ⟨-, -, F131⟩ : ay_ex hp 173 ∧ ay_ex hp 183 ∧ pz_x30 (ρ 0) (ay_at hp 173 12) (ay_at hp 183) := (ax_XF_lt (x := 131) (Nat.le_of_ble_eq_true rfl)).mp (ax_gx hE (131, [3]) ax_m0)
  obtain ⟨-, F154⟩ : ay_ex hp 173 ∧ ay_ln (ay_at hp 173 14) = pz_at (pz_gt (ρ 0)) (pz_gN (ρ 0)) (pz_p (pz_cF (ρ 0) (ρ 1))) := (ax_XF_lt (x := 154) (Nat.le_of_ble_eq_true rfl)).mp (ax_gx hE (154, [3, 7]) ax_m1)
  rw [c_at] at F154
  have F212 : pz_x62 (ρ 0) (ρ 1) (4012) (4) := (ax_XF_lt (x := 212) (Nat.le_of_ble_eq_true rfl)).mp (ax_gx hE (212, [3, 7, 4012, 4]) ax_m5)
  have ep : ρ 2 / 4 = pz_at (pz_gt (ρ 0)) (pz_gN (ρ 0)) (pz_p (pz_cf (pz_gt (ρ 0)) (pz_gN (ρ 0)) (ρ 1 / 4))) := F154
  have hw : pz_at (pz_gt (ρ 0)) (pz_gN (ρ 0)) (pz_p (pz_cf (pz_gt (ρ 0)) (pz_gN (ρ 0)) (ρ 1 / 4))) < pz_gN (ρ 0) ∧ pz_nx (pz_gt (ρ 0)) (pz_gN (ρ 0)) (pz_p (pz_cf (pz_gt (ρ 0)) (pz_gN (ρ 0)) (ρ 1 / 4))) ≤ pz_gN (ρ 0) := pz_wd_le F212.1
  have hln : pz_nx (pz_gt (ρ 0)) (pz_gN (ρ 0)) (pz_p (pz_cf (pz_gt (ρ 0)) (pz_gN (ρ 0)) (ρ 1 / 4))) - pz_at (pz_gt (ρ 0)) (pz_gN (ρ 0)) (pz_p (pz_cf (pz_gt (ρ 0)) (pz_gN (ρ 0)) (ρ 1 / 4))) = 4 := F212.2.1
  have ha1 := (pz_ps 0 800 i2b i2c i2d (by decide))
  have hq1 : ρ 3 / 4 = ρ 2 / 4 + 1 := pz_sm (by omega) (by decide) i3b s1
  have hb := F131.2.2 (ρ 3 / 4) (by have := hw.2; omega)
  rw [c_tape] at hb
  have hb := Option.some.inj hb
  rw [show ρ 3 / 4 = pz_at (pz_gt (ρ 0)) (pz_gN (ρ 0)) (pz_p (pz_cf (pz_gt (ρ 0)) (pz_gN (ρ 0)) (ρ 1 / 4))) + 1 by omega] at hb
  have hb2 : pz_b (pz_gt (ρ 0)) (pz_at (pz_gt (ρ 0)) (pz_gN (ρ 0)) (pz_p (pz_cf (pz_gt (ρ 0)) (pz_gN (ρ 0)) (ρ 1 / 4))) + 1) = ρ 4 / 4 := by omega
  refine ⟨(fun y hy => by cases hy), _, List.mem_cons_self, ρ, fun _ _ => rfl, ax_px hE rfl (fun x hx => ?_)⟩
  cases List.mem_singleton.mp hx
  refine (ax_XF_lt (x := 161) (Nat.le_of_ble_eq_true rfl)).mpr ?_
  show pz61 (pz_gt (ρ 0)) (pz_gN (ρ 0)) ((ρ 1) / 4) ((12) / 4)
  refine pz_is_no (Or.inr (Or.inr ⟨1, by decide, fun z => ?_⟩))
  have z2 : ρ 4 / 4 = 111 := hb2.symm.trans z
  omega
theorem axq0_is4a_4_1 : ax_RO ax_wM0 (ax_XM 0) axu0_is4a_4_1 := axqg_is4a_4_1 ax_WW0
theorem axqg_is4b_4_1 {w : ax_W} {b : Nat} (hw : ax_WW w) : ax_RO w (ax_XM b) axu0_is4b_4_1 := by
  intro ρ hp hE hT
  have j0 : ρ 0 % 4 = 1 := pz_gj hE 0 (Nat.le_of_ble_eq_true rfl) rfl
  have j1 : ρ 1 % 4 = 1 := pz_gj hE 1 (Nat.le_of_ble_eq_true rfl) rfl
  obtain ⟨i2a, i2b, i2c, i2d⟩ := pz_gi hE 2 2147483648 2147484448 (Nat.le_of_ble_eq_true rfl) rfl
  obtain ⟨i3a, i3b, i3c, i3d⟩ := pz_gi hE 3 0 4294967295 (Nat.le_of_ble_eq_true rfl) rfl
  obtain ⟨i4a, i4b, i4c, i4d⟩ := pz_gi hE 4 2147483760 2147483775 (Nat.le_of_ble_eq_true rfl) rfl
  have c_at : ay_at hp 173 14 = some (ρ 2) := ay_gfj hE 702 56 11 173 14 ax_m2 (ax_vlq rfl rfl) (ax_vlj rfl rfl)
  have s1 : (ρ 2 / 4 + 2147483648) % 4294967296 + (4 / 4 + 2147483648) % 4294967296 = (ρ 3 / 4 + 2147483648) % 4294967296 + 2147483648 := pz_gs hE 11 4 15 ax_m3
  have c_tape : ay_at hp 183 (ρ 3 / 4) = some (ρ 4) := ay_gf hE 742 15 19 183 ax_m4 (ax_vlq rfl rfl)
  obtain ⟨-, -, F131⟩ : ay_ex hp 173 ∧ ay_ex hp 183 ∧ pz_x30 (ρ 0) (ay_at hp 173 12) (ay_at hp 183) := (ax_XF_lt (x := 131) (Nat.le_of_ble_eq_true rfl)).mp (ax_gx hE (131, [3]) ax_m0)
  obtain ⟨-, F154⟩ : ay_ex hp 173 ∧ ay_ln (ay_at hp 173 14) = pz_at (pz_gt (ρ 0)) (pz_gN (ρ 0)) (pz_p (pz_cF (ρ 0) (ρ 1))) := (ax_XF_lt (x := 154) (Nat.le_of_ble_eq_true rfl)).mp (ax_gx hE (154, [3, 7]) ax_m1)
  rw [c_at] at F154
  have F212 : pz_x62 (ρ 0) (ρ 1) (4012) (4) := (ax_XF_lt (x := 212) (Nat.le_of_ble_eq_true rfl)).mp (ax_gx hE (212, [3, 7, 4012, 4]) ax_m5)
  have ep : ρ 2 / 4 = pz_at (pz_gt (ρ 0)) (pz_gN (ρ 0)) (pz_p (pz_cf (pz_gt (ρ 0)) (pz_gN (ρ 0)) (ρ 1 / 4))) := F154
  have hw : pz_at (pz_gt (ρ 0)) (pz_gN (ρ 0)) (pz_p (pz_cf (pz_gt (ρ 0)) (pz_gN (ρ 0)) (ρ 1 / 4))) < pz_gN (ρ 0) ∧ pz_nx (pz_gt (ρ 0)) (pz_gN (ρ 0)) (pz_p (pz_cf (pz_gt (ρ 0)) (pz_gN (ρ 0)) (ρ 1 / 4))) ≤ pz_gN (ρ 0) := pz_wd_le F212.1
  have hln : pz_nx (pz_gt (ρ 0)) (pz_gN (ρ 0)) (pz_p (pz_cf (pz_gt (ρ 0)) (pz_gN (ρ 0)) (ρ 1 / 4))) - pz_at (pz_gt (ρ 0)) (pz_gN (ρ 0)) (pz_p (pz_cf (pz_gt (ρ 0)) (pz_gN (ρ 0)) (ρ 1 / 4))) = 4 := F212.2.1
  have ha1 := (pz_ps 0 800 i2b i2c i2d (by decide))
  have hq1 : ρ 3 / 4 = ρ 2 / 4 + 1 := pz_sm (by omega) (by decide) i3b s1
  have hb := F131.2.2 (ρ 3 / 4) (by have := hw.2; omega)
  rw [c_tape] at hb
  have hb := Option.some.inj hb
  rw [show ρ 3 / 4 = pz_at (pz_gt (ρ 0)) (pz_gN (ρ 0)) (pz_p (pz_cf (pz_gt (ρ 0)) (pz_gN (ρ 0)) (ρ 1 / 4))) + 1 by omega] at hb
  have hb2 : pz_b (pz_gt (ρ 0)) (pz_at (pz_gt (ρ 0)) (pz_gN (ρ 0)) (pz_p (pz_cf (pz_gt (ρ 0)) (pz_gN (ρ 0)) (ρ 1 / 4))) + 1) = ρ 4 / 4 := by omega
  refine ⟨(fun y hy => by cases hy), _, List.mem_cons_self, ρ, fun _ _ => rfl, ax_px hE rfl (fun x hx => ?_)⟩
  cases List.mem_singleton.mp hx
  refine (ax_XF_lt (x := 161) (Nat.le_of_ble_eq_true rfl)).mpr ?_
  show pz61 (pz_gt (ρ 0)) (pz_gN (ρ 0)) ((ρ 1) / 4) ((12) / 4)
  refine pz_is_no (Or.inr (Or.inr ⟨1, by decide, fun z => ?_⟩))
  have z2 : ρ 4 / 4 = 111 := hb2.symm.trans z
  omega
theorem axq0_is4b_4_1 : ax_RO ax_wM0 (ax_XM 0) axu0_is4b_4_1 := axqg_is4b_4_1 ax_WW0
theorem axqg_is3_4_2 {w : ax_W} {b : Nat} (hw : ax_WW w) : ax_RO w (ax_XM b) axu0_is3_4_2 := by
  intro ρ hp hE hT
  have j0 : ρ 0 % 4 = 1 := pz_gj hE 0 (Nat.le_of_ble_eq_true rfl) rfl
  have j1 : ρ 1 % 4 = 1 := pz_gj hE 1 (Nat.le_of_ble_eq_true rfl) rfl
  obtain ⟨i2a, i2b, i2c, i2d⟩ := pz_gi hE 2 2147483648 2147484448 (Nat.le_of_ble_eq_true rfl) rfl
  obtain ⟨i3a, i3b, i3c, i3d⟩ := pz_gi hE 3 0 4294967295 (Nat.le_of_ble_eq_true rfl) rfl
  obtain ⟨i4a, i4b, i4c, i4d⟩ := pz_gi hE 4 2147483759 2147483759 (Nat.le_of_ble_eq_true rfl) rfl
  have c_at : ay_at hp 173 14 = some (ρ 2) := ay_gfj hE 702 56 11 173 14 ax_m2 (ax_vlq rfl rfl) (ax_vlj rfl rfl)
  have s1 : (ρ 2 / 4 + 2147483648) % 4294967296 + (8 / 4 + 2147483648) % 4294967296 = (ρ 3 / 4 + 2147483648) % 4294967296 + 2147483648 := pz_gs hE 11 8 15 ax_m3
  have c_tape : ay_at hp 183 (ρ 3 / 4) = some (ρ 4) := ay_gf hE 742 15 19 183 ax_m4 (ax_vlq rfl rfl)
  obtain ⟨-, -, F131⟩ : ay_ex hp 173 ∧ ay_ex hp 183 ∧ pz_x30 (ρ 0) (ay_at hp 173 12) (ay_at hp 183) := (ax_XF_lt (x := 131) (Nat.le_of_ble_eq_true rfl)).mp (ax_gx hE (131, [3]) ax_m0)
  obtain ⟨-, F154⟩ : ay_ex hp 173 ∧ ay_ln (ay_at hp 173 14) = pz_at (pz_gt (ρ 0)) (pz_gN (ρ 0)) (pz_p (pz_cF (ρ 0) (ρ 1))) := (ax_XF_lt (x := 154) (Nat.le_of_ble_eq_true rfl)).mp (ax_gx hE (154, [3, 7]) ax_m1)
  rw [c_at] at F154
  have F212 : pz_x62 (ρ 0) (ρ 1) (4012) (8) := (ax_XF_lt (x := 212) (Nat.le_of_ble_eq_true rfl)).mp (ax_gx hE (212, [3, 7, 4012, 8]) ax_m5)
  have ep : ρ 2 / 4 = pz_at (pz_gt (ρ 0)) (pz_gN (ρ 0)) (pz_p (pz_cf (pz_gt (ρ 0)) (pz_gN (ρ 0)) (ρ 1 / 4))) := F154
  have hw : pz_at (pz_gt (ρ 0)) (pz_gN (ρ 0)) (pz_p (pz_cf (pz_gt (ρ 0)) (pz_gN (ρ 0)) (ρ 1 / 4))) < pz_gN (ρ 0) ∧ pz_nx (pz_gt (ρ 0)) (pz_gN (ρ 0)) (pz_p (pz_cf (pz_gt (ρ 0)) (pz_gN (ρ 0)) (ρ 1 / 4))) ≤ pz_gN (ρ 0) := pz_wd_le F212.1
  have hln : pz_nx (pz_gt (ρ 0)) (pz_gN (ρ 0)) (pz_p (pz_cf (pz_gt (ρ 0)) (pz_gN (ρ 0)) (ρ 1 / 4))) - pz_at (pz_gt (ρ 0)) (pz_gN (ρ 0)) (pz_p (pz_cf (pz_gt (ρ 0)) (pz_gN (ρ 0)) (ρ 1 / 4))) = 4 := F212.2.1
  have ha1 := (pz_ps 0 800 i2b i2c i2d (by decide))
  have hq1 : ρ 3 / 4 = ρ 2 / 4 + 2 := pz_sm (by omega) (by decide) i3b s1
  have hb := F131.2.2 (ρ 3 / 4) (by have := hw.2; omega)
  rw [c_tape] at hb
  have hb := Option.some.inj hb
  rw [show ρ 3 / 4 = pz_at (pz_gt (ρ 0)) (pz_gN (ρ 0)) (pz_p (pz_cf (pz_gt (ρ 0)) (pz_gN (ρ 0)) (ρ 1 / 4))) + 2 by omega] at hb
  have hb2 : pz_b (pz_gt (ρ 0)) (pz_at (pz_gt (ρ 0)) (pz_gN (ρ 0)) (pz_p (pz_cf (pz_gt (ρ 0)) (pz_gN (ρ 0)) (ρ 1 / 4))) + 2) = ρ 4 / 4 := by omega
  refine ⟨(fun y hy => by cases hy), _, List.mem_cons_self, ρ, fun _ _ => rfl, ax_px hE rfl (fun x hx => ?_)⟩
  cases List.mem_singleton.mp hx
  refine (ax_XF_lt (x := 212) (Nat.le_of_ble_eq_true rfl)).mpr ?_
  show pz_x62 (ρ 0) (ρ 1) (4012) (12)
  refine ⟨F212.1, F212.2.1, fun i hi => ?_⟩
  replace hi : i < 3 := hi
  by_cases h : i < 2
  · exact F212.2.2 i h
  · have e : i = 2 := by omega
    subst e
    exact hb2.trans (show ρ 4 / 4 = 111 by omega)
theorem axq0_is3_4_2 : ax_RO ax_wM0 (ax_XM 0) axu0_is3_4_2 := axqg_is3_4_2 ax_WW0
theorem axqg_is4a_4_2 {w : ax_W} {b : Nat} (hw : ax_WW w) : ax_RO w (ax_XM b) axu0_is4a_4_2 := by
  intro ρ hp hE hT
  have j0 : ρ 0 % 4 = 1 := pz_gj hE 0 (Nat.le_of_ble_eq_true rfl) rfl
  have j1 : ρ 1 % 4 = 1 := pz_gj hE 1 (Nat.le_of_ble_eq_true rfl) rfl
  obtain ⟨i2a, i2b, i2c, i2d⟩ := pz_gi hE 2 2147483648 2147484448 (Nat.le_of_ble_eq_true rfl) rfl
  obtain ⟨i3a, i3b, i3c, i3d⟩ := pz_gi hE 3 0 4294967295 (Nat.le_of_ble_eq_true rfl) rfl
  obtain ⟨i4a, i4b, i4c, i4d⟩ := pz_gi hE 4 2147483520 2147483758 (Nat.le_of_ble_eq_true rfl) rfl
  have c_at : ay_at hp 173 14 = some (ρ 2) := ay_gfj hE 702 56 11 173 14 ax_m2 (ax_vlq rfl rfl) (ax_vlj rfl rfl)
  have s1 : (ρ 2 / 4 + 2147483648) % 4294967296 + (8 / 4 + 2147483648) % 4294967296 = (ρ 3 / 4 + 2147483648) % 4294967296 + 2147483648 := pz_gs hE 11 8 15 ax_m3
  have c_tape : ay_at hp 183 (ρ 3 / 4) = some (ρ 4) := ay_gf hE 742 15 19 183 ax_m4 (ax_vlq rfl rfl)
  obtain ⟨-, -, F131⟩ : ay_ex hp 173 ∧ ay_ex hp 183 ∧ pz_x30 (ρ 0) (ay_at hp 173 12) (ay_at hp 183) := (ax_XF_lt (x := 131) (Nat.le_of_ble_eq_true rfl)).mp (ax_gx hE (131, [3]) ax_m0)
  obtain ⟨-, F154⟩ : ay_ex hp 173 ∧ ay_ln (ay_at hp 173 14) = pz_at (pz_gt (ρ 0)) (pz_gN (ρ 0)) (pz_p (pz_cF (ρ 0) (ρ 1))) := (ax_XF_lt (x := 154) (Nat.le_of_ble_eq_true rfl)).mp (ax_gx hE (154, [3, 7]) ax_m1)
  rw [c_at] at F154
  have F212 : pz_x62 (ρ 0) (ρ 1) (4012) (8) := (ax_XF_lt (x := 212) (Nat.le_of_ble_eq_true rfl)).mp (ax_gx hE (212, [3, 7, 4012, 8]) ax_m5)
  have ep : ρ 2 / 4 = pz_at (pz_gt (ρ 0)) (pz_gN (ρ 0)) (pz_p (pz_cf (pz_gt (ρ 0)) (pz_gN (ρ 0)) (ρ 1 / 4))) := F154
  have hw : pz_at (pz_gt (ρ 0)) (pz_gN (ρ 0)) (pz_p (pz_cf (pz_gt (ρ 0)) (pz_gN (ρ 0)) (ρ 1 / 4))) < pz_gN (ρ 0) ∧ pz_nx (pz_gt (ρ 0)) (pz_gN (ρ 0)) (pz_p (pz_cf (pz_gt (ρ 0)) (pz_gN (ρ 0)) (ρ 1 / 4))) ≤ pz_gN (ρ 0) := pz_wd_le F212.1
  have hln : pz_nx (pz_gt (ρ 0)) (pz_gN (ρ 0)) (pz_p (pz_cf (pz_gt (ρ 0)) (pz_gN (ρ 0)) (ρ 1 / 4))) - pz_at (pz_gt (ρ 0)) (pz_gN (ρ 0)) (pz_p (pz_cf (pz_gt (ρ 0)) (pz_gN (ρ 0)) (ρ 1 / 4))) = 4 := F212.2.1
  have ha1 := (pz_ps 0 800 i2b i2c i2d (by decide))
  have hq1 : ρ 3 / 4 = ρ 2 / 4 + 2 := pz_sm (by omega) (by decide) i3b s1
  have hb := F131.2.2 (ρ 3 / 4) (by have := hw.2; omega)
  rw [c_tape] at hb
  have hb := Option.some.inj hb
  rw [show ρ 3 / 4 = pz_at (pz_gt (ρ 0)) (pz_gN (ρ 0)) (pz_p (pz_cf (pz_gt (ρ 0)) (pz_gN (ρ 0)) (ρ 1 / 4))) + 2 by omega] at hb
  have hb2 : pz_b (pz_gt (ρ 0)) (pz_at (pz_gt (ρ 0)) (pz_gN (ρ 0)) (pz_p (pz_cf (pz_gt (ρ 0)) (pz_gN (ρ 0)) (ρ 1 / 4))) + 2) = ρ 4 / 4 := by omega
  refine ⟨(fun y hy => by cases hy), _, List.mem_cons_self, ρ, fun _ _ => rfl, ax_px hE rfl (fun x hx => ?_)⟩
  cases List.mem_singleton.mp hx
  refine (ax_XF_lt (x := 161) (Nat.le_of_ble_eq_true rfl)).mpr ?_
  show pz61 (pz_gt (ρ 0)) (pz_gN (ρ 0)) ((ρ 1) / 4) ((12) / 4)
  refine pz_is_no (Or.inr (Or.inr ⟨2, by decide, fun z => ?_⟩))
  have z2 : ρ 4 / 4 = 111 := hb2.symm.trans z
  omega
theorem axq0_is4a_4_2 : ax_RO ax_wM0 (ax_XM 0) axu0_is4a_4_2 := axqg_is4a_4_2 ax_WW0
theorem axqg_is4b_4_2 {w : ax_W} {b : Nat} (hw : ax_WW w) : ax_RO w (ax_XM b) axu0_is4b_4_2 := by
  intro ρ hp hE hT
  have j0 : ρ 0 % 4 = 1 := pz_gj hE 0 (Nat.le_of_ble_eq_true rfl) rfl
  have j1 : ρ 1 % 4 = 1 := pz_gj hE 1 (Nat.le_of_ble_eq_true rfl) rfl
  obtain ⟨i2a, i2b, i2c, i2d⟩ := pz_gi hE 2 2147483648 2147484448 (Nat.le_of_ble_eq_true rfl) rfl
  obtain ⟨i3a, i3b, i3c, i3d⟩ := pz_gi hE 3 0 4294967295 (Nat.le_of_ble_eq_true rfl) rfl
  obtain ⟨i4a, i4b, i4c, i4d⟩ := pz_gi hE 4 2147483760 2147483775 (Nat.le_of_ble_eq_true rfl) rfl
  have c_at : ay_at hp 173 14 = some (ρ 2) := ay_gfj hE 702 56 11 173 14 ax_m2 (ax_vlq rfl rfl) (ax_vlj rfl rfl)
  have s1 : (ρ 2 / 4 + 2147483648) % 4294967296 + (8 / 4 + 2147483648) % 4294967296 = (ρ 3 / 4 + 2147483648) % 4294967296 + 2147483648 := pz_gs hE 11 8 15 ax_m3
  have c_tape : ay_at hp 183 (ρ 3 / 4) = some (ρ 4) := ay_gf hE 742 15 19 183 ax_m4 (ax_vlq rfl rfl)
  obtain ⟨-, -, F131⟩ : ay_ex hp 173 ∧ ay_ex hp 183 ∧ pz_x30 (ρ 0) (ay_at hp 173 12) (ay_at hp 183) := (ax_XF_lt (x := 131) (Nat.le_of_ble_eq_true rfl)).mp (ax_gx hE (131, [3]) ax_m0)
  obtain ⟨-, F154⟩ : ay_ex hp 173 ∧ ay_ln (ay_at hp 173 14) = pz_at (pz_gt (ρ 0)) (pz_gN (ρ 0)) (pz_p (pz_cF (ρ 0) (ρ 1))) := (ax_XF_lt (x := 154) (Nat.le_of_ble_eq_true rfl)).mp (ax_gx hE (154, [3, 7]) ax_m1)
  rw [c_at] at F154
  have F212 : pz_x62 (ρ 0) (ρ 1) (4012) (8) := (ax_XF_lt (x := 212) (Nat.le_of_ble_eq_true rfl)).mp (ax_gx hE (212, [3, 7, 4012, 8]) ax_m5)
  have ep : ρ 2 / 4 = pz_at (pz_gt (ρ 0)) (pz_gN (ρ 0)) (pz_p (pz_cf (pz_gt (ρ 0)) (pz_gN (ρ 0)) (ρ 1 / 4))) := F154
  have hw : pz_at (pz_gt (ρ 0)) (pz_gN (ρ 0)) (pz_p (pz_cf (pz_gt (ρ 0)) (pz_gN (ρ 0)) (ρ 1 / 4))) < pz_gN (ρ 0) ∧ pz_nx (pz_gt (ρ 0)) (pz_gN (ρ 0)) (pz_p (pz_cf (pz_gt (ρ 0)) (pz_gN (ρ 0)) (ρ 1 / 4))) ≤ pz_gN (ρ 0) := pz_wd_le F212.1
  have hln : pz_nx (pz_gt (ρ 0)) (pz_gN (ρ 0)) (pz_p (pz_cf (pz_gt (ρ 0)) (pz_gN (ρ 0)) (ρ 1 / 4))) - pz_at (pz_gt (ρ 0)) (pz_gN (ρ 0)) (pz_p (pz_cf (pz_gt (ρ 0)) (pz_gN (ρ 0)) (ρ 1 / 4))) = 4 := F212.2.1
  have ha1 := (pz_ps 0 800 i2b i2c i2d (by decide))
  have hq1 : ρ 3 / 4 = ρ 2 / 4 + 2 := pz_sm (by omega) (by decide) i3b s1
  have hb := F131.2.2 (ρ 3 / 4) (by have := hw.2; omega)
  rw [c_tape] at hb
  have hb := Option.some.inj hb
  rw [show ρ 3 / 4 = pz_at (pz_gt (ρ 0)) (pz_gN (ρ 0)) (pz_p (pz_cf (pz_gt (ρ 0)) (pz_gN (ρ 0)) (ρ 1 / 4))) + 2 by omega] at hb
  have hb2 : pz_b (pz_gt (ρ 0)) (pz_at (pz_gt (ρ 0)) (pz_gN (ρ 0)) (pz_p (pz_cf (pz_gt (ρ 0)) (pz_gN (ρ 0)) (ρ 1 / 4))) + 2) = ρ 4 / 4 := by omega
  refine ⟨(fun y hy => by cases hy), _, List.mem_cons_self, ρ, fun _ _ => rfl, ax_px hE rfl (fun x hx => ?_)⟩
  cases List.mem_singleton.mp hx
  refine (ax_XF_lt (x := 161) (Nat.le_of_ble_eq_true rfl)).mpr ?_
  show pz61 (pz_gt (ρ 0)) (pz_gN (ρ 0)) ((ρ 1) / 4) ((12) / 4)
  refine pz_is_no (Or.inr (Or.inr ⟨2, by decide, fun z => ?_⟩))
  have z2 : ρ 4 / 4 = 111 := hb2.symm.trans z
  omega
theorem axq0_is4b_4_2 : ax_RO ax_wM0 (ax_XM 0) axu0_is4b_4_2 := axqg_is4b_4_2 ax_WW0
theorem axqg_is3_4_3 {w : ax_W} {b : Nat} (hw : ax_WW w) : ax_RO w (ax_XM b) axu0_is3_4_3 := by
  intro ρ hp hE hT
  have j0 : ρ 0 % 4 = 1 := pz_gj hE 0 (Nat.le_of_ble_eq_true rfl) rfl
  have j1 : ρ 1 % 4 = 1 := pz_gj hE 1 (Nat.le_of_ble_eq_true rfl) rfl
  obtain ⟨i2a, i2b, i2c, i2d⟩ := pz_gi hE 2 2147483648 2147484448 (Nat.le_of_ble_eq_true rfl) rfl
  obtain ⟨i3a, i3b, i3c, i3d⟩ := pz_gi hE 3 0 4294967295 (Nat.le_of_ble_eq_true rfl) rfl
  obtain ⟨i4a, i4b, i4c, i4d⟩ := pz_gi hE 4 2147483757 2147483757 (Nat.le_of_ble_eq_true rfl) rfl
  have c_at : ay_at hp 173 14 = some (ρ 2) := ay_gfj hE 702 56 11 173 14 ax_m2 (ax_vlq rfl rfl) (ax_vlj rfl rfl)
  have s1 : (ρ 2 / 4 + 2147483648) % 4294967296 + (12 / 4 + 2147483648) % 4294967296 = (ρ 3 / 4 + 2147483648) % 4294967296 + 2147483648 := pz_gs hE 11 12 15 ax_m3
  have c_tape : ay_at hp 183 (ρ 3 / 4) = some (ρ 4) := ay_gf hE 742 15 19 183 ax_m4 (ax_vlq rfl rfl)
  obtain ⟨-, -, F131⟩ : ay_ex hp 173 ∧ ay_ex hp 183 ∧ pz_x30 (ρ 0) (ay_at hp 173 12) (ay_at hp 183) := (ax_XF_lt (x := 131) (Nat.le_of_ble_eq_true rfl)).mp (ax_gx hE (131, [3]) ax_m0)
  obtain ⟨-, F154⟩ : ay_ex hp 173 ∧ ay_ln (ay_at hp 173 14) = pz_at (pz_gt (ρ 0)) (pz_gN (ρ 0)) (pz_p (pz_cF (ρ 0) (ρ 1))) := (ax_XF_lt (x := 154) (Nat.le_of_ble_eq_true rfl)).mp (ax_gx hE (154, [3, 7]) ax_m1)
  rw [c_at] at F154
  have F212 : pz_x62 (ρ 0) (ρ 1) (4012) (12) := (ax_XF_lt (x := 212) (Nat.le_of_ble_eq_true rfl)).mp (ax_gx hE (212, [3, 7, 4012, 12]) ax_m5)
  have ep : ρ 2 / 4 = pz_at (pz_gt (ρ 0)) (pz_gN (ρ 0)) (pz_p (pz_cf (pz_gt (ρ 0)) (pz_gN (ρ 0)) (ρ 1 / 4))) := F154
  have hw : pz_at (pz_gt (ρ 0)) (pz_gN (ρ 0)) (pz_p (pz_cf (pz_gt (ρ 0)) (pz_gN (ρ 0)) (ρ 1 / 4))) < pz_gN (ρ 0) ∧ pz_nx (pz_gt (ρ 0)) (pz_gN (ρ 0)) (pz_p (pz_cf (pz_gt (ρ 0)) (pz_gN (ρ 0)) (ρ 1 / 4))) ≤ pz_gN (ρ 0) := pz_wd_le F212.1
  have hln : pz_nx (pz_gt (ρ 0)) (pz_gN (ρ 0)) (pz_p (pz_cf (pz_gt (ρ 0)) (pz_gN (ρ 0)) (ρ 1 / 4))) - pz_at (pz_gt (ρ 0)) (pz_gN (ρ 0)) (pz_p (pz_cf (pz_gt (ρ 0)) (pz_gN (ρ 0)) (ρ 1 / 4))) = 4 := F212.2.1
  have ha1 := (pz_ps 0 800 i2b i2c i2d (by decide))
  have hq1 : ρ 3 / 4 = ρ 2 / 4 + 3 := pz_sm (by omega) (by decide) i3b s1
  have hb := F131.2.2 (ρ 3 / 4) (by have := hw.2; omega)
  rw [c_tape] at hb
  have hb := Option.some.inj hb
  rw [show ρ 3 / 4 = pz_at (pz_gt (ρ 0)) (pz_gN (ρ 0)) (pz_p (pz_cf (pz_gt (ρ 0)) (pz_gN (ρ 0)) (ρ 1 / 4))) + 3 by omega] at hb
  have hb2 : pz_b (pz_gt (ρ 0)) (pz_at (pz_gt (ρ 0)) (pz_gN (ρ 0)) (pz_p (pz_cf (pz_gt (ρ 0)) (pz_gN (ρ 0)) (ρ 1 / 4))) + 3) = ρ 4 / 4 := by omega
  refine ⟨(fun y hy => by cases hy), _, List.mem_cons_self, ρ, fun _ _ => rfl, ax_px hE rfl (fun x hx => ?_)⟩
  cases List.mem_singleton.mp hx
  refine (ax_XF_lt (x := 212) (Nat.le_of_ble_eq_true rfl)).mpr ?_
  show pz_x62 (ρ 0) (ρ 1) (4012) (16)
  refine ⟨F212.1, F212.2.1, fun i hi => ?_⟩
  replace hi : i < 4 := hi
  by_cases h : i < 3
  · exact F212.2.2 i h
  · have e : i = 3 := by omega
    subst e
    exact hb2.trans (show ρ 4 / 4 = 109 by omega)
theorem axq0_is3_4_3 : ax_RO ax_wM0 (ax_XM 0) axu0_is3_4_3 := axqg_is3_4_3 ax_WW0
theorem axqg_is4a_4_3 {w : ax_W} {b : Nat} (hw : ax_WW w) : ax_RO w (ax_XM b) axu0_is4a_4_3 := by
  intro ρ hp hE hT
  have j0 : ρ 0 % 4 = 1 := pz_gj hE 0 (Nat.le_of_ble_eq_true rfl) rfl
  have j1 : ρ 1 % 4 = 1 := pz_gj hE 1 (Nat.le_of_ble_eq_true rfl) rfl
  obtain ⟨i2a, i2b, i2c, i2d⟩ := pz_gi hE 2 2147483648 2147484448 (Nat.le_of_ble_eq_true rfl) rfl
  obtain ⟨i3a, i3b, i3c, i3d⟩ := pz_gi hE 3 0 4294967295 (Nat.le_of_ble_eq_true rfl) rfl
  obtain ⟨i4a, i4b, i4c, i4d⟩ := pz_gi hE 4 2147483520 2147483756 (Nat.le_of_ble_eq_true rfl) rfl
  have c_at : ay_at hp 173 14 = some (ρ 2) := ay_gfj hE 702 56 11 173 14 ax_m2 (ax_vlq rfl rfl) (ax_vlj rfl rfl)
  have s1 : (ρ 2 / 4 + 2147483648) % 4294967296 + (12 / 4 + 2147483648) % 4294967296 = (ρ 3 / 4 + 2147483648) % 4294967296 + 2147483648 := pz_gs hE 11 12 15 ax_m3
  have c_tape : ay_at hp 183 (ρ 3 / 4) = some (ρ 4) := ay_gf hE 742 15 19 183 ax_m4 (ax_vlq rfl rfl)
  obtain ⟨-, -, F131⟩ : ay_ex hp 173 ∧ ay_ex hp 183 ∧ pz_x30 (ρ 0) (ay_at hp 173 12) (ay_at hp 183) := (ax_XF_lt (x := 131) (Nat.le_of_ble_eq_true rfl)).mp (ax_gx hE (131, [3]) ax_m0)
  obtain ⟨-, F154⟩ : ay_ex hp 173 ∧ ay_ln (ay_at hp 173 14) = pz_at (pz_gt (ρ 0)) (pz_gN (ρ 0)) (pz_p (pz_cF (ρ 0) (ρ 1))) := (ax_XF_lt (x := 154) (Nat.le_of_ble_eq_true rfl)).mp (ax_gx hE (154, [3, 7]) ax_m1)
  rw [c_at] at F154
  have F212 : pz_x62 (ρ 0) (ρ 1) (4012) (12) := (ax_XF_lt (x := 212) (Nat.le_of_ble_eq_true rfl)).mp (ax_gx hE (212, [3, 7, 4012, 12]) ax_m5)
  have ep : ρ 2 / 4 = pz_at (pz_gt (ρ 0)) (pz_gN (ρ 0)) (pz_p (pz_cf (pz_gt (ρ 0)) (pz_gN (ρ 0)) (ρ 1 / 4))) := F154
  have hw : pz_at (pz_gt (ρ 0)) (pz_gN (ρ 0)) (pz_p (pz_cf (pz_gt (ρ 0)) (pz_gN (ρ 0)) (ρ 1 / 4))) < pz_gN (ρ 0) ∧ pz_nx (pz_gt (ρ 0)) (pz_gN (ρ 0)) (pz_p (pz_cf (pz_gt (ρ 0)) (pz_gN (ρ 0)) (ρ 1 / 4))) ≤ pz_gN (ρ 0) := pz_wd_le F212.1
  have hln : pz_nx (pz_gt (ρ 0)) (pz_gN (ρ 0)) (pz_p (pz_cf (pz_gt (ρ 0)) (pz_gN (ρ 0)) (ρ 1 / 4))) - pz_at (pz_gt (ρ 0)) (pz_gN (ρ 0)) (pz_p (pz_cf (pz_gt (ρ 0)) (pz_gN (ρ 0)) (ρ 1 / 4))) = 4 := F212.2.1
  have ha1 := (pz_ps 0 800 i2b i2c i2d (by decide))
  have hq1 : ρ 3 / 4 = ρ 2 / 4 + 3 := pz_sm (by omega) (by decide) i3b s1
  have hb := F131.2.2 (ρ 3 / 4) (by have := hw.2; omega)
  rw [c_tape] at hb
  have hb := Option.some.inj hb
  rw [show ρ 3 / 4 = pz_at (pz_gt (ρ 0)) (pz_gN (ρ 0)) (pz_p (pz_cf (pz_gt (ρ 0)) (pz_gN (ρ 0)) (ρ 1 / 4))) + 3 by omega] at hb
  have hb2 : pz_b (pz_gt (ρ 0)) (pz_at (pz_gt (ρ 0)) (pz_gN (ρ 0)) (pz_p (pz_cf (pz_gt (ρ 0)) (pz_gN (ρ 0)) (ρ 1 / 4))) + 3) = ρ 4 / 4 := by omega
  refine ⟨(fun y hy => by cases hy), _, List.mem_cons_self, ρ, fun _ _ => rfl, ax_px hE rfl (fun x hx => ?_)⟩
  cases List.mem_singleton.mp hx
  refine (ax_XF_lt (x := 161) (Nat.le_of_ble_eq_true rfl)).mpr ?_
  show pz61 (pz_gt (ρ 0)) (pz_gN (ρ 0)) ((ρ 1) / 4) ((12) / 4)
  refine pz_is_no (Or.inr (Or.inr ⟨3, by decide, fun z => ?_⟩))
  have z2 : ρ 4 / 4 = 109 := hb2.symm.trans z
  omega
theorem axq0_is4a_4_3 : ax_RO ax_wM0 (ax_XM 0) axu0_is4a_4_3 := axqg_is4a_4_3 ax_WW0
theorem axqg_is4b_4_3 {w : ax_W} {b : Nat} (hw : ax_WW w) : ax_RO w (ax_XM b) axu0_is4b_4_3 := by
  intro ρ hp hE hT
  have j0 : ρ 0 % 4 = 1 := pz_gj hE 0 (Nat.le_of_ble_eq_true rfl) rfl
  have j1 : ρ 1 % 4 = 1 := pz_gj hE 1 (Nat.le_of_ble_eq_true rfl) rfl
  obtain ⟨i2a, i2b, i2c, i2d⟩ := pz_gi hE 2 2147483648 2147484448 (Nat.le_of_ble_eq_true rfl) rfl
  obtain ⟨i3a, i3b, i3c, i3d⟩ := pz_gi hE 3 0 4294967295 (Nat.le_of_ble_eq_true rfl) rfl
  obtain ⟨i4a, i4b, i4c, i4d⟩ := pz_gi hE 4 2147483758 2147483775 (Nat.le_of_ble_eq_true rfl) rfl
  have c_at : ay_at hp 173 14 = some (ρ 2) := ay_gfj hE 702 56 11 173 14 ax_m2 (ax_vlq rfl rfl) (ax_vlj rfl rfl)
  have s1 : (ρ 2 / 4 + 2147483648) % 4294967296 + (12 / 4 + 2147483648) % 4294967296 = (ρ 3 / 4 + 2147483648) % 4294967296 + 2147483648 := pz_gs hE 11 12 15 ax_m3
  have c_tape : ay_at hp 183 (ρ 3 / 4) = some (ρ 4) := ay_gf hE 742 15 19 183 ax_m4 (ax_vlq rfl rfl)
  obtain ⟨-, -, F131⟩ : ay_ex hp 173 ∧ ay_ex hp 183 ∧ pz_x30 (ρ 0) (ay_at hp 173 12) (ay_at hp 183) := (ax_XF_lt (x := 131) (Nat.le_of_ble_eq_true rfl)).mp (ax_gx hE (131, [3]) ax_m0)
  obtain ⟨-, F154⟩ : ay_ex hp 173 ∧ ay_ln (ay_at hp 173 14) = pz_at (pz_gt (ρ 0)) (pz_gN (ρ 0)) (pz_p (pz_cF (ρ 0) (ρ 1))) := (ax_XF_lt (x := 154) (Nat.le_of_ble_eq_true rfl)).mp (ax_gx hE (154, [3, 7]) ax_m1)
  rw [c_at] at F154
  have F212 : pz_x62 (ρ 0) (ρ 1) (4012) (12) := (ax_XF_lt (x := 212) (Nat.le_of_ble_eq_true rfl)).mp (ax_gx hE (212, [3, 7, 4012, 12]) ax_m5)
  have ep : ρ 2 / 4 = pz_at (pz_gt (ρ 0)) (pz_gN (ρ 0)) (pz_p (pz_cf (pz_gt (ρ 0)) (pz_gN (ρ 0)) (ρ 1 / 4))) := F154
  have hw : pz_at (pz_gt (ρ 0)) (pz_gN (ρ 0)) (pz_p (pz_cf (pz_gt (ρ 0)) (pz_gN (ρ 0)) (ρ 1 / 4))) < pz_gN (ρ 0) ∧ pz_nx (pz_gt (ρ 0)) (pz_gN (ρ 0)) (pz_p (pz_cf (pz_gt (ρ 0)) (pz_gN (ρ 0)) (ρ 1 / 4))) ≤ pz_gN (ρ 0) := pz_wd_le F212.1
  have hln : pz_nx (pz_gt (ρ 0)) (pz_gN (ρ 0)) (pz_p (pz_cf (pz_gt (ρ 0)) (pz_gN (ρ 0)) (ρ 1 / 4))) - pz_at (pz_gt (ρ 0)) (pz_gN (ρ 0)) (pz_p (pz_cf (pz_gt (ρ 0)) (pz_gN (ρ 0)) (ρ 1 / 4))) = 4 := F212.2.1
  have ha1 := (pz_ps 0 800 i2b i2c i2d (by decide))
  have hq1 : ρ 3 / 4 = ρ 2 / 4 + 3 := pz_sm (by omega) (by decide) i3b s1
  have hb := F131.2.2 (ρ 3 / 4) (by have := hw.2; omega)
  rw [c_tape] at hb
  have hb := Option.some.inj hb
  rw [show ρ 3 / 4 = pz_at (pz_gt (ρ 0)) (pz_gN (ρ 0)) (pz_p (pz_cf (pz_gt (ρ 0)) (pz_gN (ρ 0)) (ρ 1 / 4))) + 3 by omega] at hb
  have hb2 : pz_b (pz_gt (ρ 0)) (pz_at (pz_gt (ρ 0)) (pz_gN (ρ 0)) (pz_p (pz_cf (pz_gt (ρ 0)) (pz_gN (ρ 0)) (ρ 1 / 4))) + 3) = ρ 4 / 4 := by omega
  refine ⟨(fun y hy => by cases hy), _, List.mem_cons_self, ρ, fun _ _ => rfl, ax_px hE rfl (fun x hx => ?_)⟩
  cases List.mem_singleton.mp hx
  refine (ax_XF_lt (x := 161) (Nat.le_of_ble_eq_true rfl)).mpr ?_
  show pz61 (pz_gt (ρ 0)) (pz_gN (ρ 0)) ((ρ 1) / 4) ((12) / 4)
  refine pz_is_no (Or.inr (Or.inr ⟨3, by decide, fun z => ?_⟩))
  have z2 : ρ 4 / 4 = 109 := hb2.symm.trans z
  omega
theorem axq0_is4b_4_3 : ax_RO ax_wM0 (ax_XM 0) axu0_is4b_4_3 := axqg_is4b_4_3 ax_WW0
theorem axqg_is5_4 {w : ax_W} {b : Nat} (hw : ax_WW w) : ax_RO w (ax_XM b) axu0_is5_4 := by
  intro ρ hp hE hT
  have j0 : ρ 0 % 4 = 1 := pz_gj hE 0 (Nat.le_of_ble_eq_true rfl) rfl
  have j1 : ρ 1 % 4 = 1 := pz_gj hE 1 (Nat.le_of_ble_eq_true rfl) rfl
  have F212 : pz_x62 (ρ 0) (ρ 1) (4012) (16) := (ax_XF_lt (x := 212) (Nat.le_of_ble_eq_true rfl)).mp (ax_gx hE (212, [3, 7, 4012, 16]) ax_m0)
  refine ⟨(fun y hy => by cases hy), _, List.mem_cons_self, ρ, fun _ _ => rfl, ax_px hE rfl (fun x hx => ?_)⟩
  cases List.mem_singleton.mp hx
  refine (ax_XF_lt (x := 160) (Nat.le_of_ble_eq_true rfl)).mpr ?_
  show pz60 (pz_gt (ρ 0)) (pz_gN (ρ 0)) ((ρ 1) / 4) ((12) / 4)
  exact pz_is_yes F212.1 F212.2.1 (fun i hi => F212.2.2 i hi)
theorem axq0_is5_4 : ax_RO ax_wM0 (ax_XM 0) axu0_is5_4 := axqg_is5_4 ax_WW0
theorem axqg_is1a_5 {w : ax_W} {b : Nat} (hw : ax_WW w) : ax_RO w (ax_XM b) axu0_is1a_5 := by
  intro ρ hp hE hT
  have j0 : ρ 0 % 4 = 1 := pz_gj hE 0 (Nat.le_of_ble_eq_true rfl) rfl
  have j1 : ρ 1 % 4 = 1 := pz_gj hE 1 (Nat.le_of_ble_eq_true rfl) rfl
  obtain ⟨i2a, i2b, i2c, i2d⟩ := pz_gi hE 2 2147482848 2147483650 (Nat.le_of_ble_eq_true rfl) rfl
  obtain ⟨i3a, i3b, i3c, i3d⟩ := pz_gi hE 3 2147483648 2147484448 (Nat.le_of_ble_eq_true rfl) rfl
  obtain ⟨i4a, i4b, i4c, i4d⟩ := pz_gi hE 4 2147483648 2147484448 (Nat.le_of_ble_eq_true rfl) rfl
  have c_next : ay_at hp 173 13 = some (ρ 4) := ay_gfj hE 702 52 19 173 13 ax_m2 (ax_vlq rfl rfl) (ax_vlj rfl rfl)
  have c_at : ay_at hp 173 14 = some (ρ 3) := ay_gfj hE 702 56 15 173 14 ax_m3 (ax_vlq rfl rfl) (ax_vlj rfl rfl)
  have s1 : (ρ 2 / 4 + 2147483648) % 4294967296 + (ρ 3 / 4 + 2147483648) % 4294967296 = (ρ 4 / 4 + 2147483648) % 4294967296 + 2147483648 := pz_gs hE 11 15 19 ax_m4
  obtain ⟨-, F154⟩ : ay_ex hp 173 ∧ ay_ln (ay_at hp 173 14) = pz_at (pz_gt (ρ 0)) (pz_gN (ρ 0)) (pz_p (pz_cF (ρ 0) (ρ 1))) := (ax_XF_lt (x := 154) (Nat.le_of_ble_eq_true rfl)).mp (ax_gx hE (154, [3, 7]) ax_m0)
  rw [c_at] at F154
  obtain ⟨-, F156⟩ : ay_ex hp 173 ∧ ay_ln (ay_at hp 173 13) = pz_nx (pz_gt (ρ 0)) (pz_gN (ρ 0)) (pz_p (pz_cF (ρ 0) (ρ 1))) := (ax_XF_lt (x := 156) (Nat.le_of_ble_eq_true rfl)).mp (ax_gx hE (156, [3, 7]) ax_m1)
  rw [c_next] at F156
  have e1 : ρ 4 / 4 = pz_nx (pz_gt (ρ 0)) (pz_gN (ρ 0)) (pz_p (pz_cf (pz_gt (ρ 0)) (pz_gN (ρ 0)) (ρ 1 / 4))) := F156
  have e2 : ρ 3 / 4 = pz_at (pz_gt (ρ 0)) (pz_gN (ρ 0)) (pz_p (pz_cf (pz_gt (ρ 0)) (pz_gN (ρ 0)) (ρ 1 / 4))) := F154
  refine ⟨(fun y hy => by cases hy), _, List.mem_cons_self, ρ, fun _ _ => rfl, ax_px hE rfl (fun x hx => ?_)⟩
  cases List.mem_singleton.mp hx
  refine (ax_XF_lt (x := 161) (Nat.le_of_ble_eq_true rfl)).mpr ?_
  show pz61 (pz_gt (ρ 0)) (pz_gN (ρ 0)) ((ρ 1) / 4) ((20) / 4)
  refine pz_is_no (Or.inr (Or.inl ?_))
  show pz_nx (pz_gt (ρ 0)) (pz_gN (ρ 0)) (pz_p (pz_cf (pz_gt (ρ 0)) (pz_gN (ρ 0)) (ρ 1 / 4))) - pz_at (pz_gt (ρ 0)) (pz_gN (ρ 0)) (pz_p (pz_cf (pz_gt (ρ 0)) (pz_gN (ρ 0)) (ρ 1 / 4))) ≠ 3
  omega
theorem axq0_is1a_5 : ax_RO ax_wM0 (ax_XM 0) axu0_is1a_5 := axqg_is1a_5 ax_WW0
theorem axqg_is1b_5 {w : ax_W} {b : Nat} (hw : ax_WW w) : ax_RO w (ax_XM b) axu0_is1b_5 := by
  intro ρ hp hE hT
  have j0 : ρ 0 % 4 = 1 := pz_gj hE 0 (Nat.le_of_ble_eq_true rfl) rfl
  have j1 : ρ 1 % 4 = 1 := pz_gj hE 1 (Nat.le_of_ble_eq_true rfl) rfl
  obtain ⟨i2a, i2b, i2c, i2d⟩ := pz_gi hE 2 2147483652 2147484449 (Nat.le_of_ble_eq_true rfl) rfl
  obtain ⟨i3a, i3b, i3c, i3d⟩ := pz_gi hE 3 2147483648 2147484448 (Nat.le_of_ble_eq_true rfl) rfl
  obtain ⟨i4a, i4b, i4c, i4d⟩ := pz_gi hE 4 2147483648 2147484448 (Nat.le_of_ble_eq_true rfl) rfl
  have c_next : ay_at hp 173 13 = some (ρ 4) := ay_gfj hE 702 52 19 173 13 ax_m2 (ax_vlq rfl rfl) (ax_vlj rfl rfl)
  have c_at : ay_at hp 173 14 = some (ρ 3) := ay_gfj hE 702 56 15 173 14 ax_m3 (ax_vlq rfl rfl) (ax_vlj rfl rfl)
  have s1 : (ρ 2 / 4 + 2147483648) % 4294967296 + (ρ 3 / 4 + 2147483648) % 4294967296 = (ρ 4 / 4 + 2147483648) % 4294967296 + 2147483648 := pz_gs hE 11 15 19 ax_m4
  obtain ⟨-, F154⟩ : ay_ex hp 173 ∧ ay_ln (ay_at hp 173 14) = pz_at (pz_gt (ρ 0)) (pz_gN (ρ 0)) (pz_p (pz_cF (ρ 0) (ρ 1))) := (ax_XF_lt (x := 154) (Nat.le_of_ble_eq_true rfl)).mp (ax_gx hE (154, [3, 7]) ax_m0)
  rw [c_at] at F154
  obtain ⟨-, F156⟩ : ay_ex hp 173 ∧ ay_ln (ay_at hp 173 13) = pz_nx (pz_gt (ρ 0)) (pz_gN (ρ 0)) (pz_p (pz_cF (ρ 0) (ρ 1))) := (ax_XF_lt (x := 156) (Nat.le_of_ble_eq_true rfl)).mp (ax_gx hE (156, [3, 7]) ax_m1)
  rw [c_next] at F156
  have e1 : ρ 4 / 4 = pz_nx (pz_gt (ρ 0)) (pz_gN (ρ 0)) (pz_p (pz_cf (pz_gt (ρ 0)) (pz_gN (ρ 0)) (ρ 1 / 4))) := F156
  have e2 : ρ 3 / 4 = pz_at (pz_gt (ρ 0)) (pz_gN (ρ 0)) (pz_p (pz_cf (pz_gt (ρ 0)) (pz_gN (ρ 0)) (ρ 1 / 4))) := F154
  refine ⟨(fun y hy => by cases hy), _, List.mem_cons_self, ρ, fun _ _ => rfl, ax_px hE rfl (fun x hx => ?_)⟩
  cases List.mem_singleton.mp hx
  refine (ax_XF_lt (x := 161) (Nat.le_of_ble_eq_true rfl)).mpr ?_
  show pz61 (pz_gt (ρ 0)) (pz_gN (ρ 0)) ((ρ 1) / 4) ((20) / 4)
  refine pz_is_no (Or.inr (Or.inl ?_))
  show pz_nx (pz_gt (ρ 0)) (pz_gN (ρ 0)) (pz_p (pz_cf (pz_gt (ρ 0)) (pz_gN (ρ 0)) (ρ 1 / 4))) - pz_at (pz_gt (ρ 0)) (pz_gN (ρ 0)) (pz_p (pz_cf (pz_gt (ρ 0)) (pz_gN (ρ 0)) (ρ 1 / 4))) ≠ 3
  omega
theorem axq0_is1b_5 : ax_RO ax_wM0 (ax_XM 0) axu0_is1b_5 := axqg_is1b_5 ax_WW0
theorem axqg_is2_5 {w : ax_W} {b : Nat} (hw : ax_WW w) : ax_RO w (ax_XM b) axu0_is2_5 := by
  intro ρ hp hE hT
  have j0 : ρ 0 % 4 = 1 := pz_gj hE 0 (Nat.le_of_ble_eq_true rfl) rfl
  have j1 : ρ 1 % 4 = 1 := pz_gj hE 1 (Nat.le_of_ble_eq_true rfl) rfl
  obtain ⟨i2a, i2b, i2c, i2d⟩ := pz_gi hE 2 2147483651 2147483651 (Nat.le_of_ble_eq_true rfl) rfl
  obtain ⟨i3a, i3b, i3c, i3d⟩ := pz_gi hE 3 2147483648 2147484448 (Nat.le_of_ble_eq_true rfl) rfl
  obtain ⟨i4a, i4b, i4c, i4d⟩ := pz_gi hE 4 2147483648 2147484448 (Nat.le_of_ble_eq_true rfl) rfl
  have c_next : ay_at hp 173 13 = some (ρ 4) := ay_gfj hE 702 52 19 173 13 ax_m3 (ax_vlq rfl rfl) (ax_vlj rfl rfl)
  have c_at : ay_at hp 173 14 = some (ρ 3) := ay_gfj hE 702 56 15 173 14 ax_m4 (ax_vlq rfl rfl) (ax_vlj rfl rfl)
  have s1 : (ρ 2 / 4 + 2147483648) % 4294967296 + (ρ 3 / 4 + 2147483648) % 4294967296 = (ρ 4 / 4 + 2147483648) % 4294967296 + 2147483648 := pz_gs hE 11 15 19 ax_m5
  have F168 : pz_kd (pz_gt (ρ 0)) (pz_gN (ρ 0)) (pz_p (pz_cF (ρ 0) (ρ 1))) = (4) / 4 := (ax_XF_lt (x := 168) (Nat.le_of_ble_eq_true rfl)).mp (ax_gx hE (168, [3, 7, 4]) ax_m0)
  obtain ⟨-, F154⟩ : ay_ex hp 173 ∧ ay_ln (ay_at hp 173 14) = pz_at (pz_gt (ρ 0)) (pz_gN (ρ 0)) (pz_p (pz_cF (ρ 0) (ρ 1))) := (ax_XF_lt (x := 154) (Nat.le_of_ble_eq_true rfl)).mp (ax_gx hE (154, [3, 7]) ax_m1)
  rw [c_at] at F154
  obtain ⟨-, F156⟩ : ay_ex hp 173 ∧ ay_ln (ay_at hp 173 13) = pz_nx (pz_gt (ρ 0)) (pz_gN (ρ 0)) (pz_p (pz_cF (ρ 0) (ρ 1))) := (ax_XF_lt (x := 156) (Nat.le_of_ble_eq_true rfl)).mp (ax_gx hE (156, [3, 7]) ax_m2)
  rw [c_next] at F156
  have e1 : ρ 4 / 4 = pz_nx (pz_gt (ρ 0)) (pz_gN (ρ 0)) (pz_p (pz_cf (pz_gt (ρ 0)) (pz_gN (ρ 0)) (ρ 1 / 4))) := F156
  have e2 : ρ 3 / 4 = pz_at (pz_gt (ρ 0)) (pz_gN (ρ 0)) (pz_p (pz_cf (pz_gt (ρ 0)) (pz_gN (ρ 0)) (ρ 1 / 4))) := F154
  refine ⟨(fun y hy => by cases hy), _, List.mem_cons_self, ρ, fun _ _ => rfl, ax_px hE rfl (fun x hx => ?_)⟩
  cases List.mem_singleton.mp hx
  refine (ax_XF_lt (x := 212) (Nat.le_of_ble_eq_true rfl)).mpr ?_
  show pz_x62 (ρ 0) (ρ 1) (4020) (0)
  refine ⟨F168, ?_, fun j hj => absurd (show j < 0 from hj) (by omega)⟩
  show pz_nx (pz_gt (ρ 0)) (pz_gN (ρ 0)) (pz_p (pz_cf (pz_gt (ρ 0)) (pz_gN (ρ 0)) (ρ 1 / 4))) - pz_at (pz_gt (ρ 0)) (pz_gN (ρ 0)) (pz_p (pz_cf (pz_gt (ρ 0)) (pz_gN (ρ 0)) (ρ 1 / 4))) = 3
  omega
theorem axq0_is2_5 : ax_RO ax_wM0 (ax_XM 0) axu0_is2_5 := axqg_is2_5 ax_WW0
theorem axqg_is3_5_0 {w : ax_W} {b : Nat} (hw : ax_WW w) : ax_RO w (ax_XM b) axu0_is3_5_0 := by
  intro ρ hp hE hT
  have j0 : ρ 0 % 4 = 1 := pz_gj hE 0 (Nat.le_of_ble_eq_true rfl) rfl
  have j1 : ρ 1 % 4 = 1 := pz_gj hE 1 (Nat.le_of_ble_eq_true rfl) rfl
  obtain ⟨i2a, i2b, i2c, i2d⟩ := pz_gi hE 2 2147483648 2147484448 (Nat.le_of_ble_eq_true rfl) rfl
  obtain ⟨i3a, i3b, i3c, i3d⟩ := pz_gi hE 3 0 4294967295 (Nat.le_of_ble_eq_true rfl) rfl
  obtain ⟨i4a, i4b, i4c, i4d⟩ := pz_gi hE 4 2147483750 2147483750 (Nat.le_of_ble_eq_true rfl) rfl
  have c_at : ay_at hp 173 14 = some (ρ 2) := ay_gfj hE 702 56 11 173 14 ax_m2 (ax_vlq rfl rfl) (ax_vlj rfl rfl)
  have s1 : (ρ 2 / 4 + 2147483648) % 4294967296 + (0 / 4 + 2147483648) % 4294967296 = (ρ 3 / 4 + 2147483648) % 4294967296 + 2147483648 := pz_gs hE 11 0 15 ax_m3
  have c_tape : ay_at hp 183 (ρ 3 / 4) = some (ρ 4) := ay_gf hE 742 15 19 183 ax_m4 (ax_vlq rfl rfl)
  obtain ⟨-, -, F131⟩ : ay_ex hp 173 ∧ ay_ex hp 183 ∧ pz_x30 (ρ 0) (ay_at hp 173 12) (ay_at hp 183) := (ax_XF_lt (x := 131) (Nat.le_of_ble_eq_true rfl)).mp (ax_gx hE (131, [3]) ax_m0)
  obtain ⟨-, F154⟩ : ay_ex hp 173 ∧ ay_ln (ay_at hp 173 14) = pz_at (pz_gt (ρ 0)) (pz_gN (ρ 0)) (pz_p (pz_cF (ρ 0) (ρ 1))) := (ax_XF_lt (x := 154) (Nat.le_of_ble_eq_true rfl)).mp (ax_gx hE (154, [3, 7]) ax_m1)
  rw [c_at] at F154
  have F212 : pz_x62 (ρ 0) (ρ 1) (4020) (0) := (ax_XF_lt (x := 212) (Nat.le_of_ble_eq_true rfl)).mp (ax_gx hE (212, [3, 7, 4020, 0]) ax_m5)
  have ep : ρ 2 / 4 = pz_at (pz_gt (ρ 0)) (pz_gN (ρ 0)) (pz_p (pz_cf (pz_gt (ρ 0)) (pz_gN (ρ 0)) (ρ 1 / 4))) := F154
  have hw : pz_at (pz_gt (ρ 0)) (pz_gN (ρ 0)) (pz_p (pz_cf (pz_gt (ρ 0)) (pz_gN (ρ 0)) (ρ 1 / 4))) < pz_gN (ρ 0) ∧ pz_nx (pz_gt (ρ 0)) (pz_gN (ρ 0)) (pz_p (pz_cf (pz_gt (ρ 0)) (pz_gN (ρ 0)) (ρ 1 / 4))) ≤ pz_gN (ρ 0) := pz_wd_le F212.1
  have hln : pz_nx (pz_gt (ρ 0)) (pz_gN (ρ 0)) (pz_p (pz_cf (pz_gt (ρ 0)) (pz_gN (ρ 0)) (ρ 1 / 4))) - pz_at (pz_gt (ρ 0)) (pz_gN (ρ 0)) (pz_p (pz_cf (pz_gt (ρ 0)) (pz_gN (ρ 0)) (ρ 1 / 4))) = 3 := F212.2.1
  have ha1 := (pz_ps 0 800 i2b i2c i2d (by decide))
  have hq1 : ρ 3 / 4 = ρ 2 / 4 + 0 := pz_sm (by omega) (by decide) i3b s1
  have hb := F131.2.2 (ρ 3 / 4) (by have := hw.2; omega)
  rw [c_tape] at hb
  have hb := Option.some.inj hb
  rw [show ρ 3 / 4 = pz_at (pz_gt (ρ 0)) (pz_gN (ρ 0)) (pz_p (pz_cf (pz_gt (ρ 0)) (pz_gN (ρ 0)) (ρ 1 / 4))) + 0 by omega] at hb
  have hb2 : pz_b (pz_gt (ρ 0)) (pz_at (pz_gt (ρ 0)) (pz_gN (ρ 0)) (pz_p (pz_cf (pz_gt (ρ 0)) (pz_gN (ρ 0)) (ρ 1 / 4))) + 0) = ρ 4 / 4 := by omega
  refine ⟨(fun y hy => by cases hy), _, List.mem_cons_self, ρ, fun _ _ => rfl, ax_px hE rfl (fun x hx => ?_)⟩
  cases List.mem_singleton.mp hx
  refine (ax_XF_lt (x := 212) (Nat.le_of_ble_eq_true rfl)).mpr ?_
  show pz_x62 (ρ 0) (ρ 1) (4020) (4)
  refine ⟨F212.1, F212.2.1, fun i hi => ?_⟩
  replace hi : i < 1 := hi
  by_cases h : i < 0
  · exact F212.2.2 i h
  · have e : i = 0 := by omega
    subst e
    exact hb2.trans (show ρ 4 / 4 = 102 by omega)
theorem axq0_is3_5_0 : ax_RO ax_wM0 (ax_XM 0) axu0_is3_5_0 := axqg_is3_5_0 ax_WW0
theorem axqg_is4a_5_0 {w : ax_W} {b : Nat} (hw : ax_WW w) : ax_RO w (ax_XM b) axu0_is4a_5_0 := by
  intro ρ hp hE hT
  have j0 : ρ 0 % 4 = 1 := pz_gj hE 0 (Nat.le_of_ble_eq_true rfl) rfl
  have j1 : ρ 1 % 4 = 1 := pz_gj hE 1 (Nat.le_of_ble_eq_true rfl) rfl
  obtain ⟨i2a, i2b, i2c, i2d⟩ := pz_gi hE 2 2147483648 2147484448 (Nat.le_of_ble_eq_true rfl) rfl
  obtain ⟨i3a, i3b, i3c, i3d⟩ := pz_gi hE 3 0 4294967295 (Nat.le_of_ble_eq_true rfl) rfl
  obtain ⟨i4a, i4b, i4c, i4d⟩ := pz_gi hE 4 2147483520 2147483749 (Nat.le_of_ble_eq_true rfl) rfl
  have c_at : ay_at hp 173 14 = some (ρ 2) := ay_gfj hE 702 56 11 173 14 ax_m2 (ax_vlq rfl rfl) (ax_vlj rfl rfl)
  have s1 : (ρ 2 / 4 + 2147483648) % 4294967296 + (0 / 4 + 2147483648) % 4294967296 = (ρ 3 / 4 + 2147483648) % 4294967296 + 2147483648 := pz_gs hE 11 0 15 ax_m3
  have c_tape : ay_at hp 183 (ρ 3 / 4) = some (ρ 4) := ay_gf hE 742 15 19 183 ax_m4 (ax_vlq rfl rfl)
  obtain ⟨-, -, F131⟩ : ay_ex hp 173 ∧ ay_ex hp 183 ∧ pz_x30 (ρ 0) (ay_at hp 173 12) (ay_at hp 183) := (ax_XF_lt (x := 131) (Nat.le_of_ble_eq_true rfl)).mp (ax_gx hE (131, [3]) ax_m0)
  obtain ⟨-, F154⟩ : ay_ex hp 173 ∧ ay_ln (ay_at hp 173 14) = pz_at (pz_gt (ρ 0)) (pz_gN (ρ 0)) (pz_p (pz_cF (ρ 0) (ρ 1))) := (ax_XF_lt (x := 154) (Nat.le_of_ble_eq_true rfl)).mp (ax_gx hE (154, [3, 7]) ax_m1)
  rw [c_at] at F154
  have F212 : pz_x62 (ρ 0) (ρ 1) (4020) (0) := (ax_XF_lt (x := 212) (Nat.le_of_ble_eq_true rfl)).mp (ax_gx hE (212, [3, 7, 4020, 0]) ax_m5)
  have ep : ρ 2 / 4 = pz_at (pz_gt (ρ 0)) (pz_gN (ρ 0)) (pz_p (pz_cf (pz_gt (ρ 0)) (pz_gN (ρ 0)) (ρ 1 / 4))) := F154
  have hw : pz_at (pz_gt (ρ 0)) (pz_gN (ρ 0)) (pz_p (pz_cf (pz_gt (ρ 0)) (pz_gN (ρ 0)) (ρ 1 / 4))) < pz_gN (ρ 0) ∧ pz_nx (pz_gt (ρ 0)) (pz_gN (ρ 0)) (pz_p (pz_cf (pz_gt (ρ 0)) (pz_gN (ρ 0)) (ρ 1 / 4))) ≤ pz_gN (ρ 0) := pz_wd_le F212.1
  have hln : pz_nx (pz_gt (ρ 0)) (pz_gN (ρ 0)) (pz_p (pz_cf (pz_gt (ρ 0)) (pz_gN (ρ 0)) (ρ 1 / 4))) - pz_at (pz_gt (ρ 0)) (pz_gN (ρ 0)) (pz_p (pz_cf (pz_gt (ρ 0)) (pz_gN (ρ 0)) (ρ 1 / 4))) = 3 := F212.2.1
  have ha1 := (pz_ps 0 800 i2b i2c i2d (by decide))
  have hq1 : ρ 3 / 4 = ρ 2 / 4 + 0 := pz_sm (by omega) (by decide) i3b s1
  have hb := F131.2.2 (ρ 3 / 4) (by have := hw.2; omega)
  rw [c_tape] at hb
  have hb := Option.some.inj hb
  rw [show ρ 3 / 4 = pz_at (pz_gt (ρ 0)) (pz_gN (ρ 0)) (pz_p (pz_cf (pz_gt (ρ 0)) (pz_gN (ρ 0)) (ρ 1 / 4))) + 0 by omega] at hb
  have hb2 : pz_b (pz_gt (ρ 0)) (pz_at (pz_gt (ρ 0)) (pz_gN (ρ 0)) (pz_p (pz_cf (pz_gt (ρ 0)) (pz_gN (ρ 0)) (ρ 1 / 4))) + 0) = ρ 4 / 4 := by omega
  refine ⟨(fun y hy => by cases hy), _, List.mem_cons_self, ρ, fun _ _ => rfl, ax_px hE rfl (fun x hx => ?_)⟩
  cases List.mem_singleton.mp hx
  refine (ax_XF_lt (x := 161) (Nat.le_of_ble_eq_true rfl)).mpr ?_
  show pz61 (pz_gt (ρ 0)) (pz_gN (ρ 0)) ((ρ 1) / 4) ((20) / 4)
  refine pz_is_no (Or.inr (Or.inr ⟨0, by decide, fun z => ?_⟩))
  have z2 : ρ 4 / 4 = 102 := hb2.symm.trans z
  omega
theorem axq0_is4a_5_0 : ax_RO ax_wM0 (ax_XM 0) axu0_is4a_5_0 := axqg_is4a_5_0 ax_WW0
theorem axqg_is4b_5_0 {w : ax_W} {b : Nat} (hw : ax_WW w) : ax_RO w (ax_XM b) axu0_is4b_5_0 := by
  intro ρ hp hE hT
  have j0 : ρ 0 % 4 = 1 := pz_gj hE 0 (Nat.le_of_ble_eq_true rfl) rfl
  have j1 : ρ 1 % 4 = 1 := pz_gj hE 1 (Nat.le_of_ble_eq_true rfl) rfl
  obtain ⟨i2a, i2b, i2c, i2d⟩ := pz_gi hE 2 2147483648 2147484448 (Nat.le_of_ble_eq_true rfl) rfl
  obtain ⟨i3a, i3b, i3c, i3d⟩ := pz_gi hE 3 0 4294967295 (Nat.le_of_ble_eq_true rfl) rfl
  obtain ⟨i4a, i4b, i4c, i4d⟩ := pz_gi hE 4 2147483751 2147483775 (Nat.le_of_ble_eq_true rfl) rfl
  have c_at : ay_at hp 173 14 = some (ρ 2) := ay_gfj hE 702 56 11 173 14 ax_m2 (ax_vlq rfl rfl) (ax_vlj rfl rfl)
  have s1 : (ρ 2 / 4 + 2147483648) % 4294967296 + (0 / 4 + 2147483648) % 4294967296 = (ρ 3 / 4 + 2147483648) % 4294967296 + 2147483648 := pz_gs hE 11 0 15 ax_m3
  have c_tape : ay_at hp 183 (ρ 3 / 4) = some (ρ 4) := ay_gf hE 742 15 19 183 ax_m4 (ax_vlq rfl rfl)
  obtain ⟨-, -, F131⟩ : ay_ex hp 173 ∧ ay_ex hp 183 ∧ pz_x30 (ρ 0) (ay_at hp 173 12) (ay_at hp 183) := (ax_XF_lt (x := 131) (Nat.le_of_ble_eq_true rfl)).mp (ax_gx hE (131, [3]) ax_m0)
  obtain ⟨-, F154⟩ : ay_ex hp 173 ∧ ay_ln (ay_at hp 173 14) = pz_at (pz_gt (ρ 0)) (pz_gN (ρ 0)) (pz_p (pz_cF (ρ 0) (ρ 1))) := (ax_XF_lt (x := 154) (Nat.le_of_ble_eq_true rfl)).mp (ax_gx hE (154, [3, 7]) ax_m1)
  rw [c_at] at F154
  have F212 : pz_x62 (ρ 0) (ρ 1) (4020) (0) := (ax_XF_lt (x := 212) (Nat.le_of_ble_eq_true rfl)).mp (ax_gx hE (212, [3, 7, 4020, 0]) ax_m5)
  have ep : ρ 2 / 4 = pz_at (pz_gt (ρ 0)) (pz_gN (ρ 0)) (pz_p (pz_cf (pz_gt (ρ 0)) (pz_gN (ρ 0)) (ρ 1 / 4))) := F154
  have hw : pz_at (pz_gt (ρ 0)) (pz_gN (ρ 0)) (pz_p (pz_cf (pz_gt (ρ 0)) (pz_gN (ρ 0)) (ρ 1 / 4))) < pz_gN (ρ 0) ∧ pz_nx (pz_gt (ρ 0)) (pz_gN (ρ 0)) (pz_p (pz_cf (pz_gt (ρ 0)) (pz_gN (ρ 0)) (ρ 1 / 4))) ≤ pz_gN (ρ 0) := pz_wd_le F212.1
  have hln : pz_nx (pz_gt (ρ 0)) (pz_gN (ρ 0)) (pz_p (pz_cf (pz_gt (ρ 0)) (pz_gN (ρ 0)) (ρ 1 / 4))) - pz_at (pz_gt (ρ 0)) (pz_gN (ρ 0)) (pz_p (pz_cf (pz_gt (ρ 0)) (pz_gN (ρ 0)) (ρ 1 / 4))) = 3 := F212.2.1
  have ha1 := (pz_ps 0 800 i2b i2c i2d (by decide))
  have hq1 : ρ 3 / 4 = ρ 2 / 4 + 0 := pz_sm (by omega) (by decide) i3b s1
  have hb := F131.2.2 (ρ 3 / 4) (by have := hw.2; omega)
  rw [c_tape] at hb
  have hb := Option.some.inj hb
  rw [show ρ 3 / 4 = pz_at (pz_gt (ρ 0)) (pz_gN (ρ 0)) (pz_p (pz_cf (pz_gt (ρ 0)) (pz_gN (ρ 0)) (ρ 1 / 4))) + 0 by omega] at hb
  have hb2 : pz_b (pz_gt (ρ 0)) (pz_at (pz_gt (ρ 0)) (pz_gN (ρ 0)) (pz_p (pz_cf (pz_gt (ρ 0)) (pz_gN (ρ 0)) (ρ 1 / 4))) + 0) = ρ 4 / 4 := by omega
  refine ⟨(fun y hy => by cases hy), _, List.mem_cons_self, ρ, fun _ _ => rfl, ax_px hE rfl (fun x hx => ?_)⟩
  cases List.mem_singleton.mp hx
  refine (ax_XF_lt (x := 161) (Nat.le_of_ble_eq_true rfl)).mpr ?_
  show pz61 (pz_gt (ρ 0)) (pz_gN (ρ 0)) ((ρ 1) / 4) ((20) / 4)
  refine pz_is_no (Or.inr (Or.inr ⟨0, by decide, fun z => ?_⟩))
  have z2 : ρ 4 / 4 = 102 := hb2.symm.trans z
  omega
theorem axq0_is4b_5_0 : ax_RO ax_wM0 (ax_XM 0) axu0_is4b_5_0 := axqg_is4b_5_0 ax_WW0
theorem axqg_is3_5_1 {w : ax_W} {b : Nat} (hw : ax_WW w) : ax_RO w (ax_XM b) axu0_is3_5_1 := by
  intro ρ hp hE hT
  have j0 : ρ 0 % 4 = 1 := pz_gj hE 0 (Nat.le_of_ble_eq_true rfl) rfl
  have j1 : ρ 1 % 4 = 1 := pz_gj hE 1 (Nat.le_of_ble_eq_true rfl) rfl
  obtain ⟨i2a, i2b, i2c, i2d⟩ := pz_gi hE 2 2147483648 2147484448 (Nat.le_of_ble_eq_true rfl) rfl
  obtain ⟨i3a, i3b, i3c, i3d⟩ := pz_gi hE 3 0 4294967295 (Nat.le_of_ble_eq_true rfl) rfl
  obtain ⟨i4a, i4b, i4c, i4d⟩ := pz_gi hE 4 2147483745 2147483745 (Nat.le_of_ble_eq_true rfl) rfl
  have c_at : ay_at hp 173 14 = some (ρ 2) := ay_gfj hE 702 56 11 173 14 ax_m2 (ax_vlq rfl rfl) (ax_vlj rfl rfl)
  have s1 : (ρ 2 / 4 + 2147483648) % 4294967296 + (4 / 4 + 2147483648) % 4294967296 = (ρ 3 / 4 + 2147483648) % 4294967296 + 2147483648 := pz_gs hE 11 4 15 ax_m3
  have c_tape : ay_at hp 183 (ρ 3 / 4) = some (ρ 4) := ay_gf hE 742 15 19 183 ax_m4 (ax_vlq rfl rfl)
  obtain ⟨-, -, F131⟩ : ay_ex hp 173 ∧ ay_ex hp 183 ∧ pz_x30 (ρ 0) (ay_at hp 173 12) (ay_at hp 183) := (ax_XF_lt (x := 131) (Nat.le_of_ble_eq_true rfl)).mp (ax_gx hE (131, [3]) ax_m0)
  obtain ⟨-, F154⟩ : ay_ex hp 173 ∧ ay_ln (ay_at hp 173 14) = pz_at (pz_gt (ρ 0)) (pz_gN (ρ 0)) (pz_p (pz_cF (ρ 0) (ρ 1))) := (ax_XF_lt (x := 154) (Nat.le_of_ble_eq_true rfl)).mp (ax_gx hE (154, [3, 7]) ax_m1)
  rw [c_at] at F154
  have F212 : pz_x62 (ρ 0) (ρ 1) (4020) (4) := (ax_XF_lt (x := 212) (Nat.le_of_ble_eq_true rfl)).mp (ax_gx hE (212, [3, 7, 4020, 4]) ax_m5)
  have ep : ρ 2 / 4 = pz_at (pz_gt (ρ 0)) (pz_gN (ρ 0)) (pz_p (pz_cf (pz_gt (ρ 0)) (pz_gN (ρ 0)) (ρ 1 / 4))) := F154
  have hw : pz_at (pz_gt (ρ 0)) (pz_gN (ρ 0)) (pz_p (pz_cf (pz_gt (ρ 0)) (pz_gN (ρ 0)) (ρ 1 / 4))) < pz_gN (ρ 0) ∧ pz_nx (pz_gt (ρ 0)) (pz_gN (ρ 0)) (pz_p (pz_cf (pz_gt (ρ 0)) (pz_gN (ρ 0)) (ρ 1 / 4))) ≤ pz_gN (ρ 0) := pz_wd_le F212.1
  have hln : pz_nx (pz_gt (ρ 0)) (pz_gN (ρ 0)) (pz_p (pz_cf (pz_gt (ρ 0)) (pz_gN (ρ 0)) (ρ 1 / 4))) - pz_at (pz_gt (ρ 0)) (pz_gN (ρ 0)) (pz_p (pz_cf (pz_gt (ρ 0)) (pz_gN (ρ 0)) (ρ 1 / 4))) = 3 := F212.2.1
  have ha1 := (pz_ps 0 800 i2b i2c i2d (by decide))
  have hq1 : ρ 3 / 4 = ρ 2 / 4 + 1 := pz_sm (by omega) (by decide) i3b s1
  have hb := F131.2.2 (ρ 3 / 4) (by have := hw.2; omega)
  rw [c_tape] at hb
  have hb := Option.some.inj hb
  rw [show ρ 3 / 4 = pz_at (pz_gt (ρ 0)) (pz_gN (ρ 0)) (pz_p (pz_cf (pz_gt (ρ 0)) (pz_gN (ρ 0)) (ρ 1 / 4))) + 1 by omega] at hb
  have hb2 : pz_b (pz_gt (ρ 0)) (pz_at (pz_gt (ρ 0)) (pz_gN (ρ 0)) (pz_p (pz_cf (pz_gt (ρ 0)) (pz_gN (ρ 0)) (ρ 1 / 4))) + 1) = ρ 4 / 4 := by omega
  refine ⟨(fun y hy => by cases hy), _, List.mem_cons_self, ρ, fun _ _ => rfl, ax_px hE rfl (fun x hx => ?_)⟩
  cases List.mem_singleton.mp hx
  refine (ax_XF_lt (x := 212) (Nat.le_of_ble_eq_true rfl)).mpr ?_
  show pz_x62 (ρ 0) (ρ 1) (4020) (8)
  refine ⟨F212.1, F212.2.1, fun i hi => ?_⟩
  replace hi : i < 2 := hi
  by_cases h : i < 1
  · exact F212.2.2 i h
  · have e : i = 1 := by omega
    subst e
    exact hb2.trans (show ρ 4 / 4 = 97 by omega)
theorem axq0_is3_5_1 : ax_RO ax_wM0 (ax_XM 0) axu0_is3_5_1 := axqg_is3_5_1 ax_WW0
theorem axqg_is4a_5_1 {w : ax_W} {b : Nat} (hw : ax_WW w) : ax_RO w (ax_XM b) axu0_is4a_5_1 := by
  intro ρ hp hE hT
  have j0 : ρ 0 % 4 = 1 := pz_gj hE 0 (Nat.le_of_ble_eq_true rfl) rfl
  have j1 : ρ 1 % 4 = 1 := pz_gj hE 1 (Nat.le_of_ble_eq_true rfl) rfl
  obtain ⟨i2a, i2b, i2c, i2d⟩ := pz_gi hE 2 2147483648 2147484448 (Nat.le_of_ble_eq_true rfl) rfl
  obtain ⟨i3a, i3b, i3c, i3d⟩ := pz_gi hE 3 0 4294967295 (Nat.le_of_ble_eq_true rfl) rfl
  obtain ⟨i4a, i4b, i4c, i4d⟩ := pz_gi hE 4 2147483520 2147483744 (Nat.le_of_ble_eq_true rfl) rfl
  have c_at : ay_at hp 173 14 = some (ρ 2) := ay_gfj hE 702 56 11 173 14 ax_m2 (ax_vlq rfl rfl) (ax_vlj rfl rfl)
  have s1 : (ρ 2 / 4 + 2147483648) % 4294967296 + (4 / 4 + 2147483648) % 4294967296 = (ρ 3 / 4 + 2147483648) % 4294967296 + 2147483648 := pz_gs hE 11 4 15 ax_m3
  have c_tape : ay_at hp 183 (ρ 3 / 4) = some (ρ 4) := ay_gf hE 742 15 19 183 ax_m4 (ax_vlq rfl rfl)
  obtain ⟨-, -, F131⟩ : ay_ex hp 173 ∧ ay_ex hp 183 ∧ pz_x30 (ρ 0) (ay_at hp 173 12) (ay_at hp 183) := (ax_XF_lt (x := 131) (Nat.le_of_ble_eq_true rfl)).mp (ax_gx hE (131, [3]) ax_m0)
  obtain ⟨-, F154⟩ : ay_ex hp 173 ∧ ay_ln (ay_at hp 173 14) = pz_at (pz_gt (ρ 0)) (pz_gN (ρ 0)) (pz_p (pz_cF (ρ 0) (ρ 1))) := (ax_XF_lt (x := 154) (Nat.le_of_ble_eq_true rfl)).mp (ax_gx hE (154, [3, 7]) ax_m1)
  rw [c_at] at F154
  have F212 : pz_x62 (ρ 0) (ρ 1) (4020) (4) := (ax_XF_lt (x := 212) (Nat.le_of_ble_eq_true rfl)).mp (ax_gx hE (212, [3, 7, 4020, 4]) ax_m5)
  have ep : ρ 2 / 4 = pz_at (pz_gt (ρ 0)) (pz_gN (ρ 0)) (pz_p (pz_cf (pz_gt (ρ 0)) (pz_gN (ρ 0)) (ρ 1 / 4))) := F154
  have hw : pz_at (pz_gt (ρ 0)) (pz_gN (ρ 0)) (pz_p (pz_cf (pz_gt (ρ 0)) (pz_gN (ρ 0)) (ρ 1 / 4))) < pz_gN (ρ 0) ∧ pz_nx (pz_gt (ρ 0)) (pz_gN (ρ 0)) (pz_p (pz_cf (pz_gt (ρ 0)) (pz_gN (ρ 0)) (ρ 1 / 4))) ≤ pz_gN (ρ 0) := pz_wd_le F212.1
  have hln : pz_nx (pz_gt (ρ 0)) (pz_gN (ρ 0)) (pz_p (pz_cf (pz_gt (ρ 0)) (pz_gN (ρ 0)) (ρ 1 / 4))) - pz_at (pz_gt (ρ 0)) (pz_gN (ρ 0)) (pz_p (pz_cf (pz_gt (ρ 0)) (pz_gN (ρ 0)) (ρ 1 / 4))) = 3 := F212.2.1
  have ha1 := (pz_ps 0 800 i2b i2c i2d (by decide))
  have hq1 : ρ 3 / 4 = ρ 2 / 4 + 1 := pz_sm (by omega) (by decide) i3b s1
  have hb := F131.2.2 (ρ 3 / 4) (by have := hw.2; omega)
  rw [c_tape] at hb
  have hb := Option.some.inj hb
  rw [show ρ 3 / 4 = pz_at (pz_gt (ρ 0)) (pz_gN (ρ 0)) (pz_p (pz_cf (pz_gt (ρ 0)) (pz_gN (ρ 0)) (ρ 1 / 4))) + 1 by omega] at hb
  have hb2 : pz_b (pz_gt (ρ 0)) (pz_at (pz_gt (ρ 0)) (pz_gN (ρ 0)) (pz_p (pz_cf (pz_gt (ρ 0)) (pz_gN (ρ 0)) (ρ 1 / 4))) + 1) = ρ 4 / 4 := by omega
  refine ⟨(fun y hy => by cases hy), _, List.mem_cons_self, ρ, fun _ _ => rfl, ax_px hE rfl (fun x hx => ?_)⟩
  cases List.mem_singleton.mp hx
  refine (ax_XF_lt (x := 161) (Nat.le_of_ble_eq_true rfl)).mpr ?_
  show pz61 (pz_gt (ρ 0)) (pz_gN (ρ 0)) ((ρ 1) / 4) ((20) / 4)
  refine pz_is_no (Or.inr (Or.inr ⟨1, by decide, fun z => ?_⟩))
  have z2 : ρ 4 / 4 = 97 := hb2.symm.trans z
  omega
theorem axq0_is4a_5_1 : ax_RO ax_wM0 (ax_XM 0) axu0_is4a_5_1 := axqg_is4a_5_1 ax_WW0
theorem axqg_is4b_5_1 {w : ax_W} {b : Nat} (hw : ax_WW w) : ax_RO w (ax_XM b) axu0_is4b_5_1 := by
  intro ρ hp hE hT
  have j0 : ρ 0 % 4 = 1 := pz_gj hE 0 (Nat.le_of_ble_eq_true rfl) rfl
  have j1 : ρ 1 % 4 = 1 := pz_gj hE 1 (Nat.le_of_ble_eq_true rfl) rfl
  obtain ⟨i2a, i2b, i2c, i2d⟩ := pz_gi hE 2 2147483648 2147484448 (Nat.le_of_ble_eq_true rfl) rfl
  obtain ⟨i3a, i3b, i3c, i3d⟩ := pz_gi hE 3 0 4294967295 (Nat.le_of_ble_eq_true rfl) rfl
  obtain ⟨i4a, i4b, i4c, i4d⟩ := pz_gi hE 4 2147483746 2147483775 (Nat.le_of_ble_eq_true rfl) rfl
  have c_at : ay_at hp 173 14 = some (ρ 2) := ay_gfj hE 702 56 11 173 14 ax_m2 (ax_vlq rfl rfl) (ax_vlj rfl rfl)
  have s1 : (ρ 2 / 4 + 2147483648) % 4294967296 + (4 / 4 + 2147483648) % 4294967296 = (ρ 3 / 4 + 2147483648) % 4294967296 + 2147483648 := pz_gs hE 11 4 15 ax_m3
  have c_tape : ay_at hp 183 (ρ 3 / 4) = some (ρ 4) := ay_gf hE 742 15 19 183 ax_m4 (ax_vlq rfl rfl)
  obtain ⟨-, -, F131⟩ : ay_ex hp 173 ∧ ay_ex hp 183 ∧ pz_x30 (ρ 0) (ay_at hp 173 12) (ay_at hp 183) := (ax_XF_lt (x := 131) (Nat.le_of_ble_eq_true rfl)).mp (ax_gx hE (131, [3]) ax_m0)
  obtain ⟨-, F154⟩ : ay_ex hp 173 ∧ ay_ln (ay_at hp 173 14) = pz_at (pz_gt (ρ 0)) (pz_gN (ρ 0)) (pz_p (pz_cF (ρ 0) (ρ 1))) := (ax_XF_lt (x := 154) (Nat.le_of_ble_eq_true rfl)).mp (ax_gx hE (154, [3, 7]) ax_m1)
  rw [c_at] at F154
  have F212 : pz_x62 (ρ 0) (ρ 1) (4020) (4) := (ax_XF_lt (x := 212) (Nat.le_of_ble_eq_true rfl)).mp (ax_gx hE (212, [3, 7, 4020, 4]) ax_m5)
  have ep : ρ 2 / 4 = pz_at (pz_gt (ρ 0)) (pz_gN (ρ 0)) (pz_p (pz_cf (pz_gt (ρ 0)) (pz_gN (ρ 0)) (ρ 1 / 4))) := F154
  have hw : pz_at (pz_gt (ρ 0)) (pz_gN (ρ 0)) (pz_p (pz_cf (pz_gt (ρ 0)) (pz_gN (ρ 0)) (ρ 1 / 4))) < pz_gN (ρ 0) ∧ pz_nx (pz_gt (ρ 0)) (pz_gN (ρ 0)) (pz_p (pz_cf (pz_gt (ρ 0)) (pz_gN (ρ 0)) (ρ 1 / 4))) ≤ pz_gN (ρ 0) := pz_wd_le F212.1
  have hln : pz_nx (pz_gt (ρ 0)) (pz_gN (ρ 0)) (pz_p (pz_cf (pz_gt (ρ 0)) (pz_gN (ρ 0)) (ρ 1 / 4))) - pz_at (pz_gt (ρ 0)) (pz_gN (ρ 0)) (pz_p (pz_cf (pz_gt (ρ 0)) (pz_gN (ρ 0)) (ρ 1 / 4))) = 3 := F212.2.1
  have ha1 := (pz_ps 0 800 i2b i2c i2d (by decide))
  have hq1 : ρ 3 / 4 = ρ 2 / 4 + 1 := pz_sm (by omega) (by decide) i3b s1
  have hb := F131.2.2 (ρ 3 / 4) (by have := hw.2; omega)
  rw [c_tape] at hb
  have hb := Option.some.inj hb
  rw [show ρ 3 / 4 = pz_at (pz_gt (ρ 0)) (pz_gN (ρ 0)) (pz_p (pz_cf (pz_gt (ρ 0)) (pz_gN (ρ 0)) (ρ 1 / 4))) + 1 by omega] at hb
  have hb2 : pz_b (pz_gt (ρ 0)) (pz_at (pz_gt (ρ 0)) (pz_gN (ρ 0)) (pz_p (pz_cf (pz_gt (ρ 0)) (pz_gN (ρ 0)) (ρ 1 / 4))) + 1) = ρ 4 / 4 := by omega
  refine ⟨(fun y hy => by cases hy), _, List.mem_cons_self, ρ, fun _ _ => rfl, ax_px hE rfl (fun x hx => ?_)⟩
  cases List.mem_singleton.mp hx
  refine (ax_XF_lt (x := 161) (Nat.le_of_ble_eq_true rfl)).mpr ?_
  show pz61 (pz_gt (ρ 0)) (pz_gN (ρ 0)) ((ρ 1) / 4) ((20) / 4)
  refine pz_is_no (Or.inr (Or.inr ⟨1, by decide, fun z => ?_⟩))
  have z2 : ρ 4 / 4 = 97 := hb2.symm.trans z
  omega
theorem axq0_is4b_5_1 : ax_RO ax_wM0 (ax_XM 0) axu0_is4b_5_1 := axqg_is4b_5_1 ax_WW0
theorem axqg_is3_5_2 {w : ax_W} {b : Nat} (hw : ax_WW w) : ax_RO w (ax_XM b) axu0_is3_5_2 := by
  intro ρ hp hE hT
  have j0 : ρ 0 % 4 = 1 := pz_gj hE 0 (Nat.le_of_ble_eq_true rfl) rfl
  have j1 : ρ 1 % 4 = 1 := pz_gj hE 1 (Nat.le_of_ble_eq_true rfl) rfl
  obtain ⟨i2a, i2b, i2c, i2d⟩ := pz_gi hE 2 2147483648 2147484448 (Nat.le_of_ble_eq_true rfl) rfl
  obtain ⟨i3a, i3b, i3c, i3d⟩ := pz_gi hE 3 0 4294967295 (Nat.le_of_ble_eq_true rfl) rfl
  obtain ⟨i4a, i4b, i4c, i4d⟩ := pz_gi hE 4 2147483762 2147483762 (Nat.le_of_ble_eq_true rfl) rfl
  have c_at : ay_at hp 173 14 = some (ρ 2) := ay_gfj hE 702 56 11 173 14 ax_m2 (ax_vlq rfl rfl) (ax_vlj rfl rfl)
  have s1 : (ρ 2 / 4 + 2147483648) % 4294967296 + (8 / 4 + 2147483648) % 4294967296 = (ρ 3 / 4 + 2147483648) % 4294967296 + 2147483648 := pz_gs hE 11 8 15 ax_m3
  have c_tape : ay_at hp 183 (ρ 3 / 4) = some (ρ 4) := ay_gf hE 742 15 19 183 ax_m4 (ax_vlq rfl rfl)
  obtain ⟨-, -, F131⟩ : ay_ex hp 173 ∧ ay_ex hp 183 ∧ pz_x30 (ρ 0) (ay_at hp 173 12) (ay_at hp 183) := (ax_XF_lt (x := 131) (Nat.le_of_ble_eq_true rfl)).mp (ax_gx hE (131, [3]) ax_m0)
  obtain ⟨-, F154⟩ : ay_ex hp 173 ∧ ay_ln (ay_at hp 173 14) = pz_at (pz_gt (ρ 0)) (pz_gN (ρ 0)) (pz_p (pz_cF (ρ 0) (ρ 1))) := (ax_XF_lt (x := 154) (Nat.le_of_ble_eq_true rfl)).mp (ax_gx hE (154, [3, 7]) ax_m1)
  rw [c_at] at F154
  have F212 : pz_x62 (ρ 0) (ρ 1) (4020) (8) := (ax_XF_lt (x := 212) (Nat.le_of_ble_eq_true rfl)).mp (ax_gx hE (212, [3, 7, 4020, 8]) ax_m5)
  have ep : ρ 2 / 4 = pz_at (pz_gt (ρ 0)) (pz_gN (ρ 0)) (pz_p (pz_cf (pz_gt (ρ 0)) (pz_gN (ρ 0)) (ρ 1 / 4))) := F154
  have hw : pz_at (pz_gt (ρ 0)) (pz_gN (ρ 0)) (pz_p (pz_cf (pz_gt (ρ 0)) (pz_gN (ρ 0)) (ρ 1 / 4))) < pz_gN (ρ 0) ∧ pz_nx (pz_gt (ρ 0)) (pz_gN (ρ 0)) (pz_p (pz_cf (pz_gt (ρ 0)) (pz_gN (ρ 0)) (ρ 1 / 4))) ≤ pz_gN (ρ 0) := pz_wd_le F212.1
  have hln : pz_nx (pz_gt (ρ 0)) (pz_gN (ρ 0)) (pz_p (pz_cf (pz_gt (ρ 0)) (pz_gN (ρ 0)) (ρ 1 / 4))) - pz_at (pz_gt (ρ 0)) (pz_gN (ρ 0)) (pz_p (pz_cf (pz_gt (ρ 0)) (pz_gN (ρ 0)) (ρ 1 / 4))) = 3 := F212.2.1
  have ha1 := (pz_ps 0 800 i2b i2c i2d (by decide))
  have hq1 : ρ 3 / 4 = ρ 2 / 4 + 2 := pz_sm (by omega) (by decide) i3b s1
  have hb := F131.2.2 (ρ 3 / 4) (by have := hw.2; omega)
  rw [c_tape] at hb
  have hb := Option.some.inj hb
  rw [show ρ 3 / 4 = pz_at (pz_gt (ρ 0)) (pz_gN (ρ 0)) (pz_p (pz_cf (pz_gt (ρ 0)) (pz_gN (ρ 0)) (ρ 1 / 4))) + 2 by omega] at hb
  have hb2 : pz_b (pz_gt (ρ 0)) (pz_at (pz_gt (ρ 0)) (pz_gN (ρ 0)) (pz_p (pz_cf (pz_gt (ρ 0)) (pz_gN (ρ 0)) (ρ 1 / 4))) + 2) = ρ 4 / 4 := by omega
  refine ⟨(fun y hy => by cases hy), _, List.mem_cons_self, ρ, fun _ _ => rfl, ax_px hE rfl (fun x hx => ?_)⟩
  cases List.mem_singleton.mp hx
  refine (ax_XF_lt (x := 212) (Nat.le_of_ble_eq_true rfl)).mpr ?_
  show pz_x62 (ρ 0) (ρ 1) (4020) (12)
  refine ⟨F212.1, F212.2.1, fun i hi => ?_⟩
  replace hi : i < 3 := hi
  by_cases h : i < 2
  · exact F212.2.2 i h
  · have e : i = 2 := by omega
    subst e
    exact hb2.trans (show ρ 4 / 4 = 114 by omega)
theorem axq0_is3_5_2 : ax_RO ax_wM0 (ax_XM 0) axu0_is3_5_2 := axqg_is3_5_2 ax_WW0
theorem axqg_is4a_5_2 {w : ax_W} {b : Nat} (hw : ax_WW w) : ax_RO w (ax_XM b) axu0_is4a_5_2 := by
  intro ρ hp hE hT
  have j0 : ρ 0 % 4 = 1 := pz_gj hE 0 (Nat.le_of_ble_eq_true rfl) rfl
  have j1 : ρ 1 % 4 = 1 := pz_gj hE 1 (Nat.le_of_ble_eq_true rfl) rfl
  obtain ⟨i2a, i2b, i2c, i2d⟩ := pz_gi hE 2 2147483648 2147484448 (Nat.le_of_ble_eq_true rfl) rfl
  obtain ⟨i3a, i3b, i3c, i3d⟩ := pz_gi hE 3 0 4294967295 (Nat.le_of_ble_eq_true rfl) rfl
  obtain ⟨i4a, i4b, i4c, i4d⟩ := pz_gi hE 4 2147483520 2147483761 (Nat.le_of_ble_eq_true rfl) rfl
  have c_at : ay_at hp 173 14 = some (ρ 2) := ay_gfj hE 702 56 11 173 14 ax_m2 (ax_vlq rfl rfl) (ax_vlj rfl rfl)
  have s1 : (ρ 2 / 4 + 2147483648) % 4294967296 + (8 / 4 + 2147483648) % 4294967296 = (ρ 3 / 4 + 2147483648) % 4294967296 + 2147483648 := pz_gs hE 11 8 15 ax_m3
  have c_tape : ay_at hp 183 (ρ 3 / 4) = some (ρ 4) := ay_gf hE 742 15 19 183 ax_m4 (ax_vlq rfl rfl)
  obtain ⟨-, -, F131⟩ : ay_ex hp 173 ∧ ay_ex hp 183 ∧ pz_x30 (ρ 0) (ay_at hp 173 12) (ay_at hp 183) := (ax_XF_lt (x := 131) (Nat.le_of_ble_eq_true rfl)).mp (ax_gx hE (131, [3]) ax_m0)
  obtain ⟨-, F154⟩ : ay_ex hp 173 ∧ ay_ln (ay_at hp 173 14) = pz_at (pz_gt (ρ 0)) (pz_gN (ρ 0)) (pz_p (pz_cF (ρ 0) (ρ 1))) := (ax_XF_lt (x := 154) (Nat.le_of_ble_eq_true rfl)).mp (ax_gx hE (154, [3, 7]) ax_m1)
  rw [c_at] at F154
  have F212 : pz_x62 (ρ 0) (ρ 1) (4020) (8) := (ax_XF_lt (x := 212) (Nat.le_of_ble_eq_true rfl)).mp (ax_gx hE (212, [3, 7, 4020, 8]) ax_m5)
  have ep : ρ 2 / 4 = pz_at (pz_gt (ρ 0)) (pz_gN (ρ 0)) (pz_p (pz_cf (pz_gt (ρ 0)) (pz_gN (ρ 0)) (ρ 1 / 4))) := F154
  have hw : pz_at (pz_gt (ρ 0)) (pz_gN (ρ 0)) (pz_p (pz_cf (pz_gt (ρ 0)) (pz_gN (ρ 0)) (ρ 1 / 4))) < pz_gN (ρ 0) ∧ pz_nx (pz_gt (ρ 0)) (pz_gN (ρ 0)) (pz_p (pz_cf (pz_gt (ρ 0)) (pz_gN (ρ 0)) (ρ 1 / 4))) ≤ pz_gN (ρ 0) := pz_wd_le F212.1
  have hln : pz_nx (pz_gt (ρ 0)) (pz_gN (ρ 0)) (pz_p (pz_cf (pz_gt (ρ 0)) (pz_gN (ρ 0)) (ρ 1 / 4))) - pz_at (pz_gt (ρ 0)) (pz_gN (ρ 0)) (pz_p (pz_cf (pz_gt (ρ 0)) (pz_gN (ρ 0)) (ρ 1 / 4))) = 3 := F212.2.1
  have ha1 := (pz_ps 0 800 i2b i2c i2d (by decide))
  have hq1 : ρ 3 / 4 = ρ 2 / 4 + 2 := pz_sm (by omega) (by decide) i3b s1
  have hb := F131.2.2 (ρ 3 / 4) (by have := hw.2; omega)
  rw [c_tape] at hb
  have hb := Option.some.inj hb
  rw [show ρ 3 / 4 = pz_at (pz_gt (ρ 0)) (pz_gN (ρ 0)) (pz_p (pz_cf (pz_gt (ρ 0)) (pz_gN (ρ 0)) (ρ 1 / 4))) + 2 by omega] at hb
  have hb2 : pz_b (pz_gt (ρ 0)) (pz_at (pz_gt (ρ 0)) (pz_gN (ρ 0)) (pz_p (pz_cf (pz_gt (ρ 0)) (pz_gN (ρ 0)) (ρ 1 / 4))) + 2) = ρ 4 / 4 := by omega
  refine ⟨(fun y hy => by cases hy), _, List.mem_cons_self, ρ, fun _ _ => rfl, ax_px hE rfl (fun x hx => ?_)⟩
  cases List.mem_singleton.mp hx
  refine (ax_XF_lt (x := 161) (Nat.le_of_ble_eq_true rfl)).mpr ?_
  show pz61 (pz_gt (ρ 0)) (pz_gN (ρ 0)) ((ρ 1) / 4) ((20) / 4)
  refine pz_is_no (Or.inr (Or.inr ⟨2, by decide, fun z => ?_⟩))
  have z2 : ρ 4 / 4 = 114 := hb2.symm.trans z
  omega
theorem axq0_is4a_5_2 : ax_RO ax_wM0 (ax_XM 0) axu0_is4a_5_2 := axqg_is4a_5_2 ax_WW0
theorem axqg_is4b_5_2 {w : ax_W} {b : Nat} (hw : ax_WW w) : ax_RO w (ax_XM b) axu0_is4b_5_2 := by
  intro ρ hp hE hT
  have j0 : ρ 0 % 4 = 1 := pz_gj hE 0 (Nat.le_of_ble_eq_true rfl) rfl
  have j1 : ρ 1 % 4 = 1 := pz_gj hE 1 (Nat.le_of_ble_eq_true rfl) rfl
  obtain ⟨i2a, i2b, i2c, i2d⟩ := pz_gi hE 2 2147483648 2147484448 (Nat.le_of_ble_eq_true rfl) rfl
  obtain ⟨i3a, i3b, i3c, i3d⟩ := pz_gi hE 3 0 4294967295 (Nat.le_of_ble_eq_true rfl) rfl
  obtain ⟨i4a, i4b, i4c, i4d⟩ := pz_gi hE 4 2147483763 2147483775 (Nat.le_of_ble_eq_true rfl) rfl
  have c_at : ay_at hp 173 14 = some (ρ 2) := ay_gfj hE 702 56 11 173 14 ax_m2 (ax_vlq rfl rfl) (ax_vlj rfl rfl)
  have s1 : (ρ 2 / 4 + 2147483648) % 4294967296 + (8 / 4 + 2147483648) % 4294967296 = (ρ 3 / 4 + 2147483648) % 4294967296 + 2147483648 := pz_gs hE 11 8 15 ax_m3
  have c_tape : ay_at hp 183 (ρ 3 / 4) = some (ρ 4) := ay_gf hE 742 15 19 183 ax_m4 (ax_vlq rfl rfl)
  obtain ⟨-, -, F131⟩ : ay_ex hp 173 ∧ ay_ex hp 183 ∧ pz_x30 (ρ 0) (ay_at hp 173 12) (ay_at hp 183) := (ax_XF_lt (x := 131) (Nat.le_of_ble_eq_true rfl)).mp (ax_gx hE (131, [3]) ax_m0)
  obtain ⟨-, F154⟩ : ay_ex hp 173 ∧ ay_ln (ay_at hp 173 14) = pz_at (pz_gt (ρ 0)) (pz_gN (ρ 0)) (pz_p (pz_cF (ρ 0) (ρ 1))) := (ax_XF_lt (x := 154) (Nat.le_of_ble_eq_true rfl)).mp (ax_gx hE (154, [3, 7]) ax_m1)
  rw [c_at] at F154
  have F212 : pz_x62 (ρ 0) (ρ 1) (4020) (8) := (ax_XF_lt (x := 212) (Nat.le_of_ble_eq_true rfl)).mp (ax_gx hE (212, [3, 7, 4020, 8]) ax_m5)
  have ep : ρ 2 / 4 = pz_at (pz_gt (ρ 0)) (pz_gN (ρ 0)) (pz_p (pz_cf (pz_gt (ρ 0)) (pz_gN (ρ 0)) (ρ 1 / 4))) := F154
  have hw : pz_at (pz_gt (ρ 0)) (pz_gN (ρ 0)) (pz_p (pz_cf (pz_gt (ρ 0)) (pz_gN (ρ 0)) (ρ 1 / 4))) < pz_gN (ρ 0) ∧ pz_nx (pz_gt (ρ 0)) (pz_gN (ρ 0)) (pz_p (pz_cf (pz_gt (ρ 0)) (pz_gN (ρ 0)) (ρ 1 / 4))) ≤ pz_gN (ρ 0) := pz_wd_le F212.1
  have hln : pz_nx (pz_gt (ρ 0)) (pz_gN (ρ 0)) (pz_p (pz_cf (pz_gt (ρ 0)) (pz_gN (ρ 0)) (ρ 1 / 4))) - pz_at (pz_gt (ρ 0)) (pz_gN (ρ 0)) (pz_p (pz_cf (pz_gt (ρ 0)) (pz_gN (ρ 0)) (ρ 1 / 4))) = 3 := F212.2.1
  have ha1 := (pz_ps 0 800 i2b i2c i2d (by decide))
  have hq1 : ρ 3 / 4 = ρ 2 / 4 + 2 := pz_sm (by omega) (by decide) i3b s1
  have hb := F131.2.2 (ρ 3 / 4) (by have := hw.2; omega)
  rw [c_tape] at hb
  have hb := Option.some.inj hb
  rw [show ρ 3 / 4 = pz_at (pz_gt (ρ 0)) (pz_gN (ρ 0)) (pz_p (pz_cf (pz_gt (ρ 0)) (pz_gN (ρ 0)) (ρ 1 / 4))) + 2 by omega] at hb
  have hb2 : pz_b (pz_gt (ρ 0)) (pz_at (pz_gt (ρ 0)) (pz_gN (ρ 0)) (pz_p (pz_cf (pz_gt (ρ 0)) (pz_gN (ρ 0)) (ρ 1 / 4))) + 2) = ρ 4 / 4 := by omega
  refine ⟨(fun y hy => by cases hy), _, List.mem_cons_self, ρ, fun _ _ => rfl, ax_px hE rfl (fun x hx => ?_)⟩
  cases List.mem_singleton.mp hx
  refine (ax_XF_lt (x := 161) (Nat.le_of_ble_eq_true rfl)).mpr ?_
  show pz61 (pz_gt (ρ 0)) (pz_gN (ρ 0)) ((ρ 1) / 4) ((20) / 4)
  refine pz_is_no (Or.inr (Or.inr ⟨2, by decide, fun z => ?_⟩))
  have z2 : ρ 4 / 4 = 114 := hb2.symm.trans z
  omega
theorem axq0_is4b_5_2 : ax_RO ax_wM0 (ax_XM 0) axu0_is4b_5_2 := axqg_is4b_5_2 ax_WW0
theorem axqg_is5_5 {w : ax_W} {b : Nat} (hw : ax_WW w) : ax_RO w (ax_XM b) axu0_is5_5 := by
  intro ρ hp hE hT
  have j0 : ρ 0 % 4 = 1 := pz_gj hE 0 (Nat.le_of_ble_eq_true rfl) rfl
  have j1 : ρ 1 % 4 = 1 := pz_gj hE 1 (Nat.le_of_ble_eq_true rfl) rfl
  have F212 : pz_x62 (ρ 0) (ρ 1) (4020) (12) := (ax_XF_lt (x := 212) (Nat.le_of_ble_eq_true rfl)).mp (ax_gx hE (212, [3, 7, 4020, 12]) ax_m0)
  refine ⟨(fun y hy => by cases hy), _, List.mem_cons_self, ρ, fun _ _ => rfl, ax_px hE rfl (fun x hx => ?_)⟩
  cases List.mem_singleton.mp hx
  refine (ax_XF_lt (x := 160) (Nat.le_of_ble_eq_true rfl)).mpr ?_
  show pz60 (pz_gt (ρ 0)) (pz_gN (ρ 0)) ((ρ 1) / 4) ((20) / 4)
  exact pz_is_yes F212.1 F212.2.1 (fun i hi => F212.2.2 i hi)
theorem axq0_is5_5 : ax_RO ax_wM0 (ax_XM 0) axu0_is5_5 := axqg_is5_5 ax_WW0
theorem axqg_is1a_6 {w : ax_W} {b : Nat} (hw : ax_WW w) : ax_RO w (ax_XM b) axu0_is1a_6 := by
  intro ρ hp hE hT
  have j0 : ρ 0 % 4 = 1 := pz_gj hE 0 (Nat.le_of_ble_eq_true rfl) rfl
  have j1 : ρ 1 % 4 = 1 := pz_gj hE 1 (Nat.le_of_ble_eq_true rfl) rfl
  obtain ⟨i2a, i2b, i2c, i2d⟩ := pz_gi hE 2 2147482848 2147483653 (Nat.le_of_ble_eq_true rfl) rfl
  obtain ⟨i3a, i3b, i3c, i3d⟩ := pz_gi hE 3 2147483648 2147484448 (Nat.le_of_ble_eq_true rfl) rfl
  obtain ⟨i4a, i4b, i4c, i4d⟩ := pz_gi hE 4 2147483648 2147484448 (Nat.le_of_ble_eq_true rfl) rfl
  have c_next : ay_at hp 173 13 = some (ρ 4) := ay_gfj hE 702 52 19 173 13 ax_m2 (ax_vlq rfl rfl) (ax_vlj rfl rfl)
  have c_at : ay_at hp 173 14 = some (ρ 3) := ay_gfj hE 702 56 15 173 14 ax_m3 (ax_vlq rfl rfl) (ax_vlj rfl rfl)
  have s1 : (ρ 2 / 4 + 2147483648) % 4294967296 + (ρ 3 / 4 + 2147483648) % 4294967296 = (ρ 4 / 4 + 2147483648) % 4294967296 + 2147483648 := pz_gs hE 11 15 19 ax_m4
  obtain ⟨-, F154⟩ : ay_ex hp 173 ∧ ay_ln (ay_at hp 173 14) = pz_at (pz_gt (ρ 0)) (pz_gN (ρ 0)) (pz_p (pz_cF (ρ 0) (ρ 1))) := (ax_XF_lt (x := 154) (Nat.le_of_ble_eq_true rfl)).mp (ax_gx hE (154, [3, 7]) ax_m0)
  rw [c_at] at F154
  obtain ⟨-, F156⟩ : ay_ex hp 173 ∧ ay_ln (ay_at hp 173 13) = pz_nx (pz_gt (ρ 0)) (pz_gN (ρ 0)) (pz_p (pz_cF (ρ 0) (ρ 1))) := (ax_XF_lt (x := 156) (Nat.le_of_ble_eq_true rfl)).mp (ax_gx hE (156, [3, 7]) ax_m1)
  rw [c_next] at F156
  have e1 : ρ 4 / 4 = pz_nx (pz_gt (ρ 0)) (pz_gN (ρ 0)) (pz_p (pz_cf (pz_gt (ρ 0)) (pz_gN (ρ 0)) (ρ 1 / 4))) := F156
  have e2 : ρ 3 / 4 = pz_at (pz_gt (ρ 0)) (pz_gN (ρ 0)) (pz_p (pz_cf (pz_gt (ρ 0)) (pz_gN (ρ 0)) (ρ 1 / 4))) := F154
  refine ⟨(fun y hy => by cases hy), _, List.mem_cons_self, ρ, fun _ _ => rfl, ax_px hE rfl (fun x hx => ?_)⟩
  cases List.mem_singleton.mp hx
  refine (ax_XF_lt (x := 161) (Nat.le_of_ble_eq_true rfl)).mpr ?_
  show pz61 (pz_gt (ρ 0)) (pz_gN (ρ 0)) ((ρ 1) / 4) ((24) / 4)
  refine pz_is_no (Or.inr (Or.inl ?_))
  show pz_nx (pz_gt (ρ 0)) (pz_gN (ρ 0)) (pz_p (pz_cf (pz_gt (ρ 0)) (pz_gN (ρ 0)) (ρ 1 / 4))) - pz_at (pz_gt (ρ 0)) (pz_gN (ρ 0)) (pz_p (pz_cf (pz_gt (ρ 0)) (pz_gN (ρ 0)) (ρ 1 / 4))) ≠ 6
  omega
theorem axq0_is1a_6 : ax_RO ax_wM0 (ax_XM 0) axu0_is1a_6 := axqg_is1a_6 ax_WW0
theorem axqg_is1b_6 {w : ax_W} {b : Nat} (hw : ax_WW w) : ax_RO w (ax_XM b) axu0_is1b_6 := by
  intro ρ hp hE hT
  have j0 : ρ 0 % 4 = 1 := pz_gj hE 0 (Nat.le_of_ble_eq_true rfl) rfl
  have j1 : ρ 1 % 4 = 1 := pz_gj hE 1 (Nat.le_of_ble_eq_true rfl) rfl
  obtain ⟨i2a, i2b, i2c, i2d⟩ := pz_gi hE 2 2147483655 2147484449 (Nat.le_of_ble_eq_true rfl) rfl
  obtain ⟨i3a, i3b, i3c, i3d⟩ := pz_gi hE 3 2147483648 2147484448 (Nat.le_of_ble_eq_true rfl) rfl
  obtain ⟨i4a, i4b, i4c, i4d⟩ := pz_gi hE 4 2147483648 2147484448 (Nat.le_of_ble_eq_true rfl) rfl
  have c_next : ay_at hp 173 13 = some (ρ 4) := ay_gfj hE 702 52 19 173 13 ax_m2 (ax_vlq rfl rfl) (ax_vlj rfl rfl)
  have c_at : ay_at hp 173 14 = some (ρ 3) := ay_gfj hE 702 56 15 173 14 ax_m3 (ax_vlq rfl rfl) (ax_vlj rfl rfl)
  have s1 : (ρ 2 / 4 + 2147483648) % 4294967296 + (ρ 3 / 4 + 2147483648) % 4294967296 = (ρ 4 / 4 + 2147483648) % 4294967296 + 2147483648 := pz_gs hE 11 15 19 ax_m4
  obtain ⟨-, F154⟩ : ay_ex hp 173 ∧ ay_ln (ay_at hp 173 14) = pz_at (pz_gt (ρ 0)) (pz_gN (ρ 0)) (pz_p (pz_cF (ρ 0) (ρ 1))) := (ax_XF_lt (x := 154) (Nat.le_of_ble_eq_true rfl)).mp (ax_gx hE (154, [3, 7]) ax_m0)
  rw [c_at] at F154
  obtain ⟨-, F156⟩ : ay_ex hp 173 ∧ ay_ln (ay_at hp 173 13) = pz_nx (pz_gt (ρ 0)) (pz_gN (ρ 0)) (pz_p (pz_cF (ρ 0) (ρ 1))) := (ax_XF_lt (x := 156) (Nat.le_of_ble_eq_true rfl)).mp (ax_gx hE (156, [3, 7]) ax_m1)
  rw [c_next] at F156
  have e1 : ρ 4 / 4 = pz_nx (pz_gt (ρ 0)) (pz_gN (ρ 0)) (pz_p (pz_cf (pz_gt (ρ 0)) (pz_gN (ρ 0)) (ρ 1 / 4))) := F156
  have e2 : ρ 3 / 4 = pz_at (pz_gt (ρ 0)) (pz_gN (ρ 0)) (pz_p (pz_cf (pz_gt (ρ 0)) (pz_gN (ρ 0)) (ρ 1 / 4))) := F154
  refine ⟨(fun y hy => by cases hy), _, List.mem_cons_self, ρ, fun _ _ => rfl, ax_px hE rfl (fun x hx => ?_)⟩
  cases List.mem_singleton.mp hx
  refine (ax_XF_lt (x := 161) (Nat.le_of_ble_eq_true rfl)).mpr ?_
  show pz61 (pz_gt (ρ 0)) (pz_gN (ρ 0)) ((ρ 1) / 4) ((24) / 4)
  refine pz_is_no (Or.inr (Or.inl ?_))
  show pz_nx (pz_gt (ρ 0)) (pz_gN (ρ 0)) (pz_p (pz_cf (pz_gt (ρ 0)) (pz_gN (ρ 0)) (ρ 1 / 4))) - pz_at (pz_gt (ρ 0)) (pz_gN (ρ 0)) (pz_p (pz_cf (pz_gt (ρ 0)) (pz_gN (ρ 0)) (ρ 1 / 4))) ≠ 6
  omega
theorem axq0_is1b_6 : ax_RO ax_wM0 (ax_XM 0) axu0_is1b_6 := axqg_is1b_6 ax_WW0
theorem axqg_is2_6 {w : ax_W} {b : Nat} (hw : ax_WW w) : ax_RO w (ax_XM b) axu0_is2_6 := by
  intro ρ hp hE hT
  have j0 : ρ 0 % 4 = 1 := pz_gj hE 0 (Nat.le_of_ble_eq_true rfl) rfl
  have j1 : ρ 1 % 4 = 1 := pz_gj hE 1 (Nat.le_of_ble_eq_true rfl) rfl
  obtain ⟨i2a, i2b, i2c, i2d⟩ := pz_gi hE 2 2147483654 2147483654 (Nat.le_of_ble_eq_true rfl) rfl
  obtain ⟨i3a, i3b, i3c, i3d⟩ := pz_gi hE 3 2147483648 2147484448 (Nat.le_of_ble_eq_true rfl) rfl
  obtain ⟨i4a, i4b, i4c, i4d⟩ := pz_gi hE 4 2147483648 2147484448 (Nat.le_of_ble_eq_true rfl) rfl
  have c_next : ay_at hp 173 13 = some (ρ 4) := ay_gfj hE 702 52 19 173 13 ax_m3 (ax_vlq rfl rfl) (ax_vlj rfl rfl)
  have c_at : ay_at hp 173 14 = some (ρ 3) := ay_gfj hE 702 56 15 173 14 ax_m4 (ax_vlq rfl rfl) (ax_vlj rfl rfl)
  have s1 : (ρ 2 / 4 + 2147483648) % 4294967296 + (ρ 3 / 4 + 2147483648) % 4294967296 = (ρ 4 / 4 + 2147483648) % 4294967296 + 2147483648 := pz_gs hE 11 15 19 ax_m5
  have F168 : pz_kd (pz_gt (ρ 0)) (pz_gN (ρ 0)) (pz_p (pz_cF (ρ 0) (ρ 1))) = (4) / 4 := (ax_XF_lt (x := 168) (Nat.le_of_ble_eq_true rfl)).mp (ax_gx hE (168, [3, 7, 4]) ax_m0)
  obtain ⟨-, F154⟩ : ay_ex hp 173 ∧ ay_ln (ay_at hp 173 14) = pz_at (pz_gt (ρ 0)) (pz_gN (ρ 0)) (pz_p (pz_cF (ρ 0) (ρ 1))) := (ax_XF_lt (x := 154) (Nat.le_of_ble_eq_true rfl)).mp (ax_gx hE (154, [3, 7]) ax_m1)
  rw [c_at] at F154
  obtain ⟨-, F156⟩ : ay_ex hp 173 ∧ ay_ln (ay_at hp 173 13) = pz_nx (pz_gt (ρ 0)) (pz_gN (ρ 0)) (pz_p (pz_cF (ρ 0) (ρ 1))) := (ax_XF_lt (x := 156) (Nat.le_of_ble_eq_true rfl)).mp (ax_gx hE (156, [3, 7]) ax_m2)
  rw [c_next] at F156
  have e1 : ρ 4 / 4 = pz_nx (pz_gt (ρ 0)) (pz_gN (ρ 0)) (pz_p (pz_cf (pz_gt (ρ 0)) (pz_gN (ρ 0)) (ρ 1 / 4))) := F156
  have e2 : ρ 3 / 4 = pz_at (pz_gt (ρ 0)) (pz_gN (ρ 0)) (pz_p (pz_cf (pz_gt (ρ 0)) (pz_gN (ρ 0)) (ρ 1 / 4))) := F154
  refine ⟨(fun y hy => by cases hy), _, List.mem_cons_self, ρ, fun _ _ => rfl, ax_px hE rfl (fun x hx => ?_)⟩
  cases List.mem_singleton.mp hx
  refine (ax_XF_lt (x := 212) (Nat.le_of_ble_eq_true rfl)).mpr ?_
  show pz_x62 (ρ 0) (ρ 1) (4024) (0)
  refine ⟨F168, ?_, fun j hj => absurd (show j < 0 from hj) (by omega)⟩
  show pz_nx (pz_gt (ρ 0)) (pz_gN (ρ 0)) (pz_p (pz_cf (pz_gt (ρ 0)) (pz_gN (ρ 0)) (ρ 1 / 4))) - pz_at (pz_gt (ρ 0)) (pz_gN (ρ 0)) (pz_p (pz_cf (pz_gt (ρ 0)) (pz_gN (ρ 0)) (ρ 1 / 4))) = 6
  omega
theorem axq0_is2_6 : ax_RO ax_wM0 (ax_XM 0) axu0_is2_6 := axqg_is2_6 ax_WW0
theorem axqg_is3_6_0 {w : ax_W} {b : Nat} (hw : ax_WW w) : ax_RO w (ax_XM b) axu0_is3_6_0 := by
  intro ρ hp hE hT
  have j0 : ρ 0 % 4 = 1 := pz_gj hE 0 (Nat.le_of_ble_eq_true rfl) rfl
  have j1 : ρ 1 % 4 = 1 := pz_gj hE 1 (Nat.le_of_ble_eq_true rfl) rfl
  obtain ⟨i2a, i2b, i2c, i2d⟩ := pz_gi hE 2 2147483648 2147484448 (Nat.le_of_ble_eq_true rfl) rfl
  obtain ⟨i3a, i3b, i3c, i3d⟩ := pz_gi hE 3 0 4294967295 (Nat.le_of_ble_eq_true rfl) rfl
  obtain ⟨i4a, i4b, i4c, i4d⟩ := pz_gi hE 4 2147483758 2147483758 (Nat.le_of_ble_eq_true rfl) rfl
  have c_at : ay_at hp 173 14 = some (ρ 2) := ay_gfj hE 702 56 11 173 14 ax_m2 (ax_vlq rfl rfl) (ax_vlj rfl rfl)
  have s1 : (ρ 2 / 4 + 2147483648) % 4294967296 + (0 / 4 + 2147483648) % 4294967296 = (ρ 3 / 4 + 2147483648) % 4294967296 + 2147483648 := pz_gs hE 11 0 15 ax_m3
  have c_tape : ay_at hp 183 (ρ 3 / 4) = some (ρ 4) := ay_gf hE 742 15 19 183 ax_m4 (ax_vlq rfl rfl)
  obtain ⟨-, -, F131⟩ : ay_ex hp 173 ∧ ay_ex hp 183 ∧ pz_x30 (ρ 0) (ay_at hp 173 12) (ay_at hp 183) := (ax_XF_lt (x := 131) (Nat.le_of_ble_eq_true rfl)).mp (ax_gx hE (131, [3]) ax_m0)
  obtain ⟨-, F154⟩ : ay_ex hp 173 ∧ ay_ln (ay_at hp 173 14) = pz_at (pz_gt (ρ 0)) (pz_gN (ρ 0)) (pz_p (pz_cF (ρ 0) (ρ 1))) := (ax_XF_lt (x := 154) (Nat.le_of_ble_eq_true rfl)).mp (ax_gx hE (154, [3, 7]) ax_m1)
  rw [c_at] at F154
  have F212 : pz_x62 (ρ 0) (ρ 1) (4024) (0) := (ax_XF_lt (x := 212) (Nat.le_of_ble_eq_true rfl)).mp (ax_gx hE (212, [3, 7, 4024, 0]) ax_m5)
  have ep : ρ 2 / 4 = pz_at (pz_gt (ρ 0)) (pz_gN (ρ 0)) (pz_p (pz_cf (pz_gt (ρ 0)) (pz_gN (ρ 0)) (ρ 1 / 4))) := F154
  have hw : pz_at (pz_gt (ρ 0)) (pz_gN (ρ 0)) (pz_p (pz_cf (pz_gt (ρ 0)) (pz_gN (ρ 0)) (ρ 1 / 4))) < pz_gN (ρ 0) ∧ pz_nx (pz_gt (ρ 0)) (pz_gN (ρ 0)) (pz_p (pz_cf (pz_gt (ρ 0)) (pz_gN (ρ 0)) (ρ 1 / 4))) ≤ pz_gN (ρ 0) := pz_wd_le F212.1
  have hln : pz_nx (pz_gt (ρ 0)) (pz_gN (ρ 0)) (pz_p (pz_cf (pz_gt (ρ 0)) (pz_gN (ρ 0)) (ρ 1 / 4))) - pz_at (pz_gt (ρ 0)) (pz_gN (ρ 0)) (pz_p (pz_cf (pz_gt (ρ 0)) (pz_gN (ρ 0)) (ρ 1 / 4))) = 6 := F212.2.1
  have ha1 := (pz_ps 0 800 i2b i2c i2d (by decide))
  have hq1 : ρ 3 / 4 = ρ 2 / 4 + 0 := pz_sm (by omega) (by decide) i3b s1
  have hb := F131.2.2 (ρ 3 / 4) (by have := hw.2; omega)
  rw [c_tape] at hb
  have hb := Option.some.inj hb
  rw [show ρ 3 / 4 = pz_at (pz_gt (ρ 0)) (pz_gN (ρ 0)) (pz_p (pz_cf (pz_gt (ρ 0)) (pz_gN (ρ 0)) (ρ 1 / 4))) + 0 by omega] at hb
  have hb2 : pz_b (pz_gt (ρ 0)) (pz_at (pz_gt (ρ 0)) (pz_gN (ρ 0)) (pz_p (pz_cf (pz_gt (ρ 0)) (pz_gN (ρ 0)) (ρ 1 / 4))) + 0) = ρ 4 / 4 := by omega
  refine ⟨(fun y hy => by cases hy), _, List.mem_cons_self, ρ, fun _ _ => rfl, ax_px hE rfl (fun x hx => ?_)⟩
  cases List.mem_singleton.mp hx
  refine (ax_XF_lt (x := 212) (Nat.le_of_ble_eq_true rfl)).mpr ?_
  show pz_x62 (ρ 0) (ρ 1) (4024) (4)
  refine ⟨F212.1, F212.2.1, fun i hi => ?_⟩
  replace hi : i < 1 := hi
  by_cases h : i < 0
  · exact F212.2.2 i h
  · have e : i = 0 := by omega
    subst e
    exact hb2.trans (show ρ 4 / 4 = 110 by omega)
theorem axq0_is3_6_0 : ax_RO ax_wM0 (ax_XM 0) axu0_is3_6_0 := axqg_is3_6_0 ax_WW0
theorem axqg_is4a_6_0 {w : ax_W} {b : Nat} (hw : ax_WW w) : ax_RO w (ax_XM b) axu0_is4a_6_0 := by
  intro ρ hp hE hT
  have j0 : ρ 0 % 4 = 1 := pz_gj hE 0 (Nat.le_of_ble_eq_true rfl) rfl
  have j1 : ρ 1 % 4 = 1 := pz_gj hE 1 (Nat.le_of_ble_eq_true rfl) rfl
  obtain ⟨i2a, i2b, i2c, i2d⟩ := pz_gi hE 2 2147483648 2147484448 (Nat.le_of_ble_eq_true rfl) rfl
  obtain ⟨i3a, i3b, i3c, i3d⟩ := pz_gi hE 3 0 4294967295 (Nat.le_of_ble_eq_true rfl) rfl
  obtain ⟨i4a, i4b, i4c, i4d⟩ := pz_gi hE 4 2147483520 2147483757 (Nat.le_of_ble_eq_true rfl) rfl
  have c_at : ay_at hp 173 14 = some (ρ 2) := ay_gfj hE 702 56 11 173 14 ax_m2 (ax_vlq rfl rfl) (ax_vlj rfl rfl)
  have s1 : (ρ 2 / 4 + 2147483648) % 4294967296 + (0 / 4 + 2147483648) % 4294967296 = (ρ 3 / 4 + 2147483648) % 4294967296 + 2147483648 := pz_gs hE 11 0 15 ax_m3
  have c_tape : ay_at hp 183 (ρ 3 / 4) = some (ρ 4) := ay_gf hE 742 15 19 183 ax_m4 (ax_vlq rfl rfl)
  obtain ⟨-, -, F131⟩ : ay_ex hp 173 ∧ ay_ex hp 183 ∧ pz_x30 (ρ 0) (ay_at hp 173 12) (ay_at hp 183) := (ax_XF_lt (x := 131) (Nat.le_of_ble_eq_true rfl)).mp (ax_gx hE (131, [3]) ax_m0)
  obtain ⟨-, F154⟩ : ay_ex hp 173 ∧ ay_ln (ay_at hp 173 14) = pz_at (pz_gt (ρ 0)) (pz_gN (ρ 0)) (pz_p (pz_cF (ρ 0) (ρ 1))) := (ax_XF_lt (x := 154) (Nat.le_of_ble_eq_true rfl)).mp (ax_gx hE (154, [3, 7]) ax_m1)
  rw [c_at] at F154
  have F212 : pz_x62 (ρ 0) (ρ 1) (4024) (0) := (ax_XF_lt (x := 212) (Nat.le_of_ble_eq_true rfl)).mp (ax_gx hE (212, [3, 7, 4024, 0]) ax_m5)
  have ep : ρ 2 / 4 = pz_at (pz_gt (ρ 0)) (pz_gN (ρ 0)) (pz_p (pz_cf (pz_gt (ρ 0)) (pz_gN (ρ 0)) (ρ 1 / 4))) := F154
  have hw : pz_at (pz_gt (ρ 0)) (pz_gN (ρ 0)) (pz_p (pz_cf (pz_gt (ρ 0)) (pz_gN (ρ 0)) (ρ 1 / 4))) < pz_gN (ρ 0) ∧ pz_nx (pz_gt (ρ 0)) (pz_gN (ρ 0)) (pz_p (pz_cf (pz_gt (ρ 0)) (pz_gN (ρ 0)) (ρ 1 / 4))) ≤ pz_gN (ρ 0) := pz_wd_le F212.1
  have hln : pz_nx (pz_gt (ρ 0)) (pz_gN (ρ 0)) (pz_p (pz_cf (pz_gt (ρ 0)) (pz_gN (ρ 0)) (ρ 1 / 4))) - pz_at (pz_gt (ρ 0)) (pz_gN (ρ 0)) (pz_p (pz_cf (pz_gt (ρ 0)) (pz_gN (ρ 0)) (ρ 1 / 4))) = 6 := F212.2.1
  have ha1 := (pz_ps 0 800 i2b i2c i2d (by decide))
  have hq1 : ρ 3 / 4 = ρ 2 / 4 + 0 := pz_sm (by omega) (by decide) i3b s1
  have hb := F131.2.2 (ρ 3 / 4) (by have := hw.2; omega)
  rw [c_tape] at hb
  have hb := Option.some.inj hb
  rw [show ρ 3 / 4 = pz_at (pz_gt (ρ 0)) (pz_gN (ρ 0)) (pz_p (pz_cf (pz_gt (ρ 0)) (pz_gN (ρ 0)) (ρ 1 / 4))) + 0 by omega] at hb
  have hb2 : pz_b (pz_gt (ρ 0)) (pz_at (pz_gt (ρ 0)) (pz_gN (ρ 0)) (pz_p (pz_cf (pz_gt (ρ 0)) (pz_gN (ρ 0)) (ρ 1 / 4))) + 0) = ρ 4 / 4 := by omega
  refine ⟨(fun y hy => by cases hy), _, List.mem_cons_self, ρ, fun _ _ => rfl, ax_px hE rfl (fun x hx => ?_)⟩
  cases List.mem_singleton.mp hx
  refine (ax_XF_lt (x := 161) (Nat.le_of_ble_eq_true rfl)).mpr ?_
  show pz61 (pz_gt (ρ 0)) (pz_gN (ρ 0)) ((ρ 1) / 4) ((24) / 4)
  refine pz_is_no (Or.inr (Or.inr ⟨0, by decide, fun z => ?_⟩))
  have z2 : ρ 4 / 4 = 110 := hb2.symm.trans z
  omega
theorem axq0_is4a_6_0 : ax_RO ax_wM0 (ax_XM 0) axu0_is4a_6_0 := axqg_is4a_6_0 ax_WW0
theorem axqg_is4b_6_0 {w : ax_W} {b : Nat} (hw : ax_WW w) : ax_RO w (ax_XM b) axu0_is4b_6_0 := by
  intro ρ hp hE hT
  have j0 : ρ 0 % 4 = 1 := pz_gj hE 0 (Nat.le_of_ble_eq_true rfl) rfl
  have j1 : ρ 1 % 4 = 1 := pz_gj hE 1 (Nat.le_of_ble_eq_true rfl) rfl
  obtain ⟨i2a, i2b, i2c, i2d⟩ := pz_gi hE 2 2147483648 2147484448 (Nat.le_of_ble_eq_true rfl) rfl
  obtain ⟨i3a, i3b, i3c, i3d⟩ := pz_gi hE 3 0 4294967295 (Nat.le_of_ble_eq_true rfl) rfl
  obtain ⟨i4a, i4b, i4c, i4d⟩ := pz_gi hE 4 2147483759 2147483775 (Nat.le_of_ble_eq_true rfl) rfl
  have c_at : ay_at hp 173 14 = some (ρ 2) := ay_gfj hE 702 56 11 173 14 ax_m2 (ax_vlq rfl rfl) (ax_vlj rfl rfl)
  have s1 : (ρ 2 / 4 + 2147483648) % 4294967296 + (0 / 4 + 2147483648) % 4294967296 = (ρ 3 / 4 + 2147483648) % 4294967296 + 2147483648 := pz_gs hE 11 0 15 ax_m3
  have c_tape : ay_at hp 183 (ρ 3 / 4) = some (ρ 4) := ay_gf hE 742 15 19 183 ax_m4 (ax_vlq rfl rfl)
  obtain ⟨-, -, F131⟩ : ay_ex hp 173 ∧ ay_ex hp 183 ∧ pz_x30 (ρ 0) (ay_at hp 173 12) (ay_at hp 183) := (ax_XF_lt (x := 131) (Nat.le_of_ble_eq_true rfl)).mp (ax_gx hE (131, [3]) ax_m0)
  obtain ⟨-, F154⟩ : ay_ex hp 173 ∧ ay_ln (ay_at hp 173 14) = pz_at (pz_gt (ρ 0)) (pz_gN (ρ 0)) (pz_p (pz_cF (ρ 0) (ρ 1))) := (ax_XF_lt (x := 154) (Nat.le_of_ble_eq_true rfl)).mp (ax_gx hE (154, [3, 7]) ax_m1)
  rw [c_at] at F154
  have F212 : pz_x62 (ρ 0) (ρ 1) (4024) (0) := (ax_XF_lt (x := 212) (Nat.le_of_ble_eq_true rfl)).mp (ax_gx hE (212, [3, 7, 4024, 0]) ax_m5)
  have ep : ρ 2 / 4 = pz_at (pz_gt (ρ 0)) (pz_gN (ρ 0)) (pz_p (pz_cf (pz_gt (ρ 0)) (pz_gN (ρ 0)) (ρ 1 / 4))) := F154
  have hw : pz_at (pz_gt (ρ 0)) (pz_gN (ρ 0)) (pz_p (pz_cf (pz_gt (ρ 0)) (pz_gN (ρ 0)) (ρ 1 / 4))) < pz_gN (ρ 0) ∧ pz_nx (pz_gt (ρ 0)) (pz_gN (ρ 0)) (pz_p (pz_cf (pz_gt (ρ 0)) (pz_gN (ρ 0)) (ρ 1 / 4))) ≤ pz_gN (ρ 0) := pz_wd_le F212.1
  have hln : pz_nx (pz_gt (ρ 0)) (pz_gN (ρ 0)) (pz_p (pz_cf (pz_gt (ρ 0)) (pz_gN (ρ 0)) (ρ 1 / 4))) - pz_at (pz_gt (ρ 0)) (pz_gN (ρ 0)) (pz_p (pz_cf (pz_gt (ρ 0)) (pz_gN (ρ 0)) (ρ 1 / 4))) = 6 := F212.2.1
  have ha1 := (pz_ps 0 800 i2b i2c i2d (by decide))
  have hq1 : ρ 3 / 4 = ρ 2 / 4 + 0 := pz_sm (by omega) (by decide) i3b s1
  have hb := F131.2.2 (ρ 3 / 4) (by have := hw.2; omega)
  rw [c_tape] at hb
  have hb := Option.some.inj hb
  rw [show ρ 3 / 4 = pz_at (pz_gt (ρ 0)) (pz_gN (ρ 0)) (pz_p (pz_cf (pz_gt (ρ 0)) (pz_gN (ρ 0)) (ρ 1 / 4))) + 0 by omega] at hb
  have hb2 : pz_b (pz_gt (ρ 0)) (pz_at (pz_gt (ρ 0)) (pz_gN (ρ 0)) (pz_p (pz_cf (pz_gt (ρ 0)) (pz_gN (ρ 0)) (ρ 1 / 4))) + 0) = ρ 4 / 4 := by omega
  refine ⟨(fun y hy => by cases hy), _, List.mem_cons_self, ρ, fun _ _ => rfl, ax_px hE rfl (fun x hx => ?_)⟩
  cases List.mem_singleton.mp hx
  refine (ax_XF_lt (x := 161) (Nat.le_of_ble_eq_true rfl)).mpr ?_
  show pz61 (pz_gt (ρ 0)) (pz_gN (ρ 0)) ((ρ 1) / 4) ((24) / 4)
  refine pz_is_no (Or.inr (Or.inr ⟨0, by decide, fun z => ?_⟩))
  have z2 : ρ 4 / 4 = 110 := hb2.symm.trans z
  omega
theorem axq0_is4b_6_0 : ax_RO ax_wM0 (ax_XM 0) axu0_is4b_6_0 := axqg_is4b_6_0 ax_WW0
theorem axqg_is3_6_1 {w : ax_W} {b : Nat} (hw : ax_WW w) : ax_RO w (ax_XM b) axu0_is3_6_1 := by
  intro ρ hp hE hT
  have j0 : ρ 0 % 4 = 1 := pz_gj hE 0 (Nat.le_of_ble_eq_true rfl) rfl
  have j1 : ρ 1 % 4 = 1 := pz_gj hE 1 (Nat.le_of_ble_eq_true rfl) rfl
  obtain ⟨i2a, i2b, i2c, i2d⟩ := pz_gi hE 2 2147483648 2147484448 (Nat.le_of_ble_eq_true rfl) rfl
  obtain ⟨i3a, i3b, i3c, i3d⟩ := pz_gi hE 3 0 4294967295 (Nat.le_of_ble_eq_true rfl) rfl
  obtain ⟨i4a, i4b, i4c, i4d⟩ := pz_gi hE 4 2147483765 2147483765 (Nat.le_of_ble_eq_true rfl) rfl
  have c_at : ay_at hp 173 14 = some (ρ 2) := ay_gfj hE 702 56 11 173 14 ax_m2 (ax_vlq rfl rfl) (ax_vlj rfl rfl)
  have s1 : (ρ 2 / 4 + 2147483648) % 4294967296 + (4 / 4 + 2147483648) % 4294967296 = (ρ 3 / 4 + 2147483648) % 4294967296 + 2147483648 := pz_gs hE 11 4 15 ax_m3
  have c_tape : ay_at hp 183 (ρ 3 / 4) = some (ρ 4) := ay_gf hE 742 15 19 183 ax_m4 (ax_vlq rfl rfl)
  obtain ⟨-, -, F131⟩ : ay_ex hp 173 ∧ ay_ex hp 183 ∧ pz_x30 (ρ 0) (ay_at hp 173 12) (ay_at hp 183) := (ax_XF_lt (x := 131) (Nat.le_of_ble_eq_true rfl)).mp (ax_gx hE (131, [3]) ax_m0)
  obtain ⟨-, F154⟩ : ay_ex hp 173 ∧ ay_ln (ay_at hp 173 14) = pz_at (pz_gt (ρ 0)) (pz_gN (ρ 0)) (pz_p (pz_cF (ρ 0) (ρ 1))) := (ax_XF_lt (x := 154) (Nat.le_of_ble_eq_true rfl)).mp (ax_gx hE (154, [3, 7]) ax_m1)
  rw [c_at] at F154
  have F212 : pz_x62 (ρ 0) (ρ 1) (4024) (4) := (ax_XF_lt (x := 212) (Nat.le_of_ble_eq_true rfl)).mp (ax_gx hE (212, [3, 7, 4024, 4]) ax_m5)
  have ep : ρ 2 / 4 = pz_at (pz_gt (ρ 0)) (pz_gN (ρ 0)) (pz_p (pz_cf (pz_gt (ρ 0)) (pz_gN (ρ 0)) (ρ 1 / 4))) := F154
  have hw : pz_at (pz_gt (ρ 0)) (pz_gN (ρ 0)) (pz_p (pz_cf (pz_gt (ρ 0)) (pz_gN (ρ 0)) (ρ 1 / 4))) < pz_gN (ρ 0) ∧ pz_nx (pz_gt (ρ 0)) (pz_gN (ρ 0)) (pz_p (pz_cf (pz_gt (ρ 0)) (pz_gN (ρ 0)) (ρ 1 / 4))) ≤ pz_gN (ρ 0) := pz_wd_le F212.1
  have hln : pz_nx (pz_gt (ρ 0)) (pz_gN (ρ 0)) (pz_p (pz_cf (pz_gt (ρ 0)) (pz_gN (ρ 0)) (ρ 1 / 4))) - pz_at (pz_gt (ρ 0)) (pz_gN (ρ 0)) (pz_p (pz_cf (pz_gt (ρ 0)) (pz_gN (ρ 0)) (ρ 1 / 4))) = 6 := F212.2.1
  have ha1 := (pz_ps 0 800 i2b i2c i2d (by decide))
  have hq1 : ρ 3 / 4 = ρ 2 / 4 + 1 := pz_sm (by omega) (by decide) i3b s1
  have hb := F131.2.2 (ρ 3 / 4) (by have := hw.2; omega)
  rw [c_tape] at hb
  have hb := Option.some.inj hb
  rw [show ρ 3 / 4 = pz_at (pz_gt (ρ 0)) (pz_gN (ρ 0)) (pz_p (pz_cf (pz_gt (ρ 0)) (pz_gN (ρ 0)) (ρ 1 / 4))) + 1 by omega] at hb
  have hb2 : pz_b (pz_gt (ρ 0)) (pz_at (pz_gt (ρ 0)) (pz_gN (ρ 0)) (pz_p (pz_cf (pz_gt (ρ 0)) (pz_gN (ρ 0)) (ρ 1 / 4))) + 1) = ρ 4 / 4 := by omega
  refine ⟨(fun y hy => by cases hy), _, List.mem_cons_self, ρ, fun _ _ => rfl, ax_px hE rfl (fun x hx => ?_)⟩
  cases List.mem_singleton.mp hx
  refine (ax_XF_lt (x := 212) (Nat.le_of_ble_eq_true rfl)).mpr ?_
  show pz_x62 (ρ 0) (ρ 1) (4024) (8)
  refine ⟨F212.1, F212.2.1, fun i hi => ?_⟩
  replace hi : i < 2 := hi
  by_cases h : i < 1
  · exact F212.2.2 i h
  · have e : i = 1 := by omega
    subst e
    exact hb2.trans (show ρ 4 / 4 = 117 by omega)
theorem axq0_is3_6_1 : ax_RO ax_wM0 (ax_XM 0) axu0_is3_6_1 := axqg_is3_6_1 ax_WW0
theorem axqg_is4a_6_1 {w : ax_W} {b : Nat} (hw : ax_WW w) : ax_RO w (ax_XM b) axu0_is4a_6_1 := by
  intro ρ hp hE hT
  have j0 : ρ 0 % 4 = 1 := pz_gj hE 0 (Nat.le_of_ble_eq_true rfl) rfl
  have j1 : ρ 1 % 4 = 1 := pz_gj hE 1 (Nat.le_of_ble_eq_true rfl) rfl
  obtain ⟨i2a, i2b, i2c, i2d⟩ := pz_gi hE 2 2147483648 2147484448 (Nat.le_of_ble_eq_true rfl) rfl
  obtain ⟨i3a, i3b, i3c, i3d⟩ := pz_gi hE 3 0 4294967295 (Nat.le_of_ble_eq_true rfl) rfl
  obtain ⟨i4a, i4b, i4c, i4d⟩ := pz_gi hE 4 2147483520 2147483764 (Nat.le_of_ble_eq_true rfl) rfl
  have c_at : ay_at hp 173 14 = some (ρ 2) := ay_gfj hE 702 56 11 173 14 ax_m2 (ax_vlq rfl rfl) (ax_vlj rfl rfl)
  have s1 : (ρ 2 / 4 + 2147483648) % 4294967296 + (4 / 4 + 2147483648) % 4294967296 = (ρ 3 / 4 + 2147483648) % 4294967296 + 2147483648 := pz_gs hE 11 4 15 ax_m3
  have c_tape : ay_at hp 183 (ρ 3 / 4) = some (ρ 4) := ay_gf hE 742 15 19 183 ax_m4 (ax_vlq rfl rfl)
  obtain ⟨-, -, F131⟩ : ay_ex hp 173 ∧ ay_ex hp 183 ∧ pz_x30 (ρ 0) (ay_at hp 173 12) (ay_at hp 183) := (ax_XF_lt (x := 131) (Nat.le_of_ble_eq_true rfl)).mp (ax_gx hE (131, [3]) ax_m0)
  obtain ⟨-, F154⟩ : ay_ex hp 173 ∧ ay_ln (ay_at hp 173 14) = pz_at (pz_gt (ρ 0)) (pz_gN (ρ 0)) (pz_p (pz_cF (ρ 0) (ρ 1))) := (ax_XF_lt (x := 154) (Nat.le_of_ble_eq_true rfl)).mp (ax_gx hE (154, [3, 7]) ax_m1)
  rw [c_at] at F154
  have F212 : pz_x62 (ρ 0) (ρ 1) (4024) (4) := (ax_XF_lt (x := 212) (Nat.le_of_ble_eq_true rfl)).mp (ax_gx hE (212, [3, 7, 4024, 4]) ax_m5)
  have ep : ρ 2 / 4 = pz_at (pz_gt (ρ 0)) (pz_gN (ρ 0)) (pz_p (pz_cf (pz_gt (ρ 0)) (pz_gN (ρ 0)) (ρ 1 / 4))) := F154
  have hw : pz_at (pz_gt (ρ 0)) (pz_gN (ρ 0)) (pz_p (pz_cf (pz_gt (ρ 0)) (pz_gN (ρ 0)) (ρ 1 / 4))) < pz_gN (ρ 0) ∧ pz_nx (pz_gt (ρ 0)) (pz_gN (ρ 0)) (pz_p (pz_cf (pz_gt (ρ 0)) (pz_gN (ρ 0)) (ρ 1 / 4))) ≤ pz_gN (ρ 0) := pz_wd_le F212.1
  have hln : pz_nx (pz_gt (ρ 0)) (pz_gN (ρ 0)) (pz_p (pz_cf (pz_gt (ρ 0)) (pz_gN (ρ 0)) (ρ 1 / 4))) - pz_at (pz_gt (ρ 0)) (pz_gN (ρ 0)) (pz_p (pz_cf (pz_gt (ρ 0)) (pz_gN (ρ 0)) (ρ 1 / 4))) = 6 := F212.2.1
  have ha1 := (pz_ps 0 800 i2b i2c i2d (by decide))
  have hq1 : ρ 3 / 4 = ρ 2 / 4 + 1 := pz_sm (by omega) (by decide) i3b s1
  have hb := F131.2.2 (ρ 3 / 4) (by have := hw.2; omega)
  rw [c_tape] at hb
  have hb := Option.some.inj hb
  rw [show ρ 3 / 4 = pz_at (pz_gt (ρ 0)) (pz_gN (ρ 0)) (pz_p (pz_cf (pz_gt (ρ 0)) (pz_gN (ρ 0)) (ρ 1 / 4))) + 1 by omega] at hb
  have hb2 : pz_b (pz_gt (ρ 0)) (pz_at (pz_gt (ρ 0)) (pz_gN (ρ 0)) (pz_p (pz_cf (pz_gt (ρ 0)) (pz_gN (ρ 0)) (ρ 1 / 4))) + 1) = ρ 4 / 4 := by omega
  refine ⟨(fun y hy => by cases hy), _, List.mem_cons_self, ρ, fun _ _ => rfl, ax_px hE rfl (fun x hx => ?_)⟩
  cases List.mem_singleton.mp hx
  refine (ax_XF_lt (x := 161) (Nat.le_of_ble_eq_true rfl)).mpr ?_
  show pz61 (pz_gt (ρ 0)) (pz_gN (ρ 0)) ((ρ 1) / 4) ((24) / 4)
  refine pz_is_no (Or.inr (Or.inr ⟨1, by decide, fun z => ?_⟩))
  have z2 : ρ 4 / 4 = 117 := hb2.symm.trans z
  omega
theorem axq0_is4a_6_1 : ax_RO ax_wM0 (ax_XM 0) axu0_is4a_6_1 := axqg_is4a_6_1 ax_WW0
theorem axqg_is4b_6_1 {w : ax_W} {b : Nat} (hw : ax_WW w) : ax_RO w (ax_XM b) axu0_is4b_6_1 := by
  intro ρ hp hE hT
  have j0 : ρ 0 % 4 = 1 := pz_gj hE 0 (Nat.le_of_ble_eq_true rfl) rfl
  have j1 : ρ 1 % 4 = 1 := pz_gj hE 1 (Nat.le_of_ble_eq_true rfl) rfl
  obtain ⟨i2a, i2b, i2c, i2d⟩ := pz_gi hE 2 2147483648 2147484448 (Nat.le_of_ble_eq_true rfl) rfl
  obtain ⟨i3a, i3b, i3c, i3d⟩ := pz_gi hE 3 0 4294967295 (Nat.le_of_ble_eq_true rfl) rfl
  obtain ⟨i4a, i4b, i4c, i4d⟩ := pz_gi hE 4 2147483766 2147483775 (Nat.le_of_ble_eq_true rfl) rfl
  have c_at : ay_at hp 173 14 = some (ρ 2) := ay_gfj hE 702 56 11 173 14 ax_m2 (ax_vlq rfl rfl) (ax_vlj rfl rfl)
  have s1 : (ρ 2 / 4 + 2147483648) % 4294967296 + (4 / 4 + 2147483648) % 4294967296 = (ρ 3 / 4 + 2147483648) % 4294967296 + 2147483648 := pz_gs hE 11 4 15 ax_m3
  have c_tape : ay_at hp 183 (ρ 3 / 4) = some (ρ 4) := ay_gf hE 742 15 19 183 ax_m4 (ax_vlq rfl rfl)
  obtain ⟨-, -, F131⟩ : ay_ex hp 173 ∧ ay_ex hp 183 ∧ pz_x30 (ρ 0) (ay_at hp 173 12) (ay_at hp 183) := (ax_XF_lt (x := 131) (Nat.le_of_ble_eq_true rfl)).mp (ax_gx hE (131, [3]) ax_m0)
  obtain ⟨-, F154⟩ : ay_ex hp 173 ∧ ay_ln (ay_at hp 173 14) = pz_at (pz_gt (ρ 0)) (pz_gN (ρ 0)) (pz_p (pz_cF (ρ 0) (ρ 1))) := (ax_XF_lt (x := 154) (Nat.le_of_ble_eq_true rfl)).mp (ax_gx hE (154, [3, 7]) ax_m1)
  rw [c_at] at F154
  have F212 : pz_x62 (ρ 0) (ρ 1) (4024) (4) := (ax_XF_lt (x := 212) (Nat.le_of_ble_eq_true rfl)).mp (ax_gx hE (212, [3, 7, 4024, 4]) ax_m5)
  have ep : ρ 2 / 4 = pz_at (pz_gt (ρ 0)) (pz_gN (ρ 0)) (pz_p (pz_cf (pz_gt (ρ 0)) (pz_gN (ρ 0)) (ρ 1 / 4))) := F154
  have hw : pz_at (pz_gt (ρ 0)) (pz_gN (ρ 0)) (pz_p (pz_cf (pz_gt (ρ 0)) (pz_gN (ρ 0)) (ρ 1 / 4))) < pz_gN (ρ 0) ∧ pz_nx (pz_gt (ρ 0)) (pz_gN (ρ 0)) (pz_p (pz_cf (pz_gt (ρ 0)) (pz_gN (ρ 0)) (ρ 1 / 4))) ≤ pz_gN (ρ 0) := pz_wd_le F212.1
  have hln : pz_nx (pz_gt (ρ 0)) (pz_gN (ρ 0)) (pz_p (pz_cf (pz_gt (ρ 0)) (pz_gN (ρ 0)) (ρ 1 / 4))) - pz_at (pz_gt (ρ 0)) (pz_gN (ρ 0)) (pz_p (pz_cf (pz_gt (ρ 0)) (pz_gN (ρ 0)) (ρ 1 / 4))) = 6 := F212.2.1
  have ha1 := (pz_ps 0 800 i2b i2c i2d (by decide))
  have hq1 : ρ 3 / 4 = ρ 2 / 4 + 1 := pz_sm (by omega) (by decide) i3b s1
  have hb := F131.2.2 (ρ 3 / 4) (by have := hw.2; omega)
  rw [c_tape] at hb
  have hb := Option.some.inj hb
  rw [show ρ 3 / 4 = pz_at (pz_gt (ρ 0)) (pz_gN (ρ 0)) (pz_p (pz_cf (pz_gt (ρ 0)) (pz_gN (ρ 0)) (ρ 1 / 4))) + 1 by omega] at hb
  have hb2 : pz_b (pz_gt (ρ 0)) (pz_at (pz_gt (ρ 0)) (pz_gN (ρ 0)) (pz_p (pz_cf (pz_gt (ρ 0)) (pz_gN (ρ 0)) (ρ 1 / 4))) + 1) = ρ 4 / 4 := by omega
  refine ⟨(fun y hy => by cases hy), _, List.mem_cons_self, ρ, fun _ _ => rfl, ax_px hE rfl (fun x hx => ?_)⟩
  cases List.mem_singleton.mp hx
  refine (ax_XF_lt (x := 161) (Nat.le_of_ble_eq_true rfl)).mpr ?_
  show pz61 (pz_gt (ρ 0)) (pz_gN (ρ 0)) ((ρ 1) / 4) ((24) / 4)
  refine pz_is_no (Or.inr (Or.inr ⟨1, by decide, fun z => ?_⟩))
  have z2 : ρ 4 / 4 = 117 := hb2.symm.trans z
  omega
theorem axq0_is4b_6_1 : ax_RO ax_wM0 (ax_XM 0) axu0_is4b_6_1 := axqg_is4b_6_1 ax_WW0
theorem axqg_is3_6_2 {w : ax_W} {b : Nat} (hw : ax_WW w) : ax_RO w (ax_XM b) axu0_is3_6_2 := by
  intro ρ hp hE hT
  have j0 : ρ 0 % 4 = 1 := pz_gj hE 0 (Nat.le_of_ble_eq_true rfl) rfl
  have j1 : ρ 1 % 4 = 1 := pz_gj hE 1 (Nat.le_of_ble_eq_true rfl) rfl
  obtain ⟨i2a, i2b, i2c, i2d⟩ := pz_gi hE 2 2147483648 2147484448 (Nat.le_of_ble_eq_true rfl) rfl
  obtain ⟨i3a, i3b, i3c, i3d⟩ := pz_gi hE 3 0 4294967295 (Nat.le_of_ble_eq_true rfl) rfl
  obtain ⟨i4a, i4b, i4c, i4d⟩ := pz_gi hE 4 2147483757 2147483757 (Nat.le_of_ble_eq_true rfl) rfl
  have c_at : ay_at hp 173 14 = some (ρ 2) := ay_gfj hE 702 56 11 173 14 ax_m2 (ax_vlq rfl rfl) (ax_vlj rfl rfl)
  have s1 : (ρ 2 / 4 + 2147483648) % 4294967296 + (8 / 4 + 2147483648) % 4294967296 = (ρ 3 / 4 + 2147483648) % 4294967296 + 2147483648 := pz_gs hE 11 8 15 ax_m3
  have c_tape : ay_at hp 183 (ρ 3 / 4) = some (ρ 4) := ay_gf hE 742 15 19 183 ax_m4 (ax_vlq rfl rfl)
  obtain ⟨-, -, F131⟩ : ay_ex hp 173 ∧ ay_ex hp 183 ∧ pz_x30 (ρ 0) (ay_at hp 173 12) (ay_at hp 183) := (ax_XF_lt (x := 131) (Nat.le_of_ble_eq_true rfl)).mp (ax_gx hE (131, [3]) ax_m0)
  obtain ⟨-, F154⟩ : ay_ex hp 173 ∧ ay_ln (ay_at hp 173 14) = pz_at (pz_gt (ρ 0)) (pz_gN (ρ 0)) (pz_p (pz_cF (ρ 0) (ρ 1))) := (ax_XF_lt (x := 154) (Nat.le_of_ble_eq_true rfl)).mp (ax_gx hE (154, [3, 7]) ax_m1)
  rw [c_at] at F154
  have F212 : pz_x62 (ρ 0) (ρ 1) (4024) (8) := (ax_XF_lt (x := 212) (Nat.le_of_ble_eq_true rfl)).mp (ax_gx hE (212, [3, 7, 4024, 8]) ax_m5)
  have ep : ρ 2 / 4 = pz_at (pz_gt (ρ 0)) (pz_gN (ρ 0)) (pz_p (pz_cf (pz_gt (ρ 0)) (pz_gN (ρ 0)) (ρ 1 / 4))) := F154
  have hw : pz_at (pz_gt (ρ 0)) (pz_gN (ρ 0)) (pz_p (pz_cf (pz_gt (ρ 0)) (pz_gN (ρ 0)) (ρ 1 / 4))) < pz_gN (ρ 0) ∧ pz_nx (pz_gt (ρ 0)) (pz_gN (ρ 0)) (pz_p (pz_cf (pz_gt (ρ 0)) (pz_gN (ρ 0)) (ρ 1 / 4))) ≤ pz_gN (ρ 0) := pz_wd_le F212.1
  have hln : pz_nx (pz_gt (ρ 0)) (pz_gN (ρ 0)) (pz_p (pz_cf (pz_gt (ρ 0)) (pz_gN (ρ 0)) (ρ 1 / 4))) - pz_at (pz_gt (ρ 0)) (pz_gN (ρ 0)) (pz_p (pz_cf (pz_gt (ρ 0)) (pz_gN (ρ 0)) (ρ 1 / 4))) = 6 := F212.2.1
  have ha1 := (pz_ps 0 800 i2b i2c i2d (by decide))
  have hq1 : ρ 3 / 4 = ρ 2 / 4 + 2 := pz_sm (by omega) (by decide) i3b s1
  have hb := F131.2.2 (ρ 3 / 4) (by have := hw.2; omega)
  rw [c_tape] at hb
  have hb := Option.some.inj hb
  rw [show ρ 3 / 4 = pz_at (pz_gt (ρ 0)) (pz_gN (ρ 0)) (pz_p (pz_cf (pz_gt (ρ 0)) (pz_gN (ρ 0)) (ρ 1 / 4))) + 2 by omega] at hb
  have hb2 : pz_b (pz_gt (ρ 0)) (pz_at (pz_gt (ρ 0)) (pz_gN (ρ 0)) (pz_p (pz_cf (pz_gt (ρ 0)) (pz_gN (ρ 0)) (ρ 1 / 4))) + 2) = ρ 4 / 4 := by omega
  refine ⟨(fun y hy => by cases hy), _, List.mem_cons_self, ρ, fun _ _ => rfl, ax_px hE rfl (fun x hx => ?_)⟩
  cases List.mem_singleton.mp hx
  refine (ax_XF_lt (x := 212) (Nat.le_of_ble_eq_true rfl)).mpr ?_
  show pz_x62 (ρ 0) (ρ 1) (4024) (12)
  refine ⟨F212.1, F212.2.1, fun i hi => ?_⟩
  replace hi : i < 3 := hi
  by_cases h : i < 2
  · exact F212.2.2 i h
  · have e : i = 2 := by omega
    subst e
    exact hb2.trans (show ρ 4 / 4 = 109 by omega)
theorem axq0_is3_6_2 : ax_RO ax_wM0 (ax_XM 0) axu0_is3_6_2 := axqg_is3_6_2 ax_WW0
theorem axqg_is4a_6_2 {w : ax_W} {b : Nat} (hw : ax_WW w) : ax_RO w (ax_XM b) axu0_is4a_6_2 := by
  intro ρ hp hE hT
  have j0 : ρ 0 % 4 = 1 := pz_gj hE 0 (Nat.le_of_ble_eq_true rfl) rfl
  have j1 : ρ 1 % 4 = 1 := pz_gj hE 1 (Nat.le_of_ble_eq_true rfl) rfl
  obtain ⟨i2a, i2b, i2c, i2d⟩ := pz_gi hE 2 2147483648 2147484448 (Nat.le_of_ble_eq_true rfl) rfl
  obtain ⟨i3a, i3b, i3c, i3d⟩ := pz_gi hE 3 0 4294967295 (Nat.le_of_ble_eq_true rfl) rfl
  obtain ⟨i4a, i4b, i4c, i4d⟩ := pz_gi hE 4 2147483520 2147483756 (Nat.le_of_ble_eq_true rfl) rfl
  have c_at : ay_at hp 173 14 = some (ρ 2) := ay_gfj hE 702 56 11 173 14 ax_m2 (ax_vlq rfl rfl) (ax_vlj rfl rfl)
  have s1 : (ρ 2 / 4 + 2147483648) % 4294967296 + (8 / 4 + 2147483648) % 4294967296 = (ρ 3 / 4 + 2147483648) % 4294967296 + 2147483648 := pz_gs hE 11 8 15 ax_m3
  have c_tape : ay_at hp 183 (ρ 3 / 4) = some (ρ 4) := ay_gf hE 742 15 19 183 ax_m4 (ax_vlq rfl rfl)
  obtain ⟨-, -, F131⟩ : ay_ex hp 173 ∧ ay_ex hp 183 ∧ pz_x30 (ρ 0) (ay_at hp 173 12) (ay_at hp 183) := (ax_XF_lt (x := 131) (Nat.le_of_ble_eq_true rfl)).mp (ax_gx hE (131, [3]) ax_m0)
  obtain ⟨-, F154⟩ : ay_ex hp 173 ∧ ay_ln (ay_at hp 173 14) = pz_at (pz_gt (ρ 0)) (pz_gN (ρ 0)) (pz_p (pz_cF (ρ 0) (ρ 1))) := (ax_XF_lt (x := 154) (Nat.le_of_ble_eq_true rfl)).mp (ax_gx hE (154, [3, 7]) ax_m1)
  rw [c_at] at F154
  have F212 : pz_x62 (ρ 0) (ρ 1) (4024) (8) := (ax_XF_lt (x := 212) (Nat.le_of_ble_eq_true rfl)).mp (ax_gx hE (212, [3, 7, 4024, 8]) ax_m5)
  have ep : ρ 2 / 4 = pz_at (pz_gt (ρ 0)) (pz_gN (ρ 0)) (pz_p (pz_cf (pz_gt (ρ 0)) (pz_gN (ρ 0)) (ρ 1 / 4))) := F154
  have hw : pz_at (pz_gt (ρ 0)) (pz_gN (ρ 0)) (pz_p (pz_cf (pz_gt (ρ 0)) (pz_gN (ρ 0)) (ρ 1 / 4))) < pz_gN (ρ 0) ∧ pz_nx (pz_gt (ρ 0)) (pz_gN (ρ 0)) (pz_p (pz_cf (pz_gt (ρ 0)) (pz_gN (ρ 0)) (ρ 1 / 4))) ≤ pz_gN (ρ 0) := pz_wd_le F212.1
  have hln : pz_nx (pz_gt (ρ 0)) (pz_gN (ρ 0)) (pz_p (pz_cf (pz_gt (ρ 0)) (pz_gN (ρ 0)) (ρ 1 / 4))) - pz_at (pz_gt (ρ 0)) (pz_gN (ρ 0)) (pz_p (pz_cf (pz_gt (ρ 0)) (pz_gN (ρ 0)) (ρ 1 / 4))) = 6 := F212.2.1
  have ha1 := (pz_ps 0 800 i2b i2c i2d (by decide))
  have hq1 : ρ 3 / 4 = ρ 2 / 4 + 2 := pz_sm (by omega) (by decide) i3b s1
  have hb := F131.2.2 (ρ 3 / 4) (by have := hw.2; omega)
  rw [c_tape] at hb
  have hb := Option.some.inj hb
  rw [show ρ 3 / 4 = pz_at (pz_gt (ρ 0)) (pz_gN (ρ 0)) (pz_p (pz_cf (pz_gt (ρ 0)) (pz_gN (ρ 0)) (ρ 1 / 4))) + 2 by omega] at hb
  have hb2 : pz_b (pz_gt (ρ 0)) (pz_at (pz_gt (ρ 0)) (pz_gN (ρ 0)) (pz_p (pz_cf (pz_gt (ρ 0)) (pz_gN (ρ 0)) (ρ 1 / 4))) + 2) = ρ 4 / 4 := by omega
  refine ⟨(fun y hy => by cases hy), _, List.mem_cons_self, ρ, fun _ _ => rfl, ax_px hE rfl (fun x hx => ?_)⟩
  cases List.mem_singleton.mp hx
  refine (ax_XF_lt (x := 161) (Nat.le_of_ble_eq_true rfl)).mpr ?_
  show pz61 (pz_gt (ρ 0)) (pz_gN (ρ 0)) ((ρ 1) / 4) ((24) / 4)
  refine pz_is_no (Or.inr (Or.inr ⟨2, by decide, fun z => ?_⟩))
  have z2 : ρ 4 / 4 = 109 := hb2.symm.trans z
  omega
theorem axq0_is4a_6_2 : ax_RO ax_wM0 (ax_XM 0) axu0_is4a_6_2 := axqg_is4a_6_2 ax_WW0
theorem axqg_is4b_6_2 {w : ax_W} {b : Nat} (hw : ax_WW w) : ax_RO w (ax_XM b) axu0_is4b_6_2 := by
  intro ρ hp hE hT
  have j0 : ρ 0 % 4 = 1 := pz_gj hE 0 (Nat.le_of_ble_eq_true rfl) rfl
  have j1 : ρ 1 % 4 = 1 := pz_gj hE 1 (Nat.le_of_ble_eq_true rfl) rfl
  obtain ⟨i2a, i2b, i2c, i2d⟩ := pz_gi hE 2 2147483648 2147484448 (Nat.le_of_ble_eq_true rfl) rfl
  obtain ⟨i3a, i3b, i3c, i3d⟩ := pz_gi hE 3 0 4294967295 (Nat.le_of_ble_eq_true rfl) rfl
  obtain ⟨i4a, i4b, i4c, i4d⟩ := pz_gi hE 4 2147483758 2147483775 (Nat.le_of_ble_eq_true rfl) rfl
  have c_at : ay_at hp 173 14 = some (ρ 2) := ay_gfj hE 702 56 11 173 14 ax_m2 (ax_vlq rfl rfl) (ax_vlj rfl rfl)
  have s1 : (ρ 2 / 4 + 2147483648) % 4294967296 + (8 / 4 + 2147483648) % 4294967296 = (ρ 3 / 4 + 2147483648) % 4294967296 + 2147483648 := pz_gs hE 11 8 15 ax_m3
  have c_tape : ay_at hp 183 (ρ 3 / 4) = some (ρ 4) := ay_gf hE 742 15 19 183 ax_m4 (ax_vlq rfl rfl)
  obtain ⟨-, -, F131⟩ : ay_ex hp 173 ∧ ay_ex hp 183 ∧ pz_x30 (ρ 0) (ay_at hp 173 12) (ay_at hp 183) := (ax_XF_lt (x := 131) (Nat.le_of_ble_eq_true rfl)).mp (ax_gx hE (131, [3]) ax_m0)
  obtain ⟨-, F154⟩ : ay_ex hp 173 ∧ ay_ln (ay_at hp 173 14) = pz_at (pz_gt (ρ 0)) (pz_gN (ρ 0)) (pz_p (pz_cF (ρ 0) (ρ 1))) := (ax_XF_lt (x := 154) (Nat.le_of_ble_eq_true rfl)).mp (ax_gx hE (154, [3, 7]) ax_m1)
  rw [c_at] at F154
  have F212 : pz_x62 (ρ 0) (ρ 1) (4024) (8) := (ax_XF_lt (x := 212) (Nat.le_of_ble_eq_true rfl)).mp (ax_gx hE (212, [3, 7, 4024, 8]) ax_m5)
  have ep : ρ 2 / 4 = pz_at (pz_gt (ρ 0)) (pz_gN (ρ 0)) (pz_p (pz_cf (pz_gt (ρ 0)) (pz_gN (ρ 0)) (ρ 1 / 4))) := F154
  have hw : pz_at (pz_gt (ρ 0)) (pz_gN (ρ 0)) (pz_p (pz_cf (pz_gt (ρ 0)) (pz_gN (ρ 0)) (ρ 1 / 4))) < pz_gN (ρ 0) ∧ pz_nx (pz_gt (ρ 0)) (pz_gN (ρ 0)) (pz_p (pz_cf (pz_gt (ρ 0)) (pz_gN (ρ 0)) (ρ 1 / 4))) ≤ pz_gN (ρ 0) := pz_wd_le F212.1
  have hln : pz_nx (pz_gt (ρ 0)) (pz_gN (ρ 0)) (pz_p (pz_cf (pz_gt (ρ 0)) (pz_gN (ρ 0)) (ρ 1 / 4))) - pz_at (pz_gt (ρ 0)) (pz_gN (ρ 0)) (pz_p (pz_cf (pz_gt (ρ 0)) (pz_gN (ρ 0)) (ρ 1 / 4))) = 6 := F212.2.1
  have ha1 := (pz_ps 0 800 i2b i2c i2d (by decide))
  have hq1 : ρ 3 / 4 = ρ 2 / 4 + 2 := pz_sm (by omega) (by decide) i3b s1
  have hb := F131.2.2 (ρ 3 / 4) (by have := hw.2; omega)
  rw [c_tape] at hb
  have hb := Option.some.inj hb
  rw [show ρ 3 / 4 = pz_at (pz_gt (ρ 0)) (pz_gN (ρ 0)) (pz_p (pz_cf (pz_gt (ρ 0)) (pz_gN (ρ 0)) (ρ 1 / 4))) + 2 by omega] at hb
  have hb2 : pz_b (pz_gt (ρ 0)) (pz_at (pz_gt (ρ 0)) (pz_gN (ρ 0)) (pz_p (pz_cf (pz_gt (ρ 0)) (pz_gN (ρ 0)) (ρ 1 / 4))) + 2) = ρ 4 / 4 := by omega
  refine ⟨(fun y hy => by cases hy), _, List.mem_cons_self, ρ, fun _ _ => rfl, ax_px hE rfl (fun x hx => ?_)⟩
  cases List.mem_singleton.mp hx
  refine (ax_XF_lt (x := 161) (Nat.le_of_ble_eq_true rfl)).mpr ?_
  show pz61 (pz_gt (ρ 0)) (pz_gN (ρ 0)) ((ρ 1) / 4) ((24) / 4)
  refine pz_is_no (Or.inr (Or.inr ⟨2, by decide, fun z => ?_⟩))
  have z2 : ρ 4 / 4 = 109 := hb2.symm.trans z
  omega
theorem axq0_is4b_6_2 : ax_RO ax_wM0 (ax_XM 0) axu0_is4b_6_2 := axqg_is4b_6_2 ax_WW0
theorem axqg_is3_6_3 {w : ax_W} {b : Nat} (hw : ax_WW w) : ax_RO w (ax_XM b) axu0_is3_6_3 := by
  intro ρ hp hE hT
  have j0 : ρ 0 % 4 = 1 := pz_gj hE 0 (Nat.le_of_ble_eq_true rfl) rfl
  have j1 : ρ 1 % 4 = 1 := pz_gj hE 1 (Nat.le_of_ble_eq_true rfl) rfl
  obtain ⟨i2a, i2b, i2c, i2d⟩ := pz_gi hE 2 2147483648 2147484448 (Nat.le_of_ble_eq_true rfl) rfl
  obtain ⟨i3a, i3b, i3c, i3d⟩ := pz_gi hE 3 0 4294967295 (Nat.le_of_ble_eq_true rfl) rfl
  obtain ⟨i4a, i4b, i4c, i4d⟩ := pz_gi hE 4 2147483746 2147483746 (Nat.le_of_ble_eq_true rfl) rfl
  have c_at : ay_at hp 173 14 = some (ρ 2) := ay_gfj hE 702 56 11 173 14 ax_m2 (ax_vlq rfl rfl) (ax_vlj rfl rfl)
  have s1 : (ρ 2 / 4 + 2147483648) % 4294967296 + (12 / 4 + 2147483648) % 4294967296 = (ρ 3 / 4 + 2147483648) % 4294967296 + 2147483648 := pz_gs hE 11 12 15 ax_m3
  have c_tape : ay_at hp 183 (ρ 3 / 4) = some (ρ 4) := ay_gf hE 742 15 19 183 ax_m4 (ax_vlq rfl rfl)
  obtain ⟨-, -, F131⟩ : ay_ex hp 173 ∧ ay_ex hp 183 ∧ pz_x30 (ρ 0) (ay_at hp 173 12) (ay_at hp 183) := (ax_XF_lt (x := 131) (Nat.le_of_ble_eq_true rfl)).mp (ax_gx hE (131, [3]) ax_m0)
  obtain ⟨-, F154⟩ : ay_ex hp 173 ∧ ay_ln (ay_at hp 173 14) = pz_at (pz_gt (ρ 0)) (pz_gN (ρ 0)) (pz_p (pz_cF (ρ 0) (ρ 1))) := (ax_XF_lt (x := 154) (Nat.le_of_ble_eq_true rfl)).mp (ax_gx hE (154, [3, 7]) ax_m1)
  rw [c_at] at F154
  have F212 : pz_x62 (ρ 0) (ρ 1) (4024) (12) := (ax_XF_lt (x := 212) (Nat.le_of_ble_eq_true rfl)).mp (ax_gx hE (212, [3, 7, 4024, 12]) ax_m5)
  have ep : ρ 2 / 4 = pz_at (pz_gt (ρ 0)) (pz_gN (ρ 0)) (pz_p (pz_cf (pz_gt (ρ 0)) (pz_gN (ρ 0)) (ρ 1 / 4))) := F154
  have hw : pz_at (pz_gt (ρ 0)) (pz_gN (ρ 0)) (pz_p (pz_cf (pz_gt (ρ 0)) (pz_gN (ρ 0)) (ρ 1 / 4))) < pz_gN (ρ 0) ∧ pz_nx (pz_gt (ρ 0)) (pz_gN (ρ 0)) (pz_p (pz_cf (pz_gt (ρ 0)) (pz_gN (ρ 0)) (ρ 1 / 4))) ≤ pz_gN (ρ 0) := pz_wd_le F212.1
  have hln : pz_nx (pz_gt (ρ 0)) (pz_gN (ρ 0)) (pz_p (pz_cf (pz_gt (ρ 0)) (pz_gN (ρ 0)) (ρ 1 / 4))) - pz_at (pz_gt (ρ 0)) (pz_gN (ρ 0)) (pz_p (pz_cf (pz_gt (ρ 0)) (pz_gN (ρ 0)) (ρ 1 / 4))) = 6 := F212.2.1
  have ha1 := (pz_ps 0 800 i2b i2c i2d (by decide))
  have hq1 : ρ 3 / 4 = ρ 2 / 4 + 3 := pz_sm (by omega) (by decide) i3b s1
  have hb := F131.2.2 (ρ 3 / 4) (by have := hw.2; omega)
  rw [c_tape] at hb
  have hb := Option.some.inj hb
  rw [show ρ 3 / 4 = pz_at (pz_gt (ρ 0)) (pz_gN (ρ 0)) (pz_p (pz_cf (pz_gt (ρ 0)) (pz_gN (ρ 0)) (ρ 1 / 4))) + 3 by omega] at hb
  have hb2 : pz_b (pz_gt (ρ 0)) (pz_at (pz_gt (ρ 0)) (pz_gN (ρ 0)) (pz_p (pz_cf (pz_gt (ρ 0)) (pz_gN (ρ 0)) (ρ 1 / 4))) + 3) = ρ 4 / 4 := by omega
  refine ⟨(fun y hy => by cases hy), _, List.mem_cons_self, ρ, fun _ _ => rfl, ax_px hE rfl (fun x hx => ?_)⟩
  cases List.mem_singleton.mp hx
  refine (ax_XF_lt (x := 212) (Nat.le_of_ble_eq_true rfl)).mpr ?_
  show pz_x62 (ρ 0) (ρ 1) (4024) (16)
  refine ⟨F212.1, F212.2.1, fun i hi => ?_⟩
  replace hi : i < 4 := hi
  by_cases h : i < 3
  · exact F212.2.2 i h
  · have e : i = 3 := by omega
    subst e
    exact hb2.trans (show ρ 4 / 4 = 98 by omega)
theorem axq0_is3_6_3 : ax_RO ax_wM0 (ax_XM 0) axu0_is3_6_3 := axqg_is3_6_3 ax_WW0
