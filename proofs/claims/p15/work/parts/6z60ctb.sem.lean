theorem axq_iw6_6 : ax_RO ax_wC ax_XC axu_iw6_6 := by
  intro ρ hp hE hT
  have j0 : ρ 0 % 4 = 1 := pz_gj hE 0 (Nat.le_of_ble_eq_true rfl) rfl
  have j1 : ρ 1 % 4 = 1 := pz_gj hE 1 (Nat.le_of_ble_eq_true rfl) rfl
  obtain ⟨i2a, i2b, i2c, i2d⟩ := pz_gi hE 2 2147483654 2147483654 (Nat.le_of_ble_eq_true rfl) rfl
  obtain ⟨-, -, -, -, F50⟩ : ay_ex hp 8 ∧ ay_ex hp 10 ∧ ay_ex hp 11 ∧ ay_ex hp 12 ∧ pz_x50 (ρ 0) (ρ 1) (ay_at hp 8 5) (ay_at hp 8 6) (ay_at hp 8 7) (ay_at hp 8 8) (ay_at hp 10 0) (ay_at hp 10 1) (ay_at hp 10 2) (ay_at hp 10 3) (ay_at hp 10 4) (ay_at hp 8 9) (ay_at hp 8 11) (ay_at hp 8 10) (ay_at hp 8 3) (ay_at hp 8 4) (ay_at hp 11) (ay_at hp 12) := (ax_XF_lt (x := 50) (Nat.le_of_ble_eq_true rfl)).mp (ax_gx hE (50, [3, 7]) ax_m0)
  have F62 : pz_x62 (ρ 0) (ρ 1) (4026) (ρ 2) := (ax_XF_lt (x := 62) (Nat.le_of_ble_eq_true rfl)).mp (ax_gx hE (62, [3, 7, 4026, 11]) ax_m1)
  refine ⟨(fun y hy => by cases hy), _, List.mem_cons_self, ρ, fun _ _ => rfl, ax_px hE rfl (fun y hy => ?_)⟩
  cases List.mem_singleton.mp hy
  refine (ax_XF_lt (x := 60) (Nat.le_of_ble_eq_true rfl)).mpr ?_
  show pz60 (pz_gt (ρ 0)) (pz_gN (ρ 0)) ((ρ 1) / 4) ((4026) / 4 - 1000)
  exact pz_is_yes F62.1 F62.2.1 (fun i hi => F62.2.2 i (by have : i < 6 := hi; omega))

theorem axq_iw1a_7 : ax_RO ax_wC ax_XC axu_iw1a_7 := by
  intro ρ hp hE hT
  have j0 : ρ 0 % 4 = 1 := pz_gj hE 0 (Nat.le_of_ble_eq_true rfl) rfl
  have j1 : ρ 1 % 4 = 1 := pz_gj hE 1 (Nat.le_of_ble_eq_true rfl) rfl
  obtain ⟨i2a, i2b, i2c, i2d⟩ := pz_gi hE 2 0 2147483648 (Nat.le_of_ble_eq_true rfl) rfl
  have c_kind : ay_at hp 8 7 = some (ρ 2) := ay_gfj hE 42 28 11 8 7 ax_m1 (ax_vlq rfl rfl) (ax_vlj rfl rfl)
  obtain ⟨-, -, -, -, F50⟩ : ay_ex hp 8 ∧ ay_ex hp 10 ∧ ay_ex hp 11 ∧ ay_ex hp 12 ∧ pz_x50 (ρ 0) (ρ 1) (ay_at hp 8 5) (ay_at hp 8 6) (ay_at hp 8 7) (ay_at hp 8 8) (ay_at hp 10 0) (ay_at hp 10 1) (ay_at hp 10 2) (ay_at hp 10 3) (ay_at hp 10 4) (ay_at hp 8 9) (ay_at hp 8 11) (ay_at hp 8 10) (ay_at hp 8 3) (ay_at hp 8 4) (ay_at hp 11) (ay_at hp 12) := (ax_XF_lt (x := 50) (Nat.le_of_ble_eq_true rfl)).mp (ax_gx hE (50, [3, 7]) ax_m0)
  rw [c_kind] at F50
  refine ⟨(fun y hy => by cases hy), _, List.mem_cons_self, ρ, fun _ _ => rfl, ax_px hE rfl (fun y hy => ?_)⟩
  cases List.mem_singleton.mp hy
  refine (ax_XF_lt (x := 61) (Nat.le_of_ble_eq_true rfl)).mpr ?_
  show pz61 (pz_gt (ρ 0)) (pz_gN (ρ 0)) ((ρ 1) / 4) ((4030) / 4 - 1000)
  have kd : ρ 2 / 4 = pz_kd (pz_gt (ρ 0)) (pz_gN (ρ 0)) (pz_p (pz_cf (pz_gt (ρ 0)) (pz_gN (ρ 0)) (ρ 1 / 4))) := F50.2.2.1
  exact pz_is_no (Or.inl (by omega))

theorem axq_iw1b_7 : ax_RO ax_wC ax_XC axu_iw1b_7 := by
  intro ρ hp hE hT
  have j0 : ρ 0 % 4 = 1 := pz_gj hE 0 (Nat.le_of_ble_eq_true rfl) rfl
  have j1 : ρ 1 % 4 = 1 := pz_gj hE 1 (Nat.le_of_ble_eq_true rfl) rfl
  obtain ⟨i2a, i2b, i2c, i2d⟩ := pz_gi hE 2 2147483650 4294967295 (Nat.le_of_ble_eq_true rfl) rfl
  have c_kind : ay_at hp 8 7 = some (ρ 2) := ay_gfj hE 42 28 11 8 7 ax_m1 (ax_vlq rfl rfl) (ax_vlj rfl rfl)
  obtain ⟨-, -, -, -, F50⟩ : ay_ex hp 8 ∧ ay_ex hp 10 ∧ ay_ex hp 11 ∧ ay_ex hp 12 ∧ pz_x50 (ρ 0) (ρ 1) (ay_at hp 8 5) (ay_at hp 8 6) (ay_at hp 8 7) (ay_at hp 8 8) (ay_at hp 10 0) (ay_at hp 10 1) (ay_at hp 10 2) (ay_at hp 10 3) (ay_at hp 10 4) (ay_at hp 8 9) (ay_at hp 8 11) (ay_at hp 8 10) (ay_at hp 8 3) (ay_at hp 8 4) (ay_at hp 11) (ay_at hp 12) := (ax_XF_lt (x := 50) (Nat.le_of_ble_eq_true rfl)).mp (ax_gx hE (50, [3, 7]) ax_m0)
  rw [c_kind] at F50
  refine ⟨(fun y hy => by cases hy), _, List.mem_cons_self, ρ, fun _ _ => rfl, ax_px hE rfl (fun y hy => ?_)⟩
  cases List.mem_singleton.mp hy
  refine (ax_XF_lt (x := 61) (Nat.le_of_ble_eq_true rfl)).mpr ?_
  show pz61 (pz_gt (ρ 0)) (pz_gN (ρ 0)) ((ρ 1) / 4) ((4030) / 4 - 1000)
  have kd : ρ 2 / 4 = pz_kd (pz_gt (ρ 0)) (pz_gN (ρ 0)) (pz_p (pz_cf (pz_gt (ρ 0)) (pz_gN (ρ 0)) (ρ 1 / 4))) := F50.2.2.1
  exact pz_is_no (Or.inl (by omega))

theorem axq_iw2a_7 : ax_RO ax_wC ax_XC axu_iw2a_7 := by
  intro ρ hp hE hT
  have j0 : ρ 0 % 4 = 1 := pz_gj hE 0 (Nat.le_of_ble_eq_true rfl) rfl
  have j1 : ρ 1 % 4 = 1 := pz_gj hE 1 (Nat.le_of_ble_eq_true rfl) rfl
  obtain ⟨i2a, i2b, i2c, i2d⟩ := pz_gi hE 2 2147482848 2147483652 (Nat.le_of_ble_eq_true rfl) rfl
  obtain ⟨i3a, i3b, i3c, i3d⟩ := pz_gi hE 3 2147483648 2147484448 (Nat.le_of_ble_eq_true rfl) rfl
  obtain ⟨i4a, i4b, i4c, i4d⟩ := pz_gi hE 4 2147483648 2147484448 (Nat.le_of_ble_eq_true rfl) rfl
  have c_place : ay_at hp 8 6 = some (ρ 3) := ay_gfj hE 42 24 15 8 6 ax_m1 (ax_vlq rfl rfl) (ax_vlj rfl rfl)
  have c_ahead : ay_at hp 8 5 = some (ρ 4) := ay_gfj hE 42 20 19 8 5 ax_m2 (ax_vlq rfl rfl) (ax_vlj rfl rfl)
  have s1 : (ρ 2 / 4 + 2147483648) % 4294967296 + (ρ 3 / 4 + 2147483648) % 4294967296 = (ρ 4 / 4 + 2147483648) % 4294967296 + 2147483648 := pz_gs hE 11 15 19 ax_m3
  obtain ⟨-, -, -, -, F50⟩ : ay_ex hp 8 ∧ ay_ex hp 10 ∧ ay_ex hp 11 ∧ ay_ex hp 12 ∧ pz_x50 (ρ 0) (ρ 1) (ay_at hp 8 5) (ay_at hp 8 6) (ay_at hp 8 7) (ay_at hp 8 8) (ay_at hp 10 0) (ay_at hp 10 1) (ay_at hp 10 2) (ay_at hp 10 3) (ay_at hp 10 4) (ay_at hp 8 9) (ay_at hp 8 11) (ay_at hp 8 10) (ay_at hp 8 3) (ay_at hp 8 4) (ay_at hp 11) (ay_at hp 12) := (ax_XF_lt (x := 50) (Nat.le_of_ble_eq_true rfl)).mp (ax_gx hE (50, [3, 7]) ax_m0)
  rw [c_place] at F50
  rw [c_ahead] at F50
  refine ⟨(fun y hy => by cases hy), _, List.mem_cons_self, ρ, fun _ _ => rfl, ax_px hE rfl (fun y hy => ?_)⟩
  cases List.mem_singleton.mp hy
  refine (ax_XF_lt (x := 61) (Nat.le_of_ble_eq_true rfl)).mpr ?_
  show pz61 (pz_gt (ρ 0)) (pz_gN (ρ 0)) ((ρ 1) / 4) ((4030) / 4 - 1000)
  have e1 : ρ 4 / 4 = pz_nx (pz_gt (ρ 0)) (pz_gN (ρ 0)) (pz_p (pz_cf (pz_gt (ρ 0)) (pz_gN (ρ 0)) (ρ 1 / 4))) := F50.1
  have e2 : ρ 3 / 4 = pz_at (pz_gt (ρ 0)) (pz_gN (ρ 0)) (pz_p (pz_cf (pz_gt (ρ 0)) (pz_gN (ρ 0)) (ρ 1 / 4))) := F50.2.1
  refine pz_is_no (Or.inr (Or.inl ?_))
  show pz_nx (pz_gt (ρ 0)) (pz_gN (ρ 0)) (pz_p (pz_cf (pz_gt (ρ 0)) (pz_gN (ρ 0)) (ρ 1 / 4))) - pz_at (pz_gt (ρ 0)) (pz_gN (ρ 0)) (pz_p (pz_cf (pz_gt (ρ 0)) (pz_gN (ρ 0)) (ρ 1 / 4))) ≠ 5
  omega

theorem axq_iw2b_7 : ax_RO ax_wC ax_XC axu_iw2b_7 := by
  intro ρ hp hE hT
  have j0 : ρ 0 % 4 = 1 := pz_gj hE 0 (Nat.le_of_ble_eq_true rfl) rfl
  have j1 : ρ 1 % 4 = 1 := pz_gj hE 1 (Nat.le_of_ble_eq_true rfl) rfl
  obtain ⟨i2a, i2b, i2c, i2d⟩ := pz_gi hE 2 2147483654 2147484448 (Nat.le_of_ble_eq_true rfl) rfl
  obtain ⟨i3a, i3b, i3c, i3d⟩ := pz_gi hE 3 2147483648 2147484448 (Nat.le_of_ble_eq_true rfl) rfl
  obtain ⟨i4a, i4b, i4c, i4d⟩ := pz_gi hE 4 2147483648 2147484448 (Nat.le_of_ble_eq_true rfl) rfl
  have c_place : ay_at hp 8 6 = some (ρ 3) := ay_gfj hE 42 24 15 8 6 ax_m1 (ax_vlq rfl rfl) (ax_vlj rfl rfl)
  have c_ahead : ay_at hp 8 5 = some (ρ 4) := ay_gfj hE 42 20 19 8 5 ax_m2 (ax_vlq rfl rfl) (ax_vlj rfl rfl)
  have s1 : (ρ 2 / 4 + 2147483648) % 4294967296 + (ρ 3 / 4 + 2147483648) % 4294967296 = (ρ 4 / 4 + 2147483648) % 4294967296 + 2147483648 := pz_gs hE 11 15 19 ax_m3
  obtain ⟨-, -, -, -, F50⟩ : ay_ex hp 8 ∧ ay_ex hp 10 ∧ ay_ex hp 11 ∧ ay_ex hp 12 ∧ pz_x50 (ρ 0) (ρ 1) (ay_at hp 8 5) (ay_at hp 8 6) (ay_at hp 8 7) (ay_at hp 8 8) (ay_at hp 10 0) (ay_at hp 10 1) (ay_at hp 10 2) (ay_at hp 10 3) (ay_at hp 10 4) (ay_at hp 8 9) (ay_at hp 8 11) (ay_at hp 8 10) (ay_at hp 8 3) (ay_at hp 8 4) (ay_at hp 11) (ay_at hp 12) := (ax_XF_lt (x := 50) (Nat.le_of_ble_eq_true rfl)).mp (ax_gx hE (50, [3, 7]) ax_m0)
  rw [c_place] at F50
  rw [c_ahead] at F50
  refine ⟨(fun y hy => by cases hy), _, List.mem_cons_self, ρ, fun _ _ => rfl, ax_px hE rfl (fun y hy => ?_)⟩
  cases List.mem_singleton.mp hy
  refine (ax_XF_lt (x := 61) (Nat.le_of_ble_eq_true rfl)).mpr ?_
  show pz61 (pz_gt (ρ 0)) (pz_gN (ρ 0)) ((ρ 1) / 4) ((4030) / 4 - 1000)
  have e1 : ρ 4 / 4 = pz_nx (pz_gt (ρ 0)) (pz_gN (ρ 0)) (pz_p (pz_cf (pz_gt (ρ 0)) (pz_gN (ρ 0)) (ρ 1 / 4))) := F50.1
  have e2 : ρ 3 / 4 = pz_at (pz_gt (ρ 0)) (pz_gN (ρ 0)) (pz_p (pz_cf (pz_gt (ρ 0)) (pz_gN (ρ 0)) (ρ 1 / 4))) := F50.2.1
  refine pz_is_no (Or.inr (Or.inl ?_))
  show pz_nx (pz_gt (ρ 0)) (pz_gN (ρ 0)) (pz_p (pz_cf (pz_gt (ρ 0)) (pz_gN (ρ 0)) (ρ 1 / 4))) - pz_at (pz_gt (ρ 0)) (pz_gN (ρ 0)) (pz_p (pz_cf (pz_gt (ρ 0)) (pz_gN (ρ 0)) (ρ 1 / 4))) ≠ 5
  omega

theorem axq_iw3_7 : ax_RO ax_wC ax_XC axu_iw3_7 := by
  intro ρ hp hE hT
  have j0 : ρ 0 % 4 = 1 := pz_gj hE 0 (Nat.le_of_ble_eq_true rfl) rfl
  have j1 : ρ 1 % 4 = 1 := pz_gj hE 1 (Nat.le_of_ble_eq_true rfl) rfl
  obtain ⟨i2a, i2b, i2c, i2d⟩ := pz_gi hE 2 2147483649 2147483649 (Nat.le_of_ble_eq_true rfl) rfl
  obtain ⟨i3a, i3b, i3c, i3d⟩ := pz_gi hE 3 2147483653 2147483653 (Nat.le_of_ble_eq_true rfl) rfl
  obtain ⟨i4a, i4b, i4c, i4d⟩ := pz_gi hE 4 2147483648 2147484448 (Nat.le_of_ble_eq_true rfl) rfl
  obtain ⟨i5a, i5b, i5c, i5d⟩ := pz_gi hE 5 2147483648 2147484448 (Nat.le_of_ble_eq_true rfl) rfl
  have c_kind : ay_at hp 8 7 = some (ρ 2) := ay_gfj hE 42 28 11 8 7 ax_m1 (ax_vlq rfl rfl) (ax_vlj rfl rfl)
  have c_place : ay_at hp 8 6 = some (ρ 4) := ay_gfj hE 42 24 19 8 6 ax_m2 (ax_vlq rfl rfl) (ax_vlj rfl rfl)
  have c_ahead : ay_at hp 8 5 = some (ρ 5) := ay_gfj hE 42 20 23 8 5 ax_m3 (ax_vlq rfl rfl) (ax_vlj rfl rfl)
  have s1 : (ρ 3 / 4 + 2147483648) % 4294967296 + (ρ 4 / 4 + 2147483648) % 4294967296 = (ρ 5 / 4 + 2147483648) % 4294967296 + 2147483648 := pz_gs hE 15 19 23 ax_m4
  obtain ⟨-, -, -, -, F50⟩ : ay_ex hp 8 ∧ ay_ex hp 10 ∧ ay_ex hp 11 ∧ ay_ex hp 12 ∧ pz_x50 (ρ 0) (ρ 1) (ay_at hp 8 5) (ay_at hp 8 6) (ay_at hp 8 7) (ay_at hp 8 8) (ay_at hp 10 0) (ay_at hp 10 1) (ay_at hp 10 2) (ay_at hp 10 3) (ay_at hp 10 4) (ay_at hp 8 9) (ay_at hp 8 11) (ay_at hp 8 10) (ay_at hp 8 3) (ay_at hp 8 4) (ay_at hp 11) (ay_at hp 12) := (ax_XF_lt (x := 50) (Nat.le_of_ble_eq_true rfl)).mp (ax_gx hE (50, [3, 7]) ax_m0)
  rw [c_kind] at F50
  rw [c_place] at F50
  rw [c_ahead] at F50
  refine ⟨(fun y hy => by cases hy), _, List.mem_cons_self, ρ, fun _ _ => rfl, ax_px hE rfl (fun y hy => ?_)⟩
  cases List.mem_singleton.mp hy
  refine (ax_XF_lt (x := 62) (Nat.le_of_ble_eq_true rfl)).mpr ?_
  show pz_x62 (ρ 0) (ρ 1) (4030) (0)
  have kd : ρ 2 / 4 = pz_kd (pz_gt (ρ 0)) (pz_gN (ρ 0)) (pz_p (pz_cf (pz_gt (ρ 0)) (pz_gN (ρ 0)) (ρ 1 / 4))) := F50.2.2.1
  have e1 : ρ 5 / 4 = pz_nx (pz_gt (ρ 0)) (pz_gN (ρ 0)) (pz_p (pz_cf (pz_gt (ρ 0)) (pz_gN (ρ 0)) (ρ 1 / 4))) := F50.1
  have e2 : ρ 4 / 4 = pz_at (pz_gt (ρ 0)) (pz_gN (ρ 0)) (pz_p (pz_cf (pz_gt (ρ 0)) (pz_gN (ρ 0)) (ρ 1 / 4))) := F50.2.1
  refine ⟨kd.symm.trans (show ρ 2 / 4 = 1 by omega), ?_, fun j hj => absurd (show j < 0 from hj) (by omega)⟩
  show pz_nx (pz_gt (ρ 0)) (pz_gN (ρ 0)) (pz_p (pz_cf (pz_gt (ρ 0)) (pz_gN (ρ 0)) (ρ 1 / 4))) - pz_at (pz_gt (ρ 0)) (pz_gN (ρ 0)) (pz_p (pz_cf (pz_gt (ρ 0)) (pz_gN (ρ 0)) (ρ 1 / 4))) = 5
  omega

theorem axq_iw4_7 : ax_RO ax_wC ax_XC axu_iw4_7 := by
  intro ρ hp hE hT
  have j0 : ρ 0 % 4 = 1 := pz_gj hE 0 (Nat.le_of_ble_eq_true rfl) rfl
  have j1 : ρ 1 % 4 = 1 := pz_gj hE 1 (Nat.le_of_ble_eq_true rfl) rfl
  obtain ⟨i2a, i2b, i2c, i2d⟩ := pz_gi hE 2 2147483648 2147483652 (Nat.le_of_ble_eq_true rfl) rfl
  obtain ⟨i3a, i3b, i3c, i3d⟩ := pz_gi hE 3 0 4294967295 (Nat.le_of_ble_eq_true rfl) rfl
  obtain ⟨i4a, i4b, i4c, i4d⟩ := pz_gi hE 4 2147483648 2147484448 (Nat.le_of_ble_eq_true rfl) rfl
  obtain ⟨i5a, i5b, i5c, i5d⟩ := pz_gi hE 5 0 4294967295 (Nat.le_of_ble_eq_true rfl) rfl
  obtain ⟨i6a, i6b, i6c, i6d⟩ := pz_gi hE 6 2147483520 2147483775 (Nat.le_of_ble_eq_true rfl) rfl
  obtain ⟨i7a, i7b, i7c, i7d⟩ := pz_gi hE 7 2147483648 2147483903 (Nat.le_of_ble_eq_true rfl) rfl
  have s1 : (ρ 2 / 4 + 2147483648) % 4294967296 + (4 / 4 + 2147483648) % 4294967296 = (ρ 3 / 4 + 2147483648) % 4294967296 + 2147483648 := pz_gs hE 11 4 15 ax_m3
  have c_place : ay_at hp 8 6 = some (ρ 4) := ay_gfj hE 42 24 19 8 6 ax_m4 (ax_vlq rfl rfl) (ax_vlj rfl rfl)
  have s2 : (ρ 4 / 4 + 2147483648) % 4294967296 + (ρ 2 / 4 + 2147483648) % 4294967296 = (ρ 5 / 4 + 2147483648) % 4294967296 + 2147483648 := pz_gs hE 19 11 23 ax_m5
  have c_tape : ay_at hp 9 (ρ 5 / 4) = some (ρ 6) := ay_gf hE 46 23 27 9 ax_m6 (ax_vlq rfl rfl)
  have r1 : (ρ 6 / 4 + 2147483648) % 4294967296 = (ρ 7 / 4 + 2147483648) % 4294967296 := pz_gc hE 0 27 31 (Nat.le_of_ble_eq_true rfl) ax_m8
  obtain ⟨-, -, F30⟩ : ay_ex hp 8 ∧ ay_ex hp 9 ∧ pz_x30 (ρ 0) (ay_at hp 8 1) (ay_at hp 9) := (ax_XF_lt (x := 30) (Nat.le_of_ble_eq_true rfl)).mp (ax_gx hE (30, [3]) ax_m0)
  obtain ⟨-, -, -, -, F50⟩ : ay_ex hp 8 ∧ ay_ex hp 10 ∧ ay_ex hp 11 ∧ ay_ex hp 12 ∧ pz_x50 (ρ 0) (ρ 1) (ay_at hp 8 5) (ay_at hp 8 6) (ay_at hp 8 7) (ay_at hp 8 8) (ay_at hp 10 0) (ay_at hp 10 1) (ay_at hp 10 2) (ay_at hp 10 3) (ay_at hp 10 4) (ay_at hp 8 9) (ay_at hp 8 11) (ay_at hp 8 10) (ay_at hp 8 3) (ay_at hp 8 4) (ay_at hp 11) (ay_at hp 12) := (ax_XF_lt (x := 50) (Nat.le_of_ble_eq_true rfl)).mp (ax_gx hE (50, [3, 7]) ax_m1)
  rw [c_place] at F50
  have F62 : pz_x62 (ρ 0) (ρ 1) (4030) (ρ 2) := (ax_XF_lt (x := 62) (Nat.le_of_ble_eq_true rfl)).mp (ax_gx hE (62, [3, 7, 4030, 11]) ax_m2)
  refine ⟨(fun y hy => by cases hy), _, List.mem_cons_self, ρ, fun _ _ => rfl, ax_px hE rfl (fun y hy => ?_)⟩
  cases List.mem_singleton.mp hy
  refine (ax_XF_lt (x := 62) (Nat.le_of_ble_eq_true rfl)).mpr ?_
  show pz_x62 (ρ 0) (ρ 1) (4030) (ρ 3)
  have ch := pz_chr (v := 4030) (i := ρ 2) (z := ρ 7) (l := [108, 105, 110, 107, 115]) (by decide +kernel) (pz_g42 hE 4030 11 31 (by decide))
  have ep : ρ 4 / 4 = pz_at (pz_gt (ρ 0)) (pz_gN (ρ 0)) (pz_p (pz_cf (pz_gt (ρ 0)) (pz_gN (ρ 0)) (ρ 1 / 4))) := F50.2.1
  have hw : pz_at (pz_gt (ρ 0)) (pz_gN (ρ 0)) (pz_p (pz_cf (pz_gt (ρ 0)) (pz_gN (ρ 0)) (ρ 1 / 4))) < pz_gN (ρ 0) ∧ pz_nx (pz_gt (ρ 0)) (pz_gN (ρ 0)) (pz_p (pz_cf (pz_gt (ρ 0)) (pz_gN (ρ 0)) (ρ 1 / 4))) ≤ pz_gN (ρ 0) := pz_wd_le F62.1
  have hln : pz_nx (pz_gt (ρ 0)) (pz_gN (ρ 0)) (pz_p (pz_cf (pz_gt (ρ 0)) (pz_gN (ρ 0)) (ρ 1 / 4))) - pz_at (pz_gt (ρ 0)) (pz_gN (ρ 0)) (pz_p (pz_cf (pz_gt (ρ 0)) (pz_gN (ρ 0)) (ρ 1 / 4))) = 5 := F62.2.1
  have hi1 : ρ 2 / 4 < 5 := by omega
  have ha1 : ρ 4 / 4 ≤ 800 := by omega
  have hq1 : ρ 5 / 4 = ρ 4 / 4 + ρ 2 / 4 := by omega
  have hb := F30.2.2 (ρ 5 / 4) (by have := hw.2; omega)
  rw [c_tape] at hb
  have hb := Option.some.inj hb
  rw [show ρ 5 / 4 = pz_at (pz_gt (ρ 0)) (pz_gN (ρ 0)) (pz_p (pz_cf (pz_gt (ρ 0)) (pz_gN (ρ 0)) (ρ 1 / 4))) + ρ 2 / 4 by omega] at hb
  refine ⟨F62.1, F62.2.1, fun j hj => ?_⟩
  by_cases h : j < ρ 2 / 4
  · exact F62.2.2 j h
  · have e : j = ρ 2 / 4 := by omega
    have hcc : ρ 6 / 4 = ρ 7 / 4 := by omega
    have hb2 : pz_b (pz_gt (ρ 0)) (pz_at (pz_gt (ρ 0)) (pz_gN (ρ 0)) (pz_p (pz_cf (pz_gt (ρ 0)) (pz_gN (ρ 0)) (ρ 1 / 4))) + ρ 2 / 4) = ρ 6 / 4 := by omega
    rw [e]
    refine Eq.trans ?_ (pz_getD ch).symm
    rw [← hcc]
    exact hb2

theorem axq_iw5_7 : ax_RO ax_wC ax_XC axu_iw5_7 := by
  intro ρ hp hE hT
  have j0 : ρ 0 % 4 = 1 := pz_gj hE 0 (Nat.le_of_ble_eq_true rfl) rfl
  have j1 : ρ 1 % 4 = 1 := pz_gj hE 1 (Nat.le_of_ble_eq_true rfl) rfl
  obtain ⟨i2a, i2b, i2c, i2d⟩ := pz_gi hE 2 2147483648 2147483652 (Nat.le_of_ble_eq_true rfl) rfl
  obtain ⟨i3a, i3b, i3c, i3d⟩ := pz_gi hE 3 2147483648 2147484448 (Nat.le_of_ble_eq_true rfl) rfl
  obtain ⟨i4a, i4b, i4c, i4d⟩ := pz_gi hE 4 0 4294967295 (Nat.le_of_ble_eq_true rfl) rfl
  obtain ⟨i5a, i5b, i5c, i5d⟩ := pz_gi hE 5 2147483520 2147483775 (Nat.le_of_ble_eq_true rfl) rfl
  obtain ⟨i6a, i6b, i6c, i6d⟩ := pz_gi hE 6 2147483648 2147483903 (Nat.le_of_ble_eq_true rfl) rfl
  have c_place : ay_at hp 8 6 = some (ρ 3) := ay_gfj hE 42 24 15 8 6 ax_m3 (ax_vlq rfl rfl) (ax_vlj rfl rfl)
  have s1 : (ρ 3 / 4 + 2147483648) % 4294967296 + (ρ 2 / 4 + 2147483648) % 4294967296 = (ρ 4 / 4 + 2147483648) % 4294967296 + 2147483648 := pz_gs hE 15 11 19 ax_m4
  have c_tape : ay_at hp 9 (ρ 4 / 4) = some (ρ 5) := ay_gf hE 46 19 23 9 ax_m5 (ax_vlq rfl rfl)
  have r1 : (ρ 5 / 4 + 2147483648) % 4294967296 ≠ (ρ 6 / 4 + 2147483648) % 4294967296 := pz_gc hE 1 23 27 (Nat.le_of_ble_eq_true rfl) ax_m7
  obtain ⟨-, -, F30⟩ : ay_ex hp 8 ∧ ay_ex hp 9 ∧ pz_x30 (ρ 0) (ay_at hp 8 1) (ay_at hp 9) := (ax_XF_lt (x := 30) (Nat.le_of_ble_eq_true rfl)).mp (ax_gx hE (30, [3]) ax_m0)
  obtain ⟨-, -, -, -, F50⟩ : ay_ex hp 8 ∧ ay_ex hp 10 ∧ ay_ex hp 11 ∧ ay_ex hp 12 ∧ pz_x50 (ρ 0) (ρ 1) (ay_at hp 8 5) (ay_at hp 8 6) (ay_at hp 8 7) (ay_at hp 8 8) (ay_at hp 10 0) (ay_at hp 10 1) (ay_at hp 10 2) (ay_at hp 10 3) (ay_at hp 10 4) (ay_at hp 8 9) (ay_at hp 8 11) (ay_at hp 8 10) (ay_at hp 8 3) (ay_at hp 8 4) (ay_at hp 11) (ay_at hp 12) := (ax_XF_lt (x := 50) (Nat.le_of_ble_eq_true rfl)).mp (ax_gx hE (50, [3, 7]) ax_m1)
  rw [c_place] at F50
  have F62 : pz_x62 (ρ 0) (ρ 1) (4030) (ρ 2) := (ax_XF_lt (x := 62) (Nat.le_of_ble_eq_true rfl)).mp (ax_gx hE (62, [3, 7, 4030, 11]) ax_m2)
  refine ⟨(fun y hy => by cases hy), _, List.mem_cons_self, ρ, fun _ _ => rfl, ax_px hE rfl (fun y hy => ?_)⟩
  cases List.mem_singleton.mp hy
  refine (ax_XF_lt (x := 61) (Nat.le_of_ble_eq_true rfl)).mpr ?_
  show pz61 (pz_gt (ρ 0)) (pz_gN (ρ 0)) ((ρ 1) / 4) ((4030) / 4 - 1000)
  have ch := pz_chr (v := 4030) (i := ρ 2) (z := ρ 6) (l := [108, 105, 110, 107, 115]) (by decide +kernel) (pz_g42 hE 4030 11 27 (by decide))
  have ep : ρ 3 / 4 = pz_at (pz_gt (ρ 0)) (pz_gN (ρ 0)) (pz_p (pz_cf (pz_gt (ρ 0)) (pz_gN (ρ 0)) (ρ 1 / 4))) := F50.2.1
  have hw : pz_at (pz_gt (ρ 0)) (pz_gN (ρ 0)) (pz_p (pz_cf (pz_gt (ρ 0)) (pz_gN (ρ 0)) (ρ 1 / 4))) < pz_gN (ρ 0) ∧ pz_nx (pz_gt (ρ 0)) (pz_gN (ρ 0)) (pz_p (pz_cf (pz_gt (ρ 0)) (pz_gN (ρ 0)) (ρ 1 / 4))) ≤ pz_gN (ρ 0) := pz_wd_le F62.1
  have hln : pz_nx (pz_gt (ρ 0)) (pz_gN (ρ 0)) (pz_p (pz_cf (pz_gt (ρ 0)) (pz_gN (ρ 0)) (ρ 1 / 4))) - pz_at (pz_gt (ρ 0)) (pz_gN (ρ 0)) (pz_p (pz_cf (pz_gt (ρ 0)) (pz_gN (ρ 0)) (ρ 1 / 4))) = 5 := F62.2.1
  have hi1 : ρ 2 / 4 < 5 := by omega
  have ha1 : ρ 3 / 4 ≤ 800 := by omega
  have hq1 : ρ 4 / 4 = ρ 3 / 4 + ρ 2 / 4 := by omega
  have hb := F30.2.2 (ρ 4 / 4) (by have := hw.2; omega)
  rw [c_tape] at hb
  have hb := Option.some.inj hb
  rw [show ρ 4 / 4 = pz_at (pz_gt (ρ 0)) (pz_gN (ρ 0)) (pz_p (pz_cf (pz_gt (ρ 0)) (pz_gN (ρ 0)) (ρ 1 / 4))) + ρ 2 / 4 by omega] at hb
  refine pz_is_no (Or.inr (Or.inr ⟨ρ 2 / 4, show ρ 2 / 4 < 5 by omega, fun z => ?_⟩))
  have hb2 : pz_b (pz_gt (ρ 0)) (pz_at (pz_gt (ρ 0)) (pz_gN (ρ 0)) (pz_p (pz_cf (pz_gt (ρ 0)) (pz_gN (ρ 0)) (ρ 1 / 4))) + ρ 2 / 4) = ρ 5 / 4 := by omega
  have z2 := (hb2.symm.trans z).trans (pz_getD ch)
  rw [z2] at r1
  exact r1 rfl

theorem axq_iw6_7 : ax_RO ax_wC ax_XC axu_iw6_7 := by
  intro ρ hp hE hT
  have j0 : ρ 0 % 4 = 1 := pz_gj hE 0 (Nat.le_of_ble_eq_true rfl) rfl
  have j1 : ρ 1 % 4 = 1 := pz_gj hE 1 (Nat.le_of_ble_eq_true rfl) rfl
  obtain ⟨i2a, i2b, i2c, i2d⟩ := pz_gi hE 2 2147483653 2147483653 (Nat.le_of_ble_eq_true rfl) rfl
  obtain ⟨-, -, -, -, F50⟩ : ay_ex hp 8 ∧ ay_ex hp 10 ∧ ay_ex hp 11 ∧ ay_ex hp 12 ∧ pz_x50 (ρ 0) (ρ 1) (ay_at hp 8 5) (ay_at hp 8 6) (ay_at hp 8 7) (ay_at hp 8 8) (ay_at hp 10 0) (ay_at hp 10 1) (ay_at hp 10 2) (ay_at hp 10 3) (ay_at hp 10 4) (ay_at hp 8 9) (ay_at hp 8 11) (ay_at hp 8 10) (ay_at hp 8 3) (ay_at hp 8 4) (ay_at hp 11) (ay_at hp 12) := (ax_XF_lt (x := 50) (Nat.le_of_ble_eq_true rfl)).mp (ax_gx hE (50, [3, 7]) ax_m0)
  have F62 : pz_x62 (ρ 0) (ρ 1) (4030) (ρ 2) := (ax_XF_lt (x := 62) (Nat.le_of_ble_eq_true rfl)).mp (ax_gx hE (62, [3, 7, 4030, 11]) ax_m1)
  refine ⟨(fun y hy => by cases hy), _, List.mem_cons_self, ρ, fun _ _ => rfl, ax_px hE rfl (fun y hy => ?_)⟩
  cases List.mem_singleton.mp hy
  refine (ax_XF_lt (x := 60) (Nat.le_of_ble_eq_true rfl)).mpr ?_
  show pz60 (pz_gt (ρ 0)) (pz_gN (ρ 0)) ((ρ 1) / 4) ((4030) / 4 - 1000)
  exact pz_is_yes F62.1 F62.2.1 (fun i hi => F62.2.2 i (by have : i < 5 := hi; omega))

theorem axq_fl1_1 : ax_RO ax_wC ax_XC axu_fl1_1 := by
  intro ρ hp hE hT
  have j0 : ρ 0 % 4 = 1 := pz_gj hE 0 (Nat.le_of_ble_eq_true rfl) rfl
  have j1 : ρ 1 % 4 = 1 := pz_gj hE 1 (Nat.le_of_ble_eq_true rfl) rfl
  obtain ⟨-, -, -, -, F50⟩ : ay_ex hp 8 ∧ ay_ex hp 10 ∧ ay_ex hp 11 ∧ ay_ex hp 12 ∧ pz_x50 (ρ 0) (ρ 1) (ay_at hp 8 5) (ay_at hp 8 6) (ay_at hp 8 7) (ay_at hp 8 8) (ay_at hp 10 0) (ay_at hp 10 1) (ay_at hp 10 2) (ay_at hp 10 3) (ay_at hp 10 4) (ay_at hp 8 9) (ay_at hp 8 11) (ay_at hp 8 10) (ay_at hp 8 3) (ay_at hp 8 4) (ay_at hp 11) (ay_at hp 12) := (ax_XF_lt (x := 50) (Nat.le_of_ble_eq_true rfl)).mp (ax_gx hE (50, [3, 7]) ax_m0)
  have F64 : pz64 (pz_gt (ρ 0)) (pz_gN (ρ 0)) ((ρ 1) / 4) ((4) / 4) := (ax_XF_lt (x := 64) (Nat.le_of_ble_eq_true rfl)).mp (ax_gx hE (64, [3, 7, 4]) ax_m1)
  refine ⟨(fun y hy => by cases hy), _, List.mem_cons_self, ρ, fun _ _ => rfl, ax_px hE rfl (fun y hy => ?_)⟩
  cases List.mem_singleton.mp hy
  refine (ax_XF_wr (x := 65) (Nat.le_of_ble_eq_true rfl)).mpr ?_
  show ay_ex (ax_upd hp 42 12 (4)) 8 ∧ pz_x65 (ρ 0) (ρ 1) (4) (ay_at (ax_upd hp 42 12 (4)) 8 6) (ay_at (ax_upd hp 42 12 (4)) 8 3)
  obtain ⟨o0, ho0⟩ := ay_some hT (q := 8) (g := 2) (n := 12) rfl rfl (j := 12 / 4) (Nat.le_of_ble_eq_true rfl)
  have u1 : ∀ q, q ≠ 8 → ay_at (ax_upd hp 42 12 (4)) q = ay_at hp q := fun q hq => funext (fun j => ay_upd_ne hT.1 hq j)
  have u2 : ∀ j, ay_at (ax_upd hp 42 12 (4)) 8 j = if j = 3 then some (4) else ay_at hp 8 j := fun j => ay_upd_eq hT.1 rfl ho0 j
  refine ⟨ay_ex_upd hT.1 (ax_cellT hT (q := 8) (g := 2) rfl), ?_⟩
  rw [u2 6, if_neg (show ¬ 6 = 3 from Nat.ne_of_beq_eq_false rfl), u2 3, if_pos rfl]
  exact ⟨F64, rfl, F50.2.1⟩

theorem axq_fl2_1 : ax_RO ax_wC ax_XC axu_fl2_1 := by
  intro ρ hp hE hT
  have j0 : ρ 0 % 4 = 1 := pz_gj hE 0 (Nat.le_of_ble_eq_true rfl) rfl
  have j1 : ρ 1 % 4 = 1 := pz_gj hE 1 (Nat.le_of_ble_eq_true rfl) rfl
  obtain ⟨i2a, i2b, i2c, i2d⟩ := pz_gi hE 2 2147483648 2147484448 (Nat.le_of_ble_eq_true rfl) rfl
  have c_place : ay_at hp 8 6 = some (ρ 2) := ay_gfj hE 42 24 11 8 6 ax_m1 (ax_vlq rfl rfl) (ax_vlj rfl rfl)
  obtain ⟨-, F65⟩ : ay_ex hp 8 ∧ pz_x65 (ρ 0) (ρ 1) (4) (ay_at hp 8 6) (ay_at hp 8 3) := (ax_XF_lt (x := 65) (Nat.le_of_ble_eq_true rfl)).mp (ax_gx hE (65, [3, 7, 4]) ax_m0)
  rw [c_place] at F65
  refine ⟨(fun y hy => by cases hy), _, List.mem_cons_self, ρ, fun _ _ => rfl, ax_px hE rfl (fun y hy => ?_)⟩
  cases List.mem_singleton.mp hy
  refine (ax_XF_wr (x := 63) (Nat.le_of_ble_eq_true rfl)).mpr ?_
  show ay_ex (ax_upd hp 42 16 (ρ 2)) 8 ∧ pz63 (pz_gt (ρ 0)) (pz_gN (ρ 0)) (ay_ln (ay_at (ax_upd hp 42 16 (ρ 2)) 8 3)) (ay_ln (ay_at (ax_upd hp 42 16 (ρ 2)) 8 4))
  obtain ⟨o0, ho0⟩ := ay_some hT (q := 8) (g := 2) (n := 12) rfl rfl (j := 16 / 4) (Nat.le_of_ble_eq_true rfl)
  have u1 : ∀ q, q ≠ 8 → ay_at (ax_upd hp 42 16 (ρ 2)) q = ay_at hp q := fun q hq => funext (fun j => ay_upd_ne hT.1 hq j)
  have u2 : ∀ j, ay_at (ax_upd hp 42 16 (ρ 2)) 8 j = if j = 4 then some (ρ 2) else ay_at hp 8 j := fun j => ay_upd_eq hT.1 rfl ho0 j
  refine ⟨ay_ex_upd hT.1 (ax_cellT hT (q := 8) (g := 2) rfl), ?_⟩
  rw [u2 3, if_neg (show ¬ 3 = 4 from Nat.ne_of_beq_eq_false rfl), u2 4, if_pos rfl]
  have e := pq_fl2 F65.1
  have e2 : ρ 2 / 4 = pz_at (pz_gt (ρ 0)) (pz_gN (ρ 0)) (pz_p (pz_cf (pz_gt (ρ 0)) (pz_gN (ρ 0)) (ρ 1 / 4))) := F65.2.2
  have e3 : ay_ln (ay_at hp 8 3) = 1 := F65.2.1
  show pz63 _ _ (ay_ln (ay_at hp 8 3)) (ρ 2 / 4)
  rw [e3, e2]
  exact e

theorem axq_fl1_2 : ax_RO ax_wC ax_XC axu_fl1_2 := by
  intro ρ hp hE hT
  have j0 : ρ 0 % 4 = 1 := pz_gj hE 0 (Nat.le_of_ble_eq_true rfl) rfl
  have j1 : ρ 1 % 4 = 1 := pz_gj hE 1 (Nat.le_of_ble_eq_true rfl) rfl
  obtain ⟨-, -, -, -, F50⟩ : ay_ex hp 8 ∧ ay_ex hp 10 ∧ ay_ex hp 11 ∧ ay_ex hp 12 ∧ pz_x50 (ρ 0) (ρ 1) (ay_at hp 8 5) (ay_at hp 8 6) (ay_at hp 8 7) (ay_at hp 8 8) (ay_at hp 10 0) (ay_at hp 10 1) (ay_at hp 10 2) (ay_at hp 10 3) (ay_at hp 10 4) (ay_at hp 8 9) (ay_at hp 8 11) (ay_at hp 8 10) (ay_at hp 8 3) (ay_at hp 8 4) (ay_at hp 11) (ay_at hp 12) := (ax_XF_lt (x := 50) (Nat.le_of_ble_eq_true rfl)).mp (ax_gx hE (50, [3, 7]) ax_m0)
  have F64 : pz64 (pz_gt (ρ 0)) (pz_gN (ρ 0)) ((ρ 1) / 4) ((8) / 4) := (ax_XF_lt (x := 64) (Nat.le_of_ble_eq_true rfl)).mp (ax_gx hE (64, [3, 7, 8]) ax_m1)
  refine ⟨(fun y hy => by cases hy), _, List.mem_cons_self, ρ, fun _ _ => rfl, ax_px hE rfl (fun y hy => ?_)⟩
  cases List.mem_singleton.mp hy
  refine (ax_XF_wr (x := 65) (Nat.le_of_ble_eq_true rfl)).mpr ?_
  show ay_ex (ax_upd hp 42 12 (8)) 8 ∧ pz_x65 (ρ 0) (ρ 1) (8) (ay_at (ax_upd hp 42 12 (8)) 8 6) (ay_at (ax_upd hp 42 12 (8)) 8 3)
  obtain ⟨o0, ho0⟩ := ay_some hT (q := 8) (g := 2) (n := 12) rfl rfl (j := 12 / 4) (Nat.le_of_ble_eq_true rfl)
  have u1 : ∀ q, q ≠ 8 → ay_at (ax_upd hp 42 12 (8)) q = ay_at hp q := fun q hq => funext (fun j => ay_upd_ne hT.1 hq j)
  have u2 : ∀ j, ay_at (ax_upd hp 42 12 (8)) 8 j = if j = 3 then some (8) else ay_at hp 8 j := fun j => ay_upd_eq hT.1 rfl ho0 j
  refine ⟨ay_ex_upd hT.1 (ax_cellT hT (q := 8) (g := 2) rfl), ?_⟩
  rw [u2 6, if_neg (show ¬ 6 = 3 from Nat.ne_of_beq_eq_false rfl), u2 3, if_pos rfl]
  exact ⟨F64, rfl, F50.2.1⟩

theorem axq_fl2_2 : ax_RO ax_wC ax_XC axu_fl2_2 := by
  intro ρ hp hE hT
  have j0 : ρ 0 % 4 = 1 := pz_gj hE 0 (Nat.le_of_ble_eq_true rfl) rfl
  have j1 : ρ 1 % 4 = 1 := pz_gj hE 1 (Nat.le_of_ble_eq_true rfl) rfl
  obtain ⟨i2a, i2b, i2c, i2d⟩ := pz_gi hE 2 2147483648 2147484448 (Nat.le_of_ble_eq_true rfl) rfl
  have c_place : ay_at hp 8 6 = some (ρ 2) := ay_gfj hE 42 24 11 8 6 ax_m1 (ax_vlq rfl rfl) (ax_vlj rfl rfl)
  obtain ⟨-, F65⟩ : ay_ex hp 8 ∧ pz_x65 (ρ 0) (ρ 1) (8) (ay_at hp 8 6) (ay_at hp 8 3) := (ax_XF_lt (x := 65) (Nat.le_of_ble_eq_true rfl)).mp (ax_gx hE (65, [3, 7, 8]) ax_m0)
  rw [c_place] at F65
  refine ⟨(fun y hy => by cases hy), _, List.mem_cons_self, ρ, fun _ _ => rfl, ax_px hE rfl (fun y hy => ?_)⟩
  cases List.mem_singleton.mp hy
  refine (ax_XF_wr (x := 63) (Nat.le_of_ble_eq_true rfl)).mpr ?_
  show ay_ex (ax_upd hp 42 16 (ρ 2)) 8 ∧ pz63 (pz_gt (ρ 0)) (pz_gN (ρ 0)) (ay_ln (ay_at (ax_upd hp 42 16 (ρ 2)) 8 3)) (ay_ln (ay_at (ax_upd hp 42 16 (ρ 2)) 8 4))
  obtain ⟨o0, ho0⟩ := ay_some hT (q := 8) (g := 2) (n := 12) rfl rfl (j := 16 / 4) (Nat.le_of_ble_eq_true rfl)
  have u1 : ∀ q, q ≠ 8 → ay_at (ax_upd hp 42 16 (ρ 2)) q = ay_at hp q := fun q hq => funext (fun j => ay_upd_ne hT.1 hq j)
  have u2 : ∀ j, ay_at (ax_upd hp 42 16 (ρ 2)) 8 j = if j = 4 then some (ρ 2) else ay_at hp 8 j := fun j => ay_upd_eq hT.1 rfl ho0 j
  refine ⟨ay_ex_upd hT.1 (ax_cellT hT (q := 8) (g := 2) rfl), ?_⟩
  rw [u2 3, if_neg (show ¬ 3 = 4 from Nat.ne_of_beq_eq_false rfl), u2 4, if_pos rfl]
  have e := pq_fl2 F65.1
  have e2 : ρ 2 / 4 = pz_at (pz_gt (ρ 0)) (pz_gN (ρ 0)) (pz_p (pz_cf (pz_gt (ρ 0)) (pz_gN (ρ 0)) (ρ 1 / 4))) := F65.2.2
  have e3 : ay_ln (ay_at hp 8 3) = 2 := F65.2.1
  show pz63 _ _ (ay_ln (ay_at hp 8 3)) (ρ 2 / 4)
  rw [e3, e2]
  exact e

theorem axq_fl1_3 : ax_RO ax_wC ax_XC axu_fl1_3 := by
  intro ρ hp hE hT
  have j0 : ρ 0 % 4 = 1 := pz_gj hE 0 (Nat.le_of_ble_eq_true rfl) rfl
  have j1 : ρ 1 % 4 = 1 := pz_gj hE 1 (Nat.le_of_ble_eq_true rfl) rfl
  obtain ⟨-, -, -, -, F50⟩ : ay_ex hp 8 ∧ ay_ex hp 10 ∧ ay_ex hp 11 ∧ ay_ex hp 12 ∧ pz_x50 (ρ 0) (ρ 1) (ay_at hp 8 5) (ay_at hp 8 6) (ay_at hp 8 7) (ay_at hp 8 8) (ay_at hp 10 0) (ay_at hp 10 1) (ay_at hp 10 2) (ay_at hp 10 3) (ay_at hp 10 4) (ay_at hp 8 9) (ay_at hp 8 11) (ay_at hp 8 10) (ay_at hp 8 3) (ay_at hp 8 4) (ay_at hp 11) (ay_at hp 12) := (ax_XF_lt (x := 50) (Nat.le_of_ble_eq_true rfl)).mp (ax_gx hE (50, [3, 7]) ax_m0)
  have F64 : pz64 (pz_gt (ρ 0)) (pz_gN (ρ 0)) ((ρ 1) / 4) ((12) / 4) := (ax_XF_lt (x := 64) (Nat.le_of_ble_eq_true rfl)).mp (ax_gx hE (64, [3, 7, 12]) ax_m1)
  refine ⟨(fun y hy => by cases hy), _, List.mem_cons_self, ρ, fun _ _ => rfl, ax_px hE rfl (fun y hy => ?_)⟩
  cases List.mem_singleton.mp hy
  refine (ax_XF_wr (x := 65) (Nat.le_of_ble_eq_true rfl)).mpr ?_
  show ay_ex (ax_upd hp 42 12 (12)) 8 ∧ pz_x65 (ρ 0) (ρ 1) (12) (ay_at (ax_upd hp 42 12 (12)) 8 6) (ay_at (ax_upd hp 42 12 (12)) 8 3)
  obtain ⟨o0, ho0⟩ := ay_some hT (q := 8) (g := 2) (n := 12) rfl rfl (j := 12 / 4) (Nat.le_of_ble_eq_true rfl)
  have u1 : ∀ q, q ≠ 8 → ay_at (ax_upd hp 42 12 (12)) q = ay_at hp q := fun q hq => funext (fun j => ay_upd_ne hT.1 hq j)
  have u2 : ∀ j, ay_at (ax_upd hp 42 12 (12)) 8 j = if j = 3 then some (12) else ay_at hp 8 j := fun j => ay_upd_eq hT.1 rfl ho0 j
  refine ⟨ay_ex_upd hT.1 (ax_cellT hT (q := 8) (g := 2) rfl), ?_⟩
  rw [u2 6, if_neg (show ¬ 6 = 3 from Nat.ne_of_beq_eq_false rfl), u2 3, if_pos rfl]
  exact ⟨F64, rfl, F50.2.1⟩

theorem axq_fl2_3 : ax_RO ax_wC ax_XC axu_fl2_3 := by
  intro ρ hp hE hT
  have j0 : ρ 0 % 4 = 1 := pz_gj hE 0 (Nat.le_of_ble_eq_true rfl) rfl
  have j1 : ρ 1 % 4 = 1 := pz_gj hE 1 (Nat.le_of_ble_eq_true rfl) rfl
  obtain ⟨i2a, i2b, i2c, i2d⟩ := pz_gi hE 2 2147483648 2147484448 (Nat.le_of_ble_eq_true rfl) rfl
  have c_place : ay_at hp 8 6 = some (ρ 2) := ay_gfj hE 42 24 11 8 6 ax_m1 (ax_vlq rfl rfl) (ax_vlj rfl rfl)
  obtain ⟨-, F65⟩ : ay_ex hp 8 ∧ pz_x65 (ρ 0) (ρ 1) (12) (ay_at hp 8 6) (ay_at hp 8 3) := (ax_XF_lt (x := 65) (Nat.le_of_ble_eq_true rfl)).mp (ax_gx hE (65, [3, 7, 12]) ax_m0)
  rw [c_place] at F65
  refine ⟨(fun y hy => by cases hy), _, List.mem_cons_self, ρ, fun _ _ => rfl, ax_px hE rfl (fun y hy => ?_)⟩
  cases List.mem_singleton.mp hy
  refine (ax_XF_wr (x := 63) (Nat.le_of_ble_eq_true rfl)).mpr ?_
  show ay_ex (ax_upd hp 42 16 (ρ 2)) 8 ∧ pz63 (pz_gt (ρ 0)) (pz_gN (ρ 0)) (ay_ln (ay_at (ax_upd hp 42 16 (ρ 2)) 8 3)) (ay_ln (ay_at (ax_upd hp 42 16 (ρ 2)) 8 4))
  obtain ⟨o0, ho0⟩ := ay_some hT (q := 8) (g := 2) (n := 12) rfl rfl (j := 16 / 4) (Nat.le_of_ble_eq_true rfl)
  have u1 : ∀ q, q ≠ 8 → ay_at (ax_upd hp 42 16 (ρ 2)) q = ay_at hp q := fun q hq => funext (fun j => ay_upd_ne hT.1 hq j)
  have u2 : ∀ j, ay_at (ax_upd hp 42 16 (ρ 2)) 8 j = if j = 4 then some (ρ 2) else ay_at hp 8 j := fun j => ay_upd_eq hT.1 rfl ho0 j
  refine ⟨ay_ex_upd hT.1 (ax_cellT hT (q := 8) (g := 2) rfl), ?_⟩
  rw [u2 3, if_neg (show ¬ 3 = 4 from Nat.ne_of_beq_eq_false rfl), u2 4, if_pos rfl]
  have e := pq_fl2 F65.1
  have e2 : ρ 2 / 4 = pz_at (pz_gt (ρ 0)) (pz_gN (ρ 0)) (pz_p (pz_cf (pz_gt (ρ 0)) (pz_gN (ρ 0)) (ρ 1 / 4))) := F65.2.2
  have e3 : ay_ln (ay_at hp 8 3) = 3 := F65.2.1
  show pz63 _ _ (ay_ln (ay_at hp 8 3)) (ρ 2 / 4)
  rw [e3, e2]
  exact e

theorem axq_fl1_4 : ax_RO ax_wC ax_XC axu_fl1_4 := by
  intro ρ hp hE hT
  have j0 : ρ 0 % 4 = 1 := pz_gj hE 0 (Nat.le_of_ble_eq_true rfl) rfl
  have j1 : ρ 1 % 4 = 1 := pz_gj hE 1 (Nat.le_of_ble_eq_true rfl) rfl
  obtain ⟨-, -, -, -, F50⟩ : ay_ex hp 8 ∧ ay_ex hp 10 ∧ ay_ex hp 11 ∧ ay_ex hp 12 ∧ pz_x50 (ρ 0) (ρ 1) (ay_at hp 8 5) (ay_at hp 8 6) (ay_at hp 8 7) (ay_at hp 8 8) (ay_at hp 10 0) (ay_at hp 10 1) (ay_at hp 10 2) (ay_at hp 10 3) (ay_at hp 10 4) (ay_at hp 8 9) (ay_at hp 8 11) (ay_at hp 8 10) (ay_at hp 8 3) (ay_at hp 8 4) (ay_at hp 11) (ay_at hp 12) := (ax_XF_lt (x := 50) (Nat.le_of_ble_eq_true rfl)).mp (ax_gx hE (50, [3, 7]) ax_m0)
  have F64 : pz64 (pz_gt (ρ 0)) (pz_gN (ρ 0)) ((ρ 1) / 4) ((16) / 4) := (ax_XF_lt (x := 64) (Nat.le_of_ble_eq_true rfl)).mp (ax_gx hE (64, [3, 7, 16]) ax_m1)
  refine ⟨(fun y hy => by cases hy), _, List.mem_cons_self, ρ, fun _ _ => rfl, ax_px hE rfl (fun y hy => ?_)⟩
  cases List.mem_singleton.mp hy
  refine (ax_XF_wr (x := 65) (Nat.le_of_ble_eq_true rfl)).mpr ?_
  show ay_ex (ax_upd hp 42 12 (16)) 8 ∧ pz_x65 (ρ 0) (ρ 1) (16) (ay_at (ax_upd hp 42 12 (16)) 8 6) (ay_at (ax_upd hp 42 12 (16)) 8 3)
  obtain ⟨o0, ho0⟩ := ay_some hT (q := 8) (g := 2) (n := 12) rfl rfl (j := 12 / 4) (Nat.le_of_ble_eq_true rfl)
  have u1 : ∀ q, q ≠ 8 → ay_at (ax_upd hp 42 12 (16)) q = ay_at hp q := fun q hq => funext (fun j => ay_upd_ne hT.1 hq j)
  have u2 : ∀ j, ay_at (ax_upd hp 42 12 (16)) 8 j = if j = 3 then some (16) else ay_at hp 8 j := fun j => ay_upd_eq hT.1 rfl ho0 j
  refine ⟨ay_ex_upd hT.1 (ax_cellT hT (q := 8) (g := 2) rfl), ?_⟩
  rw [u2 6, if_neg (show ¬ 6 = 3 from Nat.ne_of_beq_eq_false rfl), u2 3, if_pos rfl]
  exact ⟨F64, rfl, F50.2.1⟩

theorem axq_fl2_4 : ax_RO ax_wC ax_XC axu_fl2_4 := by
  intro ρ hp hE hT
  have j0 : ρ 0 % 4 = 1 := pz_gj hE 0 (Nat.le_of_ble_eq_true rfl) rfl
  have j1 : ρ 1 % 4 = 1 := pz_gj hE 1 (Nat.le_of_ble_eq_true rfl) rfl
  obtain ⟨i2a, i2b, i2c, i2d⟩ := pz_gi hE 2 2147483648 2147484448 (Nat.le_of_ble_eq_true rfl) rfl
  have c_place : ay_at hp 8 6 = some (ρ 2) := ay_gfj hE 42 24 11 8 6 ax_m1 (ax_vlq rfl rfl) (ax_vlj rfl rfl)
  obtain ⟨-, F65⟩ : ay_ex hp 8 ∧ pz_x65 (ρ 0) (ρ 1) (16) (ay_at hp 8 6) (ay_at hp 8 3) := (ax_XF_lt (x := 65) (Nat.le_of_ble_eq_true rfl)).mp (ax_gx hE (65, [3, 7, 16]) ax_m0)
  rw [c_place] at F65
  refine ⟨(fun y hy => by cases hy), _, List.mem_cons_self, ρ, fun _ _ => rfl, ax_px hE rfl (fun y hy => ?_)⟩
  cases List.mem_singleton.mp hy
  refine (ax_XF_wr (x := 63) (Nat.le_of_ble_eq_true rfl)).mpr ?_
  show ay_ex (ax_upd hp 42 16 (ρ 2)) 8 ∧ pz63 (pz_gt (ρ 0)) (pz_gN (ρ 0)) (ay_ln (ay_at (ax_upd hp 42 16 (ρ 2)) 8 3)) (ay_ln (ay_at (ax_upd hp 42 16 (ρ 2)) 8 4))
  obtain ⟨o0, ho0⟩ := ay_some hT (q := 8) (g := 2) (n := 12) rfl rfl (j := 16 / 4) (Nat.le_of_ble_eq_true rfl)
  have u1 : ∀ q, q ≠ 8 → ay_at (ax_upd hp 42 16 (ρ 2)) q = ay_at hp q := fun q hq => funext (fun j => ay_upd_ne hT.1 hq j)
  have u2 : ∀ j, ay_at (ax_upd hp 42 16 (ρ 2)) 8 j = if j = 4 then some (ρ 2) else ay_at hp 8 j := fun j => ay_upd_eq hT.1 rfl ho0 j
  refine ⟨ay_ex_upd hT.1 (ax_cellT hT (q := 8) (g := 2) rfl), ?_⟩
  rw [u2 3, if_neg (show ¬ 3 = 4 from Nat.ne_of_beq_eq_false rfl), u2 4, if_pos rfl]
  have e := pq_fl2 F65.1
  have e2 : ρ 2 / 4 = pz_at (pz_gt (ρ 0)) (pz_gN (ρ 0)) (pz_p (pz_cf (pz_gt (ρ 0)) (pz_gN (ρ 0)) (ρ 1 / 4))) := F65.2.2
  have e3 : ay_ln (ay_at hp 8 3) = 4 := F65.2.1
  show pz63 _ _ (ay_ln (ay_at hp 8 3)) (ρ 2 / 4)
  rw [e3, e2]
  exact e

theorem axq_rn1a_1 : ax_RO ax_wC ax_XC axu_rn1a_1 := by
  intro ρ hp hE hT
  have j0 : ρ 0 % 4 = 1 := pz_gj hE 0 (Nat.le_of_ble_eq_true rfl) rfl
  have j1 : ρ 1 % 4 = 1 := pz_gj hE 1 (Nat.le_of_ble_eq_true rfl) rfl
  obtain ⟨i2a, i2b, i2c, i2d⟩ := pz_gi hE 2 0 2147483649 (Nat.le_of_ble_eq_true rfl) rfl
  have c_kind : ay_at hp 8 7 = some (ρ 2) := ay_gfj hE 42 28 11 8 7 ax_m2 (ax_vlq rfl rfl) (ax_vlj rfl rfl)
  obtain ⟨-, -, -, -, F50⟩ : ay_ex hp 8 ∧ ay_ex hp 10 ∧ ay_ex hp 11 ∧ ay_ex hp 12 ∧ pz_x50 (ρ 0) (ρ 1) (ay_at hp 8 5) (ay_at hp 8 6) (ay_at hp 8 7) (ay_at hp 8 8) (ay_at hp 10 0) (ay_at hp 10 1) (ay_at hp 10 2) (ay_at hp 10 3) (ay_at hp 10 4) (ay_at hp 8 9) (ay_at hp 8 11) (ay_at hp 8 10) (ay_at hp 8 3) (ay_at hp 8 4) (ay_at hp 11) (ay_at hp 12) := (ax_XF_lt (x := 50) (Nat.le_of_ble_eq_true rfl)).mp (ax_gx hE (50, [3, 7]) ax_m0)
  rw [c_kind] at F50
  have F71 : pz7 (pz_gt (ρ 0)) (pz_gN (ρ 0)) ((ρ 1) / 4) 1 := (ax_XF_lt (x := 71) (Nat.le_of_ble_eq_true rfl)).mp (ax_gx hE (71, [3, 7]) ax_m1)
  refine ⟨(fun y hy => by cases hy), _, List.mem_cons_self, ρ, fun _ _ => rfl, ax_px hE rfl (fun y hy => ?_)⟩
  cases List.mem_singleton.mp hy
  refine (ax_XF_lt (x := 64) (Nat.le_of_ble_eq_true rfl)).mpr ?_
  show pz64 (pz_gt (ρ 0)) (pz_gN (ρ 0)) ((ρ 1) / 4) ((4) / 4)
  have kd : ρ 2 / 4 = pz_kd (pz_gt (ρ 0)) (pz_gN (ρ 0)) (pz_p (pz_cf (pz_gt (ρ 0)) (pz_gN (ρ 0)) (ρ 1 / 4))) := F50.2.2.1
  exact pq_rn1 (by decide) F71 (by omega)

theorem axq_rn1b_1 : ax_RO ax_wC ax_XC axu_rn1b_1 := by
  intro ρ hp hE hT
  have j0 : ρ 0 % 4 = 1 := pz_gj hE 0 (Nat.le_of_ble_eq_true rfl) rfl
  have j1 : ρ 1 % 4 = 1 := pz_gj hE 1 (Nat.le_of_ble_eq_true rfl) rfl
  obtain ⟨i2a, i2b, i2c, i2d⟩ := pz_gi hE 2 2147483651 4294967295 (Nat.le_of_ble_eq_true rfl) rfl
  have c_kind : ay_at hp 8 7 = some (ρ 2) := ay_gfj hE 42 28 11 8 7 ax_m2 (ax_vlq rfl rfl) (ax_vlj rfl rfl)
  obtain ⟨-, -, -, -, F50⟩ : ay_ex hp 8 ∧ ay_ex hp 10 ∧ ay_ex hp 11 ∧ ay_ex hp 12 ∧ pz_x50 (ρ 0) (ρ 1) (ay_at hp 8 5) (ay_at hp 8 6) (ay_at hp 8 7) (ay_at hp 8 8) (ay_at hp 10 0) (ay_at hp 10 1) (ay_at hp 10 2) (ay_at hp 10 3) (ay_at hp 10 4) (ay_at hp 8 9) (ay_at hp 8 11) (ay_at hp 8 10) (ay_at hp 8 3) (ay_at hp 8 4) (ay_at hp 11) (ay_at hp 12) := (ax_XF_lt (x := 50) (Nat.le_of_ble_eq_true rfl)).mp (ax_gx hE (50, [3, 7]) ax_m0)
  rw [c_kind] at F50
  have F71 : pz7 (pz_gt (ρ 0)) (pz_gN (ρ 0)) ((ρ 1) / 4) 1 := (ax_XF_lt (x := 71) (Nat.le_of_ble_eq_true rfl)).mp (ax_gx hE (71, [3, 7]) ax_m1)
  refine ⟨(fun y hy => by cases hy), _, List.mem_cons_self, ρ, fun _ _ => rfl, ax_px hE rfl (fun y hy => ?_)⟩
  cases List.mem_singleton.mp hy
  refine (ax_XF_lt (x := 64) (Nat.le_of_ble_eq_true rfl)).mpr ?_
  show pz64 (pz_gt (ρ 0)) (pz_gN (ρ 0)) ((ρ 1) / 4) ((4) / 4)
  have kd : ρ 2 / 4 = pz_kd (pz_gt (ρ 0)) (pz_gN (ρ 0)) (pz_p (pz_cf (pz_gt (ρ 0)) (pz_gN (ρ 0)) (ρ 1 / 4))) := F50.2.2.1
  exact pq_rn1 (by decide) F71 (by omega)

theorem axq_rn3a_1 : ax_RO ax_wC ax_XC axu_rn3a_1 := by
  intro ρ hp hE hT
  have j0 : ρ 0 % 4 = 1 := pz_gj hE 0 (Nat.le_of_ble_eq_true rfl) rfl
  have j1 : ρ 1 % 4 = 1 := pz_gj hE 1 (Nat.le_of_ble_eq_true rfl) rfl
  obtain ⟨i2a, i2b, i2c, i2d⟩ := pz_gi hE 2 2147483650 2147483650 (Nat.le_of_ble_eq_true rfl) rfl
  obtain ⟨i3a, i3b, i3c, i3d⟩ := pz_gi hE 3 2147483648 2147483649 (Nat.le_of_ble_eq_true rfl) rfl
  have c_kind : ay_at hp 8 7 = some (ρ 2) := ay_gfj hE 42 28 11 8 7 ax_m2 (ax_vlq rfl rfl) (ax_vlj rfl rfl)
  have c_value : ay_at hp 8 8 = some (ρ 3) := ay_gfj hE 42 32 15 8 8 ax_m3 (ax_vlq rfl rfl) (ax_vlj rfl rfl)
  obtain ⟨-, -, -, -, F50⟩ : ay_ex hp 8 ∧ ay_ex hp 10 ∧ ay_ex hp 11 ∧ ay_ex hp 12 ∧ pz_x50 (ρ 0) (ρ 1) (ay_at hp 8 5) (ay_at hp 8 6) (ay_at hp 8 7) (ay_at hp 8 8) (ay_at hp 10 0) (ay_at hp 10 1) (ay_at hp 10 2) (ay_at hp 10 3) (ay_at hp 10 4) (ay_at hp 8 9) (ay_at hp 8 11) (ay_at hp 8 10) (ay_at hp 8 3) (ay_at hp 8 4) (ay_at hp 11) (ay_at hp 12) := (ax_XF_lt (x := 50) (Nat.le_of_ble_eq_true rfl)).mp (ax_gx hE (50, [3, 7]) ax_m0)
  rw [c_kind] at F50
  rw [c_value] at F50
  have F71 : pz7 (pz_gt (ρ 0)) (pz_gN (ρ 0)) ((ρ 1) / 4) 1 := (ax_XF_lt (x := 71) (Nat.le_of_ble_eq_true rfl)).mp (ax_gx hE (71, [3, 7]) ax_m1)
  refine ⟨(fun y hy => by cases hy), _, List.mem_cons_self, ρ, fun _ _ => rfl, ax_px hE rfl (fun y hy => ?_)⟩
  cases List.mem_singleton.mp hy
  refine (ax_XF_lt (x := 64) (Nat.le_of_ble_eq_true rfl)).mpr ?_
  show pz64 (pz_gt (ρ 0)) (pz_gN (ρ 0)) ((ρ 1) / 4) ((8) / 4)
  have kd : ρ 2 / 4 = pz_kd (pz_gt (ρ 0)) (pz_gN (ρ 0)) (pz_p (pz_cf (pz_gt (ρ 0)) (pz_gN (ρ 0)) (ρ 1 / 4))) := F50.2.2.1
  have vl := pz_mc (F50.2.2.2.1 (show ρ 2 / 4 = 2 by omega))
  replace vl : (ρ 3 / 4 ≤ 1000 ∧ pz_vl (pz_gt (ρ 0)) (pz_gN (ρ 0)) (pz_p (pz_cf (pz_gt (ρ 0)) (pz_gN (ρ 0)) (ρ 1 / 4))) = ρ 3 / 4) ∨ (1000 < ρ 3 / 4 ∧ pz_vl (pz_gt (ρ 0)) (pz_gN (ρ 0)) (pz_p (pz_cf (pz_gt (ρ 0)) (pz_gN (ρ 0)) (ρ 1 / 4))) = 1000) := vl
  exact pq_rn31 F71 (by omega) (by omega)

theorem axq_rn3b_1 : ax_RO ax_wC ax_XC axu_rn3b_1 := by
  intro ρ hp hE hT
  have j0 : ρ 0 % 4 = 1 := pz_gj hE 0 (Nat.le_of_ble_eq_true rfl) rfl
  have j1 : ρ 1 % 4 = 1 := pz_gj hE 1 (Nat.le_of_ble_eq_true rfl) rfl
  obtain ⟨i2a, i2b, i2c, i2d⟩ := pz_gi hE 2 2147483650 2147483650 (Nat.le_of_ble_eq_true rfl) rfl
  obtain ⟨i3a, i3b, i3c, i3d⟩ := pz_gi hE 3 2147483659 2147583648 (Nat.le_of_ble_eq_true rfl) rfl
  have c_kind : ay_at hp 8 7 = some (ρ 2) := ay_gfj hE 42 28 11 8 7 ax_m2 (ax_vlq rfl rfl) (ax_vlj rfl rfl)
  have c_value : ay_at hp 8 8 = some (ρ 3) := ay_gfj hE 42 32 15 8 8 ax_m3 (ax_vlq rfl rfl) (ax_vlj rfl rfl)
  obtain ⟨-, -, -, -, F50⟩ : ay_ex hp 8 ∧ ay_ex hp 10 ∧ ay_ex hp 11 ∧ ay_ex hp 12 ∧ pz_x50 (ρ 0) (ρ 1) (ay_at hp 8 5) (ay_at hp 8 6) (ay_at hp 8 7) (ay_at hp 8 8) (ay_at hp 10 0) (ay_at hp 10 1) (ay_at hp 10 2) (ay_at hp 10 3) (ay_at hp 10 4) (ay_at hp 8 9) (ay_at hp 8 11) (ay_at hp 8 10) (ay_at hp 8 3) (ay_at hp 8 4) (ay_at hp 11) (ay_at hp 12) := (ax_XF_lt (x := 50) (Nat.le_of_ble_eq_true rfl)).mp (ax_gx hE (50, [3, 7]) ax_m0)
  rw [c_kind] at F50
  rw [c_value] at F50
  have F71 : pz7 (pz_gt (ρ 0)) (pz_gN (ρ 0)) ((ρ 1) / 4) 1 := (ax_XF_lt (x := 71) (Nat.le_of_ble_eq_true rfl)).mp (ax_gx hE (71, [3, 7]) ax_m1)
  refine ⟨(fun y hy => by cases hy), _, List.mem_cons_self, ρ, fun _ _ => rfl, ax_px hE rfl (fun y hy => ?_)⟩
  cases List.mem_singleton.mp hy
  refine (ax_XF_lt (x := 64) (Nat.le_of_ble_eq_true rfl)).mpr ?_
  show pz64 (pz_gt (ρ 0)) (pz_gN (ρ 0)) ((ρ 1) / 4) ((8) / 4)
  have kd : ρ 2 / 4 = pz_kd (pz_gt (ρ 0)) (pz_gN (ρ 0)) (pz_p (pz_cf (pz_gt (ρ 0)) (pz_gN (ρ 0)) (ρ 1 / 4))) := F50.2.2.1
  have vl := pz_mc (F50.2.2.2.1 (show ρ 2 / 4 = 2 by omega))
  replace vl : (ρ 3 / 4 ≤ 1000 ∧ pz_vl (pz_gt (ρ 0)) (pz_gN (ρ 0)) (pz_p (pz_cf (pz_gt (ρ 0)) (pz_gN (ρ 0)) (ρ 1 / 4))) = ρ 3 / 4) ∨ (1000 < ρ 3 / 4 ∧ pz_vl (pz_gt (ρ 0)) (pz_gN (ρ 0)) (pz_p (pz_cf (pz_gt (ρ 0)) (pz_gN (ρ 0)) (ρ 1 / 4))) = 1000) := vl
  exact pq_rn31 F71 (by omega) (by omega)

theorem axq_rn5_1 : ax_RO ax_wC ax_XC axu_rn5_1 := by
  intro ρ hp hE hT
  have j0 : ρ 0 % 4 = 1 := pz_gj hE 0 (Nat.le_of_ble_eq_true rfl) rfl
  have j1 : ρ 1 % 4 = 1 := pz_gj hE 1 (Nat.le_of_ble_eq_true rfl) rfl
  obtain ⟨i2a, i2b, i2c, i2d⟩ := pz_gi hE 2 2147483650 2147483650 (Nat.le_of_ble_eq_true rfl) rfl
  obtain ⟨i3a, i3b, i3c, i3d⟩ := pz_gi hE 3 2147483650 2147483658 (Nat.le_of_ble_eq_true rfl) rfl
  have c_kind : ay_at hp 8 7 = some (ρ 2) := ay_gfj hE 42 28 11 8 7 ax_m1 (ax_vlq rfl rfl) (ax_vlj rfl rfl)
  have c_value : ay_at hp 8 8 = some (ρ 3) := ay_gfj hE 42 32 15 8 8 ax_m2 (ax_vlq rfl rfl) (ax_vlj rfl rfl)
  obtain ⟨-, -, -, -, F50⟩ : ay_ex hp 8 ∧ ay_ex hp 10 ∧ ay_ex hp 11 ∧ ay_ex hp 12 ∧ pz_x50 (ρ 0) (ρ 1) (ay_at hp 8 5) (ay_at hp 8 6) (ay_at hp 8 7) (ay_at hp 8 8) (ay_at hp 10 0) (ay_at hp 10 1) (ay_at hp 10 2) (ay_at hp 10 3) (ay_at hp 10 4) (ay_at hp 8 9) (ay_at hp 8 11) (ay_at hp 8 10) (ay_at hp 8 3) (ay_at hp 8 4) (ay_at hp 11) (ay_at hp 12) := (ax_XF_lt (x := 50) (Nat.le_of_ble_eq_true rfl)).mp (ax_gx hE (50, [3, 7]) ax_m0)
  rw [c_kind] at F50
  rw [c_value] at F50
  refine ⟨(fun y hy => by cases hy), _, List.mem_cons_self, ρ, fun _ _ => rfl, ax_px hE rfl (fun y hy => ?_)⟩
  cases List.mem_singleton.mp hy
  refine (ax_XF_lt (x := 66) (Nat.le_of_ble_eq_true rfl)).mpr ?_
  show pz66 (pz_gt (ρ 0)) (pz_gN (ρ 0)) ((ρ 1) / 4) ((ρ 3) / 4)
  have kd : ρ 2 / 4 = pz_kd (pz_gt (ρ 0)) (pz_gN (ρ 0)) (pz_p (pz_cf (pz_gt (ρ 0)) (pz_gN (ρ 0)) (ρ 1 / 4))) := F50.2.2.1
  have vl := pz_mc (F50.2.2.2.1 (show ρ 2 / 4 = 2 by omega))
  replace vl : (ρ 3 / 4 ≤ 1000 ∧ pz_vl (pz_gt (ρ 0)) (pz_gN (ρ 0)) (pz_p (pz_cf (pz_gt (ρ 0)) (pz_gN (ρ 0)) (ρ 1 / 4))) = ρ 3 / 4) ∨ (1000 < ρ 3 / 4 ∧ pz_vl (pz_gt (ρ 0)) (pz_gN (ρ 0)) (pz_p (pz_cf (pz_gt (ρ 0)) (pz_gN (ρ 0)) (ρ 1 / 4))) = 1000) := vl
  exact ⟨by omega, by omega⟩

theorem axq_rn1a_4 : ax_RO ax_wC ax_XC axu_rn1a_4 := by
  intro ρ hp hE hT
  have j0 : ρ 0 % 4 = 1 := pz_gj hE 0 (Nat.le_of_ble_eq_true rfl) rfl
  have j1 : ρ 1 % 4 = 1 := pz_gj hE 1 (Nat.le_of_ble_eq_true rfl) rfl
  obtain ⟨i2a, i2b, i2c, i2d⟩ := pz_gi hE 2 0 2147483649 (Nat.le_of_ble_eq_true rfl) rfl
  have c_kind : ay_at hp 8 7 = some (ρ 2) := ay_gfj hE 42 28 11 8 7 ax_m2 (ax_vlq rfl rfl) (ax_vlj rfl rfl)
  obtain ⟨-, -, -, -, F50⟩ : ay_ex hp 8 ∧ ay_ex hp 10 ∧ ay_ex hp 11 ∧ ay_ex hp 12 ∧ pz_x50 (ρ 0) (ρ 1) (ay_at hp 8 5) (ay_at hp 8 6) (ay_at hp 8 7) (ay_at hp 8 8) (ay_at hp 10 0) (ay_at hp 10 1) (ay_at hp 10 2) (ay_at hp 10 3) (ay_at hp 10 4) (ay_at hp 8 9) (ay_at hp 8 11) (ay_at hp 8 10) (ay_at hp 8 3) (ay_at hp 8 4) (ay_at hp 11) (ay_at hp 12) := (ax_XF_lt (x := 50) (Nat.le_of_ble_eq_true rfl)).mp (ax_gx hE (50, [3, 7]) ax_m0)
  rw [c_kind] at F50
  have F74 : pz7 (pz_gt (ρ 0)) (pz_gN (ρ 0)) ((ρ 1) / 4) 4 := (ax_XF_lt (x := 74) (Nat.le_of_ble_eq_true rfl)).mp (ax_gx hE (74, [3, 7]) ax_m1)
  refine ⟨(fun y hy => by cases hy), _, List.mem_cons_self, ρ, fun _ _ => rfl, ax_px hE rfl (fun y hy => ?_)⟩
  cases List.mem_singleton.mp hy
  refine (ax_XF_lt (x := 64) (Nat.le_of_ble_eq_true rfl)).mpr ?_
  show pz64 (pz_gt (ρ 0)) (pz_gN (ρ 0)) ((ρ 1) / 4) ((4) / 4)
  have kd : ρ 2 / 4 = pz_kd (pz_gt (ρ 0)) (pz_gN (ρ 0)) (pz_p (pz_cf (pz_gt (ρ 0)) (pz_gN (ρ 0)) (ρ 1 / 4))) := F50.2.2.1
  exact pq_rn1 (by decide) F74 (by omega)

theorem axq_rn1b_4 : ax_RO ax_wC ax_XC axu_rn1b_4 := by
  intro ρ hp hE hT
  have j0 : ρ 0 % 4 = 1 := pz_gj hE 0 (Nat.le_of_ble_eq_true rfl) rfl
  have j1 : ρ 1 % 4 = 1 := pz_gj hE 1 (Nat.le_of_ble_eq_true rfl) rfl
  obtain ⟨i2a, i2b, i2c, i2d⟩ := pz_gi hE 2 2147483651 4294967295 (Nat.le_of_ble_eq_true rfl) rfl
  have c_kind : ay_at hp 8 7 = some (ρ 2) := ay_gfj hE 42 28 11 8 7 ax_m2 (ax_vlq rfl rfl) (ax_vlj rfl rfl)
  obtain ⟨-, -, -, -, F50⟩ : ay_ex hp 8 ∧ ay_ex hp 10 ∧ ay_ex hp 11 ∧ ay_ex hp 12 ∧ pz_x50 (ρ 0) (ρ 1) (ay_at hp 8 5) (ay_at hp 8 6) (ay_at hp 8 7) (ay_at hp 8 8) (ay_at hp 10 0) (ay_at hp 10 1) (ay_at hp 10 2) (ay_at hp 10 3) (ay_at hp 10 4) (ay_at hp 8 9) (ay_at hp 8 11) (ay_at hp 8 10) (ay_at hp 8 3) (ay_at hp 8 4) (ay_at hp 11) (ay_at hp 12) := (ax_XF_lt (x := 50) (Nat.le_of_ble_eq_true rfl)).mp (ax_gx hE (50, [3, 7]) ax_m0)
  rw [c_kind] at F50
  have F74 : pz7 (pz_gt (ρ 0)) (pz_gN (ρ 0)) ((ρ 1) / 4) 4 := (ax_XF_lt (x := 74) (Nat.le_of_ble_eq_true rfl)).mp (ax_gx hE (74, [3, 7]) ax_m1)
  refine ⟨(fun y hy => by cases hy), _, List.mem_cons_self, ρ, fun _ _ => rfl, ax_px hE rfl (fun y hy => ?_)⟩
  cases List.mem_singleton.mp hy
  refine (ax_XF_lt (x := 64) (Nat.le_of_ble_eq_true rfl)).mpr ?_
  show pz64 (pz_gt (ρ 0)) (pz_gN (ρ 0)) ((ρ 1) / 4) ((4) / 4)
  have kd : ρ 2 / 4 = pz_kd (pz_gt (ρ 0)) (pz_gN (ρ 0)) (pz_p (pz_cf (pz_gt (ρ 0)) (pz_gN (ρ 0)) (ρ 1 / 4))) := F50.2.2.1
  exact pq_rn1 (by decide) F74 (by omega)

theorem axq_rn2_4 : ax_RO ax_wC ax_XC axu_rn2_4 := by
  intro ρ hp hE hT
  have j0 : ρ 0 % 4 = 1 := pz_gj hE 0 (Nat.le_of_ble_eq_true rfl) rfl
  have j1 : ρ 1 % 4 = 1 := pz_gj hE 1 (Nat.le_of_ble_eq_true rfl) rfl
  obtain ⟨i2a, i2b, i2c, i2d⟩ := pz_gi hE 2 2147483650 2147483650 (Nat.le_of_ble_eq_true rfl) rfl
  obtain ⟨i3a, i3b, i3c, i3d⟩ := pz_gi hE 3 2147483647 2147483657 (Nat.le_of_ble_eq_true rfl) rfl
  obtain ⟨i4a, i4b, i4c, i4d⟩ := pz_gi hE 4 2147483648 2147583648 (Nat.le_of_ble_eq_true rfl) rfl
  have c_kind : ay_at hp 8 7 = some (ρ 2) := ay_gfj hE 42 28 11 8 7 ax_m2 (ax_vlq rfl rfl) (ax_vlj rfl rfl)
  have c_value : ay_at hp 8 8 = some (ρ 4) := ay_gfj hE 42 32 19 8 8 ax_m3 (ax_vlq rfl rfl) (ax_vlj rfl rfl)
  have r1 : (ρ 3 / 4 + 2147483648) % 4294967296 < (ρ 4 / 4 + 2147483648) % 4294967296 := pz_gc hE 4 19 15 (Nat.le_of_ble_eq_true rfl) ax_m5
  obtain ⟨-, -, -, -, F50⟩ : ay_ex hp 8 ∧ ay_ex hp 10 ∧ ay_ex hp 11 ∧ ay_ex hp 12 ∧ pz_x50 (ρ 0) (ρ 1) (ay_at hp 8 5) (ay_at hp 8 6) (ay_at hp 8 7) (ay_at hp 8 8) (ay_at hp 10 0) (ay_at hp 10 1) (ay_at hp 10 2) (ay_at hp 10 3) (ay_at hp 10 4) (ay_at hp 8 9) (ay_at hp 8 11) (ay_at hp 8 10) (ay_at hp 8 3) (ay_at hp 8 4) (ay_at hp 11) (ay_at hp 12) := (ax_XF_lt (x := 50) (Nat.le_of_ble_eq_true rfl)).mp (ax_gx hE (50, [3, 7]) ax_m0)
  rw [c_kind] at F50
  rw [c_value] at F50
  have F74 : pz7 (pz_gt (ρ 0)) (pz_gN (ρ 0)) ((ρ 1) / 4) 4 := (ax_XF_lt (x := 74) (Nat.le_of_ble_eq_true rfl)).mp (ax_gx hE (74, [3, 7]) ax_m1)
  have F103 : pz_x103 (ρ 0) (ρ 1) (ρ 3) := (ax_XF_lt (x := 103) (Nat.le_of_ble_eq_true rfl)).mp (ax_gx hE (103, [3, 7, 15]) ax_m4)
  refine ⟨(fun y hy => by cases hy), _, List.mem_cons_self, ρ, fun _ _ => rfl, ax_px hE rfl (fun y hy => ?_)⟩
  cases List.mem_singleton.mp hy
  refine (ax_XF_lt (x := 64) (Nat.le_of_ble_eq_true rfl)).mpr ?_
  show pz64 (pz_gt (ρ 0)) (pz_gN (ρ 0)) ((ρ 1) / 4) ((8) / 4)
  have kd : ρ 2 / 4 = pz_kd (pz_gt (ρ 0)) (pz_gN (ρ 0)) (pz_p (pz_cf (pz_gt (ρ 0)) (pz_gN (ρ 0)) (ρ 1 / 4))) := F50.2.2.1
  have vl := pz_mc (F50.2.2.2.1 (show ρ 2 / 4 = 2 by omega))
  replace vl : (ρ 4 / 4 ≤ 1000 ∧ pz_vl (pz_gt (ρ 0)) (pz_gN (ρ 0)) (pz_p (pz_cf (pz_gt (ρ 0)) (pz_gN (ρ 0)) (ρ 1 / 4))) = ρ 4 / 4) ∨ (1000 < ρ 4 / 4 ∧ pz_vl (pz_gt (ρ 0)) (pz_gN (ρ 0)) (pz_p (pz_cf (pz_gt (ρ 0)) (pz_gN (ρ 0)) (ρ 1 / 4))) = 1000) := vl
  replace F103 : (ρ 3 / 4 + 2147483648) % 4294967296 + 1 = pz_no (pz_cf (pz_gt (ρ 0)) (pz_gN (ρ 0)) (ρ 1 / 4)) + 2147483648 := F103
  exact pq_rn2 (by decide) F74 (by omega) (by omega)

theorem axq_rn4_4 : ax_RO ax_wC ax_XC axu_rn4_4 := by
  intro ρ hp hE hT
  have j0 : ρ 0 % 4 = 1 := pz_gj hE 0 (Nat.le_of_ble_eq_true rfl) rfl
  have j1 : ρ 1 % 4 = 1 := pz_gj hE 1 (Nat.le_of_ble_eq_true rfl) rfl
  obtain ⟨i2a, i2b, i2c, i2d⟩ := pz_gi hE 2 2147483650 2147483650 (Nat.le_of_ble_eq_true rfl) rfl
  obtain ⟨i3a, i3b, i3c, i3d⟩ := pz_gi hE 3 2147483647 2147483657 (Nat.le_of_ble_eq_true rfl) rfl
  obtain ⟨i4a, i4b, i4c, i4d⟩ := pz_gi hE 4 2147483648 2147583648 (Nat.le_of_ble_eq_true rfl) rfl
  have c_kind : ay_at hp 8 7 = some (ρ 2) := ay_gfj hE 42 28 11 8 7 ax_m1 (ax_vlq rfl rfl) (ax_vlj rfl rfl)
  have c_value : ay_at hp 8 8 = some (ρ 4) := ay_gfj hE 42 32 19 8 8 ax_m2 (ax_vlq rfl rfl) (ax_vlj rfl rfl)
  have r1 : (ρ 4 / 4 + 2147483648) % 4294967296 ≤ (ρ 3 / 4 + 2147483648) % 4294967296 := pz_gc hE 5 19 15 (Nat.le_of_ble_eq_true rfl) ax_m4
  obtain ⟨-, -, -, -, F50⟩ : ay_ex hp 8 ∧ ay_ex hp 10 ∧ ay_ex hp 11 ∧ ay_ex hp 12 ∧ pz_x50 (ρ 0) (ρ 1) (ay_at hp 8 5) (ay_at hp 8 6) (ay_at hp 8 7) (ay_at hp 8 8) (ay_at hp 10 0) (ay_at hp 10 1) (ay_at hp 10 2) (ay_at hp 10 3) (ay_at hp 10 4) (ay_at hp 8 9) (ay_at hp 8 11) (ay_at hp 8 10) (ay_at hp 8 3) (ay_at hp 8 4) (ay_at hp 11) (ay_at hp 12) := (ax_XF_lt (x := 50) (Nat.le_of_ble_eq_true rfl)).mp (ax_gx hE (50, [3, 7]) ax_m0)
  rw [c_kind] at F50
  rw [c_value] at F50
  have F103 : pz_x103 (ρ 0) (ρ 1) (ρ 3) := (ax_XF_lt (x := 103) (Nat.le_of_ble_eq_true rfl)).mp (ax_gx hE (103, [3, 7, 15]) ax_m3)
  refine ⟨(fun y hy => by cases hy), _, List.mem_cons_self, ρ, fun _ _ => rfl, ax_px hE rfl (fun y hy => ?_)⟩
  cases List.mem_singleton.mp hy
  refine (ax_XF_lt (x := 104) (Nat.le_of_ble_eq_true rfl)).mpr ?_
  show pz104 (pz_gt (ρ 0)) (pz_gN (ρ 0)) ((ρ 1) / 4) ((ρ 4) / 4)
  have kd : ρ 2 / 4 = pz_kd (pz_gt (ρ 0)) (pz_gN (ρ 0)) (pz_p (pz_cf (pz_gt (ρ 0)) (pz_gN (ρ 0)) (ρ 1 / 4))) := F50.2.2.1
  have vl := pz_mc (F50.2.2.2.1 (show ρ 2 / 4 = 2 by omega))
  replace vl : (ρ 4 / 4 ≤ 1000 ∧ pz_vl (pz_gt (ρ 0)) (pz_gN (ρ 0)) (pz_p (pz_cf (pz_gt (ρ 0)) (pz_gN (ρ 0)) (ρ 1 / 4))) = ρ 4 / 4) ∨ (1000 < ρ 4 / 4 ∧ pz_vl (pz_gt (ρ 0)) (pz_gN (ρ 0)) (pz_p (pz_cf (pz_gt (ρ 0)) (pz_gN (ρ 0)) (ρ 1 / 4))) = 1000) := vl
  replace F103 : (ρ 3 / 4 + 2147483648) % 4294967296 + 1 = pz_no (pz_cf (pz_gt (ρ 0)) (pz_gN (ρ 0)) (ρ 1 / 4)) + 2147483648 := F103
  exact ⟨⟨by omega, by omega⟩, by omega⟩

theorem axq_rn1a_5 : ax_RO ax_wC ax_XC axu_rn1a_5 := by
  intro ρ hp hE hT
  have j0 : ρ 0 % 4 = 1 := pz_gj hE 0 (Nat.le_of_ble_eq_true rfl) rfl
  have j1 : ρ 1 % 4 = 1 := pz_gj hE 1 (Nat.le_of_ble_eq_true rfl) rfl
  obtain ⟨i2a, i2b, i2c, i2d⟩ := pz_gi hE 2 0 2147483649 (Nat.le_of_ble_eq_true rfl) rfl
  have c_kind : ay_at hp 8 7 = some (ρ 2) := ay_gfj hE 42 28 11 8 7 ax_m2 (ax_vlq rfl rfl) (ax_vlj rfl rfl)
  obtain ⟨-, -, -, -, F50⟩ : ay_ex hp 8 ∧ ay_ex hp 10 ∧ ay_ex hp 11 ∧ ay_ex hp 12 ∧ pz_x50 (ρ 0) (ρ 1) (ay_at hp 8 5) (ay_at hp 8 6) (ay_at hp 8 7) (ay_at hp 8 8) (ay_at hp 10 0) (ay_at hp 10 1) (ay_at hp 10 2) (ay_at hp 10 3) (ay_at hp 10 4) (ay_at hp 8 9) (ay_at hp 8 11) (ay_at hp 8 10) (ay_at hp 8 3) (ay_at hp 8 4) (ay_at hp 11) (ay_at hp 12) := (ax_XF_lt (x := 50) (Nat.le_of_ble_eq_true rfl)).mp (ax_gx hE (50, [3, 7]) ax_m0)
  rw [c_kind] at F50
  have F75 : pz7 (pz_gt (ρ 0)) (pz_gN (ρ 0)) ((ρ 1) / 4) 5 := (ax_XF_lt (x := 75) (Nat.le_of_ble_eq_true rfl)).mp (ax_gx hE (75, [3, 7]) ax_m1)
  refine ⟨(fun y hy => by cases hy), _, List.mem_cons_self, ρ, fun _ _ => rfl, ax_px hE rfl (fun y hy => ?_)⟩
  cases List.mem_singleton.mp hy
  refine (ax_XF_lt (x := 64) (Nat.le_of_ble_eq_true rfl)).mpr ?_
  show pz64 (pz_gt (ρ 0)) (pz_gN (ρ 0)) ((ρ 1) / 4) ((4) / 4)
  have kd : ρ 2 / 4 = pz_kd (pz_gt (ρ 0)) (pz_gN (ρ 0)) (pz_p (pz_cf (pz_gt (ρ 0)) (pz_gN (ρ 0)) (ρ 1 / 4))) := F50.2.2.1
  exact pq_rn1 (by decide) F75 (by omega)

theorem axq_rn1b_5 : ax_RO ax_wC ax_XC axu_rn1b_5 := by
  intro ρ hp hE hT
  have j0 : ρ 0 % 4 = 1 := pz_gj hE 0 (Nat.le_of_ble_eq_true rfl) rfl
  have j1 : ρ 1 % 4 = 1 := pz_gj hE 1 (Nat.le_of_ble_eq_true rfl) rfl
  obtain ⟨i2a, i2b, i2c, i2d⟩ := pz_gi hE 2 2147483651 4294967295 (Nat.le_of_ble_eq_true rfl) rfl
  have c_kind : ay_at hp 8 7 = some (ρ 2) := ay_gfj hE 42 28 11 8 7 ax_m2 (ax_vlq rfl rfl) (ax_vlj rfl rfl)
  obtain ⟨-, -, -, -, F50⟩ : ay_ex hp 8 ∧ ay_ex hp 10 ∧ ay_ex hp 11 ∧ ay_ex hp 12 ∧ pz_x50 (ρ 0) (ρ 1) (ay_at hp 8 5) (ay_at hp 8 6) (ay_at hp 8 7) (ay_at hp 8 8) (ay_at hp 10 0) (ay_at hp 10 1) (ay_at hp 10 2) (ay_at hp 10 3) (ay_at hp 10 4) (ay_at hp 8 9) (ay_at hp 8 11) (ay_at hp 8 10) (ay_at hp 8 3) (ay_at hp 8 4) (ay_at hp 11) (ay_at hp 12) := (ax_XF_lt (x := 50) (Nat.le_of_ble_eq_true rfl)).mp (ax_gx hE (50, [3, 7]) ax_m0)
  rw [c_kind] at F50
  have F75 : pz7 (pz_gt (ρ 0)) (pz_gN (ρ 0)) ((ρ 1) / 4) 5 := (ax_XF_lt (x := 75) (Nat.le_of_ble_eq_true rfl)).mp (ax_gx hE (75, [3, 7]) ax_m1)
  refine ⟨(fun y hy => by cases hy), _, List.mem_cons_self, ρ, fun _ _ => rfl, ax_px hE rfl (fun y hy => ?_)⟩
  cases List.mem_singleton.mp hy
  refine (ax_XF_lt (x := 64) (Nat.le_of_ble_eq_true rfl)).mpr ?_
  show pz64 (pz_gt (ρ 0)) (pz_gN (ρ 0)) ((ρ 1) / 4) ((4) / 4)
  have kd : ρ 2 / 4 = pz_kd (pz_gt (ρ 0)) (pz_gN (ρ 0)) (pz_p (pz_cf (pz_gt (ρ 0)) (pz_gN (ρ 0)) (ρ 1 / 4))) := F50.2.2.1
  exact pq_rn1 (by decide) F75 (by omega)

theorem axq_rn2_5 : ax_RO ax_wC ax_XC axu_rn2_5 := by
  intro ρ hp hE hT
  have j0 : ρ 0 % 4 = 1 := pz_gj hE 0 (Nat.le_of_ble_eq_true rfl) rfl
  have j1 : ρ 1 % 4 = 1 := pz_gj hE 1 (Nat.le_of_ble_eq_true rfl) rfl
  obtain ⟨i2a, i2b, i2c, i2d⟩ := pz_gi hE 2 2147483650 2147483650 (Nat.le_of_ble_eq_true rfl) rfl
  obtain ⟨i3a, i3b, i3c, i3d⟩ := pz_gi hE 3 2147483647 2147483657 (Nat.le_of_ble_eq_true rfl) rfl
  obtain ⟨i4a, i4b, i4c, i4d⟩ := pz_gi hE 4 2147483648 2147583648 (Nat.le_of_ble_eq_true rfl) rfl
  have c_kind : ay_at hp 8 7 = some (ρ 2) := ay_gfj hE 42 28 11 8 7 ax_m2 (ax_vlq rfl rfl) (ax_vlj rfl rfl)
  have c_value : ay_at hp 8 8 = some (ρ 4) := ay_gfj hE 42 32 19 8 8 ax_m3 (ax_vlq rfl rfl) (ax_vlj rfl rfl)
  have r1 : (ρ 3 / 4 + 2147483648) % 4294967296 < (ρ 4 / 4 + 2147483648) % 4294967296 := pz_gc hE 4 19 15 (Nat.le_of_ble_eq_true rfl) ax_m5
  obtain ⟨-, -, -, -, F50⟩ : ay_ex hp 8 ∧ ay_ex hp 10 ∧ ay_ex hp 11 ∧ ay_ex hp 12 ∧ pz_x50 (ρ 0) (ρ 1) (ay_at hp 8 5) (ay_at hp 8 6) (ay_at hp 8 7) (ay_at hp 8 8) (ay_at hp 10 0) (ay_at hp 10 1) (ay_at hp 10 2) (ay_at hp 10 3) (ay_at hp 10 4) (ay_at hp 8 9) (ay_at hp 8 11) (ay_at hp 8 10) (ay_at hp 8 3) (ay_at hp 8 4) (ay_at hp 11) (ay_at hp 12) := (ax_XF_lt (x := 50) (Nat.le_of_ble_eq_true rfl)).mp (ax_gx hE (50, [3, 7]) ax_m0)
  rw [c_kind] at F50
  rw [c_value] at F50
  have F75 : pz7 (pz_gt (ρ 0)) (pz_gN (ρ 0)) ((ρ 1) / 4) 5 := (ax_XF_lt (x := 75) (Nat.le_of_ble_eq_true rfl)).mp (ax_gx hE (75, [3, 7]) ax_m1)
  have F103 : pz_x103 (ρ 0) (ρ 1) (ρ 3) := (ax_XF_lt (x := 103) (Nat.le_of_ble_eq_true rfl)).mp (ax_gx hE (103, [3, 7, 15]) ax_m4)
  refine ⟨(fun y hy => by cases hy), _, List.mem_cons_self, ρ, fun _ _ => rfl, ax_px hE rfl (fun y hy => ?_)⟩
  cases List.mem_singleton.mp hy
  refine (ax_XF_lt (x := 64) (Nat.le_of_ble_eq_true rfl)).mpr ?_
  show pz64 (pz_gt (ρ 0)) (pz_gN (ρ 0)) ((ρ 1) / 4) ((8) / 4)
  have kd : ρ 2 / 4 = pz_kd (pz_gt (ρ 0)) (pz_gN (ρ 0)) (pz_p (pz_cf (pz_gt (ρ 0)) (pz_gN (ρ 0)) (ρ 1 / 4))) := F50.2.2.1
  have vl := pz_mc (F50.2.2.2.1 (show ρ 2 / 4 = 2 by omega))
  replace vl : (ρ 4 / 4 ≤ 1000 ∧ pz_vl (pz_gt (ρ 0)) (pz_gN (ρ 0)) (pz_p (pz_cf (pz_gt (ρ 0)) (pz_gN (ρ 0)) (ρ 1 / 4))) = ρ 4 / 4) ∨ (1000 < ρ 4 / 4 ∧ pz_vl (pz_gt (ρ 0)) (pz_gN (ρ 0)) (pz_p (pz_cf (pz_gt (ρ 0)) (pz_gN (ρ 0)) (ρ 1 / 4))) = 1000) := vl
  replace F103 : (ρ 3 / 4 + 2147483648) % 4294967296 + 1 = pz_no (pz_cf (pz_gt (ρ 0)) (pz_gN (ρ 0)) (ρ 1 / 4)) + 2147483648 := F103
  exact pq_rn2 (by decide) F75 (by omega) (by omega)

theorem axq_rn4_5 : ax_RO ax_wC ax_XC axu_rn4_5 := by
  intro ρ hp hE hT
  have j0 : ρ 0 % 4 = 1 := pz_gj hE 0 (Nat.le_of_ble_eq_true rfl) rfl
  have j1 : ρ 1 % 4 = 1 := pz_gj hE 1 (Nat.le_of_ble_eq_true rfl) rfl
  obtain ⟨i2a, i2b, i2c, i2d⟩ := pz_gi hE 2 2147483650 2147483650 (Nat.le_of_ble_eq_true rfl) rfl
  obtain ⟨i3a, i3b, i3c, i3d⟩ := pz_gi hE 3 2147483647 2147483657 (Nat.le_of_ble_eq_true rfl) rfl
  obtain ⟨i4a, i4b, i4c, i4d⟩ := pz_gi hE 4 2147483648 2147583648 (Nat.le_of_ble_eq_true rfl) rfl
  have c_kind : ay_at hp 8 7 = some (ρ 2) := ay_gfj hE 42 28 11 8 7 ax_m1 (ax_vlq rfl rfl) (ax_vlj rfl rfl)
  have c_value : ay_at hp 8 8 = some (ρ 4) := ay_gfj hE 42 32 19 8 8 ax_m2 (ax_vlq rfl rfl) (ax_vlj rfl rfl)
  have r1 : (ρ 4 / 4 + 2147483648) % 4294967296 ≤ (ρ 3 / 4 + 2147483648) % 4294967296 := pz_gc hE 5 19 15 (Nat.le_of_ble_eq_true rfl) ax_m4
  obtain ⟨-, -, -, -, F50⟩ : ay_ex hp 8 ∧ ay_ex hp 10 ∧ ay_ex hp 11 ∧ ay_ex hp 12 ∧ pz_x50 (ρ 0) (ρ 1) (ay_at hp 8 5) (ay_at hp 8 6) (ay_at hp 8 7) (ay_at hp 8 8) (ay_at hp 10 0) (ay_at hp 10 1) (ay_at hp 10 2) (ay_at hp 10 3) (ay_at hp 10 4) (ay_at hp 8 9) (ay_at hp 8 11) (ay_at hp 8 10) (ay_at hp 8 3) (ay_at hp 8 4) (ay_at hp 11) (ay_at hp 12) := (ax_XF_lt (x := 50) (Nat.le_of_ble_eq_true rfl)).mp (ax_gx hE (50, [3, 7]) ax_m0)
  rw [c_kind] at F50
  rw [c_value] at F50
  have F103 : pz_x103 (ρ 0) (ρ 1) (ρ 3) := (ax_XF_lt (x := 103) (Nat.le_of_ble_eq_true rfl)).mp (ax_gx hE (103, [3, 7, 15]) ax_m3)
  refine ⟨(fun y hy => by cases hy), _, List.mem_cons_self, ρ, fun _ _ => rfl, ax_px hE rfl (fun y hy => ?_)⟩
  cases List.mem_singleton.mp hy
  refine (ax_XF_lt (x := 104) (Nat.le_of_ble_eq_true rfl)).mpr ?_
  show pz104 (pz_gt (ρ 0)) (pz_gN (ρ 0)) ((ρ 1) / 4) ((ρ 4) / 4)
  have kd : ρ 2 / 4 = pz_kd (pz_gt (ρ 0)) (pz_gN (ρ 0)) (pz_p (pz_cf (pz_gt (ρ 0)) (pz_gN (ρ 0)) (ρ 1 / 4))) := F50.2.2.1
  have vl := pz_mc (F50.2.2.2.1 (show ρ 2 / 4 = 2 by omega))
  replace vl : (ρ 4 / 4 ≤ 1000 ∧ pz_vl (pz_gt (ρ 0)) (pz_gN (ρ 0)) (pz_p (pz_cf (pz_gt (ρ 0)) (pz_gN (ρ 0)) (ρ 1 / 4))) = ρ 4 / 4) ∨ (1000 < ρ 4 / 4 ∧ pz_vl (pz_gt (ρ 0)) (pz_gN (ρ 0)) (pz_p (pz_cf (pz_gt (ρ 0)) (pz_gN (ρ 0)) (ρ 1 / 4))) = 1000) := vl
  replace F103 : (ρ 3 / 4 + 2147483648) % 4294967296 + 1 = pz_no (pz_cf (pz_gt (ρ 0)) (pz_gN (ρ 0)) (ρ 1 / 4)) + 2147483648 := F103
  exact ⟨⟨by omega, by omega⟩, by omega⟩

theorem axq_rn1a_6 : ax_RO ax_wC ax_XC axu_rn1a_6 := by
  intro ρ hp hE hT
  have j0 : ρ 0 % 4 = 1 := pz_gj hE 0 (Nat.le_of_ble_eq_true rfl) rfl
  have j1 : ρ 1 % 4 = 1 := pz_gj hE 1 (Nat.le_of_ble_eq_true rfl) rfl
  obtain ⟨i2a, i2b, i2c, i2d⟩ := pz_gi hE 2 0 2147483649 (Nat.le_of_ble_eq_true rfl) rfl
  have c_kind : ay_at hp 8 7 = some (ρ 2) := ay_gfj hE 42 28 11 8 7 ax_m2 (ax_vlq rfl rfl) (ax_vlj rfl rfl)
  obtain ⟨-, -, -, -, F50⟩ : ay_ex hp 8 ∧ ay_ex hp 10 ∧ ay_ex hp 11 ∧ ay_ex hp 12 ∧ pz_x50 (ρ 0) (ρ 1) (ay_at hp 8 5) (ay_at hp 8 6) (ay_at hp 8 7) (ay_at hp 8 8) (ay_at hp 10 0) (ay_at hp 10 1) (ay_at hp 10 2) (ay_at hp 10 3) (ay_at hp 10 4) (ay_at hp 8 9) (ay_at hp 8 11) (ay_at hp 8 10) (ay_at hp 8 3) (ay_at hp 8 4) (ay_at hp 11) (ay_at hp 12) := (ax_XF_lt (x := 50) (Nat.le_of_ble_eq_true rfl)).mp (ax_gx hE (50, [3, 7]) ax_m0)
  rw [c_kind] at F50
  have F76 : pz7 (pz_gt (ρ 0)) (pz_gN (ρ 0)) ((ρ 1) / 4) 6 := (ax_XF_lt (x := 76) (Nat.le_of_ble_eq_true rfl)).mp (ax_gx hE (76, [3, 7]) ax_m1)
  refine ⟨(fun y hy => by cases hy), _, List.mem_cons_self, ρ, fun _ _ => rfl, ax_px hE rfl (fun y hy => ?_)⟩
  cases List.mem_singleton.mp hy
  refine (ax_XF_lt (x := 64) (Nat.le_of_ble_eq_true rfl)).mpr ?_
  show pz64 (pz_gt (ρ 0)) (pz_gN (ρ 0)) ((ρ 1) / 4) ((4) / 4)
  have kd : ρ 2 / 4 = pz_kd (pz_gt (ρ 0)) (pz_gN (ρ 0)) (pz_p (pz_cf (pz_gt (ρ 0)) (pz_gN (ρ 0)) (ρ 1 / 4))) := F50.2.2.1
  exact pq_rn1 (by decide) F76 (by omega)

theorem axq_rn1b_6 : ax_RO ax_wC ax_XC axu_rn1b_6 := by
  intro ρ hp hE hT
  have j0 : ρ 0 % 4 = 1 := pz_gj hE 0 (Nat.le_of_ble_eq_true rfl) rfl
  have j1 : ρ 1 % 4 = 1 := pz_gj hE 1 (Nat.le_of_ble_eq_true rfl) rfl
  obtain ⟨i2a, i2b, i2c, i2d⟩ := pz_gi hE 2 2147483651 4294967295 (Nat.le_of_ble_eq_true rfl) rfl
  have c_kind : ay_at hp 8 7 = some (ρ 2) := ay_gfj hE 42 28 11 8 7 ax_m2 (ax_vlq rfl rfl) (ax_vlj rfl rfl)
  obtain ⟨-, -, -, -, F50⟩ : ay_ex hp 8 ∧ ay_ex hp 10 ∧ ay_ex hp 11 ∧ ay_ex hp 12 ∧ pz_x50 (ρ 0) (ρ 1) (ay_at hp 8 5) (ay_at hp 8 6) (ay_at hp 8 7) (ay_at hp 8 8) (ay_at hp 10 0) (ay_at hp 10 1) (ay_at hp 10 2) (ay_at hp 10 3) (ay_at hp 10 4) (ay_at hp 8 9) (ay_at hp 8 11) (ay_at hp 8 10) (ay_at hp 8 3) (ay_at hp 8 4) (ay_at hp 11) (ay_at hp 12) := (ax_XF_lt (x := 50) (Nat.le_of_ble_eq_true rfl)).mp (ax_gx hE (50, [3, 7]) ax_m0)
  rw [c_kind] at F50
  have F76 : pz7 (pz_gt (ρ 0)) (pz_gN (ρ 0)) ((ρ 1) / 4) 6 := (ax_XF_lt (x := 76) (Nat.le_of_ble_eq_true rfl)).mp (ax_gx hE (76, [3, 7]) ax_m1)
  refine ⟨(fun y hy => by cases hy), _, List.mem_cons_self, ρ, fun _ _ => rfl, ax_px hE rfl (fun y hy => ?_)⟩
  cases List.mem_singleton.mp hy
  refine (ax_XF_lt (x := 64) (Nat.le_of_ble_eq_true rfl)).mpr ?_
  show pz64 (pz_gt (ρ 0)) (pz_gN (ρ 0)) ((ρ 1) / 4) ((4) / 4)
  have kd : ρ 2 / 4 = pz_kd (pz_gt (ρ 0)) (pz_gN (ρ 0)) (pz_p (pz_cf (pz_gt (ρ 0)) (pz_gN (ρ 0)) (ρ 1 / 4))) := F50.2.2.1
  exact pq_rn1 (by decide) F76 (by omega)

theorem axq_rn2_6 : ax_RO ax_wC ax_XC axu_rn2_6 := by
  intro ρ hp hE hT
  have j0 : ρ 0 % 4 = 1 := pz_gj hE 0 (Nat.le_of_ble_eq_true rfl) rfl
  have j1 : ρ 1 % 4 = 1 := pz_gj hE 1 (Nat.le_of_ble_eq_true rfl) rfl
  obtain ⟨i2a, i2b, i2c, i2d⟩ := pz_gi hE 2 2147483650 2147483650 (Nat.le_of_ble_eq_true rfl) rfl
  obtain ⟨i3a, i3b, i3c, i3d⟩ := pz_gi hE 3 2147483647 2147483657 (Nat.le_of_ble_eq_true rfl) rfl
  obtain ⟨i4a, i4b, i4c, i4d⟩ := pz_gi hE 4 2147483648 2147583648 (Nat.le_of_ble_eq_true rfl) rfl
  have c_kind : ay_at hp 8 7 = some (ρ 2) := ay_gfj hE 42 28 11 8 7 ax_m2 (ax_vlq rfl rfl) (ax_vlj rfl rfl)
  have c_value : ay_at hp 8 8 = some (ρ 4) := ay_gfj hE 42 32 19 8 8 ax_m3 (ax_vlq rfl rfl) (ax_vlj rfl rfl)
  have r1 : (ρ 3 / 4 + 2147483648) % 4294967296 < (ρ 4 / 4 + 2147483648) % 4294967296 := pz_gc hE 4 19 15 (Nat.le_of_ble_eq_true rfl) ax_m5
  obtain ⟨-, -, -, -, F50⟩ : ay_ex hp 8 ∧ ay_ex hp 10 ∧ ay_ex hp 11 ∧ ay_ex hp 12 ∧ pz_x50 (ρ 0) (ρ 1) (ay_at hp 8 5) (ay_at hp 8 6) (ay_at hp 8 7) (ay_at hp 8 8) (ay_at hp 10 0) (ay_at hp 10 1) (ay_at hp 10 2) (ay_at hp 10 3) (ay_at hp 10 4) (ay_at hp 8 9) (ay_at hp 8 11) (ay_at hp 8 10) (ay_at hp 8 3) (ay_at hp 8 4) (ay_at hp 11) (ay_at hp 12) := (ax_XF_lt (x := 50) (Nat.le_of_ble_eq_true rfl)).mp (ax_gx hE (50, [3, 7]) ax_m0)
  rw [c_kind] at F50
  rw [c_value] at F50
  have F76 : pz7 (pz_gt (ρ 0)) (pz_gN (ρ 0)) ((ρ 1) / 4) 6 := (ax_XF_lt (x := 76) (Nat.le_of_ble_eq_true rfl)).mp (ax_gx hE (76, [3, 7]) ax_m1)
  have F103 : pz_x103 (ρ 0) (ρ 1) (ρ 3) := (ax_XF_lt (x := 103) (Nat.le_of_ble_eq_true rfl)).mp (ax_gx hE (103, [3, 7, 15]) ax_m4)
  refine ⟨(fun y hy => by cases hy), _, List.mem_cons_self, ρ, fun _ _ => rfl, ax_px hE rfl (fun y hy => ?_)⟩
  cases List.mem_singleton.mp hy
  refine (ax_XF_lt (x := 64) (Nat.le_of_ble_eq_true rfl)).mpr ?_
  show pz64 (pz_gt (ρ 0)) (pz_gN (ρ 0)) ((ρ 1) / 4) ((8) / 4)
  have kd : ρ 2 / 4 = pz_kd (pz_gt (ρ 0)) (pz_gN (ρ 0)) (pz_p (pz_cf (pz_gt (ρ 0)) (pz_gN (ρ 0)) (ρ 1 / 4))) := F50.2.2.1
  have vl := pz_mc (F50.2.2.2.1 (show ρ 2 / 4 = 2 by omega))
  replace vl : (ρ 4 / 4 ≤ 1000 ∧ pz_vl (pz_gt (ρ 0)) (pz_gN (ρ 0)) (pz_p (pz_cf (pz_gt (ρ 0)) (pz_gN (ρ 0)) (ρ 1 / 4))) = ρ 4 / 4) ∨ (1000 < ρ 4 / 4 ∧ pz_vl (pz_gt (ρ 0)) (pz_gN (ρ 0)) (pz_p (pz_cf (pz_gt (ρ 0)) (pz_gN (ρ 0)) (ρ 1 / 4))) = 1000) := vl
  replace F103 : (ρ 3 / 4 + 2147483648) % 4294967296 + 1 = pz_no (pz_cf (pz_gt (ρ 0)) (pz_gN (ρ 0)) (ρ 1 / 4)) + 2147483648 := F103
  exact pq_rn2 (by decide) F76 (by omega) (by omega)

theorem axq_rn4_6 : ax_RO ax_wC ax_XC axu_rn4_6 := by
  intro ρ hp hE hT
  have j0 : ρ 0 % 4 = 1 := pz_gj hE 0 (Nat.le_of_ble_eq_true rfl) rfl
  have j1 : ρ 1 % 4 = 1 := pz_gj hE 1 (Nat.le_of_ble_eq_true rfl) rfl
  obtain ⟨i2a, i2b, i2c, i2d⟩ := pz_gi hE 2 2147483650 2147483650 (Nat.le_of_ble_eq_true rfl) rfl
  obtain ⟨i3a, i3b, i3c, i3d⟩ := pz_gi hE 3 2147483647 2147483657 (Nat.le_of_ble_eq_true rfl) rfl
  obtain ⟨i4a, i4b, i4c, i4d⟩ := pz_gi hE 4 2147483648 2147583648 (Nat.le_of_ble_eq_true rfl) rfl
  have c_kind : ay_at hp 8 7 = some (ρ 2) := ay_gfj hE 42 28 11 8 7 ax_m1 (ax_vlq rfl rfl) (ax_vlj rfl rfl)
  have c_value : ay_at hp 8 8 = some (ρ 4) := ay_gfj hE 42 32 19 8 8 ax_m2 (ax_vlq rfl rfl) (ax_vlj rfl rfl)
  have r1 : (ρ 4 / 4 + 2147483648) % 4294967296 ≤ (ρ 3 / 4 + 2147483648) % 4294967296 := pz_gc hE 5 19 15 (Nat.le_of_ble_eq_true rfl) ax_m4
  obtain ⟨-, -, -, -, F50⟩ : ay_ex hp 8 ∧ ay_ex hp 10 ∧ ay_ex hp 11 ∧ ay_ex hp 12 ∧ pz_x50 (ρ 0) (ρ 1) (ay_at hp 8 5) (ay_at hp 8 6) (ay_at hp 8 7) (ay_at hp 8 8) (ay_at hp 10 0) (ay_at hp 10 1) (ay_at hp 10 2) (ay_at hp 10 3) (ay_at hp 10 4) (ay_at hp 8 9) (ay_at hp 8 11) (ay_at hp 8 10) (ay_at hp 8 3) (ay_at hp 8 4) (ay_at hp 11) (ay_at hp 12) := (ax_XF_lt (x := 50) (Nat.le_of_ble_eq_true rfl)).mp (ax_gx hE (50, [3, 7]) ax_m0)
  rw [c_kind] at F50
  rw [c_value] at F50
  have F103 : pz_x103 (ρ 0) (ρ 1) (ρ 3) := (ax_XF_lt (x := 103) (Nat.le_of_ble_eq_true rfl)).mp (ax_gx hE (103, [3, 7, 15]) ax_m3)
  refine ⟨(fun y hy => by cases hy), _, List.mem_cons_self, ρ, fun _ _ => rfl, ax_px hE rfl (fun y hy => ?_)⟩
  cases List.mem_singleton.mp hy
  refine (ax_XF_lt (x := 104) (Nat.le_of_ble_eq_true rfl)).mpr ?_
  show pz104 (pz_gt (ρ 0)) (pz_gN (ρ 0)) ((ρ 1) / 4) ((ρ 4) / 4)
  have kd : ρ 2 / 4 = pz_kd (pz_gt (ρ 0)) (pz_gN (ρ 0)) (pz_p (pz_cf (pz_gt (ρ 0)) (pz_gN (ρ 0)) (ρ 1 / 4))) := F50.2.2.1
  have vl := pz_mc (F50.2.2.2.1 (show ρ 2 / 4 = 2 by omega))
  replace vl : (ρ 4 / 4 ≤ 1000 ∧ pz_vl (pz_gt (ρ 0)) (pz_gN (ρ 0)) (pz_p (pz_cf (pz_gt (ρ 0)) (pz_gN (ρ 0)) (ρ 1 / 4))) = ρ 4 / 4) ∨ (1000 < ρ 4 / 4 ∧ pz_vl (pz_gt (ρ 0)) (pz_gN (ρ 0)) (pz_p (pz_cf (pz_gt (ρ 0)) (pz_gN (ρ 0)) (ρ 1 / 4))) = 1000) := vl
  replace F103 : (ρ 3 / 4 + 2147483648) % 4294967296 + 1 = pz_no (pz_cf (pz_gt (ρ 0)) (pz_gN (ρ 0)) (ρ 1 / 4)) + 2147483648 := F103
  exact ⟨⟨by omega, by omega⟩, by omega⟩

theorem axq_rn1a_7 : ax_RO ax_wC ax_XC axu_rn1a_7 := by
  intro ρ hp hE hT
  have j0 : ρ 0 % 4 = 1 := pz_gj hE 0 (Nat.le_of_ble_eq_true rfl) rfl
  have j1 : ρ 1 % 4 = 1 := pz_gj hE 1 (Nat.le_of_ble_eq_true rfl) rfl
  obtain ⟨i2a, i2b, i2c, i2d⟩ := pz_gi hE 2 0 2147483649 (Nat.le_of_ble_eq_true rfl) rfl
  have c_kind : ay_at hp 8 7 = some (ρ 2) := ay_gfj hE 42 28 11 8 7 ax_m2 (ax_vlq rfl rfl) (ax_vlj rfl rfl)
  obtain ⟨-, -, -, -, F50⟩ : ay_ex hp 8 ∧ ay_ex hp 10 ∧ ay_ex hp 11 ∧ ay_ex hp 12 ∧ pz_x50 (ρ 0) (ρ 1) (ay_at hp 8 5) (ay_at hp 8 6) (ay_at hp 8 7) (ay_at hp 8 8) (ay_at hp 10 0) (ay_at hp 10 1) (ay_at hp 10 2) (ay_at hp 10 3) (ay_at hp 10 4) (ay_at hp 8 9) (ay_at hp 8 11) (ay_at hp 8 10) (ay_at hp 8 3) (ay_at hp 8 4) (ay_at hp 11) (ay_at hp 12) := (ax_XF_lt (x := 50) (Nat.le_of_ble_eq_true rfl)).mp (ax_gx hE (50, [3, 7]) ax_m0)
  rw [c_kind] at F50
  have F77 : pz7 (pz_gt (ρ 0)) (pz_gN (ρ 0)) ((ρ 1) / 4) 7 := (ax_XF_lt (x := 77) (Nat.le_of_ble_eq_true rfl)).mp (ax_gx hE (77, [3, 7]) ax_m1)
  refine ⟨(fun y hy => by cases hy), _, List.mem_cons_self, ρ, fun _ _ => rfl, ax_px hE rfl (fun y hy => ?_)⟩
  cases List.mem_singleton.mp hy
  refine (ax_XF_lt (x := 64) (Nat.le_of_ble_eq_true rfl)).mpr ?_
  show pz64 (pz_gt (ρ 0)) (pz_gN (ρ 0)) ((ρ 1) / 4) ((4) / 4)
  have kd : ρ 2 / 4 = pz_kd (pz_gt (ρ 0)) (pz_gN (ρ 0)) (pz_p (pz_cf (pz_gt (ρ 0)) (pz_gN (ρ 0)) (ρ 1 / 4))) := F50.2.2.1
  exact pq_rn1 (by decide) F77 (by omega)

theorem axq_rn1b_7 : ax_RO ax_wC ax_XC axu_rn1b_7 := by
  intro ρ hp hE hT
  have j0 : ρ 0 % 4 = 1 := pz_gj hE 0 (Nat.le_of_ble_eq_true rfl) rfl
  have j1 : ρ 1 % 4 = 1 := pz_gj hE 1 (Nat.le_of_ble_eq_true rfl) rfl
  obtain ⟨i2a, i2b, i2c, i2d⟩ := pz_gi hE 2 2147483651 4294967295 (Nat.le_of_ble_eq_true rfl) rfl
  have c_kind : ay_at hp 8 7 = some (ρ 2) := ay_gfj hE 42 28 11 8 7 ax_m2 (ax_vlq rfl rfl) (ax_vlj rfl rfl)
  obtain ⟨-, -, -, -, F50⟩ : ay_ex hp 8 ∧ ay_ex hp 10 ∧ ay_ex hp 11 ∧ ay_ex hp 12 ∧ pz_x50 (ρ 0) (ρ 1) (ay_at hp 8 5) (ay_at hp 8 6) (ay_at hp 8 7) (ay_at hp 8 8) (ay_at hp 10 0) (ay_at hp 10 1) (ay_at hp 10 2) (ay_at hp 10 3) (ay_at hp 10 4) (ay_at hp 8 9) (ay_at hp 8 11) (ay_at hp 8 10) (ay_at hp 8 3) (ay_at hp 8 4) (ay_at hp 11) (ay_at hp 12) := (ax_XF_lt (x := 50) (Nat.le_of_ble_eq_true rfl)).mp (ax_gx hE (50, [3, 7]) ax_m0)
  rw [c_kind] at F50
  have F77 : pz7 (pz_gt (ρ 0)) (pz_gN (ρ 0)) ((ρ 1) / 4) 7 := (ax_XF_lt (x := 77) (Nat.le_of_ble_eq_true rfl)).mp (ax_gx hE (77, [3, 7]) ax_m1)
  refine ⟨(fun y hy => by cases hy), _, List.mem_cons_self, ρ, fun _ _ => rfl, ax_px hE rfl (fun y hy => ?_)⟩
  cases List.mem_singleton.mp hy
  refine (ax_XF_lt (x := 64) (Nat.le_of_ble_eq_true rfl)).mpr ?_
  show pz64 (pz_gt (ρ 0)) (pz_gN (ρ 0)) ((ρ 1) / 4) ((4) / 4)
  have kd : ρ 2 / 4 = pz_kd (pz_gt (ρ 0)) (pz_gN (ρ 0)) (pz_p (pz_cf (pz_gt (ρ 0)) (pz_gN (ρ 0)) (ρ 1 / 4))) := F50.2.2.1
  exact pq_rn1 (by decide) F77 (by omega)

theorem axq_rn3a_7 : ax_RO ax_wC ax_XC axu_rn3a_7 := by
  intro ρ hp hE hT
  have j0 : ρ 0 % 4 = 1 := pz_gj hE 0 (Nat.le_of_ble_eq_true rfl) rfl
  have j1 : ρ 1 % 4 = 1 := pz_gj hE 1 (Nat.le_of_ble_eq_true rfl) rfl
  obtain ⟨i2a, i2b, i2c, i2d⟩ := pz_gi hE 2 2147483650 2147483650 (Nat.le_of_ble_eq_true rfl) rfl
  obtain ⟨i3a, i3b, i3c, i3d⟩ := pz_gi hE 3 2147483648 2147483648 (Nat.le_of_ble_eq_true rfl) rfl
  have c_kind : ay_at hp 8 7 = some (ρ 2) := ay_gfj hE 42 28 11 8 7 ax_m2 (ax_vlq rfl rfl) (ax_vlj rfl rfl)
  have c_value : ay_at hp 8 8 = some (ρ 3) := ay_gfj hE 42 32 15 8 8 ax_m3 (ax_vlq rfl rfl) (ax_vlj rfl rfl)
  obtain ⟨-, -, -, -, F50⟩ : ay_ex hp 8 ∧ ay_ex hp 10 ∧ ay_ex hp 11 ∧ ay_ex hp 12 ∧ pz_x50 (ρ 0) (ρ 1) (ay_at hp 8 5) (ay_at hp 8 6) (ay_at hp 8 7) (ay_at hp 8 8) (ay_at hp 10 0) (ay_at hp 10 1) (ay_at hp 10 2) (ay_at hp 10 3) (ay_at hp 10 4) (ay_at hp 8 9) (ay_at hp 8 11) (ay_at hp 8 10) (ay_at hp 8 3) (ay_at hp 8 4) (ay_at hp 11) (ay_at hp 12) := (ax_XF_lt (x := 50) (Nat.le_of_ble_eq_true rfl)).mp (ax_gx hE (50, [3, 7]) ax_m0)
  rw [c_kind] at F50
  rw [c_value] at F50
  have F77 : pz7 (pz_gt (ρ 0)) (pz_gN (ρ 0)) ((ρ 1) / 4) 7 := (ax_XF_lt (x := 77) (Nat.le_of_ble_eq_true rfl)).mp (ax_gx hE (77, [3, 7]) ax_m1)
  refine ⟨(fun y hy => by cases hy), _, List.mem_cons_self, ρ, fun _ _ => rfl, ax_px hE rfl (fun y hy => ?_)⟩
  cases List.mem_singleton.mp hy
  refine (ax_XF_lt (x := 64) (Nat.le_of_ble_eq_true rfl)).mpr ?_
  show pz64 (pz_gt (ρ 0)) (pz_gN (ρ 0)) ((ρ 1) / 4) ((8) / 4)
  have kd : ρ 2 / 4 = pz_kd (pz_gt (ρ 0)) (pz_gN (ρ 0)) (pz_p (pz_cf (pz_gt (ρ 0)) (pz_gN (ρ 0)) (ρ 1 / 4))) := F50.2.2.1
  have vl := pz_mc (F50.2.2.2.1 (show ρ 2 / 4 = 2 by omega))
  replace vl : (ρ 3 / 4 ≤ 1000 ∧ pz_vl (pz_gt (ρ 0)) (pz_gN (ρ 0)) (pz_p (pz_cf (pz_gt (ρ 0)) (pz_gN (ρ 0)) (ρ 1 / 4))) = ρ 3 / 4) ∨ (1000 < ρ 3 / 4 ∧ pz_vl (pz_gt (ρ 0)) (pz_gN (ρ 0)) (pz_p (pz_cf (pz_gt (ρ 0)) (pz_gN (ρ 0)) (ρ 1 / 4))) = 1000) := vl
  exact pq_rn37 F77 (by omega) (by omega)

theorem axq_rn3b_7 : ax_RO ax_wC ax_XC axu_rn3b_7 := by
  intro ρ hp hE hT
  have j0 : ρ 0 % 4 = 1 := pz_gj hE 0 (Nat.le_of_ble_eq_true rfl) rfl
  have j1 : ρ 1 % 4 = 1 := pz_gj hE 1 (Nat.le_of_ble_eq_true rfl) rfl
  obtain ⟨i2a, i2b, i2c, i2d⟩ := pz_gi hE 2 2147483650 2147483650 (Nat.le_of_ble_eq_true rfl) rfl
  obtain ⟨i3a, i3b, i3c, i3d⟩ := pz_gi hE 3 2147483652 2147583648 (Nat.le_of_ble_eq_true rfl) rfl
  have c_kind : ay_at hp 8 7 = some (ρ 2) := ay_gfj hE 42 28 11 8 7 ax_m2 (ax_vlq rfl rfl) (ax_vlj rfl rfl)
  have c_value : ay_at hp 8 8 = some (ρ 3) := ay_gfj hE 42 32 15 8 8 ax_m3 (ax_vlq rfl rfl) (ax_vlj rfl rfl)
  obtain ⟨-, -, -, -, F50⟩ : ay_ex hp 8 ∧ ay_ex hp 10 ∧ ay_ex hp 11 ∧ ay_ex hp 12 ∧ pz_x50 (ρ 0) (ρ 1) (ay_at hp 8 5) (ay_at hp 8 6) (ay_at hp 8 7) (ay_at hp 8 8) (ay_at hp 10 0) (ay_at hp 10 1) (ay_at hp 10 2) (ay_at hp 10 3) (ay_at hp 10 4) (ay_at hp 8 9) (ay_at hp 8 11) (ay_at hp 8 10) (ay_at hp 8 3) (ay_at hp 8 4) (ay_at hp 11) (ay_at hp 12) := (ax_XF_lt (x := 50) (Nat.le_of_ble_eq_true rfl)).mp (ax_gx hE (50, [3, 7]) ax_m0)
  rw [c_kind] at F50
  rw [c_value] at F50
  have F77 : pz7 (pz_gt (ρ 0)) (pz_gN (ρ 0)) ((ρ 1) / 4) 7 := (ax_XF_lt (x := 77) (Nat.le_of_ble_eq_true rfl)).mp (ax_gx hE (77, [3, 7]) ax_m1)
  refine ⟨(fun y hy => by cases hy), _, List.mem_cons_self, ρ, fun _ _ => rfl, ax_px hE rfl (fun y hy => ?_)⟩
  cases List.mem_singleton.mp hy
  refine (ax_XF_lt (x := 64) (Nat.le_of_ble_eq_true rfl)).mpr ?_
  show pz64 (pz_gt (ρ 0)) (pz_gN (ρ 0)) ((ρ 1) / 4) ((8) / 4)
  have kd : ρ 2 / 4 = pz_kd (pz_gt (ρ 0)) (pz_gN (ρ 0)) (pz_p (pz_cf (pz_gt (ρ 0)) (pz_gN (ρ 0)) (ρ 1 / 4))) := F50.2.2.1
  have vl := pz_mc (F50.2.2.2.1 (show ρ 2 / 4 = 2 by omega))
  replace vl : (ρ 3 / 4 ≤ 1000 ∧ pz_vl (pz_gt (ρ 0)) (pz_gN (ρ 0)) (pz_p (pz_cf (pz_gt (ρ 0)) (pz_gN (ρ 0)) (ρ 1 / 4))) = ρ 3 / 4) ∨ (1000 < ρ 3 / 4 ∧ pz_vl (pz_gt (ρ 0)) (pz_gN (ρ 0)) (pz_p (pz_cf (pz_gt (ρ 0)) (pz_gN (ρ 0)) (ρ 1 / 4))) = 1000) := vl
  exact pq_rn37 F77 (by omega) (by omega)

theorem axq_rn5_7 : ax_RO ax_wC ax_XC axu_rn5_7 := by
  intro ρ hp hE hT
  have j0 : ρ 0 % 4 = 1 := pz_gj hE 0 (Nat.le_of_ble_eq_true rfl) rfl
  have j1 : ρ 1 % 4 = 1 := pz_gj hE 1 (Nat.le_of_ble_eq_true rfl) rfl
  obtain ⟨i2a, i2b, i2c, i2d⟩ := pz_gi hE 2 2147483650 2147483650 (Nat.le_of_ble_eq_true rfl) rfl
  obtain ⟨i3a, i3b, i3c, i3d⟩ := pz_gi hE 3 2147483649 2147483651 (Nat.le_of_ble_eq_true rfl) rfl
  have c_kind : ay_at hp 8 7 = some (ρ 2) := ay_gfj hE 42 28 11 8 7 ax_m1 (ax_vlq rfl rfl) (ax_vlj rfl rfl)
  have c_value : ay_at hp 8 8 = some (ρ 3) := ay_gfj hE 42 32 15 8 8 ax_m2 (ax_vlq rfl rfl) (ax_vlj rfl rfl)
  obtain ⟨-, -, -, -, F50⟩ : ay_ex hp 8 ∧ ay_ex hp 10 ∧ ay_ex hp 11 ∧ ay_ex hp 12 ∧ pz_x50 (ρ 0) (ρ 1) (ay_at hp 8 5) (ay_at hp 8 6) (ay_at hp 8 7) (ay_at hp 8 8) (ay_at hp 10 0) (ay_at hp 10 1) (ay_at hp 10 2) (ay_at hp 10 3) (ay_at hp 10 4) (ay_at hp 8 9) (ay_at hp 8 11) (ay_at hp 8 10) (ay_at hp 8 3) (ay_at hp 8 4) (ay_at hp 11) (ay_at hp 12) := (ax_XF_lt (x := 50) (Nat.le_of_ble_eq_true rfl)).mp (ax_gx hE (50, [3, 7]) ax_m0)
  rw [c_kind] at F50
  rw [c_value] at F50
  refine ⟨(fun y hy => by cases hy), _, List.mem_cons_self, ρ, fun _ _ => rfl, ax_px hE rfl (fun y hy => ?_)⟩
  cases List.mem_singleton.mp hy
  refine (ax_XF_lt (x := 66) (Nat.le_of_ble_eq_true rfl)).mpr ?_
  show pz66 (pz_gt (ρ 0)) (pz_gN (ρ 0)) ((ρ 1) / 4) ((ρ 3) / 4)
  have kd : ρ 2 / 4 = pz_kd (pz_gt (ρ 0)) (pz_gN (ρ 0)) (pz_p (pz_cf (pz_gt (ρ 0)) (pz_gN (ρ 0)) (ρ 1 / 4))) := F50.2.2.1
  have vl := pz_mc (F50.2.2.2.1 (show ρ 2 / 4 = 2 by omega))
  replace vl : (ρ 3 / 4 ≤ 1000 ∧ pz_vl (pz_gt (ρ 0)) (pz_gN (ρ 0)) (pz_p (pz_cf (pz_gt (ρ 0)) (pz_gN (ρ 0)) (ρ 1 / 4))) = ρ 3 / 4) ∨ (1000 < ρ 3 / 4 ∧ pz_vl (pz_gt (ρ 0)) (pz_gN (ρ 0)) (pz_p (pz_cf (pz_gt (ρ 0)) (pz_gN (ρ 0)) (ρ 1 / 4))) = 1000) := vl
  exact ⟨by omega, by omega⟩

theorem axq_rs1a : ax_RO ax_wC ax_XC axu_rs1a := by
  intro ρ hp hE hT
  have j0 : ρ 0 % 4 = 1 := pz_gj hE 0 (Nat.le_of_ble_eq_true rfl) rfl
  have j1 : ρ 1 % 4 = 1 := pz_gj hE 1 (Nat.le_of_ble_eq_true rfl) rfl
  obtain ⟨i2a, i2b, i2c, i2d⟩ := pz_gi hE 2 0 2147483706 (Nat.le_of_ble_eq_true rfl) rfl
  have c_kind : ay_at hp 8 7 = some (ρ 2) := ay_gfj hE 42 28 11 8 7 ax_m2 (ax_vlq rfl rfl) (ax_vlj rfl rfl)
  obtain ⟨-, -, -, -, F50⟩ : ay_ex hp 8 ∧ ay_ex hp 10 ∧ ay_ex hp 11 ∧ ay_ex hp 12 ∧ pz_x50 (ρ 0) (ρ 1) (ay_at hp 8 5) (ay_at hp 8 6) (ay_at hp 8 7) (ay_at hp 8 8) (ay_at hp 10 0) (ay_at hp 10 1) (ay_at hp 10 2) (ay_at hp 10 3) (ay_at hp 10 4) (ay_at hp 8 9) (ay_at hp 8 11) (ay_at hp 8 10) (ay_at hp 8 3) (ay_at hp 8 4) (ay_at hp 11) (ay_at hp 12) := (ax_XF_lt (x := 50) (Nat.le_of_ble_eq_true rfl)).mp (ax_gx hE (50, [3, 7]) ax_m0)
  rw [c_kind] at F50
  have F72 : pz7 (pz_gt (ρ 0)) (pz_gN (ρ 0)) ((ρ 1) / 4) 2 := (ax_XF_lt (x := 72) (Nat.le_of_ble_eq_true rfl)).mp (ax_gx hE (72, [3, 7]) ax_m1)
  refine ⟨(fun y hy => by cases hy), _, List.mem_cons_self, ρ, fun _ _ => rfl, ax_px hE rfl (fun y hy => ?_)⟩
  cases List.mem_singleton.mp hy
  refine (ax_XF_lt (x := 64) (Nat.le_of_ble_eq_true rfl)).mpr ?_
  show pz64 (pz_gt (ρ 0)) (pz_gN (ρ 0)) ((ρ 1) / 4) ((4) / 4)
  have kd : ρ 2 / 4 = pz_kd (pz_gt (ρ 0)) (pz_gN (ρ 0)) (pz_p (pz_cf (pz_gt (ρ 0)) (pz_gN (ρ 0)) (ρ 1 / 4))) := F50.2.2.1
  exact pq_rs1 F72 (by omega)

theorem axq_rs2a : ax_RO ax_wC ax_XC axu_rs2a := by
  intro ρ hp hE hT
  have j0 : ρ 0 % 4 = 1 := pz_gj hE 0 (Nat.le_of_ble_eq_true rfl) rfl
  have j1 : ρ 1 % 4 = 1 := pz_gj hE 1 (Nat.le_of_ble_eq_true rfl) rfl
  obtain ⟨i2a, i2b, i2c, i2d⟩ := pz_gi hE 2 0 2147483706 (Nat.le_of_ble_eq_true rfl) rfl
  have c_kind : ay_at hp 8 7 = some (ρ 2) := ay_gfj hE 42 28 11 8 7 ax_m4 (ax_vlq rfl rfl) (ax_vlj rfl rfl)
  obtain ⟨-, -, -, -, F50⟩ : ay_ex hp 8 ∧ ay_ex hp 10 ∧ ay_ex hp 11 ∧ ay_ex hp 12 ∧ pz_x50 (ρ 0) (ρ 1) (ay_at hp 8 5) (ay_at hp 8 6) (ay_at hp 8 7) (ay_at hp 8 8) (ay_at hp 10 0) (ay_at hp 10 1) (ay_at hp 10 2) (ay_at hp 10 3) (ay_at hp 10 4) (ay_at hp 8 9) (ay_at hp 8 11) (ay_at hp 8 10) (ay_at hp 8 3) (ay_at hp 8 4) (ay_at hp 11) (ay_at hp 12) := (ax_XF_lt (x := 50) (Nat.le_of_ble_eq_true rfl)).mp (ax_gx hE (50, [3, 7]) ax_m0)
  rw [c_kind] at F50
  have F79 : pz7 (pz_gt (ρ 0)) (pz_gN (ρ 0)) ((ρ 1) / 4) 9 := (ax_XF_lt (x := 79) (Nat.le_of_ble_eq_true rfl)).mp (ax_gx hE (79, [3, 7]) ax_m1)
  have F90 : (pz90 (pz_gt (ρ 0)) (pz_gN (ρ 0)) ((ρ 1) / 4) ((5) / 4) ∧ 1 ≤ (5) / 4) := (ax_XF_lt (x := 90) (Nat.le_of_ble_eq_true rfl)).mp (ax_gx hE (90, [3, 7, 5]) ax_m2)
  have F94 : pz94 (pz_gt (ρ 0)) (pz_gN (ρ 0)) ((ρ 1) / 4) := (ax_XF_lt (x := 94) (Nat.le_of_ble_eq_true rfl)).mp (ax_gx hE (94, [3, 7]) ax_m3)
  refine ⟨(fun y hy => by cases hy), _, List.mem_cons_self, ρ, fun _ _ => rfl, ax_px hE rfl (fun y hy => ?_)⟩
  cases List.mem_singleton.mp hy
  refine (ax_XF_lt (x := 64) (Nat.le_of_ble_eq_true rfl)).mpr ?_
  show pz64 (pz_gt (ρ 0)) (pz_gN (ρ 0)) ((ρ 1) / 4) ((4) / 4)
  have kd : ρ 2 / 4 = pz_kd (pz_gt (ρ 0)) (pz_gN (ρ 0)) (pz_p (pz_cf (pz_gt (ρ 0)) (pz_gN (ρ 0)) (ρ 1 / 4))) := F50.2.2.1
  exact pq_rs2 F79 F90.1 F94 (by omega)

theorem axq_rs1b : ax_RO ax_wC ax_XC axu_rs1b := by
  intro ρ hp hE hT
  have j0 : ρ 0 % 4 = 1 := pz_gj hE 0 (Nat.le_of_ble_eq_true rfl) rfl
  have j1 : ρ 1 % 4 = 1 := pz_gj hE 1 (Nat.le_of_ble_eq_true rfl) rfl
  obtain ⟨i2a, i2b, i2c, i2d⟩ := pz_gi hE 2 2147483708 4294967295 (Nat.le_of_ble_eq_true rfl) rfl
  have c_kind : ay_at hp 8 7 = some (ρ 2) := ay_gfj hE 42 28 11 8 7 ax_m2 (ax_vlq rfl rfl) (ax_vlj rfl rfl)
  obtain ⟨-, -, -, -, F50⟩ : ay_ex hp 8 ∧ ay_ex hp 10 ∧ ay_ex hp 11 ∧ ay_ex hp 12 ∧ pz_x50 (ρ 0) (ρ 1) (ay_at hp 8 5) (ay_at hp 8 6) (ay_at hp 8 7) (ay_at hp 8 8) (ay_at hp 10 0) (ay_at hp 10 1) (ay_at hp 10 2) (ay_at hp 10 3) (ay_at hp 10 4) (ay_at hp 8 9) (ay_at hp 8 11) (ay_at hp 8 10) (ay_at hp 8 3) (ay_at hp 8 4) (ay_at hp 11) (ay_at hp 12) := (ax_XF_lt (x := 50) (Nat.le_of_ble_eq_true rfl)).mp (ax_gx hE (50, [3, 7]) ax_m0)
  rw [c_kind] at F50
  have F72 : pz7 (pz_gt (ρ 0)) (pz_gN (ρ 0)) ((ρ 1) / 4) 2 := (ax_XF_lt (x := 72) (Nat.le_of_ble_eq_true rfl)).mp (ax_gx hE (72, [3, 7]) ax_m1)
  refine ⟨(fun y hy => by cases hy), _, List.mem_cons_self, ρ, fun _ _ => rfl, ax_px hE rfl (fun y hy => ?_)⟩
  cases List.mem_singleton.mp hy
  refine (ax_XF_lt (x := 64) (Nat.le_of_ble_eq_true rfl)).mpr ?_
  show pz64 (pz_gt (ρ 0)) (pz_gN (ρ 0)) ((ρ 1) / 4) ((4) / 4)
  have kd : ρ 2 / 4 = pz_kd (pz_gt (ρ 0)) (pz_gN (ρ 0)) (pz_p (pz_cf (pz_gt (ρ 0)) (pz_gN (ρ 0)) (ρ 1 / 4))) := F50.2.2.1
  exact pq_rs1 F72 (by omega)

theorem axq_rs2b : ax_RO ax_wC ax_XC axu_rs2b := by
  intro ρ hp hE hT
  have j0 : ρ 0 % 4 = 1 := pz_gj hE 0 (Nat.le_of_ble_eq_true rfl) rfl
  have j1 : ρ 1 % 4 = 1 := pz_gj hE 1 (Nat.le_of_ble_eq_true rfl) rfl
  obtain ⟨i2a, i2b, i2c, i2d⟩ := pz_gi hE 2 2147483708 4294967295 (Nat.le_of_ble_eq_true rfl) rfl
  have c_kind : ay_at hp 8 7 = some (ρ 2) := ay_gfj hE 42 28 11 8 7 ax_m4 (ax_vlq rfl rfl) (ax_vlj rfl rfl)
  obtain ⟨-, -, -, -, F50⟩ : ay_ex hp 8 ∧ ay_ex hp 10 ∧ ay_ex hp 11 ∧ ay_ex hp 12 ∧ pz_x50 (ρ 0) (ρ 1) (ay_at hp 8 5) (ay_at hp 8 6) (ay_at hp 8 7) (ay_at hp 8 8) (ay_at hp 10 0) (ay_at hp 10 1) (ay_at hp 10 2) (ay_at hp 10 3) (ay_at hp 10 4) (ay_at hp 8 9) (ay_at hp 8 11) (ay_at hp 8 10) (ay_at hp 8 3) (ay_at hp 8 4) (ay_at hp 11) (ay_at hp 12) := (ax_XF_lt (x := 50) (Nat.le_of_ble_eq_true rfl)).mp (ax_gx hE (50, [3, 7]) ax_m0)
  rw [c_kind] at F50
  have F79 : pz7 (pz_gt (ρ 0)) (pz_gN (ρ 0)) ((ρ 1) / 4) 9 := (ax_XF_lt (x := 79) (Nat.le_of_ble_eq_true rfl)).mp (ax_gx hE (79, [3, 7]) ax_m1)
  have F90 : (pz90 (pz_gt (ρ 0)) (pz_gN (ρ 0)) ((ρ 1) / 4) ((5) / 4) ∧ 1 ≤ (5) / 4) := (ax_XF_lt (x := 90) (Nat.le_of_ble_eq_true rfl)).mp (ax_gx hE (90, [3, 7, 5]) ax_m2)
  have F94 : pz94 (pz_gt (ρ 0)) (pz_gN (ρ 0)) ((ρ 1) / 4) := (ax_XF_lt (x := 94) (Nat.le_of_ble_eq_true rfl)).mp (ax_gx hE (94, [3, 7]) ax_m3)
  refine ⟨(fun y hy => by cases hy), _, List.mem_cons_self, ρ, fun _ _ => rfl, ax_px hE rfl (fun y hy => ?_)⟩
  cases List.mem_singleton.mp hy
  refine (ax_XF_lt (x := 64) (Nat.le_of_ble_eq_true rfl)).mpr ?_
  show pz64 (pz_gt (ρ 0)) (pz_gN (ρ 0)) ((ρ 1) / 4) ((4) / 4)
  have kd : ρ 2 / 4 = pz_kd (pz_gt (ρ 0)) (pz_gN (ρ 0)) (pz_p (pz_cf (pz_gt (ρ 0)) (pz_gN (ρ 0)) (ρ 1 / 4))) := F50.2.2.1
  exact pq_rs2 F79 F90.1 F94 (by omega)

theorem axq_rs3a : ax_RO ax_wC ax_XC axu_rs3a := by
  intro ρ hp hE hT
  have j0 : ρ 0 % 4 = 1 := pz_gj hE 0 (Nat.le_of_ble_eq_true rfl) rfl
  have j1 : ρ 1 % 4 = 1 := pz_gj hE 1 (Nat.le_of_ble_eq_true rfl) rfl
  have j2 : ρ 2 % 4 = 1 := pz_gj hE 2 (Nat.le_of_ble_eq_true rfl) rfl
  have j3 : ρ 3 % 4 = 1 := pz_gj hE 3 (Nat.le_of_ble_eq_true rfl) rfl
  obtain ⟨i4a, i4b, i4c, i4d⟩ := pz_gi hE 4 0 2147483688 (Nat.le_of_ble_eq_true rfl) rfl
  have c_kind : ay_at hp 8 7 = some (ρ 4) := ay_gfj hE 42 28 19 8 7 ax_m5 (ax_vlq rfl rfl) (ax_vlj rfl rfl)
  obtain ⟨-, -, -, -, F50⟩ : ay_ex hp 8 ∧ ay_ex hp 10 ∧ ay_ex hp 11 ∧ ay_ex hp 12 ∧ pz_x50 (ρ 0) (ρ 1) (ay_at hp 8 5) (ay_at hp 8 6) (ay_at hp 8 7) (ay_at hp 8 8) (ay_at hp 10 0) (ay_at hp 10 1) (ay_at hp 10 2) (ay_at hp 10 3) (ay_at hp 10 4) (ay_at hp 8 9) (ay_at hp 8 11) (ay_at hp 8 10) (ay_at hp 8 3) (ay_at hp 8 4) (ay_at hp 11) (ay_at hp 12) := (ax_XF_lt (x := 50) (Nat.le_of_ble_eq_true rfl)).mp (ax_gx hE (50, [3, 7]) ax_m0)
  rw [c_kind] at F50
  have F79 : pz7 (pz_gt (ρ 0)) (pz_gN (ρ 0)) ((ρ 1) / 4) 9 := (ax_XF_lt (x := 79) (Nat.le_of_ble_eq_true rfl)).mp (ax_gx hE (79, [3, 7]) ax_m1)
  have F90 : (pz90 (pz_gt (ρ 0)) (pz_gN (ρ 0)) ((ρ 1) / 4) ((ρ 2) / 4) ∧ 1 ≤ (ρ 2) / 4) := (ax_XF_lt (x := 90) (Nat.le_of_ble_eq_true rfl)).mp (ax_gx hE (90, [3, 7, 11]) ax_m2)
  have F93 : (ρ 2) / 4 = 2 * ((ρ 3) / 4) := (ax_XF_lt (x := 93) (Nat.le_of_ble_eq_true rfl)).mp (ax_gx hE (93, [11, 15]) ax_m3)
  have F94 : pz94 (pz_gt (ρ 0)) (pz_gN (ρ 0)) ((ρ 1) / 4) := (ax_XF_lt (x := 94) (Nat.le_of_ble_eq_true rfl)).mp (ax_gx hE (94, [3, 7]) ax_m4)
  refine ⟨(fun y hy => by cases hy), _, List.mem_cons_self, ρ, fun _ _ => rfl, ax_px hE rfl (fun y hy => ?_)⟩
  cases List.mem_singleton.mp hy
  refine (ax_XF_lt (x := 64) (Nat.le_of_ble_eq_true rfl)).mpr ?_
  show pz64 (pz_gt (ρ 0)) (pz_gN (ρ 0)) ((ρ 1) / 4) ((4) / 4)
  have kd : ρ 4 / 4 = pz_kd (pz_gt (ρ 0)) (pz_gN (ρ 0)) (pz_p (pz_cf (pz_gt (ρ 0)) (pz_gN (ρ 0)) (ρ 1 / 4))) := F50.2.2.1
  exact pq_rs3 F79 F90.1 F93 (by have := F90.2; omega) F94 (by omega)

theorem axq_rs3b : ax_RO ax_wC ax_XC axu_rs3b := by
  intro ρ hp hE hT
  have j0 : ρ 0 % 4 = 1 := pz_gj hE 0 (Nat.le_of_ble_eq_true rfl) rfl
  have j1 : ρ 1 % 4 = 1 := pz_gj hE 1 (Nat.le_of_ble_eq_true rfl) rfl
  have j2 : ρ 2 % 4 = 1 := pz_gj hE 2 (Nat.le_of_ble_eq_true rfl) rfl
  have j3 : ρ 3 % 4 = 1 := pz_gj hE 3 (Nat.le_of_ble_eq_true rfl) rfl
  obtain ⟨i4a, i4b, i4c, i4d⟩ := pz_gi hE 4 2147483690 4294967295 (Nat.le_of_ble_eq_true rfl) rfl
  have c_kind : ay_at hp 8 7 = some (ρ 4) := ay_gfj hE 42 28 19 8 7 ax_m5 (ax_vlq rfl rfl) (ax_vlj rfl rfl)
  obtain ⟨-, -, -, -, F50⟩ : ay_ex hp 8 ∧ ay_ex hp 10 ∧ ay_ex hp 11 ∧ ay_ex hp 12 ∧ pz_x50 (ρ 0) (ρ 1) (ay_at hp 8 5) (ay_at hp 8 6) (ay_at hp 8 7) (ay_at hp 8 8) (ay_at hp 10 0) (ay_at hp 10 1) (ay_at hp 10 2) (ay_at hp 10 3) (ay_at hp 10 4) (ay_at hp 8 9) (ay_at hp 8 11) (ay_at hp 8 10) (ay_at hp 8 3) (ay_at hp 8 4) (ay_at hp 11) (ay_at hp 12) := (ax_XF_lt (x := 50) (Nat.le_of_ble_eq_true rfl)).mp (ax_gx hE (50, [3, 7]) ax_m0)
  rw [c_kind] at F50
  have F79 : pz7 (pz_gt (ρ 0)) (pz_gN (ρ 0)) ((ρ 1) / 4) 9 := (ax_XF_lt (x := 79) (Nat.le_of_ble_eq_true rfl)).mp (ax_gx hE (79, [3, 7]) ax_m1)
  have F90 : (pz90 (pz_gt (ρ 0)) (pz_gN (ρ 0)) ((ρ 1) / 4) ((ρ 2) / 4) ∧ 1 ≤ (ρ 2) / 4) := (ax_XF_lt (x := 90) (Nat.le_of_ble_eq_true rfl)).mp (ax_gx hE (90, [3, 7, 11]) ax_m2)
  have F93 : (ρ 2) / 4 = 2 * ((ρ 3) / 4) := (ax_XF_lt (x := 93) (Nat.le_of_ble_eq_true rfl)).mp (ax_gx hE (93, [11, 15]) ax_m3)
  have F94 : pz94 (pz_gt (ρ 0)) (pz_gN (ρ 0)) ((ρ 1) / 4) := (ax_XF_lt (x := 94) (Nat.le_of_ble_eq_true rfl)).mp (ax_gx hE (94, [3, 7]) ax_m4)
  refine ⟨(fun y hy => by cases hy), _, List.mem_cons_self, ρ, fun _ _ => rfl, ax_px hE rfl (fun y hy => ?_)⟩
  cases List.mem_singleton.mp hy
  refine (ax_XF_lt (x := 64) (Nat.le_of_ble_eq_true rfl)).mpr ?_
  show pz64 (pz_gt (ρ 0)) (pz_gN (ρ 0)) ((ρ 1) / 4) ((4) / 4)
  have kd : ρ 4 / 4 = pz_kd (pz_gt (ρ 0)) (pz_gN (ρ 0)) (pz_p (pz_cf (pz_gt (ρ 0)) (pz_gN (ρ 0)) (ρ 1 / 4))) := F50.2.2.1
  exact pq_rs3 F79 F90.1 F93 (by have := F90.2; omega) F94 (by omega)

theorem axq_rs4 : ax_RO ax_wC ax_XC axu_rs4 := by
  intro ρ hp hE hT
  have j0 : ρ 0 % 4 = 1 := pz_gj hE 0 (Nat.le_of_ble_eq_true rfl) rfl
  have j1 : ρ 1 % 4 = 1 := pz_gj hE 1 (Nat.le_of_ble_eq_true rfl) rfl
  obtain ⟨i2a, i2b, i2c, i2d⟩ := pz_gi hE 2 2147483707 2147483707 (Nat.le_of_ble_eq_true rfl) rfl
  have c_kind : ay_at hp 8 7 = some (ρ 2) := ay_gfj hE 42 28 11 8 7 ax_m2 (ax_vlq rfl rfl) (ax_vlj rfl rfl)
  obtain ⟨-, -, -, -, F50⟩ : ay_ex hp 8 ∧ ay_ex hp 10 ∧ ay_ex hp 11 ∧ ay_ex hp 12 ∧ pz_x50 (ρ 0) (ρ 1) (ay_at hp 8 5) (ay_at hp 8 6) (ay_at hp 8 7) (ay_at hp 8 8) (ay_at hp 10 0) (ay_at hp 10 1) (ay_at hp 10 2) (ay_at hp 10 3) (ay_at hp 10 4) (ay_at hp 8 9) (ay_at hp 8 11) (ay_at hp 8 10) (ay_at hp 8 3) (ay_at hp 8 4) (ay_at hp 11) (ay_at hp 12) := (ax_XF_lt (x := 50) (Nat.le_of_ble_eq_true rfl)).mp (ax_gx hE (50, [3, 7]) ax_m0)
  rw [c_kind] at F50
  have F72 : pz7 (pz_gt (ρ 0)) (pz_gN (ρ 0)) ((ρ 1) / 4) 2 := (ax_XF_lt (x := 72) (Nat.le_of_ble_eq_true rfl)).mp (ax_gx hE (72, [3, 7]) ax_m1)
  have st := pq_rs4 F50 F72 (show ρ 2 / 4 = 59 by omega)
  obtain ⟨ρ', h1, h2⟩ := pz_pn1 (K := ρ 1 / 4 + 1) (xf := [(53, [3, 15]), (73, [3, 15]), (1030, [7, 15]), (98, [7, 15])]) hE (by decide) (fun ρ' h1 h2 x hx => by
    have q0 : ρ' 0 = ρ 0 := h1 0 (by decide)
    have q1 : ρ' 1 = ρ 1 := h1 1 (by decide)
    have q2 : ρ' 2 = ρ 2 := h1 2 (by decide)
    rcases List.mem_cons.mp hx with e | hx
    · subst e
      refine (ax_XF_lt (x := 53) (Nat.le_of_ble_eq_true rfl)).mpr ?_
      show ay_ex hp 8 ∧ ay_ex hp 10 ∧ ay_ex hp 11 ∧ ay_ex hp 12 ∧ pz_x53 (ρ' 0) (ρ' 3) (ay_at hp 8 5) (ay_at hp 10 0) (ay_at hp 10 1) (ay_at hp 10 2) (ay_at hp 10 3) (ay_at hp 10 4) (ay_at hp 8 9) (ay_at hp 8 11) (ay_at hp 8 10) (ay_at hp 8 3) (ay_at hp 8 4) (ay_at hp 11) (ay_at hp 12)
      rw [q0, h2]
      exact ⟨(ax_cellT hT (q := 8) (g := 2) rfl), (ax_cellT hT (q := 10) (g := 1) rfl), (ax_cellT hT (q := 11) (g := 14) rfl), (ax_cellT hT (q := 12) (g := 15) rfl), pz_53 (pz_41 _) rfl st.1⟩
    rcases List.mem_cons.mp hx with e | hx
    · subst e
      refine (ax_XF_lt (x := 73) (Nat.le_of_ble_eq_true rfl)).mpr ?_
      show pz7 (pz_gt (ρ' 0)) (pz_gN (ρ' 0)) ((ρ' 3) / 4) 3
      rw [q0, h2]
      rw [pz_41]
      exact st.2
    rcases List.mem_cons.mp hx with e | hx
    · subst e
      refine (ax_XF_bi (o := 30) (by decide)).mpr (Or.inr ⟨rfl, ?_⟩)
      show ρ' 1 < ρ' 3
      rw [q1, h2]
      omega
    cases List.mem_singleton.mp hx
    refine (ax_XF_lt (x := 98) (Nat.le_of_ble_eq_true rfl)).mpr ?_
    show (ρ' 3) / 4 = (ρ' 1) / 4 + 1
    rw [q1, h2]
    rw [pz_41])
  exact ⟨(fun y hy => by cases hy), _, List.mem_cons_self, ρ', h1, h2⟩

theorem axq_rs5 : ax_RO ax_wC ax_XC axu_rs5 := by
  intro ρ hp hE hT
  have j0 : ρ 0 % 4 = 1 := pz_gj hE 0 (Nat.le_of_ble_eq_true rfl) rfl
  have j1 : ρ 1 % 4 = 1 := pz_gj hE 1 (Nat.le_of_ble_eq_true rfl) rfl
  obtain ⟨i2a, i2b, i2c, i2d⟩ := pz_gi hE 2 2147483707 2147483707 (Nat.le_of_ble_eq_true rfl) rfl
  have c_kind : ay_at hp 8 7 = some (ρ 2) := ay_gfj hE 42 28 11 8 7 ax_m3 (ax_vlq rfl rfl) (ax_vlj rfl rfl)
  obtain ⟨-, -, -, -, F50⟩ : ay_ex hp 8 ∧ ay_ex hp 10 ∧ ay_ex hp 11 ∧ ay_ex hp 12 ∧ pz_x50 (ρ 0) (ρ 1) (ay_at hp 8 5) (ay_at hp 8 6) (ay_at hp 8 7) (ay_at hp 8 8) (ay_at hp 10 0) (ay_at hp 10 1) (ay_at hp 10 2) (ay_at hp 10 3) (ay_at hp 10 4) (ay_at hp 8 9) (ay_at hp 8 11) (ay_at hp 8 10) (ay_at hp 8 3) (ay_at hp 8 4) (ay_at hp 11) (ay_at hp 12) := (ax_XF_lt (x := 50) (Nat.le_of_ble_eq_true rfl)).mp (ax_gx hE (50, [3, 7]) ax_m0)
  rw [c_kind] at F50
  have F79 : pz7 (pz_gt (ρ 0)) (pz_gN (ρ 0)) ((ρ 1) / 4) 9 := (ax_XF_lt (x := 79) (Nat.le_of_ble_eq_true rfl)).mp (ax_gx hE (79, [3, 7]) ax_m1)
  have F90 : (pz90 (pz_gt (ρ 0)) (pz_gN (ρ 0)) ((ρ 1) / 4) ((5) / 4) ∧ 1 ≤ (5) / 4) := (ax_XF_lt (x := 90) (Nat.le_of_ble_eq_true rfl)).mp (ax_gx hE (90, [3, 7, 5]) ax_m2)
  have st := pq_rs5 F50 F79 F90.1 (show ρ 2 / 4 = 59 by omega)
  obtain ⟨ρ', h1, h2⟩ := pz_pn1 (K := ρ 1 / 4 + 1) (xf := [(53, [3, 15]), (73, [3, 15]), (1030, [7, 15]), (98, [7, 15])]) hE (by decide) (fun ρ' h1 h2 x hx => by
    have q0 : ρ' 0 = ρ 0 := h1 0 (by decide)
    have q1 : ρ' 1 = ρ 1 := h1 1 (by decide)
    have q2 : ρ' 2 = ρ 2 := h1 2 (by decide)
    rcases List.mem_cons.mp hx with e | hx
    · subst e
      refine (ax_XF_lt (x := 53) (Nat.le_of_ble_eq_true rfl)).mpr ?_
      show ay_ex hp 8 ∧ ay_ex hp 10 ∧ ay_ex hp 11 ∧ ay_ex hp 12 ∧ pz_x53 (ρ' 0) (ρ' 3) (ay_at hp 8 5) (ay_at hp 10 0) (ay_at hp 10 1) (ay_at hp 10 2) (ay_at hp 10 3) (ay_at hp 10 4) (ay_at hp 8 9) (ay_at hp 8 11) (ay_at hp 8 10) (ay_at hp 8 3) (ay_at hp 8 4) (ay_at hp 11) (ay_at hp 12)
      rw [q0, h2]
      exact ⟨(ax_cellT hT (q := 8) (g := 2) rfl), (ax_cellT hT (q := 10) (g := 1) rfl), (ax_cellT hT (q := 11) (g := 14) rfl), (ax_cellT hT (q := 12) (g := 15) rfl), pz_53 (pz_41 _) rfl st.1⟩
    rcases List.mem_cons.mp hx with e | hx
    · subst e
      refine (ax_XF_lt (x := 73) (Nat.le_of_ble_eq_true rfl)).mpr ?_
      show pz7 (pz_gt (ρ' 0)) (pz_gN (ρ' 0)) ((ρ' 3) / 4) 3
      rw [q0, h2]
      rw [pz_41]
      exact st.2
    rcases List.mem_cons.mp hx with e | hx
    · subst e
      refine (ax_XF_bi (o := 30) (by decide)).mpr (Or.inr ⟨rfl, ?_⟩)
      show ρ' 1 < ρ' 3
      rw [q1, h2]
      omega
    cases List.mem_singleton.mp hx
    refine (ax_XF_lt (x := 98) (Nat.le_of_ble_eq_true rfl)).mpr ?_
    show (ρ' 3) / 4 = (ρ' 1) / 4 + 1
    rw [q1, h2]
    rw [pz_41])
  exact ⟨(fun y hy => by cases hy), _, List.mem_cons_self, ρ', h1, h2⟩

theorem axq_rs6 : ax_RO ax_wC ax_XC axu_rs6 := by
  intro ρ hp hE hT
  have j0 : ρ 0 % 4 = 1 := pz_gj hE 0 (Nat.le_of_ble_eq_true rfl) rfl
  have j1 : ρ 1 % 4 = 1 := pz_gj hE 1 (Nat.le_of_ble_eq_true rfl) rfl
  have j2 : ρ 2 % 4 = 1 := pz_gj hE 2 (Nat.le_of_ble_eq_true rfl) rfl
  have j3 : ρ 3 % 4 = 1 := pz_gj hE 3 (Nat.le_of_ble_eq_true rfl) rfl
  obtain ⟨i4a, i4b, i4c, i4d⟩ := pz_gi hE 4 2147483689 2147483689 (Nat.le_of_ble_eq_true rfl) rfl
  have c_kind : ay_at hp 8 7 = some (ρ 4) := ay_gfj hE 42 28 19 8 7 ax_m4 (ax_vlq rfl rfl) (ax_vlj rfl rfl)
  obtain ⟨-, -, -, -, F50⟩ : ay_ex hp 8 ∧ ay_ex hp 10 ∧ ay_ex hp 11 ∧ ay_ex hp 12 ∧ pz_x50 (ρ 0) (ρ 1) (ay_at hp 8 5) (ay_at hp 8 6) (ay_at hp 8 7) (ay_at hp 8 8) (ay_at hp 10 0) (ay_at hp 10 1) (ay_at hp 10 2) (ay_at hp 10 3) (ay_at hp 10 4) (ay_at hp 8 9) (ay_at hp 8 11) (ay_at hp 8 10) (ay_at hp 8 3) (ay_at hp 8 4) (ay_at hp 11) (ay_at hp 12) := (ax_XF_lt (x := 50) (Nat.le_of_ble_eq_true rfl)).mp (ax_gx hE (50, [3, 7]) ax_m0)
  rw [c_kind] at F50
  have F79 : pz7 (pz_gt (ρ 0)) (pz_gN (ρ 0)) ((ρ 1) / 4) 9 := (ax_XF_lt (x := 79) (Nat.le_of_ble_eq_true rfl)).mp (ax_gx hE (79, [3, 7]) ax_m1)
  have F90 : (pz90 (pz_gt (ρ 0)) (pz_gN (ρ 0)) ((ρ 1) / 4) ((ρ 2) / 4) ∧ 1 ≤ (ρ 2) / 4) := (ax_XF_lt (x := 90) (Nat.le_of_ble_eq_true rfl)).mp (ax_gx hE (90, [3, 7, 11]) ax_m2)
  have F93 : (ρ 2) / 4 = 2 * ((ρ 3) / 4) := (ax_XF_lt (x := 93) (Nat.le_of_ble_eq_true rfl)).mp (ax_gx hE (93, [11, 15]) ax_m3)
  have st := pq_rs6 F50 F79 F90.1 F93 (by have := F90.2; omega) (show ρ 4 / 4 = 41 by omega)
  obtain ⟨ρ', h1, h2⟩ := pz_pn2 (K := ρ 1 / 4 + 1) (L := pz_strip (ρ 3 / 4)) (xf := [(53, [3, 23]), (79, [3, 23]), (90, [3, 23, 27]), (92, [15, 27]), (1030, [7, 23]), (98, [7, 23])]) hE (by decide) (fun ρ' h1 h2 h3 x hx => by
    have q0 : ρ' 0 = ρ 0 := h1 0 (by decide)
    have q1 : ρ' 1 = ρ 1 := h1 1 (by decide)
    have q2 : ρ' 2 = ρ 2 := h1 2 (by decide)
    have q3 : ρ' 3 = ρ 3 := h1 3 (by decide)
    have q4 : ρ' 4 = ρ 4 := h1 4 (by decide)
    rcases List.mem_cons.mp hx with e | hx
    · subst e
      refine (ax_XF_lt (x := 53) (Nat.le_of_ble_eq_true rfl)).mpr ?_
      show ay_ex hp 8 ∧ ay_ex hp 10 ∧ ay_ex hp 11 ∧ ay_ex hp 12 ∧ pz_x53 (ρ' 0) (ρ' 5) (ay_at hp 8 5) (ay_at hp 10 0) (ay_at hp 10 1) (ay_at hp 10 2) (ay_at hp 10 3) (ay_at hp 10 4) (ay_at hp 8 9) (ay_at hp 8 11) (ay_at hp 8 10) (ay_at hp 8 3) (ay_at hp 8 4) (ay_at hp 11) (ay_at hp 12)
      rw [q0, h2]
      exact ⟨(ax_cellT hT (q := 8) (g := 2) rfl), (ax_cellT hT (q := 10) (g := 1) rfl), (ax_cellT hT (q := 11) (g := 14) rfl), (ax_cellT hT (q := 12) (g := 15) rfl), pz_53 (pz_41 _) rfl st.1⟩
    rcases List.mem_cons.mp hx with e | hx
    · subst e
      refine (ax_XF_lt (x := 79) (Nat.le_of_ble_eq_true rfl)).mpr ?_
      show pz7 (pz_gt (ρ' 0)) (pz_gN (ρ' 0)) ((ρ' 5) / 4) 9
      rw [q0, h2]
      rw [pz_41]
      exact st.2.1
    rcases List.mem_cons.mp hx with e | hx
    · subst e
      refine (ax_XF_lt (x := 90) (Nat.le_of_ble_eq_true rfl)).mpr ?_
      show (pz90 (pz_gt (ρ' 0)) (pz_gN (ρ' 0)) ((ρ' 5) / 4) ((ρ' 6) / 4) ∧ 1 ≤ (ρ' 6) / 4)
      rw [q0, h2, h3]
      rw [pz_41, pz_41]
      exact ⟨st.2.2, pz_strip_1 (by have := F90.2; omega)⟩
    rcases List.mem_cons.mp hx with e | hx
    · subst e
      refine (ax_XF_lt (x := 92) (Nat.le_of_ble_eq_true rfl)).mpr ?_
      show pz_strip ((ρ' 3) / 4) = (ρ' 6) / 4
      rw [q3, h3]
      rw [pz_41]
    rcases List.mem_cons.mp hx with e | hx
    · subst e
      refine (ax_XF_bi (o := 30) (by decide)).mpr (Or.inr ⟨rfl, ?_⟩)
      show ρ' 1 < ρ' 5
      rw [q1, h2]
      omega
    cases List.mem_singleton.mp hx
    refine (ax_XF_lt (x := 98) (Nat.le_of_ble_eq_true rfl)).mpr ?_
    show (ρ' 5) / 4 = (ρ' 1) / 4 + 1
    rw [q1, h2]
    rw [pz_41])
  exact ⟨(fun y hy => by cases hy), _, List.mem_cons_self, ρ', h1, h2⟩

theorem axq_uk_1 : ax_RO ax_wC ax_XC axu_uk_1 := by
  intro ρ hp hE hT
  have j0 : ρ 0 % 4 = 1 := pz_gj hE 0 (Nat.le_of_ble_eq_true rfl) rfl
  have j1 : ρ 1 % 4 = 1 := pz_gj hE 1 (Nat.le_of_ble_eq_true rfl) rfl
  obtain ⟨i2a, i2b, i2c, i2d⟩ := pz_gi hE 2 2147483650 2147483650 (Nat.le_of_ble_eq_true rfl) rfl
  have c_kind : ay_at hp 8 7 = some (ρ 2) := ay_gfj hE 42 28 11 8 7 ax_m1 (ax_vlq rfl rfl) (ax_vlj rfl rfl)
  obtain ⟨-, -, -, -, F50⟩ : ay_ex hp 8 ∧ ay_ex hp 10 ∧ ay_ex hp 11 ∧ ay_ex hp 12 ∧ pz_x50 (ρ 0) (ρ 1) (ay_at hp 8 5) (ay_at hp 8 6) (ay_at hp 8 7) (ay_at hp 8 8) (ay_at hp 10 0) (ay_at hp 10 1) (ay_at hp 10 2) (ay_at hp 10 3) (ay_at hp 10 4) (ay_at hp 8 9) (ay_at hp 8 11) (ay_at hp 8 10) (ay_at hp 8 3) (ay_at hp 8 4) (ay_at hp 11) (ay_at hp 12) := (ax_XF_lt (x := 50) (Nat.le_of_ble_eq_true rfl)).mp (ax_gx hE (50, [3, 7]) ax_m0)
  rw [c_kind] at F50
  refine ⟨(fun y hy => by cases hy), _, List.mem_cons_self, ρ, fun _ _ => rfl, ax_px hE rfl (fun y hy => ?_)⟩
  cases List.mem_singleton.mp hy
  refine (ax_XF_lt (x := 106) (Nat.le_of_ble_eq_true rfl)).mpr ?_
  show pz106 (pz_gt (ρ 0)) (pz_gN (ρ 0)) ((ρ 1) / 4) ((4) / 4)
  have kd : ρ 2 / 4 = pz_kd (pz_gt (ρ 0)) (pz_gN (ρ 0)) (pz_p (pz_cf (pz_gt (ρ 0)) (pz_gN (ρ 0)) (ρ 1 / 4))) := F50.2.2.1
  exact Or.inl ⟨rfl, by omega⟩

theorem axq_uk_40 : ax_RO ax_wC ax_XC axu_uk_40 := by
  intro ρ hp hE hT
  have j0 : ρ 0 % 4 = 1 := pz_gj hE 0 (Nat.le_of_ble_eq_true rfl) rfl
  have j1 : ρ 1 % 4 = 1 := pz_gj hE 1 (Nat.le_of_ble_eq_true rfl) rfl
  obtain ⟨i2a, i2b, i2c, i2d⟩ := pz_gi hE 2 2147483688 2147483688 (Nat.le_of_ble_eq_true rfl) rfl
  have c_kind : ay_at hp 8 7 = some (ρ 2) := ay_gfj hE 42 28 11 8 7 ax_m1 (ax_vlq rfl rfl) (ax_vlj rfl rfl)
  obtain ⟨-, -, -, -, F50⟩ : ay_ex hp 8 ∧ ay_ex hp 10 ∧ ay_ex hp 11 ∧ ay_ex hp 12 ∧ pz_x50 (ρ 0) (ρ 1) (ay_at hp 8 5) (ay_at hp 8 6) (ay_at hp 8 7) (ay_at hp 8 8) (ay_at hp 10 0) (ay_at hp 10 1) (ay_at hp 10 2) (ay_at hp 10 3) (ay_at hp 10 4) (ay_at hp 8 9) (ay_at hp 8 11) (ay_at hp 8 10) (ay_at hp 8 3) (ay_at hp 8 4) (ay_at hp 11) (ay_at hp 12) := (ax_XF_lt (x := 50) (Nat.le_of_ble_eq_true rfl)).mp (ax_gx hE (50, [3, 7]) ax_m0)
  rw [c_kind] at F50
  refine ⟨(fun y hy => by cases hy), _, List.mem_cons_self, ρ, fun _ _ => rfl, ax_px hE rfl (fun y hy => ?_)⟩
  cases List.mem_singleton.mp hy
  refine (ax_XF_lt (x := 106) (Nat.le_of_ble_eq_true rfl)).mpr ?_
  show pz106 (pz_gt (ρ 0)) (pz_gN (ρ 0)) ((ρ 1) / 4) ((160) / 4)
  have kd : ρ 2 / 4 = pz_kd (pz_gt (ρ 0)) (pz_gN (ρ 0)) (pz_p (pz_cf (pz_gt (ρ 0)) (pz_gN (ρ 0)) (ρ 1 / 4))) := F50.2.2.1
  exact Or.inr (Or.inl ⟨rfl, by omega⟩)

theorem axq_uk_5 : ax_RO ax_wC ax_XC axu_uk_5 := by
  intro ρ hp hE hT
  have j0 : ρ 0 % 4 = 1 := pz_gj hE 0 (Nat.le_of_ble_eq_true rfl) rfl
  have j1 : ρ 1 % 4 = 1 := pz_gj hE 1 (Nat.le_of_ble_eq_true rfl) rfl
  obtain ⟨i2a, i2b, i2c, i2d⟩ := pz_gi hE 2 2147483693 2147483693 (Nat.le_of_ble_eq_true rfl) rfl
  have c_kind : ay_at hp 8 7 = some (ρ 2) := ay_gfj hE 42 28 11 8 7 ax_m1 (ax_vlq rfl rfl) (ax_vlj rfl rfl)
  obtain ⟨-, -, -, -, F50⟩ : ay_ex hp 8 ∧ ay_ex hp 10 ∧ ay_ex hp 11 ∧ ay_ex hp 12 ∧ pz_x50 (ρ 0) (ρ 1) (ay_at hp 8 5) (ay_at hp 8 6) (ay_at hp 8 7) (ay_at hp 8 8) (ay_at hp 10 0) (ay_at hp 10 1) (ay_at hp 10 2) (ay_at hp 10 3) (ay_at hp 10 4) (ay_at hp 8 9) (ay_at hp 8 11) (ay_at hp 8 10) (ay_at hp 8 3) (ay_at hp 8 4) (ay_at hp 11) (ay_at hp 12) := (ax_XF_lt (x := 50) (Nat.le_of_ble_eq_true rfl)).mp (ax_gx hE (50, [3, 7]) ax_m0)
  rw [c_kind] at F50
  refine ⟨(fun y hy => by cases hy), _, List.mem_cons_self, ρ, fun _ _ => rfl, ax_px hE rfl (fun y hy => ?_)⟩
  cases List.mem_singleton.mp hy
  refine (ax_XF_lt (x := 106) (Nat.le_of_ble_eq_true rfl)).mpr ?_
  show pz106 (pz_gt (ρ 0)) (pz_gN (ρ 0)) ((ρ 1) / 4) ((20) / 4)
  have kd : ρ 2 / 4 = pz_kd (pz_gt (ρ 0)) (pz_gN (ρ 0)) (pz_p (pz_cf (pz_gt (ρ 0)) (pz_gN (ρ 0)) (ρ 1 / 4))) := F50.2.2.1
  exact Or.inr (Or.inr (Or.inl ⟨rfl, by omega⟩))

theorem axq_uk_2 : ax_RO ax_wC ax_XC axu_uk_2 := by
  intro ρ hp hE hT
  have j0 : ρ 0 % 4 = 1 := pz_gj hE 0 (Nat.le_of_ble_eq_true rfl) rfl
  have j1 : ρ 1 % 4 = 1 := pz_gj hE 1 (Nat.le_of_ble_eq_true rfl) rfl
  obtain ⟨-, -, -, -, F50⟩ : ay_ex hp 8 ∧ ay_ex hp 10 ∧ ay_ex hp 11 ∧ ay_ex hp 12 ∧ pz_x50 (ρ 0) (ρ 1) (ay_at hp 8 5) (ay_at hp 8 6) (ay_at hp 8 7) (ay_at hp 8 8) (ay_at hp 10 0) (ay_at hp 10 1) (ay_at hp 10 2) (ay_at hp 10 3) (ay_at hp 10 4) (ay_at hp 8 9) (ay_at hp 8 11) (ay_at hp 8 10) (ay_at hp 8 3) (ay_at hp 8 4) (ay_at hp 11) (ay_at hp 12) := (ax_XF_lt (x := 50) (Nat.le_of_ble_eq_true rfl)).mp (ax_gx hE (50, [3, 7]) ax_m0)
  have F60 : pz60 (pz_gt (ρ 0)) (pz_gN (ρ 0)) ((ρ 1) / 4) ((4022) / 4 - 1000) := (ax_XF_lt (x := 60) (Nat.le_of_ble_eq_true rfl)).mp (ax_gx hE (60, [3, 7, 4022]) ax_m1)
  refine ⟨(fun y hy => by cases hy), _, List.mem_cons_self, ρ, fun _ _ => rfl, ax_px hE rfl (fun y hy => ?_)⟩
  cases List.mem_singleton.mp hy
  refine (ax_XF_lt (x := 106) (Nat.le_of_ble_eq_true rfl)).mpr ?_
  show pz106 (pz_gt (ρ 0)) (pz_gN (ρ 0)) ((ρ 1) / 4) ((8) / 4)
  exact Or.inr (Or.inr (Or.inr (Or.inl ⟨pz_wd1 F60, Or.inl ⟨rfl, F60⟩⟩)))

theorem axq_uk_3 : ax_RO ax_wC ax_XC axu_uk_3 := by
  intro ρ hp hE hT
  have j0 : ρ 0 % 4 = 1 := pz_gj hE 0 (Nat.le_of_ble_eq_true rfl) rfl
  have j1 : ρ 1 % 4 = 1 := pz_gj hE 1 (Nat.le_of_ble_eq_true rfl) rfl
  obtain ⟨-, -, -, -, F50⟩ : ay_ex hp 8 ∧ ay_ex hp 10 ∧ ay_ex hp 11 ∧ ay_ex hp 12 ∧ pz_x50 (ρ 0) (ρ 1) (ay_at hp 8 5) (ay_at hp 8 6) (ay_at hp 8 7) (ay_at hp 8 8) (ay_at hp 10 0) (ay_at hp 10 1) (ay_at hp 10 2) (ay_at hp 10 3) (ay_at hp 10 4) (ay_at hp 8 9) (ay_at hp 8 11) (ay_at hp 8 10) (ay_at hp 8 3) (ay_at hp 8 4) (ay_at hp 11) (ay_at hp 12) := (ax_XF_lt (x := 50) (Nat.le_of_ble_eq_true rfl)).mp (ax_gx hE (50, [3, 7]) ax_m0)
  have F60 : pz60 (pz_gt (ρ 0)) (pz_gN (ρ 0)) ((ρ 1) / 4) ((4026) / 4 - 1000) := (ax_XF_lt (x := 60) (Nat.le_of_ble_eq_true rfl)).mp (ax_gx hE (60, [3, 7, 4026]) ax_m1)
  refine ⟨(fun y hy => by cases hy), _, List.mem_cons_self, ρ, fun _ _ => rfl, ax_px hE rfl (fun y hy => ?_)⟩
  cases List.mem_singleton.mp hy
  refine (ax_XF_lt (x := 106) (Nat.le_of_ble_eq_true rfl)).mpr ?_
  show pz106 (pz_gt (ρ 0)) (pz_gN (ρ 0)) ((ρ 1) / 4) ((12) / 4)
  exact Or.inr (Or.inr (Or.inr (Or.inl ⟨pz_wd1 F60, Or.inr (Or.inl ⟨rfl, F60⟩)⟩)))

theorem axq_uk_4 : ax_RO ax_wC ax_XC axu_uk_4 := by
  intro ρ hp hE hT
  have j0 : ρ 0 % 4 = 1 := pz_gj hE 0 (Nat.le_of_ble_eq_true rfl) rfl
  have j1 : ρ 1 % 4 = 1 := pz_gj hE 1 (Nat.le_of_ble_eq_true rfl) rfl
  obtain ⟨-, -, -, -, F50⟩ : ay_ex hp 8 ∧ ay_ex hp 10 ∧ ay_ex hp 11 ∧ ay_ex hp 12 ∧ pz_x50 (ρ 0) (ρ 1) (ay_at hp 8 5) (ay_at hp 8 6) (ay_at hp 8 7) (ay_at hp 8 8) (ay_at hp 10 0) (ay_at hp 10 1) (ay_at hp 10 2) (ay_at hp 10 3) (ay_at hp 10 4) (ay_at hp 8 9) (ay_at hp 8 11) (ay_at hp 8 10) (ay_at hp 8 3) (ay_at hp 8 4) (ay_at hp 11) (ay_at hp 12) := (ax_XF_lt (x := 50) (Nat.le_of_ble_eq_true rfl)).mp (ax_gx hE (50, [3, 7]) ax_m0)
  have F60 : pz60 (pz_gt (ρ 0)) (pz_gN (ρ 0)) ((ρ 1) / 4) ((4030) / 4 - 1000) := (ax_XF_lt (x := 60) (Nat.le_of_ble_eq_true rfl)).mp (ax_gx hE (60, [3, 7, 4030]) ax_m1)
  refine ⟨(fun y hy => by cases hy), _, List.mem_cons_self, ρ, fun _ _ => rfl, ax_px hE rfl (fun y hy => ?_)⟩
  cases List.mem_singleton.mp hy
  refine (ax_XF_lt (x := 106) (Nat.le_of_ble_eq_true rfl)).mpr ?_
  show pz106 (pz_gt (ρ 0)) (pz_gN (ρ 0)) ((ρ 1) / 4) ((16) / 4)
  exact Or.inr (Or.inr (Or.inr (Or.inl ⟨pz_wd1 F60, Or.inr (Or.inr ⟨rfl, F60⟩)⟩)))

theorem axq_uk0a : ax_RO ax_wC ax_XC axu_uk0a := by
  intro ρ hp hE hT
  have j0 : ρ 0 % 4 = 1 := pz_gj hE 0 (Nat.le_of_ble_eq_true rfl) rfl
  have j1 : ρ 1 % 4 = 1 := pz_gj hE 1 (Nat.le_of_ble_eq_true rfl) rfl
  obtain ⟨i2a, i2b, i2c, i2d⟩ := pz_gi hE 2 0 2147483649 (Nat.le_of_ble_eq_true rfl) rfl
  have c_kind : ay_at hp 8 7 = some (ρ 2) := ay_gfj hE 42 28 11 8 7 ax_m1 (ax_vlq rfl rfl) (ax_vlj rfl rfl)
  obtain ⟨-, -, -, -, F50⟩ : ay_ex hp 8 ∧ ay_ex hp 10 ∧ ay_ex hp 11 ∧ ay_ex hp 12 ∧ pz_x50 (ρ 0) (ρ 1) (ay_at hp 8 5) (ay_at hp 8 6) (ay_at hp 8 7) (ay_at hp 8 8) (ay_at hp 10 0) (ay_at hp 10 1) (ay_at hp 10 2) (ay_at hp 10 3) (ay_at hp 10 4) (ay_at hp 8 9) (ay_at hp 8 11) (ay_at hp 8 10) (ay_at hp 8 3) (ay_at hp 8 4) (ay_at hp 11) (ay_at hp 12) := (ax_XF_lt (x := 50) (Nat.le_of_ble_eq_true rfl)).mp (ax_gx hE (50, [3, 7]) ax_m0)
  rw [c_kind] at F50
  have F61 : pz61 (pz_gt (ρ 0)) (pz_gN (ρ 0)) ((ρ 1) / 4) ((4022) / 4 - 1000) := (ax_XF_lt (x := 61) (Nat.le_of_ble_eq_true rfl)).mp (ax_gx hE (61, [3, 7, 4022]) ax_m2)
  have F61a : pz61 (pz_gt (ρ 0)) (pz_gN (ρ 0)) ((ρ 1) / 4) ((4026) / 4 - 1000) := (ax_XF_lt (x := 61) (Nat.le_of_ble_eq_true rfl)).mp (ax_gx hE (61, [3, 7, 4026]) ax_m3)
  have F61b : pz61 (pz_gt (ρ 0)) (pz_gN (ρ 0)) ((ρ 1) / 4) ((4030) / 4 - 1000) := (ax_XF_lt (x := 61) (Nat.le_of_ble_eq_true rfl)).mp (ax_gx hE (61, [3, 7, 4030]) ax_m4)
  refine ⟨(fun y hy => by cases hy), _, List.mem_cons_self, ρ, fun _ _ => rfl, ax_px hE rfl (fun y hy => ?_)⟩
  cases List.mem_singleton.mp hy
  refine (ax_XF_lt (x := 106) (Nat.le_of_ble_eq_true rfl)).mpr ?_
  show pz106 (pz_gt (ρ 0)) (pz_gN (ρ 0)) ((ρ 1) / 4) ((0) / 4)
  have kd : ρ 2 / 4 = pz_kd (pz_gt (ρ 0)) (pz_gN (ρ 0)) (pz_p (pz_cf (pz_gt (ρ 0)) (pz_gN (ρ 0)) (ρ 1 / 4))) := F50.2.2.1
  exact Or.inr (Or.inr (Or.inr (Or.inr ⟨rfl, by omega, by omega, by omega, F61, F61a, F61b⟩)))

theorem axq_uk0b : ax_RO ax_wC ax_XC axu_uk0b := by
  intro ρ hp hE hT
  have j0 : ρ 0 % 4 = 1 := pz_gj hE 0 (Nat.le_of_ble_eq_true rfl) rfl
  have j1 : ρ 1 % 4 = 1 := pz_gj hE 1 (Nat.le_of_ble_eq_true rfl) rfl
  obtain ⟨i2a, i2b, i2c, i2d⟩ := pz_gi hE 2 2147483651 2147483687 (Nat.le_of_ble_eq_true rfl) rfl
  have c_kind : ay_at hp 8 7 = some (ρ 2) := ay_gfj hE 42 28 11 8 7 ax_m1 (ax_vlq rfl rfl) (ax_vlj rfl rfl)
  obtain ⟨-, -, -, -, F50⟩ : ay_ex hp 8 ∧ ay_ex hp 10 ∧ ay_ex hp 11 ∧ ay_ex hp 12 ∧ pz_x50 (ρ 0) (ρ 1) (ay_at hp 8 5) (ay_at hp 8 6) (ay_at hp 8 7) (ay_at hp 8 8) (ay_at hp 10 0) (ay_at hp 10 1) (ay_at hp 10 2) (ay_at hp 10 3) (ay_at hp 10 4) (ay_at hp 8 9) (ay_at hp 8 11) (ay_at hp 8 10) (ay_at hp 8 3) (ay_at hp 8 4) (ay_at hp 11) (ay_at hp 12) := (ax_XF_lt (x := 50) (Nat.le_of_ble_eq_true rfl)).mp (ax_gx hE (50, [3, 7]) ax_m0)
  rw [c_kind] at F50
  have F61 : pz61 (pz_gt (ρ 0)) (pz_gN (ρ 0)) ((ρ 1) / 4) ((4022) / 4 - 1000) := (ax_XF_lt (x := 61) (Nat.le_of_ble_eq_true rfl)).mp (ax_gx hE (61, [3, 7, 4022]) ax_m2)
  have F61a : pz61 (pz_gt (ρ 0)) (pz_gN (ρ 0)) ((ρ 1) / 4) ((4026) / 4 - 1000) := (ax_XF_lt (x := 61) (Nat.le_of_ble_eq_true rfl)).mp (ax_gx hE (61, [3, 7, 4026]) ax_m3)
  have F61b : pz61 (pz_gt (ρ 0)) (pz_gN (ρ 0)) ((ρ 1) / 4) ((4030) / 4 - 1000) := (ax_XF_lt (x := 61) (Nat.le_of_ble_eq_true rfl)).mp (ax_gx hE (61, [3, 7, 4030]) ax_m4)
  refine ⟨(fun y hy => by cases hy), _, List.mem_cons_self, ρ, fun _ _ => rfl, ax_px hE rfl (fun y hy => ?_)⟩
  cases List.mem_singleton.mp hy
  refine (ax_XF_lt (x := 106) (Nat.le_of_ble_eq_true rfl)).mpr ?_
  show pz106 (pz_gt (ρ 0)) (pz_gN (ρ 0)) ((ρ 1) / 4) ((0) / 4)
  have kd : ρ 2 / 4 = pz_kd (pz_gt (ρ 0)) (pz_gN (ρ 0)) (pz_p (pz_cf (pz_gt (ρ 0)) (pz_gN (ρ 0)) (ρ 1 / 4))) := F50.2.2.1
  exact Or.inr (Or.inr (Or.inr (Or.inr ⟨rfl, by omega, by omega, by omega, F61, F61a, F61b⟩)))

theorem axq_uk0c : ax_RO ax_wC ax_XC axu_uk0c := by
  intro ρ hp hE hT
  have j0 : ρ 0 % 4 = 1 := pz_gj hE 0 (Nat.le_of_ble_eq_true rfl) rfl
  have j1 : ρ 1 % 4 = 1 := pz_gj hE 1 (Nat.le_of_ble_eq_true rfl) rfl
  obtain ⟨i2a, i2b, i2c, i2d⟩ := pz_gi hE 2 2147483689 2147483692 (Nat.le_of_ble_eq_true rfl) rfl
  have c_kind : ay_at hp 8 7 = some (ρ 2) := ay_gfj hE 42 28 11 8 7 ax_m1 (ax_vlq rfl rfl) (ax_vlj rfl rfl)
  obtain ⟨-, -, -, -, F50⟩ : ay_ex hp 8 ∧ ay_ex hp 10 ∧ ay_ex hp 11 ∧ ay_ex hp 12 ∧ pz_x50 (ρ 0) (ρ 1) (ay_at hp 8 5) (ay_at hp 8 6) (ay_at hp 8 7) (ay_at hp 8 8) (ay_at hp 10 0) (ay_at hp 10 1) (ay_at hp 10 2) (ay_at hp 10 3) (ay_at hp 10 4) (ay_at hp 8 9) (ay_at hp 8 11) (ay_at hp 8 10) (ay_at hp 8 3) (ay_at hp 8 4) (ay_at hp 11) (ay_at hp 12) := (ax_XF_lt (x := 50) (Nat.le_of_ble_eq_true rfl)).mp (ax_gx hE (50, [3, 7]) ax_m0)
  rw [c_kind] at F50
  have F61 : pz61 (pz_gt (ρ 0)) (pz_gN (ρ 0)) ((ρ 1) / 4) ((4022) / 4 - 1000) := (ax_XF_lt (x := 61) (Nat.le_of_ble_eq_true rfl)).mp (ax_gx hE (61, [3, 7, 4022]) ax_m2)
  have F61a : pz61 (pz_gt (ρ 0)) (pz_gN (ρ 0)) ((ρ 1) / 4) ((4026) / 4 - 1000) := (ax_XF_lt (x := 61) (Nat.le_of_ble_eq_true rfl)).mp (ax_gx hE (61, [3, 7, 4026]) ax_m3)
  have F61b : pz61 (pz_gt (ρ 0)) (pz_gN (ρ 0)) ((ρ 1) / 4) ((4030) / 4 - 1000) := (ax_XF_lt (x := 61) (Nat.le_of_ble_eq_true rfl)).mp (ax_gx hE (61, [3, 7, 4030]) ax_m4)
  refine ⟨(fun y hy => by cases hy), _, List.mem_cons_self, ρ, fun _ _ => rfl, ax_px hE rfl (fun y hy => ?_)⟩
  cases List.mem_singleton.mp hy
  refine (ax_XF_lt (x := 106) (Nat.le_of_ble_eq_true rfl)).mpr ?_
  show pz106 (pz_gt (ρ 0)) (pz_gN (ρ 0)) ((ρ 1) / 4) ((0) / 4)
  have kd : ρ 2 / 4 = pz_kd (pz_gt (ρ 0)) (pz_gN (ρ 0)) (pz_p (pz_cf (pz_gt (ρ 0)) (pz_gN (ρ 0)) (ρ 1 / 4))) := F50.2.2.1
  exact Or.inr (Or.inr (Or.inr (Or.inr ⟨rfl, by omega, by omega, by omega, F61, F61a, F61b⟩)))

theorem axq_uk0d : ax_RO ax_wC ax_XC axu_uk0d := by
  intro ρ hp hE hT
  have j0 : ρ 0 % 4 = 1 := pz_gj hE 0 (Nat.le_of_ble_eq_true rfl) rfl
  have j1 : ρ 1 % 4 = 1 := pz_gj hE 1 (Nat.le_of_ble_eq_true rfl) rfl
  obtain ⟨i2a, i2b, i2c, i2d⟩ := pz_gi hE 2 2147483694 4294967295 (Nat.le_of_ble_eq_true rfl) rfl
  have c_kind : ay_at hp 8 7 = some (ρ 2) := ay_gfj hE 42 28 11 8 7 ax_m1 (ax_vlq rfl rfl) (ax_vlj rfl rfl)
  obtain ⟨-, -, -, -, F50⟩ : ay_ex hp 8 ∧ ay_ex hp 10 ∧ ay_ex hp 11 ∧ ay_ex hp 12 ∧ pz_x50 (ρ 0) (ρ 1) (ay_at hp 8 5) (ay_at hp 8 6) (ay_at hp 8 7) (ay_at hp 8 8) (ay_at hp 10 0) (ay_at hp 10 1) (ay_at hp 10 2) (ay_at hp 10 3) (ay_at hp 10 4) (ay_at hp 8 9) (ay_at hp 8 11) (ay_at hp 8 10) (ay_at hp 8 3) (ay_at hp 8 4) (ay_at hp 11) (ay_at hp 12) := (ax_XF_lt (x := 50) (Nat.le_of_ble_eq_true rfl)).mp (ax_gx hE (50, [3, 7]) ax_m0)
  rw [c_kind] at F50
  have F61 : pz61 (pz_gt (ρ 0)) (pz_gN (ρ 0)) ((ρ 1) / 4) ((4022) / 4 - 1000) := (ax_XF_lt (x := 61) (Nat.le_of_ble_eq_true rfl)).mp (ax_gx hE (61, [3, 7, 4022]) ax_m2)
  have F61a : pz61 (pz_gt (ρ 0)) (pz_gN (ρ 0)) ((ρ 1) / 4) ((4026) / 4 - 1000) := (ax_XF_lt (x := 61) (Nat.le_of_ble_eq_true rfl)).mp (ax_gx hE (61, [3, 7, 4026]) ax_m3)
  have F61b : pz61 (pz_gt (ρ 0)) (pz_gN (ρ 0)) ((ρ 1) / 4) ((4030) / 4 - 1000) := (ax_XF_lt (x := 61) (Nat.le_of_ble_eq_true rfl)).mp (ax_gx hE (61, [3, 7, 4030]) ax_m4)
  refine ⟨(fun y hy => by cases hy), _, List.mem_cons_self, ρ, fun _ _ => rfl, ax_px hE rfl (fun y hy => ?_)⟩
  cases List.mem_singleton.mp hy
  refine (ax_XF_lt (x := 106) (Nat.le_of_ble_eq_true rfl)).mpr ?_
  show pz106 (pz_gt (ρ 0)) (pz_gN (ρ 0)) ((ρ 1) / 4) ((0) / 4)
  have kd : ρ 2 / 4 = pz_kd (pz_gt (ρ 0)) (pz_gN (ρ 0)) (pz_p (pz_cf (pz_gt (ρ 0)) (pz_gN (ρ 0)) (ρ 1 / 4))) := F50.2.2.1
  exact Or.inr (Or.inr (Or.inr (Or.inr ⟨rfl, by omega, by omega, by omega, F61, F61a, F61b⟩)))

theorem axq_ru1_0 : ax_RO ax_wC ax_XC axu_ru1_0 := by
  intro ρ hp hE hT
  have j0 : ρ 0 % 4 = 1 := pz_gj hE 0 (Nat.le_of_ble_eq_true rfl) rfl
  have j1 : ρ 1 % 4 = 1 := pz_gj hE 1 (Nat.le_of_ble_eq_true rfl) rfl
  obtain ⟨-, -, -, -, F50⟩ : ay_ex hp 8 ∧ ay_ex hp 10 ∧ ay_ex hp 11 ∧ ay_ex hp 12 ∧ pz_x50 (ρ 0) (ρ 1) (ay_at hp 8 5) (ay_at hp 8 6) (ay_at hp 8 7) (ay_at hp 8 8) (ay_at hp 10 0) (ay_at hp 10 1) (ay_at hp 10 2) (ay_at hp 10 3) (ay_at hp 10 4) (ay_at hp 8 9) (ay_at hp 8 11) (ay_at hp 8 10) (ay_at hp 8 3) (ay_at hp 8 4) (ay_at hp 11) (ay_at hp 12) := (ax_XF_lt (x := 50) (Nat.le_of_ble_eq_true rfl)).mp (ax_gx hE (50, [3, 7]) ax_m0)
  have F78 : pz7 (pz_gt (ρ 0)) (pz_gN (ρ 0)) ((ρ 1) / 4) 8 := (ax_XF_lt (x := 78) (Nat.le_of_ble_eq_true rfl)).mp (ax_gx hE (78, [3, 7]) ax_m1)
  have F106 : pz106 (pz_gt (ρ 0)) (pz_gN (ρ 0)) ((ρ 1) / 4) ((0) / 4) := (ax_XF_lt (x := 106) (Nat.le_of_ble_eq_true rfl)).mp (ax_gx hE (106, [3, 7, 0]) ax_m2)
  refine ⟨(fun y hy => by cases hy), _, List.mem_cons_self, ρ, fun _ _ => rfl, ax_px hE rfl (fun y hy => ?_)⟩
  cases List.mem_singleton.mp hy
  refine (ax_XF_lt (x := 64) (Nat.le_of_ble_eq_true rfl)).mpr ?_
  show pz64 (pz_gt (ρ 0)) (pz_gN (ρ 0)) ((ρ 1) / 4) ((4) / 4)
  exact pq_ru1 F78 F106

theorem axq_ru2_0 : ax_RO ax_wC ax_XC axu_ru2_0 := by
  intro ρ hp hE hT
  have j0 : ρ 0 % 4 = 1 := pz_gj hE 0 (Nat.le_of_ble_eq_true rfl) rfl
  have j1 : ρ 1 % 4 = 1 := pz_gj hE 1 (Nat.le_of_ble_eq_true rfl) rfl
  obtain ⟨i2a, i2b, i2c, i2d⟩ := pz_gi hE 2 2147484648 2147583648 (Nat.le_of_ble_eq_true rfl) rfl
  have c_value : ay_at hp 8 8 = some (ρ 2) := ay_gfj hE 42 32 11 8 8 ax_m3 (ax_vlq rfl rfl) (ax_vlj rfl rfl)
  obtain ⟨-, -, -, -, F50⟩ : ay_ex hp 8 ∧ ay_ex hp 10 ∧ ay_ex hp 11 ∧ ay_ex hp 12 ∧ pz_x50 (ρ 0) (ρ 1) (ay_at hp 8 5) (ay_at hp 8 6) (ay_at hp 8 7) (ay_at hp 8 8) (ay_at hp 10 0) (ay_at hp 10 1) (ay_at hp 10 2) (ay_at hp 10 3) (ay_at hp 10 4) (ay_at hp 8 9) (ay_at hp 8 11) (ay_at hp 8 10) (ay_at hp 8 3) (ay_at hp 8 4) (ay_at hp 11) (ay_at hp 12) := (ax_XF_lt (x := 50) (Nat.le_of_ble_eq_true rfl)).mp (ax_gx hE (50, [3, 7]) ax_m0)
  rw [c_value] at F50
  have F78 : pz7 (pz_gt (ρ 0)) (pz_gN (ρ 0)) ((ρ 1) / 4) 8 := (ax_XF_lt (x := 78) (Nat.le_of_ble_eq_true rfl)).mp (ax_gx hE (78, [3, 7]) ax_m1)
  have F106 : pz106 (pz_gt (ρ 0)) (pz_gN (ρ 0)) ((ρ 1) / 4) ((4) / 4) := (ax_XF_lt (x := 106) (Nat.le_of_ble_eq_true rfl)).mp (ax_gx hE (106, [3, 7, 4]) ax_m2)
  refine ⟨(fun y hy => by cases hy), _, List.mem_cons_self, ρ, fun _ _ => rfl, ax_px hE rfl (fun y hy => ?_)⟩
  cases List.mem_singleton.mp hy
  refine (ax_XF_lt (x := 64) (Nat.le_of_ble_eq_true rfl)).mpr ?_
  show pz64 (pz_gt (ρ 0)) (pz_gN (ρ 0)) ((ρ 1) / 4) ((8) / 4)
  have k2 : pz_kd (pz_gt (ρ 0)) (pz_gN (ρ 0)) (pz_p (pz_cf (pz_gt (ρ 0)) (pz_gN (ρ 0)) (ρ 1 / 4))) = 2 := by
    rcases F106 with ⟨_, z⟩ | ⟨z, _⟩ | ⟨z, _⟩ | ⟨_, ⟨z, _⟩ | ⟨z, _⟩ | ⟨z, _⟩⟩ | ⟨z, _⟩
    · exact z
    all_goals (exfalso; revert z; decide)
  have kd := F50.2.2.1
  have vl := pz_mc (F50.2.2.2.1 (kd.trans k2))
  replace vl : (ρ 2 / 4 ≤ 1000 ∧ pz_vl (pz_gt (ρ 0)) (pz_gN (ρ 0)) (pz_p (pz_cf (pz_gt (ρ 0)) (pz_gN (ρ 0)) (ρ 1 / 4))) = ρ 2 / 4) ∨ (1000 < ρ 2 / 4 ∧ pz_vl (pz_gt (ρ 0)) (pz_gN (ρ 0)) (pz_p (pz_cf (pz_gt (ρ 0)) (pz_gN (ρ 0)) (ρ 1 / 4))) = 1000) := vl
  exact pq_ru2 F78 F106 (by omega)

theorem axq_ru3_0 : ax_RO ax_wC ax_XC axu_ru3_0 := by
  intro ρ hp hE hT
  have j0 : ρ 0 % 4 = 1 := pz_gj hE 0 (Nat.le_of_ble_eq_true rfl) rfl
  have j1 : ρ 1 % 4 = 1 := pz_gj hE 1 (Nat.le_of_ble_eq_true rfl) rfl
  obtain ⟨i2a, i2b, i2c, i2d⟩ := pz_gi hE 2 2147483648 2147484647 (Nat.le_of_ble_eq_true rfl) rfl
  have c_value : ay_at hp 8 8 = some (ρ 2) := ay_gfj hE 42 32 11 8 8 ax_m2 (ax_vlq rfl rfl) (ax_vlj rfl rfl)
  obtain ⟨-, -, -, -, F50⟩ : ay_ex hp 8 ∧ ay_ex hp 10 ∧ ay_ex hp 11 ∧ ay_ex hp 12 ∧ pz_x50 (ρ 0) (ρ 1) (ay_at hp 8 5) (ay_at hp 8 6) (ay_at hp 8 7) (ay_at hp 8 8) (ay_at hp 10 0) (ay_at hp 10 1) (ay_at hp 10 2) (ay_at hp 10 3) (ay_at hp 10 4) (ay_at hp 8 9) (ay_at hp 8 11) (ay_at hp 8 10) (ay_at hp 8 3) (ay_at hp 8 4) (ay_at hp 11) (ay_at hp 12) := (ax_XF_lt (x := 50) (Nat.le_of_ble_eq_true rfl)).mp (ax_gx hE (50, [3, 7]) ax_m0)
  rw [c_value] at F50
  have F106 : pz106 (pz_gt (ρ 0)) (pz_gN (ρ 0)) ((ρ 1) / 4) ((4) / 4) := (ax_XF_lt (x := 106) (Nat.le_of_ble_eq_true rfl)).mp (ax_gx hE (106, [3, 7, 4]) ax_m1)
  refine ⟨(fun y hy => by cases hy), _, List.mem_cons_self, ρ, fun _ _ => rfl, ax_px hE rfl (fun y hy => ?_)⟩
  cases List.mem_singleton.mp hy
  refine (ax_XF_lt (x := 107) (Nat.le_of_ble_eq_true rfl)).mpr ?_
  show pz107 (pz_gt (ρ 0)) (pz_gN (ρ 0)) ((ρ 1) / 4) ((4) / 4)
  have k2 : pz_kd (pz_gt (ρ 0)) (pz_gN (ρ 0)) (pz_p (pz_cf (pz_gt (ρ 0)) (pz_gN (ρ 0)) (ρ 1 / 4))) = 2 := by
    rcases F106 with ⟨_, z⟩ | ⟨z, _⟩ | ⟨z, _⟩ | ⟨_, ⟨z, _⟩ | ⟨z, _⟩ | ⟨z, _⟩⟩ | ⟨z, _⟩
    · exact z
    all_goals (exfalso; revert z; decide)
  have kd := F50.2.2.1
  have vl := pz_mc (F50.2.2.2.1 (kd.trans k2))
  replace vl : (ρ 2 / 4 ≤ 1000 ∧ pz_vl (pz_gt (ρ 0)) (pz_gN (ρ 0)) (pz_p (pz_cf (pz_gt (ρ 0)) (pz_gN (ρ 0)) (ρ 1 / 4))) = ρ 2 / 4) ∨ (1000 < ρ 2 / 4 ∧ pz_vl (pz_gt (ρ 0)) (pz_gN (ρ 0)) (pz_p (pz_cf (pz_gt (ρ 0)) (pz_gN (ρ 0)) (ρ 1 / 4))) = 1000) := vl
  exact ⟨F106, by decide, fun _ => by omega⟩

theorem axq_ru3c2_0 : ax_RO ax_wC ax_XC axu_ru3c2_0 := by
  intro ρ hp hE hT
  have j0 : ρ 0 % 4 = 1 := pz_gj hE 0 (Nat.le_of_ble_eq_true rfl) rfl
  have j1 : ρ 1 % 4 = 1 := pz_gj hE 1 (Nat.le_of_ble_eq_true rfl) rfl
  obtain ⟨-, -, -, -, F50⟩ : ay_ex hp 8 ∧ ay_ex hp 10 ∧ ay_ex hp 11 ∧ ay_ex hp 12 ∧ pz_x50 (ρ 0) (ρ 1) (ay_at hp 8 5) (ay_at hp 8 6) (ay_at hp 8 7) (ay_at hp 8 8) (ay_at hp 10 0) (ay_at hp 10 1) (ay_at hp 10 2) (ay_at hp 10 3) (ay_at hp 10 4) (ay_at hp 8 9) (ay_at hp 8 11) (ay_at hp 8 10) (ay_at hp 8 3) (ay_at hp 8 4) (ay_at hp 11) (ay_at hp 12) := (ax_XF_lt (x := 50) (Nat.le_of_ble_eq_true rfl)).mp (ax_gx hE (50, [3, 7]) ax_m0)
  have F106 : pz106 (pz_gt (ρ 0)) (pz_gN (ρ 0)) ((ρ 1) / 4) ((8) / 4) := (ax_XF_lt (x := 106) (Nat.le_of_ble_eq_true rfl)).mp (ax_gx hE (106, [3, 7, 8]) ax_m1)
  refine ⟨(fun y hy => by cases hy), _, List.mem_cons_self, ρ, fun _ _ => rfl, ax_px hE rfl (fun y hy => ?_)⟩
  cases List.mem_singleton.mp hy
  refine (ax_XF_lt (x := 107) (Nat.le_of_ble_eq_true rfl)).mpr ?_
  show pz107 (pz_gt (ρ 0)) (pz_gN (ρ 0)) ((ρ 1) / 4) ((8) / 4)
  exact ⟨F106, by decide, fun z => absurd z (by decide)⟩

theorem axq_ru3c3_0 : ax_RO ax_wC ax_XC axu_ru3c3_0 := by
  intro ρ hp hE hT
  have j0 : ρ 0 % 4 = 1 := pz_gj hE 0 (Nat.le_of_ble_eq_true rfl) rfl
  have j1 : ρ 1 % 4 = 1 := pz_gj hE 1 (Nat.le_of_ble_eq_true rfl) rfl
  obtain ⟨-, -, -, -, F50⟩ : ay_ex hp 8 ∧ ay_ex hp 10 ∧ ay_ex hp 11 ∧ ay_ex hp 12 ∧ pz_x50 (ρ 0) (ρ 1) (ay_at hp 8 5) (ay_at hp 8 6) (ay_at hp 8 7) (ay_at hp 8 8) (ay_at hp 10 0) (ay_at hp 10 1) (ay_at hp 10 2) (ay_at hp 10 3) (ay_at hp 10 4) (ay_at hp 8 9) (ay_at hp 8 11) (ay_at hp 8 10) (ay_at hp 8 3) (ay_at hp 8 4) (ay_at hp 11) (ay_at hp 12) := (ax_XF_lt (x := 50) (Nat.le_of_ble_eq_true rfl)).mp (ax_gx hE (50, [3, 7]) ax_m0)
  have F106 : pz106 (pz_gt (ρ 0)) (pz_gN (ρ 0)) ((ρ 1) / 4) ((12) / 4) := (ax_XF_lt (x := 106) (Nat.le_of_ble_eq_true rfl)).mp (ax_gx hE (106, [3, 7, 12]) ax_m1)
  refine ⟨(fun y hy => by cases hy), _, List.mem_cons_self, ρ, fun _ _ => rfl, ax_px hE rfl (fun y hy => ?_)⟩
  cases List.mem_singleton.mp hy
  refine (ax_XF_lt (x := 107) (Nat.le_of_ble_eq_true rfl)).mpr ?_
  show pz107 (pz_gt (ρ 0)) (pz_gN (ρ 0)) ((ρ 1) / 4) ((12) / 4)
  exact ⟨F106, by decide, fun z => absurd z (by decide)⟩

theorem axq_ru3c4_0 : ax_RO ax_wC ax_XC axu_ru3c4_0 := by
  intro ρ hp hE hT
  have j0 : ρ 0 % 4 = 1 := pz_gj hE 0 (Nat.le_of_ble_eq_true rfl) rfl
  have j1 : ρ 1 % 4 = 1 := pz_gj hE 1 (Nat.le_of_ble_eq_true rfl) rfl
  obtain ⟨-, -, -, -, F50⟩ : ay_ex hp 8 ∧ ay_ex hp 10 ∧ ay_ex hp 11 ∧ ay_ex hp 12 ∧ pz_x50 (ρ 0) (ρ 1) (ay_at hp 8 5) (ay_at hp 8 6) (ay_at hp 8 7) (ay_at hp 8 8) (ay_at hp 10 0) (ay_at hp 10 1) (ay_at hp 10 2) (ay_at hp 10 3) (ay_at hp 10 4) (ay_at hp 8 9) (ay_at hp 8 11) (ay_at hp 8 10) (ay_at hp 8 3) (ay_at hp 8 4) (ay_at hp 11) (ay_at hp 12) := (ax_XF_lt (x := 50) (Nat.le_of_ble_eq_true rfl)).mp (ax_gx hE (50, [3, 7]) ax_m0)
  have F106 : pz106 (pz_gt (ρ 0)) (pz_gN (ρ 0)) ((ρ 1) / 4) ((16) / 4) := (ax_XF_lt (x := 106) (Nat.le_of_ble_eq_true rfl)).mp (ax_gx hE (106, [3, 7, 16]) ax_m1)
  refine ⟨(fun y hy => by cases hy), _, List.mem_cons_self, ρ, fun _ _ => rfl, ax_px hE rfl (fun y hy => ?_)⟩
  cases List.mem_singleton.mp hy
  refine (ax_XF_lt (x := 107) (Nat.le_of_ble_eq_true rfl)).mpr ?_
  show pz107 (pz_gt (ρ 0)) (pz_gN (ρ 0)) ((ρ 1) / 4) ((16) / 4)
  exact ⟨F106, by decide, fun z => absurd z (by decide)⟩

theorem axq_ru3c5_0 : ax_RO ax_wC ax_XC axu_ru3c5_0 := by
  intro ρ hp hE hT
  have j0 : ρ 0 % 4 = 1 := pz_gj hE 0 (Nat.le_of_ble_eq_true rfl) rfl
  have j1 : ρ 1 % 4 = 1 := pz_gj hE 1 (Nat.le_of_ble_eq_true rfl) rfl
  obtain ⟨-, -, -, -, F50⟩ : ay_ex hp 8 ∧ ay_ex hp 10 ∧ ay_ex hp 11 ∧ ay_ex hp 12 ∧ pz_x50 (ρ 0) (ρ 1) (ay_at hp 8 5) (ay_at hp 8 6) (ay_at hp 8 7) (ay_at hp 8 8) (ay_at hp 10 0) (ay_at hp 10 1) (ay_at hp 10 2) (ay_at hp 10 3) (ay_at hp 10 4) (ay_at hp 8 9) (ay_at hp 8 11) (ay_at hp 8 10) (ay_at hp 8 3) (ay_at hp 8 4) (ay_at hp 11) (ay_at hp 12) := (ax_XF_lt (x := 50) (Nat.le_of_ble_eq_true rfl)).mp (ax_gx hE (50, [3, 7]) ax_m0)
  have F106 : pz106 (pz_gt (ρ 0)) (pz_gN (ρ 0)) ((ρ 1) / 4) ((20) / 4) := (ax_XF_lt (x := 106) (Nat.le_of_ble_eq_true rfl)).mp (ax_gx hE (106, [3, 7, 20]) ax_m1)
  refine ⟨(fun y hy => by cases hy), _, List.mem_cons_self, ρ, fun _ _ => rfl, ax_px hE rfl (fun y hy => ?_)⟩
  cases List.mem_singleton.mp hy
  refine (ax_XF_lt (x := 107) (Nat.le_of_ble_eq_true rfl)).mpr ?_
  show pz107 (pz_gt (ρ 0)) (pz_gN (ρ 0)) ((ρ 1) / 4) ((20) / 4)
  exact ⟨F106, by decide, fun z => absurd z (by decide)⟩

theorem axq_ru3c40_0 : ax_RO ax_wC ax_XC axu_ru3c40_0 := by
  intro ρ hp hE hT
  have j0 : ρ 0 % 4 = 1 := pz_gj hE 0 (Nat.le_of_ble_eq_true rfl) rfl
  have j1 : ρ 1 % 4 = 1 := pz_gj hE 1 (Nat.le_of_ble_eq_true rfl) rfl
  obtain ⟨-, -, -, -, F50⟩ : ay_ex hp 8 ∧ ay_ex hp 10 ∧ ay_ex hp 11 ∧ ay_ex hp 12 ∧ pz_x50 (ρ 0) (ρ 1) (ay_at hp 8 5) (ay_at hp 8 6) (ay_at hp 8 7) (ay_at hp 8 8) (ay_at hp 10 0) (ay_at hp 10 1) (ay_at hp 10 2) (ay_at hp 10 3) (ay_at hp 10 4) (ay_at hp 8 9) (ay_at hp 8 11) (ay_at hp 8 10) (ay_at hp 8 3) (ay_at hp 8 4) (ay_at hp 11) (ay_at hp 12) := (ax_XF_lt (x := 50) (Nat.le_of_ble_eq_true rfl)).mp (ax_gx hE (50, [3, 7]) ax_m0)
  have F106 : pz106 (pz_gt (ρ 0)) (pz_gN (ρ 0)) ((ρ 1) / 4) ((160) / 4) := (ax_XF_lt (x := 106) (Nat.le_of_ble_eq_true rfl)).mp (ax_gx hE (106, [3, 7, 160]) ax_m1)
  refine ⟨(fun y hy => by cases hy), _, List.mem_cons_self, ρ, fun _ _ => rfl, ax_px hE rfl (fun y hy => ?_)⟩
  cases List.mem_singleton.mp hy
  refine (ax_XF_lt (x := 107) (Nat.le_of_ble_eq_true rfl)).mpr ?_
  show pz107 (pz_gt (ρ 0)) (pz_gN (ρ 0)) ((ρ 1) / 4) ((160) / 4)
  exact ⟨F106, by decide, fun z => absurd z (by decide)⟩

theorem axq_ru4c1_0 : ax_RO ax_wC ax_XC axu_ru4c1_0 := by
  intro ρ hp hE hT
  have j0 : ρ 0 % 4 = 1 := pz_gj hE 0 (Nat.le_of_ble_eq_true rfl) rfl
  have j1 : ρ 1 % 4 = 1 := pz_gj hE 1 (Nat.le_of_ble_eq_true rfl) rfl
  obtain ⟨i2a, i2b, i2c, i2d⟩ := pz_gi hE 2 2147483688 2147483688 (Nat.le_of_ble_eq_true rfl) rfl
  have c_units : ay_at hp 10 4 = some (ρ 2) := ay_gfj hE 50 16 11 10 4 ax_m3 (ax_vlq rfl rfl) (ax_vlj rfl rfl)
  obtain ⟨-, -, -, -, F50⟩ : ay_ex hp 8 ∧ ay_ex hp 10 ∧ ay_ex hp 11 ∧ ay_ex hp 12 ∧ pz_x50 (ρ 0) (ρ 1) (ay_at hp 8 5) (ay_at hp 8 6) (ay_at hp 8 7) (ay_at hp 8 8) (ay_at hp 10 0) (ay_at hp 10 1) (ay_at hp 10 2) (ay_at hp 10 3) (ay_at hp 10 4) (ay_at hp 8 9) (ay_at hp 8 11) (ay_at hp 8 10) (ay_at hp 8 3) (ay_at hp 8 4) (ay_at hp 11) (ay_at hp 12) := (ax_XF_lt (x := 50) (Nat.le_of_ble_eq_true rfl)).mp (ax_gx hE (50, [3, 7]) ax_m0)
  rw [c_units] at F50
  have F78 : pz7 (pz_gt (ρ 0)) (pz_gN (ρ 0)) ((ρ 1) / 4) 8 := (ax_XF_lt (x := 78) (Nat.le_of_ble_eq_true rfl)).mp (ax_gx hE (78, [3, 7]) ax_m1)
  have F107 : pz107 (pz_gt (ρ 0)) (pz_gN (ρ 0)) ((ρ 1) / 4) ((4) / 4) := (ax_XF_lt (x := 107) (Nat.le_of_ble_eq_true rfl)).mp (ax_gx hE (107, [3, 7, 4]) ax_m2)
  refine ⟨(fun y hy => by cases hy), _, List.mem_cons_self, ρ, fun _ _ => rfl, ax_px hE rfl (fun y hy => ?_)⟩
  cases List.mem_singleton.mp hy
  refine (ax_XF_lt (x := 64) (Nat.le_of_ble_eq_true rfl)).mpr ?_
  show pz64 (pz_gt (ρ 0)) (pz_gN (ρ 0)) ((ρ 1) / 4) ((16) / 4)
  exact pq_ru4 F50 F78 F107 (show ρ 2 / 4 = 40 by omega)

theorem axq_ru6c1_0 : ax_RO ax_wC ax_XC axu_ru6c1_0 := by
  intro ρ hp hE hT
  have j0 : ρ 0 % 4 = 1 := pz_gj hE 0 (Nat.le_of_ble_eq_true rfl) rfl
  have j1 : ρ 1 % 4 = 1 := pz_gj hE 1 (Nat.le_of_ble_eq_true rfl) rfl
  have j2 : ρ 2 % 4 = 1 := pz_gj hE 2 (Nat.le_of_ble_eq_true rfl) rfl
  obtain ⟨i3a, i3b, i3c, i3d⟩ := pz_gi hE 3 2147483648 2147483687 (Nat.le_of_ble_eq_true rfl) rfl
  obtain ⟨i4a, i4b, i4c, i4d⟩ := pz_gi hE 4 0 4294967295 (Nat.le_of_ble_eq_true rfl) rfl
  have c_units : ay_at hp 10 4 = some (ρ 3) := ay_gfj hE 50 16 15 10 4 ax_m5 (ax_vlq rfl rfl) (ax_vlj rfl rfl)
  have s1 : (ρ 3 / 4 + 2147483648) % 4294967296 + (4 / 4 + 2147483648) % 4294967296 = (ρ 4 / 4 + 2147483648) % 4294967296 + 2147483648 := pz_gs hE 15 4 19 ax_m6
  obtain ⟨-, -, -, -, F50⟩ : ay_ex hp 8 ∧ ay_ex hp 10 ∧ ay_ex hp 11 ∧ ay_ex hp 12 ∧ pz_x50 (ρ 0) (ρ 1) (ay_at hp 8 5) (ay_at hp 8 6) (ay_at hp 8 7) (ay_at hp 8 8) (ay_at hp 10 0) (ay_at hp 10 1) (ay_at hp 10 2) (ay_at hp 10 3) (ay_at hp 10 4) (ay_at hp 8 9) (ay_at hp 8 11) (ay_at hp 8 10) (ay_at hp 8 3) (ay_at hp 8 4) (ay_at hp 11) (ay_at hp 12) := (ax_XF_lt (x := 50) (Nat.le_of_ble_eq_true rfl)).mp (ax_gx hE (50, [3, 7]) ax_m0)
  rw [c_units] at F50
  have F78 : pz7 (pz_gt (ρ 0)) (pz_gN (ρ 0)) ((ρ 1) / 4) 8 := (ax_XF_lt (x := 78) (Nat.le_of_ble_eq_true rfl)).mp (ax_gx hE (78, [3, 7]) ax_m1)
  have F107 : pz107 (pz_gt (ρ 0)) (pz_gN (ρ 0)) ((ρ 1) / 4) ((4) / 4) := (ax_XF_lt (x := 107) (Nat.le_of_ble_eq_true rfl)).mp (ax_gx hE (107, [3, 7, 4]) ax_m2)
  have F90 : (pz90 (pz_gt (ρ 0)) (pz_gN (ρ 0)) ((ρ 1) / 4) ((ρ 2) / 4) ∧ 1 ≤ (ρ 2) / 4) := (ax_XF_lt (x := 90) (Nat.le_of_ble_eq_true rfl)).mp (ax_gx hE (90, [3, 7, 11]) ax_m3)
  have F91 : pz_dp ((ρ 2) / 4) = (0) / 4 := (ax_XF_lt (x := 91) (Nat.le_of_ble_eq_true rfl)).mp (ax_gx hE (91, [11, 0]) ax_m4)
  have st := pq_ru6u F50 F78 F107 (by decide) (by decide) F90.1 (by rw [F91]; decide) (show ρ 3 / 4 ≤ 39 by omega)
  obtain ⟨ρ', h1, h2⟩ := pz_pn2 (K := ρ 1 / 4 + 1) (L := pz_strip (ρ 2 / 4)) (xf := [(553, [50, 16, 19, 3, 23]), (79, [3, 23]), (90, [3, 23, 27]), (92, [11, 27]), (1030, [7, 23]), (98, [7, 23])]) hE (by decide) (fun ρ' h1 h2 h3 x hx => by
    have q0 : ρ' 0 = ρ 0 := h1 0 (by decide)
    have q1 : ρ' 1 = ρ 1 := h1 1 (by decide)
    have q2 : ρ' 2 = ρ 2 := h1 2 (by decide)
    have q3 : ρ' 3 = ρ 3 := h1 3 (by decide)
    have q4 : ρ' 4 = ρ 4 := h1 4 (by decide)
    rcases List.mem_cons.mp hx with e | hx
    · subst e
      refine (ax_XF_wr (x := 53) (Nat.le_of_ble_eq_true rfl)).mpr ?_
      show ay_ex (ax_upd hp 50 (16) (ρ' 4)) 8 ∧ ay_ex (ax_upd hp 50 (16) (ρ' 4)) 10 ∧ ay_ex (ax_upd hp 50 (16) (ρ' 4)) 11 ∧ ay_ex (ax_upd hp 50 (16) (ρ' 4)) 12 ∧ pz_x53 (ρ' 0) (ρ' 5) (ay_at (ax_upd hp 50 (16) (ρ' 4)) 8 5) (ay_at (ax_upd hp 50 (16) (ρ' 4)) 10 0) (ay_at (ax_upd hp 50 (16) (ρ' 4)) 10 1) (ay_at (ax_upd hp 50 (16) (ρ' 4)) 10 2) (ay_at (ax_upd hp 50 (16) (ρ' 4)) 10 3) (ay_at (ax_upd hp 50 (16) (ρ' 4)) 10 4) (ay_at (ax_upd hp 50 (16) (ρ' 4)) 8 9) (ay_at (ax_upd hp 50 (16) (ρ' 4)) 8 11) (ay_at (ax_upd hp 50 (16) (ρ' 4)) 8 10) (ay_at (ax_upd hp 50 (16) (ρ' 4)) 8 3) (ay_at (ax_upd hp 50 (16) (ρ' 4)) 8 4) (ay_at (ax_upd hp 50 (16) (ρ' 4)) 11) (ay_at (ax_upd hp 50 (16) (ρ' 4)) 12)
      rw [q0, q4, h2]
      obtain ⟨o0, ho0⟩ := ay_some hT (q := 10) (g := 1) (n := 12) rfl rfl (j := 16 / 4) (Nat.le_of_ble_eq_true rfl)
      have u1 : ∀ q, q ≠ 10 → ay_at (ax_upd hp 50 16 (ρ 4)) q = ay_at hp q := fun q hq => funext (fun j => ay_upd_ne hT.1 hq j)
      have u2 : ∀ j, ay_at (ax_upd hp 50 16 (ρ 4)) 10 j = if j = 4 then some (ρ 4) else ay_at hp 10 j := fun j => ay_upd_eq hT.1 rfl ho0 j
      refine ⟨ay_ex_upd hT.1 (ax_cellT hT (q := 8) (g := 2) rfl), ay_ex_upd hT.1 (ax_cellT hT (q := 10) (g := 1) rfl), ay_ex_upd hT.1 (ax_cellT hT (q := 11) (g := 14) rfl), ay_ex_upd hT.1 (ax_cellT hT (q := 12) (g := 15) rfl), ?_⟩
      rw [u1 8 (Nat.ne_of_beq_eq_false rfl), u2 0, if_neg (show ¬ 0 = 4 from Nat.ne_of_beq_eq_false rfl), u2 1, if_neg (show ¬ 1 = 4 from Nat.ne_of_beq_eq_false rfl), u2 2, if_neg (show ¬ 2 = 4 from Nat.ne_of_beq_eq_false rfl), u2 3, if_neg (show ¬ 3 = 4 from Nat.ne_of_beq_eq_false rfl), u2 4, if_pos rfl, u1 11 (Nat.ne_of_beq_eq_false rfl), u1 12 (Nat.ne_of_beq_eq_false rfl)]
      have eu : ρ 4 / 4 = ρ 3 / 4 + 1 := by omega
      refine pz_53 (pz_41 _) rfl ?_
      show pz53 _ _ _ _ _ _ _ _ (ρ 4 / 4) _ _ _ _ _ _ _
      rw [eu]
      exact st.1
    rcases List.mem_cons.mp hx with e | hx
    · subst e
      refine (ax_XF_lt (x := 79) (Nat.le_of_ble_eq_true rfl)).mpr ?_
      show pz7 (pz_gt (ρ' 0)) (pz_gN (ρ' 0)) ((ρ' 5) / 4) 9
      rw [q0, h2]
      rw [pz_41]
      exact st.2.1
    rcases List.mem_cons.mp hx with e | hx
    · subst e
      refine (ax_XF_lt (x := 90) (Nat.le_of_ble_eq_true rfl)).mpr ?_
      show (pz90 (pz_gt (ρ' 0)) (pz_gN (ρ' 0)) ((ρ' 5) / 4) ((ρ' 6) / 4) ∧ 1 ≤ (ρ' 6) / 4)
      rw [q0, h2, h3]
      rw [pz_41, pz_41]
      exact ⟨st.2.2, pz_strip_1 F90.2⟩
    rcases List.mem_cons.mp hx with e | hx
    · subst e
      refine (ax_XF_lt (x := 92) (Nat.le_of_ble_eq_true rfl)).mpr ?_
      show pz_strip ((ρ' 2) / 4) = (ρ' 6) / 4
      rw [q2, h3]
      rw [pz_41]
    rcases List.mem_cons.mp hx with e | hx
    · subst e
      refine (ax_XF_bi (o := 30) (by decide)).mpr (Or.inr ⟨rfl, ?_⟩)
      show ρ' 1 < ρ' 5
      rw [q1, h2]
      omega
    cases List.mem_singleton.mp hx
    refine (ax_XF_lt (x := 98) (Nat.le_of_ble_eq_true rfl)).mpr ?_
    show (ρ' 5) / 4 = (ρ' 1) / 4 + 1
    rw [q1, h2]
    rw [pz_41])
  exact ⟨(fun y hy => by cases hy), _, List.mem_cons_self, ρ', h1, h2⟩

theorem axq_ru4c2_0 : ax_RO ax_wC ax_XC axu_ru4c2_0 := by
  intro ρ hp hE hT
  have j0 : ρ 0 % 4 = 1 := pz_gj hE 0 (Nat.le_of_ble_eq_true rfl) rfl
  have j1 : ρ 1 % 4 = 1 := pz_gj hE 1 (Nat.le_of_ble_eq_true rfl) rfl
  obtain ⟨i2a, i2b, i2c, i2d⟩ := pz_gi hE 2 2147483688 2147483688 (Nat.le_of_ble_eq_true rfl) rfl
  have c_units : ay_at hp 10 4 = some (ρ 2) := ay_gfj hE 50 16 11 10 4 ax_m3 (ax_vlq rfl rfl) (ax_vlj rfl rfl)
  obtain ⟨-, -, -, -, F50⟩ : ay_ex hp 8 ∧ ay_ex hp 10 ∧ ay_ex hp 11 ∧ ay_ex hp 12 ∧ pz_x50 (ρ 0) (ρ 1) (ay_at hp 8 5) (ay_at hp 8 6) (ay_at hp 8 7) (ay_at hp 8 8) (ay_at hp 10 0) (ay_at hp 10 1) (ay_at hp 10 2) (ay_at hp 10 3) (ay_at hp 10 4) (ay_at hp 8 9) (ay_at hp 8 11) (ay_at hp 8 10) (ay_at hp 8 3) (ay_at hp 8 4) (ay_at hp 11) (ay_at hp 12) := (ax_XF_lt (x := 50) (Nat.le_of_ble_eq_true rfl)).mp (ax_gx hE (50, [3, 7]) ax_m0)
  rw [c_units] at F50
  have F78 : pz7 (pz_gt (ρ 0)) (pz_gN (ρ 0)) ((ρ 1) / 4) 8 := (ax_XF_lt (x := 78) (Nat.le_of_ble_eq_true rfl)).mp (ax_gx hE (78, [3, 7]) ax_m1)
  have F107 : pz107 (pz_gt (ρ 0)) (pz_gN (ρ 0)) ((ρ 1) / 4) ((8) / 4) := (ax_XF_lt (x := 107) (Nat.le_of_ble_eq_true rfl)).mp (ax_gx hE (107, [3, 7, 8]) ax_m2)
  refine ⟨(fun y hy => by cases hy), _, List.mem_cons_self, ρ, fun _ _ => rfl, ax_px hE rfl (fun y hy => ?_)⟩
  cases List.mem_singleton.mp hy
  refine (ax_XF_lt (x := 64) (Nat.le_of_ble_eq_true rfl)).mpr ?_
  show pz64 (pz_gt (ρ 0)) (pz_gN (ρ 0)) ((ρ 1) / 4) ((16) / 4)
  exact pq_ru4 F50 F78 F107 (show ρ 2 / 4 = 40 by omega)

theorem axq_ru6c2_0 : ax_RO ax_wC ax_XC axu_ru6c2_0 := by
  intro ρ hp hE hT
  have j0 : ρ 0 % 4 = 1 := pz_gj hE 0 (Nat.le_of_ble_eq_true rfl) rfl
  have j1 : ρ 1 % 4 = 1 := pz_gj hE 1 (Nat.le_of_ble_eq_true rfl) rfl
  have j2 : ρ 2 % 4 = 1 := pz_gj hE 2 (Nat.le_of_ble_eq_true rfl) rfl
  obtain ⟨i3a, i3b, i3c, i3d⟩ := pz_gi hE 3 2147483648 2147483687 (Nat.le_of_ble_eq_true rfl) rfl
  obtain ⟨i4a, i4b, i4c, i4d⟩ := pz_gi hE 4 0 4294967295 (Nat.le_of_ble_eq_true rfl) rfl
  have c_units : ay_at hp 10 4 = some (ρ 3) := ay_gfj hE 50 16 15 10 4 ax_m5 (ax_vlq rfl rfl) (ax_vlj rfl rfl)
  have s1 : (ρ 3 / 4 + 2147483648) % 4294967296 + (4 / 4 + 2147483648) % 4294967296 = (ρ 4 / 4 + 2147483648) % 4294967296 + 2147483648 := pz_gs hE 15 4 19 ax_m6
  obtain ⟨-, -, -, -, F50⟩ : ay_ex hp 8 ∧ ay_ex hp 10 ∧ ay_ex hp 11 ∧ ay_ex hp 12 ∧ pz_x50 (ρ 0) (ρ 1) (ay_at hp 8 5) (ay_at hp 8 6) (ay_at hp 8 7) (ay_at hp 8 8) (ay_at hp 10 0) (ay_at hp 10 1) (ay_at hp 10 2) (ay_at hp 10 3) (ay_at hp 10 4) (ay_at hp 8 9) (ay_at hp 8 11) (ay_at hp 8 10) (ay_at hp 8 3) (ay_at hp 8 4) (ay_at hp 11) (ay_at hp 12) := (ax_XF_lt (x := 50) (Nat.le_of_ble_eq_true rfl)).mp (ax_gx hE (50, [3, 7]) ax_m0)
  rw [c_units] at F50
  have F78 : pz7 (pz_gt (ρ 0)) (pz_gN (ρ 0)) ((ρ 1) / 4) 8 := (ax_XF_lt (x := 78) (Nat.le_of_ble_eq_true rfl)).mp (ax_gx hE (78, [3, 7]) ax_m1)
  have F107 : pz107 (pz_gt (ρ 0)) (pz_gN (ρ 0)) ((ρ 1) / 4) ((8) / 4) := (ax_XF_lt (x := 107) (Nat.le_of_ble_eq_true rfl)).mp (ax_gx hE (107, [3, 7, 8]) ax_m2)
  have F90 : (pz90 (pz_gt (ρ 0)) (pz_gN (ρ 0)) ((ρ 1) / 4) ((ρ 2) / 4) ∧ 1 ≤ (ρ 2) / 4) := (ax_XF_lt (x := 90) (Nat.le_of_ble_eq_true rfl)).mp (ax_gx hE (90, [3, 7, 11]) ax_m3)
  have F91 : pz_dp ((ρ 2) / 4) = (0) / 4 := (ax_XF_lt (x := 91) (Nat.le_of_ble_eq_true rfl)).mp (ax_gx hE (91, [11, 0]) ax_m4)
  have st := pq_ru6u F50 F78 F107 (by decide) (by decide) F90.1 (by rw [F91]; decide) (show ρ 3 / 4 ≤ 39 by omega)
  obtain ⟨ρ', h1, h2⟩ := pz_pn2 (K := ρ 1 / 4 + 1) (L := pz_strip (ρ 2 / 4)) (xf := [(553, [50, 16, 19, 3, 23]), (79, [3, 23]), (90, [3, 23, 27]), (92, [11, 27]), (1030, [7, 23]), (98, [7, 23])]) hE (by decide) (fun ρ' h1 h2 h3 x hx => by
    have q0 : ρ' 0 = ρ 0 := h1 0 (by decide)
    have q1 : ρ' 1 = ρ 1 := h1 1 (by decide)
    have q2 : ρ' 2 = ρ 2 := h1 2 (by decide)
    have q3 : ρ' 3 = ρ 3 := h1 3 (by decide)
    have q4 : ρ' 4 = ρ 4 := h1 4 (by decide)
    rcases List.mem_cons.mp hx with e | hx
    · subst e
      refine (ax_XF_wr (x := 53) (Nat.le_of_ble_eq_true rfl)).mpr ?_
      show ay_ex (ax_upd hp 50 (16) (ρ' 4)) 8 ∧ ay_ex (ax_upd hp 50 (16) (ρ' 4)) 10 ∧ ay_ex (ax_upd hp 50 (16) (ρ' 4)) 11 ∧ ay_ex (ax_upd hp 50 (16) (ρ' 4)) 12 ∧ pz_x53 (ρ' 0) (ρ' 5) (ay_at (ax_upd hp 50 (16) (ρ' 4)) 8 5) (ay_at (ax_upd hp 50 (16) (ρ' 4)) 10 0) (ay_at (ax_upd hp 50 (16) (ρ' 4)) 10 1) (ay_at (ax_upd hp 50 (16) (ρ' 4)) 10 2) (ay_at (ax_upd hp 50 (16) (ρ' 4)) 10 3) (ay_at (ax_upd hp 50 (16) (ρ' 4)) 10 4) (ay_at (ax_upd hp 50 (16) (ρ' 4)) 8 9) (ay_at (ax_upd hp 50 (16) (ρ' 4)) 8 11) (ay_at (ax_upd hp 50 (16) (ρ' 4)) 8 10) (ay_at (ax_upd hp 50 (16) (ρ' 4)) 8 3) (ay_at (ax_upd hp 50 (16) (ρ' 4)) 8 4) (ay_at (ax_upd hp 50 (16) (ρ' 4)) 11) (ay_at (ax_upd hp 50 (16) (ρ' 4)) 12)
      rw [q0, q4, h2]
      obtain ⟨o0, ho0⟩ := ay_some hT (q := 10) (g := 1) (n := 12) rfl rfl (j := 16 / 4) (Nat.le_of_ble_eq_true rfl)
      have u1 : ∀ q, q ≠ 10 → ay_at (ax_upd hp 50 16 (ρ 4)) q = ay_at hp q := fun q hq => funext (fun j => ay_upd_ne hT.1 hq j)
      have u2 : ∀ j, ay_at (ax_upd hp 50 16 (ρ 4)) 10 j = if j = 4 then some (ρ 4) else ay_at hp 10 j := fun j => ay_upd_eq hT.1 rfl ho0 j
      refine ⟨ay_ex_upd hT.1 (ax_cellT hT (q := 8) (g := 2) rfl), ay_ex_upd hT.1 (ax_cellT hT (q := 10) (g := 1) rfl), ay_ex_upd hT.1 (ax_cellT hT (q := 11) (g := 14) rfl), ay_ex_upd hT.1 (ax_cellT hT (q := 12) (g := 15) rfl), ?_⟩
      rw [u1 8 (Nat.ne_of_beq_eq_false rfl), u2 0, if_neg (show ¬ 0 = 4 from Nat.ne_of_beq_eq_false rfl), u2 1, if_neg (show ¬ 1 = 4 from Nat.ne_of_beq_eq_false rfl), u2 2, if_neg (show ¬ 2 = 4 from Nat.ne_of_beq_eq_false rfl), u2 3, if_neg (show ¬ 3 = 4 from Nat.ne_of_beq_eq_false rfl), u2 4, if_pos rfl, u1 11 (Nat.ne_of_beq_eq_false rfl), u1 12 (Nat.ne_of_beq_eq_false rfl)]
      have eu : ρ 4 / 4 = ρ 3 / 4 + 1 := by omega
      refine pz_53 (pz_41 _) rfl ?_
      show pz53 _ _ _ _ _ _ _ _ (ρ 4 / 4) _ _ _ _ _ _ _
      rw [eu]
      exact st.1
    rcases List.mem_cons.mp hx with e | hx
    · subst e
      refine (ax_XF_lt (x := 79) (Nat.le_of_ble_eq_true rfl)).mpr ?_
      show pz7 (pz_gt (ρ' 0)) (pz_gN (ρ' 0)) ((ρ' 5) / 4) 9
      rw [q0, h2]
      rw [pz_41]
      exact st.2.1
    rcases List.mem_cons.mp hx with e | hx
    · subst e
      refine (ax_XF_lt (x := 90) (Nat.le_of_ble_eq_true rfl)).mpr ?_
      show (pz90 (pz_gt (ρ' 0)) (pz_gN (ρ' 0)) ((ρ' 5) / 4) ((ρ' 6) / 4) ∧ 1 ≤ (ρ' 6) / 4)
      rw [q0, h2, h3]
      rw [pz_41, pz_41]
      exact ⟨st.2.2, pz_strip_1 F90.2⟩
    rcases List.mem_cons.mp hx with e | hx
    · subst e
      refine (ax_XF_lt (x := 92) (Nat.le_of_ble_eq_true rfl)).mpr ?_
      show pz_strip ((ρ' 2) / 4) = (ρ' 6) / 4
      rw [q2, h3]
      rw [pz_41]
    rcases List.mem_cons.mp hx with e | hx
    · subst e
      refine (ax_XF_bi (o := 30) (by decide)).mpr (Or.inr ⟨rfl, ?_⟩)
      show ρ' 1 < ρ' 5
      rw [q1, h2]
      omega
    cases List.mem_singleton.mp hx
    refine (ax_XF_lt (x := 98) (Nat.le_of_ble_eq_true rfl)).mpr ?_
    show (ρ' 5) / 4 = (ρ' 1) / 4 + 1
    rw [q1, h2]
    rw [pz_41])
  exact ⟨(fun y hy => by cases hy), _, List.mem_cons_self, ρ', h1, h2⟩

theorem axq_ru4c3_0 : ax_RO ax_wC ax_XC axu_ru4c3_0 := by
  intro ρ hp hE hT
  have j0 : ρ 0 % 4 = 1 := pz_gj hE 0 (Nat.le_of_ble_eq_true rfl) rfl
  have j1 : ρ 1 % 4 = 1 := pz_gj hE 1 (Nat.le_of_ble_eq_true rfl) rfl
  obtain ⟨i2a, i2b, i2c, i2d⟩ := pz_gi hE 2 2147483688 2147483688 (Nat.le_of_ble_eq_true rfl) rfl
  have c_units : ay_at hp 10 4 = some (ρ 2) := ay_gfj hE 50 16 11 10 4 ax_m3 (ax_vlq rfl rfl) (ax_vlj rfl rfl)
  obtain ⟨-, -, -, -, F50⟩ : ay_ex hp 8 ∧ ay_ex hp 10 ∧ ay_ex hp 11 ∧ ay_ex hp 12 ∧ pz_x50 (ρ 0) (ρ 1) (ay_at hp 8 5) (ay_at hp 8 6) (ay_at hp 8 7) (ay_at hp 8 8) (ay_at hp 10 0) (ay_at hp 10 1) (ay_at hp 10 2) (ay_at hp 10 3) (ay_at hp 10 4) (ay_at hp 8 9) (ay_at hp 8 11) (ay_at hp 8 10) (ay_at hp 8 3) (ay_at hp 8 4) (ay_at hp 11) (ay_at hp 12) := (ax_XF_lt (x := 50) (Nat.le_of_ble_eq_true rfl)).mp (ax_gx hE (50, [3, 7]) ax_m0)
  rw [c_units] at F50
  have F78 : pz7 (pz_gt (ρ 0)) (pz_gN (ρ 0)) ((ρ 1) / 4) 8 := (ax_XF_lt (x := 78) (Nat.le_of_ble_eq_true rfl)).mp (ax_gx hE (78, [3, 7]) ax_m1)
  have F107 : pz107 (pz_gt (ρ 0)) (pz_gN (ρ 0)) ((ρ 1) / 4) ((12) / 4) := (ax_XF_lt (x := 107) (Nat.le_of_ble_eq_true rfl)).mp (ax_gx hE (107, [3, 7, 12]) ax_m2)
  refine ⟨(fun y hy => by cases hy), _, List.mem_cons_self, ρ, fun _ _ => rfl, ax_px hE rfl (fun y hy => ?_)⟩
  cases List.mem_singleton.mp hy
  refine (ax_XF_lt (x := 64) (Nat.le_of_ble_eq_true rfl)).mpr ?_
  show pz64 (pz_gt (ρ 0)) (pz_gN (ρ 0)) ((ρ 1) / 4) ((16) / 4)
  exact pq_ru4 F50 F78 F107 (show ρ 2 / 4 = 40 by omega)

theorem axq_ru6c3_0 : ax_RO ax_wC ax_XC axu_ru6c3_0 := by
  intro ρ hp hE hT
  have j0 : ρ 0 % 4 = 1 := pz_gj hE 0 (Nat.le_of_ble_eq_true rfl) rfl
  have j1 : ρ 1 % 4 = 1 := pz_gj hE 1 (Nat.le_of_ble_eq_true rfl) rfl
  have j2 : ρ 2 % 4 = 1 := pz_gj hE 2 (Nat.le_of_ble_eq_true rfl) rfl
  obtain ⟨i3a, i3b, i3c, i3d⟩ := pz_gi hE 3 2147483648 2147483687 (Nat.le_of_ble_eq_true rfl) rfl
  obtain ⟨i4a, i4b, i4c, i4d⟩ := pz_gi hE 4 0 4294967295 (Nat.le_of_ble_eq_true rfl) rfl
  have c_units : ay_at hp 10 4 = some (ρ 3) := ay_gfj hE 50 16 15 10 4 ax_m5 (ax_vlq rfl rfl) (ax_vlj rfl rfl)
  have s1 : (ρ 3 / 4 + 2147483648) % 4294967296 + (4 / 4 + 2147483648) % 4294967296 = (ρ 4 / 4 + 2147483648) % 4294967296 + 2147483648 := pz_gs hE 15 4 19 ax_m6
  obtain ⟨-, -, -, -, F50⟩ : ay_ex hp 8 ∧ ay_ex hp 10 ∧ ay_ex hp 11 ∧ ay_ex hp 12 ∧ pz_x50 (ρ 0) (ρ 1) (ay_at hp 8 5) (ay_at hp 8 6) (ay_at hp 8 7) (ay_at hp 8 8) (ay_at hp 10 0) (ay_at hp 10 1) (ay_at hp 10 2) (ay_at hp 10 3) (ay_at hp 10 4) (ay_at hp 8 9) (ay_at hp 8 11) (ay_at hp 8 10) (ay_at hp 8 3) (ay_at hp 8 4) (ay_at hp 11) (ay_at hp 12) := (ax_XF_lt (x := 50) (Nat.le_of_ble_eq_true rfl)).mp (ax_gx hE (50, [3, 7]) ax_m0)
  rw [c_units] at F50
  have F78 : pz7 (pz_gt (ρ 0)) (pz_gN (ρ 0)) ((ρ 1) / 4) 8 := (ax_XF_lt (x := 78) (Nat.le_of_ble_eq_true rfl)).mp (ax_gx hE (78, [3, 7]) ax_m1)
  have F107 : pz107 (pz_gt (ρ 0)) (pz_gN (ρ 0)) ((ρ 1) / 4) ((12) / 4) := (ax_XF_lt (x := 107) (Nat.le_of_ble_eq_true rfl)).mp (ax_gx hE (107, [3, 7, 12]) ax_m2)
  have F90 : (pz90 (pz_gt (ρ 0)) (pz_gN (ρ 0)) ((ρ 1) / 4) ((ρ 2) / 4) ∧ 1 ≤ (ρ 2) / 4) := (ax_XF_lt (x := 90) (Nat.le_of_ble_eq_true rfl)).mp (ax_gx hE (90, [3, 7, 11]) ax_m3)
  have F91 : pz_dp ((ρ 2) / 4) = (0) / 4 := (ax_XF_lt (x := 91) (Nat.le_of_ble_eq_true rfl)).mp (ax_gx hE (91, [11, 0]) ax_m4)
  have st := pq_ru6u F50 F78 F107 (by decide) (by decide) F90.1 (by rw [F91]; decide) (show ρ 3 / 4 ≤ 39 by omega)
  obtain ⟨ρ', h1, h2⟩ := pz_pn2 (K := ρ 1 / 4 + 1) (L := pz_strip (ρ 2 / 4)) (xf := [(553, [50, 16, 19, 3, 23]), (79, [3, 23]), (90, [3, 23, 27]), (92, [11, 27]), (1030, [7, 23]), (98, [7, 23])]) hE (by decide) (fun ρ' h1 h2 h3 x hx => by
    have q0 : ρ' 0 = ρ 0 := h1 0 (by decide)
    have q1 : ρ' 1 = ρ 1 := h1 1 (by decide)
    have q2 : ρ' 2 = ρ 2 := h1 2 (by decide)
    have q3 : ρ' 3 = ρ 3 := h1 3 (by decide)
    have q4 : ρ' 4 = ρ 4 := h1 4 (by decide)
    rcases List.mem_cons.mp hx with e | hx
    · subst e
      refine (ax_XF_wr (x := 53) (Nat.le_of_ble_eq_true rfl)).mpr ?_
      show ay_ex (ax_upd hp 50 (16) (ρ' 4)) 8 ∧ ay_ex (ax_upd hp 50 (16) (ρ' 4)) 10 ∧ ay_ex (ax_upd hp 50 (16) (ρ' 4)) 11 ∧ ay_ex (ax_upd hp 50 (16) (ρ' 4)) 12 ∧ pz_x53 (ρ' 0) (ρ' 5) (ay_at (ax_upd hp 50 (16) (ρ' 4)) 8 5) (ay_at (ax_upd hp 50 (16) (ρ' 4)) 10 0) (ay_at (ax_upd hp 50 (16) (ρ' 4)) 10 1) (ay_at (ax_upd hp 50 (16) (ρ' 4)) 10 2) (ay_at (ax_upd hp 50 (16) (ρ' 4)) 10 3) (ay_at (ax_upd hp 50 (16) (ρ' 4)) 10 4) (ay_at (ax_upd hp 50 (16) (ρ' 4)) 8 9) (ay_at (ax_upd hp 50 (16) (ρ' 4)) 8 11) (ay_at (ax_upd hp 50 (16) (ρ' 4)) 8 10) (ay_at (ax_upd hp 50 (16) (ρ' 4)) 8 3) (ay_at (ax_upd hp 50 (16) (ρ' 4)) 8 4) (ay_at (ax_upd hp 50 (16) (ρ' 4)) 11) (ay_at (ax_upd hp 50 (16) (ρ' 4)) 12)
      rw [q0, q4, h2]
      obtain ⟨o0, ho0⟩ := ay_some hT (q := 10) (g := 1) (n := 12) rfl rfl (j := 16 / 4) (Nat.le_of_ble_eq_true rfl)
      have u1 : ∀ q, q ≠ 10 → ay_at (ax_upd hp 50 16 (ρ 4)) q = ay_at hp q := fun q hq => funext (fun j => ay_upd_ne hT.1 hq j)
      have u2 : ∀ j, ay_at (ax_upd hp 50 16 (ρ 4)) 10 j = if j = 4 then some (ρ 4) else ay_at hp 10 j := fun j => ay_upd_eq hT.1 rfl ho0 j
      refine ⟨ay_ex_upd hT.1 (ax_cellT hT (q := 8) (g := 2) rfl), ay_ex_upd hT.1 (ax_cellT hT (q := 10) (g := 1) rfl), ay_ex_upd hT.1 (ax_cellT hT (q := 11) (g := 14) rfl), ay_ex_upd hT.1 (ax_cellT hT (q := 12) (g := 15) rfl), ?_⟩
      rw [u1 8 (Nat.ne_of_beq_eq_false rfl), u2 0, if_neg (show ¬ 0 = 4 from Nat.ne_of_beq_eq_false rfl), u2 1, if_neg (show ¬ 1 = 4 from Nat.ne_of_beq_eq_false rfl), u2 2, if_neg (show ¬ 2 = 4 from Nat.ne_of_beq_eq_false rfl), u2 3, if_neg (show ¬ 3 = 4 from Nat.ne_of_beq_eq_false rfl), u2 4, if_pos rfl, u1 11 (Nat.ne_of_beq_eq_false rfl), u1 12 (Nat.ne_of_beq_eq_false rfl)]
      have eu : ρ 4 / 4 = ρ 3 / 4 + 1 := by omega
      refine pz_53 (pz_41 _) rfl ?_
      show pz53 _ _ _ _ _ _ _ _ (ρ 4 / 4) _ _ _ _ _ _ _
      rw [eu]
      exact st.1
    rcases List.mem_cons.mp hx with e | hx
    · subst e
      refine (ax_XF_lt (x := 79) (Nat.le_of_ble_eq_true rfl)).mpr ?_
      show pz7 (pz_gt (ρ' 0)) (pz_gN (ρ' 0)) ((ρ' 5) / 4) 9
      rw [q0, h2]
      rw [pz_41]
      exact st.2.1
    rcases List.mem_cons.mp hx with e | hx
    · subst e
      refine (ax_XF_lt (x := 90) (Nat.le_of_ble_eq_true rfl)).mpr ?_
      show (pz90 (pz_gt (ρ' 0)) (pz_gN (ρ' 0)) ((ρ' 5) / 4) ((ρ' 6) / 4) ∧ 1 ≤ (ρ' 6) / 4)
      rw [q0, h2, h3]
      rw [pz_41, pz_41]
      exact ⟨st.2.2, pz_strip_1 F90.2⟩
    rcases List.mem_cons.mp hx with e | hx
    · subst e
      refine (ax_XF_lt (x := 92) (Nat.le_of_ble_eq_true rfl)).mpr ?_
      show pz_strip ((ρ' 2) / 4) = (ρ' 6) / 4
      rw [q2, h3]
      rw [pz_41]
    rcases List.mem_cons.mp hx with e | hx
    · subst e
      refine (ax_XF_bi (o := 30) (by decide)).mpr (Or.inr ⟨rfl, ?_⟩)
      show ρ' 1 < ρ' 5
      rw [q1, h2]
      omega
    cases List.mem_singleton.mp hx
    refine (ax_XF_lt (x := 98) (Nat.le_of_ble_eq_true rfl)).mpr ?_
    show (ρ' 5) / 4 = (ρ' 1) / 4 + 1
    rw [q1, h2]
    rw [pz_41])
  exact ⟨(fun y hy => by cases hy), _, List.mem_cons_self, ρ', h1, h2⟩

theorem axq_ru4c4_0 : ax_RO ax_wC ax_XC axu_ru4c4_0 := by
  intro ρ hp hE hT
  have j0 : ρ 0 % 4 = 1 := pz_gj hE 0 (Nat.le_of_ble_eq_true rfl) rfl
  have j1 : ρ 1 % 4 = 1 := pz_gj hE 1 (Nat.le_of_ble_eq_true rfl) rfl
  obtain ⟨i2a, i2b, i2c, i2d⟩ := pz_gi hE 2 2147483688 2147483688 (Nat.le_of_ble_eq_true rfl) rfl
  have c_units : ay_at hp 10 4 = some (ρ 2) := ay_gfj hE 50 16 11 10 4 ax_m3 (ax_vlq rfl rfl) (ax_vlj rfl rfl)
  obtain ⟨-, -, -, -, F50⟩ : ay_ex hp 8 ∧ ay_ex hp 10 ∧ ay_ex hp 11 ∧ ay_ex hp 12 ∧ pz_x50 (ρ 0) (ρ 1) (ay_at hp 8 5) (ay_at hp 8 6) (ay_at hp 8 7) (ay_at hp 8 8) (ay_at hp 10 0) (ay_at hp 10 1) (ay_at hp 10 2) (ay_at hp 10 3) (ay_at hp 10 4) (ay_at hp 8 9) (ay_at hp 8 11) (ay_at hp 8 10) (ay_at hp 8 3) (ay_at hp 8 4) (ay_at hp 11) (ay_at hp 12) := (ax_XF_lt (x := 50) (Nat.le_of_ble_eq_true rfl)).mp (ax_gx hE (50, [3, 7]) ax_m0)
  rw [c_units] at F50
  have F78 : pz7 (pz_gt (ρ 0)) (pz_gN (ρ 0)) ((ρ 1) / 4) 8 := (ax_XF_lt (x := 78) (Nat.le_of_ble_eq_true rfl)).mp (ax_gx hE (78, [3, 7]) ax_m1)
  have F107 : pz107 (pz_gt (ρ 0)) (pz_gN (ρ 0)) ((ρ 1) / 4) ((16) / 4) := (ax_XF_lt (x := 107) (Nat.le_of_ble_eq_true rfl)).mp (ax_gx hE (107, [3, 7, 16]) ax_m2)
  refine ⟨(fun y hy => by cases hy), _, List.mem_cons_self, ρ, fun _ _ => rfl, ax_px hE rfl (fun y hy => ?_)⟩
  cases List.mem_singleton.mp hy
  refine (ax_XF_lt (x := 64) (Nat.le_of_ble_eq_true rfl)).mpr ?_
  show pz64 (pz_gt (ρ 0)) (pz_gN (ρ 0)) ((ρ 1) / 4) ((16) / 4)
  exact pq_ru4 F50 F78 F107 (show ρ 2 / 4 = 40 by omega)

theorem axq_ru6c4_0 : ax_RO ax_wC ax_XC axu_ru6c4_0 := by
  intro ρ hp hE hT
  have j0 : ρ 0 % 4 = 1 := pz_gj hE 0 (Nat.le_of_ble_eq_true rfl) rfl
  have j1 : ρ 1 % 4 = 1 := pz_gj hE 1 (Nat.le_of_ble_eq_true rfl) rfl
  have j2 : ρ 2 % 4 = 1 := pz_gj hE 2 (Nat.le_of_ble_eq_true rfl) rfl
  obtain ⟨i3a, i3b, i3c, i3d⟩ := pz_gi hE 3 2147483648 2147483687 (Nat.le_of_ble_eq_true rfl) rfl
  obtain ⟨i4a, i4b, i4c, i4d⟩ := pz_gi hE 4 0 4294967295 (Nat.le_of_ble_eq_true rfl) rfl
  have c_units : ay_at hp 10 4 = some (ρ 3) := ay_gfj hE 50 16 15 10 4 ax_m5 (ax_vlq rfl rfl) (ax_vlj rfl rfl)
  have s1 : (ρ 3 / 4 + 2147483648) % 4294967296 + (4 / 4 + 2147483648) % 4294967296 = (ρ 4 / 4 + 2147483648) % 4294967296 + 2147483648 := pz_gs hE 15 4 19 ax_m6
  obtain ⟨-, -, -, -, F50⟩ : ay_ex hp 8 ∧ ay_ex hp 10 ∧ ay_ex hp 11 ∧ ay_ex hp 12 ∧ pz_x50 (ρ 0) (ρ 1) (ay_at hp 8 5) (ay_at hp 8 6) (ay_at hp 8 7) (ay_at hp 8 8) (ay_at hp 10 0) (ay_at hp 10 1) (ay_at hp 10 2) (ay_at hp 10 3) (ay_at hp 10 4) (ay_at hp 8 9) (ay_at hp 8 11) (ay_at hp 8 10) (ay_at hp 8 3) (ay_at hp 8 4) (ay_at hp 11) (ay_at hp 12) := (ax_XF_lt (x := 50) (Nat.le_of_ble_eq_true rfl)).mp (ax_gx hE (50, [3, 7]) ax_m0)
  rw [c_units] at F50
  have F78 : pz7 (pz_gt (ρ 0)) (pz_gN (ρ 0)) ((ρ 1) / 4) 8 := (ax_XF_lt (x := 78) (Nat.le_of_ble_eq_true rfl)).mp (ax_gx hE (78, [3, 7]) ax_m1)
  have F107 : pz107 (pz_gt (ρ 0)) (pz_gN (ρ 0)) ((ρ 1) / 4) ((16) / 4) := (ax_XF_lt (x := 107) (Nat.le_of_ble_eq_true rfl)).mp (ax_gx hE (107, [3, 7, 16]) ax_m2)
  have F90 : (pz90 (pz_gt (ρ 0)) (pz_gN (ρ 0)) ((ρ 1) / 4) ((ρ 2) / 4) ∧ 1 ≤ (ρ 2) / 4) := (ax_XF_lt (x := 90) (Nat.le_of_ble_eq_true rfl)).mp (ax_gx hE (90, [3, 7, 11]) ax_m3)
  have F91 : pz_dp ((ρ 2) / 4) = (0) / 4 := (ax_XF_lt (x := 91) (Nat.le_of_ble_eq_true rfl)).mp (ax_gx hE (91, [11, 0]) ax_m4)
  have st := pq_ru6u F50 F78 F107 (by decide) (by decide) F90.1 (by rw [F91]; decide) (show ρ 3 / 4 ≤ 39 by omega)
  obtain ⟨ρ', h1, h2⟩ := pz_pn2 (K := ρ 1 / 4 + 1) (L := pz_strip (ρ 2 / 4)) (xf := [(553, [50, 16, 19, 3, 23]), (79, [3, 23]), (90, [3, 23, 27]), (92, [11, 27]), (1030, [7, 23]), (98, [7, 23])]) hE (by decide) (fun ρ' h1 h2 h3 x hx => by
    have q0 : ρ' 0 = ρ 0 := h1 0 (by decide)
    have q1 : ρ' 1 = ρ 1 := h1 1 (by decide)
    have q2 : ρ' 2 = ρ 2 := h1 2 (by decide)
    have q3 : ρ' 3 = ρ 3 := h1 3 (by decide)
    have q4 : ρ' 4 = ρ 4 := h1 4 (by decide)
    rcases List.mem_cons.mp hx with e | hx
    · subst e
      refine (ax_XF_wr (x := 53) (Nat.le_of_ble_eq_true rfl)).mpr ?_
      show ay_ex (ax_upd hp 50 (16) (ρ' 4)) 8 ∧ ay_ex (ax_upd hp 50 (16) (ρ' 4)) 10 ∧ ay_ex (ax_upd hp 50 (16) (ρ' 4)) 11 ∧ ay_ex (ax_upd hp 50 (16) (ρ' 4)) 12 ∧ pz_x53 (ρ' 0) (ρ' 5) (ay_at (ax_upd hp 50 (16) (ρ' 4)) 8 5) (ay_at (ax_upd hp 50 (16) (ρ' 4)) 10 0) (ay_at (ax_upd hp 50 (16) (ρ' 4)) 10 1) (ay_at (ax_upd hp 50 (16) (ρ' 4)) 10 2) (ay_at (ax_upd hp 50 (16) (ρ' 4)) 10 3) (ay_at (ax_upd hp 50 (16) (ρ' 4)) 10 4) (ay_at (ax_upd hp 50 (16) (ρ' 4)) 8 9) (ay_at (ax_upd hp 50 (16) (ρ' 4)) 8 11) (ay_at (ax_upd hp 50 (16) (ρ' 4)) 8 10) (ay_at (ax_upd hp 50 (16) (ρ' 4)) 8 3) (ay_at (ax_upd hp 50 (16) (ρ' 4)) 8 4) (ay_at (ax_upd hp 50 (16) (ρ' 4)) 11) (ay_at (ax_upd hp 50 (16) (ρ' 4)) 12)
      rw [q0, q4, h2]
      obtain ⟨o0, ho0⟩ := ay_some hT (q := 10) (g := 1) (n := 12) rfl rfl (j := 16 / 4) (Nat.le_of_ble_eq_true rfl)
      have u1 : ∀ q, q ≠ 10 → ay_at (ax_upd hp 50 16 (ρ 4)) q = ay_at hp q := fun q hq => funext (fun j => ay_upd_ne hT.1 hq j)
      have u2 : ∀ j, ay_at (ax_upd hp 50 16 (ρ 4)) 10 j = if j = 4 then some (ρ 4) else ay_at hp 10 j := fun j => ay_upd_eq hT.1 rfl ho0 j
      refine ⟨ay_ex_upd hT.1 (ax_cellT hT (q := 8) (g := 2) rfl), ay_ex_upd hT.1 (ax_cellT hT (q := 10) (g := 1) rfl), ay_ex_upd hT.1 (ax_cellT hT (q := 11) (g := 14) rfl), ay_ex_upd hT.1 (ax_cellT hT (q := 12) (g := 15) rfl), ?_⟩
      rw [u1 8 (Nat.ne_of_beq_eq_false rfl), u2 0, if_neg (show ¬ 0 = 4 from Nat.ne_of_beq_eq_false rfl), u2 1, if_neg (show ¬ 1 = 4 from Nat.ne_of_beq_eq_false rfl), u2 2, if_neg (show ¬ 2 = 4 from Nat.ne_of_beq_eq_false rfl), u2 3, if_neg (show ¬ 3 = 4 from Nat.ne_of_beq_eq_false rfl), u2 4, if_pos rfl, u1 11 (Nat.ne_of_beq_eq_false rfl), u1 12 (Nat.ne_of_beq_eq_false rfl)]
      have eu : ρ 4 / 4 = ρ 3 / 4 + 1 := by omega
      refine pz_53 (pz_41 _) rfl ?_
      show pz53 _ _ _ _ _ _ _ _ (ρ 4 / 4) _ _ _ _ _ _ _
      rw [eu]
      exact st.1
    rcases List.mem_cons.mp hx with e | hx
    · subst e
      refine (ax_XF_lt (x := 79) (Nat.le_of_ble_eq_true rfl)).mpr ?_
      show pz7 (pz_gt (ρ' 0)) (pz_gN (ρ' 0)) ((ρ' 5) / 4) 9
      rw [q0, h2]
      rw [pz_41]
      exact st.2.1
    rcases List.mem_cons.mp hx with e | hx
    · subst e
      refine (ax_XF_lt (x := 90) (Nat.le_of_ble_eq_true rfl)).mpr ?_
      show (pz90 (pz_gt (ρ' 0)) (pz_gN (ρ' 0)) ((ρ' 5) / 4) ((ρ' 6) / 4) ∧ 1 ≤ (ρ' 6) / 4)
      rw [q0, h2, h3]
      rw [pz_41, pz_41]
      exact ⟨st.2.2, pz_strip_1 F90.2⟩
    rcases List.mem_cons.mp hx with e | hx
    · subst e
      refine (ax_XF_lt (x := 92) (Nat.le_of_ble_eq_true rfl)).mpr ?_
      show pz_strip ((ρ' 2) / 4) = (ρ' 6) / 4
      rw [q2, h3]
      rw [pz_41]
    rcases List.mem_cons.mp hx with e | hx
    · subst e
      refine (ax_XF_bi (o := 30) (by decide)).mpr (Or.inr ⟨rfl, ?_⟩)
      show ρ' 1 < ρ' 5
      rw [q1, h2]
      omega
    cases List.mem_singleton.mp hx
    refine (ax_XF_lt (x := 98) (Nat.le_of_ble_eq_true rfl)).mpr ?_
    show (ρ' 5) / 4 = (ρ' 1) / 4 + 1
    rw [q1, h2]
    rw [pz_41])
  exact ⟨(fun y hy => by cases hy), _, List.mem_cons_self, ρ', h1, h2⟩

theorem axq_ru4c5_0 : ax_RO ax_wC ax_XC axu_ru4c5_0 := by
  intro ρ hp hE hT
  have j0 : ρ 0 % 4 = 1 := pz_gj hE 0 (Nat.le_of_ble_eq_true rfl) rfl
  have j1 : ρ 1 % 4 = 1 := pz_gj hE 1 (Nat.le_of_ble_eq_true rfl) rfl
  obtain ⟨i2a, i2b, i2c, i2d⟩ := pz_gi hE 2 2147483688 2147483688 (Nat.le_of_ble_eq_true rfl) rfl
  have c_units : ay_at hp 10 4 = some (ρ 2) := ay_gfj hE 50 16 11 10 4 ax_m3 (ax_vlq rfl rfl) (ax_vlj rfl rfl)
  obtain ⟨-, -, -, -, F50⟩ : ay_ex hp 8 ∧ ay_ex hp 10 ∧ ay_ex hp 11 ∧ ay_ex hp 12 ∧ pz_x50 (ρ 0) (ρ 1) (ay_at hp 8 5) (ay_at hp 8 6) (ay_at hp 8 7) (ay_at hp 8 8) (ay_at hp 10 0) (ay_at hp 10 1) (ay_at hp 10 2) (ay_at hp 10 3) (ay_at hp 10 4) (ay_at hp 8 9) (ay_at hp 8 11) (ay_at hp 8 10) (ay_at hp 8 3) (ay_at hp 8 4) (ay_at hp 11) (ay_at hp 12) := (ax_XF_lt (x := 50) (Nat.le_of_ble_eq_true rfl)).mp (ax_gx hE (50, [3, 7]) ax_m0)
  rw [c_units] at F50
  have F78 : pz7 (pz_gt (ρ 0)) (pz_gN (ρ 0)) ((ρ 1) / 4) 8 := (ax_XF_lt (x := 78) (Nat.le_of_ble_eq_true rfl)).mp (ax_gx hE (78, [3, 7]) ax_m1)
  have F107 : pz107 (pz_gt (ρ 0)) (pz_gN (ρ 0)) ((ρ 1) / 4) ((20) / 4) := (ax_XF_lt (x := 107) (Nat.le_of_ble_eq_true rfl)).mp (ax_gx hE (107, [3, 7, 20]) ax_m2)
  refine ⟨(fun y hy => by cases hy), _, List.mem_cons_self, ρ, fun _ _ => rfl, ax_px hE rfl (fun y hy => ?_)⟩
  cases List.mem_singleton.mp hy
  refine (ax_XF_lt (x := 64) (Nat.le_of_ble_eq_true rfl)).mpr ?_
  show pz64 (pz_gt (ρ 0)) (pz_gN (ρ 0)) ((ρ 1) / 4) ((16) / 4)
  exact pq_ru4 F50 F78 F107 (show ρ 2 / 4 = 40 by omega)

theorem axq_ru6c5_0 : ax_RO ax_wC ax_XC axu_ru6c5_0 := by
  intro ρ hp hE hT
  have j0 : ρ 0 % 4 = 1 := pz_gj hE 0 (Nat.le_of_ble_eq_true rfl) rfl
  have j1 : ρ 1 % 4 = 1 := pz_gj hE 1 (Nat.le_of_ble_eq_true rfl) rfl
  have j2 : ρ 2 % 4 = 1 := pz_gj hE 2 (Nat.le_of_ble_eq_true rfl) rfl
  obtain ⟨i3a, i3b, i3c, i3d⟩ := pz_gi hE 3 2147483648 2147483687 (Nat.le_of_ble_eq_true rfl) rfl
  obtain ⟨i4a, i4b, i4c, i4d⟩ := pz_gi hE 4 0 4294967295 (Nat.le_of_ble_eq_true rfl) rfl
  have c_units : ay_at hp 10 4 = some (ρ 3) := ay_gfj hE 50 16 15 10 4 ax_m5 (ax_vlq rfl rfl) (ax_vlj rfl rfl)
  have s1 : (ρ 3 / 4 + 2147483648) % 4294967296 + (4 / 4 + 2147483648) % 4294967296 = (ρ 4 / 4 + 2147483648) % 4294967296 + 2147483648 := pz_gs hE 15 4 19 ax_m6
  obtain ⟨-, -, -, -, F50⟩ : ay_ex hp 8 ∧ ay_ex hp 10 ∧ ay_ex hp 11 ∧ ay_ex hp 12 ∧ pz_x50 (ρ 0) (ρ 1) (ay_at hp 8 5) (ay_at hp 8 6) (ay_at hp 8 7) (ay_at hp 8 8) (ay_at hp 10 0) (ay_at hp 10 1) (ay_at hp 10 2) (ay_at hp 10 3) (ay_at hp 10 4) (ay_at hp 8 9) (ay_at hp 8 11) (ay_at hp 8 10) (ay_at hp 8 3) (ay_at hp 8 4) (ay_at hp 11) (ay_at hp 12) := (ax_XF_lt (x := 50) (Nat.le_of_ble_eq_true rfl)).mp (ax_gx hE (50, [3, 7]) ax_m0)
  rw [c_units] at F50
  have F78 : pz7 (pz_gt (ρ 0)) (pz_gN (ρ 0)) ((ρ 1) / 4) 8 := (ax_XF_lt (x := 78) (Nat.le_of_ble_eq_true rfl)).mp (ax_gx hE (78, [3, 7]) ax_m1)
  have F107 : pz107 (pz_gt (ρ 0)) (pz_gN (ρ 0)) ((ρ 1) / 4) ((20) / 4) := (ax_XF_lt (x := 107) (Nat.le_of_ble_eq_true rfl)).mp (ax_gx hE (107, [3, 7, 20]) ax_m2)
  have F90 : (pz90 (pz_gt (ρ 0)) (pz_gN (ρ 0)) ((ρ 1) / 4) ((ρ 2) / 4) ∧ 1 ≤ (ρ 2) / 4) := (ax_XF_lt (x := 90) (Nat.le_of_ble_eq_true rfl)).mp (ax_gx hE (90, [3, 7, 11]) ax_m3)
  have F91 : pz_dp ((ρ 2) / 4) = (0) / 4 := (ax_XF_lt (x := 91) (Nat.le_of_ble_eq_true rfl)).mp (ax_gx hE (91, [11, 0]) ax_m4)
  have st := pq_ru6m F50 F78 F107 F90.1 (by rw [F91]; decide) (show ρ 3 / 4 ≤ 39 by omega)
  obtain ⟨ρ', h1, h2⟩ := pz_pn2 (K := ρ 1 / 4 + 1) (L := 2 * (ρ 2 / 4) + 1) (xf := [(553, [50, 16, 19, 3, 23]), (78, [3, 23]), (90, [3, 23, 27]), (108, [11, 27]), (91, [27, 4]), (1030, [7, 23]), (98, [7, 23])]) hE (by decide) (fun ρ' h1 h2 h3 x hx => by
    have q0 : ρ' 0 = ρ 0 := h1 0 (by decide)
    have q1 : ρ' 1 = ρ 1 := h1 1 (by decide)
    have q2 : ρ' 2 = ρ 2 := h1 2 (by decide)
    have q3 : ρ' 3 = ρ 3 := h1 3 (by decide)
    have q4 : ρ' 4 = ρ 4 := h1 4 (by decide)
    rcases List.mem_cons.mp hx with e | hx
    · subst e
      refine (ax_XF_wr (x := 53) (Nat.le_of_ble_eq_true rfl)).mpr ?_
      show ay_ex (ax_upd hp 50 (16) (ρ' 4)) 8 ∧ ay_ex (ax_upd hp 50 (16) (ρ' 4)) 10 ∧ ay_ex (ax_upd hp 50 (16) (ρ' 4)) 11 ∧ ay_ex (ax_upd hp 50 (16) (ρ' 4)) 12 ∧ pz_x53 (ρ' 0) (ρ' 5) (ay_at (ax_upd hp 50 (16) (ρ' 4)) 8 5) (ay_at (ax_upd hp 50 (16) (ρ' 4)) 10 0) (ay_at (ax_upd hp 50 (16) (ρ' 4)) 10 1) (ay_at (ax_upd hp 50 (16) (ρ' 4)) 10 2) (ay_at (ax_upd hp 50 (16) (ρ' 4)) 10 3) (ay_at (ax_upd hp 50 (16) (ρ' 4)) 10 4) (ay_at (ax_upd hp 50 (16) (ρ' 4)) 8 9) (ay_at (ax_upd hp 50 (16) (ρ' 4)) 8 11) (ay_at (ax_upd hp 50 (16) (ρ' 4)) 8 10) (ay_at (ax_upd hp 50 (16) (ρ' 4)) 8 3) (ay_at (ax_upd hp 50 (16) (ρ' 4)) 8 4) (ay_at (ax_upd hp 50 (16) (ρ' 4)) 11) (ay_at (ax_upd hp 50 (16) (ρ' 4)) 12)
      rw [q0, q4, h2]
      obtain ⟨o0, ho0⟩ := ay_some hT (q := 10) (g := 1) (n := 12) rfl rfl (j := 16 / 4) (Nat.le_of_ble_eq_true rfl)
      have u1 : ∀ q, q ≠ 10 → ay_at (ax_upd hp 50 16 (ρ 4)) q = ay_at hp q := fun q hq => funext (fun j => ay_upd_ne hT.1 hq j)
      have u2 : ∀ j, ay_at (ax_upd hp 50 16 (ρ 4)) 10 j = if j = 4 then some (ρ 4) else ay_at hp 10 j := fun j => ay_upd_eq hT.1 rfl ho0 j
      refine ⟨ay_ex_upd hT.1 (ax_cellT hT (q := 8) (g := 2) rfl), ay_ex_upd hT.1 (ax_cellT hT (q := 10) (g := 1) rfl), ay_ex_upd hT.1 (ax_cellT hT (q := 11) (g := 14) rfl), ay_ex_upd hT.1 (ax_cellT hT (q := 12) (g := 15) rfl), ?_⟩
      rw [u1 8 (Nat.ne_of_beq_eq_false rfl), u2 0, if_neg (show ¬ 0 = 4 from Nat.ne_of_beq_eq_false rfl), u2 1, if_neg (show ¬ 1 = 4 from Nat.ne_of_beq_eq_false rfl), u2 2, if_neg (show ¬ 2 = 4 from Nat.ne_of_beq_eq_false rfl), u2 3, if_neg (show ¬ 3 = 4 from Nat.ne_of_beq_eq_false rfl), u2 4, if_pos rfl, u1 11 (Nat.ne_of_beq_eq_false rfl), u1 12 (Nat.ne_of_beq_eq_false rfl)]
      have eu : ρ 4 / 4 = ρ 3 / 4 + 1 := by omega
      refine pz_53 (pz_41 _) rfl ?_
      show pz53 _ _ _ _ _ _ _ _ (ρ 4 / 4) _ _ _ _ _ _ _
      rw [eu]
      exact st.1
    rcases List.mem_cons.mp hx with e | hx
    · subst e
      refine (ax_XF_lt (x := 78) (Nat.le_of_ble_eq_true rfl)).mpr ?_
      show pz7 (pz_gt (ρ' 0)) (pz_gN (ρ' 0)) ((ρ' 5) / 4) 8
      rw [q0, h2]
      rw [pz_41]
      exact st.2.1
    rcases List.mem_cons.mp hx with e | hx
    · subst e
      refine (ax_XF_lt (x := 90) (Nat.le_of_ble_eq_true rfl)).mpr ?_
      show (pz90 (pz_gt (ρ' 0)) (pz_gN (ρ' 0)) ((ρ' 5) / 4) ((ρ' 6) / 4) ∧ 1 ≤ (ρ' 6) / 4)
      rw [q0, h2, h3]
      rw [pz_41, pz_41]
      exact ⟨st.2.2, by omega⟩
    rcases List.mem_cons.mp hx with e | hx
    · subst e
      refine (ax_XF_lt (x := 108) (Nat.le_of_ble_eq_true rfl)).mpr ?_
      show ((ρ' 6) / 4 = 2 * ((ρ' 2) / 4) + 1 ∧ 1 ≤ (ρ' 2) / 4)
      rw [q2, h3]
      rw [pz_41]
      exact ⟨rfl, F90.2⟩
    rcases List.mem_cons.mp hx with e | hx
    · subst e
      refine (ax_XF_lt (x := 91) (Nat.le_of_ble_eq_true rfl)).mpr ?_
      show pz_dp ((ρ' 6) / 4) = (4) / 4
      rw [h3]
      rw [pz_41, pz_dp_push F90.2 (Or.inr rfl), F91]
    rcases List.mem_cons.mp hx with e | hx
    · subst e
      refine (ax_XF_bi (o := 30) (by decide)).mpr (Or.inr ⟨rfl, ?_⟩)
      show ρ' 1 < ρ' 5
      rw [q1, h2]
      omega
    cases List.mem_singleton.mp hx
    refine (ax_XF_lt (x := 98) (Nat.le_of_ble_eq_true rfl)).mpr ?_
    show (ρ' 5) / 4 = (ρ' 1) / 4 + 1
    rw [q1, h2]
    rw [pz_41])
  exact ⟨(fun y hy => by cases hy), _, List.mem_cons_self, ρ', h1, h2⟩

theorem axq_ru4c40_0 : ax_RO ax_wC ax_XC axu_ru4c40_0 := by
  intro ρ hp hE hT
  have j0 : ρ 0 % 4 = 1 := pz_gj hE 0 (Nat.le_of_ble_eq_true rfl) rfl
  have j1 : ρ 1 % 4 = 1 := pz_gj hE 1 (Nat.le_of_ble_eq_true rfl) rfl
  obtain ⟨i2a, i2b, i2c, i2d⟩ := pz_gi hE 2 2147483688 2147483688 (Nat.le_of_ble_eq_true rfl) rfl
  have c_units : ay_at hp 10 4 = some (ρ 2) := ay_gfj hE 50 16 11 10 4 ax_m3 (ax_vlq rfl rfl) (ax_vlj rfl rfl)
  obtain ⟨-, -, -, -, F50⟩ : ay_ex hp 8 ∧ ay_ex hp 10 ∧ ay_ex hp 11 ∧ ay_ex hp 12 ∧ pz_x50 (ρ 0) (ρ 1) (ay_at hp 8 5) (ay_at hp 8 6) (ay_at hp 8 7) (ay_at hp 8 8) (ay_at hp 10 0) (ay_at hp 10 1) (ay_at hp 10 2) (ay_at hp 10 3) (ay_at hp 10 4) (ay_at hp 8 9) (ay_at hp 8 11) (ay_at hp 8 10) (ay_at hp 8 3) (ay_at hp 8 4) (ay_at hp 11) (ay_at hp 12) := (ax_XF_lt (x := 50) (Nat.le_of_ble_eq_true rfl)).mp (ax_gx hE (50, [3, 7]) ax_m0)
  rw [c_units] at F50
  have F78 : pz7 (pz_gt (ρ 0)) (pz_gN (ρ 0)) ((ρ 1) / 4) 8 := (ax_XF_lt (x := 78) (Nat.le_of_ble_eq_true rfl)).mp (ax_gx hE (78, [3, 7]) ax_m1)
  have F107 : pz107 (pz_gt (ρ 0)) (pz_gN (ρ 0)) ((ρ 1) / 4) ((160) / 4) := (ax_XF_lt (x := 107) (Nat.le_of_ble_eq_true rfl)).mp (ax_gx hE (107, [3, 7, 160]) ax_m2)
  refine ⟨(fun y hy => by cases hy), _, List.mem_cons_self, ρ, fun _ _ => rfl, ax_px hE rfl (fun y hy => ?_)⟩
  cases List.mem_singleton.mp hy
  refine (ax_XF_lt (x := 64) (Nat.le_of_ble_eq_true rfl)).mpr ?_
  show pz64 (pz_gt (ρ 0)) (pz_gN (ρ 0)) ((ρ 1) / 4) ((16) / 4)
  exact pq_ru4 F50 F78 F107 (show ρ 2 / 4 = 40 by omega)

theorem axq_ru6c40_0 : ax_RO ax_wC ax_XC axu_ru6c40_0 := by
  intro ρ hp hE hT
  have j0 : ρ 0 % 4 = 1 := pz_gj hE 0 (Nat.le_of_ble_eq_true rfl) rfl
  have j1 : ρ 1 % 4 = 1 := pz_gj hE 1 (Nat.le_of_ble_eq_true rfl) rfl
  have j2 : ρ 2 % 4 = 1 := pz_gj hE 2 (Nat.le_of_ble_eq_true rfl) rfl
  obtain ⟨i3a, i3b, i3c, i3d⟩ := pz_gi hE 3 2147483648 2147483687 (Nat.le_of_ble_eq_true rfl) rfl
  obtain ⟨i4a, i4b, i4c, i4d⟩ := pz_gi hE 4 0 4294967295 (Nat.le_of_ble_eq_true rfl) rfl
  have c_units : ay_at hp 10 4 = some (ρ 3) := ay_gfj hE 50 16 15 10 4 ax_m5 (ax_vlq rfl rfl) (ax_vlj rfl rfl)
  have s1 : (ρ 3 / 4 + 2147483648) % 4294967296 + (4 / 4 + 2147483648) % 4294967296 = (ρ 4 / 4 + 2147483648) % 4294967296 + 2147483648 := pz_gs hE 15 4 19 ax_m6
  obtain ⟨-, -, -, -, F50⟩ : ay_ex hp 8 ∧ ay_ex hp 10 ∧ ay_ex hp 11 ∧ ay_ex hp 12 ∧ pz_x50 (ρ 0) (ρ 1) (ay_at hp 8 5) (ay_at hp 8 6) (ay_at hp 8 7) (ay_at hp 8 8) (ay_at hp 10 0) (ay_at hp 10 1) (ay_at hp 10 2) (ay_at hp 10 3) (ay_at hp 10 4) (ay_at hp 8 9) (ay_at hp 8 11) (ay_at hp 8 10) (ay_at hp 8 3) (ay_at hp 8 4) (ay_at hp 11) (ay_at hp 12) := (ax_XF_lt (x := 50) (Nat.le_of_ble_eq_true rfl)).mp (ax_gx hE (50, [3, 7]) ax_m0)
  rw [c_units] at F50
  have F78 : pz7 (pz_gt (ρ 0)) (pz_gN (ρ 0)) ((ρ 1) / 4) 8 := (ax_XF_lt (x := 78) (Nat.le_of_ble_eq_true rfl)).mp (ax_gx hE (78, [3, 7]) ax_m1)
  have F107 : pz107 (pz_gt (ρ 0)) (pz_gN (ρ 0)) ((ρ 1) / 4) ((160) / 4) := (ax_XF_lt (x := 107) (Nat.le_of_ble_eq_true rfl)).mp (ax_gx hE (107, [3, 7, 160]) ax_m2)
  have F90 : (pz90 (pz_gt (ρ 0)) (pz_gN (ρ 0)) ((ρ 1) / 4) ((ρ 2) / 4) ∧ 1 ≤ (ρ 2) / 4) := (ax_XF_lt (x := 90) (Nat.le_of_ble_eq_true rfl)).mp (ax_gx hE (90, [3, 7, 11]) ax_m3)
  have F91 : pz_dp ((ρ 2) / 4) = (0) / 4 := (ax_XF_lt (x := 91) (Nat.le_of_ble_eq_true rfl)).mp (ax_gx hE (91, [11, 0]) ax_m4)
  have st := pq_ru6o F50 F78 F107 F90.1 (by rw [F91]; decide) (show ρ 3 / 4 ≤ 39 by omega)
  obtain ⟨ρ', h1, h2⟩ := pz_pn2 (K := ρ 1 / 4 + 1) (L := 2 * (ρ 2 / 4)) (xf := [(553, [50, 16, 19, 3, 23]), (78, [3, 23]), (90, [3, 23, 27]), (93, [27, 11]), (91, [27, 4]), (92, [27, 27]), (1030, [7, 23]), (98, [7, 23])]) hE (by decide) (fun ρ' h1 h2 h3 x hx => by
    have q0 : ρ' 0 = ρ 0 := h1 0 (by decide)
    have q1 : ρ' 1 = ρ 1 := h1 1 (by decide)
    have q2 : ρ' 2 = ρ 2 := h1 2 (by decide)
    have q3 : ρ' 3 = ρ 3 := h1 3 (by decide)
    have q4 : ρ' 4 = ρ 4 := h1 4 (by decide)
    rcases List.mem_cons.mp hx with e | hx
    · subst e
      refine (ax_XF_wr (x := 53) (Nat.le_of_ble_eq_true rfl)).mpr ?_
      show ay_ex (ax_upd hp 50 (16) (ρ' 4)) 8 ∧ ay_ex (ax_upd hp 50 (16) (ρ' 4)) 10 ∧ ay_ex (ax_upd hp 50 (16) (ρ' 4)) 11 ∧ ay_ex (ax_upd hp 50 (16) (ρ' 4)) 12 ∧ pz_x53 (ρ' 0) (ρ' 5) (ay_at (ax_upd hp 50 (16) (ρ' 4)) 8 5) (ay_at (ax_upd hp 50 (16) (ρ' 4)) 10 0) (ay_at (ax_upd hp 50 (16) (ρ' 4)) 10 1) (ay_at (ax_upd hp 50 (16) (ρ' 4)) 10 2) (ay_at (ax_upd hp 50 (16) (ρ' 4)) 10 3) (ay_at (ax_upd hp 50 (16) (ρ' 4)) 10 4) (ay_at (ax_upd hp 50 (16) (ρ' 4)) 8 9) (ay_at (ax_upd hp 50 (16) (ρ' 4)) 8 11) (ay_at (ax_upd hp 50 (16) (ρ' 4)) 8 10) (ay_at (ax_upd hp 50 (16) (ρ' 4)) 8 3) (ay_at (ax_upd hp 50 (16) (ρ' 4)) 8 4) (ay_at (ax_upd hp 50 (16) (ρ' 4)) 11) (ay_at (ax_upd hp 50 (16) (ρ' 4)) 12)
      rw [q0, q4, h2]
      obtain ⟨o0, ho0⟩ := ay_some hT (q := 10) (g := 1) (n := 12) rfl rfl (j := 16 / 4) (Nat.le_of_ble_eq_true rfl)
      have u1 : ∀ q, q ≠ 10 → ay_at (ax_upd hp 50 16 (ρ 4)) q = ay_at hp q := fun q hq => funext (fun j => ay_upd_ne hT.1 hq j)
      have u2 : ∀ j, ay_at (ax_upd hp 50 16 (ρ 4)) 10 j = if j = 4 then some (ρ 4) else ay_at hp 10 j := fun j => ay_upd_eq hT.1 rfl ho0 j
      refine ⟨ay_ex_upd hT.1 (ax_cellT hT (q := 8) (g := 2) rfl), ay_ex_upd hT.1 (ax_cellT hT (q := 10) (g := 1) rfl), ay_ex_upd hT.1 (ax_cellT hT (q := 11) (g := 14) rfl), ay_ex_upd hT.1 (ax_cellT hT (q := 12) (g := 15) rfl), ?_⟩
      rw [u1 8 (Nat.ne_of_beq_eq_false rfl), u2 0, if_neg (show ¬ 0 = 4 from Nat.ne_of_beq_eq_false rfl), u2 1, if_neg (show ¬ 1 = 4 from Nat.ne_of_beq_eq_false rfl), u2 2, if_neg (show ¬ 2 = 4 from Nat.ne_of_beq_eq_false rfl), u2 3, if_neg (show ¬ 3 = 4 from Nat.ne_of_beq_eq_false rfl), u2 4, if_pos rfl, u1 11 (Nat.ne_of_beq_eq_false rfl), u1 12 (Nat.ne_of_beq_eq_false rfl)]
      have eu : ρ 4 / 4 = ρ 3 / 4 + 1 := by omega
      refine pz_53 (pz_41 _) rfl ?_
      show pz53 _ _ _ _ _ _ _ _ (ρ 4 / 4) _ _ _ _ _ _ _
      rw [eu]
      exact st.1
    rcases List.mem_cons.mp hx with e | hx
    · subst e
      refine (ax_XF_lt (x := 78) (Nat.le_of_ble_eq_true rfl)).mpr ?_
      show pz7 (pz_gt (ρ' 0)) (pz_gN (ρ' 0)) ((ρ' 5) / 4) 8
      rw [q0, h2]
      rw [pz_41]
      exact st.2.1
    rcases List.mem_cons.mp hx with e | hx
    · subst e
      refine (ax_XF_lt (x := 90) (Nat.le_of_ble_eq_true rfl)).mpr ?_
      show (pz90 (pz_gt (ρ' 0)) (pz_gN (ρ' 0)) ((ρ' 5) / 4) ((ρ' 6) / 4) ∧ 1 ≤ (ρ' 6) / 4)
      rw [q0, h2, h3]
      rw [pz_41, pz_41]
      exact ⟨st.2.2, by have := F90.2; omega⟩
    rcases List.mem_cons.mp hx with e | hx
    · subst e
      refine (ax_XF_lt (x := 93) (Nat.le_of_ble_eq_true rfl)).mpr ?_
      show (ρ' 6) / 4 = 2 * ((ρ' 2) / 4)
      rw [q2, h3]
      rw [pz_41]
    rcases List.mem_cons.mp hx with e | hx
    · subst e
      refine (ax_XF_lt (x := 91) (Nat.le_of_ble_eq_true rfl)).mpr ?_
      show pz_dp ((ρ' 6) / 4) = (4) / 4
      rw [h3]
      rw [pz_41, pz_dp_push F90.2 (Or.inl rfl), F91]
    rcases List.mem_cons.mp hx with e | hx
    · subst e
      refine (ax_XF_lt (x := 92) (Nat.le_of_ble_eq_true rfl)).mpr ?_
      show pz_strip ((ρ' 6) / 4) = (ρ' 6) / 4
      rw [h3]
      rw [pz_41]
      exact pz_strip_even (Or.inl (by omega))
    rcases List.mem_cons.mp hx with e | hx
    · subst e
      refine (ax_XF_bi (o := 30) (by decide)).mpr (Or.inr ⟨rfl, ?_⟩)
      show ρ' 1 < ρ' 5
      rw [q1, h2]
      omega
    cases List.mem_singleton.mp hx
    refine (ax_XF_lt (x := 98) (Nat.le_of_ble_eq_true rfl)).mpr ?_
    show (ρ' 5) / 4 = (ρ' 1) / 4 + 1
    rw [q1, h2]
    rw [pz_41])
  exact ⟨(fun y hy => by cases hy), _, List.mem_cons_self, ρ', h1, h2⟩

theorem axq_rut1_0 : ax_RO ax_wC ax_XC axu_rut1_0 := by
  intro ρ hp hE hT
  have j0 : ρ 0 % 4 = 1 := pz_gj hE 0 (Nat.le_of_ble_eq_true rfl) rfl
  have j1 : ρ 1 % 4 = 1 := pz_gj hE 1 (Nat.le_of_ble_eq_true rfl) rfl
  have j2 : ρ 2 % 4 = 1 := pz_gj hE 2 (Nat.le_of_ble_eq_true rfl) rfl
  have j3 : ρ 3 % 4 = 1 := pz_gj hE 3 (Nat.le_of_ble_eq_true rfl) rfl
  have o1 : ρ 2 < ρ 3 := pz_go hE 11 15 (by decide)
  have o2 : ρ 1 < ρ 2 := pz_go hE 7 11 (by decide)
  obtain ⟨-, -, -, -, F50⟩ : ay_ex hp 8 ∧ ay_ex hp 10 ∧ ay_ex hp 11 ∧ ay_ex hp 12 ∧ pz_x50 (ρ 0) (ρ 3) (ay_at hp 8 5) (ay_at hp 8 6) (ay_at hp 8 7) (ay_at hp 8 8) (ay_at hp 10 0) (ay_at hp 10 1) (ay_at hp 10 2) (ay_at hp 10 3) (ay_at hp 10 4) (ay_at hp 8 9) (ay_at hp 8 11) (ay_at hp 8 10) (ay_at hp 8 3) (ay_at hp 8 4) (ay_at hp 11) (ay_at hp 12) := (ax_XF_lt (x := 50) (Nat.le_of_ble_eq_true rfl)).mp (ax_gx hE (50, [3, 15]) ax_m0)
  refine ⟨(fun y hy => by cases hy), _, List.mem_cons_self, ρ, fun _ _ => rfl, ax_px hE rfl (fun y hy => ?_)⟩
  cases List.mem_singleton.mp hy
  refine (ax_XF_bi (o := 30) (by decide)).mpr (Or.inr ⟨rfl, ?_⟩)
  show ρ 1 < ρ 3
  omega

theorem axq_rut2_0 : ax_RO ax_wC ax_XC axu_rut2_0 := by
  intro ρ hp hE hT
  have j0 : ρ 0 % 4 = 1 := pz_gj hE 0 (Nat.le_of_ble_eq_true rfl) rfl
  have j1 : ρ 1 % 4 = 1 := pz_gj hE 1 (Nat.le_of_ble_eq_true rfl) rfl
  have j2 : ρ 2 % 4 = 1 := pz_gj hE 2 (Nat.le_of_ble_eq_true rfl) rfl
  have j3 : ρ 3 % 4 = 1 := pz_gj hE 3 (Nat.le_of_ble_eq_true rfl) rfl
  have o1 : ρ 2 < ρ 3 := pz_go hE 11 15 (by decide)
  have o2 : ρ 1 < ρ 2 := pz_go hE 7 11 (by decide)
  obtain ⟨-, -, -, -, F50⟩ : ay_ex hp 8 ∧ ay_ex hp 10 ∧ ay_ex hp 11 ∧ ay_ex hp 12 ∧ pz_x50 (ρ 0) (ρ 3) (ay_at hp 8 5) (ay_at hp 8 6) (ay_at hp 8 7) (ay_at hp 8 8) (ay_at hp 10 0) (ay_at hp 10 1) (ay_at hp 10 2) (ay_at hp 10 3) (ay_at hp 10 4) (ay_at hp 8 9) (ay_at hp 8 11) (ay_at hp 8 10) (ay_at hp 8 3) (ay_at hp 8 4) (ay_at hp 11) (ay_at hp 12) := (ax_XF_lt (x := 50) (Nat.le_of_ble_eq_true rfl)).mp (ax_gx hE (50, [3, 15]) ax_m0)
  refine ⟨(fun y hy => by cases hy), _, List.mem_cons_self, ρ, fun _ _ => rfl, ax_px hE rfl (fun y hy => ?_)⟩
  cases List.mem_singleton.mp hy
  refine (ax_XF_bi (o := 30) (by decide)).mpr (Or.inr ⟨rfl, ?_⟩)
  show ρ 1 < ρ 3
  omega

theorem axq_rut3_0 : ax_RO ax_wC ax_XC axu_rut3_0 := by
  intro ρ hp hE hT
  have j0 : ρ 0 % 4 = 1 := pz_gj hE 0 (Nat.le_of_ble_eq_true rfl) rfl
  have j1 : ρ 1 % 4 = 1 := pz_gj hE 1 (Nat.le_of_ble_eq_true rfl) rfl
  have j2 : ρ 2 % 4 = 1 := pz_gj hE 2 (Nat.le_of_ble_eq_true rfl) rfl
  have j3 : ρ 3 % 4 = 1 := pz_gj hE 3 (Nat.le_of_ble_eq_true rfl) rfl
  have o1 : ρ 2 < ρ 3 := pz_go hE 11 15 (by decide)
  have o2 : ρ 1 < ρ 2 := pz_go hE 7 11 (by decide)
  obtain ⟨-, -, -, -, F50⟩ : ay_ex hp 8 ∧ ay_ex hp 10 ∧ ay_ex hp 11 ∧ ay_ex hp 12 ∧ pz_x50 (ρ 0) (ρ 3) (ay_at hp 8 5) (ay_at hp 8 6) (ay_at hp 8 7) (ay_at hp 8 8) (ay_at hp 10 0) (ay_at hp 10 1) (ay_at hp 10 2) (ay_at hp 10 3) (ay_at hp 10 4) (ay_at hp 8 9) (ay_at hp 8 11) (ay_at hp 8 10) (ay_at hp 8 3) (ay_at hp 8 4) (ay_at hp 11) (ay_at hp 12) := (ax_XF_lt (x := 50) (Nat.le_of_ble_eq_true rfl)).mp (ax_gx hE (50, [3, 15]) ax_m0)
  refine ⟨(fun y hy => by cases hy), _, List.mem_cons_self, ρ, fun _ _ => rfl, ax_px hE rfl (fun y hy => ?_)⟩
  cases List.mem_singleton.mp hy
  refine (ax_XF_bi (o := 30) (by decide)).mpr (Or.inr ⟨rfl, ?_⟩)
  show ρ 1 < ρ 3
  omega

theorem axq_ru7_0 : ax_RO ax_wC ax_XC axu_ru7_0 := by
  intro ρ hp hE hT
  have j0 : ρ 0 % 4 = 1 := pz_gj hE 0 (Nat.le_of_ble_eq_true rfl) rfl
  have j1 : ρ 1 % 4 = 1 := pz_gj hE 1 (Nat.le_of_ble_eq_true rfl) rfl
  have j2 : ρ 2 % 4 = 1 := pz_gj hE 2 (Nat.le_of_ble_eq_true rfl) rfl
  have j3 : ρ 3 % 4 = 1 := pz_gj hE 3 (Nat.le_of_ble_eq_true rfl) rfl
  have j4 : ρ 4 % 4 = 1 := pz_gj hE 4 (Nat.le_of_ble_eq_true rfl) rfl
  obtain ⟨-, -, -, -, F50⟩ : ay_ex hp 8 ∧ ay_ex hp 10 ∧ ay_ex hp 11 ∧ ay_ex hp 12 ∧ pz_x50 (ρ 0) (ρ 1) (ay_at hp 8 5) (ay_at hp 8 6) (ay_at hp 8 7) (ay_at hp 8 8) (ay_at hp 10 0) (ay_at hp 10 1) (ay_at hp 10 2) (ay_at hp 10 3) (ay_at hp 10 4) (ay_at hp 8 9) (ay_at hp 8 11) (ay_at hp 8 10) (ay_at hp 8 3) (ay_at hp 8 4) (ay_at hp 11) (ay_at hp 12) := (ax_XF_lt (x := 50) (Nat.le_of_ble_eq_true rfl)).mp (ax_gx hE (50, [3, 7]) ax_m0)
  have F90 : (pz90 (pz_gt (ρ 0)) (pz_gN (ρ 0)) ((ρ 1) / 4) ((ρ 4) / 4) ∧ 1 ≤ (ρ 4) / 4) := (ax_XF_lt (x := 90) (Nat.le_of_ble_eq_true rfl)).mp (ax_gx hE (90, [3, 7, 19]) ax_m1)
  have F92 : pz_strip ((ρ 3) / 4) = (ρ 4) / 4 := (ax_XF_lt (x := 92) (Nat.le_of_ble_eq_true rfl)).mp (ax_gx hE (92, [15, 19]) ax_m2)
  have F108 : ((ρ 3) / 4 = 2 * ((ρ 2) / 4) + 1 ∧ 1 ≤ (ρ 2) / 4) := (ax_XF_lt (x := 108) (Nat.le_of_ble_eq_true rfl)).mp (ax_gx hE (108, [11, 15]) ax_m3)
  refine ⟨(fun y hy => by cases hy), _, List.mem_cons_self, ρ, fun _ _ => rfl, ax_px hE rfl (fun y hy => ?_)⟩
  cases List.mem_singleton.mp hy
  refine (ax_XF_lt (x := 92) (Nat.le_of_ble_eq_true rfl)).mpr ?_
  show pz_strip ((ρ 2) / 4) = (ρ 4) / 4
  rw [F108.1, pz_strip_odd F108.2] at F92
  exact F92

theorem axq_ru1_1 : ax_RO ax_wC ax_XC axu_ru1_1 := by
  intro ρ hp hE hT
  have j0 : ρ 0 % 4 = 1 := pz_gj hE 0 (Nat.le_of_ble_eq_true rfl) rfl
  have j1 : ρ 1 % 4 = 1 := pz_gj hE 1 (Nat.le_of_ble_eq_true rfl) rfl
  obtain ⟨-, -, -, -, F50⟩ : ay_ex hp 8 ∧ ay_ex hp 10 ∧ ay_ex hp 11 ∧ ay_ex hp 12 ∧ pz_x50 (ρ 0) (ρ 1) (ay_at hp 8 5) (ay_at hp 8 6) (ay_at hp 8 7) (ay_at hp 8 8) (ay_at hp 10 0) (ay_at hp 10 1) (ay_at hp 10 2) (ay_at hp 10 3) (ay_at hp 10 4) (ay_at hp 8 9) (ay_at hp 8 11) (ay_at hp 8 10) (ay_at hp 8 3) (ay_at hp 8 4) (ay_at hp 11) (ay_at hp 12) := (ax_XF_lt (x := 50) (Nat.le_of_ble_eq_true rfl)).mp (ax_gx hE (50, [3, 7]) ax_m0)
  have F78 : pz7 (pz_gt (ρ 0)) (pz_gN (ρ 0)) ((ρ 1) / 4) 8 := (ax_XF_lt (x := 78) (Nat.le_of_ble_eq_true rfl)).mp (ax_gx hE (78, [3, 7]) ax_m1)
  have F106 : pz106 (pz_gt (ρ 0)) (pz_gN (ρ 0)) ((ρ 1) / 4) ((0) / 4) := (ax_XF_lt (x := 106) (Nat.le_of_ble_eq_true rfl)).mp (ax_gx hE (106, [3, 7, 0]) ax_m2)
  refine ⟨(fun y hy => by cases hy), _, List.mem_cons_self, ρ, fun _ _ => rfl, ax_px hE rfl (fun y hy => ?_)⟩
  cases List.mem_singleton.mp hy
  refine (ax_XF_lt (x := 64) (Nat.le_of_ble_eq_true rfl)).mpr ?_
  show pz64 (pz_gt (ρ 0)) (pz_gN (ρ 0)) ((ρ 1) / 4) ((4) / 4)
  exact pq_ru1 F78 F106

theorem axq_ru2_1 : ax_RO ax_wC ax_XC axu_ru2_1 := by
  intro ρ hp hE hT
  have j0 : ρ 0 % 4 = 1 := pz_gj hE 0 (Nat.le_of_ble_eq_true rfl) rfl
  have j1 : ρ 1 % 4 = 1 := pz_gj hE 1 (Nat.le_of_ble_eq_true rfl) rfl
  obtain ⟨i2a, i2b, i2c, i2d⟩ := pz_gi hE 2 2147484648 2147583648 (Nat.le_of_ble_eq_true rfl) rfl
  have c_value : ay_at hp 8 8 = some (ρ 2) := ay_gfj hE 42 32 11 8 8 ax_m3 (ax_vlq rfl rfl) (ax_vlj rfl rfl)
  obtain ⟨-, -, -, -, F50⟩ : ay_ex hp 8 ∧ ay_ex hp 10 ∧ ay_ex hp 11 ∧ ay_ex hp 12 ∧ pz_x50 (ρ 0) (ρ 1) (ay_at hp 8 5) (ay_at hp 8 6) (ay_at hp 8 7) (ay_at hp 8 8) (ay_at hp 10 0) (ay_at hp 10 1) (ay_at hp 10 2) (ay_at hp 10 3) (ay_at hp 10 4) (ay_at hp 8 9) (ay_at hp 8 11) (ay_at hp 8 10) (ay_at hp 8 3) (ay_at hp 8 4) (ay_at hp 11) (ay_at hp 12) := (ax_XF_lt (x := 50) (Nat.le_of_ble_eq_true rfl)).mp (ax_gx hE (50, [3, 7]) ax_m0)
  rw [c_value] at F50
  have F78 : pz7 (pz_gt (ρ 0)) (pz_gN (ρ 0)) ((ρ 1) / 4) 8 := (ax_XF_lt (x := 78) (Nat.le_of_ble_eq_true rfl)).mp (ax_gx hE (78, [3, 7]) ax_m1)
  have F106 : pz106 (pz_gt (ρ 0)) (pz_gN (ρ 0)) ((ρ 1) / 4) ((4) / 4) := (ax_XF_lt (x := 106) (Nat.le_of_ble_eq_true rfl)).mp (ax_gx hE (106, [3, 7, 4]) ax_m2)
  refine ⟨(fun y hy => by cases hy), _, List.mem_cons_self, ρ, fun _ _ => rfl, ax_px hE rfl (fun y hy => ?_)⟩
  cases List.mem_singleton.mp hy
  refine (ax_XF_lt (x := 64) (Nat.le_of_ble_eq_true rfl)).mpr ?_
  show pz64 (pz_gt (ρ 0)) (pz_gN (ρ 0)) ((ρ 1) / 4) ((8) / 4)
  have k2 : pz_kd (pz_gt (ρ 0)) (pz_gN (ρ 0)) (pz_p (pz_cf (pz_gt (ρ 0)) (pz_gN (ρ 0)) (ρ 1 / 4))) = 2 := by
    rcases F106 with ⟨_, z⟩ | ⟨z, _⟩ | ⟨z, _⟩ | ⟨_, ⟨z, _⟩ | ⟨z, _⟩ | ⟨z, _⟩⟩ | ⟨z, _⟩
    · exact z
    all_goals (exfalso; revert z; decide)
  have kd := F50.2.2.1
  have vl := pz_mc (F50.2.2.2.1 (kd.trans k2))
  replace vl : (ρ 2 / 4 ≤ 1000 ∧ pz_vl (pz_gt (ρ 0)) (pz_gN (ρ 0)) (pz_p (pz_cf (pz_gt (ρ 0)) (pz_gN (ρ 0)) (ρ 1 / 4))) = ρ 2 / 4) ∨ (1000 < ρ 2 / 4 ∧ pz_vl (pz_gt (ρ 0)) (pz_gN (ρ 0)) (pz_p (pz_cf (pz_gt (ρ 0)) (pz_gN (ρ 0)) (ρ 1 / 4))) = 1000) := vl
  exact pq_ru2 F78 F106 (by omega)

theorem axq_ru3_1 : ax_RO ax_wC ax_XC axu_ru3_1 := by
  intro ρ hp hE hT
  have j0 : ρ 0 % 4 = 1 := pz_gj hE 0 (Nat.le_of_ble_eq_true rfl) rfl
  have j1 : ρ 1 % 4 = 1 := pz_gj hE 1 (Nat.le_of_ble_eq_true rfl) rfl
  obtain ⟨i2a, i2b, i2c, i2d⟩ := pz_gi hE 2 2147483648 2147484647 (Nat.le_of_ble_eq_true rfl) rfl
  have c_value : ay_at hp 8 8 = some (ρ 2) := ay_gfj hE 42 32 11 8 8 ax_m2 (ax_vlq rfl rfl) (ax_vlj rfl rfl)
  obtain ⟨-, -, -, -, F50⟩ : ay_ex hp 8 ∧ ay_ex hp 10 ∧ ay_ex hp 11 ∧ ay_ex hp 12 ∧ pz_x50 (ρ 0) (ρ 1) (ay_at hp 8 5) (ay_at hp 8 6) (ay_at hp 8 7) (ay_at hp 8 8) (ay_at hp 10 0) (ay_at hp 10 1) (ay_at hp 10 2) (ay_at hp 10 3) (ay_at hp 10 4) (ay_at hp 8 9) (ay_at hp 8 11) (ay_at hp 8 10) (ay_at hp 8 3) (ay_at hp 8 4) (ay_at hp 11) (ay_at hp 12) := (ax_XF_lt (x := 50) (Nat.le_of_ble_eq_true rfl)).mp (ax_gx hE (50, [3, 7]) ax_m0)
  rw [c_value] at F50
  have F106 : pz106 (pz_gt (ρ 0)) (pz_gN (ρ 0)) ((ρ 1) / 4) ((4) / 4) := (ax_XF_lt (x := 106) (Nat.le_of_ble_eq_true rfl)).mp (ax_gx hE (106, [3, 7, 4]) ax_m1)
  refine ⟨(fun y hy => by cases hy), _, List.mem_cons_self, ρ, fun _ _ => rfl, ax_px hE rfl (fun y hy => ?_)⟩
  cases List.mem_singleton.mp hy
  refine (ax_XF_lt (x := 107) (Nat.le_of_ble_eq_true rfl)).mpr ?_
  show pz107 (pz_gt (ρ 0)) (pz_gN (ρ 0)) ((ρ 1) / 4) ((4) / 4)
  have k2 : pz_kd (pz_gt (ρ 0)) (pz_gN (ρ 0)) (pz_p (pz_cf (pz_gt (ρ 0)) (pz_gN (ρ 0)) (ρ 1 / 4))) = 2 := by
    rcases F106 with ⟨_, z⟩ | ⟨z, _⟩ | ⟨z, _⟩ | ⟨_, ⟨z, _⟩ | ⟨z, _⟩ | ⟨z, _⟩⟩ | ⟨z, _⟩
    · exact z
    all_goals (exfalso; revert z; decide)
  have kd := F50.2.2.1
  have vl := pz_mc (F50.2.2.2.1 (kd.trans k2))
  replace vl : (ρ 2 / 4 ≤ 1000 ∧ pz_vl (pz_gt (ρ 0)) (pz_gN (ρ 0)) (pz_p (pz_cf (pz_gt (ρ 0)) (pz_gN (ρ 0)) (ρ 1 / 4))) = ρ 2 / 4) ∨ (1000 < ρ 2 / 4 ∧ pz_vl (pz_gt (ρ 0)) (pz_gN (ρ 0)) (pz_p (pz_cf (pz_gt (ρ 0)) (pz_gN (ρ 0)) (ρ 1 / 4))) = 1000) := vl
  exact ⟨F106, by decide, fun _ => by omega⟩

theorem axq_ru3c2_1 : ax_RO ax_wC ax_XC axu_ru3c2_1 := by
  intro ρ hp hE hT
  have j0 : ρ 0 % 4 = 1 := pz_gj hE 0 (Nat.le_of_ble_eq_true rfl) rfl
  have j1 : ρ 1 % 4 = 1 := pz_gj hE 1 (Nat.le_of_ble_eq_true rfl) rfl
  obtain ⟨-, -, -, -, F50⟩ : ay_ex hp 8 ∧ ay_ex hp 10 ∧ ay_ex hp 11 ∧ ay_ex hp 12 ∧ pz_x50 (ρ 0) (ρ 1) (ay_at hp 8 5) (ay_at hp 8 6) (ay_at hp 8 7) (ay_at hp 8 8) (ay_at hp 10 0) (ay_at hp 10 1) (ay_at hp 10 2) (ay_at hp 10 3) (ay_at hp 10 4) (ay_at hp 8 9) (ay_at hp 8 11) (ay_at hp 8 10) (ay_at hp 8 3) (ay_at hp 8 4) (ay_at hp 11) (ay_at hp 12) := (ax_XF_lt (x := 50) (Nat.le_of_ble_eq_true rfl)).mp (ax_gx hE (50, [3, 7]) ax_m0)
  have F106 : pz106 (pz_gt (ρ 0)) (pz_gN (ρ 0)) ((ρ 1) / 4) ((8) / 4) := (ax_XF_lt (x := 106) (Nat.le_of_ble_eq_true rfl)).mp (ax_gx hE (106, [3, 7, 8]) ax_m1)
  refine ⟨(fun y hy => by cases hy), _, List.mem_cons_self, ρ, fun _ _ => rfl, ax_px hE rfl (fun y hy => ?_)⟩
  cases List.mem_singleton.mp hy
  refine (ax_XF_lt (x := 107) (Nat.le_of_ble_eq_true rfl)).mpr ?_
  show pz107 (pz_gt (ρ 0)) (pz_gN (ρ 0)) ((ρ 1) / 4) ((8) / 4)
  exact ⟨F106, by decide, fun z => absurd z (by decide)⟩

theorem axq_ru3c3_1 : ax_RO ax_wC ax_XC axu_ru3c3_1 := by
  intro ρ hp hE hT
  have j0 : ρ 0 % 4 = 1 := pz_gj hE 0 (Nat.le_of_ble_eq_true rfl) rfl
  have j1 : ρ 1 % 4 = 1 := pz_gj hE 1 (Nat.le_of_ble_eq_true rfl) rfl
  obtain ⟨-, -, -, -, F50⟩ : ay_ex hp 8 ∧ ay_ex hp 10 ∧ ay_ex hp 11 ∧ ay_ex hp 12 ∧ pz_x50 (ρ 0) (ρ 1) (ay_at hp 8 5) (ay_at hp 8 6) (ay_at hp 8 7) (ay_at hp 8 8) (ay_at hp 10 0) (ay_at hp 10 1) (ay_at hp 10 2) (ay_at hp 10 3) (ay_at hp 10 4) (ay_at hp 8 9) (ay_at hp 8 11) (ay_at hp 8 10) (ay_at hp 8 3) (ay_at hp 8 4) (ay_at hp 11) (ay_at hp 12) := (ax_XF_lt (x := 50) (Nat.le_of_ble_eq_true rfl)).mp (ax_gx hE (50, [3, 7]) ax_m0)
  have F106 : pz106 (pz_gt (ρ 0)) (pz_gN (ρ 0)) ((ρ 1) / 4) ((12) / 4) := (ax_XF_lt (x := 106) (Nat.le_of_ble_eq_true rfl)).mp (ax_gx hE (106, [3, 7, 12]) ax_m1)
  refine ⟨(fun y hy => by cases hy), _, List.mem_cons_self, ρ, fun _ _ => rfl, ax_px hE rfl (fun y hy => ?_)⟩
  cases List.mem_singleton.mp hy
  refine (ax_XF_lt (x := 107) (Nat.le_of_ble_eq_true rfl)).mpr ?_
  show pz107 (pz_gt (ρ 0)) (pz_gN (ρ 0)) ((ρ 1) / 4) ((12) / 4)
  exact ⟨F106, by decide, fun z => absurd z (by decide)⟩

theorem axq_ru3c4_1 : ax_RO ax_wC ax_XC axu_ru3c4_1 := by
  intro ρ hp hE hT
  have j0 : ρ 0 % 4 = 1 := pz_gj hE 0 (Nat.le_of_ble_eq_true rfl) rfl
  have j1 : ρ 1 % 4 = 1 := pz_gj hE 1 (Nat.le_of_ble_eq_true rfl) rfl
  obtain ⟨-, -, -, -, F50⟩ : ay_ex hp 8 ∧ ay_ex hp 10 ∧ ay_ex hp 11 ∧ ay_ex hp 12 ∧ pz_x50 (ρ 0) (ρ 1) (ay_at hp 8 5) (ay_at hp 8 6) (ay_at hp 8 7) (ay_at hp 8 8) (ay_at hp 10 0) (ay_at hp 10 1) (ay_at hp 10 2) (ay_at hp 10 3) (ay_at hp 10 4) (ay_at hp 8 9) (ay_at hp 8 11) (ay_at hp 8 10) (ay_at hp 8 3) (ay_at hp 8 4) (ay_at hp 11) (ay_at hp 12) := (ax_XF_lt (x := 50) (Nat.le_of_ble_eq_true rfl)).mp (ax_gx hE (50, [3, 7]) ax_m0)
  have F106 : pz106 (pz_gt (ρ 0)) (pz_gN (ρ 0)) ((ρ 1) / 4) ((16) / 4) := (ax_XF_lt (x := 106) (Nat.le_of_ble_eq_true rfl)).mp (ax_gx hE (106, [3, 7, 16]) ax_m1)
  refine ⟨(fun y hy => by cases hy), _, List.mem_cons_self, ρ, fun _ _ => rfl, ax_px hE rfl (fun y hy => ?_)⟩
  cases List.mem_singleton.mp hy
  refine (ax_XF_lt (x := 107) (Nat.le_of_ble_eq_true rfl)).mpr ?_
  show pz107 (pz_gt (ρ 0)) (pz_gN (ρ 0)) ((ρ 1) / 4) ((16) / 4)
  exact ⟨F106, by decide, fun z => absurd z (by decide)⟩

theorem axq_ru3c5_1 : ax_RO ax_wC ax_XC axu_ru3c5_1 := by
  intro ρ hp hE hT
  have j0 : ρ 0 % 4 = 1 := pz_gj hE 0 (Nat.le_of_ble_eq_true rfl) rfl
  have j1 : ρ 1 % 4 = 1 := pz_gj hE 1 (Nat.le_of_ble_eq_true rfl) rfl
  obtain ⟨-, -, -, -, F50⟩ : ay_ex hp 8 ∧ ay_ex hp 10 ∧ ay_ex hp 11 ∧ ay_ex hp 12 ∧ pz_x50 (ρ 0) (ρ 1) (ay_at hp 8 5) (ay_at hp 8 6) (ay_at hp 8 7) (ay_at hp 8 8) (ay_at hp 10 0) (ay_at hp 10 1) (ay_at hp 10 2) (ay_at hp 10 3) (ay_at hp 10 4) (ay_at hp 8 9) (ay_at hp 8 11) (ay_at hp 8 10) (ay_at hp 8 3) (ay_at hp 8 4) (ay_at hp 11) (ay_at hp 12) := (ax_XF_lt (x := 50) (Nat.le_of_ble_eq_true rfl)).mp (ax_gx hE (50, [3, 7]) ax_m0)
  have F106 : pz106 (pz_gt (ρ 0)) (pz_gN (ρ 0)) ((ρ 1) / 4) ((20) / 4) := (ax_XF_lt (x := 106) (Nat.le_of_ble_eq_true rfl)).mp (ax_gx hE (106, [3, 7, 20]) ax_m1)
  refine ⟨(fun y hy => by cases hy), _, List.mem_cons_self, ρ, fun _ _ => rfl, ax_px hE rfl (fun y hy => ?_)⟩
  cases List.mem_singleton.mp hy
  refine (ax_XF_lt (x := 107) (Nat.le_of_ble_eq_true rfl)).mpr ?_
  show pz107 (pz_gt (ρ 0)) (pz_gN (ρ 0)) ((ρ 1) / 4) ((20) / 4)
  exact ⟨F106, by decide, fun z => absurd z (by decide)⟩

theorem axq_ru3c40_1 : ax_RO ax_wC ax_XC axu_ru3c40_1 := by
  intro ρ hp hE hT
  have j0 : ρ 0 % 4 = 1 := pz_gj hE 0 (Nat.le_of_ble_eq_true rfl) rfl
  have j1 : ρ 1 % 4 = 1 := pz_gj hE 1 (Nat.le_of_ble_eq_true rfl) rfl
  obtain ⟨-, -, -, -, F50⟩ : ay_ex hp 8 ∧ ay_ex hp 10 ∧ ay_ex hp 11 ∧ ay_ex hp 12 ∧ pz_x50 (ρ 0) (ρ 1) (ay_at hp 8 5) (ay_at hp 8 6) (ay_at hp 8 7) (ay_at hp 8 8) (ay_at hp 10 0) (ay_at hp 10 1) (ay_at hp 10 2) (ay_at hp 10 3) (ay_at hp 10 4) (ay_at hp 8 9) (ay_at hp 8 11) (ay_at hp 8 10) (ay_at hp 8 3) (ay_at hp 8 4) (ay_at hp 11) (ay_at hp 12) := (ax_XF_lt (x := 50) (Nat.le_of_ble_eq_true rfl)).mp (ax_gx hE (50, [3, 7]) ax_m0)
  have F106 : pz106 (pz_gt (ρ 0)) (pz_gN (ρ 0)) ((ρ 1) / 4) ((160) / 4) := (ax_XF_lt (x := 106) (Nat.le_of_ble_eq_true rfl)).mp (ax_gx hE (106, [3, 7, 160]) ax_m1)
  refine ⟨(fun y hy => by cases hy), _, List.mem_cons_self, ρ, fun _ _ => rfl, ax_px hE rfl (fun y hy => ?_)⟩
  cases List.mem_singleton.mp hy
  refine (ax_XF_lt (x := 107) (Nat.le_of_ble_eq_true rfl)).mpr ?_
  show pz107 (pz_gt (ρ 0)) (pz_gN (ρ 0)) ((ρ 1) / 4) ((160) / 4)
  exact ⟨F106, by decide, fun z => absurd z (by decide)⟩

