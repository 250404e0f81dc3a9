theorem axq_iw3_1 : ax_RO ax_wC ax_XC axu_iw3_1 := by
  intro ρ hp hE hT
  have j0 : ρ 0 % 4 = 1 := pz_gj hE 0 (by decide) rfl
  have j1 : ρ 1 % 4 = 1 := pz_gj hE 1 (by decide) rfl
  obtain ⟨i2a, i2b, i2c, i2d⟩ := pz_gi hE 2 2147483649 2147483649 (by decide) rfl
  obtain ⟨i3a, i3b, i3c, i3d⟩ := pz_gi hE 3 2147483652 2147483652 (by decide) rfl
  obtain ⟨i4a, i4b, i4c, i4d⟩ := pz_gi hE 4 2147483648 2147484448 (by decide) rfl
  obtain ⟨i5a, i5b, i5c, i5d⟩ := pz_gi hE 5 2147483648 2147484448 (by decide) rfl
  have c_kind : ay_at hp 8 7 = some (ρ 2) := ay_gfj hE 42 28 11 8 7 (by decide) (by rw [ax_vl_c (by decide)]) (by rw [ax_vl_c (by decide)])
  have c_place : ay_at hp 8 6 = some (ρ 4) := ay_gfj hE 42 24 19 8 6 (by decide) (by rw [ax_vl_c (by decide)]) (by rw [ax_vl_c (by decide)])
  have c_ahead : ay_at hp 8 5 = some (ρ 5) := ay_gfj hE 42 20 23 8 5 (by decide) (by rw [ax_vl_c (by decide)]) (by rw [ax_vl_c (by decide)])
  have s1 : (ρ 3 / 4 + 2147483648) % 4294967296 + (ρ 4 / 4 + 2147483648) % 4294967296 = (ρ 5 / 4 + 2147483648) % 4294967296 + 2147483648 := pz_gs hE 15 19 23 (by decide)
  obtain ⟨-, -, -, -, F50⟩ : ay_ex hp 8 ∧ ay_ex hp 10 ∧ ay_ex hp 11 ∧ ay_ex hp 12 ∧ pz_x50 (ρ 0) (ρ 1) (ay_at hp 8 5) (ay_at hp 8 6) (ay_at hp 8 7) (ay_at hp 8 8) (ay_at hp 10 0) (ay_at hp 10 1) (ay_at hp 10 2) (ay_at hp 10 3) (ay_at hp 10 4) (ay_at hp 8 9) (ay_at hp 8 11) (ay_at hp 8 10) (ay_at hp 8 3) (ay_at hp 8 4) (ay_at hp 11) (ay_at hp 12) := (ax_XF_lt (by decide)).mp (ax_gx hE (50, [3, 7]) (by decide))
  rw [c_kind] at F50
  rw [c_place] at F50
  rw [c_ahead] at F50
  refine ⟨(fun y hy => by cases hy), _, List.mem_cons_self, ρ, fun _ _ => rfl, ax_px hE (by decide) (fun y hy => ?_)⟩
  cases List.mem_singleton.mp hy
  refine (ax_XF_lt (x := 62) (by decide)).mpr ?_
  show pz_x62 (ρ 0) (ρ 1) (4006) (0)
  have kd : ρ 2 / 4 = pz_kd (pz_gt (ρ 0)) (pz_gN (ρ 0)) (pz_p (pz_cf (pz_gt (ρ 0)) (pz_gN (ρ 0)) (ρ 1 / 4))) := F50.2.2.1
  have e1 : ρ 5 / 4 = pz_nx (pz_gt (ρ 0)) (pz_gN (ρ 0)) (pz_p (pz_cf (pz_gt (ρ 0)) (pz_gN (ρ 0)) (ρ 1 / 4))) := F50.1
  have e2 : ρ 4 / 4 = pz_at (pz_gt (ρ 0)) (pz_gN (ρ 0)) (pz_p (pz_cf (pz_gt (ρ 0)) (pz_gN (ρ 0)) (ρ 1 / 4))) := F50.2.1
  refine ⟨kd.symm.trans (show ρ 2 / 4 = 1 by omega), ?_, fun j hj => absurd (show j < 0 from hj) (by omega)⟩
  show pz_nx (pz_gt (ρ 0)) (pz_gN (ρ 0)) (pz_p (pz_cf (pz_gt (ρ 0)) (pz_gN (ρ 0)) (ρ 1 / 4))) - pz_at (pz_gt (ρ 0)) (pz_gN (ρ 0)) (pz_p (pz_cf (pz_gt (ρ 0)) (pz_gN (ρ 0)) (ρ 1 / 4))) = 4
  omega

theorem axq_iw6_1 : ax_RO ax_wC ax_XC axu_iw6_1 := by
  intro ρ hp hE hT
  have j0 : ρ 0 % 4 = 1 := pz_gj hE 0 (by decide) rfl
  have j1 : ρ 1 % 4 = 1 := pz_gj hE 1 (by decide) rfl
  obtain ⟨i2a, i2b, i2c, i2d⟩ := pz_gi hE 2 2147483652 2147483652 (by decide) rfl
  obtain ⟨-, -, -, -, F50⟩ : ay_ex hp 8 ∧ ay_ex hp 10 ∧ ay_ex hp 11 ∧ ay_ex hp 12 ∧ pz_x50 (ρ 0) (ρ 1) (ay_at hp 8 5) (ay_at hp 8 6) (ay_at hp 8 7) (ay_at hp 8 8) (ay_at hp 10 0) (ay_at hp 10 1) (ay_at hp 10 2) (ay_at hp 10 3) (ay_at hp 10 4) (ay_at hp 8 9) (ay_at hp 8 11) (ay_at hp 8 10) (ay_at hp 8 3) (ay_at hp 8 4) (ay_at hp 11) (ay_at hp 12) := (ax_XF_lt (by decide)).mp (ax_gx hE (50, [3, 7]) (by decide))
  have F62 : pz_x62 (ρ 0) (ρ 1) (4006) (ρ 2) := (ax_XF_lt (by decide)).mp (ax_gx hE (62, [3, 7, 4006, 11]) (by decide))
  refine ⟨(fun y hy => by cases hy), _, List.mem_cons_self, ρ, fun _ _ => rfl, ax_px hE (by decide) (fun y hy => ?_)⟩
  cases List.mem_singleton.mp hy
  refine (ax_XF_lt (x := 60) (by decide)).mpr ?_
  show pz60 (pz_gt (ρ 0)) (pz_gN (ρ 0)) ((ρ 1) / 4) ((4006) / 4 - 1000)
  exact pz_is_yes F62.1 F62.2.1 (fun i hi => F62.2.2 i (by have : i < 4 := hi; omega))

theorem axq_iw1a_2 : ax_RO ax_wC ax_XC axu_iw1a_2 := by
  intro ρ hp hE hT
  have j0 : ρ 0 % 4 = 1 := pz_gj hE 0 (by decide) rfl
  have j1 : ρ 1 % 4 = 1 := pz_gj hE 1 (by decide) rfl
  obtain ⟨i2a, i2b, i2c, i2d⟩ := pz_gi hE 2 0 2147483648 (by decide) rfl
  have c_kind : ay_at hp 8 7 = some (ρ 2) := ay_gfj hE 42 28 11 8 7 (by decide) (by rw [ax_vl_c (by decide)]) (by rw [ax_vl_c (by decide)])
  obtain ⟨-, -, -, -, F50⟩ : ay_ex hp 8 ∧ ay_ex hp 10 ∧ ay_ex hp 11 ∧ ay_ex hp 12 ∧ pz_x50 (ρ 0) (ρ 1) (ay_at hp 8 5) (ay_at hp 8 6) (ay_at hp 8 7) (ay_at hp 8 8) (ay_at hp 10 0) (ay_at hp 10 1) (ay_at hp 10 2) (ay_at hp 10 3) (ay_at hp 10 4) (ay_at hp 8 9) (ay_at hp 8 11) (ay_at hp 8 10) (ay_at hp 8 3) (ay_at hp 8 4) (ay_at hp 11) (ay_at hp 12) := (ax_XF_lt (by decide)).mp (ax_gx hE (50, [3, 7]) (by decide))
  rw [c_kind] at F50
  refine ⟨(fun y hy => by cases hy), _, List.mem_cons_self, ρ, fun _ _ => rfl, ax_px hE (by decide) (fun y hy => ?_)⟩
  cases List.mem_singleton.mp hy
  refine (ax_XF_lt (x := 61) (by decide)).mpr ?_
  show pz61 (pz_gt (ρ 0)) (pz_gN (ρ 0)) ((ρ 1) / 4) ((4010) / 4 - 1000)
  have kd : ρ 2 / 4 = pz_kd (pz_gt (ρ 0)) (pz_gN (ρ 0)) (pz_p (pz_cf (pz_gt (ρ 0)) (pz_gN (ρ 0)) (ρ 1 / 4))) := F50.2.2.1
  exact pz_is_no (Or.inl (by omega))

theorem axq_iw2a_2 : ax_RO ax_wC ax_XC axu_iw2a_2 := by
  intro ρ hp hE hT
  have j0 : ρ 0 % 4 = 1 := pz_gj hE 0 (by decide) rfl
  have j1 : ρ 1 % 4 = 1 := pz_gj hE 1 (by decide) rfl
  obtain ⟨i2a, i2b, i2c, i2d⟩ := pz_gi hE 2 2147482848 2147483651 (by decide) rfl
  obtain ⟨i3a, i3b, i3c, i3d⟩ := pz_gi hE 3 2147483648 2147484448 (by decide) rfl
  obtain ⟨i4a, i4b, i4c, i4d⟩ := pz_gi hE 4 2147483648 2147484448 (by decide) rfl
  have c_place : ay_at hp 8 6 = some (ρ 3) := ay_gfj hE 42 24 15 8 6 (by decide) (by rw [ax_vl_c (by decide)]) (by rw [ax_vl_c (by decide)])
  have c_ahead : ay_at hp 8 5 = some (ρ 4) := ay_gfj hE 42 20 19 8 5 (by decide) (by rw [ax_vl_c (by decide)]) (by rw [ax_vl_c (by decide)])
  have s1 : (ρ 2 / 4 + 2147483648) % 4294967296 + (ρ 3 / 4 + 2147483648) % 4294967296 = (ρ 4 / 4 + 2147483648) % 4294967296 + 2147483648 := pz_gs hE 11 15 19 (by decide)
  obtain ⟨-, -, -, -, F50⟩ : ay_ex hp 8 ∧ ay_ex hp 10 ∧ ay_ex hp 11 ∧ ay_ex hp 12 ∧ pz_x50 (ρ 0) (ρ 1) (ay_at hp 8 5) (ay_at hp 8 6) (ay_at hp 8 7) (ay_at hp 8 8) (ay_at hp 10 0) (ay_at hp 10 1) (ay_at hp 10 2) (ay_at hp 10 3) (ay_at hp 10 4) (ay_at hp 8 9) (ay_at hp 8 11) (ay_at hp 8 10) (ay_at hp 8 3) (ay_at hp 8 4) (ay_at hp 11) (ay_at hp 12) := (ax_XF_lt (by decide)).mp (ax_gx hE (50, [3, 7]) (by decide))
  rw [c_place] at F50
  rw [c_ahead] at F50
  refine ⟨(fun y hy => by cases hy), _, List.mem_cons_self, ρ, fun _ _ => rfl, ax_px hE (by decide) (fun y hy => ?_)⟩
  cases List.mem_singleton.mp hy
  refine (ax_XF_lt (x := 61) (by decide)).mpr ?_
  show pz61 (pz_gt (ρ 0)) (pz_gN (ρ 0)) ((ρ 1) / 4) ((4010) / 4 - 1000)
  have e1 : ρ 4 / 4 = pz_nx (pz_gt (ρ 0)) (pz_gN (ρ 0)) (pz_p (pz_cf (pz_gt (ρ 0)) (pz_gN (ρ 0)) (ρ 1 / 4))) := F50.1
  have e2 : ρ 3 / 4 = pz_at (pz_gt (ρ 0)) (pz_gN (ρ 0)) (pz_p (pz_cf (pz_gt (ρ 0)) (pz_gN (ρ 0)) (ρ 1 / 4))) := F50.2.1
  refine pz_is_no (Or.inr (Or.inl ?_))
  show pz_nx (pz_gt (ρ 0)) (pz_gN (ρ 0)) (pz_p (pz_cf (pz_gt (ρ 0)) (pz_gN (ρ 0)) (ρ 1 / 4))) - pz_at (pz_gt (ρ 0)) (pz_gN (ρ 0)) (pz_p (pz_cf (pz_gt (ρ 0)) (pz_gN (ρ 0)) (ρ 1 / 4))) ≠ 4
  omega

theorem axq_iw1b_2 : ax_RO ax_wC ax_XC axu_iw1b_2 := by
  intro ρ hp hE hT
  have j0 : ρ 0 % 4 = 1 := pz_gj hE 0 (by decide) rfl
  have j1 : ρ 1 % 4 = 1 := pz_gj hE 1 (by decide) rfl
  obtain ⟨i2a, i2b, i2c, i2d⟩ := pz_gi hE 2 2147483650 4294967295 (by decide) rfl
  have c_kind : ay_at hp 8 7 = some (ρ 2) := ay_gfj hE 42 28 11 8 7 (by decide) (by rw [ax_vl_c (by decide)]) (by rw [ax_vl_c (by decide)])
  obtain ⟨-, -, -, -, F50⟩ : ay_ex hp 8 ∧ ay_ex hp 10 ∧ ay_ex hp 11 ∧ ay_ex hp 12 ∧ pz_x50 (ρ 0) (ρ 1) (ay_at hp 8 5) (ay_at hp 8 6) (ay_at hp 8 7) (ay_at hp 8 8) (ay_at hp 10 0) (ay_at hp 10 1) (ay_at hp 10 2) (ay_at hp 10 3) (ay_at hp 10 4) (ay_at hp 8 9) (ay_at hp 8 11) (ay_at hp 8 10) (ay_at hp 8 3) (ay_at hp 8 4) (ay_at hp 11) (ay_at hp 12) := (ax_XF_lt (by decide)).mp (ax_gx hE (50, [3, 7]) (by decide))
  rw [c_kind] at F50
  refine ⟨(fun y hy => by cases hy), _, List.mem_cons_self, ρ, fun _ _ => rfl, ax_px hE (by decide) (fun y hy => ?_)⟩
  cases List.mem_singleton.mp hy
  refine (ax_XF_lt (x := 61) (by decide)).mpr ?_
  show pz61 (pz_gt (ρ 0)) (pz_gN (ρ 0)) ((ρ 1) / 4) ((4010) / 4 - 1000)
  have kd : ρ 2 / 4 = pz_kd (pz_gt (ρ 0)) (pz_gN (ρ 0)) (pz_p (pz_cf (pz_gt (ρ 0)) (pz_gN (ρ 0)) (ρ 1 / 4))) := F50.2.2.1
  exact pz_is_no (Or.inl (by omega))

theorem axq_iw2b_2 : ax_RO ax_wC ax_XC axu_iw2b_2 := by
  intro ρ hp hE hT
  have j0 : ρ 0 % 4 = 1 := pz_gj hE 0 (by decide) rfl
  have j1 : ρ 1 % 4 = 1 := pz_gj hE 1 (by decide) rfl
  obtain ⟨i2a, i2b, i2c, i2d⟩ := pz_gi hE 2 2147483653 2147484448 (by decide) rfl
  obtain ⟨i3a, i3b, i3c, i3d⟩ := pz_gi hE 3 2147483648 2147484448 (by decide) rfl
  obtain ⟨i4a, i4b, i4c, i4d⟩ := pz_gi hE 4 2147483648 2147484448 (by decide) rfl
  have c_place : ay_at hp 8 6 = some (ρ 3) := ay_gfj hE 42 24 15 8 6 (by decide) (by rw [ax_vl_c (by decide)]) (by rw [ax_vl_c (by decide)])
  have c_ahead : ay_at hp 8 5 = some (ρ 4) := ay_gfj hE 42 20 19 8 5 (by decide) (by rw [ax_vl_c (by decide)]) (by rw [ax_vl_c (by decide)])
  have s1 : (ρ 2 / 4 + 2147483648) % 4294967296 + (ρ 3 / 4 + 2147483648) % 4294967296 = (ρ 4 / 4 + 2147483648) % 4294967296 + 2147483648 := pz_gs hE 11 15 19 (by decide)
  obtain ⟨-, -, -, -, F50⟩ : ay_ex hp 8 ∧ ay_ex hp 10 ∧ ay_ex hp 11 ∧ ay_ex hp 12 ∧ pz_x50 (ρ 0) (ρ 1) (ay_at hp 8 5) (ay_at hp 8 6) (ay_at hp 8 7) (ay_at hp 8 8) (ay_at hp 10 0) (ay_at hp 10 1) (ay_at hp 10 2) (ay_at hp 10 3) (ay_at hp 10 4) (ay_at hp 8 9) (ay_at hp 8 11) (ay_at hp 8 10) (ay_at hp 8 3) (ay_at hp 8 4) (ay_at hp 11) (ay_at hp 12) := (ax_XF_lt (by decide)).mp (ax_gx hE (50, [3, 7]) (by decide))
  rw [c_place] at F50
  rw [c_ahead] at F50
  refine ⟨(fun y hy => by cases hy), _, List.mem_cons_self, ρ, fun _ _ => rfl, ax_px hE (by decide) (fun y hy => ?_)⟩
  cases List.mem_singleton.mp hy
  refine (ax_XF_lt (x := 61) (by decide)).mpr ?_
  show pz61 (pz_gt (ρ 0)) (pz_gN (ρ 0)) ((ρ 1) / 4) ((4010) / 4 - 1000)
  have e1 : ρ 4 / 4 = pz_nx (pz_gt (ρ 0)) (pz_gN (ρ 0)) (pz_p (pz_cf (pz_gt (ρ 0)) (pz_gN (ρ 0)) (ρ 1 / 4))) := F50.1
  have e2 : ρ 3 / 4 = pz_at (pz_gt (ρ 0)) (pz_gN (ρ 0)) (pz_p (pz_cf (pz_gt (ρ 0)) (pz_gN (ρ 0)) (ρ 1 / 4))) := F50.2.1
  refine pz_is_no (Or.inr (Or.inl ?_))
  show pz_nx (pz_gt (ρ 0)) (pz_gN (ρ 0)) (pz_p (pz_cf (pz_gt (ρ 0)) (pz_gN (ρ 0)) (ρ 1 / 4))) - pz_at (pz_gt (ρ 0)) (pz_gN (ρ 0)) (pz_p (pz_cf (pz_gt (ρ 0)) (pz_gN (ρ 0)) (ρ 1 / 4))) ≠ 4
  omega

theorem axq_iw3_2 : ax_RO ax_wC ax_XC axu_iw3_2 := by
  intro ρ hp hE hT
  have j0 : ρ 0 % 4 = 1 := pz_gj hE 0 (by decide) rfl
  have j1 : ρ 1 % 4 = 1 := pz_gj hE 1 (by decide) rfl
  obtain ⟨i2a, i2b, i2c, i2d⟩ := pz_gi hE 2 2147483649 2147483649 (by decide) rfl
  obtain ⟨i3a, i3b, i3c, i3d⟩ := pz_gi hE 3 2147483652 2147483652 (by decide) rfl
  obtain ⟨i4a, i4b, i4c, i4d⟩ := pz_gi hE 4 2147483648 2147484448 (by decide) rfl
  obtain ⟨i5a, i5b, i5c, i5d⟩ := pz_gi hE 5 2147483648 2147484448 (by decide) rfl
  have c_kind : ay_at hp 8 7 = some (ρ 2) := ay_gfj hE 42 28 11 8 7 (by decide) (by rw [ax_vl_c (by decide)]) (by rw [ax_vl_c (by decide)])
  have c_place : ay_at hp 8 6 = some (ρ 4) := ay_gfj hE 42 24 19 8 6 (by decide) (by rw [ax_vl_c (by decide)]) (by rw [ax_vl_c (by decide)])
  have c_ahead : ay_at hp 8 5 = some (ρ 5) := ay_gfj hE 42 20 23 8 5 (by decide) (by rw [ax_vl_c (by decide)]) (by rw [ax_vl_c (by decide)])
  have s1 : (ρ 3 / 4 + 2147483648) % 4294967296 + (ρ 4 / 4 + 2147483648) % 4294967296 = (ρ 5 / 4 + 2147483648) % 4294967296 + 2147483648 := pz_gs hE 15 19 23 (by decide)
  obtain ⟨-, -, -, -, F50⟩ : ay_ex hp 8 ∧ ay_ex hp 10 ∧ ay_ex hp 11 ∧ ay_ex hp 12 ∧ pz_x50 (ρ 0) (ρ 1) (ay_at hp 8 5) (ay_at hp 8 6) (ay_at hp 8 7) (ay_at hp 8 8) (ay_at hp 10 0) (ay_at hp 10 1) (ay_at hp 10 2) (ay_at hp 10 3) (ay_at hp 10 4) (ay_at hp 8 9) (ay_at hp 8 11) (ay_at hp 8 10) (ay_at hp 8 3) (ay_at hp 8 4) (ay_at hp 11) (ay_at hp 12) := (ax_XF_lt (by decide)).mp (ax_gx hE (50, [3, 7]) (by decide))
  rw [c_kind] at F50
  rw [c_place] at F50
  rw [c_ahead] at F50
  refine ⟨(fun y hy => by cases hy), _, List.mem_cons_self, ρ, fun _ _ => rfl, ax_px hE (by decide) (fun y hy => ?_)⟩
  cases List.mem_singleton.mp hy
  refine (ax_XF_lt (x := 62) (by decide)).mpr ?_
  show pz_x62 (ρ 0) (ρ 1) (4010) (0)
  have kd : ρ 2 / 4 = pz_kd (pz_gt (ρ 0)) (pz_gN (ρ 0)) (pz_p (pz_cf (pz_gt (ρ 0)) (pz_gN (ρ 0)) (ρ 1 / 4))) := F50.2.2.1
  have e1 : ρ 5 / 4 = pz_nx (pz_gt (ρ 0)) (pz_gN (ρ 0)) (pz_p (pz_cf (pz_gt (ρ 0)) (pz_gN (ρ 0)) (ρ 1 / 4))) := F50.1
  have e2 : ρ 4 / 4 = pz_at (pz_gt (ρ 0)) (pz_gN (ρ 0)) (pz_p (pz_cf (pz_gt (ρ 0)) (pz_gN (ρ 0)) (ρ 1 / 4))) := F50.2.1
  refine ⟨kd.symm.trans (show ρ 2 / 4 = 1 by omega), ?_, fun j hj => absurd (show j < 0 from hj) (by omega)⟩
  show pz_nx (pz_gt (ρ 0)) (pz_gN (ρ 0)) (pz_p (pz_cf (pz_gt (ρ 0)) (pz_gN (ρ 0)) (ρ 1 / 4))) - pz_at (pz_gt (ρ 0)) (pz_gN (ρ 0)) (pz_p (pz_cf (pz_gt (ρ 0)) (pz_gN (ρ 0)) (ρ 1 / 4))) = 4
  omega

theorem axq_iw6_2 : ax_RO ax_wC ax_XC axu_iw6_2 := by
  intro ρ hp hE hT
  have j0 : ρ 0 % 4 = 1 := pz_gj hE 0 (by decide) rfl
  have j1 : ρ 1 % 4 = 1 := pz_gj hE 1 (by decide) rfl
  obtain ⟨i2a, i2b, i2c, i2d⟩ := pz_gi hE 2 2147483652 2147483652 (by decide) rfl
  obtain ⟨-, -, -, -, F50⟩ : ay_ex hp 8 ∧ ay_ex hp 10 ∧ ay_ex hp 11 ∧ ay_ex hp 12 ∧ pz_x50 (ρ 0) (ρ 1) (ay_at hp 8 5) (ay_at hp 8 6) (ay_at hp 8 7) (ay_at hp 8 8) (ay_at hp 10 0) (ay_at hp 10 1) (ay_at hp 10 2) (ay_at hp 10 3) (ay_at hp 10 4) (ay_at hp 8 9) (ay_at hp 8 11) (ay_at hp 8 10) (ay_at hp 8 3) (ay_at hp 8 4) (ay_at hp 11) (ay_at hp 12) := (ax_XF_lt (by decide)).mp (ax_gx hE (50, [3, 7]) (by decide))
  have F62 : pz_x62 (ρ 0) (ρ 1) (4010) (ρ 2) := (ax_XF_lt (by decide)).mp (ax_gx hE (62, [3, 7, 4010, 11]) (by decide))
  refine ⟨(fun y hy => by cases hy), _, List.mem_cons_self, ρ, fun _ _ => rfl, ax_px hE (by decide) (fun y hy => ?_)⟩
  cases List.mem_singleton.mp hy
  refine (ax_XF_lt (x := 60) (by decide)).mpr ?_
  show pz60 (pz_gt (ρ 0)) (pz_gN (ρ 0)) ((ρ 1) / 4) ((4010) / 4 - 1000)
  exact pz_is_yes F62.1 F62.2.1 (fun i hi => F62.2.2 i (by have : i < 4 := hi; omega))

theorem axq_iw1a_3 : ax_RO ax_wC ax_XC axu_iw1a_3 := by
  intro ρ hp hE hT
  have j0 : ρ 0 % 4 = 1 := pz_gj hE 0 (by decide) rfl
  have j1 : ρ 1 % 4 = 1 := pz_gj hE 1 (by decide) rfl
  obtain ⟨i2a, i2b, i2c, i2d⟩ := pz_gi hE 2 0 2147483648 (by decide) rfl
  have c_kind : ay_at hp 8 7 = some (ρ 2) := ay_gfj hE 42 28 11 8 7 (by decide) (by rw [ax_vl_c (by decide)]) (by rw [ax_vl_c (by decide)])
  obtain ⟨-, -, -, -, F50⟩ : ay_ex hp 8 ∧ ay_ex hp 10 ∧ ay_ex hp 11 ∧ ay_ex hp 12 ∧ pz_x50 (ρ 0) (ρ 1) (ay_at hp 8 5) (ay_at hp 8 6) (ay_at hp 8 7) (ay_at hp 8 8) (ay_at hp 10 0) (ay_at hp 10 1) (ay_at hp 10 2) (ay_at hp 10 3) (ay_at hp 10 4) (ay_at hp 8 9) (ay_at hp 8 11) (ay_at hp 8 10) (ay_at hp 8 3) (ay_at hp 8 4) (ay_at hp 11) (ay_at hp 12) := (ax_XF_lt (by decide)).mp (ax_gx hE (50, [3, 7]) (by decide))
  rw [c_kind] at F50
  refine ⟨(fun y hy => by cases hy), _, List.mem_cons_self, ρ, fun _ _ => rfl, ax_px hE (by decide) (fun y hy => ?_)⟩
  cases List.mem_singleton.mp hy
  refine (ax_XF_lt (x := 61) (by decide)).mpr ?_
  show pz61 (pz_gt (ρ 0)) (pz_gN (ρ 0)) ((ρ 1) / 4) ((4014) / 4 - 1000)
  have kd : ρ 2 / 4 = pz_kd (pz_gt (ρ 0)) (pz_gN (ρ 0)) (pz_p (pz_cf (pz_gt (ρ 0)) (pz_gN (ρ 0)) (ρ 1 / 4))) := F50.2.2.1
  exact pz_is_no (Or.inl (by omega))

theorem axq_iw2a_3 : ax_RO ax_wC ax_XC axu_iw2a_3 := by
  intro ρ hp hE hT
  have j0 : ρ 0 % 4 = 1 := pz_gj hE 0 (by decide) rfl
  have j1 : ρ 1 % 4 = 1 := pz_gj hE 1 (by decide) rfl
  obtain ⟨i2a, i2b, i2c, i2d⟩ := pz_gi hE 2 2147482848 2147483651 (by decide) rfl
  obtain ⟨i3a, i3b, i3c, i3d⟩ := pz_gi hE 3 2147483648 2147484448 (by decide) rfl
  obtain ⟨i4a, i4b, i4c, i4d⟩ := pz_gi hE 4 2147483648 2147484448 (by decide) rfl
  have c_place : ay_at hp 8 6 = some (ρ 3) := ay_gfj hE 42 24 15 8 6 (by decide) (by rw [ax_vl_c (by decide)]) (by rw [ax_vl_c (by decide)])
  have c_ahead : ay_at hp 8 5 = some (ρ 4) := ay_gfj hE 42 20 19 8 5 (by decide) (by rw [ax_vl_c (by decide)]) (by rw [ax_vl_c (by decide)])
  have s1 : (ρ 2 / 4 + 2147483648) % 4294967296 + (ρ 3 / 4 + 2147483648) % 4294967296 = (ρ 4 / 4 + 2147483648) % 4294967296 + 2147483648 := pz_gs hE 11 15 19 (by decide)
  obtain ⟨-, -, -, -, F50⟩ : ay_ex hp 8 ∧ ay_ex hp 10 ∧ ay_ex hp 11 ∧ ay_ex hp 12 ∧ pz_x50 (ρ 0) (ρ 1) (ay_at hp 8 5) (ay_at hp 8 6) (ay_at hp 8 7) (ay_at hp 8 8) (ay_at hp 10 0) (ay_at hp 10 1) (ay_at hp 10 2) (ay_at hp 10 3) (ay_at hp 10 4) (ay_at hp 8 9) (ay_at hp 8 11) (ay_at hp 8 10) (ay_at hp 8 3) (ay_at hp 8 4) (ay_at hp 11) (ay_at hp 12) := (ax_XF_lt (by decide)).mp (ax_gx hE (50, [3, 7]) (by decide))
  rw [c_place] at F50
  rw [c_ahead] at F50
  refine ⟨(fun y hy => by cases hy), _, List.mem_cons_self, ρ, fun _ _ => rfl, ax_px hE (by decide) (fun y hy => ?_)⟩
  cases List.mem_singleton.mp hy
  refine (ax_XF_lt (x := 61) (by decide)).mpr ?_
  show pz61 (pz_gt (ρ 0)) (pz_gN (ρ 0)) ((ρ 1) / 4) ((4014) / 4 - 1000)
  have e1 : ρ 4 / 4 = pz_nx (pz_gt (ρ 0)) (pz_gN (ρ 0)) (pz_p (pz_cf (pz_gt (ρ 0)) (pz_gN (ρ 0)) (ρ 1 / 4))) := F50.1
  have e2 : ρ 3 / 4 = pz_at (pz_gt (ρ 0)) (pz_gN (ρ 0)) (pz_p (pz_cf (pz_gt (ρ 0)) (pz_gN (ρ 0)) (ρ 1 / 4))) := F50.2.1
  refine pz_is_no (Or.inr (Or.inl ?_))
  show pz_nx (pz_gt (ρ 0)) (pz_gN (ρ 0)) (pz_p (pz_cf (pz_gt (ρ 0)) (pz_gN (ρ 0)) (ρ 1 / 4))) - pz_at (pz_gt (ρ 0)) (pz_gN (ρ 0)) (pz_p (pz_cf (pz_gt (ρ 0)) (pz_gN (ρ 0)) (ρ 1 / 4))) ≠ 4
  omega

theorem axq_iw1b_3 : ax_RO ax_wC ax_XC axu_iw1b_3 := by
  intro ρ hp hE hT
  have j0 : ρ 0 % 4 = 1 := pz_gj hE 0 (by decide) rfl
  have j1 : ρ 1 % 4 = 1 := pz_gj hE 1 (by decide) rfl
  obtain ⟨i2a, i2b, i2c, i2d⟩ := pz_gi hE 2 2147483650 4294967295 (by decide) rfl
  have c_kind : ay_at hp 8 7 = some (ρ 2) := ay_gfj hE 42 28 11 8 7 (by decide) (by rw [ax_vl_c (by decide)]) (by rw [ax_vl_c (by decide)])
  obtain ⟨-, -, -, -, F50⟩ : ay_ex hp 8 ∧ ay_ex hp 10 ∧ ay_ex hp 11 ∧ ay_ex hp 12 ∧ pz_x50 (ρ 0) (ρ 1) (ay_at hp 8 5) (ay_at hp 8 6) (ay_at hp 8 7) (ay_at hp 8 8) (ay_at hp 10 0) (ay_at hp 10 1) (ay_at hp 10 2) (ay_at hp 10 3) (ay_at hp 10 4) (ay_at hp 8 9) (ay_at hp 8 11) (ay_at hp 8 10) (ay_at hp 8 3) (ay_at hp 8 4) (ay_at hp 11) (ay_at hp 12) := (ax_XF_lt (by decide)).mp (ax_gx hE (50, [3, 7]) (by decide))
  rw [c_kind] at F50
  refine ⟨(fun y hy => by cases hy), _, List.mem_cons_self, ρ, fun _ _ => rfl, ax_px hE (by decide) (fun y hy => ?_)⟩
  cases List.mem_singleton.mp hy
  refine (ax_XF_lt (x := 61) (by decide)).mpr ?_
  show pz61 (pz_gt (ρ 0)) (pz_gN (ρ 0)) ((ρ 1) / 4) ((4014) / 4 - 1000)
  have kd : ρ 2 / 4 = pz_kd (pz_gt (ρ 0)) (pz_gN (ρ 0)) (pz_p (pz_cf (pz_gt (ρ 0)) (pz_gN (ρ 0)) (ρ 1 / 4))) := F50.2.2.1
  exact pz_is_no (Or.inl (by omega))

theorem axq_iw2b_3 : ax_RO ax_wC ax_XC axu_iw2b_3 := by
  intro ρ hp hE hT
  have j0 : ρ 0 % 4 = 1 := pz_gj hE 0 (by decide) rfl
  have j1 : ρ 1 % 4 = 1 := pz_gj hE 1 (by decide) rfl
  obtain ⟨i2a, i2b, i2c, i2d⟩ := pz_gi hE 2 2147483653 2147484448 (by decide) rfl
  obtain ⟨i3a, i3b, i3c, i3d⟩ := pz_gi hE 3 2147483648 2147484448 (by decide) rfl
  obtain ⟨i4a, i4b, i4c, i4d⟩ := pz_gi hE 4 2147483648 2147484448 (by decide) rfl
  have c_place : ay_at hp 8 6 = some (ρ 3) := ay_gfj hE 42 24 15 8 6 (by decide) (by rw [ax_vl_c (by decide)]) (by rw [ax_vl_c (by decide)])
  have c_ahead : ay_at hp 8 5 = some (ρ 4) := ay_gfj hE 42 20 19 8 5 (by decide) (by rw [ax_vl_c (by decide)]) (by rw [ax_vl_c (by decide)])
  have s1 : (ρ 2 / 4 + 2147483648) % 4294967296 + (ρ 3 / 4 + 2147483648) % 4294967296 = (ρ 4 / 4 + 2147483648) % 4294967296 + 2147483648 := pz_gs hE 11 15 19 (by decide)
  obtain ⟨-, -, -, -, F50⟩ : ay_ex hp 8 ∧ ay_ex hp 10 ∧ ay_ex hp 11 ∧ ay_ex hp 12 ∧ pz_x50 (ρ 0) (ρ 1) (ay_at hp 8 5) (ay_at hp 8 6) (ay_at hp 8 7) (ay_at hp 8 8) (ay_at hp 10 0) (ay_at hp 10 1) (ay_at hp 10 2) (ay_at hp 10 3) (ay_at hp 10 4) (ay_at hp 8 9) (ay_at hp 8 11) (ay_at hp 8 10) (ay_at hp 8 3) (ay_at hp 8 4) (ay_at hp 11) (ay_at hp 12) := (ax_XF_lt (by decide)).mp (ax_gx hE (50, [3, 7]) (by decide))
  rw [c_place] at F50
  rw [c_ahead] at F50
  refine ⟨(fun y hy => by cases hy), _, List.mem_cons_self, ρ, fun _ _ => rfl, ax_px hE (by decide) (fun y hy => ?_)⟩
  cases List.mem_singleton.mp hy
  refine (ax_XF_lt (x := 61) (by decide)).mpr ?_
  show pz61 (pz_gt (ρ 0)) (pz_gN (ρ 0)) ((ρ 1) / 4) ((4014) / 4 - 1000)
  have e1 : ρ 4 / 4 = pz_nx (pz_gt (ρ 0)) (pz_gN (ρ 0)) (pz_p (pz_cf (pz_gt (ρ 0)) (pz_gN (ρ 0)) (ρ 1 / 4))) := F50.1
  have e2 : ρ 3 / 4 = pz_at (pz_gt (ρ 0)) (pz_gN (ρ 0)) (pz_p (pz_cf (pz_gt (ρ 0)) (pz_gN (ρ 0)) (ρ 1 / 4))) := F50.2.1
  refine pz_is_no (Or.inr (Or.inl ?_))
  show pz_nx (pz_gt (ρ 0)) (pz_gN (ρ 0)) (pz_p (pz_cf (pz_gt (ρ 0)) (pz_gN (ρ 0)) (ρ 1 / 4))) - pz_at (pz_gt (ρ 0)) (pz_gN (ρ 0)) (pz_p (pz_cf (pz_gt (ρ 0)) (pz_gN (ρ 0)) (ρ 1 / 4))) ≠ 4
  omega

theorem axq_iw3_3 : ax_RO ax_wC ax_XC axu_iw3_3 := by
  intro ρ hp hE hT
  have j0 : ρ 0 % 4 = 1 := pz_gj hE 0 (by decide) rfl
  have j1 : ρ 1 % 4 = 1 := pz_gj hE 1 (by decide) rfl
  obtain ⟨i2a, i2b, i2c, i2d⟩ := pz_gi hE 2 2147483649 2147483649 (by decide) rfl
  obtain ⟨i3a, i3b, i3c, i3d⟩ := pz_gi hE 3 2147483652 2147483652 (by decide) rfl
  obtain ⟨i4a, i4b, i4c, i4d⟩ := pz_gi hE 4 2147483648 2147484448 (by decide) rfl
  obtain ⟨i5a, i5b, i5c, i5d⟩ := pz_gi hE 5 2147483648 2147484448 (by decide) rfl
  have c_kind : ay_at hp 8 7 = some (ρ 2) := ay_gfj hE 42 28 11 8 7 (by decide) (by rw [ax_vl_c (by decide)]) (by rw [ax_vl_c (by decide)])
  have c_place : ay_at hp 8 6 = some (ρ 4) := ay_gfj hE 42 24 19 8 6 (by decide) (by rw [ax_vl_c (by decide)]) (by rw [ax_vl_c (by decide)])
  have c_ahead : ay_at hp 8 5 = some (ρ 5) := ay_gfj hE 42 20 23 8 5 (by decide) (by rw [ax_vl_c (by decide)]) (by rw [ax_vl_c (by decide)])
  have s1 : (ρ 3 / 4 + 2147483648) % 4294967296 + (ρ 4 / 4 + 2147483648) % 4294967296 = (ρ 5 / 4 + 2147483648) % 4294967296 + 2147483648 := pz_gs hE 15 19 23 (by decide)
  obtain ⟨-, -, -, -, F50⟩ : ay_ex hp 8 ∧ ay_ex hp 10 ∧ ay_ex hp 11 ∧ ay_ex hp 12 ∧ pz_x50 (ρ 0) (ρ 1) (ay_at hp 8 5) (ay_at hp 8 6) (ay_at hp 8 7) (ay_at hp 8 8) (ay_at hp 10 0) (ay_at hp 10 1) (ay_at hp 10 2) (ay_at hp 10 3) (ay_at hp 10 4) (ay_at hp 8 9) (ay_at hp 8 11) (ay_at hp 8 10) (ay_at hp 8 3) (ay_at hp 8 4) (ay_at hp 11) (ay_at hp 12) := (ax_XF_lt (by decide)).mp (ax_gx hE (50, [3, 7]) (by decide))
  rw [c_kind] at F50
  rw [c_place] at F50
  rw [c_ahead] at F50
  refine ⟨(fun y hy => by cases hy), _, List.mem_cons_self, ρ, fun _ _ => rfl, ax_px hE (by decide) (fun y hy => ?_)⟩
  cases List.mem_singleton.mp hy
  refine (ax_XF_lt (x := 62) (by decide)).mpr ?_
  show pz_x62 (ρ 0) (ρ 1) (4014) (0)
  have kd : ρ 2 / 4 = pz_kd (pz_gt (ρ 0)) (pz_gN (ρ 0)) (pz_p (pz_cf (pz_gt (ρ 0)) (pz_gN (ρ 0)) (ρ 1 / 4))) := F50.2.2.1
  have e1 : ρ 5 / 4 = pz_nx (pz_gt (ρ 0)) (pz_gN (ρ 0)) (pz_p (pz_cf (pz_gt (ρ 0)) (pz_gN (ρ 0)) (ρ 1 / 4))) := F50.1
  have e2 : ρ 4 / 4 = pz_at (pz_gt (ρ 0)) (pz_gN (ρ 0)) (pz_p (pz_cf (pz_gt (ρ 0)) (pz_gN (ρ 0)) (ρ 1 / 4))) := F50.2.1
  refine ⟨kd.symm.trans (show ρ 2 / 4 = 1 by omega), ?_, fun j hj => absurd (show j < 0 from hj) (by omega)⟩
  show pz_nx (pz_gt (ρ 0)) (pz_gN (ρ 0)) (pz_p (pz_cf (pz_gt (ρ 0)) (pz_gN (ρ 0)) (ρ 1 / 4))) - pz_at (pz_gt (ρ 0)) (pz_gN (ρ 0)) (pz_p (pz_cf (pz_gt (ρ 0)) (pz_gN (ρ 0)) (ρ 1 / 4))) = 4
  omega

theorem axq_iw6_3 : ax_RO ax_wC ax_XC axu_iw6_3 := by
  intro ρ hp hE hT
  have j0 : ρ 0 % 4 = 1 := pz_gj hE 0 (by decide) rfl
  have j1 : ρ 1 % 4 = 1 := pz_gj hE 1 (by decide) rfl
  obtain ⟨i2a, i2b, i2c, i2d⟩ := pz_gi hE 2 2147483652 2147483652 (by decide) rfl
  obtain ⟨-, -, -, -, F50⟩ : ay_ex hp 8 ∧ ay_ex hp 10 ∧ ay_ex hp 11 ∧ ay_ex hp 12 ∧ pz_x50 (ρ 0) (ρ 1) (ay_at hp 8 5) (ay_at hp 8 6) (ay_at hp 8 7) (ay_at hp 8 8) (ay_at hp 10 0) (ay_at hp 10 1) (ay_at hp 10 2) (ay_at hp 10 3) (ay_at hp 10 4) (ay_at hp 8 9) (ay_at hp 8 11) (ay_at hp 8 10) (ay_at hp 8 3) (ay_at hp 8 4) (ay_at hp 11) (ay_at hp 12) := (ax_XF_lt (by decide)).mp (ax_gx hE (50, [3, 7]) (by decide))
  have F62 : pz_x62 (ρ 0) (ρ 1) (4014) (ρ 2) := (ax_XF_lt (by decide)).mp (ax_gx hE (62, [3, 7, 4014, 11]) (by decide))
  refine ⟨(fun y hy => by cases hy), _, List.mem_cons_self, ρ, fun _ _ => rfl, ax_px hE (by decide) (fun y hy => ?_)⟩
  cases List.mem_singleton.mp hy
  refine (ax_XF_lt (x := 60) (by decide)).mpr ?_
  show pz60 (pz_gt (ρ 0)) (pz_gN (ρ 0)) ((ρ 1) / 4) ((4014) / 4 - 1000)
  exact pz_is_yes F62.1 F62.2.1 (fun i hi => F62.2.2 i (by have : i < 4 := hi; omega))

theorem axq_iw1a_4 : ax_RO ax_wC ax_XC axu_iw1a_4 := by
  intro ρ hp hE hT
  have j0 : ρ 0 % 4 = 1 := pz_gj hE 0 (by decide) rfl
  have j1 : ρ 1 % 4 = 1 := pz_gj hE 1 (by decide) rfl
  obtain ⟨i2a, i2b, i2c, i2d⟩ := pz_gi hE 2 0 2147483648 (by decide) rfl
  have c_kind : ay_at hp 8 7 = some (ρ 2) := ay_gfj hE 42 28 11 8 7 (by decide) (by rw [ax_vl_c (by decide)]) (by rw [ax_vl_c (by decide)])
  obtain ⟨-, -, -, -, F50⟩ : ay_ex hp 8 ∧ ay_ex hp 10 ∧ ay_ex hp 11 ∧ ay_ex hp 12 ∧ pz_x50 (ρ 0) (ρ 1) (ay_at hp 8 5) (ay_at hp 8 6) (ay_at hp 8 7) (ay_at hp 8 8) (ay_at hp 10 0) (ay_at hp 10 1) (ay_at hp 10 2) (ay_at hp 10 3) (ay_at hp 10 4) (ay_at hp 8 9) (ay_at hp 8 11) (ay_at hp 8 10) (ay_at hp 8 3) (ay_at hp 8 4) (ay_at hp 11) (ay_at hp 12) := (ax_XF_lt (by decide)).mp (ax_gx hE (50, [3, 7]) (by decide))
  rw [c_kind] at F50
  refine ⟨(fun y hy => by cases hy), _, List.mem_cons_self, ρ, fun _ _ => rfl, ax_px hE (by decide) (fun y hy => ?_)⟩
  cases List.mem_singleton.mp hy
  refine (ax_XF_lt (x := 61) (by decide)).mpr ?_
  show pz61 (pz_gt (ρ 0)) (pz_gN (ρ 0)) ((ρ 1) / 4) ((4018) / 4 - 1000)
  have kd : ρ 2 / 4 = pz_kd (pz_gt (ρ 0)) (pz_gN (ρ 0)) (pz_p (pz_cf (pz_gt (ρ 0)) (pz_gN (ρ 0)) (ρ 1 / 4))) := F50.2.2.1
  exact pz_is_no (Or.inl (by omega))

theorem axq_iw2a_4 : ax_RO ax_wC ax_XC axu_iw2a_4 := by
  intro ρ hp hE hT
  have j0 : ρ 0 % 4 = 1 := pz_gj hE 0 (by decide) rfl
  have j1 : ρ 1 % 4 = 1 := pz_gj hE 1 (by decide) rfl
  obtain ⟨i2a, i2b, i2c, i2d⟩ := pz_gi hE 2 2147482848 2147483651 (by decide) rfl
  obtain ⟨i3a, i3b, i3c, i3d⟩ := pz_gi hE 3 2147483648 2147484448 (by decide) rfl
  obtain ⟨i4a, i4b, i4c, i4d⟩ := pz_gi hE 4 2147483648 2147484448 (by decide) rfl
  have c_place : ay_at hp 8 6 = some (ρ 3) := ay_gfj hE 42 24 15 8 6 (by decide) (by rw [ax_vl_c (by decide)]) (by rw [ax_vl_c (by decide)])
  have c_ahead : ay_at hp 8 5 = some (ρ 4) := ay_gfj hE 42 20 19 8 5 (by decide) (by rw [ax_vl_c (by decide)]) (by rw [ax_vl_c (by decide)])
  have s1 : (ρ 2 / 4 + 2147483648) % 4294967296 + (ρ 3 / 4 + 2147483648) % 4294967296 = (ρ 4 / 4 + 2147483648) % 4294967296 + 2147483648 := pz_gs hE 11 15 19 (by decide)
  obtain ⟨-, -, -, -, F50⟩ : ay_ex hp 8 ∧ ay_ex hp 10 ∧ ay_ex hp 11 ∧ ay_ex hp 12 ∧ pz_x50 (ρ 0) (ρ 1) (ay_at hp 8 5) (ay_at hp 8 6) (ay_at hp 8 7) (ay_at hp 8 8) (ay_at hp 10 0) (ay_at hp 10 1) (ay_at hp 10 2) (ay_at hp 10 3) (ay_at hp 10 4) (ay_at hp 8 9) (ay_at hp 8 11) (ay_at hp 8 10) (ay_at hp 8 3) (ay_at hp 8 4) (ay_at hp 11) (ay_at hp 12) := (ax_XF_lt (by decide)).mp (ax_gx hE (50, [3, 7]) (by decide))
  rw [c_place] at F50
  rw [c_ahead] at F50
  refine ⟨(fun y hy => by cases hy), _, List.mem_cons_self, ρ, fun _ _ => rfl, ax_px hE (by decide) (fun y hy => ?_)⟩
  cases List.mem_singleton.mp hy
  refine (ax_XF_lt (x := 61) (by decide)).mpr ?_
  show pz61 (pz_gt (ρ 0)) (pz_gN (ρ 0)) ((ρ 1) / 4) ((4018) / 4 - 1000)
  have e1 : ρ 4 / 4 = pz_nx (pz_gt (ρ 0)) (pz_gN (ρ 0)) (pz_p (pz_cf (pz_gt (ρ 0)) (pz_gN (ρ 0)) (ρ 1 / 4))) := F50.1
  have e2 : ρ 3 / 4 = pz_at (pz_gt (ρ 0)) (pz_gN (ρ 0)) (pz_p (pz_cf (pz_gt (ρ 0)) (pz_gN (ρ 0)) (ρ 1 / 4))) := F50.2.1
  refine pz_is_no (Or.inr (Or.inl ?_))
  show pz_nx (pz_gt (ρ 0)) (pz_gN (ρ 0)) (pz_p (pz_cf (pz_gt (ρ 0)) (pz_gN (ρ 0)) (ρ 1 / 4))) - pz_at (pz_gt (ρ 0)) (pz_gN (ρ 0)) (pz_p (pz_cf (pz_gt (ρ 0)) (pz_gN (ρ 0)) (ρ 1 / 4))) ≠ 4
  omega

theorem axq_iw1b_4 : ax_RO ax_wC ax_XC axu_iw1b_4 := by
  intro ρ hp hE hT
  have j0 : ρ 0 % 4 = 1 := pz_gj hE 0 (by decide) rfl
  have j1 : ρ 1 % 4 = 1 := pz_gj hE 1 (by decide) rfl
  obtain ⟨i2a, i2b, i2c, i2d⟩ := pz_gi hE 2 2147483650 4294967295 (by decide) rfl
  have c_kind : ay_at hp 8 7 = some (ρ 2) := ay_gfj hE 42 28 11 8 7 (by decide) (by rw [ax_vl_c (by decide)]) (by rw [ax_vl_c (by decide)])
  obtain ⟨-, -, -, -, F50⟩ : ay_ex hp 8 ∧ ay_ex hp 10 ∧ ay_ex hp 11 ∧ ay_ex hp 12 ∧ pz_x50 (ρ 0) (ρ 1) (ay_at hp 8 5) (ay_at hp 8 6) (ay_at hp 8 7) (ay_at hp 8 8) (ay_at hp 10 0) (ay_at hp 10 1) (ay_at hp 10 2) (ay_at hp 10 3) (ay_at hp 10 4) (ay_at hp 8 9) (ay_at hp 8 11) (ay_at hp 8 10) (ay_at hp 8 3) (ay_at hp 8 4) (ay_at hp 11) (ay_at hp 12) := (ax_XF_lt (by decide)).mp (ax_gx hE (50, [3, 7]) (by decide))
  rw [c_kind] at F50
  refine ⟨(fun y hy => by cases hy), _, List.mem_cons_self, ρ, fun _ _ => rfl, ax_px hE (by decide) (fun y hy => ?_)⟩
  cases List.mem_singleton.mp hy
  refine (ax_XF_lt (x := 61) (by decide)).mpr ?_
  show pz61 (pz_gt (ρ 0)) (pz_gN (ρ 0)) ((ρ 1) / 4) ((4018) / 4 - 1000)
  have kd : ρ 2 / 4 = pz_kd (pz_gt (ρ 0)) (pz_gN (ρ 0)) (pz_p (pz_cf (pz_gt (ρ 0)) (pz_gN (ρ 0)) (ρ 1 / 4))) := F50.2.2.1
  exact pz_is_no (Or.inl (by omega))

theorem axq_iw2b_4 : ax_RO ax_wC ax_XC axu_iw2b_4 := by
  intro ρ hp hE hT
  have j0 : ρ 0 % 4 = 1 := pz_gj hE 0 (by decide) rfl
  have j1 : ρ 1 % 4 = 1 := pz_gj hE 1 (by decide) rfl
  obtain ⟨i2a, i2b, i2c, i2d⟩ := pz_gi hE 2 2147483653 2147484448 (by decide) rfl
  obtain ⟨i3a, i3b, i3c, i3d⟩ := pz_gi hE 3 2147483648 2147484448 (by decide) rfl
  obtain ⟨i4a, i4b, i4c, i4d⟩ := pz_gi hE 4 2147483648 2147484448 (by decide) rfl
  have c_place : ay_at hp 8 6 = some (ρ 3) := ay_gfj hE 42 24 15 8 6 (by decide) (by rw [ax_vl_c (by decide)]) (by rw [ax_vl_c (by decide)])
  have c_ahead : ay_at hp 8 5 = some (ρ 4) := ay_gfj hE 42 20 19 8 5 (by decide) (by rw [ax_vl_c (by decide)]) (by rw [ax_vl_c (by decide)])
  have s1 : (ρ 2 / 4 + 2147483648) % 4294967296 + (ρ 3 / 4 + 2147483648) % 4294967296 = (ρ 4 / 4 + 2147483648) % 4294967296 + 2147483648 := pz_gs hE 11 15 19 (by decide)
  obtain ⟨-, -, -, -, F50⟩ : ay_ex hp 8 ∧ ay_ex hp 10 ∧ ay_ex hp 11 ∧ ay_ex hp 12 ∧ pz_x50 (ρ 0) (ρ 1) (ay_at hp 8 5) (ay_at hp 8 6) (ay_at hp 8 7) (ay_at hp 8 8) (ay_at hp 10 0) (ay_at hp 10 1) (ay_at hp 10 2) (ay_at hp 10 3) (ay_at hp 10 4) (ay_at hp 8 9) (ay_at hp 8 11) (ay_at hp 8 10) (ay_at hp 8 3) (ay_at hp 8 4) (ay_at hp 11) (ay_at hp 12) := (ax_XF_lt (by decide)).mp (ax_gx hE (50, [3, 7]) (by decide))
  rw [c_place] at F50
  rw [c_ahead] at F50
  refine ⟨(fun y hy => by cases hy), _, List.mem_cons_self, ρ, fun _ _ => rfl, ax_px hE (by decide) (fun y hy => ?_)⟩
  cases List.mem_singleton.mp hy
  refine (ax_XF_lt (x := 61) (by decide)).mpr ?_
  show pz61 (pz_gt (ρ 0)) (pz_gN (ρ 0)) ((ρ 1) / 4) ((4018) / 4 - 1000)
  have e1 : ρ 4 / 4 = pz_nx (pz_gt (ρ 0)) (pz_gN (ρ 0)) (pz_p (pz_cf (pz_gt (ρ 0)) (pz_gN (ρ 0)) (ρ 1 / 4))) := F50.1
  have e2 : ρ 3 / 4 = pz_at (pz_gt (ρ 0)) (pz_gN (ρ 0)) (pz_p (pz_cf (pz_gt (ρ 0)) (pz_gN (ρ 0)) (ρ 1 / 4))) := F50.2.1
  refine pz_is_no (Or.inr (Or.inl ?_))
  show pz_nx (pz_gt (ρ 0)) (pz_gN (ρ 0)) (pz_p (pz_cf (pz_gt (ρ 0)) (pz_gN (ρ 0)) (ρ 1 / 4))) - pz_at (pz_gt (ρ 0)) (pz_gN (ρ 0)) (pz_p (pz_cf (pz_gt (ρ 0)) (pz_gN (ρ 0)) (ρ 1 / 4))) ≠ 4
  omega

theorem axq_iw3_4 : ax_RO ax_wC ax_XC axu_iw3_4 := by
  intro ρ hp hE hT
  have j0 : ρ 0 % 4 = 1 := pz_gj hE 0 (by decide) rfl
  have j1 : ρ 1 % 4 = 1 := pz_gj hE 1 (by decide) rfl
  obtain ⟨i2a, i2b, i2c, i2d⟩ := pz_gi hE 2 2147483649 2147483649 (by decide) rfl
  obtain ⟨i3a, i3b, i3c, i3d⟩ := pz_gi hE 3 2147483652 2147483652 (by decide) rfl
  obtain ⟨i4a, i4b, i4c, i4d⟩ := pz_gi hE 4 2147483648 2147484448 (by decide) rfl
  obtain ⟨i5a, i5b, i5c, i5d⟩ := pz_gi hE 5 2147483648 2147484448 (by decide) rfl
  have c_kind : ay_at hp 8 7 = some (ρ 2) := ay_gfj hE 42 28 11 8 7 (by decide) (by rw [ax_vl_c (by decide)]) (by rw [ax_vl_c (by decide)])
  have c_place : ay_at hp 8 6 = some (ρ 4) := ay_gfj hE 42 24 19 8 6 (by decide) (by rw [ax_vl_c (by decide)]) (by rw [ax_vl_c (by decide)])
  have c_ahead : ay_at hp 8 5 = some (ρ 5) := ay_gfj hE 42 20 23 8 5 (by decide) (by rw [ax_vl_c (by decide)]) (by rw [ax_vl_c (by decide)])
  have s1 : (ρ 3 / 4 + 2147483648) % 4294967296 + (ρ 4 / 4 + 2147483648) % 4294967296 = (ρ 5 / 4 + 2147483648) % 4294967296 + 2147483648 := pz_gs hE 15 19 23 (by decide)
  obtain ⟨-, -, -, -, F50⟩ : ay_ex hp 8 ∧ ay_ex hp 10 ∧ ay_ex hp 11 ∧ ay_ex hp 12 ∧ pz_x50 (ρ 0) (ρ 1) (ay_at hp 8 5) (ay_at hp 8 6) (ay_at hp 8 7) (ay_at hp 8 8) (ay_at hp 10 0) (ay_at hp 10 1) (ay_at hp 10 2) (ay_at hp 10 3) (ay_at hp 10 4) (ay_at hp 8 9) (ay_at hp 8 11) (ay_at hp 8 10) (ay_at hp 8 3) (ay_at hp 8 4) (ay_at hp 11) (ay_at hp 12) := (ax_XF_lt (by decide)).mp (ax_gx hE (50, [3, 7]) (by decide))
  rw [c_kind] at F50
  rw [c_place] at F50
  rw [c_ahead] at F50
  refine ⟨(fun y hy => by cases hy), _, List.mem_cons_self, ρ, fun _ _ => rfl, ax_px hE (by decide) (fun y hy => ?_)⟩
  cases List.mem_singleton.mp hy
  refine (ax_XF_lt (x := 62) (by decide)).mpr ?_
  show pz_x62 (ρ 0) (ρ 1) (4018) (0)
  have kd : ρ 2 / 4 = pz_kd (pz_gt (ρ 0)) (pz_gN (ρ 0)) (pz_p (pz_cf (pz_gt (ρ 0)) (pz_gN (ρ 0)) (ρ 1 / 4))) := F50.2.2.1
  have e1 : ρ 5 / 4 = pz_nx (pz_gt (ρ 0)) (pz_gN (ρ 0)) (pz_p (pz_cf (pz_gt (ρ 0)) (pz_gN (ρ 0)) (ρ 1 / 4))) := F50.1
  have e2 : ρ 4 / 4 = pz_at (pz_gt (ρ 0)) (pz_gN (ρ 0)) (pz_p (pz_cf (pz_gt (ρ 0)) (pz_gN (ρ 0)) (ρ 1 / 4))) := F50.2.1
  refine ⟨kd.symm.trans (show ρ 2 / 4 = 1 by omega), ?_, fun j hj => absurd (show j < 0 from hj) (by omega)⟩
  show pz_nx (pz_gt (ρ 0)) (pz_gN (ρ 0)) (pz_p (pz_cf (pz_gt (ρ 0)) (pz_gN (ρ 0)) (ρ 1 / 4))) - pz_at (pz_gt (ρ 0)) (pz_gN (ρ 0)) (pz_p (pz_cf (pz_gt (ρ 0)) (pz_gN (ρ 0)) (ρ 1 / 4))) = 4
  omega

theorem axq_iw6_4 : ax_RO ax_wC ax_XC axu_iw6_4 := by
  intro ρ hp hE hT
  have j0 : ρ 0 % 4 = 1 := pz_gj hE 0 (by decide) rfl
  have j1 : ρ 1 % 4 = 1 := pz_gj hE 1 (by decide) rfl
  obtain ⟨i2a, i2b, i2c, i2d⟩ := pz_gi hE 2 2147483652 2147483652 (by decide) rfl
  obtain ⟨-, -, -, -, F50⟩ : ay_ex hp 8 ∧ ay_ex hp 10 ∧ ay_ex hp 11 ∧ ay_ex hp 12 ∧ pz_x50 (ρ 0) (ρ 1) (ay_at hp 8 5) (ay_at hp 8 6) (ay_at hp 8 7) (ay_at hp 8 8) (ay_at hp 10 0) (ay_at hp 10 1) (ay_at hp 10 2) (ay_at hp 10 3) (ay_at hp 10 4) (ay_at hp 8 9) (ay_at hp 8 11) (ay_at hp 8 10) (ay_at hp 8 3) (ay_at hp 8 4) (ay_at hp 11) (ay_at hp 12) := (ax_XF_lt (by decide)).mp (ax_gx hE (50, [3, 7]) (by decide))
  have F62 : pz_x62 (ρ 0) (ρ 1) (4018) (ρ 2) := (ax_XF_lt (by decide)).mp (ax_gx hE (62, [3, 7, 4018, 11]) (by decide))
  refine ⟨(fun y hy => by cases hy), _, List.mem_cons_self, ρ, fun _ _ => rfl, ax_px hE (by decide) (fun y hy => ?_)⟩
  cases List.mem_singleton.mp hy
  refine (ax_XF_lt (x := 60) (by decide)).mpr ?_
  show pz60 (pz_gt (ρ 0)) (pz_gN (ρ 0)) ((ρ 1) / 4) ((4018) / 4 - 1000)
  exact pz_is_yes F62.1 F62.2.1 (fun i hi => F62.2.2 i (by have : i < 4 := hi; omega))

theorem axq_iw1a_5 : ax_RO ax_wC ax_XC axu_iw1a_5 := by
  intro ρ hp hE hT
  have j0 : ρ 0 % 4 = 1 := pz_gj hE 0 (by decide) rfl
  have j1 : ρ 1 % 4 = 1 := pz_gj hE 1 (by decide) rfl
  obtain ⟨i2a, i2b, i2c, i2d⟩ := pz_gi hE 2 0 2147483648 (by decide) rfl
  have c_kind : ay_at hp 8 7 = some (ρ 2) := ay_gfj hE 42 28 11 8 7 (by decide) (by rw [ax_vl_c (by decide)]) (by rw [ax_vl_c (by decide)])
  obtain ⟨-, -, -, -, F50⟩ : ay_ex hp 8 ∧ ay_ex hp 10 ∧ ay_ex hp 11 ∧ ay_ex hp 12 ∧ pz_x50 (ρ 0) (ρ 1) (ay_at hp 8 5) (ay_at hp 8 6) (ay_at hp 8 7) (ay_at hp 8 8) (ay_at hp 10 0) (ay_at hp 10 1) (ay_at hp 10 2) (ay_at hp 10 3) (ay_at hp 10 4) (ay_at hp 8 9) (ay_at hp 8 11) (ay_at hp 8 10) (ay_at hp 8 3) (ay_at hp 8 4) (ay_at hp 11) (ay_at hp 12) := (ax_XF_lt (by decide)).mp (ax_gx hE (50, [3, 7]) (by decide))
  rw [c_kind] at F50
  refine ⟨(fun y hy => by cases hy), _, List.mem_cons_self, ρ, fun _ _ => rfl, ax_px hE (by decide) (fun y hy => ?_)⟩
  cases List.mem_singleton.mp hy
  refine (ax_XF_lt (x := 61) (by decide)).mpr ?_
  show pz61 (pz_gt (ρ 0)) (pz_gN (ρ 0)) ((ρ 1) / 4) ((4022) / 4 - 1000)
  have kd : ρ 2 / 4 = pz_kd (pz_gt (ρ 0)) (pz_gN (ρ 0)) (pz_p (pz_cf (pz_gt (ρ 0)) (pz_gN (ρ 0)) (ρ 1 / 4))) := F50.2.2.1
  exact pz_is_no (Or.inl (by omega))

theorem axq_iw2a_5 : ax_RO ax_wC ax_XC axu_iw2a_5 := by
  intro ρ hp hE hT
  have j0 : ρ 0 % 4 = 1 := pz_gj hE 0 (by decide) rfl
  have j1 : ρ 1 % 4 = 1 := pz_gj hE 1 (by decide) rfl
  obtain ⟨i2a, i2b, i2c, i2d⟩ := pz_gi hE 2 2147482848 2147483650 (by decide) rfl
  obtain ⟨i3a, i3b, i3c, i3d⟩ := pz_gi hE 3 2147483648 2147484448 (by decide) rfl
  obtain ⟨i4a, i4b, i4c, i4d⟩ := pz_gi hE 4 2147483648 2147484448 (by decide) rfl
  have c_place : ay_at hp 8 6 = some (ρ 3) := ay_gfj hE 42 24 15 8 6 (by decide) (by rw [ax_vl_c (by decide)]) (by rw [ax_vl_c (by decide)])
  have c_ahead : ay_at hp 8 5 = some (ρ 4) := ay_gfj hE 42 20 19 8 5 (by decide) (by rw [ax_vl_c (by decide)]) (by rw [ax_vl_c (by decide)])
  have s1 : (ρ 2 / 4 + 2147483648) % 4294967296 + (ρ 3 / 4 + 2147483648) % 4294967296 = (ρ 4 / 4 + 2147483648) % 4294967296 + 2147483648 := pz_gs hE 11 15 19 (by decide)
  obtain ⟨-, -, -, -, F50⟩ : ay_ex hp 8 ∧ ay_ex hp 10 ∧ ay_ex hp 11 ∧ ay_ex hp 12 ∧ pz_x50 (ρ 0) (ρ 1) (ay_at hp 8 5) (ay_at hp 8 6) (ay_at hp 8 7) (ay_at hp 8 8) (ay_at hp 10 0) (ay_at hp 10 1) (ay_at hp 10 2) (ay_at hp 10 3) (ay_at hp 10 4) (ay_at hp 8 9) (ay_at hp 8 11) (ay_at hp 8 10) (ay_at hp 8 3) (ay_at hp 8 4) (ay_at hp 11) (ay_at hp 12) := (ax_XF_lt (by decide)).mp (ax_gx hE (50, [3, 7]) (by decide))
  rw [c_place] at F50
  rw [c_ahead] at F50
  refine ⟨(fun y hy => by cases hy), _, List.mem_cons_self, ρ, fun _ _ => rfl, ax_px hE (by decide) (fun y hy => ?_)⟩
  cases List.mem_singleton.mp hy
  refine (ax_XF_lt (x := 61) (by decide)).mpr ?_
  show pz61 (pz_gt (ρ 0)) (pz_gN (ρ 0)) ((ρ 1) / 4) ((4022) / 4 - 1000)
  have e1 : ρ 4 / 4 = pz_nx (pz_gt (ρ 0)) (pz_gN (ρ 0)) (pz_p (pz_cf (pz_gt (ρ 0)) (pz_gN (ρ 0)) (ρ 1 / 4))) := F50.1
  have e2 : ρ 3 / 4 = pz_at (pz_gt (ρ 0)) (pz_gN (ρ 0)) (pz_p (pz_cf (pz_gt (ρ 0)) (pz_gN (ρ 0)) (ρ 1 / 4))) := F50.2.1
  refine pz_is_no (Or.inr (Or.inl ?_))
  show pz_nx (pz_gt (ρ 0)) (pz_gN (ρ 0)) (pz_p (pz_cf (pz_gt (ρ 0)) (pz_gN (ρ 0)) (ρ 1 / 4))) - pz_at (pz_gt (ρ 0)) (pz_gN (ρ 0)) (pz_p (pz_cf (pz_gt (ρ 0)) (pz_gN (ρ 0)) (ρ 1 / 4))) ≠ 3
  omega

theorem axq_iw1b_5 : ax_RO ax_wC ax_XC axu_iw1b_5 := by
  intro ρ hp hE hT
  have j0 : ρ 0 % 4 = 1 := pz_gj hE 0 (by decide) rfl
  have j1 : ρ 1 % 4 = 1 := pz_gj hE 1 (by decide) rfl
  obtain ⟨i2a, i2b, i2c, i2d⟩ := pz_gi hE 2 2147483650 4294967295 (by decide) rfl
  have c_kind : ay_at hp 8 7 = some (ρ 2) := ay_gfj hE 42 28 11 8 7 (by decide) (by rw [ax_vl_c (by decide)]) (by rw [ax_vl_c (by decide)])
  obtain ⟨-, -, -, -, F50⟩ : ay_ex hp 8 ∧ ay_ex hp 10 ∧ ay_ex hp 11 ∧ ay_ex hp 12 ∧ pz_x50 (ρ 0) (ρ 1) (ay_at hp 8 5) (ay_at hp 8 6) (ay_at hp 8 7) (ay_at hp 8 8) (ay_at hp 10 0) (ay_at hp 10 1) (ay_at hp 10 2) (ay_at hp 10 3) (ay_at hp 10 4) (ay_at hp 8 9) (ay_at hp 8 11) (ay_at hp 8 10) (ay_at hp 8 3) (ay_at hp 8 4) (ay_at hp 11) (ay_at hp 12) := (ax_XF_lt (by decide)).mp (ax_gx hE (50, [3, 7]) (by decide))
  rw [c_kind] at F50
  refine ⟨(fun y hy => by cases hy), _, List.mem_cons_self, ρ, fun _ _ => rfl, ax_px hE (by decide) (fun y hy => ?_)⟩
  cases List.mem_singleton.mp hy
  refine (ax_XF_lt (x := 61) (by decide)).mpr ?_
  show pz61 (pz_gt (ρ 0)) (pz_gN (ρ 0)) ((ρ 1) / 4) ((4022) / 4 - 1000)
  have kd : ρ 2 / 4 = pz_kd (pz_gt (ρ 0)) (pz_gN (ρ 0)) (pz_p (pz_cf (pz_gt (ρ 0)) (pz_gN (ρ 0)) (ρ 1 / 4))) := F50.2.2.1
  exact pz_is_no (Or.inl (by omega))

theorem axq_iw2b_5 : ax_RO ax_wC ax_XC axu_iw2b_5 := by
  intro ρ hp hE hT
  have j0 : ρ 0 % 4 = 1 := pz_gj hE 0 (by decide) rfl
  have j1 : ρ 1 % 4 = 1 := pz_gj hE 1 (by decide) rfl
  obtain ⟨i2a, i2b, i2c, i2d⟩ := pz_gi hE 2 2147483652 2147484448 (by decide) rfl
  obtain ⟨i3a, i3b, i3c, i3d⟩ := pz_gi hE 3 2147483648 2147484448 (by decide) rfl
  obtain ⟨i4a, i4b, i4c, i4d⟩ := pz_gi hE 4 2147483648 2147484448 (by decide) rfl
  have c_place : ay_at hp 8 6 = some (ρ 3) := ay_gfj hE 42 24 15 8 6 (by decide) (by rw [ax_vl_c (by decide)]) (by rw [ax_vl_c (by decide)])
  have c_ahead : ay_at hp 8 5 = some (ρ 4) := ay_gfj hE 42 20 19 8 5 (by decide) (by rw [ax_vl_c (by decide)]) (by rw [ax_vl_c (by decide)])
  have s1 : (ρ 2 / 4 + 2147483648) % 4294967296 + (ρ 3 / 4 + 2147483648) % 4294967296 = (ρ 4 / 4 + 2147483648) % 4294967296 + 2147483648 := pz_gs hE 11 15 19 (by decide)
  obtain ⟨-, -, -, -, F50⟩ : ay_ex hp 8 ∧ ay_ex hp 10 ∧ ay_ex hp 11 ∧ ay_ex hp 12 ∧ pz_x50 (ρ 0) (ρ 1) (ay_at hp 8 5) (ay_at hp 8 6) (ay_at hp 8 7) (ay_at hp 8 8) (ay_at hp 10 0) (ay_at hp 10 1) (ay_at hp 10 2) (ay_at hp 10 3) (ay_at hp 10 4) (ay_at hp 8 9) (ay_at hp 8 11) (ay_at hp 8 10) (ay_at hp 8 3) (ay_at hp 8 4) (ay_at hp 11) (ay_at hp 12) := (ax_XF_lt (by decide)).mp (ax_gx hE (50, [3, 7]) (by decide))
  rw [c_place] at F50
  rw [c_ahead] at F50
  refine ⟨(fun y hy => by cases hy), _, List.mem_cons_self, ρ, fun _ _ => rfl, ax_px hE (by decide) (fun y hy => ?_)⟩
  cases List.mem_singleton.mp hy
  refine (ax_XF_lt (x := 61) (by decide)).mpr ?_
  show pz61 (pz_gt (ρ 0)) (pz_gN (ρ 0)) ((ρ 1) / 4) ((4022) / 4 - 1000)
  have e1 : ρ 4 / 4 = pz_nx (pz_gt (ρ 0)) (pz_gN (ρ 0)) (pz_p (pz_cf (pz_gt (ρ 0)) (pz_gN (ρ 0)) (ρ 1 / 4))) := F50.1
  have e2 : ρ 3 / 4 = pz_at (pz_gt (ρ 0)) (pz_gN (ρ 0)) (pz_p (pz_cf (pz_gt (ρ 0)) (pz_gN (ρ 0)) (ρ 1 / 4))) := F50.2.1
  refine pz_is_no (Or.inr (Or.inl ?_))
  show pz_nx (pz_gt (ρ 0)) (pz_gN (ρ 0)) (pz_p (pz_cf (pz_gt (ρ 0)) (pz_gN (ρ 0)) (ρ 1 / 4))) - pz_at (pz_gt (ρ 0)) (pz_gN (ρ 0)) (pz_p (pz_cf (pz_gt (ρ 0)) (pz_gN (ρ 0)) (ρ 1 / 4))) ≠ 3
  omega

theorem axq_iw3_5 : ax_RO ax_wC ax_XC axu_iw3_5 := by
  intro ρ hp hE hT
  have j0 : ρ 0 % 4 = 1 := pz_gj hE 0 (by decide) rfl
  have j1 : ρ 1 % 4 = 1 := pz_gj hE 1 (by decide) rfl
  obtain ⟨i2a, i2b, i2c, i2d⟩ := pz_gi hE 2 2147483649 2147483649 (by decide) rfl
  obtain ⟨i3a, i3b, i3c, i3d⟩ := pz_gi hE 3 2147483651 2147483651 (by decide) rfl
  obtain ⟨i4a, i4b, i4c, i4d⟩ := pz_gi hE 4 2147483648 2147484448 (by decide) rfl
  obtain ⟨i5a, i5b, i5c, i5d⟩ := pz_gi hE 5 2147483648 2147484448 (by decide) rfl
  have c_kind : ay_at hp 8 7 = some (ρ 2) := ay_gfj hE 42 28 11 8 7 (by decide) (by rw [ax_vl_c (by decide)]) (by rw [ax_vl_c (by decide)])
  have c_place : ay_at hp 8 6 = some (ρ 4) := ay_gfj hE 42 24 19 8 6 (by decide) (by rw [ax_vl_c (by decide)]) (by rw [ax_vl_c (by decide)])
  have c_ahead : ay_at hp 8 5 = some (ρ 5) := ay_gfj hE 42 20 23 8 5 (by decide) (by rw [ax_vl_c (by decide)]) (by rw [ax_vl_c (by decide)])
  have s1 : (ρ 3 / 4 + 2147483648) % 4294967296 + (ρ 4 / 4 + 2147483648) % 4294967296 = (ρ 5 / 4 + 2147483648) % 4294967296 + 2147483648 := pz_gs hE 15 19 23 (by decide)
  obtain ⟨-, -, -, -, F50⟩ : ay_ex hp 8 ∧ ay_ex hp 10 ∧ ay_ex hp 11 ∧ ay_ex hp 12 ∧ pz_x50 (ρ 0) (ρ 1) (ay_at hp 8 5) (ay_at hp 8 6) (ay_at hp 8 7) (ay_at hp 8 8) (ay_at hp 10 0) (ay_at hp 10 1) (ay_at hp 10 2) (ay_at hp 10 3) (ay_at hp 10 4) (ay_at hp 8 9) (ay_at hp 8 11) (ay_at hp 8 10) (ay_at hp 8 3) (ay_at hp 8 4) (ay_at hp 11) (ay_at hp 12) := (ax_XF_lt (by decide)).mp (ax_gx hE (50, [3, 7]) (by decide))
  rw [c_kind] at F50
  rw [c_place] at F50
  rw [c_ahead] at F50
  refine ⟨(fun y hy => by cases hy), _, List.mem_cons_self, ρ, fun _ _ => rfl, ax_px hE (by decide) (fun y hy => ?_)⟩
  cases List.mem_singleton.mp hy
  refine (ax_XF_lt (x := 62) (by decide)).mpr ?_
  show pz_x62 (ρ 0) (ρ 1) (4022) (0)
  have kd : ρ 2 / 4 = pz_kd (pz_gt (ρ 0)) (pz_gN (ρ 0)) (pz_p (pz_cf (pz_gt (ρ 0)) (pz_gN (ρ 0)) (ρ 1 / 4))) := F50.2.2.1
  have e1 : ρ 5 / 4 = pz_nx (pz_gt (ρ 0)) (pz_gN (ρ 0)) (pz_p (pz_cf (pz_gt (ρ 0)) (pz_gN (ρ 0)) (ρ 1 / 4))) := F50.1
  have e2 : ρ 4 / 4 = pz_at (pz_gt (ρ 0)) (pz_gN (ρ 0)) (pz_p (pz_cf (pz_gt (ρ 0)) (pz_gN (ρ 0)) (ρ 1 / 4))) := F50.2.1
  refine ⟨kd.symm.trans (show ρ 2 / 4 = 1 by omega), ?_, fun j hj => absurd (show j < 0 from hj) (by omega)⟩
  show pz_nx (pz_gt (ρ 0)) (pz_gN (ρ 0)) (pz_p (pz_cf (pz_gt (ρ 0)) (pz_gN (ρ 0)) (ρ 1 / 4))) - pz_at (pz_gt (ρ 0)) (pz_gN (ρ 0)) (pz_p (pz_cf (pz_gt (ρ 0)) (pz_gN (ρ 0)) (ρ 1 / 4))) = 3
  omega

theorem axq_iw6_5 : ax_RO ax_wC ax_XC axu_iw6_5 := by
  intro ρ hp hE hT
  have j0 : ρ 0 % 4 = 1 := pz_gj hE 0 (by decide) rfl
  have j1 : ρ 1 % 4 = 1 := pz_gj hE 1 (by decide) rfl
  obtain ⟨i2a, i2b, i2c, i2d⟩ := pz_gi hE 2 2147483651 2147483651 (by decide) rfl
  obtain ⟨-, -, -, -, F50⟩ : ay_ex hp 8 ∧ ay_ex hp 10 ∧ ay_ex hp 11 ∧ ay_ex hp 12 ∧ pz_x50 (ρ 0) (ρ 1) (ay_at hp 8 5) (ay_at hp 8 6) (ay_at hp 8 7) (ay_at hp 8 8) (ay_at hp 10 0) (ay_at hp 10 1) (ay_at hp 10 2) (ay_at hp 10 3) (ay_at hp 10 4) (ay_at hp 8 9) (ay_at hp 8 11) (ay_at hp 8 10) (ay_at hp 8 3) (ay_at hp 8 4) (ay_at hp 11) (ay_at hp 12) := (ax_XF_lt (by decide)).mp (ax_gx hE (50, [3, 7]) (by decide))
  have F62 : pz_x62 (ρ 0) (ρ 1) (4022) (ρ 2) := (ax_XF_lt (by decide)).mp (ax_gx hE (62, [3, 7, 4022, 11]) (by decide))
  refine ⟨(fun y hy => by cases hy), _, List.mem_cons_self, ρ, fun _ _ => rfl, ax_px hE (by decide) (fun y hy => ?_)⟩
  cases List.mem_singleton.mp hy
  refine (ax_XF_lt (x := 60) (by decide)).mpr ?_
  show pz60 (pz_gt (ρ 0)) (pz_gN (ρ 0)) ((ρ 1) / 4) ((4022) / 4 - 1000)
  exact pz_is_yes F62.1 F62.2.1 (fun i hi => F62.2.2 i (by have : i < 3 := hi; omega))

theorem axq_iw1a_6 : ax_RO ax_wC ax_XC axu_iw1a_6 := by
  intro ρ hp hE hT
  have j0 : ρ 0 % 4 = 1 := pz_gj hE 0 (by decide) rfl
  have j1 : ρ 1 % 4 = 1 := pz_gj hE 1 (by decide) rfl
  obtain ⟨i2a, i2b, i2c, i2d⟩ := pz_gi hE 2 0 2147483648 (by decide) rfl
  have c_kind : ay_at hp 8 7 = some (ρ 2) := ay_gfj hE 42 28 11 8 7 (by decide) (by rw [ax_vl_c (by decide)]) (by rw [ax_vl_c (by decide)])
  obtain ⟨-, -, -, -, F50⟩ : ay_ex hp 8 ∧ ay_ex hp 10 ∧ ay_ex hp 11 ∧ ay_ex hp 12 ∧ pz_x50 (ρ 0) (ρ 1) (ay_at hp 8 5) (ay_at hp 8 6) (ay_at hp 8 7) (ay_at hp 8 8) (ay_at hp 10 0) (ay_at hp 10 1) (ay_at hp 10 2) (ay_at hp 10 3) (ay_at hp 10 4) (ay_at hp 8 9) (ay_at hp 8 11) (ay_at hp 8 10) (ay_at hp 8 3) (ay_at hp 8 4) (ay_at hp 11) (ay_at hp 12) := (ax_XF_lt (by decide)).mp (ax_gx hE (50, [3, 7]) (by decide))
  rw [c_kind] at F50
  refine ⟨(fun y hy => by cases hy), _, List.mem_cons_self, ρ, fun _ _ => rfl, ax_px hE (by decide) (fun y hy => ?_)⟩
  cases List.mem_singleton.mp hy
  refine (ax_XF_lt (x := 61) (by decide)).mpr ?_
  show pz61 (pz_gt (ρ 0)) (pz_gN (ρ 0)) ((ρ 1) / 4) ((4026) / 4 - 1000)
  have kd : ρ 2 / 4 = pz_kd (pz_gt (ρ 0)) (pz_gN (ρ 0)) (pz_p (pz_cf (pz_gt (ρ 0)) (pz_gN (ρ 0)) (ρ 1 / 4))) := F50.2.2.1
  exact pz_is_no (Or.inl (by omega))

theorem axq_iw2a_6 : ax_RO ax_wC ax_XC axu_iw2a_6 := by
  intro ρ hp hE hT
  have j0 : ρ 0 % 4 = 1 := pz_gj hE 0 (by decide) rfl
  have j1 : ρ 1 % 4 = 1 := pz_gj hE 1 (by decide) rfl
  obtain ⟨i2a, i2b, i2c, i2d⟩ := pz_gi hE 2 2147482848 2147483653 (by decide) rfl
  obtain ⟨i3a, i3b, i3c, i3d⟩ := pz_gi hE 3 2147483648 2147484448 (by decide) rfl
  obtain ⟨i4a, i4b, i4c, i4d⟩ := pz_gi hE 4 2147483648 2147484448 (by decide) rfl
  have c_place : ay_at hp 8 6 = some (ρ 3) := ay_gfj hE 42 24 15 8 6 (by decide) (by rw [ax_vl_c (by decide)]) (by rw [ax_vl_c (by decide)])
  have c_ahead : ay_at hp 8 5 = some (ρ 4) := ay_gfj hE 42 20 19 8 5 (by decide) (by rw [ax_vl_c (by decide)]) (by rw [ax_vl_c (by decide)])
  have s1 : (ρ 2 / 4 + 2147483648) % 4294967296 + (ρ 3 / 4 + 2147483648) % 4294967296 = (ρ 4 / 4 + 2147483648) % 4294967296 + 2147483648 := pz_gs hE 11 15 19 (by decide)
  obtain ⟨-, -, -, -, F50⟩ : ay_ex hp 8 ∧ ay_ex hp 10 ∧ ay_ex hp 11 ∧ ay_ex hp 12 ∧ pz_x50 (ρ 0) (ρ 1) (ay_at hp 8 5) (ay_at hp 8 6) (ay_at hp 8 7) (ay_at hp 8 8) (ay_at hp 10 0) (ay_at hp 10 1) (ay_at hp 10 2) (ay_at hp 10 3) (ay_at hp 10 4) (ay_at hp 8 9) (ay_at hp 8 11) (ay_at hp 8 10) (ay_at hp 8 3) (ay_at hp 8 4) (ay_at hp 11) (ay_at hp 12) := (ax_XF_lt (by decide)).mp (ax_gx hE (50, [3, 7]) (by decide))
  rw [c_place] at F50
  rw [c_ahead] at F50
  refine ⟨(fun y hy => by cases hy), _, List.mem_cons_self, ρ, fun _ _ => rfl, ax_px hE (by decide) (fun y hy => ?_)⟩
  cases List.mem_singleton.mp hy
  refine (ax_XF_lt (x := 61) (by decide)).mpr ?_
  show pz61 (pz_gt (ρ 0)) (pz_gN (ρ 0)) ((ρ 1) / 4) ((4026) / 4 - 1000)
  have e1 : ρ 4 / 4 = pz_nx (pz_gt (ρ 0)) (pz_gN (ρ 0)) (pz_p (pz_cf (pz_gt (ρ 0)) (pz_gN (ρ 0)) (ρ 1 / 4))) := F50.1
  have e2 : ρ 3 / 4 = pz_at (pz_gt (ρ 0)) (pz_gN (ρ 0)) (pz_p (pz_cf (pz_gt (ρ 0)) (pz_gN (ρ 0)) (ρ 1 / 4))) := F50.2.1
  refine pz_is_no (Or.inr (Or.inl ?_))
  show pz_nx (pz_gt (ρ 0)) (pz_gN (ρ 0)) (pz_p (pz_cf (pz_gt (ρ 0)) (pz_gN (ρ 0)) (ρ 1 / 4))) - pz_at (pz_gt (ρ 0)) (pz_gN (ρ 0)) (pz_p (pz_cf (pz_gt (ρ 0)) (pz_gN (ρ 0)) (ρ 1 / 4))) ≠ 6
  omega

theorem axq_iw1b_6 : ax_RO ax_wC ax_XC axu_iw1b_6 := by
  intro ρ hp hE hT
  have j0 : ρ 0 % 4 = 1 := pz_gj hE 0 (by decide) rfl
  have j1 : ρ 1 % 4 = 1 := pz_gj hE 1 (by decide) rfl
  obtain ⟨i2a, i2b, i2c, i2d⟩ := pz_gi hE 2 2147483650 4294967295 (by decide) rfl
  have c_kind : ay_at hp 8 7 = some (ρ 2) := ay_gfj hE 42 28 11 8 7 (by decide) (by rw [ax_vl_c (by decide)]) (by rw [ax_vl_c (by decide)])
  obtain ⟨-, -, -, -, F50⟩ : ay_ex hp 8 ∧ ay_ex hp 10 ∧ ay_ex hp 11 ∧ ay_ex hp 12 ∧ pz_x50 (ρ 0) (ρ 1) (ay_at hp 8 5) (ay_at hp 8 6) (ay_at hp 8 7) (ay_at hp 8 8) (ay_at hp 10 0) (ay_at hp 10 1) (ay_at hp 10 2) (ay_at hp 10 3) (ay_at hp 10 4) (ay_at hp 8 9) (ay_at hp 8 11) (ay_at hp 8 10) (ay_at hp 8 3) (ay_at hp 8 4) (ay_at hp 11) (ay_at hp 12) := (ax_XF_lt (by decide)).mp (ax_gx hE (50, [3, 7]) (by decide))
  rw [c_kind] at F50
  refine ⟨(fun y hy => by cases hy), _, List.mem_cons_self, ρ, fun _ _ => rfl, ax_px hE (by decide) (fun y hy => ?_)⟩
  cases List.mem_singleton.mp hy
  refine (ax_XF_lt (x := 61) (by decide)).mpr ?_
  show pz61 (pz_gt (ρ 0)) (pz_gN (ρ 0)) ((ρ 1) / 4) ((4026) / 4 - 1000)
  have kd : ρ 2 / 4 = pz_kd (pz_gt (ρ 0)) (pz_gN (ρ 0)) (pz_p (pz_cf (pz_gt (ρ 0)) (pz_gN (ρ 0)) (ρ 1 / 4))) := F50.2.2.1
  exact pz_is_no (Or.inl (by omega))

theorem axq_iw2b_6 : ax_RO ax_wC ax_XC axu_iw2b_6 := by
  intro ρ hp hE hT
  have j0 : ρ 0 % 4 = 1 := pz_gj hE 0 (by decide) rfl
  have j1 : ρ 1 % 4 = 1 := pz_gj hE 1 (by decide) rfl
  obtain ⟨i2a, i2b, i2c, i2d⟩ := pz_gi hE 2 2147483655 2147484448 (by decide) rfl
  obtain ⟨i3a, i3b, i3c, i3d⟩ := pz_gi hE 3 2147483648 2147484448 (by decide) rfl
  obtain ⟨i4a, i4b, i4c, i4d⟩ := pz_gi hE 4 2147483648 2147484448 (by decide) rfl
  have c_place : ay_at hp 8 6 = some (ρ 3) := ay_gfj hE 42 24 15 8 6 (by decide) (by rw [ax_vl_c (by decide)]) (by rw [ax_vl_c (by decide)])
  have c_ahead : ay_at hp 8 5 = some (ρ 4) := ay_gfj hE 42 20 19 8 5 (by decide) (by rw [ax_vl_c (by decide)]) (by rw [ax_vl_c (by decide)])
  have s1 : (ρ 2 / 4 + 2147483648) % 4294967296 + (ρ 3 / 4 + 2147483648) % 4294967296 = (ρ 4 / 4 + 2147483648) % 4294967296 + 2147483648 := pz_gs hE 11 15 19 (by decide)
  obtain ⟨-, -, -, -, F50⟩ : ay_ex hp 8 ∧ ay_ex hp 10 ∧ ay_ex hp 11 ∧ ay_ex hp 12 ∧ pz_x50 (ρ 0) (ρ 1) (ay_at hp 8 5) (ay_at hp 8 6) (ay_at hp 8 7) (ay_at hp 8 8) (ay_at hp 10 0) (ay_at hp 10 1) (ay_at hp 10 2) (ay_at hp 10 3) (ay_at hp 10 4) (ay_at hp 8 9) (ay_at hp 8 11) (ay_at hp 8 10) (ay_at hp 8 3) (ay_at hp 8 4) (ay_at hp 11) (ay_at hp 12) := (ax_XF_lt (by decide)).mp (ax_gx hE (50, [3, 7]) (by decide))
  rw [c_place] at F50
  rw [c_ahead] at F50
  refine ⟨(fun y hy => by cases hy), _, List.mem_cons_self, ρ, fun _ _ => rfl, ax_px hE (by decide) (fun y hy => ?_)⟩
  cases List.mem_singleton.mp hy
  refine (ax_XF_lt (x := 61) (by decide)).mpr ?_
  show pz61 (pz_gt (ρ 0)) (pz_gN (ρ 0)) ((ρ 1) / 4) ((4026) / 4 - 1000)
  have e1 : ρ 4 / 4 = pz_nx (pz_gt (ρ 0)) (pz_gN (ρ 0)) (pz_p (pz_cf (pz_gt (ρ 0)) (pz_gN (ρ 0)) (ρ 1 / 4))) := F50.1
  have e2 : ρ 3 / 4 = pz_at (pz_gt (ρ 0)) (pz_gN (ρ 0)) (pz_p (pz_cf (pz_gt (ρ 0)) (pz_gN (ρ 0)) (ρ 1 / 4))) := F50.2.1
  refine pz_is_no (Or.inr (Or.inl ?_))
  show pz_nx (pz_gt (ρ 0)) (pz_gN (ρ 0)) (pz_p (pz_cf (pz_gt (ρ 0)) (pz_gN (ρ 0)) (ρ 1 / 4))) - pz_at (pz_gt (ρ 0)) (pz_gN (ρ 0)) (pz_p (pz_cf (pz_gt (ρ 0)) (pz_gN (ρ 0)) (ρ 1 / 4))) ≠ 6
  omega

theorem axq_iw3_6 : ax_RO ax_wC ax_XC axu_iw3_6 := by
  intro ρ hp hE hT
  have j0 : ρ 0 % 4 = 1 := pz_gj hE 0 (by decide) rfl
  have j1 : ρ 1 % 4 = 1 := pz_gj hE 1 (by decide) rfl
  obtain ⟨i2a, i2b, i2c, i2d⟩ := pz_gi hE 2 2147483649 2147483649 (by decide) rfl
  obtain ⟨i3a, i3b, i3c, i3d⟩ := pz_gi hE 3 2147483654 2147483654 (by decide) rfl
  obtain ⟨i4a, i4b, i4c, i4d⟩ := pz_gi hE 4 2147483648 2147484448 (by decide) rfl
  obtain ⟨i5a, i5b, i5c, i5d⟩ := pz_gi hE 5 2147483648 2147484448 (by decide) rfl
  have c_kind : ay_at hp 8 7 = some (ρ 2) := ay_gfj hE 42 28 11 8 7 (by decide) (by rw [ax_vl_c (by decide)]) (by rw [ax_vl_c (by decide)])
  have c_place : ay_at hp 8 6 = some (ρ 4) := ay_gfj hE 42 24 19 8 6 (by decide) (by rw [ax_vl_c (by decide)]) (by rw [ax_vl_c (by decide)])
  have c_ahead : ay_at hp 8 5 = some (ρ 5) := ay_gfj hE 42 20 23 8 5 (by decide) (by rw [ax_vl_c (by decide)]) (by rw [ax_vl_c (by decide)])
  have s1 : (ρ 3 / 4 + 2147483648) % 4294967296 + (ρ 4 / 4 + 2147483648) % 4294967296 = (ρ 5 / 4 + 2147483648) % 4294967296 + 2147483648 := pz_gs hE 15 19 23 (by decide)
  obtain ⟨-, -, -, -, F50⟩ : ay_ex hp 8 ∧ ay_ex hp 10 ∧ ay_ex hp 11 ∧ ay_ex hp 12 ∧ pz_x50 (ρ 0) (ρ 1) (ay_at hp 8 5) (ay_at hp 8 6) (ay_at hp 8 7) (ay_at hp 8 8) (ay_at hp 10 0) (ay_at hp 10 1) (ay_at hp 10 2) (ay_at hp 10 3) (ay_at hp 10 4) (ay_at hp 8 9) (ay_at hp 8 11) (ay_at hp 8 10) (ay_at hp 8 3) (ay_at hp 8 4) (ay_at hp 11) (ay_at hp 12) := (ax_XF_lt (by decide)).mp (ax_gx hE (50, [3, 7]) (by decide))
  rw [c_kind] at F50
  rw [c_place] at F50
  rw [c_ahead] at F50
  refine ⟨(fun y hy => by cases hy), _, List.mem_cons_self, ρ, fun _ _ => rfl, ax_px hE (by decide) (fun y hy => ?_)⟩
  cases List.mem_singleton.mp hy
  refine (ax_XF_lt (x := 62) (by decide)).mpr ?_
  show pz_x62 (ρ 0) (ρ 1) (4026) (0)
  have kd : ρ 2 / 4 = pz_kd (pz_gt (ρ 0)) (pz_gN (ρ 0)) (pz_p (pz_cf (pz_gt (ρ 0)) (pz_gN (ρ 0)) (ρ 1 / 4))) := F50.2.2.1
  have e1 : ρ 5 / 4 = pz_nx (pz_gt (ρ 0)) (pz_gN (ρ 0)) (pz_p (pz_cf (pz_gt (ρ 0)) (pz_gN (ρ 0)) (ρ 1 / 4))) := F50.1
  have e2 : ρ 4 / 4 = pz_at (pz_gt (ρ 0)) (pz_gN (ρ 0)) (pz_p (pz_cf (pz_gt (ρ 0)) (pz_gN (ρ 0)) (ρ 1 / 4))) := F50.2.1
  refine ⟨kd.symm.trans (show ρ 2 / 4 = 1 by omega), ?_, fun j hj => absurd (show j < 0 from hj) (by omega)⟩
  show pz_nx (pz_gt (ρ 0)) (pz_gN (ρ 0)) (pz_p (pz_cf (pz_gt (ρ 0)) (pz_gN (ρ 0)) (ρ 1 / 4))) - pz_at (pz_gt (ρ 0)) (pz_gN (ρ 0)) (pz_p (pz_cf (pz_gt (ρ 0)) (pz_gN (ρ 0)) (ρ 1 / 4))) = 6
  omega

theorem axq_iw6_6 : ax_RO ax_wC ax_XC axu_iw6_6 := by
  intro ρ hp hE hT
  have j0 : ρ 0 % 4 = 1 := pz_gj hE 0 (by decide) rfl
  have j1 : ρ 1 % 4 = 1 := pz_gj hE 1 (by decide) rfl
  obtain ⟨i2a, i2b, i2c, i2d⟩ := pz_gi hE 2 2147483654 2147483654 (by decide) rfl
  obtain ⟨-, -, -, -, F50⟩ : ay_ex hp 8 ∧ ay_ex hp 10 ∧ ay_ex hp 11 ∧ ay_ex hp 12 ∧ pz_x50 (ρ 0) (ρ 1) (ay_at hp 8 5) (ay_at hp 8 6) (ay_at hp 8 7) (ay_at hp 8 8) (ay_at hp 10 0) (ay_at hp 10 1) (ay_at hp 10 2) (ay_at hp 10 3) (ay_at hp 10 4) (ay_at hp 8 9) (ay_at hp 8 11) (ay_at hp 8 10) (ay_at hp 8 3) (ay_at hp 8 4) (ay_at hp 11) (ay_at hp 12) := (ax_XF_lt (by decide)).mp (ax_gx hE (50, [3, 7]) (by decide))
  have F62 : pz_x62 (ρ 0) (ρ 1) (4026) (ρ 2) := (ax_XF_lt (by decide)).mp (ax_gx hE (62, [3, 7, 4026, 11]) (by decide))
  refine ⟨(fun y hy => by cases hy), _, List.mem_cons_self, ρ, fun _ _ => rfl, ax_px hE (by decide) (fun y hy => ?_)⟩
  cases List.mem_singleton.mp hy
  refine (ax_XF_lt (x := 60) (by decide)).mpr ?_
  show pz60 (pz_gt (ρ 0)) (pz_gN (ρ 0)) ((ρ 1) / 4) ((4026) / 4 - 1000)
  exact pz_is_yes F62.1 F62.2.1 (fun i hi => F62.2.2 i (by have : i < 6 := hi; omega))

theorem axq_iw1a_7 : ax_RO ax_wC ax_XC axu_iw1a_7 := by
  intro ρ hp hE hT
  have j0 : ρ 0 % 4 = 1 := pz_gj hE 0 (by decide) rfl
  have j1 : ρ 1 % 4 = 1 := pz_gj hE 1 (by decide) rfl
  obtain ⟨i2a, i2b, i2c, i2d⟩ := pz_gi hE 2 0 2147483648 (by decide) rfl
  have c_kind : ay_at hp 8 7 = some (ρ 2) := ay_gfj hE 42 28 11 8 7 (by decide) (by rw [ax_vl_c (by decide)]) (by rw [ax_vl_c (by decide)])
  obtain ⟨-, -, -, -, F50⟩ : ay_ex hp 8 ∧ ay_ex hp 10 ∧ ay_ex hp 11 ∧ ay_ex hp 12 ∧ pz_x50 (ρ 0) (ρ 1) (ay_at hp 8 5) (ay_at hp 8 6) (ay_at hp 8 7) (ay_at hp 8 8) (ay_at hp 10 0) (ay_at hp 10 1) (ay_at hp 10 2) (ay_at hp 10 3) (ay_at hp 10 4) (ay_at hp 8 9) (ay_at hp 8 11) (ay_at hp 8 10) (ay_at hp 8 3) (ay_at hp 8 4) (ay_at hp 11) (ay_at hp 12) := (ax_XF_lt (by decide)).mp (ax_gx hE (50, [3, 7]) (by decide))
  rw [c_kind] at F50
  refine ⟨(fun y hy => by cases hy), _, List.mem_cons_self, ρ, fun _ _ => rfl, ax_px hE (by decide) (fun y hy => ?_)⟩
  cases List.mem_singleton.mp hy
  refine (ax_XF_lt (x := 61) (by decide)).mpr ?_
  show pz61 (pz_gt (ρ 0)) (pz_gN (ρ 0)) ((ρ 1) / 4) ((4030) / 4 - 1000)
  have kd : ρ 2 / 4 = pz_kd (pz_gt (ρ 0)) (pz_gN (ρ 0)) (pz_p (pz_cf (pz_gt (ρ 0)) (pz_gN (ρ 0)) (ρ 1 / 4))) := F50.2.2.1
  exact pz_is_no (Or.inl (by omega))

theorem axq_iw2a_7 : ax_RO ax_wC ax_XC axu_iw2a_7 := by
  intro ρ hp hE hT
  have j0 : ρ 0 % 4 = 1 := pz_gj hE 0 (by decide) rfl
  have j1 : ρ 1 % 4 = 1 := pz_gj hE 1 (by decide) rfl
  obtain ⟨i2a, i2b, i2c, i2d⟩ := pz_gi hE 2 2147482848 2147483652 (by decide) rfl
  obtain ⟨i3a, i3b, i3c, i3d⟩ := pz_gi hE 3 2147483648 2147484448 (by decide) rfl
  obtain ⟨i4a, i4b, i4c, i4d⟩ := pz_gi hE 4 2147483648 2147484448 (by decide) rfl
  have c_place : ay_at hp 8 6 = some (ρ 3) := ay_gfj hE 42 24 15 8 6 (by decide) (by rw [ax_vl_c (by decide)]) (by rw [ax_vl_c (by decide)])
  have c_ahead : ay_at hp 8 5 = some (ρ 4) := ay_gfj hE 42 20 19 8 5 (by decide) (by rw [ax_vl_c (by decide)]) (by rw [ax_vl_c (by decide)])
  have s1 : (ρ 2 / 4 + 2147483648) % 4294967296 + (ρ 3 / 4 + 2147483648) % 4294967296 = (ρ 4 / 4 + 2147483648) % 4294967296 + 2147483648 := pz_gs hE 11 15 19 (by decide)
  obtain ⟨-, -, -, -, F50⟩ : ay_ex hp 8 ∧ ay_ex hp 10 ∧ ay_ex hp 11 ∧ ay_ex hp 12 ∧ pz_x50 (ρ 0) (ρ 1) (ay_at hp 8 5) (ay_at hp 8 6) (ay_at hp 8 7) (ay_at hp 8 8) (ay_at hp 10 0) (ay_at hp 10 1) (ay_at hp 10 2) (ay_at hp 10 3) (ay_at hp 10 4) (ay_at hp 8 9) (ay_at hp 8 11) (ay_at hp 8 10) (ay_at hp 8 3) (ay_at hp 8 4) (ay_at hp 11) (ay_at hp 12) := (ax_XF_lt (by decide)).mp (ax_gx hE (50, [3, 7]) (by decide))
  rw [c_place] at F50
  rw [c_ahead] at F50
  refine ⟨(fun y hy => by cases hy), _, List.mem_cons_self, ρ, fun _ _ => rfl, ax_px hE (by decide) (fun y hy => ?_)⟩
  cases List.mem_singleton.mp hy
  refine (ax_XF_lt (x := 61) (by decide)).mpr ?_
  show pz61 (pz_gt (ρ 0)) (pz_gN (ρ 0)) ((ρ 1) / 4) ((4030) / 4 - 1000)
  have e1 : ρ 4 / 4 = pz_nx (pz_gt (ρ 0)) (pz_gN (ρ 0)) (pz_p (pz_cf (pz_gt (ρ 0)) (pz_gN (ρ 0)) (ρ 1 / 4))) := F50.1
  have e2 : ρ 3 / 4 = pz_at (pz_gt (ρ 0)) (pz_gN (ρ 0)) (pz_p (pz_cf (pz_gt (ρ 0)) (pz_gN (ρ 0)) (ρ 1 / 4))) := F50.2.1
  refine pz_is_no (Or.inr (Or.inl ?_))
  show pz_nx (pz_gt (ρ 0)) (pz_gN (ρ 0)) (pz_p (pz_cf (pz_gt (ρ 0)) (pz_gN (ρ 0)) (ρ 1 / 4))) - pz_at (pz_gt (ρ 0)) (pz_gN (ρ 0)) (pz_p (pz_cf (pz_gt (ρ 0)) (pz_gN (ρ 0)) (ρ 1 / 4))) ≠ 5
  omega

theorem axq_iw1b_7 : ax_RO ax_wC ax_XC axu_iw1b_7 := by
  intro ρ hp hE hT
  have j0 : ρ 0 % 4 = 1 := pz_gj hE 0 (by decide) rfl
  have j1 : ρ 1 % 4 = 1 := pz_gj hE 1 (by decide) rfl
  obtain ⟨i2a, i2b, i2c, i2d⟩ := pz_gi hE 2 2147483650 4294967295 (by decide) rfl
  have c_kind : ay_at hp 8 7 = some (ρ 2) := ay_gfj hE 42 28 11 8 7 (by decide) (by rw [ax_vl_c (by decide)]) (by rw [ax_vl_c (by decide)])
  obtain ⟨-, -, -, -, F50⟩ : ay_ex hp 8 ∧ ay_ex hp 10 ∧ ay_ex hp 11 ∧ ay_ex hp 12 ∧ pz_x50 (ρ 0) (ρ 1) (ay_at hp 8 5) (ay_at hp 8 6) (ay_at hp 8 7) (ay_at hp 8 8) (ay_at hp 10 0) (ay_at hp 10 1) (ay_at hp 10 2) (ay_at hp 10 3) (ay_at hp 10 4) (ay_at hp 8 9) (ay_at hp 8 11) (ay_at hp 8 10) (ay_at hp 8 3) (ay_at hp 8 4) (ay_at hp 11) (ay_at hp 12) := (ax_XF_lt (by decide)).mp (ax_gx hE (50, [3, 7]) (by decide))
  rw [c_kind] at F50
  refine ⟨(fun y hy => by cases hy), _, List.mem_cons_self, ρ, fun _ _ => rfl, ax_px hE (by decide) (fun y hy => ?_)⟩
  cases List.mem_singleton.mp hy
  refine (ax_XF_lt (x := 61) (by decide)).mpr ?_
  show pz61 (pz_gt (ρ 0)) (pz_gN (ρ 0)) ((ρ 1) / 4) ((4030) / 4 - 1000)
  have kd : ρ 2 / 4 = pz_kd (pz_gt (ρ 0)) (pz_gN (ρ 0)) (pz_p (pz_cf (pz_gt (ρ 0)) (pz_gN (ρ 0)) (ρ 1 / 4))) := F50.2.2.1
  exact pz_is_no (Or.inl (by omega))

theorem axq_iw2b_7 : ax_RO ax_wC ax_XC axu_iw2b_7 := by
  intro ρ hp hE hT
  have j0 : ρ 0 % 4 = 1 := pz_gj hE 0 (by decide) rfl
  have j1 : ρ 1 % 4 = 1 := pz_gj hE 1 (by decide) rfl
  obtain ⟨i2a, i2b, i2c, i2d⟩ := pz_gi hE 2 2147483654 2147484448 (by decide) rfl
  obtain ⟨i3a, i3b, i3c, i3d⟩ := pz_gi hE 3 2147483648 2147484448 (by decide) rfl
  obtain ⟨i4a, i4b, i4c, i4d⟩ := pz_gi hE 4 2147483648 2147484448 (by decide) rfl
  have c_place : ay_at hp 8 6 = some (ρ 3) := ay_gfj hE 42 24 15 8 6 (by decide) (by rw [ax_vl_c (by decide)]) (by rw [ax_vl_c (by decide)])
  have c_ahead : ay_at hp 8 5 = some (ρ 4) := ay_gfj hE 42 20 19 8 5 (by decide) (by rw [ax_vl_c (by decide)]) (by rw [ax_vl_c (by decide)])
  have s1 : (ρ 2 / 4 + 2147483648) % 4294967296 + (ρ 3 / 4 + 2147483648) % 4294967296 = (ρ 4 / 4 + 2147483648) % 4294967296 + 2147483648 := pz_gs hE 11 15 19 (by decide)
  obtain ⟨-, -, -, -, F50⟩ : ay_ex hp 8 ∧ ay_ex hp 10 ∧ ay_ex hp 11 ∧ ay_ex hp 12 ∧ pz_x50 (ρ 0) (ρ 1) (ay_at hp 8 5) (ay_at hp 8 6) (ay_at hp 8 7) (ay_at hp 8 8) (ay_at hp 10 0) (ay_at hp 10 1) (ay_at hp 10 2) (ay_at hp 10 3) (ay_at hp 10 4) (ay_at hp 8 9) (ay_at hp 8 11) (ay_at hp 8 10) (ay_at hp 8 3) (ay_at hp 8 4) (ay_at hp 11) (ay_at hp 12) := (ax_XF_lt (by decide)).mp (ax_gx hE (50, [3, 7]) (by decide))
  rw [c_place] at F50
  rw [c_ahead] at F50
  refine ⟨(fun y hy => by cases hy), _, List.mem_cons_self, ρ, fun _ _ => rfl, ax_px hE (by decide) (fun y hy => ?_)⟩
  cases List.mem_singleton.mp hy
  refine (ax_XF_lt (x := 61) (by decide)).mpr ?_
  show pz61 (pz_gt (ρ 0)) (pz_gN (ρ 0)) ((ρ 1) / 4) ((4030) / 4 - 1000)
  have e1 : ρ 4 / 4 = pz_nx (pz_gt (ρ 0)) (pz_gN (ρ 0)) (pz_p (pz_cf (pz_gt (ρ 0)) (pz_gN (ρ 0)) (ρ 1 / 4))) := F50.1
  have e2 : ρ 3 / 4 = pz_at (pz_gt (ρ 0)) (pz_gN (ρ 0)) (pz_p (pz_cf (pz_gt (ρ 0)) (pz_gN (ρ 0)) (ρ 1 / 4))) := F50.2.1
  refine pz_is_no (Or.inr (Or.inl ?_))
  show pz_nx (pz_gt (ρ 0)) (pz_gN (ρ 0)) (pz_p (pz_cf (pz_gt (ρ 0)) (pz_gN (ρ 0)) (ρ 1 / 4))) - pz_at (pz_gt (ρ 0)) (pz_gN (ρ 0)) (pz_p (pz_cf (pz_gt (ρ 0)) (pz_gN (ρ 0)) (ρ 1 / 4))) ≠ 5
  omega

theorem axq_iw3_7 : ax_RO ax_wC ax_XC axu_iw3_7 := by
  intro ρ hp hE hT
  have j0 : ρ 0 % 4 = 1 := pz_gj hE 0 (by decide) rfl
  have j1 : ρ 1 % 4 = 1 := pz_gj hE 1 (by decide) rfl
  obtain ⟨i2a, i2b, i2c, i2d⟩ := pz_gi hE 2 2147483649 2147483649 (by decide) rfl
  obtain ⟨i3a, i3b, i3c, i3d⟩ := pz_gi hE 3 2147483653 2147483653 (by decide) rfl
  obtain ⟨i4a, i4b, i4c, i4d⟩ := pz_gi hE 4 2147483648 2147484448 (by decide) rfl
  obtain ⟨i5a, i5b, i5c, i5d⟩ := pz_gi hE 5 2147483648 2147484448 (by decide) rfl
  have c_kind : ay_at hp 8 7 = some (ρ 2) := ay_gfj hE 42 28 11 8 7 (by decide) (by rw [ax_vl_c (by decide)]) (by rw [ax_vl_c (by decide)])
  have c_place : ay_at hp 8 6 = some (ρ 4) := ay_gfj hE 42 24 19 8 6 (by decide) (by rw [ax_vl_c (by decide)]) (by rw [ax_vl_c (by decide)])
  have c_ahead : ay_at hp 8 5 = some (ρ 5) := ay_gfj hE 42 20 23 8 5 (by decide) (by rw [ax_vl_c (by decide)]) (by rw [ax_vl_c (by decide)])
  have s1 : (ρ 3 / 4 + 2147483648) % 4294967296 + (ρ 4 / 4 + 2147483648) % 4294967296 = (ρ 5 / 4 + 2147483648) % 4294967296 + 2147483648 := pz_gs hE 15 19 23 (by decide)
  obtain ⟨-, -, -, -, F50⟩ : ay_ex hp 8 ∧ ay_ex hp 10 ∧ ay_ex hp 11 ∧ ay_ex hp 12 ∧ pz_x50 (ρ 0) (ρ 1) (ay_at hp 8 5) (ay_at hp 8 6) (ay_at hp 8 7) (ay_at hp 8 8) (ay_at hp 10 0) (ay_at hp 10 1) (ay_at hp 10 2) (ay_at hp 10 3) (ay_at hp 10 4) (ay_at hp 8 9) (ay_at hp 8 11) (ay_at hp 8 10) (ay_at hp 8 3) (ay_at hp 8 4) (ay_at hp 11) (ay_at hp 12) := (ax_XF_lt (by decide)).mp (ax_gx hE (50, [3, 7]) (by decide))
  rw [c_kind] at F50
  rw [c_place] at F50
  rw [c_ahead] at F50
  refine ⟨(fun y hy => by cases hy), _, List.mem_cons_self, ρ, fun _ _ => rfl, ax_px hE (by decide) (fun y hy => ?_)⟩
  cases List.mem_singleton.mp hy
  refine (ax_XF_lt (x := 62) (by decide)).mpr ?_
  show pz_x62 (ρ 0) (ρ 1) (4030) (0)
  have kd : ρ 2 / 4 = pz_kd (pz_gt (ρ 0)) (pz_gN (ρ 0)) (pz_p (pz_cf (pz_gt (ρ 0)) (pz_gN (ρ 0)) (ρ 1 / 4))) := F50.2.2.1
  have e1 : ρ 5 / 4 = pz_nx (pz_gt (ρ 0)) (pz_gN (ρ 0)) (pz_p (pz_cf (pz_gt (ρ 0)) (pz_gN (ρ 0)) (ρ 1 / 4))) := F50.1
  have e2 : ρ 4 / 4 = pz_at (pz_gt (ρ 0)) (pz_gN (ρ 0)) (pz_p (pz_cf (pz_gt (ρ 0)) (pz_gN (ρ 0)) (ρ 1 / 4))) := F50.2.1
  refine ⟨kd.symm.trans (show ρ 2 / 4 = 1 by omega), ?_, fun j hj => absurd (show j < 0 from hj) (by omega)⟩
  show pz_nx (pz_gt (ρ 0)) (pz_gN (ρ 0)) (pz_p (pz_cf (pz_gt (ρ 0)) (pz_gN (ρ 0)) (ρ 1 / 4))) - pz_at (pz_gt (ρ 0)) (pz_gN (ρ 0)) (pz_p (pz_cf (pz_gt (ρ 0)) (pz_gN (ρ 0)) (ρ 1 / 4))) = 5
  omega

theorem axq_iw6_7 : ax_RO ax_wC ax_XC axu_iw6_7 := by
  intro ρ hp hE hT
  have j0 : ρ 0 % 4 = 1 := pz_gj hE 0 (by decide) rfl
  have j1 : ρ 1 % 4 = 1 := pz_gj hE 1 (by decide) rfl
  obtain ⟨i2a, i2b, i2c, i2d⟩ := pz_gi hE 2 2147483653 2147483653 (by decide) rfl
  obtain ⟨-, -, -, -, F50⟩ : ay_ex hp 8 ∧ ay_ex hp 10 ∧ ay_ex hp 11 ∧ ay_ex hp 12 ∧ pz_x50 (ρ 0) (ρ 1) (ay_at hp 8 5) (ay_at hp 8 6) (ay_at hp 8 7) (ay_at hp 8 8) (ay_at hp 10 0) (ay_at hp 10 1) (ay_at hp 10 2) (ay_at hp 10 3) (ay_at hp 10 4) (ay_at hp 8 9) (ay_at hp 8 11) (ay_at hp 8 10) (ay_at hp 8 3) (ay_at hp 8 4) (ay_at hp 11) (ay_at hp 12) := (ax_XF_lt (by decide)).mp (ax_gx hE (50, [3, 7]) (by decide))
  have F62 : pz_x62 (ρ 0) (ρ 1) (4030) (ρ 2) := (ax_XF_lt (by decide)).mp (ax_gx hE (62, [3, 7, 4030, 11]) (by decide))
  refine ⟨(fun y hy => by cases hy), _, List.mem_cons_self, ρ, fun _ _ => rfl, ax_px hE (by decide) (fun y hy => ?_)⟩
  cases List.mem_singleton.mp hy
  refine (ax_XF_lt (x := 60) (by decide)).mpr ?_
  show pz60 (pz_gt (ρ 0)) (pz_gN (ρ 0)) ((ρ 1) / 4) ((4030) / 4 - 1000)
  exact pz_is_yes F62.1 F62.2.1 (fun i hi => F62.2.2 i (by have : i < 5 := hi; omega))

theorem axq_rt1 : ax_RO ax_wC ax_XC axu_rt1 := by
  intro ρ hp hE hT
  have j0 : ρ 0 % 4 = 1 := pz_gj hE 0 (by decide) rfl
  have c_fault : ay_at hp 8 3 = some (0) := ay_gfj hE 42 12 0 8 3 (by decide) (by rw [ax_vl_c (by decide)]) (by rw [ax_vl_c (by decide)])
  have c_faultPlace : ay_at hp 8 4 = some (17179869180) := ay_gfj hE 42 16 17179869180 8 4 (by decide) (by rw [ax_vl_c (by decide)]) (by rw [ax_vl_c (by decide)])
  have c_switches : ay_at hp 10 0 = some (0) := ay_gfj hE 50 0 0 10 0 (by decide) (by rw [ax_vl_c (by decide)]) (by rw [ax_vl_c (by decide)])
  have c_links : ay_at hp 10 1 = some (0) := ay_gfj hE 50 4 0 10 1 (by decide) (by rw [ax_vl_c (by decide)]) (by rw [ax_vl_c (by decide)])
  have c_root : ay_at hp 10 2 = some (0) := ay_gfj hE 50 8 0 10 2 (by decide) (by rw [ax_vl_c (by decide)]) (by rw [ax_vl_c (by decide)])
  have c_room : ay_at hp 10 3 = some (4) := ay_gfj hE 50 12 4 10 3 (by decide) (by rw [ax_vl_c (by decide)]) (by rw [ax_vl_c (by decide)])
  have c_units : ay_at hp 10 4 = some (0) := ay_gfj hE 50 16 0 10 4 (by decide) (by rw [ax_vl_c (by decide)]) (by rw [ax_vl_c (by decide)])
  have c_ahead : ay_at hp 8 5 = some (0) := ay_gfj hE 42 20 0 8 5 (by decide) (by rw [ax_vl_c (by decide)]) (by rw [ax_vl_c (by decide)])
  have c_rootTold : ay_at hp 8 9 = some (0) := ay_gfj hE 42 36 0 8 9 (by decide) (by rw [ax_vl_c (by decide)]) (by rw [ax_vl_c (by decide)])
  have c_rankTold : ay_at hp 8 10 = some (0) := ay_gfj hE 42 40 0 8 10 (by decide) (by rw [ax_vl_c (by decide)]) (by rw [ax_vl_c (by decide)])
  obtain ⟨-, -, F30⟩ : ay_ex hp 8 ∧ ay_ex hp 9 ∧ pz_x30 (ρ 0) (ay_at hp 8 1) (ay_at hp 9) := (ax_XF_lt (by decide)).mp (ax_gx hE (30, [3]) (by decide))
  obtain ⟨ρ', h1, h2⟩ := pz_pn1 (K := 0) (xf := [(553, [42, 44, 0, 3, 7]), (70, [3, 7])]) hE (by decide) (fun ρ' h1 h2 x hx => by
    have q0 : ρ' 0 = ρ 0 := h1 0 (by decide)
    rcases List.mem_cons.mp hx with e | hx
    · subst e
      refine (ax_XF_wr (x := 53) (by decide)).mpr ?_
      show ay_ex (ax_upd hp 42 (44) (0)) 8 ∧ ay_ex (ax_upd hp 42 (44) (0)) 10 ∧ ay_ex (ax_upd hp 42 (44) (0)) 11 ∧ ay_ex (ax_upd hp 42 (44) (0)) 12 ∧ pz_x53 (ρ' 0) (ρ' 1) (ay_at (ax_upd hp 42 (44) (0)) 8 5) (ay_at (ax_upd hp 42 (44) (0)) 10 0) (ay_at (ax_upd hp 42 (44) (0)) 10 1) (ay_at (ax_upd hp 42 (44) (0)) 10 2) (ay_at (ax_upd hp 42 (44) (0)) 10 3) (ay_at (ax_upd hp 42 (44) (0)) 10 4) (ay_at (ax_upd hp 42 (44) (0)) 8 9) (ay_at (ax_upd hp 42 (44) (0)) 8 11) (ay_at (ax_upd hp 42 (44) (0)) 8 10) (ay_at (ax_upd hp 42 (44) (0)) 8 3) (ay_at (ax_upd hp 42 (44) (0)) 8 4) (ay_at (ax_upd hp 42 (44) (0)) 11) (ay_at (ax_upd hp 42 (44) (0)) 12)
      rw [q0, h2]
      obtain ⟨o0, ho0⟩ := ay_some hT (q := 8) (g := 2) (n := 12) rfl rfl (j := 44 / 4) (by decide)
      have u1 : ∀ q, q ≠ 8 → ay_at (ax_upd hp 42 44 (0)) q = ay_at hp q := fun q hq => funext (fun j => ay_upd_ne hT.1 hq j)
      have u2 : ∀ j, ay_at (ax_upd hp 42 44 (0)) 8 j = if j = 11 then some (0) else ay_at hp 8 j := fun j => ay_upd_eq hT.1 rfl ho0 j
      refine ⟨ay_ex_upd hT.1 (ax_cellT hT (q := 8) (g := 2) rfl), ay_ex_upd hT.1 (ax_cellT hT (q := 10) (g := 1) rfl), ay_ex_upd hT.1 (ax_cellT hT (q := 11) (g := 14) rfl), ay_ex_upd hT.1 (ax_cellT hT (q := 12) (g := 15) rfl), ?_⟩
      rw [u2 5, if_neg (show ¬ 5 = 11 by decide), u1 10 (by decide), u2 9, if_neg (show ¬ 9 = 11 by decide), u2 11, if_pos rfl, u2 10, if_neg (show ¬ 10 = 11 by decide), u2 3, if_neg (show ¬ 3 = 11 by decide), u2 4, if_neg (show ¬ 4 = 11 by decide), u1 11 (by decide), u1 12 (by decide)]
      rw [c_fault]
      rw [c_faultPlace]
      rw [c_switches]
      rw [c_links]
      rw [c_root]
      rw [c_room]
      rw [c_units]
      rw [c_ahead]
      rw [c_rootTold]
      rw [c_rankTold]
      exact pz_53 (pz_41 _) rfl pq_rt1.1
    cases List.mem_singleton.mp hx
    refine (ax_XF_lt (x := 70) (by decide)).mpr ?_
    show pz7 (pz_gt (ρ' 0)) (pz_gN (ρ' 0)) ((ρ' 1) / 4) 0
    rw [q0, h2]
    exact rfl)
  exact ⟨(fun y hy => by cases hy), _, List.mem_cons_self, ρ', h1, h2⟩

theorem axq_jo1 : ax_RO ax_wC ax_XC axu_jo1 := by
  intro ρ hp hE hT
  have j0 : ρ 0 % 4 = 1 := pz_gj hE 0 (by decide) rfl
  have j1 : ρ 1 % 4 = 1 := pz_gj hE 1 (by decide) rfl
  obtain ⟨i2a, i2b, i2c, i2d⟩ := pz_gi hE 2 2147483648 2147483657 (by decide) rfl
  obtain ⟨i3a, i3b, i3c, i3d⟩ := pz_gi hE 3 2147483648 2147483657 (by decide) rfl
  obtain ⟨-, -, -, -, F50⟩ : ay_ex hp 8 ∧ ay_ex hp 10 ∧ ay_ex hp 11 ∧ ay_ex hp 12 ∧ pz_x50 (ρ 0) (ρ 1) (ay_at hp 8 5) (ay_at hp 8 6) (ay_at hp 8 7) (ay_at hp 8 8) (ay_at hp 10 0) (ay_at hp 10 1) (ay_at hp 10 2) (ay_at hp 10 3) (ay_at hp 10 4) (ay_at hp 8 9) (ay_at hp 8 11) (ay_at hp 8 10) (ay_at hp 8 3) (ay_at hp 8 4) (ay_at hp 11) (ay_at hp 12) := (ax_XF_lt (by decide)).mp (ax_gx hE (50, [3, 7]) (by decide))
  refine ⟨(fun y hy => by cases hy), _, List.mem_cons_self, ρ, fun _ _ => rfl, ax_px hE (by decide) (fun y hy => ?_)⟩
  cases List.mem_singleton.mp hy
  refine (ax_XF_lt (x := 114) (by decide)).mpr ?_
  show pz_x114 (ρ 0) (ρ 1) (ρ 2) (ρ 3) (0)
  intro j x y hj
  exact absurd (show 2 * j < 0 from hj) (by omega)

theorem axq_jo3 : ax_RO ax_wC ax_XC axu_jo3 := by
  intro ρ hp hE hT
  have j0 : ρ 0 % 4 = 1 := pz_gj hE 0 (by decide) rfl
  have j1 : ρ 1 % 4 = 1 := pz_gj hE 1 (by decide) rfl
  obtain ⟨i2a, i2b, i2c, i2d⟩ := pz_gi hE 2 2147483648 2147483657 (by decide) rfl
  obtain ⟨i3a, i3b, i3c, i3d⟩ := pz_gi hE 3 2147483648 2147483657 (by decide) rfl
  obtain ⟨i4a, i4b, i4c, i4d⟩ := pz_gi hE 4 2147483648 2147483687 (by decide) rfl
  obtain ⟨i5a, i5b, i5c, i5d⟩ := pz_gi hE 5 0 4294967295 (by decide) rfl
  obtain ⟨i6a, i6b, i6c, i6d⟩ := pz_gi hE 6 2147483648 2147483657 (by decide) rfl
  have s1 : (ρ 4 / 4 + 2147483648) % 4294967296 + (4 / 4 + 2147483648) % 4294967296 = (ρ 5 / 4 + 2147483648) % 4294967296 + 2147483648 := pz_gs hE 19 4 23 (by decide)
  have c_fbegin : ay_at hp 10 6 = some (ρ 7) := ay_gfj hE 50 24 31 10 6 (by decide) (by rw [ax_vl_c (by decide)]) (by rw [ax_vl_c (by decide)])
  have r1 : (ρ 6 / 4 + 2147483648) % 4294967296 ≠ (ρ 2 / 4 + 2147483648) % 4294967296 := pz_gc hE 1 27 11 (by decide) (by decide)
  obtain ⟨-, F31⟩ : ay_ex hp 10 ∧ pz_x31 (ay_at hp 10 6) (ay_at hp 10 7) := (ax_XF_lt (by decide)).mp (ax_gx hE (31, []) (by decide))
  rw [c_fbegin] at F31
  obtain ⟨-, -, -, -, F50⟩ : ay_ex hp 8 ∧ ay_ex hp 10 ∧ ay_ex hp 11 ∧ ay_ex hp 12 ∧ pz_x50 (ρ 0) (ρ 1) (ay_at hp 8 5) (ay_at hp 8 6) (ay_at hp 8 7) (ay_at hp 8 8) (ay_at hp 10 0) (ay_at hp 10 1) (ay_at hp 10 2) (ay_at hp 10 3) (ay_at hp 10 4) (ay_at hp 8 9) (ay_at hp 8 11) (ay_at hp 8 10) (ay_at hp 8 3) (ay_at hp 8 4) (ay_at hp 11) (ay_at hp 12) := (ax_XF_lt (by decide)).mp (ax_gx hE (50, [3, 7]) (by decide))
  have F114 : pz_x114 (ρ 0) (ρ 1) (ρ 2) (ρ 3) (ρ 4) := (ax_XF_lt (by decide)).mp (ax_gx hE (114, [3, 7, 11, 15, 19]) (by decide))
  refine ⟨(fun y hy => by cases hy), _, List.mem_cons_self, ρ, fun _ _ => rfl, ax_px hE (by decide) (fun y hy => ?_)⟩
  cases List.mem_singleton.mp hy
  refine (ax_XF_lt (x := 114) (by decide)).mpr ?_
  show pz_x114 (ρ 0) (ρ 1) (ρ 2) (ρ 3) (ρ 5)
  have h7 : ρ 7 = 54 := Option.some.inj F31.1
  have cb : ay_at hp 11 (ρ 4 / 4) = some (ρ 6) := ay_gf hE 31 19 27 11 (by decide) (by show ρ 7 / 4 - 2 = 11; rw [h7])
  intro j x y hj hl
  replace hj : 2 * j < ρ 5 / 4 := hj
  have g := F114 j x y
  obtain ⟨l1, l2, l3, l4⟩ := F50.2.2.2.2.2.2.2.2.2.2.2.2.2.2 j x y hl
  refine ⟨fun z => ?_, fun hj2 z => ?_⟩
  · by_cases h : 2 * j < ρ 4 / 4
    · exact (g h hl).1 z
    · rw [show ρ 4 / 4 = 2 * j by omega, l1] at cb
      have cb := Option.some.inj cb
      omega
  · replace hj2 : 2 * j + 1 < ρ 5 / 4 := hj2
    by_cases h : 2 * j + 1 < ρ 4 / 4
    · exact (g (by omega) hl).2 h z
    · rw [show ρ 4 / 4 = 2 * j + 1 by omega, l3] at cb
      have cb := Option.some.inj cb
      omega

theorem axq_jo4 : ax_RO ax_wC ax_XC axu_jo4 := by
  intro ρ hp hE hT
  have j0 : ρ 0 % 4 = 1 := pz_gj hE 0 (by decide) rfl
  have j1 : ρ 1 % 4 = 1 := pz_gj hE 1 (by decide) rfl
  obtain ⟨i2a, i2b, i2c, i2d⟩ := pz_gi hE 2 2147483648 2147483657 (by decide) rfl
  obtain ⟨i3a, i3b, i3c, i3d⟩ := pz_gi hE 3 2147483648 2147483657 (by decide) rfl
  obtain ⟨i4a, i4b, i4c, i4d⟩ := pz_gi hE 4 2147483648 2147483687 (by decide) rfl
  obtain ⟨i5a, i5b, i5c, i5d⟩ := pz_gi hE 5 0 4294967295 (by decide) rfl
  obtain ⟨i6a, i6b, i6c, i6d⟩ := pz_gi hE 6 2147483648 2147483657 (by decide) rfl
  have s1 : (ρ 4 / 4 + 2147483648) % 4294967296 + (4 / 4 + 2147483648) % 4294967296 = (ρ 5 / 4 + 2147483648) % 4294967296 + 2147483648 := pz_gs hE 19 4 23 (by decide)
  have c_ffinish : ay_at hp 10 7 = some (ρ 7) := ay_gfj hE 50 28 31 10 7 (by decide) (by rw [ax_vl_c (by decide)]) (by rw [ax_vl_c (by decide)])
  have r1 : (ρ 6 / 4 + 2147483648) % 4294967296 ≠ (ρ 3 / 4 + 2147483648) % 4294967296 := pz_gc hE 1 27 15 (by decide) (by decide)
  obtain ⟨-, F31⟩ : ay_ex hp 10 ∧ pz_x31 (ay_at hp 10 6) (ay_at hp 10 7) := (ax_XF_lt (by decide)).mp (ax_gx hE (31, []) (by decide))
  rw [c_ffinish] at F31
  obtain ⟨-, -, -, -, F50⟩ : ay_ex hp 8 ∧ ay_ex hp 10 ∧ ay_ex hp 11 ∧ ay_ex hp 12 ∧ pz_x50 (ρ 0) (ρ 1) (ay_at hp 8 5) (ay_at hp 8 6) (ay_at hp 8 7) (ay_at hp 8 8) (ay_at hp 10 0) (ay_at hp 10 1) (ay_at hp 10 2) (ay_at hp 10 3) (ay_at hp 10 4) (ay_at hp 8 9) (ay_at hp 8 11) (ay_at hp 8 10) (ay_at hp 8 3) (ay_at hp 8 4) (ay_at hp 11) (ay_at hp 12) := (ax_XF_lt (by decide)).mp (ax_gx hE (50, [3, 7]) (by decide))
  have F114 : pz_x114 (ρ 0) (ρ 1) (ρ 2) (ρ 3) (ρ 4) := (ax_XF_lt (by decide)).mp (ax_gx hE (114, [3, 7, 11, 15, 19]) (by decide))
  refine ⟨(fun y hy => by cases hy), _, List.mem_cons_self, ρ, fun _ _ => rfl, ax_px hE (by decide) (fun y hy => ?_)⟩
  cases List.mem_singleton.mp hy
  refine (ax_XF_lt (x := 114) (by decide)).mpr ?_
  show pz_x114 (ρ 0) (ρ 1) (ρ 2) (ρ 3) (ρ 5)
  have h7 : ρ 7 = 58 := Option.some.inj F31.2
  have cb : ay_at hp 12 (ρ 4 / 4) = some (ρ 6) := ay_gf hE 31 19 27 12 (by decide) (by show ρ 7 / 4 - 2 = 12; rw [h7])
  intro j x y hj hl
  replace hj : 2 * j < ρ 5 / 4 := hj
  have g := F114 j x y
  obtain ⟨l1, l2, l3, l4⟩ := F50.2.2.2.2.2.2.2.2.2.2.2.2.2.2 j x y hl
  refine ⟨fun z => ?_, fun hj2 z => ?_⟩
  · by_cases h : 2 * j < ρ 4 / 4
    · exact (g h hl).1 z
    · rw [show ρ 4 / 4 = 2 * j by omega, l2] at cb
      have cb := Option.some.inj cb
      omega
  · replace hj2 : 2 * j + 1 < ρ 5 / 4 := hj2
    by_cases h : 2 * j + 1 < ρ 4 / 4
    · exact (g (by omega) hl).2 h z
    · rw [show ρ 4 / 4 = 2 * j + 1 by omega, l4] at cb
      have cb := Option.some.inj cb
      omega

theorem axq_jo5 : ax_RO ax_wC ax_XC axu_jo5 := by
  intro ρ hp hE hT
  have j0 : ρ 0 % 4 = 1 := pz_gj hE 0 (by decide) rfl
  have j1 : ρ 1 % 4 = 1 := pz_gj hE 1 (by decide) rfl
  obtain ⟨i2a, i2b, i2c, i2d⟩ := pz_gi hE 2 2147483648 2147483657 (by decide) rfl
  obtain ⟨i3a, i3b, i3c, i3d⟩ := pz_gi hE 3 2147483648 2147483657 (by decide) rfl
  obtain ⟨i4a, i4b, i4c, i4d⟩ := pz_gi hE 4 2147483648 2147483688 (by decide) rfl
  obtain ⟨i5a, i5b, i5c, i5d⟩ := pz_gi hE 5 0 4294967295 (by decide) rfl
  obtain ⟨i6a, i6b, i6c, i6d⟩ := pz_gi hE 6 2147483648 2147483668 (by decide) rfl
  have c_links : ay_at hp 10 1 = some (ρ 6) := ay_gfj hE 50 4 27 10 1 (by decide) (by rw [ax_vl_c (by decide)]) (by rw [ax_vl_c (by decide)])
  have r1 : (ρ 5 / 4 + 2147483648) % 4294967296 ≤ (ρ 4 / 4 + 2147483648) % 4294967296 := pz_gc hE 3 19 23 (by decide) (by decide)
  obtain ⟨-, -, -, -, F50⟩ : ay_ex hp 8 ∧ ay_ex hp 10 ∧ ay_ex hp 11 ∧ ay_ex hp 12 ∧ pz_x50 (ρ 0) (ρ 1) (ay_at hp 8 5) (ay_at hp 8 6) (ay_at hp 8 7) (ay_at hp 8 8) (ay_at hp 10 0) (ay_at hp 10 1) (ay_at hp 10 2) (ay_at hp 10 3) (ay_at hp 10 4) (ay_at hp 8 9) (ay_at hp 8 11) (ay_at hp 8 10) (ay_at hp 8 3) (ay_at hp 8 4) (ay_at hp 11) (ay_at hp 12) := (ax_XF_lt (by decide)).mp (ax_gx hE (50, [3, 7]) (by decide))
  rw [c_links] at F50
  have F114 : pz_x114 (ρ 0) (ρ 1) (ρ 2) (ρ 3) (ρ 4) := (ax_XF_lt (by decide)).mp (ax_gx hE (114, [3, 7, 11, 15, 19]) (by decide))
  refine ⟨(fun y hy => by cases hy), _, List.mem_cons_self, ρ, fun _ _ => rfl, ax_px hE (by decide) (fun y hy => ?_)⟩
  cases List.mem_singleton.mp hy
  refine (ax_XF_lt (x := 113) (by decide)).mpr ?_
  show pz113 (pz_gt (ρ 0)) (pz_gN (ρ 0)) ((ρ 1) / 4) ((ρ 2) / 4) ((ρ 3) / 4)
  obtain ⟨r, g1, g2, g3⟩ := ay_mk hE 2 8 27 23 (by decide) (by decide)
  replace g1 : some (8 / 4 * (ρ 6 / 4) % 4294967296) = some r := g1
  have g1 := Option.some.inj g1
  replace g3 : ρ 5 = 4 * r := g3
  have el : ρ 6 / 4 = (pz_ls (pz_cf (pz_gt (ρ 0)) (pz_gN (ρ 0)) (ρ 1 / 4))).length := F50.2.2.2.2.2.1
  refine pz_jn_no (fun j x y hl => ?_)
  have hlt := (List.getElem?_eq_some_iff.mp hl).1
  have g := F114 j x y (show 2 * j < ρ 4 / 4 by omega) hl
  exact ⟨g.1, g.2 (show 2 * j + 1 < ρ 4 / 4 by omega)⟩

theorem axq_jo2 : ax_RO ax_wC ax_XC axu_jo2 := by
  intro ρ hp hE hT
  have j0 : ρ 0 % 4 = 1 := pz_gj hE 0 (by decide) rfl
  have j1 : ρ 1 % 4 = 1 := pz_gj hE 1 (by decide) rfl
  obtain ⟨i2a, i2b, i2c, i2d⟩ := pz_gi hE 2 2147483648 2147483657 (by decide) rfl
  obtain ⟨i3a, i3b, i3c, i3d⟩ := pz_gi hE 3 2147483648 2147483657 (by decide) rfl
  obtain ⟨i4a, i4b, i4c, i4d⟩ := pz_gi hE 4 2147483648 2147483687 (by decide) rfl
  obtain ⟨i5a, i5b, i5c, i5d⟩ := pz_gi hE 5 0 4294967295 (by decide) rfl
  obtain ⟨i6a, i6b, i6c, i6d⟩ := pz_gi hE 6 2147483648 2147483668 (by decide) rfl
  obtain ⟨i7a, i7b, i7c, i7d⟩ := pz_gi hE 7 2147483648 2147483657 (by decide) rfl
  obtain ⟨i8a, i8b, i8c, i8d⟩ := pz_gi hE 8 2147483648 2147483657 (by decide) rfl
  have c_links : ay_at hp 10 1 = some (ρ 6) := ay_gfj hE 50 4 27 10 1 (by decide) (by rw [ax_vl_c (by decide)]) (by rw [ax_vl_c (by decide)])
  have r1 : (ρ 4 / 4 + 2147483648) % 4294967296 < (ρ 5 / 4 + 2147483648) % 4294967296 := pz_gc hE 2 19 23 (by decide) (by decide)
  have c_fbegin : ay_at hp 10 6 = some (ρ 9) := ay_gfj hE 50 24 39 10 6 (by decide) (by rw [ax_vl_c (by decide)]) (by rw [ax_vl_c (by decide)])
  have r2 : (ρ 7 / 4 + 2147483648) % 4294967296 = (ρ 2 / 4 + 2147483648) % 4294967296 := pz_gc hE 0 31 11 (by decide) (by decide)
  have c_ffinish : ay_at hp 10 7 = some (ρ 10) := ay_gfj hE 50 28 43 10 7 (by decide) (by rw [ax_vl_c (by decide)]) (by rw [ax_vl_c (by decide)])
  have r3 : (ρ 8 / 4 + 2147483648) % 4294967296 = (ρ 3 / 4 + 2147483648) % 4294967296 := pz_gc hE 0 35 15 (by decide) (by decide)
  obtain ⟨-, F31⟩ : ay_ex hp 10 ∧ pz_x31 (ay_at hp 10 6) (ay_at hp 10 7) := (ax_XF_lt (by decide)).mp (ax_gx hE (31, []) (by decide))
  rw [c_fbegin] at F31
  rw [c_ffinish] at F31
  obtain ⟨-, -, -, -, F50⟩ : ay_ex hp 8 ∧ ay_ex hp 10 ∧ ay_ex hp 11 ∧ ay_ex hp 12 ∧ pz_x50 (ρ 0) (ρ 1) (ay_at hp 8 5) (ay_at hp 8 6) (ay_at hp 8 7) (ay_at hp 8 8) (ay_at hp 10 0) (ay_at hp 10 1) (ay_at hp 10 2) (ay_at hp 10 3) (ay_at hp 10 4) (ay_at hp 8 9) (ay_at hp 8 11) (ay_at hp 8 10) (ay_at hp 8 3) (ay_at hp 8 4) (ay_at hp 11) (ay_at hp 12) := (ax_XF_lt (by decide)).mp (ax_gx hE (50, [3, 7]) (by decide))
  rw [c_links] at F50
  refine ⟨(fun y hy => by cases hy), _, List.mem_cons_self, ρ, fun _ _ => rfl, ax_px hE (by decide) (fun y hy => ?_)⟩
  cases List.mem_singleton.mp hy
  refine (ax_XF_lt (x := 112) (by decide)).mpr ?_
  show pz112 (pz_gt (ρ 0)) (pz_gN (ρ 0)) ((ρ 1) / 4) ((ρ 2) / 4) ((ρ 3) / 4)
  obtain ⟨r, g1, g2, g3⟩ := ay_mk hE 2 8 27 23 (by decide) (by decide)
  replace g1 : some (8 / 4 * (ρ 6 / 4) % 4294967296) = some r := g1
  have g1 := Option.some.inj g1
  replace g3 : ρ 5 = 4 * r := g3
  have el : ρ 6 / 4 = (pz_ls (pz_cf (pz_gt (ρ 0)) (pz_gN (ρ 0)) (ρ 1 / 4))).length := F50.2.2.2.2.2.1
  have h9 : ρ 9 = 54 := Option.some.inj F31.1
  have h10 : ρ 10 = 58 := Option.some.inj F31.2
  have cb : ay_at hp 11 (ρ 4 / 4) = some (ρ 7) := ay_gf hE 39 19 31 11 (by decide) (by show ρ 9 / 4 - 2 = 11; rw [h9])
  have cf : ay_at hp 12 (ρ 4 / 4) = some (ρ 8) := ay_gf hE 43 19 35 12 (by decide) (by show ρ 10 / 4 - 2 = 12; rw [h10])
  have hlt : ρ 4 / 4 / 2 < (pz_ls (pz_cf (pz_gt (ρ 0)) (pz_gN (ρ 0)) (ρ 1 / 4))).length := by omega
  obtain ⟨⟨x, y⟩, hl⟩ : ∃ z, (pz_ls (pz_cf (pz_gt (ρ 0)) (pz_gN (ρ 0)) (ρ 1 / 4)))[ρ 4 / 4 / 2]? = some z := ⟨_, List.getElem?_eq_getElem hlt⟩
  obtain ⟨l1, l2, l3, l4⟩ := F50.2.2.2.2.2.2.2.2.2.2.2.2.2.2 _ x y hl
  refine pz_jn_yes hl ?_
  by_cases hp2 : ρ 4 / 4 % 2 = 0
  · rw [show 2 * (ρ 4 / 4 / 2) = ρ 4 / 4 by omega] at l1 l2
    rw [cb] at l1
    rw [cf] at l2
    have l1 := Option.some.inj l1
    have l2 := Option.some.inj l2
    exact Or.inl ⟨by omega, by omega⟩
  · rw [show 2 * (ρ 4 / 4 / 2) + 1 = ρ 4 / 4 by omega] at l3 l4
    rw [cb] at l3
    rw [cf] at l4
    have l3 := Option.some.inj l3
    have l4 := Option.some.inj l4
    exact Or.inr ⟨by omega, by omega⟩

theorem axq_al1 : ax_RO ax_wC ax_XC axu_al1 := by
  intro ρ hp hE hT
  have j0 : ρ 0 % 4 = 1 := pz_gj hE 0 (by decide) rfl
  have j1 : ρ 1 % 4 = 1 := pz_gj hE 1 (by decide) rfl
  obtain ⟨i2a, i2b, i2c, i2d⟩ := pz_gi hE 2 2147483648 2147483657 (by decide) rfl
  obtain ⟨i3a, i3b, i3c, i3d⟩ := pz_gi hE 3 2147483648 2147483657 (by decide) rfl
  obtain ⟨i4a, i4b, i4c, i4d⟩ := pz_gi hE 4 2147483648 2147483667 (by decide) rfl
  obtain ⟨i5a, i5b, i5c, i5d⟩ := pz_gi hE 5 0 4294967295 (by decide) rfl
  have c_fbegin : ay_at hp 10 6 = some (ρ 6) := ay_gfj hE 50 24 27 10 6 (by decide) (by rw [ax_vl_c (by decide)]) (by rw [ax_vl_c (by decide)])
  have c_links : ay_at hp 10 1 = some (ρ 4) := ay_gfj hE 50 4 19 10 1 (by decide) (by rw [ax_vl_c (by decide)]) (by rw [ax_vl_c (by decide)])
  have r1 : (ρ 3 / 4 + 2147483648) % 4294967296 ≠ (ρ 2 / 4 + 2147483648) % 4294967296 := pz_gc hE 1 15 11 (by decide) (by decide)
  obtain ⟨-, F31⟩ : ay_ex hp 10 ∧ pz_x31 (ay_at hp 10 6) (ay_at hp 10 7) := (ax_XF_lt (by decide)).mp (ax_gx hE (31, []) (by decide))
  rw [c_fbegin] at F31
  obtain ⟨-, -, -, -, F50⟩ : ay_ex hp 8 ∧ ay_ex hp 10 ∧ ay_ex hp 11 ∧ ay_ex hp 12 ∧ pz_x50 (ρ 0) (ρ 1) (ay_at hp 8 5) (ay_at hp 8 6) (ay_at hp 8 7) (ay_at hp 8 8) (ay_at hp 10 0) (ay_at hp 10 1) (ay_at hp 10 2) (ay_at hp 10 3) (ay_at hp 10 4) (ay_at hp 8 9) (ay_at hp 8 11) (ay_at hp 8 10) (ay_at hp 8 3) (ay_at hp 8 4) (ay_at hp 11) (ay_at hp 12) := (ax_XF_lt (by decide)).mp (ax_gx hE (50, [3, 7]) (by decide))
  rw [c_links] at F50
  have F75 : pz7 (pz_gt (ρ 0)) (pz_gN (ρ 0)) ((ρ 1) / 4) 5 := (ax_XF_lt (by decide)).mp (ax_gx hE (75, [3, 7]) (by decide))
  have F67 : pz67 (pz_gt (ρ 0)) (pz_gN (ρ 0)) ((ρ 1) / 4) ((ρ 2) / 4) := (ax_XF_lt (by decide)).mp (ax_gx hE (67, [3, 7, 11]) (by decide))
  have F104 : pz104 (pz_gt (ρ 0)) (pz_gN (ρ 0)) ((ρ 1) / 4) ((ρ 3) / 4) := (ax_XF_lt (by decide)).mp (ax_gx hE (104, [3, 7, 15]) (by decide))
  have F113 : pz113 (pz_gt (ρ 0)) (pz_gN (ρ 0)) ((ρ 1) / 4) ((ρ 2) / 4) ((ρ 3) / 4) := (ax_XF_lt (by decide)).mp (ax_gx hE (113, [3, 7, 11, 15]) (by decide))
  have h6 : ρ 6 = 54 := Option.some.inj F31.1
  obtain ⟨r, g1, g2, g3⟩ := ay_mk hE 2 8 19 23 (by decide) (by decide)
  replace g1 : some (8 / 4 * (ρ 4 / 4) % 4294967296) = some r := g1
  have g1 := Option.some.inj g1
  replace g3 : ρ 5 = 4 * r := g3
  refine ⟨(fun y hy => by cases hy), _, List.mem_cons_self, ρ, fun _ _ => rfl, ax_px hE (by decide) (fun y hy => ?_)⟩
  cases List.mem_singleton.mp hy
  refine (ax_XF_wr (x := 116) (by decide)).mpr ?_
  show ay_ex (ax_upd hp (ρ 6) (ρ 5) (ρ 2)) 8 ∧ ay_ex (ax_upd hp (ρ 6) (ρ 5) (ρ 2)) 10 ∧ ay_ex (ax_upd hp (ρ 6) (ρ 5) (ρ 2)) 11 ∧ ay_ex (ax_upd hp (ρ 6) (ρ 5) (ρ 2)) 12 ∧ pz_xal 1 (ρ 0) (ρ 1) (ρ 2) (ρ 3) (ρ 4) (ay_at (ax_upd hp (ρ 6) (ρ 5) (ρ 2)) 8 5) (ay_at (ax_upd hp (ρ 6) (ρ 5) (ρ 2)) 10 0) (ay_at (ax_upd hp (ρ 6) (ρ 5) (ρ 2)) 10 1) (ay_at (ax_upd hp (ρ 6) (ρ 5) (ρ 2)) 10 2) (ay_at (ax_upd hp (ρ 6) (ρ 5) (ρ 2)) 10 3) (ay_at (ax_upd hp (ρ 6) (ρ 5) (ρ 2)) 10 4) (ay_at (ax_upd hp (ρ 6) (ρ 5) (ρ 2)) 8 9) (ay_at (ax_upd hp (ρ 6) (ρ 5) (ρ 2)) 8 11) (ay_at (ax_upd hp (ρ 6) (ρ 5) (ρ 2)) 8 10) (ay_at (ax_upd hp (ρ 6) (ρ 5) (ρ 2)) 8 3) (ay_at (ax_upd hp (ρ 6) (ρ 5) (ρ 2)) 8 4) (ay_at (ax_upd hp (ρ 6) (ρ 5) (ρ 2)) 11) (ay_at (ax_upd hp (ρ 6) (ρ 5) (ρ 2)) 12)
  rw [h6]
  obtain ⟨o0, ho0⟩ := ay_some hT (q := 11) (g := 14) (n := 40) rfl rfl (j := ρ 5 / 4) (by omega)
  have u1 : ∀ q, q ≠ 11 → ay_at (ax_upd hp 54 (ρ 5) (ρ 2)) q = ay_at hp q := fun q hq => funext (fun j => ay_upd_ne hT.1 hq j)
  have u2 : ∀ j, ay_at (ax_upd hp 54 (ρ 5) (ρ 2)) 11 j = if j = ρ 5 / 4 then some (ρ 2) else ay_at hp 11 j := fun j => ay_upd_eq hT.1 rfl ho0 j
  refine ⟨ay_ex_upd hT.1 (ax_cellT hT (q := 8) (g := 2) rfl), ay_ex_upd hT.1 (ax_cellT hT (q := 10) (g := 1) rfl), ay_ex_upd hT.1 (ax_cellT hT (q := 11) (g := 14) rfl), ay_ex_upd hT.1 (ax_cellT hT (q := 12) (g := 15) rfl), ?_⟩
  rw [u1 8 (by decide), u1 10 (by decide), u1 12 (by decide)]
  rw [c_links]
  have hi : ρ 5 / 4 = 2 * (ρ 4 / 4) := by omega
  have hv : ρ 2 = 4 * (ρ 2 / 4) := by omega
  have el : ρ 4 / 4 = ρ 4 / 4 := rfl
  exact ⟨F50.1, rfl, F75, F67, F104, by omega, F113, pz_dt_x F50.2.2.2.2 (fun j hj => by replace hj : j < 2 * (ρ 4 / 4) := hj; rw [u2, if_neg (by omega)]) (fun _ _ => rfl), by rw [u2, if_pos hi.symm]; exact congrArg some hv, fun z => absurd z (by decide), fun z => absurd z (by decide), fun z => absurd z (by decide)⟩

theorem axq_al2 : ax_RO ax_wC ax_XC axu_al2 := by
  intro ρ hp hE hT
  have j0 : ρ 0 % 4 = 1 := pz_gj hE 0 (by decide) rfl
  have j1 : ρ 1 % 4 = 1 := pz_gj hE 1 (by decide) rfl
  obtain ⟨i2a, i2b, i2c, i2d⟩ := pz_gi hE 2 2147483648 2147483657 (by decide) rfl
  obtain ⟨i3a, i3b, i3c, i3d⟩ := pz_gi hE 3 2147483648 2147483657 (by decide) rfl
  obtain ⟨i4a, i4b, i4c, i4d⟩ := pz_gi hE 4 2147483648 2147483667 (by decide) rfl
  obtain ⟨i5a, i5b, i5c, i5d⟩ := pz_gi hE 5 0 4294967295 (by decide) rfl
  have c_ffinish : ay_at hp 10 7 = some (ρ 6) := ay_gfj hE 50 28 27 10 7 (by decide) (by rw [ax_vl_c (by decide)]) (by rw [ax_vl_c (by decide)])
  obtain ⟨-, F31⟩ : ay_ex hp 10 ∧ pz_x31 (ay_at hp 10 6) (ay_at hp 10 7) := (ax_XF_lt (by decide)).mp (ax_gx hE (31, []) (by decide))
  rw [c_ffinish] at F31
  obtain ⟨-, -, -, -, F116⟩ : ay_ex hp 8 ∧ ay_ex hp 10 ∧ ay_ex hp 11 ∧ ay_ex hp 12 ∧ pz_xal 1 (ρ 0) (ρ 1) (ρ 2) (ρ 3) (ρ 4) (ay_at hp 8 5) (ay_at hp 10 0) (ay_at hp 10 1) (ay_at hp 10 2) (ay_at hp 10 3) (ay_at hp 10 4) (ay_at hp 8 9) (ay_at hp 8 11) (ay_at hp 8 10) (ay_at hp 8 3) (ay_at hp 8 4) (ay_at hp 11) (ay_at hp 12) := (ax_XF_lt (by decide)).mp (ax_gx hE (116, [3, 7, 11, 15, 19]) (by decide))
  have h6 : ρ 6 = 58 := Option.some.inj F31.2
  obtain ⟨r, g1, g2, g3⟩ := ay_mk hE 2 8 19 23 (by decide) (by decide)
  replace g1 : some (8 / 4 * (ρ 4 / 4) % 4294967296) = some r := g1
  have g1 := Option.some.inj g1
  replace g3 : ρ 5 = 4 * r := g3
  refine ⟨(fun y hy => by cases hy), _, List.mem_cons_self, ρ, fun _ _ => rfl, ax_px hE (by decide) (fun y hy => ?_)⟩
  cases List.mem_singleton.mp hy
  refine (ax_XF_wr (x := 117) (by decide)).mpr ?_
  show ay_ex (ax_upd hp (ρ 6) (ρ 5) (ρ 3)) 8 ∧ ay_ex (ax_upd hp (ρ 6) (ρ 5) (ρ 3)) 10 ∧ ay_ex (ax_upd hp (ρ 6) (ρ 5) (ρ 3)) 11 ∧ ay_ex (ax_upd hp (ρ 6) (ρ 5) (ρ 3)) 12 ∧ pz_xal 2 (ρ 0) (ρ 1) (ρ 2) (ρ 3) (ρ 4) (ay_at (ax_upd hp (ρ 6) (ρ 5) (ρ 3)) 8 5) (ay_at (ax_upd hp (ρ 6) (ρ 5) (ρ 3)) 10 0) (ay_at (ax_upd hp (ρ 6) (ρ 5) (ρ 3)) 10 1) (ay_at (ax_upd hp (ρ 6) (ρ 5) (ρ 3)) 10 2) (ay_at (ax_upd hp (ρ 6) (ρ 5) (ρ 3)) 10 3) (ay_at (ax_upd hp (ρ 6) (ρ 5) (ρ 3)) 10 4) (ay_at (ax_upd hp (ρ 6) (ρ 5) (ρ 3)) 8 9) (ay_at (ax_upd hp (ρ 6) (ρ 5) (ρ 3)) 8 11) (ay_at (ax_upd hp (ρ 6) (ρ 5) (ρ 3)) 8 10) (ay_at (ax_upd hp (ρ 6) (ρ 5) (ρ 3)) 8 3) (ay_at (ax_upd hp (ρ 6) (ρ 5) (ρ 3)) 8 4) (ay_at (ax_upd hp (ρ 6) (ρ 5) (ρ 3)) 11) (ay_at (ax_upd hp (ρ 6) (ρ 5) (ρ 3)) 12)
  rw [h6]
  obtain ⟨o0, ho0⟩ := ay_some hT (q := 12) (g := 15) (n := 40) rfl rfl (j := ρ 5 / 4) (by omega)
  have u1 : ∀ q, q ≠ 12 → ay_at (ax_upd hp 58 (ρ 5) (ρ 3)) q = ay_at hp q := fun q hq => funext (fun j => ay_upd_ne hT.1 hq j)
  have u2 : ∀ j, ay_at (ax_upd hp 58 (ρ 5) (ρ 3)) 12 j = if j = ρ 5 / 4 then some (ρ 3) else ay_at hp 12 j := fun j => ay_upd_eq hT.1 rfl ho0 j
  refine ⟨ay_ex_upd hT.1 (ax_cellT hT (q := 8) (g := 2) rfl), ay_ex_upd hT.1 (ax_cellT hT (q := 10) (g := 1) rfl), ay_ex_upd hT.1 (ax_cellT hT (q := 11) (g := 14) rfl), ay_ex_upd hT.1 (ax_cellT hT (q := 12) (g := 15) rfl), ?_⟩
  rw [u1 8 (by decide), u1 10 (by decide), u1 11 (by decide)]
  have hi : ρ 5 / 4 = 2 * (ρ 4 / 4) := by omega
  have hv : ρ 3 = 4 * (ρ 3 / 4) := by omega
  obtain ⟨a1, a2, a3, a4, a5, a6, a7, a8, b1, b2, b3, b4⟩ := F116
  exact ⟨a1, a2, a3, a4, a5, a6, a7, pz_dt_x a8 (fun _ _ => rfl) (fun j hj => by rw [a2] at hj; rw [u2, if_neg (by omega)]), b1, fun _ => by rw [u2, if_pos hi.symm]; exact congrArg some hv, fun z => absurd z (by decide), fun z => absurd z (by decide)⟩

theorem axq_al3 : ax_RO ax_wC ax_XC axu_al3 := by
  intro ρ hp hE hT
  have j0 : ρ 0 % 4 = 1 := pz_gj hE 0 (by decide) rfl
  have j1 : ρ 1 % 4 = 1 := pz_gj hE 1 (by decide) rfl
  obtain ⟨i2a, i2b, i2c, i2d⟩ := pz_gi hE 2 2147483648 2147483657 (by decide) rfl
  obtain ⟨i3a, i3b, i3c, i3d⟩ := pz_gi hE 3 2147483648 2147483657 (by decide) rfl
  obtain ⟨i4a, i4b, i4c, i4d⟩ := pz_gi hE 4 2147483648 2147483667 (by decide) rfl
  obtain ⟨i5a, i5b, i5c, i5d⟩ := pz_gi hE 5 0 4294967295 (by decide) rfl
  obtain ⟨i7a, i7b, i7c, i7d⟩ := pz_gi hE 7 0 4294967295 (by decide) rfl
  have c_fbegin : ay_at hp 10 6 = some (ρ 6) := ay_gfj hE 50 24 27 10 6 (by decide) (by rw [ax_vl_c (by decide)]) (by rw [ax_vl_c (by decide)])
  have s1 : (ρ 5 / 4 + 2147483648) % 4294967296 + (4 / 4 + 2147483648) % 4294967296 = (ρ 7 / 4 + 2147483648) % 4294967296 + 2147483648 := pz_gs hE 23 4 31 (by decide)
  obtain ⟨-, F31⟩ : ay_ex hp 10 ∧ pz_x31 (ay_at hp 10 6) (ay_at hp 10 7) := (ax_XF_lt (by decide)).mp (ax_gx hE (31, []) (by decide))
  rw [c_fbegin] at F31
  obtain ⟨-, -, -, -, F117⟩ : ay_ex hp 8 ∧ ay_ex hp 10 ∧ ay_ex hp 11 ∧ ay_ex hp 12 ∧ pz_xal 2 (ρ 0) (ρ 1) (ρ 2) (ρ 3) (ρ 4) (ay_at hp 8 5) (ay_at hp 10 0) (ay_at hp 10 1) (ay_at hp 10 2) (ay_at hp 10 3) (ay_at hp 10 4) (ay_at hp 8 9) (ay_at hp 8 11) (ay_at hp 8 10) (ay_at hp 8 3) (ay_at hp 8 4) (ay_at hp 11) (ay_at hp 12) := (ax_XF_lt (by decide)).mp (ax_gx hE (117, [3, 7, 11, 15, 19]) (by decide))
  have h6 : ρ 6 = 54 := Option.some.inj F31.1
  obtain ⟨r, g1, g2, g3⟩ := ay_mk hE 2 8 19 23 (by decide) (by decide)
  replace g1 : some (8 / 4 * (ρ 4 / 4) % 4294967296) = some r := g1
  have g1 := Option.some.inj g1
  replace g3 : ρ 5 = 4 * r := g3
  refine ⟨(fun y hy => by cases hy), _, List.mem_cons_self, ρ, fun _ _ => rfl, ax_px hE (by decide) (fun y hy => ?_)⟩
  cases List.mem_singleton.mp hy
  refine (ax_XF_wr (x := 118) (by decide)).mpr ?_
  show ay_ex (ax_upd hp (ρ 6) (ρ 7) (ρ 3)) 8 ∧ ay_ex (ax_upd hp (ρ 6) (ρ 7) (ρ 3)) 10 ∧ ay_ex (ax_upd hp (ρ 6) (ρ 7) (ρ 3)) 11 ∧ ay_ex (ax_upd hp (ρ 6) (ρ 7) (ρ 3)) 12 ∧ pz_xal 3 (ρ 0) (ρ 1) (ρ 2) (ρ 3) (ρ 4) (ay_at (ax_upd hp (ρ 6) (ρ 7) (ρ 3)) 8 5) (ay_at (ax_upd hp (ρ 6) (ρ 7) (ρ 3)) 10 0) (ay_at (ax_upd hp (ρ 6) (ρ 7) (ρ 3)) 10 1) (ay_at (ax_upd hp (ρ 6) (ρ 7) (ρ 3)) 10 2) (ay_at (ax_upd hp (ρ 6) (ρ 7) (ρ 3)) 10 3) (ay_at (ax_upd hp (ρ 6) (ρ 7) (ρ 3)) 10 4) (ay_at (ax_upd hp (ρ 6) (ρ 7) (ρ 3)) 8 9) (ay_at (ax_upd hp (ρ 6) (ρ 7) (ρ 3)) 8 11) (ay_at (ax_upd hp (ρ 6) (ρ 7) (ρ 3)) 8 10) (ay_at (ax_upd hp (ρ 6) (ρ 7) (ρ 3)) 8 3) (ay_at (ax_upd hp (ρ 6) (ρ 7) (ρ 3)) 8 4) (ay_at (ax_upd hp (ρ 6) (ρ 7) (ρ 3)) 11) (ay_at (ax_upd hp (ρ 6) (ρ 7) (ρ 3)) 12)
  rw [h6]
  obtain ⟨o0, ho0⟩ := ay_some hT (q := 11) (g := 14) (n := 40) rfl rfl (j := ρ 7 / 4) (by omega)
  have u1 : ∀ q, q ≠ 11 → ay_at (ax_upd hp 54 (ρ 7) (ρ 3)) q = ay_at hp q := fun q hq => funext (fun j => ay_upd_ne hT.1 hq j)
  have u2 : ∀ j, ay_at (ax_upd hp 54 (ρ 7) (ρ 3)) 11 j = if j = ρ 7 / 4 then some (ρ 3) else ay_at hp 11 j := fun j => ay_upd_eq hT.1 rfl ho0 j
  refine ⟨ay_ex_upd hT.1 (ax_cellT hT (q := 8) (g := 2) rfl), ay_ex_upd hT.1 (ax_cellT hT (q := 10) (g := 1) rfl), ay_ex_upd hT.1 (ax_cellT hT (q := 11) (g := 14) rfl), ay_ex_upd hT.1 (ax_cellT hT (q := 12) (g := 15) rfl), ?_⟩
  rw [u1 8 (by decide), u1 10 (by decide), u1 12 (by decide)]
  have hi : ρ 7 / 4 = 2 * (ρ 4 / 4) + 1 := by omega
  have hv : ρ 3 = 4 * (ρ 3 / 4) := by omega
  obtain ⟨a1, a2, a3, a4, a5, a6, a7, a8, b1, b2, b3, b4⟩ := F117
  exact ⟨a1, a2, a3, a4, a5, a6, a7, pz_dt_x a8 (fun j hj => by rw [a2] at hj; rw [u2, if_neg (by omega)]) (fun _ _ => rfl), by rw [u2, if_neg (by omega)]; exact b1, fun _ => b2 (by decide), fun _ => by rw [u2, if_pos hi.symm]; exact congrArg some hv, fun z => absurd z (by decide)⟩

theorem axq_al4 : ax_RO ax_wC ax_XC axu_al4 := by
  intro ρ hp hE hT
  have j0 : ρ 0 % 4 = 1 := pz_gj hE 0 (by decide) rfl
  have j1 : ρ 1 % 4 = 1 := pz_gj hE 1 (by decide) rfl
  obtain ⟨i2a, i2b, i2c, i2d⟩ := pz_gi hE 2 2147483648 2147483657 (by decide) rfl
  obtain ⟨i3a, i3b, i3c, i3d⟩ := pz_gi hE 3 2147483648 2147483657 (by decide) rfl
  obtain ⟨i4a, i4b, i4c, i4d⟩ := pz_gi hE 4 2147483648 2147483667 (by decide) rfl
  obtain ⟨i5a, i5b, i5c, i5d⟩ := pz_gi hE 5 0 4294967295 (by decide) rfl
  obtain ⟨i7a, i7b, i7c, i7d⟩ := pz_gi hE 7 0 4294967295 (by decide) rfl
  have c_ffinish : ay_at hp 10 7 = some (ρ 6) := ay_gfj hE 50 28 27 10 7 (by decide) (by rw [ax_vl_c (by decide)]) (by rw [ax_vl_c (by decide)])
  have s1 : (ρ 5 / 4 + 2147483648) % 4294967296 + (4 / 4 + 2147483648) % 4294967296 = (ρ 7 / 4 + 2147483648) % 4294967296 + 2147483648 := pz_gs hE 23 4 31 (by decide)
  obtain ⟨-, F31⟩ : ay_ex hp 10 ∧ pz_x31 (ay_at hp 10 6) (ay_at hp 10 7) := (ax_XF_lt (by decide)).mp (ax_gx hE (31, []) (by decide))
  rw [c_ffinish] at F31
  obtain ⟨-, -, -, -, F118⟩ : ay_ex hp 8 ∧ ay_ex hp 10 ∧ ay_ex hp 11 ∧ ay_ex hp 12 ∧ pz_xal 3 (ρ 0) (ρ 1) (ρ 2) (ρ 3) (ρ 4) (ay_at hp 8 5) (ay_at hp 10 0) (ay_at hp 10 1) (ay_at hp 10 2) (ay_at hp 10 3) (ay_at hp 10 4) (ay_at hp 8 9) (ay_at hp 8 11) (ay_at hp 8 10) (ay_at hp 8 3) (ay_at hp 8 4) (ay_at hp 11) (ay_at hp 12) := (ax_XF_lt (by decide)).mp (ax_gx hE (118, [3, 7, 11, 15, 19]) (by decide))
  have h6 : ρ 6 = 58 := Option.some.inj F31.2
  obtain ⟨r, g1, g2, g3⟩ := ay_mk hE 2 8 19 23 (by decide) (by decide)
  replace g1 : some (8 / 4 * (ρ 4 / 4) % 4294967296) = some r := g1
  have g1 := Option.some.inj g1
  replace g3 : ρ 5 = 4 * r := g3
  refine ⟨(fun y hy => by cases hy), _, List.mem_cons_self, ρ, fun _ _ => rfl, ax_px hE (by decide) (fun y hy => ?_)⟩
  cases List.mem_singleton.mp hy
  refine (ax_XF_wr (x := 119) (by decide)).mpr ?_
  show ay_ex (ax_upd hp (ρ 6) (ρ 7) (ρ 2)) 8 ∧ ay_ex (ax_upd hp (ρ 6) (ρ 7) (ρ 2)) 10 ∧ ay_ex (ax_upd hp (ρ 6) (ρ 7) (ρ 2)) 11 ∧ ay_ex (ax_upd hp (ρ 6) (ρ 7) (ρ 2)) 12 ∧ pz_xal 4 (ρ 0) (ρ 1) (ρ 2) (ρ 3) (ρ 4) (ay_at (ax_upd hp (ρ 6) (ρ 7) (ρ 2)) 8 5) (ay_at (ax_upd hp (ρ 6) (ρ 7) (ρ 2)) 10 0) (ay_at (ax_upd hp (ρ 6) (ρ 7) (ρ 2)) 10 1) (ay_at (ax_upd hp (ρ 6) (ρ 7) (ρ 2)) 10 2) (ay_at (ax_upd hp (ρ 6) (ρ 7) (ρ 2)) 10 3) (ay_at (ax_upd hp (ρ 6) (ρ 7) (ρ 2)) 10 4) (ay_at (ax_upd hp (ρ 6) (ρ 7) (ρ 2)) 8 9) (ay_at (ax_upd hp (ρ 6) (ρ 7) (ρ 2)) 8 11) (ay_at (ax_upd hp (ρ 6) (ρ 7) (ρ 2)) 8 10) (ay_at (ax_upd hp (ρ 6) (ρ 7) (ρ 2)) 8 3) (ay_at (ax_upd hp (ρ 6) (ρ 7) (ρ 2)) 8 4) (ay_at (ax_upd hp (ρ 6) (ρ 7) (ρ 2)) 11) (ay_at (ax_upd hp (ρ 6) (ρ 7) (ρ 2)) 12)
  rw [h6]
  obtain ⟨o0, ho0⟩ := ay_some hT (q := 12) (g := 15) (n := 40) rfl rfl (j := ρ 7 / 4) (by omega)
  have u1 : ∀ q, q ≠ 12 → ay_at (ax_upd hp 58 (ρ 7) (ρ 2)) q = ay_at hp q := fun q hq => funext (fun j => ay_upd_ne hT.1 hq j)
  have u2 : ∀ j, ay_at (ax_upd hp 58 (ρ 7) (ρ 2)) 12 j = if j = ρ 7 / 4 then some (ρ 2) else ay_at hp 12 j := fun j => ay_upd_eq hT.1 rfl ho0 j
  refine ⟨ay_ex_upd hT.1 (ax_cellT hT (q := 8) (g := 2) rfl), ay_ex_upd hT.1 (ax_cellT hT (q := 10) (g := 1) rfl), ay_ex_upd hT.1 (ax_cellT hT (q := 11) (g := 14) rfl), ay_ex_upd hT.1 (ax_cellT hT (q := 12) (g := 15) rfl), ?_⟩
  rw [u1 8 (by decide), u1 10 (by decide), u1 11 (by decide)]
  have hi : ρ 7 / 4 = 2 * (ρ 4 / 4) + 1 := by omega
  have hv : ρ 2 = 4 * (ρ 2 / 4) := by omega
  obtain ⟨a1, a2, a3, a4, a5, a6, a7, a8, b1, b2, b3, b4⟩ := F118
  exact ⟨a1, a2, a3, a4, a5, a6, a7, pz_dt_x a8 (fun _ _ => rfl) (fun j hj => by rw [a2] at hj; rw [u2, if_neg (by omega)]), b1, fun _ => by rw [u2, if_neg (by omega)]; exact b2 (by decide), fun _ => b3 (by decide), fun _ => by rw [u2, if_pos hi.symm]; exact congrArg some hv⟩

theorem axq_al5 : ax_RO ax_wC ax_XC axu_al5 := by
  intro ρ hp hE hT
  have j0 : ρ 0 % 4 = 1 := pz_gj hE 0 (by decide) rfl
  have j1 : ρ 1 % 4 = 1 := pz_gj hE 1 (by decide) rfl
  obtain ⟨i2a, i2b, i2c, i2d⟩ := pz_gi hE 2 2147483648 2147483657 (by decide) rfl
  obtain ⟨i3a, i3b, i3c, i3d⟩ := pz_gi hE 3 2147483648 2147483657 (by decide) rfl
  obtain ⟨i4a, i4b, i4c, i4d⟩ := pz_gi hE 4 2147483648 2147483667 (by decide) rfl
  obtain ⟨i5a, i5b, i5c, i5d⟩ := pz_gi hE 5 0 4294967295 (by decide) rfl
  obtain ⟨i6a, i6b, i6c, i6d⟩ := pz_gi hE 6 0 4294967295 (by decide) rfl
  have c_links : ay_at hp 10 1 = some (ρ 4) := ay_gfj hE 50 4 19 10 1 (by decide) (by rw [ax_vl_c (by decide)]) (by rw [ax_vl_c (by decide)])
  have s1 : (ρ 4 / 4 + 2147483648) % 4294967296 + (4 / 4 + 2147483648) % 4294967296 = (ρ 6 / 4 + 2147483648) % 4294967296 + 2147483648 := pz_gs hE 19 4 27 (by decide)
  obtain ⟨-, F31⟩ : ay_ex hp 10 ∧ pz_x31 (ay_at hp 10 6) (ay_at hp 10 7) := (ax_XF_lt (by decide)).mp (ax_gx hE (31, []) (by decide))
  obtain ⟨-, -, -, -, F119⟩ : ay_ex hp 8 ∧ ay_ex hp 10 ∧ ay_ex hp 11 ∧ ay_ex hp 12 ∧ pz_xal 4 (ρ 0) (ρ 1) (ρ 2) (ρ 3) (ρ 4) (ay_at hp 8 5) (ay_at hp 10 0) (ay_at hp 10 1) (ay_at hp 10 2) (ay_at hp 10 3) (ay_at hp 10 4) (ay_at hp 8 9) (ay_at hp 8 11) (ay_at hp 8 10) (ay_at hp 8 3) (ay_at hp 8 4) (ay_at hp 11) (ay_at hp 12) := (ax_XF_lt (by decide)).mp (ax_gx hE (119, [3, 7, 11, 15, 19]) (by decide))
  rw [c_links] at F119
  have st := (by
    obtain ⟨a1, a2, a3, a4, a5, a6, a7, a8, b1, b2, b3, b4⟩ := F119
    have hb : pz_m (ρ 3 / 4) = ρ 3 / 4 := by unfold pz_m; rw [if_pos (by omega)]
    exact pq_al (PL := pz_at (pz_gt (ρ 0)) (pz_gN (ρ 0)) (pz_p (pz_cf (pz_gt (ρ 0)) (pz_gN (ρ 0)) (ρ 1 / 4)))) (KD := pz_kd (pz_gt (ρ 0)) (pz_gN (ρ 0)) (pz_p (pz_cf (pz_gt (ρ 0)) (pz_gN (ρ 0)) (ρ 1 / 4)))) (VL := ρ 3 / 4) ⟨a1, rfl, rfl, fun _ => hb.trans a5.1.2.symm, a8⟩ a3 a4 a5 a6 a7 (fun _ _ => rfl) (fun _ _ => rfl) b1 (b2 (by decide)) (b3 (by decide)) (b4 (by decide)) : pz53 (pz_gt (ρ 0)) (pz_gN (ρ 0)) (ρ 1 / 4 + 1) (ay_ln (ay_at hp 8 5)) (ay_ln (ay_at hp 10 0)) (ρ 4 / 4 + 1) (ay_ln (ay_at hp 10 2)) (ay_ln (ay_at hp 10 3)) (ay_ln (ay_at hp 10 4)) (ay_ln (ay_at hp 8 9)) (ay_ln (ay_at hp 8 11)) (ay_ln (ay_at hp 8 10)) (ay_ln (ay_at hp 8 3)) (ay_ln (ay_at hp 8 4)) (ay_at hp 11) (ay_at hp 12) ∧ pz7 (pz_gt (ρ 0)) (pz_gN (ρ 0)) (ρ 1 / 4 + 1) 2)
  obtain ⟨ρ', h1, h2⟩ := pz_pn1 (K := ρ 1 / 4 + 1) (xf := [(553, [50, 4, 27, 3, 31]), (72, [3, 31]), (1030, [7, 31])]) hE (by decide) (fun ρ' h1 h2 x hx => by
    have q0 : ρ' 0 = ρ 0 := h1 0 (by decide)
    have q1 : ρ' 1 = ρ 1 := h1 1 (by decide)
    have q2 : ρ' 2 = ρ 2 := h1 2 (by decide)
    have q3 : ρ' 3 = ρ 3 := h1 3 (by decide)
    have q4 : ρ' 4 = ρ 4 := h1 4 (by decide)
    have q5 : ρ' 5 = ρ 5 := h1 5 (by decide)
    have q6 : ρ' 6 = ρ 6 := h1 6 (by decide)
    rcases List.mem_cons.mp hx with e | hx
    · subst e
      refine (ax_XF_wr (x := 53) (by decide)).mpr ?_
      show ay_ex (ax_upd hp 50 (4) (ρ' 6)) 8 ∧ ay_ex (ax_upd hp 50 (4) (ρ' 6)) 10 ∧ ay_ex (ax_upd hp 50 (4) (ρ' 6)) 11 ∧ ay_ex (ax_upd hp 50 (4) (ρ' 6)) 12 ∧ pz_x53 (ρ' 0) (ρ' 7) (ay_at (ax_upd hp 50 (4) (ρ' 6)) 8 5) (ay_at (ax_upd hp 50 (4) (ρ' 6)) 10 0) (ay_at (ax_upd hp 50 (4) (ρ' 6)) 10 1) (ay_at (ax_upd hp 50 (4) (ρ' 6)) 10 2) (ay_at (ax_upd hp 50 (4) (ρ' 6)) 10 3) (ay_at (ax_upd hp 50 (4) (ρ' 6)) 10 4) (ay_at (ax_upd hp 50 (4) (ρ' 6)) 8 9) (ay_at (ax_upd hp 50 (4) (ρ' 6)) 8 11) (ay_at (ax_upd hp 50 (4) (ρ' 6)) 8 10) (ay_at (ax_upd hp 50 (4) (ρ' 6)) 8 3) (ay_at (ax_upd hp 50 (4) (ρ' 6)) 8 4) (ay_at (ax_upd hp 50 (4) (ρ' 6)) 11) (ay_at (ax_upd hp 50 (4) (ρ' 6)) 12)
      rw [q0, q6, h2]
      obtain ⟨o0, ho0⟩ := ay_some hT (q := 10) (g := 1) (n := 12) rfl rfl (j := 4 / 4) (by decide)
      have u1 : ∀ q, q ≠ 10 → ay_at (ax_upd hp 50 4 (ρ 6)) q = ay_at hp q := fun q hq => funext (fun j => ay_upd_ne hT.1 hq j)
      have u2 : ∀ j, ay_at (ax_upd hp 50 4 (ρ 6)) 10 j = if j = 1 then some (ρ 6) else ay_at hp 10 j := fun j => ay_upd_eq hT.1 rfl ho0 j
      refine ⟨ay_ex_upd hT.1 (ax_cellT hT (q := 8) (g := 2) rfl), ay_ex_upd hT.1 (ax_cellT hT (q := 10) (g := 1) rfl), ay_ex_upd hT.1 (ax_cellT hT (q := 11) (g := 14) rfl), ay_ex_upd hT.1 (ax_cellT hT (q := 12) (g := 15) rfl), ?_⟩
      rw [u1 8 (by decide), u2 0, if_neg (show ¬ 0 = 1 by decide), u2 1, if_pos rfl, u2 2, if_neg (show ¬ 2 = 1 by decide), u2 3, if_neg (show ¬ 3 = 1 by decide), u2 4, if_neg (show ¬ 4 = 1 by decide), u1 11 (by decide), u1 12 (by decide)]
      refine pz_53 (pz_41 _) rfl ?_
      show pz53 _ _ _ _ _ (ρ 6 / 4) _ _ _ _ _ _ _ _ _ _
      rw [show ρ 6 / 4 = ρ 4 / 4 + 1 by omega]
      exact st.1
    rcases List.mem_cons.mp hx with e | hx
    · subst e
      refine (ax_XF_lt (x := 72) (by decide)).mpr ?_
      show pz7 (pz_gt (ρ' 0)) (pz_gN (ρ' 0)) ((ρ' 7) / 4) 2
      rw [q0, h2]
      rw [pz_41]
      exact st.2
    cases List.mem_singleton.mp hx
    refine (ax_XF_bi (o := 30) (by decide)).mpr (Or.inr ⟨rfl, ?_⟩)
    show ρ' 1 < ρ' 7
    rw [q1, h2]
    omega)
  exact ⟨(fun y hy => by cases hy), _, List.mem_cons_self, ρ', h1, h2⟩

theorem axq_ap1 : ax_RO ax_wC ax_XC axu_ap1 := by
  intro ρ hp hE hT
  have j0 : ρ 0 % 4 = 1 := pz_gj hE 0 (by decide) rfl
  obtain ⟨i1a, i1b, i1c, i1d⟩ := pz_gi hE 1 0 4294967295 (by decide) rfl
  obtain ⟨i2a, i2b, i2c, i2d⟩ := pz_gi hE 2 2147483648 2147484444 (by decide) rfl
  have c_size : ay_at hp 8 1 = some (ρ 2) := ay_gfj hE 42 4 11 8 1 (by decide) (by rw [ax_vl_c (by decide)]) (by rw [ax_vl_c (by decide)])
  obtain ⟨-, -, F30⟩ : ay_ex hp 8 ∧ ay_ex hp 9 ∧ pz_x30 (ρ 0) (ay_at hp 8 1) (ay_at hp 9) := (ax_XF_lt (by decide)).mp (ax_gx hE (30, [3]) (by decide))
  rw [c_size] at F30
  refine ⟨(fun y hy => by cases hy), _, List.mem_cons_self, ρ, fun _ _ => rfl, ax_px hE (by decide) (fun y hy => ?_)⟩
  cases List.mem_singleton.mp hy
  refine (ax_XF_lt (x := 34) (by decide)).mpr ?_
  show pz_x34 (ρ 0) (ρ 1) (96) (ρ 0)
  have e : ρ 2 / 4 = pz_gN (ρ 0) := F30.1
  exact ⟨by omega, 0, by decide, by decide, rfl⟩

theorem axq_ap2 : ax_RO ax_wC ax_XC axu_ap2 := by
  intro ρ hp hE hT
  have j0 : ρ 0 % 4 = 1 := pz_gj hE 0 (by decide) rfl
  have j1 : ρ 1 % 4 = 1 := pz_gj hE 1 (by decide) rfl
  obtain ⟨i2a, i2b, i2c, i2d⟩ := pz_gi hE 2 0 4294967295 (by decide) rfl
  obtain ⟨i3a, i3b, i3c, i3d⟩ := pz_gi hE 3 2147483648 2147483672 (by decide) rfl
  obtain ⟨i4a, i4b, i4c, i4d⟩ := pz_gi hE 4 0 4294967295 (by decide) rfl
  obtain ⟨i5a, i5b, i5c, i5d⟩ := pz_gi hE 5 2147483520 2147483775 (by decide) rfl
  obtain ⟨i6a, i6b, i6c, i6d⟩ := pz_gi hE 6 2147483648 2147484447 (by decide) rfl
  have c_size : ay_at hp 8 1 = some (ρ 6) := ay_gfj hE 42 4 27 8 1 (by decide) (by rw [ax_vl_c (by decide)]) (by rw [ax_vl_c (by decide)])
  have F34 : pz_x34 (ρ 0) (ρ 2) (ρ 3) (ρ 1) := (ax_XF_lt (by decide)).mp (ax_gx hE (34, [3, 11, 15, 7]) (by decide))
  obtain ⟨-, -, F30⟩ : ay_ex hp 8 ∧ ay_ex hp 9 ∧ pz_x30 (ρ 1) (ay_at hp 8 1) (ay_at hp 9) := (ax_XF_lt (by decide)).mp (ax_gx hE (30, [7]) (by decide))
  rw [c_size] at F30
  obtain ⟨hle, k, hk, hs, hg⟩ := F34
  have hk3 : k < 4 := by omega
  have h3 : ρ 3 / 4 = 24 - 8 * k := by omega
  obtain ⟨r, m1, m2, m3⟩ := ay_mk hE 7 11 15 19 (by decide) (by decide)
  replace m1 : rx_f_shr (ρ 2 / 4) (ρ 3 / 4) = some r := m1
  replace m3 : ρ 4 = 4 * r := m3
  rw [h3] at m1
  have m4 : ρ 5 = 4 * rx_f_i2b (ρ 4 / 4) := pz_g43 hE 19 23 (by decide)
  rw [m3, show 4 * r / 4 = r by omega] at m4
  have eb : ρ 5 / 4 = pz_by (ρ 2 / 4) k := by rw [pz_by_eq m1, m4]; omega
  have eN : ρ 6 / 4 = pz_gN (ρ 1) := F30.1
  have hb5 : ρ 5 = 4 * (ρ 5 / 4) := by omega
  obtain ⟨ρ', h1, h2⟩ := pz_pn1 (K := pz_ap (ρ 1) (ρ 5 / 4) / 4) (xf := [(535, [46, 27, 23, 31]), (36, [3, 11, 15, 31])]) hE (by decide) (fun ρ' h1 h2 x hx => by
    have q0 : ρ' 0 = ρ 0 := h1 0 (by decide)
    have q1 : ρ' 1 = ρ 1 := h1 1 (by decide)
    have q2 : ρ' 2 = ρ 2 := h1 2 (by decide)
    have q3 : ρ' 3 = ρ 3 := h1 3 (by decide)
    have q4 : ρ' 4 = ρ 4 := h1 4 (by decide)
    have q5 : ρ' 5 = ρ 5 := h1 5 (by decide)
    have q6 : ρ' 6 = ρ 6 := h1 6 (by decide)
    rcases List.mem_cons.mp hx with e | hx
    · subst e
      refine (ax_XF_wr (x := 35) (by decide)).mpr ?_
      show ay_ex (ax_upd hp 46 (ρ' 6) (ρ' 5)) 8 ∧ ay_ex (ax_upd hp 46 (ρ' 6) (ρ' 5)) 9 ∧ pz_x35 (ρ' 7) (ay_at (ax_upd hp 46 (ρ' 6) (ρ' 5)) 8 1) (ay_at (ax_upd hp 46 (ρ' 6) (ρ' 5)) 9)
      rw [q5, q6, h2]
      rw [pz_ap_4]
      obtain ⟨o0, ho0⟩ := ay_some hT (q := 9) (g := 20) (n := 800) rfl rfl (j := ρ 6 / 4) (by omega)
      refine ⟨ay_ex_upd hT.1 (ax_cellT hT (q := 8) (g := 2) rfl), ay_ex_upd hT.1 (ax_cellT hT (q := 9) (g := 20) rfl), ?_⟩
      rw [show ay_at (ax_upd hp 46 (ρ 6) (ρ 5)) 8 1 = ay_at hp 8 1 from ay_upd_ne hT.1 (by decide) _, c_size]
      have u2 : ∀ j, ay_at (ax_upd hp 46 (ρ 6) (ρ 5)) 9 j = if j = ρ 6 / 4 then some (4 * (ρ 5 / 4)) else ay_at hp 9 j := fun j => by rw [← hb5]; exact ay_upd_eq hT.1 rfl ho0 j
      have e1 := (pz_ap_g (g := ρ 1) (c := ρ 5 / 4) (by omega)).1
      refine ⟨?_, ?_, pz_ap_tp eN.symm (by omega) (by omega) F30.2.2 u2⟩
      · show ρ 6 / 4 + 1 = _
        rw [e1, eN]
      · rw [e1, ← eN]
        omega
    cases List.mem_singleton.mp hx
    refine (ax_XF_lt (x := 36) (by decide)).mpr ?_
    show pz_x36 (ρ' 0) (ρ' 2) (ρ' 3) (ρ' 7)
    rw [q0, q2, q3, h2]
    rw [pz_ap_4]
    exact ⟨hle, k, hk3, hs, by rw [eb, hg]; rfl⟩)
  exact ⟨(fun y hy => by cases hy), _, List.mem_cons_self, ρ', h1, h2⟩

theorem axq_ap3 : ax_RO ax_wC ax_XC axu_ap3 := by
  intro ρ hp hE hT
  have j0 : ρ 0 % 4 = 1 := pz_gj hE 0 (by decide) rfl
  obtain ⟨i1a, i1b, i1c, i1d⟩ := pz_gi hE 1 2147483648 2147484447 (by decide) rfl
  obtain ⟨i2a, i2b, i2c, i2d⟩ := pz_gi hE 2 0 4294967295 (by decide) rfl
  have c_size : ay_at hp 8 1 = some (ρ 1) := ay_gfj hE 42 4 7 8 1 (by decide) (by rw [ax_vl_c (by decide)]) (by rw [ax_vl_c (by decide)])
  have s1 : (ρ 1 / 4 + 2147483648) % 4294967296 + (4 / 4 + 2147483648) % 4294967296 = (ρ 2 / 4 + 2147483648) % 4294967296 + 2147483648 := pz_gs hE 7 4 11 (by decide)
  obtain ⟨-, -, F35⟩ : ay_ex hp 8 ∧ ay_ex hp 9 ∧ pz_x35 (ρ 0) (ay_at hp 8 1) (ay_at hp 9) := (ax_XF_lt (by decide)).mp (ax_gx hE (35, [3]) (by decide))
  rw [c_size] at F35
  refine ⟨(fun y hy => by cases hy), _, List.mem_cons_self, ρ, fun _ _ => rfl, ax_px hE (by decide) (fun y hy => ?_)⟩
  cases List.mem_singleton.mp hy
  refine (ax_XF_wr (x := 30) (by decide)).mpr ?_
  show ay_ex (ax_upd hp 42 4 (ρ 2)) 8 ∧ ay_ex (ax_upd hp 42 4 (ρ 2)) 9 ∧ pz_x30 (ρ 0) (ay_at (ax_upd hp 42 4 (ρ 2)) 8 1) (ay_at (ax_upd hp 42 4 (ρ 2)) 9)
  obtain ⟨o0, ho0⟩ := ay_some hT (q := 8) (g := 2) (n := 12) rfl rfl (j := 4 / 4) (by decide)
  have u1 : ∀ q, q ≠ 8 → ay_at (ax_upd hp 42 4 (ρ 2)) q = ay_at hp q := fun q hq => funext (fun j => ay_upd_ne hT.1 hq j)
  have u2 : ∀ j, ay_at (ax_upd hp 42 4 (ρ 2)) 8 j = if j = 1 then some (ρ 2) else ay_at hp 8 j := fun j => ay_upd_eq hT.1 rfl ho0 j
  refine ⟨ay_ex_upd hT.1 (ax_cellT hT (q := 8) (g := 2) rfl), ay_ex_upd hT.1 (ax_cellT hT (q := 9) (g := 20) rfl), ?_⟩
  rw [u2 1, if_pos rfl, u1 9 (by decide)]
  have e : ρ 1 / 4 + 1 = pz_gN (ρ 0) := F35.1
  exact ⟨by show ρ 2 / 4 = _; omega, F35.2.1, F35.2.2⟩

theorem axq_ap4 : ax_RO ax_wC ax_XC axu_ap4 := by
  intro ρ hp hE hT
  have j0 : ρ 0 % 4 = 1 := pz_gj hE 0 (by decide) rfl
  have j1 : ρ 1 % 4 = 1 := pz_gj hE 1 (by decide) rfl
  obtain ⟨i2a, i2b, i2c, i2d⟩ := pz_gi hE 2 0 4294967295 (by decide) rfl
  obtain ⟨i3a, i3b, i3c, i3d⟩ := pz_gi hE 3 2147483648 2147483672 (by decide) rfl
  obtain ⟨i4a, i4b, i4c, i4d⟩ := pz_gi hE 4 0 4294967295 (by decide) rfl
  have s1 : (ρ 3 / 4 + 2147483648) % 4294967296 + (17179869152 / 4 + 2147483648) % 4294967296 = (ρ 4 / 4 + 2147483648) % 4294967296 + 2147483648 := pz_gs hE 15 17179869152 19 (by decide)
  have F36 : pz_x36 (ρ 0) (ρ 2) (ρ 3) (ρ 1) := (ax_XF_lt (by decide)).mp (ax_gx hE (36, [3, 11, 15, 7]) (by decide))
  refine ⟨(fun y hy => by cases hy), _, List.mem_cons_self, ρ, fun _ _ => rfl, ax_px hE (by decide) (fun y hy => ?_)⟩
  cases List.mem_singleton.mp hy
  refine (ax_XF_lt (x := 34) (by decide)).mpr ?_
  show pz_x34 (ρ 0) (ρ 2) (ρ 4) (ρ 1)
  obtain ⟨hle, k, hk, hs, hg⟩ := F36
  exact ⟨hle, k + 1, by omega, by omega, hg⟩

theorem axq_ap5 : ax_RO ax_wC ax_XC axu_ap5 := by
  intro ρ hp hE hT
  have j0 : ρ 0 % 4 = 1 := pz_gj hE 0 (by decide) rfl
  have j1 : ρ 1 % 4 = 1 := pz_gj hE 1 (by decide) rfl
  obtain ⟨i2a, i2b, i2c, i2d⟩ := pz_gi hE 2 0 4294967295 (by decide) rfl
  obtain ⟨i3a, i3b, i3c, i3d⟩ := pz_gi hE 3 2147483648 2147483672 (by decide) rfl
  obtain ⟨i4a, i4b, i4c, i4d⟩ := pz_gi hE 4 2147484448 2147484448 (by decide) rfl
  have c_size : ay_at hp 8 1 = some (ρ 4) := ay_gfj hE 42 4 19 8 1 (by decide) (by rw [ax_vl_c (by decide)]) (by rw [ax_vl_c (by decide)])
  have F34 : pz_x34 (ρ 0) (ρ 2) (ρ 3) (ρ 1) := (ax_XF_lt (by decide)).mp (ax_gx hE (34, [3, 11, 15, 7]) (by decide))
  obtain ⟨-, -, F30⟩ : ay_ex hp 8 ∧ ay_ex hp 9 ∧ pz_x30 (ρ 1) (ay_at hp 8 1) (ay_at hp 9) := (ax_XF_lt (by decide)).mp (ax_gx hE (30, [7]) (by decide))
  rw [c_size] at F30
  exfalso
  obtain ⟨hle, k, hk, hs, hg⟩ := F34
  have e : ρ 4 / 4 = pz_gN (ρ 1) := F30.1
  rw [hg, pz_apk_N (by omega)] at e
  omega

theorem axq_ap6 : ax_RO ax_wC ax_XC axu_ap6 := by
  intro ρ hp hE hT
  have j0 : ρ 0 % 4 = 1 := pz_gj hE 0 (by decide) rfl
  have j1 : ρ 1 % 4 = 1 := pz_gj hE 1 (by decide) rfl
  obtain ⟨i2a, i2b, i2c, i2d⟩ := pz_gi hE 2 0 4294967295 (by decide) rfl
  obtain ⟨i3a, i3b, i3c, i3d⟩ := pz_gi hE 3 2147483640 2147483647 (by decide) rfl
  have F34 : pz_x34 (ρ 0) (ρ 2) (ρ 3) (ρ 1) := (ax_XF_lt (by decide)).mp (ax_gx hE (34, [3, 11, 15, 7]) (by decide))
  refine ⟨(fun y hy => by cases hy), _, List.mem_cons_self, ρ, fun _ _ => rfl, ax_px hE (by decide) (fun y hy => ?_)⟩
  cases List.mem_singleton.mp hy
  refine (ax_XF_lt (x := 33) (by decide)).mpr ?_
  show (ρ 1) = pz_apk ((ρ 2) / 4) (ρ 0) 4
  obtain ⟨hle, k, hk, hs, hg⟩ := F34
  have e : k = 4 := by omega
  rw [e] at hg
  exact hg

theorem axq_fd0 : ax_RO ax_wC ax_XC axu_fd0 := by
  intro ρ hp hE hT
  have j0 : ρ 0 % 4 = 1 := pz_gj hE 0 (by decide) rfl
  obtain ⟨i1a, i1b, i1c, i1d⟩ := pz_gi hE 1 2147483648 2147484428 (by decide) rfl
  have c_size : ay_at hp 8 1 = some (ρ 1) := ay_gfj hE 42 4 7 8 1 (by decide) (by rw [ax_vl_c (by decide)]) (by rw [ax_vl_c (by decide)])
  obtain ⟨-, -, F30⟩ : ay_ex hp 8 ∧ ay_ex hp 9 ∧ pz_x30 (ρ 0) (ay_at hp 8 1) (ay_at hp 9) := (ax_XF_lt (by decide)).mp (ax_gx hE (30, [3]) (by decide))
  rw [c_size] at F30
  refine ⟨(fun y hy => by cases hy), _, List.mem_cons_self, ρ, fun _ _ => rfl, ax_px hE (by decide) (fun y hy => ?_)⟩
  cases List.mem_singleton.mp hy
  refine (ax_XF_lt (x := 39) (by decide)).mpr ?_
  show pz_gN (ρ 0) = (ρ 1) / 4
  exact F30.1.symm

theorem axq_fd1 : ax_RO ax_wC ax_XC axu_fd1 := by
  intro ρ hp hE hT
  have j0 : ρ 0 % 4 = 1 := pz_gj hE 0 (by decide) rfl
  have j1 : ρ 1 % 4 = 1 := pz_gj hE 1 (by decide) rfl
  obtain ⟨i2a, i2b, i2c, i2d⟩ := pz_gi hE 2 0 4294967295 (by decide) rfl
  obtain ⟨i3a, i3b, i3c, i3d⟩ := pz_gi hE 3 2147483648 2147484428 (by decide) rfl
  obtain ⟨i4a, i4b, i4c, i4d⟩ := pz_gi hE 4 2147483648 2147484448 (by decide) rfl
  have c_size : ay_at hp 8 1 = some (ρ 4) := ay_gfj hE 42 4 19 8 1 (by decide) (by rw [ax_vl_c (by decide)]) (by rw [ax_vl_c (by decide)])
  obtain ⟨-, -, F30⟩ : ay_ex hp 8 ∧ ay_ex hp 9 ∧ pz_x30 (ρ 1) (ay_at hp 8 1) (ay_at hp 9) := (ax_XF_lt (by decide)).mp (ax_gx hE (30, [7]) (by decide))
  rw [c_size] at F30
  have F33 : (ρ 1) = pz_apk ((ρ 2) / 4) (ρ 0) 4 := (ax_XF_lt (by decide)).mp (ax_gx hE (33, [3, 11, 7]) (by decide))
  have F39 : pz_gN (ρ 0) = (ρ 3) / 4 := (ax_XF_lt (by decide)).mp (ax_gx hE (39, [3, 15]) (by decide))
  have e : ρ 4 / 4 = pz_gN (ρ 1) := F30.1
  have e0 : pz_gN (ρ 0) = ρ 3 / 4 := F39
  have e2 : pz_gN (ρ 1) = pz_gN (ρ 0) + 4 := by rw [F33]; exact pz_apk_N (by omega)
  refine ⟨fun y hy => ?_, _, List.mem_cons_self, ρ, fun _ _ => rfl, ax_px hE (by decide) (fun y hy => ?_)⟩
  · cases List.mem_singleton.mp hy
    show 2147483648 ≤ rx_bi (ρ 4 / 4) ∧ rx_bi (ρ 4 / 4) ≤ 2147484432
    rw [ax_bi_def]
    omega
  · cases List.mem_singleton.mp hy
    refine (ax_XF_lt (x := 39) (by decide)).mpr ?_
    show pz_gN (ρ 1) = (ρ 4) / 4
    exact e.symm

theorem axq_fd2 : ax_RO ax_wC ax_XC axu_fd2 := by
  intro ρ hp hE hT
  have j0 : ρ 0 % 4 = 1 := pz_gj hE 0 (by decide) rfl
  have j1 : ρ 1 % 4 = 1 := pz_gj hE 1 (by decide) rfl
  obtain ⟨i2a, i2b, i2c, i2d⟩ := pz_gi hE 2 0 4294967295 (by decide) rfl
  obtain ⟨i3a, i3b, i3c, i3d⟩ := pz_gi hE 3 2147483648 2147484432 (by decide) rfl
  obtain ⟨i4a, i4b, i4c, i4d⟩ := pz_gi hE 4 2147483648 2147484448 (by decide) rfl
  have c_size : ay_at hp 8 1 = some (ρ 4) := ay_gfj hE 42 4 19 8 1 (by decide) (by rw [ax_vl_c (by decide)]) (by rw [ax_vl_c (by decide)])
  obtain ⟨-, -, F30⟩ : ay_ex hp 8 ∧ ay_ex hp 9 ∧ pz_x30 (ρ 1) (ay_at hp 8 1) (ay_at hp 9) := (ax_XF_lt (by decide)).mp (ax_gx hE (30, [7]) (by decide))
  rw [c_size] at F30
  have F33 : (ρ 1) = pz_apk ((ρ 2) / 4) (ρ 0) 4 := (ax_XF_lt (by decide)).mp (ax_gx hE (33, [3, 11, 7]) (by decide))
  have F39 : pz_gN (ρ 0) = (ρ 3) / 4 := (ax_XF_lt (by decide)).mp (ax_gx hE (39, [3, 15]) (by decide))
  have e : ρ 4 / 4 = pz_gN (ρ 1) := F30.1
  have e0 : pz_gN (ρ 0) = ρ 3 / 4 := F39
  have e2 : pz_gN (ρ 1) = pz_gN (ρ 0) + 4 := by rw [F33]; exact pz_apk_N (by omega)
  refine ⟨fun y hy => ?_, _, List.mem_cons_self, ρ, fun _ _ => rfl, ax_px hE (by decide) (fun y hy => ?_)⟩
  · cases List.mem_singleton.mp hy
    show 2147483648 ≤ rx_bi (ρ 4 / 4) ∧ rx_bi (ρ 4 / 4) ≤ 2147484436
    rw [ax_bi_def]
    omega
  · cases List.mem_singleton.mp hy
    refine (ax_XF_lt (x := 39) (by decide)).mpr ?_
    show pz_gN (ρ 1) = (ρ 4) / 4
    exact e.symm

theorem axq_fd3 : ax_RO ax_wC ax_XC axu_fd3 := by
  intro ρ hp hE hT
  have j0 : ρ 0 % 4 = 1 := pz_gj hE 0 (by decide) rfl
  have j1 : ρ 1 % 4 = 1 := pz_gj hE 1 (by decide) rfl
  obtain ⟨i2a, i2b, i2c, i2d⟩ := pz_gi hE 2 0 4294967295 (by decide) rfl
  obtain ⟨i3a, i3b, i3c, i3d⟩ := pz_gi hE 3 2147483648 2147484436 (by decide) rfl
  obtain ⟨i4a, i4b, i4c, i4d⟩ := pz_gi hE 4 2147483648 2147484448 (by decide) rfl
  have c_size : ay_at hp 8 1 = some (ρ 4) := ay_gfj hE 42 4 19 8 1 (by decide) (by rw [ax_vl_c (by decide)]) (by rw [ax_vl_c (by decide)])
  obtain ⟨-, -, F30⟩ : ay_ex hp 8 ∧ ay_ex hp 9 ∧ pz_x30 (ρ 1) (ay_at hp 8 1) (ay_at hp 9) := (ax_XF_lt (by decide)).mp (ax_gx hE (30, [7]) (by decide))
  rw [c_size] at F30
  have F33 : (ρ 1) = pz_apk ((ρ 2) / 4) (ρ 0) 4 := (ax_XF_lt (by decide)).mp (ax_gx hE (33, [3, 11, 7]) (by decide))
  have F39 : pz_gN (ρ 0) = (ρ 3) / 4 := (ax_XF_lt (by decide)).mp (ax_gx hE (39, [3, 15]) (by decide))
  have e : ρ 4 / 4 = pz_gN (ρ 1) := F30.1
  have e0 : pz_gN (ρ 0) = ρ 3 / 4 := F39
  have e2 : pz_gN (ρ 1) = pz_gN (ρ 0) + 4 := by rw [F33]; exact pz_apk_N (by omega)
  refine ⟨fun y hy => ?_, _, List.mem_cons_self, ρ, fun _ _ => rfl, ax_px hE (by decide) (fun y hy => ?_)⟩
  · cases List.mem_singleton.mp hy
    show 2147483648 ≤ rx_bi (ρ 4 / 4) ∧ rx_bi (ρ 4 / 4) ≤ 2147484440
    rw [ax_bi_def]
    omega
  · cases List.mem_singleton.mp hy
    refine (ax_XF_lt (x := 39) (by decide)).mpr ?_
    show pz_gN (ρ 1) = (ρ 4) / 4
    exact e.symm

theorem axq_fd4 : ax_RO ax_wC ax_XC axu_fd4 := by
  intro ρ hp hE hT
  have j0 : ρ 0 % 4 = 1 := pz_gj hE 0 (by decide) rfl
  have j1 : ρ 1 % 4 = 1 := pz_gj hE 1 (by decide) rfl
  obtain ⟨i2a, i2b, i2c, i2d⟩ := pz_gi hE 2 0 4294967295 (by decide) rfl
  obtain ⟨i3a, i3b, i3c, i3d⟩ := pz_gi hE 3 2147483648 2147484440 (by decide) rfl
  obtain ⟨i4a, i4b, i4c, i4d⟩ := pz_gi hE 4 2147483648 2147484448 (by decide) rfl
  have c_size : ay_at hp 8 1 = some (ρ 4) := ay_gfj hE 42 4 19 8 1 (by decide) (by rw [ax_vl_c (by decide)]) (by rw [ax_vl_c (by decide)])
  obtain ⟨-, -, F30⟩ : ay_ex hp 8 ∧ ay_ex hp 9 ∧ pz_x30 (ρ 1) (ay_at hp 8 1) (ay_at hp 9) := (ax_XF_lt (by decide)).mp (ax_gx hE (30, [7]) (by decide))
  rw [c_size] at F30
  have F33 : (ρ 1) = pz_apk ((ρ 2) / 4) (ρ 0) 4 := (ax_XF_lt (by decide)).mp (ax_gx hE (33, [3, 11, 7]) (by decide))
  have F39 : pz_gN (ρ 0) = (ρ 3) / 4 := (ax_XF_lt (by decide)).mp (ax_gx hE (39, [3, 15]) (by decide))
  have e : ρ 4 / 4 = pz_gN (ρ 1) := F30.1
  have e0 : pz_gN (ρ 0) = ρ 3 / 4 := F39
  have e2 : pz_gN (ρ 1) = pz_gN (ρ 0) + 4 := by rw [F33]; exact pz_apk_N (by omega)
  refine ⟨fun y hy => ?_, _, List.mem_cons_self, ρ, fun _ _ => rfl, ax_px hE (by decide) (fun y hy => ?_)⟩
  · cases List.mem_singleton.mp hy
    show 2147483648 ≤ rx_bi (ρ 4 / 4) ∧ rx_bi (ρ 4 / 4) ≤ 2147484444
    rw [ax_bi_def]
    omega
  · cases List.mem_singleton.mp hy
    refine (ax_XF_lt (x := 39) (by decide)).mpr ?_
    show pz_gN (ρ 1) = (ρ 4) / 4
    exact e.symm

theorem axq_fd5 : ax_RO ax_wC ax_XC axu_fd5 := by
  intro ρ hp hE hT
  have j0 : ρ 0 % 4 = 1 := pz_gj hE 0 (by decide) rfl
  have j1 : ρ 1 % 4 = 1 := pz_gj hE 1 (by decide) rfl
  have j2 : ρ 2 % 4 = 1 := pz_gj hE 2 (by decide) rfl
  have j3 : ρ 3 % 4 = 1 := pz_gj hE 3 (by decide) rfl
  have j4 : ρ 4 % 4 = 1 := pz_gj hE 4 (by decide) rfl
  have j5 : ρ 5 % 4 = 1 := pz_gj hE 5 (by decide) rfl
  obtain ⟨i6a, i6b, i6c, i6d⟩ := pz_gi hE 6 0 4294967295 (by decide) rfl
  obtain ⟨i7a, i7b, i7c, i7d⟩ := pz_gi hE 7 0 4294967295 (by decide) rfl
  obtain ⟨i8a, i8b, i8c, i8d⟩ := pz_gi hE 8 0 4294967295 (by decide) rfl
  obtain ⟨i9a, i9b, i9c, i9d⟩ := pz_gi hE 9 0 4294967295 (by decide) rfl
  obtain ⟨i10a, i10b, i10c, i10d⟩ := pz_gi hE 10 0 4294967295 (by decide) rfl
  obtain ⟨-, -, F30⟩ : ay_ex hp 8 ∧ ay_ex hp 9 ∧ pz_x30 (ρ 5) (ay_at hp 8 1) (ay_at hp 9) := (ax_XF_lt (by decide)).mp (ax_gx hE (30, [23]) (by decide))
  have F33 : (ρ 5) = pz_apk ((ρ 10) / 4) (ρ 4) 4 := (ax_XF_lt (by decide)).mp (ax_gx hE (33, [19, 43, 23]) (by decide))
  have F33a : (ρ 4) = pz_apk ((ρ 9) / 4) (ρ 3) 4 := (ax_XF_lt (by decide)).mp (ax_gx hE (33, [15, 39, 19]) (by decide))
  have F33b : (ρ 3) = pz_apk ((ρ 8) / 4) (ρ 2) 4 := (ax_XF_lt (by decide)).mp (ax_gx hE (33, [11, 35, 15]) (by decide))
  have F33c : (ρ 2) = pz_apk ((ρ 7) / 4) (ρ 1) 4 := (ax_XF_lt (by decide)).mp (ax_gx hE (33, [7, 31, 11]) (by decide))
  have F33d : (ρ 1) = pz_apk ((ρ 6) / 4) (ρ 0) 4 := (ax_XF_lt (by decide)).mp (ax_gx hE (33, [3, 27, 7]) (by decide))
  refine ⟨(fun y hy => by cases hy), _, List.mem_cons_self, ρ, fun _ _ => rfl, ax_px hE (by decide) (fun y hy => ?_)⟩
  cases List.mem_singleton.mp hy
  refine (ax_XF_lt (x := 37) (by decide)).mpr ?_
  show (ρ 5) = pz_a20 ((ρ 6) / 4) ((ρ 7) / 4) ((ρ 8) / 4) ((ρ 9) / 4) ((ρ 10) / 4) (ρ 0) 20
  rw [F33, F33a, F33b, F33c, F33d]
  exact pz_a20_eq _ _ _ _ _ _

theorem axq_en1 : ax_RO ax_wC ax_XC axu_en1 := by
  intro ρ hp hE hT
  have j0 : ρ 0 % 4 = 1 := pz_gj hE 0 (by decide) rfl
  obtain ⟨i1a, i1b, i1c, i1d⟩ := pz_gi hE 1 2147483648 2147484448 (by decide) rfl
  obtain ⟨i2a, i2b, i2c, i2d⟩ := pz_gi hE 2 2147483648 2147484448 (by decide) rfl
  have c_size : ay_at hp 8 1 = some (ρ 2) := ay_gfj hE 42 4 11 8 1 (by decide) (by rw [ax_vl_c (by decide)]) (by rw [ax_vl_c (by decide)])
  have r1 : (ρ 1 / 4 + 2147483648) % 4294967296 ≤ (ρ 2 / 4 + 2147483648) % 4294967296 := pz_gc hE 5 7 11 (by decide) (by decide)
  obtain ⟨-, -, F30⟩ : ay_ex hp 8 ∧ ay_ex hp 9 ∧ pz_x30 (ρ 0) (ay_at hp 8 1) (ay_at hp 9) := (ax_XF_lt (by decide)).mp (ax_gx hE (30, [3]) (by decide))
  rw [c_size] at F30
  obtain ⟨ρ', h1, h2⟩ := pz_pn1 (K := pz_cut (ρ 0) (ρ 1 / 4) / 4) (xf := [(530, [42, 4, 7, 15]), (38, [3, 7, 15])]) hE (by decide) (fun ρ' h1 h2 x hx => by
    have q0 : ρ' 0 = ρ 0 := h1 0 (by decide)
    have q1 : ρ' 1 = ρ 1 := h1 1 (by decide)
    have q2 : ρ' 2 = ρ 2 := h1 2 (by decide)
    rcases List.mem_cons.mp hx with e | hx
    · subst e
      refine (ax_XF_wr (x := 30) (by decide)).mpr ?_
      show ay_ex (ax_upd hp 42 (4) (ρ' 1)) 8 ∧ ay_ex (ax_upd hp 42 (4) (ρ' 1)) 9 ∧ pz_x30 (ρ' 3) (ay_at (ax_upd hp 42 (4) (ρ' 1)) 8 1) (ay_at (ax_upd hp 42 (4) (ρ' 1)) 9)
      rw [q1, h2]
      obtain ⟨o0, ho0⟩ := ay_some hT (q := 8) (g := 2) (n := 12) rfl rfl (j := 4 / 4) (by decide)
      have u1 : ∀ q, q ≠ 8 → ay_at (ax_upd hp 42 4 (ρ 1)) q = ay_at hp q := fun q hq => funext (fun j => ay_upd_ne hT.1 hq j)
      have u2 : ∀ j, ay_at (ax_upd hp 42 4 (ρ 1)) 8 j = if j = 1 then some (ρ 1) else ay_at hp 8 j := fun j => ay_upd_eq hT.1 rfl ho0 j
      refine ⟨ay_ex_upd hT.1 (ax_cellT hT (q := 8) (g := 2) rfl), ay_ex_upd hT.1 (ax_cellT hT (q := 9) (g := 20) rfl), ?_⟩
      rw [u2 1, if_pos rfl, u1 9 (by decide)]
      rw [pz_cut_4]
      have e := pz_cut_g (g := ρ 0) (n := ρ 1 / 4) (by omega)
      have eN : ρ 2 / 4 = pz_gN (ρ 0) := F30.1
      refine ⟨?_, ?_, fun j hj => ?_⟩
      · show ρ 1 / 4 = _
        rw [e.1]
      · rw [e.1]
        omega
      · rw [e.1] at hj
        rw [e.2]
        exact F30.2.2 j (by omega)
    cases List.mem_singleton.mp hx
    refine (ax_XF_lt (x := 38) (by decide)).mpr ?_
    show (ρ' 3) = pz_cut (ρ' 0) ((ρ' 1) / 4)
    rw [q0, q1, h2]
    rw [pz_cut_4])
  exact ⟨(fun y hy => by cases hy), _, List.mem_cons_self, ρ', h1, h2⟩

theorem axq_ne1 : ax_RO ax_wC ax_XC axu_ne1 := by
  intro ρ hp hE hT
  have j0 : ρ 0 % 4 = 1 := pz_gj hE 0 (by decide) rfl
  obtain ⟨-, -, -, -, F110⟩ : ay_ex hp 10 ∧ ay_ex hp 8 ∧ ay_ex hp 11 ∧ ay_ex hp 12 ∧ pz110 (pz_gt (ρ 0)) (pz_gN (ρ 0)) (ay_ln (ay_at hp 10 0)) (ay_ln (ay_at hp 10 1)) (ay_ln (ay_at hp 10 2)) (ay_ln (ay_at hp 10 3)) (ay_ln (ay_at hp 10 4)) (ay_ln (ay_at hp 8 9)) (ay_ln (ay_at hp 8 11)) (ay_ln (ay_at hp 8 10)) (ay_ln (ay_at hp 8 3)) (ay_ln (ay_at hp 8 4)) (ay_at hp 11) (ay_at hp 12) := (ax_XF_lt (by decide)).mp (ax_gx hE (110, [3]) (by decide))
  obtain ⟨v, hv⟩ := ay_some hT (q := 10) (g := 1) (n := 12) rfl rfl (j := 0) (by decide)
  have ht : ax_ok ax_wC (0, 2147483648, 2147483658) v := ay_typ hT (q := 10) (g := 1) (j := 0) rfl rfl hv
  obtain ⟨m, hm, hd⟩ := F110
  obtain ⟨ρ', h1, h2⟩ := pz_pf (q := 10) (j := 0) (v := v) (xf := [(126, [3, 7]), (127, [])]) hE (a := 50) (i := 0) (by decide) (by decide) (ax_vl_c (by decide)) (ax_vl_c (by decide)) hv ht (by decide) (fun ρ' h1 h2 x hx => by
    rcases List.mem_cons.mp hx with e | hx
    · subst e
      refine (ax_XF_lt (x := 126) (by decide)).mpr ?_
      show pz_x126 (ρ' 0) (ρ' 1)
      rw [h1 0 (by decide), h2]
      refine ⟨m, hm, ?_⟩
      have e := hd.1
      rw [hv] at e
      exact e.symm
    · cases List.mem_singleton.mp hx
      refine (ax_XF_lt (x := 127) (by decide)).mpr ?_
      show ay_ex hp 8 ∧ (ay_ln (ay_at hp 8 3) = 0 ∧ ay_ln (ay_at hp 8 4) = 4294967295)
      exact ⟨(ax_cellT hT (q := 8) (g := 2) rfl), hd.2.2.2.2.2.2.2.2.1, hd.2.2.2.2.2.2.2.2.2.1⟩)
  exact ⟨(fun y hy => by cases hy), _, List.mem_cons_self, ρ', h1, h2⟩

theorem axq_ad10 : ax_RO ax_wC ax_XC axu_ad10 := by
  intro ρ hp hE hT
  have j0 : ρ 0 % 4 = 1 := pz_gj hE 0 (by decide) rfl
  have j1 : ρ 1 % 4 = 1 := pz_gj hE 1 (by decide) rfl
  obtain ⟨i2a, i2b, i2c, i2d⟩ := pz_gi hE 2 2147483648 2147484448 (by decide) rfl
  obtain ⟨i3a, i3b, i3c, i3d⟩ := pz_gi hE 3 2147483648 2147484448 (by decide) rfl
  obtain ⟨i4a, i4b, i4c, i4d⟩ := pz_gi hE 4 2147483696 2147483705 (by decide) rfl
  obtain ⟨i5a, i5b, i5c, i5d⟩ := pz_gi hE 5 0 4294967295 (by decide) rfl
  obtain ⟨i6a, i6b, i6c, i6d⟩ := pz_gi hE 6 0 4294967295 (by decide) rfl
  obtain ⟨i7a, i7b, i7c, i7d⟩ := pz_gi hE 7 0 4294967295 (by decide) rfl
  obtain ⟨i8a, i8b, i8c, i8d⟩ := pz_gi hE 8 0 4294967295 (by decide) rfl
  obtain ⟨i9a, i9b, i9c, i9d⟩ := pz_gi hE 9 2147483648 2147583648 (by decide) rfl
  have c_ahead : ay_at hp 8 5 = some (ρ 2) := ay_gfj hE 42 20 11 8 5 (by decide) (by rw [ax_vl_c (by decide)]) (by rw [ax_vl_c (by decide)])
  have c_size : ay_at hp 8 1 = some (ρ 3) := ay_gfj hE 42 4 15 8 1 (by decide) (by rw [ax_vl_c (by decide)]) (by rw [ax_vl_c (by decide)])
  have c_tape : ay_at hp 9 (ρ 2 / 4) = some (ρ 4) := ay_gf hE 46 11 19 9 (by decide) (by rw [ax_vl_c (by decide)])
  have c_value : ay_at hp 8 8 = some (ρ 9) := ay_gfj hE 42 32 39 8 8 (by decide) (by rw [ax_vl_c (by decide)]) (by rw [ax_vl_c (by decide)])
  have r1 : (ρ 2 / 4 + 2147483648) % 4294967296 < (ρ 3 / 4 + 2147483648) % 4294967296 := pz_gc hE 2 11 15 (by decide) (by decide)
  have s1 : (ρ 8 / 4 + 2147483648) % 4294967296 + (192 / 4 + 2147483648) % 4294967296 = (ρ 7 / 4 + 2147483648) % 4294967296 + 2147483648 := pz_gs hE 35 192 31 (by decide)
  have s2 : (ρ 6 / 4 + 2147483648) % 4294967296 + (ρ 4 / 4 + 2147483648) % 4294967296 = (ρ 7 / 4 + 2147483648) % 4294967296 + 2147483648 := pz_gs hE 27 19 31 (by decide)
  obtain ⟨-, -, F30⟩ : ay_ex hp 8 ∧ ay_ex hp 9 ∧ pz_x30 (ρ 0) (ay_at hp 8 1) (ay_at hp 9) := (ax_XF_lt (by decide)).mp (ax_gx hE (30, [3]) (by decide))
  rw [c_size] at F30
  obtain ⟨-, -, -, -, F58⟩ : ay_ex hp 8 ∧ ay_ex hp 10 ∧ ay_ex hp 11 ∧ ay_ex hp 12 ∧ pz_x58 (ρ 0) (ρ 1) (ay_at hp 8 5) (ay_at hp 8 6) (ay_at hp 8 7) (ay_at hp 8 8) (ay_at hp 10 0) (ay_at hp 10 1) (ay_at hp 10 2) (ay_at hp 10 3) (ay_at hp 10 4) (ay_at hp 8 9) (ay_at hp 8 11) (ay_at hp 8 10) (ay_at hp 8 3) (ay_at hp 8 4) (ay_at hp 11) (ay_at hp 12) := (ax_XF_lt (by decide)).mp (ax_gx hE (58, [3, 7]) (by decide))
  rw [c_ahead] at F58
  rw [c_value] at F58
  refine ⟨(fun y hy => by cases hy), _, List.mem_cons_self, ρ, fun _ _ => rfl, ax_px hE (by decide) (fun y hy => ?_)⟩
  cases List.mem_singleton.mp hy
  refine (ax_XF_wr (x := 59) (by decide)).mpr ?_
  show ay_ex (ax_upd hp 42 32 (ρ 5)) 8 ∧ ay_ex (ax_upd hp 42 32 (ρ 5)) 10 ∧ ay_ex (ax_upd hp 42 32 (ρ 5)) 11 ∧ ay_ex (ax_upd hp 42 32 (ρ 5)) 12 ∧ pz_x59 (ρ 0) (ρ 1) (ay_at (ax_upd hp 42 32 (ρ 5)) 8 5) (ay_at (ax_upd hp 42 32 (ρ 5)) 8 6) (ay_at (ax_upd hp 42 32 (ρ 5)) 8 7) (ay_at (ax_upd hp 42 32 (ρ 5)) 8 8) (ay_at (ax_upd hp 42 32 (ρ 5)) 10 0) (ay_at (ax_upd hp 42 32 (ρ 5)) 10 1) (ay_at (ax_upd hp 42 32 (ρ 5)) 10 2) (ay_at (ax_upd hp 42 32 (ρ 5)) 10 3) (ay_at (ax_upd hp 42 32 (ρ 5)) 10 4) (ay_at (ax_upd hp 42 32 (ρ 5)) 8 9) (ay_at (ax_upd hp 42 32 (ρ 5)) 8 11) (ay_at (ax_upd hp 42 32 (ρ 5)) 8 10) (ay_at (ax_upd hp 42 32 (ρ 5)) 8 3) (ay_at (ax_upd hp 42 32 (ρ 5)) 8 4) (ay_at (ax_upd hp 42 32 (ρ 5)) 11) (ay_at (ax_upd hp 42 32 (ρ 5)) 12)
  obtain ⟨o0, ho0⟩ := ay_some hT (q := 8) (g := 2) (n := 12) rfl rfl (j := 32 / 4) (by decide)
  have u1 : ∀ q, q ≠ 8 → ay_at (ax_upd hp 42 32 (ρ 5)) q = ay_at hp q := fun q hq => funext (fun j => ay_upd_ne hT.1 hq j)
  have u2 : ∀ j, ay_at (ax_upd hp 42 32 (ρ 5)) 8 j = if j = 8 then some (ρ 5) else ay_at hp 8 j := fun j => ay_upd_eq hT.1 rfl ho0 j
  refine ⟨ay_ex_upd hT.1 (ax_cellT hT (q := 8) (g := 2) rfl), ay_ex_upd hT.1 (ax_cellT hT (q := 10) (g := 1) rfl), ay_ex_upd hT.1 (ax_cellT hT (q := 11) (g := 14) rfl), ay_ex_upd hT.1 (ax_cellT hT (q := 12) (g := 15) rfl), ?_⟩
  rw [u2 5, if_neg (show ¬ 5 = 8 by decide), u2 6, if_neg (show ¬ 6 = 8 by decide), u2 7, if_neg (show ¬ 7 = 8 by decide), u2 8, if_pos rfl, u1 10 (by decide), u2 9, if_neg (show ¬ 9 = 8 by decide), u2 11, if_neg (show ¬ 11 = 8 by decide), u2 10, if_neg (show ¬ 10 = 8 by decide), u2 3, if_neg (show ¬ 3 = 8 by decide), u2 4, if_neg (show ¬ 4 = 8 by decide), u1 11 (by decide), u1 12 (by decide)]
  rw [c_ahead]
  have hb : ρ 2 / 4 < pz_gN (ρ 0) → pz_b (pz_gt (ρ 0)) (ρ 2 / 4) = ρ 4 / 4 := fun hl => by
    have e := F30.2.2 (ρ 2 / 4) hl
    rw [c_tape] at e
    have e := Option.some.inj e
    omega
  have hN : ρ 3 / 4 = pz_gN (ρ 0) := F30.1
  obtain ⟨r, m1, m2, m3⟩ := ay_mk hE 2 40 39 27 (by decide) (by decide)
  replace m1 : some (40 / 4 * (ρ 9 / 4) % 4294967296) = some r := m1
  have m1 := Option.some.inj m1
  replace m3 : ρ 6 = 4 * r := m3
  have mm : ρ 5 = if (400000 / 4 + 2147483648) % 4294967296 < (ρ 8 / 4 + 2147483648) % 4294967296 then 400000 else ρ 8 := pz_g41 hE 35 400000 23 (by decide)
  have hlt : ρ 2 / 4 < pz_gN (ρ 0) := by
    clear mm s1 s2 m1
    omega
  have hd : pz_dg (pz_b (pz_gt (ρ 0)) (ρ 2 / 4)) = true := by rw [hb hlt]; exact pz_dg_yes (pz_ps 48 57 i4b i4c i4d (by decide)).1 (pz_ps 48 57 i4b i4c i4d (by decide)).2
  have hc1 := pz_ps 48 57 i4b i4c i4d (by decide)
  have ho1 := (pz_ps 0 100000 i9b i9c i9d (by decide)).2
  have hr : ρ 6 / 4 = 10 * (ρ 9 / 4) := by
    clear mm s1 s2 r1
    omega
  have hz : ρ 7 / 4 = 10 * (ρ 9 / 4) + ρ 4 / 4 := by
    rw [pz_sm (by omega) (by omega) i7b s2, hr]
  have ey : ρ 8 / 4 = 10 * (ρ 9 / 4) + (ρ 4 / 4 - 48) := by
    rw [hz] at s1
    clear mm s2 r1 m1
    omega
  have ex : ρ 5 / 4 = if 10 * (ρ 9 / 4) + (ρ 4 / 4 - 48) ≤ 100000 then 10 * (ρ 9 / 4) + (ρ 4 / 4 - 48) else 100000 := by
    by_cases hc : 10 * (ρ 9 / 4) + (ρ 4 / 4 - 48) ≤ 100000
    · rw [if_pos hc, mm, if_neg (by rw [ey]; clear mm s1 s2 m1 r1; omega), ey]
    · rw [if_neg hc, mm, if_pos (by rw [ey]; clear mm s1 s2 m1 r1; omega)]
  refine ⟨F58.1, F58.2.1, F58.2.2.1, ?_, ?_, F58.2.2.2.2.2⟩
  · exact (pz_e_on hlt hd).symm.trans F58.2.2.2.1
  · show pz_n (pz_gt (ρ 0)) (pz_gN (ρ 0)) (ρ 2 / 4 + 1) (pz_m (ρ 5 / 4)) = _
    rw [ex, pz_m_class (by have := hc1.2; clear mm s1 s2 m1 r1; omega), ← hb hlt]
    exact (pz_n_on hlt hd).symm.trans F58.2.2.2.2.1

theorem axq_iw4_0 : ax_RO ax_wC ax_XC axu_iw4_0 := by
  intro ρ hp hE hT
  have j0 : ρ 0 % 4 = 1 := pz_gj hE 0 (by decide) rfl
  have j1 : ρ 1 % 4 = 1 := pz_gj hE 1 (by decide) rfl
  obtain ⟨i2a, i2b, i2c, i2d⟩ := pz_gi hE 2 2147483648 2147483655 (by decide) rfl
  obtain ⟨i3a, i3b, i3c, i3d⟩ := pz_gi hE 3 0 4294967295 (by decide) rfl
  obtain ⟨i4a, i4b, i4c, i4d⟩ := pz_gi hE 4 2147483648 2147484448 (by decide) rfl
  obtain ⟨i5a, i5b, i5c, i5d⟩ := pz_gi hE 5 0 4294967295 (by decide) rfl
  obtain ⟨i6a, i6b, i6c, i6d⟩ := pz_gi hE 6 2147483520 2147483775 (by decide) rfl
  obtain ⟨i7a, i7b, i7c, i7d⟩ := pz_gi hE 7 2147483648 2147483903 (by decide) rfl
  have s1 : (ρ 2 / 4 + 2147483648) % 4294967296 + (4 / 4 + 2147483648) % 4294967296 = (ρ 3 / 4 + 2147483648) % 4294967296 + 2147483648 := pz_gs hE 11 4 15 (by decide)
  have c_place : ay_at hp 8 6 = some (ρ 4) := ay_gfj hE 42 24 19 8 6 (by decide) (by rw [ax_vl_c (by decide)]) (by rw [ax_vl_c (by decide)])
  have s2 : (ρ 4 / 4 + 2147483648) % 4294967296 + (ρ 2 / 4 + 2147483648) % 4294967296 = (ρ 5 / 4 + 2147483648) % 4294967296 + 2147483648 := pz_gs hE 19 11 23 (by decide)
  have c_tape : ay_at hp 9 (ρ 5 / 4) = some (ρ 6) := ay_gf hE 46 23 27 9 (by decide) (by rw [ax_vl_c (by decide)])
  have r1 : (ρ 6 / 4 + 2147483648) % 4294967296 = (ρ 7 / 4 + 2147483648) % 4294967296 := pz_gc hE 0 27 31 (by decide) (by decide)
  obtain ⟨-, -, F30⟩ : ay_ex hp 8 ∧ ay_ex hp 9 ∧ pz_x30 (ρ 0) (ay_at hp 8 1) (ay_at hp 9) := (ax_XF_lt (by decide)).mp (ax_gx hE (30, [3]) (by decide))
  obtain ⟨-, -, -, -, F50⟩ : ay_ex hp 8 ∧ ay_ex hp 10 ∧ ay_ex hp 11 ∧ ay_ex hp 12 ∧ pz_x50 (ρ 0) (ρ 1) (ay_at hp 8 5) (ay_at hp 8 6) (ay_at hp 8 7) (ay_at hp 8 8) (ay_at hp 10 0) (ay_at hp 10 1) (ay_at hp 10 2) (ay_at hp 10 3) (ay_at hp 10 4) (ay_at hp 8 9) (ay_at hp 8 11) (ay_at hp 8 10) (ay_at hp 8 3) (ay_at hp 8 4) (ay_at hp 11) (ay_at hp 12) := (ax_XF_lt (by decide)).mp (ax_gx hE (50, [3, 7]) (by decide))
  rw [c_place] at F50
  have F62 : pz_x62 (ρ 0) (ρ 1) (4002) (ρ 2) := (ax_XF_lt (by decide)).mp (ax_gx hE (62, [3, 7, 4002, 11]) (by decide))
  refine ⟨(fun y hy => by cases hy), _, List.mem_cons_self, ρ, fun _ _ => rfl, ax_px hE (by decide) (fun y hy => ?_)⟩
  cases List.mem_singleton.mp hy
  refine (ax_XF_lt (x := 62) (by decide)).mpr ?_
  show pz_x62 (ρ 0) (ρ 1) (4002) (ρ 3)
  have ch := pz_chr (v := 4002) (i := ρ 2) (z := ρ 7) (l := [115, 119, 105, 116, 99, 104, 101, 115]) (by decide +kernel) (pz_g42 hE 4002 11 31 (by decide))
  have ep : ρ 4 / 4 = pz_at (pz_gt (ρ 0)) (pz_gN (ρ 0)) (pz_p (pz_cf (pz_gt (ρ 0)) (pz_gN (ρ 0)) (ρ 1 / 4))) := F50.2.1
  have hw : pz_at (pz_gt (ρ 0)) (pz_gN (ρ 0)) (pz_p (pz_cf (pz_gt (ρ 0)) (pz_gN (ρ 0)) (ρ 1 / 4))) < pz_gN (ρ 0) ∧ pz_nx (pz_gt (ρ 0)) (pz_gN (ρ 0)) (pz_p (pz_cf (pz_gt (ρ 0)) (pz_gN (ρ 0)) (ρ 1 / 4))) ≤ pz_gN (ρ 0) := pz_wd_le F62.1
  have hln : pz_nx (pz_gt (ρ 0)) (pz_gN (ρ 0)) (pz_p (pz_cf (pz_gt (ρ 0)) (pz_gN (ρ 0)) (ρ 1 / 4))) - pz_at (pz_gt (ρ 0)) (pz_gN (ρ 0)) (pz_p (pz_cf (pz_gt (ρ 0)) (pz_gN (ρ 0)) (ρ 1 / 4))) = 8 := F62.2.1
  have hi1 : ρ 2 / 4 < 8 := by omega
  have ha1 : ρ 4 / 4 ≤ 800 := by omega
  have hq1 : ρ 5 / 4 = ρ 4 / 4 + ρ 2 / 4 := by omega
  have hb := F30.2.2 (ρ 5 / 4) (by have := hw.2; omega)
  rw [c_tape] at hb
  have hb := Option.some.inj hb
  rw [show ρ 5 / 4 = pz_at (pz_gt (ρ 0)) (pz_gN (ρ 0)) (pz_p (pz_cf (pz_gt (ρ 0)) (pz_gN (ρ 0)) (ρ 1 / 4))) + ρ 2 / 4 by omega] at hb
  refine ⟨F62.1, F62.2.1, fun j hj => ?_⟩
  by_cases h : j < ρ 2 / 4
  · exact F62.2.2 j h
  · have e : j = ρ 2 / 4 := by omega
    have hcc : ρ 6 / 4 = ρ 7 / 4 := by omega
    have hb2 : pz_b (pz_gt (ρ 0)) (pz_at (pz_gt (ρ 0)) (pz_gN (ρ 0)) (pz_p (pz_cf (pz_gt (ρ 0)) (pz_gN (ρ 0)) (ρ 1 / 4))) + ρ 2 / 4) = ρ 6 / 4 := by omega
    rw [e]
    refine Eq.trans ?_ (pz_getD ch).symm
    rw [← hcc]
    exact hb2

theorem axq_iw5_0 : ax_RO ax_wC ax_XC axu_iw5_0 := by
  intro ρ hp hE hT
  have j0 : ρ 0 % 4 = 1 := pz_gj hE 0 (by decide) rfl
  have j1 : ρ 1 % 4 = 1 := pz_gj hE 1 (by decide) rfl
  obtain ⟨i2a, i2b, i2c, i2d⟩ := pz_gi hE 2 2147483648 2147483655 (by decide) rfl
  obtain ⟨i3a, i3b, i3c, i3d⟩ := pz_gi hE 3 2147483648 2147484448 (by decide) rfl
  obtain ⟨i4a, i4b, i4c, i4d⟩ := pz_gi hE 4 0 4294967295 (by decide) rfl
  obtain ⟨i5a, i5b, i5c, i5d⟩ := pz_gi hE 5 2147483520 2147483775 (by decide) rfl
  obtain ⟨i6a, i6b, i6c, i6d⟩ := pz_gi hE 6 2147483648 2147483903 (by decide) rfl
  have c_place : ay_at hp 8 6 = some (ρ 3) := ay_gfj hE 42 24 15 8 6 (by decide) (by rw [ax_vl_c (by decide)]) (by rw [ax_vl_c (by decide)])
  have s1 : (ρ 3 / 4 + 2147483648) % 4294967296 + (ρ 2 / 4 + 2147483648) % 4294967296 = (ρ 4 / 4 + 2147483648) % 4294967296 + 2147483648 := pz_gs hE 15 11 19 (by decide)
  have c_tape : ay_at hp 9 (ρ 4 / 4) = some (ρ 5) := ay_gf hE 46 19 23 9 (by decide) (by rw [ax_vl_c (by decide)])
  have r1 : (ρ 5 / 4 + 2147483648) % 4294967296 ≠ (ρ 6 / 4 + 2147483648) % 4294967296 := pz_gc hE 1 23 27 (by decide) (by decide)
  obtain ⟨-, -, F30⟩ : ay_ex hp 8 ∧ ay_ex hp 9 ∧ pz_x30 (ρ 0) (ay_at hp 8 1) (ay_at hp 9) := (ax_XF_lt (by decide)).mp (ax_gx hE (30, [3]) (by decide))
  obtain ⟨-, -, -, -, F50⟩ : ay_ex hp 8 ∧ ay_ex hp 10 ∧ ay_ex hp 11 ∧ ay_ex hp 12 ∧ pz_x50 (ρ 0) (ρ 1) (ay_at hp 8 5) (ay_at hp 8 6) (ay_at hp 8 7) (ay_at hp 8 8) (ay_at hp 10 0) (ay_at hp 10 1) (ay_at hp 10 2) (ay_at hp 10 3) (ay_at hp 10 4) (ay_at hp 8 9) (ay_at hp 8 11) (ay_at hp 8 10) (ay_at hp 8 3) (ay_at hp 8 4) (ay_at hp 11) (ay_at hp 12) := (ax_XF_lt (by decide)).mp (ax_gx hE (50, [3, 7]) (by decide))
  rw [c_place] at F50
  have F62 : pz_x62 (ρ 0) (ρ 1) (4002) (ρ 2) := (ax_XF_lt (by decide)).mp (ax_gx hE (62, [3, 7, 4002, 11]) (by decide))
  refine ⟨(fun y hy => by cases hy), _, List.mem_cons_self, ρ, fun _ _ => rfl, ax_px hE (by decide) (fun y hy => ?_)⟩
  cases List.mem_singleton.mp hy
  refine (ax_XF_lt (x := 61) (by decide)).mpr ?_
  show pz61 (pz_gt (ρ 0)) (pz_gN (ρ 0)) ((ρ 1) / 4) ((4002) / 4 - 1000)
  have ch := pz_chr (v := 4002) (i := ρ 2) (z := ρ 6) (l := [115, 119, 105, 116, 99, 104, 101, 115]) (by decide +kernel) (pz_g42 hE 4002 11 27 (by decide))
  have ep : ρ 3 / 4 = pz_at (pz_gt (ρ 0)) (pz_gN (ρ 0)) (pz_p (pz_cf (pz_gt (ρ 0)) (pz_gN (ρ 0)) (ρ 1 / 4))) := F50.2.1
  have hw : pz_at (pz_gt (ρ 0)) (pz_gN (ρ 0)) (pz_p (pz_cf (pz_gt (ρ 0)) (pz_gN (ρ 0)) (ρ 1 / 4))) < pz_gN (ρ 0) ∧ pz_nx (pz_gt (ρ 0)) (pz_gN (ρ 0)) (pz_p (pz_cf (pz_gt (ρ 0)) (pz_gN (ρ 0)) (ρ 1 / 4))) ≤ pz_gN (ρ 0) := pz_wd_le F62.1
  have hln : pz_nx (pz_gt (ρ 0)) (pz_gN (ρ 0)) (pz_p (pz_cf (pz_gt (ρ 0)) (pz_gN (ρ 0)) (ρ 1 / 4))) - pz_at (pz_gt (ρ 0)) (pz_gN (ρ 0)) (pz_p (pz_cf (pz_gt (ρ 0)) (pz_gN (ρ 0)) (ρ 1 / 4))) = 8 := F62.2.1
  have hi1 : ρ 2 / 4 < 8 := by omega
  have ha1 : ρ 3 / 4 ≤ 800 := by omega
  have hq1 : ρ 4 / 4 = ρ 3 / 4 + ρ 2 / 4 := by omega
  have hb := F30.2.2 (ρ 4 / 4) (by have := hw.2; omega)
  rw [c_tape] at hb
  have hb := Option.some.inj hb
  rw [show ρ 4 / 4 = pz_at (pz_gt (ρ 0)) (pz_gN (ρ 0)) (pz_p (pz_cf (pz_gt (ρ 0)) (pz_gN (ρ 0)) (ρ 1 / 4))) + ρ 2 / 4 by omega] at hb
  refine pz_is_no (Or.inr (Or.inr ⟨ρ 2 / 4, show ρ 2 / 4 < 8 by omega, fun z => ?_⟩))
  have hb2 : pz_b (pz_gt (ρ 0)) (pz_at (pz_gt (ρ 0)) (pz_gN (ρ 0)) (pz_p (pz_cf (pz_gt (ρ 0)) (pz_gN (ρ 0)) (ρ 1 / 4))) + ρ 2 / 4) = ρ 5 / 4 := by omega
  have z2 := (hb2.symm.trans z).trans (pz_getD ch)
  rw [z2] at r1
  exact r1 rfl

theorem axq_iw4_1 : ax_RO ax_wC ax_XC axu_iw4_1 := by
  intro ρ hp hE hT
  have j0 : ρ 0 % 4 = 1 := pz_gj hE 0 (by decide) rfl
  have j1 : ρ 1 % 4 = 1 := pz_gj hE 1 (by decide) rfl
  obtain ⟨i2a, i2b, i2c, i2d⟩ := pz_gi hE 2 2147483648 2147483651 (by decide) rfl
  obtain ⟨i3a, i3b, i3c, i3d⟩ := pz_gi hE 3 0 4294967295 (by decide) rfl
  obtain ⟨i4a, i4b, i4c, i4d⟩ := pz_gi hE 4 2147483648 2147484448 (by decide) rfl
  obtain ⟨i5a, i5b, i5c, i5d⟩ := pz_gi hE 5 0 4294967295 (by decide) rfl
  obtain ⟨i6a, i6b, i6c, i6d⟩ := pz_gi hE 6 2147483520 2147483775 (by decide) rfl
  obtain ⟨i7a, i7b, i7c, i7d⟩ := pz_gi hE 7 2147483648 2147483903 (by decide) rfl
  have s1 : (ρ 2 / 4 + 2147483648) % 4294967296 + (4 / 4 + 2147483648) % 4294967296 = (ρ 3 / 4 + 2147483648) % 4294967296 + 2147483648 := pz_gs hE 11 4 15 (by decide)
  have c_place : ay_at hp 8 6 = some (ρ 4) := ay_gfj hE 42 24 19 8 6 (by decide) (by rw [ax_vl_c (by decide)]) (by rw [ax_vl_c (by decide)])
  have s2 : (ρ 4 / 4 + 2147483648) % 4294967296 + (ρ 2 / 4 + 2147483648) % 4294967296 = (ρ 5 / 4 + 2147483648) % 4294967296 + 2147483648 := pz_gs hE 19 11 23 (by decide)
  have c_tape : ay_at hp 9 (ρ 5 / 4) = some (ρ 6) := ay_gf hE 46 23 27 9 (by decide) (by rw [ax_vl_c (by decide)])
  have r1 : (ρ 6 / 4 + 2147483648) % 4294967296 = (ρ 7 / 4 + 2147483648) % 4294967296 := pz_gc hE 0 27 31 (by decide) (by decide)
  obtain ⟨-, -, F30⟩ : ay_ex hp 8 ∧ ay_ex hp 9 ∧ pz_x30 (ρ 0) (ay_at hp 8 1) (ay_at hp 9) := (ax_XF_lt (by decide)).mp (ax_gx hE (30, [3]) (by decide))
  obtain ⟨-, -, -, -, F50⟩ : ay_ex hp 8 ∧ ay_ex hp 10 ∧ ay_ex hp 11 ∧ ay_ex hp 12 ∧ pz_x50 (ρ 0) (ρ 1) (ay_at hp 8 5) (ay_at hp 8 6) (ay_at hp 8 7) (ay_at hp 8 8) (ay_at hp 10 0) (ay_at hp 10 1) (ay_at hp 10 2) (ay_at hp 10 3) (ay_at hp 10 4) (ay_at hp 8 9) (ay_at hp 8 11) (ay_at hp 8 10) (ay_at hp 8 3) (ay_at hp 8 4) (ay_at hp 11) (ay_at hp 12) := (ax_XF_lt (by decide)).mp (ax_gx hE (50, [3, 7]) (by decide))
  rw [c_place] at F50
  have F62 : pz_x62 (ρ 0) (ρ 1) (4006) (ρ 2) := (ax_XF_lt (by decide)).mp (ax_gx hE (62, [3, 7, 4006, 11]) (by decide))
  refine ⟨(fun y hy => by cases hy), _, List.mem_cons_self, ρ, fun _ _ => rfl, ax_px hE (by decide) (fun y hy => ?_)⟩
  cases List.mem_singleton.mp hy
  refine (ax_XF_lt (x := 62) (by decide)).mpr ?_
  show pz_x62 (ρ 0) (ρ 1) (4006) (ρ 3)
  have ch := pz_chr (v := 4006) (i := ρ 2) (z := ρ 7) (l := [108, 105, 110, 107]) (by decide +kernel) (pz_g42 hE 4006 11 31 (by decide))
  have ep : ρ 4 / 4 = pz_at (pz_gt (ρ 0)) (pz_gN (ρ 0)) (pz_p (pz_cf (pz_gt (ρ 0)) (pz_gN (ρ 0)) (ρ 1 / 4))) := F50.2.1
  have hw : pz_at (pz_gt (ρ 0)) (pz_gN (ρ 0)) (pz_p (pz_cf (pz_gt (ρ 0)) (pz_gN (ρ 0)) (ρ 1 / 4))) < pz_gN (ρ 0) ∧ pz_nx (pz_gt (ρ 0)) (pz_gN (ρ 0)) (pz_p (pz_cf (pz_gt (ρ 0)) (pz_gN (ρ 0)) (ρ 1 / 4))) ≤ pz_gN (ρ 0) := pz_wd_le F62.1
  have hln : pz_nx (pz_gt (ρ 0)) (pz_gN (ρ 0)) (pz_p (pz_cf (pz_gt (ρ 0)) (pz_gN (ρ 0)) (ρ 1 / 4))) - pz_at (pz_gt (ρ 0)) (pz_gN (ρ 0)) (pz_p (pz_cf (pz_gt (ρ 0)) (pz_gN (ρ 0)) (ρ 1 / 4))) = 4 := F62.2.1
  have hi1 : ρ 2 / 4 < 4 := by omega
  have ha1 : ρ 4 / 4 ≤ 800 := by omega
  have hq1 : ρ 5 / 4 = ρ 4 / 4 + ρ 2 / 4 := by omega
  have hb := F30.2.2 (ρ 5 / 4) (by have := hw.2; omega)
  rw [c_tape] at hb
  have hb := Option.some.inj hb
  rw [show ρ 5 / 4 = pz_at (pz_gt (ρ 0)) (pz_gN (ρ 0)) (pz_p (pz_cf (pz_gt (ρ 0)) (pz_gN (ρ 0)) (ρ 1 / 4))) + ρ 2 / 4 by omega] at hb
  refine ⟨F62.1, F62.2.1, fun j hj => ?_⟩
  by_cases h : j < ρ 2 / 4
  · exact F62.2.2 j h
  · have e : j = ρ 2 / 4 := by omega
    have hcc : ρ 6 / 4 = ρ 7 / 4 := by omega
    have hb2 : pz_b (pz_gt (ρ 0)) (pz_at (pz_gt (ρ 0)) (pz_gN (ρ 0)) (pz_p (pz_cf (pz_gt (ρ 0)) (pz_gN (ρ 0)) (ρ 1 / 4))) + ρ 2 / 4) = ρ 6 / 4 := by omega
    rw [e]
    refine Eq.trans ?_ (pz_getD ch).symm
    rw [← hcc]
    exact hb2

theorem axq_iw5_1 : ax_RO ax_wC ax_XC axu_iw5_1 := by
  intro ρ hp hE hT
  have j0 : ρ 0 % 4 = 1 := pz_gj hE 0 (by decide) rfl
  have j1 : ρ 1 % 4 = 1 := pz_gj hE 1 (by decide) rfl
  obtain ⟨i2a, i2b, i2c, i2d⟩ := pz_gi hE 2 2147483648 2147483651 (by decide) rfl
  obtain ⟨i3a, i3b, i3c, i3d⟩ := pz_gi hE 3 2147483648 2147484448 (by decide) rfl
  obtain ⟨i4a, i4b, i4c, i4d⟩ := pz_gi hE 4 0 4294967295 (by decide) rfl
  obtain ⟨i5a, i5b, i5c, i5d⟩ := pz_gi hE 5 2147483520 2147483775 (by decide) rfl
  obtain ⟨i6a, i6b, i6c, i6d⟩ := pz_gi hE 6 2147483648 2147483903 (by decide) rfl
  have c_place : ay_at hp 8 6 = some (ρ 3) := ay_gfj hE 42 24 15 8 6 (by decide) (by rw [ax_vl_c (by decide)]) (by rw [ax_vl_c (by decide)])
  have s1 : (ρ 3 / 4 + 2147483648) % 4294967296 + (ρ 2 / 4 + 2147483648) % 4294967296 = (ρ 4 / 4 + 2147483648) % 4294967296 + 2147483648 := pz_gs hE 15 11 19 (by decide)
  have c_tape : ay_at hp 9 (ρ 4 / 4) = some (ρ 5) := ay_gf hE 46 19 23 9 (by decide) (by rw [ax_vl_c (by decide)])
  have r1 : (ρ 5 / 4 + 2147483648) % 4294967296 ≠ (ρ 6 / 4 + 2147483648) % 4294967296 := pz_gc hE 1 23 27 (by decide) (by decide)
  obtain ⟨-, -, F30⟩ : ay_ex hp 8 ∧ ay_ex hp 9 ∧ pz_x30 (ρ 0) (ay_at hp 8 1) (ay_at hp 9) := (ax_XF_lt (by decide)).mp (ax_gx hE (30, [3]) (by decide))
  obtain ⟨-, -, -, -, F50⟩ : ay_ex hp 8 ∧ ay_ex hp 10 ∧ ay_ex hp 11 ∧ ay_ex hp 12 ∧ pz_x50 (ρ 0) (ρ 1) (ay_at hp 8 5) (ay_at hp 8 6) (ay_at hp 8 7) (ay_at hp 8 8) (ay_at hp 10 0) (ay_at hp 10 1) (ay_at hp 10 2) (ay_at hp 10 3) (ay_at hp 10 4) (ay_at hp 8 9) (ay_at hp 8 11) (ay_at hp 8 10) (ay_at hp 8 3) (ay_at hp 8 4) (ay_at hp 11) (ay_at hp 12) := (ax_XF_lt (by decide)).mp (ax_gx hE (50, [3, 7]) (by decide))
  rw [c_place] at F50
  have F62 : pz_x62 (ρ 0) (ρ 1) (4006) (ρ 2) := (ax_XF_lt (by decide)).mp (ax_gx hE (62, [3, 7, 4006, 11]) (by decide))
  refine ⟨(fun y hy => by cases hy), _, List.mem_cons_self, ρ, fun _ _ => rfl, ax_px hE (by decide) (fun y hy => ?_)⟩
  cases List.mem_singleton.mp hy
  refine (ax_XF_lt (x := 61) (by decide)).mpr ?_
  show pz61 (pz_gt (ρ 0)) (pz_gN (ρ 0)) ((ρ 1) / 4) ((4006) / 4 - 1000)
  have ch := pz_chr (v := 4006) (i := ρ 2) (z := ρ 6) (l := [108, 105, 110, 107]) (by decide +kernel) (pz_g42 hE 4006 11 27 (by decide))
  have ep : ρ 3 / 4 = pz_at (pz_gt (ρ 0)) (pz_gN (ρ 0)) (pz_p (pz_cf (pz_gt (ρ 0)) (pz_gN (ρ 0)) (ρ 1 / 4))) := F50.2.1
  have hw : pz_at (pz_gt (ρ 0)) (pz_gN (ρ 0)) (pz_p (pz_cf (pz_gt (ρ 0)) (pz_gN (ρ 0)) (ρ 1 / 4))) < pz_gN (ρ 0) ∧ pz_nx (pz_gt (ρ 0)) (pz_gN (ρ 0)) (pz_p (pz_cf (pz_gt (ρ 0)) (pz_gN (ρ 0)) (ρ 1 / 4))) ≤ pz_gN (ρ 0) := pz_wd_le F62.1
  have hln : pz_nx (pz_gt (ρ 0)) (pz_gN (ρ 0)) (pz_p (pz_cf (pz_gt (ρ 0)) (pz_gN (ρ 0)) (ρ 1 / 4))) - pz_at (pz_gt (ρ 0)) (pz_gN (ρ 0)) (pz_p (pz_cf (pz_gt (ρ 0)) (pz_gN (ρ 0)) (ρ 1 / 4))) = 4 := F62.2.1
  have hi1 : ρ 2 / 4 < 4 := by omega
  have ha1 : ρ 3 / 4 ≤ 800 := by omega
  have hq1 : ρ 4 / 4 = ρ 3 / 4 + ρ 2 / 4 := by omega
  have hb := F30.2.2 (ρ 4 / 4) (by have := hw.2; omega)
  rw [c_tape] at hb
  have hb := Option.some.inj hb
  rw [show ρ 4 / 4 = pz_at (pz_gt (ρ 0)) (pz_gN (ρ 0)) (pz_p (pz_cf (pz_gt (ρ 0)) (pz_gN (ρ 0)) (ρ 1 / 4))) + ρ 2 / 4 by omega] at hb
  refine pz_is_no (Or.inr (Or.inr ⟨ρ 2 / 4, show ρ 2 / 4 < 4 by omega, fun z => ?_⟩))
  have hb2 : pz_b (pz_gt (ρ 0)) (pz_at (pz_gt (ρ 0)) (pz_gN (ρ 0)) (pz_p (pz_cf (pz_gt (ρ 0)) (pz_gN (ρ 0)) (ρ 1 / 4))) + ρ 2 / 4) = ρ 5 / 4 := by omega
  have z2 := (hb2.symm.trans z).trans (pz_getD ch)
  rw [z2] at r1
  exact r1 rfl

theorem axq_iw4_2 : ax_RO ax_wC ax_XC axu_iw4_2 := by
  intro ρ hp hE hT
  have j0 : ρ 0 % 4 = 1 := pz_gj hE 0 (by decide) rfl
  have j1 : ρ 1 % 4 = 1 := pz_gj hE 1 (by decide) rfl
  obtain ⟨i2a, i2b, i2c, i2d⟩ := pz_gi hE 2 2147483648 2147483651 (by decide) rfl
  obtain ⟨i3a, i3b, i3c, i3d⟩ := pz_gi hE 3 0 4294967295 (by decide) rfl
  obtain ⟨i4a, i4b, i4c, i4d⟩ := pz_gi hE 4 2147483648 2147484448 (by decide) rfl
  obtain ⟨i5a, i5b, i5c, i5d⟩ := pz_gi hE 5 0 4294967295 (by decide) rfl
  obtain ⟨i6a, i6b, i6c, i6d⟩ := pz_gi hE 6 2147483520 2147483775 (by decide) rfl
  obtain ⟨i7a, i7b, i7c, i7d⟩ := pz_gi hE 7 2147483648 2147483903 (by decide) rfl
  have s1 : (ρ 2 / 4 + 2147483648) % 4294967296 + (4 / 4 + 2147483648) % 4294967296 = (ρ 3 / 4 + 2147483648) % 4294967296 + 2147483648 := pz_gs hE 11 4 15 (by decide)
  have c_place : ay_at hp 8 6 = some (ρ 4) := ay_gfj hE 42 24 19 8 6 (by decide) (by rw [ax_vl_c (by decide)]) (by rw [ax_vl_c (by decide)])
  have s2 : (ρ 4 / 4 + 2147483648) % 4294967296 + (ρ 2 / 4 + 2147483648) % 4294967296 = (ρ 5 / 4 + 2147483648) % 4294967296 + 2147483648 := pz_gs hE 19 11 23 (by decide)
  have c_tape : ay_at hp 9 (ρ 5 / 4) = some (ρ 6) := ay_gf hE 46 23 27 9 (by decide) (by rw [ax_vl_c (by decide)])
  have r1 : (ρ 6 / 4 + 2147483648) % 4294967296 = (ρ 7 / 4 + 2147483648) % 4294967296 := pz_gc hE 0 27 31 (by decide) (by decide)
  obtain ⟨-, -, F30⟩ : ay_ex hp 8 ∧ ay_ex hp 9 ∧ pz_x30 (ρ 0) (ay_at hp 8 1) (ay_at hp 9) := (ax_XF_lt (by decide)).mp (ax_gx hE (30, [3]) (by decide))
  obtain ⟨-, -, -, -, F50⟩ : ay_ex hp 8 ∧ ay_ex hp 10 ∧ ay_ex hp 11 ∧ ay_ex hp 12 ∧ pz_x50 (ρ 0) (ρ 1) (ay_at hp 8 5) (ay_at hp 8 6) (ay_at hp 8 7) (ay_at hp 8 8) (ay_at hp 10 0) (ay_at hp 10 1) (ay_at hp 10 2) (ay_at hp 10 3) (ay_at hp 10 4) (ay_at hp 8 9) (ay_at hp 8 11) (ay_at hp 8 10) (ay_at hp 8 3) (ay_at hp 8 4) (ay_at hp 11) (ay_at hp 12) := (ax_XF_lt (by decide)).mp (ax_gx hE (50, [3, 7]) (by decide))
  rw [c_place] at F50
  have F62 : pz_x62 (ρ 0) (ρ 1) (4010) (ρ 2) := (ax_XF_lt (by decide)).mp (ax_gx hE (62, [3, 7, 4010, 11]) (by decide))
  refine ⟨(fun y hy => by cases hy), _, List.mem_cons_self, ρ, fun _ _ => rfl, ax_px hE (by decide) (fun y hy => ?_)⟩
  cases List.mem_singleton.mp hy
  refine (ax_XF_lt (x := 62) (by decide)).mpr ?_
  show pz_x62 (ρ 0) (ρ 1) (4010) (ρ 3)
  have ch := pz_chr (v := 4010) (i := ρ 2) (z := ρ 7) (l := [114, 111, 111, 116]) (by decide +kernel) (pz_g42 hE 4010 11 31 (by decide))
  have ep : ρ 4 / 4 = pz_at (pz_gt (ρ 0)) (pz_gN (ρ 0)) (pz_p (pz_cf (pz_gt (ρ 0)) (pz_gN (ρ 0)) (ρ 1 / 4))) := F50.2.1
  have hw : pz_at (pz_gt (ρ 0)) (pz_gN (ρ 0)) (pz_p (pz_cf (pz_gt (ρ 0)) (pz_gN (ρ 0)) (ρ 1 / 4))) < pz_gN (ρ 0) ∧ pz_nx (pz_gt (ρ 0)) (pz_gN (ρ 0)) (pz_p (pz_cf (pz_gt (ρ 0)) (pz_gN (ρ 0)) (ρ 1 / 4))) ≤ pz_gN (ρ 0) := pz_wd_le F62.1
  have hln : pz_nx (pz_gt (ρ 0)) (pz_gN (ρ 0)) (pz_p (pz_cf (pz_gt (ρ 0)) (pz_gN (ρ 0)) (ρ 1 / 4))) - pz_at (pz_gt (ρ 0)) (pz_gN (ρ 0)) (pz_p (pz_cf (pz_gt (ρ 0)) (pz_gN (ρ 0)) (ρ 1 / 4))) = 4 := F62.2.1
  have hi1 : ρ 2 / 4 < 4 := by omega
  have ha1 : ρ 4 / 4 ≤ 800 := by omega
  have hq1 : ρ 5 / 4 = ρ 4 / 4 + ρ 2 / 4 := by omega
  have hb := F30.2.2 (ρ 5 / 4) (by have := hw.2; omega)
  rw [c_tape] at hb
  have hb := Option.some.inj hb
  rw [show ρ 5 / 4 = pz_at (pz_gt (ρ 0)) (pz_gN (ρ 0)) (pz_p (pz_cf (pz_gt (ρ 0)) (pz_gN (ρ 0)) (ρ 1 / 4))) + ρ 2 / 4 by omega] at hb
  refine ⟨F62.1, F62.2.1, fun j hj => ?_⟩
  by_cases h : j < ρ 2 / 4
  · exact F62.2.2 j h
  · have e : j = ρ 2 / 4 := by omega
    have hcc : ρ 6 / 4 = ρ 7 / 4 := by omega
    have hb2 : pz_b (pz_gt (ρ 0)) (pz_at (pz_gt (ρ 0)) (pz_gN (ρ 0)) (pz_p (pz_cf (pz_gt (ρ 0)) (pz_gN (ρ 0)) (ρ 1 / 4))) + ρ 2 / 4) = ρ 6 / 4 := by omega
    rw [e]
    refine Eq.trans ?_ (pz_getD ch).symm
    rw [← hcc]
    exact hb2

theorem axq_iw5_2 : ax_RO ax_wC ax_XC axu_iw5_2 := by
  intro ρ hp hE hT
  have j0 : ρ 0 % 4 = 1 := pz_gj hE 0 (by decide) rfl
  have j1 : ρ 1 % 4 = 1 := pz_gj hE 1 (by decide) rfl
  obtain ⟨i2a, i2b, i2c, i2d⟩ := pz_gi hE 2 2147483648 2147483651 (by decide) rfl
  obtain ⟨i3a, i3b, i3c, i3d⟩ := pz_gi hE 3 2147483648 2147484448 (by decide) rfl
  obtain ⟨i4a, i4b, i4c, i4d⟩ := pz_gi hE 4 0 4294967295 (by decide) rfl
  obtain ⟨i5a, i5b, i5c, i5d⟩ := pz_gi hE 5 2147483520 2147483775 (by decide) rfl
  obtain ⟨i6a, i6b, i6c, i6d⟩ := pz_gi hE 6 2147483648 2147483903 (by decide) rfl
  have c_place : ay_at hp 8 6 = some (ρ 3) := ay_gfj hE 42 24 15 8 6 (by decide) (by rw [ax_vl_c (by decide)]) (by rw [ax_vl_c (by decide)])
  have s1 : (ρ 3 / 4 + 2147483648) % 4294967296 + (ρ 2 / 4 + 2147483648) % 4294967296 = (ρ 4 / 4 + 2147483648) % 4294967296 + 2147483648 := pz_gs hE 15 11 19 (by decide)
  have c_tape : ay_at hp 9 (ρ 4 / 4) = some (ρ 5) := ay_gf hE 46 19 23 9 (by decide) (by rw [ax_vl_c (by decide)])
  have r1 : (ρ 5 / 4 + 2147483648) % 4294967296 ≠ (ρ 6 / 4 + 2147483648) % 4294967296 := pz_gc hE 1 23 27 (by decide) (by decide)
  obtain ⟨-, -, F30⟩ : ay_ex hp 8 ∧ ay_ex hp 9 ∧ pz_x30 (ρ 0) (ay_at hp 8 1) (ay_at hp 9) := (ax_XF_lt (by decide)).mp (ax_gx hE (30, [3]) (by decide))
  obtain ⟨-, -, -, -, F50⟩ : ay_ex hp 8 ∧ ay_ex hp 10 ∧ ay_ex hp 11 ∧ ay_ex hp 12 ∧ pz_x50 (ρ 0) (ρ 1) (ay_at hp 8 5) (ay_at hp 8 6) (ay_at hp 8 7) (ay_at hp 8 8) (ay_at hp 10 0) (ay_at hp 10 1) (ay_at hp 10 2) (ay_at hp 10 3) (ay_at hp 10 4) (ay_at hp 8 9) (ay_at hp 8 11) (ay_at hp 8 10) (ay_at hp 8 3) (ay_at hp 8 4) (ay_at hp 11) (ay_at hp 12) := (ax_XF_lt (by decide)).mp (ax_gx hE (50, [3, 7]) (by decide))
  rw [c_place] at F50
  have F62 : pz_x62 (ρ 0) (ρ 1) (4010) (ρ 2) := (ax_XF_lt (by decide)).mp (ax_gx hE (62, [3, 7, 4010, 11]) (by decide))
  refine ⟨(fun y hy => by cases hy), _, List.mem_cons_self, ρ, fun _ _ => rfl, ax_px hE (by decide) (fun y hy => ?_)⟩
  cases List.mem_singleton.mp hy
  refine (ax_XF_lt (x := 61) (by decide)).mpr ?_
  show pz61 (pz_gt (ρ 0)) (pz_gN (ρ 0)) ((ρ 1) / 4) ((4010) / 4 - 1000)
  have ch := pz_chr (v := 4010) (i := ρ 2) (z := ρ 6) (l := [114, 111, 111, 116]) (by decide +kernel) (pz_g42 hE 4010 11 27 (by decide))
  have ep : ρ 3 / 4 = pz_at (pz_gt (ρ 0)) (pz_gN (ρ 0)) (pz_p (pz_cf (pz_gt (ρ 0)) (pz_gN (ρ 0)) (ρ 1 / 4))) := F50.2.1
  have hw : pz_at (pz_gt (ρ 0)) (pz_gN (ρ 0)) (pz_p (pz_cf (pz_gt (ρ 0)) (pz_gN (ρ 0)) (ρ 1 / 4))) < pz_gN (ρ 0) ∧ pz_nx (pz_gt (ρ 0)) (pz_gN (ρ 0)) (pz_p (pz_cf (pz_gt (ρ 0)) (pz_gN (ρ 0)) (ρ 1 / 4))) ≤ pz_gN (ρ 0) := pz_wd_le F62.1
  have hln : pz_nx (pz_gt (ρ 0)) (pz_gN (ρ 0)) (pz_p (pz_cf (pz_gt (ρ 0)) (pz_gN (ρ 0)) (ρ 1 / 4))) - pz_at (pz_gt (ρ 0)) (pz_gN (ρ 0)) (pz_p (pz_cf (pz_gt (ρ 0)) (pz_gN (ρ 0)) (ρ 1 / 4))) = 4 := F62.2.1
  have hi1 : ρ 2 / 4 < 4 := by omega
  have ha1 : ρ 3 / 4 ≤ 800 := by omega
  have hq1 : ρ 4 / 4 = ρ 3 / 4 + ρ 2 / 4 := by omega
  have hb := F30.2.2 (ρ 4 / 4) (by have := hw.2; omega)
  rw [c_tape] at hb
  have hb := Option.some.inj hb
  rw [show ρ 4 / 4 = pz_at (pz_gt (ρ 0)) (pz_gN (ρ 0)) (pz_p (pz_cf (pz_gt (ρ 0)) (pz_gN (ρ 0)) (ρ 1 / 4))) + ρ 2 / 4 by omega] at hb
  refine pz_is_no (Or.inr (Or.inr ⟨ρ 2 / 4, show ρ 2 / 4 < 4 by omega, fun z => ?_⟩))
  have hb2 : pz_b (pz_gt (ρ 0)) (pz_at (pz_gt (ρ 0)) (pz_gN (ρ 0)) (pz_p (pz_cf (pz_gt (ρ 0)) (pz_gN (ρ 0)) (ρ 1 / 4))) + ρ 2 / 4) = ρ 5 / 4 := by omega
  have z2 := (hb2.symm.trans z).trans (pz_getD ch)
  rw [z2] at r1
  exact r1 rfl

theorem axq_iw4_3 : ax_RO ax_wC ax_XC axu_iw4_3 := by
  intro ρ hp hE hT
  have j0 : ρ 0 % 4 = 1 := pz_gj hE 0 (by decide) rfl
  have j1 : ρ 1 % 4 = 1 := pz_gj hE 1 (by decide) rfl
  obtain ⟨i2a, i2b, i2c, i2d⟩ := pz_gi hE 2 2147483648 2147483651 (by decide) rfl
  obtain ⟨i3a, i3b, i3c, i3d⟩ := pz_gi hE 3 0 4294967295 (by decide) rfl
  obtain ⟨i4a, i4b, i4c, i4d⟩ := pz_gi hE 4 2147483648 2147484448 (by decide) rfl
  obtain ⟨i5a, i5b, i5c, i5d⟩ := pz_gi hE 5 0 4294967295 (by decide) rfl
  obtain ⟨i6a, i6b, i6c, i6d⟩ := pz_gi hE 6 2147483520 2147483775 (by decide) rfl
  obtain ⟨i7a, i7b, i7c, i7d⟩ := pz_gi hE 7 2147483648 2147483903 (by decide) rfl
  have s1 : (ρ 2 / 4 + 2147483648) % 4294967296 + (4 / 4 + 2147483648) % 4294967296 = (ρ 3 / 4 + 2147483648) % 4294967296 + 2147483648 := pz_gs hE 11 4 15 (by decide)
  have c_place : ay_at hp 8 6 = some (ρ 4) := ay_gfj hE 42 24 19 8 6 (by decide) (by rw [ax_vl_c (by decide)]) (by rw [ax_vl_c (by decide)])
  have s2 : (ρ 4 / 4 + 2147483648) % 4294967296 + (ρ 2 / 4 + 2147483648) % 4294967296 = (ρ 5 / 4 + 2147483648) % 4294967296 + 2147483648 := pz_gs hE 19 11 23 (by decide)
  have c_tape : ay_at hp 9 (ρ 5 / 4) = some (ρ 6) := ay_gf hE 46 23 27 9 (by decide) (by rw [ax_vl_c (by decide)])
  have r1 : (ρ 6 / 4 + 2147483648) % 4294967296 = (ρ 7 / 4 + 2147483648) % 4294967296 := pz_gc hE 0 27 31 (by decide) (by decide)
  obtain ⟨-, -, F30⟩ : ay_ex hp 8 ∧ ay_ex hp 9 ∧ pz_x30 (ρ 0) (ay_at hp 8 1) (ay_at hp 9) := (ax_XF_lt (by decide)).mp (ax_gx hE (30, [3]) (by decide))
  obtain ⟨-, -, -, -, F50⟩ : ay_ex hp 8 ∧ ay_ex hp 10 ∧ ay_ex hp 11 ∧ ay_ex hp 12 ∧ pz_x50 (ρ 0) (ρ 1) (ay_at hp 8 5) (ay_at hp 8 6) (ay_at hp 8 7) (ay_at hp 8 8) (ay_at hp 10 0) (ay_at hp 10 1) (ay_at hp 10 2) (ay_at hp 10 3) (ay_at hp 10 4) (ay_at hp 8 9) (ay_at hp 8 11) (ay_at hp 8 10) (ay_at hp 8 3) (ay_at hp 8 4) (ay_at hp 11) (ay_at hp 12) := (ax_XF_lt (by decide)).mp (ax_gx hE (50, [3, 7]) (by decide))
  rw [c_place] at F50
  have F62 : pz_x62 (ρ 0) (ρ 1) (4014) (ρ 2) := (ax_XF_lt (by decide)).mp (ax_gx hE (62, [3, 7, 4014, 11]) (by decide))
  refine ⟨(fun y hy => by cases hy), _, List.mem_cons_self, ρ, fun _ _ => rfl, ax_px hE (by decide) (fun y hy => ?_)⟩
  cases List.mem_singleton.mp hy
  refine (ax_XF_lt (x := 62) (by decide)).mpr ?_
  show pz_x62 (ρ 0) (ρ 1) (4014) (ρ 3)
  have ch := pz_chr (v := 4014) (i := ρ 2) (z := ρ 7) (l := [114, 111, 111, 109]) (by decide +kernel) (pz_g42 hE 4014 11 31 (by decide))
  have ep : ρ 4 / 4 = pz_at (pz_gt (ρ 0)) (pz_gN (ρ 0)) (pz_p (pz_cf (pz_gt (ρ 0)) (pz_gN (ρ 0)) (ρ 1 / 4))) := F50.2.1
  have hw : pz_at (pz_gt (ρ 0)) (pz_gN (ρ 0)) (pz_p (pz_cf (pz_gt (ρ 0)) (pz_gN (ρ 0)) (ρ 1 / 4))) < pz_gN (ρ 0) ∧ pz_nx (pz_gt (ρ 0)) (pz_gN (ρ 0)) (pz_p (pz_cf (pz_gt (ρ 0)) (pz_gN (ρ 0)) (ρ 1 / 4))) ≤ pz_gN (ρ 0) := pz_wd_le F62.1
  have hln : pz_nx (pz_gt (ρ 0)) (pz_gN (ρ 0)) (pz_p (pz_cf (pz_gt (ρ 0)) (pz_gN (ρ 0)) (ρ 1 / 4))) - pz_at (pz_gt (ρ 0)) (pz_gN (ρ 0)) (pz_p (pz_cf (pz_gt (ρ 0)) (pz_gN (ρ 0)) (ρ 1 / 4))) = 4 := F62.2.1
  have hi1 : ρ 2 / 4 < 4 := by omega
  have ha1 : ρ 4 / 4 ≤ 800 := by omega
  have hq1 : ρ 5 / 4 = ρ 4 / 4 + ρ 2 / 4 := by omega
  have hb := F30.2.2 (ρ 5 / 4) (by have := hw.2; omega)
  rw [c_tape] at hb
  have hb := Option.some.inj hb
  rw [show ρ 5 / 4 = pz_at (pz_gt (ρ 0)) (pz_gN (ρ 0)) (pz_p (pz_cf (pz_gt (ρ 0)) (pz_gN (ρ 0)) (ρ 1 / 4))) + ρ 2 / 4 by omega] at hb
  refine ⟨F62.1, F62.2.1, fun j hj => ?_⟩
  by_cases h : j < ρ 2 / 4
  · exact F62.2.2 j h
  · have e : j = ρ 2 / 4 := by omega
    have hcc : ρ 6 / 4 = ρ 7 / 4 := by omega
    have hb2 : pz_b (pz_gt (ρ 0)) (pz_at (pz_gt (ρ 0)) (pz_gN (ρ 0)) (pz_p (pz_cf (pz_gt (ρ 0)) (pz_gN (ρ 0)) (ρ 1 / 4))) + ρ 2 / 4) = ρ 6 / 4 := by omega
    rw [e]
    refine Eq.trans ?_ (pz_getD ch).symm
    rw [← hcc]
    exact hb2

theorem axq_iw5_3 : ax_RO ax_wC ax_XC axu_iw5_3 := by
  intro ρ hp hE hT
  have j0 : ρ 0 % 4 = 1 := pz_gj hE 0 (by decide) rfl
  have j1 : ρ 1 % 4 = 1 := pz_gj hE 1 (by decide) rfl
  obtain ⟨i2a, i2b, i2c, i2d⟩ := pz_gi hE 2 2147483648 2147483651 (by decide) rfl
  obtain ⟨i3a, i3b, i3c, i3d⟩ := pz_gi hE 3 2147483648 2147484448 (by decide) rfl
  obtain ⟨i4a, i4b, i4c, i4d⟩ := pz_gi hE 4 0 4294967295 (by decide) rfl
  obtain ⟨i5a, i5b, i5c, i5d⟩ := pz_gi hE 5 2147483520 2147483775 (by decide) rfl
  obtain ⟨i6a, i6b, i6c, i6d⟩ := pz_gi hE 6 2147483648 2147483903 (by decide) rfl
  have c_place : ay_at hp 8 6 = some (ρ 3) := ay_gfj hE 42 24 15 8 6 (by decide) (by rw [ax_vl_c (by decide)]) (by rw [ax_vl_c (by decide)])
  have s1 : (ρ 3 / 4 + 2147483648) % 4294967296 + (ρ 2 / 4 + 2147483648) % 4294967296 = (ρ 4 / 4 + 2147483648) % 4294967296 + 2147483648 := pz_gs hE 15 11 19 (by decide)
  have c_tape : ay_at hp 9 (ρ 4 / 4) = some (ρ 5) := ay_gf hE 46 19 23 9 (by decide) (by rw [ax_vl_c (by decide)])
  have r1 : (ρ 5 / 4 + 2147483648) % 4294967296 ≠ (ρ 6 / 4 + 2147483648) % 4294967296 := pz_gc hE 1 23 27 (by decide) (by decide)
  obtain ⟨-, -, F30⟩ : ay_ex hp 8 ∧ ay_ex hp 9 ∧ pz_x30 (ρ 0) (ay_at hp 8 1) (ay_at hp 9) := (ax_XF_lt (by decide)).mp (ax_gx hE (30, [3]) (by decide))
  obtain ⟨-, -, -, -, F50⟩ : ay_ex hp 8 ∧ ay_ex hp 10 ∧ ay_ex hp 11 ∧ ay_ex hp 12 ∧ pz_x50 (ρ 0) (ρ 1) (ay_at hp 8 5) (ay_at hp 8 6) (ay_at hp 8 7) (ay_at hp 8 8) (ay_at hp 10 0) (ay_at hp 10 1) (ay_at hp 10 2) (ay_at hp 10 3) (ay_at hp 10 4) (ay_at hp 8 9) (ay_at hp 8 11) (ay_at hp 8 10) (ay_at hp 8 3) (ay_at hp 8 4) (ay_at hp 11) (ay_at hp 12) := (ax_XF_lt (by decide)).mp (ax_gx hE (50, [3, 7]) (by decide))
  rw [c_place] at F50
  have F62 : pz_x62 (ρ 0) (ρ 1) (4014) (ρ 2) := (ax_XF_lt (by decide)).mp (ax_gx hE (62, [3, 7, 4014, 11]) (by decide))
  refine ⟨(fun y hy => by cases hy), _, List.mem_cons_self, ρ, fun _ _ => rfl, ax_px hE (by decide) (fun y hy => ?_)⟩
  cases List.mem_singleton.mp hy
  refine (ax_XF_lt (x := 61) (by decide)).mpr ?_
  show pz61 (pz_gt (ρ 0)) (pz_gN (ρ 0)) ((ρ 1) / 4) ((4014) / 4 - 1000)
  have ch := pz_chr (v := 4014) (i := ρ 2) (z := ρ 6) (l := [114, 111, 111, 109]) (by decide +kernel) (pz_g42 hE 4014 11 27 (by decide))
  have ep : ρ 3 / 4 = pz_at (pz_gt (ρ 0)) (pz_gN (ρ 0)) (pz_p (pz_cf (pz_gt (ρ 0)) (pz_gN (ρ 0)) (ρ 1 / 4))) := F50.2.1
  have hw : pz_at (pz_gt (ρ 0)) (pz_gN (ρ 0)) (pz_p (pz_cf (pz_gt (ρ 0)) (pz_gN (ρ 0)) (ρ 1 / 4))) < pz_gN (ρ 0) ∧ pz_nx (pz_gt (ρ 0)) (pz_gN (ρ 0)) (pz_p (pz_cf (pz_gt (ρ 0)) (pz_gN (ρ 0)) (ρ 1 / 4))) ≤ pz_gN (ρ 0) := pz_wd_le F62.1
  have hln : pz_nx (pz_gt (ρ 0)) (pz_gN (ρ 0)) (pz_p (pz_cf (pz_gt (ρ 0)) (pz_gN (ρ 0)) (ρ 1 / 4))) - pz_at (pz_gt (ρ 0)) (pz_gN (ρ 0)) (pz_p (pz_cf (pz_gt (ρ 0)) (pz_gN (ρ 0)) (ρ 1 / 4))) = 4 := F62.2.1
  have hi1 : ρ 2 / 4 < 4 := by omega
  have ha1 : ρ 3 / 4 ≤ 800 := by omega
  have hq1 : ρ 4 / 4 = ρ 3 / 4 + ρ 2 / 4 := by omega
  have hb := F30.2.2 (ρ 4 / 4) (by have := hw.2; omega)
  rw [c_tape] at hb
  have hb := Option.some.inj hb
  rw [show ρ 4 / 4 = pz_at (pz_gt (ρ 0)) (pz_gN (ρ 0)) (pz_p (pz_cf (pz_gt (ρ 0)) (pz_gN (ρ 0)) (ρ 1 / 4))) + ρ 2 / 4 by omega] at hb
  refine pz_is_no (Or.inr (Or.inr ⟨ρ 2 / 4, show ρ 2 / 4 < 4 by omega, fun z => ?_⟩))
  have hb2 : pz_b (pz_gt (ρ 0)) (pz_at (pz_gt (ρ 0)) (pz_gN (ρ 0)) (pz_p (pz_cf (pz_gt (ρ 0)) (pz_gN (ρ 0)) (ρ 1 / 4))) + ρ 2 / 4) = ρ 5 / 4 := by omega
  have z2 := (hb2.symm.trans z).trans (pz_getD ch)
  rw [z2] at r1
  exact r1 rfl

theorem axq_iw4_4 : ax_RO ax_wC ax_XC axu_iw4_4 := by
  intro ρ hp hE hT
  have j0 : ρ 0 % 4 = 1 := pz_gj hE 0 (by decide) rfl
  have j1 : ρ 1 % 4 = 1 := pz_gj hE 1 (by decide) rfl
  obtain ⟨i2a, i2b, i2c, i2d⟩ := pz_gi hE 2 2147483648 2147483651 (by decide) rfl
  obtain ⟨i3a, i3b, i3c, i3d⟩ := pz_gi hE 3 0 4294967295 (by decide) rfl
  obtain ⟨i4a, i4b, i4c, i4d⟩ := pz_gi hE 4 2147483648 2147484448 (by decide) rfl
  obtain ⟨i5a, i5b, i5c, i5d⟩ := pz_gi hE 5 0 4294967295 (by decide) rfl
  obtain ⟨i6a, i6b, i6c, i6d⟩ := pz_gi hE 6 2147483520 2147483775 (by decide) rfl
  obtain ⟨i7a, i7b, i7c, i7d⟩ := pz_gi hE 7 2147483648 2147483903 (by decide) rfl
  have s1 : (ρ 2 / 4 + 2147483648) % 4294967296 + (4 / 4 + 2147483648) % 4294967296 = (ρ 3 / 4 + 2147483648) % 4294967296 + 2147483648 := pz_gs hE 11 4 15 (by decide)
  have c_place : ay_at hp 8 6 = some (ρ 4) := ay_gfj hE 42 24 19 8 6 (by decide) (by rw [ax_vl_c (by decide)]) (by rw [ax_vl_c (by decide)])
  have s2 : (ρ 4 / 4 + 2147483648) % 4294967296 + (ρ 2 / 4 + 2147483648) % 4294967296 = (ρ 5 / 4 + 2147483648) % 4294967296 + 2147483648 := pz_gs hE 19 11 23 (by decide)
  have c_tape : ay_at hp 9 (ρ 5 / 4) = some (ρ 6) := ay_gf hE 46 23 27 9 (by decide) (by rw [ax_vl_c (by decide)])
  have r1 : (ρ 6 / 4 + 2147483648) % 4294967296 = (ρ 7 / 4 + 2147483648) % 4294967296 := pz_gc hE 0 27 31 (by decide) (by decide)
  obtain ⟨-, -, F30⟩ : ay_ex hp 8 ∧ ay_ex hp 9 ∧ pz_x30 (ρ 0) (ay_at hp 8 1) (ay_at hp 9) := (ax_XF_lt (by decide)).mp (ax_gx hE (30, [3]) (by decide))
  obtain ⟨-, -, -, -, F50⟩ : ay_ex hp 8 ∧ ay_ex hp 10 ∧ ay_ex hp 11 ∧ ay_ex hp 12 ∧ pz_x50 (ρ 0) (ρ 1) (ay_at hp 8 5) (ay_at hp 8 6) (ay_at hp 8 7) (ay_at hp 8 8) (ay_at hp 10 0) (ay_at hp 10 1) (ay_at hp 10 2) (ay_at hp 10 3) (ay_at hp 10 4) (ay_at hp 8 9) (ay_at hp 8 11) (ay_at hp 8 10) (ay_at hp 8 3) (ay_at hp 8 4) (ay_at hp 11) (ay_at hp 12) := (ax_XF_lt (by decide)).mp (ax_gx hE (50, [3, 7]) (by decide))
  rw [c_place] at F50
  have F62 : pz_x62 (ρ 0) (ρ 1) (4018) (ρ 2) := (ax_XF_lt (by decide)).mp (ax_gx hE (62, [3, 7, 4018, 11]) (by decide))
  refine ⟨(fun y hy => by cases hy), _, List.mem_cons_self, ρ, fun _ _ => rfl, ax_px hE (by decide) (fun y hy => ?_)⟩
  cases List.mem_singleton.mp hy
  refine (ax_XF_lt (x := 62) (by decide)).mpr ?_
  show pz_x62 (ρ 0) (ρ 1) (4018) (ρ 3)
  have ch := pz_chr (v := 4018) (i := ρ 2) (z := ρ 7) (l := [114, 97, 110, 107]) (by decide +kernel) (pz_g42 hE 4018 11 31 (by decide))
  have ep : ρ 4 / 4 = pz_at (pz_gt (ρ 0)) (pz_gN (ρ 0)) (pz_p (pz_cf (pz_gt (ρ 0)) (pz_gN (ρ 0)) (ρ 1 / 4))) := F50.2.1
  have hw : pz_at (pz_gt (ρ 0)) (pz_gN (ρ 0)) (pz_p (pz_cf (pz_gt (ρ 0)) (pz_gN (ρ 0)) (ρ 1 / 4))) < pz_gN (ρ 0) ∧ pz_nx (pz_gt (ρ 0)) (pz_gN (ρ 0)) (pz_p (pz_cf (pz_gt (ρ 0)) (pz_gN (ρ 0)) (ρ 1 / 4))) ≤ pz_gN (ρ 0) := pz_wd_le F62.1
  have hln : pz_nx (pz_gt (ρ 0)) (pz_gN (ρ 0)) (pz_p (pz_cf (pz_gt (ρ 0)) (pz_gN (ρ 0)) (ρ 1 / 4))) - pz_at (pz_gt (ρ 0)) (pz_gN (ρ 0)) (pz_p (pz_cf (pz_gt (ρ 0)) (pz_gN (ρ 0)) (ρ 1 / 4))) = 4 := F62.2.1
  have hi1 : ρ 2 / 4 < 4 := by omega
  have ha1 : ρ 4 / 4 ≤ 800 := by omega
  have hq1 : ρ 5 / 4 = ρ 4 / 4 + ρ 2 / 4 := by omega
  have hb := F30.2.2 (ρ 5 / 4) (by have := hw.2; omega)
  rw [c_tape] at hb
  have hb := Option.some.inj hb
  rw [show ρ 5 / 4 = pz_at (pz_gt (ρ 0)) (pz_gN (ρ 0)) (pz_p (pz_cf (pz_gt (ρ 0)) (pz_gN (ρ 0)) (ρ 1 / 4))) + ρ 2 / 4 by omega] at hb
  refine ⟨F62.1, F62.2.1, fun j hj => ?_⟩
  by_cases h : j < ρ 2 / 4
  · exact F62.2.2 j h
  · have e : j = ρ 2 / 4 := by omega
    have hcc : ρ 6 / 4 = ρ 7 / 4 := by omega
    have hb2 : pz_b (pz_gt (ρ 0)) (pz_at (pz_gt (ρ 0)) (pz_gN (ρ 0)) (pz_p (pz_cf (pz_gt (ρ 0)) (pz_gN (ρ 0)) (ρ 1 / 4))) + ρ 2 / 4) = ρ 6 / 4 := by omega
    rw [e]
    refine Eq.trans ?_ (pz_getD ch).symm
    rw [← hcc]
    exact hb2

theorem axq_iw5_4 : ax_RO ax_wC ax_XC axu_iw5_4 := by
  intro ρ hp hE hT
  have j0 : ρ 0 % 4 = 1 := pz_gj hE 0 (by decide) rfl
  have j1 : ρ 1 % 4 = 1 := pz_gj hE 1 (by decide) rfl
  obtain ⟨i2a, i2b, i2c, i2d⟩ := pz_gi hE 2 2147483648 2147483651 (by decide) rfl
  obtain ⟨i3a, i3b, i3c, i3d⟩ := pz_gi hE 3 2147483648 2147484448 (by decide) rfl
  obtain ⟨i4a, i4b, i4c, i4d⟩ := pz_gi hE 4 0 4294967295 (by decide) rfl
  obtain ⟨i5a, i5b, i5c, i5d⟩ := pz_gi hE 5 2147483520 2147483775 (by decide) rfl
  obtain ⟨i6a, i6b, i6c, i6d⟩ := pz_gi hE 6 2147483648 2147483903 (by decide) rfl
  have c_place : ay_at hp 8 6 = some (ρ 3) := ay_gfj hE 42 24 15 8 6 (by decide) (by rw [ax_vl_c (by decide)]) (by rw [ax_vl_c (by decide)])
  have s1 : (ρ 3 / 4 + 2147483648) % 4294967296 + (ρ 2 / 4 + 2147483648) % 4294967296 = (ρ 4 / 4 + 2147483648) % 4294967296 + 2147483648 := pz_gs hE 15 11 19 (by decide)
  have c_tape : ay_at hp 9 (ρ 4 / 4) = some (ρ 5) := ay_gf hE 46 19 23 9 (by decide) (by rw [ax_vl_c (by decide)])
  have r1 : (ρ 5 / 4 + 2147483648) % 4294967296 ≠ (ρ 6 / 4 + 2147483648) % 4294967296 := pz_gc hE 1 23 27 (by decide) (by decide)
  obtain ⟨-, -, F30⟩ : ay_ex hp 8 ∧ ay_ex hp 9 ∧ pz_x30 (ρ 0) (ay_at hp 8 1) (ay_at hp 9) := (ax_XF_lt (by decide)).mp (ax_gx hE (30, [3]) (by decide))
  obtain ⟨-, -, -, -, F50⟩ : ay_ex hp 8 ∧ ay_ex hp 10 ∧ ay_ex hp 11 ∧ ay_ex hp 12 ∧ pz_x50 (ρ 0) (ρ 1) (ay_at hp 8 5) (ay_at hp 8 6) (ay_at hp 8 7) (ay_at hp 8 8) (ay_at hp 10 0) (ay_at hp 10 1) (ay_at hp 10 2) (ay_at hp 10 3) (ay_at hp 10 4) (ay_at hp 8 9) (ay_at hp 8 11) (ay_at hp 8 10) (ay_at hp 8 3) (ay_at hp 8 4) (ay_at hp 11) (ay_at hp 12) := (ax_XF_lt (by decide)).mp (ax_gx hE (50, [3, 7]) (by decide))
  rw [c_place] at F50
  have F62 : pz_x62 (ρ 0) (ρ 1) (4018) (ρ 2) := (ax_XF_lt (by decide)).mp (ax_gx hE (62, [3, 7, 4018, 11]) (by decide))
  refine ⟨(fun y hy => by cases hy), _, List.mem_cons_self, ρ, fun _ _ => rfl, ax_px hE (by decide) (fun y hy => ?_)⟩
  cases List.mem_singleton.mp hy
  refine (ax_XF_lt (x := 61) (by decide)).mpr ?_
  show pz61 (pz_gt (ρ 0)) (pz_gN (ρ 0)) ((ρ 1) / 4) ((4018) / 4 - 1000)
  have ch := pz_chr (v := 4018) (i := ρ 2) (z := ρ 6) (l := [114, 97, 110, 107]) (by decide +kernel) (pz_g42 hE 4018 11 27 (by decide))
  have ep : ρ 3 / 4 = pz_at (pz_gt (ρ 0)) (pz_gN (ρ 0)) (pz_p (pz_cf (pz_gt (ρ 0)) (pz_gN (ρ 0)) (ρ 1 / 4))) := F50.2.1
  have hw : pz_at (pz_gt (ρ 0)) (pz_gN (ρ 0)) (pz_p (pz_cf (pz_gt (ρ 0)) (pz_gN (ρ 0)) (ρ 1 / 4))) < pz_gN (ρ 0) ∧ pz_nx (pz_gt (ρ 0)) (pz_gN (ρ 0)) (pz_p (pz_cf (pz_gt (ρ 0)) (pz_gN (ρ 0)) (ρ 1 / 4))) ≤ pz_gN (ρ 0) := pz_wd_le F62.1
  have hln : pz_nx (pz_gt (ρ 0)) (pz_gN (ρ 0)) (pz_p (pz_cf (pz_gt (ρ 0)) (pz_gN (ρ 0)) (ρ 1 / 4))) - pz_at (pz_gt (ρ 0)) (pz_gN (ρ 0)) (pz_p (pz_cf (pz_gt (ρ 0)) (pz_gN (ρ 0)) (ρ 1 / 4))) = 4 := F62.2.1
  have hi1 : ρ 2 / 4 < 4 := by omega
  have ha1 : ρ 3 / 4 ≤ 800 := by omega
  have hq1 : ρ 4 / 4 = ρ 3 / 4 + ρ 2 / 4 := by omega
  have hb := F30.2.2 (ρ 4 / 4) (by have := hw.2; omega)
  rw [c_tape] at hb
  have hb := Option.some.inj hb
  rw [show ρ 4 / 4 = pz_at (pz_gt (ρ 0)) (pz_gN (ρ 0)) (pz_p (pz_cf (pz_gt (ρ 0)) (pz_gN (ρ 0)) (ρ 1 / 4))) + ρ 2 / 4 by omega] at hb
  refine pz_is_no (Or.inr (Or.inr ⟨ρ 2 / 4, show ρ 2 / 4 < 4 by omega, fun z => ?_⟩))
  have hb2 : pz_b (pz_gt (ρ 0)) (pz_at (pz_gt (ρ 0)) (pz_gN (ρ 0)) (pz_p (pz_cf (pz_gt (ρ 0)) (pz_gN (ρ 0)) (ρ 1 / 4))) + ρ 2 / 4) = ρ 5 / 4 := by omega
  have z2 := (hb2.symm.trans z).trans (pz_getD ch)
  rw [z2] at r1
  exact r1 rfl

theorem axq_iw4_5 : ax_RO ax_wC ax_XC axu_iw4_5 := by
  intro ρ hp hE hT
  have j0 : ρ 0 % 4 = 1 := pz_gj hE 0 (by decide) rfl
  have j1 : ρ 1 % 4 = 1 := pz_gj hE 1 (by decide) rfl
  obtain ⟨i2a, i2b, i2c, i2d⟩ := pz_gi hE 2 2147483648 2147483650 (by decide) rfl
  obtain ⟨i3a, i3b, i3c, i3d⟩ := pz_gi hE 3 0 4294967295 (by decide) rfl
  obtain ⟨i4a, i4b, i4c, i4d⟩ := pz_gi hE 4 2147483648 2147484448 (by decide) rfl
  obtain ⟨i5a, i5b, i5c, i5d⟩ := pz_gi hE 5 0 4294967295 (by decide) rfl
  obtain ⟨i6a, i6b, i6c, i6d⟩ := pz_gi hE 6 2147483520 2147483775 (by decide) rfl
  obtain ⟨i7a, i7b, i7c, i7d⟩ := pz_gi hE 7 2147483648 2147483903 (by decide) rfl
  have s1 : (ρ 2 / 4 + 2147483648) % 4294967296 + (4 / 4 + 2147483648) % 4294967296 = (ρ 3 / 4 + 2147483648) % 4294967296 + 2147483648 := pz_gs hE 11 4 15 (by decide)
  have c_place : ay_at hp 8 6 = some (ρ 4) := ay_gfj hE 42 24 19 8 6 (by decide) (by rw [ax_vl_c (by decide)]) (by rw [ax_vl_c (by decide)])
  have s2 : (ρ 4 / 4 + 2147483648) % 4294967296 + (ρ 2 / 4 + 2147483648) % 4294967296 = (ρ 5 / 4 + 2147483648) % 4294967296 + 2147483648 := pz_gs hE 19 11 23 (by decide)
  have c_tape : ay_at hp 9 (ρ 5 / 4) = some (ρ 6) := ay_gf hE 46 23 27 9 (by decide) (by rw [ax_vl_c (by decide)])
  have r1 : (ρ 6 / 4 + 2147483648) % 4294967296 = (ρ 7 / 4 + 2147483648) % 4294967296 := pz_gc hE 0 27 31 (by decide) (by decide)
  obtain ⟨-, -, F30⟩ : ay_ex hp 8 ∧ ay_ex hp 9 ∧ pz_x30 (ρ 0) (ay_at hp 8 1) (ay_at hp 9) := (ax_XF_lt (by decide)).mp (ax_gx hE (30, [3]) (by decide))
  obtain ⟨-, -, -, -, F50⟩ : ay_ex hp 8 ∧ ay_ex hp 10 ∧ ay_ex hp 11 ∧ ay_ex hp 12 ∧ pz_x50 (ρ 0) (ρ 1) (ay_at hp 8 5) (ay_at hp 8 6) (ay_at hp 8 7) (ay_at hp 8 8) (ay_at hp 10 0) (ay_at hp 10 1) (ay_at hp 10 2) (ay_at hp 10 3) (ay_at hp 10 4) (ay_at hp 8 9) (ay_at hp 8 11) (ay_at hp 8 10) (ay_at hp 8 3) (ay_at hp 8 4) (ay_at hp 11) (ay_at hp 12) := (ax_XF_lt (by decide)).mp (ax_gx hE (50, [3, 7]) (by decide))
  rw [c_place] at F50
  have F62 : pz_x62 (ρ 0) (ρ 1) (4022) (ρ 2) := (ax_XF_lt (by decide)).mp (ax_gx hE (62, [3, 7, 4022, 11]) (by decide))
  refine ⟨(fun y hy => by cases hy), _, List.mem_cons_self, ρ, fun _ _ => rfl, ax_px hE (by decide) (fun y hy => ?_)⟩
  cases List.mem_singleton.mp hy
  refine (ax_XF_lt (x := 62) (by decide)).mpr ?_
  show pz_x62 (ρ 0) (ρ 1) (4022) (ρ 3)
  have ch := pz_chr (v := 4022) (i := ρ 2) (z := ρ 7) (l := [102, 97, 114]) (by decide +kernel) (pz_g42 hE 4022 11 31 (by decide))
  have ep : ρ 4 / 4 = pz_at (pz_gt (ρ 0)) (pz_gN (ρ 0)) (pz_p (pz_cf (pz_gt (ρ 0)) (pz_gN (ρ 0)) (ρ 1 / 4))) := F50.2.1
  have hw : pz_at (pz_gt (ρ 0)) (pz_gN (ρ 0)) (pz_p (pz_cf (pz_gt (ρ 0)) (pz_gN (ρ 0)) (ρ 1 / 4))) < pz_gN (ρ 0) ∧ pz_nx (pz_gt (ρ 0)) (pz_gN (ρ 0)) (pz_p (pz_cf (pz_gt (ρ 0)) (pz_gN (ρ 0)) (ρ 1 / 4))) ≤ pz_gN (ρ 0) := pz_wd_le F62.1
  have hln : pz_nx (pz_gt (ρ 0)) (pz_gN (ρ 0)) (pz_p (pz_cf (pz_gt (ρ 0)) (pz_gN (ρ 0)) (ρ 1 / 4))) - pz_at (pz_gt (ρ 0)) (pz_gN (ρ 0)) (pz_p (pz_cf (pz_gt (ρ 0)) (pz_gN (ρ 0)) (ρ 1 / 4))) = 3 := F62.2.1
  have hi1 : ρ 2 / 4 < 3 := by omega
  have ha1 : ρ 4 / 4 ≤ 800 := by omega
  have hq1 : ρ 5 / 4 = ρ 4 / 4 + ρ 2 / 4 := by omega
  have hb := F30.2.2 (ρ 5 / 4) (by have := hw.2; omega)
  rw [c_tape] at hb
  have hb := Option.some.inj hb
  rw [show ρ 5 / 4 = pz_at (pz_gt (ρ 0)) (pz_gN (ρ 0)) (pz_p (pz_cf (pz_gt (ρ 0)) (pz_gN (ρ 0)) (ρ 1 / 4))) + ρ 2 / 4 by omega] at hb
  refine ⟨F62.1, F62.2.1, fun j hj => ?_⟩
  by_cases h : j < ρ 2 / 4
  · exact F62.2.2 j h
  · have e : j = ρ 2 / 4 := by omega
    have hcc : ρ 6 / 4 = ρ 7 / 4 := by omega
    have hb2 : pz_b (pz_gt (ρ 0)) (pz_at (pz_gt (ρ 0)) (pz_gN (ρ 0)) (pz_p (pz_cf (pz_gt (ρ 0)) (pz_gN (ρ 0)) (ρ 1 / 4))) + ρ 2 / 4) = ρ 6 / 4 := by omega
    rw [e]
    refine Eq.trans ?_ (pz_getD ch).symm
    rw [← hcc]
    exact hb2

theorem axq_iw5_5 : ax_RO ax_wC ax_XC axu_iw5_5 := by
  intro ρ hp hE hT
  have j0 : ρ 0 % 4 = 1 := pz_gj hE 0 (by decide) rfl
  have j1 : ρ 1 % 4 = 1 := pz_gj hE 1 (by decide) rfl
  obtain ⟨i2a, i2b, i2c, i2d⟩ := pz_gi hE 2 2147483648 2147483650 (by decide) rfl
  obtain ⟨i3a, i3b, i3c, i3d⟩ := pz_gi hE 3 2147483648 2147484448 (by decide) rfl
  obtain ⟨i4a, i4b, i4c, i4d⟩ := pz_gi hE 4 0 4294967295 (by decide) rfl
  obtain ⟨i5a, i5b, i5c, i5d⟩ := pz_gi hE 5 2147483520 2147483775 (by decide) rfl
  obtain ⟨i6a, i6b, i6c, i6d⟩ := pz_gi hE 6 2147483648 2147483903 (by decide) rfl
  have c_place : ay_at hp 8 6 = some (ρ 3) := ay_gfj hE 42 24 15 8 6 (by decide) (by rw [ax_vl_c (by decide)]) (by rw [ax_vl_c (by decide)])
  have s1 : (ρ 3 / 4 + 2147483648) % 4294967296 + (ρ 2 / 4 + 2147483648) % 4294967296 = (ρ 4 / 4 + 2147483648) % 4294967296 + 2147483648 := pz_gs hE 15 11 19 (by decide)
  have c_tape : ay_at hp 9 (ρ 4 / 4) = some (ρ 5) := ay_gf hE 46 19 23 9 (by decide) (by rw [ax_vl_c (by decide)])
  have r1 : (ρ 5 / 4 + 2147483648) % 4294967296 ≠ (ρ 6 / 4 + 2147483648) % 4294967296 := pz_gc hE 1 23 27 (by decide) (by decide)
  obtain ⟨-, -, F30⟩ : ay_ex hp 8 ∧ ay_ex hp 9 ∧ pz_x30 (ρ 0) (ay_at hp 8 1) (ay_at hp 9) := (ax_XF_lt (by decide)).mp (ax_gx hE (30, [3]) (by decide))
  obtain ⟨-, -, -, -, F50⟩ : ay_ex hp 8 ∧ ay_ex hp 10 ∧ ay_ex hp 11 ∧ ay_ex hp 12 ∧ pz_x50 (ρ 0) (ρ 1) (ay_at hp 8 5) (ay_at hp 8 6) (ay_at hp 8 7) (ay_at hp 8 8) (ay_at hp 10 0) (ay_at hp 10 1) (ay_at hp 10 2) (ay_at hp 10 3) (ay_at hp 10 4) (ay_at hp 8 9) (ay_at hp 8 11) (ay_at hp 8 10) (ay_at hp 8 3) (ay_at hp 8 4) (ay_at hp 11) (ay_at hp 12) := (ax_XF_lt (by decide)).mp (ax_gx hE (50, [3, 7]) (by decide))
  rw [c_place] at F50
  have F62 : pz_x62 (ρ 0) (ρ 1) (4022) (ρ 2) := (ax_XF_lt (by decide)).mp (ax_gx hE (62, [3, 7, 4022, 11]) (by decide))
  refine ⟨(fun y hy => by cases hy), _, List.mem_cons_self, ρ, fun _ _ => rfl, ax_px hE (by decide) (fun y hy => ?_)⟩
  cases List.mem_singleton.mp hy
  refine (ax_XF_lt (x := 61) (by decide)).mpr ?_
  show pz61 (pz_gt (ρ 0)) (pz_gN (ρ 0)) ((ρ 1) / 4) ((4022) / 4 - 1000)
  have ch := pz_chr (v := 4022) (i := ρ 2) (z := ρ 6) (l := [102, 97, 114]) (by decide +kernel) (pz_g42 hE 4022 11 27 (by decide))
  have ep : ρ 3 / 4 = pz_at (pz_gt (ρ 0)) (pz_gN (ρ 0)) (pz_p (pz_cf (pz_gt (ρ 0)) (pz_gN (ρ 0)) (ρ 1 / 4))) := F50.2.1
  have hw : pz_at (pz_gt (ρ 0)) (pz_gN (ρ 0)) (pz_p (pz_cf (pz_gt (ρ 0)) (pz_gN (ρ 0)) (ρ 1 / 4))) < pz_gN (ρ 0) ∧ pz_nx (pz_gt (ρ 0)) (pz_gN (ρ 0)) (pz_p (pz_cf (pz_gt (ρ 0)) (pz_gN (ρ 0)) (ρ 1 / 4))) ≤ pz_gN (ρ 0) := pz_wd_le F62.1
  have hln : pz_nx (pz_gt (ρ 0)) (pz_gN (ρ 0)) (pz_p (pz_cf (pz_gt (ρ 0)) (pz_gN (ρ 0)) (ρ 1 / 4))) - pz_at (pz_gt (ρ 0)) (pz_gN (ρ 0)) (pz_p (pz_cf (pz_gt (ρ 0)) (pz_gN (ρ 0)) (ρ 1 / 4))) = 3 := F62.2.1
  have hi1 : ρ 2 / 4 < 3 := by omega
  have ha1 : ρ 3 / 4 ≤ 800 := by omega
  have hq1 : ρ 4 / 4 = ρ 3 / 4 + ρ 2 / 4 := by omega
  have hb := F30.2.2 (ρ 4 / 4) (by have := hw.2; omega)
  rw [c_tape] at hb
  have hb := Option.some.inj hb
  rw [show ρ 4 / 4 = pz_at (pz_gt (ρ 0)) (pz_gN (ρ 0)) (pz_p (pz_cf (pz_gt (ρ 0)) (pz_gN (ρ 0)) (ρ 1 / 4))) + ρ 2 / 4 by omega] at hb
  refine pz_is_no (Or.inr (Or.inr ⟨ρ 2 / 4, show ρ 2 / 4 < 3 by omega, fun z => ?_⟩))
  have hb2 : pz_b (pz_gt (ρ 0)) (pz_at (pz_gt (ρ 0)) (pz_gN (ρ 0)) (pz_p (pz_cf (pz_gt (ρ 0)) (pz_gN (ρ 0)) (ρ 1 / 4))) + ρ 2 / 4) = ρ 5 / 4 := by omega
  have z2 := (hb2.symm.trans z).trans (pz_getD ch)
  rw [z2] at r1
  exact r1 rfl

theorem axq_iw4_6 : ax_RO ax_wC ax_XC axu_iw4_6 := by
  intro ρ hp hE hT
  have j0 : ρ 0 % 4 = 1 := pz_gj hE 0 (by decide) rfl
  have j1 : ρ 1 % 4 = 1 := pz_gj hE 1 (by decide) rfl
  obtain ⟨i2a, i2b, i2c, i2d⟩ := pz_gi hE 2 2147483648 2147483653 (by decide) rfl
  obtain ⟨i3a, i3b, i3c, i3d⟩ := pz_gi hE 3 0 4294967295 (by decide) rfl
  obtain ⟨i4a, i4b, i4c, i4d⟩ := pz_gi hE 4 2147483648 2147484448 (by decide) rfl
  obtain ⟨i5a, i5b, i5c, i5d⟩ := pz_gi hE 5 0 4294967295 (by decide) rfl
  obtain ⟨i6a, i6b, i6c, i6d⟩ := pz_gi hE 6 2147483520 2147483775 (by decide) rfl
  obtain ⟨i7a, i7b, i7c, i7d⟩ := pz_gi hE 7 2147483648 2147483903 (by decide) rfl
  have s1 : (ρ 2 / 4 + 2147483648) % 4294967296 + (4 / 4 + 2147483648) % 4294967296 = (ρ 3 / 4 + 2147483648) % 4294967296 + 2147483648 := pz_gs hE 11 4 15 (by decide)
  have c_place : ay_at hp 8 6 = some (ρ 4) := ay_gfj hE 42 24 19 8 6 (by decide) (by rw [ax_vl_c (by decide)]) (by rw [ax_vl_c (by decide)])
  have s2 : (ρ 4 / 4 + 2147483648) % 4294967296 + (ρ 2 / 4 + 2147483648) % 4294967296 = (ρ 5 / 4 + 2147483648) % 4294967296 + 2147483648 := pz_gs hE 19 11 23 (by decide)
  have c_tape : ay_at hp 9 (ρ 5 / 4) = some (ρ 6) := ay_gf hE 46 23 27 9 (by decide) (by rw [ax_vl_c (by decide)])
  have r1 : (ρ 6 / 4 + 2147483648) % 4294967296 = (ρ 7 / 4 + 2147483648) % 4294967296 := pz_gc hE 0 27 31 (by decide) (by decide)
  obtain ⟨-, -, F30⟩ : ay_ex hp 8 ∧ ay_ex hp 9 ∧ pz_x30 (ρ 0) (ay_at hp 8 1) (ay_at hp 9) := (ax_XF_lt (by decide)).mp (ax_gx hE (30, [3]) (by decide))
  obtain ⟨-, -, -, -, F50⟩ : ay_ex hp 8 ∧ ay_ex hp 10 ∧ ay_ex hp 11 ∧ ay_ex hp 12 ∧ pz_x50 (ρ 0) (ρ 1) (ay_at hp 8 5) (ay_at hp 8 6) (ay_at hp 8 7) (ay_at hp 8 8) (ay_at hp 10 0) (ay_at hp 10 1) (ay_at hp 10 2) (ay_at hp 10 3) (ay_at hp 10 4) (ay_at hp 8 9) (ay_at hp 8 11) (ay_at hp 8 10) (ay_at hp 8 3) (ay_at hp 8 4) (ay_at hp 11) (ay_at hp 12) := (ax_XF_lt (by decide)).mp (ax_gx hE (50, [3, 7]) (by decide))
  rw [c_place] at F50
  have F62 : pz_x62 (ρ 0) (ρ 1) (4026) (ρ 2) := (ax_XF_lt (by decide)).mp (ax_gx hE (62, [3, 7, 4026, 11]) (by decide))
  refine ⟨(fun y hy => by cases hy), _, List.mem_cons_self, ρ, fun _ _ => rfl, ax_px hE (by decide) (fun y hy => ?_)⟩
  cases List.mem_singleton.mp hy
  refine (ax_XF_lt (x := 62) (by decide)).mpr ?_
  show pz_x62 (ρ 0) (ρ 1) (4026) (ρ 3)
  have ch := pz_chr (v := 4026) (i := ρ 2) (z := ρ 7) (l := [110, 117, 109, 98, 101, 114]) (by decide +kernel) (pz_g42 hE 4026 11 31 (by decide))
  have ep : ρ 4 / 4 = pz_at (pz_gt (ρ 0)) (pz_gN (ρ 0)) (pz_p (pz_cf (pz_gt (ρ 0)) (pz_gN (ρ 0)) (ρ 1 / 4))) := F50.2.1
  have hw : pz_at (pz_gt (ρ 0)) (pz_gN (ρ 0)) (pz_p (pz_cf (pz_gt (ρ 0)) (pz_gN (ρ 0)) (ρ 1 / 4))) < pz_gN (ρ 0) ∧ pz_nx (pz_gt (ρ 0)) (pz_gN (ρ 0)) (pz_p (pz_cf (pz_gt (ρ 0)) (pz_gN (ρ 0)) (ρ 1 / 4))) ≤ pz_gN (ρ 0) := pz_wd_le F62.1
  have hln : pz_nx (pz_gt (ρ 0)) (pz_gN (ρ 0)) (pz_p (pz_cf (pz_gt (ρ 0)) (pz_gN (ρ 0)) (ρ 1 / 4))) - pz_at (pz_gt (ρ 0)) (pz_gN (ρ 0)) (pz_p (pz_cf (pz_gt (ρ 0)) (pz_gN (ρ 0)) (ρ 1 / 4))) = 6 := F62.2.1
  have hi1 : ρ 2 / 4 < 6 := by omega
  have ha1 : ρ 4 / 4 ≤ 800 := by omega
  have hq1 : ρ 5 / 4 = ρ 4 / 4 + ρ 2 / 4 := by omega
  have hb := F30.2.2 (ρ 5 / 4) (by have := hw.2; omega)
  rw [c_tape] at hb
  have hb := Option.some.inj hb
  rw [show ρ 5 / 4 = pz_at (pz_gt (ρ 0)) (pz_gN (ρ 0)) (pz_p (pz_cf (pz_gt (ρ 0)) (pz_gN (ρ 0)) (ρ 1 / 4))) + ρ 2 / 4 by omega] at hb
  refine ⟨F62.1, F62.2.1, fun j hj => ?_⟩
  by_cases h : j < ρ 2 / 4
  · exact F62.2.2 j h
  · have e : j = ρ 2 / 4 := by omega
    have hcc : ρ 6 / 4 = ρ 7 / 4 := by omega
    have hb2 : pz_b (pz_gt (ρ 0)) (pz_at (pz_gt (ρ 0)) (pz_gN (ρ 0)) (pz_p (pz_cf (pz_gt (ρ 0)) (pz_gN (ρ 0)) (ρ 1 / 4))) + ρ 2 / 4) = ρ 6 / 4 := by omega
    rw [e]
    refine Eq.trans ?_ (pz_getD ch).symm
    rw [← hcc]
    exact hb2

theorem axq_iw5_6 : ax_RO ax_wC ax_XC axu_iw5_6 := by
  intro ρ hp hE hT
  have j0 : ρ 0 % 4 = 1 := pz_gj hE 0 (by decide) rfl
  have j1 : ρ 1 % 4 = 1 := pz_gj hE 1 (by decide) rfl
  obtain ⟨i2a, i2b, i2c, i2d⟩ := pz_gi hE 2 2147483648 2147483653 (by decide) rfl
  obtain ⟨i3a, i3b, i3c, i3d⟩ := pz_gi hE 3 2147483648 2147484448 (by decide) rfl
  obtain ⟨i4a, i4b, i4c, i4d⟩ := pz_gi hE 4 0 4294967295 (by decide) rfl
  obtain ⟨i5a, i5b, i5c, i5d⟩ := pz_gi hE 5 2147483520 2147483775 (by decide) rfl
  obtain ⟨i6a, i6b, i6c, i6d⟩ := pz_gi hE 6 2147483648 2147483903 (by decide) rfl
  have c_place : ay_at hp 8 6 = some (ρ 3) := ay_gfj hE 42 24 15 8 6 (by decide) (by rw [ax_vl_c (by decide)]) (by rw [ax_vl_c (by decide)])
  have s1 : (ρ 3 / 4 + 2147483648) % 4294967296 + (ρ 2 / 4 + 2147483648) % 4294967296 = (ρ 4 / 4 + 2147483648) % 4294967296 + 2147483648 := pz_gs hE 15 11 19 (by decide)
  have c_tape : ay_at hp 9 (ρ 4 / 4) = some (ρ 5) := ay_gf hE 46 19 23 9 (by decide) (by rw [ax_vl_c (by decide)])
  have r1 : (ρ 5 / 4 + 2147483648) % 4294967296 ≠ (ρ 6 / 4 + 2147483648) % 4294967296 := pz_gc hE 1 23 27 (by decide) (by decide)
  obtain ⟨-, -, F30⟩ : ay_ex hp 8 ∧ ay_ex hp 9 ∧ pz_x30 (ρ 0) (ay_at hp 8 1) (ay_at hp 9) := (ax_XF_lt (by decide)).mp (ax_gx hE (30, [3]) (by decide))
  obtain ⟨-, -, -, -, F50⟩ : ay_ex hp 8 ∧ ay_ex hp 10 ∧ ay_ex hp 11 ∧ ay_ex hp 12 ∧ pz_x50 (ρ 0) (ρ 1) (ay_at hp 8 5) (ay_at hp 8 6) (ay_at hp 8 7) (ay_at hp 8 8) (ay_at hp 10 0) (ay_at hp 10 1) (ay_at hp 10 2) (ay_at hp 10 3) (ay_at hp 10 4) (ay_at hp 8 9) (ay_at hp 8 11) (ay_at hp 8 10) (ay_at hp 8 3) (ay_at hp 8 4) (ay_at hp 11) (ay_at hp 12) := (ax_XF_lt (by decide)).mp (ax_gx hE (50, [3, 7]) (by decide))
  rw [c_place] at F50
  have F62 : pz_x62 (ρ 0) (ρ 1) (4026) (ρ 2) := (ax_XF_lt (by decide)).mp (ax_gx hE (62, [3, 7, 4026, 11]) (by decide))
  refine ⟨(fun y hy => by cases hy), _, List.mem_cons_self, ρ, fun _ _ => rfl, ax_px hE (by decide) (fun y hy => ?_)⟩
  cases List.mem_singleton.mp hy
  refine (ax_XF_lt (x := 61) (by decide)).mpr ?_
  show pz61 (pz_gt (ρ 0)) (pz_gN (ρ 0)) ((ρ 1) / 4) ((4026) / 4 - 1000)
  have ch := pz_chr (v := 4026) (i := ρ 2) (z := ρ 6) (l := [110, 117, 109, 98, 101, 114]) (by decide +kernel) (pz_g42 hE 4026 11 27 (by decide))
  have ep : ρ 3 / 4 = pz_at (pz_gt (ρ 0)) (pz_gN (ρ 0)) (pz_p (pz_cf (pz_gt (ρ 0)) (pz_gN (ρ 0)) (ρ 1 / 4))) := F50.2.1
  have hw : pz_at (pz_gt (ρ 0)) (pz_gN (ρ 0)) (pz_p (pz_cf (pz_gt (ρ 0)) (pz_gN (ρ 0)) (ρ 1 / 4))) < pz_gN (ρ 0) ∧ pz_nx (pz_gt (ρ 0)) (pz_gN (ρ 0)) (pz_p (pz_cf (pz_gt (ρ 0)) (pz_gN (ρ 0)) (ρ 1 / 4))) ≤ pz_gN (ρ 0) := pz_wd_le F62.1
  have hln : pz_nx (pz_gt (ρ 0)) (pz_gN (ρ 0)) (pz_p (pz_cf (pz_gt (ρ 0)) (pz_gN (ρ 0)) (ρ 1 / 4))) - pz_at (pz_gt (ρ 0)) (pz_gN (ρ 0)) (pz_p (pz_cf (pz_gt (ρ 0)) (pz_gN (ρ 0)) (ρ 1 / 4))) = 6 := F62.2.1
  have hi1 : ρ 2 / 4 < 6 := by omega
  have ha1 : ρ 3 / 4 ≤ 800 := by omega
  have hq1 : ρ 4 / 4 = ρ 3 / 4 + ρ 2 / 4 := by omega
  have hb := F30.2.2 (ρ 4 / 4) (by have := hw.2; omega)
  rw [c_tape] at hb
  have hb := Option.some.inj hb
  rw [show ρ 4 / 4 = pz_at (pz_gt (ρ 0)) (pz_gN (ρ 0)) (pz_p (pz_cf (pz_gt (ρ 0)) (pz_gN (ρ 0)) (ρ 1 / 4))) + ρ 2 / 4 by omega] at hb
  refine pz_is_no (Or.inr (Or.inr ⟨ρ 2 / 4, show ρ 2 / 4 < 6 by omega, fun z => ?_⟩))
  have hb2 : pz_b (pz_gt (ρ 0)) (pz_at (pz_gt (ρ 0)) (pz_gN (ρ 0)) (pz_p (pz_cf (pz_gt (ρ 0)) (pz_gN (ρ 0)) (ρ 1 / 4))) + ρ 2 / 4) = ρ 5 / 4 := by omega
  have z2 := (hb2.symm.trans z).trans (pz_getD ch)
  rw [z2] at r1
  exact r1 rfl

theorem axq_iw4_7 : ax_RO ax_wC ax_XC axu_iw4_7 := by
  intro ρ hp hE hT
  have j0 : ρ 0 % 4 = 1 := pz_gj hE 0 (by decide) rfl
  have j1 : ρ 1 % 4 = 1 := pz_gj hE 1 (by decide) rfl
  obtain ⟨i2a, i2b, i2c, i2d⟩ := pz_gi hE 2 2147483648 2147483652 (by decide) rfl
  obtain ⟨i3a, i3b, i3c, i3d⟩ := pz_gi hE 3 0 4294967295 (by decide) rfl
  obtain ⟨i4a, i4b, i4c, i4d⟩ := pz_gi hE 4 2147483648 2147484448 (by decide) rfl
  obtain ⟨i5a, i5b, i5c, i5d⟩ := pz_gi hE 5 0 4294967295 (by decide) rfl
  obtain ⟨i6a, i6b, i6c, i6d⟩ := pz_gi hE 6 2147483520 2147483775 (by decide) rfl
  obtain ⟨i7a, i7b, i7c, i7d⟩ := pz_gi hE 7 2147483648 2147483903 (by decide) rfl
  have s1 : (ρ 2 / 4 + 2147483648) % 4294967296 + (4 / 4 + 2147483648) % 4294967296 = (ρ 3 / 4 + 2147483648) % 4294967296 + 2147483648 := pz_gs hE 11 4 15 (by decide)
  have c_place : ay_at hp 8 6 = some (ρ 4) := ay_gfj hE 42 24 19 8 6 (by decide) (by rw [ax_vl_c (by decide)]) (by rw [ax_vl_c (by decide)])
  have s2 : (ρ 4 / 4 + 2147483648) % 4294967296 + (ρ 2 / 4 + 2147483648) % 4294967296 = (ρ 5 / 4 + 2147483648) % 4294967296 + 2147483648 := pz_gs hE 19 11 23 (by decide)
  have c_tape : ay_at hp 9 (ρ 5 / 4) = some (ρ 6) := ay_gf hE 46 23 27 9 (by decide) (by rw [ax_vl_c (by decide)])
  have r1 : (ρ 6 / 4 + 2147483648) % 4294967296 = (ρ 7 / 4 + 2147483648) % 4294967296 := pz_gc hE 0 27 31 (by decide) (by decide)
  obtain ⟨-, -, F30⟩ : ay_ex hp 8 ∧ ay_ex hp 9 ∧ pz_x30 (ρ 0) (ay_at hp 8 1) (ay_at hp 9) := (ax_XF_lt (by decide)).mp (ax_gx hE (30, [3]) (by decide))
  obtain ⟨-, -, -, -, F50⟩ : ay_ex hp 8 ∧ ay_ex hp 10 ∧ ay_ex hp 11 ∧ ay_ex hp 12 ∧ pz_x50 (ρ 0) (ρ 1) (ay_at hp 8 5) (ay_at hp 8 6) (ay_at hp 8 7) (ay_at hp 8 8) (ay_at hp 10 0) (ay_at hp 10 1) (ay_at hp 10 2) (ay_at hp 10 3) (ay_at hp 10 4) (ay_at hp 8 9) (ay_at hp 8 11) (ay_at hp 8 10) (ay_at hp 8 3) (ay_at hp 8 4) (ay_at hp 11) (ay_at hp 12) := (ax_XF_lt (by decide)).mp (ax_gx hE (50, [3, 7]) (by decide))
  rw [c_place] at F50
  have F62 : pz_x62 (ρ 0) (ρ 1) (4030) (ρ 2) := (ax_XF_lt (by decide)).mp (ax_gx hE (62, [3, 7, 4030, 11]) (by decide))
  refine ⟨(fun y hy => by cases hy), _, List.mem_cons_self, ρ, fun _ _ => rfl, ax_px hE (by decide) (fun y hy => ?_)⟩
  cases List.mem_singleton.mp hy
  refine (ax_XF_lt (x := 62) (by decide)).mpr ?_
  show pz_x62 (ρ 0) (ρ 1) (4030) (ρ 3)
  have ch := pz_chr (v := 4030) (i := ρ 2) (z := ρ 7) (l := [108, 105, 110, 107, 115]) (by decide +kernel) (pz_g42 hE 4030 11 31 (by decide))
  have ep : ρ 4 / 4 = pz_at (pz_gt (ρ 0)) (pz_gN (ρ 0)) (pz_p (pz_cf (pz_gt (ρ 0)) (pz_gN (ρ 0)) (ρ 1 / 4))) := F50.2.1
  have hw : pz_at (pz_gt (ρ 0)) (pz_gN (ρ 0)) (pz_p (pz_cf (pz_gt (ρ 0)) (pz_gN (ρ 0)) (ρ 1 / 4))) < pz_gN (ρ 0) ∧ pz_nx (pz_gt (ρ 0)) (pz_gN (ρ 0)) (pz_p (pz_cf (pz_gt (ρ 0)) (pz_gN (ρ 0)) (ρ 1 / 4))) ≤ pz_gN (ρ 0) := pz_wd_le F62.1
  have hln : pz_nx (pz_gt (ρ 0)) (pz_gN (ρ 0)) (pz_p (pz_cf (pz_gt (ρ 0)) (pz_gN (ρ 0)) (ρ 1 / 4))) - pz_at (pz_gt (ρ 0)) (pz_gN (ρ 0)) (pz_p (pz_cf (pz_gt (ρ 0)) (pz_gN (ρ 0)) (ρ 1 / 4))) = 5 := F62.2.1
  have hi1 : ρ 2 / 4 < 5 := by omega
  have ha1 : ρ 4 / 4 ≤ 800 := by omega
  have hq1 : ρ 5 / 4 = ρ 4 / 4 + ρ 2 / 4 := by omega
  have hb := F30.2.2 (ρ 5 / 4) (by have := hw.2; omega)
  rw [c_tape] at hb
  have hb := Option.some.inj hb
  rw [show ρ 5 / 4 = pz_at (pz_gt (ρ 0)) (pz_gN (ρ 0)) (pz_p (pz_cf (pz_gt (ρ 0)) (pz_gN (ρ 0)) (ρ 1 / 4))) + ρ 2 / 4 by omega] at hb
  refine ⟨F62.1, F62.2.1, fun j hj => ?_⟩
  by_cases h : j < ρ 2 / 4
  · exact F62.2.2 j h
  · have e : j = ρ 2 / 4 := by omega
    have hcc : ρ 6 / 4 = ρ 7 / 4 := by omega
    have hb2 : pz_b (pz_gt (ρ 0)) (pz_at (pz_gt (ρ 0)) (pz_gN (ρ 0)) (pz_p (pz_cf (pz_gt (ρ 0)) (pz_gN (ρ 0)) (ρ 1 / 4))) + ρ 2 / 4) = ρ 6 / 4 := by omega
    rw [e]
    refine Eq.trans ?_ (pz_getD ch).symm
    rw [← hcc]
    exact hb2

theorem axq_iw5_7 : ax_RO ax_wC ax_XC axu_iw5_7 := by
  intro ρ hp hE hT
  have j0 : ρ 0 % 4 = 1 := pz_gj hE 0 (by decide) rfl
  have j1 : ρ 1 % 4 = 1 := pz_gj hE 1 (by decide) rfl
  obtain ⟨i2a, i2b, i2c, i2d⟩ := pz_gi hE 2 2147483648 2147483652 (by decide) rfl
  obtain ⟨i3a, i3b, i3c, i3d⟩ := pz_gi hE 3 2147483648 2147484448 (by decide) rfl
  obtain ⟨i4a, i4b, i4c, i4d⟩ := pz_gi hE 4 0 4294967295 (by decide) rfl
  obtain ⟨i5a, i5b, i5c, i5d⟩ := pz_gi hE 5 2147483520 2147483775 (by decide) rfl
  obtain ⟨i6a, i6b, i6c, i6d⟩ := pz_gi hE 6 2147483648 2147483903 (by decide) rfl
  have c_place : ay_at hp 8 6 = some (ρ 3) := ay_gfj hE 42 24 15 8 6 (by decide) (by rw [ax_vl_c (by decide)]) (by rw [ax_vl_c (by decide)])
  have s1 : (ρ 3 / 4 + 2147483648) % 4294967296 + (ρ 2 / 4 + 2147483648) % 4294967296 = (ρ 4 / 4 + 2147483648) % 4294967296 + 2147483648 := pz_gs hE 15 11 19 (by decide)
  have c_tape : ay_at hp 9 (ρ 4 / 4) = some (ρ 5) := ay_gf hE 46 19 23 9 (by decide) (by rw [ax_vl_c (by decide)])
  have r1 : (ρ 5 / 4 + 2147483648) % 4294967296 ≠ (ρ 6 / 4 + 2147483648) % 4294967296 := pz_gc hE 1 23 27 (by decide) (by decide)
  obtain ⟨-, -, F30⟩ : ay_ex hp 8 ∧ ay_ex hp 9 ∧ pz_x30 (ρ 0) (ay_at hp 8 1) (ay_at hp 9) := (ax_XF_lt (by decide)).mp (ax_gx hE (30, [3]) (by decide))
  obtain ⟨-, -, -, -, F50⟩ : ay_ex hp 8 ∧ ay_ex hp 10 ∧ ay_ex hp 11 ∧ ay_ex hp 12 ∧ pz_x50 (ρ 0) (ρ 1) (ay_at hp 8 5) (ay_at hp 8 6) (ay_at hp 8 7) (ay_at hp 8 8) (ay_at hp 10 0) (ay_at hp 10 1) (ay_at hp 10 2) (ay_at hp 10 3) (ay_at hp 10 4) (ay_at hp 8 9) (ay_at hp 8 11) (ay_at hp 8 10) (ay_at hp 8 3) (ay_at hp 8 4) (ay_at hp 11) (ay_at hp 12) := (ax_XF_lt (by decide)).mp (ax_gx hE (50, [3, 7]) (by decide))
  rw [c_place] at F50
  have F62 : pz_x62 (ρ 0) (ρ 1) (4030) (ρ 2) := (ax_XF_lt (by decide)).mp (ax_gx hE (62, [3, 7, 4030, 11]) (by decide))
  refine ⟨(fun y hy => by cases hy), _, List.mem_cons_self, ρ, fun _ _ => rfl, ax_px hE (by decide) (fun y hy => ?_)⟩
  cases List.mem_singleton.mp hy
  refine (ax_XF_lt (x := 61) (by decide)).mpr ?_
  show pz61 (pz_gt (ρ 0)) (pz_gN (ρ 0)) ((ρ 1) / 4) ((4030) / 4 - 1000)
  have ch := pz_chr (v := 4030) (i := ρ 2) (z := ρ 6) (l := [108, 105, 110, 107, 115]) (by decide +kernel) (pz_g42 hE 4030 11 27 (by decide))
  have ep : ρ 3 / 4 = pz_at (pz_gt (ρ 0)) (pz_gN (ρ 0)) (pz_p (pz_cf (pz_gt (ρ 0)) (pz_gN (ρ 0)) (ρ 1 / 4))) := F50.2.1
  have hw : pz_at (pz_gt (ρ 0)) (pz_gN (ρ 0)) (pz_p (pz_cf (pz_gt (ρ 0)) (pz_gN (ρ 0)) (ρ 1 / 4))) < pz_gN (ρ 0) ∧ pz_nx (pz_gt (ρ 0)) (pz_gN (ρ 0)) (pz_p (pz_cf (pz_gt (ρ 0)) (pz_gN (ρ 0)) (ρ 1 / 4))) ≤ pz_gN (ρ 0) := pz_wd_le F62.1
  have hln : pz_nx (pz_gt (ρ 0)) (pz_gN (ρ 0)) (pz_p (pz_cf (pz_gt (ρ 0)) (pz_gN (ρ 0)) (ρ 1 / 4))) - pz_at (pz_gt (ρ 0)) (pz_gN (ρ 0)) (pz_p (pz_cf (pz_gt (ρ 0)) (pz_gN (ρ 0)) (ρ 1 / 4))) = 5 := F62.2.1
  have hi1 : ρ 2 / 4 < 5 := by omega
  have ha1 : ρ 3 / 4 ≤ 800 := by omega
  have hq1 : ρ 4 / 4 = ρ 3 / 4 + ρ 2 / 4 := by omega
  have hb := F30.2.2 (ρ 4 / 4) (by have := hw.2; omega)
  rw [c_tape] at hb
  have hb := Option.some.inj hb
  rw [show ρ 4 / 4 = pz_at (pz_gt (ρ 0)) (pz_gN (ρ 0)) (pz_p (pz_cf (pz_gt (ρ 0)) (pz_gN (ρ 0)) (ρ 1 / 4))) + ρ 2 / 4 by omega] at hb
  refine pz_is_no (Or.inr (Or.inr ⟨ρ 2 / 4, show ρ 2 / 4 < 5 by omega, fun z => ?_⟩))
  have hb2 : pz_b (pz_gt (ρ 0)) (pz_at (pz_gt (ρ 0)) (pz_gN (ρ 0)) (pz_p (pz_cf (pz_gt (ρ 0)) (pz_gN (ρ 0)) (ρ 1 / 4))) + ρ 2 / 4) = ρ 5 / 4 := by omega
  have z2 := (hb2.symm.trans z).trans (pz_getD ch)
  rw [z2] at r1
  exact r1 rfl

