section
theorem axq_su2_4 : ax_RO ax_wC ax_XC axu_su2_4 := by
  intro ρ hp hE hT
  have j0 : ρ 0 % 4 = 1 := pz_gj hE 0 (Nat.le_of_ble_eq_true rfl) rfl
  have j1 : ρ 1 % 4 = 1 := pz_gj hE 1 (Nat.le_of_ble_eq_true rfl) rfl
  have j2 : ρ 2 % 4 = 1 := pz_gj hE 2 (Nat.le_of_ble_eq_true rfl) rfl
  have j3 : ρ 3 % 4 = 1 := pz_gj hE 3 (Nat.le_of_ble_eq_true rfl) rfl
  have j4 : ρ 4 % 4 = 1 := pz_gj hE 4 (Nat.le_of_ble_eq_true rfl) rfl
  obtain ⟨-, -, -, -, F50⟩ : ay_ex hp 8 ∧ ay_ex hp 10 ∧ ay_ex hp 11 ∧ ay_ex hp 12 ∧ pz_x50 (ρ 0) (ρ 1) (ay_at hp 8 5) (ay_at hp 8 6) (ay_at hp 8 7) (ay_at hp 8 8) (ay_at hp 10 0) (ay_at hp 10 1) (ay_at hp 10 2) (ay_at hp 10 3) (ay_at hp 10 4) (ay_at hp 8 9) (ay_at hp 8 11) (ay_at hp 8 10) (ay_at hp 8 3) (ay_at hp 8 4) (ay_at hp 11) (ay_at hp 12) := (ax_XF_lt (x := 50) (Nat.le_of_ble_eq_true rfl)).mp (ax_gx hE (50, [3, 7]) ax_m0)
  have F98 : (ρ 2) / 4 = (ρ 1) / 4 + 1 := (ax_XF_lt (x := 98) (Nat.le_of_ble_eq_true rfl)).mp (ax_gx hE (98, [7, 11]) ax_m1)
  have F79 : pz7 (pz_gt (ρ 0)) (pz_gN (ρ 0)) ((ρ 2) / 4) 9 := (ax_XF_lt (x := 79) (Nat.le_of_ble_eq_true rfl)).mp (ax_gx hE (79, [3, 11]) ax_m2)
  have F78 : pz7 (pz_gt (ρ 0)) (pz_gN (ρ 0)) ((ρ 1) / 4) 8 := (ax_XF_lt (x := 78) (Nat.le_of_ble_eq_true rfl)).mp (ax_gx hE (78, [3, 7]) ax_m3)
  have F107 : pz107 (pz_gt (ρ 0)) (pz_gN (ρ 0)) ((ρ 1) / 4) ((8) / 4) := (ax_XF_lt (x := 107) (Nat.le_of_ble_eq_true rfl)).mp (ax_gx hE (107, [3, 7, 8]) ax_m4)
  have F46 : py_46 (pz_gt (ρ 0)) (pz_gN (ρ 0)) ((ρ 1) / 4) (ρ 3) (ρ 4) := (ax_XF_lt (x := 46) (Nat.le_of_ble_eq_true rfl)).mp (ax_gx hE (46, [3, 7, 15, 19]) ax_m5)
  refine ⟨(fun y hy => by cases hy), _, List.mem_cons_self, ρ, fun _ _ => rfl, ax_px hE rfl (fun y hy => ?_)⟩
  cases List.mem_singleton.mp hy
  refine (ax_XF_lt (x := 42) (Nat.le_of_ble_eq_true rfl)).mpr ?_
  show py_42 (pz_gt (ρ 0)) (pz_gN (ρ 0)) ((ρ 2) / 4) (ρ 3) (ρ 4) (4000)
  have kd := (pr_w (by decide) F107).1
  rw [F98] at F79 ⊢
  exact pr_su F78 (by rw [kd]; decide) (by rw [kd]; decide) F79 (by decide) F46 (by rw [pr_unw (by decide) F107]) (by decide)

theorem axq_sv2_4 : ax_RO ax_wC ax_XC axu_sv2_4 := by
  intro ρ hp hE hT
  have j0 : ρ 0 % 4 = 1 := pz_gj hE 0 (Nat.le_of_ble_eq_true rfl) rfl
  have j1 : ρ 1 % 4 = 1 := pz_gj hE 1 (Nat.le_of_ble_eq_true rfl) rfl
  have j2 : ρ 2 % 4 = 1 := pz_gj hE 2 (Nat.le_of_ble_eq_true rfl) rfl
  have j3 : ρ 3 % 4 = 1 := pz_gj hE 3 (Nat.le_of_ble_eq_true rfl) rfl
  have j4 : ρ 4 % 4 = 1 := pz_gj hE 4 (Nat.le_of_ble_eq_true rfl) rfl
  obtain ⟨-, -, -, -, F50⟩ : ay_ex hp 8 ∧ ay_ex hp 10 ∧ ay_ex hp 11 ∧ ay_ex hp 12 ∧ pz_x50 (ρ 0) (ρ 1) (ay_at hp 8 5) (ay_at hp 8 6) (ay_at hp 8 7) (ay_at hp 8 8) (ay_at hp 10 0) (ay_at hp 10 1) (ay_at hp 10 2) (ay_at hp 10 3) (ay_at hp 10 4) (ay_at hp 8 9) (ay_at hp 8 11) (ay_at hp 8 10) (ay_at hp 8 3) (ay_at hp 8 4) (ay_at hp 11) (ay_at hp 12) := (ax_XF_lt (x := 50) (Nat.le_of_ble_eq_true rfl)).mp (ax_gx hE (50, [3, 7]) ax_m0)
  have F42 : py_42 (pz_gt (ρ 0)) (pz_gN (ρ 0)) ((ρ 1) / 4) (ρ 2) (ρ 3) (4000) := (ax_XF_lt (x := 42) (Nat.le_of_ble_eq_true rfl)).mp (ax_gx hE (42, [3, 7, 11, 15, 4000]) ax_m1)
  obtain ⟨-, -, -, F41⟩ : ay_ex hp 10 ∧ ay_ex hp 15 ∧ ay_ex hp 16 ∧ py_x41 (ρ 4) (ay_at hp 10 5) (ay_at hp 15) (ay_at hp 16) := (ax_XF_lt (x := 41) (Nat.le_of_ble_eq_true rfl)).mp (ax_gx hE (41, [19]) ax_m2)
  have F99 : py_99 (ρ 4) (4000) (ρ 3) := (ax_XF_lt (x := 99) (Nat.le_of_ble_eq_true rfl)).mp (ax_gx hE (99, [19, 4000, 15]) ax_m3)
  refine ⟨(fun y hy => by cases hy), _, List.mem_cons_self, ρ, fun _ _ => rfl, ax_px hE rfl (fun y hy => ?_)⟩
  cases List.mem_singleton.mp hy
  refine (ax_XF_lt (x := 47) (Nat.le_of_ble_eq_true rfl)).mpr ?_
  show py_47 (pz_gt (ρ 0)) (pz_gN (ρ 0)) ((ρ 1) / 4) (ρ 2) (ρ 4)
  exact pr_sv F42 F99

theorem axq_sl2_4 : ax_RO ax_wC ax_XC axu_sl2_4 := by
  intro ρ hp hE hT
  have j0 : ρ 0 % 4 = 1 := pz_gj hE 0 (Nat.le_of_ble_eq_true rfl) rfl
  have j1 : ρ 1 % 4 = 1 := pz_gj hE 1 (Nat.le_of_ble_eq_true rfl) rfl
  have j2 : ρ 2 % 4 = 1 := pz_gj hE 2 (Nat.le_of_ble_eq_true rfl) rfl
  have j3 : ρ 3 % 4 = 1 := pz_gj hE 3 (Nat.le_of_ble_eq_true rfl) rfl
  obtain ⟨-, -, -, -, F50⟩ : ay_ex hp 8 ∧ ay_ex hp 10 ∧ ay_ex hp 11 ∧ ay_ex hp 12 ∧ pz_x50 (ρ 0) (ρ 1) (ay_at hp 8 5) (ay_at hp 8 6) (ay_at hp 8 7) (ay_at hp 8 8) (ay_at hp 10 0) (ay_at hp 10 1) (ay_at hp 10 2) (ay_at hp 10 3) (ay_at hp 10 4) (ay_at hp 8 9) (ay_at hp 8 11) (ay_at hp 8 10) (ay_at hp 8 3) (ay_at hp 8 4) (ay_at hp 11) (ay_at hp 12) := (ax_XF_lt (x := 50) (Nat.le_of_ble_eq_true rfl)).mp (ax_gx hE (50, [3, 7]) ax_m0)
  have F79 : pz7 (pz_gt (ρ 0)) (pz_gN (ρ 0)) ((ρ 1) / 4) 9 := (ax_XF_lt (x := 79) (Nat.le_of_ble_eq_true rfl)).mp (ax_gx hE (79, [3, 7]) ax_m1)
  have F42 : py_42 (pz_gt (ρ 0)) (pz_gN (ρ 0)) ((ρ 1) / 4) (ρ 2) (ρ 3) (4000) := (ax_XF_lt (x := 42) (Nat.le_of_ble_eq_true rfl)).mp (ax_gx hE (42, [3, 7, 11, 15, 4000]) ax_m2)
  refine ⟨(fun y hy => by cases hy), _, List.mem_cons_self, ρ, fun _ _ => rfl, ax_px hE rfl (fun y hy => ?_)⟩
  cases List.mem_singleton.mp hy
  refine (ax_XF_lt (x := 40) (Nat.le_of_ble_eq_true rfl)).mpr ?_
  show py_40 (ρ 3)
  exact pr_l42 F79 (by decide) F42

theorem axq_su3_4 : ax_RO ax_wC ax_XC axu_su3_4 := by
  intro ρ hp hE hT
  have j0 : ρ 0 % 4 = 1 := pz_gj hE 0 (Nat.le_of_ble_eq_true rfl) rfl
  have j1 : ρ 1 % 4 = 1 := pz_gj hE 1 (Nat.le_of_ble_eq_true rfl) rfl
  have j2 : ρ 2 % 4 = 1 := pz_gj hE 2 (Nat.le_of_ble_eq_true rfl) rfl
  have j3 : ρ 3 % 4 = 1 := pz_gj hE 3 (Nat.le_of_ble_eq_true rfl) rfl
  have j4 : ρ 4 % 4 = 1 := pz_gj hE 4 (Nat.le_of_ble_eq_true rfl) rfl
  obtain ⟨-, -, -, -, F50⟩ : ay_ex hp 8 ∧ ay_ex hp 10 ∧ ay_ex hp 11 ∧ ay_ex hp 12 ∧ pz_x50 (ρ 0) (ρ 1) (ay_at hp 8 5) (ay_at hp 8 6) (ay_at hp 8 7) (ay_at hp 8 8) (ay_at hp 10 0) (ay_at hp 10 1) (ay_at hp 10 2) (ay_at hp 10 3) (ay_at hp 10 4) (ay_at hp 8 9) (ay_at hp 8 11) (ay_at hp 8 10) (ay_at hp 8 3) (ay_at hp 8 4) (ay_at hp 11) (ay_at hp 12) := (ax_XF_lt (x := 50) (Nat.le_of_ble_eq_true rfl)).mp (ax_gx hE (50, [3, 7]) ax_m0)
  have F98 : (ρ 2) / 4 = (ρ 1) / 4 + 1 := (ax_XF_lt (x := 98) (Nat.le_of_ble_eq_true rfl)).mp (ax_gx hE (98, [7, 11]) ax_m1)
  have F79 : pz7 (pz_gt (ρ 0)) (pz_gN (ρ 0)) ((ρ 2) / 4) 9 := (ax_XF_lt (x := 79) (Nat.le_of_ble_eq_true rfl)).mp (ax_gx hE (79, [3, 11]) ax_m2)
  have F78 : pz7 (pz_gt (ρ 0)) (pz_gN (ρ 0)) ((ρ 1) / 4) 8 := (ax_XF_lt (x := 78) (Nat.le_of_ble_eq_true rfl)).mp (ax_gx hE (78, [3, 7]) ax_m3)
  have F107 : pz107 (pz_gt (ρ 0)) (pz_gN (ρ 0)) ((ρ 1) / 4) ((12) / 4) := (ax_XF_lt (x := 107) (Nat.le_of_ble_eq_true rfl)).mp (ax_gx hE (107, [3, 7, 12]) ax_m4)
  have F46 : py_46 (pz_gt (ρ 0)) (pz_gN (ρ 0)) ((ρ 1) / 4) (ρ 3) (ρ 4) := (ax_XF_lt (x := 46) (Nat.le_of_ble_eq_true rfl)).mp (ax_gx hE (46, [3, 7, 15, 19]) ax_m5)
  refine ⟨(fun y hy => by cases hy), _, List.mem_cons_self, ρ, fun _ _ => rfl, ax_px hE rfl (fun y hy => ?_)⟩
  cases List.mem_singleton.mp hy
  refine (ax_XF_lt (x := 42) (Nat.le_of_ble_eq_true rfl)).mpr ?_
  show py_42 (pz_gt (ρ 0)) (pz_gN (ρ 0)) ((ρ 2) / 4) (ρ 3) (ρ 4) (4004)
  have kd := (pr_w (by decide) F107).1
  rw [F98] at F79 ⊢
  exact pr_su F78 (by rw [kd]; decide) (by rw [kd]; decide) F79 (by decide) F46 (by rw [pr_unw (by decide) F107]) (by decide)

theorem axq_sv3_4 : ax_RO ax_wC ax_XC axu_sv3_4 := by
  intro ρ hp hE hT
  have j0 : ρ 0 % 4 = 1 := pz_gj hE 0 (Nat.le_of_ble_eq_true rfl) rfl
  have j1 : ρ 1 % 4 = 1 := pz_gj hE 1 (Nat.le_of_ble_eq_true rfl) rfl
  have j2 : ρ 2 % 4 = 1 := pz_gj hE 2 (Nat.le_of_ble_eq_true rfl) rfl
  have j3 : ρ 3 % 4 = 1 := pz_gj hE 3 (Nat.le_of_ble_eq_true rfl) rfl
  have j4 : ρ 4 % 4 = 1 := pz_gj hE 4 (Nat.le_of_ble_eq_true rfl) rfl
  obtain ⟨-, -, -, -, F50⟩ : ay_ex hp 8 ∧ ay_ex hp 10 ∧ ay_ex hp 11 ∧ ay_ex hp 12 ∧ pz_x50 (ρ 0) (ρ 1) (ay_at hp 8 5) (ay_at hp 8 6) (ay_at hp 8 7) (ay_at hp 8 8) (ay_at hp 10 0) (ay_at hp 10 1) (ay_at hp 10 2) (ay_at hp 10 3) (ay_at hp 10 4) (ay_at hp 8 9) (ay_at hp 8 11) (ay_at hp 8 10) (ay_at hp 8 3) (ay_at hp 8 4) (ay_at hp 11) (ay_at hp 12) := (ax_XF_lt (x := 50) (Nat.le_of_ble_eq_true rfl)).mp (ax_gx hE (50, [3, 7]) ax_m0)
  have F42 : py_42 (pz_gt (ρ 0)) (pz_gN (ρ 0)) ((ρ 1) / 4) (ρ 2) (ρ 3) (4004) := (ax_XF_lt (x := 42) (Nat.le_of_ble_eq_true rfl)).mp (ax_gx hE (42, [3, 7, 11, 15, 4004]) ax_m1)
  obtain ⟨-, -, -, F41⟩ : ay_ex hp 10 ∧ ay_ex hp 15 ∧ ay_ex hp 16 ∧ py_x41 (ρ 4) (ay_at hp 10 5) (ay_at hp 15) (ay_at hp 16) := (ax_XF_lt (x := 41) (Nat.le_of_ble_eq_true rfl)).mp (ax_gx hE (41, [19]) ax_m2)
  have F99 : py_99 (ρ 4) (4004) (ρ 3) := (ax_XF_lt (x := 99) (Nat.le_of_ble_eq_true rfl)).mp (ax_gx hE (99, [19, 4004, 15]) ax_m3)
  refine ⟨(fun y hy => by cases hy), _, List.mem_cons_self, ρ, fun _ _ => rfl, ax_px hE rfl (fun y hy => ?_)⟩
  cases List.mem_singleton.mp hy
  refine (ax_XF_lt (x := 47) (Nat.le_of_ble_eq_true rfl)).mpr ?_
  show py_47 (pz_gt (ρ 0)) (pz_gN (ρ 0)) ((ρ 1) / 4) (ρ 2) (ρ 4)
  exact pr_sv F42 F99

theorem axq_sl3_4 : ax_RO ax_wC ax_XC axu_sl3_4 := by
  intro ρ hp hE hT
  have j0 : ρ 0 % 4 = 1 := pz_gj hE 0 (Nat.le_of_ble_eq_true rfl) rfl
  have j1 : ρ 1 % 4 = 1 := pz_gj hE 1 (Nat.le_of_ble_eq_true rfl) rfl
  have j2 : ρ 2 % 4 = 1 := pz_gj hE 2 (Nat.le_of_ble_eq_true rfl) rfl
  have j3 : ρ 3 % 4 = 1 := pz_gj hE 3 (Nat.le_of_ble_eq_true rfl) rfl
  obtain ⟨-, -, -, -, F50⟩ : ay_ex hp 8 ∧ ay_ex hp 10 ∧ ay_ex hp 11 ∧ ay_ex hp 12 ∧ pz_x50 (ρ 0) (ρ 1) (ay_at hp 8 5) (ay_at hp 8 6) (ay_at hp 8 7) (ay_at hp 8 8) (ay_at hp 10 0) (ay_at hp 10 1) (ay_at hp 10 2) (ay_at hp 10 3) (ay_at hp 10 4) (ay_at hp 8 9) (ay_at hp 8 11) (ay_at hp 8 10) (ay_at hp 8 3) (ay_at hp 8 4) (ay_at hp 11) (ay_at hp 12) := (ax_XF_lt (x := 50) (Nat.le_of_ble_eq_true rfl)).mp (ax_gx hE (50, [3, 7]) ax_m0)
  have F79 : pz7 (pz_gt (ρ 0)) (pz_gN (ρ 0)) ((ρ 1) / 4) 9 := (ax_XF_lt (x := 79) (Nat.le_of_ble_eq_true rfl)).mp (ax_gx hE (79, [3, 7]) ax_m1)
  have F42 : py_42 (pz_gt (ρ 0)) (pz_gN (ρ 0)) ((ρ 1) / 4) (ρ 2) (ρ 3) (4004) := (ax_XF_lt (x := 42) (Nat.le_of_ble_eq_true rfl)).mp (ax_gx hE (42, [3, 7, 11, 15, 4004]) ax_m2)
  refine ⟨(fun y hy => by cases hy), _, List.mem_cons_self, ρ, fun _ _ => rfl, ax_px hE rfl (fun y hy => ?_)⟩
  cases List.mem_singleton.mp hy
  refine (ax_XF_lt (x := 40) (Nat.le_of_ble_eq_true rfl)).mpr ?_
  show py_40 (ρ 3)
  exact pr_l42 F79 (by decide) F42

theorem axq_su4_4 : ax_RO ax_wC ax_XC axu_su4_4 := by
  intro ρ hp hE hT
  have j0 : ρ 0 % 4 = 1 := pz_gj hE 0 (Nat.le_of_ble_eq_true rfl) rfl
  have j1 : ρ 1 % 4 = 1 := pz_gj hE 1 (Nat.le_of_ble_eq_true rfl) rfl
  have j2 : ρ 2 % 4 = 1 := pz_gj hE 2 (Nat.le_of_ble_eq_true rfl) rfl
  have j3 : ρ 3 % 4 = 1 := pz_gj hE 3 (Nat.le_of_ble_eq_true rfl) rfl
  have j4 : ρ 4 % 4 = 1 := pz_gj hE 4 (Nat.le_of_ble_eq_true rfl) rfl
  obtain ⟨-, -, -, -, F50⟩ : ay_ex hp 8 ∧ ay_ex hp 10 ∧ ay_ex hp 11 ∧ ay_ex hp 12 ∧ pz_x50 (ρ 0) (ρ 1) (ay_at hp 8 5) (ay_at hp 8 6) (ay_at hp 8 7) (ay_at hp 8 8) (ay_at hp 10 0) (ay_at hp 10 1) (ay_at hp 10 2) (ay_at hp 10 3) (ay_at hp 10 4) (ay_at hp 8 9) (ay_at hp 8 11) (ay_at hp 8 10) (ay_at hp 8 3) (ay_at hp 8 4) (ay_at hp 11) (ay_at hp 12) := (ax_XF_lt (x := 50) (Nat.le_of_ble_eq_true rfl)).mp (ax_gx hE (50, [3, 7]) ax_m0)
  have F98 : (ρ 2) / 4 = (ρ 1) / 4 + 1 := (ax_XF_lt (x := 98) (Nat.le_of_ble_eq_true rfl)).mp (ax_gx hE (98, [7, 11]) ax_m1)
  have F79 : pz7 (pz_gt (ρ 0)) (pz_gN (ρ 0)) ((ρ 2) / 4) 9 := (ax_XF_lt (x := 79) (Nat.le_of_ble_eq_true rfl)).mp (ax_gx hE (79, [3, 11]) ax_m2)
  have F78 : pz7 (pz_gt (ρ 0)) (pz_gN (ρ 0)) ((ρ 1) / 4) 8 := (ax_XF_lt (x := 78) (Nat.le_of_ble_eq_true rfl)).mp (ax_gx hE (78, [3, 7]) ax_m3)
  have F107 : pz107 (pz_gt (ρ 0)) (pz_gN (ρ 0)) ((ρ 1) / 4) ((16) / 4) := (ax_XF_lt (x := 107) (Nat.le_of_ble_eq_true rfl)).mp (ax_gx hE (107, [3, 7, 16]) ax_m4)
  have F46 : py_46 (pz_gt (ρ 0)) (pz_gN (ρ 0)) ((ρ 1) / 4) (ρ 3) (ρ 4) := (ax_XF_lt (x := 46) (Nat.le_of_ble_eq_true rfl)).mp (ax_gx hE (46, [3, 7, 15, 19]) ax_m5)
  refine ⟨(fun y hy => by cases hy), _, List.mem_cons_self, ρ, fun _ _ => rfl, ax_px hE rfl (fun y hy => ?_)⟩
  cases List.mem_singleton.mp hy
  refine (ax_XF_lt (x := 42) (Nat.le_of_ble_eq_true rfl)).mpr ?_
  show py_42 (pz_gt (ρ 0)) (pz_gN (ρ 0)) ((ρ 2) / 4) (ρ 3) (ρ 4) (4008)
  have kd := (pr_w (by decide) F107).1
  rw [F98] at F79 ⊢
  exact pr_su F78 (by rw [kd]; decide) (by rw [kd]; decide) F79 (by decide) F46 (by rw [pr_unw (by decide) F107]) (by decide)

theorem axq_sv4_4 : ax_RO ax_wC ax_XC axu_sv4_4 := by
  intro ρ hp hE hT
  have j0 : ρ 0 % 4 = 1 := pz_gj hE 0 (Nat.le_of_ble_eq_true rfl) rfl
  have j1 : ρ 1 % 4 = 1 := pz_gj hE 1 (Nat.le_of_ble_eq_true rfl) rfl
  have j2 : ρ 2 % 4 = 1 := pz_gj hE 2 (Nat.le_of_ble_eq_true rfl) rfl
  have j3 : ρ 3 % 4 = 1 := pz_gj hE 3 (Nat.le_of_ble_eq_true rfl) rfl
  have j4 : ρ 4 % 4 = 1 := pz_gj hE 4 (Nat.le_of_ble_eq_true rfl) rfl
  obtain ⟨-, -, -, -, F50⟩ : ay_ex hp 8 ∧ ay_ex hp 10 ∧ ay_ex hp 11 ∧ ay_ex hp 12 ∧ pz_x50 (ρ 0) (ρ 1) (ay_at hp 8 5) (ay_at hp 8 6) (ay_at hp 8 7) (ay_at hp 8 8) (ay_at hp 10 0) (ay_at hp 10 1) (ay_at hp 10 2) (ay_at hp 10 3) (ay_at hp 10 4) (ay_at hp 8 9) (ay_at hp 8 11) (ay_at hp 8 10) (ay_at hp 8 3) (ay_at hp 8 4) (ay_at hp 11) (ay_at hp 12) := (ax_XF_lt (x := 50) (Nat.le_of_ble_eq_true rfl)).mp (ax_gx hE (50, [3, 7]) ax_m0)
  have F42 : py_42 (pz_gt (ρ 0)) (pz_gN (ρ 0)) ((ρ 1) / 4) (ρ 2) (ρ 3) (4008) := (ax_XF_lt (x := 42) (Nat.le_of_ble_eq_true rfl)).mp (ax_gx hE (42, [3, 7, 11, 15, 4008]) ax_m1)
  obtain ⟨-, -, -, F41⟩ : ay_ex hp 10 ∧ ay_ex hp 15 ∧ ay_ex hp 16 ∧ py_x41 (ρ 4) (ay_at hp 10 5) (ay_at hp 15) (ay_at hp 16) := (ax_XF_lt (x := 41) (Nat.le_of_ble_eq_true rfl)).mp (ax_gx hE (41, [19]) ax_m2)
  have F99 : py_99 (ρ 4) (4008) (ρ 3) := (ax_XF_lt (x := 99) (Nat.le_of_ble_eq_true rfl)).mp (ax_gx hE (99, [19, 4008, 15]) ax_m3)
  refine ⟨(fun y hy => by cases hy), _, List.mem_cons_self, ρ, fun _ _ => rfl, ax_px hE rfl (fun y hy => ?_)⟩
  cases List.mem_singleton.mp hy
  refine (ax_XF_lt (x := 47) (Nat.le_of_ble_eq_true rfl)).mpr ?_
  show py_47 (pz_gt (ρ 0)) (pz_gN (ρ 0)) ((ρ 1) / 4) (ρ 2) (ρ 4)
  exact pr_sv F42 F99

theorem axq_sl4_4 : ax_RO ax_wC ax_XC axu_sl4_4 := by
  intro ρ hp hE hT
  have j0 : ρ 0 % 4 = 1 := pz_gj hE 0 (Nat.le_of_ble_eq_true rfl) rfl
  have j1 : ρ 1 % 4 = 1 := pz_gj hE 1 (Nat.le_of_ble_eq_true rfl) rfl
  have j2 : ρ 2 % 4 = 1 := pz_gj hE 2 (Nat.le_of_ble_eq_true rfl) rfl
  have j3 : ρ 3 % 4 = 1 := pz_gj hE 3 (Nat.le_of_ble_eq_true rfl) rfl
  obtain ⟨-, -, -, -, F50⟩ : ay_ex hp 8 ∧ ay_ex hp 10 ∧ ay_ex hp 11 ∧ ay_ex hp 12 ∧ pz_x50 (ρ 0) (ρ 1) (ay_at hp 8 5) (ay_at hp 8 6) (ay_at hp 8 7) (ay_at hp 8 8) (ay_at hp 10 0) (ay_at hp 10 1) (ay_at hp 10 2) (ay_at hp 10 3) (ay_at hp 10 4) (ay_at hp 8 9) (ay_at hp 8 11) (ay_at hp 8 10) (ay_at hp 8 3) (ay_at hp 8 4) (ay_at hp 11) (ay_at hp 12) := (ax_XF_lt (x := 50) (Nat.le_of_ble_eq_true rfl)).mp (ax_gx hE (50, [3, 7]) ax_m0)
  have F79 : pz7 (pz_gt (ρ 0)) (pz_gN (ρ 0)) ((ρ 1) / 4) 9 := (ax_XF_lt (x := 79) (Nat.le_of_ble_eq_true rfl)).mp (ax_gx hE (79, [3, 7]) ax_m1)
  have F42 : py_42 (pz_gt (ρ 0)) (pz_gN (ρ 0)) ((ρ 1) / 4) (ρ 2) (ρ 3) (4008) := (ax_XF_lt (x := 42) (Nat.le_of_ble_eq_true rfl)).mp (ax_gx hE (42, [3, 7, 11, 15, 4008]) ax_m2)
  refine ⟨(fun y hy => by cases hy), _, List.mem_cons_self, ρ, fun _ _ => rfl, ax_px hE rfl (fun y hy => ?_)⟩
  cases List.mem_singleton.mp hy
  refine (ax_XF_lt (x := 40) (Nat.le_of_ble_eq_true rfl)).mpr ?_
  show py_40 (ρ 3)
  exact pr_l42 F79 (by decide) F42

theorem axq_su40_4 : ax_RO ax_wC ax_XC axu_su40_4 := by
  intro ρ hp hE hT
  have j0 : ρ 0 % 4 = 1 := pz_gj hE 0 (Nat.le_of_ble_eq_true rfl) rfl
  have j1 : ρ 1 % 4 = 1 := pz_gj hE 1 (Nat.le_of_ble_eq_true rfl) rfl
  have j2 : ρ 2 % 4 = 1 := pz_gj hE 2 (Nat.le_of_ble_eq_true rfl) rfl
  have j3 : ρ 3 % 4 = 1 := pz_gj hE 3 (Nat.le_of_ble_eq_true rfl) rfl
  have j4 : ρ 4 % 4 = 1 := pz_gj hE 4 (Nat.le_of_ble_eq_true rfl) rfl
  obtain ⟨-, -, -, -, F50⟩ : ay_ex hp 8 ∧ ay_ex hp 10 ∧ ay_ex hp 11 ∧ ay_ex hp 12 ∧ pz_x50 (ρ 0) (ρ 1) (ay_at hp 8 5) (ay_at hp 8 6) (ay_at hp 8 7) (ay_at hp 8 8) (ay_at hp 10 0) (ay_at hp 10 1) (ay_at hp 10 2) (ay_at hp 10 3) (ay_at hp 10 4) (ay_at hp 8 9) (ay_at hp 8 11) (ay_at hp 8 10) (ay_at hp 8 3) (ay_at hp 8 4) (ay_at hp 11) (ay_at hp 12) := (ax_XF_lt (x := 50) (Nat.le_of_ble_eq_true rfl)).mp (ax_gx hE (50, [3, 7]) ax_m0)
  have F98 : (ρ 2) / 4 = (ρ 1) / 4 + 1 := (ax_XF_lt (x := 98) (Nat.le_of_ble_eq_true rfl)).mp (ax_gx hE (98, [7, 11]) ax_m1)
  have F78 : pz7 (pz_gt (ρ 0)) (pz_gN (ρ 0)) ((ρ 2) / 4) 8 := (ax_XF_lt (x := 78) (Nat.le_of_ble_eq_true rfl)).mp (ax_gx hE (78, [3, 11]) ax_m2)
  have F78a : pz7 (pz_gt (ρ 0)) (pz_gN (ρ 0)) ((ρ 1) / 4) 8 := (ax_XF_lt (x := 78) (Nat.le_of_ble_eq_true rfl)).mp (ax_gx hE (78, [3, 7]) ax_m3)
  have F107 : pz107 (pz_gt (ρ 0)) (pz_gN (ρ 0)) ((ρ 1) / 4) ((160) / 4) := (ax_XF_lt (x := 107) (Nat.le_of_ble_eq_true rfl)).mp (ax_gx hE (107, [3, 7, 160]) ax_m4)
  have F46 : py_46 (pz_gt (ρ 0)) (pz_gN (ρ 0)) ((ρ 1) / 4) (ρ 3) (ρ 4) := (ax_XF_lt (x := 46) (Nat.le_of_ble_eq_true rfl)).mp (ax_gx hE (46, [3, 7, 15, 19]) ax_m5)
  rw [F98] at F78
  obtain ⟨ρ', h1, h2⟩ := pz_pn1 (K := ρ 3 / 4 * 4096 + 1009) (xf := [(46, [3, 11, 23, 19]), (99, [23, 4036, 15]), (45, [23])]) hE (by decide) (fun ρ' h1 h2 x hx => by
    have q0 : ρ' 0 = ρ 0 := h1 0 (by decide)
    have q1 : ρ' 1 = ρ 1 := h1 1 (by decide)
    have q2 : ρ' 2 = ρ 2 := h1 2 (by decide)
    have q3 : ρ' 3 = ρ 3 := h1 3 (by decide)
    have q4 : ρ' 4 = ρ 4 := h1 4 (by decide)
    rcases List.mem_cons.mp hx with e | hx
    · subst e
      refine (ax_XF_lt (x := 46) (Nat.le_of_ble_eq_true rfl)).mpr ?_
      show py_46 (pz_gt (ρ' 0)) (pz_gN (ρ' 0)) ((ρ' 2) / 4) (ρ' 5) (ρ' 4)
      rw [q0, q2, q4, h2]
      rw [F98]
      exact pr_suO F78a (pr_k40 F107) F78 (by decide) F46 ⟨pz_41 _, F46.2.1, by decide⟩
    rcases List.mem_cons.mp hx with e | hx
    · subst e
      refine (ax_XF_lt (x := 99) (Nat.le_of_ble_eq_true rfl)).mpr ?_
      show py_99 (ρ' 5) (4036) (ρ' 3)
      rw [q3, h2]
      exact ⟨pz_41 _, F46.2.1, by decide⟩
    cases List.mem_singleton.mp hx
    refine (ax_XF_lt (x := 45) (Nat.le_of_ble_eq_true rfl)).mpr ?_
    show py_44 1 (ρ' 5)
    rw [h2]
    exact pr_44 (c := 4036) (s := ρ 3) ⟨pz_41 _, F46.2.1, by decide⟩ (by decide) (by decide))
  exact ⟨(fun y hy => by cases hy), _, List.mem_cons_self, ρ', h1, h2⟩

theorem axq_su5_4 : ax_RO ax_wC ax_XC axu_su5_4 := by
  intro ρ hp hE hT
  have j0 : ρ 0 % 4 = 1 := pz_gj hE 0 (Nat.le_of_ble_eq_true rfl) rfl
  have j1 : ρ 1 % 4 = 1 := pz_gj hE 1 (Nat.le_of_ble_eq_true rfl) rfl
  have j2 : ρ 2 % 4 = 1 := pz_gj hE 2 (Nat.le_of_ble_eq_true rfl) rfl
  have j3 : ρ 3 % 4 = 1 := pz_gj hE 3 (Nat.le_of_ble_eq_true rfl) rfl
  have j4 : ρ 4 % 4 = 1 := pz_gj hE 4 (Nat.le_of_ble_eq_true rfl) rfl
  obtain ⟨-, -, -, -, F50⟩ : ay_ex hp 8 ∧ ay_ex hp 10 ∧ ay_ex hp 11 ∧ ay_ex hp 12 ∧ pz_x50 (ρ 0) (ρ 1) (ay_at hp 8 5) (ay_at hp 8 6) (ay_at hp 8 7) (ay_at hp 8 8) (ay_at hp 10 0) (ay_at hp 10 1) (ay_at hp 10 2) (ay_at hp 10 3) (ay_at hp 10 4) (ay_at hp 8 9) (ay_at hp 8 11) (ay_at hp 8 10) (ay_at hp 8 3) (ay_at hp 8 4) (ay_at hp 11) (ay_at hp 12) := (ax_XF_lt (x := 50) (Nat.le_of_ble_eq_true rfl)).mp (ax_gx hE (50, [3, 7]) ax_m0)
  have F98 : (ρ 2) / 4 = (ρ 1) / 4 + 1 := (ax_XF_lt (x := 98) (Nat.le_of_ble_eq_true rfl)).mp (ax_gx hE (98, [7, 11]) ax_m1)
  have F78 : pz7 (pz_gt (ρ 0)) (pz_gN (ρ 0)) ((ρ 2) / 4) 8 := (ax_XF_lt (x := 78) (Nat.le_of_ble_eq_true rfl)).mp (ax_gx hE (78, [3, 11]) ax_m2)
  have F78a : pz7 (pz_gt (ρ 0)) (pz_gN (ρ 0)) ((ρ 1) / 4) 8 := (ax_XF_lt (x := 78) (Nat.le_of_ble_eq_true rfl)).mp (ax_gx hE (78, [3, 7]) ax_m3)
  have F107 : pz107 (pz_gt (ρ 0)) (pz_gN (ρ 0)) ((ρ 1) / 4) ((20) / 4) := (ax_XF_lt (x := 107) (Nat.le_of_ble_eq_true rfl)).mp (ax_gx hE (107, [3, 7, 20]) ax_m4)
  have F46 : py_46 (pz_gt (ρ 0)) (pz_gN (ρ 0)) ((ρ 1) / 4) (ρ 3) (ρ 4) := (ax_XF_lt (x := 46) (Nat.le_of_ble_eq_true rfl)).mp (ax_gx hE (46, [3, 7, 15, 19]) ax_m5)
  rw [F98] at F78
  obtain ⟨ρ', h1, h2⟩ := pz_pn1 (K := ρ 3 / 4 * 4096 + 1008) (xf := [(46, [3, 11, 23, 19]), (99, [23, 4032, 15])]) hE (by decide) (fun ρ' h1 h2 x hx => by
    have q0 : ρ' 0 = ρ 0 := h1 0 (by decide)
    have q1 : ρ' 1 = ρ 1 := h1 1 (by decide)
    have q2 : ρ' 2 = ρ 2 := h1 2 (by decide)
    have q3 : ρ' 3 = ρ 3 := h1 3 (by decide)
    have q4 : ρ' 4 = ρ 4 := h1 4 (by decide)
    rcases List.mem_cons.mp hx with e | hx
    · subst e
      refine (ax_XF_lt (x := 46) (Nat.le_of_ble_eq_true rfl)).mpr ?_
      show py_46 (pz_gt (ρ' 0)) (pz_gN (ρ' 0)) ((ρ' 2) / 4) (ρ' 5) (ρ' 4)
      rw [q0, q2, q4, h2]
      rw [F98]
      exact pr_suM F78a (pr_k5 F107) F78 (by decide) F46 ⟨pz_41 _, F46.2.1, by decide⟩
    cases List.mem_singleton.mp hx
    refine (ax_XF_lt (x := 99) (Nat.le_of_ble_eq_true rfl)).mpr ?_
    show py_99 (ρ' 5) (4032) (ρ' 3)
    rw [q3, h2]
    exact ⟨pz_41 _, F46.2.1, by decide⟩)
  exact ⟨(fun y hy => by cases hy), _, List.mem_cons_self, ρ', h1, h2⟩

theorem axq_sl5_4 : ax_RO ax_wC ax_XC axu_sl5_4 := by
  intro ρ hp hE hT
  have j0 : ρ 0 % 4 = 1 := pz_gj hE 0 (Nat.le_of_ble_eq_true rfl) rfl
  have j1 : ρ 1 % 4 = 1 := pz_gj hE 1 (Nat.le_of_ble_eq_true rfl) rfl
  have j2 : ρ 2 % 4 = 1 := pz_gj hE 2 (Nat.le_of_ble_eq_true rfl) rfl
  have j3 : ρ 3 % 4 = 1 := pz_gj hE 3 (Nat.le_of_ble_eq_true rfl) rfl
  obtain ⟨-, -, -, -, F50⟩ : ay_ex hp 8 ∧ ay_ex hp 10 ∧ ay_ex hp 11 ∧ ay_ex hp 12 ∧ pz_x50 (ρ 0) (ρ 1) (ay_at hp 8 5) (ay_at hp 8 6) (ay_at hp 8 7) (ay_at hp 8 8) (ay_at hp 10 0) (ay_at hp 10 1) (ay_at hp 10 2) (ay_at hp 10 3) (ay_at hp 10 4) (ay_at hp 8 9) (ay_at hp 8 11) (ay_at hp 8 10) (ay_at hp 8 3) (ay_at hp 8 4) (ay_at hp 11) (ay_at hp 12) := (ax_XF_lt (x := 50) (Nat.le_of_ble_eq_true rfl)).mp (ax_gx hE (50, [3, 7]) ax_m0)
  have F79 : pz7 (pz_gt (ρ 0)) (pz_gN (ρ 0)) ((ρ 1) / 4) 9 := (ax_XF_lt (x := 79) (Nat.le_of_ble_eq_true rfl)).mp (ax_gx hE (79, [3, 7]) ax_m1)
  have F47 : py_47 (pz_gt (ρ 0)) (pz_gN (ρ 0)) ((ρ 1) / 4) (ρ 2) (ρ 3) := (ax_XF_lt (x := 47) (Nat.le_of_ble_eq_true rfl)).mp (ax_gx hE (47, [3, 7, 11, 15]) ax_m2)
  refine ⟨(fun y hy => by cases hy), _, List.mem_cons_self, ρ, fun _ _ => rfl, ax_px hE rfl (fun y hy => ?_)⟩
  cases List.mem_singleton.mp hy
  refine (ax_XF_lt (x := 40) (Nat.le_of_ble_eq_true rfl)).mpr ?_
  show py_40 (ρ 3)
  exact pr_l47 F79 (by decide) F47

theorem axq_sv5_4 : ax_RO ax_wC ax_XC axu_sv5_4 := by
  intro ρ hp hE hT
  have j0 : ρ 0 % 4 = 1 := pz_gj hE 0 (Nat.le_of_ble_eq_true rfl) rfl
  have j1 : ρ 1 % 4 = 1 := pz_gj hE 1 (Nat.le_of_ble_eq_true rfl) rfl
  have j2 : ρ 2 % 4 = 1 := pz_gj hE 2 (Nat.le_of_ble_eq_true rfl) rfl
  have j3 : ρ 3 % 4 = 1 := pz_gj hE 3 (Nat.le_of_ble_eq_true rfl) rfl
  have j4 : ρ 4 % 4 = 1 := pz_gj hE 4 (Nat.le_of_ble_eq_true rfl) rfl
  have j5 : ρ 5 % 4 = 1 := pz_gj hE 5 (Nat.le_of_ble_eq_true rfl) rfl
  obtain ⟨-, -, -, -, F50⟩ : ay_ex hp 8 ∧ ay_ex hp 10 ∧ ay_ex hp 11 ∧ ay_ex hp 12 ∧ pz_x50 (ρ 0) (ρ 1) (ay_at hp 8 5) (ay_at hp 8 6) (ay_at hp 8 7) (ay_at hp 8 8) (ay_at hp 10 0) (ay_at hp 10 1) (ay_at hp 10 2) (ay_at hp 10 3) (ay_at hp 10 4) (ay_at hp 8 9) (ay_at hp 8 11) (ay_at hp 8 10) (ay_at hp 8 3) (ay_at hp 8 4) (ay_at hp 11) (ay_at hp 12) := (ax_XF_lt (x := 50) (Nat.le_of_ble_eq_true rfl)).mp (ax_gx hE (50, [3, 7]) ax_m0)
  have F47 : py_47 (pz_gt (ρ 0)) (pz_gN (ρ 0)) ((ρ 1) / 4) (ρ 3) (ρ 4) := (ax_XF_lt (x := 47) (Nat.le_of_ble_eq_true rfl)).mp (ax_gx hE (47, [3, 7, 15, 19]) ax_m1)
  have F99 : py_99 (ρ 3) (4032) (ρ 2) := (ax_XF_lt (x := 99) (Nat.le_of_ble_eq_true rfl)).mp (ax_gx hE (99, [15, 4032, 11]) ax_m2)
  obtain ⟨-, -, -, F41⟩ : ay_ex hp 10 ∧ ay_ex hp 15 ∧ ay_ex hp 16 ∧ py_x41 (ρ 5) (ay_at hp 10 5) (ay_at hp 15) (ay_at hp 16) := (ax_XF_lt (x := 41) (Nat.le_of_ble_eq_true rfl)).mp (ax_gx hE (41, [23]) ax_m3)
  have F99a : py_99 (ρ 5) (4032) (ρ 4) := (ax_XF_lt (x := 99) (Nat.le_of_ble_eq_true rfl)).mp (ax_gx hE (99, [23, 4032, 19]) ax_m4)
  refine ⟨(fun y hy => by cases hy), _, List.mem_cons_self, ρ, fun _ _ => rfl, ax_px hE rfl (fun y hy => ?_)⟩
  cases List.mem_singleton.mp hy
  refine (ax_XF_lt (x := 47) (Nat.le_of_ble_eq_true rfl)).mpr ?_
  show py_47 (pz_gt (ρ 0)) (pz_gN (ρ 0)) ((ρ 1) / 4) (ρ 2) (ρ 5)
  exact pr_sv5 F47 F99 F99a

theorem axq_su1_5 : ax_RO ax_wC ax_XC axu_su1_5 := by
  intro ρ hp hE hT
  have j0 : ρ 0 % 4 = 1 := pz_gj hE 0 (Nat.le_of_ble_eq_true rfl) rfl
  have j1 : ρ 1 % 4 = 1 := pz_gj hE 1 (Nat.le_of_ble_eq_true rfl) rfl
  have j2 : ρ 2 % 4 = 1 := pz_gj hE 2 (Nat.le_of_ble_eq_true rfl) rfl
  have j3 : ρ 3 % 4 = 1 := pz_gj hE 3 (Nat.le_of_ble_eq_true rfl) rfl
  have j4 : ρ 4 % 4 = 1 := pz_gj hE 4 (Nat.le_of_ble_eq_true rfl) rfl
  obtain ⟨i5a, i5b, i5c, i5d⟩ := pz_gi hE 5 2147483648 2147484647 (Nat.le_of_ble_eq_true rfl) rfl
  have c_value : ay_at hp 8 8 = some (ρ 5) := ay_gfj hE 42 32 23 8 8 ax_m6 (ax_vlq rfl rfl) (ax_vlj rfl rfl)
  obtain ⟨-, -, -, -, F50⟩ : ay_ex hp 8 ∧ ay_ex hp 10 ∧ ay_ex hp 11 ∧ ay_ex hp 12 ∧ pz_x50 (ρ 0) (ρ 1) (ay_at hp 8 5) (ay_at hp 8 6) (ay_at hp 8 7) (ay_at hp 8 8) (ay_at hp 10 0) (ay_at hp 10 1) (ay_at hp 10 2) (ay_at hp 10 3) (ay_at hp 10 4) (ay_at hp 8 9) (ay_at hp 8 11) (ay_at hp 8 10) (ay_at hp 8 3) (ay_at hp 8 4) (ay_at hp 11) (ay_at hp 12) := (ax_XF_lt (x := 50) (Nat.le_of_ble_eq_true rfl)).mp (ax_gx hE (50, [3, 7]) ax_m0)
  rw [c_value] at F50
  have F98 : (ρ 2) / 4 = (ρ 1) / 4 + 1 := (ax_XF_lt (x := 98) (Nat.le_of_ble_eq_true rfl)).mp (ax_gx hE (98, [7, 11]) ax_m1)
  have F79 : pz7 (pz_gt (ρ 0)) (pz_gN (ρ 0)) ((ρ 2) / 4) 9 := (ax_XF_lt (x := 79) (Nat.le_of_ble_eq_true rfl)).mp (ax_gx hE (79, [3, 11]) ax_m2)
  have F78 : pz7 (pz_gt (ρ 0)) (pz_gN (ρ 0)) ((ρ 1) / 4) 8 := (ax_XF_lt (x := 78) (Nat.le_of_ble_eq_true rfl)).mp (ax_gx hE (78, [3, 7]) ax_m3)
  have F107 : pz107 (pz_gt (ρ 0)) (pz_gN (ρ 0)) ((ρ 1) / 4) ((4) / 4) := (ax_XF_lt (x := 107) (Nat.le_of_ble_eq_true rfl)).mp (ax_gx hE (107, [3, 7, 4]) ax_m4)
  have F46 : py_46 (pz_gt (ρ 0)) (pz_gN (ρ 0)) ((ρ 1) / 4) (ρ 3) (ρ 4) := (ax_XF_lt (x := 46) (Nat.le_of_ble_eq_true rfl)).mp (ax_gx hE (46, [3, 7, 15, 19]) ax_m5)
  refine ⟨(fun y hy => by cases hy), _, List.mem_cons_self, ρ, fun _ _ => rfl, ax_px hE rfl (fun y hy => ?_)⟩
  cases List.mem_singleton.mp hy
  refine (ax_XF_lt (x := 42) (Nat.le_of_ble_eq_true rfl)).mpr ?_
  show py_42 (pz_gt (ρ 0)) (pz_gN (ρ 0)) ((ρ 2) / 4) (ρ 3) (ρ 4) (ρ 5)
  have kd := pr_k1 F107
  have vl := pz_mc (F50.2.2.2.1 (F50.2.2.1.trans kd))
  replace vl : (ρ 5 / 4 ≤ 1000 ∧ pz_vl (pz_gt (ρ 0)) (pz_gN (ρ 0)) (pz_p (pz_cf (pz_gt (ρ 0)) (pz_gN (ρ 0)) (ρ 1 / 4))) = ρ 5 / 4) ∨ (1000 < ρ 5 / 4 ∧ pz_vl (pz_gt (ρ 0)) (pz_gN (ρ 0)) (pz_p (pz_cf (pz_gt (ρ 0)) (pz_gN (ρ 0)) (ρ 1 / 4))) = 1000) := vl
  rw [F98] at F79 ⊢
  exact pr_su F78 (by rw [kd]; decide) (by rw [kd]; decide) F79 (by decide) F46 (by rw [pr_un1 F107]; omega) (by omega)

theorem axq_sv1_5 : ax_RO ax_wC ax_XC axu_sv1_5 := by
  intro ρ hp hE hT
  have j0 : ρ 0 % 4 = 1 := pz_gj hE 0 (Nat.le_of_ble_eq_true rfl) rfl
  have j1 : ρ 1 % 4 = 1 := pz_gj hE 1 (Nat.le_of_ble_eq_true rfl) rfl
  have j2 : ρ 2 % 4 = 1 := pz_gj hE 2 (Nat.le_of_ble_eq_true rfl) rfl
  have j3 : ρ 3 % 4 = 1 := pz_gj hE 3 (Nat.le_of_ble_eq_true rfl) rfl
  have j4 : ρ 4 % 4 = 1 := pz_gj hE 4 (Nat.le_of_ble_eq_true rfl) rfl
  obtain ⟨i5a, i5b, i5c, i5d⟩ := pz_gi hE 5 2147483648 2147484647 (Nat.le_of_ble_eq_true rfl) rfl
  obtain ⟨-, -, -, -, F50⟩ : ay_ex hp 8 ∧ ay_ex hp 10 ∧ ay_ex hp 11 ∧ ay_ex hp 12 ∧ pz_x50 (ρ 0) (ρ 1) (ay_at hp 8 5) (ay_at hp 8 6) (ay_at hp 8 7) (ay_at hp 8 8) (ay_at hp 10 0) (ay_at hp 10 1) (ay_at hp 10 2) (ay_at hp 10 3) (ay_at hp 10 4) (ay_at hp 8 9) (ay_at hp 8 11) (ay_at hp 8 10) (ay_at hp 8 3) (ay_at hp 8 4) (ay_at hp 11) (ay_at hp 12) := (ax_XF_lt (x := 50) (Nat.le_of_ble_eq_true rfl)).mp (ax_gx hE (50, [3, 7]) ax_m0)
  have F42 : py_42 (pz_gt (ρ 0)) (pz_gN (ρ 0)) ((ρ 1) / 4) (ρ 2) (ρ 3) (ρ 5) := (ax_XF_lt (x := 42) (Nat.le_of_ble_eq_true rfl)).mp (ax_gx hE (42, [3, 7, 11, 15, 23]) ax_m1)
  obtain ⟨-, -, -, F41⟩ : ay_ex hp 10 ∧ ay_ex hp 15 ∧ ay_ex hp 16 ∧ py_x41 (ρ 4) (ay_at hp 10 5) (ay_at hp 15) (ay_at hp 16) := (ax_XF_lt (x := 41) (Nat.le_of_ble_eq_true rfl)).mp (ax_gx hE (41, [19]) ax_m2)
  have F99 : py_99 (ρ 4) (ρ 5) (ρ 3) := (ax_XF_lt (x := 99) (Nat.le_of_ble_eq_true rfl)).mp (ax_gx hE (99, [19, 23, 15]) ax_m3)
  refine ⟨(fun y hy => by cases hy), _, List.mem_cons_self, ρ, fun _ _ => rfl, ax_px hE rfl (fun y hy => ?_)⟩
  cases List.mem_singleton.mp hy
  refine (ax_XF_lt (x := 47) (Nat.le_of_ble_eq_true rfl)).mpr ?_
  show py_47 (pz_gt (ρ 0)) (pz_gN (ρ 0)) ((ρ 1) / 4) (ρ 2) (ρ 4)
  exact pr_sv F42 F99

theorem axq_sl1_5 : ax_RO ax_wC ax_XC axu_sl1_5 := by
  intro ρ hp hE hT
  have j0 : ρ 0 % 4 = 1 := pz_gj hE 0 (Nat.le_of_ble_eq_true rfl) rfl
  have j1 : ρ 1 % 4 = 1 := pz_gj hE 1 (Nat.le_of_ble_eq_true rfl) rfl
  have j2 : ρ 2 % 4 = 1 := pz_gj hE 2 (Nat.le_of_ble_eq_true rfl) rfl
  have j3 : ρ 3 % 4 = 1 := pz_gj hE 3 (Nat.le_of_ble_eq_true rfl) rfl
  obtain ⟨i4a, i4b, i4c, i4d⟩ := pz_gi hE 4 2147483648 2147484647 (Nat.le_of_ble_eq_true rfl) rfl
  obtain ⟨-, -, -, -, F50⟩ : ay_ex hp 8 ∧ ay_ex hp 10 ∧ ay_ex hp 11 ∧ ay_ex hp 12 ∧ pz_x50 (ρ 0) (ρ 1) (ay_at hp 8 5) (ay_at hp 8 6) (ay_at hp 8 7) (ay_at hp 8 8) (ay_at hp 10 0) (ay_at hp 10 1) (ay_at hp 10 2) (ay_at hp 10 3) (ay_at hp 10 4) (ay_at hp 8 9) (ay_at hp 8 11) (ay_at hp 8 10) (ay_at hp 8 3) (ay_at hp 8 4) (ay_at hp 11) (ay_at hp 12) := (ax_XF_lt (x := 50) (Nat.le_of_ble_eq_true rfl)).mp (ax_gx hE (50, [3, 7]) ax_m0)
  have F79 : pz7 (pz_gt (ρ 0)) (pz_gN (ρ 0)) ((ρ 1) / 4) 9 := (ax_XF_lt (x := 79) (Nat.le_of_ble_eq_true rfl)).mp (ax_gx hE (79, [3, 7]) ax_m1)
  have F42 : py_42 (pz_gt (ρ 0)) (pz_gN (ρ 0)) ((ρ 1) / 4) (ρ 2) (ρ 3) (ρ 4) := (ax_XF_lt (x := 42) (Nat.le_of_ble_eq_true rfl)).mp (ax_gx hE (42, [3, 7, 11, 15, 19]) ax_m2)
  refine ⟨(fun y hy => by cases hy), _, List.mem_cons_self, ρ, fun _ _ => rfl, ax_px hE rfl (fun y hy => ?_)⟩
  cases List.mem_singleton.mp hy
  refine (ax_XF_lt (x := 40) (Nat.le_of_ble_eq_true rfl)).mpr ?_
  show py_40 (ρ 3)
  exact pr_l42 F79 (by decide) F42

theorem axq_su2_5 : ax_RO ax_wC ax_XC axu_su2_5 := by
  intro ρ hp hE hT
  have j0 : ρ 0 % 4 = 1 := pz_gj hE 0 (Nat.le_of_ble_eq_true rfl) rfl
  have j1 : ρ 1 % 4 = 1 := pz_gj hE 1 (Nat.le_of_ble_eq_true rfl) rfl
  have j2 : ρ 2 % 4 = 1 := pz_gj hE 2 (Nat.le_of_ble_eq_true rfl) rfl
  have j3 : ρ 3 % 4 = 1 := pz_gj hE 3 (Nat.le_of_ble_eq_true rfl) rfl
  have j4 : ρ 4 % 4 = 1 := pz_gj hE 4 (Nat.le_of_ble_eq_true rfl) rfl
  obtain ⟨-, -, -, -, F50⟩ : ay_ex hp 8 ∧ ay_ex hp 10 ∧ ay_ex hp 11 ∧ ay_ex hp 12 ∧ pz_x50 (ρ 0) (ρ 1) (ay_at hp 8 5) (ay_at hp 8 6) (ay_at hp 8 7) (ay_at hp 8 8) (ay_at hp 10 0) (ay_at hp 10 1) (ay_at hp 10 2) (ay_at hp 10 3) (ay_at hp 10 4) (ay_at hp 8 9) (ay_at hp 8 11) (ay_at hp 8 10) (ay_at hp 8 3) (ay_at hp 8 4) (ay_at hp 11) (ay_at hp 12) := (ax_XF_lt (x := 50) (Nat.le_of_ble_eq_true rfl)).mp (ax_gx hE (50, [3, 7]) ax_m0)
  have F98 : (ρ 2) / 4 = (ρ 1) / 4 + 1 := (ax_XF_lt (x := 98) (Nat.le_of_ble_eq_true rfl)).mp (ax_gx hE (98, [7, 11]) ax_m1)
  have F79 : pz7 (pz_gt (ρ 0)) (pz_gN (ρ 0)) ((ρ 2) / 4) 9 := (ax_XF_lt (x := 79) (Nat.le_of_ble_eq_true rfl)).mp (ax_gx hE (79, [3, 11]) ax_m2)
  have F78 : pz7 (pz_gt (ρ 0)) (pz_gN (ρ 0)) ((ρ 1) / 4) 8 := (ax_XF_lt (x := 78) (Nat.le_of_ble_eq_true rfl)).mp (ax_gx hE (78, [3, 7]) ax_m3)
  have F107 : pz107 (pz_gt (ρ 0)) (pz_gN (ρ 0)) ((ρ 1) / 4) ((8) / 4) := (ax_XF_lt (x := 107) (Nat.le_of_ble_eq_true rfl)).mp (ax_gx hE (107, [3, 7, 8]) ax_m4)
  have F46 : py_46 (pz_gt (ρ 0)) (pz_gN (ρ 0)) ((ρ 1) / 4) (ρ 3) (ρ 4) := (ax_XF_lt (x := 46) (Nat.le_of_ble_eq_true rfl)).mp (ax_gx hE (46, [3, 7, 15, 19]) ax_m5)
  refine ⟨(fun y hy => by cases hy), _, List.mem_cons_self, ρ, fun _ _ => rfl, ax_px hE rfl (fun y hy => ?_)⟩
  cases List.mem_singleton.mp hy
  refine (ax_XF_lt (x := 42) (Nat.le_of_ble_eq_true rfl)).mpr ?_
  show py_42 (pz_gt (ρ 0)) (pz_gN (ρ 0)) ((ρ 2) / 4) (ρ 3) (ρ 4) (4000)
  have kd := (pr_w (by decide) F107).1
  rw [F98] at F79 ⊢
  exact pr_su F78 (by rw [kd]; decide) (by rw [kd]; decide) F79 (by decide) F46 (by rw [pr_unw (by decide) F107]) (by decide)

theorem axq_sv2_5 : ax_RO ax_wC ax_XC axu_sv2_5 := by
  intro ρ hp hE hT
  have j0 : ρ 0 % 4 = 1 := pz_gj hE 0 (Nat.le_of_ble_eq_true rfl) rfl
  have j1 : ρ 1 % 4 = 1 := pz_gj hE 1 (Nat.le_of_ble_eq_true rfl) rfl
  have j2 : ρ 2 % 4 = 1 := pz_gj hE 2 (Nat.le_of_ble_eq_true rfl) rfl
  have j3 : ρ 3 % 4 = 1 := pz_gj hE 3 (Nat.le_of_ble_eq_true rfl) rfl
  have j4 : ρ 4 % 4 = 1 := pz_gj hE 4 (Nat.le_of_ble_eq_true rfl) rfl
  obtain ⟨-, -, -, -, F50⟩ : ay_ex hp 8 ∧ ay_ex hp 10 ∧ ay_ex hp 11 ∧ ay_ex hp 12 ∧ pz_x50 (ρ 0) (ρ 1) (ay_at hp 8 5) (ay_at hp 8 6) (ay_at hp 8 7) (ay_at hp 8 8) (ay_at hp 10 0) (ay_at hp 10 1) (ay_at hp 10 2) (ay_at hp 10 3) (ay_at hp 10 4) (ay_at hp 8 9) (ay_at hp 8 11) (ay_at hp 8 10) (ay_at hp 8 3) (ay_at hp 8 4) (ay_at hp 11) (ay_at hp 12) := (ax_XF_lt (x := 50) (Nat.le_of_ble_eq_true rfl)).mp (ax_gx hE (50, [3, 7]) ax_m0)
  have F42 : py_42 (pz_gt (ρ 0)) (pz_gN (ρ 0)) ((ρ 1) / 4) (ρ 2) (ρ 3) (4000) := (ax_XF_lt (x := 42) (Nat.le_of_ble_eq_true rfl)).mp (ax_gx hE (42, [3, 7, 11, 15, 4000]) ax_m1)
  obtain ⟨-, -, -, F41⟩ : ay_ex hp 10 ∧ ay_ex hp 15 ∧ ay_ex hp 16 ∧ py_x41 (ρ 4) (ay_at hp 10 5) (ay_at hp 15) (ay_at hp 16) := (ax_XF_lt (x := 41) (Nat.le_of_ble_eq_true rfl)).mp (ax_gx hE (41, [19]) ax_m2)
  have F99 : py_99 (ρ 4) (4000) (ρ 3) := (ax_XF_lt (x := 99) (Nat.le_of_ble_eq_true rfl)).mp (ax_gx hE (99, [19, 4000, 15]) ax_m3)
  refine ⟨(fun y hy => by cases hy), _, List.mem_cons_self, ρ, fun _ _ => rfl, ax_px hE rfl (fun y hy => ?_)⟩
  cases List.mem_singleton.mp hy
  refine (ax_XF_lt (x := 47) (Nat.le_of_ble_eq_true rfl)).mpr ?_
  show py_47 (pz_gt (ρ 0)) (pz_gN (ρ 0)) ((ρ 1) / 4) (ρ 2) (ρ 4)
  exact pr_sv F42 F99

theorem axq_sl2_5 : ax_RO ax_wC ax_XC axu_sl2_5 := by
  intro ρ hp hE hT
  have j0 : ρ 0 % 4 = 1 := pz_gj hE 0 (Nat.le_of_ble_eq_true rfl) rfl
  have j1 : ρ 1 % 4 = 1 := pz_gj hE 1 (Nat.le_of_ble_eq_true rfl) rfl
  have j2 : ρ 2 % 4 = 1 := pz_gj hE 2 (Nat.le_of_ble_eq_true rfl) rfl
  have j3 : ρ 3 % 4 = 1 := pz_gj hE 3 (Nat.le_of_ble_eq_true rfl) rfl
  obtain ⟨-, -, -, -, F50⟩ : ay_ex hp 8 ∧ ay_ex hp 10 ∧ ay_ex hp 11 ∧ ay_ex hp 12 ∧ pz_x50 (ρ 0) (ρ 1) (ay_at hp 8 5) (ay_at hp 8 6) (ay_at hp 8 7) (ay_at hp 8 8) (ay_at hp 10 0) (ay_at hp 10 1) (ay_at hp 10 2) (ay_at hp 10 3) (ay_at hp 10 4) (ay_at hp 8 9) (ay_at hp 8 11) (ay_at hp 8 10) (ay_at hp 8 3) (ay_at hp 8 4) (ay_at hp 11) (ay_at hp 12) := (ax_XF_lt (x := 50) (Nat.le_of_ble_eq_true rfl)).mp (ax_gx hE (50, [3, 7]) ax_m0)
  have F79 : pz7 (pz_gt (ρ 0)) (pz_gN (ρ 0)) ((ρ 1) / 4) 9 := (ax_XF_lt (x := 79) (Nat.le_of_ble_eq_true rfl)).mp (ax_gx hE (79, [3, 7]) ax_m1)
  have F42 : py_42 (pz_gt (ρ 0)) (pz_gN (ρ 0)) ((ρ 1) / 4) (ρ 2) (ρ 3) (4000) := (ax_XF_lt (x := 42) (Nat.le_of_ble_eq_true rfl)).mp (ax_gx hE (42, [3, 7, 11, 15, 4000]) ax_m2)
  refine ⟨(fun y hy => by cases hy), _, List.mem_cons_self, ρ, fun _ _ => rfl, ax_px hE rfl (fun y hy => ?_)⟩
  cases List.mem_singleton.mp hy
  refine (ax_XF_lt (x := 40) (Nat.le_of_ble_eq_true rfl)).mpr ?_
  show py_40 (ρ 3)
  exact pr_l42 F79 (by decide) F42

theorem axq_su3_5 : ax_RO ax_wC ax_XC axu_su3_5 := by
  intro ρ hp hE hT
  have j0 : ρ 0 % 4 = 1 := pz_gj hE 0 (Nat.le_of_ble_eq_true rfl) rfl
  have j1 : ρ 1 % 4 = 1 := pz_gj hE 1 (Nat.le_of_ble_eq_true rfl) rfl
  have j2 : ρ 2 % 4 = 1 := pz_gj hE 2 (Nat.le_of_ble_eq_true rfl) rfl
  have j3 : ρ 3 % 4 = 1 := pz_gj hE 3 (Nat.le_of_ble_eq_true rfl) rfl
  have j4 : ρ 4 % 4 = 1 := pz_gj hE 4 (Nat.le_of_ble_eq_true rfl) rfl
  obtain ⟨-, -, -, -, F50⟩ : ay_ex hp 8 ∧ ay_ex hp 10 ∧ ay_ex hp 11 ∧ ay_ex hp 12 ∧ pz_x50 (ρ 0) (ρ 1) (ay_at hp 8 5) (ay_at hp 8 6) (ay_at hp 8 7) (ay_at hp 8 8) (ay_at hp 10 0) (ay_at hp 10 1) (ay_at hp 10 2) (ay_at hp 10 3) (ay_at hp 10 4) (ay_at hp 8 9) (ay_at hp 8 11) (ay_at hp 8 10) (ay_at hp 8 3) (ay_at hp 8 4) (ay_at hp 11) (ay_at hp 12) := (ax_XF_lt (x := 50) (Nat.le_of_ble_eq_true rfl)).mp (ax_gx hE (50, [3, 7]) ax_m0)
  have F98 : (ρ 2) / 4 = (ρ 1) / 4 + 1 := (ax_XF_lt (x := 98) (Nat.le_of_ble_eq_true rfl)).mp (ax_gx hE (98, [7, 11]) ax_m1)
  have F79 : pz7 (pz_gt (ρ 0)) (pz_gN (ρ 0)) ((ρ 2) / 4) 9 := (ax_XF_lt (x := 79) (Nat.le_of_ble_eq_true rfl)).mp (ax_gx hE (79, [3, 11]) ax_m2)
  have F78 : pz7 (pz_gt (ρ 0)) (pz_gN (ρ 0)) ((ρ 1) / 4) 8 := (ax_XF_lt (x := 78) (Nat.le_of_ble_eq_true rfl)).mp (ax_gx hE (78, [3, 7]) ax_m3)
  have F107 : pz107 (pz_gt (ρ 0)) (pz_gN (ρ 0)) ((ρ 1) / 4) ((12) / 4) := (ax_XF_lt (x := 107) (Nat.le_of_ble_eq_true rfl)).mp (ax_gx hE (107, [3, 7, 12]) ax_m4)
  have F46 : py_46 (pz_gt (ρ 0)) (pz_gN (ρ 0)) ((ρ 1) / 4) (ρ 3) (ρ 4) := (ax_XF_lt (x := 46) (Nat.le_of_ble_eq_true rfl)).mp (ax_gx hE (46, [3, 7, 15, 19]) ax_m5)
  refine ⟨(fun y hy => by cases hy), _, List.mem_cons_self, ρ, fun _ _ => rfl, ax_px hE rfl (fun y hy => ?_)⟩
  cases List.mem_singleton.mp hy
  refine (ax_XF_lt (x := 42) (Nat.le_of_ble_eq_true rfl)).mpr ?_
  show py_42 (pz_gt (ρ 0)) (pz_gN (ρ 0)) ((ρ 2) / 4) (ρ 3) (ρ 4) (4004)
  have kd := (pr_w (by decide) F107).1
  rw [F98] at F79 ⊢
  exact pr_su F78 (by rw [kd]; decide) (by rw [kd]; decide) F79 (by decide) F46 (by rw [pr_unw (by decide) F107]) (by decide)

theorem axq_sv3_5 : ax_RO ax_wC ax_XC axu_sv3_5 := by
  intro ρ hp hE hT
  have j0 : ρ 0 % 4 = 1 := pz_gj hE 0 (Nat.le_of_ble_eq_true rfl) rfl
  have j1 : ρ 1 % 4 = 1 := pz_gj hE 1 (Nat.le_of_ble_eq_true rfl) rfl
  have j2 : ρ 2 % 4 = 1 := pz_gj hE 2 (Nat.le_of_ble_eq_true rfl) rfl
  have j3 : ρ 3 % 4 = 1 := pz_gj hE 3 (Nat.le_of_ble_eq_true rfl) rfl
  have j4 : ρ 4 % 4 = 1 := pz_gj hE 4 (Nat.le_of_ble_eq_true rfl) rfl
  obtain ⟨-, -, -, -, F50⟩ : ay_ex hp 8 ∧ ay_ex hp 10 ∧ ay_ex hp 11 ∧ ay_ex hp 12 ∧ pz_x50 (ρ 0) (ρ 1) (ay_at hp 8 5) (ay_at hp 8 6) (ay_at hp 8 7) (ay_at hp 8 8) (ay_at hp 10 0) (ay_at hp 10 1) (ay_at hp 10 2) (ay_at hp 10 3) (ay_at hp 10 4) (ay_at hp 8 9) (ay_at hp 8 11) (ay_at hp 8 10) (ay_at hp 8 3) (ay_at hp 8 4) (ay_at hp 11) (ay_at hp 12) := (ax_XF_lt (x := 50) (Nat.le_of_ble_eq_true rfl)).mp (ax_gx hE (50, [3, 7]) ax_m0)
  have F42 : py_42 (pz_gt (ρ 0)) (pz_gN (ρ 0)) ((ρ 1) / 4) (ρ 2) (ρ 3) (4004) := (ax_XF_lt (x := 42) (Nat.le_of_ble_eq_true rfl)).mp (ax_gx hE (42, [3, 7, 11, 15, 4004]) ax_m1)
  obtain ⟨-, -, -, F41⟩ : ay_ex hp 10 ∧ ay_ex hp 15 ∧ ay_ex hp 16 ∧ py_x41 (ρ 4) (ay_at hp 10 5) (ay_at hp 15) (ay_at hp 16) := (ax_XF_lt (x := 41) (Nat.le_of_ble_eq_true rfl)).mp (ax_gx hE (41, [19]) ax_m2)
  have F99 : py_99 (ρ 4) (4004) (ρ 3) := (ax_XF_lt (x := 99) (Nat.le_of_ble_eq_true rfl)).mp (ax_gx hE (99, [19, 4004, 15]) ax_m3)
  refine ⟨(fun y hy => by cases hy), _, List.mem_cons_self, ρ, fun _ _ => rfl, ax_px hE rfl (fun y hy => ?_)⟩
  cases List.mem_singleton.mp hy
  refine (ax_XF_lt (x := 47) (Nat.le_of_ble_eq_true rfl)).mpr ?_
  show py_47 (pz_gt (ρ 0)) (pz_gN (ρ 0)) ((ρ 1) / 4) (ρ 2) (ρ 4)
  exact pr_sv F42 F99

theorem axq_sl3_5 : ax_RO ax_wC ax_XC axu_sl3_5 := by
  intro ρ hp hE hT
  have j0 : ρ 0 % 4 = 1 := pz_gj hE 0 (Nat.le_of_ble_eq_true rfl) rfl
  have j1 : ρ 1 % 4 = 1 := pz_gj hE 1 (Nat.le_of_ble_eq_true rfl) rfl
  have j2 : ρ 2 % 4 = 1 := pz_gj hE 2 (Nat.le_of_ble_eq_true rfl) rfl
  have j3 : ρ 3 % 4 = 1 := pz_gj hE 3 (Nat.le_of_ble_eq_true rfl) rfl
  obtain ⟨-, -, -, -, F50⟩ : ay_ex hp 8 ∧ ay_ex hp 10 ∧ ay_ex hp 11 ∧ ay_ex hp 12 ∧ pz_x50 (ρ 0) (ρ 1) (ay_at hp 8 5) (ay_at hp 8 6) (ay_at hp 8 7) (ay_at hp 8 8) (ay_at hp 10 0) (ay_at hp 10 1) (ay_at hp 10 2) (ay_at hp 10 3) (ay_at hp 10 4) (ay_at hp 8 9) (ay_at hp 8 11) (ay_at hp 8 10) (ay_at hp 8 3) (ay_at hp 8 4) (ay_at hp 11) (ay_at hp 12) := (ax_XF_lt (x := 50) (Nat.le_of_ble_eq_true rfl)).mp (ax_gx hE (50, [3, 7]) ax_m0)
  have F79 : pz7 (pz_gt (ρ 0)) (pz_gN (ρ 0)) ((ρ 1) / 4) 9 := (ax_XF_lt (x := 79) (Nat.le_of_ble_eq_true rfl)).mp (ax_gx hE (79, [3, 7]) ax_m1)
  have F42 : py_42 (pz_gt (ρ 0)) (pz_gN (ρ 0)) ((ρ 1) / 4) (ρ 2) (ρ 3) (4004) := (ax_XF_lt (x := 42) (Nat.le_of_ble_eq_true rfl)).mp (ax_gx hE (42, [3, 7, 11, 15, 4004]) ax_m2)
  refine ⟨(fun y hy => by cases hy), _, List.mem_cons_self, ρ, fun _ _ => rfl, ax_px hE rfl (fun y hy => ?_)⟩
  cases List.mem_singleton.mp hy
  refine (ax_XF_lt (x := 40) (Nat.le_of_ble_eq_true rfl)).mpr ?_
  show py_40 (ρ 3)
  exact pr_l42 F79 (by decide) F42

theorem axq_su4_5 : ax_RO ax_wC ax_XC axu_su4_5 := by
  intro ρ hp hE hT
  have j0 : ρ 0 % 4 = 1 := pz_gj hE 0 (Nat.le_of_ble_eq_true rfl) rfl
  have j1 : ρ 1 % 4 = 1 := pz_gj hE 1 (Nat.le_of_ble_eq_true rfl) rfl
  have j2 : ρ 2 % 4 = 1 := pz_gj hE 2 (Nat.le_of_ble_eq_true rfl) rfl
  have j3 : ρ 3 % 4 = 1 := pz_gj hE 3 (Nat.le_of_ble_eq_true rfl) rfl
  have j4 : ρ 4 % 4 = 1 := pz_gj hE 4 (Nat.le_of_ble_eq_true rfl) rfl
  obtain ⟨-, -, -, -, F50⟩ : ay_ex hp 8 ∧ ay_ex hp 10 ∧ ay_ex hp 11 ∧ ay_ex hp 12 ∧ pz_x50 (ρ 0) (ρ 1) (ay_at hp 8 5) (ay_at hp 8 6) (ay_at hp 8 7) (ay_at hp 8 8) (ay_at hp 10 0) (ay_at hp 10 1) (ay_at hp 10 2) (ay_at hp 10 3) (ay_at hp 10 4) (ay_at hp 8 9) (ay_at hp 8 11) (ay_at hp 8 10) (ay_at hp 8 3) (ay_at hp 8 4) (ay_at hp 11) (ay_at hp 12) := (ax_XF_lt (x := 50) (Nat.le_of_ble_eq_true rfl)).mp (ax_gx hE (50, [3, 7]) ax_m0)
  have F98 : (ρ 2) / 4 = (ρ 1) / 4 + 1 := (ax_XF_lt (x := 98) (Nat.le_of_ble_eq_true rfl)).mp (ax_gx hE (98, [7, 11]) ax_m1)
  have F79 : pz7 (pz_gt (ρ 0)) (pz_gN (ρ 0)) ((ρ 2) / 4) 9 := (ax_XF_lt (x := 79) (Nat.le_of_ble_eq_true rfl)).mp (ax_gx hE (79, [3, 11]) ax_m2)
  have F78 : pz7 (pz_gt (ρ 0)) (pz_gN (ρ 0)) ((ρ 1) / 4) 8 := (ax_XF_lt (x := 78) (Nat.le_of_ble_eq_true rfl)).mp (ax_gx hE (78, [3, 7]) ax_m3)
  have F107 : pz107 (pz_gt (ρ 0)) (pz_gN (ρ 0)) ((ρ 1) / 4) ((16) / 4) := (ax_XF_lt (x := 107) (Nat.le_of_ble_eq_true rfl)).mp (ax_gx hE (107, [3, 7, 16]) ax_m4)
  have F46 : py_46 (pz_gt (ρ 0)) (pz_gN (ρ 0)) ((ρ 1) / 4) (ρ 3) (ρ 4) := (ax_XF_lt (x := 46) (Nat.le_of_ble_eq_true rfl)).mp (ax_gx hE (46, [3, 7, 15, 19]) ax_m5)
  refine ⟨(fun y hy => by cases hy), _, List.mem_cons_self, ρ, fun _ _ => rfl, ax_px hE rfl (fun y hy => ?_)⟩
  cases List.mem_singleton.mp hy
  refine (ax_XF_lt (x := 42) (Nat.le_of_ble_eq_true rfl)).mpr ?_
  show py_42 (pz_gt (ρ 0)) (pz_gN (ρ 0)) ((ρ 2) / 4) (ρ 3) (ρ 4) (4008)
  have kd := (pr_w (by decide) F107).1
  rw [F98] at F79 ⊢
  exact pr_su F78 (by rw [kd]; decide) (by rw [kd]; decide) F79 (by decide) F46 (by rw [pr_unw (by decide) F107]) (by decide)

theorem axq_sv4_5 : ax_RO ax_wC ax_XC axu_sv4_5 := by
  intro ρ hp hE hT
  have j0 : ρ 0 % 4 = 1 := pz_gj hE 0 (Nat.le_of_ble_eq_true rfl) rfl
  have j1 : ρ 1 % 4 = 1 := pz_gj hE 1 (Nat.le_of_ble_eq_true rfl) rfl
  have j2 : ρ 2 % 4 = 1 := pz_gj hE 2 (Nat.le_of_ble_eq_true rfl) rfl
  have j3 : ρ 3 % 4 = 1 := pz_gj hE 3 (Nat.le_of_ble_eq_true rfl) rfl
  have j4 : ρ 4 % 4 = 1 := pz_gj hE 4 (Nat.le_of_ble_eq_true rfl) rfl
  obtain ⟨-, -, -, -, F50⟩ : ay_ex hp 8 ∧ ay_ex hp 10 ∧ ay_ex hp 11 ∧ ay_ex hp 12 ∧ pz_x50 (ρ 0) (ρ 1) (ay_at hp 8 5) (ay_at hp 8 6) (ay_at hp 8 7) (ay_at hp 8 8) (ay_at hp 10 0) (ay_at hp 10 1) (ay_at hp 10 2) (ay_at hp 10 3) (ay_at hp 10 4) (ay_at hp 8 9) (ay_at hp 8 11) (ay_at hp 8 10) (ay_at hp 8 3) (ay_at hp 8 4) (ay_at hp 11) (ay_at hp 12) := (ax_XF_lt (x := 50) (Nat.le_of_ble_eq_true rfl)).mp (ax_gx hE (50, [3, 7]) ax_m0)
  have F42 : py_42 (pz_gt (ρ 0)) (pz_gN (ρ 0)) ((ρ 1) / 4) (ρ 2) (ρ 3) (4008) := (ax_XF_lt (x := 42) (Nat.le_of_ble_eq_true rfl)).mp (ax_gx hE (42, [3, 7, 11, 15, 4008]) ax_m1)
  obtain ⟨-, -, -, F41⟩ : ay_ex hp 10 ∧ ay_ex hp 15 ∧ ay_ex hp 16 ∧ py_x41 (ρ 4) (ay_at hp 10 5) (ay_at hp 15) (ay_at hp 16) := (ax_XF_lt (x := 41) (Nat.le_of_ble_eq_true rfl)).mp (ax_gx hE (41, [19]) ax_m2)
  have F99 : py_99 (ρ 4) (4008) (ρ 3) := (ax_XF_lt (x := 99) (Nat.le_of_ble_eq_true rfl)).mp (ax_gx hE (99, [19, 4008, 15]) ax_m3)
  refine ⟨(fun y hy => by cases hy), _, List.mem_cons_self, ρ, fun _ _ => rfl, ax_px hE rfl (fun y hy => ?_)⟩
  cases List.mem_singleton.mp hy
  refine (ax_XF_lt (x := 47) (Nat.le_of_ble_eq_true rfl)).mpr ?_
  show py_47 (pz_gt (ρ 0)) (pz_gN (ρ 0)) ((ρ 1) / 4) (ρ 2) (ρ 4)
  exact pr_sv F42 F99

theorem axq_sl4_5 : ax_RO ax_wC ax_XC axu_sl4_5 := by
  intro ρ hp hE hT
  have j0 : ρ 0 % 4 = 1 := pz_gj hE 0 (Nat.le_of_ble_eq_true rfl) rfl
  have j1 : ρ 1 % 4 = 1 := pz_gj hE 1 (Nat.le_of_ble_eq_true rfl) rfl
  have j2 : ρ 2 % 4 = 1 := pz_gj hE 2 (Nat.le_of_ble_eq_true rfl) rfl
  have j3 : ρ 3 % 4 = 1 := pz_gj hE 3 (Nat.le_of_ble_eq_true rfl) rfl
  obtain ⟨-, -, -, -, F50⟩ : ay_ex hp 8 ∧ ay_ex hp 10 ∧ ay_ex hp 11 ∧ ay_ex hp 12 ∧ pz_x50 (ρ 0) (ρ 1) (ay_at hp 8 5) (ay_at hp 8 6) (ay_at hp 8 7) (ay_at hp 8 8) (ay_at hp 10 0) (ay_at hp 10 1) (ay_at hp 10 2) (ay_at hp 10 3) (ay_at hp 10 4) (ay_at hp 8 9) (ay_at hp 8 11) (ay_at hp 8 10) (ay_at hp 8 3) (ay_at hp 8 4) (ay_at hp 11) (ay_at hp 12) := (ax_XF_lt (x := 50) (Nat.le_of_ble_eq_true rfl)).mp (ax_gx hE (50, [3, 7]) ax_m0)
  have F79 : pz7 (pz_gt (ρ 0)) (pz_gN (ρ 0)) ((ρ 1) / 4) 9 := (ax_XF_lt (x := 79) (Nat.le_of_ble_eq_true rfl)).mp (ax_gx hE (79, [3, 7]) ax_m1)
  have F42 : py_42 (pz_gt (ρ 0)) (pz_gN (ρ 0)) ((ρ 1) / 4) (ρ 2) (ρ 3) (4008) := (ax_XF_lt (x := 42) (Nat.le_of_ble_eq_true rfl)).mp (ax_gx hE (42, [3, 7, 11, 15, 4008]) ax_m2)
  refine ⟨(fun y hy => by cases hy), _, List.mem_cons_self, ρ, fun _ _ => rfl, ax_px hE rfl (fun y hy => ?_)⟩
  cases List.mem_singleton.mp hy
  refine (ax_XF_lt (x := 40) (Nat.le_of_ble_eq_true rfl)).mpr ?_
  show py_40 (ρ 3)
  exact pr_l42 F79 (by decide) F42

theorem axq_su40_5 : ax_RO ax_wC ax_XC axu_su40_5 := by
  intro ρ hp hE hT
  have j0 : ρ 0 % 4 = 1 := pz_gj hE 0 (Nat.le_of_ble_eq_true rfl) rfl
  have j1 : ρ 1 % 4 = 1 := pz_gj hE 1 (Nat.le_of_ble_eq_true rfl) rfl
  have j2 : ρ 2 % 4 = 1 := pz_gj hE 2 (Nat.le_of_ble_eq_true rfl) rfl
  have j3 : ρ 3 % 4 = 1 := pz_gj hE 3 (Nat.le_of_ble_eq_true rfl) rfl
  have j4 : ρ 4 % 4 = 1 := pz_gj hE 4 (Nat.le_of_ble_eq_true rfl) rfl
  obtain ⟨-, -, -, -, F50⟩ : ay_ex hp 8 ∧ ay_ex hp 10 ∧ ay_ex hp 11 ∧ ay_ex hp 12 ∧ pz_x50 (ρ 0) (ρ 1) (ay_at hp 8 5) (ay_at hp 8 6) (ay_at hp 8 7) (ay_at hp 8 8) (ay_at hp 10 0) (ay_at hp 10 1) (ay_at hp 10 2) (ay_at hp 10 3) (ay_at hp 10 4) (ay_at hp 8 9) (ay_at hp 8 11) (ay_at hp 8 10) (ay_at hp 8 3) (ay_at hp 8 4) (ay_at hp 11) (ay_at hp 12) := (ax_XF_lt (x := 50) (Nat.le_of_ble_eq_true rfl)).mp (ax_gx hE (50, [3, 7]) ax_m0)
  have F98 : (ρ 2) / 4 = (ρ 1) / 4 + 1 := (ax_XF_lt (x := 98) (Nat.le_of_ble_eq_true rfl)).mp (ax_gx hE (98, [7, 11]) ax_m1)
  have F78 : pz7 (pz_gt (ρ 0)) (pz_gN (ρ 0)) ((ρ 2) / 4) 8 := (ax_XF_lt (x := 78) (Nat.le_of_ble_eq_true rfl)).mp (ax_gx hE (78, [3, 11]) ax_m2)
  have F78a : pz7 (pz_gt (ρ 0)) (pz_gN (ρ 0)) ((ρ 1) / 4) 8 := (ax_XF_lt (x := 78) (Nat.le_of_ble_eq_true rfl)).mp (ax_gx hE (78, [3, 7]) ax_m3)
  have F107 : pz107 (pz_gt (ρ 0)) (pz_gN (ρ 0)) ((ρ 1) / 4) ((160) / 4) := (ax_XF_lt (x := 107) (Nat.le_of_ble_eq_true rfl)).mp (ax_gx hE (107, [3, 7, 160]) ax_m4)
  have F46 : py_46 (pz_gt (ρ 0)) (pz_gN (ρ 0)) ((ρ 1) / 4) (ρ 3) (ρ 4) := (ax_XF_lt (x := 46) (Nat.le_of_ble_eq_true rfl)).mp (ax_gx hE (46, [3, 7, 15, 19]) ax_m5)
  rw [F98] at F78
  obtain ⟨ρ', h1, h2⟩ := pz_pn1 (K := ρ 3 / 4 * 4096 + 1009) (xf := [(46, [3, 11, 23, 19]), (99, [23, 4036, 15]), (45, [23])]) hE (by decide) (fun ρ' h1 h2 x hx => by
    have q0 : ρ' 0 = ρ 0 := h1 0 (by decide)
    have q1 : ρ' 1 = ρ 1 := h1 1 (by decide)
    have q2 : ρ' 2 = ρ 2 := h1 2 (by decide)
    have q3 : ρ' 3 = ρ 3 := h1 3 (by decide)
    have q4 : ρ' 4 = ρ 4 := h1 4 (by decide)
    rcases List.mem_cons.mp hx with e | hx
    · subst e
      refine (ax_XF_lt (x := 46) (Nat.le_of_ble_eq_true rfl)).mpr ?_
      show py_46 (pz_gt (ρ' 0)) (pz_gN (ρ' 0)) ((ρ' 2) / 4) (ρ' 5) (ρ' 4)
      rw [q0, q2, q4, h2]
      rw [F98]
      exact pr_suO F78a (pr_k40 F107) F78 (by decide) F46 ⟨pz_41 _, F46.2.1, by decide⟩
    rcases List.mem_cons.mp hx with e | hx
    · subst e
      refine (ax_XF_lt (x := 99) (Nat.le_of_ble_eq_true rfl)).mpr ?_
      show py_99 (ρ' 5) (4036) (ρ' 3)
      rw [q3, h2]
      exact ⟨pz_41 _, F46.2.1, by decide⟩
    cases List.mem_singleton.mp hx
    refine (ax_XF_lt (x := 45) (Nat.le_of_ble_eq_true rfl)).mpr ?_
    show py_44 1 (ρ' 5)
    rw [h2]
    exact pr_44 (c := 4036) (s := ρ 3) ⟨pz_41 _, F46.2.1, by decide⟩ (by decide) (by decide))
  exact ⟨(fun y hy => by cases hy), _, List.mem_cons_self, ρ', h1, h2⟩

theorem axq_su5_5 : ax_RO ax_wC ax_XC axu_su5_5 := by
  intro ρ hp hE hT
  have j0 : ρ 0 % 4 = 1 := pz_gj hE 0 (Nat.le_of_ble_eq_true rfl) rfl
  have j1 : ρ 1 % 4 = 1 := pz_gj hE 1 (Nat.le_of_ble_eq_true rfl) rfl
  have j2 : ρ 2 % 4 = 1 := pz_gj hE 2 (Nat.le_of_ble_eq_true rfl) rfl
  have j3 : ρ 3 % 4 = 1 := pz_gj hE 3 (Nat.le_of_ble_eq_true rfl) rfl
  have j4 : ρ 4 % 4 = 1 := pz_gj hE 4 (Nat.le_of_ble_eq_true rfl) rfl
  obtain ⟨-, -, -, -, F50⟩ : ay_ex hp 8 ∧ ay_ex hp 10 ∧ ay_ex hp 11 ∧ ay_ex hp 12 ∧ pz_x50 (ρ 0) (ρ 1) (ay_at hp 8 5) (ay_at hp 8 6) (ay_at hp 8 7) (ay_at hp 8 8) (ay_at hp 10 0) (ay_at hp 10 1) (ay_at hp 10 2) (ay_at hp 10 3) (ay_at hp 10 4) (ay_at hp 8 9) (ay_at hp 8 11) (ay_at hp 8 10) (ay_at hp 8 3) (ay_at hp 8 4) (ay_at hp 11) (ay_at hp 12) := (ax_XF_lt (x := 50) (Nat.le_of_ble_eq_true rfl)).mp (ax_gx hE (50, [3, 7]) ax_m0)
  have F98 : (ρ 2) / 4 = (ρ 1) / 4 + 1 := (ax_XF_lt (x := 98) (Nat.le_of_ble_eq_true rfl)).mp (ax_gx hE (98, [7, 11]) ax_m1)
  have F78 : pz7 (pz_gt (ρ 0)) (pz_gN (ρ 0)) ((ρ 2) / 4) 8 := (ax_XF_lt (x := 78) (Nat.le_of_ble_eq_true rfl)).mp (ax_gx hE (78, [3, 11]) ax_m2)
  have F78a : pz7 (pz_gt (ρ 0)) (pz_gN (ρ 0)) ((ρ 1) / 4) 8 := (ax_XF_lt (x := 78) (Nat.le_of_ble_eq_true rfl)).mp (ax_gx hE (78, [3, 7]) ax_m3)
  have F107 : pz107 (pz_gt (ρ 0)) (pz_gN (ρ 0)) ((ρ 1) / 4) ((20) / 4) := (ax_XF_lt (x := 107) (Nat.le_of_ble_eq_true rfl)).mp (ax_gx hE (107, [3, 7, 20]) ax_m4)
  have F46 : py_46 (pz_gt (ρ 0)) (pz_gN (ρ 0)) ((ρ 1) / 4) (ρ 3) (ρ 4) := (ax_XF_lt (x := 46) (Nat.le_of_ble_eq_true rfl)).mp (ax_gx hE (46, [3, 7, 15, 19]) ax_m5)
  rw [F98] at F78
  obtain ⟨ρ', h1, h2⟩ := pz_pn1 (K := ρ 3 / 4 * 4096 + 1008) (xf := [(46, [3, 11, 23, 19]), (99, [23, 4032, 15])]) hE (by decide) (fun ρ' h1 h2 x hx => by
    have q0 : ρ' 0 = ρ 0 := h1 0 (by decide)
    have q1 : ρ' 1 = ρ 1 := h1 1 (by decide)
    have q2 : ρ' 2 = ρ 2 := h1 2 (by decide)
    have q3 : ρ' 3 = ρ 3 := h1 3 (by decide)
    have q4 : ρ' 4 = ρ 4 := h1 4 (by decide)
    rcases List.mem_cons.mp hx with e | hx
    · subst e
      refine (ax_XF_lt (x := 46) (Nat.le_of_ble_eq_true rfl)).mpr ?_
      show py_46 (pz_gt (ρ' 0)) (pz_gN (ρ' 0)) ((ρ' 2) / 4) (ρ' 5) (ρ' 4)
      rw [q0, q2, q4, h2]
      rw [F98]
      exact pr_suM F78a (pr_k5 F107) F78 (by decide) F46 ⟨pz_41 _, F46.2.1, by decide⟩
    cases List.mem_singleton.mp hx
    refine (ax_XF_lt (x := 99) (Nat.le_of_ble_eq_true rfl)).mpr ?_
    show py_99 (ρ' 5) (4032) (ρ' 3)
    rw [q3, h2]
    exact ⟨pz_41 _, F46.2.1, by decide⟩)
  exact ⟨(fun y hy => by cases hy), _, List.mem_cons_self, ρ', h1, h2⟩

theorem axq_sl5_5 : ax_RO ax_wC ax_XC axu_sl5_5 := by
  intro ρ hp hE hT
  have j0 : ρ 0 % 4 = 1 := pz_gj hE 0 (Nat.le_of_ble_eq_true rfl) rfl
  have j1 : ρ 1 % 4 = 1 := pz_gj hE 1 (Nat.le_of_ble_eq_true rfl) rfl
  have j2 : ρ 2 % 4 = 1 := pz_gj hE 2 (Nat.le_of_ble_eq_true rfl) rfl
  have j3 : ρ 3 % 4 = 1 := pz_gj hE 3 (Nat.le_of_ble_eq_true rfl) rfl
  obtain ⟨-, -, -, -, F50⟩ : ay_ex hp 8 ∧ ay_ex hp 10 ∧ ay_ex hp 11 ∧ ay_ex hp 12 ∧ pz_x50 (ρ 0) (ρ 1) (ay_at hp 8 5) (ay_at hp 8 6) (ay_at hp 8 7) (ay_at hp 8 8) (ay_at hp 10 0) (ay_at hp 10 1) (ay_at hp 10 2) (ay_at hp 10 3) (ay_at hp 10 4) (ay_at hp 8 9) (ay_at hp 8 11) (ay_at hp 8 10) (ay_at hp 8 3) (ay_at hp 8 4) (ay_at hp 11) (ay_at hp 12) := (ax_XF_lt (x := 50) (Nat.le_of_ble_eq_true rfl)).mp (ax_gx hE (50, [3, 7]) ax_m0)
  have F79 : pz7 (pz_gt (ρ 0)) (pz_gN (ρ 0)) ((ρ 1) / 4) 9 := (ax_XF_lt (x := 79) (Nat.le_of_ble_eq_true rfl)).mp (ax_gx hE (79, [3, 7]) ax_m1)
  have F47 : py_47 (pz_gt (ρ 0)) (pz_gN (ρ 0)) ((ρ 1) / 4) (ρ 2) (ρ 3) := (ax_XF_lt (x := 47) (Nat.le_of_ble_eq_true rfl)).mp (ax_gx hE (47, [3, 7, 11, 15]) ax_m2)
  refine ⟨(fun y hy => by cases hy), _, List.mem_cons_self, ρ, fun _ _ => rfl, ax_px hE rfl (fun y hy => ?_)⟩
  cases List.mem_singleton.mp hy
  refine (ax_XF_lt (x := 40) (Nat.le_of_ble_eq_true rfl)).mpr ?_
  show py_40 (ρ 3)
  exact pr_l47 F79 (by decide) F47

theorem axq_sv5_5 : ax_RO ax_wC ax_XC axu_sv5_5 := by
  intro ρ hp hE hT
  have j0 : ρ 0 % 4 = 1 := pz_gj hE 0 (Nat.le_of_ble_eq_true rfl) rfl
  have j1 : ρ 1 % 4 = 1 := pz_gj hE 1 (Nat.le_of_ble_eq_true rfl) rfl
  have j2 : ρ 2 % 4 = 1 := pz_gj hE 2 (Nat.le_of_ble_eq_true rfl) rfl
  have j3 : ρ 3 % 4 = 1 := pz_gj hE 3 (Nat.le_of_ble_eq_true rfl) rfl
  have j4 : ρ 4 % 4 = 1 := pz_gj hE 4 (Nat.le_of_ble_eq_true rfl) rfl
  have j5 : ρ 5 % 4 = 1 := pz_gj hE 5 (Nat.le_of_ble_eq_true rfl) rfl
  obtain ⟨-, -, -, -, F50⟩ : ay_ex hp 8 ∧ ay_ex hp 10 ∧ ay_ex hp 11 ∧ ay_ex hp 12 ∧ pz_x50 (ρ 0) (ρ 1) (ay_at hp 8 5) (ay_at hp 8 6) (ay_at hp 8 7) (ay_at hp 8 8) (ay_at hp 10 0) (ay_at hp 10 1) (ay_at hp 10 2) (ay_at hp 10 3) (ay_at hp 10 4) (ay_at hp 8 9) (ay_at hp 8 11) (ay_at hp 8 10) (ay_at hp 8 3) (ay_at hp 8 4) (ay_at hp 11) (ay_at hp 12) := (ax_XF_lt (x := 50) (Nat.le_of_ble_eq_true rfl)).mp (ax_gx hE (50, [3, 7]) ax_m0)
  have F47 : py_47 (pz_gt (ρ 0)) (pz_gN (ρ 0)) ((ρ 1) / 4) (ρ 3) (ρ 4) := (ax_XF_lt (x := 47) (Nat.le_of_ble_eq_true rfl)).mp (ax_gx hE (47, [3, 7, 15, 19]) ax_m1)
  have F99 : py_99 (ρ 3) (4032) (ρ 2) := (ax_XF_lt (x := 99) (Nat.le_of_ble_eq_true rfl)).mp (ax_gx hE (99, [15, 4032, 11]) ax_m2)
  obtain ⟨-, -, -, F41⟩ : ay_ex hp 10 ∧ ay_ex hp 15 ∧ ay_ex hp 16 ∧ py_x41 (ρ 5) (ay_at hp 10 5) (ay_at hp 15) (ay_at hp 16) := (ax_XF_lt (x := 41) (Nat.le_of_ble_eq_true rfl)).mp (ax_gx hE (41, [23]) ax_m3)
  have F99a : py_99 (ρ 5) (4032) (ρ 4) := (ax_XF_lt (x := 99) (Nat.le_of_ble_eq_true rfl)).mp (ax_gx hE (99, [23, 4032, 19]) ax_m4)
  refine ⟨(fun y hy => by cases hy), _, List.mem_cons_self, ρ, fun _ _ => rfl, ax_px hE rfl (fun y hy => ?_)⟩
  cases List.mem_singleton.mp hy
  refine (ax_XF_lt (x := 47) (Nat.le_of_ble_eq_true rfl)).mpr ?_
  show py_47 (pz_gt (ρ 0)) (pz_gN (ρ 0)) ((ρ 1) / 4) (ρ 2) (ρ 5)
  exact pr_sv5 F47 F99 F99a

theorem axq_sp1_0 : ax_RO ax_wC ax_XC axu_sp1_0 := by
  intro ρ hp hE hT
  have j0 : ρ 0 % 4 = 1 := pz_gj hE 0 (Nat.le_of_ble_eq_true rfl) rfl
  have j1 : ρ 1 % 4 = 1 := pz_gj hE 1 (Nat.le_of_ble_eq_true rfl) rfl
  have j2 : ρ 2 % 4 = 1 := pz_gj hE 2 (Nat.le_of_ble_eq_true rfl) rfl
  have j3 : ρ 3 % 4 = 1 := pz_gj hE 3 (Nat.le_of_ble_eq_true rfl) rfl
  obtain ⟨-, -, -, -, F50⟩ : ay_ex hp 8 ∧ ay_ex hp 10 ∧ ay_ex hp 11 ∧ ay_ex hp 12 ∧ pz_x50 (ρ 0) (ρ 1) (ay_at hp 8 5) (ay_at hp 8 6) (ay_at hp 8 7) (ay_at hp 8 8) (ay_at hp 10 0) (ay_at hp 10 1) (ay_at hp 10 2) (ay_at hp 10 3) (ay_at hp 10 4) (ay_at hp 8 9) (ay_at hp 8 11) (ay_at hp 8 10) (ay_at hp 8 3) (ay_at hp 8 4) (ay_at hp 11) (ay_at hp 12) := (ax_XF_lt (x := 50) (Nat.le_of_ble_eq_true rfl)).mp (ax_gx hE (50, [3, 7]) ax_m0)
  have F47 : py_47 (pz_gt (ρ 0)) (pz_gN (ρ 0)) ((ρ 1) / 4) (ρ 2) (ρ 3) := (ax_XF_lt (x := 47) (Nat.le_of_ble_eq_true rfl)).mp (ax_gx hE (47, [3, 7, 11, 15]) ax_m1)
  have F44 : py_44 2 (ρ 2) := (ax_XF_lt (x := 44) (Nat.le_of_ble_eq_true rfl)).mp (ax_gx hE (44, [11]) ax_m2)
  refine ⟨(fun y hy => by cases hy), _, List.mem_cons_self, ρ, fun _ _ => rfl, ax_px hE rfl (fun y hy => ?_)⟩
  cases List.mem_singleton.mp hy
  refine (ax_XF_lt (x := 48) (Nat.le_of_ble_eq_true rfl)).mpr ?_
  show py_48 2 (pz_gt (ρ 0)) (pz_gN (ρ 0)) ((ρ 1) / 4) (ρ 2) (ρ 3)
  exact pr_sp1 F47 F44

theorem axq_sp2c42_0 : ax_RO ax_wC ax_XC axu_sp2c42_0 := by
  intro ρ hp hE hT
  have j0 : ρ 0 % 4 = 1 := pz_gj hE 0 (Nat.le_of_ble_eq_true rfl) rfl
  have j1 : ρ 1 % 4 = 1 := pz_gj hE 1 (Nat.le_of_ble_eq_true rfl) rfl
  have j2 : ρ 2 % 4 = 1 := pz_gj hE 2 (Nat.le_of_ble_eq_true rfl) rfl
  have j3 : ρ 3 % 4 = 1 := pz_gj hE 3 (Nat.le_of_ble_eq_true rfl) rfl
  have j4 : ρ 4 % 4 = 1 := pz_gj hE 4 (Nat.le_of_ble_eq_true rfl) rfl
  obtain ⟨i5a, i5b, i5c, i5d⟩ := pz_gi hE 5 2147483690 2147483690 (Nat.le_of_ble_eq_true rfl) rfl
  have c_kind : ay_at hp 8 7 = some (ρ 5) := ay_gfj hE 42 28 23 8 7 ax_m3 (ax_vlq rfl rfl) (ax_vlj rfl rfl)
  obtain ⟨-, -, -, -, F50⟩ : ay_ex hp 8 ∧ ay_ex hp 10 ∧ ay_ex hp 11 ∧ ay_ex hp 12 ∧ pz_x50 (ρ 0) (ρ 1) (ay_at hp 8 5) (ay_at hp 8 6) (ay_at hp 8 7) (ay_at hp 8 8) (ay_at hp 10 0) (ay_at hp 10 1) (ay_at hp 10 2) (ay_at hp 10 3) (ay_at hp 10 4) (ay_at hp 8 9) (ay_at hp 8 11) (ay_at hp 8 10) (ay_at hp 8 3) (ay_at hp 8 4) (ay_at hp 11) (ay_at hp 12) := (ax_XF_lt (x := 50) (Nat.le_of_ble_eq_true rfl)).mp (ax_gx hE (50, [3, 7]) ax_m0)
  rw [c_kind] at F50
  have F98 : (ρ 2) / 4 = (ρ 1) / 4 + 1 := (ax_XF_lt (x := 98) (Nat.le_of_ble_eq_true rfl)).mp (ax_gx hE (98, [7, 11]) ax_m1)
  have F78 : pz7 (pz_gt (ρ 0)) (pz_gN (ρ 0)) ((ρ 2) / 4) 8 := (ax_XF_lt (x := 78) (Nat.le_of_ble_eq_true rfl)).mp (ax_gx hE (78, [3, 11]) ax_m2)
  have F79 : pz7 (pz_gt (ρ 0)) (pz_gN (ρ 0)) ((ρ 1) / 4) 9 := (ax_XF_lt (x := 79) (Nat.le_of_ble_eq_true rfl)).mp (ax_gx hE (79, [3, 7]) ax_m4)
  have F48 : py_48 2 (pz_gt (ρ 0)) (pz_gN (ρ 0)) ((ρ 1) / 4) (ρ 3) (ρ 4) := (ax_XF_lt (x := 48) (Nat.le_of_ble_eq_true rfl)).mp (ax_gx hE (48, [3, 7, 15, 19]) ax_m5)
  have kd : ρ 5 / 4 = pz_kd (pz_gt (ρ 0)) (pz_gN (ρ 0)) (pz_p (pz_cf (pz_gt (ρ 0)) (pz_gN (ρ 0)) (ρ 1 / 4))) := F50.2.2.1
  rw [F98] at F78
  obtain ⟨ρ', h1, h2⟩ := pz_pn1 (K := ρ 3 / 4 * 4096 + 1005) (xf := [(46, [3, 11, 27, 19]), (99, [27, 4020, 15])]) hE (by decide) (fun ρ' h1 h2 x hx => by
    have q0 : ρ' 0 = ρ 0 := h1 0 (by decide)
    have q1 : ρ' 1 = ρ 1 := h1 1 (by decide)
    have q2 : ρ' 2 = ρ 2 := h1 2 (by decide)
    have q3 : ρ' 3 = ρ 3 := h1 3 (by decide)
    have q4 : ρ' 4 = ρ 4 := h1 4 (by decide)
    have q5 : ρ' 5 = ρ 5 := h1 5 (by decide)
    rcases List.mem_cons.mp hx with e | hx
    · subst e
      refine (ax_XF_lt (x := 46) (Nat.le_of_ble_eq_true rfl)).mpr ?_
      show py_46 (pz_gt (ρ' 0)) (pz_gN (ρ' 0)) ((ρ' 2) / 4) (ρ' 6) (ρ' 4)
      rw [q0, q2, q4, h2]
      rw [F98]
      exact pr_op (q := 42) (c := 4020) (by decide) F79 (by omega) rfl F78 (by decide) (by decide) F48 ⟨pz_41 _, F48.2.1, by decide⟩
    cases List.mem_singleton.mp hx
    refine (ax_XF_lt (x := 99) (Nat.le_of_ble_eq_true rfl)).mpr ?_
    show py_99 (ρ' 6) (4020) (ρ' 3)
    rw [q3, h2]
    exact ⟨pz_41 _, F48.2.1, by decide⟩)
  exact ⟨(fun y hy => by cases hy), _, List.mem_cons_self, ρ', h1, h2⟩

theorem axq_sp3c42_0 : ax_RO ax_wC ax_XC axu_sp3c42_0 := by
  intro ρ hp hE hT
  have j0 : ρ 0 % 4 = 1 := pz_gj hE 0 (Nat.le_of_ble_eq_true rfl) rfl
  have j1 : ρ 1 % 4 = 1 := pz_gj hE 1 (Nat.le_of_ble_eq_true rfl) rfl
  have j2 : ρ 2 % 4 = 1 := pz_gj hE 2 (Nat.le_of_ble_eq_true rfl) rfl
  have j3 : ρ 3 % 4 = 1 := pz_gj hE 3 (Nat.le_of_ble_eq_true rfl) rfl
  have j4 : ρ 4 % 4 = 1 := pz_gj hE 4 (Nat.le_of_ble_eq_true rfl) rfl
  have j5 : ρ 5 % 4 = 1 := pz_gj hE 5 (Nat.le_of_ble_eq_true rfl) rfl
  obtain ⟨i6a, i6b, i6c, i6d⟩ := pz_gi hE 6 2147483690 2147483690 (Nat.le_of_ble_eq_true rfl) rfl
  obtain ⟨-, -, -, -, F50⟩ : ay_ex hp 8 ∧ ay_ex hp 10 ∧ ay_ex hp 11 ∧ ay_ex hp 12 ∧ pz_x50 (ρ 0) (ρ 1) (ay_at hp 8 5) (ay_at hp 8 6) (ay_at hp 8 7) (ay_at hp 8 8) (ay_at hp 10 0) (ay_at hp 10 1) (ay_at hp 10 2) (ay_at hp 10 3) (ay_at hp 10 4) (ay_at hp 8 9) (ay_at hp 8 11) (ay_at hp 8 10) (ay_at hp 8 3) (ay_at hp 8 4) (ay_at hp 11) (ay_at hp 12) := (ax_XF_lt (x := 50) (Nat.le_of_ble_eq_true rfl)).mp (ax_gx hE (50, [3, 7]) ax_m0)
  have F47 : py_47 (pz_gt (ρ 0)) (pz_gN (ρ 0)) ((ρ 1) / 4) (ρ 3) (ρ 4) := (ax_XF_lt (x := 47) (Nat.le_of_ble_eq_true rfl)).mp (ax_gx hE (47, [3, 7, 15, 19]) ax_m1)
  have F99 : py_99 (ρ 3) (4020) (ρ 2) := (ax_XF_lt (x := 99) (Nat.le_of_ble_eq_true rfl)).mp (ax_gx hE (99, [15, 4020, 11]) ax_m2)
  have F44 : py_44 2 (ρ 2) := (ax_XF_lt (x := 44) (Nat.le_of_ble_eq_true rfl)).mp (ax_gx hE (44, [11]) ax_m3)
  obtain ⟨-, -, -, F41⟩ : ay_ex hp 10 ∧ ay_ex hp 15 ∧ ay_ex hp 16 ∧ py_x41 (ρ 5) (ay_at hp 10 5) (ay_at hp 15) (ay_at hp 16) := (ax_XF_lt (x := 41) (Nat.le_of_ble_eq_true rfl)).mp (ax_gx hE (41, [23]) ax_m4)
  have F99a : py_99 (ρ 5) (4020) (ρ 4) := (ax_XF_lt (x := 99) (Nat.le_of_ble_eq_true rfl)).mp (ax_gx hE (99, [23, 4020, 19]) ax_m5)
  refine ⟨(fun y hy => by cases hy), _, List.mem_cons_self, ρ, fun _ _ => rfl, ax_px hE rfl (fun y hy => ?_)⟩
  cases List.mem_singleton.mp hy
  refine (ax_XF_lt (x := 48) (Nat.le_of_ble_eq_true rfl)).mpr ?_
  show py_48 2 (pz_gt (ρ 0)) (pz_gN (ρ 0)) ((ρ 1) / 4) (ρ 2) (ρ 5)
  exact pr_sp3 F47 F99 (by decide) F44 F99a

theorem axq_sp2c47_0 : ax_RO ax_wC ax_XC axu_sp2c47_0 := by
  intro ρ hp hE hT
  have j0 : ρ 0 % 4 = 1 := pz_gj hE 0 (Nat.le_of_ble_eq_true rfl) rfl
  have j1 : ρ 1 % 4 = 1 := pz_gj hE 1 (Nat.le_of_ble_eq_true rfl) rfl
  have j2 : ρ 2 % 4 = 1 := pz_gj hE 2 (Nat.le_of_ble_eq_true rfl) rfl
  have j3 : ρ 3 % 4 = 1 := pz_gj hE 3 (Nat.le_of_ble_eq_true rfl) rfl
  have j4 : ρ 4 % 4 = 1 := pz_gj hE 4 (Nat.le_of_ble_eq_true rfl) rfl
  obtain ⟨i5a, i5b, i5c, i5d⟩ := pz_gi hE 5 2147483695 2147483695 (Nat.le_of_ble_eq_true rfl) rfl
  have c_kind : ay_at hp 8 7 = some (ρ 5) := ay_gfj hE 42 28 23 8 7 ax_m3 (ax_vlq rfl rfl) (ax_vlj rfl rfl)
  obtain ⟨-, -, -, -, F50⟩ : ay_ex hp 8 ∧ ay_ex hp 10 ∧ ay_ex hp 11 ∧ ay_ex hp 12 ∧ pz_x50 (ρ 0) (ρ 1) (ay_at hp 8 5) (ay_at hp 8 6) (ay_at hp 8 7) (ay_at hp 8 8) (ay_at hp 10 0) (ay_at hp 10 1) (ay_at hp 10 2) (ay_at hp 10 3) (ay_at hp 10 4) (ay_at hp 8 9) (ay_at hp 8 11) (ay_at hp 8 10) (ay_at hp 8 3) (ay_at hp 8 4) (ay_at hp 11) (ay_at hp 12) := (ax_XF_lt (x := 50) (Nat.le_of_ble_eq_true rfl)).mp (ax_gx hE (50, [3, 7]) ax_m0)
  rw [c_kind] at F50
  have F98 : (ρ 2) / 4 = (ρ 1) / 4 + 1 := (ax_XF_lt (x := 98) (Nat.le_of_ble_eq_true rfl)).mp (ax_gx hE (98, [7, 11]) ax_m1)
  have F78 : pz7 (pz_gt (ρ 0)) (pz_gN (ρ 0)) ((ρ 2) / 4) 8 := (ax_XF_lt (x := 78) (Nat.le_of_ble_eq_true rfl)).mp (ax_gx hE (78, [3, 11]) ax_m2)
  have F79 : pz7 (pz_gt (ρ 0)) (pz_gN (ρ 0)) ((ρ 1) / 4) 9 := (ax_XF_lt (x := 79) (Nat.le_of_ble_eq_true rfl)).mp (ax_gx hE (79, [3, 7]) ax_m4)
  have F48 : py_48 2 (pz_gt (ρ 0)) (pz_gN (ρ 0)) ((ρ 1) / 4) (ρ 3) (ρ 4) := (ax_XF_lt (x := 48) (Nat.le_of_ble_eq_true rfl)).mp (ax_gx hE (48, [3, 7, 15, 19]) ax_m5)
  have kd : ρ 5 / 4 = pz_kd (pz_gt (ρ 0)) (pz_gN (ρ 0)) (pz_p (pz_cf (pz_gt (ρ 0)) (pz_gN (ρ 0)) (ρ 1 / 4))) := F50.2.2.1
  rw [F98] at F78
  obtain ⟨ρ', h1, h2⟩ := pz_pn1 (K := ρ 3 / 4 * 4096 + 1006) (xf := [(46, [3, 11, 27, 19]), (99, [27, 4024, 15])]) hE (by decide) (fun ρ' h1 h2 x hx => by
    have q0 : ρ' 0 = ρ 0 := h1 0 (by decide)
    have q1 : ρ' 1 = ρ 1 := h1 1 (by decide)
    have q2 : ρ' 2 = ρ 2 := h1 2 (by decide)
    have q3 : ρ' 3 = ρ 3 := h1 3 (by decide)
    have q4 : ρ' 4 = ρ 4 := h1 4 (by decide)
    have q5 : ρ' 5 = ρ 5 := h1 5 (by decide)
    rcases List.mem_cons.mp hx with e | hx
    · subst e
      refine (ax_XF_lt (x := 46) (Nat.le_of_ble_eq_true rfl)).mpr ?_
      show py_46 (pz_gt (ρ' 0)) (pz_gN (ρ' 0)) ((ρ' 2) / 4) (ρ' 6) (ρ' 4)
      rw [q0, q2, q4, h2]
      rw [F98]
      exact pr_op (q := 47) (c := 4024) (by decide) F79 (by omega) rfl F78 (by decide) (by decide) F48 ⟨pz_41 _, F48.2.1, by decide⟩
    cases List.mem_singleton.mp hx
    refine (ax_XF_lt (x := 99) (Nat.le_of_ble_eq_true rfl)).mpr ?_
    show py_99 (ρ' 6) (4024) (ρ' 3)
    rw [q3, h2]
    exact ⟨pz_41 _, F48.2.1, by decide⟩)
  exact ⟨(fun y hy => by cases hy), _, List.mem_cons_self, ρ', h1, h2⟩

theorem axq_sp3c47_0 : ax_RO ax_wC ax_XC axu_sp3c47_0 := by
  intro ρ hp hE hT
  have j0 : ρ 0 % 4 = 1 := pz_gj hE 0 (Nat.le_of_ble_eq_true rfl) rfl
  have j1 : ρ 1 % 4 = 1 := pz_gj hE 1 (Nat.le_of_ble_eq_true rfl) rfl
  have j2 : ρ 2 % 4 = 1 := pz_gj hE 2 (Nat.le_of_ble_eq_true rfl) rfl
  have j3 : ρ 3 % 4 = 1 := pz_gj hE 3 (Nat.le_of_ble_eq_true rfl) rfl
  have j4 : ρ 4 % 4 = 1 := pz_gj hE 4 (Nat.le_of_ble_eq_true rfl) rfl
  have j5 : ρ 5 % 4 = 1 := pz_gj hE 5 (Nat.le_of_ble_eq_true rfl) rfl
  obtain ⟨i6a, i6b, i6c, i6d⟩ := pz_gi hE 6 2147483695 2147483695 (Nat.le_of_ble_eq_true rfl) rfl
  obtain ⟨-, -, -, -, F50⟩ : ay_ex hp 8 ∧ ay_ex hp 10 ∧ ay_ex hp 11 ∧ ay_ex hp 12 ∧ pz_x50 (ρ 0) (ρ 1) (ay_at hp 8 5) (ay_at hp 8 6) (ay_at hp 8 7) (ay_at hp 8 8) (ay_at hp 10 0) (ay_at hp 10 1) (ay_at hp 10 2) (ay_at hp 10 3) (ay_at hp 10 4) (ay_at hp 8 9) (ay_at hp 8 11) (ay_at hp 8 10) (ay_at hp 8 3) (ay_at hp 8 4) (ay_at hp 11) (ay_at hp 12) := (ax_XF_lt (x := 50) (Nat.le_of_ble_eq_true rfl)).mp (ax_gx hE (50, [3, 7]) ax_m0)
  have F47 : py_47 (pz_gt (ρ 0)) (pz_gN (ρ 0)) ((ρ 1) / 4) (ρ 3) (ρ 4) := (ax_XF_lt (x := 47) (Nat.le_of_ble_eq_true rfl)).mp (ax_gx hE (47, [3, 7, 15, 19]) ax_m1)
  have F99 : py_99 (ρ 3) (4024) (ρ 2) := (ax_XF_lt (x := 99) (Nat.le_of_ble_eq_true rfl)).mp (ax_gx hE (99, [15, 4024, 11]) ax_m2)
  have F44 : py_44 2 (ρ 2) := (ax_XF_lt (x := 44) (Nat.le_of_ble_eq_true rfl)).mp (ax_gx hE (44, [11]) ax_m3)
  obtain ⟨-, -, -, F41⟩ : ay_ex hp 10 ∧ ay_ex hp 15 ∧ ay_ex hp 16 ∧ py_x41 (ρ 5) (ay_at hp 10 5) (ay_at hp 15) (ay_at hp 16) := (ax_XF_lt (x := 41) (Nat.le_of_ble_eq_true rfl)).mp (ax_gx hE (41, [23]) ax_m4)
  have F99a : py_99 (ρ 5) (4024) (ρ 4) := (ax_XF_lt (x := 99) (Nat.le_of_ble_eq_true rfl)).mp (ax_gx hE (99, [23, 4024, 19]) ax_m5)
  refine ⟨(fun y hy => by cases hy), _, List.mem_cons_self, ρ, fun _ _ => rfl, ax_px hE rfl (fun y hy => ?_)⟩
  cases List.mem_singleton.mp hy
  refine (ax_XF_lt (x := 48) (Nat.le_of_ble_eq_true rfl)).mpr ?_
  show py_48 2 (pz_gt (ρ 0)) (pz_gN (ρ 0)) ((ρ 1) / 4) (ρ 2) (ρ 5)
  exact pr_sp3 F47 F99 (by decide) F44 F99a

theorem axq_sp2c37_0 : ax_RO ax_wC ax_XC axu_sp2c37_0 := by
  intro ρ hp hE hT
  have j0 : ρ 0 % 4 = 1 := pz_gj hE 0 (Nat.le_of_ble_eq_true rfl) rfl
  have j1 : ρ 1 % 4 = 1 := pz_gj hE 1 (Nat.le_of_ble_eq_true rfl) rfl
  have j2 : ρ 2 % 4 = 1 := pz_gj hE 2 (Nat.le_of_ble_eq_true rfl) rfl
  have j3 : ρ 3 % 4 = 1 := pz_gj hE 3 (Nat.le_of_ble_eq_true rfl) rfl
  have j4 : ρ 4 % 4 = 1 := pz_gj hE 4 (Nat.le_of_ble_eq_true rfl) rfl
  obtain ⟨i5a, i5b, i5c, i5d⟩ := pz_gi hE 5 2147483685 2147483685 (Nat.le_of_ble_eq_true rfl) rfl
  have c_kind : ay_at hp 8 7 = some (ρ 5) := ay_gfj hE 42 28 23 8 7 ax_m3 (ax_vlq rfl rfl) (ax_vlj rfl rfl)
  obtain ⟨-, -, -, -, F50⟩ : ay_ex hp 8 ∧ ay_ex hp 10 ∧ ay_ex hp 11 ∧ ay_ex hp 12 ∧ pz_x50 (ρ 0) (ρ 1) (ay_at hp 8 5) (ay_at hp 8 6) (ay_at hp 8 7) (ay_at hp 8 8) (ay_at hp 10 0) (ay_at hp 10 1) (ay_at hp 10 2) (ay_at hp 10 3) (ay_at hp 10 4) (ay_at hp 8 9) (ay_at hp 8 11) (ay_at hp 8 10) (ay_at hp 8 3) (ay_at hp 8 4) (ay_at hp 11) (ay_at hp 12) := (ax_XF_lt (x := 50) (Nat.le_of_ble_eq_true rfl)).mp (ax_gx hE (50, [3, 7]) ax_m0)
  rw [c_kind] at F50
  have F98 : (ρ 2) / 4 = (ρ 1) / 4 + 1 := (ax_XF_lt (x := 98) (Nat.le_of_ble_eq_true rfl)).mp (ax_gx hE (98, [7, 11]) ax_m1)
  have F78 : pz7 (pz_gt (ρ 0)) (pz_gN (ρ 0)) ((ρ 2) / 4) 8 := (ax_XF_lt (x := 78) (Nat.le_of_ble_eq_true rfl)).mp (ax_gx hE (78, [3, 11]) ax_m2)
  have F79 : pz7 (pz_gt (ρ 0)) (pz_gN (ρ 0)) ((ρ 1) / 4) 9 := (ax_XF_lt (x := 79) (Nat.le_of_ble_eq_true rfl)).mp (ax_gx hE (79, [3, 7]) ax_m4)
  have F48 : py_48 2 (pz_gt (ρ 0)) (pz_gN (ρ 0)) ((ρ 1) / 4) (ρ 3) (ρ 4) := (ax_XF_lt (x := 48) (Nat.le_of_ble_eq_true rfl)).mp (ax_gx hE (48, [3, 7, 15, 19]) ax_m5)
  have kd : ρ 5 / 4 = pz_kd (pz_gt (ρ 0)) (pz_gN (ρ 0)) (pz_p (pz_cf (pz_gt (ρ 0)) (pz_gN (ρ 0)) (ρ 1 / 4))) := F50.2.2.1
  rw [F98] at F78
  obtain ⟨ρ', h1, h2⟩ := pz_pn1 (K := ρ 3 / 4 * 4096 + 1007) (xf := [(46, [3, 11, 27, 19]), (99, [27, 4028, 15])]) hE (by decide) (fun ρ' h1 h2 x hx => by
    have q0 : ρ' 0 = ρ 0 := h1 0 (by decide)
    have q1 : ρ' 1 = ρ 1 := h1 1 (by decide)
    have q2 : ρ' 2 = ρ 2 := h1 2 (by decide)
    have q3 : ρ' 3 = ρ 3 := h1 3 (by decide)
    have q4 : ρ' 4 = ρ 4 := h1 4 (by decide)
    have q5 : ρ' 5 = ρ 5 := h1 5 (by decide)
    rcases List.mem_cons.mp hx with e | hx
    · subst e
      refine (ax_XF_lt (x := 46) (Nat.le_of_ble_eq_true rfl)).mpr ?_
      show py_46 (pz_gt (ρ' 0)) (pz_gN (ρ' 0)) ((ρ' 2) / 4) (ρ' 6) (ρ' 4)
      rw [q0, q2, q4, h2]
      rw [F98]
      exact pr_op (q := 37) (c := 4028) (by decide) F79 (by omega) rfl F78 (by decide) (by decide) F48 ⟨pz_41 _, F48.2.1, by decide⟩
    cases List.mem_singleton.mp hx
    refine (ax_XF_lt (x := 99) (Nat.le_of_ble_eq_true rfl)).mpr ?_
    show py_99 (ρ' 6) (4028) (ρ' 3)
    rw [q3, h2]
    exact ⟨pz_41 _, F48.2.1, by decide⟩)
  exact ⟨(fun y hy => by cases hy), _, List.mem_cons_self, ρ', h1, h2⟩

theorem axq_sp3c37_0 : ax_RO ax_wC ax_XC axu_sp3c37_0 := by
  intro ρ hp hE hT
  have j0 : ρ 0 % 4 = 1 := pz_gj hE 0 (Nat.le_of_ble_eq_true rfl) rfl
  have j1 : ρ 1 % 4 = 1 := pz_gj hE 1 (Nat.le_of_ble_eq_true rfl) rfl
  have j2 : ρ 2 % 4 = 1 := pz_gj hE 2 (Nat.le_of_ble_eq_true rfl) rfl
  have j3 : ρ 3 % 4 = 1 := pz_gj hE 3 (Nat.le_of_ble_eq_true rfl) rfl
  have j4 : ρ 4 % 4 = 1 := pz_gj hE 4 (Nat.le_of_ble_eq_true rfl) rfl
  have j5 : ρ 5 % 4 = 1 := pz_gj hE 5 (Nat.le_of_ble_eq_true rfl) rfl
  obtain ⟨i6a, i6b, i6c, i6d⟩ := pz_gi hE 6 2147483685 2147483685 (Nat.le_of_ble_eq_true rfl) rfl
  obtain ⟨-, -, -, -, F50⟩ : ay_ex hp 8 ∧ ay_ex hp 10 ∧ ay_ex hp 11 ∧ ay_ex hp 12 ∧ pz_x50 (ρ 0) (ρ 1) (ay_at hp 8 5) (ay_at hp 8 6) (ay_at hp 8 7) (ay_at hp 8 8) (ay_at hp 10 0) (ay_at hp 10 1) (ay_at hp 10 2) (ay_at hp 10 3) (ay_at hp 10 4) (ay_at hp 8 9) (ay_at hp 8 11) (ay_at hp 8 10) (ay_at hp 8 3) (ay_at hp 8 4) (ay_at hp 11) (ay_at hp 12) := (ax_XF_lt (x := 50) (Nat.le_of_ble_eq_true rfl)).mp (ax_gx hE (50, [3, 7]) ax_m0)
  have F47 : py_47 (pz_gt (ρ 0)) (pz_gN (ρ 0)) ((ρ 1) / 4) (ρ 3) (ρ 4) := (ax_XF_lt (x := 47) (Nat.le_of_ble_eq_true rfl)).mp (ax_gx hE (47, [3, 7, 15, 19]) ax_m1)
  have F99 : py_99 (ρ 3) (4028) (ρ 2) := (ax_XF_lt (x := 99) (Nat.le_of_ble_eq_true rfl)).mp (ax_gx hE (99, [15, 4028, 11]) ax_m2)
  have F44 : py_44 2 (ρ 2) := (ax_XF_lt (x := 44) (Nat.le_of_ble_eq_true rfl)).mp (ax_gx hE (44, [11]) ax_m3)
  obtain ⟨-, -, -, F41⟩ : ay_ex hp 10 ∧ ay_ex hp 15 ∧ ay_ex hp 16 ∧ py_x41 (ρ 5) (ay_at hp 10 5) (ay_at hp 15) (ay_at hp 16) := (ax_XF_lt (x := 41) (Nat.le_of_ble_eq_true rfl)).mp (ax_gx hE (41, [23]) ax_m4)
  have F99a : py_99 (ρ 5) (4028) (ρ 4) := (ax_XF_lt (x := 99) (Nat.le_of_ble_eq_true rfl)).mp (ax_gx hE (99, [23, 4028, 19]) ax_m5)
  refine ⟨(fun y hy => by cases hy), _, List.mem_cons_self, ρ, fun _ _ => rfl, ax_px hE rfl (fun y hy => ?_)⟩
  cases List.mem_singleton.mp hy
  refine (ax_XF_lt (x := 48) (Nat.le_of_ble_eq_true rfl)).mpr ?_
  show py_48 2 (pz_gt (ρ 0)) (pz_gN (ρ 0)) ((ρ 1) / 4) (ρ 2) (ρ 5)
  exact pr_sp3 F47 F99 (by decide) F44 F99a

theorem axq_spl_0 : ax_RO ax_wC ax_XC axu_spl_0 := by
  intro ρ hp hE hT
  have j0 : ρ 0 % 4 = 1 := pz_gj hE 0 (Nat.le_of_ble_eq_true rfl) rfl
  have j1 : ρ 1 % 4 = 1 := pz_gj hE 1 (Nat.le_of_ble_eq_true rfl) rfl
  have j2 : ρ 2 % 4 = 1 := pz_gj hE 2 (Nat.le_of_ble_eq_true rfl) rfl
  have j3 : ρ 3 % 4 = 1 := pz_gj hE 3 (Nat.le_of_ble_eq_true rfl) rfl
  obtain ⟨-, -, -, -, F50⟩ : ay_ex hp 8 ∧ ay_ex hp 10 ∧ ay_ex hp 11 ∧ ay_ex hp 12 ∧ pz_x50 (ρ 0) (ρ 1) (ay_at hp 8 5) (ay_at hp 8 6) (ay_at hp 8 7) (ay_at hp 8 8) (ay_at hp 10 0) (ay_at hp 10 1) (ay_at hp 10 2) (ay_at hp 10 3) (ay_at hp 10 4) (ay_at hp 8 9) (ay_at hp 8 11) (ay_at hp 8 10) (ay_at hp 8 3) (ay_at hp 8 4) (ay_at hp 11) (ay_at hp 12) := (ax_XF_lt (x := 50) (Nat.le_of_ble_eq_true rfl)).mp (ax_gx hE (50, [3, 7]) ax_m0)
  have F79 : pz7 (pz_gt (ρ 0)) (pz_gN (ρ 0)) ((ρ 1) / 4) 9 := (ax_XF_lt (x := 79) (Nat.le_of_ble_eq_true rfl)).mp (ax_gx hE (79, [3, 7]) ax_m1)
  have F47 : py_47 (pz_gt (ρ 0)) (pz_gN (ρ 0)) ((ρ 1) / 4) (ρ 2) (ρ 3) := (ax_XF_lt (x := 47) (Nat.le_of_ble_eq_true rfl)).mp (ax_gx hE (47, [3, 7, 11, 15]) ax_m2)
  refine ⟨(fun y hy => by cases hy), _, List.mem_cons_self, ρ, fun _ _ => rfl, ax_px hE rfl (fun y hy => ?_)⟩
  cases List.mem_singleton.mp hy
  refine (ax_XF_lt (x := 40) (Nat.le_of_ble_eq_true rfl)).mpr ?_
  show py_40 (ρ 3)
  exact pr_l47 F79 (by decide) F47

theorem axq_sp1_1 : ax_RO ax_wC ax_XC axu_sp1_1 := by
  intro ρ hp hE hT
  have j0 : ρ 0 % 4 = 1 := pz_gj hE 0 (Nat.le_of_ble_eq_true rfl) rfl
  have j1 : ρ 1 % 4 = 1 := pz_gj hE 1 (Nat.le_of_ble_eq_true rfl) rfl
  have j2 : ρ 2 % 4 = 1 := pz_gj hE 2 (Nat.le_of_ble_eq_true rfl) rfl
  have j3 : ρ 3 % 4 = 1 := pz_gj hE 3 (Nat.le_of_ble_eq_true rfl) rfl
  obtain ⟨-, -, -, -, F50⟩ : ay_ex hp 8 ∧ ay_ex hp 10 ∧ ay_ex hp 11 ∧ ay_ex hp 12 ∧ pz_x50 (ρ 0) (ρ 1) (ay_at hp 8 5) (ay_at hp 8 6) (ay_at hp 8 7) (ay_at hp 8 8) (ay_at hp 10 0) (ay_at hp 10 1) (ay_at hp 10 2) (ay_at hp 10 3) (ay_at hp 10 4) (ay_at hp 8 9) (ay_at hp 8 11) (ay_at hp 8 10) (ay_at hp 8 3) (ay_at hp 8 4) (ay_at hp 11) (ay_at hp 12) := (ax_XF_lt (x := 50) (Nat.le_of_ble_eq_true rfl)).mp (ax_gx hE (50, [3, 7]) ax_m0)
  have F47 : py_47 (pz_gt (ρ 0)) (pz_gN (ρ 0)) ((ρ 1) / 4) (ρ 2) (ρ 3) := (ax_XF_lt (x := 47) (Nat.le_of_ble_eq_true rfl)).mp (ax_gx hE (47, [3, 7, 11, 15]) ax_m1)
  have F44 : py_44 2 (ρ 2) := (ax_XF_lt (x := 44) (Nat.le_of_ble_eq_true rfl)).mp (ax_gx hE (44, [11]) ax_m2)
  refine ⟨(fun y hy => by cases hy), _, List.mem_cons_self, ρ, fun _ _ => rfl, ax_px hE rfl (fun y hy => ?_)⟩
  cases List.mem_singleton.mp hy
  refine (ax_XF_lt (x := 48) (Nat.le_of_ble_eq_true rfl)).mpr ?_
  show py_48 2 (pz_gt (ρ 0)) (pz_gN (ρ 0)) ((ρ 1) / 4) (ρ 2) (ρ 3)
  exact pr_sp1 F47 F44

theorem axq_sp2c42_1 : ax_RO ax_wC ax_XC axu_sp2c42_1 := by
  intro ρ hp hE hT
  have j0 : ρ 0 % 4 = 1 := pz_gj hE 0 (Nat.le_of_ble_eq_true rfl) rfl
  have j1 : ρ 1 % 4 = 1 := pz_gj hE 1 (Nat.le_of_ble_eq_true rfl) rfl
  have j2 : ρ 2 % 4 = 1 := pz_gj hE 2 (Nat.le_of_ble_eq_true rfl) rfl
  have j3 : ρ 3 % 4 = 1 := pz_gj hE 3 (Nat.le_of_ble_eq_true rfl) rfl
  have j4 : ρ 4 % 4 = 1 := pz_gj hE 4 (Nat.le_of_ble_eq_true rfl) rfl
  obtain ⟨i5a, i5b, i5c, i5d⟩ := pz_gi hE 5 2147483690 2147483690 (Nat.le_of_ble_eq_true rfl) rfl
  have c_kind : ay_at hp 8 7 = some (ρ 5) := ay_gfj hE 42 28 23 8 7 ax_m3 (ax_vlq rfl rfl) (ax_vlj rfl rfl)
  obtain ⟨-, -, -, -, F50⟩ : ay_ex hp 8 ∧ ay_ex hp 10 ∧ ay_ex hp 11 ∧ ay_ex hp 12 ∧ pz_x50 (ρ 0) (ρ 1) (ay_at hp 8 5) (ay_at hp 8 6) (ay_at hp 8 7) (ay_at hp 8 8) (ay_at hp 10 0) (ay_at hp 10 1) (ay_at hp 10 2) (ay_at hp 10 3) (ay_at hp 10 4) (ay_at hp 8 9) (ay_at hp 8 11) (ay_at hp 8 10) (ay_at hp 8 3) (ay_at hp 8 4) (ay_at hp 11) (ay_at hp 12) := (ax_XF_lt (x := 50) (Nat.le_of_ble_eq_true rfl)).mp (ax_gx hE (50, [3, 7]) ax_m0)
  rw [c_kind] at F50
  have F98 : (ρ 2) / 4 = (ρ 1) / 4 + 1 := (ax_XF_lt (x := 98) (Nat.le_of_ble_eq_true rfl)).mp (ax_gx hE (98, [7, 11]) ax_m1)
  have F78 : pz7 (pz_gt (ρ 0)) (pz_gN (ρ 0)) ((ρ 2) / 4) 8 := (ax_XF_lt (x := 78) (Nat.le_of_ble_eq_true rfl)).mp (ax_gx hE (78, [3, 11]) ax_m2)
  have F79 : pz7 (pz_gt (ρ 0)) (pz_gN (ρ 0)) ((ρ 1) / 4) 9 := (ax_XF_lt (x := 79) (Nat.le_of_ble_eq_true rfl)).mp (ax_gx hE (79, [3, 7]) ax_m4)
  have F48 : py_48 2 (pz_gt (ρ 0)) (pz_gN (ρ 0)) ((ρ 1) / 4) (ρ 3) (ρ 4) := (ax_XF_lt (x := 48) (Nat.le_of_ble_eq_true rfl)).mp (ax_gx hE (48, [3, 7, 15, 19]) ax_m5)
  have kd : ρ 5 / 4 = pz_kd (pz_gt (ρ 0)) (pz_gN (ρ 0)) (pz_p (pz_cf (pz_gt (ρ 0)) (pz_gN (ρ 0)) (ρ 1 / 4))) := F50.2.2.1
  rw [F98] at F78
  obtain ⟨ρ', h1, h2⟩ := pz_pn1 (K := ρ 3 / 4 * 4096 + 1005) (xf := [(46, [3, 11, 27, 19]), (99, [27, 4020, 15])]) hE (by decide) (fun ρ' h1 h2 x hx => by
    have q0 : ρ' 0 = ρ 0 := h1 0 (by decide)
    have q1 : ρ' 1 = ρ 1 := h1 1 (by decide)
    have q2 : ρ' 2 = ρ 2 := h1 2 (by decide)
    have q3 : ρ' 3 = ρ 3 := h1 3 (by decide)
    have q4 : ρ' 4 = ρ 4 := h1 4 (by decide)
    have q5 : ρ' 5 = ρ 5 := h1 5 (by decide)
    rcases List.mem_cons.mp hx with e | hx
    · subst e
      refine (ax_XF_lt (x := 46) (Nat.le_of_ble_eq_true rfl)).mpr ?_
      show py_46 (pz_gt (ρ' 0)) (pz_gN (ρ' 0)) ((ρ' 2) / 4) (ρ' 6) (ρ' 4)
      rw [q0, q2, q4, h2]
      rw [F98]
      exact pr_op (q := 42) (c := 4020) (by decide) F79 (by omega) rfl F78 (by decide) (by decide) F48 ⟨pz_41 _, F48.2.1, by decide⟩
    cases List.mem_singleton.mp hx
    refine (ax_XF_lt (x := 99) (Nat.le_of_ble_eq_true rfl)).mpr ?_
    show py_99 (ρ' 6) (4020) (ρ' 3)
    rw [q3, h2]
    exact ⟨pz_41 _, F48.2.1, by decide⟩)
  exact ⟨(fun y hy => by cases hy), _, List.mem_cons_self, ρ', h1, h2⟩

theorem axq_sp3c42_1 : ax_RO ax_wC ax_XC axu_sp3c42_1 := by
  intro ρ hp hE hT
  have j0 : ρ 0 % 4 = 1 := pz_gj hE 0 (Nat.le_of_ble_eq_true rfl) rfl
  have j1 : ρ 1 % 4 = 1 := pz_gj hE 1 (Nat.le_of_ble_eq_true rfl) rfl
  have j2 : ρ 2 % 4 = 1 := pz_gj hE 2 (Nat.le_of_ble_eq_true rfl) rfl
  have j3 : ρ 3 % 4 = 1 := pz_gj hE 3 (Nat.le_of_ble_eq_true rfl) rfl
  have j4 : ρ 4 % 4 = 1 := pz_gj hE 4 (Nat.le_of_ble_eq_true rfl) rfl
  have j5 : ρ 5 % 4 = 1 := pz_gj hE 5 (Nat.le_of_ble_eq_true rfl) rfl
  obtain ⟨i6a, i6b, i6c, i6d⟩ := pz_gi hE 6 2147483690 2147483690 (Nat.le_of_ble_eq_true rfl) rfl
  obtain ⟨-, -, -, -, F50⟩ : ay_ex hp 8 ∧ ay_ex hp 10 ∧ ay_ex hp 11 ∧ ay_ex hp 12 ∧ pz_x50 (ρ 0) (ρ 1) (ay_at hp 8 5) (ay_at hp 8 6) (ay_at hp 8 7) (ay_at hp 8 8) (ay_at hp 10 0) (ay_at hp 10 1) (ay_at hp 10 2) (ay_at hp 10 3) (ay_at hp 10 4) (ay_at hp 8 9) (ay_at hp 8 11) (ay_at hp 8 10) (ay_at hp 8 3) (ay_at hp 8 4) (ay_at hp 11) (ay_at hp 12) := (ax_XF_lt (x := 50) (Nat.le_of_ble_eq_true rfl)).mp (ax_gx hE (50, [3, 7]) ax_m0)
  have F47 : py_47 (pz_gt (ρ 0)) (pz_gN (ρ 0)) ((ρ 1) / 4) (ρ 3) (ρ 4) := (ax_XF_lt (x := 47) (Nat.le_of_ble_eq_true rfl)).mp (ax_gx hE (47, [3, 7, 15, 19]) ax_m1)
  have F99 : py_99 (ρ 3) (4020) (ρ 2) := (ax_XF_lt (x := 99) (Nat.le_of_ble_eq_true rfl)).mp (ax_gx hE (99, [15, 4020, 11]) ax_m2)
  have F44 : py_44 2 (ρ 2) := (ax_XF_lt (x := 44) (Nat.le_of_ble_eq_true rfl)).mp (ax_gx hE (44, [11]) ax_m3)
  obtain ⟨-, -, -, F41⟩ : ay_ex hp 10 ∧ ay_ex hp 15 ∧ ay_ex hp 16 ∧ py_x41 (ρ 5) (ay_at hp 10 5) (ay_at hp 15) (ay_at hp 16) := (ax_XF_lt (x := 41) (Nat.le_of_ble_eq_true rfl)).mp (ax_gx hE (41, [23]) ax_m4)
  have F99a : py_99 (ρ 5) (4020) (ρ 4) := (ax_XF_lt (x := 99) (Nat.le_of_ble_eq_true rfl)).mp (ax_gx hE (99, [23, 4020, 19]) ax_m5)
  refine ⟨(fun y hy => by cases hy), _, List.mem_cons_self, ρ, fun _ _ => rfl, ax_px hE rfl (fun y hy => ?_)⟩
  cases List.mem_singleton.mp hy
  refine (ax_XF_lt (x := 48) (Nat.le_of_ble_eq_true rfl)).mpr ?_
  show py_48 2 (pz_gt (ρ 0)) (pz_gN (ρ 0)) ((ρ 1) / 4) (ρ 2) (ρ 5)
  exact pr_sp3 F47 F99 (by decide) F44 F99a

theorem axq_sp2c47_1 : ax_RO ax_wC ax_XC axu_sp2c47_1 := by
  intro ρ hp hE hT
  have j0 : ρ 0 % 4 = 1 := pz_gj hE 0 (Nat.le_of_ble_eq_true rfl) rfl
  have j1 : ρ 1 % 4 = 1 := pz_gj hE 1 (Nat.le_of_ble_eq_true rfl) rfl
  have j2 : ρ 2 % 4 = 1 := pz_gj hE 2 (Nat.le_of_ble_eq_true rfl) rfl
  have j3 : ρ 3 % 4 = 1 := pz_gj hE 3 (Nat.le_of_ble_eq_true rfl) rfl
  have j4 : ρ 4 % 4 = 1 := pz_gj hE 4 (Nat.le_of_ble_eq_true rfl) rfl
  obtain ⟨i5a, i5b, i5c, i5d⟩ := pz_gi hE 5 2147483695 2147483695 (Nat.le_of_ble_eq_true rfl) rfl
  have c_kind : ay_at hp 8 7 = some (ρ 5) := ay_gfj hE 42 28 23 8 7 ax_m3 (ax_vlq rfl rfl) (ax_vlj rfl rfl)
  obtain ⟨-, -, -, -, F50⟩ : ay_ex hp 8 ∧ ay_ex hp 10 ∧ ay_ex hp 11 ∧ ay_ex hp 12 ∧ pz_x50 (ρ 0) (ρ 1) (ay_at hp 8 5) (ay_at hp 8 6) (ay_at hp 8 7) (ay_at hp 8 8) (ay_at hp 10 0) (ay_at hp 10 1) (ay_at hp 10 2) (ay_at hp 10 3) (ay_at hp 10 4) (ay_at hp 8 9) (ay_at hp 8 11) (ay_at hp 8 10) (ay_at hp 8 3) (ay_at hp 8 4) (ay_at hp 11) (ay_at hp 12) := (ax_XF_lt (x := 50) (Nat.le_of_ble_eq_true rfl)).mp (ax_gx hE (50, [3, 7]) ax_m0)
  rw [c_kind] at F50
  have F98 : (ρ 2) / 4 = (ρ 1) / 4 + 1 := (ax_XF_lt (x := 98) (Nat.le_of_ble_eq_true rfl)).mp (ax_gx hE (98, [7, 11]) ax_m1)
  have F78 : pz7 (pz_gt (ρ 0)) (pz_gN (ρ 0)) ((ρ 2) / 4) 8 := (ax_XF_lt (x := 78) (Nat.le_of_ble_eq_true rfl)).mp (ax_gx hE (78, [3, 11]) ax_m2)
  have F79 : pz7 (pz_gt (ρ 0)) (pz_gN (ρ 0)) ((ρ 1) / 4) 9 := (ax_XF_lt (x := 79) (Nat.le_of_ble_eq_true rfl)).mp (ax_gx hE (79, [3, 7]) ax_m4)
  have F48 : py_48 2 (pz_gt (ρ 0)) (pz_gN (ρ 0)) ((ρ 1) / 4) (ρ 3) (ρ 4) := (ax_XF_lt (x := 48) (Nat.le_of_ble_eq_true rfl)).mp (ax_gx hE (48, [3, 7, 15, 19]) ax_m5)
  have kd : ρ 5 / 4 = pz_kd (pz_gt (ρ 0)) (pz_gN (ρ 0)) (pz_p (pz_cf (pz_gt (ρ 0)) (pz_gN (ρ 0)) (ρ 1 / 4))) := F50.2.2.1
  rw [F98] at F78
  obtain ⟨ρ', h1, h2⟩ := pz_pn1 (K := ρ 3 / 4 * 4096 + 1006) (xf := [(46, [3, 11, 27, 19]), (99, [27, 4024, 15])]) hE (by decide) (fun ρ' h1 h2 x hx => by
    have q0 : ρ' 0 = ρ 0 := h1 0 (by decide)
    have q1 : ρ' 1 = ρ 1 := h1 1 (by decide)
    have q2 : ρ' 2 = ρ 2 := h1 2 (by decide)
    have q3 : ρ' 3 = ρ 3 := h1 3 (by decide)
    have q4 : ρ' 4 = ρ 4 := h1 4 (by decide)
    have q5 : ρ' 5 = ρ 5 := h1 5 (by decide)
    rcases List.mem_cons.mp hx with e | hx
    · subst e
      refine (ax_XF_lt (x := 46) (Nat.le_of_ble_eq_true rfl)).mpr ?_
      show py_46 (pz_gt (ρ' 0)) (pz_gN (ρ' 0)) ((ρ' 2) / 4) (ρ' 6) (ρ' 4)
      rw [q0, q2, q4, h2]
      rw [F98]
      exact pr_op (q := 47) (c := 4024) (by decide) F79 (by omega) rfl F78 (by decide) (by decide) F48 ⟨pz_41 _, F48.2.1, by decide⟩
    cases List.mem_singleton.mp hx
    refine (ax_XF_lt (x := 99) (Nat.le_of_ble_eq_true rfl)).mpr ?_
    show py_99 (ρ' 6) (4024) (ρ' 3)
    rw [q3, h2]
    exact ⟨pz_41 _, F48.2.1, by decide⟩)
  exact ⟨(fun y hy => by cases hy), _, List.mem_cons_self, ρ', h1, h2⟩

theorem axq_sp3c47_1 : ax_RO ax_wC ax_XC axu_sp3c47_1 := by
  intro ρ hp hE hT
  have j0 : ρ 0 % 4 = 1 := pz_gj hE 0 (Nat.le_of_ble_eq_true rfl) rfl
  have j1 : ρ 1 % 4 = 1 := pz_gj hE 1 (Nat.le_of_ble_eq_true rfl) rfl
  have j2 : ρ 2 % 4 = 1 := pz_gj hE 2 (Nat.le_of_ble_eq_true rfl) rfl
  have j3 : ρ 3 % 4 = 1 := pz_gj hE 3 (Nat.le_of_ble_eq_true rfl) rfl
  have j4 : ρ 4 % 4 = 1 := pz_gj hE 4 (Nat.le_of_ble_eq_true rfl) rfl
  have j5 : ρ 5 % 4 = 1 := pz_gj hE 5 (Nat.le_of_ble_eq_true rfl) rfl
  obtain ⟨i6a, i6b, i6c, i6d⟩ := pz_gi hE 6 2147483695 2147483695 (Nat.le_of_ble_eq_true rfl) rfl
  obtain ⟨-, -, -, -, F50⟩ : ay_ex hp 8 ∧ ay_ex hp 10 ∧ ay_ex hp 11 ∧ ay_ex hp 12 ∧ pz_x50 (ρ 0) (ρ 1) (ay_at hp 8 5) (ay_at hp 8 6) (ay_at hp 8 7) (ay_at hp 8 8) (ay_at hp 10 0) (ay_at hp 10 1) (ay_at hp 10 2) (ay_at hp 10 3) (ay_at hp 10 4) (ay_at hp 8 9) (ay_at hp 8 11) (ay_at hp 8 10) (ay_at hp 8 3) (ay_at hp 8 4) (ay_at hp 11) (ay_at hp 12) := (ax_XF_lt (x := 50) (Nat.le_of_ble_eq_true rfl)).mp (ax_gx hE (50, [3, 7]) ax_m0)
  have F47 : py_47 (pz_gt (ρ 0)) (pz_gN (ρ 0)) ((ρ 1) / 4) (ρ 3) (ρ 4) := (ax_XF_lt (x := 47) (Nat.le_of_ble_eq_true rfl)).mp (ax_gx hE (47, [3, 7, 15, 19]) ax_m1)
  have F99 : py_99 (ρ 3) (4024) (ρ 2) := (ax_XF_lt (x := 99) (Nat.le_of_ble_eq_true rfl)).mp (ax_gx hE (99, [15, 4024, 11]) ax_m2)
  have F44 : py_44 2 (ρ 2) := (ax_XF_lt (x := 44) (Nat.le_of_ble_eq_true rfl)).mp (ax_gx hE (44, [11]) ax_m3)
  obtain ⟨-, -, -, F41⟩ : ay_ex hp 10 ∧ ay_ex hp 15 ∧ ay_ex hp 16 ∧ py_x41 (ρ 5) (ay_at hp 10 5) (ay_at hp 15) (ay_at hp 16) := (ax_XF_lt (x := 41) (Nat.le_of_ble_eq_true rfl)).mp (ax_gx hE (41, [23]) ax_m4)
  have F99a : py_99 (ρ 5) (4024) (ρ 4) := (ax_XF_lt (x := 99) (Nat.le_of_ble_eq_true rfl)).mp (ax_gx hE (99, [23, 4024, 19]) ax_m5)
  refine ⟨(fun y hy => by cases hy), _, List.mem_cons_self, ρ, fun _ _ => rfl, ax_px hE rfl (fun y hy => ?_)⟩
  cases List.mem_singleton.mp hy
  refine (ax_XF_lt (x := 48) (Nat.le_of_ble_eq_true rfl)).mpr ?_
  show py_48 2 (pz_gt (ρ 0)) (pz_gN (ρ 0)) ((ρ 1) / 4) (ρ 2) (ρ 5)
  exact pr_sp3 F47 F99 (by decide) F44 F99a

theorem axq_sp2c37_1 : ax_RO ax_wC ax_XC axu_sp2c37_1 := by
  intro ρ hp hE hT
  have j0 : ρ 0 % 4 = 1 := pz_gj hE 0 (Nat.le_of_ble_eq_true rfl) rfl
  have j1 : ρ 1 % 4 = 1 := pz_gj hE 1 (Nat.le_of_ble_eq_true rfl) rfl
  have j2 : ρ 2 % 4 = 1 := pz_gj hE 2 (Nat.le_of_ble_eq_true rfl) rfl
  have j3 : ρ 3 % 4 = 1 := pz_gj hE 3 (Nat.le_of_ble_eq_true rfl) rfl
  have j4 : ρ 4 % 4 = 1 := pz_gj hE 4 (Nat.le_of_ble_eq_true rfl) rfl
  obtain ⟨i5a, i5b, i5c, i5d⟩ := pz_gi hE 5 2147483685 2147483685 (Nat.le_of_ble_eq_true rfl) rfl
  have c_kind : ay_at hp 8 7 = some (ρ 5) := ay_gfj hE 42 28 23 8 7 ax_m3 (ax_vlq rfl rfl) (ax_vlj rfl rfl)
  obtain ⟨-, -, -, -, F50⟩ : ay_ex hp 8 ∧ ay_ex hp 10 ∧ ay_ex hp 11 ∧ ay_ex hp 12 ∧ pz_x50 (ρ 0) (ρ 1) (ay_at hp 8 5) (ay_at hp 8 6) (ay_at hp 8 7) (ay_at hp 8 8) (ay_at hp 10 0) (ay_at hp 10 1) (ay_at hp 10 2) (ay_at hp 10 3) (ay_at hp 10 4) (ay_at hp 8 9) (ay_at hp 8 11) (ay_at hp 8 10) (ay_at hp 8 3) (ay_at hp 8 4) (ay_at hp 11) (ay_at hp 12) := (ax_XF_lt (x := 50) (Nat.le_of_ble_eq_true rfl)).mp (ax_gx hE (50, [3, 7]) ax_m0)
  rw [c_kind] at F50
  have F98 : (ρ 2) / 4 = (ρ 1) / 4 + 1 := (ax_XF_lt (x := 98) (Nat.le_of_ble_eq_true rfl)).mp (ax_gx hE (98, [7, 11]) ax_m1)
  have F78 : pz7 (pz_gt (ρ 0)) (pz_gN (ρ 0)) ((ρ 2) / 4) 8 := (ax_XF_lt (x := 78) (Nat.le_of_ble_eq_true rfl)).mp (ax_gx hE (78, [3, 11]) ax_m2)
  have F79 : pz7 (pz_gt (ρ 0)) (pz_gN (ρ 0)) ((ρ 1) / 4) 9 := (ax_XF_lt (x := 79) (Nat.le_of_ble_eq_true rfl)).mp (ax_gx hE (79, [3, 7]) ax_m4)
  have F48 : py_48 2 (pz_gt (ρ 0)) (pz_gN (ρ 0)) ((ρ 1) / 4) (ρ 3) (ρ 4) := (ax_XF_lt (x := 48) (Nat.le_of_ble_eq_true rfl)).mp (ax_gx hE (48, [3, 7, 15, 19]) ax_m5)
  have kd : ρ 5 / 4 = pz_kd (pz_gt (ρ 0)) (pz_gN (ρ 0)) (pz_p (pz_cf (pz_gt (ρ 0)) (pz_gN (ρ 0)) (ρ 1 / 4))) := F50.2.2.1
  rw [F98] at F78
  obtain ⟨ρ', h1, h2⟩ := pz_pn1 (K := ρ 3 / 4 * 4096 + 1007) (xf := [(46, [3, 11, 27, 19]), (99, [27, 4028, 15])]) hE (by decide) (fun ρ' h1 h2 x hx => by
    have q0 : ρ' 0 = ρ 0 := h1 0 (by decide)
    have q1 : ρ' 1 = ρ 1 := h1 1 (by decide)
    have q2 : ρ' 2 = ρ 2 := h1 2 (by decide)
    have q3 : ρ' 3 = ρ 3 := h1 3 (by decide)
    have q4 : ρ' 4 = ρ 4 := h1 4 (by decide)
    have q5 : ρ' 5 = ρ 5 := h1 5 (by decide)
    rcases List.mem_cons.mp hx with e | hx
    · subst e
      refine (ax_XF_lt (x := 46) (Nat.le_of_ble_eq_true rfl)).mpr ?_
      show py_46 (pz_gt (ρ' 0)) (pz_gN (ρ' 0)) ((ρ' 2) / 4) (ρ' 6) (ρ' 4)
      rw [q0, q2, q4, h2]
      rw [F98]
      exact pr_op (q := 37) (c := 4028) (by decide) F79 (by omega) rfl F78 (by decide) (by decide) F48 ⟨pz_41 _, F48.2.1, by decide⟩
    cases List.mem_singleton.mp hx
    refine (ax_XF_lt (x := 99) (Nat.le_of_ble_eq_true rfl)).mpr ?_
    show py_99 (ρ' 6) (4028) (ρ' 3)
    rw [q3, h2]
    exact ⟨pz_41 _, F48.2.1, by decide⟩)
  exact ⟨(fun y hy => by cases hy), _, List.mem_cons_self, ρ', h1, h2⟩

theorem axq_sp3c37_1 : ax_RO ax_wC ax_XC axu_sp3c37_1 := by
  intro ρ hp hE hT
  have j0 : ρ 0 % 4 = 1 := pz_gj hE 0 (Nat.le_of_ble_eq_true rfl) rfl
  have j1 : ρ 1 % 4 = 1 := pz_gj hE 1 (Nat.le_of_ble_eq_true rfl) rfl
  have j2 : ρ 2 % 4 = 1 := pz_gj hE 2 (Nat.le_of_ble_eq_true rfl) rfl
  have j3 : ρ 3 % 4 = 1 := pz_gj hE 3 (Nat.le_of_ble_eq_true rfl) rfl
  have j4 : ρ 4 % 4 = 1 := pz_gj hE 4 (Nat.le_of_ble_eq_true rfl) rfl
  have j5 : ρ 5 % 4 = 1 := pz_gj hE 5 (Nat.le_of_ble_eq_true rfl) rfl
  obtain ⟨i6a, i6b, i6c, i6d⟩ := pz_gi hE 6 2147483685 2147483685 (Nat.le_of_ble_eq_true rfl) rfl
  obtain ⟨-, -, -, -, F50⟩ : ay_ex hp 8 ∧ ay_ex hp 10 ∧ ay_ex hp 11 ∧ ay_ex hp 12 ∧ pz_x50 (ρ 0) (ρ 1) (ay_at hp 8 5) (ay_at hp 8 6) (ay_at hp 8 7) (ay_at hp 8 8) (ay_at hp 10 0) (ay_at hp 10 1) (ay_at hp 10 2) (ay_at hp 10 3) (ay_at hp 10 4) (ay_at hp 8 9) (ay_at hp 8 11) (ay_at hp 8 10) (ay_at hp 8 3) (ay_at hp 8 4) (ay_at hp 11) (ay_at hp 12) := (ax_XF_lt (x := 50) (Nat.le_of_ble_eq_true rfl)).mp (ax_gx hE (50, [3, 7]) ax_m0)
  have F47 : py_47 (pz_gt (ρ 0)) (pz_gN (ρ 0)) ((ρ 1) / 4) (ρ 3) (ρ 4) := (ax_XF_lt (x := 47) (Nat.le_of_ble_eq_true rfl)).mp (ax_gx hE (47, [3, 7, 15, 19]) ax_m1)
  have F99 : py_99 (ρ 3) (4028) (ρ 2) := (ax_XF_lt (x := 99) (Nat.le_of_ble_eq_true rfl)).mp (ax_gx hE (99, [15, 4028, 11]) ax_m2)
  have F44 : py_44 2 (ρ 2) := (ax_XF_lt (x := 44) (Nat.le_of_ble_eq_true rfl)).mp (ax_gx hE (44, [11]) ax_m3)
  obtain ⟨-, -, -, F41⟩ : ay_ex hp 10 ∧ ay_ex hp 15 ∧ ay_ex hp 16 ∧ py_x41 (ρ 5) (ay_at hp 10 5) (ay_at hp 15) (ay_at hp 16) := (ax_XF_lt (x := 41) (Nat.le_of_ble_eq_true rfl)).mp (ax_gx hE (41, [23]) ax_m4)
  have F99a : py_99 (ρ 5) (4028) (ρ 4) := (ax_XF_lt (x := 99) (Nat.le_of_ble_eq_true rfl)).mp (ax_gx hE (99, [23, 4028, 19]) ax_m5)
  refine ⟨(fun y hy => by cases hy), _, List.mem_cons_self, ρ, fun _ _ => rfl, ax_px hE rfl (fun y hy => ?_)⟩
  cases List.mem_singleton.mp hy
  refine (ax_XF_lt (x := 48) (Nat.le_of_ble_eq_true rfl)).mpr ?_
  show py_48 2 (pz_gt (ρ 0)) (pz_gN (ρ 0)) ((ρ 1) / 4) (ρ 2) (ρ 5)
  exact pr_sp3 F47 F99 (by decide) F44 F99a

theorem axq_spl_1 : ax_RO ax_wC ax_XC axu_spl_1 := by
  intro ρ hp hE hT
  have j0 : ρ 0 % 4 = 1 := pz_gj hE 0 (Nat.le_of_ble_eq_true rfl) rfl
  have j1 : ρ 1 % 4 = 1 := pz_gj hE 1 (Nat.le_of_ble_eq_true rfl) rfl
  have j2 : ρ 2 % 4 = 1 := pz_gj hE 2 (Nat.le_of_ble_eq_true rfl) rfl
  have j3 : ρ 3 % 4 = 1 := pz_gj hE 3 (Nat.le_of_ble_eq_true rfl) rfl
  obtain ⟨-, -, -, -, F50⟩ : ay_ex hp 8 ∧ ay_ex hp 10 ∧ ay_ex hp 11 ∧ ay_ex hp 12 ∧ pz_x50 (ρ 0) (ρ 1) (ay_at hp 8 5) (ay_at hp 8 6) (ay_at hp 8 7) (ay_at hp 8 8) (ay_at hp 10 0) (ay_at hp 10 1) (ay_at hp 10 2) (ay_at hp 10 3) (ay_at hp 10 4) (ay_at hp 8 9) (ay_at hp 8 11) (ay_at hp 8 10) (ay_at hp 8 3) (ay_at hp 8 4) (ay_at hp 11) (ay_at hp 12) := (ax_XF_lt (x := 50) (Nat.le_of_ble_eq_true rfl)).mp (ax_gx hE (50, [3, 7]) ax_m0)
  have F79 : pz7 (pz_gt (ρ 0)) (pz_gN (ρ 0)) ((ρ 1) / 4) 9 := (ax_XF_lt (x := 79) (Nat.le_of_ble_eq_true rfl)).mp (ax_gx hE (79, [3, 7]) ax_m1)
  have F47 : py_47 (pz_gt (ρ 0)) (pz_gN (ρ 0)) ((ρ 1) / 4) (ρ 2) (ρ 3) := (ax_XF_lt (x := 47) (Nat.le_of_ble_eq_true rfl)).mp (ax_gx hE (47, [3, 7, 11, 15]) ax_m2)
  refine ⟨(fun y hy => by cases hy), _, List.mem_cons_self, ρ, fun _ _ => rfl, ax_px hE rfl (fun y hy => ?_)⟩
  cases List.mem_singleton.mp hy
  refine (ax_XF_lt (x := 40) (Nat.le_of_ble_eq_true rfl)).mpr ?_
  show py_40 (ρ 3)
  exact pr_l47 F79 (by decide) F47

theorem axq_sp1_2 : ax_RO ax_wC ax_XC axu_sp1_2 := by
  intro ρ hp hE hT
  have j0 : ρ 0 % 4 = 1 := pz_gj hE 0 (Nat.le_of_ble_eq_true rfl) rfl
  have j1 : ρ 1 % 4 = 1 := pz_gj hE 1 (Nat.le_of_ble_eq_true rfl) rfl
  have j2 : ρ 2 % 4 = 1 := pz_gj hE 2 (Nat.le_of_ble_eq_true rfl) rfl
  have j3 : ρ 3 % 4 = 1 := pz_gj hE 3 (Nat.le_of_ble_eq_true rfl) rfl
  obtain ⟨-, -, -, -, F50⟩ : ay_ex hp 8 ∧ ay_ex hp 10 ∧ ay_ex hp 11 ∧ ay_ex hp 12 ∧ pz_x50 (ρ 0) (ρ 1) (ay_at hp 8 5) (ay_at hp 8 6) (ay_at hp 8 7) (ay_at hp 8 8) (ay_at hp 10 0) (ay_at hp 10 1) (ay_at hp 10 2) (ay_at hp 10 3) (ay_at hp 10 4) (ay_at hp 8 9) (ay_at hp 8 11) (ay_at hp 8 10) (ay_at hp 8 3) (ay_at hp 8 4) (ay_at hp 11) (ay_at hp 12) := (ax_XF_lt (x := 50) (Nat.le_of_ble_eq_true rfl)).mp (ax_gx hE (50, [3, 7]) ax_m0)
  have F47 : py_47 (pz_gt (ρ 0)) (pz_gN (ρ 0)) ((ρ 1) / 4) (ρ 2) (ρ 3) := (ax_XF_lt (x := 47) (Nat.le_of_ble_eq_true rfl)).mp (ax_gx hE (47, [3, 7, 11, 15]) ax_m1)
  have F44 : py_44 2 (ρ 2) := (ax_XF_lt (x := 44) (Nat.le_of_ble_eq_true rfl)).mp (ax_gx hE (44, [11]) ax_m2)
  refine ⟨(fun y hy => by cases hy), _, List.mem_cons_self, ρ, fun _ _ => rfl, ax_px hE rfl (fun y hy => ?_)⟩
  cases List.mem_singleton.mp hy
  refine (ax_XF_lt (x := 48) (Nat.le_of_ble_eq_true rfl)).mpr ?_
  show py_48 2 (pz_gt (ρ 0)) (pz_gN (ρ 0)) ((ρ 1) / 4) (ρ 2) (ρ 3)
  exact pr_sp1 F47 F44

theorem axq_sp2c42_2 : ax_RO ax_wC ax_XC axu_sp2c42_2 := by
  intro ρ hp hE hT
  have j0 : ρ 0 % 4 = 1 := pz_gj hE 0 (Nat.le_of_ble_eq_true rfl) rfl
  have j1 : ρ 1 % 4 = 1 := pz_gj hE 1 (Nat.le_of_ble_eq_true rfl) rfl
  have j2 : ρ 2 % 4 = 1 := pz_gj hE 2 (Nat.le_of_ble_eq_true rfl) rfl
  have j3 : ρ 3 % 4 = 1 := pz_gj hE 3 (Nat.le_of_ble_eq_true rfl) rfl
  have j4 : ρ 4 % 4 = 1 := pz_gj hE 4 (Nat.le_of_ble_eq_true rfl) rfl
  obtain ⟨i5a, i5b, i5c, i5d⟩ := pz_gi hE 5 2147483690 2147483690 (Nat.le_of_ble_eq_true rfl) rfl
  have c_kind : ay_at hp 8 7 = some (ρ 5) := ay_gfj hE 42 28 23 8 7 ax_m3 (ax_vlq rfl rfl) (ax_vlj rfl rfl)
  obtain ⟨-, -, -, -, F50⟩ : ay_ex hp 8 ∧ ay_ex hp 10 ∧ ay_ex hp 11 ∧ ay_ex hp 12 ∧ pz_x50 (ρ 0) (ρ 1) (ay_at hp 8 5) (ay_at hp 8 6) (ay_at hp 8 7) (ay_at hp 8 8) (ay_at hp 10 0) (ay_at hp 10 1) (ay_at hp 10 2) (ay_at hp 10 3) (ay_at hp 10 4) (ay_at hp 8 9) (ay_at hp 8 11) (ay_at hp 8 10) (ay_at hp 8 3) (ay_at hp 8 4) (ay_at hp 11) (ay_at hp 12) := (ax_XF_lt (x := 50) (Nat.le_of_ble_eq_true rfl)).mp (ax_gx hE (50, [3, 7]) ax_m0)
  rw [c_kind] at F50
  have F98 : (ρ 2) / 4 = (ρ 1) / 4 + 1 := (ax_XF_lt (x := 98) (Nat.le_of_ble_eq_true rfl)).mp (ax_gx hE (98, [7, 11]) ax_m1)
  have F78 : pz7 (pz_gt (ρ 0)) (pz_gN (ρ 0)) ((ρ 2) / 4) 8 := (ax_XF_lt (x := 78) (Nat.le_of_ble_eq_true rfl)).mp (ax_gx hE (78, [3, 11]) ax_m2)
  have F79 : pz7 (pz_gt (ρ 0)) (pz_gN (ρ 0)) ((ρ 1) / 4) 9 := (ax_XF_lt (x := 79) (Nat.le_of_ble_eq_true rfl)).mp (ax_gx hE (79, [3, 7]) ax_m4)
  have F48 : py_48 2 (pz_gt (ρ 0)) (pz_gN (ρ 0)) ((ρ 1) / 4) (ρ 3) (ρ 4) := (ax_XF_lt (x := 48) (Nat.le_of_ble_eq_true rfl)).mp (ax_gx hE (48, [3, 7, 15, 19]) ax_m5)
  have kd : ρ 5 / 4 = pz_kd (pz_gt (ρ 0)) (pz_gN (ρ 0)) (pz_p (pz_cf (pz_gt (ρ 0)) (pz_gN (ρ 0)) (ρ 1 / 4))) := F50.2.2.1
  rw [F98] at F78
  obtain ⟨ρ', h1, h2⟩ := pz_pn1 (K := ρ 3 / 4 * 4096 + 1005) (xf := [(46, [3, 11, 27, 19]), (99, [27, 4020, 15])]) hE (by decide) (fun ρ' h1 h2 x hx => by
    have q0 : ρ' 0 = ρ 0 := h1 0 (by decide)
    have q1 : ρ' 1 = ρ 1 := h1 1 (by decide)
    have q2 : ρ' 2 = ρ 2 := h1 2 (by decide)
    have q3 : ρ' 3 = ρ 3 := h1 3 (by decide)
    have q4 : ρ' 4 = ρ 4 := h1 4 (by decide)
    have q5 : ρ' 5 = ρ 5 := h1 5 (by decide)
    rcases List.mem_cons.mp hx with e | hx
    · subst e
      refine (ax_XF_lt (x := 46) (Nat.le_of_ble_eq_true rfl)).mpr ?_
      show py_46 (pz_gt (ρ' 0)) (pz_gN (ρ' 0)) ((ρ' 2) / 4) (ρ' 6) (ρ' 4)
      rw [q0, q2, q4, h2]
      rw [F98]
      exact pr_op (q := 42) (c := 4020) (by decide) F79 (by omega) rfl F78 (by decide) (by decide) F48 ⟨pz_41 _, F48.2.1, by decide⟩
    cases List.mem_singleton.mp hx
    refine (ax_XF_lt (x := 99) (Nat.le_of_ble_eq_true rfl)).mpr ?_
    show py_99 (ρ' 6) (4020) (ρ' 3)
    rw [q3, h2]
    exact ⟨pz_41 _, F48.2.1, by decide⟩)
  exact ⟨(fun y hy => by cases hy), _, List.mem_cons_self, ρ', h1, h2⟩

theorem axq_sp3c42_2 : ax_RO ax_wC ax_XC axu_sp3c42_2 := by
  intro ρ hp hE hT
  have j0 : ρ 0 % 4 = 1 := pz_gj hE 0 (Nat.le_of_ble_eq_true rfl) rfl
  have j1 : ρ 1 % 4 = 1 := pz_gj hE 1 (Nat.le_of_ble_eq_true rfl) rfl
  have j2 : ρ 2 % 4 = 1 := pz_gj hE 2 (Nat.le_of_ble_eq_true rfl) rfl
  have j3 : ρ 3 % 4 = 1 := pz_gj hE 3 (Nat.le_of_ble_eq_true rfl) rfl
  have j4 : ρ 4 % 4 = 1 := pz_gj hE 4 (Nat.le_of_ble_eq_true rfl) rfl
  have j5 : ρ 5 % 4 = 1 := pz_gj hE 5 (Nat.le_of_ble_eq_true rfl) rfl
  obtain ⟨i6a, i6b, i6c, i6d⟩ := pz_gi hE 6 2147483690 2147483690 (Nat.le_of_ble_eq_true rfl) rfl
  obtain ⟨-, -, -, -, F50⟩ : ay_ex hp 8 ∧ ay_ex hp 10 ∧ ay_ex hp 11 ∧ ay_ex hp 12 ∧ pz_x50 (ρ 0) (ρ 1) (ay_at hp 8 5) (ay_at hp 8 6) (ay_at hp 8 7) (ay_at hp 8 8) (ay_at hp 10 0) (ay_at hp 10 1) (ay_at hp 10 2) (ay_at hp 10 3) (ay_at hp 10 4) (ay_at hp 8 9) (ay_at hp 8 11) (ay_at hp 8 10) (ay_at hp 8 3) (ay_at hp 8 4) (ay_at hp 11) (ay_at hp 12) := (ax_XF_lt (x := 50) (Nat.le_of_ble_eq_true rfl)).mp (ax_gx hE (50, [3, 7]) ax_m0)
  have F47 : py_47 (pz_gt (ρ 0)) (pz_gN (ρ 0)) ((ρ 1) / 4) (ρ 3) (ρ 4) := (ax_XF_lt (x := 47) (Nat.le_of_ble_eq_true rfl)).mp (ax_gx hE (47, [3, 7, 15, 19]) ax_m1)
  have F99 : py_99 (ρ 3) (4020) (ρ 2) := (ax_XF_lt (x := 99) (Nat.le_of_ble_eq_true rfl)).mp (ax_gx hE (99, [15, 4020, 11]) ax_m2)
  have F44 : py_44 2 (ρ 2) := (ax_XF_lt (x := 44) (Nat.le_of_ble_eq_true rfl)).mp (ax_gx hE (44, [11]) ax_m3)
  obtain ⟨-, -, -, F41⟩ : ay_ex hp 10 ∧ ay_ex hp 15 ∧ ay_ex hp 16 ∧ py_x41 (ρ 5) (ay_at hp 10 5) (ay_at hp 15) (ay_at hp 16) := (ax_XF_lt (x := 41) (Nat.le_of_ble_eq_true rfl)).mp (ax_gx hE (41, [23]) ax_m4)
  have F99a : py_99 (ρ 5) (4020) (ρ 4) := (ax_XF_lt (x := 99) (Nat.le_of_ble_eq_true rfl)).mp (ax_gx hE (99, [23, 4020, 19]) ax_m5)
  refine ⟨(fun y hy => by cases hy), _, List.mem_cons_self, ρ, fun _ _ => rfl, ax_px hE rfl (fun y hy => ?_)⟩
  cases List.mem_singleton.mp hy
  refine (ax_XF_lt (x := 48) (Nat.le_of_ble_eq_true rfl)).mpr ?_
  show py_48 2 (pz_gt (ρ 0)) (pz_gN (ρ 0)) ((ρ 1) / 4) (ρ 2) (ρ 5)
  exact pr_sp3 F47 F99 (by decide) F44 F99a

theorem axq_sp2c47_2 : ax_RO ax_wC ax_XC axu_sp2c47_2 := by
  intro ρ hp hE hT
  have j0 : ρ 0 % 4 = 1 := pz_gj hE 0 (Nat.le_of_ble_eq_true rfl) rfl
  have j1 : ρ 1 % 4 = 1 := pz_gj hE 1 (Nat.le_of_ble_eq_true rfl) rfl
  have j2 : ρ 2 % 4 = 1 := pz_gj hE 2 (Nat.le_of_ble_eq_true rfl) rfl
  have j3 : ρ 3 % 4 = 1 := pz_gj hE 3 (Nat.le_of_ble_eq_true rfl) rfl
  have j4 : ρ 4 % 4 = 1 := pz_gj hE 4 (Nat.le_of_ble_eq_true rfl) rfl
  obtain ⟨i5a, i5b, i5c, i5d⟩ := pz_gi hE 5 2147483695 2147483695 (Nat.le_of_ble_eq_true rfl) rfl
  have c_kind : ay_at hp 8 7 = some (ρ 5) := ay_gfj hE 42 28 23 8 7 ax_m3 (ax_vlq rfl rfl) (ax_vlj rfl rfl)
  obtain ⟨-, -, -, -, F50⟩ : ay_ex hp 8 ∧ ay_ex hp 10 ∧ ay_ex hp 11 ∧ ay_ex hp 12 ∧ pz_x50 (ρ 0) (ρ 1) (ay_at hp 8 5) (ay_at hp 8 6) (ay_at hp 8 7) (ay_at hp 8 8) (ay_at hp 10 0) (ay_at hp 10 1) (ay_at hp 10 2) (ay_at hp 10 3) (ay_at hp 10 4) (ay_at hp 8 9) (ay_at hp 8 11) (ay_at hp 8 10) (ay_at hp 8 3) (ay_at hp 8 4) (ay_at hp 11) (ay_at hp 12) := (ax_XF_lt (x := 50) (Nat.le_of_ble_eq_true rfl)).mp (ax_gx hE (50, [3, 7]) ax_m0)
  rw [c_kind] at F50
  have F98 : (ρ 2) / 4 = (ρ 1) / 4 + 1 := (ax_XF_lt (x := 98) (Nat.le_of_ble_eq_true rfl)).mp (ax_gx hE (98, [7, 11]) ax_m1)
  have F78 : pz7 (pz_gt (ρ 0)) (pz_gN (ρ 0)) ((ρ 2) / 4) 8 := (ax_XF_lt (x := 78) (Nat.le_of_ble_eq_true rfl)).mp (ax_gx hE (78, [3, 11]) ax_m2)
  have F79 : pz7 (pz_gt (ρ 0)) (pz_gN (ρ 0)) ((ρ 1) / 4) 9 := (ax_XF_lt (x := 79) (Nat.le_of_ble_eq_true rfl)).mp (ax_gx hE (79, [3, 7]) ax_m4)
  have F48 : py_48 2 (pz_gt (ρ 0)) (pz_gN (ρ 0)) ((ρ 1) / 4) (ρ 3) (ρ 4) := (ax_XF_lt (x := 48) (Nat.le_of_ble_eq_true rfl)).mp (ax_gx hE (48, [3, 7, 15, 19]) ax_m5)
  have kd : ρ 5 / 4 = pz_kd (pz_gt (ρ 0)) (pz_gN (ρ 0)) (pz_p (pz_cf (pz_gt (ρ 0)) (pz_gN (ρ 0)) (ρ 1 / 4))) := F50.2.2.1
  rw [F98] at F78
  obtain ⟨ρ', h1, h2⟩ := pz_pn1 (K := ρ 3 / 4 * 4096 + 1006) (xf := [(46, [3, 11, 27, 19]), (99, [27, 4024, 15])]) hE (by decide) (fun ρ' h1 h2 x hx => by
    have q0 : ρ' 0 = ρ 0 := h1 0 (by decide)
    have q1 : ρ' 1 = ρ 1 := h1 1 (by decide)
    have q2 : ρ' 2 = ρ 2 := h1 2 (by decide)
    have q3 : ρ' 3 = ρ 3 := h1 3 (by decide)
    have q4 : ρ' 4 = ρ 4 := h1 4 (by decide)
    have q5 : ρ' 5 = ρ 5 := h1 5 (by decide)
    rcases List.mem_cons.mp hx with e | hx
    · subst e
      refine (ax_XF_lt (x := 46) (Nat.le_of_ble_eq_true rfl)).mpr ?_
      show py_46 (pz_gt (ρ' 0)) (pz_gN (ρ' 0)) ((ρ' 2) / 4) (ρ' 6) (ρ' 4)
      rw [q0, q2, q4, h2]
      rw [F98]
      exact pr_op (q := 47) (c := 4024) (by decide) F79 (by omega) rfl F78 (by decide) (by decide) F48 ⟨pz_41 _, F48.2.1, by decide⟩
    cases List.mem_singleton.mp hx
    refine (ax_XF_lt (x := 99) (Nat.le_of_ble_eq_true rfl)).mpr ?_
    show py_99 (ρ' 6) (4024) (ρ' 3)
    rw [q3, h2]
    exact ⟨pz_41 _, F48.2.1, by decide⟩)
  exact ⟨(fun y hy => by cases hy), _, List.mem_cons_self, ρ', h1, h2⟩

theorem axq_sp3c47_2 : ax_RO ax_wC ax_XC axu_sp3c47_2 := by
  intro ρ hp hE hT
  have j0 : ρ 0 % 4 = 1 := pz_gj hE 0 (Nat.le_of_ble_eq_true rfl) rfl
  have j1 : ρ 1 % 4 = 1 := pz_gj hE 1 (Nat.le_of_ble_eq_true rfl) rfl
  have j2 : ρ 2 % 4 = 1 := pz_gj hE 2 (Nat.le_of_ble_eq_true rfl) rfl
  have j3 : ρ 3 % 4 = 1 := pz_gj hE 3 (Nat.le_of_ble_eq_true rfl) rfl
  have j4 : ρ 4 % 4 = 1 := pz_gj hE 4 (Nat.le_of_ble_eq_true rfl) rfl
  have j5 : ρ 5 % 4 = 1 := pz_gj hE 5 (Nat.le_of_ble_eq_true rfl) rfl
  obtain ⟨i6a, i6b, i6c, i6d⟩ := pz_gi hE 6 2147483695 2147483695 (Nat.le_of_ble_eq_true rfl) rfl
  obtain ⟨-, -, -, -, F50⟩ : ay_ex hp 8 ∧ ay_ex hp 10 ∧ ay_ex hp 11 ∧ ay_ex hp 12 ∧ pz_x50 (ρ 0) (ρ 1) (ay_at hp 8 5) (ay_at hp 8 6) (ay_at hp 8 7) (ay_at hp 8 8) (ay_at hp 10 0) (ay_at hp 10 1) (ay_at hp 10 2) (ay_at hp 10 3) (ay_at hp 10 4) (ay_at hp 8 9) (ay_at hp 8 11) (ay_at hp 8 10) (ay_at hp 8 3) (ay_at hp 8 4) (ay_at hp 11) (ay_at hp 12) := (ax_XF_lt (x := 50) (Nat.le_of_ble_eq_true rfl)).mp (ax_gx hE (50, [3, 7]) ax_m0)
  have F47 : py_47 (pz_gt (ρ 0)) (pz_gN (ρ 0)) ((ρ 1) / 4) (ρ 3) (ρ 4) := (ax_XF_lt (x := 47) (Nat.le_of_ble_eq_true rfl)).mp (ax_gx hE (47, [3, 7, 15, 19]) ax_m1)
  have F99 : py_99 (ρ 3) (4024) (ρ 2) := (ax_XF_lt (x := 99) (Nat.le_of_ble_eq_true rfl)).mp (ax_gx hE (99, [15, 4024, 11]) ax_m2)
  have F44 : py_44 2 (ρ 2) := (ax_XF_lt (x := 44) (Nat.le_of_ble_eq_true rfl)).mp (ax_gx hE (44, [11]) ax_m3)
  obtain ⟨-, -, -, F41⟩ : ay_ex hp 10 ∧ ay_ex hp 15 ∧ ay_ex hp 16 ∧ py_x41 (ρ 5) (ay_at hp 10 5) (ay_at hp 15) (ay_at hp 16) := (ax_XF_lt (x := 41) (Nat.le_of_ble_eq_true rfl)).mp (ax_gx hE (41, [23]) ax_m4)
  have F99a : py_99 (ρ 5) (4024) (ρ 4) := (ax_XF_lt (x := 99) (Nat.le_of_ble_eq_true rfl)).mp (ax_gx hE (99, [23, 4024, 19]) ax_m5)
  refine ⟨(fun y hy => by cases hy), _, List.mem_cons_self, ρ, fun _ _ => rfl, ax_px hE rfl (fun y hy => ?_)⟩
  cases List.mem_singleton.mp hy
  refine (ax_XF_lt (x := 48) (Nat.le_of_ble_eq_true rfl)).mpr ?_
  show py_48 2 (pz_gt (ρ 0)) (pz_gN (ρ 0)) ((ρ 1) / 4) (ρ 2) (ρ 5)
  exact pr_sp3 F47 F99 (by decide) F44 F99a

theorem axq_sp2c37_2 : ax_RO ax_wC ax_XC axu_sp2c37_2 := by
  intro ρ hp hE hT
  have j0 : ρ 0 % 4 = 1 := pz_gj hE 0 (Nat.le_of_ble_eq_true rfl) rfl
  have j1 : ρ 1 % 4 = 1 := pz_gj hE 1 (Nat.le_of_ble_eq_true rfl) rfl
  have j2 : ρ 2 % 4 = 1 := pz_gj hE 2 (Nat.le_of_ble_eq_true rfl) rfl
  have j3 : ρ 3 % 4 = 1 := pz_gj hE 3 (Nat.le_of_ble_eq_true rfl) rfl
  have j4 : ρ 4 % 4 = 1 := pz_gj hE 4 (Nat.le_of_ble_eq_true rfl) rfl
  obtain ⟨i5a, i5b, i5c, i5d⟩ := pz_gi hE 5 2147483685 2147483685 (Nat.le_of_ble_eq_true rfl) rfl
  have c_kind : ay_at hp 8 7 = some (ρ 5) := ay_gfj hE 42 28 23 8 7 ax_m3 (ax_vlq rfl rfl) (ax_vlj rfl rfl)
  obtain ⟨-, -, -, -, F50⟩ : ay_ex hp 8 ∧ ay_ex hp 10 ∧ ay_ex hp 11 ∧ ay_ex hp 12 ∧ pz_x50 (ρ 0) (ρ 1) (ay_at hp 8 5) (ay_at hp 8 6) (ay_at hp 8 7) (ay_at hp 8 8) (ay_at hp 10 0) (ay_at hp 10 1) (ay_at hp 10 2) (ay_at hp 10 3) (ay_at hp 10 4) (ay_at hp 8 9) (ay_at hp 8 11) (ay_at hp 8 10) (ay_at hp 8 3) (ay_at hp 8 4) (ay_at hp 11) (ay_at hp 12) := (ax_XF_lt (x := 50) (Nat.le_of_ble_eq_true rfl)).mp (ax_gx hE (50, [3, 7]) ax_m0)
  rw [c_kind] at F50
  have F98 : (ρ 2) / 4 = (ρ 1) / 4 + 1 := (ax_XF_lt (x := 98) (Nat.le_of_ble_eq_true rfl)).mp (ax_gx hE (98, [7, 11]) ax_m1)
  have F78 : pz7 (pz_gt (ρ 0)) (pz_gN (ρ 0)) ((ρ 2) / 4) 8 := (ax_XF_lt (x := 78) (Nat.le_of_ble_eq_true rfl)).mp (ax_gx hE (78, [3, 11]) ax_m2)
  have F79 : pz7 (pz_gt (ρ 0)) (pz_gN (ρ 0)) ((ρ 1) / 4) 9 := (ax_XF_lt (x := 79) (Nat.le_of_ble_eq_true rfl)).mp (ax_gx hE (79, [3, 7]) ax_m4)
  have F48 : py_48 2 (pz_gt (ρ 0)) (pz_gN (ρ 0)) ((ρ 1) / 4) (ρ 3) (ρ 4) := (ax_XF_lt (x := 48) (Nat.le_of_ble_eq_true rfl)).mp (ax_gx hE (48, [3, 7, 15, 19]) ax_m5)
  have kd : ρ 5 / 4 = pz_kd (pz_gt (ρ 0)) (pz_gN (ρ 0)) (pz_p (pz_cf (pz_gt (ρ 0)) (pz_gN (ρ 0)) (ρ 1 / 4))) := F50.2.2.1
  rw [F98] at F78
  obtain ⟨ρ', h1, h2⟩ := pz_pn1 (K := ρ 3 / 4 * 4096 + 1007) (xf := [(46, [3, 11, 27, 19]), (99, [27, 4028, 15])]) hE (by decide) (fun ρ' h1 h2 x hx => by
    have q0 : ρ' 0 = ρ 0 := h1 0 (by decide)
    have q1 : ρ' 1 = ρ 1 := h1 1 (by decide)
    have q2 : ρ' 2 = ρ 2 := h1 2 (by decide)
    have q3 : ρ' 3 = ρ 3 := h1 3 (by decide)
    have q4 : ρ' 4 = ρ 4 := h1 4 (by decide)
    have q5 : ρ' 5 = ρ 5 := h1 5 (by decide)
    rcases List.mem_cons.mp hx with e | hx
    · subst e
      refine (ax_XF_lt (x := 46) (Nat.le_of_ble_eq_true rfl)).mpr ?_
      show py_46 (pz_gt (ρ' 0)) (pz_gN (ρ' 0)) ((ρ' 2) / 4) (ρ' 6) (ρ' 4)
      rw [q0, q2, q4, h2]
      rw [F98]
      exact pr_op (q := 37) (c := 4028) (by decide) F79 (by omega) rfl F78 (by decide) (by decide) F48 ⟨pz_41 _, F48.2.1, by decide⟩
    cases List.mem_singleton.mp hx
    refine (ax_XF_lt (x := 99) (Nat.le_of_ble_eq_true rfl)).mpr ?_
    show py_99 (ρ' 6) (4028) (ρ' 3)
    rw [q3, h2]
    exact ⟨pz_41 _, F48.2.1, by decide⟩)
  exact ⟨(fun y hy => by cases hy), _, List.mem_cons_self, ρ', h1, h2⟩

theorem axq_sp3c37_2 : ax_RO ax_wC ax_XC axu_sp3c37_2 := by
  intro ρ hp hE hT
  have j0 : ρ 0 % 4 = 1 := pz_gj hE 0 (Nat.le_of_ble_eq_true rfl) rfl
  have j1 : ρ 1 % 4 = 1 := pz_gj hE 1 (Nat.le_of_ble_eq_true rfl) rfl
  have j2 : ρ 2 % 4 = 1 := pz_gj hE 2 (Nat.le_of_ble_eq_true rfl) rfl
  have j3 : ρ 3 % 4 = 1 := pz_gj hE 3 (Nat.le_of_ble_eq_true rfl) rfl
  have j4 : ρ 4 % 4 = 1 := pz_gj hE 4 (Nat.le_of_ble_eq_true rfl) rfl
  have j5 : ρ 5 % 4 = 1 := pz_gj hE 5 (Nat.le_of_ble_eq_true rfl) rfl
  obtain ⟨i6a, i6b, i6c, i6d⟩ := pz_gi hE 6 2147483685 2147483685 (Nat.le_of_ble_eq_true rfl) rfl
  obtain ⟨-, -, -, -, F50⟩ : ay_ex hp 8 ∧ ay_ex hp 10 ∧ ay_ex hp 11 ∧ ay_ex hp 12 ∧ pz_x50 (ρ 0) (ρ 1) (ay_at hp 8 5) (ay_at hp 8 6) (ay_at hp 8 7) (ay_at hp 8 8) (ay_at hp 10 0) (ay_at hp 10 1) (ay_at hp 10 2) (ay_at hp 10 3) (ay_at hp 10 4) (ay_at hp 8 9) (ay_at hp 8 11) (ay_at hp 8 10) (ay_at hp 8 3) (ay_at hp 8 4) (ay_at hp 11) (ay_at hp 12) := (ax_XF_lt (x := 50) (Nat.le_of_ble_eq_true rfl)).mp (ax_gx hE (50, [3, 7]) ax_m0)
  have F47 : py_47 (pz_gt (ρ 0)) (pz_gN (ρ 0)) ((ρ 1) / 4) (ρ 3) (ρ 4) := (ax_XF_lt (x := 47) (Nat.le_of_ble_eq_true rfl)).mp (ax_gx hE (47, [3, 7, 15, 19]) ax_m1)
  have F99 : py_99 (ρ 3) (4028) (ρ 2) := (ax_XF_lt (x := 99) (Nat.le_of_ble_eq_true rfl)).mp (ax_gx hE (99, [15, 4028, 11]) ax_m2)
  have F44 : py_44 2 (ρ 2) := (ax_XF_lt (x := 44) (Nat.le_of_ble_eq_true rfl)).mp (ax_gx hE (44, [11]) ax_m3)
  obtain ⟨-, -, -, F41⟩ : ay_ex hp 10 ∧ ay_ex hp 15 ∧ ay_ex hp 16 ∧ py_x41 (ρ 5) (ay_at hp 10 5) (ay_at hp 15) (ay_at hp 16) := (ax_XF_lt (x := 41) (Nat.le_of_ble_eq_true rfl)).mp (ax_gx hE (41, [23]) ax_m4)
  have F99a : py_99 (ρ 5) (4028) (ρ 4) := (ax_XF_lt (x := 99) (Nat.le_of_ble_eq_true rfl)).mp (ax_gx hE (99, [23, 4028, 19]) ax_m5)
  refine ⟨(fun y hy => by cases hy), _, List.mem_cons_self, ρ, fun _ _ => rfl, ax_px hE rfl (fun y hy => ?_)⟩
  cases List.mem_singleton.mp hy
  refine (ax_XF_lt (x := 48) (Nat.le_of_ble_eq_true rfl)).mpr ?_
  show py_48 2 (pz_gt (ρ 0)) (pz_gN (ρ 0)) ((ρ 1) / 4) (ρ 2) (ρ 5)
  exact pr_sp3 F47 F99 (by decide) F44 F99a

theorem axq_spl_2 : ax_RO ax_wC ax_XC axu_spl_2 := by
  intro ρ hp hE hT
  have j0 : ρ 0 % 4 = 1 := pz_gj hE 0 (Nat.le_of_ble_eq_true rfl) rfl
  have j1 : ρ 1 % 4 = 1 := pz_gj hE 1 (Nat.le_of_ble_eq_true rfl) rfl
  have j2 : ρ 2 % 4 = 1 := pz_gj hE 2 (Nat.le_of_ble_eq_true rfl) rfl
  have j3 : ρ 3 % 4 = 1 := pz_gj hE 3 (Nat.le_of_ble_eq_true rfl) rfl
  obtain ⟨-, -, -, -, F50⟩ : ay_ex hp 8 ∧ ay_ex hp 10 ∧ ay_ex hp 11 ∧ ay_ex hp 12 ∧ pz_x50 (ρ 0) (ρ 1) (ay_at hp 8 5) (ay_at hp 8 6) (ay_at hp 8 7) (ay_at hp 8 8) (ay_at hp 10 0) (ay_at hp 10 1) (ay_at hp 10 2) (ay_at hp 10 3) (ay_at hp 10 4) (ay_at hp 8 9) (ay_at hp 8 11) (ay_at hp 8 10) (ay_at hp 8 3) (ay_at hp 8 4) (ay_at hp 11) (ay_at hp 12) := (ax_XF_lt (x := 50) (Nat.le_of_ble_eq_true rfl)).mp (ax_gx hE (50, [3, 7]) ax_m0)
  have F79 : pz7 (pz_gt (ρ 0)) (pz_gN (ρ 0)) ((ρ 1) / 4) 9 := (ax_XF_lt (x := 79) (Nat.le_of_ble_eq_true rfl)).mp (ax_gx hE (79, [3, 7]) ax_m1)
  have F47 : py_47 (pz_gt (ρ 0)) (pz_gN (ρ 0)) ((ρ 1) / 4) (ρ 2) (ρ 3) := (ax_XF_lt (x := 47) (Nat.le_of_ble_eq_true rfl)).mp (ax_gx hE (47, [3, 7, 11, 15]) ax_m2)
  refine ⟨(fun y hy => by cases hy), _, List.mem_cons_self, ρ, fun _ _ => rfl, ax_px hE rfl (fun y hy => ?_)⟩
  cases List.mem_singleton.mp hy
  refine (ax_XF_lt (x := 40) (Nat.le_of_ble_eq_true rfl)).mpr ?_
  show py_40 (ρ 3)
  exact pr_l47 F79 (by decide) F47

theorem axq_sp1_3 : ax_RO ax_wC ax_XC axu_sp1_3 := by
  intro ρ hp hE hT
  have j0 : ρ 0 % 4 = 1 := pz_gj hE 0 (Nat.le_of_ble_eq_true rfl) rfl
  have j1 : ρ 1 % 4 = 1 := pz_gj hE 1 (Nat.le_of_ble_eq_true rfl) rfl
  have j2 : ρ 2 % 4 = 1 := pz_gj hE 2 (Nat.le_of_ble_eq_true rfl) rfl
  have j3 : ρ 3 % 4 = 1 := pz_gj hE 3 (Nat.le_of_ble_eq_true rfl) rfl
  obtain ⟨-, -, -, -, F50⟩ : ay_ex hp 8 ∧ ay_ex hp 10 ∧ ay_ex hp 11 ∧ ay_ex hp 12 ∧ pz_x50 (ρ 0) (ρ 1) (ay_at hp 8 5) (ay_at hp 8 6) (ay_at hp 8 7) (ay_at hp 8 8) (ay_at hp 10 0) (ay_at hp 10 1) (ay_at hp 10 2) (ay_at hp 10 3) (ay_at hp 10 4) (ay_at hp 8 9) (ay_at hp 8 11) (ay_at hp 8 10) (ay_at hp 8 3) (ay_at hp 8 4) (ay_at hp 11) (ay_at hp 12) := (ax_XF_lt (x := 50) (Nat.le_of_ble_eq_true rfl)).mp (ax_gx hE (50, [3, 7]) ax_m0)
  have F47 : py_47 (pz_gt (ρ 0)) (pz_gN (ρ 0)) ((ρ 1) / 4) (ρ 2) (ρ 3) := (ax_XF_lt (x := 47) (Nat.le_of_ble_eq_true rfl)).mp (ax_gx hE (47, [3, 7, 11, 15]) ax_m1)
  have F44 : py_44 2 (ρ 2) := (ax_XF_lt (x := 44) (Nat.le_of_ble_eq_true rfl)).mp (ax_gx hE (44, [11]) ax_m2)
  refine ⟨(fun y hy => by cases hy), _, List.mem_cons_self, ρ, fun _ _ => rfl, ax_px hE rfl (fun y hy => ?_)⟩
  cases List.mem_singleton.mp hy
  refine (ax_XF_lt (x := 48) (Nat.le_of_ble_eq_true rfl)).mpr ?_
  show py_48 2 (pz_gt (ρ 0)) (pz_gN (ρ 0)) ((ρ 1) / 4) (ρ 2) (ρ 3)
  exact pr_sp1 F47 F44

theorem axq_sp2c42_3 : ax_RO ax_wC ax_XC axu_sp2c42_3 := by
  intro ρ hp hE hT
  have j0 : ρ 0 % 4 = 1 := pz_gj hE 0 (Nat.le_of_ble_eq_true rfl) rfl
  have j1 : ρ 1 % 4 = 1 := pz_gj hE 1 (Nat.le_of_ble_eq_true rfl) rfl
  have j2 : ρ 2 % 4 = 1 := pz_gj hE 2 (Nat.le_of_ble_eq_true rfl) rfl
  have j3 : ρ 3 % 4 = 1 := pz_gj hE 3 (Nat.le_of_ble_eq_true rfl) rfl
  have j4 : ρ 4 % 4 = 1 := pz_gj hE 4 (Nat.le_of_ble_eq_true rfl) rfl
  obtain ⟨i5a, i5b, i5c, i5d⟩ := pz_gi hE 5 2147483690 2147483690 (Nat.le_of_ble_eq_true rfl) rfl
  have c_kind : ay_at hp 8 7 = some (ρ 5) := ay_gfj hE 42 28 23 8 7 ax_m3 (ax_vlq rfl rfl) (ax_vlj rfl rfl)
  obtain ⟨-, -, -, -, F50⟩ : ay_ex hp 8 ∧ ay_ex hp 10 ∧ ay_ex hp 11 ∧ ay_ex hp 12 ∧ pz_x50 (ρ 0) (ρ 1) (ay_at hp 8 5) (ay_at hp 8 6) (ay_at hp 8 7) (ay_at hp 8 8) (ay_at hp 10 0) (ay_at hp 10 1) (ay_at hp 10 2) (ay_at hp 10 3) (ay_at hp 10 4) (ay_at hp 8 9) (ay_at hp 8 11) (ay_at hp 8 10) (ay_at hp 8 3) (ay_at hp 8 4) (ay_at hp 11) (ay_at hp 12) := (ax_XF_lt (x := 50) (Nat.le_of_ble_eq_true rfl)).mp (ax_gx hE (50, [3, 7]) ax_m0)
  rw [c_kind] at F50
  have F98 : (ρ 2) / 4 = (ρ 1) / 4 + 1 := (ax_XF_lt (x := 98) (Nat.le_of_ble_eq_true rfl)).mp (ax_gx hE (98, [7, 11]) ax_m1)
  have F78 : pz7 (pz_gt (ρ 0)) (pz_gN (ρ 0)) ((ρ 2) / 4) 8 := (ax_XF_lt (x := 78) (Nat.le_of_ble_eq_true rfl)).mp (ax_gx hE (78, [3, 11]) ax_m2)
  have F79 : pz7 (pz_gt (ρ 0)) (pz_gN (ρ 0)) ((ρ 1) / 4) 9 := (ax_XF_lt (x := 79) (Nat.le_of_ble_eq_true rfl)).mp (ax_gx hE (79, [3, 7]) ax_m4)
  have F48 : py_48 2 (pz_gt (ρ 0)) (pz_gN (ρ 0)) ((ρ 1) / 4) (ρ 3) (ρ 4) := (ax_XF_lt (x := 48) (Nat.le_of_ble_eq_true rfl)).mp (ax_gx hE (48, [3, 7, 15, 19]) ax_m5)
  have kd : ρ 5 / 4 = pz_kd (pz_gt (ρ 0)) (pz_gN (ρ 0)) (pz_p (pz_cf (pz_gt (ρ 0)) (pz_gN (ρ 0)) (ρ 1 / 4))) := F50.2.2.1
  rw [F98] at F78
  obtain ⟨ρ', h1, h2⟩ := pz_pn1 (K := ρ 3 / 4 * 4096 + 1005) (xf := [(46, [3, 11, 27, 19]), (99, [27, 4020, 15])]) hE (by decide) (fun ρ' h1 h2 x hx => by
    have q0 : ρ' 0 = ρ 0 := h1 0 (by decide)
    have q1 : ρ' 1 = ρ 1 := h1 1 (by decide)
    have q2 : ρ' 2 = ρ 2 := h1 2 (by decide)
    have q3 : ρ' 3 = ρ 3 := h1 3 (by decide)
    have q4 : ρ' 4 = ρ 4 := h1 4 (by decide)
    have q5 : ρ' 5 = ρ 5 := h1 5 (by decide)
    rcases List.mem_cons.mp hx with e | hx
    · subst e
      refine (ax_XF_lt (x := 46) (Nat.le_of_ble_eq_true rfl)).mpr ?_
      show py_46 (pz_gt (ρ' 0)) (pz_gN (ρ' 0)) ((ρ' 2) / 4) (ρ' 6) (ρ' 4)
      rw [q0, q2, q4, h2]
      rw [F98]
      exact pr_op (q := 42) (c := 4020) (by decide) F79 (by omega) rfl F78 (by decide) (by decide) F48 ⟨pz_41 _, F48.2.1, by decide⟩
    cases List.mem_singleton.mp hx
    refine (ax_XF_lt (x := 99) (Nat.le_of_ble_eq_true rfl)).mpr ?_
    show py_99 (ρ' 6) (4020) (ρ' 3)
    rw [q3, h2]
    exact ⟨pz_41 _, F48.2.1, by decide⟩)
  exact ⟨(fun y hy => by cases hy), _, List.mem_cons_self, ρ', h1, h2⟩

theorem axq_sp3c42_3 : ax_RO ax_wC ax_XC axu_sp3c42_3 := by
  intro ρ hp hE hT
  have j0 : ρ 0 % 4 = 1 := pz_gj hE 0 (Nat.le_of_ble_eq_true rfl) rfl
  have j1 : ρ 1 % 4 = 1 := pz_gj hE 1 (Nat.le_of_ble_eq_true rfl) rfl
  have j2 : ρ 2 % 4 = 1 := pz_gj hE 2 (Nat.le_of_ble_eq_true rfl) rfl
  have j3 : ρ 3 % 4 = 1 := pz_gj hE 3 (Nat.le_of_ble_eq_true rfl) rfl
  have j4 : ρ 4 % 4 = 1 := pz_gj hE 4 (Nat.le_of_ble_eq_true rfl) rfl
  have j5 : ρ 5 % 4 = 1 := pz_gj hE 5 (Nat.le_of_ble_eq_true rfl) rfl
  obtain ⟨i6a, i6b, i6c, i6d⟩ := pz_gi hE 6 2147483690 2147483690 (Nat.le_of_ble_eq_true rfl) rfl
  obtain ⟨-, -, -, -, F50⟩ : ay_ex hp 8 ∧ ay_ex hp 10 ∧ ay_ex hp 11 ∧ ay_ex hp 12 ∧ pz_x50 (ρ 0) (ρ 1) (ay_at hp 8 5) (ay_at hp 8 6) (ay_at hp 8 7) (ay_at hp 8 8) (ay_at hp 10 0) (ay_at hp 10 1) (ay_at hp 10 2) (ay_at hp 10 3) (ay_at hp 10 4) (ay_at hp 8 9) (ay_at hp 8 11) (ay_at hp 8 10) (ay_at hp 8 3) (ay_at hp 8 4) (ay_at hp 11) (ay_at hp 12) := (ax_XF_lt (x := 50) (Nat.le_of_ble_eq_true rfl)).mp (ax_gx hE (50, [3, 7]) ax_m0)
  have F47 : py_47 (pz_gt (ρ 0)) (pz_gN (ρ 0)) ((ρ 1) / 4) (ρ 3) (ρ 4) := (ax_XF_lt (x := 47) (Nat.le_of_ble_eq_true rfl)).mp (ax_gx hE (47, [3, 7, 15, 19]) ax_m1)
  have F99 : py_99 (ρ 3) (4020) (ρ 2) := (ax_XF_lt (x := 99) (Nat.le_of_ble_eq_true rfl)).mp (ax_gx hE (99, [15, 4020, 11]) ax_m2)
  have F44 : py_44 2 (ρ 2) := (ax_XF_lt (x := 44) (Nat.le_of_ble_eq_true rfl)).mp (ax_gx hE (44, [11]) ax_m3)
  obtain ⟨-, -, -, F41⟩ : ay_ex hp 10 ∧ ay_ex hp 15 ∧ ay_ex hp 16 ∧ py_x41 (ρ 5) (ay_at hp 10 5) (ay_at hp 15) (ay_at hp 16) := (ax_XF_lt (x := 41) (Nat.le_of_ble_eq_true rfl)).mp (ax_gx hE (41, [23]) ax_m4)
  have F99a : py_99 (ρ 5) (4020) (ρ 4) := (ax_XF_lt (x := 99) (Nat.le_of_ble_eq_true rfl)).mp (ax_gx hE (99, [23, 4020, 19]) ax_m5)
  refine ⟨(fun y hy => by cases hy), _, List.mem_cons_self, ρ, fun _ _ => rfl, ax_px hE rfl (fun y hy => ?_)⟩
  cases List.mem_singleton.mp hy
  refine (ax_XF_lt (x := 48) (Nat.le_of_ble_eq_true rfl)).mpr ?_
  show py_48 2 (pz_gt (ρ 0)) (pz_gN (ρ 0)) ((ρ 1) / 4) (ρ 2) (ρ 5)
  exact pr_sp3 F47 F99 (by decide) F44 F99a

theorem axq_sp2c47_3 : ax_RO ax_wC ax_XC axu_sp2c47_3 := by
  intro ρ hp hE hT
  have j0 : ρ 0 % 4 = 1 := pz_gj hE 0 (Nat.le_of_ble_eq_true rfl) rfl
  have j1 : ρ 1 % 4 = 1 := pz_gj hE 1 (Nat.le_of_ble_eq_true rfl) rfl
  have j2 : ρ 2 % 4 = 1 := pz_gj hE 2 (Nat.le_of_ble_eq_true rfl) rfl
  have j3 : ρ 3 % 4 = 1 := pz_gj hE 3 (Nat.le_of_ble_eq_true rfl) rfl
  have j4 : ρ 4 % 4 = 1 := pz_gj hE 4 (Nat.le_of_ble_eq_true rfl) rfl
  obtain ⟨i5a, i5b, i5c, i5d⟩ := pz_gi hE 5 2147483695 2147483695 (Nat.le_of_ble_eq_true rfl) rfl
  have c_kind : ay_at hp 8 7 = some (ρ 5) := ay_gfj hE 42 28 23 8 7 ax_m3 (ax_vlq rfl rfl) (ax_vlj rfl rfl)
  obtain ⟨-, -, -, -, F50⟩ : ay_ex hp 8 ∧ ay_ex hp 10 ∧ ay_ex hp 11 ∧ ay_ex hp 12 ∧ pz_x50 (ρ 0) (ρ 1) (ay_at hp 8 5) (ay_at hp 8 6) (ay_at hp 8 7) (ay_at hp 8 8) (ay_at hp 10 0) (ay_at hp 10 1) (ay_at hp 10 2) (ay_at hp 10 3) (ay_at hp 10 4) (ay_at hp 8 9) (ay_at hp 8 11) (ay_at hp 8 10) (ay_at hp 8 3) (ay_at hp 8 4) (ay_at hp 11) (ay_at hp 12) := (ax_XF_lt (x := 50) (Nat.le_of_ble_eq_true rfl)).mp (ax_gx hE (50, [3, 7]) ax_m0)
  rw [c_kind] at F50
  have F98 : (ρ 2) / 4 = (ρ 1) / 4 + 1 := (ax_XF_lt (x := 98) (Nat.le_of_ble_eq_true rfl)).mp (ax_gx hE (98, [7, 11]) ax_m1)
  have F78 : pz7 (pz_gt (ρ 0)) (pz_gN (ρ 0)) ((ρ 2) / 4) 8 := (ax_XF_lt (x := 78) (Nat.le_of_ble_eq_true rfl)).mp (ax_gx hE (78, [3, 11]) ax_m2)
  have F79 : pz7 (pz_gt (ρ 0)) (pz_gN (ρ 0)) ((ρ 1) / 4) 9 := (ax_XF_lt (x := 79) (Nat.le_of_ble_eq_true rfl)).mp (ax_gx hE (79, [3, 7]) ax_m4)
  have F48 : py_48 2 (pz_gt (ρ 0)) (pz_gN (ρ 0)) ((ρ 1) / 4) (ρ 3) (ρ 4) := (ax_XF_lt (x := 48) (Nat.le_of_ble_eq_true rfl)).mp (ax_gx hE (48, [3, 7, 15, 19]) ax_m5)
  have kd : ρ 5 / 4 = pz_kd (pz_gt (ρ 0)) (pz_gN (ρ 0)) (pz_p (pz_cf (pz_gt (ρ 0)) (pz_gN (ρ 0)) (ρ 1 / 4))) := F50.2.2.1
  rw [F98] at F78
  obtain ⟨ρ', h1, h2⟩ := pz_pn1 (K := ρ 3 / 4 * 4096 + 1006) (xf := [(46, [3, 11, 27, 19]), (99, [27, 4024, 15])]) hE (by decide) (fun ρ' h1 h2 x hx => by
    have q0 : ρ' 0 = ρ 0 := h1 0 (by decide)
    have q1 : ρ' 1 = ρ 1 := h1 1 (by decide)
    have q2 : ρ' 2 = ρ 2 := h1 2 (by decide)
    have q3 : ρ' 3 = ρ 3 := h1 3 (by decide)
    have q4 : ρ' 4 = ρ 4 := h1 4 (by decide)
    have q5 : ρ' 5 = ρ 5 := h1 5 (by decide)
    rcases List.mem_cons.mp hx with e | hx
    · subst e
      refine (ax_XF_lt (x := 46) (Nat.le_of_ble_eq_true rfl)).mpr ?_
      show py_46 (pz_gt (ρ' 0)) (pz_gN (ρ' 0)) ((ρ' 2) / 4) (ρ' 6) (ρ' 4)
      rw [q0, q2, q4, h2]
      rw [F98]
      exact pr_op (q := 47) (c := 4024) (by decide) F79 (by omega) rfl F78 (by decide) (by decide) F48 ⟨pz_41 _, F48.2.1, by decide⟩
    cases List.mem_singleton.mp hx
    refine (ax_XF_lt (x := 99) (Nat.le_of_ble_eq_true rfl)).mpr ?_
    show py_99 (ρ' 6) (4024) (ρ' 3)
    rw [q3, h2]
    exact ⟨pz_41 _, F48.2.1, by decide⟩)
  exact ⟨(fun y hy => by cases hy), _, List.mem_cons_self, ρ', h1, h2⟩

theorem axq_sp3c47_3 : ax_RO ax_wC ax_XC axu_sp3c47_3 := by
  intro ρ hp hE hT
  have j0 : ρ 0 % 4 = 1 := pz_gj hE 0 (Nat.le_of_ble_eq_true rfl) rfl
  have j1 : ρ 1 % 4 = 1 := pz_gj hE 1 (Nat.le_of_ble_eq_true rfl) rfl
  have j2 : ρ 2 % 4 = 1 := pz_gj hE 2 (Nat.le_of_ble_eq_true rfl) rfl
  have j3 : ρ 3 % 4 = 1 := pz_gj hE 3 (Nat.le_of_ble_eq_true rfl) rfl
  have j4 : ρ 4 % 4 = 1 := pz_gj hE 4 (Nat.le_of_ble_eq_true rfl) rfl
  have j5 : ρ 5 % 4 = 1 := pz_gj hE 5 (Nat.le_of_ble_eq_true rfl) rfl
  obtain ⟨i6a, i6b, i6c, i6d⟩ := pz_gi hE 6 2147483695 2147483695 (Nat.le_of_ble_eq_true rfl) rfl
  obtain ⟨-, -, -, -, F50⟩ : ay_ex hp 8 ∧ ay_ex hp 10 ∧ ay_ex hp 11 ∧ ay_ex hp 12 ∧ pz_x50 (ρ 0) (ρ 1) (ay_at hp 8 5) (ay_at hp 8 6) (ay_at hp 8 7) (ay_at hp 8 8) (ay_at hp 10 0) (ay_at hp 10 1) (ay_at hp 10 2) (ay_at hp 10 3) (ay_at hp 10 4) (ay_at hp 8 9) (ay_at hp 8 11) (ay_at hp 8 10) (ay_at hp 8 3) (ay_at hp 8 4) (ay_at hp 11) (ay_at hp 12) := (ax_XF_lt (x := 50) (Nat.le_of_ble_eq_true rfl)).mp (ax_gx hE (50, [3, 7]) ax_m0)
  have F47 : py_47 (pz_gt (ρ 0)) (pz_gN (ρ 0)) ((ρ 1) / 4) (ρ 3) (ρ 4) := (ax_XF_lt (x := 47) (Nat.le_of_ble_eq_true rfl)).mp (ax_gx hE (47, [3, 7, 15, 19]) ax_m1)
  have F99 : py_99 (ρ 3) (4024) (ρ 2) := (ax_XF_lt (x := 99) (Nat.le_of_ble_eq_true rfl)).mp (ax_gx hE (99, [15, 4024, 11]) ax_m2)
  have F44 : py_44 2 (ρ 2) := (ax_XF_lt (x := 44) (Nat.le_of_ble_eq_true rfl)).mp (ax_gx hE (44, [11]) ax_m3)
  obtain ⟨-, -, -, F41⟩ : ay_ex hp 10 ∧ ay_ex hp 15 ∧ ay_ex hp 16 ∧ py_x41 (ρ 5) (ay_at hp 10 5) (ay_at hp 15) (ay_at hp 16) := (ax_XF_lt (x := 41) (Nat.le_of_ble_eq_true rfl)).mp (ax_gx hE (41, [23]) ax_m4)
  have F99a : py_99 (ρ 5) (4024) (ρ 4) := (ax_XF_lt (x := 99) (Nat.le_of_ble_eq_true rfl)).mp (ax_gx hE (99, [23, 4024, 19]) ax_m5)
  refine ⟨(fun y hy => by cases hy), _, List.mem_cons_self, ρ, fun _ _ => rfl, ax_px hE rfl (fun y hy => ?_)⟩
  cases List.mem_singleton.mp hy
  refine (ax_XF_lt (x := 48) (Nat.le_of_ble_eq_true rfl)).mpr ?_
  show py_48 2 (pz_gt (ρ 0)) (pz_gN (ρ 0)) ((ρ 1) / 4) (ρ 2) (ρ 5)
  exact pr_sp3 F47 F99 (by decide) F44 F99a

theorem axq_sp2c37_3 : ax_RO ax_wC ax_XC axu_sp2c37_3 := by
  intro ρ hp hE hT
  have j0 : ρ 0 % 4 = 1 := pz_gj hE 0 (Nat.le_of_ble_eq_true rfl) rfl
  have j1 : ρ 1 % 4 = 1 := pz_gj hE 1 (Nat.le_of_ble_eq_true rfl) rfl
  have j2 : ρ 2 % 4 = 1 := pz_gj hE 2 (Nat.le_of_ble_eq_true rfl) rfl
  have j3 : ρ 3 % 4 = 1 := pz_gj hE 3 (Nat.le_of_ble_eq_true rfl) rfl
  have j4 : ρ 4 % 4 = 1 := pz_gj hE 4 (Nat.le_of_ble_eq_true rfl) rfl
  obtain ⟨i5a, i5b, i5c, i5d⟩ := pz_gi hE 5 2147483685 2147483685 (Nat.le_of_ble_eq_true rfl) rfl
  have c_kind : ay_at hp 8 7 = some (ρ 5) := ay_gfj hE 42 28 23 8 7 ax_m3 (ax_vlq rfl rfl) (ax_vlj rfl rfl)
  obtain ⟨-, -, -, -, F50⟩ : ay_ex hp 8 ∧ ay_ex hp 10 ∧ ay_ex hp 11 ∧ ay_ex hp 12 ∧ pz_x50 (ρ 0) (ρ 1) (ay_at hp 8 5) (ay_at hp 8 6) (ay_at hp 8 7) (ay_at hp 8 8) (ay_at hp 10 0) (ay_at hp 10 1) (ay_at hp 10 2) (ay_at hp 10 3) (ay_at hp 10 4) (ay_at hp 8 9) (ay_at hp 8 11) (ay_at hp 8 10) (ay_at hp 8 3) (ay_at hp 8 4) (ay_at hp 11) (ay_at hp 12) := (ax_XF_lt (x := 50) (Nat.le_of_ble_eq_true rfl)).mp (ax_gx hE (50, [3, 7]) ax_m0)
  rw [c_kind] at F50
  have F98 : (ρ 2) / 4 = (ρ 1) / 4 + 1 := (ax_XF_lt (x := 98) (Nat.le_of_ble_eq_true rfl)).mp (ax_gx hE (98, [7, 11]) ax_m1)
  have F78 : pz7 (pz_gt (ρ 0)) (pz_gN (ρ 0)) ((ρ 2) / 4) 8 := (ax_XF_lt (x := 78) (Nat.le_of_ble_eq_true rfl)).mp (ax_gx hE (78, [3, 11]) ax_m2)
  have F79 : pz7 (pz_gt (ρ 0)) (pz_gN (ρ 0)) ((ρ 1) / 4) 9 := (ax_XF_lt (x := 79) (Nat.le_of_ble_eq_true rfl)).mp (ax_gx hE (79, [3, 7]) ax_m4)
  have F48 : py_48 2 (pz_gt (ρ 0)) (pz_gN (ρ 0)) ((ρ 1) / 4) (ρ 3) (ρ 4) := (ax_XF_lt (x := 48) (Nat.le_of_ble_eq_true rfl)).mp (ax_gx hE (48, [3, 7, 15, 19]) ax_m5)
  have kd : ρ 5 / 4 = pz_kd (pz_gt (ρ 0)) (pz_gN (ρ 0)) (pz_p (pz_cf (pz_gt (ρ 0)) (pz_gN (ρ 0)) (ρ 1 / 4))) := F50.2.2.1
  rw [F98] at F78
  obtain ⟨ρ', h1, h2⟩ := pz_pn1 (K := ρ 3 / 4 * 4096 + 1007) (xf := [(46, [3, 11, 27, 19]), (99, [27, 4028, 15])]) hE (by decide) (fun ρ' h1 h2 x hx => by
    have q0 : ρ' 0 = ρ 0 := h1 0 (by decide)
    have q1 : ρ' 1 = ρ 1 := h1 1 (by decide)
    have q2 : ρ' 2 = ρ 2 := h1 2 (by decide)
    have q3 : ρ' 3 = ρ 3 := h1 3 (by decide)
    have q4 : ρ' 4 = ρ 4 := h1 4 (by decide)
    have q5 : ρ' 5 = ρ 5 := h1 5 (by decide)
    rcases List.mem_cons.mp hx with e | hx
    · subst e
      refine (ax_XF_lt (x := 46) (Nat.le_of_ble_eq_true rfl)).mpr ?_
      show py_46 (pz_gt (ρ' 0)) (pz_gN (ρ' 0)) ((ρ' 2) / 4) (ρ' 6) (ρ' 4)
      rw [q0, q2, q4, h2]
      rw [F98]
      exact pr_op (q := 37) (c := 4028) (by decide) F79 (by omega) rfl F78 (by decide) (by decide) F48 ⟨pz_41 _, F48.2.1, by decide⟩
    cases List.mem_singleton.mp hx
    refine (ax_XF_lt (x := 99) (Nat.le_of_ble_eq_true rfl)).mpr ?_
    show py_99 (ρ' 6) (4028) (ρ' 3)
    rw [q3, h2]
    exact ⟨pz_41 _, F48.2.1, by decide⟩)
  exact ⟨(fun y hy => by cases hy), _, List.mem_cons_self, ρ', h1, h2⟩

theorem axq_sp3c37_3 : ax_RO ax_wC ax_XC axu_sp3c37_3 := by
  intro ρ hp hE hT
  have j0 : ρ 0 % 4 = 1 := pz_gj hE 0 (Nat.le_of_ble_eq_true rfl) rfl
  have j1 : ρ 1 % 4 = 1 := pz_gj hE 1 (Nat.le_of_ble_eq_true rfl) rfl
  have j2 : ρ 2 % 4 = 1 := pz_gj hE 2 (Nat.le_of_ble_eq_true rfl) rfl
  have j3 : ρ 3 % 4 = 1 := pz_gj hE 3 (Nat.le_of_ble_eq_true rfl) rfl
  have j4 : ρ 4 % 4 = 1 := pz_gj hE 4 (Nat.le_of_ble_eq_true rfl) rfl
  have j5 : ρ 5 % 4 = 1 := pz_gj hE 5 (Nat.le_of_ble_eq_true rfl) rfl
  obtain ⟨i6a, i6b, i6c, i6d⟩ := pz_gi hE 6 2147483685 2147483685 (Nat.le_of_ble_eq_true rfl) rfl
  obtain ⟨-, -, -, -, F50⟩ : ay_ex hp 8 ∧ ay_ex hp 10 ∧ ay_ex hp 11 ∧ ay_ex hp 12 ∧ pz_x50 (ρ 0) (ρ 1) (ay_at hp 8 5) (ay_at hp 8 6) (ay_at hp 8 7) (ay_at hp 8 8) (ay_at hp 10 0) (ay_at hp 10 1) (ay_at hp 10 2) (ay_at hp 10 3) (ay_at hp 10 4) (ay_at hp 8 9) (ay_at hp 8 11) (ay_at hp 8 10) (ay_at hp 8 3) (ay_at hp 8 4) (ay_at hp 11) (ay_at hp 12) := (ax_XF_lt (x := 50) (Nat.le_of_ble_eq_true rfl)).mp (ax_gx hE (50, [3, 7]) ax_m0)
  have F47 : py_47 (pz_gt (ρ 0)) (pz_gN (ρ 0)) ((ρ 1) / 4) (ρ 3) (ρ 4) := (ax_XF_lt (x := 47) (Nat.le_of_ble_eq_true rfl)).mp (ax_gx hE (47, [3, 7, 15, 19]) ax_m1)
  have F99 : py_99 (ρ 3) (4028) (ρ 2) := (ax_XF_lt (x := 99) (Nat.le_of_ble_eq_true rfl)).mp (ax_gx hE (99, [15, 4028, 11]) ax_m2)
  have F44 : py_44 2 (ρ 2) := (ax_XF_lt (x := 44) (Nat.le_of_ble_eq_true rfl)).mp (ax_gx hE (44, [11]) ax_m3)
  obtain ⟨-, -, -, F41⟩ : ay_ex hp 10 ∧ ay_ex hp 15 ∧ ay_ex hp 16 ∧ py_x41 (ρ 5) (ay_at hp 10 5) (ay_at hp 15) (ay_at hp 16) := (ax_XF_lt (x := 41) (Nat.le_of_ble_eq_true rfl)).mp (ax_gx hE (41, [23]) ax_m4)
  have F99a : py_99 (ρ 5) (4028) (ρ 4) := (ax_XF_lt (x := 99) (Nat.le_of_ble_eq_true rfl)).mp (ax_gx hE (99, [23, 4028, 19]) ax_m5)
  refine ⟨(fun y hy => by cases hy), _, List.mem_cons_self, ρ, fun _ _ => rfl, ax_px hE rfl (fun y hy => ?_)⟩
  cases List.mem_singleton.mp hy
  refine (ax_XF_lt (x := 48) (Nat.le_of_ble_eq_true rfl)).mpr ?_
  show py_48 2 (pz_gt (ρ 0)) (pz_gN (ρ 0)) ((ρ 1) / 4) (ρ 2) (ρ 5)
  exact pr_sp3 F47 F99 (by decide) F44 F99a

theorem axq_spl_3 : ax_RO ax_wC ax_XC axu_spl_3 := by
  intro ρ hp hE hT
  have j0 : ρ 0 % 4 = 1 := pz_gj hE 0 (Nat.le_of_ble_eq_true rfl) rfl
  have j1 : ρ 1 % 4 = 1 := pz_gj hE 1 (Nat.le_of_ble_eq_true rfl) rfl
  have j2 : ρ 2 % 4 = 1 := pz_gj hE 2 (Nat.le_of_ble_eq_true rfl) rfl
  have j3 : ρ 3 % 4 = 1 := pz_gj hE 3 (Nat.le_of_ble_eq_true rfl) rfl
  obtain ⟨-, -, -, -, F50⟩ : ay_ex hp 8 ∧ ay_ex hp 10 ∧ ay_ex hp 11 ∧ ay_ex hp 12 ∧ pz_x50 (ρ 0) (ρ 1) (ay_at hp 8 5) (ay_at hp 8 6) (ay_at hp 8 7) (ay_at hp 8 8) (ay_at hp 10 0) (ay_at hp 10 1) (ay_at hp 10 2) (ay_at hp 10 3) (ay_at hp 10 4) (ay_at hp 8 9) (ay_at hp 8 11) (ay_at hp 8 10) (ay_at hp 8 3) (ay_at hp 8 4) (ay_at hp 11) (ay_at hp 12) := (ax_XF_lt (x := 50) (Nat.le_of_ble_eq_true rfl)).mp (ax_gx hE (50, [3, 7]) ax_m0)
  have F79 : pz7 (pz_gt (ρ 0)) (pz_gN (ρ 0)) ((ρ 1) / 4) 9 := (ax_XF_lt (x := 79) (Nat.le_of_ble_eq_true rfl)).mp (ax_gx hE (79, [3, 7]) ax_m1)
  have F47 : py_47 (pz_gt (ρ 0)) (pz_gN (ρ 0)) ((ρ 1) / 4) (ρ 2) (ρ 3) := (ax_XF_lt (x := 47) (Nat.le_of_ble_eq_true rfl)).mp (ax_gx hE (47, [3, 7, 11, 15]) ax_m2)
  refine ⟨(fun y hy => by cases hy), _, List.mem_cons_self, ρ, fun _ _ => rfl, ax_px hE rfl (fun y hy => ?_)⟩
  cases List.mem_singleton.mp hy
  refine (ax_XF_lt (x := 40) (Nat.le_of_ble_eq_true rfl)).mpr ?_
  show py_40 (ρ 3)
  exact pr_l47 F79 (by decide) F47

theorem axq_sp1_4 : ax_RO ax_wC ax_XC axu_sp1_4 := by
  intro ρ hp hE hT
  have j0 : ρ 0 % 4 = 1 := pz_gj hE 0 (Nat.le_of_ble_eq_true rfl) rfl
  have j1 : ρ 1 % 4 = 1 := pz_gj hE 1 (Nat.le_of_ble_eq_true rfl) rfl
  have j2 : ρ 2 % 4 = 1 := pz_gj hE 2 (Nat.le_of_ble_eq_true rfl) rfl
  have j3 : ρ 3 % 4 = 1 := pz_gj hE 3 (Nat.le_of_ble_eq_true rfl) rfl
  obtain ⟨-, -, -, -, F50⟩ : ay_ex hp 8 ∧ ay_ex hp 10 ∧ ay_ex hp 11 ∧ ay_ex hp 12 ∧ pz_x50 (ρ 0) (ρ 1) (ay_at hp 8 5) (ay_at hp 8 6) (ay_at hp 8 7) (ay_at hp 8 8) (ay_at hp 10 0) (ay_at hp 10 1) (ay_at hp 10 2) (ay_at hp 10 3) (ay_at hp 10 4) (ay_at hp 8 9) (ay_at hp 8 11) (ay_at hp 8 10) (ay_at hp 8 3) (ay_at hp 8 4) (ay_at hp 11) (ay_at hp 12) := (ax_XF_lt (x := 50) (Nat.le_of_ble_eq_true rfl)).mp (ax_gx hE (50, [3, 7]) ax_m0)
  have F47 : py_47 (pz_gt (ρ 0)) (pz_gN (ρ 0)) ((ρ 1) / 4) (ρ 2) (ρ 3) := (ax_XF_lt (x := 47) (Nat.le_of_ble_eq_true rfl)).mp (ax_gx hE (47, [3, 7, 11, 15]) ax_m1)
  have F44 : py_44 2 (ρ 2) := (ax_XF_lt (x := 44) (Nat.le_of_ble_eq_true rfl)).mp (ax_gx hE (44, [11]) ax_m2)
  refine ⟨(fun y hy => by cases hy), _, List.mem_cons_self, ρ, fun _ _ => rfl, ax_px hE rfl (fun y hy => ?_)⟩
  cases List.mem_singleton.mp hy
  refine (ax_XF_lt (x := 48) (Nat.le_of_ble_eq_true rfl)).mpr ?_
  show py_48 2 (pz_gt (ρ 0)) (pz_gN (ρ 0)) ((ρ 1) / 4) (ρ 2) (ρ 3)
  exact pr_sp1 F47 F44

theorem axq_sp2c42_4 : ax_RO ax_wC ax_XC axu_sp2c42_4 := by
  intro ρ hp hE hT
  have j0 : ρ 0 % 4 = 1 := pz_gj hE 0 (Nat.le_of_ble_eq_true rfl) rfl
  have j1 : ρ 1 % 4 = 1 := pz_gj hE 1 (Nat.le_of_ble_eq_true rfl) rfl
  have j2 : ρ 2 % 4 = 1 := pz_gj hE 2 (Nat.le_of_ble_eq_true rfl) rfl
  have j3 : ρ 3 % 4 = 1 := pz_gj hE 3 (Nat.le_of_ble_eq_true rfl) rfl
  have j4 : ρ 4 % 4 = 1 := pz_gj hE 4 (Nat.le_of_ble_eq_true rfl) rfl
  obtain ⟨i5a, i5b, i5c, i5d⟩ := pz_gi hE 5 2147483690 2147483690 (Nat.le_of_ble_eq_true rfl) rfl
  have c_kind : ay_at hp 8 7 = some (ρ 5) := ay_gfj hE 42 28 23 8 7 ax_m3 (ax_vlq rfl rfl) (ax_vlj rfl rfl)
  obtain ⟨-, -, -, -, F50⟩ : ay_ex hp 8 ∧ ay_ex hp 10 ∧ ay_ex hp 11 ∧ ay_ex hp 12 ∧ pz_x50 (ρ 0) (ρ 1) (ay_at hp 8 5) (ay_at hp 8 6) (ay_at hp 8 7) (ay_at hp 8 8) (ay_at hp 10 0) (ay_at hp 10 1) (ay_at hp 10 2) (ay_at hp 10 3) (ay_at hp 10 4) (ay_at hp 8 9) (ay_at hp 8 11) (ay_at hp 8 10) (ay_at hp 8 3) (ay_at hp 8 4) (ay_at hp 11) (ay_at hp 12) := (ax_XF_lt (x := 50) (Nat.le_of_ble_eq_true rfl)).mp (ax_gx hE (50, [3, 7]) ax_m0)
  rw [c_kind] at F50
  have F98 : (ρ 2) / 4 = (ρ 1) / 4 + 1 := (ax_XF_lt (x := 98) (Nat.le_of_ble_eq_true rfl)).mp (ax_gx hE (98, [7, 11]) ax_m1)
  have F78 : pz7 (pz_gt (ρ 0)) (pz_gN (ρ 0)) ((ρ 2) / 4) 8 := (ax_XF_lt (x := 78) (Nat.le_of_ble_eq_true rfl)).mp (ax_gx hE (78, [3, 11]) ax_m2)
  have F79 : pz7 (pz_gt (ρ 0)) (pz_gN (ρ 0)) ((ρ 1) / 4) 9 := (ax_XF_lt (x := 79) (Nat.le_of_ble_eq_true rfl)).mp (ax_gx hE (79, [3, 7]) ax_m4)
  have F48 : py_48 2 (pz_gt (ρ 0)) (pz_gN (ρ 0)) ((ρ 1) / 4) (ρ 3) (ρ 4) := (ax_XF_lt (x := 48) (Nat.le_of_ble_eq_true rfl)).mp (ax_gx hE (48, [3, 7, 15, 19]) ax_m5)
  have kd : ρ 5 / 4 = pz_kd (pz_gt (ρ 0)) (pz_gN (ρ 0)) (pz_p (pz_cf (pz_gt (ρ 0)) (pz_gN (ρ 0)) (ρ 1 / 4))) := F50.2.2.1
  rw [F98] at F78
  obtain ⟨ρ', h1, h2⟩ := pz_pn1 (K := ρ 3 / 4 * 4096 + 1005) (xf := [(46, [3, 11, 27, 19]), (99, [27, 4020, 15])]) hE (by decide) (fun ρ' h1 h2 x hx => by
    have q0 : ρ' 0 = ρ 0 := h1 0 (by decide)
    have q1 : ρ' 1 = ρ 1 := h1 1 (by decide)
    have q2 : ρ' 2 = ρ 2 := h1 2 (by decide)
    have q3 : ρ' 3 = ρ 3 := h1 3 (by decide)
    have q4 : ρ' 4 = ρ 4 := h1 4 (by decide)
    have q5 : ρ' 5 = ρ 5 := h1 5 (by decide)
    rcases List.mem_cons.mp hx with e | hx
    · subst e
      refine (ax_XF_lt (x := 46) (Nat.le_of_ble_eq_true rfl)).mpr ?_
      show py_46 (pz_gt (ρ' 0)) (pz_gN (ρ' 0)) ((ρ' 2) / 4) (ρ' 6) (ρ' 4)
      rw [q0, q2, q4, h2]
      rw [F98]
      exact pr_op (q := 42) (c := 4020) (by decide) F79 (by omega) rfl F78 (by decide) (by decide) F48 ⟨pz_41 _, F48.2.1, by decide⟩
    cases List.mem_singleton.mp hx
    refine (ax_XF_lt (x := 99) (Nat.le_of_ble_eq_true rfl)).mpr ?_
    show py_99 (ρ' 6) (4020) (ρ' 3)
    rw [q3, h2]
    exact ⟨pz_41 _, F48.2.1, by decide⟩)
  exact ⟨(fun y hy => by cases hy), _, List.mem_cons_self, ρ', h1, h2⟩

theorem axq_sp3c42_4 : ax_RO ax_wC ax_XC axu_sp3c42_4 := by
  intro ρ hp hE hT
  have j0 : ρ 0 % 4 = 1 := pz_gj hE 0 (Nat.le_of_ble_eq_true rfl) rfl
  have j1 : ρ 1 % 4 = 1 := pz_gj hE 1 (Nat.le_of_ble_eq_true rfl) rfl
  have j2 : ρ 2 % 4 = 1 := pz_gj hE 2 (Nat.le_of_ble_eq_true rfl) rfl
  have j3 : ρ 3 % 4 = 1 := pz_gj hE 3 (Nat.le_of_ble_eq_true rfl) rfl
  have j4 : ρ 4 % 4 = 1 := pz_gj hE 4 (Nat.le_of_ble_eq_true rfl) rfl
  have j5 : ρ 5 % 4 = 1 := pz_gj hE 5 (Nat.le_of_ble_eq_true rfl) rfl
  obtain ⟨i6a, i6b, i6c, i6d⟩ := pz_gi hE 6 2147483690 2147483690 (Nat.le_of_ble_eq_true rfl) rfl
  obtain ⟨-, -, -, -, F50⟩ : ay_ex hp 8 ∧ ay_ex hp 10 ∧ ay_ex hp 11 ∧ ay_ex hp 12 ∧ pz_x50 (ρ 0) (ρ 1) (ay_at hp 8 5) (ay_at hp 8 6) (ay_at hp 8 7) (ay_at hp 8 8) (ay_at hp 10 0) (ay_at hp 10 1) (ay_at hp 10 2) (ay_at hp 10 3) (ay_at hp 10 4) (ay_at hp 8 9) (ay_at hp 8 11) (ay_at hp 8 10) (ay_at hp 8 3) (ay_at hp 8 4) (ay_at hp 11) (ay_at hp 12) := (ax_XF_lt (x := 50) (Nat.le_of_ble_eq_true rfl)).mp (ax_gx hE (50, [3, 7]) ax_m0)
  have F47 : py_47 (pz_gt (ρ 0)) (pz_gN (ρ 0)) ((ρ 1) / 4) (ρ 3) (ρ 4) := (ax_XF_lt (x := 47) (Nat.le_of_ble_eq_true rfl)).mp (ax_gx hE (47, [3, 7, 15, 19]) ax_m1)
  have F99 : py_99 (ρ 3) (4020) (ρ 2) := (ax_XF_lt (x := 99) (Nat.le_of_ble_eq_true rfl)).mp (ax_gx hE (99, [15, 4020, 11]) ax_m2)
  have F44 : py_44 2 (ρ 2) := (ax_XF_lt (x := 44) (Nat.le_of_ble_eq_true rfl)).mp (ax_gx hE (44, [11]) ax_m3)
  obtain ⟨-, -, -, F41⟩ : ay_ex hp 10 ∧ ay_ex hp 15 ∧ ay_ex hp 16 ∧ py_x41 (ρ 5) (ay_at hp 10 5) (ay_at hp 15) (ay_at hp 16) := (ax_XF_lt (x := 41) (Nat.le_of_ble_eq_true rfl)).mp (ax_gx hE (41, [23]) ax_m4)
  have F99a : py_99 (ρ 5) (4020) (ρ 4) := (ax_XF_lt (x := 99) (Nat.le_of_ble_eq_true rfl)).mp (ax_gx hE (99, [23, 4020, 19]) ax_m5)
  refine ⟨(fun y hy => by cases hy), _, List.mem_cons_self, ρ, fun _ _ => rfl, ax_px hE rfl (fun y hy => ?_)⟩
  cases List.mem_singleton.mp hy
  refine (ax_XF_lt (x := 48) (Nat.le_of_ble_eq_true rfl)).mpr ?_
  show py_48 2 (pz_gt (ρ 0)) (pz_gN (ρ 0)) ((ρ 1) / 4) (ρ 2) (ρ 5)
  exact pr_sp3 F47 F99 (by decide) F44 F99a

theorem axq_sp2c47_4 : ax_RO ax_wC ax_XC axu_sp2c47_4 := by
  intro ρ hp hE hT
  have j0 : ρ 0 % 4 = 1 := pz_gj hE 0 (Nat.le_of_ble_eq_true rfl) rfl
  have j1 : ρ 1 % 4 = 1 := pz_gj hE 1 (Nat.le_of_ble_eq_true rfl) rfl
  have j2 : ρ 2 % 4 = 1 := pz_gj hE 2 (Nat.le_of_ble_eq_true rfl) rfl
  have j3 : ρ 3 % 4 = 1 := pz_gj hE 3 (Nat.le_of_ble_eq_true rfl) rfl
  have j4 : ρ 4 % 4 = 1 := pz_gj hE 4 (Nat.le_of_ble_eq_true rfl) rfl
  obtain ⟨i5a, i5b, i5c, i5d⟩ := pz_gi hE 5 2147483695 2147483695 (Nat.le_of_ble_eq_true rfl) rfl
  have c_kind : ay_at hp 8 7 = some (ρ 5) := ay_gfj hE 42 28 23 8 7 ax_m3 (ax_vlq rfl rfl) (ax_vlj rfl rfl)
  obtain ⟨-, -, -, -, F50⟩ : ay_ex hp 8 ∧ ay_ex hp 10 ∧ ay_ex hp 11 ∧ ay_ex hp 12 ∧ pz_x50 (ρ 0) (ρ 1) (ay_at hp 8 5) (ay_at hp 8 6) (ay_at hp 8 7) (ay_at hp 8 8) (ay_at hp 10 0) (ay_at hp 10 1) (ay_at hp 10 2) (ay_at hp 10 3) (ay_at hp 10 4) (ay_at hp 8 9) (ay_at hp 8 11) (ay_at hp 8 10) (ay_at hp 8 3) (ay_at hp 8 4) (ay_at hp 11) (ay_at hp 12) := (ax_XF_lt (x := 50) (Nat.le_of_ble_eq_true rfl)).mp (ax_gx hE (50, [3, 7]) ax_m0)
  rw [c_kind] at F50
  have F98 : (ρ 2) / 4 = (ρ 1) / 4 + 1 := (ax_XF_lt (x := 98) (Nat.le_of_ble_eq_true rfl)).mp (ax_gx hE (98, [7, 11]) ax_m1)
  have F78 : pz7 (pz_gt (ρ 0)) (pz_gN (ρ 0)) ((ρ 2) / 4) 8 := (ax_XF_lt (x := 78) (Nat.le_of_ble_eq_true rfl)).mp (ax_gx hE (78, [3, 11]) ax_m2)
  have F79 : pz7 (pz_gt (ρ 0)) (pz_gN (ρ 0)) ((ρ 1) / 4) 9 := (ax_XF_lt (x := 79) (Nat.le_of_ble_eq_true rfl)).mp (ax_gx hE (79, [3, 7]) ax_m4)
  have F48 : py_48 2 (pz_gt (ρ 0)) (pz_gN (ρ 0)) ((ρ 1) / 4) (ρ 3) (ρ 4) := (ax_XF_lt (x := 48) (Nat.le_of_ble_eq_true rfl)).mp (ax_gx hE (48, [3, 7, 15, 19]) ax_m5)
  have kd : ρ 5 / 4 = pz_kd (pz_gt (ρ 0)) (pz_gN (ρ 0)) (pz_p (pz_cf (pz_gt (ρ 0)) (pz_gN (ρ 0)) (ρ 1 / 4))) := F50.2.2.1
  rw [F98] at F78
  obtain ⟨ρ', h1, h2⟩ := pz_pn1 (K := ρ 3 / 4 * 4096 + 1006) (xf := [(46, [3, 11, 27, 19]), (99, [27, 4024, 15])]) hE (by decide) (fun ρ' h1 h2 x hx => by
    have q0 : ρ' 0 = ρ 0 := h1 0 (by decide)
    have q1 : ρ' 1 = ρ 1 := h1 1 (by decide)
    have q2 : ρ' 2 = ρ 2 := h1 2 (by decide)
    have q3 : ρ' 3 = ρ 3 := h1 3 (by decide)
    have q4 : ρ' 4 = ρ 4 := h1 4 (by decide)
    have q5 : ρ' 5 = ρ 5 := h1 5 (by decide)
    rcases List.mem_cons.mp hx with e | hx
    · subst e
      refine (ax_XF_lt (x := 46) (Nat.le_of_ble_eq_true rfl)).mpr ?_
      show py_46 (pz_gt (ρ' 0)) (pz_gN (ρ' 0)) ((ρ' 2) / 4) (ρ' 6) (ρ' 4)
      rw [q0, q2, q4, h2]
      rw [F98]
      exact pr_op (q := 47) (c := 4024) (by decide) F79 (by omega) rfl F78 (by decide) (by decide) F48 ⟨pz_41 _, F48.2.1, by decide⟩
    cases List.mem_singleton.mp hx
    refine (ax_XF_lt (x := 99) (Nat.le_of_ble_eq_true rfl)).mpr ?_
    show py_99 (ρ' 6) (4024) (ρ' 3)
    rw [q3, h2]
    exact ⟨pz_41 _, F48.2.1, by decide⟩)
  exact ⟨(fun y hy => by cases hy), _, List.mem_cons_self, ρ', h1, h2⟩

theorem axq_sp3c47_4 : ax_RO ax_wC ax_XC axu_sp3c47_4 := by
  intro ρ hp hE hT
  have j0 : ρ 0 % 4 = 1 := pz_gj hE 0 (Nat.le_of_ble_eq_true rfl) rfl
  have j1 : ρ 1 % 4 = 1 := pz_gj hE 1 (Nat.le_of_ble_eq_true rfl) rfl
  have j2 : ρ 2 % 4 = 1 := pz_gj hE 2 (Nat.le_of_ble_eq_true rfl) rfl
  have j3 : ρ 3 % 4 = 1 := pz_gj hE 3 (Nat.le_of_ble_eq_true rfl) rfl
  have j4 : ρ 4 % 4 = 1 := pz_gj hE 4 (Nat.le_of_ble_eq_true rfl) rfl
  have j5 : ρ 5 % 4 = 1 := pz_gj hE 5 (Nat.le_of_ble_eq_true rfl) rfl
  obtain ⟨i6a, i6b, i6c, i6d⟩ := pz_gi hE 6 2147483695 2147483695 (Nat.le_of_ble_eq_true rfl) rfl
  obtain ⟨-, -, -, -, F50⟩ : ay_ex hp 8 ∧ ay_ex hp 10 ∧ ay_ex hp 11 ∧ ay_ex hp 12 ∧ pz_x50 (ρ 0) (ρ 1) (ay_at hp 8 5) (ay_at hp 8 6) (ay_at hp 8 7) (ay_at hp 8 8) (ay_at hp 10 0) (ay_at hp 10 1) (ay_at hp 10 2) (ay_at hp 10 3) (ay_at hp 10 4) (ay_at hp 8 9) (ay_at hp 8 11) (ay_at hp 8 10) (ay_at hp 8 3) (ay_at hp 8 4) (ay_at hp 11) (ay_at hp 12) := (ax_XF_lt (x := 50) (Nat.le_of_ble_eq_true rfl)).mp (ax_gx hE (50, [3, 7]) ax_m0)
  have F47 : py_47 (pz_gt (ρ 0)) (pz_gN (ρ 0)) ((ρ 1) / 4) (ρ 3) (ρ 4) := (ax_XF_lt (x := 47) (Nat.le_of_ble_eq_true rfl)).mp (ax_gx hE (47, [3, 7, 15, 19]) ax_m1)
  have F99 : py_99 (ρ 3) (4024) (ρ 2) := (ax_XF_lt (x := 99) (Nat.le_of_ble_eq_true rfl)).mp (ax_gx hE (99, [15, 4024, 11]) ax_m2)
  have F44 : py_44 2 (ρ 2) := (ax_XF_lt (x := 44) (Nat.le_of_ble_eq_true rfl)).mp (ax_gx hE (44, [11]) ax_m3)
  obtain ⟨-, -, -, F41⟩ : ay_ex hp 10 ∧ ay_ex hp 15 ∧ ay_ex hp 16 ∧ py_x41 (ρ 5) (ay_at hp 10 5) (ay_at hp 15) (ay_at hp 16) := (ax_XF_lt (x := 41) (Nat.le_of_ble_eq_true rfl)).mp (ax_gx hE (41, [23]) ax_m4)
  have F99a : py_99 (ρ 5) (4024) (ρ 4) := (ax_XF_lt (x := 99) (Nat.le_of_ble_eq_true rfl)).mp (ax_gx hE (99, [23, 4024, 19]) ax_m5)
  refine ⟨(fun y hy => by cases hy), _, List.mem_cons_self, ρ, fun _ _ => rfl, ax_px hE rfl (fun y hy => ?_)⟩
  cases List.mem_singleton.mp hy
  refine (ax_XF_lt (x := 48) (Nat.le_of_ble_eq_true rfl)).mpr ?_
  show py_48 2 (pz_gt (ρ 0)) (pz_gN (ρ 0)) ((ρ 1) / 4) (ρ 2) (ρ 5)
  exact pr_sp3 F47 F99 (by decide) F44 F99a

theorem axq_sp2c37_4 : ax_RO ax_wC ax_XC axu_sp2c37_4 := by
  intro ρ hp hE hT
  have j0 : ρ 0 % 4 = 1 := pz_gj hE 0 (Nat.le_of_ble_eq_true rfl) rfl
  have j1 : ρ 1 % 4 = 1 := pz_gj hE 1 (Nat.le_of_ble_eq_true rfl) rfl
  have j2 : ρ 2 % 4 = 1 := pz_gj hE 2 (Nat.le_of_ble_eq_true rfl) rfl
  have j3 : ρ 3 % 4 = 1 := pz_gj hE 3 (Nat.le_of_ble_eq_true rfl) rfl
  have j4 : ρ 4 % 4 = 1 := pz_gj hE 4 (Nat.le_of_ble_eq_true rfl) rfl
  obtain ⟨i5a, i5b, i5c, i5d⟩ := pz_gi hE 5 2147483685 2147483685 (Nat.le_of_ble_eq_true rfl) rfl
  have c_kind : ay_at hp 8 7 = some (ρ 5) := ay_gfj hE 42 28 23 8 7 ax_m3 (ax_vlq rfl rfl) (ax_vlj rfl rfl)
  obtain ⟨-, -, -, -, F50⟩ : ay_ex hp 8 ∧ ay_ex hp 10 ∧ ay_ex hp 11 ∧ ay_ex hp 12 ∧ pz_x50 (ρ 0) (ρ 1) (ay_at hp 8 5) (ay_at hp 8 6) (ay_at hp 8 7) (ay_at hp 8 8) (ay_at hp 10 0) (ay_at hp 10 1) (ay_at hp 10 2) (ay_at hp 10 3) (ay_at hp 10 4) (ay_at hp 8 9) (ay_at hp 8 11) (ay_at hp 8 10) (ay_at hp 8 3) (ay_at hp 8 4) (ay_at hp 11) (ay_at hp 12) := (ax_XF_lt (x := 50) (Nat.le_of_ble_eq_true rfl)).mp (ax_gx hE (50, [3, 7]) ax_m0)
  rw [c_kind] at F50
  have F98 : (ρ 2) / 4 = (ρ 1) / 4 + 1 := (ax_XF_lt (x := 98) (Nat.le_of_ble_eq_true rfl)).mp (ax_gx hE (98, [7, 11]) ax_m1)
  have F78 : pz7 (pz_gt (ρ 0)) (pz_gN (ρ 0)) ((ρ 2) / 4) 8 := (ax_XF_lt (x := 78) (Nat.le_of_ble_eq_true rfl)).mp (ax_gx hE (78, [3, 11]) ax_m2)
  have F79 : pz7 (pz_gt (ρ 0)) (pz_gN (ρ 0)) ((ρ 1) / 4) 9 := (ax_XF_lt (x := 79) (Nat.le_of_ble_eq_true rfl)).mp (ax_gx hE (79, [3, 7]) ax_m4)
  have F48 : py_48 2 (pz_gt (ρ 0)) (pz_gN (ρ 0)) ((ρ 1) / 4) (ρ 3) (ρ 4) := (ax_XF_lt (x := 48) (Nat.le_of_ble_eq_true rfl)).mp (ax_gx hE (48, [3, 7, 15, 19]) ax_m5)
  have kd : ρ 5 / 4 = pz_kd (pz_gt (ρ 0)) (pz_gN (ρ 0)) (pz_p (pz_cf (pz_gt (ρ 0)) (pz_gN (ρ 0)) (ρ 1 / 4))) := F50.2.2.1
  rw [F98] at F78
  obtain ⟨ρ', h1, h2⟩ := pz_pn1 (K := ρ 3 / 4 * 4096 + 1007) (xf := [(46, [3, 11, 27, 19]), (99, [27, 4028, 15])]) hE (by decide) (fun ρ' h1 h2 x hx => by
    have q0 : ρ' 0 = ρ 0 := h1 0 (by decide)
    have q1 : ρ' 1 = ρ 1 := h1 1 (by decide)
    have q2 : ρ' 2 = ρ 2 := h1 2 (by decide)
    have q3 : ρ' 3 = ρ 3 := h1 3 (by decide)
    have q4 : ρ' 4 = ρ 4 := h1 4 (by decide)
    have q5 : ρ' 5 = ρ 5 := h1 5 (by decide)
    rcases List.mem_cons.mp hx with e | hx
    · subst e
      refine (ax_XF_lt (x := 46) (Nat.le_of_ble_eq_true rfl)).mpr ?_
      show py_46 (pz_gt (ρ' 0)) (pz_gN (ρ' 0)) ((ρ' 2) / 4) (ρ' 6) (ρ' 4)
      rw [q0, q2, q4, h2]
      rw [F98]
      exact pr_op (q := 37) (c := 4028) (by decide) F79 (by omega) rfl F78 (by decide) (by decide) F48 ⟨pz_41 _, F48.2.1, by decide⟩
    cases List.mem_singleton.mp hx
    refine (ax_XF_lt (x := 99) (Nat.le_of_ble_eq_true rfl)).mpr ?_
    show py_99 (ρ' 6) (4028) (ρ' 3)
    rw [q3, h2]
    exact ⟨pz_41 _, F48.2.1, by decide⟩)
  exact ⟨(fun y hy => by cases hy), _, List.mem_cons_self, ρ', h1, h2⟩

theorem axq_sp3c37_4 : ax_RO ax_wC ax_XC axu_sp3c37_4 := by
  intro ρ hp hE hT
  have j0 : ρ 0 % 4 = 1 := pz_gj hE 0 (Nat.le_of_ble_eq_true rfl) rfl
  have j1 : ρ 1 % 4 = 1 := pz_gj hE 1 (Nat.le_of_ble_eq_true rfl) rfl
  have j2 : ρ 2 % 4 = 1 := pz_gj hE 2 (Nat.le_of_ble_eq_true rfl) rfl
  have j3 : ρ 3 % 4 = 1 := pz_gj hE 3 (Nat.le_of_ble_eq_true rfl) rfl
  have j4 : ρ 4 % 4 = 1 := pz_gj hE 4 (Nat.le_of_ble_eq_true rfl) rfl
  have j5 : ρ 5 % 4 = 1 := pz_gj hE 5 (Nat.le_of_ble_eq_true rfl) rfl
  obtain ⟨i6a, i6b, i6c, i6d⟩ := pz_gi hE 6 2147483685 2147483685 (Nat.le_of_ble_eq_true rfl) rfl
  obtain ⟨-, -, -, -, F50⟩ : ay_ex hp 8 ∧ ay_ex hp 10 ∧ ay_ex hp 11 ∧ ay_ex hp 12 ∧ pz_x50 (ρ 0) (ρ 1) (ay_at hp 8 5) (ay_at hp 8 6) (ay_at hp 8 7) (ay_at hp 8 8) (ay_at hp 10 0) (ay_at hp 10 1) (ay_at hp 10 2) (ay_at hp 10 3) (ay_at hp 10 4) (ay_at hp 8 9) (ay_at hp 8 11) (ay_at hp 8 10) (ay_at hp 8 3) (ay_at hp 8 4) (ay_at hp 11) (ay_at hp 12) := (ax_XF_lt (x := 50) (Nat.le_of_ble_eq_true rfl)).mp (ax_gx hE (50, [3, 7]) ax_m0)
  have F47 : py_47 (pz_gt (ρ 0)) (pz_gN (ρ 0)) ((ρ 1) / 4) (ρ 3) (ρ 4) := (ax_XF_lt (x := 47) (Nat.le_of_ble_eq_true rfl)).mp (ax_gx hE (47, [3, 7, 15, 19]) ax_m1)
  have F99 : py_99 (ρ 3) (4028) (ρ 2) := (ax_XF_lt (x := 99) (Nat.le_of_ble_eq_true rfl)).mp (ax_gx hE (99, [15, 4028, 11]) ax_m2)
  have F44 : py_44 2 (ρ 2) := (ax_XF_lt (x := 44) (Nat.le_of_ble_eq_true rfl)).mp (ax_gx hE (44, [11]) ax_m3)
  obtain ⟨-, -, -, F41⟩ : ay_ex hp 10 ∧ ay_ex hp 15 ∧ ay_ex hp 16 ∧ py_x41 (ρ 5) (ay_at hp 10 5) (ay_at hp 15) (ay_at hp 16) := (ax_XF_lt (x := 41) (Nat.le_of_ble_eq_true rfl)).mp (ax_gx hE (41, [23]) ax_m4)
  have F99a : py_99 (ρ 5) (4028) (ρ 4) := (ax_XF_lt (x := 99) (Nat.le_of_ble_eq_true rfl)).mp (ax_gx hE (99, [23, 4028, 19]) ax_m5)
  refine ⟨(fun y hy => by cases hy), _, List.mem_cons_self, ρ, fun _ _ => rfl, ax_px hE rfl (fun y hy => ?_)⟩
  cases List.mem_singleton.mp hy
  refine (ax_XF_lt (x := 48) (Nat.le_of_ble_eq_true rfl)).mpr ?_
  show py_48 2 (pz_gt (ρ 0)) (pz_gN (ρ 0)) ((ρ 1) / 4) (ρ 2) (ρ 5)
  exact pr_sp3 F47 F99 (by decide) F44 F99a

theorem axq_spl_4 : ax_RO ax_wC ax_XC axu_spl_4 := by
  intro ρ hp hE hT
  have j0 : ρ 0 % 4 = 1 := pz_gj hE 0 (Nat.le_of_ble_eq_true rfl) rfl
  have j1 : ρ 1 % 4 = 1 := pz_gj hE 1 (Nat.le_of_ble_eq_true rfl) rfl
  have j2 : ρ 2 % 4 = 1 := pz_gj hE 2 (Nat.le_of_ble_eq_true rfl) rfl
  have j3 : ρ 3 % 4 = 1 := pz_gj hE 3 (Nat.le_of_ble_eq_true rfl) rfl
  obtain ⟨-, -, -, -, F50⟩ : ay_ex hp 8 ∧ ay_ex hp 10 ∧ ay_ex hp 11 ∧ ay_ex hp 12 ∧ pz_x50 (ρ 0) (ρ 1) (ay_at hp 8 5) (ay_at hp 8 6) (ay_at hp 8 7) (ay_at hp 8 8) (ay_at hp 10 0) (ay_at hp 10 1) (ay_at hp 10 2) (ay_at hp 10 3) (ay_at hp 10 4) (ay_at hp 8 9) (ay_at hp 8 11) (ay_at hp 8 10) (ay_at hp 8 3) (ay_at hp 8 4) (ay_at hp 11) (ay_at hp 12) := (ax_XF_lt (x := 50) (Nat.le_of_ble_eq_true rfl)).mp (ax_gx hE (50, [3, 7]) ax_m0)
  have F79 : pz7 (pz_gt (ρ 0)) (pz_gN (ρ 0)) ((ρ 1) / 4) 9 := (ax_XF_lt (x := 79) (Nat.le_of_ble_eq_true rfl)).mp (ax_gx hE (79, [3, 7]) ax_m1)
  have F47 : py_47 (pz_gt (ρ 0)) (pz_gN (ρ 0)) ((ρ 1) / 4) (ρ 2) (ρ 3) := (ax_XF_lt (x := 47) (Nat.le_of_ble_eq_true rfl)).mp (ax_gx hE (47, [3, 7, 11, 15]) ax_m2)
  refine ⟨(fun y hy => by cases hy), _, List.mem_cons_self, ρ, fun _ _ => rfl, ax_px hE rfl (fun y hy => ?_)⟩
  cases List.mem_singleton.mp hy
  refine (ax_XF_lt (x := 40) (Nat.le_of_ble_eq_true rfl)).mpr ?_
  show py_40 (ρ 3)
  exact pr_l47 F79 (by decide) F47

theorem axq_sp1_5 : ax_RO ax_wC ax_XC axu_sp1_5 := by
  intro ρ hp hE hT
  have j0 : ρ 0 % 4 = 1 := pz_gj hE 0 (Nat.le_of_ble_eq_true rfl) rfl
  have j1 : ρ 1 % 4 = 1 := pz_gj hE 1 (Nat.le_of_ble_eq_true rfl) rfl
  have j2 : ρ 2 % 4 = 1 := pz_gj hE 2 (Nat.le_of_ble_eq_true rfl) rfl
  have j3 : ρ 3 % 4 = 1 := pz_gj hE 3 (Nat.le_of_ble_eq_true rfl) rfl
  obtain ⟨-, -, -, -, F50⟩ : ay_ex hp 8 ∧ ay_ex hp 10 ∧ ay_ex hp 11 ∧ ay_ex hp 12 ∧ pz_x50 (ρ 0) (ρ 1) (ay_at hp 8 5) (ay_at hp 8 6) (ay_at hp 8 7) (ay_at hp 8 8) (ay_at hp 10 0) (ay_at hp 10 1) (ay_at hp 10 2) (ay_at hp 10 3) (ay_at hp 10 4) (ay_at hp 8 9) (ay_at hp 8 11) (ay_at hp 8 10) (ay_at hp 8 3) (ay_at hp 8 4) (ay_at hp 11) (ay_at hp 12) := (ax_XF_lt (x := 50) (Nat.le_of_ble_eq_true rfl)).mp (ax_gx hE (50, [3, 7]) ax_m0)
  have F47 : py_47 (pz_gt (ρ 0)) (pz_gN (ρ 0)) ((ρ 1) / 4) (ρ 2) (ρ 3) := (ax_XF_lt (x := 47) (Nat.le_of_ble_eq_true rfl)).mp (ax_gx hE (47, [3, 7, 11, 15]) ax_m1)
  have F44 : py_44 2 (ρ 2) := (ax_XF_lt (x := 44) (Nat.le_of_ble_eq_true rfl)).mp (ax_gx hE (44, [11]) ax_m2)
  refine ⟨(fun y hy => by cases hy), _, List.mem_cons_self, ρ, fun _ _ => rfl, ax_px hE rfl (fun y hy => ?_)⟩
  cases List.mem_singleton.mp hy
  refine (ax_XF_lt (x := 48) (Nat.le_of_ble_eq_true rfl)).mpr ?_
  show py_48 2 (pz_gt (ρ 0)) (pz_gN (ρ 0)) ((ρ 1) / 4) (ρ 2) (ρ 3)
  exact pr_sp1 F47 F44
end
section
theorem axq_sp2c42_5 : ax_RO ax_wC ax_XC axu_sp2c42_5 := by
  intro ρ hp hE hT
  have j0 : ρ 0 % 4 = 1 := pz_gj hE 0 (Nat.le_of_ble_eq_true rfl) rfl
  have j1 : ρ 1 % 4 = 1 := pz_gj hE 1 (Nat.le_of_ble_eq_true rfl) rfl
  have j2 : ρ 2 % 4 = 1 := pz_gj hE 2 (Nat.le_of_ble_eq_true rfl) rfl
  have j3 : ρ 3 % 4 = 1 := pz_gj hE 3 (Nat.le_of_ble_eq_true rfl) rfl
  have j4 : ρ 4 % 4 = 1 := pz_gj hE 4 (Nat.le_of_ble_eq_true rfl) rfl
  obtain ⟨i5a, i5b, i5c, i5d⟩ := pz_gi hE 5 2147483690 2147483690 (Nat.le_of_ble_eq_true rfl) rfl
  have c_kind : ay_at hp 8 7 = some (ρ 5) := ay_gfj hE 42 28 23 8 7 ax_m3 (ax_vlq rfl rfl) (ax_vlj rfl rfl)
  obtain ⟨-, -, -, -, F50⟩ : ay_ex hp 8 ∧ ay_ex hp 10 ∧ ay_ex hp 11 ∧ ay_ex hp 12 ∧ pz_x50 (ρ 0) (ρ 1) (ay_at hp 8 5) (ay_at hp 8 6) (ay_at hp 8 7) (ay_at hp 8 8) (ay_at hp 10 0) (ay_at hp 10 1) (ay_at hp 10 2) (ay_at hp 10 3) (ay_at hp 10 4) (ay_at hp 8 9) (ay_at hp 8 11) (ay_at hp 8 10) (ay_at hp 8 3) (ay_at hp 8 4) (ay_at hp 11) (ay_at hp 12) := (ax_XF_lt (x := 50) (Nat.le_of_ble_eq_true rfl)).mp (ax_gx hE (50, [3, 7]) ax_m0)
  rw [c_kind] at F50
  have F98 : (ρ 2) / 4 = (ρ 1) / 4 + 1 := (ax_XF_lt (x := 98) (Nat.le_of_ble_eq_true rfl)).mp (ax_gx hE (98, [7, 11]) ax_m1)
  have F78 : pz7 (pz_gt (ρ 0)) (pz_gN (ρ 0)) ((ρ 2) / 4) 8 := (ax_XF_lt (x := 78) (Nat.le_of_ble_eq_true rfl)).mp (ax_gx hE (78, [3, 11]) ax_m2)
  have F79 : pz7 (pz_gt (ρ 0)) (pz_gN (ρ 0)) ((ρ 1) / 4) 9 := (ax_XF_lt (x := 79) (Nat.le_of_ble_eq_true rfl)).mp (ax_gx hE (79, [3, 7]) ax_m4)
  have F48 : py_48 2 (pz_gt (ρ 0)) (pz_gN (ρ 0)) ((ρ 1) / 4) (ρ 3) (ρ 4) := (ax_XF_lt (x := 48) (Nat.le_of_ble_eq_true rfl)).mp (ax_gx hE (48, [3, 7, 15, 19]) ax_m5)
  have kd : ρ 5 / 4 = pz_kd (pz_gt (ρ 0)) (pz_gN (ρ 0)) (pz_p (pz_cf (pz_gt (ρ 0)) (pz_gN (ρ 0)) (ρ 1 / 4))) := F50.2.2.1
  rw [F98] at F78
  obtain ⟨ρ', h1, h2⟩ := pz_pn1 (K := ρ 3 / 4 * 4096 + 1005) (xf := [(46, [3, 11, 27, 19]), (99, [27, 4020, 15])]) hE (by decide) (fun ρ' h1 h2 x hx => by
    have q0 : ρ' 0 = ρ 0 := h1 0 (by decide)
    have q1 : ρ' 1 = ρ 1 := h1 1 (by decide)
    have q2 : ρ' 2 = ρ 2 := h1 2 (by decide)
    have q3 : ρ' 3 = ρ 3 := h1 3 (by decide)
    have q4 : ρ' 4 = ρ 4 := h1 4 (by decide)
    have q5 : ρ' 5 = ρ 5 := h1 5 (by decide)
    rcases List.mem_cons.mp hx with e | hx
    · subst e
      refine (ax_XF_lt (x := 46) (Nat.le_of_ble_eq_true rfl)).mpr ?_
      show py_46 (pz_gt (ρ' 0)) (pz_gN (ρ' 0)) ((ρ' 2) / 4) (ρ' 6) (ρ' 4)
      rw [q0, q2, q4, h2]
      rw [F98]
      exact pr_op (q := 42) (c := 4020) (by decide) F79 (by omega) rfl F78 (by decide) (by decide) F48 ⟨pz_41 _, F48.2.1, by decide⟩
    cases List.mem_singleton.mp hx
    refine (ax_XF_lt (x := 99) (Nat.le_of_ble_eq_true rfl)).mpr ?_
    show py_99 (ρ' 6) (4020) (ρ' 3)
    rw [q3, h2]
    exact ⟨pz_41 _, F48.2.1, by decide⟩)
  exact ⟨(fun y hy => by cases hy), _, List.mem_cons_self, ρ', h1, h2⟩

theorem axq_sp3c42_5 : ax_RO ax_wC ax_XC axu_sp3c42_5 := by
  intro ρ hp hE hT
  have j0 : ρ 0 % 4 = 1 := pz_gj hE 0 (Nat.le_of_ble_eq_true rfl) rfl
  have j1 : ρ 1 % 4 = 1 := pz_gj hE 1 (Nat.le_of_ble_eq_true rfl) rfl
  have j2 : ρ 2 % 4 = 1 := pz_gj hE 2 (Nat.le_of_ble_eq_true rfl) rfl
  have j3 : ρ 3 % 4 = 1 := pz_gj hE 3 (Nat.le_of_ble_eq_true rfl) rfl
  have j4 : ρ 4 % 4 = 1 := pz_gj hE 4 (Nat.le_of_ble_eq_true rfl) rfl
  have j5 : ρ 5 % 4 = 1 := pz_gj hE 5 (Nat.le_of_ble_eq_true rfl) rfl
  obtain ⟨i6a, i6b, i6c, i6d⟩ := pz_gi hE 6 2147483690 2147483690 (Nat.le_of_ble_eq_true rfl) rfl
  obtain ⟨-, -, -, -, F50⟩ : ay_ex hp 8 ∧ ay_ex hp 10 ∧ ay_ex hp 11 ∧ ay_ex hp 12 ∧ pz_x50 (ρ 0) (ρ 1) (ay_at hp 8 5) (ay_at hp 8 6) (ay_at hp 8 7) (ay_at hp 8 8) (ay_at hp 10 0) (ay_at hp 10 1) (ay_at hp 10 2) (ay_at hp 10 3) (ay_at hp 10 4) (ay_at hp 8 9) (ay_at hp 8 11) (ay_at hp 8 10) (ay_at hp 8 3) (ay_at hp 8 4) (ay_at hp 11) (ay_at hp 12) := (ax_XF_lt (x := 50) (Nat.le_of_ble_eq_true rfl)).mp (ax_gx hE (50, [3, 7]) ax_m0)
  have F47 : py_47 (pz_gt (ρ 0)) (pz_gN (ρ 0)) ((ρ 1) / 4) (ρ 3) (ρ 4) := (ax_XF_lt (x := 47) (Nat.le_of_ble_eq_true rfl)).mp (ax_gx hE (47, [3, 7, 15, 19]) ax_m1)
  have F99 : py_99 (ρ 3) (4020) (ρ 2) := (ax_XF_lt (x := 99) (Nat.le_of_ble_eq_true rfl)).mp (ax_gx hE (99, [15, 4020, 11]) ax_m2)
  have F44 : py_44 2 (ρ 2) := (ax_XF_lt (x := 44) (Nat.le_of_ble_eq_true rfl)).mp (ax_gx hE (44, [11]) ax_m3)
  obtain ⟨-, -, -, F41⟩ : ay_ex hp 10 ∧ ay_ex hp 15 ∧ ay_ex hp 16 ∧ py_x41 (ρ 5) (ay_at hp 10 5) (ay_at hp 15) (ay_at hp 16) := (ax_XF_lt (x := 41) (Nat.le_of_ble_eq_true rfl)).mp (ax_gx hE (41, [23]) ax_m4)
  have F99a : py_99 (ρ 5) (4020) (ρ 4) := (ax_XF_lt (x := 99) (Nat.le_of_ble_eq_true rfl)).mp (ax_gx hE (99, [23, 4020, 19]) ax_m5)
  refine ⟨(fun y hy => by cases hy), _, List.mem_cons_self, ρ, fun _ _ => rfl, ax_px hE rfl (fun y hy => ?_)⟩
  cases List.mem_singleton.mp hy
  refine (ax_XF_lt (x := 48) (Nat.le_of_ble_eq_true rfl)).mpr ?_
  show py_48 2 (pz_gt (ρ 0)) (pz_gN (ρ 0)) ((ρ 1) / 4) (ρ 2) (ρ 5)
  exact pr_sp3 F47 F99 (by decide) F44 F99a

theorem axq_sp2c47_5 : ax_RO ax_wC ax_XC axu_sp2c47_5 := by
  intro ρ hp hE hT
  have j0 : ρ 0 % 4 = 1 := pz_gj hE 0 (Nat.le_of_ble_eq_true rfl) rfl
  have j1 : ρ 1 % 4 = 1 := pz_gj hE 1 (Nat.le_of_ble_eq_true rfl) rfl
  have j2 : ρ 2 % 4 = 1 := pz_gj hE 2 (Nat.le_of_ble_eq_true rfl) rfl
  have j3 : ρ 3 % 4 = 1 := pz_gj hE 3 (Nat.le_of_ble_eq_true rfl) rfl
  have j4 : ρ 4 % 4 = 1 := pz_gj hE 4 (Nat.le_of_ble_eq_true rfl) rfl
  obtain ⟨i5a, i5b, i5c, i5d⟩ := pz_gi hE 5 2147483695 2147483695 (Nat.le_of_ble_eq_true rfl) rfl
  have c_kind : ay_at hp 8 7 = some (ρ 5) := ay_gfj hE 42 28 23 8 7 ax_m3 (ax_vlq rfl rfl) (ax_vlj rfl rfl)
  obtain ⟨-, -, -, -, F50⟩ : ay_ex hp 8 ∧ ay_ex hp 10 ∧ ay_ex hp 11 ∧ ay_ex hp 12 ∧ pz_x50 (ρ 0) (ρ 1) (ay_at hp 8 5) (ay_at hp 8 6) (ay_at hp 8 7) (ay_at hp 8 8) (ay_at hp 10 0) (ay_at hp 10 1) (ay_at hp 10 2) (ay_at hp 10 3) (ay_at hp 10 4) (ay_at hp 8 9) (ay_at hp 8 11) (ay_at hp 8 10) (ay_at hp 8 3) (ay_at hp 8 4) (ay_at hp 11) (ay_at hp 12) := (ax_XF_lt (x := 50) (Nat.le_of_ble_eq_true rfl)).mp (ax_gx hE (50, [3, 7]) ax_m0)
  rw [c_kind] at F50
  have F98 : (ρ 2) / 4 = (ρ 1) / 4 + 1 := (ax_XF_lt (x := 98) (Nat.le_of_ble_eq_true rfl)).mp (ax_gx hE (98, [7, 11]) ax_m1)
  have F78 : pz7 (pz_gt (ρ 0)) (pz_gN (ρ 0)) ((ρ 2) / 4) 8 := (ax_XF_lt (x := 78) (Nat.le_of_ble_eq_true rfl)).mp (ax_gx hE (78, [3, 11]) ax_m2)
  have F79 : pz7 (pz_gt (ρ 0)) (pz_gN (ρ 0)) ((ρ 1) / 4) 9 := (ax_XF_lt (x := 79) (Nat.le_of_ble_eq_true rfl)).mp (ax_gx hE (79, [3, 7]) ax_m4)
  have F48 : py_48 2 (pz_gt (ρ 0)) (pz_gN (ρ 0)) ((ρ 1) / 4) (ρ 3) (ρ 4) := (ax_XF_lt (x := 48) (Nat.le_of_ble_eq_true rfl)).mp (ax_gx hE (48, [3, 7, 15, 19]) ax_m5)
  have kd : ρ 5 / 4 = pz_kd (pz_gt (ρ 0)) (pz_gN (ρ 0)) (pz_p (pz_cf (pz_gt (ρ 0)) (pz_gN (ρ 0)) (ρ 1 / 4))) := F50.2.2.1
  rw [F98] at F78
  obtain ⟨ρ', h1, h2⟩ := pz_pn1 (K := ρ 3 / 4 * 4096 + 1006) (xf := [(46, [3, 11, 27, 19]), (99, [27, 4024, 15])]) hE (by decide) (fun ρ' h1 h2 x hx => by
    have q0 : ρ' 0 = ρ 0 := h1 0 (by decide)
    have q1 : ρ' 1 = ρ 1 := h1 1 (by decide)
    have q2 : ρ' 2 = ρ 2 := h1 2 (by decide)
    have q3 : ρ' 3 = ρ 3 := h1 3 (by decide)
    have q4 : ρ' 4 = ρ 4 := h1 4 (by decide)
    have q5 : ρ' 5 = ρ 5 := h1 5 (by decide)
    rcases List.mem_cons.mp hx with e | hx
    · subst e
      refine (ax_XF_lt (x := 46) (Nat.le_of_ble_eq_true rfl)).mpr ?_
      show py_46 (pz_gt (ρ' 0)) (pz_gN (ρ' 0)) ((ρ' 2) / 4) (ρ' 6) (ρ' 4)
      rw [q0, q2, q4, h2]
      rw [F98]
      exact pr_op (q := 47) (c := 4024) (by decide) F79 (by omega) rfl F78 (by decide) (by decide) F48 ⟨pz_41 _, F48.2.1, by decide⟩
    cases List.mem_singleton.mp hx
    refine (ax_XF_lt (x := 99) (Nat.le_of_ble_eq_true rfl)).mpr ?_
    show py_99 (ρ' 6) (4024) (ρ' 3)
    rw [q3, h2]
    exact ⟨pz_41 _, F48.2.1, by decide⟩)
  exact ⟨(fun y hy => by cases hy), _, List.mem_cons_self, ρ', h1, h2⟩

theorem axq_sp3c47_5 : ax_RO ax_wC ax_XC axu_sp3c47_5 := by
  intro ρ hp hE hT
  have j0 : ρ 0 % 4 = 1 := pz_gj hE 0 (Nat.le_of_ble_eq_true rfl) rfl
  have j1 : ρ 1 % 4 = 1 := pz_gj hE 1 (Nat.le_of_ble_eq_true rfl) rfl
  have j2 : ρ 2 % 4 = 1 := pz_gj hE 2 (Nat.le_of_ble_eq_true rfl) rfl
  have j3 : ρ 3 % 4 = 1 := pz_gj hE 3 (Nat.le_of_ble_eq_true rfl) rfl
  have j4 : ρ 4 % 4 = 1 := pz_gj hE 4 (Nat.le_of_ble_eq_true rfl) rfl
  have j5 : ρ 5 % 4 = 1 := pz_gj hE 5 (Nat.le_of_ble_eq_true rfl) rfl
  obtain ⟨i6a, i6b, i6c, i6d⟩ := pz_gi hE 6 2147483695 2147483695 (Nat.le_of_ble_eq_true rfl) rfl
  obtain ⟨-, -, -, -, F50⟩ : ay_ex hp 8 ∧ ay_ex hp 10 ∧ ay_ex hp 11 ∧ ay_ex hp 12 ∧ pz_x50 (ρ 0) (ρ 1) (ay_at hp 8 5) (ay_at hp 8 6) (ay_at hp 8 7) (ay_at hp 8 8) (ay_at hp 10 0) (ay_at hp 10 1) (ay_at hp 10 2) (ay_at hp 10 3) (ay_at hp 10 4) (ay_at hp 8 9) (ay_at hp 8 11) (ay_at hp 8 10) (ay_at hp 8 3) (ay_at hp 8 4) (ay_at hp 11) (ay_at hp 12) := (ax_XF_lt (x := 50) (Nat.le_of_ble_eq_true rfl)).mp (ax_gx hE (50, [3, 7]) ax_m0)
  have F47 : py_47 (pz_gt (ρ 0)) (pz_gN (ρ 0)) ((ρ 1) / 4) (ρ 3) (ρ 4) := (ax_XF_lt (x := 47) (Nat.le_of_ble_eq_true rfl)).mp (ax_gx hE (47, [3, 7, 15, 19]) ax_m1)
  have F99 : py_99 (ρ 3) (4024) (ρ 2) := (ax_XF_lt (x := 99) (Nat.le_of_ble_eq_true rfl)).mp (ax_gx hE (99, [15, 4024, 11]) ax_m2)
  have F44 : py_44 2 (ρ 2) := (ax_XF_lt (x := 44) (Nat.le_of_ble_eq_true rfl)).mp (ax_gx hE (44, [11]) ax_m3)
  obtain ⟨-, -, -, F41⟩ : ay_ex hp 10 ∧ ay_ex hp 15 ∧ ay_ex hp 16 ∧ py_x41 (ρ 5) (ay_at hp 10 5) (ay_at hp 15) (ay_at hp 16) := (ax_XF_lt (x := 41) (Nat.le_of_ble_eq_true rfl)).mp (ax_gx hE (41, [23]) ax_m4)
  have F99a : py_99 (ρ 5) (4024) (ρ 4) := (ax_XF_lt (x := 99) (Nat.le_of_ble_eq_true rfl)).mp (ax_gx hE (99, [23, 4024, 19]) ax_m5)
  refine ⟨(fun y hy => by cases hy), _, List.mem_cons_self, ρ, fun _ _ => rfl, ax_px hE rfl (fun y hy => ?_)⟩
  cases List.mem_singleton.mp hy
  refine (ax_XF_lt (x := 48) (Nat.le_of_ble_eq_true rfl)).mpr ?_
  show py_48 2 (pz_gt (ρ 0)) (pz_gN (ρ 0)) ((ρ 1) / 4) (ρ 2) (ρ 5)
  exact pr_sp3 F47 F99 (by decide) F44 F99a

theorem axq_sp2c37_5 : ax_RO ax_wC ax_XC axu_sp2c37_5 := by
  intro ρ hp hE hT
  have j0 : ρ 0 % 4 = 1 := pz_gj hE 0 (Nat.le_of_ble_eq_true rfl) rfl
  have j1 : ρ 1 % 4 = 1 := pz_gj hE 1 (Nat.le_of_ble_eq_true rfl) rfl
  have j2 : ρ 2 % 4 = 1 := pz_gj hE 2 (Nat.le_of_ble_eq_true rfl) rfl
  have j3 : ρ 3 % 4 = 1 := pz_gj hE 3 (Nat.le_of_ble_eq_true rfl) rfl
  have j4 : ρ 4 % 4 = 1 := pz_gj hE 4 (Nat.le_of_ble_eq_true rfl) rfl
  obtain ⟨i5a, i5b, i5c, i5d⟩ := pz_gi hE 5 2147483685 2147483685 (Nat.le_of_ble_eq_true rfl) rfl
  have c_kind : ay_at hp 8 7 = some (ρ 5) := ay_gfj hE 42 28 23 8 7 ax_m3 (ax_vlq rfl rfl) (ax_vlj rfl rfl)
  obtain ⟨-, -, -, -, F50⟩ : ay_ex hp 8 ∧ ay_ex hp 10 ∧ ay_ex hp 11 ∧ ay_ex hp 12 ∧ pz_x50 (ρ 0) (ρ 1) (ay_at hp 8 5) (ay_at hp 8 6) (ay_at hp 8 7) (ay_at hp 8 8) (ay_at hp 10 0) (ay_at hp 10 1) (ay_at hp 10 2) (ay_at hp 10 3) (ay_at hp 10 4) (ay_at hp 8 9) (ay_at hp 8 11) (ay_at hp 8 10) (ay_at hp 8 3) (ay_at hp 8 4) (ay_at hp 11) (ay_at hp 12) := (ax_XF_lt (x := 50) (Nat.le_of_ble_eq_true rfl)).mp (ax_gx hE (50, [3, 7]) ax_m0)
  rw [c_kind] at F50
  have F98 : (ρ 2) / 4 = (ρ 1) / 4 + 1 := (ax_XF_lt (x := 98) (Nat.le_of_ble_eq_true rfl)).mp (ax_gx hE (98, [7, 11]) ax_m1)
  have F78 : pz7 (pz_gt (ρ 0)) (pz_gN (ρ 0)) ((ρ 2) / 4) 8 := (ax_XF_lt (x := 78) (Nat.le_of_ble_eq_true rfl)).mp (ax_gx hE (78, [3, 11]) ax_m2)
  have F79 : pz7 (pz_gt (ρ 0)) (pz_gN (ρ 0)) ((ρ 1) / 4) 9 := (ax_XF_lt (x := 79) (Nat.le_of_ble_eq_true rfl)).mp (ax_gx hE (79, [3, 7]) ax_m4)
  have F48 : py_48 2 (pz_gt (ρ 0)) (pz_gN (ρ 0)) ((ρ 1) / 4) (ρ 3) (ρ 4) := (ax_XF_lt (x := 48) (Nat.le_of_ble_eq_true rfl)).mp (ax_gx hE (48, [3, 7, 15, 19]) ax_m5)
  have kd : ρ 5 / 4 = pz_kd (pz_gt (ρ 0)) (pz_gN (ρ 0)) (pz_p (pz_cf (pz_gt (ρ 0)) (pz_gN (ρ 0)) (ρ 1 / 4))) := F50.2.2.1
  rw [F98] at F78
  obtain ⟨ρ', h1, h2⟩ := pz_pn1 (K := ρ 3 / 4 * 4096 + 1007) (xf := [(46, [3, 11, 27, 19]), (99, [27, 4028, 15])]) hE (by decide) (fun ρ' h1 h2 x hx => by
    have q0 : ρ' 0 = ρ 0 := h1 0 (by decide)
    have q1 : ρ' 1 = ρ 1 := h1 1 (by decide)
    have q2 : ρ' 2 = ρ 2 := h1 2 (by decide)
    have q3 : ρ' 3 = ρ 3 := h1 3 (by decide)
    have q4 : ρ' 4 = ρ 4 := h1 4 (by decide)
    have q5 : ρ' 5 = ρ 5 := h1 5 (by decide)
    rcases List.mem_cons.mp hx with e | hx
    · subst e
      refine (ax_XF_lt (x := 46) (Nat.le_of_ble_eq_true rfl)).mpr ?_
      show py_46 (pz_gt (ρ' 0)) (pz_gN (ρ' 0)) ((ρ' 2) / 4) (ρ' 6) (ρ' 4)
      rw [q0, q2, q4, h2]
      rw [F98]
      exact pr_op (q := 37) (c := 4028) (by decide) F79 (by omega) rfl F78 (by decide) (by decide) F48 ⟨pz_41 _, F48.2.1, by decide⟩
    cases List.mem_singleton.mp hx
    refine (ax_XF_lt (x := 99) (Nat.le_of_ble_eq_true rfl)).mpr ?_
    show py_99 (ρ' 6) (4028) (ρ' 3)
    rw [q3, h2]
    exact ⟨pz_41 _, F48.2.1, by decide⟩)
  exact ⟨(fun y hy => by cases hy), _, List.mem_cons_self, ρ', h1, h2⟩

theorem axq_sp3c37_5 : ax_RO ax_wC ax_XC axu_sp3c37_5 := by
  intro ρ hp hE hT
  have j0 : ρ 0 % 4 = 1 := pz_gj hE 0 (Nat.le_of_ble_eq_true rfl) rfl
  have j1 : ρ 1 % 4 = 1 := pz_gj hE 1 (Nat.le_of_ble_eq_true rfl) rfl
  have j2 : ρ 2 % 4 = 1 := pz_gj hE 2 (Nat.le_of_ble_eq_true rfl) rfl
  have j3 : ρ 3 % 4 = 1 := pz_gj hE 3 (Nat.le_of_ble_eq_true rfl) rfl
  have j4 : ρ 4 % 4 = 1 := pz_gj hE 4 (Nat.le_of_ble_eq_true rfl) rfl
  have j5 : ρ 5 % 4 = 1 := pz_gj hE 5 (Nat.le_of_ble_eq_true rfl) rfl
  obtain ⟨i6a, i6b, i6c, i6d⟩ := pz_gi hE 6 2147483685 2147483685 (Nat.le_of_ble_eq_true rfl) rfl
  obtain ⟨-, -, -, -, F50⟩ : ay_ex hp 8 ∧ ay_ex hp 10 ∧ ay_ex hp 11 ∧ ay_ex hp 12 ∧ pz_x50 (ρ 0) (ρ 1) (ay_at hp 8 5) (ay_at hp 8 6) (ay_at hp 8 7) (ay_at hp 8 8) (ay_at hp 10 0) (ay_at hp 10 1) (ay_at hp 10 2) (ay_at hp 10 3) (ay_at hp 10 4) (ay_at hp 8 9) (ay_at hp 8 11) (ay_at hp 8 10) (ay_at hp 8 3) (ay_at hp 8 4) (ay_at hp 11) (ay_at hp 12) := (ax_XF_lt (x := 50) (Nat.le_of_ble_eq_true rfl)).mp (ax_gx hE (50, [3, 7]) ax_m0)
  have F47 : py_47 (pz_gt (ρ 0)) (pz_gN (ρ 0)) ((ρ 1) / 4) (ρ 3) (ρ 4) := (ax_XF_lt (x := 47) (Nat.le_of_ble_eq_true rfl)).mp (ax_gx hE (47, [3, 7, 15, 19]) ax_m1)
  have F99 : py_99 (ρ 3) (4028) (ρ 2) := (ax_XF_lt (x := 99) (Nat.le_of_ble_eq_true rfl)).mp (ax_gx hE (99, [15, 4028, 11]) ax_m2)
  have F44 : py_44 2 (ρ 2) := (ax_XF_lt (x := 44) (Nat.le_of_ble_eq_true rfl)).mp (ax_gx hE (44, [11]) ax_m3)
  obtain ⟨-, -, -, F41⟩ : ay_ex hp 10 ∧ ay_ex hp 15 ∧ ay_ex hp 16 ∧ py_x41 (ρ 5) (ay_at hp 10 5) (ay_at hp 15) (ay_at hp 16) := (ax_XF_lt (x := 41) (Nat.le_of_ble_eq_true rfl)).mp (ax_gx hE (41, [23]) ax_m4)
  have F99a : py_99 (ρ 5) (4028) (ρ 4) := (ax_XF_lt (x := 99) (Nat.le_of_ble_eq_true rfl)).mp (ax_gx hE (99, [23, 4028, 19]) ax_m5)
  refine ⟨(fun y hy => by cases hy), _, List.mem_cons_self, ρ, fun _ _ => rfl, ax_px hE rfl (fun y hy => ?_)⟩
  cases List.mem_singleton.mp hy
  refine (ax_XF_lt (x := 48) (Nat.le_of_ble_eq_true rfl)).mpr ?_
  show py_48 2 (pz_gt (ρ 0)) (pz_gN (ρ 0)) ((ρ 1) / 4) (ρ 2) (ρ 5)
  exact pr_sp3 F47 F99 (by decide) F44 F99a

theorem axq_spl_5 : ax_RO ax_wC ax_XC axu_spl_5 := by
  intro ρ hp hE hT
  have j0 : ρ 0 % 4 = 1 := pz_gj hE 0 (Nat.le_of_ble_eq_true rfl) rfl
  have j1 : ρ 1 % 4 = 1 := pz_gj hE 1 (Nat.le_of_ble_eq_true rfl) rfl
  have j2 : ρ 2 % 4 = 1 := pz_gj hE 2 (Nat.le_of_ble_eq_true rfl) rfl
  have j3 : ρ 3 % 4 = 1 := pz_gj hE 3 (Nat.le_of_ble_eq_true rfl) rfl
  obtain ⟨-, -, -, -, F50⟩ : ay_ex hp 8 ∧ ay_ex hp 10 ∧ ay_ex hp 11 ∧ ay_ex hp 12 ∧ pz_x50 (ρ 0) (ρ 1) (ay_at hp 8 5) (ay_at hp 8 6) (ay_at hp 8 7) (ay_at hp 8 8) (ay_at hp 10 0) (ay_at hp 10 1) (ay_at hp 10 2) (ay_at hp 10 3) (ay_at hp 10 4) (ay_at hp 8 9) (ay_at hp 8 11) (ay_at hp 8 10) (ay_at hp 8 3) (ay_at hp 8 4) (ay_at hp 11) (ay_at hp 12) := (ax_XF_lt (x := 50) (Nat.le_of_ble_eq_true rfl)).mp (ax_gx hE (50, [3, 7]) ax_m0)
  have F79 : pz7 (pz_gt (ρ 0)) (pz_gN (ρ 0)) ((ρ 1) / 4) 9 := (ax_XF_lt (x := 79) (Nat.le_of_ble_eq_true rfl)).mp (ax_gx hE (79, [3, 7]) ax_m1)
  have F47 : py_47 (pz_gt (ρ 0)) (pz_gN (ρ 0)) ((ρ 1) / 4) (ρ 2) (ρ 3) := (ax_XF_lt (x := 47) (Nat.le_of_ble_eq_true rfl)).mp (ax_gx hE (47, [3, 7, 11, 15]) ax_m2)
  refine ⟨(fun y hy => by cases hy), _, List.mem_cons_self, ρ, fun _ _ => rfl, ax_px hE rfl (fun y hy => ?_)⟩
  cases List.mem_singleton.mp hy
  refine (ax_XF_lt (x := 40) (Nat.le_of_ble_eq_true rfl)).mpr ?_
  show py_40 (ρ 3)
  exact pr_l47 F79 (by decide) F47

theorem axq_sq1_0 : ax_RO ax_wC ax_XC axu_sq1_0 := by
  intro ρ hp hE hT
  have j0 : ρ 0 % 4 = 1 := pz_gj hE 0 (Nat.le_of_ble_eq_true rfl) rfl
  have j1 : ρ 1 % 4 = 1 := pz_gj hE 1 (Nat.le_of_ble_eq_true rfl) rfl
  have j2 : ρ 2 % 4 = 1 := pz_gj hE 2 (Nat.le_of_ble_eq_true rfl) rfl
  have j3 : ρ 3 % 4 = 1 := pz_gj hE 3 (Nat.le_of_ble_eq_true rfl) rfl
  obtain ⟨-, -, -, -, F50⟩ : ay_ex hp 8 ∧ ay_ex hp 10 ∧ ay_ex hp 11 ∧ ay_ex hp 12 ∧ pz_x50 (ρ 0) (ρ 1) (ay_at hp 8 5) (ay_at hp 8 6) (ay_at hp 8 7) (ay_at hp 8 8) (ay_at hp 10 0) (ay_at hp 10 1) (ay_at hp 10 2) (ay_at hp 10 3) (ay_at hp 10 4) (ay_at hp 8 9) (ay_at hp 8 11) (ay_at hp 8 10) (ay_at hp 8 3) (ay_at hp 8 4) (ay_at hp 11) (ay_at hp 12) := (ax_XF_lt (x := 50) (Nat.le_of_ble_eq_true rfl)).mp (ax_gx hE (50, [3, 7]) ax_m0)
  have F48 : py_48 2 (pz_gt (ρ 0)) (pz_gN (ρ 0)) ((ρ 1) / 4) (ρ 2) (ρ 3) := (ax_XF_lt (x := 48) (Nat.le_of_ble_eq_true rfl)).mp (ax_gx hE (48, [3, 7, 11, 15]) ax_m1)
  have F45 : py_44 1 (ρ 2) := (ax_XF_lt (x := 45) (Nat.le_of_ble_eq_true rfl)).mp (ax_gx hE (45, [11]) ax_m2)
  refine ⟨(fun y hy => by cases hy), _, List.mem_cons_self, ρ, fun _ _ => rfl, ax_px hE rfl (fun y hy => ?_)⟩
  cases List.mem_singleton.mp hy
  refine (ax_XF_lt (x := 49) (Nat.le_of_ble_eq_true rfl)).mpr ?_
  show py_48 1 (pz_gt (ρ 0)) (pz_gN (ρ 0)) ((ρ 1) / 4) (ρ 2) (ρ 3)
  exact pr_sq1 F48 F45

theorem axq_sq2c43_0 : ax_RO ax_wC ax_XC axu_sq2c43_0 := by
  intro ρ hp hE hT
  have j0 : ρ 0 % 4 = 1 := pz_gj hE 0 (Nat.le_of_ble_eq_true rfl) rfl
  have j1 : ρ 1 % 4 = 1 := pz_gj hE 1 (Nat.le_of_ble_eq_true rfl) rfl
  have j2 : ρ 2 % 4 = 1 := pz_gj hE 2 (Nat.le_of_ble_eq_true rfl) rfl
  have j3 : ρ 3 % 4 = 1 := pz_gj hE 3 (Nat.le_of_ble_eq_true rfl) rfl
  have j4 : ρ 4 % 4 = 1 := pz_gj hE 4 (Nat.le_of_ble_eq_true rfl) rfl
  obtain ⟨i5a, i5b, i5c, i5d⟩ := pz_gi hE 5 2147483691 2147483691 (Nat.le_of_ble_eq_true rfl) rfl
  have c_kind : ay_at hp 8 7 = some (ρ 5) := ay_gfj hE 42 28 23 8 7 ax_m3 (ax_vlq rfl rfl) (ax_vlj rfl rfl)
  obtain ⟨-, -, -, -, F50⟩ : ay_ex hp 8 ∧ ay_ex hp 10 ∧ ay_ex hp 11 ∧ ay_ex hp 12 ∧ pz_x50 (ρ 0) (ρ 1) (ay_at hp 8 5) (ay_at hp 8 6) (ay_at hp 8 7) (ay_at hp 8 8) (ay_at hp 10 0) (ay_at hp 10 1) (ay_at hp 10 2) (ay_at hp 10 3) (ay_at hp 10 4) (ay_at hp 8 9) (ay_at hp 8 11) (ay_at hp 8 10) (ay_at hp 8 3) (ay_at hp 8 4) (ay_at hp 11) (ay_at hp 12) := (ax_XF_lt (x := 50) (Nat.le_of_ble_eq_true rfl)).mp (ax_gx hE (50, [3, 7]) ax_m0)
  rw [c_kind] at F50
  have F98 : (ρ 2) / 4 = (ρ 1) / 4 + 1 := (ax_XF_lt (x := 98) (Nat.le_of_ble_eq_true rfl)).mp (ax_gx hE (98, [7, 11]) ax_m1)
  have F78 : pz7 (pz_gt (ρ 0)) (pz_gN (ρ 0)) ((ρ 2) / 4) 8 := (ax_XF_lt (x := 78) (Nat.le_of_ble_eq_true rfl)).mp (ax_gx hE (78, [3, 11]) ax_m2)
  have F79 : pz7 (pz_gt (ρ 0)) (pz_gN (ρ 0)) ((ρ 1) / 4) 9 := (ax_XF_lt (x := 79) (Nat.le_of_ble_eq_true rfl)).mp (ax_gx hE (79, [3, 7]) ax_m4)
  have F49 : py_48 1 (pz_gt (ρ 0)) (pz_gN (ρ 0)) ((ρ 1) / 4) (ρ 3) (ρ 4) := (ax_XF_lt (x := 49) (Nat.le_of_ble_eq_true rfl)).mp (ax_gx hE (49, [3, 7, 15, 19]) ax_m5)
  have kd : ρ 5 / 4 = pz_kd (pz_gt (ρ 0)) (pz_gN (ρ 0)) (pz_p (pz_cf (pz_gt (ρ 0)) (pz_gN (ρ 0)) (ρ 1 / 4))) := F50.2.2.1
  rw [F98] at F78
  obtain ⟨ρ', h1, h2⟩ := pz_pn1 (K := ρ 3 / 4 * 4096 + 1003) (xf := [(46, [3, 11, 27, 19]), (99, [27, 4012, 15]), (44, [27])]) hE (by decide) (fun ρ' h1 h2 x hx => by
    have q0 : ρ' 0 = ρ 0 := h1 0 (by decide)
    have q1 : ρ' 1 = ρ 1 := h1 1 (by decide)
    have q2 : ρ' 2 = ρ 2 := h1 2 (by decide)
    have q3 : ρ' 3 = ρ 3 := h1 3 (by decide)
    have q4 : ρ' 4 = ρ 4 := h1 4 (by decide)
    have q5 : ρ' 5 = ρ 5 := h1 5 (by decide)
    rcases List.mem_cons.mp hx with e | hx
    · subst e
      refine (ax_XF_lt (x := 46) (Nat.le_of_ble_eq_true rfl)).mpr ?_
      show py_46 (pz_gt (ρ' 0)) (pz_gN (ρ' 0)) ((ρ' 2) / 4) (ρ' 6) (ρ' 4)
      rw [q0, q2, q4, h2]
      rw [F98]
      exact pr_op (q := 43) (c := 4012) (by decide) F79 (by omega) rfl F78 (by decide) (by decide) F49 ⟨pz_41 _, F49.2.1, by decide⟩
    rcases List.mem_cons.mp hx with e | hx
    · subst e
      refine (ax_XF_lt (x := 99) (Nat.le_of_ble_eq_true rfl)).mpr ?_
      show py_99 (ρ' 6) (4012) (ρ' 3)
      rw [q3, h2]
      exact ⟨pz_41 _, F49.2.1, by decide⟩
    cases List.mem_singleton.mp hx
    refine (ax_XF_lt (x := 44) (Nat.le_of_ble_eq_true rfl)).mpr ?_
    show py_44 2 (ρ' 6)
    rw [h2]
    exact pr_44 (c := 4012) (s := ρ 3) ⟨pz_41 _, F49.2.1, by decide⟩ (by decide) (by decide))
  exact ⟨(fun y hy => by cases hy), _, List.mem_cons_self, ρ', h1, h2⟩

theorem axq_sq3c43_0 : ax_RO ax_wC ax_XC axu_sq3c43_0 := by
  intro ρ hp hE hT
  have j0 : ρ 0 % 4 = 1 := pz_gj hE 0 (Nat.le_of_ble_eq_true rfl) rfl
  have j1 : ρ 1 % 4 = 1 := pz_gj hE 1 (Nat.le_of_ble_eq_true rfl) rfl
  have j2 : ρ 2 % 4 = 1 := pz_gj hE 2 (Nat.le_of_ble_eq_true rfl) rfl
  have j3 : ρ 3 % 4 = 1 := pz_gj hE 3 (Nat.le_of_ble_eq_true rfl) rfl
  have j4 : ρ 4 % 4 = 1 := pz_gj hE 4 (Nat.le_of_ble_eq_true rfl) rfl
  have j5 : ρ 5 % 4 = 1 := pz_gj hE 5 (Nat.le_of_ble_eq_true rfl) rfl
  obtain ⟨i6a, i6b, i6c, i6d⟩ := pz_gi hE 6 2147483691 2147483691 (Nat.le_of_ble_eq_true rfl) rfl
  obtain ⟨-, -, -, -, F50⟩ : ay_ex hp 8 ∧ ay_ex hp 10 ∧ ay_ex hp 11 ∧ ay_ex hp 12 ∧ pz_x50 (ρ 0) (ρ 1) (ay_at hp 8 5) (ay_at hp 8 6) (ay_at hp 8 7) (ay_at hp 8 8) (ay_at hp 10 0) (ay_at hp 10 1) (ay_at hp 10 2) (ay_at hp 10 3) (ay_at hp 10 4) (ay_at hp 8 9) (ay_at hp 8 11) (ay_at hp 8 10) (ay_at hp 8 3) (ay_at hp 8 4) (ay_at hp 11) (ay_at hp 12) := (ax_XF_lt (x := 50) (Nat.le_of_ble_eq_true rfl)).mp (ax_gx hE (50, [3, 7]) ax_m0)
  have F48 : py_48 2 (pz_gt (ρ 0)) (pz_gN (ρ 0)) ((ρ 1) / 4) (ρ 3) (ρ 4) := (ax_XF_lt (x := 48) (Nat.le_of_ble_eq_true rfl)).mp (ax_gx hE (48, [3, 7, 15, 19]) ax_m1)
  have F99 : py_99 (ρ 3) (4012) (ρ 2) := (ax_XF_lt (x := 99) (Nat.le_of_ble_eq_true rfl)).mp (ax_gx hE (99, [15, 4012, 11]) ax_m2)
  have F45 : py_44 1 (ρ 2) := (ax_XF_lt (x := 45) (Nat.le_of_ble_eq_true rfl)).mp (ax_gx hE (45, [11]) ax_m3)
  obtain ⟨-, -, -, F41⟩ : ay_ex hp 10 ∧ ay_ex hp 15 ∧ ay_ex hp 16 ∧ py_x41 (ρ 5) (ay_at hp 10 5) (ay_at hp 15) (ay_at hp 16) := (ax_XF_lt (x := 41) (Nat.le_of_ble_eq_true rfl)).mp (ax_gx hE (41, [23]) ax_m4)
  have F99a : py_99 (ρ 5) (4012) (ρ 4) := (ax_XF_lt (x := 99) (Nat.le_of_ble_eq_true rfl)).mp (ax_gx hE (99, [23, 4012, 19]) ax_m5)
  refine ⟨(fun y hy => by cases hy), _, List.mem_cons_self, ρ, fun _ _ => rfl, ax_px hE rfl (fun y hy => ?_)⟩
  cases List.mem_singleton.mp hy
  refine (ax_XF_lt (x := 49) (Nat.le_of_ble_eq_true rfl)).mpr ?_
  show py_48 1 (pz_gt (ρ 0)) (pz_gN (ρ 0)) ((ρ 1) / 4) (ρ 2) (ρ 5)
  exact pr_sq3 F48 F99 (by decide) F45 F99a

theorem axq_sq2c45_0 : ax_RO ax_wC ax_XC axu_sq2c45_0 := by
  intro ρ hp hE hT
  have j0 : ρ 0 % 4 = 1 := pz_gj hE 0 (Nat.le_of_ble_eq_true rfl) rfl
  have j1 : ρ 1 % 4 = 1 := pz_gj hE 1 (Nat.le_of_ble_eq_true rfl) rfl
  have j2 : ρ 2 % 4 = 1 := pz_gj hE 2 (Nat.le_of_ble_eq_true rfl) rfl
  have j3 : ρ 3 % 4 = 1 := pz_gj hE 3 (Nat.le_of_ble_eq_true rfl) rfl
  have j4 : ρ 4 % 4 = 1 := pz_gj hE 4 (Nat.le_of_ble_eq_true rfl) rfl
  obtain ⟨i5a, i5b, i5c, i5d⟩ := pz_gi hE 5 2147483693 2147483693 (Nat.le_of_ble_eq_true rfl) rfl
  have c_kind : ay_at hp 8 7 = some (ρ 5) := ay_gfj hE 42 28 23 8 7 ax_m3 (ax_vlq rfl rfl) (ax_vlj rfl rfl)
  obtain ⟨-, -, -, -, F50⟩ : ay_ex hp 8 ∧ ay_ex hp 10 ∧ ay_ex hp 11 ∧ ay_ex hp 12 ∧ pz_x50 (ρ 0) (ρ 1) (ay_at hp 8 5) (ay_at hp 8 6) (ay_at hp 8 7) (ay_at hp 8 8) (ay_at hp 10 0) (ay_at hp 10 1) (ay_at hp 10 2) (ay_at hp 10 3) (ay_at hp 10 4) (ay_at hp 8 9) (ay_at hp 8 11) (ay_at hp 8 10) (ay_at hp 8 3) (ay_at hp 8 4) (ay_at hp 11) (ay_at hp 12) := (ax_XF_lt (x := 50) (Nat.le_of_ble_eq_true rfl)).mp (ax_gx hE (50, [3, 7]) ax_m0)
  rw [c_kind] at F50
  have F98 : (ρ 2) / 4 = (ρ 1) / 4 + 1 := (ax_XF_lt (x := 98) (Nat.le_of_ble_eq_true rfl)).mp (ax_gx hE (98, [7, 11]) ax_m1)
  have F78 : pz7 (pz_gt (ρ 0)) (pz_gN (ρ 0)) ((ρ 2) / 4) 8 := (ax_XF_lt (x := 78) (Nat.le_of_ble_eq_true rfl)).mp (ax_gx hE (78, [3, 11]) ax_m2)
  have F79 : pz7 (pz_gt (ρ 0)) (pz_gN (ρ 0)) ((ρ 1) / 4) 9 := (ax_XF_lt (x := 79) (Nat.le_of_ble_eq_true rfl)).mp (ax_gx hE (79, [3, 7]) ax_m4)
  have F49 : py_48 1 (pz_gt (ρ 0)) (pz_gN (ρ 0)) ((ρ 1) / 4) (ρ 3) (ρ 4) := (ax_XF_lt (x := 49) (Nat.le_of_ble_eq_true rfl)).mp (ax_gx hE (49, [3, 7, 15, 19]) ax_m5)
  have kd : ρ 5 / 4 = pz_kd (pz_gt (ρ 0)) (pz_gN (ρ 0)) (pz_p (pz_cf (pz_gt (ρ 0)) (pz_gN (ρ 0)) (ρ 1 / 4))) := F50.2.2.1
  rw [F98] at F78
  obtain ⟨ρ', h1, h2⟩ := pz_pn1 (K := ρ 3 / 4 * 4096 + 1004) (xf := [(46, [3, 11, 27, 19]), (99, [27, 4016, 15]), (44, [27])]) hE (by decide) (fun ρ' h1 h2 x hx => by
    have q0 : ρ' 0 = ρ 0 := h1 0 (by decide)
    have q1 : ρ' 1 = ρ 1 := h1 1 (by decide)
    have q2 : ρ' 2 = ρ 2 := h1 2 (by decide)
    have q3 : ρ' 3 = ρ 3 := h1 3 (by decide)
    have q4 : ρ' 4 = ρ 4 := h1 4 (by decide)
    have q5 : ρ' 5 = ρ 5 := h1 5 (by decide)
    rcases List.mem_cons.mp hx with e | hx
    · subst e
      refine (ax_XF_lt (x := 46) (Nat.le_of_ble_eq_true rfl)).mpr ?_
      show py_46 (pz_gt (ρ' 0)) (pz_gN (ρ' 0)) ((ρ' 2) / 4) (ρ' 6) (ρ' 4)
      rw [q0, q2, q4, h2]
      rw [F98]
      exact pr_op (q := 45) (c := 4016) (by decide) F79 (by omega) rfl F78 (by decide) (by decide) F49 ⟨pz_41 _, F49.2.1, by decide⟩
    rcases List.mem_cons.mp hx with e | hx
    · subst e
      refine (ax_XF_lt (x := 99) (Nat.le_of_ble_eq_true rfl)).mpr ?_
      show py_99 (ρ' 6) (4016) (ρ' 3)
      rw [q3, h2]
      exact ⟨pz_41 _, F49.2.1, by decide⟩
    cases List.mem_singleton.mp hx
    refine (ax_XF_lt (x := 44) (Nat.le_of_ble_eq_true rfl)).mpr ?_
    show py_44 2 (ρ' 6)
    rw [h2]
    exact pr_44 (c := 4016) (s := ρ 3) ⟨pz_41 _, F49.2.1, by decide⟩ (by decide) (by decide))
  exact ⟨(fun y hy => by cases hy), _, List.mem_cons_self, ρ', h1, h2⟩

theorem axq_sq3c45_0 : ax_RO ax_wC ax_XC axu_sq3c45_0 := by
  intro ρ hp hE hT
  have j0 : ρ 0 % 4 = 1 := pz_gj hE 0 (Nat.le_of_ble_eq_true rfl) rfl
  have j1 : ρ 1 % 4 = 1 := pz_gj hE 1 (Nat.le_of_ble_eq_true rfl) rfl
  have j2 : ρ 2 % 4 = 1 := pz_gj hE 2 (Nat.le_of_ble_eq_true rfl) rfl
  have j3 : ρ 3 % 4 = 1 := pz_gj hE 3 (Nat.le_of_ble_eq_true rfl) rfl
  have j4 : ρ 4 % 4 = 1 := pz_gj hE 4 (Nat.le_of_ble_eq_true rfl) rfl
  have j5 : ρ 5 % 4 = 1 := pz_gj hE 5 (Nat.le_of_ble_eq_true rfl) rfl
  obtain ⟨i6a, i6b, i6c, i6d⟩ := pz_gi hE 6 2147483693 2147483693 (Nat.le_of_ble_eq_true rfl) rfl
  obtain ⟨-, -, -, -, F50⟩ : ay_ex hp 8 ∧ ay_ex hp 10 ∧ ay_ex hp 11 ∧ ay_ex hp 12 ∧ pz_x50 (ρ 0) (ρ 1) (ay_at hp 8 5) (ay_at hp 8 6) (ay_at hp 8 7) (ay_at hp 8 8) (ay_at hp 10 0) (ay_at hp 10 1) (ay_at hp 10 2) (ay_at hp 10 3) (ay_at hp 10 4) (ay_at hp 8 9) (ay_at hp 8 11) (ay_at hp 8 10) (ay_at hp 8 3) (ay_at hp 8 4) (ay_at hp 11) (ay_at hp 12) := (ax_XF_lt (x := 50) (Nat.le_of_ble_eq_true rfl)).mp (ax_gx hE (50, [3, 7]) ax_m0)
  have F48 : py_48 2 (pz_gt (ρ 0)) (pz_gN (ρ 0)) ((ρ 1) / 4) (ρ 3) (ρ 4) := (ax_XF_lt (x := 48) (Nat.le_of_ble_eq_true rfl)).mp (ax_gx hE (48, [3, 7, 15, 19]) ax_m1)
  have F99 : py_99 (ρ 3) (4016) (ρ 2) := (ax_XF_lt (x := 99) (Nat.le_of_ble_eq_true rfl)).mp (ax_gx hE (99, [15, 4016, 11]) ax_m2)
  have F45 : py_44 1 (ρ 2) := (ax_XF_lt (x := 45) (Nat.le_of_ble_eq_true rfl)).mp (ax_gx hE (45, [11]) ax_m3)
  obtain ⟨-, -, -, F41⟩ : ay_ex hp 10 ∧ ay_ex hp 15 ∧ ay_ex hp 16 ∧ py_x41 (ρ 5) (ay_at hp 10 5) (ay_at hp 15) (ay_at hp 16) := (ax_XF_lt (x := 41) (Nat.le_of_ble_eq_true rfl)).mp (ax_gx hE (41, [23]) ax_m4)
  have F99a : py_99 (ρ 5) (4016) (ρ 4) := (ax_XF_lt (x := 99) (Nat.le_of_ble_eq_true rfl)).mp (ax_gx hE (99, [23, 4016, 19]) ax_m5)
  refine ⟨(fun y hy => by cases hy), _, List.mem_cons_self, ρ, fun _ _ => rfl, ax_px hE rfl (fun y hy => ?_)⟩
  cases List.mem_singleton.mp hy
  refine (ax_XF_lt (x := 49) (Nat.le_of_ble_eq_true rfl)).mpr ?_
  show py_48 1 (pz_gt (ρ 0)) (pz_gN (ρ 0)) ((ρ 1) / 4) (ρ 2) (ρ 5)
  exact pr_sq3 F48 F99 (by decide) F45 F99a

theorem axq_sql_0 : ax_RO ax_wC ax_XC axu_sql_0 := by
  intro ρ hp hE hT
  have j0 : ρ 0 % 4 = 1 := pz_gj hE 0 (Nat.le_of_ble_eq_true rfl) rfl
  have j1 : ρ 1 % 4 = 1 := pz_gj hE 1 (Nat.le_of_ble_eq_true rfl) rfl
  have j2 : ρ 2 % 4 = 1 := pz_gj hE 2 (Nat.le_of_ble_eq_true rfl) rfl
  have j3 : ρ 3 % 4 = 1 := pz_gj hE 3 (Nat.le_of_ble_eq_true rfl) rfl
  obtain ⟨-, -, -, -, F50⟩ : ay_ex hp 8 ∧ ay_ex hp 10 ∧ ay_ex hp 11 ∧ ay_ex hp 12 ∧ pz_x50 (ρ 0) (ρ 1) (ay_at hp 8 5) (ay_at hp 8 6) (ay_at hp 8 7) (ay_at hp 8 8) (ay_at hp 10 0) (ay_at hp 10 1) (ay_at hp 10 2) (ay_at hp 10 3) (ay_at hp 10 4) (ay_at hp 8 9) (ay_at hp 8 11) (ay_at hp 8 10) (ay_at hp 8 3) (ay_at hp 8 4) (ay_at hp 11) (ay_at hp 12) := (ax_XF_lt (x := 50) (Nat.le_of_ble_eq_true rfl)).mp (ax_gx hE (50, [3, 7]) ax_m0)
  have F79 : pz7 (pz_gt (ρ 0)) (pz_gN (ρ 0)) ((ρ 1) / 4) 9 := (ax_XF_lt (x := 79) (Nat.le_of_ble_eq_true rfl)).mp (ax_gx hE (79, [3, 7]) ax_m1)
  have F48 : py_48 2 (pz_gt (ρ 0)) (pz_gN (ρ 0)) ((ρ 1) / 4) (ρ 2) (ρ 3) := (ax_XF_lt (x := 48) (Nat.le_of_ble_eq_true rfl)).mp (ax_gx hE (48, [3, 7, 11, 15]) ax_m2)
  refine ⟨(fun y hy => by cases hy), _, List.mem_cons_self, ρ, fun _ _ => rfl, ax_px hE rfl (fun y hy => ?_)⟩
  cases List.mem_singleton.mp hy
  refine (ax_XF_lt (x := 40) (Nat.le_of_ble_eq_true rfl)).mpr ?_
  show py_40 (ρ 3)
  exact pr_l48 F79 (by decide) F48

theorem axq_s45_0 : ax_RO ax_wC ax_XC axu_s45_0 := by
  intro ρ hp hE hT
  have j0 : ρ 0 % 4 = 1 := pz_gj hE 0 (Nat.le_of_ble_eq_true rfl) rfl
  have F45 : py_44 1 (ρ 0) := (ax_XF_lt (x := 45) (Nat.le_of_ble_eq_true rfl)).mp (ax_gx hE (45, [3]) ax_m0)
  refine ⟨(fun y hy => by cases hy), _, List.mem_cons_self, ρ, fun _ _ => rfl, ax_px hE rfl (fun y hy => ?_)⟩
  cases List.mem_singleton.mp hy
  refine (ax_XF_lt (x := 44) (Nat.le_of_ble_eq_true rfl)).mpr ?_
  show py_44 2 (ρ 0)
  exact pr_45 F45

theorem axq_sq1_1 : ax_RO ax_wC ax_XC axu_sq1_1 := by
  intro ρ hp hE hT
  have j0 : ρ 0 % 4 = 1 := pz_gj hE 0 (Nat.le_of_ble_eq_true rfl) rfl
  have j1 : ρ 1 % 4 = 1 := pz_gj hE 1 (Nat.le_of_ble_eq_true rfl) rfl
  have j2 : ρ 2 % 4 = 1 := pz_gj hE 2 (Nat.le_of_ble_eq_true rfl) rfl
  have j3 : ρ 3 % 4 = 1 := pz_gj hE 3 (Nat.le_of_ble_eq_true rfl) rfl
  obtain ⟨-, -, -, -, F50⟩ : ay_ex hp 8 ∧ ay_ex hp 10 ∧ ay_ex hp 11 ∧ ay_ex hp 12 ∧ pz_x50 (ρ 0) (ρ 1) (ay_at hp 8 5) (ay_at hp 8 6) (ay_at hp 8 7) (ay_at hp 8 8) (ay_at hp 10 0) (ay_at hp 10 1) (ay_at hp 10 2) (ay_at hp 10 3) (ay_at hp 10 4) (ay_at hp 8 9) (ay_at hp 8 11) (ay_at hp 8 10) (ay_at hp 8 3) (ay_at hp 8 4) (ay_at hp 11) (ay_at hp 12) := (ax_XF_lt (x := 50) (Nat.le_of_ble_eq_true rfl)).mp (ax_gx hE (50, [3, 7]) ax_m0)
  have F48 : py_48 2 (pz_gt (ρ 0)) (pz_gN (ρ 0)) ((ρ 1) / 4) (ρ 2) (ρ 3) := (ax_XF_lt (x := 48) (Nat.le_of_ble_eq_true rfl)).mp (ax_gx hE (48, [3, 7, 11, 15]) ax_m1)
  have F45 : py_44 1 (ρ 2) := (ax_XF_lt (x := 45) (Nat.le_of_ble_eq_true rfl)).mp (ax_gx hE (45, [11]) ax_m2)
  refine ⟨(fun y hy => by cases hy), _, List.mem_cons_self, ρ, fun _ _ => rfl, ax_px hE rfl (fun y hy => ?_)⟩
  cases List.mem_singleton.mp hy
  refine (ax_XF_lt (x := 49) (Nat.le_of_ble_eq_true rfl)).mpr ?_
  show py_48 1 (pz_gt (ρ 0)) (pz_gN (ρ 0)) ((ρ 1) / 4) (ρ 2) (ρ 3)
  exact pr_sq1 F48 F45

theorem axq_sq2c43_1 : ax_RO ax_wC ax_XC axu_sq2c43_1 := by
  intro ρ hp hE hT
  have j0 : ρ 0 % 4 = 1 := pz_gj hE 0 (Nat.le_of_ble_eq_true rfl) rfl
  have j1 : ρ 1 % 4 = 1 := pz_gj hE 1 (Nat.le_of_ble_eq_true rfl) rfl
  have j2 : ρ 2 % 4 = 1 := pz_gj hE 2 (Nat.le_of_ble_eq_true rfl) rfl
  have j3 : ρ 3 % 4 = 1 := pz_gj hE 3 (Nat.le_of_ble_eq_true rfl) rfl
  have j4 : ρ 4 % 4 = 1 := pz_gj hE 4 (Nat.le_of_ble_eq_true rfl) rfl
  obtain ⟨i5a, i5b, i5c, i5d⟩ := pz_gi hE 5 2147483691 2147483691 (Nat.le_of_ble_eq_true rfl) rfl
  have c_kind : ay_at hp 8 7 = some (ρ 5) := ay_gfj hE 42 28 23 8 7 ax_m3 (ax_vlq rfl rfl) (ax_vlj rfl rfl)
  obtain ⟨-, -, -, -, F50⟩ : ay_ex hp 8 ∧ ay_ex hp 10 ∧ ay_ex hp 11 ∧ ay_ex hp 12 ∧ pz_x50 (ρ 0) (ρ 1) (ay_at hp 8 5) (ay_at hp 8 6) (ay_at hp 8 7) (ay_at hp 8 8) (ay_at hp 10 0) (ay_at hp 10 1) (ay_at hp 10 2) (ay_at hp 10 3) (ay_at hp 10 4) (ay_at hp 8 9) (ay_at hp 8 11) (ay_at hp 8 10) (ay_at hp 8 3) (ay_at hp 8 4) (ay_at hp 11) (ay_at hp 12) := (ax_XF_lt (x := 50) (Nat.le_of_ble_eq_true rfl)).mp (ax_gx hE (50, [3, 7]) ax_m0)
  rw [c_kind] at F50
  have F98 : (ρ 2) / 4 = (ρ 1) / 4 + 1 := (ax_XF_lt (x := 98) (Nat.le_of_ble_eq_true rfl)).mp (ax_gx hE (98, [7, 11]) ax_m1)
  have F78 : pz7 (pz_gt (ρ 0)) (pz_gN (ρ 0)) ((ρ 2) / 4) 8 := (ax_XF_lt (x := 78) (Nat.le_of_ble_eq_true rfl)).mp (ax_gx hE (78, [3, 11]) ax_m2)
  have F79 : pz7 (pz_gt (ρ 0)) (pz_gN (ρ 0)) ((ρ 1) / 4) 9 := (ax_XF_lt (x := 79) (Nat.le_of_ble_eq_true rfl)).mp (ax_gx hE (79, [3, 7]) ax_m4)
  have F49 : py_48 1 (pz_gt (ρ 0)) (pz_gN (ρ 0)) ((ρ 1) / 4) (ρ 3) (ρ 4) := (ax_XF_lt (x := 49) (Nat.le_of_ble_eq_true rfl)).mp (ax_gx hE (49, [3, 7, 15, 19]) ax_m5)
  have kd : ρ 5 / 4 = pz_kd (pz_gt (ρ 0)) (pz_gN (ρ 0)) (pz_p (pz_cf (pz_gt (ρ 0)) (pz_gN (ρ 0)) (ρ 1 / 4))) := F50.2.2.1
  rw [F98] at F78
  obtain ⟨ρ', h1, h2⟩ := pz_pn1 (K := ρ 3 / 4 * 4096 + 1003) (xf := [(46, [3, 11, 27, 19]), (99, [27, 4012, 15]), (44, [27])]) hE (by decide) (fun ρ' h1 h2 x hx => by
    have q0 : ρ' 0 = ρ 0 := h1 0 (by decide)
    have q1 : ρ' 1 = ρ 1 := h1 1 (by decide)
    have q2 : ρ' 2 = ρ 2 := h1 2 (by decide)
    have q3 : ρ' 3 = ρ 3 := h1 3 (by decide)
    have q4 : ρ' 4 = ρ 4 := h1 4 (by decide)
    have q5 : ρ' 5 = ρ 5 := h1 5 (by decide)
    rcases List.mem_cons.mp hx with e | hx
    · subst e
      refine (ax_XF_lt (x := 46) (Nat.le_of_ble_eq_true rfl)).mpr ?_
      show py_46 (pz_gt (ρ' 0)) (pz_gN (ρ' 0)) ((ρ' 2) / 4) (ρ' 6) (ρ' 4)
      rw [q0, q2, q4, h2]
      rw [F98]
      exact pr_op (q := 43) (c := 4012) (by decide) F79 (by omega) rfl F78 (by decide) (by decide) F49 ⟨pz_41 _, F49.2.1, by decide⟩
    rcases List.mem_cons.mp hx with e | hx
    · subst e
      refine (ax_XF_lt (x := 99) (Nat.le_of_ble_eq_true rfl)).mpr ?_
      show py_99 (ρ' 6) (4012) (ρ' 3)
      rw [q3, h2]
      exact ⟨pz_41 _, F49.2.1, by decide⟩
    cases List.mem_singleton.mp hx
    refine (ax_XF_lt (x := 44) (Nat.le_of_ble_eq_true rfl)).mpr ?_
    show py_44 2 (ρ' 6)
    rw [h2]
    exact pr_44 (c := 4012) (s := ρ 3) ⟨pz_41 _, F49.2.1, by decide⟩ (by decide) (by decide))
  exact ⟨(fun y hy => by cases hy), _, List.mem_cons_self, ρ', h1, h2⟩

theorem axq_sq3c43_1 : ax_RO ax_wC ax_XC axu_sq3c43_1 := by
  intro ρ hp hE hT
  have j0 : ρ 0 % 4 = 1 := pz_gj hE 0 (Nat.le_of_ble_eq_true rfl) rfl
  have j1 : ρ 1 % 4 = 1 := pz_gj hE 1 (Nat.le_of_ble_eq_true rfl) rfl
  have j2 : ρ 2 % 4 = 1 := pz_gj hE 2 (Nat.le_of_ble_eq_true rfl) rfl
  have j3 : ρ 3 % 4 = 1 := pz_gj hE 3 (Nat.le_of_ble_eq_true rfl) rfl
  have j4 : ρ 4 % 4 = 1 := pz_gj hE 4 (Nat.le_of_ble_eq_true rfl) rfl
  have j5 : ρ 5 % 4 = 1 := pz_gj hE 5 (Nat.le_of_ble_eq_true rfl) rfl
  obtain ⟨i6a, i6b, i6c, i6d⟩ := pz_gi hE 6 2147483691 2147483691 (Nat.le_of_ble_eq_true rfl) rfl
  obtain ⟨-, -, -, -, F50⟩ : ay_ex hp 8 ∧ ay_ex hp 10 ∧ ay_ex hp 11 ∧ ay_ex hp 12 ∧ pz_x50 (ρ 0) (ρ 1) (ay_at hp 8 5) (ay_at hp 8 6) (ay_at hp 8 7) (ay_at hp 8 8) (ay_at hp 10 0) (ay_at hp 10 1) (ay_at hp 10 2) (ay_at hp 10 3) (ay_at hp 10 4) (ay_at hp 8 9) (ay_at hp 8 11) (ay_at hp 8 10) (ay_at hp 8 3) (ay_at hp 8 4) (ay_at hp 11) (ay_at hp 12) := (ax_XF_lt (x := 50) (Nat.le_of_ble_eq_true rfl)).mp (ax_gx hE (50, [3, 7]) ax_m0)
  have F48 : py_48 2 (pz_gt (ρ 0)) (pz_gN (ρ 0)) ((ρ 1) / 4) (ρ 3) (ρ 4) := (ax_XF_lt (x := 48) (Nat.le_of_ble_eq_true rfl)).mp (ax_gx hE (48, [3, 7, 15, 19]) ax_m1)
  have F99 : py_99 (ρ 3) (4012) (ρ 2) := (ax_XF_lt (x := 99) (Nat.le_of_ble_eq_true rfl)).mp (ax_gx hE (99, [15, 4012, 11]) ax_m2)
  have F45 : py_44 1 (ρ 2) := (ax_XF_lt (x := 45) (Nat.le_of_ble_eq_true rfl)).mp (ax_gx hE (45, [11]) ax_m3)
  obtain ⟨-, -, -, F41⟩ : ay_ex hp 10 ∧ ay_ex hp 15 ∧ ay_ex hp 16 ∧ py_x41 (ρ 5) (ay_at hp 10 5) (ay_at hp 15) (ay_at hp 16) := (ax_XF_lt (x := 41) (Nat.le_of_ble_eq_true rfl)).mp (ax_gx hE (41, [23]) ax_m4)
  have F99a : py_99 (ρ 5) (4012) (ρ 4) := (ax_XF_lt (x := 99) (Nat.le_of_ble_eq_true rfl)).mp (ax_gx hE (99, [23, 4012, 19]) ax_m5)
  refine ⟨(fun y hy => by cases hy), _, List.mem_cons_self, ρ, fun _ _ => rfl, ax_px hE rfl (fun y hy => ?_)⟩
  cases List.mem_singleton.mp hy
  refine (ax_XF_lt (x := 49) (Nat.le_of_ble_eq_true rfl)).mpr ?_
  show py_48 1 (pz_gt (ρ 0)) (pz_gN (ρ 0)) ((ρ 1) / 4) (ρ 2) (ρ 5)
  exact pr_sq3 F48 F99 (by decide) F45 F99a

theorem axq_sq2c45_1 : ax_RO ax_wC ax_XC axu_sq2c45_1 := by
  intro ρ hp hE hT
  have j0 : ρ 0 % 4 = 1 := pz_gj hE 0 (Nat.le_of_ble_eq_true rfl) rfl
  have j1 : ρ 1 % 4 = 1 := pz_gj hE 1 (Nat.le_of_ble_eq_true rfl) rfl
  have j2 : ρ 2 % 4 = 1 := pz_gj hE 2 (Nat.le_of_ble_eq_true rfl) rfl
  have j3 : ρ 3 % 4 = 1 := pz_gj hE 3 (Nat.le_of_ble_eq_true rfl) rfl
  have j4 : ρ 4 % 4 = 1 := pz_gj hE 4 (Nat.le_of_ble_eq_true rfl) rfl
  obtain ⟨i5a, i5b, i5c, i5d⟩ := pz_gi hE 5 2147483693 2147483693 (Nat.le_of_ble_eq_true rfl) rfl
  have c_kind : ay_at hp 8 7 = some (ρ 5) := ay_gfj hE 42 28 23 8 7 ax_m3 (ax_vlq rfl rfl) (ax_vlj rfl rfl)
  obtain ⟨-, -, -, -, F50⟩ : ay_ex hp 8 ∧ ay_ex hp 10 ∧ ay_ex hp 11 ∧ ay_ex hp 12 ∧ pz_x50 (ρ 0) (ρ 1) (ay_at hp 8 5) (ay_at hp 8 6) (ay_at hp 8 7) (ay_at hp 8 8) (ay_at hp 10 0) (ay_at hp 10 1) (ay_at hp 10 2) (ay_at hp 10 3) (ay_at hp 10 4) (ay_at hp 8 9) (ay_at hp 8 11) (ay_at hp 8 10) (ay_at hp 8 3) (ay_at hp 8 4) (ay_at hp 11) (ay_at hp 12) := (ax_XF_lt (x := 50) (Nat.le_of_ble_eq_true rfl)).mp (ax_gx hE (50, [3, 7]) ax_m0)
  rw [c_kind] at F50
  have F98 : (ρ 2) / 4 = (ρ 1) / 4 + 1 := (ax_XF_lt (x := 98) (Nat.le_of_ble_eq_true rfl)).mp (ax_gx hE (98, [7, 11]) ax_m1)
  have F78 : pz7 (pz_gt (ρ 0)) (pz_gN (ρ 0)) ((ρ 2) / 4) 8 := (ax_XF_lt (x := 78) (Nat.le_of_ble_eq_true rfl)).mp (ax_gx hE (78, [3, 11]) ax_m2)
  have F79 : pz7 (pz_gt (ρ 0)) (pz_gN (ρ 0)) ((ρ 1) / 4) 9 := (ax_XF_lt (x := 79) (Nat.le_of_ble_eq_true rfl)).mp (ax_gx hE (79, [3, 7]) ax_m4)
  have F49 : py_48 1 (pz_gt (ρ 0)) (pz_gN (ρ 0)) ((ρ 1) / 4) (ρ 3) (ρ 4) := (ax_XF_lt (x := 49) (Nat.le_of_ble_eq_true rfl)).mp (ax_gx hE (49, [3, 7, 15, 19]) ax_m5)
  have kd : ρ 5 / 4 = pz_kd (pz_gt (ρ 0)) (pz_gN (ρ 0)) (pz_p (pz_cf (pz_gt (ρ 0)) (pz_gN (ρ 0)) (ρ 1 / 4))) := F50.2.2.1
  rw [F98] at F78
  obtain ⟨ρ', h1, h2⟩ := pz_pn1 (K := ρ 3 / 4 * 4096 + 1004) (xf := [(46, [3, 11, 27, 19]), (99, [27, 4016, 15]), (44, [27])]) hE (by decide) (fun ρ' h1 h2 x hx => by
    have q0 : ρ' 0 = ρ 0 := h1 0 (by decide)
    have q1 : ρ' 1 = ρ 1 := h1 1 (by decide)
    have q2 : ρ' 2 = ρ 2 := h1 2 (by decide)
    have q3 : ρ' 3 = ρ 3 := h1 3 (by decide)
    have q4 : ρ' 4 = ρ 4 := h1 4 (by decide)
    have q5 : ρ' 5 = ρ 5 := h1 5 (by decide)
    rcases List.mem_cons.mp hx with e | hx
    · subst e
      refine (ax_XF_lt (x := 46) (Nat.le_of_ble_eq_true rfl)).mpr ?_
      show py_46 (pz_gt (ρ' 0)) (pz_gN (ρ' 0)) ((ρ' 2) / 4) (ρ' 6) (ρ' 4)
      rw [q0, q2, q4, h2]
      rw [F98]
      exact pr_op (q := 45) (c := 4016) (by decide) F79 (by omega) rfl F78 (by decide) (by decide) F49 ⟨pz_41 _, F49.2.1, by decide⟩
    rcases List.mem_cons.mp hx with e | hx
    · subst e
      refine (ax_XF_lt (x := 99) (Nat.le_of_ble_eq_true rfl)).mpr ?_
      show py_99 (ρ' 6) (4016) (ρ' 3)
      rw [q3, h2]
      exact ⟨pz_41 _, F49.2.1, by decide⟩
    cases List.mem_singleton.mp hx
    refine (ax_XF_lt (x := 44) (Nat.le_of_ble_eq_true rfl)).mpr ?_
    show py_44 2 (ρ' 6)
    rw [h2]
    exact pr_44 (c := 4016) (s := ρ 3) ⟨pz_41 _, F49.2.1, by decide⟩ (by decide) (by decide))
  exact ⟨(fun y hy => by cases hy), _, List.mem_cons_self, ρ', h1, h2⟩

theorem axq_sq3c45_1 : ax_RO ax_wC ax_XC axu_sq3c45_1 := by
  intro ρ hp hE hT
  have j0 : ρ 0 % 4 = 1 := pz_gj hE 0 (Nat.le_of_ble_eq_true rfl) rfl
  have j1 : ρ 1 % 4 = 1 := pz_gj hE 1 (Nat.le_of_ble_eq_true rfl) rfl
  have j2 : ρ 2 % 4 = 1 := pz_gj hE 2 (Nat.le_of_ble_eq_true rfl) rfl
  have j3 : ρ 3 % 4 = 1 := pz_gj hE 3 (Nat.le_of_ble_eq_true rfl) rfl
  have j4 : ρ 4 % 4 = 1 := pz_gj hE 4 (Nat.le_of_ble_eq_true rfl) rfl
  have j5 : ρ 5 % 4 = 1 := pz_gj hE 5 (Nat.le_of_ble_eq_true rfl) rfl
  obtain ⟨i6a, i6b, i6c, i6d⟩ := pz_gi hE 6 2147483693 2147483693 (Nat.le_of_ble_eq_true rfl) rfl
  obtain ⟨-, -, -, -, F50⟩ : ay_ex hp 8 ∧ ay_ex hp 10 ∧ ay_ex hp 11 ∧ ay_ex hp 12 ∧ pz_x50 (ρ 0) (ρ 1) (ay_at hp 8 5) (ay_at hp 8 6) (ay_at hp 8 7) (ay_at hp 8 8) (ay_at hp 10 0) (ay_at hp 10 1) (ay_at hp 10 2) (ay_at hp 10 3) (ay_at hp 10 4) (ay_at hp 8 9) (ay_at hp 8 11) (ay_at hp 8 10) (ay_at hp 8 3) (ay_at hp 8 4) (ay_at hp 11) (ay_at hp 12) := (ax_XF_lt (x := 50) (Nat.le_of_ble_eq_true rfl)).mp (ax_gx hE (50, [3, 7]) ax_m0)
  have F48 : py_48 2 (pz_gt (ρ 0)) (pz_gN (ρ 0)) ((ρ 1) / 4) (ρ 3) (ρ 4) := (ax_XF_lt (x := 48) (Nat.le_of_ble_eq_true rfl)).mp (ax_gx hE (48, [3, 7, 15, 19]) ax_m1)
  have F99 : py_99 (ρ 3) (4016) (ρ 2) := (ax_XF_lt (x := 99) (Nat.le_of_ble_eq_true rfl)).mp (ax_gx hE (99, [15, 4016, 11]) ax_m2)
  have F45 : py_44 1 (ρ 2) := (ax_XF_lt (x := 45) (Nat.le_of_ble_eq_true rfl)).mp (ax_gx hE (45, [11]) ax_m3)
  obtain ⟨-, -, -, F41⟩ : ay_ex hp 10 ∧ ay_ex hp 15 ∧ ay_ex hp 16 ∧ py_x41 (ρ 5) (ay_at hp 10 5) (ay_at hp 15) (ay_at hp 16) := (ax_XF_lt (x := 41) (Nat.le_of_ble_eq_true rfl)).mp (ax_gx hE (41, [23]) ax_m4)
  have F99a : py_99 (ρ 5) (4016) (ρ 4) := (ax_XF_lt (x := 99) (Nat.le_of_ble_eq_true rfl)).mp (ax_gx hE (99, [23, 4016, 19]) ax_m5)
  refine ⟨(fun y hy => by cases hy), _, List.mem_cons_self, ρ, fun _ _ => rfl, ax_px hE rfl (fun y hy => ?_)⟩
  cases List.mem_singleton.mp hy
  refine (ax_XF_lt (x := 49) (Nat.le_of_ble_eq_true rfl)).mpr ?_
  show py_48 1 (pz_gt (ρ 0)) (pz_gN (ρ 0)) ((ρ 1) / 4) (ρ 2) (ρ 5)
  exact pr_sq3 F48 F99 (by decide) F45 F99a

theorem axq_sql_1 : ax_RO ax_wC ax_XC axu_sql_1 := by
  intro ρ hp hE hT
  have j0 : ρ 0 % 4 = 1 := pz_gj hE 0 (Nat.le_of_ble_eq_true rfl) rfl
  have j1 : ρ 1 % 4 = 1 := pz_gj hE 1 (Nat.le_of_ble_eq_true rfl) rfl
  have j2 : ρ 2 % 4 = 1 := pz_gj hE 2 (Nat.le_of_ble_eq_true rfl) rfl
  have j3 : ρ 3 % 4 = 1 := pz_gj hE 3 (Nat.le_of_ble_eq_true rfl) rfl
  obtain ⟨-, -, -, -, F50⟩ : ay_ex hp 8 ∧ ay_ex hp 10 ∧ ay_ex hp 11 ∧ ay_ex hp 12 ∧ pz_x50 (ρ 0) (ρ 1) (ay_at hp 8 5) (ay_at hp 8 6) (ay_at hp 8 7) (ay_at hp 8 8) (ay_at hp 10 0) (ay_at hp 10 1) (ay_at hp 10 2) (ay_at hp 10 3) (ay_at hp 10 4) (ay_at hp 8 9) (ay_at hp 8 11) (ay_at hp 8 10) (ay_at hp 8 3) (ay_at hp 8 4) (ay_at hp 11) (ay_at hp 12) := (ax_XF_lt (x := 50) (Nat.le_of_ble_eq_true rfl)).mp (ax_gx hE (50, [3, 7]) ax_m0)
  have F79 : pz7 (pz_gt (ρ 0)) (pz_gN (ρ 0)) ((ρ 1) / 4) 9 := (ax_XF_lt (x := 79) (Nat.le_of_ble_eq_true rfl)).mp (ax_gx hE (79, [3, 7]) ax_m1)
  have F48 : py_48 2 (pz_gt (ρ 0)) (pz_gN (ρ 0)) ((ρ 1) / 4) (ρ 2) (ρ 3) := (ax_XF_lt (x := 48) (Nat.le_of_ble_eq_true rfl)).mp (ax_gx hE (48, [3, 7, 11, 15]) ax_m2)
  refine ⟨(fun y hy => by cases hy), _, List.mem_cons_self, ρ, fun _ _ => rfl, ax_px hE rfl (fun y hy => ?_)⟩
  cases List.mem_singleton.mp hy
  refine (ax_XF_lt (x := 40) (Nat.le_of_ble_eq_true rfl)).mpr ?_
  show py_40 (ρ 3)
  exact pr_l48 F79 (by decide) F48

theorem axq_s45_1 : ax_RO ax_wC ax_XC axu_s45_1 := by
  intro ρ hp hE hT
  have j0 : ρ 0 % 4 = 1 := pz_gj hE 0 (Nat.le_of_ble_eq_true rfl) rfl
  have F45 : py_44 1 (ρ 0) := (ax_XF_lt (x := 45) (Nat.le_of_ble_eq_true rfl)).mp (ax_gx hE (45, [3]) ax_m0)
  refine ⟨(fun y hy => by cases hy), _, List.mem_cons_self, ρ, fun _ _ => rfl, ax_px hE rfl (fun y hy => ?_)⟩
  cases List.mem_singleton.mp hy
  refine (ax_XF_lt (x := 44) (Nat.le_of_ble_eq_true rfl)).mpr ?_
  show py_44 2 (ρ 0)
  exact pr_45 F45

theorem axq_sq1_2 : ax_RO ax_wC ax_XC axu_sq1_2 := by
  intro ρ hp hE hT
  have j0 : ρ 0 % 4 = 1 := pz_gj hE 0 (Nat.le_of_ble_eq_true rfl) rfl
  have j1 : ρ 1 % 4 = 1 := pz_gj hE 1 (Nat.le_of_ble_eq_true rfl) rfl
  have j2 : ρ 2 % 4 = 1 := pz_gj hE 2 (Nat.le_of_ble_eq_true rfl) rfl
  have j3 : ρ 3 % 4 = 1 := pz_gj hE 3 (Nat.le_of_ble_eq_true rfl) rfl
  obtain ⟨-, -, -, -, F50⟩ : ay_ex hp 8 ∧ ay_ex hp 10 ∧ ay_ex hp 11 ∧ ay_ex hp 12 ∧ pz_x50 (ρ 0) (ρ 1) (ay_at hp 8 5) (ay_at hp 8 6) (ay_at hp 8 7) (ay_at hp 8 8) (ay_at hp 10 0) (ay_at hp 10 1) (ay_at hp 10 2) (ay_at hp 10 3) (ay_at hp 10 4) (ay_at hp 8 9) (ay_at hp 8 11) (ay_at hp 8 10) (ay_at hp 8 3) (ay_at hp 8 4) (ay_at hp 11) (ay_at hp 12) := (ax_XF_lt (x := 50) (Nat.le_of_ble_eq_true rfl)).mp (ax_gx hE (50, [3, 7]) ax_m0)
  have F48 : py_48 2 (pz_gt (ρ 0)) (pz_gN (ρ 0)) ((ρ 1) / 4) (ρ 2) (ρ 3) := (ax_XF_lt (x := 48) (Nat.le_of_ble_eq_true rfl)).mp (ax_gx hE (48, [3, 7, 11, 15]) ax_m1)
  have F45 : py_44 1 (ρ 2) := (ax_XF_lt (x := 45) (Nat.le_of_ble_eq_true rfl)).mp (ax_gx hE (45, [11]) ax_m2)
  refine ⟨(fun y hy => by cases hy), _, List.mem_cons_self, ρ, fun _ _ => rfl, ax_px hE rfl (fun y hy => ?_)⟩
  cases List.mem_singleton.mp hy
  refine (ax_XF_lt (x := 49) (Nat.le_of_ble_eq_true rfl)).mpr ?_
  show py_48 1 (pz_gt (ρ 0)) (pz_gN (ρ 0)) ((ρ 1) / 4) (ρ 2) (ρ 3)
  exact pr_sq1 F48 F45

theorem axq_sq2c43_2 : ax_RO ax_wC ax_XC axu_sq2c43_2 := by
  intro ρ hp hE hT
  have j0 : ρ 0 % 4 = 1 := pz_gj hE 0 (Nat.le_of_ble_eq_true rfl) rfl
  have j1 : ρ 1 % 4 = 1 := pz_gj hE 1 (Nat.le_of_ble_eq_true rfl) rfl
  have j2 : ρ 2 % 4 = 1 := pz_gj hE 2 (Nat.le_of_ble_eq_true rfl) rfl
  have j3 : ρ 3 % 4 = 1 := pz_gj hE 3 (Nat.le_of_ble_eq_true rfl) rfl
  have j4 : ρ 4 % 4 = 1 := pz_gj hE 4 (Nat.le_of_ble_eq_true rfl) rfl
  obtain ⟨i5a, i5b, i5c, i5d⟩ := pz_gi hE 5 2147483691 2147483691 (Nat.le_of_ble_eq_true rfl) rfl
  have c_kind : ay_at hp 8 7 = some (ρ 5) := ay_gfj hE 42 28 23 8 7 ax_m3 (ax_vlq rfl rfl) (ax_vlj rfl rfl)
  obtain ⟨-, -, -, -, F50⟩ : ay_ex hp 8 ∧ ay_ex hp 10 ∧ ay_ex hp 11 ∧ ay_ex hp 12 ∧ pz_x50 (ρ 0) (ρ 1) (ay_at hp 8 5) (ay_at hp 8 6) (ay_at hp 8 7) (ay_at hp 8 8) (ay_at hp 10 0) (ay_at hp 10 1) (ay_at hp 10 2) (ay_at hp 10 3) (ay_at hp 10 4) (ay_at hp 8 9) (ay_at hp 8 11) (ay_at hp 8 10) (ay_at hp 8 3) (ay_at hp 8 4) (ay_at hp 11) (ay_at hp 12) := (ax_XF_lt (x := 50) (Nat.le_of_ble_eq_true rfl)).mp (ax_gx hE (50, [3, 7]) ax_m0)
  rw [c_kind] at F50
  have F98 : (ρ 2) / 4 = (ρ 1) / 4 + 1 := (ax_XF_lt (x := 98) (Nat.le_of_ble_eq_true rfl)).mp (ax_gx hE (98, [7, 11]) ax_m1)
  have F78 : pz7 (pz_gt (ρ 0)) (pz_gN (ρ 0)) ((ρ 2) / 4) 8 := (ax_XF_lt (x := 78) (Nat.le_of_ble_eq_true rfl)).mp (ax_gx hE (78, [3, 11]) ax_m2)
  have F79 : pz7 (pz_gt (ρ 0)) (pz_gN (ρ 0)) ((ρ 1) / 4) 9 := (ax_XF_lt (x := 79) (Nat.le_of_ble_eq_true rfl)).mp (ax_gx hE (79, [3, 7]) ax_m4)
  have F49 : py_48 1 (pz_gt (ρ 0)) (pz_gN (ρ 0)) ((ρ 1) / 4) (ρ 3) (ρ 4) := (ax_XF_lt (x := 49) (Nat.le_of_ble_eq_true rfl)).mp (ax_gx hE (49, [3, 7, 15, 19]) ax_m5)
  have kd : ρ 5 / 4 = pz_kd (pz_gt (ρ 0)) (pz_gN (ρ 0)) (pz_p (pz_cf (pz_gt (ρ 0)) (pz_gN (ρ 0)) (ρ 1 / 4))) := F50.2.2.1
  rw [F98] at F78
  obtain ⟨ρ', h1, h2⟩ := pz_pn1 (K := ρ 3 / 4 * 4096 + 1003) (xf := [(46, [3, 11, 27, 19]), (99, [27, 4012, 15]), (44, [27])]) hE (by decide) (fun ρ' h1 h2 x hx => by
    have q0 : ρ' 0 = ρ 0 := h1 0 (by decide)
    have q1 : ρ' 1 = ρ 1 := h1 1 (by decide)
    have q2 : ρ' 2 = ρ 2 := h1 2 (by decide)
    have q3 : ρ' 3 = ρ 3 := h1 3 (by decide)
    have q4 : ρ' 4 = ρ 4 := h1 4 (by decide)
    have q5 : ρ' 5 = ρ 5 := h1 5 (by decide)
    rcases List.mem_cons.mp hx with e | hx
    · subst e
      refine (ax_XF_lt (x := 46) (Nat.le_of_ble_eq_true rfl)).mpr ?_
      show py_46 (pz_gt (ρ' 0)) (pz_gN (ρ' 0)) ((ρ' 2) / 4) (ρ' 6) (ρ' 4)
      rw [q0, q2, q4, h2]
      rw [F98]
      exact pr_op (q := 43) (c := 4012) (by decide) F79 (by omega) rfl F78 (by decide) (by decide) F49 ⟨pz_41 _, F49.2.1, by decide⟩
    rcases List.mem_cons.mp hx with e | hx
    · subst e
      refine (ax_XF_lt (x := 99) (Nat.le_of_ble_eq_true rfl)).mpr ?_
      show py_99 (ρ' 6) (4012) (ρ' 3)
      rw [q3, h2]
      exact ⟨pz_41 _, F49.2.1, by decide⟩
    cases List.mem_singleton.mp hx
    refine (ax_XF_lt (x := 44) (Nat.le_of_ble_eq_true rfl)).mpr ?_
    show py_44 2 (ρ' 6)
    rw [h2]
    exact pr_44 (c := 4012) (s := ρ 3) ⟨pz_41 _, F49.2.1, by decide⟩ (by decide) (by decide))
  exact ⟨(fun y hy => by cases hy), _, List.mem_cons_self, ρ', h1, h2⟩

theorem axq_sq3c43_2 : ax_RO ax_wC ax_XC axu_sq3c43_2 := by
  intro ρ hp hE hT
  have j0 : ρ 0 % 4 = 1 := pz_gj hE 0 (Nat.le_of_ble_eq_true rfl) rfl
  have j1 : ρ 1 % 4 = 1 := pz_gj hE 1 (Nat.le_of_ble_eq_true rfl) rfl
  have j2 : ρ 2 % 4 = 1 := pz_gj hE 2 (Nat.le_of_ble_eq_true rfl) rfl
  have j3 : ρ 3 % 4 = 1 := pz_gj hE 3 (Nat.le_of_ble_eq_true rfl) rfl
  have j4 : ρ 4 % 4 = 1 := pz_gj hE 4 (Nat.le_of_ble_eq_true rfl) rfl
  have j5 : ρ 5 % 4 = 1 := pz_gj hE 5 (Nat.le_of_ble_eq_true rfl) rfl
  obtain ⟨i6a, i6b, i6c, i6d⟩ := pz_gi hE 6 2147483691 2147483691 (Nat.le_of_ble_eq_true rfl) rfl
  obtain ⟨-, -, -, -, F50⟩ : ay_ex hp 8 ∧ ay_ex hp 10 ∧ ay_ex hp 11 ∧ ay_ex hp 12 ∧ pz_x50 (ρ 0) (ρ 1) (ay_at hp 8 5) (ay_at hp 8 6) (ay_at hp 8 7) (ay_at hp 8 8) (ay_at hp 10 0) (ay_at hp 10 1) (ay_at hp 10 2) (ay_at hp 10 3) (ay_at hp 10 4) (ay_at hp 8 9) (ay_at hp 8 11) (ay_at hp 8 10) (ay_at hp 8 3) (ay_at hp 8 4) (ay_at hp 11) (ay_at hp 12) := (ax_XF_lt (x := 50) (Nat.le_of_ble_eq_true rfl)).mp (ax_gx hE (50, [3, 7]) ax_m0)
  have F48 : py_48 2 (pz_gt (ρ 0)) (pz_gN (ρ 0)) ((ρ 1) / 4) (ρ 3) (ρ 4) := (ax_XF_lt (x := 48) (Nat.le_of_ble_eq_true rfl)).mp (ax_gx hE (48, [3, 7, 15, 19]) ax_m1)
  have F99 : py_99 (ρ 3) (4012) (ρ 2) := (ax_XF_lt (x := 99) (Nat.le_of_ble_eq_true rfl)).mp (ax_gx hE (99, [15, 4012, 11]) ax_m2)
  have F45 : py_44 1 (ρ 2) := (ax_XF_lt (x := 45) (Nat.le_of_ble_eq_true rfl)).mp (ax_gx hE (45, [11]) ax_m3)
  obtain ⟨-, -, -, F41⟩ : ay_ex hp 10 ∧ ay_ex hp 15 ∧ ay_ex hp 16 ∧ py_x41 (ρ 5) (ay_at hp 10 5) (ay_at hp 15) (ay_at hp 16) := (ax_XF_lt (x := 41) (Nat.le_of_ble_eq_true rfl)).mp (ax_gx hE (41, [23]) ax_m4)
  have F99a : py_99 (ρ 5) (4012) (ρ 4) := (ax_XF_lt (x := 99) (Nat.le_of_ble_eq_true rfl)).mp (ax_gx hE (99, [23, 4012, 19]) ax_m5)
  refine ⟨(fun y hy => by cases hy), _, List.mem_cons_self, ρ, fun _ _ => rfl, ax_px hE rfl (fun y hy => ?_)⟩
  cases List.mem_singleton.mp hy
  refine (ax_XF_lt (x := 49) (Nat.le_of_ble_eq_true rfl)).mpr ?_
  show py_48 1 (pz_gt (ρ 0)) (pz_gN (ρ 0)) ((ρ 1) / 4) (ρ 2) (ρ 5)
  exact pr_sq3 F48 F99 (by decide) F45 F99a

theorem axq_sq2c45_2 : ax_RO ax_wC ax_XC axu_sq2c45_2 := by
  intro ρ hp hE hT
  have j0 : ρ 0 % 4 = 1 := pz_gj hE 0 (Nat.le_of_ble_eq_true rfl) rfl
  have j1 : ρ 1 % 4 = 1 := pz_gj hE 1 (Nat.le_of_ble_eq_true rfl) rfl
  have j2 : ρ 2 % 4 = 1 := pz_gj hE 2 (Nat.le_of_ble_eq_true rfl) rfl
  have j3 : ρ 3 % 4 = 1 := pz_gj hE 3 (Nat.le_of_ble_eq_true rfl) rfl
  have j4 : ρ 4 % 4 = 1 := pz_gj hE 4 (Nat.le_of_ble_eq_true rfl) rfl
  obtain ⟨i5a, i5b, i5c, i5d⟩ := pz_gi hE 5 2147483693 2147483693 (Nat.le_of_ble_eq_true rfl) rfl
  have c_kind : ay_at hp 8 7 = some (ρ 5) := ay_gfj hE 42 28 23 8 7 ax_m3 (ax_vlq rfl rfl) (ax_vlj rfl rfl)
  obtain ⟨-, -, -, -, F50⟩ : ay_ex hp 8 ∧ ay_ex hp 10 ∧ ay_ex hp 11 ∧ ay_ex hp 12 ∧ pz_x50 (ρ 0) (ρ 1) (ay_at hp 8 5) (ay_at hp 8 6) (ay_at hp 8 7) (ay_at hp 8 8) (ay_at hp 10 0) (ay_at hp 10 1) (ay_at hp 10 2) (ay_at hp 10 3) (ay_at hp 10 4) (ay_at hp 8 9) (ay_at hp 8 11) (ay_at hp 8 10) (ay_at hp 8 3) (ay_at hp 8 4) (ay_at hp 11) (ay_at hp 12) := (ax_XF_lt (x := 50) (Nat.le_of_ble_eq_true rfl)).mp (ax_gx hE (50, [3, 7]) ax_m0)
  rw [c_kind] at F50
  have F98 : (ρ 2) / 4 = (ρ 1) / 4 + 1 := (ax_XF_lt (x := 98) (Nat.le_of_ble_eq_true rfl)).mp (ax_gx hE (98, [7, 11]) ax_m1)
  have F78 : pz7 (pz_gt (ρ 0)) (pz_gN (ρ 0)) ((ρ 2) / 4) 8 := (ax_XF_lt (x := 78) (Nat.le_of_ble_eq_true rfl)).mp (ax_gx hE (78, [3, 11]) ax_m2)
  have F79 : pz7 (pz_gt (ρ 0)) (pz_gN (ρ 0)) ((ρ 1) / 4) 9 := (ax_XF_lt (x := 79) (Nat.le_of_ble_eq_true rfl)).mp (ax_gx hE (79, [3, 7]) ax_m4)
  have F49 : py_48 1 (pz_gt (ρ 0)) (pz_gN (ρ 0)) ((ρ 1) / 4) (ρ 3) (ρ 4) := (ax_XF_lt (x := 49) (Nat.le_of_ble_eq_true rfl)).mp (ax_gx hE (49, [3, 7, 15, 19]) ax_m5)
  have kd : ρ 5 / 4 = pz_kd (pz_gt (ρ 0)) (pz_gN (ρ 0)) (pz_p (pz_cf (pz_gt (ρ 0)) (pz_gN (ρ 0)) (ρ 1 / 4))) := F50.2.2.1
  rw [F98] at F78
  obtain ⟨ρ', h1, h2⟩ := pz_pn1 (K := ρ 3 / 4 * 4096 + 1004) (xf := [(46, [3, 11, 27, 19]), (99, [27, 4016, 15]), (44, [27])]) hE (by decide) (fun ρ' h1 h2 x hx => by
    have q0 : ρ' 0 = ρ 0 := h1 0 (by decide)
    have q1 : ρ' 1 = ρ 1 := h1 1 (by decide)
    have q2 : ρ' 2 = ρ 2 := h1 2 (by decide)
    have q3 : ρ' 3 = ρ 3 := h1 3 (by decide)
    have q4 : ρ' 4 = ρ 4 := h1 4 (by decide)
    have q5 : ρ' 5 = ρ 5 := h1 5 (by decide)
    rcases List.mem_cons.mp hx with e | hx
    · subst e
      refine (ax_XF_lt (x := 46) (Nat.le_of_ble_eq_true rfl)).mpr ?_
      show py_46 (pz_gt (ρ' 0)) (pz_gN (ρ' 0)) ((ρ' 2) / 4) (ρ' 6) (ρ' 4)
      rw [q0, q2, q4, h2]
      rw [F98]
      exact pr_op (q := 45) (c := 4016) (by decide) F79 (by omega) rfl F78 (by decide) (by decide) F49 ⟨pz_41 _, F49.2.1, by decide⟩
    rcases List.mem_cons.mp hx with e | hx
    · subst e
      refine (ax_XF_lt (x := 99) (Nat.le_of_ble_eq_true rfl)).mpr ?_
      show py_99 (ρ' 6) (4016) (ρ' 3)
      rw [q3, h2]
      exact ⟨pz_41 _, F49.2.1, by decide⟩
    cases List.mem_singleton.mp hx
    refine (ax_XF_lt (x := 44) (Nat.le_of_ble_eq_true rfl)).mpr ?_
    show py_44 2 (ρ' 6)
    rw [h2]
    exact pr_44 (c := 4016) (s := ρ 3) ⟨pz_41 _, F49.2.1, by decide⟩ (by decide) (by decide))
  exact ⟨(fun y hy => by cases hy), _, List.mem_cons_self, ρ', h1, h2⟩

theorem axq_sq3c45_2 : ax_RO ax_wC ax_XC axu_sq3c45_2 := by
  intro ρ hp hE hT
  have j0 : ρ 0 % 4 = 1 := pz_gj hE 0 (Nat.le_of_ble_eq_true rfl) rfl
  have j1 : ρ 1 % 4 = 1 := pz_gj hE 1 (Nat.le_of_ble_eq_true rfl) rfl
  have j2 : ρ 2 % 4 = 1 := pz_gj hE 2 (Nat.le_of_ble_eq_true rfl) rfl
  have j3 : ρ 3 % 4 = 1 := pz_gj hE 3 (Nat.le_of_ble_eq_true rfl) rfl
  have j4 : ρ 4 % 4 = 1 := pz_gj hE 4 (Nat.le_of_ble_eq_true rfl) rfl
  have j5 : ρ 5 % 4 = 1 := pz_gj hE 5 (Nat.le_of_ble_eq_true rfl) rfl
  obtain ⟨i6a, i6b, i6c, i6d⟩ := pz_gi hE 6 2147483693 2147483693 (Nat.le_of_ble_eq_true rfl) rfl
  obtain ⟨-, -, -, -, F50⟩ : ay_ex hp 8 ∧ ay_ex hp 10 ∧ ay_ex hp 11 ∧ ay_ex hp 12 ∧ pz_x50 (ρ 0) (ρ 1) (ay_at hp 8 5) (ay_at hp 8 6) (ay_at hp 8 7) (ay_at hp 8 8) (ay_at hp 10 0) (ay_at hp 10 1) (ay_at hp 10 2) (ay_at hp 10 3) (ay_at hp 10 4) (ay_at hp 8 9) (ay_at hp 8 11) (ay_at hp 8 10) (ay_at hp 8 3) (ay_at hp 8 4) (ay_at hp 11) (ay_at hp 12) := (ax_XF_lt (x := 50) (Nat.le_of_ble_eq_true rfl)).mp (ax_gx hE (50, [3, 7]) ax_m0)
  have F48 : py_48 2 (pz_gt (ρ 0)) (pz_gN (ρ 0)) ((ρ 1) / 4) (ρ 3) (ρ 4) := (ax_XF_lt (x := 48) (Nat.le_of_ble_eq_true rfl)).mp (ax_gx hE (48, [3, 7, 15, 19]) ax_m1)
  have F99 : py_99 (ρ 3) (4016) (ρ 2) := (ax_XF_lt (x := 99) (Nat.le_of_ble_eq_true rfl)).mp (ax_gx hE (99, [15, 4016, 11]) ax_m2)
  have F45 : py_44 1 (ρ 2) := (ax_XF_lt (x := 45) (Nat.le_of_ble_eq_true rfl)).mp (ax_gx hE (45, [11]) ax_m3)
  obtain ⟨-, -, -, F41⟩ : ay_ex hp 10 ∧ ay_ex hp 15 ∧ ay_ex hp 16 ∧ py_x41 (ρ 5) (ay_at hp 10 5) (ay_at hp 15) (ay_at hp 16) := (ax_XF_lt (x := 41) (Nat.le_of_ble_eq_true rfl)).mp (ax_gx hE (41, [23]) ax_m4)
  have F99a : py_99 (ρ 5) (4016) (ρ 4) := (ax_XF_lt (x := 99) (Nat.le_of_ble_eq_true rfl)).mp (ax_gx hE (99, [23, 4016, 19]) ax_m5)
  refine ⟨(fun y hy => by cases hy), _, List.mem_cons_self, ρ, fun _ _ => rfl, ax_px hE rfl (fun y hy => ?_)⟩
  cases List.mem_singleton.mp hy
  refine (ax_XF_lt (x := 49) (Nat.le_of_ble_eq_true rfl)).mpr ?_
  show py_48 1 (pz_gt (ρ 0)) (pz_gN (ρ 0)) ((ρ 1) / 4) (ρ 2) (ρ 5)
  exact pr_sq3 F48 F99 (by decide) F45 F99a

theorem axq_sql_2 : ax_RO ax_wC ax_XC axu_sql_2 := by
  intro ρ hp hE hT
  have j0 : ρ 0 % 4 = 1 := pz_gj hE 0 (Nat.le_of_ble_eq_true rfl) rfl
  have j1 : ρ 1 % 4 = 1 := pz_gj hE 1 (Nat.le_of_ble_eq_true rfl) rfl
  have j2 : ρ 2 % 4 = 1 := pz_gj hE 2 (Nat.le_of_ble_eq_true rfl) rfl
  have j3 : ρ 3 % 4 = 1 := pz_gj hE 3 (Nat.le_of_ble_eq_true rfl) rfl
  obtain ⟨-, -, -, -, F50⟩ : ay_ex hp 8 ∧ ay_ex hp 10 ∧ ay_ex hp 11 ∧ ay_ex hp 12 ∧ pz_x50 (ρ 0) (ρ 1) (ay_at hp 8 5) (ay_at hp 8 6) (ay_at hp 8 7) (ay_at hp 8 8) (ay_at hp 10 0) (ay_at hp 10 1) (ay_at hp 10 2) (ay_at hp 10 3) (ay_at hp 10 4) (ay_at hp 8 9) (ay_at hp 8 11) (ay_at hp 8 10) (ay_at hp 8 3) (ay_at hp 8 4) (ay_at hp 11) (ay_at hp 12) := (ax_XF_lt (x := 50) (Nat.le_of_ble_eq_true rfl)).mp (ax_gx hE (50, [3, 7]) ax_m0)
  have F79 : pz7 (pz_gt (ρ 0)) (pz_gN (ρ 0)) ((ρ 1) / 4) 9 := (ax_XF_lt (x := 79) (Nat.le_of_ble_eq_true rfl)).mp (ax_gx hE (79, [3, 7]) ax_m1)
  have F48 : py_48 2 (pz_gt (ρ 0)) (pz_gN (ρ 0)) ((ρ 1) / 4) (ρ 2) (ρ 3) := (ax_XF_lt (x := 48) (Nat.le_of_ble_eq_true rfl)).mp (ax_gx hE (48, [3, 7, 11, 15]) ax_m2)
  refine ⟨(fun y hy => by cases hy), _, List.mem_cons_self, ρ, fun _ _ => rfl, ax_px hE rfl (fun y hy => ?_)⟩
  cases List.mem_singleton.mp hy
  refine (ax_XF_lt (x := 40) (Nat.le_of_ble_eq_true rfl)).mpr ?_
  show py_40 (ρ 3)
  exact pr_l48 F79 (by decide) F48

theorem axq_s45_2 : ax_RO ax_wC ax_XC axu_s45_2 := by
  intro ρ hp hE hT
  have j0 : ρ 0 % 4 = 1 := pz_gj hE 0 (Nat.le_of_ble_eq_true rfl) rfl
  have F45 : py_44 1 (ρ 0) := (ax_XF_lt (x := 45) (Nat.le_of_ble_eq_true rfl)).mp (ax_gx hE (45, [3]) ax_m0)
  refine ⟨(fun y hy => by cases hy), _, List.mem_cons_self, ρ, fun _ _ => rfl, ax_px hE rfl (fun y hy => ?_)⟩
  cases List.mem_singleton.mp hy
  refine (ax_XF_lt (x := 44) (Nat.le_of_ble_eq_true rfl)).mpr ?_
  show py_44 2 (ρ 0)
  exact pr_45 F45

theorem axq_sq1_3 : ax_RO ax_wC ax_XC axu_sq1_3 := by
  intro ρ hp hE hT
  have j0 : ρ 0 % 4 = 1 := pz_gj hE 0 (Nat.le_of_ble_eq_true rfl) rfl
  have j1 : ρ 1 % 4 = 1 := pz_gj hE 1 (Nat.le_of_ble_eq_true rfl) rfl
  have j2 : ρ 2 % 4 = 1 := pz_gj hE 2 (Nat.le_of_ble_eq_true rfl) rfl
  have j3 : ρ 3 % 4 = 1 := pz_gj hE 3 (Nat.le_of_ble_eq_true rfl) rfl
  obtain ⟨-, -, -, -, F50⟩ : ay_ex hp 8 ∧ ay_ex hp 10 ∧ ay_ex hp 11 ∧ ay_ex hp 12 ∧ pz_x50 (ρ 0) (ρ 1) (ay_at hp 8 5) (ay_at hp 8 6) (ay_at hp 8 7) (ay_at hp 8 8) (ay_at hp 10 0) (ay_at hp 10 1) (ay_at hp 10 2) (ay_at hp 10 3) (ay_at hp 10 4) (ay_at hp 8 9) (ay_at hp 8 11) (ay_at hp 8 10) (ay_at hp 8 3) (ay_at hp 8 4) (ay_at hp 11) (ay_at hp 12) := (ax_XF_lt (x := 50) (Nat.le_of_ble_eq_true rfl)).mp (ax_gx hE (50, [3, 7]) ax_m0)
  have F48 : py_48 2 (pz_gt (ρ 0)) (pz_gN (ρ 0)) ((ρ 1) / 4) (ρ 2) (ρ 3) := (ax_XF_lt (x := 48) (Nat.le_of_ble_eq_true rfl)).mp (ax_gx hE (48, [3, 7, 11, 15]) ax_m1)
  have F45 : py_44 1 (ρ 2) := (ax_XF_lt (x := 45) (Nat.le_of_ble_eq_true rfl)).mp (ax_gx hE (45, [11]) ax_m2)
  refine ⟨(fun y hy => by cases hy), _, List.mem_cons_self, ρ, fun _ _ => rfl, ax_px hE rfl (fun y hy => ?_)⟩
  cases List.mem_singleton.mp hy
  refine (ax_XF_lt (x := 49) (Nat.le_of_ble_eq_true rfl)).mpr ?_
  show py_48 1 (pz_gt (ρ 0)) (pz_gN (ρ 0)) ((ρ 1) / 4) (ρ 2) (ρ 3)
  exact pr_sq1 F48 F45

theorem axq_sq2c43_3 : ax_RO ax_wC ax_XC axu_sq2c43_3 := by
  intro ρ hp hE hT
  have j0 : ρ 0 % 4 = 1 := pz_gj hE 0 (Nat.le_of_ble_eq_true rfl) rfl
  have j1 : ρ 1 % 4 = 1 := pz_gj hE 1 (Nat.le_of_ble_eq_true rfl) rfl
  have j2 : ρ 2 % 4 = 1 := pz_gj hE 2 (Nat.le_of_ble_eq_true rfl) rfl
  have j3 : ρ 3 % 4 = 1 := pz_gj hE 3 (Nat.le_of_ble_eq_true rfl) rfl
  have j4 : ρ 4 % 4 = 1 := pz_gj hE 4 (Nat.le_of_ble_eq_true rfl) rfl
  obtain ⟨i5a, i5b, i5c, i5d⟩ := pz_gi hE 5 2147483691 2147483691 (Nat.le_of_ble_eq_true rfl) rfl
  have c_kind : ay_at hp 8 7 = some (ρ 5) := ay_gfj hE 42 28 23 8 7 ax_m3 (ax_vlq rfl rfl) (ax_vlj rfl rfl)
  obtain ⟨-, -, -, -, F50⟩ : ay_ex hp 8 ∧ ay_ex hp 10 ∧ ay_ex hp 11 ∧ ay_ex hp 12 ∧ pz_x50 (ρ 0) (ρ 1) (ay_at hp 8 5) (ay_at hp 8 6) (ay_at hp 8 7) (ay_at hp 8 8) (ay_at hp 10 0) (ay_at hp 10 1) (ay_at hp 10 2) (ay_at hp 10 3) (ay_at hp 10 4) (ay_at hp 8 9) (ay_at hp 8 11) (ay_at hp 8 10) (ay_at hp 8 3) (ay_at hp 8 4) (ay_at hp 11) (ay_at hp 12) := (ax_XF_lt (x := 50) (Nat.le_of_ble_eq_true rfl)).mp (ax_gx hE (50, [3, 7]) ax_m0)
  rw [c_kind] at F50
  have F98 : (ρ 2) / 4 = (ρ 1) / 4 + 1 := (ax_XF_lt (x := 98) (Nat.le_of_ble_eq_true rfl)).mp (ax_gx hE (98, [7, 11]) ax_m1)
  have F78 : pz7 (pz_gt (ρ 0)) (pz_gN (ρ 0)) ((ρ 2) / 4) 8 := (ax_XF_lt (x := 78) (Nat.le_of_ble_eq_true rfl)).mp (ax_gx hE (78, [3, 11]) ax_m2)
  have F79 : pz7 (pz_gt (ρ 0)) (pz_gN (ρ 0)) ((ρ 1) / 4) 9 := (ax_XF_lt (x := 79) (Nat.le_of_ble_eq_true rfl)).mp (ax_gx hE (79, [3, 7]) ax_m4)
  have F49 : py_48 1 (pz_gt (ρ 0)) (pz_gN (ρ 0)) ((ρ 1) / 4) (ρ 3) (ρ 4) := (ax_XF_lt (x := 49) (Nat.le_of_ble_eq_true rfl)).mp (ax_gx hE (49, [3, 7, 15, 19]) ax_m5)
  have kd : ρ 5 / 4 = pz_kd (pz_gt (ρ 0)) (pz_gN (ρ 0)) (pz_p (pz_cf (pz_gt (ρ 0)) (pz_gN (ρ 0)) (ρ 1 / 4))) := F50.2.2.1
  rw [F98] at F78
  obtain ⟨ρ', h1, h2⟩ := pz_pn1 (K := ρ 3 / 4 * 4096 + 1003) (xf := [(46, [3, 11, 27, 19]), (99, [27, 4012, 15]), (44, [27])]) hE (by decide) (fun ρ' h1 h2 x hx => by
    have q0 : ρ' 0 = ρ 0 := h1 0 (by decide)
    have q1 : ρ' 1 = ρ 1 := h1 1 (by decide)
    have q2 : ρ' 2 = ρ 2 := h1 2 (by decide)
    have q3 : ρ' 3 = ρ 3 := h1 3 (by decide)
    have q4 : ρ' 4 = ρ 4 := h1 4 (by decide)
    have q5 : ρ' 5 = ρ 5 := h1 5 (by decide)
    rcases List.mem_cons.mp hx with e | hx
    · subst e
      refine (ax_XF_lt (x := 46) (Nat.le_of_ble_eq_true rfl)).mpr ?_
      show py_46 (pz_gt (ρ' 0)) (pz_gN (ρ' 0)) ((ρ' 2) / 4) (ρ' 6) (ρ' 4)
      rw [q0, q2, q4, h2]
      rw [F98]
      exact pr_op (q := 43) (c := 4012) (by decide) F79 (by omega) rfl F78 (by decide) (by decide) F49 ⟨pz_41 _, F49.2.1, by decide⟩
    rcases List.mem_cons.mp hx with e | hx
    · subst e
      refine (ax_XF_lt (x := 99) (Nat.le_of_ble_eq_true rfl)).mpr ?_
      show py_99 (ρ' 6) (4012) (ρ' 3)
      rw [q3, h2]
      exact ⟨pz_41 _, F49.2.1, by decide⟩
    cases List.mem_singleton.mp hx
    refine (ax_XF_lt (x := 44) (Nat.le_of_ble_eq_true rfl)).mpr ?_
    show py_44 2 (ρ' 6)
    rw [h2]
    exact pr_44 (c := 4012) (s := ρ 3) ⟨pz_41 _, F49.2.1, by decide⟩ (by decide) (by decide))
  exact ⟨(fun y hy => by cases hy), _, List.mem_cons_self, ρ', h1, h2⟩

theorem axq_sq3c43_3 : ax_RO ax_wC ax_XC axu_sq3c43_3 := by
  intro ρ hp hE hT
  have j0 : ρ 0 % 4 = 1 := pz_gj hE 0 (Nat.le_of_ble_eq_true rfl) rfl
  have j1 : ρ 1 % 4 = 1 := pz_gj hE 1 (Nat.le_of_ble_eq_true rfl) rfl
  have j2 : ρ 2 % 4 = 1 := pz_gj hE 2 (Nat.le_of_ble_eq_true rfl) rfl
  have j3 : ρ 3 % 4 = 1 := pz_gj hE 3 (Nat.le_of_ble_eq_true rfl) rfl
  have j4 : ρ 4 % 4 = 1 := pz_gj hE 4 (Nat.le_of_ble_eq_true rfl) rfl
  have j5 : ρ 5 % 4 = 1 := pz_gj hE 5 (Nat.le_of_ble_eq_true rfl) rfl
  obtain ⟨i6a, i6b, i6c, i6d⟩ := pz_gi hE 6 2147483691 2147483691 (Nat.le_of_ble_eq_true rfl) rfl
  obtain ⟨-, -, -, -, F50⟩ : ay_ex hp 8 ∧ ay_ex hp 10 ∧ ay_ex hp 11 ∧ ay_ex hp 12 ∧ pz_x50 (ρ 0) (ρ 1) (ay_at hp 8 5) (ay_at hp 8 6) (ay_at hp 8 7) (ay_at hp 8 8) (ay_at hp 10 0) (ay_at hp 10 1) (ay_at hp 10 2) (ay_at hp 10 3) (ay_at hp 10 4) (ay_at hp 8 9) (ay_at hp 8 11) (ay_at hp 8 10) (ay_at hp 8 3) (ay_at hp 8 4) (ay_at hp 11) (ay_at hp 12) := (ax_XF_lt (x := 50) (Nat.le_of_ble_eq_true rfl)).mp (ax_gx hE (50, [3, 7]) ax_m0)
  have F48 : py_48 2 (pz_gt (ρ 0)) (pz_gN (ρ 0)) ((ρ 1) / 4) (ρ 3) (ρ 4) := (ax_XF_lt (x := 48) (Nat.le_of_ble_eq_true rfl)).mp (ax_gx hE (48, [3, 7, 15, 19]) ax_m1)
  have F99 : py_99 (ρ 3) (4012) (ρ 2) := (ax_XF_lt (x := 99) (Nat.le_of_ble_eq_true rfl)).mp (ax_gx hE (99, [15, 4012, 11]) ax_m2)
  have F45 : py_44 1 (ρ 2) := (ax_XF_lt (x := 45) (Nat.le_of_ble_eq_true rfl)).mp (ax_gx hE (45, [11]) ax_m3)
  obtain ⟨-, -, -, F41⟩ : ay_ex hp 10 ∧ ay_ex hp 15 ∧ ay_ex hp 16 ∧ py_x41 (ρ 5) (ay_at hp 10 5) (ay_at hp 15) (ay_at hp 16) := (ax_XF_lt (x := 41) (Nat.le_of_ble_eq_true rfl)).mp (ax_gx hE (41, [23]) ax_m4)
  have F99a : py_99 (ρ 5) (4012) (ρ 4) := (ax_XF_lt (x := 99) (Nat.le_of_ble_eq_true rfl)).mp (ax_gx hE (99, [23, 4012, 19]) ax_m5)
  refine ⟨(fun y hy => by cases hy), _, List.mem_cons_self, ρ, fun _ _ => rfl, ax_px hE rfl (fun y hy => ?_)⟩
  cases List.mem_singleton.mp hy
  refine (ax_XF_lt (x := 49) (Nat.le_of_ble_eq_true rfl)).mpr ?_
  show py_48 1 (pz_gt (ρ 0)) (pz_gN (ρ 0)) ((ρ 1) / 4) (ρ 2) (ρ 5)
  exact pr_sq3 F48 F99 (by decide) F45 F99a

theorem axq_sq2c45_3 : ax_RO ax_wC ax_XC axu_sq2c45_3 := by
  intro ρ hp hE hT
  have j0 : ρ 0 % 4 = 1 := pz_gj hE 0 (Nat.le_of_ble_eq_true rfl) rfl
  have j1 : ρ 1 % 4 = 1 := pz_gj hE 1 (Nat.le_of_ble_eq_true rfl) rfl
  have j2 : ρ 2 % 4 = 1 := pz_gj hE 2 (Nat.le_of_ble_eq_true rfl) rfl
  have j3 : ρ 3 % 4 = 1 := pz_gj hE 3 (Nat.le_of_ble_eq_true rfl) rfl
  have j4 : ρ 4 % 4 = 1 := pz_gj hE 4 (Nat.le_of_ble_eq_true rfl) rfl
  obtain ⟨i5a, i5b, i5c, i5d⟩ := pz_gi hE 5 2147483693 2147483693 (Nat.le_of_ble_eq_true rfl) rfl
  have c_kind : ay_at hp 8 7 = some (ρ 5) := ay_gfj hE 42 28 23 8 7 ax_m3 (ax_vlq rfl rfl) (ax_vlj rfl rfl)
  obtain ⟨-, -, -, -, F50⟩ : ay_ex hp 8 ∧ ay_ex hp 10 ∧ ay_ex hp 11 ∧ ay_ex hp 12 ∧ pz_x50 (ρ 0) (ρ 1) (ay_at hp 8 5) (ay_at hp 8 6) (ay_at hp 8 7) (ay_at hp 8 8) (ay_at hp 10 0) (ay_at hp 10 1) (ay_at hp 10 2) (ay_at hp 10 3) (ay_at hp 10 4) (ay_at hp 8 9) (ay_at hp 8 11) (ay_at hp 8 10) (ay_at hp 8 3) (ay_at hp 8 4) (ay_at hp 11) (ay_at hp 12) := (ax_XF_lt (x := 50) (Nat.le_of_ble_eq_true rfl)).mp (ax_gx hE (50, [3, 7]) ax_m0)
  rw [c_kind] at F50
  have F98 : (ρ 2) / 4 = (ρ 1) / 4 + 1 := (ax_XF_lt (x := 98) (Nat.le_of_ble_eq_true rfl)).mp (ax_gx hE (98, [7, 11]) ax_m1)
  have F78 : pz7 (pz_gt (ρ 0)) (pz_gN (ρ 0)) ((ρ 2) / 4) 8 := (ax_XF_lt (x := 78) (Nat.le_of_ble_eq_true rfl)).mp (ax_gx hE (78, [3, 11]) ax_m2)
  have F79 : pz7 (pz_gt (ρ 0)) (pz_gN (ρ 0)) ((ρ 1) / 4) 9 := (ax_XF_lt (x := 79) (Nat.le_of_ble_eq_true rfl)).mp (ax_gx hE (79, [3, 7]) ax_m4)
  have F49 : py_48 1 (pz_gt (ρ 0)) (pz_gN (ρ 0)) ((ρ 1) / 4) (ρ 3) (ρ 4) := (ax_XF_lt (x := 49) (Nat.le_of_ble_eq_true rfl)).mp (ax_gx hE (49, [3, 7, 15, 19]) ax_m5)
  have kd : ρ 5 / 4 = pz_kd (pz_gt (ρ 0)) (pz_gN (ρ 0)) (pz_p (pz_cf (pz_gt (ρ 0)) (pz_gN (ρ 0)) (ρ 1 / 4))) := F50.2.2.1
  rw [F98] at F78
  obtain ⟨ρ', h1, h2⟩ := pz_pn1 (K := ρ 3 / 4 * 4096 + 1004) (xf := [(46, [3, 11, 27, 19]), (99, [27, 4016, 15]), (44, [27])]) hE (by decide) (fun ρ' h1 h2 x hx => by
    have q0 : ρ' 0 = ρ 0 := h1 0 (by decide)
    have q1 : ρ' 1 = ρ 1 := h1 1 (by decide)
    have q2 : ρ' 2 = ρ 2 := h1 2 (by decide)
    have q3 : ρ' 3 = ρ 3 := h1 3 (by decide)
    have q4 : ρ' 4 = ρ 4 := h1 4 (by decide)
    have q5 : ρ' 5 = ρ 5 := h1 5 (by decide)
    rcases List.mem_cons.mp hx with e | hx
    · subst e
      refine (ax_XF_lt (x := 46) (Nat.le_of_ble_eq_true rfl)).mpr ?_
      show py_46 (pz_gt (ρ' 0)) (pz_gN (ρ' 0)) ((ρ' 2) / 4) (ρ' 6) (ρ' 4)
      rw [q0, q2, q4, h2]
      rw [F98]
      exact pr_op (q := 45) (c := 4016) (by decide) F79 (by omega) rfl F78 (by decide) (by decide) F49 ⟨pz_41 _, F49.2.1, by decide⟩
    rcases List.mem_cons.mp hx with e | hx
    · subst e
      refine (ax_XF_lt (x := 99) (Nat.le_of_ble_eq_true rfl)).mpr ?_
      show py_99 (ρ' 6) (4016) (ρ' 3)
      rw [q3, h2]
      exact ⟨pz_41 _, F49.2.1, by decide⟩
    cases List.mem_singleton.mp hx
    refine (ax_XF_lt (x := 44) (Nat.le_of_ble_eq_true rfl)).mpr ?_
    show py_44 2 (ρ' 6)
    rw [h2]
    exact pr_44 (c := 4016) (s := ρ 3) ⟨pz_41 _, F49.2.1, by decide⟩ (by decide) (by decide))
  exact ⟨(fun y hy => by cases hy), _, List.mem_cons_self, ρ', h1, h2⟩

theorem axq_sq3c45_3 : ax_RO ax_wC ax_XC axu_sq3c45_3 := by
  intro ρ hp hE hT
  have j0 : ρ 0 % 4 = 1 := pz_gj hE 0 (Nat.le_of_ble_eq_true rfl) rfl
  have j1 : ρ 1 % 4 = 1 := pz_gj hE 1 (Nat.le_of_ble_eq_true rfl) rfl
  have j2 : ρ 2 % 4 = 1 := pz_gj hE 2 (Nat.le_of_ble_eq_true rfl) rfl
  have j3 : ρ 3 % 4 = 1 := pz_gj hE 3 (Nat.le_of_ble_eq_true rfl) rfl
  have j4 : ρ 4 % 4 = 1 := pz_gj hE 4 (Nat.le_of_ble_eq_true rfl) rfl
  have j5 : ρ 5 % 4 = 1 := pz_gj hE 5 (Nat.le_of_ble_eq_true rfl) rfl
  obtain ⟨i6a, i6b, i6c, i6d⟩ := pz_gi hE 6 2147483693 2147483693 (Nat.le_of_ble_eq_true rfl) rfl
  obtain ⟨-, -, -, -, F50⟩ : ay_ex hp 8 ∧ ay_ex hp 10 ∧ ay_ex hp 11 ∧ ay_ex hp 12 ∧ pz_x50 (ρ 0) (ρ 1) (ay_at hp 8 5) (ay_at hp 8 6) (ay_at hp 8 7) (ay_at hp 8 8) (ay_at hp 10 0) (ay_at hp 10 1) (ay_at hp 10 2) (ay_at hp 10 3) (ay_at hp 10 4) (ay_at hp 8 9) (ay_at hp 8 11) (ay_at hp 8 10) (ay_at hp 8 3) (ay_at hp 8 4) (ay_at hp 11) (ay_at hp 12) := (ax_XF_lt (x := 50) (Nat.le_of_ble_eq_true rfl)).mp (ax_gx hE (50, [3, 7]) ax_m0)
  have F48 : py_48 2 (pz_gt (ρ 0)) (pz_gN (ρ 0)) ((ρ 1) / 4) (ρ 3) (ρ 4) := (ax_XF_lt (x := 48) (Nat.le_of_ble_eq_true rfl)).mp (ax_gx hE (48, [3, 7, 15, 19]) ax_m1)
  have F99 : py_99 (ρ 3) (4016) (ρ 2) := (ax_XF_lt (x := 99) (Nat.le_of_ble_eq_true rfl)).mp (ax_gx hE (99, [15, 4016, 11]) ax_m2)
  have F45 : py_44 1 (ρ 2) := (ax_XF_lt (x := 45) (Nat.le_of_ble_eq_true rfl)).mp (ax_gx hE (45, [11]) ax_m3)
  obtain ⟨-, -, -, F41⟩ : ay_ex hp 10 ∧ ay_ex hp 15 ∧ ay_ex hp 16 ∧ py_x41 (ρ 5) (ay_at hp 10 5) (ay_at hp 15) (ay_at hp 16) := (ax_XF_lt (x := 41) (Nat.le_of_ble_eq_true rfl)).mp (ax_gx hE (41, [23]) ax_m4)
  have F99a : py_99 (ρ 5) (4016) (ρ 4) := (ax_XF_lt (x := 99) (Nat.le_of_ble_eq_true rfl)).mp (ax_gx hE (99, [23, 4016, 19]) ax_m5)
  refine ⟨(fun y hy => by cases hy), _, List.mem_cons_self, ρ, fun _ _ => rfl, ax_px hE rfl (fun y hy => ?_)⟩
  cases List.mem_singleton.mp hy
  refine (ax_XF_lt (x := 49) (Nat.le_of_ble_eq_true rfl)).mpr ?_
  show py_48 1 (pz_gt (ρ 0)) (pz_gN (ρ 0)) ((ρ 1) / 4) (ρ 2) (ρ 5)
  exact pr_sq3 F48 F99 (by decide) F45 F99a

theorem axq_sql_3 : ax_RO ax_wC ax_XC axu_sql_3 := by
  intro ρ hp hE hT
  have j0 : ρ 0 % 4 = 1 := pz_gj hE 0 (Nat.le_of_ble_eq_true rfl) rfl
  have j1 : ρ 1 % 4 = 1 := pz_gj hE 1 (Nat.le_of_ble_eq_true rfl) rfl
  have j2 : ρ 2 % 4 = 1 := pz_gj hE 2 (Nat.le_of_ble_eq_true rfl) rfl
  have j3 : ρ 3 % 4 = 1 := pz_gj hE 3 (Nat.le_of_ble_eq_true rfl) rfl
  obtain ⟨-, -, -, -, F50⟩ : ay_ex hp 8 ∧ ay_ex hp 10 ∧ ay_ex hp 11 ∧ ay_ex hp 12 ∧ pz_x50 (ρ 0) (ρ 1) (ay_at hp 8 5) (ay_at hp 8 6) (ay_at hp 8 7) (ay_at hp 8 8) (ay_at hp 10 0) (ay_at hp 10 1) (ay_at hp 10 2) (ay_at hp 10 3) (ay_at hp 10 4) (ay_at hp 8 9) (ay_at hp 8 11) (ay_at hp 8 10) (ay_at hp 8 3) (ay_at hp 8 4) (ay_at hp 11) (ay_at hp 12) := (ax_XF_lt (x := 50) (Nat.le_of_ble_eq_true rfl)).mp (ax_gx hE (50, [3, 7]) ax_m0)
  have F79 : pz7 (pz_gt (ρ 0)) (pz_gN (ρ 0)) ((ρ 1) / 4) 9 := (ax_XF_lt (x := 79) (Nat.le_of_ble_eq_true rfl)).mp (ax_gx hE (79, [3, 7]) ax_m1)
  have F48 : py_48 2 (pz_gt (ρ 0)) (pz_gN (ρ 0)) ((ρ 1) / 4) (ρ 2) (ρ 3) := (ax_XF_lt (x := 48) (Nat.le_of_ble_eq_true rfl)).mp (ax_gx hE (48, [3, 7, 11, 15]) ax_m2)
  refine ⟨(fun y hy => by cases hy), _, List.mem_cons_self, ρ, fun _ _ => rfl, ax_px hE rfl (fun y hy => ?_)⟩
  cases List.mem_singleton.mp hy
  refine (ax_XF_lt (x := 40) (Nat.le_of_ble_eq_true rfl)).mpr ?_
  show py_40 (ρ 3)
  exact pr_l48 F79 (by decide) F48

theorem axq_s45_3 : ax_RO ax_wC ax_XC axu_s45_3 := by
  intro ρ hp hE hT
  have j0 : ρ 0 % 4 = 1 := pz_gj hE 0 (Nat.le_of_ble_eq_true rfl) rfl
  have F45 : py_44 1 (ρ 0) := (ax_XF_lt (x := 45) (Nat.le_of_ble_eq_true rfl)).mp (ax_gx hE (45, [3]) ax_m0)
  refine ⟨(fun y hy => by cases hy), _, List.mem_cons_self, ρ, fun _ _ => rfl, ax_px hE rfl (fun y hy => ?_)⟩
  cases List.mem_singleton.mp hy
  refine (ax_XF_lt (x := 44) (Nat.le_of_ble_eq_true rfl)).mpr ?_
  show py_44 2 (ρ 0)
  exact pr_45 F45

theorem axq_sq1_4 : ax_RO ax_wC ax_XC axu_sq1_4 := by
  intro ρ hp hE hT
  have j0 : ρ 0 % 4 = 1 := pz_gj hE 0 (Nat.le_of_ble_eq_true rfl) rfl
  have j1 : ρ 1 % 4 = 1 := pz_gj hE 1 (Nat.le_of_ble_eq_true rfl) rfl
  have j2 : ρ 2 % 4 = 1 := pz_gj hE 2 (Nat.le_of_ble_eq_true rfl) rfl
  have j3 : ρ 3 % 4 = 1 := pz_gj hE 3 (Nat.le_of_ble_eq_true rfl) rfl
  obtain ⟨-, -, -, -, F50⟩ : ay_ex hp 8 ∧ ay_ex hp 10 ∧ ay_ex hp 11 ∧ ay_ex hp 12 ∧ pz_x50 (ρ 0) (ρ 1) (ay_at hp 8 5) (ay_at hp 8 6) (ay_at hp 8 7) (ay_at hp 8 8) (ay_at hp 10 0) (ay_at hp 10 1) (ay_at hp 10 2) (ay_at hp 10 3) (ay_at hp 10 4) (ay_at hp 8 9) (ay_at hp 8 11) (ay_at hp 8 10) (ay_at hp 8 3) (ay_at hp 8 4) (ay_at hp 11) (ay_at hp 12) := (ax_XF_lt (x := 50) (Nat.le_of_ble_eq_true rfl)).mp (ax_gx hE (50, [3, 7]) ax_m0)
  have F48 : py_48 2 (pz_gt (ρ 0)) (pz_gN (ρ 0)) ((ρ 1) / 4) (ρ 2) (ρ 3) := (ax_XF_lt (x := 48) (Nat.le_of_ble_eq_true rfl)).mp (ax_gx hE (48, [3, 7, 11, 15]) ax_m1)
  have F45 : py_44 1 (ρ 2) := (ax_XF_lt (x := 45) (Nat.le_of_ble_eq_true rfl)).mp (ax_gx hE (45, [11]) ax_m2)
  refine ⟨(fun y hy => by cases hy), _, List.mem_cons_self, ρ, fun _ _ => rfl, ax_px hE rfl (fun y hy => ?_)⟩
  cases List.mem_singleton.mp hy
  refine (ax_XF_lt (x := 49) (Nat.le_of_ble_eq_true rfl)).mpr ?_
  show py_48 1 (pz_gt (ρ 0)) (pz_gN (ρ 0)) ((ρ 1) / 4) (ρ 2) (ρ 3)
  exact pr_sq1 F48 F45

theorem axq_sq2c43_4 : ax_RO ax_wC ax_XC axu_sq2c43_4 := by
  intro ρ hp hE hT
  have j0 : ρ 0 % 4 = 1 := pz_gj hE 0 (Nat.le_of_ble_eq_true rfl) rfl
  have j1 : ρ 1 % 4 = 1 := pz_gj hE 1 (Nat.le_of_ble_eq_true rfl) rfl
  have j2 : ρ 2 % 4 = 1 := pz_gj hE 2 (Nat.le_of_ble_eq_true rfl) rfl
  have j3 : ρ 3 % 4 = 1 := pz_gj hE 3 (Nat.le_of_ble_eq_true rfl) rfl
  have j4 : ρ 4 % 4 = 1 := pz_gj hE 4 (Nat.le_of_ble_eq_true rfl) rfl
  obtain ⟨i5a, i5b, i5c, i5d⟩ := pz_gi hE 5 2147483691 2147483691 (Nat.le_of_ble_eq_true rfl) rfl
  have c_kind : ay_at hp 8 7 = some (ρ 5) := ay_gfj hE 42 28 23 8 7 ax_m3 (ax_vlq rfl rfl) (ax_vlj rfl rfl)
  obtain ⟨-, -, -, -, F50⟩ : ay_ex hp 8 ∧ ay_ex hp 10 ∧ ay_ex hp 11 ∧ ay_ex hp 12 ∧ pz_x50 (ρ 0) (ρ 1) (ay_at hp 8 5) (ay_at hp 8 6) (ay_at hp 8 7) (ay_at hp 8 8) (ay_at hp 10 0) (ay_at hp 10 1) (ay_at hp 10 2) (ay_at hp 10 3) (ay_at hp 10 4) (ay_at hp 8 9) (ay_at hp 8 11) (ay_at hp 8 10) (ay_at hp 8 3) (ay_at hp 8 4) (ay_at hp 11) (ay_at hp 12) := (ax_XF_lt (x := 50) (Nat.le_of_ble_eq_true rfl)).mp (ax_gx hE (50, [3, 7]) ax_m0)
  rw [c_kind] at F50
  have F98 : (ρ 2) / 4 = (ρ 1) / 4 + 1 := (ax_XF_lt (x := 98) (Nat.le_of_ble_eq_true rfl)).mp (ax_gx hE (98, [7, 11]) ax_m1)
  have F78 : pz7 (pz_gt (ρ 0)) (pz_gN (ρ 0)) ((ρ 2) / 4) 8 := (ax_XF_lt (x := 78) (Nat.le_of_ble_eq_true rfl)).mp (ax_gx hE (78, [3, 11]) ax_m2)
  have F79 : pz7 (pz_gt (ρ 0)) (pz_gN (ρ 0)) ((ρ 1) / 4) 9 := (ax_XF_lt (x := 79) (Nat.le_of_ble_eq_true rfl)).mp (ax_gx hE (79, [3, 7]) ax_m4)
  have F49 : py_48 1 (pz_gt (ρ 0)) (pz_gN (ρ 0)) ((ρ 1) / 4) (ρ 3) (ρ 4) := (ax_XF_lt (x := 49) (Nat.le_of_ble_eq_true rfl)).mp (ax_gx hE (49, [3, 7, 15, 19]) ax_m5)
  have kd : ρ 5 / 4 = pz_kd (pz_gt (ρ 0)) (pz_gN (ρ 0)) (pz_p (pz_cf (pz_gt (ρ 0)) (pz_gN (ρ 0)) (ρ 1 / 4))) := F50.2.2.1
  rw [F98] at F78
  obtain ⟨ρ', h1, h2⟩ := pz_pn1 (K := ρ 3 / 4 * 4096 + 1003) (xf := [(46, [3, 11, 27, 19]), (99, [27, 4012, 15]), (44, [27])]) hE (by decide) (fun ρ' h1 h2 x hx => by
    have q0 : ρ' 0 = ρ 0 := h1 0 (by decide)
    have q1 : ρ' 1 = ρ 1 := h1 1 (by decide)
    have q2 : ρ' 2 = ρ 2 := h1 2 (by decide)
    have q3 : ρ' 3 = ρ 3 := h1 3 (by decide)
    have q4 : ρ' 4 = ρ 4 := h1 4 (by decide)
    have q5 : ρ' 5 = ρ 5 := h1 5 (by decide)
    rcases List.mem_cons.mp hx with e | hx
    · subst e
      refine (ax_XF_lt (x := 46) (Nat.le_of_ble_eq_true rfl)).mpr ?_
      show py_46 (pz_gt (ρ' 0)) (pz_gN (ρ' 0)) ((ρ' 2) / 4) (ρ' 6) (ρ' 4)
      rw [q0, q2, q4, h2]
      rw [F98]
      exact pr_op (q := 43) (c := 4012) (by decide) F79 (by omega) rfl F78 (by decide) (by decide) F49 ⟨pz_41 _, F49.2.1, by decide⟩
    rcases List.mem_cons.mp hx with e | hx
    · subst e
      refine (ax_XF_lt (x := 99) (Nat.le_of_ble_eq_true rfl)).mpr ?_
      show py_99 (ρ' 6) (4012) (ρ' 3)
      rw [q3, h2]
      exact ⟨pz_41 _, F49.2.1, by decide⟩
    cases List.mem_singleton.mp hx
    refine (ax_XF_lt (x := 44) (Nat.le_of_ble_eq_true rfl)).mpr ?_
    show py_44 2 (ρ' 6)
    rw [h2]
    exact pr_44 (c := 4012) (s := ρ 3) ⟨pz_41 _, F49.2.1, by decide⟩ (by decide) (by decide))
  exact ⟨(fun y hy => by cases hy), _, List.mem_cons_self, ρ', h1, h2⟩

theorem axq_sq3c43_4 : ax_RO ax_wC ax_XC axu_sq3c43_4 := by
  intro ρ hp hE hT
  have j0 : ρ 0 % 4 = 1 := pz_gj hE 0 (Nat.le_of_ble_eq_true rfl) rfl
  have j1 : ρ 1 % 4 = 1 := pz_gj hE 1 (Nat.le_of_ble_eq_true rfl) rfl
  have j2 : ρ 2 % 4 = 1 := pz_gj hE 2 (Nat.le_of_ble_eq_true rfl) rfl
  have j3 : ρ 3 % 4 = 1 := pz_gj hE 3 (Nat.le_of_ble_eq_true rfl) rfl
  have j4 : ρ 4 % 4 = 1 := pz_gj hE 4 (Nat.le_of_ble_eq_true rfl) rfl
  have j5 : ρ 5 % 4 = 1 := pz_gj hE 5 (Nat.le_of_ble_eq_true rfl) rfl
  obtain ⟨i6a, i6b, i6c, i6d⟩ := pz_gi hE 6 2147483691 2147483691 (Nat.le_of_ble_eq_true rfl) rfl
  obtain ⟨-, -, -, -, F50⟩ : ay_ex hp 8 ∧ ay_ex hp 10 ∧ ay_ex hp 11 ∧ ay_ex hp 12 ∧ pz_x50 (ρ 0) (ρ 1) (ay_at hp 8 5) (ay_at hp 8 6) (ay_at hp 8 7) (ay_at hp 8 8) (ay_at hp 10 0) (ay_at hp 10 1) (ay_at hp 10 2) (ay_at hp 10 3) (ay_at hp 10 4) (ay_at hp 8 9) (ay_at hp 8 11) (ay_at hp 8 10) (ay_at hp 8 3) (ay_at hp 8 4) (ay_at hp 11) (ay_at hp 12) := (ax_XF_lt (x := 50) (Nat.le_of_ble_eq_true rfl)).mp (ax_gx hE (50, [3, 7]) ax_m0)
  have F48 : py_48 2 (pz_gt (ρ 0)) (pz_gN (ρ 0)) ((ρ 1) / 4) (ρ 3) (ρ 4) := (ax_XF_lt (x := 48) (Nat.le_of_ble_eq_true rfl)).mp (ax_gx hE (48, [3, 7, 15, 19]) ax_m1)
  have F99 : py_99 (ρ 3) (4012) (ρ 2) := (ax_XF_lt (x := 99) (Nat.le_of_ble_eq_true rfl)).mp (ax_gx hE (99, [15, 4012, 11]) ax_m2)
  have F45 : py_44 1 (ρ 2) := (ax_XF_lt (x := 45) (Nat.le_of_ble_eq_true rfl)).mp (ax_gx hE (45, [11]) ax_m3)
  obtain ⟨-, -, -, F41⟩ : ay_ex hp 10 ∧ ay_ex hp 15 ∧ ay_ex hp 16 ∧ py_x41 (ρ 5) (ay_at hp 10 5) (ay_at hp 15) (ay_at hp 16) := (ax_XF_lt (x := 41) (Nat.le_of_ble_eq_true rfl)).mp (ax_gx hE (41, [23]) ax_m4)
  have F99a : py_99 (ρ 5) (4012) (ρ 4) := (ax_XF_lt (x := 99) (Nat.le_of_ble_eq_true rfl)).mp (ax_gx hE (99, [23, 4012, 19]) ax_m5)
  refine ⟨(fun y hy => by cases hy), _, List.mem_cons_self, ρ, fun _ _ => rfl, ax_px hE rfl (fun y hy => ?_)⟩
  cases List.mem_singleton.mp hy
  refine (ax_XF_lt (x := 49) (Nat.le_of_ble_eq_true rfl)).mpr ?_
  show py_48 1 (pz_gt (ρ 0)) (pz_gN (ρ 0)) ((ρ 1) / 4) (ρ 2) (ρ 5)
  exact pr_sq3 F48 F99 (by decide) F45 F99a

theorem axq_sq2c45_4 : ax_RO ax_wC ax_XC axu_sq2c45_4 := by
  intro ρ hp hE hT
  have j0 : ρ 0 % 4 = 1 := pz_gj hE 0 (Nat.le_of_ble_eq_true rfl) rfl
  have j1 : ρ 1 % 4 = 1 := pz_gj hE 1 (Nat.le_of_ble_eq_true rfl) rfl
  have j2 : ρ 2 % 4 = 1 := pz_gj hE 2 (Nat.le_of_ble_eq_true rfl) rfl
  have j3 : ρ 3 % 4 = 1 := pz_gj hE 3 (Nat.le_of_ble_eq_true rfl) rfl
  have j4 : ρ 4 % 4 = 1 := pz_gj hE 4 (Nat.le_of_ble_eq_true rfl) rfl
  obtain ⟨i5a, i5b, i5c, i5d⟩ := pz_gi hE 5 2147483693 2147483693 (Nat.le_of_ble_eq_true rfl) rfl
  have c_kind : ay_at hp 8 7 = some (ρ 5) := ay_gfj hE 42 28 23 8 7 ax_m3 (ax_vlq rfl rfl) (ax_vlj rfl rfl)
  obtain ⟨-, -, -, -, F50⟩ : ay_ex hp 8 ∧ ay_ex hp 10 ∧ ay_ex hp 11 ∧ ay_ex hp 12 ∧ pz_x50 (ρ 0) (ρ 1) (ay_at hp 8 5) (ay_at hp 8 6) (ay_at hp 8 7) (ay_at hp 8 8) (ay_at hp 10 0) (ay_at hp 10 1) (ay_at hp 10 2) (ay_at hp 10 3) (ay_at hp 10 4) (ay_at hp 8 9) (ay_at hp 8 11) (ay_at hp 8 10) (ay_at hp 8 3) (ay_at hp 8 4) (ay_at hp 11) (ay_at hp 12) := (ax_XF_lt (x := 50) (Nat.le_of_ble_eq_true rfl)).mp (ax_gx hE (50, [3, 7]) ax_m0)
  rw [c_kind] at F50
  have F98 : (ρ 2) / 4 = (ρ 1) / 4 + 1 := (ax_XF_lt (x := 98) (Nat.le_of_ble_eq_true rfl)).mp (ax_gx hE (98, [7, 11]) ax_m1)
  have F78 : pz7 (pz_gt (ρ 0)) (pz_gN (ρ 0)) ((ρ 2) / 4) 8 := (ax_XF_lt (x := 78) (Nat.le_of_ble_eq_true rfl)).mp (ax_gx hE (78, [3, 11]) ax_m2)
  have F79 : pz7 (pz_gt (ρ 0)) (pz_gN (ρ 0)) ((ρ 1) / 4) 9 := (ax_XF_lt (x := 79) (Nat.le_of_ble_eq_true rfl)).mp (ax_gx hE (79, [3, 7]) ax_m4)
  have F49 : py_48 1 (pz_gt (ρ 0)) (pz_gN (ρ 0)) ((ρ 1) / 4) (ρ 3) (ρ 4) := (ax_XF_lt (x := 49) (Nat.le_of_ble_eq_true rfl)).mp (ax_gx hE (49, [3, 7, 15, 19]) ax_m5)
  have kd : ρ 5 / 4 = pz_kd (pz_gt (ρ 0)) (pz_gN (ρ 0)) (pz_p (pz_cf (pz_gt (ρ 0)) (pz_gN (ρ 0)) (ρ 1 / 4))) := F50.2.2.1
  rw [F98] at F78
  obtain ⟨ρ', h1, h2⟩ := pz_pn1 (K := ρ 3 / 4 * 4096 + 1004) (xf := [(46, [3, 11, 27, 19]), (99, [27, 4016, 15]), (44, [27])]) hE (by decide) (fun ρ' h1 h2 x hx => by
    have q0 : ρ' 0 = ρ 0 := h1 0 (by decide)
    have q1 : ρ' 1 = ρ 1 := h1 1 (by decide)
    have q2 : ρ' 2 = ρ 2 := h1 2 (by decide)
    have q3 : ρ' 3 = ρ 3 := h1 3 (by decide)
    have q4 : ρ' 4 = ρ 4 := h1 4 (by decide)
    have q5 : ρ' 5 = ρ 5 := h1 5 (by decide)
    rcases List.mem_cons.mp hx with e | hx
    · subst e
      refine (ax_XF_lt (x := 46) (Nat.le_of_ble_eq_true rfl)).mpr ?_
      show py_46 (pz_gt (ρ' 0)) (pz_gN (ρ' 0)) ((ρ' 2) / 4) (ρ' 6) (ρ' 4)
      rw [q0, q2, q4, h2]
      rw [F98]
      exact pr_op (q := 45) (c := 4016) (by decide) F79 (by omega) rfl F78 (by decide) (by decide) F49 ⟨pz_41 _, F49.2.1, by decide⟩
    rcases List.mem_cons.mp hx with e | hx
    · subst e
      refine (ax_XF_lt (x := 99) (Nat.le_of_ble_eq_true rfl)).mpr ?_
      show py_99 (ρ' 6) (4016) (ρ' 3)
      rw [q3, h2]
      exact ⟨pz_41 _, F49.2.1, by decide⟩
    cases List.mem_singleton.mp hx
    refine (ax_XF_lt (x := 44) (Nat.le_of_ble_eq_true rfl)).mpr ?_
    show py_44 2 (ρ' 6)
    rw [h2]
    exact pr_44 (c := 4016) (s := ρ 3) ⟨pz_41 _, F49.2.1, by decide⟩ (by decide) (by decide))
  exact ⟨(fun y hy => by cases hy), _, List.mem_cons_self, ρ', h1, h2⟩

theorem axq_sq3c45_4 : ax_RO ax_wC ax_XC axu_sq3c45_4 := by
  intro ρ hp hE hT
  have j0 : ρ 0 % 4 = 1 := pz_gj hE 0 (Nat.le_of_ble_eq_true rfl) rfl
  have j1 : ρ 1 % 4 = 1 := pz_gj hE 1 (Nat.le_of_ble_eq_true rfl) rfl
  have j2 : ρ 2 % 4 = 1 := pz_gj hE 2 (Nat.le_of_ble_eq_true rfl) rfl
  have j3 : ρ 3 % 4 = 1 := pz_gj hE 3 (Nat.le_of_ble_eq_true rfl) rfl
  have j4 : ρ 4 % 4 = 1 := pz_gj hE 4 (Nat.le_of_ble_eq_true rfl) rfl
  have j5 : ρ 5 % 4 = 1 := pz_gj hE 5 (Nat.le_of_ble_eq_true rfl) rfl
  obtain ⟨i6a, i6b, i6c, i6d⟩ := pz_gi hE 6 2147483693 2147483693 (Nat.le_of_ble_eq_true rfl) rfl
  obtain ⟨-, -, -, -, F50⟩ : ay_ex hp 8 ∧ ay_ex hp 10 ∧ ay_ex hp 11 ∧ ay_ex hp 12 ∧ pz_x50 (ρ 0) (ρ 1) (ay_at hp 8 5) (ay_at hp 8 6) (ay_at hp 8 7) (ay_at hp 8 8) (ay_at hp 10 0) (ay_at hp 10 1) (ay_at hp 10 2) (ay_at hp 10 3) (ay_at hp 10 4) (ay_at hp 8 9) (ay_at hp 8 11) (ay_at hp 8 10) (ay_at hp 8 3) (ay_at hp 8 4) (ay_at hp 11) (ay_at hp 12) := (ax_XF_lt (x := 50) (Nat.le_of_ble_eq_true rfl)).mp (ax_gx hE (50, [3, 7]) ax_m0)
  have F48 : py_48 2 (pz_gt (ρ 0)) (pz_gN (ρ 0)) ((ρ 1) / 4) (ρ 3) (ρ 4) := (ax_XF_lt (x := 48) (Nat.le_of_ble_eq_true rfl)).mp (ax_gx hE (48, [3, 7, 15, 19]) ax_m1)
  have F99 : py_99 (ρ 3) (4016) (ρ 2) := (ax_XF_lt (x := 99) (Nat.le_of_ble_eq_true rfl)).mp (ax_gx hE (99, [15, 4016, 11]) ax_m2)
  have F45 : py_44 1 (ρ 2) := (ax_XF_lt (x := 45) (Nat.le_of_ble_eq_true rfl)).mp (ax_gx hE (45, [11]) ax_m3)
  obtain ⟨-, -, -, F41⟩ : ay_ex hp 10 ∧ ay_ex hp 15 ∧ ay_ex hp 16 ∧ py_x41 (ρ 5) (ay_at hp 10 5) (ay_at hp 15) (ay_at hp 16) := (ax_XF_lt (x := 41) (Nat.le_of_ble_eq_true rfl)).mp (ax_gx hE (41, [23]) ax_m4)
  have F99a : py_99 (ρ 5) (4016) (ρ 4) := (ax_XF_lt (x := 99) (Nat.le_of_ble_eq_true rfl)).mp (ax_gx hE (99, [23, 4016, 19]) ax_m5)
  refine ⟨(fun y hy => by cases hy), _, List.mem_cons_self, ρ, fun _ _ => rfl, ax_px hE rfl (fun y hy => ?_)⟩
  cases List.mem_singleton.mp hy
  refine (ax_XF_lt (x := 49) (Nat.le_of_ble_eq_true rfl)).mpr ?_
  show py_48 1 (pz_gt (ρ 0)) (pz_gN (ρ 0)) ((ρ 1) / 4) (ρ 2) (ρ 5)
  exact pr_sq3 F48 F99 (by decide) F45 F99a

theorem axq_sql_4 : ax_RO ax_wC ax_XC axu_sql_4 := by
  intro ρ hp hE hT
  have j0 : ρ 0 % 4 = 1 := pz_gj hE 0 (Nat.le_of_ble_eq_true rfl) rfl
  have j1 : ρ 1 % 4 = 1 := pz_gj hE 1 (Nat.le_of_ble_eq_true rfl) rfl
  have j2 : ρ 2 % 4 = 1 := pz_gj hE 2 (Nat.le_of_ble_eq_true rfl) rfl
  have j3 : ρ 3 % 4 = 1 := pz_gj hE 3 (Nat.le_of_ble_eq_true rfl) rfl
  obtain ⟨-, -, -, -, F50⟩ : ay_ex hp 8 ∧ ay_ex hp 10 ∧ ay_ex hp 11 ∧ ay_ex hp 12 ∧ pz_x50 (ρ 0) (ρ 1) (ay_at hp 8 5) (ay_at hp 8 6) (ay_at hp 8 7) (ay_at hp 8 8) (ay_at hp 10 0) (ay_at hp 10 1) (ay_at hp 10 2) (ay_at hp 10 3) (ay_at hp 10 4) (ay_at hp 8 9) (ay_at hp 8 11) (ay_at hp 8 10) (ay_at hp 8 3) (ay_at hp 8 4) (ay_at hp 11) (ay_at hp 12) := (ax_XF_lt (x := 50) (Nat.le_of_ble_eq_true rfl)).mp (ax_gx hE (50, [3, 7]) ax_m0)
  have F79 : pz7 (pz_gt (ρ 0)) (pz_gN (ρ 0)) ((ρ 1) / 4) 9 := (ax_XF_lt (x := 79) (Nat.le_of_ble_eq_true rfl)).mp (ax_gx hE (79, [3, 7]) ax_m1)
  have F48 : py_48 2 (pz_gt (ρ 0)) (pz_gN (ρ 0)) ((ρ 1) / 4) (ρ 2) (ρ 3) := (ax_XF_lt (x := 48) (Nat.le_of_ble_eq_true rfl)).mp (ax_gx hE (48, [3, 7, 11, 15]) ax_m2)
  refine ⟨(fun y hy => by cases hy), _, List.mem_cons_self, ρ, fun _ _ => rfl, ax_px hE rfl (fun y hy => ?_)⟩
  cases List.mem_singleton.mp hy
  refine (ax_XF_lt (x := 40) (Nat.le_of_ble_eq_true rfl)).mpr ?_
  show py_40 (ρ 3)
  exact pr_l48 F79 (by decide) F48

theorem axq_s45_4 : ax_RO ax_wC ax_XC axu_s45_4 := by
  intro ρ hp hE hT
  have j0 : ρ 0 % 4 = 1 := pz_gj hE 0 (Nat.le_of_ble_eq_true rfl) rfl
  have F45 : py_44 1 (ρ 0) := (ax_XF_lt (x := 45) (Nat.le_of_ble_eq_true rfl)).mp (ax_gx hE (45, [3]) ax_m0)
  refine ⟨(fun y hy => by cases hy), _, List.mem_cons_self, ρ, fun _ _ => rfl, ax_px hE rfl (fun y hy => ?_)⟩
  cases List.mem_singleton.mp hy
  refine (ax_XF_lt (x := 44) (Nat.le_of_ble_eq_true rfl)).mpr ?_
  show py_44 2 (ρ 0)
  exact pr_45 F45

theorem axq_sq1_5 : ax_RO ax_wC ax_XC axu_sq1_5 := by
  intro ρ hp hE hT
  have j0 : ρ 0 % 4 = 1 := pz_gj hE 0 (Nat.le_of_ble_eq_true rfl) rfl
  have j1 : ρ 1 % 4 = 1 := pz_gj hE 1 (Nat.le_of_ble_eq_true rfl) rfl
  have j2 : ρ 2 % 4 = 1 := pz_gj hE 2 (Nat.le_of_ble_eq_true rfl) rfl
  have j3 : ρ 3 % 4 = 1 := pz_gj hE 3 (Nat.le_of_ble_eq_true rfl) rfl
  obtain ⟨-, -, -, -, F50⟩ : ay_ex hp 8 ∧ ay_ex hp 10 ∧ ay_ex hp 11 ∧ ay_ex hp 12 ∧ pz_x50 (ρ 0) (ρ 1) (ay_at hp 8 5) (ay_at hp 8 6) (ay_at hp 8 7) (ay_at hp 8 8) (ay_at hp 10 0) (ay_at hp 10 1) (ay_at hp 10 2) (ay_at hp 10 3) (ay_at hp 10 4) (ay_at hp 8 9) (ay_at hp 8 11) (ay_at hp 8 10) (ay_at hp 8 3) (ay_at hp 8 4) (ay_at hp 11) (ay_at hp 12) := (ax_XF_lt (x := 50) (Nat.le_of_ble_eq_true rfl)).mp (ax_gx hE (50, [3, 7]) ax_m0)
  have F48 : py_48 2 (pz_gt (ρ 0)) (pz_gN (ρ 0)) ((ρ 1) / 4) (ρ 2) (ρ 3) := (ax_XF_lt (x := 48) (Nat.le_of_ble_eq_true rfl)).mp (ax_gx hE (48, [3, 7, 11, 15]) ax_m1)
  have F45 : py_44 1 (ρ 2) := (ax_XF_lt (x := 45) (Nat.le_of_ble_eq_true rfl)).mp (ax_gx hE (45, [11]) ax_m2)
  refine ⟨(fun y hy => by cases hy), _, List.mem_cons_self, ρ, fun _ _ => rfl, ax_px hE rfl (fun y hy => ?_)⟩
  cases List.mem_singleton.mp hy
  refine (ax_XF_lt (x := 49) (Nat.le_of_ble_eq_true rfl)).mpr ?_
  show py_48 1 (pz_gt (ρ 0)) (pz_gN (ρ 0)) ((ρ 1) / 4) (ρ 2) (ρ 3)
  exact pr_sq1 F48 F45

theorem axq_sq2c43_5 : ax_RO ax_wC ax_XC axu_sq2c43_5 := by
  intro ρ hp hE hT
  have j0 : ρ 0 % 4 = 1 := pz_gj hE 0 (Nat.le_of_ble_eq_true rfl) rfl
  have j1 : ρ 1 % 4 = 1 := pz_gj hE 1 (Nat.le_of_ble_eq_true rfl) rfl
  have j2 : ρ 2 % 4 = 1 := pz_gj hE 2 (Nat.le_of_ble_eq_true rfl) rfl
  have j3 : ρ 3 % 4 = 1 := pz_gj hE 3 (Nat.le_of_ble_eq_true rfl) rfl
  have j4 : ρ 4 % 4 = 1 := pz_gj hE 4 (Nat.le_of_ble_eq_true rfl) rfl
  obtain ⟨i5a, i5b, i5c, i5d⟩ := pz_gi hE 5 2147483691 2147483691 (Nat.le_of_ble_eq_true rfl) rfl
  have c_kind : ay_at hp 8 7 = some (ρ 5) := ay_gfj hE 42 28 23 8 7 ax_m3 (ax_vlq rfl rfl) (ax_vlj rfl rfl)
  obtain ⟨-, -, -, -, F50⟩ : ay_ex hp 8 ∧ ay_ex hp 10 ∧ ay_ex hp 11 ∧ ay_ex hp 12 ∧ pz_x50 (ρ 0) (ρ 1) (ay_at hp 8 5) (ay_at hp 8 6) (ay_at hp 8 7) (ay_at hp 8 8) (ay_at hp 10 0) (ay_at hp 10 1) (ay_at hp 10 2) (ay_at hp 10 3) (ay_at hp 10 4) (ay_at hp 8 9) (ay_at hp 8 11) (ay_at hp 8 10) (ay_at hp 8 3) (ay_at hp 8 4) (ay_at hp 11) (ay_at hp 12) := (ax_XF_lt (x := 50) (Nat.le_of_ble_eq_true rfl)).mp (ax_gx hE (50, [3, 7]) ax_m0)
  rw [c_kind] at F50
  have F98 : (ρ 2) / 4 = (ρ 1) / 4 + 1 := (ax_XF_lt (x := 98) (Nat.le_of_ble_eq_true rfl)).mp (ax_gx hE (98, [7, 11]) ax_m1)
  have F78 : pz7 (pz_gt (ρ 0)) (pz_gN (ρ 0)) ((ρ 2) / 4) 8 := (ax_XF_lt (x := 78) (Nat.le_of_ble_eq_true rfl)).mp (ax_gx hE (78, [3, 11]) ax_m2)
  have F79 : pz7 (pz_gt (ρ 0)) (pz_gN (ρ 0)) ((ρ 1) / 4) 9 := (ax_XF_lt (x := 79) (Nat.le_of_ble_eq_true rfl)).mp (ax_gx hE (79, [3, 7]) ax_m4)
  have F49 : py_48 1 (pz_gt (ρ 0)) (pz_gN (ρ 0)) ((ρ 1) / 4) (ρ 3) (ρ 4) := (ax_XF_lt (x := 49) (Nat.le_of_ble_eq_true rfl)).mp (ax_gx hE (49, [3, 7, 15, 19]) ax_m5)
  have kd : ρ 5 / 4 = pz_kd (pz_gt (ρ 0)) (pz_gN (ρ 0)) (pz_p (pz_cf (pz_gt (ρ 0)) (pz_gN (ρ 0)) (ρ 1 / 4))) := F50.2.2.1
  rw [F98] at F78
  obtain ⟨ρ', h1, h2⟩ := pz_pn1 (K := ρ 3 / 4 * 4096 + 1003) (xf := [(46, [3, 11, 27, 19]), (99, [27, 4012, 15]), (44, [27])]) hE (by decide) (fun ρ' h1 h2 x hx => by
    have q0 : ρ' 0 = ρ 0 := h1 0 (by decide)
    have q1 : ρ' 1 = ρ 1 := h1 1 (by decide)
    have q2 : ρ' 2 = ρ 2 := h1 2 (by decide)
    have q3 : ρ' 3 = ρ 3 := h1 3 (by decide)
    have q4 : ρ' 4 = ρ 4 := h1 4 (by decide)
    have q5 : ρ' 5 = ρ 5 := h1 5 (by decide)
    rcases List.mem_cons.mp hx with e | hx
    · subst e
      refine (ax_XF_lt (x := 46) (Nat.le_of_ble_eq_true rfl)).mpr ?_
      show py_46 (pz_gt (ρ' 0)) (pz_gN (ρ' 0)) ((ρ' 2) / 4) (ρ' 6) (ρ' 4)
      rw [q0, q2, q4, h2]
      rw [F98]
      exact pr_op (q := 43) (c := 4012) (by decide) F79 (by omega) rfl F78 (by decide) (by decide) F49 ⟨pz_41 _, F49.2.1, by decide⟩
    rcases List.mem_cons.mp hx with e | hx
    · subst e
      refine (ax_XF_lt (x := 99) (Nat.le_of_ble_eq_true rfl)).mpr ?_
      show py_99 (ρ' 6) (4012) (ρ' 3)
      rw [q3, h2]
      exact ⟨pz_41 _, F49.2.1, by decide⟩
    cases List.mem_singleton.mp hx
    refine (ax_XF_lt (x := 44) (Nat.le_of_ble_eq_true rfl)).mpr ?_
    show py_44 2 (ρ' 6)
    rw [h2]
    exact pr_44 (c := 4012) (s := ρ 3) ⟨pz_41 _, F49.2.1, by decide⟩ (by decide) (by decide))
  exact ⟨(fun y hy => by cases hy), _, List.mem_cons_self, ρ', h1, h2⟩

theorem axq_sq3c43_5 : ax_RO ax_wC ax_XC axu_sq3c43_5 := by
  intro ρ hp hE hT
  have j0 : ρ 0 % 4 = 1 := pz_gj hE 0 (Nat.le_of_ble_eq_true rfl) rfl
  have j1 : ρ 1 % 4 = 1 := pz_gj hE 1 (Nat.le_of_ble_eq_true rfl) rfl
  have j2 : ρ 2 % 4 = 1 := pz_gj hE 2 (Nat.le_of_ble_eq_true rfl) rfl
  have j3 : ρ 3 % 4 = 1 := pz_gj hE 3 (Nat.le_of_ble_eq_true rfl) rfl
  have j4 : ρ 4 % 4 = 1 := pz_gj hE 4 (Nat.le_of_ble_eq_true rfl) rfl
  have j5 : ρ 5 % 4 = 1 := pz_gj hE 5 (Nat.le_of_ble_eq_true rfl) rfl
  obtain ⟨i6a, i6b, i6c, i6d⟩ := pz_gi hE 6 2147483691 2147483691 (Nat.le_of_ble_eq_true rfl) rfl
  obtain ⟨-, -, -, -, F50⟩ : ay_ex hp 8 ∧ ay_ex hp 10 ∧ ay_ex hp 11 ∧ ay_ex hp 12 ∧ pz_x50 (ρ 0) (ρ 1) (ay_at hp 8 5) (ay_at hp 8 6) (ay_at hp 8 7) (ay_at hp 8 8) (ay_at hp 10 0) (ay_at hp 10 1) (ay_at hp 10 2) (ay_at hp 10 3) (ay_at hp 10 4) (ay_at hp 8 9) (ay_at hp 8 11) (ay_at hp 8 10) (ay_at hp 8 3) (ay_at hp 8 4) (ay_at hp 11) (ay_at hp 12) := (ax_XF_lt (x := 50) (Nat.le_of_ble_eq_true rfl)).mp (ax_gx hE (50, [3, 7]) ax_m0)
  have F48 : py_48 2 (pz_gt (ρ 0)) (pz_gN (ρ 0)) ((ρ 1) / 4) (ρ 3) (ρ 4) := (ax_XF_lt (x := 48) (Nat.le_of_ble_eq_true rfl)).mp (ax_gx hE (48, [3, 7, 15, 19]) ax_m1)
  have F99 : py_99 (ρ 3) (4012) (ρ 2) := (ax_XF_lt (x := 99) (Nat.le_of_ble_eq_true rfl)).mp (ax_gx hE (99, [15, 4012, 11]) ax_m2)
  have F45 : py_44 1 (ρ 2) := (ax_XF_lt (x := 45) (Nat.le_of_ble_eq_true rfl)).mp (ax_gx hE (45, [11]) ax_m3)
  obtain ⟨-, -, -, F41⟩ : ay_ex hp 10 ∧ ay_ex hp 15 ∧ ay_ex hp 16 ∧ py_x41 (ρ 5) (ay_at hp 10 5) (ay_at hp 15) (ay_at hp 16) := (ax_XF_lt (x := 41) (Nat.le_of_ble_eq_true rfl)).mp (ax_gx hE (41, [23]) ax_m4)
  have F99a : py_99 (ρ 5) (4012) (ρ 4) := (ax_XF_lt (x := 99) (Nat.le_of_ble_eq_true rfl)).mp (ax_gx hE (99, [23, 4012, 19]) ax_m5)
  refine ⟨(fun y hy => by cases hy), _, List.mem_cons_self, ρ, fun _ _ => rfl, ax_px hE rfl (fun y hy => ?_)⟩
  cases List.mem_singleton.mp hy
  refine (ax_XF_lt (x := 49) (Nat.le_of_ble_eq_true rfl)).mpr ?_
  show py_48 1 (pz_gt (ρ 0)) (pz_gN (ρ 0)) ((ρ 1) / 4) (ρ 2) (ρ 5)
  exact pr_sq3 F48 F99 (by decide) F45 F99a

theorem axq_sq2c45_5 : ax_RO ax_wC ax_XC axu_sq2c45_5 := by
  intro ρ hp hE hT
  have j0 : ρ 0 % 4 = 1 := pz_gj hE 0 (Nat.le_of_ble_eq_true rfl) rfl
  have j1 : ρ 1 % 4 = 1 := pz_gj hE 1 (Nat.le_of_ble_eq_true rfl) rfl
  have j2 : ρ 2 % 4 = 1 := pz_gj hE 2 (Nat.le_of_ble_eq_true rfl) rfl
  have j3 : ρ 3 % 4 = 1 := pz_gj hE 3 (Nat.le_of_ble_eq_true rfl) rfl
  have j4 : ρ 4 % 4 = 1 := pz_gj hE 4 (Nat.le_of_ble_eq_true rfl) rfl
  obtain ⟨i5a, i5b, i5c, i5d⟩ := pz_gi hE 5 2147483693 2147483693 (Nat.le_of_ble_eq_true rfl) rfl
  have c_kind : ay_at hp 8 7 = some (ρ 5) := ay_gfj hE 42 28 23 8 7 ax_m3 (ax_vlq rfl rfl) (ax_vlj rfl rfl)
  obtain ⟨-, -, -, -, F50⟩ : ay_ex hp 8 ∧ ay_ex hp 10 ∧ ay_ex hp 11 ∧ ay_ex hp 12 ∧ pz_x50 (ρ 0) (ρ 1) (ay_at hp 8 5) (ay_at hp 8 6) (ay_at hp 8 7) (ay_at hp 8 8) (ay_at hp 10 0) (ay_at hp 10 1) (ay_at hp 10 2) (ay_at hp 10 3) (ay_at hp 10 4) (ay_at hp 8 9) (ay_at hp 8 11) (ay_at hp 8 10) (ay_at hp 8 3) (ay_at hp 8 4) (ay_at hp 11) (ay_at hp 12) := (ax_XF_lt (x := 50) (Nat.le_of_ble_eq_true rfl)).mp (ax_gx hE (50, [3, 7]) ax_m0)
  rw [c_kind] at F50
  have F98 : (ρ 2) / 4 = (ρ 1) / 4 + 1 := (ax_XF_lt (x := 98) (Nat.le_of_ble_eq_true rfl)).mp (ax_gx hE (98, [7, 11]) ax_m1)
  have F78 : pz7 (pz_gt (ρ 0)) (pz_gN (ρ 0)) ((ρ 2) / 4) 8 := (ax_XF_lt (x := 78) (Nat.le_of_ble_eq_true rfl)).mp (ax_gx hE (78, [3, 11]) ax_m2)
  have F79 : pz7 (pz_gt (ρ 0)) (pz_gN (ρ 0)) ((ρ 1) / 4) 9 := (ax_XF_lt (x := 79) (Nat.le_of_ble_eq_true rfl)).mp (ax_gx hE (79, [3, 7]) ax_m4)
  have F49 : py_48 1 (pz_gt (ρ 0)) (pz_gN (ρ 0)) ((ρ 1) / 4) (ρ 3) (ρ 4) := (ax_XF_lt (x := 49) (Nat.le_of_ble_eq_true rfl)).mp (ax_gx hE (49, [3, 7, 15, 19]) ax_m5)
  have kd : ρ 5 / 4 = pz_kd (pz_gt (ρ 0)) (pz_gN (ρ 0)) (pz_p (pz_cf (pz_gt (ρ 0)) (pz_gN (ρ 0)) (ρ 1 / 4))) := F50.2.2.1
  rw [F98] at F78
  obtain ⟨ρ', h1, h2⟩ := pz_pn1 (K := ρ 3 / 4 * 4096 + 1004) (xf := [(46, [3, 11, 27, 19]), (99, [27, 4016, 15]), (44, [27])]) hE (by decide) (fun ρ' h1 h2 x hx => by
    have q0 : ρ' 0 = ρ 0 := h1 0 (by decide)
    have q1 : ρ' 1 = ρ 1 := h1 1 (by decide)
    have q2 : ρ' 2 = ρ 2 := h1 2 (by decide)
    have q3 : ρ' 3 = ρ 3 := h1 3 (by decide)
    have q4 : ρ' 4 = ρ 4 := h1 4 (by decide)
    have q5 : ρ' 5 = ρ 5 := h1 5 (by decide)
    rcases List.mem_cons.mp hx with e | hx
    · subst e
      refine (ax_XF_lt (x := 46) (Nat.le_of_ble_eq_true rfl)).mpr ?_
      show py_46 (pz_gt (ρ' 0)) (pz_gN (ρ' 0)) ((ρ' 2) / 4) (ρ' 6) (ρ' 4)
      rw [q0, q2, q4, h2]
      rw [F98]
      exact pr_op (q := 45) (c := 4016) (by decide) F79 (by omega) rfl F78 (by decide) (by decide) F49 ⟨pz_41 _, F49.2.1, by decide⟩
    rcases List.mem_cons.mp hx with e | hx
    · subst e
      refine (ax_XF_lt (x := 99) (Nat.le_of_ble_eq_true rfl)).mpr ?_
      show py_99 (ρ' 6) (4016) (ρ' 3)
      rw [q3, h2]
      exact ⟨pz_41 _, F49.2.1, by decide⟩
    cases List.mem_singleton.mp hx
    refine (ax_XF_lt (x := 44) (Nat.le_of_ble_eq_true rfl)).mpr ?_
    show py_44 2 (ρ' 6)
    rw [h2]
    exact pr_44 (c := 4016) (s := ρ 3) ⟨pz_41 _, F49.2.1, by decide⟩ (by decide) (by decide))
  exact ⟨(fun y hy => by cases hy), _, List.mem_cons_self, ρ', h1, h2⟩

theorem axq_sq3c45_5 : ax_RO ax_wC ax_XC axu_sq3c45_5 := by
  intro ρ hp hE hT
  have j0 : ρ 0 % 4 = 1 := pz_gj hE 0 (Nat.le_of_ble_eq_true rfl) rfl
  have j1 : ρ 1 % 4 = 1 := pz_gj hE 1 (Nat.le_of_ble_eq_true rfl) rfl
  have j2 : ρ 2 % 4 = 1 := pz_gj hE 2 (Nat.le_of_ble_eq_true rfl) rfl
  have j3 : ρ 3 % 4 = 1 := pz_gj hE 3 (Nat.le_of_ble_eq_true rfl) rfl
  have j4 : ρ 4 % 4 = 1 := pz_gj hE 4 (Nat.le_of_ble_eq_true rfl) rfl
  have j5 : ρ 5 % 4 = 1 := pz_gj hE 5 (Nat.le_of_ble_eq_true rfl) rfl
  obtain ⟨i6a, i6b, i6c, i6d⟩ := pz_gi hE 6 2147483693 2147483693 (Nat.le_of_ble_eq_true rfl) rfl
  obtain ⟨-, -, -, -, F50⟩ : ay_ex hp 8 ∧ ay_ex hp 10 ∧ ay_ex hp 11 ∧ ay_ex hp 12 ∧ pz_x50 (ρ 0) (ρ 1) (ay_at hp 8 5) (ay_at hp 8 6) (ay_at hp 8 7) (ay_at hp 8 8) (ay_at hp 10 0) (ay_at hp 10 1) (ay_at hp 10 2) (ay_at hp 10 3) (ay_at hp 10 4) (ay_at hp 8 9) (ay_at hp 8 11) (ay_at hp 8 10) (ay_at hp 8 3) (ay_at hp 8 4) (ay_at hp 11) (ay_at hp 12) := (ax_XF_lt (x := 50) (Nat.le_of_ble_eq_true rfl)).mp (ax_gx hE (50, [3, 7]) ax_m0)
  have F48 : py_48 2 (pz_gt (ρ 0)) (pz_gN (ρ 0)) ((ρ 1) / 4) (ρ 3) (ρ 4) := (ax_XF_lt (x := 48) (Nat.le_of_ble_eq_true rfl)).mp (ax_gx hE (48, [3, 7, 15, 19]) ax_m1)
  have F99 : py_99 (ρ 3) (4016) (ρ 2) := (ax_XF_lt (x := 99) (Nat.le_of_ble_eq_true rfl)).mp (ax_gx hE (99, [15, 4016, 11]) ax_m2)
  have F45 : py_44 1 (ρ 2) := (ax_XF_lt (x := 45) (Nat.le_of_ble_eq_true rfl)).mp (ax_gx hE (45, [11]) ax_m3)
  obtain ⟨-, -, -, F41⟩ : ay_ex hp 10 ∧ ay_ex hp 15 ∧ ay_ex hp 16 ∧ py_x41 (ρ 5) (ay_at hp 10 5) (ay_at hp 15) (ay_at hp 16) := (ax_XF_lt (x := 41) (Nat.le_of_ble_eq_true rfl)).mp (ax_gx hE (41, [23]) ax_m4)
  have F99a : py_99 (ρ 5) (4016) (ρ 4) := (ax_XF_lt (x := 99) (Nat.le_of_ble_eq_true rfl)).mp (ax_gx hE (99, [23, 4016, 19]) ax_m5)
  refine ⟨(fun y hy => by cases hy), _, List.mem_cons_self, ρ, fun _ _ => rfl, ax_px hE rfl (fun y hy => ?_)⟩
  cases List.mem_singleton.mp hy
  refine (ax_XF_lt (x := 49) (Nat.le_of_ble_eq_true rfl)).mpr ?_
  show py_48 1 (pz_gt (ρ 0)) (pz_gN (ρ 0)) ((ρ 1) / 4) (ρ 2) (ρ 5)
  exact pr_sq3 F48 F99 (by decide) F45 F99a

theorem axq_sql_5 : ax_RO ax_wC ax_XC axu_sql_5 := by
  intro ρ hp hE hT
  have j0 : ρ 0 % 4 = 1 := pz_gj hE 0 (Nat.le_of_ble_eq_true rfl) rfl
  have j1 : ρ 1 % 4 = 1 := pz_gj hE 1 (Nat.le_of_ble_eq_true rfl) rfl
  have j2 : ρ 2 % 4 = 1 := pz_gj hE 2 (Nat.le_of_ble_eq_true rfl) rfl
  have j3 : ρ 3 % 4 = 1 := pz_gj hE 3 (Nat.le_of_ble_eq_true rfl) rfl
  obtain ⟨-, -, -, -, F50⟩ : ay_ex hp 8 ∧ ay_ex hp 10 ∧ ay_ex hp 11 ∧ ay_ex hp 12 ∧ pz_x50 (ρ 0) (ρ 1) (ay_at hp 8 5) (ay_at hp 8 6) (ay_at hp 8 7) (ay_at hp 8 8) (ay_at hp 10 0) (ay_at hp 10 1) (ay_at hp 10 2) (ay_at hp 10 3) (ay_at hp 10 4) (ay_at hp 8 9) (ay_at hp 8 11) (ay_at hp 8 10) (ay_at hp 8 3) (ay_at hp 8 4) (ay_at hp 11) (ay_at hp 12) := (ax_XF_lt (x := 50) (Nat.le_of_ble_eq_true rfl)).mp (ax_gx hE (50, [3, 7]) ax_m0)
  have F79 : pz7 (pz_gt (ρ 0)) (pz_gN (ρ 0)) ((ρ 1) / 4) 9 := (ax_XF_lt (x := 79) (Nat.le_of_ble_eq_true rfl)).mp (ax_gx hE (79, [3, 7]) ax_m1)
  have F48 : py_48 2 (pz_gt (ρ 0)) (pz_gN (ρ 0)) ((ρ 1) / 4) (ρ 2) (ρ 3) := (ax_XF_lt (x := 48) (Nat.le_of_ble_eq_true rfl)).mp (ax_gx hE (48, [3, 7, 11, 15]) ax_m2)
  refine ⟨(fun y hy => by cases hy), _, List.mem_cons_self, ρ, fun _ _ => rfl, ax_px hE rfl (fun y hy => ?_)⟩
  cases List.mem_singleton.mp hy
  refine (ax_XF_lt (x := 40) (Nat.le_of_ble_eq_true rfl)).mpr ?_
  show py_40 (ρ 3)
  exact pr_l48 F79 (by decide) F48

theorem axq_s45_5 : ax_RO ax_wC ax_XC axu_s45_5 := by
  intro ρ hp hE hT
  have j0 : ρ 0 % 4 = 1 := pz_gj hE 0 (Nat.le_of_ble_eq_true rfl) rfl
  have F45 : py_44 1 (ρ 0) := (ax_XF_lt (x := 45) (Nat.le_of_ble_eq_true rfl)).mp (ax_gx hE (45, [3]) ax_m0)
  refine ⟨(fun y hy => by cases hy), _, List.mem_cons_self, ρ, fun _ _ => rfl, ax_px hE rfl (fun y hy => ?_)⟩
  cases List.mem_singleton.mp hy
  refine (ax_XF_lt (x := 44) (Nat.le_of_ble_eq_true rfl)).mpr ?_
  show py_44 2 (ρ 0)
  exact pr_45 F45

theorem axq_s45_6 : ax_RO ax_wC ax_XC axu_s45_6 := by
  intro ρ hp hE hT
  have j0 : ρ 0 % 4 = 1 := pz_gj hE 0 (Nat.le_of_ble_eq_true rfl) rfl
  have F45 : py_44 1 (ρ 0) := (ax_XF_lt (x := 45) (Nat.le_of_ble_eq_true rfl)).mp (ax_gx hE (45, [3]) ax_m0)
  refine ⟨(fun y hy => by cases hy), _, List.mem_cons_self, ρ, fun _ _ => rfl, ax_px hE rfl (fun y hy => ?_)⟩
  cases List.mem_singleton.mp hy
  refine (ax_XF_lt (x := 44) (Nat.le_of_ble_eq_true rfl)).mpr ?_
  show py_44 2 (ρ 0)
  exact pr_45 F45

theorem axq_s0_al5 : ax_RO ax_wC ax_XC axu_s0_al5 := by
  intro ρ hp hE hT
  have j0 : ρ 0 % 4 = 1 := pz_gj hE 0 (Nat.le_of_ble_eq_true rfl) rfl
  have j1 : ρ 1 % 4 = 1 := pz_gj hE 1 (Nat.le_of_ble_eq_true rfl) rfl
  have j2 : ρ 2 % 4 = 1 := pz_gj hE 2 (Nat.le_of_ble_eq_true rfl) rfl
  have j3 : ρ 3 % 4 = 1 := pz_gj hE 3 (Nat.le_of_ble_eq_true rfl) rfl
  have j4 : ρ 4 % 4 = 1 := pz_gj hE 4 (Nat.le_of_ble_eq_true rfl) rfl
  have F75 : pz7 (pz_gt (ρ 0)) (pz_gN (ρ 0)) ((ρ 1) / 4) 5 := (ax_XF_lt (x := 75) (Nat.le_of_ble_eq_true rfl)).mp (ax_gx hE (75, [3, 7]) ax_m0)
  have F98 : (ρ 2) / 4 = (ρ 1) / 4 + 1 := (ax_XF_lt (x := 98) (Nat.le_of_ble_eq_true rfl)).mp (ax_gx hE (98, [7, 11]) ax_m1)
  have F72 : pz7 (pz_gt (ρ 0)) (pz_gN (ρ 0)) ((ρ 2) / 4) 2 := (ax_XF_lt (x := 72) (Nat.le_of_ble_eq_true rfl)).mp (ax_gx hE (72, [3, 11]) ax_m2)
  have F46 : py_46 (pz_gt (ρ 0)) (pz_gN (ρ 0)) ((ρ 1) / 4) (ρ 3) (ρ 4) := (ax_XF_lt (x := 46) (Nat.le_of_ble_eq_true rfl)).mp (ax_gx hE (46, [3, 7, 15, 19]) ax_m3)
  refine ⟨(fun y hy => by cases hy), _, List.mem_cons_self, ρ, fun _ _ => rfl, ax_px hE rfl (fun y hy => ?_)⟩
  cases List.mem_singleton.mp hy
  refine (ax_XF_lt (x := 46) (Nat.le_of_ble_eq_true rfl)).mpr ?_
  show py_46 (pz_gt (ρ 0)) (pz_gN (ρ 0)) ((ρ 2) / 4) (ρ 3) (ρ 4)
  rw [F98] at F72 ⊢
  exact pr_s0 F75 (by decide) (by decide) F72 (by decide) F46

theorem axq_s0_sw2 : ax_RO ax_wC ax_XC axu_s0_sw2 := by
  intro ρ hp hE hT
  have j0 : ρ 0 % 4 = 1 := pz_gj hE 0 (Nat.le_of_ble_eq_true rfl) rfl
  have j1 : ρ 1 % 4 = 1 := pz_gj hE 1 (Nat.le_of_ble_eq_true rfl) rfl
  have j2 : ρ 2 % 4 = 1 := pz_gj hE 2 (Nat.le_of_ble_eq_true rfl) rfl
  have j3 : ρ 3 % 4 = 1 := pz_gj hE 3 (Nat.le_of_ble_eq_true rfl) rfl
  have j4 : ρ 4 % 4 = 1 := pz_gj hE 4 (Nat.le_of_ble_eq_true rfl) rfl
  have F70 : pz7 (pz_gt (ρ 0)) (pz_gN (ρ 0)) ((ρ 1) / 4) 0 := (ax_XF_lt (x := 70) (Nat.le_of_ble_eq_true rfl)).mp (ax_gx hE (70, [3, 7]) ax_m0)
  have F98 : (ρ 2) / 4 = (ρ 1) / 4 + 1 := (ax_XF_lt (x := 98) (Nat.le_of_ble_eq_true rfl)).mp (ax_gx hE (98, [7, 11]) ax_m1)
  have F71 : pz7 (pz_gt (ρ 0)) (pz_gN (ρ 0)) ((ρ 2) / 4) 1 := (ax_XF_lt (x := 71) (Nat.le_of_ble_eq_true rfl)).mp (ax_gx hE (71, [3, 11]) ax_m2)
  have F46 : py_46 (pz_gt (ρ 0)) (pz_gN (ρ 0)) ((ρ 1) / 4) (ρ 3) (ρ 4) := (ax_XF_lt (x := 46) (Nat.le_of_ble_eq_true rfl)).mp (ax_gx hE (46, [3, 7, 15, 19]) ax_m3)
  refine ⟨(fun y hy => by cases hy), _, List.mem_cons_self, ρ, fun _ _ => rfl, ax_px hE rfl (fun y hy => ?_)⟩
  cases List.mem_singleton.mp hy
  refine (ax_XF_lt (x := 46) (Nat.le_of_ble_eq_true rfl)).mpr ?_
  show py_46 (pz_gt (ρ 0)) (pz_gN (ρ 0)) ((ρ 2) / 4) (ρ 3) (ρ 4)
  rw [F98] at F71 ⊢
  exact pr_s0 F70 (by decide) (by decide) F71 (by decide) F46

theorem axq_s0_sw3 : ax_RO ax_wC ax_XC axu_s0_sw3 := by
  intro ρ hp hE hT
  have j0 : ρ 0 % 4 = 1 := pz_gj hE 0 (Nat.le_of_ble_eq_true rfl) rfl
  have j1 : ρ 1 % 4 = 1 := pz_gj hE 1 (Nat.le_of_ble_eq_true rfl) rfl
  have j2 : ρ 2 % 4 = 1 := pz_gj hE 2 (Nat.le_of_ble_eq_true rfl) rfl
  have j3 : ρ 3 % 4 = 1 := pz_gj hE 3 (Nat.le_of_ble_eq_true rfl) rfl
  have j4 : ρ 4 % 4 = 1 := pz_gj hE 4 (Nat.le_of_ble_eq_true rfl) rfl
  have F71 : pz7 (pz_gt (ρ 0)) (pz_gN (ρ 0)) ((ρ 1) / 4) 1 := (ax_XF_lt (x := 71) (Nat.le_of_ble_eq_true rfl)).mp (ax_gx hE (71, [3, 7]) ax_m0)
  have F98 : (ρ 2) / 4 = (ρ 1) / 4 + 1 := (ax_XF_lt (x := 98) (Nat.le_of_ble_eq_true rfl)).mp (ax_gx hE (98, [7, 11]) ax_m1)
  have F72 : pz7 (pz_gt (ρ 0)) (pz_gN (ρ 0)) ((ρ 2) / 4) 2 := (ax_XF_lt (x := 72) (Nat.le_of_ble_eq_true rfl)).mp (ax_gx hE (72, [3, 11]) ax_m2)
  have F46 : py_46 (pz_gt (ρ 0)) (pz_gN (ρ 0)) ((ρ 1) / 4) (ρ 3) (ρ 4) := (ax_XF_lt (x := 46) (Nat.le_of_ble_eq_true rfl)).mp (ax_gx hE (46, [3, 7, 15, 19]) ax_m3)
  refine ⟨(fun y hy => by cases hy), _, List.mem_cons_self, ρ, fun _ _ => rfl, ax_px hE rfl (fun y hy => ?_)⟩
  cases List.mem_singleton.mp hy
  refine (ax_XF_lt (x := 46) (Nat.le_of_ble_eq_true rfl)).mpr ?_
  show py_46 (pz_gt (ρ 0)) (pz_gN (ρ 0)) ((ρ 2) / 4) (ρ 3) (ρ 4)
  rw [F98] at F72 ⊢
  exact pr_s0 F71 (by decide) (by decide) F72 (by decide) F46

theorem axq_s0_ro : ax_RO ax_wC ax_XC axu_s0_ro := by
  intro ρ hp hE hT
  have j0 : ρ 0 % 4 = 1 := pz_gj hE 0 (Nat.le_of_ble_eq_true rfl) rfl
  have j1 : ρ 1 % 4 = 1 := pz_gj hE 1 (Nat.le_of_ble_eq_true rfl) rfl
  have j2 : ρ 2 % 4 = 1 := pz_gj hE 2 (Nat.le_of_ble_eq_true rfl) rfl
  have j3 : ρ 3 % 4 = 1 := pz_gj hE 3 (Nat.le_of_ble_eq_true rfl) rfl
  have j4 : ρ 4 % 4 = 1 := pz_gj hE 4 (Nat.le_of_ble_eq_true rfl) rfl
  have F73 : pz7 (pz_gt (ρ 0)) (pz_gN (ρ 0)) ((ρ 1) / 4) 3 := (ax_XF_lt (x := 73) (Nat.le_of_ble_eq_true rfl)).mp (ax_gx hE (73, [3, 7]) ax_m0)
  have F98 : (ρ 2) / 4 = (ρ 1) / 4 + 1 := (ax_XF_lt (x := 98) (Nat.le_of_ble_eq_true rfl)).mp (ax_gx hE (98, [7, 11]) ax_m1)
  have F76 : pz7 (pz_gt (ρ 0)) (pz_gN (ρ 0)) ((ρ 2) / 4) 6 := (ax_XF_lt (x := 76) (Nat.le_of_ble_eq_true rfl)).mp (ax_gx hE (76, [3, 11]) ax_m2)
  have F46 : py_46 (pz_gt (ρ 0)) (pz_gN (ρ 0)) ((ρ 1) / 4) (ρ 3) (ρ 4) := (ax_XF_lt (x := 46) (Nat.le_of_ble_eq_true rfl)).mp (ax_gx hE (46, [3, 7, 15, 19]) ax_m3)
  refine ⟨(fun y hy => by cases hy), _, List.mem_cons_self, ρ, fun _ _ => rfl, ax_px hE rfl (fun y hy => ?_)⟩
  cases List.mem_singleton.mp hy
  refine (ax_XF_lt (x := 46) (Nat.le_of_ble_eq_true rfl)).mpr ?_
  show py_46 (pz_gt (ρ 0)) (pz_gN (ρ 0)) ((ρ 2) / 4) (ρ 3) (ρ 4)
  rw [F98] at F76 ⊢
  exact pr_s0 F73 (by decide) (by decide) F76 (by decide) F46

theorem axq_s0_rm : ax_RO ax_wC ax_XC axu_s0_rm := by
  intro ρ hp hE hT
  have j0 : ρ 0 % 4 = 1 := pz_gj hE 0 (Nat.le_of_ble_eq_true rfl) rfl
  have j1 : ρ 1 % 4 = 1 := pz_gj hE 1 (Nat.le_of_ble_eq_true rfl) rfl
  have j2 : ρ 2 % 4 = 1 := pz_gj hE 2 (Nat.le_of_ble_eq_true rfl) rfl
  have j3 : ρ 3 % 4 = 1 := pz_gj hE 3 (Nat.le_of_ble_eq_true rfl) rfl
  have j4 : ρ 4 % 4 = 1 := pz_gj hE 4 (Nat.le_of_ble_eq_true rfl) rfl
  have F73 : pz7 (pz_gt (ρ 0)) (pz_gN (ρ 0)) ((ρ 1) / 4) 3 := (ax_XF_lt (x := 73) (Nat.le_of_ble_eq_true rfl)).mp (ax_gx hE (73, [3, 7]) ax_m0)
  have F98 : (ρ 2) / 4 = (ρ 1) / 4 + 1 := (ax_XF_lt (x := 98) (Nat.le_of_ble_eq_true rfl)).mp (ax_gx hE (98, [7, 11]) ax_m1)
  have F77 : pz7 (pz_gt (ρ 0)) (pz_gN (ρ 0)) ((ρ 2) / 4) 7 := (ax_XF_lt (x := 77) (Nat.le_of_ble_eq_true rfl)).mp (ax_gx hE (77, [3, 11]) ax_m2)
  have F46 : py_46 (pz_gt (ρ 0)) (pz_gN (ρ 0)) ((ρ 1) / 4) (ρ 3) (ρ 4) := (ax_XF_lt (x := 46) (Nat.le_of_ble_eq_true rfl)).mp (ax_gx hE (46, [3, 7, 15, 19]) ax_m3)
  refine ⟨(fun y hy => by cases hy), _, List.mem_cons_self, ρ, fun _ _ => rfl, ax_px hE rfl (fun y hy => ?_)⟩
  cases List.mem_singleton.mp hy
  refine (ax_XF_lt (x := 46) (Nat.le_of_ble_eq_true rfl)).mpr ?_
  show py_46 (pz_gt (ρ 0)) (pz_gN (ρ 0)) ((ρ 2) / 4) (ρ 3) (ρ 4)
  rw [F98] at F77 ⊢
  exact pr_s0 F73 (by decide) (by decide) F77 (by decide) F46

theorem axq_s0_rk : ax_RO ax_wC ax_XC axu_s0_rk := by
  intro ρ hp hE hT
  have j0 : ρ 0 % 4 = 1 := pz_gj hE 0 (Nat.le_of_ble_eq_true rfl) rfl
  have j1 : ρ 1 % 4 = 1 := pz_gj hE 1 (Nat.le_of_ble_eq_true rfl) rfl
  have j2 : ρ 2 % 4 = 1 := pz_gj hE 2 (Nat.le_of_ble_eq_true rfl) rfl
  have j3 : ρ 3 % 4 = 1 := pz_gj hE 3 (Nat.le_of_ble_eq_true rfl) rfl
  have j4 : ρ 4 % 4 = 1 := pz_gj hE 4 (Nat.le_of_ble_eq_true rfl) rfl
  have F73 : pz7 (pz_gt (ρ 0)) (pz_gN (ρ 0)) ((ρ 1) / 4) 3 := (ax_XF_lt (x := 73) (Nat.le_of_ble_eq_true rfl)).mp (ax_gx hE (73, [3, 7]) ax_m0)
  have F98 : (ρ 2) / 4 = (ρ 1) / 4 + 1 := (ax_XF_lt (x := 98) (Nat.le_of_ble_eq_true rfl)).mp (ax_gx hE (98, [7, 11]) ax_m1)
  have F78 : pz7 (pz_gt (ρ 0)) (pz_gN (ρ 0)) ((ρ 2) / 4) 8 := (ax_XF_lt (x := 78) (Nat.le_of_ble_eq_true rfl)).mp (ax_gx hE (78, [3, 11]) ax_m2)
  have F46 : py_46 (pz_gt (ρ 0)) (pz_gN (ρ 0)) ((ρ 1) / 4) (ρ 3) (ρ 4) := (ax_XF_lt (x := 46) (Nat.le_of_ble_eq_true rfl)).mp (ax_gx hE (46, [3, 7, 15, 19]) ax_m3)
  refine ⟨(fun y hy => by cases hy), _, List.mem_cons_self, ρ, fun _ _ => rfl, ax_px hE rfl (fun y hy => ?_)⟩
  cases List.mem_singleton.mp hy
  refine (ax_XF_lt (x := 46) (Nat.le_of_ble_eq_true rfl)).mpr ?_
  show py_46 (pz_gt (ρ 0)) (pz_gN (ρ 0)) ((ρ 2) / 4) (ρ 3) (ρ 4)
  rw [F98] at F78 ⊢
  exact pr_s0 F73 (by decide) (by decide) F78 (by decide) F46

theorem axq_s0_ro2 : ax_RO ax_wC ax_XC axu_s0_ro2 := by
  intro ρ hp hE hT
  have j0 : ρ 0 % 4 = 1 := pz_gj hE 0 (Nat.le_of_ble_eq_true rfl) rfl
  have j1 : ρ 1 % 4 = 1 := pz_gj hE 1 (Nat.le_of_ble_eq_true rfl) rfl
  have j2 : ρ 2 % 4 = 1 := pz_gj hE 2 (Nat.le_of_ble_eq_true rfl) rfl
  have j3 : ρ 3 % 4 = 1 := pz_gj hE 3 (Nat.le_of_ble_eq_true rfl) rfl
  have j4 : ρ 4 % 4 = 1 := pz_gj hE 4 (Nat.le_of_ble_eq_true rfl) rfl
  have F76 : pz7 (pz_gt (ρ 0)) (pz_gN (ρ 0)) ((ρ 1) / 4) 6 := (ax_XF_lt (x := 76) (Nat.le_of_ble_eq_true rfl)).mp (ax_gx hE (76, [3, 7]) ax_m0)
  have F98 : (ρ 2) / 4 = (ρ 1) / 4 + 1 := (ax_XF_lt (x := 98) (Nat.le_of_ble_eq_true rfl)).mp (ax_gx hE (98, [7, 11]) ax_m1)
  have F72 : pz7 (pz_gt (ρ 0)) (pz_gN (ρ 0)) ((ρ 2) / 4) 2 := (ax_XF_lt (x := 72) (Nat.le_of_ble_eq_true rfl)).mp (ax_gx hE (72, [3, 11]) ax_m2)
  have F46 : py_46 (pz_gt (ρ 0)) (pz_gN (ρ 0)) ((ρ 1) / 4) (ρ 3) (ρ 4) := (ax_XF_lt (x := 46) (Nat.le_of_ble_eq_true rfl)).mp (ax_gx hE (46, [3, 7, 15, 19]) ax_m3)
  refine ⟨(fun y hy => by cases hy), _, List.mem_cons_self, ρ, fun _ _ => rfl, ax_px hE rfl (fun y hy => ?_)⟩
  cases List.mem_singleton.mp hy
  refine (ax_XF_lt (x := 46) (Nat.le_of_ble_eq_true rfl)).mpr ?_
  show py_46 (pz_gt (ρ 0)) (pz_gN (ρ 0)) ((ρ 2) / 4) (ρ 3) (ρ 4)
  rw [F98] at F72 ⊢
  exact pr_s0 F76 (by decide) (by decide) F72 (by decide) F46

theorem axq_s0_rm2 : ax_RO ax_wC ax_XC axu_s0_rm2 := by
  intro ρ hp hE hT
  have j0 : ρ 0 % 4 = 1 := pz_gj hE 0 (Nat.le_of_ble_eq_true rfl) rfl
  have j1 : ρ 1 % 4 = 1 := pz_gj hE 1 (Nat.le_of_ble_eq_true rfl) rfl
  have j2 : ρ 2 % 4 = 1 := pz_gj hE 2 (Nat.le_of_ble_eq_true rfl) rfl
  have j3 : ρ 3 % 4 = 1 := pz_gj hE 3 (Nat.le_of_ble_eq_true rfl) rfl
  have j4 : ρ 4 % 4 = 1 := pz_gj hE 4 (Nat.le_of_ble_eq_true rfl) rfl
  have F77 : pz7 (pz_gt (ρ 0)) (pz_gN (ρ 0)) ((ρ 1) / 4) 7 := (ax_XF_lt (x := 77) (Nat.le_of_ble_eq_true rfl)).mp (ax_gx hE (77, [3, 7]) ax_m0)
  have F98 : (ρ 2) / 4 = (ρ 1) / 4 + 1 := (ax_XF_lt (x := 98) (Nat.le_of_ble_eq_true rfl)).mp (ax_gx hE (98, [7, 11]) ax_m1)
  have F72 : pz7 (pz_gt (ρ 0)) (pz_gN (ρ 0)) ((ρ 2) / 4) 2 := (ax_XF_lt (x := 72) (Nat.le_of_ble_eq_true rfl)).mp (ax_gx hE (72, [3, 11]) ax_m2)
  have F46 : py_46 (pz_gt (ρ 0)) (pz_gN (ρ 0)) ((ρ 1) / 4) (ρ 3) (ρ 4) := (ax_XF_lt (x := 46) (Nat.le_of_ble_eq_true rfl)).mp (ax_gx hE (46, [3, 7, 15, 19]) ax_m3)
  refine ⟨(fun y hy => by cases hy), _, List.mem_cons_self, ρ, fun _ _ => rfl, ax_px hE rfl (fun y hy => ?_)⟩
  cases List.mem_singleton.mp hy
  refine (ax_XF_lt (x := 46) (Nat.le_of_ble_eq_true rfl)).mpr ?_
  show py_46 (pz_gt (ρ 0)) (pz_gN (ρ 0)) ((ρ 2) / 4) (ρ 3) (ρ 4)
  rw [F98] at F72 ⊢
  exact pr_s0 F77 (by decide) (by decide) F72 (by decide) F46

theorem axq_s0_lk2 : ax_RO ax_wC ax_XC axu_s0_lk2 := by
  intro ρ hp hE hT
  have j0 : ρ 0 % 4 = 1 := pz_gj hE 0 (Nat.le_of_ble_eq_true rfl) rfl
  have j1 : ρ 1 % 4 = 1 := pz_gj hE 1 (Nat.le_of_ble_eq_true rfl) rfl
  have j2 : ρ 2 % 4 = 1 := pz_gj hE 2 (Nat.le_of_ble_eq_true rfl) rfl
  have j3 : ρ 3 % 4 = 1 := pz_gj hE 3 (Nat.le_of_ble_eq_true rfl) rfl
  have j4 : ρ 4 % 4 = 1 := pz_gj hE 4 (Nat.le_of_ble_eq_true rfl) rfl
  have F73 : pz7 (pz_gt (ρ 0)) (pz_gN (ρ 0)) ((ρ 1) / 4) 3 := (ax_XF_lt (x := 73) (Nat.le_of_ble_eq_true rfl)).mp (ax_gx hE (73, [3, 7]) ax_m0)
  have F98 : (ρ 2) / 4 = (ρ 1) / 4 + 1 := (ax_XF_lt (x := 98) (Nat.le_of_ble_eq_true rfl)).mp (ax_gx hE (98, [7, 11]) ax_m1)
  have F74 : pz7 (pz_gt (ρ 0)) (pz_gN (ρ 0)) ((ρ 2) / 4) 4 := (ax_XF_lt (x := 74) (Nat.le_of_ble_eq_true rfl)).mp (ax_gx hE (74, [3, 11]) ax_m2)
  have F46 : py_46 (pz_gt (ρ 0)) (pz_gN (ρ 0)) ((ρ 1) / 4) (ρ 3) (ρ 4) := (ax_XF_lt (x := 46) (Nat.le_of_ble_eq_true rfl)).mp (ax_gx hE (46, [3, 7, 15, 19]) ax_m3)
  refine ⟨(fun y hy => by cases hy), _, List.mem_cons_self, ρ, fun _ _ => rfl, ax_px hE rfl (fun y hy => ?_)⟩
  cases List.mem_singleton.mp hy
  refine (ax_XF_lt (x := 46) (Nat.le_of_ble_eq_true rfl)).mpr ?_
  show py_46 (pz_gt (ρ 0)) (pz_gN (ρ 0)) ((ρ 2) / 4) (ρ 3) (ρ 4)
  rw [F98] at F74 ⊢
  exact pr_s0 F73 (by decide) (by decide) F74 (by decide) F46

theorem axq_s0_lk4 : ax_RO ax_wC ax_XC axu_s0_lk4 := by
  intro ρ hp hE hT
  have j0 : ρ 0 % 4 = 1 := pz_gj hE 0 (Nat.le_of_ble_eq_true rfl) rfl
  have j1 : ρ 1 % 4 = 1 := pz_gj hE 1 (Nat.le_of_ble_eq_true rfl) rfl
  have j2 : ρ 2 % 4 = 1 := pz_gj hE 2 (Nat.le_of_ble_eq_true rfl) rfl
  have j3 : ρ 3 % 4 = 1 := pz_gj hE 3 (Nat.le_of_ble_eq_true rfl) rfl
  have j4 : ρ 4 % 4 = 1 := pz_gj hE 4 (Nat.le_of_ble_eq_true rfl) rfl
  have F74 : pz7 (pz_gt (ρ 0)) (pz_gN (ρ 0)) ((ρ 1) / 4) 4 := (ax_XF_lt (x := 74) (Nat.le_of_ble_eq_true rfl)).mp (ax_gx hE (74, [3, 7]) ax_m0)
  have F98 : (ρ 2) / 4 = (ρ 1) / 4 + 1 := (ax_XF_lt (x := 98) (Nat.le_of_ble_eq_true rfl)).mp (ax_gx hE (98, [7, 11]) ax_m1)
  have F75 : pz7 (pz_gt (ρ 0)) (pz_gN (ρ 0)) ((ρ 2) / 4) 5 := (ax_XF_lt (x := 75) (Nat.le_of_ble_eq_true rfl)).mp (ax_gx hE (75, [3, 11]) ax_m2)
  have F46 : py_46 (pz_gt (ρ 0)) (pz_gN (ρ 0)) ((ρ 1) / 4) (ρ 3) (ρ 4) := (ax_XF_lt (x := 46) (Nat.le_of_ble_eq_true rfl)).mp (ax_gx hE (46, [3, 7, 15, 19]) ax_m3)
  refine ⟨(fun y hy => by cases hy), _, List.mem_cons_self, ρ, fun _ _ => rfl, ax_px hE rfl (fun y hy => ?_)⟩
  cases List.mem_singleton.mp hy
  refine (ax_XF_lt (x := 46) (Nat.le_of_ble_eq_true rfl)).mpr ?_
  show py_46 (pz_gt (ρ 0)) (pz_gN (ρ 0)) ((ρ 2) / 4) (ρ 3) (ρ 4)
  rw [F98] at F75 ⊢
  exact pr_s0 F74 (by decide) (by decide) F75 (by decide) F46

theorem axq_st1 : ax_RO ax_wC ax_XC axu_st1 := by
  intro ρ hp hE hT
  have j0 : ρ 0 % 4 = 1 := pz_gj hE 0 (Nat.le_of_ble_eq_true rfl) rfl
  have j1 : ρ 1 % 4 = 1 := pz_gj hE 1 (Nat.le_of_ble_eq_true rfl) rfl
  have c_codeSize : ay_at hp 10 5 = some (0) := ay_gfj hE 50 20 0 10 5 ax_m0 (ax_vlq rfl rfl) (ax_vlj rfl rfl)
  obtain ⟨-, -, -, -, F53⟩ : ay_ex hp 8 ∧ ay_ex hp 10 ∧ ay_ex hp 11 ∧ ay_ex hp 12 ∧ pz_x53 (ρ 0) (ρ 1) (ay_at hp 8 5) (ay_at hp 10 0) (ay_at hp 10 1) (ay_at hp 10 2) (ay_at hp 10 3) (ay_at hp 10 4) (ay_at hp 8 9) (ay_at hp 8 11) (ay_at hp 8 10) (ay_at hp 8 3) (ay_at hp 8 4) (ay_at hp 11) (ay_at hp 12) := (ax_XF_lt (x := 53) (Nat.le_of_ble_eq_true rfl)).mp (ax_gx hE (53, [3, 7]) ax_m1)
  have F70 : pz7 (pz_gt (ρ 0)) (pz_gN (ρ 0)) ((ρ 1) / 4) 0 := (ax_XF_lt (x := 70) (Nat.le_of_ble_eq_true rfl)).mp (ax_gx hE (70, [3, 7]) ax_m2)
  have F45 : py_44 1 (5) := (ax_XF_lt (x := 45) (Nat.le_of_ble_eq_true rfl)).mp (ax_gx hE (45, [5]) ax_m3)
  refine ⟨(fun y hy => by cases hy), _, List.mem_cons_self, ρ, fun _ _ => rfl, ax_px hE rfl (fun y hy => ?_)⟩
  rcases List.mem_cons.mp hy with e | hy
  · subst e
    refine (ax_XF_lt (x := 46) (Nat.le_of_ble_eq_true rfl)).mpr ?_
    show py_46 (pz_gt (ρ 0)) (pz_gN (ρ 0)) ((ρ 1) / 4) (5) (5)
    exact pr_46_0 F70
  cases List.mem_singleton.mp hy
  refine (ax_XF_lt (x := 41) (Nat.le_of_ble_eq_true rfl)).mpr ?_
  show ay_ex hp 10 ∧ ay_ex hp 15 ∧ ay_ex hp 16 ∧ py_x41 (5) (ay_at hp 10 5) (ay_at hp 15) (ay_at hp 16)
  refine ⟨(ax_cellT hT (q := 10) (g := 1) rfl), (ax_cellT hT (q := 15) (g := 18) rfl), (ax_cellT hT (q := 16) (g := 19) rfl), ?_⟩
  rw [c_codeSize]
  exact py_x41_0 rfl

theorem axq_st0 : ax_RO ax_wC ax_XC axu_st0 := by
  intro ρ hp hE hT
  have j0 : ρ 0 % 4 = 1 := pz_gj hE 0 (Nat.le_of_ble_eq_true rfl) rfl
  obtain ⟨-, -, F30⟩ : ay_ex hp 8 ∧ ay_ex hp 9 ∧ pz_x30 (ρ 0) (ay_at hp 8 1) (ay_at hp 9) := (ax_XF_lt (x := 30) (Nat.le_of_ble_eq_true rfl)).mp (ax_gx hE (30, [3]) ax_m0)
  refine ⟨(fun y hy => by cases hy), _, List.mem_cons_self, ρ, fun _ _ => rfl, ax_px hE rfl (fun y hy => ?_)⟩
  cases List.mem_singleton.mp hy
  refine (ax_XF_lt (x := 45) (Nat.le_of_ble_eq_true rfl)).mpr ?_
  show py_44 1 (5)
  exact ⟨by decide, by decide, by decide⟩

theorem axq_st2a : ax_RO ax_wC ax_XC axu_st2a := by
  intro ρ hp hE hT
  have j0 : ρ 0 % 4 = 1 := pz_gj hE 0 (Nat.le_of_ble_eq_true rfl) rfl
  have j1 : ρ 1 % 4 = 1 := pz_gj hE 1 (Nat.le_of_ble_eq_true rfl) rfl
  have j2 : ρ 2 % 4 = 1 := pz_gj hE 2 (Nat.le_of_ble_eq_true rfl) rfl
  obtain ⟨i3a, i3b, i3c, i3d⟩ := pz_gi hE 3 2147483648 2147483648 (Nat.le_of_ble_eq_true rfl) rfl
  have c_kind : ay_at hp 8 7 = some (ρ 3) := ay_gfj hE 42 28 15 8 7 ax_m2 (ax_vlq rfl rfl) (ax_vlj rfl rfl)
  obtain ⟨-, -, -, -, F50⟩ : ay_ex hp 8 ∧ ay_ex hp 10 ∧ ay_ex hp 11 ∧ ay_ex hp 12 ∧ pz_x50 (ρ 0) (ρ 1) (ay_at hp 8 5) (ay_at hp 8 6) (ay_at hp 8 7) (ay_at hp 8 8) (ay_at hp 10 0) (ay_at hp 10 1) (ay_at hp 10 2) (ay_at hp 10 3) (ay_at hp 10 4) (ay_at hp 8 9) (ay_at hp 8 11) (ay_at hp 8 10) (ay_at hp 8 3) (ay_at hp 8 4) (ay_at hp 11) (ay_at hp 12) := (ax_XF_lt (x := 50) (Nat.le_of_ble_eq_true rfl)).mp (ax_gx hE (50, [3, 7]) ax_m0)
  rw [c_kind] at F50
  have F70 : pz7 (pz_gt (ρ 0)) (pz_gN (ρ 0)) ((ρ 1) / 4) 0 := (ax_XF_lt (x := 70) (Nat.le_of_ble_eq_true rfl)).mp (ax_gx hE (70, [3, 7]) ax_m1)
  have F46 : py_46 (pz_gt (ρ 0)) (pz_gN (ρ 0)) ((ρ 1) / 4) (5) (ρ 2) := (ax_XF_lt (x := 46) (Nat.le_of_ble_eq_true rfl)).mp (ax_gx hE (46, [3, 7, 5, 11]) ax_m3)
  refine ⟨(fun y hy => by cases hy), _, List.mem_cons_self, ρ, fun _ _ => rfl, ax_px hE rfl (fun y hy => ?_)⟩
  cases List.mem_singleton.mp hy
  refine (ax_XF_lt (x := 82) (Nat.le_of_ble_eq_true rfl)).mpr ?_
  show py_82 (ρ 0) (ρ 2)
  have kd : ρ 3 / 4 = pz_kd (pz_gt (ρ 0)) (pz_gN (ρ 0)) (pz_p (pz_cf (pz_gt (ρ 0)) (pz_gN (ρ 0)) (ρ 1 / 4))) := F50.2.2.1
  exact pr_82 F70 (by decide) (by omega) F46

theorem axq_st2b : ax_RO ax_wC ax_XC axu_st2b := by
  intro ρ hp hE hT
  have j0 : ρ 0 % 4 = 1 := pz_gj hE 0 (Nat.le_of_ble_eq_true rfl) rfl
  have j1 : ρ 1 % 4 = 1 := pz_gj hE 1 (Nat.le_of_ble_eq_true rfl) rfl
  have j2 : ρ 2 % 4 = 1 := pz_gj hE 2 (Nat.le_of_ble_eq_true rfl) rfl
  obtain ⟨i3a, i3b, i3c, i3d⟩ := pz_gi hE 3 2147483648 2147483648 (Nat.le_of_ble_eq_true rfl) rfl
  have c_kind : ay_at hp 8 7 = some (ρ 3) := ay_gfj hE 42 28 15 8 7 ax_m2 (ax_vlq rfl rfl) (ax_vlj rfl rfl)
  obtain ⟨-, -, -, -, F50⟩ : ay_ex hp 8 ∧ ay_ex hp 10 ∧ ay_ex hp 11 ∧ ay_ex hp 12 ∧ pz_x50 (ρ 0) (ρ 1) (ay_at hp 8 5) (ay_at hp 8 6) (ay_at hp 8 7) (ay_at hp 8 8) (ay_at hp 10 0) (ay_at hp 10 1) (ay_at hp 10 2) (ay_at hp 10 3) (ay_at hp 10 4) (ay_at hp 8 9) (ay_at hp 8 11) (ay_at hp 8 10) (ay_at hp 8 3) (ay_at hp 8 4) (ay_at hp 11) (ay_at hp 12) := (ax_XF_lt (x := 50) (Nat.le_of_ble_eq_true rfl)).mp (ax_gx hE (50, [3, 7]) ax_m0)
  rw [c_kind] at F50
  have F73 : pz7 (pz_gt (ρ 0)) (pz_gN (ρ 0)) ((ρ 1) / 4) 3 := (ax_XF_lt (x := 73) (Nat.le_of_ble_eq_true rfl)).mp (ax_gx hE (73, [3, 7]) ax_m1)
  have F46 : py_46 (pz_gt (ρ 0)) (pz_gN (ρ 0)) ((ρ 1) / 4) (5) (ρ 2) := (ax_XF_lt (x := 46) (Nat.le_of_ble_eq_true rfl)).mp (ax_gx hE (46, [3, 7, 5, 11]) ax_m3)
  refine ⟨(fun y hy => by cases hy), _, List.mem_cons_self, ρ, fun _ _ => rfl, ax_px hE rfl (fun y hy => ?_)⟩
  cases List.mem_singleton.mp hy
  refine (ax_XF_lt (x := 82) (Nat.le_of_ble_eq_true rfl)).mpr ?_
  show py_82 (ρ 0) (ρ 2)
  have kd : ρ 3 / 4 = pz_kd (pz_gt (ρ 0)) (pz_gN (ρ 0)) (pz_p (pz_cf (pz_gt (ρ 0)) (pz_gN (ρ 0)) (ρ 1 / 4))) := F50.2.2.1
  exact pr_82 F73 (by decide) (by omega) F46

theorem axq_st2c : ax_RO ax_wC ax_XC axu_st2c := by
  intro ρ hp hE hT
  have j0 : ρ 0 % 4 = 1 := pz_gj hE 0 (Nat.le_of_ble_eq_true rfl) rfl
  have j1 : ρ 1 % 4 = 1 := pz_gj hE 1 (Nat.le_of_ble_eq_true rfl) rfl
  have j2 : ρ 2 % 4 = 1 := pz_gj hE 2 (Nat.le_of_ble_eq_true rfl) rfl
  obtain ⟨i3a, i3b, i3c, i3d⟩ := pz_gi hE 3 2147484448 2147484448 (Nat.le_of_ble_eq_true rfl) rfl
  obtain ⟨-, -, F30⟩ : ay_ex hp 8 ∧ ay_ex hp 9 ∧ pz_x30 (ρ 0) (ay_at hp 8 1) (ay_at hp 9) := (ax_XF_lt (x := 30) (Nat.le_of_ble_eq_true rfl)).mp (ax_gx hE (30, [3]) ax_m0)
  obtain ⟨-, -, -, -, F50⟩ : ay_ex hp 8 ∧ ay_ex hp 10 ∧ ay_ex hp 11 ∧ ay_ex hp 12 ∧ pz_x50 (ρ 0) (ρ 1) (ay_at hp 8 5) (ay_at hp 8 6) (ay_at hp 8 7) (ay_at hp 8 8) (ay_at hp 10 0) (ay_at hp 10 1) (ay_at hp 10 2) (ay_at hp 10 3) (ay_at hp 10 4) (ay_at hp 8 9) (ay_at hp 8 11) (ay_at hp 8 10) (ay_at hp 8 3) (ay_at hp 8 4) (ay_at hp 11) (ay_at hp 12) := (ax_XF_lt (x := 50) (Nat.le_of_ble_eq_true rfl)).mp (ax_gx hE (50, [3, 7]) ax_m1)
  have F73 : pz7 (pz_gt (ρ 0)) (pz_gN (ρ 0)) ((ρ 1) / 4) 3 := (ax_XF_lt (x := 73) (Nat.le_of_ble_eq_true rfl)).mp (ax_gx hE (73, [3, 7]) ax_m2)
  have F97 : (ρ 3) / 4 ≤ (ρ 1) / 4 := (ax_XF_lt (x := 97) (Nat.le_of_ble_eq_true rfl)).mp (ax_gx hE (97, [7, 15]) ax_m3)
  have F46 : py_46 (pz_gt (ρ 0)) (pz_gN (ρ 0)) ((ρ 1) / 4) (5) (ρ 2) := (ax_XF_lt (x := 46) (Nat.le_of_ble_eq_true rfl)).mp (ax_gx hE (46, [3, 7, 5, 11]) ax_m4)
  refine ⟨(fun y hy => by cases hy), _, List.mem_cons_self, ρ, fun _ _ => rfl, ax_px hE rfl (fun y hy => ?_)⟩
  cases List.mem_singleton.mp hy
  refine (ax_XF_lt (x := 82) (Nat.le_of_ble_eq_true rfl)).mpr ?_
  show py_82 (ρ 0) (ρ 2)
  have kd := pq_far (n := ρ 1 / 4) F73 (by decide) (show pz_gN (ρ 0) ≤ 800 from F30.2.1) (by omega)
  exact pr_82 F73 (by decide) kd F46

theorem axq_ac1 : ax_RO ax_wC ax_XC axu_ac1 := by
  intro ρ hp hE hT
  have j0 : ρ 0 % 4 = 1 := pz_gj hE 0 (Nat.le_of_ble_eq_true rfl) rfl
  obtain ⟨i1a, i1b, i1c, i1d⟩ := pz_gi hE 1 2147483648 2147483728 (Nat.le_of_ble_eq_true rfl) rfl
  have c_codeSize : ay_at hp 10 5 = some (ρ 1) := ay_gfj hE 50 20 7 10 5 ax_m2 (ax_vlq rfl rfl) (ax_vlj rfl rfl)
  obtain ⟨-, -, -, F41⟩ : ay_ex hp 10 ∧ ay_ex hp 15 ∧ ay_ex hp 16 ∧ py_x41 (ρ 0) (ay_at hp 10 5) (ay_at hp 15) (ay_at hp 16) := (ax_XF_lt (x := 41) (Nat.le_of_ble_eq_true rfl)).mp (ax_gx hE (41, [3]) ax_m0)
  rw [c_codeSize] at F41
  have F40 : py_40 (ρ 0) := (ax_XF_lt (x := 40) (Nat.le_of_ble_eq_true rfl)).mp (ax_gx hE (40, [3]) ax_m1)
  have e : ρ 1 / 4 = (py_L (ρ 0 / 4)).length := F41.2.1
  have e2 := F40.1
  refine ⟨fun y hy => ?_, _, List.mem_cons_self, ρ, fun _ _ => rfl, ax_px hE rfl (fun y hy => by cases hy)⟩
  cases List.mem_singleton.mp hy
  show 2147483648 ≤ rx_bi (ρ 1 / 4) ∧ rx_bi (ρ 1 / 4) ≤ 2147483727
  rw [ax_bi_def]
  omega

theorem axq_ac2 : ax_RO ax_wC ax_XC axu_ac2 := by
  intro ρ hp hE hT
  have j0 : ρ 0 % 4 = 1 := pz_gj hE 0 (Nat.le_of_ble_eq_true rfl) rfl
  obtain ⟨i1a, i1b, i1c, i1d⟩ := pz_gi hE 1 2147483648 2147483727 (Nat.le_of_ble_eq_true rfl) rfl
  obtain ⟨i2a, i2b, i2c, i2d⟩ := pz_gi hE 2 0 4294967295 (Nat.le_of_ble_eq_true rfl) rfl
  have c_fops : ay_at hp 10 10 = some (ρ 3) := ay_gfj hE 50 40 15 10 10 ax_m2 (ax_vlq rfl rfl) (ax_vlj rfl rfl)
  have c_codeSize : ay_at hp 10 5 = some (ρ 1) := ay_gfj hE 50 20 7 10 5 ax_m3 (ax_vlq rfl rfl) (ax_vlj rfl rfl)
  obtain ⟨-, F31⟩ : ay_ex hp 10 ∧ pz_x31 (ay_at hp 10 6) (ay_at hp 10 7) (ay_at hp 10 10) (ay_at hp 10 11) := (ax_XF_lt (x := 31) (Nat.le_of_ble_eq_true rfl)).mp (ax_gx hE (31, []) ax_m0)
  rw [c_fops] at F31
  obtain ⟨-, -, -, F41⟩ : ay_ex hp 10 ∧ ay_ex hp 15 ∧ ay_ex hp 16 ∧ py_x41 (ρ 0) (ay_at hp 10 5) (ay_at hp 15) (ay_at hp 16) := (ax_XF_lt (x := 41) (Nat.le_of_ble_eq_true rfl)).mp (ax_gx hE (41, [3]) ax_m1)
  rw [c_codeSize] at F41
  have h6 : ρ 3 = 70 := Option.some.inj F31.2.2.1
  refine ⟨(fun y hy => by cases hy), _, List.mem_cons_self, ρ, fun _ _ => rfl, ax_px hE rfl (fun y hy => ?_)⟩
  cases List.mem_singleton.mp hy
  refine (ax_XF_wr (x := 80) (Nat.le_of_ble_eq_true rfl)).mpr ?_
  show ay_ex (ax_upd hp (ρ 3) (ρ 1) (ρ 2)) 10 ∧ ay_ex (ax_upd hp (ρ 3) (ρ 1) (ρ 2)) 15 ∧ ay_ex (ax_upd hp (ρ 3) (ρ 1) (ρ 2)) 16 ∧ py_x80 (ρ 0) (ρ 2) (ay_at (ax_upd hp (ρ 3) (ρ 1) (ρ 2)) 10 5) (ay_at (ax_upd hp (ρ 3) (ρ 1) (ρ 2)) 15) (ay_at (ax_upd hp (ρ 3) (ρ 1) (ρ 2)) 16)
  rw [h6]
  obtain ⟨o0, ho0⟩ := ay_some hT (q := 15) (g := 18) (n := 80) rfl rfl (j := ρ 1 / 4) (by omega)
  have u1 : ∀ q, q ≠ 15 → ay_at (ax_upd hp 70 (ρ 1) (ρ 2)) q = ay_at hp q := fun q hq => funext (fun j => ay_upd_ne hT.1 hq j)
  have u2 : ∀ j, ay_at (ax_upd hp 70 (ρ 1) (ρ 2)) 15 j = if j = ρ 1 / 4 then some (ρ 2) else ay_at hp 15 j := fun j => ay_upd_eq hT.1 rfl ho0 j
  refine ⟨ay_ex_upd hT.1 (ax_cellT hT (q := 10) (g := 1) rfl), ay_ex_upd hT.1 (ax_cellT hT (q := 15) (g := 18) rfl), ay_ex_upd hT.1 (ax_cellT hT (q := 16) (g := 19) rfl), ?_⟩
  rw [u1 10 (Nat.ne_of_beq_eq_false rfl), u1 16 (Nat.ne_of_beq_eq_false rfl)]
  rw [c_codeSize]
  have ez : ρ 1 / 4 = (py_L (ρ 0 / 4)).length := F41.2.1
  refine ⟨⟨F41.1, F41.2.1, fun i c hc => ?_⟩, ?_⟩
  · obtain ⟨o, v, h1, h2, h3⟩ := F41.2.2 i c hc
    have hi := (List.getElem?_eq_some_iff.mp hc).1
    rw [List.length_reverse] at hi
    exact ⟨o, v, by rw [u2, if_neg (by omega)]; exact h1, h2, h3⟩
  · rw [u2, if_pos ez.symm]

theorem axq_ac3 : ax_RO ax_wC ax_XC axu_ac3 := by
  intro ρ hp hE hT
  have j0 : ρ 0 % 4 = 1 := pz_gj hE 0 (Nat.le_of_ble_eq_true rfl) rfl
  obtain ⟨i1a, i1b, i1c, i1d⟩ := pz_gi hE 1 2147483648 2147483727 (Nat.le_of_ble_eq_true rfl) rfl
  obtain ⟨i2a, i2b, i2c, i2d⟩ := pz_gi hE 2 0 4294967295 (Nat.le_of_ble_eq_true rfl) rfl
  obtain ⟨i3a, i3b, i3c, i3d⟩ := pz_gi hE 3 0 4294967295 (Nat.le_of_ble_eq_true rfl) rfl
  have c_fods : ay_at hp 10 11 = some (ρ 4) := ay_gfj hE 50 44 19 10 11 ax_m2 (ax_vlq rfl rfl) (ax_vlj rfl rfl)
  have c_codeSize : ay_at hp 10 5 = some (ρ 1) := ay_gfj hE 50 20 7 10 5 ax_m3 (ax_vlq rfl rfl) (ax_vlj rfl rfl)
  obtain ⟨-, F31⟩ : ay_ex hp 10 ∧ pz_x31 (ay_at hp 10 6) (ay_at hp 10 7) (ay_at hp 10 10) (ay_at hp 10 11) := (ax_XF_lt (x := 31) (Nat.le_of_ble_eq_true rfl)).mp (ax_gx hE (31, []) ax_m0)
  rw [c_fods] at F31
  obtain ⟨-, -, -, F80⟩ : ay_ex hp 10 ∧ ay_ex hp 15 ∧ ay_ex hp 16 ∧ py_x80 (ρ 0) (ρ 2) (ay_at hp 10 5) (ay_at hp 15) (ay_at hp 16) := (ax_XF_lt (x := 80) (Nat.le_of_ble_eq_true rfl)).mp (ax_gx hE (80, [3, 11]) ax_m1)
  rw [c_codeSize] at F80
  have h6 : ρ 4 = 74 := Option.some.inj F31.2.2.2
  refine ⟨(fun y hy => by cases hy), _, List.mem_cons_self, ρ, fun _ _ => rfl, ax_px hE rfl (fun y hy => ?_)⟩
  cases List.mem_singleton.mp hy
  refine (ax_XF_wr (x := 81) (Nat.le_of_ble_eq_true rfl)).mpr ?_
  show ay_ex (ax_upd hp (ρ 4) (ρ 1) (ρ 3)) 10 ∧ ay_ex (ax_upd hp (ρ 4) (ρ 1) (ρ 3)) 15 ∧ ay_ex (ax_upd hp (ρ 4) (ρ 1) (ρ 3)) 16 ∧ py_x81 (ρ 0) (ρ 2) (ρ 3) (ay_at (ax_upd hp (ρ 4) (ρ 1) (ρ 3)) 10 5) (ay_at (ax_upd hp (ρ 4) (ρ 1) (ρ 3)) 15) (ay_at (ax_upd hp (ρ 4) (ρ 1) (ρ 3)) 16)
  rw [h6]
  obtain ⟨o0, ho0⟩ := ay_some hT (q := 16) (g := 19) (n := 80) rfl rfl (j := ρ 1 / 4) (by omega)
  have u1 : ∀ q, q ≠ 16 → ay_at (ax_upd hp 74 (ρ 1) (ρ 3)) q = ay_at hp q := fun q hq => funext (fun j => ay_upd_ne hT.1 hq j)
  have u2 : ∀ j, ay_at (ax_upd hp 74 (ρ 1) (ρ 3)) 16 j = if j = ρ 1 / 4 then some (ρ 3) else ay_at hp 16 j := fun j => ay_upd_eq hT.1 rfl ho0 j
  refine ⟨ay_ex_upd hT.1 (ax_cellT hT (q := 10) (g := 1) rfl), ay_ex_upd hT.1 (ax_cellT hT (q := 15) (g := 18) rfl), ay_ex_upd hT.1 (ax_cellT hT (q := 16) (g := 19) rfl), ?_⟩
  rw [u1 10 (Nat.ne_of_beq_eq_false rfl), u1 15 (Nat.ne_of_beq_eq_false rfl)]
  rw [c_codeSize]
  have ez : ρ 1 / 4 = (py_L (ρ 0 / 4)).length := F80.1.2.1
  refine ⟨⟨⟨F80.1.1, F80.1.2.1, fun i c hc => ?_⟩, F80.2⟩, ?_⟩
  · obtain ⟨o, v, h1, h2, h3⟩ := F80.1.2.2 i c hc
    have hi := (List.getElem?_eq_some_iff.mp hc).1
    rw [List.length_reverse] at hi
    exact ⟨o, v, h1, by rw [u2, if_neg (by omega)]; exact h2, h3⟩
  · rw [u2, if_pos ez.symm]

theorem axq_ac4_1 : ax_RO ax_wC ax_XC axu_ac4_1 := by
  intro ρ hp hE hT
  have j0 : ρ 0 % 4 = 1 := pz_gj hE 0 (Nat.le_of_ble_eq_true rfl) rfl
  obtain ⟨i1a, i1b, i1c, i1d⟩ := pz_gi hE 1 2147483648 2147483727 (Nat.le_of_ble_eq_true rfl) rfl
  obtain ⟨i2a, i2b, i2c, i2d⟩ := pz_gi hE 2 0 4294967295 (Nat.le_of_ble_eq_true rfl) rfl
  obtain ⟨i3a, i3b, i3c, i3d⟩ := pz_gi hE 3 2147483649 2147483649 (Nat.le_of_ble_eq_true rfl) rfl
  obtain ⟨i4a, i4b, i4c, i4d⟩ := pz_gi hE 4 2147483648 2147484647 (Nat.le_of_ble_eq_true rfl) rfl
  have c_codeSize : ay_at hp 10 5 = some (ρ 1) := ay_gfj hE 50 20 7 10 5 ax_m1 (ax_vlq rfl rfl) (ax_vlj rfl rfl)
  have s1 : (ρ 1 / 4 + 2147483648) % 4294967296 + (4 / 4 + 2147483648) % 4294967296 = (ρ 2 / 4 + 2147483648) % 4294967296 + 2147483648 := pz_gs hE 7 4 11 ax_m2
  obtain ⟨-, -, -, F81⟩ : ay_ex hp 10 ∧ ay_ex hp 15 ∧ ay_ex hp 16 ∧ py_x81 (ρ 0) (ρ 3) (ρ 4) (ay_at hp 10 5) (ay_at hp 15) (ay_at hp 16) := (ax_XF_lt (x := 81) (Nat.le_of_ble_eq_true rfl)).mp (ax_gx hE (81, [3, 15, 19]) ax_m0)
  rw [c_codeSize] at F81
  have e3 : ρ 3 / 4 = 1 := by omega
  have h3 : ρ 3 = 4 * (ρ 3 / 4) := by omega
  have h4 : ρ 4 = 4 * (ρ 4 / 4) := by omega
  rw [h3, h4] at F81
  have hl : 1 ≤ ρ 0 / 4 := F81.1.1.1
  have hc : ρ 4 / 4 < 4096 := by omega
  have hk : py_ok (ρ 3 / 4) (ρ 4 / 4) (ρ 4 / 4) := Or.inl ⟨e3, rfl, by omega⟩
  obtain ⟨ρ', h1, h2⟩ := pz_pn1 (K := ρ 0 / 4 * 4096 + ρ 4 / 4) (xf := [(541, [50, 20, 11, 23]), (99, [23, 19, 3])]) hE (by decide) (fun ρ' h1 h2 x hx => by
    have q0 : ρ' 0 = ρ 0 := h1 0 (by decide)
    have q1 : ρ' 1 = ρ 1 := h1 1 (by decide)
    have q2 : ρ' 2 = ρ 2 := h1 2 (by decide)
    have q3 : ρ' 3 = ρ 3 := h1 3 (by decide)
    have q4 : ρ' 4 = ρ 4 := h1 4 (by decide)
    rcases List.mem_cons.mp hx with e | hx
    · subst e
      refine (ax_XF_wr (x := 41) (Nat.le_of_ble_eq_true rfl)).mpr ?_
      show ay_ex (ax_upd hp 50 (20) (ρ' 2)) 10 ∧ ay_ex (ax_upd hp 50 (20) (ρ' 2)) 15 ∧ ay_ex (ax_upd hp 50 (20) (ρ' 2)) 16 ∧ py_x41 (ρ' 5) (ay_at (ax_upd hp 50 (20) (ρ' 2)) 10 5) (ay_at (ax_upd hp 50 (20) (ρ' 2)) 15) (ay_at (ax_upd hp 50 (20) (ρ' 2)) 16)
      rw [q2, h2]
      obtain ⟨o0, ho0⟩ := ay_some hT (q := 10) (g := 1) (n := 12) rfl rfl (j := 20 / 4) (Nat.le_of_ble_eq_true rfl)
      have u1 : ∀ q, q ≠ 10 → ay_at (ax_upd hp 50 20 (ρ 2)) q = ay_at hp q := fun q hq => funext (fun j => ay_upd_ne hT.1 hq j)
      have u2 : ∀ j, ay_at (ax_upd hp 50 20 (ρ 2)) 10 j = if j = 5 then some (ρ 2) else ay_at hp 10 j := fun j => ay_upd_eq hT.1 rfl ho0 j
      refine ⟨ay_ex_upd hT.1 (ax_cellT hT (q := 10) (g := 1) rfl), ay_ex_upd hT.1 (ax_cellT hT (q := 15) (g := 18) rfl), ay_ex_upd hT.1 (ax_cellT hT (q := 16) (g := 19) rfl), ?_⟩
      rw [u2 5, if_pos rfl, u1 15 (Nat.ne_of_beq_eq_false rfl), u1 16 (Nat.ne_of_beq_eq_false rfl)]
      exact py_add F81 hk ⟨pz_41 _, hl, hc⟩ (show ρ 2 / 4 = ρ 1 / 4 + 1 by omega)
    cases List.mem_singleton.mp hx
    refine (ax_XF_lt (x := 99) (Nat.le_of_ble_eq_true rfl)).mpr ?_
    show py_99 (ρ' 5) (ρ' 4) (ρ' 0)
    rw [q0, q4, h2]
    exact ⟨pz_41 _, hl, hc⟩)
  exact ⟨(fun y hy => by cases hy), _, List.mem_cons_self, ρ', h1, h2⟩

theorem axq_ac4_2 : ax_RO ax_wC ax_XC axu_ac4_2 := by
  intro ρ hp hE hT
  have j0 : ρ 0 % 4 = 1 := pz_gj hE 0 (Nat.le_of_ble_eq_true rfl) rfl
  obtain ⟨i1a, i1b, i1c, i1d⟩ := pz_gi hE 1 2147483648 2147483727 (Nat.le_of_ble_eq_true rfl) rfl
  obtain ⟨i2a, i2b, i2c, i2d⟩ := pz_gi hE 2 0 4294967295 (Nat.le_of_ble_eq_true rfl) rfl
  obtain ⟨i3a, i3b, i3c, i3d⟩ := pz_gi hE 3 2147483650 2147483650 (Nat.le_of_ble_eq_true rfl) rfl
  obtain ⟨i4a, i4b, i4c, i4d⟩ := pz_gi hE 4 0 4294967295 (Nat.le_of_ble_eq_true rfl) rfl
  have c_codeSize : ay_at hp 10 5 = some (ρ 1) := ay_gfj hE 50 20 7 10 5 ax_m1 (ax_vlq rfl rfl) (ax_vlj rfl rfl)
  have s1 : (ρ 1 / 4 + 2147483648) % 4294967296 + (4 / 4 + 2147483648) % 4294967296 = (ρ 2 / 4 + 2147483648) % 4294967296 + 2147483648 := pz_gs hE 7 4 11 ax_m2
  obtain ⟨-, -, -, F81⟩ : ay_ex hp 10 ∧ ay_ex hp 15 ∧ ay_ex hp 16 ∧ py_x81 (ρ 0) (ρ 3) (ρ 4) (ay_at hp 10 5) (ay_at hp 15) (ay_at hp 16) := (ax_XF_lt (x := 81) (Nat.le_of_ble_eq_true rfl)).mp (ax_gx hE (81, [3, 15, 19]) ax_m0)
  rw [c_codeSize] at F81
  have e3 : ρ 3 / 4 = 2 := by omega
  have h3 : ρ 3 = 4 * (ρ 3 / 4) := by omega
  have h4 : ρ 4 = 4 * (ρ 4 / 4) := by omega
  rw [h3, h4] at F81
  have hl : 1 ≤ ρ 0 / 4 := F81.1.1.1
  have hc : 4000 / 4 < 4096 := by omega
  have hk : py_ok (ρ 3 / 4) (ρ 4 / 4) (4000 / 4) := Or.inr (Or.inl ⟨e3, rfl⟩)
  obtain ⟨ρ', h1, h2⟩ := pz_pn1 (K := ρ 0 / 4 * 4096 + 4000 / 4) (xf := [(541, [50, 20, 11, 23]), (99, [23, 4000, 3])]) hE (by decide) (fun ρ' h1 h2 x hx => by
    have q0 : ρ' 0 = ρ 0 := h1 0 (by decide)
    have q1 : ρ' 1 = ρ 1 := h1 1 (by decide)
    have q2 : ρ' 2 = ρ 2 := h1 2 (by decide)
    have q3 : ρ' 3 = ρ 3 := h1 3 (by decide)
    have q4 : ρ' 4 = ρ 4 := h1 4 (by decide)
    rcases List.mem_cons.mp hx with e | hx
    · subst e
      refine (ax_XF_wr (x := 41) (Nat.le_of_ble_eq_true rfl)).mpr ?_
      show ay_ex (ax_upd hp 50 (20) (ρ' 2)) 10 ∧ ay_ex (ax_upd hp 50 (20) (ρ' 2)) 15 ∧ ay_ex (ax_upd hp 50 (20) (ρ' 2)) 16 ∧ py_x41 (ρ' 5) (ay_at (ax_upd hp 50 (20) (ρ' 2)) 10 5) (ay_at (ax_upd hp 50 (20) (ρ' 2)) 15) (ay_at (ax_upd hp 50 (20) (ρ' 2)) 16)
      rw [q2, h2]
      obtain ⟨o0, ho0⟩ := ay_some hT (q := 10) (g := 1) (n := 12) rfl rfl (j := 20 / 4) (Nat.le_of_ble_eq_true rfl)
      have u1 : ∀ q, q ≠ 10 → ay_at (ax_upd hp 50 20 (ρ 2)) q = ay_at hp q := fun q hq => funext (fun j => ay_upd_ne hT.1 hq j)
      have u2 : ∀ j, ay_at (ax_upd hp 50 20 (ρ 2)) 10 j = if j = 5 then some (ρ 2) else ay_at hp 10 j := fun j => ay_upd_eq hT.1 rfl ho0 j
      refine ⟨ay_ex_upd hT.1 (ax_cellT hT (q := 10) (g := 1) rfl), ay_ex_upd hT.1 (ax_cellT hT (q := 15) (g := 18) rfl), ay_ex_upd hT.1 (ax_cellT hT (q := 16) (g := 19) rfl), ?_⟩
      rw [u2 5, if_pos rfl, u1 15 (Nat.ne_of_beq_eq_false rfl), u1 16 (Nat.ne_of_beq_eq_false rfl)]
      exact py_add F81 hk ⟨pz_41 _, hl, hc⟩ (show ρ 2 / 4 = ρ 1 / 4 + 1 by omega)
    cases List.mem_singleton.mp hx
    refine (ax_XF_lt (x := 99) (Nat.le_of_ble_eq_true rfl)).mpr ?_
    show py_99 (ρ' 5) (4000) (ρ' 0)
    rw [q0, h2]
    exact ⟨pz_41 _, hl, hc⟩)
  exact ⟨(fun y hy => by cases hy), _, List.mem_cons_self, ρ', h1, h2⟩
end
section
theorem axq_ac4_3 : ax_RO ax_wC ax_XC axu_ac4_3 := by
  intro ρ hp hE hT
  have j0 : ρ 0 % 4 = 1 := pz_gj hE 0 (Nat.le_of_ble_eq_true rfl) rfl
  obtain ⟨i1a, i1b, i1c, i1d⟩ := pz_gi hE 1 2147483648 2147483727 (Nat.le_of_ble_eq_true rfl) rfl
  obtain ⟨i2a, i2b, i2c, i2d⟩ := pz_gi hE 2 0 4294967295 (Nat.le_of_ble_eq_true rfl) rfl
  obtain ⟨i3a, i3b, i3c, i3d⟩ := pz_gi hE 3 2147483651 2147483651 (Nat.le_of_ble_eq_true rfl) rfl
  obtain ⟨i4a, i4b, i4c, i4d⟩ := pz_gi hE 4 0 4294967295 (Nat.le_of_ble_eq_true rfl) rfl
  have c_codeSize : ay_at hp 10 5 = some (ρ 1) := ay_gfj hE 50 20 7 10 5 ax_m1 (ax_vlq rfl rfl) (ax_vlj rfl rfl)
  have s1 : (ρ 1 / 4 + 2147483648) % 4294967296 + (4 / 4 + 2147483648) % 4294967296 = (ρ 2 / 4 + 2147483648) % 4294967296 + 2147483648 := pz_gs hE 7 4 11 ax_m2
  obtain ⟨-, -, -, F81⟩ : ay_ex hp 10 ∧ ay_ex hp 15 ∧ ay_ex hp 16 ∧ py_x81 (ρ 0) (ρ 3) (ρ 4) (ay_at hp 10 5) (ay_at hp 15) (ay_at hp 16) := (ax_XF_lt (x := 81) (Nat.le_of_ble_eq_true rfl)).mp (ax_gx hE (81, [3, 15, 19]) ax_m0)
  rw [c_codeSize] at F81
  have e3 : ρ 3 / 4 = 3 := by omega
  have h3 : ρ 3 = 4 * (ρ 3 / 4) := by omega
  have h4 : ρ 4 = 4 * (ρ 4 / 4) := by omega
  rw [h3, h4] at F81
  have hl : 1 ≤ ρ 0 / 4 := F81.1.1.1
  have hc : 4004 / 4 < 4096 := by omega
  have hk : py_ok (ρ 3 / 4) (ρ 4 / 4) (4004 / 4) := Or.inr (Or.inr (Or.inl ⟨e3, rfl⟩))
  obtain ⟨ρ', h1, h2⟩ := pz_pn1 (K := ρ 0 / 4 * 4096 + 4004 / 4) (xf := [(541, [50, 20, 11, 23]), (99, [23, 4004, 3])]) hE (by decide) (fun ρ' h1 h2 x hx => by
    have q0 : ρ' 0 = ρ 0 := h1 0 (by decide)
    have q1 : ρ' 1 = ρ 1 := h1 1 (by decide)
    have q2 : ρ' 2 = ρ 2 := h1 2 (by decide)
    have q3 : ρ' 3 = ρ 3 := h1 3 (by decide)
    have q4 : ρ' 4 = ρ 4 := h1 4 (by decide)
    rcases List.mem_cons.mp hx with e | hx
    · subst e
      refine (ax_XF_wr (x := 41) (Nat.le_of_ble_eq_true rfl)).mpr ?_
      show ay_ex (ax_upd hp 50 (20) (ρ' 2)) 10 ∧ ay_ex (ax_upd hp 50 (20) (ρ' 2)) 15 ∧ ay_ex (ax_upd hp 50 (20) (ρ' 2)) 16 ∧ py_x41 (ρ' 5) (ay_at (ax_upd hp 50 (20) (ρ' 2)) 10 5) (ay_at (ax_upd hp 50 (20) (ρ' 2)) 15) (ay_at (ax_upd hp 50 (20) (ρ' 2)) 16)
      rw [q2, h2]
      obtain ⟨o0, ho0⟩ := ay_some hT (q := 10) (g := 1) (n := 12) rfl rfl (j := 20 / 4) (Nat.le_of_ble_eq_true rfl)
      have u1 : ∀ q, q ≠ 10 → ay_at (ax_upd hp 50 20 (ρ 2)) q = ay_at hp q := fun q hq => funext (fun j => ay_upd_ne hT.1 hq j)
      have u2 : ∀ j, ay_at (ax_upd hp 50 20 (ρ 2)) 10 j = if j = 5 then some (ρ 2) else ay_at hp 10 j := fun j => ay_upd_eq hT.1 rfl ho0 j
      refine ⟨ay_ex_upd hT.1 (ax_cellT hT (q := 10) (g := 1) rfl), ay_ex_upd hT.1 (ax_cellT hT (q := 15) (g := 18) rfl), ay_ex_upd hT.1 (ax_cellT hT (q := 16) (g := 19) rfl), ?_⟩
      rw [u2 5, if_pos rfl, u1 15 (Nat.ne_of_beq_eq_false rfl), u1 16 (Nat.ne_of_beq_eq_false rfl)]
      exact py_add F81 hk ⟨pz_41 _, hl, hc⟩ (show ρ 2 / 4 = ρ 1 / 4 + 1 by omega)
    cases List.mem_singleton.mp hx
    refine (ax_XF_lt (x := 99) (Nat.le_of_ble_eq_true rfl)).mpr ?_
    show py_99 (ρ' 5) (4004) (ρ' 0)
    rw [q0, h2]
    exact ⟨pz_41 _, hl, hc⟩)
  exact ⟨(fun y hy => by cases hy), _, List.mem_cons_self, ρ', h1, h2⟩

theorem axq_ac4_4 : ax_RO ax_wC ax_XC axu_ac4_4 := by
  intro ρ hp hE hT
  have j0 : ρ 0 % 4 = 1 := pz_gj hE 0 (Nat.le_of_ble_eq_true rfl) rfl
  obtain ⟨i1a, i1b, i1c, i1d⟩ := pz_gi hE 1 2147483648 2147483727 (Nat.le_of_ble_eq_true rfl) rfl
  obtain ⟨i2a, i2b, i2c, i2d⟩ := pz_gi hE 2 0 4294967295 (Nat.le_of_ble_eq_true rfl) rfl
  obtain ⟨i3a, i3b, i3c, i3d⟩ := pz_gi hE 3 2147483652 2147483652 (Nat.le_of_ble_eq_true rfl) rfl
  obtain ⟨i4a, i4b, i4c, i4d⟩ := pz_gi hE 4 0 4294967295 (Nat.le_of_ble_eq_true rfl) rfl
  have c_codeSize : ay_at hp 10 5 = some (ρ 1) := ay_gfj hE 50 20 7 10 5 ax_m1 (ax_vlq rfl rfl) (ax_vlj rfl rfl)
  have s1 : (ρ 1 / 4 + 2147483648) % 4294967296 + (4 / 4 + 2147483648) % 4294967296 = (ρ 2 / 4 + 2147483648) % 4294967296 + 2147483648 := pz_gs hE 7 4 11 ax_m2
  obtain ⟨-, -, -, F81⟩ : ay_ex hp 10 ∧ ay_ex hp 15 ∧ ay_ex hp 16 ∧ py_x81 (ρ 0) (ρ 3) (ρ 4) (ay_at hp 10 5) (ay_at hp 15) (ay_at hp 16) := (ax_XF_lt (x := 81) (Nat.le_of_ble_eq_true rfl)).mp (ax_gx hE (81, [3, 15, 19]) ax_m0)
  rw [c_codeSize] at F81
  have e3 : ρ 3 / 4 = 4 := by omega
  have h3 : ρ 3 = 4 * (ρ 3 / 4) := by omega
  have h4 : ρ 4 = 4 * (ρ 4 / 4) := by omega
  rw [h3, h4] at F81
  have hl : 1 ≤ ρ 0 / 4 := F81.1.1.1
  have hc : 4008 / 4 < 4096 := by omega
  have hk : py_ok (ρ 3 / 4) (ρ 4 / 4) (4008 / 4) := Or.inr (Or.inr (Or.inr (Or.inl ⟨e3, rfl⟩)))
  obtain ⟨ρ', h1, h2⟩ := pz_pn1 (K := ρ 0 / 4 * 4096 + 4008 / 4) (xf := [(541, [50, 20, 11, 23]), (99, [23, 4008, 3])]) hE (by decide) (fun ρ' h1 h2 x hx => by
    have q0 : ρ' 0 = ρ 0 := h1 0 (by decide)
    have q1 : ρ' 1 = ρ 1 := h1 1 (by decide)
    have q2 : ρ' 2 = ρ 2 := h1 2 (by decide)
    have q3 : ρ' 3 = ρ 3 := h1 3 (by decide)
    have q4 : ρ' 4 = ρ 4 := h1 4 (by decide)
    rcases List.mem_cons.mp hx with e | hx
    · subst e
      refine (ax_XF_wr (x := 41) (Nat.le_of_ble_eq_true rfl)).mpr ?_
      show ay_ex (ax_upd hp 50 (20) (ρ' 2)) 10 ∧ ay_ex (ax_upd hp 50 (20) (ρ' 2)) 15 ∧ ay_ex (ax_upd hp 50 (20) (ρ' 2)) 16 ∧ py_x41 (ρ' 5) (ay_at (ax_upd hp 50 (20) (ρ' 2)) 10 5) (ay_at (ax_upd hp 50 (20) (ρ' 2)) 15) (ay_at (ax_upd hp 50 (20) (ρ' 2)) 16)
      rw [q2, h2]
      obtain ⟨o0, ho0⟩ := ay_some hT (q := 10) (g := 1) (n := 12) rfl rfl (j := 20 / 4) (Nat.le_of_ble_eq_true rfl)
      have u1 : ∀ q, q ≠ 10 → ay_at (ax_upd hp 50 20 (ρ 2)) q = ay_at hp q := fun q hq => funext (fun j => ay_upd_ne hT.1 hq j)
      have u2 : ∀ j, ay_at (ax_upd hp 50 20 (ρ 2)) 10 j = if j = 5 then some (ρ 2) else ay_at hp 10 j := fun j => ay_upd_eq hT.1 rfl ho0 j
      refine ⟨ay_ex_upd hT.1 (ax_cellT hT (q := 10) (g := 1) rfl), ay_ex_upd hT.1 (ax_cellT hT (q := 15) (g := 18) rfl), ay_ex_upd hT.1 (ax_cellT hT (q := 16) (g := 19) rfl), ?_⟩
      rw [u2 5, if_pos rfl, u1 15 (Nat.ne_of_beq_eq_false rfl), u1 16 (Nat.ne_of_beq_eq_false rfl)]
      exact py_add F81 hk ⟨pz_41 _, hl, hc⟩ (show ρ 2 / 4 = ρ 1 / 4 + 1 by omega)
    cases List.mem_singleton.mp hx
    refine (ax_XF_lt (x := 99) (Nat.le_of_ble_eq_true rfl)).mpr ?_
    show py_99 (ρ' 5) (4008) (ρ' 0)
    rw [q0, h2]
    exact ⟨pz_41 _, hl, hc⟩)
  exact ⟨(fun y hy => by cases hy), _, List.mem_cons_self, ρ', h1, h2⟩

theorem axq_ac4_5 : ax_RO ax_wC ax_XC axu_ac4_5 := by
  intro ρ hp hE hT
  have j0 : ρ 0 % 4 = 1 := pz_gj hE 0 (Nat.le_of_ble_eq_true rfl) rfl
  obtain ⟨i1a, i1b, i1c, i1d⟩ := pz_gi hE 1 2147483648 2147483727 (Nat.le_of_ble_eq_true rfl) rfl
  obtain ⟨i2a, i2b, i2c, i2d⟩ := pz_gi hE 2 0 4294967295 (Nat.le_of_ble_eq_true rfl) rfl
  obtain ⟨i3a, i3b, i3c, i3d⟩ := pz_gi hE 3 2147483653 2147483653 (Nat.le_of_ble_eq_true rfl) rfl
  obtain ⟨i4a, i4b, i4c, i4d⟩ := pz_gi hE 4 0 4294967295 (Nat.le_of_ble_eq_true rfl) rfl
  have c_codeSize : ay_at hp 10 5 = some (ρ 1) := ay_gfj hE 50 20 7 10 5 ax_m1 (ax_vlq rfl rfl) (ax_vlj rfl rfl)
  have s1 : (ρ 1 / 4 + 2147483648) % 4294967296 + (4 / 4 + 2147483648) % 4294967296 = (ρ 2 / 4 + 2147483648) % 4294967296 + 2147483648 := pz_gs hE 7 4 11 ax_m2
  obtain ⟨-, -, -, F81⟩ : ay_ex hp 10 ∧ ay_ex hp 15 ∧ ay_ex hp 16 ∧ py_x81 (ρ 0) (ρ 3) (ρ 4) (ay_at hp 10 5) (ay_at hp 15) (ay_at hp 16) := (ax_XF_lt (x := 81) (Nat.le_of_ble_eq_true rfl)).mp (ax_gx hE (81, [3, 15, 19]) ax_m0)
  rw [c_codeSize] at F81
  have e3 : ρ 3 / 4 = 5 := by omega
  have h3 : ρ 3 = 4 * (ρ 3 / 4) := by omega
  have h4 : ρ 4 = 4 * (ρ 4 / 4) := by omega
  rw [h3, h4] at F81
  have hl : 1 ≤ ρ 0 / 4 := F81.1.1.1
  have hc : 4032 / 4 < 4096 := by omega
  have hk : py_ok (ρ 3 / 4) (ρ 4 / 4) (4032 / 4) := Or.inr (Or.inr (Or.inr (Or.inr (Or.inl ⟨e3, rfl⟩))))
  obtain ⟨ρ', h1, h2⟩ := pz_pn1 (K := ρ 0 / 4 * 4096 + 4032 / 4) (xf := [(541, [50, 20, 11, 23]), (99, [23, 4032, 3])]) hE (by decide) (fun ρ' h1 h2 x hx => by
    have q0 : ρ' 0 = ρ 0 := h1 0 (by decide)
    have q1 : ρ' 1 = ρ 1 := h1 1 (by decide)
    have q2 : ρ' 2 = ρ 2 := h1 2 (by decide)
    have q3 : ρ' 3 = ρ 3 := h1 3 (by decide)
    have q4 : ρ' 4 = ρ 4 := h1 4 (by decide)
    rcases List.mem_cons.mp hx with e | hx
    · subst e
      refine (ax_XF_wr (x := 41) (Nat.le_of_ble_eq_true rfl)).mpr ?_
      show ay_ex (ax_upd hp 50 (20) (ρ' 2)) 10 ∧ ay_ex (ax_upd hp 50 (20) (ρ' 2)) 15 ∧ ay_ex (ax_upd hp 50 (20) (ρ' 2)) 16 ∧ py_x41 (ρ' 5) (ay_at (ax_upd hp 50 (20) (ρ' 2)) 10 5) (ay_at (ax_upd hp 50 (20) (ρ' 2)) 15) (ay_at (ax_upd hp 50 (20) (ρ' 2)) 16)
      rw [q2, h2]
      obtain ⟨o0, ho0⟩ := ay_some hT (q := 10) (g := 1) (n := 12) rfl rfl (j := 20 / 4) (Nat.le_of_ble_eq_true rfl)
      have u1 : ∀ q, q ≠ 10 → ay_at (ax_upd hp 50 20 (ρ 2)) q = ay_at hp q := fun q hq => funext (fun j => ay_upd_ne hT.1 hq j)
      have u2 : ∀ j, ay_at (ax_upd hp 50 20 (ρ 2)) 10 j = if j = 5 then some (ρ 2) else ay_at hp 10 j := fun j => ay_upd_eq hT.1 rfl ho0 j
      refine ⟨ay_ex_upd hT.1 (ax_cellT hT (q := 10) (g := 1) rfl), ay_ex_upd hT.1 (ax_cellT hT (q := 15) (g := 18) rfl), ay_ex_upd hT.1 (ax_cellT hT (q := 16) (g := 19) rfl), ?_⟩
      rw [u2 5, if_pos rfl, u1 15 (Nat.ne_of_beq_eq_false rfl), u1 16 (Nat.ne_of_beq_eq_false rfl)]
      exact py_add F81 hk ⟨pz_41 _, hl, hc⟩ (show ρ 2 / 4 = ρ 1 / 4 + 1 by omega)
    cases List.mem_singleton.mp hx
    refine (ax_XF_lt (x := 99) (Nat.le_of_ble_eq_true rfl)).mpr ?_
    show py_99 (ρ' 5) (4032) (ρ' 0)
    rw [q0, h2]
    exact ⟨pz_41 _, hl, hc⟩)
  exact ⟨(fun y hy => by cases hy), _, List.mem_cons_self, ρ', h1, h2⟩

theorem axq_ac4_43 : ax_RO ax_wC ax_XC axu_ac4_43 := by
  intro ρ hp hE hT
  have j0 : ρ 0 % 4 = 1 := pz_gj hE 0 (Nat.le_of_ble_eq_true rfl) rfl
  obtain ⟨i1a, i1b, i1c, i1d⟩ := pz_gi hE 1 2147483648 2147483727 (Nat.le_of_ble_eq_true rfl) rfl
  obtain ⟨i2a, i2b, i2c, i2d⟩ := pz_gi hE 2 0 4294967295 (Nat.le_of_ble_eq_true rfl) rfl
  obtain ⟨i3a, i3b, i3c, i3d⟩ := pz_gi hE 3 2147483691 2147483691 (Nat.le_of_ble_eq_true rfl) rfl
  obtain ⟨i4a, i4b, i4c, i4d⟩ := pz_gi hE 4 0 4294967295 (Nat.le_of_ble_eq_true rfl) rfl
  have c_codeSize : ay_at hp 10 5 = some (ρ 1) := ay_gfj hE 50 20 7 10 5 ax_m1 (ax_vlq rfl rfl) (ax_vlj rfl rfl)
  have s1 : (ρ 1 / 4 + 2147483648) % 4294967296 + (4 / 4 + 2147483648) % 4294967296 = (ρ 2 / 4 + 2147483648) % 4294967296 + 2147483648 := pz_gs hE 7 4 11 ax_m2
  obtain ⟨-, -, -, F81⟩ : ay_ex hp 10 ∧ ay_ex hp 15 ∧ ay_ex hp 16 ∧ py_x81 (ρ 0) (ρ 3) (ρ 4) (ay_at hp 10 5) (ay_at hp 15) (ay_at hp 16) := (ax_XF_lt (x := 81) (Nat.le_of_ble_eq_true rfl)).mp (ax_gx hE (81, [3, 15, 19]) ax_m0)
  rw [c_codeSize] at F81
  have e3 : ρ 3 / 4 = 43 := by omega
  have h3 : ρ 3 = 4 * (ρ 3 / 4) := by omega
  have h4 : ρ 4 = 4 * (ρ 4 / 4) := by omega
  rw [h3, h4] at F81
  have hl : 1 ≤ ρ 0 / 4 := F81.1.1.1
  have hc : 4012 / 4 < 4096 := by omega
  have hk : py_ok (ρ 3 / 4) (ρ 4 / 4) (4012 / 4) := Or.inr (Or.inr (Or.inr (Or.inr (Or.inr (Or.inl ⟨e3, rfl⟩)))))
  obtain ⟨ρ', h1, h2⟩ := pz_pn1 (K := ρ 0 / 4 * 4096 + 4012 / 4) (xf := [(541, [50, 20, 11, 23]), (99, [23, 4012, 3])]) hE (by decide) (fun ρ' h1 h2 x hx => by
    have q0 : ρ' 0 = ρ 0 := h1 0 (by decide)
    have q1 : ρ' 1 = ρ 1 := h1 1 (by decide)
    have q2 : ρ' 2 = ρ 2 := h1 2 (by decide)
    have q3 : ρ' 3 = ρ 3 := h1 3 (by decide)
    have q4 : ρ' 4 = ρ 4 := h1 4 (by decide)
    rcases List.mem_cons.mp hx with e | hx
    · subst e
      refine (ax_XF_wr (x := 41) (Nat.le_of_ble_eq_true rfl)).mpr ?_
      show ay_ex (ax_upd hp 50 (20) (ρ' 2)) 10 ∧ ay_ex (ax_upd hp 50 (20) (ρ' 2)) 15 ∧ ay_ex (ax_upd hp 50 (20) (ρ' 2)) 16 ∧ py_x41 (ρ' 5) (ay_at (ax_upd hp 50 (20) (ρ' 2)) 10 5) (ay_at (ax_upd hp 50 (20) (ρ' 2)) 15) (ay_at (ax_upd hp 50 (20) (ρ' 2)) 16)
      rw [q2, h2]
      obtain ⟨o0, ho0⟩ := ay_some hT (q := 10) (g := 1) (n := 12) rfl rfl (j := 20 / 4) (Nat.le_of_ble_eq_true rfl)
      have u1 : ∀ q, q ≠ 10 → ay_at (ax_upd hp 50 20 (ρ 2)) q = ay_at hp q := fun q hq => funext (fun j => ay_upd_ne hT.1 hq j)
      have u2 : ∀ j, ay_at (ax_upd hp 50 20 (ρ 2)) 10 j = if j = 5 then some (ρ 2) else ay_at hp 10 j := fun j => ay_upd_eq hT.1 rfl ho0 j
      refine ⟨ay_ex_upd hT.1 (ax_cellT hT (q := 10) (g := 1) rfl), ay_ex_upd hT.1 (ax_cellT hT (q := 15) (g := 18) rfl), ay_ex_upd hT.1 (ax_cellT hT (q := 16) (g := 19) rfl), ?_⟩
      rw [u2 5, if_pos rfl, u1 15 (Nat.ne_of_beq_eq_false rfl), u1 16 (Nat.ne_of_beq_eq_false rfl)]
      exact py_add F81 hk ⟨pz_41 _, hl, hc⟩ (show ρ 2 / 4 = ρ 1 / 4 + 1 by omega)
    cases List.mem_singleton.mp hx
    refine (ax_XF_lt (x := 99) (Nat.le_of_ble_eq_true rfl)).mpr ?_
    show py_99 (ρ' 5) (4012) (ρ' 0)
    rw [q0, h2]
    exact ⟨pz_41 _, hl, hc⟩)
  exact ⟨(fun y hy => by cases hy), _, List.mem_cons_self, ρ', h1, h2⟩

theorem axq_ac4_45 : ax_RO ax_wC ax_XC axu_ac4_45 := by
  intro ρ hp hE hT
  have j0 : ρ 0 % 4 = 1 := pz_gj hE 0 (Nat.le_of_ble_eq_true rfl) rfl
  obtain ⟨i1a, i1b, i1c, i1d⟩ := pz_gi hE 1 2147483648 2147483727 (Nat.le_of_ble_eq_true rfl) rfl
  obtain ⟨i2a, i2b, i2c, i2d⟩ := pz_gi hE 2 0 4294967295 (Nat.le_of_ble_eq_true rfl) rfl
  obtain ⟨i3a, i3b, i3c, i3d⟩ := pz_gi hE 3 2147483693 2147483693 (Nat.le_of_ble_eq_true rfl) rfl
  obtain ⟨i4a, i4b, i4c, i4d⟩ := pz_gi hE 4 0 4294967295 (Nat.le_of_ble_eq_true rfl) rfl
  have c_codeSize : ay_at hp 10 5 = some (ρ 1) := ay_gfj hE 50 20 7 10 5 ax_m1 (ax_vlq rfl rfl) (ax_vlj rfl rfl)
  have s1 : (ρ 1 / 4 + 2147483648) % 4294967296 + (4 / 4 + 2147483648) % 4294967296 = (ρ 2 / 4 + 2147483648) % 4294967296 + 2147483648 := pz_gs hE 7 4 11 ax_m2
  obtain ⟨-, -, -, F81⟩ : ay_ex hp 10 ∧ ay_ex hp 15 ∧ ay_ex hp 16 ∧ py_x81 (ρ 0) (ρ 3) (ρ 4) (ay_at hp 10 5) (ay_at hp 15) (ay_at hp 16) := (ax_XF_lt (x := 81) (Nat.le_of_ble_eq_true rfl)).mp (ax_gx hE (81, [3, 15, 19]) ax_m0)
  rw [c_codeSize] at F81
  have e3 : ρ 3 / 4 = 45 := by omega
  have h3 : ρ 3 = 4 * (ρ 3 / 4) := by omega
  have h4 : ρ 4 = 4 * (ρ 4 / 4) := by omega
  rw [h3, h4] at F81
  have hl : 1 ≤ ρ 0 / 4 := F81.1.1.1
  have hc : 4016 / 4 < 4096 := by omega
  have hk : py_ok (ρ 3 / 4) (ρ 4 / 4) (4016 / 4) := Or.inr (Or.inr (Or.inr (Or.inr (Or.inr (Or.inr (Or.inl ⟨e3, rfl⟩))))))
  obtain ⟨ρ', h1, h2⟩ := pz_pn1 (K := ρ 0 / 4 * 4096 + 4016 / 4) (xf := [(541, [50, 20, 11, 23]), (99, [23, 4016, 3])]) hE (by decide) (fun ρ' h1 h2 x hx => by
    have q0 : ρ' 0 = ρ 0 := h1 0 (by decide)
    have q1 : ρ' 1 = ρ 1 := h1 1 (by decide)
    have q2 : ρ' 2 = ρ 2 := h1 2 (by decide)
    have q3 : ρ' 3 = ρ 3 := h1 3 (by decide)
    have q4 : ρ' 4 = ρ 4 := h1 4 (by decide)
    rcases List.mem_cons.mp hx with e | hx
    · subst e
      refine (ax_XF_wr (x := 41) (Nat.le_of_ble_eq_true rfl)).mpr ?_
      show ay_ex (ax_upd hp 50 (20) (ρ' 2)) 10 ∧ ay_ex (ax_upd hp 50 (20) (ρ' 2)) 15 ∧ ay_ex (ax_upd hp 50 (20) (ρ' 2)) 16 ∧ py_x41 (ρ' 5) (ay_at (ax_upd hp 50 (20) (ρ' 2)) 10 5) (ay_at (ax_upd hp 50 (20) (ρ' 2)) 15) (ay_at (ax_upd hp 50 (20) (ρ' 2)) 16)
      rw [q2, h2]
      obtain ⟨o0, ho0⟩ := ay_some hT (q := 10) (g := 1) (n := 12) rfl rfl (j := 20 / 4) (Nat.le_of_ble_eq_true rfl)
      have u1 : ∀ q, q ≠ 10 → ay_at (ax_upd hp 50 20 (ρ 2)) q = ay_at hp q := fun q hq => funext (fun j => ay_upd_ne hT.1 hq j)
      have u2 : ∀ j, ay_at (ax_upd hp 50 20 (ρ 2)) 10 j = if j = 5 then some (ρ 2) else ay_at hp 10 j := fun j => ay_upd_eq hT.1 rfl ho0 j
      refine ⟨ay_ex_upd hT.1 (ax_cellT hT (q := 10) (g := 1) rfl), ay_ex_upd hT.1 (ax_cellT hT (q := 15) (g := 18) rfl), ay_ex_upd hT.1 (ax_cellT hT (q := 16) (g := 19) rfl), ?_⟩
      rw [u2 5, if_pos rfl, u1 15 (Nat.ne_of_beq_eq_false rfl), u1 16 (Nat.ne_of_beq_eq_false rfl)]
      exact py_add F81 hk ⟨pz_41 _, hl, hc⟩ (show ρ 2 / 4 = ρ 1 / 4 + 1 by omega)
    cases List.mem_singleton.mp hx
    refine (ax_XF_lt (x := 99) (Nat.le_of_ble_eq_true rfl)).mpr ?_
    show py_99 (ρ' 5) (4016) (ρ' 0)
    rw [q0, h2]
    exact ⟨pz_41 _, hl, hc⟩)
  exact ⟨(fun y hy => by cases hy), _, List.mem_cons_self, ρ', h1, h2⟩

theorem axq_ac4_42 : ax_RO ax_wC ax_XC axu_ac4_42 := by
  intro ρ hp hE hT
  have j0 : ρ 0 % 4 = 1 := pz_gj hE 0 (Nat.le_of_ble_eq_true rfl) rfl
  obtain ⟨i1a, i1b, i1c, i1d⟩ := pz_gi hE 1 2147483648 2147483727 (Nat.le_of_ble_eq_true rfl) rfl
  obtain ⟨i2a, i2b, i2c, i2d⟩ := pz_gi hE 2 0 4294967295 (Nat.le_of_ble_eq_true rfl) rfl
  obtain ⟨i3a, i3b, i3c, i3d⟩ := pz_gi hE 3 2147483690 2147483690 (Nat.le_of_ble_eq_true rfl) rfl
  obtain ⟨i4a, i4b, i4c, i4d⟩ := pz_gi hE 4 0 4294967295 (Nat.le_of_ble_eq_true rfl) rfl
  have c_codeSize : ay_at hp 10 5 = some (ρ 1) := ay_gfj hE 50 20 7 10 5 ax_m1 (ax_vlq rfl rfl) (ax_vlj rfl rfl)
  have s1 : (ρ 1 / 4 + 2147483648) % 4294967296 + (4 / 4 + 2147483648) % 4294967296 = (ρ 2 / 4 + 2147483648) % 4294967296 + 2147483648 := pz_gs hE 7 4 11 ax_m2
  obtain ⟨-, -, -, F81⟩ : ay_ex hp 10 ∧ ay_ex hp 15 ∧ ay_ex hp 16 ∧ py_x81 (ρ 0) (ρ 3) (ρ 4) (ay_at hp 10 5) (ay_at hp 15) (ay_at hp 16) := (ax_XF_lt (x := 81) (Nat.le_of_ble_eq_true rfl)).mp (ax_gx hE (81, [3, 15, 19]) ax_m0)
  rw [c_codeSize] at F81
  have e3 : ρ 3 / 4 = 42 := by omega
  have h3 : ρ 3 = 4 * (ρ 3 / 4) := by omega
  have h4 : ρ 4 = 4 * (ρ 4 / 4) := by omega
  rw [h3, h4] at F81
  have hl : 1 ≤ ρ 0 / 4 := F81.1.1.1
  have hc : 4020 / 4 < 4096 := by omega
  have hk : py_ok (ρ 3 / 4) (ρ 4 / 4) (4020 / 4) := Or.inr (Or.inr (Or.inr (Or.inr (Or.inr (Or.inr (Or.inr (Or.inl ⟨e3, rfl⟩)))))))
  obtain ⟨ρ', h1, h2⟩ := pz_pn1 (K := ρ 0 / 4 * 4096 + 4020 / 4) (xf := [(541, [50, 20, 11, 23]), (99, [23, 4020, 3])]) hE (by decide) (fun ρ' h1 h2 x hx => by
    have q0 : ρ' 0 = ρ 0 := h1 0 (by decide)
    have q1 : ρ' 1 = ρ 1 := h1 1 (by decide)
    have q2 : ρ' 2 = ρ 2 := h1 2 (by decide)
    have q3 : ρ' 3 = ρ 3 := h1 3 (by decide)
    have q4 : ρ' 4 = ρ 4 := h1 4 (by decide)
    rcases List.mem_cons.mp hx with e | hx
    · subst e
      refine (ax_XF_wr (x := 41) (Nat.le_of_ble_eq_true rfl)).mpr ?_
      show ay_ex (ax_upd hp 50 (20) (ρ' 2)) 10 ∧ ay_ex (ax_upd hp 50 (20) (ρ' 2)) 15 ∧ ay_ex (ax_upd hp 50 (20) (ρ' 2)) 16 ∧ py_x41 (ρ' 5) (ay_at (ax_upd hp 50 (20) (ρ' 2)) 10 5) (ay_at (ax_upd hp 50 (20) (ρ' 2)) 15) (ay_at (ax_upd hp 50 (20) (ρ' 2)) 16)
      rw [q2, h2]
      obtain ⟨o0, ho0⟩ := ay_some hT (q := 10) (g := 1) (n := 12) rfl rfl (j := 20 / 4) (Nat.le_of_ble_eq_true rfl)
      have u1 : ∀ q, q ≠ 10 → ay_at (ax_upd hp 50 20 (ρ 2)) q = ay_at hp q := fun q hq => funext (fun j => ay_upd_ne hT.1 hq j)
      have u2 : ∀ j, ay_at (ax_upd hp 50 20 (ρ 2)) 10 j = if j = 5 then some (ρ 2) else ay_at hp 10 j := fun j => ay_upd_eq hT.1 rfl ho0 j
      refine ⟨ay_ex_upd hT.1 (ax_cellT hT (q := 10) (g := 1) rfl), ay_ex_upd hT.1 (ax_cellT hT (q := 15) (g := 18) rfl), ay_ex_upd hT.1 (ax_cellT hT (q := 16) (g := 19) rfl), ?_⟩
      rw [u2 5, if_pos rfl, u1 15 (Nat.ne_of_beq_eq_false rfl), u1 16 (Nat.ne_of_beq_eq_false rfl)]
      exact py_add F81 hk ⟨pz_41 _, hl, hc⟩ (show ρ 2 / 4 = ρ 1 / 4 + 1 by omega)
    cases List.mem_singleton.mp hx
    refine (ax_XF_lt (x := 99) (Nat.le_of_ble_eq_true rfl)).mpr ?_
    show py_99 (ρ' 5) (4020) (ρ' 0)
    rw [q0, h2]
    exact ⟨pz_41 _, hl, hc⟩)
  exact ⟨(fun y hy => by cases hy), _, List.mem_cons_self, ρ', h1, h2⟩

theorem axq_ac4_47 : ax_RO ax_wC ax_XC axu_ac4_47 := by
  intro ρ hp hE hT
  have j0 : ρ 0 % 4 = 1 := pz_gj hE 0 (Nat.le_of_ble_eq_true rfl) rfl
  obtain ⟨i1a, i1b, i1c, i1d⟩ := pz_gi hE 1 2147483648 2147483727 (Nat.le_of_ble_eq_true rfl) rfl
  obtain ⟨i2a, i2b, i2c, i2d⟩ := pz_gi hE 2 0 4294967295 (Nat.le_of_ble_eq_true rfl) rfl
  obtain ⟨i3a, i3b, i3c, i3d⟩ := pz_gi hE 3 2147483695 2147483695 (Nat.le_of_ble_eq_true rfl) rfl
  obtain ⟨i4a, i4b, i4c, i4d⟩ := pz_gi hE 4 0 4294967295 (Nat.le_of_ble_eq_true rfl) rfl
  have c_codeSize : ay_at hp 10 5 = some (ρ 1) := ay_gfj hE 50 20 7 10 5 ax_m1 (ax_vlq rfl rfl) (ax_vlj rfl rfl)
  have s1 : (ρ 1 / 4 + 2147483648) % 4294967296 + (4 / 4 + 2147483648) % 4294967296 = (ρ 2 / 4 + 2147483648) % 4294967296 + 2147483648 := pz_gs hE 7 4 11 ax_m2
  obtain ⟨-, -, -, F81⟩ : ay_ex hp 10 ∧ ay_ex hp 15 ∧ ay_ex hp 16 ∧ py_x81 (ρ 0) (ρ 3) (ρ 4) (ay_at hp 10 5) (ay_at hp 15) (ay_at hp 16) := (ax_XF_lt (x := 81) (Nat.le_of_ble_eq_true rfl)).mp (ax_gx hE (81, [3, 15, 19]) ax_m0)
  rw [c_codeSize] at F81
  have e3 : ρ 3 / 4 = 47 := by omega
  have h3 : ρ 3 = 4 * (ρ 3 / 4) := by omega
  have h4 : ρ 4 = 4 * (ρ 4 / 4) := by omega
  rw [h3, h4] at F81
  have hl : 1 ≤ ρ 0 / 4 := F81.1.1.1
  have hc : 4024 / 4 < 4096 := by omega
  have hk : py_ok (ρ 3 / 4) (ρ 4 / 4) (4024 / 4) := Or.inr (Or.inr (Or.inr (Or.inr (Or.inr (Or.inr (Or.inr (Or.inr (Or.inl ⟨e3, rfl⟩))))))))
  obtain ⟨ρ', h1, h2⟩ := pz_pn1 (K := ρ 0 / 4 * 4096 + 4024 / 4) (xf := [(541, [50, 20, 11, 23]), (99, [23, 4024, 3])]) hE (by decide) (fun ρ' h1 h2 x hx => by
    have q0 : ρ' 0 = ρ 0 := h1 0 (by decide)
    have q1 : ρ' 1 = ρ 1 := h1 1 (by decide)
    have q2 : ρ' 2 = ρ 2 := h1 2 (by decide)
    have q3 : ρ' 3 = ρ 3 := h1 3 (by decide)
    have q4 : ρ' 4 = ρ 4 := h1 4 (by decide)
    rcases List.mem_cons.mp hx with e | hx
    · subst e
      refine (ax_XF_wr (x := 41) (Nat.le_of_ble_eq_true rfl)).mpr ?_
      show ay_ex (ax_upd hp 50 (20) (ρ' 2)) 10 ∧ ay_ex (ax_upd hp 50 (20) (ρ' 2)) 15 ∧ ay_ex (ax_upd hp 50 (20) (ρ' 2)) 16 ∧ py_x41 (ρ' 5) (ay_at (ax_upd hp 50 (20) (ρ' 2)) 10 5) (ay_at (ax_upd hp 50 (20) (ρ' 2)) 15) (ay_at (ax_upd hp 50 (20) (ρ' 2)) 16)
      rw [q2, h2]
      obtain ⟨o0, ho0⟩ := ay_some hT (q := 10) (g := 1) (n := 12) rfl rfl (j := 20 / 4) (Nat.le_of_ble_eq_true rfl)
      have u1 : ∀ q, q ≠ 10 → ay_at (ax_upd hp 50 20 (ρ 2)) q = ay_at hp q := fun q hq => funext (fun j => ay_upd_ne hT.1 hq j)
      have u2 : ∀ j, ay_at (ax_upd hp 50 20 (ρ 2)) 10 j = if j = 5 then some (ρ 2) else ay_at hp 10 j := fun j => ay_upd_eq hT.1 rfl ho0 j
      refine ⟨ay_ex_upd hT.1 (ax_cellT hT (q := 10) (g := 1) rfl), ay_ex_upd hT.1 (ax_cellT hT (q := 15) (g := 18) rfl), ay_ex_upd hT.1 (ax_cellT hT (q := 16) (g := 19) rfl), ?_⟩
      rw [u2 5, if_pos rfl, u1 15 (Nat.ne_of_beq_eq_false rfl), u1 16 (Nat.ne_of_beq_eq_false rfl)]
      exact py_add F81 hk ⟨pz_41 _, hl, hc⟩ (show ρ 2 / 4 = ρ 1 / 4 + 1 by omega)
    cases List.mem_singleton.mp hx
    refine (ax_XF_lt (x := 99) (Nat.le_of_ble_eq_true rfl)).mpr ?_
    show py_99 (ρ' 5) (4024) (ρ' 0)
    rw [q0, h2]
    exact ⟨pz_41 _, hl, hc⟩)
  exact ⟨(fun y hy => by cases hy), _, List.mem_cons_self, ρ', h1, h2⟩

theorem axq_ac4_37 : ax_RO ax_wC ax_XC axu_ac4_37 := by
  intro ρ hp hE hT
  have j0 : ρ 0 % 4 = 1 := pz_gj hE 0 (Nat.le_of_ble_eq_true rfl) rfl
  obtain ⟨i1a, i1b, i1c, i1d⟩ := pz_gi hE 1 2147483648 2147483727 (Nat.le_of_ble_eq_true rfl) rfl
  obtain ⟨i2a, i2b, i2c, i2d⟩ := pz_gi hE 2 0 4294967295 (Nat.le_of_ble_eq_true rfl) rfl
  obtain ⟨i3a, i3b, i3c, i3d⟩ := pz_gi hE 3 2147483685 2147483685 (Nat.le_of_ble_eq_true rfl) rfl
  obtain ⟨i4a, i4b, i4c, i4d⟩ := pz_gi hE 4 0 4294967295 (Nat.le_of_ble_eq_true rfl) rfl
  have c_codeSize : ay_at hp 10 5 = some (ρ 1) := ay_gfj hE 50 20 7 10 5 ax_m1 (ax_vlq rfl rfl) (ax_vlj rfl rfl)
  have s1 : (ρ 1 / 4 + 2147483648) % 4294967296 + (4 / 4 + 2147483648) % 4294967296 = (ρ 2 / 4 + 2147483648) % 4294967296 + 2147483648 := pz_gs hE 7 4 11 ax_m2
  obtain ⟨-, -, -, F81⟩ : ay_ex hp 10 ∧ ay_ex hp 15 ∧ ay_ex hp 16 ∧ py_x81 (ρ 0) (ρ 3) (ρ 4) (ay_at hp 10 5) (ay_at hp 15) (ay_at hp 16) := (ax_XF_lt (x := 81) (Nat.le_of_ble_eq_true rfl)).mp (ax_gx hE (81, [3, 15, 19]) ax_m0)
  rw [c_codeSize] at F81
  have e3 : ρ 3 / 4 = 37 := by omega
  have h3 : ρ 3 = 4 * (ρ 3 / 4) := by omega
  have h4 : ρ 4 = 4 * (ρ 4 / 4) := by omega
  rw [h3, h4] at F81
  have hl : 1 ≤ ρ 0 / 4 := F81.1.1.1
  have hc : 4028 / 4 < 4096 := by omega
  have hk : py_ok (ρ 3 / 4) (ρ 4 / 4) (4028 / 4) := Or.inr (Or.inr (Or.inr (Or.inr (Or.inr (Or.inr (Or.inr (Or.inr (Or.inr (⟨e3, rfl⟩)))))))))
  obtain ⟨ρ', h1, h2⟩ := pz_pn1 (K := ρ 0 / 4 * 4096 + 4028 / 4) (xf := [(541, [50, 20, 11, 23]), (99, [23, 4028, 3])]) hE (by decide) (fun ρ' h1 h2 x hx => by
    have q0 : ρ' 0 = ρ 0 := h1 0 (by decide)
    have q1 : ρ' 1 = ρ 1 := h1 1 (by decide)
    have q2 : ρ' 2 = ρ 2 := h1 2 (by decide)
    have q3 : ρ' 3 = ρ 3 := h1 3 (by decide)
    have q4 : ρ' 4 = ρ 4 := h1 4 (by decide)
    rcases List.mem_cons.mp hx with e | hx
    · subst e
      refine (ax_XF_wr (x := 41) (Nat.le_of_ble_eq_true rfl)).mpr ?_
      show ay_ex (ax_upd hp 50 (20) (ρ' 2)) 10 ∧ ay_ex (ax_upd hp 50 (20) (ρ' 2)) 15 ∧ ay_ex (ax_upd hp 50 (20) (ρ' 2)) 16 ∧ py_x41 (ρ' 5) (ay_at (ax_upd hp 50 (20) (ρ' 2)) 10 5) (ay_at (ax_upd hp 50 (20) (ρ' 2)) 15) (ay_at (ax_upd hp 50 (20) (ρ' 2)) 16)
      rw [q2, h2]
      obtain ⟨o0, ho0⟩ := ay_some hT (q := 10) (g := 1) (n := 12) rfl rfl (j := 20 / 4) (Nat.le_of_ble_eq_true rfl)
      have u1 : ∀ q, q ≠ 10 → ay_at (ax_upd hp 50 20 (ρ 2)) q = ay_at hp q := fun q hq => funext (fun j => ay_upd_ne hT.1 hq j)
      have u2 : ∀ j, ay_at (ax_upd hp 50 20 (ρ 2)) 10 j = if j = 5 then some (ρ 2) else ay_at hp 10 j := fun j => ay_upd_eq hT.1 rfl ho0 j
      refine ⟨ay_ex_upd hT.1 (ax_cellT hT (q := 10) (g := 1) rfl), ay_ex_upd hT.1 (ax_cellT hT (q := 15) (g := 18) rfl), ay_ex_upd hT.1 (ax_cellT hT (q := 16) (g := 19) rfl), ?_⟩
      rw [u2 5, if_pos rfl, u1 15 (Nat.ne_of_beq_eq_false rfl), u1 16 (Nat.ne_of_beq_eq_false rfl)]
      exact py_add F81 hk ⟨pz_41 _, hl, hc⟩ (show ρ 2 / 4 = ρ 1 / 4 + 1 by omega)
    cases List.mem_singleton.mp hx
    refine (ax_XF_lt (x := 99) (Nat.le_of_ble_eq_true rfl)).mpr ?_
    show py_99 (ρ' 5) (4028) (ρ' 0)
    rw [q0, h2]
    exact ⟨pz_41 _, hl, hc⟩)
  exact ⟨(fun y hy => by cases hy), _, List.mem_cons_self, ρ', h1, h2⟩
end
section
theorem axt_0 : ax_tabB (rx_cd rxm_0) axm_0 = true := by decide +kernel
theorem axr_0 (hP : ∀ q ∈ rx_P, rx_QW q ∧ rx_ST rx_P (rx_DF, rx_FK) q) : ax_Row ax_wC ax_XC rx_P ax_APC rx_P (rx_DF, rx_FK) rxm_0 (axm_0, axc_0) := fun hr => ⟨ax_tabB_ok axt_0, fun hL => ax_con_nil⟩
theorem axt_1 : ax_tabB (rx_cd rxm_1) axm_1 = true := by decide +kernel
theorem axr_1 (hP : ∀ q ∈ rx_P, rx_QW q ∧ rx_ST rx_P (rx_DF, rx_FK) q) : ax_Row ax_wC ax_XC rx_P ax_APC rx_P (rx_DF, rx_FK) rxm_1 (axm_1, axc_1) := fun hr => ⟨ax_tabB_ok axt_1, fun hL => ax_con_nil⟩
theorem axt_2 : ax_tabB (rx_cd rxm_2) axm_2 = true := by decide +kernel
/-- TurnNet$Graph.useRow: 58 steps -/
theorem axk_2_0 : ax_chk ax_wC rx_P (rx_DF, rx_FK) ax_APC (rx_n rxm_2) axm_2 (([3, 7, 11], (3, [(0, 2147483648, 2147483657), (0, 2147483648, 2147483657), (2, 5, 0)], [], [], [])), [(35, 999)], [([2], (3, [(0, 2147483648, 2147483657), (0, 2147483648, 2147483657), (2, 5, 0)], [], [], []))]) [] [5] 3000 1 (([((5, 1, 4, ([3, 7, 11, 15, 19, 2], (5, [(0, 2147483648, 2147483658), (0, 2147483648, 2147483657), (0, 2147483648, 2147483657), (0, 2147483648, 2147483657), (2, 5, 0)], [], [], []))), ())] : List ((Nat × Nat × Nat × ax_T) × ax_Tr 0)) : ax_Tr 1) = true := by decide +kernel
theorem axr_2 (hP : ∀ q ∈ rx_P, rx_QW q ∧ rx_ST rx_P (rx_DF, rx_FK) q) : ax_Row ax_wC ax_XC rx_P ax_APC rx_P (rx_DF, rx_FK) rxm_2 (axm_2, axc_2) := fun hr => ⟨ax_tabB_ok axt_2, fun hL => ax_con_cons (ax_chk_ok hP ax_XC_ok hr hL (ax_tabB_ok axt_2) ax_ro_nil axk_2_0) (ax_con_nil)⟩
theorem axt_3 : ax_tabB (rx_cd rxm_3) axm_3 = true := by decide +kernel
theorem axs_3_0 : ∀ x ∈ ([axu_hsC] : List ax_RL), ax_RO ax_wC ax_XC x := ax_ro_cons axq_hsC (ax_ro_nil)
/-- TurnNet$History.clear: 7 steps -/
theorem axk_3_0 : ax_chk ax_wC rx_P (rx_DF, rx_FK) ax_APC (rx_n rxm_3) axm_3 (([206], (0, [], [], [], [])), [(9, 2), (9, 3)], [([2], (0, [], [], [], [(0, [80])]))]) [axu_hsC] [] 3000 0 (() : ax_Tr 0) = true := by decide +kernel
theorem axr_3 (hP : ∀ q ∈ rx_P, rx_QW q ∧ rx_ST rx_P (rx_DF, rx_FK) q) : ax_Row ax_wC ax_XC rx_P ax_APC rx_P (rx_DF, rx_FK) rxm_3 (axm_3, axc_3) := fun hr => ⟨ax_tabB_ok axt_3, fun hL => ax_con_cons (ax_chk_ok hP ax_XC_ok hr hL (ax_tabB_ok axt_3) axs_3_0 axk_3_0) (ax_con_nil)⟩
theorem axt_4 : ax_tabB (rx_cd rxm_4) axm_4 = true := by decide +kernel
theorem axr_4 (hP : ∀ q ∈ rx_P, rx_QW q ∧ rx_ST rx_P (rx_DF, rx_FK) q) : ax_Row ax_wC ax_XC rx_P ax_APC rx_P (rx_DF, rx_FK) rxm_4 (axm_4, axc_4) := fun hr => ⟨ax_tabB_ok axt_4, fun hL => ax_con_nil⟩
theorem axt_5 : ax_tabB (rx_cd rxm_5) axm_5 = true := by decide +kernel
theorem axr_5 (hP : ∀ q ∈ rx_P, rx_QW q ∧ rx_ST rx_P (rx_DF, rx_FK) q) : ax_Row ax_wC ax_XC rx_P ax_APC rx_P (rx_DF, rx_FK) rxm_5 (axm_5, axc_5) := fun hr => ⟨ax_tabB_ok axt_5, fun hL => ax_con_nil⟩
theorem axt_6 : ax_tabB (rx_cd rxm_6) axm_6 = true := by decide +kernel
theorem axs_6_9 : ∀ x ∈ ([axu_ac1, axu_ac2, axu_ac3, axu_ac4_37] : List ax_RL), ax_RO ax_wC ax_XC x := ax_ro_cons axq_ac1 (ax_ro_cons axq_ac2 (ax_ro_cons axq_ac3 (ax_ro_cons axq_ac4_37 (ax_ro_nil))))
/-- TurnNet$Net.addCode: 23 steps -/
theorem axk_6_9 : ax_chk ax_wC rx_P (rx_DF, rx_FK) ax_APC (rx_n rxm_6) axm_6 (([50, 7, 0], (2, [(0, 2147483685, 2147483685), (1, 0, 0)], [], [], [(31, []), (40, [3]), (41, [3])])), [(1, 5), (18, 999), (19, 999)], [([2], (3, [(1, 0, 0), (0, 2147483685, 2147483685), (1, 0, 0)], [], [], [(41, [11]), (99, [11, 4028, 3])]))]) [axu_ac1, axu_ac2, axu_ac3, axu_ac4_37] [] 3000 0 (() : ax_Tr 0) = true := by decide +kernel
theorem axs_6_8 : ∀ x ∈ ([axu_ac1, axu_ac2, axu_ac3, axu_ac4_47] : List ax_RL), ax_RO ax_wC ax_XC x := ax_ro_cons axq_ac1 (ax_ro_cons axq_ac2 (ax_ro_cons axq_ac3 (ax_ro_cons axq_ac4_47 (ax_ro_nil))))
/-- TurnNet$Net.addCode: 23 steps -/
theorem axk_6_8 : ax_chk ax_wC rx_P (rx_DF, rx_FK) ax_APC (rx_n rxm_6) axm_6 (([50, 7, 0], (2, [(0, 2147483695, 2147483695), (1, 0, 0)], [], [], [(31, []), (40, [3]), (41, [3])])), [(1, 5), (18, 999), (19, 999)], [([2], (3, [(1, 0, 0), (0, 2147483695, 2147483695), (1, 0, 0)], [], [], [(41, [11]), (99, [11, 4024, 3])]))]) [axu_ac1, axu_ac2, axu_ac3, axu_ac4_47] [] 3000 0 (() : ax_Tr 0) = true := by decide +kernel
theorem axs_6_7 : ∀ x ∈ ([axu_ac1, axu_ac2, axu_ac3, axu_ac4_42] : List ax_RL), ax_RO ax_wC ax_XC x := ax_ro_cons axq_ac1 (ax_ro_cons axq_ac2 (ax_ro_cons axq_ac3 (ax_ro_cons axq_ac4_42 (ax_ro_nil))))
/-- TurnNet$Net.addCode: 23 steps -/
theorem axk_6_7 : ax_chk ax_wC rx_P (rx_DF, rx_FK) ax_APC (rx_n rxm_6) axm_6 (([50, 7, 0], (2, [(0, 2147483690, 2147483690), (1, 0, 0)], [], [], [(31, []), (40, [3]), (41, [3])])), [(1, 5), (18, 999), (19, 999)], [([2], (3, [(1, 0, 0), (0, 2147483690, 2147483690), (1, 0, 0)], [], [], [(41, [11]), (99, [11, 4020, 3])]))]) [axu_ac1, axu_ac2, axu_ac3, axu_ac4_42] [] 3000 0 (() : ax_Tr 0) = true := by decide +kernel
theorem axs_6_6 : ∀ x ∈ ([axu_ac1, axu_ac2, axu_ac3, axu_ac4_45] : List ax_RL), ax_RO ax_wC ax_XC x := ax_ro_cons axq_ac1 (ax_ro_cons axq_ac2 (ax_ro_cons axq_ac3 (ax_ro_cons axq_ac4_45 (ax_ro_nil))))
/-- TurnNet$Net.addCode: 23 steps -/
theorem axk_6_6 : ax_chk ax_wC rx_P (rx_DF, rx_FK) ax_APC (rx_n rxm_6) axm_6 (([50, 7, 0], (2, [(0, 2147483693, 2147483693), (1, 0, 0)], [], [], [(31, []), (40, [3]), (41, [3])])), [(1, 5), (18, 999), (19, 999)], [([2], (3, [(1, 0, 0), (0, 2147483693, 2147483693), (1, 0, 0)], [], [], [(41, [11]), (99, [11, 4016, 3])]))]) [axu_ac1, axu_ac2, axu_ac3, axu_ac4_45] [] 3000 0 (() : ax_Tr 0) = true := by decide +kernel
theorem axs_6_5 : ∀ x ∈ ([axu_ac1, axu_ac2, axu_ac3, axu_ac4_43] : List ax_RL), ax_RO ax_wC ax_XC x := ax_ro_cons axq_ac1 (ax_ro_cons axq_ac2 (ax_ro_cons axq_ac3 (ax_ro_cons axq_ac4_43 (ax_ro_nil))))
/-- TurnNet$Net.addCode: 23 steps -/
theorem axk_6_5 : ax_chk ax_wC rx_P (rx_DF, rx_FK) ax_APC (rx_n rxm_6) axm_6 (([50, 7, 0], (2, [(0, 2147483691, 2147483691), (1, 0, 0)], [], [], [(31, []), (40, [3]), (41, [3])])), [(1, 5), (18, 999), (19, 999)], [([2], (3, [(1, 0, 0), (0, 2147483691, 2147483691), (1, 0, 0)], [], [], [(41, [11]), (99, [11, 4012, 3])]))]) [axu_ac1, axu_ac2, axu_ac3, axu_ac4_43] [] 3000 0 (() : ax_Tr 0) = true := by decide +kernel
theorem axs_6_4 : ∀ x ∈ ([axu_ac1, axu_ac2, axu_ac3, axu_ac4_5] : List ax_RL), ax_RO ax_wC ax_XC x := ax_ro_cons axq_ac1 (ax_ro_cons axq_ac2 (ax_ro_cons axq_ac3 (ax_ro_cons axq_ac4_5 (ax_ro_nil))))
/-- TurnNet$Net.addCode: 23 steps -/
theorem axk_6_4 : ax_chk ax_wC rx_P (rx_DF, rx_FK) ax_APC (rx_n rxm_6) axm_6 (([50, 20, 7], (2, [(0, 2147483648, 2147583648), (1, 0, 0)], [], [], [(31, []), (40, [3]), (41, [3])])), [(1, 5), (18, 999), (19, 999)], [([2], (3, [(1, 0, 0), (0, 2147483648, 2147583648), (1, 0, 0)], [], [], [(41, [11]), (99, [11, 4032, 3])]))]) [axu_ac1, axu_ac2, axu_ac3, axu_ac4_5] [] 3000 0 (() : ax_Tr 0) = true := by decide +kernel
theorem axs_6_3 : ∀ x ∈ ([axu_ac1, axu_ac2, axu_ac3, axu_ac4_4] : List ax_RL), ax_RO ax_wC ax_XC x := ax_ro_cons axq_ac1 (ax_ro_cons axq_ac2 (ax_ro_cons axq_ac3 (ax_ro_cons axq_ac4_4 (ax_ro_nil))))
/-- TurnNet$Net.addCode: 23 steps -/
theorem axk_6_3 : ax_chk ax_wC rx_P (rx_DF, rx_FK) ax_APC (rx_n rxm_6) axm_6 (([50, 16, 7], (2, [(0, 2147483648, 2147583648), (1, 0, 0)], [], [], [(31, []), (40, [3]), (41, [3])])), [(1, 5), (18, 999), (19, 999)], [([2], (3, [(1, 0, 0), (0, 2147483648, 2147583648), (1, 0, 0)], [], [], [(41, [11]), (99, [11, 4008, 3])]))]) [axu_ac1, axu_ac2, axu_ac3, axu_ac4_4] [] 3000 0 (() : ax_Tr 0) = true := by decide +kernel
theorem axs_6_2 : ∀ x ∈ ([axu_ac1, axu_ac2, axu_ac3, axu_ac4_3] : List ax_RL), ax_RO ax_wC ax_XC x := ax_ro_cons axq_ac1 (ax_ro_cons axq_ac2 (ax_ro_cons axq_ac3 (ax_ro_cons axq_ac4_3 (ax_ro_nil))))
/-- TurnNet$Net.addCode: 23 steps -/
theorem axk_6_2 : ax_chk ax_wC rx_P (rx_DF, rx_FK) ax_APC (rx_n rxm_6) axm_6 (([50, 12, 7], (2, [(0, 2147483648, 2147583648), (1, 0, 0)], [], [], [(31, []), (40, [3]), (41, [3])])), [(1, 5), (18, 999), (19, 999)], [([2], (3, [(1, 0, 0), (0, 2147483648, 2147583648), (1, 0, 0)], [], [], [(41, [11]), (99, [11, 4004, 3])]))]) [axu_ac1, axu_ac2, axu_ac3, axu_ac4_3] [] 3000 0 (() : ax_Tr 0) = true := by decide +kernel
theorem axs_6_1 : ∀ x ∈ ([axu_ac1, axu_ac2, axu_ac3, axu_ac4_2] : List ax_RL), ax_RO ax_wC ax_XC x := ax_ro_cons axq_ac1 (ax_ro_cons axq_ac2 (ax_ro_cons axq_ac3 (ax_ro_cons axq_ac4_2 (ax_ro_nil))))
/-- TurnNet$Net.addCode: 23 steps -/
theorem axk_6_1 : ax_chk ax_wC rx_P (rx_DF, rx_FK) ax_APC (rx_n rxm_6) axm_6 (([50, 8, 7], (2, [(0, 2147483648, 2147583648), (1, 0, 0)], [], [], [(31, []), (40, [3]), (41, [3])])), [(1, 5), (18, 999), (19, 999)], [([2], (3, [(1, 0, 0), (0, 2147483648, 2147583648), (1, 0, 0)], [], [], [(41, [11]), (99, [11, 4000, 3])]))]) [axu_ac1, axu_ac2, axu_ac3, axu_ac4_2] [] 3000 0 (() : ax_Tr 0) = true := by decide +kernel
theorem axs_6_0 : ∀ x ∈ ([axu_ac1, axu_ac2, axu_ac3, axu_ac4_1] : List ax_RL), ax_RO ax_wC ax_XC x := ax_ro_cons axq_ac1 (ax_ro_cons axq_ac2 (ax_ro_cons axq_ac3 (ax_ro_cons axq_ac4_1 (ax_ro_nil))))
/-- TurnNet$Net.addCode: 23 steps -/
theorem axk_6_0 : ax_chk ax_wC rx_P (rx_DF, rx_FK) ax_APC (rx_n rxm_6) axm_6 (([50, 4, 7], (2, [(0, 2147483648, 2147484647), (1, 0, 0)], [], [], [(31, []), (40, [3]), (41, [3])])), [(1, 5), (18, 999), (19, 999)], [([2], (3, [(1, 0, 0), (0, 2147483648, 2147484647), (1, 0, 0)], [], [], [(41, [11]), (99, [11, 7, 3])]))]) [axu_ac1, axu_ac2, axu_ac3, axu_ac4_1] [] 3000 0 (() : ax_Tr 0) = true := by decide +kernel
theorem axr_6 (hP : ∀ q ∈ rx_P, rx_QW q ∧ rx_ST rx_P (rx_DF, rx_FK) q) : ax_Row ax_wC ax_XC rx_P ax_APC rx_P (rx_DF, rx_FK) rxm_6 (axm_6, axc_6) := fun hr => ⟨ax_tabB_ok axt_6, fun hL => ax_con_cons (ax_chk_ok hP ax_XC_ok hr hL (ax_tabB_ok axt_6) axs_6_0 axk_6_0) (ax_con_cons (ax_chk_ok hP ax_XC_ok hr hL (ax_tabB_ok axt_6) axs_6_1 axk_6_1) (ax_con_cons (ax_chk_ok hP ax_XC_ok hr hL (ax_tabB_ok axt_6) axs_6_2 axk_6_2) (ax_con_cons (ax_chk_ok hP ax_XC_ok hr hL (ax_tabB_ok axt_6) axs_6_3 axk_6_3) (ax_con_cons (ax_chk_ok hP ax_XC_ok hr hL (ax_tabB_ok axt_6) axs_6_4 axk_6_4) (ax_con_cons (ax_chk_ok hP ax_XC_ok hr hL (ax_tabB_ok axt_6) axs_6_5 axk_6_5) (ax_con_cons (ax_chk_ok hP ax_XC_ok hr hL (ax_tabB_ok axt_6) axs_6_6 axk_6_6) (ax_con_cons (ax_chk_ok hP ax_XC_ok hr hL (ax_tabB_ok axt_6) axs_6_7 axk_6_7) (ax_con_cons (ax_chk_ok hP ax_XC_ok hr hL (ax_tabB_ok axt_6) axs_6_8 axk_6_8) (ax_con_cons (ax_chk_ok hP ax_XC_ok hr hL (ax_tabB_ok axt_6) axs_6_9 axk_6_9) (ax_con_nil))))))))))⟩
theorem axt_7 : ax_tabB (rx_cd rxm_7) axm_7 = true := by decide +kernel
theorem axs_7_0 : ∀ x ∈ ([axu_al1, axu_al2, axu_al3, axu_al4, axu_al5, axu_s0_al5] : List ax_RL), ax_RO ax_wC ax_XC x := ax_ro_cons axq_al1 (ax_ro_cons axq_al2 (ax_ro_cons axq_al3 (ax_ro_cons axq_al4 (ax_ro_cons axq_al5 (ax_ro_cons axq_s0_al5 (ax_ro_nil))))))
/-- TurnNet$Net.addLink: 36 steps -/
theorem axk_7_0 : ax_chk ax_wC rx_P (rx_DF, rx_FK) ax_APC (rx_n rxm_7) axm_7 (([50, 11, 15], (6, [(1, 0, 0), (0, 2147483648, 2147483667), (0, 2147483648, 2147483657), (0, 2147483648, 2147483657), (1, 0, 0), (1, 0, 0)], [(50, 4, 19)], [], [(31, []), (50, [3, 7]), (75, [3, 7]), (67, [3, 7, 11]), (104, [3, 7, 15]), (113, [3, 7, 11, 15]), (1021, [15, 11]), (46, [3, 7, 5, 23])])), [(1, 1), (14, 999), (15, 999)], [([2], (7, [(1, 0, 0), (1, 0, 0), (0, 2147483648, 2147483667), (0, 2147483648, 2147483657), (0, 2147483648, 2147483657), (1, 0, 0), (1, 0, 0)], [], [], [(53, [3, 27]), (72, [3, 27]), (1030, [7, 27]), (46, [3, 27, 5, 23])]))]) [axu_al1, axu_al2, axu_al3, axu_al4, axu_al5, axu_s0_al5] [] 3000 0 (() : ax_Tr 0) = true := by decide +kernel
theorem axr_7 (hP : ∀ q ∈ rx_P, rx_QW q ∧ rx_ST rx_P (rx_DF, rx_FK) q) : ax_Row ax_wC ax_XC rx_P ax_APC rx_P (rx_DF, rx_FK) rxm_7 (axm_7, axc_7) := fun hr => ⟨ax_tabB_ok axt_7, fun hL => ax_con_cons (ax_chk_ok hP ax_XC_ok hr hL (ax_tabB_ok axt_7) axs_7_0 axk_7_0) (ax_con_nil)⟩
theorem axt_8 : ax_tabB (rx_cd rxm_8) axm_8 = true := by decide +kernel
theorem axr_8 (hP : ∀ q ∈ rx_P, rx_QW q ∧ rx_ST rx_P (rx_DF, rx_FK) q) : ax_Row ax_wC ax_XC rx_P ax_APC rx_P (rx_DF, rx_FK) rxm_8 (axm_8, axc_8) := fun hr => ⟨ax_tabB_ok axt_8, fun hL => ax_con_nil⟩
theorem axt_9 : ax_tabB (rx_cd rxm_9) axm_9 = true := by decide +kernel
theorem axr_9 (hP : ∀ q ∈ rx_P, rx_QW q ∧ rx_ST rx_P (rx_DF, rx_FK) q) : ax_Row ax_wC ax_XC rx_P ax_APC rx_P (rx_DF, rx_FK) rxm_9 (axm_9, axc_9) := fun hr => ⟨ax_tabB_ok axt_9, fun hL => ax_con_nil⟩
theorem axt_10 : ax_tabB (rx_cd rxm_10) axm_10 = true := by decide +kernel
theorem axr_10 (hP : ∀ q ∈ rx_P, rx_QW q ∧ rx_ST rx_P (rx_DF, rx_FK) q) : ax_Row ax_wC ax_XC rx_P ax_APC rx_P (rx_DF, rx_FK) rxm_10 (axm_10, axc_10) := fun hr => ⟨ax_tabB_ok axt_10, fun hL => ax_con_nil⟩
theorem axt_11 : ax_tabB (rx_cd rxm_11) axm_11 = true := by decide +kernel
theorem axr_11 (hP : ∀ q ∈ rx_P, rx_QW q ∧ rx_ST rx_P (rx_DF, rx_FK) q) : ax_Row ax_wC ax_XC rx_P ax_APC rx_P (rx_DF, rx_FK) rxm_11 (axm_11, axc_11) := fun hr => ⟨ax_tabB_ok axt_11, fun hL => ax_con_nil⟩
theorem axt_12 : ax_tabB (rx_cd rxm_12) axm_12 = true := by decide +kernel
theorem axr_12 (hP : ∀ q ∈ rx_P, rx_QW q ∧ rx_ST rx_P (rx_DF, rx_FK) q) : ax_Row ax_wC ax_XC rx_P ax_APC rx_P (rx_DF, rx_FK) rxm_12 (axm_12, axc_12) := fun hr => ⟨ax_tabB_ok axt_12, fun hL => ax_con_nil⟩
theorem axt_13 : ax_tabB (rx_cd rxm_13) axm_13 = true := by decide +kernel
theorem axr_13 (hP : ∀ q ∈ rx_P, rx_QW q ∧ rx_ST rx_P (rx_DF, rx_FK) q) : ax_Row ax_wC ax_XC rx_P ax_APC rx_P (rx_DF, rx_FK) rxm_13 (axm_13, axc_13) := fun hr => ⟨ax_tabB_ok axt_13, fun hL => ax_con_nil⟩
theorem axt_14 : ax_tabB (rx_cd rxm_14) axm_14 = true := by decide +kernel
theorem axr_14 (hP : ∀ q ∈ rx_P, rx_QW q ∧ rx_ST rx_P (rx_DF, rx_FK) q) : ax_Row ax_wC ax_XC rx_P ax_APC rx_P (rx_DF, rx_FK) rxm_14 (axm_14, axc_14) := fun hr => ⟨ax_tabB_ok axt_14, fun hL => ax_con_nil⟩
theorem axt_15 : ax_tabB (rx_cd rxm_15) axm_15 = true := by decide +kernel
theorem axr_15 (hP : ∀ q ∈ rx_P, rx_QW q ∧ rx_ST rx_P (rx_DF, rx_FK) q) : ax_Row ax_wC ax_XC rx_P ax_APC rx_P (rx_DF, rx_FK) rxm_15 (axm_15, axc_15) := fun hr => ⟨ax_tabB_ok axt_15, fun hL => ax_con_nil⟩
theorem axt_16 : ax_tabB (rx_cd rxm_16) axm_16 = true := by decide +kernel
theorem axr_16 (hP : ∀ q ∈ rx_P, rx_QW q ∧ rx_ST rx_P (rx_DF, rx_FK) q) : ax_Row ax_wC ax_XC rx_P ax_APC rx_P (rx_DF, rx_FK) rxm_16 (axm_16, axc_16) := fun hr => ⟨ax_tabB_ok axt_16, fun hL => ax_con_nil⟩
theorem axt_17 : ax_tabB (rx_cd rxm_17) axm_17 = true := by decide +kernel
theorem axr_17 (hP : ∀ q ∈ rx_P, rx_QW q ∧ rx_ST rx_P (rx_DF, rx_FK) q) : ax_Row ax_wC ax_XC rx_P ax_APC rx_P (rx_DF, rx_FK) rxm_17 (axm_17, axc_17) := fun hr => ⟨ax_tabB_ok axt_17, fun hL => ax_con_nil⟩
theorem axt_18 : ax_tabB (rx_cd rxm_18) axm_18 = true := by decide +kernel
theorem axr_18 (hP : ∀ q ∈ rx_P, rx_QW q ∧ rx_ST rx_P (rx_DF, rx_FK) q) : ax_Row ax_wC ax_XC rx_P ax_APC rx_P (rx_DF, rx_FK) rxm_18 (axm_18, axc_18) := fun hr => ⟨ax_tabB_ok axt_18, fun hL => ax_con_nil⟩
theorem axt_19 : ax_tabB (rx_cd rxm_19) axm_19 = true := by decide +kernel
/-- TurnNet$Planner.phaseOf: 22 steps -/
theorem axk_19_0 : ax_chk ax_wC rx_P (rx_DF, rx_FK) ax_APC (rx_n rxm_19) axm_19 (([3, 7], (2, [(0, 0, 4294967295), (2, 7, 0)], [], [], [])), [], [([11], (3, [(0, 2147483647, 2147483667), (0, 0, 4294967295), (2, 7, 0)], [], [], []))]) [] [2] 3000 1 (([((2, 1, 2, ([3, 7, 11], (3, [(0, 2147483648, 2147483668), (0, 0, 4294967295), (2, 7, 0)], [], [], []))), ())] : List ((Nat × Nat × Nat × ax_T) × ax_Tr 0)) : ax_Tr 1) = true := by decide +kernel
theorem axr_19 (hP : ∀ q ∈ rx_P, rx_QW q ∧ rx_ST rx_P (rx_DF, rx_FK) q) : ax_Row ax_wC ax_XC rx_P ax_APC rx_P (rx_DF, rx_FK) rxm_19 (axm_19, axc_19) := fun hr => ⟨ax_tabB_ok axt_19, fun hL => ax_con_cons (ax_chk_ok hP ax_XC_ok hr hL (ax_tabB_ok axt_19) ax_ro_nil axk_19_0) (ax_con_nil)⟩
theorem axt_20 : ax_tabB (rx_cd rxm_20) axm_20 = true := by decide +kernel
theorem axs_20_0 : ∀ x ∈ ([axu_ap1, axu_ap2, axu_ap3, axu_ap4, axu_ap5, axu_ap6] : List ax_RL), ax_RO ax_wC ax_XC x := ax_ro_cons axq_ap1 (ax_ro_cons axq_ap2 (ax_ro_cons axq_ap3 (ax_ro_cons axq_ap4 (ax_ro_cons axq_ap5 (ax_ro_cons axq_ap6 (ax_ro_nil))))))
/-- TurnNet$Reader.append: 26 steps -/
theorem axk_20_0 : ax_chk ax_wC rx_P (rx_DF, rx_FK) ax_APC (rx_n rxm_20) axm_20 (([42, 7], (3, [(0, 2147483648, 2147484444), (0, 0, 4294967295), (1, 0, 0)], [(42, 4, 11)], [], [(30, [3])])), [(2, 1), (20, 999)], [([2], (5, [(0, 2147483648, 2147484448), (1, 0, 0), (0, 2147483648, 2147484444), (0, 0, 4294967295), (1, 0, 0)], [(42, 4, 19)], [], [(30, [15]), (33, [3, 7, 15])]))]) [axu_ap1, axu_ap2, axu_ap3, axu_ap4, axu_ap5, axu_ap6] [3] 3000 1 (([((3, 2, 3, ([42, 7, 15], (6, [(1, 0, 0), (0, 2147483648, 2147484448), (0, 2147483640, 2147483672), (0, 2147483648, 2147484444), (0, 0, 4294967295), (1, 0, 0)], [(42, 4, 19)], [], [(34, [3, 7, 15, 23]), (30, [23])]))), ())] : List ((Nat × Nat × Nat × ax_T) × ax_Tr 0)) : ax_Tr 1) = true := by decide +kernel
theorem axr_20 (hP : ∀ q ∈ rx_P, rx_QW q ∧ rx_ST rx_P (rx_DF, rx_FK) q) : ax_Row ax_wC ax_XC rx_P ax_APC rx_P (rx_DF, rx_FK) rxm_20 (axm_20, axc_20) := fun hr => ⟨ax_tabB_ok axt_20, fun hL => ax_con_cons (ax_chk_ok hP ax_XC_ok hr hL (ax_tabB_ok axt_20) axs_20_0 axk_20_0) (ax_con_nil)⟩
theorem axt_21 : ax_tabB (rx_cd rxm_21) axm_21 = true := by decide +kernel
theorem axs_21_3 : ∀ x ∈ ([axu_fl1_4, axu_fl2_4] : List ax_RL), ax_RO ax_wC ax_XC x := ax_ro_cons axq_fl1_4 (ax_ro_cons axq_fl2_4 (ax_ro_nil))
/-- TurnNet$Reader.fail: 9 steps -/
theorem axk_21_3 : ax_chk ax_wC rx_P (rx_DF, rx_FK) ax_APC (rx_n rxm_21) axm_21 (([42, 16], (2, [(1, 0, 0), (1, 0, 0)], [], [], [(50, [3, 7]), (64, [3, 7, 16])])), [(2, 3), (2, 4)], [([0], (2, [(1, 0, 0), (1, 0, 0)], [], [], [(63, [3])]))]) [axu_fl1_4, axu_fl2_4] [] 3000 0 (() : ax_Tr 0) = true := by decide +kernel
theorem axs_21_2 : ∀ x ∈ ([axu_fl1_3, axu_fl2_3] : List ax_RL), ax_RO ax_wC ax_XC x := ax_ro_cons axq_fl1_3 (ax_ro_cons axq_fl2_3 (ax_ro_nil))
/-- TurnNet$Reader.fail: 9 steps -/
theorem axk_21_2 : ax_chk ax_wC rx_P (rx_DF, rx_FK) ax_APC (rx_n rxm_21) axm_21 (([42, 12], (2, [(1, 0, 0), (1, 0, 0)], [], [], [(50, [3, 7]), (64, [3, 7, 12])])), [(2, 3), (2, 4)], [([0], (2, [(1, 0, 0), (1, 0, 0)], [], [], [(63, [3])]))]) [axu_fl1_3, axu_fl2_3] [] 3000 0 (() : ax_Tr 0) = true := by decide +kernel
theorem axs_21_1 : ∀ x ∈ ([axu_fl1_2, axu_fl2_2] : List ax_RL), ax_RO ax_wC ax_XC x := ax_ro_cons axq_fl1_2 (ax_ro_cons axq_fl2_2 (ax_ro_nil))
/-- TurnNet$Reader.fail: 9 steps -/
theorem axk_21_1 : ax_chk ax_wC rx_P (rx_DF, rx_FK) ax_APC (rx_n rxm_21) axm_21 (([42, 8], (2, [(1, 0, 0), (1, 0, 0)], [], [], [(50, [3, 7]), (64, [3, 7, 8])])), [(2, 3), (2, 4)], [([0], (2, [(1, 0, 0), (1, 0, 0)], [], [], [(63, [3])]))]) [axu_fl1_2, axu_fl2_2] [] 3000 0 (() : ax_Tr 0) = true := by decide +kernel
theorem axs_21_0 : ∀ x ∈ ([axu_fl1_1, axu_fl2_1] : List ax_RL), ax_RO ax_wC ax_XC x := ax_ro_cons axq_fl1_1 (ax_ro_cons axq_fl2_1 (ax_ro_nil))
/-- TurnNet$Reader.fail: 9 steps -/
theorem axk_21_0 : ax_chk ax_wC rx_P (rx_DF, rx_FK) ax_APC (rx_n rxm_21) axm_21 (([42, 4], (2, [(1, 0, 0), (1, 0, 0)], [], [], [(50, [3, 7]), (64, [3, 7, 4])])), [(2, 3), (2, 4)], [([0], (2, [(1, 0, 0), (1, 0, 0)], [], [], [(63, [3])]))]) [axu_fl1_1, axu_fl2_1] [] 3000 0 (() : ax_Tr 0) = true := by decide +kernel
theorem axr_21 (hP : ∀ q ∈ rx_P, rx_QW q ∧ rx_ST rx_P (rx_DF, rx_FK) q) : ax_Row ax_wC ax_XC rx_P ax_APC rx_P (rx_DF, rx_FK) rxm_21 (axm_21, axc_21) := fun hr => ⟨ax_tabB_ok axt_21, fun hL => ax_con_cons (ax_chk_ok hP ax_XC_ok hr hL (ax_tabB_ok axt_21) axs_21_0 axk_21_0) (ax_con_cons (ax_chk_ok hP ax_XC_ok hr hL (ax_tabB_ok axt_21) axs_21_1 axk_21_1) (ax_con_cons (ax_chk_ok hP ax_XC_ok hr hL (ax_tabB_ok axt_21) axs_21_2 axk_21_2) (ax_con_cons (ax_chk_ok hP ax_XC_ok hr hL (ax_tabB_ok axt_21) axs_21_3 axk_21_3) (ax_con_nil))))⟩
theorem axt_22 : ax_tabB (rx_cd rxm_22) axm_22 = true := by decide +kernel
theorem axr_22 (hP : ∀ q ∈ rx_P, rx_QW q ∧ rx_ST rx_P (rx_DF, rx_FK) q) : ax_Row ax_wC ax_XC rx_P ax_APC rx_P (rx_DF, rx_FK) rxm_22 (axm_22, axc_22) := fun hr => ⟨ax_tabB_ok axt_22, fun hL => ax_con_nil⟩
theorem axt_23 : ax_tabB (rx_cd rxm_23) axm_23 = true := by decide +kernel
theorem axr_23 (hP : ∀ q ∈ rx_P, rx_QW q ∧ rx_ST rx_P (rx_DF, rx_FK) q) : ax_Row ax_wC ax_XC rx_P ax_APC rx_P (rx_DF, rx_FK) rxm_23 (axm_23, axc_23) := fun hr => ⟨ax_tabB_ok axt_23, fun hL => ax_con_nil⟩
theorem axt_24 : ax_tabB (rx_cd rxm_24) axm_24 = true := by decide +kernel
theorem axr_24 (hP : ∀ q ∈ rx_P, rx_QW q ∧ rx_ST rx_P (rx_DF, rx_FK) q) : ax_Row ax_wC ax_XC rx_P ax_APC rx_P (rx_DF, rx_FK) rxm_24 (axm_24, axc_24) := fun hr => ⟨ax_tabB_ok axt_24, fun hL => ax_con_nil⟩
theorem axt_25 : ax_tabB (rx_cd rxm_25) axm_25 = true := by decide +kernel
theorem axr_25 (hP : ∀ q ∈ rx_P, rx_QW q ∧ rx_ST rx_P (rx_DF, rx_FK) q) : ax_Row ax_wC ax_XC rx_P ax_APC rx_P (rx_DF, rx_FK) rxm_25 (axm_25, axc_25) := fun hr => ⟨ax_tabB_ok axt_25, fun hL => ax_con_nil⟩
theorem axt_26 : ax_tabB (rx_cd rxm_26) axm_26 = true := by decide +kernel
theorem axr_26 (hP : ∀ q ∈ rx_P, rx_QW q ∧ rx_ST rx_P (rx_DF, rx_FK) q) : ax_Row ax_wC ax_XC rx_P ax_APC rx_P (rx_DF, rx_FK) rxm_26 (axm_26, axc_26) := fun hr => ⟨ax_tabB_ok axt_26, fun hL => ax_con_nil⟩
theorem axt_27 : ax_tabB (rx_cd rxm_27) axm_27 = true := by decide +kernel
theorem axr_27 (hP : ∀ q ∈ rx_P, rx_QW q ∧ rx_ST rx_P (rx_DF, rx_FK) q) : ax_Row ax_wC ax_XC rx_P ax_APC rx_P (rx_DF, rx_FK) rxm_27 (axm_27, axc_27) := fun hr => ⟨ax_tabB_ok axt_27, fun hL => ax_con_nil⟩
theorem axt_28 : ax_tabB (rx_cd rxm_28) axm_28 = true := by decide +kernel
/-- TurnNet$State.begin: 25 steps -/
theorem axk_28_0 : ax_chk ax_wC rx_P (rx_DF, rx_FK) ax_APC (rx_n rxm_28) axm_28 (([3, 7, 11, 15], (4, [(0, 0, 4294967295), (0, 0, 4294967295), (0, 2147483648, 2147483657), (2, 10, 0)], [], [], [])), [(10, 0), (10, 1), (10, 2), (10, 3), (40, 999)], [([2], (4, [(0, 0, 4294967295), (0, 0, 4294967295), (0, 2147483648, 2147483657), (2, 10, 0)], [], [], []))]) [] [23] 3000 1 (([((23, 1, 4, ([3, 7, 11, 15, 19], (5, [(0, 2147483648, 2147483660), (0, 0, 4294967295), (0, 0, 4294967295), (0, 2147483648, 2147483657), (2, 10, 0)], [(3, 12, 0), (3, 8, 15), (3, 4, 11), (3, 0, 7)], [], []))), ())] : List ((Nat × Nat × Nat × ax_T) × ax_Tr 0)) : ax_Tr 1) = true := by decide +kernel
theorem axr_28 (hP : ∀ q ∈ rx_P, rx_QW q ∧ rx_ST rx_P (rx_DF, rx_FK) q) : ax_Row ax_wC ax_XC rx_P ax_APC rx_P (rx_DF, rx_FK) rxm_28 (axm_28, axc_28) := fun hr => ⟨ax_tabB_ok axt_28, fun hL => ax_con_cons (ax_chk_ok hP ax_XC_ok hr hL (ax_tabB_ok axt_28) ax_ro_nil axk_28_0) (ax_con_nil)⟩
theorem axt_29 : ax_tabB (rx_cd rxm_29) axm_29 = true := by decide +kernel
/-- TurnNet$State.countAt: 20 steps -/
theorem axk_29_0 : ax_chk ax_wC rx_P (rx_DF, rx_FK) ax_APC (rx_n rxm_29) axm_29 (([3, 7], (2, [(0, 0, 4294967295), (2, 10, 0)], [], [], [])), [], [([11], (3, [(0, 0, 4294967295), (0, 0, 4294967295), (2, 10, 0)], [], [], []))]) [] [4] 3000 1 (([((4, 1, 3, ([3, 7, 11, 15], (4, [(0, 2147483648, 2147483660), (0, 0, 4294967295), (0, 0, 4294967295), (2, 10, 0)], [], [], []))), ())] : List ((Nat × Nat × Nat × ax_T) × ax_Tr 0)) : ax_Tr 1) = true := by decide +kernel
theorem axr_29 (hP : ∀ q ∈ rx_P, rx_QW q ∧ rx_ST rx_P (rx_DF, rx_FK) q) : ax_Row ax_wC ax_XC rx_P ax_APC rx_P (rx_DF, rx_FK) rxm_29 (axm_29, axc_29) := fun hr => ⟨ax_tabB_ok axt_29, fun hL => ax_con_cons (ax_chk_ok hP ax_XC_ok hr hL (ax_tabB_ok axt_29) ax_ro_nil axk_29_0) (ax_con_nil)⟩
theorem axt_30 : ax_tabB (rx_cd rxm_30) axm_30 = true := by decide +kernel
/-- TurnNet$State.countCameBy: 28 steps -/
theorem axk_30_0 : ax_chk ax_wC rx_P (rx_DF, rx_FK) ax_APC (rx_n rxm_30) axm_30 (([3, 7], (2, [(0, 0, 4294967295), (2, 10, 0)], [], [], [])), [], [([11], (3, [(0, 0, 4294967295), (0, 0, 4294967295), (2, 10, 0)], [], [], []))]) [] [4] 3000 1 (([((4, 1, 3, ([3, 7, 11, 15], (4, [(0, 2147483648, 2147483660), (0, 0, 4294967295), (0, 0, 4294967295), (2, 10, 0)], [], [], []))), ())] : List ((Nat × Nat × Nat × ax_T) × ax_Tr 0)) : ax_Tr 1) = true := by decide +kernel
theorem axr_30 (hP : ∀ q ∈ rx_P, rx_QW q ∧ rx_ST rx_P (rx_DF, rx_FK) q) : ax_Row ax_wC ax_XC rx_P ax_APC rx_P (rx_DF, rx_FK) rxm_30 (axm_30, axc_30) := fun hr => ⟨ax_tabB_ok axt_30, fun hL => ax_con_cons (ax_chk_ok hP ax_XC_ok hr hL (ax_tabB_ok axt_30) ax_ro_nil axk_30_0) (ax_con_nil)⟩
theorem axt_31 : ax_tabB (rx_cd rxm_31) axm_31 = true := by decide +kernel
/-- TurnNet$State.countPackets: 20 steps -/
theorem axk_31_0 : ax_chk ax_wC rx_P (rx_DF, rx_FK) ax_APC (rx_n rxm_31) axm_31 (([3], (1, [(2, 10, 0)], [], [], [])), [], [([7], (2, [(0, 0, 4294967295), (2, 10, 0)], [], [], []))]) [] [4] 3000 1 (([((4, 1, 2, ([3, 7, 11], (3, [(0, 2147483648, 2147483660), (0, 0, 4294967295), (2, 10, 0)], [], [], []))), ())] : List ((Nat × Nat × Nat × ax_T) × ax_Tr 0)) : ax_Tr 1) = true := by decide +kernel
theorem axr_31 (hP : ∀ q ∈ rx_P, rx_QW q ∧ rx_ST rx_P (rx_DF, rx_FK) q) : ax_Row ax_wC ax_XC rx_P ax_APC rx_P (rx_DF, rx_FK) rxm_31 (axm_31, axc_31) := fun hr => ⟨ax_tabB_ok axt_31, fun hL => ax_con_cons (ax_chk_ok hP ax_XC_ok hr hL (ax_tabB_ok axt_31) ax_ro_nil axk_31_0) (ax_con_nil)⟩
theorem axt_32 : ax_tabB (rx_cd rxm_32) axm_32 = true := by decide +kernel
/-- TurnNet$State.freePacket: 17 steps -/
theorem axk_32_0 : ax_chk ax_wC rx_P (rx_DF, rx_FK) ax_APC (rx_n rxm_32) axm_32 (([3], (1, [(2, 10, 0)], [], [], [])), [], [([7], (2, [(0, 2147483647, 2147483659), (2, 10, 0)], [], [], []))]) [] [2] 3000 1 (([((2, 1, 1, ([3, 7], (2, [(0, 2147483648, 2147483660), (2, 10, 0)], [], [], []))), ())] : List ((Nat × Nat × Nat × ax_T) × ax_Tr 0)) : ax_Tr 1) = true := by decide +kernel
theorem axr_32 (hP : ∀ q ∈ rx_P, rx_QW q ∧ rx_ST rx_P (rx_DF, rx_FK) q) : ax_Row ax_wC ax_XC rx_P ax_APC rx_P (rx_DF, rx_FK) rxm_32 (axm_32, axc_32) := fun hr => ⟨ax_tabB_ok axt_32, fun hL => ax_con_cons (ax_chk_ok hP ax_XC_ok hr hL (ax_tabB_ok axt_32) ax_ro_nil axk_32_0) (ax_con_nil)⟩
theorem axt_33 : ax_tabB (rx_cd rxm_33) axm_33 = true := by decide +kernel
theorem axr_33 (hP : ∀ q ∈ rx_P, rx_QW q ∧ rx_ST rx_P (rx_DF, rx_FK) q) : ax_Row ax_wC ax_XC rx_P ax_APC rx_P (rx_DF, rx_FK) rxm_33 (axm_33, axc_33) := fun hr => ⟨ax_tabB_ok axt_33, fun hL => ax_con_nil⟩
theorem axt_34 : ax_tabB (rx_cd rxm_34) axm_34 = true := by decide +kernel
theorem axr_34 (hP : ∀ q ∈ rx_P, rx_QW q ∧ rx_ST rx_P (rx_DF, rx_FK) q) : ax_Row ax_wC ax_XC rx_P ax_APC rx_P (rx_DF, rx_FK) rxm_34 (axm_34, axc_34) := fun hr => ⟨ax_tabB_ok axt_34, fun hL => ax_con_nil⟩
theorem axt_35 : ax_tabB (rx_cd rxm_35) axm_35 = true := by decide +kernel
theorem axr_35 (hP : ∀ q ∈ rx_P, rx_QW q ∧ rx_ST rx_P (rx_DF, rx_FK) q) : ax_Row ax_wC ax_XC rx_P ax_APC rx_P (rx_DF, rx_FK) rxm_35 (axm_35, axc_35) := fun hr => ⟨ax_tabB_ok axt_35, fun hL => ax_con_nil⟩
theorem axt_36 : ax_tabB (rx_cd rxm_36) axm_36 = true := by decide +kernel
theorem axr_36 (hP : ∀ q ∈ rx_P, rx_QW q ∧ rx_ST rx_P (rx_DF, rx_FK) q) : ax_Row ax_wC ax_XC rx_P ax_APC rx_P (rx_DF, rx_FK) rxm_36 (axm_36, axc_36) := fun hr => ⟨ax_tabB_ok axt_36, fun hL => ax_con_nil⟩
theorem axt_37 : ax_tabB (rx_cd rxm_37) axm_37 = true := by decide +kernel
theorem axr_37 (hP : ∀ q ∈ rx_P, rx_QW q ∧ rx_ST rx_P (rx_DF, rx_FK) q) : ax_Row ax_wC ax_XC rx_P ax_APC rx_P (rx_DF, rx_FK) rxm_37 (axm_37, axc_37) := fun hr => ⟨ax_tabB_ok axt_37, fun hL => ax_con_nil⟩
theorem axt_38 : ax_tabB (rx_cd rxm_38) axm_38 = true := by decide +kernel
theorem axr_38 (hP : ∀ q ∈ rx_P, rx_QW q ∧ rx_ST rx_P (rx_DF, rx_FK) q) : ax_Row ax_wC ax_XC rx_P ax_APC rx_P (rx_DF, rx_FK) rxm_38 (axm_38, axc_38) := fun hr => ⟨ax_tabB_ok axt_38, fun hL => ax_con_nil⟩
theorem axt_39 : ax_tabB (rx_cd rxm_39) axm_39 = true := by decide +kernel
theorem axs_39_1 : ∀ x ∈ ([axu_en1] : List ax_RL), ax_RO ax_wC ax_XC x := ax_ro_cons axq_en1 (ax_ro_nil)
/-- TurnNet.end: 15 steps -/
theorem axk_39_1 : ax_chk ax_wC rx_P (rx_DF, rx_FK) ax_APC (rx_n rxm_39) axm_39 (([10, 7], (3, [(0, 2147483648, 2147484448), (0, 2147483648, 4294967295), (1, 0, 0)], [(42, 4, 11)], [], [(0, [80]), (30, [3])])), [(2, 1)], [([17179869180], (3, [(0, 2147483648, 2147484448), (0, 2147483648, 4294967295), (1, 0, 0)], [(42, 4, 11)], [], [(0, [80]), (30, [3]), (1024, [7, 11])])), ([7], (4, [(1, 0, 0), (0, 2147483648, 2147484448), (0, 2147483648, 4294967295), (1, 0, 0)], [(42, 4, 7)], [], [(0, [80]), (30, [15]), (38, [3, 7, 15]), (1025, [7, 11])]))]) [axu_en1] [] 3000 0 (() : ax_Tr 0) = true := by decide +kernel
/-- TurnNet.end: 4 steps -/
theorem axk_39_0 : ax_chk ax_wC rx_P (rx_DF, rx_FK) ax_APC (rx_n rxm_39) axm_39 (([10, 7], (3, [(0, 2147483648, 2147484448), (0, 0, 2147483647), (1, 0, 0)], [(42, 4, 11)], [], [(0, [80]), (30, [3])])), [], [([17179869180], (3, [(0, 2147483648, 2147484448), (0, 0, 2147483647), (1, 0, 0)], [(42, 4, 11)], [], [(0, [80]), (30, [3])]))]) [] [] 3000 0 (() : ax_Tr 0) = true := by decide +kernel
theorem axr_39 (hP : ∀ q ∈ rx_P, rx_QW q ∧ rx_ST rx_P (rx_DF, rx_FK) q) : ax_Row ax_wC ax_XC rx_P ax_APC rx_P (rx_DF, rx_FK) rxm_39 (axm_39, axc_39) := fun hr => ⟨ax_tabB_ok axt_39, fun hL => ax_con_cons (ax_chk_ok hP ax_XC_ok hr hL (ax_tabB_ok axt_39) ax_ro_nil axk_39_0) (ax_con_cons (ax_chk_ok hP ax_XC_ok hr hL (ax_tabB_ok axt_39) axs_39_1 axk_39_1) (ax_con_nil))⟩
theorem axt_40 : ax_tabB (rx_cd rxm_40) axm_40 = true := by decide +kernel
/-- TurnNet.fault: 7 steps -/
theorem axk_40_4 : ax_chk ax_wC rx_P (rx_DF, rx_FK) ax_APC (rx_n rxm_40) axm_40 (([10, 3], (1, [(0, 2147483650, 4294967295)], [], [], [(0, [80])])), [], [([17179869180], (1, [(0, 2147483650, 4294967295)], [], [], [(0, [80])]))]) [] [] 3000 0 (() : ax_Tr 0) = true := by decide +kernel
/-- TurnNet.fault: 7 steps -/
theorem axk_40_3 : ax_chk ax_wC rx_P (rx_DF, rx_FK) ax_APC (rx_n rxm_40) axm_40 (([10, 3], (1, [(0, 0, 2147483647)], [], [], [(0, [80])])), [], [([17179869180], (1, [(0, 0, 2147483647)], [], [], [(0, [80])]))]) [] [] 3000 0 (() : ax_Tr 0) = true := by decide +kernel
/-- TurnNet.fault: 10 steps -/
theorem axk_40_2 : ax_chk ax_wC rx_P (rx_DF, rx_FK) ax_APC (rx_n rxm_40) axm_40 (([10, 4], (1, [(0, 0, 4294967295)], [(42, 16, 3)], [], [(0, [80])])), [], [([3], (1, [(0, 0, 4294967295)], [(42, 16, 3)], [], [(0, [80])]))]) [] [] 3000 0 (() : ax_Tr 0) = true := by decide +kernel
/-- TurnNet.fault: 6 steps -/
theorem axk_40_1 : ax_chk ax_wC rx_P (rx_DF, rx_FK) ax_APC (rx_n rxm_40) axm_40 (([10, 0], (1, [(0, 0, 4294967295)], [(42, 12, 3)], [], [(0, [80])])), [], [([3], (1, [(0, 0, 4294967295)], [(42, 12, 3)], [], [(0, [80])]))]) [] [] 3000 0 (() : ax_Tr 0) = true := by decide +kernel
/-- TurnNet.fault: 21 steps -/
theorem axk_40_0 : ax_chk ax_wC rx_P (rx_DF, rx_FK) ax_APC (rx_n rxm_40) axm_40 (([3, 7], (2, [(0, 0, 4294967295), (2, 0, 0)], [], [], [(0, [80])])), [], [([11], (3, [(0, 0, 4294967295), (0, 0, 4294967295), (2, 0, 0)], [], [], [(0, [80])]))]) [] [] 3000 0 (() : ax_Tr 0) = true := by decide +kernel
theorem axr_40 (hP : ∀ q ∈ rx_P, rx_QW q ∧ rx_ST rx_P (rx_DF, rx_FK) q) : ax_Row ax_wC ax_XC rx_P ax_APC rx_P (rx_DF, rx_FK) rxm_40 (axm_40, axc_40) := fun hr => ⟨ax_tabB_ok axt_40, fun hL => ax_con_cons (ax_chk_ok hP ax_XC_ok hr hL (ax_tabB_ok axt_40) ax_ro_nil axk_40_0) (ax_con_cons (ax_chk_ok hP ax_XC_ok hr hL (ax_tabB_ok axt_40) ax_ro_nil axk_40_1) (ax_con_cons (ax_chk_ok hP ax_XC_ok hr hL (ax_tabB_ok axt_40) ax_ro_nil axk_40_2) (ax_con_cons (ax_chk_ok hP ax_XC_ok hr hL (ax_tabB_ok axt_40) ax_ro_nil axk_40_3) (ax_con_cons (ax_chk_ok hP ax_XC_ok hr hL (ax_tabB_ok axt_40) ax_ro_nil axk_40_4) (ax_con_nil)))))⟩
theorem axt_41 : ax_tabB (rx_cd rxm_41) axm_41 = true := by decide +kernel
theorem axr_41 (hP : ∀ q ∈ rx_P, rx_QW q ∧ rx_ST rx_P (rx_DF, rx_FK) q) : ax_Row ax_wC ax_XC rx_P ax_APC rx_P (rx_DF, rx_FK) rxm_41 (axm_41, axc_41) := fun hr => ⟨ax_tabB_ok axt_41, fun hL => ax_con_nil⟩
theorem axt_42 : ax_tabB (rx_cd rxm_42) axm_42 = true := by decide +kernel
theorem axr_42 (hP : ∀ q ∈ rx_P, rx_QW q ∧ rx_ST rx_P (rx_DF, rx_FK) q) : ax_Row ax_wC ax_XC rx_P ax_APC rx_P (rx_DF, rx_FK) rxm_42 (axm_42, axc_42) := fun hr => ⟨ax_tabB_ok axt_42, fun hL => ax_con_nil⟩
theorem axt_43 : ax_tabB (rx_cd rxm_43) axm_43 = true := by decide +kernel
theorem axr_43 (hP : ∀ q ∈ rx_P, rx_QW q ∧ rx_ST rx_P (rx_DF, rx_FK) q) : ax_Row ax_wC ax_XC rx_P ax_APC rx_P (rx_DF, rx_FK) rxm_43 (axm_43, axc_43) := fun hr => ⟨ax_tabB_ok axt_43, fun hL => ax_con_nil⟩
theorem axt_44 : ax_tabB (rx_cd rxm_44) axm_44 = true := by decide +kernel
theorem axr_44 (hP : ∀ q ∈ rx_P, rx_QW q ∧ rx_ST rx_P (rx_DF, rx_FK) q) : ax_Row ax_wC ax_XC rx_P ax_APC rx_P (rx_DF, rx_FK) rxm_44 (axm_44, axc_44) := fun hr => ⟨ax_tabB_ok axt_44, fun hL => ax_con_nil⟩
theorem axt_45 : ax_tabB (rx_cd rxm_45) axm_45 = true := by decide +kernel
theorem axr_45 (hP : ∀ q ∈ rx_P, rx_QW q ∧ rx_ST rx_P (rx_DF, rx_FK) q) : ax_Row ax_wC ax_XC rx_P ax_APC rx_P (rx_DF, rx_FK) rxm_45 (axm_45, axc_45) := fun hr => ⟨ax_tabB_ok axt_45, fun hL => ax_con_nil⟩
theorem axt_46 : ax_tabB (rx_cd rxm_46) axm_46 = true := by decide +kernel
theorem axr_46 (hP : ∀ q ∈ rx_P, rx_QW q ∧ rx_ST rx_P (rx_DF, rx_FK) q) : ax_Row ax_wC ax_XC rx_P ax_APC rx_P (rx_DF, rx_FK) rxm_46 (axm_46, axc_46) := fun hr => ⟨ax_tabB_ok axt_46, fun hL => ax_con_nil⟩
theorem axt_47 : ax_tabB (rx_cd rxm_47) axm_47 = true := by decide +kernel
theorem axr_47 (hP : ∀ q ∈ rx_P, rx_QW q ∧ rx_ST rx_P (rx_DF, rx_FK) q) : ax_Row ax_wC ax_XC rx_P ax_APC rx_P (rx_DF, rx_FK) rxm_47 (axm_47, axc_47) := fun hr => ⟨ax_tabB_ok axt_47, fun hL => ax_con_nil⟩
theorem axt_48 : ax_tabB (rx_cd rxm_48) axm_48 = true := by decide +kernel
theorem axr_48 (hP : ∀ q ∈ rx_P, rx_QW q ∧ rx_ST rx_P (rx_DF, rx_FK) q) : ax_Row ax_wC ax_XC rx_P ax_APC rx_P (rx_DF, rx_FK) rxm_48 (axm_48, axc_48) := fun hr => ⟨ax_tabB_ok axt_48, fun hL => ax_con_nil⟩
theorem axt_49 : ax_tabB (rx_cd rxm_49) axm_49 = true := by decide +kernel
theorem axr_49 (hP : ∀ q ∈ rx_P, rx_QW q ∧ rx_ST rx_P (rx_DF, rx_FK) q) : ax_Row ax_wC ax_XC rx_P ax_APC rx_P (rx_DF, rx_FK) rxm_49 (axm_49, axc_49) := fun hr => ⟨ax_tabB_ok axt_49, fun hL => ax_con_nil⟩
theorem axt_50 : ax_tabB (rx_cd rxm_50) axm_50 = true := by decide +kernel
theorem axr_50 (hP : ∀ q ∈ rx_P, rx_QW q ∧ rx_ST rx_P (rx_DF, rx_FK) q) : ax_Row ax_wC ax_XC rx_P ax_APC rx_P (rx_DF, rx_FK) rxm_50 (axm_50, axc_50) := fun hr => ⟨ax_tabB_ok axt_50, fun hL => ax_con_nil⟩
theorem axt_51 : ax_tabB (rx_cd rxm_51) axm_51 = true := by decide +kernel
theorem axr_51 (hP : ∀ q ∈ rx_P, rx_QW q ∧ rx_ST rx_P (rx_DF, rx_FK) q) : ax_Row ax_wC ax_XC rx_P ax_APC rx_P (rx_DF, rx_FK) rxm_51 (axm_51, axc_51) := fun hr => ⟨ax_tabB_ok axt_51, fun hL => ax_con_nil⟩
theorem axt_52 : ax_tabB (rx_cd rxm_52) axm_52 = true := by decide +kernel
theorem axr_52 (hP : ∀ q ∈ rx_P, rx_QW q ∧ rx_ST rx_P (rx_DF, rx_FK) q) : ax_Row ax_wC ax_XC rx_P ax_APC rx_P (rx_DF, rx_FK) rxm_52 (axm_52, axc_52) := fun hr => ⟨ax_tabB_ok axt_52, fun hL => ax_con_nil⟩
theorem axt_53 : ax_tabB (rx_cd rxm_53) axm_53 = true := by decide +kernel
theorem axr_53 (hP : ∀ q ∈ rx_P, rx_QW q ∧ rx_ST rx_P (rx_DF, rx_FK) q) : ax_Row ax_wC ax_XC rx_P ax_APC rx_P (rx_DF, rx_FK) rxm_53 (axm_53, axc_53) := fun hr => ⟨ax_tabB_ok axt_53, fun hL => ax_con_nil⟩
theorem axt_54 : ax_tabB (rx_cd rxm_54) axm_54 = true := by decide +kernel
theorem axr_54 (hP : ∀ q ∈ rx_P, rx_QW q ∧ rx_ST rx_P (rx_DF, rx_FK) q) : ax_Row ax_wC ax_XC rx_P ax_APC rx_P (rx_DF, rx_FK) rxm_54 (axm_54, axc_54) := fun hr => ⟨ax_tabB_ok axt_54, fun hL => ax_con_nil⟩
theorem axt_55 : ax_tabB (rx_cd rxm_55) axm_55 = true := by decide +kernel
theorem axr_55 (hP : ∀ q ∈ rx_P, rx_QW q ∧ rx_ST rx_P (rx_DF, rx_FK) q) : ax_Row ax_wC ax_XC rx_P ax_APC rx_P (rx_DF, rx_FK) rxm_55 (axm_55, axc_55) := fun hr => ⟨ax_tabB_ok axt_55, fun hL => ax_con_nil⟩
theorem axt_56 : ax_tabB (rx_cd rxm_56) axm_56 = true := by decide +kernel
theorem axr_56 (hP : ∀ q ∈ rx_P, rx_QW q ∧ rx_ST rx_P (rx_DF, rx_FK) q) : ax_Row ax_wC ax_XC rx_P ax_APC rx_P (rx_DF, rx_FK) rxm_56 (axm_56, axc_56) := fun hr => ⟨ax_tabB_ok axt_56, fun hL => ax_con_nil⟩
theorem axt_57 : ax_tabB (rx_cd rxm_57) axm_57 = true := by decide +kernel
theorem axr_57 (hP : ∀ q ∈ rx_P, rx_QW q ∧ rx_ST rx_P (rx_DF, rx_FK) q) : ax_Row ax_wC ax_XC rx_P ax_APC rx_P (rx_DF, rx_FK) rxm_57 (axm_57, axc_57) := fun hr => ⟨ax_tabB_ok axt_57, fun hL => ax_con_nil⟩
theorem axt_58 : ax_tabB (rx_cd rxm_58) axm_58 = true := by decide +kernel
theorem axr_58 (hP : ∀ q ∈ rx_P, rx_QW q ∧ rx_ST rx_P (rx_DF, rx_FK) q) : ax_Row ax_wC ax_XC rx_P ax_APC rx_P (rx_DF, rx_FK) rxm_58 (axm_58, axc_58) := fun hr => ⟨ax_tabB_ok axt_58, fun hL => ax_con_nil⟩
theorem axt_59 : ax_tabB (rx_cd rxm_59) axm_59 = true := by decide +kernel
theorem axr_59 (hP : ∀ q ∈ rx_P, rx_QW q ∧ rx_ST rx_P (rx_DF, rx_FK) q) : ax_Row ax_wC ax_XC rx_P ax_APC rx_P (rx_DF, rx_FK) rxm_59 (axm_59, axc_59) := fun hr => ⟨ax_tabB_ok axt_59, fun hL => ax_con_nil⟩
theorem axt_60 : ax_tabB (rx_cd rxm_60) axm_60 = true := by decide +kernel
theorem axr_60 (hP : ∀ q ∈ rx_P, rx_QW q ∧ rx_ST rx_P (rx_DF, rx_FK) q) : ax_Row ax_wC ax_XC rx_P ax_APC rx_P (rx_DF, rx_FK) rxm_60 (axm_60, axc_60) := fun hr => ⟨ax_tabB_ok axt_60, fun hL => ax_con_nil⟩
theorem axt_61 : ax_tabB (rx_cd rxm_61) axm_61 = true := by decide +kernel
theorem axr_61 (hP : ∀ q ∈ rx_P, rx_QW q ∧ rx_ST rx_P (rx_DF, rx_FK) q) : ax_Row ax_wC ax_XC rx_P ax_APC rx_P (rx_DF, rx_FK) rxm_61 (axm_61, axc_61) := fun hr => ⟨ax_tabB_ok axt_61, fun hL => ax_con_nil⟩
theorem axt_62 : ax_tabB (rx_cd rxm_62) axm_62 = true := by decide +kernel
theorem axr_62 (hP : ∀ q ∈ rx_P, rx_QW q ∧ rx_ST rx_P (rx_DF, rx_FK) q) : ax_Row ax_wC ax_XC rx_P ax_APC rx_P (rx_DF, rx_FK) rxm_62 (axm_62, axc_62) := fun hr => ⟨ax_tabB_ok axt_62, fun hL => ax_con_nil⟩
theorem axt_63 : ax_tabB (rx_cd rxm_63) axm_63 = true := by decide +kernel
theorem axr_63 (hP : ∀ q ∈ rx_P, rx_QW q ∧ rx_ST rx_P (rx_DF, rx_FK) q) : ax_Row ax_wC ax_XC rx_P ax_APC rx_P (rx_DF, rx_FK) rxm_63 (axm_63, axc_63) := fun hr => ⟨ax_tabB_ok axt_63, fun hL => ax_con_nil⟩
theorem axt_64 : ax_tabB (rx_cd rxm_64) axm_64 = true := by decide +kernel
theorem axr_64 (hP : ∀ q ∈ rx_P, rx_QW q ∧ rx_ST rx_P (rx_DF, rx_FK) q) : ax_Row ax_wC ax_XC rx_P ax_APC rx_P (rx_DF, rx_FK) rxm_64 (axm_64, axc_64) := fun hr => ⟨ax_tabB_ok axt_64, fun hL => ax_con_nil⟩
theorem axt_65 : ax_tabB (rx_cd rxm_65) axm_65 = true := by decide +kernel
theorem axr_65 (hP : ∀ q ∈ rx_P, rx_QW q ∧ rx_ST rx_P (rx_DF, rx_FK) q) : ax_Row ax_wC ax_XC rx_P ax_APC rx_P (rx_DF, rx_FK) rxm_65 (axm_65, axc_65) := fun hr => ⟨ax_tabB_ok axt_65, fun hL => ax_con_nil⟩
theorem axt_66 : ax_tabB (rx_cd rxm_66) axm_66 = true := by decide +kernel
theorem axr_66 (hP : ∀ q ∈ rx_P, rx_QW q ∧ rx_ST rx_P (rx_DF, rx_FK) q) : ax_Row ax_wC ax_XC rx_P ax_APC rx_P (rx_DF, rx_FK) rxm_66 (axm_66, axc_66) := fun hr => ⟨ax_tabB_ok axt_66, fun hL => ax_con_nil⟩
theorem axt_67 : ax_tabB (rx_cd rxm_67) axm_67 = true := by decide +kernel
theorem axr_67 (hP : ∀ q ∈ rx_P, rx_QW q ∧ rx_ST rx_P (rx_DF, rx_FK) q) : ax_Row ax_wC ax_XC rx_P ax_APC rx_P (rx_DF, rx_FK) rxm_67 (axm_67, axc_67) := fun hr => ⟨ax_tabB_ok axt_67, fun hL => ax_con_nil⟩
theorem axt_68 : ax_tabB (rx_cd rxm_68) axm_68 = true := by decide +kernel
theorem axr_68 (hP : ∀ q ∈ rx_P, rx_QW q ∧ rx_ST rx_P (rx_DF, rx_FK) q) : ax_Row ax_wC ax_XC rx_P ax_APC rx_P (rx_DF, rx_FK) rxm_68 (axm_68, axc_68) := fun hr => ⟨ax_tabB_ok axt_68, fun hL => ax_con_nil⟩
theorem axt_69 : ax_tabB (rx_cd rxm_69) axm_69 = true := by decide +kernel
theorem axr_69 (hP : ∀ q ∈ rx_P, rx_QW q ∧ rx_ST rx_P (rx_DF, rx_FK) q) : ax_Row ax_wC ax_XC rx_P ax_APC rx_P (rx_DF, rx_FK) rxm_69 (axm_69, axc_69) := fun hr => ⟨ax_tabB_ok axt_69, fun hL => ax_con_nil⟩
theorem axt_70 : ax_tabB (rx_cd rxm_70) axm_70 = true := by decide +kernel
theorem axr_70 (hP : ∀ q ∈ rx_P, rx_QW q ∧ rx_ST rx_P (rx_DF, rx_FK) q) : ax_Row ax_wC ax_XC rx_P ax_APC rx_P (rx_DF, rx_FK) rxm_70 (axm_70, axc_70) := fun hr => ⟨ax_tabB_ok axt_70, fun hL => ax_con_nil⟩
theorem axt_71 : ax_tabB (rx_cd rxm_71) axm_71 = true := by decide +kernel
theorem axr_71 (hP : ∀ q ∈ rx_P, rx_QW q ∧ rx_ST rx_P (rx_DF, rx_FK) q) : ax_Row ax_wC ax_XC rx_P ax_APC rx_P (rx_DF, rx_FK) rxm_71 (axm_71, axc_71) := fun hr => ⟨ax_tabB_ok axt_71, fun hL => ax_con_nil⟩
theorem axt_72 : ax_tabB (rx_cd rxm_72) axm_72 = true := by decide +kernel
theorem axr_72 (hP : ∀ q ∈ rx_P, rx_QW q ∧ rx_ST rx_P (rx_DF, rx_FK) q) : ax_Row ax_wC ax_XC rx_P ax_APC rx_P (rx_DF, rx_FK) rxm_72 (axm_72, axc_72) := fun hr => ⟨ax_tabB_ok axt_72, fun hL => ax_con_nil⟩
theorem axt_73 : ax_tabB (rx_cd rxm_73) axm_73 = true := by decide +kernel
theorem axr_73 (hP : ∀ q ∈ rx_P, rx_QW q ∧ rx_ST rx_P (rx_DF, rx_FK) q) : ax_Row ax_wC ax_XC rx_P ax_APC rx_P (rx_DF, rx_FK) rxm_73 (axm_73, axc_73) := fun hr => ⟨ax_tabB_ok axt_73, fun hL => ax_con_nil⟩
theorem axt_74 : ax_tabB (rx_cd rxm_74) axm_74 = true := by decide +kernel
/-- java/lang/Integer.bitCount: 42 steps -/
theorem axk_74_0 : ax_chk ax_wC rx_P (rx_DF, rx_FK) ax_APC (rx_n rxm_74) axm_74 (([3], (1, [(0, 0, 4294967295)], [], [], [])), [], [([7], (2, [(0, 2147483648, 2147483711), (0, 0, 4294967295)], [], [], []))]) [] [] 3000 0 (() : ax_Tr 0) = true := by decide +kernel
theorem axr_74 (hP : ∀ q ∈ rx_P, rx_QW q ∧ rx_ST rx_P (rx_DF, rx_FK) q) : ax_Row ax_wC ax_XC rx_P ax_APC rx_P (rx_DF, rx_FK) rxm_74 (axm_74, axc_74) := fun hr => ⟨ax_tabB_ok axt_74, fun hL => ax_con_cons (ax_chk_ok hP ax_XC_ok hr hL (ax_tabB_ok axt_74) ax_ro_nil axk_74_0) (ax_con_nil)⟩
theorem axt_75 : ax_tabB (rx_cd rxm_75) axm_75 = true := by decide +kernel
theorem axr_75 (hP : ∀ q ∈ rx_P, rx_QW q ∧ rx_ST rx_P (rx_DF, rx_FK) q) : ax_Row ax_wC ax_XC rx_P ax_APC rx_P (rx_DF, rx_FK) rxm_75 (axm_75, axc_75) := fun hr => ⟨ax_tabB_ok axt_75, fun hL => ax_con_nil⟩
theorem axt_76 : ax_tabB (rx_cd rxm_76) axm_76 = true := by decide +kernel
/-- TurnNet$Graph.findRow: 296 steps -/
theorem axk_76_0 : ax_chk ax_wC rx_P (rx_DF, rx_FK) ax_APC (rx_n rxm_76) axm_76 (([3, 7, 11, 15], (4, [(0, 0, 4294967295), (0, 2147483648, 2147483657), (0, 2147483648, 2147483657), (2, 5, 0)], [], [], [])), [(34, 999)], [([19], (5, [(0, 2147483648, 2147483649), (0, 0, 4294967295), (0, 2147483648, 2147483657), (0, 2147483648, 2147483657), (2, 5, 0)], [], [], []))]) [] [3, 35, 58] 3000 2 (([((3, 1, 4, ([3, 7, 11, 15, 19, 2, 2, 2, 2], (5, [(0, 2147483648, 2147483667), (0, 0, 4294967295), (0, 2147483648, 2147483657), (0, 2147483648, 2147483657), (2, 5, 0)], [], [], []))), ([] : List ((Nat × Nat × Nat × ax_T) × ax_Tr 0))), ((35, 1, 5, ([3, 7, 11, 15, 19, 23, 2, 2, 2], (6, [(0, 2147483649, 2147483667), (0, 0, 2147483667), (0, 0, 4294967295), (0, 2147483648, 2147483657), (0, 2147483648, 2147483657), (2, 5, 0)], [(3, 0, 14)], [], []))), ([((58, 1, 7, ([3, 7, 11, 15, 27, 23, 31, 2, 2], (9, [(0, 2147483650, 2147483658), (0, 2147483648, 4294967295), (0, 2147483648, 2147483667), (0, 2147483649, 2147483657), (0, 0, 2147483667), (0, 0, 4294967295), (0, 2147483648, 2147483657), (0, 2147483648, 2147483657), (2, 5, 0)], [(14, 0, 35), (3, 0, 14)], [], []))), ())] : List ((Nat × Nat × Nat × ax_T) × ax_Tr 0)))] : List ((Nat × Nat × Nat × ax_T) × ax_Tr 1)) : ax_Tr 2) = true := by decide +kernel
theorem axr_76 (hP : ∀ q ∈ rx_P, rx_QW q ∧ rx_ST rx_P (rx_DF, rx_FK) q) : ax_Row ax_wC ax_XC rx_P ax_APC rx_P (rx_DF, rx_FK) rxm_76 (axm_76, axc_76) := fun hr => ⟨ax_tabB_ok axt_76, fun hL => ax_con_cons (ax_chk_ok hP ax_XC_ok hr hL (ax_tabB_ok axt_76) ax_ro_nil axk_76_0) (ax_con_nil)⟩
theorem axt_77 : ax_tabB (rx_cd rxm_77) axm_77 = true := by decide +kernel
/-- TurnNet$Graph.pairsWithout: 40 steps -/
theorem axk_77_0 : ax_chk ax_wC rx_P (rx_DF, rx_FK) ax_APC (rx_n rxm_77) axm_77 (([3], (1, [(2, 5, 0)], [], [], [])), [], [([7], (2, [(0, 0, 4294967295), (2, 5, 0)], [], [], []))]) [] [4, 17] 3000 2 (([((4, 1, 2, ([3, 7, 11, 2], (3, [(0, 2147483648, 2147483667), (0, 0, 4294967295), (2, 5, 0)], [], [], []))), ([((17, 1, 4, ([3, 15, 11, 19], (6, [(0, 2147483649, 2147483658), (0, 2147483648, 4294967295), (0, 0, 4294967295), (0, 2147483648, 2147483657), (0, 0, 4294967295), (2, 5, 0)], [(14, 0, 23), (3, 0, 14)], [], []))), ())] : List ((Nat × Nat × Nat × ax_T) × ax_Tr 0)))] : List ((Nat × Nat × Nat × ax_T) × ax_Tr 1)) : ax_Tr 2) = true := by decide +kernel
theorem axr_77 (hP : ∀ q ∈ rx_P, rx_QW q ∧ rx_ST rx_P (rx_DF, rx_FK) q) : ax_Row ax_wC ax_XC rx_P ax_APC rx_P (rx_DF, rx_FK) rxm_77 (axm_77, axc_77) := fun hr => ⟨ax_tabB_ok axt_77, fun hL => ax_con_cons (ax_chk_ok hP ax_XC_ok hr hL (ax_tabB_ok axt_77) ax_ro_nil axk_77_0) (ax_con_nil)⟩
theorem axt_78 : ax_tabB (rx_cd rxm_78) axm_78 = true := by decide +kernel
/-- TurnNet$Graph.spread: 117 steps -/
theorem axk_78_2 : ax_chk ax_wC rx_P (rx_DF, rx_FK) ax_APC (rx_n rxm_78) axm_78 (([3, 7, 11, 15, 0], (4, [(2, 33, 0), (0, 0, 4294967295), (0, 0, 4294967295), (2, 1, 0)], [], [], [])), [(33, 999)], [([2], (4, [(2, 33, 0), (0, 0, 4294967295), (0, 0, 4294967295), (2, 1, 0)], [], [], []))]) [] [12, 48, 68] 3000 2 (([((12, 1, 4, ([3, 7, 11, 15, 0, 19, 2, 2, 2, 2], (6, [(0, 2147483649, 2147483658), (0, 2147483648, 2147483667), (2, 33, 0), (0, 2147483648, 2147483657), (0, 0, 4294967295), (2, 1, 0)], [(3, 0, 23)], [], []))), ([] : List ((Nat × Nat × Nat × ax_T) × ax_Tr 0))), ((48, 1, 5, ([3, 7, 11, 15, 0, 19, 23, 2, 2, 2], (6, [(0, 2147483649, 2147483667), (0, 2147483648, 4294967295), (2, 33, 0), (0, 2147483648, 2147483657), (0, 0, 4294967295), (2, 1, 0)], [], [], []))), ([((68, 1, 7, ([3, 7, 11, 15, 0, 27, 23, 31, 2, 2], (9, [(0, 2147483650, 2147483658), (0, 2147483648, 4294967295), (0, 2147483648, 4294967295), (0, 2147483649, 2147483657), (0, 2147483649, 4294967295), (2, 33, 0), (0, 2147483648, 2147483657), (0, 0, 4294967295), (2, 1, 0)], [(3, 0, 35)], [], []))), ())] : List ((Nat × Nat × Nat × ax_T) × ax_Tr 0)))] : List ((Nat × Nat × Nat × ax_T) × ax_Tr 1)) : ax_Tr 2) = true := by decide +kernel
/-- TurnNet$Graph.spread: 117 steps -/
theorem axk_78_1 : ax_chk ax_wC rx_P (rx_DF, rx_FK) ax_APC (rx_n rxm_78) axm_78 (([3, 7, 11, 15, 19], (5, [(0, 2147483648, 2147483738), (2, 32, 0), (0, 0, 4294967295), (0, 0, 4294967295), (2, 1, 0)], [], [], [])), [(32, 999)], [([2], (5, [(0, 2147483648, 2147483738), (2, 32, 0), (0, 0, 4294967295), (0, 0, 4294967295), (2, 1, 0)], [], [], []))]) [] [12, 48, 68] 3000 2 (([((12, 1, 5, ([3, 7, 11, 15, 19, 23, 2, 2, 2, 2], (7, [(0, 2147483649, 2147483658), (0, 2147483648, 2147483667), (0, 2147483648, 2147483738), (2, 32, 0), (0, 2147483648, 2147483657), (0, 0, 4294967295), (2, 1, 0)], [(3, 0, 27)], [], []))), ([] : List ((Nat × Nat × Nat × ax_T) × ax_Tr 0))), ((48, 1, 6, ([3, 7, 11, 15, 19, 23, 27, 2, 2, 2], (7, [(0, 2147483649, 2147483667), (0, 2147483648, 4294967295), (0, 2147483648, 2147483738), (2, 32, 0), (0, 2147483648, 2147483657), (0, 0, 4294967295), (2, 1, 0)], [], [], []))), ([((68, 1, 8, ([3, 7, 11, 15, 19, 31, 27, 35, 2, 2], (10, [(0, 2147483650, 2147483658), (0, 2147483648, 4294967295), (0, 2147483648, 4294967295), (0, 2147483649, 2147483657), (0, 2147483649, 4294967295), (0, 2147483648, 2147483738), (2, 32, 0), (0, 2147483648, 2147483657), (0, 0, 4294967295), (2, 1, 0)], [(3, 0, 39)], [], []))), ())] : List ((Nat × Nat × Nat × ax_T) × ax_Tr 0)))] : List ((Nat × Nat × Nat × ax_T) × ax_Tr 1)) : ax_Tr 2) = true := by decide +kernel
/-- TurnNet$Graph.spread: 117 steps -/
theorem axk_78_0 : ax_chk ax_wC rx_P (rx_DF, rx_FK) ax_APC (rx_n rxm_78) axm_78 (([3, 7, 11, 15, 0], (4, [(2, 21, 0), (0, 0, 4294967295), (0, 0, 4294967295), (2, 1, 0)], [], [], [])), [(21, 999)], [([2], (4, [(2, 21, 0), (0, 0, 4294967295), (0, 0, 4294967295), (2, 1, 0)], [], [], []))]) [] [12, 48, 68] 3000 2 (([((12, 1, 4, ([3, 7, 11, 15, 0, 19, 2, 2, 2, 2], (6, [(0, 2147483649, 2147483658), (0, 2147483648, 2147483667), (2, 21, 0), (0, 2147483648, 2147483657), (0, 0, 4294967295), (2, 1, 0)], [(3, 0, 23)], [], []))), ([] : List ((Nat × Nat × Nat × ax_T) × ax_Tr 0))), ((48, 1, 5, ([3, 7, 11, 15, 0, 19, 23, 2, 2, 2], (6, [(0, 2147483649, 2147483667), (0, 2147483648, 4294967295), (2, 21, 0), (0, 2147483648, 2147483657), (0, 0, 4294967295), (2, 1, 0)], [], [], []))), ([((68, 1, 7, ([3, 7, 11, 15, 0, 27, 23, 31, 2, 2], (9, [(0, 2147483650, 2147483658), (0, 2147483648, 4294967295), (0, 2147483648, 4294967295), (0, 2147483649, 2147483657), (0, 2147483649, 4294967295), (2, 21, 0), (0, 2147483648, 2147483657), (0, 0, 4294967295), (2, 1, 0)], [(3, 0, 35)], [], []))), ())] : List ((Nat × Nat × Nat × ax_T) × ax_Tr 0)))] : List ((Nat × Nat × Nat × ax_T) × ax_Tr 1)) : ax_Tr 2) = true := by decide +kernel
theorem axr_78 (hP : ∀ q ∈ rx_P, rx_QW q ∧ rx_ST rx_P (rx_DF, rx_FK) q) : ax_Row ax_wC ax_XC rx_P ax_APC rx_P (rx_DF, rx_FK) rxm_78 (axm_78, axc_78) := fun hr => ⟨ax_tabB_ok axt_78, fun hL => ax_con_cons (ax_chk_ok hP ax_XC_ok hr hL (ax_tabB_ok axt_78) ax_ro_nil axk_78_0) (ax_con_cons (ax_chk_ok hP ax_XC_ok hr hL (ax_tabB_ok axt_78) ax_ro_nil axk_78_1) (ax_con_cons (ax_chk_ok hP ax_XC_ok hr hL (ax_tabB_ok axt_78) ax_ro_nil axk_78_2) (ax_con_nil)))⟩
theorem axt_79 : ax_tabB (rx_cd rxm_79) axm_79 = true := by decide +kernel
theorem axs_79_0 : ∀ x ∈ ([axu_hsBd, axu_hsBu] : List ax_RL), ax_RO ax_wC ax_XC x := ax_ro_cons axq_hsBd (ax_ro_cons axq_hsBu (ax_ro_nil))
/-- TurnNet$History.stepBack: 39 steps -/
theorem axk_79_0 : ax_chk ax_wC rx_P (rx_DF, rx_FK) ax_APC (rx_n rxm_79) axm_79 (([206, 3], (2, [(0, 2147483649, 2147483668), (2, 10, 0)], [(206, 8, 7)], [], [(0, [80])])), [(9, 2), (9, 3), (39, 999)], [([11], (3, [(2, 10, 0), (0, 2147483649, 2147483668), (2, 10, 0)], [], [], [(0, [80])]))]) [axu_hsBd, axu_hsBu] [] 3000 0 (() : ax_Tr 0) = true := by decide +kernel
theorem axr_79 (hP : ∀ q ∈ rx_P, rx_QW q ∧ rx_ST rx_P (rx_DF, rx_FK) q) : ax_Row ax_wC ax_XC rx_P ax_APC rx_P (rx_DF, rx_FK) rxm_79 (axm_79, axc_79) := fun hr => ⟨ax_tabB_ok axt_79, fun hL => ax_con_cons (ax_chk_ok hP ax_XC_ok hr hL (ax_tabB_ok axt_79) axs_79_0 axk_79_0) (ax_con_nil)⟩
theorem axt_80 : ax_tabB (rx_cd rxm_80) axm_80 = true := by decide +kernel
theorem axs_80_0 : ∀ x ∈ ([axu_hsOd, axu_hsOu] : List ax_RL), ax_RO ax_wC ax_XC x := ax_ro_cons axq_hsOd (ax_ro_cons axq_hsOu (ax_ro_nil))
/-- TurnNet$History.stepOn: 41 steps -/
theorem axk_80_0 : ax_chk ax_wC rx_P (rx_DF, rx_FK) ax_APC (rx_n rxm_80) axm_80 (([206, 3], (2, [(0, 2147483649, 2147483668), (2, 10, 0)], [(206, 12, 7)], [], [(0, [80])])), [(9, 2), (9, 3), (39, 999)], [([11], (3, [(2, 10, 0), (0, 2147483649, 2147483668), (2, 10, 0)], [], [], [(0, [80])]))]) [axu_hsOd, axu_hsOu] [] 3000 0 (() : ax_Tr 0) = true := by decide +kernel
theorem axr_80 (hP : ∀ q ∈ rx_P, rx_QW q ∧ rx_ST rx_P (rx_DF, rx_FK) q) : ax_Row ax_wC ax_XC rx_P ax_APC rx_P (rx_DF, rx_FK) rxm_80 (axm_80, axc_80) := fun hr => ⟨ax_tabB_ok axt_80, fun hL => ax_con_cons (ax_chk_ok hP ax_XC_ok hr hL (ax_tabB_ok axt_80) axs_80_0 axk_80_0) (ax_con_nil)⟩
theorem axt_81 : ax_tabB (rx_cd rxm_81) axm_81 = true := by decide +kernel
theorem axr_81 (hP : ∀ q ∈ rx_P, rx_QW q ∧ rx_ST rx_P (rx_DF, rx_FK) q) : ax_Row ax_wC ax_XC rx_P ax_APC rx_P (rx_DF, rx_FK) rxm_81 (axm_81, axc_81) := fun hr => ⟨ax_tabB_ok axt_81, fun hL => ax_con_nil⟩
theorem axt_82 : ax_tabB (rx_cd rxm_82) axm_82 = true := by decide +kernel
theorem axr_82 (hP : ∀ q ∈ rx_P, rx_QW q ∧ rx_ST rx_P (rx_DF, rx_FK) q) : ax_Row ax_wC ax_XC rx_P ax_APC rx_P (rx_DF, rx_FK) rxm_82 (axm_82, axc_82) := fun hr => ⟨ax_tabB_ok axt_82, fun hL => ax_con_nil⟩
theorem axt_83 : ax_tabB (rx_cd rxm_83) axm_83 = true := by decide +kernel
theorem axs_83_0 : ∀ x ∈ ([axu_jo1, axu_jo2, axu_jo3, axu_jo4, axu_jo5] : List ax_RL), ax_RO ax_wC ax_XC x := ax_ro_cons axq_jo1 (ax_ro_cons axq_jo2 (ax_ro_cons axq_jo3 (ax_ro_cons axq_jo4 (ax_ro_cons axq_jo5 (ax_ro_nil)))))
/-- TurnNet$Net.joins: 31 steps -/
theorem axk_83_0 : ax_chk ax_wC rx_P (rx_DF, rx_FK) ax_APC (rx_n rxm_83) axm_83 (([50, 11, 15], (4, [(0, 2147483648, 2147483657), (0, 2147483648, 2147483657), (1, 0, 0), (1, 0, 0)], [], [], [(31, []), (50, [3, 7])])), [], [([0], (4, [(0, 2147483648, 2147483657), (0, 2147483648, 2147483657), (1, 0, 0), (1, 0, 0)], [], [], [(113, [3, 7, 11, 15])])), ([4], (4, [(0, 2147483648, 2147483657), (0, 2147483648, 2147483657), (1, 0, 0), (1, 0, 0)], [], [], [(112, [3, 7, 11, 15])]))]) [axu_jo1, axu_jo2, axu_jo3, axu_jo4, axu_jo5] [2] 3000 1 (([((2, 1, 4, ([50, 11, 15, 19], (5, [(0, 2147483648, 2147483688), (0, 2147483648, 2147483657), (0, 2147483648, 2147483657), (1, 0, 0), (1, 0, 0)], [], [], [(114, [3, 7, 11, 15, 19]), (31, []), (50, [3, 7])]))), ())] : List ((Nat × Nat × Nat × ax_T) × ax_Tr 0)) : ax_Tr 1) = true := by decide +kernel
theorem axr_83 (hP : ∀ q ∈ rx_P, rx_QW q ∧ rx_ST rx_P (rx_DF, rx_FK) q) : ax_Row ax_wC ax_XC rx_P ax_APC rx_P (rx_DF, rx_FK) rxm_83 (axm_83, axc_83) := fun hr => ⟨ax_tabB_ok axt_83, fun hL => ax_con_cons (ax_chk_ok hP ax_XC_ok hr hL (ax_tabB_ok axt_83) axs_83_0 axk_83_0) (ax_con_nil)⟩
theorem axt_84 : ax_tabB (rx_cd rxm_84) axm_84 = true := by decide +kernel
theorem axs_84_0 : ∀ x ∈ ([axu_lc0, axu_lcS, axu_lcN, axu_lcE, axu_lcO] : List ax_RL), ax_RO ax_wC ax_XC x := ax_ro_cons axq_lc0 (ax_ro_cons axq_lcS (ax_ro_cons axq_lcN (ax_ro_cons axq_lcE (ax_ro_cons axq_lcO (ax_ro_nil)))))
/-- TurnNet$Net.listChannels: 49 steps -/
theorem axk_84_0 : ax_chk ax_wC rx_P (rx_DF, rx_FK) ax_APC (rx_n rxm_84) axm_84 (([14], (1, [(2, 14, 0)], [(14, 24, 3)], [], [])), [(16, 999), (17, 999)], [([2], (3, [(0, 2147483648, 2147483667), (0, 2147483648, 2147483688), (2, 14, 0)], [], [], [(1, [3, 7, 11, 0])]))]) [axu_lc0, axu_lcS, axu_lcN, axu_lcE, axu_lcO] [4, 21] 3000 2 (([((4, 1, 2, ([14, 7, 11, 2], (3, [(0, 2147483648, 2147483667), (0, 2147483648, 2147483688), (2, 14, 0)], [(14, 24, 3)], [], [(1, [3, 7, 11, 0])]))), ([((21, 1, 4, ([14, 15, 11, 19], (7, [(0, 2147483649, 2147483658), (2, 16, 0), (0, 2147483648, 2147483688), (0, 2147483648, 2147483688), (0, 2147483648, 2147483657), (0, 2147483648, 2147483688), (2, 14, 0)], [(14, 32, 23), (14, 0, 27), (14, 24, 3)], [], [(1, [3, 15, 11, 19])]))), ())] : List ((Nat × Nat × Nat × ax_T) × ax_Tr 0)))] : List ((Nat × Nat × Nat × ax_T) × ax_Tr 1)) : ax_Tr 2) = true := by decide +kernel
theorem axr_84 (hP : ∀ q ∈ rx_P, rx_QW q ∧ rx_ST rx_P (rx_DF, rx_FK) q) : ax_Row ax_wC ax_XC rx_P ax_APC rx_P (rx_DF, rx_FK) rxm_84 (axm_84, axc_84) := fun hr => ⟨ax_tabB_ok axt_84, fun hL => ax_con_cons (ax_chk_ok hP ax_XC_ok hr hL (ax_tabB_ok axt_84) axs_84_0 axk_84_0) (ax_con_nil)⟩
theorem axt_85 : ax_tabB (rx_cd rxm_85) axm_85 = true := by decide +kernel
theorem axr_85 (hP : ∀ q ∈ rx_P, rx_QW q ∧ rx_ST rx_P (rx_DF, rx_FK) q) : ax_Row ax_wC ax_XC rx_P ax_APC rx_P (rx_DF, rx_FK) rxm_85 (axm_85, axc_85) := fun hr => ⟨ax_tabB_ok axt_85, fun hL => ax_con_nil⟩
theorem axt_86 : ax_tabB (rx_cd rxm_86) axm_86 = true := by decide +kernel
/-- TurnNet$Order.countAbove: 60 steps -/
theorem axk_86_0 : ax_chk ax_wC rx_P (rx_DF, rx_FK) ax_APC (rx_n rxm_86) axm_86 (([3, 7], (2, [(0, 2147483648, 2147483657), (2, 3, 0)], [], [], [])), [], [([11], (3, [(0, 0, 4294967295), (0, 2147483648, 2147483657), (2, 3, 0)], [], [], []))]) [] [4] 3000 1 (([((4, 1, 3, ([3, 7, 11, 15], (4, [(0, 2147483648, 2147483658), (0, 0, 4294967295), (0, 2147483648, 2147483657), (2, 3, 0)], [], [], []))), ())] : List ((Nat × Nat × Nat × ax_T) × ax_Tr 0)) : ax_Tr 1) = true := by decide +kernel
theorem axr_86 (hP : ∀ q ∈ rx_P, rx_QW q ∧ rx_ST rx_P (rx_DF, rx_FK) q) : ax_Row ax_wC ax_XC rx_P ax_APC rx_P (rx_DF, rx_FK) rxm_86 (axm_86, axc_86) := fun hr => ⟨ax_tabB_ok axt_86, fun hL => ax_con_cons (ax_chk_ok hP ax_XC_ok hr hL (ax_tabB_ok axt_86) ax_ro_nil axk_86_0) (ax_con_nil)⟩
theorem axt_87 : ax_tabB (rx_cd rxm_87) axm_87 = true := by decide +kernel
/-- TurnNet$Order.countLinks: 52 steps -/
theorem axk_87_0 : ax_chk ax_wC rx_P (rx_DF, rx_FK) ax_APC (rx_n rxm_87) axm_87 (([3, 7], (2, [(0, 0, 4294967295), (2, 3, 0)], [], [], [])), [(22, 999)], [([2], (2, [(0, 0, 4294967295), (2, 3, 0)], [], [], []))]) [] [2, 28] 3000 1 (([((2, 1, 2, ([3, 7, 11], (3, [(0, 2147483648, 2147483658), (0, 0, 4294967295), (2, 3, 0)], [], [], []))), ()), ((28, 1, 2, ([3, 7, 11], (4, [(0, 2147483648, 2147483667), (0, 2147483648, 2147483688), (0, 0, 4294967295), (2, 3, 0)], [(14, 0, 15), (3, 0, 14)], [], []))), ())] : List ((Nat × Nat × Nat × ax_T) × ax_Tr 0)) : ax_Tr 1) = true := by decide +kernel
theorem axr_87 (hP : ∀ q ∈ rx_P, rx_QW q ∧ rx_ST rx_P (rx_DF, rx_FK) q) : ax_Row ax_wC ax_XC rx_P ax_APC rx_P (rx_DF, rx_FK) rxm_87 (axm_87, axc_87) := fun hr => ⟨ax_tabB_ok axt_87, fun hL => ax_con_cons (ax_chk_ok hP ax_XC_ok hr hL (ax_tabB_ok axt_87) ax_ro_nil axk_87_0) (ax_con_nil)⟩
theorem axt_88 : ax_tabB (rx_cd rxm_88) axm_88 = true := by decide +kernel
/-- TurnNet$Order.evaluate: 261 steps -/
theorem axk_88_0 : ax_chk ax_wC rx_P (rx_DF, rx_FK) ax_APC (rx_n rxm_88) axm_88 (([3, 7], (2, [(0, 2147483648, 2147483657), (2, 3, 0)], [], [], [])), [(24, 999)], [([11], (3, [(0, 0, 4294967295), (0, 2147483648, 2147483657), (2, 3, 0)], [], [], []))]) [] [4] 3000 1 (([((4, 1, 3, ([3, 7, 11, 15, 2], (4, [(0, 2147483648, 2147483728), (0, 2147483648, 2147483728), (0, 2147483648, 2147483657), (2, 3, 0)], [], [], []))), ())] : List ((Nat × Nat × Nat × ax_T) × ax_Tr 0)) : ax_Tr 1) = true := by decide +kernel
theorem axr_88 (hP : ∀ q ∈ rx_P, rx_QW q ∧ rx_ST rx_P (rx_DF, rx_FK) q) : ax_Row ax_wC ax_XC rx_P ax_APC rx_P (rx_DF, rx_FK) rxm_88 (axm_88, axc_88) := fun hr => ⟨ax_tabB_ok axt_88, fun hL => ax_con_cons (ax_chk_ok hP ax_XC_ok hr hL (ax_tabB_ok axt_88) ax_ro_nil axk_88_0) (ax_con_nil)⟩
theorem axt_89 : ax_tabB (rx_cd rxm_89) axm_89 = true := by decide +kernel
/-- TurnNet$Order.upEnds: 82 steps -/
theorem axk_89_0 : ax_chk ax_wC rx_P (rx_DF, rx_FK) ax_APC (rx_n rxm_89) axm_89 (([3], (1, [(2, 3, 0)], [], [], [])), [], [([7], (2, [(0, 0, 4294967295), (2, 3, 0)], [], [], []))]) [] [4] 3000 1 (([((4, 1, 2, ([3, 7, 11], (3, [(0, 2147483648, 2147483668), (0, 0, 4294967295), (2, 3, 0)], [], [], []))), ())] : List ((Nat × Nat × Nat × ax_T) × ax_Tr 0)) : ax_Tr 1) = true := by decide +kernel
theorem axr_89 (hP : ∀ q ∈ rx_P, rx_QW q ∧ rx_ST rx_P (rx_DF, rx_FK) q) : ax_Row ax_wC ax_XC rx_P ax_APC rx_P (rx_DF, rx_FK) rxm_89 (axm_89, axc_89) := fun hr => ⟨ax_tabB_ok axt_89, fun hL => ax_con_cons (ax_chk_ok hP ax_XC_ok hr hL (ax_tabB_ok axt_89) ax_ro_nil axk_89_0) (ax_con_nil)⟩
theorem axt_90 : ax_tabB (rx_cd rxm_90) axm_90 = true := by decide +kernel
theorem axr_90 (hP : ∀ q ∈ rx_P, rx_QW q ∧ rx_ST rx_P (rx_DF, rx_FK) q) : ax_Row ax_wC ax_XC rx_P ax_APC rx_P (rx_DF, rx_FK) rxm_90 (axm_90, axc_90) := fun hr => ⟨ax_tabB_ok axt_90, fun hL => ax_con_nil⟩
theorem axt_91 : ax_tabB (rx_cd rxm_91) axm_91 = true := by decide +kernel
theorem axs_91_0 : ∀ x ∈ ([axu_ad1_32, axu_ad1_10, axu_ad2_e, axu_ad2_a, axu_ad2_b, axu_ad2_c, axu_ad3, axu_ad4, axu_ad5, axu_ad6, axu_ad7_e, axu_ad7_a, axu_ad7_b, axu_ad8, axu_ad9, axu_ad10, axu_ad11, axu_ad12_e, axu_ad12_a, axu_ad12_b, axu_ad13_59, axu_ad13_40, axu_ad13_41, axu_ad13_43, axu_ad13_45, axu_ad13_42, axu_ad13_47, axu_ad13_37, axu_ad14_a, axu_ad14_b, axu_ad14_c, axu_ad14_d, axu_ad14_e, axu_ad14_f, axu_ad14_g] : List ax_RL), ax_RO ax_wC ax_XC x := ax_ro_cons axq_ad1_32 (ax_ro_cons axq_ad1_10 (ax_ro_cons axq_ad2_e (ax_ro_cons axq_ad2_a (ax_ro_cons axq_ad2_b (ax_ro_cons axq_ad2_c (ax_ro_cons axq_ad3 (ax_ro_cons axq_ad4 (ax_ro_cons axq_ad5 (ax_ro_cons axq_ad6 (ax_ro_cons axq_ad7_e (ax_ro_cons axq_ad7_a (ax_ro_cons axq_ad7_b (ax_ro_cons axq_ad8 (ax_ro_cons axq_ad9 (ax_ro_cons axq_ad10 (ax_ro_cons axq_ad11 (ax_ro_cons axq_ad12_e (ax_ro_cons axq_ad12_a (ax_ro_cons axq_ad12_b (ax_ro_cons axq_ad13_59 (ax_ro_cons axq_ad13_40 (ax_ro_cons axq_ad13_41 (ax_ro_cons axq_ad13_43 (ax_ro_cons axq_ad13_45 (ax_ro_cons axq_ad13_42 (ax_ro_cons axq_ad13_47 (ax_ro_cons axq_ad13_37 (ax_ro_cons axq_ad14_a (ax_ro_cons axq_ad14_b (ax_ro_cons axq_ad14_c (ax_ro_cons axq_ad14_d (ax_ro_cons axq_ad14_e (ax_ro_cons axq_ad14_f (ax_ro_cons axq_ad14_g (ax_ro_nil)))))))))))))))))))))))))))))))))))
/-- TurnNet$Reader.advance: 1064 steps -/
theorem axk_91_0 : ax_chk ax_wC rx_P (rx_DF, rx_FK) ax_APC (rx_n rxm_91) axm_91 (([42], (2, [(1, 0, 0), (1, 0, 0)], [], [], [(30, [3]), (53, [3, 7])])), [(2, 5), (2, 6), (2, 7), (2, 8)], [([2], (2, [(1, 0, 0), (1, 0, 0)], [], [], [(30, [3]), (50, [3, 7])]))]) [axu_ad1_32, axu_ad1_10, axu_ad2_e, axu_ad2_a, axu_ad2_b, axu_ad2_c, axu_ad3, axu_ad4, axu_ad5, axu_ad6, axu_ad7_e, axu_ad7_a, axu_ad7_b, axu_ad8, axu_ad9, axu_ad10, axu_ad11, axu_ad12_e, axu_ad12_a, axu_ad12_b, axu_ad13_59, axu_ad13_40, axu_ad13_41, axu_ad13_43, axu_ad13_45, axu_ad13_42, axu_ad13_47, axu_ad13_37, axu_ad14_a, axu_ad14_b, axu_ad14_c, axu_ad14_d, axu_ad14_e, axu_ad14_f, axu_ad14_g] [0, 119, 196] 3000 1 (([((0, 1, 2, ([42, 2, 2], (4, [(0, 2147483649, 2147484448), (0, 2147483649, 2147484448), (1, 0, 0), (1, 0, 0)], [(42, 20, 11), (42, 0, 46), (42, 4, 15)], [], [(30, [3]), (53, [3, 7])]))), ()), ((119, 1, 3, ([42, 11, 2], (6, [(0, 2147483649, 2147484448), (0, 2147483648, 2147484447), (0, 2147483649, 2147484448), (0, 2147483745, 2147483770), (1, 0, 0), (1, 0, 0)], [(42, 28, 4), (42, 20, 15), (42, 32, 0), (42, 24, 19), (46, 19, 11), (42, 0, 46), (42, 4, 23)], [], [(56, [3, 7]), (30, [3])]))), ()), ((196, 1, 4, ([42, 11, 2], (7, [(0, 2147483649, 2147484448), (0, 2147483648, 2147484447), (0, 2147483649, 2147484448), (0, 2147483648, 2147583648), (0, 2147483696, 2147483705), (1, 0, 0), (1, 0, 0)], [(42, 32, 15), (42, 28, 8), (42, 20, 19), (42, 24, 23), (46, 23, 11), (42, 0, 46), (42, 4, 27)], [], [(58, [3, 7]), (30, [3])]))), ())] : List ((Nat × Nat × Nat × ax_T) × ax_Tr 0)) : ax_Tr 1) = true := by decide +kernel
theorem axr_91 (hP : ∀ q ∈ rx_P, rx_QW q ∧ rx_ST rx_P (rx_DF, rx_FK) q) : ax_Row ax_wC ax_XC rx_P ax_APC rx_P (rx_DF, rx_FK) rxm_91 (axm_91, axc_91) := fun hr => ⟨ax_tabB_ok axt_91, fun hL => ax_con_cons (ax_chk_ok hP ax_XC_ok hr hL (ax_tabB_ok axt_91) axs_91_0 axk_91_0) (ax_con_nil)⟩
theorem axt_92 : ax_tabB (rx_cd rxm_92) axm_92 = true := by decide +kernel
theorem axr_92 (hP : ∀ q ∈ rx_P, rx_QW q ∧ rx_ST rx_P (rx_DF, rx_FK) q) : ax_Row ax_wC ax_XC rx_P ax_APC rx_P (rx_DF, rx_FK) rxm_92 (axm_92, axc_92) := fun hr => ⟨ax_tabB_ok axt_92, fun hL => ax_con_nil⟩
theorem axt_93 : ax_tabB (rx_cd rxm_93) axm_93 = true := by decide +kernel
theorem axr_93 (hP : ∀ q ∈ rx_P, rx_QW q ∧ rx_ST rx_P (rx_DF, rx_FK) q) : ax_Row ax_wC ax_XC rx_P ax_APC rx_P (rx_DF, rx_FK) rxm_93 (axm_93, axc_93) := fun hr => ⟨ax_tabB_ok axt_93, fun hL => ax_con_nil⟩
theorem axt_94 : ax_tabB (rx_cd rxm_94) axm_94 = true := by decide +kernel
/-- TurnNet$Routes.growLevel: 430 steps -/
theorem axk_94_0 : ax_chk ax_wC rx_P (rx_DF, rx_FK) ax_APC (rx_n rxm_94) axm_94 (([3, 7, 11], (3, [(0, 2147483649, 2147483668), (0, 2147483648, 2147483828), (2, 4, 0)], [], [], [])), [(25, 999)], [([15], (4, [(0, 2147483648, 2147483649), (0, 2147483649, 2147483668), (0, 2147483648, 2147483828), (2, 4, 0)], [], [], []))]) [] [5] 3000 1 (([((5, 1, 4, ([3, 7, 11, 15, 19, 2, 2], (5, [(0, 2147483648, 2147483688), (0, 2147483648, 2147483649), (0, 2147483649, 2147483668), (0, 2147483648, 2147483828), (2, 4, 0)], [], [], []))), ())] : List ((Nat × Nat × Nat × ax_T) × ax_Tr 0)) : ax_Tr 1) = true := by decide +kernel
theorem axr_94 (hP : ∀ q ∈ rx_P, rx_QW q ∧ rx_ST rx_P (rx_DF, rx_FK) q) : ax_Row ax_wC ax_XC rx_P ax_APC rx_P (rx_DF, rx_FK) rxm_94 (axm_94, axc_94) := fun hr => ⟨ax_tabB_ok axt_94, fun hL => ax_con_cons (ax_chk_ok hP ax_XC_ok hr hL (ax_tabB_ok axt_94) ax_ro_nil axk_94_0) (ax_con_nil)⟩
theorem axt_95 : ax_tabB (rx_cd rxm_95) axm_95 = true := by decide +kernel
/-- TurnNet$Routes.heaviestChannel: 31 steps -/
theorem axk_95_0 : ax_chk ax_wC rx_P (rx_DF, rx_FK) ax_APC (rx_n rxm_95) axm_95 (([3], (1, [(2, 4, 0)], [], [], [])), [], [([7], (2, [(0, 2147483648, 2147483687), (2, 4, 0)], [], [], []))]) [] [4] 3000 1 (([((4, 1, 2, ([3, 7, 11], (3, [(0, 2147483649, 2147483688), (0, 2147483648, 2147483687), (2, 4, 0)], [], [], []))), ())] : List ((Nat × Nat × Nat × ax_T) × ax_Tr 0)) : ax_Tr 1) = true := by decide +kernel
theorem axr_95 (hP : ∀ q ∈ rx_P, rx_QW q ∧ rx_ST rx_P (rx_DF, rx_FK) q) : ax_Row ax_wC ax_XC rx_P ax_APC rx_P (rx_DF, rx_FK) rxm_95 (axm_95, axc_95) := fun hr => ⟨ax_tabB_ok axt_95, fun hL => ax_con_cons (ax_chk_ok hP ax_XC_ok hr hL (ax_tabB_ok axt_95) ax_ro_nil axk_95_0) (ax_con_nil)⟩
theorem axt_96 : ax_tabB (rx_cd rxm_96) axm_96 = true := by decide +kernel
/-- TurnNet$Routes.hopsTogether: 42 steps -/
theorem axk_96_0 : ax_chk ax_wC rx_P (rx_DF, rx_FK) ax_APC (rx_n rxm_96) axm_96 (([3], (1, [(2, 4, 0)], [], [], [])), [], [([7], (2, [(0, 0, 4294967295), (2, 4, 0)], [], [], []))]) [] [4, 17] 3000 2 (([((4, 1, 2, ([3, 7, 11, 2], (3, [(0, 2147483648, 2147483667), (0, 0, 4294967295), (2, 4, 0)], [], [], []))), ([((17, 1, 4, ([3, 15, 11, 19], (6, [(0, 2147483649, 2147483658), (0, 2147483648, 2147483667), (0, 0, 4294967295), (0, 2147483648, 2147483657), (0, 0, 4294967295), (2, 4, 0)], [(14, 0, 23), (3, 0, 14)], [], []))), ())] : List ((Nat × Nat × Nat × ax_T) × ax_Tr 0)))] : List ((Nat × Nat × Nat × ax_T) × ax_Tr 1)) : ax_Tr 2) = true := by decide +kernel
theorem axr_96 (hP : ∀ q ∈ rx_P, rx_QW q ∧ rx_ST rx_P (rx_DF, rx_FK) q) : ax_Row ax_wC ax_XC rx_P ax_APC rx_P (rx_DF, rx_FK) rxm_96 (axm_96, axc_96) := fun hr => ⟨ax_tabB_ok axt_96, fun hL => ax_con_cons (ax_chk_ok hP ax_XC_ok hr hL (ax_tabB_ok axt_96) ax_ro_nil axk_96_0) (ax_con_nil)⟩
theorem axt_97 : ax_tabB (rx_cd rxm_97) axm_97 = true := by decide +kernel
/-- TurnNet$Routes.leadsOn: 85 steps -/
theorem axk_97_0 : ax_chk ax_wC rx_P (rx_DF, rx_FK) ax_APC (rx_n rxm_97) axm_97 (([3, 7, 11, 15], (4, [(0, 2147483648, 2147483649), (0, 2147483648, 2147483687), (0, 2147483648, 2147483657), (2, 4, 0)], [], [], [])), [], [([19], (5, [(0, 2147483648, 2147483649), (0, 2147483648, 2147483649), (0, 2147483648, 2147483687), (0, 2147483648, 2147483657), (2, 4, 0)], [], [], []))]) [] [] 3000 0 (() : ax_Tr 0) = true := by decide +kernel
theorem axr_97 (hP : ∀ q ∈ rx_P, rx_QW q ∧ rx_ST rx_P (rx_DF, rx_FK) q) : ax_Row ax_wC ax_XC rx_P ax_APC rx_P (rx_DF, rx_FK) rxm_97 (axm_97, axc_97) := fun hr => ⟨ax_tabB_ok axt_97, fun hL => ax_con_cons (ax_chk_ok hP ax_XC_ok hr hL (ax_tabB_ok axt_97) ax_ro_nil axk_97_0) (ax_con_nil)⟩
theorem axt_98 : ax_tabB (rx_cd rxm_98) axm_98 = true := by decide +kernel
/-- TurnNet$Routes.pairsWithout: 42 steps -/
theorem axk_98_0 : ax_chk ax_wC rx_P (rx_DF, rx_FK) ax_APC (rx_n rxm_98) axm_98 (([3], (1, [(2, 4, 0)], [], [], [])), [], [([7], (2, [(0, 0, 4294967295), (2, 4, 0)], [], [], []))]) [] [4, 17] 3000 2 (([((4, 1, 2, ([3, 7, 11, 2], (3, [(0, 2147483648, 2147483667), (0, 0, 4294967295), (2, 4, 0)], [], [], []))), ([((17, 1, 4, ([3, 15, 11, 19], (6, [(0, 2147483649, 2147483658), (0, 2147483648, 4294967295), (0, 0, 4294967295), (0, 2147483648, 2147483657), (0, 0, 4294967295), (2, 4, 0)], [(14, 0, 23), (3, 0, 14)], [], []))), ())] : List ((Nat × Nat × Nat × ax_T) × ax_Tr 0)))] : List ((Nat × Nat × Nat × ax_T) × ax_Tr 1)) : ax_Tr 2) = true := by decide +kernel
theorem axr_98 (hP : ∀ q ∈ rx_P, rx_QW q ∧ rx_ST rx_P (rx_DF, rx_FK) q) : ax_Row ax_wC ax_XC rx_P ax_APC rx_P (rx_DF, rx_FK) rxm_98 (axm_98, axc_98) := fun hr => ⟨ax_tabB_ok axt_98, fun hL => ax_con_cons (ax_chk_ok hP ax_XC_ok hr hL (ax_tabB_ok axt_98) ax_ro_nil axk_98_0) (ax_con_nil)⟩
theorem axt_99 : ax_tabB (rx_cd rxm_99) axm_99 = true := by decide +kernel
theorem axr_99 (hP : ∀ q ∈ rx_P, rx_QW q ∧ rx_ST rx_P (rx_DF, rx_FK) q) : ax_Row ax_wC ax_XC rx_P ax_APC rx_P (rx_DF, rx_FK) rxm_99 (axm_99, axc_99) := fun hr => ⟨ax_tabB_ok axt_99, fun hL => ax_con_nil⟩
theorem axt_100 : ax_tabB (rx_cd rxm_100) axm_100 = true := by decide +kernel
theorem axr_100 (hP : ∀ q ∈ rx_P, rx_QW q ∧ rx_ST rx_P (rx_DF, rx_FK) q) : ax_Row ax_wC ax_XC rx_P ax_APC rx_P (rx_DF, rx_FK) rxm_100 (axm_100, axc_100) := fun hr => ⟨ax_tabB_ok axt_100, fun hL => ax_con_nil⟩
theorem axt_101 : ax_tabB (rx_cd rxm_101) axm_101 = true := by decide +kernel
/-- TurnNet$State.put: 30 steps -/
theorem axk_101_0 : ax_chk ax_wC rx_P (rx_DF, rx_FK) ax_APC (rx_n rxm_101) axm_101 (([3, 7, 11], (3, [(0, 2147483648, 2147483657), (0, 2147483648, 2147483657), (2, 10, 0)], [], [], [])), [(40, 999), (41, 999), (42, 999), (43, 999)], [([15], (4, [(0, 2147483647, 2147483659), (0, 2147483648, 2147483657), (0, 2147483648, 2147483657), (2, 10, 0)], [], [], []))]) [] [] 3000 0 (() : ax_Tr 0) = true := by decide +kernel
theorem axr_101 (hP : ∀ q ∈ rx_P, rx_QW q ∧ rx_ST rx_P (rx_DF, rx_FK) q) : ax_Row ax_wC ax_XC rx_P ax_APC rx_P (rx_DF, rx_FK) rxm_101 (axm_101, axc_101) := fun hr => ⟨ax_tabB_ok axt_101, fun hL => ax_con_cons (ax_chk_ok hP ax_XC_ok hr hL (ax_tabB_ok axt_101) ax_ro_nil axk_101_0) (ax_con_nil)⟩
theorem axt_102 : ax_tabB (rx_cd rxm_102) axm_102 = true := by decide +kernel
theorem axr_102 (hP : ∀ q ∈ rx_P, rx_QW q ∧ rx_ST rx_P (rx_DF, rx_FK) q) : ax_Row ax_wC ax_XC rx_P ax_APC rx_P (rx_DF, rx_FK) rxm_102 (axm_102, axc_102) := fun hr => ⟨ax_tabB_ok axt_102, fun hL => ax_con_nil⟩
theorem axt_103 : ax_tabB (rx_cd rxm_103) axm_103 = true := by decide +kernel
theorem axr_103 (hP : ∀ q ∈ rx_P, rx_QW q ∧ rx_ST rx_P (rx_DF, rx_FK) q) : ax_Row ax_wC ax_XC rx_P ax_APC rx_P (rx_DF, rx_FK) rxm_103 (axm_103, axc_103) := fun hr => ⟨ax_tabB_ok axt_103, fun hL => ax_con_nil⟩
theorem axt_104 : ax_tabB (rx_cd rxm_104) axm_104 = true := by decide +kernel
theorem axr_104 (hP : ∀ q ∈ rx_P, rx_QW q ∧ rx_ST rx_P (rx_DF, rx_FK) q) : ax_Row ax_wC ax_XC rx_P ax_APC rx_P (rx_DF, rx_FK) rxm_104 (axm_104, axc_104) := fun hr => ⟨ax_tabB_ok axt_104, fun hL => ax_con_nil⟩
theorem axt_105 : ax_tabB (rx_cd rxm_105) axm_105 = true := by decide +kernel
/-- TurnNet$Turns.haveRing: 99 steps -/
theorem axk_105_0 : ax_chk ax_wC rx_P (rx_DF, rx_FK) ax_APC (rx_n rxm_105) axm_105 (([3], (1, [(2, 6, 0)], [], [], [])), [], [([7], (2, [(0, 2147483648, 2147483649), (2, 6, 0)], [], [], []))]) [] [17, 33] 3000 2 (([((17, 1, 3, ([3, 7, 2, 11, 15, 2], (4, [(0, 2147483648, 2147483727), (0, 2147483648, 4294967295), (1, 0, 0), (2, 6, 0)], [(3, 0, 14)], [], []))), ([((33, 1, 6, ([3, 19, 2, 23, 15, 27], (7, [(0, 2147483648, 4294967295), (0, 2147483648, 4294967295), (1, 0, 0), (0, 2147483648, 2147483688), (0, 2147483649, 4294967295), (1, 0, 0), (2, 6, 0)], [(3, 0, 14)], [], []))), ())] : List ((Nat × Nat × Nat × ax_T) × ax_Tr 0)))] : List ((Nat × Nat × Nat × ax_T) × ax_Tr 1)) : ax_Tr 2) = true := by decide +kernel
theorem axr_105 (hP : ∀ q ∈ rx_P, rx_QW q ∧ rx_ST rx_P (rx_DF, rx_FK) q) : ax_Row ax_wC ax_XC rx_P ax_APC rx_P (rx_DF, rx_FK) rxm_105 (axm_105, axc_105) := fun hr => ⟨ax_tabB_ok axt_105, fun hL => ax_con_cons (ax_chk_ok hP ax_XC_ok hr hL (ax_tabB_ok axt_105) ax_ro_nil axk_105_0) (ax_con_nil)⟩
theorem axt_106 : ax_tabB (rx_cd rxm_106) axm_106 = true := by decide +kernel
/-- TurnNet$Turns.ontoFrom: 37 steps -/
theorem axk_106_0 : ax_chk ax_wC rx_P (rx_DF, rx_FK) ax_APC (rx_n rxm_106) axm_106 (([3, 7], (2, [(1, 0, 0), (2, 6, 0)], [], [], [])), [], [([11], (3, [(1, 0, 0), (1, 0, 0), (2, 6, 0)], [], [], []))]) [] [5] 3000 1 (([((5, 1, 3, ([3, 7, 2, 11, 2, 15], (4, [(0, 2147483648, 2147483688), (1, 0, 0), (1, 0, 0), (2, 6, 0)], [], [], []))), ())] : List ((Nat × Nat × Nat × ax_T) × ax_Tr 0)) : ax_Tr 1) = true := by decide +kernel
theorem axr_106 (hP : ∀ q ∈ rx_P, rx_QW q ∧ rx_ST rx_P (rx_DF, rx_FK) q) : ax_Row ax_wC ax_XC rx_P ax_APC rx_P (rx_DF, rx_FK) rxm_106 (axm_106, axc_106) := fun hr => ⟨ax_tabB_ok axt_106, fun hL => ax_con_cons (ax_chk_ok hP ax_XC_ok hr hL (ax_tabB_ok axt_106) ax_ro_nil axk_106_0) (ax_con_nil)⟩
theorem axt_107 : ax_tabB (rx_cd rxm_107) axm_107 = true := by decide +kernel
/-- TurnNet$Turns.upChannels: 47 steps -/
theorem axk_107_0 : ax_chk ax_wC rx_P (rx_DF, rx_FK) ax_APC (rx_n rxm_107) axm_107 (([3, 7], (2, [(0, 0, 4294967295), (2, 6, 0)], [], [], [])), [], [([11], (3, [(1, 0, 0), (0, 0, 4294967295), (2, 6, 0)], [], [], []))]) [] [5] 3000 1 (([((5, 1, 3, ([3, 7, 11, 2, 15], (4, [(0, 2147483648, 2147483688), (1, 0, 0), (0, 0, 4294967295), (2, 6, 0)], [], [], []))), ())] : List ((Nat × Nat × Nat × ax_T) × ax_Tr 0)) : ax_Tr 1) = true := by decide +kernel
theorem axr_107 (hP : ∀ q ∈ rx_P, rx_QW q ∧ rx_ST rx_P (rx_DF, rx_FK) q) : ax_Row ax_wC ax_XC rx_P ax_APC rx_P (rx_DF, rx_FK) rxm_107 (axm_107, axc_107) := fun hr => ⟨ax_tabB_ok axt_107, fun hL => ax_con_cons (ax_chk_ok hP ax_XC_ok hr hL (ax_tabB_ok axt_107) ax_ro_nil axk_107_0) (ax_con_nil)⟩
end
