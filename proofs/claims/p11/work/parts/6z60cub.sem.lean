theorem axq_su2_4 : ax_RO ax_wC ax_XC axu_su2_4 := by
  intro ρ hp hE hT
  have j0 : ρ 0 % 4 = 1 := pz_gj hE 0 (by decide) rfl
  have j1 : ρ 1 % 4 = 1 := pz_gj hE 1 (by decide) rfl
  have j2 : ρ 2 % 4 = 1 := pz_gj hE 2 (by decide) rfl
  have j3 : ρ 3 % 4 = 1 := pz_gj hE 3 (by decide) rfl
  have j4 : ρ 4 % 4 = 1 := pz_gj hE 4 (by decide) rfl
  obtain ⟨-, -, -, -, F50⟩ : ay_ex hp 8 ∧ ay_ex hp 10 ∧ ay_ex hp 11 ∧ ay_ex hp 12 ∧ pz_x50 (ρ 0) (ρ 1) (ay_at hp 8 5) (ay_at hp 8 6) (ay_at hp 8 7) (ay_at hp 8 8) (ay_at hp 10 0) (ay_at hp 10 1) (ay_at hp 10 2) (ay_at hp 10 3) (ay_at hp 10 4) (ay_at hp 8 9) (ay_at hp 8 11) (ay_at hp 8 10) (ay_at hp 8 3) (ay_at hp 8 4) (ay_at hp 11) (ay_at hp 12) := (ax_XF_lt (by decide)).mp (ax_gx hE (50, [3, 7]) (by decide))
  have F98 : (ρ 2) / 4 = (ρ 1) / 4 + 1 := (ax_XF_lt (by decide)).mp (ax_gx hE (98, [7, 11]) (by decide))
  have F79 : pz7 (pz_gt (ρ 0)) (pz_gN (ρ 0)) ((ρ 2) / 4) 9 := (ax_XF_lt (by decide)).mp (ax_gx hE (79, [3, 11]) (by decide))
  have F78 : pz7 (pz_gt (ρ 0)) (pz_gN (ρ 0)) ((ρ 1) / 4) 8 := (ax_XF_lt (by decide)).mp (ax_gx hE (78, [3, 7]) (by decide))
  have F107 : pz107 (pz_gt (ρ 0)) (pz_gN (ρ 0)) ((ρ 1) / 4) ((8) / 4) := (ax_XF_lt (by decide)).mp (ax_gx hE (107, [3, 7, 8]) (by decide))
  have F46 : py_46 (pz_gt (ρ 0)) (pz_gN (ρ 0)) ((ρ 1) / 4) (ρ 3) (ρ 4) := (ax_XF_lt (by decide)).mp (ax_gx hE (46, [3, 7, 15, 19]) (by decide))
  refine ⟨(fun y hy => by cases hy), _, List.mem_cons_self, ρ, fun _ _ => rfl, ax_px hE (by decide) (fun y hy => ?_)⟩
  cases List.mem_singleton.mp hy
  refine (ax_XF_lt (x := 42) (by decide)).mpr ?_
  show py_42 (pz_gt (ρ 0)) (pz_gN (ρ 0)) ((ρ 2) / 4) (ρ 3) (ρ 4) (4000)
  have kd := (pr_w (by decide) F107).1
  rw [F98] at F79 ⊢
  exact pr_su F78 (by rw [kd]; decide) (by rw [kd]; decide) F79 (by decide) F46 (by rw [pr_unw (by decide) F107]) (by decide)

theorem axq_sv2_4 : ax_RO ax_wC ax_XC axu_sv2_4 := by
  intro ρ hp hE hT
  have j0 : ρ 0 % 4 = 1 := pz_gj hE 0 (by decide) rfl
  have j1 : ρ 1 % 4 = 1 := pz_gj hE 1 (by decide) rfl
  have j2 : ρ 2 % 4 = 1 := pz_gj hE 2 (by decide) rfl
  have j3 : ρ 3 % 4 = 1 := pz_gj hE 3 (by decide) rfl
  have j4 : ρ 4 % 4 = 1 := pz_gj hE 4 (by decide) rfl
  obtain ⟨-, -, -, -, F50⟩ : ay_ex hp 8 ∧ ay_ex hp 10 ∧ ay_ex hp 11 ∧ ay_ex hp 12 ∧ pz_x50 (ρ 0) (ρ 1) (ay_at hp 8 5) (ay_at hp 8 6) (ay_at hp 8 7) (ay_at hp 8 8) (ay_at hp 10 0) (ay_at hp 10 1) (ay_at hp 10 2) (ay_at hp 10 3) (ay_at hp 10 4) (ay_at hp 8 9) (ay_at hp 8 11) (ay_at hp 8 10) (ay_at hp 8 3) (ay_at hp 8 4) (ay_at hp 11) (ay_at hp 12) := (ax_XF_lt (by decide)).mp (ax_gx hE (50, [3, 7]) (by decide))
  have F42 : py_42 (pz_gt (ρ 0)) (pz_gN (ρ 0)) ((ρ 1) / 4) (ρ 2) (ρ 3) (4000) := (ax_XF_lt (by decide)).mp (ax_gx hE (42, [3, 7, 11, 15, 4000]) (by decide))
  obtain ⟨-, -, -, F41⟩ : ay_ex hp 10 ∧ ay_ex hp 15 ∧ ay_ex hp 16 ∧ py_x41 (ρ 4) (ay_at hp 10 5) (ay_at hp 15) (ay_at hp 16) := (ax_XF_lt (by decide)).mp (ax_gx hE (41, [19]) (by decide))
  have F99 : py_99 (ρ 4) (4000) (ρ 3) := (ax_XF_lt (by decide)).mp (ax_gx hE (99, [19, 4000, 15]) (by decide))
  refine ⟨(fun y hy => by cases hy), _, List.mem_cons_self, ρ, fun _ _ => rfl, ax_px hE (by decide) (fun y hy => ?_)⟩
  cases List.mem_singleton.mp hy
  refine (ax_XF_lt (x := 47) (by decide)).mpr ?_
  show py_47 (pz_gt (ρ 0)) (pz_gN (ρ 0)) ((ρ 1) / 4) (ρ 2) (ρ 4)
  exact pr_sv F42 F99

theorem axq_sl2_4 : ax_RO ax_wC ax_XC axu_sl2_4 := by
  intro ρ hp hE hT
  have j0 : ρ 0 % 4 = 1 := pz_gj hE 0 (by decide) rfl
  have j1 : ρ 1 % 4 = 1 := pz_gj hE 1 (by decide) rfl
  have j2 : ρ 2 % 4 = 1 := pz_gj hE 2 (by decide) rfl
  have j3 : ρ 3 % 4 = 1 := pz_gj hE 3 (by decide) rfl
  obtain ⟨-, -, -, -, F50⟩ : ay_ex hp 8 ∧ ay_ex hp 10 ∧ ay_ex hp 11 ∧ ay_ex hp 12 ∧ pz_x50 (ρ 0) (ρ 1) (ay_at hp 8 5) (ay_at hp 8 6) (ay_at hp 8 7) (ay_at hp 8 8) (ay_at hp 10 0) (ay_at hp 10 1) (ay_at hp 10 2) (ay_at hp 10 3) (ay_at hp 10 4) (ay_at hp 8 9) (ay_at hp 8 11) (ay_at hp 8 10) (ay_at hp 8 3) (ay_at hp 8 4) (ay_at hp 11) (ay_at hp 12) := (ax_XF_lt (by decide)).mp (ax_gx hE (50, [3, 7]) (by decide))
  have F79 : pz7 (pz_gt (ρ 0)) (pz_gN (ρ 0)) ((ρ 1) / 4) 9 := (ax_XF_lt (by decide)).mp (ax_gx hE (79, [3, 7]) (by decide))
  have F42 : py_42 (pz_gt (ρ 0)) (pz_gN (ρ 0)) ((ρ 1) / 4) (ρ 2) (ρ 3) (4000) := (ax_XF_lt (by decide)).mp (ax_gx hE (42, [3, 7, 11, 15, 4000]) (by decide))
  refine ⟨(fun y hy => by cases hy), _, List.mem_cons_self, ρ, fun _ _ => rfl, ax_px hE (by decide) (fun y hy => ?_)⟩
  cases List.mem_singleton.mp hy
  refine (ax_XF_lt (x := 40) (by decide)).mpr ?_
  show py_40 (ρ 3)
  exact pr_l42 F79 (by decide) F42

theorem axq_su3_4 : ax_RO ax_wC ax_XC axu_su3_4 := by
  intro ρ hp hE hT
  have j0 : ρ 0 % 4 = 1 := pz_gj hE 0 (by decide) rfl
  have j1 : ρ 1 % 4 = 1 := pz_gj hE 1 (by decide) rfl
  have j2 : ρ 2 % 4 = 1 := pz_gj hE 2 (by decide) rfl
  have j3 : ρ 3 % 4 = 1 := pz_gj hE 3 (by decide) rfl
  have j4 : ρ 4 % 4 = 1 := pz_gj hE 4 (by decide) rfl
  obtain ⟨-, -, -, -, F50⟩ : ay_ex hp 8 ∧ ay_ex hp 10 ∧ ay_ex hp 11 ∧ ay_ex hp 12 ∧ pz_x50 (ρ 0) (ρ 1) (ay_at hp 8 5) (ay_at hp 8 6) (ay_at hp 8 7) (ay_at hp 8 8) (ay_at hp 10 0) (ay_at hp 10 1) (ay_at hp 10 2) (ay_at hp 10 3) (ay_at hp 10 4) (ay_at hp 8 9) (ay_at hp 8 11) (ay_at hp 8 10) (ay_at hp 8 3) (ay_at hp 8 4) (ay_at hp 11) (ay_at hp 12) := (ax_XF_lt (by decide)).mp (ax_gx hE (50, [3, 7]) (by decide))
  have F98 : (ρ 2) / 4 = (ρ 1) / 4 + 1 := (ax_XF_lt (by decide)).mp (ax_gx hE (98, [7, 11]) (by decide))
  have F79 : pz7 (pz_gt (ρ 0)) (pz_gN (ρ 0)) ((ρ 2) / 4) 9 := (ax_XF_lt (by decide)).mp (ax_gx hE (79, [3, 11]) (by decide))
  have F78 : pz7 (pz_gt (ρ 0)) (pz_gN (ρ 0)) ((ρ 1) / 4) 8 := (ax_XF_lt (by decide)).mp (ax_gx hE (78, [3, 7]) (by decide))
  have F107 : pz107 (pz_gt (ρ 0)) (pz_gN (ρ 0)) ((ρ 1) / 4) ((12) / 4) := (ax_XF_lt (by decide)).mp (ax_gx hE (107, [3, 7, 12]) (by decide))
  have F46 : py_46 (pz_gt (ρ 0)) (pz_gN (ρ 0)) ((ρ 1) / 4) (ρ 3) (ρ 4) := (ax_XF_lt (by decide)).mp (ax_gx hE (46, [3, 7, 15, 19]) (by decide))
  refine ⟨(fun y hy => by cases hy), _, List.mem_cons_self, ρ, fun _ _ => rfl, ax_px hE (by decide) (fun y hy => ?_)⟩
  cases List.mem_singleton.mp hy
  refine (ax_XF_lt (x := 42) (by decide)).mpr ?_
  show py_42 (pz_gt (ρ 0)) (pz_gN (ρ 0)) ((ρ 2) / 4) (ρ 3) (ρ 4) (4004)
  have kd := (pr_w (by decide) F107).1
  rw [F98] at F79 ⊢
  exact pr_su F78 (by rw [kd]; decide) (by rw [kd]; decide) F79 (by decide) F46 (by rw [pr_unw (by decide) F107]) (by decide)

theorem axq_sv3_4 : ax_RO ax_wC ax_XC axu_sv3_4 := by
  intro ρ hp hE hT
  have j0 : ρ 0 % 4 = 1 := pz_gj hE 0 (by decide) rfl
  have j1 : ρ 1 % 4 = 1 := pz_gj hE 1 (by decide) rfl
  have j2 : ρ 2 % 4 = 1 := pz_gj hE 2 (by decide) rfl
  have j3 : ρ 3 % 4 = 1 := pz_gj hE 3 (by decide) rfl
  have j4 : ρ 4 % 4 = 1 := pz_gj hE 4 (by decide) rfl
  obtain ⟨-, -, -, -, F50⟩ : ay_ex hp 8 ∧ ay_ex hp 10 ∧ ay_ex hp 11 ∧ ay_ex hp 12 ∧ pz_x50 (ρ 0) (ρ 1) (ay_at hp 8 5) (ay_at hp 8 6) (ay_at hp 8 7) (ay_at hp 8 8) (ay_at hp 10 0) (ay_at hp 10 1) (ay_at hp 10 2) (ay_at hp 10 3) (ay_at hp 10 4) (ay_at hp 8 9) (ay_at hp 8 11) (ay_at hp 8 10) (ay_at hp 8 3) (ay_at hp 8 4) (ay_at hp 11) (ay_at hp 12) := (ax_XF_lt (by decide)).mp (ax_gx hE (50, [3, 7]) (by decide))
  have F42 : py_42 (pz_gt (ρ 0)) (pz_gN (ρ 0)) ((ρ 1) / 4) (ρ 2) (ρ 3) (4004) := (ax_XF_lt (by decide)).mp (ax_gx hE (42, [3, 7, 11, 15, 4004]) (by decide))
  obtain ⟨-, -, -, F41⟩ : ay_ex hp 10 ∧ ay_ex hp 15 ∧ ay_ex hp 16 ∧ py_x41 (ρ 4) (ay_at hp 10 5) (ay_at hp 15) (ay_at hp 16) := (ax_XF_lt (by decide)).mp (ax_gx hE (41, [19]) (by decide))
  have F99 : py_99 (ρ 4) (4004) (ρ 3) := (ax_XF_lt (by decide)).mp (ax_gx hE (99, [19, 4004, 15]) (by decide))
  refine ⟨(fun y hy => by cases hy), _, List.mem_cons_self, ρ, fun _ _ => rfl, ax_px hE (by decide) (fun y hy => ?_)⟩
  cases List.mem_singleton.mp hy
  refine (ax_XF_lt (x := 47) (by decide)).mpr ?_
  show py_47 (pz_gt (ρ 0)) (pz_gN (ρ 0)) ((ρ 1) / 4) (ρ 2) (ρ 4)
  exact pr_sv F42 F99

theorem axq_sl3_4 : ax_RO ax_wC ax_XC axu_sl3_4 := by
  intro ρ hp hE hT
  have j0 : ρ 0 % 4 = 1 := pz_gj hE 0 (by decide) rfl
  have j1 : ρ 1 % 4 = 1 := pz_gj hE 1 (by decide) rfl
  have j2 : ρ 2 % 4 = 1 := pz_gj hE 2 (by decide) rfl
  have j3 : ρ 3 % 4 = 1 := pz_gj hE 3 (by decide) rfl
  obtain ⟨-, -, -, -, F50⟩ : ay_ex hp 8 ∧ ay_ex hp 10 ∧ ay_ex hp 11 ∧ ay_ex hp 12 ∧ pz_x50 (ρ 0) (ρ 1) (ay_at hp 8 5) (ay_at hp 8 6) (ay_at hp 8 7) (ay_at hp 8 8) (ay_at hp 10 0) (ay_at hp 10 1) (ay_at hp 10 2) (ay_at hp 10 3) (ay_at hp 10 4) (ay_at hp 8 9) (ay_at hp 8 11) (ay_at hp 8 10) (ay_at hp 8 3) (ay_at hp 8 4) (ay_at hp 11) (ay_at hp 12) := (ax_XF_lt (by decide)).mp (ax_gx hE (50, [3, 7]) (by decide))
  have F79 : pz7 (pz_gt (ρ 0)) (pz_gN (ρ 0)) ((ρ 1) / 4) 9 := (ax_XF_lt (by decide)).mp (ax_gx hE (79, [3, 7]) (by decide))
  have F42 : py_42 (pz_gt (ρ 0)) (pz_gN (ρ 0)) ((ρ 1) / 4) (ρ 2) (ρ 3) (4004) := (ax_XF_lt (by decide)).mp (ax_gx hE (42, [3, 7, 11, 15, 4004]) (by decide))
  refine ⟨(fun y hy => by cases hy), _, List.mem_cons_self, ρ, fun _ _ => rfl, ax_px hE (by decide) (fun y hy => ?_)⟩
  cases List.mem_singleton.mp hy
  refine (ax_XF_lt (x := 40) (by decide)).mpr ?_
  show py_40 (ρ 3)
  exact pr_l42 F79 (by decide) F42

theorem axq_su4_4 : ax_RO ax_wC ax_XC axu_su4_4 := by
  intro ρ hp hE hT
  have j0 : ρ 0 % 4 = 1 := pz_gj hE 0 (by decide) rfl
  have j1 : ρ 1 % 4 = 1 := pz_gj hE 1 (by decide) rfl
  have j2 : ρ 2 % 4 = 1 := pz_gj hE 2 (by decide) rfl
  have j3 : ρ 3 % 4 = 1 := pz_gj hE 3 (by decide) rfl
  have j4 : ρ 4 % 4 = 1 := pz_gj hE 4 (by decide) rfl
  obtain ⟨-, -, -, -, F50⟩ : ay_ex hp 8 ∧ ay_ex hp 10 ∧ ay_ex hp 11 ∧ ay_ex hp 12 ∧ pz_x50 (ρ 0) (ρ 1) (ay_at hp 8 5) (ay_at hp 8 6) (ay_at hp 8 7) (ay_at hp 8 8) (ay_at hp 10 0) (ay_at hp 10 1) (ay_at hp 10 2) (ay_at hp 10 3) (ay_at hp 10 4) (ay_at hp 8 9) (ay_at hp 8 11) (ay_at hp 8 10) (ay_at hp 8 3) (ay_at hp 8 4) (ay_at hp 11) (ay_at hp 12) := (ax_XF_lt (by decide)).mp (ax_gx hE (50, [3, 7]) (by decide))
  have F98 : (ρ 2) / 4 = (ρ 1) / 4 + 1 := (ax_XF_lt (by decide)).mp (ax_gx hE (98, [7, 11]) (by decide))
  have F79 : pz7 (pz_gt (ρ 0)) (pz_gN (ρ 0)) ((ρ 2) / 4) 9 := (ax_XF_lt (by decide)).mp (ax_gx hE (79, [3, 11]) (by decide))
  have F78 : pz7 (pz_gt (ρ 0)) (pz_gN (ρ 0)) ((ρ 1) / 4) 8 := (ax_XF_lt (by decide)).mp (ax_gx hE (78, [3, 7]) (by decide))
  have F107 : pz107 (pz_gt (ρ 0)) (pz_gN (ρ 0)) ((ρ 1) / 4) ((16) / 4) := (ax_XF_lt (by decide)).mp (ax_gx hE (107, [3, 7, 16]) (by decide))
  have F46 : py_46 (pz_gt (ρ 0)) (pz_gN (ρ 0)) ((ρ 1) / 4) (ρ 3) (ρ 4) := (ax_XF_lt (by decide)).mp (ax_gx hE (46, [3, 7, 15, 19]) (by decide))
  refine ⟨(fun y hy => by cases hy), _, List.mem_cons_self, ρ, fun _ _ => rfl, ax_px hE (by decide) (fun y hy => ?_)⟩
  cases List.mem_singleton.mp hy
  refine (ax_XF_lt (x := 42) (by decide)).mpr ?_
  show py_42 (pz_gt (ρ 0)) (pz_gN (ρ 0)) ((ρ 2) / 4) (ρ 3) (ρ 4) (4008)
  have kd := (pr_w (by decide) F107).1
  rw [F98] at F79 ⊢
  exact pr_su F78 (by rw [kd]; decide) (by rw [kd]; decide) F79 (by decide) F46 (by rw [pr_unw (by decide) F107]) (by decide)

theorem axq_sv4_4 : ax_RO ax_wC ax_XC axu_sv4_4 := by
  intro ρ hp hE hT
  have j0 : ρ 0 % 4 = 1 := pz_gj hE 0 (by decide) rfl
  have j1 : ρ 1 % 4 = 1 := pz_gj hE 1 (by decide) rfl
  have j2 : ρ 2 % 4 = 1 := pz_gj hE 2 (by decide) rfl
  have j3 : ρ 3 % 4 = 1 := pz_gj hE 3 (by decide) rfl
  have j4 : ρ 4 % 4 = 1 := pz_gj hE 4 (by decide) rfl
  obtain ⟨-, -, -, -, F50⟩ : ay_ex hp 8 ∧ ay_ex hp 10 ∧ ay_ex hp 11 ∧ ay_ex hp 12 ∧ pz_x50 (ρ 0) (ρ 1) (ay_at hp 8 5) (ay_at hp 8 6) (ay_at hp 8 7) (ay_at hp 8 8) (ay_at hp 10 0) (ay_at hp 10 1) (ay_at hp 10 2) (ay_at hp 10 3) (ay_at hp 10 4) (ay_at hp 8 9) (ay_at hp 8 11) (ay_at hp 8 10) (ay_at hp 8 3) (ay_at hp 8 4) (ay_at hp 11) (ay_at hp 12) := (ax_XF_lt (by decide)).mp (ax_gx hE (50, [3, 7]) (by decide))
  have F42 : py_42 (pz_gt (ρ 0)) (pz_gN (ρ 0)) ((ρ 1) / 4) (ρ 2) (ρ 3) (4008) := (ax_XF_lt (by decide)).mp (ax_gx hE (42, [3, 7, 11, 15, 4008]) (by decide))
  obtain ⟨-, -, -, F41⟩ : ay_ex hp 10 ∧ ay_ex hp 15 ∧ ay_ex hp 16 ∧ py_x41 (ρ 4) (ay_at hp 10 5) (ay_at hp 15) (ay_at hp 16) := (ax_XF_lt (by decide)).mp (ax_gx hE (41, [19]) (by decide))
  have F99 : py_99 (ρ 4) (4008) (ρ 3) := (ax_XF_lt (by decide)).mp (ax_gx hE (99, [19, 4008, 15]) (by decide))
  refine ⟨(fun y hy => by cases hy), _, List.mem_cons_self, ρ, fun _ _ => rfl, ax_px hE (by decide) (fun y hy => ?_)⟩
  cases List.mem_singleton.mp hy
  refine (ax_XF_lt (x := 47) (by decide)).mpr ?_
  show py_47 (pz_gt (ρ 0)) (pz_gN (ρ 0)) ((ρ 1) / 4) (ρ 2) (ρ 4)
  exact pr_sv F42 F99

theorem axq_sl4_4 : ax_RO ax_wC ax_XC axu_sl4_4 := by
  intro ρ hp hE hT
  have j0 : ρ 0 % 4 = 1 := pz_gj hE 0 (by decide) rfl
  have j1 : ρ 1 % 4 = 1 := pz_gj hE 1 (by decide) rfl
  have j2 : ρ 2 % 4 = 1 := pz_gj hE 2 (by decide) rfl
  have j3 : ρ 3 % 4 = 1 := pz_gj hE 3 (by decide) rfl
  obtain ⟨-, -, -, -, F50⟩ : ay_ex hp 8 ∧ ay_ex hp 10 ∧ ay_ex hp 11 ∧ ay_ex hp 12 ∧ pz_x50 (ρ 0) (ρ 1) (ay_at hp 8 5) (ay_at hp 8 6) (ay_at hp 8 7) (ay_at hp 8 8) (ay_at hp 10 0) (ay_at hp 10 1) (ay_at hp 10 2) (ay_at hp 10 3) (ay_at hp 10 4) (ay_at hp 8 9) (ay_at hp 8 11) (ay_at hp 8 10) (ay_at hp 8 3) (ay_at hp 8 4) (ay_at hp 11) (ay_at hp 12) := (ax_XF_lt (by decide)).mp (ax_gx hE (50, [3, 7]) (by decide))
  have F79 : pz7 (pz_gt (ρ 0)) (pz_gN (ρ 0)) ((ρ 1) / 4) 9 := (ax_XF_lt (by decide)).mp (ax_gx hE (79, [3, 7]) (by decide))
  have F42 : py_42 (pz_gt (ρ 0)) (pz_gN (ρ 0)) ((ρ 1) / 4) (ρ 2) (ρ 3) (4008) := (ax_XF_lt (by decide)).mp (ax_gx hE (42, [3, 7, 11, 15, 4008]) (by decide))
  refine ⟨(fun y hy => by cases hy), _, List.mem_cons_self, ρ, fun _ _ => rfl, ax_px hE (by decide) (fun y hy => ?_)⟩
  cases List.mem_singleton.mp hy
  refine (ax_XF_lt (x := 40) (by decide)).mpr ?_
  show py_40 (ρ 3)
  exact pr_l42 F79 (by decide) F42

theorem axq_su40_4 : ax_RO ax_wC ax_XC axu_su40_4 := by
  intro ρ hp hE hT
  have j0 : ρ 0 % 4 = 1 := pz_gj hE 0 (by decide) rfl
  have j1 : ρ 1 % 4 = 1 := pz_gj hE 1 (by decide) rfl
  have j2 : ρ 2 % 4 = 1 := pz_gj hE 2 (by decide) rfl
  have j3 : ρ 3 % 4 = 1 := pz_gj hE 3 (by decide) rfl
  have j4 : ρ 4 % 4 = 1 := pz_gj hE 4 (by decide) rfl
  obtain ⟨-, -, -, -, F50⟩ : ay_ex hp 8 ∧ ay_ex hp 10 ∧ ay_ex hp 11 ∧ ay_ex hp 12 ∧ pz_x50 (ρ 0) (ρ 1) (ay_at hp 8 5) (ay_at hp 8 6) (ay_at hp 8 7) (ay_at hp 8 8) (ay_at hp 10 0) (ay_at hp 10 1) (ay_at hp 10 2) (ay_at hp 10 3) (ay_at hp 10 4) (ay_at hp 8 9) (ay_at hp 8 11) (ay_at hp 8 10) (ay_at hp 8 3) (ay_at hp 8 4) (ay_at hp 11) (ay_at hp 12) := (ax_XF_lt (by decide)).mp (ax_gx hE (50, [3, 7]) (by decide))
  have F98 : (ρ 2) / 4 = (ρ 1) / 4 + 1 := (ax_XF_lt (by decide)).mp (ax_gx hE (98, [7, 11]) (by decide))
  have F78 : pz7 (pz_gt (ρ 0)) (pz_gN (ρ 0)) ((ρ 2) / 4) 8 := (ax_XF_lt (by decide)).mp (ax_gx hE (78, [3, 11]) (by decide))
  have F78a : pz7 (pz_gt (ρ 0)) (pz_gN (ρ 0)) ((ρ 1) / 4) 8 := (ax_XF_lt (by decide)).mp (ax_gx hE (78, [3, 7]) (by decide))
  have F107 : pz107 (pz_gt (ρ 0)) (pz_gN (ρ 0)) ((ρ 1) / 4) ((160) / 4) := (ax_XF_lt (by decide)).mp (ax_gx hE (107, [3, 7, 160]) (by decide))
  have F46 : py_46 (pz_gt (ρ 0)) (pz_gN (ρ 0)) ((ρ 1) / 4) (ρ 3) (ρ 4) := (ax_XF_lt (by decide)).mp (ax_gx hE (46, [3, 7, 15, 19]) (by decide))
  rw [F98] at F78
  obtain ⟨ρ', h1, h2⟩ := pz_pn1 (K := ρ 3 / 4 * 4096 + 1009) (xf := [(46, [3, 11, 23, 19]), (99, [23, 4036, 15]), (45, [23])]) hE (by decide) (fun ρ' h1 h2 x hx => by
    have q0 : ρ' 0 = ρ 0 := h1 0 (by decide)
    have q1 : ρ' 1 = ρ 1 := h1 1 (by decide)
    have q2 : ρ' 2 = ρ 2 := h1 2 (by decide)
    have q3 : ρ' 3 = ρ 3 := h1 3 (by decide)
    have q4 : ρ' 4 = ρ 4 := h1 4 (by decide)
    rcases List.mem_cons.mp hx with e | hx
    · subst e
      refine (ax_XF_lt (x := 46) (by decide)).mpr ?_
      show py_46 (pz_gt (ρ' 0)) (pz_gN (ρ' 0)) ((ρ' 2) / 4) (ρ' 5) (ρ' 4)
      rw [q0, q2, q4, h2]
      rw [F98]
      exact pr_suO F78a (pr_k40 F107) F78 (by decide) F46 ⟨pz_41 _, F46.2.1, by decide⟩
    rcases List.mem_cons.mp hx with e | hx
    · subst e
      refine (ax_XF_lt (x := 99) (by decide)).mpr ?_
      show py_99 (ρ' 5) (4036) (ρ' 3)
      rw [q3, h2]
      exact ⟨pz_41 _, F46.2.1, by decide⟩
    cases List.mem_singleton.mp hx
    refine (ax_XF_lt (x := 45) (by decide)).mpr ?_
    show py_44 1 (ρ' 5)
    rw [h2]
    exact pr_44 (c := 4036) (s := ρ 3) ⟨pz_41 _, F46.2.1, by decide⟩ (by decide) (by decide))
  exact ⟨(fun y hy => by cases hy), _, List.mem_cons_self, ρ', h1, h2⟩

theorem axq_su5_4 : ax_RO ax_wC ax_XC axu_su5_4 := by
  intro ρ hp hE hT
  have j0 : ρ 0 % 4 = 1 := pz_gj hE 0 (by decide) rfl
  have j1 : ρ 1 % 4 = 1 := pz_gj hE 1 (by decide) rfl
  have j2 : ρ 2 % 4 = 1 := pz_gj hE 2 (by decide) rfl
  have j3 : ρ 3 % 4 = 1 := pz_gj hE 3 (by decide) rfl
  have j4 : ρ 4 % 4 = 1 := pz_gj hE 4 (by decide) rfl
  obtain ⟨-, -, -, -, F50⟩ : ay_ex hp 8 ∧ ay_ex hp 10 ∧ ay_ex hp 11 ∧ ay_ex hp 12 ∧ pz_x50 (ρ 0) (ρ 1) (ay_at hp 8 5) (ay_at hp 8 6) (ay_at hp 8 7) (ay_at hp 8 8) (ay_at hp 10 0) (ay_at hp 10 1) (ay_at hp 10 2) (ay_at hp 10 3) (ay_at hp 10 4) (ay_at hp 8 9) (ay_at hp 8 11) (ay_at hp 8 10) (ay_at hp 8 3) (ay_at hp 8 4) (ay_at hp 11) (ay_at hp 12) := (ax_XF_lt (by decide)).mp (ax_gx hE (50, [3, 7]) (by decide))
  have F98 : (ρ 2) / 4 = (ρ 1) / 4 + 1 := (ax_XF_lt (by decide)).mp (ax_gx hE (98, [7, 11]) (by decide))
  have F78 : pz7 (pz_gt (ρ 0)) (pz_gN (ρ 0)) ((ρ 2) / 4) 8 := (ax_XF_lt (by decide)).mp (ax_gx hE (78, [3, 11]) (by decide))
  have F78a : pz7 (pz_gt (ρ 0)) (pz_gN (ρ 0)) ((ρ 1) / 4) 8 := (ax_XF_lt (by decide)).mp (ax_gx hE (78, [3, 7]) (by decide))
  have F107 : pz107 (pz_gt (ρ 0)) (pz_gN (ρ 0)) ((ρ 1) / 4) ((20) / 4) := (ax_XF_lt (by decide)).mp (ax_gx hE (107, [3, 7, 20]) (by decide))
  have F46 : py_46 (pz_gt (ρ 0)) (pz_gN (ρ 0)) ((ρ 1) / 4) (ρ 3) (ρ 4) := (ax_XF_lt (by decide)).mp (ax_gx hE (46, [3, 7, 15, 19]) (by decide))
  rw [F98] at F78
  obtain ⟨ρ', h1, h2⟩ := pz_pn1 (K := ρ 3 / 4 * 4096 + 1008) (xf := [(46, [3, 11, 23, 19]), (99, [23, 4032, 15])]) hE (by decide) (fun ρ' h1 h2 x hx => by
    have q0 : ρ' 0 = ρ 0 := h1 0 (by decide)
    have q1 : ρ' 1 = ρ 1 := h1 1 (by decide)
    have q2 : ρ' 2 = ρ 2 := h1 2 (by decide)
    have q3 : ρ' 3 = ρ 3 := h1 3 (by decide)
    have q4 : ρ' 4 = ρ 4 := h1 4 (by decide)
    rcases List.mem_cons.mp hx with e | hx
    · subst e
      refine (ax_XF_lt (x := 46) (by decide)).mpr ?_
      show py_46 (pz_gt (ρ' 0)) (pz_gN (ρ' 0)) ((ρ' 2) / 4) (ρ' 5) (ρ' 4)
      rw [q0, q2, q4, h2]
      rw [F98]
      exact pr_suM F78a (pr_k5 F107) F78 (by decide) F46 ⟨pz_41 _, F46.2.1, by decide⟩
    cases List.mem_singleton.mp hx
    refine (ax_XF_lt (x := 99) (by decide)).mpr ?_
    show py_99 (ρ' 5) (4032) (ρ' 3)
    rw [q3, h2]
    exact ⟨pz_41 _, F46.2.1, by decide⟩)
  exact ⟨(fun y hy => by cases hy), _, List.mem_cons_self, ρ', h1, h2⟩

theorem axq_sl5_4 : ax_RO ax_wC ax_XC axu_sl5_4 := by
  intro ρ hp hE hT
  have j0 : ρ 0 % 4 = 1 := pz_gj hE 0 (by decide) rfl
  have j1 : ρ 1 % 4 = 1 := pz_gj hE 1 (by decide) rfl
  have j2 : ρ 2 % 4 = 1 := pz_gj hE 2 (by decide) rfl
  have j3 : ρ 3 % 4 = 1 := pz_gj hE 3 (by decide) rfl
  obtain ⟨-, -, -, -, F50⟩ : ay_ex hp 8 ∧ ay_ex hp 10 ∧ ay_ex hp 11 ∧ ay_ex hp 12 ∧ pz_x50 (ρ 0) (ρ 1) (ay_at hp 8 5) (ay_at hp 8 6) (ay_at hp 8 7) (ay_at hp 8 8) (ay_at hp 10 0) (ay_at hp 10 1) (ay_at hp 10 2) (ay_at hp 10 3) (ay_at hp 10 4) (ay_at hp 8 9) (ay_at hp 8 11) (ay_at hp 8 10) (ay_at hp 8 3) (ay_at hp 8 4) (ay_at hp 11) (ay_at hp 12) := (ax_XF_lt (by decide)).mp (ax_gx hE (50, [3, 7]) (by decide))
  have F79 : pz7 (pz_gt (ρ 0)) (pz_gN (ρ 0)) ((ρ 1) / 4) 9 := (ax_XF_lt (by decide)).mp (ax_gx hE (79, [3, 7]) (by decide))
  have F47 : py_47 (pz_gt (ρ 0)) (pz_gN (ρ 0)) ((ρ 1) / 4) (ρ 2) (ρ 3) := (ax_XF_lt (by decide)).mp (ax_gx hE (47, [3, 7, 11, 15]) (by decide))
  refine ⟨(fun y hy => by cases hy), _, List.mem_cons_self, ρ, fun _ _ => rfl, ax_px hE (by decide) (fun y hy => ?_)⟩
  cases List.mem_singleton.mp hy
  refine (ax_XF_lt (x := 40) (by decide)).mpr ?_
  show py_40 (ρ 3)
  exact pr_l47 F79 (by decide) F47

theorem axq_sv5_4 : ax_RO ax_wC ax_XC axu_sv5_4 := by
  intro ρ hp hE hT
  have j0 : ρ 0 % 4 = 1 := pz_gj hE 0 (by decide) rfl
  have j1 : ρ 1 % 4 = 1 := pz_gj hE 1 (by decide) rfl
  have j2 : ρ 2 % 4 = 1 := pz_gj hE 2 (by decide) rfl
  have j3 : ρ 3 % 4 = 1 := pz_gj hE 3 (by decide) rfl
  have j4 : ρ 4 % 4 = 1 := pz_gj hE 4 (by decide) rfl
  have j5 : ρ 5 % 4 = 1 := pz_gj hE 5 (by decide) rfl
  obtain ⟨-, -, -, -, F50⟩ : ay_ex hp 8 ∧ ay_ex hp 10 ∧ ay_ex hp 11 ∧ ay_ex hp 12 ∧ pz_x50 (ρ 0) (ρ 1) (ay_at hp 8 5) (ay_at hp 8 6) (ay_at hp 8 7) (ay_at hp 8 8) (ay_at hp 10 0) (ay_at hp 10 1) (ay_at hp 10 2) (ay_at hp 10 3) (ay_at hp 10 4) (ay_at hp 8 9) (ay_at hp 8 11) (ay_at hp 8 10) (ay_at hp 8 3) (ay_at hp 8 4) (ay_at hp 11) (ay_at hp 12) := (ax_XF_lt (by decide)).mp (ax_gx hE (50, [3, 7]) (by decide))
  have F47 : py_47 (pz_gt (ρ 0)) (pz_gN (ρ 0)) ((ρ 1) / 4) (ρ 3) (ρ 4) := (ax_XF_lt (by decide)).mp (ax_gx hE (47, [3, 7, 15, 19]) (by decide))
  have F99 : py_99 (ρ 3) (4032) (ρ 2) := (ax_XF_lt (by decide)).mp (ax_gx hE (99, [15, 4032, 11]) (by decide))
  obtain ⟨-, -, -, F41⟩ : ay_ex hp 10 ∧ ay_ex hp 15 ∧ ay_ex hp 16 ∧ py_x41 (ρ 5) (ay_at hp 10 5) (ay_at hp 15) (ay_at hp 16) := (ax_XF_lt (by decide)).mp (ax_gx hE (41, [23]) (by decide))
  have F99a : py_99 (ρ 5) (4032) (ρ 4) := (ax_XF_lt (by decide)).mp (ax_gx hE (99, [23, 4032, 19]) (by decide))
  refine ⟨(fun y hy => by cases hy), _, List.mem_cons_self, ρ, fun _ _ => rfl, ax_px hE (by decide) (fun y hy => ?_)⟩
  cases List.mem_singleton.mp hy
  refine (ax_XF_lt (x := 47) (by decide)).mpr ?_
  show py_47 (pz_gt (ρ 0)) (pz_gN (ρ 0)) ((ρ 1) / 4) (ρ 2) (ρ 5)
  exact pr_sv5 F47 F99 F99a

theorem axq_su1_5 : ax_RO ax_wC ax_XC axu_su1_5 := by
  intro ρ hp hE hT
  have j0 : ρ 0 % 4 = 1 := pz_gj hE 0 (by decide) rfl
  have j1 : ρ 1 % 4 = 1 := pz_gj hE 1 (by decide) rfl
  have j2 : ρ 2 % 4 = 1 := pz_gj hE 2 (by decide) rfl
  have j3 : ρ 3 % 4 = 1 := pz_gj hE 3 (by decide) rfl
  have j4 : ρ 4 % 4 = 1 := pz_gj hE 4 (by decide) rfl
  obtain ⟨i5a, i5b, i5c, i5d⟩ := pz_gi hE 5 2147483648 2147484647 (by decide) rfl
  have c_value : ay_at hp 8 8 = some (ρ 5) := ay_gfj hE 42 32 23 8 8 (by decide) (by rw [ax_vl_c (by decide)]) (by rw [ax_vl_c (by decide)])
  obtain ⟨-, -, -, -, F50⟩ : ay_ex hp 8 ∧ ay_ex hp 10 ∧ ay_ex hp 11 ∧ ay_ex hp 12 ∧ pz_x50 (ρ 0) (ρ 1) (ay_at hp 8 5) (ay_at hp 8 6) (ay_at hp 8 7) (ay_at hp 8 8) (ay_at hp 10 0) (ay_at hp 10 1) (ay_at hp 10 2) (ay_at hp 10 3) (ay_at hp 10 4) (ay_at hp 8 9) (ay_at hp 8 11) (ay_at hp 8 10) (ay_at hp 8 3) (ay_at hp 8 4) (ay_at hp 11) (ay_at hp 12) := (ax_XF_lt (by decide)).mp (ax_gx hE (50, [3, 7]) (by decide))
  rw [c_value] at F50
  have F98 : (ρ 2) / 4 = (ρ 1) / 4 + 1 := (ax_XF_lt (by decide)).mp (ax_gx hE (98, [7, 11]) (by decide))
  have F79 : pz7 (pz_gt (ρ 0)) (pz_gN (ρ 0)) ((ρ 2) / 4) 9 := (ax_XF_lt (by decide)).mp (ax_gx hE (79, [3, 11]) (by decide))
  have F78 : pz7 (pz_gt (ρ 0)) (pz_gN (ρ 0)) ((ρ 1) / 4) 8 := (ax_XF_lt (by decide)).mp (ax_gx hE (78, [3, 7]) (by decide))
  have F107 : pz107 (pz_gt (ρ 0)) (pz_gN (ρ 0)) ((ρ 1) / 4) ((4) / 4) := (ax_XF_lt (by decide)).mp (ax_gx hE (107, [3, 7, 4]) (by decide))
  have F46 : py_46 (pz_gt (ρ 0)) (pz_gN (ρ 0)) ((ρ 1) / 4) (ρ 3) (ρ 4) := (ax_XF_lt (by decide)).mp (ax_gx hE (46, [3, 7, 15, 19]) (by decide))
  refine ⟨(fun y hy => by cases hy), _, List.mem_cons_self, ρ, fun _ _ => rfl, ax_px hE (by decide) (fun y hy => ?_)⟩
  cases List.mem_singleton.mp hy
  refine (ax_XF_lt (x := 42) (by decide)).mpr ?_
  show py_42 (pz_gt (ρ 0)) (pz_gN (ρ 0)) ((ρ 2) / 4) (ρ 3) (ρ 4) (ρ 5)
  have kd := pr_k1 F107
  have vl := pz_mc (F50.2.2.2.1 (F50.2.2.1.trans kd))
  replace vl : (ρ 5 / 4 ≤ 1000 ∧ pz_vl (pz_gt (ρ 0)) (pz_gN (ρ 0)) (pz_p (pz_cf (pz_gt (ρ 0)) (pz_gN (ρ 0)) (ρ 1 / 4))) = ρ 5 / 4) ∨ (1000 < ρ 5 / 4 ∧ pz_vl (pz_gt (ρ 0)) (pz_gN (ρ 0)) (pz_p (pz_cf (pz_gt (ρ 0)) (pz_gN (ρ 0)) (ρ 1 / 4))) = 1000) := vl
  rw [F98] at F79 ⊢
  exact pr_su F78 (by rw [kd]; decide) (by rw [kd]; decide) F79 (by decide) F46 (by rw [pr_un1 F107]; omega) (by omega)

theorem axq_sv1_5 : ax_RO ax_wC ax_XC axu_sv1_5 := by
  intro ρ hp hE hT
  have j0 : ρ 0 % 4 = 1 := pz_gj hE 0 (by decide) rfl
  have j1 : ρ 1 % 4 = 1 := pz_gj hE 1 (by decide) rfl
  have j2 : ρ 2 % 4 = 1 := pz_gj hE 2 (by decide) rfl
  have j3 : ρ 3 % 4 = 1 := pz_gj hE 3 (by decide) rfl
  have j4 : ρ 4 % 4 = 1 := pz_gj hE 4 (by decide) rfl
  obtain ⟨i5a, i5b, i5c, i5d⟩ := pz_gi hE 5 2147483648 2147484647 (by decide) rfl
  obtain ⟨-, -, -, -, F50⟩ : ay_ex hp 8 ∧ ay_ex hp 10 ∧ ay_ex hp 11 ∧ ay_ex hp 12 ∧ pz_x50 (ρ 0) (ρ 1) (ay_at hp 8 5) (ay_at hp 8 6) (ay_at hp 8 7) (ay_at hp 8 8) (ay_at hp 10 0) (ay_at hp 10 1) (ay_at hp 10 2) (ay_at hp 10 3) (ay_at hp 10 4) (ay_at hp 8 9) (ay_at hp 8 11) (ay_at hp 8 10) (ay_at hp 8 3) (ay_at hp 8 4) (ay_at hp 11) (ay_at hp 12) := (ax_XF_lt (by decide)).mp (ax_gx hE (50, [3, 7]) (by decide))
  have F42 : py_42 (pz_gt (ρ 0)) (pz_gN (ρ 0)) ((ρ 1) / 4) (ρ 2) (ρ 3) (ρ 5) := (ax_XF_lt (by decide)).mp (ax_gx hE (42, [3, 7, 11, 15, 23]) (by decide))
  obtain ⟨-, -, -, F41⟩ : ay_ex hp 10 ∧ ay_ex hp 15 ∧ ay_ex hp 16 ∧ py_x41 (ρ 4) (ay_at hp 10 5) (ay_at hp 15) (ay_at hp 16) := (ax_XF_lt (by decide)).mp (ax_gx hE (41, [19]) (by decide))
  have F99 : py_99 (ρ 4) (ρ 5) (ρ 3) := (ax_XF_lt (by decide)).mp (ax_gx hE (99, [19, 23, 15]) (by decide))
  refine ⟨(fun y hy => by cases hy), _, List.mem_cons_self, ρ, fun _ _ => rfl, ax_px hE (by decide) (fun y hy => ?_)⟩
  cases List.mem_singleton.mp hy
  refine (ax_XF_lt (x := 47) (by decide)).mpr ?_
  show py_47 (pz_gt (ρ 0)) (pz_gN (ρ 0)) ((ρ 1) / 4) (ρ 2) (ρ 4)
  exact pr_sv F42 F99

theorem axq_sl1_5 : ax_RO ax_wC ax_XC axu_sl1_5 := by
  intro ρ hp hE hT
  have j0 : ρ 0 % 4 = 1 := pz_gj hE 0 (by decide) rfl
  have j1 : ρ 1 % 4 = 1 := pz_gj hE 1 (by decide) rfl
  have j2 : ρ 2 % 4 = 1 := pz_gj hE 2 (by decide) rfl
  have j3 : ρ 3 % 4 = 1 := pz_gj hE 3 (by decide) rfl
  obtain ⟨i4a, i4b, i4c, i4d⟩ := pz_gi hE 4 2147483648 2147484647 (by decide) rfl
  obtain ⟨-, -, -, -, F50⟩ : ay_ex hp 8 ∧ ay_ex hp 10 ∧ ay_ex hp 11 ∧ ay_ex hp 12 ∧ pz_x50 (ρ 0) (ρ 1) (ay_at hp 8 5) (ay_at hp 8 6) (ay_at hp 8 7) (ay_at hp 8 8) (ay_at hp 10 0) (ay_at hp 10 1) (ay_at hp 10 2) (ay_at hp 10 3) (ay_at hp 10 4) (ay_at hp 8 9) (ay_at hp 8 11) (ay_at hp 8 10) (ay_at hp 8 3) (ay_at hp 8 4) (ay_at hp 11) (ay_at hp 12) := (ax_XF_lt (by decide)).mp (ax_gx hE (50, [3, 7]) (by decide))
  have F79 : pz7 (pz_gt (ρ 0)) (pz_gN (ρ 0)) ((ρ 1) / 4) 9 := (ax_XF_lt (by decide)).mp (ax_gx hE (79, [3, 7]) (by decide))
  have F42 : py_42 (pz_gt (ρ 0)) (pz_gN (ρ 0)) ((ρ 1) / 4) (ρ 2) (ρ 3) (ρ 4) := (ax_XF_lt (by decide)).mp (ax_gx hE (42, [3, 7, 11, 15, 19]) (by decide))
  refine ⟨(fun y hy => by cases hy), _, List.mem_cons_self, ρ, fun _ _ => rfl, ax_px hE (by decide) (fun y hy => ?_)⟩
  cases List.mem_singleton.mp hy
  refine (ax_XF_lt (x := 40) (by decide)).mpr ?_
  show py_40 (ρ 3)
  exact pr_l42 F79 (by decide) F42

theorem axq_su2_5 : ax_RO ax_wC ax_XC axu_su2_5 := by
  intro ρ hp hE hT
  have j0 : ρ 0 % 4 = 1 := pz_gj hE 0 (by decide) rfl
  have j1 : ρ 1 % 4 = 1 := pz_gj hE 1 (by decide) rfl
  have j2 : ρ 2 % 4 = 1 := pz_gj hE 2 (by decide) rfl
  have j3 : ρ 3 % 4 = 1 := pz_gj hE 3 (by decide) rfl
  have j4 : ρ 4 % 4 = 1 := pz_gj hE 4 (by decide) rfl
  obtain ⟨-, -, -, -, F50⟩ : ay_ex hp 8 ∧ ay_ex hp 10 ∧ ay_ex hp 11 ∧ ay_ex hp 12 ∧ pz_x50 (ρ 0) (ρ 1) (ay_at hp 8 5) (ay_at hp 8 6) (ay_at hp 8 7) (ay_at hp 8 8) (ay_at hp 10 0) (ay_at hp 10 1) (ay_at hp 10 2) (ay_at hp 10 3) (ay_at hp 10 4) (ay_at hp 8 9) (ay_at hp 8 11) (ay_at hp 8 10) (ay_at hp 8 3) (ay_at hp 8 4) (ay_at hp 11) (ay_at hp 12) := (ax_XF_lt (by decide)).mp (ax_gx hE (50, [3, 7]) (by decide))
  have F98 : (ρ 2) / 4 = (ρ 1) / 4 + 1 := (ax_XF_lt (by decide)).mp (ax_gx hE (98, [7, 11]) (by decide))
  have F79 : pz7 (pz_gt (ρ 0)) (pz_gN (ρ 0)) ((ρ 2) / 4) 9 := (ax_XF_lt (by decide)).mp (ax_gx hE (79, [3, 11]) (by decide))
  have F78 : pz7 (pz_gt (ρ 0)) (pz_gN (ρ 0)) ((ρ 1) / 4) 8 := (ax_XF_lt (by decide)).mp (ax_gx hE (78, [3, 7]) (by decide))
  have F107 : pz107 (pz_gt (ρ 0)) (pz_gN (ρ 0)) ((ρ 1) / 4) ((8) / 4) := (ax_XF_lt (by decide)).mp (ax_gx hE (107, [3, 7, 8]) (by decide))
  have F46 : py_46 (pz_gt (ρ 0)) (pz_gN (ρ 0)) ((ρ 1) / 4) (ρ 3) (ρ 4) := (ax_XF_lt (by decide)).mp (ax_gx hE (46, [3, 7, 15, 19]) (by decide))
  refine ⟨(fun y hy => by cases hy), _, List.mem_cons_self, ρ, fun _ _ => rfl, ax_px hE (by decide) (fun y hy => ?_)⟩
  cases List.mem_singleton.mp hy
  refine (ax_XF_lt (x := 42) (by decide)).mpr ?_
  show py_42 (pz_gt (ρ 0)) (pz_gN (ρ 0)) ((ρ 2) / 4) (ρ 3) (ρ 4) (4000)
  have kd := (pr_w (by decide) F107).1
  rw [F98] at F79 ⊢
  exact pr_su F78 (by rw [kd]; decide) (by rw [kd]; decide) F79 (by decide) F46 (by rw [pr_unw (by decide) F107]) (by decide)

theorem axq_sv2_5 : ax_RO ax_wC ax_XC axu_sv2_5 := by
  intro ρ hp hE hT
  have j0 : ρ 0 % 4 = 1 := pz_gj hE 0 (by decide) rfl
  have j1 : ρ 1 % 4 = 1 := pz_gj hE 1 (by decide) rfl
  have j2 : ρ 2 % 4 = 1 := pz_gj hE 2 (by decide) rfl
  have j3 : ρ 3 % 4 = 1 := pz_gj hE 3 (by decide) rfl
  have j4 : ρ 4 % 4 = 1 := pz_gj hE 4 (by decide) rfl
  obtain ⟨-, -, -, -, F50⟩ : ay_ex hp 8 ∧ ay_ex hp 10 ∧ ay_ex hp 11 ∧ ay_ex hp 12 ∧ pz_x50 (ρ 0) (ρ 1) (ay_at hp 8 5) (ay_at hp 8 6) (ay_at hp 8 7) (ay_at hp 8 8) (ay_at hp 10 0) (ay_at hp 10 1) (ay_at hp 10 2) (ay_at hp 10 3) (ay_at hp 10 4) (ay_at hp 8 9) (ay_at hp 8 11) (ay_at hp 8 10) (ay_at hp 8 3) (ay_at hp 8 4) (ay_at hp 11) (ay_at hp 12) := (ax_XF_lt (by decide)).mp (ax_gx hE (50, [3, 7]) (by decide))
  have F42 : py_42 (pz_gt (ρ 0)) (pz_gN (ρ 0)) ((ρ 1) / 4) (ρ 2) (ρ 3) (4000) := (ax_XF_lt (by decide)).mp (ax_gx hE (42, [3, 7, 11, 15, 4000]) (by decide))
  obtain ⟨-, -, -, F41⟩ : ay_ex hp 10 ∧ ay_ex hp 15 ∧ ay_ex hp 16 ∧ py_x41 (ρ 4) (ay_at hp 10 5) (ay_at hp 15) (ay_at hp 16) := (ax_XF_lt (by decide)).mp (ax_gx hE (41, [19]) (by decide))
  have F99 : py_99 (ρ 4) (4000) (ρ 3) := (ax_XF_lt (by decide)).mp (ax_gx hE (99, [19, 4000, 15]) (by decide))
  refine ⟨(fun y hy => by cases hy), _, List.mem_cons_self, ρ, fun _ _ => rfl, ax_px hE (by decide) (fun y hy => ?_)⟩
  cases List.mem_singleton.mp hy
  refine (ax_XF_lt (x := 47) (by decide)).mpr ?_
  show py_47 (pz_gt (ρ 0)) (pz_gN (ρ 0)) ((ρ 1) / 4) (ρ 2) (ρ 4)
  exact pr_sv F42 F99

theorem axq_sl2_5 : ax_RO ax_wC ax_XC axu_sl2_5 := by
  intro ρ hp hE hT
  have j0 : ρ 0 % 4 = 1 := pz_gj hE 0 (by decide) rfl
  have j1 : ρ 1 % 4 = 1 := pz_gj hE 1 (by decide) rfl
  have j2 : ρ 2 % 4 = 1 := pz_gj hE 2 (by decide) rfl
  have j3 : ρ 3 % 4 = 1 := pz_gj hE 3 (by decide) rfl
  obtain ⟨-, -, -, -, F50⟩ : ay_ex hp 8 ∧ ay_ex hp 10 ∧ ay_ex hp 11 ∧ ay_ex hp 12 ∧ pz_x50 (ρ 0) (ρ 1) (ay_at hp 8 5) (ay_at hp 8 6) (ay_at hp 8 7) (ay_at hp 8 8) (ay_at hp 10 0) (ay_at hp 10 1) (ay_at hp 10 2) (ay_at hp 10 3) (ay_at hp 10 4) (ay_at hp 8 9) (ay_at hp 8 11) (ay_at hp 8 10) (ay_at hp 8 3) (ay_at hp 8 4) (ay_at hp 11) (ay_at hp 12) := (ax_XF_lt (by decide)).mp (ax_gx hE (50, [3, 7]) (by decide))
  have F79 : pz7 (pz_gt (ρ 0)) (pz_gN (ρ 0)) ((ρ 1) / 4) 9 := (ax_XF_lt (by decide)).mp (ax_gx hE (79, [3, 7]) (by decide))
  have F42 : py_42 (pz_gt (ρ 0)) (pz_gN (ρ 0)) ((ρ 1) / 4) (ρ 2) (ρ 3) (4000) := (ax_XF_lt (by decide)).mp (ax_gx hE (42, [3, 7, 11, 15, 4000]) (by decide))
  refine ⟨(fun y hy => by cases hy), _, List.mem_cons_self, ρ, fun _ _ => rfl, ax_px hE (by decide) (fun y hy => ?_)⟩
  cases List.mem_singleton.mp hy
  refine (ax_XF_lt (x := 40) (by decide)).mpr ?_
  show py_40 (ρ 3)
  exact pr_l42 F79 (by decide) F42

theorem axq_su3_5 : ax_RO ax_wC ax_XC axu_su3_5 := by
  intro ρ hp hE hT
  have j0 : ρ 0 % 4 = 1 := pz_gj hE 0 (by decide) rfl
  have j1 : ρ 1 % 4 = 1 := pz_gj hE 1 (by decide) rfl
  have j2 : ρ 2 % 4 = 1 := pz_gj hE 2 (by decide) rfl
  have j3 : ρ 3 % 4 = 1 := pz_gj hE 3 (by decide) rfl
  have j4 : ρ 4 % 4 = 1 := pz_gj hE 4 (by decide) rfl
  obtain ⟨-, -, -, -, F50⟩ : ay_ex hp 8 ∧ ay_ex hp 10 ∧ ay_ex hp 11 ∧ ay_ex hp 12 ∧ pz_x50 (ρ 0) (ρ 1) (ay_at hp 8 5) (ay_at hp 8 6) (ay_at hp 8 7) (ay_at hp 8 8) (ay_at hp 10 0) (ay_at hp 10 1) (ay_at hp 10 2) (ay_at hp 10 3) (ay_at hp 10 4) (ay_at hp 8 9) (ay_at hp 8 11) (ay_at hp 8 10) (ay_at hp 8 3) (ay_at hp 8 4) (ay_at hp 11) (ay_at hp 12) := (ax_XF_lt (by decide)).mp (ax_gx hE (50, [3, 7]) (by decide))
  have F98 : (ρ 2) / 4 = (ρ 1) / 4 + 1 := (ax_XF_lt (by decide)).mp (ax_gx hE (98, [7, 11]) (by decide))
  have F79 : pz7 (pz_gt (ρ 0)) (pz_gN (ρ 0)) ((ρ 2) / 4) 9 := (ax_XF_lt (by decide)).mp (ax_gx hE (79, [3, 11]) (by decide))
  have F78 : pz7 (pz_gt (ρ 0)) (pz_gN (ρ 0)) ((ρ 1) / 4) 8 := (ax_XF_lt (by decide)).mp (ax_gx hE (78, [3, 7]) (by decide))
  have F107 : pz107 (pz_gt (ρ 0)) (pz_gN (ρ 0)) ((ρ 1) / 4) ((12) / 4) := (ax_XF_lt (by decide)).mp (ax_gx hE (107, [3, 7, 12]) (by decide))
  have F46 : py_46 (pz_gt (ρ 0)) (pz_gN (ρ 0)) ((ρ 1) / 4) (ρ 3) (ρ 4) := (ax_XF_lt (by decide)).mp (ax_gx hE (46, [3, 7, 15, 19]) (by decide))
  refine ⟨(fun y hy => by cases hy), _, List.mem_cons_self, ρ, fun _ _ => rfl, ax_px hE (by decide) (fun y hy => ?_)⟩
  cases List.mem_singleton.mp hy
  refine (ax_XF_lt (x := 42) (by decide)).mpr ?_
  show py_42 (pz_gt (ρ 0)) (pz_gN (ρ 0)) ((ρ 2) / 4) (ρ 3) (ρ 4) (4004)
  have kd := (pr_w (by decide) F107).1
  rw [F98] at F79 ⊢
  exact pr_su F78 (by rw [kd]; decide) (by rw [kd]; decide) F79 (by decide) F46 (by rw [pr_unw (by decide) F107]) (by decide)

theorem axq_sv3_5 : ax_RO ax_wC ax_XC axu_sv3_5 := by
  intro ρ hp hE hT
  have j0 : ρ 0 % 4 = 1 := pz_gj hE 0 (by decide) rfl
  have j1 : ρ 1 % 4 = 1 := pz_gj hE 1 (by decide) rfl
  have j2 : ρ 2 % 4 = 1 := pz_gj hE 2 (by decide) rfl
  have j3 : ρ 3 % 4 = 1 := pz_gj hE 3 (by decide) rfl
  have j4 : ρ 4 % 4 = 1 := pz_gj hE 4 (by decide) rfl
  obtain ⟨-, -, -, -, F50⟩ : ay_ex hp 8 ∧ ay_ex hp 10 ∧ ay_ex hp 11 ∧ ay_ex hp 12 ∧ pz_x50 (ρ 0) (ρ 1) (ay_at hp 8 5) (ay_at hp 8 6) (ay_at hp 8 7) (ay_at hp 8 8) (ay_at hp 10 0) (ay_at hp 10 1) (ay_at hp 10 2) (ay_at hp 10 3) (ay_at hp 10 4) (ay_at hp 8 9) (ay_at hp 8 11) (ay_at hp 8 10) (ay_at hp 8 3) (ay_at hp 8 4) (ay_at hp 11) (ay_at hp 12) := (ax_XF_lt (by decide)).mp (ax_gx hE (50, [3, 7]) (by decide))
  have F42 : py_42 (pz_gt (ρ 0)) (pz_gN (ρ 0)) ((ρ 1) / 4) (ρ 2) (ρ 3) (4004) := (ax_XF_lt (by decide)).mp (ax_gx hE (42, [3, 7, 11, 15, 4004]) (by decide))
  obtain ⟨-, -, -, F41⟩ : ay_ex hp 10 ∧ ay_ex hp 15 ∧ ay_ex hp 16 ∧ py_x41 (ρ 4) (ay_at hp 10 5) (ay_at hp 15) (ay_at hp 16) := (ax_XF_lt (by decide)).mp (ax_gx hE (41, [19]) (by decide))
  have F99 : py_99 (ρ 4) (4004) (ρ 3) := (ax_XF_lt (by decide)).mp (ax_gx hE (99, [19, 4004, 15]) (by decide))
  refine ⟨(fun y hy => by cases hy), _, List.mem_cons_self, ρ, fun _ _ => rfl, ax_px hE (by decide) (fun y hy => ?_)⟩
  cases List.mem_singleton.mp hy
  refine (ax_XF_lt (x := 47) (by decide)).mpr ?_
  show py_47 (pz_gt (ρ 0)) (pz_gN (ρ 0)) ((ρ 1) / 4) (ρ 2) (ρ 4)
  exact pr_sv F42 F99

theorem axq_sl3_5 : ax_RO ax_wC ax_XC axu_sl3_5 := by
  intro ρ hp hE hT
  have j0 : ρ 0 % 4 = 1 := pz_gj hE 0 (by decide) rfl
  have j1 : ρ 1 % 4 = 1 := pz_gj hE 1 (by decide) rfl
  have j2 : ρ 2 % 4 = 1 := pz_gj hE 2 (by decide) rfl
  have j3 : ρ 3 % 4 = 1 := pz_gj hE 3 (by decide) rfl
  obtain ⟨-, -, -, -, F50⟩ : ay_ex hp 8 ∧ ay_ex hp 10 ∧ ay_ex hp 11 ∧ ay_ex hp 12 ∧ pz_x50 (ρ 0) (ρ 1) (ay_at hp 8 5) (ay_at hp 8 6) (ay_at hp 8 7) (ay_at hp 8 8) (ay_at hp 10 0) (ay_at hp 10 1) (ay_at hp 10 2) (ay_at hp 10 3) (ay_at hp 10 4) (ay_at hp 8 9) (ay_at hp 8 11) (ay_at hp 8 10) (ay_at hp 8 3) (ay_at hp 8 4) (ay_at hp 11) (ay_at hp 12) := (ax_XF_lt (by decide)).mp (ax_gx hE (50, [3, 7]) (by decide))
  have F79 : pz7 (pz_gt (ρ 0)) (pz_gN (ρ 0)) ((ρ 1) / 4) 9 := (ax_XF_lt (by decide)).mp (ax_gx hE (79, [3, 7]) (by decide))
  have F42 : py_42 (pz_gt (ρ 0)) (pz_gN (ρ 0)) ((ρ 1) / 4) (ρ 2) (ρ 3) (4004) := (ax_XF_lt (by decide)).mp (ax_gx hE (42, [3, 7, 11, 15, 4004]) (by decide))
  refine ⟨(fun y hy => by cases hy), _, List.mem_cons_self, ρ, fun _ _ => rfl, ax_px hE (by decide) (fun y hy => ?_)⟩
  cases List.mem_singleton.mp hy
  refine (ax_XF_lt (x := 40) (by decide)).mpr ?_
  show py_40 (ρ 3)
  exact pr_l42 F79 (by decide) F42

theorem axq_su4_5 : ax_RO ax_wC ax_XC axu_su4_5 := by
  intro ρ hp hE hT
  have j0 : ρ 0 % 4 = 1 := pz_gj hE 0 (by decide) rfl
  have j1 : ρ 1 % 4 = 1 := pz_gj hE 1 (by decide) rfl
  have j2 : ρ 2 % 4 = 1 := pz_gj hE 2 (by decide) rfl
  have j3 : ρ 3 % 4 = 1 := pz_gj hE 3 (by decide) rfl
  have j4 : ρ 4 % 4 = 1 := pz_gj hE 4 (by decide) rfl
  obtain ⟨-, -, -, -, F50⟩ : ay_ex hp 8 ∧ ay_ex hp 10 ∧ ay_ex hp 11 ∧ ay_ex hp 12 ∧ pz_x50 (ρ 0) (ρ 1) (ay_at hp 8 5) (ay_at hp 8 6) (ay_at hp 8 7) (ay_at hp 8 8) (ay_at hp 10 0) (ay_at hp 10 1) (ay_at hp 10 2) (ay_at hp 10 3) (ay_at hp 10 4) (ay_at hp 8 9) (ay_at hp 8 11) (ay_at hp 8 10) (ay_at hp 8 3) (ay_at hp 8 4) (ay_at hp 11) (ay_at hp 12) := (ax_XF_lt (by decide)).mp (ax_gx hE (50, [3, 7]) (by decide))
  have F98 : (ρ 2) / 4 = (ρ 1) / 4 + 1 := (ax_XF_lt (by decide)).mp (ax_gx hE (98, [7, 11]) (by decide))
  have F79 : pz7 (pz_gt (ρ 0)) (pz_gN (ρ 0)) ((ρ 2) / 4) 9 := (ax_XF_lt (by decide)).mp (ax_gx hE (79, [3, 11]) (by decide))
  have F78 : pz7 (pz_gt (ρ 0)) (pz_gN (ρ 0)) ((ρ 1) / 4) 8 := (ax_XF_lt (by decide)).mp (ax_gx hE (78, [3, 7]) (by decide))
  have F107 : pz107 (pz_gt (ρ 0)) (pz_gN (ρ 0)) ((ρ 1) / 4) ((16) / 4) := (ax_XF_lt (by decide)).mp (ax_gx hE (107, [3, 7, 16]) (by decide))
  have F46 : py_46 (pz_gt (ρ 0)) (pz_gN (ρ 0)) ((ρ 1) / 4) (ρ 3) (ρ 4) := (ax_XF_lt (by decide)).mp (ax_gx hE (46, [3, 7, 15, 19]) (by decide))
  refine ⟨(fun y hy => by cases hy), _, List.mem_cons_self, ρ, fun _ _ => rfl, ax_px hE (by decide) (fun y hy => ?_)⟩
  cases List.mem_singleton.mp hy
  refine (ax_XF_lt (x := 42) (by decide)).mpr ?_
  show py_42 (pz_gt (ρ 0)) (pz_gN (ρ 0)) ((ρ 2) / 4) (ρ 3) (ρ 4) (4008)
  have kd := (pr_w (by decide) F107).1
  rw [F98] at F79 ⊢
  exact pr_su F78 (by rw [kd]; decide) (by rw [kd]; decide) F79 (by decide) F46 (by rw [pr_unw (by decide) F107]) (by decide)

theorem axq_sv4_5 : ax_RO ax_wC ax_XC axu_sv4_5 := by
  intro ρ hp hE hT
  have j0 : ρ 0 % 4 = 1 := pz_gj hE 0 (by decide) rfl
  have j1 : ρ 1 % 4 = 1 := pz_gj hE 1 (by decide) rfl
  have j2 : ρ 2 % 4 = 1 := pz_gj hE 2 (by decide) rfl
  have j3 : ρ 3 % 4 = 1 := pz_gj hE 3 (by decide) rfl
  have j4 : ρ 4 % 4 = 1 := pz_gj hE 4 (by decide) rfl
  obtain ⟨-, -, -, -, F50⟩ : ay_ex hp 8 ∧ ay_ex hp 10 ∧ ay_ex hp 11 ∧ ay_ex hp 12 ∧ pz_x50 (ρ 0) (ρ 1) (ay_at hp 8 5) (ay_at hp 8 6) (ay_at hp 8 7) (ay_at hp 8 8) (ay_at hp 10 0) (ay_at hp 10 1) (ay_at hp 10 2) (ay_at hp 10 3) (ay_at hp 10 4) (ay_at hp 8 9) (ay_at hp 8 11) (ay_at hp 8 10) (ay_at hp 8 3) (ay_at hp 8 4) (ay_at hp 11) (ay_at hp 12) := (ax_XF_lt (by decide)).mp (ax_gx hE (50, [3, 7]) (by decide))
  have F42 : py_42 (pz_gt (ρ 0)) (pz_gN (ρ 0)) ((ρ 1) / 4) (ρ 2) (ρ 3) (4008) := (ax_XF_lt (by decide)).mp (ax_gx hE (42, [3, 7, 11, 15, 4008]) (by decide))
  obtain ⟨-, -, -, F41⟩ : ay_ex hp 10 ∧ ay_ex hp 15 ∧ ay_ex hp 16 ∧ py_x41 (ρ 4) (ay_at hp 10 5) (ay_at hp 15) (ay_at hp 16) := (ax_XF_lt (by decide)).mp (ax_gx hE (41, [19]) (by decide))
  have F99 : py_99 (ρ 4) (4008) (ρ 3) := (ax_XF_lt (by decide)).mp (ax_gx hE (99, [19, 4008, 15]) (by decide))
  refine ⟨(fun y hy => by cases hy), _, List.mem_cons_self, ρ, fun _ _ => rfl, ax_px hE (by decide) (fun y hy => ?_)⟩
  cases List.mem_singleton.mp hy
  refine (ax_XF_lt (x := 47) (by decide)).mpr ?_
  show py_47 (pz_gt (ρ 0)) (pz_gN (ρ 0)) ((ρ 1) / 4) (ρ 2) (ρ 4)
  exact pr_sv F42 F99

theorem axq_sl4_5 : ax_RO ax_wC ax_XC axu_sl4_5 := by
  intro ρ hp hE hT
  have j0 : ρ 0 % 4 = 1 := pz_gj hE 0 (by decide) rfl
  have j1 : ρ 1 % 4 = 1 := pz_gj hE 1 (by decide) rfl
  have j2 : ρ 2 % 4 = 1 := pz_gj hE 2 (by decide) rfl
  have j3 : ρ 3 % 4 = 1 := pz_gj hE 3 (by decide) rfl
  obtain ⟨-, -, -, -, F50⟩ : ay_ex hp 8 ∧ ay_ex hp 10 ∧ ay_ex hp 11 ∧ ay_ex hp 12 ∧ pz_x50 (ρ 0) (ρ 1) (ay_at hp 8 5) (ay_at hp 8 6) (ay_at hp 8 7) (ay_at hp 8 8) (ay_at hp 10 0) (ay_at hp 10 1) (ay_at hp 10 2) (ay_at hp 10 3) (ay_at hp 10 4) (ay_at hp 8 9) (ay_at hp 8 11) (ay_at hp 8 10) (ay_at hp 8 3) (ay_at hp 8 4) (ay_at hp 11) (ay_at hp 12) := (ax_XF_lt (by decide)).mp (ax_gx hE (50, [3, 7]) (by decide))
  have F79 : pz7 (pz_gt (ρ 0)) (pz_gN (ρ 0)) ((ρ 1) / 4) 9 := (ax_XF_lt (by decide)).mp (ax_gx hE (79, [3, 7]) (by decide))
  have F42 : py_42 (pz_gt (ρ 0)) (pz_gN (ρ 0)) ((ρ 1) / 4) (ρ 2) (ρ 3) (4008) := (ax_XF_lt (by decide)).mp (ax_gx hE (42, [3, 7, 11, 15, 4008]) (by decide))
  refine ⟨(fun y hy => by cases hy), _, List.mem_cons_self, ρ, fun _ _ => rfl, ax_px hE (by decide) (fun y hy => ?_)⟩
  cases List.mem_singleton.mp hy
  refine (ax_XF_lt (x := 40) (by decide)).mpr ?_
  show py_40 (ρ 3)
  exact pr_l42 F79 (by decide) F42

theorem axq_su40_5 : ax_RO ax_wC ax_XC axu_su40_5 := by
  intro ρ hp hE hT
  have j0 : ρ 0 % 4 = 1 := pz_gj hE 0 (by decide) rfl
  have j1 : ρ 1 % 4 = 1 := pz_gj hE 1 (by decide) rfl
  have j2 : ρ 2 % 4 = 1 := pz_gj hE 2 (by decide) rfl
  have j3 : ρ 3 % 4 = 1 := pz_gj hE 3 (by decide) rfl
  have j4 : ρ 4 % 4 = 1 := pz_gj hE 4 (by decide) rfl
  obtain ⟨-, -, -, -, F50⟩ : ay_ex hp 8 ∧ ay_ex hp 10 ∧ ay_ex hp 11 ∧ ay_ex hp 12 ∧ pz_x50 (ρ 0) (ρ 1) (ay_at hp 8 5) (ay_at hp 8 6) (ay_at hp 8 7) (ay_at hp 8 8) (ay_at hp 10 0) (ay_at hp 10 1) (ay_at hp 10 2) (ay_at hp 10 3) (ay_at hp 10 4) (ay_at hp 8 9) (ay_at hp 8 11) (ay_at hp 8 10) (ay_at hp 8 3) (ay_at hp 8 4) (ay_at hp 11) (ay_at hp 12) := (ax_XF_lt (by decide)).mp (ax_gx hE (50, [3, 7]) (by decide))
  have F98 : (ρ 2) / 4 = (ρ 1) / 4 + 1 := (ax_XF_lt (by decide)).mp (ax_gx hE (98, [7, 11]) (by decide))
  have F78 : pz7 (pz_gt (ρ 0)) (pz_gN (ρ 0)) ((ρ 2) / 4) 8 := (ax_XF_lt (by decide)).mp (ax_gx hE (78, [3, 11]) (by decide))
  have F78a : pz7 (pz_gt (ρ 0)) (pz_gN (ρ 0)) ((ρ 1) / 4) 8 := (ax_XF_lt (by decide)).mp (ax_gx hE (78, [3, 7]) (by decide))
  have F107 : pz107 (pz_gt (ρ 0)) (pz_gN (ρ 0)) ((ρ 1) / 4) ((160) / 4) := (ax_XF_lt (by decide)).mp (ax_gx hE (107, [3, 7, 160]) (by decide))
  have F46 : py_46 (pz_gt (ρ 0)) (pz_gN (ρ 0)) ((ρ 1) / 4) (ρ 3) (ρ 4) := (ax_XF_lt (by decide)).mp (ax_gx hE (46, [3, 7, 15, 19]) (by decide))
  rw [F98] at F78
  obtain ⟨ρ', h1, h2⟩ := pz_pn1 (K := ρ 3 / 4 * 4096 + 1009) (xf := [(46, [3, 11, 23, 19]), (99, [23, 4036, 15]), (45, [23])]) hE (by decide) (fun ρ' h1 h2 x hx => by
    have q0 : ρ' 0 = ρ 0 := h1 0 (by decide)
    have q1 : ρ' 1 = ρ 1 := h1 1 (by decide)
    have q2 : ρ' 2 = ρ 2 := h1 2 (by decide)
    have q3 : ρ' 3 = ρ 3 := h1 3 (by decide)
    have q4 : ρ' 4 = ρ 4 := h1 4 (by decide)
    rcases List.mem_cons.mp hx with e | hx
    · subst e
      refine (ax_XF_lt (x := 46) (by decide)).mpr ?_
      show py_46 (pz_gt (ρ' 0)) (pz_gN (ρ' 0)) ((ρ' 2) / 4) (ρ' 5) (ρ' 4)
      rw [q0, q2, q4, h2]
      rw [F98]
      exact pr_suO F78a (pr_k40 F107) F78 (by decide) F46 ⟨pz_41 _, F46.2.1, by decide⟩
    rcases List.mem_cons.mp hx with e | hx
    · subst e
      refine (ax_XF_lt (x := 99) (by decide)).mpr ?_
      show py_99 (ρ' 5) (4036) (ρ' 3)
      rw [q3, h2]
      exact ⟨pz_41 _, F46.2.1, by decide⟩
    cases List.mem_singleton.mp hx
    refine (ax_XF_lt (x := 45) (by decide)).mpr ?_
    show py_44 1 (ρ' 5)
    rw [h2]
    exact pr_44 (c := 4036) (s := ρ 3) ⟨pz_41 _, F46.2.1, by decide⟩ (by decide) (by decide))
  exact ⟨(fun y hy => by cases hy), _, List.mem_cons_self, ρ', h1, h2⟩

theorem axq_su5_5 : ax_RO ax_wC ax_XC axu_su5_5 := by
  intro ρ hp hE hT
  have j0 : ρ 0 % 4 = 1 := pz_gj hE 0 (by decide) rfl
  have j1 : ρ 1 % 4 = 1 := pz_gj hE 1 (by decide) rfl
  have j2 : ρ 2 % 4 = 1 := pz_gj hE 2 (by decide) rfl
  have j3 : ρ 3 % 4 = 1 := pz_gj hE 3 (by decide) rfl
  have j4 : ρ 4 % 4 = 1 := pz_gj hE 4 (by decide) rfl
  obtain ⟨-, -, -, -, F50⟩ : ay_ex hp 8 ∧ ay_ex hp 10 ∧ ay_ex hp 11 ∧ ay_ex hp 12 ∧ pz_x50 (ρ 0) (ρ 1) (ay_at hp 8 5) (ay_at hp 8 6) (ay_at hp 8 7) (ay_at hp 8 8) (ay_at hp 10 0) (ay_at hp 10 1) (ay_at hp 10 2) (ay_at hp 10 3) (ay_at hp 10 4) (ay_at hp 8 9) (ay_at hp 8 11) (ay_at hp 8 10) (ay_at hp 8 3) (ay_at hp 8 4) (ay_at hp 11) (ay_at hp 12) := (ax_XF_lt (by decide)).mp (ax_gx hE (50, [3, 7]) (by decide))
  have F98 : (ρ 2) / 4 = (ρ 1) / 4 + 1 := (ax_XF_lt (by decide)).mp (ax_gx hE (98, [7, 11]) (by decide))
  have F78 : pz7 (pz_gt (ρ 0)) (pz_gN (ρ 0)) ((ρ 2) / 4) 8 := (ax_XF_lt (by decide)).mp (ax_gx hE (78, [3, 11]) (by decide))
  have F78a : pz7 (pz_gt (ρ 0)) (pz_gN (ρ 0)) ((ρ 1) / 4) 8 := (ax_XF_lt (by decide)).mp (ax_gx hE (78, [3, 7]) (by decide))
  have F107 : pz107 (pz_gt (ρ 0)) (pz_gN (ρ 0)) ((ρ 1) / 4) ((20) / 4) := (ax_XF_lt (by decide)).mp (ax_gx hE (107, [3, 7, 20]) (by decide))
  have F46 : py_46 (pz_gt (ρ 0)) (pz_gN (ρ 0)) ((ρ 1) / 4) (ρ 3) (ρ 4) := (ax_XF_lt (by decide)).mp (ax_gx hE (46, [3, 7, 15, 19]) (by decide))
  rw [F98] at F78
  obtain ⟨ρ', h1, h2⟩ := pz_pn1 (K := ρ 3 / 4 * 4096 + 1008) (xf := [(46, [3, 11, 23, 19]), (99, [23, 4032, 15])]) hE (by decide) (fun ρ' h1 h2 x hx => by
    have q0 : ρ' 0 = ρ 0 := h1 0 (by decide)
    have q1 : ρ' 1 = ρ 1 := h1 1 (by decide)
    have q2 : ρ' 2 = ρ 2 := h1 2 (by decide)
    have q3 : ρ' 3 = ρ 3 := h1 3 (by decide)
    have q4 : ρ' 4 = ρ 4 := h1 4 (by decide)
    rcases List.mem_cons.mp hx with e | hx
    · subst e
      refine (ax_XF_lt (x := 46) (by decide)).mpr ?_
      show py_46 (pz_gt (ρ' 0)) (pz_gN (ρ' 0)) ((ρ' 2) / 4) (ρ' 5) (ρ' 4)
      rw [q0, q2, q4, h2]
      rw [F98]
      exact pr_suM F78a (pr_k5 F107) F78 (by decide) F46 ⟨pz_41 _, F46.2.1, by decide⟩
    cases List.mem_singleton.mp hx
    refine (ax_XF_lt (x := 99) (by decide)).mpr ?_
    show py_99 (ρ' 5) (4032) (ρ' 3)
    rw [q3, h2]
    exact ⟨pz_41 _, F46.2.1, by decide⟩)
  exact ⟨(fun y hy => by cases hy), _, List.mem_cons_self, ρ', h1, h2⟩

theorem axq_sl5_5 : ax_RO ax_wC ax_XC axu_sl5_5 := by
  intro ρ hp hE hT
  have j0 : ρ 0 % 4 = 1 := pz_gj hE 0 (by decide) rfl
  have j1 : ρ 1 % 4 = 1 := pz_gj hE 1 (by decide) rfl
  have j2 : ρ 2 % 4 = 1 := pz_gj hE 2 (by decide) rfl
  have j3 : ρ 3 % 4 = 1 := pz_gj hE 3 (by decide) rfl
  obtain ⟨-, -, -, -, F50⟩ : ay_ex hp 8 ∧ ay_ex hp 10 ∧ ay_ex hp 11 ∧ ay_ex hp 12 ∧ pz_x50 (ρ 0) (ρ 1) (ay_at hp 8 5) (ay_at hp 8 6) (ay_at hp 8 7) (ay_at hp 8 8) (ay_at hp 10 0) (ay_at hp 10 1) (ay_at hp 10 2) (ay_at hp 10 3) (ay_at hp 10 4) (ay_at hp 8 9) (ay_at hp 8 11) (ay_at hp 8 10) (ay_at hp 8 3) (ay_at hp 8 4) (ay_at hp 11) (ay_at hp 12) := (ax_XF_lt (by decide)).mp (ax_gx hE (50, [3, 7]) (by decide))
  have F79 : pz7 (pz_gt (ρ 0)) (pz_gN (ρ 0)) ((ρ 1) / 4) 9 := (ax_XF_lt (by decide)).mp (ax_gx hE (79, [3, 7]) (by decide))
  have F47 : py_47 (pz_gt (ρ 0)) (pz_gN (ρ 0)) ((ρ 1) / 4) (ρ 2) (ρ 3) := (ax_XF_lt (by decide)).mp (ax_gx hE (47, [3, 7, 11, 15]) (by decide))
  refine ⟨(fun y hy => by cases hy), _, List.mem_cons_self, ρ, fun _ _ => rfl, ax_px hE (by decide) (fun y hy => ?_)⟩
  cases List.mem_singleton.mp hy
  refine (ax_XF_lt (x := 40) (by decide)).mpr ?_
  show py_40 (ρ 3)
  exact pr_l47 F79 (by decide) F47

theorem axq_sv5_5 : ax_RO ax_wC ax_XC axu_sv5_5 := by
  intro ρ hp hE hT
  have j0 : ρ 0 % 4 = 1 := pz_gj hE 0 (by decide) rfl
  have j1 : ρ 1 % 4 = 1 := pz_gj hE 1 (by decide) rfl
  have j2 : ρ 2 % 4 = 1 := pz_gj hE 2 (by decide) rfl
  have j3 : ρ 3 % 4 = 1 := pz_gj hE 3 (by decide) rfl
  have j4 : ρ 4 % 4 = 1 := pz_gj hE 4 (by decide) rfl
  have j5 : ρ 5 % 4 = 1 := pz_gj hE 5 (by decide) rfl
  obtain ⟨-, -, -, -, F50⟩ : ay_ex hp 8 ∧ ay_ex hp 10 ∧ ay_ex hp 11 ∧ ay_ex hp 12 ∧ pz_x50 (ρ 0) (ρ 1) (ay_at hp 8 5) (ay_at hp 8 6) (ay_at hp 8 7) (ay_at hp 8 8) (ay_at hp 10 0) (ay_at hp 10 1) (ay_at hp 10 2) (ay_at hp 10 3) (ay_at hp 10 4) (ay_at hp 8 9) (ay_at hp 8 11) (ay_at hp 8 10) (ay_at hp 8 3) (ay_at hp 8 4) (ay_at hp 11) (ay_at hp 12) := (ax_XF_lt (by decide)).mp (ax_gx hE (50, [3, 7]) (by decide))
  have F47 : py_47 (pz_gt (ρ 0)) (pz_gN (ρ 0)) ((ρ 1) / 4) (ρ 3) (ρ 4) := (ax_XF_lt (by decide)).mp (ax_gx hE (47, [3, 7, 15, 19]) (by decide))
  have F99 : py_99 (ρ 3) (4032) (ρ 2) := (ax_XF_lt (by decide)).mp (ax_gx hE (99, [15, 4032, 11]) (by decide))
  obtain ⟨-, -, -, F41⟩ : ay_ex hp 10 ∧ ay_ex hp 15 ∧ ay_ex hp 16 ∧ py_x41 (ρ 5) (ay_at hp 10 5) (ay_at hp 15) (ay_at hp 16) := (ax_XF_lt (by decide)).mp (ax_gx hE (41, [23]) (by decide))
  have F99a : py_99 (ρ 5) (4032) (ρ 4) := (ax_XF_lt (by decide)).mp (ax_gx hE (99, [23, 4032, 19]) (by decide))
  refine ⟨(fun y hy => by cases hy), _, List.mem_cons_self, ρ, fun _ _ => rfl, ax_px hE (by decide) (fun y hy => ?_)⟩
  cases List.mem_singleton.mp hy
  refine (ax_XF_lt (x := 47) (by decide)).mpr ?_
  show py_47 (pz_gt (ρ 0)) (pz_gN (ρ 0)) ((ρ 1) / 4) (ρ 2) (ρ 5)
  exact pr_sv5 F47 F99 F99a

theorem axq_sp1_0 : ax_RO ax_wC ax_XC axu_sp1_0 := by
  intro ρ hp hE hT
  have j0 : ρ 0 % 4 = 1 := pz_gj hE 0 (by decide) rfl
  have j1 : ρ 1 % 4 = 1 := pz_gj hE 1 (by decide) rfl
  have j2 : ρ 2 % 4 = 1 := pz_gj hE 2 (by decide) rfl
  have j3 : ρ 3 % 4 = 1 := pz_gj hE 3 (by decide) rfl
  obtain ⟨-, -, -, -, F50⟩ : ay_ex hp 8 ∧ ay_ex hp 10 ∧ ay_ex hp 11 ∧ ay_ex hp 12 ∧ pz_x50 (ρ 0) (ρ 1) (ay_at hp 8 5) (ay_at hp 8 6) (ay_at hp 8 7) (ay_at hp 8 8) (ay_at hp 10 0) (ay_at hp 10 1) (ay_at hp 10 2) (ay_at hp 10 3) (ay_at hp 10 4) (ay_at hp 8 9) (ay_at hp 8 11) (ay_at hp 8 10) (ay_at hp 8 3) (ay_at hp 8 4) (ay_at hp 11) (ay_at hp 12) := (ax_XF_lt (by decide)).mp (ax_gx hE (50, [3, 7]) (by decide))
  have F47 : py_47 (pz_gt (ρ 0)) (pz_gN (ρ 0)) ((ρ 1) / 4) (ρ 2) (ρ 3) := (ax_XF_lt (by decide)).mp (ax_gx hE (47, [3, 7, 11, 15]) (by decide))
  have F44 : py_44 2 (ρ 2) := (ax_XF_lt (by decide)).mp (ax_gx hE (44, [11]) (by decide))
  refine ⟨(fun y hy => by cases hy), _, List.mem_cons_self, ρ, fun _ _ => rfl, ax_px hE (by decide) (fun y hy => ?_)⟩
  cases List.mem_singleton.mp hy
  refine (ax_XF_lt (x := 48) (by decide)).mpr ?_
  show py_48 2 (pz_gt (ρ 0)) (pz_gN (ρ 0)) ((ρ 1) / 4) (ρ 2) (ρ 3)
  exact pr_sp1 F47 F44

theorem axq_sp2c42_0 : ax_RO ax_wC ax_XC axu_sp2c42_0 := by
  intro ρ hp hE hT
  have j0 : ρ 0 % 4 = 1 := pz_gj hE 0 (by decide) rfl
  have j1 : ρ 1 % 4 = 1 := pz_gj hE 1 (by decide) rfl
  have j2 : ρ 2 % 4 = 1 := pz_gj hE 2 (by decide) rfl
  have j3 : ρ 3 % 4 = 1 := pz_gj hE 3 (by decide) rfl
  have j4 : ρ 4 % 4 = 1 := pz_gj hE 4 (by decide) rfl
  obtain ⟨i5a, i5b, i5c, i5d⟩ := pz_gi hE 5 2147483690 2147483690 (by decide) rfl
  have c_kind : ay_at hp 8 7 = some (ρ 5) := ay_gfj hE 42 28 23 8 7 (by decide) (by rw [ax_vl_c (by decide)]) (by rw [ax_vl_c (by decide)])
  obtain ⟨-, -, -, -, F50⟩ : ay_ex hp 8 ∧ ay_ex hp 10 ∧ ay_ex hp 11 ∧ ay_ex hp 12 ∧ pz_x50 (ρ 0) (ρ 1) (ay_at hp 8 5) (ay_at hp 8 6) (ay_at hp 8 7) (ay_at hp 8 8) (ay_at hp 10 0) (ay_at hp 10 1) (ay_at hp 10 2) (ay_at hp 10 3) (ay_at hp 10 4) (ay_at hp 8 9) (ay_at hp 8 11) (ay_at hp 8 10) (ay_at hp 8 3) (ay_at hp 8 4) (ay_at hp 11) (ay_at hp 12) := (ax_XF_lt (by decide)).mp (ax_gx hE (50, [3, 7]) (by decide))
  rw [c_kind] at F50
  have F98 : (ρ 2) / 4 = (ρ 1) / 4 + 1 := (ax_XF_lt (by decide)).mp (ax_gx hE (98, [7, 11]) (by decide))
  have F78 : pz7 (pz_gt (ρ 0)) (pz_gN (ρ 0)) ((ρ 2) / 4) 8 := (ax_XF_lt (by decide)).mp (ax_gx hE (78, [3, 11]) (by decide))
  have F79 : pz7 (pz_gt (ρ 0)) (pz_gN (ρ 0)) ((ρ 1) / 4) 9 := (ax_XF_lt (by decide)).mp (ax_gx hE (79, [3, 7]) (by decide))
  have F48 : py_48 2 (pz_gt (ρ 0)) (pz_gN (ρ 0)) ((ρ 1) / 4) (ρ 3) (ρ 4) := (ax_XF_lt (by decide)).mp (ax_gx hE (48, [3, 7, 15, 19]) (by decide))
  have kd : ρ 5 / 4 = pz_kd (pz_gt (ρ 0)) (pz_gN (ρ 0)) (pz_p (pz_cf (pz_gt (ρ 0)) (pz_gN (ρ 0)) (ρ 1 / 4))) := F50.2.2.1
  rw [F98] at F78
  obtain ⟨ρ', h1, h2⟩ := pz_pn1 (K := ρ 3 / 4 * 4096 + 1005) (xf := [(46, [3, 11, 27, 19]), (99, [27, 4020, 15])]) hE (by decide) (fun ρ' h1 h2 x hx => by
    have q0 : ρ' 0 = ρ 0 := h1 0 (by decide)
    have q1 : ρ' 1 = ρ 1 := h1 1 (by decide)
    have q2 : ρ' 2 = ρ 2 := h1 2 (by decide)
    have q3 : ρ' 3 = ρ 3 := h1 3 (by decide)
    have q4 : ρ' 4 = ρ 4 := h1 4 (by decide)
    have q5 : ρ' 5 = ρ 5 := h1 5 (by decide)
    rcases List.mem_cons.mp hx with e | hx
    · subst e
      refine (ax_XF_lt (x := 46) (by decide)).mpr ?_
      show py_46 (pz_gt (ρ' 0)) (pz_gN (ρ' 0)) ((ρ' 2) / 4) (ρ' 6) (ρ' 4)
      rw [q0, q2, q4, h2]
      rw [F98]
      exact pr_op (q := 42) (c := 4020) (by decide) F79 (by omega) rfl F78 (by decide) (by decide) F48 ⟨pz_41 _, F48.2.1, by decide⟩
    cases List.mem_singleton.mp hx
    refine (ax_XF_lt (x := 99) (by decide)).mpr ?_
    show py_99 (ρ' 6) (4020) (ρ' 3)
    rw [q3, h2]
    exact ⟨pz_41 _, F48.2.1, by decide⟩)
  exact ⟨(fun y hy => by cases hy), _, List.mem_cons_self, ρ', h1, h2⟩

theorem axq_sp3c42_0 : ax_RO ax_wC ax_XC axu_sp3c42_0 := by
  intro ρ hp hE hT
  have j0 : ρ 0 % 4 = 1 := pz_gj hE 0 (by decide) rfl
  have j1 : ρ 1 % 4 = 1 := pz_gj hE 1 (by decide) rfl
  have j2 : ρ 2 % 4 = 1 := pz_gj hE 2 (by decide) rfl
  have j3 : ρ 3 % 4 = 1 := pz_gj hE 3 (by decide) rfl
  have j4 : ρ 4 % 4 = 1 := pz_gj hE 4 (by decide) rfl
  have j5 : ρ 5 % 4 = 1 := pz_gj hE 5 (by decide) rfl
  obtain ⟨i6a, i6b, i6c, i6d⟩ := pz_gi hE 6 2147483690 2147483690 (by decide) rfl
  obtain ⟨-, -, -, -, F50⟩ : ay_ex hp 8 ∧ ay_ex hp 10 ∧ ay_ex hp 11 ∧ ay_ex hp 12 ∧ pz_x50 (ρ 0) (ρ 1) (ay_at hp 8 5) (ay_at hp 8 6) (ay_at hp 8 7) (ay_at hp 8 8) (ay_at hp 10 0) (ay_at hp 10 1) (ay_at hp 10 2) (ay_at hp 10 3) (ay_at hp 10 4) (ay_at hp 8 9) (ay_at hp 8 11) (ay_at hp 8 10) (ay_at hp 8 3) (ay_at hp 8 4) (ay_at hp 11) (ay_at hp 12) := (ax_XF_lt (by decide)).mp (ax_gx hE (50, [3, 7]) (by decide))
  have F47 : py_47 (pz_gt (ρ 0)) (pz_gN (ρ 0)) ((ρ 1) / 4) (ρ 3) (ρ 4) := (ax_XF_lt (by decide)).mp (ax_gx hE (47, [3, 7, 15, 19]) (by decide))
  have F99 : py_99 (ρ 3) (4020) (ρ 2) := (ax_XF_lt (by decide)).mp (ax_gx hE (99, [15, 4020, 11]) (by decide))
  have F44 : py_44 2 (ρ 2) := (ax_XF_lt (by decide)).mp (ax_gx hE (44, [11]) (by decide))
  obtain ⟨-, -, -, F41⟩ : ay_ex hp 10 ∧ ay_ex hp 15 ∧ ay_ex hp 16 ∧ py_x41 (ρ 5) (ay_at hp 10 5) (ay_at hp 15) (ay_at hp 16) := (ax_XF_lt (by decide)).mp (ax_gx hE (41, [23]) (by decide))
  have F99a : py_99 (ρ 5) (4020) (ρ 4) := (ax_XF_lt (by decide)).mp (ax_gx hE (99, [23, 4020, 19]) (by decide))
  refine ⟨(fun y hy => by cases hy), _, List.mem_cons_self, ρ, fun _ _ => rfl, ax_px hE (by decide) (fun y hy => ?_)⟩
  cases List.mem_singleton.mp hy
  refine (ax_XF_lt (x := 48) (by decide)).mpr ?_
  show py_48 2 (pz_gt (ρ 0)) (pz_gN (ρ 0)) ((ρ 1) / 4) (ρ 2) (ρ 5)
  exact pr_sp3 F47 F99 (by decide) F44 F99a

theorem axq_sp2c47_0 : ax_RO ax_wC ax_XC axu_sp2c47_0 := by
  intro ρ hp hE hT
  have j0 : ρ 0 % 4 = 1 := pz_gj hE 0 (by decide) rfl
  have j1 : ρ 1 % 4 = 1 := pz_gj hE 1 (by decide) rfl
  have j2 : ρ 2 % 4 = 1 := pz_gj hE 2 (by decide) rfl
  have j3 : ρ 3 % 4 = 1 := pz_gj hE 3 (by decide) rfl
  have j4 : ρ 4 % 4 = 1 := pz_gj hE 4 (by decide) rfl
  obtain ⟨i5a, i5b, i5c, i5d⟩ := pz_gi hE 5 2147483695 2147483695 (by decide) rfl
  have c_kind : ay_at hp 8 7 = some (ρ 5) := ay_gfj hE 42 28 23 8 7 (by decide) (by rw [ax_vl_c (by decide)]) (by rw [ax_vl_c (by decide)])
  obtain ⟨-, -, -, -, F50⟩ : ay_ex hp 8 ∧ ay_ex hp 10 ∧ ay_ex hp 11 ∧ ay_ex hp 12 ∧ pz_x50 (ρ 0) (ρ 1) (ay_at hp 8 5) (ay_at hp 8 6) (ay_at hp 8 7) (ay_at hp 8 8) (ay_at hp 10 0) (ay_at hp 10 1) (ay_at hp 10 2) (ay_at hp 10 3) (ay_at hp 10 4) (ay_at hp 8 9) (ay_at hp 8 11) (ay_at hp 8 10) (ay_at hp 8 3) (ay_at hp 8 4) (ay_at hp 11) (ay_at hp 12) := (ax_XF_lt (by decide)).mp (ax_gx hE (50, [3, 7]) (by decide))
  rw [c_kind] at F50
  have F98 : (ρ 2) / 4 = (ρ 1) / 4 + 1 := (ax_XF_lt (by decide)).mp (ax_gx hE (98, [7, 11]) (by decide))
  have F78 : pz7 (pz_gt (ρ 0)) (pz_gN (ρ 0)) ((ρ 2) / 4) 8 := (ax_XF_lt (by decide)).mp (ax_gx hE (78, [3, 11]) (by decide))
  have F79 : pz7 (pz_gt (ρ 0)) (pz_gN (ρ 0)) ((ρ 1) / 4) 9 := (ax_XF_lt (by decide)).mp (ax_gx hE (79, [3, 7]) (by decide))
  have F48 : py_48 2 (pz_gt (ρ 0)) (pz_gN (ρ 0)) ((ρ 1) / 4) (ρ 3) (ρ 4) := (ax_XF_lt (by decide)).mp (ax_gx hE (48, [3, 7, 15, 19]) (by decide))
  have kd : ρ 5 / 4 = pz_kd (pz_gt (ρ 0)) (pz_gN (ρ 0)) (pz_p (pz_cf (pz_gt (ρ 0)) (pz_gN (ρ 0)) (ρ 1 / 4))) := F50.2.2.1
  rw [F98] at F78
  obtain ⟨ρ', h1, h2⟩ := pz_pn1 (K := ρ 3 / 4 * 4096 + 1006) (xf := [(46, [3, 11, 27, 19]), (99, [27, 4024, 15])]) hE (by decide) (fun ρ' h1 h2 x hx => by
    have q0 : ρ' 0 = ρ 0 := h1 0 (by decide)
    have q1 : ρ' 1 = ρ 1 := h1 1 (by decide)
    have q2 : ρ' 2 = ρ 2 := h1 2 (by decide)
    have q3 : ρ' 3 = ρ 3 := h1 3 (by decide)
    have q4 : ρ' 4 = ρ 4 := h1 4 (by decide)
    have q5 : ρ' 5 = ρ 5 := h1 5 (by decide)
    rcases List.mem_cons.mp hx with e | hx
    · subst e
      refine (ax_XF_lt (x := 46) (by decide)).mpr ?_
      show py_46 (pz_gt (ρ' 0)) (pz_gN (ρ' 0)) ((ρ' 2) / 4) (ρ' 6) (ρ' 4)
      rw [q0, q2, q4, h2]
      rw [F98]
      exact pr_op (q := 47) (c := 4024) (by decide) F79 (by omega) rfl F78 (by decide) (by decide) F48 ⟨pz_41 _, F48.2.1, by decide⟩
    cases List.mem_singleton.mp hx
    refine (ax_XF_lt (x := 99) (by decide)).mpr ?_
    show py_99 (ρ' 6) (4024) (ρ' 3)
    rw [q3, h2]
    exact ⟨pz_41 _, F48.2.1, by decide⟩)
  exact ⟨(fun y hy => by cases hy), _, List.mem_cons_self, ρ', h1, h2⟩

theorem axq_sp3c47_0 : ax_RO ax_wC ax_XC axu_sp3c47_0 := by
  intro ρ hp hE hT
  have j0 : ρ 0 % 4 = 1 := pz_gj hE 0 (by decide) rfl
  have j1 : ρ 1 % 4 = 1 := pz_gj hE 1 (by decide) rfl
  have j2 : ρ 2 % 4 = 1 := pz_gj hE 2 (by decide) rfl
  have j3 : ρ 3 % 4 = 1 := pz_gj hE 3 (by decide) rfl
  have j4 : ρ 4 % 4 = 1 := pz_gj hE 4 (by decide) rfl
  have j5 : ρ 5 % 4 = 1 := pz_gj hE 5 (by decide) rfl
  obtain ⟨i6a, i6b, i6c, i6d⟩ := pz_gi hE 6 2147483695 2147483695 (by decide) rfl
  obtain ⟨-, -, -, -, F50⟩ : ay_ex hp 8 ∧ ay_ex hp 10 ∧ ay_ex hp 11 ∧ ay_ex hp 12 ∧ pz_x50 (ρ 0) (ρ 1) (ay_at hp 8 5) (ay_at hp 8 6) (ay_at hp 8 7) (ay_at hp 8 8) (ay_at hp 10 0) (ay_at hp 10 1) (ay_at hp 10 2) (ay_at hp 10 3) (ay_at hp 10 4) (ay_at hp 8 9) (ay_at hp 8 11) (ay_at hp 8 10) (ay_at hp 8 3) (ay_at hp 8 4) (ay_at hp 11) (ay_at hp 12) := (ax_XF_lt (by decide)).mp (ax_gx hE (50, [3, 7]) (by decide))
  have F47 : py_47 (pz_gt (ρ 0)) (pz_gN (ρ 0)) ((ρ 1) / 4) (ρ 3) (ρ 4) := (ax_XF_lt (by decide)).mp (ax_gx hE (47, [3, 7, 15, 19]) (by decide))
  have F99 : py_99 (ρ 3) (4024) (ρ 2) := (ax_XF_lt (by decide)).mp (ax_gx hE (99, [15, 4024, 11]) (by decide))
  have F44 : py_44 2 (ρ 2) := (ax_XF_lt (by decide)).mp (ax_gx hE (44, [11]) (by decide))
  obtain ⟨-, -, -, F41⟩ : ay_ex hp 10 ∧ ay_ex hp 15 ∧ ay_ex hp 16 ∧ py_x41 (ρ 5) (ay_at hp 10 5) (ay_at hp 15) (ay_at hp 16) := (ax_XF_lt (by decide)).mp (ax_gx hE (41, [23]) (by decide))
  have F99a : py_99 (ρ 5) (4024) (ρ 4) := (ax_XF_lt (by decide)).mp (ax_gx hE (99, [23, 4024, 19]) (by decide))
  refine ⟨(fun y hy => by cases hy), _, List.mem_cons_self, ρ, fun _ _ => rfl, ax_px hE (by decide) (fun y hy => ?_)⟩
  cases List.mem_singleton.mp hy
  refine (ax_XF_lt (x := 48) (by decide)).mpr ?_
  show py_48 2 (pz_gt (ρ 0)) (pz_gN (ρ 0)) ((ρ 1) / 4) (ρ 2) (ρ 5)
  exact pr_sp3 F47 F99 (by decide) F44 F99a

theorem axq_sp2c37_0 : ax_RO ax_wC ax_XC axu_sp2c37_0 := by
  intro ρ hp hE hT
  have j0 : ρ 0 % 4 = 1 := pz_gj hE 0 (by decide) rfl
  have j1 : ρ 1 % 4 = 1 := pz_gj hE 1 (by decide) rfl
  have j2 : ρ 2 % 4 = 1 := pz_gj hE 2 (by decide) rfl
  have j3 : ρ 3 % 4 = 1 := pz_gj hE 3 (by decide) rfl
  have j4 : ρ 4 % 4 = 1 := pz_gj hE 4 (by decide) rfl
  obtain ⟨i5a, i5b, i5c, i5d⟩ := pz_gi hE 5 2147483685 2147483685 (by decide) rfl
  have c_kind : ay_at hp 8 7 = some (ρ 5) := ay_gfj hE 42 28 23 8 7 (by decide) (by rw [ax_vl_c (by decide)]) (by rw [ax_vl_c (by decide)])
  obtain ⟨-, -, -, -, F50⟩ : ay_ex hp 8 ∧ ay_ex hp 10 ∧ ay_ex hp 11 ∧ ay_ex hp 12 ∧ pz_x50 (ρ 0) (ρ 1) (ay_at hp 8 5) (ay_at hp 8 6) (ay_at hp 8 7) (ay_at hp 8 8) (ay_at hp 10 0) (ay_at hp 10 1) (ay_at hp 10 2) (ay_at hp 10 3) (ay_at hp 10 4) (ay_at hp 8 9) (ay_at hp 8 11) (ay_at hp 8 10) (ay_at hp 8 3) (ay_at hp 8 4) (ay_at hp 11) (ay_at hp 12) := (ax_XF_lt (by decide)).mp (ax_gx hE (50, [3, 7]) (by decide))
  rw [c_kind] at F50
  have F98 : (ρ 2) / 4 = (ρ 1) / 4 + 1 := (ax_XF_lt (by decide)).mp (ax_gx hE (98, [7, 11]) (by decide))
  have F78 : pz7 (pz_gt (ρ 0)) (pz_gN (ρ 0)) ((ρ 2) / 4) 8 := (ax_XF_lt (by decide)).mp (ax_gx hE (78, [3, 11]) (by decide))
  have F79 : pz7 (pz_gt (ρ 0)) (pz_gN (ρ 0)) ((ρ 1) / 4) 9 := (ax_XF_lt (by decide)).mp (ax_gx hE (79, [3, 7]) (by decide))
  have F48 : py_48 2 (pz_gt (ρ 0)) (pz_gN (ρ 0)) ((ρ 1) / 4) (ρ 3) (ρ 4) := (ax_XF_lt (by decide)).mp (ax_gx hE (48, [3, 7, 15, 19]) (by decide))
  have kd : ρ 5 / 4 = pz_kd (pz_gt (ρ 0)) (pz_gN (ρ 0)) (pz_p (pz_cf (pz_gt (ρ 0)) (pz_gN (ρ 0)) (ρ 1 / 4))) := F50.2.2.1
  rw [F98] at F78
  obtain ⟨ρ', h1, h2⟩ := pz_pn1 (K := ρ 3 / 4 * 4096 + 1007) (xf := [(46, [3, 11, 27, 19]), (99, [27, 4028, 15])]) hE (by decide) (fun ρ' h1 h2 x hx => by
    have q0 : ρ' 0 = ρ 0 := h1 0 (by decide)
    have q1 : ρ' 1 = ρ 1 := h1 1 (by decide)
    have q2 : ρ' 2 = ρ 2 := h1 2 (by decide)
    have q3 : ρ' 3 = ρ 3 := h1 3 (by decide)
    have q4 : ρ' 4 = ρ 4 := h1 4 (by decide)
    have q5 : ρ' 5 = ρ 5 := h1 5 (by decide)
    rcases List.mem_cons.mp hx with e | hx
    · subst e
      refine (ax_XF_lt (x := 46) (by decide)).mpr ?_
      show py_46 (pz_gt (ρ' 0)) (pz_gN (ρ' 0)) ((ρ' 2) / 4) (ρ' 6) (ρ' 4)
      rw [q0, q2, q4, h2]
      rw [F98]
      exact pr_op (q := 37) (c := 4028) (by decide) F79 (by omega) rfl F78 (by decide) (by decide) F48 ⟨pz_41 _, F48.2.1, by decide⟩
    cases List.mem_singleton.mp hx
    refine (ax_XF_lt (x := 99) (by decide)).mpr ?_
    show py_99 (ρ' 6) (4028) (ρ' 3)
    rw [q3, h2]
    exact ⟨pz_41 _, F48.2.1, by decide⟩)
  exact ⟨(fun y hy => by cases hy), _, List.mem_cons_self, ρ', h1, h2⟩

theorem axq_sp3c37_0 : ax_RO ax_wC ax_XC axu_sp3c37_0 := by
  intro ρ hp hE hT
  have j0 : ρ 0 % 4 = 1 := pz_gj hE 0 (by decide) rfl
  have j1 : ρ 1 % 4 = 1 := pz_gj hE 1 (by decide) rfl
  have j2 : ρ 2 % 4 = 1 := pz_gj hE 2 (by decide) rfl
  have j3 : ρ 3 % 4 = 1 := pz_gj hE 3 (by decide) rfl
  have j4 : ρ 4 % 4 = 1 := pz_gj hE 4 (by decide) rfl
  have j5 : ρ 5 % 4 = 1 := pz_gj hE 5 (by decide) rfl
  obtain ⟨i6a, i6b, i6c, i6d⟩ := pz_gi hE 6 2147483685 2147483685 (by decide) rfl
  obtain ⟨-, -, -, -, F50⟩ : ay_ex hp 8 ∧ ay_ex hp 10 ∧ ay_ex hp 11 ∧ ay_ex hp 12 ∧ pz_x50 (ρ 0) (ρ 1) (ay_at hp 8 5) (ay_at hp 8 6) (ay_at hp 8 7) (ay_at hp 8 8) (ay_at hp 10 0) (ay_at hp 10 1) (ay_at hp 10 2) (ay_at hp 10 3) (ay_at hp 10 4) (ay_at hp 8 9) (ay_at hp 8 11) (ay_at hp 8 10) (ay_at hp 8 3) (ay_at hp 8 4) (ay_at hp 11) (ay_at hp 12) := (ax_XF_lt (by decide)).mp (ax_gx hE (50, [3, 7]) (by decide))
  have F47 : py_47 (pz_gt (ρ 0)) (pz_gN (ρ 0)) ((ρ 1) / 4) (ρ 3) (ρ 4) := (ax_XF_lt (by decide)).mp (ax_gx hE (47, [3, 7, 15, 19]) (by decide))
  have F99 : py_99 (ρ 3) (4028) (ρ 2) := (ax_XF_lt (by decide)).mp (ax_gx hE (99, [15, 4028, 11]) (by decide))
  have F44 : py_44 2 (ρ 2) := (ax_XF_lt (by decide)).mp (ax_gx hE (44, [11]) (by decide))
  obtain ⟨-, -, -, F41⟩ : ay_ex hp 10 ∧ ay_ex hp 15 ∧ ay_ex hp 16 ∧ py_x41 (ρ 5) (ay_at hp 10 5) (ay_at hp 15) (ay_at hp 16) := (ax_XF_lt (by decide)).mp (ax_gx hE (41, [23]) (by decide))
  have F99a : py_99 (ρ 5) (4028) (ρ 4) := (ax_XF_lt (by decide)).mp (ax_gx hE (99, [23, 4028, 19]) (by decide))
  refine ⟨(fun y hy => by cases hy), _, List.mem_cons_self, ρ, fun _ _ => rfl, ax_px hE (by decide) (fun y hy => ?_)⟩
  cases List.mem_singleton.mp hy
  refine (ax_XF_lt (x := 48) (by decide)).mpr ?_
  show py_48 2 (pz_gt (ρ 0)) (pz_gN (ρ 0)) ((ρ 1) / 4) (ρ 2) (ρ 5)
  exact pr_sp3 F47 F99 (by decide) F44 F99a

theorem axq_spl_0 : ax_RO ax_wC ax_XC axu_spl_0 := by
  intro ρ hp hE hT
  have j0 : ρ 0 % 4 = 1 := pz_gj hE 0 (by decide) rfl
  have j1 : ρ 1 % 4 = 1 := pz_gj hE 1 (by decide) rfl
  have j2 : ρ 2 % 4 = 1 := pz_gj hE 2 (by decide) rfl
  have j3 : ρ 3 % 4 = 1 := pz_gj hE 3 (by decide) rfl
  obtain ⟨-, -, -, -, F50⟩ : ay_ex hp 8 ∧ ay_ex hp 10 ∧ ay_ex hp 11 ∧ ay_ex hp 12 ∧ pz_x50 (ρ 0) (ρ 1) (ay_at hp 8 5) (ay_at hp 8 6) (ay_at hp 8 7) (ay_at hp 8 8) (ay_at hp 10 0) (ay_at hp 10 1) (ay_at hp 10 2) (ay_at hp 10 3) (ay_at hp 10 4) (ay_at hp 8 9) (ay_at hp 8 11) (ay_at hp 8 10) (ay_at hp 8 3) (ay_at hp 8 4) (ay_at hp 11) (ay_at hp 12) := (ax_XF_lt (by decide)).mp (ax_gx hE (50, [3, 7]) (by decide))
  have F79 : pz7 (pz_gt (ρ 0)) (pz_gN (ρ 0)) ((ρ 1) / 4) 9 := (ax_XF_lt (by decide)).mp (ax_gx hE (79, [3, 7]) (by decide))
  have F47 : py_47 (pz_gt (ρ 0)) (pz_gN (ρ 0)) ((ρ 1) / 4) (ρ 2) (ρ 3) := (ax_XF_lt (by decide)).mp (ax_gx hE (47, [3, 7, 11, 15]) (by decide))
  refine ⟨(fun y hy => by cases hy), _, List.mem_cons_self, ρ, fun _ _ => rfl, ax_px hE (by decide) (fun y hy => ?_)⟩
  cases List.mem_singleton.mp hy
  refine (ax_XF_lt (x := 40) (by decide)).mpr ?_
  show py_40 (ρ 3)
  exact pr_l47 F79 (by decide) F47

theorem axq_sp1_1 : ax_RO ax_wC ax_XC axu_sp1_1 := by
  intro ρ hp hE hT
  have j0 : ρ 0 % 4 = 1 := pz_gj hE 0 (by decide) rfl
  have j1 : ρ 1 % 4 = 1 := pz_gj hE 1 (by decide) rfl
  have j2 : ρ 2 % 4 = 1 := pz_gj hE 2 (by decide) rfl
  have j3 : ρ 3 % 4 = 1 := pz_gj hE 3 (by decide) rfl
  obtain ⟨-, -, -, -, F50⟩ : ay_ex hp 8 ∧ ay_ex hp 10 ∧ ay_ex hp 11 ∧ ay_ex hp 12 ∧ pz_x50 (ρ 0) (ρ 1) (ay_at hp 8 5) (ay_at hp 8 6) (ay_at hp 8 7) (ay_at hp 8 8) (ay_at hp 10 0) (ay_at hp 10 1) (ay_at hp 10 2) (ay_at hp 10 3) (ay_at hp 10 4) (ay_at hp 8 9) (ay_at hp 8 11) (ay_at hp 8 10) (ay_at hp 8 3) (ay_at hp 8 4) (ay_at hp 11) (ay_at hp 12) := (ax_XF_lt (by decide)).mp (ax_gx hE (50, [3, 7]) (by decide))
  have F47 : py_47 (pz_gt (ρ 0)) (pz_gN (ρ 0)) ((ρ 1) / 4) (ρ 2) (ρ 3) := (ax_XF_lt (by decide)).mp (ax_gx hE (47, [3, 7, 11, 15]) (by decide))
  have F44 : py_44 2 (ρ 2) := (ax_XF_lt (by decide)).mp (ax_gx hE (44, [11]) (by decide))
  refine ⟨(fun y hy => by cases hy), _, List.mem_cons_self, ρ, fun _ _ => rfl, ax_px hE (by decide) (fun y hy => ?_)⟩
  cases List.mem_singleton.mp hy
  refine (ax_XF_lt (x := 48) (by decide)).mpr ?_
  show py_48 2 (pz_gt (ρ 0)) (pz_gN (ρ 0)) ((ρ 1) / 4) (ρ 2) (ρ 3)
  exact pr_sp1 F47 F44

theorem axq_sp2c42_1 : ax_RO ax_wC ax_XC axu_sp2c42_1 := by
  intro ρ hp hE hT
  have j0 : ρ 0 % 4 = 1 := pz_gj hE 0 (by decide) rfl
  have j1 : ρ 1 % 4 = 1 := pz_gj hE 1 (by decide) rfl
  have j2 : ρ 2 % 4 = 1 := pz_gj hE 2 (by decide) rfl
  have j3 : ρ 3 % 4 = 1 := pz_gj hE 3 (by decide) rfl
  have j4 : ρ 4 % 4 = 1 := pz_gj hE 4 (by decide) rfl
  obtain ⟨i5a, i5b, i5c, i5d⟩ := pz_gi hE 5 2147483690 2147483690 (by decide) rfl
  have c_kind : ay_at hp 8 7 = some (ρ 5) := ay_gfj hE 42 28 23 8 7 (by decide) (by rw [ax_vl_c (by decide)]) (by rw [ax_vl_c (by decide)])
  obtain ⟨-, -, -, -, F50⟩ : ay_ex hp 8 ∧ ay_ex hp 10 ∧ ay_ex hp 11 ∧ ay_ex hp 12 ∧ pz_x50 (ρ 0) (ρ 1) (ay_at hp 8 5) (ay_at hp 8 6) (ay_at hp 8 7) (ay_at hp 8 8) (ay_at hp 10 0) (ay_at hp 10 1) (ay_at hp 10 2) (ay_at hp 10 3) (ay_at hp 10 4) (ay_at hp 8 9) (ay_at hp 8 11) (ay_at hp 8 10) (ay_at hp 8 3) (ay_at hp 8 4) (ay_at hp 11) (ay_at hp 12) := (ax_XF_lt (by decide)).mp (ax_gx hE (50, [3, 7]) (by decide))
  rw [c_kind] at F50
  have F98 : (ρ 2) / 4 = (ρ 1) / 4 + 1 := (ax_XF_lt (by decide)).mp (ax_gx hE (98, [7, 11]) (by decide))
  have F78 : pz7 (pz_gt (ρ 0)) (pz_gN (ρ 0)) ((ρ 2) / 4) 8 := (ax_XF_lt (by decide)).mp (ax_gx hE (78, [3, 11]) (by decide))
  have F79 : pz7 (pz_gt (ρ 0)) (pz_gN (ρ 0)) ((ρ 1) / 4) 9 := (ax_XF_lt (by decide)).mp (ax_gx hE (79, [3, 7]) (by decide))
  have F48 : py_48 2 (pz_gt (ρ 0)) (pz_gN (ρ 0)) ((ρ 1) / 4) (ρ 3) (ρ 4) := (ax_XF_lt (by decide)).mp (ax_gx hE (48, [3, 7, 15, 19]) (by decide))
  have kd : ρ 5 / 4 = pz_kd (pz_gt (ρ 0)) (pz_gN (ρ 0)) (pz_p (pz_cf (pz_gt (ρ 0)) (pz_gN (ρ 0)) (ρ 1 / 4))) := F50.2.2.1
  rw [F98] at F78
  obtain ⟨ρ', h1, h2⟩ := pz_pn1 (K := ρ 3 / 4 * 4096 + 1005) (xf := [(46, [3, 11, 27, 19]), (99, [27, 4020, 15])]) hE (by decide) (fun ρ' h1 h2 x hx => by
    have q0 : ρ' 0 = ρ 0 := h1 0 (by decide)
    have q1 : ρ' 1 = ρ 1 := h1 1 (by decide)
    have q2 : ρ' 2 = ρ 2 := h1 2 (by decide)
    have q3 : ρ' 3 = ρ 3 := h1 3 (by decide)
    have q4 : ρ' 4 = ρ 4 := h1 4 (by decide)
    have q5 : ρ' 5 = ρ 5 := h1 5 (by decide)
    rcases List.mem_cons.mp hx with e | hx
    · subst e
      refine (ax_XF_lt (x := 46) (by decide)).mpr ?_
      show py_46 (pz_gt (ρ' 0)) (pz_gN (ρ' 0)) ((ρ' 2) / 4) (ρ' 6) (ρ' 4)
      rw [q0, q2, q4, h2]
      rw [F98]
      exact pr_op (q := 42) (c := 4020) (by decide) F79 (by omega) rfl F78 (by decide) (by decide) F48 ⟨pz_41 _, F48.2.1, by decide⟩
    cases List.mem_singleton.mp hx
    refine (ax_XF_lt (x := 99) (by decide)).mpr ?_
    show py_99 (ρ' 6) (4020) (ρ' 3)
    rw [q3, h2]
    exact ⟨pz_41 _, F48.2.1, by decide⟩)
  exact ⟨(fun y hy => by cases hy), _, List.mem_cons_self, ρ', h1, h2⟩

theorem axq_sp3c42_1 : ax_RO ax_wC ax_XC axu_sp3c42_1 := by
  intro ρ hp hE hT
  have j0 : ρ 0 % 4 = 1 := pz_gj hE 0 (by decide) rfl
  have j1 : ρ 1 % 4 = 1 := pz_gj hE 1 (by decide) rfl
  have j2 : ρ 2 % 4 = 1 := pz_gj hE 2 (by decide) rfl
  have j3 : ρ 3 % 4 = 1 := pz_gj hE 3 (by decide) rfl
  have j4 : ρ 4 % 4 = 1 := pz_gj hE 4 (by decide) rfl
  have j5 : ρ 5 % 4 = 1 := pz_gj hE 5 (by decide) rfl
  obtain ⟨i6a, i6b, i6c, i6d⟩ := pz_gi hE 6 2147483690 2147483690 (by decide) rfl
  obtain ⟨-, -, -, -, F50⟩ : ay_ex hp 8 ∧ ay_ex hp 10 ∧ ay_ex hp 11 ∧ ay_ex hp 12 ∧ pz_x50 (ρ 0) (ρ 1) (ay_at hp 8 5) (ay_at hp 8 6) (ay_at hp 8 7) (ay_at hp 8 8) (ay_at hp 10 0) (ay_at hp 10 1) (ay_at hp 10 2) (ay_at hp 10 3) (ay_at hp 10 4) (ay_at hp 8 9) (ay_at hp 8 11) (ay_at hp 8 10) (ay_at hp 8 3) (ay_at hp 8 4) (ay_at hp 11) (ay_at hp 12) := (ax_XF_lt (by decide)).mp (ax_gx hE (50, [3, 7]) (by decide))
  have F47 : py_47 (pz_gt (ρ 0)) (pz_gN (ρ 0)) ((ρ 1) / 4) (ρ 3) (ρ 4) := (ax_XF_lt (by decide)).mp (ax_gx hE (47, [3, 7, 15, 19]) (by decide))
  have F99 : py_99 (ρ 3) (4020) (ρ 2) := (ax_XF_lt (by decide)).mp (ax_gx hE (99, [15, 4020, 11]) (by decide))
  have F44 : py_44 2 (ρ 2) := (ax_XF_lt (by decide)).mp (ax_gx hE (44, [11]) (by decide))
  obtain ⟨-, -, -, F41⟩ : ay_ex hp 10 ∧ ay_ex hp 15 ∧ ay_ex hp 16 ∧ py_x41 (ρ 5) (ay_at hp 10 5) (ay_at hp 15) (ay_at hp 16) := (ax_XF_lt (by decide)).mp (ax_gx hE (41, [23]) (by decide))
  have F99a : py_99 (ρ 5) (4020) (ρ 4) := (ax_XF_lt (by decide)).mp (ax_gx hE (99, [23, 4020, 19]) (by decide))
  refine ⟨(fun y hy => by cases hy), _, List.mem_cons_self, ρ, fun _ _ => rfl, ax_px hE (by decide) (fun y hy => ?_)⟩
  cases List.mem_singleton.mp hy
  refine (ax_XF_lt (x := 48) (by decide)).mpr ?_
  show py_48 2 (pz_gt (ρ 0)) (pz_gN (ρ 0)) ((ρ 1) / 4) (ρ 2) (ρ 5)
  exact pr_sp3 F47 F99 (by decide) F44 F99a

theorem axq_sp2c47_1 : ax_RO ax_wC ax_XC axu_sp2c47_1 := by
  intro ρ hp hE hT
  have j0 : ρ 0 % 4 = 1 := pz_gj hE 0 (by decide) rfl
  have j1 : ρ 1 % 4 = 1 := pz_gj hE 1 (by decide) rfl
  have j2 : ρ 2 % 4 = 1 := pz_gj hE 2 (by decide) rfl
  have j3 : ρ 3 % 4 = 1 := pz_gj hE 3 (by decide) rfl
  have j4 : ρ 4 % 4 = 1 := pz_gj hE 4 (by decide) rfl
  obtain ⟨i5a, i5b, i5c, i5d⟩ := pz_gi hE 5 2147483695 2147483695 (by decide) rfl
  have c_kind : ay_at hp 8 7 = some (ρ 5) := ay_gfj hE 42 28 23 8 7 (by decide) (by rw [ax_vl_c (by decide)]) (by rw [ax_vl_c (by decide)])
  obtain ⟨-, -, -, -, F50⟩ : ay_ex hp 8 ∧ ay_ex hp 10 ∧ ay_ex hp 11 ∧ ay_ex hp 12 ∧ pz_x50 (ρ 0) (ρ 1) (ay_at hp 8 5) (ay_at hp 8 6) (ay_at hp 8 7) (ay_at hp 8 8) (ay_at hp 10 0) (ay_at hp 10 1) (ay_at hp 10 2) (ay_at hp 10 3) (ay_at hp 10 4) (ay_at hp 8 9) (ay_at hp 8 11) (ay_at hp 8 10) (ay_at hp 8 3) (ay_at hp 8 4) (ay_at hp 11) (ay_at hp 12) := (ax_XF_lt (by decide)).mp (ax_gx hE (50, [3, 7]) (by decide))
  rw [c_kind] at F50
  have F98 : (ρ 2) / 4 = (ρ 1) / 4 + 1 := (ax_XF_lt (by decide)).mp (ax_gx hE (98, [7, 11]) (by decide))
  have F78 : pz7 (pz_gt (ρ 0)) (pz_gN (ρ 0)) ((ρ 2) / 4) 8 := (ax_XF_lt (by decide)).mp (ax_gx hE (78, [3, 11]) (by decide))
  have F79 : pz7 (pz_gt (ρ 0)) (pz_gN (ρ 0)) ((ρ 1) / 4) 9 := (ax_XF_lt (by decide)).mp (ax_gx hE (79, [3, 7]) (by decide))
  have F48 : py_48 2 (pz_gt (ρ 0)) (pz_gN (ρ 0)) ((ρ 1) / 4) (ρ 3) (ρ 4) := (ax_XF_lt (by decide)).mp (ax_gx hE (48, [3, 7, 15, 19]) (by decide))
  have kd : ρ 5 / 4 = pz_kd (pz_gt (ρ 0)) (pz_gN (ρ 0)) (pz_p (pz_cf (pz_gt (ρ 0)) (pz_gN (ρ 0)) (ρ 1 / 4))) := F50.2.2.1
  rw [F98] at F78
  obtain ⟨ρ', h1, h2⟩ := pz_pn1 (K := ρ 3 / 4 * 4096 + 1006) (xf := [(46, [3, 11, 27, 19]), (99, [27, 4024, 15])]) hE (by decide) (fun ρ' h1 h2 x hx => by
    have q0 : ρ' 0 = ρ 0 := h1 0 (by decide)
    have q1 : ρ' 1 = ρ 1 := h1 1 (by decide)
    have q2 : ρ' 2 = ρ 2 := h1 2 (by decide)
    have q3 : ρ' 3 = ρ 3 := h1 3 (by decide)
    have q4 : ρ' 4 = ρ 4 := h1 4 (by decide)
    have q5 : ρ' 5 = ρ 5 := h1 5 (by decide)
    rcases List.mem_cons.mp hx with e | hx
    · subst e
      refine (ax_XF_lt (x := 46) (by decide)).mpr ?_
      show py_46 (pz_gt (ρ' 0)) (pz_gN (ρ' 0)) ((ρ' 2) / 4) (ρ' 6) (ρ' 4)
      rw [q0, q2, q4, h2]
      rw [F98]
      exact pr_op (q := 47) (c := 4024) (by decide) F79 (by omega) rfl F78 (by decide) (by decide) F48 ⟨pz_41 _, F48.2.1, by decide⟩
    cases List.mem_singleton.mp hx
    refine (ax_XF_lt (x := 99) (by decide)).mpr ?_
    show py_99 (ρ' 6) (4024) (ρ' 3)
    rw [q3, h2]
    exact ⟨pz_41 _, F48.2.1, by decide⟩)
  exact ⟨(fun y hy => by cases hy), _, List.mem_cons_self, ρ', h1, h2⟩

theorem axq_sp3c47_1 : ax_RO ax_wC ax_XC axu_sp3c47_1 := by
  intro ρ hp hE hT
  have j0 : ρ 0 % 4 = 1 := pz_gj hE 0 (by decide) rfl
  have j1 : ρ 1 % 4 = 1 := pz_gj hE 1 (by decide) rfl
  have j2 : ρ 2 % 4 = 1 := pz_gj hE 2 (by decide) rfl
  have j3 : ρ 3 % 4 = 1 := pz_gj hE 3 (by decide) rfl
  have j4 : ρ 4 % 4 = 1 := pz_gj hE 4 (by decide) rfl
  have j5 : ρ 5 % 4 = 1 := pz_gj hE 5 (by decide) rfl
  obtain ⟨i6a, i6b, i6c, i6d⟩ := pz_gi hE 6 2147483695 2147483695 (by decide) rfl
  obtain ⟨-, -, -, -, F50⟩ : ay_ex hp 8 ∧ ay_ex hp 10 ∧ ay_ex hp 11 ∧ ay_ex hp 12 ∧ pz_x50 (ρ 0) (ρ 1) (ay_at hp 8 5) (ay_at hp 8 6) (ay_at hp 8 7) (ay_at hp 8 8) (ay_at hp 10 0) (ay_at hp 10 1) (ay_at hp 10 2) (ay_at hp 10 3) (ay_at hp 10 4) (ay_at hp 8 9) (ay_at hp 8 11) (ay_at hp 8 10) (ay_at hp 8 3) (ay_at hp 8 4) (ay_at hp 11) (ay_at hp 12) := (ax_XF_lt (by decide)).mp (ax_gx hE (50, [3, 7]) (by decide))
  have F47 : py_47 (pz_gt (ρ 0)) (pz_gN (ρ 0)) ((ρ 1) / 4) (ρ 3) (ρ 4) := (ax_XF_lt (by decide)).mp (ax_gx hE (47, [3, 7, 15, 19]) (by decide))
  have F99 : py_99 (ρ 3) (4024) (ρ 2) := (ax_XF_lt (by decide)).mp (ax_gx hE (99, [15, 4024, 11]) (by decide))
  have F44 : py_44 2 (ρ 2) := (ax_XF_lt (by decide)).mp (ax_gx hE (44, [11]) (by decide))
  obtain ⟨-, -, -, F41⟩ : ay_ex hp 10 ∧ ay_ex hp 15 ∧ ay_ex hp 16 ∧ py_x41 (ρ 5) (ay_at hp 10 5) (ay_at hp 15) (ay_at hp 16) := (ax_XF_lt (by decide)).mp (ax_gx hE (41, [23]) (by decide))
  have F99a : py_99 (ρ 5) (4024) (ρ 4) := (ax_XF_lt (by decide)).mp (ax_gx hE (99, [23, 4024, 19]) (by decide))
  refine ⟨(fun y hy => by cases hy), _, List.mem_cons_self, ρ, fun _ _ => rfl, ax_px hE (by decide) (fun y hy => ?_)⟩
  cases List.mem_singleton.mp hy
  refine (ax_XF_lt (x := 48) (by decide)).mpr ?_
  show py_48 2 (pz_gt (ρ 0)) (pz_gN (ρ 0)) ((ρ 1) / 4) (ρ 2) (ρ 5)
  exact pr_sp3 F47 F99 (by decide) F44 F99a

theorem axq_sp2c37_1 : ax_RO ax_wC ax_XC axu_sp2c37_1 := by
  intro ρ hp hE hT
  have j0 : ρ 0 % 4 = 1 := pz_gj hE 0 (by decide) rfl
  have j1 : ρ 1 % 4 = 1 := pz_gj hE 1 (by decide) rfl
  have j2 : ρ 2 % 4 = 1 := pz_gj hE 2 (by decide) rfl
  have j3 : ρ 3 % 4 = 1 := pz_gj hE 3 (by decide) rfl
  have j4 : ρ 4 % 4 = 1 := pz_gj hE 4 (by decide) rfl
  obtain ⟨i5a, i5b, i5c, i5d⟩ := pz_gi hE 5 2147483685 2147483685 (by decide) rfl
  have c_kind : ay_at hp 8 7 = some (ρ 5) := ay_gfj hE 42 28 23 8 7 (by decide) (by rw [ax_vl_c (by decide)]) (by rw [ax_vl_c (by decide)])
  obtain ⟨-, -, -, -, F50⟩ : ay_ex hp 8 ∧ ay_ex hp 10 ∧ ay_ex hp 11 ∧ ay_ex hp 12 ∧ pz_x50 (ρ 0) (ρ 1) (ay_at hp 8 5) (ay_at hp 8 6) (ay_at hp 8 7) (ay_at hp 8 8) (ay_at hp 10 0) (ay_at hp 10 1) (ay_at hp 10 2) (ay_at hp 10 3) (ay_at hp 10 4) (ay_at hp 8 9) (ay_at hp 8 11) (ay_at hp 8 10) (ay_at hp 8 3) (ay_at hp 8 4) (ay_at hp 11) (ay_at hp 12) := (ax_XF_lt (by decide)).mp (ax_gx hE (50, [3, 7]) (by decide))
  rw [c_kind] at F50
  have F98 : (ρ 2) / 4 = (ρ 1) / 4 + 1 := (ax_XF_lt (by decide)).mp (ax_gx hE (98, [7, 11]) (by decide))
  have F78 : pz7 (pz_gt (ρ 0)) (pz_gN (ρ 0)) ((ρ 2) / 4) 8 := (ax_XF_lt (by decide)).mp (ax_gx hE (78, [3, 11]) (by decide))
  have F79 : pz7 (pz_gt (ρ 0)) (pz_gN (ρ 0)) ((ρ 1) / 4) 9 := (ax_XF_lt (by decide)).mp (ax_gx hE (79, [3, 7]) (by decide))
  have F48 : py_48 2 (pz_gt (ρ 0)) (pz_gN (ρ 0)) ((ρ 1) / 4) (ρ 3) (ρ 4) := (ax_XF_lt (by decide)).mp (ax_gx hE (48, [3, 7, 15, 19]) (by decide))
  have kd : ρ 5 / 4 = pz_kd (pz_gt (ρ 0)) (pz_gN (ρ 0)) (pz_p (pz_cf (pz_gt (ρ 0)) (pz_gN (ρ 0)) (ρ 1 / 4))) := F50.2.2.1
  rw [F98] at F78
  obtain ⟨ρ', h1, h2⟩ := pz_pn1 (K := ρ 3 / 4 * 4096 + 1007) (xf := [(46, [3, 11, 27, 19]), (99, [27, 4028, 15])]) hE (by decide) (fun ρ' h1 h2 x hx => by
    have q0 : ρ' 0 = ρ 0 := h1 0 (by decide)
    have q1 : ρ' 1 = ρ 1 := h1 1 (by decide)
    have q2 : ρ' 2 = ρ 2 := h1 2 (by decide)
    have q3 : ρ' 3 = ρ 3 := h1 3 (by decide)
    have q4 : ρ' 4 = ρ 4 := h1 4 (by decide)
    have q5 : ρ' 5 = ρ 5 := h1 5 (by decide)
    rcases List.mem_cons.mp hx with e | hx
    · subst e
      refine (ax_XF_lt (x := 46) (by decide)).mpr ?_
      show py_46 (pz_gt (ρ' 0)) (pz_gN (ρ' 0)) ((ρ' 2) / 4) (ρ' 6) (ρ' 4)
      rw [q0, q2, q4, h2]
      rw [F98]
      exact pr_op (q := 37) (c := 4028) (by decide) F79 (by omega) rfl F78 (by decide) (by decide) F48 ⟨pz_41 _, F48.2.1, by decide⟩
    cases List.mem_singleton.mp hx
    refine (ax_XF_lt (x := 99) (by decide)).mpr ?_
    show py_99 (ρ' 6) (4028) (ρ' 3)
    rw [q3, h2]
    exact ⟨pz_41 _, F48.2.1, by decide⟩)
  exact ⟨(fun y hy => by cases hy), _, List.mem_cons_self, ρ', h1, h2⟩

theorem axq_sp3c37_1 : ax_RO ax_wC ax_XC axu_sp3c37_1 := by
  intro ρ hp hE hT
  have j0 : ρ 0 % 4 = 1 := pz_gj hE 0 (by decide) rfl
  have j1 : ρ 1 % 4 = 1 := pz_gj hE 1 (by decide) rfl
  have j2 : ρ 2 % 4 = 1 := pz_gj hE 2 (by decide) rfl
  have j3 : ρ 3 % 4 = 1 := pz_gj hE 3 (by decide) rfl
  have j4 : ρ 4 % 4 = 1 := pz_gj hE 4 (by decide) rfl
  have j5 : ρ 5 % 4 = 1 := pz_gj hE 5 (by decide) rfl
  obtain ⟨i6a, i6b, i6c, i6d⟩ := pz_gi hE 6 2147483685 2147483685 (by decide) rfl
  obtain ⟨-, -, -, -, F50⟩ : ay_ex hp 8 ∧ ay_ex hp 10 ∧ ay_ex hp 11 ∧ ay_ex hp 12 ∧ pz_x50 (ρ 0) (ρ 1) (ay_at hp 8 5) (ay_at hp 8 6) (ay_at hp 8 7) (ay_at hp 8 8) (ay_at hp 10 0) (ay_at hp 10 1) (ay_at hp 10 2) (ay_at hp 10 3) (ay_at hp 10 4) (ay_at hp 8 9) (ay_at hp 8 11) (ay_at hp 8 10) (ay_at hp 8 3) (ay_at hp 8 4) (ay_at hp 11) (ay_at hp 12) := (ax_XF_lt (by decide)).mp (ax_gx hE (50, [3, 7]) (by decide))
  have F47 : py_47 (pz_gt (ρ 0)) (pz_gN (ρ 0)) ((ρ 1) / 4) (ρ 3) (ρ 4) := (ax_XF_lt (by decide)).mp (ax_gx hE (47, [3, 7, 15, 19]) (by decide))
  have F99 : py_99 (ρ 3) (4028) (ρ 2) := (ax_XF_lt (by decide)).mp (ax_gx hE (99, [15, 4028, 11]) (by decide))
  have F44 : py_44 2 (ρ 2) := (ax_XF_lt (by decide)).mp (ax_gx hE (44, [11]) (by decide))
  obtain ⟨-, -, -, F41⟩ : ay_ex hp 10 ∧ ay_ex hp 15 ∧ ay_ex hp 16 ∧ py_x41 (ρ 5) (ay_at hp 10 5) (ay_at hp 15) (ay_at hp 16) := (ax_XF_lt (by decide)).mp (ax_gx hE (41, [23]) (by decide))
  have F99a : py_99 (ρ 5) (4028) (ρ 4) := (ax_XF_lt (by decide)).mp (ax_gx hE (99, [23, 4028, 19]) (by decide))
  refine ⟨(fun y hy => by cases hy), _, List.mem_cons_self, ρ, fun _ _ => rfl, ax_px hE (by decide) (fun y hy => ?_)⟩
  cases List.mem_singleton.mp hy
  refine (ax_XF_lt (x := 48) (by decide)).mpr ?_
  show py_48 2 (pz_gt (ρ 0)) (pz_gN (ρ 0)) ((ρ 1) / 4) (ρ 2) (ρ 5)
  exact pr_sp3 F47 F99 (by decide) F44 F99a

theorem axq_spl_1 : ax_RO ax_wC ax_XC axu_spl_1 := by
  intro ρ hp hE hT
  have j0 : ρ 0 % 4 = 1 := pz_gj hE 0 (by decide) rfl
  have j1 : ρ 1 % 4 = 1 := pz_gj hE 1 (by decide) rfl
  have j2 : ρ 2 % 4 = 1 := pz_gj hE 2 (by decide) rfl
  have j3 : ρ 3 % 4 = 1 := pz_gj hE 3 (by decide) rfl
  obtain ⟨-, -, -, -, F50⟩ : ay_ex hp 8 ∧ ay_ex hp 10 ∧ ay_ex hp 11 ∧ ay_ex hp 12 ∧ pz_x50 (ρ 0) (ρ 1) (ay_at hp 8 5) (ay_at hp 8 6) (ay_at hp 8 7) (ay_at hp 8 8) (ay_at hp 10 0) (ay_at hp 10 1) (ay_at hp 10 2) (ay_at hp 10 3) (ay_at hp 10 4) (ay_at hp 8 9) (ay_at hp 8 11) (ay_at hp 8 10) (ay_at hp 8 3) (ay_at hp 8 4) (ay_at hp 11) (ay_at hp 12) := (ax_XF_lt (by decide)).mp (ax_gx hE (50, [3, 7]) (by decide))
  have F79 : pz7 (pz_gt (ρ 0)) (pz_gN (ρ 0)) ((ρ 1) / 4) 9 := (ax_XF_lt (by decide)).mp (ax_gx hE (79, [3, 7]) (by decide))
  have F47 : py_47 (pz_gt (ρ 0)) (pz_gN (ρ 0)) ((ρ 1) / 4) (ρ 2) (ρ 3) := (ax_XF_lt (by decide)).mp (ax_gx hE (47, [3, 7, 11, 15]) (by decide))
  refine ⟨(fun y hy => by cases hy), _, List.mem_cons_self, ρ, fun _ _ => rfl, ax_px hE (by decide) (fun y hy => ?_)⟩
  cases List.mem_singleton.mp hy
  refine (ax_XF_lt (x := 40) (by decide)).mpr ?_
  show py_40 (ρ 3)
  exact pr_l47 F79 (by decide) F47

theorem axq_sp1_2 : ax_RO ax_wC ax_XC axu_sp1_2 := by
  intro ρ hp hE hT
  have j0 : ρ 0 % 4 = 1 := pz_gj hE 0 (by decide) rfl
  have j1 : ρ 1 % 4 = 1 := pz_gj hE 1 (by decide) rfl
  have j2 : ρ 2 % 4 = 1 := pz_gj hE 2 (by decide) rfl
  have j3 : ρ 3 % 4 = 1 := pz_gj hE 3 (by decide) rfl
  obtain ⟨-, -, -, -, F50⟩ : ay_ex hp 8 ∧ ay_ex hp 10 ∧ ay_ex hp 11 ∧ ay_ex hp 12 ∧ pz_x50 (ρ 0) (ρ 1) (ay_at hp 8 5) (ay_at hp 8 6) (ay_at hp 8 7) (ay_at hp 8 8) (ay_at hp 10 0) (ay_at hp 10 1) (ay_at hp 10 2) (ay_at hp 10 3) (ay_at hp 10 4) (ay_at hp 8 9) (ay_at hp 8 11) (ay_at hp 8 10) (ay_at hp 8 3) (ay_at hp 8 4) (ay_at hp 11) (ay_at hp 12) := (ax_XF_lt (by decide)).mp (ax_gx hE (50, [3, 7]) (by decide))
  have F47 : py_47 (pz_gt (ρ 0)) (pz_gN (ρ 0)) ((ρ 1) / 4) (ρ 2) (ρ 3) := (ax_XF_lt (by decide)).mp (ax_gx hE (47, [3, 7, 11, 15]) (by decide))
  have F44 : py_44 2 (ρ 2) := (ax_XF_lt (by decide)).mp (ax_gx hE (44, [11]) (by decide))
  refine ⟨(fun y hy => by cases hy), _, List.mem_cons_self, ρ, fun _ _ => rfl, ax_px hE (by decide) (fun y hy => ?_)⟩
  cases List.mem_singleton.mp hy
  refine (ax_XF_lt (x := 48) (by decide)).mpr ?_
  show py_48 2 (pz_gt (ρ 0)) (pz_gN (ρ 0)) ((ρ 1) / 4) (ρ 2) (ρ 3)
  exact pr_sp1 F47 F44

theorem axq_sp2c42_2 : ax_RO ax_wC ax_XC axu_sp2c42_2 := by
  intro ρ hp hE hT
  have j0 : ρ 0 % 4 = 1 := pz_gj hE 0 (by decide) rfl
  have j1 : ρ 1 % 4 = 1 := pz_gj hE 1 (by decide) rfl
  have j2 : ρ 2 % 4 = 1 := pz_gj hE 2 (by decide) rfl
  have j3 : ρ 3 % 4 = 1 := pz_gj hE 3 (by decide) rfl
  have j4 : ρ 4 % 4 = 1 := pz_gj hE 4 (by decide) rfl
  obtain ⟨i5a, i5b, i5c, i5d⟩ := pz_gi hE 5 2147483690 2147483690 (by decide) rfl
  have c_kind : ay_at hp 8 7 = some (ρ 5) := ay_gfj hE 42 28 23 8 7 (by decide) (by rw [ax_vl_c (by decide)]) (by rw [ax_vl_c (by decide)])
  obtain ⟨-, -, -, -, F50⟩ : ay_ex hp 8 ∧ ay_ex hp 10 ∧ ay_ex hp 11 ∧ ay_ex hp 12 ∧ pz_x50 (ρ 0) (ρ 1) (ay_at hp 8 5) (ay_at hp 8 6) (ay_at hp 8 7) (ay_at hp 8 8) (ay_at hp 10 0) (ay_at hp 10 1) (ay_at hp 10 2) (ay_at hp 10 3) (ay_at hp 10 4) (ay_at hp 8 9) (ay_at hp 8 11) (ay_at hp 8 10) (ay_at hp 8 3) (ay_at hp 8 4) (ay_at hp 11) (ay_at hp 12) := (ax_XF_lt (by decide)).mp (ax_gx hE (50, [3, 7]) (by decide))
  rw [c_kind] at F50
  have F98 : (ρ 2) / 4 = (ρ 1) / 4 + 1 := (ax_XF_lt (by decide)).mp (ax_gx hE (98, [7, 11]) (by decide))
  have F78 : pz7 (pz_gt (ρ 0)) (pz_gN (ρ 0)) ((ρ 2) / 4) 8 := (ax_XF_lt (by decide)).mp (ax_gx hE (78, [3, 11]) (by decide))
  have F79 : pz7 (pz_gt (ρ 0)) (pz_gN (ρ 0)) ((ρ 1) / 4) 9 := (ax_XF_lt (by decide)).mp (ax_gx hE (79, [3, 7]) (by decide))
  have F48 : py_48 2 (pz_gt (ρ 0)) (pz_gN (ρ 0)) ((ρ 1) / 4) (ρ 3) (ρ 4) := (ax_XF_lt (by decide)).mp (ax_gx hE (48, [3, 7, 15, 19]) (by decide))
  have kd : ρ 5 / 4 = pz_kd (pz_gt (ρ 0)) (pz_gN (ρ 0)) (pz_p (pz_cf (pz_gt (ρ 0)) (pz_gN (ρ 0)) (ρ 1 / 4))) := F50.2.2.1
  rw [F98] at F78
  obtain ⟨ρ', h1, h2⟩ := pz_pn1 (K := ρ 3 / 4 * 4096 + 1005) (xf := [(46, [3, 11, 27, 19]), (99, [27, 4020, 15])]) hE (by decide) (fun ρ' h1 h2 x hx => by
    have q0 : ρ' 0 = ρ 0 := h1 0 (by decide)
    have q1 : ρ' 1 = ρ 1 := h1 1 (by decide)
    have q2 : ρ' 2 = ρ 2 := h1 2 (by decide)
    have q3 : ρ' 3 = ρ 3 := h1 3 (by decide)
    have q4 : ρ' 4 = ρ 4 := h1 4 (by decide)
    have q5 : ρ' 5 = ρ 5 := h1 5 (by decide)
    rcases List.mem_cons.mp hx with e | hx
    · subst e
      refine (ax_XF_lt (x := 46) (by decide)).mpr ?_
      show py_46 (pz_gt (ρ' 0)) (pz_gN (ρ' 0)) ((ρ' 2) / 4) (ρ' 6) (ρ' 4)
      rw [q0, q2, q4, h2]
      rw [F98]
      exact pr_op (q := 42) (c := 4020) (by decide) F79 (by omega) rfl F78 (by decide) (by decide) F48 ⟨pz_41 _, F48.2.1, by decide⟩
    cases List.mem_singleton.mp hx
    refine (ax_XF_lt (x := 99) (by decide)).mpr ?_
    show py_99 (ρ' 6) (4020) (ρ' 3)
    rw [q3, h2]
    exact ⟨pz_41 _, F48.2.1, by decide⟩)
  exact ⟨(fun y hy => by cases hy), _, List.mem_cons_self, ρ', h1, h2⟩

theorem axq_sp3c42_2 : ax_RO ax_wC ax_XC axu_sp3c42_2 := by
  intro ρ hp hE hT
  have j0 : ρ 0 % 4 = 1 := pz_gj hE 0 (by decide) rfl
  have j1 : ρ 1 % 4 = 1 := pz_gj hE 1 (by decide) rfl
  have j2 : ρ 2 % 4 = 1 := pz_gj hE 2 (by decide) rfl
  have j3 : ρ 3 % 4 = 1 := pz_gj hE 3 (by decide) rfl
  have j4 : ρ 4 % 4 = 1 := pz_gj hE 4 (by decide) rfl
  have j5 : ρ 5 % 4 = 1 := pz_gj hE 5 (by decide) rfl
  obtain ⟨i6a, i6b, i6c, i6d⟩ := pz_gi hE 6 2147483690 2147483690 (by decide) rfl
  obtain ⟨-, -, -, -, F50⟩ : ay_ex hp 8 ∧ ay_ex hp 10 ∧ ay_ex hp 11 ∧ ay_ex hp 12 ∧ pz_x50 (ρ 0) (ρ 1) (ay_at hp 8 5) (ay_at hp 8 6) (ay_at hp 8 7) (ay_at hp 8 8) (ay_at hp 10 0) (ay_at hp 10 1) (ay_at hp 10 2) (ay_at hp 10 3) (ay_at hp 10 4) (ay_at hp 8 9) (ay_at hp 8 11) (ay_at hp 8 10) (ay_at hp 8 3) (ay_at hp 8 4) (ay_at hp 11) (ay_at hp 12) := (ax_XF_lt (by decide)).mp (ax_gx hE (50, [3, 7]) (by decide))
  have F47 : py_47 (pz_gt (ρ 0)) (pz_gN (ρ 0)) ((ρ 1) / 4) (ρ 3) (ρ 4) := (ax_XF_lt (by decide)).mp (ax_gx hE (47, [3, 7, 15, 19]) (by decide))
  have F99 : py_99 (ρ 3) (4020) (ρ 2) := (ax_XF_lt (by decide)).mp (ax_gx hE (99, [15, 4020, 11]) (by decide))
  have F44 : py_44 2 (ρ 2) := (ax_XF_lt (by decide)).mp (ax_gx hE (44, [11]) (by decide))
  obtain ⟨-, -, -, F41⟩ : ay_ex hp 10 ∧ ay_ex hp 15 ∧ ay_ex hp 16 ∧ py_x41 (ρ 5) (ay_at hp 10 5) (ay_at hp 15) (ay_at hp 16) := (ax_XF_lt (by decide)).mp (ax_gx hE (41, [23]) (by decide))
  have F99a : py_99 (ρ 5) (4020) (ρ 4) := (ax_XF_lt (by decide)).mp (ax_gx hE (99, [23, 4020, 19]) (by decide))
  refine ⟨(fun y hy => by cases hy), _, List.mem_cons_self, ρ, fun _ _ => rfl, ax_px hE (by decide) (fun y hy => ?_)⟩
  cases List.mem_singleton.mp hy
  refine (ax_XF_lt (x := 48) (by decide)).mpr ?_
  show py_48 2 (pz_gt (ρ 0)) (pz_gN (ρ 0)) ((ρ 1) / 4) (ρ 2) (ρ 5)
  exact pr_sp3 F47 F99 (by decide) F44 F99a

theorem axq_sp2c47_2 : ax_RO ax_wC ax_XC axu_sp2c47_2 := by
  intro ρ hp hE hT
  have j0 : ρ 0 % 4 = 1 := pz_gj hE 0 (by decide) rfl
  have j1 : ρ 1 % 4 = 1 := pz_gj hE 1 (by decide) rfl
  have j2 : ρ 2 % 4 = 1 := pz_gj hE 2 (by decide) rfl
  have j3 : ρ 3 % 4 = 1 := pz_gj hE 3 (by decide) rfl
  have j4 : ρ 4 % 4 = 1 := pz_gj hE 4 (by decide) rfl
  obtain ⟨i5a, i5b, i5c, i5d⟩ := pz_gi hE 5 2147483695 2147483695 (by decide) rfl
  have c_kind : ay_at hp 8 7 = some (ρ 5) := ay_gfj hE 42 28 23 8 7 (by decide) (by rw [ax_vl_c (by decide)]) (by rw [ax_vl_c (by decide)])
  obtain ⟨-, -, -, -, F50⟩ : ay_ex hp 8 ∧ ay_ex hp 10 ∧ ay_ex hp 11 ∧ ay_ex hp 12 ∧ pz_x50 (ρ 0) (ρ 1) (ay_at hp 8 5) (ay_at hp 8 6) (ay_at hp 8 7) (ay_at hp 8 8) (ay_at hp 10 0) (ay_at hp 10 1) (ay_at hp 10 2) (ay_at hp 10 3) (ay_at hp 10 4) (ay_at hp 8 9) (ay_at hp 8 11) (ay_at hp 8 10) (ay_at hp 8 3) (ay_at hp 8 4) (ay_at hp 11) (ay_at hp 12) := (ax_XF_lt (by decide)).mp (ax_gx hE (50, [3, 7]) (by decide))
  rw [c_kind] at F50
  have F98 : (ρ 2) / 4 = (ρ 1) / 4 + 1 := (ax_XF_lt (by decide)).mp (ax_gx hE (98, [7, 11]) (by decide))
  have F78 : pz7 (pz_gt (ρ 0)) (pz_gN (ρ 0)) ((ρ 2) / 4) 8 := (ax_XF_lt (by decide)).mp (ax_gx hE (78, [3, 11]) (by decide))
  have F79 : pz7 (pz_gt (ρ 0)) (pz_gN (ρ 0)) ((ρ 1) / 4) 9 := (ax_XF_lt (by decide)).mp (ax_gx hE (79, [3, 7]) (by decide))
  have F48 : py_48 2 (pz_gt (ρ 0)) (pz_gN (ρ 0)) ((ρ 1) / 4) (ρ 3) (ρ 4) := (ax_XF_lt (by decide)).mp (ax_gx hE (48, [3, 7, 15, 19]) (by decide))
  have kd : ρ 5 / 4 = pz_kd (pz_gt (ρ 0)) (pz_gN (ρ 0)) (pz_p (pz_cf (pz_gt (ρ 0)) (pz_gN (ρ 0)) (ρ 1 / 4))) := F50.2.2.1
  rw [F98] at F78
  obtain ⟨ρ', h1, h2⟩ := pz_pn1 (K := ρ 3 / 4 * 4096 + 1006) (xf := [(46, [3, 11, 27, 19]), (99, [27, 4024, 15])]) hE (by decide) (fun ρ' h1 h2 x hx => by
    have q0 : ρ' 0 = ρ 0 := h1 0 (by decide)
    have q1 : ρ' 1 = ρ 1 := h1 1 (by decide)
    have q2 : ρ' 2 = ρ 2 := h1 2 (by decide)
    have q3 : ρ' 3 = ρ 3 := h1 3 (by decide)
    have q4 : ρ' 4 = ρ 4 := h1 4 (by decide)
    have q5 : ρ' 5 = ρ 5 := h1 5 (by decide)
    rcases List.mem_cons.mp hx with e | hx
    · subst e
      refine (ax_XF_lt (x := 46) (by decide)).mpr ?_
      show py_46 (pz_gt (ρ' 0)) (pz_gN (ρ' 0)) ((ρ' 2) / 4) (ρ' 6) (ρ' 4)
      rw [q0, q2, q4, h2]
      rw [F98]
      exact pr_op (q := 47) (c := 4024) (by decide) F79 (by omega) rfl F78 (by decide) (by decide) F48 ⟨pz_41 _, F48.2.1, by decide⟩
    cases List.mem_singleton.mp hx
    refine (ax_XF_lt (x := 99) (by decide)).mpr ?_
    show py_99 (ρ' 6) (4024) (ρ' 3)
    rw [q3, h2]
    exact ⟨pz_41 _, F48.2.1, by decide⟩)
  exact ⟨(fun y hy => by cases hy), _, List.mem_cons_self, ρ', h1, h2⟩

theorem axq_sp3c47_2 : ax_RO ax_wC ax_XC axu_sp3c47_2 := by
  intro ρ hp hE hT
  have j0 : ρ 0 % 4 = 1 := pz_gj hE 0 (by decide) rfl
  have j1 : ρ 1 % 4 = 1 := pz_gj hE 1 (by decide) rfl
  have j2 : ρ 2 % 4 = 1 := pz_gj hE 2 (by decide) rfl
  have j3 : ρ 3 % 4 = 1 := pz_gj hE 3 (by decide) rfl
  have j4 : ρ 4 % 4 = 1 := pz_gj hE 4 (by decide) rfl
  have j5 : ρ 5 % 4 = 1 := pz_gj hE 5 (by decide) rfl
  obtain ⟨i6a, i6b, i6c, i6d⟩ := pz_gi hE 6 2147483695 2147483695 (by decide) rfl
  obtain ⟨-, -, -, -, F50⟩ : ay_ex hp 8 ∧ ay_ex hp 10 ∧ ay_ex hp 11 ∧ ay_ex hp 12 ∧ pz_x50 (ρ 0) (ρ 1) (ay_at hp 8 5) (ay_at hp 8 6) (ay_at hp 8 7) (ay_at hp 8 8) (ay_at hp 10 0) (ay_at hp 10 1) (ay_at hp 10 2) (ay_at hp 10 3) (ay_at hp 10 4) (ay_at hp 8 9) (ay_at hp 8 11) (ay_at hp 8 10) (ay_at hp 8 3) (ay_at hp 8 4) (ay_at hp 11) (ay_at hp 12) := (ax_XF_lt (by decide)).mp (ax_gx hE (50, [3, 7]) (by decide))
  have F47 : py_47 (pz_gt (ρ 0)) (pz_gN (ρ 0)) ((ρ 1) / 4) (ρ 3) (ρ 4) := (ax_XF_lt (by decide)).mp (ax_gx hE (47, [3, 7, 15, 19]) (by decide))
  have F99 : py_99 (ρ 3) (4024) (ρ 2) := (ax_XF_lt (by decide)).mp (ax_gx hE (99, [15, 4024, 11]) (by decide))
  have F44 : py_44 2 (ρ 2) := (ax_XF_lt (by decide)).mp (ax_gx hE (44, [11]) (by decide))
  obtain ⟨-, -, -, F41⟩ : ay_ex hp 10 ∧ ay_ex hp 15 ∧ ay_ex hp 16 ∧ py_x41 (ρ 5) (ay_at hp 10 5) (ay_at hp 15) (ay_at hp 16) := (ax_XF_lt (by decide)).mp (ax_gx hE (41, [23]) (by decide))
  have F99a : py_99 (ρ 5) (4024) (ρ 4) := (ax_XF_lt (by decide)).mp (ax_gx hE (99, [23, 4024, 19]) (by decide))
  refine ⟨(fun y hy => by cases hy), _, List.mem_cons_self, ρ, fun _ _ => rfl, ax_px hE (by decide) (fun y hy => ?_)⟩
  cases List.mem_singleton.mp hy
  refine (ax_XF_lt (x := 48) (by decide)).mpr ?_
  show py_48 2 (pz_gt (ρ 0)) (pz_gN (ρ 0)) ((ρ 1) / 4) (ρ 2) (ρ 5)
  exact pr_sp3 F47 F99 (by decide) F44 F99a

theorem axq_sp2c37_2 : ax_RO ax_wC ax_XC axu_sp2c37_2 := by
  intro ρ hp hE hT
  have j0 : ρ 0 % 4 = 1 := pz_gj hE 0 (by decide) rfl
  have j1 : ρ 1 % 4 = 1 := pz_gj hE 1 (by decide) rfl
  have j2 : ρ 2 % 4 = 1 := pz_gj hE 2 (by decide) rfl
  have j3 : ρ 3 % 4 = 1 := pz_gj hE 3 (by decide) rfl
  have j4 : ρ 4 % 4 = 1 := pz_gj hE 4 (by decide) rfl
  obtain ⟨i5a, i5b, i5c, i5d⟩ := pz_gi hE 5 2147483685 2147483685 (by decide) rfl
  have c_kind : ay_at hp 8 7 = some (ρ 5) := ay_gfj hE 42 28 23 8 7 (by decide) (by rw [ax_vl_c (by decide)]) (by rw [ax_vl_c (by decide)])
  obtain ⟨-, -, -, -, F50⟩ : ay_ex hp 8 ∧ ay_ex hp 10 ∧ ay_ex hp 11 ∧ ay_ex hp 12 ∧ pz_x50 (ρ 0) (ρ 1) (ay_at hp 8 5) (ay_at hp 8 6) (ay_at hp 8 7) (ay_at hp 8 8) (ay_at hp 10 0) (ay_at hp 10 1) (ay_at hp 10 2) (ay_at hp 10 3) (ay_at hp 10 4) (ay_at hp 8 9) (ay_at hp 8 11) (ay_at hp 8 10) (ay_at hp 8 3) (ay_at hp 8 4) (ay_at hp 11) (ay_at hp 12) := (ax_XF_lt (by decide)).mp (ax_gx hE (50, [3, 7]) (by decide))
  rw [c_kind] at F50
  have F98 : (ρ 2) / 4 = (ρ 1) / 4 + 1 := (ax_XF_lt (by decide)).mp (ax_gx hE (98, [7, 11]) (by decide))
  have F78 : pz7 (pz_gt (ρ 0)) (pz_gN (ρ 0)) ((ρ 2) / 4) 8 := (ax_XF_lt (by decide)).mp (ax_gx hE (78, [3, 11]) (by decide))
  have F79 : pz7 (pz_gt (ρ 0)) (pz_gN (ρ 0)) ((ρ 1) / 4) 9 := (ax_XF_lt (by decide)).mp (ax_gx hE (79, [3, 7]) (by decide))
  have F48 : py_48 2 (pz_gt (ρ 0)) (pz_gN (ρ 0)) ((ρ 1) / 4) (ρ 3) (ρ 4) := (ax_XF_lt (by decide)).mp (ax_gx hE (48, [3, 7, 15, 19]) (by decide))
  have kd : ρ 5 / 4 = pz_kd (pz_gt (ρ 0)) (pz_gN (ρ 0)) (pz_p (pz_cf (pz_gt (ρ 0)) (pz_gN (ρ 0)) (ρ 1 / 4))) := F50.2.2.1
  rw [F98] at F78
  obtain ⟨ρ', h1, h2⟩ := pz_pn1 (K := ρ 3 / 4 * 4096 + 1007) (xf := [(46, [3, 11, 27, 19]), (99, [27, 4028, 15])]) hE (by decide) (fun ρ' h1 h2 x hx => by
    have q0 : ρ' 0 = ρ 0 := h1 0 (by decide)
    have q1 : ρ' 1 = ρ 1 := h1 1 (by decide)
    have q2 : ρ' 2 = ρ 2 := h1 2 (by decide)
    have q3 : ρ' 3 = ρ 3 := h1 3 (by decide)
    have q4 : ρ' 4 = ρ 4 := h1 4 (by decide)
    have q5 : ρ' 5 = ρ 5 := h1 5 (by decide)
    rcases List.mem_cons.mp hx with e | hx
    · subst e
      refine (ax_XF_lt (x := 46) (by decide)).mpr ?_
      show py_46 (pz_gt (ρ' 0)) (pz_gN (ρ' 0)) ((ρ' 2) / 4) (ρ' 6) (ρ' 4)
      rw [q0, q2, q4, h2]
      rw [F98]
      exact pr_op (q := 37) (c := 4028) (by decide) F79 (by omega) rfl F78 (by decide) (by decide) F48 ⟨pz_41 _, F48.2.1, by decide⟩
    cases List.mem_singleton.mp hx
    refine (ax_XF_lt (x := 99) (by decide)).mpr ?_
    show py_99 (ρ' 6) (4028) (ρ' 3)
    rw [q3, h2]
    exact ⟨pz_41 _, F48.2.1, by decide⟩)
  exact ⟨(fun y hy => by cases hy), _, List.mem_cons_self, ρ', h1, h2⟩

theorem axq_sp3c37_2 : ax_RO ax_wC ax_XC axu_sp3c37_2 := by
  intro ρ hp hE hT
  have j0 : ρ 0 % 4 = 1 := pz_gj hE 0 (by decide) rfl
  have j1 : ρ 1 % 4 = 1 := pz_gj hE 1 (by decide) rfl
  have j2 : ρ 2 % 4 = 1 := pz_gj hE 2 (by decide) rfl
  have j3 : ρ 3 % 4 = 1 := pz_gj hE 3 (by decide) rfl
  have j4 : ρ 4 % 4 = 1 := pz_gj hE 4 (by decide) rfl
  have j5 : ρ 5 % 4 = 1 := pz_gj hE 5 (by decide) rfl
  obtain ⟨i6a, i6b, i6c, i6d⟩ := pz_gi hE 6 2147483685 2147483685 (by decide) rfl
  obtain ⟨-, -, -, -, F50⟩ : ay_ex hp 8 ∧ ay_ex hp 10 ∧ ay_ex hp 11 ∧ ay_ex hp 12 ∧ pz_x50 (ρ 0) (ρ 1) (ay_at hp 8 5) (ay_at hp 8 6) (ay_at hp 8 7) (ay_at hp 8 8) (ay_at hp 10 0) (ay_at hp 10 1) (ay_at hp 10 2) (ay_at hp 10 3) (ay_at hp 10 4) (ay_at hp 8 9) (ay_at hp 8 11) (ay_at hp 8 10) (ay_at hp 8 3) (ay_at hp 8 4) (ay_at hp 11) (ay_at hp 12) := (ax_XF_lt (by decide)).mp (ax_gx hE (50, [3, 7]) (by decide))
  have F47 : py_47 (pz_gt (ρ 0)) (pz_gN (ρ 0)) ((ρ 1) / 4) (ρ 3) (ρ 4) := (ax_XF_lt (by decide)).mp (ax_gx hE (47, [3, 7, 15, 19]) (by decide))
  have F99 : py_99 (ρ 3) (4028) (ρ 2) := (ax_XF_lt (by decide)).mp (ax_gx hE (99, [15, 4028, 11]) (by decide))
  have F44 : py_44 2 (ρ 2) := (ax_XF_lt (by decide)).mp (ax_gx hE (44, [11]) (by decide))
  obtain ⟨-, -, -, F41⟩ : ay_ex hp 10 ∧ ay_ex hp 15 ∧ ay_ex hp 16 ∧ py_x41 (ρ 5) (ay_at hp 10 5) (ay_at hp 15) (ay_at hp 16) := (ax_XF_lt (by decide)).mp (ax_gx hE (41, [23]) (by decide))
  have F99a : py_99 (ρ 5) (4028) (ρ 4) := (ax_XF_lt (by decide)).mp (ax_gx hE (99, [23, 4028, 19]) (by decide))
  refine ⟨(fun y hy => by cases hy), _, List.mem_cons_self, ρ, fun _ _ => rfl, ax_px hE (by decide) (fun y hy => ?_)⟩
  cases List.mem_singleton.mp hy
  refine (ax_XF_lt (x := 48) (by decide)).mpr ?_
  show py_48 2 (pz_gt (ρ 0)) (pz_gN (ρ 0)) ((ρ 1) / 4) (ρ 2) (ρ 5)
  exact pr_sp3 F47 F99 (by decide) F44 F99a

theorem axq_spl_2 : ax_RO ax_wC ax_XC axu_spl_2 := by
  intro ρ hp hE hT
  have j0 : ρ 0 % 4 = 1 := pz_gj hE 0 (by decide) rfl
  have j1 : ρ 1 % 4 = 1 := pz_gj hE 1 (by decide) rfl
  have j2 : ρ 2 % 4 = 1 := pz_gj hE 2 (by decide) rfl
  have j3 : ρ 3 % 4 = 1 := pz_gj hE 3 (by decide) rfl
  obtain ⟨-, -, -, -, F50⟩ : ay_ex hp 8 ∧ ay_ex hp 10 ∧ ay_ex hp 11 ∧ ay_ex hp 12 ∧ pz_x50 (ρ 0) (ρ 1) (ay_at hp 8 5) (ay_at hp 8 6) (ay_at hp 8 7) (ay_at hp 8 8) (ay_at hp 10 0) (ay_at hp 10 1) (ay_at hp 10 2) (ay_at hp 10 3) (ay_at hp 10 4) (ay_at hp 8 9) (ay_at hp 8 11) (ay_at hp 8 10) (ay_at hp 8 3) (ay_at hp 8 4) (ay_at hp 11) (ay_at hp 12) := (ax_XF_lt (by decide)).mp (ax_gx hE (50, [3, 7]) (by decide))
  have F79 : pz7 (pz_gt (ρ 0)) (pz_gN (ρ 0)) ((ρ 1) / 4) 9 := (ax_XF_lt (by decide)).mp (ax_gx hE (79, [3, 7]) (by decide))
  have F47 : py_47 (pz_gt (ρ 0)) (pz_gN (ρ 0)) ((ρ 1) / 4) (ρ 2) (ρ 3) := (ax_XF_lt (by decide)).mp (ax_gx hE (47, [3, 7, 11, 15]) (by decide))
  refine ⟨(fun y hy => by cases hy), _, List.mem_cons_self, ρ, fun _ _ => rfl, ax_px hE (by decide) (fun y hy => ?_)⟩
  cases List.mem_singleton.mp hy
  refine (ax_XF_lt (x := 40) (by decide)).mpr ?_
  show py_40 (ρ 3)
  exact pr_l47 F79 (by decide) F47

theorem axq_sp1_3 : ax_RO ax_wC ax_XC axu_sp1_3 := by
  intro ρ hp hE hT
  have j0 : ρ 0 % 4 = 1 := pz_gj hE 0 (by decide) rfl
  have j1 : ρ 1 % 4 = 1 := pz_gj hE 1 (by decide) rfl
  have j2 : ρ 2 % 4 = 1 := pz_gj hE 2 (by decide) rfl
  have j3 : ρ 3 % 4 = 1 := pz_gj hE 3 (by decide) rfl
  obtain ⟨-, -, -, -, F50⟩ : ay_ex hp 8 ∧ ay_ex hp 10 ∧ ay_ex hp 11 ∧ ay_ex hp 12 ∧ pz_x50 (ρ 0) (ρ 1) (ay_at hp 8 5) (ay_at hp 8 6) (ay_at hp 8 7) (ay_at hp 8 8) (ay_at hp 10 0) (ay_at hp 10 1) (ay_at hp 10 2) (ay_at hp 10 3) (ay_at hp 10 4) (ay_at hp 8 9) (ay_at hp 8 11) (ay_at hp 8 10) (ay_at hp 8 3) (ay_at hp 8 4) (ay_at hp 11) (ay_at hp 12) := (ax_XF_lt (by decide)).mp (ax_gx hE (50, [3, 7]) (by decide))
  have F47 : py_47 (pz_gt (ρ 0)) (pz_gN (ρ 0)) ((ρ 1) / 4) (ρ 2) (ρ 3) := (ax_XF_lt (by decide)).mp (ax_gx hE (47, [3, 7, 11, 15]) (by decide))
  have F44 : py_44 2 (ρ 2) := (ax_XF_lt (by decide)).mp (ax_gx hE (44, [11]) (by decide))
  refine ⟨(fun y hy => by cases hy), _, List.mem_cons_self, ρ, fun _ _ => rfl, ax_px hE (by decide) (fun y hy => ?_)⟩
  cases List.mem_singleton.mp hy
  refine (ax_XF_lt (x := 48) (by decide)).mpr ?_
  show py_48 2 (pz_gt (ρ 0)) (pz_gN (ρ 0)) ((ρ 1) / 4) (ρ 2) (ρ 3)
  exact pr_sp1 F47 F44

theorem axq_sp2c42_3 : ax_RO ax_wC ax_XC axu_sp2c42_3 := by
  intro ρ hp hE hT
  have j0 : ρ 0 % 4 = 1 := pz_gj hE 0 (by decide) rfl
  have j1 : ρ 1 % 4 = 1 := pz_gj hE 1 (by decide) rfl
  have j2 : ρ 2 % 4 = 1 := pz_gj hE 2 (by decide) rfl
  have j3 : ρ 3 % 4 = 1 := pz_gj hE 3 (by decide) rfl
  have j4 : ρ 4 % 4 = 1 := pz_gj hE 4 (by decide) rfl
  obtain ⟨i5a, i5b, i5c, i5d⟩ := pz_gi hE 5 2147483690 2147483690 (by decide) rfl
  have c_kind : ay_at hp 8 7 = some (ρ 5) := ay_gfj hE 42 28 23 8 7 (by decide) (by rw [ax_vl_c (by decide)]) (by rw [ax_vl_c (by decide)])
  obtain ⟨-, -, -, -, F50⟩ : ay_ex hp 8 ∧ ay_ex hp 10 ∧ ay_ex hp 11 ∧ ay_ex hp 12 ∧ pz_x50 (ρ 0) (ρ 1) (ay_at hp 8 5) (ay_at hp 8 6) (ay_at hp 8 7) (ay_at hp 8 8) (ay_at hp 10 0) (ay_at hp 10 1) (ay_at hp 10 2) (ay_at hp 10 3) (ay_at hp 10 4) (ay_at hp 8 9) (ay_at hp 8 11) (ay_at hp 8 10) (ay_at hp 8 3) (ay_at hp 8 4) (ay_at hp 11) (ay_at hp 12) := (ax_XF_lt (by decide)).mp (ax_gx hE (50, [3, 7]) (by decide))
  rw [c_kind] at F50
  have F98 : (ρ 2) / 4 = (ρ 1) / 4 + 1 := (ax_XF_lt (by decide)).mp (ax_gx hE (98, [7, 11]) (by decide))
  have F78 : pz7 (pz_gt (ρ 0)) (pz_gN (ρ 0)) ((ρ 2) / 4) 8 := (ax_XF_lt (by decide)).mp (ax_gx hE (78, [3, 11]) (by decide))
  have F79 : pz7 (pz_gt (ρ 0)) (pz_gN (ρ 0)) ((ρ 1) / 4) 9 := (ax_XF_lt (by decide)).mp (ax_gx hE (79, [3, 7]) (by decide))
  have F48 : py_48 2 (pz_gt (ρ 0)) (pz_gN (ρ 0)) ((ρ 1) / 4) (ρ 3) (ρ 4) := (ax_XF_lt (by decide)).mp (ax_gx hE (48, [3, 7, 15, 19]) (by decide))
  have kd : ρ 5 / 4 = pz_kd (pz_gt (ρ 0)) (pz_gN (ρ 0)) (pz_p (pz_cf (pz_gt (ρ 0)) (pz_gN (ρ 0)) (ρ 1 / 4))) := F50.2.2.1
  rw [F98] at F78
  obtain ⟨ρ', h1, h2⟩ := pz_pn1 (K := ρ 3 / 4 * 4096 + 1005) (xf := [(46, [3, 11, 27, 19]), (99, [27, 4020, 15])]) hE (by decide) (fun ρ' h1 h2 x hx => by
    have q0 : ρ' 0 = ρ 0 := h1 0 (by decide)
    have q1 : ρ' 1 = ρ 1 := h1 1 (by decide)
    have q2 : ρ' 2 = ρ 2 := h1 2 (by decide)
    have q3 : ρ' 3 = ρ 3 := h1 3 (by decide)
    have q4 : ρ' 4 = ρ 4 := h1 4 (by decide)
    have q5 : ρ' 5 = ρ 5 := h1 5 (by decide)
    rcases List.mem_cons.mp hx with e | hx
    · subst e
      refine (ax_XF_lt (x := 46) (by decide)).mpr ?_
      show py_46 (pz_gt (ρ' 0)) (pz_gN (ρ' 0)) ((ρ' 2) / 4) (ρ' 6) (ρ' 4)
      rw [q0, q2, q4, h2]
      rw [F98]
      exact pr_op (q := 42) (c := 4020) (by decide) F79 (by omega) rfl F78 (by decide) (by decide) F48 ⟨pz_41 _, F48.2.1, by decide⟩
    cases List.mem_singleton.mp hx
    refine (ax_XF_lt (x := 99) (by decide)).mpr ?_
    show py_99 (ρ' 6) (4020) (ρ' 3)
    rw [q3, h2]
    exact ⟨pz_41 _, F48.2.1, by decide⟩)
  exact ⟨(fun y hy => by cases hy), _, List.mem_cons_self, ρ', h1, h2⟩

theorem axq_sp3c42_3 : ax_RO ax_wC ax_XC axu_sp3c42_3 := by
  intro ρ hp hE hT
  have j0 : ρ 0 % 4 = 1 := pz_gj hE 0 (by decide) rfl
  have j1 : ρ 1 % 4 = 1 := pz_gj hE 1 (by decide) rfl
  have j2 : ρ 2 % 4 = 1 := pz_gj hE 2 (by decide) rfl
  have j3 : ρ 3 % 4 = 1 := pz_gj hE 3 (by decide) rfl
  have j4 : ρ 4 % 4 = 1 := pz_gj hE 4 (by decide) rfl
  have j5 : ρ 5 % 4 = 1 := pz_gj hE 5 (by decide) rfl
  obtain ⟨i6a, i6b, i6c, i6d⟩ := pz_gi hE 6 2147483690 2147483690 (by decide) rfl
  obtain ⟨-, -, -, -, F50⟩ : ay_ex hp 8 ∧ ay_ex hp 10 ∧ ay_ex hp 11 ∧ ay_ex hp 12 ∧ pz_x50 (ρ 0) (ρ 1) (ay_at hp 8 5) (ay_at hp 8 6) (ay_at hp 8 7) (ay_at hp 8 8) (ay_at hp 10 0) (ay_at hp 10 1) (ay_at hp 10 2) (ay_at hp 10 3) (ay_at hp 10 4) (ay_at hp 8 9) (ay_at hp 8 11) (ay_at hp 8 10) (ay_at hp 8 3) (ay_at hp 8 4) (ay_at hp 11) (ay_at hp 12) := (ax_XF_lt (by decide)).mp (ax_gx hE (50, [3, 7]) (by decide))
  have F47 : py_47 (pz_gt (ρ 0)) (pz_gN (ρ 0)) ((ρ 1) / 4) (ρ 3) (ρ 4) := (ax_XF_lt (by decide)).mp (ax_gx hE (47, [3, 7, 15, 19]) (by decide))
  have F99 : py_99 (ρ 3) (4020) (ρ 2) := (ax_XF_lt (by decide)).mp (ax_gx hE (99, [15, 4020, 11]) (by decide))
  have F44 : py_44 2 (ρ 2) := (ax_XF_lt (by decide)).mp (ax_gx hE (44, [11]) (by decide))
  obtain ⟨-, -, -, F41⟩ : ay_ex hp 10 ∧ ay_ex hp 15 ∧ ay_ex hp 16 ∧ py_x41 (ρ 5) (ay_at hp 10 5) (ay_at hp 15) (ay_at hp 16) := (ax_XF_lt (by decide)).mp (ax_gx hE (41, [23]) (by decide))
  have F99a : py_99 (ρ 5) (4020) (ρ 4) := (ax_XF_lt (by decide)).mp (ax_gx hE (99, [23, 4020, 19]) (by decide))
  refine ⟨(fun y hy => by cases hy), _, List.mem_cons_self, ρ, fun _ _ => rfl, ax_px hE (by decide) (fun y hy => ?_)⟩
  cases List.mem_singleton.mp hy
  refine (ax_XF_lt (x := 48) (by decide)).mpr ?_
  show py_48 2 (pz_gt (ρ 0)) (pz_gN (ρ 0)) ((ρ 1) / 4) (ρ 2) (ρ 5)
  exact pr_sp3 F47 F99 (by decide) F44 F99a

theorem axq_sp2c47_3 : ax_RO ax_wC ax_XC axu_sp2c47_3 := by
  intro ρ hp hE hT
  have j0 : ρ 0 % 4 = 1 := pz_gj hE 0 (by decide) rfl
  have j1 : ρ 1 % 4 = 1 := pz_gj hE 1 (by decide) rfl
  have j2 : ρ 2 % 4 = 1 := pz_gj hE 2 (by decide) rfl
  have j3 : ρ 3 % 4 = 1 := pz_gj hE 3 (by decide) rfl
  have j4 : ρ 4 % 4 = 1 := pz_gj hE 4 (by decide) rfl
  obtain ⟨i5a, i5b, i5c, i5d⟩ := pz_gi hE 5 2147483695 2147483695 (by decide) rfl
  have c_kind : ay_at hp 8 7 = some (ρ 5) := ay_gfj hE 42 28 23 8 7 (by decide) (by rw [ax_vl_c (by decide)]) (by rw [ax_vl_c (by decide)])
  obtain ⟨-, -, -, -, F50⟩ : ay_ex hp 8 ∧ ay_ex hp 10 ∧ ay_ex hp 11 ∧ ay_ex hp 12 ∧ pz_x50 (ρ 0) (ρ 1) (ay_at hp 8 5) (ay_at hp 8 6) (ay_at hp 8 7) (ay_at hp 8 8) (ay_at hp 10 0) (ay_at hp 10 1) (ay_at hp 10 2) (ay_at hp 10 3) (ay_at hp 10 4) (ay_at hp 8 9) (ay_at hp 8 11) (ay_at hp 8 10) (ay_at hp 8 3) (ay_at hp 8 4) (ay_at hp 11) (ay_at hp 12) := (ax_XF_lt (by decide)).mp (ax_gx hE (50, [3, 7]) (by decide))
  rw [c_kind] at F50
  have F98 : (ρ 2) / 4 = (ρ 1) / 4 + 1 := (ax_XF_lt (by decide)).mp (ax_gx hE (98, [7, 11]) (by decide))
  have F78 : pz7 (pz_gt (ρ 0)) (pz_gN (ρ 0)) ((ρ 2) / 4) 8 := (ax_XF_lt (by decide)).mp (ax_gx hE (78, [3, 11]) (by decide))
  have F79 : pz7 (pz_gt (ρ 0)) (pz_gN (ρ 0)) ((ρ 1) / 4) 9 := (ax_XF_lt (by decide)).mp (ax_gx hE (79, [3, 7]) (by decide))
  have F48 : py_48 2 (pz_gt (ρ 0)) (pz_gN (ρ 0)) ((ρ 1) / 4) (ρ 3) (ρ 4) := (ax_XF_lt (by decide)).mp (ax_gx hE (48, [3, 7, 15, 19]) (by decide))
  have kd : ρ 5 / 4 = pz_kd (pz_gt (ρ 0)) (pz_gN (ρ 0)) (pz_p (pz_cf (pz_gt (ρ 0)) (pz_gN (ρ 0)) (ρ 1 / 4))) := F50.2.2.1
  rw [F98] at F78
  obtain ⟨ρ', h1, h2⟩ := pz_pn1 (K := ρ 3 / 4 * 4096 + 1006) (xf := [(46, [3, 11, 27, 19]), (99, [27, 4024, 15])]) hE (by decide) (fun ρ' h1 h2 x hx => by
    have q0 : ρ' 0 = ρ 0 := h1 0 (by decide)
    have q1 : ρ' 1 = ρ 1 := h1 1 (by decide)
    have q2 : ρ' 2 = ρ 2 := h1 2 (by decide)
    have q3 : ρ' 3 = ρ 3 := h1 3 (by decide)
    have q4 : ρ' 4 = ρ 4 := h1 4 (by decide)
    have q5 : ρ' 5 = ρ 5 := h1 5 (by decide)
    rcases List.mem_cons.mp hx with e | hx
    · subst e
      refine (ax_XF_lt (x := 46) (by decide)).mpr ?_
      show py_46 (pz_gt (ρ' 0)) (pz_gN (ρ' 0)) ((ρ' 2) / 4) (ρ' 6) (ρ' 4)
      rw [q0, q2, q4, h2]
      rw [F98]
      exact pr_op (q := 47) (c := 4024) (by decide) F79 (by omega) rfl F78 (by decide) (by decide) F48 ⟨pz_41 _, F48.2.1, by decide⟩
    cases List.mem_singleton.mp hx
    refine (ax_XF_lt (x := 99) (by decide)).mpr ?_
    show py_99 (ρ' 6) (4024) (ρ' 3)
    rw [q3, h2]
    exact ⟨pz_41 _, F48.2.1, by decide⟩)
  exact ⟨(fun y hy => by cases hy), _, List.mem_cons_self, ρ', h1, h2⟩

theorem axq_sp3c47_3 : ax_RO ax_wC ax_XC axu_sp3c47_3 := by
  intro ρ hp hE hT
  have j0 : ρ 0 % 4 = 1 := pz_gj hE 0 (by decide) rfl
  have j1 : ρ 1 % 4 = 1 := pz_gj hE 1 (by decide) rfl
  have j2 : ρ 2 % 4 = 1 := pz_gj hE 2 (by decide) rfl
  have j3 : ρ 3 % 4 = 1 := pz_gj hE 3 (by decide) rfl
  have j4 : ρ 4 % 4 = 1 := pz_gj hE 4 (by decide) rfl
  have j5 : ρ 5 % 4 = 1 := pz_gj hE 5 (by decide) rfl
  obtain ⟨i6a, i6b, i6c, i6d⟩ := pz_gi hE 6 2147483695 2147483695 (by decide) rfl
  obtain ⟨-, -, -, -, F50⟩ : ay_ex hp 8 ∧ ay_ex hp 10 ∧ ay_ex hp 11 ∧ ay_ex hp 12 ∧ pz_x50 (ρ 0) (ρ 1) (ay_at hp 8 5) (ay_at hp 8 6) (ay_at hp 8 7) (ay_at hp 8 8) (ay_at hp 10 0) (ay_at hp 10 1) (ay_at hp 10 2) (ay_at hp 10 3) (ay_at hp 10 4) (ay_at hp 8 9) (ay_at hp 8 11) (ay_at hp 8 10) (ay_at hp 8 3) (ay_at hp 8 4) (ay_at hp 11) (ay_at hp 12) := (ax_XF_lt (by decide)).mp (ax_gx hE (50, [3, 7]) (by decide))
  have F47 : py_47 (pz_gt (ρ 0)) (pz_gN (ρ 0)) ((ρ 1) / 4) (ρ 3) (ρ 4) := (ax_XF_lt (by decide)).mp (ax_gx hE (47, [3, 7, 15, 19]) (by decide))
  have F99 : py_99 (ρ 3) (4024) (ρ 2) := (ax_XF_lt (by decide)).mp (ax_gx hE (99, [15, 4024, 11]) (by decide))
  have F44 : py_44 2 (ρ 2) := (ax_XF_lt (by decide)).mp (ax_gx hE (44, [11]) (by decide))
  obtain ⟨-, -, -, F41⟩ : ay_ex hp 10 ∧ ay_ex hp 15 ∧ ay_ex hp 16 ∧ py_x41 (ρ 5) (ay_at hp 10 5) (ay_at hp 15) (ay_at hp 16) := (ax_XF_lt (by decide)).mp (ax_gx hE (41, [23]) (by decide))
  have F99a : py_99 (ρ 5) (4024) (ρ 4) := (ax_XF_lt (by decide)).mp (ax_gx hE (99, [23, 4024, 19]) (by decide))
  refine ⟨(fun y hy => by cases hy), _, List.mem_cons_self, ρ, fun _ _ => rfl, ax_px hE (by decide) (fun y hy => ?_)⟩
  cases List.mem_singleton.mp hy
  refine (ax_XF_lt (x := 48) (by decide)).mpr ?_
  show py_48 2 (pz_gt (ρ 0)) (pz_gN (ρ 0)) ((ρ 1) / 4) (ρ 2) (ρ 5)
  exact pr_sp3 F47 F99 (by decide) F44 F99a

theorem axq_sp2c37_3 : ax_RO ax_wC ax_XC axu_sp2c37_3 := by
  intro ρ hp hE hT
  have j0 : ρ 0 % 4 = 1 := pz_gj hE 0 (by decide) rfl
  have j1 : ρ 1 % 4 = 1 := pz_gj hE 1 (by decide) rfl
  have j2 : ρ 2 % 4 = 1 := pz_gj hE 2 (by decide) rfl
  have j3 : ρ 3 % 4 = 1 := pz_gj hE 3 (by decide) rfl
  have j4 : ρ 4 % 4 = 1 := pz_gj hE 4 (by decide) rfl
  obtain ⟨i5a, i5b, i5c, i5d⟩ := pz_gi hE 5 2147483685 2147483685 (by decide) rfl
  have c_kind : ay_at hp 8 7 = some (ρ 5) := ay_gfj hE 42 28 23 8 7 (by decide) (by rw [ax_vl_c (by decide)]) (by rw [ax_vl_c (by decide)])
  obtain ⟨-, -, -, -, F50⟩ : ay_ex hp 8 ∧ ay_ex hp 10 ∧ ay_ex hp 11 ∧ ay_ex hp 12 ∧ pz_x50 (ρ 0) (ρ 1) (ay_at hp 8 5) (ay_at hp 8 6) (ay_at hp 8 7) (ay_at hp 8 8) (ay_at hp 10 0) (ay_at hp 10 1) (ay_at hp 10 2) (ay_at hp 10 3) (ay_at hp 10 4) (ay_at hp 8 9) (ay_at hp 8 11) (ay_at hp 8 10) (ay_at hp 8 3) (ay_at hp 8 4) (ay_at hp 11) (ay_at hp 12) := (ax_XF_lt (by decide)).mp (ax_gx hE (50, [3, 7]) (by decide))
  rw [c_kind] at F50
  have F98 : (ρ 2) / 4 = (ρ 1) / 4 + 1 := (ax_XF_lt (by decide)).mp (ax_gx hE (98, [7, 11]) (by decide))
  have F78 : pz7 (pz_gt (ρ 0)) (pz_gN (ρ 0)) ((ρ 2) / 4) 8 := (ax_XF_lt (by decide)).mp (ax_gx hE (78, [3, 11]) (by decide))
  have F79 : pz7 (pz_gt (ρ 0)) (pz_gN (ρ 0)) ((ρ 1) / 4) 9 := (ax_XF_lt (by decide)).mp (ax_gx hE (79, [3, 7]) (by decide))
  have F48 : py_48 2 (pz_gt (ρ 0)) (pz_gN (ρ 0)) ((ρ 1) / 4) (ρ 3) (ρ 4) := (ax_XF_lt (by decide)).mp (ax_gx hE (48, [3, 7, 15, 19]) (by decide))
  have kd : ρ 5 / 4 = pz_kd (pz_gt (ρ 0)) (pz_gN (ρ 0)) (pz_p (pz_cf (pz_gt (ρ 0)) (pz_gN (ρ 0)) (ρ 1 / 4))) := F50.2.2.1
  rw [F98] at F78
  obtain ⟨ρ', h1, h2⟩ := pz_pn1 (K := ρ 3 / 4 * 4096 + 1007) (xf := [(46, [3, 11, 27, 19]), (99, [27, 4028, 15])]) hE (by decide) (fun ρ' h1 h2 x hx => by
    have q0 : ρ' 0 = ρ 0 := h1 0 (by decide)
    have q1 : ρ' 1 = ρ 1 := h1 1 (by decide)
    have q2 : ρ' 2 = ρ 2 := h1 2 (by decide)
    have q3 : ρ' 3 = ρ 3 := h1 3 (by decide)
    have q4 : ρ' 4 = ρ 4 := h1 4 (by decide)
    have q5 : ρ' 5 = ρ 5 := h1 5 (by decide)
    rcases List.mem_cons.mp hx with e | hx
    · subst e
      refine (ax_XF_lt (x := 46) (by decide)).mpr ?_
      show py_46 (pz_gt (ρ' 0)) (pz_gN (ρ' 0)) ((ρ' 2) / 4) (ρ' 6) (ρ' 4)
      rw [q0, q2, q4, h2]
      rw [F98]
      exact pr_op (q := 37) (c := 4028) (by decide) F79 (by omega) rfl F78 (by decide) (by decide) F48 ⟨pz_41 _, F48.2.1, by decide⟩
    cases List.mem_singleton.mp hx
    refine (ax_XF_lt (x := 99) (by decide)).mpr ?_
    show py_99 (ρ' 6) (4028) (ρ' 3)
    rw [q3, h2]
    exact ⟨pz_41 _, F48.2.1, by decide⟩)
  exact ⟨(fun y hy => by cases hy), _, List.mem_cons_self, ρ', h1, h2⟩

theorem axq_sp3c37_3 : ax_RO ax_wC ax_XC axu_sp3c37_3 := by
  intro ρ hp hE hT
  have j0 : ρ 0 % 4 = 1 := pz_gj hE 0 (by decide) rfl
  have j1 : ρ 1 % 4 = 1 := pz_gj hE 1 (by decide) rfl
  have j2 : ρ 2 % 4 = 1 := pz_gj hE 2 (by decide) rfl
  have j3 : ρ 3 % 4 = 1 := pz_gj hE 3 (by decide) rfl
  have j4 : ρ 4 % 4 = 1 := pz_gj hE 4 (by decide) rfl
  have j5 : ρ 5 % 4 = 1 := pz_gj hE 5 (by decide) rfl
  obtain ⟨i6a, i6b, i6c, i6d⟩ := pz_gi hE 6 2147483685 2147483685 (by decide) rfl
  obtain ⟨-, -, -, -, F50⟩ : ay_ex hp 8 ∧ ay_ex hp 10 ∧ ay_ex hp 11 ∧ ay_ex hp 12 ∧ pz_x50 (ρ 0) (ρ 1) (ay_at hp 8 5) (ay_at hp 8 6) (ay_at hp 8 7) (ay_at hp 8 8) (ay_at hp 10 0) (ay_at hp 10 1) (ay_at hp 10 2) (ay_at hp 10 3) (ay_at hp 10 4) (ay_at hp 8 9) (ay_at hp 8 11) (ay_at hp 8 10) (ay_at hp 8 3) (ay_at hp 8 4) (ay_at hp 11) (ay_at hp 12) := (ax_XF_lt (by decide)).mp (ax_gx hE (50, [3, 7]) (by decide))
  have F47 : py_47 (pz_gt (ρ 0)) (pz_gN (ρ 0)) ((ρ 1) / 4) (ρ 3) (ρ 4) := (ax_XF_lt (by decide)).mp (ax_gx hE (47, [3, 7, 15, 19]) (by decide))
  have F99 : py_99 (ρ 3) (4028) (ρ 2) := (ax_XF_lt (by decide)).mp (ax_gx hE (99, [15, 4028, 11]) (by decide))
  have F44 : py_44 2 (ρ 2) := (ax_XF_lt (by decide)).mp (ax_gx hE (44, [11]) (by decide))
  obtain ⟨-, -, -, F41⟩ : ay_ex hp 10 ∧ ay_ex hp 15 ∧ ay_ex hp 16 ∧ py_x41 (ρ 5) (ay_at hp 10 5) (ay_at hp 15) (ay_at hp 16) := (ax_XF_lt (by decide)).mp (ax_gx hE (41, [23]) (by decide))
  have F99a : py_99 (ρ 5) (4028) (ρ 4) := (ax_XF_lt (by decide)).mp (ax_gx hE (99, [23, 4028, 19]) (by decide))
  refine ⟨(fun y hy => by cases hy), _, List.mem_cons_self, ρ, fun _ _ => rfl, ax_px hE (by decide) (fun y hy => ?_)⟩
  cases List.mem_singleton.mp hy
  refine (ax_XF_lt (x := 48) (by decide)).mpr ?_
  show py_48 2 (pz_gt (ρ 0)) (pz_gN (ρ 0)) ((ρ 1) / 4) (ρ 2) (ρ 5)
  exact pr_sp3 F47 F99 (by decide) F44 F99a

theorem axq_spl_3 : ax_RO ax_wC ax_XC axu_spl_3 := by
  intro ρ hp hE hT
  have j0 : ρ 0 % 4 = 1 := pz_gj hE 0 (by decide) rfl
  have j1 : ρ 1 % 4 = 1 := pz_gj hE 1 (by decide) rfl
  have j2 : ρ 2 % 4 = 1 := pz_gj hE 2 (by decide) rfl
  have j3 : ρ 3 % 4 = 1 := pz_gj hE 3 (by decide) rfl
  obtain ⟨-, -, -, -, F50⟩ : ay_ex hp 8 ∧ ay_ex hp 10 ∧ ay_ex hp 11 ∧ ay_ex hp 12 ∧ pz_x50 (ρ 0) (ρ 1) (ay_at hp 8 5) (ay_at hp 8 6) (ay_at hp 8 7) (ay_at hp 8 8) (ay_at hp 10 0) (ay_at hp 10 1) (ay_at hp 10 2) (ay_at hp 10 3) (ay_at hp 10 4) (ay_at hp 8 9) (ay_at hp 8 11) (ay_at hp 8 10) (ay_at hp 8 3) (ay_at hp 8 4) (ay_at hp 11) (ay_at hp 12) := (ax_XF_lt (by decide)).mp (ax_gx hE (50, [3, 7]) (by decide))
  have F79 : pz7 (pz_gt (ρ 0)) (pz_gN (ρ 0)) ((ρ 1) / 4) 9 := (ax_XF_lt (by decide)).mp (ax_gx hE (79, [3, 7]) (by decide))
  have F47 : py_47 (pz_gt (ρ 0)) (pz_gN (ρ 0)) ((ρ 1) / 4) (ρ 2) (ρ 3) := (ax_XF_lt (by decide)).mp (ax_gx hE (47, [3, 7, 11, 15]) (by decide))
  refine ⟨(fun y hy => by cases hy), _, List.mem_cons_self, ρ, fun _ _ => rfl, ax_px hE (by decide) (fun y hy => ?_)⟩
  cases List.mem_singleton.mp hy
  refine (ax_XF_lt (x := 40) (by decide)).mpr ?_
  show py_40 (ρ 3)
  exact pr_l47 F79 (by decide) F47

theorem axq_sp1_4 : ax_RO ax_wC ax_XC axu_sp1_4 := by
  intro ρ hp hE hT
  have j0 : ρ 0 % 4 = 1 := pz_gj hE 0 (by decide) rfl
  have j1 : ρ 1 % 4 = 1 := pz_gj hE 1 (by decide) rfl
  have j2 : ρ 2 % 4 = 1 := pz_gj hE 2 (by decide) rfl
  have j3 : ρ 3 % 4 = 1 := pz_gj hE 3 (by decide) rfl
  obtain ⟨-, -, -, -, F50⟩ : ay_ex hp 8 ∧ ay_ex hp 10 ∧ ay_ex hp 11 ∧ ay_ex hp 12 ∧ pz_x50 (ρ 0) (ρ 1) (ay_at hp 8 5) (ay_at hp 8 6) (ay_at hp 8 7) (ay_at hp 8 8) (ay_at hp 10 0) (ay_at hp 10 1) (ay_at hp 10 2) (ay_at hp 10 3) (ay_at hp 10 4) (ay_at hp 8 9) (ay_at hp 8 11) (ay_at hp 8 10) (ay_at hp 8 3) (ay_at hp 8 4) (ay_at hp 11) (ay_at hp 12) := (ax_XF_lt (by decide)).mp (ax_gx hE (50, [3, 7]) (by decide))
  have F47 : py_47 (pz_gt (ρ 0)) (pz_gN (ρ 0)) ((ρ 1) / 4) (ρ 2) (ρ 3) := (ax_XF_lt (by decide)).mp (ax_gx hE (47, [3, 7, 11, 15]) (by decide))
  have F44 : py_44 2 (ρ 2) := (ax_XF_lt (by decide)).mp (ax_gx hE (44, [11]) (by decide))
  refine ⟨(fun y hy => by cases hy), _, List.mem_cons_self, ρ, fun _ _ => rfl, ax_px hE (by decide) (fun y hy => ?_)⟩
  cases List.mem_singleton.mp hy
  refine (ax_XF_lt (x := 48) (by decide)).mpr ?_
  show py_48 2 (pz_gt (ρ 0)) (pz_gN (ρ 0)) ((ρ 1) / 4) (ρ 2) (ρ 3)
  exact pr_sp1 F47 F44

theorem axq_sp2c42_4 : ax_RO ax_wC ax_XC axu_sp2c42_4 := by
  intro ρ hp hE hT
  have j0 : ρ 0 % 4 = 1 := pz_gj hE 0 (by decide) rfl
  have j1 : ρ 1 % 4 = 1 := pz_gj hE 1 (by decide) rfl
  have j2 : ρ 2 % 4 = 1 := pz_gj hE 2 (by decide) rfl
  have j3 : ρ 3 % 4 = 1 := pz_gj hE 3 (by decide) rfl
  have j4 : ρ 4 % 4 = 1 := pz_gj hE 4 (by decide) rfl
  obtain ⟨i5a, i5b, i5c, i5d⟩ := pz_gi hE 5 2147483690 2147483690 (by decide) rfl
  have c_kind : ay_at hp 8 7 = some (ρ 5) := ay_gfj hE 42 28 23 8 7 (by decide) (by rw [ax_vl_c (by decide)]) (by rw [ax_vl_c (by decide)])
  obtain ⟨-, -, -, -, F50⟩ : ay_ex hp 8 ∧ ay_ex hp 10 ∧ ay_ex hp 11 ∧ ay_ex hp 12 ∧ pz_x50 (ρ 0) (ρ 1) (ay_at hp 8 5) (ay_at hp 8 6) (ay_at hp 8 7) (ay_at hp 8 8) (ay_at hp 10 0) (ay_at hp 10 1) (ay_at hp 10 2) (ay_at hp 10 3) (ay_at hp 10 4) (ay_at hp 8 9) (ay_at hp 8 11) (ay_at hp 8 10) (ay_at hp 8 3) (ay_at hp 8 4) (ay_at hp 11) (ay_at hp 12) := (ax_XF_lt (by decide)).mp (ax_gx hE (50, [3, 7]) (by decide))
  rw [c_kind] at F50
  have F98 : (ρ 2) / 4 = (ρ 1) / 4 + 1 := (ax_XF_lt (by decide)).mp (ax_gx hE (98, [7, 11]) (by decide))
  have F78 : pz7 (pz_gt (ρ 0)) (pz_gN (ρ 0)) ((ρ 2) / 4) 8 := (ax_XF_lt (by decide)).mp (ax_gx hE (78, [3, 11]) (by decide))
  have F79 : pz7 (pz_gt (ρ 0)) (pz_gN (ρ 0)) ((ρ 1) / 4) 9 := (ax_XF_lt (by decide)).mp (ax_gx hE (79, [3, 7]) (by decide))
  have F48 : py_48 2 (pz_gt (ρ 0)) (pz_gN (ρ 0)) ((ρ 1) / 4) (ρ 3) (ρ 4) := (ax_XF_lt (by decide)).mp (ax_gx hE (48, [3, 7, 15, 19]) (by decide))
  have kd : ρ 5 / 4 = pz_kd (pz_gt (ρ 0)) (pz_gN (ρ 0)) (pz_p (pz_cf (pz_gt (ρ 0)) (pz_gN (ρ 0)) (ρ 1 / 4))) := F50.2.2.1
  rw [F98] at F78
  obtain ⟨ρ', h1, h2⟩ := pz_pn1 (K := ρ 3 / 4 * 4096 + 1005) (xf := [(46, [3, 11, 27, 19]), (99, [27, 4020, 15])]) hE (by decide) (fun ρ' h1 h2 x hx => by
    have q0 : ρ' 0 = ρ 0 := h1 0 (by decide)
    have q1 : ρ' 1 = ρ 1 := h1 1 (by decide)
    have q2 : ρ' 2 = ρ 2 := h1 2 (by decide)
    have q3 : ρ' 3 = ρ 3 := h1 3 (by decide)
    have q4 : ρ' 4 = ρ 4 := h1 4 (by decide)
    have q5 : ρ' 5 = ρ 5 := h1 5 (by decide)
    rcases List.mem_cons.mp hx with e | hx
    · subst e
      refine (ax_XF_lt (x := 46) (by decide)).mpr ?_
      show py_46 (pz_gt (ρ' 0)) (pz_gN (ρ' 0)) ((ρ' 2) / 4) (ρ' 6) (ρ' 4)
      rw [q0, q2, q4, h2]
      rw [F98]
      exact pr_op (q := 42) (c := 4020) (by decide) F79 (by omega) rfl F78 (by decide) (by decide) F48 ⟨pz_41 _, F48.2.1, by decide⟩
    cases List.mem_singleton.mp hx
    refine (ax_XF_lt (x := 99) (by decide)).mpr ?_
    show py_99 (ρ' 6) (4020) (ρ' 3)
    rw [q3, h2]
    exact ⟨pz_41 _, F48.2.1, by decide⟩)
  exact ⟨(fun y hy => by cases hy), _, List.mem_cons_self, ρ', h1, h2⟩

theorem axq_sp3c42_4 : ax_RO ax_wC ax_XC axu_sp3c42_4 := by
  intro ρ hp hE hT
  have j0 : ρ 0 % 4 = 1 := pz_gj hE 0 (by decide) rfl
  have j1 : ρ 1 % 4 = 1 := pz_gj hE 1 (by decide) rfl
  have j2 : ρ 2 % 4 = 1 := pz_gj hE 2 (by decide) rfl
  have j3 : ρ 3 % 4 = 1 := pz_gj hE 3 (by decide) rfl
  have j4 : ρ 4 % 4 = 1 := pz_gj hE 4 (by decide) rfl
  have j5 : ρ 5 % 4 = 1 := pz_gj hE 5 (by decide) rfl
  obtain ⟨i6a, i6b, i6c, i6d⟩ := pz_gi hE 6 2147483690 2147483690 (by decide) rfl
  obtain ⟨-, -, -, -, F50⟩ : ay_ex hp 8 ∧ ay_ex hp 10 ∧ ay_ex hp 11 ∧ ay_ex hp 12 ∧ pz_x50 (ρ 0) (ρ 1) (ay_at hp 8 5) (ay_at hp 8 6) (ay_at hp 8 7) (ay_at hp 8 8) (ay_at hp 10 0) (ay_at hp 10 1) (ay_at hp 10 2) (ay_at hp 10 3) (ay_at hp 10 4) (ay_at hp 8 9) (ay_at hp 8 11) (ay_at hp 8 10) (ay_at hp 8 3) (ay_at hp 8 4) (ay_at hp 11) (ay_at hp 12) := (ax_XF_lt (by decide)).mp (ax_gx hE (50, [3, 7]) (by decide))
  have F47 : py_47 (pz_gt (ρ 0)) (pz_gN (ρ 0)) ((ρ 1) / 4) (ρ 3) (ρ 4) := (ax_XF_lt (by decide)).mp (ax_gx hE (47, [3, 7, 15, 19]) (by decide))
  have F99 : py_99 (ρ 3) (4020) (ρ 2) := (ax_XF_lt (by decide)).mp (ax_gx hE (99, [15, 4020, 11]) (by decide))
  have F44 : py_44 2 (ρ 2) := (ax_XF_lt (by decide)).mp (ax_gx hE (44, [11]) (by decide))
  obtain ⟨-, -, -, F41⟩ : ay_ex hp 10 ∧ ay_ex hp 15 ∧ ay_ex hp 16 ∧ py_x41 (ρ 5) (ay_at hp 10 5) (ay_at hp 15) (ay_at hp 16) := (ax_XF_lt (by decide)).mp (ax_gx hE (41, [23]) (by decide))
  have F99a : py_99 (ρ 5) (4020) (ρ 4) := (ax_XF_lt (by decide)).mp (ax_gx hE (99, [23, 4020, 19]) (by decide))
  refine ⟨(fun y hy => by cases hy), _, List.mem_cons_self, ρ, fun _ _ => rfl, ax_px hE (by decide) (fun y hy => ?_)⟩
  cases List.mem_singleton.mp hy
  refine (ax_XF_lt (x := 48) (by decide)).mpr ?_
  show py_48 2 (pz_gt (ρ 0)) (pz_gN (ρ 0)) ((ρ 1) / 4) (ρ 2) (ρ 5)
  exact pr_sp3 F47 F99 (by decide) F44 F99a

theorem axq_sp2c47_4 : ax_RO ax_wC ax_XC axu_sp2c47_4 := by
  intro ρ hp hE hT
  have j0 : ρ 0 % 4 = 1 := pz_gj hE 0 (by decide) rfl
  have j1 : ρ 1 % 4 = 1 := pz_gj hE 1 (by decide) rfl
  have j2 : ρ 2 % 4 = 1 := pz_gj hE 2 (by decide) rfl
  have j3 : ρ 3 % 4 = 1 := pz_gj hE 3 (by decide) rfl
  have j4 : ρ 4 % 4 = 1 := pz_gj hE 4 (by decide) rfl
  obtain ⟨i5a, i5b, i5c, i5d⟩ := pz_gi hE 5 2147483695 2147483695 (by decide) rfl
  have c_kind : ay_at hp 8 7 = some (ρ 5) := ay_gfj hE 42 28 23 8 7 (by decide) (by rw [ax_vl_c (by decide)]) (by rw [ax_vl_c (by decide)])
  obtain ⟨-, -, -, -, F50⟩ : ay_ex hp 8 ∧ ay_ex hp 10 ∧ ay_ex hp 11 ∧ ay_ex hp 12 ∧ pz_x50 (ρ 0) (ρ 1) (ay_at hp 8 5) (ay_at hp 8 6) (ay_at hp 8 7) (ay_at hp 8 8) (ay_at hp 10 0) (ay_at hp 10 1) (ay_at hp 10 2) (ay_at hp 10 3) (ay_at hp 10 4) (ay_at hp 8 9) (ay_at hp 8 11) (ay_at hp 8 10) (ay_at hp 8 3) (ay_at hp 8 4) (ay_at hp 11) (ay_at hp 12) := (ax_XF_lt (by decide)).mp (ax_gx hE (50, [3, 7]) (by decide))
  rw [c_kind] at F50
  have F98 : (ρ 2) / 4 = (ρ 1) / 4 + 1 := (ax_XF_lt (by decide)).mp (ax_gx hE (98, [7, 11]) (by decide))
  have F78 : pz7 (pz_gt (ρ 0)) (pz_gN (ρ 0)) ((ρ 2) / 4) 8 := (ax_XF_lt (by decide)).mp (ax_gx hE (78, [3, 11]) (by decide))
  have F79 : pz7 (pz_gt (ρ 0)) (pz_gN (ρ 0)) ((ρ 1) / 4) 9 := (ax_XF_lt (by decide)).mp (ax_gx hE (79, [3, 7]) (by decide))
  have F48 : py_48 2 (pz_gt (ρ 0)) (pz_gN (ρ 0)) ((ρ 1) / 4) (ρ 3) (ρ 4) := (ax_XF_lt (by decide)).mp (ax_gx hE (48, [3, 7, 15, 19]) (by decide))
  have kd : ρ 5 / 4 = pz_kd (pz_gt (ρ 0)) (pz_gN (ρ 0)) (pz_p (pz_cf (pz_gt (ρ 0)) (pz_gN (ρ 0)) (ρ 1 / 4))) := F50.2.2.1
  rw [F98] at F78
  obtain ⟨ρ', h1, h2⟩ := pz_pn1 (K := ρ 3 / 4 * 4096 + 1006) (xf := [(46, [3, 11, 27, 19]), (99, [27, 4024, 15])]) hE (by decide) (fun ρ' h1 h2 x hx => by
    have q0 : ρ' 0 = ρ 0 := h1 0 (by decide)
    have q1 : ρ' 1 = ρ 1 := h1 1 (by decide)
    have q2 : ρ' 2 = ρ 2 := h1 2 (by decide)
    have q3 : ρ' 3 = ρ 3 := h1 3 (by decide)
    have q4 : ρ' 4 = ρ 4 := h1 4 (by decide)
    have q5 : ρ' 5 = ρ 5 := h1 5 (by decide)
    rcases List.mem_cons.mp hx with e | hx
    · subst e
      refine (ax_XF_lt (x := 46) (by decide)).mpr ?_
      show py_46 (pz_gt (ρ' 0)) (pz_gN (ρ' 0)) ((ρ' 2) / 4) (ρ' 6) (ρ' 4)
      rw [q0, q2, q4, h2]
      rw [F98]
      exact pr_op (q := 47) (c := 4024) (by decide) F79 (by omega) rfl F78 (by decide) (by decide) F48 ⟨pz_41 _, F48.2.1, by decide⟩
    cases List.mem_singleton.mp hx
    refine (ax_XF_lt (x := 99) (by decide)).mpr ?_
    show py_99 (ρ' 6) (4024) (ρ' 3)
    rw [q3, h2]
    exact ⟨pz_41 _, F48.2.1, by decide⟩)
  exact ⟨(fun y hy => by cases hy), _, List.mem_cons_self, ρ', h1, h2⟩

theorem axq_sp3c47_4 : ax_RO ax_wC ax_XC axu_sp3c47_4 := by
  intro ρ hp hE hT
  have j0 : ρ 0 % 4 = 1 := pz_gj hE 0 (by decide) rfl
  have j1 : ρ 1 % 4 = 1 := pz_gj hE 1 (by decide) rfl
  have j2 : ρ 2 % 4 = 1 := pz_gj hE 2 (by decide) rfl
  have j3 : ρ 3 % 4 = 1 := pz_gj hE 3 (by decide) rfl
  have j4 : ρ 4 % 4 = 1 := pz_gj hE 4 (by decide) rfl
  have j5 : ρ 5 % 4 = 1 := pz_gj hE 5 (by decide) rfl
  obtain ⟨i6a, i6b, i6c, i6d⟩ := pz_gi hE 6 2147483695 2147483695 (by decide) rfl
  obtain ⟨-, -, -, -, F50⟩ : ay_ex hp 8 ∧ ay_ex hp 10 ∧ ay_ex hp 11 ∧ ay_ex hp 12 ∧ pz_x50 (ρ 0) (ρ 1) (ay_at hp 8 5) (ay_at hp 8 6) (ay_at hp 8 7) (ay_at hp 8 8) (ay_at hp 10 0) (ay_at hp 10 1) (ay_at hp 10 2) (ay_at hp 10 3) (ay_at hp 10 4) (ay_at hp 8 9) (ay_at hp 8 11) (ay_at hp 8 10) (ay_at hp 8 3) (ay_at hp 8 4) (ay_at hp 11) (ay_at hp 12) := (ax_XF_lt (by decide)).mp (ax_gx hE (50, [3, 7]) (by decide))
  have F47 : py_47 (pz_gt (ρ 0)) (pz_gN (ρ 0)) ((ρ 1) / 4) (ρ 3) (ρ 4) := (ax_XF_lt (by decide)).mp (ax_gx hE (47, [3, 7, 15, 19]) (by decide))
  have F99 : py_99 (ρ 3) (4024) (ρ 2) := (ax_XF_lt (by decide)).mp (ax_gx hE (99, [15, 4024, 11]) (by decide))
  have F44 : py_44 2 (ρ 2) := (ax_XF_lt (by decide)).mp (ax_gx hE (44, [11]) (by decide))
  obtain ⟨-, -, -, F41⟩ : ay_ex hp 10 ∧ ay_ex hp 15 ∧ ay_ex hp 16 ∧ py_x41 (ρ 5) (ay_at hp 10 5) (ay_at hp 15) (ay_at hp 16) := (ax_XF_lt (by decide)).mp (ax_gx hE (41, [23]) (by decide))
  have F99a : py_99 (ρ 5) (4024) (ρ 4) := (ax_XF_lt (by decide)).mp (ax_gx hE (99, [23, 4024, 19]) (by decide))
  refine ⟨(fun y hy => by cases hy), _, List.mem_cons_self, ρ, fun _ _ => rfl, ax_px hE (by decide) (fun y hy => ?_)⟩
  cases List.mem_singleton.mp hy
  refine (ax_XF_lt (x := 48) (by decide)).mpr ?_
  show py_48 2 (pz_gt (ρ 0)) (pz_gN (ρ 0)) ((ρ 1) / 4) (ρ 2) (ρ 5)
  exact pr_sp3 F47 F99 (by decide) F44 F99a

theorem axq_sp2c37_4 : ax_RO ax_wC ax_XC axu_sp2c37_4 := by
  intro ρ hp hE hT
  have j0 : ρ 0 % 4 = 1 := pz_gj hE 0 (by decide) rfl
  have j1 : ρ 1 % 4 = 1 := pz_gj hE 1 (by decide) rfl
  have j2 : ρ 2 % 4 = 1 := pz_gj hE 2 (by decide) rfl
  have j3 : ρ 3 % 4 = 1 := pz_gj hE 3 (by decide) rfl
  have j4 : ρ 4 % 4 = 1 := pz_gj hE 4 (by decide) rfl
  obtain ⟨i5a, i5b, i5c, i5d⟩ := pz_gi hE 5 2147483685 2147483685 (by decide) rfl
  have c_kind : ay_at hp 8 7 = some (ρ 5) := ay_gfj hE 42 28 23 8 7 (by decide) (by rw [ax_vl_c (by decide)]) (by rw [ax_vl_c (by decide)])
  obtain ⟨-, -, -, -, F50⟩ : ay_ex hp 8 ∧ ay_ex hp 10 ∧ ay_ex hp 11 ∧ ay_ex hp 12 ∧ pz_x50 (ρ 0) (ρ 1) (ay_at hp 8 5) (ay_at hp 8 6) (ay_at hp 8 7) (ay_at hp 8 8) (ay_at hp 10 0) (ay_at hp 10 1) (ay_at hp 10 2) (ay_at hp 10 3) (ay_at hp 10 4) (ay_at hp 8 9) (ay_at hp 8 11) (ay_at hp 8 10) (ay_at hp 8 3) (ay_at hp 8 4) (ay_at hp 11) (ay_at hp 12) := (ax_XF_lt (by decide)).mp (ax_gx hE (50, [3, 7]) (by decide))
  rw [c_kind] at F50
  have F98 : (ρ 2) / 4 = (ρ 1) / 4 + 1 := (ax_XF_lt (by decide)).mp (ax_gx hE (98, [7, 11]) (by decide))
  have F78 : pz7 (pz_gt (ρ 0)) (pz_gN (ρ 0)) ((ρ 2) / 4) 8 := (ax_XF_lt (by decide)).mp (ax_gx hE (78, [3, 11]) (by decide))
  have F79 : pz7 (pz_gt (ρ 0)) (pz_gN (ρ 0)) ((ρ 1) / 4) 9 := (ax_XF_lt (by decide)).mp (ax_gx hE (79, [3, 7]) (by decide))
  have F48 : py_48 2 (pz_gt (ρ 0)) (pz_gN (ρ 0)) ((ρ 1) / 4) (ρ 3) (ρ 4) := (ax_XF_lt (by decide)).mp (ax_gx hE (48, [3, 7, 15, 19]) (by decide))
  have kd : ρ 5 / 4 = pz_kd (pz_gt (ρ 0)) (pz_gN (ρ 0)) (pz_p (pz_cf (pz_gt (ρ 0)) (pz_gN (ρ 0)) (ρ 1 / 4))) := F50.2.2.1
  rw [F98] at F78
  obtain ⟨ρ', h1, h2⟩ := pz_pn1 (K := ρ 3 / 4 * 4096 + 1007) (xf := [(46, [3, 11, 27, 19]), (99, [27, 4028, 15])]) hE (by decide) (fun ρ' h1 h2 x hx => by
    have q0 : ρ' 0 = ρ 0 := h1 0 (by decide)
    have q1 : ρ' 1 = ρ 1 := h1 1 (by decide)
    have q2 : ρ' 2 = ρ 2 := h1 2 (by decide)
    have q3 : ρ' 3 = ρ 3 := h1 3 (by decide)
    have q4 : ρ' 4 = ρ 4 := h1 4 (by decide)
    have q5 : ρ' 5 = ρ 5 := h1 5 (by decide)
    rcases List.mem_cons.mp hx with e | hx
    · subst e
      refine (ax_XF_lt (x := 46) (by decide)).mpr ?_
      show py_46 (pz_gt (ρ' 0)) (pz_gN (ρ' 0)) ((ρ' 2) / 4) (ρ' 6) (ρ' 4)
      rw [q0, q2, q4, h2]
      rw [F98]
      exact pr_op (q := 37) (c := 4028) (by decide) F79 (by omega) rfl F78 (by decide) (by decide) F48 ⟨pz_41 _, F48.2.1, by decide⟩
    cases List.mem_singleton.mp hx
    refine (ax_XF_lt (x := 99) (by decide)).mpr ?_
    show py_99 (ρ' 6) (4028) (ρ' 3)
    rw [q3, h2]
    exact ⟨pz_41 _, F48.2.1, by decide⟩)
  exact ⟨(fun y hy => by cases hy), _, List.mem_cons_self, ρ', h1, h2⟩

theorem axq_sp3c37_4 : ax_RO ax_wC ax_XC axu_sp3c37_4 := by
  intro ρ hp hE hT
  have j0 : ρ 0 % 4 = 1 := pz_gj hE 0 (by decide) rfl
  have j1 : ρ 1 % 4 = 1 := pz_gj hE 1 (by decide) rfl
  have j2 : ρ 2 % 4 = 1 := pz_gj hE 2 (by decide) rfl
  have j3 : ρ 3 % 4 = 1 := pz_gj hE 3 (by decide) rfl
  have j4 : ρ 4 % 4 = 1 := pz_gj hE 4 (by decide) rfl
  have j5 : ρ 5 % 4 = 1 := pz_gj hE 5 (by decide) rfl
  obtain ⟨i6a, i6b, i6c, i6d⟩ := pz_gi hE 6 2147483685 2147483685 (by decide) rfl
  obtain ⟨-, -, -, -, F50⟩ : ay_ex hp 8 ∧ ay_ex hp 10 ∧ ay_ex hp 11 ∧ ay_ex hp 12 ∧ pz_x50 (ρ 0) (ρ 1) (ay_at hp 8 5) (ay_at hp 8 6) (ay_at hp 8 7) (ay_at hp 8 8) (ay_at hp 10 0) (ay_at hp 10 1) (ay_at hp 10 2) (ay_at hp 10 3) (ay_at hp 10 4) (ay_at hp 8 9) (ay_at hp 8 11) (ay_at hp 8 10) (ay_at hp 8 3) (ay_at hp 8 4) (ay_at hp 11) (ay_at hp 12) := (ax_XF_lt (by decide)).mp (ax_gx hE (50, [3, 7]) (by decide))
  have F47 : py_47 (pz_gt (ρ 0)) (pz_gN (ρ 0)) ((ρ 1) / 4) (ρ 3) (ρ 4) := (ax_XF_lt (by decide)).mp (ax_gx hE (47, [3, 7, 15, 19]) (by decide))
  have F99 : py_99 (ρ 3) (4028) (ρ 2) := (ax_XF_lt (by decide)).mp (ax_gx hE (99, [15, 4028, 11]) (by decide))
  have F44 : py_44 2 (ρ 2) := (ax_XF_lt (by decide)).mp (ax_gx hE (44, [11]) (by decide))
  obtain ⟨-, -, -, F41⟩ : ay_ex hp 10 ∧ ay_ex hp 15 ∧ ay_ex hp 16 ∧ py_x41 (ρ 5) (ay_at hp 10 5) (ay_at hp 15) (ay_at hp 16) := (ax_XF_lt (by decide)).mp (ax_gx hE (41, [23]) (by decide))
  have F99a : py_99 (ρ 5) (4028) (ρ 4) := (ax_XF_lt (by decide)).mp (ax_gx hE (99, [23, 4028, 19]) (by decide))
  refine ⟨(fun y hy => by cases hy), _, List.mem_cons_self, ρ, fun _ _ => rfl, ax_px hE (by decide) (fun y hy => ?_)⟩
  cases List.mem_singleton.mp hy
  refine (ax_XF_lt (x := 48) (by decide)).mpr ?_
  show py_48 2 (pz_gt (ρ 0)) (pz_gN (ρ 0)) ((ρ 1) / 4) (ρ 2) (ρ 5)
  exact pr_sp3 F47 F99 (by decide) F44 F99a

theorem axq_spl_4 : ax_RO ax_wC ax_XC axu_spl_4 := by
  intro ρ hp hE hT
  have j0 : ρ 0 % 4 = 1 := pz_gj hE 0 (by decide) rfl
  have j1 : ρ 1 % 4 = 1 := pz_gj hE 1 (by decide) rfl
  have j2 : ρ 2 % 4 = 1 := pz_gj hE 2 (by decide) rfl
  have j3 : ρ 3 % 4 = 1 := pz_gj hE 3 (by decide) rfl
  obtain ⟨-, -, -, -, F50⟩ : ay_ex hp 8 ∧ ay_ex hp 10 ∧ ay_ex hp 11 ∧ ay_ex hp 12 ∧ pz_x50 (ρ 0) (ρ 1) (ay_at hp 8 5) (ay_at hp 8 6) (ay_at hp 8 7) (ay_at hp 8 8) (ay_at hp 10 0) (ay_at hp 10 1) (ay_at hp 10 2) (ay_at hp 10 3) (ay_at hp 10 4) (ay_at hp 8 9) (ay_at hp 8 11) (ay_at hp 8 10) (ay_at hp 8 3) (ay_at hp 8 4) (ay_at hp 11) (ay_at hp 12) := (ax_XF_lt (by decide)).mp (ax_gx hE (50, [3, 7]) (by decide))
  have F79 : pz7 (pz_gt (ρ 0)) (pz_gN (ρ 0)) ((ρ 1) / 4) 9 := (ax_XF_lt (by decide)).mp (ax_gx hE (79, [3, 7]) (by decide))
  have F47 : py_47 (pz_gt (ρ 0)) (pz_gN (ρ 0)) ((ρ 1) / 4) (ρ 2) (ρ 3) := (ax_XF_lt (by decide)).mp (ax_gx hE (47, [3, 7, 11, 15]) (by decide))
  refine ⟨(fun y hy => by cases hy), _, List.mem_cons_self, ρ, fun _ _ => rfl, ax_px hE (by decide) (fun y hy => ?_)⟩
  cases List.mem_singleton.mp hy
  refine (ax_XF_lt (x := 40) (by decide)).mpr ?_
  show py_40 (ρ 3)
  exact pr_l47 F79 (by decide) F47

theorem axq_sp1_5 : ax_RO ax_wC ax_XC axu_sp1_5 := by
  intro ρ hp hE hT
  have j0 : ρ 0 % 4 = 1 := pz_gj hE 0 (by decide) rfl
  have j1 : ρ 1 % 4 = 1 := pz_gj hE 1 (by decide) rfl
  have j2 : ρ 2 % 4 = 1 := pz_gj hE 2 (by decide) rfl
  have j3 : ρ 3 % 4 = 1 := pz_gj hE 3 (by decide) rfl
  obtain ⟨-, -, -, -, F50⟩ : ay_ex hp 8 ∧ ay_ex hp 10 ∧ ay_ex hp 11 ∧ ay_ex hp 12 ∧ pz_x50 (ρ 0) (ρ 1) (ay_at hp 8 5) (ay_at hp 8 6) (ay_at hp 8 7) (ay_at hp 8 8) (ay_at hp 10 0) (ay_at hp 10 1) (ay_at hp 10 2) (ay_at hp 10 3) (ay_at hp 10 4) (ay_at hp 8 9) (ay_at hp 8 11) (ay_at hp 8 10) (ay_at hp 8 3) (ay_at hp 8 4) (ay_at hp 11) (ay_at hp 12) := (ax_XF_lt (by decide)).mp (ax_gx hE (50, [3, 7]) (by decide))
  have F47 : py_47 (pz_gt (ρ 0)) (pz_gN (ρ 0)) ((ρ 1) / 4) (ρ 2) (ρ 3) := (ax_XF_lt (by decide)).mp (ax_gx hE (47, [3, 7, 11, 15]) (by decide))
  have F44 : py_44 2 (ρ 2) := (ax_XF_lt (by decide)).mp (ax_gx hE (44, [11]) (by decide))
  refine ⟨(fun y hy => by cases hy), _, List.mem_cons_self, ρ, fun _ _ => rfl, ax_px hE (by decide) (fun y hy => ?_)⟩
  cases List.mem_singleton.mp hy
  refine (ax_XF_lt (x := 48) (by decide)).mpr ?_
  show py_48 2 (pz_gt (ρ 0)) (pz_gN (ρ 0)) ((ρ 1) / 4) (ρ 2) (ρ 3)
  exact pr_sp1 F47 F44

