theorem axq_sp2c42_5 : ax_RO ax_wC ax_XC axu_sp2c42_5 := by
  intro ρ hp hE hT
  have j0 : ρ 0 % 4 = 1 := pz_gj hE 0 (by decide) rfl
  have j1 : ρ 1 % 4 = 1 := pz_gj hE 1 (by decide) rfl
  have j2 : ρ 2 % 4 = 1 := pz_gj hE 2 (by decide) rfl
  have j3 : ρ 3 % 4 = 1 := pz_gj hE 3 (by decide) rfl
  have j4 : ρ 4 % 4 = 1 := pz_gj hE 4 (by decide) rfl
  obtain ⟨i5a, i5b, i5c, i5d⟩ := pz_gi hE 5 2147483690 2147483690 (by decide) rfl
  have c_kind : ay_at hp 8 7 = some (ρ 5) := ay_gfj hE 42 28 23 8 7 (by decide) (by rw [ax_vl_c (by decide)]) (by rw [ax_vl_c (by decide)])
  obtain ⟨-, -, -, -, F50⟩ : ay_ex hp 8 ∧ ay_ex hp 10 ∧ ay_ex hp 11 ∧ ay_ex hp 12 ∧ pz_x50 (ρ 0) (ρ 1) (ay_at hp 8 5) (ay_at hp 8 6) (ay_at hp 8 7) (ay_at hp 8 8) (ay_at hp 10 0) (ay_at hp 10 1) (ay_at hp 10 2) (ay_at hp 10 3) (ay_at hp 10 4) (ay_at hp 8 9) (ay_at hp 8 11) (ay_at hp 8 10) (ay_at hp 8 3) (ay_at hp 8 4) (ay_at hp 11) (ay_at hp 12) := (ax_XF_lt (by decide)).mp (ax_gx hE (50, [3, 7]) (by decide))
  rw [c_kind] at F50
  have F98 : (ρ 2) / 4 = (ρ 1) / 4 + 1 := (ax_XF_lt (by decide)).mp (ax_gx hE (98, [7, 11]) (by decide))
  have F78 : pz7 (pz_gt (ρ 0)) (pz_gN (ρ 0)) ((ρ 2) / 4) 8 := (ax_XF_lt (by decide)).mp (ax_gx hE (78, [3, 11]) (by decide))
  have F79 : pz7 (pz_gt (ρ 0)) (pz_gN (ρ 0)) ((ρ 1) / 4) 9 := (ax_XF_lt (by decide)).mp (ax_gx hE (79, [3, 7]) (by decide))
  have F48 : py_48 2 (pz_gt (ρ 0)) (pz_gN (ρ 0)) ((ρ 1) / 4) (ρ 3) (ρ 4) := (ax_XF_lt (by decide)).mp (ax_gx hE (48, [3, 7, 15, 19]) (by decide))
  have kd : ρ 5 / 4 = pz_kd (pz_gt (ρ 0)) (pz_gN (ρ 0)) (pz_p (pz_cf (pz_gt (ρ 0)) (pz_gN (ρ 0)) (ρ 1 / 4))) := F50.2.2.1
  rw [F98] at F78
  obtain ⟨ρ', h1, h2⟩ := pz_pn1 (K := ρ 3 / 4 * 4096 + 1005) (xf := [(46, [3, 11, 27, 19]), (99, [27, 4020, 15])]) hE (by decide) (fun ρ' h1 h2 x hx => by
    have q0 : ρ' 0 = ρ 0 := h1 0 (by decide)
    have q1 : ρ' 1 = ρ 1 := h1 1 (by decide)
    have q2 : ρ' 2 = ρ 2 := h1 2 (by decide)
    have q3 : ρ' 3 = ρ 3 := h1 3 (by decide)
    have q4 : ρ' 4 = ρ 4 := h1 4 (by decide)
    have q5 : ρ' 5 = ρ 5 := h1 5 (by decide)
    rcases List.mem_cons.mp hx with e | hx
    · subst e
      refine (ax_XF_lt (x := 46) (by decide)).mpr ?_
      show py_46 (pz_gt (ρ' 0)) (pz_gN (ρ' 0)) ((ρ' 2) / 4) (ρ' 6) (ρ' 4)
      rw [q0, q2, q4, h2]
      rw [F98]
      exact pr_op (q := 42) (c := 4020) (by decide) F79 (by omega) rfl F78 (by decide) (by decide) F48 ⟨pz_41 _, F48.2.1, by decide⟩
    cases List.mem_singleton.mp hx
    refine (ax_XF_lt (x := 99) (by decide)).mpr ?_
    show py_99 (ρ' 6) (4020) (ρ' 3)
    rw [q3, h2]
    exact ⟨pz_41 _, F48.2.1, by decide⟩)
  exact ⟨(fun y hy => by cases hy), _, List.mem_cons_self, ρ', h1, h2⟩

theorem axq_sp3c42_5 : ax_RO ax_wC ax_XC axu_sp3c42_5 := by
  intro ρ hp hE hT
  have j0 : ρ 0 % 4 = 1 := pz_gj hE 0 (by decide) rfl
  have j1 : ρ 1 % 4 = 1 := pz_gj hE 1 (by decide) rfl
  have j2 : ρ 2 % 4 = 1 := pz_gj hE 2 (by decide) rfl
  have j3 : ρ 3 % 4 = 1 := pz_gj hE 3 (by decide) rfl
  have j4 : ρ 4 % 4 = 1 := pz_gj hE 4 (by decide) rfl
  have j5 : ρ 5 % 4 = 1 := pz_gj hE 5 (by decide) rfl
  obtain ⟨i6a, i6b, i6c, i6d⟩ := pz_gi hE 6 2147483690 2147483690 (by decide) rfl
  obtain ⟨-, -, -, -, F50⟩ : ay_ex hp 8 ∧ ay_ex hp 10 ∧ ay_ex hp 11 ∧ ay_ex hp 12 ∧ pz_x50 (ρ 0) (ρ 1) (ay_at hp 8 5) (ay_at hp 8 6) (ay_at hp 8 7) (ay_at hp 8 8) (ay_at hp 10 0) (ay_at hp 10 1) (ay_at hp 10 2) (ay_at hp 10 3) (ay_at hp 10 4) (ay_at hp 8 9) (ay_at hp 8 11) (ay_at hp 8 10) (ay_at hp 8 3) (ay_at hp 8 4) (ay_at hp 11) (ay_at hp 12) := (ax_XF_lt (by decide)).mp (ax_gx hE (50, [3, 7]) (by decide))
  have F47 : py_47 (pz_gt (ρ 0)) (pz_gN (ρ 0)) ((ρ 1) / 4) (ρ 3) (ρ 4) := (ax_XF_lt (by decide)).mp (ax_gx hE (47, [3, 7, 15, 19]) (by decide))
  have F99 : py_99 (ρ 3) (4020) (ρ 2) := (ax_XF_lt (by decide)).mp (ax_gx hE (99, [15, 4020, 11]) (by decide))
  have F44 : py_44 2 (ρ 2) := (ax_XF_lt (by decide)).mp (ax_gx hE (44, [11]) (by decide))
  obtain ⟨-, -, -, F41⟩ : ay_ex hp 10 ∧ ay_ex hp 15 ∧ ay_ex hp 16 ∧ py_x41 (ρ 5) (ay_at hp 10 5) (ay_at hp 15) (ay_at hp 16) := (ax_XF_lt (by decide)).mp (ax_gx hE (41, [23]) (by decide))
  have F99a : py_99 (ρ 5) (4020) (ρ 4) := (ax_XF_lt (by decide)).mp (ax_gx hE (99, [23, 4020, 19]) (by decide))
  refine ⟨(fun y hy => by cases hy), _, List.mem_cons_self, ρ, fun _ _ => rfl, ax_px hE (by decide) (fun y hy => ?_)⟩
  cases List.mem_singleton.mp hy
  refine (ax_XF_lt (x := 48) (by decide)).mpr ?_
  show py_48 2 (pz_gt (ρ 0)) (pz_gN (ρ 0)) ((ρ 1) / 4) (ρ 2) (ρ 5)
  exact pr_sp3 F47 F99 (by decide) F44 F99a

theorem axq_sp2c47_5 : ax_RO ax_wC ax_XC axu_sp2c47_5 := by
  intro ρ hp hE hT
  have j0 : ρ 0 % 4 = 1 := pz_gj hE 0 (by decide) rfl
  have j1 : ρ 1 % 4 = 1 := pz_gj hE 1 (by decide) rfl
  have j2 : ρ 2 % 4 = 1 := pz_gj hE 2 (by decide) rfl
  have j3 : ρ 3 % 4 = 1 := pz_gj hE 3 (by decide) rfl
  have j4 : ρ 4 % 4 = 1 := pz_gj hE 4 (by decide) rfl
  obtain ⟨i5a, i5b, i5c, i5d⟩ := pz_gi hE 5 2147483695 2147483695 (by decide) rfl
  have c_kind : ay_at hp 8 7 = some (ρ 5) := ay_gfj hE 42 28 23 8 7 (by decide) (by rw [ax_vl_c (by decide)]) (by rw [ax_vl_c (by decide)])
  obtain ⟨-, -, -, -, F50⟩ : ay_ex hp 8 ∧ ay_ex hp 10 ∧ ay_ex hp 11 ∧ ay_ex hp 12 ∧ pz_x50 (ρ 0) (ρ 1) (ay_at hp 8 5) (ay_at hp 8 6) (ay_at hp 8 7) (ay_at hp 8 8) (ay_at hp 10 0) (ay_at hp 10 1) (ay_at hp 10 2) (ay_at hp 10 3) (ay_at hp 10 4) (ay_at hp 8 9) (ay_at hp 8 11) (ay_at hp 8 10) (ay_at hp 8 3) (ay_at hp 8 4) (ay_at hp 11) (ay_at hp 12) := (ax_XF_lt (by decide)).mp (ax_gx hE (50, [3, 7]) (by decide))
  rw [c_kind] at F50
  have F98 : (ρ 2) / 4 = (ρ 1) / 4 + 1 := (ax_XF_lt (by decide)).mp (ax_gx hE (98, [7, 11]) (by decide))
  have F78 : pz7 (pz_gt (ρ 0)) (pz_gN (ρ 0)) ((ρ 2) / 4) 8 := (ax_XF_lt (by decide)).mp (ax_gx hE (78, [3, 11]) (by decide))
  have F79 : pz7 (pz_gt (ρ 0)) (pz_gN (ρ 0)) ((ρ 1) / 4) 9 := (ax_XF_lt (by decide)).mp (ax_gx hE (79, [3, 7]) (by decide))
  have F48 : py_48 2 (pz_gt (ρ 0)) (pz_gN (ρ 0)) ((ρ 1) / 4) (ρ 3) (ρ 4) := (ax_XF_lt (by decide)).mp (ax_gx hE (48, [3, 7, 15, 19]) (by decide))
  have kd : ρ 5 / 4 = pz_kd (pz_gt (ρ 0)) (pz_gN (ρ 0)) (pz_p (pz_cf (pz_gt (ρ 0)) (pz_gN (ρ 0)) (ρ 1 / 4))) := F50.2.2.1
  rw [F98] at F78
  obtain ⟨ρ', h1, h2⟩ := pz_pn1 (K := ρ 3 / 4 * 4096 + 1006) (xf := [(46, [3, 11, 27, 19]), (99, [27, 4024, 15])]) hE (by decide) (fun ρ' h1 h2 x hx => by
    have q0 : ρ' 0 = ρ 0 := h1 0 (by decide)
    have q1 : ρ' 1 = ρ 1 := h1 1 (by decide)
    have q2 : ρ' 2 = ρ 2 := h1 2 (by decide)
    have q3 : ρ' 3 = ρ 3 := h1 3 (by decide)
    have q4 : ρ' 4 = ρ 4 := h1 4 (by decide)
    have q5 : ρ' 5 = ρ 5 := h1 5 (by decide)
    rcases List.mem_cons.mp hx with e | hx
    · subst e
      refine (ax_XF_lt (x := 46) (by decide)).mpr ?_
      show py_46 (pz_gt (ρ' 0)) (pz_gN (ρ' 0)) ((ρ' 2) / 4) (ρ' 6) (ρ' 4)
      rw [q0, q2, q4, h2]
      rw [F98]
      exact pr_op (q := 47) (c := 4024) (by decide) F79 (by omega) rfl F78 (by decide) (by decide) F48 ⟨pz_41 _, F48.2.1, by decide⟩
    cases List.mem_singleton.mp hx
    refine (ax_XF_lt (x := 99) (by decide)).mpr ?_
    show py_99 (ρ' 6) (4024) (ρ' 3)
    rw [q3, h2]
    exact ⟨pz_41 _, F48.2.1, by decide⟩)
  exact ⟨(fun y hy => by cases hy), _, List.mem_cons_self, ρ', h1, h2⟩

theorem axq_sp3c47_5 : ax_RO ax_wC ax_XC axu_sp3c47_5 := by
  intro ρ hp hE hT
  have j0 : ρ 0 % 4 = 1 := pz_gj hE 0 (by decide) rfl
  have j1 : ρ 1 % 4 = 1 := pz_gj hE 1 (by decide) rfl
  have j2 : ρ 2 % 4 = 1 := pz_gj hE 2 (by decide) rfl
  have j3 : ρ 3 % 4 = 1 := pz_gj hE 3 (by decide) rfl
  have j4 : ρ 4 % 4 = 1 := pz_gj hE 4 (by decide) rfl
  have j5 : ρ 5 % 4 = 1 := pz_gj hE 5 (by decide) rfl
  obtain ⟨i6a, i6b, i6c, i6d⟩ := pz_gi hE 6 2147483695 2147483695 (by decide) rfl
  obtain ⟨-, -, -, -, F50⟩ : ay_ex hp 8 ∧ ay_ex hp 10 ∧ ay_ex hp 11 ∧ ay_ex hp 12 ∧ pz_x50 (ρ 0) (ρ 1) (ay_at hp 8 5) (ay_at hp 8 6) (ay_at hp 8 7) (ay_at hp 8 8) (ay_at hp 10 0) (ay_at hp 10 1) (ay_at hp 10 2) (ay_at hp 10 3) (ay_at hp 10 4) (ay_at hp 8 9) (ay_at hp 8 11) (ay_at hp 8 10) (ay_at hp 8 3) (ay_at hp 8 4) (ay_at hp 11) (ay_at hp 12) := (ax_XF_lt (by decide)).mp (ax_gx hE (50, [3, 7]) (by decide))
  have F47 : py_47 (pz_gt (ρ 0)) (pz_gN (ρ 0)) ((ρ 1) / 4) (ρ 3) (ρ 4) := (ax_XF_lt (by decide)).mp (ax_gx hE (47, [3, 7, 15, 19]) (by decide))
  have F99 : py_99 (ρ 3) (4024) (ρ 2) := (ax_XF_lt (by decide)).mp (ax_gx hE (99, [15, 4024, 11]) (by decide))
  have F44 : py_44 2 (ρ 2) := (ax_XF_lt (by decide)).mp (ax_gx hE (44, [11]) (by decide))
  obtain ⟨-, -, -, F41⟩ : ay_ex hp 10 ∧ ay_ex hp 15 ∧ ay_ex hp 16 ∧ py_x41 (ρ 5) (ay_at hp 10 5) (ay_at hp 15) (ay_at hp 16) := (ax_XF_lt (by decide)).mp (ax_gx hE (41, [23]) (by decide))
  have F99a : py_99 (ρ 5) (4024) (ρ 4) := (ax_XF_lt (by decide)).mp (ax_gx hE (99, [23, 4024, 19]) (by decide))
  refine ⟨(fun y hy => by cases hy), _, List.mem_cons_self, ρ, fun _ _ => rfl, ax_px hE (by decide) (fun y hy => ?_)⟩
  cases List.mem_singleton.mp hy
  refine (ax_XF_lt (x := 48) (by decide)).mpr ?_
  show py_48 2 (pz_gt (ρ 0)) (pz_gN (ρ 0)) ((ρ 1) / 4) (ρ 2) (ρ 5)
  exact pr_sp3 F47 F99 (by decide) F44 F99a

theorem axq_sp2c37_5 : ax_RO ax_wC ax_XC axu_sp2c37_5 := by
  intro ρ hp hE hT
  have j0 : ρ 0 % 4 = 1 := pz_gj hE 0 (by decide) rfl
  have j1 : ρ 1 % 4 = 1 := pz_gj hE 1 (by decide) rfl
  have j2 : ρ 2 % 4 = 1 := pz_gj hE 2 (by decide) rfl
  have j3 : ρ 3 % 4 = 1 := pz_gj hE 3 (by decide) rfl
  have j4 : ρ 4 % 4 = 1 := pz_gj hE 4 (by decide) rfl
  obtain ⟨i5a, i5b, i5c, i5d⟩ := pz_gi hE 5 2147483685 2147483685 (by decide) rfl
  have c_kind : ay_at hp 8 7 = some (ρ 5) := ay_gfj hE 42 28 23 8 7 (by decide) (by rw [ax_vl_c (by decide)]) (by rw [ax_vl_c (by decide)])
  obtain ⟨-, -, -, -, F50⟩ : ay_ex hp 8 ∧ ay_ex hp 10 ∧ ay_ex hp 11 ∧ ay_ex hp 12 ∧ pz_x50 (ρ 0) (ρ 1) (ay_at hp 8 5) (ay_at hp 8 6) (ay_at hp 8 7) (ay_at hp 8 8) (ay_at hp 10 0) (ay_at hp 10 1) (ay_at hp 10 2) (ay_at hp 10 3) (ay_at hp 10 4) (ay_at hp 8 9) (ay_at hp 8 11) (ay_at hp 8 10) (ay_at hp 8 3) (ay_at hp 8 4) (ay_at hp 11) (ay_at hp 12) := (ax_XF_lt (by decide)).mp (ax_gx hE (50, [3, 7]) (by decide))
  rw [c_kind] at F50
  have F98 : (ρ 2) / 4 = (ρ 1) / 4 + 1 := (ax_XF_lt (by decide)).mp (ax_gx hE (98, [7, 11]) (by decide))
  have F78 : pz7 (pz_gt (ρ 0)) (pz_gN (ρ 0)) ((ρ 2) / 4) 8 := (ax_XF_lt (by decide)).mp (ax_gx hE (78, [3, 11]) (by decide))
  have F79 : pz7 (pz_gt (ρ 0)) (pz_gN (ρ 0)) ((ρ 1) / 4) 9 := (ax_XF_lt (by decide)).mp (ax_gx hE (79, [3, 7]) (by decide))
  have F48 : py_48 2 (pz_gt (ρ 0)) (pz_gN (ρ 0)) ((ρ 1) / 4) (ρ 3) (ρ 4) := (ax_XF_lt (by decide)).mp (ax_gx hE (48, [3, 7, 15, 19]) (by decide))
  have kd : ρ 5 / 4 = pz_kd (pz_gt (ρ 0)) (pz_gN (ρ 0)) (pz_p (pz_cf (pz_gt (ρ 0)) (pz_gN (ρ 0)) (ρ 1 / 4))) := F50.2.2.1
  rw [F98] at F78
  obtain ⟨ρ', h1, h2⟩ := pz_pn1 (K := ρ 3 / 4 * 4096 + 1007) (xf := [(46, [3, 11, 27, 19]), (99, [27, 4028, 15])]) hE (by decide) (fun ρ' h1 h2 x hx => by
    have q0 : ρ' 0 = ρ 0 := h1 0 (by decide)
    have q1 : ρ' 1 = ρ 1 := h1 1 (by decide)
    have q2 : ρ' 2 = ρ 2 := h1 2 (by decide)
    have q3 : ρ' 3 = ρ 3 := h1 3 (by decide)
    have q4 : ρ' 4 = ρ 4 := h1 4 (by decide)
    have q5 : ρ' 5 = ρ 5 := h1 5 (by decide)
    rcases List.mem_cons.mp hx with e | hx
    · subst e
      refine (ax_XF_lt (x := 46) (by decide)).mpr ?_
      show py_46 (pz_gt (ρ' 0)) (pz_gN (ρ' 0)) ((ρ' 2) / 4) (ρ' 6) (ρ' 4)
      rw [q0, q2, q4, h2]
      rw [F98]
      exact pr_op (q := 37) (c := 4028) (by decide) F79 (by omega) rfl F78 (by decide) (by decide) F48 ⟨pz_41 _, F48.2.1, by decide⟩
    cases List.mem_singleton.mp hx
    refine (ax_XF_lt (x := 99) (by decide)).mpr ?_
    show py_99 (ρ' 6) (4028) (ρ' 3)
    rw [q3, h2]
    exact ⟨pz_41 _, F48.2.1, by decide⟩)
  exact ⟨(fun y hy => by cases hy), _, List.mem_cons_self, ρ', h1, h2⟩

theorem axq_sp3c37_5 : ax_RO ax_wC ax_XC axu_sp3c37_5 := by
  intro ρ hp hE hT
  have j0 : ρ 0 % 4 = 1 := pz_gj hE 0 (by decide) rfl
  have j1 : ρ 1 % 4 = 1 := pz_gj hE 1 (by decide) rfl
  have j2 : ρ 2 % 4 = 1 := pz_gj hE 2 (by decide) rfl
  have j3 : ρ 3 % 4 = 1 := pz_gj hE 3 (by decide) rfl
  have j4 : ρ 4 % 4 = 1 := pz_gj hE 4 (by decide) rfl
  have j5 : ρ 5 % 4 = 1 := pz_gj hE 5 (by decide) rfl
  obtain ⟨i6a, i6b, i6c, i6d⟩ := pz_gi hE 6 2147483685 2147483685 (by decide) rfl
  obtain ⟨-, -, -, -, F50⟩ : ay_ex hp 8 ∧ ay_ex hp 10 ∧ ay_ex hp 11 ∧ ay_ex hp 12 ∧ pz_x50 (ρ 0) (ρ 1) (ay_at hp 8 5) (ay_at hp 8 6) (ay_at hp 8 7) (ay_at hp 8 8) (ay_at hp 10 0) (ay_at hp 10 1) (ay_at hp 10 2) (ay_at hp 10 3) (ay_at hp 10 4) (ay_at hp 8 9) (ay_at hp 8 11) (ay_at hp 8 10) (ay_at hp 8 3) (ay_at hp 8 4) (ay_at hp 11) (ay_at hp 12) := (ax_XF_lt (by decide)).mp (ax_gx hE (50, [3, 7]) (by decide))
  have F47 : py_47 (pz_gt (ρ 0)) (pz_gN (ρ 0)) ((ρ 1) / 4) (ρ 3) (ρ 4) := (ax_XF_lt (by decide)).mp (ax_gx hE (47, [3, 7, 15, 19]) (by decide))
  have F99 : py_99 (ρ 3) (4028) (ρ 2) := (ax_XF_lt (by decide)).mp (ax_gx hE (99, [15, 4028, 11]) (by decide))
  have F44 : py_44 2 (ρ 2) := (ax_XF_lt (by decide)).mp (ax_gx hE (44, [11]) (by decide))
  obtain ⟨-, -, -, F41⟩ : ay_ex hp 10 ∧ ay_ex hp 15 ∧ ay_ex hp 16 ∧ py_x41 (ρ 5) (ay_at hp 10 5) (ay_at hp 15) (ay_at hp 16) := (ax_XF_lt (by decide)).mp (ax_gx hE (41, [23]) (by decide))
  have F99a : py_99 (ρ 5) (4028) (ρ 4) := (ax_XF_lt (by decide)).mp (ax_gx hE (99, [23, 4028, 19]) (by decide))
  refine ⟨(fun y hy => by cases hy), _, List.mem_cons_self, ρ, fun _ _ => rfl, ax_px hE (by decide) (fun y hy => ?_)⟩
  cases List.mem_singleton.mp hy
  refine (ax_XF_lt (x := 48) (by decide)).mpr ?_
  show py_48 2 (pz_gt (ρ 0)) (pz_gN (ρ 0)) ((ρ 1) / 4) (ρ 2) (ρ 5)
  exact pr_sp3 F47 F99 (by decide) F44 F99a

theorem axq_spl_5 : ax_RO ax_wC ax_XC axu_spl_5 := by
  intro ρ hp hE hT
  have j0 : ρ 0 % 4 = 1 := pz_gj hE 0 (by decide) rfl
  have j1 : ρ 1 % 4 = 1 := pz_gj hE 1 (by decide) rfl
  have j2 : ρ 2 % 4 = 1 := pz_gj hE 2 (by decide) rfl
  have j3 : ρ 3 % 4 = 1 := pz_gj hE 3 (by decide) rfl
  obtain ⟨-, -, -, -, F50⟩ : ay_ex hp 8 ∧ ay_ex hp 10 ∧ ay_ex hp 11 ∧ ay_ex hp 12 ∧ pz_x50 (ρ 0) (ρ 1) (ay_at hp 8 5) (ay_at hp 8 6) (ay_at hp 8 7) (ay_at hp 8 8) (ay_at hp 10 0) (ay_at hp 10 1) (ay_at hp 10 2) (ay_at hp 10 3) (ay_at hp 10 4) (ay_at hp 8 9) (ay_at hp 8 11) (ay_at hp 8 10) (ay_at hp 8 3) (ay_at hp 8 4) (ay_at hp 11) (ay_at hp 12) := (ax_XF_lt (by decide)).mp (ax_gx hE (50, [3, 7]) (by decide))
  have F79 : pz7 (pz_gt (ρ 0)) (pz_gN (ρ 0)) ((ρ 1) / 4) 9 := (ax_XF_lt (by decide)).mp (ax_gx hE (79, [3, 7]) (by decide))
  have F47 : py_47 (pz_gt (ρ 0)) (pz_gN (ρ 0)) ((ρ 1) / 4) (ρ 2) (ρ 3) := (ax_XF_lt (by decide)).mp (ax_gx hE (47, [3, 7, 11, 15]) (by decide))
  refine ⟨(fun y hy => by cases hy), _, List.mem_cons_self, ρ, fun _ _ => rfl, ax_px hE (by decide) (fun y hy => ?_)⟩
  cases List.mem_singleton.mp hy
  refine (ax_XF_lt (x := 40) (by decide)).mpr ?_
  show py_40 (ρ 3)
  exact pr_l47 F79 (by decide) F47

theorem axq_sq1_0 : ax_RO ax_wC ax_XC axu_sq1_0 := by
  intro ρ hp hE hT
  have j0 : ρ 0 % 4 = 1 := pz_gj hE 0 (by decide) rfl
  have j1 : ρ 1 % 4 = 1 := pz_gj hE 1 (by decide) rfl
  have j2 : ρ 2 % 4 = 1 := pz_gj hE 2 (by decide) rfl
  have j3 : ρ 3 % 4 = 1 := pz_gj hE 3 (by decide) rfl
  obtain ⟨-, -, -, -, F50⟩ : ay_ex hp 8 ∧ ay_ex hp 10 ∧ ay_ex hp 11 ∧ ay_ex hp 12 ∧ pz_x50 (ρ 0) (ρ 1) (ay_at hp 8 5) (ay_at hp 8 6) (ay_at hp 8 7) (ay_at hp 8 8) (ay_at hp 10 0) (ay_at hp 10 1) (ay_at hp 10 2) (ay_at hp 10 3) (ay_at hp 10 4) (ay_at hp 8 9) (ay_at hp 8 11) (ay_at hp 8 10) (ay_at hp 8 3) (ay_at hp 8 4) (ay_at hp 11) (ay_at hp 12) := (ax_XF_lt (by decide)).mp (ax_gx hE (50, [3, 7]) (by decide))
  have F48 : py_48 2 (pz_gt (ρ 0)) (pz_gN (ρ 0)) ((ρ 1) / 4) (ρ 2) (ρ 3) := (ax_XF_lt (by decide)).mp (ax_gx hE (48, [3, 7, 11, 15]) (by decide))
  have F45 : py_44 1 (ρ 2) := (ax_XF_lt (by decide)).mp (ax_gx hE (45, [11]) (by decide))
  refine ⟨(fun y hy => by cases hy), _, List.mem_cons_self, ρ, fun _ _ => rfl, ax_px hE (by decide) (fun y hy => ?_)⟩
  cases List.mem_singleton.mp hy
  refine (ax_XF_lt (x := 49) (by decide)).mpr ?_
  show py_48 1 (pz_gt (ρ 0)) (pz_gN (ρ 0)) ((ρ 1) / 4) (ρ 2) (ρ 3)
  exact pr_sq1 F48 F45

theorem axq_sq2c43_0 : ax_RO ax_wC ax_XC axu_sq2c43_0 := by
  intro ρ hp hE hT
  have j0 : ρ 0 % 4 = 1 := pz_gj hE 0 (by decide) rfl
  have j1 : ρ 1 % 4 = 1 := pz_gj hE 1 (by decide) rfl
  have j2 : ρ 2 % 4 = 1 := pz_gj hE 2 (by decide) rfl
  have j3 : ρ 3 % 4 = 1 := pz_gj hE 3 (by decide) rfl
  have j4 : ρ 4 % 4 = 1 := pz_gj hE 4 (by decide) rfl
  obtain ⟨i5a, i5b, i5c, i5d⟩ := pz_gi hE 5 2147483691 2147483691 (by decide) rfl
  have c_kind : ay_at hp 8 7 = some (ρ 5) := ay_gfj hE 42 28 23 8 7 (by decide) (by rw [ax_vl_c (by decide)]) (by rw [ax_vl_c (by decide)])
  obtain ⟨-, -, -, -, F50⟩ : ay_ex hp 8 ∧ ay_ex hp 10 ∧ ay_ex hp 11 ∧ ay_ex hp 12 ∧ pz_x50 (ρ 0) (ρ 1) (ay_at hp 8 5) (ay_at hp 8 6) (ay_at hp 8 7) (ay_at hp 8 8) (ay_at hp 10 0) (ay_at hp 10 1) (ay_at hp 10 2) (ay_at hp 10 3) (ay_at hp 10 4) (ay_at hp 8 9) (ay_at hp 8 11) (ay_at hp 8 10) (ay_at hp 8 3) (ay_at hp 8 4) (ay_at hp 11) (ay_at hp 12) := (ax_XF_lt (by decide)).mp (ax_gx hE (50, [3, 7]) (by decide))
  rw [c_kind] at F50
  have F98 : (ρ 2) / 4 = (ρ 1) / 4 + 1 := (ax_XF_lt (by decide)).mp (ax_gx hE (98, [7, 11]) (by decide))
  have F78 : pz7 (pz_gt (ρ 0)) (pz_gN (ρ 0)) ((ρ 2) / 4) 8 := (ax_XF_lt (by decide)).mp (ax_gx hE (78, [3, 11]) (by decide))
  have F79 : pz7 (pz_gt (ρ 0)) (pz_gN (ρ 0)) ((ρ 1) / 4) 9 := (ax_XF_lt (by decide)).mp (ax_gx hE (79, [3, 7]) (by decide))
  have F49 : py_48 1 (pz_gt (ρ 0)) (pz_gN (ρ 0)) ((ρ 1) / 4) (ρ 3) (ρ 4) := (ax_XF_lt (by decide)).mp (ax_gx hE (49, [3, 7, 15, 19]) (by decide))
  have kd : ρ 5 / 4 = pz_kd (pz_gt (ρ 0)) (pz_gN (ρ 0)) (pz_p (pz_cf (pz_gt (ρ 0)) (pz_gN (ρ 0)) (ρ 1 / 4))) := F50.2.2.1
  rw [F98] at F78
  obtain ⟨ρ', h1, h2⟩ := pz_pn1 (K := ρ 3 / 4 * 4096 + 1003) (xf := [(46, [3, 11, 27, 19]), (99, [27, 4012, 15]), (44, [27])]) hE (by decide) (fun ρ' h1 h2 x hx => by
    have q0 : ρ' 0 = ρ 0 := h1 0 (by decide)
    have q1 : ρ' 1 = ρ 1 := h1 1 (by decide)
    have q2 : ρ' 2 = ρ 2 := h1 2 (by decide)
    have q3 : ρ' 3 = ρ 3 := h1 3 (by decide)
    have q4 : ρ' 4 = ρ 4 := h1 4 (by decide)
    have q5 : ρ' 5 = ρ 5 := h1 5 (by decide)
    rcases List.mem_cons.mp hx with e | hx
    · subst e
      refine (ax_XF_lt (x := 46) (by decide)).mpr ?_
      show py_46 (pz_gt (ρ' 0)) (pz_gN (ρ' 0)) ((ρ' 2) / 4) (ρ' 6) (ρ' 4)
      rw [q0, q2, q4, h2]
      rw [F98]
      exact pr_op (q := 43) (c := 4012) (by decide) F79 (by omega) rfl F78 (by decide) (by decide) F49 ⟨pz_41 _, F49.2.1, by decide⟩
    rcases List.mem_cons.mp hx with e | hx
    · subst e
      refine (ax_XF_lt (x := 99) (by decide)).mpr ?_
      show py_99 (ρ' 6) (4012) (ρ' 3)
      rw [q3, h2]
      exact ⟨pz_41 _, F49.2.1, by decide⟩
    cases List.mem_singleton.mp hx
    refine (ax_XF_lt (x := 44) (by decide)).mpr ?_
    show py_44 2 (ρ' 6)
    rw [h2]
    exact pr_44 (c := 4012) (s := ρ 3) ⟨pz_41 _, F49.2.1, by decide⟩ (by decide) (by decide))
  exact ⟨(fun y hy => by cases hy), _, List.mem_cons_self, ρ', h1, h2⟩

theorem axq_sq3c43_0 : ax_RO ax_wC ax_XC axu_sq3c43_0 := by
  intro ρ hp hE hT
  have j0 : ρ 0 % 4 = 1 := pz_gj hE 0 (by decide) rfl
  have j1 : ρ 1 % 4 = 1 := pz_gj hE 1 (by decide) rfl
  have j2 : ρ 2 % 4 = 1 := pz_gj hE 2 (by decide) rfl
  have j3 : ρ 3 % 4 = 1 := pz_gj hE 3 (by decide) rfl
  have j4 : ρ 4 % 4 = 1 := pz_gj hE 4 (by decide) rfl
  have j5 : ρ 5 % 4 = 1 := pz_gj hE 5 (by decide) rfl
  obtain ⟨i6a, i6b, i6c, i6d⟩ := pz_gi hE 6 2147483691 2147483691 (by decide) rfl
  obtain ⟨-, -, -, -, F50⟩ : ay_ex hp 8 ∧ ay_ex hp 10 ∧ ay_ex hp 11 ∧ ay_ex hp 12 ∧ pz_x50 (ρ 0) (ρ 1) (ay_at hp 8 5) (ay_at hp 8 6) (ay_at hp 8 7) (ay_at hp 8 8) (ay_at hp 10 0) (ay_at hp 10 1) (ay_at hp 10 2) (ay_at hp 10 3) (ay_at hp 10 4) (ay_at hp 8 9) (ay_at hp 8 11) (ay_at hp 8 10) (ay_at hp 8 3) (ay_at hp 8 4) (ay_at hp 11) (ay_at hp 12) := (ax_XF_lt (by decide)).mp (ax_gx hE (50, [3, 7]) (by decide))
  have F48 : py_48 2 (pz_gt (ρ 0)) (pz_gN (ρ 0)) ((ρ 1) / 4) (ρ 3) (ρ 4) := (ax_XF_lt (by decide)).mp (ax_gx hE (48, [3, 7, 15, 19]) (by decide))
  have F99 : py_99 (ρ 3) (4012) (ρ 2) := (ax_XF_lt (by decide)).mp (ax_gx hE (99, [15, 4012, 11]) (by decide))
  have F45 : py_44 1 (ρ 2) := (ax_XF_lt (by decide)).mp (ax_gx hE (45, [11]) (by decide))
  obtain ⟨-, -, -, F41⟩ : ay_ex hp 10 ∧ ay_ex hp 15 ∧ ay_ex hp 16 ∧ py_x41 (ρ 5) (ay_at hp 10 5) (ay_at hp 15) (ay_at hp 16) := (ax_XF_lt (by decide)).mp (ax_gx hE (41, [23]) (by decide))
  have F99a : py_99 (ρ 5) (4012) (ρ 4) := (ax_XF_lt (by decide)).mp (ax_gx hE (99, [23, 4012, 19]) (by decide))
  refine ⟨(fun y hy => by cases hy), _, List.mem_cons_self, ρ, fun _ _ => rfl, ax_px hE (by decide) (fun y hy => ?_)⟩
  cases List.mem_singleton.mp hy
  refine (ax_XF_lt (x := 49) (by decide)).mpr ?_
  show py_48 1 (pz_gt (ρ 0)) (pz_gN (ρ 0)) ((ρ 1) / 4) (ρ 2) (ρ 5)
  exact pr_sq3 F48 F99 (by decide) F45 F99a

theorem axq_sq2c45_0 : ax_RO ax_wC ax_XC axu_sq2c45_0 := by
  intro ρ hp hE hT
  have j0 : ρ 0 % 4 = 1 := pz_gj hE 0 (by decide) rfl
  have j1 : ρ 1 % 4 = 1 := pz_gj hE 1 (by decide) rfl
  have j2 : ρ 2 % 4 = 1 := pz_gj hE 2 (by decide) rfl
  have j3 : ρ 3 % 4 = 1 := pz_gj hE 3 (by decide) rfl
  have j4 : ρ 4 % 4 = 1 := pz_gj hE 4 (by decide) rfl
  obtain ⟨i5a, i5b, i5c, i5d⟩ := pz_gi hE 5 2147483693 2147483693 (by decide) rfl
  have c_kind : ay_at hp 8 7 = some (ρ 5) := ay_gfj hE 42 28 23 8 7 (by decide) (by rw [ax_vl_c (by decide)]) (by rw [ax_vl_c (by decide)])
  obtain ⟨-, -, -, -, F50⟩ : ay_ex hp 8 ∧ ay_ex hp 10 ∧ ay_ex hp 11 ∧ ay_ex hp 12 ∧ pz_x50 (ρ 0) (ρ 1) (ay_at hp 8 5) (ay_at hp 8 6) (ay_at hp 8 7) (ay_at hp 8 8) (ay_at hp 10 0) (ay_at hp 10 1) (ay_at hp 10 2) (ay_at hp 10 3) (ay_at hp 10 4) (ay_at hp 8 9) (ay_at hp 8 11) (ay_at hp 8 10) (ay_at hp 8 3) (ay_at hp 8 4) (ay_at hp 11) (ay_at hp 12) := (ax_XF_lt (by decide)).mp (ax_gx hE (50, [3, 7]) (by decide))
  rw [c_kind] at F50
  have F98 : (ρ 2) / 4 = (ρ 1) / 4 + 1 := (ax_XF_lt (by decide)).mp (ax_gx hE (98, [7, 11]) (by decide))
  have F78 : pz7 (pz_gt (ρ 0)) (pz_gN (ρ 0)) ((ρ 2) / 4) 8 := (ax_XF_lt (by decide)).mp (ax_gx hE (78, [3, 11]) (by decide))
  have F79 : pz7 (pz_gt (ρ 0)) (pz_gN (ρ 0)) ((ρ 1) / 4) 9 := (ax_XF_lt (by decide)).mp (ax_gx hE (79, [3, 7]) (by decide))
  have F49 : py_48 1 (pz_gt (ρ 0)) (pz_gN (ρ 0)) ((ρ 1) / 4) (ρ 3) (ρ 4) := (ax_XF_lt (by decide)).mp (ax_gx hE (49, [3, 7, 15, 19]) (by decide))
  have kd : ρ 5 / 4 = pz_kd (pz_gt (ρ 0)) (pz_gN (ρ 0)) (pz_p (pz_cf (pz_gt (ρ 0)) (pz_gN (ρ 0)) (ρ 1 / 4))) := F50.2.2.1
  rw [F98] at F78
  obtain ⟨ρ', h1, h2⟩ := pz_pn1 (K := ρ 3 / 4 * 4096 + 1004) (xf := [(46, [3, 11, 27, 19]), (99, [27, 4016, 15]), (44, [27])]) hE (by decide) (fun ρ' h1 h2 x hx => by
    have q0 : ρ' 0 = ρ 0 := h1 0 (by decide)
    have q1 : ρ' 1 = ρ 1 := h1 1 (by decide)
    have q2 : ρ' 2 = ρ 2 := h1 2 (by decide)
    have q3 : ρ' 3 = ρ 3 := h1 3 (by decide)
    have q4 : ρ' 4 = ρ 4 := h1 4 (by decide)
    have q5 : ρ' 5 = ρ 5 := h1 5 (by decide)
    rcases List.mem_cons.mp hx with e | hx
    · subst e
      refine (ax_XF_lt (x := 46) (by decide)).mpr ?_
      show py_46 (pz_gt (ρ' 0)) (pz_gN (ρ' 0)) ((ρ' 2) / 4) (ρ' 6) (ρ' 4)
      rw [q0, q2, q4, h2]
      rw [F98]
      exact pr_op (q := 45) (c := 4016) (by decide) F79 (by omega) rfl F78 (by decide) (by decide) F49 ⟨pz_41 _, F49.2.1, by decide⟩
    rcases List.mem_cons.mp hx with e | hx
    · subst e
      refine (ax_XF_lt (x := 99) (by decide)).mpr ?_
      show py_99 (ρ' 6) (4016) (ρ' 3)
      rw [q3, h2]
      exact ⟨pz_41 _, F49.2.1, by decide⟩
    cases List.mem_singleton.mp hx
    refine (ax_XF_lt (x := 44) (by decide)).mpr ?_
    show py_44 2 (ρ' 6)
    rw [h2]
    exact pr_44 (c := 4016) (s := ρ 3) ⟨pz_41 _, F49.2.1, by decide⟩ (by decide) (by decide))
  exact ⟨(fun y hy => by cases hy), _, List.mem_cons_self, ρ', h1, h2⟩

theorem axq_sq3c45_0 : ax_RO ax_wC ax_XC axu_sq3c45_0 := by
  intro ρ hp hE hT
  have j0 : ρ 0 % 4 = 1 := pz_gj hE 0 (by decide) rfl
  have j1 : ρ 1 % 4 = 1 := pz_gj hE 1 (by decide) rfl
  have j2 : ρ 2 % 4 = 1 := pz_gj hE 2 (by decide) rfl
  have j3 : ρ 3 % 4 = 1 := pz_gj hE 3 (by decide) rfl
  have j4 : ρ 4 % 4 = 1 := pz_gj hE 4 (by decide) rfl
  have j5 : ρ 5 % 4 = 1 := pz_gj hE 5 (by decide) rfl
  obtain ⟨i6a, i6b, i6c, i6d⟩ := pz_gi hE 6 2147483693 2147483693 (by decide) rfl
  obtain ⟨-, -, -, -, F50⟩ : ay_ex hp 8 ∧ ay_ex hp 10 ∧ ay_ex hp 11 ∧ ay_ex hp 12 ∧ pz_x50 (ρ 0) (ρ 1) (ay_at hp 8 5) (ay_at hp 8 6) (ay_at hp 8 7) (ay_at hp 8 8) (ay_at hp 10 0) (ay_at hp 10 1) (ay_at hp 10 2) (ay_at hp 10 3) (ay_at hp 10 4) (ay_at hp 8 9) (ay_at hp 8 11) (ay_at hp 8 10) (ay_at hp 8 3) (ay_at hp 8 4) (ay_at hp 11) (ay_at hp 12) := (ax_XF_lt (by decide)).mp (ax_gx hE (50, [3, 7]) (by decide))
  have F48 : py_48 2 (pz_gt (ρ 0)) (pz_gN (ρ 0)) ((ρ 1) / 4) (ρ 3) (ρ 4) := (ax_XF_lt (by decide)).mp (ax_gx hE (48, [3, 7, 15, 19]) (by decide))
  have F99 : py_99 (ρ 3) (4016) (ρ 2) := (ax_XF_lt (by decide)).mp (ax_gx hE (99, [15, 4016, 11]) (by decide))
  have F45 : py_44 1 (ρ 2) := (ax_XF_lt (by decide)).mp (ax_gx hE (45, [11]) (by decide))
  obtain ⟨-, -, -, F41⟩ : ay_ex hp 10 ∧ ay_ex hp 15 ∧ ay_ex hp 16 ∧ py_x41 (ρ 5) (ay_at hp 10 5) (ay_at hp 15) (ay_at hp 16) := (ax_XF_lt (by decide)).mp (ax_gx hE (41, [23]) (by decide))
  have F99a : py_99 (ρ 5) (4016) (ρ 4) := (ax_XF_lt (by decide)).mp (ax_gx hE (99, [23, 4016, 19]) (by decide))
  refine ⟨(fun y hy => by cases hy), _, List.mem_cons_self, ρ, fun _ _ => rfl, ax_px hE (by decide) (fun y hy => ?_)⟩
  cases List.mem_singleton.mp hy
  refine (ax_XF_lt (x := 49) (by decide)).mpr ?_
  show py_48 1 (pz_gt (ρ 0)) (pz_gN (ρ 0)) ((ρ 1) / 4) (ρ 2) (ρ 5)
  exact pr_sq3 F48 F99 (by decide) F45 F99a

theorem axq_sql_0 : ax_RO ax_wC ax_XC axu_sql_0 := by
  intro ρ hp hE hT
  have j0 : ρ 0 % 4 = 1 := pz_gj hE 0 (by decide) rfl
  have j1 : ρ 1 % 4 = 1 := pz_gj hE 1 (by decide) rfl
  have j2 : ρ 2 % 4 = 1 := pz_gj hE 2 (by decide) rfl
  have j3 : ρ 3 % 4 = 1 := pz_gj hE 3 (by decide) rfl
  obtain ⟨-, -, -, -, F50⟩ : ay_ex hp 8 ∧ ay_ex hp 10 ∧ ay_ex hp 11 ∧ ay_ex hp 12 ∧ pz_x50 (ρ 0) (ρ 1) (ay_at hp 8 5) (ay_at hp 8 6) (ay_at hp 8 7) (ay_at hp 8 8) (ay_at hp 10 0) (ay_at hp 10 1) (ay_at hp 10 2) (ay_at hp 10 3) (ay_at hp 10 4) (ay_at hp 8 9) (ay_at hp 8 11) (ay_at hp 8 10) (ay_at hp 8 3) (ay_at hp 8 4) (ay_at hp 11) (ay_at hp 12) := (ax_XF_lt (by decide)).mp (ax_gx hE (50, [3, 7]) (by decide))
  have F79 : pz7 (pz_gt (ρ 0)) (pz_gN (ρ 0)) ((ρ 1) / 4) 9 := (ax_XF_lt (by decide)).mp (ax_gx hE (79, [3, 7]) (by decide))
  have F48 : py_48 2 (pz_gt (ρ 0)) (pz_gN (ρ 0)) ((ρ 1) / 4) (ρ 2) (ρ 3) := (ax_XF_lt (by decide)).mp (ax_gx hE (48, [3, 7, 11, 15]) (by decide))
  refine ⟨(fun y hy => by cases hy), _, List.mem_cons_self, ρ, fun _ _ => rfl, ax_px hE (by decide) (fun y hy => ?_)⟩
  cases List.mem_singleton.mp hy
  refine (ax_XF_lt (x := 40) (by decide)).mpr ?_
  show py_40 (ρ 3)
  exact pr_l48 F79 (by decide) F48

theorem axq_s45_0 : ax_RO ax_wC ax_XC axu_s45_0 := by
  intro ρ hp hE hT
  have j0 : ρ 0 % 4 = 1 := pz_gj hE 0 (by decide) rfl
  have F45 : py_44 1 (ρ 0) := (ax_XF_lt (by decide)).mp (ax_gx hE (45, [3]) (by decide))
  refine ⟨(fun y hy => by cases hy), _, List.mem_cons_self, ρ, fun _ _ => rfl, ax_px hE (by decide) (fun y hy => ?_)⟩
  cases List.mem_singleton.mp hy
  refine (ax_XF_lt (x := 44) (by decide)).mpr ?_
  show py_44 2 (ρ 0)
  exact pr_45 F45

theorem axq_sq1_1 : ax_RO ax_wC ax_XC axu_sq1_1 := by
  intro ρ hp hE hT
  have j0 : ρ 0 % 4 = 1 := pz_gj hE 0 (by decide) rfl
  have j1 : ρ 1 % 4 = 1 := pz_gj hE 1 (by decide) rfl
  have j2 : ρ 2 % 4 = 1 := pz_gj hE 2 (by decide) rfl
  have j3 : ρ 3 % 4 = 1 := pz_gj hE 3 (by decide) rfl
  obtain ⟨-, -, -, -, F50⟩ : ay_ex hp 8 ∧ ay_ex hp 10 ∧ ay_ex hp 11 ∧ ay_ex hp 12 ∧ pz_x50 (ρ 0) (ρ 1) (ay_at hp 8 5) (ay_at hp 8 6) (ay_at hp 8 7) (ay_at hp 8 8) (ay_at hp 10 0) (ay_at hp 10 1) (ay_at hp 10 2) (ay_at hp 10 3) (ay_at hp 10 4) (ay_at hp 8 9) (ay_at hp 8 11) (ay_at hp 8 10) (ay_at hp 8 3) (ay_at hp 8 4) (ay_at hp 11) (ay_at hp 12) := (ax_XF_lt (by decide)).mp (ax_gx hE (50, [3, 7]) (by decide))
  have F48 : py_48 2 (pz_gt (ρ 0)) (pz_gN (ρ 0)) ((ρ 1) / 4) (ρ 2) (ρ 3) := (ax_XF_lt (by decide)).mp (ax_gx hE (48, [3, 7, 11, 15]) (by decide))
  have F45 : py_44 1 (ρ 2) := (ax_XF_lt (by decide)).mp (ax_gx hE (45, [11]) (by decide))
  refine ⟨(fun y hy => by cases hy), _, List.mem_cons_self, ρ, fun _ _ => rfl, ax_px hE (by decide) (fun y hy => ?_)⟩
  cases List.mem_singleton.mp hy
  refine (ax_XF_lt (x := 49) (by decide)).mpr ?_
  show py_48 1 (pz_gt (ρ 0)) (pz_gN (ρ 0)) ((ρ 1) / 4) (ρ 2) (ρ 3)
  exact pr_sq1 F48 F45

theorem axq_sq2c43_1 : ax_RO ax_wC ax_XC axu_sq2c43_1 := by
  intro ρ hp hE hT
  have j0 : ρ 0 % 4 = 1 := pz_gj hE 0 (by decide) rfl
  have j1 : ρ 1 % 4 = 1 := pz_gj hE 1 (by decide) rfl
  have j2 : ρ 2 % 4 = 1 := pz_gj hE 2 (by decide) rfl
  have j3 : ρ 3 % 4 = 1 := pz_gj hE 3 (by decide) rfl
  have j4 : ρ 4 % 4 = 1 := pz_gj hE 4 (by decide) rfl
  obtain ⟨i5a, i5b, i5c, i5d⟩ := pz_gi hE 5 2147483691 2147483691 (by decide) rfl
  have c_kind : ay_at hp 8 7 = some (ρ 5) := ay_gfj hE 42 28 23 8 7 (by decide) (by rw [ax_vl_c (by decide)]) (by rw [ax_vl_c (by decide)])
  obtain ⟨-, -, -, -, F50⟩ : ay_ex hp 8 ∧ ay_ex hp 10 ∧ ay_ex hp 11 ∧ ay_ex hp 12 ∧ pz_x50 (ρ 0) (ρ 1) (ay_at hp 8 5) (ay_at hp 8 6) (ay_at hp 8 7) (ay_at hp 8 8) (ay_at hp 10 0) (ay_at hp 10 1) (ay_at hp 10 2) (ay_at hp 10 3) (ay_at hp 10 4) (ay_at hp 8 9) (ay_at hp 8 11) (ay_at hp 8 10) (ay_at hp 8 3) (ay_at hp 8 4) (ay_at hp 11) (ay_at hp 12) := (ax_XF_lt (by decide)).mp (ax_gx hE (50, [3, 7]) (by decide))
  rw [c_kind] at F50
  have F98 : (ρ 2) / 4 = (ρ 1) / 4 + 1 := (ax_XF_lt (by decide)).mp (ax_gx hE (98, [7, 11]) (by decide))
  have F78 : pz7 (pz_gt (ρ 0)) (pz_gN (ρ 0)) ((ρ 2) / 4) 8 := (ax_XF_lt (by decide)).mp (ax_gx hE (78, [3, 11]) (by decide))
  have F79 : pz7 (pz_gt (ρ 0)) (pz_gN (ρ 0)) ((ρ 1) / 4) 9 := (ax_XF_lt (by decide)).mp (ax_gx hE (79, [3, 7]) (by decide))
  have F49 : py_48 1 (pz_gt (ρ 0)) (pz_gN (ρ 0)) ((ρ 1) / 4) (ρ 3) (ρ 4) := (ax_XF_lt (by decide)).mp (ax_gx hE (49, [3, 7, 15, 19]) (by decide))
  have kd : ρ 5 / 4 = pz_kd (pz_gt (ρ 0)) (pz_gN (ρ 0)) (pz_p (pz_cf (pz_gt (ρ 0)) (pz_gN (ρ 0)) (ρ 1 / 4))) := F50.2.2.1
  rw [F98] at F78
  obtain ⟨ρ', h1, h2⟩ := pz_pn1 (K := ρ 3 / 4 * 4096 + 1003) (xf := [(46, [3, 11, 27, 19]), (99, [27, 4012, 15]), (44, [27])]) hE (by decide) (fun ρ' h1 h2 x hx => by
    have q0 : ρ' 0 = ρ 0 := h1 0 (by decide)
    have q1 : ρ' 1 = ρ 1 := h1 1 (by decide)
    have q2 : ρ' 2 = ρ 2 := h1 2 (by decide)
    have q3 : ρ' 3 = ρ 3 := h1 3 (by decide)
    have q4 : ρ' 4 = ρ 4 := h1 4 (by decide)
    have q5 : ρ' 5 = ρ 5 := h1 5 (by decide)
    rcases List.mem_cons.mp hx with e | hx
    · subst e
      refine (ax_XF_lt (x := 46) (by decide)).mpr ?_
      show py_46 (pz_gt (ρ' 0)) (pz_gN (ρ' 0)) ((ρ' 2) / 4) (ρ' 6) (ρ' 4)
      rw [q0, q2, q4, h2]
      rw [F98]
      exact pr_op (q := 43) (c := 4012) (by decide) F79 (by omega) rfl F78 (by decide) (by decide) F49 ⟨pz_41 _, F49.2.1, by decide⟩
    rcases List.mem_cons.mp hx with e | hx
    · subst e
      refine (ax_XF_lt (x := 99) (by decide)).mpr ?_
      show py_99 (ρ' 6) (4012) (ρ' 3)
      rw [q3, h2]
      exact ⟨pz_41 _, F49.2.1, by decide⟩
    cases List.mem_singleton.mp hx
    refine (ax_XF_lt (x := 44) (by decide)).mpr ?_
    show py_44 2 (ρ' 6)
    rw [h2]
    exact pr_44 (c := 4012) (s := ρ 3) ⟨pz_41 _, F49.2.1, by decide⟩ (by decide) (by decide))
  exact ⟨(fun y hy => by cases hy), _, List.mem_cons_self, ρ', h1, h2⟩

theorem axq_sq3c43_1 : ax_RO ax_wC ax_XC axu_sq3c43_1 := by
  intro ρ hp hE hT
  have j0 : ρ 0 % 4 = 1 := pz_gj hE 0 (by decide) rfl
  have j1 : ρ 1 % 4 = 1 := pz_gj hE 1 (by decide) rfl
  have j2 : ρ 2 % 4 = 1 := pz_gj hE 2 (by decide) rfl
  have j3 : ρ 3 % 4 = 1 := pz_gj hE 3 (by decide) rfl
  have j4 : ρ 4 % 4 = 1 := pz_gj hE 4 (by decide) rfl
  have j5 : ρ 5 % 4 = 1 := pz_gj hE 5 (by decide) rfl
  obtain ⟨i6a, i6b, i6c, i6d⟩ := pz_gi hE 6 2147483691 2147483691 (by decide) rfl
  obtain ⟨-, -, -, -, F50⟩ : ay_ex hp 8 ∧ ay_ex hp 10 ∧ ay_ex hp 11 ∧ ay_ex hp 12 ∧ pz_x50 (ρ 0) (ρ 1) (ay_at hp 8 5) (ay_at hp 8 6) (ay_at hp 8 7) (ay_at hp 8 8) (ay_at hp 10 0) (ay_at hp 10 1) (ay_at hp 10 2) (ay_at hp 10 3) (ay_at hp 10 4) (ay_at hp 8 9) (ay_at hp 8 11) (ay_at hp 8 10) (ay_at hp 8 3) (ay_at hp 8 4) (ay_at hp 11) (ay_at hp 12) := (ax_XF_lt (by decide)).mp (ax_gx hE (50, [3, 7]) (by decide))
  have F48 : py_48 2 (pz_gt (ρ 0)) (pz_gN (ρ 0)) ((ρ 1) / 4) (ρ 3) (ρ 4) := (ax_XF_lt (by decide)).mp (ax_gx hE (48, [3, 7, 15, 19]) (by decide))
  have F99 : py_99 (ρ 3) (4012) (ρ 2) := (ax_XF_lt (by decide)).mp (ax_gx hE (99, [15, 4012, 11]) (by decide))
  have F45 : py_44 1 (ρ 2) := (ax_XF_lt (by decide)).mp (ax_gx hE (45, [11]) (by decide))
  obtain ⟨-, -, -, F41⟩ : ay_ex hp 10 ∧ ay_ex hp 15 ∧ ay_ex hp 16 ∧ py_x41 (ρ 5) (ay_at hp 10 5) (ay_at hp 15) (ay_at hp 16) := (ax_XF_lt (by decide)).mp (ax_gx hE (41, [23]) (by decide))
  have F99a : py_99 (ρ 5) (4012) (ρ 4) := (ax_XF_lt (by decide)).mp (ax_gx hE (99, [23, 4012, 19]) (by decide))
  refine ⟨(fun y hy => by cases hy), _, List.mem_cons_self, ρ, fun _ _ => rfl, ax_px hE (by decide) (fun y hy => ?_)⟩
  cases List.mem_singleton.mp hy
  refine (ax_XF_lt (x := 49) (by decide)).mpr ?_
  show py_48 1 (pz_gt (ρ 0)) (pz_gN (ρ 0)) ((ρ 1) / 4) (ρ 2) (ρ 5)
  exact pr_sq3 F48 F99 (by decide) F45 F99a

theorem axq_sq2c45_1 : ax_RO ax_wC ax_XC axu_sq2c45_1 := by
  intro ρ hp hE hT
  have j0 : ρ 0 % 4 = 1 := pz_gj hE 0 (by decide) rfl
  have j1 : ρ 1 % 4 = 1 := pz_gj hE 1 (by decide) rfl
  have j2 : ρ 2 % 4 = 1 := pz_gj hE 2 (by decide) rfl
  have j3 : ρ 3 % 4 = 1 := pz_gj hE 3 (by decide) rfl
  have j4 : ρ 4 % 4 = 1 := pz_gj hE 4 (by decide) rfl
  obtain ⟨i5a, i5b, i5c, i5d⟩ := pz_gi hE 5 2147483693 2147483693 (by decide) rfl
  have c_kind : ay_at hp 8 7 = some (ρ 5) := ay_gfj hE 42 28 23 8 7 (by decide) (by rw [ax_vl_c (by decide)]) (by rw [ax_vl_c (by decide)])
  obtain ⟨-, -, -, -, F50⟩ : ay_ex hp 8 ∧ ay_ex hp 10 ∧ ay_ex hp 11 ∧ ay_ex hp 12 ∧ pz_x50 (ρ 0) (ρ 1) (ay_at hp 8 5) (ay_at hp 8 6) (ay_at hp 8 7) (ay_at hp 8 8) (ay_at hp 10 0) (ay_at hp 10 1) (ay_at hp 10 2) (ay_at hp 10 3) (ay_at hp 10 4) (ay_at hp 8 9) (ay_at hp 8 11) (ay_at hp 8 10) (ay_at hp 8 3) (ay_at hp 8 4) (ay_at hp 11) (ay_at hp 12) := (ax_XF_lt (by decide)).mp (ax_gx hE (50, [3, 7]) (by decide))
  rw [c_kind] at F50
  have F98 : (ρ 2) / 4 = (ρ 1) / 4 + 1 := (ax_XF_lt (by decide)).mp (ax_gx hE (98, [7, 11]) (by decide))
  have F78 : pz7 (pz_gt (ρ 0)) (pz_gN (ρ 0)) ((ρ 2) / 4) 8 := (ax_XF_lt (by decide)).mp (ax_gx hE (78, [3, 11]) (by decide))
  have F79 : pz7 (pz_gt (ρ 0)) (pz_gN (ρ 0)) ((ρ 1) / 4) 9 := (ax_XF_lt (by decide)).mp (ax_gx hE (79, [3, 7]) (by decide))
  have F49 : py_48 1 (pz_gt (ρ 0)) (pz_gN (ρ 0)) ((ρ 1) / 4) (ρ 3) (ρ 4) := (ax_XF_lt (by decide)).mp (ax_gx hE (49, [3, 7, 15, 19]) (by decide))
  have kd : ρ 5 / 4 = pz_kd (pz_gt (ρ 0)) (pz_gN (ρ 0)) (pz_p (pz_cf (pz_gt (ρ 0)) (pz_gN (ρ 0)) (ρ 1 / 4))) := F50.2.2.1
  rw [F98] at F78
  obtain ⟨ρ', h1, h2⟩ := pz_pn1 (K := ρ 3 / 4 * 4096 + 1004) (xf := [(46, [3, 11, 27, 19]), (99, [27, 4016, 15]), (44, [27])]) hE (by decide) (fun ρ' h1 h2 x hx => by
    have q0 : ρ' 0 = ρ 0 := h1 0 (by decide)
    have q1 : ρ' 1 = ρ 1 := h1 1 (by decide)
    have q2 : ρ' 2 = ρ 2 := h1 2 (by decide)
    have q3 : ρ' 3 = ρ 3 := h1 3 (by decide)
    have q4 : ρ' 4 = ρ 4 := h1 4 (by decide)
    have q5 : ρ' 5 = ρ 5 := h1 5 (by decide)
    rcases List.mem_cons.mp hx with e | hx
    · subst e
      refine (ax_XF_lt (x := 46) (by decide)).mpr ?_
      show py_46 (pz_gt (ρ' 0)) (pz_gN (ρ' 0)) ((ρ' 2) / 4) (ρ' 6) (ρ' 4)
      rw [q0, q2, q4, h2]
      rw [F98]
      exact pr_op (q := 45) (c := 4016) (by decide) F79 (by omega) rfl F78 (by decide) (by decide) F49 ⟨pz_41 _, F49.2.1, by decide⟩
    rcases List.mem_cons.mp hx with e | hx
    · subst e
      refine (ax_XF_lt (x := 99) (by decide)).mpr ?_
      show py_99 (ρ' 6) (4016) (ρ' 3)
      rw [q3, h2]
      exact ⟨pz_41 _, F49.2.1, by decide⟩
    cases List.mem_singleton.mp hx
    refine (ax_XF_lt (x := 44) (by decide)).mpr ?_
    show py_44 2 (ρ' 6)
    rw [h2]
    exact pr_44 (c := 4016) (s := ρ 3) ⟨pz_41 _, F49.2.1, by decide⟩ (by decide) (by decide))
  exact ⟨(fun y hy => by cases hy), _, List.mem_cons_self, ρ', h1, h2⟩

theorem axq_sq3c45_1 : ax_RO ax_wC ax_XC axu_sq3c45_1 := by
  intro ρ hp hE hT
  have j0 : ρ 0 % 4 = 1 := pz_gj hE 0 (by decide) rfl
  have j1 : ρ 1 % 4 = 1 := pz_gj hE 1 (by decide) rfl
  have j2 : ρ 2 % 4 = 1 := pz_gj hE 2 (by decide) rfl
  have j3 : ρ 3 % 4 = 1 := pz_gj hE 3 (by decide) rfl
  have j4 : ρ 4 % 4 = 1 := pz_gj hE 4 (by decide) rfl
  have j5 : ρ 5 % 4 = 1 := pz_gj hE 5 (by decide) rfl
  obtain ⟨i6a, i6b, i6c, i6d⟩ := pz_gi hE 6 2147483693 2147483693 (by decide) rfl
  obtain ⟨-, -, -, -, F50⟩ : ay_ex hp 8 ∧ ay_ex hp 10 ∧ ay_ex hp 11 ∧ ay_ex hp 12 ∧ pz_x50 (ρ 0) (ρ 1) (ay_at hp 8 5) (ay_at hp 8 6) (ay_at hp 8 7) (ay_at hp 8 8) (ay_at hp 10 0) (ay_at hp 10 1) (ay_at hp 10 2) (ay_at hp 10 3) (ay_at hp 10 4) (ay_at hp 8 9) (ay_at hp 8 11) (ay_at hp 8 10) (ay_at hp 8 3) (ay_at hp 8 4) (ay_at hp 11) (ay_at hp 12) := (ax_XF_lt (by decide)).mp (ax_gx hE (50, [3, 7]) (by decide))
  have F48 : py_48 2 (pz_gt (ρ 0)) (pz_gN (ρ 0)) ((ρ 1) / 4) (ρ 3) (ρ 4) := (ax_XF_lt (by decide)).mp (ax_gx hE (48, [3, 7, 15, 19]) (by decide))
  have F99 : py_99 (ρ 3) (4016) (ρ 2) := (ax_XF_lt (by decide)).mp (ax_gx hE (99, [15, 4016, 11]) (by decide))
  have F45 : py_44 1 (ρ 2) := (ax_XF_lt (by decide)).mp (ax_gx hE (45, [11]) (by decide))
  obtain ⟨-, -, -, F41⟩ : ay_ex hp 10 ∧ ay_ex hp 15 ∧ ay_ex hp 16 ∧ py_x41 (ρ 5) (ay_at hp 10 5) (ay_at hp 15) (ay_at hp 16) := (ax_XF_lt (by decide)).mp (ax_gx hE (41, [23]) (by decide))
  have F99a : py_99 (ρ 5) (4016) (ρ 4) := (ax_XF_lt (by decide)).mp (ax_gx hE (99, [23, 4016, 19]) (by decide))
  refine ⟨(fun y hy => by cases hy), _, List.mem_cons_self, ρ, fun _ _ => rfl, ax_px hE (by decide) (fun y hy => ?_)⟩
  cases List.mem_singleton.mp hy
  refine (ax_XF_lt (x := 49) (by decide)).mpr ?_
  show py_48 1 (pz_gt (ρ 0)) (pz_gN (ρ 0)) ((ρ 1) / 4) (ρ 2) (ρ 5)
  exact pr_sq3 F48 F99 (by decide) F45 F99a

theorem axq_sql_1 : ax_RO ax_wC ax_XC axu_sql_1 := by
  intro ρ hp hE hT
  have j0 : ρ 0 % 4 = 1 := pz_gj hE 0 (by decide) rfl
  have j1 : ρ 1 % 4 = 1 := pz_gj hE 1 (by decide) rfl
  have j2 : ρ 2 % 4 = 1 := pz_gj hE 2 (by decide) rfl
  have j3 : ρ 3 % 4 = 1 := pz_gj hE 3 (by decide) rfl
  obtain ⟨-, -, -, -, F50⟩ : ay_ex hp 8 ∧ ay_ex hp 10 ∧ ay_ex hp 11 ∧ ay_ex hp 12 ∧ pz_x50 (ρ 0) (ρ 1) (ay_at hp 8 5) (ay_at hp 8 6) (ay_at hp 8 7) (ay_at hp 8 8) (ay_at hp 10 0) (ay_at hp 10 1) (ay_at hp 10 2) (ay_at hp 10 3) (ay_at hp 10 4) (ay_at hp 8 9) (ay_at hp 8 11) (ay_at hp 8 10) (ay_at hp 8 3) (ay_at hp 8 4) (ay_at hp 11) (ay_at hp 12) := (ax_XF_lt (by decide)).mp (ax_gx hE (50, [3, 7]) (by decide))
  have F79 : pz7 (pz_gt (ρ 0)) (pz_gN (ρ 0)) ((ρ 1) / 4) 9 := (ax_XF_lt (by decide)).mp (ax_gx hE (79, [3, 7]) (by decide))
  have F48 : py_48 2 (pz_gt (ρ 0)) (pz_gN (ρ 0)) ((ρ 1) / 4) (ρ 2) (ρ 3) := (ax_XF_lt (by decide)).mp (ax_gx hE (48, [3, 7, 11, 15]) (by decide))
  refine ⟨(fun y hy => by cases hy), _, List.mem_cons_self, ρ, fun _ _ => rfl, ax_px hE (by decide) (fun y hy => ?_)⟩
  cases List.mem_singleton.mp hy
  refine (ax_XF_lt (x := 40) (by decide)).mpr ?_
  show py_40 (ρ 3)
  exact pr_l48 F79 (by decide) F48

theorem axq_s45_1 : ax_RO ax_wC ax_XC axu_s45_1 := by
  intro ρ hp hE hT
  have j0 : ρ 0 % 4 = 1 := pz_gj hE 0 (by decide) rfl
  have F45 : py_44 1 (ρ 0) := (ax_XF_lt (by decide)).mp (ax_gx hE (45, [3]) (by decide))
  refine ⟨(fun y hy => by cases hy), _, List.mem_cons_self, ρ, fun _ _ => rfl, ax_px hE (by decide) (fun y hy => ?_)⟩
  cases List.mem_singleton.mp hy
  refine (ax_XF_lt (x := 44) (by decide)).mpr ?_
  show py_44 2 (ρ 0)
  exact pr_45 F45

theorem axq_sq1_2 : ax_RO ax_wC ax_XC axu_sq1_2 := by
  intro ρ hp hE hT
  have j0 : ρ 0 % 4 = 1 := pz_gj hE 0 (by decide) rfl
  have j1 : ρ 1 % 4 = 1 := pz_gj hE 1 (by decide) rfl
  have j2 : ρ 2 % 4 = 1 := pz_gj hE 2 (by decide) rfl
  have j3 : ρ 3 % 4 = 1 := pz_gj hE 3 (by decide) rfl
  obtain ⟨-, -, -, -, F50⟩ : ay_ex hp 8 ∧ ay_ex hp 10 ∧ ay_ex hp 11 ∧ ay_ex hp 12 ∧ pz_x50 (ρ 0) (ρ 1) (ay_at hp 8 5) (ay_at hp 8 6) (ay_at hp 8 7) (ay_at hp 8 8) (ay_at hp 10 0) (ay_at hp 10 1) (ay_at hp 10 2) (ay_at hp 10 3) (ay_at hp 10 4) (ay_at hp 8 9) (ay_at hp 8 11) (ay_at hp 8 10) (ay_at hp 8 3) (ay_at hp 8 4) (ay_at hp 11) (ay_at hp 12) := (ax_XF_lt (by decide)).mp (ax_gx hE (50, [3, 7]) (by decide))
  have F48 : py_48 2 (pz_gt (ρ 0)) (pz_gN (ρ 0)) ((ρ 1) / 4) (ρ 2) (ρ 3) := (ax_XF_lt (by decide)).mp (ax_gx hE (48, [3, 7, 11, 15]) (by decide))
  have F45 : py_44 1 (ρ 2) := (ax_XF_lt (by decide)).mp (ax_gx hE (45, [11]) (by decide))
  refine ⟨(fun y hy => by cases hy), _, List.mem_cons_self, ρ, fun _ _ => rfl, ax_px hE (by decide) (fun y hy => ?_)⟩
  cases List.mem_singleton.mp hy
  refine (ax_XF_lt (x := 49) (by decide)).mpr ?_
  show py_48 1 (pz_gt (ρ 0)) (pz_gN (ρ 0)) ((ρ 1) / 4) (ρ 2) (ρ 3)
  exact pr_sq1 F48 F45

theorem axq_sq2c43_2 : ax_RO ax_wC ax_XC axu_sq2c43_2 := by
  intro ρ hp hE hT
  have j0 : ρ 0 % 4 = 1 := pz_gj hE 0 (by decide) rfl
  have j1 : ρ 1 % 4 = 1 := pz_gj hE 1 (by decide) rfl
  have j2 : ρ 2 % 4 = 1 := pz_gj hE 2 (by decide) rfl
  have j3 : ρ 3 % 4 = 1 := pz_gj hE 3 (by decide) rfl
  have j4 : ρ 4 % 4 = 1 := pz_gj hE 4 (by decide) rfl
  obtain ⟨i5a, i5b, i5c, i5d⟩ := pz_gi hE 5 2147483691 2147483691 (by decide) rfl
  have c_kind : ay_at hp 8 7 = some (ρ 5) := ay_gfj hE 42 28 23 8 7 (by decide) (by rw [ax_vl_c (by decide)]) (by rw [ax_vl_c (by decide)])
  obtain ⟨-, -, -, -, F50⟩ : ay_ex hp 8 ∧ ay_ex hp 10 ∧ ay_ex hp 11 ∧ ay_ex hp 12 ∧ pz_x50 (ρ 0) (ρ 1) (ay_at hp 8 5) (ay_at hp 8 6) (ay_at hp 8 7) (ay_at hp 8 8) (ay_at hp 10 0) (ay_at hp 10 1) (ay_at hp 10 2) (ay_at hp 10 3) (ay_at hp 10 4) (ay_at hp 8 9) (ay_at hp 8 11) (ay_at hp 8 10) (ay_at hp 8 3) (ay_at hp 8 4) (ay_at hp 11) (ay_at hp 12) := (ax_XF_lt (by decide)).mp (ax_gx hE (50, [3, 7]) (by decide))
  rw [c_kind] at F50
  have F98 : (ρ 2) / 4 = (ρ 1) / 4 + 1 := (ax_XF_lt (by decide)).mp (ax_gx hE (98, [7, 11]) (by decide))
  have F78 : pz7 (pz_gt (ρ 0)) (pz_gN (ρ 0)) ((ρ 2) / 4) 8 := (ax_XF_lt (by decide)).mp (ax_gx hE (78, [3, 11]) (by decide))
  have F79 : pz7 (pz_gt (ρ 0)) (pz_gN (ρ 0)) ((ρ 1) / 4) 9 := (ax_XF_lt (by decide)).mp (ax_gx hE (79, [3, 7]) (by decide))
  have F49 : py_48 1 (pz_gt (ρ 0)) (pz_gN (ρ 0)) ((ρ 1) / 4) (ρ 3) (ρ 4) := (ax_XF_lt (by decide)).mp (ax_gx hE (49, [3, 7, 15, 19]) (by decide))
  have kd : ρ 5 / 4 = pz_kd (pz_gt (ρ 0)) (pz_gN (ρ 0)) (pz_p (pz_cf (pz_gt (ρ 0)) (pz_gN (ρ 0)) (ρ 1 / 4))) := F50.2.2.1
  rw [F98] at F78
  obtain ⟨ρ', h1, h2⟩ := pz_pn1 (K := ρ 3 / 4 * 4096 + 1003) (xf := [(46, [3, 11, 27, 19]), (99, [27, 4012, 15]), (44, [27])]) hE (by decide) (fun ρ' h1 h2 x hx => by
    have q0 : ρ' 0 = ρ 0 := h1 0 (by decide)
    have q1 : ρ' 1 = ρ 1 := h1 1 (by decide)
    have q2 : ρ' 2 = ρ 2 := h1 2 (by decide)
    have q3 : ρ' 3 = ρ 3 := h1 3 (by decide)
    have q4 : ρ' 4 = ρ 4 := h1 4 (by decide)
    have q5 : ρ' 5 = ρ 5 := h1 5 (by decide)
    rcases List.mem_cons.mp hx with e | hx
    · subst e
      refine (ax_XF_lt (x := 46) (by decide)).mpr ?_
      show py_46 (pz_gt (ρ' 0)) (pz_gN (ρ' 0)) ((ρ' 2) / 4) (ρ' 6) (ρ' 4)
      rw [q0, q2, q4, h2]
      rw [F98]
      exact pr_op (q := 43) (c := 4012) (by decide) F79 (by omega) rfl F78 (by decide) (by decide) F49 ⟨pz_41 _, F49.2.1, by decide⟩
    rcases List.mem_cons.mp hx with e | hx
    · subst e
      refine (ax_XF_lt (x := 99) (by decide)).mpr ?_
      show py_99 (ρ' 6) (4012) (ρ' 3)
      rw [q3, h2]
      exact ⟨pz_41 _, F49.2.1, by decide⟩
    cases List.mem_singleton.mp hx
    refine (ax_XF_lt (x := 44) (by decide)).mpr ?_
    show py_44 2 (ρ' 6)
    rw [h2]
    exact pr_44 (c := 4012) (s := ρ 3) ⟨pz_41 _, F49.2.1, by decide⟩ (by decide) (by decide))
  exact ⟨(fun y hy => by cases hy), _, List.mem_cons_self, ρ', h1, h2⟩

theorem axq_sq3c43_2 : ax_RO ax_wC ax_XC axu_sq3c43_2 := by
  intro ρ hp hE hT
  have j0 : ρ 0 % 4 = 1 := pz_gj hE 0 (by decide) rfl
  have j1 : ρ 1 % 4 = 1 := pz_gj hE 1 (by decide) rfl
  have j2 : ρ 2 % 4 = 1 := pz_gj hE 2 (by decide) rfl
  have j3 : ρ 3 % 4 = 1 := pz_gj hE 3 (by decide) rfl
  have j4 : ρ 4 % 4 = 1 := pz_gj hE 4 (by decide) rfl
  have j5 : ρ 5 % 4 = 1 := pz_gj hE 5 (by decide) rfl
  obtain ⟨i6a, i6b, i6c, i6d⟩ := pz_gi hE 6 2147483691 2147483691 (by decide) rfl
  obtain ⟨-, -, -, -, F50⟩ : ay_ex hp 8 ∧ ay_ex hp 10 ∧ ay_ex hp 11 ∧ ay_ex hp 12 ∧ pz_x50 (ρ 0) (ρ 1) (ay_at hp 8 5) (ay_at hp 8 6) (ay_at hp 8 7) (ay_at hp 8 8) (ay_at hp 10 0) (ay_at hp 10 1) (ay_at hp 10 2) (ay_at hp 10 3) (ay_at hp 10 4) (ay_at hp 8 9) (ay_at hp 8 11) (ay_at hp 8 10) (ay_at hp 8 3) (ay_at hp 8 4) (ay_at hp 11) (ay_at hp 12) := (ax_XF_lt (by decide)).mp (ax_gx hE (50, [3, 7]) (by decide))
  have F48 : py_48 2 (pz_gt (ρ 0)) (pz_gN (ρ 0)) ((ρ 1) / 4) (ρ 3) (ρ 4) := (ax_XF_lt (by decide)).mp (ax_gx hE (48, [3, 7, 15, 19]) (by decide))
  have F99 : py_99 (ρ 3) (4012) (ρ 2) := (ax_XF_lt (by decide)).mp (ax_gx hE (99, [15, 4012, 11]) (by decide))
  have F45 : py_44 1 (ρ 2) := (ax_XF_lt (by decide)).mp (ax_gx hE (45, [11]) (by decide))
  obtain ⟨-, -, -, F41⟩ : ay_ex hp 10 ∧ ay_ex hp 15 ∧ ay_ex hp 16 ∧ py_x41 (ρ 5) (ay_at hp 10 5) (ay_at hp 15) (ay_at hp 16) := (ax_XF_lt (by decide)).mp (ax_gx hE (41, [23]) (by decide))
  have F99a : py_99 (ρ 5) (4012) (ρ 4) := (ax_XF_lt (by decide)).mp (ax_gx hE (99, [23, 4012, 19]) (by decide))
  refine ⟨(fun y hy => by cases hy), _, List.mem_cons_self, ρ, fun _ _ => rfl, ax_px hE (by decide) (fun y hy => ?_)⟩
  cases List.mem_singleton.mp hy
  refine (ax_XF_lt (x := 49) (by decide)).mpr ?_
  show py_48 1 (pz_gt (ρ 0)) (pz_gN (ρ 0)) ((ρ 1) / 4) (ρ 2) (ρ 5)
  exact pr_sq3 F48 F99 (by decide) F45 F99a

theorem axq_sq2c45_2 : ax_RO ax_wC ax_XC axu_sq2c45_2 := by
  intro ρ hp hE hT
  have j0 : ρ 0 % 4 = 1 := pz_gj hE 0 (by decide) rfl
  have j1 : ρ 1 % 4 = 1 := pz_gj hE 1 (by decide) rfl
  have j2 : ρ 2 % 4 = 1 := pz_gj hE 2 (by decide) rfl
  have j3 : ρ 3 % 4 = 1 := pz_gj hE 3 (by decide) rfl
  have j4 : ρ 4 % 4 = 1 := pz_gj hE 4 (by decide) rfl
  obtain ⟨i5a, i5b, i5c, i5d⟩ := pz_gi hE 5 2147483693 2147483693 (by decide) rfl
  have c_kind : ay_at hp 8 7 = some (ρ 5) := ay_gfj hE 42 28 23 8 7 (by decide) (by rw [ax_vl_c (by decide)]) (by rw [ax_vl_c (by decide)])
  obtain ⟨-, -, -, -, F50⟩ : ay_ex hp 8 ∧ ay_ex hp 10 ∧ ay_ex hp 11 ∧ ay_ex hp 12 ∧ pz_x50 (ρ 0) (ρ 1) (ay_at hp 8 5) (ay_at hp 8 6) (ay_at hp 8 7) (ay_at hp 8 8) (ay_at hp 10 0) (ay_at hp 10 1) (ay_at hp 10 2) (ay_at hp 10 3) (ay_at hp 10 4) (ay_at hp 8 9) (ay_at hp 8 11) (ay_at hp 8 10) (ay_at hp 8 3) (ay_at hp 8 4) (ay_at hp 11) (ay_at hp 12) := (ax_XF_lt (by decide)).mp (ax_gx hE (50, [3, 7]) (by decide))
  rw [c_kind] at F50
  have F98 : (ρ 2) / 4 = (ρ 1) / 4 + 1 := (ax_XF_lt (by decide)).mp (ax_gx hE (98, [7, 11]) (by decide))
  have F78 : pz7 (pz_gt (ρ 0)) (pz_gN (ρ 0)) ((ρ 2) / 4) 8 := (ax_XF_lt (by decide)).mp (ax_gx hE (78, [3, 11]) (by decide))
  have F79 : pz7 (pz_gt (ρ 0)) (pz_gN (ρ 0)) ((ρ 1) / 4) 9 := (ax_XF_lt (by decide)).mp (ax_gx hE (79, [3, 7]) (by decide))
  have F49 : py_48 1 (pz_gt (ρ 0)) (pz_gN (ρ 0)) ((ρ 1) / 4) (ρ 3) (ρ 4) := (ax_XF_lt (by decide)).mp (ax_gx hE (49, [3, 7, 15, 19]) (by decide))
  have kd : ρ 5 / 4 = pz_kd (pz_gt (ρ 0)) (pz_gN (ρ 0)) (pz_p (pz_cf (pz_gt (ρ 0)) (pz_gN (ρ 0)) (ρ 1 / 4))) := F50.2.2.1
  rw [F98] at F78
  obtain ⟨ρ', h1, h2⟩ := pz_pn1 (K := ρ 3 / 4 * 4096 + 1004) (xf := [(46, [3, 11, 27, 19]), (99, [27, 4016, 15]), (44, [27])]) hE (by decide) (fun ρ' h1 h2 x hx => by
    have q0 : ρ' 0 = ρ 0 := h1 0 (by decide)
    have q1 : ρ' 1 = ρ 1 := h1 1 (by decide)
    have q2 : ρ' 2 = ρ 2 := h1 2 (by decide)
    have q3 : ρ' 3 = ρ 3 := h1 3 (by decide)
    have q4 : ρ' 4 = ρ 4 := h1 4 (by decide)
    have q5 : ρ' 5 = ρ 5 := h1 5 (by decide)
    rcases List.mem_cons.mp hx with e | hx
    · subst e
      refine (ax_XF_lt (x := 46) (by decide)).mpr ?_
      show py_46 (pz_gt (ρ' 0)) (pz_gN (ρ' 0)) ((ρ' 2) / 4) (ρ' 6) (ρ' 4)
      rw [q0, q2, q4, h2]
      rw [F98]
      exact pr_op (q := 45) (c := 4016) (by decide) F79 (by omega) rfl F78 (by decide) (by decide) F49 ⟨pz_41 _, F49.2.1, by decide⟩
    rcases List.mem_cons.mp hx with e | hx
    · subst e
      refine (ax_XF_lt (x := 99) (by decide)).mpr ?_
      show py_99 (ρ' 6) (4016) (ρ' 3)
      rw [q3, h2]
      exact ⟨pz_41 _, F49.2.1, by decide⟩
    cases List.mem_singleton.mp hx
    refine (ax_XF_lt (x := 44) (by decide)).mpr ?_
    show py_44 2 (ρ' 6)
    rw [h2]
    exact pr_44 (c := 4016) (s := ρ 3) ⟨pz_41 _, F49.2.1, by decide⟩ (by decide) (by decide))
  exact ⟨(fun y hy => by cases hy), _, List.mem_cons_self, ρ', h1, h2⟩

theorem axq_sq3c45_2 : ax_RO ax_wC ax_XC axu_sq3c45_2 := by
  intro ρ hp hE hT
  have j0 : ρ 0 % 4 = 1 := pz_gj hE 0 (by decide) rfl
  have j1 : ρ 1 % 4 = 1 := pz_gj hE 1 (by decide) rfl
  have j2 : ρ 2 % 4 = 1 := pz_gj hE 2 (by decide) rfl
  have j3 : ρ 3 % 4 = 1 := pz_gj hE 3 (by decide) rfl
  have j4 : ρ 4 % 4 = 1 := pz_gj hE 4 (by decide) rfl
  have j5 : ρ 5 % 4 = 1 := pz_gj hE 5 (by decide) rfl
  obtain ⟨i6a, i6b, i6c, i6d⟩ := pz_gi hE 6 2147483693 2147483693 (by decide) rfl
  obtain ⟨-, -, -, -, F50⟩ : ay_ex hp 8 ∧ ay_ex hp 10 ∧ ay_ex hp 11 ∧ ay_ex hp 12 ∧ pz_x50 (ρ 0) (ρ 1) (ay_at hp 8 5) (ay_at hp 8 6) (ay_at hp 8 7) (ay_at hp 8 8) (ay_at hp 10 0) (ay_at hp 10 1) (ay_at hp 10 2) (ay_at hp 10 3) (ay_at hp 10 4) (ay_at hp 8 9) (ay_at hp 8 11) (ay_at hp 8 10) (ay_at hp 8 3) (ay_at hp 8 4) (ay_at hp 11) (ay_at hp 12) := (ax_XF_lt (by decide)).mp (ax_gx hE (50, [3, 7]) (by decide))
  have F48 : py_48 2 (pz_gt (ρ 0)) (pz_gN (ρ 0)) ((ρ 1) / 4) (ρ 3) (ρ 4) := (ax_XF_lt (by decide)).mp (ax_gx hE (48, [3, 7, 15, 19]) (by decide))
  have F99 : py_99 (ρ 3) (4016) (ρ 2) := (ax_XF_lt (by decide)).mp (ax_gx hE (99, [15, 4016, 11]) (by decide))
  have F45 : py_44 1 (ρ 2) := (ax_XF_lt (by decide)).mp (ax_gx hE (45, [11]) (by decide))
  obtain ⟨-, -, -, F41⟩ : ay_ex hp 10 ∧ ay_ex hp 15 ∧ ay_ex hp 16 ∧ py_x41 (ρ 5) (ay_at hp 10 5) (ay_at hp 15) (ay_at hp 16) := (ax_XF_lt (by decide)).mp (ax_gx hE (41, [23]) (by decide))
  have F99a : py_99 (ρ 5) (4016) (ρ 4) := (ax_XF_lt (by decide)).mp (ax_gx hE (99, [23, 4016, 19]) (by decide))
  refine ⟨(fun y hy => by cases hy), _, List.mem_cons_self, ρ, fun _ _ => rfl, ax_px hE (by decide) (fun y hy => ?_)⟩
  cases List.mem_singleton.mp hy
  refine (ax_XF_lt (x := 49) (by decide)).mpr ?_
  show py_48 1 (pz_gt (ρ 0)) (pz_gN (ρ 0)) ((ρ 1) / 4) (ρ 2) (ρ 5)
  exact pr_sq3 F48 F99 (by decide) F45 F99a

theorem axq_sql_2 : ax_RO ax_wC ax_XC axu_sql_2 := by
  intro ρ hp hE hT
  have j0 : ρ 0 % 4 = 1 := pz_gj hE 0 (by decide) rfl
  have j1 : ρ 1 % 4 = 1 := pz_gj hE 1 (by decide) rfl
  have j2 : ρ 2 % 4 = 1 := pz_gj hE 2 (by decide) rfl
  have j3 : ρ 3 % 4 = 1 := pz_gj hE 3 (by decide) rfl
  obtain ⟨-, -, -, -, F50⟩ : ay_ex hp 8 ∧ ay_ex hp 10 ∧ ay_ex hp 11 ∧ ay_ex hp 12 ∧ pz_x50 (ρ 0) (ρ 1) (ay_at hp 8 5) (ay_at hp 8 6) (ay_at hp 8 7) (ay_at hp 8 8) (ay_at hp 10 0) (ay_at hp 10 1) (ay_at hp 10 2) (ay_at hp 10 3) (ay_at hp 10 4) (ay_at hp 8 9) (ay_at hp 8 11) (ay_at hp 8 10) (ay_at hp 8 3) (ay_at hp 8 4) (ay_at hp 11) (ay_at hp 12) := (ax_XF_lt (by decide)).mp (ax_gx hE (50, [3, 7]) (by decide))
  have F79 : pz7 (pz_gt (ρ 0)) (pz_gN (ρ 0)) ((ρ 1) / 4) 9 := (ax_XF_lt (by decide)).mp (ax_gx hE (79, [3, 7]) (by decide))
  have F48 : py_48 2 (pz_gt (ρ 0)) (pz_gN (ρ 0)) ((ρ 1) / 4) (ρ 2) (ρ 3) := (ax_XF_lt (by decide)).mp (ax_gx hE (48, [3, 7, 11, 15]) (by decide))
  refine ⟨(fun y hy => by cases hy), _, List.mem_cons_self, ρ, fun _ _ => rfl, ax_px hE (by decide) (fun y hy => ?_)⟩
  cases List.mem_singleton.mp hy
  refine (ax_XF_lt (x := 40) (by decide)).mpr ?_
  show py_40 (ρ 3)
  exact pr_l48 F79 (by decide) F48

theorem axq_s45_2 : ax_RO ax_wC ax_XC axu_s45_2 := by
  intro ρ hp hE hT
  have j0 : ρ 0 % 4 = 1 := pz_gj hE 0 (by decide) rfl
  have F45 : py_44 1 (ρ 0) := (ax_XF_lt (by decide)).mp (ax_gx hE (45, [3]) (by decide))
  refine ⟨(fun y hy => by cases hy), _, List.mem_cons_self, ρ, fun _ _ => rfl, ax_px hE (by decide) (fun y hy => ?_)⟩
  cases List.mem_singleton.mp hy
  refine (ax_XF_lt (x := 44) (by decide)).mpr ?_
  show py_44 2 (ρ 0)
  exact pr_45 F45

theorem axq_sq1_3 : ax_RO ax_wC ax_XC axu_sq1_3 := by
  intro ρ hp hE hT
  have j0 : ρ 0 % 4 = 1 := pz_gj hE 0 (by decide) rfl
  have j1 : ρ 1 % 4 = 1 := pz_gj hE 1 (by decide) rfl
  have j2 : ρ 2 % 4 = 1 := pz_gj hE 2 (by decide) rfl
  have j3 : ρ 3 % 4 = 1 := pz_gj hE 3 (by decide) rfl
  obtain ⟨-, -, -, -, F50⟩ : ay_ex hp 8 ∧ ay_ex hp 10 ∧ ay_ex hp 11 ∧ ay_ex hp 12 ∧ pz_x50 (ρ 0) (ρ 1) (ay_at hp 8 5) (ay_at hp 8 6) (ay_at hp 8 7) (ay_at hp 8 8) (ay_at hp 10 0) (ay_at hp 10 1) (ay_at hp 10 2) (ay_at hp 10 3) (ay_at hp 10 4) (ay_at hp 8 9) (ay_at hp 8 11) (ay_at hp 8 10) (ay_at hp 8 3) (ay_at hp 8 4) (ay_at hp 11) (ay_at hp 12) := (ax_XF_lt (by decide)).mp (ax_gx hE (50, [3, 7]) (by decide))
  have F48 : py_48 2 (pz_gt (ρ 0)) (pz_gN (ρ 0)) ((ρ 1) / 4) (ρ 2) (ρ 3) := (ax_XF_lt (by decide)).mp (ax_gx hE (48, [3, 7, 11, 15]) (by decide))
  have F45 : py_44 1 (ρ 2) := (ax_XF_lt (by decide)).mp (ax_gx hE (45, [11]) (by decide))
  refine ⟨(fun y hy => by cases hy), _, List.mem_cons_self, ρ, fun _ _ => rfl, ax_px hE (by decide) (fun y hy => ?_)⟩
  cases List.mem_singleton.mp hy
  refine (ax_XF_lt (x := 49) (by decide)).mpr ?_
  show py_48 1 (pz_gt (ρ 0)) (pz_gN (ρ 0)) ((ρ 1) / 4) (ρ 2) (ρ 3)
  exact pr_sq1 F48 F45

theorem axq_sq2c43_3 : ax_RO ax_wC ax_XC axu_sq2c43_3 := by
  intro ρ hp hE hT
  have j0 : ρ 0 % 4 = 1 := pz_gj hE 0 (by decide) rfl
  have j1 : ρ 1 % 4 = 1 := pz_gj hE 1 (by decide) rfl
  have j2 : ρ 2 % 4 = 1 := pz_gj hE 2 (by decide) rfl
  have j3 : ρ 3 % 4 = 1 := pz_gj hE 3 (by decide) rfl
  have j4 : ρ 4 % 4 = 1 := pz_gj hE 4 (by decide) rfl
  obtain ⟨i5a, i5b, i5c, i5d⟩ := pz_gi hE 5 2147483691 2147483691 (by decide) rfl
  have c_kind : ay_at hp 8 7 = some (ρ 5) := ay_gfj hE 42 28 23 8 7 (by decide) (by rw [ax_vl_c (by decide)]) (by rw [ax_vl_c (by decide)])
  obtain ⟨-, -, -, -, F50⟩ : ay_ex hp 8 ∧ ay_ex hp 10 ∧ ay_ex hp 11 ∧ ay_ex hp 12 ∧ pz_x50 (ρ 0) (ρ 1) (ay_at hp 8 5) (ay_at hp 8 6) (ay_at hp 8 7) (ay_at hp 8 8) (ay_at hp 10 0) (ay_at hp 10 1) (ay_at hp 10 2) (ay_at hp 10 3) (ay_at hp 10 4) (ay_at hp 8 9) (ay_at hp 8 11) (ay_at hp 8 10) (ay_at hp 8 3) (ay_at hp 8 4) (ay_at hp 11) (ay_at hp 12) := (ax_XF_lt (by decide)).mp (ax_gx hE (50, [3, 7]) (by decide))
  rw [c_kind] at F50
  have F98 : (ρ 2) / 4 = (ρ 1) / 4 + 1 := (ax_XF_lt (by decide)).mp (ax_gx hE (98, [7, 11]) (by decide))
  have F78 : pz7 (pz_gt (ρ 0)) (pz_gN (ρ 0)) ((ρ 2) / 4) 8 := (ax_XF_lt (by decide)).mp (ax_gx hE (78, [3, 11]) (by decide))
  have F79 : pz7 (pz_gt (ρ 0)) (pz_gN (ρ 0)) ((ρ 1) / 4) 9 := (ax_XF_lt (by decide)).mp (ax_gx hE (79, [3, 7]) (by decide))
  have F49 : py_48 1 (pz_gt (ρ 0)) (pz_gN (ρ 0)) ((ρ 1) / 4) (ρ 3) (ρ 4) := (ax_XF_lt (by decide)).mp (ax_gx hE (49, [3, 7, 15, 19]) (by decide))
  have kd : ρ 5 / 4 = pz_kd (pz_gt (ρ 0)) (pz_gN (ρ 0)) (pz_p (pz_cf (pz_gt (ρ 0)) (pz_gN (ρ 0)) (ρ 1 / 4))) := F50.2.2.1
  rw [F98] at F78
  obtain ⟨ρ', h1, h2⟩ := pz_pn1 (K := ρ 3 / 4 * 4096 + 1003) (xf := [(46, [3, 11, 27, 19]), (99, [27, 4012, 15]), (44, [27])]) hE (by decide) (fun ρ' h1 h2 x hx => by
    have q0 : ρ' 0 = ρ 0 := h1 0 (by decide)
    have q1 : ρ' 1 = ρ 1 := h1 1 (by decide)
    have q2 : ρ' 2 = ρ 2 := h1 2 (by decide)
    have q3 : ρ' 3 = ρ 3 := h1 3 (by decide)
    have q4 : ρ' 4 = ρ 4 := h1 4 (by decide)
    have q5 : ρ' 5 = ρ 5 := h1 5 (by decide)
    rcases List.mem_cons.mp hx with e | hx
    · subst e
      refine (ax_XF_lt (x := 46) (by decide)).mpr ?_
      show py_46 (pz_gt (ρ' 0)) (pz_gN (ρ' 0)) ((ρ' 2) / 4) (ρ' 6) (ρ' 4)
      rw [q0, q2, q4, h2]
      rw [F98]
      exact pr_op (q := 43) (c := 4012) (by decide) F79 (by omega) rfl F78 (by decide) (by decide) F49 ⟨pz_41 _, F49.2.1, by decide⟩
    rcases List.mem_cons.mp hx with e | hx
    · subst e
      refine (ax_XF_lt (x := 99) (by decide)).mpr ?_
      show py_99 (ρ' 6) (4012) (ρ' 3)
      rw [q3, h2]
      exact ⟨pz_41 _, F49.2.1, by decide⟩
    cases List.mem_singleton.mp hx
    refine (ax_XF_lt (x := 44) (by decide)).mpr ?_
    show py_44 2 (ρ' 6)
    rw [h2]
    exact pr_44 (c := 4012) (s := ρ 3) ⟨pz_41 _, F49.2.1, by decide⟩ (by decide) (by decide))
  exact ⟨(fun y hy => by cases hy), _, List.mem_cons_self, ρ', h1, h2⟩

theorem axq_sq3c43_3 : ax_RO ax_wC ax_XC axu_sq3c43_3 := by
  intro ρ hp hE hT
  have j0 : ρ 0 % 4 = 1 := pz_gj hE 0 (by decide) rfl
  have j1 : ρ 1 % 4 = 1 := pz_gj hE 1 (by decide) rfl
  have j2 : ρ 2 % 4 = 1 := pz_gj hE 2 (by decide) rfl
  have j3 : ρ 3 % 4 = 1 := pz_gj hE 3 (by decide) rfl
  have j4 : ρ 4 % 4 = 1 := pz_gj hE 4 (by decide) rfl
  have j5 : ρ 5 % 4 = 1 := pz_gj hE 5 (by decide) rfl
  obtain ⟨i6a, i6b, i6c, i6d⟩ := pz_gi hE 6 2147483691 2147483691 (by decide) rfl
  obtain ⟨-, -, -, -, F50⟩ : ay_ex hp 8 ∧ ay_ex hp 10 ∧ ay_ex hp 11 ∧ ay_ex hp 12 ∧ pz_x50 (ρ 0) (ρ 1) (ay_at hp 8 5) (ay_at hp 8 6) (ay_at hp 8 7) (ay_at hp 8 8) (ay_at hp 10 0) (ay_at hp 10 1) (ay_at hp 10 2) (ay_at hp 10 3) (ay_at hp 10 4) (ay_at hp 8 9) (ay_at hp 8 11) (ay_at hp 8 10) (ay_at hp 8 3) (ay_at hp 8 4) (ay_at hp 11) (ay_at hp 12) := (ax_XF_lt (by decide)).mp (ax_gx hE (50, [3, 7]) (by decide))
  have F48 : py_48 2 (pz_gt (ρ 0)) (pz_gN (ρ 0)) ((ρ 1) / 4) (ρ 3) (ρ 4) := (ax_XF_lt (by decide)).mp (ax_gx hE (48, [3, 7, 15, 19]) (by decide))
  have F99 : py_99 (ρ 3) (4012) (ρ 2) := (ax_XF_lt (by decide)).mp (ax_gx hE (99, [15, 4012, 11]) (by decide))
  have F45 : py_44 1 (ρ 2) := (ax_XF_lt (by decide)).mp (ax_gx hE (45, [11]) (by decide))
  obtain ⟨-, -, -, F41⟩ : ay_ex hp 10 ∧ ay_ex hp 15 ∧ ay_ex hp 16 ∧ py_x41 (ρ 5) (ay_at hp 10 5) (ay_at hp 15) (ay_at hp 16) := (ax_XF_lt (by decide)).mp (ax_gx hE (41, [23]) (by decide))
  have F99a : py_99 (ρ 5) (4012) (ρ 4) := (ax_XF_lt (by decide)).mp (ax_gx hE (99, [23, 4012, 19]) (by decide))
  refine ⟨(fun y hy => by cases hy), _, List.mem_cons_self, ρ, fun _ _ => rfl, ax_px hE (by decide) (fun y hy => ?_)⟩
  cases List.mem_singleton.mp hy
  refine (ax_XF_lt (x := 49) (by decide)).mpr ?_
  show py_48 1 (pz_gt (ρ 0)) (pz_gN (ρ 0)) ((ρ 1) / 4) (ρ 2) (ρ 5)
  exact pr_sq3 F48 F99 (by decide) F45 F99a

theorem axq_sq2c45_3 : ax_RO ax_wC ax_XC axu_sq2c45_3 := by
  intro ρ hp hE hT
  have j0 : ρ 0 % 4 = 1 := pz_gj hE 0 (by decide) rfl
  have j1 : ρ 1 % 4 = 1 := pz_gj hE 1 (by decide) rfl
  have j2 : ρ 2 % 4 = 1 := pz_gj hE 2 (by decide) rfl
  have j3 : ρ 3 % 4 = 1 := pz_gj hE 3 (by decide) rfl
  have j4 : ρ 4 % 4 = 1 := pz_gj hE 4 (by decide) rfl
  obtain ⟨i5a, i5b, i5c, i5d⟩ := pz_gi hE 5 2147483693 2147483693 (by decide) rfl
  have c_kind : ay_at hp 8 7 = some (ρ 5) := ay_gfj hE 42 28 23 8 7 (by decide) (by rw [ax_vl_c (by decide)]) (by rw [ax_vl_c (by decide)])
  obtain ⟨-, -, -, -, F50⟩ : ay_ex hp 8 ∧ ay_ex hp 10 ∧ ay_ex hp 11 ∧ ay_ex hp 12 ∧ pz_x50 (ρ 0) (ρ 1) (ay_at hp 8 5) (ay_at hp 8 6) (ay_at hp 8 7) (ay_at hp 8 8) (ay_at hp 10 0) (ay_at hp 10 1) (ay_at hp 10 2) (ay_at hp 10 3) (ay_at hp 10 4) (ay_at hp 8 9) (ay_at hp 8 11) (ay_at hp 8 10) (ay_at hp 8 3) (ay_at hp 8 4) (ay_at hp 11) (ay_at hp 12) := (ax_XF_lt (by decide)).mp (ax_gx hE (50, [3, 7]) (by decide))
  rw [c_kind] at F50
  have F98 : (ρ 2) / 4 = (ρ 1) / 4 + 1 := (ax_XF_lt (by decide)).mp (ax_gx hE (98, [7, 11]) (by decide))
  have F78 : pz7 (pz_gt (ρ 0)) (pz_gN (ρ 0)) ((ρ 2) / 4) 8 := (ax_XF_lt (by decide)).mp (ax_gx hE (78, [3, 11]) (by decide))
  have F79 : pz7 (pz_gt (ρ 0)) (pz_gN (ρ 0)) ((ρ 1) / 4) 9 := (ax_XF_lt (by decide)).mp (ax_gx hE (79, [3, 7]) (by decide))
  have F49 : py_48 1 (pz_gt (ρ 0)) (pz_gN (ρ 0)) ((ρ 1) / 4) (ρ 3) (ρ 4) := (ax_XF_lt (by decide)).mp (ax_gx hE (49, [3, 7, 15, 19]) (by decide))
  have kd : ρ 5 / 4 = pz_kd (pz_gt (ρ 0)) (pz_gN (ρ 0)) (pz_p (pz_cf (pz_gt (ρ 0)) (pz_gN (ρ 0)) (ρ 1 / 4))) := F50.2.2.1
  rw [F98] at F78
  obtain ⟨ρ', h1, h2⟩ := pz_pn1 (K := ρ 3 / 4 * 4096 + 1004) (xf := [(46, [3, 11, 27, 19]), (99, [27, 4016, 15]), (44, [27])]) hE (by decide) (fun ρ' h1 h2 x hx => by
    have q0 : ρ' 0 = ρ 0 := h1 0 (by decide)
    have q1 : ρ' 1 = ρ 1 := h1 1 (by decide)
    have q2 : ρ' 2 = ρ 2 := h1 2 (by decide)
    have q3 : ρ' 3 = ρ 3 := h1 3 (by decide)
    have q4 : ρ' 4 = ρ 4 := h1 4 (by decide)
    have q5 : ρ' 5 = ρ 5 := h1 5 (by decide)
    rcases List.mem_cons.mp hx with e | hx
    · subst e
      refine (ax_XF_lt (x := 46) (by decide)).mpr ?_
      show py_46 (pz_gt (ρ' 0)) (pz_gN (ρ' 0)) ((ρ' 2) / 4) (ρ' 6) (ρ' 4)
      rw [q0, q2, q4, h2]
      rw [F98]
      exact pr_op (q := 45) (c := 4016) (by decide) F79 (by omega) rfl F78 (by decide) (by decide) F49 ⟨pz_41 _, F49.2.1, by decide⟩
    rcases List.mem_cons.mp hx with e | hx
    · subst e
      refine (ax_XF_lt (x := 99) (by decide)).mpr ?_
      show py_99 (ρ' 6) (4016) (ρ' 3)
      rw [q3, h2]
      exact ⟨pz_41 _, F49.2.1, by decide⟩
    cases List.mem_singleton.mp hx
    refine (ax_XF_lt (x := 44) (by decide)).mpr ?_
    show py_44 2 (ρ' 6)
    rw [h2]
    exact pr_44 (c := 4016) (s := ρ 3) ⟨pz_41 _, F49.2.1, by decide⟩ (by decide) (by decide))
  exact ⟨(fun y hy => by cases hy), _, List.mem_cons_self, ρ', h1, h2⟩

theorem axq_sq3c45_3 : ax_RO ax_wC ax_XC axu_sq3c45_3 := by
  intro ρ hp hE hT
  have j0 : ρ 0 % 4 = 1 := pz_gj hE 0 (by decide) rfl
  have j1 : ρ 1 % 4 = 1 := pz_gj hE 1 (by decide) rfl
  have j2 : ρ 2 % 4 = 1 := pz_gj hE 2 (by decide) rfl
  have j3 : ρ 3 % 4 = 1 := pz_gj hE 3 (by decide) rfl
  have j4 : ρ 4 % 4 = 1 := pz_gj hE 4 (by decide) rfl
  have j5 : ρ 5 % 4 = 1 := pz_gj hE 5 (by decide) rfl
  obtain ⟨i6a, i6b, i6c, i6d⟩ := pz_gi hE 6 2147483693 2147483693 (by decide) rfl
  obtain ⟨-, -, -, -, F50⟩ : ay_ex hp 8 ∧ ay_ex hp 10 ∧ ay_ex hp 11 ∧ ay_ex hp 12 ∧ pz_x50 (ρ 0) (ρ 1) (ay_at hp 8 5) (ay_at hp 8 6) (ay_at hp 8 7) (ay_at hp 8 8) (ay_at hp 10 0) (ay_at hp 10 1) (ay_at hp 10 2) (ay_at hp 10 3) (ay_at hp 10 4) (ay_at hp 8 9) (ay_at hp 8 11) (ay_at hp 8 10) (ay_at hp 8 3) (ay_at hp 8 4) (ay_at hp 11) (ay_at hp 12) := (ax_XF_lt (by decide)).mp (ax_gx hE (50, [3, 7]) (by decide))
  have F48 : py_48 2 (pz_gt (ρ 0)) (pz_gN (ρ 0)) ((ρ 1) / 4) (ρ 3) (ρ 4) := (ax_XF_lt (by decide)).mp (ax_gx hE (48, [3, 7, 15, 19]) (by decide))
  have F99 : py_99 (ρ 3) (4016) (ρ 2) := (ax_XF_lt (by decide)).mp (ax_gx hE (99, [15, 4016, 11]) (by decide))
  have F45 : py_44 1 (ρ 2) := (ax_XF_lt (by decide)).mp (ax_gx hE (45, [11]) (by decide))
  obtain ⟨-, -, -, F41⟩ : ay_ex hp 10 ∧ ay_ex hp 15 ∧ ay_ex hp 16 ∧ py_x41 (ρ 5) (ay_at hp 10 5) (ay_at hp 15) (ay_at hp 16) := (ax_XF_lt (by decide)).mp (ax_gx hE (41, [23]) (by decide))
  have F99a : py_99 (ρ 5) (4016) (ρ 4) := (ax_XF_lt (by decide)).mp (ax_gx hE (99, [23, 4016, 19]) (by decide))
  refine ⟨(fun y hy => by cases hy), _, List.mem_cons_self, ρ, fun _ _ => rfl, ax_px hE (by decide) (fun y hy => ?_)⟩
  cases List.mem_singleton.mp hy
  refine (ax_XF_lt (x := 49) (by decide)).mpr ?_
  show py_48 1 (pz_gt (ρ 0)) (pz_gN (ρ 0)) ((ρ 1) / 4) (ρ 2) (ρ 5)
  exact pr_sq3 F48 F99 (by decide) F45 F99a

theorem axq_sql_3 : ax_RO ax_wC ax_XC axu_sql_3 := by
  intro ρ hp hE hT
  have j0 : ρ 0 % 4 = 1 := pz_gj hE 0 (by decide) rfl
  have j1 : ρ 1 % 4 = 1 := pz_gj hE 1 (by decide) rfl
  have j2 : ρ 2 % 4 = 1 := pz_gj hE 2 (by decide) rfl
  have j3 : ρ 3 % 4 = 1 := pz_gj hE 3 (by decide) rfl
  obtain ⟨-, -, -, -, F50⟩ : ay_ex hp 8 ∧ ay_ex hp 10 ∧ ay_ex hp 11 ∧ ay_ex hp 12 ∧ pz_x50 (ρ 0) (ρ 1) (ay_at hp 8 5) (ay_at hp 8 6) (ay_at hp 8 7) (ay_at hp 8 8) (ay_at hp 10 0) (ay_at hp 10 1) (ay_at hp 10 2) (ay_at hp 10 3) (ay_at hp 10 4) (ay_at hp 8 9) (ay_at hp 8 11) (ay_at hp 8 10) (ay_at hp 8 3) (ay_at hp 8 4) (ay_at hp 11) (ay_at hp 12) := (ax_XF_lt (by decide)).mp (ax_gx hE (50, [3, 7]) (by decide))
  have F79 : pz7 (pz_gt (ρ 0)) (pz_gN (ρ 0)) ((ρ 1) / 4) 9 := (ax_XF_lt (by decide)).mp (ax_gx hE (79, [3, 7]) (by decide))
  have F48 : py_48 2 (pz_gt (ρ 0)) (pz_gN (ρ 0)) ((ρ 1) / 4) (ρ 2) (ρ 3) := (ax_XF_lt (by decide)).mp (ax_gx hE (48, [3, 7, 11, 15]) (by decide))
  refine ⟨(fun y hy => by cases hy), _, List.mem_cons_self, ρ, fun _ _ => rfl, ax_px hE (by decide) (fun y hy => ?_)⟩
  cases List.mem_singleton.mp hy
  refine (ax_XF_lt (x := 40) (by decide)).mpr ?_
  show py_40 (ρ 3)
  exact pr_l48 F79 (by decide) F48

theorem axq_s45_3 : ax_RO ax_wC ax_XC axu_s45_3 := by
  intro ρ hp hE hT
  have j0 : ρ 0 % 4 = 1 := pz_gj hE 0 (by decide) rfl
  have F45 : py_44 1 (ρ 0) := (ax_XF_lt (by decide)).mp (ax_gx hE (45, [3]) (by decide))
  refine ⟨(fun y hy => by cases hy), _, List.mem_cons_self, ρ, fun _ _ => rfl, ax_px hE (by decide) (fun y hy => ?_)⟩
  cases List.mem_singleton.mp hy
  refine (ax_XF_lt (x := 44) (by decide)).mpr ?_
  show py_44 2 (ρ 0)
  exact pr_45 F45

theorem axq_sq1_4 : ax_RO ax_wC ax_XC axu_sq1_4 := by
  intro ρ hp hE hT
  have j0 : ρ 0 % 4 = 1 := pz_gj hE 0 (by decide) rfl
  have j1 : ρ 1 % 4 = 1 := pz_gj hE 1 (by decide) rfl
  have j2 : ρ 2 % 4 = 1 := pz_gj hE 2 (by decide) rfl
  have j3 : ρ 3 % 4 = 1 := pz_gj hE 3 (by decide) rfl
  obtain ⟨-, -, -, -, F50⟩ : ay_ex hp 8 ∧ ay_ex hp 10 ∧ ay_ex hp 11 ∧ ay_ex hp 12 ∧ pz_x50 (ρ 0) (ρ 1) (ay_at hp 8 5) (ay_at hp 8 6) (ay_at hp 8 7) (ay_at hp 8 8) (ay_at hp 10 0) (ay_at hp 10 1) (ay_at hp 10 2) (ay_at hp 10 3) (ay_at hp 10 4) (ay_at hp 8 9) (ay_at hp 8 11) (ay_at hp 8 10) (ay_at hp 8 3) (ay_at hp 8 4) (ay_at hp 11) (ay_at hp 12) := (ax_XF_lt (by decide)).mp (ax_gx hE (50, [3, 7]) (by decide))
  have F48 : py_48 2 (pz_gt (ρ 0)) (pz_gN (ρ 0)) ((ρ 1) / 4) (ρ 2) (ρ 3) := (ax_XF_lt (by decide)).mp (ax_gx hE (48, [3, 7, 11, 15]) (by decide))
  have F45 : py_44 1 (ρ 2) := (ax_XF_lt (by decide)).mp (ax_gx hE (45, [11]) (by decide))
  refine ⟨(fun y hy => by cases hy), _, List.mem_cons_self, ρ, fun _ _ => rfl, ax_px hE (by decide) (fun y hy => ?_)⟩
  cases List.mem_singleton.mp hy
  refine (ax_XF_lt (x := 49) (by decide)).mpr ?_
  show py_48 1 (pz_gt (ρ 0)) (pz_gN (ρ 0)) ((ρ 1) / 4) (ρ 2) (ρ 3)
  exact pr_sq1 F48 F45

theorem axq_sq2c43_4 : ax_RO ax_wC ax_XC axu_sq2c43_4 := by
  intro ρ hp hE hT
  have j0 : ρ 0 % 4 = 1 := pz_gj hE 0 (by decide) rfl
  have j1 : ρ 1 % 4 = 1 := pz_gj hE 1 (by decide) rfl
  have j2 : ρ 2 % 4 = 1 := pz_gj hE 2 (by decide) rfl
  have j3 : ρ 3 % 4 = 1 := pz_gj hE 3 (by decide) rfl
  have j4 : ρ 4 % 4 = 1 := pz_gj hE 4 (by decide) rfl
  obtain ⟨i5a, i5b, i5c, i5d⟩ := pz_gi hE 5 2147483691 2147483691 (by decide) rfl
  have c_kind : ay_at hp 8 7 = some (ρ 5) := ay_gfj hE 42 28 23 8 7 (by decide) (by rw [ax_vl_c (by decide)]) (by rw [ax_vl_c (by decide)])
  obtain ⟨-, -, -, -, F50⟩ : ay_ex hp 8 ∧ ay_ex hp 10 ∧ ay_ex hp 11 ∧ ay_ex hp 12 ∧ pz_x50 (ρ 0) (ρ 1) (ay_at hp 8 5) (ay_at hp 8 6) (ay_at hp 8 7) (ay_at hp 8 8) (ay_at hp 10 0) (ay_at hp 10 1) (ay_at hp 10 2) (ay_at hp 10 3) (ay_at hp 10 4) (ay_at hp 8 9) (ay_at hp 8 11) (ay_at hp 8 10) (ay_at hp 8 3) (ay_at hp 8 4) (ay_at hp 11) (ay_at hp 12) := (ax_XF_lt (by decide)).mp (ax_gx hE (50, [3, 7]) (by decide))
  rw [c_kind] at F50
  have F98 : (ρ 2) / 4 = (ρ 1) / 4 + 1 := (ax_XF_lt (by decide)).mp (ax_gx hE (98, [7, 11]) (by decide))
  have F78 : pz7 (pz_gt (ρ 0)) (pz_gN (ρ 0)) ((ρ 2) / 4) 8 := (ax_XF_lt (by decide)).mp (ax_gx hE (78, [3, 11]) (by decide))
  have F79 : pz7 (pz_gt (ρ 0)) (pz_gN (ρ 0)) ((ρ 1) / 4) 9 := (ax_XF_lt (by decide)).mp (ax_gx hE (79, [3, 7]) (by decide))
  have F49 : py_48 1 (pz_gt (ρ 0)) (pz_gN (ρ 0)) ((ρ 1) / 4) (ρ 3) (ρ 4) := (ax_XF_lt (by decide)).mp (ax_gx hE (49, [3, 7, 15, 19]) (by decide))
  have kd : ρ 5 / 4 = pz_kd (pz_gt (ρ 0)) (pz_gN (ρ 0)) (pz_p (pz_cf (pz_gt (ρ 0)) (pz_gN (ρ 0)) (ρ 1 / 4))) := F50.2.2.1
  rw [F98] at F78
  obtain ⟨ρ', h1, h2⟩ := pz_pn1 (K := ρ 3 / 4 * 4096 + 1003) (xf := [(46, [3, 11, 27, 19]), (99, [27, 4012, 15]), (44, [27])]) hE (by decide) (fun ρ' h1 h2 x hx => by
    have q0 : ρ' 0 = ρ 0 := h1 0 (by decide)
    have q1 : ρ' 1 = ρ 1 := h1 1 (by decide)
    have q2 : ρ' 2 = ρ 2 := h1 2 (by decide)
    have q3 : ρ' 3 = ρ 3 := h1 3 (by decide)
    have q4 : ρ' 4 = ρ 4 := h1 4 (by decide)
    have q5 : ρ' 5 = ρ 5 := h1 5 (by decide)
    rcases List.mem_cons.mp hx with e | hx
    · subst e
      refine (ax_XF_lt (x := 46) (by decide)).mpr ?_
      show py_46 (pz_gt (ρ' 0)) (pz_gN (ρ' 0)) ((ρ' 2) / 4) (ρ' 6) (ρ' 4)
      rw [q0, q2, q4, h2]
      rw [F98]
      exact pr_op (q := 43) (c := 4012) (by decide) F79 (by omega) rfl F78 (by decide) (by decide) F49 ⟨pz_41 _, F49.2.1, by decide⟩
    rcases List.mem_cons.mp hx with e | hx
    · subst e
      refine (ax_XF_lt (x := 99) (by decide)).mpr ?_
      show py_99 (ρ' 6) (4012) (ρ' 3)
      rw [q3, h2]
      exact ⟨pz_41 _, F49.2.1, by decide⟩
    cases List.mem_singleton.mp hx
    refine (ax_XF_lt (x := 44) (by decide)).mpr ?_
    show py_44 2 (ρ' 6)
    rw [h2]
    exact pr_44 (c := 4012) (s := ρ 3) ⟨pz_41 _, F49.2.1, by decide⟩ (by decide) (by decide))
  exact ⟨(fun y hy => by cases hy), _, List.mem_cons_self, ρ', h1, h2⟩

theorem axq_sq3c43_4 : ax_RO ax_wC ax_XC axu_sq3c43_4 := by
  intro ρ hp hE hT
  have j0 : ρ 0 % 4 = 1 := pz_gj hE 0 (by decide) rfl
  have j1 : ρ 1 % 4 = 1 := pz_gj hE 1 (by decide) rfl
  have j2 : ρ 2 % 4 = 1 := pz_gj hE 2 (by decide) rfl
  have j3 : ρ 3 % 4 = 1 := pz_gj hE 3 (by decide) rfl
  have j4 : ρ 4 % 4 = 1 := pz_gj hE 4 (by decide) rfl
  have j5 : ρ 5 % 4 = 1 := pz_gj hE 5 (by decide) rfl
  obtain ⟨i6a, i6b, i6c, i6d⟩ := pz_gi hE 6 2147483691 2147483691 (by decide) rfl
  obtain ⟨-, -, -, -, F50⟩ : ay_ex hp 8 ∧ ay_ex hp 10 ∧ ay_ex hp 11 ∧ ay_ex hp 12 ∧ pz_x50 (ρ 0) (ρ 1) (ay_at hp 8 5) (ay_at hp 8 6) (ay_at hp 8 7) (ay_at hp 8 8) (ay_at hp 10 0) (ay_at hp 10 1) (ay_at hp 10 2) (ay_at hp 10 3) (ay_at hp 10 4) (ay_at hp 8 9) (ay_at hp 8 11) (ay_at hp 8 10) (ay_at hp 8 3) (ay_at hp 8 4) (ay_at hp 11) (ay_at hp 12) := (ax_XF_lt (by decide)).mp (ax_gx hE (50, [3, 7]) (by decide))
  have F48 : py_48 2 (pz_gt (ρ 0)) (pz_gN (ρ 0)) ((ρ 1) / 4) (ρ 3) (ρ 4) := (ax_XF_lt (by decide)).mp (ax_gx hE (48, [3, 7, 15, 19]) (by decide))
  have F99 : py_99 (ρ 3) (4012) (ρ 2) := (ax_XF_lt (by decide)).mp (ax_gx hE (99, [15, 4012, 11]) (by decide))
  have F45 : py_44 1 (ρ 2) := (ax_XF_lt (by decide)).mp (ax_gx hE (45, [11]) (by decide))
  obtain ⟨-, -, -, F41⟩ : ay_ex hp 10 ∧ ay_ex hp 15 ∧ ay_ex hp 16 ∧ py_x41 (ρ 5) (ay_at hp 10 5) (ay_at hp 15) (ay_at hp 16) := (ax_XF_lt (by decide)).mp (ax_gx hE (41, [23]) (by decide))
  have F99a : py_99 (ρ 5) (4012) (ρ 4) := (ax_XF_lt (by decide)).mp (ax_gx hE (99, [23, 4012, 19]) (by decide))
  refine ⟨(fun y hy => by cases hy), _, List.mem_cons_self, ρ, fun _ _ => rfl, ax_px hE (by decide) (fun y hy => ?_)⟩
  cases List.mem_singleton.mp hy
  refine (ax_XF_lt (x := 49) (by decide)).mpr ?_
  show py_48 1 (pz_gt (ρ 0)) (pz_gN (ρ 0)) ((ρ 1) / 4) (ρ 2) (ρ 5)
  exact pr_sq3 F48 F99 (by decide) F45 F99a

theorem axq_sq2c45_4 : ax_RO ax_wC ax_XC axu_sq2c45_4 := by
  intro ρ hp hE hT
  have j0 : ρ 0 % 4 = 1 := pz_gj hE 0 (by decide) rfl
  have j1 : ρ 1 % 4 = 1 := pz_gj hE 1 (by decide) rfl
  have j2 : ρ 2 % 4 = 1 := pz_gj hE 2 (by decide) rfl
  have j3 : ρ 3 % 4 = 1 := pz_gj hE 3 (by decide) rfl
  have j4 : ρ 4 % 4 = 1 := pz_gj hE 4 (by decide) rfl
  obtain ⟨i5a, i5b, i5c, i5d⟩ := pz_gi hE 5 2147483693 2147483693 (by decide) rfl
  have c_kind : ay_at hp 8 7 = some (ρ 5) := ay_gfj hE 42 28 23 8 7 (by decide) (by rw [ax_vl_c (by decide)]) (by rw [ax_vl_c (by decide)])
  obtain ⟨-, -, -, -, F50⟩ : ay_ex hp 8 ∧ ay_ex hp 10 ∧ ay_ex hp 11 ∧ ay_ex hp 12 ∧ pz_x50 (ρ 0) (ρ 1) (ay_at hp 8 5) (ay_at hp 8 6) (ay_at hp 8 7) (ay_at hp 8 8) (ay_at hp 10 0) (ay_at hp 10 1) (ay_at hp 10 2) (ay_at hp 10 3) (ay_at hp 10 4) (ay_at hp 8 9) (ay_at hp 8 11) (ay_at hp 8 10) (ay_at hp 8 3) (ay_at hp 8 4) (ay_at hp 11) (ay_at hp 12) := (ax_XF_lt (by decide)).mp (ax_gx hE (50, [3, 7]) (by decide))
  rw [c_kind] at F50
  have F98 : (ρ 2) / 4 = (ρ 1) / 4 + 1 := (ax_XF_lt (by decide)).mp (ax_gx hE (98, [7, 11]) (by decide))
  have F78 : pz7 (pz_gt (ρ 0)) (pz_gN (ρ 0)) ((ρ 2) / 4) 8 := (ax_XF_lt (by decide)).mp (ax_gx hE (78, [3, 11]) (by decide))
  have F79 : pz7 (pz_gt (ρ 0)) (pz_gN (ρ 0)) ((ρ 1) / 4) 9 := (ax_XF_lt (by decide)).mp (ax_gx hE (79, [3, 7]) (by decide))
  have F49 : py_48 1 (pz_gt (ρ 0)) (pz_gN (ρ 0)) ((ρ 1) / 4) (ρ 3) (ρ 4) := (ax_XF_lt (by decide)).mp (ax_gx hE (49, [3, 7, 15, 19]) (by decide))
  have kd : ρ 5 / 4 = pz_kd (pz_gt (ρ 0)) (pz_gN (ρ 0)) (pz_p (pz_cf (pz_gt (ρ 0)) (pz_gN (ρ 0)) (ρ 1 / 4))) := F50.2.2.1
  rw [F98] at F78
  obtain ⟨ρ', h1, h2⟩ := pz_pn1 (K := ρ 3 / 4 * 4096 + 1004) (xf := [(46, [3, 11, 27, 19]), (99, [27, 4016, 15]), (44, [27])]) hE (by decide) (fun ρ' h1 h2 x hx => by
    have q0 : ρ' 0 = ρ 0 := h1 0 (by decide)
    have q1 : ρ' 1 = ρ 1 := h1 1 (by decide)
    have q2 : ρ' 2 = ρ 2 := h1 2 (by decide)
    have q3 : ρ' 3 = ρ 3 := h1 3 (by decide)
    have q4 : ρ' 4 = ρ 4 := h1 4 (by decide)
    have q5 : ρ' 5 = ρ 5 := h1 5 (by decide)
    rcases List.mem_cons.mp hx with e | hx
    · subst e
      refine (ax_XF_lt (x := 46) (by decide)).mpr ?_
      show py_46 (pz_gt (ρ' 0)) (pz_gN (ρ' 0)) ((ρ' 2) / 4) (ρ' 6) (ρ' 4)
      rw [q0, q2, q4, h2]
      rw [F98]
      exact pr_op (q := 45) (c := 4016) (by decide) F79 (by omega) rfl F78 (by decide) (by decide) F49 ⟨pz_41 _, F49.2.1, by decide⟩
    rcases List.mem_cons.mp hx with e | hx
    · subst e
      refine (ax_XF_lt (x := 99) (by decide)).mpr ?_
      show py_99 (ρ' 6) (4016) (ρ' 3)
      rw [q3, h2]
      exact ⟨pz_41 _, F49.2.1, by decide⟩
    cases List.mem_singleton.mp hx
    refine (ax_XF_lt (x := 44) (by decide)).mpr ?_
    show py_44 2 (ρ' 6)
    rw [h2]
    exact pr_44 (c := 4016) (s := ρ 3) ⟨pz_41 _, F49.2.1, by decide⟩ (by decide) (by decide))
  exact ⟨(fun y hy => by cases hy), _, List.mem_cons_self, ρ', h1, h2⟩

theorem axq_sq3c45_4 : ax_RO ax_wC ax_XC axu_sq3c45_4 := by
  intro ρ hp hE hT
  have j0 : ρ 0 % 4 = 1 := pz_gj hE 0 (by decide) rfl
  have j1 : ρ 1 % 4 = 1 := pz_gj hE 1 (by decide) rfl
  have j2 : ρ 2 % 4 = 1 := pz_gj hE 2 (by decide) rfl
  have j3 : ρ 3 % 4 = 1 := pz_gj hE 3 (by decide) rfl
  have j4 : ρ 4 % 4 = 1 := pz_gj hE 4 (by decide) rfl
  have j5 : ρ 5 % 4 = 1 := pz_gj hE 5 (by decide) rfl
  obtain ⟨i6a, i6b, i6c, i6d⟩ := pz_gi hE 6 2147483693 2147483693 (by decide) rfl
  obtain ⟨-, -, -, -, F50⟩ : ay_ex hp 8 ∧ ay_ex hp 10 ∧ ay_ex hp 11 ∧ ay_ex hp 12 ∧ pz_x50 (ρ 0) (ρ 1) (ay_at hp 8 5) (ay_at hp 8 6) (ay_at hp 8 7) (ay_at hp 8 8) (ay_at hp 10 0) (ay_at hp 10 1) (ay_at hp 10 2) (ay_at hp 10 3) (ay_at hp 10 4) (ay_at hp 8 9) (ay_at hp 8 11) (ay_at hp 8 10) (ay_at hp 8 3) (ay_at hp 8 4) (ay_at hp 11) (ay_at hp 12) := (ax_XF_lt (by decide)).mp (ax_gx hE (50, [3, 7]) (by decide))
  have F48 : py_48 2 (pz_gt (ρ 0)) (pz_gN (ρ 0)) ((ρ 1) / 4) (ρ 3) (ρ 4) := (ax_XF_lt (by decide)).mp (ax_gx hE (48, [3, 7, 15, 19]) (by decide))
  have F99 : py_99 (ρ 3) (4016) (ρ 2) := (ax_XF_lt (by decide)).mp (ax_gx hE (99, [15, 4016, 11]) (by decide))
  have F45 : py_44 1 (ρ 2) := (ax_XF_lt (by decide)).mp (ax_gx hE (45, [11]) (by decide))
  obtain ⟨-, -, -, F41⟩ : ay_ex hp 10 ∧ ay_ex hp 15 ∧ ay_ex hp 16 ∧ py_x41 (ρ 5) (ay_at hp 10 5) (ay_at hp 15) (ay_at hp 16) := (ax_XF_lt (by decide)).mp (ax_gx hE (41, [23]) (by decide))
  have F99a : py_99 (ρ 5) (4016) (ρ 4) := (ax_XF_lt (by decide)).mp (ax_gx hE (99, [23, 4016, 19]) (by decide))
  refine ⟨(fun y hy => by cases hy), _, List.mem_cons_self, ρ, fun _ _ => rfl, ax_px hE (by decide) (fun y hy => ?_)⟩
  cases List.mem_singleton.mp hy
  refine (ax_XF_lt (x := 49) (by decide)).mpr ?_
  show py_48 1 (pz_gt (ρ 0)) (pz_gN (ρ 0)) ((ρ 1) / 4) (ρ 2) (ρ 5)
  exact pr_sq3 F48 F99 (by decide) F45 F99a

theorem axq_sql_4 : ax_RO ax_wC ax_XC axu_sql_4 := by
  intro ρ hp hE hT
  have j0 : ρ 0 % 4 = 1 := pz_gj hE 0 (by decide) rfl
  have j1 : ρ 1 % 4 = 1 := pz_gj hE 1 (by decide) rfl
  have j2 : ρ 2 % 4 = 1 := pz_gj hE 2 (by decide) rfl
  have j3 : ρ 3 % 4 = 1 := pz_gj hE 3 (by decide) rfl
  obtain ⟨-, -, -, -, F50⟩ : ay_ex hp 8 ∧ ay_ex hp 10 ∧ ay_ex hp 11 ∧ ay_ex hp 12 ∧ pz_x50 (ρ 0) (ρ 1) (ay_at hp 8 5) (ay_at hp 8 6) (ay_at hp 8 7) (ay_at hp 8 8) (ay_at hp 10 0) (ay_at hp 10 1) (ay_at hp 10 2) (ay_at hp 10 3) (ay_at hp 10 4) (ay_at hp 8 9) (ay_at hp 8 11) (ay_at hp 8 10) (ay_at hp 8 3) (ay_at hp 8 4) (ay_at hp 11) (ay_at hp 12) := (ax_XF_lt (by decide)).mp (ax_gx hE (50, [3, 7]) (by decide))
  have F79 : pz7 (pz_gt (ρ 0)) (pz_gN (ρ 0)) ((ρ 1) / 4) 9 := (ax_XF_lt (by decide)).mp (ax_gx hE (79, [3, 7]) (by decide))
  have F48 : py_48 2 (pz_gt (ρ 0)) (pz_gN (ρ 0)) ((ρ 1) / 4) (ρ 2) (ρ 3) := (ax_XF_lt (by decide)).mp (ax_gx hE (48, [3, 7, 11, 15]) (by decide))
  refine ⟨(fun y hy => by cases hy), _, List.mem_cons_self, ρ, fun _ _ => rfl, ax_px hE (by decide) (fun y hy => ?_)⟩
  cases List.mem_singleton.mp hy
  refine (ax_XF_lt (x := 40) (by decide)).mpr ?_
  show py_40 (ρ 3)
  exact pr_l48 F79 (by decide) F48

theorem axq_s45_4 : ax_RO ax_wC ax_XC axu_s45_4 := by
  intro ρ hp hE hT
  have j0 : ρ 0 % 4 = 1 := pz_gj hE 0 (by decide) rfl
  have F45 : py_44 1 (ρ 0) := (ax_XF_lt (by decide)).mp (ax_gx hE (45, [3]) (by decide))
  refine ⟨(fun y hy => by cases hy), _, List.mem_cons_self, ρ, fun _ _ => rfl, ax_px hE (by decide) (fun y hy => ?_)⟩
  cases List.mem_singleton.mp hy
  refine (ax_XF_lt (x := 44) (by decide)).mpr ?_
  show py_44 2 (ρ 0)
  exact pr_45 F45

theorem axq_sq1_5 : ax_RO ax_wC ax_XC axu_sq1_5 := by
  intro ρ hp hE hT
  have j0 : ρ 0 % 4 = 1 := pz_gj hE 0 (by decide) rfl
  have j1 : ρ 1 % 4 = 1 := pz_gj hE 1 (by decide) rfl
  have j2 : ρ 2 % 4 = 1 := pz_gj hE 2 (by decide) rfl
  have j3 : ρ 3 % 4 = 1 := pz_gj hE 3 (by decide) rfl
  obtain ⟨-, -, -, -, F50⟩ : ay_ex hp 8 ∧ ay_ex hp 10 ∧ ay_ex hp 11 ∧ ay_ex hp 12 ∧ pz_x50 (ρ 0) (ρ 1) (ay_at hp 8 5) (ay_at hp 8 6) (ay_at hp 8 7) (ay_at hp 8 8) (ay_at hp 10 0) (ay_at hp 10 1) (ay_at hp 10 2) (ay_at hp 10 3) (ay_at hp 10 4) (ay_at hp 8 9) (ay_at hp 8 11) (ay_at hp 8 10) (ay_at hp 8 3) (ay_at hp 8 4) (ay_at hp 11) (ay_at hp 12) := (ax_XF_lt (by decide)).mp (ax_gx hE (50, [3, 7]) (by decide))
  have F48 : py_48 2 (pz_gt (ρ 0)) (pz_gN (ρ 0)) ((ρ 1) / 4) (ρ 2) (ρ 3) := (ax_XF_lt (by decide)).mp (ax_gx hE (48, [3, 7, 11, 15]) (by decide))
  have F45 : py_44 1 (ρ 2) := (ax_XF_lt (by decide)).mp (ax_gx hE (45, [11]) (by decide))
  refine ⟨(fun y hy => by cases hy), _, List.mem_cons_self, ρ, fun _ _ => rfl, ax_px hE (by decide) (fun y hy => ?_)⟩
  cases List.mem_singleton.mp hy
  refine (ax_XF_lt (x := 49) (by decide)).mpr ?_
  show py_48 1 (pz_gt (ρ 0)) (pz_gN (ρ 0)) ((ρ 1) / 4) (ρ 2) (ρ 3)
  exact pr_sq1 F48 F45

theorem axq_sq2c43_5 : ax_RO ax_wC ax_XC axu_sq2c43_5 := by
  intro ρ hp hE hT
  have j0 : ρ 0 % 4 = 1 := pz_gj hE 0 (by decide) rfl
  have j1 : ρ 1 % 4 = 1 := pz_gj hE 1 (by decide) rfl
  have j2 : ρ 2 % 4 = 1 := pz_gj hE 2 (by decide) rfl
  have j3 : ρ 3 % 4 = 1 := pz_gj hE 3 (by decide) rfl
  have j4 : ρ 4 % 4 = 1 := pz_gj hE 4 (by decide) rfl
  obtain ⟨i5a, i5b, i5c, i5d⟩ := pz_gi hE 5 2147483691 2147483691 (by decide) rfl
  have c_kind : ay_at hp 8 7 = some (ρ 5) := ay_gfj hE 42 28 23 8 7 (by decide) (by rw [ax_vl_c (by decide)]) (by rw [ax_vl_c (by decide)])
  obtain ⟨-, -, -, -, F50⟩ : ay_ex hp 8 ∧ ay_ex hp 10 ∧ ay_ex hp 11 ∧ ay_ex hp 12 ∧ pz_x50 (ρ 0) (ρ 1) (ay_at hp 8 5) (ay_at hp 8 6) (ay_at hp 8 7) (ay_at hp 8 8) (ay_at hp 10 0) (ay_at hp 10 1) (ay_at hp 10 2) (ay_at hp 10 3) (ay_at hp 10 4) (ay_at hp 8 9) (ay_at hp 8 11) (ay_at hp 8 10) (ay_at hp 8 3) (ay_at hp 8 4) (ay_at hp 11) (ay_at hp 12) := (ax_XF_lt (by decide)).mp (ax_gx hE (50, [3, 7]) (by decide))
  rw [c_kind] at F50
  have F98 : (ρ 2) / 4 = (ρ 1) / 4 + 1 := (ax_XF_lt (by decide)).mp (ax_gx hE (98, [7, 11]) (by decide))
  have F78 : pz7 (pz_gt (ρ 0)) (pz_gN (ρ 0)) ((ρ 2) / 4) 8 := (ax_XF_lt (by decide)).mp (ax_gx hE (78, [3, 11]) (by decide))
  have F79 : pz7 (pz_gt (ρ 0)) (pz_gN (ρ 0)) ((ρ 1) / 4) 9 := (ax_XF_lt (by decide)).mp (ax_gx hE (79, [3, 7]) (by decide))
  have F49 : py_48 1 (pz_gt (ρ 0)) (pz_gN (ρ 0)) ((ρ 1) / 4) (ρ 3) (ρ 4) := (ax_XF_lt (by decide)).mp (ax_gx hE (49, [3, 7, 15, 19]) (by decide))
  have kd : ρ 5 / 4 = pz_kd (pz_gt (ρ 0)) (pz_gN (ρ 0)) (pz_p (pz_cf (pz_gt (ρ 0)) (pz_gN (ρ 0)) (ρ 1 / 4))) := F50.2.2.1
  rw [F98] at F78
  obtain ⟨ρ', h1, h2⟩ := pz_pn1 (K := ρ 3 / 4 * 4096 + 1003) (xf := [(46, [3, 11, 27, 19]), (99, [27, 4012, 15]), (44, [27])]) hE (by decide) (fun ρ' h1 h2 x hx => by
    have q0 : ρ' 0 = ρ 0 := h1 0 (by decide)
    have q1 : ρ' 1 = ρ 1 := h1 1 (by decide)
    have q2 : ρ' 2 = ρ 2 := h1 2 (by decide)
    have q3 : ρ' 3 = ρ 3 := h1 3 (by decide)
    have q4 : ρ' 4 = ρ 4 := h1 4 (by decide)
    have q5 : ρ' 5 = ρ 5 := h1 5 (by decide)
    rcases List.mem_cons.mp hx with e | hx
    · subst e
      refine (ax_XF_lt (x := 46) (by decide)).mpr ?_
      show py_46 (pz_gt (ρ' 0)) (pz_gN (ρ' 0)) ((ρ' 2) / 4) (ρ' 6) (ρ' 4)
      rw [q0, q2, q4, h2]
      rw [F98]
      exact pr_op (q := 43) (c := 4012) (by decide) F79 (by omega) rfl F78 (by decide) (by decide) F49 ⟨pz_41 _, F49.2.1, by decide⟩
    rcases List.mem_cons.mp hx with e | hx
    · subst e
      refine (ax_XF_lt (x := 99) (by decide)).mpr ?_
      show py_99 (ρ' 6) (4012) (ρ' 3)
      rw [q3, h2]
      exact ⟨pz_41 _, F49.2.1, by decide⟩
    cases List.mem_singleton.mp hx
    refine (ax_XF_lt (x := 44) (by decide)).mpr ?_
    show py_44 2 (ρ' 6)
    rw [h2]
    exact pr_44 (c := 4012) (s := ρ 3) ⟨pz_41 _, F49.2.1, by decide⟩ (by decide) (by decide))
  exact ⟨(fun y hy => by cases hy), _, List.mem_cons_self, ρ', h1, h2⟩

theorem axq_sq3c43_5 : ax_RO ax_wC ax_XC axu_sq3c43_5 := by
  intro ρ hp hE hT
  have j0 : ρ 0 % 4 = 1 := pz_gj hE 0 (by decide) rfl
  have j1 : ρ 1 % 4 = 1 := pz_gj hE 1 (by decide) rfl
  have j2 : ρ 2 % 4 = 1 := pz_gj hE 2 (by decide) rfl
  have j3 : ρ 3 % 4 = 1 := pz_gj hE 3 (by decide) rfl
  have j4 : ρ 4 % 4 = 1 := pz_gj hE 4 (by decide) rfl
  have j5 : ρ 5 % 4 = 1 := pz_gj hE 5 (by decide) rfl
  obtain ⟨i6a, i6b, i6c, i6d⟩ := pz_gi hE 6 2147483691 2147483691 (by decide) rfl
  obtain ⟨-, -, -, -, F50⟩ : ay_ex hp 8 ∧ ay_ex hp 10 ∧ ay_ex hp 11 ∧ ay_ex hp 12 ∧ pz_x50 (ρ 0) (ρ 1) (ay_at hp 8 5) (ay_at hp 8 6) (ay_at hp 8 7) (ay_at hp 8 8) (ay_at hp 10 0) (ay_at hp 10 1) (ay_at hp 10 2) (ay_at hp 10 3) (ay_at hp 10 4) (ay_at hp 8 9) (ay_at hp 8 11) (ay_at hp 8 10) (ay_at hp 8 3) (ay_at hp 8 4) (ay_at hp 11) (ay_at hp 12) := (ax_XF_lt (by decide)).mp (ax_gx hE (50, [3, 7]) (by decide))
  have F48 : py_48 2 (pz_gt (ρ 0)) (pz_gN (ρ 0)) ((ρ 1) / 4) (ρ 3) (ρ 4) := (ax_XF_lt (by decide)).mp (ax_gx hE (48, [3, 7, 15, 19]) (by decide))
  have F99 : py_99 (ρ 3) (4012) (ρ 2) := (ax_XF_lt (by decide)).mp (ax_gx hE (99, [15, 4012, 11]) (by decide))
  have F45 : py_44 1 (ρ 2) := (ax_XF_lt (by decide)).mp (ax_gx hE (45, [11]) (by decide))
  obtain ⟨-, -, -, F41⟩ : ay_ex hp 10 ∧ ay_ex hp 15 ∧ ay_ex hp 16 ∧ py_x41 (ρ 5) (ay_at hp 10 5) (ay_at hp 15) (ay_at hp 16) := (ax_XF_lt (by decide)).mp (ax_gx hE (41, [23]) (by decide))
  have F99a : py_99 (ρ 5) (4012) (ρ 4) := (ax_XF_lt (by decide)).mp (ax_gx hE (99, [23, 4012, 19]) (by decide))
  refine ⟨(fun y hy => by cases hy), _, List.mem_cons_self, ρ, fun _ _ => rfl, ax_px hE (by decide) (fun y hy => ?_)⟩
  cases List.mem_singleton.mp hy
  refine (ax_XF_lt (x := 49) (by decide)).mpr ?_
  show py_48 1 (pz_gt (ρ 0)) (pz_gN (ρ 0)) ((ρ 1) / 4) (ρ 2) (ρ 5)
  exact pr_sq3 F48 F99 (by decide) F45 F99a

theorem axq_sq2c45_5 : ax_RO ax_wC ax_XC axu_sq2c45_5 := by
  intro ρ hp hE hT
  have j0 : ρ 0 % 4 = 1 := pz_gj hE 0 (by decide) rfl
  have j1 : ρ 1 % 4 = 1 := pz_gj hE 1 (by decide) rfl
  have j2 : ρ 2 % 4 = 1 := pz_gj hE 2 (by decide) rfl
  have j3 : ρ 3 % 4 = 1 := pz_gj hE 3 (by decide) rfl
  have j4 : ρ 4 % 4 = 1 := pz_gj hE 4 (by decide) rfl
  obtain ⟨i5a, i5b, i5c, i5d⟩ := pz_gi hE 5 2147483693 2147483693 (by decide) rfl
  have c_kind : ay_at hp 8 7 = some (ρ 5) := ay_gfj hE 42 28 23 8 7 (by decide) (by rw [ax_vl_c (by decide)]) (by rw [ax_vl_c (by decide)])
  obtain ⟨-, -, -, -, F50⟩ : ay_ex hp 8 ∧ ay_ex hp 10 ∧ ay_ex hp 11 ∧ ay_ex hp 12 ∧ pz_x50 (ρ 0) (ρ 1) (ay_at hp 8 5) (ay_at hp 8 6) (ay_at hp 8 7) (ay_at hp 8 8) (ay_at hp 10 0) (ay_at hp 10 1) (ay_at hp 10 2) (ay_at hp 10 3) (ay_at hp 10 4) (ay_at hp 8 9) (ay_at hp 8 11) (ay_at hp 8 10) (ay_at hp 8 3) (ay_at hp 8 4) (ay_at hp 11) (ay_at hp 12) := (ax_XF_lt (by decide)).mp (ax_gx hE (50, [3, 7]) (by decide))
  rw [c_kind] at F50
  have F98 : (ρ 2) / 4 = (ρ 1) / 4 + 1 := (ax_XF_lt (by decide)).mp (ax_gx hE (98, [7, 11]) (by decide))
  have F78 : pz7 (pz_gt (ρ 0)) (pz_gN (ρ 0)) ((ρ 2) / 4) 8 := (ax_XF_lt (by decide)).mp (ax_gx hE (78, [3, 11]) (by decide))
  have F79 : pz7 (pz_gt (ρ 0)) (pz_gN (ρ 0)) ((ρ 1) / 4) 9 := (ax_XF_lt (by decide)).mp (ax_gx hE (79, [3, 7]) (by decide))
  have F49 : py_48 1 (pz_gt (ρ 0)) (pz_gN (ρ 0)) ((ρ 1) / 4) (ρ 3) (ρ 4) := (ax_XF_lt (by decide)).mp (ax_gx hE (49, [3, 7, 15, 19]) (by decide))
  have kd : ρ 5 / 4 = pz_kd (pz_gt (ρ 0)) (pz_gN (ρ 0)) (pz_p (pz_cf (pz_gt (ρ 0)) (pz_gN (ρ 0)) (ρ 1 / 4))) := F50.2.2.1
  rw [F98] at F78
  obtain ⟨ρ', h1, h2⟩ := pz_pn1 (K := ρ 3 / 4 * 4096 + 1004) (xf := [(46, [3, 11, 27, 19]), (99, [27, 4016, 15]), (44, [27])]) hE (by decide) (fun ρ' h1 h2 x hx => by
    have q0 : ρ' 0 = ρ 0 := h1 0 (by decide)
    have q1 : ρ' 1 = ρ 1 := h1 1 (by decide)
    have q2 : ρ' 2 = ρ 2 := h1 2 (by decide)
    have q3 : ρ' 3 = ρ 3 := h1 3 (by decide)
    have q4 : ρ' 4 = ρ 4 := h1 4 (by decide)
    have q5 : ρ' 5 = ρ 5 := h1 5 (by decide)
    rcases List.mem_cons.mp hx with e | hx
    · subst e
      refine (ax_XF_lt (x := 46) (by decide)).mpr ?_
      show py_46 (pz_gt (ρ' 0)) (pz_gN (ρ' 0)) ((ρ' 2) / 4) (ρ' 6) (ρ' 4)
      rw [q0, q2, q4, h2]
      rw [F98]
      exact pr_op (q := 45) (c := 4016) (by decide) F79 (by omega) rfl F78 (by decide) (by decide) F49 ⟨pz_41 _, F49.2.1, by decide⟩
    rcases List.mem_cons.mp hx with e | hx
    · subst e
      refine (ax_XF_lt (x := 99) (by decide)).mpr ?_
      show py_99 (ρ' 6) (4016) (ρ' 3)
      rw [q3, h2]
      exact ⟨pz_41 _, F49.2.1, by decide⟩
    cases List.mem_singleton.mp hx
    refine (ax_XF_lt (x := 44) (by decide)).mpr ?_
    show py_44 2 (ρ' 6)
    rw [h2]
    exact pr_44 (c := 4016) (s := ρ 3) ⟨pz_41 _, F49.2.1, by decide⟩ (by decide) (by decide))
  exact ⟨(fun y hy => by cases hy), _, List.mem_cons_self, ρ', h1, h2⟩

theorem axq_sq3c45_5 : ax_RO ax_wC ax_XC axu_sq3c45_5 := by
  intro ρ hp hE hT
  have j0 : ρ 0 % 4 = 1 := pz_gj hE 0 (by decide) rfl
  have j1 : ρ 1 % 4 = 1 := pz_gj hE 1 (by decide) rfl
  have j2 : ρ 2 % 4 = 1 := pz_gj hE 2 (by decide) rfl
  have j3 : ρ 3 % 4 = 1 := pz_gj hE 3 (by decide) rfl
  have j4 : ρ 4 % 4 = 1 := pz_gj hE 4 (by decide) rfl
  have j5 : ρ 5 % 4 = 1 := pz_gj hE 5 (by decide) rfl
  obtain ⟨i6a, i6b, i6c, i6d⟩ := pz_gi hE 6 2147483693 2147483693 (by decide) rfl
  obtain ⟨-, -, -, -, F50⟩ : ay_ex hp 8 ∧ ay_ex hp 10 ∧ ay_ex hp 11 ∧ ay_ex hp 12 ∧ pz_x50 (ρ 0) (ρ 1) (ay_at hp 8 5) (ay_at hp 8 6) (ay_at hp 8 7) (ay_at hp 8 8) (ay_at hp 10 0) (ay_at hp 10 1) (ay_at hp 10 2) (ay_at hp 10 3) (ay_at hp 10 4) (ay_at hp 8 9) (ay_at hp 8 11) (ay_at hp 8 10) (ay_at hp 8 3) (ay_at hp 8 4) (ay_at hp 11) (ay_at hp 12) := (ax_XF_lt (by decide)).mp (ax_gx hE (50, [3, 7]) (by decide))
  have F48 : py_48 2 (pz_gt (ρ 0)) (pz_gN (ρ 0)) ((ρ 1) / 4) (ρ 3) (ρ 4) := (ax_XF_lt (by decide)).mp (ax_gx hE (48, [3, 7, 15, 19]) (by decide))
  have F99 : py_99 (ρ 3) (4016) (ρ 2) := (ax_XF_lt (by decide)).mp (ax_gx hE (99, [15, 4016, 11]) (by decide))
  have F45 : py_44 1 (ρ 2) := (ax_XF_lt (by decide)).mp (ax_gx hE (45, [11]) (by decide))
  obtain ⟨-, -, -, F41⟩ : ay_ex hp 10 ∧ ay_ex hp 15 ∧ ay_ex hp 16 ∧ py_x41 (ρ 5) (ay_at hp 10 5) (ay_at hp 15) (ay_at hp 16) := (ax_XF_lt (by decide)).mp (ax_gx hE (41, [23]) (by decide))
  have F99a : py_99 (ρ 5) (4016) (ρ 4) := (ax_XF_lt (by decide)).mp (ax_gx hE (99, [23, 4016, 19]) (by decide))
  refine ⟨(fun y hy => by cases hy), _, List.mem_cons_self, ρ, fun _ _ => rfl, ax_px hE (by decide) (fun y hy => ?_)⟩
  cases List.mem_singleton.mp hy
  refine (ax_XF_lt (x := 49) (by decide)).mpr ?_
  show py_48 1 (pz_gt (ρ 0)) (pz_gN (ρ 0)) ((ρ 1) / 4) (ρ 2) (ρ 5)
  exact pr_sq3 F48 F99 (by decide) F45 F99a

theorem axq_sql_5 : ax_RO ax_wC ax_XC axu_sql_5 := by
  intro ρ hp hE hT
  have j0 : ρ 0 % 4 = 1 := pz_gj hE 0 (by decide) rfl
  have j1 : ρ 1 % 4 = 1 := pz_gj hE 1 (by decide) rfl
  have j2 : ρ 2 % 4 = 1 := pz_gj hE 2 (by decide) rfl
  have j3 : ρ 3 % 4 = 1 := pz_gj hE 3 (by decide) rfl
  obtain ⟨-, -, -, -, F50⟩ : ay_ex hp 8 ∧ ay_ex hp 10 ∧ ay_ex hp 11 ∧ ay_ex hp 12 ∧ pz_x50 (ρ 0) (ρ 1) (ay_at hp 8 5) (ay_at hp 8 6) (ay_at hp 8 7) (ay_at hp 8 8) (ay_at hp 10 0) (ay_at hp 10 1) (ay_at hp 10 2) (ay_at hp 10 3) (ay_at hp 10 4) (ay_at hp 8 9) (ay_at hp 8 11) (ay_at hp 8 10) (ay_at hp 8 3) (ay_at hp 8 4) (ay_at hp 11) (ay_at hp 12) := (ax_XF_lt (by decide)).mp (ax_gx hE (50, [3, 7]) (by decide))
  have F79 : pz7 (pz_gt (ρ 0)) (pz_gN (ρ 0)) ((ρ 1) / 4) 9 := (ax_XF_lt (by decide)).mp (ax_gx hE (79, [3, 7]) (by decide))
  have F48 : py_48 2 (pz_gt (ρ 0)) (pz_gN (ρ 0)) ((ρ 1) / 4) (ρ 2) (ρ 3) := (ax_XF_lt (by decide)).mp (ax_gx hE (48, [3, 7, 11, 15]) (by decide))
  refine ⟨(fun y hy => by cases hy), _, List.mem_cons_self, ρ, fun _ _ => rfl, ax_px hE (by decide) (fun y hy => ?_)⟩
  cases List.mem_singleton.mp hy
  refine (ax_XF_lt (x := 40) (by decide)).mpr ?_
  show py_40 (ρ 3)
  exact pr_l48 F79 (by decide) F48

theorem axq_s45_5 : ax_RO ax_wC ax_XC axu_s45_5 := by
  intro ρ hp hE hT
  have j0 : ρ 0 % 4 = 1 := pz_gj hE 0 (by decide) rfl
  have F45 : py_44 1 (ρ 0) := (ax_XF_lt (by decide)).mp (ax_gx hE (45, [3]) (by decide))
  refine ⟨(fun y hy => by cases hy), _, List.mem_cons_self, ρ, fun _ _ => rfl, ax_px hE (by decide) (fun y hy => ?_)⟩
  cases List.mem_singleton.mp hy
  refine (ax_XF_lt (x := 44) (by decide)).mpr ?_
  show py_44 2 (ρ 0)
  exact pr_45 F45

theorem axq_s45_6 : ax_RO ax_wC ax_XC axu_s45_6 := by
  intro ρ hp hE hT
  have j0 : ρ 0 % 4 = 1 := pz_gj hE 0 (by decide) rfl
  have F45 : py_44 1 (ρ 0) := (ax_XF_lt (by decide)).mp (ax_gx hE (45, [3]) (by decide))
  refine ⟨(fun y hy => by cases hy), _, List.mem_cons_self, ρ, fun _ _ => rfl, ax_px hE (by decide) (fun y hy => ?_)⟩
  cases List.mem_singleton.mp hy
  refine (ax_XF_lt (x := 44) (by decide)).mpr ?_
  show py_44 2 (ρ 0)
  exact pr_45 F45

theorem axq_s0_al5 : ax_RO ax_wC ax_XC axu_s0_al5 := by
  intro ρ hp hE hT
  have j0 : ρ 0 % 4 = 1 := pz_gj hE 0 (by decide) rfl
  have j1 : ρ 1 % 4 = 1 := pz_gj hE 1 (by decide) rfl
  have j2 : ρ 2 % 4 = 1 := pz_gj hE 2 (by decide) rfl
  have j3 : ρ 3 % 4 = 1 := pz_gj hE 3 (by decide) rfl
  have j4 : ρ 4 % 4 = 1 := pz_gj hE 4 (by decide) rfl
  have F75 : pz7 (pz_gt (ρ 0)) (pz_gN (ρ 0)) ((ρ 1) / 4) 5 := (ax_XF_lt (by decide)).mp (ax_gx hE (75, [3, 7]) (by decide))
  have F98 : (ρ 2) / 4 = (ρ 1) / 4 + 1 := (ax_XF_lt (by decide)).mp (ax_gx hE (98, [7, 11]) (by decide))
  have F72 : pz7 (pz_gt (ρ 0)) (pz_gN (ρ 0)) ((ρ 2) / 4) 2 := (ax_XF_lt (by decide)).mp (ax_gx hE (72, [3, 11]) (by decide))
  have F46 : py_46 (pz_gt (ρ 0)) (pz_gN (ρ 0)) ((ρ 1) / 4) (ρ 3) (ρ 4) := (ax_XF_lt (by decide)).mp (ax_gx hE (46, [3, 7, 15, 19]) (by decide))
  refine ⟨(fun y hy => by cases hy), _, List.mem_cons_self, ρ, fun _ _ => rfl, ax_px hE (by decide) (fun y hy => ?_)⟩
  cases List.mem_singleton.mp hy
  refine (ax_XF_lt (x := 46) (by decide)).mpr ?_
  show py_46 (pz_gt (ρ 0)) (pz_gN (ρ 0)) ((ρ 2) / 4) (ρ 3) (ρ 4)
  rw [F98] at F72 ⊢
  exact pr_s0 F75 (by decide) (by decide) F72 (by decide) F46

theorem axq_s0_sw2 : ax_RO ax_wC ax_XC axu_s0_sw2 := by
  intro ρ hp hE hT
  have j0 : ρ 0 % 4 = 1 := pz_gj hE 0 (by decide) rfl
  have j1 : ρ 1 % 4 = 1 := pz_gj hE 1 (by decide) rfl
  have j2 : ρ 2 % 4 = 1 := pz_gj hE 2 (by decide) rfl
  have j3 : ρ 3 % 4 = 1 := pz_gj hE 3 (by decide) rfl
  have j4 : ρ 4 % 4 = 1 := pz_gj hE 4 (by decide) rfl
  have F70 : pz7 (pz_gt (ρ 0)) (pz_gN (ρ 0)) ((ρ 1) / 4) 0 := (ax_XF_lt (by decide)).mp (ax_gx hE (70, [3, 7]) (by decide))
  have F98 : (ρ 2) / 4 = (ρ 1) / 4 + 1 := (ax_XF_lt (by decide)).mp (ax_gx hE (98, [7, 11]) (by decide))
  have F71 : pz7 (pz_gt (ρ 0)) (pz_gN (ρ 0)) ((ρ 2) / 4) 1 := (ax_XF_lt (by decide)).mp (ax_gx hE (71, [3, 11]) (by decide))
  have F46 : py_46 (pz_gt (ρ 0)) (pz_gN (ρ 0)) ((ρ 1) / 4) (ρ 3) (ρ 4) := (ax_XF_lt (by decide)).mp (ax_gx hE (46, [3, 7, 15, 19]) (by decide))
  refine ⟨(fun y hy => by cases hy), _, List.mem_cons_self, ρ, fun _ _ => rfl, ax_px hE (by decide) (fun y hy => ?_)⟩
  cases List.mem_singleton.mp hy
  refine (ax_XF_lt (x := 46) (by decide)).mpr ?_
  show py_46 (pz_gt (ρ 0)) (pz_gN (ρ 0)) ((ρ 2) / 4) (ρ 3) (ρ 4)
  rw [F98] at F71 ⊢
  exact pr_s0 F70 (by decide) (by decide) F71 (by decide) F46

theorem axq_s0_sw3 : ax_RO ax_wC ax_XC axu_s0_sw3 := by
  intro ρ hp hE hT
  have j0 : ρ 0 % 4 = 1 := pz_gj hE 0 (by decide) rfl
  have j1 : ρ 1 % 4 = 1 := pz_gj hE 1 (by decide) rfl
  have j2 : ρ 2 % 4 = 1 := pz_gj hE 2 (by decide) rfl
  have j3 : ρ 3 % 4 = 1 := pz_gj hE 3 (by decide) rfl
  have j4 : ρ 4 % 4 = 1 := pz_gj hE 4 (by decide) rfl
  have F71 : pz7 (pz_gt (ρ 0)) (pz_gN (ρ 0)) ((ρ 1) / 4) 1 := (ax_XF_lt (by decide)).mp (ax_gx hE (71, [3, 7]) (by decide))
  have F98 : (ρ 2) / 4 = (ρ 1) / 4 + 1 := (ax_XF_lt (by decide)).mp (ax_gx hE (98, [7, 11]) (by decide))
  have F72 : pz7 (pz_gt (ρ 0)) (pz_gN (ρ 0)) ((ρ 2) / 4) 2 := (ax_XF_lt (by decide)).mp (ax_gx hE (72, [3, 11]) (by decide))
  have F46 : py_46 (pz_gt (ρ 0)) (pz_gN (ρ 0)) ((ρ 1) / 4) (ρ 3) (ρ 4) := (ax_XF_lt (by decide)).mp (ax_gx hE (46, [3, 7, 15, 19]) (by decide))
  refine ⟨(fun y hy => by cases hy), _, List.mem_cons_self, ρ, fun _ _ => rfl, ax_px hE (by decide) (fun y hy => ?_)⟩
  cases List.mem_singleton.mp hy
  refine (ax_XF_lt (x := 46) (by decide)).mpr ?_
  show py_46 (pz_gt (ρ 0)) (pz_gN (ρ 0)) ((ρ 2) / 4) (ρ 3) (ρ 4)
  rw [F98] at F72 ⊢
  exact pr_s0 F71 (by decide) (by decide) F72 (by decide) F46

theorem axq_s0_ro : ax_RO ax_wC ax_XC axu_s0_ro := by
  intro ρ hp hE hT
  have j0 : ρ 0 % 4 = 1 := pz_gj hE 0 (by decide) rfl
  have j1 : ρ 1 % 4 = 1 := pz_gj hE 1 (by decide) rfl
  have j2 : ρ 2 % 4 = 1 := pz_gj hE 2 (by decide) rfl
  have j3 : ρ 3 % 4 = 1 := pz_gj hE 3 (by decide) rfl
  have j4 : ρ 4 % 4 = 1 := pz_gj hE 4 (by decide) rfl
  have F73 : pz7 (pz_gt (ρ 0)) (pz_gN (ρ 0)) ((ρ 1) / 4) 3 := (ax_XF_lt (by decide)).mp (ax_gx hE (73, [3, 7]) (by decide))
  have F98 : (ρ 2) / 4 = (ρ 1) / 4 + 1 := (ax_XF_lt (by decide)).mp (ax_gx hE (98, [7, 11]) (by decide))
  have F76 : pz7 (pz_gt (ρ 0)) (pz_gN (ρ 0)) ((ρ 2) / 4) 6 := (ax_XF_lt (by decide)).mp (ax_gx hE (76, [3, 11]) (by decide))
  have F46 : py_46 (pz_gt (ρ 0)) (pz_gN (ρ 0)) ((ρ 1) / 4) (ρ 3) (ρ 4) := (ax_XF_lt (by decide)).mp (ax_gx hE (46, [3, 7, 15, 19]) (by decide))
  refine ⟨(fun y hy => by cases hy), _, List.mem_cons_self, ρ, fun _ _ => rfl, ax_px hE (by decide) (fun y hy => ?_)⟩
  cases List.mem_singleton.mp hy
  refine (ax_XF_lt (x := 46) (by decide)).mpr ?_
  show py_46 (pz_gt (ρ 0)) (pz_gN (ρ 0)) ((ρ 2) / 4) (ρ 3) (ρ 4)
  rw [F98] at F76 ⊢
  exact pr_s0 F73 (by decide) (by decide) F76 (by decide) F46

theorem axq_s0_rm : ax_RO ax_wC ax_XC axu_s0_rm := by
  intro ρ hp hE hT
  have j0 : ρ 0 % 4 = 1 := pz_gj hE 0 (by decide) rfl
  have j1 : ρ 1 % 4 = 1 := pz_gj hE 1 (by decide) rfl
  have j2 : ρ 2 % 4 = 1 := pz_gj hE 2 (by decide) rfl
  have j3 : ρ 3 % 4 = 1 := pz_gj hE 3 (by decide) rfl
  have j4 : ρ 4 % 4 = 1 := pz_gj hE 4 (by decide) rfl
  have F73 : pz7 (pz_gt (ρ 0)) (pz_gN (ρ 0)) ((ρ 1) / 4) 3 := (ax_XF_lt (by decide)).mp (ax_gx hE (73, [3, 7]) (by decide))
  have F98 : (ρ 2) / 4 = (ρ 1) / 4 + 1 := (ax_XF_lt (by decide)).mp (ax_gx hE (98, [7, 11]) (by decide))
  have F77 : pz7 (pz_gt (ρ 0)) (pz_gN (ρ 0)) ((ρ 2) / 4) 7 := (ax_XF_lt (by decide)).mp (ax_gx hE (77, [3, 11]) (by decide))
  have F46 : py_46 (pz_gt (ρ 0)) (pz_gN (ρ 0)) ((ρ 1) / 4) (ρ 3) (ρ 4) := (ax_XF_lt (by decide)).mp (ax_gx hE (46, [3, 7, 15, 19]) (by decide))
  refine ⟨(fun y hy => by cases hy), _, List.mem_cons_self, ρ, fun _ _ => rfl, ax_px hE (by decide) (fun y hy => ?_)⟩
  cases List.mem_singleton.mp hy
  refine (ax_XF_lt (x := 46) (by decide)).mpr ?_
  show py_46 (pz_gt (ρ 0)) (pz_gN (ρ 0)) ((ρ 2) / 4) (ρ 3) (ρ 4)
  rw [F98] at F77 ⊢
  exact pr_s0 F73 (by decide) (by decide) F77 (by decide) F46

theorem axq_s0_rk : ax_RO ax_wC ax_XC axu_s0_rk := by
  intro ρ hp hE hT
  have j0 : ρ 0 % 4 = 1 := pz_gj hE 0 (by decide) rfl
  have j1 : ρ 1 % 4 = 1 := pz_gj hE 1 (by decide) rfl
  have j2 : ρ 2 % 4 = 1 := pz_gj hE 2 (by decide) rfl
  have j3 : ρ 3 % 4 = 1 := pz_gj hE 3 (by decide) rfl
  have j4 : ρ 4 % 4 = 1 := pz_gj hE 4 (by decide) rfl
  have F73 : pz7 (pz_gt (ρ 0)) (pz_gN (ρ 0)) ((ρ 1) / 4) 3 := (ax_XF_lt (by decide)).mp (ax_gx hE (73, [3, 7]) (by decide))
  have F98 : (ρ 2) / 4 = (ρ 1) / 4 + 1 := (ax_XF_lt (by decide)).mp (ax_gx hE (98, [7, 11]) (by decide))
  have F78 : pz7 (pz_gt (ρ 0)) (pz_gN (ρ 0)) ((ρ 2) / 4) 8 := (ax_XF_lt (by decide)).mp (ax_gx hE (78, [3, 11]) (by decide))
  have F46 : py_46 (pz_gt (ρ 0)) (pz_gN (ρ 0)) ((ρ 1) / 4) (ρ 3) (ρ 4) := (ax_XF_lt (by decide)).mp (ax_gx hE (46, [3, 7, 15, 19]) (by decide))
  refine ⟨(fun y hy => by cases hy), _, List.mem_cons_self, ρ, fun _ _ => rfl, ax_px hE (by decide) (fun y hy => ?_)⟩
  cases List.mem_singleton.mp hy
  refine (ax_XF_lt (x := 46) (by decide)).mpr ?_
  show py_46 (pz_gt (ρ 0)) (pz_gN (ρ 0)) ((ρ 2) / 4) (ρ 3) (ρ 4)
  rw [F98] at F78 ⊢
  exact pr_s0 F73 (by decide) (by decide) F78 (by decide) F46

theorem axq_s0_ro2 : ax_RO ax_wC ax_XC axu_s0_ro2 := by
  intro ρ hp hE hT
  have j0 : ρ 0 % 4 = 1 := pz_gj hE 0 (by decide) rfl
  have j1 : ρ 1 % 4 = 1 := pz_gj hE 1 (by decide) rfl
  have j2 : ρ 2 % 4 = 1 := pz_gj hE 2 (by decide) rfl
  have j3 : ρ 3 % 4 = 1 := pz_gj hE 3 (by decide) rfl
  have j4 : ρ 4 % 4 = 1 := pz_gj hE 4 (by decide) rfl
  have F76 : pz7 (pz_gt (ρ 0)) (pz_gN (ρ 0)) ((ρ 1) / 4) 6 := (ax_XF_lt (by decide)).mp (ax_gx hE (76, [3, 7]) (by decide))
  have F98 : (ρ 2) / 4 = (ρ 1) / 4 + 1 := (ax_XF_lt (by decide)).mp (ax_gx hE (98, [7, 11]) (by decide))
  have F72 : pz7 (pz_gt (ρ 0)) (pz_gN (ρ 0)) ((ρ 2) / 4) 2 := (ax_XF_lt (by decide)).mp (ax_gx hE (72, [3, 11]) (by decide))
  have F46 : py_46 (pz_gt (ρ 0)) (pz_gN (ρ 0)) ((ρ 1) / 4) (ρ 3) (ρ 4) := (ax_XF_lt (by decide)).mp (ax_gx hE (46, [3, 7, 15, 19]) (by decide))
  refine ⟨(fun y hy => by cases hy), _, List.mem_cons_self, ρ, fun _ _ => rfl, ax_px hE (by decide) (fun y hy => ?_)⟩
  cases List.mem_singleton.mp hy
  refine (ax_XF_lt (x := 46) (by decide)).mpr ?_
  show py_46 (pz_gt (ρ 0)) (pz_gN (ρ 0)) ((ρ 2) / 4) (ρ 3) (ρ 4)
  rw [F98] at F72 ⊢
  exact pr_s0 F76 (by decide) (by decide) F72 (by decide) F46

theorem axq_s0_rm2 : ax_RO ax_wC ax_XC axu_s0_rm2 := by
  intro ρ hp hE hT
  have j0 : ρ 0 % 4 = 1 := pz_gj hE 0 (by decide) rfl
  have j1 : ρ 1 % 4 = 1 := pz_gj hE 1 (by decide) rfl
  have j2 : ρ 2 % 4 = 1 := pz_gj hE 2 (by decide) rfl
  have j3 : ρ 3 % 4 = 1 := pz_gj hE 3 (by decide) rfl
  have j4 : ρ 4 % 4 = 1 := pz_gj hE 4 (by decide) rfl
  have F77 : pz7 (pz_gt (ρ 0)) (pz_gN (ρ 0)) ((ρ 1) / 4) 7 := (ax_XF_lt (by decide)).mp (ax_gx hE (77, [3, 7]) (by decide))
  have F98 : (ρ 2) / 4 = (ρ 1) / 4 + 1 := (ax_XF_lt (by decide)).mp (ax_gx hE (98, [7, 11]) (by decide))
  have F72 : pz7 (pz_gt (ρ 0)) (pz_gN (ρ 0)) ((ρ 2) / 4) 2 := (ax_XF_lt (by decide)).mp (ax_gx hE (72, [3, 11]) (by decide))
  have F46 : py_46 (pz_gt (ρ 0)) (pz_gN (ρ 0)) ((ρ 1) / 4) (ρ 3) (ρ 4) := (ax_XF_lt (by decide)).mp (ax_gx hE (46, [3, 7, 15, 19]) (by decide))
  refine ⟨(fun y hy => by cases hy), _, List.mem_cons_self, ρ, fun _ _ => rfl, ax_px hE (by decide) (fun y hy => ?_)⟩
  cases List.mem_singleton.mp hy
  refine (ax_XF_lt (x := 46) (by decide)).mpr ?_
  show py_46 (pz_gt (ρ 0)) (pz_gN (ρ 0)) ((ρ 2) / 4) (ρ 3) (ρ 4)
  rw [F98] at F72 ⊢
  exact pr_s0 F77 (by decide) (by decide) F72 (by decide) F46

theorem axq_s0_lk2 : ax_RO ax_wC ax_XC axu_s0_lk2 := by
  intro ρ hp hE hT
  have j0 : ρ 0 % 4 = 1 := pz_gj hE 0 (by decide) rfl
  have j1 : ρ 1 % 4 = 1 := pz_gj hE 1 (by decide) rfl
  have j2 : ρ 2 % 4 = 1 := pz_gj hE 2 (by decide) rfl
  have j3 : ρ 3 % 4 = 1 := pz_gj hE 3 (by decide) rfl
  have j4 : ρ 4 % 4 = 1 := pz_gj hE 4 (by decide) rfl
  have F73 : pz7 (pz_gt (ρ 0)) (pz_gN (ρ 0)) ((ρ 1) / 4) 3 := (ax_XF_lt (by decide)).mp (ax_gx hE (73, [3, 7]) (by decide))
  have F98 : (ρ 2) / 4 = (ρ 1) / 4 + 1 := (ax_XF_lt (by decide)).mp (ax_gx hE (98, [7, 11]) (by decide))
  have F74 : pz7 (pz_gt (ρ 0)) (pz_gN (ρ 0)) ((ρ 2) / 4) 4 := (ax_XF_lt (by decide)).mp (ax_gx hE (74, [3, 11]) (by decide))
  have F46 : py_46 (pz_gt (ρ 0)) (pz_gN (ρ 0)) ((ρ 1) / 4) (ρ 3) (ρ 4) := (ax_XF_lt (by decide)).mp (ax_gx hE (46, [3, 7, 15, 19]) (by decide))
  refine ⟨(fun y hy => by cases hy), _, List.mem_cons_self, ρ, fun _ _ => rfl, ax_px hE (by decide) (fun y hy => ?_)⟩
  cases List.mem_singleton.mp hy
  refine (ax_XF_lt (x := 46) (by decide)).mpr ?_
  show py_46 (pz_gt (ρ 0)) (pz_gN (ρ 0)) ((ρ 2) / 4) (ρ 3) (ρ 4)
  rw [F98] at F74 ⊢
  exact pr_s0 F73 (by decide) (by decide) F74 (by decide) F46

theorem axq_s0_lk4 : ax_RO ax_wC ax_XC axu_s0_lk4 := by
  intro ρ hp hE hT
  have j0 : ρ 0 % 4 = 1 := pz_gj hE 0 (by decide) rfl
  have j1 : ρ 1 % 4 = 1 := pz_gj hE 1 (by decide) rfl
  have j2 : ρ 2 % 4 = 1 := pz_gj hE 2 (by decide) rfl
  have j3 : ρ 3 % 4 = 1 := pz_gj hE 3 (by decide) rfl
  have j4 : ρ 4 % 4 = 1 := pz_gj hE 4 (by decide) rfl
  have F74 : pz7 (pz_gt (ρ 0)) (pz_gN (ρ 0)) ((ρ 1) / 4) 4 := (ax_XF_lt (by decide)).mp (ax_gx hE (74, [3, 7]) (by decide))
  have F98 : (ρ 2) / 4 = (ρ 1) / 4 + 1 := (ax_XF_lt (by decide)).mp (ax_gx hE (98, [7, 11]) (by decide))
  have F75 : pz7 (pz_gt (ρ 0)) (pz_gN (ρ 0)) ((ρ 2) / 4) 5 := (ax_XF_lt (by decide)).mp (ax_gx hE (75, [3, 11]) (by decide))
  have F46 : py_46 (pz_gt (ρ 0)) (pz_gN (ρ 0)) ((ρ 1) / 4) (ρ 3) (ρ 4) := (ax_XF_lt (by decide)).mp (ax_gx hE (46, [3, 7, 15, 19]) (by decide))
  refine ⟨(fun y hy => by cases hy), _, List.mem_cons_self, ρ, fun _ _ => rfl, ax_px hE (by decide) (fun y hy => ?_)⟩
  cases List.mem_singleton.mp hy
  refine (ax_XF_lt (x := 46) (by decide)).mpr ?_
  show py_46 (pz_gt (ρ 0)) (pz_gN (ρ 0)) ((ρ 2) / 4) (ρ 3) (ρ 4)
  rw [F98] at F75 ⊢
  exact pr_s0 F74 (by decide) (by decide) F75 (by decide) F46

theorem axq_st1 : ax_RO ax_wC ax_XC axu_st1 := by
  intro ρ hp hE hT
  have j0 : ρ 0 % 4 = 1 := pz_gj hE 0 (by decide) rfl
  have j1 : ρ 1 % 4 = 1 := pz_gj hE 1 (by decide) rfl
  have c_codeSize : ay_at hp 10 5 = some (0) := ay_gfj hE 50 20 0 10 5 (by decide) (by rw [ax_vl_c (by decide)]) (by rw [ax_vl_c (by decide)])
  obtain ⟨-, -, -, -, F53⟩ : ay_ex hp 8 ∧ ay_ex hp 10 ∧ ay_ex hp 11 ∧ ay_ex hp 12 ∧ pz_x53 (ρ 0) (ρ 1) (ay_at hp 8 5) (ay_at hp 10 0) (ay_at hp 10 1) (ay_at hp 10 2) (ay_at hp 10 3) (ay_at hp 10 4) (ay_at hp 8 9) (ay_at hp 8 11) (ay_at hp 8 10) (ay_at hp 8 3) (ay_at hp 8 4) (ay_at hp 11) (ay_at hp 12) := (ax_XF_lt (by decide)).mp (ax_gx hE (53, [3, 7]) (by decide))
  have F70 : pz7 (pz_gt (ρ 0)) (pz_gN (ρ 0)) ((ρ 1) / 4) 0 := (ax_XF_lt (by decide)).mp (ax_gx hE (70, [3, 7]) (by decide))
  have F45 : py_44 1 (5) := (ax_XF_lt (by decide)).mp (ax_gx hE (45, [5]) (by decide))
  refine ⟨(fun y hy => by cases hy), _, List.mem_cons_self, ρ, fun _ _ => rfl, ax_px hE (by decide) (fun y hy => ?_)⟩
  rcases List.mem_cons.mp hy with e | hy
  · subst e
    refine (ax_XF_lt (x := 46) (by decide)).mpr ?_
    show py_46 (pz_gt (ρ 0)) (pz_gN (ρ 0)) ((ρ 1) / 4) (5) (5)
    exact pr_46_0 F70
  cases List.mem_singleton.mp hy
  refine (ax_XF_lt (x := 41) (by decide)).mpr ?_
  show ay_ex hp 10 ∧ ay_ex hp 15 ∧ ay_ex hp 16 ∧ py_x41 (5) (ay_at hp 10 5) (ay_at hp 15) (ay_at hp 16)
  refine ⟨(ax_cellT hT (q := 10) (g := 1) rfl), (ax_cellT hT (q := 15) (g := 18) rfl), (ax_cellT hT (q := 16) (g := 19) rfl), ?_⟩
  rw [c_codeSize]
  exact py_x41_0 rfl

theorem axq_st0 : ax_RO ax_wC ax_XC axu_st0 := by
  intro ρ hp hE hT
  have j0 : ρ 0 % 4 = 1 := pz_gj hE 0 (by decide) rfl
  obtain ⟨-, -, F30⟩ : ay_ex hp 8 ∧ ay_ex hp 9 ∧ pz_x30 (ρ 0) (ay_at hp 8 1) (ay_at hp 9) := (ax_XF_lt (by decide)).mp (ax_gx hE (30, [3]) (by decide))
  refine ⟨(fun y hy => by cases hy), _, List.mem_cons_self, ρ, fun _ _ => rfl, ax_px hE (by decide) (fun y hy => ?_)⟩
  cases List.mem_singleton.mp hy
  refine (ax_XF_lt (x := 45) (by decide)).mpr ?_
  show py_44 1 (5)
  exact ⟨by decide, by decide, by decide⟩

theorem axq_st2a : ax_RO ax_wC ax_XC axu_st2a := by
  intro ρ hp hE hT
  have j0 : ρ 0 % 4 = 1 := pz_gj hE 0 (by decide) rfl
  have j1 : ρ 1 % 4 = 1 := pz_gj hE 1 (by decide) rfl
  have j2 : ρ 2 % 4 = 1 := pz_gj hE 2 (by decide) rfl
  obtain ⟨i3a, i3b, i3c, i3d⟩ := pz_gi hE 3 2147483648 2147483648 (by decide) rfl
  have c_kind : ay_at hp 8 7 = some (ρ 3) := ay_gfj hE 42 28 15 8 7 (by decide) (by rw [ax_vl_c (by decide)]) (by rw [ax_vl_c (by decide)])
  obtain ⟨-, -, -, -, F50⟩ : ay_ex hp 8 ∧ ay_ex hp 10 ∧ ay_ex hp 11 ∧ ay_ex hp 12 ∧ pz_x50 (ρ 0) (ρ 1) (ay_at hp 8 5) (ay_at hp 8 6) (ay_at hp 8 7) (ay_at hp 8 8) (ay_at hp 10 0) (ay_at hp 10 1) (ay_at hp 10 2) (ay_at hp 10 3) (ay_at hp 10 4) (ay_at hp 8 9) (ay_at hp 8 11) (ay_at hp 8 10) (ay_at hp 8 3) (ay_at hp 8 4) (ay_at hp 11) (ay_at hp 12) := (ax_XF_lt (by decide)).mp (ax_gx hE (50, [3, 7]) (by decide))
  rw [c_kind] at F50
  have F70 : pz7 (pz_gt (ρ 0)) (pz_gN (ρ 0)) ((ρ 1) / 4) 0 := (ax_XF_lt (by decide)).mp (ax_gx hE (70, [3, 7]) (by decide))
  have F46 : py_46 (pz_gt (ρ 0)) (pz_gN (ρ 0)) ((ρ 1) / 4) (5) (ρ 2) := (ax_XF_lt (by decide)).mp (ax_gx hE (46, [3, 7, 5, 11]) (by decide))
  refine ⟨(fun y hy => by cases hy), _, List.mem_cons_self, ρ, fun _ _ => rfl, ax_px hE (by decide) (fun y hy => ?_)⟩
  cases List.mem_singleton.mp hy
  refine (ax_XF_lt (x := 82) (by decide)).mpr ?_
  show py_82 (ρ 0) (ρ 2)
  have kd : ρ 3 / 4 = pz_kd (pz_gt (ρ 0)) (pz_gN (ρ 0)) (pz_p (pz_cf (pz_gt (ρ 0)) (pz_gN (ρ 0)) (ρ 1 / 4))) := F50.2.2.1
  exact pr_82 F70 (by decide) (by omega) F46

theorem axq_st2b : ax_RO ax_wC ax_XC axu_st2b := by
  intro ρ hp hE hT
  have j0 : ρ 0 % 4 = 1 := pz_gj hE 0 (by decide) rfl
  have j1 : ρ 1 % 4 = 1 := pz_gj hE 1 (by decide) rfl
  have j2 : ρ 2 % 4 = 1 := pz_gj hE 2 (by decide) rfl
  obtain ⟨i3a, i3b, i3c, i3d⟩ := pz_gi hE 3 2147483648 2147483648 (by decide) rfl
  have c_kind : ay_at hp 8 7 = some (ρ 3) := ay_gfj hE 42 28 15 8 7 (by decide) (by rw [ax_vl_c (by decide)]) (by rw [ax_vl_c (by decide)])
  obtain ⟨-, -, -, -, F50⟩ : ay_ex hp 8 ∧ ay_ex hp 10 ∧ ay_ex hp 11 ∧ ay_ex hp 12 ∧ pz_x50 (ρ 0) (ρ 1) (ay_at hp 8 5) (ay_at hp 8 6) (ay_at hp 8 7) (ay_at hp 8 8) (ay_at hp 10 0) (ay_at hp 10 1) (ay_at hp 10 2) (ay_at hp 10 3) (ay_at hp 10 4) (ay_at hp 8 9) (ay_at hp 8 11) (ay_at hp 8 10) (ay_at hp 8 3) (ay_at hp 8 4) (ay_at hp 11) (ay_at hp 12) := (ax_XF_lt (by decide)).mp (ax_gx hE (50, [3, 7]) (by decide))
  rw [c_kind] at F50
  have F73 : pz7 (pz_gt (ρ 0)) (pz_gN (ρ 0)) ((ρ 1) / 4) 3 := (ax_XF_lt (by decide)).mp (ax_gx hE (73, [3, 7]) (by decide))
  have F46 : py_46 (pz_gt (ρ 0)) (pz_gN (ρ 0)) ((ρ 1) / 4) (5) (ρ 2) := (ax_XF_lt (by decide)).mp (ax_gx hE (46, [3, 7, 5, 11]) (by decide))
  refine ⟨(fun y hy => by cases hy), _, List.mem_cons_self, ρ, fun _ _ => rfl, ax_px hE (by decide) (fun y hy => ?_)⟩
  cases List.mem_singleton.mp hy
  refine (ax_XF_lt (x := 82) (by decide)).mpr ?_
  show py_82 (ρ 0) (ρ 2)
  have kd : ρ 3 / 4 = pz_kd (pz_gt (ρ 0)) (pz_gN (ρ 0)) (pz_p (pz_cf (pz_gt (ρ 0)) (pz_gN (ρ 0)) (ρ 1 / 4))) := F50.2.2.1
  exact pr_82 F73 (by decide) (by omega) F46

theorem axq_st2c : ax_RO ax_wC ax_XC axu_st2c := by
  intro ρ hp hE hT
  have j0 : ρ 0 % 4 = 1 := pz_gj hE 0 (by decide) rfl
  have j1 : ρ 1 % 4 = 1 := pz_gj hE 1 (by decide) rfl
  have j2 : ρ 2 % 4 = 1 := pz_gj hE 2 (by decide) rfl
  obtain ⟨i3a, i3b, i3c, i3d⟩ := pz_gi hE 3 2147484448 2147484448 (by decide) rfl
  obtain ⟨-, -, F30⟩ : ay_ex hp 8 ∧ ay_ex hp 9 ∧ pz_x30 (ρ 0) (ay_at hp 8 1) (ay_at hp 9) := (ax_XF_lt (by decide)).mp (ax_gx hE (30, [3]) (by decide))
  obtain ⟨-, -, -, -, F50⟩ : ay_ex hp 8 ∧ ay_ex hp 10 ∧ ay_ex hp 11 ∧ ay_ex hp 12 ∧ pz_x50 (ρ 0) (ρ 1) (ay_at hp 8 5) (ay_at hp 8 6) (ay_at hp 8 7) (ay_at hp 8 8) (ay_at hp 10 0) (ay_at hp 10 1) (ay_at hp 10 2) (ay_at hp 10 3) (ay_at hp 10 4) (ay_at hp 8 9) (ay_at hp 8 11) (ay_at hp 8 10) (ay_at hp 8 3) (ay_at hp 8 4) (ay_at hp 11) (ay_at hp 12) := (ax_XF_lt (by decide)).mp (ax_gx hE (50, [3, 7]) (by decide))
  have F73 : pz7 (pz_gt (ρ 0)) (pz_gN (ρ 0)) ((ρ 1) / 4) 3 := (ax_XF_lt (by decide)).mp (ax_gx hE (73, [3, 7]) (by decide))
  have F97 : (ρ 3) / 4 ≤ (ρ 1) / 4 := (ax_XF_lt (by decide)).mp (ax_gx hE (97, [7, 15]) (by decide))
  have F46 : py_46 (pz_gt (ρ 0)) (pz_gN (ρ 0)) ((ρ 1) / 4) (5) (ρ 2) := (ax_XF_lt (by decide)).mp (ax_gx hE (46, [3, 7, 5, 11]) (by decide))
  refine ⟨(fun y hy => by cases hy), _, List.mem_cons_self, ρ, fun _ _ => rfl, ax_px hE (by decide) (fun y hy => ?_)⟩
  cases List.mem_singleton.mp hy
  refine (ax_XF_lt (x := 82) (by decide)).mpr ?_
  show py_82 (ρ 0) (ρ 2)
  have kd := pq_far (n := ρ 1 / 4) F73 (by decide) (show pz_gN (ρ 0) ≤ 800 from F30.2.1) (by omega)
  exact pr_82 F73 (by decide) kd F46

theorem axq_ac1 : ax_RO ax_wC ax_XC axu_ac1 := by
  intro ρ hp hE hT
  have j0 : ρ 0 % 4 = 1 := pz_gj hE 0 (by decide) rfl
  obtain ⟨i1a, i1b, i1c, i1d⟩ := pz_gi hE 1 2147483648 2147483728 (by decide) rfl
  have c_codeSize : ay_at hp 10 5 = some (ρ 1) := ay_gfj hE 50 20 7 10 5 (by decide) (by rw [ax_vl_c (by decide)]) (by rw [ax_vl_c (by decide)])
  obtain ⟨-, -, -, F41⟩ : ay_ex hp 10 ∧ ay_ex hp 15 ∧ ay_ex hp 16 ∧ py_x41 (ρ 0) (ay_at hp 10 5) (ay_at hp 15) (ay_at hp 16) := (ax_XF_lt (by decide)).mp (ax_gx hE (41, [3]) (by decide))
  rw [c_codeSize] at F41
  have F40 : py_40 (ρ 0) := (ax_XF_lt (by decide)).mp (ax_gx hE (40, [3]) (by decide))
  have e : ρ 1 / 4 = (py_L (ρ 0 / 4)).length := F41.2.1
  have e2 := F40.1
  refine ⟨fun y hy => ?_, _, List.mem_cons_self, ρ, fun _ _ => rfl, ax_px hE (by decide) (fun y hy => by cases hy)⟩
  cases List.mem_singleton.mp hy
  show 2147483648 ≤ rx_bi (ρ 1 / 4) ∧ rx_bi (ρ 1 / 4) ≤ 2147483727
  rw [ax_bi_def]
  omega

theorem axq_ac2 : ax_RO ax_wC ax_XC axu_ac2 := by
  intro ρ hp hE hT
  have j0 : ρ 0 % 4 = 1 := pz_gj hE 0 (by decide) rfl
  obtain ⟨i1a, i1b, i1c, i1d⟩ := pz_gi hE 1 2147483648 2147483727 (by decide) rfl
  obtain ⟨i2a, i2b, i2c, i2d⟩ := pz_gi hE 2 0 4294967295 (by decide) rfl
  have c_fops : ay_at hp 10 10 = some (ρ 3) := ay_gfj hE 50 40 15 10 10 (by decide) (by rw [ax_vl_c (by decide)]) (by rw [ax_vl_c (by decide)])
  have c_codeSize : ay_at hp 10 5 = some (ρ 1) := ay_gfj hE 50 20 7 10 5 (by decide) (by rw [ax_vl_c (by decide)]) (by rw [ax_vl_c (by decide)])
  obtain ⟨-, F31⟩ : ay_ex hp 10 ∧ pz_x31 (ay_at hp 10 6) (ay_at hp 10 7) (ay_at hp 10 10) (ay_at hp 10 11) := (ax_XF_lt (by decide)).mp (ax_gx hE (31, []) (by decide))
  rw [c_fops] at F31
  obtain ⟨-, -, -, F41⟩ : ay_ex hp 10 ∧ ay_ex hp 15 ∧ ay_ex hp 16 ∧ py_x41 (ρ 0) (ay_at hp 10 5) (ay_at hp 15) (ay_at hp 16) := (ax_XF_lt (by decide)).mp (ax_gx hE (41, [3]) (by decide))
  rw [c_codeSize] at F41
  have h6 : ρ 3 = 70 := Option.some.inj F31.2.2.1
  refine ⟨(fun y hy => by cases hy), _, List.mem_cons_self, ρ, fun _ _ => rfl, ax_px hE (by decide) (fun y hy => ?_)⟩
  cases List.mem_singleton.mp hy
  refine (ax_XF_wr (x := 80) (by decide)).mpr ?_
  show ay_ex (ax_upd hp (ρ 3) (ρ 1) (ρ 2)) 10 ∧ ay_ex (ax_upd hp (ρ 3) (ρ 1) (ρ 2)) 15 ∧ ay_ex (ax_upd hp (ρ 3) (ρ 1) (ρ 2)) 16 ∧ py_x80 (ρ 0) (ρ 2) (ay_at (ax_upd hp (ρ 3) (ρ 1) (ρ 2)) 10 5) (ay_at (ax_upd hp (ρ 3) (ρ 1) (ρ 2)) 15) (ay_at (ax_upd hp (ρ 3) (ρ 1) (ρ 2)) 16)
  rw [h6]
  obtain ⟨o0, ho0⟩ := ay_some hT (q := 15) (g := 18) (n := 80) rfl rfl (j := ρ 1 / 4) (by omega)
  have u1 : ∀ q, q ≠ 15 → ay_at (ax_upd hp 70 (ρ 1) (ρ 2)) q = ay_at hp q := fun q hq => funext (fun j => ay_upd_ne hT.1 hq j)
  have u2 : ∀ j, ay_at (ax_upd hp 70 (ρ 1) (ρ 2)) 15 j = if j = ρ 1 / 4 then some (ρ 2) else ay_at hp 15 j := fun j => ay_upd_eq hT.1 rfl ho0 j
  refine ⟨ay_ex_upd hT.1 (ax_cellT hT (q := 10) (g := 1) rfl), ay_ex_upd hT.1 (ax_cellT hT (q := 15) (g := 18) rfl), ay_ex_upd hT.1 (ax_cellT hT (q := 16) (g := 19) rfl), ?_⟩
  rw [u1 10 (by decide), u1 16 (by decide)]
  rw [c_codeSize]
  have ez : ρ 1 / 4 = (py_L (ρ 0 / 4)).length := F41.2.1
  refine ⟨⟨F41.1, F41.2.1, fun i c hc => ?_⟩, ?_⟩
  · obtain ⟨o, v, h1, h2, h3⟩ := F41.2.2 i c hc
    have hi := (List.getElem?_eq_some_iff.mp hc).1
    rw [List.length_reverse] at hi
    exact ⟨o, v, by rw [u2, if_neg (by omega)]; exact h1, h2, h3⟩
  · rw [u2, if_pos ez.symm]

theorem axq_ac3 : ax_RO ax_wC ax_XC axu_ac3 := by
  intro ρ hp hE hT
  have j0 : ρ 0 % 4 = 1 := pz_gj hE 0 (by decide) rfl
  obtain ⟨i1a, i1b, i1c, i1d⟩ := pz_gi hE 1 2147483648 2147483727 (by decide) rfl
  obtain ⟨i2a, i2b, i2c, i2d⟩ := pz_gi hE 2 0 4294967295 (by decide) rfl
  obtain ⟨i3a, i3b, i3c, i3d⟩ := pz_gi hE 3 0 4294967295 (by decide) rfl
  have c_fods : ay_at hp 10 11 = some (ρ 4) := ay_gfj hE 50 44 19 10 11 (by decide) (by rw [ax_vl_c (by decide)]) (by rw [ax_vl_c (by decide)])
  have c_codeSize : ay_at hp 10 5 = some (ρ 1) := ay_gfj hE 50 20 7 10 5 (by decide) (by rw [ax_vl_c (by decide)]) (by rw [ax_vl_c (by decide)])
  obtain ⟨-, F31⟩ : ay_ex hp 10 ∧ pz_x31 (ay_at hp 10 6) (ay_at hp 10 7) (ay_at hp 10 10) (ay_at hp 10 11) := (ax_XF_lt (by decide)).mp (ax_gx hE (31, []) (by decide))
  rw [c_fods] at F31
  obtain ⟨-, -, -, F80⟩ : ay_ex hp 10 ∧ ay_ex hp 15 ∧ ay_ex hp 16 ∧ py_x80 (ρ 0) (ρ 2) (ay_at hp 10 5) (ay_at hp 15) (ay_at hp 16) := (ax_XF_lt (by decide)).mp (ax_gx hE (80, [3, 11]) (by decide))
  rw [c_codeSize] at F80
  have h6 : ρ 4 = 74 := Option.some.inj F31.2.2.2
  refine ⟨(fun y hy => by cases hy), _, List.mem_cons_self, ρ, fun _ _ => rfl, ax_px hE (by decide) (fun y hy => ?_)⟩
  cases List.mem_singleton.mp hy
  refine (ax_XF_wr (x := 81) (by decide)).mpr ?_
  show ay_ex (ax_upd hp (ρ 4) (ρ 1) (ρ 3)) 10 ∧ ay_ex (ax_upd hp (ρ 4) (ρ 1) (ρ 3)) 15 ∧ ay_ex (ax_upd hp (ρ 4) (ρ 1) (ρ 3)) 16 ∧ py_x81 (ρ 0) (ρ 2) (ρ 3) (ay_at (ax_upd hp (ρ 4) (ρ 1) (ρ 3)) 10 5) (ay_at (ax_upd hp (ρ 4) (ρ 1) (ρ 3)) 15) (ay_at (ax_upd hp (ρ 4) (ρ 1) (ρ 3)) 16)
  rw [h6]
  obtain ⟨o0, ho0⟩ := ay_some hT (q := 16) (g := 19) (n := 80) rfl rfl (j := ρ 1 / 4) (by omega)
  have u1 : ∀ q, q ≠ 16 → ay_at (ax_upd hp 74 (ρ 1) (ρ 3)) q = ay_at hp q := fun q hq => funext (fun j => ay_upd_ne hT.1 hq j)
  have u2 : ∀ j, ay_at (ax_upd hp 74 (ρ 1) (ρ 3)) 16 j = if j = ρ 1 / 4 then some (ρ 3) else ay_at hp 16 j := fun j => ay_upd_eq hT.1 rfl ho0 j
  refine ⟨ay_ex_upd hT.1 (ax_cellT hT (q := 10) (g := 1) rfl), ay_ex_upd hT.1 (ax_cellT hT (q := 15) (g := 18) rfl), ay_ex_upd hT.1 (ax_cellT hT (q := 16) (g := 19) rfl), ?_⟩
  rw [u1 10 (by decide), u1 15 (by decide)]
  rw [c_codeSize]
  have ez : ρ 1 / 4 = (py_L (ρ 0 / 4)).length := F80.1.2.1
  refine ⟨⟨⟨F80.1.1, F80.1.2.1, fun i c hc => ?_⟩, F80.2⟩, ?_⟩
  · obtain ⟨o, v, h1, h2, h3⟩ := F80.1.2.2 i c hc
    have hi := (List.getElem?_eq_some_iff.mp hc).1
    rw [List.length_reverse] at hi
    exact ⟨o, v, h1, by rw [u2, if_neg (by omega)]; exact h2, h3⟩
  · rw [u2, if_pos ez.symm]

theorem axq_ac4_1 : ax_RO ax_wC ax_XC axu_ac4_1 := by
  intro ρ hp hE hT
  have j0 : ρ 0 % 4 = 1 := pz_gj hE 0 (by decide) rfl
  obtain ⟨i1a, i1b, i1c, i1d⟩ := pz_gi hE 1 2147483648 2147483727 (by decide) rfl
  obtain ⟨i2a, i2b, i2c, i2d⟩ := pz_gi hE 2 0 4294967295 (by decide) rfl
  obtain ⟨i3a, i3b, i3c, i3d⟩ := pz_gi hE 3 2147483649 2147483649 (by decide) rfl
  obtain ⟨i4a, i4b, i4c, i4d⟩ := pz_gi hE 4 2147483648 2147484647 (by decide) rfl
  have c_codeSize : ay_at hp 10 5 = some (ρ 1) := ay_gfj hE 50 20 7 10 5 (by decide) (by rw [ax_vl_c (by decide)]) (by rw [ax_vl_c (by decide)])
  have s1 : (ρ 1 / 4 + 2147483648) % 4294967296 + (4 / 4 + 2147483648) % 4294967296 = (ρ 2 / 4 + 2147483648) % 4294967296 + 2147483648 := pz_gs hE 7 4 11 (by decide)
  obtain ⟨-, -, -, F81⟩ : ay_ex hp 10 ∧ ay_ex hp 15 ∧ ay_ex hp 16 ∧ py_x81 (ρ 0) (ρ 3) (ρ 4) (ay_at hp 10 5) (ay_at hp 15) (ay_at hp 16) := (ax_XF_lt (by decide)).mp (ax_gx hE (81, [3, 15, 19]) (by decide))
  rw [c_codeSize] at F81
  have e3 : ρ 3 / 4 = 1 := by omega
  have h3 : ρ 3 = 4 * (ρ 3 / 4) := by omega
  have h4 : ρ 4 = 4 * (ρ 4 / 4) := by omega
  rw [h3, h4] at F81
  have hl : 1 ≤ ρ 0 / 4 := F81.1.1.1
  have hc : ρ 4 / 4 < 4096 := by omega
  have hk : py_ok (ρ 3 / 4) (ρ 4 / 4) (ρ 4 / 4) := Or.inl ⟨e3, rfl, by omega⟩
  obtain ⟨ρ', h1, h2⟩ := pz_pn1 (K := ρ 0 / 4 * 4096 + ρ 4 / 4) (xf := [(541, [50, 20, 11, 23]), (99, [23, 19, 3])]) hE (by decide) (fun ρ' h1 h2 x hx => by
    have q0 : ρ' 0 = ρ 0 := h1 0 (by decide)
    have q1 : ρ' 1 = ρ 1 := h1 1 (by decide)
    have q2 : ρ' 2 = ρ 2 := h1 2 (by decide)
    have q3 : ρ' 3 = ρ 3 := h1 3 (by decide)
    have q4 : ρ' 4 = ρ 4 := h1 4 (by decide)
    rcases List.mem_cons.mp hx with e | hx
    · subst e
      refine (ax_XF_wr (x := 41) (by decide)).mpr ?_
      show ay_ex (ax_upd hp 50 (20) (ρ' 2)) 10 ∧ ay_ex (ax_upd hp 50 (20) (ρ' 2)) 15 ∧ ay_ex (ax_upd hp 50 (20) (ρ' 2)) 16 ∧ py_x41 (ρ' 5) (ay_at (ax_upd hp 50 (20) (ρ' 2)) 10 5) (ay_at (ax_upd hp 50 (20) (ρ' 2)) 15) (ay_at (ax_upd hp 50 (20) (ρ' 2)) 16)
      rw [q2, h2]
      obtain ⟨o0, ho0⟩ := ay_some hT (q := 10) (g := 1) (n := 12) rfl rfl (j := 20 / 4) (by decide)
      have u1 : ∀ q, q ≠ 10 → ay_at (ax_upd hp 50 20 (ρ 2)) q = ay_at hp q := fun q hq => funext (fun j => ay_upd_ne hT.1 hq j)
      have u2 : ∀ j, ay_at (ax_upd hp 50 20 (ρ 2)) 10 j = if j = 5 then some (ρ 2) else ay_at hp 10 j := fun j => ay_upd_eq hT.1 rfl ho0 j
      refine ⟨ay_ex_upd hT.1 (ax_cellT hT (q := 10) (g := 1) rfl), ay_ex_upd hT.1 (ax_cellT hT (q := 15) (g := 18) rfl), ay_ex_upd hT.1 (ax_cellT hT (q := 16) (g := 19) rfl), ?_⟩
      rw [u2 5, if_pos rfl, u1 15 (by decide), u1 16 (by decide)]
      exact py_add F81 hk ⟨pz_41 _, hl, hc⟩ (show ρ 2 / 4 = ρ 1 / 4 + 1 by omega)
    cases List.mem_singleton.mp hx
    refine (ax_XF_lt (x := 99) (by decide)).mpr ?_
    show py_99 (ρ' 5) (ρ' 4) (ρ' 0)
    rw [q0, q4, h2]
    exact ⟨pz_41 _, hl, hc⟩)
  exact ⟨(fun y hy => by cases hy), _, List.mem_cons_self, ρ', h1, h2⟩

theorem axq_ac4_2 : ax_RO ax_wC ax_XC axu_ac4_2 := by
  intro ρ hp hE hT
  have j0 : ρ 0 % 4 = 1 := pz_gj hE 0 (by decide) rfl
  obtain ⟨i1a, i1b, i1c, i1d⟩ := pz_gi hE 1 2147483648 2147483727 (by decide) rfl
  obtain ⟨i2a, i2b, i2c, i2d⟩ := pz_gi hE 2 0 4294967295 (by decide) rfl
  obtain ⟨i3a, i3b, i3c, i3d⟩ := pz_gi hE 3 2147483650 2147483650 (by decide) rfl
  obtain ⟨i4a, i4b, i4c, i4d⟩ := pz_gi hE 4 0 4294967295 (by decide) rfl
  have c_codeSize : ay_at hp 10 5 = some (ρ 1) := ay_gfj hE 50 20 7 10 5 (by decide) (by rw [ax_vl_c (by decide)]) (by rw [ax_vl_c (by decide)])
  have s1 : (ρ 1 / 4 + 2147483648) % 4294967296 + (4 / 4 + 2147483648) % 4294967296 = (ρ 2 / 4 + 2147483648) % 4294967296 + 2147483648 := pz_gs hE 7 4 11 (by decide)
  obtain ⟨-, -, -, F81⟩ : ay_ex hp 10 ∧ ay_ex hp 15 ∧ ay_ex hp 16 ∧ py_x81 (ρ 0) (ρ 3) (ρ 4) (ay_at hp 10 5) (ay_at hp 15) (ay_at hp 16) := (ax_XF_lt (by decide)).mp (ax_gx hE (81, [3, 15, 19]) (by decide))
  rw [c_codeSize] at F81
  have e3 : ρ 3 / 4 = 2 := by omega
  have h3 : ρ 3 = 4 * (ρ 3 / 4) := by omega
  have h4 : ρ 4 = 4 * (ρ 4 / 4) := by omega
  rw [h3, h4] at F81
  have hl : 1 ≤ ρ 0 / 4 := F81.1.1.1
  have hc : 4000 / 4 < 4096 := by omega
  have hk : py_ok (ρ 3 / 4) (ρ 4 / 4) (4000 / 4) := Or.inr (Or.inl ⟨e3, rfl⟩)
  obtain ⟨ρ', h1, h2⟩ := pz_pn1 (K := ρ 0 / 4 * 4096 + 4000 / 4) (xf := [(541, [50, 20, 11, 23]), (99, [23, 4000, 3])]) hE (by decide) (fun ρ' h1 h2 x hx => by
    have q0 : ρ' 0 = ρ 0 := h1 0 (by decide)
    have q1 : ρ' 1 = ρ 1 := h1 1 (by decide)
    have q2 : ρ' 2 = ρ 2 := h1 2 (by decide)
    have q3 : ρ' 3 = ρ 3 := h1 3 (by decide)
    have q4 : ρ' 4 = ρ 4 := h1 4 (by decide)
    rcases List.mem_cons.mp hx with e | hx
    · subst e
      refine (ax_XF_wr (x := 41) (by decide)).mpr ?_
      show ay_ex (ax_upd hp 50 (20) (ρ' 2)) 10 ∧ ay_ex (ax_upd hp 50 (20) (ρ' 2)) 15 ∧ ay_ex (ax_upd hp 50 (20) (ρ' 2)) 16 ∧ py_x41 (ρ' 5) (ay_at (ax_upd hp 50 (20) (ρ' 2)) 10 5) (ay_at (ax_upd hp 50 (20) (ρ' 2)) 15) (ay_at (ax_upd hp 50 (20) (ρ' 2)) 16)
      rw [q2, h2]
      obtain ⟨o0, ho0⟩ := ay_some hT (q := 10) (g := 1) (n := 12) rfl rfl (j := 20 / 4) (by decide)
      have u1 : ∀ q, q ≠ 10 → ay_at (ax_upd hp 50 20 (ρ 2)) q = ay_at hp q := fun q hq => funext (fun j => ay_upd_ne hT.1 hq j)
      have u2 : ∀ j, ay_at (ax_upd hp 50 20 (ρ 2)) 10 j = if j = 5 then some (ρ 2) else ay_at hp 10 j := fun j => ay_upd_eq hT.1 rfl ho0 j
      refine ⟨ay_ex_upd hT.1 (ax_cellT hT (q := 10) (g := 1) rfl), ay_ex_upd hT.1 (ax_cellT hT (q := 15) (g := 18) rfl), ay_ex_upd hT.1 (ax_cellT hT (q := 16) (g := 19) rfl), ?_⟩
      rw [u2 5, if_pos rfl, u1 15 (by decide), u1 16 (by decide)]
      exact py_add F81 hk ⟨pz_41 _, hl, hc⟩ (show ρ 2 / 4 = ρ 1 / 4 + 1 by omega)
    cases List.mem_singleton.mp hx
    refine (ax_XF_lt (x := 99) (by decide)).mpr ?_
    show py_99 (ρ' 5) (4000) (ρ' 0)
    rw [q0, h2]
    exact ⟨pz_41 _, hl, hc⟩)
  exact ⟨(fun y hy => by cases hy), _, List.mem_cons_self, ρ', h1, h2⟩

