section
theorem axq_rq3c45_5 : ax_RO ax_wC ax_XC axu_rq3c45_5 := by
  intro ρ hp hE hT
  have j0 : ρ 0 % 4 = 1 := pz_gj hE 0 (Nat.le_of_ble_eq_true rfl) rfl
  have j1 : ρ 1 % 4 = 1 := pz_gj hE 1 (Nat.le_of_ble_eq_true rfl) rfl
  have j2 : ρ 2 % 4 = 1 := pz_gj hE 2 (Nat.le_of_ble_eq_true rfl) rfl
  obtain ⟨i3a, i3b, i3c, i3d⟩ := pz_gi hE 3 2147483693 2147483693 (Nat.le_of_ble_eq_true rfl) rfl
  have j4 : ρ 4 % 4 = 1 := pz_gj hE 4 (Nat.le_of_ble_eq_true rfl) rfl
  have c_kind : ay_at hp 8 7 = some (ρ 3) := ay_gfj hE 42 28 15 8 7 ax_m3 (ax_vlq rfl rfl) (ax_vlj rfl rfl)
  have o1 : ρ 4 < ρ 1 := pz_go hE 19 7 (by decide)
  obtain ⟨-, -, -, -, F50⟩ : ay_ex hp 8 ∧ ay_ex hp 10 ∧ ay_ex hp 11 ∧ ay_ex hp 12 ∧ pz_x50 (ρ 0) (ρ 1) (ay_at hp 8 5) (ay_at hp 8 6) (ay_at hp 8 7) (ay_at hp 8 8) (ay_at hp 10 0) (ay_at hp 10 1) (ay_at hp 10 2) (ay_at hp 10 3) (ay_at hp 10 4) (ay_at hp 8 9) (ay_at hp 8 11) (ay_at hp 8 10) (ay_at hp 8 3) (ay_at hp 8 4) (ay_at hp 11) (ay_at hp 12) := (ax_XF_lt (x := 50) (Nat.le_of_ble_eq_true rfl)).mp (ax_gx hE (50, [3, 7]) ax_m0)
  rw [c_kind] at F50
  have F79 : pz7 (pz_gt (ρ 0)) (pz_gN (ρ 0)) ((ρ 1) / 4) 9 := (ax_XF_lt (x := 79) (Nat.le_of_ble_eq_true rfl)).mp (ax_gx hE (79, [3, 7]) ax_m1)
  have F90 : (pz90 (pz_gt (ρ 0)) (pz_gN (ρ 0)) ((ρ 1) / 4) ((ρ 2) / 4) ∧ 1 ≤ (ρ 2) / 4) := (ax_XF_lt (x := 90) (Nat.le_of_ble_eq_true rfl)).mp (ax_gx hE (90, [3, 7, 11]) ax_m2)
  have st := pq_op F50 F79 F90.1 (show pz_op (ρ 3 / 4) = true by rw [show ρ 3 / 4 = 45 by omega]; rfl)
  obtain ⟨ρ', h1, h2⟩ := pz_pn1 (K := ρ 1 / 4 + 1) (xf := [(53, [3, 23]), (78, [3, 23]), (90, [3, 23, 11]), (1030, [7, 23]), (98, [7, 23]), (1030, [19, 23])]) hE (by decide) (fun ρ' h1 h2 x hx => by
    have q0 : ρ' 0 = ρ 0 := h1 0 (by decide)
    have q1 : ρ' 1 = ρ 1 := h1 1 (by decide)
    have q2 : ρ' 2 = ρ 2 := h1 2 (by decide)
    have q3 : ρ' 3 = ρ 3 := h1 3 (by decide)
    have q4 : ρ' 4 = ρ 4 := h1 4 (by decide)
    rcases List.mem_cons.mp hx with e | hx
    · subst e
      refine (ax_XF_lt (x := 53) (Nat.le_of_ble_eq_true rfl)).mpr ?_
      show ay_ex hp 8 ∧ ay_ex hp 10 ∧ ay_ex hp 11 ∧ ay_ex hp 12 ∧ pz_x53 (ρ' 0) (ρ' 5) (ay_at hp 8 5) (ay_at hp 10 0) (ay_at hp 10 1) (ay_at hp 10 2) (ay_at hp 10 3) (ay_at hp 10 4) (ay_at hp 8 9) (ay_at hp 8 11) (ay_at hp 8 10) (ay_at hp 8 3) (ay_at hp 8 4) (ay_at hp 11) (ay_at hp 12)
      rw [q0, h2]
      exact ⟨(ax_cellT hT (q := 8) (g := 2) rfl), (ax_cellT hT (q := 10) (g := 1) rfl), (ax_cellT hT (q := 11) (g := 14) rfl), (ax_cellT hT (q := 12) (g := 15) rfl), pz_53 (pz_41 _) rfl st.1⟩
    rcases List.mem_cons.mp hx with e | hx
    · subst e
      refine (ax_XF_lt (x := 78) (Nat.le_of_ble_eq_true rfl)).mpr ?_
      show pz7 (pz_gt (ρ' 0)) (pz_gN (ρ' 0)) ((ρ' 5) / 4) 8
      rw [q0, h2]
      rw [pz_41]
      exact st.2.1
    rcases List.mem_cons.mp hx with e | hx
    · subst e
      refine (ax_XF_lt (x := 90) (Nat.le_of_ble_eq_true rfl)).mpr ?_
      show (pz90 (pz_gt (ρ' 0)) (pz_gN (ρ' 0)) ((ρ' 5) / 4) ((ρ' 2) / 4) ∧ 1 ≤ (ρ' 2) / 4)
      rw [q0, q2, h2]
      rw [pz_41]
      exact ⟨st.2.2, F90.2⟩
    rcases List.mem_cons.mp hx with e | hx
    · subst e
      refine (ax_XF_bi (o := 30) (by decide)).mpr (Or.inr ⟨rfl, ?_⟩)
      show ρ' 1 < ρ' 5
      rw [q1, h2]
      omega
    rcases List.mem_cons.mp hx with e | hx
    · subst e
      refine (ax_XF_lt (x := 98) (Nat.le_of_ble_eq_true rfl)).mpr ?_
      show (ρ' 5) / 4 = (ρ' 1) / 4 + 1
      rw [q1, h2]
      rw [pz_41]
    cases List.mem_singleton.mp hx
    refine (ax_XF_bi (o := 30) (by decide)).mpr (Or.inr ⟨rfl, ?_⟩)
    show ρ' 4 < ρ' 5
    rw [q4, h2]
    omega)
  exact ⟨(fun y hy => by cases hy), _, List.mem_cons_self, ρ', h1, h2⟩

theorem axq_rq5_5 : ax_RO ax_wC ax_XC axu_rq5_5 := by
  intro ρ hp hE hT
  have j0 : ρ 0 % 4 = 1 := pz_gj hE 0 (Nat.le_of_ble_eq_true rfl) rfl
  have j1 : ρ 1 % 4 = 1 := pz_gj hE 1 (Nat.le_of_ble_eq_true rfl) rfl
  have j2 : ρ 2 % 4 = 1 := pz_gj hE 2 (Nat.le_of_ble_eq_true rfl) rfl
  have j3 : ρ 3 % 4 = 1 := pz_gj hE 3 (Nat.le_of_ble_eq_true rfl) rfl
  have j4 : ρ 4 % 4 = 1 := pz_gj hE 4 (Nat.le_of_ble_eq_true rfl) rfl
  have o1 : ρ 2 < ρ 1 := pz_go hE 11 7 (by decide)
  have o2 : ρ 3 < ρ 2 := pz_go hE 15 11 (by decide)
  have o3 : ρ 4 < ρ 3 := pz_go hE 19 15 (by decide)
  obtain ⟨-, -, -, -, F50⟩ : ay_ex hp 8 ∧ ay_ex hp 10 ∧ ay_ex hp 11 ∧ ay_ex hp 12 ∧ pz_x50 (ρ 0) (ρ 1) (ay_at hp 8 5) (ay_at hp 8 6) (ay_at hp 8 7) (ay_at hp 8 8) (ay_at hp 10 0) (ay_at hp 10 1) (ay_at hp 10 2) (ay_at hp 10 3) (ay_at hp 10 4) (ay_at hp 8 9) (ay_at hp 8 11) (ay_at hp 8 10) (ay_at hp 8 3) (ay_at hp 8 4) (ay_at hp 11) (ay_at hp 12) := (ax_XF_lt (x := 50) (Nat.le_of_ble_eq_true rfl)).mp (ax_gx hE (50, [3, 7]) ax_m0)
  refine ⟨(fun y hy => by cases hy), _, List.mem_cons_self, ρ, fun _ _ => rfl, ax_px hE rfl (fun y hy => ?_)⟩
  rcases List.mem_cons.mp hy with e | hy
  · subst e
    refine (ax_XF_bi (o := 30) (by decide)).mpr (Or.inr ⟨rfl, ?_⟩)
    show ρ 4 < ρ 1
    omega
  cases List.mem_singleton.mp hy
  refine (ax_XF_bi (o := 30) (by decide)).mpr (Or.inr ⟨rfl, ?_⟩)
  show ρ 3 < ρ 1
  omega

theorem axq_rq6_5 : ax_RO ax_wC ax_XC axu_rq6_5 := by
  intro ρ hp hE hT
  have j0 : ρ 0 % 4 = 1 := pz_gj hE 0 (Nat.le_of_ble_eq_true rfl) rfl
  have j1 : ρ 1 % 4 = 1 := pz_gj hE 1 (Nat.le_of_ble_eq_true rfl) rfl
  have j2 : ρ 2 % 4 = 1 := pz_gj hE 2 (Nat.le_of_ble_eq_true rfl) rfl
  obtain ⟨i3a, i3b, i3c, i3d⟩ := pz_gi hE 3 2147483648 2147484447 (Nat.le_of_ble_eq_true rfl) rfl
  obtain ⟨i4a, i4b, i4c, i4d⟩ := pz_gi hE 4 0 4294967295 (Nat.le_of_ble_eq_true rfl) rfl
  have s1 : (ρ 3 / 4 + 2147483648) % 4294967296 + (4 / 4 + 2147483648) % 4294967296 = (ρ 4 / 4 + 2147483648) % 4294967296 + 2147483648 := pz_gs hE 15 4 19 ax_m1
  have o1 : ρ 2 < ρ 1 := pz_go hE 11 7 (by decide)
  obtain ⟨-, -, -, -, F50⟩ : ay_ex hp 8 ∧ ay_ex hp 10 ∧ ay_ex hp 11 ∧ ay_ex hp 12 ∧ pz_x50 (ρ 0) (ρ 1) (ay_at hp 8 5) (ay_at hp 8 6) (ay_at hp 8 7) (ay_at hp 8 8) (ay_at hp 10 0) (ay_at hp 10 1) (ay_at hp 10 2) (ay_at hp 10 3) (ay_at hp 10 4) (ay_at hp 8 9) (ay_at hp 8 11) (ay_at hp 8 10) (ay_at hp 8 3) (ay_at hp 8 4) (ay_at hp 11) (ay_at hp 12) := (ax_XF_lt (x := 50) (Nat.le_of_ble_eq_true rfl)).mp (ax_gx hE (50, [3, 7]) ax_m0)
  have F97 : (ρ 3) / 4 ≤ (ρ 2) / 4 := (ax_XF_lt (x := 97) (Nat.le_of_ble_eq_true rfl)).mp (ax_gx hE (97, [11, 15]) ax_m2)
  refine ⟨(fun y hy => by cases hy), _, List.mem_cons_self, ρ, fun _ _ => rfl, ax_px hE rfl (fun y hy => ?_)⟩
  cases List.mem_singleton.mp hy
  refine (ax_XF_lt (x := 97) (Nat.le_of_ble_eq_true rfl)).mpr ?_
  show (ρ 4) / 4 ≤ (ρ 1) / 4
  omega

theorem axq_rq7_5 : ax_RO ax_wC ax_XC axu_rq7_5 := by
  intro ρ hp hE hT
  have j0 : ρ 0 % 4 = 1 := pz_gj hE 0 (Nat.le_of_ble_eq_true rfl) rfl
  have j1 : ρ 1 % 4 = 1 := pz_gj hE 1 (Nat.le_of_ble_eq_true rfl) rfl
  obtain ⟨i2a, i2b, i2c, i2d⟩ := pz_gi hE 2 2147484448 2147484448 (Nat.le_of_ble_eq_true rfl) rfl
  obtain ⟨-, -, F30⟩ : ay_ex hp 8 ∧ ay_ex hp 9 ∧ pz_x30 (ρ 0) (ay_at hp 8 1) (ay_at hp 9) := (ax_XF_lt (x := 30) (Nat.le_of_ble_eq_true rfl)).mp (ax_gx hE (30, [3]) ax_m0)
  obtain ⟨-, -, -, -, F50⟩ : ay_ex hp 8 ∧ ay_ex hp 10 ∧ ay_ex hp 11 ∧ ay_ex hp 12 ∧ pz_x50 (ρ 0) (ρ 1) (ay_at hp 8 5) (ay_at hp 8 6) (ay_at hp 8 7) (ay_at hp 8 8) (ay_at hp 10 0) (ay_at hp 10 1) (ay_at hp 10 2) (ay_at hp 10 3) (ay_at hp 10 4) (ay_at hp 8 9) (ay_at hp 8 11) (ay_at hp 8 10) (ay_at hp 8 3) (ay_at hp 8 4) (ay_at hp 11) (ay_at hp 12) := (ax_XF_lt (x := 50) (Nat.le_of_ble_eq_true rfl)).mp (ax_gx hE (50, [3, 7]) ax_m1)
  have F79 : pz7 (pz_gt (ρ 0)) (pz_gN (ρ 0)) ((ρ 1) / 4) 9 := (ax_XF_lt (x := 79) (Nat.le_of_ble_eq_true rfl)).mp (ax_gx hE (79, [3, 7]) ax_m2)
  have F97 : (ρ 2) / 4 ≤ (ρ 1) / 4 := (ax_XF_lt (x := 97) (Nat.le_of_ble_eq_true rfl)).mp (ax_gx hE (97, [7, 11]) ax_m3)
  refine ⟨(fun y hy => by cases hy), _, List.mem_cons_self, ρ, fun _ _ => rfl, ax_px hE rfl (fun y hy => ?_)⟩
  cases List.mem_singleton.mp hy
  refine (ax_XF_lt (x := 94) (Nat.le_of_ble_eq_true rfl)).mpr ?_
  show pz94 (pz_gt (ρ 0)) (pz_gN (ρ 0)) ((ρ 1) / 4)
  have kd := pq_far (n := ρ 1 / 4) F79 (by decide) (show pz_gN (ρ 0) ≤ 800 from F30.2.1) (by omega)
  show pz_op (pz_kd (pz_gt (ρ 0)) (pz_gN (ρ 0)) (pz_p (pz_cf (pz_gt (ρ 0)) (pz_gN (ρ 0)) (ρ 1 / 4)))) = false
  rw [kd]
  rfl

theorem axq_rq8a_5 : ax_RO ax_wC ax_XC axu_rq8a_5 := by
  intro ρ hp hE hT
  have j0 : ρ 0 % 4 = 1 := pz_gj hE 0 (Nat.le_of_ble_eq_true rfl) rfl
  have j1 : ρ 1 % 4 = 1 := pz_gj hE 1 (Nat.le_of_ble_eq_true rfl) rfl
  obtain ⟨i2a, i2b, i2c, i2d⟩ := pz_gi hE 2 0 2147483690 (Nat.le_of_ble_eq_true rfl) rfl
  have c_kind : ay_at hp 8 7 = some (ρ 2) := ay_gfj hE 42 28 11 8 7 ax_m1 (ax_vlq rfl rfl) (ax_vlj rfl rfl)
  obtain ⟨-, -, -, -, F50⟩ : ay_ex hp 8 ∧ ay_ex hp 10 ∧ ay_ex hp 11 ∧ ay_ex hp 12 ∧ pz_x50 (ρ 0) (ρ 1) (ay_at hp 8 5) (ay_at hp 8 6) (ay_at hp 8 7) (ay_at hp 8 8) (ay_at hp 10 0) (ay_at hp 10 1) (ay_at hp 10 2) (ay_at hp 10 3) (ay_at hp 10 4) (ay_at hp 8 9) (ay_at hp 8 11) (ay_at hp 8 10) (ay_at hp 8 3) (ay_at hp 8 4) (ay_at hp 11) (ay_at hp 12) := (ax_XF_lt (x := 50) (Nat.le_of_ble_eq_true rfl)).mp (ax_gx hE (50, [3, 7]) ax_m0)
  rw [c_kind] at F50
  have F95 : pz95 (pz_gt (ρ 0)) (pz_gN (ρ 0)) ((ρ 1) / 4) := (ax_XF_lt (x := 95) (Nat.le_of_ble_eq_true rfl)).mp (ax_gx hE (95, [3, 7]) ax_m2)
  refine ⟨(fun y hy => by cases hy), _, List.mem_cons_self, ρ, fun _ _ => rfl, ax_px hE rfl (fun y hy => ?_)⟩
  cases List.mem_singleton.mp hy
  refine (ax_XF_lt (x := 94) (Nat.le_of_ble_eq_true rfl)).mpr ?_
  show pz94 (pz_gt (ρ 0)) (pz_gN (ρ 0)) ((ρ 1) / 4)
  have kd : ρ 2 / 4 = pz_kd (pz_gt (ρ 0)) (pz_gN (ρ 0)) (pz_p (pz_cf (pz_gt (ρ 0)) (pz_gN (ρ 0)) (ρ 1 / 4))) := F50.2.2.1
  exact pz_op_no (by omega) (by omega) F95

theorem axq_rq8b_5 : ax_RO ax_wC ax_XC axu_rq8b_5 := by
  intro ρ hp hE hT
  have j0 : ρ 0 % 4 = 1 := pz_gj hE 0 (Nat.le_of_ble_eq_true rfl) rfl
  have j1 : ρ 1 % 4 = 1 := pz_gj hE 1 (Nat.le_of_ble_eq_true rfl) rfl
  obtain ⟨i2a, i2b, i2c, i2d⟩ := pz_gi hE 2 2147483692 2147483692 (Nat.le_of_ble_eq_true rfl) rfl
  have c_kind : ay_at hp 8 7 = some (ρ 2) := ay_gfj hE 42 28 11 8 7 ax_m1 (ax_vlq rfl rfl) (ax_vlj rfl rfl)
  obtain ⟨-, -, -, -, F50⟩ : ay_ex hp 8 ∧ ay_ex hp 10 ∧ ay_ex hp 11 ∧ ay_ex hp 12 ∧ pz_x50 (ρ 0) (ρ 1) (ay_at hp 8 5) (ay_at hp 8 6) (ay_at hp 8 7) (ay_at hp 8 8) (ay_at hp 10 0) (ay_at hp 10 1) (ay_at hp 10 2) (ay_at hp 10 3) (ay_at hp 10 4) (ay_at hp 8 9) (ay_at hp 8 11) (ay_at hp 8 10) (ay_at hp 8 3) (ay_at hp 8 4) (ay_at hp 11) (ay_at hp 12) := (ax_XF_lt (x := 50) (Nat.le_of_ble_eq_true rfl)).mp (ax_gx hE (50, [3, 7]) ax_m0)
  rw [c_kind] at F50
  have F95 : pz95 (pz_gt (ρ 0)) (pz_gN (ρ 0)) ((ρ 1) / 4) := (ax_XF_lt (x := 95) (Nat.le_of_ble_eq_true rfl)).mp (ax_gx hE (95, [3, 7]) ax_m2)
  refine ⟨(fun y hy => by cases hy), _, List.mem_cons_self, ρ, fun _ _ => rfl, ax_px hE rfl (fun y hy => ?_)⟩
  cases List.mem_singleton.mp hy
  refine (ax_XF_lt (x := 94) (Nat.le_of_ble_eq_true rfl)).mpr ?_
  show pz94 (pz_gt (ρ 0)) (pz_gN (ρ 0)) ((ρ 1) / 4)
  have kd : ρ 2 / 4 = pz_kd (pz_gt (ρ 0)) (pz_gN (ρ 0)) (pz_p (pz_cf (pz_gt (ρ 0)) (pz_gN (ρ 0)) (ρ 1 / 4))) := F50.2.2.1
  exact pz_op_no (by omega) (by omega) F95

theorem axq_rq8c_5 : ax_RO ax_wC ax_XC axu_rq8c_5 := by
  intro ρ hp hE hT
  have j0 : ρ 0 % 4 = 1 := pz_gj hE 0 (Nat.le_of_ble_eq_true rfl) rfl
  have j1 : ρ 1 % 4 = 1 := pz_gj hE 1 (Nat.le_of_ble_eq_true rfl) rfl
  obtain ⟨i2a, i2b, i2c, i2d⟩ := pz_gi hE 2 2147483694 4294967295 (Nat.le_of_ble_eq_true rfl) rfl
  have c_kind : ay_at hp 8 7 = some (ρ 2) := ay_gfj hE 42 28 11 8 7 ax_m1 (ax_vlq rfl rfl) (ax_vlj rfl rfl)
  obtain ⟨-, -, -, -, F50⟩ : ay_ex hp 8 ∧ ay_ex hp 10 ∧ ay_ex hp 11 ∧ ay_ex hp 12 ∧ pz_x50 (ρ 0) (ρ 1) (ay_at hp 8 5) (ay_at hp 8 6) (ay_at hp 8 7) (ay_at hp 8 8) (ay_at hp 10 0) (ay_at hp 10 1) (ay_at hp 10 2) (ay_at hp 10 3) (ay_at hp 10 4) (ay_at hp 8 9) (ay_at hp 8 11) (ay_at hp 8 10) (ay_at hp 8 3) (ay_at hp 8 4) (ay_at hp 11) (ay_at hp 12) := (ax_XF_lt (x := 50) (Nat.le_of_ble_eq_true rfl)).mp (ax_gx hE (50, [3, 7]) ax_m0)
  rw [c_kind] at F50
  have F95 : pz95 (pz_gt (ρ 0)) (pz_gN (ρ 0)) ((ρ 1) / 4) := (ax_XF_lt (x := 95) (Nat.le_of_ble_eq_true rfl)).mp (ax_gx hE (95, [3, 7]) ax_m2)
  refine ⟨(fun y hy => by cases hy), _, List.mem_cons_self, ρ, fun _ _ => rfl, ax_px hE rfl (fun y hy => ?_)⟩
  cases List.mem_singleton.mp hy
  refine (ax_XF_lt (x := 94) (Nat.le_of_ble_eq_true rfl)).mpr ?_
  show pz94 (pz_gt (ρ 0)) (pz_gN (ρ 0)) ((ρ 1) / 4)
  have kd : ρ 2 / 4 = pz_kd (pz_gt (ρ 0)) (pz_gN (ρ 0)) (pz_p (pz_cf (pz_gt (ρ 0)) (pz_gN (ρ 0)) (ρ 1 / 4))) := F50.2.2.1
  exact pz_op_no (by omega) (by omega) F95

theorem axq_rq2_6 : ax_RO ax_wC ax_XC axu_rq2_6 := by
  intro ρ hp hE hT
  have j0 : ρ 0 % 4 = 1 := pz_gj hE 0 (Nat.le_of_ble_eq_true rfl) rfl
  have j1 : ρ 1 % 4 = 1 := pz_gj hE 1 (Nat.le_of_ble_eq_true rfl) rfl
  obtain ⟨-, -, -, -, F50⟩ : ay_ex hp 8 ∧ ay_ex hp 10 ∧ ay_ex hp 11 ∧ ay_ex hp 12 ∧ pz_x50 (ρ 0) (ρ 1) (ay_at hp 8 5) (ay_at hp 8 6) (ay_at hp 8 7) (ay_at hp 8 8) (ay_at hp 10 0) (ay_at hp 10 1) (ay_at hp 10 2) (ay_at hp 10 3) (ay_at hp 10 4) (ay_at hp 8 9) (ay_at hp 8 11) (ay_at hp 8 10) (ay_at hp 8 3) (ay_at hp 8 4) (ay_at hp 11) (ay_at hp 12) := (ax_XF_lt (x := 50) (Nat.le_of_ble_eq_true rfl)).mp (ax_gx hE (50, [3, 7]) ax_m0)
  refine ⟨(fun y hy => by cases hy), _, List.mem_cons_self, ρ, fun _ _ => rfl, ax_px hE rfl (fun y hy => ?_)⟩
  cases List.mem_singleton.mp hy
  refine (ax_XF_lt (x := 97) (Nat.le_of_ble_eq_true rfl)).mpr ?_
  show (0) / 4 ≤ (ρ 1) / 4
  exact Nat.zero_le _

theorem axq_rq3c43_6 : ax_RO ax_wC ax_XC axu_rq3c43_6 := by
  intro ρ hp hE hT
  have j0 : ρ 0 % 4 = 1 := pz_gj hE 0 (Nat.le_of_ble_eq_true rfl) rfl
  have j1 : ρ 1 % 4 = 1 := pz_gj hE 1 (Nat.le_of_ble_eq_true rfl) rfl
  have j2 : ρ 2 % 4 = 1 := pz_gj hE 2 (Nat.le_of_ble_eq_true rfl) rfl
  obtain ⟨i3a, i3b, i3c, i3d⟩ := pz_gi hE 3 2147483691 2147483691 (Nat.le_of_ble_eq_true rfl) rfl
  have j4 : ρ 4 % 4 = 1 := pz_gj hE 4 (Nat.le_of_ble_eq_true rfl) rfl
  have c_kind : ay_at hp 8 7 = some (ρ 3) := ay_gfj hE 42 28 15 8 7 ax_m3 (ax_vlq rfl rfl) (ax_vlj rfl rfl)
  have o1 : ρ 4 < ρ 1 := pz_go hE 19 7 (by decide)
  obtain ⟨-, -, -, -, F50⟩ : ay_ex hp 8 ∧ ay_ex hp 10 ∧ ay_ex hp 11 ∧ ay_ex hp 12 ∧ pz_x50 (ρ 0) (ρ 1) (ay_at hp 8 5) (ay_at hp 8 6) (ay_at hp 8 7) (ay_at hp 8 8) (ay_at hp 10 0) (ay_at hp 10 1) (ay_at hp 10 2) (ay_at hp 10 3) (ay_at hp 10 4) (ay_at hp 8 9) (ay_at hp 8 11) (ay_at hp 8 10) (ay_at hp 8 3) (ay_at hp 8 4) (ay_at hp 11) (ay_at hp 12) := (ax_XF_lt (x := 50) (Nat.le_of_ble_eq_true rfl)).mp (ax_gx hE (50, [3, 7]) ax_m0)
  rw [c_kind] at F50
  have F79 : pz7 (pz_gt (ρ 0)) (pz_gN (ρ 0)) ((ρ 1) / 4) 9 := (ax_XF_lt (x := 79) (Nat.le_of_ble_eq_true rfl)).mp (ax_gx hE (79, [3, 7]) ax_m1)
  have F90 : (pz90 (pz_gt (ρ 0)) (pz_gN (ρ 0)) ((ρ 1) / 4) ((ρ 2) / 4) ∧ 1 ≤ (ρ 2) / 4) := (ax_XF_lt (x := 90) (Nat.le_of_ble_eq_true rfl)).mp (ax_gx hE (90, [3, 7, 11]) ax_m2)
  have st := pq_op F50 F79 F90.1 (show pz_op (ρ 3 / 4) = true by rw [show ρ 3 / 4 = 43 by omega]; rfl)
  obtain ⟨ρ', h1, h2⟩ := pz_pn1 (K := ρ 1 / 4 + 1) (xf := [(53, [3, 23]), (78, [3, 23]), (90, [3, 23, 11]), (1030, [7, 23]), (98, [7, 23]), (1030, [19, 23])]) hE (by decide) (fun ρ' h1 h2 x hx => by
    have q0 : ρ' 0 = ρ 0 := h1 0 (by decide)
    have q1 : ρ' 1 = ρ 1 := h1 1 (by decide)
    have q2 : ρ' 2 = ρ 2 := h1 2 (by decide)
    have q3 : ρ' 3 = ρ 3 := h1 3 (by decide)
    have q4 : ρ' 4 = ρ 4 := h1 4 (by decide)
    rcases List.mem_cons.mp hx with e | hx
    · subst e
      refine (ax_XF_lt (x := 53) (Nat.le_of_ble_eq_true rfl)).mpr ?_
      show ay_ex hp 8 ∧ ay_ex hp 10 ∧ ay_ex hp 11 ∧ ay_ex hp 12 ∧ pz_x53 (ρ' 0) (ρ' 5) (ay_at hp 8 5) (ay_at hp 10 0) (ay_at hp 10 1) (ay_at hp 10 2) (ay_at hp 10 3) (ay_at hp 10 4) (ay_at hp 8 9) (ay_at hp 8 11) (ay_at hp 8 10) (ay_at hp 8 3) (ay_at hp 8 4) (ay_at hp 11) (ay_at hp 12)
      rw [q0, h2]
      exact ⟨(ax_cellT hT (q := 8) (g := 2) rfl), (ax_cellT hT (q := 10) (g := 1) rfl), (ax_cellT hT (q := 11) (g := 14) rfl), (ax_cellT hT (q := 12) (g := 15) rfl), pz_53 (pz_41 _) rfl st.1⟩
    rcases List.mem_cons.mp hx with e | hx
    · subst e
      refine (ax_XF_lt (x := 78) (Nat.le_of_ble_eq_true rfl)).mpr ?_
      show pz7 (pz_gt (ρ' 0)) (pz_gN (ρ' 0)) ((ρ' 5) / 4) 8
      rw [q0, h2]
      rw [pz_41]
      exact st.2.1
    rcases List.mem_cons.mp hx with e | hx
    · subst e
      refine (ax_XF_lt (x := 90) (Nat.le_of_ble_eq_true rfl)).mpr ?_
      show (pz90 (pz_gt (ρ' 0)) (pz_gN (ρ' 0)) ((ρ' 5) / 4) ((ρ' 2) / 4) ∧ 1 ≤ (ρ' 2) / 4)
      rw [q0, q2, h2]
      rw [pz_41]
      exact ⟨st.2.2, F90.2⟩
    rcases List.mem_cons.mp hx with e | hx
    · subst e
      refine (ax_XF_bi (o := 30) (by decide)).mpr (Or.inr ⟨rfl, ?_⟩)
      show ρ' 1 < ρ' 5
      rw [q1, h2]
      omega
    rcases List.mem_cons.mp hx with e | hx
    · subst e
      refine (ax_XF_lt (x := 98) (Nat.le_of_ble_eq_true rfl)).mpr ?_
      show (ρ' 5) / 4 = (ρ' 1) / 4 + 1
      rw [q1, h2]
      rw [pz_41]
    cases List.mem_singleton.mp hx
    refine (ax_XF_bi (o := 30) (by decide)).mpr (Or.inr ⟨rfl, ?_⟩)
    show ρ' 4 < ρ' 5
    rw [q4, h2]
    omega)
  exact ⟨(fun y hy => by cases hy), _, List.mem_cons_self, ρ', h1, h2⟩

theorem axq_rq3c45_6 : ax_RO ax_wC ax_XC axu_rq3c45_6 := by
  intro ρ hp hE hT
  have j0 : ρ 0 % 4 = 1 := pz_gj hE 0 (Nat.le_of_ble_eq_true rfl) rfl
  have j1 : ρ 1 % 4 = 1 := pz_gj hE 1 (Nat.le_of_ble_eq_true rfl) rfl
  have j2 : ρ 2 % 4 = 1 := pz_gj hE 2 (Nat.le_of_ble_eq_true rfl) rfl
  obtain ⟨i3a, i3b, i3c, i3d⟩ := pz_gi hE 3 2147483693 2147483693 (Nat.le_of_ble_eq_true rfl) rfl
  have j4 : ρ 4 % 4 = 1 := pz_gj hE 4 (Nat.le_of_ble_eq_true rfl) rfl
  have c_kind : ay_at hp 8 7 = some (ρ 3) := ay_gfj hE 42 28 15 8 7 ax_m3 (ax_vlq rfl rfl) (ax_vlj rfl rfl)
  have o1 : ρ 4 < ρ 1 := pz_go hE 19 7 (by decide)
  obtain ⟨-, -, -, -, F50⟩ : ay_ex hp 8 ∧ ay_ex hp 10 ∧ ay_ex hp 11 ∧ ay_ex hp 12 ∧ pz_x50 (ρ 0) (ρ 1) (ay_at hp 8 5) (ay_at hp 8 6) (ay_at hp 8 7) (ay_at hp 8 8) (ay_at hp 10 0) (ay_at hp 10 1) (ay_at hp 10 2) (ay_at hp 10 3) (ay_at hp 10 4) (ay_at hp 8 9) (ay_at hp 8 11) (ay_at hp 8 10) (ay_at hp 8 3) (ay_at hp 8 4) (ay_at hp 11) (ay_at hp 12) := (ax_XF_lt (x := 50) (Nat.le_of_ble_eq_true rfl)).mp (ax_gx hE (50, [3, 7]) ax_m0)
  rw [c_kind] at F50
  have F79 : pz7 (pz_gt (ρ 0)) (pz_gN (ρ 0)) ((ρ 1) / 4) 9 := (ax_XF_lt (x := 79) (Nat.le_of_ble_eq_true rfl)).mp (ax_gx hE (79, [3, 7]) ax_m1)
  have F90 : (pz90 (pz_gt (ρ 0)) (pz_gN (ρ 0)) ((ρ 1) / 4) ((ρ 2) / 4) ∧ 1 ≤ (ρ 2) / 4) := (ax_XF_lt (x := 90) (Nat.le_of_ble_eq_true rfl)).mp (ax_gx hE (90, [3, 7, 11]) ax_m2)
  have st := pq_op F50 F79 F90.1 (show pz_op (ρ 3 / 4) = true by rw [show ρ 3 / 4 = 45 by omega]; rfl)
  obtain ⟨ρ', h1, h2⟩ := pz_pn1 (K := ρ 1 / 4 + 1) (xf := [(53, [3, 23]), (78, [3, 23]), (90, [3, 23, 11]), (1030, [7, 23]), (98, [7, 23]), (1030, [19, 23])]) hE (by decide) (fun ρ' h1 h2 x hx => by
    have q0 : ρ' 0 = ρ 0 := h1 0 (by decide)
    have q1 : ρ' 1 = ρ 1 := h1 1 (by decide)
    have q2 : ρ' 2 = ρ 2 := h1 2 (by decide)
    have q3 : ρ' 3 = ρ 3 := h1 3 (by decide)
    have q4 : ρ' 4 = ρ 4 := h1 4 (by decide)
    rcases List.mem_cons.mp hx with e | hx
    · subst e
      refine (ax_XF_lt (x := 53) (Nat.le_of_ble_eq_true rfl)).mpr ?_
      show ay_ex hp 8 ∧ ay_ex hp 10 ∧ ay_ex hp 11 ∧ ay_ex hp 12 ∧ pz_x53 (ρ' 0) (ρ' 5) (ay_at hp 8 5) (ay_at hp 10 0) (ay_at hp 10 1) (ay_at hp 10 2) (ay_at hp 10 3) (ay_at hp 10 4) (ay_at hp 8 9) (ay_at hp 8 11) (ay_at hp 8 10) (ay_at hp 8 3) (ay_at hp 8 4) (ay_at hp 11) (ay_at hp 12)
      rw [q0, h2]
      exact ⟨(ax_cellT hT (q := 8) (g := 2) rfl), (ax_cellT hT (q := 10) (g := 1) rfl), (ax_cellT hT (q := 11) (g := 14) rfl), (ax_cellT hT (q := 12) (g := 15) rfl), pz_53 (pz_41 _) rfl st.1⟩
    rcases List.mem_cons.mp hx with e | hx
    · subst e
      refine (ax_XF_lt (x := 78) (Nat.le_of_ble_eq_true rfl)).mpr ?_
      show pz7 (pz_gt (ρ' 0)) (pz_gN (ρ' 0)) ((ρ' 5) / 4) 8
      rw [q0, h2]
      rw [pz_41]
      exact st.2.1
    rcases List.mem_cons.mp hx with e | hx
    · subst e
      refine (ax_XF_lt (x := 90) (Nat.le_of_ble_eq_true rfl)).mpr ?_
      show (pz90 (pz_gt (ρ' 0)) (pz_gN (ρ' 0)) ((ρ' 5) / 4) ((ρ' 2) / 4) ∧ 1 ≤ (ρ' 2) / 4)
      rw [q0, q2, h2]
      rw [pz_41]
      exact ⟨st.2.2, F90.2⟩
    rcases List.mem_cons.mp hx with e | hx
    · subst e
      refine (ax_XF_bi (o := 30) (by decide)).mpr (Or.inr ⟨rfl, ?_⟩)
      show ρ' 1 < ρ' 5
      rw [q1, h2]
      omega
    rcases List.mem_cons.mp hx with e | hx
    · subst e
      refine (ax_XF_lt (x := 98) (Nat.le_of_ble_eq_true rfl)).mpr ?_
      show (ρ' 5) / 4 = (ρ' 1) / 4 + 1
      rw [q1, h2]
      rw [pz_41]
    cases List.mem_singleton.mp hx
    refine (ax_XF_bi (o := 30) (by decide)).mpr (Or.inr ⟨rfl, ?_⟩)
    show ρ' 4 < ρ' 5
    rw [q4, h2]
    omega)
  exact ⟨(fun y hy => by cases hy), _, List.mem_cons_self, ρ', h1, h2⟩

theorem axq_rq5_6 : ax_RO ax_wC ax_XC axu_rq5_6 := by
  intro ρ hp hE hT
  have j0 : ρ 0 % 4 = 1 := pz_gj hE 0 (Nat.le_of_ble_eq_true rfl) rfl
  have j1 : ρ 1 % 4 = 1 := pz_gj hE 1 (Nat.le_of_ble_eq_true rfl) rfl
  have j2 : ρ 2 % 4 = 1 := pz_gj hE 2 (Nat.le_of_ble_eq_true rfl) rfl
  have j3 : ρ 3 % 4 = 1 := pz_gj hE 3 (Nat.le_of_ble_eq_true rfl) rfl
  have j4 : ρ 4 % 4 = 1 := pz_gj hE 4 (Nat.le_of_ble_eq_true rfl) rfl
  have o1 : ρ 2 < ρ 1 := pz_go hE 11 7 (by decide)
  have o2 : ρ 3 < ρ 2 := pz_go hE 15 11 (by decide)
  have o3 : ρ 4 < ρ 3 := pz_go hE 19 15 (by decide)
  obtain ⟨-, -, -, -, F50⟩ : ay_ex hp 8 ∧ ay_ex hp 10 ∧ ay_ex hp 11 ∧ ay_ex hp 12 ∧ pz_x50 (ρ 0) (ρ 1) (ay_at hp 8 5) (ay_at hp 8 6) (ay_at hp 8 7) (ay_at hp 8 8) (ay_at hp 10 0) (ay_at hp 10 1) (ay_at hp 10 2) (ay_at hp 10 3) (ay_at hp 10 4) (ay_at hp 8 9) (ay_at hp 8 11) (ay_at hp 8 10) (ay_at hp 8 3) (ay_at hp 8 4) (ay_at hp 11) (ay_at hp 12) := (ax_XF_lt (x := 50) (Nat.le_of_ble_eq_true rfl)).mp (ax_gx hE (50, [3, 7]) ax_m0)
  refine ⟨(fun y hy => by cases hy), _, List.mem_cons_self, ρ, fun _ _ => rfl, ax_px hE rfl (fun y hy => ?_)⟩
  rcases List.mem_cons.mp hy with e | hy
  · subst e
    refine (ax_XF_bi (o := 30) (by decide)).mpr (Or.inr ⟨rfl, ?_⟩)
    show ρ 4 < ρ 1
    omega
  cases List.mem_singleton.mp hy
  refine (ax_XF_bi (o := 30) (by decide)).mpr (Or.inr ⟨rfl, ?_⟩)
  show ρ 3 < ρ 1
  omega

theorem axq_rq6_6 : ax_RO ax_wC ax_XC axu_rq6_6 := by
  intro ρ hp hE hT
  have j0 : ρ 0 % 4 = 1 := pz_gj hE 0 (Nat.le_of_ble_eq_true rfl) rfl
  have j1 : ρ 1 % 4 = 1 := pz_gj hE 1 (Nat.le_of_ble_eq_true rfl) rfl
  have j2 : ρ 2 % 4 = 1 := pz_gj hE 2 (Nat.le_of_ble_eq_true rfl) rfl
  obtain ⟨i3a, i3b, i3c, i3d⟩ := pz_gi hE 3 2147483648 2147484447 (Nat.le_of_ble_eq_true rfl) rfl
  obtain ⟨i4a, i4b, i4c, i4d⟩ := pz_gi hE 4 0 4294967295 (Nat.le_of_ble_eq_true rfl) rfl
  have s1 : (ρ 3 / 4 + 2147483648) % 4294967296 + (4 / 4 + 2147483648) % 4294967296 = (ρ 4 / 4 + 2147483648) % 4294967296 + 2147483648 := pz_gs hE 15 4 19 ax_m1
  have o1 : ρ 2 < ρ 1 := pz_go hE 11 7 (by decide)
  obtain ⟨-, -, -, -, F50⟩ : ay_ex hp 8 ∧ ay_ex hp 10 ∧ ay_ex hp 11 ∧ ay_ex hp 12 ∧ pz_x50 (ρ 0) (ρ 1) (ay_at hp 8 5) (ay_at hp 8 6) (ay_at hp 8 7) (ay_at hp 8 8) (ay_at hp 10 0) (ay_at hp 10 1) (ay_at hp 10 2) (ay_at hp 10 3) (ay_at hp 10 4) (ay_at hp 8 9) (ay_at hp 8 11) (ay_at hp 8 10) (ay_at hp 8 3) (ay_at hp 8 4) (ay_at hp 11) (ay_at hp 12) := (ax_XF_lt (x := 50) (Nat.le_of_ble_eq_true rfl)).mp (ax_gx hE (50, [3, 7]) ax_m0)
  have F97 : (ρ 3) / 4 ≤ (ρ 2) / 4 := (ax_XF_lt (x := 97) (Nat.le_of_ble_eq_true rfl)).mp (ax_gx hE (97, [11, 15]) ax_m2)
  refine ⟨(fun y hy => by cases hy), _, List.mem_cons_self, ρ, fun _ _ => rfl, ax_px hE rfl (fun y hy => ?_)⟩
  cases List.mem_singleton.mp hy
  refine (ax_XF_lt (x := 97) (Nat.le_of_ble_eq_true rfl)).mpr ?_
  show (ρ 4) / 4 ≤ (ρ 1) / 4
  omega

theorem axq_rq7_6 : ax_RO ax_wC ax_XC axu_rq7_6 := by
  intro ρ hp hE hT
  have j0 : ρ 0 % 4 = 1 := pz_gj hE 0 (Nat.le_of_ble_eq_true rfl) rfl
  have j1 : ρ 1 % 4 = 1 := pz_gj hE 1 (Nat.le_of_ble_eq_true rfl) rfl
  obtain ⟨i2a, i2b, i2c, i2d⟩ := pz_gi hE 2 2147484448 2147484448 (Nat.le_of_ble_eq_true rfl) rfl
  obtain ⟨-, -, F30⟩ : ay_ex hp 8 ∧ ay_ex hp 9 ∧ pz_x30 (ρ 0) (ay_at hp 8 1) (ay_at hp 9) := (ax_XF_lt (x := 30) (Nat.le_of_ble_eq_true rfl)).mp (ax_gx hE (30, [3]) ax_m0)
  obtain ⟨-, -, -, -, F50⟩ : ay_ex hp 8 ∧ ay_ex hp 10 ∧ ay_ex hp 11 ∧ ay_ex hp 12 ∧ pz_x50 (ρ 0) (ρ 1) (ay_at hp 8 5) (ay_at hp 8 6) (ay_at hp 8 7) (ay_at hp 8 8) (ay_at hp 10 0) (ay_at hp 10 1) (ay_at hp 10 2) (ay_at hp 10 3) (ay_at hp 10 4) (ay_at hp 8 9) (ay_at hp 8 11) (ay_at hp 8 10) (ay_at hp 8 3) (ay_at hp 8 4) (ay_at hp 11) (ay_at hp 12) := (ax_XF_lt (x := 50) (Nat.le_of_ble_eq_true rfl)).mp (ax_gx hE (50, [3, 7]) ax_m1)
  have F79 : pz7 (pz_gt (ρ 0)) (pz_gN (ρ 0)) ((ρ 1) / 4) 9 := (ax_XF_lt (x := 79) (Nat.le_of_ble_eq_true rfl)).mp (ax_gx hE (79, [3, 7]) ax_m2)
  have F97 : (ρ 2) / 4 ≤ (ρ 1) / 4 := (ax_XF_lt (x := 97) (Nat.le_of_ble_eq_true rfl)).mp (ax_gx hE (97, [7, 11]) ax_m3)
  refine ⟨(fun y hy => by cases hy), _, List.mem_cons_self, ρ, fun _ _ => rfl, ax_px hE rfl (fun y hy => ?_)⟩
  cases List.mem_singleton.mp hy
  refine (ax_XF_lt (x := 94) (Nat.le_of_ble_eq_true rfl)).mpr ?_
  show pz94 (pz_gt (ρ 0)) (pz_gN (ρ 0)) ((ρ 1) / 4)
  have kd := pq_far (n := ρ 1 / 4) F79 (by decide) (show pz_gN (ρ 0) ≤ 800 from F30.2.1) (by omega)
  show pz_op (pz_kd (pz_gt (ρ 0)) (pz_gN (ρ 0)) (pz_p (pz_cf (pz_gt (ρ 0)) (pz_gN (ρ 0)) (ρ 1 / 4)))) = false
  rw [kd]
  rfl

theorem axq_rq8a_6 : ax_RO ax_wC ax_XC axu_rq8a_6 := by
  intro ρ hp hE hT
  have j0 : ρ 0 % 4 = 1 := pz_gj hE 0 (Nat.le_of_ble_eq_true rfl) rfl
  have j1 : ρ 1 % 4 = 1 := pz_gj hE 1 (Nat.le_of_ble_eq_true rfl) rfl
  obtain ⟨i2a, i2b, i2c, i2d⟩ := pz_gi hE 2 0 2147483690 (Nat.le_of_ble_eq_true rfl) rfl
  have c_kind : ay_at hp 8 7 = some (ρ 2) := ay_gfj hE 42 28 11 8 7 ax_m1 (ax_vlq rfl rfl) (ax_vlj rfl rfl)
  obtain ⟨-, -, -, -, F50⟩ : ay_ex hp 8 ∧ ay_ex hp 10 ∧ ay_ex hp 11 ∧ ay_ex hp 12 ∧ pz_x50 (ρ 0) (ρ 1) (ay_at hp 8 5) (ay_at hp 8 6) (ay_at hp 8 7) (ay_at hp 8 8) (ay_at hp 10 0) (ay_at hp 10 1) (ay_at hp 10 2) (ay_at hp 10 3) (ay_at hp 10 4) (ay_at hp 8 9) (ay_at hp 8 11) (ay_at hp 8 10) (ay_at hp 8 3) (ay_at hp 8 4) (ay_at hp 11) (ay_at hp 12) := (ax_XF_lt (x := 50) (Nat.le_of_ble_eq_true rfl)).mp (ax_gx hE (50, [3, 7]) ax_m0)
  rw [c_kind] at F50
  have F95 : pz95 (pz_gt (ρ 0)) (pz_gN (ρ 0)) ((ρ 1) / 4) := (ax_XF_lt (x := 95) (Nat.le_of_ble_eq_true rfl)).mp (ax_gx hE (95, [3, 7]) ax_m2)
  refine ⟨(fun y hy => by cases hy), _, List.mem_cons_self, ρ, fun _ _ => rfl, ax_px hE rfl (fun y hy => ?_)⟩
  cases List.mem_singleton.mp hy
  refine (ax_XF_lt (x := 94) (Nat.le_of_ble_eq_true rfl)).mpr ?_
  show pz94 (pz_gt (ρ 0)) (pz_gN (ρ 0)) ((ρ 1) / 4)
  have kd : ρ 2 / 4 = pz_kd (pz_gt (ρ 0)) (pz_gN (ρ 0)) (pz_p (pz_cf (pz_gt (ρ 0)) (pz_gN (ρ 0)) (ρ 1 / 4))) := F50.2.2.1
  exact pz_op_no (by omega) (by omega) F95

theorem axq_rq8b_6 : ax_RO ax_wC ax_XC axu_rq8b_6 := by
  intro ρ hp hE hT
  have j0 : ρ 0 % 4 = 1 := pz_gj hE 0 (Nat.le_of_ble_eq_true rfl) rfl
  have j1 : ρ 1 % 4 = 1 := pz_gj hE 1 (Nat.le_of_ble_eq_true rfl) rfl
  obtain ⟨i2a, i2b, i2c, i2d⟩ := pz_gi hE 2 2147483692 2147483692 (Nat.le_of_ble_eq_true rfl) rfl
  have c_kind : ay_at hp 8 7 = some (ρ 2) := ay_gfj hE 42 28 11 8 7 ax_m1 (ax_vlq rfl rfl) (ax_vlj rfl rfl)
  obtain ⟨-, -, -, -, F50⟩ : ay_ex hp 8 ∧ ay_ex hp 10 ∧ ay_ex hp 11 ∧ ay_ex hp 12 ∧ pz_x50 (ρ 0) (ρ 1) (ay_at hp 8 5) (ay_at hp 8 6) (ay_at hp 8 7) (ay_at hp 8 8) (ay_at hp 10 0) (ay_at hp 10 1) (ay_at hp 10 2) (ay_at hp 10 3) (ay_at hp 10 4) (ay_at hp 8 9) (ay_at hp 8 11) (ay_at hp 8 10) (ay_at hp 8 3) (ay_at hp 8 4) (ay_at hp 11) (ay_at hp 12) := (ax_XF_lt (x := 50) (Nat.le_of_ble_eq_true rfl)).mp (ax_gx hE (50, [3, 7]) ax_m0)
  rw [c_kind] at F50
  have F95 : pz95 (pz_gt (ρ 0)) (pz_gN (ρ 0)) ((ρ 1) / 4) := (ax_XF_lt (x := 95) (Nat.le_of_ble_eq_true rfl)).mp (ax_gx hE (95, [3, 7]) ax_m2)
  refine ⟨(fun y hy => by cases hy), _, List.mem_cons_self, ρ, fun _ _ => rfl, ax_px hE rfl (fun y hy => ?_)⟩
  cases List.mem_singleton.mp hy
  refine (ax_XF_lt (x := 94) (Nat.le_of_ble_eq_true rfl)).mpr ?_
  show pz94 (pz_gt (ρ 0)) (pz_gN (ρ 0)) ((ρ 1) / 4)
  have kd : ρ 2 / 4 = pz_kd (pz_gt (ρ 0)) (pz_gN (ρ 0)) (pz_p (pz_cf (pz_gt (ρ 0)) (pz_gN (ρ 0)) (ρ 1 / 4))) := F50.2.2.1
  exact pz_op_no (by omega) (by omega) F95

theorem axq_rq8c_6 : ax_RO ax_wC ax_XC axu_rq8c_6 := by
  intro ρ hp hE hT
  have j0 : ρ 0 % 4 = 1 := pz_gj hE 0 (Nat.le_of_ble_eq_true rfl) rfl
  have j1 : ρ 1 % 4 = 1 := pz_gj hE 1 (Nat.le_of_ble_eq_true rfl) rfl
  obtain ⟨i2a, i2b, i2c, i2d⟩ := pz_gi hE 2 2147483694 4294967295 (Nat.le_of_ble_eq_true rfl) rfl
  have c_kind : ay_at hp 8 7 = some (ρ 2) := ay_gfj hE 42 28 11 8 7 ax_m1 (ax_vlq rfl rfl) (ax_vlj rfl rfl)
  obtain ⟨-, -, -, -, F50⟩ : ay_ex hp 8 ∧ ay_ex hp 10 ∧ ay_ex hp 11 ∧ ay_ex hp 12 ∧ pz_x50 (ρ 0) (ρ 1) (ay_at hp 8 5) (ay_at hp 8 6) (ay_at hp 8 7) (ay_at hp 8 8) (ay_at hp 10 0) (ay_at hp 10 1) (ay_at hp 10 2) (ay_at hp 10 3) (ay_at hp 10 4) (ay_at hp 8 9) (ay_at hp 8 11) (ay_at hp 8 10) (ay_at hp 8 3) (ay_at hp 8 4) (ay_at hp 11) (ay_at hp 12) := (ax_XF_lt (x := 50) (Nat.le_of_ble_eq_true rfl)).mp (ax_gx hE (50, [3, 7]) ax_m0)
  rw [c_kind] at F50
  have F95 : pz95 (pz_gt (ρ 0)) (pz_gN (ρ 0)) ((ρ 1) / 4) := (ax_XF_lt (x := 95) (Nat.le_of_ble_eq_true rfl)).mp (ax_gx hE (95, [3, 7]) ax_m2)
  refine ⟨(fun y hy => by cases hy), _, List.mem_cons_self, ρ, fun _ _ => rfl, ax_px hE rfl (fun y hy => ?_)⟩
  cases List.mem_singleton.mp hy
  refine (ax_XF_lt (x := 94) (Nat.le_of_ble_eq_true rfl)).mpr ?_
  show pz94 (pz_gt (ρ 0)) (pz_gN (ρ 0)) ((ρ 1) / 4)
  have kd : ρ 2 / 4 = pz_kd (pz_gt (ρ 0)) (pz_gN (ρ 0)) (pz_p (pz_cf (pz_gt (ρ 0)) (pz_gN (ρ 0)) (ρ 1 / 4))) := F50.2.2.1
  exact pz_op_no (by omega) (by omega) F95

theorem axq_jo1 : ax_RO ax_wC ax_XC axu_jo1 := by
  intro ρ hp hE hT
  have j0 : ρ 0 % 4 = 1 := pz_gj hE 0 (Nat.le_of_ble_eq_true rfl) rfl
  have j1 : ρ 1 % 4 = 1 := pz_gj hE 1 (Nat.le_of_ble_eq_true rfl) rfl
  obtain ⟨i2a, i2b, i2c, i2d⟩ := pz_gi hE 2 2147483648 2147483657 (Nat.le_of_ble_eq_true rfl) rfl
  obtain ⟨i3a, i3b, i3c, i3d⟩ := pz_gi hE 3 2147483648 2147483657 (Nat.le_of_ble_eq_true rfl) rfl
  obtain ⟨-, -, -, -, F50⟩ : ay_ex hp 8 ∧ ay_ex hp 10 ∧ ay_ex hp 11 ∧ ay_ex hp 12 ∧ pz_x50 (ρ 0) (ρ 1) (ay_at hp 8 5) (ay_at hp 8 6) (ay_at hp 8 7) (ay_at hp 8 8) (ay_at hp 10 0) (ay_at hp 10 1) (ay_at hp 10 2) (ay_at hp 10 3) (ay_at hp 10 4) (ay_at hp 8 9) (ay_at hp 8 11) (ay_at hp 8 10) (ay_at hp 8 3) (ay_at hp 8 4) (ay_at hp 11) (ay_at hp 12) := (ax_XF_lt (x := 50) (Nat.le_of_ble_eq_true rfl)).mp (ax_gx hE (50, [3, 7]) ax_m0)
  refine ⟨(fun y hy => by cases hy), _, List.mem_cons_self, ρ, fun _ _ => rfl, ax_px hE rfl (fun y hy => ?_)⟩
  cases List.mem_singleton.mp hy
  refine (ax_XF_lt (x := 114) (Nat.le_of_ble_eq_true rfl)).mpr ?_
  show pz_x114 (ρ 0) (ρ 1) (ρ 2) (ρ 3) (0)
  intro j x y hj
  exact absurd (show 2 * j < 0 from hj) (by omega)

theorem axq_jo2 : ax_RO ax_wC ax_XC axu_jo2 := by
  intro ρ hp hE hT
  have j0 : ρ 0 % 4 = 1 := pz_gj hE 0 (Nat.le_of_ble_eq_true rfl) rfl
  have j1 : ρ 1 % 4 = 1 := pz_gj hE 1 (Nat.le_of_ble_eq_true rfl) rfl
  obtain ⟨i2a, i2b, i2c, i2d⟩ := pz_gi hE 2 2147483648 2147483657 (Nat.le_of_ble_eq_true rfl) rfl
  obtain ⟨i3a, i3b, i3c, i3d⟩ := pz_gi hE 3 2147483648 2147483657 (Nat.le_of_ble_eq_true rfl) rfl
  obtain ⟨i4a, i4b, i4c, i4d⟩ := pz_gi hE 4 2147483648 2147483687 (Nat.le_of_ble_eq_true rfl) rfl
  obtain ⟨i5a, i5b, i5c, i5d⟩ := pz_gi hE 5 0 4294967295 (Nat.le_of_ble_eq_true rfl) rfl
  obtain ⟨i6a, i6b, i6c, i6d⟩ := pz_gi hE 6 2147483648 2147483668 (Nat.le_of_ble_eq_true rfl) rfl
  obtain ⟨i7a, i7b, i7c, i7d⟩ := pz_gi hE 7 2147483648 2147483657 (Nat.le_of_ble_eq_true rfl) rfl
  obtain ⟨i8a, i8b, i8c, i8d⟩ := pz_gi hE 8 2147483648 2147483657 (Nat.le_of_ble_eq_true rfl) rfl
  have c_links : ay_at hp 10 1 = some (ρ 6) := ay_gfj hE 50 4 27 10 1 ax_m2 (ax_vlq rfl rfl) (ax_vlj rfl rfl)
  have r1 : (ρ 4 / 4 + 2147483648) % 4294967296 < (ρ 5 / 4 + 2147483648) % 4294967296 := pz_gc hE 2 19 23 (Nat.le_of_ble_eq_true rfl) ax_m4
  have c_fbegin : ay_at hp 10 6 = some (ρ 9) := ay_gfj hE 50 24 39 10 6 ax_m5 (ax_vlq rfl rfl) (ax_vlj rfl rfl)
  have r2 : (ρ 7 / 4 + 2147483648) % 4294967296 = (ρ 2 / 4 + 2147483648) % 4294967296 := pz_gc hE 0 31 11 (Nat.le_of_ble_eq_true rfl) ax_m7
  have c_ffinish : ay_at hp 10 7 = some (ρ 10) := ay_gfj hE 50 28 43 10 7 ax_m8 (ax_vlq rfl rfl) (ax_vlj rfl rfl)
  have r3 : (ρ 8 / 4 + 2147483648) % 4294967296 = (ρ 3 / 4 + 2147483648) % 4294967296 := pz_gc hE 0 35 15 (Nat.le_of_ble_eq_true rfl) ax_m10
  obtain ⟨-, F31⟩ : ay_ex hp 10 ∧ pz_x31 (ay_at hp 10 6) (ay_at hp 10 7) (ay_at hp 10 10) (ay_at hp 10 11) := (ax_XF_lt (x := 31) (Nat.le_of_ble_eq_true rfl)).mp (ax_gx hE (31, []) ax_m0)
  rw [c_fbegin] at F31
  rw [c_ffinish] at F31
  obtain ⟨-, -, -, -, F50⟩ : ay_ex hp 8 ∧ ay_ex hp 10 ∧ ay_ex hp 11 ∧ ay_ex hp 12 ∧ pz_x50 (ρ 0) (ρ 1) (ay_at hp 8 5) (ay_at hp 8 6) (ay_at hp 8 7) (ay_at hp 8 8) (ay_at hp 10 0) (ay_at hp 10 1) (ay_at hp 10 2) (ay_at hp 10 3) (ay_at hp 10 4) (ay_at hp 8 9) (ay_at hp 8 11) (ay_at hp 8 10) (ay_at hp 8 3) (ay_at hp 8 4) (ay_at hp 11) (ay_at hp 12) := (ax_XF_lt (x := 50) (Nat.le_of_ble_eq_true rfl)).mp (ax_gx hE (50, [3, 7]) ax_m1)
  rw [c_links] at F50
  refine ⟨(fun y hy => by cases hy), _, List.mem_cons_self, ρ, fun _ _ => rfl, ax_px hE rfl (fun y hy => ?_)⟩
  cases List.mem_singleton.mp hy
  refine (ax_XF_lt (x := 112) (Nat.le_of_ble_eq_true rfl)).mpr ?_
  show pz112 (pz_gt (ρ 0)) (pz_gN (ρ 0)) ((ρ 1) / 4) ((ρ 2) / 4) ((ρ 3) / 4)
  obtain ⟨r, g1, g2, g3⟩ := ay_mk hE 2 8 27 23 (by decide) (by decide)
  replace g1 : some (8 / 4 * (ρ 6 / 4) % 4294967296) = some r := g1
  have g1 := Option.some.inj g1
  replace g3 : ρ 5 = 4 * r := g3
  have el : ρ 6 / 4 = (pz_ls (pz_cf (pz_gt (ρ 0)) (pz_gN (ρ 0)) (ρ 1 / 4))).length := F50.2.2.2.2.2.1
  have h9 : ρ 9 = 54 := Option.some.inj F31.1
  have h10 : ρ 10 = 58 := Option.some.inj F31.2.1
  have cb : ay_at hp 11 (ρ 4 / 4) = some (ρ 7) := ay_gf hE 39 19 31 11 ax_m6 (by show ρ 9 / 4 - 2 = 11; rw [h9])
  have cf : ay_at hp 12 (ρ 4 / 4) = some (ρ 8) := ay_gf hE 43 19 35 12 ax_m9 (by show ρ 10 / 4 - 2 = 12; rw [h10])
  have hlt : ρ 4 / 4 / 2 < (pz_ls (pz_cf (pz_gt (ρ 0)) (pz_gN (ρ 0)) (ρ 1 / 4))).length := by omega
  obtain ⟨⟨x, y⟩, hl⟩ : ∃ z, (pz_ls (pz_cf (pz_gt (ρ 0)) (pz_gN (ρ 0)) (ρ 1 / 4)))[ρ 4 / 4 / 2]? = some z := ⟨_, List.getElem?_eq_getElem hlt⟩
  obtain ⟨l1, l2, l3, l4⟩ := F50.2.2.2.2.2.2.2.2.2.2.2.2.2.2 _ x y hl
  refine pz_jn_yes hl ?_
  by_cases hp2 : ρ 4 / 4 % 2 = 0
  · rw [show 2 * (ρ 4 / 4 / 2) = ρ 4 / 4 by omega] at l1 l2
    rw [cb] at l1
    rw [cf] at l2
    have l1 := Option.some.inj l1
    have l2 := Option.some.inj l2
    exact Or.inl ⟨by omega, by omega⟩
  · rw [show 2 * (ρ 4 / 4 / 2) + 1 = ρ 4 / 4 by omega] at l3 l4
    rw [cb] at l3
    rw [cf] at l4
    have l3 := Option.some.inj l3
    have l4 := Option.some.inj l4
    exact Or.inr ⟨by omega, by omega⟩

theorem axq_jo3 : ax_RO ax_wC ax_XC axu_jo3 := by
  intro ρ hp hE hT
  have j0 : ρ 0 % 4 = 1 := pz_gj hE 0 (Nat.le_of_ble_eq_true rfl) rfl
  have j1 : ρ 1 % 4 = 1 := pz_gj hE 1 (Nat.le_of_ble_eq_true rfl) rfl
  obtain ⟨i2a, i2b, i2c, i2d⟩ := pz_gi hE 2 2147483648 2147483657 (Nat.le_of_ble_eq_true rfl) rfl
  obtain ⟨i3a, i3b, i3c, i3d⟩ := pz_gi hE 3 2147483648 2147483657 (Nat.le_of_ble_eq_true rfl) rfl
  obtain ⟨i4a, i4b, i4c, i4d⟩ := pz_gi hE 4 2147483648 2147483687 (Nat.le_of_ble_eq_true rfl) rfl
  obtain ⟨i5a, i5b, i5c, i5d⟩ := pz_gi hE 5 0 4294967295 (Nat.le_of_ble_eq_true rfl) rfl
  obtain ⟨i6a, i6b, i6c, i6d⟩ := pz_gi hE 6 2147483648 2147483657 (Nat.le_of_ble_eq_true rfl) rfl
  have s1 : (ρ 4 / 4 + 2147483648) % 4294967296 + (4 / 4 + 2147483648) % 4294967296 = (ρ 5 / 4 + 2147483648) % 4294967296 + 2147483648 := pz_gs hE 19 4 23 ax_m3
  have c_fbegin : ay_at hp 10 6 = some (ρ 7) := ay_gfj hE 50 24 31 10 6 ax_m4 (ax_vlq rfl rfl) (ax_vlj rfl rfl)
  have r1 : (ρ 6 / 4 + 2147483648) % 4294967296 ≠ (ρ 2 / 4 + 2147483648) % 4294967296 := pz_gc hE 1 27 11 (Nat.le_of_ble_eq_true rfl) ax_m6
  obtain ⟨-, F31⟩ : ay_ex hp 10 ∧ pz_x31 (ay_at hp 10 6) (ay_at hp 10 7) (ay_at hp 10 10) (ay_at hp 10 11) := (ax_XF_lt (x := 31) (Nat.le_of_ble_eq_true rfl)).mp (ax_gx hE (31, []) ax_m0)
  rw [c_fbegin] at F31
  obtain ⟨-, -, -, -, F50⟩ : ay_ex hp 8 ∧ ay_ex hp 10 ∧ ay_ex hp 11 ∧ ay_ex hp 12 ∧ pz_x50 (ρ 0) (ρ 1) (ay_at hp 8 5) (ay_at hp 8 6) (ay_at hp 8 7) (ay_at hp 8 8) (ay_at hp 10 0) (ay_at hp 10 1) (ay_at hp 10 2) (ay_at hp 10 3) (ay_at hp 10 4) (ay_at hp 8 9) (ay_at hp 8 11) (ay_at hp 8 10) (ay_at hp 8 3) (ay_at hp 8 4) (ay_at hp 11) (ay_at hp 12) := (ax_XF_lt (x := 50) (Nat.le_of_ble_eq_true rfl)).mp (ax_gx hE (50, [3, 7]) ax_m1)
  have F114 : pz_x114 (ρ 0) (ρ 1) (ρ 2) (ρ 3) (ρ 4) := (ax_XF_lt (x := 114) (Nat.le_of_ble_eq_true rfl)).mp (ax_gx hE (114, [3, 7, 11, 15, 19]) ax_m2)
  refine ⟨(fun y hy => by cases hy), _, List.mem_cons_self, ρ, fun _ _ => rfl, ax_px hE rfl (fun y hy => ?_)⟩
  cases List.mem_singleton.mp hy
  refine (ax_XF_lt (x := 114) (Nat.le_of_ble_eq_true rfl)).mpr ?_
  show pz_x114 (ρ 0) (ρ 1) (ρ 2) (ρ 3) (ρ 5)
  have h7 : ρ 7 = 54 := Option.some.inj F31.1
  have cb : ay_at hp 11 (ρ 4 / 4) = some (ρ 6) := ay_gf hE 31 19 27 11 ax_m5 (by show ρ 7 / 4 - 2 = 11; rw [h7])
  intro j x y hj hl
  replace hj : 2 * j < ρ 5 / 4 := hj
  have g := F114 j x y
  obtain ⟨l1, l2, l3, l4⟩ := F50.2.2.2.2.2.2.2.2.2.2.2.2.2.2 j x y hl
  refine ⟨fun z => ?_, fun hj2 z => ?_⟩
  · by_cases h : 2 * j < ρ 4 / 4
    · exact (g h hl).1 z
    · rw [show ρ 4 / 4 = 2 * j by omega, l1] at cb
      have cb := Option.some.inj cb
      omega
  · replace hj2 : 2 * j + 1 < ρ 5 / 4 := hj2
    by_cases h : 2 * j + 1 < ρ 4 / 4
    · exact (g (by omega) hl).2 h z
    · rw [show ρ 4 / 4 = 2 * j + 1 by omega, l3] at cb
      have cb := Option.some.inj cb
      omega

theorem axq_jo4 : ax_RO ax_wC ax_XC axu_jo4 := by
  intro ρ hp hE hT
  have j0 : ρ 0 % 4 = 1 := pz_gj hE 0 (Nat.le_of_ble_eq_true rfl) rfl
  have j1 : ρ 1 % 4 = 1 := pz_gj hE 1 (Nat.le_of_ble_eq_true rfl) rfl
  obtain ⟨i2a, i2b, i2c, i2d⟩ := pz_gi hE 2 2147483648 2147483657 (Nat.le_of_ble_eq_true rfl) rfl
  obtain ⟨i3a, i3b, i3c, i3d⟩ := pz_gi hE 3 2147483648 2147483657 (Nat.le_of_ble_eq_true rfl) rfl
  obtain ⟨i4a, i4b, i4c, i4d⟩ := pz_gi hE 4 2147483648 2147483687 (Nat.le_of_ble_eq_true rfl) rfl
  obtain ⟨i5a, i5b, i5c, i5d⟩ := pz_gi hE 5 0 4294967295 (Nat.le_of_ble_eq_true rfl) rfl
  obtain ⟨i6a, i6b, i6c, i6d⟩ := pz_gi hE 6 2147483648 2147483657 (Nat.le_of_ble_eq_true rfl) rfl
  have s1 : (ρ 4 / 4 + 2147483648) % 4294967296 + (4 / 4 + 2147483648) % 4294967296 = (ρ 5 / 4 + 2147483648) % 4294967296 + 2147483648 := pz_gs hE 19 4 23 ax_m3
  have c_ffinish : ay_at hp 10 7 = some (ρ 7) := ay_gfj hE 50 28 31 10 7 ax_m4 (ax_vlq rfl rfl) (ax_vlj rfl rfl)
  have r1 : (ρ 6 / 4 + 2147483648) % 4294967296 ≠ (ρ 3 / 4 + 2147483648) % 4294967296 := pz_gc hE 1 27 15 (Nat.le_of_ble_eq_true rfl) ax_m6
  obtain ⟨-, F31⟩ : ay_ex hp 10 ∧ pz_x31 (ay_at hp 10 6) (ay_at hp 10 7) (ay_at hp 10 10) (ay_at hp 10 11) := (ax_XF_lt (x := 31) (Nat.le_of_ble_eq_true rfl)).mp (ax_gx hE (31, []) ax_m0)
  rw [c_ffinish] at F31
  obtain ⟨-, -, -, -, F50⟩ : ay_ex hp 8 ∧ ay_ex hp 10 ∧ ay_ex hp 11 ∧ ay_ex hp 12 ∧ pz_x50 (ρ 0) (ρ 1) (ay_at hp 8 5) (ay_at hp 8 6) (ay_at hp 8 7) (ay_at hp 8 8) (ay_at hp 10 0) (ay_at hp 10 1) (ay_at hp 10 2) (ay_at hp 10 3) (ay_at hp 10 4) (ay_at hp 8 9) (ay_at hp 8 11) (ay_at hp 8 10) (ay_at hp 8 3) (ay_at hp 8 4) (ay_at hp 11) (ay_at hp 12) := (ax_XF_lt (x := 50) (Nat.le_of_ble_eq_true rfl)).mp (ax_gx hE (50, [3, 7]) ax_m1)
  have F114 : pz_x114 (ρ 0) (ρ 1) (ρ 2) (ρ 3) (ρ 4) := (ax_XF_lt (x := 114) (Nat.le_of_ble_eq_true rfl)).mp (ax_gx hE (114, [3, 7, 11, 15, 19]) ax_m2)
  refine ⟨(fun y hy => by cases hy), _, List.mem_cons_self, ρ, fun _ _ => rfl, ax_px hE rfl (fun y hy => ?_)⟩
  cases List.mem_singleton.mp hy
  refine (ax_XF_lt (x := 114) (Nat.le_of_ble_eq_true rfl)).mpr ?_
  show pz_x114 (ρ 0) (ρ 1) (ρ 2) (ρ 3) (ρ 5)
  have h7 : ρ 7 = 58 := Option.some.inj F31.2.1
  have cb : ay_at hp 12 (ρ 4 / 4) = some (ρ 6) := ay_gf hE 31 19 27 12 ax_m5 (by show ρ 7 / 4 - 2 = 12; rw [h7])
  intro j x y hj hl
  replace hj : 2 * j < ρ 5 / 4 := hj
  have g := F114 j x y
  obtain ⟨l1, l2, l3, l4⟩ := F50.2.2.2.2.2.2.2.2.2.2.2.2.2.2 j x y hl
  refine ⟨fun z => ?_, fun hj2 z => ?_⟩
  · by_cases h : 2 * j < ρ 4 / 4
    · exact (g h hl).1 z
    · rw [show ρ 4 / 4 = 2 * j by omega, l2] at cb
      have cb := Option.some.inj cb
      omega
  · replace hj2 : 2 * j + 1 < ρ 5 / 4 := hj2
    by_cases h : 2 * j + 1 < ρ 4 / 4
    · exact (g (by omega) hl).2 h z
    · rw [show ρ 4 / 4 = 2 * j + 1 by omega, l4] at cb
      have cb := Option.some.inj cb
      omega

theorem axq_jo5 : ax_RO ax_wC ax_XC axu_jo5 := by
  intro ρ hp hE hT
  have j0 : ρ 0 % 4 = 1 := pz_gj hE 0 (Nat.le_of_ble_eq_true rfl) rfl
  have j1 : ρ 1 % 4 = 1 := pz_gj hE 1 (Nat.le_of_ble_eq_true rfl) rfl
  obtain ⟨i2a, i2b, i2c, i2d⟩ := pz_gi hE 2 2147483648 2147483657 (Nat.le_of_ble_eq_true rfl) rfl
  obtain ⟨i3a, i3b, i3c, i3d⟩ := pz_gi hE 3 2147483648 2147483657 (Nat.le_of_ble_eq_true rfl) rfl
  obtain ⟨i4a, i4b, i4c, i4d⟩ := pz_gi hE 4 2147483648 2147483688 (Nat.le_of_ble_eq_true rfl) rfl
  obtain ⟨i5a, i5b, i5c, i5d⟩ := pz_gi hE 5 0 4294967295 (Nat.le_of_ble_eq_true rfl) rfl
  obtain ⟨i6a, i6b, i6c, i6d⟩ := pz_gi hE 6 2147483648 2147483668 (Nat.le_of_ble_eq_true rfl) rfl
  have c_links : ay_at hp 10 1 = some (ρ 6) := ay_gfj hE 50 4 27 10 1 ax_m2 (ax_vlq rfl rfl) (ax_vlj rfl rfl)
  have r1 : (ρ 5 / 4 + 2147483648) % 4294967296 ≤ (ρ 4 / 4 + 2147483648) % 4294967296 := pz_gc hE 3 19 23 (Nat.le_of_ble_eq_true rfl) ax_m4
  obtain ⟨-, -, -, -, F50⟩ : ay_ex hp 8 ∧ ay_ex hp 10 ∧ ay_ex hp 11 ∧ ay_ex hp 12 ∧ pz_x50 (ρ 0) (ρ 1) (ay_at hp 8 5) (ay_at hp 8 6) (ay_at hp 8 7) (ay_at hp 8 8) (ay_at hp 10 0) (ay_at hp 10 1) (ay_at hp 10 2) (ay_at hp 10 3) (ay_at hp 10 4) (ay_at hp 8 9) (ay_at hp 8 11) (ay_at hp 8 10) (ay_at hp 8 3) (ay_at hp 8 4) (ay_at hp 11) (ay_at hp 12) := (ax_XF_lt (x := 50) (Nat.le_of_ble_eq_true rfl)).mp (ax_gx hE (50, [3, 7]) ax_m0)
  rw [c_links] at F50
  have F114 : pz_x114 (ρ 0) (ρ 1) (ρ 2) (ρ 3) (ρ 4) := (ax_XF_lt (x := 114) (Nat.le_of_ble_eq_true rfl)).mp (ax_gx hE (114, [3, 7, 11, 15, 19]) ax_m1)
  refine ⟨(fun y hy => by cases hy), _, List.mem_cons_self, ρ, fun _ _ => rfl, ax_px hE rfl (fun y hy => ?_)⟩
  cases List.mem_singleton.mp hy
  refine (ax_XF_lt (x := 113) (Nat.le_of_ble_eq_true rfl)).mpr ?_
  show pz113 (pz_gt (ρ 0)) (pz_gN (ρ 0)) ((ρ 1) / 4) ((ρ 2) / 4) ((ρ 3) / 4)
  obtain ⟨r, g1, g2, g3⟩ := ay_mk hE 2 8 27 23 (by decide) (by decide)
  replace g1 : some (8 / 4 * (ρ 6 / 4) % 4294967296) = some r := g1
  have g1 := Option.some.inj g1
  replace g3 : ρ 5 = 4 * r := g3
  have el : ρ 6 / 4 = (pz_ls (pz_cf (pz_gt (ρ 0)) (pz_gN (ρ 0)) (ρ 1 / 4))).length := F50.2.2.2.2.2.1
  refine pz_jn_no (fun j x y hl => ?_)
  have hlt := (List.getElem?_eq_some_iff.mp hl).1
  have g := F114 j x y (show 2 * j < ρ 4 / 4 by omega) hl
  exact ⟨g.1, g.2 (show 2 * j + 1 < ρ 4 / 4 by omega)⟩

theorem axq_al1 : ax_RO ax_wC ax_XC axu_al1 := by
  intro ρ hp hE hT
  have j0 : ρ 0 % 4 = 1 := pz_gj hE 0 (Nat.le_of_ble_eq_true rfl) rfl
  have j1 : ρ 1 % 4 = 1 := pz_gj hE 1 (Nat.le_of_ble_eq_true rfl) rfl
  obtain ⟨i2a, i2b, i2c, i2d⟩ := pz_gi hE 2 2147483648 2147483657 (Nat.le_of_ble_eq_true rfl) rfl
  obtain ⟨i3a, i3b, i3c, i3d⟩ := pz_gi hE 3 2147483648 2147483657 (Nat.le_of_ble_eq_true rfl) rfl
  obtain ⟨i4a, i4b, i4c, i4d⟩ := pz_gi hE 4 2147483648 2147483667 (Nat.le_of_ble_eq_true rfl) rfl
  obtain ⟨i5a, i5b, i5c, i5d⟩ := pz_gi hE 5 0 4294967295 (Nat.le_of_ble_eq_true rfl) rfl
  have c_fbegin : ay_at hp 10 6 = some (ρ 6) := ay_gfj hE 50 24 27 10 6 ax_m2 (ax_vlq rfl rfl) (ax_vlj rfl rfl)
  have c_links : ay_at hp 10 1 = some (ρ 4) := ay_gfj hE 50 4 19 10 1 ax_m3 (ax_vlq rfl rfl) (ax_vlj rfl rfl)
  have r1 : (ρ 3 / 4 + 2147483648) % 4294967296 ≠ (ρ 2 / 4 + 2147483648) % 4294967296 := pz_gc hE 1 15 11 (Nat.le_of_ble_eq_true rfl) ax_m9
  obtain ⟨-, F31⟩ : ay_ex hp 10 ∧ pz_x31 (ay_at hp 10 6) (ay_at hp 10 7) (ay_at hp 10 10) (ay_at hp 10 11) := (ax_XF_lt (x := 31) (Nat.le_of_ble_eq_true rfl)).mp (ax_gx hE (31, []) ax_m1)
  rw [c_fbegin] at F31
  obtain ⟨-, -, -, -, F50⟩ : ay_ex hp 8 ∧ ay_ex hp 10 ∧ ay_ex hp 11 ∧ ay_ex hp 12 ∧ pz_x50 (ρ 0) (ρ 1) (ay_at hp 8 5) (ay_at hp 8 6) (ay_at hp 8 7) (ay_at hp 8 8) (ay_at hp 10 0) (ay_at hp 10 1) (ay_at hp 10 2) (ay_at hp 10 3) (ay_at hp 10 4) (ay_at hp 8 9) (ay_at hp 8 11) (ay_at hp 8 10) (ay_at hp 8 3) (ay_at hp 8 4) (ay_at hp 11) (ay_at hp 12) := (ax_XF_lt (x := 50) (Nat.le_of_ble_eq_true rfl)).mp (ax_gx hE (50, [3, 7]) ax_m4)
  rw [c_links] at F50
  have F75 : pz7 (pz_gt (ρ 0)) (pz_gN (ρ 0)) ((ρ 1) / 4) 5 := (ax_XF_lt (x := 75) (Nat.le_of_ble_eq_true rfl)).mp (ax_gx hE (75, [3, 7]) ax_m5)
  have F67 : pz67 (pz_gt (ρ 0)) (pz_gN (ρ 0)) ((ρ 1) / 4) ((ρ 2) / 4) := (ax_XF_lt (x := 67) (Nat.le_of_ble_eq_true rfl)).mp (ax_gx hE (67, [3, 7, 11]) ax_m6)
  have F104 : pz104 (pz_gt (ρ 0)) (pz_gN (ρ 0)) ((ρ 1) / 4) ((ρ 3) / 4) := (ax_XF_lt (x := 104) (Nat.le_of_ble_eq_true rfl)).mp (ax_gx hE (104, [3, 7, 15]) ax_m7)
  have F113 : pz113 (pz_gt (ρ 0)) (pz_gN (ρ 0)) ((ρ 1) / 4) ((ρ 2) / 4) ((ρ 3) / 4) := (ax_XF_lt (x := 113) (Nat.le_of_ble_eq_true rfl)).mp (ax_gx hE (113, [3, 7, 11, 15]) ax_m8)
  have h6 : ρ 6 = 54 := Option.some.inj F31.1
  obtain ⟨r, g1, g2, g3⟩ := ay_mk hE 2 8 19 23 (by decide) (by decide)
  replace g1 : some (8 / 4 * (ρ 4 / 4) % 4294967296) = some r := g1
  have g1 := Option.some.inj g1
  replace g3 : ρ 5 = 4 * r := g3
  refine ⟨(fun y hy => by cases hy), _, List.mem_cons_self, ρ, fun _ _ => rfl, ax_px hE rfl (fun y hy => ?_)⟩
  cases List.mem_singleton.mp hy
  refine (ax_XF_wr (x := 116) (Nat.le_of_ble_eq_true rfl)).mpr ?_
  show ay_ex (ax_upd hp (ρ 6) (ρ 5) (ρ 2)) 8 ∧ ay_ex (ax_upd hp (ρ 6) (ρ 5) (ρ 2)) 10 ∧ ay_ex (ax_upd hp (ρ 6) (ρ 5) (ρ 2)) 11 ∧ ay_ex (ax_upd hp (ρ 6) (ρ 5) (ρ 2)) 12 ∧ pz_xal 1 (ρ 0) (ρ 1) (ρ 2) (ρ 3) (ρ 4) (ay_at (ax_upd hp (ρ 6) (ρ 5) (ρ 2)) 8 5) (ay_at (ax_upd hp (ρ 6) (ρ 5) (ρ 2)) 10 0) (ay_at (ax_upd hp (ρ 6) (ρ 5) (ρ 2)) 10 1) (ay_at (ax_upd hp (ρ 6) (ρ 5) (ρ 2)) 10 2) (ay_at (ax_upd hp (ρ 6) (ρ 5) (ρ 2)) 10 3) (ay_at (ax_upd hp (ρ 6) (ρ 5) (ρ 2)) 10 4) (ay_at (ax_upd hp (ρ 6) (ρ 5) (ρ 2)) 8 9) (ay_at (ax_upd hp (ρ 6) (ρ 5) (ρ 2)) 8 11) (ay_at (ax_upd hp (ρ 6) (ρ 5) (ρ 2)) 8 10) (ay_at (ax_upd hp (ρ 6) (ρ 5) (ρ 2)) 8 3) (ay_at (ax_upd hp (ρ 6) (ρ 5) (ρ 2)) 8 4) (ay_at (ax_upd hp (ρ 6) (ρ 5) (ρ 2)) 11) (ay_at (ax_upd hp (ρ 6) (ρ 5) (ρ 2)) 12)
  rw [h6]
  obtain ⟨o0, ho0⟩ := ay_some hT (q := 11) (g := 14) (n := 40) rfl rfl (j := ρ 5 / 4) (by omega)
  have u1 : ∀ q, q ≠ 11 → ay_at (ax_upd hp 54 (ρ 5) (ρ 2)) q = ay_at hp q := fun q hq => funext (fun j => ay_upd_ne hT.1 hq j)
  have u2 : ∀ j, ay_at (ax_upd hp 54 (ρ 5) (ρ 2)) 11 j = if j = ρ 5 / 4 then some (ρ 2) else ay_at hp 11 j := fun j => ay_upd_eq hT.1 rfl ho0 j
  refine ⟨ay_ex_upd hT.1 (ax_cellT hT (q := 8) (g := 2) rfl), ay_ex_upd hT.1 (ax_cellT hT (q := 10) (g := 1) rfl), ay_ex_upd hT.1 (ax_cellT hT (q := 11) (g := 14) rfl), ay_ex_upd hT.1 (ax_cellT hT (q := 12) (g := 15) rfl), ?_⟩
  rw [u1 8 (Nat.ne_of_beq_eq_false rfl), u1 10 (Nat.ne_of_beq_eq_false rfl), u1 12 (Nat.ne_of_beq_eq_false rfl)]
  rw [c_links]
  have hi : ρ 5 / 4 = 2 * (ρ 4 / 4) := by omega
  have hv : ρ 2 = 4 * (ρ 2 / 4) := by omega
  have el : ρ 4 / 4 = ρ 4 / 4 := rfl
  exact ⟨F50.1, rfl, F75, F67, F104, by omega, F113, pz_dt_x F50.2.2.2.2 (fun j hj => by replace hj : j < 2 * (ρ 4 / 4) := hj; rw [u2, if_neg (by omega)]) (fun _ _ => rfl), by rw [u2, if_pos hi.symm]; exact congrArg some hv, fun z => absurd z (by decide), fun z => absurd z (by decide), fun z => absurd z (by decide)⟩

theorem axq_al2 : ax_RO ax_wC ax_XC axu_al2 := by
  intro ρ hp hE hT
  have j0 : ρ 0 % 4 = 1 := pz_gj hE 0 (Nat.le_of_ble_eq_true rfl) rfl
  have j1 : ρ 1 % 4 = 1 := pz_gj hE 1 (Nat.le_of_ble_eq_true rfl) rfl
  obtain ⟨i2a, i2b, i2c, i2d⟩ := pz_gi hE 2 2147483648 2147483657 (Nat.le_of_ble_eq_true rfl) rfl
  obtain ⟨i3a, i3b, i3c, i3d⟩ := pz_gi hE 3 2147483648 2147483657 (Nat.le_of_ble_eq_true rfl) rfl
  obtain ⟨i4a, i4b, i4c, i4d⟩ := pz_gi hE 4 2147483648 2147483667 (Nat.le_of_ble_eq_true rfl) rfl
  obtain ⟨i5a, i5b, i5c, i5d⟩ := pz_gi hE 5 0 4294967295 (Nat.le_of_ble_eq_true rfl) rfl
  have c_ffinish : ay_at hp 10 7 = some (ρ 6) := ay_gfj hE 50 28 27 10 7 ax_m2 (ax_vlq rfl rfl) (ax_vlj rfl rfl)
  obtain ⟨-, F31⟩ : ay_ex hp 10 ∧ pz_x31 (ay_at hp 10 6) (ay_at hp 10 7) (ay_at hp 10 10) (ay_at hp 10 11) := (ax_XF_lt (x := 31) (Nat.le_of_ble_eq_true rfl)).mp (ax_gx hE (31, []) ax_m1)
  rw [c_ffinish] at F31
  obtain ⟨-, -, -, -, F116⟩ : ay_ex hp 8 ∧ ay_ex hp 10 ∧ ay_ex hp 11 ∧ ay_ex hp 12 ∧ pz_xal 1 (ρ 0) (ρ 1) (ρ 2) (ρ 3) (ρ 4) (ay_at hp 8 5) (ay_at hp 10 0) (ay_at hp 10 1) (ay_at hp 10 2) (ay_at hp 10 3) (ay_at hp 10 4) (ay_at hp 8 9) (ay_at hp 8 11) (ay_at hp 8 10) (ay_at hp 8 3) (ay_at hp 8 4) (ay_at hp 11) (ay_at hp 12) := (ax_XF_lt (x := 116) (Nat.le_of_ble_eq_true rfl)).mp (ax_gx hE (116, [3, 7, 11, 15, 19]) ax_m3)
  have h6 : ρ 6 = 58 := Option.some.inj F31.2.1
  obtain ⟨r, g1, g2, g3⟩ := ay_mk hE 2 8 19 23 (by decide) (by decide)
  replace g1 : some (8 / 4 * (ρ 4 / 4) % 4294967296) = some r := g1
  have g1 := Option.some.inj g1
  replace g3 : ρ 5 = 4 * r := g3
  refine ⟨(fun y hy => by cases hy), _, List.mem_cons_self, ρ, fun _ _ => rfl, ax_px hE rfl (fun y hy => ?_)⟩
  cases List.mem_singleton.mp hy
  refine (ax_XF_wr (x := 117) (Nat.le_of_ble_eq_true rfl)).mpr ?_
  show ay_ex (ax_upd hp (ρ 6) (ρ 5) (ρ 3)) 8 ∧ ay_ex (ax_upd hp (ρ 6) (ρ 5) (ρ 3)) 10 ∧ ay_ex (ax_upd hp (ρ 6) (ρ 5) (ρ 3)) 11 ∧ ay_ex (ax_upd hp (ρ 6) (ρ 5) (ρ 3)) 12 ∧ pz_xal 2 (ρ 0) (ρ 1) (ρ 2) (ρ 3) (ρ 4) (ay_at (ax_upd hp (ρ 6) (ρ 5) (ρ 3)) 8 5) (ay_at (ax_upd hp (ρ 6) (ρ 5) (ρ 3)) 10 0) (ay_at (ax_upd hp (ρ 6) (ρ 5) (ρ 3)) 10 1) (ay_at (ax_upd hp (ρ 6) (ρ 5) (ρ 3)) 10 2) (ay_at (ax_upd hp (ρ 6) (ρ 5) (ρ 3)) 10 3) (ay_at (ax_upd hp (ρ 6) (ρ 5) (ρ 3)) 10 4) (ay_at (ax_upd hp (ρ 6) (ρ 5) (ρ 3)) 8 9) (ay_at (ax_upd hp (ρ 6) (ρ 5) (ρ 3)) 8 11) (ay_at (ax_upd hp (ρ 6) (ρ 5) (ρ 3)) 8 10) (ay_at (ax_upd hp (ρ 6) (ρ 5) (ρ 3)) 8 3) (ay_at (ax_upd hp (ρ 6) (ρ 5) (ρ 3)) 8 4) (ay_at (ax_upd hp (ρ 6) (ρ 5) (ρ 3)) 11) (ay_at (ax_upd hp (ρ 6) (ρ 5) (ρ 3)) 12)
  rw [h6]
  obtain ⟨o0, ho0⟩ := ay_some hT (q := 12) (g := 15) (n := 40) rfl rfl (j := ρ 5 / 4) (by omega)
  have u1 : ∀ q, q ≠ 12 → ay_at (ax_upd hp 58 (ρ 5) (ρ 3)) q = ay_at hp q := fun q hq => funext (fun j => ay_upd_ne hT.1 hq j)
  have u2 : ∀ j, ay_at (ax_upd hp 58 (ρ 5) (ρ 3)) 12 j = if j = ρ 5 / 4 then some (ρ 3) else ay_at hp 12 j := fun j => ay_upd_eq hT.1 rfl ho0 j
  refine ⟨ay_ex_upd hT.1 (ax_cellT hT (q := 8) (g := 2) rfl), ay_ex_upd hT.1 (ax_cellT hT (q := 10) (g := 1) rfl), ay_ex_upd hT.1 (ax_cellT hT (q := 11) (g := 14) rfl), ay_ex_upd hT.1 (ax_cellT hT (q := 12) (g := 15) rfl), ?_⟩
  rw [u1 8 (Nat.ne_of_beq_eq_false rfl), u1 10 (Nat.ne_of_beq_eq_false rfl), u1 11 (Nat.ne_of_beq_eq_false rfl)]
  have hi : ρ 5 / 4 = 2 * (ρ 4 / 4) := by omega
  have hv : ρ 3 = 4 * (ρ 3 / 4) := by omega
  obtain ⟨a1, a2, a3, a4, a5, a6, a7, a8, b1, b2, b3, b4⟩ := F116
  exact ⟨a1, a2, a3, a4, a5, a6, a7, pz_dt_x a8 (fun _ _ => rfl) (fun j hj => by rw [a2] at hj; rw [u2, if_neg (by omega)]), b1, fun _ => by rw [u2, if_pos hi.symm]; exact congrArg some hv, fun z => absurd z (by decide), fun z => absurd z (by decide)⟩

theorem axq_al3 : ax_RO ax_wC ax_XC axu_al3 := by
  intro ρ hp hE hT
  have j0 : ρ 0 % 4 = 1 := pz_gj hE 0 (Nat.le_of_ble_eq_true rfl) rfl
  have j1 : ρ 1 % 4 = 1 := pz_gj hE 1 (Nat.le_of_ble_eq_true rfl) rfl
  obtain ⟨i2a, i2b, i2c, i2d⟩ := pz_gi hE 2 2147483648 2147483657 (Nat.le_of_ble_eq_true rfl) rfl
  obtain ⟨i3a, i3b, i3c, i3d⟩ := pz_gi hE 3 2147483648 2147483657 (Nat.le_of_ble_eq_true rfl) rfl
  obtain ⟨i4a, i4b, i4c, i4d⟩ := pz_gi hE 4 2147483648 2147483667 (Nat.le_of_ble_eq_true rfl) rfl
  obtain ⟨i5a, i5b, i5c, i5d⟩ := pz_gi hE 5 0 4294967295 (Nat.le_of_ble_eq_true rfl) rfl
  obtain ⟨i7a, i7b, i7c, i7d⟩ := pz_gi hE 7 0 4294967295 (Nat.le_of_ble_eq_true rfl) rfl
  have c_fbegin : ay_at hp 10 6 = some (ρ 6) := ay_gfj hE 50 24 27 10 6 ax_m2 (ax_vlq rfl rfl) (ax_vlj rfl rfl)
  have s1 : (ρ 5 / 4 + 2147483648) % 4294967296 + (4 / 4 + 2147483648) % 4294967296 = (ρ 7 / 4 + 2147483648) % 4294967296 + 2147483648 := pz_gs hE 23 4 31 ax_m3
  obtain ⟨-, F31⟩ : ay_ex hp 10 ∧ pz_x31 (ay_at hp 10 6) (ay_at hp 10 7) (ay_at hp 10 10) (ay_at hp 10 11) := (ax_XF_lt (x := 31) (Nat.le_of_ble_eq_true rfl)).mp (ax_gx hE (31, []) ax_m1)
  rw [c_fbegin] at F31
  obtain ⟨-, -, -, -, F117⟩ : ay_ex hp 8 ∧ ay_ex hp 10 ∧ ay_ex hp 11 ∧ ay_ex hp 12 ∧ pz_xal 2 (ρ 0) (ρ 1) (ρ 2) (ρ 3) (ρ 4) (ay_at hp 8 5) (ay_at hp 10 0) (ay_at hp 10 1) (ay_at hp 10 2) (ay_at hp 10 3) (ay_at hp 10 4) (ay_at hp 8 9) (ay_at hp 8 11) (ay_at hp 8 10) (ay_at hp 8 3) (ay_at hp 8 4) (ay_at hp 11) (ay_at hp 12) := (ax_XF_lt (x := 117) (Nat.le_of_ble_eq_true rfl)).mp (ax_gx hE (117, [3, 7, 11, 15, 19]) ax_m4)
  have h6 : ρ 6 = 54 := Option.some.inj F31.1
  obtain ⟨r, g1, g2, g3⟩ := ay_mk hE 2 8 19 23 (by decide) (by decide)
  replace g1 : some (8 / 4 * (ρ 4 / 4) % 4294967296) = some r := g1
  have g1 := Option.some.inj g1
  replace g3 : ρ 5 = 4 * r := g3
  refine ⟨(fun y hy => by cases hy), _, List.mem_cons_self, ρ, fun _ _ => rfl, ax_px hE rfl (fun y hy => ?_)⟩
  cases List.mem_singleton.mp hy
  refine (ax_XF_wr (x := 118) (Nat.le_of_ble_eq_true rfl)).mpr ?_
  show ay_ex (ax_upd hp (ρ 6) (ρ 7) (ρ 3)) 8 ∧ ay_ex (ax_upd hp (ρ 6) (ρ 7) (ρ 3)) 10 ∧ ay_ex (ax_upd hp (ρ 6) (ρ 7) (ρ 3)) 11 ∧ ay_ex (ax_upd hp (ρ 6) (ρ 7) (ρ 3)) 12 ∧ pz_xal 3 (ρ 0) (ρ 1) (ρ 2) (ρ 3) (ρ 4) (ay_at (ax_upd hp (ρ 6) (ρ 7) (ρ 3)) 8 5) (ay_at (ax_upd hp (ρ 6) (ρ 7) (ρ 3)) 10 0) (ay_at (ax_upd hp (ρ 6) (ρ 7) (ρ 3)) 10 1) (ay_at (ax_upd hp (ρ 6) (ρ 7) (ρ 3)) 10 2) (ay_at (ax_upd hp (ρ 6) (ρ 7) (ρ 3)) 10 3) (ay_at (ax_upd hp (ρ 6) (ρ 7) (ρ 3)) 10 4) (ay_at (ax_upd hp (ρ 6) (ρ 7) (ρ 3)) 8 9) (ay_at (ax_upd hp (ρ 6) (ρ 7) (ρ 3)) 8 11) (ay_at (ax_upd hp (ρ 6) (ρ 7) (ρ 3)) 8 10) (ay_at (ax_upd hp (ρ 6) (ρ 7) (ρ 3)) 8 3) (ay_at (ax_upd hp (ρ 6) (ρ 7) (ρ 3)) 8 4) (ay_at (ax_upd hp (ρ 6) (ρ 7) (ρ 3)) 11) (ay_at (ax_upd hp (ρ 6) (ρ 7) (ρ 3)) 12)
  rw [h6]
  obtain ⟨o0, ho0⟩ := ay_some hT (q := 11) (g := 14) (n := 40) rfl rfl (j := ρ 7 / 4) (by omega)
  have u1 : ∀ q, q ≠ 11 → ay_at (ax_upd hp 54 (ρ 7) (ρ 3)) q = ay_at hp q := fun q hq => funext (fun j => ay_upd_ne hT.1 hq j)
  have u2 : ∀ j, ay_at (ax_upd hp 54 (ρ 7) (ρ 3)) 11 j = if j = ρ 7 / 4 then some (ρ 3) else ay_at hp 11 j := fun j => ay_upd_eq hT.1 rfl ho0 j
  refine ⟨ay_ex_upd hT.1 (ax_cellT hT (q := 8) (g := 2) rfl), ay_ex_upd hT.1 (ax_cellT hT (q := 10) (g := 1) rfl), ay_ex_upd hT.1 (ax_cellT hT (q := 11) (g := 14) rfl), ay_ex_upd hT.1 (ax_cellT hT (q := 12) (g := 15) rfl), ?_⟩
  rw [u1 8 (Nat.ne_of_beq_eq_false rfl), u1 10 (Nat.ne_of_beq_eq_false rfl), u1 12 (Nat.ne_of_beq_eq_false rfl)]
  have hi : ρ 7 / 4 = 2 * (ρ 4 / 4) + 1 := by omega
  have hv : ρ 3 = 4 * (ρ 3 / 4) := by omega
  obtain ⟨a1, a2, a3, a4, a5, a6, a7, a8, b1, b2, b3, b4⟩ := F117
  exact ⟨a1, a2, a3, a4, a5, a6, a7, pz_dt_x a8 (fun j hj => by rw [a2] at hj; rw [u2, if_neg (by omega)]) (fun _ _ => rfl), by rw [u2, if_neg (by omega)]; exact b1, fun _ => b2 (by decide), fun _ => by rw [u2, if_pos hi.symm]; exact congrArg some hv, fun z => absurd z (by decide)⟩

theorem axq_al4 : ax_RO ax_wC ax_XC axu_al4 := by
  intro ρ hp hE hT
  have j0 : ρ 0 % 4 = 1 := pz_gj hE 0 (Nat.le_of_ble_eq_true rfl) rfl
  have j1 : ρ 1 % 4 = 1 := pz_gj hE 1 (Nat.le_of_ble_eq_true rfl) rfl
  obtain ⟨i2a, i2b, i2c, i2d⟩ := pz_gi hE 2 2147483648 2147483657 (Nat.le_of_ble_eq_true rfl) rfl
  obtain ⟨i3a, i3b, i3c, i3d⟩ := pz_gi hE 3 2147483648 2147483657 (Nat.le_of_ble_eq_true rfl) rfl
  obtain ⟨i4a, i4b, i4c, i4d⟩ := pz_gi hE 4 2147483648 2147483667 (Nat.le_of_ble_eq_true rfl) rfl
  obtain ⟨i5a, i5b, i5c, i5d⟩ := pz_gi hE 5 0 4294967295 (Nat.le_of_ble_eq_true rfl) rfl
  obtain ⟨i7a, i7b, i7c, i7d⟩ := pz_gi hE 7 0 4294967295 (Nat.le_of_ble_eq_true rfl) rfl
  have c_ffinish : ay_at hp 10 7 = some (ρ 6) := ay_gfj hE 50 28 27 10 7 ax_m2 (ax_vlq rfl rfl) (ax_vlj rfl rfl)
  have s1 : (ρ 5 / 4 + 2147483648) % 4294967296 + (4 / 4 + 2147483648) % 4294967296 = (ρ 7 / 4 + 2147483648) % 4294967296 + 2147483648 := pz_gs hE 23 4 31 ax_m3
  obtain ⟨-, F31⟩ : ay_ex hp 10 ∧ pz_x31 (ay_at hp 10 6) (ay_at hp 10 7) (ay_at hp 10 10) (ay_at hp 10 11) := (ax_XF_lt (x := 31) (Nat.le_of_ble_eq_true rfl)).mp (ax_gx hE (31, []) ax_m1)
  rw [c_ffinish] at F31
  obtain ⟨-, -, -, -, F118⟩ : ay_ex hp 8 ∧ ay_ex hp 10 ∧ ay_ex hp 11 ∧ ay_ex hp 12 ∧ pz_xal 3 (ρ 0) (ρ 1) (ρ 2) (ρ 3) (ρ 4) (ay_at hp 8 5) (ay_at hp 10 0) (ay_at hp 10 1) (ay_at hp 10 2) (ay_at hp 10 3) (ay_at hp 10 4) (ay_at hp 8 9) (ay_at hp 8 11) (ay_at hp 8 10) (ay_at hp 8 3) (ay_at hp 8 4) (ay_at hp 11) (ay_at hp 12) := (ax_XF_lt (x := 118) (Nat.le_of_ble_eq_true rfl)).mp (ax_gx hE (118, [3, 7, 11, 15, 19]) ax_m4)
  have h6 : ρ 6 = 58 := Option.some.inj F31.2.1
  obtain ⟨r, g1, g2, g3⟩ := ay_mk hE 2 8 19 23 (by decide) (by decide)
  replace g1 : some (8 / 4 * (ρ 4 / 4) % 4294967296) = some r := g1
  have g1 := Option.some.inj g1
  replace g3 : ρ 5 = 4 * r := g3
  refine ⟨(fun y hy => by cases hy), _, List.mem_cons_self, ρ, fun _ _ => rfl, ax_px hE rfl (fun y hy => ?_)⟩
  cases List.mem_singleton.mp hy
  refine (ax_XF_wr (x := 119) (Nat.le_of_ble_eq_true rfl)).mpr ?_
  show ay_ex (ax_upd hp (ρ 6) (ρ 7) (ρ 2)) 8 ∧ ay_ex (ax_upd hp (ρ 6) (ρ 7) (ρ 2)) 10 ∧ ay_ex (ax_upd hp (ρ 6) (ρ 7) (ρ 2)) 11 ∧ ay_ex (ax_upd hp (ρ 6) (ρ 7) (ρ 2)) 12 ∧ pz_xal 4 (ρ 0) (ρ 1) (ρ 2) (ρ 3) (ρ 4) (ay_at (ax_upd hp (ρ 6) (ρ 7) (ρ 2)) 8 5) (ay_at (ax_upd hp (ρ 6) (ρ 7) (ρ 2)) 10 0) (ay_at (ax_upd hp (ρ 6) (ρ 7) (ρ 2)) 10 1) (ay_at (ax_upd hp (ρ 6) (ρ 7) (ρ 2)) 10 2) (ay_at (ax_upd hp (ρ 6) (ρ 7) (ρ 2)) 10 3) (ay_at (ax_upd hp (ρ 6) (ρ 7) (ρ 2)) 10 4) (ay_at (ax_upd hp (ρ 6) (ρ 7) (ρ 2)) 8 9) (ay_at (ax_upd hp (ρ 6) (ρ 7) (ρ 2)) 8 11) (ay_at (ax_upd hp (ρ 6) (ρ 7) (ρ 2)) 8 10) (ay_at (ax_upd hp (ρ 6) (ρ 7) (ρ 2)) 8 3) (ay_at (ax_upd hp (ρ 6) (ρ 7) (ρ 2)) 8 4) (ay_at (ax_upd hp (ρ 6) (ρ 7) (ρ 2)) 11) (ay_at (ax_upd hp (ρ 6) (ρ 7) (ρ 2)) 12)
  rw [h6]
  obtain ⟨o0, ho0⟩ := ay_some hT (q := 12) (g := 15) (n := 40) rfl rfl (j := ρ 7 / 4) (by omega)
  have u1 : ∀ q, q ≠ 12 → ay_at (ax_upd hp 58 (ρ 7) (ρ 2)) q = ay_at hp q := fun q hq => funext (fun j => ay_upd_ne hT.1 hq j)
  have u2 : ∀ j, ay_at (ax_upd hp 58 (ρ 7) (ρ 2)) 12 j = if j = ρ 7 / 4 then some (ρ 2) else ay_at hp 12 j := fun j => ay_upd_eq hT.1 rfl ho0 j
  refine ⟨ay_ex_upd hT.1 (ax_cellT hT (q := 8) (g := 2) rfl), ay_ex_upd hT.1 (ax_cellT hT (q := 10) (g := 1) rfl), ay_ex_upd hT.1 (ax_cellT hT (q := 11) (g := 14) rfl), ay_ex_upd hT.1 (ax_cellT hT (q := 12) (g := 15) rfl), ?_⟩
  rw [u1 8 (Nat.ne_of_beq_eq_false rfl), u1 10 (Nat.ne_of_beq_eq_false rfl), u1 11 (Nat.ne_of_beq_eq_false rfl)]
  have hi : ρ 7 / 4 = 2 * (ρ 4 / 4) + 1 := by omega
  have hv : ρ 2 = 4 * (ρ 2 / 4) := by omega
  obtain ⟨a1, a2, a3, a4, a5, a6, a7, a8, b1, b2, b3, b4⟩ := F118
  exact ⟨a1, a2, a3, a4, a5, a6, a7, pz_dt_x a8 (fun _ _ => rfl) (fun j hj => by rw [a2] at hj; rw [u2, if_neg (by omega)]), b1, fun _ => by rw [u2, if_neg (by omega)]; exact b2 (by decide), fun _ => b3 (by decide), fun _ => by rw [u2, if_pos hi.symm]; exact congrArg some hv⟩

theorem axq_al5 : ax_RO ax_wC ax_XC axu_al5 := by
  intro ρ hp hE hT
  have j0 : ρ 0 % 4 = 1 := pz_gj hE 0 (Nat.le_of_ble_eq_true rfl) rfl
  have j1 : ρ 1 % 4 = 1 := pz_gj hE 1 (Nat.le_of_ble_eq_true rfl) rfl
  obtain ⟨i2a, i2b, i2c, i2d⟩ := pz_gi hE 2 2147483648 2147483657 (Nat.le_of_ble_eq_true rfl) rfl
  obtain ⟨i3a, i3b, i3c, i3d⟩ := pz_gi hE 3 2147483648 2147483657 (Nat.le_of_ble_eq_true rfl) rfl
  obtain ⟨i4a, i4b, i4c, i4d⟩ := pz_gi hE 4 2147483648 2147483667 (Nat.le_of_ble_eq_true rfl) rfl
  obtain ⟨i5a, i5b, i5c, i5d⟩ := pz_gi hE 5 0 4294967295 (Nat.le_of_ble_eq_true rfl) rfl
  obtain ⟨i6a, i6b, i6c, i6d⟩ := pz_gi hE 6 0 4294967295 (Nat.le_of_ble_eq_true rfl) rfl
  have c_links : ay_at hp 10 1 = some (ρ 4) := ay_gfj hE 50 4 19 10 1 ax_m2 (ax_vlq rfl rfl) (ax_vlj rfl rfl)
  have s1 : (ρ 4 / 4 + 2147483648) % 4294967296 + (4 / 4 + 2147483648) % 4294967296 = (ρ 6 / 4 + 2147483648) % 4294967296 + 2147483648 := pz_gs hE 19 4 27 ax_m3
  obtain ⟨-, F31⟩ : ay_ex hp 10 ∧ pz_x31 (ay_at hp 10 6) (ay_at hp 10 7) (ay_at hp 10 10) (ay_at hp 10 11) := (ax_XF_lt (x := 31) (Nat.le_of_ble_eq_true rfl)).mp (ax_gx hE (31, []) ax_m1)
  obtain ⟨-, -, -, -, F119⟩ : ay_ex hp 8 ∧ ay_ex hp 10 ∧ ay_ex hp 11 ∧ ay_ex hp 12 ∧ pz_xal 4 (ρ 0) (ρ 1) (ρ 2) (ρ 3) (ρ 4) (ay_at hp 8 5) (ay_at hp 10 0) (ay_at hp 10 1) (ay_at hp 10 2) (ay_at hp 10 3) (ay_at hp 10 4) (ay_at hp 8 9) (ay_at hp 8 11) (ay_at hp 8 10) (ay_at hp 8 3) (ay_at hp 8 4) (ay_at hp 11) (ay_at hp 12) := (ax_XF_lt (x := 119) (Nat.le_of_ble_eq_true rfl)).mp (ax_gx hE (119, [3, 7, 11, 15, 19]) ax_m4)
  rw [c_links] at F119
  have st := (by
    obtain ⟨a1, a2, a3, a4, a5, a6, a7, a8, b1, b2, b3, b4⟩ := F119
    have hb : pz_m (ρ 3 / 4) = ρ 3 / 4 := by unfold pz_m; rw [if_pos (by omega)]
    exact pq_al (PL := pz_at (pz_gt (ρ 0)) (pz_gN (ρ 0)) (pz_p (pz_cf (pz_gt (ρ 0)) (pz_gN (ρ 0)) (ρ 1 / 4)))) (KD := pz_kd (pz_gt (ρ 0)) (pz_gN (ρ 0)) (pz_p (pz_cf (pz_gt (ρ 0)) (pz_gN (ρ 0)) (ρ 1 / 4)))) (VL := ρ 3 / 4) ⟨a1, rfl, rfl, fun _ => hb.trans a5.1.2.symm, a8⟩ a3 a4 a5 a6 a7 (fun _ _ => rfl) (fun _ _ => rfl) b1 (b2 (by decide)) (b3 (by decide)) (b4 (by decide)) : pz53 (pz_gt (ρ 0)) (pz_gN (ρ 0)) (ρ 1 / 4 + 1) (ay_ln (ay_at hp 8 5)) (ay_ln (ay_at hp 10 0)) (ρ 4 / 4 + 1) (ay_ln (ay_at hp 10 2)) (ay_ln (ay_at hp 10 3)) (ay_ln (ay_at hp 10 4)) (ay_ln (ay_at hp 8 9)) (ay_ln (ay_at hp 8 11)) (ay_ln (ay_at hp 8 10)) (ay_ln (ay_at hp 8 3)) (ay_ln (ay_at hp 8 4)) (ay_at hp 11) (ay_at hp 12) ∧ pz7 (pz_gt (ρ 0)) (pz_gN (ρ 0)) (ρ 1 / 4 + 1) 2)
  obtain ⟨ρ', h1, h2⟩ := pz_pn1 (K := ρ 1 / 4 + 1) (xf := [(553, [50, 4, 27, 3, 31]), (72, [3, 31]), (1030, [7, 31]), (98, [7, 31])]) hE (by decide) (fun ρ' h1 h2 x hx => by
    have q0 : ρ' 0 = ρ 0 := h1 0 (by decide)
    have q1 : ρ' 1 = ρ 1 := h1 1 (by decide)
    have q2 : ρ' 2 = ρ 2 := h1 2 (by decide)
    have q3 : ρ' 3 = ρ 3 := h1 3 (by decide)
    have q4 : ρ' 4 = ρ 4 := h1 4 (by decide)
    have q5 : ρ' 5 = ρ 5 := h1 5 (by decide)
    have q6 : ρ' 6 = ρ 6 := h1 6 (by decide)
    rcases List.mem_cons.mp hx with e | hx
    · subst e
      refine (ax_XF_wr (x := 53) (Nat.le_of_ble_eq_true rfl)).mpr ?_
      show ay_ex (ax_upd hp 50 (4) (ρ' 6)) 8 ∧ ay_ex (ax_upd hp 50 (4) (ρ' 6)) 10 ∧ ay_ex (ax_upd hp 50 (4) (ρ' 6)) 11 ∧ ay_ex (ax_upd hp 50 (4) (ρ' 6)) 12 ∧ pz_x53 (ρ' 0) (ρ' 7) (ay_at (ax_upd hp 50 (4) (ρ' 6)) 8 5) (ay_at (ax_upd hp 50 (4) (ρ' 6)) 10 0) (ay_at (ax_upd hp 50 (4) (ρ' 6)) 10 1) (ay_at (ax_upd hp 50 (4) (ρ' 6)) 10 2) (ay_at (ax_upd hp 50 (4) (ρ' 6)) 10 3) (ay_at (ax_upd hp 50 (4) (ρ' 6)) 10 4) (ay_at (ax_upd hp 50 (4) (ρ' 6)) 8 9) (ay_at (ax_upd hp 50 (4) (ρ' 6)) 8 11) (ay_at (ax_upd hp 50 (4) (ρ' 6)) 8 10) (ay_at (ax_upd hp 50 (4) (ρ' 6)) 8 3) (ay_at (ax_upd hp 50 (4) (ρ' 6)) 8 4) (ay_at (ax_upd hp 50 (4) (ρ' 6)) 11) (ay_at (ax_upd hp 50 (4) (ρ' 6)) 12)
      rw [q0, q6, h2]
      obtain ⟨o0, ho0⟩ := ay_some hT (q := 10) (g := 1) (n := 12) rfl rfl (j := 4 / 4) (Nat.le_of_ble_eq_true rfl)
      have u1 : ∀ q, q ≠ 10 → ay_at (ax_upd hp 50 4 (ρ 6)) q = ay_at hp q := fun q hq => funext (fun j => ay_upd_ne hT.1 hq j)
      have u2 : ∀ j, ay_at (ax_upd hp 50 4 (ρ 6)) 10 j = if j = 1 then some (ρ 6) else ay_at hp 10 j := fun j => ay_upd_eq hT.1 rfl ho0 j
      refine ⟨ay_ex_upd hT.1 (ax_cellT hT (q := 8) (g := 2) rfl), ay_ex_upd hT.1 (ax_cellT hT (q := 10) (g := 1) rfl), ay_ex_upd hT.1 (ax_cellT hT (q := 11) (g := 14) rfl), ay_ex_upd hT.1 (ax_cellT hT (q := 12) (g := 15) rfl), ?_⟩
      rw [u1 8 (Nat.ne_of_beq_eq_false rfl), u2 0, if_neg (show ¬ 0 = 1 from Nat.ne_of_beq_eq_false rfl), u2 1, if_pos rfl, u2 2, if_neg (show ¬ 2 = 1 from Nat.ne_of_beq_eq_false rfl), u2 3, if_neg (show ¬ 3 = 1 from Nat.ne_of_beq_eq_false rfl), u2 4, if_neg (show ¬ 4 = 1 from Nat.ne_of_beq_eq_false rfl), u1 11 (Nat.ne_of_beq_eq_false rfl), u1 12 (Nat.ne_of_beq_eq_false rfl)]
      refine pz_53 (pz_41 _) rfl ?_
      show pz53 _ _ _ _ _ (ρ 6 / 4) _ _ _ _ _ _ _ _ _ _
      rw [show ρ 6 / 4 = ρ 4 / 4 + 1 by omega]
      exact st.1
    rcases List.mem_cons.mp hx with e | hx
    · subst e
      refine (ax_XF_lt (x := 72) (Nat.le_of_ble_eq_true rfl)).mpr ?_
      show pz7 (pz_gt (ρ' 0)) (pz_gN (ρ' 0)) ((ρ' 7) / 4) 2
      rw [q0, h2]
      rw [pz_41]
      exact st.2
    rcases List.mem_cons.mp hx with e | hx
    · subst e
      refine (ax_XF_bi (o := 30) (by decide)).mpr (Or.inr ⟨rfl, ?_⟩)
      show ρ' 1 < ρ' 7
      rw [q1, h2]
      omega
    cases List.mem_singleton.mp hx
    refine (ax_XF_lt (x := 98) (Nat.le_of_ble_eq_true rfl)).mpr ?_
    show (ρ' 7) / 4 = (ρ' 1) / 4 + 1
    rw [q1, h2]
    rw [pz_41])
  exact ⟨(fun y hy => by cases hy), _, List.mem_cons_self, ρ', h1, h2⟩

theorem axq_sw1 : ax_RO ax_wC ax_XC axu_sw1 := by
  intro ρ hp hE hT
  have j0 : ρ 0 % 4 = 1 := pz_gj hE 0 (Nat.le_of_ble_eq_true rfl) rfl
  have j1 : ρ 1 % 4 = 1 := pz_gj hE 1 (Nat.le_of_ble_eq_true rfl) rfl
  obtain ⟨-, -, -, -, F50⟩ : ay_ex hp 8 ∧ ay_ex hp 10 ∧ ay_ex hp 11 ∧ ay_ex hp 12 ∧ pz_x50 (ρ 0) (ρ 1) (ay_at hp 8 5) (ay_at hp 8 6) (ay_at hp 8 7) (ay_at hp 8 8) (ay_at hp 10 0) (ay_at hp 10 1) (ay_at hp 10 2) (ay_at hp 10 3) (ay_at hp 10 4) (ay_at hp 8 9) (ay_at hp 8 11) (ay_at hp 8 10) (ay_at hp 8 3) (ay_at hp 8 4) (ay_at hp 11) (ay_at hp 12) := (ax_XF_lt (x := 50) (Nat.le_of_ble_eq_true rfl)).mp (ax_gx hE (50, [3, 7]) ax_m0)
  have F70 : pz7 (pz_gt (ρ 0)) (pz_gN (ρ 0)) ((ρ 1) / 4) 0 := (ax_XF_lt (x := 70) (Nat.le_of_ble_eq_true rfl)).mp (ax_gx hE (70, [3, 7]) ax_m1)
  have F111 : pz111 (pz_gt (ρ 0)) (pz_gN (ρ 0)) ((ρ 1) / 4) := (ax_XF_lt (x := 111) (Nat.le_of_ble_eq_true rfl)).mp (ax_gx hE (111, [3, 7]) ax_m2)
  have F61 : pz61 (pz_gt (ρ 0)) (pz_gN (ρ 0)) ((ρ 1) / 4) ((4002) / 4 - 1000) := (ax_XF_lt (x := 61) (Nat.le_of_ble_eq_true rfl)).mp (ax_gx hE (61, [3, 7, 4002]) ax_m3)
  refine ⟨(fun y hy => by cases hy), _, List.mem_cons_self, ρ, fun _ _ => rfl, ax_px hE rfl (fun y hy => ?_)⟩
  cases List.mem_singleton.mp hy
  refine (ax_XF_lt (x := 64) (Nat.le_of_ble_eq_true rfl)).mpr ?_
  show pz64 (pz_gt (ρ 0)) (pz_gN (ρ 0)) ((ρ 1) / 4) ((4) / 4)
  exact pq_sw1 F70 F111 F61

theorem axq_sw2 : ax_RO ax_wC ax_XC axu_sw2 := by
  intro ρ hp hE hT
  have j0 : ρ 0 % 4 = 1 := pz_gj hE 0 (Nat.le_of_ble_eq_true rfl) rfl
  have j1 : ρ 1 % 4 = 1 := pz_gj hE 1 (Nat.le_of_ble_eq_true rfl) rfl
  obtain ⟨-, -, -, -, F50⟩ : ay_ex hp 8 ∧ ay_ex hp 10 ∧ ay_ex hp 11 ∧ ay_ex hp 12 ∧ pz_x50 (ρ 0) (ρ 1) (ay_at hp 8 5) (ay_at hp 8 6) (ay_at hp 8 7) (ay_at hp 8 8) (ay_at hp 10 0) (ay_at hp 10 1) (ay_at hp 10 2) (ay_at hp 10 3) (ay_at hp 10 4) (ay_at hp 8 9) (ay_at hp 8 11) (ay_at hp 8 10) (ay_at hp 8 3) (ay_at hp 8 4) (ay_at hp 11) (ay_at hp 12) := (ax_XF_lt (x := 50) (Nat.le_of_ble_eq_true rfl)).mp (ax_gx hE (50, [3, 7]) ax_m0)
  have F70 : pz7 (pz_gt (ρ 0)) (pz_gN (ρ 0)) ((ρ 1) / 4) 0 := (ax_XF_lt (x := 70) (Nat.le_of_ble_eq_true rfl)).mp (ax_gx hE (70, [3, 7]) ax_m1)
  have F60 : pz60 (pz_gt (ρ 0)) (pz_gN (ρ 0)) ((ρ 1) / 4) ((4002) / 4 - 1000) := (ax_XF_lt (x := 60) (Nat.le_of_ble_eq_true rfl)).mp (ax_gx hE (60, [3, 7, 4002]) ax_m2)
  have st := pq_sw2 F50 F70 F60
  obtain ⟨ρ', h1, h2⟩ := pz_pn1 (K := ρ 1 / 4 + 1) (xf := [(53, [3, 11]), (71, [3, 11]), (1030, [7, 11]), (98, [7, 11])]) hE (by decide) (fun ρ' h1 h2 x hx => by
    have q0 : ρ' 0 = ρ 0 := h1 0 (by decide)
    have q1 : ρ' 1 = ρ 1 := h1 1 (by decide)
    rcases List.mem_cons.mp hx with e | hx
    · subst e
      refine (ax_XF_lt (x := 53) (Nat.le_of_ble_eq_true rfl)).mpr ?_
      show ay_ex hp 8 ∧ ay_ex hp 10 ∧ ay_ex hp 11 ∧ ay_ex hp 12 ∧ pz_x53 (ρ' 0) (ρ' 2) (ay_at hp 8 5) (ay_at hp 10 0) (ay_at hp 10 1) (ay_at hp 10 2) (ay_at hp 10 3) (ay_at hp 10 4) (ay_at hp 8 9) (ay_at hp 8 11) (ay_at hp 8 10) (ay_at hp 8 3) (ay_at hp 8 4) (ay_at hp 11) (ay_at hp 12)
      rw [q0, h2]
      exact ⟨(ax_cellT hT (q := 8) (g := 2) rfl), (ax_cellT hT (q := 10) (g := 1) rfl), (ax_cellT hT (q := 11) (g := 14) rfl), (ax_cellT hT (q := 12) (g := 15) rfl), pz_53 (pz_41 _) rfl st.1⟩
    rcases List.mem_cons.mp hx with e | hx
    · subst e
      refine (ax_XF_lt (x := 71) (Nat.le_of_ble_eq_true rfl)).mpr ?_
      show pz7 (pz_gt (ρ' 0)) (pz_gN (ρ' 0)) ((ρ' 2) / 4) 1
      rw [q0, h2]
      rw [pz_41]
      exact st.2
    rcases List.mem_cons.mp hx with e | hx
    · subst e
      refine (ax_XF_bi (o := 30) (by decide)).mpr (Or.inr ⟨rfl, ?_⟩)
      show ρ' 1 < ρ' 2
      rw [q1, h2]
      omega
    cases List.mem_singleton.mp hx
    refine (ax_XF_lt (x := 98) (Nat.le_of_ble_eq_true rfl)).mpr ?_
    show (ρ' 2) / 4 = (ρ' 1) / 4 + 1
    rw [q1, h2]
    rw [pz_41])
  exact ⟨(fun y hy => by cases hy), _, List.mem_cons_self, ρ', h1, h2⟩

theorem axq_sw3 : ax_RO ax_wC ax_XC axu_sw3 := by
  intro ρ hp hE hT
  have j0 : ρ 0 % 4 = 1 := pz_gj hE 0 (Nat.le_of_ble_eq_true rfl) rfl
  have j1 : ρ 1 % 4 = 1 := pz_gj hE 1 (Nat.le_of_ble_eq_true rfl) rfl
  obtain ⟨i2a, i2b, i2c, i2d⟩ := pz_gi hE 2 2147483650 2147483658 (Nat.le_of_ble_eq_true rfl) rfl
  have j3 : ρ 3 % 4 = 1 := pz_gj hE 3 (Nat.le_of_ble_eq_true rfl) rfl
  have o1 : ρ 3 < ρ 1 := pz_go hE 15 7 (by decide)
  obtain ⟨-, -, -, -, F50⟩ : ay_ex hp 8 ∧ ay_ex hp 10 ∧ ay_ex hp 11 ∧ ay_ex hp 12 ∧ pz_x50 (ρ 0) (ρ 1) (ay_at hp 8 5) (ay_at hp 8 6) (ay_at hp 8 7) (ay_at hp 8 8) (ay_at hp 10 0) (ay_at hp 10 1) (ay_at hp 10 2) (ay_at hp 10 3) (ay_at hp 10 4) (ay_at hp 8 9) (ay_at hp 8 11) (ay_at hp 8 10) (ay_at hp 8 3) (ay_at hp 8 4) (ay_at hp 11) (ay_at hp 12) := (ax_XF_lt (x := 50) (Nat.le_of_ble_eq_true rfl)).mp (ax_gx hE (50, [3, 7]) ax_m0)
  have F71 : pz7 (pz_gt (ρ 0)) (pz_gN (ρ 0)) ((ρ 1) / 4) 1 := (ax_XF_lt (x := 71) (Nat.le_of_ble_eq_true rfl)).mp (ax_gx hE (71, [3, 7]) ax_m1)
  have F66 : pz66 (pz_gt (ρ 0)) (pz_gN (ρ 0)) ((ρ 1) / 4) ((ρ 2) / 4) := (ax_XF_lt (x := 66) (Nat.le_of_ble_eq_true rfl)).mp (ax_gx hE (66, [3, 7, 11]) ax_m2)
  have st := pq_sw3 F50 F71 F66 (by omega) (by omega)
  obtain ⟨ρ', h1, h2⟩ := pz_pn1 (K := ρ 1 / 4 + 1) (xf := [(553, [50, 0, 11, 3, 19]), (72, [3, 19]), (1030, [15, 19]), (98, [7, 19])]) hE (by decide) (fun ρ' h1 h2 x hx => by
    have q0 : ρ' 0 = ρ 0 := h1 0 (by decide)
    have q1 : ρ' 1 = ρ 1 := h1 1 (by decide)
    have q2 : ρ' 2 = ρ 2 := h1 2 (by decide)
    have q3 : ρ' 3 = ρ 3 := h1 3 (by decide)
    rcases List.mem_cons.mp hx with e | hx
    · subst e
      refine (ax_XF_wr (x := 53) (Nat.le_of_ble_eq_true rfl)).mpr ?_
      show ay_ex (ax_upd hp 50 (0) (ρ' 2)) 8 ∧ ay_ex (ax_upd hp 50 (0) (ρ' 2)) 10 ∧ ay_ex (ax_upd hp 50 (0) (ρ' 2)) 11 ∧ ay_ex (ax_upd hp 50 (0) (ρ' 2)) 12 ∧ pz_x53 (ρ' 0) (ρ' 4) (ay_at (ax_upd hp 50 (0) (ρ' 2)) 8 5) (ay_at (ax_upd hp 50 (0) (ρ' 2)) 10 0) (ay_at (ax_upd hp 50 (0) (ρ' 2)) 10 1) (ay_at (ax_upd hp 50 (0) (ρ' 2)) 10 2) (ay_at (ax_upd hp 50 (0) (ρ' 2)) 10 3) (ay_at (ax_upd hp 50 (0) (ρ' 2)) 10 4) (ay_at (ax_upd hp 50 (0) (ρ' 2)) 8 9) (ay_at (ax_upd hp 50 (0) (ρ' 2)) 8 11) (ay_at (ax_upd hp 50 (0) (ρ' 2)) 8 10) (ay_at (ax_upd hp 50 (0) (ρ' 2)) 8 3) (ay_at (ax_upd hp 50 (0) (ρ' 2)) 8 4) (ay_at (ax_upd hp 50 (0) (ρ' 2)) 11) (ay_at (ax_upd hp 50 (0) (ρ' 2)) 12)
      rw [q0, q2, h2]
      obtain ⟨o0, ho0⟩ := ay_some hT (q := 10) (g := 1) (n := 12) rfl rfl (j := 0 / 4) (Nat.le_of_ble_eq_true rfl)
      have u1 : ∀ q, q ≠ 10 → ay_at (ax_upd hp 50 0 (ρ 2)) q = ay_at hp q := fun q hq => funext (fun j => ay_upd_ne hT.1 hq j)
      have u2 : ∀ j, ay_at (ax_upd hp 50 0 (ρ 2)) 10 j = if j = 0 then some (ρ 2) else ay_at hp 10 j := fun j => ay_upd_eq hT.1 rfl ho0 j
      refine ⟨ay_ex_upd hT.1 (ax_cellT hT (q := 8) (g := 2) rfl), ay_ex_upd hT.1 (ax_cellT hT (q := 10) (g := 1) rfl), ay_ex_upd hT.1 (ax_cellT hT (q := 11) (g := 14) rfl), ay_ex_upd hT.1 (ax_cellT hT (q := 12) (g := 15) rfl), ?_⟩
      rw [u1 8 (Nat.ne_of_beq_eq_false rfl), u2 0, if_pos rfl, u2 1, if_neg (show ¬ 1 = 0 from Nat.ne_of_beq_eq_false rfl), u2 2, if_neg (show ¬ 2 = 0 from Nat.ne_of_beq_eq_false rfl), u2 3, if_neg (show ¬ 3 = 0 from Nat.ne_of_beq_eq_false rfl), u2 4, if_neg (show ¬ 4 = 0 from Nat.ne_of_beq_eq_false rfl), u1 11 (Nat.ne_of_beq_eq_false rfl), u1 12 (Nat.ne_of_beq_eq_false rfl)]
      exact pz_53 (pz_41 _) rfl st.1
    rcases List.mem_cons.mp hx with e | hx
    · subst e
      refine (ax_XF_lt (x := 72) (Nat.le_of_ble_eq_true rfl)).mpr ?_
      show pz7 (pz_gt (ρ' 0)) (pz_gN (ρ' 0)) ((ρ' 4) / 4) 2
      rw [q0, h2]
      rw [pz_41]
      exact st.2
    rcases List.mem_cons.mp hx with e | hx
    · subst e
      refine (ax_XF_bi (o := 30) (by decide)).mpr (Or.inr ⟨rfl, ?_⟩)
      show ρ' 3 < ρ' 4
      rw [q3, h2]
      omega
    cases List.mem_singleton.mp hx
    refine (ax_XF_lt (x := 98) (Nat.le_of_ble_eq_true rfl)).mpr ?_
    show (ρ' 4) / 4 = (ρ' 1) / 4 + 1
    rw [q1, h2]
    rw [pz_41])
  exact ⟨(fun y hy => by cases hy), _, List.mem_cons_self, ρ', h1, h2⟩

theorem axq_sw4 : ax_RO ax_wC ax_XC axu_sw4 := by
  intro ρ hp hE hT
  have j0 : ρ 0 % 4 = 1 := pz_gj hE 0 (Nat.le_of_ble_eq_true rfl) rfl
  have j1 : ρ 1 % 4 = 1 := pz_gj hE 1 (Nat.le_of_ble_eq_true rfl) rfl
  have j2 : ρ 2 % 4 = 1 := pz_gj hE 2 (Nat.le_of_ble_eq_true rfl) rfl
  have j3 : ρ 3 % 4 = 1 := pz_gj hE 3 (Nat.le_of_ble_eq_true rfl) rfl
  have o1 : ρ 2 < ρ 3 := pz_go hE 11 15 (by decide)
  have o2 : ρ 1 < ρ 2 := pz_go hE 7 11 (by decide)
  obtain ⟨-, -, -, -, F50⟩ : ay_ex hp 8 ∧ ay_ex hp 10 ∧ ay_ex hp 11 ∧ ay_ex hp 12 ∧ pz_x50 (ρ 0) (ρ 3) (ay_at hp 8 5) (ay_at hp 8 6) (ay_at hp 8 7) (ay_at hp 8 8) (ay_at hp 10 0) (ay_at hp 10 1) (ay_at hp 10 2) (ay_at hp 10 3) (ay_at hp 10 4) (ay_at hp 8 9) (ay_at hp 8 11) (ay_at hp 8 10) (ay_at hp 8 3) (ay_at hp 8 4) (ay_at hp 11) (ay_at hp 12) := (ax_XF_lt (x := 50) (Nat.le_of_ble_eq_true rfl)).mp (ax_gx hE (50, [3, 15]) ax_m0)
  refine ⟨(fun y hy => by cases hy), _, List.mem_cons_self, ρ, fun _ _ => rfl, ax_px hE rfl (fun y hy => ?_)⟩
  cases List.mem_singleton.mp hy
  refine (ax_XF_bi (o := 30) (by decide)).mpr (Or.inr ⟨rfl, ?_⟩)
  show ρ 1 < ρ 3
  omega

theorem axq_rl_ro : ax_RO ax_wC ax_XC axu_rl_ro := by
  intro ρ hp hE hT
  have j0 : ρ 0 % 4 = 1 := pz_gj hE 0 (Nat.le_of_ble_eq_true rfl) rfl
  have j1 : ρ 1 % 4 = 1 := pz_gj hE 1 (Nat.le_of_ble_eq_true rfl) rfl
  obtain ⟨i2a, i2b, i2c, i2d⟩ := pz_gi hE 2 2147483648 2147483648 (Nat.le_of_ble_eq_true rfl) rfl
  have c_rootTold : ay_at hp 8 9 = some (ρ 2) := ay_gfj hE 42 36 11 8 9 ax_m4 (ax_vlq rfl rfl) (ax_vlj rfl rfl)
  obtain ⟨-, -, -, -, F50⟩ : ay_ex hp 8 ∧ ay_ex hp 10 ∧ ay_ex hp 11 ∧ ay_ex hp 12 ∧ pz_x50 (ρ 0) (ρ 1) (ay_at hp 8 5) (ay_at hp 8 6) (ay_at hp 8 7) (ay_at hp 8 8) (ay_at hp 10 0) (ay_at hp 10 1) (ay_at hp 10 2) (ay_at hp 10 3) (ay_at hp 10 4) (ay_at hp 8 9) (ay_at hp 8 11) (ay_at hp 8 10) (ay_at hp 8 3) (ay_at hp 8 4) (ay_at hp 11) (ay_at hp 12) := (ax_XF_lt (x := 50) (Nat.le_of_ble_eq_true rfl)).mp (ax_gx hE (50, [3, 7]) ax_m0)
  rw [c_rootTold] at F50
  have F73 : pz7 (pz_gt (ρ 0)) (pz_gN (ρ 0)) ((ρ 1) / 4) 3 := (ax_XF_lt (x := 73) (Nat.le_of_ble_eq_true rfl)).mp (ax_gx hE (73, [3, 7]) ax_m1)
  have F60 : pz60 (pz_gt (ρ 0)) (pz_gN (ρ 0)) ((ρ 1) / 4) ((4010) / 4 - 1000) := (ax_XF_lt (x := 60) (Nat.le_of_ble_eq_true rfl)).mp (ax_gx hE (60, [3, 7, 4010]) ax_m2)
  have F61 : pz61 (pz_gt (ρ 0)) (pz_gN (ρ 0)) ((ρ 1) / 4) ((4006) / 4 - 1000) := (ax_XF_lt (x := 61) (Nat.le_of_ble_eq_true rfl)).mp (ax_gx hE (61, [3, 7, 4006]) ax_m3)
  have st := pq_rl_ro F50 F73 F61 F60 (show ρ 2 / 4 = 0 by omega)
  obtain ⟨ρ', h1, h2⟩ := pz_pn1 (K := ρ 1 / 4 + 1) (xf := [(553, [42, 36, 4, 3, 15]), (76, [3, 15]), (1030, [7, 15]), (98, [7, 15])]) hE (by decide) (fun ρ' h1 h2 x hx => by
    have q0 : ρ' 0 = ρ 0 := h1 0 (by decide)
    have q1 : ρ' 1 = ρ 1 := h1 1 (by decide)
    have q2 : ρ' 2 = ρ 2 := h1 2 (by decide)
    rcases List.mem_cons.mp hx with e | hx
    · subst e
      refine (ax_XF_wr (x := 53) (Nat.le_of_ble_eq_true rfl)).mpr ?_
      show ay_ex (ax_upd hp 42 (36) (4)) 8 ∧ ay_ex (ax_upd hp 42 (36) (4)) 10 ∧ ay_ex (ax_upd hp 42 (36) (4)) 11 ∧ ay_ex (ax_upd hp 42 (36) (4)) 12 ∧ pz_x53 (ρ' 0) (ρ' 3) (ay_at (ax_upd hp 42 (36) (4)) 8 5) (ay_at (ax_upd hp 42 (36) (4)) 10 0) (ay_at (ax_upd hp 42 (36) (4)) 10 1) (ay_at (ax_upd hp 42 (36) (4)) 10 2) (ay_at (ax_upd hp 42 (36) (4)) 10 3) (ay_at (ax_upd hp 42 (36) (4)) 10 4) (ay_at (ax_upd hp 42 (36) (4)) 8 9) (ay_at (ax_upd hp 42 (36) (4)) 8 11) (ay_at (ax_upd hp 42 (36) (4)) 8 10) (ay_at (ax_upd hp 42 (36) (4)) 8 3) (ay_at (ax_upd hp 42 (36) (4)) 8 4) (ay_at (ax_upd hp 42 (36) (4)) 11) (ay_at (ax_upd hp 42 (36) (4)) 12)
      rw [q0, h2]
      obtain ⟨o0, ho0⟩ := ay_some hT (q := 8) (g := 2) (n := 12) rfl rfl (j := 36 / 4) (Nat.le_of_ble_eq_true rfl)
      have u1 : ∀ q, q ≠ 8 → ay_at (ax_upd hp 42 36 (4)) q = ay_at hp q := fun q hq => funext (fun j => ay_upd_ne hT.1 hq j)
      have u2 : ∀ j, ay_at (ax_upd hp 42 36 (4)) 8 j = if j = 9 then some (4) else ay_at hp 8 j := fun j => ay_upd_eq hT.1 rfl ho0 j
      refine ⟨ay_ex_upd hT.1 (ax_cellT hT (q := 8) (g := 2) rfl), ay_ex_upd hT.1 (ax_cellT hT (q := 10) (g := 1) rfl), ay_ex_upd hT.1 (ax_cellT hT (q := 11) (g := 14) rfl), ay_ex_upd hT.1 (ax_cellT hT (q := 12) (g := 15) rfl), ?_⟩
      rw [u2 5, if_neg (show ¬ 5 = 9 from Nat.ne_of_beq_eq_false rfl), u1 10 (Nat.ne_of_beq_eq_false rfl), u2 9, if_pos rfl, u2 11, if_neg (show ¬ 11 = 9 from Nat.ne_of_beq_eq_false rfl), u2 10, if_neg (show ¬ 10 = 9 from Nat.ne_of_beq_eq_false rfl), u2 3, if_neg (show ¬ 3 = 9 from Nat.ne_of_beq_eq_false rfl), u2 4, if_neg (show ¬ 4 = 9 from Nat.ne_of_beq_eq_false rfl), u1 11 (Nat.ne_of_beq_eq_false rfl), u1 12 (Nat.ne_of_beq_eq_false rfl)]
      exact pz_53 (pz_41 _) rfl st.1
    rcases List.mem_cons.mp hx with e | hx
    · subst e
      refine (ax_XF_lt (x := 76) (Nat.le_of_ble_eq_true rfl)).mpr ?_
      show pz7 (pz_gt (ρ' 0)) (pz_gN (ρ' 0)) ((ρ' 3) / 4) 6
      rw [q0, h2]
      rw [pz_41]
      exact st.2
    rcases List.mem_cons.mp hx with e | hx
    · subst e
      refine (ax_XF_bi (o := 30) (by decide)).mpr (Or.inr ⟨rfl, ?_⟩)
      show ρ' 1 < ρ' 3
      rw [q1, h2]
      omega
    cases List.mem_singleton.mp hx
    refine (ax_XF_lt (x := 98) (Nat.le_of_ble_eq_true rfl)).mpr ?_
    show (ρ' 3) / 4 = (ρ' 1) / 4 + 1
    rw [q1, h2]
    rw [pz_41])
  exact ⟨(fun y hy => by cases hy), _, List.mem_cons_self, ρ', h1, h2⟩

theorem axq_rl_rm : ax_RO ax_wC ax_XC axu_rl_rm := by
  intro ρ hp hE hT
  have j0 : ρ 0 % 4 = 1 := pz_gj hE 0 (Nat.le_of_ble_eq_true rfl) rfl
  have j1 : ρ 1 % 4 = 1 := pz_gj hE 1 (Nat.le_of_ble_eq_true rfl) rfl
  obtain ⟨i2a, i2b, i2c, i2d⟩ := pz_gi hE 2 2147483648 2147483648 (Nat.le_of_ble_eq_true rfl) rfl
  have c_roomTold : ay_at hp 8 11 = some (ρ 2) := ay_gfj hE 42 44 11 8 11 ax_m4 (ax_vlq rfl rfl) (ax_vlj rfl rfl)
  obtain ⟨-, -, -, -, F50⟩ : ay_ex hp 8 ∧ ay_ex hp 10 ∧ ay_ex hp 11 ∧ ay_ex hp 12 ∧ pz_x50 (ρ 0) (ρ 1) (ay_at hp 8 5) (ay_at hp 8 6) (ay_at hp 8 7) (ay_at hp 8 8) (ay_at hp 10 0) (ay_at hp 10 1) (ay_at hp 10 2) (ay_at hp 10 3) (ay_at hp 10 4) (ay_at hp 8 9) (ay_at hp 8 11) (ay_at hp 8 10) (ay_at hp 8 3) (ay_at hp 8 4) (ay_at hp 11) (ay_at hp 12) := (ax_XF_lt (x := 50) (Nat.le_of_ble_eq_true rfl)).mp (ax_gx hE (50, [3, 7]) ax_m0)
  rw [c_roomTold] at F50
  have F73 : pz7 (pz_gt (ρ 0)) (pz_gN (ρ 0)) ((ρ 1) / 4) 3 := (ax_XF_lt (x := 73) (Nat.le_of_ble_eq_true rfl)).mp (ax_gx hE (73, [3, 7]) ax_m1)
  have F60 : pz60 (pz_gt (ρ 0)) (pz_gN (ρ 0)) ((ρ 1) / 4) ((4014) / 4 - 1000) := (ax_XF_lt (x := 60) (Nat.le_of_ble_eq_true rfl)).mp (ax_gx hE (60, [3, 7, 4014]) ax_m2)
  have F61 : pz61 (pz_gt (ρ 0)) (pz_gN (ρ 0)) ((ρ 1) / 4) ((4006) / 4 - 1000) := (ax_XF_lt (x := 61) (Nat.le_of_ble_eq_true rfl)).mp (ax_gx hE (61, [3, 7, 4006]) ax_m3)
  have st := pq_rl_rm F50 F73 F61 F60 (show ρ 2 / 4 = 0 by omega)
  obtain ⟨ρ', h1, h2⟩ := pz_pn1 (K := ρ 1 / 4 + 1) (xf := [(553, [42, 44, 4, 3, 15]), (77, [3, 15]), (1030, [7, 15]), (98, [7, 15])]) hE (by decide) (fun ρ' h1 h2 x hx => by
    have q0 : ρ' 0 = ρ 0 := h1 0 (by decide)
    have q1 : ρ' 1 = ρ 1 := h1 1 (by decide)
    have q2 : ρ' 2 = ρ 2 := h1 2 (by decide)
    rcases List.mem_cons.mp hx with e | hx
    · subst e
      refine (ax_XF_wr (x := 53) (Nat.le_of_ble_eq_true rfl)).mpr ?_
      show ay_ex (ax_upd hp 42 (44) (4)) 8 ∧ ay_ex (ax_upd hp 42 (44) (4)) 10 ∧ ay_ex (ax_upd hp 42 (44) (4)) 11 ∧ ay_ex (ax_upd hp 42 (44) (4)) 12 ∧ pz_x53 (ρ' 0) (ρ' 3) (ay_at (ax_upd hp 42 (44) (4)) 8 5) (ay_at (ax_upd hp 42 (44) (4)) 10 0) (ay_at (ax_upd hp 42 (44) (4)) 10 1) (ay_at (ax_upd hp 42 (44) (4)) 10 2) (ay_at (ax_upd hp 42 (44) (4)) 10 3) (ay_at (ax_upd hp 42 (44) (4)) 10 4) (ay_at (ax_upd hp 42 (44) (4)) 8 9) (ay_at (ax_upd hp 42 (44) (4)) 8 11) (ay_at (ax_upd hp 42 (44) (4)) 8 10) (ay_at (ax_upd hp 42 (44) (4)) 8 3) (ay_at (ax_upd hp 42 (44) (4)) 8 4) (ay_at (ax_upd hp 42 (44) (4)) 11) (ay_at (ax_upd hp 42 (44) (4)) 12)
      rw [q0, h2]
      obtain ⟨o0, ho0⟩ := ay_some hT (q := 8) (g := 2) (n := 12) rfl rfl (j := 44 / 4) (Nat.le_of_ble_eq_true rfl)
      have u1 : ∀ q, q ≠ 8 → ay_at (ax_upd hp 42 44 (4)) q = ay_at hp q := fun q hq => funext (fun j => ay_upd_ne hT.1 hq j)
      have u2 : ∀ j, ay_at (ax_upd hp 42 44 (4)) 8 j = if j = 11 then some (4) else ay_at hp 8 j := fun j => ay_upd_eq hT.1 rfl ho0 j
      refine ⟨ay_ex_upd hT.1 (ax_cellT hT (q := 8) (g := 2) rfl), ay_ex_upd hT.1 (ax_cellT hT (q := 10) (g := 1) rfl), ay_ex_upd hT.1 (ax_cellT hT (q := 11) (g := 14) rfl), ay_ex_upd hT.1 (ax_cellT hT (q := 12) (g := 15) rfl), ?_⟩
      rw [u2 5, if_neg (show ¬ 5 = 11 from Nat.ne_of_beq_eq_false rfl), u1 10 (Nat.ne_of_beq_eq_false rfl), u2 9, if_neg (show ¬ 9 = 11 from Nat.ne_of_beq_eq_false rfl), u2 11, if_pos rfl, u2 10, if_neg (show ¬ 10 = 11 from Nat.ne_of_beq_eq_false rfl), u2 3, if_neg (show ¬ 3 = 11 from Nat.ne_of_beq_eq_false rfl), u2 4, if_neg (show ¬ 4 = 11 from Nat.ne_of_beq_eq_false rfl), u1 11 (Nat.ne_of_beq_eq_false rfl), u1 12 (Nat.ne_of_beq_eq_false rfl)]
      exact pz_53 (pz_41 _) rfl st.1
    rcases List.mem_cons.mp hx with e | hx
    · subst e
      refine (ax_XF_lt (x := 77) (Nat.le_of_ble_eq_true rfl)).mpr ?_
      show pz7 (pz_gt (ρ' 0)) (pz_gN (ρ' 0)) ((ρ' 3) / 4) 7
      rw [q0, h2]
      rw [pz_41]
      exact st.2
    rcases List.mem_cons.mp hx with e | hx
    · subst e
      refine (ax_XF_bi (o := 30) (by decide)).mpr (Or.inr ⟨rfl, ?_⟩)
      show ρ' 1 < ρ' 3
      rw [q1, h2]
      omega
    cases List.mem_singleton.mp hx
    refine (ax_XF_lt (x := 98) (Nat.le_of_ble_eq_true rfl)).mpr ?_
    show (ρ' 3) / 4 = (ρ' 1) / 4 + 1
    rw [q1, h2]
    rw [pz_41])
  exact ⟨(fun y hy => by cases hy), _, List.mem_cons_self, ρ', h1, h2⟩

theorem axq_rl_rk : ax_RO ax_wC ax_XC axu_rl_rk := by
  intro ρ hp hE hT
  have j0 : ρ 0 % 4 = 1 := pz_gj hE 0 (Nat.le_of_ble_eq_true rfl) rfl
  have j1 : ρ 1 % 4 = 1 := pz_gj hE 1 (Nat.le_of_ble_eq_true rfl) rfl
  obtain ⟨i2a, i2b, i2c, i2d⟩ := pz_gi hE 2 2147483648 2147483648 (Nat.le_of_ble_eq_true rfl) rfl
  have c_rankTold : ay_at hp 8 10 = some (ρ 2) := ay_gfj hE 42 40 11 8 10 ax_m4 (ax_vlq rfl rfl) (ax_vlj rfl rfl)
  obtain ⟨-, -, -, -, F50⟩ : ay_ex hp 8 ∧ ay_ex hp 10 ∧ ay_ex hp 11 ∧ ay_ex hp 12 ∧ pz_x50 (ρ 0) (ρ 1) (ay_at hp 8 5) (ay_at hp 8 6) (ay_at hp 8 7) (ay_at hp 8 8) (ay_at hp 10 0) (ay_at hp 10 1) (ay_at hp 10 2) (ay_at hp 10 3) (ay_at hp 10 4) (ay_at hp 8 9) (ay_at hp 8 11) (ay_at hp 8 10) (ay_at hp 8 3) (ay_at hp 8 4) (ay_at hp 11) (ay_at hp 12) := (ax_XF_lt (x := 50) (Nat.le_of_ble_eq_true rfl)).mp (ax_gx hE (50, [3, 7]) ax_m0)
  rw [c_rankTold] at F50
  have F73 : pz7 (pz_gt (ρ 0)) (pz_gN (ρ 0)) ((ρ 1) / 4) 3 := (ax_XF_lt (x := 73) (Nat.le_of_ble_eq_true rfl)).mp (ax_gx hE (73, [3, 7]) ax_m1)
  have F60 : pz60 (pz_gt (ρ 0)) (pz_gN (ρ 0)) ((ρ 1) / 4) ((4018) / 4 - 1000) := (ax_XF_lt (x := 60) (Nat.le_of_ble_eq_true rfl)).mp (ax_gx hE (60, [3, 7, 4018]) ax_m2)
  have F61 : pz61 (pz_gt (ρ 0)) (pz_gN (ρ 0)) ((ρ 1) / 4) ((4006) / 4 - 1000) := (ax_XF_lt (x := 61) (Nat.le_of_ble_eq_true rfl)).mp (ax_gx hE (61, [3, 7, 4006]) ax_m3)
  have st := pq_rl_rk F50 F73 F61 F60 (show ρ 2 / 4 = 0 by omega)
  obtain ⟨ρ', h1, h2⟩ := pz_pn1 (K := ρ 1 / 4 + 1) (xf := [(553, [42, 40, 4, 3, 15]), (78, [3, 15]), (90, [3, 15, 5]), (91, [5, 0]), (92, [5, 5]), (1030, [7, 15]), (98, [7, 15])]) hE (by decide) (fun ρ' h1 h2 x hx => by
    have q0 : ρ' 0 = ρ 0 := h1 0 (by decide)
    have q1 : ρ' 1 = ρ 1 := h1 1 (by decide)
    have q2 : ρ' 2 = ρ 2 := h1 2 (by decide)
    rcases List.mem_cons.mp hx with e | hx
    · subst e
      refine (ax_XF_wr (x := 53) (Nat.le_of_ble_eq_true rfl)).mpr ?_
      show ay_ex (ax_upd hp 42 (40) (4)) 8 ∧ ay_ex (ax_upd hp 42 (40) (4)) 10 ∧ ay_ex (ax_upd hp 42 (40) (4)) 11 ∧ ay_ex (ax_upd hp 42 (40) (4)) 12 ∧ pz_x53 (ρ' 0) (ρ' 3) (ay_at (ax_upd hp 42 (40) (4)) 8 5) (ay_at (ax_upd hp 42 (40) (4)) 10 0) (ay_at (ax_upd hp 42 (40) (4)) 10 1) (ay_at (ax_upd hp 42 (40) (4)) 10 2) (ay_at (ax_upd hp 42 (40) (4)) 10 3) (ay_at (ax_upd hp 42 (40) (4)) 10 4) (ay_at (ax_upd hp 42 (40) (4)) 8 9) (ay_at (ax_upd hp 42 (40) (4)) 8 11) (ay_at (ax_upd hp 42 (40) (4)) 8 10) (ay_at (ax_upd hp 42 (40) (4)) 8 3) (ay_at (ax_upd hp 42 (40) (4)) 8 4) (ay_at (ax_upd hp 42 (40) (4)) 11) (ay_at (ax_upd hp 42 (40) (4)) 12)
      rw [q0, h2]
      obtain ⟨o0, ho0⟩ := ay_some hT (q := 8) (g := 2) (n := 12) rfl rfl (j := 40 / 4) (Nat.le_of_ble_eq_true rfl)
      have u1 : ∀ q, q ≠ 8 → ay_at (ax_upd hp 42 40 (4)) q = ay_at hp q := fun q hq => funext (fun j => ay_upd_ne hT.1 hq j)
      have u2 : ∀ j, ay_at (ax_upd hp 42 40 (4)) 8 j = if j = 10 then some (4) else ay_at hp 8 j := fun j => ay_upd_eq hT.1 rfl ho0 j
      refine ⟨ay_ex_upd hT.1 (ax_cellT hT (q := 8) (g := 2) rfl), ay_ex_upd hT.1 (ax_cellT hT (q := 10) (g := 1) rfl), ay_ex_upd hT.1 (ax_cellT hT (q := 11) (g := 14) rfl), ay_ex_upd hT.1 (ax_cellT hT (q := 12) (g := 15) rfl), ?_⟩
      rw [u2 5, if_neg (show ¬ 5 = 10 from Nat.ne_of_beq_eq_false rfl), u1 10 (Nat.ne_of_beq_eq_false rfl), u2 9, if_neg (show ¬ 9 = 10 from Nat.ne_of_beq_eq_false rfl), u2 11, if_neg (show ¬ 11 = 10 from Nat.ne_of_beq_eq_false rfl), u2 10, if_pos rfl, u2 3, if_neg (show ¬ 3 = 10 from Nat.ne_of_beq_eq_false rfl), u2 4, if_neg (show ¬ 4 = 10 from Nat.ne_of_beq_eq_false rfl), u1 11 (Nat.ne_of_beq_eq_false rfl), u1 12 (Nat.ne_of_beq_eq_false rfl)]
      exact pz_53 (pz_41 _) rfl st.1
    rcases List.mem_cons.mp hx with e | hx
    · subst e
      refine (ax_XF_lt (x := 78) (Nat.le_of_ble_eq_true rfl)).mpr ?_
      show pz7 (pz_gt (ρ' 0)) (pz_gN (ρ' 0)) ((ρ' 3) / 4) 8
      rw [q0, h2]
      rw [pz_41]
      exact st.2.1
    rcases List.mem_cons.mp hx with e | hx
    · subst e
      refine (ax_XF_lt (x := 90) (Nat.le_of_ble_eq_true rfl)).mpr ?_
      show (pz90 (pz_gt (ρ' 0)) (pz_gN (ρ' 0)) ((ρ' 3) / 4) ((5) / 4) ∧ 1 ≤ (5) / 4)
      rw [q0, h2]
      rw [pz_41]
      exact ⟨st.2.2, by decide⟩
    rcases List.mem_cons.mp hx with e | hx
    · subst e
      refine (ax_XF_lt (x := 91) (Nat.le_of_ble_eq_true rfl)).mpr ?_
      show pz_dp ((5) / 4) = (0) / 4
      rw []
      decide
    rcases List.mem_cons.mp hx with e | hx
    · subst e
      refine (ax_XF_lt (x := 92) (Nat.le_of_ble_eq_true rfl)).mpr ?_
      show pz_strip ((5) / 4) = (5) / 4
      rw []
      decide
    rcases List.mem_cons.mp hx with e | hx
    · subst e
      refine (ax_XF_bi (o := 30) (by decide)).mpr (Or.inr ⟨rfl, ?_⟩)
      show ρ' 1 < ρ' 3
      rw [q1, h2]
      omega
    cases List.mem_singleton.mp hx
    refine (ax_XF_lt (x := 98) (Nat.le_of_ble_eq_true rfl)).mpr ?_
    show (ρ' 3) / 4 = (ρ' 1) / 4 + 1
    rw [q1, h2]
    rw [pz_41])
  exact ⟨(fun y hy => by cases hy), _, List.mem_cons_self, ρ', h1, h2⟩

theorem axq_rl_m : ax_RO ax_wC ax_XC axu_rl_m := by
  intro ρ hp hE hT
  have j0 : ρ 0 % 4 = 1 := pz_gj hE 0 (Nat.le_of_ble_eq_true rfl) rfl
  have j1 : ρ 1 % 4 = 1 := pz_gj hE 1 (Nat.le_of_ble_eq_true rfl) rfl
  obtain ⟨i2a, i2b, i2c, i2d⟩ := pz_gi hE 2 0 4294967295 (Nat.le_of_ble_eq_true rfl) rfl
  obtain ⟨i3a, i3b, i3c, i3d⟩ := pz_gi hE 3 2147483648 2147483658 (Nat.le_of_ble_eq_true rfl) rfl
  have c_switches : ay_at hp 10 0 = some (ρ 3) := ay_gfj hE 50 0 15 10 0 ax_m1 (ax_vlq rfl rfl) (ax_vlj rfl rfl)
  have s1 : (ρ 2 / 4 + 2147483648) % 4294967296 + (4 / 4 + 2147483648) % 4294967296 = (ρ 3 / 4 + 2147483648) % 4294967296 + 2147483648 := pz_gs hE 11 4 15 ax_m2
  obtain ⟨-, -, -, -, F53⟩ : ay_ex hp 8 ∧ ay_ex hp 10 ∧ ay_ex hp 11 ∧ ay_ex hp 12 ∧ pz_x53 (ρ 0) (ρ 1) (ay_at hp 8 5) (ay_at hp 10 0) (ay_at hp 10 1) (ay_at hp 10 2) (ay_at hp 10 3) (ay_at hp 10 4) (ay_at hp 8 9) (ay_at hp 8 11) (ay_at hp 8 10) (ay_at hp 8 3) (ay_at hp 8 4) (ay_at hp 11) (ay_at hp 12) := (ax_XF_lt (x := 53) (Nat.le_of_ble_eq_true rfl)).mp (ax_gx hE (53, [3, 7]) ax_m0)
  rw [c_switches] at F53
  refine ⟨(fun y hy => by cases hy), _, List.mem_cons_self, ρ, fun _ _ => rfl, ax_px hE rfl (fun y hy => ?_)⟩
  cases List.mem_singleton.mp hy
  refine (ax_XF_lt (x := 103) (Nat.le_of_ble_eq_true rfl)).mpr ?_
  show pz_x103 (ρ 0) (ρ 1) (ρ 2)
  have e : ρ 3 / 4 = pz_no (pz_cf (pz_gt (ρ 0)) (pz_gN (ρ 0)) (ρ 1 / 4)) := F53.2.1
  show (ρ 2 / 4 + 2147483648) % 4294967296 + 1 = pz_no (pz_cf (pz_gt (ρ 0)) (pz_gN (ρ 0)) (ρ 1 / 4)) + 2147483648
  omega

theorem axq_rl_ro2 : ax_RO ax_wC ax_XC axu_rl_ro2 := by
  intro ρ hp hE hT
  have j0 : ρ 0 % 4 = 1 := pz_gj hE 0 (Nat.le_of_ble_eq_true rfl) rfl
  have j1 : ρ 1 % 4 = 1 := pz_gj hE 1 (Nat.le_of_ble_eq_true rfl) rfl
  obtain ⟨i2a, i2b, i2c, i2d⟩ := pz_gi hE 2 2147483648 2147483657 (Nat.le_of_ble_eq_true rfl) rfl
  have j3 : ρ 3 % 4 = 1 := pz_gj hE 3 (Nat.le_of_ble_eq_true rfl) rfl
  have o1 : ρ 3 < ρ 1 := pz_go hE 15 7 (by decide)
  obtain ⟨-, -, -, -, F50⟩ : ay_ex hp 8 ∧ ay_ex hp 10 ∧ ay_ex hp 11 ∧ ay_ex hp 12 ∧ pz_x50 (ρ 0) (ρ 1) (ay_at hp 8 5) (ay_at hp 8 6) (ay_at hp 8 7) (ay_at hp 8 8) (ay_at hp 10 0) (ay_at hp 10 1) (ay_at hp 10 2) (ay_at hp 10 3) (ay_at hp 10 4) (ay_at hp 8 9) (ay_at hp 8 11) (ay_at hp 8 10) (ay_at hp 8 3) (ay_at hp 8 4) (ay_at hp 11) (ay_at hp 12) := (ax_XF_lt (x := 50) (Nat.le_of_ble_eq_true rfl)).mp (ax_gx hE (50, [3, 7]) ax_m0)
  have F76 : pz7 (pz_gt (ρ 0)) (pz_gN (ρ 0)) ((ρ 1) / 4) 6 := (ax_XF_lt (x := 76) (Nat.le_of_ble_eq_true rfl)).mp (ax_gx hE (76, [3, 7]) ax_m1)
  have F104 : pz104 (pz_gt (ρ 0)) (pz_gN (ρ 0)) ((ρ 1) / 4) ((ρ 2) / 4) := (ax_XF_lt (x := 104) (Nat.le_of_ble_eq_true rfl)).mp (ax_gx hE (104, [3, 7, 11]) ax_m2)
  have st := pq_rl_ro2 F50 F76 F104
  obtain ⟨ρ', h1, h2⟩ := pz_pn1 (K := ρ 1 / 4 + 1) (xf := [(553, [50, 8, 11, 3, 19]), (72, [3, 19]), (1030, [15, 19]), (98, [7, 19])]) hE (by decide) (fun ρ' h1 h2 x hx => by
    have q0 : ρ' 0 = ρ 0 := h1 0 (by decide)
    have q1 : ρ' 1 = ρ 1 := h1 1 (by decide)
    have q2 : ρ' 2 = ρ 2 := h1 2 (by decide)
    have q3 : ρ' 3 = ρ 3 := h1 3 (by decide)
    rcases List.mem_cons.mp hx with e | hx
    · subst e
      refine (ax_XF_wr (x := 53) (Nat.le_of_ble_eq_true rfl)).mpr ?_
      show ay_ex (ax_upd hp 50 (8) (ρ' 2)) 8 ∧ ay_ex (ax_upd hp 50 (8) (ρ' 2)) 10 ∧ ay_ex (ax_upd hp 50 (8) (ρ' 2)) 11 ∧ ay_ex (ax_upd hp 50 (8) (ρ' 2)) 12 ∧ pz_x53 (ρ' 0) (ρ' 4) (ay_at (ax_upd hp 50 (8) (ρ' 2)) 8 5) (ay_at (ax_upd hp 50 (8) (ρ' 2)) 10 0) (ay_at (ax_upd hp 50 (8) (ρ' 2)) 10 1) (ay_at (ax_upd hp 50 (8) (ρ' 2)) 10 2) (ay_at (ax_upd hp 50 (8) (ρ' 2)) 10 3) (ay_at (ax_upd hp 50 (8) (ρ' 2)) 10 4) (ay_at (ax_upd hp 50 (8) (ρ' 2)) 8 9) (ay_at (ax_upd hp 50 (8) (ρ' 2)) 8 11) (ay_at (ax_upd hp 50 (8) (ρ' 2)) 8 10) (ay_at (ax_upd hp 50 (8) (ρ' 2)) 8 3) (ay_at (ax_upd hp 50 (8) (ρ' 2)) 8 4) (ay_at (ax_upd hp 50 (8) (ρ' 2)) 11) (ay_at (ax_upd hp 50 (8) (ρ' 2)) 12)
      rw [q0, q2, h2]
      obtain ⟨o0, ho0⟩ := ay_some hT (q := 10) (g := 1) (n := 12) rfl rfl (j := 8 / 4) (Nat.le_of_ble_eq_true rfl)
      have u1 : ∀ q, q ≠ 10 → ay_at (ax_upd hp 50 8 (ρ 2)) q = ay_at hp q := fun q hq => funext (fun j => ay_upd_ne hT.1 hq j)
      have u2 : ∀ j, ay_at (ax_upd hp 50 8 (ρ 2)) 10 j = if j = 2 then some (ρ 2) else ay_at hp 10 j := fun j => ay_upd_eq hT.1 rfl ho0 j
      refine ⟨ay_ex_upd hT.1 (ax_cellT hT (q := 8) (g := 2) rfl), ay_ex_upd hT.1 (ax_cellT hT (q := 10) (g := 1) rfl), ay_ex_upd hT.1 (ax_cellT hT (q := 11) (g := 14) rfl), ay_ex_upd hT.1 (ax_cellT hT (q := 12) (g := 15) rfl), ?_⟩
      rw [u1 8 (Nat.ne_of_beq_eq_false rfl), u2 0, if_neg (show ¬ 0 = 2 from Nat.ne_of_beq_eq_false rfl), u2 1, if_neg (show ¬ 1 = 2 from Nat.ne_of_beq_eq_false rfl), u2 2, if_pos rfl, u2 3, if_neg (show ¬ 3 = 2 from Nat.ne_of_beq_eq_false rfl), u2 4, if_neg (show ¬ 4 = 2 from Nat.ne_of_beq_eq_false rfl), u1 11 (Nat.ne_of_beq_eq_false rfl), u1 12 (Nat.ne_of_beq_eq_false rfl)]
      exact pz_53 (pz_41 _) rfl st.1
    rcases List.mem_cons.mp hx with e | hx
    · subst e
      refine (ax_XF_lt (x := 72) (Nat.le_of_ble_eq_true rfl)).mpr ?_
      show pz7 (pz_gt (ρ' 0)) (pz_gN (ρ' 0)) ((ρ' 4) / 4) 2
      rw [q0, h2]
      rw [pz_41]
      exact st.2
    rcases List.mem_cons.mp hx with e | hx
    · subst e
      refine (ax_XF_bi (o := 30) (by decide)).mpr (Or.inr ⟨rfl, ?_⟩)
      show ρ' 3 < ρ' 4
      rw [q3, h2]
      omega
    cases List.mem_singleton.mp hx
    refine (ax_XF_lt (x := 98) (Nat.le_of_ble_eq_true rfl)).mpr ?_
    show (ρ' 4) / 4 = (ρ' 1) / 4 + 1
    rw [q1, h2]
    rw [pz_41])
  exact ⟨(fun y hy => by cases hy), _, List.mem_cons_self, ρ', h1, h2⟩

theorem axq_rl_rm2 : ax_RO ax_wC ax_XC axu_rl_rm2 := by
  intro ρ hp hE hT
  have j0 : ρ 0 % 4 = 1 := pz_gj hE 0 (Nat.le_of_ble_eq_true rfl) rfl
  have j1 : ρ 1 % 4 = 1 := pz_gj hE 1 (Nat.le_of_ble_eq_true rfl) rfl
  obtain ⟨i2a, i2b, i2c, i2d⟩ := pz_gi hE 2 2147483649 2147483651 (Nat.le_of_ble_eq_true rfl) rfl
  have j3 : ρ 3 % 4 = 1 := pz_gj hE 3 (Nat.le_of_ble_eq_true rfl) rfl
  have o1 : ρ 3 < ρ 1 := pz_go hE 15 7 (by decide)
  obtain ⟨-, -, -, -, F50⟩ : ay_ex hp 8 ∧ ay_ex hp 10 ∧ ay_ex hp 11 ∧ ay_ex hp 12 ∧ pz_x50 (ρ 0) (ρ 1) (ay_at hp 8 5) (ay_at hp 8 6) (ay_at hp 8 7) (ay_at hp 8 8) (ay_at hp 10 0) (ay_at hp 10 1) (ay_at hp 10 2) (ay_at hp 10 3) (ay_at hp 10 4) (ay_at hp 8 9) (ay_at hp 8 11) (ay_at hp 8 10) (ay_at hp 8 3) (ay_at hp 8 4) (ay_at hp 11) (ay_at hp 12) := (ax_XF_lt (x := 50) (Nat.le_of_ble_eq_true rfl)).mp (ax_gx hE (50, [3, 7]) ax_m0)
  have F77 : pz7 (pz_gt (ρ 0)) (pz_gN (ρ 0)) ((ρ 1) / 4) 7 := (ax_XF_lt (x := 77) (Nat.le_of_ble_eq_true rfl)).mp (ax_gx hE (77, [3, 7]) ax_m1)
  have F66 : pz66 (pz_gt (ρ 0)) (pz_gN (ρ 0)) ((ρ 1) / 4) ((ρ 2) / 4) := (ax_XF_lt (x := 66) (Nat.le_of_ble_eq_true rfl)).mp (ax_gx hE (66, [3, 7, 11]) ax_m2)
  have st := pq_rl_rm2 F50 F77 F66 (by omega) (by omega)
  obtain ⟨ρ', h1, h2⟩ := pz_pn1 (K := ρ 1 / 4 + 1) (xf := [(553, [50, 12, 11, 3, 19]), (72, [3, 19]), (1030, [15, 19]), (98, [7, 19])]) hE (by decide) (fun ρ' h1 h2 x hx => by
    have q0 : ρ' 0 = ρ 0 := h1 0 (by decide)
    have q1 : ρ' 1 = ρ 1 := h1 1 (by decide)
    have q2 : ρ' 2 = ρ 2 := h1 2 (by decide)
    have q3 : ρ' 3 = ρ 3 := h1 3 (by decide)
    rcases List.mem_cons.mp hx with e | hx
    · subst e
      refine (ax_XF_wr (x := 53) (Nat.le_of_ble_eq_true rfl)).mpr ?_
      show ay_ex (ax_upd hp 50 (12) (ρ' 2)) 8 ∧ ay_ex (ax_upd hp 50 (12) (ρ' 2)) 10 ∧ ay_ex (ax_upd hp 50 (12) (ρ' 2)) 11 ∧ ay_ex (ax_upd hp 50 (12) (ρ' 2)) 12 ∧ pz_x53 (ρ' 0) (ρ' 4) (ay_at (ax_upd hp 50 (12) (ρ' 2)) 8 5) (ay_at (ax_upd hp 50 (12) (ρ' 2)) 10 0) (ay_at (ax_upd hp 50 (12) (ρ' 2)) 10 1) (ay_at (ax_upd hp 50 (12) (ρ' 2)) 10 2) (ay_at (ax_upd hp 50 (12) (ρ' 2)) 10 3) (ay_at (ax_upd hp 50 (12) (ρ' 2)) 10 4) (ay_at (ax_upd hp 50 (12) (ρ' 2)) 8 9) (ay_at (ax_upd hp 50 (12) (ρ' 2)) 8 11) (ay_at (ax_upd hp 50 (12) (ρ' 2)) 8 10) (ay_at (ax_upd hp 50 (12) (ρ' 2)) 8 3) (ay_at (ax_upd hp 50 (12) (ρ' 2)) 8 4) (ay_at (ax_upd hp 50 (12) (ρ' 2)) 11) (ay_at (ax_upd hp 50 (12) (ρ' 2)) 12)
      rw [q0, q2, h2]
      obtain ⟨o0, ho0⟩ := ay_some hT (q := 10) (g := 1) (n := 12) rfl rfl (j := 12 / 4) (Nat.le_of_ble_eq_true rfl)
      have u1 : ∀ q, q ≠ 10 → ay_at (ax_upd hp 50 12 (ρ 2)) q = ay_at hp q := fun q hq => funext (fun j => ay_upd_ne hT.1 hq j)
      have u2 : ∀ j, ay_at (ax_upd hp 50 12 (ρ 2)) 10 j = if j = 3 then some (ρ 2) else ay_at hp 10 j := fun j => ay_upd_eq hT.1 rfl ho0 j
      refine ⟨ay_ex_upd hT.1 (ax_cellT hT (q := 8) (g := 2) rfl), ay_ex_upd hT.1 (ax_cellT hT (q := 10) (g := 1) rfl), ay_ex_upd hT.1 (ax_cellT hT (q := 11) (g := 14) rfl), ay_ex_upd hT.1 (ax_cellT hT (q := 12) (g := 15) rfl), ?_⟩
      rw [u1 8 (Nat.ne_of_beq_eq_false rfl), u2 0, if_neg (show ¬ 0 = 3 from Nat.ne_of_beq_eq_false rfl), u2 1, if_neg (show ¬ 1 = 3 from Nat.ne_of_beq_eq_false rfl), u2 2, if_neg (show ¬ 2 = 3 from Nat.ne_of_beq_eq_false rfl), u2 3, if_pos rfl, u2 4, if_neg (show ¬ 4 = 3 from Nat.ne_of_beq_eq_false rfl), u1 11 (Nat.ne_of_beq_eq_false rfl), u1 12 (Nat.ne_of_beq_eq_false rfl)]
      exact pz_53 (pz_41 _) rfl st.1
    rcases List.mem_cons.mp hx with e | hx
    · subst e
      refine (ax_XF_lt (x := 72) (Nat.le_of_ble_eq_true rfl)).mpr ?_
      show pz7 (pz_gt (ρ' 0)) (pz_gN (ρ' 0)) ((ρ' 4) / 4) 2
      rw [q0, h2]
      rw [pz_41]
      exact st.2
    rcases List.mem_cons.mp hx with e | hx
    · subst e
      refine (ax_XF_bi (o := 30) (by decide)).mpr (Or.inr ⟨rfl, ?_⟩)
      show ρ' 3 < ρ' 4
      rw [q3, h2]
      omega
    cases List.mem_singleton.mp hx
    refine (ax_XF_lt (x := 98) (Nat.le_of_ble_eq_true rfl)).mpr ?_
    show (ρ' 4) / 4 = (ρ' 1) / 4 + 1
    rw [q1, h2]
    rw [pz_41])
  exact ⟨(fun y hy => by cases hy), _, List.mem_cons_self, ρ', h1, h2⟩

theorem axq_rl_n2 : ax_RO ax_wC ax_XC axu_rl_n2 := by
  intro ρ hp hE hT
  have j0 : ρ 0 % 4 = 1 := pz_gj hE 0 (Nat.le_of_ble_eq_true rfl) rfl
  have j1 : ρ 1 % 4 = 1 := pz_gj hE 1 (Nat.le_of_ble_eq_true rfl) rfl
  obtain ⟨-, -, -, -, F50⟩ : ay_ex hp 8 ∧ ay_ex hp 10 ∧ ay_ex hp 11 ∧ ay_ex hp 12 ∧ pz_x50 (ρ 0) (ρ 1) (ay_at hp 8 5) (ay_at hp 8 6) (ay_at hp 8 7) (ay_at hp 8 8) (ay_at hp 10 0) (ay_at hp 10 1) (ay_at hp 10 2) (ay_at hp 10 3) (ay_at hp 10 4) (ay_at hp 8 9) (ay_at hp 8 11) (ay_at hp 8 10) (ay_at hp 8 3) (ay_at hp 8 4) (ay_at hp 11) (ay_at hp 12) := (ax_XF_lt (x := 50) (Nat.le_of_ble_eq_true rfl)).mp (ax_gx hE (50, [3, 7]) ax_m0)
  have F61 : pz61 (pz_gt (ρ 0)) (pz_gN (ρ 0)) ((ρ 1) / 4) ((4010) / 4 - 1000) := (ax_XF_lt (x := 61) (Nat.le_of_ble_eq_true rfl)).mp (ax_gx hE (61, [3, 7, 4010]) ax_m1)
  refine ⟨(fun y hy => by cases hy), _, List.mem_cons_self, ρ, fun _ _ => rfl, ax_px hE rfl (fun y hy => ?_)⟩
  cases List.mem_singleton.mp hy
  refine (ax_XF_lt (x := 122) (Nat.le_of_ble_eq_true rfl)).mpr ?_
  show ay_ex hp 8 ∧ (pz61 (pz_gt (ρ 0)) (pz_gN (ρ 0)) ((ρ 1) / 4) 2 ∨ ay_ln (ay_at hp 8 9) = 1)
  refine ⟨(ax_cellT hT (q := 8) (g := 2) rfl), ?_⟩
  exact Or.inl F61

theorem axq_rl_t2 : ax_RO ax_wC ax_XC axu_rl_t2 := by
  intro ρ hp hE hT
  have j0 : ρ 0 % 4 = 1 := pz_gj hE 0 (Nat.le_of_ble_eq_true rfl) rfl
  have j1 : ρ 1 % 4 = 1 := pz_gj hE 1 (Nat.le_of_ble_eq_true rfl) rfl
  obtain ⟨i2a, i2b, i2c, i2d⟩ := pz_gi hE 2 2147483649 2147483649 (Nat.le_of_ble_eq_true rfl) rfl
  have c_rootTold : ay_at hp 8 9 = some (ρ 2) := ay_gfj hE 42 36 11 8 9 ax_m1 (ax_vlq rfl rfl) (ax_vlj rfl rfl)
  obtain ⟨-, -, -, -, F50⟩ : ay_ex hp 8 ∧ ay_ex hp 10 ∧ ay_ex hp 11 ∧ ay_ex hp 12 ∧ pz_x50 (ρ 0) (ρ 1) (ay_at hp 8 5) (ay_at hp 8 6) (ay_at hp 8 7) (ay_at hp 8 8) (ay_at hp 10 0) (ay_at hp 10 1) (ay_at hp 10 2) (ay_at hp 10 3) (ay_at hp 10 4) (ay_at hp 8 9) (ay_at hp 8 11) (ay_at hp 8 10) (ay_at hp 8 3) (ay_at hp 8 4) (ay_at hp 11) (ay_at hp 12) := (ax_XF_lt (x := 50) (Nat.le_of_ble_eq_true rfl)).mp (ax_gx hE (50, [3, 7]) ax_m0)
  rw [c_rootTold] at F50
  refine ⟨(fun y hy => by cases hy), _, List.mem_cons_self, ρ, fun _ _ => rfl, ax_px hE rfl (fun y hy => ?_)⟩
  cases List.mem_singleton.mp hy
  refine (ax_XF_lt (x := 122) (Nat.le_of_ble_eq_true rfl)).mpr ?_
  show ay_ex hp 8 ∧ (pz61 (pz_gt (ρ 0)) (pz_gN (ρ 0)) ((ρ 1) / 4) 2 ∨ ay_ln (ay_at hp 8 9) = 1)
  refine ⟨(ax_cellT hT (q := 8) (g := 2) rfl), ?_⟩
  rw [c_rootTold]
  exact Or.inr (show ρ 2 / 4 = 1 by omega)

theorem axq_rl_n3 : ax_RO ax_wC ax_XC axu_rl_n3 := by
  intro ρ hp hE hT
  have j0 : ρ 0 % 4 = 1 := pz_gj hE 0 (Nat.le_of_ble_eq_true rfl) rfl
  have j1 : ρ 1 % 4 = 1 := pz_gj hE 1 (Nat.le_of_ble_eq_true rfl) rfl
  obtain ⟨-, -, -, -, F50⟩ : ay_ex hp 8 ∧ ay_ex hp 10 ∧ ay_ex hp 11 ∧ ay_ex hp 12 ∧ pz_x50 (ρ 0) (ρ 1) (ay_at hp 8 5) (ay_at hp 8 6) (ay_at hp 8 7) (ay_at hp 8 8) (ay_at hp 10 0) (ay_at hp 10 1) (ay_at hp 10 2) (ay_at hp 10 3) (ay_at hp 10 4) (ay_at hp 8 9) (ay_at hp 8 11) (ay_at hp 8 10) (ay_at hp 8 3) (ay_at hp 8 4) (ay_at hp 11) (ay_at hp 12) := (ax_XF_lt (x := 50) (Nat.le_of_ble_eq_true rfl)).mp (ax_gx hE (50, [3, 7]) ax_m0)
  have F61 : pz61 (pz_gt (ρ 0)) (pz_gN (ρ 0)) ((ρ 1) / 4) ((4014) / 4 - 1000) := (ax_XF_lt (x := 61) (Nat.le_of_ble_eq_true rfl)).mp (ax_gx hE (61, [3, 7, 4014]) ax_m1)
  refine ⟨(fun y hy => by cases hy), _, List.mem_cons_self, ρ, fun _ _ => rfl, ax_px hE rfl (fun y hy => ?_)⟩
  cases List.mem_singleton.mp hy
  refine (ax_XF_lt (x := 123) (Nat.le_of_ble_eq_true rfl)).mpr ?_
  show ay_ex hp 8 ∧ (pz61 (pz_gt (ρ 0)) (pz_gN (ρ 0)) ((ρ 1) / 4) 3 ∨ ay_ln (ay_at hp 8 11) = 1)
  refine ⟨(ax_cellT hT (q := 8) (g := 2) rfl), ?_⟩
  exact Or.inl F61

theorem axq_rl_t3 : ax_RO ax_wC ax_XC axu_rl_t3 := by
  intro ρ hp hE hT
  have j0 : ρ 0 % 4 = 1 := pz_gj hE 0 (Nat.le_of_ble_eq_true rfl) rfl
  have j1 : ρ 1 % 4 = 1 := pz_gj hE 1 (Nat.le_of_ble_eq_true rfl) rfl
  obtain ⟨i2a, i2b, i2c, i2d⟩ := pz_gi hE 2 2147483649 2147483649 (Nat.le_of_ble_eq_true rfl) rfl
  have c_roomTold : ay_at hp 8 11 = some (ρ 2) := ay_gfj hE 42 44 11 8 11 ax_m1 (ax_vlq rfl rfl) (ax_vlj rfl rfl)
  obtain ⟨-, -, -, -, F50⟩ : ay_ex hp 8 ∧ ay_ex hp 10 ∧ ay_ex hp 11 ∧ ay_ex hp 12 ∧ pz_x50 (ρ 0) (ρ 1) (ay_at hp 8 5) (ay_at hp 8 6) (ay_at hp 8 7) (ay_at hp 8 8) (ay_at hp 10 0) (ay_at hp 10 1) (ay_at hp 10 2) (ay_at hp 10 3) (ay_at hp 10 4) (ay_at hp 8 9) (ay_at hp 8 11) (ay_at hp 8 10) (ay_at hp 8 3) (ay_at hp 8 4) (ay_at hp 11) (ay_at hp 12) := (ax_XF_lt (x := 50) (Nat.le_of_ble_eq_true rfl)).mp (ax_gx hE (50, [3, 7]) ax_m0)
  rw [c_roomTold] at F50
  refine ⟨(fun y hy => by cases hy), _, List.mem_cons_self, ρ, fun _ _ => rfl, ax_px hE rfl (fun y hy => ?_)⟩
  cases List.mem_singleton.mp hy
  refine (ax_XF_lt (x := 123) (Nat.le_of_ble_eq_true rfl)).mpr ?_
  show ay_ex hp 8 ∧ (pz61 (pz_gt (ρ 0)) (pz_gN (ρ 0)) ((ρ 1) / 4) 3 ∨ ay_ln (ay_at hp 8 11) = 1)
  refine ⟨(ax_cellT hT (q := 8) (g := 2) rfl), ?_⟩
  rw [c_roomTold]
  exact Or.inr (show ρ 2 / 4 = 1 by omega)

theorem axq_rl_n4 : ax_RO ax_wC ax_XC axu_rl_n4 := by
  intro ρ hp hE hT
  have j0 : ρ 0 % 4 = 1 := pz_gj hE 0 (Nat.le_of_ble_eq_true rfl) rfl
  have j1 : ρ 1 % 4 = 1 := pz_gj hE 1 (Nat.le_of_ble_eq_true rfl) rfl
  obtain ⟨-, -, -, -, F50⟩ : ay_ex hp 8 ∧ ay_ex hp 10 ∧ ay_ex hp 11 ∧ ay_ex hp 12 ∧ pz_x50 (ρ 0) (ρ 1) (ay_at hp 8 5) (ay_at hp 8 6) (ay_at hp 8 7) (ay_at hp 8 8) (ay_at hp 10 0) (ay_at hp 10 1) (ay_at hp 10 2) (ay_at hp 10 3) (ay_at hp 10 4) (ay_at hp 8 9) (ay_at hp 8 11) (ay_at hp 8 10) (ay_at hp 8 3) (ay_at hp 8 4) (ay_at hp 11) (ay_at hp 12) := (ax_XF_lt (x := 50) (Nat.le_of_ble_eq_true rfl)).mp (ax_gx hE (50, [3, 7]) ax_m0)
  have F61 : pz61 (pz_gt (ρ 0)) (pz_gN (ρ 0)) ((ρ 1) / 4) ((4018) / 4 - 1000) := (ax_XF_lt (x := 61) (Nat.le_of_ble_eq_true rfl)).mp (ax_gx hE (61, [3, 7, 4018]) ax_m1)
  refine ⟨(fun y hy => by cases hy), _, List.mem_cons_self, ρ, fun _ _ => rfl, ax_px hE rfl (fun y hy => ?_)⟩
  cases List.mem_singleton.mp hy
  refine (ax_XF_lt (x := 124) (Nat.le_of_ble_eq_true rfl)).mpr ?_
  show ay_ex hp 8 ∧ (pz61 (pz_gt (ρ 0)) (pz_gN (ρ 0)) ((ρ 1) / 4) 4 ∨ ay_ln (ay_at hp 8 10) = 1)
  refine ⟨(ax_cellT hT (q := 8) (g := 2) rfl), ?_⟩
  exact Or.inl F61

theorem axq_rl_t4 : ax_RO ax_wC ax_XC axu_rl_t4 := by
  intro ρ hp hE hT
  have j0 : ρ 0 % 4 = 1 := pz_gj hE 0 (Nat.le_of_ble_eq_true rfl) rfl
  have j1 : ρ 1 % 4 = 1 := pz_gj hE 1 (Nat.le_of_ble_eq_true rfl) rfl
  obtain ⟨i2a, i2b, i2c, i2d⟩ := pz_gi hE 2 2147483649 2147483649 (Nat.le_of_ble_eq_true rfl) rfl
  have c_rankTold : ay_at hp 8 10 = some (ρ 2) := ay_gfj hE 42 40 11 8 10 ax_m1 (ax_vlq rfl rfl) (ax_vlj rfl rfl)
  obtain ⟨-, -, -, -, F50⟩ : ay_ex hp 8 ∧ ay_ex hp 10 ∧ ay_ex hp 11 ∧ ay_ex hp 12 ∧ pz_x50 (ρ 0) (ρ 1) (ay_at hp 8 5) (ay_at hp 8 6) (ay_at hp 8 7) (ay_at hp 8 8) (ay_at hp 10 0) (ay_at hp 10 1) (ay_at hp 10 2) (ay_at hp 10 3) (ay_at hp 10 4) (ay_at hp 8 9) (ay_at hp 8 11) (ay_at hp 8 10) (ay_at hp 8 3) (ay_at hp 8 4) (ay_at hp 11) (ay_at hp 12) := (ax_XF_lt (x := 50) (Nat.le_of_ble_eq_true rfl)).mp (ax_gx hE (50, [3, 7]) ax_m0)
  rw [c_rankTold] at F50
  refine ⟨(fun y hy => by cases hy), _, List.mem_cons_self, ρ, fun _ _ => rfl, ax_px hE rfl (fun y hy => ?_)⟩
  cases List.mem_singleton.mp hy
  refine (ax_XF_lt (x := 124) (Nat.le_of_ble_eq_true rfl)).mpr ?_
  show ay_ex hp 8 ∧ (pz61 (pz_gt (ρ 0)) (pz_gN (ρ 0)) ((ρ 1) / 4) 4 ∨ ay_ln (ay_at hp 8 10) = 1)
  refine ⟨(ax_cellT hT (q := 8) (g := 2) rfl), ?_⟩
  rw [c_rankTold]
  exact Or.inr (show ρ 2 / 4 = 1 by omega)

theorem axq_rl_f : ax_RO ax_wC ax_XC axu_rl_f := by
  intro ρ hp hE hT
  have j0 : ρ 0 % 4 = 1 := pz_gj hE 0 (Nat.le_of_ble_eq_true rfl) rfl
  have j1 : ρ 1 % 4 = 1 := pz_gj hE 1 (Nat.le_of_ble_eq_true rfl) rfl
  obtain ⟨-, -, -, -, F50⟩ : ay_ex hp 8 ∧ ay_ex hp 10 ∧ ay_ex hp 11 ∧ ay_ex hp 12 ∧ pz_x50 (ρ 0) (ρ 1) (ay_at hp 8 5) (ay_at hp 8 6) (ay_at hp 8 7) (ay_at hp 8 8) (ay_at hp 10 0) (ay_at hp 10 1) (ay_at hp 10 2) (ay_at hp 10 3) (ay_at hp 10 4) (ay_at hp 8 9) (ay_at hp 8 11) (ay_at hp 8 10) (ay_at hp 8 3) (ay_at hp 8 4) (ay_at hp 11) (ay_at hp 12) := (ax_XF_lt (x := 50) (Nat.le_of_ble_eq_true rfl)).mp (ax_gx hE (50, [3, 7]) ax_m0)
  have F73 : pz7 (pz_gt (ρ 0)) (pz_gN (ρ 0)) ((ρ 1) / 4) 3 := (ax_XF_lt (x := 73) (Nat.le_of_ble_eq_true rfl)).mp (ax_gx hE (73, [3, 7]) ax_m1)
  have F111 : pz111 (pz_gt (ρ 0)) (pz_gN (ρ 0)) ((ρ 1) / 4) := (ax_XF_lt (x := 111) (Nat.le_of_ble_eq_true rfl)).mp (ax_gx hE (111, [3, 7]) ax_m2)
  have F61 : pz61 (pz_gt (ρ 0)) (pz_gN (ρ 0)) ((ρ 1) / 4) ((4006) / 4 - 1000) := (ax_XF_lt (x := 61) (Nat.le_of_ble_eq_true rfl)).mp (ax_gx hE (61, [3, 7, 4006]) ax_m3)
  obtain ⟨-, F122⟩ : ay_ex hp 8 ∧ (pz61 (pz_gt (ρ 0)) (pz_gN (ρ 0)) ((ρ 1) / 4) 2 ∨ ay_ln (ay_at hp 8 9) = 1) := (ax_XF_lt (x := 122) (Nat.le_of_ble_eq_true rfl)).mp (ax_gx hE (122, [3, 7]) ax_m4)
  obtain ⟨-, F123⟩ : ay_ex hp 8 ∧ (pz61 (pz_gt (ρ 0)) (pz_gN (ρ 0)) ((ρ 1) / 4) 3 ∨ ay_ln (ay_at hp 8 11) = 1) := (ax_XF_lt (x := 123) (Nat.le_of_ble_eq_true rfl)).mp (ax_gx hE (123, [3, 7]) ax_m5)
  obtain ⟨-, F124⟩ : ay_ex hp 8 ∧ (pz61 (pz_gt (ρ 0)) (pz_gN (ρ 0)) ((ρ 1) / 4) 4 ∨ ay_ln (ay_at hp 8 10) = 1) := (ax_XF_lt (x := 124) (Nat.le_of_ble_eq_true rfl)).mp (ax_gx hE (124, [3, 7]) ax_m6)
  refine ⟨(fun y hy => by cases hy), _, List.mem_cons_self, ρ, fun _ _ => rfl, ax_px hE rfl (fun y hy => ?_)⟩
  cases List.mem_singleton.mp hy
  refine (ax_XF_lt (x := 64) (Nat.le_of_ble_eq_true rfl)).mpr ?_
  show pz64 (pz_gt (ρ 0)) (pz_gN (ρ 0)) ((ρ 1) / 4) ((4) / 4)
  exact pq_rl_f F50 F73 F111 F61 F122 F123 F124

theorem axq_rl_tr1 : ax_RO ax_wC ax_XC axu_rl_tr1 := by
  intro ρ hp hE hT
  have j0 : ρ 0 % 4 = 1 := pz_gj hE 0 (Nat.le_of_ble_eq_true rfl) rfl
  have j1 : ρ 1 % 4 = 1 := pz_gj hE 1 (Nat.le_of_ble_eq_true rfl) rfl
  have j2 : ρ 2 % 4 = 1 := pz_gj hE 2 (Nat.le_of_ble_eq_true rfl) rfl
  have j3 : ρ 3 % 4 = 1 := pz_gj hE 3 (Nat.le_of_ble_eq_true rfl) rfl
  have o1 : ρ 2 < ρ 3 := pz_go hE 11 15 (by decide)
  have o2 : ρ 1 < ρ 2 := pz_go hE 7 11 (by decide)
  obtain ⟨-, -, -, -, F50⟩ : ay_ex hp 8 ∧ ay_ex hp 10 ∧ ay_ex hp 11 ∧ ay_ex hp 12 ∧ pz_x50 (ρ 0) (ρ 3) (ay_at hp 8 5) (ay_at hp 8 6) (ay_at hp 8 7) (ay_at hp 8 8) (ay_at hp 10 0) (ay_at hp 10 1) (ay_at hp 10 2) (ay_at hp 10 3) (ay_at hp 10 4) (ay_at hp 8 9) (ay_at hp 8 11) (ay_at hp 8 10) (ay_at hp 8 3) (ay_at hp 8 4) (ay_at hp 11) (ay_at hp 12) := (ax_XF_lt (x := 50) (Nat.le_of_ble_eq_true rfl)).mp (ax_gx hE (50, [3, 15]) ax_m0)
  refine ⟨(fun y hy => by cases hy), _, List.mem_cons_self, ρ, fun _ _ => rfl, ax_px hE rfl (fun y hy => ?_)⟩
  cases List.mem_singleton.mp hy
  refine (ax_XF_bi (o := 30) (by decide)).mpr (Or.inr ⟨rfl, ?_⟩)
  show ρ 1 < ρ 3
  omega

theorem axq_rl_tr2 : ax_RO ax_wC ax_XC axu_rl_tr2 := by
  intro ρ hp hE hT
  have j0 : ρ 0 % 4 = 1 := pz_gj hE 0 (Nat.le_of_ble_eq_true rfl) rfl
  have j1 : ρ 1 % 4 = 1 := pz_gj hE 1 (Nat.le_of_ble_eq_true rfl) rfl
  have j2 : ρ 2 % 4 = 1 := pz_gj hE 2 (Nat.le_of_ble_eq_true rfl) rfl
  have j3 : ρ 3 % 4 = 1 := pz_gj hE 3 (Nat.le_of_ble_eq_true rfl) rfl
  have o1 : ρ 2 < ρ 3 := pz_go hE 11 15 (by decide)
  have o2 : ρ 1 < ρ 2 := pz_go hE 7 11 (by decide)
  obtain ⟨-, -, -, -, F50⟩ : ay_ex hp 8 ∧ ay_ex hp 10 ∧ ay_ex hp 11 ∧ ay_ex hp 12 ∧ pz_x50 (ρ 0) (ρ 3) (ay_at hp 8 5) (ay_at hp 8 6) (ay_at hp 8 7) (ay_at hp 8 8) (ay_at hp 10 0) (ay_at hp 10 1) (ay_at hp 10 2) (ay_at hp 10 3) (ay_at hp 10 4) (ay_at hp 8 9) (ay_at hp 8 11) (ay_at hp 8 10) (ay_at hp 8 3) (ay_at hp 8 4) (ay_at hp 11) (ay_at hp 12) := (ax_XF_lt (x := 50) (Nat.le_of_ble_eq_true rfl)).mp (ax_gx hE (50, [3, 15]) ax_m0)
  refine ⟨(fun y hy => by cases hy), _, List.mem_cons_self, ρ, fun _ _ => rfl, ax_px hE rfl (fun y hy => ?_)⟩
  cases List.mem_singleton.mp hy
  refine (ax_XF_bi (o := 30) (by decide)).mpr (Or.inr ⟨rfl, ?_⟩)
  show ρ 1 < ρ 3
  omega

theorem axq_rl_tr3 : ax_RO ax_wC ax_XC axu_rl_tr3 := by
  intro ρ hp hE hT
  have j0 : ρ 0 % 4 = 1 := pz_gj hE 0 (Nat.le_of_ble_eq_true rfl) rfl
  have j1 : ρ 1 % 4 = 1 := pz_gj hE 1 (Nat.le_of_ble_eq_true rfl) rfl
  have j2 : ρ 2 % 4 = 1 := pz_gj hE 2 (Nat.le_of_ble_eq_true rfl) rfl
  have j3 : ρ 3 % 4 = 1 := pz_gj hE 3 (Nat.le_of_ble_eq_true rfl) rfl
  have o1 : ρ 2 < ρ 3 := pz_go hE 11 15 (by decide)
  have o2 : ρ 1 < ρ 2 := pz_go hE 7 11 (by decide)
  obtain ⟨-, -, -, -, F50⟩ : ay_ex hp 8 ∧ ay_ex hp 10 ∧ ay_ex hp 11 ∧ ay_ex hp 12 ∧ pz_x50 (ρ 0) (ρ 3) (ay_at hp 8 5) (ay_at hp 8 6) (ay_at hp 8 7) (ay_at hp 8 8) (ay_at hp 10 0) (ay_at hp 10 1) (ay_at hp 10 2) (ay_at hp 10 3) (ay_at hp 10 4) (ay_at hp 8 9) (ay_at hp 8 11) (ay_at hp 8 10) (ay_at hp 8 3) (ay_at hp 8 4) (ay_at hp 11) (ay_at hp 12) := (ax_XF_lt (x := 50) (Nat.le_of_ble_eq_true rfl)).mp (ax_gx hE (50, [3, 15]) ax_m0)
  refine ⟨(fun y hy => by cases hy), _, List.mem_cons_self, ρ, fun _ _ => rfl, ax_px hE rfl (fun y hy => ?_)⟩
  cases List.mem_singleton.mp hy
  refine (ax_XF_bi (o := 30) (by decide)).mpr (Or.inr ⟨rfl, ?_⟩)
  show ρ 1 < ρ 3
  omega

theorem axq_rl_tr4 : ax_RO ax_wC ax_XC axu_rl_tr4 := by
  intro ρ hp hE hT
  have j0 : ρ 0 % 4 = 1 := pz_gj hE 0 (Nat.le_of_ble_eq_true rfl) rfl
  have j1 : ρ 1 % 4 = 1 := pz_gj hE 1 (Nat.le_of_ble_eq_true rfl) rfl
  have j2 : ρ 2 % 4 = 1 := pz_gj hE 2 (Nat.le_of_ble_eq_true rfl) rfl
  have j3 : ρ 3 % 4 = 1 := pz_gj hE 3 (Nat.le_of_ble_eq_true rfl) rfl
  have o1 : ρ 2 < ρ 3 := pz_go hE 11 15 (by decide)
  have o2 : ρ 1 < ρ 2 := pz_go hE 7 11 (by decide)
  obtain ⟨-, -, -, -, F50⟩ : ay_ex hp 8 ∧ ay_ex hp 10 ∧ ay_ex hp 11 ∧ ay_ex hp 12 ∧ pz_x50 (ρ 0) (ρ 3) (ay_at hp 8 5) (ay_at hp 8 6) (ay_at hp 8 7) (ay_at hp 8 8) (ay_at hp 10 0) (ay_at hp 10 1) (ay_at hp 10 2) (ay_at hp 10 3) (ay_at hp 10 4) (ay_at hp 8 9) (ay_at hp 8 11) (ay_at hp 8 10) (ay_at hp 8 3) (ay_at hp 8 4) (ay_at hp 11) (ay_at hp 12) := (ax_XF_lt (x := 50) (Nat.le_of_ble_eq_true rfl)).mp (ax_gx hE (50, [3, 15]) ax_m0)
  refine ⟨(fun y hy => by cases hy), _, List.mem_cons_self, ρ, fun _ _ => rfl, ax_px hE rfl (fun y hy => ?_)⟩
  cases List.mem_singleton.mp hy
  refine (ax_XF_bi (o := 30) (by decide)).mpr (Or.inr ⟨rfl, ?_⟩)
  show ρ 1 < ρ 3
  omega

theorem axq_lk1 : ax_RO ax_wC ax_XC axu_lk1 := by
  intro ρ hp hE hT
  have j0 : ρ 0 % 4 = 1 := pz_gj hE 0 (Nat.le_of_ble_eq_true rfl) rfl
  have j1 : ρ 1 % 4 = 1 := pz_gj hE 1 (Nat.le_of_ble_eq_true rfl) rfl
  obtain ⟨i2a, i2b, i2c, i2d⟩ := pz_gi hE 2 2147483668 2147483668 (Nat.le_of_ble_eq_true rfl) rfl
  have c_links : ay_at hp 10 1 = some (ρ 2) := ay_gfj hE 50 4 11 10 1 ax_m3 (ax_vlq rfl rfl) (ax_vlj rfl rfl)
  obtain ⟨-, -, -, -, F50⟩ : ay_ex hp 8 ∧ ay_ex hp 10 ∧ ay_ex hp 11 ∧ ay_ex hp 12 ∧ pz_x50 (ρ 0) (ρ 1) (ay_at hp 8 5) (ay_at hp 8 6) (ay_at hp 8 7) (ay_at hp 8 8) (ay_at hp 10 0) (ay_at hp 10 1) (ay_at hp 10 2) (ay_at hp 10 3) (ay_at hp 10 4) (ay_at hp 8 9) (ay_at hp 8 11) (ay_at hp 8 10) (ay_at hp 8 3) (ay_at hp 8 4) (ay_at hp 11) (ay_at hp 12) := (ax_XF_lt (x := 50) (Nat.le_of_ble_eq_true rfl)).mp (ax_gx hE (50, [3, 7]) ax_m0)
  rw [c_links] at F50
  have F73 : pz7 (pz_gt (ρ 0)) (pz_gN (ρ 0)) ((ρ 1) / 4) 3 := (ax_XF_lt (x := 73) (Nat.le_of_ble_eq_true rfl)).mp (ax_gx hE (73, [3, 7]) ax_m1)
  have F60 : pz60 (pz_gt (ρ 0)) (pz_gN (ρ 0)) ((ρ 1) / 4) ((4006) / 4 - 1000) := (ax_XF_lt (x := 60) (Nat.le_of_ble_eq_true rfl)).mp (ax_gx hE (60, [3, 7, 4006]) ax_m2)
  refine ⟨(fun y hy => by cases hy), _, List.mem_cons_self, ρ, fun _ _ => rfl, ax_px hE rfl (fun y hy => ?_)⟩
  cases List.mem_singleton.mp hy
  refine (ax_XF_lt (x := 64) (Nat.le_of_ble_eq_true rfl)).mpr ?_
  show pz64 (pz_gt (ρ 0)) (pz_gN (ρ 0)) ((ρ 1) / 4) ((16) / 4)
  exact pq_lk1 F50 F73 F60 (show ρ 2 / 4 = 20 by omega)

theorem axq_lk2 : ax_RO ax_wC ax_XC axu_lk2 := by
  intro ρ hp hE hT
  have j0 : ρ 0 % 4 = 1 := pz_gj hE 0 (Nat.le_of_ble_eq_true rfl) rfl
  have j1 : ρ 1 % 4 = 1 := pz_gj hE 1 (Nat.le_of_ble_eq_true rfl) rfl
  obtain ⟨i2a, i2b, i2c, i2d⟩ := pz_gi hE 2 2147483648 2147483667 (Nat.le_of_ble_eq_true rfl) rfl
  have c_links : ay_at hp 10 1 = some (ρ 2) := ay_gfj hE 50 4 11 10 1 ax_m3 (ax_vlq rfl rfl) (ax_vlj rfl rfl)
  obtain ⟨-, -, -, -, F50⟩ : ay_ex hp 8 ∧ ay_ex hp 10 ∧ ay_ex hp 11 ∧ ay_ex hp 12 ∧ pz_x50 (ρ 0) (ρ 1) (ay_at hp 8 5) (ay_at hp 8 6) (ay_at hp 8 7) (ay_at hp 8 8) (ay_at hp 10 0) (ay_at hp 10 1) (ay_at hp 10 2) (ay_at hp 10 3) (ay_at hp 10 4) (ay_at hp 8 9) (ay_at hp 8 11) (ay_at hp 8 10) (ay_at hp 8 3) (ay_at hp 8 4) (ay_at hp 11) (ay_at hp 12) := (ax_XF_lt (x := 50) (Nat.le_of_ble_eq_true rfl)).mp (ax_gx hE (50, [3, 7]) ax_m0)
  rw [c_links] at F50
  have F73 : pz7 (pz_gt (ρ 0)) (pz_gN (ρ 0)) ((ρ 1) / 4) 3 := (ax_XF_lt (x := 73) (Nat.le_of_ble_eq_true rfl)).mp (ax_gx hE (73, [3, 7]) ax_m1)
  have F60 : pz60 (pz_gt (ρ 0)) (pz_gN (ρ 0)) ((ρ 1) / 4) ((4006) / 4 - 1000) := (ax_XF_lt (x := 60) (Nat.le_of_ble_eq_true rfl)).mp (ax_gx hE (60, [3, 7, 4006]) ax_m2)
  have st := pq_lk2 F50 F73 F60 (show ρ 2 / 4 ≤ 19 by omega)
  obtain ⟨ρ', h1, h2⟩ := pz_pn1 (K := ρ 1 / 4 + 1) (xf := [(53, [3, 15]), (74, [3, 15]), (1030, [7, 15]), (98, [7, 15])]) hE (by decide) (fun ρ' h1 h2 x hx => by
    have q0 : ρ' 0 = ρ 0 := h1 0 (by decide)
    have q1 : ρ' 1 = ρ 1 := h1 1 (by decide)
    have q2 : ρ' 2 = ρ 2 := h1 2 (by decide)
    rcases List.mem_cons.mp hx with e | hx
    · subst e
      refine (ax_XF_lt (x := 53) (Nat.le_of_ble_eq_true rfl)).mpr ?_
      show ay_ex hp 8 ∧ ay_ex hp 10 ∧ ay_ex hp 11 ∧ ay_ex hp 12 ∧ pz_x53 (ρ' 0) (ρ' 3) (ay_at hp 8 5) (ay_at hp 10 0) (ay_at hp 10 1) (ay_at hp 10 2) (ay_at hp 10 3) (ay_at hp 10 4) (ay_at hp 8 9) (ay_at hp 8 11) (ay_at hp 8 10) (ay_at hp 8 3) (ay_at hp 8 4) (ay_at hp 11) (ay_at hp 12)
      rw [q0, h2]
      rw [c_links]
      exact ⟨(ax_cellT hT (q := 8) (g := 2) rfl), (ax_cellT hT (q := 10) (g := 1) rfl), (ax_cellT hT (q := 11) (g := 14) rfl), (ax_cellT hT (q := 12) (g := 15) rfl), pz_53 (pz_41 _) rfl st.1⟩
    rcases List.mem_cons.mp hx with e | hx
    · subst e
      refine (ax_XF_lt (x := 74) (Nat.le_of_ble_eq_true rfl)).mpr ?_
      show pz7 (pz_gt (ρ' 0)) (pz_gN (ρ' 0)) ((ρ' 3) / 4) 4
      rw [q0, h2]
      rw [pz_41]
      exact st.2
    rcases List.mem_cons.mp hx with e | hx
    · subst e
      refine (ax_XF_bi (o := 30) (by decide)).mpr (Or.inr ⟨rfl, ?_⟩)
      show ρ' 1 < ρ' 3
      rw [q1, h2]
      omega
    cases List.mem_singleton.mp hx
    refine (ax_XF_lt (x := 98) (Nat.le_of_ble_eq_true rfl)).mpr ?_
    show (ρ' 3) / 4 = (ρ' 1) / 4 + 1
    rw [q1, h2]
    rw [pz_41])
  exact ⟨(fun y hy => by cases hy), _, List.mem_cons_self, ρ', h1, h2⟩

theorem axq_lk3_29 : ax_RO ax_wC ax_XC axu_lk3_29 := by
  intro ρ hp hE hT
  have j0 : ρ 0 % 4 = 1 := pz_gj hE 0 (Nat.le_of_ble_eq_true rfl) rfl
  have j1 : ρ 1 % 4 = 1 := pz_gj hE 1 (Nat.le_of_ble_eq_true rfl) rfl
  obtain ⟨i2a, i2b, i2c, i2d⟩ := pz_gi hE 2 0 4294967295 (Nat.le_of_ble_eq_true rfl) rfl
  obtain ⟨i3a, i3b, i3c, i3d⟩ := pz_gi hE 3 2147483648 2147483658 (Nat.le_of_ble_eq_true rfl) rfl
  have c_switches : ay_at hp 10 0 = some (ρ 3) := ay_gfj hE 50 0 15 10 0 ax_m1 (ax_vlq rfl rfl) (ax_vlj rfl rfl)
  have s1 : (ρ 2 / 4 + 2147483648) % 4294967296 + (4 / 4 + 2147483648) % 4294967296 = (ρ 3 / 4 + 2147483648) % 4294967296 + 2147483648 := pz_gs hE 11 4 15 ax_m2
  obtain ⟨-, -, -, -, F53⟩ : ay_ex hp 8 ∧ ay_ex hp 10 ∧ ay_ex hp 11 ∧ ay_ex hp 12 ∧ pz_x53 (ρ 0) (ρ 1) (ay_at hp 8 5) (ay_at hp 10 0) (ay_at hp 10 1) (ay_at hp 10 2) (ay_at hp 10 3) (ay_at hp 10 4) (ay_at hp 8 9) (ay_at hp 8 11) (ay_at hp 8 10) (ay_at hp 8 3) (ay_at hp 8 4) (ay_at hp 11) (ay_at hp 12) := (ax_XF_lt (x := 53) (Nat.le_of_ble_eq_true rfl)).mp (ax_gx hE (53, [3, 7]) ax_m0)
  rw [c_switches] at F53
  refine ⟨(fun y hy => by cases hy), _, List.mem_cons_self, ρ, fun _ _ => rfl, ax_px hE rfl (fun y hy => ?_)⟩
  cases List.mem_singleton.mp hy
  refine (ax_XF_lt (x := 103) (Nat.le_of_ble_eq_true rfl)).mpr ?_
  show pz_x103 (ρ 0) (ρ 1) (ρ 2)
  have e : ρ 3 / 4 = pz_no (pz_cf (pz_gt (ρ 0)) (pz_gN (ρ 0)) (ρ 1 / 4)) := F53.2.1
  show (ρ 2 / 4 + 2147483648) % 4294967296 + 1 = pz_no (pz_cf (pz_gt (ρ 0)) (pz_gN (ρ 0)) (ρ 1 / 4)) + 2147483648
  omega

theorem axq_lk3_53 : ax_RO ax_wC ax_XC axu_lk3_53 := by
  intro ρ hp hE hT
  have j0 : ρ 0 % 4 = 1 := pz_gj hE 0 (Nat.le_of_ble_eq_true rfl) rfl
  have j1 : ρ 1 % 4 = 1 := pz_gj hE 1 (Nat.le_of_ble_eq_true rfl) rfl
  obtain ⟨i2a, i2b, i2c, i2d⟩ := pz_gi hE 2 0 4294967295 (Nat.le_of_ble_eq_true rfl) rfl
  obtain ⟨i3a, i3b, i3c, i3d⟩ := pz_gi hE 3 2147483648 2147483658 (Nat.le_of_ble_eq_true rfl) rfl
  have c_switches : ay_at hp 10 0 = some (ρ 3) := ay_gfj hE 50 0 15 10 0 ax_m1 (ax_vlq rfl rfl) (ax_vlj rfl rfl)
  have s1 : (ρ 2 / 4 + 2147483648) % 4294967296 + (4 / 4 + 2147483648) % 4294967296 = (ρ 3 / 4 + 2147483648) % 4294967296 + 2147483648 := pz_gs hE 11 4 15 ax_m2
  obtain ⟨-, -, -, -, F53⟩ : ay_ex hp 8 ∧ ay_ex hp 10 ∧ ay_ex hp 11 ∧ ay_ex hp 12 ∧ pz_x53 (ρ 0) (ρ 1) (ay_at hp 8 5) (ay_at hp 10 0) (ay_at hp 10 1) (ay_at hp 10 2) (ay_at hp 10 3) (ay_at hp 10 4) (ay_at hp 8 9) (ay_at hp 8 11) (ay_at hp 8 10) (ay_at hp 8 3) (ay_at hp 8 4) (ay_at hp 11) (ay_at hp 12) := (ax_XF_lt (x := 53) (Nat.le_of_ble_eq_true rfl)).mp (ax_gx hE (53, [3, 7]) ax_m0)
  rw [c_switches] at F53
  refine ⟨(fun y hy => by cases hy), _, List.mem_cons_self, ρ, fun _ _ => rfl, ax_px hE rfl (fun y hy => ?_)⟩
  cases List.mem_singleton.mp hy
  refine (ax_XF_lt (x := 103) (Nat.le_of_ble_eq_true rfl)).mpr ?_
  show pz_x103 (ρ 0) (ρ 1) (ρ 2)
  have e : ρ 3 / 4 = pz_no (pz_cf (pz_gt (ρ 0)) (pz_gN (ρ 0)) (ρ 1 / 4)) := F53.2.1
  show (ρ 2 / 4 + 2147483648) % 4294967296 + 1 = pz_no (pz_cf (pz_gt (ρ 0)) (pz_gN (ρ 0)) (ρ 1 / 4)) + 2147483648
  omega

theorem axq_lk4 : ax_RO ax_wC ax_XC axu_lk4 := by
  intro ρ hp hE hT
  have j0 : ρ 0 % 4 = 1 := pz_gj hE 0 (Nat.le_of_ble_eq_true rfl) rfl
  have j1 : ρ 1 % 4 = 1 := pz_gj hE 1 (Nat.le_of_ble_eq_true rfl) rfl
  obtain ⟨i2a, i2b, i2c, i2d⟩ := pz_gi hE 2 2147483648 2147483657 (Nat.le_of_ble_eq_true rfl) rfl
  have j3 : ρ 3 % 4 = 1 := pz_gj hE 3 (Nat.le_of_ble_eq_true rfl) rfl
  have o1 : ρ 3 < ρ 1 := pz_go hE 15 7 (by decide)
  obtain ⟨-, -, -, -, F50⟩ : ay_ex hp 8 ∧ ay_ex hp 10 ∧ ay_ex hp 11 ∧ ay_ex hp 12 ∧ pz_x50 (ρ 0) (ρ 1) (ay_at hp 8 5) (ay_at hp 8 6) (ay_at hp 8 7) (ay_at hp 8 8) (ay_at hp 10 0) (ay_at hp 10 1) (ay_at hp 10 2) (ay_at hp 10 3) (ay_at hp 10 4) (ay_at hp 8 9) (ay_at hp 8 11) (ay_at hp 8 10) (ay_at hp 8 3) (ay_at hp 8 4) (ay_at hp 11) (ay_at hp 12) := (ax_XF_lt (x := 50) (Nat.le_of_ble_eq_true rfl)).mp (ax_gx hE (50, [3, 7]) ax_m0)
  have F74 : pz7 (pz_gt (ρ 0)) (pz_gN (ρ 0)) ((ρ 1) / 4) 4 := (ax_XF_lt (x := 74) (Nat.le_of_ble_eq_true rfl)).mp (ax_gx hE (74, [3, 7]) ax_m1)
  have F104 : pz104 (pz_gt (ρ 0)) (pz_gN (ρ 0)) ((ρ 1) / 4) ((ρ 2) / 4) := (ax_XF_lt (x := 104) (Nat.le_of_ble_eq_true rfl)).mp (ax_gx hE (104, [3, 7, 11]) ax_m2)
  have st := pq_lk4 F50 F74 F104
  obtain ⟨ρ', h1, h2⟩ := pz_pn1 (K := ρ 1 / 4 + 1) (xf := [(53, [3, 19]), (75, [3, 19]), (67, [3, 19, 11]), (1030, [15, 19]), (98, [7, 19])]) hE (by decide) (fun ρ' h1 h2 x hx => by
    have q0 : ρ' 0 = ρ 0 := h1 0 (by decide)
    have q1 : ρ' 1 = ρ 1 := h1 1 (by decide)
    have q2 : ρ' 2 = ρ 2 := h1 2 (by decide)
    have q3 : ρ' 3 = ρ 3 := h1 3 (by decide)
    rcases List.mem_cons.mp hx with e | hx
    · subst e
      refine (ax_XF_lt (x := 53) (Nat.le_of_ble_eq_true rfl)).mpr ?_
      show ay_ex hp 8 ∧ ay_ex hp 10 ∧ ay_ex hp 11 ∧ ay_ex hp 12 ∧ pz_x53 (ρ' 0) (ρ' 4) (ay_at hp 8 5) (ay_at hp 10 0) (ay_at hp 10 1) (ay_at hp 10 2) (ay_at hp 10 3) (ay_at hp 10 4) (ay_at hp 8 9) (ay_at hp 8 11) (ay_at hp 8 10) (ay_at hp 8 3) (ay_at hp 8 4) (ay_at hp 11) (ay_at hp 12)
      rw [q0, h2]
      exact ⟨(ax_cellT hT (q := 8) (g := 2) rfl), (ax_cellT hT (q := 10) (g := 1) rfl), (ax_cellT hT (q := 11) (g := 14) rfl), (ax_cellT hT (q := 12) (g := 15) rfl), pz_53 (pz_41 _) rfl st.1⟩
    rcases List.mem_cons.mp hx with e | hx
    · subst e
      refine (ax_XF_lt (x := 75) (Nat.le_of_ble_eq_true rfl)).mpr ?_
      show pz7 (pz_gt (ρ' 0)) (pz_gN (ρ' 0)) ((ρ' 4) / 4) 5
      rw [q0, h2]
      rw [pz_41]
      exact st.2.1
    rcases List.mem_cons.mp hx with e | hx
    · subst e
      refine (ax_XF_lt (x := 67) (Nat.le_of_ble_eq_true rfl)).mpr ?_
      show pz67 (pz_gt (ρ' 0)) (pz_gN (ρ' 0)) ((ρ' 4) / 4) ((ρ' 2) / 4)
      rw [q0, q2, h2]
      rw [pz_41]
      exact st.2.2
    rcases List.mem_cons.mp hx with e | hx
    · subst e
      refine (ax_XF_bi (o := 30) (by decide)).mpr (Or.inr ⟨rfl, ?_⟩)
      show ρ' 3 < ρ' 4
      rw [q3, h2]
      omega
    cases List.mem_singleton.mp hx
    refine (ax_XF_lt (x := 98) (Nat.le_of_ble_eq_true rfl)).mpr ?_
    show (ρ' 4) / 4 = (ρ' 1) / 4 + 1
    rw [q1, h2]
    rw [pz_41])
  exact ⟨(fun y hy => by cases hy), _, List.mem_cons_self, ρ', h1, h2⟩

theorem axq_lk5 : ax_RO ax_wC ax_XC axu_lk5 := by
  intro ρ hp hE hT
  have j0 : ρ 0 % 4 = 1 := pz_gj hE 0 (Nat.le_of_ble_eq_true rfl) rfl
  have j1 : ρ 1 % 4 = 1 := pz_gj hE 1 (Nat.le_of_ble_eq_true rfl) rfl
  obtain ⟨i2a, i2b, i2c, i2d⟩ := pz_gi hE 2 2147483648 2147483657 (Nat.le_of_ble_eq_true rfl) rfl
  obtain ⟨i3a, i3b, i3c, i3d⟩ := pz_gi hE 3 2147483648 2147483657 (Nat.le_of_ble_eq_true rfl) rfl
  have c_value : ay_at hp 8 8 = some (ρ 2) := ay_gfj hE 42 32 11 8 8 ax_m4 (ax_vlq rfl rfl) (ax_vlj rfl rfl)
  have r1 : (ρ 2 / 4 + 2147483648) % 4294967296 = (ρ 3 / 4 + 2147483648) % 4294967296 := pz_gc hE 0 11 15 (Nat.le_of_ble_eq_true rfl) ax_m5
  obtain ⟨-, -, -, -, F50⟩ : ay_ex hp 8 ∧ ay_ex hp 10 ∧ ay_ex hp 11 ∧ ay_ex hp 12 ∧ pz_x50 (ρ 0) (ρ 1) (ay_at hp 8 5) (ay_at hp 8 6) (ay_at hp 8 7) (ay_at hp 8 8) (ay_at hp 10 0) (ay_at hp 10 1) (ay_at hp 10 2) (ay_at hp 10 3) (ay_at hp 10 4) (ay_at hp 8 9) (ay_at hp 8 11) (ay_at hp 8 10) (ay_at hp 8 3) (ay_at hp 8 4) (ay_at hp 11) (ay_at hp 12) := (ax_XF_lt (x := 50) (Nat.le_of_ble_eq_true rfl)).mp (ax_gx hE (50, [3, 7]) ax_m0)
  rw [c_value] at F50
  have F75 : pz7 (pz_gt (ρ 0)) (pz_gN (ρ 0)) ((ρ 1) / 4) 5 := (ax_XF_lt (x := 75) (Nat.le_of_ble_eq_true rfl)).mp (ax_gx hE (75, [3, 7]) ax_m1)
  have F67 : pz67 (pz_gt (ρ 0)) (pz_gN (ρ 0)) ((ρ 1) / 4) ((ρ 3) / 4) := (ax_XF_lt (x := 67) (Nat.le_of_ble_eq_true rfl)).mp (ax_gx hE (67, [3, 7, 15]) ax_m2)
  have F104 : pz104 (pz_gt (ρ 0)) (pz_gN (ρ 0)) ((ρ 1) / 4) ((ρ 2) / 4) := (ax_XF_lt (x := 104) (Nat.le_of_ble_eq_true rfl)).mp (ax_gx hE (104, [3, 7, 11]) ax_m3)
  refine ⟨(fun y hy => by cases hy), _, List.mem_cons_self, ρ, fun _ _ => rfl, ax_px hE rfl (fun y hy => ?_)⟩
  cases List.mem_singleton.mp hy
  refine (ax_XF_lt (x := 64) (Nat.le_of_ble_eq_true rfl)).mpr ?_
  show pz64 (pz_gt (ρ 0)) (pz_gN (ρ 0)) ((ρ 1) / 4) ((8) / 4)
  have e : ρ 2 = ρ 3 := by omega
  rw [e] at F104
  exact pq_lk5 F75 F67 F104

theorem axq_lk6 : ax_RO ax_wC ax_XC axu_lk6 := by
  intro ρ hp hE hT
  have j0 : ρ 0 % 4 = 1 := pz_gj hE 0 (Nat.le_of_ble_eq_true rfl) rfl
  have j1 : ρ 1 % 4 = 1 := pz_gj hE 1 (Nat.le_of_ble_eq_true rfl) rfl
  obtain ⟨i2a, i2b, i2c, i2d⟩ := pz_gi hE 2 2147483648 2147483657 (Nat.le_of_ble_eq_true rfl) rfl
  obtain ⟨i3a, i3b, i3c, i3d⟩ := pz_gi hE 3 2147483648 2147483657 (Nat.le_of_ble_eq_true rfl) rfl
  have c_value : ay_at hp 8 8 = some (ρ 2) := ay_gfj hE 42 32 11 8 8 ax_m4 (ax_vlq rfl rfl) (ax_vlj rfl rfl)
  have r1 : (ρ 2 / 4 + 2147483648) % 4294967296 ≠ (ρ 3 / 4 + 2147483648) % 4294967296 := pz_gc hE 1 11 15 (Nat.le_of_ble_eq_true rfl) ax_m5
  obtain ⟨-, -, -, -, F50⟩ : ay_ex hp 8 ∧ ay_ex hp 10 ∧ ay_ex hp 11 ∧ ay_ex hp 12 ∧ pz_x50 (ρ 0) (ρ 1) (ay_at hp 8 5) (ay_at hp 8 6) (ay_at hp 8 7) (ay_at hp 8 8) (ay_at hp 10 0) (ay_at hp 10 1) (ay_at hp 10 2) (ay_at hp 10 3) (ay_at hp 10 4) (ay_at hp 8 9) (ay_at hp 8 11) (ay_at hp 8 10) (ay_at hp 8 3) (ay_at hp 8 4) (ay_at hp 11) (ay_at hp 12) := (ax_XF_lt (x := 50) (Nat.le_of_ble_eq_true rfl)).mp (ax_gx hE (50, [3, 7]) ax_m0)
  rw [c_value] at F50
  have F75 : pz7 (pz_gt (ρ 0)) (pz_gN (ρ 0)) ((ρ 1) / 4) 5 := (ax_XF_lt (x := 75) (Nat.le_of_ble_eq_true rfl)).mp (ax_gx hE (75, [3, 7]) ax_m1)
  have F67 : pz67 (pz_gt (ρ 0)) (pz_gN (ρ 0)) ((ρ 1) / 4) ((ρ 3) / 4) := (ax_XF_lt (x := 67) (Nat.le_of_ble_eq_true rfl)).mp (ax_gx hE (67, [3, 7, 15]) ax_m2)
  have F104 : pz104 (pz_gt (ρ 0)) (pz_gN (ρ 0)) ((ρ 1) / 4) ((ρ 2) / 4) := (ax_XF_lt (x := 104) (Nat.le_of_ble_eq_true rfl)).mp (ax_gx hE (104, [3, 7, 11]) ax_m3)
  have F112 : pz112 (pz_gt (ρ 0)) (pz_gN (ρ 0)) ((ρ 1) / 4) ((ρ 3) / 4) ((ρ 2) / 4) := (ax_XF_lt (x := 112) (Nat.le_of_ble_eq_true rfl)).mp (ax_gx hE (112, [3, 7, 15, 11]) ax_m6)
  refine ⟨(fun y hy => by cases hy), _, List.mem_cons_self, ρ, fun _ _ => rfl, ax_px hE rfl (fun y hy => ?_)⟩
  cases List.mem_singleton.mp hy
  refine (ax_XF_lt (x := 64) (Nat.le_of_ble_eq_true rfl)).mpr ?_
  show pz64 (pz_gt (ρ 0)) (pz_gN (ρ 0)) ((ρ 1) / 4) ((12) / 4)
  exact pq_lk6 F75 F67 F104 (by omega) F112

theorem axq_lk7 : ax_RO ax_wC ax_XC axu_lk7 := by
  intro ρ hp hE hT
  have j0 : ρ 0 % 4 = 1 := pz_gj hE 0 (Nat.le_of_ble_eq_true rfl) rfl
  have j1 : ρ 1 % 4 = 1 := pz_gj hE 1 (Nat.le_of_ble_eq_true rfl) rfl
  have j2 : ρ 2 % 4 = 1 := pz_gj hE 2 (Nat.le_of_ble_eq_true rfl) rfl
  have j3 : ρ 3 % 4 = 1 := pz_gj hE 3 (Nat.le_of_ble_eq_true rfl) rfl
  have o1 : ρ 2 < ρ 3 := pz_go hE 11 15 (by decide)
  have o2 : ρ 1 < ρ 2 := pz_go hE 7 11 (by decide)
  obtain ⟨-, -, -, -, F53⟩ : ay_ex hp 8 ∧ ay_ex hp 10 ∧ ay_ex hp 11 ∧ ay_ex hp 12 ∧ pz_x53 (ρ 0) (ρ 3) (ay_at hp 8 5) (ay_at hp 10 0) (ay_at hp 10 1) (ay_at hp 10 2) (ay_at hp 10 3) (ay_at hp 10 4) (ay_at hp 8 9) (ay_at hp 8 11) (ay_at hp 8 10) (ay_at hp 8 3) (ay_at hp 8 4) (ay_at hp 11) (ay_at hp 12) := (ax_XF_lt (x := 53) (Nat.le_of_ble_eq_true rfl)).mp (ax_gx hE (53, [3, 15]) ax_m0)
  refine ⟨(fun y hy => by cases hy), _, List.mem_cons_self, ρ, fun _ _ => rfl, ax_px hE rfl (fun y hy => ?_)⟩
  cases List.mem_singleton.mp hy
  refine (ax_XF_bi (o := 30) (by decide)).mpr (Or.inr ⟨rfl, ?_⟩)
  show ρ 1 < ρ 3
  omega

theorem axq_lk8 : ax_RO ax_wC ax_XC axu_lk8 := by
  intro ρ hp hE hT
  have j0 : ρ 0 % 4 = 1 := pz_gj hE 0 (Nat.le_of_ble_eq_true rfl) rfl
  have j1 : ρ 1 % 4 = 1 := pz_gj hE 1 (Nat.le_of_ble_eq_true rfl) rfl
  have j2 : ρ 2 % 4 = 1 := pz_gj hE 2 (Nat.le_of_ble_eq_true rfl) rfl
  have j3 : ρ 3 % 4 = 1 := pz_gj hE 3 (Nat.le_of_ble_eq_true rfl) rfl
  have o1 : ρ 2 < ρ 3 := pz_go hE 11 15 (by decide)
  have o2 : ρ 1 < ρ 2 := pz_go hE 7 11 (by decide)
  obtain ⟨-, -, -, -, F50⟩ : ay_ex hp 8 ∧ ay_ex hp 10 ∧ ay_ex hp 11 ∧ ay_ex hp 12 ∧ pz_x50 (ρ 0) (ρ 3) (ay_at hp 8 5) (ay_at hp 8 6) (ay_at hp 8 7) (ay_at hp 8 8) (ay_at hp 10 0) (ay_at hp 10 1) (ay_at hp 10 2) (ay_at hp 10 3) (ay_at hp 10 4) (ay_at hp 8 9) (ay_at hp 8 11) (ay_at hp 8 10) (ay_at hp 8 3) (ay_at hp 8 4) (ay_at hp 11) (ay_at hp 12) := (ax_XF_lt (x := 50) (Nat.le_of_ble_eq_true rfl)).mp (ax_gx hE (50, [3, 15]) ax_m0)
  refine ⟨(fun y hy => by cases hy), _, List.mem_cons_self, ρ, fun _ _ => rfl, ax_px hE rfl (fun y hy => ?_)⟩
  cases List.mem_singleton.mp hy
  refine (ax_XF_bi (o := 30) (by decide)).mpr (Or.inr ⟨rfl, ?_⟩)
  show ρ 1 < ρ 3
  omega

theorem axq_rt1 : ax_RO ax_wC ax_XC axu_rt1 := by
  intro ρ hp hE hT
  have j0 : ρ 0 % 4 = 1 := pz_gj hE 0 (Nat.le_of_ble_eq_true rfl) rfl
  have c_fault : ay_at hp 8 3 = some (0) := ay_gfj hE 42 12 0 8 3 ax_m1 (ax_vlq rfl rfl) (ax_vlj rfl rfl)
  have c_faultPlace : ay_at hp 8 4 = some (17179869180) := ay_gfj hE 42 16 17179869180 8 4 ax_m2 (ax_vlq rfl rfl) (ax_vlj rfl rfl)
  have c_switches : ay_at hp 10 0 = some (0) := ay_gfj hE 50 0 0 10 0 ax_m3 (ax_vlq rfl rfl) (ax_vlj rfl rfl)
  have c_links : ay_at hp 10 1 = some (0) := ay_gfj hE 50 4 0 10 1 ax_m4 (ax_vlq rfl rfl) (ax_vlj rfl rfl)
  have c_root : ay_at hp 10 2 = some (0) := ay_gfj hE 50 8 0 10 2 ax_m5 (ax_vlq rfl rfl) (ax_vlj rfl rfl)
  have c_room : ay_at hp 10 3 = some (4) := ay_gfj hE 50 12 4 10 3 ax_m6 (ax_vlq rfl rfl) (ax_vlj rfl rfl)
  have c_units : ay_at hp 10 4 = some (0) := ay_gfj hE 50 16 0 10 4 ax_m7 (ax_vlq rfl rfl) (ax_vlj rfl rfl)
  have c_ahead : ay_at hp 8 5 = some (0) := ay_gfj hE 42 20 0 8 5 ax_m8 (ax_vlq rfl rfl) (ax_vlj rfl rfl)
  have c_rootTold : ay_at hp 8 9 = some (0) := ay_gfj hE 42 36 0 8 9 ax_m9 (ax_vlq rfl rfl) (ax_vlj rfl rfl)
  have c_rankTold : ay_at hp 8 10 = some (0) := ay_gfj hE 42 40 0 8 10 ax_m10 (ax_vlq rfl rfl) (ax_vlj rfl rfl)
  obtain ⟨-, -, F30⟩ : ay_ex hp 8 ∧ ay_ex hp 9 ∧ pz_x30 (ρ 0) (ay_at hp 8 1) (ay_at hp 9) := (ax_XF_lt (x := 30) (Nat.le_of_ble_eq_true rfl)).mp (ax_gx hE (30, [3]) ax_m0)
  obtain ⟨ρ', h1, h2⟩ := pz_pn1 (K := 0) (xf := [(553, [42, 44, 0, 3, 7]), (70, [3, 7])]) hE (by decide) (fun ρ' h1 h2 x hx => by
    have q0 : ρ' 0 = ρ 0 := h1 0 (by decide)
    rcases List.mem_cons.mp hx with e | hx
    · subst e
      refine (ax_XF_wr (x := 53) (Nat.le_of_ble_eq_true rfl)).mpr ?_
      show ay_ex (ax_upd hp 42 (44) (0)) 8 ∧ ay_ex (ax_upd hp 42 (44) (0)) 10 ∧ ay_ex (ax_upd hp 42 (44) (0)) 11 ∧ ay_ex (ax_upd hp 42 (44) (0)) 12 ∧ pz_x53 (ρ' 0) (ρ' 1) (ay_at (ax_upd hp 42 (44) (0)) 8 5) (ay_at (ax_upd hp 42 (44) (0)) 10 0) (ay_at (ax_upd hp 42 (44) (0)) 10 1) (ay_at (ax_upd hp 42 (44) (0)) 10 2) (ay_at (ax_upd hp 42 (44) (0)) 10 3) (ay_at (ax_upd hp 42 (44) (0)) 10 4) (ay_at (ax_upd hp 42 (44) (0)) 8 9) (ay_at (ax_upd hp 42 (44) (0)) 8 11) (ay_at (ax_upd hp 42 (44) (0)) 8 10) (ay_at (ax_upd hp 42 (44) (0)) 8 3) (ay_at (ax_upd hp 42 (44) (0)) 8 4) (ay_at (ax_upd hp 42 (44) (0)) 11) (ay_at (ax_upd hp 42 (44) (0)) 12)
      rw [q0, h2]
      obtain ⟨o0, ho0⟩ := ay_some hT (q := 8) (g := 2) (n := 12) rfl rfl (j := 44 / 4) (Nat.le_of_ble_eq_true rfl)
      have u1 : ∀ q, q ≠ 8 → ay_at (ax_upd hp 42 44 (0)) q = ay_at hp q := fun q hq => funext (fun j => ay_upd_ne hT.1 hq j)
      have u2 : ∀ j, ay_at (ax_upd hp 42 44 (0)) 8 j = if j = 11 then some (0) else ay_at hp 8 j := fun j => ay_upd_eq hT.1 rfl ho0 j
      refine ⟨ay_ex_upd hT.1 (ax_cellT hT (q := 8) (g := 2) rfl), ay_ex_upd hT.1 (ax_cellT hT (q := 10) (g := 1) rfl), ay_ex_upd hT.1 (ax_cellT hT (q := 11) (g := 14) rfl), ay_ex_upd hT.1 (ax_cellT hT (q := 12) (g := 15) rfl), ?_⟩
      rw [u2 5, if_neg (show ¬ 5 = 11 from Nat.ne_of_beq_eq_false rfl), u1 10 (Nat.ne_of_beq_eq_false rfl), u2 9, if_neg (show ¬ 9 = 11 from Nat.ne_of_beq_eq_false rfl), u2 11, if_pos rfl, u2 10, if_neg (show ¬ 10 = 11 from Nat.ne_of_beq_eq_false rfl), u2 3, if_neg (show ¬ 3 = 11 from Nat.ne_of_beq_eq_false rfl), u2 4, if_neg (show ¬ 4 = 11 from Nat.ne_of_beq_eq_false rfl), u1 11 (Nat.ne_of_beq_eq_false rfl), u1 12 (Nat.ne_of_beq_eq_false rfl)]
      rw [c_fault]
      rw [c_faultPlace]
      rw [c_switches]
      rw [c_links]
      rw [c_root]
      rw [c_room]
      rw [c_units]
      rw [c_ahead]
      rw [c_rootTold]
      rw [c_rankTold]
      exact pz_53 (pz_41 _) rfl pq_rt1.1
    cases List.mem_singleton.mp hx
    refine (ax_XF_lt (x := 70) (Nat.le_of_ble_eq_true rfl)).mpr ?_
    show pz7 (pz_gt (ρ' 0)) (pz_gN (ρ' 0)) ((ρ' 1) / 4) 0
    rw [q0, h2]
    exact rfl)
  exact ⟨(fun y hy => by cases hy), _, List.mem_cons_self, ρ', h1, h2⟩

theorem axq_rt2 : ax_RO ax_wC ax_XC axu_rt2 := by
  intro ρ hp hE hT
  have j0 : ρ 0 % 4 = 1 := pz_gj hE 0 (Nat.le_of_ble_eq_true rfl) rfl
  have j1 : ρ 1 % 4 = 1 := pz_gj hE 1 (Nat.le_of_ble_eq_true rfl) rfl
  obtain ⟨i2a, i2b, i2c, i2d⟩ := pz_gi hE 2 2147483648 2147483648 (Nat.le_of_ble_eq_true rfl) rfl
  have c_kind : ay_at hp 8 7 = some (ρ 2) := ay_gfj hE 42 28 11 8 7 ax_m2 (ax_vlq rfl rfl) (ax_vlj rfl rfl)
  obtain ⟨-, -, -, -, F50⟩ : ay_ex hp 8 ∧ ay_ex hp 10 ∧ ay_ex hp 11 ∧ ay_ex hp 12 ∧ pz_x50 (ρ 0) (ρ 1) (ay_at hp 8 5) (ay_at hp 8 6) (ay_at hp 8 7) (ay_at hp 8 8) (ay_at hp 10 0) (ay_at hp 10 1) (ay_at hp 10 2) (ay_at hp 10 3) (ay_at hp 10 4) (ay_at hp 8 9) (ay_at hp 8 11) (ay_at hp 8 10) (ay_at hp 8 3) (ay_at hp 8 4) (ay_at hp 11) (ay_at hp 12) := (ax_XF_lt (x := 50) (Nat.le_of_ble_eq_true rfl)).mp (ax_gx hE (50, [3, 7]) ax_m0)
  rw [c_kind] at F50
  have F70 : pz7 (pz_gt (ρ 0)) (pz_gN (ρ 0)) ((ρ 1) / 4) 0 := (ax_XF_lt (x := 70) (Nat.le_of_ble_eq_true rfl)).mp (ax_gx hE (70, [3, 7]) ax_m1)
  refine ⟨(fun y hy => by cases hy), _, List.mem_cons_self, ρ, fun _ _ => rfl, ax_px hE rfl (fun y hy => ?_)⟩
  cases List.mem_singleton.mp hy
  refine (ax_XF_lt (x := 110) (Nat.le_of_ble_eq_true rfl)).mpr ?_
  show ay_ex hp 10 ∧ ay_ex hp 8 ∧ ay_ex hp 11 ∧ ay_ex hp 12 ∧ pz110 (pz_gt (ρ 0)) (pz_gN (ρ 0)) (ay_ln (ay_at hp 10 0)) (ay_ln (ay_at hp 10 1)) (ay_ln (ay_at hp 10 2)) (ay_ln (ay_at hp 10 3)) (ay_ln (ay_at hp 10 4)) (ay_ln (ay_at hp 8 9)) (ay_ln (ay_at hp 8 11)) (ay_ln (ay_at hp 8 10)) (ay_ln (ay_at hp 8 3)) (ay_ln (ay_at hp 8 4)) (ay_at hp 11) (ay_at hp 12)
  refine ⟨(ax_cellT hT (q := 10) (g := 1) rfl), (ax_cellT hT (q := 8) (g := 2) rfl), (ax_cellT hT (q := 11) (g := 14) rfl), (ax_cellT hT (q := 12) (g := 15) rfl), ?_⟩
  exact pq_rt2 F50 F70 (show ρ 2 / 4 = 0 by omega)

theorem axq_rt3a : ax_RO ax_wC ax_XC axu_rt3a := by
  intro ρ hp hE hT
  have j0 : ρ 0 % 4 = 1 := pz_gj hE 0 (Nat.le_of_ble_eq_true rfl) rfl
  have j1 : ρ 1 % 4 = 1 := pz_gj hE 1 (Nat.le_of_ble_eq_true rfl) rfl
  obtain ⟨i2a, i2b, i2c, i2d⟩ := pz_gi hE 2 0 2147483647 (Nat.le_of_ble_eq_true rfl) rfl
  have c_kind : ay_at hp 8 7 = some (ρ 2) := ay_gfj hE 42 28 11 8 7 ax_m1 (ax_vlq rfl rfl) (ax_vlj rfl rfl)
  obtain ⟨-, -, -, -, F50⟩ : ay_ex hp 8 ∧ ay_ex hp 10 ∧ ay_ex hp 11 ∧ ay_ex hp 12 ∧ pz_x50 (ρ 0) (ρ 1) (ay_at hp 8 5) (ay_at hp 8 6) (ay_at hp 8 7) (ay_at hp 8 8) (ay_at hp 10 0) (ay_at hp 10 1) (ay_at hp 10 2) (ay_at hp 10 3) (ay_at hp 10 4) (ay_at hp 8 9) (ay_at hp 8 11) (ay_at hp 8 10) (ay_at hp 8 3) (ay_at hp 8 4) (ay_at hp 11) (ay_at hp 12) := (ax_XF_lt (x := 50) (Nat.le_of_ble_eq_true rfl)).mp (ax_gx hE (50, [3, 7]) ax_m0)
  rw [c_kind] at F50
  refine ⟨(fun y hy => by cases hy), _, List.mem_cons_self, ρ, fun _ _ => rfl, ax_px hE rfl (fun y hy => ?_)⟩
  cases List.mem_singleton.mp hy
  refine (ax_XF_lt (x := 111) (Nat.le_of_ble_eq_true rfl)).mpr ?_
  show pz111 (pz_gt (ρ 0)) (pz_gN (ρ 0)) ((ρ 1) / 4)
  have kd : ρ 2 / 4 = pz_kd (pz_gt (ρ 0)) (pz_gN (ρ 0)) (pz_p (pz_cf (pz_gt (ρ 0)) (pz_gN (ρ 0)) (ρ 1 / 4))) := F50.2.2.1
  show pz_kd (pz_gt (ρ 0)) (pz_gN (ρ 0)) (pz_p (pz_cf (pz_gt (ρ 0)) (pz_gN (ρ 0)) (ρ 1 / 4))) ≠ 0
  omega

theorem axq_rt4a : ax_RO ax_wC ax_XC axu_rt4a := by
  intro ρ hp hE hT
  have j0 : ρ 0 % 4 = 1 := pz_gj hE 0 (Nat.le_of_ble_eq_true rfl) rfl
  have j1 : ρ 1 % 4 = 1 := pz_gj hE 1 (Nat.le_of_ble_eq_true rfl) rfl
  obtain ⟨i2a, i2b, i2c, i2d⟩ := pz_gi hE 2 0 2147483647 (Nat.le_of_ble_eq_true rfl) rfl
  have c_kind : ay_at hp 8 7 = some (ρ 2) := ay_gfj hE 42 28 11 8 7 ax_m1 (ax_vlq rfl rfl) (ax_vlj rfl rfl)
  obtain ⟨-, -, -, -, F50⟩ : ay_ex hp 8 ∧ ay_ex hp 10 ∧ ay_ex hp 11 ∧ ay_ex hp 12 ∧ pz_x50 (ρ 0) (ρ 1) (ay_at hp 8 5) (ay_at hp 8 6) (ay_at hp 8 7) (ay_at hp 8 8) (ay_at hp 10 0) (ay_at hp 10 1) (ay_at hp 10 2) (ay_at hp 10 3) (ay_at hp 10 4) (ay_at hp 8 9) (ay_at hp 8 11) (ay_at hp 8 10) (ay_at hp 8 3) (ay_at hp 8 4) (ay_at hp 11) (ay_at hp 12) := (ax_XF_lt (x := 50) (Nat.le_of_ble_eq_true rfl)).mp (ax_gx hE (50, [3, 7]) ax_m0)
  rw [c_kind] at F50
  refine ⟨(fun y hy => by cases hy), _, List.mem_cons_self, ρ, fun _ _ => rfl, ax_px hE rfl (fun y hy => ?_)⟩
  cases List.mem_singleton.mp hy
  refine (ax_XF_lt (x := 111) (Nat.le_of_ble_eq_true rfl)).mpr ?_
  show pz111 (pz_gt (ρ 0)) (pz_gN (ρ 0)) ((ρ 1) / 4)
  have kd : ρ 2 / 4 = pz_kd (pz_gt (ρ 0)) (pz_gN (ρ 0)) (pz_p (pz_cf (pz_gt (ρ 0)) (pz_gN (ρ 0)) (ρ 1 / 4))) := F50.2.2.1
  show pz_kd (pz_gt (ρ 0)) (pz_gN (ρ 0)) (pz_p (pz_cf (pz_gt (ρ 0)) (pz_gN (ρ 0)) (ρ 1 / 4))) ≠ 0
  omega

theorem axq_rt3b : ax_RO ax_wC ax_XC axu_rt3b := by
  intro ρ hp hE hT
  have j0 : ρ 0 % 4 = 1 := pz_gj hE 0 (Nat.le_of_ble_eq_true rfl) rfl
  have j1 : ρ 1 % 4 = 1 := pz_gj hE 1 (Nat.le_of_ble_eq_true rfl) rfl
  obtain ⟨i2a, i2b, i2c, i2d⟩ := pz_gi hE 2 2147483649 4294967295 (Nat.le_of_ble_eq_true rfl) rfl
  have c_kind : ay_at hp 8 7 = some (ρ 2) := ay_gfj hE 42 28 11 8 7 ax_m1 (ax_vlq rfl rfl) (ax_vlj rfl rfl)
  obtain ⟨-, -, -, -, F50⟩ : ay_ex hp 8 ∧ ay_ex hp 10 ∧ ay_ex hp 11 ∧ ay_ex hp 12 ∧ pz_x50 (ρ 0) (ρ 1) (ay_at hp 8 5) (ay_at hp 8 6) (ay_at hp 8 7) (ay_at hp 8 8) (ay_at hp 10 0) (ay_at hp 10 1) (ay_at hp 10 2) (ay_at hp 10 3) (ay_at hp 10 4) (ay_at hp 8 9) (ay_at hp 8 11) (ay_at hp 8 10) (ay_at hp 8 3) (ay_at hp 8 4) (ay_at hp 11) (ay_at hp 12) := (ax_XF_lt (x := 50) (Nat.le_of_ble_eq_true rfl)).mp (ax_gx hE (50, [3, 7]) ax_m0)
  rw [c_kind] at F50
  refine ⟨(fun y hy => by cases hy), _, List.mem_cons_self, ρ, fun _ _ => rfl, ax_px hE rfl (fun y hy => ?_)⟩
  cases List.mem_singleton.mp hy
  refine (ax_XF_lt (x := 111) (Nat.le_of_ble_eq_true rfl)).mpr ?_
  show pz111 (pz_gt (ρ 0)) (pz_gN (ρ 0)) ((ρ 1) / 4)
  have kd : ρ 2 / 4 = pz_kd (pz_gt (ρ 0)) (pz_gN (ρ 0)) (pz_p (pz_cf (pz_gt (ρ 0)) (pz_gN (ρ 0)) (ρ 1 / 4))) := F50.2.2.1
  show pz_kd (pz_gt (ρ 0)) (pz_gN (ρ 0)) (pz_p (pz_cf (pz_gt (ρ 0)) (pz_gN (ρ 0)) (ρ 1 / 4))) ≠ 0
  omega

theorem axq_rt4b : ax_RO ax_wC ax_XC axu_rt4b := by
  intro ρ hp hE hT
  have j0 : ρ 0 % 4 = 1 := pz_gj hE 0 (Nat.le_of_ble_eq_true rfl) rfl
  have j1 : ρ 1 % 4 = 1 := pz_gj hE 1 (Nat.le_of_ble_eq_true rfl) rfl
  obtain ⟨i2a, i2b, i2c, i2d⟩ := pz_gi hE 2 2147483649 4294967295 (Nat.le_of_ble_eq_true rfl) rfl
  have c_kind : ay_at hp 8 7 = some (ρ 2) := ay_gfj hE 42 28 11 8 7 ax_m1 (ax_vlq rfl rfl) (ax_vlj rfl rfl)
  obtain ⟨-, -, -, -, F50⟩ : ay_ex hp 8 ∧ ay_ex hp 10 ∧ ay_ex hp 11 ∧ ay_ex hp 12 ∧ pz_x50 (ρ 0) (ρ 1) (ay_at hp 8 5) (ay_at hp 8 6) (ay_at hp 8 7) (ay_at hp 8 8) (ay_at hp 10 0) (ay_at hp 10 1) (ay_at hp 10 2) (ay_at hp 10 3) (ay_at hp 10 4) (ay_at hp 8 9) (ay_at hp 8 11) (ay_at hp 8 10) (ay_at hp 8 3) (ay_at hp 8 4) (ay_at hp 11) (ay_at hp 12) := (ax_XF_lt (x := 50) (Nat.le_of_ble_eq_true rfl)).mp (ax_gx hE (50, [3, 7]) ax_m0)
  rw [c_kind] at F50
  refine ⟨(fun y hy => by cases hy), _, List.mem_cons_self, ρ, fun _ _ => rfl, ax_px hE rfl (fun y hy => ?_)⟩
  cases List.mem_singleton.mp hy
  refine (ax_XF_lt (x := 111) (Nat.le_of_ble_eq_true rfl)).mpr ?_
  show pz111 (pz_gt (ρ 0)) (pz_gN (ρ 0)) ((ρ 1) / 4)
  have kd : ρ 2 / 4 = pz_kd (pz_gt (ρ 0)) (pz_gN (ρ 0)) (pz_p (pz_cf (pz_gt (ρ 0)) (pz_gN (ρ 0)) (ρ 1 / 4))) := F50.2.2.1
  show pz_kd (pz_gt (ρ 0)) (pz_gN (ρ 0)) (pz_p (pz_cf (pz_gt (ρ 0)) (pz_gN (ρ 0)) (ρ 1 / 4))) ≠ 0
  omega

theorem axq_rt5 : ax_RO ax_wC ax_XC axu_rt5 := by
  intro ρ hp hE hT
  have j0 : ρ 0 % 4 = 1 := pz_gj hE 0 (Nat.le_of_ble_eq_true rfl) rfl
  have j1 : ρ 1 % 4 = 1 := pz_gj hE 1 (Nat.le_of_ble_eq_true rfl) rfl
  obtain ⟨-, -, -, -, F50⟩ : ay_ex hp 8 ∧ ay_ex hp 10 ∧ ay_ex hp 11 ∧ ay_ex hp 12 ∧ pz_x50 (ρ 0) (ρ 1) (ay_at hp 8 5) (ay_at hp 8 6) (ay_at hp 8 7) (ay_at hp 8 8) (ay_at hp 10 0) (ay_at hp 10 1) (ay_at hp 10 2) (ay_at hp 10 3) (ay_at hp 10 4) (ay_at hp 8 9) (ay_at hp 8 11) (ay_at hp 8 10) (ay_at hp 8 3) (ay_at hp 8 4) (ay_at hp 11) (ay_at hp 12) := (ax_XF_lt (x := 50) (Nat.le_of_ble_eq_true rfl)).mp (ax_gx hE (50, [3, 7]) ax_m0)
  have F73 : pz7 (pz_gt (ρ 0)) (pz_gN (ρ 0)) ((ρ 1) / 4) 3 := (ax_XF_lt (x := 73) (Nat.le_of_ble_eq_true rfl)).mp (ax_gx hE (73, [3, 7]) ax_m1)
  refine ⟨(fun y hy => by cases hy), _, List.mem_cons_self, ρ, fun _ _ => rfl, ax_px hE rfl (fun y hy => ?_)⟩
  cases List.mem_singleton.mp hy
  refine (ax_XF_lt (x := 97) (Nat.le_of_ble_eq_true rfl)).mpr ?_
  show (0) / 4 ≤ (ρ 1) / 4
  exact Nat.zero_le _

theorem axq_rt6 : ax_RO ax_wC ax_XC axu_rt6 := by
  intro ρ hp hE hT
  have j0 : ρ 0 % 4 = 1 := pz_gj hE 0 (Nat.le_of_ble_eq_true rfl) rfl
  have j1 : ρ 1 % 4 = 1 := pz_gj hE 1 (Nat.le_of_ble_eq_true rfl) rfl
  have j2 : ρ 2 % 4 = 1 := pz_gj hE 2 (Nat.le_of_ble_eq_true rfl) rfl
  obtain ⟨i3a, i3b, i3c, i3d⟩ := pz_gi hE 3 2147483648 2147484447 (Nat.le_of_ble_eq_true rfl) rfl
  obtain ⟨i4a, i4b, i4c, i4d⟩ := pz_gi hE 4 0 4294967295 (Nat.le_of_ble_eq_true rfl) rfl
  have s1 : (ρ 3 / 4 + 2147483648) % 4294967296 + (4 / 4 + 2147483648) % 4294967296 = (ρ 4 / 4 + 2147483648) % 4294967296 + 2147483648 := pz_gs hE 15 4 19 ax_m1
  have o1 : ρ 2 < ρ 1 := pz_go hE 11 7 (by decide)
  obtain ⟨-, -, -, -, F50⟩ : ay_ex hp 8 ∧ ay_ex hp 10 ∧ ay_ex hp 11 ∧ ay_ex hp 12 ∧ pz_x50 (ρ 0) (ρ 1) (ay_at hp 8 5) (ay_at hp 8 6) (ay_at hp 8 7) (ay_at hp 8 8) (ay_at hp 10 0) (ay_at hp 10 1) (ay_at hp 10 2) (ay_at hp 10 3) (ay_at hp 10 4) (ay_at hp 8 9) (ay_at hp 8 11) (ay_at hp 8 10) (ay_at hp 8 3) (ay_at hp 8 4) (ay_at hp 11) (ay_at hp 12) := (ax_XF_lt (x := 50) (Nat.le_of_ble_eq_true rfl)).mp (ax_gx hE (50, [3, 7]) ax_m0)
  have F97 : (ρ 3) / 4 ≤ (ρ 2) / 4 := (ax_XF_lt (x := 97) (Nat.le_of_ble_eq_true rfl)).mp (ax_gx hE (97, [11, 15]) ax_m2)
  refine ⟨(fun y hy => by cases hy), _, List.mem_cons_self, ρ, fun _ _ => rfl, ax_px hE rfl (fun y hy => ?_)⟩
  cases List.mem_singleton.mp hy
  refine (ax_XF_lt (x := 97) (Nat.le_of_ble_eq_true rfl)).mpr ?_
  show (ρ 4) / 4 ≤ (ρ 1) / 4
  omega

theorem axq_rt7 : ax_RO ax_wC ax_XC axu_rt7 := by
  intro ρ hp hE hT
  have j0 : ρ 0 % 4 = 1 := pz_gj hE 0 (Nat.le_of_ble_eq_true rfl) rfl
  have j1 : ρ 1 % 4 = 1 := pz_gj hE 1 (Nat.le_of_ble_eq_true rfl) rfl
  obtain ⟨i2a, i2b, i2c, i2d⟩ := pz_gi hE 2 2147484448 2147484448 (Nat.le_of_ble_eq_true rfl) rfl
  obtain ⟨-, -, F30⟩ : ay_ex hp 8 ∧ ay_ex hp 9 ∧ pz_x30 (ρ 0) (ay_at hp 8 1) (ay_at hp 9) := (ax_XF_lt (x := 30) (Nat.le_of_ble_eq_true rfl)).mp (ax_gx hE (30, [3]) ax_m0)
  obtain ⟨-, -, -, -, F50⟩ : ay_ex hp 8 ∧ ay_ex hp 10 ∧ ay_ex hp 11 ∧ ay_ex hp 12 ∧ pz_x50 (ρ 0) (ρ 1) (ay_at hp 8 5) (ay_at hp 8 6) (ay_at hp 8 7) (ay_at hp 8 8) (ay_at hp 10 0) (ay_at hp 10 1) (ay_at hp 10 2) (ay_at hp 10 3) (ay_at hp 10 4) (ay_at hp 8 9) (ay_at hp 8 11) (ay_at hp 8 10) (ay_at hp 8 3) (ay_at hp 8 4) (ay_at hp 11) (ay_at hp 12) := (ax_XF_lt (x := 50) (Nat.le_of_ble_eq_true rfl)).mp (ax_gx hE (50, [3, 7]) ax_m1)
  have F73 : pz7 (pz_gt (ρ 0)) (pz_gN (ρ 0)) ((ρ 1) / 4) 3 := (ax_XF_lt (x := 73) (Nat.le_of_ble_eq_true rfl)).mp (ax_gx hE (73, [3, 7]) ax_m2)
  have F97 : (ρ 2) / 4 ≤ (ρ 1) / 4 := (ax_XF_lt (x := 97) (Nat.le_of_ble_eq_true rfl)).mp (ax_gx hE (97, [7, 11]) ax_m3)
  refine ⟨(fun y hy => by cases hy), _, List.mem_cons_self, ρ, fun _ _ => rfl, ax_px hE rfl (fun y hy => ?_)⟩
  cases List.mem_singleton.mp hy
  refine (ax_XF_lt (x := 110) (Nat.le_of_ble_eq_true rfl)).mpr ?_
  show ay_ex hp 10 ∧ ay_ex hp 8 ∧ ay_ex hp 11 ∧ ay_ex hp 12 ∧ pz110 (pz_gt (ρ 0)) (pz_gN (ρ 0)) (ay_ln (ay_at hp 10 0)) (ay_ln (ay_at hp 10 1)) (ay_ln (ay_at hp 10 2)) (ay_ln (ay_at hp 10 3)) (ay_ln (ay_at hp 10 4)) (ay_ln (ay_at hp 8 9)) (ay_ln (ay_at hp 8 11)) (ay_ln (ay_at hp 8 10)) (ay_ln (ay_at hp 8 3)) (ay_ln (ay_at hp 8 4)) (ay_at hp 11) (ay_at hp 12)
  refine ⟨(ax_cellT hT (q := 10) (g := 1) rfl), (ax_cellT hT (q := 8) (g := 2) rfl), (ax_cellT hT (q := 11) (g := 14) rfl), (ax_cellT hT (q := 12) (g := 15) rfl), ?_⟩
  have kd := pq_far (n := ρ 1 / 4) F73 (by decide) (show pz_gN (ρ 0) ≤ 800 from F30.2.1) (by omega)
  exact pq_rt8 F50 F73 (F50.2.2.1.trans kd)

theorem axq_rt8 : ax_RO ax_wC ax_XC axu_rt8 := by
  intro ρ hp hE hT
  have j0 : ρ 0 % 4 = 1 := pz_gj hE 0 (Nat.le_of_ble_eq_true rfl) rfl
  have j1 : ρ 1 % 4 = 1 := pz_gj hE 1 (Nat.le_of_ble_eq_true rfl) rfl
  obtain ⟨i2a, i2b, i2c, i2d⟩ := pz_gi hE 2 2147483648 2147483648 (Nat.le_of_ble_eq_true rfl) rfl
  have c_kind : ay_at hp 8 7 = some (ρ 2) := ay_gfj hE 42 28 11 8 7 ax_m2 (ax_vlq rfl rfl) (ax_vlj rfl rfl)
  obtain ⟨-, -, -, -, F50⟩ : ay_ex hp 8 ∧ ay_ex hp 10 ∧ ay_ex hp 11 ∧ ay_ex hp 12 ∧ pz_x50 (ρ 0) (ρ 1) (ay_at hp 8 5) (ay_at hp 8 6) (ay_at hp 8 7) (ay_at hp 8 8) (ay_at hp 10 0) (ay_at hp 10 1) (ay_at hp 10 2) (ay_at hp 10 3) (ay_at hp 10 4) (ay_at hp 8 9) (ay_at hp 8 11) (ay_at hp 8 10) (ay_at hp 8 3) (ay_at hp 8 4) (ay_at hp 11) (ay_at hp 12) := (ax_XF_lt (x := 50) (Nat.le_of_ble_eq_true rfl)).mp (ax_gx hE (50, [3, 7]) ax_m0)
  rw [c_kind] at F50
  have F73 : pz7 (pz_gt (ρ 0)) (pz_gN (ρ 0)) ((ρ 1) / 4) 3 := (ax_XF_lt (x := 73) (Nat.le_of_ble_eq_true rfl)).mp (ax_gx hE (73, [3, 7]) ax_m1)
  refine ⟨(fun y hy => by cases hy), _, List.mem_cons_self, ρ, fun _ _ => rfl, ax_px hE rfl (fun y hy => ?_)⟩
  cases List.mem_singleton.mp hy
  refine (ax_XF_lt (x := 110) (Nat.le_of_ble_eq_true rfl)).mpr ?_
  show ay_ex hp 10 ∧ ay_ex hp 8 ∧ ay_ex hp 11 ∧ ay_ex hp 12 ∧ pz110 (pz_gt (ρ 0)) (pz_gN (ρ 0)) (ay_ln (ay_at hp 10 0)) (ay_ln (ay_at hp 10 1)) (ay_ln (ay_at hp 10 2)) (ay_ln (ay_at hp 10 3)) (ay_ln (ay_at hp 10 4)) (ay_ln (ay_at hp 8 9)) (ay_ln (ay_at hp 8 11)) (ay_ln (ay_at hp 8 10)) (ay_ln (ay_at hp 8 3)) (ay_ln (ay_at hp 8 4)) (ay_at hp 11) (ay_at hp 12)
  refine ⟨(ax_cellT hT (q := 10) (g := 1) rfl), (ax_cellT hT (q := 8) (g := 2) rfl), (ax_cellT hT (q := 11) (g := 14) rfl), (ax_cellT hT (q := 12) (g := 15) rfl), ?_⟩
  exact pq_rt8 F50 F73 (show ρ 2 / 4 = 0 by omega)

theorem axq_ap1 : ax_RO ax_wC ax_XC axu_ap1 := by
  intro ρ hp hE hT
  have j0 : ρ 0 % 4 = 1 := pz_gj hE 0 (Nat.le_of_ble_eq_true rfl) rfl
  obtain ⟨i1a, i1b, i1c, i1d⟩ := pz_gi hE 1 0 4294967295 (Nat.le_of_ble_eq_true rfl) rfl
  obtain ⟨i2a, i2b, i2c, i2d⟩ := pz_gi hE 2 2147483648 2147484444 (Nat.le_of_ble_eq_true rfl) rfl
  have c_size : ay_at hp 8 1 = some (ρ 2) := ay_gfj hE 42 4 11 8 1 ax_m1 (ax_vlq rfl rfl) (ax_vlj rfl rfl)
  obtain ⟨-, -, F30⟩ : ay_ex hp 8 ∧ ay_ex hp 9 ∧ pz_x30 (ρ 0) (ay_at hp 8 1) (ay_at hp 9) := (ax_XF_lt (x := 30) (Nat.le_of_ble_eq_true rfl)).mp (ax_gx hE (30, [3]) ax_m0)
  rw [c_size] at F30
  refine ⟨(fun y hy => by cases hy), _, List.mem_cons_self, ρ, fun _ _ => rfl, ax_px hE rfl (fun y hy => ?_)⟩
  cases List.mem_singleton.mp hy
  refine (ax_XF_lt (x := 34) (Nat.le_of_ble_eq_true rfl)).mpr ?_
  show pz_x34 (ρ 0) (ρ 1) (96) (ρ 0)
  have e : ρ 2 / 4 = pz_gN (ρ 0) := F30.1
  exact ⟨by omega, 0, by decide, by decide, rfl⟩

theorem axq_ap2 : ax_RO ax_wC ax_XC axu_ap2 := by
  intro ρ hp hE hT
  have j0 : ρ 0 % 4 = 1 := pz_gj hE 0 (Nat.le_of_ble_eq_true rfl) rfl
  have j1 : ρ 1 % 4 = 1 := pz_gj hE 1 (Nat.le_of_ble_eq_true rfl) rfl
  obtain ⟨i2a, i2b, i2c, i2d⟩ := pz_gi hE 2 0 4294967295 (Nat.le_of_ble_eq_true rfl) rfl
  obtain ⟨i3a, i3b, i3c, i3d⟩ := pz_gi hE 3 2147483648 2147483672 (Nat.le_of_ble_eq_true rfl) rfl
  obtain ⟨i4a, i4b, i4c, i4d⟩ := pz_gi hE 4 0 4294967295 (Nat.le_of_ble_eq_true rfl) rfl
  obtain ⟨i5a, i5b, i5c, i5d⟩ := pz_gi hE 5 2147483520 2147483775 (Nat.le_of_ble_eq_true rfl) rfl
  obtain ⟨i6a, i6b, i6c, i6d⟩ := pz_gi hE 6 2147483648 2147484447 (Nat.le_of_ble_eq_true rfl) rfl
  have c_size : ay_at hp 8 1 = some (ρ 6) := ay_gfj hE 42 4 27 8 1 ax_m4 (ax_vlq rfl rfl) (ax_vlj rfl rfl)
  have F34 : pz_x34 (ρ 0) (ρ 2) (ρ 3) (ρ 1) := (ax_XF_lt (x := 34) (Nat.le_of_ble_eq_true rfl)).mp (ax_gx hE (34, [3, 11, 15, 7]) ax_m2)
  obtain ⟨-, -, F30⟩ : ay_ex hp 8 ∧ ay_ex hp 9 ∧ pz_x30 (ρ 1) (ay_at hp 8 1) (ay_at hp 9) := (ax_XF_lt (x := 30) (Nat.le_of_ble_eq_true rfl)).mp (ax_gx hE (30, [7]) ax_m3)
  rw [c_size] at F30
  obtain ⟨hle, k, hk, hs, hg⟩ := F34
  have hk3 : k < 4 := by omega
  have h3 : ρ 3 / 4 = 24 - 8 * k := by omega
  obtain ⟨r, m1, m2, m3⟩ := ay_mk hE 7 11 15 19 (by decide) (by decide)
  replace m1 : rx_f_shr (ρ 2 / 4) (ρ 3 / 4) = some r := m1
  replace m3 : ρ 4 = 4 * r := m3
  rw [h3] at m1
  have m4 : ρ 5 = 4 * rx_f_i2b (ρ 4 / 4) := pz_g43 hE 19 23 (by decide)
  rw [m3, show 4 * r / 4 = r by omega] at m4
  have eb : ρ 5 / 4 = pz_by (ρ 2 / 4) k := by rw [pz_by_eq m1, m4]; omega
  have eN : ρ 6 / 4 = pz_gN (ρ 1) := F30.1
  have hb5 : ρ 5 = 4 * (ρ 5 / 4) := by omega
  obtain ⟨ρ', h1, h2⟩ := pz_pn1 (K := pz_ap (ρ 1) (ρ 5 / 4) / 4) (xf := [(535, [46, 27, 23, 31]), (36, [3, 11, 15, 31])]) hE (by decide) (fun ρ' h1 h2 x hx => by
    have q0 : ρ' 0 = ρ 0 := h1 0 (by decide)
    have q1 : ρ' 1 = ρ 1 := h1 1 (by decide)
    have q2 : ρ' 2 = ρ 2 := h1 2 (by decide)
    have q3 : ρ' 3 = ρ 3 := h1 3 (by decide)
    have q4 : ρ' 4 = ρ 4 := h1 4 (by decide)
    have q5 : ρ' 5 = ρ 5 := h1 5 (by decide)
    have q6 : ρ' 6 = ρ 6 := h1 6 (by decide)
    rcases List.mem_cons.mp hx with e | hx
    · subst e
      refine (ax_XF_wr (x := 35) (Nat.le_of_ble_eq_true rfl)).mpr ?_
      show ay_ex (ax_upd hp 46 (ρ' 6) (ρ' 5)) 8 ∧ ay_ex (ax_upd hp 46 (ρ' 6) (ρ' 5)) 9 ∧ pz_x35 (ρ' 7) (ay_at (ax_upd hp 46 (ρ' 6) (ρ' 5)) 8 1) (ay_at (ax_upd hp 46 (ρ' 6) (ρ' 5)) 9)
      rw [q5, q6, h2]
      rw [pz_ap_4]
      obtain ⟨o0, ho0⟩ := ay_some hT (q := 9) (g := 20) (n := 800) rfl rfl (j := ρ 6 / 4) (by omega)
      refine ⟨ay_ex_upd hT.1 (ax_cellT hT (q := 8) (g := 2) rfl), ay_ex_upd hT.1 (ax_cellT hT (q := 9) (g := 20) rfl), ?_⟩
      rw [show ay_at (ax_upd hp 46 (ρ 6) (ρ 5)) 8 1 = ay_at hp 8 1 from ay_upd_ne hT.1 (by decide) _, c_size]
      have u2 : ∀ j, ay_at (ax_upd hp 46 (ρ 6) (ρ 5)) 9 j = if j = ρ 6 / 4 then some (4 * (ρ 5 / 4)) else ay_at hp 9 j := fun j => by rw [← hb5]; exact ay_upd_eq hT.1 rfl ho0 j
      have e1 := (pz_ap_g (g := ρ 1) (c := ρ 5 / 4) (by omega)).1
      refine ⟨?_, ?_, pz_ap_tp eN.symm (by omega) (by omega) F30.2.2 u2⟩
      · show ρ 6 / 4 + 1 = _
        rw [e1, eN]
      · rw [e1, ← eN]
        omega
    cases List.mem_singleton.mp hx
    refine (ax_XF_lt (x := 36) (Nat.le_of_ble_eq_true rfl)).mpr ?_
    show pz_x36 (ρ' 0) (ρ' 2) (ρ' 3) (ρ' 7)
    rw [q0, q2, q3, h2]
    rw [pz_ap_4]
    exact ⟨hle, k, hk3, hs, by rw [eb, hg]; rfl⟩)
  exact ⟨(fun y hy => by cases hy), _, List.mem_cons_self, ρ', h1, h2⟩

theorem axq_ap3 : ax_RO ax_wC ax_XC axu_ap3 := by
  intro ρ hp hE hT
  have j0 : ρ 0 % 4 = 1 := pz_gj hE 0 (Nat.le_of_ble_eq_true rfl) rfl
  obtain ⟨i1a, i1b, i1c, i1d⟩ := pz_gi hE 1 2147483648 2147484447 (Nat.le_of_ble_eq_true rfl) rfl
  obtain ⟨i2a, i2b, i2c, i2d⟩ := pz_gi hE 2 0 4294967295 (Nat.le_of_ble_eq_true rfl) rfl
  have c_size : ay_at hp 8 1 = some (ρ 1) := ay_gfj hE 42 4 7 8 1 ax_m1 (ax_vlq rfl rfl) (ax_vlj rfl rfl)
  have s1 : (ρ 1 / 4 + 2147483648) % 4294967296 + (4 / 4 + 2147483648) % 4294967296 = (ρ 2 / 4 + 2147483648) % 4294967296 + 2147483648 := pz_gs hE 7 4 11 ax_m2
  obtain ⟨-, -, F35⟩ : ay_ex hp 8 ∧ ay_ex hp 9 ∧ pz_x35 (ρ 0) (ay_at hp 8 1) (ay_at hp 9) := (ax_XF_lt (x := 35) (Nat.le_of_ble_eq_true rfl)).mp (ax_gx hE (35, [3]) ax_m0)
  rw [c_size] at F35
  refine ⟨(fun y hy => by cases hy), _, List.mem_cons_self, ρ, fun _ _ => rfl, ax_px hE rfl (fun y hy => ?_)⟩
  cases List.mem_singleton.mp hy
  refine (ax_XF_wr (x := 30) (Nat.le_of_ble_eq_true rfl)).mpr ?_
  show ay_ex (ax_upd hp 42 4 (ρ 2)) 8 ∧ ay_ex (ax_upd hp 42 4 (ρ 2)) 9 ∧ pz_x30 (ρ 0) (ay_at (ax_upd hp 42 4 (ρ 2)) 8 1) (ay_at (ax_upd hp 42 4 (ρ 2)) 9)
  obtain ⟨o0, ho0⟩ := ay_some hT (q := 8) (g := 2) (n := 12) rfl rfl (j := 4 / 4) (Nat.le_of_ble_eq_true rfl)
  have u1 : ∀ q, q ≠ 8 → ay_at (ax_upd hp 42 4 (ρ 2)) q = ay_at hp q := fun q hq => funext (fun j => ay_upd_ne hT.1 hq j)
  have u2 : ∀ j, ay_at (ax_upd hp 42 4 (ρ 2)) 8 j = if j = 1 then some (ρ 2) else ay_at hp 8 j := fun j => ay_upd_eq hT.1 rfl ho0 j
  refine ⟨ay_ex_upd hT.1 (ax_cellT hT (q := 8) (g := 2) rfl), ay_ex_upd hT.1 (ax_cellT hT (q := 9) (g := 20) rfl), ?_⟩
  rw [u2 1, if_pos rfl, u1 9 (Nat.ne_of_beq_eq_false rfl)]
  have e : ρ 1 / 4 + 1 = pz_gN (ρ 0) := F35.1
  exact ⟨by show ρ 2 / 4 = _; omega, F35.2.1, F35.2.2⟩

theorem axq_ap4 : ax_RO ax_wC ax_XC axu_ap4 := by
  intro ρ hp hE hT
  have j0 : ρ 0 % 4 = 1 := pz_gj hE 0 (Nat.le_of_ble_eq_true rfl) rfl
  have j1 : ρ 1 % 4 = 1 := pz_gj hE 1 (Nat.le_of_ble_eq_true rfl) rfl
  obtain ⟨i2a, i2b, i2c, i2d⟩ := pz_gi hE 2 0 4294967295 (Nat.le_of_ble_eq_true rfl) rfl
  obtain ⟨i3a, i3b, i3c, i3d⟩ := pz_gi hE 3 2147483648 2147483672 (Nat.le_of_ble_eq_true rfl) rfl
  obtain ⟨i4a, i4b, i4c, i4d⟩ := pz_gi hE 4 0 4294967295 (Nat.le_of_ble_eq_true rfl) rfl
  have s1 : (ρ 3 / 4 + 2147483648) % 4294967296 + (17179869152 / 4 + 2147483648) % 4294967296 = (ρ 4 / 4 + 2147483648) % 4294967296 + 2147483648 := pz_gs hE 15 17179869152 19 ax_m0
  have F36 : pz_x36 (ρ 0) (ρ 2) (ρ 3) (ρ 1) := (ax_XF_lt (x := 36) (Nat.le_of_ble_eq_true rfl)).mp (ax_gx hE (36, [3, 11, 15, 7]) ax_m1)
  refine ⟨(fun y hy => by cases hy), _, List.mem_cons_self, ρ, fun _ _ => rfl, ax_px hE rfl (fun y hy => ?_)⟩
  cases List.mem_singleton.mp hy
  refine (ax_XF_lt (x := 34) (Nat.le_of_ble_eq_true rfl)).mpr ?_
  show pz_x34 (ρ 0) (ρ 2) (ρ 4) (ρ 1)
  obtain ⟨hle, k, hk, hs, hg⟩ := F36
  exact ⟨hle, k + 1, by omega, by omega, hg⟩

theorem axq_ap5 : ax_RO ax_wC ax_XC axu_ap5 := by
  intro ρ hp hE hT
  have j0 : ρ 0 % 4 = 1 := pz_gj hE 0 (Nat.le_of_ble_eq_true rfl) rfl
  have j1 : ρ 1 % 4 = 1 := pz_gj hE 1 (Nat.le_of_ble_eq_true rfl) rfl
  obtain ⟨i2a, i2b, i2c, i2d⟩ := pz_gi hE 2 0 4294967295 (Nat.le_of_ble_eq_true rfl) rfl
  obtain ⟨i3a, i3b, i3c, i3d⟩ := pz_gi hE 3 2147483648 2147483672 (Nat.le_of_ble_eq_true rfl) rfl
  obtain ⟨i4a, i4b, i4c, i4d⟩ := pz_gi hE 4 2147484448 2147484448 (Nat.le_of_ble_eq_true rfl) rfl
  have c_size : ay_at hp 8 1 = some (ρ 4) := ay_gfj hE 42 4 19 8 1 ax_m2 (ax_vlq rfl rfl) (ax_vlj rfl rfl)
  have F34 : pz_x34 (ρ 0) (ρ 2) (ρ 3) (ρ 1) := (ax_XF_lt (x := 34) (Nat.le_of_ble_eq_true rfl)).mp (ax_gx hE (34, [3, 11, 15, 7]) ax_m0)
  obtain ⟨-, -, F30⟩ : ay_ex hp 8 ∧ ay_ex hp 9 ∧ pz_x30 (ρ 1) (ay_at hp 8 1) (ay_at hp 9) := (ax_XF_lt (x := 30) (Nat.le_of_ble_eq_true rfl)).mp (ax_gx hE (30, [7]) ax_m1)
  rw [c_size] at F30
  exfalso
  obtain ⟨hle, k, hk, hs, hg⟩ := F34
  have e : ρ 4 / 4 = pz_gN (ρ 1) := F30.1
  rw [hg, pz_apk_N (by omega)] at e
  omega

theorem axq_ap6 : ax_RO ax_wC ax_XC axu_ap6 := by
  intro ρ hp hE hT
  have j0 : ρ 0 % 4 = 1 := pz_gj hE 0 (Nat.le_of_ble_eq_true rfl) rfl
  have j1 : ρ 1 % 4 = 1 := pz_gj hE 1 (Nat.le_of_ble_eq_true rfl) rfl
  obtain ⟨i2a, i2b, i2c, i2d⟩ := pz_gi hE 2 0 4294967295 (Nat.le_of_ble_eq_true rfl) rfl
  obtain ⟨i3a, i3b, i3c, i3d⟩ := pz_gi hE 3 2147483640 2147483647 (Nat.le_of_ble_eq_true rfl) rfl
  have F34 : pz_x34 (ρ 0) (ρ 2) (ρ 3) (ρ 1) := (ax_XF_lt (x := 34) (Nat.le_of_ble_eq_true rfl)).mp (ax_gx hE (34, [3, 11, 15, 7]) ax_m0)
  refine ⟨(fun y hy => by cases hy), _, List.mem_cons_self, ρ, fun _ _ => rfl, ax_px hE rfl (fun y hy => ?_)⟩
  cases List.mem_singleton.mp hy
  refine (ax_XF_lt (x := 33) (Nat.le_of_ble_eq_true rfl)).mpr ?_
  show (ρ 1) = pz_apk ((ρ 2) / 4) (ρ 0) 4
  obtain ⟨hle, k, hk, hs, hg⟩ := F34
  have e : k = 4 := by omega
  rw [e] at hg
  exact hg

theorem axq_fd0 : ax_RO ax_wC ax_XC axu_fd0 := by
  intro ρ hp hE hT
  have j0 : ρ 0 % 4 = 1 := pz_gj hE 0 (Nat.le_of_ble_eq_true rfl) rfl
  obtain ⟨i1a, i1b, i1c, i1d⟩ := pz_gi hE 1 2147483648 2147484428 (Nat.le_of_ble_eq_true rfl) rfl
  have c_size : ay_at hp 8 1 = some (ρ 1) := ay_gfj hE 42 4 7 8 1 ax_m1 (ax_vlq rfl rfl) (ax_vlj rfl rfl)
  obtain ⟨-, -, F30⟩ : ay_ex hp 8 ∧ ay_ex hp 9 ∧ pz_x30 (ρ 0) (ay_at hp 8 1) (ay_at hp 9) := (ax_XF_lt (x := 30) (Nat.le_of_ble_eq_true rfl)).mp (ax_gx hE (30, [3]) ax_m0)
  rw [c_size] at F30
  refine ⟨(fun y hy => by cases hy), _, List.mem_cons_self, ρ, fun _ _ => rfl, ax_px hE rfl (fun y hy => ?_)⟩
  cases List.mem_singleton.mp hy
  refine (ax_XF_lt (x := 39) (Nat.le_of_ble_eq_true rfl)).mpr ?_
  show pz_gN (ρ 0) = (ρ 1) / 4
  exact F30.1.symm

theorem axq_fd1 : ax_RO ax_wC ax_XC axu_fd1 := by
  intro ρ hp hE hT
  have j0 : ρ 0 % 4 = 1 := pz_gj hE 0 (Nat.le_of_ble_eq_true rfl) rfl
  have j1 : ρ 1 % 4 = 1 := pz_gj hE 1 (Nat.le_of_ble_eq_true rfl) rfl
  obtain ⟨i2a, i2b, i2c, i2d⟩ := pz_gi hE 2 0 4294967295 (Nat.le_of_ble_eq_true rfl) rfl
  obtain ⟨i3a, i3b, i3c, i3d⟩ := pz_gi hE 3 2147483648 2147484428 (Nat.le_of_ble_eq_true rfl) rfl
  obtain ⟨i4a, i4b, i4c, i4d⟩ := pz_gi hE 4 2147483648 2147484448 (Nat.le_of_ble_eq_true rfl) rfl
  have c_size : ay_at hp 8 1 = some (ρ 4) := ay_gfj hE 42 4 19 8 1 ax_m3 (ax_vlq rfl rfl) (ax_vlj rfl rfl)
  obtain ⟨-, -, F30⟩ : ay_ex hp 8 ∧ ay_ex hp 9 ∧ pz_x30 (ρ 1) (ay_at hp 8 1) (ay_at hp 9) := (ax_XF_lt (x := 30) (Nat.le_of_ble_eq_true rfl)).mp (ax_gx hE (30, [7]) ax_m0)
  rw [c_size] at F30
  have F33 : (ρ 1) = pz_apk ((ρ 2) / 4) (ρ 0) 4 := (ax_XF_lt (x := 33) (Nat.le_of_ble_eq_true rfl)).mp (ax_gx hE (33, [3, 11, 7]) ax_m1)
  have F39 : pz_gN (ρ 0) = (ρ 3) / 4 := (ax_XF_lt (x := 39) (Nat.le_of_ble_eq_true rfl)).mp (ax_gx hE (39, [3, 15]) ax_m2)
  have e : ρ 4 / 4 = pz_gN (ρ 1) := F30.1
  have e0 : pz_gN (ρ 0) = ρ 3 / 4 := F39
  have e2 : pz_gN (ρ 1) = pz_gN (ρ 0) + 4 := by rw [F33]; exact pz_apk_N (by omega)
  refine ⟨fun y hy => ?_, _, List.mem_cons_self, ρ, fun _ _ => rfl, ax_px hE rfl (fun y hy => ?_)⟩
  · cases List.mem_singleton.mp hy
    show 2147483648 ≤ rx_bi (ρ 4 / 4) ∧ rx_bi (ρ 4 / 4) ≤ 2147484432
    rw [ax_bi_def]
    omega
  · cases List.mem_singleton.mp hy
    refine (ax_XF_lt (x := 39) (Nat.le_of_ble_eq_true rfl)).mpr ?_
    show pz_gN (ρ 1) = (ρ 4) / 4
    exact e.symm

theorem axq_fd2 : ax_RO ax_wC ax_XC axu_fd2 := by
  intro ρ hp hE hT
  have j0 : ρ 0 % 4 = 1 := pz_gj hE 0 (Nat.le_of_ble_eq_true rfl) rfl
  have j1 : ρ 1 % 4 = 1 := pz_gj hE 1 (Nat.le_of_ble_eq_true rfl) rfl
  obtain ⟨i2a, i2b, i2c, i2d⟩ := pz_gi hE 2 0 4294967295 (Nat.le_of_ble_eq_true rfl) rfl
  obtain ⟨i3a, i3b, i3c, i3d⟩ := pz_gi hE 3 2147483648 2147484432 (Nat.le_of_ble_eq_true rfl) rfl
  obtain ⟨i4a, i4b, i4c, i4d⟩ := pz_gi hE 4 2147483648 2147484448 (Nat.le_of_ble_eq_true rfl) rfl
  have c_size : ay_at hp 8 1 = some (ρ 4) := ay_gfj hE 42 4 19 8 1 ax_m3 (ax_vlq rfl rfl) (ax_vlj rfl rfl)
  obtain ⟨-, -, F30⟩ : ay_ex hp 8 ∧ ay_ex hp 9 ∧ pz_x30 (ρ 1) (ay_at hp 8 1) (ay_at hp 9) := (ax_XF_lt (x := 30) (Nat.le_of_ble_eq_true rfl)).mp (ax_gx hE (30, [7]) ax_m0)
  rw [c_size] at F30
  have F33 : (ρ 1) = pz_apk ((ρ 2) / 4) (ρ 0) 4 := (ax_XF_lt (x := 33) (Nat.le_of_ble_eq_true rfl)).mp (ax_gx hE (33, [3, 11, 7]) ax_m1)
  have F39 : pz_gN (ρ 0) = (ρ 3) / 4 := (ax_XF_lt (x := 39) (Nat.le_of_ble_eq_true rfl)).mp (ax_gx hE (39, [3, 15]) ax_m2)
  have e : ρ 4 / 4 = pz_gN (ρ 1) := F30.1
  have e0 : pz_gN (ρ 0) = ρ 3 / 4 := F39
  have e2 : pz_gN (ρ 1) = pz_gN (ρ 0) + 4 := by rw [F33]; exact pz_apk_N (by omega)
  refine ⟨fun y hy => ?_, _, List.mem_cons_self, ρ, fun _ _ => rfl, ax_px hE rfl (fun y hy => ?_)⟩
  · cases List.mem_singleton.mp hy
    show 2147483648 ≤ rx_bi (ρ 4 / 4) ∧ rx_bi (ρ 4 / 4) ≤ 2147484436
    rw [ax_bi_def]
    omega
  · cases List.mem_singleton.mp hy
    refine (ax_XF_lt (x := 39) (Nat.le_of_ble_eq_true rfl)).mpr ?_
    show pz_gN (ρ 1) = (ρ 4) / 4
    exact e.symm

theorem axq_fd3 : ax_RO ax_wC ax_XC axu_fd3 := by
  intro ρ hp hE hT
  have j0 : ρ 0 % 4 = 1 := pz_gj hE 0 (Nat.le_of_ble_eq_true rfl) rfl
  have j1 : ρ 1 % 4 = 1 := pz_gj hE 1 (Nat.le_of_ble_eq_true rfl) rfl
  obtain ⟨i2a, i2b, i2c, i2d⟩ := pz_gi hE 2 0 4294967295 (Nat.le_of_ble_eq_true rfl) rfl
  obtain ⟨i3a, i3b, i3c, i3d⟩ := pz_gi hE 3 2147483648 2147484436 (Nat.le_of_ble_eq_true rfl) rfl
  obtain ⟨i4a, i4b, i4c, i4d⟩ := pz_gi hE 4 2147483648 2147484448 (Nat.le_of_ble_eq_true rfl) rfl
  have c_size : ay_at hp 8 1 = some (ρ 4) := ay_gfj hE 42 4 19 8 1 ax_m3 (ax_vlq rfl rfl) (ax_vlj rfl rfl)
  obtain ⟨-, -, F30⟩ : ay_ex hp 8 ∧ ay_ex hp 9 ∧ pz_x30 (ρ 1) (ay_at hp 8 1) (ay_at hp 9) := (ax_XF_lt (x := 30) (Nat.le_of_ble_eq_true rfl)).mp (ax_gx hE (30, [7]) ax_m0)
  rw [c_size] at F30
  have F33 : (ρ 1) = pz_apk ((ρ 2) / 4) (ρ 0) 4 := (ax_XF_lt (x := 33) (Nat.le_of_ble_eq_true rfl)).mp (ax_gx hE (33, [3, 11, 7]) ax_m1)
  have F39 : pz_gN (ρ 0) = (ρ 3) / 4 := (ax_XF_lt (x := 39) (Nat.le_of_ble_eq_true rfl)).mp (ax_gx hE (39, [3, 15]) ax_m2)
  have e : ρ 4 / 4 = pz_gN (ρ 1) := F30.1
  have e0 : pz_gN (ρ 0) = ρ 3 / 4 := F39
  have e2 : pz_gN (ρ 1) = pz_gN (ρ 0) + 4 := by rw [F33]; exact pz_apk_N (by omega)
  refine ⟨fun y hy => ?_, _, List.mem_cons_self, ρ, fun _ _ => rfl, ax_px hE rfl (fun y hy => ?_)⟩
  · cases List.mem_singleton.mp hy
    show 2147483648 ≤ rx_bi (ρ 4 / 4) ∧ rx_bi (ρ 4 / 4) ≤ 2147484440
    rw [ax_bi_def]
    omega
  · cases List.mem_singleton.mp hy
    refine (ax_XF_lt (x := 39) (Nat.le_of_ble_eq_true rfl)).mpr ?_
    show pz_gN (ρ 1) = (ρ 4) / 4
    exact e.symm

theorem axq_fd4 : ax_RO ax_wC ax_XC axu_fd4 := by
  intro ρ hp hE hT
  have j0 : ρ 0 % 4 = 1 := pz_gj hE 0 (Nat.le_of_ble_eq_true rfl) rfl
  have j1 : ρ 1 % 4 = 1 := pz_gj hE 1 (Nat.le_of_ble_eq_true rfl) rfl
  obtain ⟨i2a, i2b, i2c, i2d⟩ := pz_gi hE 2 0 4294967295 (Nat.le_of_ble_eq_true rfl) rfl
  obtain ⟨i3a, i3b, i3c, i3d⟩ := pz_gi hE 3 2147483648 2147484440 (Nat.le_of_ble_eq_true rfl) rfl
  obtain ⟨i4a, i4b, i4c, i4d⟩ := pz_gi hE 4 2147483648 2147484448 (Nat.le_of_ble_eq_true rfl) rfl
  have c_size : ay_at hp 8 1 = some (ρ 4) := ay_gfj hE 42 4 19 8 1 ax_m3 (ax_vlq rfl rfl) (ax_vlj rfl rfl)
  obtain ⟨-, -, F30⟩ : ay_ex hp 8 ∧ ay_ex hp 9 ∧ pz_x30 (ρ 1) (ay_at hp 8 1) (ay_at hp 9) := (ax_XF_lt (x := 30) (Nat.le_of_ble_eq_true rfl)).mp (ax_gx hE (30, [7]) ax_m0)
  rw [c_size] at F30
  have F33 : (ρ 1) = pz_apk ((ρ 2) / 4) (ρ 0) 4 := (ax_XF_lt (x := 33) (Nat.le_of_ble_eq_true rfl)).mp (ax_gx hE (33, [3, 11, 7]) ax_m1)
  have F39 : pz_gN (ρ 0) = (ρ 3) / 4 := (ax_XF_lt (x := 39) (Nat.le_of_ble_eq_true rfl)).mp (ax_gx hE (39, [3, 15]) ax_m2)
  have e : ρ 4 / 4 = pz_gN (ρ 1) := F30.1
  have e0 : pz_gN (ρ 0) = ρ 3 / 4 := F39
  have e2 : pz_gN (ρ 1) = pz_gN (ρ 0) + 4 := by rw [F33]; exact pz_apk_N (by omega)
  refine ⟨fun y hy => ?_, _, List.mem_cons_self, ρ, fun _ _ => rfl, ax_px hE rfl (fun y hy => ?_)⟩
  · cases List.mem_singleton.mp hy
    show 2147483648 ≤ rx_bi (ρ 4 / 4) ∧ rx_bi (ρ 4 / 4) ≤ 2147484444
    rw [ax_bi_def]
    omega
  · cases List.mem_singleton.mp hy
    refine (ax_XF_lt (x := 39) (Nat.le_of_ble_eq_true rfl)).mpr ?_
    show pz_gN (ρ 1) = (ρ 4) / 4
    exact e.symm

theorem axq_fd5 : ax_RO ax_wC ax_XC axu_fd5 := by
  intro ρ hp hE hT
  have j0 : ρ 0 % 4 = 1 := pz_gj hE 0 (Nat.le_of_ble_eq_true rfl) rfl
  have j1 : ρ 1 % 4 = 1 := pz_gj hE 1 (Nat.le_of_ble_eq_true rfl) rfl
  have j2 : ρ 2 % 4 = 1 := pz_gj hE 2 (Nat.le_of_ble_eq_true rfl) rfl
  have j3 : ρ 3 % 4 = 1 := pz_gj hE 3 (Nat.le_of_ble_eq_true rfl) rfl
  have j4 : ρ 4 % 4 = 1 := pz_gj hE 4 (Nat.le_of_ble_eq_true rfl) rfl
  have j5 : ρ 5 % 4 = 1 := pz_gj hE 5 (Nat.le_of_ble_eq_true rfl) rfl
  obtain ⟨i6a, i6b, i6c, i6d⟩ := pz_gi hE 6 0 4294967295 (Nat.le_of_ble_eq_true rfl) rfl
  obtain ⟨i7a, i7b, i7c, i7d⟩ := pz_gi hE 7 0 4294967295 (Nat.le_of_ble_eq_true rfl) rfl
  obtain ⟨i8a, i8b, i8c, i8d⟩ := pz_gi hE 8 0 4294967295 (Nat.le_of_ble_eq_true rfl) rfl
  obtain ⟨i9a, i9b, i9c, i9d⟩ := pz_gi hE 9 0 4294967295 (Nat.le_of_ble_eq_true rfl) rfl
  obtain ⟨i10a, i10b, i10c, i10d⟩ := pz_gi hE 10 0 4294967295 (Nat.le_of_ble_eq_true rfl) rfl
  obtain ⟨-, -, F30⟩ : ay_ex hp 8 ∧ ay_ex hp 9 ∧ pz_x30 (ρ 5) (ay_at hp 8 1) (ay_at hp 9) := (ax_XF_lt (x := 30) (Nat.le_of_ble_eq_true rfl)).mp (ax_gx hE (30, [23]) ax_m0)
  have F33 : (ρ 5) = pz_apk ((ρ 10) / 4) (ρ 4) 4 := (ax_XF_lt (x := 33) (Nat.le_of_ble_eq_true rfl)).mp (ax_gx hE (33, [19, 43, 23]) ax_m1)
  have F33a : (ρ 4) = pz_apk ((ρ 9) / 4) (ρ 3) 4 := (ax_XF_lt (x := 33) (Nat.le_of_ble_eq_true rfl)).mp (ax_gx hE (33, [15, 39, 19]) ax_m2)
  have F33b : (ρ 3) = pz_apk ((ρ 8) / 4) (ρ 2) 4 := (ax_XF_lt (x := 33) (Nat.le_of_ble_eq_true rfl)).mp (ax_gx hE (33, [11, 35, 15]) ax_m3)
  have F33c : (ρ 2) = pz_apk ((ρ 7) / 4) (ρ 1) 4 := (ax_XF_lt (x := 33) (Nat.le_of_ble_eq_true rfl)).mp (ax_gx hE (33, [7, 31, 11]) ax_m4)
  have F33d : (ρ 1) = pz_apk ((ρ 6) / 4) (ρ 0) 4 := (ax_XF_lt (x := 33) (Nat.le_of_ble_eq_true rfl)).mp (ax_gx hE (33, [3, 27, 7]) ax_m5)
  refine ⟨(fun y hy => by cases hy), _, List.mem_cons_self, ρ, fun _ _ => rfl, ax_px hE rfl (fun y hy => ?_)⟩
  cases List.mem_singleton.mp hy
  refine (ax_XF_lt (x := 37) (Nat.le_of_ble_eq_true rfl)).mpr ?_
  show (ρ 5) = pz_a20 ((ρ 6) / 4) ((ρ 7) / 4) ((ρ 8) / 4) ((ρ 9) / 4) ((ρ 10) / 4) (ρ 0) 20
  rw [F33, F33a, F33b, F33c, F33d]
  exact pz_a20_eq _ _ _ _ _ _

theorem axq_en1 : ax_RO ax_wC ax_XC axu_en1 := by
  intro ρ hp hE hT
  have j0 : ρ 0 % 4 = 1 := pz_gj hE 0 (Nat.le_of_ble_eq_true rfl) rfl
  obtain ⟨i1a, i1b, i1c, i1d⟩ := pz_gi hE 1 2147483648 2147484448 (Nat.le_of_ble_eq_true rfl) rfl
  obtain ⟨i2a, i2b, i2c, i2d⟩ := pz_gi hE 2 2147483648 2147484448 (Nat.le_of_ble_eq_true rfl) rfl
  have c_size : ay_at hp 8 1 = some (ρ 2) := ay_gfj hE 42 4 11 8 1 ax_m1 (ax_vlq rfl rfl) (ax_vlj rfl rfl)
  have r1 : (ρ 1 / 4 + 2147483648) % 4294967296 ≤ (ρ 2 / 4 + 2147483648) % 4294967296 := pz_gc hE 5 7 11 (Nat.le_of_ble_eq_true rfl) ax_m2
  obtain ⟨-, -, F30⟩ : ay_ex hp 8 ∧ ay_ex hp 9 ∧ pz_x30 (ρ 0) (ay_at hp 8 1) (ay_at hp 9) := (ax_XF_lt (x := 30) (Nat.le_of_ble_eq_true rfl)).mp (ax_gx hE (30, [3]) ax_m0)
  rw [c_size] at F30
  obtain ⟨ρ', h1, h2⟩ := pz_pn1 (K := pz_cut (ρ 0) (ρ 1 / 4) / 4) (xf := [(530, [42, 4, 7, 15]), (38, [3, 7, 15])]) hE (by decide) (fun ρ' h1 h2 x hx => by
    have q0 : ρ' 0 = ρ 0 := h1 0 (by decide)
    have q1 : ρ' 1 = ρ 1 := h1 1 (by decide)
    have q2 : ρ' 2 = ρ 2 := h1 2 (by decide)
    rcases List.mem_cons.mp hx with e | hx
    · subst e
      refine (ax_XF_wr (x := 30) (Nat.le_of_ble_eq_true rfl)).mpr ?_
      show ay_ex (ax_upd hp 42 (4) (ρ' 1)) 8 ∧ ay_ex (ax_upd hp 42 (4) (ρ' 1)) 9 ∧ pz_x30 (ρ' 3) (ay_at (ax_upd hp 42 (4) (ρ' 1)) 8 1) (ay_at (ax_upd hp 42 (4) (ρ' 1)) 9)
      rw [q1, h2]
      obtain ⟨o0, ho0⟩ := ay_some hT (q := 8) (g := 2) (n := 12) rfl rfl (j := 4 / 4) (Nat.le_of_ble_eq_true rfl)
      have u1 : ∀ q, q ≠ 8 → ay_at (ax_upd hp 42 4 (ρ 1)) q = ay_at hp q := fun q hq => funext (fun j => ay_upd_ne hT.1 hq j)
      have u2 : ∀ j, ay_at (ax_upd hp 42 4 (ρ 1)) 8 j = if j = 1 then some (ρ 1) else ay_at hp 8 j := fun j => ay_upd_eq hT.1 rfl ho0 j
      refine ⟨ay_ex_upd hT.1 (ax_cellT hT (q := 8) (g := 2) rfl), ay_ex_upd hT.1 (ax_cellT hT (q := 9) (g := 20) rfl), ?_⟩
      rw [u2 1, if_pos rfl, u1 9 (Nat.ne_of_beq_eq_false rfl)]
      rw [pz_cut_4]
      have e := pz_cut_g (g := ρ 0) (n := ρ 1 / 4) (by omega)
      have eN : ρ 2 / 4 = pz_gN (ρ 0) := F30.1
      refine ⟨?_, ?_, fun j hj => ?_⟩
      · show ρ 1 / 4 = _
        rw [e.1]
      · rw [e.1]
        omega
      · rw [e.1] at hj
        rw [e.2]
        exact F30.2.2 j (by omega)
    cases List.mem_singleton.mp hx
    refine (ax_XF_lt (x := 38) (Nat.le_of_ble_eq_true rfl)).mpr ?_
    show (ρ' 3) = pz_cut (ρ' 0) ((ρ' 1) / 4)
    rw [q0, q1, h2]
    rw [pz_cut_4])
  exact ⟨(fun y hy => by cases hy), _, List.mem_cons_self, ρ', h1, h2⟩

theorem axq_ne1 : ax_RO ax_wC ax_XC axu_ne1 := by
  intro ρ hp hE hT
  have j0 : ρ 0 % 4 = 1 := pz_gj hE 0 (Nat.le_of_ble_eq_true rfl) rfl
  obtain ⟨-, -, -, -, F110⟩ : ay_ex hp 10 ∧ ay_ex hp 8 ∧ ay_ex hp 11 ∧ ay_ex hp 12 ∧ pz110 (pz_gt (ρ 0)) (pz_gN (ρ 0)) (ay_ln (ay_at hp 10 0)) (ay_ln (ay_at hp 10 1)) (ay_ln (ay_at hp 10 2)) (ay_ln (ay_at hp 10 3)) (ay_ln (ay_at hp 10 4)) (ay_ln (ay_at hp 8 9)) (ay_ln (ay_at hp 8 11)) (ay_ln (ay_at hp 8 10)) (ay_ln (ay_at hp 8 3)) (ay_ln (ay_at hp 8 4)) (ay_at hp 11) (ay_at hp 12) := (ax_XF_lt (x := 110) (Nat.le_of_ble_eq_true rfl)).mp (ax_gx hE (110, [3]) ax_m0)
  obtain ⟨v, hv⟩ := ay_some hT (q := 10) (g := 1) (n := 12) rfl rfl (j := 0) (by decide)
  have ht : ax_ok ax_wC (0, 2147483648, 2147483658) v := ay_typ hT (q := 10) (g := 1) (j := 0) rfl rfl hv
  obtain ⟨m, hm, hd⟩ := F110
  obtain ⟨ρ', h1, h2⟩ := pz_pf (q := 10) (j := 0) (v := v) (xf := [(126, [3, 7]), (127, [])]) hE (a := 50) (i := 0) (by decide) (by decide) (ax_vl_c (by decide)) (ax_vl_c (by decide)) hv ht (by decide) (fun ρ' h1 h2 x hx => by
    rcases List.mem_cons.mp hx with e | hx
    · subst e
      refine (ax_XF_lt (x := 126) (Nat.le_of_ble_eq_true rfl)).mpr ?_
      show pz_x126 (ρ' 0) (ρ' 1)
      rw [h1 0 (by decide), h2]
      refine ⟨m, hm, ?_⟩
      have e := hd.1
      rw [hv] at e
      exact e.symm
    · cases List.mem_singleton.mp hx
      refine (ax_XF_lt (x := 127) (Nat.le_of_ble_eq_true rfl)).mpr ?_
      show ay_ex hp 8 ∧ (ay_ln (ay_at hp 8 3) = 0 ∧ ay_ln (ay_at hp 8 4) = 4294967295)
      exact ⟨(ax_cellT hT (q := 8) (g := 2) rfl), hd.2.2.2.2.2.2.2.2.1, hd.2.2.2.2.2.2.2.2.2.1⟩)
  exact ⟨(fun y hy => by cases hy), _, List.mem_cons_self, ρ', h1, h2⟩
end
section
theorem axq_s0_rs4 : ax_RO ax_wC ax_XC axu_s0_rs4 := by
  intro ρ hp hE hT
  have j0 : ρ 0 % 4 = 1 := pz_gj hE 0 (Nat.le_of_ble_eq_true rfl) rfl
  have j1 : ρ 1 % 4 = 1 := pz_gj hE 1 (Nat.le_of_ble_eq_true rfl) rfl
  have j2 : ρ 2 % 4 = 1 := pz_gj hE 2 (Nat.le_of_ble_eq_true rfl) rfl
  have j3 : ρ 3 % 4 = 1 := pz_gj hE 3 (Nat.le_of_ble_eq_true rfl) rfl
  have j4 : ρ 4 % 4 = 1 := pz_gj hE 4 (Nat.le_of_ble_eq_true rfl) rfl
  have F72 : pz7 (pz_gt (ρ 0)) (pz_gN (ρ 0)) ((ρ 1) / 4) 2 := (ax_XF_lt (x := 72) (Nat.le_of_ble_eq_true rfl)).mp (ax_gx hE (72, [3, 7]) ax_m0)
  have F98 : (ρ 2) / 4 = (ρ 1) / 4 + 1 := (ax_XF_lt (x := 98) (Nat.le_of_ble_eq_true rfl)).mp (ax_gx hE (98, [7, 11]) ax_m1)
  have F73 : pz7 (pz_gt (ρ 0)) (pz_gN (ρ 0)) ((ρ 2) / 4) 3 := (ax_XF_lt (x := 73) (Nat.le_of_ble_eq_true rfl)).mp (ax_gx hE (73, [3, 11]) ax_m2)
  have F46 : py_46 (pz_gt (ρ 0)) (pz_gN (ρ 0)) ((ρ 1) / 4) (ρ 3) (ρ 4) := (ax_XF_lt (x := 46) (Nat.le_of_ble_eq_true rfl)).mp (ax_gx hE (46, [3, 7, 15, 19]) ax_m3)
  refine ⟨(fun y hy => by cases hy), _, List.mem_cons_self, ρ, fun _ _ => rfl, ax_px hE rfl (fun y hy => ?_)⟩
  cases List.mem_singleton.mp hy
  refine (ax_XF_lt (x := 46) (Nat.le_of_ble_eq_true rfl)).mpr ?_
  show py_46 (pz_gt (ρ 0)) (pz_gN (ρ 0)) ((ρ 2) / 4) (ρ 3) (ρ 4)
  rw [F98] at F73 ⊢
  exact pr_s0 F72 (by decide) (by decide) F73 (by decide) F46

theorem axq_sE : ax_RO ax_wC ax_XC axu_sE := by
  intro ρ hp hE hT
  have j0 : ρ 0 % 4 = 1 := pz_gj hE 0 (Nat.le_of_ble_eq_true rfl) rfl
  have j1 : ρ 1 % 4 = 1 := pz_gj hE 1 (Nat.le_of_ble_eq_true rfl) rfl
  have j2 : ρ 2 % 4 = 1 := pz_gj hE 2 (Nat.le_of_ble_eq_true rfl) rfl
  have j3 : ρ 3 % 4 = 1 := pz_gj hE 3 (Nat.le_of_ble_eq_true rfl) rfl
  have j4 : ρ 4 % 4 = 1 := pz_gj hE 4 (Nat.le_of_ble_eq_true rfl) rfl
  have F79 : pz7 (pz_gt (ρ 0)) (pz_gN (ρ 0)) ((ρ 1) / 4) 9 := (ax_XF_lt (x := 79) (Nat.le_of_ble_eq_true rfl)).mp (ax_gx hE (79, [3, 7]) ax_m0)
  have F98 : (ρ 2) / 4 = (ρ 1) / 4 + 1 := (ax_XF_lt (x := 98) (Nat.le_of_ble_eq_true rfl)).mp (ax_gx hE (98, [7, 11]) ax_m1)
  have F73 : pz7 (pz_gt (ρ 0)) (pz_gN (ρ 0)) ((ρ 2) / 4) 3 := (ax_XF_lt (x := 73) (Nat.le_of_ble_eq_true rfl)).mp (ax_gx hE (73, [3, 11]) ax_m2)
  have F90 : (pz90 (pz_gt (ρ 0)) (pz_gN (ρ 0)) ((ρ 1) / 4) ((5) / 4) ∧ 1 ≤ (5) / 4) := (ax_XF_lt (x := 90) (Nat.le_of_ble_eq_true rfl)).mp (ax_gx hE (90, [3, 7, 5]) ax_m3)
  have F94 : pz94 (pz_gt (ρ 0)) (pz_gN (ρ 0)) ((ρ 1) / 4) := (ax_XF_lt (x := 94) (Nat.le_of_ble_eq_true rfl)).mp (ax_gx hE (94, [3, 7]) ax_m4)
  have F49 : py_48 1 (pz_gt (ρ 0)) (pz_gN (ρ 0)) ((ρ 1) / 4) (ρ 3) (ρ 4) := (ax_XF_lt (x := 49) (Nat.le_of_ble_eq_true rfl)).mp (ax_gx hE (49, [3, 7, 15, 19]) ax_m5)
  refine ⟨(fun y hy => by cases hy), _, List.mem_cons_self, ρ, fun _ _ => rfl, ax_px hE rfl (fun y hy => ?_)⟩
  cases List.mem_singleton.mp hy
  refine (ax_XF_lt (x := 46) (Nat.le_of_ble_eq_true rfl)).mpr ?_
  show py_46 (pz_gt (ρ 0)) (pz_gN (ρ 0)) ((ρ 2) / 4) (ρ 3) (ρ 4)
  rw [F98] at F73 ⊢
  exact pr_sE F79 F90.1 F94 F73 (by decide) F49

theorem axq_sC : ax_RO ax_wC ax_XC axu_sC := by
  intro ρ hp hE hT
  have j0 : ρ 0 % 4 = 1 := pz_gj hE 0 (Nat.le_of_ble_eq_true rfl) rfl
  have j1 : ρ 1 % 4 = 1 := pz_gj hE 1 (Nat.le_of_ble_eq_true rfl) rfl
  have j2 : ρ 2 % 4 = 1 := pz_gj hE 2 (Nat.le_of_ble_eq_true rfl) rfl
  have j3 : ρ 3 % 4 = 1 := pz_gj hE 3 (Nat.le_of_ble_eq_true rfl) rfl
  have j4 : ρ 4 % 4 = 1 := pz_gj hE 4 (Nat.le_of_ble_eq_true rfl) rfl
  have j5 : ρ 5 % 4 = 1 := pz_gj hE 5 (Nat.le_of_ble_eq_true rfl) rfl
  have j6 : ρ 6 % 4 = 1 := pz_gj hE 6 (Nat.le_of_ble_eq_true rfl) rfl
  have j7 : ρ 7 % 4 = 1 := pz_gj hE 7 (Nat.le_of_ble_eq_true rfl) rfl
  obtain ⟨i8a, i8b, i8c, i8d⟩ := pz_gi hE 8 2147483689 2147483689 (Nat.le_of_ble_eq_true rfl) rfl
  have c_kind : ay_at hp 8 7 = some (ρ 8) := ay_gfj hE 42 28 35 8 7 ax_m0 (ax_vlq rfl rfl) (ax_vlj rfl rfl)
  obtain ⟨-, -, -, -, F50⟩ : ay_ex hp 8 ∧ ay_ex hp 10 ∧ ay_ex hp 11 ∧ ay_ex hp 12 ∧ pz_x50 (ρ 0) (ρ 1) (ay_at hp 8 5) (ay_at hp 8 6) (ay_at hp 8 7) (ay_at hp 8 8) (ay_at hp 10 0) (ay_at hp 10 1) (ay_at hp 10 2) (ay_at hp 10 3) (ay_at hp 10 4) (ay_at hp 8 9) (ay_at hp 8 11) (ay_at hp 8 10) (ay_at hp 8 3) (ay_at hp 8 4) (ay_at hp 11) (ay_at hp 12) := (ax_XF_lt (x := 50) (Nat.le_of_ble_eq_true rfl)).mp (ax_gx hE (50, [3, 7]) ax_m1)
  rw [c_kind] at F50
  have F98 : (ρ 2) / 4 = (ρ 1) / 4 + 1 := (ax_XF_lt (x := 98) (Nat.le_of_ble_eq_true rfl)).mp (ax_gx hE (98, [7, 11]) ax_m2)
  have F79 : pz7 (pz_gt (ρ 0)) (pz_gN (ρ 0)) ((ρ 2) / 4) 9 := (ax_XF_lt (x := 79) (Nat.le_of_ble_eq_true rfl)).mp (ax_gx hE (79, [3, 11]) ax_m3)
  have F79a : pz7 (pz_gt (ρ 0)) (pz_gN (ρ 0)) ((ρ 1) / 4) 9 := (ax_XF_lt (x := 79) (Nat.le_of_ble_eq_true rfl)).mp (ax_gx hE (79, [3, 7]) ax_m4)
  have F90 : (pz90 (pz_gt (ρ 0)) (pz_gN (ρ 0)) ((ρ 1) / 4) ((ρ 3) / 4) ∧ 1 ≤ (ρ 3) / 4) := (ax_XF_lt (x := 90) (Nat.le_of_ble_eq_true rfl)).mp (ax_gx hE (90, [3, 7, 15]) ax_m5)
  have F93 : (ρ 3) / 4 = 2 * ((ρ 4) / 4) := (ax_XF_lt (x := 93) (Nat.le_of_ble_eq_true rfl)).mp (ax_gx hE (93, [15, 19]) ax_m6)
  have F49 : py_48 1 (pz_gt (ρ 0)) (pz_gN (ρ 0)) ((ρ 1) / 4) (ρ 5) (ρ 7) := (ax_XF_lt (x := 49) (Nat.le_of_ble_eq_true rfl)).mp (ax_gx hE (49, [3, 7, 23, 31]) ax_m7)
  have F99 : py_99 (ρ 5) (4036) (ρ 6) := (ax_XF_lt (x := 99) (Nat.le_of_ble_eq_true rfl)).mp (ax_gx hE (99, [23, 4036, 27]) ax_m8)
  refine ⟨(fun y hy => by cases hy), _, List.mem_cons_self, ρ, fun _ _ => rfl, ax_px hE rfl (fun y hy => ?_)⟩
  cases List.mem_singleton.mp hy
  refine (ax_XF_lt (x := 47) (Nat.le_of_ble_eq_true rfl)).mpr ?_
  show py_47 (pz_gt (ρ 0)) (pz_gN (ρ 0)) ((ρ 2) / 4) (ρ 6) (ρ 7)
  have kd : ρ 8 / 4 = pz_kd (pz_gt (ρ 0)) (pz_gN (ρ 0)) (pz_p (pz_cf (pz_gt (ρ 0)) (pz_gN (ρ 0)) (ρ 1 / 4))) := F50.2.2.1
  rw [F98] at F79 ⊢
  exact pr_sC F79a (by omega) F90.1 (by have := F90.2; omega) F79 (by decide) F49 F99

theorem axq_su1_0 : ax_RO ax_wC ax_XC axu_su1_0 := by
  intro ρ hp hE hT
  have j0 : ρ 0 % 4 = 1 := pz_gj hE 0 (Nat.le_of_ble_eq_true rfl) rfl
  have j1 : ρ 1 % 4 = 1 := pz_gj hE 1 (Nat.le_of_ble_eq_true rfl) rfl
  have j2 : ρ 2 % 4 = 1 := pz_gj hE 2 (Nat.le_of_ble_eq_true rfl) rfl
  have j3 : ρ 3 % 4 = 1 := pz_gj hE 3 (Nat.le_of_ble_eq_true rfl) rfl
  have j4 : ρ 4 % 4 = 1 := pz_gj hE 4 (Nat.le_of_ble_eq_true rfl) rfl
  obtain ⟨i5a, i5b, i5c, i5d⟩ := pz_gi hE 5 2147483648 2147484647 (Nat.le_of_ble_eq_true rfl) rfl
  have c_value : ay_at hp 8 8 = some (ρ 5) := ay_gfj hE 42 32 23 8 8 ax_m6 (ax_vlq rfl rfl) (ax_vlj rfl rfl)
  obtain ⟨-, -, -, -, F50⟩ : ay_ex hp 8 ∧ ay_ex hp 10 ∧ ay_ex hp 11 ∧ ay_ex hp 12 ∧ pz_x50 (ρ 0) (ρ 1) (ay_at hp 8 5) (ay_at hp 8 6) (ay_at hp 8 7) (ay_at hp 8 8) (ay_at hp 10 0) (ay_at hp 10 1) (ay_at hp 10 2) (ay_at hp 10 3) (ay_at hp 10 4) (ay_at hp 8 9) (ay_at hp 8 11) (ay_at hp 8 10) (ay_at hp 8 3) (ay_at hp 8 4) (ay_at hp 11) (ay_at hp 12) := (ax_XF_lt (x := 50) (Nat.le_of_ble_eq_true rfl)).mp (ax_gx hE (50, [3, 7]) ax_m0)
  rw [c_value] at F50
  have F98 : (ρ 2) / 4 = (ρ 1) / 4 + 1 := (ax_XF_lt (x := 98) (Nat.le_of_ble_eq_true rfl)).mp (ax_gx hE (98, [7, 11]) ax_m1)
  have F79 : pz7 (pz_gt (ρ 0)) (pz_gN (ρ 0)) ((ρ 2) / 4) 9 := (ax_XF_lt (x := 79) (Nat.le_of_ble_eq_true rfl)).mp (ax_gx hE (79, [3, 11]) ax_m2)
  have F78 : pz7 (pz_gt (ρ 0)) (pz_gN (ρ 0)) ((ρ 1) / 4) 8 := (ax_XF_lt (x := 78) (Nat.le_of_ble_eq_true rfl)).mp (ax_gx hE (78, [3, 7]) ax_m3)
  have F107 : pz107 (pz_gt (ρ 0)) (pz_gN (ρ 0)) ((ρ 1) / 4) ((4) / 4) := (ax_XF_lt (x := 107) (Nat.le_of_ble_eq_true rfl)).mp (ax_gx hE (107, [3, 7, 4]) ax_m4)
  have F46 : py_46 (pz_gt (ρ 0)) (pz_gN (ρ 0)) ((ρ 1) / 4) (ρ 3) (ρ 4) := (ax_XF_lt (x := 46) (Nat.le_of_ble_eq_true rfl)).mp (ax_gx hE (46, [3, 7, 15, 19]) ax_m5)
  refine ⟨(fun y hy => by cases hy), _, List.mem_cons_self, ρ, fun _ _ => rfl, ax_px hE rfl (fun y hy => ?_)⟩
  cases List.mem_singleton.mp hy
  refine (ax_XF_lt (x := 42) (Nat.le_of_ble_eq_true rfl)).mpr ?_
  show py_42 (pz_gt (ρ 0)) (pz_gN (ρ 0)) ((ρ 2) / 4) (ρ 3) (ρ 4) (ρ 5)
  have kd := pr_k1 F107
  have vl := pz_mc (F50.2.2.2.1 (F50.2.2.1.trans kd))
  replace vl : (ρ 5 / 4 ≤ 1000 ∧ pz_vl (pz_gt (ρ 0)) (pz_gN (ρ 0)) (pz_p (pz_cf (pz_gt (ρ 0)) (pz_gN (ρ 0)) (ρ 1 / 4))) = ρ 5 / 4) ∨ (1000 < ρ 5 / 4 ∧ pz_vl (pz_gt (ρ 0)) (pz_gN (ρ 0)) (pz_p (pz_cf (pz_gt (ρ 0)) (pz_gN (ρ 0)) (ρ 1 / 4))) = 1000) := vl
  rw [F98] at F79 ⊢
  exact pr_su F78 (by rw [kd]; decide) (by rw [kd]; decide) F79 (by decide) F46 (by rw [pr_un1 F107]; omega) (by omega)

theorem axq_sv1_0 : ax_RO ax_wC ax_XC axu_sv1_0 := by
  intro ρ hp hE hT
  have j0 : ρ 0 % 4 = 1 := pz_gj hE 0 (Nat.le_of_ble_eq_true rfl) rfl
  have j1 : ρ 1 % 4 = 1 := pz_gj hE 1 (Nat.le_of_ble_eq_true rfl) rfl
  have j2 : ρ 2 % 4 = 1 := pz_gj hE 2 (Nat.le_of_ble_eq_true rfl) rfl
  have j3 : ρ 3 % 4 = 1 := pz_gj hE 3 (Nat.le_of_ble_eq_true rfl) rfl
  have j4 : ρ 4 % 4 = 1 := pz_gj hE 4 (Nat.le_of_ble_eq_true rfl) rfl
  obtain ⟨i5a, i5b, i5c, i5d⟩ := pz_gi hE 5 2147483648 2147484647 (Nat.le_of_ble_eq_true rfl) rfl
  obtain ⟨-, -, -, -, F50⟩ : ay_ex hp 8 ∧ ay_ex hp 10 ∧ ay_ex hp 11 ∧ ay_ex hp 12 ∧ pz_x50 (ρ 0) (ρ 1) (ay_at hp 8 5) (ay_at hp 8 6) (ay_at hp 8 7) (ay_at hp 8 8) (ay_at hp 10 0) (ay_at hp 10 1) (ay_at hp 10 2) (ay_at hp 10 3) (ay_at hp 10 4) (ay_at hp 8 9) (ay_at hp 8 11) (ay_at hp 8 10) (ay_at hp 8 3) (ay_at hp 8 4) (ay_at hp 11) (ay_at hp 12) := (ax_XF_lt (x := 50) (Nat.le_of_ble_eq_true rfl)).mp (ax_gx hE (50, [3, 7]) ax_m0)
  have F42 : py_42 (pz_gt (ρ 0)) (pz_gN (ρ 0)) ((ρ 1) / 4) (ρ 2) (ρ 3) (ρ 5) := (ax_XF_lt (x := 42) (Nat.le_of_ble_eq_true rfl)).mp (ax_gx hE (42, [3, 7, 11, 15, 23]) ax_m1)
  obtain ⟨-, -, -, F41⟩ : ay_ex hp 10 ∧ ay_ex hp 15 ∧ ay_ex hp 16 ∧ py_x41 (ρ 4) (ay_at hp 10 5) (ay_at hp 15) (ay_at hp 16) := (ax_XF_lt (x := 41) (Nat.le_of_ble_eq_true rfl)).mp (ax_gx hE (41, [19]) ax_m2)
  have F99 : py_99 (ρ 4) (ρ 5) (ρ 3) := (ax_XF_lt (x := 99) (Nat.le_of_ble_eq_true rfl)).mp (ax_gx hE (99, [19, 23, 15]) ax_m3)
  refine ⟨(fun y hy => by cases hy), _, List.mem_cons_self, ρ, fun _ _ => rfl, ax_px hE rfl (fun y hy => ?_)⟩
  cases List.mem_singleton.mp hy
  refine (ax_XF_lt (x := 47) (Nat.le_of_ble_eq_true rfl)).mpr ?_
  show py_47 (pz_gt (ρ 0)) (pz_gN (ρ 0)) ((ρ 1) / 4) (ρ 2) (ρ 4)
  exact pr_sv F42 F99

theorem axq_sl1_0 : ax_RO ax_wC ax_XC axu_sl1_0 := by
  intro ρ hp hE hT
  have j0 : ρ 0 % 4 = 1 := pz_gj hE 0 (Nat.le_of_ble_eq_true rfl) rfl
  have j1 : ρ 1 % 4 = 1 := pz_gj hE 1 (Nat.le_of_ble_eq_true rfl) rfl
  have j2 : ρ 2 % 4 = 1 := pz_gj hE 2 (Nat.le_of_ble_eq_true rfl) rfl
  have j3 : ρ 3 % 4 = 1 := pz_gj hE 3 (Nat.le_of_ble_eq_true rfl) rfl
  obtain ⟨i4a, i4b, i4c, i4d⟩ := pz_gi hE 4 2147483648 2147484647 (Nat.le_of_ble_eq_true rfl) rfl
  obtain ⟨-, -, -, -, F50⟩ : ay_ex hp 8 ∧ ay_ex hp 10 ∧ ay_ex hp 11 ∧ ay_ex hp 12 ∧ pz_x50 (ρ 0) (ρ 1) (ay_at hp 8 5) (ay_at hp 8 6) (ay_at hp 8 7) (ay_at hp 8 8) (ay_at hp 10 0) (ay_at hp 10 1) (ay_at hp 10 2) (ay_at hp 10 3) (ay_at hp 10 4) (ay_at hp 8 9) (ay_at hp 8 11) (ay_at hp 8 10) (ay_at hp 8 3) (ay_at hp 8 4) (ay_at hp 11) (ay_at hp 12) := (ax_XF_lt (x := 50) (Nat.le_of_ble_eq_true rfl)).mp (ax_gx hE (50, [3, 7]) ax_m0)
  have F79 : pz7 (pz_gt (ρ 0)) (pz_gN (ρ 0)) ((ρ 1) / 4) 9 := (ax_XF_lt (x := 79) (Nat.le_of_ble_eq_true rfl)).mp (ax_gx hE (79, [3, 7]) ax_m1)
  have F42 : py_42 (pz_gt (ρ 0)) (pz_gN (ρ 0)) ((ρ 1) / 4) (ρ 2) (ρ 3) (ρ 4) := (ax_XF_lt (x := 42) (Nat.le_of_ble_eq_true rfl)).mp (ax_gx hE (42, [3, 7, 11, 15, 19]) ax_m2)
  refine ⟨(fun y hy => by cases hy), _, List.mem_cons_self, ρ, fun _ _ => rfl, ax_px hE rfl (fun y hy => ?_)⟩
  cases List.mem_singleton.mp hy
  refine (ax_XF_lt (x := 40) (Nat.le_of_ble_eq_true rfl)).mpr ?_
  show py_40 (ρ 3)
  exact pr_l42 F79 (by decide) F42

theorem axq_su2_0 : ax_RO ax_wC ax_XC axu_su2_0 := by
  intro ρ hp hE hT
  have j0 : ρ 0 % 4 = 1 := pz_gj hE 0 (Nat.le_of_ble_eq_true rfl) rfl
  have j1 : ρ 1 % 4 = 1 := pz_gj hE 1 (Nat.le_of_ble_eq_true rfl) rfl
  have j2 : ρ 2 % 4 = 1 := pz_gj hE 2 (Nat.le_of_ble_eq_true rfl) rfl
  have j3 : ρ 3 % 4 = 1 := pz_gj hE 3 (Nat.le_of_ble_eq_true rfl) rfl
  have j4 : ρ 4 % 4 = 1 := pz_gj hE 4 (Nat.le_of_ble_eq_true rfl) rfl
  obtain ⟨-, -, -, -, F50⟩ : ay_ex hp 8 ∧ ay_ex hp 10 ∧ ay_ex hp 11 ∧ ay_ex hp 12 ∧ pz_x50 (ρ 0) (ρ 1) (ay_at hp 8 5) (ay_at hp 8 6) (ay_at hp 8 7) (ay_at hp 8 8) (ay_at hp 10 0) (ay_at hp 10 1) (ay_at hp 10 2) (ay_at hp 10 3) (ay_at hp 10 4) (ay_at hp 8 9) (ay_at hp 8 11) (ay_at hp 8 10) (ay_at hp 8 3) (ay_at hp 8 4) (ay_at hp 11) (ay_at hp 12) := (ax_XF_lt (x := 50) (Nat.le_of_ble_eq_true rfl)).mp (ax_gx hE (50, [3, 7]) ax_m0)
  have F98 : (ρ 2) / 4 = (ρ 1) / 4 + 1 := (ax_XF_lt (x := 98) (Nat.le_of_ble_eq_true rfl)).mp (ax_gx hE (98, [7, 11]) ax_m1)
  have F79 : pz7 (pz_gt (ρ 0)) (pz_gN (ρ 0)) ((ρ 2) / 4) 9 := (ax_XF_lt (x := 79) (Nat.le_of_ble_eq_true rfl)).mp (ax_gx hE (79, [3, 11]) ax_m2)
  have F78 : pz7 (pz_gt (ρ 0)) (pz_gN (ρ 0)) ((ρ 1) / 4) 8 := (ax_XF_lt (x := 78) (Nat.le_of_ble_eq_true rfl)).mp (ax_gx hE (78, [3, 7]) ax_m3)
  have F107 : pz107 (pz_gt (ρ 0)) (pz_gN (ρ 0)) ((ρ 1) / 4) ((8) / 4) := (ax_XF_lt (x := 107) (Nat.le_of_ble_eq_true rfl)).mp (ax_gx hE (107, [3, 7, 8]) ax_m4)
  have F46 : py_46 (pz_gt (ρ 0)) (pz_gN (ρ 0)) ((ρ 1) / 4) (ρ 3) (ρ 4) := (ax_XF_lt (x := 46) (Nat.le_of_ble_eq_true rfl)).mp (ax_gx hE (46, [3, 7, 15, 19]) ax_m5)
  refine ⟨(fun y hy => by cases hy), _, List.mem_cons_self, ρ, fun _ _ => rfl, ax_px hE rfl (fun y hy => ?_)⟩
  cases List.mem_singleton.mp hy
  refine (ax_XF_lt (x := 42) (Nat.le_of_ble_eq_true rfl)).mpr ?_
  show py_42 (pz_gt (ρ 0)) (pz_gN (ρ 0)) ((ρ 2) / 4) (ρ 3) (ρ 4) (4000)
  have kd := (pr_w (by decide) F107).1
  rw [F98] at F79 ⊢
  exact pr_su F78 (by rw [kd]; decide) (by rw [kd]; decide) F79 (by decide) F46 (by rw [pr_unw (by decide) F107]) (by decide)

theorem axq_sv2_0 : ax_RO ax_wC ax_XC axu_sv2_0 := by
  intro ρ hp hE hT
  have j0 : ρ 0 % 4 = 1 := pz_gj hE 0 (Nat.le_of_ble_eq_true rfl) rfl
  have j1 : ρ 1 % 4 = 1 := pz_gj hE 1 (Nat.le_of_ble_eq_true rfl) rfl
  have j2 : ρ 2 % 4 = 1 := pz_gj hE 2 (Nat.le_of_ble_eq_true rfl) rfl
  have j3 : ρ 3 % 4 = 1 := pz_gj hE 3 (Nat.le_of_ble_eq_true rfl) rfl
  have j4 : ρ 4 % 4 = 1 := pz_gj hE 4 (Nat.le_of_ble_eq_true rfl) rfl
  obtain ⟨-, -, -, -, F50⟩ : ay_ex hp 8 ∧ ay_ex hp 10 ∧ ay_ex hp 11 ∧ ay_ex hp 12 ∧ pz_x50 (ρ 0) (ρ 1) (ay_at hp 8 5) (ay_at hp 8 6) (ay_at hp 8 7) (ay_at hp 8 8) (ay_at hp 10 0) (ay_at hp 10 1) (ay_at hp 10 2) (ay_at hp 10 3) (ay_at hp 10 4) (ay_at hp 8 9) (ay_at hp 8 11) (ay_at hp 8 10) (ay_at hp 8 3) (ay_at hp 8 4) (ay_at hp 11) (ay_at hp 12) := (ax_XF_lt (x := 50) (Nat.le_of_ble_eq_true rfl)).mp (ax_gx hE (50, [3, 7]) ax_m0)
  have F42 : py_42 (pz_gt (ρ 0)) (pz_gN (ρ 0)) ((ρ 1) / 4) (ρ 2) (ρ 3) (4000) := (ax_XF_lt (x := 42) (Nat.le_of_ble_eq_true rfl)).mp (ax_gx hE (42, [3, 7, 11, 15, 4000]) ax_m1)
  obtain ⟨-, -, -, F41⟩ : ay_ex hp 10 ∧ ay_ex hp 15 ∧ ay_ex hp 16 ∧ py_x41 (ρ 4) (ay_at hp 10 5) (ay_at hp 15) (ay_at hp 16) := (ax_XF_lt (x := 41) (Nat.le_of_ble_eq_true rfl)).mp (ax_gx hE (41, [19]) ax_m2)
  have F99 : py_99 (ρ 4) (4000) (ρ 3) := (ax_XF_lt (x := 99) (Nat.le_of_ble_eq_true rfl)).mp (ax_gx hE (99, [19, 4000, 15]) ax_m3)
  refine ⟨(fun y hy => by cases hy), _, List.mem_cons_self, ρ, fun _ _ => rfl, ax_px hE rfl (fun y hy => ?_)⟩
  cases List.mem_singleton.mp hy
  refine (ax_XF_lt (x := 47) (Nat.le_of_ble_eq_true rfl)).mpr ?_
  show py_47 (pz_gt (ρ 0)) (pz_gN (ρ 0)) ((ρ 1) / 4) (ρ 2) (ρ 4)
  exact pr_sv F42 F99

theorem axq_sl2_0 : ax_RO ax_wC ax_XC axu_sl2_0 := by
  intro ρ hp hE hT
  have j0 : ρ 0 % 4 = 1 := pz_gj hE 0 (Nat.le_of_ble_eq_true rfl) rfl
  have j1 : ρ 1 % 4 = 1 := pz_gj hE 1 (Nat.le_of_ble_eq_true rfl) rfl
  have j2 : ρ 2 % 4 = 1 := pz_gj hE 2 (Nat.le_of_ble_eq_true rfl) rfl
  have j3 : ρ 3 % 4 = 1 := pz_gj hE 3 (Nat.le_of_ble_eq_true rfl) rfl
  obtain ⟨-, -, -, -, F50⟩ : ay_ex hp 8 ∧ ay_ex hp 10 ∧ ay_ex hp 11 ∧ ay_ex hp 12 ∧ pz_x50 (ρ 0) (ρ 1) (ay_at hp 8 5) (ay_at hp 8 6) (ay_at hp 8 7) (ay_at hp 8 8) (ay_at hp 10 0) (ay_at hp 10 1) (ay_at hp 10 2) (ay_at hp 10 3) (ay_at hp 10 4) (ay_at hp 8 9) (ay_at hp 8 11) (ay_at hp 8 10) (ay_at hp 8 3) (ay_at hp 8 4) (ay_at hp 11) (ay_at hp 12) := (ax_XF_lt (x := 50) (Nat.le_of_ble_eq_true rfl)).mp (ax_gx hE (50, [3, 7]) ax_m0)
  have F79 : pz7 (pz_gt (ρ 0)) (pz_gN (ρ 0)) ((ρ 1) / 4) 9 := (ax_XF_lt (x := 79) (Nat.le_of_ble_eq_true rfl)).mp (ax_gx hE (79, [3, 7]) ax_m1)
  have F42 : py_42 (pz_gt (ρ 0)) (pz_gN (ρ 0)) ((ρ 1) / 4) (ρ 2) (ρ 3) (4000) := (ax_XF_lt (x := 42) (Nat.le_of_ble_eq_true rfl)).mp (ax_gx hE (42, [3, 7, 11, 15, 4000]) ax_m2)
  refine ⟨(fun y hy => by cases hy), _, List.mem_cons_self, ρ, fun _ _ => rfl, ax_px hE rfl (fun y hy => ?_)⟩
  cases List.mem_singleton.mp hy
  refine (ax_XF_lt (x := 40) (Nat.le_of_ble_eq_true rfl)).mpr ?_
  show py_40 (ρ 3)
  exact pr_l42 F79 (by decide) F42

theorem axq_su3_0 : ax_RO ax_wC ax_XC axu_su3_0 := by
  intro ρ hp hE hT
  have j0 : ρ 0 % 4 = 1 := pz_gj hE 0 (Nat.le_of_ble_eq_true rfl) rfl
  have j1 : ρ 1 % 4 = 1 := pz_gj hE 1 (Nat.le_of_ble_eq_true rfl) rfl
  have j2 : ρ 2 % 4 = 1 := pz_gj hE 2 (Nat.le_of_ble_eq_true rfl) rfl
  have j3 : ρ 3 % 4 = 1 := pz_gj hE 3 (Nat.le_of_ble_eq_true rfl) rfl
  have j4 : ρ 4 % 4 = 1 := pz_gj hE 4 (Nat.le_of_ble_eq_true rfl) rfl
  obtain ⟨-, -, -, -, F50⟩ : ay_ex hp 8 ∧ ay_ex hp 10 ∧ ay_ex hp 11 ∧ ay_ex hp 12 ∧ pz_x50 (ρ 0) (ρ 1) (ay_at hp 8 5) (ay_at hp 8 6) (ay_at hp 8 7) (ay_at hp 8 8) (ay_at hp 10 0) (ay_at hp 10 1) (ay_at hp 10 2) (ay_at hp 10 3) (ay_at hp 10 4) (ay_at hp 8 9) (ay_at hp 8 11) (ay_at hp 8 10) (ay_at hp 8 3) (ay_at hp 8 4) (ay_at hp 11) (ay_at hp 12) := (ax_XF_lt (x := 50) (Nat.le_of_ble_eq_true rfl)).mp (ax_gx hE (50, [3, 7]) ax_m0)
  have F98 : (ρ 2) / 4 = (ρ 1) / 4 + 1 := (ax_XF_lt (x := 98) (Nat.le_of_ble_eq_true rfl)).mp (ax_gx hE (98, [7, 11]) ax_m1)
  have F79 : pz7 (pz_gt (ρ 0)) (pz_gN (ρ 0)) ((ρ 2) / 4) 9 := (ax_XF_lt (x := 79) (Nat.le_of_ble_eq_true rfl)).mp (ax_gx hE (79, [3, 11]) ax_m2)
  have F78 : pz7 (pz_gt (ρ 0)) (pz_gN (ρ 0)) ((ρ 1) / 4) 8 := (ax_XF_lt (x := 78) (Nat.le_of_ble_eq_true rfl)).mp (ax_gx hE (78, [3, 7]) ax_m3)
  have F107 : pz107 (pz_gt (ρ 0)) (pz_gN (ρ 0)) ((ρ 1) / 4) ((12) / 4) := (ax_XF_lt (x := 107) (Nat.le_of_ble_eq_true rfl)).mp (ax_gx hE (107, [3, 7, 12]) ax_m4)
  have F46 : py_46 (pz_gt (ρ 0)) (pz_gN (ρ 0)) ((ρ 1) / 4) (ρ 3) (ρ 4) := (ax_XF_lt (x := 46) (Nat.le_of_ble_eq_true rfl)).mp (ax_gx hE (46, [3, 7, 15, 19]) ax_m5)
  refine ⟨(fun y hy => by cases hy), _, List.mem_cons_self, ρ, fun _ _ => rfl, ax_px hE rfl (fun y hy => ?_)⟩
  cases List.mem_singleton.mp hy
  refine (ax_XF_lt (x := 42) (Nat.le_of_ble_eq_true rfl)).mpr ?_
  show py_42 (pz_gt (ρ 0)) (pz_gN (ρ 0)) ((ρ 2) / 4) (ρ 3) (ρ 4) (4004)
  have kd := (pr_w (by decide) F107).1
  rw [F98] at F79 ⊢
  exact pr_su F78 (by rw [kd]; decide) (by rw [kd]; decide) F79 (by decide) F46 (by rw [pr_unw (by decide) F107]) (by decide)

theorem axq_sv3_0 : ax_RO ax_wC ax_XC axu_sv3_0 := by
  intro ρ hp hE hT
  have j0 : ρ 0 % 4 = 1 := pz_gj hE 0 (Nat.le_of_ble_eq_true rfl) rfl
  have j1 : ρ 1 % 4 = 1 := pz_gj hE 1 (Nat.le_of_ble_eq_true rfl) rfl
  have j2 : ρ 2 % 4 = 1 := pz_gj hE 2 (Nat.le_of_ble_eq_true rfl) rfl
  have j3 : ρ 3 % 4 = 1 := pz_gj hE 3 (Nat.le_of_ble_eq_true rfl) rfl
  have j4 : ρ 4 % 4 = 1 := pz_gj hE 4 (Nat.le_of_ble_eq_true rfl) rfl
  obtain ⟨-, -, -, -, F50⟩ : ay_ex hp 8 ∧ ay_ex hp 10 ∧ ay_ex hp 11 ∧ ay_ex hp 12 ∧ pz_x50 (ρ 0) (ρ 1) (ay_at hp 8 5) (ay_at hp 8 6) (ay_at hp 8 7) (ay_at hp 8 8) (ay_at hp 10 0) (ay_at hp 10 1) (ay_at hp 10 2) (ay_at hp 10 3) (ay_at hp 10 4) (ay_at hp 8 9) (ay_at hp 8 11) (ay_at hp 8 10) (ay_at hp 8 3) (ay_at hp 8 4) (ay_at hp 11) (ay_at hp 12) := (ax_XF_lt (x := 50) (Nat.le_of_ble_eq_true rfl)).mp (ax_gx hE (50, [3, 7]) ax_m0)
  have F42 : py_42 (pz_gt (ρ 0)) (pz_gN (ρ 0)) ((ρ 1) / 4) (ρ 2) (ρ 3) (4004) := (ax_XF_lt (x := 42) (Nat.le_of_ble_eq_true rfl)).mp (ax_gx hE (42, [3, 7, 11, 15, 4004]) ax_m1)
  obtain ⟨-, -, -, F41⟩ : ay_ex hp 10 ∧ ay_ex hp 15 ∧ ay_ex hp 16 ∧ py_x41 (ρ 4) (ay_at hp 10 5) (ay_at hp 15) (ay_at hp 16) := (ax_XF_lt (x := 41) (Nat.le_of_ble_eq_true rfl)).mp (ax_gx hE (41, [19]) ax_m2)
  have F99 : py_99 (ρ 4) (4004) (ρ 3) := (ax_XF_lt (x := 99) (Nat.le_of_ble_eq_true rfl)).mp (ax_gx hE (99, [19, 4004, 15]) ax_m3)
  refine ⟨(fun y hy => by cases hy), _, List.mem_cons_self, ρ, fun _ _ => rfl, ax_px hE rfl (fun y hy => ?_)⟩
  cases List.mem_singleton.mp hy
  refine (ax_XF_lt (x := 47) (Nat.le_of_ble_eq_true rfl)).mpr ?_
  show py_47 (pz_gt (ρ 0)) (pz_gN (ρ 0)) ((ρ 1) / 4) (ρ 2) (ρ 4)
  exact pr_sv F42 F99

theorem axq_sl3_0 : ax_RO ax_wC ax_XC axu_sl3_0 := by
  intro ρ hp hE hT
  have j0 : ρ 0 % 4 = 1 := pz_gj hE 0 (Nat.le_of_ble_eq_true rfl) rfl
  have j1 : ρ 1 % 4 = 1 := pz_gj hE 1 (Nat.le_of_ble_eq_true rfl) rfl
  have j2 : ρ 2 % 4 = 1 := pz_gj hE 2 (Nat.le_of_ble_eq_true rfl) rfl
  have j3 : ρ 3 % 4 = 1 := pz_gj hE 3 (Nat.le_of_ble_eq_true rfl) rfl
  obtain ⟨-, -, -, -, F50⟩ : ay_ex hp 8 ∧ ay_ex hp 10 ∧ ay_ex hp 11 ∧ ay_ex hp 12 ∧ pz_x50 (ρ 0) (ρ 1) (ay_at hp 8 5) (ay_at hp 8 6) (ay_at hp 8 7) (ay_at hp 8 8) (ay_at hp 10 0) (ay_at hp 10 1) (ay_at hp 10 2) (ay_at hp 10 3) (ay_at hp 10 4) (ay_at hp 8 9) (ay_at hp 8 11) (ay_at hp 8 10) (ay_at hp 8 3) (ay_at hp 8 4) (ay_at hp 11) (ay_at hp 12) := (ax_XF_lt (x := 50) (Nat.le_of_ble_eq_true rfl)).mp (ax_gx hE (50, [3, 7]) ax_m0)
  have F79 : pz7 (pz_gt (ρ 0)) (pz_gN (ρ 0)) ((ρ 1) / 4) 9 := (ax_XF_lt (x := 79) (Nat.le_of_ble_eq_true rfl)).mp (ax_gx hE (79, [3, 7]) ax_m1)
  have F42 : py_42 (pz_gt (ρ 0)) (pz_gN (ρ 0)) ((ρ 1) / 4) (ρ 2) (ρ 3) (4004) := (ax_XF_lt (x := 42) (Nat.le_of_ble_eq_true rfl)).mp (ax_gx hE (42, [3, 7, 11, 15, 4004]) ax_m2)
  refine ⟨(fun y hy => by cases hy), _, List.mem_cons_self, ρ, fun _ _ => rfl, ax_px hE rfl (fun y hy => ?_)⟩
  cases List.mem_singleton.mp hy
  refine (ax_XF_lt (x := 40) (Nat.le_of_ble_eq_true rfl)).mpr ?_
  show py_40 (ρ 3)
  exact pr_l42 F79 (by decide) F42

theorem axq_su4_0 : ax_RO ax_wC ax_XC axu_su4_0 := by
  intro ρ hp hE hT
  have j0 : ρ 0 % 4 = 1 := pz_gj hE 0 (Nat.le_of_ble_eq_true rfl) rfl
  have j1 : ρ 1 % 4 = 1 := pz_gj hE 1 (Nat.le_of_ble_eq_true rfl) rfl
  have j2 : ρ 2 % 4 = 1 := pz_gj hE 2 (Nat.le_of_ble_eq_true rfl) rfl
  have j3 : ρ 3 % 4 = 1 := pz_gj hE 3 (Nat.le_of_ble_eq_true rfl) rfl
  have j4 : ρ 4 % 4 = 1 := pz_gj hE 4 (Nat.le_of_ble_eq_true rfl) rfl
  obtain ⟨-, -, -, -, F50⟩ : ay_ex hp 8 ∧ ay_ex hp 10 ∧ ay_ex hp 11 ∧ ay_ex hp 12 ∧ pz_x50 (ρ 0) (ρ 1) (ay_at hp 8 5) (ay_at hp 8 6) (ay_at hp 8 7) (ay_at hp 8 8) (ay_at hp 10 0) (ay_at hp 10 1) (ay_at hp 10 2) (ay_at hp 10 3) (ay_at hp 10 4) (ay_at hp 8 9) (ay_at hp 8 11) (ay_at hp 8 10) (ay_at hp 8 3) (ay_at hp 8 4) (ay_at hp 11) (ay_at hp 12) := (ax_XF_lt (x := 50) (Nat.le_of_ble_eq_true rfl)).mp (ax_gx hE (50, [3, 7]) ax_m0)
  have F98 : (ρ 2) / 4 = (ρ 1) / 4 + 1 := (ax_XF_lt (x := 98) (Nat.le_of_ble_eq_true rfl)).mp (ax_gx hE (98, [7, 11]) ax_m1)
  have F79 : pz7 (pz_gt (ρ 0)) (pz_gN (ρ 0)) ((ρ 2) / 4) 9 := (ax_XF_lt (x := 79) (Nat.le_of_ble_eq_true rfl)).mp (ax_gx hE (79, [3, 11]) ax_m2)
  have F78 : pz7 (pz_gt (ρ 0)) (pz_gN (ρ 0)) ((ρ 1) / 4) 8 := (ax_XF_lt (x := 78) (Nat.le_of_ble_eq_true rfl)).mp (ax_gx hE (78, [3, 7]) ax_m3)
  have F107 : pz107 (pz_gt (ρ 0)) (pz_gN (ρ 0)) ((ρ 1) / 4) ((16) / 4) := (ax_XF_lt (x := 107) (Nat.le_of_ble_eq_true rfl)).mp (ax_gx hE (107, [3, 7, 16]) ax_m4)
  have F46 : py_46 (pz_gt (ρ 0)) (pz_gN (ρ 0)) ((ρ 1) / 4) (ρ 3) (ρ 4) := (ax_XF_lt (x := 46) (Nat.le_of_ble_eq_true rfl)).mp (ax_gx hE (46, [3, 7, 15, 19]) ax_m5)
  refine ⟨(fun y hy => by cases hy), _, List.mem_cons_self, ρ, fun _ _ => rfl, ax_px hE rfl (fun y hy => ?_)⟩
  cases List.mem_singleton.mp hy
  refine (ax_XF_lt (x := 42) (Nat.le_of_ble_eq_true rfl)).mpr ?_
  show py_42 (pz_gt (ρ 0)) (pz_gN (ρ 0)) ((ρ 2) / 4) (ρ 3) (ρ 4) (4008)
  have kd := (pr_w (by decide) F107).1
  rw [F98] at F79 ⊢
  exact pr_su F78 (by rw [kd]; decide) (by rw [kd]; decide) F79 (by decide) F46 (by rw [pr_unw (by decide) F107]) (by decide)

theorem axq_sv4_0 : ax_RO ax_wC ax_XC axu_sv4_0 := by
  intro ρ hp hE hT
  have j0 : ρ 0 % 4 = 1 := pz_gj hE 0 (Nat.le_of_ble_eq_true rfl) rfl
  have j1 : ρ 1 % 4 = 1 := pz_gj hE 1 (Nat.le_of_ble_eq_true rfl) rfl
  have j2 : ρ 2 % 4 = 1 := pz_gj hE 2 (Nat.le_of_ble_eq_true rfl) rfl
  have j3 : ρ 3 % 4 = 1 := pz_gj hE 3 (Nat.le_of_ble_eq_true rfl) rfl
  have j4 : ρ 4 % 4 = 1 := pz_gj hE 4 (Nat.le_of_ble_eq_true rfl) rfl
  obtain ⟨-, -, -, -, F50⟩ : ay_ex hp 8 ∧ ay_ex hp 10 ∧ ay_ex hp 11 ∧ ay_ex hp 12 ∧ pz_x50 (ρ 0) (ρ 1) (ay_at hp 8 5) (ay_at hp 8 6) (ay_at hp 8 7) (ay_at hp 8 8) (ay_at hp 10 0) (ay_at hp 10 1) (ay_at hp 10 2) (ay_at hp 10 3) (ay_at hp 10 4) (ay_at hp 8 9) (ay_at hp 8 11) (ay_at hp 8 10) (ay_at hp 8 3) (ay_at hp 8 4) (ay_at hp 11) (ay_at hp 12) := (ax_XF_lt (x := 50) (Nat.le_of_ble_eq_true rfl)).mp (ax_gx hE (50, [3, 7]) ax_m0)
  have F42 : py_42 (pz_gt (ρ 0)) (pz_gN (ρ 0)) ((ρ 1) / 4) (ρ 2) (ρ 3) (4008) := (ax_XF_lt (x := 42) (Nat.le_of_ble_eq_true rfl)).mp (ax_gx hE (42, [3, 7, 11, 15, 4008]) ax_m1)
  obtain ⟨-, -, -, F41⟩ : ay_ex hp 10 ∧ ay_ex hp 15 ∧ ay_ex hp 16 ∧ py_x41 (ρ 4) (ay_at hp 10 5) (ay_at hp 15) (ay_at hp 16) := (ax_XF_lt (x := 41) (Nat.le_of_ble_eq_true rfl)).mp (ax_gx hE (41, [19]) ax_m2)
  have F99 : py_99 (ρ 4) (4008) (ρ 3) := (ax_XF_lt (x := 99) (Nat.le_of_ble_eq_true rfl)).mp (ax_gx hE (99, [19, 4008, 15]) ax_m3)
  refine ⟨(fun y hy => by cases hy), _, List.mem_cons_self, ρ, fun _ _ => rfl, ax_px hE rfl (fun y hy => ?_)⟩
  cases List.mem_singleton.mp hy
  refine (ax_XF_lt (x := 47) (Nat.le_of_ble_eq_true rfl)).mpr ?_
  show py_47 (pz_gt (ρ 0)) (pz_gN (ρ 0)) ((ρ 1) / 4) (ρ 2) (ρ 4)
  exact pr_sv F42 F99

theorem axq_sl4_0 : ax_RO ax_wC ax_XC axu_sl4_0 := by
  intro ρ hp hE hT
  have j0 : ρ 0 % 4 = 1 := pz_gj hE 0 (Nat.le_of_ble_eq_true rfl) rfl
  have j1 : ρ 1 % 4 = 1 := pz_gj hE 1 (Nat.le_of_ble_eq_true rfl) rfl
  have j2 : ρ 2 % 4 = 1 := pz_gj hE 2 (Nat.le_of_ble_eq_true rfl) rfl
  have j3 : ρ 3 % 4 = 1 := pz_gj hE 3 (Nat.le_of_ble_eq_true rfl) rfl
  obtain ⟨-, -, -, -, F50⟩ : ay_ex hp 8 ∧ ay_ex hp 10 ∧ ay_ex hp 11 ∧ ay_ex hp 12 ∧ pz_x50 (ρ 0) (ρ 1) (ay_at hp 8 5) (ay_at hp 8 6) (ay_at hp 8 7) (ay_at hp 8 8) (ay_at hp 10 0) (ay_at hp 10 1) (ay_at hp 10 2) (ay_at hp 10 3) (ay_at hp 10 4) (ay_at hp 8 9) (ay_at hp 8 11) (ay_at hp 8 10) (ay_at hp 8 3) (ay_at hp 8 4) (ay_at hp 11) (ay_at hp 12) := (ax_XF_lt (x := 50) (Nat.le_of_ble_eq_true rfl)).mp (ax_gx hE (50, [3, 7]) ax_m0)
  have F79 : pz7 (pz_gt (ρ 0)) (pz_gN (ρ 0)) ((ρ 1) / 4) 9 := (ax_XF_lt (x := 79) (Nat.le_of_ble_eq_true rfl)).mp (ax_gx hE (79, [3, 7]) ax_m1)
  have F42 : py_42 (pz_gt (ρ 0)) (pz_gN (ρ 0)) ((ρ 1) / 4) (ρ 2) (ρ 3) (4008) := (ax_XF_lt (x := 42) (Nat.le_of_ble_eq_true rfl)).mp (ax_gx hE (42, [3, 7, 11, 15, 4008]) ax_m2)
  refine ⟨(fun y hy => by cases hy), _, List.mem_cons_self, ρ, fun _ _ => rfl, ax_px hE rfl (fun y hy => ?_)⟩
  cases List.mem_singleton.mp hy
  refine (ax_XF_lt (x := 40) (Nat.le_of_ble_eq_true rfl)).mpr ?_
  show py_40 (ρ 3)
  exact pr_l42 F79 (by decide) F42

theorem axq_su40_0 : ax_RO ax_wC ax_XC axu_su40_0 := by
  intro ρ hp hE hT
  have j0 : ρ 0 % 4 = 1 := pz_gj hE 0 (Nat.le_of_ble_eq_true rfl) rfl
  have j1 : ρ 1 % 4 = 1 := pz_gj hE 1 (Nat.le_of_ble_eq_true rfl) rfl
  have j2 : ρ 2 % 4 = 1 := pz_gj hE 2 (Nat.le_of_ble_eq_true rfl) rfl
  have j3 : ρ 3 % 4 = 1 := pz_gj hE 3 (Nat.le_of_ble_eq_true rfl) rfl
  have j4 : ρ 4 % 4 = 1 := pz_gj hE 4 (Nat.le_of_ble_eq_true rfl) rfl
  obtain ⟨-, -, -, -, F50⟩ : ay_ex hp 8 ∧ ay_ex hp 10 ∧ ay_ex hp 11 ∧ ay_ex hp 12 ∧ pz_x50 (ρ 0) (ρ 1) (ay_at hp 8 5) (ay_at hp 8 6) (ay_at hp 8 7) (ay_at hp 8 8) (ay_at hp 10 0) (ay_at hp 10 1) (ay_at hp 10 2) (ay_at hp 10 3) (ay_at hp 10 4) (ay_at hp 8 9) (ay_at hp 8 11) (ay_at hp 8 10) (ay_at hp 8 3) (ay_at hp 8 4) (ay_at hp 11) (ay_at hp 12) := (ax_XF_lt (x := 50) (Nat.le_of_ble_eq_true rfl)).mp (ax_gx hE (50, [3, 7]) ax_m0)
  have F98 : (ρ 2) / 4 = (ρ 1) / 4 + 1 := (ax_XF_lt (x := 98) (Nat.le_of_ble_eq_true rfl)).mp (ax_gx hE (98, [7, 11]) ax_m1)
  have F78 : pz7 (pz_gt (ρ 0)) (pz_gN (ρ 0)) ((ρ 2) / 4) 8 := (ax_XF_lt (x := 78) (Nat.le_of_ble_eq_true rfl)).mp (ax_gx hE (78, [3, 11]) ax_m2)
  have F78a : pz7 (pz_gt (ρ 0)) (pz_gN (ρ 0)) ((ρ 1) / 4) 8 := (ax_XF_lt (x := 78) (Nat.le_of_ble_eq_true rfl)).mp (ax_gx hE (78, [3, 7]) ax_m3)
  have F107 : pz107 (pz_gt (ρ 0)) (pz_gN (ρ 0)) ((ρ 1) / 4) ((160) / 4) := (ax_XF_lt (x := 107) (Nat.le_of_ble_eq_true rfl)).mp (ax_gx hE (107, [3, 7, 160]) ax_m4)
  have F46 : py_46 (pz_gt (ρ 0)) (pz_gN (ρ 0)) ((ρ 1) / 4) (ρ 3) (ρ 4) := (ax_XF_lt (x := 46) (Nat.le_of_ble_eq_true rfl)).mp (ax_gx hE (46, [3, 7, 15, 19]) ax_m5)
  rw [F98] at F78
  obtain ⟨ρ', h1, h2⟩ := pz_pn1 (K := ρ 3 / 4 * 4096 + 1009) (xf := [(46, [3, 11, 23, 19]), (99, [23, 4036, 15]), (45, [23])]) hE (by decide) (fun ρ' h1 h2 x hx => by
    have q0 : ρ' 0 = ρ 0 := h1 0 (by decide)
    have q1 : ρ' 1 = ρ 1 := h1 1 (by decide)
    have q2 : ρ' 2 = ρ 2 := h1 2 (by decide)
    have q3 : ρ' 3 = ρ 3 := h1 3 (by decide)
    have q4 : ρ' 4 = ρ 4 := h1 4 (by decide)
    rcases List.mem_cons.mp hx with e | hx
    · subst e
      refine (ax_XF_lt (x := 46) (Nat.le_of_ble_eq_true rfl)).mpr ?_
      show py_46 (pz_gt (ρ' 0)) (pz_gN (ρ' 0)) ((ρ' 2) / 4) (ρ' 5) (ρ' 4)
      rw [q0, q2, q4, h2]
      rw [F98]
      exact pr_suO F78a (pr_k40 F107) F78 (by decide) F46 ⟨pz_41 _, F46.2.1, by decide⟩
    rcases List.mem_cons.mp hx with e | hx
    · subst e
      refine (ax_XF_lt (x := 99) (Nat.le_of_ble_eq_true rfl)).mpr ?_
      show py_99 (ρ' 5) (4036) (ρ' 3)
      rw [q3, h2]
      exact ⟨pz_41 _, F46.2.1, by decide⟩
    cases List.mem_singleton.mp hx
    refine (ax_XF_lt (x := 45) (Nat.le_of_ble_eq_true rfl)).mpr ?_
    show py_44 1 (ρ' 5)
    rw [h2]
    exact pr_44 (c := 4036) (s := ρ 3) ⟨pz_41 _, F46.2.1, by decide⟩ (by decide) (by decide))
  exact ⟨(fun y hy => by cases hy), _, List.mem_cons_self, ρ', h1, h2⟩

theorem axq_su5_0 : ax_RO ax_wC ax_XC axu_su5_0 := by
  intro ρ hp hE hT
  have j0 : ρ 0 % 4 = 1 := pz_gj hE 0 (Nat.le_of_ble_eq_true rfl) rfl
  have j1 : ρ 1 % 4 = 1 := pz_gj hE 1 (Nat.le_of_ble_eq_true rfl) rfl
  have j2 : ρ 2 % 4 = 1 := pz_gj hE 2 (Nat.le_of_ble_eq_true rfl) rfl
  have j3 : ρ 3 % 4 = 1 := pz_gj hE 3 (Nat.le_of_ble_eq_true rfl) rfl
  have j4 : ρ 4 % 4 = 1 := pz_gj hE 4 (Nat.le_of_ble_eq_true rfl) rfl
  obtain ⟨-, -, -, -, F50⟩ : ay_ex hp 8 ∧ ay_ex hp 10 ∧ ay_ex hp 11 ∧ ay_ex hp 12 ∧ pz_x50 (ρ 0) (ρ 1) (ay_at hp 8 5) (ay_at hp 8 6) (ay_at hp 8 7) (ay_at hp 8 8) (ay_at hp 10 0) (ay_at hp 10 1) (ay_at hp 10 2) (ay_at hp 10 3) (ay_at hp 10 4) (ay_at hp 8 9) (ay_at hp 8 11) (ay_at hp 8 10) (ay_at hp 8 3) (ay_at hp 8 4) (ay_at hp 11) (ay_at hp 12) := (ax_XF_lt (x := 50) (Nat.le_of_ble_eq_true rfl)).mp (ax_gx hE (50, [3, 7]) ax_m0)
  have F98 : (ρ 2) / 4 = (ρ 1) / 4 + 1 := (ax_XF_lt (x := 98) (Nat.le_of_ble_eq_true rfl)).mp (ax_gx hE (98, [7, 11]) ax_m1)
  have F78 : pz7 (pz_gt (ρ 0)) (pz_gN (ρ 0)) ((ρ 2) / 4) 8 := (ax_XF_lt (x := 78) (Nat.le_of_ble_eq_true rfl)).mp (ax_gx hE (78, [3, 11]) ax_m2)
  have F78a : pz7 (pz_gt (ρ 0)) (pz_gN (ρ 0)) ((ρ 1) / 4) 8 := (ax_XF_lt (x := 78) (Nat.le_of_ble_eq_true rfl)).mp (ax_gx hE (78, [3, 7]) ax_m3)
  have F107 : pz107 (pz_gt (ρ 0)) (pz_gN (ρ 0)) ((ρ 1) / 4) ((20) / 4) := (ax_XF_lt (x := 107) (Nat.le_of_ble_eq_true rfl)).mp (ax_gx hE (107, [3, 7, 20]) ax_m4)
  have F46 : py_46 (pz_gt (ρ 0)) (pz_gN (ρ 0)) ((ρ 1) / 4) (ρ 3) (ρ 4) := (ax_XF_lt (x := 46) (Nat.le_of_ble_eq_true rfl)).mp (ax_gx hE (46, [3, 7, 15, 19]) ax_m5)
  rw [F98] at F78
  obtain ⟨ρ', h1, h2⟩ := pz_pn1 (K := ρ 3 / 4 * 4096 + 1008) (xf := [(46, [3, 11, 23, 19]), (99, [23, 4032, 15])]) hE (by decide) (fun ρ' h1 h2 x hx => by
    have q0 : ρ' 0 = ρ 0 := h1 0 (by decide)
    have q1 : ρ' 1 = ρ 1 := h1 1 (by decide)
    have q2 : ρ' 2 = ρ 2 := h1 2 (by decide)
    have q3 : ρ' 3 = ρ 3 := h1 3 (by decide)
    have q4 : ρ' 4 = ρ 4 := h1 4 (by decide)
    rcases List.mem_cons.mp hx with e | hx
    · subst e
      refine (ax_XF_lt (x := 46) (Nat.le_of_ble_eq_true rfl)).mpr ?_
      show py_46 (pz_gt (ρ' 0)) (pz_gN (ρ' 0)) ((ρ' 2) / 4) (ρ' 5) (ρ' 4)
      rw [q0, q2, q4, h2]
      rw [F98]
      exact pr_suM F78a (pr_k5 F107) F78 (by decide) F46 ⟨pz_41 _, F46.2.1, by decide⟩
    cases List.mem_singleton.mp hx
    refine (ax_XF_lt (x := 99) (Nat.le_of_ble_eq_true rfl)).mpr ?_
    show py_99 (ρ' 5) (4032) (ρ' 3)
    rw [q3, h2]
    exact ⟨pz_41 _, F46.2.1, by decide⟩)
  exact ⟨(fun y hy => by cases hy), _, List.mem_cons_self, ρ', h1, h2⟩

theorem axq_sl5_0 : ax_RO ax_wC ax_XC axu_sl5_0 := by
  intro ρ hp hE hT
  have j0 : ρ 0 % 4 = 1 := pz_gj hE 0 (Nat.le_of_ble_eq_true rfl) rfl
  have j1 : ρ 1 % 4 = 1 := pz_gj hE 1 (Nat.le_of_ble_eq_true rfl) rfl
  have j2 : ρ 2 % 4 = 1 := pz_gj hE 2 (Nat.le_of_ble_eq_true rfl) rfl
  have j3 : ρ 3 % 4 = 1 := pz_gj hE 3 (Nat.le_of_ble_eq_true rfl) rfl
  obtain ⟨-, -, -, -, F50⟩ : ay_ex hp 8 ∧ ay_ex hp 10 ∧ ay_ex hp 11 ∧ ay_ex hp 12 ∧ pz_x50 (ρ 0) (ρ 1) (ay_at hp 8 5) (ay_at hp 8 6) (ay_at hp 8 7) (ay_at hp 8 8) (ay_at hp 10 0) (ay_at hp 10 1) (ay_at hp 10 2) (ay_at hp 10 3) (ay_at hp 10 4) (ay_at hp 8 9) (ay_at hp 8 11) (ay_at hp 8 10) (ay_at hp 8 3) (ay_at hp 8 4) (ay_at hp 11) (ay_at hp 12) := (ax_XF_lt (x := 50) (Nat.le_of_ble_eq_true rfl)).mp (ax_gx hE (50, [3, 7]) ax_m0)
  have F79 : pz7 (pz_gt (ρ 0)) (pz_gN (ρ 0)) ((ρ 1) / 4) 9 := (ax_XF_lt (x := 79) (Nat.le_of_ble_eq_true rfl)).mp (ax_gx hE (79, [3, 7]) ax_m1)
  have F47 : py_47 (pz_gt (ρ 0)) (pz_gN (ρ 0)) ((ρ 1) / 4) (ρ 2) (ρ 3) := (ax_XF_lt (x := 47) (Nat.le_of_ble_eq_true rfl)).mp (ax_gx hE (47, [3, 7, 11, 15]) ax_m2)
  refine ⟨(fun y hy => by cases hy), _, List.mem_cons_self, ρ, fun _ _ => rfl, ax_px hE rfl (fun y hy => ?_)⟩
  cases List.mem_singleton.mp hy
  refine (ax_XF_lt (x := 40) (Nat.le_of_ble_eq_true rfl)).mpr ?_
  show py_40 (ρ 3)
  exact pr_l47 F79 (by decide) F47

theorem axq_sv5_0 : ax_RO ax_wC ax_XC axu_sv5_0 := by
  intro ρ hp hE hT
  have j0 : ρ 0 % 4 = 1 := pz_gj hE 0 (Nat.le_of_ble_eq_true rfl) rfl
  have j1 : ρ 1 % 4 = 1 := pz_gj hE 1 (Nat.le_of_ble_eq_true rfl) rfl
  have j2 : ρ 2 % 4 = 1 := pz_gj hE 2 (Nat.le_of_ble_eq_true rfl) rfl
  have j3 : ρ 3 % 4 = 1 := pz_gj hE 3 (Nat.le_of_ble_eq_true rfl) rfl
  have j4 : ρ 4 % 4 = 1 := pz_gj hE 4 (Nat.le_of_ble_eq_true rfl) rfl
  have j5 : ρ 5 % 4 = 1 := pz_gj hE 5 (Nat.le_of_ble_eq_true rfl) rfl
  obtain ⟨-, -, -, -, F50⟩ : ay_ex hp 8 ∧ ay_ex hp 10 ∧ ay_ex hp 11 ∧ ay_ex hp 12 ∧ pz_x50 (ρ 0) (ρ 1) (ay_at hp 8 5) (ay_at hp 8 6) (ay_at hp 8 7) (ay_at hp 8 8) (ay_at hp 10 0) (ay_at hp 10 1) (ay_at hp 10 2) (ay_at hp 10 3) (ay_at hp 10 4) (ay_at hp 8 9) (ay_at hp 8 11) (ay_at hp 8 10) (ay_at hp 8 3) (ay_at hp 8 4) (ay_at hp 11) (ay_at hp 12) := (ax_XF_lt (x := 50) (Nat.le_of_ble_eq_true rfl)).mp (ax_gx hE (50, [3, 7]) ax_m0)
  have F47 : py_47 (pz_gt (ρ 0)) (pz_gN (ρ 0)) ((ρ 1) / 4) (ρ 3) (ρ 4) := (ax_XF_lt (x := 47) (Nat.le_of_ble_eq_true rfl)).mp (ax_gx hE (47, [3, 7, 15, 19]) ax_m1)
  have F99 : py_99 (ρ 3) (4032) (ρ 2) := (ax_XF_lt (x := 99) (Nat.le_of_ble_eq_true rfl)).mp (ax_gx hE (99, [15, 4032, 11]) ax_m2)
  obtain ⟨-, -, -, F41⟩ : ay_ex hp 10 ∧ ay_ex hp 15 ∧ ay_ex hp 16 ∧ py_x41 (ρ 5) (ay_at hp 10 5) (ay_at hp 15) (ay_at hp 16) := (ax_XF_lt (x := 41) (Nat.le_of_ble_eq_true rfl)).mp (ax_gx hE (41, [23]) ax_m3)
  have F99a : py_99 (ρ 5) (4032) (ρ 4) := (ax_XF_lt (x := 99) (Nat.le_of_ble_eq_true rfl)).mp (ax_gx hE (99, [23, 4032, 19]) ax_m4)
  refine ⟨(fun y hy => by cases hy), _, List.mem_cons_self, ρ, fun _ _ => rfl, ax_px hE rfl (fun y hy => ?_)⟩
  cases List.mem_singleton.mp hy
  refine (ax_XF_lt (x := 47) (Nat.le_of_ble_eq_true rfl)).mpr ?_
  show py_47 (pz_gt (ρ 0)) (pz_gN (ρ 0)) ((ρ 1) / 4) (ρ 2) (ρ 5)
  exact pr_sv5 F47 F99 F99a

theorem axq_su1_1 : ax_RO ax_wC ax_XC axu_su1_1 := by
  intro ρ hp hE hT
  have j0 : ρ 0 % 4 = 1 := pz_gj hE 0 (Nat.le_of_ble_eq_true rfl) rfl
  have j1 : ρ 1 % 4 = 1 := pz_gj hE 1 (Nat.le_of_ble_eq_true rfl) rfl
  have j2 : ρ 2 % 4 = 1 := pz_gj hE 2 (Nat.le_of_ble_eq_true rfl) rfl
  have j3 : ρ 3 % 4 = 1 := pz_gj hE 3 (Nat.le_of_ble_eq_true rfl) rfl
  have j4 : ρ 4 % 4 = 1 := pz_gj hE 4 (Nat.le_of_ble_eq_true rfl) rfl
  obtain ⟨i5a, i5b, i5c, i5d⟩ := pz_gi hE 5 2147483648 2147484647 (Nat.le_of_ble_eq_true rfl) rfl
  have c_value : ay_at hp 8 8 = some (ρ 5) := ay_gfj hE 42 32 23 8 8 ax_m6 (ax_vlq rfl rfl) (ax_vlj rfl rfl)
  obtain ⟨-, -, -, -, F50⟩ : ay_ex hp 8 ∧ ay_ex hp 10 ∧ ay_ex hp 11 ∧ ay_ex hp 12 ∧ pz_x50 (ρ 0) (ρ 1) (ay_at hp 8 5) (ay_at hp 8 6) (ay_at hp 8 7) (ay_at hp 8 8) (ay_at hp 10 0) (ay_at hp 10 1) (ay_at hp 10 2) (ay_at hp 10 3) (ay_at hp 10 4) (ay_at hp 8 9) (ay_at hp 8 11) (ay_at hp 8 10) (ay_at hp 8 3) (ay_at hp 8 4) (ay_at hp 11) (ay_at hp 12) := (ax_XF_lt (x := 50) (Nat.le_of_ble_eq_true rfl)).mp (ax_gx hE (50, [3, 7]) ax_m0)
  rw [c_value] at F50
  have F98 : (ρ 2) / 4 = (ρ 1) / 4 + 1 := (ax_XF_lt (x := 98) (Nat.le_of_ble_eq_true rfl)).mp (ax_gx hE (98, [7, 11]) ax_m1)
  have F79 : pz7 (pz_gt (ρ 0)) (pz_gN (ρ 0)) ((ρ 2) / 4) 9 := (ax_XF_lt (x := 79) (Nat.le_of_ble_eq_true rfl)).mp (ax_gx hE (79, [3, 11]) ax_m2)
  have F78 : pz7 (pz_gt (ρ 0)) (pz_gN (ρ 0)) ((ρ 1) / 4) 8 := (ax_XF_lt (x := 78) (Nat.le_of_ble_eq_true rfl)).mp (ax_gx hE (78, [3, 7]) ax_m3)
  have F107 : pz107 (pz_gt (ρ 0)) (pz_gN (ρ 0)) ((ρ 1) / 4) ((4) / 4) := (ax_XF_lt (x := 107) (Nat.le_of_ble_eq_true rfl)).mp (ax_gx hE (107, [3, 7, 4]) ax_m4)
  have F46 : py_46 (pz_gt (ρ 0)) (pz_gN (ρ 0)) ((ρ 1) / 4) (ρ 3) (ρ 4) := (ax_XF_lt (x := 46) (Nat.le_of_ble_eq_true rfl)).mp (ax_gx hE (46, [3, 7, 15, 19]) ax_m5)
  refine ⟨(fun y hy => by cases hy), _, List.mem_cons_self, ρ, fun _ _ => rfl, ax_px hE rfl (fun y hy => ?_)⟩
  cases List.mem_singleton.mp hy
  refine (ax_XF_lt (x := 42) (Nat.le_of_ble_eq_true rfl)).mpr ?_
  show py_42 (pz_gt (ρ 0)) (pz_gN (ρ 0)) ((ρ 2) / 4) (ρ 3) (ρ 4) (ρ 5)
  have kd := pr_k1 F107
  have vl := pz_mc (F50.2.2.2.1 (F50.2.2.1.trans kd))
  replace vl : (ρ 5 / 4 ≤ 1000 ∧ pz_vl (pz_gt (ρ 0)) (pz_gN (ρ 0)) (pz_p (pz_cf (pz_gt (ρ 0)) (pz_gN (ρ 0)) (ρ 1 / 4))) = ρ 5 / 4) ∨ (1000 < ρ 5 / 4 ∧ pz_vl (pz_gt (ρ 0)) (pz_gN (ρ 0)) (pz_p (pz_cf (pz_gt (ρ 0)) (pz_gN (ρ 0)) (ρ 1 / 4))) = 1000) := vl
  rw [F98] at F79 ⊢
  exact pr_su F78 (by rw [kd]; decide) (by rw [kd]; decide) F79 (by decide) F46 (by rw [pr_un1 F107]; omega) (by omega)

theorem axq_sv1_1 : ax_RO ax_wC ax_XC axu_sv1_1 := by
  intro ρ hp hE hT
  have j0 : ρ 0 % 4 = 1 := pz_gj hE 0 (Nat.le_of_ble_eq_true rfl) rfl
  have j1 : ρ 1 % 4 = 1 := pz_gj hE 1 (Nat.le_of_ble_eq_true rfl) rfl
  have j2 : ρ 2 % 4 = 1 := pz_gj hE 2 (Nat.le_of_ble_eq_true rfl) rfl
  have j3 : ρ 3 % 4 = 1 := pz_gj hE 3 (Nat.le_of_ble_eq_true rfl) rfl
  have j4 : ρ 4 % 4 = 1 := pz_gj hE 4 (Nat.le_of_ble_eq_true rfl) rfl
  obtain ⟨i5a, i5b, i5c, i5d⟩ := pz_gi hE 5 2147483648 2147484647 (Nat.le_of_ble_eq_true rfl) rfl
  obtain ⟨-, -, -, -, F50⟩ : ay_ex hp 8 ∧ ay_ex hp 10 ∧ ay_ex hp 11 ∧ ay_ex hp 12 ∧ pz_x50 (ρ 0) (ρ 1) (ay_at hp 8 5) (ay_at hp 8 6) (ay_at hp 8 7) (ay_at hp 8 8) (ay_at hp 10 0) (ay_at hp 10 1) (ay_at hp 10 2) (ay_at hp 10 3) (ay_at hp 10 4) (ay_at hp 8 9) (ay_at hp 8 11) (ay_at hp 8 10) (ay_at hp 8 3) (ay_at hp 8 4) (ay_at hp 11) (ay_at hp 12) := (ax_XF_lt (x := 50) (Nat.le_of_ble_eq_true rfl)).mp (ax_gx hE (50, [3, 7]) ax_m0)
  have F42 : py_42 (pz_gt (ρ 0)) (pz_gN (ρ 0)) ((ρ 1) / 4) (ρ 2) (ρ 3) (ρ 5) := (ax_XF_lt (x := 42) (Nat.le_of_ble_eq_true rfl)).mp (ax_gx hE (42, [3, 7, 11, 15, 23]) ax_m1)
  obtain ⟨-, -, -, F41⟩ : ay_ex hp 10 ∧ ay_ex hp 15 ∧ ay_ex hp 16 ∧ py_x41 (ρ 4) (ay_at hp 10 5) (ay_at hp 15) (ay_at hp 16) := (ax_XF_lt (x := 41) (Nat.le_of_ble_eq_true rfl)).mp (ax_gx hE (41, [19]) ax_m2)
  have F99 : py_99 (ρ 4) (ρ 5) (ρ 3) := (ax_XF_lt (x := 99) (Nat.le_of_ble_eq_true rfl)).mp (ax_gx hE (99, [19, 23, 15]) ax_m3)
  refine ⟨(fun y hy => by cases hy), _, List.mem_cons_self, ρ, fun _ _ => rfl, ax_px hE rfl (fun y hy => ?_)⟩
  cases List.mem_singleton.mp hy
  refine (ax_XF_lt (x := 47) (Nat.le_of_ble_eq_true rfl)).mpr ?_
  show py_47 (pz_gt (ρ 0)) (pz_gN (ρ 0)) ((ρ 1) / 4) (ρ 2) (ρ 4)
  exact pr_sv F42 F99

theorem axq_sl1_1 : ax_RO ax_wC ax_XC axu_sl1_1 := by
  intro ρ hp hE hT
  have j0 : ρ 0 % 4 = 1 := pz_gj hE 0 (Nat.le_of_ble_eq_true rfl) rfl
  have j1 : ρ 1 % 4 = 1 := pz_gj hE 1 (Nat.le_of_ble_eq_true rfl) rfl
  have j2 : ρ 2 % 4 = 1 := pz_gj hE 2 (Nat.le_of_ble_eq_true rfl) rfl
  have j3 : ρ 3 % 4 = 1 := pz_gj hE 3 (Nat.le_of_ble_eq_true rfl) rfl
  obtain ⟨i4a, i4b, i4c, i4d⟩ := pz_gi hE 4 2147483648 2147484647 (Nat.le_of_ble_eq_true rfl) rfl
  obtain ⟨-, -, -, -, F50⟩ : ay_ex hp 8 ∧ ay_ex hp 10 ∧ ay_ex hp 11 ∧ ay_ex hp 12 ∧ pz_x50 (ρ 0) (ρ 1) (ay_at hp 8 5) (ay_at hp 8 6) (ay_at hp 8 7) (ay_at hp 8 8) (ay_at hp 10 0) (ay_at hp 10 1) (ay_at hp 10 2) (ay_at hp 10 3) (ay_at hp 10 4) (ay_at hp 8 9) (ay_at hp 8 11) (ay_at hp 8 10) (ay_at hp 8 3) (ay_at hp 8 4) (ay_at hp 11) (ay_at hp 12) := (ax_XF_lt (x := 50) (Nat.le_of_ble_eq_true rfl)).mp (ax_gx hE (50, [3, 7]) ax_m0)
  have F79 : pz7 (pz_gt (ρ 0)) (pz_gN (ρ 0)) ((ρ 1) / 4) 9 := (ax_XF_lt (x := 79) (Nat.le_of_ble_eq_true rfl)).mp (ax_gx hE (79, [3, 7]) ax_m1)
  have F42 : py_42 (pz_gt (ρ 0)) (pz_gN (ρ 0)) ((ρ 1) / 4) (ρ 2) (ρ 3) (ρ 4) := (ax_XF_lt (x := 42) (Nat.le_of_ble_eq_true rfl)).mp (ax_gx hE (42, [3, 7, 11, 15, 19]) ax_m2)
  refine ⟨(fun y hy => by cases hy), _, List.mem_cons_self, ρ, fun _ _ => rfl, ax_px hE rfl (fun y hy => ?_)⟩
  cases List.mem_singleton.mp hy
  refine (ax_XF_lt (x := 40) (Nat.le_of_ble_eq_true rfl)).mpr ?_
  show py_40 (ρ 3)
  exact pr_l42 F79 (by decide) F42

theorem axq_su2_1 : ax_RO ax_wC ax_XC axu_su2_1 := by
  intro ρ hp hE hT
  have j0 : ρ 0 % 4 = 1 := pz_gj hE 0 (Nat.le_of_ble_eq_true rfl) rfl
  have j1 : ρ 1 % 4 = 1 := pz_gj hE 1 (Nat.le_of_ble_eq_true rfl) rfl
  have j2 : ρ 2 % 4 = 1 := pz_gj hE 2 (Nat.le_of_ble_eq_true rfl) rfl
  have j3 : ρ 3 % 4 = 1 := pz_gj hE 3 (Nat.le_of_ble_eq_true rfl) rfl
  have j4 : ρ 4 % 4 = 1 := pz_gj hE 4 (Nat.le_of_ble_eq_true rfl) rfl
  obtain ⟨-, -, -, -, F50⟩ : ay_ex hp 8 ∧ ay_ex hp 10 ∧ ay_ex hp 11 ∧ ay_ex hp 12 ∧ pz_x50 (ρ 0) (ρ 1) (ay_at hp 8 5) (ay_at hp 8 6) (ay_at hp 8 7) (ay_at hp 8 8) (ay_at hp 10 0) (ay_at hp 10 1) (ay_at hp 10 2) (ay_at hp 10 3) (ay_at hp 10 4) (ay_at hp 8 9) (ay_at hp 8 11) (ay_at hp 8 10) (ay_at hp 8 3) (ay_at hp 8 4) (ay_at hp 11) (ay_at hp 12) := (ax_XF_lt (x := 50) (Nat.le_of_ble_eq_true rfl)).mp (ax_gx hE (50, [3, 7]) ax_m0)
  have F98 : (ρ 2) / 4 = (ρ 1) / 4 + 1 := (ax_XF_lt (x := 98) (Nat.le_of_ble_eq_true rfl)).mp (ax_gx hE (98, [7, 11]) ax_m1)
  have F79 : pz7 (pz_gt (ρ 0)) (pz_gN (ρ 0)) ((ρ 2) / 4) 9 := (ax_XF_lt (x := 79) (Nat.le_of_ble_eq_true rfl)).mp (ax_gx hE (79, [3, 11]) ax_m2)
  have F78 : pz7 (pz_gt (ρ 0)) (pz_gN (ρ 0)) ((ρ 1) / 4) 8 := (ax_XF_lt (x := 78) (Nat.le_of_ble_eq_true rfl)).mp (ax_gx hE (78, [3, 7]) ax_m3)
  have F107 : pz107 (pz_gt (ρ 0)) (pz_gN (ρ 0)) ((ρ 1) / 4) ((8) / 4) := (ax_XF_lt (x := 107) (Nat.le_of_ble_eq_true rfl)).mp (ax_gx hE (107, [3, 7, 8]) ax_m4)
  have F46 : py_46 (pz_gt (ρ 0)) (pz_gN (ρ 0)) ((ρ 1) / 4) (ρ 3) (ρ 4) := (ax_XF_lt (x := 46) (Nat.le_of_ble_eq_true rfl)).mp (ax_gx hE (46, [3, 7, 15, 19]) ax_m5)
  refine ⟨(fun y hy => by cases hy), _, List.mem_cons_self, ρ, fun _ _ => rfl, ax_px hE rfl (fun y hy => ?_)⟩
  cases List.mem_singleton.mp hy
  refine (ax_XF_lt (x := 42) (Nat.le_of_ble_eq_true rfl)).mpr ?_
  show py_42 (pz_gt (ρ 0)) (pz_gN (ρ 0)) ((ρ 2) / 4) (ρ 3) (ρ 4) (4000)
  have kd := (pr_w (by decide) F107).1
  rw [F98] at F79 ⊢
  exact pr_su F78 (by rw [kd]; decide) (by rw [kd]; decide) F79 (by decide) F46 (by rw [pr_unw (by decide) F107]) (by decide)

theorem axq_sv2_1 : ax_RO ax_wC ax_XC axu_sv2_1 := by
  intro ρ hp hE hT
  have j0 : ρ 0 % 4 = 1 := pz_gj hE 0 (Nat.le_of_ble_eq_true rfl) rfl
  have j1 : ρ 1 % 4 = 1 := pz_gj hE 1 (Nat.le_of_ble_eq_true rfl) rfl
  have j2 : ρ 2 % 4 = 1 := pz_gj hE 2 (Nat.le_of_ble_eq_true rfl) rfl
  have j3 : ρ 3 % 4 = 1 := pz_gj hE 3 (Nat.le_of_ble_eq_true rfl) rfl
  have j4 : ρ 4 % 4 = 1 := pz_gj hE 4 (Nat.le_of_ble_eq_true rfl) rfl
  obtain ⟨-, -, -, -, F50⟩ : ay_ex hp 8 ∧ ay_ex hp 10 ∧ ay_ex hp 11 ∧ ay_ex hp 12 ∧ pz_x50 (ρ 0) (ρ 1) (ay_at hp 8 5) (ay_at hp 8 6) (ay_at hp 8 7) (ay_at hp 8 8) (ay_at hp 10 0) (ay_at hp 10 1) (ay_at hp 10 2) (ay_at hp 10 3) (ay_at hp 10 4) (ay_at hp 8 9) (ay_at hp 8 11) (ay_at hp 8 10) (ay_at hp 8 3) (ay_at hp 8 4) (ay_at hp 11) (ay_at hp 12) := (ax_XF_lt (x := 50) (Nat.le_of_ble_eq_true rfl)).mp (ax_gx hE (50, [3, 7]) ax_m0)
  have F42 : py_42 (pz_gt (ρ 0)) (pz_gN (ρ 0)) ((ρ 1) / 4) (ρ 2) (ρ 3) (4000) := (ax_XF_lt (x := 42) (Nat.le_of_ble_eq_true rfl)).mp (ax_gx hE (42, [3, 7, 11, 15, 4000]) ax_m1)
  obtain ⟨-, -, -, F41⟩ : ay_ex hp 10 ∧ ay_ex hp 15 ∧ ay_ex hp 16 ∧ py_x41 (ρ 4) (ay_at hp 10 5) (ay_at hp 15) (ay_at hp 16) := (ax_XF_lt (x := 41) (Nat.le_of_ble_eq_true rfl)).mp (ax_gx hE (41, [19]) ax_m2)
  have F99 : py_99 (ρ 4) (4000) (ρ 3) := (ax_XF_lt (x := 99) (Nat.le_of_ble_eq_true rfl)).mp (ax_gx hE (99, [19, 4000, 15]) ax_m3)
  refine ⟨(fun y hy => by cases hy), _, List.mem_cons_self, ρ, fun _ _ => rfl, ax_px hE rfl (fun y hy => ?_)⟩
  cases List.mem_singleton.mp hy
  refine (ax_XF_lt (x := 47) (Nat.le_of_ble_eq_true rfl)).mpr ?_
  show py_47 (pz_gt (ρ 0)) (pz_gN (ρ 0)) ((ρ 1) / 4) (ρ 2) (ρ 4)
  exact pr_sv F42 F99

theorem axq_sl2_1 : ax_RO ax_wC ax_XC axu_sl2_1 := by
  intro ρ hp hE hT
  have j0 : ρ 0 % 4 = 1 := pz_gj hE 0 (Nat.le_of_ble_eq_true rfl) rfl
  have j1 : ρ 1 % 4 = 1 := pz_gj hE 1 (Nat.le_of_ble_eq_true rfl) rfl
  have j2 : ρ 2 % 4 = 1 := pz_gj hE 2 (Nat.le_of_ble_eq_true rfl) rfl
  have j3 : ρ 3 % 4 = 1 := pz_gj hE 3 (Nat.le_of_ble_eq_true rfl) rfl
  obtain ⟨-, -, -, -, F50⟩ : ay_ex hp 8 ∧ ay_ex hp 10 ∧ ay_ex hp 11 ∧ ay_ex hp 12 ∧ pz_x50 (ρ 0) (ρ 1) (ay_at hp 8 5) (ay_at hp 8 6) (ay_at hp 8 7) (ay_at hp 8 8) (ay_at hp 10 0) (ay_at hp 10 1) (ay_at hp 10 2) (ay_at hp 10 3) (ay_at hp 10 4) (ay_at hp 8 9) (ay_at hp 8 11) (ay_at hp 8 10) (ay_at hp 8 3) (ay_at hp 8 4) (ay_at hp 11) (ay_at hp 12) := (ax_XF_lt (x := 50) (Nat.le_of_ble_eq_true rfl)).mp (ax_gx hE (50, [3, 7]) ax_m0)
  have F79 : pz7 (pz_gt (ρ 0)) (pz_gN (ρ 0)) ((ρ 1) / 4) 9 := (ax_XF_lt (x := 79) (Nat.le_of_ble_eq_true rfl)).mp (ax_gx hE (79, [3, 7]) ax_m1)
  have F42 : py_42 (pz_gt (ρ 0)) (pz_gN (ρ 0)) ((ρ 1) / 4) (ρ 2) (ρ 3) (4000) := (ax_XF_lt (x := 42) (Nat.le_of_ble_eq_true rfl)).mp (ax_gx hE (42, [3, 7, 11, 15, 4000]) ax_m2)
  refine ⟨(fun y hy => by cases hy), _, List.mem_cons_self, ρ, fun _ _ => rfl, ax_px hE rfl (fun y hy => ?_)⟩
  cases List.mem_singleton.mp hy
  refine (ax_XF_lt (x := 40) (Nat.le_of_ble_eq_true rfl)).mpr ?_
  show py_40 (ρ 3)
  exact pr_l42 F79 (by decide) F42

theorem axq_su3_1 : ax_RO ax_wC ax_XC axu_su3_1 := by
  intro ρ hp hE hT
  have j0 : ρ 0 % 4 = 1 := pz_gj hE 0 (Nat.le_of_ble_eq_true rfl) rfl
  have j1 : ρ 1 % 4 = 1 := pz_gj hE 1 (Nat.le_of_ble_eq_true rfl) rfl
  have j2 : ρ 2 % 4 = 1 := pz_gj hE 2 (Nat.le_of_ble_eq_true rfl) rfl
  have j3 : ρ 3 % 4 = 1 := pz_gj hE 3 (Nat.le_of_ble_eq_true rfl) rfl
  have j4 : ρ 4 % 4 = 1 := pz_gj hE 4 (Nat.le_of_ble_eq_true rfl) rfl
  obtain ⟨-, -, -, -, F50⟩ : ay_ex hp 8 ∧ ay_ex hp 10 ∧ ay_ex hp 11 ∧ ay_ex hp 12 ∧ pz_x50 (ρ 0) (ρ 1) (ay_at hp 8 5) (ay_at hp 8 6) (ay_at hp 8 7) (ay_at hp 8 8) (ay_at hp 10 0) (ay_at hp 10 1) (ay_at hp 10 2) (ay_at hp 10 3) (ay_at hp 10 4) (ay_at hp 8 9) (ay_at hp 8 11) (ay_at hp 8 10) (ay_at hp 8 3) (ay_at hp 8 4) (ay_at hp 11) (ay_at hp 12) := (ax_XF_lt (x := 50) (Nat.le_of_ble_eq_true rfl)).mp (ax_gx hE (50, [3, 7]) ax_m0)
  have F98 : (ρ 2) / 4 = (ρ 1) / 4 + 1 := (ax_XF_lt (x := 98) (Nat.le_of_ble_eq_true rfl)).mp (ax_gx hE (98, [7, 11]) ax_m1)
  have F79 : pz7 (pz_gt (ρ 0)) (pz_gN (ρ 0)) ((ρ 2) / 4) 9 := (ax_XF_lt (x := 79) (Nat.le_of_ble_eq_true rfl)).mp (ax_gx hE (79, [3, 11]) ax_m2)
  have F78 : pz7 (pz_gt (ρ 0)) (pz_gN (ρ 0)) ((ρ 1) / 4) 8 := (ax_XF_lt (x := 78) (Nat.le_of_ble_eq_true rfl)).mp (ax_gx hE (78, [3, 7]) ax_m3)
  have F107 : pz107 (pz_gt (ρ 0)) (pz_gN (ρ 0)) ((ρ 1) / 4) ((12) / 4) := (ax_XF_lt (x := 107) (Nat.le_of_ble_eq_true rfl)).mp (ax_gx hE (107, [3, 7, 12]) ax_m4)
  have F46 : py_46 (pz_gt (ρ 0)) (pz_gN (ρ 0)) ((ρ 1) / 4) (ρ 3) (ρ 4) := (ax_XF_lt (x := 46) (Nat.le_of_ble_eq_true rfl)).mp (ax_gx hE (46, [3, 7, 15, 19]) ax_m5)
  refine ⟨(fun y hy => by cases hy), _, List.mem_cons_self, ρ, fun _ _ => rfl, ax_px hE rfl (fun y hy => ?_)⟩
  cases List.mem_singleton.mp hy
  refine (ax_XF_lt (x := 42) (Nat.le_of_ble_eq_true rfl)).mpr ?_
  show py_42 (pz_gt (ρ 0)) (pz_gN (ρ 0)) ((ρ 2) / 4) (ρ 3) (ρ 4) (4004)
  have kd := (pr_w (by decide) F107).1
  rw [F98] at F79 ⊢
  exact pr_su F78 (by rw [kd]; decide) (by rw [kd]; decide) F79 (by decide) F46 (by rw [pr_unw (by decide) F107]) (by decide)

theorem axq_sv3_1 : ax_RO ax_wC ax_XC axu_sv3_1 := by
  intro ρ hp hE hT
  have j0 : ρ 0 % 4 = 1 := pz_gj hE 0 (Nat.le_of_ble_eq_true rfl) rfl
  have j1 : ρ 1 % 4 = 1 := pz_gj hE 1 (Nat.le_of_ble_eq_true rfl) rfl
  have j2 : ρ 2 % 4 = 1 := pz_gj hE 2 (Nat.le_of_ble_eq_true rfl) rfl
  have j3 : ρ 3 % 4 = 1 := pz_gj hE 3 (Nat.le_of_ble_eq_true rfl) rfl
  have j4 : ρ 4 % 4 = 1 := pz_gj hE 4 (Nat.le_of_ble_eq_true rfl) rfl
  obtain ⟨-, -, -, -, F50⟩ : ay_ex hp 8 ∧ ay_ex hp 10 ∧ ay_ex hp 11 ∧ ay_ex hp 12 ∧ pz_x50 (ρ 0) (ρ 1) (ay_at hp 8 5) (ay_at hp 8 6) (ay_at hp 8 7) (ay_at hp 8 8) (ay_at hp 10 0) (ay_at hp 10 1) (ay_at hp 10 2) (ay_at hp 10 3) (ay_at hp 10 4) (ay_at hp 8 9) (ay_at hp 8 11) (ay_at hp 8 10) (ay_at hp 8 3) (ay_at hp 8 4) (ay_at hp 11) (ay_at hp 12) := (ax_XF_lt (x := 50) (Nat.le_of_ble_eq_true rfl)).mp (ax_gx hE (50, [3, 7]) ax_m0)
  have F42 : py_42 (pz_gt (ρ 0)) (pz_gN (ρ 0)) ((ρ 1) / 4) (ρ 2) (ρ 3) (4004) := (ax_XF_lt (x := 42) (Nat.le_of_ble_eq_true rfl)).mp (ax_gx hE (42, [3, 7, 11, 15, 4004]) ax_m1)
  obtain ⟨-, -, -, F41⟩ : ay_ex hp 10 ∧ ay_ex hp 15 ∧ ay_ex hp 16 ∧ py_x41 (ρ 4) (ay_at hp 10 5) (ay_at hp 15) (ay_at hp 16) := (ax_XF_lt (x := 41) (Nat.le_of_ble_eq_true rfl)).mp (ax_gx hE (41, [19]) ax_m2)
  have F99 : py_99 (ρ 4) (4004) (ρ 3) := (ax_XF_lt (x := 99) (Nat.le_of_ble_eq_true rfl)).mp (ax_gx hE (99, [19, 4004, 15]) ax_m3)
  refine ⟨(fun y hy => by cases hy), _, List.mem_cons_self, ρ, fun _ _ => rfl, ax_px hE rfl (fun y hy => ?_)⟩
  cases List.mem_singleton.mp hy
  refine (ax_XF_lt (x := 47) (Nat.le_of_ble_eq_true rfl)).mpr ?_
  show py_47 (pz_gt (ρ 0)) (pz_gN (ρ 0)) ((ρ 1) / 4) (ρ 2) (ρ 4)
  exact pr_sv F42 F99

theorem axq_sl3_1 : ax_RO ax_wC ax_XC axu_sl3_1 := by
  intro ρ hp hE hT
  have j0 : ρ 0 % 4 = 1 := pz_gj hE 0 (Nat.le_of_ble_eq_true rfl) rfl
  have j1 : ρ 1 % 4 = 1 := pz_gj hE 1 (Nat.le_of_ble_eq_true rfl) rfl
  have j2 : ρ 2 % 4 = 1 := pz_gj hE 2 (Nat.le_of_ble_eq_true rfl) rfl
  have j3 : ρ 3 % 4 = 1 := pz_gj hE 3 (Nat.le_of_ble_eq_true rfl) rfl
  obtain ⟨-, -, -, -, F50⟩ : ay_ex hp 8 ∧ ay_ex hp 10 ∧ ay_ex hp 11 ∧ ay_ex hp 12 ∧ pz_x50 (ρ 0) (ρ 1) (ay_at hp 8 5) (ay_at hp 8 6) (ay_at hp 8 7) (ay_at hp 8 8) (ay_at hp 10 0) (ay_at hp 10 1) (ay_at hp 10 2) (ay_at hp 10 3) (ay_at hp 10 4) (ay_at hp 8 9) (ay_at hp 8 11) (ay_at hp 8 10) (ay_at hp 8 3) (ay_at hp 8 4) (ay_at hp 11) (ay_at hp 12) := (ax_XF_lt (x := 50) (Nat.le_of_ble_eq_true rfl)).mp (ax_gx hE (50, [3, 7]) ax_m0)
  have F79 : pz7 (pz_gt (ρ 0)) (pz_gN (ρ 0)) ((ρ 1) / 4) 9 := (ax_XF_lt (x := 79) (Nat.le_of_ble_eq_true rfl)).mp (ax_gx hE (79, [3, 7]) ax_m1)
  have F42 : py_42 (pz_gt (ρ 0)) (pz_gN (ρ 0)) ((ρ 1) / 4) (ρ 2) (ρ 3) (4004) := (ax_XF_lt (x := 42) (Nat.le_of_ble_eq_true rfl)).mp (ax_gx hE (42, [3, 7, 11, 15, 4004]) ax_m2)
  refine ⟨(fun y hy => by cases hy), _, List.mem_cons_self, ρ, fun _ _ => rfl, ax_px hE rfl (fun y hy => ?_)⟩
  cases List.mem_singleton.mp hy
  refine (ax_XF_lt (x := 40) (Nat.le_of_ble_eq_true rfl)).mpr ?_
  show py_40 (ρ 3)
  exact pr_l42 F79 (by decide) F42

theorem axq_su4_1 : ax_RO ax_wC ax_XC axu_su4_1 := by
  intro ρ hp hE hT
  have j0 : ρ 0 % 4 = 1 := pz_gj hE 0 (Nat.le_of_ble_eq_true rfl) rfl
  have j1 : ρ 1 % 4 = 1 := pz_gj hE 1 (Nat.le_of_ble_eq_true rfl) rfl
  have j2 : ρ 2 % 4 = 1 := pz_gj hE 2 (Nat.le_of_ble_eq_true rfl) rfl
  have j3 : ρ 3 % 4 = 1 := pz_gj hE 3 (Nat.le_of_ble_eq_true rfl) rfl
  have j4 : ρ 4 % 4 = 1 := pz_gj hE 4 (Nat.le_of_ble_eq_true rfl) rfl
  obtain ⟨-, -, -, -, F50⟩ : ay_ex hp 8 ∧ ay_ex hp 10 ∧ ay_ex hp 11 ∧ ay_ex hp 12 ∧ pz_x50 (ρ 0) (ρ 1) (ay_at hp 8 5) (ay_at hp 8 6) (ay_at hp 8 7) (ay_at hp 8 8) (ay_at hp 10 0) (ay_at hp 10 1) (ay_at hp 10 2) (ay_at hp 10 3) (ay_at hp 10 4) (ay_at hp 8 9) (ay_at hp 8 11) (ay_at hp 8 10) (ay_at hp 8 3) (ay_at hp 8 4) (ay_at hp 11) (ay_at hp 12) := (ax_XF_lt (x := 50) (Nat.le_of_ble_eq_true rfl)).mp (ax_gx hE (50, [3, 7]) ax_m0)
  have F98 : (ρ 2) / 4 = (ρ 1) / 4 + 1 := (ax_XF_lt (x := 98) (Nat.le_of_ble_eq_true rfl)).mp (ax_gx hE (98, [7, 11]) ax_m1)
  have F79 : pz7 (pz_gt (ρ 0)) (pz_gN (ρ 0)) ((ρ 2) / 4) 9 := (ax_XF_lt (x := 79) (Nat.le_of_ble_eq_true rfl)).mp (ax_gx hE (79, [3, 11]) ax_m2)
  have F78 : pz7 (pz_gt (ρ 0)) (pz_gN (ρ 0)) ((ρ 1) / 4) 8 := (ax_XF_lt (x := 78) (Nat.le_of_ble_eq_true rfl)).mp (ax_gx hE (78, [3, 7]) ax_m3)
  have F107 : pz107 (pz_gt (ρ 0)) (pz_gN (ρ 0)) ((ρ 1) / 4) ((16) / 4) := (ax_XF_lt (x := 107) (Nat.le_of_ble_eq_true rfl)).mp (ax_gx hE (107, [3, 7, 16]) ax_m4)
  have F46 : py_46 (pz_gt (ρ 0)) (pz_gN (ρ 0)) ((ρ 1) / 4) (ρ 3) (ρ 4) := (ax_XF_lt (x := 46) (Nat.le_of_ble_eq_true rfl)).mp (ax_gx hE (46, [3, 7, 15, 19]) ax_m5)
  refine ⟨(fun y hy => by cases hy), _, List.mem_cons_self, ρ, fun _ _ => rfl, ax_px hE rfl (fun y hy => ?_)⟩
  cases List.mem_singleton.mp hy
  refine (ax_XF_lt (x := 42) (Nat.le_of_ble_eq_true rfl)).mpr ?_
  show py_42 (pz_gt (ρ 0)) (pz_gN (ρ 0)) ((ρ 2) / 4) (ρ 3) (ρ 4) (4008)
  have kd := (pr_w (by decide) F107).1
  rw [F98] at F79 ⊢
  exact pr_su F78 (by rw [kd]; decide) (by rw [kd]; decide) F79 (by decide) F46 (by rw [pr_unw (by decide) F107]) (by decide)

theorem axq_sv4_1 : ax_RO ax_wC ax_XC axu_sv4_1 := by
  intro ρ hp hE hT
  have j0 : ρ 0 % 4 = 1 := pz_gj hE 0 (Nat.le_of_ble_eq_true rfl) rfl
  have j1 : ρ 1 % 4 = 1 := pz_gj hE 1 (Nat.le_of_ble_eq_true rfl) rfl
  have j2 : ρ 2 % 4 = 1 := pz_gj hE 2 (Nat.le_of_ble_eq_true rfl) rfl
  have j3 : ρ 3 % 4 = 1 := pz_gj hE 3 (Nat.le_of_ble_eq_true rfl) rfl
  have j4 : ρ 4 % 4 = 1 := pz_gj hE 4 (Nat.le_of_ble_eq_true rfl) rfl
  obtain ⟨-, -, -, -, F50⟩ : ay_ex hp 8 ∧ ay_ex hp 10 ∧ ay_ex hp 11 ∧ ay_ex hp 12 ∧ pz_x50 (ρ 0) (ρ 1) (ay_at hp 8 5) (ay_at hp 8 6) (ay_at hp 8 7) (ay_at hp 8 8) (ay_at hp 10 0) (ay_at hp 10 1) (ay_at hp 10 2) (ay_at hp 10 3) (ay_at hp 10 4) (ay_at hp 8 9) (ay_at hp 8 11) (ay_at hp 8 10) (ay_at hp 8 3) (ay_at hp 8 4) (ay_at hp 11) (ay_at hp 12) := (ax_XF_lt (x := 50) (Nat.le_of_ble_eq_true rfl)).mp (ax_gx hE (50, [3, 7]) ax_m0)
  have F42 : py_42 (pz_gt (ρ 0)) (pz_gN (ρ 0)) ((ρ 1) / 4) (ρ 2) (ρ 3) (4008) := (ax_XF_lt (x := 42) (Nat.le_of_ble_eq_true rfl)).mp (ax_gx hE (42, [3, 7, 11, 15, 4008]) ax_m1)
  obtain ⟨-, -, -, F41⟩ : ay_ex hp 10 ∧ ay_ex hp 15 ∧ ay_ex hp 16 ∧ py_x41 (ρ 4) (ay_at hp 10 5) (ay_at hp 15) (ay_at hp 16) := (ax_XF_lt (x := 41) (Nat.le_of_ble_eq_true rfl)).mp (ax_gx hE (41, [19]) ax_m2)
  have F99 : py_99 (ρ 4) (4008) (ρ 3) := (ax_XF_lt (x := 99) (Nat.le_of_ble_eq_true rfl)).mp (ax_gx hE (99, [19, 4008, 15]) ax_m3)
  refine ⟨(fun y hy => by cases hy), _, List.mem_cons_self, ρ, fun _ _ => rfl, ax_px hE rfl (fun y hy => ?_)⟩
  cases List.mem_singleton.mp hy
  refine (ax_XF_lt (x := 47) (Nat.le_of_ble_eq_true rfl)).mpr ?_
  show py_47 (pz_gt (ρ 0)) (pz_gN (ρ 0)) ((ρ 1) / 4) (ρ 2) (ρ 4)
  exact pr_sv F42 F99

theorem axq_sl4_1 : ax_RO ax_wC ax_XC axu_sl4_1 := by
  intro ρ hp hE hT
  have j0 : ρ 0 % 4 = 1 := pz_gj hE 0 (Nat.le_of_ble_eq_true rfl) rfl
  have j1 : ρ 1 % 4 = 1 := pz_gj hE 1 (Nat.le_of_ble_eq_true rfl) rfl
  have j2 : ρ 2 % 4 = 1 := pz_gj hE 2 (Nat.le_of_ble_eq_true rfl) rfl
  have j3 : ρ 3 % 4 = 1 := pz_gj hE 3 (Nat.le_of_ble_eq_true rfl) rfl
  obtain ⟨-, -, -, -, F50⟩ : ay_ex hp 8 ∧ ay_ex hp 10 ∧ ay_ex hp 11 ∧ ay_ex hp 12 ∧ pz_x50 (ρ 0) (ρ 1) (ay_at hp 8 5) (ay_at hp 8 6) (ay_at hp 8 7) (ay_at hp 8 8) (ay_at hp 10 0) (ay_at hp 10 1) (ay_at hp 10 2) (ay_at hp 10 3) (ay_at hp 10 4) (ay_at hp 8 9) (ay_at hp 8 11) (ay_at hp 8 10) (ay_at hp 8 3) (ay_at hp 8 4) (ay_at hp 11) (ay_at hp 12) := (ax_XF_lt (x := 50) (Nat.le_of_ble_eq_true rfl)).mp (ax_gx hE (50, [3, 7]) ax_m0)
  have F79 : pz7 (pz_gt (ρ 0)) (pz_gN (ρ 0)) ((ρ 1) / 4) 9 := (ax_XF_lt (x := 79) (Nat.le_of_ble_eq_true rfl)).mp (ax_gx hE (79, [3, 7]) ax_m1)
  have F42 : py_42 (pz_gt (ρ 0)) (pz_gN (ρ 0)) ((ρ 1) / 4) (ρ 2) (ρ 3) (4008) := (ax_XF_lt (x := 42) (Nat.le_of_ble_eq_true rfl)).mp (ax_gx hE (42, [3, 7, 11, 15, 4008]) ax_m2)
  refine ⟨(fun y hy => by cases hy), _, List.mem_cons_self, ρ, fun _ _ => rfl, ax_px hE rfl (fun y hy => ?_)⟩
  cases List.mem_singleton.mp hy
  refine (ax_XF_lt (x := 40) (Nat.le_of_ble_eq_true rfl)).mpr ?_
  show py_40 (ρ 3)
  exact pr_l42 F79 (by decide) F42

theorem axq_su40_1 : ax_RO ax_wC ax_XC axu_su40_1 := by
  intro ρ hp hE hT
  have j0 : ρ 0 % 4 = 1 := pz_gj hE 0 (Nat.le_of_ble_eq_true rfl) rfl
  have j1 : ρ 1 % 4 = 1 := pz_gj hE 1 (Nat.le_of_ble_eq_true rfl) rfl
  have j2 : ρ 2 % 4 = 1 := pz_gj hE 2 (Nat.le_of_ble_eq_true rfl) rfl
  have j3 : ρ 3 % 4 = 1 := pz_gj hE 3 (Nat.le_of_ble_eq_true rfl) rfl
  have j4 : ρ 4 % 4 = 1 := pz_gj hE 4 (Nat.le_of_ble_eq_true rfl) rfl
  obtain ⟨-, -, -, -, F50⟩ : ay_ex hp 8 ∧ ay_ex hp 10 ∧ ay_ex hp 11 ∧ ay_ex hp 12 ∧ pz_x50 (ρ 0) (ρ 1) (ay_at hp 8 5) (ay_at hp 8 6) (ay_at hp 8 7) (ay_at hp 8 8) (ay_at hp 10 0) (ay_at hp 10 1) (ay_at hp 10 2) (ay_at hp 10 3) (ay_at hp 10 4) (ay_at hp 8 9) (ay_at hp 8 11) (ay_at hp 8 10) (ay_at hp 8 3) (ay_at hp 8 4) (ay_at hp 11) (ay_at hp 12) := (ax_XF_lt (x := 50) (Nat.le_of_ble_eq_true rfl)).mp (ax_gx hE (50, [3, 7]) ax_m0)
  have F98 : (ρ 2) / 4 = (ρ 1) / 4 + 1 := (ax_XF_lt (x := 98) (Nat.le_of_ble_eq_true rfl)).mp (ax_gx hE (98, [7, 11]) ax_m1)
  have F78 : pz7 (pz_gt (ρ 0)) (pz_gN (ρ 0)) ((ρ 2) / 4) 8 := (ax_XF_lt (x := 78) (Nat.le_of_ble_eq_true rfl)).mp (ax_gx hE (78, [3, 11]) ax_m2)
  have F78a : pz7 (pz_gt (ρ 0)) (pz_gN (ρ 0)) ((ρ 1) / 4) 8 := (ax_XF_lt (x := 78) (Nat.le_of_ble_eq_true rfl)).mp (ax_gx hE (78, [3, 7]) ax_m3)
  have F107 : pz107 (pz_gt (ρ 0)) (pz_gN (ρ 0)) ((ρ 1) / 4) ((160) / 4) := (ax_XF_lt (x := 107) (Nat.le_of_ble_eq_true rfl)).mp (ax_gx hE (107, [3, 7, 160]) ax_m4)
  have F46 : py_46 (pz_gt (ρ 0)) (pz_gN (ρ 0)) ((ρ 1) / 4) (ρ 3) (ρ 4) := (ax_XF_lt (x := 46) (Nat.le_of_ble_eq_true rfl)).mp (ax_gx hE (46, [3, 7, 15, 19]) ax_m5)
  rw [F98] at F78
  obtain ⟨ρ', h1, h2⟩ := pz_pn1 (K := ρ 3 / 4 * 4096 + 1009) (xf := [(46, [3, 11, 23, 19]), (99, [23, 4036, 15]), (45, [23])]) hE (by decide) (fun ρ' h1 h2 x hx => by
    have q0 : ρ' 0 = ρ 0 := h1 0 (by decide)
    have q1 : ρ' 1 = ρ 1 := h1 1 (by decide)
    have q2 : ρ' 2 = ρ 2 := h1 2 (by decide)
    have q3 : ρ' 3 = ρ 3 := h1 3 (by decide)
    have q4 : ρ' 4 = ρ 4 := h1 4 (by decide)
    rcases List.mem_cons.mp hx with e | hx
    · subst e
      refine (ax_XF_lt (x := 46) (Nat.le_of_ble_eq_true rfl)).mpr ?_
      show py_46 (pz_gt (ρ' 0)) (pz_gN (ρ' 0)) ((ρ' 2) / 4) (ρ' 5) (ρ' 4)
      rw [q0, q2, q4, h2]
      rw [F98]
      exact pr_suO F78a (pr_k40 F107) F78 (by decide) F46 ⟨pz_41 _, F46.2.1, by decide⟩
    rcases List.mem_cons.mp hx with e | hx
    · subst e
      refine (ax_XF_lt (x := 99) (Nat.le_of_ble_eq_true rfl)).mpr ?_
      show py_99 (ρ' 5) (4036) (ρ' 3)
      rw [q3, h2]
      exact ⟨pz_41 _, F46.2.1, by decide⟩
    cases List.mem_singleton.mp hx
    refine (ax_XF_lt (x := 45) (Nat.le_of_ble_eq_true rfl)).mpr ?_
    show py_44 1 (ρ' 5)
    rw [h2]
    exact pr_44 (c := 4036) (s := ρ 3) ⟨pz_41 _, F46.2.1, by decide⟩ (by decide) (by decide))
  exact ⟨(fun y hy => by cases hy), _, List.mem_cons_self, ρ', h1, h2⟩

theorem axq_su5_1 : ax_RO ax_wC ax_XC axu_su5_1 := by
  intro ρ hp hE hT
  have j0 : ρ 0 % 4 = 1 := pz_gj hE 0 (Nat.le_of_ble_eq_true rfl) rfl
  have j1 : ρ 1 % 4 = 1 := pz_gj hE 1 (Nat.le_of_ble_eq_true rfl) rfl
  have j2 : ρ 2 % 4 = 1 := pz_gj hE 2 (Nat.le_of_ble_eq_true rfl) rfl
  have j3 : ρ 3 % 4 = 1 := pz_gj hE 3 (Nat.le_of_ble_eq_true rfl) rfl
  have j4 : ρ 4 % 4 = 1 := pz_gj hE 4 (Nat.le_of_ble_eq_true rfl) rfl
  obtain ⟨-, -, -, -, F50⟩ : ay_ex hp 8 ∧ ay_ex hp 10 ∧ ay_ex hp 11 ∧ ay_ex hp 12 ∧ pz_x50 (ρ 0) (ρ 1) (ay_at hp 8 5) (ay_at hp 8 6) (ay_at hp 8 7) (ay_at hp 8 8) (ay_at hp 10 0) (ay_at hp 10 1) (ay_at hp 10 2) (ay_at hp 10 3) (ay_at hp 10 4) (ay_at hp 8 9) (ay_at hp 8 11) (ay_at hp 8 10) (ay_at hp 8 3) (ay_at hp 8 4) (ay_at hp 11) (ay_at hp 12) := (ax_XF_lt (x := 50) (Nat.le_of_ble_eq_true rfl)).mp (ax_gx hE (50, [3, 7]) ax_m0)
  have F98 : (ρ 2) / 4 = (ρ 1) / 4 + 1 := (ax_XF_lt (x := 98) (Nat.le_of_ble_eq_true rfl)).mp (ax_gx hE (98, [7, 11]) ax_m1)
  have F78 : pz7 (pz_gt (ρ 0)) (pz_gN (ρ 0)) ((ρ 2) / 4) 8 := (ax_XF_lt (x := 78) (Nat.le_of_ble_eq_true rfl)).mp (ax_gx hE (78, [3, 11]) ax_m2)
  have F78a : pz7 (pz_gt (ρ 0)) (pz_gN (ρ 0)) ((ρ 1) / 4) 8 := (ax_XF_lt (x := 78) (Nat.le_of_ble_eq_true rfl)).mp (ax_gx hE (78, [3, 7]) ax_m3)
  have F107 : pz107 (pz_gt (ρ 0)) (pz_gN (ρ 0)) ((ρ 1) / 4) ((20) / 4) := (ax_XF_lt (x := 107) (Nat.le_of_ble_eq_true rfl)).mp (ax_gx hE (107, [3, 7, 20]) ax_m4)
  have F46 : py_46 (pz_gt (ρ 0)) (pz_gN (ρ 0)) ((ρ 1) / 4) (ρ 3) (ρ 4) := (ax_XF_lt (x := 46) (Nat.le_of_ble_eq_true rfl)).mp (ax_gx hE (46, [3, 7, 15, 19]) ax_m5)
  rw [F98] at F78
  obtain ⟨ρ', h1, h2⟩ := pz_pn1 (K := ρ 3 / 4 * 4096 + 1008) (xf := [(46, [3, 11, 23, 19]), (99, [23, 4032, 15])]) hE (by decide) (fun ρ' h1 h2 x hx => by
    have q0 : ρ' 0 = ρ 0 := h1 0 (by decide)
    have q1 : ρ' 1 = ρ 1 := h1 1 (by decide)
    have q2 : ρ' 2 = ρ 2 := h1 2 (by decide)
    have q3 : ρ' 3 = ρ 3 := h1 3 (by decide)
    have q4 : ρ' 4 = ρ 4 := h1 4 (by decide)
    rcases List.mem_cons.mp hx with e | hx
    · subst e
      refine (ax_XF_lt (x := 46) (Nat.le_of_ble_eq_true rfl)).mpr ?_
      show py_46 (pz_gt (ρ' 0)) (pz_gN (ρ' 0)) ((ρ' 2) / 4) (ρ' 5) (ρ' 4)
      rw [q0, q2, q4, h2]
      rw [F98]
      exact pr_suM F78a (pr_k5 F107) F78 (by decide) F46 ⟨pz_41 _, F46.2.1, by decide⟩
    cases List.mem_singleton.mp hx
    refine (ax_XF_lt (x := 99) (Nat.le_of_ble_eq_true rfl)).mpr ?_
    show py_99 (ρ' 5) (4032) (ρ' 3)
    rw [q3, h2]
    exact ⟨pz_41 _, F46.2.1, by decide⟩)
  exact ⟨(fun y hy => by cases hy), _, List.mem_cons_self, ρ', h1, h2⟩

theorem axq_sl5_1 : ax_RO ax_wC ax_XC axu_sl5_1 := by
  intro ρ hp hE hT
  have j0 : ρ 0 % 4 = 1 := pz_gj hE 0 (Nat.le_of_ble_eq_true rfl) rfl
  have j1 : ρ 1 % 4 = 1 := pz_gj hE 1 (Nat.le_of_ble_eq_true rfl) rfl
  have j2 : ρ 2 % 4 = 1 := pz_gj hE 2 (Nat.le_of_ble_eq_true rfl) rfl
  have j3 : ρ 3 % 4 = 1 := pz_gj hE 3 (Nat.le_of_ble_eq_true rfl) rfl
  obtain ⟨-, -, -, -, F50⟩ : ay_ex hp 8 ∧ ay_ex hp 10 ∧ ay_ex hp 11 ∧ ay_ex hp 12 ∧ pz_x50 (ρ 0) (ρ 1) (ay_at hp 8 5) (ay_at hp 8 6) (ay_at hp 8 7) (ay_at hp 8 8) (ay_at hp 10 0) (ay_at hp 10 1) (ay_at hp 10 2) (ay_at hp 10 3) (ay_at hp 10 4) (ay_at hp 8 9) (ay_at hp 8 11) (ay_at hp 8 10) (ay_at hp 8 3) (ay_at hp 8 4) (ay_at hp 11) (ay_at hp 12) := (ax_XF_lt (x := 50) (Nat.le_of_ble_eq_true rfl)).mp (ax_gx hE (50, [3, 7]) ax_m0)
  have F79 : pz7 (pz_gt (ρ 0)) (pz_gN (ρ 0)) ((ρ 1) / 4) 9 := (ax_XF_lt (x := 79) (Nat.le_of_ble_eq_true rfl)).mp (ax_gx hE (79, [3, 7]) ax_m1)
  have F47 : py_47 (pz_gt (ρ 0)) (pz_gN (ρ 0)) ((ρ 1) / 4) (ρ 2) (ρ 3) := (ax_XF_lt (x := 47) (Nat.le_of_ble_eq_true rfl)).mp (ax_gx hE (47, [3, 7, 11, 15]) ax_m2)
  refine ⟨(fun y hy => by cases hy), _, List.mem_cons_self, ρ, fun _ _ => rfl, ax_px hE rfl (fun y hy => ?_)⟩
  cases List.mem_singleton.mp hy
  refine (ax_XF_lt (x := 40) (Nat.le_of_ble_eq_true rfl)).mpr ?_
  show py_40 (ρ 3)
  exact pr_l47 F79 (by decide) F47

theorem axq_sv5_1 : ax_RO ax_wC ax_XC axu_sv5_1 := by
  intro ρ hp hE hT
  have j0 : ρ 0 % 4 = 1 := pz_gj hE 0 (Nat.le_of_ble_eq_true rfl) rfl
  have j1 : ρ 1 % 4 = 1 := pz_gj hE 1 (Nat.le_of_ble_eq_true rfl) rfl
  have j2 : ρ 2 % 4 = 1 := pz_gj hE 2 (Nat.le_of_ble_eq_true rfl) rfl
  have j3 : ρ 3 % 4 = 1 := pz_gj hE 3 (Nat.le_of_ble_eq_true rfl) rfl
  have j4 : ρ 4 % 4 = 1 := pz_gj hE 4 (Nat.le_of_ble_eq_true rfl) rfl
  have j5 : ρ 5 % 4 = 1 := pz_gj hE 5 (Nat.le_of_ble_eq_true rfl) rfl
  obtain ⟨-, -, -, -, F50⟩ : ay_ex hp 8 ∧ ay_ex hp 10 ∧ ay_ex hp 11 ∧ ay_ex hp 12 ∧ pz_x50 (ρ 0) (ρ 1) (ay_at hp 8 5) (ay_at hp 8 6) (ay_at hp 8 7) (ay_at hp 8 8) (ay_at hp 10 0) (ay_at hp 10 1) (ay_at hp 10 2) (ay_at hp 10 3) (ay_at hp 10 4) (ay_at hp 8 9) (ay_at hp 8 11) (ay_at hp 8 10) (ay_at hp 8 3) (ay_at hp 8 4) (ay_at hp 11) (ay_at hp 12) := (ax_XF_lt (x := 50) (Nat.le_of_ble_eq_true rfl)).mp (ax_gx hE (50, [3, 7]) ax_m0)
  have F47 : py_47 (pz_gt (ρ 0)) (pz_gN (ρ 0)) ((ρ 1) / 4) (ρ 3) (ρ 4) := (ax_XF_lt (x := 47) (Nat.le_of_ble_eq_true rfl)).mp (ax_gx hE (47, [3, 7, 15, 19]) ax_m1)
  have F99 : py_99 (ρ 3) (4032) (ρ 2) := (ax_XF_lt (x := 99) (Nat.le_of_ble_eq_true rfl)).mp (ax_gx hE (99, [15, 4032, 11]) ax_m2)
  obtain ⟨-, -, -, F41⟩ : ay_ex hp 10 ∧ ay_ex hp 15 ∧ ay_ex hp 16 ∧ py_x41 (ρ 5) (ay_at hp 10 5) (ay_at hp 15) (ay_at hp 16) := (ax_XF_lt (x := 41) (Nat.le_of_ble_eq_true rfl)).mp (ax_gx hE (41, [23]) ax_m3)
  have F99a : py_99 (ρ 5) (4032) (ρ 4) := (ax_XF_lt (x := 99) (Nat.le_of_ble_eq_true rfl)).mp (ax_gx hE (99, [23, 4032, 19]) ax_m4)
  refine ⟨(fun y hy => by cases hy), _, List.mem_cons_self, ρ, fun _ _ => rfl, ax_px hE rfl (fun y hy => ?_)⟩
  cases List.mem_singleton.mp hy
  refine (ax_XF_lt (x := 47) (Nat.le_of_ble_eq_true rfl)).mpr ?_
  show py_47 (pz_gt (ρ 0)) (pz_gN (ρ 0)) ((ρ 1) / 4) (ρ 2) (ρ 5)
  exact pr_sv5 F47 F99 F99a

theorem axq_su1_2 : ax_RO ax_wC ax_XC axu_su1_2 := by
  intro ρ hp hE hT
  have j0 : ρ 0 % 4 = 1 := pz_gj hE 0 (Nat.le_of_ble_eq_true rfl) rfl
  have j1 : ρ 1 % 4 = 1 := pz_gj hE 1 (Nat.le_of_ble_eq_true rfl) rfl
  have j2 : ρ 2 % 4 = 1 := pz_gj hE 2 (Nat.le_of_ble_eq_true rfl) rfl
  have j3 : ρ 3 % 4 = 1 := pz_gj hE 3 (Nat.le_of_ble_eq_true rfl) rfl
  have j4 : ρ 4 % 4 = 1 := pz_gj hE 4 (Nat.le_of_ble_eq_true rfl) rfl
  obtain ⟨i5a, i5b, i5c, i5d⟩ := pz_gi hE 5 2147483648 2147484647 (Nat.le_of_ble_eq_true rfl) rfl
  have c_value : ay_at hp 8 8 = some (ρ 5) := ay_gfj hE 42 32 23 8 8 ax_m6 (ax_vlq rfl rfl) (ax_vlj rfl rfl)
  obtain ⟨-, -, -, -, F50⟩ : ay_ex hp 8 ∧ ay_ex hp 10 ∧ ay_ex hp 11 ∧ ay_ex hp 12 ∧ pz_x50 (ρ 0) (ρ 1) (ay_at hp 8 5) (ay_at hp 8 6) (ay_at hp 8 7) (ay_at hp 8 8) (ay_at hp 10 0) (ay_at hp 10 1) (ay_at hp 10 2) (ay_at hp 10 3) (ay_at hp 10 4) (ay_at hp 8 9) (ay_at hp 8 11) (ay_at hp 8 10) (ay_at hp 8 3) (ay_at hp 8 4) (ay_at hp 11) (ay_at hp 12) := (ax_XF_lt (x := 50) (Nat.le_of_ble_eq_true rfl)).mp (ax_gx hE (50, [3, 7]) ax_m0)
  rw [c_value] at F50
  have F98 : (ρ 2) / 4 = (ρ 1) / 4 + 1 := (ax_XF_lt (x := 98) (Nat.le_of_ble_eq_true rfl)).mp (ax_gx hE (98, [7, 11]) ax_m1)
  have F79 : pz7 (pz_gt (ρ 0)) (pz_gN (ρ 0)) ((ρ 2) / 4) 9 := (ax_XF_lt (x := 79) (Nat.le_of_ble_eq_true rfl)).mp (ax_gx hE (79, [3, 11]) ax_m2)
  have F78 : pz7 (pz_gt (ρ 0)) (pz_gN (ρ 0)) ((ρ 1) / 4) 8 := (ax_XF_lt (x := 78) (Nat.le_of_ble_eq_true rfl)).mp (ax_gx hE (78, [3, 7]) ax_m3)
  have F107 : pz107 (pz_gt (ρ 0)) (pz_gN (ρ 0)) ((ρ 1) / 4) ((4) / 4) := (ax_XF_lt (x := 107) (Nat.le_of_ble_eq_true rfl)).mp (ax_gx hE (107, [3, 7, 4]) ax_m4)
  have F46 : py_46 (pz_gt (ρ 0)) (pz_gN (ρ 0)) ((ρ 1) / 4) (ρ 3) (ρ 4) := (ax_XF_lt (x := 46) (Nat.le_of_ble_eq_true rfl)).mp (ax_gx hE (46, [3, 7, 15, 19]) ax_m5)
  refine ⟨(fun y hy => by cases hy), _, List.mem_cons_self, ρ, fun _ _ => rfl, ax_px hE rfl (fun y hy => ?_)⟩
  cases List.mem_singleton.mp hy
  refine (ax_XF_lt (x := 42) (Nat.le_of_ble_eq_true rfl)).mpr ?_
  show py_42 (pz_gt (ρ 0)) (pz_gN (ρ 0)) ((ρ 2) / 4) (ρ 3) (ρ 4) (ρ 5)
  have kd := pr_k1 F107
  have vl := pz_mc (F50.2.2.2.1 (F50.2.2.1.trans kd))
  replace vl : (ρ 5 / 4 ≤ 1000 ∧ pz_vl (pz_gt (ρ 0)) (pz_gN (ρ 0)) (pz_p (pz_cf (pz_gt (ρ 0)) (pz_gN (ρ 0)) (ρ 1 / 4))) = ρ 5 / 4) ∨ (1000 < ρ 5 / 4 ∧ pz_vl (pz_gt (ρ 0)) (pz_gN (ρ 0)) (pz_p (pz_cf (pz_gt (ρ 0)) (pz_gN (ρ 0)) (ρ 1 / 4))) = 1000) := vl
  rw [F98] at F79 ⊢
  exact pr_su F78 (by rw [kd]; decide) (by rw [kd]; decide) F79 (by decide) F46 (by rw [pr_un1 F107]; omega) (by omega)

theorem axq_sv1_2 : ax_RO ax_wC ax_XC axu_sv1_2 := by
  intro ρ hp hE hT
  have j0 : ρ 0 % 4 = 1 := pz_gj hE 0 (Nat.le_of_ble_eq_true rfl) rfl
  have j1 : ρ 1 % 4 = 1 := pz_gj hE 1 (Nat.le_of_ble_eq_true rfl) rfl
  have j2 : ρ 2 % 4 = 1 := pz_gj hE 2 (Nat.le_of_ble_eq_true rfl) rfl
  have j3 : ρ 3 % 4 = 1 := pz_gj hE 3 (Nat.le_of_ble_eq_true rfl) rfl
  have j4 : ρ 4 % 4 = 1 := pz_gj hE 4 (Nat.le_of_ble_eq_true rfl) rfl
  obtain ⟨i5a, i5b, i5c, i5d⟩ := pz_gi hE 5 2147483648 2147484647 (Nat.le_of_ble_eq_true rfl) rfl
  obtain ⟨-, -, -, -, F50⟩ : ay_ex hp 8 ∧ ay_ex hp 10 ∧ ay_ex hp 11 ∧ ay_ex hp 12 ∧ pz_x50 (ρ 0) (ρ 1) (ay_at hp 8 5) (ay_at hp 8 6) (ay_at hp 8 7) (ay_at hp 8 8) (ay_at hp 10 0) (ay_at hp 10 1) (ay_at hp 10 2) (ay_at hp 10 3) (ay_at hp 10 4) (ay_at hp 8 9) (ay_at hp 8 11) (ay_at hp 8 10) (ay_at hp 8 3) (ay_at hp 8 4) (ay_at hp 11) (ay_at hp 12) := (ax_XF_lt (x := 50) (Nat.le_of_ble_eq_true rfl)).mp (ax_gx hE (50, [3, 7]) ax_m0)
  have F42 : py_42 (pz_gt (ρ 0)) (pz_gN (ρ 0)) ((ρ 1) / 4) (ρ 2) (ρ 3) (ρ 5) := (ax_XF_lt (x := 42) (Nat.le_of_ble_eq_true rfl)).mp (ax_gx hE (42, [3, 7, 11, 15, 23]) ax_m1)
  obtain ⟨-, -, -, F41⟩ : ay_ex hp 10 ∧ ay_ex hp 15 ∧ ay_ex hp 16 ∧ py_x41 (ρ 4) (ay_at hp 10 5) (ay_at hp 15) (ay_at hp 16) := (ax_XF_lt (x := 41) (Nat.le_of_ble_eq_true rfl)).mp (ax_gx hE (41, [19]) ax_m2)
  have F99 : py_99 (ρ 4) (ρ 5) (ρ 3) := (ax_XF_lt (x := 99) (Nat.le_of_ble_eq_true rfl)).mp (ax_gx hE (99, [19, 23, 15]) ax_m3)
  refine ⟨(fun y hy => by cases hy), _, List.mem_cons_self, ρ, fun _ _ => rfl, ax_px hE rfl (fun y hy => ?_)⟩
  cases List.mem_singleton.mp hy
  refine (ax_XF_lt (x := 47) (Nat.le_of_ble_eq_true rfl)).mpr ?_
  show py_47 (pz_gt (ρ 0)) (pz_gN (ρ 0)) ((ρ 1) / 4) (ρ 2) (ρ 4)
  exact pr_sv F42 F99

theorem axq_sl1_2 : ax_RO ax_wC ax_XC axu_sl1_2 := by
  intro ρ hp hE hT
  have j0 : ρ 0 % 4 = 1 := pz_gj hE 0 (Nat.le_of_ble_eq_true rfl) rfl
  have j1 : ρ 1 % 4 = 1 := pz_gj hE 1 (Nat.le_of_ble_eq_true rfl) rfl
  have j2 : ρ 2 % 4 = 1 := pz_gj hE 2 (Nat.le_of_ble_eq_true rfl) rfl
  have j3 : ρ 3 % 4 = 1 := pz_gj hE 3 (Nat.le_of_ble_eq_true rfl) rfl
  obtain ⟨i4a, i4b, i4c, i4d⟩ := pz_gi hE 4 2147483648 2147484647 (Nat.le_of_ble_eq_true rfl) rfl
  obtain ⟨-, -, -, -, F50⟩ : ay_ex hp 8 ∧ ay_ex hp 10 ∧ ay_ex hp 11 ∧ ay_ex hp 12 ∧ pz_x50 (ρ 0) (ρ 1) (ay_at hp 8 5) (ay_at hp 8 6) (ay_at hp 8 7) (ay_at hp 8 8) (ay_at hp 10 0) (ay_at hp 10 1) (ay_at hp 10 2) (ay_at hp 10 3) (ay_at hp 10 4) (ay_at hp 8 9) (ay_at hp 8 11) (ay_at hp 8 10) (ay_at hp 8 3) (ay_at hp 8 4) (ay_at hp 11) (ay_at hp 12) := (ax_XF_lt (x := 50) (Nat.le_of_ble_eq_true rfl)).mp (ax_gx hE (50, [3, 7]) ax_m0)
  have F79 : pz7 (pz_gt (ρ 0)) (pz_gN (ρ 0)) ((ρ 1) / 4) 9 := (ax_XF_lt (x := 79) (Nat.le_of_ble_eq_true rfl)).mp (ax_gx hE (79, [3, 7]) ax_m1)
  have F42 : py_42 (pz_gt (ρ 0)) (pz_gN (ρ 0)) ((ρ 1) / 4) (ρ 2) (ρ 3) (ρ 4) := (ax_XF_lt (x := 42) (Nat.le_of_ble_eq_true rfl)).mp (ax_gx hE (42, [3, 7, 11, 15, 19]) ax_m2)
  refine ⟨(fun y hy => by cases hy), _, List.mem_cons_self, ρ, fun _ _ => rfl, ax_px hE rfl (fun y hy => ?_)⟩
  cases List.mem_singleton.mp hy
  refine (ax_XF_lt (x := 40) (Nat.le_of_ble_eq_true rfl)).mpr ?_
  show py_40 (ρ 3)
  exact pr_l42 F79 (by decide) F42

theorem axq_su2_2 : ax_RO ax_wC ax_XC axu_su2_2 := by
  intro ρ hp hE hT
  have j0 : ρ 0 % 4 = 1 := pz_gj hE 0 (Nat.le_of_ble_eq_true rfl) rfl
  have j1 : ρ 1 % 4 = 1 := pz_gj hE 1 (Nat.le_of_ble_eq_true rfl) rfl
  have j2 : ρ 2 % 4 = 1 := pz_gj hE 2 (Nat.le_of_ble_eq_true rfl) rfl
  have j3 : ρ 3 % 4 = 1 := pz_gj hE 3 (Nat.le_of_ble_eq_true rfl) rfl
  have j4 : ρ 4 % 4 = 1 := pz_gj hE 4 (Nat.le_of_ble_eq_true rfl) rfl
  obtain ⟨-, -, -, -, F50⟩ : ay_ex hp 8 ∧ ay_ex hp 10 ∧ ay_ex hp 11 ∧ ay_ex hp 12 ∧ pz_x50 (ρ 0) (ρ 1) (ay_at hp 8 5) (ay_at hp 8 6) (ay_at hp 8 7) (ay_at hp 8 8) (ay_at hp 10 0) (ay_at hp 10 1) (ay_at hp 10 2) (ay_at hp 10 3) (ay_at hp 10 4) (ay_at hp 8 9) (ay_at hp 8 11) (ay_at hp 8 10) (ay_at hp 8 3) (ay_at hp 8 4) (ay_at hp 11) (ay_at hp 12) := (ax_XF_lt (x := 50) (Nat.le_of_ble_eq_true rfl)).mp (ax_gx hE (50, [3, 7]) ax_m0)
  have F98 : (ρ 2) / 4 = (ρ 1) / 4 + 1 := (ax_XF_lt (x := 98) (Nat.le_of_ble_eq_true rfl)).mp (ax_gx hE (98, [7, 11]) ax_m1)
  have F79 : pz7 (pz_gt (ρ 0)) (pz_gN (ρ 0)) ((ρ 2) / 4) 9 := (ax_XF_lt (x := 79) (Nat.le_of_ble_eq_true rfl)).mp (ax_gx hE (79, [3, 11]) ax_m2)
  have F78 : pz7 (pz_gt (ρ 0)) (pz_gN (ρ 0)) ((ρ 1) / 4) 8 := (ax_XF_lt (x := 78) (Nat.le_of_ble_eq_true rfl)).mp (ax_gx hE (78, [3, 7]) ax_m3)
  have F107 : pz107 (pz_gt (ρ 0)) (pz_gN (ρ 0)) ((ρ 1) / 4) ((8) / 4) := (ax_XF_lt (x := 107) (Nat.le_of_ble_eq_true rfl)).mp (ax_gx hE (107, [3, 7, 8]) ax_m4)
  have F46 : py_46 (pz_gt (ρ 0)) (pz_gN (ρ 0)) ((ρ 1) / 4) (ρ 3) (ρ 4) := (ax_XF_lt (x := 46) (Nat.le_of_ble_eq_true rfl)).mp (ax_gx hE (46, [3, 7, 15, 19]) ax_m5)
  refine ⟨(fun y hy => by cases hy), _, List.mem_cons_self, ρ, fun _ _ => rfl, ax_px hE rfl (fun y hy => ?_)⟩
  cases List.mem_singleton.mp hy
  refine (ax_XF_lt (x := 42) (Nat.le_of_ble_eq_true rfl)).mpr ?_
  show py_42 (pz_gt (ρ 0)) (pz_gN (ρ 0)) ((ρ 2) / 4) (ρ 3) (ρ 4) (4000)
  have kd := (pr_w (by decide) F107).1
  rw [F98] at F79 ⊢
  exact pr_su F78 (by rw [kd]; decide) (by rw [kd]; decide) F79 (by decide) F46 (by rw [pr_unw (by decide) F107]) (by decide)

theorem axq_sv2_2 : ax_RO ax_wC ax_XC axu_sv2_2 := by
  intro ρ hp hE hT
  have j0 : ρ 0 % 4 = 1 := pz_gj hE 0 (Nat.le_of_ble_eq_true rfl) rfl
  have j1 : ρ 1 % 4 = 1 := pz_gj hE 1 (Nat.le_of_ble_eq_true rfl) rfl
  have j2 : ρ 2 % 4 = 1 := pz_gj hE 2 (Nat.le_of_ble_eq_true rfl) rfl
  have j3 : ρ 3 % 4 = 1 := pz_gj hE 3 (Nat.le_of_ble_eq_true rfl) rfl
  have j4 : ρ 4 % 4 = 1 := pz_gj hE 4 (Nat.le_of_ble_eq_true rfl) rfl
  obtain ⟨-, -, -, -, F50⟩ : ay_ex hp 8 ∧ ay_ex hp 10 ∧ ay_ex hp 11 ∧ ay_ex hp 12 ∧ pz_x50 (ρ 0) (ρ 1) (ay_at hp 8 5) (ay_at hp 8 6) (ay_at hp 8 7) (ay_at hp 8 8) (ay_at hp 10 0) (ay_at hp 10 1) (ay_at hp 10 2) (ay_at hp 10 3) (ay_at hp 10 4) (ay_at hp 8 9) (ay_at hp 8 11) (ay_at hp 8 10) (ay_at hp 8 3) (ay_at hp 8 4) (ay_at hp 11) (ay_at hp 12) := (ax_XF_lt (x := 50) (Nat.le_of_ble_eq_true rfl)).mp (ax_gx hE (50, [3, 7]) ax_m0)
  have F42 : py_42 (pz_gt (ρ 0)) (pz_gN (ρ 0)) ((ρ 1) / 4) (ρ 2) (ρ 3) (4000) := (ax_XF_lt (x := 42) (Nat.le_of_ble_eq_true rfl)).mp (ax_gx hE (42, [3, 7, 11, 15, 4000]) ax_m1)
  obtain ⟨-, -, -, F41⟩ : ay_ex hp 10 ∧ ay_ex hp 15 ∧ ay_ex hp 16 ∧ py_x41 (ρ 4) (ay_at hp 10 5) (ay_at hp 15) (ay_at hp 16) := (ax_XF_lt (x := 41) (Nat.le_of_ble_eq_true rfl)).mp (ax_gx hE (41, [19]) ax_m2)
  have F99 : py_99 (ρ 4) (4000) (ρ 3) := (ax_XF_lt (x := 99) (Nat.le_of_ble_eq_true rfl)).mp (ax_gx hE (99, [19, 4000, 15]) ax_m3)
  refine ⟨(fun y hy => by cases hy), _, List.mem_cons_self, ρ, fun _ _ => rfl, ax_px hE rfl (fun y hy => ?_)⟩
  cases List.mem_singleton.mp hy
  refine (ax_XF_lt (x := 47) (Nat.le_of_ble_eq_true rfl)).mpr ?_
  show py_47 (pz_gt (ρ 0)) (pz_gN (ρ 0)) ((ρ 1) / 4) (ρ 2) (ρ 4)
  exact pr_sv F42 F99

theorem axq_sl2_2 : ax_RO ax_wC ax_XC axu_sl2_2 := by
  intro ρ hp hE hT
  have j0 : ρ 0 % 4 = 1 := pz_gj hE 0 (Nat.le_of_ble_eq_true rfl) rfl
  have j1 : ρ 1 % 4 = 1 := pz_gj hE 1 (Nat.le_of_ble_eq_true rfl) rfl
  have j2 : ρ 2 % 4 = 1 := pz_gj hE 2 (Nat.le_of_ble_eq_true rfl) rfl
  have j3 : ρ 3 % 4 = 1 := pz_gj hE 3 (Nat.le_of_ble_eq_true rfl) rfl
  obtain ⟨-, -, -, -, F50⟩ : ay_ex hp 8 ∧ ay_ex hp 10 ∧ ay_ex hp 11 ∧ ay_ex hp 12 ∧ pz_x50 (ρ 0) (ρ 1) (ay_at hp 8 5) (ay_at hp 8 6) (ay_at hp 8 7) (ay_at hp 8 8) (ay_at hp 10 0) (ay_at hp 10 1) (ay_at hp 10 2) (ay_at hp 10 3) (ay_at hp 10 4) (ay_at hp 8 9) (ay_at hp 8 11) (ay_at hp 8 10) (ay_at hp 8 3) (ay_at hp 8 4) (ay_at hp 11) (ay_at hp 12) := (ax_XF_lt (x := 50) (Nat.le_of_ble_eq_true rfl)).mp (ax_gx hE (50, [3, 7]) ax_m0)
  have F79 : pz7 (pz_gt (ρ 0)) (pz_gN (ρ 0)) ((ρ 1) / 4) 9 := (ax_XF_lt (x := 79) (Nat.le_of_ble_eq_true rfl)).mp (ax_gx hE (79, [3, 7]) ax_m1)
  have F42 : py_42 (pz_gt (ρ 0)) (pz_gN (ρ 0)) ((ρ 1) / 4) (ρ 2) (ρ 3) (4000) := (ax_XF_lt (x := 42) (Nat.le_of_ble_eq_true rfl)).mp (ax_gx hE (42, [3, 7, 11, 15, 4000]) ax_m2)
  refine ⟨(fun y hy => by cases hy), _, List.mem_cons_self, ρ, fun _ _ => rfl, ax_px hE rfl (fun y hy => ?_)⟩
  cases List.mem_singleton.mp hy
  refine (ax_XF_lt (x := 40) (Nat.le_of_ble_eq_true rfl)).mpr ?_
  show py_40 (ρ 3)
  exact pr_l42 F79 (by decide) F42

theorem axq_su3_2 : ax_RO ax_wC ax_XC axu_su3_2 := by
  intro ρ hp hE hT
  have j0 : ρ 0 % 4 = 1 := pz_gj hE 0 (Nat.le_of_ble_eq_true rfl) rfl
  have j1 : ρ 1 % 4 = 1 := pz_gj hE 1 (Nat.le_of_ble_eq_true rfl) rfl
  have j2 : ρ 2 % 4 = 1 := pz_gj hE 2 (Nat.le_of_ble_eq_true rfl) rfl
  have j3 : ρ 3 % 4 = 1 := pz_gj hE 3 (Nat.le_of_ble_eq_true rfl) rfl
  have j4 : ρ 4 % 4 = 1 := pz_gj hE 4 (Nat.le_of_ble_eq_true rfl) rfl
  obtain ⟨-, -, -, -, F50⟩ : ay_ex hp 8 ∧ ay_ex hp 10 ∧ ay_ex hp 11 ∧ ay_ex hp 12 ∧ pz_x50 (ρ 0) (ρ 1) (ay_at hp 8 5) (ay_at hp 8 6) (ay_at hp 8 7) (ay_at hp 8 8) (ay_at hp 10 0) (ay_at hp 10 1) (ay_at hp 10 2) (ay_at hp 10 3) (ay_at hp 10 4) (ay_at hp 8 9) (ay_at hp 8 11) (ay_at hp 8 10) (ay_at hp 8 3) (ay_at hp 8 4) (ay_at hp 11) (ay_at hp 12) := (ax_XF_lt (x := 50) (Nat.le_of_ble_eq_true rfl)).mp (ax_gx hE (50, [3, 7]) ax_m0)
  have F98 : (ρ 2) / 4 = (ρ 1) / 4 + 1 := (ax_XF_lt (x := 98) (Nat.le_of_ble_eq_true rfl)).mp (ax_gx hE (98, [7, 11]) ax_m1)
  have F79 : pz7 (pz_gt (ρ 0)) (pz_gN (ρ 0)) ((ρ 2) / 4) 9 := (ax_XF_lt (x := 79) (Nat.le_of_ble_eq_true rfl)).mp (ax_gx hE (79, [3, 11]) ax_m2)
  have F78 : pz7 (pz_gt (ρ 0)) (pz_gN (ρ 0)) ((ρ 1) / 4) 8 := (ax_XF_lt (x := 78) (Nat.le_of_ble_eq_true rfl)).mp (ax_gx hE (78, [3, 7]) ax_m3)
  have F107 : pz107 (pz_gt (ρ 0)) (pz_gN (ρ 0)) ((ρ 1) / 4) ((12) / 4) := (ax_XF_lt (x := 107) (Nat.le_of_ble_eq_true rfl)).mp (ax_gx hE (107, [3, 7, 12]) ax_m4)
  have F46 : py_46 (pz_gt (ρ 0)) (pz_gN (ρ 0)) ((ρ 1) / 4) (ρ 3) (ρ 4) := (ax_XF_lt (x := 46) (Nat.le_of_ble_eq_true rfl)).mp (ax_gx hE (46, [3, 7, 15, 19]) ax_m5)
  refine ⟨(fun y hy => by cases hy), _, List.mem_cons_self, ρ, fun _ _ => rfl, ax_px hE rfl (fun y hy => ?_)⟩
  cases List.mem_singleton.mp hy
  refine (ax_XF_lt (x := 42) (Nat.le_of_ble_eq_true rfl)).mpr ?_
  show py_42 (pz_gt (ρ 0)) (pz_gN (ρ 0)) ((ρ 2) / 4) (ρ 3) (ρ 4) (4004)
  have kd := (pr_w (by decide) F107).1
  rw [F98] at F79 ⊢
  exact pr_su F78 (by rw [kd]; decide) (by rw [kd]; decide) F79 (by decide) F46 (by rw [pr_unw (by decide) F107]) (by decide)

theorem axq_sv3_2 : ax_RO ax_wC ax_XC axu_sv3_2 := by
  intro ρ hp hE hT
  have j0 : ρ 0 % 4 = 1 := pz_gj hE 0 (Nat.le_of_ble_eq_true rfl) rfl
  have j1 : ρ 1 % 4 = 1 := pz_gj hE 1 (Nat.le_of_ble_eq_true rfl) rfl
  have j2 : ρ 2 % 4 = 1 := pz_gj hE 2 (Nat.le_of_ble_eq_true rfl) rfl
  have j3 : ρ 3 % 4 = 1 := pz_gj hE 3 (Nat.le_of_ble_eq_true rfl) rfl
  have j4 : ρ 4 % 4 = 1 := pz_gj hE 4 (Nat.le_of_ble_eq_true rfl) rfl
  obtain ⟨-, -, -, -, F50⟩ : ay_ex hp 8 ∧ ay_ex hp 10 ∧ ay_ex hp 11 ∧ ay_ex hp 12 ∧ pz_x50 (ρ 0) (ρ 1) (ay_at hp 8 5) (ay_at hp 8 6) (ay_at hp 8 7) (ay_at hp 8 8) (ay_at hp 10 0) (ay_at hp 10 1) (ay_at hp 10 2) (ay_at hp 10 3) (ay_at hp 10 4) (ay_at hp 8 9) (ay_at hp 8 11) (ay_at hp 8 10) (ay_at hp 8 3) (ay_at hp 8 4) (ay_at hp 11) (ay_at hp 12) := (ax_XF_lt (x := 50) (Nat.le_of_ble_eq_true rfl)).mp (ax_gx hE (50, [3, 7]) ax_m0)
  have F42 : py_42 (pz_gt (ρ 0)) (pz_gN (ρ 0)) ((ρ 1) / 4) (ρ 2) (ρ 3) (4004) := (ax_XF_lt (x := 42) (Nat.le_of_ble_eq_true rfl)).mp (ax_gx hE (42, [3, 7, 11, 15, 4004]) ax_m1)
  obtain ⟨-, -, -, F41⟩ : ay_ex hp 10 ∧ ay_ex hp 15 ∧ ay_ex hp 16 ∧ py_x41 (ρ 4) (ay_at hp 10 5) (ay_at hp 15) (ay_at hp 16) := (ax_XF_lt (x := 41) (Nat.le_of_ble_eq_true rfl)).mp (ax_gx hE (41, [19]) ax_m2)
  have F99 : py_99 (ρ 4) (4004) (ρ 3) := (ax_XF_lt (x := 99) (Nat.le_of_ble_eq_true rfl)).mp (ax_gx hE (99, [19, 4004, 15]) ax_m3)
  refine ⟨(fun y hy => by cases hy), _, List.mem_cons_self, ρ, fun _ _ => rfl, ax_px hE rfl (fun y hy => ?_)⟩
  cases List.mem_singleton.mp hy
  refine (ax_XF_lt (x := 47) (Nat.le_of_ble_eq_true rfl)).mpr ?_
  show py_47 (pz_gt (ρ 0)) (pz_gN (ρ 0)) ((ρ 1) / 4) (ρ 2) (ρ 4)
  exact pr_sv F42 F99

theorem axq_sl3_2 : ax_RO ax_wC ax_XC axu_sl3_2 := by
  intro ρ hp hE hT
  have j0 : ρ 0 % 4 = 1 := pz_gj hE 0 (Nat.le_of_ble_eq_true rfl) rfl
  have j1 : ρ 1 % 4 = 1 := pz_gj hE 1 (Nat.le_of_ble_eq_true rfl) rfl
  have j2 : ρ 2 % 4 = 1 := pz_gj hE 2 (Nat.le_of_ble_eq_true rfl) rfl
  have j3 : ρ 3 % 4 = 1 := pz_gj hE 3 (Nat.le_of_ble_eq_true rfl) rfl
  obtain ⟨-, -, -, -, F50⟩ : ay_ex hp 8 ∧ ay_ex hp 10 ∧ ay_ex hp 11 ∧ ay_ex hp 12 ∧ pz_x50 (ρ 0) (ρ 1) (ay_at hp 8 5) (ay_at hp 8 6) (ay_at hp 8 7) (ay_at hp 8 8) (ay_at hp 10 0) (ay_at hp 10 1) (ay_at hp 10 2) (ay_at hp 10 3) (ay_at hp 10 4) (ay_at hp 8 9) (ay_at hp 8 11) (ay_at hp 8 10) (ay_at hp 8 3) (ay_at hp 8 4) (ay_at hp 11) (ay_at hp 12) := (ax_XF_lt (x := 50) (Nat.le_of_ble_eq_true rfl)).mp (ax_gx hE (50, [3, 7]) ax_m0)
  have F79 : pz7 (pz_gt (ρ 0)) (pz_gN (ρ 0)) ((ρ 1) / 4) 9 := (ax_XF_lt (x := 79) (Nat.le_of_ble_eq_true rfl)).mp (ax_gx hE (79, [3, 7]) ax_m1)
  have F42 : py_42 (pz_gt (ρ 0)) (pz_gN (ρ 0)) ((ρ 1) / 4) (ρ 2) (ρ 3) (4004) := (ax_XF_lt (x := 42) (Nat.le_of_ble_eq_true rfl)).mp (ax_gx hE (42, [3, 7, 11, 15, 4004]) ax_m2)
  refine ⟨(fun y hy => by cases hy), _, List.mem_cons_self, ρ, fun _ _ => rfl, ax_px hE rfl (fun y hy => ?_)⟩
  cases List.mem_singleton.mp hy
  refine (ax_XF_lt (x := 40) (Nat.le_of_ble_eq_true rfl)).mpr ?_
  show py_40 (ρ 3)
  exact pr_l42 F79 (by decide) F42

theorem axq_su4_2 : ax_RO ax_wC ax_XC axu_su4_2 := by
  intro ρ hp hE hT
  have j0 : ρ 0 % 4 = 1 := pz_gj hE 0 (Nat.le_of_ble_eq_true rfl) rfl
  have j1 : ρ 1 % 4 = 1 := pz_gj hE 1 (Nat.le_of_ble_eq_true rfl) rfl
  have j2 : ρ 2 % 4 = 1 := pz_gj hE 2 (Nat.le_of_ble_eq_true rfl) rfl
  have j3 : ρ 3 % 4 = 1 := pz_gj hE 3 (Nat.le_of_ble_eq_true rfl) rfl
  have j4 : ρ 4 % 4 = 1 := pz_gj hE 4 (Nat.le_of_ble_eq_true rfl) rfl
  obtain ⟨-, -, -, -, F50⟩ : ay_ex hp 8 ∧ ay_ex hp 10 ∧ ay_ex hp 11 ∧ ay_ex hp 12 ∧ pz_x50 (ρ 0) (ρ 1) (ay_at hp 8 5) (ay_at hp 8 6) (ay_at hp 8 7) (ay_at hp 8 8) (ay_at hp 10 0) (ay_at hp 10 1) (ay_at hp 10 2) (ay_at hp 10 3) (ay_at hp 10 4) (ay_at hp 8 9) (ay_at hp 8 11) (ay_at hp 8 10) (ay_at hp 8 3) (ay_at hp 8 4) (ay_at hp 11) (ay_at hp 12) := (ax_XF_lt (x := 50) (Nat.le_of_ble_eq_true rfl)).mp (ax_gx hE (50, [3, 7]) ax_m0)
  have F98 : (ρ 2) / 4 = (ρ 1) / 4 + 1 := (ax_XF_lt (x := 98) (Nat.le_of_ble_eq_true rfl)).mp (ax_gx hE (98, [7, 11]) ax_m1)
  have F79 : pz7 (pz_gt (ρ 0)) (pz_gN (ρ 0)) ((ρ 2) / 4) 9 := (ax_XF_lt (x := 79) (Nat.le_of_ble_eq_true rfl)).mp (ax_gx hE (79, [3, 11]) ax_m2)
  have F78 : pz7 (pz_gt (ρ 0)) (pz_gN (ρ 0)) ((ρ 1) / 4) 8 := (ax_XF_lt (x := 78) (Nat.le_of_ble_eq_true rfl)).mp (ax_gx hE (78, [3, 7]) ax_m3)
  have F107 : pz107 (pz_gt (ρ 0)) (pz_gN (ρ 0)) ((ρ 1) / 4) ((16) / 4) := (ax_XF_lt (x := 107) (Nat.le_of_ble_eq_true rfl)).mp (ax_gx hE (107, [3, 7, 16]) ax_m4)
  have F46 : py_46 (pz_gt (ρ 0)) (pz_gN (ρ 0)) ((ρ 1) / 4) (ρ 3) (ρ 4) := (ax_XF_lt (x := 46) (Nat.le_of_ble_eq_true rfl)).mp (ax_gx hE (46, [3, 7, 15, 19]) ax_m5)
  refine ⟨(fun y hy => by cases hy), _, List.mem_cons_self, ρ, fun _ _ => rfl, ax_px hE rfl (fun y hy => ?_)⟩
  cases List.mem_singleton.mp hy
  refine (ax_XF_lt (x := 42) (Nat.le_of_ble_eq_true rfl)).mpr ?_
  show py_42 (pz_gt (ρ 0)) (pz_gN (ρ 0)) ((ρ 2) / 4) (ρ 3) (ρ 4) (4008)
  have kd := (pr_w (by decide) F107).1
  rw [F98] at F79 ⊢
  exact pr_su F78 (by rw [kd]; decide) (by rw [kd]; decide) F79 (by decide) F46 (by rw [pr_unw (by decide) F107]) (by decide)

theorem axq_sv4_2 : ax_RO ax_wC ax_XC axu_sv4_2 := by
  intro ρ hp hE hT
  have j0 : ρ 0 % 4 = 1 := pz_gj hE 0 (Nat.le_of_ble_eq_true rfl) rfl
  have j1 : ρ 1 % 4 = 1 := pz_gj hE 1 (Nat.le_of_ble_eq_true rfl) rfl
  have j2 : ρ 2 % 4 = 1 := pz_gj hE 2 (Nat.le_of_ble_eq_true rfl) rfl
  have j3 : ρ 3 % 4 = 1 := pz_gj hE 3 (Nat.le_of_ble_eq_true rfl) rfl
  have j4 : ρ 4 % 4 = 1 := pz_gj hE 4 (Nat.le_of_ble_eq_true rfl) rfl
  obtain ⟨-, -, -, -, F50⟩ : ay_ex hp 8 ∧ ay_ex hp 10 ∧ ay_ex hp 11 ∧ ay_ex hp 12 ∧ pz_x50 (ρ 0) (ρ 1) (ay_at hp 8 5) (ay_at hp 8 6) (ay_at hp 8 7) (ay_at hp 8 8) (ay_at hp 10 0) (ay_at hp 10 1) (ay_at hp 10 2) (ay_at hp 10 3) (ay_at hp 10 4) (ay_at hp 8 9) (ay_at hp 8 11) (ay_at hp 8 10) (ay_at hp 8 3) (ay_at hp 8 4) (ay_at hp 11) (ay_at hp 12) := (ax_XF_lt (x := 50) (Nat.le_of_ble_eq_true rfl)).mp (ax_gx hE (50, [3, 7]) ax_m0)
  have F42 : py_42 (pz_gt (ρ 0)) (pz_gN (ρ 0)) ((ρ 1) / 4) (ρ 2) (ρ 3) (4008) := (ax_XF_lt (x := 42) (Nat.le_of_ble_eq_true rfl)).mp (ax_gx hE (42, [3, 7, 11, 15, 4008]) ax_m1)
  obtain ⟨-, -, -, F41⟩ : ay_ex hp 10 ∧ ay_ex hp 15 ∧ ay_ex hp 16 ∧ py_x41 (ρ 4) (ay_at hp 10 5) (ay_at hp 15) (ay_at hp 16) := (ax_XF_lt (x := 41) (Nat.le_of_ble_eq_true rfl)).mp (ax_gx hE (41, [19]) ax_m2)
  have F99 : py_99 (ρ 4) (4008) (ρ 3) := (ax_XF_lt (x := 99) (Nat.le_of_ble_eq_true rfl)).mp (ax_gx hE (99, [19, 4008, 15]) ax_m3)
  refine ⟨(fun y hy => by cases hy), _, List.mem_cons_self, ρ, fun _ _ => rfl, ax_px hE rfl (fun y hy => ?_)⟩
  cases List.mem_singleton.mp hy
  refine (ax_XF_lt (x := 47) (Nat.le_of_ble_eq_true rfl)).mpr ?_
  show py_47 (pz_gt (ρ 0)) (pz_gN (ρ 0)) ((ρ 1) / 4) (ρ 2) (ρ 4)
  exact pr_sv F42 F99

theorem axq_sl4_2 : ax_RO ax_wC ax_XC axu_sl4_2 := by
  intro ρ hp hE hT
  have j0 : ρ 0 % 4 = 1 := pz_gj hE 0 (Nat.le_of_ble_eq_true rfl) rfl
  have j1 : ρ 1 % 4 = 1 := pz_gj hE 1 (Nat.le_of_ble_eq_true rfl) rfl
  have j2 : ρ 2 % 4 = 1 := pz_gj hE 2 (Nat.le_of_ble_eq_true rfl) rfl
  have j3 : ρ 3 % 4 = 1 := pz_gj hE 3 (Nat.le_of_ble_eq_true rfl) rfl
  obtain ⟨-, -, -, -, F50⟩ : ay_ex hp 8 ∧ ay_ex hp 10 ∧ ay_ex hp 11 ∧ ay_ex hp 12 ∧ pz_x50 (ρ 0) (ρ 1) (ay_at hp 8 5) (ay_at hp 8 6) (ay_at hp 8 7) (ay_at hp 8 8) (ay_at hp 10 0) (ay_at hp 10 1) (ay_at hp 10 2) (ay_at hp 10 3) (ay_at hp 10 4) (ay_at hp 8 9) (ay_at hp 8 11) (ay_at hp 8 10) (ay_at hp 8 3) (ay_at hp 8 4) (ay_at hp 11) (ay_at hp 12) := (ax_XF_lt (x := 50) (Nat.le_of_ble_eq_true rfl)).mp (ax_gx hE (50, [3, 7]) ax_m0)
  have F79 : pz7 (pz_gt (ρ 0)) (pz_gN (ρ 0)) ((ρ 1) / 4) 9 := (ax_XF_lt (x := 79) (Nat.le_of_ble_eq_true rfl)).mp (ax_gx hE (79, [3, 7]) ax_m1)
  have F42 : py_42 (pz_gt (ρ 0)) (pz_gN (ρ 0)) ((ρ 1) / 4) (ρ 2) (ρ 3) (4008) := (ax_XF_lt (x := 42) (Nat.le_of_ble_eq_true rfl)).mp (ax_gx hE (42, [3, 7, 11, 15, 4008]) ax_m2)
  refine ⟨(fun y hy => by cases hy), _, List.mem_cons_self, ρ, fun _ _ => rfl, ax_px hE rfl (fun y hy => ?_)⟩
  cases List.mem_singleton.mp hy
  refine (ax_XF_lt (x := 40) (Nat.le_of_ble_eq_true rfl)).mpr ?_
  show py_40 (ρ 3)
  exact pr_l42 F79 (by decide) F42

theorem axq_su40_2 : ax_RO ax_wC ax_XC axu_su40_2 := by
  intro ρ hp hE hT
  have j0 : ρ 0 % 4 = 1 := pz_gj hE 0 (Nat.le_of_ble_eq_true rfl) rfl
  have j1 : ρ 1 % 4 = 1 := pz_gj hE 1 (Nat.le_of_ble_eq_true rfl) rfl
  have j2 : ρ 2 % 4 = 1 := pz_gj hE 2 (Nat.le_of_ble_eq_true rfl) rfl
  have j3 : ρ 3 % 4 = 1 := pz_gj hE 3 (Nat.le_of_ble_eq_true rfl) rfl
  have j4 : ρ 4 % 4 = 1 := pz_gj hE 4 (Nat.le_of_ble_eq_true rfl) rfl
  obtain ⟨-, -, -, -, F50⟩ : ay_ex hp 8 ∧ ay_ex hp 10 ∧ ay_ex hp 11 ∧ ay_ex hp 12 ∧ pz_x50 (ρ 0) (ρ 1) (ay_at hp 8 5) (ay_at hp 8 6) (ay_at hp 8 7) (ay_at hp 8 8) (ay_at hp 10 0) (ay_at hp 10 1) (ay_at hp 10 2) (ay_at hp 10 3) (ay_at hp 10 4) (ay_at hp 8 9) (ay_at hp 8 11) (ay_at hp 8 10) (ay_at hp 8 3) (ay_at hp 8 4) (ay_at hp 11) (ay_at hp 12) := (ax_XF_lt (x := 50) (Nat.le_of_ble_eq_true rfl)).mp (ax_gx hE (50, [3, 7]) ax_m0)
  have F98 : (ρ 2) / 4 = (ρ 1) / 4 + 1 := (ax_XF_lt (x := 98) (Nat.le_of_ble_eq_true rfl)).mp (ax_gx hE (98, [7, 11]) ax_m1)
  have F78 : pz7 (pz_gt (ρ 0)) (pz_gN (ρ 0)) ((ρ 2) / 4) 8 := (ax_XF_lt (x := 78) (Nat.le_of_ble_eq_true rfl)).mp (ax_gx hE (78, [3, 11]) ax_m2)
  have F78a : pz7 (pz_gt (ρ 0)) (pz_gN (ρ 0)) ((ρ 1) / 4) 8 := (ax_XF_lt (x := 78) (Nat.le_of_ble_eq_true rfl)).mp (ax_gx hE (78, [3, 7]) ax_m3)
  have F107 : pz107 (pz_gt (ρ 0)) (pz_gN (ρ 0)) ((ρ 1) / 4) ((160) / 4) := (ax_XF_lt (x := 107) (Nat.le_of_ble_eq_true rfl)).mp (ax_gx hE (107, [3, 7, 160]) ax_m4)
  have F46 : py_46 (pz_gt (ρ 0)) (pz_gN (ρ 0)) ((ρ 1) / 4) (ρ 3) (ρ 4) := (ax_XF_lt (x := 46) (Nat.le_of_ble_eq_true rfl)).mp (ax_gx hE (46, [3, 7, 15, 19]) ax_m5)
  rw [F98] at F78
  obtain ⟨ρ', h1, h2⟩ := pz_pn1 (K := ρ 3 / 4 * 4096 + 1009) (xf := [(46, [3, 11, 23, 19]), (99, [23, 4036, 15]), (45, [23])]) hE (by decide) (fun ρ' h1 h2 x hx => by
    have q0 : ρ' 0 = ρ 0 := h1 0 (by decide)
    have q1 : ρ' 1 = ρ 1 := h1 1 (by decide)
    have q2 : ρ' 2 = ρ 2 := h1 2 (by decide)
    have q3 : ρ' 3 = ρ 3 := h1 3 (by decide)
    have q4 : ρ' 4 = ρ 4 := h1 4 (by decide)
    rcases List.mem_cons.mp hx with e | hx
    · subst e
      refine (ax_XF_lt (x := 46) (Nat.le_of_ble_eq_true rfl)).mpr ?_
      show py_46 (pz_gt (ρ' 0)) (pz_gN (ρ' 0)) ((ρ' 2) / 4) (ρ' 5) (ρ' 4)
      rw [q0, q2, q4, h2]
      rw [F98]
      exact pr_suO F78a (pr_k40 F107) F78 (by decide) F46 ⟨pz_41 _, F46.2.1, by decide⟩
    rcases List.mem_cons.mp hx with e | hx
    · subst e
      refine (ax_XF_lt (x := 99) (Nat.le_of_ble_eq_true rfl)).mpr ?_
      show py_99 (ρ' 5) (4036) (ρ' 3)
      rw [q3, h2]
      exact ⟨pz_41 _, F46.2.1, by decide⟩
    cases List.mem_singleton.mp hx
    refine (ax_XF_lt (x := 45) (Nat.le_of_ble_eq_true rfl)).mpr ?_
    show py_44 1 (ρ' 5)
    rw [h2]
    exact pr_44 (c := 4036) (s := ρ 3) ⟨pz_41 _, F46.2.1, by decide⟩ (by decide) (by decide))
  exact ⟨(fun y hy => by cases hy), _, List.mem_cons_self, ρ', h1, h2⟩

theorem axq_su5_2 : ax_RO ax_wC ax_XC axu_su5_2 := by
  intro ρ hp hE hT
  have j0 : ρ 0 % 4 = 1 := pz_gj hE 0 (Nat.le_of_ble_eq_true rfl) rfl
  have j1 : ρ 1 % 4 = 1 := pz_gj hE 1 (Nat.le_of_ble_eq_true rfl) rfl
  have j2 : ρ 2 % 4 = 1 := pz_gj hE 2 (Nat.le_of_ble_eq_true rfl) rfl
  have j3 : ρ 3 % 4 = 1 := pz_gj hE 3 (Nat.le_of_ble_eq_true rfl) rfl
  have j4 : ρ 4 % 4 = 1 := pz_gj hE 4 (Nat.le_of_ble_eq_true rfl) rfl
  obtain ⟨-, -, -, -, F50⟩ : ay_ex hp 8 ∧ ay_ex hp 10 ∧ ay_ex hp 11 ∧ ay_ex hp 12 ∧ pz_x50 (ρ 0) (ρ 1) (ay_at hp 8 5) (ay_at hp 8 6) (ay_at hp 8 7) (ay_at hp 8 8) (ay_at hp 10 0) (ay_at hp 10 1) (ay_at hp 10 2) (ay_at hp 10 3) (ay_at hp 10 4) (ay_at hp 8 9) (ay_at hp 8 11) (ay_at hp 8 10) (ay_at hp 8 3) (ay_at hp 8 4) (ay_at hp 11) (ay_at hp 12) := (ax_XF_lt (x := 50) (Nat.le_of_ble_eq_true rfl)).mp (ax_gx hE (50, [3, 7]) ax_m0)
  have F98 : (ρ 2) / 4 = (ρ 1) / 4 + 1 := (ax_XF_lt (x := 98) (Nat.le_of_ble_eq_true rfl)).mp (ax_gx hE (98, [7, 11]) ax_m1)
  have F78 : pz7 (pz_gt (ρ 0)) (pz_gN (ρ 0)) ((ρ 2) / 4) 8 := (ax_XF_lt (x := 78) (Nat.le_of_ble_eq_true rfl)).mp (ax_gx hE (78, [3, 11]) ax_m2)
  have F78a : pz7 (pz_gt (ρ 0)) (pz_gN (ρ 0)) ((ρ 1) / 4) 8 := (ax_XF_lt (x := 78) (Nat.le_of_ble_eq_true rfl)).mp (ax_gx hE (78, [3, 7]) ax_m3)
  have F107 : pz107 (pz_gt (ρ 0)) (pz_gN (ρ 0)) ((ρ 1) / 4) ((20) / 4) := (ax_XF_lt (x := 107) (Nat.le_of_ble_eq_true rfl)).mp (ax_gx hE (107, [3, 7, 20]) ax_m4)
  have F46 : py_46 (pz_gt (ρ 0)) (pz_gN (ρ 0)) ((ρ 1) / 4) (ρ 3) (ρ 4) := (ax_XF_lt (x := 46) (Nat.le_of_ble_eq_true rfl)).mp (ax_gx hE (46, [3, 7, 15, 19]) ax_m5)
  rw [F98] at F78
  obtain ⟨ρ', h1, h2⟩ := pz_pn1 (K := ρ 3 / 4 * 4096 + 1008) (xf := [(46, [3, 11, 23, 19]), (99, [23, 4032, 15])]) hE (by decide) (fun ρ' h1 h2 x hx => by
    have q0 : ρ' 0 = ρ 0 := h1 0 (by decide)
    have q1 : ρ' 1 = ρ 1 := h1 1 (by decide)
    have q2 : ρ' 2 = ρ 2 := h1 2 (by decide)
    have q3 : ρ' 3 = ρ 3 := h1 3 (by decide)
    have q4 : ρ' 4 = ρ 4 := h1 4 (by decide)
    rcases List.mem_cons.mp hx with e | hx
    · subst e
      refine (ax_XF_lt (x := 46) (Nat.le_of_ble_eq_true rfl)).mpr ?_
      show py_46 (pz_gt (ρ' 0)) (pz_gN (ρ' 0)) ((ρ' 2) / 4) (ρ' 5) (ρ' 4)
      rw [q0, q2, q4, h2]
      rw [F98]
      exact pr_suM F78a (pr_k5 F107) F78 (by decide) F46 ⟨pz_41 _, F46.2.1, by decide⟩
    cases List.mem_singleton.mp hx
    refine (ax_XF_lt (x := 99) (Nat.le_of_ble_eq_true rfl)).mpr ?_
    show py_99 (ρ' 5) (4032) (ρ' 3)
    rw [q3, h2]
    exact ⟨pz_41 _, F46.2.1, by decide⟩)
  exact ⟨(fun y hy => by cases hy), _, List.mem_cons_self, ρ', h1, h2⟩

theorem axq_sl5_2 : ax_RO ax_wC ax_XC axu_sl5_2 := by
  intro ρ hp hE hT
  have j0 : ρ 0 % 4 = 1 := pz_gj hE 0 (Nat.le_of_ble_eq_true rfl) rfl
  have j1 : ρ 1 % 4 = 1 := pz_gj hE 1 (Nat.le_of_ble_eq_true rfl) rfl
  have j2 : ρ 2 % 4 = 1 := pz_gj hE 2 (Nat.le_of_ble_eq_true rfl) rfl
  have j3 : ρ 3 % 4 = 1 := pz_gj hE 3 (Nat.le_of_ble_eq_true rfl) rfl
  obtain ⟨-, -, -, -, F50⟩ : ay_ex hp 8 ∧ ay_ex hp 10 ∧ ay_ex hp 11 ∧ ay_ex hp 12 ∧ pz_x50 (ρ 0) (ρ 1) (ay_at hp 8 5) (ay_at hp 8 6) (ay_at hp 8 7) (ay_at hp 8 8) (ay_at hp 10 0) (ay_at hp 10 1) (ay_at hp 10 2) (ay_at hp 10 3) (ay_at hp 10 4) (ay_at hp 8 9) (ay_at hp 8 11) (ay_at hp 8 10) (ay_at hp 8 3) (ay_at hp 8 4) (ay_at hp 11) (ay_at hp 12) := (ax_XF_lt (x := 50) (Nat.le_of_ble_eq_true rfl)).mp (ax_gx hE (50, [3, 7]) ax_m0)
  have F79 : pz7 (pz_gt (ρ 0)) (pz_gN (ρ 0)) ((ρ 1) / 4) 9 := (ax_XF_lt (x := 79) (Nat.le_of_ble_eq_true rfl)).mp (ax_gx hE (79, [3, 7]) ax_m1)
  have F47 : py_47 (pz_gt (ρ 0)) (pz_gN (ρ 0)) ((ρ 1) / 4) (ρ 2) (ρ 3) := (ax_XF_lt (x := 47) (Nat.le_of_ble_eq_true rfl)).mp (ax_gx hE (47, [3, 7, 11, 15]) ax_m2)
  refine ⟨(fun y hy => by cases hy), _, List.mem_cons_self, ρ, fun _ _ => rfl, ax_px hE rfl (fun y hy => ?_)⟩
  cases List.mem_singleton.mp hy
  refine (ax_XF_lt (x := 40) (Nat.le_of_ble_eq_true rfl)).mpr ?_
  show py_40 (ρ 3)
  exact pr_l47 F79 (by decide) F47

theorem axq_sv5_2 : ax_RO ax_wC ax_XC axu_sv5_2 := by
  intro ρ hp hE hT
  have j0 : ρ 0 % 4 = 1 := pz_gj hE 0 (Nat.le_of_ble_eq_true rfl) rfl
  have j1 : ρ 1 % 4 = 1 := pz_gj hE 1 (Nat.le_of_ble_eq_true rfl) rfl
  have j2 : ρ 2 % 4 = 1 := pz_gj hE 2 (Nat.le_of_ble_eq_true rfl) rfl
  have j3 : ρ 3 % 4 = 1 := pz_gj hE 3 (Nat.le_of_ble_eq_true rfl) rfl
  have j4 : ρ 4 % 4 = 1 := pz_gj hE 4 (Nat.le_of_ble_eq_true rfl) rfl
  have j5 : ρ 5 % 4 = 1 := pz_gj hE 5 (Nat.le_of_ble_eq_true rfl) rfl
  obtain ⟨-, -, -, -, F50⟩ : ay_ex hp 8 ∧ ay_ex hp 10 ∧ ay_ex hp 11 ∧ ay_ex hp 12 ∧ pz_x50 (ρ 0) (ρ 1) (ay_at hp 8 5) (ay_at hp 8 6) (ay_at hp 8 7) (ay_at hp 8 8) (ay_at hp 10 0) (ay_at hp 10 1) (ay_at hp 10 2) (ay_at hp 10 3) (ay_at hp 10 4) (ay_at hp 8 9) (ay_at hp 8 11) (ay_at hp 8 10) (ay_at hp 8 3) (ay_at hp 8 4) (ay_at hp 11) (ay_at hp 12) := (ax_XF_lt (x := 50) (Nat.le_of_ble_eq_true rfl)).mp (ax_gx hE (50, [3, 7]) ax_m0)
  have F47 : py_47 (pz_gt (ρ 0)) (pz_gN (ρ 0)) ((ρ 1) / 4) (ρ 3) (ρ 4) := (ax_XF_lt (x := 47) (Nat.le_of_ble_eq_true rfl)).mp (ax_gx hE (47, [3, 7, 15, 19]) ax_m1)
  have F99 : py_99 (ρ 3) (4032) (ρ 2) := (ax_XF_lt (x := 99) (Nat.le_of_ble_eq_true rfl)).mp (ax_gx hE (99, [15, 4032, 11]) ax_m2)
  obtain ⟨-, -, -, F41⟩ : ay_ex hp 10 ∧ ay_ex hp 15 ∧ ay_ex hp 16 ∧ py_x41 (ρ 5) (ay_at hp 10 5) (ay_at hp 15) (ay_at hp 16) := (ax_XF_lt (x := 41) (Nat.le_of_ble_eq_true rfl)).mp (ax_gx hE (41, [23]) ax_m3)
  have F99a : py_99 (ρ 5) (4032) (ρ 4) := (ax_XF_lt (x := 99) (Nat.le_of_ble_eq_true rfl)).mp (ax_gx hE (99, [23, 4032, 19]) ax_m4)
  refine ⟨(fun y hy => by cases hy), _, List.mem_cons_self, ρ, fun _ _ => rfl, ax_px hE rfl (fun y hy => ?_)⟩
  cases List.mem_singleton.mp hy
  refine (ax_XF_lt (x := 47) (Nat.le_of_ble_eq_true rfl)).mpr ?_
  show py_47 (pz_gt (ρ 0)) (pz_gN (ρ 0)) ((ρ 1) / 4) (ρ 2) (ρ 5)
  exact pr_sv5 F47 F99 F99a

theorem axq_su1_3 : ax_RO ax_wC ax_XC axu_su1_3 := by
  intro ρ hp hE hT
  have j0 : ρ 0 % 4 = 1 := pz_gj hE 0 (Nat.le_of_ble_eq_true rfl) rfl
  have j1 : ρ 1 % 4 = 1 := pz_gj hE 1 (Nat.le_of_ble_eq_true rfl) rfl
  have j2 : ρ 2 % 4 = 1 := pz_gj hE 2 (Nat.le_of_ble_eq_true rfl) rfl
  have j3 : ρ 3 % 4 = 1 := pz_gj hE 3 (Nat.le_of_ble_eq_true rfl) rfl
  have j4 : ρ 4 % 4 = 1 := pz_gj hE 4 (Nat.le_of_ble_eq_true rfl) rfl
  obtain ⟨i5a, i5b, i5c, i5d⟩ := pz_gi hE 5 2147483648 2147484647 (Nat.le_of_ble_eq_true rfl) rfl
  have c_value : ay_at hp 8 8 = some (ρ 5) := ay_gfj hE 42 32 23 8 8 ax_m6 (ax_vlq rfl rfl) (ax_vlj rfl rfl)
  obtain ⟨-, -, -, -, F50⟩ : ay_ex hp 8 ∧ ay_ex hp 10 ∧ ay_ex hp 11 ∧ ay_ex hp 12 ∧ pz_x50 (ρ 0) (ρ 1) (ay_at hp 8 5) (ay_at hp 8 6) (ay_at hp 8 7) (ay_at hp 8 8) (ay_at hp 10 0) (ay_at hp 10 1) (ay_at hp 10 2) (ay_at hp 10 3) (ay_at hp 10 4) (ay_at hp 8 9) (ay_at hp 8 11) (ay_at hp 8 10) (ay_at hp 8 3) (ay_at hp 8 4) (ay_at hp 11) (ay_at hp 12) := (ax_XF_lt (x := 50) (Nat.le_of_ble_eq_true rfl)).mp (ax_gx hE (50, [3, 7]) ax_m0)
  rw [c_value] at F50
  have F98 : (ρ 2) / 4 = (ρ 1) / 4 + 1 := (ax_XF_lt (x := 98) (Nat.le_of_ble_eq_true rfl)).mp (ax_gx hE (98, [7, 11]) ax_m1)
  have F79 : pz7 (pz_gt (ρ 0)) (pz_gN (ρ 0)) ((ρ 2) / 4) 9 := (ax_XF_lt (x := 79) (Nat.le_of_ble_eq_true rfl)).mp (ax_gx hE (79, [3, 11]) ax_m2)
  have F78 : pz7 (pz_gt (ρ 0)) (pz_gN (ρ 0)) ((ρ 1) / 4) 8 := (ax_XF_lt (x := 78) (Nat.le_of_ble_eq_true rfl)).mp (ax_gx hE (78, [3, 7]) ax_m3)
  have F107 : pz107 (pz_gt (ρ 0)) (pz_gN (ρ 0)) ((ρ 1) / 4) ((4) / 4) := (ax_XF_lt (x := 107) (Nat.le_of_ble_eq_true rfl)).mp (ax_gx hE (107, [3, 7, 4]) ax_m4)
  have F46 : py_46 (pz_gt (ρ 0)) (pz_gN (ρ 0)) ((ρ 1) / 4) (ρ 3) (ρ 4) := (ax_XF_lt (x := 46) (Nat.le_of_ble_eq_true rfl)).mp (ax_gx hE (46, [3, 7, 15, 19]) ax_m5)
  refine ⟨(fun y hy => by cases hy), _, List.mem_cons_self, ρ, fun _ _ => rfl, ax_px hE rfl (fun y hy => ?_)⟩
  cases List.mem_singleton.mp hy
  refine (ax_XF_lt (x := 42) (Nat.le_of_ble_eq_true rfl)).mpr ?_
  show py_42 (pz_gt (ρ 0)) (pz_gN (ρ 0)) ((ρ 2) / 4) (ρ 3) (ρ 4) (ρ 5)
  have kd := pr_k1 F107
  have vl := pz_mc (F50.2.2.2.1 (F50.2.2.1.trans kd))
  replace vl : (ρ 5 / 4 ≤ 1000 ∧ pz_vl (pz_gt (ρ 0)) (pz_gN (ρ 0)) (pz_p (pz_cf (pz_gt (ρ 0)) (pz_gN (ρ 0)) (ρ 1 / 4))) = ρ 5 / 4) ∨ (1000 < ρ 5 / 4 ∧ pz_vl (pz_gt (ρ 0)) (pz_gN (ρ 0)) (pz_p (pz_cf (pz_gt (ρ 0)) (pz_gN (ρ 0)) (ρ 1 / 4))) = 1000) := vl
  rw [F98] at F79 ⊢
  exact pr_su F78 (by rw [kd]; decide) (by rw [kd]; decide) F79 (by decide) F46 (by rw [pr_un1 F107]; omega) (by omega)

theorem axq_sv1_3 : ax_RO ax_wC ax_XC axu_sv1_3 := by
  intro ρ hp hE hT
  have j0 : ρ 0 % 4 = 1 := pz_gj hE 0 (Nat.le_of_ble_eq_true rfl) rfl
  have j1 : ρ 1 % 4 = 1 := pz_gj hE 1 (Nat.le_of_ble_eq_true rfl) rfl
  have j2 : ρ 2 % 4 = 1 := pz_gj hE 2 (Nat.le_of_ble_eq_true rfl) rfl
  have j3 : ρ 3 % 4 = 1 := pz_gj hE 3 (Nat.le_of_ble_eq_true rfl) rfl
  have j4 : ρ 4 % 4 = 1 := pz_gj hE 4 (Nat.le_of_ble_eq_true rfl) rfl
  obtain ⟨i5a, i5b, i5c, i5d⟩ := pz_gi hE 5 2147483648 2147484647 (Nat.le_of_ble_eq_true rfl) rfl
  obtain ⟨-, -, -, -, F50⟩ : ay_ex hp 8 ∧ ay_ex hp 10 ∧ ay_ex hp 11 ∧ ay_ex hp 12 ∧ pz_x50 (ρ 0) (ρ 1) (ay_at hp 8 5) (ay_at hp 8 6) (ay_at hp 8 7) (ay_at hp 8 8) (ay_at hp 10 0) (ay_at hp 10 1) (ay_at hp 10 2) (ay_at hp 10 3) (ay_at hp 10 4) (ay_at hp 8 9) (ay_at hp 8 11) (ay_at hp 8 10) (ay_at hp 8 3) (ay_at hp 8 4) (ay_at hp 11) (ay_at hp 12) := (ax_XF_lt (x := 50) (Nat.le_of_ble_eq_true rfl)).mp (ax_gx hE (50, [3, 7]) ax_m0)
  have F42 : py_42 (pz_gt (ρ 0)) (pz_gN (ρ 0)) ((ρ 1) / 4) (ρ 2) (ρ 3) (ρ 5) := (ax_XF_lt (x := 42) (Nat.le_of_ble_eq_true rfl)).mp (ax_gx hE (42, [3, 7, 11, 15, 23]) ax_m1)
  obtain ⟨-, -, -, F41⟩ : ay_ex hp 10 ∧ ay_ex hp 15 ∧ ay_ex hp 16 ∧ py_x41 (ρ 4) (ay_at hp 10 5) (ay_at hp 15) (ay_at hp 16) := (ax_XF_lt (x := 41) (Nat.le_of_ble_eq_true rfl)).mp (ax_gx hE (41, [19]) ax_m2)
  have F99 : py_99 (ρ 4) (ρ 5) (ρ 3) := (ax_XF_lt (x := 99) (Nat.le_of_ble_eq_true rfl)).mp (ax_gx hE (99, [19, 23, 15]) ax_m3)
  refine ⟨(fun y hy => by cases hy), _, List.mem_cons_self, ρ, fun _ _ => rfl, ax_px hE rfl (fun y hy => ?_)⟩
  cases List.mem_singleton.mp hy
  refine (ax_XF_lt (x := 47) (Nat.le_of_ble_eq_true rfl)).mpr ?_
  show py_47 (pz_gt (ρ 0)) (pz_gN (ρ 0)) ((ρ 1) / 4) (ρ 2) (ρ 4)
  exact pr_sv F42 F99

theorem axq_sl1_3 : ax_RO ax_wC ax_XC axu_sl1_3 := by
  intro ρ hp hE hT
  have j0 : ρ 0 % 4 = 1 := pz_gj hE 0 (Nat.le_of_ble_eq_true rfl) rfl
  have j1 : ρ 1 % 4 = 1 := pz_gj hE 1 (Nat.le_of_ble_eq_true rfl) rfl
  have j2 : ρ 2 % 4 = 1 := pz_gj hE 2 (Nat.le_of_ble_eq_true rfl) rfl
  have j3 : ρ 3 % 4 = 1 := pz_gj hE 3 (Nat.le_of_ble_eq_true rfl) rfl
  obtain ⟨i4a, i4b, i4c, i4d⟩ := pz_gi hE 4 2147483648 2147484647 (Nat.le_of_ble_eq_true rfl) rfl
  obtain ⟨-, -, -, -, F50⟩ : ay_ex hp 8 ∧ ay_ex hp 10 ∧ ay_ex hp 11 ∧ ay_ex hp 12 ∧ pz_x50 (ρ 0) (ρ 1) (ay_at hp 8 5) (ay_at hp 8 6) (ay_at hp 8 7) (ay_at hp 8 8) (ay_at hp 10 0) (ay_at hp 10 1) (ay_at hp 10 2) (ay_at hp 10 3) (ay_at hp 10 4) (ay_at hp 8 9) (ay_at hp 8 11) (ay_at hp 8 10) (ay_at hp 8 3) (ay_at hp 8 4) (ay_at hp 11) (ay_at hp 12) := (ax_XF_lt (x := 50) (Nat.le_of_ble_eq_true rfl)).mp (ax_gx hE (50, [3, 7]) ax_m0)
  have F79 : pz7 (pz_gt (ρ 0)) (pz_gN (ρ 0)) ((ρ 1) / 4) 9 := (ax_XF_lt (x := 79) (Nat.le_of_ble_eq_true rfl)).mp (ax_gx hE (79, [3, 7]) ax_m1)
  have F42 : py_42 (pz_gt (ρ 0)) (pz_gN (ρ 0)) ((ρ 1) / 4) (ρ 2) (ρ 3) (ρ 4) := (ax_XF_lt (x := 42) (Nat.le_of_ble_eq_true rfl)).mp (ax_gx hE (42, [3, 7, 11, 15, 19]) ax_m2)
  refine ⟨(fun y hy => by cases hy), _, List.mem_cons_self, ρ, fun _ _ => rfl, ax_px hE rfl (fun y hy => ?_)⟩
  cases List.mem_singleton.mp hy
  refine (ax_XF_lt (x := 40) (Nat.le_of_ble_eq_true rfl)).mpr ?_
  show py_40 (ρ 3)
  exact pr_l42 F79 (by decide) F42

theorem axq_su2_3 : ax_RO ax_wC ax_XC axu_su2_3 := by
  intro ρ hp hE hT
  have j0 : ρ 0 % 4 = 1 := pz_gj hE 0 (Nat.le_of_ble_eq_true rfl) rfl
  have j1 : ρ 1 % 4 = 1 := pz_gj hE 1 (Nat.le_of_ble_eq_true rfl) rfl
  have j2 : ρ 2 % 4 = 1 := pz_gj hE 2 (Nat.le_of_ble_eq_true rfl) rfl
  have j3 : ρ 3 % 4 = 1 := pz_gj hE 3 (Nat.le_of_ble_eq_true rfl) rfl
  have j4 : ρ 4 % 4 = 1 := pz_gj hE 4 (Nat.le_of_ble_eq_true rfl) rfl
  obtain ⟨-, -, -, -, F50⟩ : ay_ex hp 8 ∧ ay_ex hp 10 ∧ ay_ex hp 11 ∧ ay_ex hp 12 ∧ pz_x50 (ρ 0) (ρ 1) (ay_at hp 8 5) (ay_at hp 8 6) (ay_at hp 8 7) (ay_at hp 8 8) (ay_at hp 10 0) (ay_at hp 10 1) (ay_at hp 10 2) (ay_at hp 10 3) (ay_at hp 10 4) (ay_at hp 8 9) (ay_at hp 8 11) (ay_at hp 8 10) (ay_at hp 8 3) (ay_at hp 8 4) (ay_at hp 11) (ay_at hp 12) := (ax_XF_lt (x := 50) (Nat.le_of_ble_eq_true rfl)).mp (ax_gx hE (50, [3, 7]) ax_m0)
  have F98 : (ρ 2) / 4 = (ρ 1) / 4 + 1 := (ax_XF_lt (x := 98) (Nat.le_of_ble_eq_true rfl)).mp (ax_gx hE (98, [7, 11]) ax_m1)
  have F79 : pz7 (pz_gt (ρ 0)) (pz_gN (ρ 0)) ((ρ 2) / 4) 9 := (ax_XF_lt (x := 79) (Nat.le_of_ble_eq_true rfl)).mp (ax_gx hE (79, [3, 11]) ax_m2)
  have F78 : pz7 (pz_gt (ρ 0)) (pz_gN (ρ 0)) ((ρ 1) / 4) 8 := (ax_XF_lt (x := 78) (Nat.le_of_ble_eq_true rfl)).mp (ax_gx hE (78, [3, 7]) ax_m3)
  have F107 : pz107 (pz_gt (ρ 0)) (pz_gN (ρ 0)) ((ρ 1) / 4) ((8) / 4) := (ax_XF_lt (x := 107) (Nat.le_of_ble_eq_true rfl)).mp (ax_gx hE (107, [3, 7, 8]) ax_m4)
  have F46 : py_46 (pz_gt (ρ 0)) (pz_gN (ρ 0)) ((ρ 1) / 4) (ρ 3) (ρ 4) := (ax_XF_lt (x := 46) (Nat.le_of_ble_eq_true rfl)).mp (ax_gx hE (46, [3, 7, 15, 19]) ax_m5)
  refine ⟨(fun y hy => by cases hy), _, List.mem_cons_self, ρ, fun _ _ => rfl, ax_px hE rfl (fun y hy => ?_)⟩
  cases List.mem_singleton.mp hy
  refine (ax_XF_lt (x := 42) (Nat.le_of_ble_eq_true rfl)).mpr ?_
  show py_42 (pz_gt (ρ 0)) (pz_gN (ρ 0)) ((ρ 2) / 4) (ρ 3) (ρ 4) (4000)
  have kd := (pr_w (by decide) F107).1
  rw [F98] at F79 ⊢
  exact pr_su F78 (by rw [kd]; decide) (by rw [kd]; decide) F79 (by decide) F46 (by rw [pr_unw (by decide) F107]) (by decide)

theorem axq_sv2_3 : ax_RO ax_wC ax_XC axu_sv2_3 := by
  intro ρ hp hE hT
  have j0 : ρ 0 % 4 = 1 := pz_gj hE 0 (Nat.le_of_ble_eq_true rfl) rfl
  have j1 : ρ 1 % 4 = 1 := pz_gj hE 1 (Nat.le_of_ble_eq_true rfl) rfl
  have j2 : ρ 2 % 4 = 1 := pz_gj hE 2 (Nat.le_of_ble_eq_true rfl) rfl
  have j3 : ρ 3 % 4 = 1 := pz_gj hE 3 (Nat.le_of_ble_eq_true rfl) rfl
  have j4 : ρ 4 % 4 = 1 := pz_gj hE 4 (Nat.le_of_ble_eq_true rfl) rfl
  obtain ⟨-, -, -, -, F50⟩ : ay_ex hp 8 ∧ ay_ex hp 10 ∧ ay_ex hp 11 ∧ ay_ex hp 12 ∧ pz_x50 (ρ 0) (ρ 1) (ay_at hp 8 5) (ay_at hp 8 6) (ay_at hp 8 7) (ay_at hp 8 8) (ay_at hp 10 0) (ay_at hp 10 1) (ay_at hp 10 2) (ay_at hp 10 3) (ay_at hp 10 4) (ay_at hp 8 9) (ay_at hp 8 11) (ay_at hp 8 10) (ay_at hp 8 3) (ay_at hp 8 4) (ay_at hp 11) (ay_at hp 12) := (ax_XF_lt (x := 50) (Nat.le_of_ble_eq_true rfl)).mp (ax_gx hE (50, [3, 7]) ax_m0)
  have F42 : py_42 (pz_gt (ρ 0)) (pz_gN (ρ 0)) ((ρ 1) / 4) (ρ 2) (ρ 3) (4000) := (ax_XF_lt (x := 42) (Nat.le_of_ble_eq_true rfl)).mp (ax_gx hE (42, [3, 7, 11, 15, 4000]) ax_m1)
  obtain ⟨-, -, -, F41⟩ : ay_ex hp 10 ∧ ay_ex hp 15 ∧ ay_ex hp 16 ∧ py_x41 (ρ 4) (ay_at hp 10 5) (ay_at hp 15) (ay_at hp 16) := (ax_XF_lt (x := 41) (Nat.le_of_ble_eq_true rfl)).mp (ax_gx hE (41, [19]) ax_m2)
  have F99 : py_99 (ρ 4) (4000) (ρ 3) := (ax_XF_lt (x := 99) (Nat.le_of_ble_eq_true rfl)).mp (ax_gx hE (99, [19, 4000, 15]) ax_m3)
  refine ⟨(fun y hy => by cases hy), _, List.mem_cons_self, ρ, fun _ _ => rfl, ax_px hE rfl (fun y hy => ?_)⟩
  cases List.mem_singleton.mp hy
  refine (ax_XF_lt (x := 47) (Nat.le_of_ble_eq_true rfl)).mpr ?_
  show py_47 (pz_gt (ρ 0)) (pz_gN (ρ 0)) ((ρ 1) / 4) (ρ 2) (ρ 4)
  exact pr_sv F42 F99

theorem axq_sl2_3 : ax_RO ax_wC ax_XC axu_sl2_3 := by
  intro ρ hp hE hT
  have j0 : ρ 0 % 4 = 1 := pz_gj hE 0 (Nat.le_of_ble_eq_true rfl) rfl
  have j1 : ρ 1 % 4 = 1 := pz_gj hE 1 (Nat.le_of_ble_eq_true rfl) rfl
  have j2 : ρ 2 % 4 = 1 := pz_gj hE 2 (Nat.le_of_ble_eq_true rfl) rfl
  have j3 : ρ 3 % 4 = 1 := pz_gj hE 3 (Nat.le_of_ble_eq_true rfl) rfl
  obtain ⟨-, -, -, -, F50⟩ : ay_ex hp 8 ∧ ay_ex hp 10 ∧ ay_ex hp 11 ∧ ay_ex hp 12 ∧ pz_x50 (ρ 0) (ρ 1) (ay_at hp 8 5) (ay_at hp 8 6) (ay_at hp 8 7) (ay_at hp 8 8) (ay_at hp 10 0) (ay_at hp 10 1) (ay_at hp 10 2) (ay_at hp 10 3) (ay_at hp 10 4) (ay_at hp 8 9) (ay_at hp 8 11) (ay_at hp 8 10) (ay_at hp 8 3) (ay_at hp 8 4) (ay_at hp 11) (ay_at hp 12) := (ax_XF_lt (x := 50) (Nat.le_of_ble_eq_true rfl)).mp (ax_gx hE (50, [3, 7]) ax_m0)
  have F79 : pz7 (pz_gt (ρ 0)) (pz_gN (ρ 0)) ((ρ 1) / 4) 9 := (ax_XF_lt (x := 79) (Nat.le_of_ble_eq_true rfl)).mp (ax_gx hE (79, [3, 7]) ax_m1)
  have F42 : py_42 (pz_gt (ρ 0)) (pz_gN (ρ 0)) ((ρ 1) / 4) (ρ 2) (ρ 3) (4000) := (ax_XF_lt (x := 42) (Nat.le_of_ble_eq_true rfl)).mp (ax_gx hE (42, [3, 7, 11, 15, 4000]) ax_m2)
  refine ⟨(fun y hy => by cases hy), _, List.mem_cons_self, ρ, fun _ _ => rfl, ax_px hE rfl (fun y hy => ?_)⟩
  cases List.mem_singleton.mp hy
  refine (ax_XF_lt (x := 40) (Nat.le_of_ble_eq_true rfl)).mpr ?_
  show py_40 (ρ 3)
  exact pr_l42 F79 (by decide) F42

theorem axq_su3_3 : ax_RO ax_wC ax_XC axu_su3_3 := by
  intro ρ hp hE hT
  have j0 : ρ 0 % 4 = 1 := pz_gj hE 0 (Nat.le_of_ble_eq_true rfl) rfl
  have j1 : ρ 1 % 4 = 1 := pz_gj hE 1 (Nat.le_of_ble_eq_true rfl) rfl
  have j2 : ρ 2 % 4 = 1 := pz_gj hE 2 (Nat.le_of_ble_eq_true rfl) rfl
  have j3 : ρ 3 % 4 = 1 := pz_gj hE 3 (Nat.le_of_ble_eq_true rfl) rfl
  have j4 : ρ 4 % 4 = 1 := pz_gj hE 4 (Nat.le_of_ble_eq_true rfl) rfl
  obtain ⟨-, -, -, -, F50⟩ : ay_ex hp 8 ∧ ay_ex hp 10 ∧ ay_ex hp 11 ∧ ay_ex hp 12 ∧ pz_x50 (ρ 0) (ρ 1) (ay_at hp 8 5) (ay_at hp 8 6) (ay_at hp 8 7) (ay_at hp 8 8) (ay_at hp 10 0) (ay_at hp 10 1) (ay_at hp 10 2) (ay_at hp 10 3) (ay_at hp 10 4) (ay_at hp 8 9) (ay_at hp 8 11) (ay_at hp 8 10) (ay_at hp 8 3) (ay_at hp 8 4) (ay_at hp 11) (ay_at hp 12) := (ax_XF_lt (x := 50) (Nat.le_of_ble_eq_true rfl)).mp (ax_gx hE (50, [3, 7]) ax_m0)
  have F98 : (ρ 2) / 4 = (ρ 1) / 4 + 1 := (ax_XF_lt (x := 98) (Nat.le_of_ble_eq_true rfl)).mp (ax_gx hE (98, [7, 11]) ax_m1)
  have F79 : pz7 (pz_gt (ρ 0)) (pz_gN (ρ 0)) ((ρ 2) / 4) 9 := (ax_XF_lt (x := 79) (Nat.le_of_ble_eq_true rfl)).mp (ax_gx hE (79, [3, 11]) ax_m2)
  have F78 : pz7 (pz_gt (ρ 0)) (pz_gN (ρ 0)) ((ρ 1) / 4) 8 := (ax_XF_lt (x := 78) (Nat.le_of_ble_eq_true rfl)).mp (ax_gx hE (78, [3, 7]) ax_m3)
  have F107 : pz107 (pz_gt (ρ 0)) (pz_gN (ρ 0)) ((ρ 1) / 4) ((12) / 4) := (ax_XF_lt (x := 107) (Nat.le_of_ble_eq_true rfl)).mp (ax_gx hE (107, [3, 7, 12]) ax_m4)
  have F46 : py_46 (pz_gt (ρ 0)) (pz_gN (ρ 0)) ((ρ 1) / 4) (ρ 3) (ρ 4) := (ax_XF_lt (x := 46) (Nat.le_of_ble_eq_true rfl)).mp (ax_gx hE (46, [3, 7, 15, 19]) ax_m5)
  refine ⟨(fun y hy => by cases hy), _, List.mem_cons_self, ρ, fun _ _ => rfl, ax_px hE rfl (fun y hy => ?_)⟩
  cases List.mem_singleton.mp hy
  refine (ax_XF_lt (x := 42) (Nat.le_of_ble_eq_true rfl)).mpr ?_
  show py_42 (pz_gt (ρ 0)) (pz_gN (ρ 0)) ((ρ 2) / 4) (ρ 3) (ρ 4) (4004)
  have kd := (pr_w (by decide) F107).1
  rw [F98] at F79 ⊢
  exact pr_su F78 (by rw [kd]; decide) (by rw [kd]; decide) F79 (by decide) F46 (by rw [pr_unw (by decide) F107]) (by decide)

theorem axq_sv3_3 : ax_RO ax_wC ax_XC axu_sv3_3 := by
  intro ρ hp hE hT
  have j0 : ρ 0 % 4 = 1 := pz_gj hE 0 (Nat.le_of_ble_eq_true rfl) rfl
  have j1 : ρ 1 % 4 = 1 := pz_gj hE 1 (Nat.le_of_ble_eq_true rfl) rfl
  have j2 : ρ 2 % 4 = 1 := pz_gj hE 2 (Nat.le_of_ble_eq_true rfl) rfl
  have j3 : ρ 3 % 4 = 1 := pz_gj hE 3 (Nat.le_of_ble_eq_true rfl) rfl
  have j4 : ρ 4 % 4 = 1 := pz_gj hE 4 (Nat.le_of_ble_eq_true rfl) rfl
  obtain ⟨-, -, -, -, F50⟩ : ay_ex hp 8 ∧ ay_ex hp 10 ∧ ay_ex hp 11 ∧ ay_ex hp 12 ∧ pz_x50 (ρ 0) (ρ 1) (ay_at hp 8 5) (ay_at hp 8 6) (ay_at hp 8 7) (ay_at hp 8 8) (ay_at hp 10 0) (ay_at hp 10 1) (ay_at hp 10 2) (ay_at hp 10 3) (ay_at hp 10 4) (ay_at hp 8 9) (ay_at hp 8 11) (ay_at hp 8 10) (ay_at hp 8 3) (ay_at hp 8 4) (ay_at hp 11) (ay_at hp 12) := (ax_XF_lt (x := 50) (Nat.le_of_ble_eq_true rfl)).mp (ax_gx hE (50, [3, 7]) ax_m0)
  have F42 : py_42 (pz_gt (ρ 0)) (pz_gN (ρ 0)) ((ρ 1) / 4) (ρ 2) (ρ 3) (4004) := (ax_XF_lt (x := 42) (Nat.le_of_ble_eq_true rfl)).mp (ax_gx hE (42, [3, 7, 11, 15, 4004]) ax_m1)
  obtain ⟨-, -, -, F41⟩ : ay_ex hp 10 ∧ ay_ex hp 15 ∧ ay_ex hp 16 ∧ py_x41 (ρ 4) (ay_at hp 10 5) (ay_at hp 15) (ay_at hp 16) := (ax_XF_lt (x := 41) (Nat.le_of_ble_eq_true rfl)).mp (ax_gx hE (41, [19]) ax_m2)
  have F99 : py_99 (ρ 4) (4004) (ρ 3) := (ax_XF_lt (x := 99) (Nat.le_of_ble_eq_true rfl)).mp (ax_gx hE (99, [19, 4004, 15]) ax_m3)
  refine ⟨(fun y hy => by cases hy), _, List.mem_cons_self, ρ, fun _ _ => rfl, ax_px hE rfl (fun y hy => ?_)⟩
  cases List.mem_singleton.mp hy
  refine (ax_XF_lt (x := 47) (Nat.le_of_ble_eq_true rfl)).mpr ?_
  show py_47 (pz_gt (ρ 0)) (pz_gN (ρ 0)) ((ρ 1) / 4) (ρ 2) (ρ 4)
  exact pr_sv F42 F99

theorem axq_sl3_3 : ax_RO ax_wC ax_XC axu_sl3_3 := by
  intro ρ hp hE hT
  have j0 : ρ 0 % 4 = 1 := pz_gj hE 0 (Nat.le_of_ble_eq_true rfl) rfl
  have j1 : ρ 1 % 4 = 1 := pz_gj hE 1 (Nat.le_of_ble_eq_true rfl) rfl
  have j2 : ρ 2 % 4 = 1 := pz_gj hE 2 (Nat.le_of_ble_eq_true rfl) rfl
  have j3 : ρ 3 % 4 = 1 := pz_gj hE 3 (Nat.le_of_ble_eq_true rfl) rfl
  obtain ⟨-, -, -, -, F50⟩ : ay_ex hp 8 ∧ ay_ex hp 10 ∧ ay_ex hp 11 ∧ ay_ex hp 12 ∧ pz_x50 (ρ 0) (ρ 1) (ay_at hp 8 5) (ay_at hp 8 6) (ay_at hp 8 7) (ay_at hp 8 8) (ay_at hp 10 0) (ay_at hp 10 1) (ay_at hp 10 2) (ay_at hp 10 3) (ay_at hp 10 4) (ay_at hp 8 9) (ay_at hp 8 11) (ay_at hp 8 10) (ay_at hp 8 3) (ay_at hp 8 4) (ay_at hp 11) (ay_at hp 12) := (ax_XF_lt (x := 50) (Nat.le_of_ble_eq_true rfl)).mp (ax_gx hE (50, [3, 7]) ax_m0)
  have F79 : pz7 (pz_gt (ρ 0)) (pz_gN (ρ 0)) ((ρ 1) / 4) 9 := (ax_XF_lt (x := 79) (Nat.le_of_ble_eq_true rfl)).mp (ax_gx hE (79, [3, 7]) ax_m1)
  have F42 : py_42 (pz_gt (ρ 0)) (pz_gN (ρ 0)) ((ρ 1) / 4) (ρ 2) (ρ 3) (4004) := (ax_XF_lt (x := 42) (Nat.le_of_ble_eq_true rfl)).mp (ax_gx hE (42, [3, 7, 11, 15, 4004]) ax_m2)
  refine ⟨(fun y hy => by cases hy), _, List.mem_cons_self, ρ, fun _ _ => rfl, ax_px hE rfl (fun y hy => ?_)⟩
  cases List.mem_singleton.mp hy
  refine (ax_XF_lt (x := 40) (Nat.le_of_ble_eq_true rfl)).mpr ?_
  show py_40 (ρ 3)
  exact pr_l42 F79 (by decide) F42

theorem axq_su4_3 : ax_RO ax_wC ax_XC axu_su4_3 := by
  intro ρ hp hE hT
  have j0 : ρ 0 % 4 = 1 := pz_gj hE 0 (Nat.le_of_ble_eq_true rfl) rfl
  have j1 : ρ 1 % 4 = 1 := pz_gj hE 1 (Nat.le_of_ble_eq_true rfl) rfl
  have j2 : ρ 2 % 4 = 1 := pz_gj hE 2 (Nat.le_of_ble_eq_true rfl) rfl
  have j3 : ρ 3 % 4 = 1 := pz_gj hE 3 (Nat.le_of_ble_eq_true rfl) rfl
  have j4 : ρ 4 % 4 = 1 := pz_gj hE 4 (Nat.le_of_ble_eq_true rfl) rfl
  obtain ⟨-, -, -, -, F50⟩ : ay_ex hp 8 ∧ ay_ex hp 10 ∧ ay_ex hp 11 ∧ ay_ex hp 12 ∧ pz_x50 (ρ 0) (ρ 1) (ay_at hp 8 5) (ay_at hp 8 6) (ay_at hp 8 7) (ay_at hp 8 8) (ay_at hp 10 0) (ay_at hp 10 1) (ay_at hp 10 2) (ay_at hp 10 3) (ay_at hp 10 4) (ay_at hp 8 9) (ay_at hp 8 11) (ay_at hp 8 10) (ay_at hp 8 3) (ay_at hp 8 4) (ay_at hp 11) (ay_at hp 12) := (ax_XF_lt (x := 50) (Nat.le_of_ble_eq_true rfl)).mp (ax_gx hE (50, [3, 7]) ax_m0)
  have F98 : (ρ 2) / 4 = (ρ 1) / 4 + 1 := (ax_XF_lt (x := 98) (Nat.le_of_ble_eq_true rfl)).mp (ax_gx hE (98, [7, 11]) ax_m1)
  have F79 : pz7 (pz_gt (ρ 0)) (pz_gN (ρ 0)) ((ρ 2) / 4) 9 := (ax_XF_lt (x := 79) (Nat.le_of_ble_eq_true rfl)).mp (ax_gx hE (79, [3, 11]) ax_m2)
  have F78 : pz7 (pz_gt (ρ 0)) (pz_gN (ρ 0)) ((ρ 1) / 4) 8 := (ax_XF_lt (x := 78) (Nat.le_of_ble_eq_true rfl)).mp (ax_gx hE (78, [3, 7]) ax_m3)
  have F107 : pz107 (pz_gt (ρ 0)) (pz_gN (ρ 0)) ((ρ 1) / 4) ((16) / 4) := (ax_XF_lt (x := 107) (Nat.le_of_ble_eq_true rfl)).mp (ax_gx hE (107, [3, 7, 16]) ax_m4)
  have F46 : py_46 (pz_gt (ρ 0)) (pz_gN (ρ 0)) ((ρ 1) / 4) (ρ 3) (ρ 4) := (ax_XF_lt (x := 46) (Nat.le_of_ble_eq_true rfl)).mp (ax_gx hE (46, [3, 7, 15, 19]) ax_m5)
  refine ⟨(fun y hy => by cases hy), _, List.mem_cons_self, ρ, fun _ _ => rfl, ax_px hE rfl (fun y hy => ?_)⟩
  cases List.mem_singleton.mp hy
  refine (ax_XF_lt (x := 42) (Nat.le_of_ble_eq_true rfl)).mpr ?_
  show py_42 (pz_gt (ρ 0)) (pz_gN (ρ 0)) ((ρ 2) / 4) (ρ 3) (ρ 4) (4008)
  have kd := (pr_w (by decide) F107).1
  rw [F98] at F79 ⊢
  exact pr_su F78 (by rw [kd]; decide) (by rw [kd]; decide) F79 (by decide) F46 (by rw [pr_unw (by decide) F107]) (by decide)

theorem axq_sv4_3 : ax_RO ax_wC ax_XC axu_sv4_3 := by
  intro ρ hp hE hT
  have j0 : ρ 0 % 4 = 1 := pz_gj hE 0 (Nat.le_of_ble_eq_true rfl) rfl
  have j1 : ρ 1 % 4 = 1 := pz_gj hE 1 (Nat.le_of_ble_eq_true rfl) rfl
  have j2 : ρ 2 % 4 = 1 := pz_gj hE 2 (Nat.le_of_ble_eq_true rfl) rfl
  have j3 : ρ 3 % 4 = 1 := pz_gj hE 3 (Nat.le_of_ble_eq_true rfl) rfl
  have j4 : ρ 4 % 4 = 1 := pz_gj hE 4 (Nat.le_of_ble_eq_true rfl) rfl
  obtain ⟨-, -, -, -, F50⟩ : ay_ex hp 8 ∧ ay_ex hp 10 ∧ ay_ex hp 11 ∧ ay_ex hp 12 ∧ pz_x50 (ρ 0) (ρ 1) (ay_at hp 8 5) (ay_at hp 8 6) (ay_at hp 8 7) (ay_at hp 8 8) (ay_at hp 10 0) (ay_at hp 10 1) (ay_at hp 10 2) (ay_at hp 10 3) (ay_at hp 10 4) (ay_at hp 8 9) (ay_at hp 8 11) (ay_at hp 8 10) (ay_at hp 8 3) (ay_at hp 8 4) (ay_at hp 11) (ay_at hp 12) := (ax_XF_lt (x := 50) (Nat.le_of_ble_eq_true rfl)).mp (ax_gx hE (50, [3, 7]) ax_m0)
  have F42 : py_42 (pz_gt (ρ 0)) (pz_gN (ρ 0)) ((ρ 1) / 4) (ρ 2) (ρ 3) (4008) := (ax_XF_lt (x := 42) (Nat.le_of_ble_eq_true rfl)).mp (ax_gx hE (42, [3, 7, 11, 15, 4008]) ax_m1)
  obtain ⟨-, -, -, F41⟩ : ay_ex hp 10 ∧ ay_ex hp 15 ∧ ay_ex hp 16 ∧ py_x41 (ρ 4) (ay_at hp 10 5) (ay_at hp 15) (ay_at hp 16) := (ax_XF_lt (x := 41) (Nat.le_of_ble_eq_true rfl)).mp (ax_gx hE (41, [19]) ax_m2)
  have F99 : py_99 (ρ 4) (4008) (ρ 3) := (ax_XF_lt (x := 99) (Nat.le_of_ble_eq_true rfl)).mp (ax_gx hE (99, [19, 4008, 15]) ax_m3)
  refine ⟨(fun y hy => by cases hy), _, List.mem_cons_self, ρ, fun _ _ => rfl, ax_px hE rfl (fun y hy => ?_)⟩
  cases List.mem_singleton.mp hy
  refine (ax_XF_lt (x := 47) (Nat.le_of_ble_eq_true rfl)).mpr ?_
  show py_47 (pz_gt (ρ 0)) (pz_gN (ρ 0)) ((ρ 1) / 4) (ρ 2) (ρ 4)
  exact pr_sv F42 F99

theorem axq_sl4_3 : ax_RO ax_wC ax_XC axu_sl4_3 := by
  intro ρ hp hE hT
  have j0 : ρ 0 % 4 = 1 := pz_gj hE 0 (Nat.le_of_ble_eq_true rfl) rfl
  have j1 : ρ 1 % 4 = 1 := pz_gj hE 1 (Nat.le_of_ble_eq_true rfl) rfl
  have j2 : ρ 2 % 4 = 1 := pz_gj hE 2 (Nat.le_of_ble_eq_true rfl) rfl
  have j3 : ρ 3 % 4 = 1 := pz_gj hE 3 (Nat.le_of_ble_eq_true rfl) rfl
  obtain ⟨-, -, -, -, F50⟩ : ay_ex hp 8 ∧ ay_ex hp 10 ∧ ay_ex hp 11 ∧ ay_ex hp 12 ∧ pz_x50 (ρ 0) (ρ 1) (ay_at hp 8 5) (ay_at hp 8 6) (ay_at hp 8 7) (ay_at hp 8 8) (ay_at hp 10 0) (ay_at hp 10 1) (ay_at hp 10 2) (ay_at hp 10 3) (ay_at hp 10 4) (ay_at hp 8 9) (ay_at hp 8 11) (ay_at hp 8 10) (ay_at hp 8 3) (ay_at hp 8 4) (ay_at hp 11) (ay_at hp 12) := (ax_XF_lt (x := 50) (Nat.le_of_ble_eq_true rfl)).mp (ax_gx hE (50, [3, 7]) ax_m0)
  have F79 : pz7 (pz_gt (ρ 0)) (pz_gN (ρ 0)) ((ρ 1) / 4) 9 := (ax_XF_lt (x := 79) (Nat.le_of_ble_eq_true rfl)).mp (ax_gx hE (79, [3, 7]) ax_m1)
  have F42 : py_42 (pz_gt (ρ 0)) (pz_gN (ρ 0)) ((ρ 1) / 4) (ρ 2) (ρ 3) (4008) := (ax_XF_lt (x := 42) (Nat.le_of_ble_eq_true rfl)).mp (ax_gx hE (42, [3, 7, 11, 15, 4008]) ax_m2)
  refine ⟨(fun y hy => by cases hy), _, List.mem_cons_self, ρ, fun _ _ => rfl, ax_px hE rfl (fun y hy => ?_)⟩
  cases List.mem_singleton.mp hy
  refine (ax_XF_lt (x := 40) (Nat.le_of_ble_eq_true rfl)).mpr ?_
  show py_40 (ρ 3)
  exact pr_l42 F79 (by decide) F42

theorem axq_su40_3 : ax_RO ax_wC ax_XC axu_su40_3 := by
  intro ρ hp hE hT
  have j0 : ρ 0 % 4 = 1 := pz_gj hE 0 (Nat.le_of_ble_eq_true rfl) rfl
  have j1 : ρ 1 % 4 = 1 := pz_gj hE 1 (Nat.le_of_ble_eq_true rfl) rfl
  have j2 : ρ 2 % 4 = 1 := pz_gj hE 2 (Nat.le_of_ble_eq_true rfl) rfl
  have j3 : ρ 3 % 4 = 1 := pz_gj hE 3 (Nat.le_of_ble_eq_true rfl) rfl
  have j4 : ρ 4 % 4 = 1 := pz_gj hE 4 (Nat.le_of_ble_eq_true rfl) rfl
  obtain ⟨-, -, -, -, F50⟩ : ay_ex hp 8 ∧ ay_ex hp 10 ∧ ay_ex hp 11 ∧ ay_ex hp 12 ∧ pz_x50 (ρ 0) (ρ 1) (ay_at hp 8 5) (ay_at hp 8 6) (ay_at hp 8 7) (ay_at hp 8 8) (ay_at hp 10 0) (ay_at hp 10 1) (ay_at hp 10 2) (ay_at hp 10 3) (ay_at hp 10 4) (ay_at hp 8 9) (ay_at hp 8 11) (ay_at hp 8 10) (ay_at hp 8 3) (ay_at hp 8 4) (ay_at hp 11) (ay_at hp 12) := (ax_XF_lt (x := 50) (Nat.le_of_ble_eq_true rfl)).mp (ax_gx hE (50, [3, 7]) ax_m0)
  have F98 : (ρ 2) / 4 = (ρ 1) / 4 + 1 := (ax_XF_lt (x := 98) (Nat.le_of_ble_eq_true rfl)).mp (ax_gx hE (98, [7, 11]) ax_m1)
  have F78 : pz7 (pz_gt (ρ 0)) (pz_gN (ρ 0)) ((ρ 2) / 4) 8 := (ax_XF_lt (x := 78) (Nat.le_of_ble_eq_true rfl)).mp (ax_gx hE (78, [3, 11]) ax_m2)
  have F78a : pz7 (pz_gt (ρ 0)) (pz_gN (ρ 0)) ((ρ 1) / 4) 8 := (ax_XF_lt (x := 78) (Nat.le_of_ble_eq_true rfl)).mp (ax_gx hE (78, [3, 7]) ax_m3)
  have F107 : pz107 (pz_gt (ρ 0)) (pz_gN (ρ 0)) ((ρ 1) / 4) ((160) / 4) := (ax_XF_lt (x := 107) (Nat.le_of_ble_eq_true rfl)).mp (ax_gx hE (107, [3, 7, 160]) ax_m4)
  have F46 : py_46 (pz_gt (ρ 0)) (pz_gN (ρ 0)) ((ρ 1) / 4) (ρ 3) (ρ 4) := (ax_XF_lt (x := 46) (Nat.le_of_ble_eq_true rfl)).mp (ax_gx hE (46, [3, 7, 15, 19]) ax_m5)
  rw [F98] at F78
  obtain ⟨ρ', h1, h2⟩ := pz_pn1 (K := ρ 3 / 4 * 4096 + 1009) (xf := [(46, [3, 11, 23, 19]), (99, [23, 4036, 15]), (45, [23])]) hE (by decide) (fun ρ' h1 h2 x hx => by
    have q0 : ρ' 0 = ρ 0 := h1 0 (by decide)
    have q1 : ρ' 1 = ρ 1 := h1 1 (by decide)
    have q2 : ρ' 2 = ρ 2 := h1 2 (by decide)
    have q3 : ρ' 3 = ρ 3 := h1 3 (by decide)
    have q4 : ρ' 4 = ρ 4 := h1 4 (by decide)
    rcases List.mem_cons.mp hx with e | hx
    · subst e
      refine (ax_XF_lt (x := 46) (Nat.le_of_ble_eq_true rfl)).mpr ?_
      show py_46 (pz_gt (ρ' 0)) (pz_gN (ρ' 0)) ((ρ' 2) / 4) (ρ' 5) (ρ' 4)
      rw [q0, q2, q4, h2]
      rw [F98]
      exact pr_suO F78a (pr_k40 F107) F78 (by decide) F46 ⟨pz_41 _, F46.2.1, by decide⟩
    rcases List.mem_cons.mp hx with e | hx
    · subst e
      refine (ax_XF_lt (x := 99) (Nat.le_of_ble_eq_true rfl)).mpr ?_
      show py_99 (ρ' 5) (4036) (ρ' 3)
      rw [q3, h2]
      exact ⟨pz_41 _, F46.2.1, by decide⟩
    cases List.mem_singleton.mp hx
    refine (ax_XF_lt (x := 45) (Nat.le_of_ble_eq_true rfl)).mpr ?_
    show py_44 1 (ρ' 5)
    rw [h2]
    exact pr_44 (c := 4036) (s := ρ 3) ⟨pz_41 _, F46.2.1, by decide⟩ (by decide) (by decide))
  exact ⟨(fun y hy => by cases hy), _, List.mem_cons_self, ρ', h1, h2⟩

theorem axq_su5_3 : ax_RO ax_wC ax_XC axu_su5_3 := by
  intro ρ hp hE hT
  have j0 : ρ 0 % 4 = 1 := pz_gj hE 0 (Nat.le_of_ble_eq_true rfl) rfl
  have j1 : ρ 1 % 4 = 1 := pz_gj hE 1 (Nat.le_of_ble_eq_true rfl) rfl
  have j2 : ρ 2 % 4 = 1 := pz_gj hE 2 (Nat.le_of_ble_eq_true rfl) rfl
  have j3 : ρ 3 % 4 = 1 := pz_gj hE 3 (Nat.le_of_ble_eq_true rfl) rfl
  have j4 : ρ 4 % 4 = 1 := pz_gj hE 4 (Nat.le_of_ble_eq_true rfl) rfl
  obtain ⟨-, -, -, -, F50⟩ : ay_ex hp 8 ∧ ay_ex hp 10 ∧ ay_ex hp 11 ∧ ay_ex hp 12 ∧ pz_x50 (ρ 0) (ρ 1) (ay_at hp 8 5) (ay_at hp 8 6) (ay_at hp 8 7) (ay_at hp 8 8) (ay_at hp 10 0) (ay_at hp 10 1) (ay_at hp 10 2) (ay_at hp 10 3) (ay_at hp 10 4) (ay_at hp 8 9) (ay_at hp 8 11) (ay_at hp 8 10) (ay_at hp 8 3) (ay_at hp 8 4) (ay_at hp 11) (ay_at hp 12) := (ax_XF_lt (x := 50) (Nat.le_of_ble_eq_true rfl)).mp (ax_gx hE (50, [3, 7]) ax_m0)
  have F98 : (ρ 2) / 4 = (ρ 1) / 4 + 1 := (ax_XF_lt (x := 98) (Nat.le_of_ble_eq_true rfl)).mp (ax_gx hE (98, [7, 11]) ax_m1)
  have F78 : pz7 (pz_gt (ρ 0)) (pz_gN (ρ 0)) ((ρ 2) / 4) 8 := (ax_XF_lt (x := 78) (Nat.le_of_ble_eq_true rfl)).mp (ax_gx hE (78, [3, 11]) ax_m2)
  have F78a : pz7 (pz_gt (ρ 0)) (pz_gN (ρ 0)) ((ρ 1) / 4) 8 := (ax_XF_lt (x := 78) (Nat.le_of_ble_eq_true rfl)).mp (ax_gx hE (78, [3, 7]) ax_m3)
  have F107 : pz107 (pz_gt (ρ 0)) (pz_gN (ρ 0)) ((ρ 1) / 4) ((20) / 4) := (ax_XF_lt (x := 107) (Nat.le_of_ble_eq_true rfl)).mp (ax_gx hE (107, [3, 7, 20]) ax_m4)
  have F46 : py_46 (pz_gt (ρ 0)) (pz_gN (ρ 0)) ((ρ 1) / 4) (ρ 3) (ρ 4) := (ax_XF_lt (x := 46) (Nat.le_of_ble_eq_true rfl)).mp (ax_gx hE (46, [3, 7, 15, 19]) ax_m5)
  rw [F98] at F78
  obtain ⟨ρ', h1, h2⟩ := pz_pn1 (K := ρ 3 / 4 * 4096 + 1008) (xf := [(46, [3, 11, 23, 19]), (99, [23, 4032, 15])]) hE (by decide) (fun ρ' h1 h2 x hx => by
    have q0 : ρ' 0 = ρ 0 := h1 0 (by decide)
    have q1 : ρ' 1 = ρ 1 := h1 1 (by decide)
    have q2 : ρ' 2 = ρ 2 := h1 2 (by decide)
    have q3 : ρ' 3 = ρ 3 := h1 3 (by decide)
    have q4 : ρ' 4 = ρ 4 := h1 4 (by decide)
    rcases List.mem_cons.mp hx with e | hx
    · subst e
      refine (ax_XF_lt (x := 46) (Nat.le_of_ble_eq_true rfl)).mpr ?_
      show py_46 (pz_gt (ρ' 0)) (pz_gN (ρ' 0)) ((ρ' 2) / 4) (ρ' 5) (ρ' 4)
      rw [q0, q2, q4, h2]
      rw [F98]
      exact pr_suM F78a (pr_k5 F107) F78 (by decide) F46 ⟨pz_41 _, F46.2.1, by decide⟩
    cases List.mem_singleton.mp hx
    refine (ax_XF_lt (x := 99) (Nat.le_of_ble_eq_true rfl)).mpr ?_
    show py_99 (ρ' 5) (4032) (ρ' 3)
    rw [q3, h2]
    exact ⟨pz_41 _, F46.2.1, by decide⟩)
  exact ⟨(fun y hy => by cases hy), _, List.mem_cons_self, ρ', h1, h2⟩

theorem axq_sl5_3 : ax_RO ax_wC ax_XC axu_sl5_3 := by
  intro ρ hp hE hT
  have j0 : ρ 0 % 4 = 1 := pz_gj hE 0 (Nat.le_of_ble_eq_true rfl) rfl
  have j1 : ρ 1 % 4 = 1 := pz_gj hE 1 (Nat.le_of_ble_eq_true rfl) rfl
  have j2 : ρ 2 % 4 = 1 := pz_gj hE 2 (Nat.le_of_ble_eq_true rfl) rfl
  have j3 : ρ 3 % 4 = 1 := pz_gj hE 3 (Nat.le_of_ble_eq_true rfl) rfl
  obtain ⟨-, -, -, -, F50⟩ : ay_ex hp 8 ∧ ay_ex hp 10 ∧ ay_ex hp 11 ∧ ay_ex hp 12 ∧ pz_x50 (ρ 0) (ρ 1) (ay_at hp 8 5) (ay_at hp 8 6) (ay_at hp 8 7) (ay_at hp 8 8) (ay_at hp 10 0) (ay_at hp 10 1) (ay_at hp 10 2) (ay_at hp 10 3) (ay_at hp 10 4) (ay_at hp 8 9) (ay_at hp 8 11) (ay_at hp 8 10) (ay_at hp 8 3) (ay_at hp 8 4) (ay_at hp 11) (ay_at hp 12) := (ax_XF_lt (x := 50) (Nat.le_of_ble_eq_true rfl)).mp (ax_gx hE (50, [3, 7]) ax_m0)
  have F79 : pz7 (pz_gt (ρ 0)) (pz_gN (ρ 0)) ((ρ 1) / 4) 9 := (ax_XF_lt (x := 79) (Nat.le_of_ble_eq_true rfl)).mp (ax_gx hE (79, [3, 7]) ax_m1)
  have F47 : py_47 (pz_gt (ρ 0)) (pz_gN (ρ 0)) ((ρ 1) / 4) (ρ 2) (ρ 3) := (ax_XF_lt (x := 47) (Nat.le_of_ble_eq_true rfl)).mp (ax_gx hE (47, [3, 7, 11, 15]) ax_m2)
  refine ⟨(fun y hy => by cases hy), _, List.mem_cons_self, ρ, fun _ _ => rfl, ax_px hE rfl (fun y hy => ?_)⟩
  cases List.mem_singleton.mp hy
  refine (ax_XF_lt (x := 40) (Nat.le_of_ble_eq_true rfl)).mpr ?_
  show py_40 (ρ 3)
  exact pr_l47 F79 (by decide) F47

theorem axq_sv5_3 : ax_RO ax_wC ax_XC axu_sv5_3 := by
  intro ρ hp hE hT
  have j0 : ρ 0 % 4 = 1 := pz_gj hE 0 (Nat.le_of_ble_eq_true rfl) rfl
  have j1 : ρ 1 % 4 = 1 := pz_gj hE 1 (Nat.le_of_ble_eq_true rfl) rfl
  have j2 : ρ 2 % 4 = 1 := pz_gj hE 2 (Nat.le_of_ble_eq_true rfl) rfl
  have j3 : ρ 3 % 4 = 1 := pz_gj hE 3 (Nat.le_of_ble_eq_true rfl) rfl
  have j4 : ρ 4 % 4 = 1 := pz_gj hE 4 (Nat.le_of_ble_eq_true rfl) rfl
  have j5 : ρ 5 % 4 = 1 := pz_gj hE 5 (Nat.le_of_ble_eq_true rfl) rfl
  obtain ⟨-, -, -, -, F50⟩ : ay_ex hp 8 ∧ ay_ex hp 10 ∧ ay_ex hp 11 ∧ ay_ex hp 12 ∧ pz_x50 (ρ 0) (ρ 1) (ay_at hp 8 5) (ay_at hp 8 6) (ay_at hp 8 7) (ay_at hp 8 8) (ay_at hp 10 0) (ay_at hp 10 1) (ay_at hp 10 2) (ay_at hp 10 3) (ay_at hp 10 4) (ay_at hp 8 9) (ay_at hp 8 11) (ay_at hp 8 10) (ay_at hp 8 3) (ay_at hp 8 4) (ay_at hp 11) (ay_at hp 12) := (ax_XF_lt (x := 50) (Nat.le_of_ble_eq_true rfl)).mp (ax_gx hE (50, [3, 7]) ax_m0)
  have F47 : py_47 (pz_gt (ρ 0)) (pz_gN (ρ 0)) ((ρ 1) / 4) (ρ 3) (ρ 4) := (ax_XF_lt (x := 47) (Nat.le_of_ble_eq_true rfl)).mp (ax_gx hE (47, [3, 7, 15, 19]) ax_m1)
  have F99 : py_99 (ρ 3) (4032) (ρ 2) := (ax_XF_lt (x := 99) (Nat.le_of_ble_eq_true rfl)).mp (ax_gx hE (99, [15, 4032, 11]) ax_m2)
  obtain ⟨-, -, -, F41⟩ : ay_ex hp 10 ∧ ay_ex hp 15 ∧ ay_ex hp 16 ∧ py_x41 (ρ 5) (ay_at hp 10 5) (ay_at hp 15) (ay_at hp 16) := (ax_XF_lt (x := 41) (Nat.le_of_ble_eq_true rfl)).mp (ax_gx hE (41, [23]) ax_m3)
  have F99a : py_99 (ρ 5) (4032) (ρ 4) := (ax_XF_lt (x := 99) (Nat.le_of_ble_eq_true rfl)).mp (ax_gx hE (99, [23, 4032, 19]) ax_m4)
  refine ⟨(fun y hy => by cases hy), _, List.mem_cons_self, ρ, fun _ _ => rfl, ax_px hE rfl (fun y hy => ?_)⟩
  cases List.mem_singleton.mp hy
  refine (ax_XF_lt (x := 47) (Nat.le_of_ble_eq_true rfl)).mpr ?_
  show py_47 (pz_gt (ρ 0)) (pz_gN (ρ 0)) ((ρ 1) / 4) (ρ 2) (ρ 5)
  exact pr_sv5 F47 F99 F99a

theorem axq_su1_4 : ax_RO ax_wC ax_XC axu_su1_4 := by
  intro ρ hp hE hT
  have j0 : ρ 0 % 4 = 1 := pz_gj hE 0 (Nat.le_of_ble_eq_true rfl) rfl
  have j1 : ρ 1 % 4 = 1 := pz_gj hE 1 (Nat.le_of_ble_eq_true rfl) rfl
  have j2 : ρ 2 % 4 = 1 := pz_gj hE 2 (Nat.le_of_ble_eq_true rfl) rfl
  have j3 : ρ 3 % 4 = 1 := pz_gj hE 3 (Nat.le_of_ble_eq_true rfl) rfl
  have j4 : ρ 4 % 4 = 1 := pz_gj hE 4 (Nat.le_of_ble_eq_true rfl) rfl
  obtain ⟨i5a, i5b, i5c, i5d⟩ := pz_gi hE 5 2147483648 2147484647 (Nat.le_of_ble_eq_true rfl) rfl
  have c_value : ay_at hp 8 8 = some (ρ 5) := ay_gfj hE 42 32 23 8 8 ax_m6 (ax_vlq rfl rfl) (ax_vlj rfl rfl)
  obtain ⟨-, -, -, -, F50⟩ : ay_ex hp 8 ∧ ay_ex hp 10 ∧ ay_ex hp 11 ∧ ay_ex hp 12 ∧ pz_x50 (ρ 0) (ρ 1) (ay_at hp 8 5) (ay_at hp 8 6) (ay_at hp 8 7) (ay_at hp 8 8) (ay_at hp 10 0) (ay_at hp 10 1) (ay_at hp 10 2) (ay_at hp 10 3) (ay_at hp 10 4) (ay_at hp 8 9) (ay_at hp 8 11) (ay_at hp 8 10) (ay_at hp 8 3) (ay_at hp 8 4) (ay_at hp 11) (ay_at hp 12) := (ax_XF_lt (x := 50) (Nat.le_of_ble_eq_true rfl)).mp (ax_gx hE (50, [3, 7]) ax_m0)
  rw [c_value] at F50
  have F98 : (ρ 2) / 4 = (ρ 1) / 4 + 1 := (ax_XF_lt (x := 98) (Nat.le_of_ble_eq_true rfl)).mp (ax_gx hE (98, [7, 11]) ax_m1)
  have F79 : pz7 (pz_gt (ρ 0)) (pz_gN (ρ 0)) ((ρ 2) / 4) 9 := (ax_XF_lt (x := 79) (Nat.le_of_ble_eq_true rfl)).mp (ax_gx hE (79, [3, 11]) ax_m2)
  have F78 : pz7 (pz_gt (ρ 0)) (pz_gN (ρ 0)) ((ρ 1) / 4) 8 := (ax_XF_lt (x := 78) (Nat.le_of_ble_eq_true rfl)).mp (ax_gx hE (78, [3, 7]) ax_m3)
  have F107 : pz107 (pz_gt (ρ 0)) (pz_gN (ρ 0)) ((ρ 1) / 4) ((4) / 4) := (ax_XF_lt (x := 107) (Nat.le_of_ble_eq_true rfl)).mp (ax_gx hE (107, [3, 7, 4]) ax_m4)
  have F46 : py_46 (pz_gt (ρ 0)) (pz_gN (ρ 0)) ((ρ 1) / 4) (ρ 3) (ρ 4) := (ax_XF_lt (x := 46) (Nat.le_of_ble_eq_true rfl)).mp (ax_gx hE (46, [3, 7, 15, 19]) ax_m5)
  refine ⟨(fun y hy => by cases hy), _, List.mem_cons_self, ρ, fun _ _ => rfl, ax_px hE rfl (fun y hy => ?_)⟩
  cases List.mem_singleton.mp hy
  refine (ax_XF_lt (x := 42) (Nat.le_of_ble_eq_true rfl)).mpr ?_
  show py_42 (pz_gt (ρ 0)) (pz_gN (ρ 0)) ((ρ 2) / 4) (ρ 3) (ρ 4) (ρ 5)
  have kd := pr_k1 F107
  have vl := pz_mc (F50.2.2.2.1 (F50.2.2.1.trans kd))
  replace vl : (ρ 5 / 4 ≤ 1000 ∧ pz_vl (pz_gt (ρ 0)) (pz_gN (ρ 0)) (pz_p (pz_cf (pz_gt (ρ 0)) (pz_gN (ρ 0)) (ρ 1 / 4))) = ρ 5 / 4) ∨ (1000 < ρ 5 / 4 ∧ pz_vl (pz_gt (ρ 0)) (pz_gN (ρ 0)) (pz_p (pz_cf (pz_gt (ρ 0)) (pz_gN (ρ 0)) (ρ 1 / 4))) = 1000) := vl
  rw [F98] at F79 ⊢
  exact pr_su F78 (by rw [kd]; decide) (by rw [kd]; decide) F79 (by decide) F46 (by rw [pr_un1 F107]; omega) (by omega)

theorem axq_sv1_4 : ax_RO ax_wC ax_XC axu_sv1_4 := by
  intro ρ hp hE hT
  have j0 : ρ 0 % 4 = 1 := pz_gj hE 0 (Nat.le_of_ble_eq_true rfl) rfl
  have j1 : ρ 1 % 4 = 1 := pz_gj hE 1 (Nat.le_of_ble_eq_true rfl) rfl
  have j2 : ρ 2 % 4 = 1 := pz_gj hE 2 (Nat.le_of_ble_eq_true rfl) rfl
  have j3 : ρ 3 % 4 = 1 := pz_gj hE 3 (Nat.le_of_ble_eq_true rfl) rfl
  have j4 : ρ 4 % 4 = 1 := pz_gj hE 4 (Nat.le_of_ble_eq_true rfl) rfl
  obtain ⟨i5a, i5b, i5c, i5d⟩ := pz_gi hE 5 2147483648 2147484647 (Nat.le_of_ble_eq_true rfl) rfl
  obtain ⟨-, -, -, -, F50⟩ : ay_ex hp 8 ∧ ay_ex hp 10 ∧ ay_ex hp 11 ∧ ay_ex hp 12 ∧ pz_x50 (ρ 0) (ρ 1) (ay_at hp 8 5) (ay_at hp 8 6) (ay_at hp 8 7) (ay_at hp 8 8) (ay_at hp 10 0) (ay_at hp 10 1) (ay_at hp 10 2) (ay_at hp 10 3) (ay_at hp 10 4) (ay_at hp 8 9) (ay_at hp 8 11) (ay_at hp 8 10) (ay_at hp 8 3) (ay_at hp 8 4) (ay_at hp 11) (ay_at hp 12) := (ax_XF_lt (x := 50) (Nat.le_of_ble_eq_true rfl)).mp (ax_gx hE (50, [3, 7]) ax_m0)
  have F42 : py_42 (pz_gt (ρ 0)) (pz_gN (ρ 0)) ((ρ 1) / 4) (ρ 2) (ρ 3) (ρ 5) := (ax_XF_lt (x := 42) (Nat.le_of_ble_eq_true rfl)).mp (ax_gx hE (42, [3, 7, 11, 15, 23]) ax_m1)
  obtain ⟨-, -, -, F41⟩ : ay_ex hp 10 ∧ ay_ex hp 15 ∧ ay_ex hp 16 ∧ py_x41 (ρ 4) (ay_at hp 10 5) (ay_at hp 15) (ay_at hp 16) := (ax_XF_lt (x := 41) (Nat.le_of_ble_eq_true rfl)).mp (ax_gx hE (41, [19]) ax_m2)
  have F99 : py_99 (ρ 4) (ρ 5) (ρ 3) := (ax_XF_lt (x := 99) (Nat.le_of_ble_eq_true rfl)).mp (ax_gx hE (99, [19, 23, 15]) ax_m3)
  refine ⟨(fun y hy => by cases hy), _, List.mem_cons_self, ρ, fun _ _ => rfl, ax_px hE rfl (fun y hy => ?_)⟩
  cases List.mem_singleton.mp hy
  refine (ax_XF_lt (x := 47) (Nat.le_of_ble_eq_true rfl)).mpr ?_
  show py_47 (pz_gt (ρ 0)) (pz_gN (ρ 0)) ((ρ 1) / 4) (ρ 2) (ρ 4)
  exact pr_sv F42 F99

theorem axq_sl1_4 : ax_RO ax_wC ax_XC axu_sl1_4 := by
  intro ρ hp hE hT
  have j0 : ρ 0 % 4 = 1 := pz_gj hE 0 (Nat.le_of_ble_eq_true rfl) rfl
  have j1 : ρ 1 % 4 = 1 := pz_gj hE 1 (Nat.le_of_ble_eq_true rfl) rfl
  have j2 : ρ 2 % 4 = 1 := pz_gj hE 2 (Nat.le_of_ble_eq_true rfl) rfl
  have j3 : ρ 3 % 4 = 1 := pz_gj hE 3 (Nat.le_of_ble_eq_true rfl) rfl
  obtain ⟨i4a, i4b, i4c, i4d⟩ := pz_gi hE 4 2147483648 2147484647 (Nat.le_of_ble_eq_true rfl) rfl
  obtain ⟨-, -, -, -, F50⟩ : ay_ex hp 8 ∧ ay_ex hp 10 ∧ ay_ex hp 11 ∧ ay_ex hp 12 ∧ pz_x50 (ρ 0) (ρ 1) (ay_at hp 8 5) (ay_at hp 8 6) (ay_at hp 8 7) (ay_at hp 8 8) (ay_at hp 10 0) (ay_at hp 10 1) (ay_at hp 10 2) (ay_at hp 10 3) (ay_at hp 10 4) (ay_at hp 8 9) (ay_at hp 8 11) (ay_at hp 8 10) (ay_at hp 8 3) (ay_at hp 8 4) (ay_at hp 11) (ay_at hp 12) := (ax_XF_lt (x := 50) (Nat.le_of_ble_eq_true rfl)).mp (ax_gx hE (50, [3, 7]) ax_m0)
  have F79 : pz7 (pz_gt (ρ 0)) (pz_gN (ρ 0)) ((ρ 1) / 4) 9 := (ax_XF_lt (x := 79) (Nat.le_of_ble_eq_true rfl)).mp (ax_gx hE (79, [3, 7]) ax_m1)
  have F42 : py_42 (pz_gt (ρ 0)) (pz_gN (ρ 0)) ((ρ 1) / 4) (ρ 2) (ρ 3) (ρ 4) := (ax_XF_lt (x := 42) (Nat.le_of_ble_eq_true rfl)).mp (ax_gx hE (42, [3, 7, 11, 15, 19]) ax_m2)
  refine ⟨(fun y hy => by cases hy), _, List.mem_cons_self, ρ, fun _ _ => rfl, ax_px hE rfl (fun y hy => ?_)⟩
  cases List.mem_singleton.mp hy
  refine (ax_XF_lt (x := 40) (Nat.le_of_ble_eq_true rfl)).mpr ?_
  show py_40 (ρ 3)
  exact pr_l42 F79 (by decide) F42
end
