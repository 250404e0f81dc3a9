section
theorem axq_ru3_5 : ax_RO ax_wC ax_XC axu_ru3_5 := by
  intro ρ hp hE hT
  have j0 : ρ 0 % 4 = 1 := pz_gj hE 0 (Nat.le_of_ble_eq_true rfl) rfl
  have j1 : ρ 1 % 4 = 1 := pz_gj hE 1 (Nat.le_of_ble_eq_true rfl) rfl
  obtain ⟨i2a, i2b, i2c, i2d⟩ := pz_gi hE 2 2147483648 2147484647 (Nat.le_of_ble_eq_true rfl) rfl
  have c_value : ay_at hp 8 8 = some (ρ 2) := ay_gfj hE 42 32 11 8 8 ax_m2 (ax_vlq rfl rfl) (ax_vlj rfl rfl)
  obtain ⟨-, -, -, -, F50⟩ : ay_ex hp 8 ∧ ay_ex hp 10 ∧ ay_ex hp 11 ∧ ay_ex hp 12 ∧ pz_x50 (ρ 0) (ρ 1) (ay_at hp 8 5) (ay_at hp 8 6) (ay_at hp 8 7) (ay_at hp 8 8) (ay_at hp 10 0) (ay_at hp 10 1) (ay_at hp 10 2) (ay_at hp 10 3) (ay_at hp 10 4) (ay_at hp 8 9) (ay_at hp 8 11) (ay_at hp 8 10) (ay_at hp 8 3) (ay_at hp 8 4) (ay_at hp 11) (ay_at hp 12) := (ax_XF_lt (x := 50) (Nat.le_of_ble_eq_true rfl)).mp (ax_gx hE (50, [3, 7]) ax_m0)
  rw [c_value] at F50
  have F106 : pz106 (pz_gt (ρ 0)) (pz_gN (ρ 0)) ((ρ 1) / 4) ((4) / 4) := (ax_XF_lt (x := 106) (Nat.le_of_ble_eq_true rfl)).mp (ax_gx hE (106, [3, 7, 4]) ax_m1)
  refine ⟨(fun y hy => by cases hy), _, List.mem_cons_self, ρ, fun _ _ => rfl, ax_px hE rfl (fun y hy => ?_)⟩
  cases List.mem_singleton.mp hy
  refine (ax_XF_lt (x := 107) (Nat.le_of_ble_eq_true rfl)).mpr ?_
  show pz107 (pz_gt (ρ 0)) (pz_gN (ρ 0)) ((ρ 1) / 4) ((4) / 4)
  have k2 : pz_kd (pz_gt (ρ 0)) (pz_gN (ρ 0)) (pz_p (pz_cf (pz_gt (ρ 0)) (pz_gN (ρ 0)) (ρ 1 / 4))) = 2 := by
    rcases F106 with ⟨_, z⟩ | ⟨z, _⟩ | ⟨z, _⟩ | ⟨_, ⟨z, _⟩ | ⟨z, _⟩ | ⟨z, _⟩⟩ | ⟨z, _⟩
    · exact z
    all_goals (exfalso; revert z; decide)
  have kd := F50.2.2.1
  have vl := pz_mc (F50.2.2.2.1 (kd.trans k2))
  replace vl : (ρ 2 / 4 ≤ 1000 ∧ pz_vl (pz_gt (ρ 0)) (pz_gN (ρ 0)) (pz_p (pz_cf (pz_gt (ρ 0)) (pz_gN (ρ 0)) (ρ 1 / 4))) = ρ 2 / 4) ∨ (1000 < ρ 2 / 4 ∧ pz_vl (pz_gt (ρ 0)) (pz_gN (ρ 0)) (pz_p (pz_cf (pz_gt (ρ 0)) (pz_gN (ρ 0)) (ρ 1 / 4))) = 1000) := vl
  exact ⟨F106, by decide, fun _ => by omega⟩

theorem axq_ru3c2_5 : ax_RO ax_wC ax_XC axu_ru3c2_5 := by
  intro ρ hp hE hT
  have j0 : ρ 0 % 4 = 1 := pz_gj hE 0 (Nat.le_of_ble_eq_true rfl) rfl
  have j1 : ρ 1 % 4 = 1 := pz_gj hE 1 (Nat.le_of_ble_eq_true rfl) rfl
  obtain ⟨-, -, -, -, F50⟩ : ay_ex hp 8 ∧ ay_ex hp 10 ∧ ay_ex hp 11 ∧ ay_ex hp 12 ∧ pz_x50 (ρ 0) (ρ 1) (ay_at hp 8 5) (ay_at hp 8 6) (ay_at hp 8 7) (ay_at hp 8 8) (ay_at hp 10 0) (ay_at hp 10 1) (ay_at hp 10 2) (ay_at hp 10 3) (ay_at hp 10 4) (ay_at hp 8 9) (ay_at hp 8 11) (ay_at hp 8 10) (ay_at hp 8 3) (ay_at hp 8 4) (ay_at hp 11) (ay_at hp 12) := (ax_XF_lt (x := 50) (Nat.le_of_ble_eq_true rfl)).mp (ax_gx hE (50, [3, 7]) ax_m0)
  have F106 : pz106 (pz_gt (ρ 0)) (pz_gN (ρ 0)) ((ρ 1) / 4) ((8) / 4) := (ax_XF_lt (x := 106) (Nat.le_of_ble_eq_true rfl)).mp (ax_gx hE (106, [3, 7, 8]) ax_m1)
  refine ⟨(fun y hy => by cases hy), _, List.mem_cons_self, ρ, fun _ _ => rfl, ax_px hE rfl (fun y hy => ?_)⟩
  cases List.mem_singleton.mp hy
  refine (ax_XF_lt (x := 107) (Nat.le_of_ble_eq_true rfl)).mpr ?_
  show pz107 (pz_gt (ρ 0)) (pz_gN (ρ 0)) ((ρ 1) / 4) ((8) / 4)
  exact ⟨F106, by decide, fun z => absurd z (by decide)⟩

theorem axq_ru3c3_5 : ax_RO ax_wC ax_XC axu_ru3c3_5 := by
  intro ρ hp hE hT
  have j0 : ρ 0 % 4 = 1 := pz_gj hE 0 (Nat.le_of_ble_eq_true rfl) rfl
  have j1 : ρ 1 % 4 = 1 := pz_gj hE 1 (Nat.le_of_ble_eq_true rfl) rfl
  obtain ⟨-, -, -, -, F50⟩ : ay_ex hp 8 ∧ ay_ex hp 10 ∧ ay_ex hp 11 ∧ ay_ex hp 12 ∧ pz_x50 (ρ 0) (ρ 1) (ay_at hp 8 5) (ay_at hp 8 6) (ay_at hp 8 7) (ay_at hp 8 8) (ay_at hp 10 0) (ay_at hp 10 1) (ay_at hp 10 2) (ay_at hp 10 3) (ay_at hp 10 4) (ay_at hp 8 9) (ay_at hp 8 11) (ay_at hp 8 10) (ay_at hp 8 3) (ay_at hp 8 4) (ay_at hp 11) (ay_at hp 12) := (ax_XF_lt (x := 50) (Nat.le_of_ble_eq_true rfl)).mp (ax_gx hE (50, [3, 7]) ax_m0)
  have F106 : pz106 (pz_gt (ρ 0)) (pz_gN (ρ 0)) ((ρ 1) / 4) ((12) / 4) := (ax_XF_lt (x := 106) (Nat.le_of_ble_eq_true rfl)).mp (ax_gx hE (106, [3, 7, 12]) ax_m1)
  refine ⟨(fun y hy => by cases hy), _, List.mem_cons_self, ρ, fun _ _ => rfl, ax_px hE rfl (fun y hy => ?_)⟩
  cases List.mem_singleton.mp hy
  refine (ax_XF_lt (x := 107) (Nat.le_of_ble_eq_true rfl)).mpr ?_
  show pz107 (pz_gt (ρ 0)) (pz_gN (ρ 0)) ((ρ 1) / 4) ((12) / 4)
  exact ⟨F106, by decide, fun z => absurd z (by decide)⟩

theorem axq_ru3c4_5 : ax_RO ax_wC ax_XC axu_ru3c4_5 := by
  intro ρ hp hE hT
  have j0 : ρ 0 % 4 = 1 := pz_gj hE 0 (Nat.le_of_ble_eq_true rfl) rfl
  have j1 : ρ 1 % 4 = 1 := pz_gj hE 1 (Nat.le_of_ble_eq_true rfl) rfl
  obtain ⟨-, -, -, -, F50⟩ : ay_ex hp 8 ∧ ay_ex hp 10 ∧ ay_ex hp 11 ∧ ay_ex hp 12 ∧ pz_x50 (ρ 0) (ρ 1) (ay_at hp 8 5) (ay_at hp 8 6) (ay_at hp 8 7) (ay_at hp 8 8) (ay_at hp 10 0) (ay_at hp 10 1) (ay_at hp 10 2) (ay_at hp 10 3) (ay_at hp 10 4) (ay_at hp 8 9) (ay_at hp 8 11) (ay_at hp 8 10) (ay_at hp 8 3) (ay_at hp 8 4) (ay_at hp 11) (ay_at hp 12) := (ax_XF_lt (x := 50) (Nat.le_of_ble_eq_true rfl)).mp (ax_gx hE (50, [3, 7]) ax_m0)
  have F106 : pz106 (pz_gt (ρ 0)) (pz_gN (ρ 0)) ((ρ 1) / 4) ((16) / 4) := (ax_XF_lt (x := 106) (Nat.le_of_ble_eq_true rfl)).mp (ax_gx hE (106, [3, 7, 16]) ax_m1)
  refine ⟨(fun y hy => by cases hy), _, List.mem_cons_self, ρ, fun _ _ => rfl, ax_px hE rfl (fun y hy => ?_)⟩
  cases List.mem_singleton.mp hy
  refine (ax_XF_lt (x := 107) (Nat.le_of_ble_eq_true rfl)).mpr ?_
  show pz107 (pz_gt (ρ 0)) (pz_gN (ρ 0)) ((ρ 1) / 4) ((16) / 4)
  exact ⟨F106, by decide, fun z => absurd z (by decide)⟩

theorem axq_ru3c5_5 : ax_RO ax_wC ax_XC axu_ru3c5_5 := by
  intro ρ hp hE hT
  have j0 : ρ 0 % 4 = 1 := pz_gj hE 0 (Nat.le_of_ble_eq_true rfl) rfl
  have j1 : ρ 1 % 4 = 1 := pz_gj hE 1 (Nat.le_of_ble_eq_true rfl) rfl
  obtain ⟨-, -, -, -, F50⟩ : ay_ex hp 8 ∧ ay_ex hp 10 ∧ ay_ex hp 11 ∧ ay_ex hp 12 ∧ pz_x50 (ρ 0) (ρ 1) (ay_at hp 8 5) (ay_at hp 8 6) (ay_at hp 8 7) (ay_at hp 8 8) (ay_at hp 10 0) (ay_at hp 10 1) (ay_at hp 10 2) (ay_at hp 10 3) (ay_at hp 10 4) (ay_at hp 8 9) (ay_at hp 8 11) (ay_at hp 8 10) (ay_at hp 8 3) (ay_at hp 8 4) (ay_at hp 11) (ay_at hp 12) := (ax_XF_lt (x := 50) (Nat.le_of_ble_eq_true rfl)).mp (ax_gx hE (50, [3, 7]) ax_m0)
  have F106 : pz106 (pz_gt (ρ 0)) (pz_gN (ρ 0)) ((ρ 1) / 4) ((20) / 4) := (ax_XF_lt (x := 106) (Nat.le_of_ble_eq_true rfl)).mp (ax_gx hE (106, [3, 7, 20]) ax_m1)
  refine ⟨(fun y hy => by cases hy), _, List.mem_cons_self, ρ, fun _ _ => rfl, ax_px hE rfl (fun y hy => ?_)⟩
  cases List.mem_singleton.mp hy
  refine (ax_XF_lt (x := 107) (Nat.le_of_ble_eq_true rfl)).mpr ?_
  show pz107 (pz_gt (ρ 0)) (pz_gN (ρ 0)) ((ρ 1) / 4) ((20) / 4)
  exact ⟨F106, by decide, fun z => absurd z (by decide)⟩

theorem axq_ru3c40_5 : ax_RO ax_wC ax_XC axu_ru3c40_5 := by
  intro ρ hp hE hT
  have j0 : ρ 0 % 4 = 1 := pz_gj hE 0 (Nat.le_of_ble_eq_true rfl) rfl
  have j1 : ρ 1 % 4 = 1 := pz_gj hE 1 (Nat.le_of_ble_eq_true rfl) rfl
  obtain ⟨-, -, -, -, F50⟩ : ay_ex hp 8 ∧ ay_ex hp 10 ∧ ay_ex hp 11 ∧ ay_ex hp 12 ∧ pz_x50 (ρ 0) (ρ 1) (ay_at hp 8 5) (ay_at hp 8 6) (ay_at hp 8 7) (ay_at hp 8 8) (ay_at hp 10 0) (ay_at hp 10 1) (ay_at hp 10 2) (ay_at hp 10 3) (ay_at hp 10 4) (ay_at hp 8 9) (ay_at hp 8 11) (ay_at hp 8 10) (ay_at hp 8 3) (ay_at hp 8 4) (ay_at hp 11) (ay_at hp 12) := (ax_XF_lt (x := 50) (Nat.le_of_ble_eq_true rfl)).mp (ax_gx hE (50, [3, 7]) ax_m0)
  have F106 : pz106 (pz_gt (ρ 0)) (pz_gN (ρ 0)) ((ρ 1) / 4) ((160) / 4) := (ax_XF_lt (x := 106) (Nat.le_of_ble_eq_true rfl)).mp (ax_gx hE (106, [3, 7, 160]) ax_m1)
  refine ⟨(fun y hy => by cases hy), _, List.mem_cons_self, ρ, fun _ _ => rfl, ax_px hE rfl (fun y hy => ?_)⟩
  cases List.mem_singleton.mp hy
  refine (ax_XF_lt (x := 107) (Nat.le_of_ble_eq_true rfl)).mpr ?_
  show pz107 (pz_gt (ρ 0)) (pz_gN (ρ 0)) ((ρ 1) / 4) ((160) / 4)
  exact ⟨F106, by decide, fun z => absurd z (by decide)⟩

theorem axq_ru4c1_5 : ax_RO ax_wC ax_XC axu_ru4c1_5 := by
  intro ρ hp hE hT
  have j0 : ρ 0 % 4 = 1 := pz_gj hE 0 (Nat.le_of_ble_eq_true rfl) rfl
  have j1 : ρ 1 % 4 = 1 := pz_gj hE 1 (Nat.le_of_ble_eq_true rfl) rfl
  obtain ⟨i2a, i2b, i2c, i2d⟩ := pz_gi hE 2 2147483688 2147483688 (Nat.le_of_ble_eq_true rfl) rfl
  have c_units : ay_at hp 10 4 = some (ρ 2) := ay_gfj hE 50 16 11 10 4 ax_m3 (ax_vlq rfl rfl) (ax_vlj rfl rfl)
  obtain ⟨-, -, -, -, F50⟩ : ay_ex hp 8 ∧ ay_ex hp 10 ∧ ay_ex hp 11 ∧ ay_ex hp 12 ∧ pz_x50 (ρ 0) (ρ 1) (ay_at hp 8 5) (ay_at hp 8 6) (ay_at hp 8 7) (ay_at hp 8 8) (ay_at hp 10 0) (ay_at hp 10 1) (ay_at hp 10 2) (ay_at hp 10 3) (ay_at hp 10 4) (ay_at hp 8 9) (ay_at hp 8 11) (ay_at hp 8 10) (ay_at hp 8 3) (ay_at hp 8 4) (ay_at hp 11) (ay_at hp 12) := (ax_XF_lt (x := 50) (Nat.le_of_ble_eq_true rfl)).mp (ax_gx hE (50, [3, 7]) ax_m0)
  rw [c_units] at F50
  have F78 : pz7 (pz_gt (ρ 0)) (pz_gN (ρ 0)) ((ρ 1) / 4) 8 := (ax_XF_lt (x := 78) (Nat.le_of_ble_eq_true rfl)).mp (ax_gx hE (78, [3, 7]) ax_m1)
  have F107 : pz107 (pz_gt (ρ 0)) (pz_gN (ρ 0)) ((ρ 1) / 4) ((4) / 4) := (ax_XF_lt (x := 107) (Nat.le_of_ble_eq_true rfl)).mp (ax_gx hE (107, [3, 7, 4]) ax_m2)
  refine ⟨(fun y hy => by cases hy), _, List.mem_cons_self, ρ, fun _ _ => rfl, ax_px hE rfl (fun y hy => ?_)⟩
  cases List.mem_singleton.mp hy
  refine (ax_XF_lt (x := 64) (Nat.le_of_ble_eq_true rfl)).mpr ?_
  show pz64 (pz_gt (ρ 0)) (pz_gN (ρ 0)) ((ρ 1) / 4) ((16) / 4)
  exact pq_ru4 F50 F78 F107 (show ρ 2 / 4 = 40 by omega)

theorem axq_ru6c1_5 : ax_RO ax_wC ax_XC axu_ru6c1_5 := by
  intro ρ hp hE hT
  have j0 : ρ 0 % 4 = 1 := pz_gj hE 0 (Nat.le_of_ble_eq_true rfl) rfl
  have j1 : ρ 1 % 4 = 1 := pz_gj hE 1 (Nat.le_of_ble_eq_true rfl) rfl
  have j2 : ρ 2 % 4 = 1 := pz_gj hE 2 (Nat.le_of_ble_eq_true rfl) rfl
  obtain ⟨i3a, i3b, i3c, i3d⟩ := pz_gi hE 3 2147483648 2147483687 (Nat.le_of_ble_eq_true rfl) rfl
  obtain ⟨i4a, i4b, i4c, i4d⟩ := pz_gi hE 4 0 4294967295 (Nat.le_of_ble_eq_true rfl) rfl
  have c_units : ay_at hp 10 4 = some (ρ 3) := ay_gfj hE 50 16 15 10 4 ax_m5 (ax_vlq rfl rfl) (ax_vlj rfl rfl)
  have s1 : (ρ 3 / 4 + 2147483648) % 4294967296 + (4 / 4 + 2147483648) % 4294967296 = (ρ 4 / 4 + 2147483648) % 4294967296 + 2147483648 := pz_gs hE 15 4 19 ax_m6
  obtain ⟨-, -, -, -, F50⟩ : ay_ex hp 8 ∧ ay_ex hp 10 ∧ ay_ex hp 11 ∧ ay_ex hp 12 ∧ pz_x50 (ρ 0) (ρ 1) (ay_at hp 8 5) (ay_at hp 8 6) (ay_at hp 8 7) (ay_at hp 8 8) (ay_at hp 10 0) (ay_at hp 10 1) (ay_at hp 10 2) (ay_at hp 10 3) (ay_at hp 10 4) (ay_at hp 8 9) (ay_at hp 8 11) (ay_at hp 8 10) (ay_at hp 8 3) (ay_at hp 8 4) (ay_at hp 11) (ay_at hp 12) := (ax_XF_lt (x := 50) (Nat.le_of_ble_eq_true rfl)).mp (ax_gx hE (50, [3, 7]) ax_m0)
  rw [c_units] at F50
  have F78 : pz7 (pz_gt (ρ 0)) (pz_gN (ρ 0)) ((ρ 1) / 4) 8 := (ax_XF_lt (x := 78) (Nat.le_of_ble_eq_true rfl)).mp (ax_gx hE (78, [3, 7]) ax_m1)
  have F107 : pz107 (pz_gt (ρ 0)) (pz_gN (ρ 0)) ((ρ 1) / 4) ((4) / 4) := (ax_XF_lt (x := 107) (Nat.le_of_ble_eq_true rfl)).mp (ax_gx hE (107, [3, 7, 4]) ax_m2)
  have F90 : (pz90 (pz_gt (ρ 0)) (pz_gN (ρ 0)) ((ρ 1) / 4) ((ρ 2) / 4) ∧ 1 ≤ (ρ 2) / 4) := (ax_XF_lt (x := 90) (Nat.le_of_ble_eq_true rfl)).mp (ax_gx hE (90, [3, 7, 11]) ax_m3)
  have F91 : pz_dp ((ρ 2) / 4) = (20) / 4 := (ax_XF_lt (x := 91) (Nat.le_of_ble_eq_true rfl)).mp (ax_gx hE (91, [11, 20]) ax_m4)
  have st := pq_ru6u F50 F78 F107 (by decide) (by decide) F90.1 (by rw [F91]; decide) (show ρ 3 / 4 ≤ 39 by omega)
  obtain ⟨ρ', h1, h2⟩ := pz_pn2 (K := ρ 1 / 4 + 1) (L := pz_strip (ρ 2 / 4)) (xf := [(553, [50, 16, 19, 3, 23]), (79, [3, 23]), (90, [3, 23, 27]), (92, [11, 27]), (1030, [7, 23]), (98, [7, 23])]) hE (by decide) (fun ρ' h1 h2 h3 x hx => by
    have q0 : ρ' 0 = ρ 0 := h1 0 (by decide)
    have q1 : ρ' 1 = ρ 1 := h1 1 (by decide)
    have q2 : ρ' 2 = ρ 2 := h1 2 (by decide)
    have q3 : ρ' 3 = ρ 3 := h1 3 (by decide)
    have q4 : ρ' 4 = ρ 4 := h1 4 (by decide)
    rcases List.mem_cons.mp hx with e | hx
    · subst e
      refine (ax_XF_wr (x := 53) (Nat.le_of_ble_eq_true rfl)).mpr ?_
      show ay_ex (ax_upd hp 50 (16) (ρ' 4)) 8 ∧ ay_ex (ax_upd hp 50 (16) (ρ' 4)) 10 ∧ ay_ex (ax_upd hp 50 (16) (ρ' 4)) 11 ∧ ay_ex (ax_upd hp 50 (16) (ρ' 4)) 12 ∧ pz_x53 (ρ' 0) (ρ' 5) (ay_at (ax_upd hp 50 (16) (ρ' 4)) 8 5) (ay_at (ax_upd hp 50 (16) (ρ' 4)) 10 0) (ay_at (ax_upd hp 50 (16) (ρ' 4)) 10 1) (ay_at (ax_upd hp 50 (16) (ρ' 4)) 10 2) (ay_at (ax_upd hp 50 (16) (ρ' 4)) 10 3) (ay_at (ax_upd hp 50 (16) (ρ' 4)) 10 4) (ay_at (ax_upd hp 50 (16) (ρ' 4)) 8 9) (ay_at (ax_upd hp 50 (16) (ρ' 4)) 8 11) (ay_at (ax_upd hp 50 (16) (ρ' 4)) 8 10) (ay_at (ax_upd hp 50 (16) (ρ' 4)) 8 3) (ay_at (ax_upd hp 50 (16) (ρ' 4)) 8 4) (ay_at (ax_upd hp 50 (16) (ρ' 4)) 11) (ay_at (ax_upd hp 50 (16) (ρ' 4)) 12)
      rw [q0, q4, h2]
      obtain ⟨o0, ho0⟩ := ay_some hT (q := 10) (g := 1) (n := 12) rfl rfl (j := 16 / 4) (Nat.le_of_ble_eq_true rfl)
      have u1 : ∀ q, q ≠ 10 → ay_at (ax_upd hp 50 16 (ρ 4)) q = ay_at hp q := fun q hq => funext (fun j => ay_upd_ne hT.1 hq j)
      have u2 : ∀ j, ay_at (ax_upd hp 50 16 (ρ 4)) 10 j = if j = 4 then some (ρ 4) else ay_at hp 10 j := fun j => ay_upd_eq hT.1 rfl ho0 j
      refine ⟨ay_ex_upd hT.1 (ax_cellT hT (q := 8) (g := 2) rfl), ay_ex_upd hT.1 (ax_cellT hT (q := 10) (g := 1) rfl), ay_ex_upd hT.1 (ax_cellT hT (q := 11) (g := 14) rfl), ay_ex_upd hT.1 (ax_cellT hT (q := 12) (g := 15) rfl), ?_⟩
      rw [u1 8 (Nat.ne_of_beq_eq_false rfl), u2 0, if_neg (show ¬ 0 = 4 from Nat.ne_of_beq_eq_false rfl), u2 1, if_neg (show ¬ 1 = 4 from Nat.ne_of_beq_eq_false rfl), u2 2, if_neg (show ¬ 2 = 4 from Nat.ne_of_beq_eq_false rfl), u2 3, if_neg (show ¬ 3 = 4 from Nat.ne_of_beq_eq_false rfl), u2 4, if_pos rfl, u1 11 (Nat.ne_of_beq_eq_false rfl), u1 12 (Nat.ne_of_beq_eq_false rfl)]
      have eu : ρ 4 / 4 = ρ 3 / 4 + 1 := by omega
      refine pz_53 (pz_41 _) rfl ?_
      show pz53 _ _ _ _ _ _ _ _ (ρ 4 / 4) _ _ _ _ _ _ _
      rw [eu]
      exact st.1
    rcases List.mem_cons.mp hx with e | hx
    · subst e
      refine (ax_XF_lt (x := 79) (Nat.le_of_ble_eq_true rfl)).mpr ?_
      show pz7 (pz_gt (ρ' 0)) (pz_gN (ρ' 0)) ((ρ' 5) / 4) 9
      rw [q0, h2]
      rw [pz_41]
      exact st.2.1
    rcases List.mem_cons.mp hx with e | hx
    · subst e
      refine (ax_XF_lt (x := 90) (Nat.le_of_ble_eq_true rfl)).mpr ?_
      show (pz90 (pz_gt (ρ' 0)) (pz_gN (ρ' 0)) ((ρ' 5) / 4) ((ρ' 6) / 4) ∧ 1 ≤ (ρ' 6) / 4)
      rw [q0, h2, h3]
      rw [pz_41, pz_41]
      exact ⟨st.2.2, pz_strip_1 F90.2⟩
    rcases List.mem_cons.mp hx with e | hx
    · subst e
      refine (ax_XF_lt (x := 92) (Nat.le_of_ble_eq_true rfl)).mpr ?_
      show pz_strip ((ρ' 2) / 4) = (ρ' 6) / 4
      rw [q2, h3]
      rw [pz_41]
    rcases List.mem_cons.mp hx with e | hx
    · subst e
      refine (ax_XF_bi (o := 30) (by decide)).mpr (Or.inr ⟨rfl, ?_⟩)
      show ρ' 1 < ρ' 5
      rw [q1, h2]
      omega
    cases List.mem_singleton.mp hx
    refine (ax_XF_lt (x := 98) (Nat.le_of_ble_eq_true rfl)).mpr ?_
    show (ρ' 5) / 4 = (ρ' 1) / 4 + 1
    rw [q1, h2]
    rw [pz_41])
  exact ⟨(fun y hy => by cases hy), _, List.mem_cons_self, ρ', h1, h2⟩

theorem axq_ru4c2_5 : ax_RO ax_wC ax_XC axu_ru4c2_5 := by
  intro ρ hp hE hT
  have j0 : ρ 0 % 4 = 1 := pz_gj hE 0 (Nat.le_of_ble_eq_true rfl) rfl
  have j1 : ρ 1 % 4 = 1 := pz_gj hE 1 (Nat.le_of_ble_eq_true rfl) rfl
  obtain ⟨i2a, i2b, i2c, i2d⟩ := pz_gi hE 2 2147483688 2147483688 (Nat.le_of_ble_eq_true rfl) rfl
  have c_units : ay_at hp 10 4 = some (ρ 2) := ay_gfj hE 50 16 11 10 4 ax_m3 (ax_vlq rfl rfl) (ax_vlj rfl rfl)
  obtain ⟨-, -, -, -, F50⟩ : ay_ex hp 8 ∧ ay_ex hp 10 ∧ ay_ex hp 11 ∧ ay_ex hp 12 ∧ pz_x50 (ρ 0) (ρ 1) (ay_at hp 8 5) (ay_at hp 8 6) (ay_at hp 8 7) (ay_at hp 8 8) (ay_at hp 10 0) (ay_at hp 10 1) (ay_at hp 10 2) (ay_at hp 10 3) (ay_at hp 10 4) (ay_at hp 8 9) (ay_at hp 8 11) (ay_at hp 8 10) (ay_at hp 8 3) (ay_at hp 8 4) (ay_at hp 11) (ay_at hp 12) := (ax_XF_lt (x := 50) (Nat.le_of_ble_eq_true rfl)).mp (ax_gx hE (50, [3, 7]) ax_m0)
  rw [c_units] at F50
  have F78 : pz7 (pz_gt (ρ 0)) (pz_gN (ρ 0)) ((ρ 1) / 4) 8 := (ax_XF_lt (x := 78) (Nat.le_of_ble_eq_true rfl)).mp (ax_gx hE (78, [3, 7]) ax_m1)
  have F107 : pz107 (pz_gt (ρ 0)) (pz_gN (ρ 0)) ((ρ 1) / 4) ((8) / 4) := (ax_XF_lt (x := 107) (Nat.le_of_ble_eq_true rfl)).mp (ax_gx hE (107, [3, 7, 8]) ax_m2)
  refine ⟨(fun y hy => by cases hy), _, List.mem_cons_self, ρ, fun _ _ => rfl, ax_px hE rfl (fun y hy => ?_)⟩
  cases List.mem_singleton.mp hy
  refine (ax_XF_lt (x := 64) (Nat.le_of_ble_eq_true rfl)).mpr ?_
  show pz64 (pz_gt (ρ 0)) (pz_gN (ρ 0)) ((ρ 1) / 4) ((16) / 4)
  exact pq_ru4 F50 F78 F107 (show ρ 2 / 4 = 40 by omega)

theorem axq_ru6c2_5 : ax_RO ax_wC ax_XC axu_ru6c2_5 := by
  intro ρ hp hE hT
  have j0 : ρ 0 % 4 = 1 := pz_gj hE 0 (Nat.le_of_ble_eq_true rfl) rfl
  have j1 : ρ 1 % 4 = 1 := pz_gj hE 1 (Nat.le_of_ble_eq_true rfl) rfl
  have j2 : ρ 2 % 4 = 1 := pz_gj hE 2 (Nat.le_of_ble_eq_true rfl) rfl
  obtain ⟨i3a, i3b, i3c, i3d⟩ := pz_gi hE 3 2147483648 2147483687 (Nat.le_of_ble_eq_true rfl) rfl
  obtain ⟨i4a, i4b, i4c, i4d⟩ := pz_gi hE 4 0 4294967295 (Nat.le_of_ble_eq_true rfl) rfl
  have c_units : ay_at hp 10 4 = some (ρ 3) := ay_gfj hE 50 16 15 10 4 ax_m5 (ax_vlq rfl rfl) (ax_vlj rfl rfl)
  have s1 : (ρ 3 / 4 + 2147483648) % 4294967296 + (4 / 4 + 2147483648) % 4294967296 = (ρ 4 / 4 + 2147483648) % 4294967296 + 2147483648 := pz_gs hE 15 4 19 ax_m6
  obtain ⟨-, -, -, -, F50⟩ : ay_ex hp 8 ∧ ay_ex hp 10 ∧ ay_ex hp 11 ∧ ay_ex hp 12 ∧ pz_x50 (ρ 0) (ρ 1) (ay_at hp 8 5) (ay_at hp 8 6) (ay_at hp 8 7) (ay_at hp 8 8) (ay_at hp 10 0) (ay_at hp 10 1) (ay_at hp 10 2) (ay_at hp 10 3) (ay_at hp 10 4) (ay_at hp 8 9) (ay_at hp 8 11) (ay_at hp 8 10) (ay_at hp 8 3) (ay_at hp 8 4) (ay_at hp 11) (ay_at hp 12) := (ax_XF_lt (x := 50) (Nat.le_of_ble_eq_true rfl)).mp (ax_gx hE (50, [3, 7]) ax_m0)
  rw [c_units] at F50
  have F78 : pz7 (pz_gt (ρ 0)) (pz_gN (ρ 0)) ((ρ 1) / 4) 8 := (ax_XF_lt (x := 78) (Nat.le_of_ble_eq_true rfl)).mp (ax_gx hE (78, [3, 7]) ax_m1)
  have F107 : pz107 (pz_gt (ρ 0)) (pz_gN (ρ 0)) ((ρ 1) / 4) ((8) / 4) := (ax_XF_lt (x := 107) (Nat.le_of_ble_eq_true rfl)).mp (ax_gx hE (107, [3, 7, 8]) ax_m2)
  have F90 : (pz90 (pz_gt (ρ 0)) (pz_gN (ρ 0)) ((ρ 1) / 4) ((ρ 2) / 4) ∧ 1 ≤ (ρ 2) / 4) := (ax_XF_lt (x := 90) (Nat.le_of_ble_eq_true rfl)).mp (ax_gx hE (90, [3, 7, 11]) ax_m3)
  have F91 : pz_dp ((ρ 2) / 4) = (20) / 4 := (ax_XF_lt (x := 91) (Nat.le_of_ble_eq_true rfl)).mp (ax_gx hE (91, [11, 20]) ax_m4)
  have st := pq_ru6u F50 F78 F107 (by decide) (by decide) F90.1 (by rw [F91]; decide) (show ρ 3 / 4 ≤ 39 by omega)
  obtain ⟨ρ', h1, h2⟩ := pz_pn2 (K := ρ 1 / 4 + 1) (L := pz_strip (ρ 2 / 4)) (xf := [(553, [50, 16, 19, 3, 23]), (79, [3, 23]), (90, [3, 23, 27]), (92, [11, 27]), (1030, [7, 23]), (98, [7, 23])]) hE (by decide) (fun ρ' h1 h2 h3 x hx => by
    have q0 : ρ' 0 = ρ 0 := h1 0 (by decide)
    have q1 : ρ' 1 = ρ 1 := h1 1 (by decide)
    have q2 : ρ' 2 = ρ 2 := h1 2 (by decide)
    have q3 : ρ' 3 = ρ 3 := h1 3 (by decide)
    have q4 : ρ' 4 = ρ 4 := h1 4 (by decide)
    rcases List.mem_cons.mp hx with e | hx
    · subst e
      refine (ax_XF_wr (x := 53) (Nat.le_of_ble_eq_true rfl)).mpr ?_
      show ay_ex (ax_upd hp 50 (16) (ρ' 4)) 8 ∧ ay_ex (ax_upd hp 50 (16) (ρ' 4)) 10 ∧ ay_ex (ax_upd hp 50 (16) (ρ' 4)) 11 ∧ ay_ex (ax_upd hp 50 (16) (ρ' 4)) 12 ∧ pz_x53 (ρ' 0) (ρ' 5) (ay_at (ax_upd hp 50 (16) (ρ' 4)) 8 5) (ay_at (ax_upd hp 50 (16) (ρ' 4)) 10 0) (ay_at (ax_upd hp 50 (16) (ρ' 4)) 10 1) (ay_at (ax_upd hp 50 (16) (ρ' 4)) 10 2) (ay_at (ax_upd hp 50 (16) (ρ' 4)) 10 3) (ay_at (ax_upd hp 50 (16) (ρ' 4)) 10 4) (ay_at (ax_upd hp 50 (16) (ρ' 4)) 8 9) (ay_at (ax_upd hp 50 (16) (ρ' 4)) 8 11) (ay_at (ax_upd hp 50 (16) (ρ' 4)) 8 10) (ay_at (ax_upd hp 50 (16) (ρ' 4)) 8 3) (ay_at (ax_upd hp 50 (16) (ρ' 4)) 8 4) (ay_at (ax_upd hp 50 (16) (ρ' 4)) 11) (ay_at (ax_upd hp 50 (16) (ρ' 4)) 12)
      rw [q0, q4, h2]
      obtain ⟨o0, ho0⟩ := ay_some hT (q := 10) (g := 1) (n := 12) rfl rfl (j := 16 / 4) (Nat.le_of_ble_eq_true rfl)
      have u1 : ∀ q, q ≠ 10 → ay_at (ax_upd hp 50 16 (ρ 4)) q = ay_at hp q := fun q hq => funext (fun j => ay_upd_ne hT.1 hq j)
      have u2 : ∀ j, ay_at (ax_upd hp 50 16 (ρ 4)) 10 j = if j = 4 then some (ρ 4) else ay_at hp 10 j := fun j => ay_upd_eq hT.1 rfl ho0 j
      refine ⟨ay_ex_upd hT.1 (ax_cellT hT (q := 8) (g := 2) rfl), ay_ex_upd hT.1 (ax_cellT hT (q := 10) (g := 1) rfl), ay_ex_upd hT.1 (ax_cellT hT (q := 11) (g := 14) rfl), ay_ex_upd hT.1 (ax_cellT hT (q := 12) (g := 15) rfl), ?_⟩
      rw [u1 8 (Nat.ne_of_beq_eq_false rfl), u2 0, if_neg (show ¬ 0 = 4 from Nat.ne_of_beq_eq_false rfl), u2 1, if_neg (show ¬ 1 = 4 from Nat.ne_of_beq_eq_false rfl), u2 2, if_neg (show ¬ 2 = 4 from Nat.ne_of_beq_eq_false rfl), u2 3, if_neg (show ¬ 3 = 4 from Nat.ne_of_beq_eq_false rfl), u2 4, if_pos rfl, u1 11 (Nat.ne_of_beq_eq_false rfl), u1 12 (Nat.ne_of_beq_eq_false rfl)]
      have eu : ρ 4 / 4 = ρ 3 / 4 + 1 := by omega
      refine pz_53 (pz_41 _) rfl ?_
      show pz53 _ _ _ _ _ _ _ _ (ρ 4 / 4) _ _ _ _ _ _ _
      rw [eu]
      exact st.1
    rcases List.mem_cons.mp hx with e | hx
    · subst e
      refine (ax_XF_lt (x := 79) (Nat.le_of_ble_eq_true rfl)).mpr ?_
      show pz7 (pz_gt (ρ' 0)) (pz_gN (ρ' 0)) ((ρ' 5) / 4) 9
      rw [q0, h2]
      rw [pz_41]
      exact st.2.1
    rcases List.mem_cons.mp hx with e | hx
    · subst e
      refine (ax_XF_lt (x := 90) (Nat.le_of_ble_eq_true rfl)).mpr ?_
      show (pz90 (pz_gt (ρ' 0)) (pz_gN (ρ' 0)) ((ρ' 5) / 4) ((ρ' 6) / 4) ∧ 1 ≤ (ρ' 6) / 4)
      rw [q0, h2, h3]
      rw [pz_41, pz_41]
      exact ⟨st.2.2, pz_strip_1 F90.2⟩
    rcases List.mem_cons.mp hx with e | hx
    · subst e
      refine (ax_XF_lt (x := 92) (Nat.le_of_ble_eq_true rfl)).mpr ?_
      show pz_strip ((ρ' 2) / 4) = (ρ' 6) / 4
      rw [q2, h3]
      rw [pz_41]
    rcases List.mem_cons.mp hx with e | hx
    · subst e
      refine (ax_XF_bi (o := 30) (by decide)).mpr (Or.inr ⟨rfl, ?_⟩)
      show ρ' 1 < ρ' 5
      rw [q1, h2]
      omega
    cases List.mem_singleton.mp hx
    refine (ax_XF_lt (x := 98) (Nat.le_of_ble_eq_true rfl)).mpr ?_
    show (ρ' 5) / 4 = (ρ' 1) / 4 + 1
    rw [q1, h2]
    rw [pz_41])
  exact ⟨(fun y hy => by cases hy), _, List.mem_cons_self, ρ', h1, h2⟩

theorem axq_ru4c3_5 : ax_RO ax_wC ax_XC axu_ru4c3_5 := by
  intro ρ hp hE hT
  have j0 : ρ 0 % 4 = 1 := pz_gj hE 0 (Nat.le_of_ble_eq_true rfl) rfl
  have j1 : ρ 1 % 4 = 1 := pz_gj hE 1 (Nat.le_of_ble_eq_true rfl) rfl
  obtain ⟨i2a, i2b, i2c, i2d⟩ := pz_gi hE 2 2147483688 2147483688 (Nat.le_of_ble_eq_true rfl) rfl
  have c_units : ay_at hp 10 4 = some (ρ 2) := ay_gfj hE 50 16 11 10 4 ax_m3 (ax_vlq rfl rfl) (ax_vlj rfl rfl)
  obtain ⟨-, -, -, -, F50⟩ : ay_ex hp 8 ∧ ay_ex hp 10 ∧ ay_ex hp 11 ∧ ay_ex hp 12 ∧ pz_x50 (ρ 0) (ρ 1) (ay_at hp 8 5) (ay_at hp 8 6) (ay_at hp 8 7) (ay_at hp 8 8) (ay_at hp 10 0) (ay_at hp 10 1) (ay_at hp 10 2) (ay_at hp 10 3) (ay_at hp 10 4) (ay_at hp 8 9) (ay_at hp 8 11) (ay_at hp 8 10) (ay_at hp 8 3) (ay_at hp 8 4) (ay_at hp 11) (ay_at hp 12) := (ax_XF_lt (x := 50) (Nat.le_of_ble_eq_true rfl)).mp (ax_gx hE (50, [3, 7]) ax_m0)
  rw [c_units] at F50
  have F78 : pz7 (pz_gt (ρ 0)) (pz_gN (ρ 0)) ((ρ 1) / 4) 8 := (ax_XF_lt (x := 78) (Nat.le_of_ble_eq_true rfl)).mp (ax_gx hE (78, [3, 7]) ax_m1)
  have F107 : pz107 (pz_gt (ρ 0)) (pz_gN (ρ 0)) ((ρ 1) / 4) ((12) / 4) := (ax_XF_lt (x := 107) (Nat.le_of_ble_eq_true rfl)).mp (ax_gx hE (107, [3, 7, 12]) ax_m2)
  refine ⟨(fun y hy => by cases hy), _, List.mem_cons_self, ρ, fun _ _ => rfl, ax_px hE rfl (fun y hy => ?_)⟩
  cases List.mem_singleton.mp hy
  refine (ax_XF_lt (x := 64) (Nat.le_of_ble_eq_true rfl)).mpr ?_
  show pz64 (pz_gt (ρ 0)) (pz_gN (ρ 0)) ((ρ 1) / 4) ((16) / 4)
  exact pq_ru4 F50 F78 F107 (show ρ 2 / 4 = 40 by omega)

theorem axq_ru6c3_5 : ax_RO ax_wC ax_XC axu_ru6c3_5 := by
  intro ρ hp hE hT
  have j0 : ρ 0 % 4 = 1 := pz_gj hE 0 (Nat.le_of_ble_eq_true rfl) rfl
  have j1 : ρ 1 % 4 = 1 := pz_gj hE 1 (Nat.le_of_ble_eq_true rfl) rfl
  have j2 : ρ 2 % 4 = 1 := pz_gj hE 2 (Nat.le_of_ble_eq_true rfl) rfl
  obtain ⟨i3a, i3b, i3c, i3d⟩ := pz_gi hE 3 2147483648 2147483687 (Nat.le_of_ble_eq_true rfl) rfl
  obtain ⟨i4a, i4b, i4c, i4d⟩ := pz_gi hE 4 0 4294967295 (Nat.le_of_ble_eq_true rfl) rfl
  have c_units : ay_at hp 10 4 = some (ρ 3) := ay_gfj hE 50 16 15 10 4 ax_m5 (ax_vlq rfl rfl) (ax_vlj rfl rfl)
  have s1 : (ρ 3 / 4 + 2147483648) % 4294967296 + (4 / 4 + 2147483648) % 4294967296 = (ρ 4 / 4 + 2147483648) % 4294967296 + 2147483648 := pz_gs hE 15 4 19 ax_m6
  obtain ⟨-, -, -, -, F50⟩ : ay_ex hp 8 ∧ ay_ex hp 10 ∧ ay_ex hp 11 ∧ ay_ex hp 12 ∧ pz_x50 (ρ 0) (ρ 1) (ay_at hp 8 5) (ay_at hp 8 6) (ay_at hp 8 7) (ay_at hp 8 8) (ay_at hp 10 0) (ay_at hp 10 1) (ay_at hp 10 2) (ay_at hp 10 3) (ay_at hp 10 4) (ay_at hp 8 9) (ay_at hp 8 11) (ay_at hp 8 10) (ay_at hp 8 3) (ay_at hp 8 4) (ay_at hp 11) (ay_at hp 12) := (ax_XF_lt (x := 50) (Nat.le_of_ble_eq_true rfl)).mp (ax_gx hE (50, [3, 7]) ax_m0)
  rw [c_units] at F50
  have F78 : pz7 (pz_gt (ρ 0)) (pz_gN (ρ 0)) ((ρ 1) / 4) 8 := (ax_XF_lt (x := 78) (Nat.le_of_ble_eq_true rfl)).mp (ax_gx hE (78, [3, 7]) ax_m1)
  have F107 : pz107 (pz_gt (ρ 0)) (pz_gN (ρ 0)) ((ρ 1) / 4) ((12) / 4) := (ax_XF_lt (x := 107) (Nat.le_of_ble_eq_true rfl)).mp (ax_gx hE (107, [3, 7, 12]) ax_m2)
  have F90 : (pz90 (pz_gt (ρ 0)) (pz_gN (ρ 0)) ((ρ 1) / 4) ((ρ 2) / 4) ∧ 1 ≤ (ρ 2) / 4) := (ax_XF_lt (x := 90) (Nat.le_of_ble_eq_true rfl)).mp (ax_gx hE (90, [3, 7, 11]) ax_m3)
  have F91 : pz_dp ((ρ 2) / 4) = (20) / 4 := (ax_XF_lt (x := 91) (Nat.le_of_ble_eq_true rfl)).mp (ax_gx hE (91, [11, 20]) ax_m4)
  have st := pq_ru6u F50 F78 F107 (by decide) (by decide) F90.1 (by rw [F91]; decide) (show ρ 3 / 4 ≤ 39 by omega)
  obtain ⟨ρ', h1, h2⟩ := pz_pn2 (K := ρ 1 / 4 + 1) (L := pz_strip (ρ 2 / 4)) (xf := [(553, [50, 16, 19, 3, 23]), (79, [3, 23]), (90, [3, 23, 27]), (92, [11, 27]), (1030, [7, 23]), (98, [7, 23])]) hE (by decide) (fun ρ' h1 h2 h3 x hx => by
    have q0 : ρ' 0 = ρ 0 := h1 0 (by decide)
    have q1 : ρ' 1 = ρ 1 := h1 1 (by decide)
    have q2 : ρ' 2 = ρ 2 := h1 2 (by decide)
    have q3 : ρ' 3 = ρ 3 := h1 3 (by decide)
    have q4 : ρ' 4 = ρ 4 := h1 4 (by decide)
    rcases List.mem_cons.mp hx with e | hx
    · subst e
      refine (ax_XF_wr (x := 53) (Nat.le_of_ble_eq_true rfl)).mpr ?_
      show ay_ex (ax_upd hp 50 (16) (ρ' 4)) 8 ∧ ay_ex (ax_upd hp 50 (16) (ρ' 4)) 10 ∧ ay_ex (ax_upd hp 50 (16) (ρ' 4)) 11 ∧ ay_ex (ax_upd hp 50 (16) (ρ' 4)) 12 ∧ pz_x53 (ρ' 0) (ρ' 5) (ay_at (ax_upd hp 50 (16) (ρ' 4)) 8 5) (ay_at (ax_upd hp 50 (16) (ρ' 4)) 10 0) (ay_at (ax_upd hp 50 (16) (ρ' 4)) 10 1) (ay_at (ax_upd hp 50 (16) (ρ' 4)) 10 2) (ay_at (ax_upd hp 50 (16) (ρ' 4)) 10 3) (ay_at (ax_upd hp 50 (16) (ρ' 4)) 10 4) (ay_at (ax_upd hp 50 (16) (ρ' 4)) 8 9) (ay_at (ax_upd hp 50 (16) (ρ' 4)) 8 11) (ay_at (ax_upd hp 50 (16) (ρ' 4)) 8 10) (ay_at (ax_upd hp 50 (16) (ρ' 4)) 8 3) (ay_at (ax_upd hp 50 (16) (ρ' 4)) 8 4) (ay_at (ax_upd hp 50 (16) (ρ' 4)) 11) (ay_at (ax_upd hp 50 (16) (ρ' 4)) 12)
      rw [q0, q4, h2]
      obtain ⟨o0, ho0⟩ := ay_some hT (q := 10) (g := 1) (n := 12) rfl rfl (j := 16 / 4) (Nat.le_of_ble_eq_true rfl)
      have u1 : ∀ q, q ≠ 10 → ay_at (ax_upd hp 50 16 (ρ 4)) q = ay_at hp q := fun q hq => funext (fun j => ay_upd_ne hT.1 hq j)
      have u2 : ∀ j, ay_at (ax_upd hp 50 16 (ρ 4)) 10 j = if j = 4 then some (ρ 4) else ay_at hp 10 j := fun j => ay_upd_eq hT.1 rfl ho0 j
      refine ⟨ay_ex_upd hT.1 (ax_cellT hT (q := 8) (g := 2) rfl), ay_ex_upd hT.1 (ax_cellT hT (q := 10) (g := 1) rfl), ay_ex_upd hT.1 (ax_cellT hT (q := 11) (g := 14) rfl), ay_ex_upd hT.1 (ax_cellT hT (q := 12) (g := 15) rfl), ?_⟩
      rw [u1 8 (Nat.ne_of_beq_eq_false rfl), u2 0, if_neg (show ¬ 0 = 4 from Nat.ne_of_beq_eq_false rfl), u2 1, if_neg (show ¬ 1 = 4 from Nat.ne_of_beq_eq_false rfl), u2 2, if_neg (show ¬ 2 = 4 from Nat.ne_of_beq_eq_false rfl), u2 3, if_neg (show ¬ 3 = 4 from Nat.ne_of_beq_eq_false rfl), u2 4, if_pos rfl, u1 11 (Nat.ne_of_beq_eq_false rfl), u1 12 (Nat.ne_of_beq_eq_false rfl)]
      have eu : ρ 4 / 4 = ρ 3 / 4 + 1 := by omega
      refine pz_53 (pz_41 _) rfl ?_
      show pz53 _ _ _ _ _ _ _ _ (ρ 4 / 4) _ _ _ _ _ _ _
      rw [eu]
      exact st.1
    rcases List.mem_cons.mp hx with e | hx
    · subst e
      refine (ax_XF_lt (x := 79) (Nat.le_of_ble_eq_true rfl)).mpr ?_
      show pz7 (pz_gt (ρ' 0)) (pz_gN (ρ' 0)) ((ρ' 5) / 4) 9
      rw [q0, h2]
      rw [pz_41]
      exact st.2.1
    rcases List.mem_cons.mp hx with e | hx
    · subst e
      refine (ax_XF_lt (x := 90) (Nat.le_of_ble_eq_true rfl)).mpr ?_
      show (pz90 (pz_gt (ρ' 0)) (pz_gN (ρ' 0)) ((ρ' 5) / 4) ((ρ' 6) / 4) ∧ 1 ≤ (ρ' 6) / 4)
      rw [q0, h2, h3]
      rw [pz_41, pz_41]
      exact ⟨st.2.2, pz_strip_1 F90.2⟩
    rcases List.mem_cons.mp hx with e | hx
    · subst e
      refine (ax_XF_lt (x := 92) (Nat.le_of_ble_eq_true rfl)).mpr ?_
      show pz_strip ((ρ' 2) / 4) = (ρ' 6) / 4
      rw [q2, h3]
      rw [pz_41]
    rcases List.mem_cons.mp hx with e | hx
    · subst e
      refine (ax_XF_bi (o := 30) (by decide)).mpr (Or.inr ⟨rfl, ?_⟩)
      show ρ' 1 < ρ' 5
      rw [q1, h2]
      omega
    cases List.mem_singleton.mp hx
    refine (ax_XF_lt (x := 98) (Nat.le_of_ble_eq_true rfl)).mpr ?_
    show (ρ' 5) / 4 = (ρ' 1) / 4 + 1
    rw [q1, h2]
    rw [pz_41])
  exact ⟨(fun y hy => by cases hy), _, List.mem_cons_self, ρ', h1, h2⟩

theorem axq_ru4c4_5 : ax_RO ax_wC ax_XC axu_ru4c4_5 := by
  intro ρ hp hE hT
  have j0 : ρ 0 % 4 = 1 := pz_gj hE 0 (Nat.le_of_ble_eq_true rfl) rfl
  have j1 : ρ 1 % 4 = 1 := pz_gj hE 1 (Nat.le_of_ble_eq_true rfl) rfl
  obtain ⟨i2a, i2b, i2c, i2d⟩ := pz_gi hE 2 2147483688 2147483688 (Nat.le_of_ble_eq_true rfl) rfl
  have c_units : ay_at hp 10 4 = some (ρ 2) := ay_gfj hE 50 16 11 10 4 ax_m3 (ax_vlq rfl rfl) (ax_vlj rfl rfl)
  obtain ⟨-, -, -, -, F50⟩ : ay_ex hp 8 ∧ ay_ex hp 10 ∧ ay_ex hp 11 ∧ ay_ex hp 12 ∧ pz_x50 (ρ 0) (ρ 1) (ay_at hp 8 5) (ay_at hp 8 6) (ay_at hp 8 7) (ay_at hp 8 8) (ay_at hp 10 0) (ay_at hp 10 1) (ay_at hp 10 2) (ay_at hp 10 3) (ay_at hp 10 4) (ay_at hp 8 9) (ay_at hp 8 11) (ay_at hp 8 10) (ay_at hp 8 3) (ay_at hp 8 4) (ay_at hp 11) (ay_at hp 12) := (ax_XF_lt (x := 50) (Nat.le_of_ble_eq_true rfl)).mp (ax_gx hE (50, [3, 7]) ax_m0)
  rw [c_units] at F50
  have F78 : pz7 (pz_gt (ρ 0)) (pz_gN (ρ 0)) ((ρ 1) / 4) 8 := (ax_XF_lt (x := 78) (Nat.le_of_ble_eq_true rfl)).mp (ax_gx hE (78, [3, 7]) ax_m1)
  have F107 : pz107 (pz_gt (ρ 0)) (pz_gN (ρ 0)) ((ρ 1) / 4) ((16) / 4) := (ax_XF_lt (x := 107) (Nat.le_of_ble_eq_true rfl)).mp (ax_gx hE (107, [3, 7, 16]) ax_m2)
  refine ⟨(fun y hy => by cases hy), _, List.mem_cons_self, ρ, fun _ _ => rfl, ax_px hE rfl (fun y hy => ?_)⟩
  cases List.mem_singleton.mp hy
  refine (ax_XF_lt (x := 64) (Nat.le_of_ble_eq_true rfl)).mpr ?_
  show pz64 (pz_gt (ρ 0)) (pz_gN (ρ 0)) ((ρ 1) / 4) ((16) / 4)
  exact pq_ru4 F50 F78 F107 (show ρ 2 / 4 = 40 by omega)

theorem axq_ru6c4_5 : ax_RO ax_wC ax_XC axu_ru6c4_5 := by
  intro ρ hp hE hT
  have j0 : ρ 0 % 4 = 1 := pz_gj hE 0 (Nat.le_of_ble_eq_true rfl) rfl
  have j1 : ρ 1 % 4 = 1 := pz_gj hE 1 (Nat.le_of_ble_eq_true rfl) rfl
  have j2 : ρ 2 % 4 = 1 := pz_gj hE 2 (Nat.le_of_ble_eq_true rfl) rfl
  obtain ⟨i3a, i3b, i3c, i3d⟩ := pz_gi hE 3 2147483648 2147483687 (Nat.le_of_ble_eq_true rfl) rfl
  obtain ⟨i4a, i4b, i4c, i4d⟩ := pz_gi hE 4 0 4294967295 (Nat.le_of_ble_eq_true rfl) rfl
  have c_units : ay_at hp 10 4 = some (ρ 3) := ay_gfj hE 50 16 15 10 4 ax_m5 (ax_vlq rfl rfl) (ax_vlj rfl rfl)
  have s1 : (ρ 3 / 4 + 2147483648) % 4294967296 + (4 / 4 + 2147483648) % 4294967296 = (ρ 4 / 4 + 2147483648) % 4294967296 + 2147483648 := pz_gs hE 15 4 19 ax_m6
  obtain ⟨-, -, -, -, F50⟩ : ay_ex hp 8 ∧ ay_ex hp 10 ∧ ay_ex hp 11 ∧ ay_ex hp 12 ∧ pz_x50 (ρ 0) (ρ 1) (ay_at hp 8 5) (ay_at hp 8 6) (ay_at hp 8 7) (ay_at hp 8 8) (ay_at hp 10 0) (ay_at hp 10 1) (ay_at hp 10 2) (ay_at hp 10 3) (ay_at hp 10 4) (ay_at hp 8 9) (ay_at hp 8 11) (ay_at hp 8 10) (ay_at hp 8 3) (ay_at hp 8 4) (ay_at hp 11) (ay_at hp 12) := (ax_XF_lt (x := 50) (Nat.le_of_ble_eq_true rfl)).mp (ax_gx hE (50, [3, 7]) ax_m0)
  rw [c_units] at F50
  have F78 : pz7 (pz_gt (ρ 0)) (pz_gN (ρ 0)) ((ρ 1) / 4) 8 := (ax_XF_lt (x := 78) (Nat.le_of_ble_eq_true rfl)).mp (ax_gx hE (78, [3, 7]) ax_m1)
  have F107 : pz107 (pz_gt (ρ 0)) (pz_gN (ρ 0)) ((ρ 1) / 4) ((16) / 4) := (ax_XF_lt (x := 107) (Nat.le_of_ble_eq_true rfl)).mp (ax_gx hE (107, [3, 7, 16]) ax_m2)
  have F90 : (pz90 (pz_gt (ρ 0)) (pz_gN (ρ 0)) ((ρ 1) / 4) ((ρ 2) / 4) ∧ 1 ≤ (ρ 2) / 4) := (ax_XF_lt (x := 90) (Nat.le_of_ble_eq_true rfl)).mp (ax_gx hE (90, [3, 7, 11]) ax_m3)
  have F91 : pz_dp ((ρ 2) / 4) = (20) / 4 := (ax_XF_lt (x := 91) (Nat.le_of_ble_eq_true rfl)).mp (ax_gx hE (91, [11, 20]) ax_m4)
  have st := pq_ru6u F50 F78 F107 (by decide) (by decide) F90.1 (by rw [F91]; decide) (show ρ 3 / 4 ≤ 39 by omega)
  obtain ⟨ρ', h1, h2⟩ := pz_pn2 (K := ρ 1 / 4 + 1) (L := pz_strip (ρ 2 / 4)) (xf := [(553, [50, 16, 19, 3, 23]), (79, [3, 23]), (90, [3, 23, 27]), (92, [11, 27]), (1030, [7, 23]), (98, [7, 23])]) hE (by decide) (fun ρ' h1 h2 h3 x hx => by
    have q0 : ρ' 0 = ρ 0 := h1 0 (by decide)
    have q1 : ρ' 1 = ρ 1 := h1 1 (by decide)
    have q2 : ρ' 2 = ρ 2 := h1 2 (by decide)
    have q3 : ρ' 3 = ρ 3 := h1 3 (by decide)
    have q4 : ρ' 4 = ρ 4 := h1 4 (by decide)
    rcases List.mem_cons.mp hx with e | hx
    · subst e
      refine (ax_XF_wr (x := 53) (Nat.le_of_ble_eq_true rfl)).mpr ?_
      show ay_ex (ax_upd hp 50 (16) (ρ' 4)) 8 ∧ ay_ex (ax_upd hp 50 (16) (ρ' 4)) 10 ∧ ay_ex (ax_upd hp 50 (16) (ρ' 4)) 11 ∧ ay_ex (ax_upd hp 50 (16) (ρ' 4)) 12 ∧ pz_x53 (ρ' 0) (ρ' 5) (ay_at (ax_upd hp 50 (16) (ρ' 4)) 8 5) (ay_at (ax_upd hp 50 (16) (ρ' 4)) 10 0) (ay_at (ax_upd hp 50 (16) (ρ' 4)) 10 1) (ay_at (ax_upd hp 50 (16) (ρ' 4)) 10 2) (ay_at (ax_upd hp 50 (16) (ρ' 4)) 10 3) (ay_at (ax_upd hp 50 (16) (ρ' 4)) 10 4) (ay_at (ax_upd hp 50 (16) (ρ' 4)) 8 9) (ay_at (ax_upd hp 50 (16) (ρ' 4)) 8 11) (ay_at (ax_upd hp 50 (16) (ρ' 4)) 8 10) (ay_at (ax_upd hp 50 (16) (ρ' 4)) 8 3) (ay_at (ax_upd hp 50 (16) (ρ' 4)) 8 4) (ay_at (ax_upd hp 50 (16) (ρ' 4)) 11) (ay_at (ax_upd hp 50 (16) (ρ' 4)) 12)
      rw [q0, q4, h2]
      obtain ⟨o0, ho0⟩ := ay_some hT (q := 10) (g := 1) (n := 12) rfl rfl (j := 16 / 4) (Nat.le_of_ble_eq_true rfl)
      have u1 : ∀ q, q ≠ 10 → ay_at (ax_upd hp 50 16 (ρ 4)) q = ay_at hp q := fun q hq => funext (fun j => ay_upd_ne hT.1 hq j)
      have u2 : ∀ j, ay_at (ax_upd hp 50 16 (ρ 4)) 10 j = if j = 4 then some (ρ 4) else ay_at hp 10 j := fun j => ay_upd_eq hT.1 rfl ho0 j
      refine ⟨ay_ex_upd hT.1 (ax_cellT hT (q := 8) (g := 2) rfl), ay_ex_upd hT.1 (ax_cellT hT (q := 10) (g := 1) rfl), ay_ex_upd hT.1 (ax_cellT hT (q := 11) (g := 14) rfl), ay_ex_upd hT.1 (ax_cellT hT (q := 12) (g := 15) rfl), ?_⟩
      rw [u1 8 (Nat.ne_of_beq_eq_false rfl), u2 0, if_neg (show ¬ 0 = 4 from Nat.ne_of_beq_eq_false rfl), u2 1, if_neg (show ¬ 1 = 4 from Nat.ne_of_beq_eq_false rfl), u2 2, if_neg (show ¬ 2 = 4 from Nat.ne_of_beq_eq_false rfl), u2 3, if_neg (show ¬ 3 = 4 from Nat.ne_of_beq_eq_false rfl), u2 4, if_pos rfl, u1 11 (Nat.ne_of_beq_eq_false rfl), u1 12 (Nat.ne_of_beq_eq_false rfl)]
      have eu : ρ 4 / 4 = ρ 3 / 4 + 1 := by omega
      refine pz_53 (pz_41 _) rfl ?_
      show pz53 _ _ _ _ _ _ _ _ (ρ 4 / 4) _ _ _ _ _ _ _
      rw [eu]
      exact st.1
    rcases List.mem_cons.mp hx with e | hx
    · subst e
      refine (ax_XF_lt (x := 79) (Nat.le_of_ble_eq_true rfl)).mpr ?_
      show pz7 (pz_gt (ρ' 0)) (pz_gN (ρ' 0)) ((ρ' 5) / 4) 9
      rw [q0, h2]
      rw [pz_41]
      exact st.2.1
    rcases List.mem_cons.mp hx with e | hx
    · subst e
      refine (ax_XF_lt (x := 90) (Nat.le_of_ble_eq_true rfl)).mpr ?_
      show (pz90 (pz_gt (ρ' 0)) (pz_gN (ρ' 0)) ((ρ' 5) / 4) ((ρ' 6) / 4) ∧ 1 ≤ (ρ' 6) / 4)
      rw [q0, h2, h3]
      rw [pz_41, pz_41]
      exact ⟨st.2.2, pz_strip_1 F90.2⟩
    rcases List.mem_cons.mp hx with e | hx
    · subst e
      refine (ax_XF_lt (x := 92) (Nat.le_of_ble_eq_true rfl)).mpr ?_
      show pz_strip ((ρ' 2) / 4) = (ρ' 6) / 4
      rw [q2, h3]
      rw [pz_41]
    rcases List.mem_cons.mp hx with e | hx
    · subst e
      refine (ax_XF_bi (o := 30) (by decide)).mpr (Or.inr ⟨rfl, ?_⟩)
      show ρ' 1 < ρ' 5
      rw [q1, h2]
      omega
    cases List.mem_singleton.mp hx
    refine (ax_XF_lt (x := 98) (Nat.le_of_ble_eq_true rfl)).mpr ?_
    show (ρ' 5) / 4 = (ρ' 1) / 4 + 1
    rw [q1, h2]
    rw [pz_41])
  exact ⟨(fun y hy => by cases hy), _, List.mem_cons_self, ρ', h1, h2⟩

theorem axq_ru4c5_5 : ax_RO ax_wC ax_XC axu_ru4c5_5 := by
  intro ρ hp hE hT
  have j0 : ρ 0 % 4 = 1 := pz_gj hE 0 (Nat.le_of_ble_eq_true rfl) rfl
  have j1 : ρ 1 % 4 = 1 := pz_gj hE 1 (Nat.le_of_ble_eq_true rfl) rfl
  obtain ⟨i2a, i2b, i2c, i2d⟩ := pz_gi hE 2 2147483688 2147483688 (Nat.le_of_ble_eq_true rfl) rfl
  have c_units : ay_at hp 10 4 = some (ρ 2) := ay_gfj hE 50 16 11 10 4 ax_m3 (ax_vlq rfl rfl) (ax_vlj rfl rfl)
  obtain ⟨-, -, -, -, F50⟩ : ay_ex hp 8 ∧ ay_ex hp 10 ∧ ay_ex hp 11 ∧ ay_ex hp 12 ∧ pz_x50 (ρ 0) (ρ 1) (ay_at hp 8 5) (ay_at hp 8 6) (ay_at hp 8 7) (ay_at hp 8 8) (ay_at hp 10 0) (ay_at hp 10 1) (ay_at hp 10 2) (ay_at hp 10 3) (ay_at hp 10 4) (ay_at hp 8 9) (ay_at hp 8 11) (ay_at hp 8 10) (ay_at hp 8 3) (ay_at hp 8 4) (ay_at hp 11) (ay_at hp 12) := (ax_XF_lt (x := 50) (Nat.le_of_ble_eq_true rfl)).mp (ax_gx hE (50, [3, 7]) ax_m0)
  rw [c_units] at F50
  have F78 : pz7 (pz_gt (ρ 0)) (pz_gN (ρ 0)) ((ρ 1) / 4) 8 := (ax_XF_lt (x := 78) (Nat.le_of_ble_eq_true rfl)).mp (ax_gx hE (78, [3, 7]) ax_m1)
  have F107 : pz107 (pz_gt (ρ 0)) (pz_gN (ρ 0)) ((ρ 1) / 4) ((20) / 4) := (ax_XF_lt (x := 107) (Nat.le_of_ble_eq_true rfl)).mp (ax_gx hE (107, [3, 7, 20]) ax_m2)
  refine ⟨(fun y hy => by cases hy), _, List.mem_cons_self, ρ, fun _ _ => rfl, ax_px hE rfl (fun y hy => ?_)⟩
  cases List.mem_singleton.mp hy
  refine (ax_XF_lt (x := 64) (Nat.le_of_ble_eq_true rfl)).mpr ?_
  show pz64 (pz_gt (ρ 0)) (pz_gN (ρ 0)) ((ρ 1) / 4) ((16) / 4)
  exact pq_ru4 F50 F78 F107 (show ρ 2 / 4 = 40 by omega)

theorem axq_ru6c5_5 : ax_RO ax_wC ax_XC axu_ru6c5_5 := by
  intro ρ hp hE hT
  have j0 : ρ 0 % 4 = 1 := pz_gj hE 0 (Nat.le_of_ble_eq_true rfl) rfl
  have j1 : ρ 1 % 4 = 1 := pz_gj hE 1 (Nat.le_of_ble_eq_true rfl) rfl
  have j2 : ρ 2 % 4 = 1 := pz_gj hE 2 (Nat.le_of_ble_eq_true rfl) rfl
  obtain ⟨i3a, i3b, i3c, i3d⟩ := pz_gi hE 3 2147483648 2147483687 (Nat.le_of_ble_eq_true rfl) rfl
  obtain ⟨i4a, i4b, i4c, i4d⟩ := pz_gi hE 4 0 4294967295 (Nat.le_of_ble_eq_true rfl) rfl
  have c_units : ay_at hp 10 4 = some (ρ 3) := ay_gfj hE 50 16 15 10 4 ax_m5 (ax_vlq rfl rfl) (ax_vlj rfl rfl)
  have s1 : (ρ 3 / 4 + 2147483648) % 4294967296 + (4 / 4 + 2147483648) % 4294967296 = (ρ 4 / 4 + 2147483648) % 4294967296 + 2147483648 := pz_gs hE 15 4 19 ax_m6
  obtain ⟨-, -, -, -, F50⟩ : ay_ex hp 8 ∧ ay_ex hp 10 ∧ ay_ex hp 11 ∧ ay_ex hp 12 ∧ pz_x50 (ρ 0) (ρ 1) (ay_at hp 8 5) (ay_at hp 8 6) (ay_at hp 8 7) (ay_at hp 8 8) (ay_at hp 10 0) (ay_at hp 10 1) (ay_at hp 10 2) (ay_at hp 10 3) (ay_at hp 10 4) (ay_at hp 8 9) (ay_at hp 8 11) (ay_at hp 8 10) (ay_at hp 8 3) (ay_at hp 8 4) (ay_at hp 11) (ay_at hp 12) := (ax_XF_lt (x := 50) (Nat.le_of_ble_eq_true rfl)).mp (ax_gx hE (50, [3, 7]) ax_m0)
  rw [c_units] at F50
  have F78 : pz7 (pz_gt (ρ 0)) (pz_gN (ρ 0)) ((ρ 1) / 4) 8 := (ax_XF_lt (x := 78) (Nat.le_of_ble_eq_true rfl)).mp (ax_gx hE (78, [3, 7]) ax_m1)
  have F107 : pz107 (pz_gt (ρ 0)) (pz_gN (ρ 0)) ((ρ 1) / 4) ((20) / 4) := (ax_XF_lt (x := 107) (Nat.le_of_ble_eq_true rfl)).mp (ax_gx hE (107, [3, 7, 20]) ax_m2)
  have F90 : (pz90 (pz_gt (ρ 0)) (pz_gN (ρ 0)) ((ρ 1) / 4) ((ρ 2) / 4) ∧ 1 ≤ (ρ 2) / 4) := (ax_XF_lt (x := 90) (Nat.le_of_ble_eq_true rfl)).mp (ax_gx hE (90, [3, 7, 11]) ax_m3)
  have F91 : pz_dp ((ρ 2) / 4) = (20) / 4 := (ax_XF_lt (x := 91) (Nat.le_of_ble_eq_true rfl)).mp (ax_gx hE (91, [11, 20]) ax_m4)
  have st := pq_ru6m F50 F78 F107 F90.1 (by rw [F91]; decide) (show ρ 3 / 4 ≤ 39 by omega)
  obtain ⟨ρ', h1, h2⟩ := pz_pn2 (K := ρ 1 / 4 + 1) (L := 2 * (ρ 2 / 4) + 1) (xf := [(553, [50, 16, 19, 3, 23]), (78, [3, 23]), (90, [3, 23, 27]), (108, [11, 27]), (91, [27, 24]), (1030, [7, 23]), (98, [7, 23])]) hE (by decide) (fun ρ' h1 h2 h3 x hx => by
    have q0 : ρ' 0 = ρ 0 := h1 0 (by decide)
    have q1 : ρ' 1 = ρ 1 := h1 1 (by decide)
    have q2 : ρ' 2 = ρ 2 := h1 2 (by decide)
    have q3 : ρ' 3 = ρ 3 := h1 3 (by decide)
    have q4 : ρ' 4 = ρ 4 := h1 4 (by decide)
    rcases List.mem_cons.mp hx with e | hx
    · subst e
      refine (ax_XF_wr (x := 53) (Nat.le_of_ble_eq_true rfl)).mpr ?_
      show ay_ex (ax_upd hp 50 (16) (ρ' 4)) 8 ∧ ay_ex (ax_upd hp 50 (16) (ρ' 4)) 10 ∧ ay_ex (ax_upd hp 50 (16) (ρ' 4)) 11 ∧ ay_ex (ax_upd hp 50 (16) (ρ' 4)) 12 ∧ pz_x53 (ρ' 0) (ρ' 5) (ay_at (ax_upd hp 50 (16) (ρ' 4)) 8 5) (ay_at (ax_upd hp 50 (16) (ρ' 4)) 10 0) (ay_at (ax_upd hp 50 (16) (ρ' 4)) 10 1) (ay_at (ax_upd hp 50 (16) (ρ' 4)) 10 2) (ay_at (ax_upd hp 50 (16) (ρ' 4)) 10 3) (ay_at (ax_upd hp 50 (16) (ρ' 4)) 10 4) (ay_at (ax_upd hp 50 (16) (ρ' 4)) 8 9) (ay_at (ax_upd hp 50 (16) (ρ' 4)) 8 11) (ay_at (ax_upd hp 50 (16) (ρ' 4)) 8 10) (ay_at (ax_upd hp 50 (16) (ρ' 4)) 8 3) (ay_at (ax_upd hp 50 (16) (ρ' 4)) 8 4) (ay_at (ax_upd hp 50 (16) (ρ' 4)) 11) (ay_at (ax_upd hp 50 (16) (ρ' 4)) 12)
      rw [q0, q4, h2]
      obtain ⟨o0, ho0⟩ := ay_some hT (q := 10) (g := 1) (n := 12) rfl rfl (j := 16 / 4) (Nat.le_of_ble_eq_true rfl)
      have u1 : ∀ q, q ≠ 10 → ay_at (ax_upd hp 50 16 (ρ 4)) q = ay_at hp q := fun q hq => funext (fun j => ay_upd_ne hT.1 hq j)
      have u2 : ∀ j, ay_at (ax_upd hp 50 16 (ρ 4)) 10 j = if j = 4 then some (ρ 4) else ay_at hp 10 j := fun j => ay_upd_eq hT.1 rfl ho0 j
      refine ⟨ay_ex_upd hT.1 (ax_cellT hT (q := 8) (g := 2) rfl), ay_ex_upd hT.1 (ax_cellT hT (q := 10) (g := 1) rfl), ay_ex_upd hT.1 (ax_cellT hT (q := 11) (g := 14) rfl), ay_ex_upd hT.1 (ax_cellT hT (q := 12) (g := 15) rfl), ?_⟩
      rw [u1 8 (Nat.ne_of_beq_eq_false rfl), u2 0, if_neg (show ¬ 0 = 4 from Nat.ne_of_beq_eq_false rfl), u2 1, if_neg (show ¬ 1 = 4 from Nat.ne_of_beq_eq_false rfl), u2 2, if_neg (show ¬ 2 = 4 from Nat.ne_of_beq_eq_false rfl), u2 3, if_neg (show ¬ 3 = 4 from Nat.ne_of_beq_eq_false rfl), u2 4, if_pos rfl, u1 11 (Nat.ne_of_beq_eq_false rfl), u1 12 (Nat.ne_of_beq_eq_false rfl)]
      have eu : ρ 4 / 4 = ρ 3 / 4 + 1 := by omega
      refine pz_53 (pz_41 _) rfl ?_
      show pz53 _ _ _ _ _ _ _ _ (ρ 4 / 4) _ _ _ _ _ _ _
      rw [eu]
      exact st.1
    rcases List.mem_cons.mp hx with e | hx
    · subst e
      refine (ax_XF_lt (x := 78) (Nat.le_of_ble_eq_true rfl)).mpr ?_
      show pz7 (pz_gt (ρ' 0)) (pz_gN (ρ' 0)) ((ρ' 5) / 4) 8
      rw [q0, h2]
      rw [pz_41]
      exact st.2.1
    rcases List.mem_cons.mp hx with e | hx
    · subst e
      refine (ax_XF_lt (x := 90) (Nat.le_of_ble_eq_true rfl)).mpr ?_
      show (pz90 (pz_gt (ρ' 0)) (pz_gN (ρ' 0)) ((ρ' 5) / 4) ((ρ' 6) / 4) ∧ 1 ≤ (ρ' 6) / 4)
      rw [q0, h2, h3]
      rw [pz_41, pz_41]
      exact ⟨st.2.2, by omega⟩
    rcases List.mem_cons.mp hx with e | hx
    · subst e
      refine (ax_XF_lt (x := 108) (Nat.le_of_ble_eq_true rfl)).mpr ?_
      show ((ρ' 6) / 4 = 2 * ((ρ' 2) / 4) + 1 ∧ 1 ≤ (ρ' 2) / 4)
      rw [q2, h3]
      rw [pz_41]
      exact ⟨rfl, F90.2⟩
    rcases List.mem_cons.mp hx with e | hx
    · subst e
      refine (ax_XF_lt (x := 91) (Nat.le_of_ble_eq_true rfl)).mpr ?_
      show pz_dp ((ρ' 6) / 4) = (24) / 4
      rw [h3]
      rw [pz_41, pz_dp_push F90.2 (Or.inr rfl), F91]
    rcases List.mem_cons.mp hx with e | hx
    · subst e
      refine (ax_XF_bi (o := 30) (by decide)).mpr (Or.inr ⟨rfl, ?_⟩)
      show ρ' 1 < ρ' 5
      rw [q1, h2]
      omega
    cases List.mem_singleton.mp hx
    refine (ax_XF_lt (x := 98) (Nat.le_of_ble_eq_true rfl)).mpr ?_
    show (ρ' 5) / 4 = (ρ' 1) / 4 + 1
    rw [q1, h2]
    rw [pz_41])
  exact ⟨(fun y hy => by cases hy), _, List.mem_cons_self, ρ', h1, h2⟩

theorem axq_ru4c40_5 : ax_RO ax_wC ax_XC axu_ru4c40_5 := by
  intro ρ hp hE hT
  have j0 : ρ 0 % 4 = 1 := pz_gj hE 0 (Nat.le_of_ble_eq_true rfl) rfl
  have j1 : ρ 1 % 4 = 1 := pz_gj hE 1 (Nat.le_of_ble_eq_true rfl) rfl
  obtain ⟨i2a, i2b, i2c, i2d⟩ := pz_gi hE 2 2147483688 2147483688 (Nat.le_of_ble_eq_true rfl) rfl
  have c_units : ay_at hp 10 4 = some (ρ 2) := ay_gfj hE 50 16 11 10 4 ax_m3 (ax_vlq rfl rfl) (ax_vlj rfl rfl)
  obtain ⟨-, -, -, -, F50⟩ : ay_ex hp 8 ∧ ay_ex hp 10 ∧ ay_ex hp 11 ∧ ay_ex hp 12 ∧ pz_x50 (ρ 0) (ρ 1) (ay_at hp 8 5) (ay_at hp 8 6) (ay_at hp 8 7) (ay_at hp 8 8) (ay_at hp 10 0) (ay_at hp 10 1) (ay_at hp 10 2) (ay_at hp 10 3) (ay_at hp 10 4) (ay_at hp 8 9) (ay_at hp 8 11) (ay_at hp 8 10) (ay_at hp 8 3) (ay_at hp 8 4) (ay_at hp 11) (ay_at hp 12) := (ax_XF_lt (x := 50) (Nat.le_of_ble_eq_true rfl)).mp (ax_gx hE (50, [3, 7]) ax_m0)
  rw [c_units] at F50
  have F78 : pz7 (pz_gt (ρ 0)) (pz_gN (ρ 0)) ((ρ 1) / 4) 8 := (ax_XF_lt (x := 78) (Nat.le_of_ble_eq_true rfl)).mp (ax_gx hE (78, [3, 7]) ax_m1)
  have F107 : pz107 (pz_gt (ρ 0)) (pz_gN (ρ 0)) ((ρ 1) / 4) ((160) / 4) := (ax_XF_lt (x := 107) (Nat.le_of_ble_eq_true rfl)).mp (ax_gx hE (107, [3, 7, 160]) ax_m2)
  refine ⟨(fun y hy => by cases hy), _, List.mem_cons_self, ρ, fun _ _ => rfl, ax_px hE rfl (fun y hy => ?_)⟩
  cases List.mem_singleton.mp hy
  refine (ax_XF_lt (x := 64) (Nat.le_of_ble_eq_true rfl)).mpr ?_
  show pz64 (pz_gt (ρ 0)) (pz_gN (ρ 0)) ((ρ 1) / 4) ((16) / 4)
  exact pq_ru4 F50 F78 F107 (show ρ 2 / 4 = 40 by omega)

theorem axq_ru6c40_5 : ax_RO ax_wC ax_XC axu_ru6c40_5 := by
  intro ρ hp hE hT
  have j0 : ρ 0 % 4 = 1 := pz_gj hE 0 (Nat.le_of_ble_eq_true rfl) rfl
  have j1 : ρ 1 % 4 = 1 := pz_gj hE 1 (Nat.le_of_ble_eq_true rfl) rfl
  have j2 : ρ 2 % 4 = 1 := pz_gj hE 2 (Nat.le_of_ble_eq_true rfl) rfl
  obtain ⟨i3a, i3b, i3c, i3d⟩ := pz_gi hE 3 2147483648 2147483687 (Nat.le_of_ble_eq_true rfl) rfl
  obtain ⟨i4a, i4b, i4c, i4d⟩ := pz_gi hE 4 0 4294967295 (Nat.le_of_ble_eq_true rfl) rfl
  have c_units : ay_at hp 10 4 = some (ρ 3) := ay_gfj hE 50 16 15 10 4 ax_m5 (ax_vlq rfl rfl) (ax_vlj rfl rfl)
  have s1 : (ρ 3 / 4 + 2147483648) % 4294967296 + (4 / 4 + 2147483648) % 4294967296 = (ρ 4 / 4 + 2147483648) % 4294967296 + 2147483648 := pz_gs hE 15 4 19 ax_m6
  obtain ⟨-, -, -, -, F50⟩ : ay_ex hp 8 ∧ ay_ex hp 10 ∧ ay_ex hp 11 ∧ ay_ex hp 12 ∧ pz_x50 (ρ 0) (ρ 1) (ay_at hp 8 5) (ay_at hp 8 6) (ay_at hp 8 7) (ay_at hp 8 8) (ay_at hp 10 0) (ay_at hp 10 1) (ay_at hp 10 2) (ay_at hp 10 3) (ay_at hp 10 4) (ay_at hp 8 9) (ay_at hp 8 11) (ay_at hp 8 10) (ay_at hp 8 3) (ay_at hp 8 4) (ay_at hp 11) (ay_at hp 12) := (ax_XF_lt (x := 50) (Nat.le_of_ble_eq_true rfl)).mp (ax_gx hE (50, [3, 7]) ax_m0)
  rw [c_units] at F50
  have F78 : pz7 (pz_gt (ρ 0)) (pz_gN (ρ 0)) ((ρ 1) / 4) 8 := (ax_XF_lt (x := 78) (Nat.le_of_ble_eq_true rfl)).mp (ax_gx hE (78, [3, 7]) ax_m1)
  have F107 : pz107 (pz_gt (ρ 0)) (pz_gN (ρ 0)) ((ρ 1) / 4) ((160) / 4) := (ax_XF_lt (x := 107) (Nat.le_of_ble_eq_true rfl)).mp (ax_gx hE (107, [3, 7, 160]) ax_m2)
  have F90 : (pz90 (pz_gt (ρ 0)) (pz_gN (ρ 0)) ((ρ 1) / 4) ((ρ 2) / 4) ∧ 1 ≤ (ρ 2) / 4) := (ax_XF_lt (x := 90) (Nat.le_of_ble_eq_true rfl)).mp (ax_gx hE (90, [3, 7, 11]) ax_m3)
  have F91 : pz_dp ((ρ 2) / 4) = (20) / 4 := (ax_XF_lt (x := 91) (Nat.le_of_ble_eq_true rfl)).mp (ax_gx hE (91, [11, 20]) ax_m4)
  have st := pq_ru6o F50 F78 F107 F90.1 (by rw [F91]; decide) (show ρ 3 / 4 ≤ 39 by omega)
  obtain ⟨ρ', h1, h2⟩ := pz_pn2 (K := ρ 1 / 4 + 1) (L := 2 * (ρ 2 / 4)) (xf := [(553, [50, 16, 19, 3, 23]), (78, [3, 23]), (90, [3, 23, 27]), (93, [27, 11]), (91, [27, 24]), (92, [27, 27]), (1030, [7, 23]), (98, [7, 23])]) hE (by decide) (fun ρ' h1 h2 h3 x hx => by
    have q0 : ρ' 0 = ρ 0 := h1 0 (by decide)
    have q1 : ρ' 1 = ρ 1 := h1 1 (by decide)
    have q2 : ρ' 2 = ρ 2 := h1 2 (by decide)
    have q3 : ρ' 3 = ρ 3 := h1 3 (by decide)
    have q4 : ρ' 4 = ρ 4 := h1 4 (by decide)
    rcases List.mem_cons.mp hx with e | hx
    · subst e
      refine (ax_XF_wr (x := 53) (Nat.le_of_ble_eq_true rfl)).mpr ?_
      show ay_ex (ax_upd hp 50 (16) (ρ' 4)) 8 ∧ ay_ex (ax_upd hp 50 (16) (ρ' 4)) 10 ∧ ay_ex (ax_upd hp 50 (16) (ρ' 4)) 11 ∧ ay_ex (ax_upd hp 50 (16) (ρ' 4)) 12 ∧ pz_x53 (ρ' 0) (ρ' 5) (ay_at (ax_upd hp 50 (16) (ρ' 4)) 8 5) (ay_at (ax_upd hp 50 (16) (ρ' 4)) 10 0) (ay_at (ax_upd hp 50 (16) (ρ' 4)) 10 1) (ay_at (ax_upd hp 50 (16) (ρ' 4)) 10 2) (ay_at (ax_upd hp 50 (16) (ρ' 4)) 10 3) (ay_at (ax_upd hp 50 (16) (ρ' 4)) 10 4) (ay_at (ax_upd hp 50 (16) (ρ' 4)) 8 9) (ay_at (ax_upd hp 50 (16) (ρ' 4)) 8 11) (ay_at (ax_upd hp 50 (16) (ρ' 4)) 8 10) (ay_at (ax_upd hp 50 (16) (ρ' 4)) 8 3) (ay_at (ax_upd hp 50 (16) (ρ' 4)) 8 4) (ay_at (ax_upd hp 50 (16) (ρ' 4)) 11) (ay_at (ax_upd hp 50 (16) (ρ' 4)) 12)
      rw [q0, q4, h2]
      obtain ⟨o0, ho0⟩ := ay_some hT (q := 10) (g := 1) (n := 12) rfl rfl (j := 16 / 4) (Nat.le_of_ble_eq_true rfl)
      have u1 : ∀ q, q ≠ 10 → ay_at (ax_upd hp 50 16 (ρ 4)) q = ay_at hp q := fun q hq => funext (fun j => ay_upd_ne hT.1 hq j)
      have u2 : ∀ j, ay_at (ax_upd hp 50 16 (ρ 4)) 10 j = if j = 4 then some (ρ 4) else ay_at hp 10 j := fun j => ay_upd_eq hT.1 rfl ho0 j
      refine ⟨ay_ex_upd hT.1 (ax_cellT hT (q := 8) (g := 2) rfl), ay_ex_upd hT.1 (ax_cellT hT (q := 10) (g := 1) rfl), ay_ex_upd hT.1 (ax_cellT hT (q := 11) (g := 14) rfl), ay_ex_upd hT.1 (ax_cellT hT (q := 12) (g := 15) rfl), ?_⟩
      rw [u1 8 (Nat.ne_of_beq_eq_false rfl), u2 0, if_neg (show ¬ 0 = 4 from Nat.ne_of_beq_eq_false rfl), u2 1, if_neg (show ¬ 1 = 4 from Nat.ne_of_beq_eq_false rfl), u2 2, if_neg (show ¬ 2 = 4 from Nat.ne_of_beq_eq_false rfl), u2 3, if_neg (show ¬ 3 = 4 from Nat.ne_of_beq_eq_false rfl), u2 4, if_pos rfl, u1 11 (Nat.ne_of_beq_eq_false rfl), u1 12 (Nat.ne_of_beq_eq_false rfl)]
      have eu : ρ 4 / 4 = ρ 3 / 4 + 1 := by omega
      refine pz_53 (pz_41 _) rfl ?_
      show pz53 _ _ _ _ _ _ _ _ (ρ 4 / 4) _ _ _ _ _ _ _
      rw [eu]
      exact st.1
    rcases List.mem_cons.mp hx with e | hx
    · subst e
      refine (ax_XF_lt (x := 78) (Nat.le_of_ble_eq_true rfl)).mpr ?_
      show pz7 (pz_gt (ρ' 0)) (pz_gN (ρ' 0)) ((ρ' 5) / 4) 8
      rw [q0, h2]
      rw [pz_41]
      exact st.2.1
    rcases List.mem_cons.mp hx with e | hx
    · subst e
      refine (ax_XF_lt (x := 90) (Nat.le_of_ble_eq_true rfl)).mpr ?_
      show (pz90 (pz_gt (ρ' 0)) (pz_gN (ρ' 0)) ((ρ' 5) / 4) ((ρ' 6) / 4) ∧ 1 ≤ (ρ' 6) / 4)
      rw [q0, h2, h3]
      rw [pz_41, pz_41]
      exact ⟨st.2.2, by have := F90.2; omega⟩
    rcases List.mem_cons.mp hx with e | hx
    · subst e
      refine (ax_XF_lt (x := 93) (Nat.le_of_ble_eq_true rfl)).mpr ?_
      show (ρ' 6) / 4 = 2 * ((ρ' 2) / 4)
      rw [q2, h3]
      rw [pz_41]
    rcases List.mem_cons.mp hx with e | hx
    · subst e
      refine (ax_XF_lt (x := 91) (Nat.le_of_ble_eq_true rfl)).mpr ?_
      show pz_dp ((ρ' 6) / 4) = (24) / 4
      rw [h3]
      rw [pz_41, pz_dp_push F90.2 (Or.inl rfl), F91]
    rcases List.mem_cons.mp hx with e | hx
    · subst e
      refine (ax_XF_lt (x := 92) (Nat.le_of_ble_eq_true rfl)).mpr ?_
      show pz_strip ((ρ' 6) / 4) = (ρ' 6) / 4
      rw [h3]
      rw [pz_41]
      exact pz_strip_even (Or.inl (by omega))
    rcases List.mem_cons.mp hx with e | hx
    · subst e
      refine (ax_XF_bi (o := 30) (by decide)).mpr (Or.inr ⟨rfl, ?_⟩)
      show ρ' 1 < ρ' 5
      rw [q1, h2]
      omega
    cases List.mem_singleton.mp hx
    refine (ax_XF_lt (x := 98) (Nat.le_of_ble_eq_true rfl)).mpr ?_
    show (ρ' 5) / 4 = (ρ' 1) / 4 + 1
    rw [q1, h2]
    rw [pz_41])
  exact ⟨(fun y hy => by cases hy), _, List.mem_cons_self, ρ', h1, h2⟩

theorem axq_rut1_5 : ax_RO ax_wC ax_XC axu_rut1_5 := by
  intro ρ hp hE hT
  have j0 : ρ 0 % 4 = 1 := pz_gj hE 0 (Nat.le_of_ble_eq_true rfl) rfl
  have j1 : ρ 1 % 4 = 1 := pz_gj hE 1 (Nat.le_of_ble_eq_true rfl) rfl
  have j2 : ρ 2 % 4 = 1 := pz_gj hE 2 (Nat.le_of_ble_eq_true rfl) rfl
  have j3 : ρ 3 % 4 = 1 := pz_gj hE 3 (Nat.le_of_ble_eq_true rfl) rfl
  have o1 : ρ 2 < ρ 3 := pz_go hE 11 15 (by decide)
  have o2 : ρ 1 < ρ 2 := pz_go hE 7 11 (by decide)
  obtain ⟨-, -, -, -, F50⟩ : ay_ex hp 8 ∧ ay_ex hp 10 ∧ ay_ex hp 11 ∧ ay_ex hp 12 ∧ pz_x50 (ρ 0) (ρ 3) (ay_at hp 8 5) (ay_at hp 8 6) (ay_at hp 8 7) (ay_at hp 8 8) (ay_at hp 10 0) (ay_at hp 10 1) (ay_at hp 10 2) (ay_at hp 10 3) (ay_at hp 10 4) (ay_at hp 8 9) (ay_at hp 8 11) (ay_at hp 8 10) (ay_at hp 8 3) (ay_at hp 8 4) (ay_at hp 11) (ay_at hp 12) := (ax_XF_lt (x := 50) (Nat.le_of_ble_eq_true rfl)).mp (ax_gx hE (50, [3, 15]) ax_m0)
  refine ⟨(fun y hy => by cases hy), _, List.mem_cons_self, ρ, fun _ _ => rfl, ax_px hE rfl (fun y hy => ?_)⟩
  cases List.mem_singleton.mp hy
  refine (ax_XF_bi (o := 30) (by decide)).mpr (Or.inr ⟨rfl, ?_⟩)
  show ρ 1 < ρ 3
  omega

theorem axq_rut2_5 : ax_RO ax_wC ax_XC axu_rut2_5 := by
  intro ρ hp hE hT
  have j0 : ρ 0 % 4 = 1 := pz_gj hE 0 (Nat.le_of_ble_eq_true rfl) rfl
  have j1 : ρ 1 % 4 = 1 := pz_gj hE 1 (Nat.le_of_ble_eq_true rfl) rfl
  have j2 : ρ 2 % 4 = 1 := pz_gj hE 2 (Nat.le_of_ble_eq_true rfl) rfl
  have j3 : ρ 3 % 4 = 1 := pz_gj hE 3 (Nat.le_of_ble_eq_true rfl) rfl
  have o1 : ρ 2 < ρ 3 := pz_go hE 11 15 (by decide)
  have o2 : ρ 1 < ρ 2 := pz_go hE 7 11 (by decide)
  obtain ⟨-, -, -, -, F50⟩ : ay_ex hp 8 ∧ ay_ex hp 10 ∧ ay_ex hp 11 ∧ ay_ex hp 12 ∧ pz_x50 (ρ 0) (ρ 3) (ay_at hp 8 5) (ay_at hp 8 6) (ay_at hp 8 7) (ay_at hp 8 8) (ay_at hp 10 0) (ay_at hp 10 1) (ay_at hp 10 2) (ay_at hp 10 3) (ay_at hp 10 4) (ay_at hp 8 9) (ay_at hp 8 11) (ay_at hp 8 10) (ay_at hp 8 3) (ay_at hp 8 4) (ay_at hp 11) (ay_at hp 12) := (ax_XF_lt (x := 50) (Nat.le_of_ble_eq_true rfl)).mp (ax_gx hE (50, [3, 15]) ax_m0)
  refine ⟨(fun y hy => by cases hy), _, List.mem_cons_self, ρ, fun _ _ => rfl, ax_px hE rfl (fun y hy => ?_)⟩
  cases List.mem_singleton.mp hy
  refine (ax_XF_bi (o := 30) (by decide)).mpr (Or.inr ⟨rfl, ?_⟩)
  show ρ 1 < ρ 3
  omega

theorem axq_rut3_5 : ax_RO ax_wC ax_XC axu_rut3_5 := by
  intro ρ hp hE hT
  have j0 : ρ 0 % 4 = 1 := pz_gj hE 0 (Nat.le_of_ble_eq_true rfl) rfl
  have j1 : ρ 1 % 4 = 1 := pz_gj hE 1 (Nat.le_of_ble_eq_true rfl) rfl
  have j2 : ρ 2 % 4 = 1 := pz_gj hE 2 (Nat.le_of_ble_eq_true rfl) rfl
  have j3 : ρ 3 % 4 = 1 := pz_gj hE 3 (Nat.le_of_ble_eq_true rfl) rfl
  have o1 : ρ 2 < ρ 3 := pz_go hE 11 15 (by decide)
  have o2 : ρ 1 < ρ 2 := pz_go hE 7 11 (by decide)
  obtain ⟨-, -, -, -, F50⟩ : ay_ex hp 8 ∧ ay_ex hp 10 ∧ ay_ex hp 11 ∧ ay_ex hp 12 ∧ pz_x50 (ρ 0) (ρ 3) (ay_at hp 8 5) (ay_at hp 8 6) (ay_at hp 8 7) (ay_at hp 8 8) (ay_at hp 10 0) (ay_at hp 10 1) (ay_at hp 10 2) (ay_at hp 10 3) (ay_at hp 10 4) (ay_at hp 8 9) (ay_at hp 8 11) (ay_at hp 8 10) (ay_at hp 8 3) (ay_at hp 8 4) (ay_at hp 11) (ay_at hp 12) := (ax_XF_lt (x := 50) (Nat.le_of_ble_eq_true rfl)).mp (ax_gx hE (50, [3, 15]) ax_m0)
  refine ⟨(fun y hy => by cases hy), _, List.mem_cons_self, ρ, fun _ _ => rfl, ax_px hE rfl (fun y hy => ?_)⟩
  cases List.mem_singleton.mp hy
  refine (ax_XF_bi (o := 30) (by decide)).mpr (Or.inr ⟨rfl, ?_⟩)
  show ρ 1 < ρ 3
  omega

theorem axq_ru7_5 : ax_RO ax_wC ax_XC axu_ru7_5 := by
  intro ρ hp hE hT
  have j0 : ρ 0 % 4 = 1 := pz_gj hE 0 (Nat.le_of_ble_eq_true rfl) rfl
  have j1 : ρ 1 % 4 = 1 := pz_gj hE 1 (Nat.le_of_ble_eq_true rfl) rfl
  have j2 : ρ 2 % 4 = 1 := pz_gj hE 2 (Nat.le_of_ble_eq_true rfl) rfl
  have j3 : ρ 3 % 4 = 1 := pz_gj hE 3 (Nat.le_of_ble_eq_true rfl) rfl
  have j4 : ρ 4 % 4 = 1 := pz_gj hE 4 (Nat.le_of_ble_eq_true rfl) rfl
  obtain ⟨-, -, -, -, F50⟩ : ay_ex hp 8 ∧ ay_ex hp 10 ∧ ay_ex hp 11 ∧ ay_ex hp 12 ∧ pz_x50 (ρ 0) (ρ 1) (ay_at hp 8 5) (ay_at hp 8 6) (ay_at hp 8 7) (ay_at hp 8 8) (ay_at hp 10 0) (ay_at hp 10 1) (ay_at hp 10 2) (ay_at hp 10 3) (ay_at hp 10 4) (ay_at hp 8 9) (ay_at hp 8 11) (ay_at hp 8 10) (ay_at hp 8 3) (ay_at hp 8 4) (ay_at hp 11) (ay_at hp 12) := (ax_XF_lt (x := 50) (Nat.le_of_ble_eq_true rfl)).mp (ax_gx hE (50, [3, 7]) ax_m0)
  have F90 : (pz90 (pz_gt (ρ 0)) (pz_gN (ρ 0)) ((ρ 1) / 4) ((ρ 4) / 4) ∧ 1 ≤ (ρ 4) / 4) := (ax_XF_lt (x := 90) (Nat.le_of_ble_eq_true rfl)).mp (ax_gx hE (90, [3, 7, 19]) ax_m1)
  have F92 : pz_strip ((ρ 3) / 4) = (ρ 4) / 4 := (ax_XF_lt (x := 92) (Nat.le_of_ble_eq_true rfl)).mp (ax_gx hE (92, [15, 19]) ax_m2)
  have F108 : ((ρ 3) / 4 = 2 * ((ρ 2) / 4) + 1 ∧ 1 ≤ (ρ 2) / 4) := (ax_XF_lt (x := 108) (Nat.le_of_ble_eq_true rfl)).mp (ax_gx hE (108, [11, 15]) ax_m3)
  refine ⟨(fun y hy => by cases hy), _, List.mem_cons_self, ρ, fun _ _ => rfl, ax_px hE rfl (fun y hy => ?_)⟩
  cases List.mem_singleton.mp hy
  refine (ax_XF_lt (x := 92) (Nat.le_of_ble_eq_true rfl)).mpr ?_
  show pz_strip ((ρ 2) / 4) = (ρ 4) / 4
  rw [F108.1, pz_strip_odd F108.2] at F92
  exact F92

theorem axq_ru1_6 : ax_RO ax_wC ax_XC axu_ru1_6 := by
  intro ρ hp hE hT
  have j0 : ρ 0 % 4 = 1 := pz_gj hE 0 (Nat.le_of_ble_eq_true rfl) rfl
  have j1 : ρ 1 % 4 = 1 := pz_gj hE 1 (Nat.le_of_ble_eq_true rfl) rfl
  obtain ⟨-, -, -, -, F50⟩ : ay_ex hp 8 ∧ ay_ex hp 10 ∧ ay_ex hp 11 ∧ ay_ex hp 12 ∧ pz_x50 (ρ 0) (ρ 1) (ay_at hp 8 5) (ay_at hp 8 6) (ay_at hp 8 7) (ay_at hp 8 8) (ay_at hp 10 0) (ay_at hp 10 1) (ay_at hp 10 2) (ay_at hp 10 3) (ay_at hp 10 4) (ay_at hp 8 9) (ay_at hp 8 11) (ay_at hp 8 10) (ay_at hp 8 3) (ay_at hp 8 4) (ay_at hp 11) (ay_at hp 12) := (ax_XF_lt (x := 50) (Nat.le_of_ble_eq_true rfl)).mp (ax_gx hE (50, [3, 7]) ax_m0)
  have F78 : pz7 (pz_gt (ρ 0)) (pz_gN (ρ 0)) ((ρ 1) / 4) 8 := (ax_XF_lt (x := 78) (Nat.le_of_ble_eq_true rfl)).mp (ax_gx hE (78, [3, 7]) ax_m1)
  have F106 : pz106 (pz_gt (ρ 0)) (pz_gN (ρ 0)) ((ρ 1) / 4) ((0) / 4) := (ax_XF_lt (x := 106) (Nat.le_of_ble_eq_true rfl)).mp (ax_gx hE (106, [3, 7, 0]) ax_m2)
  refine ⟨(fun y hy => by cases hy), _, List.mem_cons_self, ρ, fun _ _ => rfl, ax_px hE rfl (fun y hy => ?_)⟩
  cases List.mem_singleton.mp hy
  refine (ax_XF_lt (x := 64) (Nat.le_of_ble_eq_true rfl)).mpr ?_
  show pz64 (pz_gt (ρ 0)) (pz_gN (ρ 0)) ((ρ 1) / 4) ((4) / 4)
  exact pq_ru1 F78 F106

theorem axq_ru2_6 : ax_RO ax_wC ax_XC axu_ru2_6 := by
  intro ρ hp hE hT
  have j0 : ρ 0 % 4 = 1 := pz_gj hE 0 (Nat.le_of_ble_eq_true rfl) rfl
  have j1 : ρ 1 % 4 = 1 := pz_gj hE 1 (Nat.le_of_ble_eq_true rfl) rfl
  obtain ⟨i2a, i2b, i2c, i2d⟩ := pz_gi hE 2 2147484648 2147583648 (Nat.le_of_ble_eq_true rfl) rfl
  have c_value : ay_at hp 8 8 = some (ρ 2) := ay_gfj hE 42 32 11 8 8 ax_m3 (ax_vlq rfl rfl) (ax_vlj rfl rfl)
  obtain ⟨-, -, -, -, F50⟩ : ay_ex hp 8 ∧ ay_ex hp 10 ∧ ay_ex hp 11 ∧ ay_ex hp 12 ∧ pz_x50 (ρ 0) (ρ 1) (ay_at hp 8 5) (ay_at hp 8 6) (ay_at hp 8 7) (ay_at hp 8 8) (ay_at hp 10 0) (ay_at hp 10 1) (ay_at hp 10 2) (ay_at hp 10 3) (ay_at hp 10 4) (ay_at hp 8 9) (ay_at hp 8 11) (ay_at hp 8 10) (ay_at hp 8 3) (ay_at hp 8 4) (ay_at hp 11) (ay_at hp 12) := (ax_XF_lt (x := 50) (Nat.le_of_ble_eq_true rfl)).mp (ax_gx hE (50, [3, 7]) ax_m0)
  rw [c_value] at F50
  have F78 : pz7 (pz_gt (ρ 0)) (pz_gN (ρ 0)) ((ρ 1) / 4) 8 := (ax_XF_lt (x := 78) (Nat.le_of_ble_eq_true rfl)).mp (ax_gx hE (78, [3, 7]) ax_m1)
  have F106 : pz106 (pz_gt (ρ 0)) (pz_gN (ρ 0)) ((ρ 1) / 4) ((4) / 4) := (ax_XF_lt (x := 106) (Nat.le_of_ble_eq_true rfl)).mp (ax_gx hE (106, [3, 7, 4]) ax_m2)
  refine ⟨(fun y hy => by cases hy), _, List.mem_cons_self, ρ, fun _ _ => rfl, ax_px hE rfl (fun y hy => ?_)⟩
  cases List.mem_singleton.mp hy
  refine (ax_XF_lt (x := 64) (Nat.le_of_ble_eq_true rfl)).mpr ?_
  show pz64 (pz_gt (ρ 0)) (pz_gN (ρ 0)) ((ρ 1) / 4) ((8) / 4)
  have k2 : pz_kd (pz_gt (ρ 0)) (pz_gN (ρ 0)) (pz_p (pz_cf (pz_gt (ρ 0)) (pz_gN (ρ 0)) (ρ 1 / 4))) = 2 := by
    rcases F106 with ⟨_, z⟩ | ⟨z, _⟩ | ⟨z, _⟩ | ⟨_, ⟨z, _⟩ | ⟨z, _⟩ | ⟨z, _⟩⟩ | ⟨z, _⟩
    · exact z
    all_goals (exfalso; revert z; decide)
  have kd := F50.2.2.1
  have vl := pz_mc (F50.2.2.2.1 (kd.trans k2))
  replace vl : (ρ 2 / 4 ≤ 1000 ∧ pz_vl (pz_gt (ρ 0)) (pz_gN (ρ 0)) (pz_p (pz_cf (pz_gt (ρ 0)) (pz_gN (ρ 0)) (ρ 1 / 4))) = ρ 2 / 4) ∨ (1000 < ρ 2 / 4 ∧ pz_vl (pz_gt (ρ 0)) (pz_gN (ρ 0)) (pz_p (pz_cf (pz_gt (ρ 0)) (pz_gN (ρ 0)) (ρ 1 / 4))) = 1000) := vl
  exact pq_ru2 F78 F106 (by omega)

theorem axq_ru3_6 : ax_RO ax_wC ax_XC axu_ru3_6 := by
  intro ρ hp hE hT
  have j0 : ρ 0 % 4 = 1 := pz_gj hE 0 (Nat.le_of_ble_eq_true rfl) rfl
  have j1 : ρ 1 % 4 = 1 := pz_gj hE 1 (Nat.le_of_ble_eq_true rfl) rfl
  obtain ⟨i2a, i2b, i2c, i2d⟩ := pz_gi hE 2 2147483648 2147484647 (Nat.le_of_ble_eq_true rfl) rfl
  have c_value : ay_at hp 8 8 = some (ρ 2) := ay_gfj hE 42 32 11 8 8 ax_m2 (ax_vlq rfl rfl) (ax_vlj rfl rfl)
  obtain ⟨-, -, -, -, F50⟩ : ay_ex hp 8 ∧ ay_ex hp 10 ∧ ay_ex hp 11 ∧ ay_ex hp 12 ∧ pz_x50 (ρ 0) (ρ 1) (ay_at hp 8 5) (ay_at hp 8 6) (ay_at hp 8 7) (ay_at hp 8 8) (ay_at hp 10 0) (ay_at hp 10 1) (ay_at hp 10 2) (ay_at hp 10 3) (ay_at hp 10 4) (ay_at hp 8 9) (ay_at hp 8 11) (ay_at hp 8 10) (ay_at hp 8 3) (ay_at hp 8 4) (ay_at hp 11) (ay_at hp 12) := (ax_XF_lt (x := 50) (Nat.le_of_ble_eq_true rfl)).mp (ax_gx hE (50, [3, 7]) ax_m0)
  rw [c_value] at F50
  have F106 : pz106 (pz_gt (ρ 0)) (pz_gN (ρ 0)) ((ρ 1) / 4) ((4) / 4) := (ax_XF_lt (x := 106) (Nat.le_of_ble_eq_true rfl)).mp (ax_gx hE (106, [3, 7, 4]) ax_m1)
  refine ⟨(fun y hy => by cases hy), _, List.mem_cons_self, ρ, fun _ _ => rfl, ax_px hE rfl (fun y hy => ?_)⟩
  cases List.mem_singleton.mp hy
  refine (ax_XF_lt (x := 107) (Nat.le_of_ble_eq_true rfl)).mpr ?_
  show pz107 (pz_gt (ρ 0)) (pz_gN (ρ 0)) ((ρ 1) / 4) ((4) / 4)
  have k2 : pz_kd (pz_gt (ρ 0)) (pz_gN (ρ 0)) (pz_p (pz_cf (pz_gt (ρ 0)) (pz_gN (ρ 0)) (ρ 1 / 4))) = 2 := by
    rcases F106 with ⟨_, z⟩ | ⟨z, _⟩ | ⟨z, _⟩ | ⟨_, ⟨z, _⟩ | ⟨z, _⟩ | ⟨z, _⟩⟩ | ⟨z, _⟩
    · exact z
    all_goals (exfalso; revert z; decide)
  have kd := F50.2.2.1
  have vl := pz_mc (F50.2.2.2.1 (kd.trans k2))
  replace vl : (ρ 2 / 4 ≤ 1000 ∧ pz_vl (pz_gt (ρ 0)) (pz_gN (ρ 0)) (pz_p (pz_cf (pz_gt (ρ 0)) (pz_gN (ρ 0)) (ρ 1 / 4))) = ρ 2 / 4) ∨ (1000 < ρ 2 / 4 ∧ pz_vl (pz_gt (ρ 0)) (pz_gN (ρ 0)) (pz_p (pz_cf (pz_gt (ρ 0)) (pz_gN (ρ 0)) (ρ 1 / 4))) = 1000) := vl
  exact ⟨F106, by decide, fun _ => by omega⟩

theorem axq_ru3c2_6 : ax_RO ax_wC ax_XC axu_ru3c2_6 := by
  intro ρ hp hE hT
  have j0 : ρ 0 % 4 = 1 := pz_gj hE 0 (Nat.le_of_ble_eq_true rfl) rfl
  have j1 : ρ 1 % 4 = 1 := pz_gj hE 1 (Nat.le_of_ble_eq_true rfl) rfl
  obtain ⟨-, -, -, -, F50⟩ : ay_ex hp 8 ∧ ay_ex hp 10 ∧ ay_ex hp 11 ∧ ay_ex hp 12 ∧ pz_x50 (ρ 0) (ρ 1) (ay_at hp 8 5) (ay_at hp 8 6) (ay_at hp 8 7) (ay_at hp 8 8) (ay_at hp 10 0) (ay_at hp 10 1) (ay_at hp 10 2) (ay_at hp 10 3) (ay_at hp 10 4) (ay_at hp 8 9) (ay_at hp 8 11) (ay_at hp 8 10) (ay_at hp 8 3) (ay_at hp 8 4) (ay_at hp 11) (ay_at hp 12) := (ax_XF_lt (x := 50) (Nat.le_of_ble_eq_true rfl)).mp (ax_gx hE (50, [3, 7]) ax_m0)
  have F106 : pz106 (pz_gt (ρ 0)) (pz_gN (ρ 0)) ((ρ 1) / 4) ((8) / 4) := (ax_XF_lt (x := 106) (Nat.le_of_ble_eq_true rfl)).mp (ax_gx hE (106, [3, 7, 8]) ax_m1)
  refine ⟨(fun y hy => by cases hy), _, List.mem_cons_self, ρ, fun _ _ => rfl, ax_px hE rfl (fun y hy => ?_)⟩
  cases List.mem_singleton.mp hy
  refine (ax_XF_lt (x := 107) (Nat.le_of_ble_eq_true rfl)).mpr ?_
  show pz107 (pz_gt (ρ 0)) (pz_gN (ρ 0)) ((ρ 1) / 4) ((8) / 4)
  exact ⟨F106, by decide, fun z => absurd z (by decide)⟩

theorem axq_ru3c3_6 : ax_RO ax_wC ax_XC axu_ru3c3_6 := by
  intro ρ hp hE hT
  have j0 : ρ 0 % 4 = 1 := pz_gj hE 0 (Nat.le_of_ble_eq_true rfl) rfl
  have j1 : ρ 1 % 4 = 1 := pz_gj hE 1 (Nat.le_of_ble_eq_true rfl) rfl
  obtain ⟨-, -, -, -, F50⟩ : ay_ex hp 8 ∧ ay_ex hp 10 ∧ ay_ex hp 11 ∧ ay_ex hp 12 ∧ pz_x50 (ρ 0) (ρ 1) (ay_at hp 8 5) (ay_at hp 8 6) (ay_at hp 8 7) (ay_at hp 8 8) (ay_at hp 10 0) (ay_at hp 10 1) (ay_at hp 10 2) (ay_at hp 10 3) (ay_at hp 10 4) (ay_at hp 8 9) (ay_at hp 8 11) (ay_at hp 8 10) (ay_at hp 8 3) (ay_at hp 8 4) (ay_at hp 11) (ay_at hp 12) := (ax_XF_lt (x := 50) (Nat.le_of_ble_eq_true rfl)).mp (ax_gx hE (50, [3, 7]) ax_m0)
  have F106 : pz106 (pz_gt (ρ 0)) (pz_gN (ρ 0)) ((ρ 1) / 4) ((12) / 4) := (ax_XF_lt (x := 106) (Nat.le_of_ble_eq_true rfl)).mp (ax_gx hE (106, [3, 7, 12]) ax_m1)
  refine ⟨(fun y hy => by cases hy), _, List.mem_cons_self, ρ, fun _ _ => rfl, ax_px hE rfl (fun y hy => ?_)⟩
  cases List.mem_singleton.mp hy
  refine (ax_XF_lt (x := 107) (Nat.le_of_ble_eq_true rfl)).mpr ?_
  show pz107 (pz_gt (ρ 0)) (pz_gN (ρ 0)) ((ρ 1) / 4) ((12) / 4)
  exact ⟨F106, by decide, fun z => absurd z (by decide)⟩

theorem axq_ru3c4_6 : ax_RO ax_wC ax_XC axu_ru3c4_6 := by
  intro ρ hp hE hT
  have j0 : ρ 0 % 4 = 1 := pz_gj hE 0 (Nat.le_of_ble_eq_true rfl) rfl
  have j1 : ρ 1 % 4 = 1 := pz_gj hE 1 (Nat.le_of_ble_eq_true rfl) rfl
  obtain ⟨-, -, -, -, F50⟩ : ay_ex hp 8 ∧ ay_ex hp 10 ∧ ay_ex hp 11 ∧ ay_ex hp 12 ∧ pz_x50 (ρ 0) (ρ 1) (ay_at hp 8 5) (ay_at hp 8 6) (ay_at hp 8 7) (ay_at hp 8 8) (ay_at hp 10 0) (ay_at hp 10 1) (ay_at hp 10 2) (ay_at hp 10 3) (ay_at hp 10 4) (ay_at hp 8 9) (ay_at hp 8 11) (ay_at hp 8 10) (ay_at hp 8 3) (ay_at hp 8 4) (ay_at hp 11) (ay_at hp 12) := (ax_XF_lt (x := 50) (Nat.le_of_ble_eq_true rfl)).mp (ax_gx hE (50, [3, 7]) ax_m0)
  have F106 : pz106 (pz_gt (ρ 0)) (pz_gN (ρ 0)) ((ρ 1) / 4) ((16) / 4) := (ax_XF_lt (x := 106) (Nat.le_of_ble_eq_true rfl)).mp (ax_gx hE (106, [3, 7, 16]) ax_m1)
  refine ⟨(fun y hy => by cases hy), _, List.mem_cons_self, ρ, fun _ _ => rfl, ax_px hE rfl (fun y hy => ?_)⟩
  cases List.mem_singleton.mp hy
  refine (ax_XF_lt (x := 107) (Nat.le_of_ble_eq_true rfl)).mpr ?_
  show pz107 (pz_gt (ρ 0)) (pz_gN (ρ 0)) ((ρ 1) / 4) ((16) / 4)
  exact ⟨F106, by decide, fun z => absurd z (by decide)⟩

theorem axq_ru3c5_6 : ax_RO ax_wC ax_XC axu_ru3c5_6 := by
  intro ρ hp hE hT
  have j0 : ρ 0 % 4 = 1 := pz_gj hE 0 (Nat.le_of_ble_eq_true rfl) rfl
  have j1 : ρ 1 % 4 = 1 := pz_gj hE 1 (Nat.le_of_ble_eq_true rfl) rfl
  obtain ⟨-, -, -, -, F50⟩ : ay_ex hp 8 ∧ ay_ex hp 10 ∧ ay_ex hp 11 ∧ ay_ex hp 12 ∧ pz_x50 (ρ 0) (ρ 1) (ay_at hp 8 5) (ay_at hp 8 6) (ay_at hp 8 7) (ay_at hp 8 8) (ay_at hp 10 0) (ay_at hp 10 1) (ay_at hp 10 2) (ay_at hp 10 3) (ay_at hp 10 4) (ay_at hp 8 9) (ay_at hp 8 11) (ay_at hp 8 10) (ay_at hp 8 3) (ay_at hp 8 4) (ay_at hp 11) (ay_at hp 12) := (ax_XF_lt (x := 50) (Nat.le_of_ble_eq_true rfl)).mp (ax_gx hE (50, [3, 7]) ax_m0)
  have F106 : pz106 (pz_gt (ρ 0)) (pz_gN (ρ 0)) ((ρ 1) / 4) ((20) / 4) := (ax_XF_lt (x := 106) (Nat.le_of_ble_eq_true rfl)).mp (ax_gx hE (106, [3, 7, 20]) ax_m1)
  refine ⟨(fun y hy => by cases hy), _, List.mem_cons_self, ρ, fun _ _ => rfl, ax_px hE rfl (fun y hy => ?_)⟩
  cases List.mem_singleton.mp hy
  refine (ax_XF_lt (x := 107) (Nat.le_of_ble_eq_true rfl)).mpr ?_
  show pz107 (pz_gt (ρ 0)) (pz_gN (ρ 0)) ((ρ 1) / 4) ((20) / 4)
  exact ⟨F106, by decide, fun z => absurd z (by decide)⟩

theorem axq_ru3c40_6 : ax_RO ax_wC ax_XC axu_ru3c40_6 := by
  intro ρ hp hE hT
  have j0 : ρ 0 % 4 = 1 := pz_gj hE 0 (Nat.le_of_ble_eq_true rfl) rfl
  have j1 : ρ 1 % 4 = 1 := pz_gj hE 1 (Nat.le_of_ble_eq_true rfl) rfl
  obtain ⟨-, -, -, -, F50⟩ : ay_ex hp 8 ∧ ay_ex hp 10 ∧ ay_ex hp 11 ∧ ay_ex hp 12 ∧ pz_x50 (ρ 0) (ρ 1) (ay_at hp 8 5) (ay_at hp 8 6) (ay_at hp 8 7) (ay_at hp 8 8) (ay_at hp 10 0) (ay_at hp 10 1) (ay_at hp 10 2) (ay_at hp 10 3) (ay_at hp 10 4) (ay_at hp 8 9) (ay_at hp 8 11) (ay_at hp 8 10) (ay_at hp 8 3) (ay_at hp 8 4) (ay_at hp 11) (ay_at hp 12) := (ax_XF_lt (x := 50) (Nat.le_of_ble_eq_true rfl)).mp (ax_gx hE (50, [3, 7]) ax_m0)
  have F106 : pz106 (pz_gt (ρ 0)) (pz_gN (ρ 0)) ((ρ 1) / 4) ((160) / 4) := (ax_XF_lt (x := 106) (Nat.le_of_ble_eq_true rfl)).mp (ax_gx hE (106, [3, 7, 160]) ax_m1)
  refine ⟨(fun y hy => by cases hy), _, List.mem_cons_self, ρ, fun _ _ => rfl, ax_px hE rfl (fun y hy => ?_)⟩
  cases List.mem_singleton.mp hy
  refine (ax_XF_lt (x := 107) (Nat.le_of_ble_eq_true rfl)).mpr ?_
  show pz107 (pz_gt (ρ 0)) (pz_gN (ρ 0)) ((ρ 1) / 4) ((160) / 4)
  exact ⟨F106, by decide, fun z => absurd z (by decide)⟩

theorem axq_ru4c1_6 : ax_RO ax_wC ax_XC axu_ru4c1_6 := by
  intro ρ hp hE hT
  have j0 : ρ 0 % 4 = 1 := pz_gj hE 0 (Nat.le_of_ble_eq_true rfl) rfl
  have j1 : ρ 1 % 4 = 1 := pz_gj hE 1 (Nat.le_of_ble_eq_true rfl) rfl
  obtain ⟨i2a, i2b, i2c, i2d⟩ := pz_gi hE 2 2147483688 2147483688 (Nat.le_of_ble_eq_true rfl) rfl
  have c_units : ay_at hp 10 4 = some (ρ 2) := ay_gfj hE 50 16 11 10 4 ax_m3 (ax_vlq rfl rfl) (ax_vlj rfl rfl)
  obtain ⟨-, -, -, -, F50⟩ : ay_ex hp 8 ∧ ay_ex hp 10 ∧ ay_ex hp 11 ∧ ay_ex hp 12 ∧ pz_x50 (ρ 0) (ρ 1) (ay_at hp 8 5) (ay_at hp 8 6) (ay_at hp 8 7) (ay_at hp 8 8) (ay_at hp 10 0) (ay_at hp 10 1) (ay_at hp 10 2) (ay_at hp 10 3) (ay_at hp 10 4) (ay_at hp 8 9) (ay_at hp 8 11) (ay_at hp 8 10) (ay_at hp 8 3) (ay_at hp 8 4) (ay_at hp 11) (ay_at hp 12) := (ax_XF_lt (x := 50) (Nat.le_of_ble_eq_true rfl)).mp (ax_gx hE (50, [3, 7]) ax_m0)
  rw [c_units] at F50
  have F78 : pz7 (pz_gt (ρ 0)) (pz_gN (ρ 0)) ((ρ 1) / 4) 8 := (ax_XF_lt (x := 78) (Nat.le_of_ble_eq_true rfl)).mp (ax_gx hE (78, [3, 7]) ax_m1)
  have F107 : pz107 (pz_gt (ρ 0)) (pz_gN (ρ 0)) ((ρ 1) / 4) ((4) / 4) := (ax_XF_lt (x := 107) (Nat.le_of_ble_eq_true rfl)).mp (ax_gx hE (107, [3, 7, 4]) ax_m2)
  refine ⟨(fun y hy => by cases hy), _, List.mem_cons_self, ρ, fun _ _ => rfl, ax_px hE rfl (fun y hy => ?_)⟩
  cases List.mem_singleton.mp hy
  refine (ax_XF_lt (x := 64) (Nat.le_of_ble_eq_true rfl)).mpr ?_
  show pz64 (pz_gt (ρ 0)) (pz_gN (ρ 0)) ((ρ 1) / 4) ((16) / 4)
  exact pq_ru4 F50 F78 F107 (show ρ 2 / 4 = 40 by omega)

theorem axq_ru5c1 : ax_RO ax_wC ax_XC axu_ru5c1 := by
  intro ρ hp hE hT
  have j0 : ρ 0 % 4 = 1 := pz_gj hE 0 (Nat.le_of_ble_eq_true rfl) rfl
  have j1 : ρ 1 % 4 = 1 := pz_gj hE 1 (Nat.le_of_ble_eq_true rfl) rfl
  have j2 : ρ 2 % 4 = 1 := pz_gj hE 2 (Nat.le_of_ble_eq_true rfl) rfl
  obtain ⟨-, -, -, -, F50⟩ : ay_ex hp 8 ∧ ay_ex hp 10 ∧ ay_ex hp 11 ∧ ay_ex hp 12 ∧ pz_x50 (ρ 0) (ρ 1) (ay_at hp 8 5) (ay_at hp 8 6) (ay_at hp 8 7) (ay_at hp 8 8) (ay_at hp 10 0) (ay_at hp 10 1) (ay_at hp 10 2) (ay_at hp 10 3) (ay_at hp 10 4) (ay_at hp 8 9) (ay_at hp 8 11) (ay_at hp 8 10) (ay_at hp 8 3) (ay_at hp 8 4) (ay_at hp 11) (ay_at hp 12) := (ax_XF_lt (x := 50) (Nat.le_of_ble_eq_true rfl)).mp (ax_gx hE (50, [3, 7]) ax_m0)
  have F78 : pz7 (pz_gt (ρ 0)) (pz_gN (ρ 0)) ((ρ 1) / 4) 8 := (ax_XF_lt (x := 78) (Nat.le_of_ble_eq_true rfl)).mp (ax_gx hE (78, [3, 7]) ax_m1)
  have F107 : pz107 (pz_gt (ρ 0)) (pz_gN (ρ 0)) ((ρ 1) / 4) ((4) / 4) := (ax_XF_lt (x := 107) (Nat.le_of_ble_eq_true rfl)).mp (ax_gx hE (107, [3, 7, 4]) ax_m2)
  have F90 : (pz90 (pz_gt (ρ 0)) (pz_gN (ρ 0)) ((ρ 1) / 4) ((ρ 2) / 4) ∧ 1 ≤ (ρ 2) / 4) := (ax_XF_lt (x := 90) (Nat.le_of_ble_eq_true rfl)).mp (ax_gx hE (90, [3, 7, 11]) ax_m3)
  have F91 : pz_dp ((ρ 2) / 4) = (24) / 4 := (ax_XF_lt (x := 91) (Nat.le_of_ble_eq_true rfl)).mp (ax_gx hE (91, [11, 24]) ax_m4)
  refine ⟨(fun y hy => by cases hy), _, List.mem_cons_self, ρ, fun _ _ => rfl, ax_px hE rfl (fun y hy => ?_)⟩
  cases List.mem_singleton.mp hy
  refine (ax_XF_lt (x := 64) (Nat.le_of_ble_eq_true rfl)).mpr ?_
  show pz64 (pz_gt (ρ 0)) (pz_gN (ρ 0)) ((ρ 1) / 4) ((16) / 4)
  exact pq_ru5 F78 F107 F90.1 F91

theorem axq_ru4c2_6 : ax_RO ax_wC ax_XC axu_ru4c2_6 := by
  intro ρ hp hE hT
  have j0 : ρ 0 % 4 = 1 := pz_gj hE 0 (Nat.le_of_ble_eq_true rfl) rfl
  have j1 : ρ 1 % 4 = 1 := pz_gj hE 1 (Nat.le_of_ble_eq_true rfl) rfl
  obtain ⟨i2a, i2b, i2c, i2d⟩ := pz_gi hE 2 2147483688 2147483688 (Nat.le_of_ble_eq_true rfl) rfl
  have c_units : ay_at hp 10 4 = some (ρ 2) := ay_gfj hE 50 16 11 10 4 ax_m3 (ax_vlq rfl rfl) (ax_vlj rfl rfl)
  obtain ⟨-, -, -, -, F50⟩ : ay_ex hp 8 ∧ ay_ex hp 10 ∧ ay_ex hp 11 ∧ ay_ex hp 12 ∧ pz_x50 (ρ 0) (ρ 1) (ay_at hp 8 5) (ay_at hp 8 6) (ay_at hp 8 7) (ay_at hp 8 8) (ay_at hp 10 0) (ay_at hp 10 1) (ay_at hp 10 2) (ay_at hp 10 3) (ay_at hp 10 4) (ay_at hp 8 9) (ay_at hp 8 11) (ay_at hp 8 10) (ay_at hp 8 3) (ay_at hp 8 4) (ay_at hp 11) (ay_at hp 12) := (ax_XF_lt (x := 50) (Nat.le_of_ble_eq_true rfl)).mp (ax_gx hE (50, [3, 7]) ax_m0)
  rw [c_units] at F50
  have F78 : pz7 (pz_gt (ρ 0)) (pz_gN (ρ 0)) ((ρ 1) / 4) 8 := (ax_XF_lt (x := 78) (Nat.le_of_ble_eq_true rfl)).mp (ax_gx hE (78, [3, 7]) ax_m1)
  have F107 : pz107 (pz_gt (ρ 0)) (pz_gN (ρ 0)) ((ρ 1) / 4) ((8) / 4) := (ax_XF_lt (x := 107) (Nat.le_of_ble_eq_true rfl)).mp (ax_gx hE (107, [3, 7, 8]) ax_m2)
  refine ⟨(fun y hy => by cases hy), _, List.mem_cons_self, ρ, fun _ _ => rfl, ax_px hE rfl (fun y hy => ?_)⟩
  cases List.mem_singleton.mp hy
  refine (ax_XF_lt (x := 64) (Nat.le_of_ble_eq_true rfl)).mpr ?_
  show pz64 (pz_gt (ρ 0)) (pz_gN (ρ 0)) ((ρ 1) / 4) ((16) / 4)
  exact pq_ru4 F50 F78 F107 (show ρ 2 / 4 = 40 by omega)

theorem axq_ru5c2 : ax_RO ax_wC ax_XC axu_ru5c2 := by
  intro ρ hp hE hT
  have j0 : ρ 0 % 4 = 1 := pz_gj hE 0 (Nat.le_of_ble_eq_true rfl) rfl
  have j1 : ρ 1 % 4 = 1 := pz_gj hE 1 (Nat.le_of_ble_eq_true rfl) rfl
  have j2 : ρ 2 % 4 = 1 := pz_gj hE 2 (Nat.le_of_ble_eq_true rfl) rfl
  obtain ⟨-, -, -, -, F50⟩ : ay_ex hp 8 ∧ ay_ex hp 10 ∧ ay_ex hp 11 ∧ ay_ex hp 12 ∧ pz_x50 (ρ 0) (ρ 1) (ay_at hp 8 5) (ay_at hp 8 6) (ay_at hp 8 7) (ay_at hp 8 8) (ay_at hp 10 0) (ay_at hp 10 1) (ay_at hp 10 2) (ay_at hp 10 3) (ay_at hp 10 4) (ay_at hp 8 9) (ay_at hp 8 11) (ay_at hp 8 10) (ay_at hp 8 3) (ay_at hp 8 4) (ay_at hp 11) (ay_at hp 12) := (ax_XF_lt (x := 50) (Nat.le_of_ble_eq_true rfl)).mp (ax_gx hE (50, [3, 7]) ax_m0)
  have F78 : pz7 (pz_gt (ρ 0)) (pz_gN (ρ 0)) ((ρ 1) / 4) 8 := (ax_XF_lt (x := 78) (Nat.le_of_ble_eq_true rfl)).mp (ax_gx hE (78, [3, 7]) ax_m1)
  have F107 : pz107 (pz_gt (ρ 0)) (pz_gN (ρ 0)) ((ρ 1) / 4) ((8) / 4) := (ax_XF_lt (x := 107) (Nat.le_of_ble_eq_true rfl)).mp (ax_gx hE (107, [3, 7, 8]) ax_m2)
  have F90 : (pz90 (pz_gt (ρ 0)) (pz_gN (ρ 0)) ((ρ 1) / 4) ((ρ 2) / 4) ∧ 1 ≤ (ρ 2) / 4) := (ax_XF_lt (x := 90) (Nat.le_of_ble_eq_true rfl)).mp (ax_gx hE (90, [3, 7, 11]) ax_m3)
  have F91 : pz_dp ((ρ 2) / 4) = (24) / 4 := (ax_XF_lt (x := 91) (Nat.le_of_ble_eq_true rfl)).mp (ax_gx hE (91, [11, 24]) ax_m4)
  refine ⟨(fun y hy => by cases hy), _, List.mem_cons_self, ρ, fun _ _ => rfl, ax_px hE rfl (fun y hy => ?_)⟩
  cases List.mem_singleton.mp hy
  refine (ax_XF_lt (x := 64) (Nat.le_of_ble_eq_true rfl)).mpr ?_
  show pz64 (pz_gt (ρ 0)) (pz_gN (ρ 0)) ((ρ 1) / 4) ((16) / 4)
  exact pq_ru5 F78 F107 F90.1 F91

theorem axq_ru4c3_6 : ax_RO ax_wC ax_XC axu_ru4c3_6 := by
  intro ρ hp hE hT
  have j0 : ρ 0 % 4 = 1 := pz_gj hE 0 (Nat.le_of_ble_eq_true rfl) rfl
  have j1 : ρ 1 % 4 = 1 := pz_gj hE 1 (Nat.le_of_ble_eq_true rfl) rfl
  obtain ⟨i2a, i2b, i2c, i2d⟩ := pz_gi hE 2 2147483688 2147483688 (Nat.le_of_ble_eq_true rfl) rfl
  have c_units : ay_at hp 10 4 = some (ρ 2) := ay_gfj hE 50 16 11 10 4 ax_m3 (ax_vlq rfl rfl) (ax_vlj rfl rfl)
  obtain ⟨-, -, -, -, F50⟩ : ay_ex hp 8 ∧ ay_ex hp 10 ∧ ay_ex hp 11 ∧ ay_ex hp 12 ∧ pz_x50 (ρ 0) (ρ 1) (ay_at hp 8 5) (ay_at hp 8 6) (ay_at hp 8 7) (ay_at hp 8 8) (ay_at hp 10 0) (ay_at hp 10 1) (ay_at hp 10 2) (ay_at hp 10 3) (ay_at hp 10 4) (ay_at hp 8 9) (ay_at hp 8 11) (ay_at hp 8 10) (ay_at hp 8 3) (ay_at hp 8 4) (ay_at hp 11) (ay_at hp 12) := (ax_XF_lt (x := 50) (Nat.le_of_ble_eq_true rfl)).mp (ax_gx hE (50, [3, 7]) ax_m0)
  rw [c_units] at F50
  have F78 : pz7 (pz_gt (ρ 0)) (pz_gN (ρ 0)) ((ρ 1) / 4) 8 := (ax_XF_lt (x := 78) (Nat.le_of_ble_eq_true rfl)).mp (ax_gx hE (78, [3, 7]) ax_m1)
  have F107 : pz107 (pz_gt (ρ 0)) (pz_gN (ρ 0)) ((ρ 1) / 4) ((12) / 4) := (ax_XF_lt (x := 107) (Nat.le_of_ble_eq_true rfl)).mp (ax_gx hE (107, [3, 7, 12]) ax_m2)
  refine ⟨(fun y hy => by cases hy), _, List.mem_cons_self, ρ, fun _ _ => rfl, ax_px hE rfl (fun y hy => ?_)⟩
  cases List.mem_singleton.mp hy
  refine (ax_XF_lt (x := 64) (Nat.le_of_ble_eq_true rfl)).mpr ?_
  show pz64 (pz_gt (ρ 0)) (pz_gN (ρ 0)) ((ρ 1) / 4) ((16) / 4)
  exact pq_ru4 F50 F78 F107 (show ρ 2 / 4 = 40 by omega)

theorem axq_ru5c3 : ax_RO ax_wC ax_XC axu_ru5c3 := by
  intro ρ hp hE hT
  have j0 : ρ 0 % 4 = 1 := pz_gj hE 0 (Nat.le_of_ble_eq_true rfl) rfl
  have j1 : ρ 1 % 4 = 1 := pz_gj hE 1 (Nat.le_of_ble_eq_true rfl) rfl
  have j2 : ρ 2 % 4 = 1 := pz_gj hE 2 (Nat.le_of_ble_eq_true rfl) rfl
  obtain ⟨-, -, -, -, F50⟩ : ay_ex hp 8 ∧ ay_ex hp 10 ∧ ay_ex hp 11 ∧ ay_ex hp 12 ∧ pz_x50 (ρ 0) (ρ 1) (ay_at hp 8 5) (ay_at hp 8 6) (ay_at hp 8 7) (ay_at hp 8 8) (ay_at hp 10 0) (ay_at hp 10 1) (ay_at hp 10 2) (ay_at hp 10 3) (ay_at hp 10 4) (ay_at hp 8 9) (ay_at hp 8 11) (ay_at hp 8 10) (ay_at hp 8 3) (ay_at hp 8 4) (ay_at hp 11) (ay_at hp 12) := (ax_XF_lt (x := 50) (Nat.le_of_ble_eq_true rfl)).mp (ax_gx hE (50, [3, 7]) ax_m0)
  have F78 : pz7 (pz_gt (ρ 0)) (pz_gN (ρ 0)) ((ρ 1) / 4) 8 := (ax_XF_lt (x := 78) (Nat.le_of_ble_eq_true rfl)).mp (ax_gx hE (78, [3, 7]) ax_m1)
  have F107 : pz107 (pz_gt (ρ 0)) (pz_gN (ρ 0)) ((ρ 1) / 4) ((12) / 4) := (ax_XF_lt (x := 107) (Nat.le_of_ble_eq_true rfl)).mp (ax_gx hE (107, [3, 7, 12]) ax_m2)
  have F90 : (pz90 (pz_gt (ρ 0)) (pz_gN (ρ 0)) ((ρ 1) / 4) ((ρ 2) / 4) ∧ 1 ≤ (ρ 2) / 4) := (ax_XF_lt (x := 90) (Nat.le_of_ble_eq_true rfl)).mp (ax_gx hE (90, [3, 7, 11]) ax_m3)
  have F91 : pz_dp ((ρ 2) / 4) = (24) / 4 := (ax_XF_lt (x := 91) (Nat.le_of_ble_eq_true rfl)).mp (ax_gx hE (91, [11, 24]) ax_m4)
  refine ⟨(fun y hy => by cases hy), _, List.mem_cons_self, ρ, fun _ _ => rfl, ax_px hE rfl (fun y hy => ?_)⟩
  cases List.mem_singleton.mp hy
  refine (ax_XF_lt (x := 64) (Nat.le_of_ble_eq_true rfl)).mpr ?_
  show pz64 (pz_gt (ρ 0)) (pz_gN (ρ 0)) ((ρ 1) / 4) ((16) / 4)
  exact pq_ru5 F78 F107 F90.1 F91

theorem axq_ru4c4_6 : ax_RO ax_wC ax_XC axu_ru4c4_6 := by
  intro ρ hp hE hT
  have j0 : ρ 0 % 4 = 1 := pz_gj hE 0 (Nat.le_of_ble_eq_true rfl) rfl
  have j1 : ρ 1 % 4 = 1 := pz_gj hE 1 (Nat.le_of_ble_eq_true rfl) rfl
  obtain ⟨i2a, i2b, i2c, i2d⟩ := pz_gi hE 2 2147483688 2147483688 (Nat.le_of_ble_eq_true rfl) rfl
  have c_units : ay_at hp 10 4 = some (ρ 2) := ay_gfj hE 50 16 11 10 4 ax_m3 (ax_vlq rfl rfl) (ax_vlj rfl rfl)
  obtain ⟨-, -, -, -, F50⟩ : ay_ex hp 8 ∧ ay_ex hp 10 ∧ ay_ex hp 11 ∧ ay_ex hp 12 ∧ pz_x50 (ρ 0) (ρ 1) (ay_at hp 8 5) (ay_at hp 8 6) (ay_at hp 8 7) (ay_at hp 8 8) (ay_at hp 10 0) (ay_at hp 10 1) (ay_at hp 10 2) (ay_at hp 10 3) (ay_at hp 10 4) (ay_at hp 8 9) (ay_at hp 8 11) (ay_at hp 8 10) (ay_at hp 8 3) (ay_at hp 8 4) (ay_at hp 11) (ay_at hp 12) := (ax_XF_lt (x := 50) (Nat.le_of_ble_eq_true rfl)).mp (ax_gx hE (50, [3, 7]) ax_m0)
  rw [c_units] at F50
  have F78 : pz7 (pz_gt (ρ 0)) (pz_gN (ρ 0)) ((ρ 1) / 4) 8 := (ax_XF_lt (x := 78) (Nat.le_of_ble_eq_true rfl)).mp (ax_gx hE (78, [3, 7]) ax_m1)
  have F107 : pz107 (pz_gt (ρ 0)) (pz_gN (ρ 0)) ((ρ 1) / 4) ((16) / 4) := (ax_XF_lt (x := 107) (Nat.le_of_ble_eq_true rfl)).mp (ax_gx hE (107, [3, 7, 16]) ax_m2)
  refine ⟨(fun y hy => by cases hy), _, List.mem_cons_self, ρ, fun _ _ => rfl, ax_px hE rfl (fun y hy => ?_)⟩
  cases List.mem_singleton.mp hy
  refine (ax_XF_lt (x := 64) (Nat.le_of_ble_eq_true rfl)).mpr ?_
  show pz64 (pz_gt (ρ 0)) (pz_gN (ρ 0)) ((ρ 1) / 4) ((16) / 4)
  exact pq_ru4 F50 F78 F107 (show ρ 2 / 4 = 40 by omega)

theorem axq_ru5c4 : ax_RO ax_wC ax_XC axu_ru5c4 := by
  intro ρ hp hE hT
  have j0 : ρ 0 % 4 = 1 := pz_gj hE 0 (Nat.le_of_ble_eq_true rfl) rfl
  have j1 : ρ 1 % 4 = 1 := pz_gj hE 1 (Nat.le_of_ble_eq_true rfl) rfl
  have j2 : ρ 2 % 4 = 1 := pz_gj hE 2 (Nat.le_of_ble_eq_true rfl) rfl
  obtain ⟨-, -, -, -, F50⟩ : ay_ex hp 8 ∧ ay_ex hp 10 ∧ ay_ex hp 11 ∧ ay_ex hp 12 ∧ pz_x50 (ρ 0) (ρ 1) (ay_at hp 8 5) (ay_at hp 8 6) (ay_at hp 8 7) (ay_at hp 8 8) (ay_at hp 10 0) (ay_at hp 10 1) (ay_at hp 10 2) (ay_at hp 10 3) (ay_at hp 10 4) (ay_at hp 8 9) (ay_at hp 8 11) (ay_at hp 8 10) (ay_at hp 8 3) (ay_at hp 8 4) (ay_at hp 11) (ay_at hp 12) := (ax_XF_lt (x := 50) (Nat.le_of_ble_eq_true rfl)).mp (ax_gx hE (50, [3, 7]) ax_m0)
  have F78 : pz7 (pz_gt (ρ 0)) (pz_gN (ρ 0)) ((ρ 1) / 4) 8 := (ax_XF_lt (x := 78) (Nat.le_of_ble_eq_true rfl)).mp (ax_gx hE (78, [3, 7]) ax_m1)
  have F107 : pz107 (pz_gt (ρ 0)) (pz_gN (ρ 0)) ((ρ 1) / 4) ((16) / 4) := (ax_XF_lt (x := 107) (Nat.le_of_ble_eq_true rfl)).mp (ax_gx hE (107, [3, 7, 16]) ax_m2)
  have F90 : (pz90 (pz_gt (ρ 0)) (pz_gN (ρ 0)) ((ρ 1) / 4) ((ρ 2) / 4) ∧ 1 ≤ (ρ 2) / 4) := (ax_XF_lt (x := 90) (Nat.le_of_ble_eq_true rfl)).mp (ax_gx hE (90, [3, 7, 11]) ax_m3)
  have F91 : pz_dp ((ρ 2) / 4) = (24) / 4 := (ax_XF_lt (x := 91) (Nat.le_of_ble_eq_true rfl)).mp (ax_gx hE (91, [11, 24]) ax_m4)
  refine ⟨(fun y hy => by cases hy), _, List.mem_cons_self, ρ, fun _ _ => rfl, ax_px hE rfl (fun y hy => ?_)⟩
  cases List.mem_singleton.mp hy
  refine (ax_XF_lt (x := 64) (Nat.le_of_ble_eq_true rfl)).mpr ?_
  show pz64 (pz_gt (ρ 0)) (pz_gN (ρ 0)) ((ρ 1) / 4) ((16) / 4)
  exact pq_ru5 F78 F107 F90.1 F91

theorem axq_ru4c5_6 : ax_RO ax_wC ax_XC axu_ru4c5_6 := by
  intro ρ hp hE hT
  have j0 : ρ 0 % 4 = 1 := pz_gj hE 0 (Nat.le_of_ble_eq_true rfl) rfl
  have j1 : ρ 1 % 4 = 1 := pz_gj hE 1 (Nat.le_of_ble_eq_true rfl) rfl
  obtain ⟨i2a, i2b, i2c, i2d⟩ := pz_gi hE 2 2147483688 2147483688 (Nat.le_of_ble_eq_true rfl) rfl
  have c_units : ay_at hp 10 4 = some (ρ 2) := ay_gfj hE 50 16 11 10 4 ax_m3 (ax_vlq rfl rfl) (ax_vlj rfl rfl)
  obtain ⟨-, -, -, -, F50⟩ : ay_ex hp 8 ∧ ay_ex hp 10 ∧ ay_ex hp 11 ∧ ay_ex hp 12 ∧ pz_x50 (ρ 0) (ρ 1) (ay_at hp 8 5) (ay_at hp 8 6) (ay_at hp 8 7) (ay_at hp 8 8) (ay_at hp 10 0) (ay_at hp 10 1) (ay_at hp 10 2) (ay_at hp 10 3) (ay_at hp 10 4) (ay_at hp 8 9) (ay_at hp 8 11) (ay_at hp 8 10) (ay_at hp 8 3) (ay_at hp 8 4) (ay_at hp 11) (ay_at hp 12) := (ax_XF_lt (x := 50) (Nat.le_of_ble_eq_true rfl)).mp (ax_gx hE (50, [3, 7]) ax_m0)
  rw [c_units] at F50
  have F78 : pz7 (pz_gt (ρ 0)) (pz_gN (ρ 0)) ((ρ 1) / 4) 8 := (ax_XF_lt (x := 78) (Nat.le_of_ble_eq_true rfl)).mp (ax_gx hE (78, [3, 7]) ax_m1)
  have F107 : pz107 (pz_gt (ρ 0)) (pz_gN (ρ 0)) ((ρ 1) / 4) ((20) / 4) := (ax_XF_lt (x := 107) (Nat.le_of_ble_eq_true rfl)).mp (ax_gx hE (107, [3, 7, 20]) ax_m2)
  refine ⟨(fun y hy => by cases hy), _, List.mem_cons_self, ρ, fun _ _ => rfl, ax_px hE rfl (fun y hy => ?_)⟩
  cases List.mem_singleton.mp hy
  refine (ax_XF_lt (x := 64) (Nat.le_of_ble_eq_true rfl)).mpr ?_
  show pz64 (pz_gt (ρ 0)) (pz_gN (ρ 0)) ((ρ 1) / 4) ((16) / 4)
  exact pq_ru4 F50 F78 F107 (show ρ 2 / 4 = 40 by omega)

theorem axq_ru5c5 : ax_RO ax_wC ax_XC axu_ru5c5 := by
  intro ρ hp hE hT
  have j0 : ρ 0 % 4 = 1 := pz_gj hE 0 (Nat.le_of_ble_eq_true rfl) rfl
  have j1 : ρ 1 % 4 = 1 := pz_gj hE 1 (Nat.le_of_ble_eq_true rfl) rfl
  have j2 : ρ 2 % 4 = 1 := pz_gj hE 2 (Nat.le_of_ble_eq_true rfl) rfl
  obtain ⟨-, -, -, -, F50⟩ : ay_ex hp 8 ∧ ay_ex hp 10 ∧ ay_ex hp 11 ∧ ay_ex hp 12 ∧ pz_x50 (ρ 0) (ρ 1) (ay_at hp 8 5) (ay_at hp 8 6) (ay_at hp 8 7) (ay_at hp 8 8) (ay_at hp 10 0) (ay_at hp 10 1) (ay_at hp 10 2) (ay_at hp 10 3) (ay_at hp 10 4) (ay_at hp 8 9) (ay_at hp 8 11) (ay_at hp 8 10) (ay_at hp 8 3) (ay_at hp 8 4) (ay_at hp 11) (ay_at hp 12) := (ax_XF_lt (x := 50) (Nat.le_of_ble_eq_true rfl)).mp (ax_gx hE (50, [3, 7]) ax_m0)
  have F78 : pz7 (pz_gt (ρ 0)) (pz_gN (ρ 0)) ((ρ 1) / 4) 8 := (ax_XF_lt (x := 78) (Nat.le_of_ble_eq_true rfl)).mp (ax_gx hE (78, [3, 7]) ax_m1)
  have F107 : pz107 (pz_gt (ρ 0)) (pz_gN (ρ 0)) ((ρ 1) / 4) ((20) / 4) := (ax_XF_lt (x := 107) (Nat.le_of_ble_eq_true rfl)).mp (ax_gx hE (107, [3, 7, 20]) ax_m2)
  have F90 : (pz90 (pz_gt (ρ 0)) (pz_gN (ρ 0)) ((ρ 1) / 4) ((ρ 2) / 4) ∧ 1 ≤ (ρ 2) / 4) := (ax_XF_lt (x := 90) (Nat.le_of_ble_eq_true rfl)).mp (ax_gx hE (90, [3, 7, 11]) ax_m3)
  have F91 : pz_dp ((ρ 2) / 4) = (24) / 4 := (ax_XF_lt (x := 91) (Nat.le_of_ble_eq_true rfl)).mp (ax_gx hE (91, [11, 24]) ax_m4)
  refine ⟨(fun y hy => by cases hy), _, List.mem_cons_self, ρ, fun _ _ => rfl, ax_px hE rfl (fun y hy => ?_)⟩
  cases List.mem_singleton.mp hy
  refine (ax_XF_lt (x := 64) (Nat.le_of_ble_eq_true rfl)).mpr ?_
  show pz64 (pz_gt (ρ 0)) (pz_gN (ρ 0)) ((ρ 1) / 4) ((16) / 4)
  exact pq_ru5 F78 F107 F90.1 F91

theorem axq_ru4c40_6 : ax_RO ax_wC ax_XC axu_ru4c40_6 := by
  intro ρ hp hE hT
  have j0 : ρ 0 % 4 = 1 := pz_gj hE 0 (Nat.le_of_ble_eq_true rfl) rfl
  have j1 : ρ 1 % 4 = 1 := pz_gj hE 1 (Nat.le_of_ble_eq_true rfl) rfl
  obtain ⟨i2a, i2b, i2c, i2d⟩ := pz_gi hE 2 2147483688 2147483688 (Nat.le_of_ble_eq_true rfl) rfl
  have c_units : ay_at hp 10 4 = some (ρ 2) := ay_gfj hE 50 16 11 10 4 ax_m3 (ax_vlq rfl rfl) (ax_vlj rfl rfl)
  obtain ⟨-, -, -, -, F50⟩ : ay_ex hp 8 ∧ ay_ex hp 10 ∧ ay_ex hp 11 ∧ ay_ex hp 12 ∧ pz_x50 (ρ 0) (ρ 1) (ay_at hp 8 5) (ay_at hp 8 6) (ay_at hp 8 7) (ay_at hp 8 8) (ay_at hp 10 0) (ay_at hp 10 1) (ay_at hp 10 2) (ay_at hp 10 3) (ay_at hp 10 4) (ay_at hp 8 9) (ay_at hp 8 11) (ay_at hp 8 10) (ay_at hp 8 3) (ay_at hp 8 4) (ay_at hp 11) (ay_at hp 12) := (ax_XF_lt (x := 50) (Nat.le_of_ble_eq_true rfl)).mp (ax_gx hE (50, [3, 7]) ax_m0)
  rw [c_units] at F50
  have F78 : pz7 (pz_gt (ρ 0)) (pz_gN (ρ 0)) ((ρ 1) / 4) 8 := (ax_XF_lt (x := 78) (Nat.le_of_ble_eq_true rfl)).mp (ax_gx hE (78, [3, 7]) ax_m1)
  have F107 : pz107 (pz_gt (ρ 0)) (pz_gN (ρ 0)) ((ρ 1) / 4) ((160) / 4) := (ax_XF_lt (x := 107) (Nat.le_of_ble_eq_true rfl)).mp (ax_gx hE (107, [3, 7, 160]) ax_m2)
  refine ⟨(fun y hy => by cases hy), _, List.mem_cons_self, ρ, fun _ _ => rfl, ax_px hE rfl (fun y hy => ?_)⟩
  cases List.mem_singleton.mp hy
  refine (ax_XF_lt (x := 64) (Nat.le_of_ble_eq_true rfl)).mpr ?_
  show pz64 (pz_gt (ρ 0)) (pz_gN (ρ 0)) ((ρ 1) / 4) ((16) / 4)
  exact pq_ru4 F50 F78 F107 (show ρ 2 / 4 = 40 by omega)

theorem axq_ru5c40 : ax_RO ax_wC ax_XC axu_ru5c40 := by
  intro ρ hp hE hT
  have j0 : ρ 0 % 4 = 1 := pz_gj hE 0 (Nat.le_of_ble_eq_true rfl) rfl
  have j1 : ρ 1 % 4 = 1 := pz_gj hE 1 (Nat.le_of_ble_eq_true rfl) rfl
  have j2 : ρ 2 % 4 = 1 := pz_gj hE 2 (Nat.le_of_ble_eq_true rfl) rfl
  obtain ⟨-, -, -, -, F50⟩ : ay_ex hp 8 ∧ ay_ex hp 10 ∧ ay_ex hp 11 ∧ ay_ex hp 12 ∧ pz_x50 (ρ 0) (ρ 1) (ay_at hp 8 5) (ay_at hp 8 6) (ay_at hp 8 7) (ay_at hp 8 8) (ay_at hp 10 0) (ay_at hp 10 1) (ay_at hp 10 2) (ay_at hp 10 3) (ay_at hp 10 4) (ay_at hp 8 9) (ay_at hp 8 11) (ay_at hp 8 10) (ay_at hp 8 3) (ay_at hp 8 4) (ay_at hp 11) (ay_at hp 12) := (ax_XF_lt (x := 50) (Nat.le_of_ble_eq_true rfl)).mp (ax_gx hE (50, [3, 7]) ax_m0)
  have F78 : pz7 (pz_gt (ρ 0)) (pz_gN (ρ 0)) ((ρ 1) / 4) 8 := (ax_XF_lt (x := 78) (Nat.le_of_ble_eq_true rfl)).mp (ax_gx hE (78, [3, 7]) ax_m1)
  have F107 : pz107 (pz_gt (ρ 0)) (pz_gN (ρ 0)) ((ρ 1) / 4) ((160) / 4) := (ax_XF_lt (x := 107) (Nat.le_of_ble_eq_true rfl)).mp (ax_gx hE (107, [3, 7, 160]) ax_m2)
  have F90 : (pz90 (pz_gt (ρ 0)) (pz_gN (ρ 0)) ((ρ 1) / 4) ((ρ 2) / 4) ∧ 1 ≤ (ρ 2) / 4) := (ax_XF_lt (x := 90) (Nat.le_of_ble_eq_true rfl)).mp (ax_gx hE (90, [3, 7, 11]) ax_m3)
  have F91 : pz_dp ((ρ 2) / 4) = (24) / 4 := (ax_XF_lt (x := 91) (Nat.le_of_ble_eq_true rfl)).mp (ax_gx hE (91, [11, 24]) ax_m4)
  refine ⟨(fun y hy => by cases hy), _, List.mem_cons_self, ρ, fun _ _ => rfl, ax_px hE rfl (fun y hy => ?_)⟩
  cases List.mem_singleton.mp hy
  refine (ax_XF_lt (x := 64) (Nat.le_of_ble_eq_true rfl)).mpr ?_
  show pz64 (pz_gt (ρ 0)) (pz_gN (ρ 0)) ((ρ 1) / 4) ((16) / 4)
  exact pq_ru5 F78 F107 F90.1 F91

theorem axq_rp1_0 : ax_RO ax_wC ax_XC axu_rp1_0 := by
  intro ρ hp hE hT
  have j0 : ρ 0 % 4 = 1 := pz_gj hE 0 (Nat.le_of_ble_eq_true rfl) rfl
  have j1 : ρ 1 % 4 = 1 := pz_gj hE 1 (Nat.le_of_ble_eq_true rfl) rfl
  have j2 : ρ 2 % 4 = 1 := pz_gj hE 2 (Nat.le_of_ble_eq_true rfl) rfl
  have j3 : ρ 3 % 4 = 1 := pz_gj hE 3 (Nat.le_of_ble_eq_true rfl) rfl
  obtain ⟨-, -, -, -, F50⟩ : ay_ex hp 8 ∧ ay_ex hp 10 ∧ ay_ex hp 11 ∧ ay_ex hp 12 ∧ pz_x50 (ρ 0) (ρ 1) (ay_at hp 8 5) (ay_at hp 8 6) (ay_at hp 8 7) (ay_at hp 8 8) (ay_at hp 10 0) (ay_at hp 10 1) (ay_at hp 10 2) (ay_at hp 10 3) (ay_at hp 10 4) (ay_at hp 8 9) (ay_at hp 8 11) (ay_at hp 8 10) (ay_at hp 8 3) (ay_at hp 8 4) (ay_at hp 11) (ay_at hp 12) := (ax_XF_lt (x := 50) (Nat.le_of_ble_eq_true rfl)).mp (ax_gx hE (50, [3, 7]) ax_m0)
  have F90 : (pz90 (pz_gt (ρ 0)) (pz_gN (ρ 0)) ((ρ 1) / 4) ((ρ 3) / 4) ∧ 1 ≤ (ρ 3) / 4) := (ax_XF_lt (x := 90) (Nat.le_of_ble_eq_true rfl)).mp (ax_gx hE (90, [3, 7, 15]) ax_m1)
  have F92 : pz_strip ((ρ 2) / 4) = (ρ 3) / 4 := (ax_XF_lt (x := 92) (Nat.le_of_ble_eq_true rfl)).mp (ax_gx hE (92, [11, 15]) ax_m2)
  have F92a : pz_strip ((ρ 2) / 4) = (ρ 2) / 4 := (ax_XF_lt (x := 92) (Nat.le_of_ble_eq_true rfl)).mp (ax_gx hE (92, [11, 11]) ax_m3)
  refine ⟨(fun y hy => by cases hy), _, List.mem_cons_self, ρ, fun _ _ => rfl, ax_px hE rfl (fun y hy => ?_)⟩
  cases List.mem_singleton.mp hy
  refine (ax_XF_lt (x := 90) (Nat.le_of_ble_eq_true rfl)).mpr ?_
  show (pz90 (pz_gt (ρ 0)) (pz_gN (ρ 0)) ((ρ 1) / 4) ((ρ 2) / 4) ∧ 1 ≤ (ρ 2) / 4)
  have e : ρ 3 / 4 = ρ 2 / 4 := by omega
  rw [← e]
  exact F90

theorem axq_rp2_0 : ax_RO ax_wC ax_XC axu_rp2_0 := by
  intro ρ hp hE hT
  have j0 : ρ 0 % 4 = 1 := pz_gj hE 0 (Nat.le_of_ble_eq_true rfl) rfl
  have j1 : ρ 1 % 4 = 1 := pz_gj hE 1 (Nat.le_of_ble_eq_true rfl) rfl
  obtain ⟨-, -, -, -, F50⟩ : ay_ex hp 8 ∧ ay_ex hp 10 ∧ ay_ex hp 11 ∧ ay_ex hp 12 ∧ pz_x50 (ρ 0) (ρ 1) (ay_at hp 8 5) (ay_at hp 8 6) (ay_at hp 8 7) (ay_at hp 8 8) (ay_at hp 10 0) (ay_at hp 10 1) (ay_at hp 10 2) (ay_at hp 10 3) (ay_at hp 10 4) (ay_at hp 8 9) (ay_at hp 8 11) (ay_at hp 8 10) (ay_at hp 8 3) (ay_at hp 8 4) (ay_at hp 11) (ay_at hp 12) := (ax_XF_lt (x := 50) (Nat.le_of_ble_eq_true rfl)).mp (ax_gx hE (50, [3, 7]) ax_m0)
  refine ⟨(fun y hy => by cases hy), _, List.mem_cons_self, ρ, fun _ _ => rfl, ax_px hE rfl (fun y hy => ?_)⟩
  cases List.mem_singleton.mp hy
  refine (ax_XF_lt (x := 97) (Nat.le_of_ble_eq_true rfl)).mpr ?_
  show (0) / 4 ≤ (ρ 1) / 4
  exact Nat.zero_le _

theorem axq_rp3c42_0 : ax_RO ax_wC ax_XC axu_rp3c42_0 := by
  intro ρ hp hE hT
  have j0 : ρ 0 % 4 = 1 := pz_gj hE 0 (Nat.le_of_ble_eq_true rfl) rfl
  have j1 : ρ 1 % 4 = 1 := pz_gj hE 1 (Nat.le_of_ble_eq_true rfl) rfl
  have j2 : ρ 2 % 4 = 1 := pz_gj hE 2 (Nat.le_of_ble_eq_true rfl) rfl
  obtain ⟨i3a, i3b, i3c, i3d⟩ := pz_gi hE 3 2147483690 2147483690 (Nat.le_of_ble_eq_true rfl) rfl
  have j4 : ρ 4 % 4 = 1 := pz_gj hE 4 (Nat.le_of_ble_eq_true rfl) rfl
  have c_kind : ay_at hp 8 7 = some (ρ 3) := ay_gfj hE 42 28 15 8 7 ax_m3 (ax_vlq rfl rfl) (ax_vlj rfl rfl)
  have o1 : ρ 4 < ρ 1 := pz_go hE 19 7 (by decide)
  obtain ⟨-, -, -, -, F50⟩ : ay_ex hp 8 ∧ ay_ex hp 10 ∧ ay_ex hp 11 ∧ ay_ex hp 12 ∧ pz_x50 (ρ 0) (ρ 1) (ay_at hp 8 5) (ay_at hp 8 6) (ay_at hp 8 7) (ay_at hp 8 8) (ay_at hp 10 0) (ay_at hp 10 1) (ay_at hp 10 2) (ay_at hp 10 3) (ay_at hp 10 4) (ay_at hp 8 9) (ay_at hp 8 11) (ay_at hp 8 10) (ay_at hp 8 3) (ay_at hp 8 4) (ay_at hp 11) (ay_at hp 12) := (ax_XF_lt (x := 50) (Nat.le_of_ble_eq_true rfl)).mp (ax_gx hE (50, [3, 7]) ax_m0)
  rw [c_kind] at F50
  have F79 : pz7 (pz_gt (ρ 0)) (pz_gN (ρ 0)) ((ρ 1) / 4) 9 := (ax_XF_lt (x := 79) (Nat.le_of_ble_eq_true rfl)).mp (ax_gx hE (79, [3, 7]) ax_m1)
  have F90 : (pz90 (pz_gt (ρ 0)) (pz_gN (ρ 0)) ((ρ 1) / 4) ((ρ 2) / 4) ∧ 1 ≤ (ρ 2) / 4) := (ax_XF_lt (x := 90) (Nat.le_of_ble_eq_true rfl)).mp (ax_gx hE (90, [3, 7, 11]) ax_m2)
  have st := pq_op F50 F79 F90.1 (show pz_op (ρ 3 / 4) = true by rw [show ρ 3 / 4 = 42 by omega]; rfl)
  obtain ⟨ρ', h1, h2⟩ := pz_pn1 (K := ρ 1 / 4 + 1) (xf := [(53, [3, 23]), (78, [3, 23]), (90, [3, 23, 11]), (1030, [7, 23]), (98, [7, 23]), (1030, [19, 23])]) hE (by decide) (fun ρ' h1 h2 x hx => by
    have q0 : ρ' 0 = ρ 0 := h1 0 (by decide)
    have q1 : ρ' 1 = ρ 1 := h1 1 (by decide)
    have q2 : ρ' 2 = ρ 2 := h1 2 (by decide)
    have q3 : ρ' 3 = ρ 3 := h1 3 (by decide)
    have q4 : ρ' 4 = ρ 4 := h1 4 (by decide)
    rcases List.mem_cons.mp hx with e | hx
    · subst e
      refine (ax_XF_lt (x := 53) (Nat.le_of_ble_eq_true rfl)).mpr ?_
      show ay_ex hp 8 ∧ ay_ex hp 10 ∧ ay_ex hp 11 ∧ ay_ex hp 12 ∧ pz_x53 (ρ' 0) (ρ' 5) (ay_at hp 8 5) (ay_at hp 10 0) (ay_at hp 10 1) (ay_at hp 10 2) (ay_at hp 10 3) (ay_at hp 10 4) (ay_at hp 8 9) (ay_at hp 8 11) (ay_at hp 8 10) (ay_at hp 8 3) (ay_at hp 8 4) (ay_at hp 11) (ay_at hp 12)
      rw [q0, h2]
      exact ⟨(ax_cellT hT (q := 8) (g := 2) rfl), (ax_cellT hT (q := 10) (g := 1) rfl), (ax_cellT hT (q := 11) (g := 14) rfl), (ax_cellT hT (q := 12) (g := 15) rfl), pz_53 (pz_41 _) rfl st.1⟩
    rcases List.mem_cons.mp hx with e | hx
    · subst e
      refine (ax_XF_lt (x := 78) (Nat.le_of_ble_eq_true rfl)).mpr ?_
      show pz7 (pz_gt (ρ' 0)) (pz_gN (ρ' 0)) ((ρ' 5) / 4) 8
      rw [q0, h2]
      rw [pz_41]
      exact st.2.1
    rcases List.mem_cons.mp hx with e | hx
    · subst e
      refine (ax_XF_lt (x := 90) (Nat.le_of_ble_eq_true rfl)).mpr ?_
      show (pz90 (pz_gt (ρ' 0)) (pz_gN (ρ' 0)) ((ρ' 5) / 4) ((ρ' 2) / 4) ∧ 1 ≤ (ρ' 2) / 4)
      rw [q0, q2, h2]
      rw [pz_41]
      exact ⟨st.2.2, F90.2⟩
    rcases List.mem_cons.mp hx with e | hx
    · subst e
      refine (ax_XF_bi (o := 30) (by decide)).mpr (Or.inr ⟨rfl, ?_⟩)
      show ρ' 1 < ρ' 5
      rw [q1, h2]
      omega
    rcases List.mem_cons.mp hx with e | hx
    · subst e
      refine (ax_XF_lt (x := 98) (Nat.le_of_ble_eq_true rfl)).mpr ?_
      show (ρ' 5) / 4 = (ρ' 1) / 4 + 1
      rw [q1, h2]
      rw [pz_41]
    cases List.mem_singleton.mp hx
    refine (ax_XF_bi (o := 30) (by decide)).mpr (Or.inr ⟨rfl, ?_⟩)
    show ρ' 4 < ρ' 5
    rw [q4, h2]
    omega)
  exact ⟨(fun y hy => by cases hy), _, List.mem_cons_self, ρ', h1, h2⟩

theorem axq_rp3c47_0 : ax_RO ax_wC ax_XC axu_rp3c47_0 := by
  intro ρ hp hE hT
  have j0 : ρ 0 % 4 = 1 := pz_gj hE 0 (Nat.le_of_ble_eq_true rfl) rfl
  have j1 : ρ 1 % 4 = 1 := pz_gj hE 1 (Nat.le_of_ble_eq_true rfl) rfl
  have j2 : ρ 2 % 4 = 1 := pz_gj hE 2 (Nat.le_of_ble_eq_true rfl) rfl
  obtain ⟨i3a, i3b, i3c, i3d⟩ := pz_gi hE 3 2147483695 2147483695 (Nat.le_of_ble_eq_true rfl) rfl
  have j4 : ρ 4 % 4 = 1 := pz_gj hE 4 (Nat.le_of_ble_eq_true rfl) rfl
  have c_kind : ay_at hp 8 7 = some (ρ 3) := ay_gfj hE 42 28 15 8 7 ax_m3 (ax_vlq rfl rfl) (ax_vlj rfl rfl)
  have o1 : ρ 4 < ρ 1 := pz_go hE 19 7 (by decide)
  obtain ⟨-, -, -, -, F50⟩ : ay_ex hp 8 ∧ ay_ex hp 10 ∧ ay_ex hp 11 ∧ ay_ex hp 12 ∧ pz_x50 (ρ 0) (ρ 1) (ay_at hp 8 5) (ay_at hp 8 6) (ay_at hp 8 7) (ay_at hp 8 8) (ay_at hp 10 0) (ay_at hp 10 1) (ay_at hp 10 2) (ay_at hp 10 3) (ay_at hp 10 4) (ay_at hp 8 9) (ay_at hp 8 11) (ay_at hp 8 10) (ay_at hp 8 3) (ay_at hp 8 4) (ay_at hp 11) (ay_at hp 12) := (ax_XF_lt (x := 50) (Nat.le_of_ble_eq_true rfl)).mp (ax_gx hE (50, [3, 7]) ax_m0)
  rw [c_kind] at F50
  have F79 : pz7 (pz_gt (ρ 0)) (pz_gN (ρ 0)) ((ρ 1) / 4) 9 := (ax_XF_lt (x := 79) (Nat.le_of_ble_eq_true rfl)).mp (ax_gx hE (79, [3, 7]) ax_m1)
  have F90 : (pz90 (pz_gt (ρ 0)) (pz_gN (ρ 0)) ((ρ 1) / 4) ((ρ 2) / 4) ∧ 1 ≤ (ρ 2) / 4) := (ax_XF_lt (x := 90) (Nat.le_of_ble_eq_true rfl)).mp (ax_gx hE (90, [3, 7, 11]) ax_m2)
  have st := pq_op F50 F79 F90.1 (show pz_op (ρ 3 / 4) = true by rw [show ρ 3 / 4 = 47 by omega]; rfl)
  obtain ⟨ρ', h1, h2⟩ := pz_pn1 (K := ρ 1 / 4 + 1) (xf := [(53, [3, 23]), (78, [3, 23]), (90, [3, 23, 11]), (1030, [7, 23]), (98, [7, 23]), (1030, [19, 23])]) hE (by decide) (fun ρ' h1 h2 x hx => by
    have q0 : ρ' 0 = ρ 0 := h1 0 (by decide)
    have q1 : ρ' 1 = ρ 1 := h1 1 (by decide)
    have q2 : ρ' 2 = ρ 2 := h1 2 (by decide)
    have q3 : ρ' 3 = ρ 3 := h1 3 (by decide)
    have q4 : ρ' 4 = ρ 4 := h1 4 (by decide)
    rcases List.mem_cons.mp hx with e | hx
    · subst e
      refine (ax_XF_lt (x := 53) (Nat.le_of_ble_eq_true rfl)).mpr ?_
      show ay_ex hp 8 ∧ ay_ex hp 10 ∧ ay_ex hp 11 ∧ ay_ex hp 12 ∧ pz_x53 (ρ' 0) (ρ' 5) (ay_at hp 8 5) (ay_at hp 10 0) (ay_at hp 10 1) (ay_at hp 10 2) (ay_at hp 10 3) (ay_at hp 10 4) (ay_at hp 8 9) (ay_at hp 8 11) (ay_at hp 8 10) (ay_at hp 8 3) (ay_at hp 8 4) (ay_at hp 11) (ay_at hp 12)
      rw [q0, h2]
      exact ⟨(ax_cellT hT (q := 8) (g := 2) rfl), (ax_cellT hT (q := 10) (g := 1) rfl), (ax_cellT hT (q := 11) (g := 14) rfl), (ax_cellT hT (q := 12) (g := 15) rfl), pz_53 (pz_41 _) rfl st.1⟩
    rcases List.mem_cons.mp hx with e | hx
    · subst e
      refine (ax_XF_lt (x := 78) (Nat.le_of_ble_eq_true rfl)).mpr ?_
      show pz7 (pz_gt (ρ' 0)) (pz_gN (ρ' 0)) ((ρ' 5) / 4) 8
      rw [q0, h2]
      rw [pz_41]
      exact st.2.1
    rcases List.mem_cons.mp hx with e | hx
    · subst e
      refine (ax_XF_lt (x := 90) (Nat.le_of_ble_eq_true rfl)).mpr ?_
      show (pz90 (pz_gt (ρ' 0)) (pz_gN (ρ' 0)) ((ρ' 5) / 4) ((ρ' 2) / 4) ∧ 1 ≤ (ρ' 2) / 4)
      rw [q0, q2, h2]
      rw [pz_41]
      exact ⟨st.2.2, F90.2⟩
    rcases List.mem_cons.mp hx with e | hx
    · subst e
      refine (ax_XF_bi (o := 30) (by decide)).mpr (Or.inr ⟨rfl, ?_⟩)
      show ρ' 1 < ρ' 5
      rw [q1, h2]
      omega
    rcases List.mem_cons.mp hx with e | hx
    · subst e
      refine (ax_XF_lt (x := 98) (Nat.le_of_ble_eq_true rfl)).mpr ?_
      show (ρ' 5) / 4 = (ρ' 1) / 4 + 1
      rw [q1, h2]
      rw [pz_41]
    cases List.mem_singleton.mp hx
    refine (ax_XF_bi (o := 30) (by decide)).mpr (Or.inr ⟨rfl, ?_⟩)
    show ρ' 4 < ρ' 5
    rw [q4, h2]
    omega)
  exact ⟨(fun y hy => by cases hy), _, List.mem_cons_self, ρ', h1, h2⟩

theorem axq_rp3c37_0 : ax_RO ax_wC ax_XC axu_rp3c37_0 := by
  intro ρ hp hE hT
  have j0 : ρ 0 % 4 = 1 := pz_gj hE 0 (Nat.le_of_ble_eq_true rfl) rfl
  have j1 : ρ 1 % 4 = 1 := pz_gj hE 1 (Nat.le_of_ble_eq_true rfl) rfl
  have j2 : ρ 2 % 4 = 1 := pz_gj hE 2 (Nat.le_of_ble_eq_true rfl) rfl
  obtain ⟨i3a, i3b, i3c, i3d⟩ := pz_gi hE 3 2147483685 2147483685 (Nat.le_of_ble_eq_true rfl) rfl
  have j4 : ρ 4 % 4 = 1 := pz_gj hE 4 (Nat.le_of_ble_eq_true rfl) rfl
  have c_kind : ay_at hp 8 7 = some (ρ 3) := ay_gfj hE 42 28 15 8 7 ax_m3 (ax_vlq rfl rfl) (ax_vlj rfl rfl)
  have o1 : ρ 4 < ρ 1 := pz_go hE 19 7 (by decide)
  obtain ⟨-, -, -, -, F50⟩ : ay_ex hp 8 ∧ ay_ex hp 10 ∧ ay_ex hp 11 ∧ ay_ex hp 12 ∧ pz_x50 (ρ 0) (ρ 1) (ay_at hp 8 5) (ay_at hp 8 6) (ay_at hp 8 7) (ay_at hp 8 8) (ay_at hp 10 0) (ay_at hp 10 1) (ay_at hp 10 2) (ay_at hp 10 3) (ay_at hp 10 4) (ay_at hp 8 9) (ay_at hp 8 11) (ay_at hp 8 10) (ay_at hp 8 3) (ay_at hp 8 4) (ay_at hp 11) (ay_at hp 12) := (ax_XF_lt (x := 50) (Nat.le_of_ble_eq_true rfl)).mp (ax_gx hE (50, [3, 7]) ax_m0)
  rw [c_kind] at F50
  have F79 : pz7 (pz_gt (ρ 0)) (pz_gN (ρ 0)) ((ρ 1) / 4) 9 := (ax_XF_lt (x := 79) (Nat.le_of_ble_eq_true rfl)).mp (ax_gx hE (79, [3, 7]) ax_m1)
  have F90 : (pz90 (pz_gt (ρ 0)) (pz_gN (ρ 0)) ((ρ 1) / 4) ((ρ 2) / 4) ∧ 1 ≤ (ρ 2) / 4) := (ax_XF_lt (x := 90) (Nat.le_of_ble_eq_true rfl)).mp (ax_gx hE (90, [3, 7, 11]) ax_m2)
  have st := pq_op F50 F79 F90.1 (show pz_op (ρ 3 / 4) = true by rw [show ρ 3 / 4 = 37 by omega]; rfl)
  obtain ⟨ρ', h1, h2⟩ := pz_pn1 (K := ρ 1 / 4 + 1) (xf := [(53, [3, 23]), (78, [3, 23]), (90, [3, 23, 11]), (1030, [7, 23]), (98, [7, 23]), (1030, [19, 23])]) hE (by decide) (fun ρ' h1 h2 x hx => by
    have q0 : ρ' 0 = ρ 0 := h1 0 (by decide)
    have q1 : ρ' 1 = ρ 1 := h1 1 (by decide)
    have q2 : ρ' 2 = ρ 2 := h1 2 (by decide)
    have q3 : ρ' 3 = ρ 3 := h1 3 (by decide)
    have q4 : ρ' 4 = ρ 4 := h1 4 (by decide)
    rcases List.mem_cons.mp hx with e | hx
    · subst e
      refine (ax_XF_lt (x := 53) (Nat.le_of_ble_eq_true rfl)).mpr ?_
      show ay_ex hp 8 ∧ ay_ex hp 10 ∧ ay_ex hp 11 ∧ ay_ex hp 12 ∧ pz_x53 (ρ' 0) (ρ' 5) (ay_at hp 8 5) (ay_at hp 10 0) (ay_at hp 10 1) (ay_at hp 10 2) (ay_at hp 10 3) (ay_at hp 10 4) (ay_at hp 8 9) (ay_at hp 8 11) (ay_at hp 8 10) (ay_at hp 8 3) (ay_at hp 8 4) (ay_at hp 11) (ay_at hp 12)
      rw [q0, h2]
      exact ⟨(ax_cellT hT (q := 8) (g := 2) rfl), (ax_cellT hT (q := 10) (g := 1) rfl), (ax_cellT hT (q := 11) (g := 14) rfl), (ax_cellT hT (q := 12) (g := 15) rfl), pz_53 (pz_41 _) rfl st.1⟩
    rcases List.mem_cons.mp hx with e | hx
    · subst e
      refine (ax_XF_lt (x := 78) (Nat.le_of_ble_eq_true rfl)).mpr ?_
      show pz7 (pz_gt (ρ' 0)) (pz_gN (ρ' 0)) ((ρ' 5) / 4) 8
      rw [q0, h2]
      rw [pz_41]
      exact st.2.1
    rcases List.mem_cons.mp hx with e | hx
    · subst e
      refine (ax_XF_lt (x := 90) (Nat.le_of_ble_eq_true rfl)).mpr ?_
      show (pz90 (pz_gt (ρ' 0)) (pz_gN (ρ' 0)) ((ρ' 5) / 4) ((ρ' 2) / 4) ∧ 1 ≤ (ρ' 2) / 4)
      rw [q0, q2, h2]
      rw [pz_41]
      exact ⟨st.2.2, F90.2⟩
    rcases List.mem_cons.mp hx with e | hx
    · subst e
      refine (ax_XF_bi (o := 30) (by decide)).mpr (Or.inr ⟨rfl, ?_⟩)
      show ρ' 1 < ρ' 5
      rw [q1, h2]
      omega
    rcases List.mem_cons.mp hx with e | hx
    · subst e
      refine (ax_XF_lt (x := 98) (Nat.le_of_ble_eq_true rfl)).mpr ?_
      show (ρ' 5) / 4 = (ρ' 1) / 4 + 1
      rw [q1, h2]
      rw [pz_41]
    cases List.mem_singleton.mp hx
    refine (ax_XF_bi (o := 30) (by decide)).mpr (Or.inr ⟨rfl, ?_⟩)
    show ρ' 4 < ρ' 5
    rw [q4, h2]
    omega)
  exact ⟨(fun y hy => by cases hy), _, List.mem_cons_self, ρ', h1, h2⟩

theorem axq_rp4_0 : ax_RO ax_wC ax_XC axu_rp4_0 := by
  intro ρ hp hE hT
  have j0 : ρ 0 % 4 = 1 := pz_gj hE 0 (Nat.le_of_ble_eq_true rfl) rfl
  have j1 : ρ 1 % 4 = 1 := pz_gj hE 1 (Nat.le_of_ble_eq_true rfl) rfl
  have j2 : ρ 2 % 4 = 1 := pz_gj hE 2 (Nat.le_of_ble_eq_true rfl) rfl
  have j3 : ρ 3 % 4 = 1 := pz_gj hE 3 (Nat.le_of_ble_eq_true rfl) rfl
  obtain ⟨-, -, -, -, F50⟩ : ay_ex hp 8 ∧ ay_ex hp 10 ∧ ay_ex hp 11 ∧ ay_ex hp 12 ∧ pz_x50 (ρ 0) (ρ 1) (ay_at hp 8 5) (ay_at hp 8 6) (ay_at hp 8 7) (ay_at hp 8 8) (ay_at hp 10 0) (ay_at hp 10 1) (ay_at hp 10 2) (ay_at hp 10 3) (ay_at hp 10 4) (ay_at hp 8 9) (ay_at hp 8 11) (ay_at hp 8 10) (ay_at hp 8 3) (ay_at hp 8 4) (ay_at hp 11) (ay_at hp 12) := (ax_XF_lt (x := 50) (Nat.le_of_ble_eq_true rfl)).mp (ax_gx hE (50, [3, 7]) ax_m0)
  have F90 : (pz90 (pz_gt (ρ 0)) (pz_gN (ρ 0)) ((ρ 1) / 4) ((ρ 3) / 4) ∧ 1 ≤ (ρ 3) / 4) := (ax_XF_lt (x := 90) (Nat.le_of_ble_eq_true rfl)).mp (ax_gx hE (90, [3, 7, 15]) ax_m1)
  have F92 : pz_strip ((ρ 2) / 4) = (ρ 3) / 4 := (ax_XF_lt (x := 92) (Nat.le_of_ble_eq_true rfl)).mp (ax_gx hE (92, [11, 15]) ax_m2)
  have F92a : pz_strip ((ρ 2) / 4) = (ρ 2) / 4 := (ax_XF_lt (x := 92) (Nat.le_of_ble_eq_true rfl)).mp (ax_gx hE (92, [11, 11]) ax_m3)
  refine ⟨(fun y hy => by cases hy), _, List.mem_cons_self, ρ, fun _ _ => rfl, ax_px hE rfl (fun y hy => ?_)⟩
  cases List.mem_singleton.mp hy
  refine (ax_XF_lt (x := 90) (Nat.le_of_ble_eq_true rfl)).mpr ?_
  show (pz90 (pz_gt (ρ 0)) (pz_gN (ρ 0)) ((ρ 1) / 4) ((ρ 2) / 4) ∧ 1 ≤ (ρ 2) / 4)
  have e : ρ 3 / 4 = ρ 2 / 4 := by omega
  rw [← e]
  exact F90

theorem axq_rp5_0 : ax_RO ax_wC ax_XC axu_rp5_0 := by
  intro ρ hp hE hT
  have j0 : ρ 0 % 4 = 1 := pz_gj hE 0 (Nat.le_of_ble_eq_true rfl) rfl
  have j1 : ρ 1 % 4 = 1 := pz_gj hE 1 (Nat.le_of_ble_eq_true rfl) rfl
  have j2 : ρ 2 % 4 = 1 := pz_gj hE 2 (Nat.le_of_ble_eq_true rfl) rfl
  have j3 : ρ 3 % 4 = 1 := pz_gj hE 3 (Nat.le_of_ble_eq_true rfl) rfl
  have j4 : ρ 4 % 4 = 1 := pz_gj hE 4 (Nat.le_of_ble_eq_true rfl) rfl
  have o1 : ρ 2 < ρ 1 := pz_go hE 11 7 (by decide)
  have o2 : ρ 3 < ρ 2 := pz_go hE 15 11 (by decide)
  have o3 : ρ 4 < ρ 3 := pz_go hE 19 15 (by decide)
  obtain ⟨-, -, -, -, F50⟩ : ay_ex hp 8 ∧ ay_ex hp 10 ∧ ay_ex hp 11 ∧ ay_ex hp 12 ∧ pz_x50 (ρ 0) (ρ 1) (ay_at hp 8 5) (ay_at hp 8 6) (ay_at hp 8 7) (ay_at hp 8 8) (ay_at hp 10 0) (ay_at hp 10 1) (ay_at hp 10 2) (ay_at hp 10 3) (ay_at hp 10 4) (ay_at hp 8 9) (ay_at hp 8 11) (ay_at hp 8 10) (ay_at hp 8 3) (ay_at hp 8 4) (ay_at hp 11) (ay_at hp 12) := (ax_XF_lt (x := 50) (Nat.le_of_ble_eq_true rfl)).mp (ax_gx hE (50, [3, 7]) ax_m0)
  refine ⟨(fun y hy => by cases hy), _, List.mem_cons_self, ρ, fun _ _ => rfl, ax_px hE rfl (fun y hy => ?_)⟩
  rcases List.mem_cons.mp hy with e | hy
  · subst e
    refine (ax_XF_bi (o := 30) (by decide)).mpr (Or.inr ⟨rfl, ?_⟩)
    show ρ 4 < ρ 1
    omega
  cases List.mem_singleton.mp hy
  refine (ax_XF_bi (o := 30) (by decide)).mpr (Or.inr ⟨rfl, ?_⟩)
  show ρ 3 < ρ 1
  omega

theorem axq_rp6_0 : ax_RO ax_wC ax_XC axu_rp6_0 := by
  intro ρ hp hE hT
  have j0 : ρ 0 % 4 = 1 := pz_gj hE 0 (Nat.le_of_ble_eq_true rfl) rfl
  have j1 : ρ 1 % 4 = 1 := pz_gj hE 1 (Nat.le_of_ble_eq_true rfl) rfl
  have j2 : ρ 2 % 4 = 1 := pz_gj hE 2 (Nat.le_of_ble_eq_true rfl) rfl
  obtain ⟨i3a, i3b, i3c, i3d⟩ := pz_gi hE 3 2147483648 2147484447 (Nat.le_of_ble_eq_true rfl) rfl
  obtain ⟨i4a, i4b, i4c, i4d⟩ := pz_gi hE 4 0 4294967295 (Nat.le_of_ble_eq_true rfl) rfl
  have s1 : (ρ 3 / 4 + 2147483648) % 4294967296 + (4 / 4 + 2147483648) % 4294967296 = (ρ 4 / 4 + 2147483648) % 4294967296 + 2147483648 := pz_gs hE 15 4 19 ax_m1
  have o1 : ρ 2 < ρ 1 := pz_go hE 11 7 (by decide)
  obtain ⟨-, -, -, -, F50⟩ : ay_ex hp 8 ∧ ay_ex hp 10 ∧ ay_ex hp 11 ∧ ay_ex hp 12 ∧ pz_x50 (ρ 0) (ρ 1) (ay_at hp 8 5) (ay_at hp 8 6) (ay_at hp 8 7) (ay_at hp 8 8) (ay_at hp 10 0) (ay_at hp 10 1) (ay_at hp 10 2) (ay_at hp 10 3) (ay_at hp 10 4) (ay_at hp 8 9) (ay_at hp 8 11) (ay_at hp 8 10) (ay_at hp 8 3) (ay_at hp 8 4) (ay_at hp 11) (ay_at hp 12) := (ax_XF_lt (x := 50) (Nat.le_of_ble_eq_true rfl)).mp (ax_gx hE (50, [3, 7]) ax_m0)
  have F97 : (ρ 3) / 4 ≤ (ρ 2) / 4 := (ax_XF_lt (x := 97) (Nat.le_of_ble_eq_true rfl)).mp (ax_gx hE (97, [11, 15]) ax_m2)
  refine ⟨(fun y hy => by cases hy), _, List.mem_cons_self, ρ, fun _ _ => rfl, ax_px hE rfl (fun y hy => ?_)⟩
  cases List.mem_singleton.mp hy
  refine (ax_XF_lt (x := 97) (Nat.le_of_ble_eq_true rfl)).mpr ?_
  show (ρ 4) / 4 ≤ (ρ 1) / 4
  omega

theorem axq_rp7_0 : ax_RO ax_wC ax_XC axu_rp7_0 := by
  intro ρ hp hE hT
  have j0 : ρ 0 % 4 = 1 := pz_gj hE 0 (Nat.le_of_ble_eq_true rfl) rfl
  have j1 : ρ 1 % 4 = 1 := pz_gj hE 1 (Nat.le_of_ble_eq_true rfl) rfl
  obtain ⟨i2a, i2b, i2c, i2d⟩ := pz_gi hE 2 2147484448 2147484448 (Nat.le_of_ble_eq_true rfl) rfl
  obtain ⟨-, -, F30⟩ : ay_ex hp 8 ∧ ay_ex hp 9 ∧ pz_x30 (ρ 0) (ay_at hp 8 1) (ay_at hp 9) := (ax_XF_lt (x := 30) (Nat.le_of_ble_eq_true rfl)).mp (ax_gx hE (30, [3]) ax_m0)
  obtain ⟨-, -, -, -, F50⟩ : ay_ex hp 8 ∧ ay_ex hp 10 ∧ ay_ex hp 11 ∧ ay_ex hp 12 ∧ pz_x50 (ρ 0) (ρ 1) (ay_at hp 8 5) (ay_at hp 8 6) (ay_at hp 8 7) (ay_at hp 8 8) (ay_at hp 10 0) (ay_at hp 10 1) (ay_at hp 10 2) (ay_at hp 10 3) (ay_at hp 10 4) (ay_at hp 8 9) (ay_at hp 8 11) (ay_at hp 8 10) (ay_at hp 8 3) (ay_at hp 8 4) (ay_at hp 11) (ay_at hp 12) := (ax_XF_lt (x := 50) (Nat.le_of_ble_eq_true rfl)).mp (ax_gx hE (50, [3, 7]) ax_m1)
  have F79 : pz7 (pz_gt (ρ 0)) (pz_gN (ρ 0)) ((ρ 1) / 4) 9 := (ax_XF_lt (x := 79) (Nat.le_of_ble_eq_true rfl)).mp (ax_gx hE (79, [3, 7]) ax_m2)
  have F97 : (ρ 2) / 4 ≤ (ρ 1) / 4 := (ax_XF_lt (x := 97) (Nat.le_of_ble_eq_true rfl)).mp (ax_gx hE (97, [7, 11]) ax_m3)
  refine ⟨(fun y hy => by cases hy), _, List.mem_cons_self, ρ, fun _ _ => rfl, ax_px hE rfl (fun y hy => ?_)⟩
  cases List.mem_singleton.mp hy
  refine (ax_XF_lt (x := 95) (Nat.le_of_ble_eq_true rfl)).mpr ?_
  show pz95 (pz_gt (ρ 0)) (pz_gN (ρ 0)) ((ρ 1) / 4)
  have kd := pq_far (n := ρ 1 / 4) F79 (by decide) (show pz_gN (ρ 0) ≤ 800 from F30.2.1) (by omega)
  exact ⟨by omega, by omega, by omega⟩

theorem axq_rp8a_0 : ax_RO ax_wC ax_XC axu_rp8a_0 := by
  intro ρ hp hE hT
  have j0 : ρ 0 % 4 = 1 := pz_gj hE 0 (Nat.le_of_ble_eq_true rfl) rfl
  have j1 : ρ 1 % 4 = 1 := pz_gj hE 1 (Nat.le_of_ble_eq_true rfl) rfl
  obtain ⟨i2a, i2b, i2c, i2d⟩ := pz_gi hE 2 0 2147483684 (Nat.le_of_ble_eq_true rfl) rfl
  have c_kind : ay_at hp 8 7 = some (ρ 2) := ay_gfj hE 42 28 11 8 7 ax_m1 (ax_vlq rfl rfl) (ax_vlj rfl rfl)
  obtain ⟨-, -, -, -, F50⟩ : ay_ex hp 8 ∧ ay_ex hp 10 ∧ ay_ex hp 11 ∧ ay_ex hp 12 ∧ pz_x50 (ρ 0) (ρ 1) (ay_at hp 8 5) (ay_at hp 8 6) (ay_at hp 8 7) (ay_at hp 8 8) (ay_at hp 10 0) (ay_at hp 10 1) (ay_at hp 10 2) (ay_at hp 10 3) (ay_at hp 10 4) (ay_at hp 8 9) (ay_at hp 8 11) (ay_at hp 8 10) (ay_at hp 8 3) (ay_at hp 8 4) (ay_at hp 11) (ay_at hp 12) := (ax_XF_lt (x := 50) (Nat.le_of_ble_eq_true rfl)).mp (ax_gx hE (50, [3, 7]) ax_m0)
  rw [c_kind] at F50
  refine ⟨(fun y hy => by cases hy), _, List.mem_cons_self, ρ, fun _ _ => rfl, ax_px hE rfl (fun y hy => ?_)⟩
  cases List.mem_singleton.mp hy
  refine (ax_XF_lt (x := 95) (Nat.le_of_ble_eq_true rfl)).mpr ?_
  show pz95 (pz_gt (ρ 0)) (pz_gN (ρ 0)) ((ρ 1) / 4)
  have kd : ρ 2 / 4 = pz_kd (pz_gt (ρ 0)) (pz_gN (ρ 0)) (pz_p (pz_cf (pz_gt (ρ 0)) (pz_gN (ρ 0)) (ρ 1 / 4))) := F50.2.2.1
  exact ⟨by omega, by omega, by omega⟩

theorem axq_rp8b_0 : ax_RO ax_wC ax_XC axu_rp8b_0 := by
  intro ρ hp hE hT
  have j0 : ρ 0 % 4 = 1 := pz_gj hE 0 (Nat.le_of_ble_eq_true rfl) rfl
  have j1 : ρ 1 % 4 = 1 := pz_gj hE 1 (Nat.le_of_ble_eq_true rfl) rfl
  obtain ⟨i2a, i2b, i2c, i2d⟩ := pz_gi hE 2 2147483686 2147483689 (Nat.le_of_ble_eq_true rfl) rfl
  have c_kind : ay_at hp 8 7 = some (ρ 2) := ay_gfj hE 42 28 11 8 7 ax_m1 (ax_vlq rfl rfl) (ax_vlj rfl rfl)
  obtain ⟨-, -, -, -, F50⟩ : ay_ex hp 8 ∧ ay_ex hp 10 ∧ ay_ex hp 11 ∧ ay_ex hp 12 ∧ pz_x50 (ρ 0) (ρ 1) (ay_at hp 8 5) (ay_at hp 8 6) (ay_at hp 8 7) (ay_at hp 8 8) (ay_at hp 10 0) (ay_at hp 10 1) (ay_at hp 10 2) (ay_at hp 10 3) (ay_at hp 10 4) (ay_at hp 8 9) (ay_at hp 8 11) (ay_at hp 8 10) (ay_at hp 8 3) (ay_at hp 8 4) (ay_at hp 11) (ay_at hp 12) := (ax_XF_lt (x := 50) (Nat.le_of_ble_eq_true rfl)).mp (ax_gx hE (50, [3, 7]) ax_m0)
  rw [c_kind] at F50
  refine ⟨(fun y hy => by cases hy), _, List.mem_cons_self, ρ, fun _ _ => rfl, ax_px hE rfl (fun y hy => ?_)⟩
  cases List.mem_singleton.mp hy
  refine (ax_XF_lt (x := 95) (Nat.le_of_ble_eq_true rfl)).mpr ?_
  show pz95 (pz_gt (ρ 0)) (pz_gN (ρ 0)) ((ρ 1) / 4)
  have kd : ρ 2 / 4 = pz_kd (pz_gt (ρ 0)) (pz_gN (ρ 0)) (pz_p (pz_cf (pz_gt (ρ 0)) (pz_gN (ρ 0)) (ρ 1 / 4))) := F50.2.2.1
  exact ⟨by omega, by omega, by omega⟩

theorem axq_rp8c_0 : ax_RO ax_wC ax_XC axu_rp8c_0 := by
  intro ρ hp hE hT
  have j0 : ρ 0 % 4 = 1 := pz_gj hE 0 (Nat.le_of_ble_eq_true rfl) rfl
  have j1 : ρ 1 % 4 = 1 := pz_gj hE 1 (Nat.le_of_ble_eq_true rfl) rfl
  obtain ⟨i2a, i2b, i2c, i2d⟩ := pz_gi hE 2 2147483691 2147483694 (Nat.le_of_ble_eq_true rfl) rfl
  have c_kind : ay_at hp 8 7 = some (ρ 2) := ay_gfj hE 42 28 11 8 7 ax_m1 (ax_vlq rfl rfl) (ax_vlj rfl rfl)
  obtain ⟨-, -, -, -, F50⟩ : ay_ex hp 8 ∧ ay_ex hp 10 ∧ ay_ex hp 11 ∧ ay_ex hp 12 ∧ pz_x50 (ρ 0) (ρ 1) (ay_at hp 8 5) (ay_at hp 8 6) (ay_at hp 8 7) (ay_at hp 8 8) (ay_at hp 10 0) (ay_at hp 10 1) (ay_at hp 10 2) (ay_at hp 10 3) (ay_at hp 10 4) (ay_at hp 8 9) (ay_at hp 8 11) (ay_at hp 8 10) (ay_at hp 8 3) (ay_at hp 8 4) (ay_at hp 11) (ay_at hp 12) := (ax_XF_lt (x := 50) (Nat.le_of_ble_eq_true rfl)).mp (ax_gx hE (50, [3, 7]) ax_m0)
  rw [c_kind] at F50
  refine ⟨(fun y hy => by cases hy), _, List.mem_cons_self, ρ, fun _ _ => rfl, ax_px hE rfl (fun y hy => ?_)⟩
  cases List.mem_singleton.mp hy
  refine (ax_XF_lt (x := 95) (Nat.le_of_ble_eq_true rfl)).mpr ?_
  show pz95 (pz_gt (ρ 0)) (pz_gN (ρ 0)) ((ρ 1) / 4)
  have kd : ρ 2 / 4 = pz_kd (pz_gt (ρ 0)) (pz_gN (ρ 0)) (pz_p (pz_cf (pz_gt (ρ 0)) (pz_gN (ρ 0)) (ρ 1 / 4))) := F50.2.2.1
  exact ⟨by omega, by omega, by omega⟩

theorem axq_rp8d_0 : ax_RO ax_wC ax_XC axu_rp8d_0 := by
  intro ρ hp hE hT
  have j0 : ρ 0 % 4 = 1 := pz_gj hE 0 (Nat.le_of_ble_eq_true rfl) rfl
  have j1 : ρ 1 % 4 = 1 := pz_gj hE 1 (Nat.le_of_ble_eq_true rfl) rfl
  obtain ⟨i2a, i2b, i2c, i2d⟩ := pz_gi hE 2 2147483696 4294967295 (Nat.le_of_ble_eq_true rfl) rfl
  have c_kind : ay_at hp 8 7 = some (ρ 2) := ay_gfj hE 42 28 11 8 7 ax_m1 (ax_vlq rfl rfl) (ax_vlj rfl rfl)
  obtain ⟨-, -, -, -, F50⟩ : ay_ex hp 8 ∧ ay_ex hp 10 ∧ ay_ex hp 11 ∧ ay_ex hp 12 ∧ pz_x50 (ρ 0) (ρ 1) (ay_at hp 8 5) (ay_at hp 8 6) (ay_at hp 8 7) (ay_at hp 8 8) (ay_at hp 10 0) (ay_at hp 10 1) (ay_at hp 10 2) (ay_at hp 10 3) (ay_at hp 10 4) (ay_at hp 8 9) (ay_at hp 8 11) (ay_at hp 8 10) (ay_at hp 8 3) (ay_at hp 8 4) (ay_at hp 11) (ay_at hp 12) := (ax_XF_lt (x := 50) (Nat.le_of_ble_eq_true rfl)).mp (ax_gx hE (50, [3, 7]) ax_m0)
  rw [c_kind] at F50
  refine ⟨(fun y hy => by cases hy), _, List.mem_cons_self, ρ, fun _ _ => rfl, ax_px hE rfl (fun y hy => ?_)⟩
  cases List.mem_singleton.mp hy
  refine (ax_XF_lt (x := 95) (Nat.le_of_ble_eq_true rfl)).mpr ?_
  show pz95 (pz_gt (ρ 0)) (pz_gN (ρ 0)) ((ρ 1) / 4)
  have kd : ρ 2 / 4 = pz_kd (pz_gt (ρ 0)) (pz_gN (ρ 0)) (pz_p (pz_cf (pz_gt (ρ 0)) (pz_gN (ρ 0)) (ρ 1 / 4))) := F50.2.2.1
  exact ⟨by omega, by omega, by omega⟩

theorem axq_rp1_1 : ax_RO ax_wC ax_XC axu_rp1_1 := by
  intro ρ hp hE hT
  have j0 : ρ 0 % 4 = 1 := pz_gj hE 0 (Nat.le_of_ble_eq_true rfl) rfl
  have j1 : ρ 1 % 4 = 1 := pz_gj hE 1 (Nat.le_of_ble_eq_true rfl) rfl
  have j2 : ρ 2 % 4 = 1 := pz_gj hE 2 (Nat.le_of_ble_eq_true rfl) rfl
  have j3 : ρ 3 % 4 = 1 := pz_gj hE 3 (Nat.le_of_ble_eq_true rfl) rfl
  obtain ⟨-, -, -, -, F50⟩ : ay_ex hp 8 ∧ ay_ex hp 10 ∧ ay_ex hp 11 ∧ ay_ex hp 12 ∧ pz_x50 (ρ 0) (ρ 1) (ay_at hp 8 5) (ay_at hp 8 6) (ay_at hp 8 7) (ay_at hp 8 8) (ay_at hp 10 0) (ay_at hp 10 1) (ay_at hp 10 2) (ay_at hp 10 3) (ay_at hp 10 4) (ay_at hp 8 9) (ay_at hp 8 11) (ay_at hp 8 10) (ay_at hp 8 3) (ay_at hp 8 4) (ay_at hp 11) (ay_at hp 12) := (ax_XF_lt (x := 50) (Nat.le_of_ble_eq_true rfl)).mp (ax_gx hE (50, [3, 7]) ax_m0)
  have F90 : (pz90 (pz_gt (ρ 0)) (pz_gN (ρ 0)) ((ρ 1) / 4) ((ρ 3) / 4) ∧ 1 ≤ (ρ 3) / 4) := (ax_XF_lt (x := 90) (Nat.le_of_ble_eq_true rfl)).mp (ax_gx hE (90, [3, 7, 15]) ax_m1)
  have F92 : pz_strip ((ρ 2) / 4) = (ρ 3) / 4 := (ax_XF_lt (x := 92) (Nat.le_of_ble_eq_true rfl)).mp (ax_gx hE (92, [11, 15]) ax_m2)
  have F92a : pz_strip ((ρ 2) / 4) = (ρ 2) / 4 := (ax_XF_lt (x := 92) (Nat.le_of_ble_eq_true rfl)).mp (ax_gx hE (92, [11, 11]) ax_m3)
  refine ⟨(fun y hy => by cases hy), _, List.mem_cons_self, ρ, fun _ _ => rfl, ax_px hE rfl (fun y hy => ?_)⟩
  cases List.mem_singleton.mp hy
  refine (ax_XF_lt (x := 90) (Nat.le_of_ble_eq_true rfl)).mpr ?_
  show (pz90 (pz_gt (ρ 0)) (pz_gN (ρ 0)) ((ρ 1) / 4) ((ρ 2) / 4) ∧ 1 ≤ (ρ 2) / 4)
  have e : ρ 3 / 4 = ρ 2 / 4 := by omega
  rw [← e]
  exact F90

theorem axq_rp2_1 : ax_RO ax_wC ax_XC axu_rp2_1 := by
  intro ρ hp hE hT
  have j0 : ρ 0 % 4 = 1 := pz_gj hE 0 (Nat.le_of_ble_eq_true rfl) rfl
  have j1 : ρ 1 % 4 = 1 := pz_gj hE 1 (Nat.le_of_ble_eq_true rfl) rfl
  obtain ⟨-, -, -, -, F50⟩ : ay_ex hp 8 ∧ ay_ex hp 10 ∧ ay_ex hp 11 ∧ ay_ex hp 12 ∧ pz_x50 (ρ 0) (ρ 1) (ay_at hp 8 5) (ay_at hp 8 6) (ay_at hp 8 7) (ay_at hp 8 8) (ay_at hp 10 0) (ay_at hp 10 1) (ay_at hp 10 2) (ay_at hp 10 3) (ay_at hp 10 4) (ay_at hp 8 9) (ay_at hp 8 11) (ay_at hp 8 10) (ay_at hp 8 3) (ay_at hp 8 4) (ay_at hp 11) (ay_at hp 12) := (ax_XF_lt (x := 50) (Nat.le_of_ble_eq_true rfl)).mp (ax_gx hE (50, [3, 7]) ax_m0)
  refine ⟨(fun y hy => by cases hy), _, List.mem_cons_self, ρ, fun _ _ => rfl, ax_px hE rfl (fun y hy => ?_)⟩
  cases List.mem_singleton.mp hy
  refine (ax_XF_lt (x := 97) (Nat.le_of_ble_eq_true rfl)).mpr ?_
  show (0) / 4 ≤ (ρ 1) / 4
  exact Nat.zero_le _

theorem axq_rp3c42_1 : ax_RO ax_wC ax_XC axu_rp3c42_1 := by
  intro ρ hp hE hT
  have j0 : ρ 0 % 4 = 1 := pz_gj hE 0 (Nat.le_of_ble_eq_true rfl) rfl
  have j1 : ρ 1 % 4 = 1 := pz_gj hE 1 (Nat.le_of_ble_eq_true rfl) rfl
  have j2 : ρ 2 % 4 = 1 := pz_gj hE 2 (Nat.le_of_ble_eq_true rfl) rfl
  obtain ⟨i3a, i3b, i3c, i3d⟩ := pz_gi hE 3 2147483690 2147483690 (Nat.le_of_ble_eq_true rfl) rfl
  have j4 : ρ 4 % 4 = 1 := pz_gj hE 4 (Nat.le_of_ble_eq_true rfl) rfl
  have c_kind : ay_at hp 8 7 = some (ρ 3) := ay_gfj hE 42 28 15 8 7 ax_m3 (ax_vlq rfl rfl) (ax_vlj rfl rfl)
  have o1 : ρ 4 < ρ 1 := pz_go hE 19 7 (by decide)
  obtain ⟨-, -, -, -, F50⟩ : ay_ex hp 8 ∧ ay_ex hp 10 ∧ ay_ex hp 11 ∧ ay_ex hp 12 ∧ pz_x50 (ρ 0) (ρ 1) (ay_at hp 8 5) (ay_at hp 8 6) (ay_at hp 8 7) (ay_at hp 8 8) (ay_at hp 10 0) (ay_at hp 10 1) (ay_at hp 10 2) (ay_at hp 10 3) (ay_at hp 10 4) (ay_at hp 8 9) (ay_at hp 8 11) (ay_at hp 8 10) (ay_at hp 8 3) (ay_at hp 8 4) (ay_at hp 11) (ay_at hp 12) := (ax_XF_lt (x := 50) (Nat.le_of_ble_eq_true rfl)).mp (ax_gx hE (50, [3, 7]) ax_m0)
  rw [c_kind] at F50
  have F79 : pz7 (pz_gt (ρ 0)) (pz_gN (ρ 0)) ((ρ 1) / 4) 9 := (ax_XF_lt (x := 79) (Nat.le_of_ble_eq_true rfl)).mp (ax_gx hE (79, [3, 7]) ax_m1)
  have F90 : (pz90 (pz_gt (ρ 0)) (pz_gN (ρ 0)) ((ρ 1) / 4) ((ρ 2) / 4) ∧ 1 ≤ (ρ 2) / 4) := (ax_XF_lt (x := 90) (Nat.le_of_ble_eq_true rfl)).mp (ax_gx hE (90, [3, 7, 11]) ax_m2)
  have st := pq_op F50 F79 F90.1 (show pz_op (ρ 3 / 4) = true by rw [show ρ 3 / 4 = 42 by omega]; rfl)
  obtain ⟨ρ', h1, h2⟩ := pz_pn1 (K := ρ 1 / 4 + 1) (xf := [(53, [3, 23]), (78, [3, 23]), (90, [3, 23, 11]), (1030, [7, 23]), (98, [7, 23]), (1030, [19, 23])]) hE (by decide) (fun ρ' h1 h2 x hx => by
    have q0 : ρ' 0 = ρ 0 := h1 0 (by decide)
    have q1 : ρ' 1 = ρ 1 := h1 1 (by decide)
    have q2 : ρ' 2 = ρ 2 := h1 2 (by decide)
    have q3 : ρ' 3 = ρ 3 := h1 3 (by decide)
    have q4 : ρ' 4 = ρ 4 := h1 4 (by decide)
    rcases List.mem_cons.mp hx with e | hx
    · subst e
      refine (ax_XF_lt (x := 53) (Nat.le_of_ble_eq_true rfl)).mpr ?_
      show ay_ex hp 8 ∧ ay_ex hp 10 ∧ ay_ex hp 11 ∧ ay_ex hp 12 ∧ pz_x53 (ρ' 0) (ρ' 5) (ay_at hp 8 5) (ay_at hp 10 0) (ay_at hp 10 1) (ay_at hp 10 2) (ay_at hp 10 3) (ay_at hp 10 4) (ay_at hp 8 9) (ay_at hp 8 11) (ay_at hp 8 10) (ay_at hp 8 3) (ay_at hp 8 4) (ay_at hp 11) (ay_at hp 12)
      rw [q0, h2]
      exact ⟨(ax_cellT hT (q := 8) (g := 2) rfl), (ax_cellT hT (q := 10) (g := 1) rfl), (ax_cellT hT (q := 11) (g := 14) rfl), (ax_cellT hT (q := 12) (g := 15) rfl), pz_53 (pz_41 _) rfl st.1⟩
    rcases List.mem_cons.mp hx with e | hx
    · subst e
      refine (ax_XF_lt (x := 78) (Nat.le_of_ble_eq_true rfl)).mpr ?_
      show pz7 (pz_gt (ρ' 0)) (pz_gN (ρ' 0)) ((ρ' 5) / 4) 8
      rw [q0, h2]
      rw [pz_41]
      exact st.2.1
    rcases List.mem_cons.mp hx with e | hx
    · subst e
      refine (ax_XF_lt (x := 90) (Nat.le_of_ble_eq_true rfl)).mpr ?_
      show (pz90 (pz_gt (ρ' 0)) (pz_gN (ρ' 0)) ((ρ' 5) / 4) ((ρ' 2) / 4) ∧ 1 ≤ (ρ' 2) / 4)
      rw [q0, q2, h2]
      rw [pz_41]
      exact ⟨st.2.2, F90.2⟩
    rcases List.mem_cons.mp hx with e | hx
    · subst e
      refine (ax_XF_bi (o := 30) (by decide)).mpr (Or.inr ⟨rfl, ?_⟩)
      show ρ' 1 < ρ' 5
      rw [q1, h2]
      omega
    rcases List.mem_cons.mp hx with e | hx
    · subst e
      refine (ax_XF_lt (x := 98) (Nat.le_of_ble_eq_true rfl)).mpr ?_
      show (ρ' 5) / 4 = (ρ' 1) / 4 + 1
      rw [q1, h2]
      rw [pz_41]
    cases List.mem_singleton.mp hx
    refine (ax_XF_bi (o := 30) (by decide)).mpr (Or.inr ⟨rfl, ?_⟩)
    show ρ' 4 < ρ' 5
    rw [q4, h2]
    omega)
  exact ⟨(fun y hy => by cases hy), _, List.mem_cons_self, ρ', h1, h2⟩

theorem axq_rp3c47_1 : ax_RO ax_wC ax_XC axu_rp3c47_1 := by
  intro ρ hp hE hT
  have j0 : ρ 0 % 4 = 1 := pz_gj hE 0 (Nat.le_of_ble_eq_true rfl) rfl
  have j1 : ρ 1 % 4 = 1 := pz_gj hE 1 (Nat.le_of_ble_eq_true rfl) rfl
  have j2 : ρ 2 % 4 = 1 := pz_gj hE 2 (Nat.le_of_ble_eq_true rfl) rfl
  obtain ⟨i3a, i3b, i3c, i3d⟩ := pz_gi hE 3 2147483695 2147483695 (Nat.le_of_ble_eq_true rfl) rfl
  have j4 : ρ 4 % 4 = 1 := pz_gj hE 4 (Nat.le_of_ble_eq_true rfl) rfl
  have c_kind : ay_at hp 8 7 = some (ρ 3) := ay_gfj hE 42 28 15 8 7 ax_m3 (ax_vlq rfl rfl) (ax_vlj rfl rfl)
  have o1 : ρ 4 < ρ 1 := pz_go hE 19 7 (by decide)
  obtain ⟨-, -, -, -, F50⟩ : ay_ex hp 8 ∧ ay_ex hp 10 ∧ ay_ex hp 11 ∧ ay_ex hp 12 ∧ pz_x50 (ρ 0) (ρ 1) (ay_at hp 8 5) (ay_at hp 8 6) (ay_at hp 8 7) (ay_at hp 8 8) (ay_at hp 10 0) (ay_at hp 10 1) (ay_at hp 10 2) (ay_at hp 10 3) (ay_at hp 10 4) (ay_at hp 8 9) (ay_at hp 8 11) (ay_at hp 8 10) (ay_at hp 8 3) (ay_at hp 8 4) (ay_at hp 11) (ay_at hp 12) := (ax_XF_lt (x := 50) (Nat.le_of_ble_eq_true rfl)).mp (ax_gx hE (50, [3, 7]) ax_m0)
  rw [c_kind] at F50
  have F79 : pz7 (pz_gt (ρ 0)) (pz_gN (ρ 0)) ((ρ 1) / 4) 9 := (ax_XF_lt (x := 79) (Nat.le_of_ble_eq_true rfl)).mp (ax_gx hE (79, [3, 7]) ax_m1)
  have F90 : (pz90 (pz_gt (ρ 0)) (pz_gN (ρ 0)) ((ρ 1) / 4) ((ρ 2) / 4) ∧ 1 ≤ (ρ 2) / 4) := (ax_XF_lt (x := 90) (Nat.le_of_ble_eq_true rfl)).mp (ax_gx hE (90, [3, 7, 11]) ax_m2)
  have st := pq_op F50 F79 F90.1 (show pz_op (ρ 3 / 4) = true by rw [show ρ 3 / 4 = 47 by omega]; rfl)
  obtain ⟨ρ', h1, h2⟩ := pz_pn1 (K := ρ 1 / 4 + 1) (xf := [(53, [3, 23]), (78, [3, 23]), (90, [3, 23, 11]), (1030, [7, 23]), (98, [7, 23]), (1030, [19, 23])]) hE (by decide) (fun ρ' h1 h2 x hx => by
    have q0 : ρ' 0 = ρ 0 := h1 0 (by decide)
    have q1 : ρ' 1 = ρ 1 := h1 1 (by decide)
    have q2 : ρ' 2 = ρ 2 := h1 2 (by decide)
    have q3 : ρ' 3 = ρ 3 := h1 3 (by decide)
    have q4 : ρ' 4 = ρ 4 := h1 4 (by decide)
    rcases List.mem_cons.mp hx with e | hx
    · subst e
      refine (ax_XF_lt (x := 53) (Nat.le_of_ble_eq_true rfl)).mpr ?_
      show ay_ex hp 8 ∧ ay_ex hp 10 ∧ ay_ex hp 11 ∧ ay_ex hp 12 ∧ pz_x53 (ρ' 0) (ρ' 5) (ay_at hp 8 5) (ay_at hp 10 0) (ay_at hp 10 1) (ay_at hp 10 2) (ay_at hp 10 3) (ay_at hp 10 4) (ay_at hp 8 9) (ay_at hp 8 11) (ay_at hp 8 10) (ay_at hp 8 3) (ay_at hp 8 4) (ay_at hp 11) (ay_at hp 12)
      rw [q0, h2]
      exact ⟨(ax_cellT hT (q := 8) (g := 2) rfl), (ax_cellT hT (q := 10) (g := 1) rfl), (ax_cellT hT (q := 11) (g := 14) rfl), (ax_cellT hT (q := 12) (g := 15) rfl), pz_53 (pz_41 _) rfl st.1⟩
    rcases List.mem_cons.mp hx with e | hx
    · subst e
      refine (ax_XF_lt (x := 78) (Nat.le_of_ble_eq_true rfl)).mpr ?_
      show pz7 (pz_gt (ρ' 0)) (pz_gN (ρ' 0)) ((ρ' 5) / 4) 8
      rw [q0, h2]
      rw [pz_41]
      exact st.2.1
    rcases List.mem_cons.mp hx with e | hx
    · subst e
      refine (ax_XF_lt (x := 90) (Nat.le_of_ble_eq_true rfl)).mpr ?_
      show (pz90 (pz_gt (ρ' 0)) (pz_gN (ρ' 0)) ((ρ' 5) / 4) ((ρ' 2) / 4) ∧ 1 ≤ (ρ' 2) / 4)
      rw [q0, q2, h2]
      rw [pz_41]
      exact ⟨st.2.2, F90.2⟩
    rcases List.mem_cons.mp hx with e | hx
    · subst e
      refine (ax_XF_bi (o := 30) (by decide)).mpr (Or.inr ⟨rfl, ?_⟩)
      show ρ' 1 < ρ' 5
      rw [q1, h2]
      omega
    rcases List.mem_cons.mp hx with e | hx
    · subst e
      refine (ax_XF_lt (x := 98) (Nat.le_of_ble_eq_true rfl)).mpr ?_
      show (ρ' 5) / 4 = (ρ' 1) / 4 + 1
      rw [q1, h2]
      rw [pz_41]
    cases List.mem_singleton.mp hx
    refine (ax_XF_bi (o := 30) (by decide)).mpr (Or.inr ⟨rfl, ?_⟩)
    show ρ' 4 < ρ' 5
    rw [q4, h2]
    omega)
  exact ⟨(fun y hy => by cases hy), _, List.mem_cons_self, ρ', h1, h2⟩

theorem axq_rp3c37_1 : ax_RO ax_wC ax_XC axu_rp3c37_1 := by
  intro ρ hp hE hT
  have j0 : ρ 0 % 4 = 1 := pz_gj hE 0 (Nat.le_of_ble_eq_true rfl) rfl
  have j1 : ρ 1 % 4 = 1 := pz_gj hE 1 (Nat.le_of_ble_eq_true rfl) rfl
  have j2 : ρ 2 % 4 = 1 := pz_gj hE 2 (Nat.le_of_ble_eq_true rfl) rfl
  obtain ⟨i3a, i3b, i3c, i3d⟩ := pz_gi hE 3 2147483685 2147483685 (Nat.le_of_ble_eq_true rfl) rfl
  have j4 : ρ 4 % 4 = 1 := pz_gj hE 4 (Nat.le_of_ble_eq_true rfl) rfl
  have c_kind : ay_at hp 8 7 = some (ρ 3) := ay_gfj hE 42 28 15 8 7 ax_m3 (ax_vlq rfl rfl) (ax_vlj rfl rfl)
  have o1 : ρ 4 < ρ 1 := pz_go hE 19 7 (by decide)
  obtain ⟨-, -, -, -, F50⟩ : ay_ex hp 8 ∧ ay_ex hp 10 ∧ ay_ex hp 11 ∧ ay_ex hp 12 ∧ pz_x50 (ρ 0) (ρ 1) (ay_at hp 8 5) (ay_at hp 8 6) (ay_at hp 8 7) (ay_at hp 8 8) (ay_at hp 10 0) (ay_at hp 10 1) (ay_at hp 10 2) (ay_at hp 10 3) (ay_at hp 10 4) (ay_at hp 8 9) (ay_at hp 8 11) (ay_at hp 8 10) (ay_at hp 8 3) (ay_at hp 8 4) (ay_at hp 11) (ay_at hp 12) := (ax_XF_lt (x := 50) (Nat.le_of_ble_eq_true rfl)).mp (ax_gx hE (50, [3, 7]) ax_m0)
  rw [c_kind] at F50
  have F79 : pz7 (pz_gt (ρ 0)) (pz_gN (ρ 0)) ((ρ 1) / 4) 9 := (ax_XF_lt (x := 79) (Nat.le_of_ble_eq_true rfl)).mp (ax_gx hE (79, [3, 7]) ax_m1)
  have F90 : (pz90 (pz_gt (ρ 0)) (pz_gN (ρ 0)) ((ρ 1) / 4) ((ρ 2) / 4) ∧ 1 ≤ (ρ 2) / 4) := (ax_XF_lt (x := 90) (Nat.le_of_ble_eq_true rfl)).mp (ax_gx hE (90, [3, 7, 11]) ax_m2)
  have st := pq_op F50 F79 F90.1 (show pz_op (ρ 3 / 4) = true by rw [show ρ 3 / 4 = 37 by omega]; rfl)
  obtain ⟨ρ', h1, h2⟩ := pz_pn1 (K := ρ 1 / 4 + 1) (xf := [(53, [3, 23]), (78, [3, 23]), (90, [3, 23, 11]), (1030, [7, 23]), (98, [7, 23]), (1030, [19, 23])]) hE (by decide) (fun ρ' h1 h2 x hx => by
    have q0 : ρ' 0 = ρ 0 := h1 0 (by decide)
    have q1 : ρ' 1 = ρ 1 := h1 1 (by decide)
    have q2 : ρ' 2 = ρ 2 := h1 2 (by decide)
    have q3 : ρ' 3 = ρ 3 := h1 3 (by decide)
    have q4 : ρ' 4 = ρ 4 := h1 4 (by decide)
    rcases List.mem_cons.mp hx with e | hx
    · subst e
      refine (ax_XF_lt (x := 53) (Nat.le_of_ble_eq_true rfl)).mpr ?_
      show ay_ex hp 8 ∧ ay_ex hp 10 ∧ ay_ex hp 11 ∧ ay_ex hp 12 ∧ pz_x53 (ρ' 0) (ρ' 5) (ay_at hp 8 5) (ay_at hp 10 0) (ay_at hp 10 1) (ay_at hp 10 2) (ay_at hp 10 3) (ay_at hp 10 4) (ay_at hp 8 9) (ay_at hp 8 11) (ay_at hp 8 10) (ay_at hp 8 3) (ay_at hp 8 4) (ay_at hp 11) (ay_at hp 12)
      rw [q0, h2]
      exact ⟨(ax_cellT hT (q := 8) (g := 2) rfl), (ax_cellT hT (q := 10) (g := 1) rfl), (ax_cellT hT (q := 11) (g := 14) rfl), (ax_cellT hT (q := 12) (g := 15) rfl), pz_53 (pz_41 _) rfl st.1⟩
    rcases List.mem_cons.mp hx with e | hx
    · subst e
      refine (ax_XF_lt (x := 78) (Nat.le_of_ble_eq_true rfl)).mpr ?_
      show pz7 (pz_gt (ρ' 0)) (pz_gN (ρ' 0)) ((ρ' 5) / 4) 8
      rw [q0, h2]
      rw [pz_41]
      exact st.2.1
    rcases List.mem_cons.mp hx with e | hx
    · subst e
      refine (ax_XF_lt (x := 90) (Nat.le_of_ble_eq_true rfl)).mpr ?_
      show (pz90 (pz_gt (ρ' 0)) (pz_gN (ρ' 0)) ((ρ' 5) / 4) ((ρ' 2) / 4) ∧ 1 ≤ (ρ' 2) / 4)
      rw [q0, q2, h2]
      rw [pz_41]
      exact ⟨st.2.2, F90.2⟩
    rcases List.mem_cons.mp hx with e | hx
    · subst e
      refine (ax_XF_bi (o := 30) (by decide)).mpr (Or.inr ⟨rfl, ?_⟩)
      show ρ' 1 < ρ' 5
      rw [q1, h2]
      omega
    rcases List.mem_cons.mp hx with e | hx
    · subst e
      refine (ax_XF_lt (x := 98) (Nat.le_of_ble_eq_true rfl)).mpr ?_
      show (ρ' 5) / 4 = (ρ' 1) / 4 + 1
      rw [q1, h2]
      rw [pz_41]
    cases List.mem_singleton.mp hx
    refine (ax_XF_bi (o := 30) (by decide)).mpr (Or.inr ⟨rfl, ?_⟩)
    show ρ' 4 < ρ' 5
    rw [q4, h2]
    omega)
  exact ⟨(fun y hy => by cases hy), _, List.mem_cons_self, ρ', h1, h2⟩

theorem axq_rp4_1 : ax_RO ax_wC ax_XC axu_rp4_1 := by
  intro ρ hp hE hT
  have j0 : ρ 0 % 4 = 1 := pz_gj hE 0 (Nat.le_of_ble_eq_true rfl) rfl
  have j1 : ρ 1 % 4 = 1 := pz_gj hE 1 (Nat.le_of_ble_eq_true rfl) rfl
  have j2 : ρ 2 % 4 = 1 := pz_gj hE 2 (Nat.le_of_ble_eq_true rfl) rfl
  have j3 : ρ 3 % 4 = 1 := pz_gj hE 3 (Nat.le_of_ble_eq_true rfl) rfl
  obtain ⟨-, -, -, -, F50⟩ : ay_ex hp 8 ∧ ay_ex hp 10 ∧ ay_ex hp 11 ∧ ay_ex hp 12 ∧ pz_x50 (ρ 0) (ρ 1) (ay_at hp 8 5) (ay_at hp 8 6) (ay_at hp 8 7) (ay_at hp 8 8) (ay_at hp 10 0) (ay_at hp 10 1) (ay_at hp 10 2) (ay_at hp 10 3) (ay_at hp 10 4) (ay_at hp 8 9) (ay_at hp 8 11) (ay_at hp 8 10) (ay_at hp 8 3) (ay_at hp 8 4) (ay_at hp 11) (ay_at hp 12) := (ax_XF_lt (x := 50) (Nat.le_of_ble_eq_true rfl)).mp (ax_gx hE (50, [3, 7]) ax_m0)
  have F90 : (pz90 (pz_gt (ρ 0)) (pz_gN (ρ 0)) ((ρ 1) / 4) ((ρ 3) / 4) ∧ 1 ≤ (ρ 3) / 4) := (ax_XF_lt (x := 90) (Nat.le_of_ble_eq_true rfl)).mp (ax_gx hE (90, [3, 7, 15]) ax_m1)
  have F92 : pz_strip ((ρ 2) / 4) = (ρ 3) / 4 := (ax_XF_lt (x := 92) (Nat.le_of_ble_eq_true rfl)).mp (ax_gx hE (92, [11, 15]) ax_m2)
  have F92a : pz_strip ((ρ 2) / 4) = (ρ 2) / 4 := (ax_XF_lt (x := 92) (Nat.le_of_ble_eq_true rfl)).mp (ax_gx hE (92, [11, 11]) ax_m3)
  refine ⟨(fun y hy => by cases hy), _, List.mem_cons_self, ρ, fun _ _ => rfl, ax_px hE rfl (fun y hy => ?_)⟩
  cases List.mem_singleton.mp hy
  refine (ax_XF_lt (x := 90) (Nat.le_of_ble_eq_true rfl)).mpr ?_
  show (pz90 (pz_gt (ρ 0)) (pz_gN (ρ 0)) ((ρ 1) / 4) ((ρ 2) / 4) ∧ 1 ≤ (ρ 2) / 4)
  have e : ρ 3 / 4 = ρ 2 / 4 := by omega
  rw [← e]
  exact F90

theorem axq_rp5_1 : ax_RO ax_wC ax_XC axu_rp5_1 := by
  intro ρ hp hE hT
  have j0 : ρ 0 % 4 = 1 := pz_gj hE 0 (Nat.le_of_ble_eq_true rfl) rfl
  have j1 : ρ 1 % 4 = 1 := pz_gj hE 1 (Nat.le_of_ble_eq_true rfl) rfl
  have j2 : ρ 2 % 4 = 1 := pz_gj hE 2 (Nat.le_of_ble_eq_true rfl) rfl
  have j3 : ρ 3 % 4 = 1 := pz_gj hE 3 (Nat.le_of_ble_eq_true rfl) rfl
  have j4 : ρ 4 % 4 = 1 := pz_gj hE 4 (Nat.le_of_ble_eq_true rfl) rfl
  have o1 : ρ 2 < ρ 1 := pz_go hE 11 7 (by decide)
  have o2 : ρ 3 < ρ 2 := pz_go hE 15 11 (by decide)
  have o3 : ρ 4 < ρ 3 := pz_go hE 19 15 (by decide)
  obtain ⟨-, -, -, -, F50⟩ : ay_ex hp 8 ∧ ay_ex hp 10 ∧ ay_ex hp 11 ∧ ay_ex hp 12 ∧ pz_x50 (ρ 0) (ρ 1) (ay_at hp 8 5) (ay_at hp 8 6) (ay_at hp 8 7) (ay_at hp 8 8) (ay_at hp 10 0) (ay_at hp 10 1) (ay_at hp 10 2) (ay_at hp 10 3) (ay_at hp 10 4) (ay_at hp 8 9) (ay_at hp 8 11) (ay_at hp 8 10) (ay_at hp 8 3) (ay_at hp 8 4) (ay_at hp 11) (ay_at hp 12) := (ax_XF_lt (x := 50) (Nat.le_of_ble_eq_true rfl)).mp (ax_gx hE (50, [3, 7]) ax_m0)
  refine ⟨(fun y hy => by cases hy), _, List.mem_cons_self, ρ, fun _ _ => rfl, ax_px hE rfl (fun y hy => ?_)⟩
  rcases List.mem_cons.mp hy with e | hy
  · subst e
    refine (ax_XF_bi (o := 30) (by decide)).mpr (Or.inr ⟨rfl, ?_⟩)
    show ρ 4 < ρ 1
    omega
  cases List.mem_singleton.mp hy
  refine (ax_XF_bi (o := 30) (by decide)).mpr (Or.inr ⟨rfl, ?_⟩)
  show ρ 3 < ρ 1
  omega

theorem axq_rp6_1 : ax_RO ax_wC ax_XC axu_rp6_1 := by
  intro ρ hp hE hT
  have j0 : ρ 0 % 4 = 1 := pz_gj hE 0 (Nat.le_of_ble_eq_true rfl) rfl
  have j1 : ρ 1 % 4 = 1 := pz_gj hE 1 (Nat.le_of_ble_eq_true rfl) rfl
  have j2 : ρ 2 % 4 = 1 := pz_gj hE 2 (Nat.le_of_ble_eq_true rfl) rfl
  obtain ⟨i3a, i3b, i3c, i3d⟩ := pz_gi hE 3 2147483648 2147484447 (Nat.le_of_ble_eq_true rfl) rfl
  obtain ⟨i4a, i4b, i4c, i4d⟩ := pz_gi hE 4 0 4294967295 (Nat.le_of_ble_eq_true rfl) rfl
  have s1 : (ρ 3 / 4 + 2147483648) % 4294967296 + (4 / 4 + 2147483648) % 4294967296 = (ρ 4 / 4 + 2147483648) % 4294967296 + 2147483648 := pz_gs hE 15 4 19 ax_m1
  have o1 : ρ 2 < ρ 1 := pz_go hE 11 7 (by decide)
  obtain ⟨-, -, -, -, F50⟩ : ay_ex hp 8 ∧ ay_ex hp 10 ∧ ay_ex hp 11 ∧ ay_ex hp 12 ∧ pz_x50 (ρ 0) (ρ 1) (ay_at hp 8 5) (ay_at hp 8 6) (ay_at hp 8 7) (ay_at hp 8 8) (ay_at hp 10 0) (ay_at hp 10 1) (ay_at hp 10 2) (ay_at hp 10 3) (ay_at hp 10 4) (ay_at hp 8 9) (ay_at hp 8 11) (ay_at hp 8 10) (ay_at hp 8 3) (ay_at hp 8 4) (ay_at hp 11) (ay_at hp 12) := (ax_XF_lt (x := 50) (Nat.le_of_ble_eq_true rfl)).mp (ax_gx hE (50, [3, 7]) ax_m0)
  have F97 : (ρ 3) / 4 ≤ (ρ 2) / 4 := (ax_XF_lt (x := 97) (Nat.le_of_ble_eq_true rfl)).mp (ax_gx hE (97, [11, 15]) ax_m2)
  refine ⟨(fun y hy => by cases hy), _, List.mem_cons_self, ρ, fun _ _ => rfl, ax_px hE rfl (fun y hy => ?_)⟩
  cases List.mem_singleton.mp hy
  refine (ax_XF_lt (x := 97) (Nat.le_of_ble_eq_true rfl)).mpr ?_
  show (ρ 4) / 4 ≤ (ρ 1) / 4
  omega

theorem axq_rp7_1 : ax_RO ax_wC ax_XC axu_rp7_1 := by
  intro ρ hp hE hT
  have j0 : ρ 0 % 4 = 1 := pz_gj hE 0 (Nat.le_of_ble_eq_true rfl) rfl
  have j1 : ρ 1 % 4 = 1 := pz_gj hE 1 (Nat.le_of_ble_eq_true rfl) rfl
  obtain ⟨i2a, i2b, i2c, i2d⟩ := pz_gi hE 2 2147484448 2147484448 (Nat.le_of_ble_eq_true rfl) rfl
  obtain ⟨-, -, F30⟩ : ay_ex hp 8 ∧ ay_ex hp 9 ∧ pz_x30 (ρ 0) (ay_at hp 8 1) (ay_at hp 9) := (ax_XF_lt (x := 30) (Nat.le_of_ble_eq_true rfl)).mp (ax_gx hE (30, [3]) ax_m0)
  obtain ⟨-, -, -, -, F50⟩ : ay_ex hp 8 ∧ ay_ex hp 10 ∧ ay_ex hp 11 ∧ ay_ex hp 12 ∧ pz_x50 (ρ 0) (ρ 1) (ay_at hp 8 5) (ay_at hp 8 6) (ay_at hp 8 7) (ay_at hp 8 8) (ay_at hp 10 0) (ay_at hp 10 1) (ay_at hp 10 2) (ay_at hp 10 3) (ay_at hp 10 4) (ay_at hp 8 9) (ay_at hp 8 11) (ay_at hp 8 10) (ay_at hp 8 3) (ay_at hp 8 4) (ay_at hp 11) (ay_at hp 12) := (ax_XF_lt (x := 50) (Nat.le_of_ble_eq_true rfl)).mp (ax_gx hE (50, [3, 7]) ax_m1)
  have F79 : pz7 (pz_gt (ρ 0)) (pz_gN (ρ 0)) ((ρ 1) / 4) 9 := (ax_XF_lt (x := 79) (Nat.le_of_ble_eq_true rfl)).mp (ax_gx hE (79, [3, 7]) ax_m2)
  have F97 : (ρ 2) / 4 ≤ (ρ 1) / 4 := (ax_XF_lt (x := 97) (Nat.le_of_ble_eq_true rfl)).mp (ax_gx hE (97, [7, 11]) ax_m3)
  refine ⟨(fun y hy => by cases hy), _, List.mem_cons_self, ρ, fun _ _ => rfl, ax_px hE rfl (fun y hy => ?_)⟩
  cases List.mem_singleton.mp hy
  refine (ax_XF_lt (x := 95) (Nat.le_of_ble_eq_true rfl)).mpr ?_
  show pz95 (pz_gt (ρ 0)) (pz_gN (ρ 0)) ((ρ 1) / 4)
  have kd := pq_far (n := ρ 1 / 4) F79 (by decide) (show pz_gN (ρ 0) ≤ 800 from F30.2.1) (by omega)
  exact ⟨by omega, by omega, by omega⟩

theorem axq_rp8a_1 : ax_RO ax_wC ax_XC axu_rp8a_1 := by
  intro ρ hp hE hT
  have j0 : ρ 0 % 4 = 1 := pz_gj hE 0 (Nat.le_of_ble_eq_true rfl) rfl
  have j1 : ρ 1 % 4 = 1 := pz_gj hE 1 (Nat.le_of_ble_eq_true rfl) rfl
  obtain ⟨i2a, i2b, i2c, i2d⟩ := pz_gi hE 2 0 2147483684 (Nat.le_of_ble_eq_true rfl) rfl
  have c_kind : ay_at hp 8 7 = some (ρ 2) := ay_gfj hE 42 28 11 8 7 ax_m1 (ax_vlq rfl rfl) (ax_vlj rfl rfl)
  obtain ⟨-, -, -, -, F50⟩ : ay_ex hp 8 ∧ ay_ex hp 10 ∧ ay_ex hp 11 ∧ ay_ex hp 12 ∧ pz_x50 (ρ 0) (ρ 1) (ay_at hp 8 5) (ay_at hp 8 6) (ay_at hp 8 7) (ay_at hp 8 8) (ay_at hp 10 0) (ay_at hp 10 1) (ay_at hp 10 2) (ay_at hp 10 3) (ay_at hp 10 4) (ay_at hp 8 9) (ay_at hp 8 11) (ay_at hp 8 10) (ay_at hp 8 3) (ay_at hp 8 4) (ay_at hp 11) (ay_at hp 12) := (ax_XF_lt (x := 50) (Nat.le_of_ble_eq_true rfl)).mp (ax_gx hE (50, [3, 7]) ax_m0)
  rw [c_kind] at F50
  refine ⟨(fun y hy => by cases hy), _, List.mem_cons_self, ρ, fun _ _ => rfl, ax_px hE rfl (fun y hy => ?_)⟩
  cases List.mem_singleton.mp hy
  refine (ax_XF_lt (x := 95) (Nat.le_of_ble_eq_true rfl)).mpr ?_
  show pz95 (pz_gt (ρ 0)) (pz_gN (ρ 0)) ((ρ 1) / 4)
  have kd : ρ 2 / 4 = pz_kd (pz_gt (ρ 0)) (pz_gN (ρ 0)) (pz_p (pz_cf (pz_gt (ρ 0)) (pz_gN (ρ 0)) (ρ 1 / 4))) := F50.2.2.1
  exact ⟨by omega, by omega, by omega⟩

theorem axq_rp8b_1 : ax_RO ax_wC ax_XC axu_rp8b_1 := by
  intro ρ hp hE hT
  have j0 : ρ 0 % 4 = 1 := pz_gj hE 0 (Nat.le_of_ble_eq_true rfl) rfl
  have j1 : ρ 1 % 4 = 1 := pz_gj hE 1 (Nat.le_of_ble_eq_true rfl) rfl
  obtain ⟨i2a, i2b, i2c, i2d⟩ := pz_gi hE 2 2147483686 2147483689 (Nat.le_of_ble_eq_true rfl) rfl
  have c_kind : ay_at hp 8 7 = some (ρ 2) := ay_gfj hE 42 28 11 8 7 ax_m1 (ax_vlq rfl rfl) (ax_vlj rfl rfl)
  obtain ⟨-, -, -, -, F50⟩ : ay_ex hp 8 ∧ ay_ex hp 10 ∧ ay_ex hp 11 ∧ ay_ex hp 12 ∧ pz_x50 (ρ 0) (ρ 1) (ay_at hp 8 5) (ay_at hp 8 6) (ay_at hp 8 7) (ay_at hp 8 8) (ay_at hp 10 0) (ay_at hp 10 1) (ay_at hp 10 2) (ay_at hp 10 3) (ay_at hp 10 4) (ay_at hp 8 9) (ay_at hp 8 11) (ay_at hp 8 10) (ay_at hp 8 3) (ay_at hp 8 4) (ay_at hp 11) (ay_at hp 12) := (ax_XF_lt (x := 50) (Nat.le_of_ble_eq_true rfl)).mp (ax_gx hE (50, [3, 7]) ax_m0)
  rw [c_kind] at F50
  refine ⟨(fun y hy => by cases hy), _, List.mem_cons_self, ρ, fun _ _ => rfl, ax_px hE rfl (fun y hy => ?_)⟩
  cases List.mem_singleton.mp hy
  refine (ax_XF_lt (x := 95) (Nat.le_of_ble_eq_true rfl)).mpr ?_
  show pz95 (pz_gt (ρ 0)) (pz_gN (ρ 0)) ((ρ 1) / 4)
  have kd : ρ 2 / 4 = pz_kd (pz_gt (ρ 0)) (pz_gN (ρ 0)) (pz_p (pz_cf (pz_gt (ρ 0)) (pz_gN (ρ 0)) (ρ 1 / 4))) := F50.2.2.1
  exact ⟨by omega, by omega, by omega⟩

theorem axq_rp8c_1 : ax_RO ax_wC ax_XC axu_rp8c_1 := by
  intro ρ hp hE hT
  have j0 : ρ 0 % 4 = 1 := pz_gj hE 0 (Nat.le_of_ble_eq_true rfl) rfl
  have j1 : ρ 1 % 4 = 1 := pz_gj hE 1 (Nat.le_of_ble_eq_true rfl) rfl
  obtain ⟨i2a, i2b, i2c, i2d⟩ := pz_gi hE 2 2147483691 2147483694 (Nat.le_of_ble_eq_true rfl) rfl
  have c_kind : ay_at hp 8 7 = some (ρ 2) := ay_gfj hE 42 28 11 8 7 ax_m1 (ax_vlq rfl rfl) (ax_vlj rfl rfl)
  obtain ⟨-, -, -, -, F50⟩ : ay_ex hp 8 ∧ ay_ex hp 10 ∧ ay_ex hp 11 ∧ ay_ex hp 12 ∧ pz_x50 (ρ 0) (ρ 1) (ay_at hp 8 5) (ay_at hp 8 6) (ay_at hp 8 7) (ay_at hp 8 8) (ay_at hp 10 0) (ay_at hp 10 1) (ay_at hp 10 2) (ay_at hp 10 3) (ay_at hp 10 4) (ay_at hp 8 9) (ay_at hp 8 11) (ay_at hp 8 10) (ay_at hp 8 3) (ay_at hp 8 4) (ay_at hp 11) (ay_at hp 12) := (ax_XF_lt (x := 50) (Nat.le_of_ble_eq_true rfl)).mp (ax_gx hE (50, [3, 7]) ax_m0)
  rw [c_kind] at F50
  refine ⟨(fun y hy => by cases hy), _, List.mem_cons_self, ρ, fun _ _ => rfl, ax_px hE rfl (fun y hy => ?_)⟩
  cases List.mem_singleton.mp hy
  refine (ax_XF_lt (x := 95) (Nat.le_of_ble_eq_true rfl)).mpr ?_
  show pz95 (pz_gt (ρ 0)) (pz_gN (ρ 0)) ((ρ 1) / 4)
  have kd : ρ 2 / 4 = pz_kd (pz_gt (ρ 0)) (pz_gN (ρ 0)) (pz_p (pz_cf (pz_gt (ρ 0)) (pz_gN (ρ 0)) (ρ 1 / 4))) := F50.2.2.1
  exact ⟨by omega, by omega, by omega⟩

theorem axq_rp8d_1 : ax_RO ax_wC ax_XC axu_rp8d_1 := by
  intro ρ hp hE hT
  have j0 : ρ 0 % 4 = 1 := pz_gj hE 0 (Nat.le_of_ble_eq_true rfl) rfl
  have j1 : ρ 1 % 4 = 1 := pz_gj hE 1 (Nat.le_of_ble_eq_true rfl) rfl
  obtain ⟨i2a, i2b, i2c, i2d⟩ := pz_gi hE 2 2147483696 4294967295 (Nat.le_of_ble_eq_true rfl) rfl
  have c_kind : ay_at hp 8 7 = some (ρ 2) := ay_gfj hE 42 28 11 8 7 ax_m1 (ax_vlq rfl rfl) (ax_vlj rfl rfl)
  obtain ⟨-, -, -, -, F50⟩ : ay_ex hp 8 ∧ ay_ex hp 10 ∧ ay_ex hp 11 ∧ ay_ex hp 12 ∧ pz_x50 (ρ 0) (ρ 1) (ay_at hp 8 5) (ay_at hp 8 6) (ay_at hp 8 7) (ay_at hp 8 8) (ay_at hp 10 0) (ay_at hp 10 1) (ay_at hp 10 2) (ay_at hp 10 3) (ay_at hp 10 4) (ay_at hp 8 9) (ay_at hp 8 11) (ay_at hp 8 10) (ay_at hp 8 3) (ay_at hp 8 4) (ay_at hp 11) (ay_at hp 12) := (ax_XF_lt (x := 50) (Nat.le_of_ble_eq_true rfl)).mp (ax_gx hE (50, [3, 7]) ax_m0)
  rw [c_kind] at F50
  refine ⟨(fun y hy => by cases hy), _, List.mem_cons_self, ρ, fun _ _ => rfl, ax_px hE rfl (fun y hy => ?_)⟩
  cases List.mem_singleton.mp hy
  refine (ax_XF_lt (x := 95) (Nat.le_of_ble_eq_true rfl)).mpr ?_
  show pz95 (pz_gt (ρ 0)) (pz_gN (ρ 0)) ((ρ 1) / 4)
  have kd : ρ 2 / 4 = pz_kd (pz_gt (ρ 0)) (pz_gN (ρ 0)) (pz_p (pz_cf (pz_gt (ρ 0)) (pz_gN (ρ 0)) (ρ 1 / 4))) := F50.2.2.1
  exact ⟨by omega, by omega, by omega⟩

theorem axq_rp1_2 : ax_RO ax_wC ax_XC axu_rp1_2 := by
  intro ρ hp hE hT
  have j0 : ρ 0 % 4 = 1 := pz_gj hE 0 (Nat.le_of_ble_eq_true rfl) rfl
  have j1 : ρ 1 % 4 = 1 := pz_gj hE 1 (Nat.le_of_ble_eq_true rfl) rfl
  have j2 : ρ 2 % 4 = 1 := pz_gj hE 2 (Nat.le_of_ble_eq_true rfl) rfl
  have j3 : ρ 3 % 4 = 1 := pz_gj hE 3 (Nat.le_of_ble_eq_true rfl) rfl
  obtain ⟨-, -, -, -, F50⟩ : ay_ex hp 8 ∧ ay_ex hp 10 ∧ ay_ex hp 11 ∧ ay_ex hp 12 ∧ pz_x50 (ρ 0) (ρ 1) (ay_at hp 8 5) (ay_at hp 8 6) (ay_at hp 8 7) (ay_at hp 8 8) (ay_at hp 10 0) (ay_at hp 10 1) (ay_at hp 10 2) (ay_at hp 10 3) (ay_at hp 10 4) (ay_at hp 8 9) (ay_at hp 8 11) (ay_at hp 8 10) (ay_at hp 8 3) (ay_at hp 8 4) (ay_at hp 11) (ay_at hp 12) := (ax_XF_lt (x := 50) (Nat.le_of_ble_eq_true rfl)).mp (ax_gx hE (50, [3, 7]) ax_m0)
  have F90 : (pz90 (pz_gt (ρ 0)) (pz_gN (ρ 0)) ((ρ 1) / 4) ((ρ 3) / 4) ∧ 1 ≤ (ρ 3) / 4) := (ax_XF_lt (x := 90) (Nat.le_of_ble_eq_true rfl)).mp (ax_gx hE (90, [3, 7, 15]) ax_m1)
  have F92 : pz_strip ((ρ 2) / 4) = (ρ 3) / 4 := (ax_XF_lt (x := 92) (Nat.le_of_ble_eq_true rfl)).mp (ax_gx hE (92, [11, 15]) ax_m2)
  have F92a : pz_strip ((ρ 2) / 4) = (ρ 2) / 4 := (ax_XF_lt (x := 92) (Nat.le_of_ble_eq_true rfl)).mp (ax_gx hE (92, [11, 11]) ax_m3)
  refine ⟨(fun y hy => by cases hy), _, List.mem_cons_self, ρ, fun _ _ => rfl, ax_px hE rfl (fun y hy => ?_)⟩
  cases List.mem_singleton.mp hy
  refine (ax_XF_lt (x := 90) (Nat.le_of_ble_eq_true rfl)).mpr ?_
  show (pz90 (pz_gt (ρ 0)) (pz_gN (ρ 0)) ((ρ 1) / 4) ((ρ 2) / 4) ∧ 1 ≤ (ρ 2) / 4)
  have e : ρ 3 / 4 = ρ 2 / 4 := by omega
  rw [← e]
  exact F90

theorem axq_rp2_2 : ax_RO ax_wC ax_XC axu_rp2_2 := by
  intro ρ hp hE hT
  have j0 : ρ 0 % 4 = 1 := pz_gj hE 0 (Nat.le_of_ble_eq_true rfl) rfl
  have j1 : ρ 1 % 4 = 1 := pz_gj hE 1 (Nat.le_of_ble_eq_true rfl) rfl
  obtain ⟨-, -, -, -, F50⟩ : ay_ex hp 8 ∧ ay_ex hp 10 ∧ ay_ex hp 11 ∧ ay_ex hp 12 ∧ pz_x50 (ρ 0) (ρ 1) (ay_at hp 8 5) (ay_at hp 8 6) (ay_at hp 8 7) (ay_at hp 8 8) (ay_at hp 10 0) (ay_at hp 10 1) (ay_at hp 10 2) (ay_at hp 10 3) (ay_at hp 10 4) (ay_at hp 8 9) (ay_at hp 8 11) (ay_at hp 8 10) (ay_at hp 8 3) (ay_at hp 8 4) (ay_at hp 11) (ay_at hp 12) := (ax_XF_lt (x := 50) (Nat.le_of_ble_eq_true rfl)).mp (ax_gx hE (50, [3, 7]) ax_m0)
  refine ⟨(fun y hy => by cases hy), _, List.mem_cons_self, ρ, fun _ _ => rfl, ax_px hE rfl (fun y hy => ?_)⟩
  cases List.mem_singleton.mp hy
  refine (ax_XF_lt (x := 97) (Nat.le_of_ble_eq_true rfl)).mpr ?_
  show (0) / 4 ≤ (ρ 1) / 4
  exact Nat.zero_le _

theorem axq_rp3c42_2 : ax_RO ax_wC ax_XC axu_rp3c42_2 := by
  intro ρ hp hE hT
  have j0 : ρ 0 % 4 = 1 := pz_gj hE 0 (Nat.le_of_ble_eq_true rfl) rfl
  have j1 : ρ 1 % 4 = 1 := pz_gj hE 1 (Nat.le_of_ble_eq_true rfl) rfl
  have j2 : ρ 2 % 4 = 1 := pz_gj hE 2 (Nat.le_of_ble_eq_true rfl) rfl
  obtain ⟨i3a, i3b, i3c, i3d⟩ := pz_gi hE 3 2147483690 2147483690 (Nat.le_of_ble_eq_true rfl) rfl
  have j4 : ρ 4 % 4 = 1 := pz_gj hE 4 (Nat.le_of_ble_eq_true rfl) rfl
  have c_kind : ay_at hp 8 7 = some (ρ 3) := ay_gfj hE 42 28 15 8 7 ax_m3 (ax_vlq rfl rfl) (ax_vlj rfl rfl)
  have o1 : ρ 4 < ρ 1 := pz_go hE 19 7 (by decide)
  obtain ⟨-, -, -, -, F50⟩ : ay_ex hp 8 ∧ ay_ex hp 10 ∧ ay_ex hp 11 ∧ ay_ex hp 12 ∧ pz_x50 (ρ 0) (ρ 1) (ay_at hp 8 5) (ay_at hp 8 6) (ay_at hp 8 7) (ay_at hp 8 8) (ay_at hp 10 0) (ay_at hp 10 1) (ay_at hp 10 2) (ay_at hp 10 3) (ay_at hp 10 4) (ay_at hp 8 9) (ay_at hp 8 11) (ay_at hp 8 10) (ay_at hp 8 3) (ay_at hp 8 4) (ay_at hp 11) (ay_at hp 12) := (ax_XF_lt (x := 50) (Nat.le_of_ble_eq_true rfl)).mp (ax_gx hE (50, [3, 7]) ax_m0)
  rw [c_kind] at F50
  have F79 : pz7 (pz_gt (ρ 0)) (pz_gN (ρ 0)) ((ρ 1) / 4) 9 := (ax_XF_lt (x := 79) (Nat.le_of_ble_eq_true rfl)).mp (ax_gx hE (79, [3, 7]) ax_m1)
  have F90 : (pz90 (pz_gt (ρ 0)) (pz_gN (ρ 0)) ((ρ 1) / 4) ((ρ 2) / 4) ∧ 1 ≤ (ρ 2) / 4) := (ax_XF_lt (x := 90) (Nat.le_of_ble_eq_true rfl)).mp (ax_gx hE (90, [3, 7, 11]) ax_m2)
  have st := pq_op F50 F79 F90.1 (show pz_op (ρ 3 / 4) = true by rw [show ρ 3 / 4 = 42 by omega]; rfl)
  obtain ⟨ρ', h1, h2⟩ := pz_pn1 (K := ρ 1 / 4 + 1) (xf := [(53, [3, 23]), (78, [3, 23]), (90, [3, 23, 11]), (1030, [7, 23]), (98, [7, 23]), (1030, [19, 23])]) hE (by decide) (fun ρ' h1 h2 x hx => by
    have q0 : ρ' 0 = ρ 0 := h1 0 (by decide)
    have q1 : ρ' 1 = ρ 1 := h1 1 (by decide)
    have q2 : ρ' 2 = ρ 2 := h1 2 (by decide)
    have q3 : ρ' 3 = ρ 3 := h1 3 (by decide)
    have q4 : ρ' 4 = ρ 4 := h1 4 (by decide)
    rcases List.mem_cons.mp hx with e | hx
    · subst e
      refine (ax_XF_lt (x := 53) (Nat.le_of_ble_eq_true rfl)).mpr ?_
      show ay_ex hp 8 ∧ ay_ex hp 10 ∧ ay_ex hp 11 ∧ ay_ex hp 12 ∧ pz_x53 (ρ' 0) (ρ' 5) (ay_at hp 8 5) (ay_at hp 10 0) (ay_at hp 10 1) (ay_at hp 10 2) (ay_at hp 10 3) (ay_at hp 10 4) (ay_at hp 8 9) (ay_at hp 8 11) (ay_at hp 8 10) (ay_at hp 8 3) (ay_at hp 8 4) (ay_at hp 11) (ay_at hp 12)
      rw [q0, h2]
      exact ⟨(ax_cellT hT (q := 8) (g := 2) rfl), (ax_cellT hT (q := 10) (g := 1) rfl), (ax_cellT hT (q := 11) (g := 14) rfl), (ax_cellT hT (q := 12) (g := 15) rfl), pz_53 (pz_41 _) rfl st.1⟩
    rcases List.mem_cons.mp hx with e | hx
    · subst e
      refine (ax_XF_lt (x := 78) (Nat.le_of_ble_eq_true rfl)).mpr ?_
      show pz7 (pz_gt (ρ' 0)) (pz_gN (ρ' 0)) ((ρ' 5) / 4) 8
      rw [q0, h2]
      rw [pz_41]
      exact st.2.1
    rcases List.mem_cons.mp hx with e | hx
    · subst e
      refine (ax_XF_lt (x := 90) (Nat.le_of_ble_eq_true rfl)).mpr ?_
      show (pz90 (pz_gt (ρ' 0)) (pz_gN (ρ' 0)) ((ρ' 5) / 4) ((ρ' 2) / 4) ∧ 1 ≤ (ρ' 2) / 4)
      rw [q0, q2, h2]
      rw [pz_41]
      exact ⟨st.2.2, F90.2⟩
    rcases List.mem_cons.mp hx with e | hx
    · subst e
      refine (ax_XF_bi (o := 30) (by decide)).mpr (Or.inr ⟨rfl, ?_⟩)
      show ρ' 1 < ρ' 5
      rw [q1, h2]
      omega
    rcases List.mem_cons.mp hx with e | hx
    · subst e
      refine (ax_XF_lt (x := 98) (Nat.le_of_ble_eq_true rfl)).mpr ?_
      show (ρ' 5) / 4 = (ρ' 1) / 4 + 1
      rw [q1, h2]
      rw [pz_41]
    cases List.mem_singleton.mp hx
    refine (ax_XF_bi (o := 30) (by decide)).mpr (Or.inr ⟨rfl, ?_⟩)
    show ρ' 4 < ρ' 5
    rw [q4, h2]
    omega)
  exact ⟨(fun y hy => by cases hy), _, List.mem_cons_self, ρ', h1, h2⟩

theorem axq_rp3c47_2 : ax_RO ax_wC ax_XC axu_rp3c47_2 := by
  intro ρ hp hE hT
  have j0 : ρ 0 % 4 = 1 := pz_gj hE 0 (Nat.le_of_ble_eq_true rfl) rfl
  have j1 : ρ 1 % 4 = 1 := pz_gj hE 1 (Nat.le_of_ble_eq_true rfl) rfl
  have j2 : ρ 2 % 4 = 1 := pz_gj hE 2 (Nat.le_of_ble_eq_true rfl) rfl
  obtain ⟨i3a, i3b, i3c, i3d⟩ := pz_gi hE 3 2147483695 2147483695 (Nat.le_of_ble_eq_true rfl) rfl
  have j4 : ρ 4 % 4 = 1 := pz_gj hE 4 (Nat.le_of_ble_eq_true rfl) rfl
  have c_kind : ay_at hp 8 7 = some (ρ 3) := ay_gfj hE 42 28 15 8 7 ax_m3 (ax_vlq rfl rfl) (ax_vlj rfl rfl)
  have o1 : ρ 4 < ρ 1 := pz_go hE 19 7 (by decide)
  obtain ⟨-, -, -, -, F50⟩ : ay_ex hp 8 ∧ ay_ex hp 10 ∧ ay_ex hp 11 ∧ ay_ex hp 12 ∧ pz_x50 (ρ 0) (ρ 1) (ay_at hp 8 5) (ay_at hp 8 6) (ay_at hp 8 7) (ay_at hp 8 8) (ay_at hp 10 0) (ay_at hp 10 1) (ay_at hp 10 2) (ay_at hp 10 3) (ay_at hp 10 4) (ay_at hp 8 9) (ay_at hp 8 11) (ay_at hp 8 10) (ay_at hp 8 3) (ay_at hp 8 4) (ay_at hp 11) (ay_at hp 12) := (ax_XF_lt (x := 50) (Nat.le_of_ble_eq_true rfl)).mp (ax_gx hE (50, [3, 7]) ax_m0)
  rw [c_kind] at F50
  have F79 : pz7 (pz_gt (ρ 0)) (pz_gN (ρ 0)) ((ρ 1) / 4) 9 := (ax_XF_lt (x := 79) (Nat.le_of_ble_eq_true rfl)).mp (ax_gx hE (79, [3, 7]) ax_m1)
  have F90 : (pz90 (pz_gt (ρ 0)) (pz_gN (ρ 0)) ((ρ 1) / 4) ((ρ 2) / 4) ∧ 1 ≤ (ρ 2) / 4) := (ax_XF_lt (x := 90) (Nat.le_of_ble_eq_true rfl)).mp (ax_gx hE (90, [3, 7, 11]) ax_m2)
  have st := pq_op F50 F79 F90.1 (show pz_op (ρ 3 / 4) = true by rw [show ρ 3 / 4 = 47 by omega]; rfl)
  obtain ⟨ρ', h1, h2⟩ := pz_pn1 (K := ρ 1 / 4 + 1) (xf := [(53, [3, 23]), (78, [3, 23]), (90, [3, 23, 11]), (1030, [7, 23]), (98, [7, 23]), (1030, [19, 23])]) hE (by decide) (fun ρ' h1 h2 x hx => by
    have q0 : ρ' 0 = ρ 0 := h1 0 (by decide)
    have q1 : ρ' 1 = ρ 1 := h1 1 (by decide)
    have q2 : ρ' 2 = ρ 2 := h1 2 (by decide)
    have q3 : ρ' 3 = ρ 3 := h1 3 (by decide)
    have q4 : ρ' 4 = ρ 4 := h1 4 (by decide)
    rcases List.mem_cons.mp hx with e | hx
    · subst e
      refine (ax_XF_lt (x := 53) (Nat.le_of_ble_eq_true rfl)).mpr ?_
      show ay_ex hp 8 ∧ ay_ex hp 10 ∧ ay_ex hp 11 ∧ ay_ex hp 12 ∧ pz_x53 (ρ' 0) (ρ' 5) (ay_at hp 8 5) (ay_at hp 10 0) (ay_at hp 10 1) (ay_at hp 10 2) (ay_at hp 10 3) (ay_at hp 10 4) (ay_at hp 8 9) (ay_at hp 8 11) (ay_at hp 8 10) (ay_at hp 8 3) (ay_at hp 8 4) (ay_at hp 11) (ay_at hp 12)
      rw [q0, h2]
      exact ⟨(ax_cellT hT (q := 8) (g := 2) rfl), (ax_cellT hT (q := 10) (g := 1) rfl), (ax_cellT hT (q := 11) (g := 14) rfl), (ax_cellT hT (q := 12) (g := 15) rfl), pz_53 (pz_41 _) rfl st.1⟩
    rcases List.mem_cons.mp hx with e | hx
    · subst e
      refine (ax_XF_lt (x := 78) (Nat.le_of_ble_eq_true rfl)).mpr ?_
      show pz7 (pz_gt (ρ' 0)) (pz_gN (ρ' 0)) ((ρ' 5) / 4) 8
      rw [q0, h2]
      rw [pz_41]
      exact st.2.1
    rcases List.mem_cons.mp hx with e | hx
    · subst e
      refine (ax_XF_lt (x := 90) (Nat.le_of_ble_eq_true rfl)).mpr ?_
      show (pz90 (pz_gt (ρ' 0)) (pz_gN (ρ' 0)) ((ρ' 5) / 4) ((ρ' 2) / 4) ∧ 1 ≤ (ρ' 2) / 4)
      rw [q0, q2, h2]
      rw [pz_41]
      exact ⟨st.2.2, F90.2⟩
    rcases List.mem_cons.mp hx with e | hx
    · subst e
      refine (ax_XF_bi (o := 30) (by decide)).mpr (Or.inr ⟨rfl, ?_⟩)
      show ρ' 1 < ρ' 5
      rw [q1, h2]
      omega
    rcases List.mem_cons.mp hx with e | hx
    · subst e
      refine (ax_XF_lt (x := 98) (Nat.le_of_ble_eq_true rfl)).mpr ?_
      show (ρ' 5) / 4 = (ρ' 1) / 4 + 1
      rw [q1, h2]
      rw [pz_41]
    cases List.mem_singleton.mp hx
    refine (ax_XF_bi (o := 30) (by decide)).mpr (Or.inr ⟨rfl, ?_⟩)
    show ρ' 4 < ρ' 5
    rw [q4, h2]
    omega)
  exact ⟨(fun y hy => by cases hy), _, List.mem_cons_self, ρ', h1, h2⟩

theorem axq_rp3c37_2 : ax_RO ax_wC ax_XC axu_rp3c37_2 := by
  intro ρ hp hE hT
  have j0 : ρ 0 % 4 = 1 := pz_gj hE 0 (Nat.le_of_ble_eq_true rfl) rfl
  have j1 : ρ 1 % 4 = 1 := pz_gj hE 1 (Nat.le_of_ble_eq_true rfl) rfl
  have j2 : ρ 2 % 4 = 1 := pz_gj hE 2 (Nat.le_of_ble_eq_true rfl) rfl
  obtain ⟨i3a, i3b, i3c, i3d⟩ := pz_gi hE 3 2147483685 2147483685 (Nat.le_of_ble_eq_true rfl) rfl
  have j4 : ρ 4 % 4 = 1 := pz_gj hE 4 (Nat.le_of_ble_eq_true rfl) rfl
  have c_kind : ay_at hp 8 7 = some (ρ 3) := ay_gfj hE 42 28 15 8 7 ax_m3 (ax_vlq rfl rfl) (ax_vlj rfl rfl)
  have o1 : ρ 4 < ρ 1 := pz_go hE 19 7 (by decide)
  obtain ⟨-, -, -, -, F50⟩ : ay_ex hp 8 ∧ ay_ex hp 10 ∧ ay_ex hp 11 ∧ ay_ex hp 12 ∧ pz_x50 (ρ 0) (ρ 1) (ay_at hp 8 5) (ay_at hp 8 6) (ay_at hp 8 7) (ay_at hp 8 8) (ay_at hp 10 0) (ay_at hp 10 1) (ay_at hp 10 2) (ay_at hp 10 3) (ay_at hp 10 4) (ay_at hp 8 9) (ay_at hp 8 11) (ay_at hp 8 10) (ay_at hp 8 3) (ay_at hp 8 4) (ay_at hp 11) (ay_at hp 12) := (ax_XF_lt (x := 50) (Nat.le_of_ble_eq_true rfl)).mp (ax_gx hE (50, [3, 7]) ax_m0)
  rw [c_kind] at F50
  have F79 : pz7 (pz_gt (ρ 0)) (pz_gN (ρ 0)) ((ρ 1) / 4) 9 := (ax_XF_lt (x := 79) (Nat.le_of_ble_eq_true rfl)).mp (ax_gx hE (79, [3, 7]) ax_m1)
  have F90 : (pz90 (pz_gt (ρ 0)) (pz_gN (ρ 0)) ((ρ 1) / 4) ((ρ 2) / 4) ∧ 1 ≤ (ρ 2) / 4) := (ax_XF_lt (x := 90) (Nat.le_of_ble_eq_true rfl)).mp (ax_gx hE (90, [3, 7, 11]) ax_m2)
  have st := pq_op F50 F79 F90.1 (show pz_op (ρ 3 / 4) = true by rw [show ρ 3 / 4 = 37 by omega]; rfl)
  obtain ⟨ρ', h1, h2⟩ := pz_pn1 (K := ρ 1 / 4 + 1) (xf := [(53, [3, 23]), (78, [3, 23]), (90, [3, 23, 11]), (1030, [7, 23]), (98, [7, 23]), (1030, [19, 23])]) hE (by decide) (fun ρ' h1 h2 x hx => by
    have q0 : ρ' 0 = ρ 0 := h1 0 (by decide)
    have q1 : ρ' 1 = ρ 1 := h1 1 (by decide)
    have q2 : ρ' 2 = ρ 2 := h1 2 (by decide)
    have q3 : ρ' 3 = ρ 3 := h1 3 (by decide)
    have q4 : ρ' 4 = ρ 4 := h1 4 (by decide)
    rcases List.mem_cons.mp hx with e | hx
    · subst e
      refine (ax_XF_lt (x := 53) (Nat.le_of_ble_eq_true rfl)).mpr ?_
      show ay_ex hp 8 ∧ ay_ex hp 10 ∧ ay_ex hp 11 ∧ ay_ex hp 12 ∧ pz_x53 (ρ' 0) (ρ' 5) (ay_at hp 8 5) (ay_at hp 10 0) (ay_at hp 10 1) (ay_at hp 10 2) (ay_at hp 10 3) (ay_at hp 10 4) (ay_at hp 8 9) (ay_at hp 8 11) (ay_at hp 8 10) (ay_at hp 8 3) (ay_at hp 8 4) (ay_at hp 11) (ay_at hp 12)
      rw [q0, h2]
      exact ⟨(ax_cellT hT (q := 8) (g := 2) rfl), (ax_cellT hT (q := 10) (g := 1) rfl), (ax_cellT hT (q := 11) (g := 14) rfl), (ax_cellT hT (q := 12) (g := 15) rfl), pz_53 (pz_41 _) rfl st.1⟩
    rcases List.mem_cons.mp hx with e | hx
    · subst e
      refine (ax_XF_lt (x := 78) (Nat.le_of_ble_eq_true rfl)).mpr ?_
      show pz7 (pz_gt (ρ' 0)) (pz_gN (ρ' 0)) ((ρ' 5) / 4) 8
      rw [q0, h2]
      rw [pz_41]
      exact st.2.1
    rcases List.mem_cons.mp hx with e | hx
    · subst e
      refine (ax_XF_lt (x := 90) (Nat.le_of_ble_eq_true rfl)).mpr ?_
      show (pz90 (pz_gt (ρ' 0)) (pz_gN (ρ' 0)) ((ρ' 5) / 4) ((ρ' 2) / 4) ∧ 1 ≤ (ρ' 2) / 4)
      rw [q0, q2, h2]
      rw [pz_41]
      exact ⟨st.2.2, F90.2⟩
    rcases List.mem_cons.mp hx with e | hx
    · subst e
      refine (ax_XF_bi (o := 30) (by decide)).mpr (Or.inr ⟨rfl, ?_⟩)
      show ρ' 1 < ρ' 5
      rw [q1, h2]
      omega
    rcases List.mem_cons.mp hx with e | hx
    · subst e
      refine (ax_XF_lt (x := 98) (Nat.le_of_ble_eq_true rfl)).mpr ?_
      show (ρ' 5) / 4 = (ρ' 1) / 4 + 1
      rw [q1, h2]
      rw [pz_41]
    cases List.mem_singleton.mp hx
    refine (ax_XF_bi (o := 30) (by decide)).mpr (Or.inr ⟨rfl, ?_⟩)
    show ρ' 4 < ρ' 5
    rw [q4, h2]
    omega)
  exact ⟨(fun y hy => by cases hy), _, List.mem_cons_self, ρ', h1, h2⟩

theorem axq_rp4_2 : ax_RO ax_wC ax_XC axu_rp4_2 := by
  intro ρ hp hE hT
  have j0 : ρ 0 % 4 = 1 := pz_gj hE 0 (Nat.le_of_ble_eq_true rfl) rfl
  have j1 : ρ 1 % 4 = 1 := pz_gj hE 1 (Nat.le_of_ble_eq_true rfl) rfl
  have j2 : ρ 2 % 4 = 1 := pz_gj hE 2 (Nat.le_of_ble_eq_true rfl) rfl
  have j3 : ρ 3 % 4 = 1 := pz_gj hE 3 (Nat.le_of_ble_eq_true rfl) rfl
  obtain ⟨-, -, -, -, F50⟩ : ay_ex hp 8 ∧ ay_ex hp 10 ∧ ay_ex hp 11 ∧ ay_ex hp 12 ∧ pz_x50 (ρ 0) (ρ 1) (ay_at hp 8 5) (ay_at hp 8 6) (ay_at hp 8 7) (ay_at hp 8 8) (ay_at hp 10 0) (ay_at hp 10 1) (ay_at hp 10 2) (ay_at hp 10 3) (ay_at hp 10 4) (ay_at hp 8 9) (ay_at hp 8 11) (ay_at hp 8 10) (ay_at hp 8 3) (ay_at hp 8 4) (ay_at hp 11) (ay_at hp 12) := (ax_XF_lt (x := 50) (Nat.le_of_ble_eq_true rfl)).mp (ax_gx hE (50, [3, 7]) ax_m0)
  have F90 : (pz90 (pz_gt (ρ 0)) (pz_gN (ρ 0)) ((ρ 1) / 4) ((ρ 3) / 4) ∧ 1 ≤ (ρ 3) / 4) := (ax_XF_lt (x := 90) (Nat.le_of_ble_eq_true rfl)).mp (ax_gx hE (90, [3, 7, 15]) ax_m1)
  have F92 : pz_strip ((ρ 2) / 4) = (ρ 3) / 4 := (ax_XF_lt (x := 92) (Nat.le_of_ble_eq_true rfl)).mp (ax_gx hE (92, [11, 15]) ax_m2)
  have F92a : pz_strip ((ρ 2) / 4) = (ρ 2) / 4 := (ax_XF_lt (x := 92) (Nat.le_of_ble_eq_true rfl)).mp (ax_gx hE (92, [11, 11]) ax_m3)
  refine ⟨(fun y hy => by cases hy), _, List.mem_cons_self, ρ, fun _ _ => rfl, ax_px hE rfl (fun y hy => ?_)⟩
  cases List.mem_singleton.mp hy
  refine (ax_XF_lt (x := 90) (Nat.le_of_ble_eq_true rfl)).mpr ?_
  show (pz90 (pz_gt (ρ 0)) (pz_gN (ρ 0)) ((ρ 1) / 4) ((ρ 2) / 4) ∧ 1 ≤ (ρ 2) / 4)
  have e : ρ 3 / 4 = ρ 2 / 4 := by omega
  rw [← e]
  exact F90

theorem axq_rp5_2 : ax_RO ax_wC ax_XC axu_rp5_2 := by
  intro ρ hp hE hT
  have j0 : ρ 0 % 4 = 1 := pz_gj hE 0 (Nat.le_of_ble_eq_true rfl) rfl
  have j1 : ρ 1 % 4 = 1 := pz_gj hE 1 (Nat.le_of_ble_eq_true rfl) rfl
  have j2 : ρ 2 % 4 = 1 := pz_gj hE 2 (Nat.le_of_ble_eq_true rfl) rfl
  have j3 : ρ 3 % 4 = 1 := pz_gj hE 3 (Nat.le_of_ble_eq_true rfl) rfl
  have j4 : ρ 4 % 4 = 1 := pz_gj hE 4 (Nat.le_of_ble_eq_true rfl) rfl
  have o1 : ρ 2 < ρ 1 := pz_go hE 11 7 (by decide)
  have o2 : ρ 3 < ρ 2 := pz_go hE 15 11 (by decide)
  have o3 : ρ 4 < ρ 3 := pz_go hE 19 15 (by decide)
  obtain ⟨-, -, -, -, F50⟩ : ay_ex hp 8 ∧ ay_ex hp 10 ∧ ay_ex hp 11 ∧ ay_ex hp 12 ∧ pz_x50 (ρ 0) (ρ 1) (ay_at hp 8 5) (ay_at hp 8 6) (ay_at hp 8 7) (ay_at hp 8 8) (ay_at hp 10 0) (ay_at hp 10 1) (ay_at hp 10 2) (ay_at hp 10 3) (ay_at hp 10 4) (ay_at hp 8 9) (ay_at hp 8 11) (ay_at hp 8 10) (ay_at hp 8 3) (ay_at hp 8 4) (ay_at hp 11) (ay_at hp 12) := (ax_XF_lt (x := 50) (Nat.le_of_ble_eq_true rfl)).mp (ax_gx hE (50, [3, 7]) ax_m0)
  refine ⟨(fun y hy => by cases hy), _, List.mem_cons_self, ρ, fun _ _ => rfl, ax_px hE rfl (fun y hy => ?_)⟩
  rcases List.mem_cons.mp hy with e | hy
  · subst e
    refine (ax_XF_bi (o := 30) (by decide)).mpr (Or.inr ⟨rfl, ?_⟩)
    show ρ 4 < ρ 1
    omega
  cases List.mem_singleton.mp hy
  refine (ax_XF_bi (o := 30) (by decide)).mpr (Or.inr ⟨rfl, ?_⟩)
  show ρ 3 < ρ 1
  omega

theorem axq_rp6_2 : ax_RO ax_wC ax_XC axu_rp6_2 := by
  intro ρ hp hE hT
  have j0 : ρ 0 % 4 = 1 := pz_gj hE 0 (Nat.le_of_ble_eq_true rfl) rfl
  have j1 : ρ 1 % 4 = 1 := pz_gj hE 1 (Nat.le_of_ble_eq_true rfl) rfl
  have j2 : ρ 2 % 4 = 1 := pz_gj hE 2 (Nat.le_of_ble_eq_true rfl) rfl
  obtain ⟨i3a, i3b, i3c, i3d⟩ := pz_gi hE 3 2147483648 2147484447 (Nat.le_of_ble_eq_true rfl) rfl
  obtain ⟨i4a, i4b, i4c, i4d⟩ := pz_gi hE 4 0 4294967295 (Nat.le_of_ble_eq_true rfl) rfl
  have s1 : (ρ 3 / 4 + 2147483648) % 4294967296 + (4 / 4 + 2147483648) % 4294967296 = (ρ 4 / 4 + 2147483648) % 4294967296 + 2147483648 := pz_gs hE 15 4 19 ax_m1
  have o1 : ρ 2 < ρ 1 := pz_go hE 11 7 (by decide)
  obtain ⟨-, -, -, -, F50⟩ : ay_ex hp 8 ∧ ay_ex hp 10 ∧ ay_ex hp 11 ∧ ay_ex hp 12 ∧ pz_x50 (ρ 0) (ρ 1) (ay_at hp 8 5) (ay_at hp 8 6) (ay_at hp 8 7) (ay_at hp 8 8) (ay_at hp 10 0) (ay_at hp 10 1) (ay_at hp 10 2) (ay_at hp 10 3) (ay_at hp 10 4) (ay_at hp 8 9) (ay_at hp 8 11) (ay_at hp 8 10) (ay_at hp 8 3) (ay_at hp 8 4) (ay_at hp 11) (ay_at hp 12) := (ax_XF_lt (x := 50) (Nat.le_of_ble_eq_true rfl)).mp (ax_gx hE (50, [3, 7]) ax_m0)
  have F97 : (ρ 3) / 4 ≤ (ρ 2) / 4 := (ax_XF_lt (x := 97) (Nat.le_of_ble_eq_true rfl)).mp (ax_gx hE (97, [11, 15]) ax_m2)
  refine ⟨(fun y hy => by cases hy), _, List.mem_cons_self, ρ, fun _ _ => rfl, ax_px hE rfl (fun y hy => ?_)⟩
  cases List.mem_singleton.mp hy
  refine (ax_XF_lt (x := 97) (Nat.le_of_ble_eq_true rfl)).mpr ?_
  show (ρ 4) / 4 ≤ (ρ 1) / 4
  omega

theorem axq_rp7_2 : ax_RO ax_wC ax_XC axu_rp7_2 := by
  intro ρ hp hE hT
  have j0 : ρ 0 % 4 = 1 := pz_gj hE 0 (Nat.le_of_ble_eq_true rfl) rfl
  have j1 : ρ 1 % 4 = 1 := pz_gj hE 1 (Nat.le_of_ble_eq_true rfl) rfl
  obtain ⟨i2a, i2b, i2c, i2d⟩ := pz_gi hE 2 2147484448 2147484448 (Nat.le_of_ble_eq_true rfl) rfl
  obtain ⟨-, -, F30⟩ : ay_ex hp 8 ∧ ay_ex hp 9 ∧ pz_x30 (ρ 0) (ay_at hp 8 1) (ay_at hp 9) := (ax_XF_lt (x := 30) (Nat.le_of_ble_eq_true rfl)).mp (ax_gx hE (30, [3]) ax_m0)
  obtain ⟨-, -, -, -, F50⟩ : ay_ex hp 8 ∧ ay_ex hp 10 ∧ ay_ex hp 11 ∧ ay_ex hp 12 ∧ pz_x50 (ρ 0) (ρ 1) (ay_at hp 8 5) (ay_at hp 8 6) (ay_at hp 8 7) (ay_at hp 8 8) (ay_at hp 10 0) (ay_at hp 10 1) (ay_at hp 10 2) (ay_at hp 10 3) (ay_at hp 10 4) (ay_at hp 8 9) (ay_at hp 8 11) (ay_at hp 8 10) (ay_at hp 8 3) (ay_at hp 8 4) (ay_at hp 11) (ay_at hp 12) := (ax_XF_lt (x := 50) (Nat.le_of_ble_eq_true rfl)).mp (ax_gx hE (50, [3, 7]) ax_m1)
  have F79 : pz7 (pz_gt (ρ 0)) (pz_gN (ρ 0)) ((ρ 1) / 4) 9 := (ax_XF_lt (x := 79) (Nat.le_of_ble_eq_true rfl)).mp (ax_gx hE (79, [3, 7]) ax_m2)
  have F97 : (ρ 2) / 4 ≤ (ρ 1) / 4 := (ax_XF_lt (x := 97) (Nat.le_of_ble_eq_true rfl)).mp (ax_gx hE (97, [7, 11]) ax_m3)
  refine ⟨(fun y hy => by cases hy), _, List.mem_cons_self, ρ, fun _ _ => rfl, ax_px hE rfl (fun y hy => ?_)⟩
  cases List.mem_singleton.mp hy
  refine (ax_XF_lt (x := 95) (Nat.le_of_ble_eq_true rfl)).mpr ?_
  show pz95 (pz_gt (ρ 0)) (pz_gN (ρ 0)) ((ρ 1) / 4)
  have kd := pq_far (n := ρ 1 / 4) F79 (by decide) (show pz_gN (ρ 0) ≤ 800 from F30.2.1) (by omega)
  exact ⟨by omega, by omega, by omega⟩

theorem axq_rp8a_2 : ax_RO ax_wC ax_XC axu_rp8a_2 := by
  intro ρ hp hE hT
  have j0 : ρ 0 % 4 = 1 := pz_gj hE 0 (Nat.le_of_ble_eq_true rfl) rfl
  have j1 : ρ 1 % 4 = 1 := pz_gj hE 1 (Nat.le_of_ble_eq_true rfl) rfl
  obtain ⟨i2a, i2b, i2c, i2d⟩ := pz_gi hE 2 0 2147483684 (Nat.le_of_ble_eq_true rfl) rfl
  have c_kind : ay_at hp 8 7 = some (ρ 2) := ay_gfj hE 42 28 11 8 7 ax_m1 (ax_vlq rfl rfl) (ax_vlj rfl rfl)
  obtain ⟨-, -, -, -, F50⟩ : ay_ex hp 8 ∧ ay_ex hp 10 ∧ ay_ex hp 11 ∧ ay_ex hp 12 ∧ pz_x50 (ρ 0) (ρ 1) (ay_at hp 8 5) (ay_at hp 8 6) (ay_at hp 8 7) (ay_at hp 8 8) (ay_at hp 10 0) (ay_at hp 10 1) (ay_at hp 10 2) (ay_at hp 10 3) (ay_at hp 10 4) (ay_at hp 8 9) (ay_at hp 8 11) (ay_at hp 8 10) (ay_at hp 8 3) (ay_at hp 8 4) (ay_at hp 11) (ay_at hp 12) := (ax_XF_lt (x := 50) (Nat.le_of_ble_eq_true rfl)).mp (ax_gx hE (50, [3, 7]) ax_m0)
  rw [c_kind] at F50
  refine ⟨(fun y hy => by cases hy), _, List.mem_cons_self, ρ, fun _ _ => rfl, ax_px hE rfl (fun y hy => ?_)⟩
  cases List.mem_singleton.mp hy
  refine (ax_XF_lt (x := 95) (Nat.le_of_ble_eq_true rfl)).mpr ?_
  show pz95 (pz_gt (ρ 0)) (pz_gN (ρ 0)) ((ρ 1) / 4)
  have kd : ρ 2 / 4 = pz_kd (pz_gt (ρ 0)) (pz_gN (ρ 0)) (pz_p (pz_cf (pz_gt (ρ 0)) (pz_gN (ρ 0)) (ρ 1 / 4))) := F50.2.2.1
  exact ⟨by omega, by omega, by omega⟩

theorem axq_rp8b_2 : ax_RO ax_wC ax_XC axu_rp8b_2 := by
  intro ρ hp hE hT
  have j0 : ρ 0 % 4 = 1 := pz_gj hE 0 (Nat.le_of_ble_eq_true rfl) rfl
  have j1 : ρ 1 % 4 = 1 := pz_gj hE 1 (Nat.le_of_ble_eq_true rfl) rfl
  obtain ⟨i2a, i2b, i2c, i2d⟩ := pz_gi hE 2 2147483686 2147483689 (Nat.le_of_ble_eq_true rfl) rfl
  have c_kind : ay_at hp 8 7 = some (ρ 2) := ay_gfj hE 42 28 11 8 7 ax_m1 (ax_vlq rfl rfl) (ax_vlj rfl rfl)
  obtain ⟨-, -, -, -, F50⟩ : ay_ex hp 8 ∧ ay_ex hp 10 ∧ ay_ex hp 11 ∧ ay_ex hp 12 ∧ pz_x50 (ρ 0) (ρ 1) (ay_at hp 8 5) (ay_at hp 8 6) (ay_at hp 8 7) (ay_at hp 8 8) (ay_at hp 10 0) (ay_at hp 10 1) (ay_at hp 10 2) (ay_at hp 10 3) (ay_at hp 10 4) (ay_at hp 8 9) (ay_at hp 8 11) (ay_at hp 8 10) (ay_at hp 8 3) (ay_at hp 8 4) (ay_at hp 11) (ay_at hp 12) := (ax_XF_lt (x := 50) (Nat.le_of_ble_eq_true rfl)).mp (ax_gx hE (50, [3, 7]) ax_m0)
  rw [c_kind] at F50
  refine ⟨(fun y hy => by cases hy), _, List.mem_cons_self, ρ, fun _ _ => rfl, ax_px hE rfl (fun y hy => ?_)⟩
  cases List.mem_singleton.mp hy
  refine (ax_XF_lt (x := 95) (Nat.le_of_ble_eq_true rfl)).mpr ?_
  show pz95 (pz_gt (ρ 0)) (pz_gN (ρ 0)) ((ρ 1) / 4)
  have kd : ρ 2 / 4 = pz_kd (pz_gt (ρ 0)) (pz_gN (ρ 0)) (pz_p (pz_cf (pz_gt (ρ 0)) (pz_gN (ρ 0)) (ρ 1 / 4))) := F50.2.2.1
  exact ⟨by omega, by omega, by omega⟩

theorem axq_rp8c_2 : ax_RO ax_wC ax_XC axu_rp8c_2 := by
  intro ρ hp hE hT
  have j0 : ρ 0 % 4 = 1 := pz_gj hE 0 (Nat.le_of_ble_eq_true rfl) rfl
  have j1 : ρ 1 % 4 = 1 := pz_gj hE 1 (Nat.le_of_ble_eq_true rfl) rfl
  obtain ⟨i2a, i2b, i2c, i2d⟩ := pz_gi hE 2 2147483691 2147483694 (Nat.le_of_ble_eq_true rfl) rfl
  have c_kind : ay_at hp 8 7 = some (ρ 2) := ay_gfj hE 42 28 11 8 7 ax_m1 (ax_vlq rfl rfl) (ax_vlj rfl rfl)
  obtain ⟨-, -, -, -, F50⟩ : ay_ex hp 8 ∧ ay_ex hp 10 ∧ ay_ex hp 11 ∧ ay_ex hp 12 ∧ pz_x50 (ρ 0) (ρ 1) (ay_at hp 8 5) (ay_at hp 8 6) (ay_at hp 8 7) (ay_at hp 8 8) (ay_at hp 10 0) (ay_at hp 10 1) (ay_at hp 10 2) (ay_at hp 10 3) (ay_at hp 10 4) (ay_at hp 8 9) (ay_at hp 8 11) (ay_at hp 8 10) (ay_at hp 8 3) (ay_at hp 8 4) (ay_at hp 11) (ay_at hp 12) := (ax_XF_lt (x := 50) (Nat.le_of_ble_eq_true rfl)).mp (ax_gx hE (50, [3, 7]) ax_m0)
  rw [c_kind] at F50
  refine ⟨(fun y hy => by cases hy), _, List.mem_cons_self, ρ, fun _ _ => rfl, ax_px hE rfl (fun y hy => ?_)⟩
  cases List.mem_singleton.mp hy
  refine (ax_XF_lt (x := 95) (Nat.le_of_ble_eq_true rfl)).mpr ?_
  show pz95 (pz_gt (ρ 0)) (pz_gN (ρ 0)) ((ρ 1) / 4)
  have kd : ρ 2 / 4 = pz_kd (pz_gt (ρ 0)) (pz_gN (ρ 0)) (pz_p (pz_cf (pz_gt (ρ 0)) (pz_gN (ρ 0)) (ρ 1 / 4))) := F50.2.2.1
  exact ⟨by omega, by omega, by omega⟩

theorem axq_rp8d_2 : ax_RO ax_wC ax_XC axu_rp8d_2 := by
  intro ρ hp hE hT
  have j0 : ρ 0 % 4 = 1 := pz_gj hE 0 (Nat.le_of_ble_eq_true rfl) rfl
  have j1 : ρ 1 % 4 = 1 := pz_gj hE 1 (Nat.le_of_ble_eq_true rfl) rfl
  obtain ⟨i2a, i2b, i2c, i2d⟩ := pz_gi hE 2 2147483696 4294967295 (Nat.le_of_ble_eq_true rfl) rfl
  have c_kind : ay_at hp 8 7 = some (ρ 2) := ay_gfj hE 42 28 11 8 7 ax_m1 (ax_vlq rfl rfl) (ax_vlj rfl rfl)
  obtain ⟨-, -, -, -, F50⟩ : ay_ex hp 8 ∧ ay_ex hp 10 ∧ ay_ex hp 11 ∧ ay_ex hp 12 ∧ pz_x50 (ρ 0) (ρ 1) (ay_at hp 8 5) (ay_at hp 8 6) (ay_at hp 8 7) (ay_at hp 8 8) (ay_at hp 10 0) (ay_at hp 10 1) (ay_at hp 10 2) (ay_at hp 10 3) (ay_at hp 10 4) (ay_at hp 8 9) (ay_at hp 8 11) (ay_at hp 8 10) (ay_at hp 8 3) (ay_at hp 8 4) (ay_at hp 11) (ay_at hp 12) := (ax_XF_lt (x := 50) (Nat.le_of_ble_eq_true rfl)).mp (ax_gx hE (50, [3, 7]) ax_m0)
  rw [c_kind] at F50
  refine ⟨(fun y hy => by cases hy), _, List.mem_cons_self, ρ, fun _ _ => rfl, ax_px hE rfl (fun y hy => ?_)⟩
  cases List.mem_singleton.mp hy
  refine (ax_XF_lt (x := 95) (Nat.le_of_ble_eq_true rfl)).mpr ?_
  show pz95 (pz_gt (ρ 0)) (pz_gN (ρ 0)) ((ρ 1) / 4)
  have kd : ρ 2 / 4 = pz_kd (pz_gt (ρ 0)) (pz_gN (ρ 0)) (pz_p (pz_cf (pz_gt (ρ 0)) (pz_gN (ρ 0)) (ρ 1 / 4))) := F50.2.2.1
  exact ⟨by omega, by omega, by omega⟩

theorem axq_rp1_3 : ax_RO ax_wC ax_XC axu_rp1_3 := by
  intro ρ hp hE hT
  have j0 : ρ 0 % 4 = 1 := pz_gj hE 0 (Nat.le_of_ble_eq_true rfl) rfl
  have j1 : ρ 1 % 4 = 1 := pz_gj hE 1 (Nat.le_of_ble_eq_true rfl) rfl
  have j2 : ρ 2 % 4 = 1 := pz_gj hE 2 (Nat.le_of_ble_eq_true rfl) rfl
  have j3 : ρ 3 % 4 = 1 := pz_gj hE 3 (Nat.le_of_ble_eq_true rfl) rfl
  obtain ⟨-, -, -, -, F50⟩ : ay_ex hp 8 ∧ ay_ex hp 10 ∧ ay_ex hp 11 ∧ ay_ex hp 12 ∧ pz_x50 (ρ 0) (ρ 1) (ay_at hp 8 5) (ay_at hp 8 6) (ay_at hp 8 7) (ay_at hp 8 8) (ay_at hp 10 0) (ay_at hp 10 1) (ay_at hp 10 2) (ay_at hp 10 3) (ay_at hp 10 4) (ay_at hp 8 9) (ay_at hp 8 11) (ay_at hp 8 10) (ay_at hp 8 3) (ay_at hp 8 4) (ay_at hp 11) (ay_at hp 12) := (ax_XF_lt (x := 50) (Nat.le_of_ble_eq_true rfl)).mp (ax_gx hE (50, [3, 7]) ax_m0)
  have F90 : (pz90 (pz_gt (ρ 0)) (pz_gN (ρ 0)) ((ρ 1) / 4) ((ρ 3) / 4) ∧ 1 ≤ (ρ 3) / 4) := (ax_XF_lt (x := 90) (Nat.le_of_ble_eq_true rfl)).mp (ax_gx hE (90, [3, 7, 15]) ax_m1)
  have F92 : pz_strip ((ρ 2) / 4) = (ρ 3) / 4 := (ax_XF_lt (x := 92) (Nat.le_of_ble_eq_true rfl)).mp (ax_gx hE (92, [11, 15]) ax_m2)
  have F92a : pz_strip ((ρ 2) / 4) = (ρ 2) / 4 := (ax_XF_lt (x := 92) (Nat.le_of_ble_eq_true rfl)).mp (ax_gx hE (92, [11, 11]) ax_m3)
  refine ⟨(fun y hy => by cases hy), _, List.mem_cons_self, ρ, fun _ _ => rfl, ax_px hE rfl (fun y hy => ?_)⟩
  cases List.mem_singleton.mp hy
  refine (ax_XF_lt (x := 90) (Nat.le_of_ble_eq_true rfl)).mpr ?_
  show (pz90 (pz_gt (ρ 0)) (pz_gN (ρ 0)) ((ρ 1) / 4) ((ρ 2) / 4) ∧ 1 ≤ (ρ 2) / 4)
  have e : ρ 3 / 4 = ρ 2 / 4 := by omega
  rw [← e]
  exact F90

theorem axq_rp2_3 : ax_RO ax_wC ax_XC axu_rp2_3 := by
  intro ρ hp hE hT
  have j0 : ρ 0 % 4 = 1 := pz_gj hE 0 (Nat.le_of_ble_eq_true rfl) rfl
  have j1 : ρ 1 % 4 = 1 := pz_gj hE 1 (Nat.le_of_ble_eq_true rfl) rfl
  obtain ⟨-, -, -, -, F50⟩ : ay_ex hp 8 ∧ ay_ex hp 10 ∧ ay_ex hp 11 ∧ ay_ex hp 12 ∧ pz_x50 (ρ 0) (ρ 1) (ay_at hp 8 5) (ay_at hp 8 6) (ay_at hp 8 7) (ay_at hp 8 8) (ay_at hp 10 0) (ay_at hp 10 1) (ay_at hp 10 2) (ay_at hp 10 3) (ay_at hp 10 4) (ay_at hp 8 9) (ay_at hp 8 11) (ay_at hp 8 10) (ay_at hp 8 3) (ay_at hp 8 4) (ay_at hp 11) (ay_at hp 12) := (ax_XF_lt (x := 50) (Nat.le_of_ble_eq_true rfl)).mp (ax_gx hE (50, [3, 7]) ax_m0)
  refine ⟨(fun y hy => by cases hy), _, List.mem_cons_self, ρ, fun _ _ => rfl, ax_px hE rfl (fun y hy => ?_)⟩
  cases List.mem_singleton.mp hy
  refine (ax_XF_lt (x := 97) (Nat.le_of_ble_eq_true rfl)).mpr ?_
  show (0) / 4 ≤ (ρ 1) / 4
  exact Nat.zero_le _

theorem axq_rp3c42_3 : ax_RO ax_wC ax_XC axu_rp3c42_3 := by
  intro ρ hp hE hT
  have j0 : ρ 0 % 4 = 1 := pz_gj hE 0 (Nat.le_of_ble_eq_true rfl) rfl
  have j1 : ρ 1 % 4 = 1 := pz_gj hE 1 (Nat.le_of_ble_eq_true rfl) rfl
  have j2 : ρ 2 % 4 = 1 := pz_gj hE 2 (Nat.le_of_ble_eq_true rfl) rfl
  obtain ⟨i3a, i3b, i3c, i3d⟩ := pz_gi hE 3 2147483690 2147483690 (Nat.le_of_ble_eq_true rfl) rfl
  have j4 : ρ 4 % 4 = 1 := pz_gj hE 4 (Nat.le_of_ble_eq_true rfl) rfl
  have c_kind : ay_at hp 8 7 = some (ρ 3) := ay_gfj hE 42 28 15 8 7 ax_m3 (ax_vlq rfl rfl) (ax_vlj rfl rfl)
  have o1 : ρ 4 < ρ 1 := pz_go hE 19 7 (by decide)
  obtain ⟨-, -, -, -, F50⟩ : ay_ex hp 8 ∧ ay_ex hp 10 ∧ ay_ex hp 11 ∧ ay_ex hp 12 ∧ pz_x50 (ρ 0) (ρ 1) (ay_at hp 8 5) (ay_at hp 8 6) (ay_at hp 8 7) (ay_at hp 8 8) (ay_at hp 10 0) (ay_at hp 10 1) (ay_at hp 10 2) (ay_at hp 10 3) (ay_at hp 10 4) (ay_at hp 8 9) (ay_at hp 8 11) (ay_at hp 8 10) (ay_at hp 8 3) (ay_at hp 8 4) (ay_at hp 11) (ay_at hp 12) := (ax_XF_lt (x := 50) (Nat.le_of_ble_eq_true rfl)).mp (ax_gx hE (50, [3, 7]) ax_m0)
  rw [c_kind] at F50
  have F79 : pz7 (pz_gt (ρ 0)) (pz_gN (ρ 0)) ((ρ 1) / 4) 9 := (ax_XF_lt (x := 79) (Nat.le_of_ble_eq_true rfl)).mp (ax_gx hE (79, [3, 7]) ax_m1)
  have F90 : (pz90 (pz_gt (ρ 0)) (pz_gN (ρ 0)) ((ρ 1) / 4) ((ρ 2) / 4) ∧ 1 ≤ (ρ 2) / 4) := (ax_XF_lt (x := 90) (Nat.le_of_ble_eq_true rfl)).mp (ax_gx hE (90, [3, 7, 11]) ax_m2)
  have st := pq_op F50 F79 F90.1 (show pz_op (ρ 3 / 4) = true by rw [show ρ 3 / 4 = 42 by omega]; rfl)
  obtain ⟨ρ', h1, h2⟩ := pz_pn1 (K := ρ 1 / 4 + 1) (xf := [(53, [3, 23]), (78, [3, 23]), (90, [3, 23, 11]), (1030, [7, 23]), (98, [7, 23]), (1030, [19, 23])]) hE (by decide) (fun ρ' h1 h2 x hx => by
    have q0 : ρ' 0 = ρ 0 := h1 0 (by decide)
    have q1 : ρ' 1 = ρ 1 := h1 1 (by decide)
    have q2 : ρ' 2 = ρ 2 := h1 2 (by decide)
    have q3 : ρ' 3 = ρ 3 := h1 3 (by decide)
    have q4 : ρ' 4 = ρ 4 := h1 4 (by decide)
    rcases List.mem_cons.mp hx with e | hx
    · subst e
      refine (ax_XF_lt (x := 53) (Nat.le_of_ble_eq_true rfl)).mpr ?_
      show ay_ex hp 8 ∧ ay_ex hp 10 ∧ ay_ex hp 11 ∧ ay_ex hp 12 ∧ pz_x53 (ρ' 0) (ρ' 5) (ay_at hp 8 5) (ay_at hp 10 0) (ay_at hp 10 1) (ay_at hp 10 2) (ay_at hp 10 3) (ay_at hp 10 4) (ay_at hp 8 9) (ay_at hp 8 11) (ay_at hp 8 10) (ay_at hp 8 3) (ay_at hp 8 4) (ay_at hp 11) (ay_at hp 12)
      rw [q0, h2]
      exact ⟨(ax_cellT hT (q := 8) (g := 2) rfl), (ax_cellT hT (q := 10) (g := 1) rfl), (ax_cellT hT (q := 11) (g := 14) rfl), (ax_cellT hT (q := 12) (g := 15) rfl), pz_53 (pz_41 _) rfl st.1⟩
    rcases List.mem_cons.mp hx with e | hx
    · subst e
      refine (ax_XF_lt (x := 78) (Nat.le_of_ble_eq_true rfl)).mpr ?_
      show pz7 (pz_gt (ρ' 0)) (pz_gN (ρ' 0)) ((ρ' 5) / 4) 8
      rw [q0, h2]
      rw [pz_41]
      exact st.2.1
    rcases List.mem_cons.mp hx with e | hx
    · subst e
      refine (ax_XF_lt (x := 90) (Nat.le_of_ble_eq_true rfl)).mpr ?_
      show (pz90 (pz_gt (ρ' 0)) (pz_gN (ρ' 0)) ((ρ' 5) / 4) ((ρ' 2) / 4) ∧ 1 ≤ (ρ' 2) / 4)
      rw [q0, q2, h2]
      rw [pz_41]
      exact ⟨st.2.2, F90.2⟩
    rcases List.mem_cons.mp hx with e | hx
    · subst e
      refine (ax_XF_bi (o := 30) (by decide)).mpr (Or.inr ⟨rfl, ?_⟩)
      show ρ' 1 < ρ' 5
      rw [q1, h2]
      omega
    rcases List.mem_cons.mp hx with e | hx
    · subst e
      refine (ax_XF_lt (x := 98) (Nat.le_of_ble_eq_true rfl)).mpr ?_
      show (ρ' 5) / 4 = (ρ' 1) / 4 + 1
      rw [q1, h2]
      rw [pz_41]
    cases List.mem_singleton.mp hx
    refine (ax_XF_bi (o := 30) (by decide)).mpr (Or.inr ⟨rfl, ?_⟩)
    show ρ' 4 < ρ' 5
    rw [q4, h2]
    omega)
  exact ⟨(fun y hy => by cases hy), _, List.mem_cons_self, ρ', h1, h2⟩

theorem axq_rp3c47_3 : ax_RO ax_wC ax_XC axu_rp3c47_3 := by
  intro ρ hp hE hT
  have j0 : ρ 0 % 4 = 1 := pz_gj hE 0 (Nat.le_of_ble_eq_true rfl) rfl
  have j1 : ρ 1 % 4 = 1 := pz_gj hE 1 (Nat.le_of_ble_eq_true rfl) rfl
  have j2 : ρ 2 % 4 = 1 := pz_gj hE 2 (Nat.le_of_ble_eq_true rfl) rfl
  obtain ⟨i3a, i3b, i3c, i3d⟩ := pz_gi hE 3 2147483695 2147483695 (Nat.le_of_ble_eq_true rfl) rfl
  have j4 : ρ 4 % 4 = 1 := pz_gj hE 4 (Nat.le_of_ble_eq_true rfl) rfl
  have c_kind : ay_at hp 8 7 = some (ρ 3) := ay_gfj hE 42 28 15 8 7 ax_m3 (ax_vlq rfl rfl) (ax_vlj rfl rfl)
  have o1 : ρ 4 < ρ 1 := pz_go hE 19 7 (by decide)
  obtain ⟨-, -, -, -, F50⟩ : ay_ex hp 8 ∧ ay_ex hp 10 ∧ ay_ex hp 11 ∧ ay_ex hp 12 ∧ pz_x50 (ρ 0) (ρ 1) (ay_at hp 8 5) (ay_at hp 8 6) (ay_at hp 8 7) (ay_at hp 8 8) (ay_at hp 10 0) (ay_at hp 10 1) (ay_at hp 10 2) (ay_at hp 10 3) (ay_at hp 10 4) (ay_at hp 8 9) (ay_at hp 8 11) (ay_at hp 8 10) (ay_at hp 8 3) (ay_at hp 8 4) (ay_at hp 11) (ay_at hp 12) := (ax_XF_lt (x := 50) (Nat.le_of_ble_eq_true rfl)).mp (ax_gx hE (50, [3, 7]) ax_m0)
  rw [c_kind] at F50
  have F79 : pz7 (pz_gt (ρ 0)) (pz_gN (ρ 0)) ((ρ 1) / 4) 9 := (ax_XF_lt (x := 79) (Nat.le_of_ble_eq_true rfl)).mp (ax_gx hE (79, [3, 7]) ax_m1)
  have F90 : (pz90 (pz_gt (ρ 0)) (pz_gN (ρ 0)) ((ρ 1) / 4) ((ρ 2) / 4) ∧ 1 ≤ (ρ 2) / 4) := (ax_XF_lt (x := 90) (Nat.le_of_ble_eq_true rfl)).mp (ax_gx hE (90, [3, 7, 11]) ax_m2)
  have st := pq_op F50 F79 F90.1 (show pz_op (ρ 3 / 4) = true by rw [show ρ 3 / 4 = 47 by omega]; rfl)
  obtain ⟨ρ', h1, h2⟩ := pz_pn1 (K := ρ 1 / 4 + 1) (xf := [(53, [3, 23]), (78, [3, 23]), (90, [3, 23, 11]), (1030, [7, 23]), (98, [7, 23]), (1030, [19, 23])]) hE (by decide) (fun ρ' h1 h2 x hx => by
    have q0 : ρ' 0 = ρ 0 := h1 0 (by decide)
    have q1 : ρ' 1 = ρ 1 := h1 1 (by decide)
    have q2 : ρ' 2 = ρ 2 := h1 2 (by decide)
    have q3 : ρ' 3 = ρ 3 := h1 3 (by decide)
    have q4 : ρ' 4 = ρ 4 := h1 4 (by decide)
    rcases List.mem_cons.mp hx with e | hx
    · subst e
      refine (ax_XF_lt (x := 53) (Nat.le_of_ble_eq_true rfl)).mpr ?_
      show ay_ex hp 8 ∧ ay_ex hp 10 ∧ ay_ex hp 11 ∧ ay_ex hp 12 ∧ pz_x53 (ρ' 0) (ρ' 5) (ay_at hp 8 5) (ay_at hp 10 0) (ay_at hp 10 1) (ay_at hp 10 2) (ay_at hp 10 3) (ay_at hp 10 4) (ay_at hp 8 9) (ay_at hp 8 11) (ay_at hp 8 10) (ay_at hp 8 3) (ay_at hp 8 4) (ay_at hp 11) (ay_at hp 12)
      rw [q0, h2]
      exact ⟨(ax_cellT hT (q := 8) (g := 2) rfl), (ax_cellT hT (q := 10) (g := 1) rfl), (ax_cellT hT (q := 11) (g := 14) rfl), (ax_cellT hT (q := 12) (g := 15) rfl), pz_53 (pz_41 _) rfl st.1⟩
    rcases List.mem_cons.mp hx with e | hx
    · subst e
      refine (ax_XF_lt (x := 78) (Nat.le_of_ble_eq_true rfl)).mpr ?_
      show pz7 (pz_gt (ρ' 0)) (pz_gN (ρ' 0)) ((ρ' 5) / 4) 8
      rw [q0, h2]
      rw [pz_41]
      exact st.2.1
    rcases List.mem_cons.mp hx with e | hx
    · subst e
      refine (ax_XF_lt (x := 90) (Nat.le_of_ble_eq_true rfl)).mpr ?_
      show (pz90 (pz_gt (ρ' 0)) (pz_gN (ρ' 0)) ((ρ' 5) / 4) ((ρ' 2) / 4) ∧ 1 ≤ (ρ' 2) / 4)
      rw [q0, q2, h2]
      rw [pz_41]
      exact ⟨st.2.2, F90.2⟩
    rcases List.mem_cons.mp hx with e | hx
    · subst e
      refine (ax_XF_bi (o := 30) (by decide)).mpr (Or.inr ⟨rfl, ?_⟩)
      show ρ' 1 < ρ' 5
      rw [q1, h2]
      omega
    rcases List.mem_cons.mp hx with e | hx
    · subst e
      refine (ax_XF_lt (x := 98) (Nat.le_of_ble_eq_true rfl)).mpr ?_
      show (ρ' 5) / 4 = (ρ' 1) / 4 + 1
      rw [q1, h2]
      rw [pz_41]
    cases List.mem_singleton.mp hx
    refine (ax_XF_bi (o := 30) (by decide)).mpr (Or.inr ⟨rfl, ?_⟩)
    show ρ' 4 < ρ' 5
    rw [q4, h2]
    omega)
  exact ⟨(fun y hy => by cases hy), _, List.mem_cons_self, ρ', h1, h2⟩

theorem axq_rp3c37_3 : ax_RO ax_wC ax_XC axu_rp3c37_3 := by
  intro ρ hp hE hT
  have j0 : ρ 0 % 4 = 1 := pz_gj hE 0 (Nat.le_of_ble_eq_true rfl) rfl
  have j1 : ρ 1 % 4 = 1 := pz_gj hE 1 (Nat.le_of_ble_eq_true rfl) rfl
  have j2 : ρ 2 % 4 = 1 := pz_gj hE 2 (Nat.le_of_ble_eq_true rfl) rfl
  obtain ⟨i3a, i3b, i3c, i3d⟩ := pz_gi hE 3 2147483685 2147483685 (Nat.le_of_ble_eq_true rfl) rfl
  have j4 : ρ 4 % 4 = 1 := pz_gj hE 4 (Nat.le_of_ble_eq_true rfl) rfl
  have c_kind : ay_at hp 8 7 = some (ρ 3) := ay_gfj hE 42 28 15 8 7 ax_m3 (ax_vlq rfl rfl) (ax_vlj rfl rfl)
  have o1 : ρ 4 < ρ 1 := pz_go hE 19 7 (by decide)
  obtain ⟨-, -, -, -, F50⟩ : ay_ex hp 8 ∧ ay_ex hp 10 ∧ ay_ex hp 11 ∧ ay_ex hp 12 ∧ pz_x50 (ρ 0) (ρ 1) (ay_at hp 8 5) (ay_at hp 8 6) (ay_at hp 8 7) (ay_at hp 8 8) (ay_at hp 10 0) (ay_at hp 10 1) (ay_at hp 10 2) (ay_at hp 10 3) (ay_at hp 10 4) (ay_at hp 8 9) (ay_at hp 8 11) (ay_at hp 8 10) (ay_at hp 8 3) (ay_at hp 8 4) (ay_at hp 11) (ay_at hp 12) := (ax_XF_lt (x := 50) (Nat.le_of_ble_eq_true rfl)).mp (ax_gx hE (50, [3, 7]) ax_m0)
  rw [c_kind] at F50
  have F79 : pz7 (pz_gt (ρ 0)) (pz_gN (ρ 0)) ((ρ 1) / 4) 9 := (ax_XF_lt (x := 79) (Nat.le_of_ble_eq_true rfl)).mp (ax_gx hE (79, [3, 7]) ax_m1)
  have F90 : (pz90 (pz_gt (ρ 0)) (pz_gN (ρ 0)) ((ρ 1) / 4) ((ρ 2) / 4) ∧ 1 ≤ (ρ 2) / 4) := (ax_XF_lt (x := 90) (Nat.le_of_ble_eq_true rfl)).mp (ax_gx hE (90, [3, 7, 11]) ax_m2)
  have st := pq_op F50 F79 F90.1 (show pz_op (ρ 3 / 4) = true by rw [show ρ 3 / 4 = 37 by omega]; rfl)
  obtain ⟨ρ', h1, h2⟩ := pz_pn1 (K := ρ 1 / 4 + 1) (xf := [(53, [3, 23]), (78, [3, 23]), (90, [3, 23, 11]), (1030, [7, 23]), (98, [7, 23]), (1030, [19, 23])]) hE (by decide) (fun ρ' h1 h2 x hx => by
    have q0 : ρ' 0 = ρ 0 := h1 0 (by decide)
    have q1 : ρ' 1 = ρ 1 := h1 1 (by decide)
    have q2 : ρ' 2 = ρ 2 := h1 2 (by decide)
    have q3 : ρ' 3 = ρ 3 := h1 3 (by decide)
    have q4 : ρ' 4 = ρ 4 := h1 4 (by decide)
    rcases List.mem_cons.mp hx with e | hx
    · subst e
      refine (ax_XF_lt (x := 53) (Nat.le_of_ble_eq_true rfl)).mpr ?_
      show ay_ex hp 8 ∧ ay_ex hp 10 ∧ ay_ex hp 11 ∧ ay_ex hp 12 ∧ pz_x53 (ρ' 0) (ρ' 5) (ay_at hp 8 5) (ay_at hp 10 0) (ay_at hp 10 1) (ay_at hp 10 2) (ay_at hp 10 3) (ay_at hp 10 4) (ay_at hp 8 9) (ay_at hp 8 11) (ay_at hp 8 10) (ay_at hp 8 3) (ay_at hp 8 4) (ay_at hp 11) (ay_at hp 12)
      rw [q0, h2]
      exact ⟨(ax_cellT hT (q := 8) (g := 2) rfl), (ax_cellT hT (q := 10) (g := 1) rfl), (ax_cellT hT (q := 11) (g := 14) rfl), (ax_cellT hT (q := 12) (g := 15) rfl), pz_53 (pz_41 _) rfl st.1⟩
    rcases List.mem_cons.mp hx with e | hx
    · subst e
      refine (ax_XF_lt (x := 78) (Nat.le_of_ble_eq_true rfl)).mpr ?_
      show pz7 (pz_gt (ρ' 0)) (pz_gN (ρ' 0)) ((ρ' 5) / 4) 8
      rw [q0, h2]
      rw [pz_41]
      exact st.2.1
    rcases List.mem_cons.mp hx with e | hx
    · subst e
      refine (ax_XF_lt (x := 90) (Nat.le_of_ble_eq_true rfl)).mpr ?_
      show (pz90 (pz_gt (ρ' 0)) (pz_gN (ρ' 0)) ((ρ' 5) / 4) ((ρ' 2) / 4) ∧ 1 ≤ (ρ' 2) / 4)
      rw [q0, q2, h2]
      rw [pz_41]
      exact ⟨st.2.2, F90.2⟩
    rcases List.mem_cons.mp hx with e | hx
    · subst e
      refine (ax_XF_bi (o := 30) (by decide)).mpr (Or.inr ⟨rfl, ?_⟩)
      show ρ' 1 < ρ' 5
      rw [q1, h2]
      omega
    rcases List.mem_cons.mp hx with e | hx
    · subst e
      refine (ax_XF_lt (x := 98) (Nat.le_of_ble_eq_true rfl)).mpr ?_
      show (ρ' 5) / 4 = (ρ' 1) / 4 + 1
      rw [q1, h2]
      rw [pz_41]
    cases List.mem_singleton.mp hx
    refine (ax_XF_bi (o := 30) (by decide)).mpr (Or.inr ⟨rfl, ?_⟩)
    show ρ' 4 < ρ' 5
    rw [q4, h2]
    omega)
  exact ⟨(fun y hy => by cases hy), _, List.mem_cons_self, ρ', h1, h2⟩

theorem axq_rp4_3 : ax_RO ax_wC ax_XC axu_rp4_3 := by
  intro ρ hp hE hT
  have j0 : ρ 0 % 4 = 1 := pz_gj hE 0 (Nat.le_of_ble_eq_true rfl) rfl
  have j1 : ρ 1 % 4 = 1 := pz_gj hE 1 (Nat.le_of_ble_eq_true rfl) rfl
  have j2 : ρ 2 % 4 = 1 := pz_gj hE 2 (Nat.le_of_ble_eq_true rfl) rfl
  have j3 : ρ 3 % 4 = 1 := pz_gj hE 3 (Nat.le_of_ble_eq_true rfl) rfl
  obtain ⟨-, -, -, -, F50⟩ : ay_ex hp 8 ∧ ay_ex hp 10 ∧ ay_ex hp 11 ∧ ay_ex hp 12 ∧ pz_x50 (ρ 0) (ρ 1) (ay_at hp 8 5) (ay_at hp 8 6) (ay_at hp 8 7) (ay_at hp 8 8) (ay_at hp 10 0) (ay_at hp 10 1) (ay_at hp 10 2) (ay_at hp 10 3) (ay_at hp 10 4) (ay_at hp 8 9) (ay_at hp 8 11) (ay_at hp 8 10) (ay_at hp 8 3) (ay_at hp 8 4) (ay_at hp 11) (ay_at hp 12) := (ax_XF_lt (x := 50) (Nat.le_of_ble_eq_true rfl)).mp (ax_gx hE (50, [3, 7]) ax_m0)
  have F90 : (pz90 (pz_gt (ρ 0)) (pz_gN (ρ 0)) ((ρ 1) / 4) ((ρ 3) / 4) ∧ 1 ≤ (ρ 3) / 4) := (ax_XF_lt (x := 90) (Nat.le_of_ble_eq_true rfl)).mp (ax_gx hE (90, [3, 7, 15]) ax_m1)
  have F92 : pz_strip ((ρ 2) / 4) = (ρ 3) / 4 := (ax_XF_lt (x := 92) (Nat.le_of_ble_eq_true rfl)).mp (ax_gx hE (92, [11, 15]) ax_m2)
  have F92a : pz_strip ((ρ 2) / 4) = (ρ 2) / 4 := (ax_XF_lt (x := 92) (Nat.le_of_ble_eq_true rfl)).mp (ax_gx hE (92, [11, 11]) ax_m3)
  refine ⟨(fun y hy => by cases hy), _, List.mem_cons_self, ρ, fun _ _ => rfl, ax_px hE rfl (fun y hy => ?_)⟩
  cases List.mem_singleton.mp hy
  refine (ax_XF_lt (x := 90) (Nat.le_of_ble_eq_true rfl)).mpr ?_
  show (pz90 (pz_gt (ρ 0)) (pz_gN (ρ 0)) ((ρ 1) / 4) ((ρ 2) / 4) ∧ 1 ≤ (ρ 2) / 4)
  have e : ρ 3 / 4 = ρ 2 / 4 := by omega
  rw [← e]
  exact F90

theorem axq_rp5_3 : ax_RO ax_wC ax_XC axu_rp5_3 := by
  intro ρ hp hE hT
  have j0 : ρ 0 % 4 = 1 := pz_gj hE 0 (Nat.le_of_ble_eq_true rfl) rfl
  have j1 : ρ 1 % 4 = 1 := pz_gj hE 1 (Nat.le_of_ble_eq_true rfl) rfl
  have j2 : ρ 2 % 4 = 1 := pz_gj hE 2 (Nat.le_of_ble_eq_true rfl) rfl
  have j3 : ρ 3 % 4 = 1 := pz_gj hE 3 (Nat.le_of_ble_eq_true rfl) rfl
  have j4 : ρ 4 % 4 = 1 := pz_gj hE 4 (Nat.le_of_ble_eq_true rfl) rfl
  have o1 : ρ 2 < ρ 1 := pz_go hE 11 7 (by decide)
  have o2 : ρ 3 < ρ 2 := pz_go hE 15 11 (by decide)
  have o3 : ρ 4 < ρ 3 := pz_go hE 19 15 (by decide)
  obtain ⟨-, -, -, -, F50⟩ : ay_ex hp 8 ∧ ay_ex hp 10 ∧ ay_ex hp 11 ∧ ay_ex hp 12 ∧ pz_x50 (ρ 0) (ρ 1) (ay_at hp 8 5) (ay_at hp 8 6) (ay_at hp 8 7) (ay_at hp 8 8) (ay_at hp 10 0) (ay_at hp 10 1) (ay_at hp 10 2) (ay_at hp 10 3) (ay_at hp 10 4) (ay_at hp 8 9) (ay_at hp 8 11) (ay_at hp 8 10) (ay_at hp 8 3) (ay_at hp 8 4) (ay_at hp 11) (ay_at hp 12) := (ax_XF_lt (x := 50) (Nat.le_of_ble_eq_true rfl)).mp (ax_gx hE (50, [3, 7]) ax_m0)
  refine ⟨(fun y hy => by cases hy), _, List.mem_cons_self, ρ, fun _ _ => rfl, ax_px hE rfl (fun y hy => ?_)⟩
  rcases List.mem_cons.mp hy with e | hy
  · subst e
    refine (ax_XF_bi (o := 30) (by decide)).mpr (Or.inr ⟨rfl, ?_⟩)
    show ρ 4 < ρ 1
    omega
  cases List.mem_singleton.mp hy
  refine (ax_XF_bi (o := 30) (by decide)).mpr (Or.inr ⟨rfl, ?_⟩)
  show ρ 3 < ρ 1
  omega

theorem axq_rp6_3 : ax_RO ax_wC ax_XC axu_rp6_3 := by
  intro ρ hp hE hT
  have j0 : ρ 0 % 4 = 1 := pz_gj hE 0 (Nat.le_of_ble_eq_true rfl) rfl
  have j1 : ρ 1 % 4 = 1 := pz_gj hE 1 (Nat.le_of_ble_eq_true rfl) rfl
  have j2 : ρ 2 % 4 = 1 := pz_gj hE 2 (Nat.le_of_ble_eq_true rfl) rfl
  obtain ⟨i3a, i3b, i3c, i3d⟩ := pz_gi hE 3 2147483648 2147484447 (Nat.le_of_ble_eq_true rfl) rfl
  obtain ⟨i4a, i4b, i4c, i4d⟩ := pz_gi hE 4 0 4294967295 (Nat.le_of_ble_eq_true rfl) rfl
  have s1 : (ρ 3 / 4 + 2147483648) % 4294967296 + (4 / 4 + 2147483648) % 4294967296 = (ρ 4 / 4 + 2147483648) % 4294967296 + 2147483648 := pz_gs hE 15 4 19 ax_m1
  have o1 : ρ 2 < ρ 1 := pz_go hE 11 7 (by decide)
  obtain ⟨-, -, -, -, F50⟩ : ay_ex hp 8 ∧ ay_ex hp 10 ∧ ay_ex hp 11 ∧ ay_ex hp 12 ∧ pz_x50 (ρ 0) (ρ 1) (ay_at hp 8 5) (ay_at hp 8 6) (ay_at hp 8 7) (ay_at hp 8 8) (ay_at hp 10 0) (ay_at hp 10 1) (ay_at hp 10 2) (ay_at hp 10 3) (ay_at hp 10 4) (ay_at hp 8 9) (ay_at hp 8 11) (ay_at hp 8 10) (ay_at hp 8 3) (ay_at hp 8 4) (ay_at hp 11) (ay_at hp 12) := (ax_XF_lt (x := 50) (Nat.le_of_ble_eq_true rfl)).mp (ax_gx hE (50, [3, 7]) ax_m0)
  have F97 : (ρ 3) / 4 ≤ (ρ 2) / 4 := (ax_XF_lt (x := 97) (Nat.le_of_ble_eq_true rfl)).mp (ax_gx hE (97, [11, 15]) ax_m2)
  refine ⟨(fun y hy => by cases hy), _, List.mem_cons_self, ρ, fun _ _ => rfl, ax_px hE rfl (fun y hy => ?_)⟩
  cases List.mem_singleton.mp hy
  refine (ax_XF_lt (x := 97) (Nat.le_of_ble_eq_true rfl)).mpr ?_
  show (ρ 4) / 4 ≤ (ρ 1) / 4
  omega

theorem axq_rp7_3 : ax_RO ax_wC ax_XC axu_rp7_3 := by
  intro ρ hp hE hT
  have j0 : ρ 0 % 4 = 1 := pz_gj hE 0 (Nat.le_of_ble_eq_true rfl) rfl
  have j1 : ρ 1 % 4 = 1 := pz_gj hE 1 (Nat.le_of_ble_eq_true rfl) rfl
  obtain ⟨i2a, i2b, i2c, i2d⟩ := pz_gi hE 2 2147484448 2147484448 (Nat.le_of_ble_eq_true rfl) rfl
  obtain ⟨-, -, F30⟩ : ay_ex hp 8 ∧ ay_ex hp 9 ∧ pz_x30 (ρ 0) (ay_at hp 8 1) (ay_at hp 9) := (ax_XF_lt (x := 30) (Nat.le_of_ble_eq_true rfl)).mp (ax_gx hE (30, [3]) ax_m0)
  obtain ⟨-, -, -, -, F50⟩ : ay_ex hp 8 ∧ ay_ex hp 10 ∧ ay_ex hp 11 ∧ ay_ex hp 12 ∧ pz_x50 (ρ 0) (ρ 1) (ay_at hp 8 5) (ay_at hp 8 6) (ay_at hp 8 7) (ay_at hp 8 8) (ay_at hp 10 0) (ay_at hp 10 1) (ay_at hp 10 2) (ay_at hp 10 3) (ay_at hp 10 4) (ay_at hp 8 9) (ay_at hp 8 11) (ay_at hp 8 10) (ay_at hp 8 3) (ay_at hp 8 4) (ay_at hp 11) (ay_at hp 12) := (ax_XF_lt (x := 50) (Nat.le_of_ble_eq_true rfl)).mp (ax_gx hE (50, [3, 7]) ax_m1)
  have F79 : pz7 (pz_gt (ρ 0)) (pz_gN (ρ 0)) ((ρ 1) / 4) 9 := (ax_XF_lt (x := 79) (Nat.le_of_ble_eq_true rfl)).mp (ax_gx hE (79, [3, 7]) ax_m2)
  have F97 : (ρ 2) / 4 ≤ (ρ 1) / 4 := (ax_XF_lt (x := 97) (Nat.le_of_ble_eq_true rfl)).mp (ax_gx hE (97, [7, 11]) ax_m3)
  refine ⟨(fun y hy => by cases hy), _, List.mem_cons_self, ρ, fun _ _ => rfl, ax_px hE rfl (fun y hy => ?_)⟩
  cases List.mem_singleton.mp hy
  refine (ax_XF_lt (x := 95) (Nat.le_of_ble_eq_true rfl)).mpr ?_
  show pz95 (pz_gt (ρ 0)) (pz_gN (ρ 0)) ((ρ 1) / 4)
  have kd := pq_far (n := ρ 1 / 4) F79 (by decide) (show pz_gN (ρ 0) ≤ 800 from F30.2.1) (by omega)
  exact ⟨by omega, by omega, by omega⟩
end
section
theorem axq_rp8a_3 : ax_RO ax_wC ax_XC axu_rp8a_3 := by
  intro ρ hp hE hT
  have j0 : ρ 0 % 4 = 1 := pz_gj hE 0 (Nat.le_of_ble_eq_true rfl) rfl
  have j1 : ρ 1 % 4 = 1 := pz_gj hE 1 (Nat.le_of_ble_eq_true rfl) rfl
  obtain ⟨i2a, i2b, i2c, i2d⟩ := pz_gi hE 2 0 2147483684 (Nat.le_of_ble_eq_true rfl) rfl
  have c_kind : ay_at hp 8 7 = some (ρ 2) := ay_gfj hE 42 28 11 8 7 ax_m1 (ax_vlq rfl rfl) (ax_vlj rfl rfl)
  obtain ⟨-, -, -, -, F50⟩ : ay_ex hp 8 ∧ ay_ex hp 10 ∧ ay_ex hp 11 ∧ ay_ex hp 12 ∧ pz_x50 (ρ 0) (ρ 1) (ay_at hp 8 5) (ay_at hp 8 6) (ay_at hp 8 7) (ay_at hp 8 8) (ay_at hp 10 0) (ay_at hp 10 1) (ay_at hp 10 2) (ay_at hp 10 3) (ay_at hp 10 4) (ay_at hp 8 9) (ay_at hp 8 11) (ay_at hp 8 10) (ay_at hp 8 3) (ay_at hp 8 4) (ay_at hp 11) (ay_at hp 12) := (ax_XF_lt (x := 50) (Nat.le_of_ble_eq_true rfl)).mp (ax_gx hE (50, [3, 7]) ax_m0)
  rw [c_kind] at F50
  refine ⟨(fun y hy => by cases hy), _, List.mem_cons_self, ρ, fun _ _ => rfl, ax_px hE rfl (fun y hy => ?_)⟩
  cases List.mem_singleton.mp hy
  refine (ax_XF_lt (x := 95) (Nat.le_of_ble_eq_true rfl)).mpr ?_
  show pz95 (pz_gt (ρ 0)) (pz_gN (ρ 0)) ((ρ 1) / 4)
  have kd : ρ 2 / 4 = pz_kd (pz_gt (ρ 0)) (pz_gN (ρ 0)) (pz_p (pz_cf (pz_gt (ρ 0)) (pz_gN (ρ 0)) (ρ 1 / 4))) := F50.2.2.1
  exact ⟨by omega, by omega, by omega⟩

theorem axq_rp8b_3 : ax_RO ax_wC ax_XC axu_rp8b_3 := by
  intro ρ hp hE hT
  have j0 : ρ 0 % 4 = 1 := pz_gj hE 0 (Nat.le_of_ble_eq_true rfl) rfl
  have j1 : ρ 1 % 4 = 1 := pz_gj hE 1 (Nat.le_of_ble_eq_true rfl) rfl
  obtain ⟨i2a, i2b, i2c, i2d⟩ := pz_gi hE 2 2147483686 2147483689 (Nat.le_of_ble_eq_true rfl) rfl
  have c_kind : ay_at hp 8 7 = some (ρ 2) := ay_gfj hE 42 28 11 8 7 ax_m1 (ax_vlq rfl rfl) (ax_vlj rfl rfl)
  obtain ⟨-, -, -, -, F50⟩ : ay_ex hp 8 ∧ ay_ex hp 10 ∧ ay_ex hp 11 ∧ ay_ex hp 12 ∧ pz_x50 (ρ 0) (ρ 1) (ay_at hp 8 5) (ay_at hp 8 6) (ay_at hp 8 7) (ay_at hp 8 8) (ay_at hp 10 0) (ay_at hp 10 1) (ay_at hp 10 2) (ay_at hp 10 3) (ay_at hp 10 4) (ay_at hp 8 9) (ay_at hp 8 11) (ay_at hp 8 10) (ay_at hp 8 3) (ay_at hp 8 4) (ay_at hp 11) (ay_at hp 12) := (ax_XF_lt (x := 50) (Nat.le_of_ble_eq_true rfl)).mp (ax_gx hE (50, [3, 7]) ax_m0)
  rw [c_kind] at F50
  refine ⟨(fun y hy => by cases hy), _, List.mem_cons_self, ρ, fun _ _ => rfl, ax_px hE rfl (fun y hy => ?_)⟩
  cases List.mem_singleton.mp hy
  refine (ax_XF_lt (x := 95) (Nat.le_of_ble_eq_true rfl)).mpr ?_
  show pz95 (pz_gt (ρ 0)) (pz_gN (ρ 0)) ((ρ 1) / 4)
  have kd : ρ 2 / 4 = pz_kd (pz_gt (ρ 0)) (pz_gN (ρ 0)) (pz_p (pz_cf (pz_gt (ρ 0)) (pz_gN (ρ 0)) (ρ 1 / 4))) := F50.2.2.1
  exact ⟨by omega, by omega, by omega⟩

theorem axq_rp8c_3 : ax_RO ax_wC ax_XC axu_rp8c_3 := by
  intro ρ hp hE hT
  have j0 : ρ 0 % 4 = 1 := pz_gj hE 0 (Nat.le_of_ble_eq_true rfl) rfl
  have j1 : ρ 1 % 4 = 1 := pz_gj hE 1 (Nat.le_of_ble_eq_true rfl) rfl
  obtain ⟨i2a, i2b, i2c, i2d⟩ := pz_gi hE 2 2147483691 2147483694 (Nat.le_of_ble_eq_true rfl) rfl
  have c_kind : ay_at hp 8 7 = some (ρ 2) := ay_gfj hE 42 28 11 8 7 ax_m1 (ax_vlq rfl rfl) (ax_vlj rfl rfl)
  obtain ⟨-, -, -, -, F50⟩ : ay_ex hp 8 ∧ ay_ex hp 10 ∧ ay_ex hp 11 ∧ ay_ex hp 12 ∧ pz_x50 (ρ 0) (ρ 1) (ay_at hp 8 5) (ay_at hp 8 6) (ay_at hp 8 7) (ay_at hp 8 8) (ay_at hp 10 0) (ay_at hp 10 1) (ay_at hp 10 2) (ay_at hp 10 3) (ay_at hp 10 4) (ay_at hp 8 9) (ay_at hp 8 11) (ay_at hp 8 10) (ay_at hp 8 3) (ay_at hp 8 4) (ay_at hp 11) (ay_at hp 12) := (ax_XF_lt (x := 50) (Nat.le_of_ble_eq_true rfl)).mp (ax_gx hE (50, [3, 7]) ax_m0)
  rw [c_kind] at F50
  refine ⟨(fun y hy => by cases hy), _, List.mem_cons_self, ρ, fun _ _ => rfl, ax_px hE rfl (fun y hy => ?_)⟩
  cases List.mem_singleton.mp hy
  refine (ax_XF_lt (x := 95) (Nat.le_of_ble_eq_true rfl)).mpr ?_
  show pz95 (pz_gt (ρ 0)) (pz_gN (ρ 0)) ((ρ 1) / 4)
  have kd : ρ 2 / 4 = pz_kd (pz_gt (ρ 0)) (pz_gN (ρ 0)) (pz_p (pz_cf (pz_gt (ρ 0)) (pz_gN (ρ 0)) (ρ 1 / 4))) := F50.2.2.1
  exact ⟨by omega, by omega, by omega⟩

theorem axq_rp8d_3 : ax_RO ax_wC ax_XC axu_rp8d_3 := by
  intro ρ hp hE hT
  have j0 : ρ 0 % 4 = 1 := pz_gj hE 0 (Nat.le_of_ble_eq_true rfl) rfl
  have j1 : ρ 1 % 4 = 1 := pz_gj hE 1 (Nat.le_of_ble_eq_true rfl) rfl
  obtain ⟨i2a, i2b, i2c, i2d⟩ := pz_gi hE 2 2147483696 4294967295 (Nat.le_of_ble_eq_true rfl) rfl
  have c_kind : ay_at hp 8 7 = some (ρ 2) := ay_gfj hE 42 28 11 8 7 ax_m1 (ax_vlq rfl rfl) (ax_vlj rfl rfl)
  obtain ⟨-, -, -, -, F50⟩ : ay_ex hp 8 ∧ ay_ex hp 10 ∧ ay_ex hp 11 ∧ ay_ex hp 12 ∧ pz_x50 (ρ 0) (ρ 1) (ay_at hp 8 5) (ay_at hp 8 6) (ay_at hp 8 7) (ay_at hp 8 8) (ay_at hp 10 0) (ay_at hp 10 1) (ay_at hp 10 2) (ay_at hp 10 3) (ay_at hp 10 4) (ay_at hp 8 9) (ay_at hp 8 11) (ay_at hp 8 10) (ay_at hp 8 3) (ay_at hp 8 4) (ay_at hp 11) (ay_at hp 12) := (ax_XF_lt (x := 50) (Nat.le_of_ble_eq_true rfl)).mp (ax_gx hE (50, [3, 7]) ax_m0)
  rw [c_kind] at F50
  refine ⟨(fun y hy => by cases hy), _, List.mem_cons_self, ρ, fun _ _ => rfl, ax_px hE rfl (fun y hy => ?_)⟩
  cases List.mem_singleton.mp hy
  refine (ax_XF_lt (x := 95) (Nat.le_of_ble_eq_true rfl)).mpr ?_
  show pz95 (pz_gt (ρ 0)) (pz_gN (ρ 0)) ((ρ 1) / 4)
  have kd : ρ 2 / 4 = pz_kd (pz_gt (ρ 0)) (pz_gN (ρ 0)) (pz_p (pz_cf (pz_gt (ρ 0)) (pz_gN (ρ 0)) (ρ 1 / 4))) := F50.2.2.1
  exact ⟨by omega, by omega, by omega⟩

theorem axq_rp1_4 : ax_RO ax_wC ax_XC axu_rp1_4 := by
  intro ρ hp hE hT
  have j0 : ρ 0 % 4 = 1 := pz_gj hE 0 (Nat.le_of_ble_eq_true rfl) rfl
  have j1 : ρ 1 % 4 = 1 := pz_gj hE 1 (Nat.le_of_ble_eq_true rfl) rfl
  have j2 : ρ 2 % 4 = 1 := pz_gj hE 2 (Nat.le_of_ble_eq_true rfl) rfl
  have j3 : ρ 3 % 4 = 1 := pz_gj hE 3 (Nat.le_of_ble_eq_true rfl) rfl
  obtain ⟨-, -, -, -, F50⟩ : ay_ex hp 8 ∧ ay_ex hp 10 ∧ ay_ex hp 11 ∧ ay_ex hp 12 ∧ pz_x50 (ρ 0) (ρ 1) (ay_at hp 8 5) (ay_at hp 8 6) (ay_at hp 8 7) (ay_at hp 8 8) (ay_at hp 10 0) (ay_at hp 10 1) (ay_at hp 10 2) (ay_at hp 10 3) (ay_at hp 10 4) (ay_at hp 8 9) (ay_at hp 8 11) (ay_at hp 8 10) (ay_at hp 8 3) (ay_at hp 8 4) (ay_at hp 11) (ay_at hp 12) := (ax_XF_lt (x := 50) (Nat.le_of_ble_eq_true rfl)).mp (ax_gx hE (50, [3, 7]) ax_m0)
  have F90 : (pz90 (pz_gt (ρ 0)) (pz_gN (ρ 0)) ((ρ 1) / 4) ((ρ 3) / 4) ∧ 1 ≤ (ρ 3) / 4) := (ax_XF_lt (x := 90) (Nat.le_of_ble_eq_true rfl)).mp (ax_gx hE (90, [3, 7, 15]) ax_m1)
  have F92 : pz_strip ((ρ 2) / 4) = (ρ 3) / 4 := (ax_XF_lt (x := 92) (Nat.le_of_ble_eq_true rfl)).mp (ax_gx hE (92, [11, 15]) ax_m2)
  have F92a : pz_strip ((ρ 2) / 4) = (ρ 2) / 4 := (ax_XF_lt (x := 92) (Nat.le_of_ble_eq_true rfl)).mp (ax_gx hE (92, [11, 11]) ax_m3)
  refine ⟨(fun y hy => by cases hy), _, List.mem_cons_self, ρ, fun _ _ => rfl, ax_px hE rfl (fun y hy => ?_)⟩
  cases List.mem_singleton.mp hy
  refine (ax_XF_lt (x := 90) (Nat.le_of_ble_eq_true rfl)).mpr ?_
  show (pz90 (pz_gt (ρ 0)) (pz_gN (ρ 0)) ((ρ 1) / 4) ((ρ 2) / 4) ∧ 1 ≤ (ρ 2) / 4)
  have e : ρ 3 / 4 = ρ 2 / 4 := by omega
  rw [← e]
  exact F90

theorem axq_rp2_4 : ax_RO ax_wC ax_XC axu_rp2_4 := by
  intro ρ hp hE hT
  have j0 : ρ 0 % 4 = 1 := pz_gj hE 0 (Nat.le_of_ble_eq_true rfl) rfl
  have j1 : ρ 1 % 4 = 1 := pz_gj hE 1 (Nat.le_of_ble_eq_true rfl) rfl
  obtain ⟨-, -, -, -, F50⟩ : ay_ex hp 8 ∧ ay_ex hp 10 ∧ ay_ex hp 11 ∧ ay_ex hp 12 ∧ pz_x50 (ρ 0) (ρ 1) (ay_at hp 8 5) (ay_at hp 8 6) (ay_at hp 8 7) (ay_at hp 8 8) (ay_at hp 10 0) (ay_at hp 10 1) (ay_at hp 10 2) (ay_at hp 10 3) (ay_at hp 10 4) (ay_at hp 8 9) (ay_at hp 8 11) (ay_at hp 8 10) (ay_at hp 8 3) (ay_at hp 8 4) (ay_at hp 11) (ay_at hp 12) := (ax_XF_lt (x := 50) (Nat.le_of_ble_eq_true rfl)).mp (ax_gx hE (50, [3, 7]) ax_m0)
  refine ⟨(fun y hy => by cases hy), _, List.mem_cons_self, ρ, fun _ _ => rfl, ax_px hE rfl (fun y hy => ?_)⟩
  cases List.mem_singleton.mp hy
  refine (ax_XF_lt (x := 97) (Nat.le_of_ble_eq_true rfl)).mpr ?_
  show (0) / 4 ≤ (ρ 1) / 4
  exact Nat.zero_le _

theorem axq_rp3c42_4 : ax_RO ax_wC ax_XC axu_rp3c42_4 := by
  intro ρ hp hE hT
  have j0 : ρ 0 % 4 = 1 := pz_gj hE 0 (Nat.le_of_ble_eq_true rfl) rfl
  have j1 : ρ 1 % 4 = 1 := pz_gj hE 1 (Nat.le_of_ble_eq_true rfl) rfl
  have j2 : ρ 2 % 4 = 1 := pz_gj hE 2 (Nat.le_of_ble_eq_true rfl) rfl
  obtain ⟨i3a, i3b, i3c, i3d⟩ := pz_gi hE 3 2147483690 2147483690 (Nat.le_of_ble_eq_true rfl) rfl
  have j4 : ρ 4 % 4 = 1 := pz_gj hE 4 (Nat.le_of_ble_eq_true rfl) rfl
  have c_kind : ay_at hp 8 7 = some (ρ 3) := ay_gfj hE 42 28 15 8 7 ax_m3 (ax_vlq rfl rfl) (ax_vlj rfl rfl)
  have o1 : ρ 4 < ρ 1 := pz_go hE 19 7 (by decide)
  obtain ⟨-, -, -, -, F50⟩ : ay_ex hp 8 ∧ ay_ex hp 10 ∧ ay_ex hp 11 ∧ ay_ex hp 12 ∧ pz_x50 (ρ 0) (ρ 1) (ay_at hp 8 5) (ay_at hp 8 6) (ay_at hp 8 7) (ay_at hp 8 8) (ay_at hp 10 0) (ay_at hp 10 1) (ay_at hp 10 2) (ay_at hp 10 3) (ay_at hp 10 4) (ay_at hp 8 9) (ay_at hp 8 11) (ay_at hp 8 10) (ay_at hp 8 3) (ay_at hp 8 4) (ay_at hp 11) (ay_at hp 12) := (ax_XF_lt (x := 50) (Nat.le_of_ble_eq_true rfl)).mp (ax_gx hE (50, [3, 7]) ax_m0)
  rw [c_kind] at F50
  have F79 : pz7 (pz_gt (ρ 0)) (pz_gN (ρ 0)) ((ρ 1) / 4) 9 := (ax_XF_lt (x := 79) (Nat.le_of_ble_eq_true rfl)).mp (ax_gx hE (79, [3, 7]) ax_m1)
  have F90 : (pz90 (pz_gt (ρ 0)) (pz_gN (ρ 0)) ((ρ 1) / 4) ((ρ 2) / 4) ∧ 1 ≤ (ρ 2) / 4) := (ax_XF_lt (x := 90) (Nat.le_of_ble_eq_true rfl)).mp (ax_gx hE (90, [3, 7, 11]) ax_m2)
  have st := pq_op F50 F79 F90.1 (show pz_op (ρ 3 / 4) = true by rw [show ρ 3 / 4 = 42 by omega]; rfl)
  obtain ⟨ρ', h1, h2⟩ := pz_pn1 (K := ρ 1 / 4 + 1) (xf := [(53, [3, 23]), (78, [3, 23]), (90, [3, 23, 11]), (1030, [7, 23]), (98, [7, 23]), (1030, [19, 23])]) hE (by decide) (fun ρ' h1 h2 x hx => by
    have q0 : ρ' 0 = ρ 0 := h1 0 (by decide)
    have q1 : ρ' 1 = ρ 1 := h1 1 (by decide)
    have q2 : ρ' 2 = ρ 2 := h1 2 (by decide)
    have q3 : ρ' 3 = ρ 3 := h1 3 (by decide)
    have q4 : ρ' 4 = ρ 4 := h1 4 (by decide)
    rcases List.mem_cons.mp hx with e | hx
    · subst e
      refine (ax_XF_lt (x := 53) (Nat.le_of_ble_eq_true rfl)).mpr ?_
      show ay_ex hp 8 ∧ ay_ex hp 10 ∧ ay_ex hp 11 ∧ ay_ex hp 12 ∧ pz_x53 (ρ' 0) (ρ' 5) (ay_at hp 8 5) (ay_at hp 10 0) (ay_at hp 10 1) (ay_at hp 10 2) (ay_at hp 10 3) (ay_at hp 10 4) (ay_at hp 8 9) (ay_at hp 8 11) (ay_at hp 8 10) (ay_at hp 8 3) (ay_at hp 8 4) (ay_at hp 11) (ay_at hp 12)
      rw [q0, h2]
      exact ⟨(ax_cellT hT (q := 8) (g := 2) rfl), (ax_cellT hT (q := 10) (g := 1) rfl), (ax_cellT hT (q := 11) (g := 14) rfl), (ax_cellT hT (q := 12) (g := 15) rfl), pz_53 (pz_41 _) rfl st.1⟩
    rcases List.mem_cons.mp hx with e | hx
    · subst e
      refine (ax_XF_lt (x := 78) (Nat.le_of_ble_eq_true rfl)).mpr ?_
      show pz7 (pz_gt (ρ' 0)) (pz_gN (ρ' 0)) ((ρ' 5) / 4) 8
      rw [q0, h2]
      rw [pz_41]
      exact st.2.1
    rcases List.mem_cons.mp hx with e | hx
    · subst e
      refine (ax_XF_lt (x := 90) (Nat.le_of_ble_eq_true rfl)).mpr ?_
      show (pz90 (pz_gt (ρ' 0)) (pz_gN (ρ' 0)) ((ρ' 5) / 4) ((ρ' 2) / 4) ∧ 1 ≤ (ρ' 2) / 4)
      rw [q0, q2, h2]
      rw [pz_41]
      exact ⟨st.2.2, F90.2⟩
    rcases List.mem_cons.mp hx with e | hx
    · subst e
      refine (ax_XF_bi (o := 30) (by decide)).mpr (Or.inr ⟨rfl, ?_⟩)
      show ρ' 1 < ρ' 5
      rw [q1, h2]
      omega
    rcases List.mem_cons.mp hx with e | hx
    · subst e
      refine (ax_XF_lt (x := 98) (Nat.le_of_ble_eq_true rfl)).mpr ?_
      show (ρ' 5) / 4 = (ρ' 1) / 4 + 1
      rw [q1, h2]
      rw [pz_41]
    cases List.mem_singleton.mp hx
    refine (ax_XF_bi (o := 30) (by decide)).mpr (Or.inr ⟨rfl, ?_⟩)
    show ρ' 4 < ρ' 5
    rw [q4, h2]
    omega)
  exact ⟨(fun y hy => by cases hy), _, List.mem_cons_self, ρ', h1, h2⟩

theorem axq_rp3c47_4 : ax_RO ax_wC ax_XC axu_rp3c47_4 := by
  intro ρ hp hE hT
  have j0 : ρ 0 % 4 = 1 := pz_gj hE 0 (Nat.le_of_ble_eq_true rfl) rfl
  have j1 : ρ 1 % 4 = 1 := pz_gj hE 1 (Nat.le_of_ble_eq_true rfl) rfl
  have j2 : ρ 2 % 4 = 1 := pz_gj hE 2 (Nat.le_of_ble_eq_true rfl) rfl
  obtain ⟨i3a, i3b, i3c, i3d⟩ := pz_gi hE 3 2147483695 2147483695 (Nat.le_of_ble_eq_true rfl) rfl
  have j4 : ρ 4 % 4 = 1 := pz_gj hE 4 (Nat.le_of_ble_eq_true rfl) rfl
  have c_kind : ay_at hp 8 7 = some (ρ 3) := ay_gfj hE 42 28 15 8 7 ax_m3 (ax_vlq rfl rfl) (ax_vlj rfl rfl)
  have o1 : ρ 4 < ρ 1 := pz_go hE 19 7 (by decide)
  obtain ⟨-, -, -, -, F50⟩ : ay_ex hp 8 ∧ ay_ex hp 10 ∧ ay_ex hp 11 ∧ ay_ex hp 12 ∧ pz_x50 (ρ 0) (ρ 1) (ay_at hp 8 5) (ay_at hp 8 6) (ay_at hp 8 7) (ay_at hp 8 8) (ay_at hp 10 0) (ay_at hp 10 1) (ay_at hp 10 2) (ay_at hp 10 3) (ay_at hp 10 4) (ay_at hp 8 9) (ay_at hp 8 11) (ay_at hp 8 10) (ay_at hp 8 3) (ay_at hp 8 4) (ay_at hp 11) (ay_at hp 12) := (ax_XF_lt (x := 50) (Nat.le_of_ble_eq_true rfl)).mp (ax_gx hE (50, [3, 7]) ax_m0)
  rw [c_kind] at F50
  have F79 : pz7 (pz_gt (ρ 0)) (pz_gN (ρ 0)) ((ρ 1) / 4) 9 := (ax_XF_lt (x := 79) (Nat.le_of_ble_eq_true rfl)).mp (ax_gx hE (79, [3, 7]) ax_m1)
  have F90 : (pz90 (pz_gt (ρ 0)) (pz_gN (ρ 0)) ((ρ 1) / 4) ((ρ 2) / 4) ∧ 1 ≤ (ρ 2) / 4) := (ax_XF_lt (x := 90) (Nat.le_of_ble_eq_true rfl)).mp (ax_gx hE (90, [3, 7, 11]) ax_m2)
  have st := pq_op F50 F79 F90.1 (show pz_op (ρ 3 / 4) = true by rw [show ρ 3 / 4 = 47 by omega]; rfl)
  obtain ⟨ρ', h1, h2⟩ := pz_pn1 (K := ρ 1 / 4 + 1) (xf := [(53, [3, 23]), (78, [3, 23]), (90, [3, 23, 11]), (1030, [7, 23]), (98, [7, 23]), (1030, [19, 23])]) hE (by decide) (fun ρ' h1 h2 x hx => by
    have q0 : ρ' 0 = ρ 0 := h1 0 (by decide)
    have q1 : ρ' 1 = ρ 1 := h1 1 (by decide)
    have q2 : ρ' 2 = ρ 2 := h1 2 (by decide)
    have q3 : ρ' 3 = ρ 3 := h1 3 (by decide)
    have q4 : ρ' 4 = ρ 4 := h1 4 (by decide)
    rcases List.mem_cons.mp hx with e | hx
    · subst e
      refine (ax_XF_lt (x := 53) (Nat.le_of_ble_eq_true rfl)).mpr ?_
      show ay_ex hp 8 ∧ ay_ex hp 10 ∧ ay_ex hp 11 ∧ ay_ex hp 12 ∧ pz_x53 (ρ' 0) (ρ' 5) (ay_at hp 8 5) (ay_at hp 10 0) (ay_at hp 10 1) (ay_at hp 10 2) (ay_at hp 10 3) (ay_at hp 10 4) (ay_at hp 8 9) (ay_at hp 8 11) (ay_at hp 8 10) (ay_at hp 8 3) (ay_at hp 8 4) (ay_at hp 11) (ay_at hp 12)
      rw [q0, h2]
      exact ⟨(ax_cellT hT (q := 8) (g := 2) rfl), (ax_cellT hT (q := 10) (g := 1) rfl), (ax_cellT hT (q := 11) (g := 14) rfl), (ax_cellT hT (q := 12) (g := 15) rfl), pz_53 (pz_41 _) rfl st.1⟩
    rcases List.mem_cons.mp hx with e | hx
    · subst e
      refine (ax_XF_lt (x := 78) (Nat.le_of_ble_eq_true rfl)).mpr ?_
      show pz7 (pz_gt (ρ' 0)) (pz_gN (ρ' 0)) ((ρ' 5) / 4) 8
      rw [q0, h2]
      rw [pz_41]
      exact st.2.1
    rcases List.mem_cons.mp hx with e | hx
    · subst e
      refine (ax_XF_lt (x := 90) (Nat.le_of_ble_eq_true rfl)).mpr ?_
      show (pz90 (pz_gt (ρ' 0)) (pz_gN (ρ' 0)) ((ρ' 5) / 4) ((ρ' 2) / 4) ∧ 1 ≤ (ρ' 2) / 4)
      rw [q0, q2, h2]
      rw [pz_41]
      exact ⟨st.2.2, F90.2⟩
    rcases List.mem_cons.mp hx with e | hx
    · subst e
      refine (ax_XF_bi (o := 30) (by decide)).mpr (Or.inr ⟨rfl, ?_⟩)
      show ρ' 1 < ρ' 5
      rw [q1, h2]
      omega
    rcases List.mem_cons.mp hx with e | hx
    · subst e
      refine (ax_XF_lt (x := 98) (Nat.le_of_ble_eq_true rfl)).mpr ?_
      show (ρ' 5) / 4 = (ρ' 1) / 4 + 1
      rw [q1, h2]
      rw [pz_41]
    cases List.mem_singleton.mp hx
    refine (ax_XF_bi (o := 30) (by decide)).mpr (Or.inr ⟨rfl, ?_⟩)
    show ρ' 4 < ρ' 5
    rw [q4, h2]
    omega)
  exact ⟨(fun y hy => by cases hy), _, List.mem_cons_self, ρ', h1, h2⟩

theorem axq_rp3c37_4 : ax_RO ax_wC ax_XC axu_rp3c37_4 := by
  intro ρ hp hE hT
  have j0 : ρ 0 % 4 = 1 := pz_gj hE 0 (Nat.le_of_ble_eq_true rfl) rfl
  have j1 : ρ 1 % 4 = 1 := pz_gj hE 1 (Nat.le_of_ble_eq_true rfl) rfl
  have j2 : ρ 2 % 4 = 1 := pz_gj hE 2 (Nat.le_of_ble_eq_true rfl) rfl
  obtain ⟨i3a, i3b, i3c, i3d⟩ := pz_gi hE 3 2147483685 2147483685 (Nat.le_of_ble_eq_true rfl) rfl
  have j4 : ρ 4 % 4 = 1 := pz_gj hE 4 (Nat.le_of_ble_eq_true rfl) rfl
  have c_kind : ay_at hp 8 7 = some (ρ 3) := ay_gfj hE 42 28 15 8 7 ax_m3 (ax_vlq rfl rfl) (ax_vlj rfl rfl)
  have o1 : ρ 4 < ρ 1 := pz_go hE 19 7 (by decide)
  obtain ⟨-, -, -, -, F50⟩ : ay_ex hp 8 ∧ ay_ex hp 10 ∧ ay_ex hp 11 ∧ ay_ex hp 12 ∧ pz_x50 (ρ 0) (ρ 1) (ay_at hp 8 5) (ay_at hp 8 6) (ay_at hp 8 7) (ay_at hp 8 8) (ay_at hp 10 0) (ay_at hp 10 1) (ay_at hp 10 2) (ay_at hp 10 3) (ay_at hp 10 4) (ay_at hp 8 9) (ay_at hp 8 11) (ay_at hp 8 10) (ay_at hp 8 3) (ay_at hp 8 4) (ay_at hp 11) (ay_at hp 12) := (ax_XF_lt (x := 50) (Nat.le_of_ble_eq_true rfl)).mp (ax_gx hE (50, [3, 7]) ax_m0)
  rw [c_kind] at F50
  have F79 : pz7 (pz_gt (ρ 0)) (pz_gN (ρ 0)) ((ρ 1) / 4) 9 := (ax_XF_lt (x := 79) (Nat.le_of_ble_eq_true rfl)).mp (ax_gx hE (79, [3, 7]) ax_m1)
  have F90 : (pz90 (pz_gt (ρ 0)) (pz_gN (ρ 0)) ((ρ 1) / 4) ((ρ 2) / 4) ∧ 1 ≤ (ρ 2) / 4) := (ax_XF_lt (x := 90) (Nat.le_of_ble_eq_true rfl)).mp (ax_gx hE (90, [3, 7, 11]) ax_m2)
  have st := pq_op F50 F79 F90.1 (show pz_op (ρ 3 / 4) = true by rw [show ρ 3 / 4 = 37 by omega]; rfl)
  obtain ⟨ρ', h1, h2⟩ := pz_pn1 (K := ρ 1 / 4 + 1) (xf := [(53, [3, 23]), (78, [3, 23]), (90, [3, 23, 11]), (1030, [7, 23]), (98, [7, 23]), (1030, [19, 23])]) hE (by decide) (fun ρ' h1 h2 x hx => by
    have q0 : ρ' 0 = ρ 0 := h1 0 (by decide)
    have q1 : ρ' 1 = ρ 1 := h1 1 (by decide)
    have q2 : ρ' 2 = ρ 2 := h1 2 (by decide)
    have q3 : ρ' 3 = ρ 3 := h1 3 (by decide)
    have q4 : ρ' 4 = ρ 4 := h1 4 (by decide)
    rcases List.mem_cons.mp hx with e | hx
    · subst e
      refine (ax_XF_lt (x := 53) (Nat.le_of_ble_eq_true rfl)).mpr ?_
      show ay_ex hp 8 ∧ ay_ex hp 10 ∧ ay_ex hp 11 ∧ ay_ex hp 12 ∧ pz_x53 (ρ' 0) (ρ' 5) (ay_at hp 8 5) (ay_at hp 10 0) (ay_at hp 10 1) (ay_at hp 10 2) (ay_at hp 10 3) (ay_at hp 10 4) (ay_at hp 8 9) (ay_at hp 8 11) (ay_at hp 8 10) (ay_at hp 8 3) (ay_at hp 8 4) (ay_at hp 11) (ay_at hp 12)
      rw [q0, h2]
      exact ⟨(ax_cellT hT (q := 8) (g := 2) rfl), (ax_cellT hT (q := 10) (g := 1) rfl), (ax_cellT hT (q := 11) (g := 14) rfl), (ax_cellT hT (q := 12) (g := 15) rfl), pz_53 (pz_41 _) rfl st.1⟩
    rcases List.mem_cons.mp hx with e | hx
    · subst e
      refine (ax_XF_lt (x := 78) (Nat.le_of_ble_eq_true rfl)).mpr ?_
      show pz7 (pz_gt (ρ' 0)) (pz_gN (ρ' 0)) ((ρ' 5) / 4) 8
      rw [q0, h2]
      rw [pz_41]
      exact st.2.1
    rcases List.mem_cons.mp hx with e | hx
    · subst e
      refine (ax_XF_lt (x := 90) (Nat.le_of_ble_eq_true rfl)).mpr ?_
      show (pz90 (pz_gt (ρ' 0)) (pz_gN (ρ' 0)) ((ρ' 5) / 4) ((ρ' 2) / 4) ∧ 1 ≤ (ρ' 2) / 4)
      rw [q0, q2, h2]
      rw [pz_41]
      exact ⟨st.2.2, F90.2⟩
    rcases List.mem_cons.mp hx with e | hx
    · subst e
      refine (ax_XF_bi (o := 30) (by decide)).mpr (Or.inr ⟨rfl, ?_⟩)
      show ρ' 1 < ρ' 5
      rw [q1, h2]
      omega
    rcases List.mem_cons.mp hx with e | hx
    · subst e
      refine (ax_XF_lt (x := 98) (Nat.le_of_ble_eq_true rfl)).mpr ?_
      show (ρ' 5) / 4 = (ρ' 1) / 4 + 1
      rw [q1, h2]
      rw [pz_41]
    cases List.mem_singleton.mp hx
    refine (ax_XF_bi (o := 30) (by decide)).mpr (Or.inr ⟨rfl, ?_⟩)
    show ρ' 4 < ρ' 5
    rw [q4, h2]
    omega)
  exact ⟨(fun y hy => by cases hy), _, List.mem_cons_self, ρ', h1, h2⟩

theorem axq_rp4_4 : ax_RO ax_wC ax_XC axu_rp4_4 := by
  intro ρ hp hE hT
  have j0 : ρ 0 % 4 = 1 := pz_gj hE 0 (Nat.le_of_ble_eq_true rfl) rfl
  have j1 : ρ 1 % 4 = 1 := pz_gj hE 1 (Nat.le_of_ble_eq_true rfl) rfl
  have j2 : ρ 2 % 4 = 1 := pz_gj hE 2 (Nat.le_of_ble_eq_true rfl) rfl
  have j3 : ρ 3 % 4 = 1 := pz_gj hE 3 (Nat.le_of_ble_eq_true rfl) rfl
  obtain ⟨-, -, -, -, F50⟩ : ay_ex hp 8 ∧ ay_ex hp 10 ∧ ay_ex hp 11 ∧ ay_ex hp 12 ∧ pz_x50 (ρ 0) (ρ 1) (ay_at hp 8 5) (ay_at hp 8 6) (ay_at hp 8 7) (ay_at hp 8 8) (ay_at hp 10 0) (ay_at hp 10 1) (ay_at hp 10 2) (ay_at hp 10 3) (ay_at hp 10 4) (ay_at hp 8 9) (ay_at hp 8 11) (ay_at hp 8 10) (ay_at hp 8 3) (ay_at hp 8 4) (ay_at hp 11) (ay_at hp 12) := (ax_XF_lt (x := 50) (Nat.le_of_ble_eq_true rfl)).mp (ax_gx hE (50, [3, 7]) ax_m0)
  have F90 : (pz90 (pz_gt (ρ 0)) (pz_gN (ρ 0)) ((ρ 1) / 4) ((ρ 3) / 4) ∧ 1 ≤ (ρ 3) / 4) := (ax_XF_lt (x := 90) (Nat.le_of_ble_eq_true rfl)).mp (ax_gx hE (90, [3, 7, 15]) ax_m1)
  have F92 : pz_strip ((ρ 2) / 4) = (ρ 3) / 4 := (ax_XF_lt (x := 92) (Nat.le_of_ble_eq_true rfl)).mp (ax_gx hE (92, [11, 15]) ax_m2)
  have F92a : pz_strip ((ρ 2) / 4) = (ρ 2) / 4 := (ax_XF_lt (x := 92) (Nat.le_of_ble_eq_true rfl)).mp (ax_gx hE (92, [11, 11]) ax_m3)
  refine ⟨(fun y hy => by cases hy), _, List.mem_cons_self, ρ, fun _ _ => rfl, ax_px hE rfl (fun y hy => ?_)⟩
  cases List.mem_singleton.mp hy
  refine (ax_XF_lt (x := 90) (Nat.le_of_ble_eq_true rfl)).mpr ?_
  show (pz90 (pz_gt (ρ 0)) (pz_gN (ρ 0)) ((ρ 1) / 4) ((ρ 2) / 4) ∧ 1 ≤ (ρ 2) / 4)
  have e : ρ 3 / 4 = ρ 2 / 4 := by omega
  rw [← e]
  exact F90

theorem axq_rp5_4 : ax_RO ax_wC ax_XC axu_rp5_4 := by
  intro ρ hp hE hT
  have j0 : ρ 0 % 4 = 1 := pz_gj hE 0 (Nat.le_of_ble_eq_true rfl) rfl
  have j1 : ρ 1 % 4 = 1 := pz_gj hE 1 (Nat.le_of_ble_eq_true rfl) rfl
  have j2 : ρ 2 % 4 = 1 := pz_gj hE 2 (Nat.le_of_ble_eq_true rfl) rfl
  have j3 : ρ 3 % 4 = 1 := pz_gj hE 3 (Nat.le_of_ble_eq_true rfl) rfl
  have j4 : ρ 4 % 4 = 1 := pz_gj hE 4 (Nat.le_of_ble_eq_true rfl) rfl
  have o1 : ρ 2 < ρ 1 := pz_go hE 11 7 (by decide)
  have o2 : ρ 3 < ρ 2 := pz_go hE 15 11 (by decide)
  have o3 : ρ 4 < ρ 3 := pz_go hE 19 15 (by decide)
  obtain ⟨-, -, -, -, F50⟩ : ay_ex hp 8 ∧ ay_ex hp 10 ∧ ay_ex hp 11 ∧ ay_ex hp 12 ∧ pz_x50 (ρ 0) (ρ 1) (ay_at hp 8 5) (ay_at hp 8 6) (ay_at hp 8 7) (ay_at hp 8 8) (ay_at hp 10 0) (ay_at hp 10 1) (ay_at hp 10 2) (ay_at hp 10 3) (ay_at hp 10 4) (ay_at hp 8 9) (ay_at hp 8 11) (ay_at hp 8 10) (ay_at hp 8 3) (ay_at hp 8 4) (ay_at hp 11) (ay_at hp 12) := (ax_XF_lt (x := 50) (Nat.le_of_ble_eq_true rfl)).mp (ax_gx hE (50, [3, 7]) ax_m0)
  refine ⟨(fun y hy => by cases hy), _, List.mem_cons_self, ρ, fun _ _ => rfl, ax_px hE rfl (fun y hy => ?_)⟩
  rcases List.mem_cons.mp hy with e | hy
  · subst e
    refine (ax_XF_bi (o := 30) (by decide)).mpr (Or.inr ⟨rfl, ?_⟩)
    show ρ 4 < ρ 1
    omega
  cases List.mem_singleton.mp hy
  refine (ax_XF_bi (o := 30) (by decide)).mpr (Or.inr ⟨rfl, ?_⟩)
  show ρ 3 < ρ 1
  omega

theorem axq_rp6_4 : ax_RO ax_wC ax_XC axu_rp6_4 := by
  intro ρ hp hE hT
  have j0 : ρ 0 % 4 = 1 := pz_gj hE 0 (Nat.le_of_ble_eq_true rfl) rfl
  have j1 : ρ 1 % 4 = 1 := pz_gj hE 1 (Nat.le_of_ble_eq_true rfl) rfl
  have j2 : ρ 2 % 4 = 1 := pz_gj hE 2 (Nat.le_of_ble_eq_true rfl) rfl
  obtain ⟨i3a, i3b, i3c, i3d⟩ := pz_gi hE 3 2147483648 2147484447 (Nat.le_of_ble_eq_true rfl) rfl
  obtain ⟨i4a, i4b, i4c, i4d⟩ := pz_gi hE 4 0 4294967295 (Nat.le_of_ble_eq_true rfl) rfl
  have s1 : (ρ 3 / 4 + 2147483648) % 4294967296 + (4 / 4 + 2147483648) % 4294967296 = (ρ 4 / 4 + 2147483648) % 4294967296 + 2147483648 := pz_gs hE 15 4 19 ax_m1
  have o1 : ρ 2 < ρ 1 := pz_go hE 11 7 (by decide)
  obtain ⟨-, -, -, -, F50⟩ : ay_ex hp 8 ∧ ay_ex hp 10 ∧ ay_ex hp 11 ∧ ay_ex hp 12 ∧ pz_x50 (ρ 0) (ρ 1) (ay_at hp 8 5) (ay_at hp 8 6) (ay_at hp 8 7) (ay_at hp 8 8) (ay_at hp 10 0) (ay_at hp 10 1) (ay_at hp 10 2) (ay_at hp 10 3) (ay_at hp 10 4) (ay_at hp 8 9) (ay_at hp 8 11) (ay_at hp 8 10) (ay_at hp 8 3) (ay_at hp 8 4) (ay_at hp 11) (ay_at hp 12) := (ax_XF_lt (x := 50) (Nat.le_of_ble_eq_true rfl)).mp (ax_gx hE (50, [3, 7]) ax_m0)
  have F97 : (ρ 3) / 4 ≤ (ρ 2) / 4 := (ax_XF_lt (x := 97) (Nat.le_of_ble_eq_true rfl)).mp (ax_gx hE (97, [11, 15]) ax_m2)
  refine ⟨(fun y hy => by cases hy), _, List.mem_cons_self, ρ, fun _ _ => rfl, ax_px hE rfl (fun y hy => ?_)⟩
  cases List.mem_singleton.mp hy
  refine (ax_XF_lt (x := 97) (Nat.le_of_ble_eq_true rfl)).mpr ?_
  show (ρ 4) / 4 ≤ (ρ 1) / 4
  omega

theorem axq_rp7_4 : ax_RO ax_wC ax_XC axu_rp7_4 := by
  intro ρ hp hE hT
  have j0 : ρ 0 % 4 = 1 := pz_gj hE 0 (Nat.le_of_ble_eq_true rfl) rfl
  have j1 : ρ 1 % 4 = 1 := pz_gj hE 1 (Nat.le_of_ble_eq_true rfl) rfl
  obtain ⟨i2a, i2b, i2c, i2d⟩ := pz_gi hE 2 2147484448 2147484448 (Nat.le_of_ble_eq_true rfl) rfl
  obtain ⟨-, -, F30⟩ : ay_ex hp 8 ∧ ay_ex hp 9 ∧ pz_x30 (ρ 0) (ay_at hp 8 1) (ay_at hp 9) := (ax_XF_lt (x := 30) (Nat.le_of_ble_eq_true rfl)).mp (ax_gx hE (30, [3]) ax_m0)
  obtain ⟨-, -, -, -, F50⟩ : ay_ex hp 8 ∧ ay_ex hp 10 ∧ ay_ex hp 11 ∧ ay_ex hp 12 ∧ pz_x50 (ρ 0) (ρ 1) (ay_at hp 8 5) (ay_at hp 8 6) (ay_at hp 8 7) (ay_at hp 8 8) (ay_at hp 10 0) (ay_at hp 10 1) (ay_at hp 10 2) (ay_at hp 10 3) (ay_at hp 10 4) (ay_at hp 8 9) (ay_at hp 8 11) (ay_at hp 8 10) (ay_at hp 8 3) (ay_at hp 8 4) (ay_at hp 11) (ay_at hp 12) := (ax_XF_lt (x := 50) (Nat.le_of_ble_eq_true rfl)).mp (ax_gx hE (50, [3, 7]) ax_m1)
  have F79 : pz7 (pz_gt (ρ 0)) (pz_gN (ρ 0)) ((ρ 1) / 4) 9 := (ax_XF_lt (x := 79) (Nat.le_of_ble_eq_true rfl)).mp (ax_gx hE (79, [3, 7]) ax_m2)
  have F97 : (ρ 2) / 4 ≤ (ρ 1) / 4 := (ax_XF_lt (x := 97) (Nat.le_of_ble_eq_true rfl)).mp (ax_gx hE (97, [7, 11]) ax_m3)
  refine ⟨(fun y hy => by cases hy), _, List.mem_cons_self, ρ, fun _ _ => rfl, ax_px hE rfl (fun y hy => ?_)⟩
  cases List.mem_singleton.mp hy
  refine (ax_XF_lt (x := 95) (Nat.le_of_ble_eq_true rfl)).mpr ?_
  show pz95 (pz_gt (ρ 0)) (pz_gN (ρ 0)) ((ρ 1) / 4)
  have kd := pq_far (n := ρ 1 / 4) F79 (by decide) (show pz_gN (ρ 0) ≤ 800 from F30.2.1) (by omega)
  exact ⟨by omega, by omega, by omega⟩

theorem axq_rp8a_4 : ax_RO ax_wC ax_XC axu_rp8a_4 := by
  intro ρ hp hE hT
  have j0 : ρ 0 % 4 = 1 := pz_gj hE 0 (Nat.le_of_ble_eq_true rfl) rfl
  have j1 : ρ 1 % 4 = 1 := pz_gj hE 1 (Nat.le_of_ble_eq_true rfl) rfl
  obtain ⟨i2a, i2b, i2c, i2d⟩ := pz_gi hE 2 0 2147483684 (Nat.le_of_ble_eq_true rfl) rfl
  have c_kind : ay_at hp 8 7 = some (ρ 2) := ay_gfj hE 42 28 11 8 7 ax_m1 (ax_vlq rfl rfl) (ax_vlj rfl rfl)
  obtain ⟨-, -, -, -, F50⟩ : ay_ex hp 8 ∧ ay_ex hp 10 ∧ ay_ex hp 11 ∧ ay_ex hp 12 ∧ pz_x50 (ρ 0) (ρ 1) (ay_at hp 8 5) (ay_at hp 8 6) (ay_at hp 8 7) (ay_at hp 8 8) (ay_at hp 10 0) (ay_at hp 10 1) (ay_at hp 10 2) (ay_at hp 10 3) (ay_at hp 10 4) (ay_at hp 8 9) (ay_at hp 8 11) (ay_at hp 8 10) (ay_at hp 8 3) (ay_at hp 8 4) (ay_at hp 11) (ay_at hp 12) := (ax_XF_lt (x := 50) (Nat.le_of_ble_eq_true rfl)).mp (ax_gx hE (50, [3, 7]) ax_m0)
  rw [c_kind] at F50
  refine ⟨(fun y hy => by cases hy), _, List.mem_cons_self, ρ, fun _ _ => rfl, ax_px hE rfl (fun y hy => ?_)⟩
  cases List.mem_singleton.mp hy
  refine (ax_XF_lt (x := 95) (Nat.le_of_ble_eq_true rfl)).mpr ?_
  show pz95 (pz_gt (ρ 0)) (pz_gN (ρ 0)) ((ρ 1) / 4)
  have kd : ρ 2 / 4 = pz_kd (pz_gt (ρ 0)) (pz_gN (ρ 0)) (pz_p (pz_cf (pz_gt (ρ 0)) (pz_gN (ρ 0)) (ρ 1 / 4))) := F50.2.2.1
  exact ⟨by omega, by omega, by omega⟩

theorem axq_rp8b_4 : ax_RO ax_wC ax_XC axu_rp8b_4 := by
  intro ρ hp hE hT
  have j0 : ρ 0 % 4 = 1 := pz_gj hE 0 (Nat.le_of_ble_eq_true rfl) rfl
  have j1 : ρ 1 % 4 = 1 := pz_gj hE 1 (Nat.le_of_ble_eq_true rfl) rfl
  obtain ⟨i2a, i2b, i2c, i2d⟩ := pz_gi hE 2 2147483686 2147483689 (Nat.le_of_ble_eq_true rfl) rfl
  have c_kind : ay_at hp 8 7 = some (ρ 2) := ay_gfj hE 42 28 11 8 7 ax_m1 (ax_vlq rfl rfl) (ax_vlj rfl rfl)
  obtain ⟨-, -, -, -, F50⟩ : ay_ex hp 8 ∧ ay_ex hp 10 ∧ ay_ex hp 11 ∧ ay_ex hp 12 ∧ pz_x50 (ρ 0) (ρ 1) (ay_at hp 8 5) (ay_at hp 8 6) (ay_at hp 8 7) (ay_at hp 8 8) (ay_at hp 10 0) (ay_at hp 10 1) (ay_at hp 10 2) (ay_at hp 10 3) (ay_at hp 10 4) (ay_at hp 8 9) (ay_at hp 8 11) (ay_at hp 8 10) (ay_at hp 8 3) (ay_at hp 8 4) (ay_at hp 11) (ay_at hp 12) := (ax_XF_lt (x := 50) (Nat.le_of_ble_eq_true rfl)).mp (ax_gx hE (50, [3, 7]) ax_m0)
  rw [c_kind] at F50
  refine ⟨(fun y hy => by cases hy), _, List.mem_cons_self, ρ, fun _ _ => rfl, ax_px hE rfl (fun y hy => ?_)⟩
  cases List.mem_singleton.mp hy
  refine (ax_XF_lt (x := 95) (Nat.le_of_ble_eq_true rfl)).mpr ?_
  show pz95 (pz_gt (ρ 0)) (pz_gN (ρ 0)) ((ρ 1) / 4)
  have kd : ρ 2 / 4 = pz_kd (pz_gt (ρ 0)) (pz_gN (ρ 0)) (pz_p (pz_cf (pz_gt (ρ 0)) (pz_gN (ρ 0)) (ρ 1 / 4))) := F50.2.2.1
  exact ⟨by omega, by omega, by omega⟩

theorem axq_rp8c_4 : ax_RO ax_wC ax_XC axu_rp8c_4 := by
  intro ρ hp hE hT
  have j0 : ρ 0 % 4 = 1 := pz_gj hE 0 (Nat.le_of_ble_eq_true rfl) rfl
  have j1 : ρ 1 % 4 = 1 := pz_gj hE 1 (Nat.le_of_ble_eq_true rfl) rfl
  obtain ⟨i2a, i2b, i2c, i2d⟩ := pz_gi hE 2 2147483691 2147483694 (Nat.le_of_ble_eq_true rfl) rfl
  have c_kind : ay_at hp 8 7 = some (ρ 2) := ay_gfj hE 42 28 11 8 7 ax_m1 (ax_vlq rfl rfl) (ax_vlj rfl rfl)
  obtain ⟨-, -, -, -, F50⟩ : ay_ex hp 8 ∧ ay_ex hp 10 ∧ ay_ex hp 11 ∧ ay_ex hp 12 ∧ pz_x50 (ρ 0) (ρ 1) (ay_at hp 8 5) (ay_at hp 8 6) (ay_at hp 8 7) (ay_at hp 8 8) (ay_at hp 10 0) (ay_at hp 10 1) (ay_at hp 10 2) (ay_at hp 10 3) (ay_at hp 10 4) (ay_at hp 8 9) (ay_at hp 8 11) (ay_at hp 8 10) (ay_at hp 8 3) (ay_at hp 8 4) (ay_at hp 11) (ay_at hp 12) := (ax_XF_lt (x := 50) (Nat.le_of_ble_eq_true rfl)).mp (ax_gx hE (50, [3, 7]) ax_m0)
  rw [c_kind] at F50
  refine ⟨(fun y hy => by cases hy), _, List.mem_cons_self, ρ, fun _ _ => rfl, ax_px hE rfl (fun y hy => ?_)⟩
  cases List.mem_singleton.mp hy
  refine (ax_XF_lt (x := 95) (Nat.le_of_ble_eq_true rfl)).mpr ?_
  show pz95 (pz_gt (ρ 0)) (pz_gN (ρ 0)) ((ρ 1) / 4)
  have kd : ρ 2 / 4 = pz_kd (pz_gt (ρ 0)) (pz_gN (ρ 0)) (pz_p (pz_cf (pz_gt (ρ 0)) (pz_gN (ρ 0)) (ρ 1 / 4))) := F50.2.2.1
  exact ⟨by omega, by omega, by omega⟩

theorem axq_rp8d_4 : ax_RO ax_wC ax_XC axu_rp8d_4 := by
  intro ρ hp hE hT
  have j0 : ρ 0 % 4 = 1 := pz_gj hE 0 (Nat.le_of_ble_eq_true rfl) rfl
  have j1 : ρ 1 % 4 = 1 := pz_gj hE 1 (Nat.le_of_ble_eq_true rfl) rfl
  obtain ⟨i2a, i2b, i2c, i2d⟩ := pz_gi hE 2 2147483696 4294967295 (Nat.le_of_ble_eq_true rfl) rfl
  have c_kind : ay_at hp 8 7 = some (ρ 2) := ay_gfj hE 42 28 11 8 7 ax_m1 (ax_vlq rfl rfl) (ax_vlj rfl rfl)
  obtain ⟨-, -, -, -, F50⟩ : ay_ex hp 8 ∧ ay_ex hp 10 ∧ ay_ex hp 11 ∧ ay_ex hp 12 ∧ pz_x50 (ρ 0) (ρ 1) (ay_at hp 8 5) (ay_at hp 8 6) (ay_at hp 8 7) (ay_at hp 8 8) (ay_at hp 10 0) (ay_at hp 10 1) (ay_at hp 10 2) (ay_at hp 10 3) (ay_at hp 10 4) (ay_at hp 8 9) (ay_at hp 8 11) (ay_at hp 8 10) (ay_at hp 8 3) (ay_at hp 8 4) (ay_at hp 11) (ay_at hp 12) := (ax_XF_lt (x := 50) (Nat.le_of_ble_eq_true rfl)).mp (ax_gx hE (50, [3, 7]) ax_m0)
  rw [c_kind] at F50
  refine ⟨(fun y hy => by cases hy), _, List.mem_cons_self, ρ, fun _ _ => rfl, ax_px hE rfl (fun y hy => ?_)⟩
  cases List.mem_singleton.mp hy
  refine (ax_XF_lt (x := 95) (Nat.le_of_ble_eq_true rfl)).mpr ?_
  show pz95 (pz_gt (ρ 0)) (pz_gN (ρ 0)) ((ρ 1) / 4)
  have kd : ρ 2 / 4 = pz_kd (pz_gt (ρ 0)) (pz_gN (ρ 0)) (pz_p (pz_cf (pz_gt (ρ 0)) (pz_gN (ρ 0)) (ρ 1 / 4))) := F50.2.2.1
  exact ⟨by omega, by omega, by omega⟩

theorem axq_rp1_5 : ax_RO ax_wC ax_XC axu_rp1_5 := by
  intro ρ hp hE hT
  have j0 : ρ 0 % 4 = 1 := pz_gj hE 0 (Nat.le_of_ble_eq_true rfl) rfl
  have j1 : ρ 1 % 4 = 1 := pz_gj hE 1 (Nat.le_of_ble_eq_true rfl) rfl
  have j2 : ρ 2 % 4 = 1 := pz_gj hE 2 (Nat.le_of_ble_eq_true rfl) rfl
  have j3 : ρ 3 % 4 = 1 := pz_gj hE 3 (Nat.le_of_ble_eq_true rfl) rfl
  obtain ⟨-, -, -, -, F50⟩ : ay_ex hp 8 ∧ ay_ex hp 10 ∧ ay_ex hp 11 ∧ ay_ex hp 12 ∧ pz_x50 (ρ 0) (ρ 1) (ay_at hp 8 5) (ay_at hp 8 6) (ay_at hp 8 7) (ay_at hp 8 8) (ay_at hp 10 0) (ay_at hp 10 1) (ay_at hp 10 2) (ay_at hp 10 3) (ay_at hp 10 4) (ay_at hp 8 9) (ay_at hp 8 11) (ay_at hp 8 10) (ay_at hp 8 3) (ay_at hp 8 4) (ay_at hp 11) (ay_at hp 12) := (ax_XF_lt (x := 50) (Nat.le_of_ble_eq_true rfl)).mp (ax_gx hE (50, [3, 7]) ax_m0)
  have F90 : (pz90 (pz_gt (ρ 0)) (pz_gN (ρ 0)) ((ρ 1) / 4) ((ρ 3) / 4) ∧ 1 ≤ (ρ 3) / 4) := (ax_XF_lt (x := 90) (Nat.le_of_ble_eq_true rfl)).mp (ax_gx hE (90, [3, 7, 15]) ax_m1)
  have F92 : pz_strip ((ρ 2) / 4) = (ρ 3) / 4 := (ax_XF_lt (x := 92) (Nat.le_of_ble_eq_true rfl)).mp (ax_gx hE (92, [11, 15]) ax_m2)
  have F92a : pz_strip ((ρ 2) / 4) = (ρ 2) / 4 := (ax_XF_lt (x := 92) (Nat.le_of_ble_eq_true rfl)).mp (ax_gx hE (92, [11, 11]) ax_m3)
  refine ⟨(fun y hy => by cases hy), _, List.mem_cons_self, ρ, fun _ _ => rfl, ax_px hE rfl (fun y hy => ?_)⟩
  cases List.mem_singleton.mp hy
  refine (ax_XF_lt (x := 90) (Nat.le_of_ble_eq_true rfl)).mpr ?_
  show (pz90 (pz_gt (ρ 0)) (pz_gN (ρ 0)) ((ρ 1) / 4) ((ρ 2) / 4) ∧ 1 ≤ (ρ 2) / 4)
  have e : ρ 3 / 4 = ρ 2 / 4 := by omega
  rw [← e]
  exact F90

theorem axq_rp2_5 : ax_RO ax_wC ax_XC axu_rp2_5 := by
  intro ρ hp hE hT
  have j0 : ρ 0 % 4 = 1 := pz_gj hE 0 (Nat.le_of_ble_eq_true rfl) rfl
  have j1 : ρ 1 % 4 = 1 := pz_gj hE 1 (Nat.le_of_ble_eq_true rfl) rfl
  obtain ⟨-, -, -, -, F50⟩ : ay_ex hp 8 ∧ ay_ex hp 10 ∧ ay_ex hp 11 ∧ ay_ex hp 12 ∧ pz_x50 (ρ 0) (ρ 1) (ay_at hp 8 5) (ay_at hp 8 6) (ay_at hp 8 7) (ay_at hp 8 8) (ay_at hp 10 0) (ay_at hp 10 1) (ay_at hp 10 2) (ay_at hp 10 3) (ay_at hp 10 4) (ay_at hp 8 9) (ay_at hp 8 11) (ay_at hp 8 10) (ay_at hp 8 3) (ay_at hp 8 4) (ay_at hp 11) (ay_at hp 12) := (ax_XF_lt (x := 50) (Nat.le_of_ble_eq_true rfl)).mp (ax_gx hE (50, [3, 7]) ax_m0)
  refine ⟨(fun y hy => by cases hy), _, List.mem_cons_self, ρ, fun _ _ => rfl, ax_px hE rfl (fun y hy => ?_)⟩
  cases List.mem_singleton.mp hy
  refine (ax_XF_lt (x := 97) (Nat.le_of_ble_eq_true rfl)).mpr ?_
  show (0) / 4 ≤ (ρ 1) / 4
  exact Nat.zero_le _

theorem axq_rp3c42_5 : ax_RO ax_wC ax_XC axu_rp3c42_5 := by
  intro ρ hp hE hT
  have j0 : ρ 0 % 4 = 1 := pz_gj hE 0 (Nat.le_of_ble_eq_true rfl) rfl
  have j1 : ρ 1 % 4 = 1 := pz_gj hE 1 (Nat.le_of_ble_eq_true rfl) rfl
  have j2 : ρ 2 % 4 = 1 := pz_gj hE 2 (Nat.le_of_ble_eq_true rfl) rfl
  obtain ⟨i3a, i3b, i3c, i3d⟩ := pz_gi hE 3 2147483690 2147483690 (Nat.le_of_ble_eq_true rfl) rfl
  have j4 : ρ 4 % 4 = 1 := pz_gj hE 4 (Nat.le_of_ble_eq_true rfl) rfl
  have c_kind : ay_at hp 8 7 = some (ρ 3) := ay_gfj hE 42 28 15 8 7 ax_m3 (ax_vlq rfl rfl) (ax_vlj rfl rfl)
  have o1 : ρ 4 < ρ 1 := pz_go hE 19 7 (by decide)
  obtain ⟨-, -, -, -, F50⟩ : ay_ex hp 8 ∧ ay_ex hp 10 ∧ ay_ex hp 11 ∧ ay_ex hp 12 ∧ pz_x50 (ρ 0) (ρ 1) (ay_at hp 8 5) (ay_at hp 8 6) (ay_at hp 8 7) (ay_at hp 8 8) (ay_at hp 10 0) (ay_at hp 10 1) (ay_at hp 10 2) (ay_at hp 10 3) (ay_at hp 10 4) (ay_at hp 8 9) (ay_at hp 8 11) (ay_at hp 8 10) (ay_at hp 8 3) (ay_at hp 8 4) (ay_at hp 11) (ay_at hp 12) := (ax_XF_lt (x := 50) (Nat.le_of_ble_eq_true rfl)).mp (ax_gx hE (50, [3, 7]) ax_m0)
  rw [c_kind] at F50
  have F79 : pz7 (pz_gt (ρ 0)) (pz_gN (ρ 0)) ((ρ 1) / 4) 9 := (ax_XF_lt (x := 79) (Nat.le_of_ble_eq_true rfl)).mp (ax_gx hE (79, [3, 7]) ax_m1)
  have F90 : (pz90 (pz_gt (ρ 0)) (pz_gN (ρ 0)) ((ρ 1) / 4) ((ρ 2) / 4) ∧ 1 ≤ (ρ 2) / 4) := (ax_XF_lt (x := 90) (Nat.le_of_ble_eq_true rfl)).mp (ax_gx hE (90, [3, 7, 11]) ax_m2)
  have st := pq_op F50 F79 F90.1 (show pz_op (ρ 3 / 4) = true by rw [show ρ 3 / 4 = 42 by omega]; rfl)
  obtain ⟨ρ', h1, h2⟩ := pz_pn1 (K := ρ 1 / 4 + 1) (xf := [(53, [3, 23]), (78, [3, 23]), (90, [3, 23, 11]), (1030, [7, 23]), (98, [7, 23]), (1030, [19, 23])]) hE (by decide) (fun ρ' h1 h2 x hx => by
    have q0 : ρ' 0 = ρ 0 := h1 0 (by decide)
    have q1 : ρ' 1 = ρ 1 := h1 1 (by decide)
    have q2 : ρ' 2 = ρ 2 := h1 2 (by decide)
    have q3 : ρ' 3 = ρ 3 := h1 3 (by decide)
    have q4 : ρ' 4 = ρ 4 := h1 4 (by decide)
    rcases List.mem_cons.mp hx with e | hx
    · subst e
      refine (ax_XF_lt (x := 53) (Nat.le_of_ble_eq_true rfl)).mpr ?_
      show ay_ex hp 8 ∧ ay_ex hp 10 ∧ ay_ex hp 11 ∧ ay_ex hp 12 ∧ pz_x53 (ρ' 0) (ρ' 5) (ay_at hp 8 5) (ay_at hp 10 0) (ay_at hp 10 1) (ay_at hp 10 2) (ay_at hp 10 3) (ay_at hp 10 4) (ay_at hp 8 9) (ay_at hp 8 11) (ay_at hp 8 10) (ay_at hp 8 3) (ay_at hp 8 4) (ay_at hp 11) (ay_at hp 12)
      rw [q0, h2]
      exact ⟨(ax_cellT hT (q := 8) (g := 2) rfl), (ax_cellT hT (q := 10) (g := 1) rfl), (ax_cellT hT (q := 11) (g := 14) rfl), (ax_cellT hT (q := 12) (g := 15) rfl), pz_53 (pz_41 _) rfl st.1⟩
    rcases List.mem_cons.mp hx with e | hx
    · subst e
      refine (ax_XF_lt (x := 78) (Nat.le_of_ble_eq_true rfl)).mpr ?_
      show pz7 (pz_gt (ρ' 0)) (pz_gN (ρ' 0)) ((ρ' 5) / 4) 8
      rw [q0, h2]
      rw [pz_41]
      exact st.2.1
    rcases List.mem_cons.mp hx with e | hx
    · subst e
      refine (ax_XF_lt (x := 90) (Nat.le_of_ble_eq_true rfl)).mpr ?_
      show (pz90 (pz_gt (ρ' 0)) (pz_gN (ρ' 0)) ((ρ' 5) / 4) ((ρ' 2) / 4) ∧ 1 ≤ (ρ' 2) / 4)
      rw [q0, q2, h2]
      rw [pz_41]
      exact ⟨st.2.2, F90.2⟩
    rcases List.mem_cons.mp hx with e | hx
    · subst e
      refine (ax_XF_bi (o := 30) (by decide)).mpr (Or.inr ⟨rfl, ?_⟩)
      show ρ' 1 < ρ' 5
      rw [q1, h2]
      omega
    rcases List.mem_cons.mp hx with e | hx
    · subst e
      refine (ax_XF_lt (x := 98) (Nat.le_of_ble_eq_true rfl)).mpr ?_
      show (ρ' 5) / 4 = (ρ' 1) / 4 + 1
      rw [q1, h2]
      rw [pz_41]
    cases List.mem_singleton.mp hx
    refine (ax_XF_bi (o := 30) (by decide)).mpr (Or.inr ⟨rfl, ?_⟩)
    show ρ' 4 < ρ' 5
    rw [q4, h2]
    omega)
  exact ⟨(fun y hy => by cases hy), _, List.mem_cons_self, ρ', h1, h2⟩

theorem axq_rp3c47_5 : ax_RO ax_wC ax_XC axu_rp3c47_5 := by
  intro ρ hp hE hT
  have j0 : ρ 0 % 4 = 1 := pz_gj hE 0 (Nat.le_of_ble_eq_true rfl) rfl
  have j1 : ρ 1 % 4 = 1 := pz_gj hE 1 (Nat.le_of_ble_eq_true rfl) rfl
  have j2 : ρ 2 % 4 = 1 := pz_gj hE 2 (Nat.le_of_ble_eq_true rfl) rfl
  obtain ⟨i3a, i3b, i3c, i3d⟩ := pz_gi hE 3 2147483695 2147483695 (Nat.le_of_ble_eq_true rfl) rfl
  have j4 : ρ 4 % 4 = 1 := pz_gj hE 4 (Nat.le_of_ble_eq_true rfl) rfl
  have c_kind : ay_at hp 8 7 = some (ρ 3) := ay_gfj hE 42 28 15 8 7 ax_m3 (ax_vlq rfl rfl) (ax_vlj rfl rfl)
  have o1 : ρ 4 < ρ 1 := pz_go hE 19 7 (by decide)
  obtain ⟨-, -, -, -, F50⟩ : ay_ex hp 8 ∧ ay_ex hp 10 ∧ ay_ex hp 11 ∧ ay_ex hp 12 ∧ pz_x50 (ρ 0) (ρ 1) (ay_at hp 8 5) (ay_at hp 8 6) (ay_at hp 8 7) (ay_at hp 8 8) (ay_at hp 10 0) (ay_at hp 10 1) (ay_at hp 10 2) (ay_at hp 10 3) (ay_at hp 10 4) (ay_at hp 8 9) (ay_at hp 8 11) (ay_at hp 8 10) (ay_at hp 8 3) (ay_at hp 8 4) (ay_at hp 11) (ay_at hp 12) := (ax_XF_lt (x := 50) (Nat.le_of_ble_eq_true rfl)).mp (ax_gx hE (50, [3, 7]) ax_m0)
  rw [c_kind] at F50
  have F79 : pz7 (pz_gt (ρ 0)) (pz_gN (ρ 0)) ((ρ 1) / 4) 9 := (ax_XF_lt (x := 79) (Nat.le_of_ble_eq_true rfl)).mp (ax_gx hE (79, [3, 7]) ax_m1)
  have F90 : (pz90 (pz_gt (ρ 0)) (pz_gN (ρ 0)) ((ρ 1) / 4) ((ρ 2) / 4) ∧ 1 ≤ (ρ 2) / 4) := (ax_XF_lt (x := 90) (Nat.le_of_ble_eq_true rfl)).mp (ax_gx hE (90, [3, 7, 11]) ax_m2)
  have st := pq_op F50 F79 F90.1 (show pz_op (ρ 3 / 4) = true by rw [show ρ 3 / 4 = 47 by omega]; rfl)
  obtain ⟨ρ', h1, h2⟩ := pz_pn1 (K := ρ 1 / 4 + 1) (xf := [(53, [3, 23]), (78, [3, 23]), (90, [3, 23, 11]), (1030, [7, 23]), (98, [7, 23]), (1030, [19, 23])]) hE (by decide) (fun ρ' h1 h2 x hx => by
    have q0 : ρ' 0 = ρ 0 := h1 0 (by decide)
    have q1 : ρ' 1 = ρ 1 := h1 1 (by decide)
    have q2 : ρ' 2 = ρ 2 := h1 2 (by decide)
    have q3 : ρ' 3 = ρ 3 := h1 3 (by decide)
    have q4 : ρ' 4 = ρ 4 := h1 4 (by decide)
    rcases List.mem_cons.mp hx with e | hx
    · subst e
      refine (ax_XF_lt (x := 53) (Nat.le_of_ble_eq_true rfl)).mpr ?_
      show ay_ex hp 8 ∧ ay_ex hp 10 ∧ ay_ex hp 11 ∧ ay_ex hp 12 ∧ pz_x53 (ρ' 0) (ρ' 5) (ay_at hp 8 5) (ay_at hp 10 0) (ay_at hp 10 1) (ay_at hp 10 2) (ay_at hp 10 3) (ay_at hp 10 4) (ay_at hp 8 9) (ay_at hp 8 11) (ay_at hp 8 10) (ay_at hp 8 3) (ay_at hp 8 4) (ay_at hp 11) (ay_at hp 12)
      rw [q0, h2]
      exact ⟨(ax_cellT hT (q := 8) (g := 2) rfl), (ax_cellT hT (q := 10) (g := 1) rfl), (ax_cellT hT (q := 11) (g := 14) rfl), (ax_cellT hT (q := 12) (g := 15) rfl), pz_53 (pz_41 _) rfl st.1⟩
    rcases List.mem_cons.mp hx with e | hx
    · subst e
      refine (ax_XF_lt (x := 78) (Nat.le_of_ble_eq_true rfl)).mpr ?_
      show pz7 (pz_gt (ρ' 0)) (pz_gN (ρ' 0)) ((ρ' 5) / 4) 8
      rw [q0, h2]
      rw [pz_41]
      exact st.2.1
    rcases List.mem_cons.mp hx with e | hx
    · subst e
      refine (ax_XF_lt (x := 90) (Nat.le_of_ble_eq_true rfl)).mpr ?_
      show (pz90 (pz_gt (ρ' 0)) (pz_gN (ρ' 0)) ((ρ' 5) / 4) ((ρ' 2) / 4) ∧ 1 ≤ (ρ' 2) / 4)
      rw [q0, q2, h2]
      rw [pz_41]
      exact ⟨st.2.2, F90.2⟩
    rcases List.mem_cons.mp hx with e | hx
    · subst e
      refine (ax_XF_bi (o := 30) (by decide)).mpr (Or.inr ⟨rfl, ?_⟩)
      show ρ' 1 < ρ' 5
      rw [q1, h2]
      omega
    rcases List.mem_cons.mp hx with e | hx
    · subst e
      refine (ax_XF_lt (x := 98) (Nat.le_of_ble_eq_true rfl)).mpr ?_
      show (ρ' 5) / 4 = (ρ' 1) / 4 + 1
      rw [q1, h2]
      rw [pz_41]
    cases List.mem_singleton.mp hx
    refine (ax_XF_bi (o := 30) (by decide)).mpr (Or.inr ⟨rfl, ?_⟩)
    show ρ' 4 < ρ' 5
    rw [q4, h2]
    omega)
  exact ⟨(fun y hy => by cases hy), _, List.mem_cons_self, ρ', h1, h2⟩

theorem axq_rp3c37_5 : ax_RO ax_wC ax_XC axu_rp3c37_5 := by
  intro ρ hp hE hT
  have j0 : ρ 0 % 4 = 1 := pz_gj hE 0 (Nat.le_of_ble_eq_true rfl) rfl
  have j1 : ρ 1 % 4 = 1 := pz_gj hE 1 (Nat.le_of_ble_eq_true rfl) rfl
  have j2 : ρ 2 % 4 = 1 := pz_gj hE 2 (Nat.le_of_ble_eq_true rfl) rfl
  obtain ⟨i3a, i3b, i3c, i3d⟩ := pz_gi hE 3 2147483685 2147483685 (Nat.le_of_ble_eq_true rfl) rfl
  have j4 : ρ 4 % 4 = 1 := pz_gj hE 4 (Nat.le_of_ble_eq_true rfl) rfl
  have c_kind : ay_at hp 8 7 = some (ρ 3) := ay_gfj hE 42 28 15 8 7 ax_m3 (ax_vlq rfl rfl) (ax_vlj rfl rfl)
  have o1 : ρ 4 < ρ 1 := pz_go hE 19 7 (by decide)
  obtain ⟨-, -, -, -, F50⟩ : ay_ex hp 8 ∧ ay_ex hp 10 ∧ ay_ex hp 11 ∧ ay_ex hp 12 ∧ pz_x50 (ρ 0) (ρ 1) (ay_at hp 8 5) (ay_at hp 8 6) (ay_at hp 8 7) (ay_at hp 8 8) (ay_at hp 10 0) (ay_at hp 10 1) (ay_at hp 10 2) (ay_at hp 10 3) (ay_at hp 10 4) (ay_at hp 8 9) (ay_at hp 8 11) (ay_at hp 8 10) (ay_at hp 8 3) (ay_at hp 8 4) (ay_at hp 11) (ay_at hp 12) := (ax_XF_lt (x := 50) (Nat.le_of_ble_eq_true rfl)).mp (ax_gx hE (50, [3, 7]) ax_m0)
  rw [c_kind] at F50
  have F79 : pz7 (pz_gt (ρ 0)) (pz_gN (ρ 0)) ((ρ 1) / 4) 9 := (ax_XF_lt (x := 79) (Nat.le_of_ble_eq_true rfl)).mp (ax_gx hE (79, [3, 7]) ax_m1)
  have F90 : (pz90 (pz_gt (ρ 0)) (pz_gN (ρ 0)) ((ρ 1) / 4) ((ρ 2) / 4) ∧ 1 ≤ (ρ 2) / 4) := (ax_XF_lt (x := 90) (Nat.le_of_ble_eq_true rfl)).mp (ax_gx hE (90, [3, 7, 11]) ax_m2)
  have st := pq_op F50 F79 F90.1 (show pz_op (ρ 3 / 4) = true by rw [show ρ 3 / 4 = 37 by omega]; rfl)
  obtain ⟨ρ', h1, h2⟩ := pz_pn1 (K := ρ 1 / 4 + 1) (xf := [(53, [3, 23]), (78, [3, 23]), (90, [3, 23, 11]), (1030, [7, 23]), (98, [7, 23]), (1030, [19, 23])]) hE (by decide) (fun ρ' h1 h2 x hx => by
    have q0 : ρ' 0 = ρ 0 := h1 0 (by decide)
    have q1 : ρ' 1 = ρ 1 := h1 1 (by decide)
    have q2 : ρ' 2 = ρ 2 := h1 2 (by decide)
    have q3 : ρ' 3 = ρ 3 := h1 3 (by decide)
    have q4 : ρ' 4 = ρ 4 := h1 4 (by decide)
    rcases List.mem_cons.mp hx with e | hx
    · subst e
      refine (ax_XF_lt (x := 53) (Nat.le_of_ble_eq_true rfl)).mpr ?_
      show ay_ex hp 8 ∧ ay_ex hp 10 ∧ ay_ex hp 11 ∧ ay_ex hp 12 ∧ pz_x53 (ρ' 0) (ρ' 5) (ay_at hp 8 5) (ay_at hp 10 0) (ay_at hp 10 1) (ay_at hp 10 2) (ay_at hp 10 3) (ay_at hp 10 4) (ay_at hp 8 9) (ay_at hp 8 11) (ay_at hp 8 10) (ay_at hp 8 3) (ay_at hp 8 4) (ay_at hp 11) (ay_at hp 12)
      rw [q0, h2]
      exact ⟨(ax_cellT hT (q := 8) (g := 2) rfl), (ax_cellT hT (q := 10) (g := 1) rfl), (ax_cellT hT (q := 11) (g := 14) rfl), (ax_cellT hT (q := 12) (g := 15) rfl), pz_53 (pz_41 _) rfl st.1⟩
    rcases List.mem_cons.mp hx with e | hx
    · subst e
      refine (ax_XF_lt (x := 78) (Nat.le_of_ble_eq_true rfl)).mpr ?_
      show pz7 (pz_gt (ρ' 0)) (pz_gN (ρ' 0)) ((ρ' 5) / 4) 8
      rw [q0, h2]
      rw [pz_41]
      exact st.2.1
    rcases List.mem_cons.mp hx with e | hx
    · subst e
      refine (ax_XF_lt (x := 90) (Nat.le_of_ble_eq_true rfl)).mpr ?_
      show (pz90 (pz_gt (ρ' 0)) (pz_gN (ρ' 0)) ((ρ' 5) / 4) ((ρ' 2) / 4) ∧ 1 ≤ (ρ' 2) / 4)
      rw [q0, q2, h2]
      rw [pz_41]
      exact ⟨st.2.2, F90.2⟩
    rcases List.mem_cons.mp hx with e | hx
    · subst e
      refine (ax_XF_bi (o := 30) (by decide)).mpr (Or.inr ⟨rfl, ?_⟩)
      show ρ' 1 < ρ' 5
      rw [q1, h2]
      omega
    rcases List.mem_cons.mp hx with e | hx
    · subst e
      refine (ax_XF_lt (x := 98) (Nat.le_of_ble_eq_true rfl)).mpr ?_
      show (ρ' 5) / 4 = (ρ' 1) / 4 + 1
      rw [q1, h2]
      rw [pz_41]
    cases List.mem_singleton.mp hx
    refine (ax_XF_bi (o := 30) (by decide)).mpr (Or.inr ⟨rfl, ?_⟩)
    show ρ' 4 < ρ' 5
    rw [q4, h2]
    omega)
  exact ⟨(fun y hy => by cases hy), _, List.mem_cons_self, ρ', h1, h2⟩

theorem axq_rp4_5 : ax_RO ax_wC ax_XC axu_rp4_5 := by
  intro ρ hp hE hT
  have j0 : ρ 0 % 4 = 1 := pz_gj hE 0 (Nat.le_of_ble_eq_true rfl) rfl
  have j1 : ρ 1 % 4 = 1 := pz_gj hE 1 (Nat.le_of_ble_eq_true rfl) rfl
  have j2 : ρ 2 % 4 = 1 := pz_gj hE 2 (Nat.le_of_ble_eq_true rfl) rfl
  have j3 : ρ 3 % 4 = 1 := pz_gj hE 3 (Nat.le_of_ble_eq_true rfl) rfl
  obtain ⟨-, -, -, -, F50⟩ : ay_ex hp 8 ∧ ay_ex hp 10 ∧ ay_ex hp 11 ∧ ay_ex hp 12 ∧ pz_x50 (ρ 0) (ρ 1) (ay_at hp 8 5) (ay_at hp 8 6) (ay_at hp 8 7) (ay_at hp 8 8) (ay_at hp 10 0) (ay_at hp 10 1) (ay_at hp 10 2) (ay_at hp 10 3) (ay_at hp 10 4) (ay_at hp 8 9) (ay_at hp 8 11) (ay_at hp 8 10) (ay_at hp 8 3) (ay_at hp 8 4) (ay_at hp 11) (ay_at hp 12) := (ax_XF_lt (x := 50) (Nat.le_of_ble_eq_true rfl)).mp (ax_gx hE (50, [3, 7]) ax_m0)
  have F90 : (pz90 (pz_gt (ρ 0)) (pz_gN (ρ 0)) ((ρ 1) / 4) ((ρ 3) / 4) ∧ 1 ≤ (ρ 3) / 4) := (ax_XF_lt (x := 90) (Nat.le_of_ble_eq_true rfl)).mp (ax_gx hE (90, [3, 7, 15]) ax_m1)
  have F92 : pz_strip ((ρ 2) / 4) = (ρ 3) / 4 := (ax_XF_lt (x := 92) (Nat.le_of_ble_eq_true rfl)).mp (ax_gx hE (92, [11, 15]) ax_m2)
  have F92a : pz_strip ((ρ 2) / 4) = (ρ 2) / 4 := (ax_XF_lt (x := 92) (Nat.le_of_ble_eq_true rfl)).mp (ax_gx hE (92, [11, 11]) ax_m3)
  refine ⟨(fun y hy => by cases hy), _, List.mem_cons_self, ρ, fun _ _ => rfl, ax_px hE rfl (fun y hy => ?_)⟩
  cases List.mem_singleton.mp hy
  refine (ax_XF_lt (x := 90) (Nat.le_of_ble_eq_true rfl)).mpr ?_
  show (pz90 (pz_gt (ρ 0)) (pz_gN (ρ 0)) ((ρ 1) / 4) ((ρ 2) / 4) ∧ 1 ≤ (ρ 2) / 4)
  have e : ρ 3 / 4 = ρ 2 / 4 := by omega
  rw [← e]
  exact F90

theorem axq_rp5_5 : ax_RO ax_wC ax_XC axu_rp5_5 := by
  intro ρ hp hE hT
  have j0 : ρ 0 % 4 = 1 := pz_gj hE 0 (Nat.le_of_ble_eq_true rfl) rfl
  have j1 : ρ 1 % 4 = 1 := pz_gj hE 1 (Nat.le_of_ble_eq_true rfl) rfl
  have j2 : ρ 2 % 4 = 1 := pz_gj hE 2 (Nat.le_of_ble_eq_true rfl) rfl
  have j3 : ρ 3 % 4 = 1 := pz_gj hE 3 (Nat.le_of_ble_eq_true rfl) rfl
  have j4 : ρ 4 % 4 = 1 := pz_gj hE 4 (Nat.le_of_ble_eq_true rfl) rfl
  have o1 : ρ 2 < ρ 1 := pz_go hE 11 7 (by decide)
  have o2 : ρ 3 < ρ 2 := pz_go hE 15 11 (by decide)
  have o3 : ρ 4 < ρ 3 := pz_go hE 19 15 (by decide)
  obtain ⟨-, -, -, -, F50⟩ : ay_ex hp 8 ∧ ay_ex hp 10 ∧ ay_ex hp 11 ∧ ay_ex hp 12 ∧ pz_x50 (ρ 0) (ρ 1) (ay_at hp 8 5) (ay_at hp 8 6) (ay_at hp 8 7) (ay_at hp 8 8) (ay_at hp 10 0) (ay_at hp 10 1) (ay_at hp 10 2) (ay_at hp 10 3) (ay_at hp 10 4) (ay_at hp 8 9) (ay_at hp 8 11) (ay_at hp 8 10) (ay_at hp 8 3) (ay_at hp 8 4) (ay_at hp 11) (ay_at hp 12) := (ax_XF_lt (x := 50) (Nat.le_of_ble_eq_true rfl)).mp (ax_gx hE (50, [3, 7]) ax_m0)
  refine ⟨(fun y hy => by cases hy), _, List.mem_cons_self, ρ, fun _ _ => rfl, ax_px hE rfl (fun y hy => ?_)⟩
  rcases List.mem_cons.mp hy with e | hy
  · subst e
    refine (ax_XF_bi (o := 30) (by decide)).mpr (Or.inr ⟨rfl, ?_⟩)
    show ρ 4 < ρ 1
    omega
  cases List.mem_singleton.mp hy
  refine (ax_XF_bi (o := 30) (by decide)).mpr (Or.inr ⟨rfl, ?_⟩)
  show ρ 3 < ρ 1
  omega

theorem axq_rp6_5 : ax_RO ax_wC ax_XC axu_rp6_5 := by
  intro ρ hp hE hT
  have j0 : ρ 0 % 4 = 1 := pz_gj hE 0 (Nat.le_of_ble_eq_true rfl) rfl
  have j1 : ρ 1 % 4 = 1 := pz_gj hE 1 (Nat.le_of_ble_eq_true rfl) rfl
  have j2 : ρ 2 % 4 = 1 := pz_gj hE 2 (Nat.le_of_ble_eq_true rfl) rfl
  obtain ⟨i3a, i3b, i3c, i3d⟩ := pz_gi hE 3 2147483648 2147484447 (Nat.le_of_ble_eq_true rfl) rfl
  obtain ⟨i4a, i4b, i4c, i4d⟩ := pz_gi hE 4 0 4294967295 (Nat.le_of_ble_eq_true rfl) rfl
  have s1 : (ρ 3 / 4 + 2147483648) % 4294967296 + (4 / 4 + 2147483648) % 4294967296 = (ρ 4 / 4 + 2147483648) % 4294967296 + 2147483648 := pz_gs hE 15 4 19 ax_m1
  have o1 : ρ 2 < ρ 1 := pz_go hE 11 7 (by decide)
  obtain ⟨-, -, -, -, F50⟩ : ay_ex hp 8 ∧ ay_ex hp 10 ∧ ay_ex hp 11 ∧ ay_ex hp 12 ∧ pz_x50 (ρ 0) (ρ 1) (ay_at hp 8 5) (ay_at hp 8 6) (ay_at hp 8 7) (ay_at hp 8 8) (ay_at hp 10 0) (ay_at hp 10 1) (ay_at hp 10 2) (ay_at hp 10 3) (ay_at hp 10 4) (ay_at hp 8 9) (ay_at hp 8 11) (ay_at hp 8 10) (ay_at hp 8 3) (ay_at hp 8 4) (ay_at hp 11) (ay_at hp 12) := (ax_XF_lt (x := 50) (Nat.le_of_ble_eq_true rfl)).mp (ax_gx hE (50, [3, 7]) ax_m0)
  have F97 : (ρ 3) / 4 ≤ (ρ 2) / 4 := (ax_XF_lt (x := 97) (Nat.le_of_ble_eq_true rfl)).mp (ax_gx hE (97, [11, 15]) ax_m2)
  refine ⟨(fun y hy => by cases hy), _, List.mem_cons_self, ρ, fun _ _ => rfl, ax_px hE rfl (fun y hy => ?_)⟩
  cases List.mem_singleton.mp hy
  refine (ax_XF_lt (x := 97) (Nat.le_of_ble_eq_true rfl)).mpr ?_
  show (ρ 4) / 4 ≤ (ρ 1) / 4
  omega

theorem axq_rp7_5 : ax_RO ax_wC ax_XC axu_rp7_5 := by
  intro ρ hp hE hT
  have j0 : ρ 0 % 4 = 1 := pz_gj hE 0 (Nat.le_of_ble_eq_true rfl) rfl
  have j1 : ρ 1 % 4 = 1 := pz_gj hE 1 (Nat.le_of_ble_eq_true rfl) rfl
  obtain ⟨i2a, i2b, i2c, i2d⟩ := pz_gi hE 2 2147484448 2147484448 (Nat.le_of_ble_eq_true rfl) rfl
  obtain ⟨-, -, F30⟩ : ay_ex hp 8 ∧ ay_ex hp 9 ∧ pz_x30 (ρ 0) (ay_at hp 8 1) (ay_at hp 9) := (ax_XF_lt (x := 30) (Nat.le_of_ble_eq_true rfl)).mp (ax_gx hE (30, [3]) ax_m0)
  obtain ⟨-, -, -, -, F50⟩ : ay_ex hp 8 ∧ ay_ex hp 10 ∧ ay_ex hp 11 ∧ ay_ex hp 12 ∧ pz_x50 (ρ 0) (ρ 1) (ay_at hp 8 5) (ay_at hp 8 6) (ay_at hp 8 7) (ay_at hp 8 8) (ay_at hp 10 0) (ay_at hp 10 1) (ay_at hp 10 2) (ay_at hp 10 3) (ay_at hp 10 4) (ay_at hp 8 9) (ay_at hp 8 11) (ay_at hp 8 10) (ay_at hp 8 3) (ay_at hp 8 4) (ay_at hp 11) (ay_at hp 12) := (ax_XF_lt (x := 50) (Nat.le_of_ble_eq_true rfl)).mp (ax_gx hE (50, [3, 7]) ax_m1)
  have F79 : pz7 (pz_gt (ρ 0)) (pz_gN (ρ 0)) ((ρ 1) / 4) 9 := (ax_XF_lt (x := 79) (Nat.le_of_ble_eq_true rfl)).mp (ax_gx hE (79, [3, 7]) ax_m2)
  have F97 : (ρ 2) / 4 ≤ (ρ 1) / 4 := (ax_XF_lt (x := 97) (Nat.le_of_ble_eq_true rfl)).mp (ax_gx hE (97, [7, 11]) ax_m3)
  refine ⟨(fun y hy => by cases hy), _, List.mem_cons_self, ρ, fun _ _ => rfl, ax_px hE rfl (fun y hy => ?_)⟩
  cases List.mem_singleton.mp hy
  refine (ax_XF_lt (x := 95) (Nat.le_of_ble_eq_true rfl)).mpr ?_
  show pz95 (pz_gt (ρ 0)) (pz_gN (ρ 0)) ((ρ 1) / 4)
  have kd := pq_far (n := ρ 1 / 4) F79 (by decide) (show pz_gN (ρ 0) ≤ 800 from F30.2.1) (by omega)
  exact ⟨by omega, by omega, by omega⟩

theorem axq_rp8a_5 : ax_RO ax_wC ax_XC axu_rp8a_5 := by
  intro ρ hp hE hT
  have j0 : ρ 0 % 4 = 1 := pz_gj hE 0 (Nat.le_of_ble_eq_true rfl) rfl
  have j1 : ρ 1 % 4 = 1 := pz_gj hE 1 (Nat.le_of_ble_eq_true rfl) rfl
  obtain ⟨i2a, i2b, i2c, i2d⟩ := pz_gi hE 2 0 2147483684 (Nat.le_of_ble_eq_true rfl) rfl
  have c_kind : ay_at hp 8 7 = some (ρ 2) := ay_gfj hE 42 28 11 8 7 ax_m1 (ax_vlq rfl rfl) (ax_vlj rfl rfl)
  obtain ⟨-, -, -, -, F50⟩ : ay_ex hp 8 ∧ ay_ex hp 10 ∧ ay_ex hp 11 ∧ ay_ex hp 12 ∧ pz_x50 (ρ 0) (ρ 1) (ay_at hp 8 5) (ay_at hp 8 6) (ay_at hp 8 7) (ay_at hp 8 8) (ay_at hp 10 0) (ay_at hp 10 1) (ay_at hp 10 2) (ay_at hp 10 3) (ay_at hp 10 4) (ay_at hp 8 9) (ay_at hp 8 11) (ay_at hp 8 10) (ay_at hp 8 3) (ay_at hp 8 4) (ay_at hp 11) (ay_at hp 12) := (ax_XF_lt (x := 50) (Nat.le_of_ble_eq_true rfl)).mp (ax_gx hE (50, [3, 7]) ax_m0)
  rw [c_kind] at F50
  refine ⟨(fun y hy => by cases hy), _, List.mem_cons_self, ρ, fun _ _ => rfl, ax_px hE rfl (fun y hy => ?_)⟩
  cases List.mem_singleton.mp hy
  refine (ax_XF_lt (x := 95) (Nat.le_of_ble_eq_true rfl)).mpr ?_
  show pz95 (pz_gt (ρ 0)) (pz_gN (ρ 0)) ((ρ 1) / 4)
  have kd : ρ 2 / 4 = pz_kd (pz_gt (ρ 0)) (pz_gN (ρ 0)) (pz_p (pz_cf (pz_gt (ρ 0)) (pz_gN (ρ 0)) (ρ 1 / 4))) := F50.2.2.1
  exact ⟨by omega, by omega, by omega⟩

theorem axq_rp8b_5 : ax_RO ax_wC ax_XC axu_rp8b_5 := by
  intro ρ hp hE hT
  have j0 : ρ 0 % 4 = 1 := pz_gj hE 0 (Nat.le_of_ble_eq_true rfl) rfl
  have j1 : ρ 1 % 4 = 1 := pz_gj hE 1 (Nat.le_of_ble_eq_true rfl) rfl
  obtain ⟨i2a, i2b, i2c, i2d⟩ := pz_gi hE 2 2147483686 2147483689 (Nat.le_of_ble_eq_true rfl) rfl
  have c_kind : ay_at hp 8 7 = some (ρ 2) := ay_gfj hE 42 28 11 8 7 ax_m1 (ax_vlq rfl rfl) (ax_vlj rfl rfl)
  obtain ⟨-, -, -, -, F50⟩ : ay_ex hp 8 ∧ ay_ex hp 10 ∧ ay_ex hp 11 ∧ ay_ex hp 12 ∧ pz_x50 (ρ 0) (ρ 1) (ay_at hp 8 5) (ay_at hp 8 6) (ay_at hp 8 7) (ay_at hp 8 8) (ay_at hp 10 0) (ay_at hp 10 1) (ay_at hp 10 2) (ay_at hp 10 3) (ay_at hp 10 4) (ay_at hp 8 9) (ay_at hp 8 11) (ay_at hp 8 10) (ay_at hp 8 3) (ay_at hp 8 4) (ay_at hp 11) (ay_at hp 12) := (ax_XF_lt (x := 50) (Nat.le_of_ble_eq_true rfl)).mp (ax_gx hE (50, [3, 7]) ax_m0)
  rw [c_kind] at F50
  refine ⟨(fun y hy => by cases hy), _, List.mem_cons_self, ρ, fun _ _ => rfl, ax_px hE rfl (fun y hy => ?_)⟩
  cases List.mem_singleton.mp hy
  refine (ax_XF_lt (x := 95) (Nat.le_of_ble_eq_true rfl)).mpr ?_
  show pz95 (pz_gt (ρ 0)) (pz_gN (ρ 0)) ((ρ 1) / 4)
  have kd : ρ 2 / 4 = pz_kd (pz_gt (ρ 0)) (pz_gN (ρ 0)) (pz_p (pz_cf (pz_gt (ρ 0)) (pz_gN (ρ 0)) (ρ 1 / 4))) := F50.2.2.1
  exact ⟨by omega, by omega, by omega⟩

theorem axq_rp8c_5 : ax_RO ax_wC ax_XC axu_rp8c_5 := by
  intro ρ hp hE hT
  have j0 : ρ 0 % 4 = 1 := pz_gj hE 0 (Nat.le_of_ble_eq_true rfl) rfl
  have j1 : ρ 1 % 4 = 1 := pz_gj hE 1 (Nat.le_of_ble_eq_true rfl) rfl
  obtain ⟨i2a, i2b, i2c, i2d⟩ := pz_gi hE 2 2147483691 2147483694 (Nat.le_of_ble_eq_true rfl) rfl
  have c_kind : ay_at hp 8 7 = some (ρ 2) := ay_gfj hE 42 28 11 8 7 ax_m1 (ax_vlq rfl rfl) (ax_vlj rfl rfl)
  obtain ⟨-, -, -, -, F50⟩ : ay_ex hp 8 ∧ ay_ex hp 10 ∧ ay_ex hp 11 ∧ ay_ex hp 12 ∧ pz_x50 (ρ 0) (ρ 1) (ay_at hp 8 5) (ay_at hp 8 6) (ay_at hp 8 7) (ay_at hp 8 8) (ay_at hp 10 0) (ay_at hp 10 1) (ay_at hp 10 2) (ay_at hp 10 3) (ay_at hp 10 4) (ay_at hp 8 9) (ay_at hp 8 11) (ay_at hp 8 10) (ay_at hp 8 3) (ay_at hp 8 4) (ay_at hp 11) (ay_at hp 12) := (ax_XF_lt (x := 50) (Nat.le_of_ble_eq_true rfl)).mp (ax_gx hE (50, [3, 7]) ax_m0)
  rw [c_kind] at F50
  refine ⟨(fun y hy => by cases hy), _, List.mem_cons_self, ρ, fun _ _ => rfl, ax_px hE rfl (fun y hy => ?_)⟩
  cases List.mem_singleton.mp hy
  refine (ax_XF_lt (x := 95) (Nat.le_of_ble_eq_true rfl)).mpr ?_
  show pz95 (pz_gt (ρ 0)) (pz_gN (ρ 0)) ((ρ 1) / 4)
  have kd : ρ 2 / 4 = pz_kd (pz_gt (ρ 0)) (pz_gN (ρ 0)) (pz_p (pz_cf (pz_gt (ρ 0)) (pz_gN (ρ 0)) (ρ 1 / 4))) := F50.2.2.1
  exact ⟨by omega, by omega, by omega⟩

theorem axq_rp8d_5 : ax_RO ax_wC ax_XC axu_rp8d_5 := by
  intro ρ hp hE hT
  have j0 : ρ 0 % 4 = 1 := pz_gj hE 0 (Nat.le_of_ble_eq_true rfl) rfl
  have j1 : ρ 1 % 4 = 1 := pz_gj hE 1 (Nat.le_of_ble_eq_true rfl) rfl
  obtain ⟨i2a, i2b, i2c, i2d⟩ := pz_gi hE 2 2147483696 4294967295 (Nat.le_of_ble_eq_true rfl) rfl
  have c_kind : ay_at hp 8 7 = some (ρ 2) := ay_gfj hE 42 28 11 8 7 ax_m1 (ax_vlq rfl rfl) (ax_vlj rfl rfl)
  obtain ⟨-, -, -, -, F50⟩ : ay_ex hp 8 ∧ ay_ex hp 10 ∧ ay_ex hp 11 ∧ ay_ex hp 12 ∧ pz_x50 (ρ 0) (ρ 1) (ay_at hp 8 5) (ay_at hp 8 6) (ay_at hp 8 7) (ay_at hp 8 8) (ay_at hp 10 0) (ay_at hp 10 1) (ay_at hp 10 2) (ay_at hp 10 3) (ay_at hp 10 4) (ay_at hp 8 9) (ay_at hp 8 11) (ay_at hp 8 10) (ay_at hp 8 3) (ay_at hp 8 4) (ay_at hp 11) (ay_at hp 12) := (ax_XF_lt (x := 50) (Nat.le_of_ble_eq_true rfl)).mp (ax_gx hE (50, [3, 7]) ax_m0)
  rw [c_kind] at F50
  refine ⟨(fun y hy => by cases hy), _, List.mem_cons_self, ρ, fun _ _ => rfl, ax_px hE rfl (fun y hy => ?_)⟩
  cases List.mem_singleton.mp hy
  refine (ax_XF_lt (x := 95) (Nat.le_of_ble_eq_true rfl)).mpr ?_
  show pz95 (pz_gt (ρ 0)) (pz_gN (ρ 0)) ((ρ 1) / 4)
  have kd : ρ 2 / 4 = pz_kd (pz_gt (ρ 0)) (pz_gN (ρ 0)) (pz_p (pz_cf (pz_gt (ρ 0)) (pz_gN (ρ 0)) (ρ 1 / 4))) := F50.2.2.1
  exact ⟨by omega, by omega, by omega⟩

theorem axq_rp1_6 : ax_RO ax_wC ax_XC axu_rp1_6 := by
  intro ρ hp hE hT
  have j0 : ρ 0 % 4 = 1 := pz_gj hE 0 (Nat.le_of_ble_eq_true rfl) rfl
  have j1 : ρ 1 % 4 = 1 := pz_gj hE 1 (Nat.le_of_ble_eq_true rfl) rfl
  have j2 : ρ 2 % 4 = 1 := pz_gj hE 2 (Nat.le_of_ble_eq_true rfl) rfl
  have j3 : ρ 3 % 4 = 1 := pz_gj hE 3 (Nat.le_of_ble_eq_true rfl) rfl
  obtain ⟨-, -, -, -, F50⟩ : ay_ex hp 8 ∧ ay_ex hp 10 ∧ ay_ex hp 11 ∧ ay_ex hp 12 ∧ pz_x50 (ρ 0) (ρ 1) (ay_at hp 8 5) (ay_at hp 8 6) (ay_at hp 8 7) (ay_at hp 8 8) (ay_at hp 10 0) (ay_at hp 10 1) (ay_at hp 10 2) (ay_at hp 10 3) (ay_at hp 10 4) (ay_at hp 8 9) (ay_at hp 8 11) (ay_at hp 8 10) (ay_at hp 8 3) (ay_at hp 8 4) (ay_at hp 11) (ay_at hp 12) := (ax_XF_lt (x := 50) (Nat.le_of_ble_eq_true rfl)).mp (ax_gx hE (50, [3, 7]) ax_m0)
  have F90 : (pz90 (pz_gt (ρ 0)) (pz_gN (ρ 0)) ((ρ 1) / 4) ((ρ 3) / 4) ∧ 1 ≤ (ρ 3) / 4) := (ax_XF_lt (x := 90) (Nat.le_of_ble_eq_true rfl)).mp (ax_gx hE (90, [3, 7, 15]) ax_m1)
  have F92 : pz_strip ((ρ 2) / 4) = (ρ 3) / 4 := (ax_XF_lt (x := 92) (Nat.le_of_ble_eq_true rfl)).mp (ax_gx hE (92, [11, 15]) ax_m2)
  have F92a : pz_strip ((ρ 2) / 4) = (ρ 2) / 4 := (ax_XF_lt (x := 92) (Nat.le_of_ble_eq_true rfl)).mp (ax_gx hE (92, [11, 11]) ax_m3)
  refine ⟨(fun y hy => by cases hy), _, List.mem_cons_self, ρ, fun _ _ => rfl, ax_px hE rfl (fun y hy => ?_)⟩
  cases List.mem_singleton.mp hy
  refine (ax_XF_lt (x := 90) (Nat.le_of_ble_eq_true rfl)).mpr ?_
  show (pz90 (pz_gt (ρ 0)) (pz_gN (ρ 0)) ((ρ 1) / 4) ((ρ 2) / 4) ∧ 1 ≤ (ρ 2) / 4)
  have e : ρ 3 / 4 = ρ 2 / 4 := by omega
  rw [← e]
  exact F90

theorem axq_rp2_6 : ax_RO ax_wC ax_XC axu_rp2_6 := by
  intro ρ hp hE hT
  have j0 : ρ 0 % 4 = 1 := pz_gj hE 0 (Nat.le_of_ble_eq_true rfl) rfl
  have j1 : ρ 1 % 4 = 1 := pz_gj hE 1 (Nat.le_of_ble_eq_true rfl) rfl
  obtain ⟨-, -, -, -, F50⟩ : ay_ex hp 8 ∧ ay_ex hp 10 ∧ ay_ex hp 11 ∧ ay_ex hp 12 ∧ pz_x50 (ρ 0) (ρ 1) (ay_at hp 8 5) (ay_at hp 8 6) (ay_at hp 8 7) (ay_at hp 8 8) (ay_at hp 10 0) (ay_at hp 10 1) (ay_at hp 10 2) (ay_at hp 10 3) (ay_at hp 10 4) (ay_at hp 8 9) (ay_at hp 8 11) (ay_at hp 8 10) (ay_at hp 8 3) (ay_at hp 8 4) (ay_at hp 11) (ay_at hp 12) := (ax_XF_lt (x := 50) (Nat.le_of_ble_eq_true rfl)).mp (ax_gx hE (50, [3, 7]) ax_m0)
  refine ⟨(fun y hy => by cases hy), _, List.mem_cons_self, ρ, fun _ _ => rfl, ax_px hE rfl (fun y hy => ?_)⟩
  cases List.mem_singleton.mp hy
  refine (ax_XF_lt (x := 97) (Nat.le_of_ble_eq_true rfl)).mpr ?_
  show (0) / 4 ≤ (ρ 1) / 4
  exact Nat.zero_le _

theorem axq_rp3c42_6 : ax_RO ax_wC ax_XC axu_rp3c42_6 := by
  intro ρ hp hE hT
  have j0 : ρ 0 % 4 = 1 := pz_gj hE 0 (Nat.le_of_ble_eq_true rfl) rfl
  have j1 : ρ 1 % 4 = 1 := pz_gj hE 1 (Nat.le_of_ble_eq_true rfl) rfl
  have j2 : ρ 2 % 4 = 1 := pz_gj hE 2 (Nat.le_of_ble_eq_true rfl) rfl
  obtain ⟨i3a, i3b, i3c, i3d⟩ := pz_gi hE 3 2147483690 2147483690 (Nat.le_of_ble_eq_true rfl) rfl
  have j4 : ρ 4 % 4 = 1 := pz_gj hE 4 (Nat.le_of_ble_eq_true rfl) rfl
  have c_kind : ay_at hp 8 7 = some (ρ 3) := ay_gfj hE 42 28 15 8 7 ax_m3 (ax_vlq rfl rfl) (ax_vlj rfl rfl)
  have o1 : ρ 4 < ρ 1 := pz_go hE 19 7 (by decide)
  obtain ⟨-, -, -, -, F50⟩ : ay_ex hp 8 ∧ ay_ex hp 10 ∧ ay_ex hp 11 ∧ ay_ex hp 12 ∧ pz_x50 (ρ 0) (ρ 1) (ay_at hp 8 5) (ay_at hp 8 6) (ay_at hp 8 7) (ay_at hp 8 8) (ay_at hp 10 0) (ay_at hp 10 1) (ay_at hp 10 2) (ay_at hp 10 3) (ay_at hp 10 4) (ay_at hp 8 9) (ay_at hp 8 11) (ay_at hp 8 10) (ay_at hp 8 3) (ay_at hp 8 4) (ay_at hp 11) (ay_at hp 12) := (ax_XF_lt (x := 50) (Nat.le_of_ble_eq_true rfl)).mp (ax_gx hE (50, [3, 7]) ax_m0)
  rw [c_kind] at F50
  have F79 : pz7 (pz_gt (ρ 0)) (pz_gN (ρ 0)) ((ρ 1) / 4) 9 := (ax_XF_lt (x := 79) (Nat.le_of_ble_eq_true rfl)).mp (ax_gx hE (79, [3, 7]) ax_m1)
  have F90 : (pz90 (pz_gt (ρ 0)) (pz_gN (ρ 0)) ((ρ 1) / 4) ((ρ 2) / 4) ∧ 1 ≤ (ρ 2) / 4) := (ax_XF_lt (x := 90) (Nat.le_of_ble_eq_true rfl)).mp (ax_gx hE (90, [3, 7, 11]) ax_m2)
  have st := pq_op F50 F79 F90.1 (show pz_op (ρ 3 / 4) = true by rw [show ρ 3 / 4 = 42 by omega]; rfl)
  obtain ⟨ρ', h1, h2⟩ := pz_pn1 (K := ρ 1 / 4 + 1) (xf := [(53, [3, 23]), (78, [3, 23]), (90, [3, 23, 11]), (1030, [7, 23]), (98, [7, 23]), (1030, [19, 23])]) hE (by decide) (fun ρ' h1 h2 x hx => by
    have q0 : ρ' 0 = ρ 0 := h1 0 (by decide)
    have q1 : ρ' 1 = ρ 1 := h1 1 (by decide)
    have q2 : ρ' 2 = ρ 2 := h1 2 (by decide)
    have q3 : ρ' 3 = ρ 3 := h1 3 (by decide)
    have q4 : ρ' 4 = ρ 4 := h1 4 (by decide)
    rcases List.mem_cons.mp hx with e | hx
    · subst e
      refine (ax_XF_lt (x := 53) (Nat.le_of_ble_eq_true rfl)).mpr ?_
      show ay_ex hp 8 ∧ ay_ex hp 10 ∧ ay_ex hp 11 ∧ ay_ex hp 12 ∧ pz_x53 (ρ' 0) (ρ' 5) (ay_at hp 8 5) (ay_at hp 10 0) (ay_at hp 10 1) (ay_at hp 10 2) (ay_at hp 10 3) (ay_at hp 10 4) (ay_at hp 8 9) (ay_at hp 8 11) (ay_at hp 8 10) (ay_at hp 8 3) (ay_at hp 8 4) (ay_at hp 11) (ay_at hp 12)
      rw [q0, h2]
      exact ⟨(ax_cellT hT (q := 8) (g := 2) rfl), (ax_cellT hT (q := 10) (g := 1) rfl), (ax_cellT hT (q := 11) (g := 14) rfl), (ax_cellT hT (q := 12) (g := 15) rfl), pz_53 (pz_41 _) rfl st.1⟩
    rcases List.mem_cons.mp hx with e | hx
    · subst e
      refine (ax_XF_lt (x := 78) (Nat.le_of_ble_eq_true rfl)).mpr ?_
      show pz7 (pz_gt (ρ' 0)) (pz_gN (ρ' 0)) ((ρ' 5) / 4) 8
      rw [q0, h2]
      rw [pz_41]
      exact st.2.1
    rcases List.mem_cons.mp hx with e | hx
    · subst e
      refine (ax_XF_lt (x := 90) (Nat.le_of_ble_eq_true rfl)).mpr ?_
      show (pz90 (pz_gt (ρ' 0)) (pz_gN (ρ' 0)) ((ρ' 5) / 4) ((ρ' 2) / 4) ∧ 1 ≤ (ρ' 2) / 4)
      rw [q0, q2, h2]
      rw [pz_41]
      exact ⟨st.2.2, F90.2⟩
    rcases List.mem_cons.mp hx with e | hx
    · subst e
      refine (ax_XF_bi (o := 30) (by decide)).mpr (Or.inr ⟨rfl, ?_⟩)
      show ρ' 1 < ρ' 5
      rw [q1, h2]
      omega
    rcases List.mem_cons.mp hx with e | hx
    · subst e
      refine (ax_XF_lt (x := 98) (Nat.le_of_ble_eq_true rfl)).mpr ?_
      show (ρ' 5) / 4 = (ρ' 1) / 4 + 1
      rw [q1, h2]
      rw [pz_41]
    cases List.mem_singleton.mp hx
    refine (ax_XF_bi (o := 30) (by decide)).mpr (Or.inr ⟨rfl, ?_⟩)
    show ρ' 4 < ρ' 5
    rw [q4, h2]
    omega)
  exact ⟨(fun y hy => by cases hy), _, List.mem_cons_self, ρ', h1, h2⟩

theorem axq_rp3c47_6 : ax_RO ax_wC ax_XC axu_rp3c47_6 := by
  intro ρ hp hE hT
  have j0 : ρ 0 % 4 = 1 := pz_gj hE 0 (Nat.le_of_ble_eq_true rfl) rfl
  have j1 : ρ 1 % 4 = 1 := pz_gj hE 1 (Nat.le_of_ble_eq_true rfl) rfl
  have j2 : ρ 2 % 4 = 1 := pz_gj hE 2 (Nat.le_of_ble_eq_true rfl) rfl
  obtain ⟨i3a, i3b, i3c, i3d⟩ := pz_gi hE 3 2147483695 2147483695 (Nat.le_of_ble_eq_true rfl) rfl
  have j4 : ρ 4 % 4 = 1 := pz_gj hE 4 (Nat.le_of_ble_eq_true rfl) rfl
  have c_kind : ay_at hp 8 7 = some (ρ 3) := ay_gfj hE 42 28 15 8 7 ax_m3 (ax_vlq rfl rfl) (ax_vlj rfl rfl)
  have o1 : ρ 4 < ρ 1 := pz_go hE 19 7 (by decide)
  obtain ⟨-, -, -, -, F50⟩ : ay_ex hp 8 ∧ ay_ex hp 10 ∧ ay_ex hp 11 ∧ ay_ex hp 12 ∧ pz_x50 (ρ 0) (ρ 1) (ay_at hp 8 5) (ay_at hp 8 6) (ay_at hp 8 7) (ay_at hp 8 8) (ay_at hp 10 0) (ay_at hp 10 1) (ay_at hp 10 2) (ay_at hp 10 3) (ay_at hp 10 4) (ay_at hp 8 9) (ay_at hp 8 11) (ay_at hp 8 10) (ay_at hp 8 3) (ay_at hp 8 4) (ay_at hp 11) (ay_at hp 12) := (ax_XF_lt (x := 50) (Nat.le_of_ble_eq_true rfl)).mp (ax_gx hE (50, [3, 7]) ax_m0)
  rw [c_kind] at F50
  have F79 : pz7 (pz_gt (ρ 0)) (pz_gN (ρ 0)) ((ρ 1) / 4) 9 := (ax_XF_lt (x := 79) (Nat.le_of_ble_eq_true rfl)).mp (ax_gx hE (79, [3, 7]) ax_m1)
  have F90 : (pz90 (pz_gt (ρ 0)) (pz_gN (ρ 0)) ((ρ 1) / 4) ((ρ 2) / 4) ∧ 1 ≤ (ρ 2) / 4) := (ax_XF_lt (x := 90) (Nat.le_of_ble_eq_true rfl)).mp (ax_gx hE (90, [3, 7, 11]) ax_m2)
  have st := pq_op F50 F79 F90.1 (show pz_op (ρ 3 / 4) = true by rw [show ρ 3 / 4 = 47 by omega]; rfl)
  obtain ⟨ρ', h1, h2⟩ := pz_pn1 (K := ρ 1 / 4 + 1) (xf := [(53, [3, 23]), (78, [3, 23]), (90, [3, 23, 11]), (1030, [7, 23]), (98, [7, 23]), (1030, [19, 23])]) hE (by decide) (fun ρ' h1 h2 x hx => by
    have q0 : ρ' 0 = ρ 0 := h1 0 (by decide)
    have q1 : ρ' 1 = ρ 1 := h1 1 (by decide)
    have q2 : ρ' 2 = ρ 2 := h1 2 (by decide)
    have q3 : ρ' 3 = ρ 3 := h1 3 (by decide)
    have q4 : ρ' 4 = ρ 4 := h1 4 (by decide)
    rcases List.mem_cons.mp hx with e | hx
    · subst e
      refine (ax_XF_lt (x := 53) (Nat.le_of_ble_eq_true rfl)).mpr ?_
      show ay_ex hp 8 ∧ ay_ex hp 10 ∧ ay_ex hp 11 ∧ ay_ex hp 12 ∧ pz_x53 (ρ' 0) (ρ' 5) (ay_at hp 8 5) (ay_at hp 10 0) (ay_at hp 10 1) (ay_at hp 10 2) (ay_at hp 10 3) (ay_at hp 10 4) (ay_at hp 8 9) (ay_at hp 8 11) (ay_at hp 8 10) (ay_at hp 8 3) (ay_at hp 8 4) (ay_at hp 11) (ay_at hp 12)
      rw [q0, h2]
      exact ⟨(ax_cellT hT (q := 8) (g := 2) rfl), (ax_cellT hT (q := 10) (g := 1) rfl), (ax_cellT hT (q := 11) (g := 14) rfl), (ax_cellT hT (q := 12) (g := 15) rfl), pz_53 (pz_41 _) rfl st.1⟩
    rcases List.mem_cons.mp hx with e | hx
    · subst e
      refine (ax_XF_lt (x := 78) (Nat.le_of_ble_eq_true rfl)).mpr ?_
      show pz7 (pz_gt (ρ' 0)) (pz_gN (ρ' 0)) ((ρ' 5) / 4) 8
      rw [q0, h2]
      rw [pz_41]
      exact st.2.1
    rcases List.mem_cons.mp hx with e | hx
    · subst e
      refine (ax_XF_lt (x := 90) (Nat.le_of_ble_eq_true rfl)).mpr ?_
      show (pz90 (pz_gt (ρ' 0)) (pz_gN (ρ' 0)) ((ρ' 5) / 4) ((ρ' 2) / 4) ∧ 1 ≤ (ρ' 2) / 4)
      rw [q0, q2, h2]
      rw [pz_41]
      exact ⟨st.2.2, F90.2⟩
    rcases List.mem_cons.mp hx with e | hx
    · subst e
      refine (ax_XF_bi (o := 30) (by decide)).mpr (Or.inr ⟨rfl, ?_⟩)
      show ρ' 1 < ρ' 5
      rw [q1, h2]
      omega
    rcases List.mem_cons.mp hx with e | hx
    · subst e
      refine (ax_XF_lt (x := 98) (Nat.le_of_ble_eq_true rfl)).mpr ?_
      show (ρ' 5) / 4 = (ρ' 1) / 4 + 1
      rw [q1, h2]
      rw [pz_41]
    cases List.mem_singleton.mp hx
    refine (ax_XF_bi (o := 30) (by decide)).mpr (Or.inr ⟨rfl, ?_⟩)
    show ρ' 4 < ρ' 5
    rw [q4, h2]
    omega)
  exact ⟨(fun y hy => by cases hy), _, List.mem_cons_self, ρ', h1, h2⟩

theorem axq_rp3c37_6 : ax_RO ax_wC ax_XC axu_rp3c37_6 := by
  intro ρ hp hE hT
  have j0 : ρ 0 % 4 = 1 := pz_gj hE 0 (Nat.le_of_ble_eq_true rfl) rfl
  have j1 : ρ 1 % 4 = 1 := pz_gj hE 1 (Nat.le_of_ble_eq_true rfl) rfl
  have j2 : ρ 2 % 4 = 1 := pz_gj hE 2 (Nat.le_of_ble_eq_true rfl) rfl
  obtain ⟨i3a, i3b, i3c, i3d⟩ := pz_gi hE 3 2147483685 2147483685 (Nat.le_of_ble_eq_true rfl) rfl
  have j4 : ρ 4 % 4 = 1 := pz_gj hE 4 (Nat.le_of_ble_eq_true rfl) rfl
  have c_kind : ay_at hp 8 7 = some (ρ 3) := ay_gfj hE 42 28 15 8 7 ax_m3 (ax_vlq rfl rfl) (ax_vlj rfl rfl)
  have o1 : ρ 4 < ρ 1 := pz_go hE 19 7 (by decide)
  obtain ⟨-, -, -, -, F50⟩ : ay_ex hp 8 ∧ ay_ex hp 10 ∧ ay_ex hp 11 ∧ ay_ex hp 12 ∧ pz_x50 (ρ 0) (ρ 1) (ay_at hp 8 5) (ay_at hp 8 6) (ay_at hp 8 7) (ay_at hp 8 8) (ay_at hp 10 0) (ay_at hp 10 1) (ay_at hp 10 2) (ay_at hp 10 3) (ay_at hp 10 4) (ay_at hp 8 9) (ay_at hp 8 11) (ay_at hp 8 10) (ay_at hp 8 3) (ay_at hp 8 4) (ay_at hp 11) (ay_at hp 12) := (ax_XF_lt (x := 50) (Nat.le_of_ble_eq_true rfl)).mp (ax_gx hE (50, [3, 7]) ax_m0)
  rw [c_kind] at F50
  have F79 : pz7 (pz_gt (ρ 0)) (pz_gN (ρ 0)) ((ρ 1) / 4) 9 := (ax_XF_lt (x := 79) (Nat.le_of_ble_eq_true rfl)).mp (ax_gx hE (79, [3, 7]) ax_m1)
  have F90 : (pz90 (pz_gt (ρ 0)) (pz_gN (ρ 0)) ((ρ 1) / 4) ((ρ 2) / 4) ∧ 1 ≤ (ρ 2) / 4) := (ax_XF_lt (x := 90) (Nat.le_of_ble_eq_true rfl)).mp (ax_gx hE (90, [3, 7, 11]) ax_m2)
  have st := pq_op F50 F79 F90.1 (show pz_op (ρ 3 / 4) = true by rw [show ρ 3 / 4 = 37 by omega]; rfl)
  obtain ⟨ρ', h1, h2⟩ := pz_pn1 (K := ρ 1 / 4 + 1) (xf := [(53, [3, 23]), (78, [3, 23]), (90, [3, 23, 11]), (1030, [7, 23]), (98, [7, 23]), (1030, [19, 23])]) hE (by decide) (fun ρ' h1 h2 x hx => by
    have q0 : ρ' 0 = ρ 0 := h1 0 (by decide)
    have q1 : ρ' 1 = ρ 1 := h1 1 (by decide)
    have q2 : ρ' 2 = ρ 2 := h1 2 (by decide)
    have q3 : ρ' 3 = ρ 3 := h1 3 (by decide)
    have q4 : ρ' 4 = ρ 4 := h1 4 (by decide)
    rcases List.mem_cons.mp hx with e | hx
    · subst e
      refine (ax_XF_lt (x := 53) (Nat.le_of_ble_eq_true rfl)).mpr ?_
      show ay_ex hp 8 ∧ ay_ex hp 10 ∧ ay_ex hp 11 ∧ ay_ex hp 12 ∧ pz_x53 (ρ' 0) (ρ' 5) (ay_at hp 8 5) (ay_at hp 10 0) (ay_at hp 10 1) (ay_at hp 10 2) (ay_at hp 10 3) (ay_at hp 10 4) (ay_at hp 8 9) (ay_at hp 8 11) (ay_at hp 8 10) (ay_at hp 8 3) (ay_at hp 8 4) (ay_at hp 11) (ay_at hp 12)
      rw [q0, h2]
      exact ⟨(ax_cellT hT (q := 8) (g := 2) rfl), (ax_cellT hT (q := 10) (g := 1) rfl), (ax_cellT hT (q := 11) (g := 14) rfl), (ax_cellT hT (q := 12) (g := 15) rfl), pz_53 (pz_41 _) rfl st.1⟩
    rcases List.mem_cons.mp hx with e | hx
    · subst e
      refine (ax_XF_lt (x := 78) (Nat.le_of_ble_eq_true rfl)).mpr ?_
      show pz7 (pz_gt (ρ' 0)) (pz_gN (ρ' 0)) ((ρ' 5) / 4) 8
      rw [q0, h2]
      rw [pz_41]
      exact st.2.1
    rcases List.mem_cons.mp hx with e | hx
    · subst e
      refine (ax_XF_lt (x := 90) (Nat.le_of_ble_eq_true rfl)).mpr ?_
      show (pz90 (pz_gt (ρ' 0)) (pz_gN (ρ' 0)) ((ρ' 5) / 4) ((ρ' 2) / 4) ∧ 1 ≤ (ρ' 2) / 4)
      rw [q0, q2, h2]
      rw [pz_41]
      exact ⟨st.2.2, F90.2⟩
    rcases List.mem_cons.mp hx with e | hx
    · subst e
      refine (ax_XF_bi (o := 30) (by decide)).mpr (Or.inr ⟨rfl, ?_⟩)
      show ρ' 1 < ρ' 5
      rw [q1, h2]
      omega
    rcases List.mem_cons.mp hx with e | hx
    · subst e
      refine (ax_XF_lt (x := 98) (Nat.le_of_ble_eq_true rfl)).mpr ?_
      show (ρ' 5) / 4 = (ρ' 1) / 4 + 1
      rw [q1, h2]
      rw [pz_41]
    cases List.mem_singleton.mp hx
    refine (ax_XF_bi (o := 30) (by decide)).mpr (Or.inr ⟨rfl, ?_⟩)
    show ρ' 4 < ρ' 5
    rw [q4, h2]
    omega)
  exact ⟨(fun y hy => by cases hy), _, List.mem_cons_self, ρ', h1, h2⟩

theorem axq_rp4_6 : ax_RO ax_wC ax_XC axu_rp4_6 := by
  intro ρ hp hE hT
  have j0 : ρ 0 % 4 = 1 := pz_gj hE 0 (Nat.le_of_ble_eq_true rfl) rfl
  have j1 : ρ 1 % 4 = 1 := pz_gj hE 1 (Nat.le_of_ble_eq_true rfl) rfl
  have j2 : ρ 2 % 4 = 1 := pz_gj hE 2 (Nat.le_of_ble_eq_true rfl) rfl
  have j3 : ρ 3 % 4 = 1 := pz_gj hE 3 (Nat.le_of_ble_eq_true rfl) rfl
  obtain ⟨-, -, -, -, F50⟩ : ay_ex hp 8 ∧ ay_ex hp 10 ∧ ay_ex hp 11 ∧ ay_ex hp 12 ∧ pz_x50 (ρ 0) (ρ 1) (ay_at hp 8 5) (ay_at hp 8 6) (ay_at hp 8 7) (ay_at hp 8 8) (ay_at hp 10 0) (ay_at hp 10 1) (ay_at hp 10 2) (ay_at hp 10 3) (ay_at hp 10 4) (ay_at hp 8 9) (ay_at hp 8 11) (ay_at hp 8 10) (ay_at hp 8 3) (ay_at hp 8 4) (ay_at hp 11) (ay_at hp 12) := (ax_XF_lt (x := 50) (Nat.le_of_ble_eq_true rfl)).mp (ax_gx hE (50, [3, 7]) ax_m0)
  have F90 : (pz90 (pz_gt (ρ 0)) (pz_gN (ρ 0)) ((ρ 1) / 4) ((ρ 3) / 4) ∧ 1 ≤ (ρ 3) / 4) := (ax_XF_lt (x := 90) (Nat.le_of_ble_eq_true rfl)).mp (ax_gx hE (90, [3, 7, 15]) ax_m1)
  have F92 : pz_strip ((ρ 2) / 4) = (ρ 3) / 4 := (ax_XF_lt (x := 92) (Nat.le_of_ble_eq_true rfl)).mp (ax_gx hE (92, [11, 15]) ax_m2)
  have F92a : pz_strip ((ρ 2) / 4) = (ρ 2) / 4 := (ax_XF_lt (x := 92) (Nat.le_of_ble_eq_true rfl)).mp (ax_gx hE (92, [11, 11]) ax_m3)
  refine ⟨(fun y hy => by cases hy), _, List.mem_cons_self, ρ, fun _ _ => rfl, ax_px hE rfl (fun y hy => ?_)⟩
  cases List.mem_singleton.mp hy
  refine (ax_XF_lt (x := 90) (Nat.le_of_ble_eq_true rfl)).mpr ?_
  show (pz90 (pz_gt (ρ 0)) (pz_gN (ρ 0)) ((ρ 1) / 4) ((ρ 2) / 4) ∧ 1 ≤ (ρ 2) / 4)
  have e : ρ 3 / 4 = ρ 2 / 4 := by omega
  rw [← e]
  exact F90

theorem axq_rp5_6 : ax_RO ax_wC ax_XC axu_rp5_6 := by
  intro ρ hp hE hT
  have j0 : ρ 0 % 4 = 1 := pz_gj hE 0 (Nat.le_of_ble_eq_true rfl) rfl
  have j1 : ρ 1 % 4 = 1 := pz_gj hE 1 (Nat.le_of_ble_eq_true rfl) rfl
  have j2 : ρ 2 % 4 = 1 := pz_gj hE 2 (Nat.le_of_ble_eq_true rfl) rfl
  have j3 : ρ 3 % 4 = 1 := pz_gj hE 3 (Nat.le_of_ble_eq_true rfl) rfl
  have j4 : ρ 4 % 4 = 1 := pz_gj hE 4 (Nat.le_of_ble_eq_true rfl) rfl
  have o1 : ρ 2 < ρ 1 := pz_go hE 11 7 (by decide)
  have o2 : ρ 3 < ρ 2 := pz_go hE 15 11 (by decide)
  have o3 : ρ 4 < ρ 3 := pz_go hE 19 15 (by decide)
  obtain ⟨-, -, -, -, F50⟩ : ay_ex hp 8 ∧ ay_ex hp 10 ∧ ay_ex hp 11 ∧ ay_ex hp 12 ∧ pz_x50 (ρ 0) (ρ 1) (ay_at hp 8 5) (ay_at hp 8 6) (ay_at hp 8 7) (ay_at hp 8 8) (ay_at hp 10 0) (ay_at hp 10 1) (ay_at hp 10 2) (ay_at hp 10 3) (ay_at hp 10 4) (ay_at hp 8 9) (ay_at hp 8 11) (ay_at hp 8 10) (ay_at hp 8 3) (ay_at hp 8 4) (ay_at hp 11) (ay_at hp 12) := (ax_XF_lt (x := 50) (Nat.le_of_ble_eq_true rfl)).mp (ax_gx hE (50, [3, 7]) ax_m0)
  refine ⟨(fun y hy => by cases hy), _, List.mem_cons_self, ρ, fun _ _ => rfl, ax_px hE rfl (fun y hy => ?_)⟩
  rcases List.mem_cons.mp hy with e | hy
  · subst e
    refine (ax_XF_bi (o := 30) (by decide)).mpr (Or.inr ⟨rfl, ?_⟩)
    show ρ 4 < ρ 1
    omega
  cases List.mem_singleton.mp hy
  refine (ax_XF_bi (o := 30) (by decide)).mpr (Or.inr ⟨rfl, ?_⟩)
  show ρ 3 < ρ 1
  omega

theorem axq_rp6_6 : ax_RO ax_wC ax_XC axu_rp6_6 := by
  intro ρ hp hE hT
  have j0 : ρ 0 % 4 = 1 := pz_gj hE 0 (Nat.le_of_ble_eq_true rfl) rfl
  have j1 : ρ 1 % 4 = 1 := pz_gj hE 1 (Nat.le_of_ble_eq_true rfl) rfl
  have j2 : ρ 2 % 4 = 1 := pz_gj hE 2 (Nat.le_of_ble_eq_true rfl) rfl
  obtain ⟨i3a, i3b, i3c, i3d⟩ := pz_gi hE 3 2147483648 2147484447 (Nat.le_of_ble_eq_true rfl) rfl
  obtain ⟨i4a, i4b, i4c, i4d⟩ := pz_gi hE 4 0 4294967295 (Nat.le_of_ble_eq_true rfl) rfl
  have s1 : (ρ 3 / 4 + 2147483648) % 4294967296 + (4 / 4 + 2147483648) % 4294967296 = (ρ 4 / 4 + 2147483648) % 4294967296 + 2147483648 := pz_gs hE 15 4 19 ax_m1
  have o1 : ρ 2 < ρ 1 := pz_go hE 11 7 (by decide)
  obtain ⟨-, -, -, -, F50⟩ : ay_ex hp 8 ∧ ay_ex hp 10 ∧ ay_ex hp 11 ∧ ay_ex hp 12 ∧ pz_x50 (ρ 0) (ρ 1) (ay_at hp 8 5) (ay_at hp 8 6) (ay_at hp 8 7) (ay_at hp 8 8) (ay_at hp 10 0) (ay_at hp 10 1) (ay_at hp 10 2) (ay_at hp 10 3) (ay_at hp 10 4) (ay_at hp 8 9) (ay_at hp 8 11) (ay_at hp 8 10) (ay_at hp 8 3) (ay_at hp 8 4) (ay_at hp 11) (ay_at hp 12) := (ax_XF_lt (x := 50) (Nat.le_of_ble_eq_true rfl)).mp (ax_gx hE (50, [3, 7]) ax_m0)
  have F97 : (ρ 3) / 4 ≤ (ρ 2) / 4 := (ax_XF_lt (x := 97) (Nat.le_of_ble_eq_true rfl)).mp (ax_gx hE (97, [11, 15]) ax_m2)
  refine ⟨(fun y hy => by cases hy), _, List.mem_cons_self, ρ, fun _ _ => rfl, ax_px hE rfl (fun y hy => ?_)⟩
  cases List.mem_singleton.mp hy
  refine (ax_XF_lt (x := 97) (Nat.le_of_ble_eq_true rfl)).mpr ?_
  show (ρ 4) / 4 ≤ (ρ 1) / 4
  omega

theorem axq_rp7_6 : ax_RO ax_wC ax_XC axu_rp7_6 := by
  intro ρ hp hE hT
  have j0 : ρ 0 % 4 = 1 := pz_gj hE 0 (Nat.le_of_ble_eq_true rfl) rfl
  have j1 : ρ 1 % 4 = 1 := pz_gj hE 1 (Nat.le_of_ble_eq_true rfl) rfl
  obtain ⟨i2a, i2b, i2c, i2d⟩ := pz_gi hE 2 2147484448 2147484448 (Nat.le_of_ble_eq_true rfl) rfl
  obtain ⟨-, -, F30⟩ : ay_ex hp 8 ∧ ay_ex hp 9 ∧ pz_x30 (ρ 0) (ay_at hp 8 1) (ay_at hp 9) := (ax_XF_lt (x := 30) (Nat.le_of_ble_eq_true rfl)).mp (ax_gx hE (30, [3]) ax_m0)
  obtain ⟨-, -, -, -, F50⟩ : ay_ex hp 8 ∧ ay_ex hp 10 ∧ ay_ex hp 11 ∧ ay_ex hp 12 ∧ pz_x50 (ρ 0) (ρ 1) (ay_at hp 8 5) (ay_at hp 8 6) (ay_at hp 8 7) (ay_at hp 8 8) (ay_at hp 10 0) (ay_at hp 10 1) (ay_at hp 10 2) (ay_at hp 10 3) (ay_at hp 10 4) (ay_at hp 8 9) (ay_at hp 8 11) (ay_at hp 8 10) (ay_at hp 8 3) (ay_at hp 8 4) (ay_at hp 11) (ay_at hp 12) := (ax_XF_lt (x := 50) (Nat.le_of_ble_eq_true rfl)).mp (ax_gx hE (50, [3, 7]) ax_m1)
  have F79 : pz7 (pz_gt (ρ 0)) (pz_gN (ρ 0)) ((ρ 1) / 4) 9 := (ax_XF_lt (x := 79) (Nat.le_of_ble_eq_true rfl)).mp (ax_gx hE (79, [3, 7]) ax_m2)
  have F97 : (ρ 2) / 4 ≤ (ρ 1) / 4 := (ax_XF_lt (x := 97) (Nat.le_of_ble_eq_true rfl)).mp (ax_gx hE (97, [7, 11]) ax_m3)
  refine ⟨(fun y hy => by cases hy), _, List.mem_cons_self, ρ, fun _ _ => rfl, ax_px hE rfl (fun y hy => ?_)⟩
  cases List.mem_singleton.mp hy
  refine (ax_XF_lt (x := 95) (Nat.le_of_ble_eq_true rfl)).mpr ?_
  show pz95 (pz_gt (ρ 0)) (pz_gN (ρ 0)) ((ρ 1) / 4)
  have kd := pq_far (n := ρ 1 / 4) F79 (by decide) (show pz_gN (ρ 0) ≤ 800 from F30.2.1) (by omega)
  exact ⟨by omega, by omega, by omega⟩

theorem axq_rp8a_6 : ax_RO ax_wC ax_XC axu_rp8a_6 := by
  intro ρ hp hE hT
  have j0 : ρ 0 % 4 = 1 := pz_gj hE 0 (Nat.le_of_ble_eq_true rfl) rfl
  have j1 : ρ 1 % 4 = 1 := pz_gj hE 1 (Nat.le_of_ble_eq_true rfl) rfl
  obtain ⟨i2a, i2b, i2c, i2d⟩ := pz_gi hE 2 0 2147483684 (Nat.le_of_ble_eq_true rfl) rfl
  have c_kind : ay_at hp 8 7 = some (ρ 2) := ay_gfj hE 42 28 11 8 7 ax_m1 (ax_vlq rfl rfl) (ax_vlj rfl rfl)
  obtain ⟨-, -, -, -, F50⟩ : ay_ex hp 8 ∧ ay_ex hp 10 ∧ ay_ex hp 11 ∧ ay_ex hp 12 ∧ pz_x50 (ρ 0) (ρ 1) (ay_at hp 8 5) (ay_at hp 8 6) (ay_at hp 8 7) (ay_at hp 8 8) (ay_at hp 10 0) (ay_at hp 10 1) (ay_at hp 10 2) (ay_at hp 10 3) (ay_at hp 10 4) (ay_at hp 8 9) (ay_at hp 8 11) (ay_at hp 8 10) (ay_at hp 8 3) (ay_at hp 8 4) (ay_at hp 11) (ay_at hp 12) := (ax_XF_lt (x := 50) (Nat.le_of_ble_eq_true rfl)).mp (ax_gx hE (50, [3, 7]) ax_m0)
  rw [c_kind] at F50
  refine ⟨(fun y hy => by cases hy), _, List.mem_cons_self, ρ, fun _ _ => rfl, ax_px hE rfl (fun y hy => ?_)⟩
  cases List.mem_singleton.mp hy
  refine (ax_XF_lt (x := 95) (Nat.le_of_ble_eq_true rfl)).mpr ?_
  show pz95 (pz_gt (ρ 0)) (pz_gN (ρ 0)) ((ρ 1) / 4)
  have kd : ρ 2 / 4 = pz_kd (pz_gt (ρ 0)) (pz_gN (ρ 0)) (pz_p (pz_cf (pz_gt (ρ 0)) (pz_gN (ρ 0)) (ρ 1 / 4))) := F50.2.2.1
  exact ⟨by omega, by omega, by omega⟩

theorem axq_rp8b_6 : ax_RO ax_wC ax_XC axu_rp8b_6 := by
  intro ρ hp hE hT
  have j0 : ρ 0 % 4 = 1 := pz_gj hE 0 (Nat.le_of_ble_eq_true rfl) rfl
  have j1 : ρ 1 % 4 = 1 := pz_gj hE 1 (Nat.le_of_ble_eq_true rfl) rfl
  obtain ⟨i2a, i2b, i2c, i2d⟩ := pz_gi hE 2 2147483686 2147483689 (Nat.le_of_ble_eq_true rfl) rfl
  have c_kind : ay_at hp 8 7 = some (ρ 2) := ay_gfj hE 42 28 11 8 7 ax_m1 (ax_vlq rfl rfl) (ax_vlj rfl rfl)
  obtain ⟨-, -, -, -, F50⟩ : ay_ex hp 8 ∧ ay_ex hp 10 ∧ ay_ex hp 11 ∧ ay_ex hp 12 ∧ pz_x50 (ρ 0) (ρ 1) (ay_at hp 8 5) (ay_at hp 8 6) (ay_at hp 8 7) (ay_at hp 8 8) (ay_at hp 10 0) (ay_at hp 10 1) (ay_at hp 10 2) (ay_at hp 10 3) (ay_at hp 10 4) (ay_at hp 8 9) (ay_at hp 8 11) (ay_at hp 8 10) (ay_at hp 8 3) (ay_at hp 8 4) (ay_at hp 11) (ay_at hp 12) := (ax_XF_lt (x := 50) (Nat.le_of_ble_eq_true rfl)).mp (ax_gx hE (50, [3, 7]) ax_m0)
  rw [c_kind] at F50
  refine ⟨(fun y hy => by cases hy), _, List.mem_cons_self, ρ, fun _ _ => rfl, ax_px hE rfl (fun y hy => ?_)⟩
  cases List.mem_singleton.mp hy
  refine (ax_XF_lt (x := 95) (Nat.le_of_ble_eq_true rfl)).mpr ?_
  show pz95 (pz_gt (ρ 0)) (pz_gN (ρ 0)) ((ρ 1) / 4)
  have kd : ρ 2 / 4 = pz_kd (pz_gt (ρ 0)) (pz_gN (ρ 0)) (pz_p (pz_cf (pz_gt (ρ 0)) (pz_gN (ρ 0)) (ρ 1 / 4))) := F50.2.2.1
  exact ⟨by omega, by omega, by omega⟩

theorem axq_rp8c_6 : ax_RO ax_wC ax_XC axu_rp8c_6 := by
  intro ρ hp hE hT
  have j0 : ρ 0 % 4 = 1 := pz_gj hE 0 (Nat.le_of_ble_eq_true rfl) rfl
  have j1 : ρ 1 % 4 = 1 := pz_gj hE 1 (Nat.le_of_ble_eq_true rfl) rfl
  obtain ⟨i2a, i2b, i2c, i2d⟩ := pz_gi hE 2 2147483691 2147483694 (Nat.le_of_ble_eq_true rfl) rfl
  have c_kind : ay_at hp 8 7 = some (ρ 2) := ay_gfj hE 42 28 11 8 7 ax_m1 (ax_vlq rfl rfl) (ax_vlj rfl rfl)
  obtain ⟨-, -, -, -, F50⟩ : ay_ex hp 8 ∧ ay_ex hp 10 ∧ ay_ex hp 11 ∧ ay_ex hp 12 ∧ pz_x50 (ρ 0) (ρ 1) (ay_at hp 8 5) (ay_at hp 8 6) (ay_at hp 8 7) (ay_at hp 8 8) (ay_at hp 10 0) (ay_at hp 10 1) (ay_at hp 10 2) (ay_at hp 10 3) (ay_at hp 10 4) (ay_at hp 8 9) (ay_at hp 8 11) (ay_at hp 8 10) (ay_at hp 8 3) (ay_at hp 8 4) (ay_at hp 11) (ay_at hp 12) := (ax_XF_lt (x := 50) (Nat.le_of_ble_eq_true rfl)).mp (ax_gx hE (50, [3, 7]) ax_m0)
  rw [c_kind] at F50
  refine ⟨(fun y hy => by cases hy), _, List.mem_cons_self, ρ, fun _ _ => rfl, ax_px hE rfl (fun y hy => ?_)⟩
  cases List.mem_singleton.mp hy
  refine (ax_XF_lt (x := 95) (Nat.le_of_ble_eq_true rfl)).mpr ?_
  show pz95 (pz_gt (ρ 0)) (pz_gN (ρ 0)) ((ρ 1) / 4)
  have kd : ρ 2 / 4 = pz_kd (pz_gt (ρ 0)) (pz_gN (ρ 0)) (pz_p (pz_cf (pz_gt (ρ 0)) (pz_gN (ρ 0)) (ρ 1 / 4))) := F50.2.2.1
  exact ⟨by omega, by omega, by omega⟩

theorem axq_rp8d_6 : ax_RO ax_wC ax_XC axu_rp8d_6 := by
  intro ρ hp hE hT
  have j0 : ρ 0 % 4 = 1 := pz_gj hE 0 (Nat.le_of_ble_eq_true rfl) rfl
  have j1 : ρ 1 % 4 = 1 := pz_gj hE 1 (Nat.le_of_ble_eq_true rfl) rfl
  obtain ⟨i2a, i2b, i2c, i2d⟩ := pz_gi hE 2 2147483696 4294967295 (Nat.le_of_ble_eq_true rfl) rfl
  have c_kind : ay_at hp 8 7 = some (ρ 2) := ay_gfj hE 42 28 11 8 7 ax_m1 (ax_vlq rfl rfl) (ax_vlj rfl rfl)
  obtain ⟨-, -, -, -, F50⟩ : ay_ex hp 8 ∧ ay_ex hp 10 ∧ ay_ex hp 11 ∧ ay_ex hp 12 ∧ pz_x50 (ρ 0) (ρ 1) (ay_at hp 8 5) (ay_at hp 8 6) (ay_at hp 8 7) (ay_at hp 8 8) (ay_at hp 10 0) (ay_at hp 10 1) (ay_at hp 10 2) (ay_at hp 10 3) (ay_at hp 10 4) (ay_at hp 8 9) (ay_at hp 8 11) (ay_at hp 8 10) (ay_at hp 8 3) (ay_at hp 8 4) (ay_at hp 11) (ay_at hp 12) := (ax_XF_lt (x := 50) (Nat.le_of_ble_eq_true rfl)).mp (ax_gx hE (50, [3, 7]) ax_m0)
  rw [c_kind] at F50
  refine ⟨(fun y hy => by cases hy), _, List.mem_cons_self, ρ, fun _ _ => rfl, ax_px hE rfl (fun y hy => ?_)⟩
  cases List.mem_singleton.mp hy
  refine (ax_XF_lt (x := 95) (Nat.le_of_ble_eq_true rfl)).mpr ?_
  show pz95 (pz_gt (ρ 0)) (pz_gN (ρ 0)) ((ρ 1) / 4)
  have kd : ρ 2 / 4 = pz_kd (pz_gt (ρ 0)) (pz_gN (ρ 0)) (pz_p (pz_cf (pz_gt (ρ 0)) (pz_gN (ρ 0)) (ρ 1 / 4))) := F50.2.2.1
  exact ⟨by omega, by omega, by omega⟩

theorem axq_rq2_0 : ax_RO ax_wC ax_XC axu_rq2_0 := by
  intro ρ hp hE hT
  have j0 : ρ 0 % 4 = 1 := pz_gj hE 0 (Nat.le_of_ble_eq_true rfl) rfl
  have j1 : ρ 1 % 4 = 1 := pz_gj hE 1 (Nat.le_of_ble_eq_true rfl) rfl
  obtain ⟨-, -, -, -, F50⟩ : ay_ex hp 8 ∧ ay_ex hp 10 ∧ ay_ex hp 11 ∧ ay_ex hp 12 ∧ pz_x50 (ρ 0) (ρ 1) (ay_at hp 8 5) (ay_at hp 8 6) (ay_at hp 8 7) (ay_at hp 8 8) (ay_at hp 10 0) (ay_at hp 10 1) (ay_at hp 10 2) (ay_at hp 10 3) (ay_at hp 10 4) (ay_at hp 8 9) (ay_at hp 8 11) (ay_at hp 8 10) (ay_at hp 8 3) (ay_at hp 8 4) (ay_at hp 11) (ay_at hp 12) := (ax_XF_lt (x := 50) (Nat.le_of_ble_eq_true rfl)).mp (ax_gx hE (50, [3, 7]) ax_m0)
  refine ⟨(fun y hy => by cases hy), _, List.mem_cons_self, ρ, fun _ _ => rfl, ax_px hE rfl (fun y hy => ?_)⟩
  cases List.mem_singleton.mp hy
  refine (ax_XF_lt (x := 97) (Nat.le_of_ble_eq_true rfl)).mpr ?_
  show (0) / 4 ≤ (ρ 1) / 4
  exact Nat.zero_le _

theorem axq_rq3c43_0 : ax_RO ax_wC ax_XC axu_rq3c43_0 := by
  intro ρ hp hE hT
  have j0 : ρ 0 % 4 = 1 := pz_gj hE 0 (Nat.le_of_ble_eq_true rfl) rfl
  have j1 : ρ 1 % 4 = 1 := pz_gj hE 1 (Nat.le_of_ble_eq_true rfl) rfl
  have j2 : ρ 2 % 4 = 1 := pz_gj hE 2 (Nat.le_of_ble_eq_true rfl) rfl
  obtain ⟨i3a, i3b, i3c, i3d⟩ := pz_gi hE 3 2147483691 2147483691 (Nat.le_of_ble_eq_true rfl) rfl
  have j4 : ρ 4 % 4 = 1 := pz_gj hE 4 (Nat.le_of_ble_eq_true rfl) rfl
  have c_kind : ay_at hp 8 7 = some (ρ 3) := ay_gfj hE 42 28 15 8 7 ax_m3 (ax_vlq rfl rfl) (ax_vlj rfl rfl)
  have o1 : ρ 4 < ρ 1 := pz_go hE 19 7 (by decide)
  obtain ⟨-, -, -, -, F50⟩ : ay_ex hp 8 ∧ ay_ex hp 10 ∧ ay_ex hp 11 ∧ ay_ex hp 12 ∧ pz_x50 (ρ 0) (ρ 1) (ay_at hp 8 5) (ay_at hp 8 6) (ay_at hp 8 7) (ay_at hp 8 8) (ay_at hp 10 0) (ay_at hp 10 1) (ay_at hp 10 2) (ay_at hp 10 3) (ay_at hp 10 4) (ay_at hp 8 9) (ay_at hp 8 11) (ay_at hp 8 10) (ay_at hp 8 3) (ay_at hp 8 4) (ay_at hp 11) (ay_at hp 12) := (ax_XF_lt (x := 50) (Nat.le_of_ble_eq_true rfl)).mp (ax_gx hE (50, [3, 7]) ax_m0)
  rw [c_kind] at F50
  have F79 : pz7 (pz_gt (ρ 0)) (pz_gN (ρ 0)) ((ρ 1) / 4) 9 := (ax_XF_lt (x := 79) (Nat.le_of_ble_eq_true rfl)).mp (ax_gx hE (79, [3, 7]) ax_m1)
  have F90 : (pz90 (pz_gt (ρ 0)) (pz_gN (ρ 0)) ((ρ 1) / 4) ((ρ 2) / 4) ∧ 1 ≤ (ρ 2) / 4) := (ax_XF_lt (x := 90) (Nat.le_of_ble_eq_true rfl)).mp (ax_gx hE (90, [3, 7, 11]) ax_m2)
  have st := pq_op F50 F79 F90.1 (show pz_op (ρ 3 / 4) = true by rw [show ρ 3 / 4 = 43 by omega]; rfl)
  obtain ⟨ρ', h1, h2⟩ := pz_pn1 (K := ρ 1 / 4 + 1) (xf := [(53, [3, 23]), (78, [3, 23]), (90, [3, 23, 11]), (1030, [7, 23]), (98, [7, 23]), (1030, [19, 23])]) hE (by decide) (fun ρ' h1 h2 x hx => by
    have q0 : ρ' 0 = ρ 0 := h1 0 (by decide)
    have q1 : ρ' 1 = ρ 1 := h1 1 (by decide)
    have q2 : ρ' 2 = ρ 2 := h1 2 (by decide)
    have q3 : ρ' 3 = ρ 3 := h1 3 (by decide)
    have q4 : ρ' 4 = ρ 4 := h1 4 (by decide)
    rcases List.mem_cons.mp hx with e | hx
    · subst e
      refine (ax_XF_lt (x := 53) (Nat.le_of_ble_eq_true rfl)).mpr ?_
      show ay_ex hp 8 ∧ ay_ex hp 10 ∧ ay_ex hp 11 ∧ ay_ex hp 12 ∧ pz_x53 (ρ' 0) (ρ' 5) (ay_at hp 8 5) (ay_at hp 10 0) (ay_at hp 10 1) (ay_at hp 10 2) (ay_at hp 10 3) (ay_at hp 10 4) (ay_at hp 8 9) (ay_at hp 8 11) (ay_at hp 8 10) (ay_at hp 8 3) (ay_at hp 8 4) (ay_at hp 11) (ay_at hp 12)
      rw [q0, h2]
      exact ⟨(ax_cellT hT (q := 8) (g := 2) rfl), (ax_cellT hT (q := 10) (g := 1) rfl), (ax_cellT hT (q := 11) (g := 14) rfl), (ax_cellT hT (q := 12) (g := 15) rfl), pz_53 (pz_41 _) rfl st.1⟩
    rcases List.mem_cons.mp hx with e | hx
    · subst e
      refine (ax_XF_lt (x := 78) (Nat.le_of_ble_eq_true rfl)).mpr ?_
      show pz7 (pz_gt (ρ' 0)) (pz_gN (ρ' 0)) ((ρ' 5) / 4) 8
      rw [q0, h2]
      rw [pz_41]
      exact st.2.1
    rcases List.mem_cons.mp hx with e | hx
    · subst e
      refine (ax_XF_lt (x := 90) (Nat.le_of_ble_eq_true rfl)).mpr ?_
      show (pz90 (pz_gt (ρ' 0)) (pz_gN (ρ' 0)) ((ρ' 5) / 4) ((ρ' 2) / 4) ∧ 1 ≤ (ρ' 2) / 4)
      rw [q0, q2, h2]
      rw [pz_41]
      exact ⟨st.2.2, F90.2⟩
    rcases List.mem_cons.mp hx with e | hx
    · subst e
      refine (ax_XF_bi (o := 30) (by decide)).mpr (Or.inr ⟨rfl, ?_⟩)
      show ρ' 1 < ρ' 5
      rw [q1, h2]
      omega
    rcases List.mem_cons.mp hx with e | hx
    · subst e
      refine (ax_XF_lt (x := 98) (Nat.le_of_ble_eq_true rfl)).mpr ?_
      show (ρ' 5) / 4 = (ρ' 1) / 4 + 1
      rw [q1, h2]
      rw [pz_41]
    cases List.mem_singleton.mp hx
    refine (ax_XF_bi (o := 30) (by decide)).mpr (Or.inr ⟨rfl, ?_⟩)
    show ρ' 4 < ρ' 5
    rw [q4, h2]
    omega)
  exact ⟨(fun y hy => by cases hy), _, List.mem_cons_self, ρ', h1, h2⟩

theorem axq_rq3c45_0 : ax_RO ax_wC ax_XC axu_rq3c45_0 := by
  intro ρ hp hE hT
  have j0 : ρ 0 % 4 = 1 := pz_gj hE 0 (Nat.le_of_ble_eq_true rfl) rfl
  have j1 : ρ 1 % 4 = 1 := pz_gj hE 1 (Nat.le_of_ble_eq_true rfl) rfl
  have j2 : ρ 2 % 4 = 1 := pz_gj hE 2 (Nat.le_of_ble_eq_true rfl) rfl
  obtain ⟨i3a, i3b, i3c, i3d⟩ := pz_gi hE 3 2147483693 2147483693 (Nat.le_of_ble_eq_true rfl) rfl
  have j4 : ρ 4 % 4 = 1 := pz_gj hE 4 (Nat.le_of_ble_eq_true rfl) rfl
  have c_kind : ay_at hp 8 7 = some (ρ 3) := ay_gfj hE 42 28 15 8 7 ax_m3 (ax_vlq rfl rfl) (ax_vlj rfl rfl)
  have o1 : ρ 4 < ρ 1 := pz_go hE 19 7 (by decide)
  obtain ⟨-, -, -, -, F50⟩ : ay_ex hp 8 ∧ ay_ex hp 10 ∧ ay_ex hp 11 ∧ ay_ex hp 12 ∧ pz_x50 (ρ 0) (ρ 1) (ay_at hp 8 5) (ay_at hp 8 6) (ay_at hp 8 7) (ay_at hp 8 8) (ay_at hp 10 0) (ay_at hp 10 1) (ay_at hp 10 2) (ay_at hp 10 3) (ay_at hp 10 4) (ay_at hp 8 9) (ay_at hp 8 11) (ay_at hp 8 10) (ay_at hp 8 3) (ay_at hp 8 4) (ay_at hp 11) (ay_at hp 12) := (ax_XF_lt (x := 50) (Nat.le_of_ble_eq_true rfl)).mp (ax_gx hE (50, [3, 7]) ax_m0)
  rw [c_kind] at F50
  have F79 : pz7 (pz_gt (ρ 0)) (pz_gN (ρ 0)) ((ρ 1) / 4) 9 := (ax_XF_lt (x := 79) (Nat.le_of_ble_eq_true rfl)).mp (ax_gx hE (79, [3, 7]) ax_m1)
  have F90 : (pz90 (pz_gt (ρ 0)) (pz_gN (ρ 0)) ((ρ 1) / 4) ((ρ 2) / 4) ∧ 1 ≤ (ρ 2) / 4) := (ax_XF_lt (x := 90) (Nat.le_of_ble_eq_true rfl)).mp (ax_gx hE (90, [3, 7, 11]) ax_m2)
  have st := pq_op F50 F79 F90.1 (show pz_op (ρ 3 / 4) = true by rw [show ρ 3 / 4 = 45 by omega]; rfl)
  obtain ⟨ρ', h1, h2⟩ := pz_pn1 (K := ρ 1 / 4 + 1) (xf := [(53, [3, 23]), (78, [3, 23]), (90, [3, 23, 11]), (1030, [7, 23]), (98, [7, 23]), (1030, [19, 23])]) hE (by decide) (fun ρ' h1 h2 x hx => by
    have q0 : ρ' 0 = ρ 0 := h1 0 (by decide)
    have q1 : ρ' 1 = ρ 1 := h1 1 (by decide)
    have q2 : ρ' 2 = ρ 2 := h1 2 (by decide)
    have q3 : ρ' 3 = ρ 3 := h1 3 (by decide)
    have q4 : ρ' 4 = ρ 4 := h1 4 (by decide)
    rcases List.mem_cons.mp hx with e | hx
    · subst e
      refine (ax_XF_lt (x := 53) (Nat.le_of_ble_eq_true rfl)).mpr ?_
      show ay_ex hp 8 ∧ ay_ex hp 10 ∧ ay_ex hp 11 ∧ ay_ex hp 12 ∧ pz_x53 (ρ' 0) (ρ' 5) (ay_at hp 8 5) (ay_at hp 10 0) (ay_at hp 10 1) (ay_at hp 10 2) (ay_at hp 10 3) (ay_at hp 10 4) (ay_at hp 8 9) (ay_at hp 8 11) (ay_at hp 8 10) (ay_at hp 8 3) (ay_at hp 8 4) (ay_at hp 11) (ay_at hp 12)
      rw [q0, h2]
      exact ⟨(ax_cellT hT (q := 8) (g := 2) rfl), (ax_cellT hT (q := 10) (g := 1) rfl), (ax_cellT hT (q := 11) (g := 14) rfl), (ax_cellT hT (q := 12) (g := 15) rfl), pz_53 (pz_41 _) rfl st.1⟩
    rcases List.mem_cons.mp hx with e | hx
    · subst e
      refine (ax_XF_lt (x := 78) (Nat.le_of_ble_eq_true rfl)).mpr ?_
      show pz7 (pz_gt (ρ' 0)) (pz_gN (ρ' 0)) ((ρ' 5) / 4) 8
      rw [q0, h2]
      rw [pz_41]
      exact st.2.1
    rcases List.mem_cons.mp hx with e | hx
    · subst e
      refine (ax_XF_lt (x := 90) (Nat.le_of_ble_eq_true rfl)).mpr ?_
      show (pz90 (pz_gt (ρ' 0)) (pz_gN (ρ' 0)) ((ρ' 5) / 4) ((ρ' 2) / 4) ∧ 1 ≤ (ρ' 2) / 4)
      rw [q0, q2, h2]
      rw [pz_41]
      exact ⟨st.2.2, F90.2⟩
    rcases List.mem_cons.mp hx with e | hx
    · subst e
      refine (ax_XF_bi (o := 30) (by decide)).mpr (Or.inr ⟨rfl, ?_⟩)
      show ρ' 1 < ρ' 5
      rw [q1, h2]
      omega
    rcases List.mem_cons.mp hx with e | hx
    · subst e
      refine (ax_XF_lt (x := 98) (Nat.le_of_ble_eq_true rfl)).mpr ?_
      show (ρ' 5) / 4 = (ρ' 1) / 4 + 1
      rw [q1, h2]
      rw [pz_41]
    cases List.mem_singleton.mp hx
    refine (ax_XF_bi (o := 30) (by decide)).mpr (Or.inr ⟨rfl, ?_⟩)
    show ρ' 4 < ρ' 5
    rw [q4, h2]
    omega)
  exact ⟨(fun y hy => by cases hy), _, List.mem_cons_self, ρ', h1, h2⟩

theorem axq_rq5_0 : ax_RO ax_wC ax_XC axu_rq5_0 := by
  intro ρ hp hE hT
  have j0 : ρ 0 % 4 = 1 := pz_gj hE 0 (Nat.le_of_ble_eq_true rfl) rfl
  have j1 : ρ 1 % 4 = 1 := pz_gj hE 1 (Nat.le_of_ble_eq_true rfl) rfl
  have j2 : ρ 2 % 4 = 1 := pz_gj hE 2 (Nat.le_of_ble_eq_true rfl) rfl
  have j3 : ρ 3 % 4 = 1 := pz_gj hE 3 (Nat.le_of_ble_eq_true rfl) rfl
  have j4 : ρ 4 % 4 = 1 := pz_gj hE 4 (Nat.le_of_ble_eq_true rfl) rfl
  have o1 : ρ 2 < ρ 1 := pz_go hE 11 7 (by decide)
  have o2 : ρ 3 < ρ 2 := pz_go hE 15 11 (by decide)
  have o3 : ρ 4 < ρ 3 := pz_go hE 19 15 (by decide)
  obtain ⟨-, -, -, -, F50⟩ : ay_ex hp 8 ∧ ay_ex hp 10 ∧ ay_ex hp 11 ∧ ay_ex hp 12 ∧ pz_x50 (ρ 0) (ρ 1) (ay_at hp 8 5) (ay_at hp 8 6) (ay_at hp 8 7) (ay_at hp 8 8) (ay_at hp 10 0) (ay_at hp 10 1) (ay_at hp 10 2) (ay_at hp 10 3) (ay_at hp 10 4) (ay_at hp 8 9) (ay_at hp 8 11) (ay_at hp 8 10) (ay_at hp 8 3) (ay_at hp 8 4) (ay_at hp 11) (ay_at hp 12) := (ax_XF_lt (x := 50) (Nat.le_of_ble_eq_true rfl)).mp (ax_gx hE (50, [3, 7]) ax_m0)
  refine ⟨(fun y hy => by cases hy), _, List.mem_cons_self, ρ, fun _ _ => rfl, ax_px hE rfl (fun y hy => ?_)⟩
  rcases List.mem_cons.mp hy with e | hy
  · subst e
    refine (ax_XF_bi (o := 30) (by decide)).mpr (Or.inr ⟨rfl, ?_⟩)
    show ρ 4 < ρ 1
    omega
  cases List.mem_singleton.mp hy
  refine (ax_XF_bi (o := 30) (by decide)).mpr (Or.inr ⟨rfl, ?_⟩)
  show ρ 3 < ρ 1
  omega

theorem axq_rq6_0 : ax_RO ax_wC ax_XC axu_rq6_0 := by
  intro ρ hp hE hT
  have j0 : ρ 0 % 4 = 1 := pz_gj hE 0 (Nat.le_of_ble_eq_true rfl) rfl
  have j1 : ρ 1 % 4 = 1 := pz_gj hE 1 (Nat.le_of_ble_eq_true rfl) rfl
  have j2 : ρ 2 % 4 = 1 := pz_gj hE 2 (Nat.le_of_ble_eq_true rfl) rfl
  obtain ⟨i3a, i3b, i3c, i3d⟩ := pz_gi hE 3 2147483648 2147484447 (Nat.le_of_ble_eq_true rfl) rfl
  obtain ⟨i4a, i4b, i4c, i4d⟩ := pz_gi hE 4 0 4294967295 (Nat.le_of_ble_eq_true rfl) rfl
  have s1 : (ρ 3 / 4 + 2147483648) % 4294967296 + (4 / 4 + 2147483648) % 4294967296 = (ρ 4 / 4 + 2147483648) % 4294967296 + 2147483648 := pz_gs hE 15 4 19 ax_m1
  have o1 : ρ 2 < ρ 1 := pz_go hE 11 7 (by decide)
  obtain ⟨-, -, -, -, F50⟩ : ay_ex hp 8 ∧ ay_ex hp 10 ∧ ay_ex hp 11 ∧ ay_ex hp 12 ∧ pz_x50 (ρ 0) (ρ 1) (ay_at hp 8 5) (ay_at hp 8 6) (ay_at hp 8 7) (ay_at hp 8 8) (ay_at hp 10 0) (ay_at hp 10 1) (ay_at hp 10 2) (ay_at hp 10 3) (ay_at hp 10 4) (ay_at hp 8 9) (ay_at hp 8 11) (ay_at hp 8 10) (ay_at hp 8 3) (ay_at hp 8 4) (ay_at hp 11) (ay_at hp 12) := (ax_XF_lt (x := 50) (Nat.le_of_ble_eq_true rfl)).mp (ax_gx hE (50, [3, 7]) ax_m0)
  have F97 : (ρ 3) / 4 ≤ (ρ 2) / 4 := (ax_XF_lt (x := 97) (Nat.le_of_ble_eq_true rfl)).mp (ax_gx hE (97, [11, 15]) ax_m2)
  refine ⟨(fun y hy => by cases hy), _, List.mem_cons_self, ρ, fun _ _ => rfl, ax_px hE rfl (fun y hy => ?_)⟩
  cases List.mem_singleton.mp hy
  refine (ax_XF_lt (x := 97) (Nat.le_of_ble_eq_true rfl)).mpr ?_
  show (ρ 4) / 4 ≤ (ρ 1) / 4
  omega

theorem axq_rq7_0 : ax_RO ax_wC ax_XC axu_rq7_0 := by
  intro ρ hp hE hT
  have j0 : ρ 0 % 4 = 1 := pz_gj hE 0 (Nat.le_of_ble_eq_true rfl) rfl
  have j1 : ρ 1 % 4 = 1 := pz_gj hE 1 (Nat.le_of_ble_eq_true rfl) rfl
  obtain ⟨i2a, i2b, i2c, i2d⟩ := pz_gi hE 2 2147484448 2147484448 (Nat.le_of_ble_eq_true rfl) rfl
  obtain ⟨-, -, F30⟩ : ay_ex hp 8 ∧ ay_ex hp 9 ∧ pz_x30 (ρ 0) (ay_at hp 8 1) (ay_at hp 9) := (ax_XF_lt (x := 30) (Nat.le_of_ble_eq_true rfl)).mp (ax_gx hE (30, [3]) ax_m0)
  obtain ⟨-, -, -, -, F50⟩ : ay_ex hp 8 ∧ ay_ex hp 10 ∧ ay_ex hp 11 ∧ ay_ex hp 12 ∧ pz_x50 (ρ 0) (ρ 1) (ay_at hp 8 5) (ay_at hp 8 6) (ay_at hp 8 7) (ay_at hp 8 8) (ay_at hp 10 0) (ay_at hp 10 1) (ay_at hp 10 2) (ay_at hp 10 3) (ay_at hp 10 4) (ay_at hp 8 9) (ay_at hp 8 11) (ay_at hp 8 10) (ay_at hp 8 3) (ay_at hp 8 4) (ay_at hp 11) (ay_at hp 12) := (ax_XF_lt (x := 50) (Nat.le_of_ble_eq_true rfl)).mp (ax_gx hE (50, [3, 7]) ax_m1)
  have F79 : pz7 (pz_gt (ρ 0)) (pz_gN (ρ 0)) ((ρ 1) / 4) 9 := (ax_XF_lt (x := 79) (Nat.le_of_ble_eq_true rfl)).mp (ax_gx hE (79, [3, 7]) ax_m2)
  have F97 : (ρ 2) / 4 ≤ (ρ 1) / 4 := (ax_XF_lt (x := 97) (Nat.le_of_ble_eq_true rfl)).mp (ax_gx hE (97, [7, 11]) ax_m3)
  refine ⟨(fun y hy => by cases hy), _, List.mem_cons_self, ρ, fun _ _ => rfl, ax_px hE rfl (fun y hy => ?_)⟩
  cases List.mem_singleton.mp hy
  refine (ax_XF_lt (x := 94) (Nat.le_of_ble_eq_true rfl)).mpr ?_
  show pz94 (pz_gt (ρ 0)) (pz_gN (ρ 0)) ((ρ 1) / 4)
  have kd := pq_far (n := ρ 1 / 4) F79 (by decide) (show pz_gN (ρ 0) ≤ 800 from F30.2.1) (by omega)
  show pz_op (pz_kd (pz_gt (ρ 0)) (pz_gN (ρ 0)) (pz_p (pz_cf (pz_gt (ρ 0)) (pz_gN (ρ 0)) (ρ 1 / 4)))) = false
  rw [kd]
  rfl

theorem axq_rq8a_0 : ax_RO ax_wC ax_XC axu_rq8a_0 := by
  intro ρ hp hE hT
  have j0 : ρ 0 % 4 = 1 := pz_gj hE 0 (Nat.le_of_ble_eq_true rfl) rfl
  have j1 : ρ 1 % 4 = 1 := pz_gj hE 1 (Nat.le_of_ble_eq_true rfl) rfl
  obtain ⟨i2a, i2b, i2c, i2d⟩ := pz_gi hE 2 0 2147483690 (Nat.le_of_ble_eq_true rfl) rfl
  have c_kind : ay_at hp 8 7 = some (ρ 2) := ay_gfj hE 42 28 11 8 7 ax_m1 (ax_vlq rfl rfl) (ax_vlj rfl rfl)
  obtain ⟨-, -, -, -, F50⟩ : ay_ex hp 8 ∧ ay_ex hp 10 ∧ ay_ex hp 11 ∧ ay_ex hp 12 ∧ pz_x50 (ρ 0) (ρ 1) (ay_at hp 8 5) (ay_at hp 8 6) (ay_at hp 8 7) (ay_at hp 8 8) (ay_at hp 10 0) (ay_at hp 10 1) (ay_at hp 10 2) (ay_at hp 10 3) (ay_at hp 10 4) (ay_at hp 8 9) (ay_at hp 8 11) (ay_at hp 8 10) (ay_at hp 8 3) (ay_at hp 8 4) (ay_at hp 11) (ay_at hp 12) := (ax_XF_lt (x := 50) (Nat.le_of_ble_eq_true rfl)).mp (ax_gx hE (50, [3, 7]) ax_m0)
  rw [c_kind] at F50
  have F95 : pz95 (pz_gt (ρ 0)) (pz_gN (ρ 0)) ((ρ 1) / 4) := (ax_XF_lt (x := 95) (Nat.le_of_ble_eq_true rfl)).mp (ax_gx hE (95, [3, 7]) ax_m2)
  refine ⟨(fun y hy => by cases hy), _, List.mem_cons_self, ρ, fun _ _ => rfl, ax_px hE rfl (fun y hy => ?_)⟩
  cases List.mem_singleton.mp hy
  refine (ax_XF_lt (x := 94) (Nat.le_of_ble_eq_true rfl)).mpr ?_
  show pz94 (pz_gt (ρ 0)) (pz_gN (ρ 0)) ((ρ 1) / 4)
  have kd : ρ 2 / 4 = pz_kd (pz_gt (ρ 0)) (pz_gN (ρ 0)) (pz_p (pz_cf (pz_gt (ρ 0)) (pz_gN (ρ 0)) (ρ 1 / 4))) := F50.2.2.1
  exact pz_op_no (by omega) (by omega) F95

theorem axq_rq8b_0 : ax_RO ax_wC ax_XC axu_rq8b_0 := by
  intro ρ hp hE hT
  have j0 : ρ 0 % 4 = 1 := pz_gj hE 0 (Nat.le_of_ble_eq_true rfl) rfl
  have j1 : ρ 1 % 4 = 1 := pz_gj hE 1 (Nat.le_of_ble_eq_true rfl) rfl
  obtain ⟨i2a, i2b, i2c, i2d⟩ := pz_gi hE 2 2147483692 2147483692 (Nat.le_of_ble_eq_true rfl) rfl
  have c_kind : ay_at hp 8 7 = some (ρ 2) := ay_gfj hE 42 28 11 8 7 ax_m1 (ax_vlq rfl rfl) (ax_vlj rfl rfl)
  obtain ⟨-, -, -, -, F50⟩ : ay_ex hp 8 ∧ ay_ex hp 10 ∧ ay_ex hp 11 ∧ ay_ex hp 12 ∧ pz_x50 (ρ 0) (ρ 1) (ay_at hp 8 5) (ay_at hp 8 6) (ay_at hp 8 7) (ay_at hp 8 8) (ay_at hp 10 0) (ay_at hp 10 1) (ay_at hp 10 2) (ay_at hp 10 3) (ay_at hp 10 4) (ay_at hp 8 9) (ay_at hp 8 11) (ay_at hp 8 10) (ay_at hp 8 3) (ay_at hp 8 4) (ay_at hp 11) (ay_at hp 12) := (ax_XF_lt (x := 50) (Nat.le_of_ble_eq_true rfl)).mp (ax_gx hE (50, [3, 7]) ax_m0)
  rw [c_kind] at F50
  have F95 : pz95 (pz_gt (ρ 0)) (pz_gN (ρ 0)) ((ρ 1) / 4) := (ax_XF_lt (x := 95) (Nat.le_of_ble_eq_true rfl)).mp (ax_gx hE (95, [3, 7]) ax_m2)
  refine ⟨(fun y hy => by cases hy), _, List.mem_cons_self, ρ, fun _ _ => rfl, ax_px hE rfl (fun y hy => ?_)⟩
  cases List.mem_singleton.mp hy
  refine (ax_XF_lt (x := 94) (Nat.le_of_ble_eq_true rfl)).mpr ?_
  show pz94 (pz_gt (ρ 0)) (pz_gN (ρ 0)) ((ρ 1) / 4)
  have kd : ρ 2 / 4 = pz_kd (pz_gt (ρ 0)) (pz_gN (ρ 0)) (pz_p (pz_cf (pz_gt (ρ 0)) (pz_gN (ρ 0)) (ρ 1 / 4))) := F50.2.2.1
  exact pz_op_no (by omega) (by omega) F95

theorem axq_rq8c_0 : ax_RO ax_wC ax_XC axu_rq8c_0 := by
  intro ρ hp hE hT
  have j0 : ρ 0 % 4 = 1 := pz_gj hE 0 (Nat.le_of_ble_eq_true rfl) rfl
  have j1 : ρ 1 % 4 = 1 := pz_gj hE 1 (Nat.le_of_ble_eq_true rfl) rfl
  obtain ⟨i2a, i2b, i2c, i2d⟩ := pz_gi hE 2 2147483694 4294967295 (Nat.le_of_ble_eq_true rfl) rfl
  have c_kind : ay_at hp 8 7 = some (ρ 2) := ay_gfj hE 42 28 11 8 7 ax_m1 (ax_vlq rfl rfl) (ax_vlj rfl rfl)
  obtain ⟨-, -, -, -, F50⟩ : ay_ex hp 8 ∧ ay_ex hp 10 ∧ ay_ex hp 11 ∧ ay_ex hp 12 ∧ pz_x50 (ρ 0) (ρ 1) (ay_at hp 8 5) (ay_at hp 8 6) (ay_at hp 8 7) (ay_at hp 8 8) (ay_at hp 10 0) (ay_at hp 10 1) (ay_at hp 10 2) (ay_at hp 10 3) (ay_at hp 10 4) (ay_at hp 8 9) (ay_at hp 8 11) (ay_at hp 8 10) (ay_at hp 8 3) (ay_at hp 8 4) (ay_at hp 11) (ay_at hp 12) := (ax_XF_lt (x := 50) (Nat.le_of_ble_eq_true rfl)).mp (ax_gx hE (50, [3, 7]) ax_m0)
  rw [c_kind] at F50
  have F95 : pz95 (pz_gt (ρ 0)) (pz_gN (ρ 0)) ((ρ 1) / 4) := (ax_XF_lt (x := 95) (Nat.le_of_ble_eq_true rfl)).mp (ax_gx hE (95, [3, 7]) ax_m2)
  refine ⟨(fun y hy => by cases hy), _, List.mem_cons_self, ρ, fun _ _ => rfl, ax_px hE rfl (fun y hy => ?_)⟩
  cases List.mem_singleton.mp hy
  refine (ax_XF_lt (x := 94) (Nat.le_of_ble_eq_true rfl)).mpr ?_
  show pz94 (pz_gt (ρ 0)) (pz_gN (ρ 0)) ((ρ 1) / 4)
  have kd : ρ 2 / 4 = pz_kd (pz_gt (ρ 0)) (pz_gN (ρ 0)) (pz_p (pz_cf (pz_gt (ρ 0)) (pz_gN (ρ 0)) (ρ 1 / 4))) := F50.2.2.1
  exact pz_op_no (by omega) (by omega) F95

theorem axq_rq2_1 : ax_RO ax_wC ax_XC axu_rq2_1 := by
  intro ρ hp hE hT
  have j0 : ρ 0 % 4 = 1 := pz_gj hE 0 (Nat.le_of_ble_eq_true rfl) rfl
  have j1 : ρ 1 % 4 = 1 := pz_gj hE 1 (Nat.le_of_ble_eq_true rfl) rfl
  obtain ⟨-, -, -, -, F50⟩ : ay_ex hp 8 ∧ ay_ex hp 10 ∧ ay_ex hp 11 ∧ ay_ex hp 12 ∧ pz_x50 (ρ 0) (ρ 1) (ay_at hp 8 5) (ay_at hp 8 6) (ay_at hp 8 7) (ay_at hp 8 8) (ay_at hp 10 0) (ay_at hp 10 1) (ay_at hp 10 2) (ay_at hp 10 3) (ay_at hp 10 4) (ay_at hp 8 9) (ay_at hp 8 11) (ay_at hp 8 10) (ay_at hp 8 3) (ay_at hp 8 4) (ay_at hp 11) (ay_at hp 12) := (ax_XF_lt (x := 50) (Nat.le_of_ble_eq_true rfl)).mp (ax_gx hE (50, [3, 7]) ax_m0)
  refine ⟨(fun y hy => by cases hy), _, List.mem_cons_self, ρ, fun _ _ => rfl, ax_px hE rfl (fun y hy => ?_)⟩
  cases List.mem_singleton.mp hy
  refine (ax_XF_lt (x := 97) (Nat.le_of_ble_eq_true rfl)).mpr ?_
  show (0) / 4 ≤ (ρ 1) / 4
  exact Nat.zero_le _

theorem axq_rq3c43_1 : ax_RO ax_wC ax_XC axu_rq3c43_1 := by
  intro ρ hp hE hT
  have j0 : ρ 0 % 4 = 1 := pz_gj hE 0 (Nat.le_of_ble_eq_true rfl) rfl
  have j1 : ρ 1 % 4 = 1 := pz_gj hE 1 (Nat.le_of_ble_eq_true rfl) rfl
  have j2 : ρ 2 % 4 = 1 := pz_gj hE 2 (Nat.le_of_ble_eq_true rfl) rfl
  obtain ⟨i3a, i3b, i3c, i3d⟩ := pz_gi hE 3 2147483691 2147483691 (Nat.le_of_ble_eq_true rfl) rfl
  have j4 : ρ 4 % 4 = 1 := pz_gj hE 4 (Nat.le_of_ble_eq_true rfl) rfl
  have c_kind : ay_at hp 8 7 = some (ρ 3) := ay_gfj hE 42 28 15 8 7 ax_m3 (ax_vlq rfl rfl) (ax_vlj rfl rfl)
  have o1 : ρ 4 < ρ 1 := pz_go hE 19 7 (by decide)
  obtain ⟨-, -, -, -, F50⟩ : ay_ex hp 8 ∧ ay_ex hp 10 ∧ ay_ex hp 11 ∧ ay_ex hp 12 ∧ pz_x50 (ρ 0) (ρ 1) (ay_at hp 8 5) (ay_at hp 8 6) (ay_at hp 8 7) (ay_at hp 8 8) (ay_at hp 10 0) (ay_at hp 10 1) (ay_at hp 10 2) (ay_at hp 10 3) (ay_at hp 10 4) (ay_at hp 8 9) (ay_at hp 8 11) (ay_at hp 8 10) (ay_at hp 8 3) (ay_at hp 8 4) (ay_at hp 11) (ay_at hp 12) := (ax_XF_lt (x := 50) (Nat.le_of_ble_eq_true rfl)).mp (ax_gx hE (50, [3, 7]) ax_m0)
  rw [c_kind] at F50
  have F79 : pz7 (pz_gt (ρ 0)) (pz_gN (ρ 0)) ((ρ 1) / 4) 9 := (ax_XF_lt (x := 79) (Nat.le_of_ble_eq_true rfl)).mp (ax_gx hE (79, [3, 7]) ax_m1)
  have F90 : (pz90 (pz_gt (ρ 0)) (pz_gN (ρ 0)) ((ρ 1) / 4) ((ρ 2) / 4) ∧ 1 ≤ (ρ 2) / 4) := (ax_XF_lt (x := 90) (Nat.le_of_ble_eq_true rfl)).mp (ax_gx hE (90, [3, 7, 11]) ax_m2)
  have st := pq_op F50 F79 F90.1 (show pz_op (ρ 3 / 4) = true by rw [show ρ 3 / 4 = 43 by omega]; rfl)
  obtain ⟨ρ', h1, h2⟩ := pz_pn1 (K := ρ 1 / 4 + 1) (xf := [(53, [3, 23]), (78, [3, 23]), (90, [3, 23, 11]), (1030, [7, 23]), (98, [7, 23]), (1030, [19, 23])]) hE (by decide) (fun ρ' h1 h2 x hx => by
    have q0 : ρ' 0 = ρ 0 := h1 0 (by decide)
    have q1 : ρ' 1 = ρ 1 := h1 1 (by decide)
    have q2 : ρ' 2 = ρ 2 := h1 2 (by decide)
    have q3 : ρ' 3 = ρ 3 := h1 3 (by decide)
    have q4 : ρ' 4 = ρ 4 := h1 4 (by decide)
    rcases List.mem_cons.mp hx with e | hx
    · subst e
      refine (ax_XF_lt (x := 53) (Nat.le_of_ble_eq_true rfl)).mpr ?_
      show ay_ex hp 8 ∧ ay_ex hp 10 ∧ ay_ex hp 11 ∧ ay_ex hp 12 ∧ pz_x53 (ρ' 0) (ρ' 5) (ay_at hp 8 5) (ay_at hp 10 0) (ay_at hp 10 1) (ay_at hp 10 2) (ay_at hp 10 3) (ay_at hp 10 4) (ay_at hp 8 9) (ay_at hp 8 11) (ay_at hp 8 10) (ay_at hp 8 3) (ay_at hp 8 4) (ay_at hp 11) (ay_at hp 12)
      rw [q0, h2]
      exact ⟨(ax_cellT hT (q := 8) (g := 2) rfl), (ax_cellT hT (q := 10) (g := 1) rfl), (ax_cellT hT (q := 11) (g := 14) rfl), (ax_cellT hT (q := 12) (g := 15) rfl), pz_53 (pz_41 _) rfl st.1⟩
    rcases List.mem_cons.mp hx with e | hx
    · subst e
      refine (ax_XF_lt (x := 78) (Nat.le_of_ble_eq_true rfl)).mpr ?_
      show pz7 (pz_gt (ρ' 0)) (pz_gN (ρ' 0)) ((ρ' 5) / 4) 8
      rw [q0, h2]
      rw [pz_41]
      exact st.2.1
    rcases List.mem_cons.mp hx with e | hx
    · subst e
      refine (ax_XF_lt (x := 90) (Nat.le_of_ble_eq_true rfl)).mpr ?_
      show (pz90 (pz_gt (ρ' 0)) (pz_gN (ρ' 0)) ((ρ' 5) / 4) ((ρ' 2) / 4) ∧ 1 ≤ (ρ' 2) / 4)
      rw [q0, q2, h2]
      rw [pz_41]
      exact ⟨st.2.2, F90.2⟩
    rcases List.mem_cons.mp hx with e | hx
    · subst e
      refine (ax_XF_bi (o := 30) (by decide)).mpr (Or.inr ⟨rfl, ?_⟩)
      show ρ' 1 < ρ' 5
      rw [q1, h2]
      omega
    rcases List.mem_cons.mp hx with e | hx
    · subst e
      refine (ax_XF_lt (x := 98) (Nat.le_of_ble_eq_true rfl)).mpr ?_
      show (ρ' 5) / 4 = (ρ' 1) / 4 + 1
      rw [q1, h2]
      rw [pz_41]
    cases List.mem_singleton.mp hx
    refine (ax_XF_bi (o := 30) (by decide)).mpr (Or.inr ⟨rfl, ?_⟩)
    show ρ' 4 < ρ' 5
    rw [q4, h2]
    omega)
  exact ⟨(fun y hy => by cases hy), _, List.mem_cons_self, ρ', h1, h2⟩

theorem axq_rq3c45_1 : ax_RO ax_wC ax_XC axu_rq3c45_1 := by
  intro ρ hp hE hT
  have j0 : ρ 0 % 4 = 1 := pz_gj hE 0 (Nat.le_of_ble_eq_true rfl) rfl
  have j1 : ρ 1 % 4 = 1 := pz_gj hE 1 (Nat.le_of_ble_eq_true rfl) rfl
  have j2 : ρ 2 % 4 = 1 := pz_gj hE 2 (Nat.le_of_ble_eq_true rfl) rfl
  obtain ⟨i3a, i3b, i3c, i3d⟩ := pz_gi hE 3 2147483693 2147483693 (Nat.le_of_ble_eq_true rfl) rfl
  have j4 : ρ 4 % 4 = 1 := pz_gj hE 4 (Nat.le_of_ble_eq_true rfl) rfl
  have c_kind : ay_at hp 8 7 = some (ρ 3) := ay_gfj hE 42 28 15 8 7 ax_m3 (ax_vlq rfl rfl) (ax_vlj rfl rfl)
  have o1 : ρ 4 < ρ 1 := pz_go hE 19 7 (by decide)
  obtain ⟨-, -, -, -, F50⟩ : ay_ex hp 8 ∧ ay_ex hp 10 ∧ ay_ex hp 11 ∧ ay_ex hp 12 ∧ pz_x50 (ρ 0) (ρ 1) (ay_at hp 8 5) (ay_at hp 8 6) (ay_at hp 8 7) (ay_at hp 8 8) (ay_at hp 10 0) (ay_at hp 10 1) (ay_at hp 10 2) (ay_at hp 10 3) (ay_at hp 10 4) (ay_at hp 8 9) (ay_at hp 8 11) (ay_at hp 8 10) (ay_at hp 8 3) (ay_at hp 8 4) (ay_at hp 11) (ay_at hp 12) := (ax_XF_lt (x := 50) (Nat.le_of_ble_eq_true rfl)).mp (ax_gx hE (50, [3, 7]) ax_m0)
  rw [c_kind] at F50
  have F79 : pz7 (pz_gt (ρ 0)) (pz_gN (ρ 0)) ((ρ 1) / 4) 9 := (ax_XF_lt (x := 79) (Nat.le_of_ble_eq_true rfl)).mp (ax_gx hE (79, [3, 7]) ax_m1)
  have F90 : (pz90 (pz_gt (ρ 0)) (pz_gN (ρ 0)) ((ρ 1) / 4) ((ρ 2) / 4) ∧ 1 ≤ (ρ 2) / 4) := (ax_XF_lt (x := 90) (Nat.le_of_ble_eq_true rfl)).mp (ax_gx hE (90, [3, 7, 11]) ax_m2)
  have st := pq_op F50 F79 F90.1 (show pz_op (ρ 3 / 4) = true by rw [show ρ 3 / 4 = 45 by omega]; rfl)
  obtain ⟨ρ', h1, h2⟩ := pz_pn1 (K := ρ 1 / 4 + 1) (xf := [(53, [3, 23]), (78, [3, 23]), (90, [3, 23, 11]), (1030, [7, 23]), (98, [7, 23]), (1030, [19, 23])]) hE (by decide) (fun ρ' h1 h2 x hx => by
    have q0 : ρ' 0 = ρ 0 := h1 0 (by decide)
    have q1 : ρ' 1 = ρ 1 := h1 1 (by decide)
    have q2 : ρ' 2 = ρ 2 := h1 2 (by decide)
    have q3 : ρ' 3 = ρ 3 := h1 3 (by decide)
    have q4 : ρ' 4 = ρ 4 := h1 4 (by decide)
    rcases List.mem_cons.mp hx with e | hx
    · subst e
      refine (ax_XF_lt (x := 53) (Nat.le_of_ble_eq_true rfl)).mpr ?_
      show ay_ex hp 8 ∧ ay_ex hp 10 ∧ ay_ex hp 11 ∧ ay_ex hp 12 ∧ pz_x53 (ρ' 0) (ρ' 5) (ay_at hp 8 5) (ay_at hp 10 0) (ay_at hp 10 1) (ay_at hp 10 2) (ay_at hp 10 3) (ay_at hp 10 4) (ay_at hp 8 9) (ay_at hp 8 11) (ay_at hp 8 10) (ay_at hp 8 3) (ay_at hp 8 4) (ay_at hp 11) (ay_at hp 12)
      rw [q0, h2]
      exact ⟨(ax_cellT hT (q := 8) (g := 2) rfl), (ax_cellT hT (q := 10) (g := 1) rfl), (ax_cellT hT (q := 11) (g := 14) rfl), (ax_cellT hT (q := 12) (g := 15) rfl), pz_53 (pz_41 _) rfl st.1⟩
    rcases List.mem_cons.mp hx with e | hx
    · subst e
      refine (ax_XF_lt (x := 78) (Nat.le_of_ble_eq_true rfl)).mpr ?_
      show pz7 (pz_gt (ρ' 0)) (pz_gN (ρ' 0)) ((ρ' 5) / 4) 8
      rw [q0, h2]
      rw [pz_41]
      exact st.2.1
    rcases List.mem_cons.mp hx with e | hx
    · subst e
      refine (ax_XF_lt (x := 90) (Nat.le_of_ble_eq_true rfl)).mpr ?_
      show (pz90 (pz_gt (ρ' 0)) (pz_gN (ρ' 0)) ((ρ' 5) / 4) ((ρ' 2) / 4) ∧ 1 ≤ (ρ' 2) / 4)
      rw [q0, q2, h2]
      rw [pz_41]
      exact ⟨st.2.2, F90.2⟩
    rcases List.mem_cons.mp hx with e | hx
    · subst e
      refine (ax_XF_bi (o := 30) (by decide)).mpr (Or.inr ⟨rfl, ?_⟩)
      show ρ' 1 < ρ' 5
      rw [q1, h2]
      omega
    rcases List.mem_cons.mp hx with e | hx
    · subst e
      refine (ax_XF_lt (x := 98) (Nat.le_of_ble_eq_true rfl)).mpr ?_
      show (ρ' 5) / 4 = (ρ' 1) / 4 + 1
      rw [q1, h2]
      rw [pz_41]
    cases List.mem_singleton.mp hx
    refine (ax_XF_bi (o := 30) (by decide)).mpr (Or.inr ⟨rfl, ?_⟩)
    show ρ' 4 < ρ' 5
    rw [q4, h2]
    omega)
  exact ⟨(fun y hy => by cases hy), _, List.mem_cons_self, ρ', h1, h2⟩

theorem axq_rq5_1 : ax_RO ax_wC ax_XC axu_rq5_1 := by
  intro ρ hp hE hT
  have j0 : ρ 0 % 4 = 1 := pz_gj hE 0 (Nat.le_of_ble_eq_true rfl) rfl
  have j1 : ρ 1 % 4 = 1 := pz_gj hE 1 (Nat.le_of_ble_eq_true rfl) rfl
  have j2 : ρ 2 % 4 = 1 := pz_gj hE 2 (Nat.le_of_ble_eq_true rfl) rfl
  have j3 : ρ 3 % 4 = 1 := pz_gj hE 3 (Nat.le_of_ble_eq_true rfl) rfl
  have j4 : ρ 4 % 4 = 1 := pz_gj hE 4 (Nat.le_of_ble_eq_true rfl) rfl
  have o1 : ρ 2 < ρ 1 := pz_go hE 11 7 (by decide)
  have o2 : ρ 3 < ρ 2 := pz_go hE 15 11 (by decide)
  have o3 : ρ 4 < ρ 3 := pz_go hE 19 15 (by decide)
  obtain ⟨-, -, -, -, F50⟩ : ay_ex hp 8 ∧ ay_ex hp 10 ∧ ay_ex hp 11 ∧ ay_ex hp 12 ∧ pz_x50 (ρ 0) (ρ 1) (ay_at hp 8 5) (ay_at hp 8 6) (ay_at hp 8 7) (ay_at hp 8 8) (ay_at hp 10 0) (ay_at hp 10 1) (ay_at hp 10 2) (ay_at hp 10 3) (ay_at hp 10 4) (ay_at hp 8 9) (ay_at hp 8 11) (ay_at hp 8 10) (ay_at hp 8 3) (ay_at hp 8 4) (ay_at hp 11) (ay_at hp 12) := (ax_XF_lt (x := 50) (Nat.le_of_ble_eq_true rfl)).mp (ax_gx hE (50, [3, 7]) ax_m0)
  refine ⟨(fun y hy => by cases hy), _, List.mem_cons_self, ρ, fun _ _ => rfl, ax_px hE rfl (fun y hy => ?_)⟩
  rcases List.mem_cons.mp hy with e | hy
  · subst e
    refine (ax_XF_bi (o := 30) (by decide)).mpr (Or.inr ⟨rfl, ?_⟩)
    show ρ 4 < ρ 1
    omega
  cases List.mem_singleton.mp hy
  refine (ax_XF_bi (o := 30) (by decide)).mpr (Or.inr ⟨rfl, ?_⟩)
  show ρ 3 < ρ 1
  omega

theorem axq_rq6_1 : ax_RO ax_wC ax_XC axu_rq6_1 := by
  intro ρ hp hE hT
  have j0 : ρ 0 % 4 = 1 := pz_gj hE 0 (Nat.le_of_ble_eq_true rfl) rfl
  have j1 : ρ 1 % 4 = 1 := pz_gj hE 1 (Nat.le_of_ble_eq_true rfl) rfl
  have j2 : ρ 2 % 4 = 1 := pz_gj hE 2 (Nat.le_of_ble_eq_true rfl) rfl
  obtain ⟨i3a, i3b, i3c, i3d⟩ := pz_gi hE 3 2147483648 2147484447 (Nat.le_of_ble_eq_true rfl) rfl
  obtain ⟨i4a, i4b, i4c, i4d⟩ := pz_gi hE 4 0 4294967295 (Nat.le_of_ble_eq_true rfl) rfl
  have s1 : (ρ 3 / 4 + 2147483648) % 4294967296 + (4 / 4 + 2147483648) % 4294967296 = (ρ 4 / 4 + 2147483648) % 4294967296 + 2147483648 := pz_gs hE 15 4 19 ax_m1
  have o1 : ρ 2 < ρ 1 := pz_go hE 11 7 (by decide)
  obtain ⟨-, -, -, -, F50⟩ : ay_ex hp 8 ∧ ay_ex hp 10 ∧ ay_ex hp 11 ∧ ay_ex hp 12 ∧ pz_x50 (ρ 0) (ρ 1) (ay_at hp 8 5) (ay_at hp 8 6) (ay_at hp 8 7) (ay_at hp 8 8) (ay_at hp 10 0) (ay_at hp 10 1) (ay_at hp 10 2) (ay_at hp 10 3) (ay_at hp 10 4) (ay_at hp 8 9) (ay_at hp 8 11) (ay_at hp 8 10) (ay_at hp 8 3) (ay_at hp 8 4) (ay_at hp 11) (ay_at hp 12) := (ax_XF_lt (x := 50) (Nat.le_of_ble_eq_true rfl)).mp (ax_gx hE (50, [3, 7]) ax_m0)
  have F97 : (ρ 3) / 4 ≤ (ρ 2) / 4 := (ax_XF_lt (x := 97) (Nat.le_of_ble_eq_true rfl)).mp (ax_gx hE (97, [11, 15]) ax_m2)
  refine ⟨(fun y hy => by cases hy), _, List.mem_cons_self, ρ, fun _ _ => rfl, ax_px hE rfl (fun y hy => ?_)⟩
  cases List.mem_singleton.mp hy
  refine (ax_XF_lt (x := 97) (Nat.le_of_ble_eq_true rfl)).mpr ?_
  show (ρ 4) / 4 ≤ (ρ 1) / 4
  omega

theorem axq_rq7_1 : ax_RO ax_wC ax_XC axu_rq7_1 := by
  intro ρ hp hE hT
  have j0 : ρ 0 % 4 = 1 := pz_gj hE 0 (Nat.le_of_ble_eq_true rfl) rfl
  have j1 : ρ 1 % 4 = 1 := pz_gj hE 1 (Nat.le_of_ble_eq_true rfl) rfl
  obtain ⟨i2a, i2b, i2c, i2d⟩ := pz_gi hE 2 2147484448 2147484448 (Nat.le_of_ble_eq_true rfl) rfl
  obtain ⟨-, -, F30⟩ : ay_ex hp 8 ∧ ay_ex hp 9 ∧ pz_x30 (ρ 0) (ay_at hp 8 1) (ay_at hp 9) := (ax_XF_lt (x := 30) (Nat.le_of_ble_eq_true rfl)).mp (ax_gx hE (30, [3]) ax_m0)
  obtain ⟨-, -, -, -, F50⟩ : ay_ex hp 8 ∧ ay_ex hp 10 ∧ ay_ex hp 11 ∧ ay_ex hp 12 ∧ pz_x50 (ρ 0) (ρ 1) (ay_at hp 8 5) (ay_at hp 8 6) (ay_at hp 8 7) (ay_at hp 8 8) (ay_at hp 10 0) (ay_at hp 10 1) (ay_at hp 10 2) (ay_at hp 10 3) (ay_at hp 10 4) (ay_at hp 8 9) (ay_at hp 8 11) (ay_at hp 8 10) (ay_at hp 8 3) (ay_at hp 8 4) (ay_at hp 11) (ay_at hp 12) := (ax_XF_lt (x := 50) (Nat.le_of_ble_eq_true rfl)).mp (ax_gx hE (50, [3, 7]) ax_m1)
  have F79 : pz7 (pz_gt (ρ 0)) (pz_gN (ρ 0)) ((ρ 1) / 4) 9 := (ax_XF_lt (x := 79) (Nat.le_of_ble_eq_true rfl)).mp (ax_gx hE (79, [3, 7]) ax_m2)
  have F97 : (ρ 2) / 4 ≤ (ρ 1) / 4 := (ax_XF_lt (x := 97) (Nat.le_of_ble_eq_true rfl)).mp (ax_gx hE (97, [7, 11]) ax_m3)
  refine ⟨(fun y hy => by cases hy), _, List.mem_cons_self, ρ, fun _ _ => rfl, ax_px hE rfl (fun y hy => ?_)⟩
  cases List.mem_singleton.mp hy
  refine (ax_XF_lt (x := 94) (Nat.le_of_ble_eq_true rfl)).mpr ?_
  show pz94 (pz_gt (ρ 0)) (pz_gN (ρ 0)) ((ρ 1) / 4)
  have kd := pq_far (n := ρ 1 / 4) F79 (by decide) (show pz_gN (ρ 0) ≤ 800 from F30.2.1) (by omega)
  show pz_op (pz_kd (pz_gt (ρ 0)) (pz_gN (ρ 0)) (pz_p (pz_cf (pz_gt (ρ 0)) (pz_gN (ρ 0)) (ρ 1 / 4)))) = false
  rw [kd]
  rfl

theorem axq_rq8a_1 : ax_RO ax_wC ax_XC axu_rq8a_1 := by
  intro ρ hp hE hT
  have j0 : ρ 0 % 4 = 1 := pz_gj hE 0 (Nat.le_of_ble_eq_true rfl) rfl
  have j1 : ρ 1 % 4 = 1 := pz_gj hE 1 (Nat.le_of_ble_eq_true rfl) rfl
  obtain ⟨i2a, i2b, i2c, i2d⟩ := pz_gi hE 2 0 2147483690 (Nat.le_of_ble_eq_true rfl) rfl
  have c_kind : ay_at hp 8 7 = some (ρ 2) := ay_gfj hE 42 28 11 8 7 ax_m1 (ax_vlq rfl rfl) (ax_vlj rfl rfl)
  obtain ⟨-, -, -, -, F50⟩ : ay_ex hp 8 ∧ ay_ex hp 10 ∧ ay_ex hp 11 ∧ ay_ex hp 12 ∧ pz_x50 (ρ 0) (ρ 1) (ay_at hp 8 5) (ay_at hp 8 6) (ay_at hp 8 7) (ay_at hp 8 8) (ay_at hp 10 0) (ay_at hp 10 1) (ay_at hp 10 2) (ay_at hp 10 3) (ay_at hp 10 4) (ay_at hp 8 9) (ay_at hp 8 11) (ay_at hp 8 10) (ay_at hp 8 3) (ay_at hp 8 4) (ay_at hp 11) (ay_at hp 12) := (ax_XF_lt (x := 50) (Nat.le_of_ble_eq_true rfl)).mp (ax_gx hE (50, [3, 7]) ax_m0)
  rw [c_kind] at F50
  have F95 : pz95 (pz_gt (ρ 0)) (pz_gN (ρ 0)) ((ρ 1) / 4) := (ax_XF_lt (x := 95) (Nat.le_of_ble_eq_true rfl)).mp (ax_gx hE (95, [3, 7]) ax_m2)
  refine ⟨(fun y hy => by cases hy), _, List.mem_cons_self, ρ, fun _ _ => rfl, ax_px hE rfl (fun y hy => ?_)⟩
  cases List.mem_singleton.mp hy
  refine (ax_XF_lt (x := 94) (Nat.le_of_ble_eq_true rfl)).mpr ?_
  show pz94 (pz_gt (ρ 0)) (pz_gN (ρ 0)) ((ρ 1) / 4)
  have kd : ρ 2 / 4 = pz_kd (pz_gt (ρ 0)) (pz_gN (ρ 0)) (pz_p (pz_cf (pz_gt (ρ 0)) (pz_gN (ρ 0)) (ρ 1 / 4))) := F50.2.2.1
  exact pz_op_no (by omega) (by omega) F95

theorem axq_rq8b_1 : ax_RO ax_wC ax_XC axu_rq8b_1 := by
  intro ρ hp hE hT
  have j0 : ρ 0 % 4 = 1 := pz_gj hE 0 (Nat.le_of_ble_eq_true rfl) rfl
  have j1 : ρ 1 % 4 = 1 := pz_gj hE 1 (Nat.le_of_ble_eq_true rfl) rfl
  obtain ⟨i2a, i2b, i2c, i2d⟩ := pz_gi hE 2 2147483692 2147483692 (Nat.le_of_ble_eq_true rfl) rfl
  have c_kind : ay_at hp 8 7 = some (ρ 2) := ay_gfj hE 42 28 11 8 7 ax_m1 (ax_vlq rfl rfl) (ax_vlj rfl rfl)
  obtain ⟨-, -, -, -, F50⟩ : ay_ex hp 8 ∧ ay_ex hp 10 ∧ ay_ex hp 11 ∧ ay_ex hp 12 ∧ pz_x50 (ρ 0) (ρ 1) (ay_at hp 8 5) (ay_at hp 8 6) (ay_at hp 8 7) (ay_at hp 8 8) (ay_at hp 10 0) (ay_at hp 10 1) (ay_at hp 10 2) (ay_at hp 10 3) (ay_at hp 10 4) (ay_at hp 8 9) (ay_at hp 8 11) (ay_at hp 8 10) (ay_at hp 8 3) (ay_at hp 8 4) (ay_at hp 11) (ay_at hp 12) := (ax_XF_lt (x := 50) (Nat.le_of_ble_eq_true rfl)).mp (ax_gx hE (50, [3, 7]) ax_m0)
  rw [c_kind] at F50
  have F95 : pz95 (pz_gt (ρ 0)) (pz_gN (ρ 0)) ((ρ 1) / 4) := (ax_XF_lt (x := 95) (Nat.le_of_ble_eq_true rfl)).mp (ax_gx hE (95, [3, 7]) ax_m2)
  refine ⟨(fun y hy => by cases hy), _, List.mem_cons_self, ρ, fun _ _ => rfl, ax_px hE rfl (fun y hy => ?_)⟩
  cases List.mem_singleton.mp hy
  refine (ax_XF_lt (x := 94) (Nat.le_of_ble_eq_true rfl)).mpr ?_
  show pz94 (pz_gt (ρ 0)) (pz_gN (ρ 0)) ((ρ 1) / 4)
  have kd : ρ 2 / 4 = pz_kd (pz_gt (ρ 0)) (pz_gN (ρ 0)) (pz_p (pz_cf (pz_gt (ρ 0)) (pz_gN (ρ 0)) (ρ 1 / 4))) := F50.2.2.1
  exact pz_op_no (by omega) (by omega) F95

theorem axq_rq8c_1 : ax_RO ax_wC ax_XC axu_rq8c_1 := by
  intro ρ hp hE hT
  have j0 : ρ 0 % 4 = 1 := pz_gj hE 0 (Nat.le_of_ble_eq_true rfl) rfl
  have j1 : ρ 1 % 4 = 1 := pz_gj hE 1 (Nat.le_of_ble_eq_true rfl) rfl
  obtain ⟨i2a, i2b, i2c, i2d⟩ := pz_gi hE 2 2147483694 4294967295 (Nat.le_of_ble_eq_true rfl) rfl
  have c_kind : ay_at hp 8 7 = some (ρ 2) := ay_gfj hE 42 28 11 8 7 ax_m1 (ax_vlq rfl rfl) (ax_vlj rfl rfl)
  obtain ⟨-, -, -, -, F50⟩ : ay_ex hp 8 ∧ ay_ex hp 10 ∧ ay_ex hp 11 ∧ ay_ex hp 12 ∧ pz_x50 (ρ 0) (ρ 1) (ay_at hp 8 5) (ay_at hp 8 6) (ay_at hp 8 7) (ay_at hp 8 8) (ay_at hp 10 0) (ay_at hp 10 1) (ay_at hp 10 2) (ay_at hp 10 3) (ay_at hp 10 4) (ay_at hp 8 9) (ay_at hp 8 11) (ay_at hp 8 10) (ay_at hp 8 3) (ay_at hp 8 4) (ay_at hp 11) (ay_at hp 12) := (ax_XF_lt (x := 50) (Nat.le_of_ble_eq_true rfl)).mp (ax_gx hE (50, [3, 7]) ax_m0)
  rw [c_kind] at F50
  have F95 : pz95 (pz_gt (ρ 0)) (pz_gN (ρ 0)) ((ρ 1) / 4) := (ax_XF_lt (x := 95) (Nat.le_of_ble_eq_true rfl)).mp (ax_gx hE (95, [3, 7]) ax_m2)
  refine ⟨(fun y hy => by cases hy), _, List.mem_cons_self, ρ, fun _ _ => rfl, ax_px hE rfl (fun y hy => ?_)⟩
  cases List.mem_singleton.mp hy
  refine (ax_XF_lt (x := 94) (Nat.le_of_ble_eq_true rfl)).mpr ?_
  show pz94 (pz_gt (ρ 0)) (pz_gN (ρ 0)) ((ρ 1) / 4)
  have kd : ρ 2 / 4 = pz_kd (pz_gt (ρ 0)) (pz_gN (ρ 0)) (pz_p (pz_cf (pz_gt (ρ 0)) (pz_gN (ρ 0)) (ρ 1 / 4))) := F50.2.2.1
  exact pz_op_no (by omega) (by omega) F95

theorem axq_rq2_2 : ax_RO ax_wC ax_XC axu_rq2_2 := by
  intro ρ hp hE hT
  have j0 : ρ 0 % 4 = 1 := pz_gj hE 0 (Nat.le_of_ble_eq_true rfl) rfl
  have j1 : ρ 1 % 4 = 1 := pz_gj hE 1 (Nat.le_of_ble_eq_true rfl) rfl
  obtain ⟨-, -, -, -, F50⟩ : ay_ex hp 8 ∧ ay_ex hp 10 ∧ ay_ex hp 11 ∧ ay_ex hp 12 ∧ pz_x50 (ρ 0) (ρ 1) (ay_at hp 8 5) (ay_at hp 8 6) (ay_at hp 8 7) (ay_at hp 8 8) (ay_at hp 10 0) (ay_at hp 10 1) (ay_at hp 10 2) (ay_at hp 10 3) (ay_at hp 10 4) (ay_at hp 8 9) (ay_at hp 8 11) (ay_at hp 8 10) (ay_at hp 8 3) (ay_at hp 8 4) (ay_at hp 11) (ay_at hp 12) := (ax_XF_lt (x := 50) (Nat.le_of_ble_eq_true rfl)).mp (ax_gx hE (50, [3, 7]) ax_m0)
  refine ⟨(fun y hy => by cases hy), _, List.mem_cons_self, ρ, fun _ _ => rfl, ax_px hE rfl (fun y hy => ?_)⟩
  cases List.mem_singleton.mp hy
  refine (ax_XF_lt (x := 97) (Nat.le_of_ble_eq_true rfl)).mpr ?_
  show (0) / 4 ≤ (ρ 1) / 4
  exact Nat.zero_le _

theorem axq_rq3c43_2 : ax_RO ax_wC ax_XC axu_rq3c43_2 := by
  intro ρ hp hE hT
  have j0 : ρ 0 % 4 = 1 := pz_gj hE 0 (Nat.le_of_ble_eq_true rfl) rfl
  have j1 : ρ 1 % 4 = 1 := pz_gj hE 1 (Nat.le_of_ble_eq_true rfl) rfl
  have j2 : ρ 2 % 4 = 1 := pz_gj hE 2 (Nat.le_of_ble_eq_true rfl) rfl
  obtain ⟨i3a, i3b, i3c, i3d⟩ := pz_gi hE 3 2147483691 2147483691 (Nat.le_of_ble_eq_true rfl) rfl
  have j4 : ρ 4 % 4 = 1 := pz_gj hE 4 (Nat.le_of_ble_eq_true rfl) rfl
  have c_kind : ay_at hp 8 7 = some (ρ 3) := ay_gfj hE 42 28 15 8 7 ax_m3 (ax_vlq rfl rfl) (ax_vlj rfl rfl)
  have o1 : ρ 4 < ρ 1 := pz_go hE 19 7 (by decide)
  obtain ⟨-, -, -, -, F50⟩ : ay_ex hp 8 ∧ ay_ex hp 10 ∧ ay_ex hp 11 ∧ ay_ex hp 12 ∧ pz_x50 (ρ 0) (ρ 1) (ay_at hp 8 5) (ay_at hp 8 6) (ay_at hp 8 7) (ay_at hp 8 8) (ay_at hp 10 0) (ay_at hp 10 1) (ay_at hp 10 2) (ay_at hp 10 3) (ay_at hp 10 4) (ay_at hp 8 9) (ay_at hp 8 11) (ay_at hp 8 10) (ay_at hp 8 3) (ay_at hp 8 4) (ay_at hp 11) (ay_at hp 12) := (ax_XF_lt (x := 50) (Nat.le_of_ble_eq_true rfl)).mp (ax_gx hE (50, [3, 7]) ax_m0)
  rw [c_kind] at F50
  have F79 : pz7 (pz_gt (ρ 0)) (pz_gN (ρ 0)) ((ρ 1) / 4) 9 := (ax_XF_lt (x := 79) (Nat.le_of_ble_eq_true rfl)).mp (ax_gx hE (79, [3, 7]) ax_m1)
  have F90 : (pz90 (pz_gt (ρ 0)) (pz_gN (ρ 0)) ((ρ 1) / 4) ((ρ 2) / 4) ∧ 1 ≤ (ρ 2) / 4) := (ax_XF_lt (x := 90) (Nat.le_of_ble_eq_true rfl)).mp (ax_gx hE (90, [3, 7, 11]) ax_m2)
  have st := pq_op F50 F79 F90.1 (show pz_op (ρ 3 / 4) = true by rw [show ρ 3 / 4 = 43 by omega]; rfl)
  obtain ⟨ρ', h1, h2⟩ := pz_pn1 (K := ρ 1 / 4 + 1) (xf := [(53, [3, 23]), (78, [3, 23]), (90, [3, 23, 11]), (1030, [7, 23]), (98, [7, 23]), (1030, [19, 23])]) hE (by decide) (fun ρ' h1 h2 x hx => by
    have q0 : ρ' 0 = ρ 0 := h1 0 (by decide)
    have q1 : ρ' 1 = ρ 1 := h1 1 (by decide)
    have q2 : ρ' 2 = ρ 2 := h1 2 (by decide)
    have q3 : ρ' 3 = ρ 3 := h1 3 (by decide)
    have q4 : ρ' 4 = ρ 4 := h1 4 (by decide)
    rcases List.mem_cons.mp hx with e | hx
    · subst e
      refine (ax_XF_lt (x := 53) (Nat.le_of_ble_eq_true rfl)).mpr ?_
      show ay_ex hp 8 ∧ ay_ex hp 10 ∧ ay_ex hp 11 ∧ ay_ex hp 12 ∧ pz_x53 (ρ' 0) (ρ' 5) (ay_at hp 8 5) (ay_at hp 10 0) (ay_at hp 10 1) (ay_at hp 10 2) (ay_at hp 10 3) (ay_at hp 10 4) (ay_at hp 8 9) (ay_at hp 8 11) (ay_at hp 8 10) (ay_at hp 8 3) (ay_at hp 8 4) (ay_at hp 11) (ay_at hp 12)
      rw [q0, h2]
      exact ⟨(ax_cellT hT (q := 8) (g := 2) rfl), (ax_cellT hT (q := 10) (g := 1) rfl), (ax_cellT hT (q := 11) (g := 14) rfl), (ax_cellT hT (q := 12) (g := 15) rfl), pz_53 (pz_41 _) rfl st.1⟩
    rcases List.mem_cons.mp hx with e | hx
    · subst e
      refine (ax_XF_lt (x := 78) (Nat.le_of_ble_eq_true rfl)).mpr ?_
      show pz7 (pz_gt (ρ' 0)) (pz_gN (ρ' 0)) ((ρ' 5) / 4) 8
      rw [q0, h2]
      rw [pz_41]
      exact st.2.1
    rcases List.mem_cons.mp hx with e | hx
    · subst e
      refine (ax_XF_lt (x := 90) (Nat.le_of_ble_eq_true rfl)).mpr ?_
      show (pz90 (pz_gt (ρ' 0)) (pz_gN (ρ' 0)) ((ρ' 5) / 4) ((ρ' 2) / 4) ∧ 1 ≤ (ρ' 2) / 4)
      rw [q0, q2, h2]
      rw [pz_41]
      exact ⟨st.2.2, F90.2⟩
    rcases List.mem_cons.mp hx with e | hx
    · subst e
      refine (ax_XF_bi (o := 30) (by decide)).mpr (Or.inr ⟨rfl, ?_⟩)
      show ρ' 1 < ρ' 5
      rw [q1, h2]
      omega
    rcases List.mem_cons.mp hx with e | hx
    · subst e
      refine (ax_XF_lt (x := 98) (Nat.le_of_ble_eq_true rfl)).mpr ?_
      show (ρ' 5) / 4 = (ρ' 1) / 4 + 1
      rw [q1, h2]
      rw [pz_41]
    cases List.mem_singleton.mp hx
    refine (ax_XF_bi (o := 30) (by decide)).mpr (Or.inr ⟨rfl, ?_⟩)
    show ρ' 4 < ρ' 5
    rw [q4, h2]
    omega)
  exact ⟨(fun y hy => by cases hy), _, List.mem_cons_self, ρ', h1, h2⟩

theorem axq_rq3c45_2 : ax_RO ax_wC ax_XC axu_rq3c45_2 := by
  intro ρ hp hE hT
  have j0 : ρ 0 % 4 = 1 := pz_gj hE 0 (Nat.le_of_ble_eq_true rfl) rfl
  have j1 : ρ 1 % 4 = 1 := pz_gj hE 1 (Nat.le_of_ble_eq_true rfl) rfl
  have j2 : ρ 2 % 4 = 1 := pz_gj hE 2 (Nat.le_of_ble_eq_true rfl) rfl
  obtain ⟨i3a, i3b, i3c, i3d⟩ := pz_gi hE 3 2147483693 2147483693 (Nat.le_of_ble_eq_true rfl) rfl
  have j4 : ρ 4 % 4 = 1 := pz_gj hE 4 (Nat.le_of_ble_eq_true rfl) rfl
  have c_kind : ay_at hp 8 7 = some (ρ 3) := ay_gfj hE 42 28 15 8 7 ax_m3 (ax_vlq rfl rfl) (ax_vlj rfl rfl)
  have o1 : ρ 4 < ρ 1 := pz_go hE 19 7 (by decide)
  obtain ⟨-, -, -, -, F50⟩ : ay_ex hp 8 ∧ ay_ex hp 10 ∧ ay_ex hp 11 ∧ ay_ex hp 12 ∧ pz_x50 (ρ 0) (ρ 1) (ay_at hp 8 5) (ay_at hp 8 6) (ay_at hp 8 7) (ay_at hp 8 8) (ay_at hp 10 0) (ay_at hp 10 1) (ay_at hp 10 2) (ay_at hp 10 3) (ay_at hp 10 4) (ay_at hp 8 9) (ay_at hp 8 11) (ay_at hp 8 10) (ay_at hp 8 3) (ay_at hp 8 4) (ay_at hp 11) (ay_at hp 12) := (ax_XF_lt (x := 50) (Nat.le_of_ble_eq_true rfl)).mp (ax_gx hE (50, [3, 7]) ax_m0)
  rw [c_kind] at F50
  have F79 : pz7 (pz_gt (ρ 0)) (pz_gN (ρ 0)) ((ρ 1) / 4) 9 := (ax_XF_lt (x := 79) (Nat.le_of_ble_eq_true rfl)).mp (ax_gx hE (79, [3, 7]) ax_m1)
  have F90 : (pz90 (pz_gt (ρ 0)) (pz_gN (ρ 0)) ((ρ 1) / 4) ((ρ 2) / 4) ∧ 1 ≤ (ρ 2) / 4) := (ax_XF_lt (x := 90) (Nat.le_of_ble_eq_true rfl)).mp (ax_gx hE (90, [3, 7, 11]) ax_m2)
  have st := pq_op F50 F79 F90.1 (show pz_op (ρ 3 / 4) = true by rw [show ρ 3 / 4 = 45 by omega]; rfl)
  obtain ⟨ρ', h1, h2⟩ := pz_pn1 (K := ρ 1 / 4 + 1) (xf := [(53, [3, 23]), (78, [3, 23]), (90, [3, 23, 11]), (1030, [7, 23]), (98, [7, 23]), (1030, [19, 23])]) hE (by decide) (fun ρ' h1 h2 x hx => by
    have q0 : ρ' 0 = ρ 0 := h1 0 (by decide)
    have q1 : ρ' 1 = ρ 1 := h1 1 (by decide)
    have q2 : ρ' 2 = ρ 2 := h1 2 (by decide)
    have q3 : ρ' 3 = ρ 3 := h1 3 (by decide)
    have q4 : ρ' 4 = ρ 4 := h1 4 (by decide)
    rcases List.mem_cons.mp hx with e | hx
    · subst e
      refine (ax_XF_lt (x := 53) (Nat.le_of_ble_eq_true rfl)).mpr ?_
      show ay_ex hp 8 ∧ ay_ex hp 10 ∧ ay_ex hp 11 ∧ ay_ex hp 12 ∧ pz_x53 (ρ' 0) (ρ' 5) (ay_at hp 8 5) (ay_at hp 10 0) (ay_at hp 10 1) (ay_at hp 10 2) (ay_at hp 10 3) (ay_at hp 10 4) (ay_at hp 8 9) (ay_at hp 8 11) (ay_at hp 8 10) (ay_at hp 8 3) (ay_at hp 8 4) (ay_at hp 11) (ay_at hp 12)
      rw [q0, h2]
      exact ⟨(ax_cellT hT (q := 8) (g := 2) rfl), (ax_cellT hT (q := 10) (g := 1) rfl), (ax_cellT hT (q := 11) (g := 14) rfl), (ax_cellT hT (q := 12) (g := 15) rfl), pz_53 (pz_41 _) rfl st.1⟩
    rcases List.mem_cons.mp hx with e | hx
    · subst e
      refine (ax_XF_lt (x := 78) (Nat.le_of_ble_eq_true rfl)).mpr ?_
      show pz7 (pz_gt (ρ' 0)) (pz_gN (ρ' 0)) ((ρ' 5) / 4) 8
      rw [q0, h2]
      rw [pz_41]
      exact st.2.1
    rcases List.mem_cons.mp hx with e | hx
    · subst e
      refine (ax_XF_lt (x := 90) (Nat.le_of_ble_eq_true rfl)).mpr ?_
      show (pz90 (pz_gt (ρ' 0)) (pz_gN (ρ' 0)) ((ρ' 5) / 4) ((ρ' 2) / 4) ∧ 1 ≤ (ρ' 2) / 4)
      rw [q0, q2, h2]
      rw [pz_41]
      exact ⟨st.2.2, F90.2⟩
    rcases List.mem_cons.mp hx with e | hx
    · subst e
      refine (ax_XF_bi (o := 30) (by decide)).mpr (Or.inr ⟨rfl, ?_⟩)
      show ρ' 1 < ρ' 5
      rw [q1, h2]
      omega
    rcases List.mem_cons.mp hx with e | hx
    · subst e
      refine (ax_XF_lt (x := 98) (Nat.le_of_ble_eq_true rfl)).mpr ?_
      show (ρ' 5) / 4 = (ρ' 1) / 4 + 1
      rw [q1, h2]
      rw [pz_41]
    cases List.mem_singleton.mp hx
    refine (ax_XF_bi (o := 30) (by decide)).mpr (Or.inr ⟨rfl, ?_⟩)
    show ρ' 4 < ρ' 5
    rw [q4, h2]
    omega)
  exact ⟨(fun y hy => by cases hy), _, List.mem_cons_self, ρ', h1, h2⟩

theorem axq_rq5_2 : ax_RO ax_wC ax_XC axu_rq5_2 := by
  intro ρ hp hE hT
  have j0 : ρ 0 % 4 = 1 := pz_gj hE 0 (Nat.le_of_ble_eq_true rfl) rfl
  have j1 : ρ 1 % 4 = 1 := pz_gj hE 1 (Nat.le_of_ble_eq_true rfl) rfl
  have j2 : ρ 2 % 4 = 1 := pz_gj hE 2 (Nat.le_of_ble_eq_true rfl) rfl
  have j3 : ρ 3 % 4 = 1 := pz_gj hE 3 (Nat.le_of_ble_eq_true rfl) rfl
  have j4 : ρ 4 % 4 = 1 := pz_gj hE 4 (Nat.le_of_ble_eq_true rfl) rfl
  have o1 : ρ 2 < ρ 1 := pz_go hE 11 7 (by decide)
  have o2 : ρ 3 < ρ 2 := pz_go hE 15 11 (by decide)
  have o3 : ρ 4 < ρ 3 := pz_go hE 19 15 (by decide)
  obtain ⟨-, -, -, -, F50⟩ : ay_ex hp 8 ∧ ay_ex hp 10 ∧ ay_ex hp 11 ∧ ay_ex hp 12 ∧ pz_x50 (ρ 0) (ρ 1) (ay_at hp 8 5) (ay_at hp 8 6) (ay_at hp 8 7) (ay_at hp 8 8) (ay_at hp 10 0) (ay_at hp 10 1) (ay_at hp 10 2) (ay_at hp 10 3) (ay_at hp 10 4) (ay_at hp 8 9) (ay_at hp 8 11) (ay_at hp 8 10) (ay_at hp 8 3) (ay_at hp 8 4) (ay_at hp 11) (ay_at hp 12) := (ax_XF_lt (x := 50) (Nat.le_of_ble_eq_true rfl)).mp (ax_gx hE (50, [3, 7]) ax_m0)
  refine ⟨(fun y hy => by cases hy), _, List.mem_cons_self, ρ, fun _ _ => rfl, ax_px hE rfl (fun y hy => ?_)⟩
  rcases List.mem_cons.mp hy with e | hy
  · subst e
    refine (ax_XF_bi (o := 30) (by decide)).mpr (Or.inr ⟨rfl, ?_⟩)
    show ρ 4 < ρ 1
    omega
  cases List.mem_singleton.mp hy
  refine (ax_XF_bi (o := 30) (by decide)).mpr (Or.inr ⟨rfl, ?_⟩)
  show ρ 3 < ρ 1
  omega

theorem axq_rq6_2 : ax_RO ax_wC ax_XC axu_rq6_2 := by
  intro ρ hp hE hT
  have j0 : ρ 0 % 4 = 1 := pz_gj hE 0 (Nat.le_of_ble_eq_true rfl) rfl
  have j1 : ρ 1 % 4 = 1 := pz_gj hE 1 (Nat.le_of_ble_eq_true rfl) rfl
  have j2 : ρ 2 % 4 = 1 := pz_gj hE 2 (Nat.le_of_ble_eq_true rfl) rfl
  obtain ⟨i3a, i3b, i3c, i3d⟩ := pz_gi hE 3 2147483648 2147484447 (Nat.le_of_ble_eq_true rfl) rfl
  obtain ⟨i4a, i4b, i4c, i4d⟩ := pz_gi hE 4 0 4294967295 (Nat.le_of_ble_eq_true rfl) rfl
  have s1 : (ρ 3 / 4 + 2147483648) % 4294967296 + (4 / 4 + 2147483648) % 4294967296 = (ρ 4 / 4 + 2147483648) % 4294967296 + 2147483648 := pz_gs hE 15 4 19 ax_m1
  have o1 : ρ 2 < ρ 1 := pz_go hE 11 7 (by decide)
  obtain ⟨-, -, -, -, F50⟩ : ay_ex hp 8 ∧ ay_ex hp 10 ∧ ay_ex hp 11 ∧ ay_ex hp 12 ∧ pz_x50 (ρ 0) (ρ 1) (ay_at hp 8 5) (ay_at hp 8 6) (ay_at hp 8 7) (ay_at hp 8 8) (ay_at hp 10 0) (ay_at hp 10 1) (ay_at hp 10 2) (ay_at hp 10 3) (ay_at hp 10 4) (ay_at hp 8 9) (ay_at hp 8 11) (ay_at hp 8 10) (ay_at hp 8 3) (ay_at hp 8 4) (ay_at hp 11) (ay_at hp 12) := (ax_XF_lt (x := 50) (Nat.le_of_ble_eq_true rfl)).mp (ax_gx hE (50, [3, 7]) ax_m0)
  have F97 : (ρ 3) / 4 ≤ (ρ 2) / 4 := (ax_XF_lt (x := 97) (Nat.le_of_ble_eq_true rfl)).mp (ax_gx hE (97, [11, 15]) ax_m2)
  refine ⟨(fun y hy => by cases hy), _, List.mem_cons_self, ρ, fun _ _ => rfl, ax_px hE rfl (fun y hy => ?_)⟩
  cases List.mem_singleton.mp hy
  refine (ax_XF_lt (x := 97) (Nat.le_of_ble_eq_true rfl)).mpr ?_
  show (ρ 4) / 4 ≤ (ρ 1) / 4
  omega

theorem axq_rq7_2 : ax_RO ax_wC ax_XC axu_rq7_2 := by
  intro ρ hp hE hT
  have j0 : ρ 0 % 4 = 1 := pz_gj hE 0 (Nat.le_of_ble_eq_true rfl) rfl
  have j1 : ρ 1 % 4 = 1 := pz_gj hE 1 (Nat.le_of_ble_eq_true rfl) rfl
  obtain ⟨i2a, i2b, i2c, i2d⟩ := pz_gi hE 2 2147484448 2147484448 (Nat.le_of_ble_eq_true rfl) rfl
  obtain ⟨-, -, F30⟩ : ay_ex hp 8 ∧ ay_ex hp 9 ∧ pz_x30 (ρ 0) (ay_at hp 8 1) (ay_at hp 9) := (ax_XF_lt (x := 30) (Nat.le_of_ble_eq_true rfl)).mp (ax_gx hE (30, [3]) ax_m0)
  obtain ⟨-, -, -, -, F50⟩ : ay_ex hp 8 ∧ ay_ex hp 10 ∧ ay_ex hp 11 ∧ ay_ex hp 12 ∧ pz_x50 (ρ 0) (ρ 1) (ay_at hp 8 5) (ay_at hp 8 6) (ay_at hp 8 7) (ay_at hp 8 8) (ay_at hp 10 0) (ay_at hp 10 1) (ay_at hp 10 2) (ay_at hp 10 3) (ay_at hp 10 4) (ay_at hp 8 9) (ay_at hp 8 11) (ay_at hp 8 10) (ay_at hp 8 3) (ay_at hp 8 4) (ay_at hp 11) (ay_at hp 12) := (ax_XF_lt (x := 50) (Nat.le_of_ble_eq_true rfl)).mp (ax_gx hE (50, [3, 7]) ax_m1)
  have F79 : pz7 (pz_gt (ρ 0)) (pz_gN (ρ 0)) ((ρ 1) / 4) 9 := (ax_XF_lt (x := 79) (Nat.le_of_ble_eq_true rfl)).mp (ax_gx hE (79, [3, 7]) ax_m2)
  have F97 : (ρ 2) / 4 ≤ (ρ 1) / 4 := (ax_XF_lt (x := 97) (Nat.le_of_ble_eq_true rfl)).mp (ax_gx hE (97, [7, 11]) ax_m3)
  refine ⟨(fun y hy => by cases hy), _, List.mem_cons_self, ρ, fun _ _ => rfl, ax_px hE rfl (fun y hy => ?_)⟩
  cases List.mem_singleton.mp hy
  refine (ax_XF_lt (x := 94) (Nat.le_of_ble_eq_true rfl)).mpr ?_
  show pz94 (pz_gt (ρ 0)) (pz_gN (ρ 0)) ((ρ 1) / 4)
  have kd := pq_far (n := ρ 1 / 4) F79 (by decide) (show pz_gN (ρ 0) ≤ 800 from F30.2.1) (by omega)
  show pz_op (pz_kd (pz_gt (ρ 0)) (pz_gN (ρ 0)) (pz_p (pz_cf (pz_gt (ρ 0)) (pz_gN (ρ 0)) (ρ 1 / 4)))) = false
  rw [kd]
  rfl

theorem axq_rq8a_2 : ax_RO ax_wC ax_XC axu_rq8a_2 := by
  intro ρ hp hE hT
  have j0 : ρ 0 % 4 = 1 := pz_gj hE 0 (Nat.le_of_ble_eq_true rfl) rfl
  have j1 : ρ 1 % 4 = 1 := pz_gj hE 1 (Nat.le_of_ble_eq_true rfl) rfl
  obtain ⟨i2a, i2b, i2c, i2d⟩ := pz_gi hE 2 0 2147483690 (Nat.le_of_ble_eq_true rfl) rfl
  have c_kind : ay_at hp 8 7 = some (ρ 2) := ay_gfj hE 42 28 11 8 7 ax_m1 (ax_vlq rfl rfl) (ax_vlj rfl rfl)
  obtain ⟨-, -, -, -, F50⟩ : ay_ex hp 8 ∧ ay_ex hp 10 ∧ ay_ex hp 11 ∧ ay_ex hp 12 ∧ pz_x50 (ρ 0) (ρ 1) (ay_at hp 8 5) (ay_at hp 8 6) (ay_at hp 8 7) (ay_at hp 8 8) (ay_at hp 10 0) (ay_at hp 10 1) (ay_at hp 10 2) (ay_at hp 10 3) (ay_at hp 10 4) (ay_at hp 8 9) (ay_at hp 8 11) (ay_at hp 8 10) (ay_at hp 8 3) (ay_at hp 8 4) (ay_at hp 11) (ay_at hp 12) := (ax_XF_lt (x := 50) (Nat.le_of_ble_eq_true rfl)).mp (ax_gx hE (50, [3, 7]) ax_m0)
  rw [c_kind] at F50
  have F95 : pz95 (pz_gt (ρ 0)) (pz_gN (ρ 0)) ((ρ 1) / 4) := (ax_XF_lt (x := 95) (Nat.le_of_ble_eq_true rfl)).mp (ax_gx hE (95, [3, 7]) ax_m2)
  refine ⟨(fun y hy => by cases hy), _, List.mem_cons_self, ρ, fun _ _ => rfl, ax_px hE rfl (fun y hy => ?_)⟩
  cases List.mem_singleton.mp hy
  refine (ax_XF_lt (x := 94) (Nat.le_of_ble_eq_true rfl)).mpr ?_
  show pz94 (pz_gt (ρ 0)) (pz_gN (ρ 0)) ((ρ 1) / 4)
  have kd : ρ 2 / 4 = pz_kd (pz_gt (ρ 0)) (pz_gN (ρ 0)) (pz_p (pz_cf (pz_gt (ρ 0)) (pz_gN (ρ 0)) (ρ 1 / 4))) := F50.2.2.1
  exact pz_op_no (by omega) (by omega) F95

theorem axq_rq8b_2 : ax_RO ax_wC ax_XC axu_rq8b_2 := by
  intro ρ hp hE hT
  have j0 : ρ 0 % 4 = 1 := pz_gj hE 0 (Nat.le_of_ble_eq_true rfl) rfl
  have j1 : ρ 1 % 4 = 1 := pz_gj hE 1 (Nat.le_of_ble_eq_true rfl) rfl
  obtain ⟨i2a, i2b, i2c, i2d⟩ := pz_gi hE 2 2147483692 2147483692 (Nat.le_of_ble_eq_true rfl) rfl
  have c_kind : ay_at hp 8 7 = some (ρ 2) := ay_gfj hE 42 28 11 8 7 ax_m1 (ax_vlq rfl rfl) (ax_vlj rfl rfl)
  obtain ⟨-, -, -, -, F50⟩ : ay_ex hp 8 ∧ ay_ex hp 10 ∧ ay_ex hp 11 ∧ ay_ex hp 12 ∧ pz_x50 (ρ 0) (ρ 1) (ay_at hp 8 5) (ay_at hp 8 6) (ay_at hp 8 7) (ay_at hp 8 8) (ay_at hp 10 0) (ay_at hp 10 1) (ay_at hp 10 2) (ay_at hp 10 3) (ay_at hp 10 4) (ay_at hp 8 9) (ay_at hp 8 11) (ay_at hp 8 10) (ay_at hp 8 3) (ay_at hp 8 4) (ay_at hp 11) (ay_at hp 12) := (ax_XF_lt (x := 50) (Nat.le_of_ble_eq_true rfl)).mp (ax_gx hE (50, [3, 7]) ax_m0)
  rw [c_kind] at F50
  have F95 : pz95 (pz_gt (ρ 0)) (pz_gN (ρ 0)) ((ρ 1) / 4) := (ax_XF_lt (x := 95) (Nat.le_of_ble_eq_true rfl)).mp (ax_gx hE (95, [3, 7]) ax_m2)
  refine ⟨(fun y hy => by cases hy), _, List.mem_cons_self, ρ, fun _ _ => rfl, ax_px hE rfl (fun y hy => ?_)⟩
  cases List.mem_singleton.mp hy
  refine (ax_XF_lt (x := 94) (Nat.le_of_ble_eq_true rfl)).mpr ?_
  show pz94 (pz_gt (ρ 0)) (pz_gN (ρ 0)) ((ρ 1) / 4)
  have kd : ρ 2 / 4 = pz_kd (pz_gt (ρ 0)) (pz_gN (ρ 0)) (pz_p (pz_cf (pz_gt (ρ 0)) (pz_gN (ρ 0)) (ρ 1 / 4))) := F50.2.2.1
  exact pz_op_no (by omega) (by omega) F95

theorem axq_rq8c_2 : ax_RO ax_wC ax_XC axu_rq8c_2 := by
  intro ρ hp hE hT
  have j0 : ρ 0 % 4 = 1 := pz_gj hE 0 (Nat.le_of_ble_eq_true rfl) rfl
  have j1 : ρ 1 % 4 = 1 := pz_gj hE 1 (Nat.le_of_ble_eq_true rfl) rfl
  obtain ⟨i2a, i2b, i2c, i2d⟩ := pz_gi hE 2 2147483694 4294967295 (Nat.le_of_ble_eq_true rfl) rfl
  have c_kind : ay_at hp 8 7 = some (ρ 2) := ay_gfj hE 42 28 11 8 7 ax_m1 (ax_vlq rfl rfl) (ax_vlj rfl rfl)
  obtain ⟨-, -, -, -, F50⟩ : ay_ex hp 8 ∧ ay_ex hp 10 ∧ ay_ex hp 11 ∧ ay_ex hp 12 ∧ pz_x50 (ρ 0) (ρ 1) (ay_at hp 8 5) (ay_at hp 8 6) (ay_at hp 8 7) (ay_at hp 8 8) (ay_at hp 10 0) (ay_at hp 10 1) (ay_at hp 10 2) (ay_at hp 10 3) (ay_at hp 10 4) (ay_at hp 8 9) (ay_at hp 8 11) (ay_at hp 8 10) (ay_at hp 8 3) (ay_at hp 8 4) (ay_at hp 11) (ay_at hp 12) := (ax_XF_lt (x := 50) (Nat.le_of_ble_eq_true rfl)).mp (ax_gx hE (50, [3, 7]) ax_m0)
  rw [c_kind] at F50
  have F95 : pz95 (pz_gt (ρ 0)) (pz_gN (ρ 0)) ((ρ 1) / 4) := (ax_XF_lt (x := 95) (Nat.le_of_ble_eq_true rfl)).mp (ax_gx hE (95, [3, 7]) ax_m2)
  refine ⟨(fun y hy => by cases hy), _, List.mem_cons_self, ρ, fun _ _ => rfl, ax_px hE rfl (fun y hy => ?_)⟩
  cases List.mem_singleton.mp hy
  refine (ax_XF_lt (x := 94) (Nat.le_of_ble_eq_true rfl)).mpr ?_
  show pz94 (pz_gt (ρ 0)) (pz_gN (ρ 0)) ((ρ 1) / 4)
  have kd : ρ 2 / 4 = pz_kd (pz_gt (ρ 0)) (pz_gN (ρ 0)) (pz_p (pz_cf (pz_gt (ρ 0)) (pz_gN (ρ 0)) (ρ 1 / 4))) := F50.2.2.1
  exact pz_op_no (by omega) (by omega) F95

theorem axq_rq2_3 : ax_RO ax_wC ax_XC axu_rq2_3 := by
  intro ρ hp hE hT
  have j0 : ρ 0 % 4 = 1 := pz_gj hE 0 (Nat.le_of_ble_eq_true rfl) rfl
  have j1 : ρ 1 % 4 = 1 := pz_gj hE 1 (Nat.le_of_ble_eq_true rfl) rfl
  obtain ⟨-, -, -, -, F50⟩ : ay_ex hp 8 ∧ ay_ex hp 10 ∧ ay_ex hp 11 ∧ ay_ex hp 12 ∧ pz_x50 (ρ 0) (ρ 1) (ay_at hp 8 5) (ay_at hp 8 6) (ay_at hp 8 7) (ay_at hp 8 8) (ay_at hp 10 0) (ay_at hp 10 1) (ay_at hp 10 2) (ay_at hp 10 3) (ay_at hp 10 4) (ay_at hp 8 9) (ay_at hp 8 11) (ay_at hp 8 10) (ay_at hp 8 3) (ay_at hp 8 4) (ay_at hp 11) (ay_at hp 12) := (ax_XF_lt (x := 50) (Nat.le_of_ble_eq_true rfl)).mp (ax_gx hE (50, [3, 7]) ax_m0)
  refine ⟨(fun y hy => by cases hy), _, List.mem_cons_self, ρ, fun _ _ => rfl, ax_px hE rfl (fun y hy => ?_)⟩
  cases List.mem_singleton.mp hy
  refine (ax_XF_lt (x := 97) (Nat.le_of_ble_eq_true rfl)).mpr ?_
  show (0) / 4 ≤ (ρ 1) / 4
  exact Nat.zero_le _

theorem axq_rq3c43_3 : ax_RO ax_wC ax_XC axu_rq3c43_3 := by
  intro ρ hp hE hT
  have j0 : ρ 0 % 4 = 1 := pz_gj hE 0 (Nat.le_of_ble_eq_true rfl) rfl
  have j1 : ρ 1 % 4 = 1 := pz_gj hE 1 (Nat.le_of_ble_eq_true rfl) rfl
  have j2 : ρ 2 % 4 = 1 := pz_gj hE 2 (Nat.le_of_ble_eq_true rfl) rfl
  obtain ⟨i3a, i3b, i3c, i3d⟩ := pz_gi hE 3 2147483691 2147483691 (Nat.le_of_ble_eq_true rfl) rfl
  have j4 : ρ 4 % 4 = 1 := pz_gj hE 4 (Nat.le_of_ble_eq_true rfl) rfl
  have c_kind : ay_at hp 8 7 = some (ρ 3) := ay_gfj hE 42 28 15 8 7 ax_m3 (ax_vlq rfl rfl) (ax_vlj rfl rfl)
  have o1 : ρ 4 < ρ 1 := pz_go hE 19 7 (by decide)
  obtain ⟨-, -, -, -, F50⟩ : ay_ex hp 8 ∧ ay_ex hp 10 ∧ ay_ex hp 11 ∧ ay_ex hp 12 ∧ pz_x50 (ρ 0) (ρ 1) (ay_at hp 8 5) (ay_at hp 8 6) (ay_at hp 8 7) (ay_at hp 8 8) (ay_at hp 10 0) (ay_at hp 10 1) (ay_at hp 10 2) (ay_at hp 10 3) (ay_at hp 10 4) (ay_at hp 8 9) (ay_at hp 8 11) (ay_at hp 8 10) (ay_at hp 8 3) (ay_at hp 8 4) (ay_at hp 11) (ay_at hp 12) := (ax_XF_lt (x := 50) (Nat.le_of_ble_eq_true rfl)).mp (ax_gx hE (50, [3, 7]) ax_m0)
  rw [c_kind] at F50
  have F79 : pz7 (pz_gt (ρ 0)) (pz_gN (ρ 0)) ((ρ 1) / 4) 9 := (ax_XF_lt (x := 79) (Nat.le_of_ble_eq_true rfl)).mp (ax_gx hE (79, [3, 7]) ax_m1)
  have F90 : (pz90 (pz_gt (ρ 0)) (pz_gN (ρ 0)) ((ρ 1) / 4) ((ρ 2) / 4) ∧ 1 ≤ (ρ 2) / 4) := (ax_XF_lt (x := 90) (Nat.le_of_ble_eq_true rfl)).mp (ax_gx hE (90, [3, 7, 11]) ax_m2)
  have st := pq_op F50 F79 F90.1 (show pz_op (ρ 3 / 4) = true by rw [show ρ 3 / 4 = 43 by omega]; rfl)
  obtain ⟨ρ', h1, h2⟩ := pz_pn1 (K := ρ 1 / 4 + 1) (xf := [(53, [3, 23]), (78, [3, 23]), (90, [3, 23, 11]), (1030, [7, 23]), (98, [7, 23]), (1030, [19, 23])]) hE (by decide) (fun ρ' h1 h2 x hx => by
    have q0 : ρ' 0 = ρ 0 := h1 0 (by decide)
    have q1 : ρ' 1 = ρ 1 := h1 1 (by decide)
    have q2 : ρ' 2 = ρ 2 := h1 2 (by decide)
    have q3 : ρ' 3 = ρ 3 := h1 3 (by decide)
    have q4 : ρ' 4 = ρ 4 := h1 4 (by decide)
    rcases List.mem_cons.mp hx with e | hx
    · subst e
      refine (ax_XF_lt (x := 53) (Nat.le_of_ble_eq_true rfl)).mpr ?_
      show ay_ex hp 8 ∧ ay_ex hp 10 ∧ ay_ex hp 11 ∧ ay_ex hp 12 ∧ pz_x53 (ρ' 0) (ρ' 5) (ay_at hp 8 5) (ay_at hp 10 0) (ay_at hp 10 1) (ay_at hp 10 2) (ay_at hp 10 3) (ay_at hp 10 4) (ay_at hp 8 9) (ay_at hp 8 11) (ay_at hp 8 10) (ay_at hp 8 3) (ay_at hp 8 4) (ay_at hp 11) (ay_at hp 12)
      rw [q0, h2]
      exact ⟨(ax_cellT hT (q := 8) (g := 2) rfl), (ax_cellT hT (q := 10) (g := 1) rfl), (ax_cellT hT (q := 11) (g := 14) rfl), (ax_cellT hT (q := 12) (g := 15) rfl), pz_53 (pz_41 _) rfl st.1⟩
    rcases List.mem_cons.mp hx with e | hx
    · subst e
      refine (ax_XF_lt (x := 78) (Nat.le_of_ble_eq_true rfl)).mpr ?_
      show pz7 (pz_gt (ρ' 0)) (pz_gN (ρ' 0)) ((ρ' 5) / 4) 8
      rw [q0, h2]
      rw [pz_41]
      exact st.2.1
    rcases List.mem_cons.mp hx with e | hx
    · subst e
      refine (ax_XF_lt (x := 90) (Nat.le_of_ble_eq_true rfl)).mpr ?_
      show (pz90 (pz_gt (ρ' 0)) (pz_gN (ρ' 0)) ((ρ' 5) / 4) ((ρ' 2) / 4) ∧ 1 ≤ (ρ' 2) / 4)
      rw [q0, q2, h2]
      rw [pz_41]
      exact ⟨st.2.2, F90.2⟩
    rcases List.mem_cons.mp hx with e | hx
    · subst e
      refine (ax_XF_bi (o := 30) (by decide)).mpr (Or.inr ⟨rfl, ?_⟩)
      show ρ' 1 < ρ' 5
      rw [q1, h2]
      omega
    rcases List.mem_cons.mp hx with e | hx
    · subst e
      refine (ax_XF_lt (x := 98) (Nat.le_of_ble_eq_true rfl)).mpr ?_
      show (ρ' 5) / 4 = (ρ' 1) / 4 + 1
      rw [q1, h2]
      rw [pz_41]
    cases List.mem_singleton.mp hx
    refine (ax_XF_bi (o := 30) (by decide)).mpr (Or.inr ⟨rfl, ?_⟩)
    show ρ' 4 < ρ' 5
    rw [q4, h2]
    omega)
  exact ⟨(fun y hy => by cases hy), _, List.mem_cons_self, ρ', h1, h2⟩

theorem axq_rq3c45_3 : ax_RO ax_wC ax_XC axu_rq3c45_3 := by
  intro ρ hp hE hT
  have j0 : ρ 0 % 4 = 1 := pz_gj hE 0 (Nat.le_of_ble_eq_true rfl) rfl
  have j1 : ρ 1 % 4 = 1 := pz_gj hE 1 (Nat.le_of_ble_eq_true rfl) rfl
  have j2 : ρ 2 % 4 = 1 := pz_gj hE 2 (Nat.le_of_ble_eq_true rfl) rfl
  obtain ⟨i3a, i3b, i3c, i3d⟩ := pz_gi hE 3 2147483693 2147483693 (Nat.le_of_ble_eq_true rfl) rfl
  have j4 : ρ 4 % 4 = 1 := pz_gj hE 4 (Nat.le_of_ble_eq_true rfl) rfl
  have c_kind : ay_at hp 8 7 = some (ρ 3) := ay_gfj hE 42 28 15 8 7 ax_m3 (ax_vlq rfl rfl) (ax_vlj rfl rfl)
  have o1 : ρ 4 < ρ 1 := pz_go hE 19 7 (by decide)
  obtain ⟨-, -, -, -, F50⟩ : ay_ex hp 8 ∧ ay_ex hp 10 ∧ ay_ex hp 11 ∧ ay_ex hp 12 ∧ pz_x50 (ρ 0) (ρ 1) (ay_at hp 8 5) (ay_at hp 8 6) (ay_at hp 8 7) (ay_at hp 8 8) (ay_at hp 10 0) (ay_at hp 10 1) (ay_at hp 10 2) (ay_at hp 10 3) (ay_at hp 10 4) (ay_at hp 8 9) (ay_at hp 8 11) (ay_at hp 8 10) (ay_at hp 8 3) (ay_at hp 8 4) (ay_at hp 11) (ay_at hp 12) := (ax_XF_lt (x := 50) (Nat.le_of_ble_eq_true rfl)).mp (ax_gx hE (50, [3, 7]) ax_m0)
  rw [c_kind] at F50
  have F79 : pz7 (pz_gt (ρ 0)) (pz_gN (ρ 0)) ((ρ 1) / 4) 9 := (ax_XF_lt (x := 79) (Nat.le_of_ble_eq_true rfl)).mp (ax_gx hE (79, [3, 7]) ax_m1)
  have F90 : (pz90 (pz_gt (ρ 0)) (pz_gN (ρ 0)) ((ρ 1) / 4) ((ρ 2) / 4) ∧ 1 ≤ (ρ 2) / 4) := (ax_XF_lt (x := 90) (Nat.le_of_ble_eq_true rfl)).mp (ax_gx hE (90, [3, 7, 11]) ax_m2)
  have st := pq_op F50 F79 F90.1 (show pz_op (ρ 3 / 4) = true by rw [show ρ 3 / 4 = 45 by omega]; rfl)
  obtain ⟨ρ', h1, h2⟩ := pz_pn1 (K := ρ 1 / 4 + 1) (xf := [(53, [3, 23]), (78, [3, 23]), (90, [3, 23, 11]), (1030, [7, 23]), (98, [7, 23]), (1030, [19, 23])]) hE (by decide) (fun ρ' h1 h2 x hx => by
    have q0 : ρ' 0 = ρ 0 := h1 0 (by decide)
    have q1 : ρ' 1 = ρ 1 := h1 1 (by decide)
    have q2 : ρ' 2 = ρ 2 := h1 2 (by decide)
    have q3 : ρ' 3 = ρ 3 := h1 3 (by decide)
    have q4 : ρ' 4 = ρ 4 := h1 4 (by decide)
    rcases List.mem_cons.mp hx with e | hx
    · subst e
      refine (ax_XF_lt (x := 53) (Nat.le_of_ble_eq_true rfl)).mpr ?_
      show ay_ex hp 8 ∧ ay_ex hp 10 ∧ ay_ex hp 11 ∧ ay_ex hp 12 ∧ pz_x53 (ρ' 0) (ρ' 5) (ay_at hp 8 5) (ay_at hp 10 0) (ay_at hp 10 1) (ay_at hp 10 2) (ay_at hp 10 3) (ay_at hp 10 4) (ay_at hp 8 9) (ay_at hp 8 11) (ay_at hp 8 10) (ay_at hp 8 3) (ay_at hp 8 4) (ay_at hp 11) (ay_at hp 12)
      rw [q0, h2]
      exact ⟨(ax_cellT hT (q := 8) (g := 2) rfl), (ax_cellT hT (q := 10) (g := 1) rfl), (ax_cellT hT (q := 11) (g := 14) rfl), (ax_cellT hT (q := 12) (g := 15) rfl), pz_53 (pz_41 _) rfl st.1⟩
    rcases List.mem_cons.mp hx with e | hx
    · subst e
      refine (ax_XF_lt (x := 78) (Nat.le_of_ble_eq_true rfl)).mpr ?_
      show pz7 (pz_gt (ρ' 0)) (pz_gN (ρ' 0)) ((ρ' 5) / 4) 8
      rw [q0, h2]
      rw [pz_41]
      exact st.2.1
    rcases List.mem_cons.mp hx with e | hx
    · subst e
      refine (ax_XF_lt (x := 90) (Nat.le_of_ble_eq_true rfl)).mpr ?_
      show (pz90 (pz_gt (ρ' 0)) (pz_gN (ρ' 0)) ((ρ' 5) / 4) ((ρ' 2) / 4) ∧ 1 ≤ (ρ' 2) / 4)
      rw [q0, q2, h2]
      rw [pz_41]
      exact ⟨st.2.2, F90.2⟩
    rcases List.mem_cons.mp hx with e | hx
    · subst e
      refine (ax_XF_bi (o := 30) (by decide)).mpr (Or.inr ⟨rfl, ?_⟩)
      show ρ' 1 < ρ' 5
      rw [q1, h2]
      omega
    rcases List.mem_cons.mp hx with e | hx
    · subst e
      refine (ax_XF_lt (x := 98) (Nat.le_of_ble_eq_true rfl)).mpr ?_
      show (ρ' 5) / 4 = (ρ' 1) / 4 + 1
      rw [q1, h2]
      rw [pz_41]
    cases List.mem_singleton.mp hx
    refine (ax_XF_bi (o := 30) (by decide)).mpr (Or.inr ⟨rfl, ?_⟩)
    show ρ' 4 < ρ' 5
    rw [q4, h2]
    omega)
  exact ⟨(fun y hy => by cases hy), _, List.mem_cons_self, ρ', h1, h2⟩

theorem axq_rq5_3 : ax_RO ax_wC ax_XC axu_rq5_3 := by
  intro ρ hp hE hT
  have j0 : ρ 0 % 4 = 1 := pz_gj hE 0 (Nat.le_of_ble_eq_true rfl) rfl
  have j1 : ρ 1 % 4 = 1 := pz_gj hE 1 (Nat.le_of_ble_eq_true rfl) rfl
  have j2 : ρ 2 % 4 = 1 := pz_gj hE 2 (Nat.le_of_ble_eq_true rfl) rfl
  have j3 : ρ 3 % 4 = 1 := pz_gj hE 3 (Nat.le_of_ble_eq_true rfl) rfl
  have j4 : ρ 4 % 4 = 1 := pz_gj hE 4 (Nat.le_of_ble_eq_true rfl) rfl
  have o1 : ρ 2 < ρ 1 := pz_go hE 11 7 (by decide)
  have o2 : ρ 3 < ρ 2 := pz_go hE 15 11 (by decide)
  have o3 : ρ 4 < ρ 3 := pz_go hE 19 15 (by decide)
  obtain ⟨-, -, -, -, F50⟩ : ay_ex hp 8 ∧ ay_ex hp 10 ∧ ay_ex hp 11 ∧ ay_ex hp 12 ∧ pz_x50 (ρ 0) (ρ 1) (ay_at hp 8 5) (ay_at hp 8 6) (ay_at hp 8 7) (ay_at hp 8 8) (ay_at hp 10 0) (ay_at hp 10 1) (ay_at hp 10 2) (ay_at hp 10 3) (ay_at hp 10 4) (ay_at hp 8 9) (ay_at hp 8 11) (ay_at hp 8 10) (ay_at hp 8 3) (ay_at hp 8 4) (ay_at hp 11) (ay_at hp 12) := (ax_XF_lt (x := 50) (Nat.le_of_ble_eq_true rfl)).mp (ax_gx hE (50, [3, 7]) ax_m0)
  refine ⟨(fun y hy => by cases hy), _, List.mem_cons_self, ρ, fun _ _ => rfl, ax_px hE rfl (fun y hy => ?_)⟩
  rcases List.mem_cons.mp hy with e | hy
  · subst e
    refine (ax_XF_bi (o := 30) (by decide)).mpr (Or.inr ⟨rfl, ?_⟩)
    show ρ 4 < ρ 1
    omega
  cases List.mem_singleton.mp hy
  refine (ax_XF_bi (o := 30) (by decide)).mpr (Or.inr ⟨rfl, ?_⟩)
  show ρ 3 < ρ 1
  omega

theorem axq_rq6_3 : ax_RO ax_wC ax_XC axu_rq6_3 := by
  intro ρ hp hE hT
  have j0 : ρ 0 % 4 = 1 := pz_gj hE 0 (Nat.le_of_ble_eq_true rfl) rfl
  have j1 : ρ 1 % 4 = 1 := pz_gj hE 1 (Nat.le_of_ble_eq_true rfl) rfl
  have j2 : ρ 2 % 4 = 1 := pz_gj hE 2 (Nat.le_of_ble_eq_true rfl) rfl
  obtain ⟨i3a, i3b, i3c, i3d⟩ := pz_gi hE 3 2147483648 2147484447 (Nat.le_of_ble_eq_true rfl) rfl
  obtain ⟨i4a, i4b, i4c, i4d⟩ := pz_gi hE 4 0 4294967295 (Nat.le_of_ble_eq_true rfl) rfl
  have s1 : (ρ 3 / 4 + 2147483648) % 4294967296 + (4 / 4 + 2147483648) % 4294967296 = (ρ 4 / 4 + 2147483648) % 4294967296 + 2147483648 := pz_gs hE 15 4 19 ax_m1
  have o1 : ρ 2 < ρ 1 := pz_go hE 11 7 (by decide)
  obtain ⟨-, -, -, -, F50⟩ : ay_ex hp 8 ∧ ay_ex hp 10 ∧ ay_ex hp 11 ∧ ay_ex hp 12 ∧ pz_x50 (ρ 0) (ρ 1) (ay_at hp 8 5) (ay_at hp 8 6) (ay_at hp 8 7) (ay_at hp 8 8) (ay_at hp 10 0) (ay_at hp 10 1) (ay_at hp 10 2) (ay_at hp 10 3) (ay_at hp 10 4) (ay_at hp 8 9) (ay_at hp 8 11) (ay_at hp 8 10) (ay_at hp 8 3) (ay_at hp 8 4) (ay_at hp 11) (ay_at hp 12) := (ax_XF_lt (x := 50) (Nat.le_of_ble_eq_true rfl)).mp (ax_gx hE (50, [3, 7]) ax_m0)
  have F97 : (ρ 3) / 4 ≤ (ρ 2) / 4 := (ax_XF_lt (x := 97) (Nat.le_of_ble_eq_true rfl)).mp (ax_gx hE (97, [11, 15]) ax_m2)
  refine ⟨(fun y hy => by cases hy), _, List.mem_cons_self, ρ, fun _ _ => rfl, ax_px hE rfl (fun y hy => ?_)⟩
  cases List.mem_singleton.mp hy
  refine (ax_XF_lt (x := 97) (Nat.le_of_ble_eq_true rfl)).mpr ?_
  show (ρ 4) / 4 ≤ (ρ 1) / 4
  omega

theorem axq_rq7_3 : ax_RO ax_wC ax_XC axu_rq7_3 := by
  intro ρ hp hE hT
  have j0 : ρ 0 % 4 = 1 := pz_gj hE 0 (Nat.le_of_ble_eq_true rfl) rfl
  have j1 : ρ 1 % 4 = 1 := pz_gj hE 1 (Nat.le_of_ble_eq_true rfl) rfl
  obtain ⟨i2a, i2b, i2c, i2d⟩ := pz_gi hE 2 2147484448 2147484448 (Nat.le_of_ble_eq_true rfl) rfl
  obtain ⟨-, -, F30⟩ : ay_ex hp 8 ∧ ay_ex hp 9 ∧ pz_x30 (ρ 0) (ay_at hp 8 1) (ay_at hp 9) := (ax_XF_lt (x := 30) (Nat.le_of_ble_eq_true rfl)).mp (ax_gx hE (30, [3]) ax_m0)
  obtain ⟨-, -, -, -, F50⟩ : ay_ex hp 8 ∧ ay_ex hp 10 ∧ ay_ex hp 11 ∧ ay_ex hp 12 ∧ pz_x50 (ρ 0) (ρ 1) (ay_at hp 8 5) (ay_at hp 8 6) (ay_at hp 8 7) (ay_at hp 8 8) (ay_at hp 10 0) (ay_at hp 10 1) (ay_at hp 10 2) (ay_at hp 10 3) (ay_at hp 10 4) (ay_at hp 8 9) (ay_at hp 8 11) (ay_at hp 8 10) (ay_at hp 8 3) (ay_at hp 8 4) (ay_at hp 11) (ay_at hp 12) := (ax_XF_lt (x := 50) (Nat.le_of_ble_eq_true rfl)).mp (ax_gx hE (50, [3, 7]) ax_m1)
  have F79 : pz7 (pz_gt (ρ 0)) (pz_gN (ρ 0)) ((ρ 1) / 4) 9 := (ax_XF_lt (x := 79) (Nat.le_of_ble_eq_true rfl)).mp (ax_gx hE (79, [3, 7]) ax_m2)
  have F97 : (ρ 2) / 4 ≤ (ρ 1) / 4 := (ax_XF_lt (x := 97) (Nat.le_of_ble_eq_true rfl)).mp (ax_gx hE (97, [7, 11]) ax_m3)
  refine ⟨(fun y hy => by cases hy), _, List.mem_cons_self, ρ, fun _ _ => rfl, ax_px hE rfl (fun y hy => ?_)⟩
  cases List.mem_singleton.mp hy
  refine (ax_XF_lt (x := 94) (Nat.le_of_ble_eq_true rfl)).mpr ?_
  show pz94 (pz_gt (ρ 0)) (pz_gN (ρ 0)) ((ρ 1) / 4)
  have kd := pq_far (n := ρ 1 / 4) F79 (by decide) (show pz_gN (ρ 0) ≤ 800 from F30.2.1) (by omega)
  show pz_op (pz_kd (pz_gt (ρ 0)) (pz_gN (ρ 0)) (pz_p (pz_cf (pz_gt (ρ 0)) (pz_gN (ρ 0)) (ρ 1 / 4)))) = false
  rw [kd]
  rfl

theorem axq_rq8a_3 : ax_RO ax_wC ax_XC axu_rq8a_3 := by
  intro ρ hp hE hT
  have j0 : ρ 0 % 4 = 1 := pz_gj hE 0 (Nat.le_of_ble_eq_true rfl) rfl
  have j1 : ρ 1 % 4 = 1 := pz_gj hE 1 (Nat.le_of_ble_eq_true rfl) rfl
  obtain ⟨i2a, i2b, i2c, i2d⟩ := pz_gi hE 2 0 2147483690 (Nat.le_of_ble_eq_true rfl) rfl
  have c_kind : ay_at hp 8 7 = some (ρ 2) := ay_gfj hE 42 28 11 8 7 ax_m1 (ax_vlq rfl rfl) (ax_vlj rfl rfl)
  obtain ⟨-, -, -, -, F50⟩ : ay_ex hp 8 ∧ ay_ex hp 10 ∧ ay_ex hp 11 ∧ ay_ex hp 12 ∧ pz_x50 (ρ 0) (ρ 1) (ay_at hp 8 5) (ay_at hp 8 6) (ay_at hp 8 7) (ay_at hp 8 8) (ay_at hp 10 0) (ay_at hp 10 1) (ay_at hp 10 2) (ay_at hp 10 3) (ay_at hp 10 4) (ay_at hp 8 9) (ay_at hp 8 11) (ay_at hp 8 10) (ay_at hp 8 3) (ay_at hp 8 4) (ay_at hp 11) (ay_at hp 12) := (ax_XF_lt (x := 50) (Nat.le_of_ble_eq_true rfl)).mp (ax_gx hE (50, [3, 7]) ax_m0)
  rw [c_kind] at F50
  have F95 : pz95 (pz_gt (ρ 0)) (pz_gN (ρ 0)) ((ρ 1) / 4) := (ax_XF_lt (x := 95) (Nat.le_of_ble_eq_true rfl)).mp (ax_gx hE (95, [3, 7]) ax_m2)
  refine ⟨(fun y hy => by cases hy), _, List.mem_cons_self, ρ, fun _ _ => rfl, ax_px hE rfl (fun y hy => ?_)⟩
  cases List.mem_singleton.mp hy
  refine (ax_XF_lt (x := 94) (Nat.le_of_ble_eq_true rfl)).mpr ?_
  show pz94 (pz_gt (ρ 0)) (pz_gN (ρ 0)) ((ρ 1) / 4)
  have kd : ρ 2 / 4 = pz_kd (pz_gt (ρ 0)) (pz_gN (ρ 0)) (pz_p (pz_cf (pz_gt (ρ 0)) (pz_gN (ρ 0)) (ρ 1 / 4))) := F50.2.2.1
  exact pz_op_no (by omega) (by omega) F95

theorem axq_rq8b_3 : ax_RO ax_wC ax_XC axu_rq8b_3 := by
  intro ρ hp hE hT
  have j0 : ρ 0 % 4 = 1 := pz_gj hE 0 (Nat.le_of_ble_eq_true rfl) rfl
  have j1 : ρ 1 % 4 = 1 := pz_gj hE 1 (Nat.le_of_ble_eq_true rfl) rfl
  obtain ⟨i2a, i2b, i2c, i2d⟩ := pz_gi hE 2 2147483692 2147483692 (Nat.le_of_ble_eq_true rfl) rfl
  have c_kind : ay_at hp 8 7 = some (ρ 2) := ay_gfj hE 42 28 11 8 7 ax_m1 (ax_vlq rfl rfl) (ax_vlj rfl rfl)
  obtain ⟨-, -, -, -, F50⟩ : ay_ex hp 8 ∧ ay_ex hp 10 ∧ ay_ex hp 11 ∧ ay_ex hp 12 ∧ pz_x50 (ρ 0) (ρ 1) (ay_at hp 8 5) (ay_at hp 8 6) (ay_at hp 8 7) (ay_at hp 8 8) (ay_at hp 10 0) (ay_at hp 10 1) (ay_at hp 10 2) (ay_at hp 10 3) (ay_at hp 10 4) (ay_at hp 8 9) (ay_at hp 8 11) (ay_at hp 8 10) (ay_at hp 8 3) (ay_at hp 8 4) (ay_at hp 11) (ay_at hp 12) := (ax_XF_lt (x := 50) (Nat.le_of_ble_eq_true rfl)).mp (ax_gx hE (50, [3, 7]) ax_m0)
  rw [c_kind] at F50
  have F95 : pz95 (pz_gt (ρ 0)) (pz_gN (ρ 0)) ((ρ 1) / 4) := (ax_XF_lt (x := 95) (Nat.le_of_ble_eq_true rfl)).mp (ax_gx hE (95, [3, 7]) ax_m2)
  refine ⟨(fun y hy => by cases hy), _, List.mem_cons_self, ρ, fun _ _ => rfl, ax_px hE rfl (fun y hy => ?_)⟩
  cases List.mem_singleton.mp hy
  refine (ax_XF_lt (x := 94) (Nat.le_of_ble_eq_true rfl)).mpr ?_
  show pz94 (pz_gt (ρ 0)) (pz_gN (ρ 0)) ((ρ 1) / 4)
  have kd : ρ 2 / 4 = pz_kd (pz_gt (ρ 0)) (pz_gN (ρ 0)) (pz_p (pz_cf (pz_gt (ρ 0)) (pz_gN (ρ 0)) (ρ 1 / 4))) := F50.2.2.1
  exact pz_op_no (by omega) (by omega) F95

theorem axq_rq8c_3 : ax_RO ax_wC ax_XC axu_rq8c_3 := by
  intro ρ hp hE hT
  have j0 : ρ 0 % 4 = 1 := pz_gj hE 0 (Nat.le_of_ble_eq_true rfl) rfl
  have j1 : ρ 1 % 4 = 1 := pz_gj hE 1 (Nat.le_of_ble_eq_true rfl) rfl
  obtain ⟨i2a, i2b, i2c, i2d⟩ := pz_gi hE 2 2147483694 4294967295 (Nat.le_of_ble_eq_true rfl) rfl
  have c_kind : ay_at hp 8 7 = some (ρ 2) := ay_gfj hE 42 28 11 8 7 ax_m1 (ax_vlq rfl rfl) (ax_vlj rfl rfl)
  obtain ⟨-, -, -, -, F50⟩ : ay_ex hp 8 ∧ ay_ex hp 10 ∧ ay_ex hp 11 ∧ ay_ex hp 12 ∧ pz_x50 (ρ 0) (ρ 1) (ay_at hp 8 5) (ay_at hp 8 6) (ay_at hp 8 7) (ay_at hp 8 8) (ay_at hp 10 0) (ay_at hp 10 1) (ay_at hp 10 2) (ay_at hp 10 3) (ay_at hp 10 4) (ay_at hp 8 9) (ay_at hp 8 11) (ay_at hp 8 10) (ay_at hp 8 3) (ay_at hp 8 4) (ay_at hp 11) (ay_at hp 12) := (ax_XF_lt (x := 50) (Nat.le_of_ble_eq_true rfl)).mp (ax_gx hE (50, [3, 7]) ax_m0)
  rw [c_kind] at F50
  have F95 : pz95 (pz_gt (ρ 0)) (pz_gN (ρ 0)) ((ρ 1) / 4) := (ax_XF_lt (x := 95) (Nat.le_of_ble_eq_true rfl)).mp (ax_gx hE (95, [3, 7]) ax_m2)
  refine ⟨(fun y hy => by cases hy), _, List.mem_cons_self, ρ, fun _ _ => rfl, ax_px hE rfl (fun y hy => ?_)⟩
  cases List.mem_singleton.mp hy
  refine (ax_XF_lt (x := 94) (Nat.le_of_ble_eq_true rfl)).mpr ?_
  show pz94 (pz_gt (ρ 0)) (pz_gN (ρ 0)) ((ρ 1) / 4)
  have kd : ρ 2 / 4 = pz_kd (pz_gt (ρ 0)) (pz_gN (ρ 0)) (pz_p (pz_cf (pz_gt (ρ 0)) (pz_gN (ρ 0)) (ρ 1 / 4))) := F50.2.2.1
  exact pz_op_no (by omega) (by omega) F95

theorem axq_rq2_4 : ax_RO ax_wC ax_XC axu_rq2_4 := by
  intro ρ hp hE hT
  have j0 : ρ 0 % 4 = 1 := pz_gj hE 0 (Nat.le_of_ble_eq_true rfl) rfl
  have j1 : ρ 1 % 4 = 1 := pz_gj hE 1 (Nat.le_of_ble_eq_true rfl) rfl
  obtain ⟨-, -, -, -, F50⟩ : ay_ex hp 8 ∧ ay_ex hp 10 ∧ ay_ex hp 11 ∧ ay_ex hp 12 ∧ pz_x50 (ρ 0) (ρ 1) (ay_at hp 8 5) (ay_at hp 8 6) (ay_at hp 8 7) (ay_at hp 8 8) (ay_at hp 10 0) (ay_at hp 10 1) (ay_at hp 10 2) (ay_at hp 10 3) (ay_at hp 10 4) (ay_at hp 8 9) (ay_at hp 8 11) (ay_at hp 8 10) (ay_at hp 8 3) (ay_at hp 8 4) (ay_at hp 11) (ay_at hp 12) := (ax_XF_lt (x := 50) (Nat.le_of_ble_eq_true rfl)).mp (ax_gx hE (50, [3, 7]) ax_m0)
  refine ⟨(fun y hy => by cases hy), _, List.mem_cons_self, ρ, fun _ _ => rfl, ax_px hE rfl (fun y hy => ?_)⟩
  cases List.mem_singleton.mp hy
  refine (ax_XF_lt (x := 97) (Nat.le_of_ble_eq_true rfl)).mpr ?_
  show (0) / 4 ≤ (ρ 1) / 4
  exact Nat.zero_le _

theorem axq_rq3c43_4 : ax_RO ax_wC ax_XC axu_rq3c43_4 := by
  intro ρ hp hE hT
  have j0 : ρ 0 % 4 = 1 := pz_gj hE 0 (Nat.le_of_ble_eq_true rfl) rfl
  have j1 : ρ 1 % 4 = 1 := pz_gj hE 1 (Nat.le_of_ble_eq_true rfl) rfl
  have j2 : ρ 2 % 4 = 1 := pz_gj hE 2 (Nat.le_of_ble_eq_true rfl) rfl
  obtain ⟨i3a, i3b, i3c, i3d⟩ := pz_gi hE 3 2147483691 2147483691 (Nat.le_of_ble_eq_true rfl) rfl
  have j4 : ρ 4 % 4 = 1 := pz_gj hE 4 (Nat.le_of_ble_eq_true rfl) rfl
  have c_kind : ay_at hp 8 7 = some (ρ 3) := ay_gfj hE 42 28 15 8 7 ax_m3 (ax_vlq rfl rfl) (ax_vlj rfl rfl)
  have o1 : ρ 4 < ρ 1 := pz_go hE 19 7 (by decide)
  obtain ⟨-, -, -, -, F50⟩ : ay_ex hp 8 ∧ ay_ex hp 10 ∧ ay_ex hp 11 ∧ ay_ex hp 12 ∧ pz_x50 (ρ 0) (ρ 1) (ay_at hp 8 5) (ay_at hp 8 6) (ay_at hp 8 7) (ay_at hp 8 8) (ay_at hp 10 0) (ay_at hp 10 1) (ay_at hp 10 2) (ay_at hp 10 3) (ay_at hp 10 4) (ay_at hp 8 9) (ay_at hp 8 11) (ay_at hp 8 10) (ay_at hp 8 3) (ay_at hp 8 4) (ay_at hp 11) (ay_at hp 12) := (ax_XF_lt (x := 50) (Nat.le_of_ble_eq_true rfl)).mp (ax_gx hE (50, [3, 7]) ax_m0)
  rw [c_kind] at F50
  have F79 : pz7 (pz_gt (ρ 0)) (pz_gN (ρ 0)) ((ρ 1) / 4) 9 := (ax_XF_lt (x := 79) (Nat.le_of_ble_eq_true rfl)).mp (ax_gx hE (79, [3, 7]) ax_m1)
  have F90 : (pz90 (pz_gt (ρ 0)) (pz_gN (ρ 0)) ((ρ 1) / 4) ((ρ 2) / 4) ∧ 1 ≤ (ρ 2) / 4) := (ax_XF_lt (x := 90) (Nat.le_of_ble_eq_true rfl)).mp (ax_gx hE (90, [3, 7, 11]) ax_m2)
  have st := pq_op F50 F79 F90.1 (show pz_op (ρ 3 / 4) = true by rw [show ρ 3 / 4 = 43 by omega]; rfl)
  obtain ⟨ρ', h1, h2⟩ := pz_pn1 (K := ρ 1 / 4 + 1) (xf := [(53, [3, 23]), (78, [3, 23]), (90, [3, 23, 11]), (1030, [7, 23]), (98, [7, 23]), (1030, [19, 23])]) hE (by decide) (fun ρ' h1 h2 x hx => by
    have q0 : ρ' 0 = ρ 0 := h1 0 (by decide)
    have q1 : ρ' 1 = ρ 1 := h1 1 (by decide)
    have q2 : ρ' 2 = ρ 2 := h1 2 (by decide)
    have q3 : ρ' 3 = ρ 3 := h1 3 (by decide)
    have q4 : ρ' 4 = ρ 4 := h1 4 (by decide)
    rcases List.mem_cons.mp hx with e | hx
    · subst e
      refine (ax_XF_lt (x := 53) (Nat.le_of_ble_eq_true rfl)).mpr ?_
      show ay_ex hp 8 ∧ ay_ex hp 10 ∧ ay_ex hp 11 ∧ ay_ex hp 12 ∧ pz_x53 (ρ' 0) (ρ' 5) (ay_at hp 8 5) (ay_at hp 10 0) (ay_at hp 10 1) (ay_at hp 10 2) (ay_at hp 10 3) (ay_at hp 10 4) (ay_at hp 8 9) (ay_at hp 8 11) (ay_at hp 8 10) (ay_at hp 8 3) (ay_at hp 8 4) (ay_at hp 11) (ay_at hp 12)
      rw [q0, h2]
      exact ⟨(ax_cellT hT (q := 8) (g := 2) rfl), (ax_cellT hT (q := 10) (g := 1) rfl), (ax_cellT hT (q := 11) (g := 14) rfl), (ax_cellT hT (q := 12) (g := 15) rfl), pz_53 (pz_41 _) rfl st.1⟩
    rcases List.mem_cons.mp hx with e | hx
    · subst e
      refine (ax_XF_lt (x := 78) (Nat.le_of_ble_eq_true rfl)).mpr ?_
      show pz7 (pz_gt (ρ' 0)) (pz_gN (ρ' 0)) ((ρ' 5) / 4) 8
      rw [q0, h2]
      rw [pz_41]
      exact st.2.1
    rcases List.mem_cons.mp hx with e | hx
    · subst e
      refine (ax_XF_lt (x := 90) (Nat.le_of_ble_eq_true rfl)).mpr ?_
      show (pz90 (pz_gt (ρ' 0)) (pz_gN (ρ' 0)) ((ρ' 5) / 4) ((ρ' 2) / 4) ∧ 1 ≤ (ρ' 2) / 4)
      rw [q0, q2, h2]
      rw [pz_41]
      exact ⟨st.2.2, F90.2⟩
    rcases List.mem_cons.mp hx with e | hx
    · subst e
      refine (ax_XF_bi (o := 30) (by decide)).mpr (Or.inr ⟨rfl, ?_⟩)
      show ρ' 1 < ρ' 5
      rw [q1, h2]
      omega
    rcases List.mem_cons.mp hx with e | hx
    · subst e
      refine (ax_XF_lt (x := 98) (Nat.le_of_ble_eq_true rfl)).mpr ?_
      show (ρ' 5) / 4 = (ρ' 1) / 4 + 1
      rw [q1, h2]
      rw [pz_41]
    cases List.mem_singleton.mp hx
    refine (ax_XF_bi (o := 30) (by decide)).mpr (Or.inr ⟨rfl, ?_⟩)
    show ρ' 4 < ρ' 5
    rw [q4, h2]
    omega)
  exact ⟨(fun y hy => by cases hy), _, List.mem_cons_self, ρ', h1, h2⟩

theorem axq_rq3c45_4 : ax_RO ax_wC ax_XC axu_rq3c45_4 := by
  intro ρ hp hE hT
  have j0 : ρ 0 % 4 = 1 := pz_gj hE 0 (Nat.le_of_ble_eq_true rfl) rfl
  have j1 : ρ 1 % 4 = 1 := pz_gj hE 1 (Nat.le_of_ble_eq_true rfl) rfl
  have j2 : ρ 2 % 4 = 1 := pz_gj hE 2 (Nat.le_of_ble_eq_true rfl) rfl
  obtain ⟨i3a, i3b, i3c, i3d⟩ := pz_gi hE 3 2147483693 2147483693 (Nat.le_of_ble_eq_true rfl) rfl
  have j4 : ρ 4 % 4 = 1 := pz_gj hE 4 (Nat.le_of_ble_eq_true rfl) rfl
  have c_kind : ay_at hp 8 7 = some (ρ 3) := ay_gfj hE 42 28 15 8 7 ax_m3 (ax_vlq rfl rfl) (ax_vlj rfl rfl)
  have o1 : ρ 4 < ρ 1 := pz_go hE 19 7 (by decide)
  obtain ⟨-, -, -, -, F50⟩ : ay_ex hp 8 ∧ ay_ex hp 10 ∧ ay_ex hp 11 ∧ ay_ex hp 12 ∧ pz_x50 (ρ 0) (ρ 1) (ay_at hp 8 5) (ay_at hp 8 6) (ay_at hp 8 7) (ay_at hp 8 8) (ay_at hp 10 0) (ay_at hp 10 1) (ay_at hp 10 2) (ay_at hp 10 3) (ay_at hp 10 4) (ay_at hp 8 9) (ay_at hp 8 11) (ay_at hp 8 10) (ay_at hp 8 3) (ay_at hp 8 4) (ay_at hp 11) (ay_at hp 12) := (ax_XF_lt (x := 50) (Nat.le_of_ble_eq_true rfl)).mp (ax_gx hE (50, [3, 7]) ax_m0)
  rw [c_kind] at F50
  have F79 : pz7 (pz_gt (ρ 0)) (pz_gN (ρ 0)) ((ρ 1) / 4) 9 := (ax_XF_lt (x := 79) (Nat.le_of_ble_eq_true rfl)).mp (ax_gx hE (79, [3, 7]) ax_m1)
  have F90 : (pz90 (pz_gt (ρ 0)) (pz_gN (ρ 0)) ((ρ 1) / 4) ((ρ 2) / 4) ∧ 1 ≤ (ρ 2) / 4) := (ax_XF_lt (x := 90) (Nat.le_of_ble_eq_true rfl)).mp (ax_gx hE (90, [3, 7, 11]) ax_m2)
  have st := pq_op F50 F79 F90.1 (show pz_op (ρ 3 / 4) = true by rw [show ρ 3 / 4 = 45 by omega]; rfl)
  obtain ⟨ρ', h1, h2⟩ := pz_pn1 (K := ρ 1 / 4 + 1) (xf := [(53, [3, 23]), (78, [3, 23]), (90, [3, 23, 11]), (1030, [7, 23]), (98, [7, 23]), (1030, [19, 23])]) hE (by decide) (fun ρ' h1 h2 x hx => by
    have q0 : ρ' 0 = ρ 0 := h1 0 (by decide)
    have q1 : ρ' 1 = ρ 1 := h1 1 (by decide)
    have q2 : ρ' 2 = ρ 2 := h1 2 (by decide)
    have q3 : ρ' 3 = ρ 3 := h1 3 (by decide)
    have q4 : ρ' 4 = ρ 4 := h1 4 (by decide)
    rcases List.mem_cons.mp hx with e | hx
    · subst e
      refine (ax_XF_lt (x := 53) (Nat.le_of_ble_eq_true rfl)).mpr ?_
      show ay_ex hp 8 ∧ ay_ex hp 10 ∧ ay_ex hp 11 ∧ ay_ex hp 12 ∧ pz_x53 (ρ' 0) (ρ' 5) (ay_at hp 8 5) (ay_at hp 10 0) (ay_at hp 10 1) (ay_at hp 10 2) (ay_at hp 10 3) (ay_at hp 10 4) (ay_at hp 8 9) (ay_at hp 8 11) (ay_at hp 8 10) (ay_at hp 8 3) (ay_at hp 8 4) (ay_at hp 11) (ay_at hp 12)
      rw [q0, h2]
      exact ⟨(ax_cellT hT (q := 8) (g := 2) rfl), (ax_cellT hT (q := 10) (g := 1) rfl), (ax_cellT hT (q := 11) (g := 14) rfl), (ax_cellT hT (q := 12) (g := 15) rfl), pz_53 (pz_41 _) rfl st.1⟩
    rcases List.mem_cons.mp hx with e | hx
    · subst e
      refine (ax_XF_lt (x := 78) (Nat.le_of_ble_eq_true rfl)).mpr ?_
      show pz7 (pz_gt (ρ' 0)) (pz_gN (ρ' 0)) ((ρ' 5) / 4) 8
      rw [q0, h2]
      rw [pz_41]
      exact st.2.1
    rcases List.mem_cons.mp hx with e | hx
    · subst e
      refine (ax_XF_lt (x := 90) (Nat.le_of_ble_eq_true rfl)).mpr ?_
      show (pz90 (pz_gt (ρ' 0)) (pz_gN (ρ' 0)) ((ρ' 5) / 4) ((ρ' 2) / 4) ∧ 1 ≤ (ρ' 2) / 4)
      rw [q0, q2, h2]
      rw [pz_41]
      exact ⟨st.2.2, F90.2⟩
    rcases List.mem_cons.mp hx with e | hx
    · subst e
      refine (ax_XF_bi (o := 30) (by decide)).mpr (Or.inr ⟨rfl, ?_⟩)
      show ρ' 1 < ρ' 5
      rw [q1, h2]
      omega
    rcases List.mem_cons.mp hx with e | hx
    · subst e
      refine (ax_XF_lt (x := 98) (Nat.le_of_ble_eq_true rfl)).mpr ?_
      show (ρ' 5) / 4 = (ρ' 1) / 4 + 1
      rw [q1, h2]
      rw [pz_41]
    cases List.mem_singleton.mp hx
    refine (ax_XF_bi (o := 30) (by decide)).mpr (Or.inr ⟨rfl, ?_⟩)
    show ρ' 4 < ρ' 5
    rw [q4, h2]
    omega)
  exact ⟨(fun y hy => by cases hy), _, List.mem_cons_self, ρ', h1, h2⟩

theorem axq_rq5_4 : ax_RO ax_wC ax_XC axu_rq5_4 := by
  intro ρ hp hE hT
  have j0 : ρ 0 % 4 = 1 := pz_gj hE 0 (Nat.le_of_ble_eq_true rfl) rfl
  have j1 : ρ 1 % 4 = 1 := pz_gj hE 1 (Nat.le_of_ble_eq_true rfl) rfl
  have j2 : ρ 2 % 4 = 1 := pz_gj hE 2 (Nat.le_of_ble_eq_true rfl) rfl
  have j3 : ρ 3 % 4 = 1 := pz_gj hE 3 (Nat.le_of_ble_eq_true rfl) rfl
  have j4 : ρ 4 % 4 = 1 := pz_gj hE 4 (Nat.le_of_ble_eq_true rfl) rfl
  have o1 : ρ 2 < ρ 1 := pz_go hE 11 7 (by decide)
  have o2 : ρ 3 < ρ 2 := pz_go hE 15 11 (by decide)
  have o3 : ρ 4 < ρ 3 := pz_go hE 19 15 (by decide)
  obtain ⟨-, -, -, -, F50⟩ : ay_ex hp 8 ∧ ay_ex hp 10 ∧ ay_ex hp 11 ∧ ay_ex hp 12 ∧ pz_x50 (ρ 0) (ρ 1) (ay_at hp 8 5) (ay_at hp 8 6) (ay_at hp 8 7) (ay_at hp 8 8) (ay_at hp 10 0) (ay_at hp 10 1) (ay_at hp 10 2) (ay_at hp 10 3) (ay_at hp 10 4) (ay_at hp 8 9) (ay_at hp 8 11) (ay_at hp 8 10) (ay_at hp 8 3) (ay_at hp 8 4) (ay_at hp 11) (ay_at hp 12) := (ax_XF_lt (x := 50) (Nat.le_of_ble_eq_true rfl)).mp (ax_gx hE (50, [3, 7]) ax_m0)
  refine ⟨(fun y hy => by cases hy), _, List.mem_cons_self, ρ, fun _ _ => rfl, ax_px hE rfl (fun y hy => ?_)⟩
  rcases List.mem_cons.mp hy with e | hy
  · subst e
    refine (ax_XF_bi (o := 30) (by decide)).mpr (Or.inr ⟨rfl, ?_⟩)
    show ρ 4 < ρ 1
    omega
  cases List.mem_singleton.mp hy
  refine (ax_XF_bi (o := 30) (by decide)).mpr (Or.inr ⟨rfl, ?_⟩)
  show ρ 3 < ρ 1
  omega

theorem axq_rq6_4 : ax_RO ax_wC ax_XC axu_rq6_4 := by
  intro ρ hp hE hT
  have j0 : ρ 0 % 4 = 1 := pz_gj hE 0 (Nat.le_of_ble_eq_true rfl) rfl
  have j1 : ρ 1 % 4 = 1 := pz_gj hE 1 (Nat.le_of_ble_eq_true rfl) rfl
  have j2 : ρ 2 % 4 = 1 := pz_gj hE 2 (Nat.le_of_ble_eq_true rfl) rfl
  obtain ⟨i3a, i3b, i3c, i3d⟩ := pz_gi hE 3 2147483648 2147484447 (Nat.le_of_ble_eq_true rfl) rfl
  obtain ⟨i4a, i4b, i4c, i4d⟩ := pz_gi hE 4 0 4294967295 (Nat.le_of_ble_eq_true rfl) rfl
  have s1 : (ρ 3 / 4 + 2147483648) % 4294967296 + (4 / 4 + 2147483648) % 4294967296 = (ρ 4 / 4 + 2147483648) % 4294967296 + 2147483648 := pz_gs hE 15 4 19 ax_m1
  have o1 : ρ 2 < ρ 1 := pz_go hE 11 7 (by decide)
  obtain ⟨-, -, -, -, F50⟩ : ay_ex hp 8 ∧ ay_ex hp 10 ∧ ay_ex hp 11 ∧ ay_ex hp 12 ∧ pz_x50 (ρ 0) (ρ 1) (ay_at hp 8 5) (ay_at hp 8 6) (ay_at hp 8 7) (ay_at hp 8 8) (ay_at hp 10 0) (ay_at hp 10 1) (ay_at hp 10 2) (ay_at hp 10 3) (ay_at hp 10 4) (ay_at hp 8 9) (ay_at hp 8 11) (ay_at hp 8 10) (ay_at hp 8 3) (ay_at hp 8 4) (ay_at hp 11) (ay_at hp 12) := (ax_XF_lt (x := 50) (Nat.le_of_ble_eq_true rfl)).mp (ax_gx hE (50, [3, 7]) ax_m0)
  have F97 : (ρ 3) / 4 ≤ (ρ 2) / 4 := (ax_XF_lt (x := 97) (Nat.le_of_ble_eq_true rfl)).mp (ax_gx hE (97, [11, 15]) ax_m2)
  refine ⟨(fun y hy => by cases hy), _, List.mem_cons_self, ρ, fun _ _ => rfl, ax_px hE rfl (fun y hy => ?_)⟩
  cases List.mem_singleton.mp hy
  refine (ax_XF_lt (x := 97) (Nat.le_of_ble_eq_true rfl)).mpr ?_
  show (ρ 4) / 4 ≤ (ρ 1) / 4
  omega

theorem axq_rq7_4 : ax_RO ax_wC ax_XC axu_rq7_4 := by
  intro ρ hp hE hT
  have j0 : ρ 0 % 4 = 1 := pz_gj hE 0 (Nat.le_of_ble_eq_true rfl) rfl
  have j1 : ρ 1 % 4 = 1 := pz_gj hE 1 (Nat.le_of_ble_eq_true rfl) rfl
  obtain ⟨i2a, i2b, i2c, i2d⟩ := pz_gi hE 2 2147484448 2147484448 (Nat.le_of_ble_eq_true rfl) rfl
  obtain ⟨-, -, F30⟩ : ay_ex hp 8 ∧ ay_ex hp 9 ∧ pz_x30 (ρ 0) (ay_at hp 8 1) (ay_at hp 9) := (ax_XF_lt (x := 30) (Nat.le_of_ble_eq_true rfl)).mp (ax_gx hE (30, [3]) ax_m0)
  obtain ⟨-, -, -, -, F50⟩ : ay_ex hp 8 ∧ ay_ex hp 10 ∧ ay_ex hp 11 ∧ ay_ex hp 12 ∧ pz_x50 (ρ 0) (ρ 1) (ay_at hp 8 5) (ay_at hp 8 6) (ay_at hp 8 7) (ay_at hp 8 8) (ay_at hp 10 0) (ay_at hp 10 1) (ay_at hp 10 2) (ay_at hp 10 3) (ay_at hp 10 4) (ay_at hp 8 9) (ay_at hp 8 11) (ay_at hp 8 10) (ay_at hp 8 3) (ay_at hp 8 4) (ay_at hp 11) (ay_at hp 12) := (ax_XF_lt (x := 50) (Nat.le_of_ble_eq_true rfl)).mp (ax_gx hE (50, [3, 7]) ax_m1)
  have F79 : pz7 (pz_gt (ρ 0)) (pz_gN (ρ 0)) ((ρ 1) / 4) 9 := (ax_XF_lt (x := 79) (Nat.le_of_ble_eq_true rfl)).mp (ax_gx hE (79, [3, 7]) ax_m2)
  have F97 : (ρ 2) / 4 ≤ (ρ 1) / 4 := (ax_XF_lt (x := 97) (Nat.le_of_ble_eq_true rfl)).mp (ax_gx hE (97, [7, 11]) ax_m3)
  refine ⟨(fun y hy => by cases hy), _, List.mem_cons_self, ρ, fun _ _ => rfl, ax_px hE rfl (fun y hy => ?_)⟩
  cases List.mem_singleton.mp hy
  refine (ax_XF_lt (x := 94) (Nat.le_of_ble_eq_true rfl)).mpr ?_
  show pz94 (pz_gt (ρ 0)) (pz_gN (ρ 0)) ((ρ 1) / 4)
  have kd := pq_far (n := ρ 1 / 4) F79 (by decide) (show pz_gN (ρ 0) ≤ 800 from F30.2.1) (by omega)
  show pz_op (pz_kd (pz_gt (ρ 0)) (pz_gN (ρ 0)) (pz_p (pz_cf (pz_gt (ρ 0)) (pz_gN (ρ 0)) (ρ 1 / 4)))) = false
  rw [kd]
  rfl

theorem axq_rq8a_4 : ax_RO ax_wC ax_XC axu_rq8a_4 := by
  intro ρ hp hE hT
  have j0 : ρ 0 % 4 = 1 := pz_gj hE 0 (Nat.le_of_ble_eq_true rfl) rfl
  have j1 : ρ 1 % 4 = 1 := pz_gj hE 1 (Nat.le_of_ble_eq_true rfl) rfl
  obtain ⟨i2a, i2b, i2c, i2d⟩ := pz_gi hE 2 0 2147483690 (Nat.le_of_ble_eq_true rfl) rfl
  have c_kind : ay_at hp 8 7 = some (ρ 2) := ay_gfj hE 42 28 11 8 7 ax_m1 (ax_vlq rfl rfl) (ax_vlj rfl rfl)
  obtain ⟨-, -, -, -, F50⟩ : ay_ex hp 8 ∧ ay_ex hp 10 ∧ ay_ex hp 11 ∧ ay_ex hp 12 ∧ pz_x50 (ρ 0) (ρ 1) (ay_at hp 8 5) (ay_at hp 8 6) (ay_at hp 8 7) (ay_at hp 8 8) (ay_at hp 10 0) (ay_at hp 10 1) (ay_at hp 10 2) (ay_at hp 10 3) (ay_at hp 10 4) (ay_at hp 8 9) (ay_at hp 8 11) (ay_at hp 8 10) (ay_at hp 8 3) (ay_at hp 8 4) (ay_at hp 11) (ay_at hp 12) := (ax_XF_lt (x := 50) (Nat.le_of_ble_eq_true rfl)).mp (ax_gx hE (50, [3, 7]) ax_m0)
  rw [c_kind] at F50
  have F95 : pz95 (pz_gt (ρ 0)) (pz_gN (ρ 0)) ((ρ 1) / 4) := (ax_XF_lt (x := 95) (Nat.le_of_ble_eq_true rfl)).mp (ax_gx hE (95, [3, 7]) ax_m2)
  refine ⟨(fun y hy => by cases hy), _, List.mem_cons_self, ρ, fun _ _ => rfl, ax_px hE rfl (fun y hy => ?_)⟩
  cases List.mem_singleton.mp hy
  refine (ax_XF_lt (x := 94) (Nat.le_of_ble_eq_true rfl)).mpr ?_
  show pz94 (pz_gt (ρ 0)) (pz_gN (ρ 0)) ((ρ 1) / 4)
  have kd : ρ 2 / 4 = pz_kd (pz_gt (ρ 0)) (pz_gN (ρ 0)) (pz_p (pz_cf (pz_gt (ρ 0)) (pz_gN (ρ 0)) (ρ 1 / 4))) := F50.2.2.1
  exact pz_op_no (by omega) (by omega) F95

theorem axq_rq8b_4 : ax_RO ax_wC ax_XC axu_rq8b_4 := by
  intro ρ hp hE hT
  have j0 : ρ 0 % 4 = 1 := pz_gj hE 0 (Nat.le_of_ble_eq_true rfl) rfl
  have j1 : ρ 1 % 4 = 1 := pz_gj hE 1 (Nat.le_of_ble_eq_true rfl) rfl
  obtain ⟨i2a, i2b, i2c, i2d⟩ := pz_gi hE 2 2147483692 2147483692 (Nat.le_of_ble_eq_true rfl) rfl
  have c_kind : ay_at hp 8 7 = some (ρ 2) := ay_gfj hE 42 28 11 8 7 ax_m1 (ax_vlq rfl rfl) (ax_vlj rfl rfl)
  obtain ⟨-, -, -, -, F50⟩ : ay_ex hp 8 ∧ ay_ex hp 10 ∧ ay_ex hp 11 ∧ ay_ex hp 12 ∧ pz_x50 (ρ 0) (ρ 1) (ay_at hp 8 5) (ay_at hp 8 6) (ay_at hp 8 7) (ay_at hp 8 8) (ay_at hp 10 0) (ay_at hp 10 1) (ay_at hp 10 2) (ay_at hp 10 3) (ay_at hp 10 4) (ay_at hp 8 9) (ay_at hp 8 11) (ay_at hp 8 10) (ay_at hp 8 3) (ay_at hp 8 4) (ay_at hp 11) (ay_at hp 12) := (ax_XF_lt (x := 50) (Nat.le_of_ble_eq_true rfl)).mp (ax_gx hE (50, [3, 7]) ax_m0)
  rw [c_kind] at F50
  have F95 : pz95 (pz_gt (ρ 0)) (pz_gN (ρ 0)) ((ρ 1) / 4) := (ax_XF_lt (x := 95) (Nat.le_of_ble_eq_true rfl)).mp (ax_gx hE (95, [3, 7]) ax_m2)
  refine ⟨(fun y hy => by cases hy), _, List.mem_cons_self, ρ, fun _ _ => rfl, ax_px hE rfl (fun y hy => ?_)⟩
  cases List.mem_singleton.mp hy
  refine (ax_XF_lt (x := 94) (Nat.le_of_ble_eq_true rfl)).mpr ?_
  show pz94 (pz_gt (ρ 0)) (pz_gN (ρ 0)) ((ρ 1) / 4)
  have kd : ρ 2 / 4 = pz_kd (pz_gt (ρ 0)) (pz_gN (ρ 0)) (pz_p (pz_cf (pz_gt (ρ 0)) (pz_gN (ρ 0)) (ρ 1 / 4))) := F50.2.2.1
  exact pz_op_no (by omega) (by omega) F95

theorem axq_rq8c_4 : ax_RO ax_wC ax_XC axu_rq8c_4 := by
  intro ρ hp hE hT
  have j0 : ρ 0 % 4 = 1 := pz_gj hE 0 (Nat.le_of_ble_eq_true rfl) rfl
  have j1 : ρ 1 % 4 = 1 := pz_gj hE 1 (Nat.le_of_ble_eq_true rfl) rfl
  obtain ⟨i2a, i2b, i2c, i2d⟩ := pz_gi hE 2 2147483694 4294967295 (Nat.le_of_ble_eq_true rfl) rfl
  have c_kind : ay_at hp 8 7 = some (ρ 2) := ay_gfj hE 42 28 11 8 7 ax_m1 (ax_vlq rfl rfl) (ax_vlj rfl rfl)
  obtain ⟨-, -, -, -, F50⟩ : ay_ex hp 8 ∧ ay_ex hp 10 ∧ ay_ex hp 11 ∧ ay_ex hp 12 ∧ pz_x50 (ρ 0) (ρ 1) (ay_at hp 8 5) (ay_at hp 8 6) (ay_at hp 8 7) (ay_at hp 8 8) (ay_at hp 10 0) (ay_at hp 10 1) (ay_at hp 10 2) (ay_at hp 10 3) (ay_at hp 10 4) (ay_at hp 8 9) (ay_at hp 8 11) (ay_at hp 8 10) (ay_at hp 8 3) (ay_at hp 8 4) (ay_at hp 11) (ay_at hp 12) := (ax_XF_lt (x := 50) (Nat.le_of_ble_eq_true rfl)).mp (ax_gx hE (50, [3, 7]) ax_m0)
  rw [c_kind] at F50
  have F95 : pz95 (pz_gt (ρ 0)) (pz_gN (ρ 0)) ((ρ 1) / 4) := (ax_XF_lt (x := 95) (Nat.le_of_ble_eq_true rfl)).mp (ax_gx hE (95, [3, 7]) ax_m2)
  refine ⟨(fun y hy => by cases hy), _, List.mem_cons_self, ρ, fun _ _ => rfl, ax_px hE rfl (fun y hy => ?_)⟩
  cases List.mem_singleton.mp hy
  refine (ax_XF_lt (x := 94) (Nat.le_of_ble_eq_true rfl)).mpr ?_
  show pz94 (pz_gt (ρ 0)) (pz_gN (ρ 0)) ((ρ 1) / 4)
  have kd : ρ 2 / 4 = pz_kd (pz_gt (ρ 0)) (pz_gN (ρ 0)) (pz_p (pz_cf (pz_gt (ρ 0)) (pz_gN (ρ 0)) (ρ 1 / 4))) := F50.2.2.1
  exact pz_op_no (by omega) (by omega) F95

theorem axq_rq2_5 : ax_RO ax_wC ax_XC axu_rq2_5 := by
  intro ρ hp hE hT
  have j0 : ρ 0 % 4 = 1 := pz_gj hE 0 (Nat.le_of_ble_eq_true rfl) rfl
  have j1 : ρ 1 % 4 = 1 := pz_gj hE 1 (Nat.le_of_ble_eq_true rfl) rfl
  obtain ⟨-, -, -, -, F50⟩ : ay_ex hp 8 ∧ ay_ex hp 10 ∧ ay_ex hp 11 ∧ ay_ex hp 12 ∧ pz_x50 (ρ 0) (ρ 1) (ay_at hp 8 5) (ay_at hp 8 6) (ay_at hp 8 7) (ay_at hp 8 8) (ay_at hp 10 0) (ay_at hp 10 1) (ay_at hp 10 2) (ay_at hp 10 3) (ay_at hp 10 4) (ay_at hp 8 9) (ay_at hp 8 11) (ay_at hp 8 10) (ay_at hp 8 3) (ay_at hp 8 4) (ay_at hp 11) (ay_at hp 12) := (ax_XF_lt (x := 50) (Nat.le_of_ble_eq_true rfl)).mp (ax_gx hE (50, [3, 7]) ax_m0)
  refine ⟨(fun y hy => by cases hy), _, List.mem_cons_self, ρ, fun _ _ => rfl, ax_px hE rfl (fun y hy => ?_)⟩
  cases List.mem_singleton.mp hy
  refine (ax_XF_lt (x := 97) (Nat.le_of_ble_eq_true rfl)).mpr ?_
  show (0) / 4 ≤ (ρ 1) / 4
  exact Nat.zero_le _

theorem axq_rq3c43_5 : ax_RO ax_wC ax_XC axu_rq3c43_5 := by
  intro ρ hp hE hT
  have j0 : ρ 0 % 4 = 1 := pz_gj hE 0 (Nat.le_of_ble_eq_true rfl) rfl
  have j1 : ρ 1 % 4 = 1 := pz_gj hE 1 (Nat.le_of_ble_eq_true rfl) rfl
  have j2 : ρ 2 % 4 = 1 := pz_gj hE 2 (Nat.le_of_ble_eq_true rfl) rfl
  obtain ⟨i3a, i3b, i3c, i3d⟩ := pz_gi hE 3 2147483691 2147483691 (Nat.le_of_ble_eq_true rfl) rfl
  have j4 : ρ 4 % 4 = 1 := pz_gj hE 4 (Nat.le_of_ble_eq_true rfl) rfl
  have c_kind : ay_at hp 8 7 = some (ρ 3) := ay_gfj hE 42 28 15 8 7 ax_m3 (ax_vlq rfl rfl) (ax_vlj rfl rfl)
  have o1 : ρ 4 < ρ 1 := pz_go hE 19 7 (by decide)
  obtain ⟨-, -, -, -, F50⟩ : ay_ex hp 8 ∧ ay_ex hp 10 ∧ ay_ex hp 11 ∧ ay_ex hp 12 ∧ pz_x50 (ρ 0) (ρ 1) (ay_at hp 8 5) (ay_at hp 8 6) (ay_at hp 8 7) (ay_at hp 8 8) (ay_at hp 10 0) (ay_at hp 10 1) (ay_at hp 10 2) (ay_at hp 10 3) (ay_at hp 10 4) (ay_at hp 8 9) (ay_at hp 8 11) (ay_at hp 8 10) (ay_at hp 8 3) (ay_at hp 8 4) (ay_at hp 11) (ay_at hp 12) := (ax_XF_lt (x := 50) (Nat.le_of_ble_eq_true rfl)).mp (ax_gx hE (50, [3, 7]) ax_m0)
  rw [c_kind] at F50
  have F79 : pz7 (pz_gt (ρ 0)) (pz_gN (ρ 0)) ((ρ 1) / 4) 9 := (ax_XF_lt (x := 79) (Nat.le_of_ble_eq_true rfl)).mp (ax_gx hE (79, [3, 7]) ax_m1)
  have F90 : (pz90 (pz_gt (ρ 0)) (pz_gN (ρ 0)) ((ρ 1) / 4) ((ρ 2) / 4) ∧ 1 ≤ (ρ 2) / 4) := (ax_XF_lt (x := 90) (Nat.le_of_ble_eq_true rfl)).mp (ax_gx hE (90, [3, 7, 11]) ax_m2)
  have st := pq_op F50 F79 F90.1 (show pz_op (ρ 3 / 4) = true by rw [show ρ 3 / 4 = 43 by omega]; rfl)
  obtain ⟨ρ', h1, h2⟩ := pz_pn1 (K := ρ 1 / 4 + 1) (xf := [(53, [3, 23]), (78, [3, 23]), (90, [3, 23, 11]), (1030, [7, 23]), (98, [7, 23]), (1030, [19, 23])]) hE (by decide) (fun ρ' h1 h2 x hx => by
    have q0 : ρ' 0 = ρ 0 := h1 0 (by decide)
    have q1 : ρ' 1 = ρ 1 := h1 1 (by decide)
    have q2 : ρ' 2 = ρ 2 := h1 2 (by decide)
    have q3 : ρ' 3 = ρ 3 := h1 3 (by decide)
    have q4 : ρ' 4 = ρ 4 := h1 4 (by decide)
    rcases List.mem_cons.mp hx with e | hx
    · subst e
      refine (ax_XF_lt (x := 53) (Nat.le_of_ble_eq_true rfl)).mpr ?_
      show ay_ex hp 8 ∧ ay_ex hp 10 ∧ ay_ex hp 11 ∧ ay_ex hp 12 ∧ pz_x53 (ρ' 0) (ρ' 5) (ay_at hp 8 5) (ay_at hp 10 0) (ay_at hp 10 1) (ay_at hp 10 2) (ay_at hp 10 3) (ay_at hp 10 4) (ay_at hp 8 9) (ay_at hp 8 11) (ay_at hp 8 10) (ay_at hp 8 3) (ay_at hp 8 4) (ay_at hp 11) (ay_at hp 12)
      rw [q0, h2]
      exact ⟨(ax_cellT hT (q := 8) (g := 2) rfl), (ax_cellT hT (q := 10) (g := 1) rfl), (ax_cellT hT (q := 11) (g := 14) rfl), (ax_cellT hT (q := 12) (g := 15) rfl), pz_53 (pz_41 _) rfl st.1⟩
    rcases List.mem_cons.mp hx with e | hx
    · subst e
      refine (ax_XF_lt (x := 78) (Nat.le_of_ble_eq_true rfl)).mpr ?_
      show pz7 (pz_gt (ρ' 0)) (pz_gN (ρ' 0)) ((ρ' 5) / 4) 8
      rw [q0, h2]
      rw [pz_41]
      exact st.2.1
    rcases List.mem_cons.mp hx with e | hx
    · subst e
      refine (ax_XF_lt (x := 90) (Nat.le_of_ble_eq_true rfl)).mpr ?_
      show (pz90 (pz_gt (ρ' 0)) (pz_gN (ρ' 0)) ((ρ' 5) / 4) ((ρ' 2) / 4) ∧ 1 ≤ (ρ' 2) / 4)
      rw [q0, q2, h2]
      rw [pz_41]
      exact ⟨st.2.2, F90.2⟩
    rcases List.mem_cons.mp hx with e | hx
    · subst e
      refine (ax_XF_bi (o := 30) (by decide)).mpr (Or.inr ⟨rfl, ?_⟩)
      show ρ' 1 < ρ' 5
      rw [q1, h2]
      omega
    rcases List.mem_cons.mp hx with e | hx
    · subst e
      refine (ax_XF_lt (x := 98) (Nat.le_of_ble_eq_true rfl)).mpr ?_
      show (ρ' 5) / 4 = (ρ' 1) / 4 + 1
      rw [q1, h2]
      rw [pz_41]
    cases List.mem_singleton.mp hx
    refine (ax_XF_bi (o := 30) (by decide)).mpr (Or.inr ⟨rfl, ?_⟩)
    show ρ' 4 < ρ' 5
    rw [q4, h2]
    omega)
  exact ⟨(fun y hy => by cases hy), _, List.mem_cons_self, ρ', h1, h2⟩
end
