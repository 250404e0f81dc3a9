section
theorem axq0_ij3c : ax_RO ax_wM0 (ax_XM 0) axu0_ij3c := by
  intro ρ hp hE hT
  have j0 : ρ 0 % 4 = 1 := pz_gj hE 0 (Nat.le_of_ble_eq_true rfl) rfl
  have j1 : ρ 1 % 4 = 1 := pz_gj hE 1 (Nat.le_of_ble_eq_true rfl) rfl
  obtain ⟨i2a, i2b, i2c, i2d⟩ := pz_gi hE 2 0 4294967295 (Nat.le_of_ble_eq_true rfl) rfl
  obtain ⟨i3a, i3b, i3c, i3d⟩ := pz_gi hE 3 0 4294967295 (Nat.le_of_ble_eq_true rfl) rfl
  obtain ⟨i4a, i4b, i4c, i4d⟩ := pz_gi hE 4 2147483648 2147483667 (Nat.le_of_ble_eq_true rfl) rfl
  obtain ⟨i5a, i5b, i5c, i5d⟩ := pz_gi hE 5 0 4294967295 (Nat.le_of_ble_eq_true rfl) rfl
  obtain ⟨i6a, i6b, i6c, i6d⟩ := pz_gi hE 6 0 4294967295 (Nat.le_of_ble_eq_true rfl) rfl
  obtain ⟨i7a, i7b, i7c, i7d⟩ := pz_gi hE 7 0 4294967295 (Nat.le_of_ble_eq_true rfl) rfl
  obtain ⟨i8a, i8b, i8c, i8d⟩ := pz_gi hE 8 0 4294967295 (Nat.le_of_ble_eq_true rfl) rfl
  obtain ⟨i9a, i9b, i9c, i9d⟩ := pz_gi hE 9 0 4294967295 (Nat.le_of_ble_eq_true rfl) rfl
  obtain ⟨i10a, i10b, i10c, i10d⟩ := pz_gi hE 10 2147483648 2147483657 (Nat.le_of_ble_eq_true rfl) rfl
  obtain ⟨i11a, i11b, i11c, i11d⟩ := pz_gi hE 11 2147483648 2147483657 (Nat.le_of_ble_eq_true rfl) rfl
  have s1 : (ρ 4 / 4 + 2147483648) % 4294967296 + (4 / 4 + 2147483648) % 4294967296 = (ρ 5 / 4 + 2147483648) % 4294967296 + 2147483648 := pz_gs hE 19 4 23 ax_m2
  have s2 : (160 / 4 + 2147483648) % 4294967296 + (ρ 6 / 4 + 2147483648) % 4294967296 = (ρ 7 / 4 + 2147483648) % 4294967296 + 2147483648 := pz_gs hE 160 27 31 ax_m4
  have s3 : (ρ 7 / 4 + 2147483648) % 4294967296 + (0 / 4 + 2147483648) % 4294967296 = (ρ 8 / 4 + 2147483648) % 4294967296 + 2147483648 := pz_gs hE 31 0 35 ax_m5
  have c_ends : ay_at hp 181 (ρ 8 / 4) = some (ρ 10) := ay_gf hE 734 35 43 181 ax_m6 (ax_vlq rfl rfl)
  have s4 : (ρ 7 / 4 + 2147483648) % 4294967296 + (4 / 4 + 2147483648) % 4294967296 = (ρ 9 / 4 + 2147483648) % 4294967296 + 2147483648 := pz_gs hE 31 4 39 ax_m7
  have c_ends2 : ay_at hp 181 (ρ 9 / 4) = some (ρ 11) := ay_gf hE 734 39 47 181 ax_m8 (ax_vlq rfl rfl)
  have r1 : (ρ 11 / 4 + 2147483648) % 4294967296 ≠ (ρ 3 / 4 + 2147483648) % 4294967296 := pz_gc hE 1 47 15 (Nat.le_of_ble_eq_true rfl) ax_m9
  have r2 : (ρ 10 / 4 + 2147483648) % 4294967296 ≠ (ρ 3 / 4 + 2147483648) % 4294967296 := pz_gc hE 1 43 15 (Nat.le_of_ble_eq_true rfl) ax_m10
  obtain ⟨-, -, -, -, -, -, -, -, -, -, -, F152⟩ : ay_ex hp 175 ∧ ay_ex hp 176 ∧ ay_ex hp 177 ∧ ay_ex hp 178 ∧ ay_ex hp 179 ∧ ay_ex hp 173 ∧ ay_ex hp 173 ∧ ay_ex hp 173 ∧ ay_ex hp 173 ∧ ay_ex hp 173 ∧ ay_ex hp 181 ∧ pz_y152 1 (ρ 0) (ρ 1) (ay_at hp 175 1) (ay_at hp 176 1) (ay_at hp 177 1) (ay_at hp 178 1) (ay_at hp 179 1) (ay_at hp 173 23) (ay_at hp 173 25) (ay_at hp 173 24) (ay_at hp 173 18) (ay_at hp 173 19) (ay_at hp 181) := (ax_XF_lt (x := 152) (Nat.le_of_ble_eq_true rfl)).mp (ax_gx hE (152, [3, 7]) ax_m0)
  have F215 : pz_y215 (ρ 0) (ρ 1) (ρ 2) (ρ 3) (ρ 4) := (ax_XF_lt (x := 215) (Nat.le_of_ble_eq_true rfl)).mp (ax_gx hE (215, [3, 7, 11, 15, 19]) ax_m1)
  obtain ⟨r, m1, m2', m3⟩ := ay_mk hE 2 8 19 27 (by decide) (by decide)
  replace m1 : some (8 / 4 * (ρ 4 / 4) % 4294967296) = some r := m1
  have m1 := Option.some.inj m1
  replace m3 : ρ 6 = 4 * r := m3
  have hi := (pz_ps 0 19 i4b i4c i4d (by decide)).2
  have hm : ρ 6 / 4 = 2 * (ρ 4 / 4) := by
    clear s1 s2 s3 s4
    omega
  have h1 : ρ 7 / 4 = 40 + ρ 6 / 4 := pz_sm (by decide) (by omega) i7b s2
  have h2 : ρ 8 / 4 = ρ 7 / 4 + 0 := pz_sm (by omega) (by decide) i8b s3
  have h3 : ρ 9 / 4 = ρ 7 / 4 + 1 := pz_sm (by omega) (by decide) i9b s4
  rw [show ρ 8 / 4 = 40 * 1 + 2 * (ρ 4 / 4) by omega] at c_ends
  rw [show ρ 9 / 4 = 40 * 1 + 2 * (ρ 4 / 4) + 1 by omega] at c_ends2
  have hi2 : ρ 5 / 4 = ρ 4 / 4 + 1 := pz_sm (by omega) (by decide) i5b s1
  refine ⟨(fun y hy => by cases hy), _, List.mem_cons_self, ρ, fun _ _ => rfl, ax_px hE rfl (fun x hx => ?_)⟩
  cases List.mem_singleton.mp hx
  refine (ax_XF_lt (x := 215) (Nat.le_of_ble_eq_true rfl)).mpr ?_
  show pz_y215 (ρ 0) (ρ 1) (ρ 2) (ρ 3) (ρ 5)
  intro j u v hj hz
  replace hj : j < ρ 5 / 4 := hj
  by_cases h : j < ρ 4 / 4
  · exact F215 j u v h hz
  · have e : j = ρ 4 / 4 := by omega
    rw [e] at hz
    exact pz_jn3 F152 c_ends c_ends2 (by omega) hz

theorem axq0_ij3d : ax_RO ax_wM0 (ax_XM 0) axu0_ij3d := by
  intro ρ hp hE hT
  have j0 : ρ 0 % 4 = 1 := pz_gj hE 0 (Nat.le_of_ble_eq_true rfl) rfl
  have j1 : ρ 1 % 4 = 1 := pz_gj hE 1 (Nat.le_of_ble_eq_true rfl) rfl
  obtain ⟨i2a, i2b, i2c, i2d⟩ := pz_gi hE 2 0 4294967295 (Nat.le_of_ble_eq_true rfl) rfl
  obtain ⟨i3a, i3b, i3c, i3d⟩ := pz_gi hE 3 0 4294967295 (Nat.le_of_ble_eq_true rfl) rfl
  obtain ⟨i4a, i4b, i4c, i4d⟩ := pz_gi hE 4 2147483648 2147483667 (Nat.le_of_ble_eq_true rfl) rfl
  obtain ⟨i5a, i5b, i5c, i5d⟩ := pz_gi hE 5 0 4294967295 (Nat.le_of_ble_eq_true rfl) rfl
  obtain ⟨i6a, i6b, i6c, i6d⟩ := pz_gi hE 6 0 4294967295 (Nat.le_of_ble_eq_true rfl) rfl
  obtain ⟨i7a, i7b, i7c, i7d⟩ := pz_gi hE 7 0 4294967295 (Nat.le_of_ble_eq_true rfl) rfl
  obtain ⟨i8a, i8b, i8c, i8d⟩ := pz_gi hE 8 0 4294967295 (Nat.le_of_ble_eq_true rfl) rfl
  obtain ⟨i9a, i9b, i9c, i9d⟩ := pz_gi hE 9 0 4294967295 (Nat.le_of_ble_eq_true rfl) rfl
  obtain ⟨i10a, i10b, i10c, i10d⟩ := pz_gi hE 10 2147483648 2147483657 (Nat.le_of_ble_eq_true rfl) rfl
  obtain ⟨i11a, i11b, i11c, i11d⟩ := pz_gi hE 11 2147483648 2147483657 (Nat.le_of_ble_eq_true rfl) rfl
  have s1 : (ρ 4 / 4 + 2147483648) % 4294967296 + (4 / 4 + 2147483648) % 4294967296 = (ρ 5 / 4 + 2147483648) % 4294967296 + 2147483648 := pz_gs hE 19 4 23 ax_m2
  have s2 : (160 / 4 + 2147483648) % 4294967296 + (ρ 6 / 4 + 2147483648) % 4294967296 = (ρ 7 / 4 + 2147483648) % 4294967296 + 2147483648 := pz_gs hE 160 27 31 ax_m4
  have s3 : (ρ 7 / 4 + 2147483648) % 4294967296 + (0 / 4 + 2147483648) % 4294967296 = (ρ 8 / 4 + 2147483648) % 4294967296 + 2147483648 := pz_gs hE 31 0 35 ax_m5
  have c_ends : ay_at hp 181 (ρ 8 / 4) = some (ρ 10) := ay_gf hE 734 35 43 181 ax_m6 (ax_vlq rfl rfl)
  have s4 : (ρ 7 / 4 + 2147483648) % 4294967296 + (4 / 4 + 2147483648) % 4294967296 = (ρ 9 / 4 + 2147483648) % 4294967296 + 2147483648 := pz_gs hE 31 4 39 ax_m7
  have c_ends2 : ay_at hp 181 (ρ 9 / 4) = some (ρ 11) := ay_gf hE 734 39 47 181 ax_m8 (ax_vlq rfl rfl)
  have r1 : (ρ 11 / 4 + 2147483648) % 4294967296 ≠ (ρ 3 / 4 + 2147483648) % 4294967296 := pz_gc hE 1 47 15 (Nat.le_of_ble_eq_true rfl) ax_m9
  have r2 : (ρ 11 / 4 + 2147483648) % 4294967296 ≠ (ρ 2 / 4 + 2147483648) % 4294967296 := pz_gc hE 1 47 11 (Nat.le_of_ble_eq_true rfl) ax_m10
  obtain ⟨-, -, -, -, -, -, -, -, -, -, -, F152⟩ : ay_ex hp 175 ∧ ay_ex hp 176 ∧ ay_ex hp 177 ∧ ay_ex hp 178 ∧ ay_ex hp 179 ∧ ay_ex hp 173 ∧ ay_ex hp 173 ∧ ay_ex hp 173 ∧ ay_ex hp 173 ∧ ay_ex hp 173 ∧ ay_ex hp 181 ∧ pz_y152 1 (ρ 0) (ρ 1) (ay_at hp 175 1) (ay_at hp 176 1) (ay_at hp 177 1) (ay_at hp 178 1) (ay_at hp 179 1) (ay_at hp 173 23) (ay_at hp 173 25) (ay_at hp 173 24) (ay_at hp 173 18) (ay_at hp 173 19) (ay_at hp 181) := (ax_XF_lt (x := 152) (Nat.le_of_ble_eq_true rfl)).mp (ax_gx hE (152, [3, 7]) ax_m0)
  have F215 : pz_y215 (ρ 0) (ρ 1) (ρ 2) (ρ 3) (ρ 4) := (ax_XF_lt (x := 215) (Nat.le_of_ble_eq_true rfl)).mp (ax_gx hE (215, [3, 7, 11, 15, 19]) ax_m1)
  obtain ⟨r, m1, m2', m3⟩ := ay_mk hE 2 8 19 27 (by decide) (by decide)
  replace m1 : some (8 / 4 * (ρ 4 / 4) % 4294967296) = some r := m1
  have m1 := Option.some.inj m1
  replace m3 : ρ 6 = 4 * r := m3
  have hi := (pz_ps 0 19 i4b i4c i4d (by decide)).2
  have hm : ρ 6 / 4 = 2 * (ρ 4 / 4) := by
    clear s1 s2 s3 s4
    omega
  have h1 : ρ 7 / 4 = 40 + ρ 6 / 4 := pz_sm (by decide) (by omega) i7b s2
  have h2 : ρ 8 / 4 = ρ 7 / 4 + 0 := pz_sm (by omega) (by decide) i8b s3
  have h3 : ρ 9 / 4 = ρ 7 / 4 + 1 := pz_sm (by omega) (by decide) i9b s4
  rw [show ρ 8 / 4 = 40 * 1 + 2 * (ρ 4 / 4) by omega] at c_ends
  rw [show ρ 9 / 4 = 40 * 1 + 2 * (ρ 4 / 4) + 1 by omega] at c_ends2
  have hi2 : ρ 5 / 4 = ρ 4 / 4 + 1 := pz_sm (by omega) (by decide) i5b s1
  refine ⟨(fun y hy => by cases hy), _, List.mem_cons_self, ρ, fun _ _ => rfl, ax_px hE rfl (fun x hx => ?_)⟩
  cases List.mem_singleton.mp hx
  refine (ax_XF_lt (x := 215) (Nat.le_of_ble_eq_true rfl)).mpr ?_
  show pz_y215 (ρ 0) (ρ 1) (ρ 2) (ρ 3) (ρ 5)
  intro j u v hj hz
  replace hj : j < ρ 5 / 4 := hj
  by_cases h : j < ρ 4 / 4
  · exact F215 j u v h hz
  · have e : j = ρ 4 / 4 := by omega
    rw [e] at hz
    exact pz_jn3 F152 c_ends c_ends2 (by omega) hz

theorem axq0_ij4 : ax_RO ax_wM0 (ax_XM 0) axu0_ij4 := by
  intro ρ hp hE hT
  have j0 : ρ 0 % 4 = 1 := pz_gj hE 0 (Nat.le_of_ble_eq_true rfl) rfl
  have j1 : ρ 1 % 4 = 1 := pz_gj hE 1 (Nat.le_of_ble_eq_true rfl) rfl
  obtain ⟨i2a, i2b, i2c, i2d⟩ := pz_gi hE 2 0 4294967295 (Nat.le_of_ble_eq_true rfl) rfl
  obtain ⟨i3a, i3b, i3c, i3d⟩ := pz_gi hE 3 0 4294967295 (Nat.le_of_ble_eq_true rfl) rfl
  obtain ⟨i4a, i4b, i4c, i4d⟩ := pz_gi hE 4 2147483648 2147483668 (Nat.le_of_ble_eq_true rfl) rfl
  obtain ⟨i5a, i5b, i5c, i5d⟩ := pz_gi hE 5 2147483648 2147483668 (Nat.le_of_ble_eq_true rfl) rfl
  have c_links : ay_at hp 176 1 = some (ρ 5) := ay_gfj hE 714 4 23 176 1 ax_m2 (ax_vlq rfl rfl) (ax_vlj rfl rfl)
  have r1 : (ρ 5 / 4 + 2147483648) % 4294967296 ≤ (ρ 4 / 4 + 2147483648) % 4294967296 := pz_gc hE 3 19 23 (Nat.le_of_ble_eq_true rfl) ax_m3
  obtain ⟨-, -, -, -, -, -, -, -, -, -, -, F152⟩ : ay_ex hp 175 ∧ ay_ex hp 176 ∧ ay_ex hp 177 ∧ ay_ex hp 178 ∧ ay_ex hp 179 ∧ ay_ex hp 173 ∧ ay_ex hp 173 ∧ ay_ex hp 173 ∧ ay_ex hp 173 ∧ ay_ex hp 173 ∧ ay_ex hp 181 ∧ pz_y152 1 (ρ 0) (ρ 1) (ay_at hp 175 1) (ay_at hp 176 1) (ay_at hp 177 1) (ay_at hp 178 1) (ay_at hp 179 1) (ay_at hp 173 23) (ay_at hp 173 25) (ay_at hp 173 24) (ay_at hp 173 18) (ay_at hp 173 19) (ay_at hp 181) := (ax_XF_lt (x := 152) (Nat.le_of_ble_eq_true rfl)).mp (ax_gx hE (152, [3, 7]) ax_m0)
  rw [c_links] at F152
  have F215 : pz_y215 (ρ 0) (ρ 1) (ρ 2) (ρ 3) (ρ 4) := (ax_XF_lt (x := 215) (Nat.le_of_ble_eq_true rfl)).mp (ax_gx hE (215, [3, 7, 11, 15, 19]) ax_m1)
  refine ⟨(fun y hy => by cases hy), _, List.mem_cons_self, ρ, fun _ _ => rfl, ax_px hE rfl (fun x hx => ?_)⟩
  cases List.mem_singleton.mp hx
  refine (ax_XF_lt (x := 214) (Nat.le_of_ble_eq_true rfl)).mpr ?_
  show pz113 (pz_gt (ρ 0)) (pz_gN (ρ 0)) ((ρ 1) / 4) ((ρ 2) / 4) ((ρ 3) / 4)
  refine pz_jn_no (fun j u v hz => ?_)
  have hl := (List.getElem?_eq_some_iff.mp hz).1
  have el : ρ 5 / 4 = (pz_ls (pz_cf (pz_gt (ρ 0)) (pz_gN (ρ 0)) (ρ 1 / 4))).length := F152.2.1
  exact F215 j u v (show j < ρ 4 / 4 by omega) hz

theorem axqg_mf1 {w : ax_W} {b : Nat} (hw : ax_WW w) : ax_RO w (ax_XM b) axu0_mf1 := by
  intro ρ hp hE hT
  have j0 : ρ 0 % 4 = 1 := pz_gj hE 0 (Nat.le_of_ble_eq_true rfl) rfl
  obtain ⟨i1a, i1b, i1c, i1d⟩ := pz_gi hE 1 2147483648 2147484428 (Nat.le_of_ble_eq_true rfl) rfl
  obtain ⟨i2a, i2b, i2c, i2d⟩ := pz_gi hE 2 0 4294967295 (Nat.le_of_ble_eq_true rfl) rfl
  obtain ⟨i3a, i3b, i3c, i3d⟩ := pz_gi hE 3 0 4294967295 (Nat.le_of_ble_eq_true rfl) rfl
  obtain ⟨i4a, i4b, i4c, i4d⟩ := pz_gi hE 4 0 4294967295 (Nat.le_of_ble_eq_true rfl) rfl
  obtain ⟨i5a, i5b, i5c, i5d⟩ := pz_gi hE 5 0 4294967295 (Nat.le_of_ble_eq_true rfl) rfl
  obtain ⟨i6a, i6b, i6c, i6d⟩ := pz_gi hE 6 0 4294967295 (Nat.le_of_ble_eq_true rfl) rfl
  have c_taped : ay_at hp 173 11 = some (ρ 1) := ay_gfj hE 702 44 7 173 11 ax_m1 (ax_vlq rfl rfl) (ax_vlj rfl rfl)
  obtain ⟨-, -, F130⟩ : ay_ex hp 173 ∧ ay_ex hp 183 ∧ pz_x30 (ρ 0) (ay_at hp 173 11) (ay_at hp 183) := (ax_XF_lt (x := 130) (Nat.le_of_ble_eq_true rfl)).mp (ax_gx hE (130, [3]) ax_m0)
  rw [c_taped] at F130
  have e : ρ 1 / 4 = pz_gN (ρ 0) := F130.1
  refine ⟨(fun y hy => by cases hy), _, List.mem_cons_self, ρ, fun _ _ => rfl, ax_px hE rfl (fun x hx => ?_)⟩
  rcases List.mem_cons.mp hx with e | hx
  · subst e
    refine (ax_XF_lt (x := 134) (Nat.le_of_ble_eq_true rfl)).mpr ?_
    show pz_y134 (ρ 0) (ρ 2) (ρ 3) (ρ 4) (ρ 5) (ρ 6) (0) (ρ 0)
    exact ⟨by omega, by decide, rfl⟩
  rcases List.mem_cons.mp hx with e | hx
  · subst e
    refine (ax_XF_lt (x := 135) (Nat.le_of_ble_eq_true rfl)).mpr ?_
    show ay_ex hp 183 ∧ pz_y135 (ρ 0) (ay_at hp 183)
    refine ⟨(ax_cellT hT (q := 183) (g := 53) (ax_wc hw ax_cg_183)), ?_⟩
    exact ⟨F130.2.1, F130.2.2⟩
  cases List.mem_singleton.mp hx
  refine (ax_XF_lt (x := 139) (Nat.le_of_ble_eq_true rfl)).mpr ?_
  show pz_gN (ρ 0) = (ρ 1) / 4
  exact e.symm
theorem axq0_mf1 : ax_RO ax_wM0 (ax_XM 0) axu0_mf1 := axqg_mf1 ax_WW0
theorem axqg_mf2_0 {w : ax_W} {b : Nat} (hw : ax_WW w) : ax_RO w (ax_XM b) axu0_mf2_0 := by
  intro ρ hp hE hT
  have j0 : ρ 0 % 4 = 1 := pz_gj hE 0 (Nat.le_of_ble_eq_true rfl) rfl
  have j1 : ρ 1 % 4 = 1 := pz_gj hE 1 (Nat.le_of_ble_eq_true rfl) rfl
  obtain ⟨i2a, i2b, i2c, i2d⟩ := pz_gi hE 2 0 4294967295 (Nat.le_of_ble_eq_true rfl) rfl
  obtain ⟨i3a, i3b, i3c, i3d⟩ := pz_gi hE 3 0 4294967295 (Nat.le_of_ble_eq_true rfl) rfl
  obtain ⟨i4a, i4b, i4c, i4d⟩ := pz_gi hE 4 0 4294967295 (Nat.le_of_ble_eq_true rfl) rfl
  obtain ⟨i5a, i5b, i5c, i5d⟩ := pz_gi hE 5 0 4294967295 (Nat.le_of_ble_eq_true rfl) rfl
  obtain ⟨i6a, i6b, i6c, i6d⟩ := pz_gi hE 6 0 4294967295 (Nat.le_of_ble_eq_true rfl) rfl
  obtain ⟨i7a, i7b, i7c, i7d⟩ := pz_gi hE 7 2147483648 2147483651 (Nat.le_of_ble_eq_true rfl) rfl
  obtain ⟨i8a, i8b, i8c, i8d⟩ := pz_gi hE 8 2147483520 2147483775 (Nat.le_of_ble_eq_true rfl) rfl
  obtain ⟨i9a, i9b, i9c, i9d⟩ := pz_gi hE 9 0 4294967295 (Nat.le_of_ble_eq_true rfl) rfl
  obtain ⟨i10a, i10b, i10c, i10d⟩ := pz_gi hE 10 0 4294967295 (Nat.le_of_ble_eq_true rfl) rfl
  obtain ⟨i11a, i11b, i11c, i11d⟩ := pz_gi hE 11 0 4294967295 (Nat.le_of_ble_eq_true rfl) rfl
  obtain ⟨i12a, i12b, i12c, i12d⟩ := pz_gi hE 12 0 4294967295 (Nat.le_of_ble_eq_true rfl) rfl
  obtain ⟨i13a, i13b, i13c, i13d⟩ := pz_gi hE 13 0 4294967295 (Nat.le_of_ble_eq_true rfl) rfl
  obtain ⟨i14a, i14b, i14c, i14d⟩ := pz_gi hE 14 2147483648 2147484428 (Nat.le_of_ble_eq_true rfl) rfl
  have s1 : (ρ 11 / 4 + 2147483648) % 4294967296 + (ρ 12 / 4 + 2147483648) % 4294967296 = (96 / 4 + 2147483648) % 4294967296 + 2147483648 := pz_gs hE 47 51 96 ax_m2
  have c_taped : ay_at hp 173 11 = some (ρ 14) := ay_gfj hE 702 44 59 173 11 ax_m7 (ax_vlq rfl rfl) (ax_vlj rfl rfl)
  have s2 : (ρ 14 / 4 + 2147483648) % 4294967296 + (ρ 7 / 4 + 2147483648) % 4294967296 = (ρ 9 / 4 + 2147483648) % 4294967296 + 2147483648 := pz_gs hE 59 31 39 ax_m8
  obtain ⟨-, F135⟩ : ay_ex hp 183 ∧ pz_y135 (ρ 1) (ay_at hp 183) := (ax_XF_lt (x := 135) (Nat.le_of_ble_eq_true rfl)).mp (ax_gx hE (135, [7]) ax_m5)
  have F134 : pz_y134 (ρ 0) (ρ 2) (ρ 3) (ρ 4) (ρ 5) (ρ 6) (ρ 7) (ρ 1) := (ax_XF_lt (x := 134) (Nat.le_of_ble_eq_true rfl)).mp (ax_gx hE (134, [3, 11, 15, 19, 23, 27, 31, 7]) ax_m6)
  have F139 : pz_gN (ρ 0) = (ρ 14) / 4 := (ax_XF_lt (x := 139) (Nat.le_of_ble_eq_true rfl)).mp (ax_gx hE (139, [3, 59]) ax_m9)
  obtain ⟨g1, g2, g3⟩ := F134
  replace g2 : ρ 7 / 4 ≤ 20 := g2
  have hk := (pz_ps 0 3 i7b i7c i7d (by decide))
  obtain ⟨r3, a1, a2, a3⟩ := ay_mk hE 3 31 12 55 (by decide) (by decide)
  replace a1 : rx_f_and (ρ 7 / 4) (12 / 4) = some r3 := a1
  rw [show (12 : Nat) / 4 = 3 from rfl, pz_and3 _ (by omega)] at a1
  have a1 := Option.some.inj a1
  replace a3 : ρ 13 = 4 * r3 := a3
  obtain ⟨r2, b1, b2, b3⟩ := ay_mk hE 2 32 55 51 (by decide) (by decide)
  replace b1 : some (32 / 4 * (ρ 13 / 4) % 4294967296) = some r2 := b1
  have b1 := Option.some.inj b1
  replace b3 : ρ 12 = 4 * r2 := b3
  have hp12 : ρ 12 / 4 = 8 * (ρ 7 / 4 % 4) := by
    clear s1 s2
    omega
  have hsh : ρ 11 / 4 = 24 - 8 * (ρ 7 / 4 % 4) := by
    clear s2 b1
    omega
  obtain ⟨r, c1, c2, c3⟩ := ay_mk hE 7 11 47 43 (by decide) (by decide)
  replace c1 : rx_f_shr (ρ 2 / 4) (ρ 11 / 4) = some r := c1
  rw [hsh] at c1
  replace c3 : ρ 10 = 4 * r := c3
  have c4 : ρ 8 = 4 * rx_f_i2b (ρ 10 / 4) := pz_g43 hE 43 35 (by decide)
  rw [c3, show 4 * r / 4 = r by omega] at c4
  have eb : ρ 8 / 4 = pz_by (ρ 2 / 4) (ρ 7 / 4 % 4) := by rw [pz_by_eq c1, c4]; omega
  have es : pz_sel (ρ 2 / 4) (ρ 3 / 4) (ρ 4 / 4) (ρ 5 / 4) (ρ 6 / 4) (ρ 7 / 4) = ρ 2 / 4 := by
    unfold pz_sel
    rw [if_pos (by omega)]
  have hs14 := (pz_ps 0 780 i14b i14c i14d (by decide)).2
  have hq : ρ 9 / 4 = ρ 14 / 4 + ρ 7 / 4 := pz_sm (by omega) (by omega) i9b s2
  have hN : pz_gN (ρ 1) = ρ 9 / 4 := by
    rw [g3, pz_a20_N (by omega), F139, hq]
  have hb8 : ρ 8 = 4 * (ρ 8 / 4) := by omega
  obtain ⟨ρ', h1, h2⟩ := pz_pn1 (K := pz_ap (ρ 1) (ρ 8 / 4) / 4) (xf := [(635, [742, 39, 35, 63]), (136, [3, 11, 15, 19, 23, 27, 31, 63])]) hE (by decide) (fun ρ' h1 h2 x hx => by
    have q0 : ρ' 0 = ρ 0 := h1 0 (by decide)
    have q1 : ρ' 1 = ρ 1 := h1 1 (by decide)
    have q2 : ρ' 2 = ρ 2 := h1 2 (by decide)
    have q3 : ρ' 3 = ρ 3 := h1 3 (by decide)
    have q4 : ρ' 4 = ρ 4 := h1 4 (by decide)
    have q5 : ρ' 5 = ρ 5 := h1 5 (by decide)
    have q6 : ρ' 6 = ρ 6 := h1 6 (by decide)
    have q7 : ρ' 7 = ρ 7 := h1 7 (by decide)
    have q8 : ρ' 8 = ρ 8 := h1 8 (by decide)
    have q9 : ρ' 9 = ρ 9 := h1 9 (by decide)
    have q10 : ρ' 10 = ρ 10 := h1 10 (by decide)
    have q11 : ρ' 11 = ρ 11 := h1 11 (by decide)
    have q12 : ρ' 12 = ρ 12 := h1 12 (by decide)
    have q13 : ρ' 13 = ρ 13 := h1 13 (by decide)
    have q14 : ρ' 14 = ρ 14 := h1 14 (by decide)
    rcases List.mem_cons.mp hx with e | hx
    · subst e
      refine (ax_XF_wr (x := 135) (Nat.le_of_ble_eq_true rfl)).mpr ?_
      show ay_ex (ax_upd hp 742 (ρ' 9) (ρ' 8)) 183 ∧ pz_y135 (ρ' 15) (ay_at (ax_upd hp 742 (ρ' 9) (ρ' 8)) 183)
      rw [q8, q9, h2]
      obtain ⟨o0, ho0⟩ := ay_some hT (q := 183) (g := 53) (n := 800) (ax_wc hw ax_cg_183) (ax_wn hw ax_cn_53) (j := ρ 9 / 4) (by omega)
      have u1 : ∀ q, q ≠ 183 → ay_at (ax_upd hp 742 (ρ 9) (ρ 8)) q = ay_at hp q := fun q hq => funext (fun j => ay_upd_ne hT.1 hq j)
      have u2 : ∀ j, ay_at (ax_upd hp 742 (ρ 9) (ρ 8)) 183 j = if j = ρ 9 / 4 then some (ρ 8) else ay_at hp 183 j := fun j => ay_upd_eq hT.1 rfl ho0 j
      refine ⟨ay_ex_upd hT.1 (ax_cellT hT (q := 183) (g := 53) (ax_wc hw ax_cg_183)), ?_⟩
      rw [pz_ap_4]
      have u3 : ∀ j, ay_at (ax_upd hp 742 (ρ 9) (ρ 8)) 183 j = if j = ρ 9 / 4 then some (4 * (ρ 8 / 4)) else ay_at hp 183 j := fun j => by rw [← hb8]; exact u2 j
      refine ⟨?_, pz_ap_tp hN (by omega) (by omega) F135.2 u3⟩
      rw [(pz_ap_g (by omega)).1]
      omega
    cases List.mem_singleton.mp hx
    refine (ax_XF_lt (x := 136) (Nat.le_of_ble_eq_true rfl)).mpr ?_
    show pz_y136 (ρ' 0) (ρ' 2) (ρ' 3) (ρ' 4) (ρ' 5) (ρ' 6) (ρ' 7) (ρ' 15)
    rw [q0, q2, q3, q4, q5, q6, q7, h2]
    rw [pz_ap_4]
    refine ⟨g1, by omega, ?_⟩
    show _ = pz_ap (pz_a20 (ρ 2 / 4) (ρ 3 / 4) (ρ 4 / 4) (ρ 5 / 4) (ρ 6 / 4) (ρ 0) (ρ 7 / 4)) (pz_by (pz_sel (ρ 2 / 4) (ρ 3 / 4) (ρ 4 / 4) (ρ 5 / 4) (ρ 6 / 4) (ρ 7 / 4)) (ρ 7 / 4 % 4))
    rw [es, ← eb, ← g3])
  exact ⟨(fun y hy => by cases hy), _, List.mem_cons_self, ρ', h1, h2⟩
theorem axq0_mf2_0 : ax_RO ax_wM0 (ax_XM 0) axu0_mf2_0 := axqg_mf2_0 ax_WW0
theorem axqg_mf2_1 {w : ax_W} {b : Nat} (hw : ax_WW w) : ax_RO w (ax_XM b) axu0_mf2_1 := by
  intro ρ hp hE hT
  have j0 : ρ 0 % 4 = 1 := pz_gj hE 0 (Nat.le_of_ble_eq_true rfl) rfl
  have j1 : ρ 1 % 4 = 1 := pz_gj hE 1 (Nat.le_of_ble_eq_true rfl) rfl
  obtain ⟨i2a, i2b, i2c, i2d⟩ := pz_gi hE 2 0 4294967295 (Nat.le_of_ble_eq_true rfl) rfl
  obtain ⟨i3a, i3b, i3c, i3d⟩ := pz_gi hE 3 0 4294967295 (Nat.le_of_ble_eq_true rfl) rfl
  obtain ⟨i4a, i4b, i4c, i4d⟩ := pz_gi hE 4 0 4294967295 (Nat.le_of_ble_eq_true rfl) rfl
  obtain ⟨i5a, i5b, i5c, i5d⟩ := pz_gi hE 5 0 4294967295 (Nat.le_of_ble_eq_true rfl) rfl
  obtain ⟨i6a, i6b, i6c, i6d⟩ := pz_gi hE 6 0 4294967295 (Nat.le_of_ble_eq_true rfl) rfl
  obtain ⟨i7a, i7b, i7c, i7d⟩ := pz_gi hE 7 2147483652 2147483655 (Nat.le_of_ble_eq_true rfl) rfl
  obtain ⟨i8a, i8b, i8c, i8d⟩ := pz_gi hE 8 2147483520 2147483775 (Nat.le_of_ble_eq_true rfl) rfl
  obtain ⟨i9a, i9b, i9c, i9d⟩ := pz_gi hE 9 0 4294967295 (Nat.le_of_ble_eq_true rfl) rfl
  obtain ⟨i10a, i10b, i10c, i10d⟩ := pz_gi hE 10 0 4294967295 (Nat.le_of_ble_eq_true rfl) rfl
  obtain ⟨i11a, i11b, i11c, i11d⟩ := pz_gi hE 11 0 4294967295 (Nat.le_of_ble_eq_true rfl) rfl
  obtain ⟨i12a, i12b, i12c, i12d⟩ := pz_gi hE 12 0 4294967295 (Nat.le_of_ble_eq_true rfl) rfl
  obtain ⟨i13a, i13b, i13c, i13d⟩ := pz_gi hE 13 0 4294967295 (Nat.le_of_ble_eq_true rfl) rfl
  obtain ⟨i14a, i14b, i14c, i14d⟩ := pz_gi hE 14 2147483648 2147484428 (Nat.le_of_ble_eq_true rfl) rfl
  have s1 : (ρ 11 / 4 + 2147483648) % 4294967296 + (ρ 12 / 4 + 2147483648) % 4294967296 = (96 / 4 + 2147483648) % 4294967296 + 2147483648 := pz_gs hE 47 51 96 ax_m2
  have c_taped : ay_at hp 173 11 = some (ρ 14) := ay_gfj hE 702 44 59 173 11 ax_m7 (ax_vlq rfl rfl) (ax_vlj rfl rfl)
  have s2 : (ρ 14 / 4 + 2147483648) % 4294967296 + (ρ 7 / 4 + 2147483648) % 4294967296 = (ρ 9 / 4 + 2147483648) % 4294967296 + 2147483648 := pz_gs hE 59 31 39 ax_m8
  obtain ⟨-, F135⟩ : ay_ex hp 183 ∧ pz_y135 (ρ 1) (ay_at hp 183) := (ax_XF_lt (x := 135) (Nat.le_of_ble_eq_true rfl)).mp (ax_gx hE (135, [7]) ax_m5)
  have F134 : pz_y134 (ρ 0) (ρ 2) (ρ 3) (ρ 4) (ρ 5) (ρ 6) (ρ 7) (ρ 1) := (ax_XF_lt (x := 134) (Nat.le_of_ble_eq_true rfl)).mp (ax_gx hE (134, [3, 11, 15, 19, 23, 27, 31, 7]) ax_m6)
  have F139 : pz_gN (ρ 0) = (ρ 14) / 4 := (ax_XF_lt (x := 139) (Nat.le_of_ble_eq_true rfl)).mp (ax_gx hE (139, [3, 59]) ax_m9)
  obtain ⟨g1, g2, g3⟩ := F134
  replace g2 : ρ 7 / 4 ≤ 20 := g2
  have hk := (pz_ps 4 7 i7b i7c i7d (by decide))
  obtain ⟨r3, a1, a2, a3⟩ := ay_mk hE 3 31 12 55 (by decide) (by decide)
  replace a1 : rx_f_and (ρ 7 / 4) (12 / 4) = some r3 := a1
  rw [show (12 : Nat) / 4 = 3 from rfl, pz_and3 _ (by omega)] at a1
  have a1 := Option.some.inj a1
  replace a3 : ρ 13 = 4 * r3 := a3
  obtain ⟨r2, b1, b2, b3⟩ := ay_mk hE 2 32 55 51 (by decide) (by decide)
  replace b1 : some (32 / 4 * (ρ 13 / 4) % 4294967296) = some r2 := b1
  have b1 := Option.some.inj b1
  replace b3 : ρ 12 = 4 * r2 := b3
  have hp12 : ρ 12 / 4 = 8 * (ρ 7 / 4 % 4) := by
    clear s1 s2
    omega
  have hsh : ρ 11 / 4 = 24 - 8 * (ρ 7 / 4 % 4) := by
    clear s2 b1
    omega
  obtain ⟨r, c1, c2, c3⟩ := ay_mk hE 7 15 47 43 (by decide) (by decide)
  replace c1 : rx_f_shr (ρ 3 / 4) (ρ 11 / 4) = some r := c1
  rw [hsh] at c1
  replace c3 : ρ 10 = 4 * r := c3
  have c4 : ρ 8 = 4 * rx_f_i2b (ρ 10 / 4) := pz_g43 hE 43 35 (by decide)
  rw [c3, show 4 * r / 4 = r by omega] at c4
  have eb : ρ 8 / 4 = pz_by (ρ 3 / 4) (ρ 7 / 4 % 4) := by rw [pz_by_eq c1, c4]; omega
  have es : pz_sel (ρ 2 / 4) (ρ 3 / 4) (ρ 4 / 4) (ρ 5 / 4) (ρ 6 / 4) (ρ 7 / 4) = ρ 3 / 4 := by
    unfold pz_sel
    rw [if_neg (by omega), if_pos (by omega)]
  have hs14 := (pz_ps 0 780 i14b i14c i14d (by decide)).2
  have hq : ρ 9 / 4 = ρ 14 / 4 + ρ 7 / 4 := pz_sm (by omega) (by omega) i9b s2
  have hN : pz_gN (ρ 1) = ρ 9 / 4 := by
    rw [g3, pz_a20_N (by omega), F139, hq]
  have hb8 : ρ 8 = 4 * (ρ 8 / 4) := by omega
  obtain ⟨ρ', h1, h2⟩ := pz_pn1 (K := pz_ap (ρ 1) (ρ 8 / 4) / 4) (xf := [(635, [742, 39, 35, 63]), (136, [3, 11, 15, 19, 23, 27, 31, 63])]) hE (by decide) (fun ρ' h1 h2 x hx => by
    have q0 : ρ' 0 = ρ 0 := h1 0 (by decide)
    have q1 : ρ' 1 = ρ 1 := h1 1 (by decide)
    have q2 : ρ' 2 = ρ 2 := h1 2 (by decide)
    have q3 : ρ' 3 = ρ 3 := h1 3 (by decide)
    have q4 : ρ' 4 = ρ 4 := h1 4 (by decide)
    have q5 : ρ' 5 = ρ 5 := h1 5 (by decide)
    have q6 : ρ' 6 = ρ 6 := h1 6 (by decide)
    have q7 : ρ' 7 = ρ 7 := h1 7 (by decide)
    have q8 : ρ' 8 = ρ 8 := h1 8 (by decide)
    have q9 : ρ' 9 = ρ 9 := h1 9 (by decide)
    have q10 : ρ' 10 = ρ 10 := h1 10 (by decide)
    have q11 : ρ' 11 = ρ 11 := h1 11 (by decide)
    have q12 : ρ' 12 = ρ 12 := h1 12 (by decide)
    have q13 : ρ' 13 = ρ 13 := h1 13 (by decide)
    have q14 : ρ' 14 = ρ 14 := h1 14 (by decide)
    rcases List.mem_cons.mp hx with e | hx
    · subst e
      refine (ax_XF_wr (x := 135) (Nat.le_of_ble_eq_true rfl)).mpr ?_
      show ay_ex (ax_upd hp 742 (ρ' 9) (ρ' 8)) 183 ∧ pz_y135 (ρ' 15) (ay_at (ax_upd hp 742 (ρ' 9) (ρ' 8)) 183)
      rw [q8, q9, h2]
      obtain ⟨o0, ho0⟩ := ay_some hT (q := 183) (g := 53) (n := 800) (ax_wc hw ax_cg_183) (ax_wn hw ax_cn_53) (j := ρ 9 / 4) (by omega)
      have u1 : ∀ q, q ≠ 183 → ay_at (ax_upd hp 742 (ρ 9) (ρ 8)) q = ay_at hp q := fun q hq => funext (fun j => ay_upd_ne hT.1 hq j)
      have u2 : ∀ j, ay_at (ax_upd hp 742 (ρ 9) (ρ 8)) 183 j = if j = ρ 9 / 4 then some (ρ 8) else ay_at hp 183 j := fun j => ay_upd_eq hT.1 rfl ho0 j
      refine ⟨ay_ex_upd hT.1 (ax_cellT hT (q := 183) (g := 53) (ax_wc hw ax_cg_183)), ?_⟩
      rw [pz_ap_4]
      have u3 : ∀ j, ay_at (ax_upd hp 742 (ρ 9) (ρ 8)) 183 j = if j = ρ 9 / 4 then some (4 * (ρ 8 / 4)) else ay_at hp 183 j := fun j => by rw [← hb8]; exact u2 j
      refine ⟨?_, pz_ap_tp hN (by omega) (by omega) F135.2 u3⟩
      rw [(pz_ap_g (by omega)).1]
      omega
    cases List.mem_singleton.mp hx
    refine (ax_XF_lt (x := 136) (Nat.le_of_ble_eq_true rfl)).mpr ?_
    show pz_y136 (ρ' 0) (ρ' 2) (ρ' 3) (ρ' 4) (ρ' 5) (ρ' 6) (ρ' 7) (ρ' 15)
    rw [q0, q2, q3, q4, q5, q6, q7, h2]
    rw [pz_ap_4]
    refine ⟨g1, by omega, ?_⟩
    show _ = pz_ap (pz_a20 (ρ 2 / 4) (ρ 3 / 4) (ρ 4 / 4) (ρ 5 / 4) (ρ 6 / 4) (ρ 0) (ρ 7 / 4)) (pz_by (pz_sel (ρ 2 / 4) (ρ 3 / 4) (ρ 4 / 4) (ρ 5 / 4) (ρ 6 / 4) (ρ 7 / 4)) (ρ 7 / 4 % 4))
    rw [es, ← eb, ← g3])
  exact ⟨(fun y hy => by cases hy), _, List.mem_cons_self, ρ', h1, h2⟩
theorem axq0_mf2_1 : ax_RO ax_wM0 (ax_XM 0) axu0_mf2_1 := axqg_mf2_1 ax_WW0
theorem axqg_mf2_2 {w : ax_W} {b : Nat} (hw : ax_WW w) : ax_RO w (ax_XM b) axu0_mf2_2 := by
  intro ρ hp hE hT
  have j0 : ρ 0 % 4 = 1 := pz_gj hE 0 (Nat.le_of_ble_eq_true rfl) rfl
  have j1 : ρ 1 % 4 = 1 := pz_gj hE 1 (Nat.le_of_ble_eq_true rfl) rfl
  obtain ⟨i2a, i2b, i2c, i2d⟩ := pz_gi hE 2 0 4294967295 (Nat.le_of_ble_eq_true rfl) rfl
  obtain ⟨i3a, i3b, i3c, i3d⟩ := pz_gi hE 3 0 4294967295 (Nat.le_of_ble_eq_true rfl) rfl
  obtain ⟨i4a, i4b, i4c, i4d⟩ := pz_gi hE 4 0 4294967295 (Nat.le_of_ble_eq_true rfl) rfl
  obtain ⟨i5a, i5b, i5c, i5d⟩ := pz_gi hE 5 0 4294967295 (Nat.le_of_ble_eq_true rfl) rfl
  obtain ⟨i6a, i6b, i6c, i6d⟩ := pz_gi hE 6 0 4294967295 (Nat.le_of_ble_eq_true rfl) rfl
  obtain ⟨i7a, i7b, i7c, i7d⟩ := pz_gi hE 7 2147483656 2147483659 (Nat.le_of_ble_eq_true rfl) rfl
  obtain ⟨i8a, i8b, i8c, i8d⟩ := pz_gi hE 8 2147483520 2147483775 (Nat.le_of_ble_eq_true rfl) rfl
  obtain ⟨i9a, i9b, i9c, i9d⟩ := pz_gi hE 9 0 4294967295 (Nat.le_of_ble_eq_true rfl) rfl
  obtain ⟨i10a, i10b, i10c, i10d⟩ := pz_gi hE 10 0 4294967295 (Nat.le_of_ble_eq_true rfl) rfl
  obtain ⟨i11a, i11b, i11c, i11d⟩ := pz_gi hE 11 0 4294967295 (Nat.le_of_ble_eq_true rfl) rfl
  obtain ⟨i12a, i12b, i12c, i12d⟩ := pz_gi hE 12 0 4294967295 (Nat.le_of_ble_eq_true rfl) rfl
  obtain ⟨i13a, i13b, i13c, i13d⟩ := pz_gi hE 13 0 4294967295 (Nat.le_of_ble_eq_true rfl) rfl
  obtain ⟨i14a, i14b, i14c, i14d⟩ := pz_gi hE 14 2147483648 2147484428 (Nat.le_of_ble_eq_true rfl) rfl
  have s1 : (ρ 11 / 4 + 2147483648) % 4294967296 + (ρ 12 / 4 + 2147483648) % 4294967296 = (96 / 4 + 2147483648) % 4294967296 + 2147483648 := pz_gs hE 47 51 96 ax_m2
  have c_taped : ay_at hp 173 11 = some (ρ 14) := ay_gfj hE 702 44 59 173 11 ax_m7 (ax_vlq rfl rfl) (ax_vlj rfl rfl)
  have s2 : (ρ 14 / 4 + 2147483648) % 4294967296 + (ρ 7 / 4 + 2147483648) % 4294967296 = (ρ 9 / 4 + 2147483648) % 4294967296 + 2147483648 := pz_gs hE 59 31 39 ax_m8
  obtain ⟨-, F135⟩ : ay_ex hp 183 ∧ pz_y135 (ρ 1) (ay_at hp 183) := (ax_XF_lt (x := 135) (Nat.le_of_ble_eq_true rfl)).mp (ax_gx hE (135, [7]) ax_m5)
  have F134 : pz_y134 (ρ 0) (ρ 2) (ρ 3) (ρ 4) (ρ 5) (ρ 6) (ρ 7) (ρ 1) := (ax_XF_lt (x := 134) (Nat.le_of_ble_eq_true rfl)).mp (ax_gx hE (134, [3, 11, 15, 19, 23, 27, 31, 7]) ax_m6)
  have F139 : pz_gN (ρ 0) = (ρ 14) / 4 := (ax_XF_lt (x := 139) (Nat.le_of_ble_eq_true rfl)).mp (ax_gx hE (139, [3, 59]) ax_m9)
  obtain ⟨g1, g2, g3⟩ := F134
  replace g2 : ρ 7 / 4 ≤ 20 := g2
  have hk := (pz_ps 8 11 i7b i7c i7d (by decide))
  obtain ⟨r3, a1, a2, a3⟩ := ay_mk hE 3 31 12 55 (by decide) (by decide)
  replace a1 : rx_f_and (ρ 7 / 4) (12 / 4) = some r3 := a1
  rw [show (12 : Nat) / 4 = 3 from rfl, pz_and3 _ (by omega)] at a1
  have a1 := Option.some.inj a1
  replace a3 : ρ 13 = 4 * r3 := a3
  obtain ⟨r2, b1, b2, b3⟩ := ay_mk hE 2 32 55 51 (by decide) (by decide)
  replace b1 : some (32 / 4 * (ρ 13 / 4) % 4294967296) = some r2 := b1
  have b1 := Option.some.inj b1
  replace b3 : ρ 12 = 4 * r2 := b3
  have hp12 : ρ 12 / 4 = 8 * (ρ 7 / 4 % 4) := by
    clear s1 s2
    omega
  have hsh : ρ 11 / 4 = 24 - 8 * (ρ 7 / 4 % 4) := by
    clear s2 b1
    omega
  obtain ⟨r, c1, c2, c3⟩ := ay_mk hE 7 19 47 43 (by decide) (by decide)
  replace c1 : rx_f_shr (ρ 4 / 4) (ρ 11 / 4) = some r := c1
  rw [hsh] at c1
  replace c3 : ρ 10 = 4 * r := c3
  have c4 : ρ 8 = 4 * rx_f_i2b (ρ 10 / 4) := pz_g43 hE 43 35 (by decide)
  rw [c3, show 4 * r / 4 = r by omega] at c4
  have eb : ρ 8 / 4 = pz_by (ρ 4 / 4) (ρ 7 / 4 % 4) := by rw [pz_by_eq c1, c4]; omega
  have es : pz_sel (ρ 2 / 4) (ρ 3 / 4) (ρ 4 / 4) (ρ 5 / 4) (ρ 6 / 4) (ρ 7 / 4) = ρ 4 / 4 := by
    unfold pz_sel
    rw [if_neg (by omega), if_neg (by omega), if_pos (by omega)]
  have hs14 := (pz_ps 0 780 i14b i14c i14d (by decide)).2
  have hq : ρ 9 / 4 = ρ 14 / 4 + ρ 7 / 4 := pz_sm (by omega) (by omega) i9b s2
  have hN : pz_gN (ρ 1) = ρ 9 / 4 := by
    rw [g3, pz_a20_N (by omega), F139, hq]
  have hb8 : ρ 8 = 4 * (ρ 8 / 4) := by omega
  obtain ⟨ρ', h1, h2⟩ := pz_pn1 (K := pz_ap (ρ 1) (ρ 8 / 4) / 4) (xf := [(635, [742, 39, 35, 63]), (136, [3, 11, 15, 19, 23, 27, 31, 63])]) hE (by decide) (fun ρ' h1 h2 x hx => by
    have q0 : ρ' 0 = ρ 0 := h1 0 (by decide)
    have q1 : ρ' 1 = ρ 1 := h1 1 (by decide)
    have q2 : ρ' 2 = ρ 2 := h1 2 (by decide)
    have q3 : ρ' 3 = ρ 3 := h1 3 (by decide)
    have q4 : ρ' 4 = ρ 4 := h1 4 (by decide)
    have q5 : ρ' 5 = ρ 5 := h1 5 (by decide)
    have q6 : ρ' 6 = ρ 6 := h1 6 (by decide)
    have q7 : ρ' 7 = ρ 7 := h1 7 (by decide)
    have q8 : ρ' 8 = ρ 8 := h1 8 (by decide)
    have q9 : ρ' 9 = ρ 9 := h1 9 (by decide)
    have q10 : ρ' 10 = ρ 10 := h1 10 (by decide)
    have q11 : ρ' 11 = ρ 11 := h1 11 (by decide)
    have q12 : ρ' 12 = ρ 12 := h1 12 (by decide)
    have q13 : ρ' 13 = ρ 13 := h1 13 (by decide)
    have q14 : ρ' 14 = ρ 14 := h1 14 (by decide)
    rcases List.mem_cons.mp hx with e | hx
    · subst e
      refine (ax_XF_wr (x := 135) (Nat.le_of_ble_eq_true rfl)).mpr ?_
      show ay_ex (ax_upd hp 742 (ρ' 9) (ρ' 8)) 183 ∧ pz_y135 (ρ' 15) (ay_at (ax_upd hp 742 (ρ' 9) (ρ' 8)) 183)
      rw [q8, q9, h2]
      obtain ⟨o0, ho0⟩ := ay_some hT (q := 183) (g := 53) (n := 800) (ax_wc hw ax_cg_183) (ax_wn hw ax_cn_53) (j := ρ 9 / 4) (by omega)
      have u1 : ∀ q, q ≠ 183 → ay_at (ax_upd hp 742 (ρ 9) (ρ 8)) q = ay_at hp q := fun q hq => funext (fun j => ay_upd_ne hT.1 hq j)
      have u2 : ∀ j, ay_at (ax_upd hp 742 (ρ 9) (ρ 8)) 183 j = if j = ρ 9 / 4 then some (ρ 8) else ay_at hp 183 j := fun j => ay_upd_eq hT.1 rfl ho0 j
      refine ⟨ay_ex_upd hT.1 (ax_cellT hT (q := 183) (g := 53) (ax_wc hw ax_cg_183)), ?_⟩
      rw [pz_ap_4]
      have u3 : ∀ j, ay_at (ax_upd hp 742 (ρ 9) (ρ 8)) 183 j = if j = ρ 9 / 4 then some (4 * (ρ 8 / 4)) else ay_at hp 183 j := fun j => by rw [← hb8]; exact u2 j
      refine ⟨?_, pz_ap_tp hN (by omega) (by omega) F135.2 u3⟩
      rw [(pz_ap_g (by omega)).1]
      omega
    cases List.mem_singleton.mp hx
    refine (ax_XF_lt (x := 136) (Nat.le_of_ble_eq_true rfl)).mpr ?_
    show pz_y136 (ρ' 0) (ρ' 2) (ρ' 3) (ρ' 4) (ρ' 5) (ρ' 6) (ρ' 7) (ρ' 15)
    rw [q0, q2, q3, q4, q5, q6, q7, h2]
    rw [pz_ap_4]
    refine ⟨g1, by omega, ?_⟩
    show _ = pz_ap (pz_a20 (ρ 2 / 4) (ρ 3 / 4) (ρ 4 / 4) (ρ 5 / 4) (ρ 6 / 4) (ρ 0) (ρ 7 / 4)) (pz_by (pz_sel (ρ 2 / 4) (ρ 3 / 4) (ρ 4 / 4) (ρ 5 / 4) (ρ 6 / 4) (ρ 7 / 4)) (ρ 7 / 4 % 4))
    rw [es, ← eb, ← g3])
  exact ⟨(fun y hy => by cases hy), _, List.mem_cons_self, ρ', h1, h2⟩
theorem axq0_mf2_2 : ax_RO ax_wM0 (ax_XM 0) axu0_mf2_2 := axqg_mf2_2 ax_WW0
theorem axqg_mf2_3 {w : ax_W} {b : Nat} (hw : ax_WW w) : ax_RO w (ax_XM b) axu0_mf2_3 := by
  intro ρ hp hE hT
  have j0 : ρ 0 % 4 = 1 := pz_gj hE 0 (Nat.le_of_ble_eq_true rfl) rfl
  have j1 : ρ 1 % 4 = 1 := pz_gj hE 1 (Nat.le_of_ble_eq_true rfl) rfl
  obtain ⟨i2a, i2b, i2c, i2d⟩ := pz_gi hE 2 0 4294967295 (Nat.le_of_ble_eq_true rfl) rfl
  obtain ⟨i3a, i3b, i3c, i3d⟩ := pz_gi hE 3 0 4294967295 (Nat.le_of_ble_eq_true rfl) rfl
  obtain ⟨i4a, i4b, i4c, i4d⟩ := pz_gi hE 4 0 4294967295 (Nat.le_of_ble_eq_true rfl) rfl
  obtain ⟨i5a, i5b, i5c, i5d⟩ := pz_gi hE 5 0 4294967295 (Nat.le_of_ble_eq_true rfl) rfl
  obtain ⟨i6a, i6b, i6c, i6d⟩ := pz_gi hE 6 0 4294967295 (Nat.le_of_ble_eq_true rfl) rfl
  obtain ⟨i7a, i7b, i7c, i7d⟩ := pz_gi hE 7 2147483660 2147483663 (Nat.le_of_ble_eq_true rfl) rfl
  obtain ⟨i8a, i8b, i8c, i8d⟩ := pz_gi hE 8 2147483520 2147483775 (Nat.le_of_ble_eq_true rfl) rfl
  obtain ⟨i9a, i9b, i9c, i9d⟩ := pz_gi hE 9 0 4294967295 (Nat.le_of_ble_eq_true rfl) rfl
  obtain ⟨i10a, i10b, i10c, i10d⟩ := pz_gi hE 10 0 4294967295 (Nat.le_of_ble_eq_true rfl) rfl
  obtain ⟨i11a, i11b, i11c, i11d⟩ := pz_gi hE 11 0 4294967295 (Nat.le_of_ble_eq_true rfl) rfl
  obtain ⟨i12a, i12b, i12c, i12d⟩ := pz_gi hE 12 0 4294967295 (Nat.le_of_ble_eq_true rfl) rfl
  obtain ⟨i13a, i13b, i13c, i13d⟩ := pz_gi hE 13 0 4294967295 (Nat.le_of_ble_eq_true rfl) rfl
  obtain ⟨i14a, i14b, i14c, i14d⟩ := pz_gi hE 14 2147483648 2147484428 (Nat.le_of_ble_eq_true rfl) rfl
  have s1 : (ρ 11 / 4 + 2147483648) % 4294967296 + (ρ 12 / 4 + 2147483648) % 4294967296 = (96 / 4 + 2147483648) % 4294967296 + 2147483648 := pz_gs hE 47 51 96 ax_m2
  have c_taped : ay_at hp 173 11 = some (ρ 14) := ay_gfj hE 702 44 59 173 11 ax_m7 (ax_vlq rfl rfl) (ax_vlj rfl rfl)
  have s2 : (ρ 14 / 4 + 2147483648) % 4294967296 + (ρ 7 / 4 + 2147483648) % 4294967296 = (ρ 9 / 4 + 2147483648) % 4294967296 + 2147483648 := pz_gs hE 59 31 39 ax_m8
  obtain ⟨-, F135⟩ : ay_ex hp 183 ∧ pz_y135 (ρ 1) (ay_at hp 183) := (ax_XF_lt (x := 135) (Nat.le_of_ble_eq_true rfl)).mp (ax_gx hE (135, [7]) ax_m5)
  have F134 : pz_y134 (ρ 0) (ρ 2) (ρ 3) (ρ 4) (ρ 5) (ρ 6) (ρ 7) (ρ 1) := (ax_XF_lt (x := 134) (Nat.le_of_ble_eq_true rfl)).mp (ax_gx hE (134, [3, 11, 15, 19, 23, 27, 31, 7]) ax_m6)
  have F139 : pz_gN (ρ 0) = (ρ 14) / 4 := (ax_XF_lt (x := 139) (Nat.le_of_ble_eq_true rfl)).mp (ax_gx hE (139, [3, 59]) ax_m9)
  obtain ⟨g1, g2, g3⟩ := F134
  replace g2 : ρ 7 / 4 ≤ 20 := g2
  have hk := (pz_ps 12 15 i7b i7c i7d (by decide))
  obtain ⟨r3, a1, a2, a3⟩ := ay_mk hE 3 31 12 55 (by decide) (by decide)
  replace a1 : rx_f_and (ρ 7 / 4) (12 / 4) = some r3 := a1
  rw [show (12 : Nat) / 4 = 3 from rfl, pz_and3 _ (by omega)] at a1
  have a1 := Option.some.inj a1
  replace a3 : ρ 13 = 4 * r3 := a3
  obtain ⟨r2, b1, b2, b3⟩ := ay_mk hE 2 32 55 51 (by decide) (by decide)
  replace b1 : some (32 / 4 * (ρ 13 / 4) % 4294967296) = some r2 := b1
  have b1 := Option.some.inj b1
  replace b3 : ρ 12 = 4 * r2 := b3
  have hp12 : ρ 12 / 4 = 8 * (ρ 7 / 4 % 4) := by
    clear s1 s2
    omega
  have hsh : ρ 11 / 4 = 24 - 8 * (ρ 7 / 4 % 4) := by
    clear s2 b1
    omega
  obtain ⟨r, c1, c2, c3⟩ := ay_mk hE 7 23 47 43 (by decide) (by decide)
  replace c1 : rx_f_shr (ρ 5 / 4) (ρ 11 / 4) = some r := c1
  rw [hsh] at c1
  replace c3 : ρ 10 = 4 * r := c3
  have c4 : ρ 8 = 4 * rx_f_i2b (ρ 10 / 4) := pz_g43 hE 43 35 (by decide)
  rw [c3, show 4 * r / 4 = r by omega] at c4
  have eb : ρ 8 / 4 = pz_by (ρ 5 / 4) (ρ 7 / 4 % 4) := by rw [pz_by_eq c1, c4]; omega
  have es : pz_sel (ρ 2 / 4) (ρ 3 / 4) (ρ 4 / 4) (ρ 5 / 4) (ρ 6 / 4) (ρ 7 / 4) = ρ 5 / 4 := by
    unfold pz_sel
    rw [if_neg (by omega), if_neg (by omega), if_neg (by omega), if_pos (by omega)]
  have hs14 := (pz_ps 0 780 i14b i14c i14d (by decide)).2
  have hq : ρ 9 / 4 = ρ 14 / 4 + ρ 7 / 4 := pz_sm (by omega) (by omega) i9b s2
  have hN : pz_gN (ρ 1) = ρ 9 / 4 := by
    rw [g3, pz_a20_N (by omega), F139, hq]
  have hb8 : ρ 8 = 4 * (ρ 8 / 4) := by omega
  obtain ⟨ρ', h1, h2⟩ := pz_pn1 (K := pz_ap (ρ 1) (ρ 8 / 4) / 4) (xf := [(635, [742, 39, 35, 63]), (136, [3, 11, 15, 19, 23, 27, 31, 63])]) hE (by decide) (fun ρ' h1 h2 x hx => by
    have q0 : ρ' 0 = ρ 0 := h1 0 (by decide)
    have q1 : ρ' 1 = ρ 1 := h1 1 (by decide)
    have q2 : ρ' 2 = ρ 2 := h1 2 (by decide)
    have q3 : ρ' 3 = ρ 3 := h1 3 (by decide)
    have q4 : ρ' 4 = ρ 4 := h1 4 (by decide)
    have q5 : ρ' 5 = ρ 5 := h1 5 (by decide)
    have q6 : ρ' 6 = ρ 6 := h1 6 (by decide)
    have q7 : ρ' 7 = ρ 7 := h1 7 (by decide)
    have q8 : ρ' 8 = ρ 8 := h1 8 (by decide)
    have q9 : ρ' 9 = ρ 9 := h1 9 (by decide)
    have q10 : ρ' 10 = ρ 10 := h1 10 (by decide)
    have q11 : ρ' 11 = ρ 11 := h1 11 (by decide)
    have q12 : ρ' 12 = ρ 12 := h1 12 (by decide)
    have q13 : ρ' 13 = ρ 13 := h1 13 (by decide)
    have q14 : ρ' 14 = ρ 14 := h1 14 (by decide)
    rcases List.mem_cons.mp hx with e | hx
    · subst e
      refine (ax_XF_wr (x := 135) (Nat.le_of_ble_eq_true rfl)).mpr ?_
      show ay_ex (ax_upd hp 742 (ρ' 9) (ρ' 8)) 183 ∧ pz_y135 (ρ' 15) (ay_at (ax_upd hp 742 (ρ' 9) (ρ' 8)) 183)
      rw [q8, q9, h2]
      obtain ⟨o0, ho0⟩ := ay_some hT (q := 183) (g := 53) (n := 800) (ax_wc hw ax_cg_183) (ax_wn hw ax_cn_53) (j := ρ 9 / 4) (by omega)
      have u1 : ∀ q, q ≠ 183 → ay_at (ax_upd hp 742 (ρ 9) (ρ 8)) q = ay_at hp q := fun q hq => funext (fun j => ay_upd_ne hT.1 hq j)
      have u2 : ∀ j, ay_at (ax_upd hp 742 (ρ 9) (ρ 8)) 183 j = if j = ρ 9 / 4 then some (ρ 8) else ay_at hp 183 j := fun j => ay_upd_eq hT.1 rfl ho0 j
      refine ⟨ay_ex_upd hT.1 (ax_cellT hT (q := 183) (g := 53) (ax_wc hw ax_cg_183)), ?_⟩
      rw [pz_ap_4]
      have u3 : ∀ j, ay_at (ax_upd hp 742 (ρ 9) (ρ 8)) 183 j = if j = ρ 9 / 4 then some (4 * (ρ 8 / 4)) else ay_at hp 183 j := fun j => by rw [← hb8]; exact u2 j
      refine ⟨?_, pz_ap_tp hN (by omega) (by omega) F135.2 u3⟩
      rw [(pz_ap_g (by omega)).1]
      omega
    cases List.mem_singleton.mp hx
    refine (ax_XF_lt (x := 136) (Nat.le_of_ble_eq_true rfl)).mpr ?_
    show pz_y136 (ρ' 0) (ρ' 2) (ρ' 3) (ρ' 4) (ρ' 5) (ρ' 6) (ρ' 7) (ρ' 15)
    rw [q0, q2, q3, q4, q5, q6, q7, h2]
    rw [pz_ap_4]
    refine ⟨g1, by omega, ?_⟩
    show _ = pz_ap (pz_a20 (ρ 2 / 4) (ρ 3 / 4) (ρ 4 / 4) (ρ 5 / 4) (ρ 6 / 4) (ρ 0) (ρ 7 / 4)) (pz_by (pz_sel (ρ 2 / 4) (ρ 3 / 4) (ρ 4 / 4) (ρ 5 / 4) (ρ 6 / 4) (ρ 7 / 4)) (ρ 7 / 4 % 4))
    rw [es, ← eb, ← g3])
  exact ⟨(fun y hy => by cases hy), _, List.mem_cons_self, ρ', h1, h2⟩
theorem axq0_mf2_3 : ax_RO ax_wM0 (ax_XM 0) axu0_mf2_3 := axqg_mf2_3 ax_WW0
theorem axqg_mf2_4 {w : ax_W} {b : Nat} (hw : ax_WW w) : ax_RO w (ax_XM b) axu0_mf2_4 := by
  intro ρ hp hE hT
  have j0 : ρ 0 % 4 = 1 := pz_gj hE 0 (Nat.le_of_ble_eq_true rfl) rfl
  have j1 : ρ 1 % 4 = 1 := pz_gj hE 1 (Nat.le_of_ble_eq_true rfl) rfl
  obtain ⟨i2a, i2b, i2c, i2d⟩ := pz_gi hE 2 0 4294967295 (Nat.le_of_ble_eq_true rfl) rfl
  obtain ⟨i3a, i3b, i3c, i3d⟩ := pz_gi hE 3 0 4294967295 (Nat.le_of_ble_eq_true rfl) rfl
  obtain ⟨i4a, i4b, i4c, i4d⟩ := pz_gi hE 4 0 4294967295 (Nat.le_of_ble_eq_true rfl) rfl
  obtain ⟨i5a, i5b, i5c, i5d⟩ := pz_gi hE 5 0 4294967295 (Nat.le_of_ble_eq_true rfl) rfl
  obtain ⟨i6a, i6b, i6c, i6d⟩ := pz_gi hE 6 0 4294967295 (Nat.le_of_ble_eq_true rfl) rfl
  obtain ⟨i7a, i7b, i7c, i7d⟩ := pz_gi hE 7 2147483664 2147483667 (Nat.le_of_ble_eq_true rfl) rfl
  obtain ⟨i8a, i8b, i8c, i8d⟩ := pz_gi hE 8 2147483520 2147483775 (Nat.le_of_ble_eq_true rfl) rfl
  obtain ⟨i9a, i9b, i9c, i9d⟩ := pz_gi hE 9 0 4294967295 (Nat.le_of_ble_eq_true rfl) rfl
  obtain ⟨i10a, i10b, i10c, i10d⟩ := pz_gi hE 10 0 4294967295 (Nat.le_of_ble_eq_true rfl) rfl
  obtain ⟨i11a, i11b, i11c, i11d⟩ := pz_gi hE 11 0 4294967295 (Nat.le_of_ble_eq_true rfl) rfl
  obtain ⟨i12a, i12b, i12c, i12d⟩ := pz_gi hE 12 0 4294967295 (Nat.le_of_ble_eq_true rfl) rfl
  obtain ⟨i13a, i13b, i13c, i13d⟩ := pz_gi hE 13 0 4294967295 (Nat.le_of_ble_eq_true rfl) rfl
  obtain ⟨i14a, i14b, i14c, i14d⟩ := pz_gi hE 14 2147483648 2147484428 (Nat.le_of_ble_eq_true rfl) rfl
  have s1 : (ρ 11 / 4 + 2147483648) % 4294967296 + (ρ 12 / 4 + 2147483648) % 4294967296 = (96 / 4 + 2147483648) % 4294967296 + 2147483648 := pz_gs hE 47 51 96 ax_m2
  have c_taped : ay_at hp 173 11 = some (ρ 14) := ay_gfj hE 702 44 59 173 11 ax_m7 (ax_vlq rfl rfl) (ax_vlj rfl rfl)
  have s2 : (ρ 14 / 4 + 2147483648) % 4294967296 + (ρ 7 / 4 + 2147483648) % 4294967296 = (ρ 9 / 4 + 2147483648) % 4294967296 + 2147483648 := pz_gs hE 59 31 39 ax_m8
  obtain ⟨-, F135⟩ : ay_ex hp 183 ∧ pz_y135 (ρ 1) (ay_at hp 183) := (ax_XF_lt (x := 135) (Nat.le_of_ble_eq_true rfl)).mp (ax_gx hE (135, [7]) ax_m5)
  have F134 : pz_y134 (ρ 0) (ρ 2) (ρ 3) (ρ 4) (ρ 5) (ρ 6) (ρ 7) (ρ 1) := (ax_XF_lt (x := 134) (Nat.le_of_ble_eq_true rfl)).mp (ax_gx hE (134, [3, 11, 15, 19, 23, 27, 31, 7]) ax_m6)
  have F139 : pz_gN (ρ 0) = (ρ 14) / 4 := (ax_XF_lt (x := 139) (Nat.le_of_ble_eq_true rfl)).mp (ax_gx hE (139, [3, 59]) ax_m9)
  obtain ⟨g1, g2, g3⟩ := F134
  replace g2 : ρ 7 / 4 ≤ 20 := g2
  have hk := (pz_ps 16 19 i7b i7c i7d (by decide))
  obtain ⟨r3, a1, a2, a3⟩ := ay_mk hE 3 31 12 55 (by decide) (by decide)
  replace a1 : rx_f_and (ρ 7 / 4) (12 / 4) = some r3 := a1
  rw [show (12 : Nat) / 4 = 3 from rfl, pz_and3 _ (by omega)] at a1
  have a1 := Option.some.inj a1
  replace a3 : ρ 13 = 4 * r3 := a3
  obtain ⟨r2, b1, b2, b3⟩ := ay_mk hE 2 32 55 51 (by decide) (by decide)
  replace b1 : some (32 / 4 * (ρ 13 / 4) % 4294967296) = some r2 := b1
  have b1 := Option.some.inj b1
  replace b3 : ρ 12 = 4 * r2 := b3
  have hp12 : ρ 12 / 4 = 8 * (ρ 7 / 4 % 4) := by
    clear s1 s2
    omega
  have hsh : ρ 11 / 4 = 24 - 8 * (ρ 7 / 4 % 4) := by
    clear s2 b1
    omega
  obtain ⟨r, c1, c2, c3⟩ := ay_mk hE 7 27 47 43 (by decide) (by decide)
  replace c1 : rx_f_shr (ρ 6 / 4) (ρ 11 / 4) = some r := c1
  rw [hsh] at c1
  replace c3 : ρ 10 = 4 * r := c3
  have c4 : ρ 8 = 4 * rx_f_i2b (ρ 10 / 4) := pz_g43 hE 43 35 (by decide)
  rw [c3, show 4 * r / 4 = r by omega] at c4
  have eb : ρ 8 / 4 = pz_by (ρ 6 / 4) (ρ 7 / 4 % 4) := by rw [pz_by_eq c1, c4]; omega
  have es : pz_sel (ρ 2 / 4) (ρ 3 / 4) (ρ 4 / 4) (ρ 5 / 4) (ρ 6 / 4) (ρ 7 / 4) = ρ 6 / 4 := by
    unfold pz_sel
    rw [if_neg (by omega), if_neg (by omega), if_neg (by omega), if_neg (by omega)]
  have hs14 := (pz_ps 0 780 i14b i14c i14d (by decide)).2
  have hq : ρ 9 / 4 = ρ 14 / 4 + ρ 7 / 4 := pz_sm (by omega) (by omega) i9b s2
  have hN : pz_gN (ρ 1) = ρ 9 / 4 := by
    rw [g3, pz_a20_N (by omega), F139, hq]
  have hb8 : ρ 8 = 4 * (ρ 8 / 4) := by omega
  obtain ⟨ρ', h1, h2⟩ := pz_pn1 (K := pz_ap (ρ 1) (ρ 8 / 4) / 4) (xf := [(635, [742, 39, 35, 63]), (136, [3, 11, 15, 19, 23, 27, 31, 63])]) hE (by decide) (fun ρ' h1 h2 x hx => by
    have q0 : ρ' 0 = ρ 0 := h1 0 (by decide)
    have q1 : ρ' 1 = ρ 1 := h1 1 (by decide)
    have q2 : ρ' 2 = ρ 2 := h1 2 (by decide)
    have q3 : ρ' 3 = ρ 3 := h1 3 (by decide)
    have q4 : ρ' 4 = ρ 4 := h1 4 (by decide)
    have q5 : ρ' 5 = ρ 5 := h1 5 (by decide)
    have q6 : ρ' 6 = ρ 6 := h1 6 (by decide)
    have q7 : ρ' 7 = ρ 7 := h1 7 (by decide)
    have q8 : ρ' 8 = ρ 8 := h1 8 (by decide)
    have q9 : ρ' 9 = ρ 9 := h1 9 (by decide)
    have q10 : ρ' 10 = ρ 10 := h1 10 (by decide)
    have q11 : ρ' 11 = ρ 11 := h1 11 (by decide)
    have q12 : ρ' 12 = ρ 12 := h1 12 (by decide)
    have q13 : ρ' 13 = ρ 13 := h1 13 (by decide)
    have q14 : ρ' 14 = ρ 14 := h1 14 (by decide)
    rcases List.mem_cons.mp hx with e | hx
    · subst e
      refine (ax_XF_wr (x := 135) (Nat.le_of_ble_eq_true rfl)).mpr ?_
      show ay_ex (ax_upd hp 742 (ρ' 9) (ρ' 8)) 183 ∧ pz_y135 (ρ' 15) (ay_at (ax_upd hp 742 (ρ' 9) (ρ' 8)) 183)
      rw [q8, q9, h2]
      obtain ⟨o0, ho0⟩ := ay_some hT (q := 183) (g := 53) (n := 800) (ax_wc hw ax_cg_183) (ax_wn hw ax_cn_53) (j := ρ 9 / 4) (by omega)
      have u1 : ∀ q, q ≠ 183 → ay_at (ax_upd hp 742 (ρ 9) (ρ 8)) q = ay_at hp q := fun q hq => funext (fun j => ay_upd_ne hT.1 hq j)
      have u2 : ∀ j, ay_at (ax_upd hp 742 (ρ 9) (ρ 8)) 183 j = if j = ρ 9 / 4 then some (ρ 8) else ay_at hp 183 j := fun j => ay_upd_eq hT.1 rfl ho0 j
      refine ⟨ay_ex_upd hT.1 (ax_cellT hT (q := 183) (g := 53) (ax_wc hw ax_cg_183)), ?_⟩
      rw [pz_ap_4]
      have u3 : ∀ j, ay_at (ax_upd hp 742 (ρ 9) (ρ 8)) 183 j = if j = ρ 9 / 4 then some (4 * (ρ 8 / 4)) else ay_at hp 183 j := fun j => by rw [← hb8]; exact u2 j
      refine ⟨?_, pz_ap_tp hN (by omega) (by omega) F135.2 u3⟩
      rw [(pz_ap_g (by omega)).1]
      omega
    cases List.mem_singleton.mp hx
    refine (ax_XF_lt (x := 136) (Nat.le_of_ble_eq_true rfl)).mpr ?_
    show pz_y136 (ρ' 0) (ρ' 2) (ρ' 3) (ρ' 4) (ρ' 5) (ρ' 6) (ρ' 7) (ρ' 15)
    rw [q0, q2, q3, q4, q5, q6, q7, h2]
    rw [pz_ap_4]
    refine ⟨g1, by omega, ?_⟩
    show _ = pz_ap (pz_a20 (ρ 2 / 4) (ρ 3 / 4) (ρ 4 / 4) (ρ 5 / 4) (ρ 6 / 4) (ρ 0) (ρ 7 / 4)) (pz_by (pz_sel (ρ 2 / 4) (ρ 3 / 4) (ρ 4 / 4) (ρ 5 / 4) (ρ 6 / 4) (ρ 7 / 4)) (ρ 7 / 4 % 4))
    rw [es, ← eb, ← g3])
  exact ⟨(fun y hy => by cases hy), _, List.mem_cons_self, ρ', h1, h2⟩
theorem axq0_mf2_4 : ax_RO ax_wM0 (ax_XM 0) axu0_mf2_4 := axqg_mf2_4 ax_WW0
theorem axqg_mf3 {w : ax_W} {b : Nat} (hw : ax_WW w) : ax_RO w (ax_XM b) axu0_mf3 := by
  intro ρ hp hE hT
  have j0 : ρ 0 % 4 = 1 := pz_gj hE 0 (Nat.le_of_ble_eq_true rfl) rfl
  have j1 : ρ 1 % 4 = 1 := pz_gj hE 1 (Nat.le_of_ble_eq_true rfl) rfl
  obtain ⟨i2a, i2b, i2c, i2d⟩ := pz_gi hE 2 0 4294967295 (Nat.le_of_ble_eq_true rfl) rfl
  obtain ⟨i3a, i3b, i3c, i3d⟩ := pz_gi hE 3 0 4294967295 (Nat.le_of_ble_eq_true rfl) rfl
  obtain ⟨i4a, i4b, i4c, i4d⟩ := pz_gi hE 4 0 4294967295 (Nat.le_of_ble_eq_true rfl) rfl
  obtain ⟨i5a, i5b, i5c, i5d⟩ := pz_gi hE 5 0 4294967295 (Nat.le_of_ble_eq_true rfl) rfl
  obtain ⟨i6a, i6b, i6c, i6d⟩ := pz_gi hE 6 0 4294967295 (Nat.le_of_ble_eq_true rfl) rfl
  obtain ⟨i7a, i7b, i7c, i7d⟩ := pz_gi hE 7 2147483648 2147483667 (Nat.le_of_ble_eq_true rfl) rfl
  obtain ⟨i8a, i8b, i8c, i8d⟩ := pz_gi hE 8 0 4294967295 (Nat.le_of_ble_eq_true rfl) rfl
  have s1 : (ρ 7 / 4 + 2147483648) % 4294967296 + (4 / 4 + 2147483648) % 4294967296 = (ρ 8 / 4 + 2147483648) % 4294967296 + 2147483648 := pz_gs hE 31 4 35 ax_m0
  obtain ⟨-, F135⟩ : ay_ex hp 183 ∧ pz_y135 (ρ 1) (ay_at hp 183) := (ax_XF_lt (x := 135) (Nat.le_of_ble_eq_true rfl)).mp (ax_gx hE (135, [7]) ax_m1)
  have F136 : pz_y136 (ρ 0) (ρ 2) (ρ 3) (ρ 4) (ρ 5) (ρ 6) (ρ 7) (ρ 1) := (ax_XF_lt (x := 136) (Nat.le_of_ble_eq_true rfl)).mp (ax_gx hE (136, [3, 11, 15, 19, 23, 27, 31, 7]) ax_m2)
  have e : ρ 8 / 4 = ρ 7 / 4 + 1 := by omega
  refine ⟨(fun y hy => by cases hy), _, List.mem_cons_self, ρ, fun _ _ => rfl, ax_px hE rfl (fun x hx => ?_)⟩
  cases List.mem_singleton.mp hx
  refine (ax_XF_lt (x := 134) (Nat.le_of_ble_eq_true rfl)).mpr ?_
  show pz_y134 (ρ 0) (ρ 2) (ρ 3) (ρ 4) (ρ 5) (ρ 6) (ρ 8) (ρ 1)
  obtain ⟨g1, g2, g3⟩ := F136
  refine ⟨g1, by omega, ?_⟩
  rw [e]
  exact g3
theorem axq0_mf3 : ax_RO ax_wM0 (ax_XM 0) axu0_mf3 := axqg_mf3 ax_WW0
theorem axqg_mf4 {w : ax_W} {b : Nat} (hw : ax_WW w) : ax_RO w (ax_XM b) axu0_mf4 := by
  intro ρ hp hE hT
  have j0 : ρ 0 % 4 = 1 := pz_gj hE 0 (Nat.le_of_ble_eq_true rfl) rfl
  have j1 : ρ 1 % 4 = 1 := pz_gj hE 1 (Nat.le_of_ble_eq_true rfl) rfl
  obtain ⟨i2a, i2b, i2c, i2d⟩ := pz_gi hE 2 0 4294967295 (Nat.le_of_ble_eq_true rfl) rfl
  obtain ⟨i3a, i3b, i3c, i3d⟩ := pz_gi hE 3 0 4294967295 (Nat.le_of_ble_eq_true rfl) rfl
  obtain ⟨i4a, i4b, i4c, i4d⟩ := pz_gi hE 4 0 4294967295 (Nat.le_of_ble_eq_true rfl) rfl
  obtain ⟨i5a, i5b, i5c, i5d⟩ := pz_gi hE 5 0 4294967295 (Nat.le_of_ble_eq_true rfl) rfl
  obtain ⟨i6a, i6b, i6c, i6d⟩ := pz_gi hE 6 0 4294967295 (Nat.le_of_ble_eq_true rfl) rfl
  obtain ⟨i7a, i7b, i7c, i7d⟩ := pz_gi hE 7 2147483668 2147483668 (Nat.le_of_ble_eq_true rfl) rfl
  obtain ⟨i8a, i8b, i8c, i8d⟩ := pz_gi hE 8 2147483648 2147484428 (Nat.le_of_ble_eq_true rfl) rfl
  obtain ⟨i9a, i9b, i9c, i9d⟩ := pz_gi hE 9 0 4294967295 (Nat.le_of_ble_eq_true rfl) rfl
  have c_taped : ay_at hp 173 11 = some (ρ 8) := ay_gfj hE 702 44 35 173 11 ax_m2 (ax_vlq rfl rfl) (ax_vlj rfl rfl)
  have s1 : (ρ 8 / 4 + 2147483648) % 4294967296 + (80 / 4 + 2147483648) % 4294967296 = (ρ 9 / 4 + 2147483648) % 4294967296 + 2147483648 := pz_gs hE 35 80 39 ax_m3
  obtain ⟨-, F135⟩ : ay_ex hp 183 ∧ pz_y135 (ρ 1) (ay_at hp 183) := (ax_XF_lt (x := 135) (Nat.le_of_ble_eq_true rfl)).mp (ax_gx hE (135, [7]) ax_m0)
  have F134 : pz_y134 (ρ 0) (ρ 2) (ρ 3) (ρ 4) (ρ 5) (ρ 6) (ρ 7) (ρ 1) := (ax_XF_lt (x := 134) (Nat.le_of_ble_eq_true rfl)).mp (ax_gx hE (134, [3, 11, 15, 19, 23, 27, 31, 7]) ax_m1)
  have F139 : pz_gN (ρ 0) = (ρ 8) / 4 := (ax_XF_lt (x := 139) (Nat.le_of_ble_eq_true rfl)).mp (ax_gx hE (139, [3, 35]) ax_m4)
  obtain ⟨g1, g2, g3⟩ := F134
  have hk : ρ 7 / 4 = 20 := by omega
  rw [hk] at g3
  have e0 : pz_gN (ρ 0) = ρ 8 / 4 := F139
  have hN : pz_gN (ρ 1) = ρ 8 / 4 + 20 := by rw [g3, pz_a20_N (by omega), e0]
  refine ⟨(fun y hy => by cases hy), _, List.mem_cons_self, ρ, fun _ _ => rfl, ax_px hE rfl (fun x hx => ?_)⟩
  rcases List.mem_cons.mp hx with e | hx
  · subst e
    refine (ax_XF_wr (x := 130) (Nat.le_of_ble_eq_true rfl)).mpr ?_
    show ay_ex (ax_upd hp 702 (44) (ρ 9)) 173 ∧ ay_ex (ax_upd hp 702 (44) (ρ 9)) 183 ∧ pz_x30 (ρ 1) (ay_at (ax_upd hp 702 (44) (ρ 9)) 173 11) (ay_at (ax_upd hp 702 (44) (ρ 9)) 183)
    obtain ⟨o0, ho0⟩ := ay_some hT (q := 173) (g := 11) (n := 58) (ax_wc hw ax_cg_173) (ax_wn hw ax_cn_11) (j := 44 / 4) (Nat.le_of_ble_eq_true rfl)
    have u1 : ∀ q, q ≠ 173 → ay_at (ax_upd hp 702 44 (ρ 9)) q = ay_at hp q := fun q hq => funext (fun j => ay_upd_ne hT.1 hq j)
    have u2 : ∀ j, ay_at (ax_upd hp 702 44 (ρ 9)) 173 j = if j = 11 then some (ρ 9) else ay_at hp 173 j := fun j => ay_upd_eq hT.1 rfl ho0 j
    refine ⟨ay_ex_upd hT.1 (ax_cellT hT (q := 173) (g := 11) (ax_wc hw ax_cg_173)), ay_ex_upd hT.1 (ax_cellT hT (q := 183) (g := 53) (ax_wc hw ax_cg_183)), ?_⟩
    rw [u2 11, if_pos rfl, u1 183 (Nat.ne_of_beq_eq_false rfl)]
    refine ⟨?_, F135.1, F135.2⟩
    show ρ 9 / 4 = pz_gN (ρ 1)
    rw [hN]
    omega
  cases List.mem_singleton.mp hx
  refine (ax_XF_lt (x := 137) (Nat.le_of_ble_eq_true rfl)).mpr ?_
  show (ρ 1) = pz_a20 ((ρ 2) / 4) ((ρ 3) / 4) ((ρ 4) / 4) ((ρ 5) / 4) ((ρ 6) / 4) (ρ 0) 20
  exact g3
theorem axq0_mf4 : ax_RO ax_wM0 (ax_XM 0) axu0_mf4 := axqg_mf4 ax_WW0
theorem axqg_me1 {w : ax_W} {b : Nat} (hw : ax_WW w) : ax_RO w (ax_XM b) axu0_me1 := by
  intro ρ hp hE hT
  have j0 : ρ 0 % 4 = 1 := pz_gj hE 0 (Nat.le_of_ble_eq_true rfl) rfl
  obtain ⟨i1a, i1b, i1c, i1d⟩ := pz_gi hE 1 2147483648 2147484448 (Nat.le_of_ble_eq_true rfl) rfl
  obtain ⟨i2a, i2b, i2c, i2d⟩ := pz_gi hE 2 2147483648 2147484448 (Nat.le_of_ble_eq_true rfl) rfl
  have c_taped : ay_at hp 173 11 = some (ρ 2) := ay_gfj hE 702 44 11 173 11 ax_m1 (ax_vlq rfl rfl) (ax_vlj rfl rfl)
  have r1 : (ρ 1 / 4 + 2147483648) % 4294967296 ≤ (ρ 2 / 4 + 2147483648) % 4294967296 := pz_gc hE 5 7 11 (Nat.le_of_ble_eq_true rfl) ax_m2
  obtain ⟨-, -, F130⟩ : ay_ex hp 173 ∧ ay_ex hp 183 ∧ pz_x30 (ρ 0) (ay_at hp 173 11) (ay_at hp 183) := (ax_XF_lt (x := 130) (Nat.le_of_ble_eq_true rfl)).mp (ax_gx hE (130, [3]) ax_m0)
  rw [c_taped] at F130
  obtain ⟨ρ', h1, h2⟩ := pz_pn1 (K := pz_cut (ρ 0) (ρ 1 / 4) / 4) (xf := [(630, [702, 44, 7, 15]), (138, [3, 7, 15])]) hE (by decide) (fun ρ' h1 h2 x hx => by
    have q0 : ρ' 0 = ρ 0 := h1 0 (by decide)
    have q1 : ρ' 1 = ρ 1 := h1 1 (by decide)
    have q2 : ρ' 2 = ρ 2 := h1 2 (by decide)
    rcases List.mem_cons.mp hx with e | hx
    · subst e
      refine (ax_XF_wr (x := 130) (Nat.le_of_ble_eq_true rfl)).mpr ?_
      show ay_ex (ax_upd hp 702 (44) (ρ' 1)) 173 ∧ ay_ex (ax_upd hp 702 (44) (ρ' 1)) 183 ∧ pz_x30 (ρ' 3) (ay_at (ax_upd hp 702 (44) (ρ' 1)) 173 11) (ay_at (ax_upd hp 702 (44) (ρ' 1)) 183)
      rw [q1, h2]
      obtain ⟨o0, ho0⟩ := ay_some hT (q := 173) (g := 11) (n := 58) (ax_wc hw ax_cg_173) (ax_wn hw ax_cn_11) (j := 44 / 4) (Nat.le_of_ble_eq_true rfl)
      have u1 : ∀ q, q ≠ 173 → ay_at (ax_upd hp 702 44 (ρ 1)) q = ay_at hp q := fun q hq => funext (fun j => ay_upd_ne hT.1 hq j)
      have u2 : ∀ j, ay_at (ax_upd hp 702 44 (ρ 1)) 173 j = if j = 11 then some (ρ 1) else ay_at hp 173 j := fun j => ay_upd_eq hT.1 rfl ho0 j
      refine ⟨ay_ex_upd hT.1 (ax_cellT hT (q := 173) (g := 11) (ax_wc hw ax_cg_173)), ay_ex_upd hT.1 (ax_cellT hT (q := 183) (g := 53) (ax_wc hw ax_cg_183)), ?_⟩
      rw [u2 11, if_pos rfl, u1 183 (Nat.ne_of_beq_eq_false rfl)]
      rw [pz_cut_4]
      have e := pz_cut_g (g := ρ 0) (n := ρ 1 / 4) (by omega)
      have eN : ρ 2 / 4 = pz_gN (ρ 0) := F130.1
      refine ⟨?_, ?_, fun j hj => ?_⟩
      · show ρ 1 / 4 = _
        rw [e.1]
      · rw [e.1]
        omega
      · rw [e.1] at hj
        rw [e.2]
        exact F130.2.2 j (by omega)
    cases List.mem_singleton.mp hx
    refine (ax_XF_lt (x := 138) (Nat.le_of_ble_eq_true rfl)).mpr ?_
    show (ρ' 3) = pz_cut (ρ' 0) ((ρ' 1) / 4)
    rw [q0, q1, h2]
    rw [pz_cut_4])
  exact ⟨(fun y hy => by cases hy), _, List.mem_cons_self, ρ', h1, h2⟩
theorem axq0_me1 : ax_RO ax_wM0 (ax_XM 0) axu0_me1 := axqg_me1 ax_WW0
end
section
theorem axr0_0 (hP : ∀ q ∈ rx_P, rx_QW q ∧ rx_ST rx_P (rx_DF, rx_FK) q) : ax_Row ax_wM0 (ax_XM 0) rx_P ax_APM0 rx_P (rx_DF, rx_FK) rxm_0 (axm_0, []) := fun hr => ⟨ax_tabB_ok axt_0, fun hL => ax_con_nil⟩
theorem axr0_1 (hP : ∀ q ∈ rx_P, rx_QW q ∧ rx_ST rx_P (rx_DF, rx_FK) q) : ax_Row ax_wM0 (ax_XM 0) rx_P ax_APM0 rx_P (rx_DF, rx_FK) rxm_1 (axm_1, []) := fun hr => ⟨ax_tabB_ok axt_1, fun hL => ax_con_nil⟩
theorem axr0_2 (hP : ∀ q ∈ rx_P, rx_QW q ∧ rx_ST rx_P (rx_DF, rx_FK) q) : ax_Row ax_wM0 (ax_XM 0) rx_P ax_APM0 rx_P (rx_DF, rx_FK) rxm_2 (axm_2, []) := fun hr => ⟨ax_tabB_ok axt_2, fun hL => ax_con_nil⟩
theorem axr0_3 (hP : ∀ q ∈ rx_P, rx_QW q ∧ rx_ST rx_P (rx_DF, rx_FK) q) : ax_Row ax_wM0 (ax_XM 0) rx_P ax_APM0 rx_P (rx_DF, rx_FK) rxm_3 (axm_3, []) := fun hr => ⟨ax_tabB_ok axt_3, fun hL => ax_con_nil⟩
theorem axr0_4 (hP : ∀ q ∈ rx_P, rx_QW q ∧ rx_ST rx_P (rx_DF, rx_FK) q) : ax_Row ax_wM0 (ax_XM 0) rx_P ax_APM0 rx_P (rx_DF, rx_FK) rxm_4 (axm_4, []) := fun hr => ⟨ax_tabB_ok axt_4, fun hL => ax_con_nil⟩
theorem axr0_5 (hP : ∀ q ∈ rx_P, rx_QW q ∧ rx_ST rx_P (rx_DF, rx_FK) q) : ax_Row ax_wM0 (ax_XM 0) rx_P ax_APM0 rx_P (rx_DF, rx_FK) rxm_5 (axm_5, []) := fun hr => ⟨ax_tabB_ok axt_5, fun hL => ax_con_nil⟩
theorem axr0_6 (hP : ∀ q ∈ rx_P, rx_QW q ∧ rx_ST rx_P (rx_DF, rx_FK) q) : ax_Row ax_wM0 (ax_XM 0) rx_P ax_APM0 rx_P (rx_DF, rx_FK) rxm_6 (axm_6, []) := fun hr => ⟨ax_tabB_ok axt_6, fun hL => ax_con_nil⟩
theorem axr0_7 (hP : ∀ q ∈ rx_P, rx_QW q ∧ rx_ST rx_P (rx_DF, rx_FK) q) : ax_Row ax_wM0 (ax_XM 0) rx_P ax_APM0 rx_P (rx_DF, rx_FK) rxm_7 (axm_7, []) := fun hr => ⟨ax_tabB_ok axt_7, fun hL => ax_con_nil⟩
theorem axr0_8 (hP : ∀ q ∈ rx_P, rx_QW q ∧ rx_ST rx_P (rx_DF, rx_FK) q) : ax_Row ax_wM0 (ax_XM 0) rx_P ax_APM0 rx_P (rx_DF, rx_FK) rxm_8 (axm_8, []) := fun hr => ⟨ax_tabB_ok axt_8, fun hL => ax_con_nil⟩
theorem axr0_9 (hP : ∀ q ∈ rx_P, rx_QW q ∧ rx_ST rx_P (rx_DF, rx_FK) q) : ax_Row ax_wM0 (ax_XM 0) rx_P ax_APM0 rx_P (rx_DF, rx_FK) rxm_9 (axm_9, []) := fun hr => ⟨ax_tabB_ok axt_9, fun hL => ax_con_nil⟩
theorem axr0_10 (hP : ∀ q ∈ rx_P, rx_QW q ∧ rx_ST rx_P (rx_DF, rx_FK) q) : ax_Row ax_wM0 (ax_XM 0) rx_P ax_APM0 rx_P (rx_DF, rx_FK) rxm_10 (axm_10, []) := fun hr => ⟨ax_tabB_ok axt_10, fun hL => ax_con_nil⟩
theorem axr0_11 (hP : ∀ q ∈ rx_P, rx_QW q ∧ rx_ST rx_P (rx_DF, rx_FK) q) : ax_Row ax_wM0 (ax_XM 0) rx_P ax_APM0 rx_P (rx_DF, rx_FK) rxm_11 (axm_11, []) := fun hr => ⟨ax_tabB_ok axt_11, fun hL => ax_con_nil⟩
theorem axr0_12 (hP : ∀ q ∈ rx_P, rx_QW q ∧ rx_ST rx_P (rx_DF, rx_FK) q) : ax_Row ax_wM0 (ax_XM 0) rx_P ax_APM0 rx_P (rx_DF, rx_FK) rxm_12 (axm_12, []) := fun hr => ⟨ax_tabB_ok axt_12, fun hL => ax_con_nil⟩
theorem axr0_13 (hP : ∀ q ∈ rx_P, rx_QW q ∧ rx_ST rx_P (rx_DF, rx_FK) q) : ax_Row ax_wM0 (ax_XM 0) rx_P ax_APM0 rx_P (rx_DF, rx_FK) rxm_13 (axm_13, []) := fun hr => ⟨ax_tabB_ok axt_13, fun hL => ax_con_nil⟩
theorem axr0_14 (hP : ∀ q ∈ rx_P, rx_QW q ∧ rx_ST rx_P (rx_DF, rx_FK) q) : ax_Row ax_wM0 (ax_XM 0) rx_P ax_APM0 rx_P (rx_DF, rx_FK) rxm_14 (axm_14, []) := fun hr => ⟨ax_tabB_ok axt_14, fun hL => ax_con_nil⟩
theorem axr0_15 (hP : ∀ q ∈ rx_P, rx_QW q ∧ rx_ST rx_P (rx_DF, rx_FK) q) : ax_Row ax_wM0 (ax_XM 0) rx_P ax_APM0 rx_P (rx_DF, rx_FK) rxm_15 (axm_15, []) := fun hr => ⟨ax_tabB_ok axt_15, fun hL => ax_con_nil⟩
theorem axr0_16 (hP : ∀ q ∈ rx_P, rx_QW q ∧ rx_ST rx_P (rx_DF, rx_FK) q) : ax_Row ax_wM0 (ax_XM 0) rx_P ax_APM0 rx_P (rx_DF, rx_FK) rxm_16 (axm_16, []) := fun hr => ⟨ax_tabB_ok axt_16, fun hL => ax_con_nil⟩
theorem axr0_17 (hP : ∀ q ∈ rx_P, rx_QW q ∧ rx_ST rx_P (rx_DF, rx_FK) q) : ax_Row ax_wM0 (ax_XM 0) rx_P ax_APM0 rx_P (rx_DF, rx_FK) rxm_17 (axm_17, []) := fun hr => ⟨ax_tabB_ok axt_17, fun hL => ax_con_nil⟩
theorem axr0_18 (hP : ∀ q ∈ rx_P, rx_QW q ∧ rx_ST rx_P (rx_DF, rx_FK) q) : ax_Row ax_wM0 (ax_XM 0) rx_P ax_APM0 rx_P (rx_DF, rx_FK) rxm_18 (axm_18, []) := fun hr => ⟨ax_tabB_ok axt_18, fun hL => ax_con_nil⟩
theorem axr0_19 (hP : ∀ q ∈ rx_P, rx_QW q ∧ rx_ST rx_P (rx_DF, rx_FK) q) : ax_Row ax_wM0 (ax_XM 0) rx_P ax_APM0 rx_P (rx_DF, rx_FK) rxm_19 (axm_19, []) := fun hr => ⟨ax_tabB_ok axt_19, fun hL => ax_con_nil⟩
theorem axr0_20 (hP : ∀ q ∈ rx_P, rx_QW q ∧ rx_ST rx_P (rx_DF, rx_FK) q) : ax_Row ax_wM0 (ax_XM 0) rx_P ax_APM0 rx_P (rx_DF, rx_FK) rxm_20 (axm_20, []) := fun hr => ⟨ax_tabB_ok axt_20, fun hL => ax_con_nil⟩
theorem axr0_21 (hP : ∀ q ∈ rx_P, rx_QW q ∧ rx_ST rx_P (rx_DF, rx_FK) q) : ax_Row ax_wM0 (ax_XM 0) rx_P ax_APM0 rx_P (rx_DF, rx_FK) rxm_21 (axm_21, []) := fun hr => ⟨ax_tabB_ok axt_21, fun hL => ax_con_nil⟩
theorem axr0_22 (hP : ∀ q ∈ rx_P, rx_QW q ∧ rx_ST rx_P (rx_DF, rx_FK) q) : ax_Row ax_wM0 (ax_XM 0) rx_P ax_APM0 rx_P (rx_DF, rx_FK) rxm_22 (axm_22, []) := fun hr => ⟨ax_tabB_ok axt_22, fun hL => ax_con_nil⟩
theorem axr0_23 (hP : ∀ q ∈ rx_P, rx_QW q ∧ rx_ST rx_P (rx_DF, rx_FK) q) : ax_Row ax_wM0 (ax_XM 0) rx_P ax_APM0 rx_P (rx_DF, rx_FK) rxm_23 (axm_23, []) := fun hr => ⟨ax_tabB_ok axt_23, fun hL => ax_con_nil⟩
theorem axr0_24 (hP : ∀ q ∈ rx_P, rx_QW q ∧ rx_ST rx_P (rx_DF, rx_FK) q) : ax_Row ax_wM0 (ax_XM 0) rx_P ax_APM0 rx_P (rx_DF, rx_FK) rxm_24 (axm_24, []) := fun hr => ⟨ax_tabB_ok axt_24, fun hL => ax_con_nil⟩
theorem axr0_25 (hP : ∀ q ∈ rx_P, rx_QW q ∧ rx_ST rx_P (rx_DF, rx_FK) q) : ax_Row ax_wM0 (ax_XM 0) rx_P ax_APM0 rx_P (rx_DF, rx_FK) rxm_25 (axm_25, []) := fun hr => ⟨ax_tabB_ok axt_25, fun hL => ax_con_nil⟩
theorem axr0_26 (hP : ∀ q ∈ rx_P, rx_QW q ∧ rx_ST rx_P (rx_DF, rx_FK) q) : ax_Row ax_wM0 (ax_XM 0) rx_P ax_APM0 rx_P (rx_DF, rx_FK) rxm_26 (axm_26, []) := fun hr => ⟨ax_tabB_ok axt_26, fun hL => ax_con_nil⟩
theorem axr0_27 (hP : ∀ q ∈ rx_P, rx_QW q ∧ rx_ST rx_P (rx_DF, rx_FK) q) : ax_Row ax_wM0 (ax_XM 0) rx_P ax_APM0 rx_P (rx_DF, rx_FK) rxm_27 (axm_27, []) := fun hr => ⟨ax_tabB_ok axt_27, fun hL => ax_con_nil⟩
theorem axr0_28 (hP : ∀ q ∈ rx_P, rx_QW q ∧ rx_ST rx_P (rx_DF, rx_FK) q) : ax_Row ax_wM0 (ax_XM 0) rx_P ax_APM0 rx_P (rx_DF, rx_FK) rxm_28 (axm_28, []) := fun hr => ⟨ax_tabB_ok axt_28, fun hL => ax_con_nil⟩
theorem axr0_29 (hP : ∀ q ∈ rx_P, rx_QW q ∧ rx_ST rx_P (rx_DF, rx_FK) q) : ax_Row ax_wM0 (ax_XM 0) rx_P ax_APM0 rx_P (rx_DF, rx_FK) rxm_29 (axm_29, []) := fun hr => ⟨ax_tabB_ok axt_29, fun hL => ax_con_nil⟩
theorem axr0_30 (hP : ∀ q ∈ rx_P, rx_QW q ∧ rx_ST rx_P (rx_DF, rx_FK) q) : ax_Row ax_wM0 (ax_XM 0) rx_P ax_APM0 rx_P (rx_DF, rx_FK) rxm_30 (axm_30, []) := fun hr => ⟨ax_tabB_ok axt_30, fun hL => ax_con_nil⟩
theorem axr0_31 (hP : ∀ q ∈ rx_P, rx_QW q ∧ rx_ST rx_P (rx_DF, rx_FK) q) : ax_Row ax_wM0 (ax_XM 0) rx_P ax_APM0 rx_P (rx_DF, rx_FK) rxm_31 (axm_31, []) := fun hr => ⟨ax_tabB_ok axt_31, fun hL => ax_con_nil⟩
theorem axr0_32 (hP : ∀ q ∈ rx_P, rx_QW q ∧ rx_ST rx_P (rx_DF, rx_FK) q) : ax_Row ax_wM0 (ax_XM 0) rx_P ax_APM0 rx_P (rx_DF, rx_FK) rxm_32 (axm_32, []) := fun hr => ⟨ax_tabB_ok axt_32, fun hL => ax_con_nil⟩
theorem axr0_33 (hP : ∀ q ∈ rx_P, rx_QW q ∧ rx_ST rx_P (rx_DF, rx_FK) q) : ax_Row ax_wM0 (ax_XM 0) rx_P ax_APM0 rx_P (rx_DF, rx_FK) rxm_33 (axm_33, []) := fun hr => ⟨ax_tabB_ok axt_33, fun hL => ax_con_nil⟩
theorem axr0_34 (hP : ∀ q ∈ rx_P, rx_QW q ∧ rx_ST rx_P (rx_DF, rx_FK) q) : ax_Row ax_wM0 (ax_XM 0) rx_P ax_APM0 rx_P (rx_DF, rx_FK) rxm_34 (axm_34, []) := fun hr => ⟨ax_tabB_ok axt_34, fun hL => ax_con_nil⟩
theorem axr0_35 (hP : ∀ q ∈ rx_P, rx_QW q ∧ rx_ST rx_P (rx_DF, rx_FK) q) : ax_Row ax_wM0 (ax_XM 0) rx_P ax_APM0 rx_P (rx_DF, rx_FK) rxm_35 (axm_35, []) := fun hr => ⟨ax_tabB_ok axt_35, fun hL => ax_con_nil⟩
theorem axr0_36 (hP : ∀ q ∈ rx_P, rx_QW q ∧ rx_ST rx_P (rx_DF, rx_FK) q) : ax_Row ax_wM0 (ax_XM 0) rx_P ax_APM0 rx_P (rx_DF, rx_FK) rxm_36 (axm_36, []) := fun hr => ⟨ax_tabB_ok axt_36, fun hL => ax_con_nil⟩
theorem axr0_37 (hP : ∀ q ∈ rx_P, rx_QW q ∧ rx_ST rx_P (rx_DF, rx_FK) q) : ax_Row ax_wM0 (ax_XM 0) rx_P ax_APM0 rx_P (rx_DF, rx_FK) rxm_37 (axm_37, []) := fun hr => ⟨ax_tabB_ok axt_37, fun hL => ax_con_nil⟩
theorem axr0_38 (hP : ∀ q ∈ rx_P, rx_QW q ∧ rx_ST rx_P (rx_DF, rx_FK) q) : ax_Row ax_wM0 (ax_XM 0) rx_P ax_APM0 rx_P (rx_DF, rx_FK) rxm_38 (axm_38, []) := fun hr => ⟨ax_tabB_ok axt_38, fun hL => ax_con_nil⟩
theorem axr0_39 (hP : ∀ q ∈ rx_P, rx_QW q ∧ rx_ST rx_P (rx_DF, rx_FK) q) : ax_Row ax_wM0 (ax_XM 0) rx_P ax_APM0 rx_P (rx_DF, rx_FK) rxm_39 (axm_39, []) := fun hr => ⟨ax_tabB_ok axt_39, fun hL => ax_con_nil⟩
theorem axr0_40 (hP : ∀ q ∈ rx_P, rx_QW q ∧ rx_ST rx_P (rx_DF, rx_FK) q) : ax_Row ax_wM0 (ax_XM 0) rx_P ax_APM0 rx_P (rx_DF, rx_FK) rxm_40 (axm_40, []) := fun hr => ⟨ax_tabB_ok axt_40, fun hL => ax_con_nil⟩
theorem axr0_41 (hP : ∀ q ∈ rx_P, rx_QW q ∧ rx_ST rx_P (rx_DF, rx_FK) q) : ax_Row ax_wM0 (ax_XM 0) rx_P ax_APM0 rx_P (rx_DF, rx_FK) rxm_41 (axm_41, axc0_41) := fun hr => ⟨ax_tabB_ok axt_41, fun hL => ax_con_nil⟩
theorem axr0_42 (hP : ∀ q ∈ rx_P, rx_QW q ∧ rx_ST rx_P (rx_DF, rx_FK) q) : ax_Row ax_wM0 (ax_XM 0) rx_P ax_APM0 rx_P (rx_DF, rx_FK) rxm_42 (axm_42, axc0_42) := fun hr => ⟨ax_tabB_ok axt_42, fun hL => ax_con_nil⟩
set_option maxRecDepth 4000 in
theorem axs0_43_0 : ∀ x ∈ ([axu0_sgbringBack] : List ax_RL), ax_RO ax_wM0 (ax_XM 0) x := ax_ro_cons axq0_sgbringBack (ax_ro_nil)
-- TurnNetModel.bringBack: 56 steps
set_option maxRecDepth 4000 in
theorem axk0_43_0 : ax_chk ax_wM0 rx_P (rx_DF, rx_FK) ax_APM0 (rx_n rxm_43) axm_43 (([702], (0, [], [], [], [])), [(44, 999)], [([2], (0, [], [], [], []))]) [axu0_sgbringBack] [2] 3000 1 (([((2, 1, 0, ([702, 3], (1, [(0, 2147483648, 2147483751)], [], [], []))), ())] : List ((Nat × Nat × Nat × ax_T) × ax_Tr 0)) : ax_Tr 1) = true := by decide +kernel
theorem axr0_43 (hP : ∀ q ∈ rx_P, rx_QW q ∧ rx_ST rx_P (rx_DF, rx_FK) q) : ax_Row ax_wM0 (ax_XM 0) rx_P ax_APM0 rx_P (rx_DF, rx_FK) rxm_43 (axm_43, axc0_43) := fun hr => ⟨ax_tabB_ok axt_43, fun hL => ax_con_cons (ax_chk_ok hP ax_XM0_ok hr hL (ax_tabB_ok axt_43) axs0_43_0 axk0_43_0) (ax_con_nil)⟩
-- TurnNetModel.cameBy: 42 steps
set_option maxRecDepth 4000 in
theorem axk0_44_0 : ax_chk ax_wM0 rx_P (rx_DF, rx_FK) ax_APM0 (rx_n rxm_44) axm_44 (([702, 3], (1, [(0, 2147483648, 2147483687)], [], [], [])), [], [([7], (2, [(0, 0, 4294967295), (0, 2147483648, 2147483687)], [], [], []))]) [] [4] 3000 1 (([((4, 1, 2, ([702, 3, 7, 11], (3, [(0, 2147483648, 2147483660), (0, 0, 4294967295), (0, 2147483648, 2147483687)], [], [], []))), ())] : List ((Nat × Nat × Nat × ax_T) × ax_Tr 0)) : ax_Tr 1) = true := by decide +kernel
theorem axr0_44 (hP : ∀ q ∈ rx_P, rx_QW q ∧ rx_ST rx_P (rx_DF, rx_FK) q) : ax_Row ax_wM0 (ax_XM 0) rx_P ax_APM0 rx_P (rx_DF, rx_FK) rxm_44 (axm_44, axc0_44) := fun hr => ⟨ax_tabB_ok axt_44, fun hL => ax_con_cons (ax_chk_ok hP ax_XM0_ok hr hL (ax_tabB_ok axt_44) ax_ro_nil axk0_44_0) (ax_con_nil)⟩
theorem axr0_45 (hP : ∀ q ∈ rx_P, rx_QW q ∧ rx_ST rx_P (rx_DF, rx_FK) q) : ax_Row ax_wM0 (ax_XM 0) rx_P ax_APM0 rx_P (rx_DF, rx_FK) rxm_45 (axm_45, axc0_45) := fun hr => ⟨ax_tabB_ok axt_45, fun hL => ax_con_nil⟩
theorem axr0_46 (hP : ∀ q ∈ rx_P, rx_QW q ∧ rx_ST rx_P (rx_DF, rx_FK) q) : ax_Row ax_wM0 (ax_XM 0) rx_P ax_APM0 rx_P (rx_DF, rx_FK) rxm_46 (axm_46, axc0_46) := fun hr => ⟨ax_tabB_ok axt_46, fun hL => ax_con_nil⟩
set_option maxRecDepth 4000 in
theorem axs0_47_1 : ∀ x ∈ ([axu0_me1] : List ax_RL), ax_RO ax_wM0 (ax_XM 0) x := ax_ro_cons axq0_me1 (ax_ro_nil)
-- TurnNetModel.end: 13 steps
set_option maxRecDepth 4000 in
theorem axk0_47_1 : ax_chk ax_wM0 rx_P (rx_DF, rx_FK) ax_APM0 (rx_n rxm_47) axm_47 (([702, 7], (3, [(0, 2147483648, 2147484448), (0, 2147483648, 4294967295), (1, 0, 0)], [(702, 44, 11)], [], [(0, [80]), (1, []), (2, []), (25, []), (26, []), (130, [3])])), [(11, 11)], [([17179869180], (3, [(0, 2147483648, 2147484448), (0, 2147483648, 4294967295), (1, 0, 0)], [(702, 44, 11)], [], [(0, [80]), (1, []), (2, []), (25, []), (26, []), (130, [3]), (1024, [7, 11])])), ([7], (4, [(1, 0, 0), (0, 2147483648, 2147484448), (0, 2147483648, 4294967295), (1, 0, 0)], [(702, 44, 7)], [], [(0, [80]), (1, []), (2, []), (25, []), (26, []), (130, [15]), (138, [3, 7, 15]), (1025, [7, 11])]))]) [axu0_me1] [] 3000 0 (() : ax_Tr 0) = true := by decide +kernel
-- TurnNetModel.end: 4 steps
set_option maxRecDepth 4000 in
theorem axk0_47_0 : ax_chk ax_wM0 rx_P (rx_DF, rx_FK) ax_APM0 (rx_n rxm_47) axm_47 (([702, 7], (3, [(0, 2147483648, 2147484448), (0, 0, 2147483647), (1, 0, 0)], [(702, 44, 11)], [], [(0, [80]), (1, []), (2, []), (25, []), (26, []), (130, [3])])), [], [([17179869180], (3, [(0, 2147483648, 2147484448), (0, 0, 2147483647), (1, 0, 0)], [(702, 44, 11)], [], [(0, [80]), (1, []), (2, []), (25, []), (26, []), (130, [3])]))]) [] [] 3000 0 (() : ax_Tr 0) = true := by decide +kernel
theorem axr0_47 (hP : ∀ q ∈ rx_P, rx_QW q ∧ rx_ST rx_P (rx_DF, rx_FK) q) : ax_Row ax_wM0 (ax_XM 0) rx_P ax_APM0 rx_P (rx_DF, rx_FK) rxm_47 (axm_47, axc0_47) := fun hr => ⟨ax_tabB_ok axt_47, fun hL => ax_con_cons (ax_chk_ok hP ax_XM0_ok hr hL (ax_tabB_ok axt_47) ax_ro_nil axk0_47_0) (ax_con_cons (ax_chk_ok hP ax_XM0_ok hr hL (ax_tabB_ok axt_47) axs0_47_1 axk0_47_1) (ax_con_nil))⟩
theorem axr0_48 (hP : ∀ q ∈ rx_P, rx_QW q ∧ rx_ST rx_P (rx_DF, rx_FK) q) : ax_Row ax_wM0 (ax_XM 0) rx_P ax_APM0 rx_P (rx_DF, rx_FK) rxm_48 (axm_48, axc0_48) := fun hr => ⟨ax_tabB_ok axt_48, fun hL => ax_con_nil⟩
-- TurnNetModel.fail: 4 steps
set_option maxRecDepth 4000 in
theorem axk0_49_11 : ax_chk ax_wM0 rx_P (rx_DF, rx_FK) ax_APM0 (rx_n rxm_49) axm_49 (([702, 16], (2, [(0, 2147483649, 2147483652), (1, 0, 0)], [(702, 72, 7)], [], [(163, [3]), (50, []), (52, [])])), [], [([2], (2, [(0, 2147483649, 2147483652), (1, 0, 0)], [(702, 72, 7)], [], [(163, [3]), (50, []), (52, [])]))]) [] [] 3000 0 (() : ax_Tr 0) = true := by decide +kernel
set_option maxRecDepth 4000 in
theorem axs0_49_10 : ∀ x ∈ ([axu0_fa0, axu0_fm1_4, axu0_fm2_4] : List ax_RL), ax_RO ax_wM0 (ax_XM 0) x := ax_ro_cons axq0_fa0 (ax_ro_cons axq0_fm1_4 (ax_ro_cons axq0_fm2_4 (ax_ro_nil)))
-- TurnNetModel.fail: 11 steps
set_option maxRecDepth 4000 in
theorem axk0_49_10 : ax_chk ax_wM0 rx_P (rx_DF, rx_FK) ax_APM0 (rx_n rxm_49) axm_49 (([702, 16], (3, [(0, 2147483648, 2147483648), (1, 0, 0), (1, 0, 0)], [(702, 72, 11)], [], [(151, [3, 7]), (164, [3, 7, 16]), (50, [])])), [(11, 18), (11, 19)], [([2], (4, [(0, 2147483649, 2147483652), (0, 2147483648, 2147483648), (1, 0, 0), (1, 0, 0)], [(702, 72, 15)], [], [(163, [3]), (50, [])]))]) [axu0_fa0, axu0_fm1_4, axu0_fm2_4] [] 3000 0 (() : ax_Tr 0) = true := by decide +kernel
set_option maxRecDepth 4000 in
theorem axs0_49_9 : ∀ x ∈ ([axu0_fa0, axu0_fa2, axu0_fm1_4, axu0_fm2_4] : List ax_RL), ax_RO ax_wM0 (ax_XM 0) x := ax_ro_cons axq0_fa0 (ax_ro_cons axq0_fa2 (ax_ro_cons axq0_fm1_4 (ax_ro_cons axq0_fm2_4 (ax_ro_nil))))
-- TurnNetModel.fail: 11 steps
set_option maxRecDepth 4000 in
theorem axk0_49_9 : ax_chk ax_wM0 rx_P (rx_DF, rx_FK) ax_APM0 (rx_n rxm_49) axm_49 (([702, 16], (3, [(0, 2147483648, 2147483648), (1, 0, 0), (1, 0, 0)], [(702, 72, 11)], [], [(151, [3, 7]), (164, [3, 7, 16]), (50, []), (52, [])])), [(11, 18), (11, 19)], [([2], (4, [(0, 2147483649, 2147483652), (0, 2147483648, 2147483648), (1, 0, 0), (1, 0, 0)], [(702, 72, 15)], [], [(163, [3]), (50, []), (52, [])]))]) [axu0_fa0, axu0_fa2, axu0_fm1_4, axu0_fm2_4] [] 3000 0 (() : ax_Tr 0) = true := by decide +kernel
-- TurnNetModel.fail: 4 steps
set_option maxRecDepth 4000 in
theorem axk0_49_8 : ax_chk ax_wM0 rx_P (rx_DF, rx_FK) ax_APM0 (rx_n rxm_49) axm_49 (([702, 12], (2, [(0, 2147483649, 2147483652), (1, 0, 0)], [(702, 72, 7)], [], [(163, [3]), (50, []), (52, [])])), [], [([2], (2, [(0, 2147483649, 2147483652), (1, 0, 0)], [(702, 72, 7)], [], [(163, [3]), (50, []), (52, [])]))]) [] [] 3000 0 (() : ax_Tr 0) = true := by decide +kernel
set_option maxRecDepth 4000 in
theorem axs0_49_7 : ∀ x ∈ ([axu0_fa0, axu0_fm1_3, axu0_fm2_3] : List ax_RL), ax_RO ax_wM0 (ax_XM 0) x := ax_ro_cons axq0_fa0 (ax_ro_cons axq0_fm1_3 (ax_ro_cons axq0_fm2_3 (ax_ro_nil)))
-- TurnNetModel.fail: 11 steps
set_option maxRecDepth 4000 in
theorem axk0_49_7 : ax_chk ax_wM0 rx_P (rx_DF, rx_FK) ax_APM0 (rx_n rxm_49) axm_49 (([702, 12], (3, [(0, 2147483648, 2147483648), (1, 0, 0), (1, 0, 0)], [(702, 72, 11)], [], [(151, [3, 7]), (164, [3, 7, 12]), (50, [])])), [(11, 18), (11, 19)], [([2], (4, [(0, 2147483649, 2147483652), (0, 2147483648, 2147483648), (1, 0, 0), (1, 0, 0)], [(702, 72, 15)], [], [(163, [3]), (50, [])]))]) [axu0_fa0, axu0_fm1_3, axu0_fm2_3] [] 3000 0 (() : ax_Tr 0) = true := by decide +kernel
set_option maxRecDepth 4000 in
theorem axs0_49_6 : ∀ x ∈ ([axu0_fa0, axu0_fa2, axu0_fm1_3, axu0_fm2_3] : List ax_RL), ax_RO ax_wM0 (ax_XM 0) x := ax_ro_cons axq0_fa0 (ax_ro_cons axq0_fa2 (ax_ro_cons axq0_fm1_3 (ax_ro_cons axq0_fm2_3 (ax_ro_nil))))
-- TurnNetModel.fail: 11 steps
set_option maxRecDepth 4000 in
theorem axk0_49_6 : ax_chk ax_wM0 rx_P (rx_DF, rx_FK) ax_APM0 (rx_n rxm_49) axm_49 (([702, 12], (3, [(0, 2147483648, 2147483648), (1, 0, 0), (1, 0, 0)], [(702, 72, 11)], [], [(151, [3, 7]), (164, [3, 7, 12]), (50, []), (52, [])])), [(11, 18), (11, 19)], [([2], (4, [(0, 2147483649, 2147483652), (0, 2147483648, 2147483648), (1, 0, 0), (1, 0, 0)], [(702, 72, 15)], [], [(163, [3]), (50, []), (52, [])]))]) [axu0_fa0, axu0_fa2, axu0_fm1_3, axu0_fm2_3] [] 3000 0 (() : ax_Tr 0) = true := by decide +kernel
-- TurnNetModel.fail: 4 steps
set_option maxRecDepth 4000 in
theorem axk0_49_5 : ax_chk ax_wM0 rx_P (rx_DF, rx_FK) ax_APM0 (rx_n rxm_49) axm_49 (([702, 8], (2, [(0, 2147483649, 2147483652), (1, 0, 0)], [(702, 72, 7)], [], [(163, [3]), (50, []), (52, [])])), [], [([2], (2, [(0, 2147483649, 2147483652), (1, 0, 0)], [(702, 72, 7)], [], [(163, [3]), (50, []), (52, [])]))]) [] [] 3000 0 (() : ax_Tr 0) = true := by decide +kernel
set_option maxRecDepth 4000 in
theorem axs0_49_4 : ∀ x ∈ ([axu0_fa0, axu0_fm1_2, axu0_fm2_2] : List ax_RL), ax_RO ax_wM0 (ax_XM 0) x := ax_ro_cons axq0_fa0 (ax_ro_cons axq0_fm1_2 (ax_ro_cons axq0_fm2_2 (ax_ro_nil)))
-- TurnNetModel.fail: 11 steps
set_option maxRecDepth 4000 in
theorem axk0_49_4 : ax_chk ax_wM0 rx_P (rx_DF, rx_FK) ax_APM0 (rx_n rxm_49) axm_49 (([702, 8], (3, [(0, 2147483648, 2147483648), (1, 0, 0), (1, 0, 0)], [(702, 72, 11)], [], [(151, [3, 7]), (164, [3, 7, 8]), (50, [])])), [(11, 18), (11, 19)], [([2], (4, [(0, 2147483649, 2147483652), (0, 2147483648, 2147483648), (1, 0, 0), (1, 0, 0)], [(702, 72, 15)], [], [(163, [3]), (50, [])]))]) [axu0_fa0, axu0_fm1_2, axu0_fm2_2] [] 3000 0 (() : ax_Tr 0) = true := by decide +kernel
set_option maxRecDepth 4000 in
theorem axs0_49_3 : ∀ x ∈ ([axu0_fa0, axu0_fa2, axu0_fm1_2, axu0_fm2_2] : List ax_RL), ax_RO ax_wM0 (ax_XM 0) x := ax_ro_cons axq0_fa0 (ax_ro_cons axq0_fa2 (ax_ro_cons axq0_fm1_2 (ax_ro_cons axq0_fm2_2 (ax_ro_nil))))
-- TurnNetModel.fail: 11 steps
set_option maxRecDepth 4000 in
theorem axk0_49_3 : ax_chk ax_wM0 rx_P (rx_DF, rx_FK) ax_APM0 (rx_n rxm_49) axm_49 (([702, 8], (3, [(0, 2147483648, 2147483648), (1, 0, 0), (1, 0, 0)], [(702, 72, 11)], [], [(151, [3, 7]), (164, [3, 7, 8]), (50, []), (52, [])])), [(11, 18), (11, 19)], [([2], (4, [(0, 2147483649, 2147483652), (0, 2147483648, 2147483648), (1, 0, 0), (1, 0, 0)], [(702, 72, 15)], [], [(163, [3]), (50, []), (52, [])]))]) [axu0_fa0, axu0_fa2, axu0_fm1_2, axu0_fm2_2] [] 3000 0 (() : ax_Tr 0) = true := by decide +kernel
-- TurnNetModel.fail: 4 steps
set_option maxRecDepth 4000 in
theorem axk0_49_2 : ax_chk ax_wM0 rx_P (rx_DF, rx_FK) ax_APM0 (rx_n rxm_49) axm_49 (([702, 4], (2, [(0, 2147483649, 2147483652), (1, 0, 0)], [(702, 72, 7)], [], [(163, [3]), (50, []), (52, [])])), [], [([2], (2, [(0, 2147483649, 2147483652), (1, 0, 0)], [(702, 72, 7)], [], [(163, [3]), (50, []), (52, [])]))]) [] [] 3000 0 (() : ax_Tr 0) = true := by decide +kernel
set_option maxRecDepth 4000 in
theorem axs0_49_1 : ∀ x ∈ ([axu0_fa0, axu0_fm1_1, axu0_fm2_1] : List ax_RL), ax_RO ax_wM0 (ax_XM 0) x := ax_ro_cons axq0_fa0 (ax_ro_cons axq0_fm1_1 (ax_ro_cons axq0_fm2_1 (ax_ro_nil)))
-- TurnNetModel.fail: 11 steps
set_option maxRecDepth 4000 in
theorem axk0_49_1 : ax_chk ax_wM0 rx_P (rx_DF, rx_FK) ax_APM0 (rx_n rxm_49) axm_49 (([702, 4], (3, [(0, 2147483648, 2147483648), (1, 0, 0), (1, 0, 0)], [(702, 72, 11)], [], [(151, [3, 7]), (164, [3, 7, 4]), (50, [])])), [(11, 18), (11, 19)], [([2], (4, [(0, 2147483649, 2147483652), (0, 2147483648, 2147483648), (1, 0, 0), (1, 0, 0)], [(702, 72, 15)], [], [(163, [3]), (50, [])]))]) [axu0_fa0, axu0_fm1_1, axu0_fm2_1] [] 3000 0 (() : ax_Tr 0) = true := by decide +kernel
set_option maxRecDepth 4000 in
theorem axs0_49_0 : ∀ x ∈ ([axu0_fa0, axu0_fa2, axu0_fm1_1, axu0_fm2_1] : List ax_RL), ax_RO ax_wM0 (ax_XM 0) x := ax_ro_cons axq0_fa0 (ax_ro_cons axq0_fa2 (ax_ro_cons axq0_fm1_1 (ax_ro_cons axq0_fm2_1 (ax_ro_nil))))
-- TurnNetModel.fail: 11 steps
set_option maxRecDepth 4000 in
theorem axk0_49_0 : ax_chk ax_wM0 rx_P (rx_DF, rx_FK) ax_APM0 (rx_n rxm_49) axm_49 (([702, 4], (3, [(0, 2147483648, 2147483648), (1, 0, 0), (1, 0, 0)], [(702, 72, 11)], [], [(151, [3, 7]), (164, [3, 7, 4]), (50, []), (52, [])])), [(11, 18), (11, 19)], [([2], (4, [(0, 2147483649, 2147483652), (0, 2147483648, 2147483648), (1, 0, 0), (1, 0, 0)], [(702, 72, 15)], [], [(163, [3]), (50, []), (52, [])]))]) [axu0_fa0, axu0_fa2, axu0_fm1_1, axu0_fm2_1] [] 3000 0 (() : ax_Tr 0) = true := by decide +kernel
theorem axr0_49 (hP : ∀ q ∈ rx_P, rx_QW q ∧ rx_ST rx_P (rx_DF, rx_FK) q) : ax_Row ax_wM0 (ax_XM 0) rx_P ax_APM0 rx_P (rx_DF, rx_FK) rxm_49 (axm_49, axc0_49) := fun hr => ⟨ax_tabB_ok axt_49, fun hL => ax_con_cons (ax_chk_ok hP ax_XM0_ok hr hL (ax_tabB_ok axt_49) axs0_49_0 axk0_49_0) (ax_con_cons (ax_chk_ok hP ax_XM0_ok hr hL (ax_tabB_ok axt_49) axs0_49_1 axk0_49_1) (ax_con_cons (ax_chk_ok hP ax_XM0_ok hr hL (ax_tabB_ok axt_49) ax_ro_nil axk0_49_2) (ax_con_cons (ax_chk_ok hP ax_XM0_ok hr hL (ax_tabB_ok axt_49) axs0_49_3 axk0_49_3) (ax_con_cons (ax_chk_ok hP ax_XM0_ok hr hL (ax_tabB_ok axt_49) axs0_49_4 axk0_49_4) (ax_con_cons (ax_chk_ok hP ax_XM0_ok hr hL (ax_tabB_ok axt_49) ax_ro_nil axk0_49_5) (ax_con_cons (ax_chk_ok hP ax_XM0_ok hr hL (ax_tabB_ok axt_49) axs0_49_6 axk0_49_6) (ax_con_cons (ax_chk_ok hP ax_XM0_ok hr hL (ax_tabB_ok axt_49) axs0_49_7 axk0_49_7) (ax_con_cons (ax_chk_ok hP ax_XM0_ok hr hL (ax_tabB_ok axt_49) ax_ro_nil axk0_49_8) (ax_con_cons (ax_chk_ok hP ax_XM0_ok hr hL (ax_tabB_ok axt_49) axs0_49_9 axk0_49_9) (ax_con_cons (ax_chk_ok hP ax_XM0_ok hr hL (ax_tabB_ok axt_49) axs0_49_10 axk0_49_10) (ax_con_cons (ax_chk_ok hP ax_XM0_ok hr hL (ax_tabB_ok axt_49) ax_ro_nil axk0_49_11) (ax_con_nil))))))))))))⟩
-- TurnNetModel.fault: 7 steps
set_option maxRecDepth 4000 in
theorem axk0_50_4 : ax_chk ax_wM0 rx_P (rx_DF, rx_FK) ax_APM0 (rx_n rxm_50) axm_50 (([702, 3], (1, [(0, 2147483650, 4294967295)], [], [], [(0, [80]), (1, []), (2, []), (25, []), (26, [])])), [], [([17179869180], (1, [(0, 2147483650, 4294967295)], [], [], [(0, [80]), (1, []), (2, []), (25, []), (26, [])]))]) [] [] 3000 0 (() : ax_Tr 0) = true := by decide +kernel
-- TurnNetModel.fault: 7 steps
set_option maxRecDepth 4000 in
theorem axk0_50_3 : ax_chk ax_wM0 rx_P (rx_DF, rx_FK) ax_APM0 (rx_n rxm_50) axm_50 (([702, 3], (1, [(0, 0, 2147483647)], [], [], [(0, [80]), (1, []), (2, []), (25, []), (26, [])])), [], [([17179869180], (1, [(0, 0, 2147483647)], [], [], [(0, [80]), (1, []), (2, []), (25, []), (26, [])]))]) [] [] 3000 0 (() : ax_Tr 0) = true := by decide +kernel
-- TurnNetModel.fault: 9 steps
set_option maxRecDepth 4000 in
theorem axk0_50_2 : ax_chk ax_wM0 rx_P (rx_DF, rx_FK) ax_APM0 (rx_n rxm_50) axm_50 (([702, 4], (1, [(0, 0, 4294967295)], [(702, 84, 3)], [], [(0, [80]), (1, []), (2, []), (25, []), (26, [])])), [], [([3], (1, [(0, 0, 4294967295)], [(702, 84, 3)], [], [(0, [80]), (1, []), (2, []), (25, []), (26, [])]))]) [] [] 3000 0 (() : ax_Tr 0) = true := by decide +kernel
-- TurnNetModel.fault: 6 steps
set_option maxRecDepth 4000 in
theorem axk0_50_1 : ax_chk ax_wM0 rx_P (rx_DF, rx_FK) ax_APM0 (rx_n rxm_50) axm_50 (([702, 0], (1, [(0, 0, 4294967295)], [(702, 80, 3)], [], [(0, [80]), (1, []), (2, []), (25, []), (26, [])])), [], [([3], (1, [(0, 0, 4294967295)], [(702, 80, 3)], [], [(0, [80]), (1, []), (2, []), (25, []), (26, [])]))]) [] [] 3000 0 (() : ax_Tr 0) = true := by decide +kernel
-- TurnNetModel.fault: 20 steps
set_option maxRecDepth 4000 in
theorem axk0_50_0 : ax_chk ax_wM0 rx_P (rx_DF, rx_FK) ax_APM0 (rx_n rxm_50) axm_50 (([702, 3], (1, [(0, 0, 4294967295)], [], [], [(0, [80]), (1, []), (2, []), (25, []), (26, [])])), [], [([7], (2, [(0, 0, 4294967295), (0, 0, 4294967295)], [], [], [(0, [80]), (1, []), (2, []), (25, []), (26, [])]))]) [] [] 3000 0 (() : ax_Tr 0) = true := by decide +kernel
theorem axr0_50 (hP : ∀ q ∈ rx_P, rx_QW q ∧ rx_ST rx_P (rx_DF, rx_FK) q) : ax_Row ax_wM0 (ax_XM 0) rx_P ax_APM0 rx_P (rx_DF, rx_FK) rxm_50 (axm_50, axc0_50) := fun hr => ⟨ax_tabB_ok axt_50, fun hL => ax_con_cons (ax_chk_ok hP ax_XM0_ok hr hL (ax_tabB_ok axt_50) ax_ro_nil axk0_50_0) (ax_con_cons (ax_chk_ok hP ax_XM0_ok hr hL (ax_tabB_ok axt_50) ax_ro_nil axk0_50_1) (ax_con_cons (ax_chk_ok hP ax_XM0_ok hr hL (ax_tabB_ok axt_50) ax_ro_nil axk0_50_2) (ax_con_cons (ax_chk_ok hP ax_XM0_ok hr hL (ax_tabB_ok axt_50) ax_ro_nil axk0_50_3) (ax_con_cons (ax_chk_ok hP ax_XM0_ok hr hL (ax_tabB_ok axt_50) ax_ro_nil axk0_50_4) (ax_con_nil)))))⟩
set_option maxRecDepth 4000 in
theorem axs0_51_1 : ∀ x ∈ ([axu0_mf1, axu0_mf2_0, axu0_mf2_1, axu0_mf2_2, axu0_mf2_3, axu0_mf2_4, axu0_mf3, axu0_mf4] : List ax_RL), ax_RO ax_wM0 (ax_XM 0) x := ax_ro_cons axq0_mf1 (ax_ro_cons axq0_mf2_0 (ax_ro_cons axq0_mf2_1 (ax_ro_cons axq0_mf2_2 (ax_ro_cons axq0_mf2_3 (ax_ro_cons axq0_mf2_4 (ax_ro_cons axq0_mf3 (ax_ro_cons axq0_mf4 (ax_ro_nil))))))))
-- TurnNetModel.feed: 141 steps
set_option maxRecDepth 4000 in
theorem axk0_51_1 : ax_chk ax_wM0 rx_P (rx_DF, rx_FK) ax_APM0 (rx_n rxm_51) axm_51 (([702, 7, 11, 15, 19, 23], (7, [(0, 2147483648, 2147484428), (0, 0, 4294967295), (0, 0, 4294967295), (0, 0, 4294967295), (0, 0, 4294967295), (0, 0, 4294967295), (1, 0, 0)], [(702, 44, 27)], [], [(0, [80]), (1, []), (2, []), (25, []), (26, []), (130, [3])])), [(11, 11), (53, 999)], [([35], (9, [(0, 2147483648, 2147484448), (1, 0, 0), (0, 2147483648, 2147484428), (0, 0, 4294967295), (0, 0, 4294967295), (0, 0, 4294967295), (0, 0, 4294967295), (0, 0, 4294967295), (1, 0, 0)], [(702, 44, 35)], [], [(0, [80]), (1, []), (2, []), (25, []), (26, []), (130, [31]), (137, [3, 7, 11, 15, 19, 23, 31])]))]) [axu0_mf1, axu0_mf2_0, axu0_mf2_1, axu0_mf2_2, axu0_mf2_3, axu0_mf2_4, axu0_mf3, axu0_mf4] [18] 3000 1 (([((18, 1, 7, ([702, 7, 11, 15, 19, 23, 31, 2], (9, [(1, 0, 0), (0, 2147483648, 2147483668), (0, 2147483648, 2147484428), (0, 0, 4294967295), (0, 0, 4294967295), (0, 0, 4294967295), (0, 0, 4294967295), (0, 0, 4294967295), (1, 0, 0)], [(702, 44, 27)], [], [(134, [3, 7, 11, 15, 19, 23, 31, 35]), (135, [35]), (139, [3, 27]), (0, [80]), (1, []), (2, []), (25, []), (26, [])]))), ())] : List ((Nat × Nat × Nat × ax_T) × ax_Tr 0)) : ax_Tr 1) = true := by decide +kernel
-- TurnNetModel.feed: 8 steps
set_option maxRecDepth 4000 in
theorem axk0_51_0 : ax_chk ax_wM0 rx_P (rx_DF, rx_FK) ax_APM0 (rx_n rxm_51) axm_51 (([702, 7, 11, 15, 19, 23], (7, [(0, 2147484429, 2147484448), (0, 0, 4294967295), (0, 0, 4294967295), (0, 0, 4294967295), (0, 0, 4294967295), (0, 0, 4294967295), (1, 0, 0)], [(702, 44, 27)], [], [(0, [80]), (1, []), (2, []), (25, []), (26, []), (130, [3])])), [], [([17179869180], (7, [(0, 2147484429, 2147484448), (0, 0, 4294967295), (0, 0, 4294967295), (0, 0, 4294967295), (0, 0, 4294967295), (0, 0, 4294967295), (1, 0, 0)], [(702, 44, 27)], [], [(0, [80]), (1, []), (2, []), (25, []), (26, []), (130, [3])]))]) [] [18] 3000 0 (() : ax_Tr 0) = true := by decide +kernel
theorem axr0_51 (hP : ∀ q ∈ rx_P, rx_QW q ∧ rx_ST rx_P (rx_DF, rx_FK) q) : ax_Row ax_wM0 (ax_XM 0) rx_P ax_APM0 rx_P (rx_DF, rx_FK) rxm_51 (axm_51, axc0_51) := fun hr => ⟨ax_tabB_ok axt_51, fun hL => ax_con_cons (ax_chk_ok hP ax_XM0_ok hr hL (ax_tabB_ok axt_51) ax_ro_nil axk0_51_0) (ax_con_cons (ax_chk_ok hP ax_XM0_ok hr hL (ax_tabB_ok axt_51) axs0_51_1 axk0_51_1) (ax_con_nil))⟩
set_option maxRecDepth 4000 in
theorem axs0_52_1 : ∀ x ∈ ([axu0_fp0, axu0_fpN, axu0_fpF] : List ax_RL), ax_RO ax_wM0 (ax_XM 0) x := ax_ro_cons axq0_fp0 (ax_ro_cons axq0_fpN (ax_ro_cons axq0_fpF (ax_ro_nil)))
-- TurnNetModel.freePacket: 18 steps
set_option maxRecDepth 4000 in
theorem axk0_52_1 : ax_chk ax_wM0 rx_P (rx_DF, rx_FK) ax_APM0 (rx_n rxm_52) axm_52 (([702], (0, [], [], [], [])), [], [([17179869180], (0, [], [], [], [])), ([3], (1, [(0, 2147483648, 2147483659)], [], [], [(3, [])]))]) [axu0_fp0, axu0_fpN, axu0_fpF] [2] 3000 1 (([((2, 1, 0, ([702, 3], (1, [(0, 2147483648, 2147483660)], [], [], [(4, [3])]))), ())] : List ((Nat × Nat × Nat × ax_T) × ax_Tr 0)) : ax_Tr 1) = true := by decide +kernel
set_option maxRecDepth 4000 in
theorem axs0_52_0 : ∀ x ∈ ([axu0_fp0, axu0_fpN, axu0_fpF, axu0_fpX] : List ax_RL), ax_RO ax_wM0 (ax_XM 0) x := ax_ro_cons axq0_fp0 (ax_ro_cons axq0_fpN (ax_ro_cons axq0_fpF (ax_ro_cons axq0_fpX (ax_ro_nil))))
-- TurnNetModel.freePacket: 17 steps
set_option maxRecDepth 4000 in
theorem axk0_52_0 : ax_chk ax_wM0 rx_P (rx_DF, rx_FK) ax_APM0 (rx_n rxm_52) axm_52 (([702], (0, [], [], [], [(3, [])])), [], [([3], (1, [(0, 2147483648, 2147483659)], [], [], [(3, [])]))]) [axu0_fp0, axu0_fpN, axu0_fpF, axu0_fpX] [2] 3000 1 (([((2, 1, 0, ([702, 3], (1, [(0, 2147483648, 2147483660)], [], [], [(4, [3]), (3, [])]))), ())] : List ((Nat × Nat × Nat × ax_T) × ax_Tr 0)) : ax_Tr 1) = true := by decide +kernel
theorem axr0_52 (hP : ∀ q ∈ rx_P, rx_QW q ∧ rx_ST rx_P (rx_DF, rx_FK) q) : ax_Row ax_wM0 (ax_XM 0) rx_P ax_APM0 rx_P (rx_DF, rx_FK) rxm_52 (axm_52, axc0_52) := fun hr => ⟨ax_tabB_ok axt_52, fun hL => ax_con_cons (ax_chk_ok hP ax_XM0_ok hr hL (ax_tabB_ok axt_52) axs0_52_0 axk0_52_0) (ax_con_cons (ax_chk_ok hP ax_XM0_ok hr hL (ax_tabB_ok axt_52) axs0_52_1 axk0_52_1) (ax_con_nil))⟩
theorem axr0_53 (hP : ∀ q ∈ rx_P, rx_QW q ∧ rx_ST rx_P (rx_DF, rx_FK) q) : ax_Row ax_wM0 (ax_XM 0) rx_P ax_APM0 rx_P (rx_DF, rx_FK) rxm_53 (axm_53, axc0_53) := fun hr => ⟨ax_tabB_ok axt_53, fun hL => ax_con_nil⟩
theorem axr0_54 (hP : ∀ q ∈ rx_P, rx_QW q ∧ rx_ST rx_P (rx_DF, rx_FK) q) : ax_Row ax_wM0 (ax_XM 0) rx_P ax_APM0 rx_P (rx_DF, rx_FK) rxm_54 (axm_54, axc0_54) := fun hr => ⟨ax_tabB_ok axt_54, fun hL => ax_con_nil⟩
theorem axr0_55 (hP : ∀ q ∈ rx_P, rx_QW q ∧ rx_ST rx_P (rx_DF, rx_FK) q) : ax_Row ax_wM0 (ax_XM 0) rx_P ax_APM0 rx_P (rx_DF, rx_FK) rxm_55 (axm_55, axc0_55) := fun hr => ⟨ax_tabB_ok axt_55, fun hL => ax_con_nil⟩
theorem axr0_56 (hP : ∀ q ∈ rx_P, rx_QW q ∧ rx_ST rx_P (rx_DF, rx_FK) q) : ax_Row ax_wM0 (ax_XM 0) rx_P ax_APM0 rx_P (rx_DF, rx_FK) rxm_56 (axm_56, axc0_56) := fun hr => ⟨ax_tabB_ok axt_56, fun hL => ax_con_nil⟩
theorem axr0_57 (hP : ∀ q ∈ rx_P, rx_QW q ∧ rx_ST rx_P (rx_DF, rx_FK) q) : ax_Row ax_wM0 (ax_XM 0) rx_P ax_APM0 rx_P (rx_DF, rx_FK) rxm_57 (axm_57, axc0_57) := fun hr => ⟨ax_tabB_ok axt_57, fun hL => ax_con_nil⟩
set_option maxRecDepth 4000 in
theorem axs0_58_7 : ∀ x ∈ ([axu0_is1a_7, axu0_is1b_7, axu0_is2_7, axu0_is3_7_0, axu0_is4a_7_0, axu0_is4b_7_0, axu0_is3_7_1, axu0_is4a_7_1, axu0_is4b_7_1, axu0_is3_7_2, axu0_is4a_7_2, axu0_is4b_7_2, axu0_is3_7_3, axu0_is4a_7_3, axu0_is4b_7_3, axu0_is3_7_4, axu0_is4a_7_4, axu0_is4b_7_4, axu0_is5_7] : List ax_RL), ax_RO ax_wM0 (ax_XM 0) x := ax_ro_cons axq0_is1a_7 (ax_ro_cons axq0_is1b_7 (ax_ro_cons axq0_is2_7 (ax_ro_cons axq0_is3_7_0 (ax_ro_cons axq0_is4a_7_0 (ax_ro_cons axq0_is4b_7_0 (ax_ro_cons axq0_is3_7_1 (ax_ro_cons axq0_is4a_7_1 (ax_ro_cons axq0_is4b_7_1 (ax_ro_cons axq0_is3_7_2 (ax_ro_cons axq0_is4a_7_2 (ax_ro_cons axq0_is4b_7_2 (ax_ro_cons axq0_is3_7_3 (ax_ro_cons axq0_is4a_7_3 (ax_ro_cons axq0_is4b_7_3 (ax_ro_cons axq0_is3_7_4 (ax_ro_cons axq0_is4a_7_4 (ax_ro_cons axq0_is4b_7_4 (ax_ro_cons axq0_is5_7 (ax_ro_nil)))))))))))))))))))
-- TurnNetModel.isSame: 147 steps
set_option maxRecDepth 4000 in
theorem axk0_58_7 : ax_chk ax_wM0 rx_P (rx_DF, rx_FK) ax_APM0 (rx_n rxm_58) axm_58 (([702, 160, 180], (3, [(0, 2147483648, 2147484448), (1, 0, 0), (1, 0, 0)], [(702, 52, 11)], [], [(131, [3]), (154, [3, 7]), (156, [3, 7]), (168, [3, 7, 4])])), [], [([0], (3, [(0, 2147483648, 2147484448), (1, 0, 0), (1, 0, 0)], [], [], [(161, [3, 7, 28])])), ([4], (3, [(0, 2147483648, 2147484448), (1, 0, 0), (1, 0, 0)], [], [], [(160, [3, 7, 28])]))]) [axu0_is1a_7, axu0_is1b_7, axu0_is2_7, axu0_is3_7_0, axu0_is4a_7_0, axu0_is4b_7_0, axu0_is3_7_1, axu0_is4a_7_1, axu0_is4b_7_1, axu0_is3_7_2, axu0_is4a_7_2, axu0_is4b_7_2, axu0_is3_7_3, axu0_is4a_7_3, axu0_is4b_7_3, axu0_is3_7_4, axu0_is4a_7_4, axu0_is4b_7_4, axu0_is5_7] [] 3000 0 (() : ax_Tr 0) = true := by decide +kernel
set_option maxRecDepth 4000 in
theorem axs0_58_6 : ∀ x ∈ ([axu0_is1a_6, axu0_is1b_6, axu0_is2_6, axu0_is3_6_0, axu0_is4a_6_0, axu0_is4b_6_0, axu0_is3_6_1, axu0_is4a_6_1, axu0_is4b_6_1, axu0_is3_6_2, axu0_is4a_6_2, axu0_is4b_6_2, axu0_is3_6_3, axu0_is4a_6_3, axu0_is4b_6_3, axu0_is3_6_4, axu0_is4a_6_4, axu0_is4b_6_4, axu0_is3_6_5, axu0_is4a_6_5, axu0_is4b_6_5, axu0_is5_6] : List ax_RL), ax_RO ax_wM0 (ax_XM 0) x := ax_ro_cons axq0_is1a_6 (ax_ro_cons axq0_is1b_6 (ax_ro_cons axq0_is2_6 (ax_ro_cons axq0_is3_6_0 (ax_ro_cons axq0_is4a_6_0 (ax_ro_cons axq0_is4b_6_0 (ax_ro_cons axq0_is3_6_1 (ax_ro_cons axq0_is4a_6_1 (ax_ro_cons axq0_is4b_6_1 (ax_ro_cons axq0_is3_6_2 (ax_ro_cons axq0_is4a_6_2 (ax_ro_cons axq0_is4b_6_2 (ax_ro_cons axq0_is3_6_3 (ax_ro_cons axq0_is4a_6_3 (ax_ro_cons axq0_is4b_6_3 (ax_ro_cons axq0_is3_6_4 (ax_ro_cons axq0_is4a_6_4 (ax_ro_cons axq0_is4b_6_4 (ax_ro_cons axq0_is3_6_5 (ax_ro_cons axq0_is4a_6_5 (ax_ro_cons axq0_is4b_6_5 (ax_ro_cons axq0_is5_6 (ax_ro_nil))))))))))))))))))))))
-- TurnNetModel.isSame: 172 steps
set_option maxRecDepth 4000 in
theorem axk0_58_6 : ax_chk ax_wM0 rx_P (rx_DF, rx_FK) ax_APM0 (rx_n rxm_58) axm_58 (([702, 132, 156], (3, [(0, 2147483648, 2147484448), (1, 0, 0), (1, 0, 0)], [(702, 52, 11)], [], [(131, [3]), (154, [3, 7]), (156, [3, 7]), (168, [3, 7, 4])])), [], [([0], (3, [(0, 2147483648, 2147484448), (1, 0, 0), (1, 0, 0)], [], [], [(161, [3, 7, 24])])), ([4], (3, [(0, 2147483648, 2147484448), (1, 0, 0), (1, 0, 0)], [], [], [(160, [3, 7, 24])]))]) [axu0_is1a_6, axu0_is1b_6, axu0_is2_6, axu0_is3_6_0, axu0_is4a_6_0, axu0_is4b_6_0, axu0_is3_6_1, axu0_is4a_6_1, axu0_is4b_6_1, axu0_is3_6_2, axu0_is4a_6_2, axu0_is4b_6_2, axu0_is3_6_3, axu0_is4a_6_3, axu0_is4b_6_3, axu0_is3_6_4, axu0_is4a_6_4, axu0_is4b_6_4, axu0_is3_6_5, axu0_is4a_6_5, axu0_is4b_6_5, axu0_is5_6] [] 3000 0 (() : ax_Tr 0) = true := by decide +kernel
set_option maxRecDepth 4000 in
theorem axs0_58_5 : ∀ x ∈ ([axu0_is1a_5, axu0_is1b_5, axu0_is2_5, axu0_is3_5_0, axu0_is4a_5_0, axu0_is4b_5_0, axu0_is3_5_1, axu0_is4a_5_1, axu0_is4b_5_1, axu0_is3_5_2, axu0_is4a_5_2, axu0_is4b_5_2, axu0_is5_5] : List ax_RL), ax_RO ax_wM0 (ax_XM 0) x := ax_ro_cons axq0_is1a_5 (ax_ro_cons axq0_is1b_5 (ax_ro_cons axq0_is2_5 (ax_ro_cons axq0_is3_5_0 (ax_ro_cons axq0_is4a_5_0 (ax_ro_cons axq0_is4b_5_0 (ax_ro_cons axq0_is3_5_1 (ax_ro_cons axq0_is4a_5_1 (ax_ro_cons axq0_is4b_5_1 (ax_ro_cons axq0_is3_5_2 (ax_ro_cons axq0_is4a_5_2 (ax_ro_cons axq0_is4b_5_2 (ax_ro_cons axq0_is5_5 (ax_ro_nil)))))))))))))
-- TurnNetModel.isSame: 97 steps
set_option maxRecDepth 4000 in
theorem axk0_58_5 : ax_chk ax_wM0 rx_P (rx_DF, rx_FK) ax_APM0 (rx_n rxm_58) axm_58 (([702, 116, 128], (3, [(0, 2147483648, 2147484448), (1, 0, 0), (1, 0, 0)], [(702, 52, 11)], [], [(131, [3]), (154, [3, 7]), (156, [3, 7]), (168, [3, 7, 4])])), [], [([0], (3, [(0, 2147483648, 2147484448), (1, 0, 0), (1, 0, 0)], [], [], [(161, [3, 7, 20])])), ([4], (3, [(0, 2147483648, 2147484448), (1, 0, 0), (1, 0, 0)], [], [], [(160, [3, 7, 20])]))]) [axu0_is1a_5, axu0_is1b_5, axu0_is2_5, axu0_is3_5_0, axu0_is4a_5_0, axu0_is4b_5_0, axu0_is3_5_1, axu0_is4a_5_1, axu0_is4b_5_1, axu0_is3_5_2, axu0_is4a_5_2, axu0_is4b_5_2, axu0_is5_5] [] 3000 0 (() : ax_Tr 0) = true := by decide +kernel
set_option maxRecDepth 4000 in
theorem axs0_58_4 : ∀ x ∈ ([axu0_is1a_4, axu0_is1b_4, axu0_is2_4, axu0_is3_4_0, axu0_is4a_4_0, axu0_is4b_4_0, axu0_is3_4_1, axu0_is4a_4_1, axu0_is4b_4_1, axu0_is3_4_2, axu0_is4a_4_2, axu0_is4b_4_2, axu0_is3_4_3, axu0_is4a_4_3, axu0_is4b_4_3, axu0_is5_4] : List ax_RL), ax_RO ax_wM0 (ax_XM 0) x := ax_ro_cons axq0_is1a_4 (ax_ro_cons axq0_is1b_4 (ax_ro_cons axq0_is2_4 (ax_ro_cons axq0_is3_4_0 (ax_ro_cons axq0_is4a_4_0 (ax_ro_cons axq0_is4b_4_0 (ax_ro_cons axq0_is3_4_1 (ax_ro_cons axq0_is4a_4_1 (ax_ro_cons axq0_is4b_4_1 (ax_ro_cons axq0_is3_4_2 (ax_ro_cons axq0_is4a_4_2 (ax_ro_cons axq0_is4b_4_2 (ax_ro_cons axq0_is3_4_3 (ax_ro_cons axq0_is4a_4_3 (ax_ro_cons axq0_is4b_4_3 (ax_ro_cons axq0_is5_4 (ax_ro_nil))))))))))))))))
-- TurnNetModel.isSame: 122 steps
set_option maxRecDepth 4000 in
theorem axk0_58_4 : ax_chk ax_wM0 rx_P (rx_DF, rx_FK) ax_APM0 (rx_n rxm_58) axm_58 (([702, 96, 112], (3, [(0, 2147483648, 2147484448), (1, 0, 0), (1, 0, 0)], [(702, 52, 11)], [], [(131, [3]), (154, [3, 7]), (156, [3, 7]), (168, [3, 7, 4])])), [], [([0], (3, [(0, 2147483648, 2147484448), (1, 0, 0), (1, 0, 0)], [], [], [(161, [3, 7, 12])])), ([4], (3, [(0, 2147483648, 2147484448), (1, 0, 0), (1, 0, 0)], [], [], [(160, [3, 7, 12])]))]) [axu0_is1a_4, axu0_is1b_4, axu0_is2_4, axu0_is3_4_0, axu0_is4a_4_0, axu0_is4b_4_0, axu0_is3_4_1, axu0_is4a_4_1, axu0_is4b_4_1, axu0_is3_4_2, axu0_is4a_4_2, axu0_is4b_4_2, axu0_is3_4_3, axu0_is4a_4_3, axu0_is4b_4_3, axu0_is5_4] [] 3000 0 (() : ax_Tr 0) = true := by decide +kernel
set_option maxRecDepth 4000 in
theorem axs0_58_3 : ∀ x ∈ ([axu0_is1a_3, axu0_is1b_3, axu0_is2_3, axu0_is3_3_0, axu0_is4a_3_0, axu0_is4b_3_0, axu0_is3_3_1, axu0_is4a_3_1, axu0_is4b_3_1, axu0_is3_3_2, axu0_is4a_3_2, axu0_is4b_3_2, axu0_is3_3_3, axu0_is4a_3_3, axu0_is4b_3_3, axu0_is5_3] : List ax_RL), ax_RO ax_wM0 (ax_XM 0) x := ax_ro_cons axq0_is1a_3 (ax_ro_cons axq0_is1b_3 (ax_ro_cons axq0_is2_3 (ax_ro_cons axq0_is3_3_0 (ax_ro_cons axq0_is4a_3_0 (ax_ro_cons axq0_is4b_3_0 (ax_ro_cons axq0_is3_3_1 (ax_ro_cons axq0_is4a_3_1 (ax_ro_cons axq0_is4b_3_1 (ax_ro_cons axq0_is3_3_2 (ax_ro_cons axq0_is4a_3_2 (ax_ro_cons axq0_is4b_3_2 (ax_ro_cons axq0_is3_3_3 (ax_ro_cons axq0_is4a_3_3 (ax_ro_cons axq0_is4b_3_3 (ax_ro_cons axq0_is5_3 (ax_ro_nil))))))))))))))))
-- TurnNetModel.isSame: 122 steps
set_option maxRecDepth 4000 in
theorem axk0_58_3 : ax_chk ax_wM0 rx_P (rx_DF, rx_FK) ax_APM0 (rx_n rxm_58) axm_58 (([702, 76, 92], (3, [(0, 2147483648, 2147484448), (1, 0, 0), (1, 0, 0)], [(702, 52, 11)], [], [(131, [3]), (154, [3, 7]), (156, [3, 7]), (168, [3, 7, 4])])), [], [([0], (3, [(0, 2147483648, 2147484448), (1, 0, 0), (1, 0, 0)], [], [], [(161, [3, 7, 16])])), ([4], (3, [(0, 2147483648, 2147484448), (1, 0, 0), (1, 0, 0)], [], [], [(160, [3, 7, 16])]))]) [axu0_is1a_3, axu0_is1b_3, axu0_is2_3, axu0_is3_3_0, axu0_is4a_3_0, axu0_is4b_3_0, axu0_is3_3_1, axu0_is4a_3_1, axu0_is4b_3_1, axu0_is3_3_2, axu0_is4a_3_2, axu0_is4b_3_2, axu0_is3_3_3, axu0_is4a_3_3, axu0_is4b_3_3, axu0_is5_3] [] 3000 0 (() : ax_Tr 0) = true := by decide +kernel
set_option maxRecDepth 4000 in
theorem axs0_58_2 : ∀ x ∈ ([axu0_is1a_2, axu0_is1b_2, axu0_is2_2, axu0_is3_2_0, axu0_is4a_2_0, axu0_is4b_2_0, axu0_is3_2_1, axu0_is4a_2_1, axu0_is4b_2_1, axu0_is3_2_2, axu0_is4a_2_2, axu0_is4b_2_2, axu0_is3_2_3, axu0_is4a_2_3, axu0_is4b_2_3, axu0_is5_2] : List ax_RL), ax_RO ax_wM0 (ax_XM 0) x := ax_ro_cons axq0_is1a_2 (ax_ro_cons axq0_is1b_2 (ax_ro_cons axq0_is2_2 (ax_ro_cons axq0_is3_2_0 (ax_ro_cons axq0_is4a_2_0 (ax_ro_cons axq0_is4b_2_0 (ax_ro_cons axq0_is3_2_1 (ax_ro_cons axq0_is4a_2_1 (ax_ro_cons axq0_is4b_2_1 (ax_ro_cons axq0_is3_2_2 (ax_ro_cons axq0_is4a_2_2 (ax_ro_cons axq0_is4b_2_2 (ax_ro_cons axq0_is3_2_3 (ax_ro_cons axq0_is4a_2_3 (ax_ro_cons axq0_is4b_2_3 (ax_ro_cons axq0_is5_2 (ax_ro_nil))))))))))))))))
-- TurnNetModel.isSame: 122 steps
set_option maxRecDepth 4000 in
theorem axk0_58_2 : ax_chk ax_wM0 rx_P (rx_DF, rx_FK) ax_APM0 (rx_n rxm_58) axm_58 (([702, 56, 72], (3, [(0, 2147483648, 2147484448), (1, 0, 0), (1, 0, 0)], [(702, 52, 11)], [], [(131, [3]), (154, [3, 7]), (156, [3, 7]), (168, [3, 7, 4])])), [], [([0], (3, [(0, 2147483648, 2147484448), (1, 0, 0), (1, 0, 0)], [], [], [(161, [3, 7, 8])])), ([4], (3, [(0, 2147483648, 2147484448), (1, 0, 0), (1, 0, 0)], [], [], [(160, [3, 7, 8])]))]) [axu0_is1a_2, axu0_is1b_2, axu0_is2_2, axu0_is3_2_0, axu0_is4a_2_0, axu0_is4b_2_0, axu0_is3_2_1, axu0_is4a_2_1, axu0_is4b_2_1, axu0_is3_2_2, axu0_is4a_2_2, axu0_is4b_2_2, axu0_is3_2_3, axu0_is4a_2_3, axu0_is4b_2_3, axu0_is5_2] [] 3000 0 (() : ax_Tr 0) = true := by decide +kernel
set_option maxRecDepth 4000 in
theorem axs0_58_1 : ∀ x ∈ ([axu0_is1a_1, axu0_is1b_1, axu0_is2_1, axu0_is3_1_0, axu0_is4a_1_0, axu0_is4b_1_0, axu0_is3_1_1, axu0_is4a_1_1, axu0_is4b_1_1, axu0_is3_1_2, axu0_is4a_1_2, axu0_is4b_1_2, axu0_is3_1_3, axu0_is4a_1_3, axu0_is4b_1_3, axu0_is5_1] : List ax_RL), ax_RO ax_wM0 (ax_XM 0) x := ax_ro_cons axq0_is1a_1 (ax_ro_cons axq0_is1b_1 (ax_ro_cons axq0_is2_1 (ax_ro_cons axq0_is3_1_0 (ax_ro_cons axq0_is4a_1_0 (ax_ro_cons axq0_is4b_1_0 (ax_ro_cons axq0_is3_1_1 (ax_ro_cons axq0_is4a_1_1 (ax_ro_cons axq0_is4b_1_1 (ax_ro_cons axq0_is3_1_2 (ax_ro_cons axq0_is4a_1_2 (ax_ro_cons axq0_is4b_1_2 (ax_ro_cons axq0_is3_1_3 (ax_ro_cons axq0_is4a_1_3 (ax_ro_cons axq0_is4b_1_3 (ax_ro_cons axq0_is5_1 (ax_ro_nil))))))))))))))))
-- TurnNetModel.isSame: 122 steps
set_option maxRecDepth 4000 in
theorem axk0_58_1 : ax_chk ax_wM0 rx_P (rx_DF, rx_FK) ax_APM0 (rx_n rxm_58) axm_58 (([702, 36, 52], (3, [(0, 2147483648, 2147484448), (1, 0, 0), (1, 0, 0)], [(702, 52, 11)], [], [(131, [3]), (154, [3, 7]), (156, [3, 7]), (168, [3, 7, 4])])), [], [([0], (3, [(0, 2147483648, 2147484448), (1, 0, 0), (1, 0, 0)], [], [], [(161, [3, 7, 4])])), ([4], (3, [(0, 2147483648, 2147484448), (1, 0, 0), (1, 0, 0)], [], [], [(160, [3, 7, 4])]))]) [axu0_is1a_1, axu0_is1b_1, axu0_is2_1, axu0_is3_1_0, axu0_is4a_1_0, axu0_is4b_1_0, axu0_is3_1_1, axu0_is4a_1_1, axu0_is4b_1_1, axu0_is3_1_2, axu0_is4a_1_2, axu0_is4b_1_2, axu0_is3_1_3, axu0_is4a_1_3, axu0_is4b_1_3, axu0_is5_1] [] 3000 0 (() : ax_Tr 0) = true := by decide +kernel
set_option maxRecDepth 4000 in
theorem axs0_58_0 : ∀ x ∈ ([axu0_is1a_0, axu0_is1b_0, axu0_is2_0, axu0_is3_0_0, axu0_is4a_0_0, axu0_is4b_0_0, axu0_is3_0_1, axu0_is4a_0_1, axu0_is4b_0_1, axu0_is3_0_2, axu0_is4a_0_2, axu0_is4b_0_2, axu0_is3_0_3, axu0_is4a_0_3, axu0_is4b_0_3, axu0_is3_0_4, axu0_is4a_0_4, axu0_is4b_0_4, axu0_is3_0_5, axu0_is4a_0_5, axu0_is4b_0_5, axu0_is3_0_6, axu0_is4a_0_6, axu0_is4b_0_6, axu0_is3_0_7, axu0_is4a_0_7, axu0_is4b_0_7, axu0_is5_0] : List ax_RL), ax_RO ax_wM0 (ax_XM 0) x := ax_ro_cons axq0_is1a_0 (ax_ro_cons axq0_is1b_0 (ax_ro_cons axq0_is2_0 (ax_ro_cons axq0_is3_0_0 (ax_ro_cons axq0_is4a_0_0 (ax_ro_cons axq0_is4b_0_0 (ax_ro_cons axq0_is3_0_1 (ax_ro_cons axq0_is4a_0_1 (ax_ro_cons axq0_is4b_0_1 (ax_ro_cons axq0_is3_0_2 (ax_ro_cons axq0_is4a_0_2 (ax_ro_cons axq0_is4b_0_2 (ax_ro_cons axq0_is3_0_3 (ax_ro_cons axq0_is4a_0_3 (ax_ro_cons axq0_is4b_0_3 (ax_ro_cons axq0_is3_0_4 (ax_ro_cons axq0_is4a_0_4 (ax_ro_cons axq0_is4b_0_4 (ax_ro_cons axq0_is3_0_5 (ax_ro_cons axq0_is4a_0_5 (ax_ro_cons axq0_is4b_0_5 (ax_ro_cons axq0_is3_0_6 (ax_ro_cons axq0_is4a_0_6 (ax_ro_cons axq0_is4b_0_6 (ax_ro_cons axq0_is3_0_7 (ax_ro_cons axq0_is4a_0_7 (ax_ro_cons axq0_is4b_0_7 (ax_ro_cons axq0_is5_0 (ax_ro_nil))))))))))))))))))))))))))))
-- TurnNetModel.isSame: 222 steps
set_option maxRecDepth 4000 in
theorem axk0_58_0 : ax_chk ax_wM0 rx_P (rx_DF, rx_FK) ax_APM0 (rx_n rxm_58) axm_58 (([702, 0, 32], (3, [(0, 2147483648, 2147484448), (1, 0, 0), (1, 0, 0)], [(702, 52, 11)], [], [(131, [3]), (154, [3, 7]), (156, [3, 7]), (168, [3, 7, 4])])), [], [([0], (3, [(0, 2147483648, 2147484448), (1, 0, 0), (1, 0, 0)], [], [], [(161, [3, 7, 0])])), ([4], (3, [(0, 2147483648, 2147484448), (1, 0, 0), (1, 0, 0)], [], [], [(160, [3, 7, 0])]))]) [axu0_is1a_0, axu0_is1b_0, axu0_is2_0, axu0_is3_0_0, axu0_is4a_0_0, axu0_is4b_0_0, axu0_is3_0_1, axu0_is4a_0_1, axu0_is4b_0_1, axu0_is3_0_2, axu0_is4a_0_2, axu0_is4b_0_2, axu0_is3_0_3, axu0_is4a_0_3, axu0_is4b_0_3, axu0_is3_0_4, axu0_is4a_0_4, axu0_is4b_0_4, axu0_is3_0_5, axu0_is4a_0_5, axu0_is4b_0_5, axu0_is3_0_6, axu0_is4a_0_6, axu0_is4b_0_6, axu0_is3_0_7, axu0_is4a_0_7, axu0_is4b_0_7, axu0_is5_0] [] 3000 0 (() : ax_Tr 0) = true := by decide +kernel
theorem axr0_58 (hP : ∀ q ∈ rx_P, rx_QW q ∧ rx_ST rx_P (rx_DF, rx_FK) q) : ax_Row ax_wM0 (ax_XM 0) rx_P ax_APM0 rx_P (rx_DF, rx_FK) rxm_58 (axm_58, axc0_58) := fun hr => ⟨ax_tabB_ok axt_58, fun hL => ax_con_cons (ax_chk_ok hP ax_XM0_ok hr hL (ax_tabB_ok axt_58) axs0_58_0 axk0_58_0) (ax_con_cons (ax_chk_ok hP ax_XM0_ok hr hL (ax_tabB_ok axt_58) axs0_58_1 axk0_58_1) (ax_con_cons (ax_chk_ok hP ax_XM0_ok hr hL (ax_tabB_ok axt_58) axs0_58_2 axk0_58_2) (ax_con_cons (ax_chk_ok hP ax_XM0_ok hr hL (ax_tabB_ok axt_58) axs0_58_3 axk0_58_3) (ax_con_cons (ax_chk_ok hP ax_XM0_ok hr hL (ax_tabB_ok axt_58) axs0_58_4 axk0_58_4) (ax_con_cons (ax_chk_ok hP ax_XM0_ok hr hL (ax_tabB_ok axt_58) axs0_58_5 axk0_58_5) (ax_con_cons (ax_chk_ok hP ax_XM0_ok hr hL (ax_tabB_ok axt_58) axs0_58_6 axk0_58_6) (ax_con_cons (ax_chk_ok hP ax_XM0_ok hr hL (ax_tabB_ok axt_58) axs0_58_7 axk0_58_7) (ax_con_nil))))))))⟩
theorem axr0_59 (hP : ∀ q ∈ rx_P, rx_QW q ∧ rx_ST rx_P (rx_DF, rx_FK) q) : ax_Row ax_wM0 (ax_XM 0) rx_P ax_APM0 rx_P (rx_DF, rx_FK) rxm_59 (axm_59, axc0_59) := fun hr => ⟨ax_tabB_ok axt_59, fun hL => ax_con_nil⟩
set_option maxRecDepth 4000 in
theorem axs0_60_7 : ∀ x ∈ ([axu0_iv1_7, axu0_iv2a_7, axu0_iv2b_7, axu0_iv3a_7, axu0_iv3b_7] : List ax_RL), ax_RO ax_wM0 (ax_XM 0) x := ax_ro_cons axq0_iv1_7 (ax_ro_cons axq0_iv2a_7 (ax_ro_cons axq0_iv2b_7 (ax_ro_cons axq0_iv3a_7 (ax_ro_cons axq0_iv3b_7 (ax_ro_nil)))))
-- TurnNetModel.isWord: 22 steps
set_option maxRecDepth 4000 in
theorem axk0_60_7 : ax_chk ax_wM0 rx_P (rx_DF, rx_FK) ax_APM0 (rx_n rxm_60) axm_60 (([702, 28], (3, [(0, 2147483648, 2147483648), (1, 0, 0), (1, 0, 0)], [(702, 72, 11)], [], [(151, [3, 7])])), [], [([0], (3, [(0, 2147483648, 2147483648), (1, 0, 0), (1, 0, 0)], [(702, 72, 11)], [], [(161, [3, 7, 28])])), ([4], (3, [(0, 2147483648, 2147483648), (1, 0, 0), (1, 0, 0)], [(702, 72, 11)], [], [(160, [3, 7, 28])]))]) [axu0_iv1_7, axu0_iv2a_7, axu0_iv2b_7, axu0_iv3a_7, axu0_iv3b_7] [] 3000 0 (() : ax_Tr 0) = true := by decide +kernel
set_option maxRecDepth 4000 in
theorem axs0_60_6 : ∀ x ∈ ([axu0_iv1_6, axu0_iv2a_6, axu0_iv2b_6, axu0_iv3a_6, axu0_iv3b_6] : List ax_RL), ax_RO ax_wM0 (ax_XM 0) x := ax_ro_cons axq0_iv1_6 (ax_ro_cons axq0_iv2a_6 (ax_ro_cons axq0_iv2b_6 (ax_ro_cons axq0_iv3a_6 (ax_ro_cons axq0_iv3b_6 (ax_ro_nil)))))
-- TurnNetModel.isWord: 22 steps
set_option maxRecDepth 4000 in
theorem axk0_60_6 : ax_chk ax_wM0 rx_P (rx_DF, rx_FK) ax_APM0 (rx_n rxm_60) axm_60 (([702, 24], (3, [(0, 2147483648, 2147483648), (1, 0, 0), (1, 0, 0)], [(702, 72, 11)], [], [(151, [3, 7])])), [], [([0], (3, [(0, 2147483648, 2147483648), (1, 0, 0), (1, 0, 0)], [(702, 72, 11)], [], [(161, [3, 7, 24])])), ([4], (3, [(0, 2147483648, 2147483648), (1, 0, 0), (1, 0, 0)], [(702, 72, 11)], [], [(160, [3, 7, 24])]))]) [axu0_iv1_6, axu0_iv2a_6, axu0_iv2b_6, axu0_iv3a_6, axu0_iv3b_6] [] 3000 0 (() : ax_Tr 0) = true := by decide +kernel
set_option maxRecDepth 4000 in
theorem axs0_60_5 : ∀ x ∈ ([axu0_iv1_5, axu0_iv2a_5, axu0_iv2b_5, axu0_iv3a_5, axu0_iv3b_5] : List ax_RL), ax_RO ax_wM0 (ax_XM 0) x := ax_ro_cons axq0_iv1_5 (ax_ro_cons axq0_iv2a_5 (ax_ro_cons axq0_iv2b_5 (ax_ro_cons axq0_iv3a_5 (ax_ro_cons axq0_iv3b_5 (ax_ro_nil)))))
-- TurnNetModel.isWord: 22 steps
set_option maxRecDepth 4000 in
theorem axk0_60_5 : ax_chk ax_wM0 rx_P (rx_DF, rx_FK) ax_APM0 (rx_n rxm_60) axm_60 (([702, 20], (3, [(0, 2147483648, 2147483648), (1, 0, 0), (1, 0, 0)], [(702, 72, 11)], [], [(151, [3, 7])])), [], [([0], (3, [(0, 2147483648, 2147483648), (1, 0, 0), (1, 0, 0)], [(702, 72, 11)], [], [(161, [3, 7, 20])])), ([4], (3, [(0, 2147483648, 2147483648), (1, 0, 0), (1, 0, 0)], [(702, 72, 11)], [], [(160, [3, 7, 20])]))]) [axu0_iv1_5, axu0_iv2a_5, axu0_iv2b_5, axu0_iv3a_5, axu0_iv3b_5] [] 3000 0 (() : ax_Tr 0) = true := by decide +kernel
set_option maxRecDepth 4000 in
theorem axs0_60_4 : ∀ x ∈ ([axu0_iv1_4, axu0_iv2a_4, axu0_iv2b_4, axu0_iv3a_4, axu0_iv3b_4] : List ax_RL), ax_RO ax_wM0 (ax_XM 0) x := ax_ro_cons axq0_iv1_4 (ax_ro_cons axq0_iv2a_4 (ax_ro_cons axq0_iv2b_4 (ax_ro_cons axq0_iv3a_4 (ax_ro_cons axq0_iv3b_4 (ax_ro_nil)))))
-- TurnNetModel.isWord: 22 steps
set_option maxRecDepth 4000 in
theorem axk0_60_4 : ax_chk ax_wM0 rx_P (rx_DF, rx_FK) ax_APM0 (rx_n rxm_60) axm_60 (([702, 16], (3, [(0, 2147483648, 2147483648), (1, 0, 0), (1, 0, 0)], [(702, 72, 11)], [], [(151, [3, 7])])), [], [([0], (3, [(0, 2147483648, 2147483648), (1, 0, 0), (1, 0, 0)], [(702, 72, 11)], [], [(161, [3, 7, 12])])), ([4], (3, [(0, 2147483648, 2147483648), (1, 0, 0), (1, 0, 0)], [(702, 72, 11)], [], [(160, [3, 7, 12])]))]) [axu0_iv1_4, axu0_iv2a_4, axu0_iv2b_4, axu0_iv3a_4, axu0_iv3b_4] [] 3000 0 (() : ax_Tr 0) = true := by decide +kernel
set_option maxRecDepth 4000 in
theorem axs0_60_3 : ∀ x ∈ ([axu0_iv1_3, axu0_iv2a_3, axu0_iv2b_3, axu0_iv3a_3, axu0_iv3b_3] : List ax_RL), ax_RO ax_wM0 (ax_XM 0) x := ax_ro_cons axq0_iv1_3 (ax_ro_cons axq0_iv2a_3 (ax_ro_cons axq0_iv2b_3 (ax_ro_cons axq0_iv3a_3 (ax_ro_cons axq0_iv3b_3 (ax_ro_nil)))))
-- TurnNetModel.isWord: 22 steps
set_option maxRecDepth 4000 in
theorem axk0_60_3 : ax_chk ax_wM0 rx_P (rx_DF, rx_FK) ax_APM0 (rx_n rxm_60) axm_60 (([702, 12], (3, [(0, 2147483648, 2147483648), (1, 0, 0), (1, 0, 0)], [(702, 72, 11)], [], [(151, [3, 7])])), [], [([0], (3, [(0, 2147483648, 2147483648), (1, 0, 0), (1, 0, 0)], [(702, 72, 11)], [], [(161, [3, 7, 16])])), ([4], (3, [(0, 2147483648, 2147483648), (1, 0, 0), (1, 0, 0)], [(702, 72, 11)], [], [(160, [3, 7, 16])]))]) [axu0_iv1_3, axu0_iv2a_3, axu0_iv2b_3, axu0_iv3a_3, axu0_iv3b_3] [] 3000 0 (() : ax_Tr 0) = true := by decide +kernel
set_option maxRecDepth 4000 in
theorem axs0_60_2 : ∀ x ∈ ([axu0_iv1_2, axu0_iv2a_2, axu0_iv2b_2, axu0_iv3a_2, axu0_iv3b_2] : List ax_RL), ax_RO ax_wM0 (ax_XM 0) x := ax_ro_cons axq0_iv1_2 (ax_ro_cons axq0_iv2a_2 (ax_ro_cons axq0_iv2b_2 (ax_ro_cons axq0_iv3a_2 (ax_ro_cons axq0_iv3b_2 (ax_ro_nil)))))
-- TurnNetModel.isWord: 22 steps
set_option maxRecDepth 4000 in
theorem axk0_60_2 : ax_chk ax_wM0 rx_P (rx_DF, rx_FK) ax_APM0 (rx_n rxm_60) axm_60 (([702, 8], (3, [(0, 2147483648, 2147483648), (1, 0, 0), (1, 0, 0)], [(702, 72, 11)], [], [(151, [3, 7])])), [], [([0], (3, [(0, 2147483648, 2147483648), (1, 0, 0), (1, 0, 0)], [(702, 72, 11)], [], [(161, [3, 7, 8])])), ([4], (3, [(0, 2147483648, 2147483648), (1, 0, 0), (1, 0, 0)], [(702, 72, 11)], [], [(160, [3, 7, 8])]))]) [axu0_iv1_2, axu0_iv2a_2, axu0_iv2b_2, axu0_iv3a_2, axu0_iv3b_2] [] 3000 0 (() : ax_Tr 0) = true := by decide +kernel
set_option maxRecDepth 4000 in
theorem axs0_60_1 : ∀ x ∈ ([axu0_iv1_1, axu0_iv2a_1, axu0_iv2b_1, axu0_iv3a_1, axu0_iv3b_1] : List ax_RL), ax_RO ax_wM0 (ax_XM 0) x := ax_ro_cons axq0_iv1_1 (ax_ro_cons axq0_iv2a_1 (ax_ro_cons axq0_iv2b_1 (ax_ro_cons axq0_iv3a_1 (ax_ro_cons axq0_iv3b_1 (ax_ro_nil)))))
-- TurnNetModel.isWord: 22 steps
set_option maxRecDepth 4000 in
theorem axk0_60_1 : ax_chk ax_wM0 rx_P (rx_DF, rx_FK) ax_APM0 (rx_n rxm_60) axm_60 (([702, 4], (3, [(0, 2147483648, 2147483648), (1, 0, 0), (1, 0, 0)], [(702, 72, 11)], [], [(151, [3, 7])])), [], [([0], (3, [(0, 2147483648, 2147483648), (1, 0, 0), (1, 0, 0)], [(702, 72, 11)], [], [(161, [3, 7, 4])])), ([4], (3, [(0, 2147483648, 2147483648), (1, 0, 0), (1, 0, 0)], [(702, 72, 11)], [], [(160, [3, 7, 4])]))]) [axu0_iv1_1, axu0_iv2a_1, axu0_iv2b_1, axu0_iv3a_1, axu0_iv3b_1] [] 3000 0 (() : ax_Tr 0) = true := by decide +kernel
set_option maxRecDepth 4000 in
theorem axs0_60_0 : ∀ x ∈ ([axu0_iv1_0, axu0_iv2a_0, axu0_iv2b_0, axu0_iv3a_0, axu0_iv3b_0] : List ax_RL), ax_RO ax_wM0 (ax_XM 0) x := ax_ro_cons axq0_iv1_0 (ax_ro_cons axq0_iv2a_0 (ax_ro_cons axq0_iv2b_0 (ax_ro_cons axq0_iv3a_0 (ax_ro_cons axq0_iv3b_0 (ax_ro_nil)))))
-- TurnNetModel.isWord: 22 steps
set_option maxRecDepth 4000 in
theorem axk0_60_0 : ax_chk ax_wM0 rx_P (rx_DF, rx_FK) ax_APM0 (rx_n rxm_60) axm_60 (([702, 0], (3, [(0, 2147483648, 2147483648), (1, 0, 0), (1, 0, 0)], [(702, 72, 11)], [], [(151, [3, 7])])), [], [([0], (3, [(0, 2147483648, 2147483648), (1, 0, 0), (1, 0, 0)], [(702, 72, 11)], [], [(161, [3, 7, 0])])), ([4], (3, [(0, 2147483648, 2147483648), (1, 0, 0), (1, 0, 0)], [(702, 72, 11)], [], [(160, [3, 7, 0])]))]) [axu0_iv1_0, axu0_iv2a_0, axu0_iv2b_0, axu0_iv3a_0, axu0_iv3b_0] [] 3000 0 (() : ax_Tr 0) = true := by decide +kernel
theorem axr0_60 (hP : ∀ q ∈ rx_P, rx_QW q ∧ rx_ST rx_P (rx_DF, rx_FK) q) : ax_Row ax_wM0 (ax_XM 0) rx_P ax_APM0 rx_P (rx_DF, rx_FK) rxm_60 (axm_60, axc0_60) := fun hr => ⟨ax_tabB_ok axt_60, fun hL => ax_con_cons (ax_chk_ok hP ax_XM0_ok hr hL (ax_tabB_ok axt_60) axs0_60_0 axk0_60_0) (ax_con_cons (ax_chk_ok hP ax_XM0_ok hr hL (ax_tabB_ok axt_60) axs0_60_1 axk0_60_1) (ax_con_cons (ax_chk_ok hP ax_XM0_ok hr hL (ax_tabB_ok axt_60) axs0_60_2 axk0_60_2) (ax_con_cons (ax_chk_ok hP ax_XM0_ok hr hL (ax_tabB_ok axt_60) axs0_60_3 axk0_60_3) (ax_con_cons (ax_chk_ok hP ax_XM0_ok hr hL (ax_tabB_ok axt_60) axs0_60_4 axk0_60_4) (ax_con_cons (ax_chk_ok hP ax_XM0_ok hr hL (ax_tabB_ok axt_60) axs0_60_5 axk0_60_5) (ax_con_cons (ax_chk_ok hP ax_XM0_ok hr hL (ax_tabB_ok axt_60) axs0_60_6 axk0_60_6) (ax_con_cons (ax_chk_ok hP ax_XM0_ok hr hL (ax_tabB_ok axt_60) axs0_60_7 axk0_60_7) (ax_con_nil))))))))⟩
set_option maxRecDepth 4000 in
theorem axs0_61_0 : ∀ x ∈ ([axu0_hk, axu0_kgen, axu0_wSk0, axu0_wSk1, axu0_wSk2, axu0_wSk3, axu0_wSk4, axu0_wM, axu0_sgkeepAct] : List ax_RL), ax_RO ax_wM0 (ax_XM 0) x := ax_ro_cons axq0_hk (ax_ro_cons axq0_kgen (ax_ro_cons axq0_wSk0 (ax_ro_cons axq0_wSk1 (ax_ro_cons axq0_wSk2 (ax_ro_cons axq0_wSk3 (ax_ro_cons axq0_wSk4 (ax_ro_cons axq0_wM (ax_ro_cons axq0_sgkeepAct (ax_ro_nil)))))))))
-- TurnNetModel.keepAct: 119 steps
set_option maxRecDepth 4000 in
theorem axk0_61_0 : ax_chk ax_wM0 rx_P (rx_DF, rx_FK) ax_APM0 (rx_n rxm_61) axm_61 (([702], (0, [], [], [], [(1, [])])), [(11, 56), (11, 57), (72, 999)], [([2], (0, [], [], [], [(0, [80]), (1, [])]))]) [axu0_hk, axu0_kgen, axu0_wSk0, axu0_wSk1, axu0_wSk2, axu0_wSk3, axu0_wSk4, axu0_wM, axu0_sgkeepAct] [11, 51] 3000 1 (([((11, 1, 0, ([702, 3], (2, [(0, 2147483668, 2147483668), (0, 2147483648, 2147485708)], [(702, 224, 7)], [], [(1, [])]))), ()), ((51, 1, 0, ([702, 3], (2, [(0, 2147483648, 2147483667), (0, 2147483648, 2147483751)], [(702, 224, 7)], [], [(1, [])]))), ())] : List ((Nat × Nat × Nat × ax_T) × ax_Tr 0)) : ax_Tr 1) = true := by decide +kernel
theorem axr0_61 (hP : ∀ q ∈ rx_P, rx_QW q ∧ rx_ST rx_P (rx_DF, rx_FK) q) : ax_Row ax_wM0 (ax_XM 0) rx_P ax_APM0 rx_P (rx_DF, rx_FK) rxm_61 (axm_61, axc0_61) := fun hr => ⟨ax_tabB_ok axt_61, fun hL => ax_con_cons (ax_chk_ok hP ax_XM0_ok hr hL (ax_tabB_ok axt_61) axs0_61_0 axk0_61_0) (ax_con_nil)⟩
set_option maxRecDepth 4000 in
theorem axs0_62_2 : ∀ x ∈ ([axu0_ly0, axu0_ly1, axu0_ly2, axu0_lyM, axu0_co1y, axu0_co2y] : List ax_RL), ax_RO ax_wM0 (ax_XM 0) x := ax_ro_cons axq0_ly0 (ax_ro_cons axq0_ly1 (ax_ro_cons axq0_ly2 (ax_ro_cons axq0_lyM (ax_ro_cons axq0_co1y (ax_ro_cons axq0_co2y (ax_ro_nil))))))
-- TurnNetModel.lay: 21 steps
set_option maxRecDepth 4000 in
theorem axk0_62_2 : ax_chk ax_wM0 rx_P (rx_DF, rx_FK) ax_APM0 (rx_n rxm_62) axm_62 (([702, 4, 3], (2, [(1, 0, 0), (0, 2147484656, 2147484656)], [], [], [(40, [0, 0, 8, 4, 4]), (26, []), (241, [7])])), [(50, 1), (52, 999)], [([2], (3, [(1, 0, 0), (1, 0, 0), (0, 2147484656, 2147484656)], [], [], [(40, [0, 0, 8, 0, 4]), (26, []), (241, [11]), (251, [11, 3, 7])]))]) [axu0_ly0, axu0_ly1, axu0_ly2, axu0_lyM, axu0_co1y, axu0_co2y] [] 3000 0 (() : ax_Tr 0) = true := by decide +kernel
set_option maxRecDepth 4000 in
theorem axs0_62_1 : ∀ x ∈ ([axu0_ly0, axu0_ly1, axu0_ly2, axu0_lyB, axu0_co1y, axu0_co2y] : List ax_RL), ax_RO ax_wM0 (ax_XM 0) x := ax_ro_cons axq0_ly0 (ax_ro_cons axq0_ly1 (ax_ro_cons axq0_ly2 (ax_ro_cons axq0_lyB (ax_ro_cons axq0_co1y (ax_ro_cons axq0_co2y (ax_ro_nil))))))
-- TurnNetModel.lay: 21 steps
set_option maxRecDepth 4000 in
theorem axk0_62_1 : ax_chk ax_wM0 rx_P (rx_DF, rx_FK) ax_APM0 (rx_n rxm_62) axm_62 (([702, 4, 3], (2, [(1, 0, 0), (0, 2147484651, 2147484655)], [], [], [(40, [0, 4, 4, 4, 0]), (26, []), (241, [7])])), [(50, 1), (52, 999)], [([2], (3, [(1, 0, 0), (1, 0, 0), (0, 2147484651, 2147484655)], [], [], [(40, [0, 0, 4, 0, 0]), (26, []), (241, [11]), (251, [11, 3, 7])]))]) [axu0_ly0, axu0_ly1, axu0_ly2, axu0_lyB, axu0_co1y, axu0_co2y] [] 3000 0 (() : ax_Tr 0) = true := by decide +kernel
set_option maxRecDepth 4000 in
theorem axs0_62_0 : ∀ x ∈ ([axu0_ly0, axu0_ly1, axu0_ly2, axu0_lyO, axu0_co1y, axu0_co2y] : List ax_RL), ax_RO ax_wM0 (ax_XM 0) x := ax_ro_cons axq0_ly0 (ax_ro_cons axq0_ly1 (ax_ro_cons axq0_ly2 (ax_ro_cons axq0_lyO (ax_ro_cons axq0_co1y (ax_ro_cons axq0_co2y (ax_ro_nil))))))
-- TurnNetModel.lay: 21 steps
set_option maxRecDepth 4000 in
theorem axk0_62_0 : ax_chk ax_wM0 rx_P (rx_DF, rx_FK) ax_APM0 (rx_n rxm_62) axm_62 (([702, 4, 3], (2, [(1, 0, 0), (0, 2147483648, 2147484650)], [], [], [(40, [4, 0, 4, 8, 4]), (26, []), (241, [7])])), [(50, 1), (52, 999)], [([2], (3, [(1, 0, 0), (1, 0, 0), (0, 2147483648, 2147484650)], [], [], [(40, [0, 0, 4, 0, 4]), (26, []), (241, [11]), (251, [11, 3, 7])]))]) [axu0_ly0, axu0_ly1, axu0_ly2, axu0_lyO, axu0_co1y, axu0_co2y] [] 3000 0 (() : ax_Tr 0) = true := by decide +kernel
theorem axr0_62 (hP : ∀ q ∈ rx_P, rx_QW q ∧ rx_ST rx_P (rx_DF, rx_FK) q) : ax_Row ax_wM0 (ax_XM 0) rx_P ax_APM0 rx_P (rx_DF, rx_FK) rxm_62 (axm_62, axc0_62) := fun hr => ⟨ax_tabB_ok axt_62, fun hL => ax_con_cons (ax_chk_ok hP ax_XM0_ok hr hL (ax_tabB_ok axt_62) axs0_62_0 axk0_62_0) (ax_con_cons (ax_chk_ok hP ax_XM0_ok hr hL (ax_tabB_ok axt_62) axs0_62_1 axk0_62_1) (ax_con_cons (ax_chk_ok hP ax_XM0_ok hr hL (ax_tabB_ok axt_62) axs0_62_2 axk0_62_2) (ax_con_nil)))⟩
theorem axr0_63 (hP : ∀ q ∈ rx_P, rx_QW q ∧ rx_ST rx_P (rx_DF, rx_FK) q) : ax_Row ax_wM0 (ax_XM 0) rx_P ax_APM0 rx_P (rx_DF, rx_FK) rxm_63 (axm_63, axc0_63) := fun hr => ⟨ax_tabB_ok axt_63, fun hL => ax_con_nil⟩
theorem axr0_64 (hP : ∀ q ∈ rx_P, rx_QW q ∧ rx_ST rx_P (rx_DF, rx_FK) q) : ax_Row ax_wM0 (ax_XM 0) rx_P ax_APM0 rx_P (rx_DF, rx_FK) rxm_64 (axm_64, axc0_64) := fun hr => ⟨ax_tabB_ok axt_64, fun hL => ax_con_nil⟩
-- TurnNetModel.packetsAt: 42 steps
set_option maxRecDepth 4000 in
theorem axk0_65_0 : ax_chk ax_wM0 rx_P (rx_DF, rx_FK) ax_APM0 (rx_n rxm_65) axm_65 (([702, 3], (1, [(0, 0, 4294967295)], [], [], [])), [], [([7], (2, [(0, 0, 4294967295), (0, 0, 4294967295)], [], [], []))]) [] [4] 3000 1 (([((4, 1, 2, ([702, 3, 7, 11], (3, [(0, 2147483648, 2147483660), (0, 0, 4294967295), (0, 0, 4294967295)], [], [], []))), ())] : List ((Nat × Nat × Nat × ax_T) × ax_Tr 0)) : ax_Tr 1) = true := by decide +kernel
theorem axr0_65 (hP : ∀ q ∈ rx_P, rx_QW q ∧ rx_ST rx_P (rx_DF, rx_FK) q) : ax_Row ax_wM0 (ax_XM 0) rx_P ax_APM0 rx_P (rx_DF, rx_FK) rxm_65 (axm_65, axc0_65) := fun hr => ⟨ax_tabB_ok axt_65, fun hL => ax_con_cons (ax_chk_ok hP ax_XM0_ok hr hL (ax_tabB_ok axt_65) ax_ro_nil axk0_65_0) (ax_con_nil)⟩
-- TurnNetModel.packetsNow: 20 steps
set_option maxRecDepth 4000 in
theorem axk0_66_0 : ax_chk ax_wM0 rx_P (rx_DF, rx_FK) ax_APM0 (rx_n rxm_66) axm_66 (([702], (0, [], [], [], [])), [], [([3], (1, [(0, 0, 4294967295)], [], [], []))]) [] [4] 3000 1 (([((4, 1, 1, ([702, 3, 7], (2, [(0, 2147483648, 2147483660), (0, 0, 4294967295)], [], [], []))), ())] : List ((Nat × Nat × Nat × ax_T) × ax_Tr 0)) : ax_Tr 1) = true := by decide +kernel
theorem axr0_66 (hP : ∀ q ∈ rx_P, rx_QW q ∧ rx_ST rx_P (rx_DF, rx_FK) q) : ax_Row ax_wM0 (ax_XM 0) rx_P ax_APM0 rx_P (rx_DF, rx_FK) rxm_66 (axm_66, axc0_66) := fun hr => ⟨ax_tabB_ok axt_66, fun hL => ax_con_cons (ax_chk_ok hP ax_XM0_ok hr hL (ax_tabB_ok axt_66) ax_ro_nil axk0_66_0) (ax_con_nil)⟩
set_option maxRecDepth 4000 in
theorem axs0_67_2 : ∀ x ∈ ([axu0_pu0, axu0_pu1, axu0_puB, axu0_pu4, axu0_pu5B, axu0_pu6, axu0_pu7] : List ax_RL), ax_RO ax_wM0 (ax_XM 0) x := ax_ro_cons axq0_pu0 (ax_ro_cons axq0_pu1 (ax_ro_cons axq0_puB (ax_ro_cons axq0_pu4 (ax_ro_cons axq0_pu5B (ax_ro_cons axq0_pu6 (ax_ro_cons axq0_pu7 (ax_ro_nil)))))))
-- TurnNetModel.push: 13 steps
set_option maxRecDepth 4000 in
theorem axk0_67_2 : ax_chk ax_wM0 rx_P (rx_DF, rx_FK) ax_APM0 (rx_n rxm_67) axm_67 (([702, 7], (3, [(1, 0, 0), (0, 2147484651, 2147484655), (1, 0, 0)], [], [], [(40, [0, 0, 4, 0, 0]), (196, [3]), (192, [3, 3]), (242, [11])])), [(11, 27), (55, 999)], [([2], (4, [(1, 0, 0), (1, 0, 0), (0, 2147484651, 2147484655), (1, 0, 0)], [], [], [(40, [4, 0, 4, 0, 4]), (196, [3]), (242, [15]), (251, [15, 7, 11])]))]) [axu0_pu0, axu0_pu1, axu0_puB, axu0_pu4, axu0_pu5B, axu0_pu6, axu0_pu7] [] 3000 0 (() : ax_Tr 0) = true := by decide +kernel
set_option maxRecDepth 4000 in
theorem axs0_67_1 : ∀ x ∈ ([axu0_pu0, axu0_pu1, axu0_puP, axu0_pu4, axu0_pu5M, axu0_pu6, axu0_pu7] : List ax_RL), ax_RO ax_wM0 (ax_XM 0) x := ax_ro_cons axq0_pu0 (ax_ro_cons axq0_pu1 (ax_ro_cons axq0_puP (ax_ro_cons axq0_pu4 (ax_ro_cons axq0_pu5M (ax_ro_cons axq0_pu6 (ax_ro_cons axq0_pu7 (ax_ro_nil)))))))
-- TurnNetModel.push: 13 steps
set_option maxRecDepth 4000 in
theorem axk0_67_1 : ax_chk ax_wM0 rx_P (rx_DF, rx_FK) ax_APM0 (rx_n rxm_67) axm_67 (([702, 4032], (2, [(1, 0, 0), (1, 0, 0)], [], [], [(40, [4, 0, 4, 8, 4]), (196, [3]), (242, [7])])), [(11, 27), (55, 999)], [([2], (4, [(1, 0, 0), (1, 0, 0), (1, 0, 0), (1, 0, 0)], [], [], [(40, [4, 0, 0, 4, 4]), (196, [11]), (208, [3, 11]), (242, [15]), (251, [15, 4032, 7])]))]) [axu0_pu0, axu0_pu1, axu0_puP, axu0_pu4, axu0_pu5M, axu0_pu6, axu0_pu7] [] 3000 0 (() : ax_Tr 0) = true := by decide +kernel
set_option maxRecDepth 4000 in
theorem axs0_67_0 : ∀ x ∈ ([axu0_pu0, axu0_pu1, axu0_puP, axu0_pu4, axu0_pu5O, axu0_pu6, axu0_pu7] : List ax_RL), ax_RO ax_wM0 (ax_XM 0) x := ax_ro_cons axq0_pu0 (ax_ro_cons axq0_pu1 (ax_ro_cons axq0_puP (ax_ro_cons axq0_pu4 (ax_ro_cons axq0_pu5O (ax_ro_cons axq0_pu6 (ax_ro_cons axq0_pu7 (ax_ro_nil)))))))
-- TurnNetModel.push: 13 steps
set_option maxRecDepth 4000 in
theorem axk0_67_0 : ax_chk ax_wM0 rx_P (rx_DF, rx_FK) ax_APM0 (rx_n rxm_67) axm_67 (([702, 4036], (2, [(1, 0, 0), (1, 0, 0)], [], [], [(40, [4, 0, 4, 8, 4]), (196, [3]), (242, [7])])), [(11, 27), (55, 999)], [([2], (4, [(1, 0, 0), (1, 0, 0), (1, 0, 0), (1, 0, 0)], [], [], [(40, [4, 0, 0, 4, 4]), (196, [11]), (193, [11, 3]), (242, [15]), (251, [15, 4036, 7])]))]) [axu0_pu0, axu0_pu1, axu0_puP, axu0_pu4, axu0_pu5O, axu0_pu6, axu0_pu7] [] 3000 0 (() : ax_Tr 0) = true := by decide +kernel
theorem axr0_67 (hP : ∀ q ∈ rx_P, rx_QW q ∧ rx_ST rx_P (rx_DF, rx_FK) q) : ax_Row ax_wM0 (ax_XM 0) rx_P ax_APM0 rx_P (rx_DF, rx_FK) rxm_67 (axm_67, axc0_67) := fun hr => ⟨ax_tabB_ok axt_67, fun hL => ax_con_cons (ax_chk_ok hP ax_XM0_ok hr hL (ax_tabB_ok axt_67) axs0_67_0 axk0_67_0) (ax_con_cons (ax_chk_ok hP ax_XM0_ok hr hL (ax_tabB_ok axt_67) axs0_67_1 axk0_67_1) (ax_con_cons (ax_chk_ok hP ax_XM0_ok hr hL (ax_tabB_ok axt_67) axs0_67_2 axk0_67_2) (ax_con_nil)))⟩
set_option maxRecDepth 4000 in
theorem axs0_68_0 : ∀ x ∈ ([axu0_sgputAside] : List ax_RL), ax_RO ax_wM0 (ax_XM 0) x := ax_ro_cons axq0_sgputAside (ax_ro_nil)
-- TurnNetModel.putAside: 56 steps
set_option maxRecDepth 4000 in
theorem axk0_68_0 : ax_chk ax_wM0 rx_P (rx_DF, rx_FK) ax_APM0 (rx_n rxm_68) axm_68 (([702], (0, [], [], [], [])), [(67, 999)], [([2], (0, [], [], [], []))]) [axu0_sgputAside] [2] 3000 1 (([((2, 1, 0, ([702, 3], (1, [(0, 2147483648, 2147483751)], [], [], []))), ())] : List ((Nat × Nat × Nat × ax_T) × ax_Tr 0)) : ax_Tr 1) = true := by decide +kernel
theorem axr0_68 (hP : ∀ q ∈ rx_P, rx_QW q ∧ rx_ST rx_P (rx_DF, rx_FK) q) : ax_Row ax_wM0 (ax_XM 0) rx_P ax_APM0 rx_P (rx_DF, rx_FK) rxm_68 (axm_68, axc0_68) := fun hr => ⟨ax_tabB_ok axt_68, fun hL => ax_con_cons (ax_chk_ok hP ax_XM0_ok hr hL (ax_tabB_ok axt_68) axs0_68_0 axk0_68_0) (ax_con_nil)⟩
theorem axr0_69 (hP : ∀ q ∈ rx_P, rx_QW q ∧ rx_ST rx_P (rx_DF, rx_FK) q) : ax_Row ax_wM0 (ax_XM 0) rx_P ax_APM0 rx_P (rx_DF, rx_FK) rxm_69 (axm_69, axc0_69) := fun hr => ⟨ax_tabB_ok axt_69, fun hL => ax_con_nil⟩
theorem axr0_70 (hP : ∀ q ∈ rx_P, rx_QW q ∧ rx_ST rx_P (rx_DF, rx_FK) q) : ax_Row ax_wM0 (ax_XM 0) rx_P ax_APM0 rx_P (rx_DF, rx_FK) rxm_70 (axm_70, axc0_70) := fun hr => ⟨ax_tabB_ok axt_70, fun hL => ax_con_nil⟩
theorem axr0_71 (hP : ∀ q ∈ rx_P, rx_QW q ∧ rx_ST rx_P (rx_DF, rx_FK) q) : ax_Row ax_wM0 (ax_XM 0) rx_P ax_APM0 rx_P (rx_DF, rx_FK) rxm_71 (axm_71, axc0_71) := fun hr => ⟨ax_tabB_ok axt_71, fun hL => ax_con_nil⟩
set_option maxRecDepth 4000 in
theorem axs0_72_0 : ∀ x ∈ ([axu0_wSs0, axu0_wSs1, axu0_wR1, axu0_wSs2, axu0_wR2, axu0_wSs3, axu0_wR3, axu0_wSs4, axu0_sgswapAll] : List ax_RL), ax_RO ax_wM0 (ax_XM 0) x := ax_ro_cons axq0_wSs0 (ax_ro_cons axq0_wSs1 (ax_ro_cons axq0_wR1 (ax_ro_cons axq0_wSs2 (ax_ro_cons axq0_wR2 (ax_ro_cons axq0_wSs3 (ax_ro_cons axq0_wR3 (ax_ro_cons axq0_wSs4 (ax_ro_cons axq0_sgswapAll (ax_ro_nil)))))))))
-- TurnNetModel.swapAll: 156 steps
set_option maxRecDepth 4000 in
theorem axk0_72_0 : ax_chk ax_wM0 rx_P (rx_DF, rx_FK) ax_APM0 (rx_n rxm_72) axm_72 (([702], (0, [], [], [], [(1, [])])), [(44, 999), (72, 999)], [([2], (0, [], [], [], [(1, [])]))]) [axu0_wSs0, axu0_wSs1, axu0_wR1, axu0_wSs2, axu0_wR2, axu0_wSs3, axu0_wR3, axu0_wSs4, axu0_sgswapAll] [2] 3000 1 (([((2, 1, 0, ([702, 3, 2], (1, [(0, 2147483648, 2147483751)], [], [], [(1, [])]))), ())] : List ((Nat × Nat × Nat × ax_T) × ax_Tr 0)) : ax_Tr 1) = true := by decide +kernel
theorem axr0_72 (hP : ∀ q ∈ rx_P, rx_QW q ∧ rx_ST rx_P (rx_DF, rx_FK) q) : ax_Row ax_wM0 (ax_XM 0) rx_P ax_APM0 rx_P (rx_DF, rx_FK) rxm_72 (axm_72, axc0_72) := fun hr => ⟨ax_tabB_ok axt_72, fun hL => ax_con_cons (ax_chk_ok hP ax_XM0_ok hr hL (ax_tabB_ok axt_72) axs0_72_0 axk0_72_0) (ax_con_nil)⟩
theorem axr0_73 (hP : ∀ q ∈ rx_P, rx_QW q ∧ rx_ST rx_P (rx_DF, rx_FK) q) : ax_Row ax_wM0 (ax_XM 0) rx_P ax_APM0 rx_P (rx_DF, rx_FK) rxm_73 (axm_73, axc0_73) := fun hr => ⟨ax_tabB_ok axt_73, fun hL => ax_con_nil⟩
theorem axr0_74 (hP : ∀ q ∈ rx_P, rx_QW q ∧ rx_ST rx_P (rx_DF, rx_FK) q) : ax_Row ax_wM0 (ax_XM 0) rx_P ax_APM0 rx_P (rx_DF, rx_FK) rxm_74 (axm_74, []) := fun hr => ⟨ax_tabB_ok axt_74, fun hL => ax_con_nil⟩
theorem axr0_75 (hP : ∀ q ∈ rx_P, rx_QW q ∧ rx_ST rx_P (rx_DF, rx_FK) q) : ax_Row ax_wM0 (ax_XM 0) rx_P ax_APM0 rx_P (rx_DF, rx_FK) rxm_75 (axm_75, []) := fun hr => ⟨ax_tabB_ok axt_75, fun hL => ax_con_nil⟩
theorem axr0_76 (hP : ∀ q ∈ rx_P, rx_QW q ∧ rx_ST rx_P (rx_DF, rx_FK) q) : ax_Row ax_wM0 (ax_XM 0) rx_P ax_APM0 rx_P (rx_DF, rx_FK) rxm_76 (axm_76, []) := fun hr => ⟨ax_tabB_ok axt_76, fun hL => ax_con_nil⟩
theorem axr0_77 (hP : ∀ q ∈ rx_P, rx_QW q ∧ rx_ST rx_P (rx_DF, rx_FK) q) : ax_Row ax_wM0 (ax_XM 0) rx_P ax_APM0 rx_P (rx_DF, rx_FK) rxm_77 (axm_77, []) := fun hr => ⟨ax_tabB_ok axt_77, fun hL => ax_con_nil⟩
theorem axr0_78 (hP : ∀ q ∈ rx_P, rx_QW q ∧ rx_ST rx_P (rx_DF, rx_FK) q) : ax_Row ax_wM0 (ax_XM 0) rx_P ax_APM0 rx_P (rx_DF, rx_FK) rxm_78 (axm_78, []) := fun hr => ⟨ax_tabB_ok axt_78, fun hL => ax_con_nil⟩
theorem axr0_79 (hP : ∀ q ∈ rx_P, rx_QW q ∧ rx_ST rx_P (rx_DF, rx_FK) q) : ax_Row ax_wM0 (ax_XM 0) rx_P ax_APM0 rx_P (rx_DF, rx_FK) rxm_79 (axm_79, []) := fun hr => ⟨ax_tabB_ok axt_79, fun hL => ax_con_nil⟩
theorem axr0_80 (hP : ∀ q ∈ rx_P, rx_QW q ∧ rx_ST rx_P (rx_DF, rx_FK) q) : ax_Row ax_wM0 (ax_XM 0) rx_P ax_APM0 rx_P (rx_DF, rx_FK) rxm_80 (axm_80, []) := fun hr => ⟨ax_tabB_ok axt_80, fun hL => ax_con_nil⟩
theorem axr0_81 (hP : ∀ q ∈ rx_P, rx_QW q ∧ rx_ST rx_P (rx_DF, rx_FK) q) : ax_Row ax_wM0 (ax_XM 0) rx_P ax_APM0 rx_P (rx_DF, rx_FK) rxm_81 (axm_81, []) := fun hr => ⟨ax_tabB_ok axt_81, fun hL => ax_con_nil⟩
theorem axr0_82 (hP : ∀ q ∈ rx_P, rx_QW q ∧ rx_ST rx_P (rx_DF, rx_FK) q) : ax_Row ax_wM0 (ax_XM 0) rx_P ax_APM0 rx_P (rx_DF, rx_FK) rxm_82 (axm_82, []) := fun hr => ⟨ax_tabB_ok axt_82, fun hL => ax_con_nil⟩
theorem axr0_83 (hP : ∀ q ∈ rx_P, rx_QW q ∧ rx_ST rx_P (rx_DF, rx_FK) q) : ax_Row ax_wM0 (ax_XM 0) rx_P ax_APM0 rx_P (rx_DF, rx_FK) rxm_83 (axm_83, []) := fun hr => ⟨ax_tabB_ok axt_83, fun hL => ax_con_nil⟩
theorem axr0_84 (hP : ∀ q ∈ rx_P, rx_QW q ∧ rx_ST rx_P (rx_DF, rx_FK) q) : ax_Row ax_wM0 (ax_XM 0) rx_P ax_APM0 rx_P (rx_DF, rx_FK) rxm_84 (axm_84, []) := fun hr => ⟨ax_tabB_ok axt_84, fun hL => ax_con_nil⟩
theorem axr0_85 (hP : ∀ q ∈ rx_P, rx_QW q ∧ rx_ST rx_P (rx_DF, rx_FK) q) : ax_Row ax_wM0 (ax_XM 0) rx_P ax_APM0 rx_P (rx_DF, rx_FK) rxm_85 (axm_85, []) := fun hr => ⟨ax_tabB_ok axt_85, fun hL => ax_con_nil⟩
theorem axr0_86 (hP : ∀ q ∈ rx_P, rx_QW q ∧ rx_ST rx_P (rx_DF, rx_FK) q) : ax_Row ax_wM0 (ax_XM 0) rx_P ax_APM0 rx_P (rx_DF, rx_FK) rxm_86 (axm_86, []) := fun hr => ⟨ax_tabB_ok axt_86, fun hL => ax_con_nil⟩
theorem axr0_87 (hP : ∀ q ∈ rx_P, rx_QW q ∧ rx_ST rx_P (rx_DF, rx_FK) q) : ax_Row ax_wM0 (ax_XM 0) rx_P ax_APM0 rx_P (rx_DF, rx_FK) rxm_87 (axm_87, []) := fun hr => ⟨ax_tabB_ok axt_87, fun hL => ax_con_nil⟩
theorem axr0_88 (hP : ∀ q ∈ rx_P, rx_QW q ∧ rx_ST rx_P (rx_DF, rx_FK) q) : ax_Row ax_wM0 (ax_XM 0) rx_P ax_APM0 rx_P (rx_DF, rx_FK) rxm_88 (axm_88, []) := fun hr => ⟨ax_tabB_ok axt_88, fun hL => ax_con_nil⟩
theorem axr0_89 (hP : ∀ q ∈ rx_P, rx_QW q ∧ rx_ST rx_P (rx_DF, rx_FK) q) : ax_Row ax_wM0 (ax_XM 0) rx_P ax_APM0 rx_P (rx_DF, rx_FK) rxm_89 (axm_89, []) := fun hr => ⟨ax_tabB_ok axt_89, fun hL => ax_con_nil⟩
theorem axr0_90 (hP : ∀ q ∈ rx_P, rx_QW q ∧ rx_ST rx_P (rx_DF, rx_FK) q) : ax_Row ax_wM0 (ax_XM 0) rx_P ax_APM0 rx_P (rx_DF, rx_FK) rxm_90 (axm_90, []) := fun hr => ⟨ax_tabB_ok axt_90, fun hL => ax_con_nil⟩
theorem axr0_91 (hP : ∀ q ∈ rx_P, rx_QW q ∧ rx_ST rx_P (rx_DF, rx_FK) q) : ax_Row ax_wM0 (ax_XM 0) rx_P ax_APM0 rx_P (rx_DF, rx_FK) rxm_91 (axm_91, []) := fun hr => ⟨ax_tabB_ok axt_91, fun hL => ax_con_nil⟩
theorem axr0_92 (hP : ∀ q ∈ rx_P, rx_QW q ∧ rx_ST rx_P (rx_DF, rx_FK) q) : ax_Row ax_wM0 (ax_XM 0) rx_P ax_APM0 rx_P (rx_DF, rx_FK) rxm_92 (axm_92, []) := fun hr => ⟨ax_tabB_ok axt_92, fun hL => ax_con_nil⟩
theorem axr0_93 (hP : ∀ q ∈ rx_P, rx_QW q ∧ rx_ST rx_P (rx_DF, rx_FK) q) : ax_Row ax_wM0 (ax_XM 0) rx_P ax_APM0 rx_P (rx_DF, rx_FK) rxm_93 (axm_93, []) := fun hr => ⟨ax_tabB_ok axt_93, fun hL => ax_con_nil⟩
theorem axr0_94 (hP : ∀ q ∈ rx_P, rx_QW q ∧ rx_ST rx_P (rx_DF, rx_FK) q) : ax_Row ax_wM0 (ax_XM 0) rx_P ax_APM0 rx_P (rx_DF, rx_FK) rxm_94 (axm_94, []) := fun hr => ⟨ax_tabB_ok axt_94, fun hL => ax_con_nil⟩
theorem axr0_95 (hP : ∀ q ∈ rx_P, rx_QW q ∧ rx_ST rx_P (rx_DF, rx_FK) q) : ax_Row ax_wM0 (ax_XM 0) rx_P ax_APM0 rx_P (rx_DF, rx_FK) rxm_95 (axm_95, []) := fun hr => ⟨ax_tabB_ok axt_95, fun hL => ax_con_nil⟩
theorem axr0_96 (hP : ∀ q ∈ rx_P, rx_QW q ∧ rx_ST rx_P (rx_DF, rx_FK) q) : ax_Row ax_wM0 (ax_XM 0) rx_P ax_APM0 rx_P (rx_DF, rx_FK) rxm_96 (axm_96, []) := fun hr => ⟨ax_tabB_ok axt_96, fun hL => ax_con_nil⟩
theorem axr0_97 (hP : ∀ q ∈ rx_P, rx_QW q ∧ rx_ST rx_P (rx_DF, rx_FK) q) : ax_Row ax_wM0 (ax_XM 0) rx_P ax_APM0 rx_P (rx_DF, rx_FK) rxm_97 (axm_97, []) := fun hr => ⟨ax_tabB_ok axt_97, fun hL => ax_con_nil⟩
theorem axr0_98 (hP : ∀ q ∈ rx_P, rx_QW q ∧ rx_ST rx_P (rx_DF, rx_FK) q) : ax_Row ax_wM0 (ax_XM 0) rx_P ax_APM0 rx_P (rx_DF, rx_FK) rxm_98 (axm_98, []) := fun hr => ⟨ax_tabB_ok axt_98, fun hL => ax_con_nil⟩
theorem axr0_99 (hP : ∀ q ∈ rx_P, rx_QW q ∧ rx_ST rx_P (rx_DF, rx_FK) q) : ax_Row ax_wM0 (ax_XM 0) rx_P ax_APM0 rx_P (rx_DF, rx_FK) rxm_99 (axm_99, []) := fun hr => ⟨ax_tabB_ok axt_99, fun hL => ax_con_nil⟩
theorem axr0_100 (hP : ∀ q ∈ rx_P, rx_QW q ∧ rx_ST rx_P (rx_DF, rx_FK) q) : ax_Row ax_wM0 (ax_XM 0) rx_P ax_APM0 rx_P (rx_DF, rx_FK) rxm_100 (axm_100, []) := fun hr => ⟨ax_tabB_ok axt_100, fun hL => ax_con_nil⟩
theorem axr0_101 (hP : ∀ q ∈ rx_P, rx_QW q ∧ rx_ST rx_P (rx_DF, rx_FK) q) : ax_Row ax_wM0 (ax_XM 0) rx_P ax_APM0 rx_P (rx_DF, rx_FK) rxm_101 (axm_101, []) := fun hr => ⟨ax_tabB_ok axt_101, fun hL => ax_con_nil⟩
theorem axr0_102 (hP : ∀ q ∈ rx_P, rx_QW q ∧ rx_ST rx_P (rx_DF, rx_FK) q) : ax_Row ax_wM0 (ax_XM 0) rx_P ax_APM0 rx_P (rx_DF, rx_FK) rxm_102 (axm_102, []) := fun hr => ⟨ax_tabB_ok axt_102, fun hL => ax_con_nil⟩
theorem axr0_103 (hP : ∀ q ∈ rx_P, rx_QW q ∧ rx_ST rx_P (rx_DF, rx_FK) q) : ax_Row ax_wM0 (ax_XM 0) rx_P ax_APM0 rx_P (rx_DF, rx_FK) rxm_103 (axm_103, []) := fun hr => ⟨ax_tabB_ok axt_103, fun hL => ax_con_nil⟩
theorem axr0_104 (hP : ∀ q ∈ rx_P, rx_QW q ∧ rx_ST rx_P (rx_DF, rx_FK) q) : ax_Row ax_wM0 (ax_XM 0) rx_P ax_APM0 rx_P (rx_DF, rx_FK) rxm_104 (axm_104, []) := fun hr => ⟨ax_tabB_ok axt_104, fun hL => ax_con_nil⟩
theorem axr0_105 (hP : ∀ q ∈ rx_P, rx_QW q ∧ rx_ST rx_P (rx_DF, rx_FK) q) : ax_Row ax_wM0 (ax_XM 0) rx_P ax_APM0 rx_P (rx_DF, rx_FK) rxm_105 (axm_105, []) := fun hr => ⟨ax_tabB_ok axt_105, fun hL => ax_con_nil⟩
theorem axr0_106 (hP : ∀ q ∈ rx_P, rx_QW q ∧ rx_ST rx_P (rx_DF, rx_FK) q) : ax_Row ax_wM0 (ax_XM 0) rx_P ax_APM0 rx_P (rx_DF, rx_FK) rxm_106 (axm_106, []) := fun hr => ⟨ax_tabB_ok axt_106, fun hL => ax_con_nil⟩
theorem axr0_107 (hP : ∀ q ∈ rx_P, rx_QW q ∧ rx_ST rx_P (rx_DF, rx_FK) q) : ax_Row ax_wM0 (ax_XM 0) rx_P ax_APM0 rx_P (rx_DF, rx_FK) rxm_107 (axm_107, []) := fun hr => ⟨ax_tabB_ok axt_107, fun hL => ax_con_nil⟩
theorem axr0_108 (hP : ∀ q ∈ rx_P, rx_QW q ∧ rx_ST rx_P (rx_DF, rx_FK) q) : ax_Row ax_wM0 (ax_XM 0) rx_P ax_APM0 rx_P (rx_DF, rx_FK) rxm_108 (axm_108, []) := fun hr => ⟨ax_tabB_ok axt_108, fun hL => ax_con_nil⟩
theorem axr0_109 (hP : ∀ q ∈ rx_P, rx_QW q ∧ rx_ST rx_P (rx_DF, rx_FK) q) : ax_Row ax_wM0 (ax_XM 0) rx_P ax_APM0 rx_P (rx_DF, rx_FK) rxm_109 (axm_109, []) := fun hr => ⟨ax_tabB_ok axt_109, fun hL => ax_con_nil⟩
theorem axr0_110 (hP : ∀ q ∈ rx_P, rx_QW q ∧ rx_ST rx_P (rx_DF, rx_FK) q) : ax_Row ax_wM0 (ax_XM 0) rx_P ax_APM0 rx_P (rx_DF, rx_FK) rxm_110 (axm_110, []) := fun hr => ⟨ax_tabB_ok axt_110, fun hL => ax_con_nil⟩
theorem axr0_111 (hP : ∀ q ∈ rx_P, rx_QW q ∧ rx_ST rx_P (rx_DF, rx_FK) q) : ax_Row ax_wM0 (ax_XM 0) rx_P ax_APM0 rx_P (rx_DF, rx_FK) rxm_111 (axm_111, []) := fun hr => ⟨ax_tabB_ok axt_111, fun hL => ax_con_nil⟩
-- TurnNetModel.aboveOf: 86 steps
set_option maxRecDepth 4000 in
theorem axk0_112_0 : ax_chk ax_wM0 rx_P (rx_DF, rx_FK) ax_APM0 (rx_n rxm_112) axm_112 (([702, 3], (1, [(0, 2147483648, 2147483657)], [], [], [])), [], [([7], (2, [(0, 0, 4294967295), (0, 2147483648, 2147483657)], [], [], []))]) [] [4] 3000 1 (([((4, 1, 2, ([702, 3, 7, 11], (3, [(0, 2147483648, 2147483658), (0, 0, 4294967295), (0, 2147483648, 2147483657)], [], [], []))), ())] : List ((Nat × Nat × Nat × ax_T) × ax_Tr 0)) : ax_Tr 1) = true := by decide +kernel
theorem axr0_112 (hP : ∀ q ∈ rx_P, rx_QW q ∧ rx_ST rx_P (rx_DF, rx_FK) q) : ax_Row ax_wM0 (ax_XM 0) rx_P ax_APM0 rx_P (rx_DF, rx_FK) rxm_112 (axm_112, axc0_112) := fun hr => ⟨ax_tabB_ok axt_112, fun hL => ax_con_cons (ax_chk_ok hP ax_XM0_ok hr hL (ax_tabB_ok axt_112) ax_ro_nil axk0_112_0) (ax_con_nil)⟩
set_option maxRecDepth 4000 in
theorem axs0_113_0 : ∀ x ∈ ([axu0_hzback, axu0_bR1, axu0_bR2, axu0_bR3, axu0_sgback] : List ax_RL), ax_RO ax_wM0 (ax_XM 0) x := ax_ro_cons axq0_hzback (ax_ro_cons axq0_bR1 (ax_ro_cons axq0_bR2 (ax_ro_cons axq0_bR3 (ax_ro_cons axq0_sgback (ax_ro_nil)))))
-- TurnNetModel.back: 115 steps
set_option maxRecDepth 4000 in
theorem axk0_113_0 : ax_chk ax_wM0 rx_P (rx_DF, rx_FK) ax_APM0 (rx_n rxm_113) axm_113 (([702, 3], (1, [(0, 0, 4294967295)], [], [], [(0, [80]), (1, []), (2, []), (25, []), (26, [])])), [(11, 56), (11, 57), (44, 999)], [([7], (2, [(0, 0, 4294967295), (0, 0, 4294967295)], [], [], [(0, [80]), (1, []), (2, []), (25, []), (26, [])]))]) [axu0_hzback, axu0_bR1, axu0_bR2, axu0_bR3, axu0_sgback] [22] 3000 1 (([((22, 1, 1, ([702, 3, 7], (3, [(0, 2147483649, 2147483649), (0, 2147483648, 2147483847), (0, 2147483648, 2147483649)], [(826, 3, 11), (702, 220, 826)], [], [(2, []), (0, [80]), (1, []), (25, []), (26, [])]))), ())] : List ((Nat × Nat × Nat × ax_T) × ax_Tr 0)) : ax_Tr 1) = true := by decide +kernel
theorem axr0_113 (hP : ∀ q ∈ rx_P, rx_QW q ∧ rx_ST rx_P (rx_DF, rx_FK) q) : ax_Row ax_wM0 (ax_XM 0) rx_P ax_APM0 rx_P (rx_DF, rx_FK) rxm_113 (axm_113, axc0_113) := fun hr => ⟨ax_tabB_ok axt_113, fun hL => ax_con_cons (ax_chk_ok hP ax_XM0_ok hr hL (ax_tabB_ok axt_113) axs0_113_0 axk0_113_0) (ax_con_nil)⟩
theorem axr0_114 (hP : ∀ q ∈ rx_P, rx_QW q ∧ rx_ST rx_P (rx_DF, rx_FK) q) : ax_Row ax_wM0 (ax_XM 0) rx_P ax_APM0 rx_P (rx_DF, rx_FK) rxm_114 (axm_114, axc0_114) := fun hr => ⟨ax_tabB_ok axt_114, fun hL => ax_con_nil⟩
theorem axr0_115 (hP : ∀ q ∈ rx_P, rx_QW q ∧ rx_ST rx_P (rx_DF, rx_FK) q) : ax_Row ax_wM0 (ax_XM 0) rx_P ax_APM0 rx_P (rx_DF, rx_FK) rxm_115 (axm_115, axc0_115) := fun hr => ⟨ax_tabB_ok axt_115, fun hL => ax_con_nil⟩
-- TurnNetModel.flips: 39 steps
set_option maxRecDepth 4000 in
theorem axk0_116_0 : ax_chk ax_wM0 rx_P (rx_DF, rx_FK) ax_APM0 (rx_n rxm_116) axm_116 (([702], (0, [], [], [], [])), [], [([3], (1, [(0, 0, 4294967295)], [], [], []))]) [] [4] 3000 1 (([((4, 1, 1, ([702, 3, 7], (2, [(0, 2147483648, 2147483668), (0, 0, 4294967295)], [], [], []))), ())] : List ((Nat × Nat × Nat × ax_T) × ax_Tr 0)) : ax_Tr 1) = true := by decide +kernel
theorem axr0_116 (hP : ∀ q ∈ rx_P, rx_QW q ∧ rx_ST rx_P (rx_DF, rx_FK) q) : ax_Row ax_wM0 (ax_XM 0) rx_P ax_APM0 rx_P (rx_DF, rx_FK) rxm_116 (axm_116, axc0_116) := fun hr => ⟨ax_tabB_ok axt_116, fun hL => ax_con_cons (ax_chk_ok hP ax_XM0_ok hr hL (ax_tabB_ok axt_116) ax_ro_nil axk0_116_0) (ax_con_nil)⟩
-- TurnNetModel.goSend: 40 steps
set_option maxRecDepth 4000 in
theorem axk0_117_0 : ax_chk ax_wM0 rx_P (rx_DF, rx_FK) ax_APM0 (rx_n rxm_117) axm_117 (([702, 3, 7], (2, [(0, 2147483648, 2147483657), (0, 2147483648, 2147483657)], [], [], [(3, [])])), [(44, 999)], [([11], (3, [(0, 2147483648, 2147483659), (0, 2147483648, 2147483657), (0, 2147483648, 2147483657)], [], [], []))]) [] [] 3000 0 (() : ax_Tr 0) = true := by decide +kernel
theorem axr0_117 (hP : ∀ q ∈ rx_P, rx_QW q ∧ rx_ST rx_P (rx_DF, rx_FK) q) : ax_Row ax_wM0 (ax_XM 0) rx_P ax_APM0 rx_P (rx_DF, rx_FK) rxm_117 (axm_117, axc0_117) := fun hr => ⟨ax_tabB_ok axt_117, fun hL => ax_con_cons (ax_chk_ok hP ax_XM0_ok hr hL (ax_tabB_ok axt_117) ax_ro_nil axk0_117_0) (ax_con_nil)⟩
set_option maxRecDepth 4000 in
theorem axs0_118_0 : ∀ x ∈ ([axu0_bS0, axu0_bS1, axu0_bS2, axu0_bS3, axu0_bS4, axu0_sgimage] : List ax_RL), ax_RO ax_wM0 (ax_XM 0) x := ax_ro_cons axq0_bS0 (ax_ro_cons axq0_bS1 (ax_ro_cons axq0_bS2 (ax_ro_cons axq0_bS3 (ax_ro_cons axq0_bS4 (ax_ro_cons axq0_sgimage (ax_ro_nil))))))
-- TurnNetModel.image: 107 steps
set_option maxRecDepth 4000 in
theorem axk0_118_0 : ax_chk ax_wM0 rx_P (rx_DF, rx_FK) ax_APM0 (rx_n rxm_118) axm_118 (([702, 3], (1, [(0, 0, 4294967295)], [], [], [(0, [80]), (1, []), (2, []), (25, []), (26, [])])), [(73, 999), (74, 999)], [([7], (2, [(0, 0, 4294967295), (0, 0, 4294967295)], [], [], [(0, [80]), (1, []), (2, []), (25, []), (26, [])]))]) [axu0_bS0, axu0_bS1, axu0_bS2, axu0_bS3, axu0_bS4, axu0_sgimage] [13] 3000 1 (([((13, 1, 1, ([702, 3, 7], (2, [(0, 2147483648, 2147483847), (0, 2147483648, 2147483649)], [], [], [(2, []), (0, [80]), (1, []), (25, []), (26, [])]))), ())] : List ((Nat × Nat × Nat × ax_T) × ax_Tr 0)) : ax_Tr 1) = true := by decide +kernel
theorem axr0_118 (hP : ∀ q ∈ rx_P, rx_QW q ∧ rx_ST rx_P (rx_DF, rx_FK) q) : ax_Row ax_wM0 (ax_XM 0) rx_P ax_APM0 rx_P (rx_DF, rx_FK) rxm_118 (axm_118, axc0_118) := fun hr => ⟨ax_tabB_ok axt_118, fun hL => ax_con_cons (ax_chk_ok hP ax_XM0_ok hr hL (ax_tabB_ok axt_118) axs0_118_0 axk0_118_0) (ax_con_nil)⟩
-- TurnNetModel.isAt: 5 steps
set_option maxRecDepth 4000 in
theorem axk0_119_8 : ax_chk ax_wM0 rx_P (rx_DF, rx_FK) ax_APM0 (rx_n rxm_119) axm_119 (([702, 236], (1, [(0, 2147483649, 2147483652)], [(702, 72, 3)], [], [])), [], [([0], (1, [(0, 2147483649, 2147483652)], [(702, 72, 3)], [], []))]) [] [] 3000 0 (() : ax_Tr 0) = true := by decide +kernel
set_option maxRecDepth 4000 in
theorem axs0_119_7 : ∀ x ∈ ([axu0_ia1_37, axu0_ia2a_37, axu0_ia2b_37, axu0_ia3a_37, axu0_ia3b_37, axu0_ia4_37] : List ax_RL), ax_RO ax_wM0 (ax_XM 0) x := ax_ro_cons axq0_ia1_37 (ax_ro_cons axq0_ia2a_37 (ax_ro_cons axq0_ia2b_37 (ax_ro_cons axq0_ia3a_37 (ax_ro_cons axq0_ia3b_37 (ax_ro_cons axq0_ia4_37 (ax_ro_nil))))))
-- TurnNetModel.isAt: 40 steps
set_option maxRecDepth 4000 in
theorem axk0_119_7 : ax_chk ax_wM0 rx_P (rx_DF, rx_FK) ax_APM0 (rx_n rxm_119) axm_119 (([702, 148], (3, [(0, 2147483648, 2147483648), (1, 0, 0), (1, 0, 0)], [(702, 72, 11)], [], [(131, [3]), (151, [3, 7])])), [], [([0], (3, [(0, 2147483648, 2147483648), (1, 0, 0), (1, 0, 0)], [(702, 72, 11)], [], [(169, [3, 7, 148])])), ([4], (3, [(0, 2147483648, 2147483648), (1, 0, 0), (1, 0, 0)], [(702, 72, 11)], [], [(168, [3, 7, 148])]))]) [axu0_ia1_37, axu0_ia2a_37, axu0_ia2b_37, axu0_ia3a_37, axu0_ia3b_37, axu0_ia4_37] [] 3000 0 (() : ax_Tr 0) = true := by decide +kernel
set_option maxRecDepth 4000 in
theorem axs0_119_6 : ∀ x ∈ ([axu0_ia1_47, axu0_ia2a_47, axu0_ia2b_47, axu0_ia3a_47, axu0_ia3b_47, axu0_ia4_47] : List ax_RL), ax_RO ax_wM0 (ax_XM 0) x := ax_ro_cons axq0_ia1_47 (ax_ro_cons axq0_ia2a_47 (ax_ro_cons axq0_ia2b_47 (ax_ro_cons axq0_ia3a_47 (ax_ro_cons axq0_ia3b_47 (ax_ro_cons axq0_ia4_47 (ax_ro_nil))))))
-- TurnNetModel.isAt: 40 steps
set_option maxRecDepth 4000 in
theorem axk0_119_6 : ax_chk ax_wM0 rx_P (rx_DF, rx_FK) ax_APM0 (rx_n rxm_119) axm_119 (([702, 188], (3, [(0, 2147483648, 2147483648), (1, 0, 0), (1, 0, 0)], [(702, 72, 11)], [], [(131, [3]), (151, [3, 7])])), [], [([0], (3, [(0, 2147483648, 2147483648), (1, 0, 0), (1, 0, 0)], [(702, 72, 11)], [], [(169, [3, 7, 188])])), ([4], (3, [(0, 2147483648, 2147483648), (1, 0, 0), (1, 0, 0)], [(702, 72, 11)], [], [(168, [3, 7, 188])]))]) [axu0_ia1_47, axu0_ia2a_47, axu0_ia2b_47, axu0_ia3a_47, axu0_ia3b_47, axu0_ia4_47] [] 3000 0 (() : ax_Tr 0) = true := by decide +kernel
set_option maxRecDepth 4000 in
theorem axs0_119_5 : ∀ x ∈ ([axu0_ia1_42, axu0_ia2a_42, axu0_ia2b_42, axu0_ia3a_42, axu0_ia3b_42, axu0_ia4_42] : List ax_RL), ax_RO ax_wM0 (ax_XM 0) x := ax_ro_cons axq0_ia1_42 (ax_ro_cons axq0_ia2a_42 (ax_ro_cons axq0_ia2b_42 (ax_ro_cons axq0_ia3a_42 (ax_ro_cons axq0_ia3b_42 (ax_ro_cons axq0_ia4_42 (ax_ro_nil))))))
-- TurnNetModel.isAt: 40 steps
set_option maxRecDepth 4000 in
theorem axk0_119_5 : ax_chk ax_wM0 rx_P (rx_DF, rx_FK) ax_APM0 (rx_n rxm_119) axm_119 (([702, 168], (3, [(0, 2147483648, 2147483648), (1, 0, 0), (1, 0, 0)], [(702, 72, 11)], [], [(131, [3]), (151, [3, 7])])), [], [([0], (3, [(0, 2147483648, 2147483648), (1, 0, 0), (1, 0, 0)], [(702, 72, 11)], [], [(169, [3, 7, 168])])), ([4], (3, [(0, 2147483648, 2147483648), (1, 0, 0), (1, 0, 0)], [(702, 72, 11)], [], [(168, [3, 7, 168])]))]) [axu0_ia1_42, axu0_ia2a_42, axu0_ia2b_42, axu0_ia3a_42, axu0_ia3b_42, axu0_ia4_42] [] 3000 0 (() : ax_Tr 0) = true := by decide +kernel
set_option maxRecDepth 4000 in
theorem axs0_119_4 : ∀ x ∈ ([axu0_ia1_45, axu0_ia2a_45, axu0_ia2b_45, axu0_ia3a_45, axu0_ia3b_45, axu0_ia4_45] : List ax_RL), ax_RO ax_wM0 (ax_XM 0) x := ax_ro_cons axq0_ia1_45 (ax_ro_cons axq0_ia2a_45 (ax_ro_cons axq0_ia2b_45 (ax_ro_cons axq0_ia3a_45 (ax_ro_cons axq0_ia3b_45 (ax_ro_cons axq0_ia4_45 (ax_ro_nil))))))
-- TurnNetModel.isAt: 40 steps
set_option maxRecDepth 4000 in
theorem axk0_119_4 : ax_chk ax_wM0 rx_P (rx_DF, rx_FK) ax_APM0 (rx_n rxm_119) axm_119 (([702, 180], (3, [(0, 2147483648, 2147483648), (1, 0, 0), (1, 0, 0)], [(702, 72, 11)], [], [(131, [3]), (151, [3, 7])])), [], [([0], (3, [(0, 2147483648, 2147483648), (1, 0, 0), (1, 0, 0)], [(702, 72, 11)], [], [(169, [3, 7, 180])])), ([4], (3, [(0, 2147483648, 2147483648), (1, 0, 0), (1, 0, 0)], [(702, 72, 11)], [], [(168, [3, 7, 180])]))]) [axu0_ia1_45, axu0_ia2a_45, axu0_ia2b_45, axu0_ia3a_45, axu0_ia3b_45, axu0_ia4_45] [] 3000 0 (() : ax_Tr 0) = true := by decide +kernel
set_option maxRecDepth 4000 in
theorem axs0_119_3 : ∀ x ∈ ([axu0_ia1_43, axu0_ia2a_43, axu0_ia2b_43, axu0_ia3a_43, axu0_ia3b_43, axu0_ia4_43] : List ax_RL), ax_RO ax_wM0 (ax_XM 0) x := ax_ro_cons axq0_ia1_43 (ax_ro_cons axq0_ia2a_43 (ax_ro_cons axq0_ia2b_43 (ax_ro_cons axq0_ia3a_43 (ax_ro_cons axq0_ia3b_43 (ax_ro_cons axq0_ia4_43 (ax_ro_nil))))))
-- TurnNetModel.isAt: 40 steps
set_option maxRecDepth 4000 in
theorem axk0_119_3 : ax_chk ax_wM0 rx_P (rx_DF, rx_FK) ax_APM0 (rx_n rxm_119) axm_119 (([702, 172], (3, [(0, 2147483648, 2147483648), (1, 0, 0), (1, 0, 0)], [(702, 72, 11)], [], [(131, [3]), (151, [3, 7])])), [], [([0], (3, [(0, 2147483648, 2147483648), (1, 0, 0), (1, 0, 0)], [(702, 72, 11)], [], [(169, [3, 7, 172])])), ([4], (3, [(0, 2147483648, 2147483648), (1, 0, 0), (1, 0, 0)], [(702, 72, 11)], [], [(168, [3, 7, 172])]))]) [axu0_ia1_43, axu0_ia2a_43, axu0_ia2b_43, axu0_ia3a_43, axu0_ia3b_43, axu0_ia4_43] [] 3000 0 (() : ax_Tr 0) = true := by decide +kernel
set_option maxRecDepth 4000 in
theorem axs0_119_2 : ∀ x ∈ ([axu0_ia1_41, axu0_ia2a_41, axu0_ia2b_41, axu0_ia3a_41, axu0_ia3b_41, axu0_ia4_41] : List ax_RL), ax_RO ax_wM0 (ax_XM 0) x := ax_ro_cons axq0_ia1_41 (ax_ro_cons axq0_ia2a_41 (ax_ro_cons axq0_ia2b_41 (ax_ro_cons axq0_ia3a_41 (ax_ro_cons axq0_ia3b_41 (ax_ro_cons axq0_ia4_41 (ax_ro_nil))))))
-- TurnNetModel.isAt: 40 steps
set_option maxRecDepth 4000 in
theorem axk0_119_2 : ax_chk ax_wM0 rx_P (rx_DF, rx_FK) ax_APM0 (rx_n rxm_119) axm_119 (([702, 164], (3, [(0, 2147483648, 2147483648), (1, 0, 0), (1, 0, 0)], [(702, 72, 11)], [], [(131, [3]), (151, [3, 7])])), [], [([0], (3, [(0, 2147483648, 2147483648), (1, 0, 0), (1, 0, 0)], [(702, 72, 11)], [], [(169, [3, 7, 164])])), ([4], (3, [(0, 2147483648, 2147483648), (1, 0, 0), (1, 0, 0)], [(702, 72, 11)], [], [(168, [3, 7, 164])]))]) [axu0_ia1_41, axu0_ia2a_41, axu0_ia2b_41, axu0_ia3a_41, axu0_ia3b_41, axu0_ia4_41] [] 3000 0 (() : ax_Tr 0) = true := by decide +kernel
set_option maxRecDepth 4000 in
theorem axs0_119_1 : ∀ x ∈ ([axu0_ia1_40, axu0_ia2a_40, axu0_ia2b_40, axu0_ia3a_40, axu0_ia3b_40, axu0_ia4_40] : List ax_RL), ax_RO ax_wM0 (ax_XM 0) x := ax_ro_cons axq0_ia1_40 (ax_ro_cons axq0_ia2a_40 (ax_ro_cons axq0_ia2b_40 (ax_ro_cons axq0_ia3a_40 (ax_ro_cons axq0_ia3b_40 (ax_ro_cons axq0_ia4_40 (ax_ro_nil))))))
-- TurnNetModel.isAt: 40 steps
set_option maxRecDepth 4000 in
theorem axk0_119_1 : ax_chk ax_wM0 rx_P (rx_DF, rx_FK) ax_APM0 (rx_n rxm_119) axm_119 (([702, 160], (3, [(0, 2147483648, 2147483648), (1, 0, 0), (1, 0, 0)], [(702, 72, 11)], [], [(131, [3]), (151, [3, 7])])), [], [([0], (3, [(0, 2147483648, 2147483648), (1, 0, 0), (1, 0, 0)], [(702, 72, 11)], [], [(169, [3, 7, 160])])), ([4], (3, [(0, 2147483648, 2147483648), (1, 0, 0), (1, 0, 0)], [(702, 72, 11)], [], [(168, [3, 7, 160])]))]) [axu0_ia1_40, axu0_ia2a_40, axu0_ia2b_40, axu0_ia3a_40, axu0_ia3b_40, axu0_ia4_40] [] 3000 0 (() : ax_Tr 0) = true := by decide +kernel
set_option maxRecDepth 4000 in
theorem axs0_119_0 : ∀ x ∈ ([axu0_ia1_59, axu0_ia2a_59, axu0_ia2b_59, axu0_ia3a_59, axu0_ia3b_59, axu0_ia4_59] : List ax_RL), ax_RO ax_wM0 (ax_XM 0) x := ax_ro_cons axq0_ia1_59 (ax_ro_cons axq0_ia2a_59 (ax_ro_cons axq0_ia2b_59 (ax_ro_cons axq0_ia3a_59 (ax_ro_cons axq0_ia3b_59 (ax_ro_cons axq0_ia4_59 (ax_ro_nil))))))
-- TurnNetModel.isAt: 40 steps
set_option maxRecDepth 4000 in
theorem axk0_119_0 : ax_chk ax_wM0 rx_P (rx_DF, rx_FK) ax_APM0 (rx_n rxm_119) axm_119 (([702, 236], (3, [(0, 2147483648, 2147483648), (1, 0, 0), (1, 0, 0)], [(702, 72, 11)], [], [(131, [3]), (151, [3, 7])])), [], [([0], (3, [(0, 2147483648, 2147483648), (1, 0, 0), (1, 0, 0)], [(702, 72, 11)], [], [(169, [3, 7, 236])])), ([4], (3, [(0, 2147483648, 2147483648), (1, 0, 0), (1, 0, 0)], [(702, 72, 11)], [], [(168, [3, 7, 236])]))]) [axu0_ia1_59, axu0_ia2a_59, axu0_ia2b_59, axu0_ia3a_59, axu0_ia3b_59, axu0_ia4_59] [] 3000 0 (() : ax_Tr 0) = true := by decide +kernel
theorem axr0_119 (hP : ∀ q ∈ rx_P, rx_QW q ∧ rx_ST rx_P (rx_DF, rx_FK) q) : ax_Row ax_wM0 (ax_XM 0) rx_P ax_APM0 rx_P (rx_DF, rx_FK) rxm_119 (axm_119, axc0_119) := fun hr => ⟨ax_tabB_ok axt_119, fun hL => ax_con_cons (ax_chk_ok hP ax_XM0_ok hr hL (ax_tabB_ok axt_119) axs0_119_0 axk0_119_0) (ax_con_cons (ax_chk_ok hP ax_XM0_ok hr hL (ax_tabB_ok axt_119) axs0_119_1 axk0_119_1) (ax_con_cons (ax_chk_ok hP ax_XM0_ok hr hL (ax_tabB_ok axt_119) axs0_119_2 axk0_119_2) (ax_con_cons (ax_chk_ok hP ax_XM0_ok hr hL (ax_tabB_ok axt_119) axs0_119_3 axk0_119_3) (ax_con_cons (ax_chk_ok hP ax_XM0_ok hr hL (ax_tabB_ok axt_119) axs0_119_4 axk0_119_4) (ax_con_cons (ax_chk_ok hP ax_XM0_ok hr hL (ax_tabB_ok axt_119) axs0_119_5 axk0_119_5) (ax_con_cons (ax_chk_ok hP ax_XM0_ok hr hL (ax_tabB_ok axt_119) axs0_119_6 axk0_119_6) (ax_con_cons (ax_chk_ok hP ax_XM0_ok hr hL (ax_tabB_ok axt_119) axs0_119_7 axk0_119_7) (ax_con_cons (ax_chk_ok hP ax_XM0_ok hr hL (ax_tabB_ok axt_119) ax_ro_nil axk0_119_8) (ax_con_nil)))))))))⟩
end
