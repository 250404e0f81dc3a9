theorem axq0_mw2 : ax_RO ax_wM0 (ax_XM 0) axu0_mw2 := by
  intro ρ hp hE hT
  have j0 : ρ 0 % 4 = 1 := pz_gj hE 0 (Nat.le_of_ble_eq_true rfl) rfl
  have j1 : ρ 1 % 4 = 1 := pz_gj hE 1 (Nat.le_of_ble_eq_true rfl) rfl
  have j2 : ρ 2 % 4 = 1 := pz_gj hE 2 (Nat.le_of_ble_eq_true rfl) rfl
  have j3 : ρ 3 % 4 = 1 := pz_gj hE 3 (Nat.le_of_ble_eq_true rfl) rfl
  obtain ⟨-, -, -, -, -, F151⟩ : ay_ex hp 173 ∧ ay_ex hp 173 ∧ ay_ex hp 173 ∧ ay_ex hp 173 ∧ ay_ex hp 173 ∧ pz_y151 (ρ 0) (ρ 1) (ay_at hp 173 13) (ay_at hp 173 14) (ay_at hp 173 15) (ay_at hp 173 16) (ay_at hp 173 17) := (ax_XF_lt (x := 151) (Nat.le_of_ble_eq_true rfl)).mp (ax_gx hE (151, [3, 7]) ax_m0)
  have F246 : py_y246 (pz_gt (ρ 0)) (pz_gN (ρ 0)) ((ρ 1) / 4) (ρ 2) (ρ 3) := (ax_XF_lt (x := 246) (Nat.le_of_ble_eq_true rfl)).mp (ax_gx hE (246, [3, 7, 11, 15]) ax_m1)
  obtain ⟨-, -, F242⟩ : ay_ex hp 173 ∧ ay_ex hp 185 ∧ py_y242 (ρ 2) (ay_at hp 173 27) (ay_at hp 185) := (ax_XF_lt (x := 242) (Nat.le_of_ble_eq_true rfl)).mp (ax_gx hE (242, [11]) ax_m2)
  obtain ⟨-, -, F241⟩ : ay_ex hp 180 ∧ ay_ex hp 182 ∧ py_y241 1 (ρ 3) (ay_at hp 180 1) (ay_at hp 182) := (ax_XF_lt (x := 241) (Nat.le_of_ble_eq_true rfl)).mp (ax_gx hE (241, [15]) ax_m3)
  refine ⟨(fun y hy => by cases hy), _, List.mem_cons_self, ρ, fun _ _ => rfl, ax_px hE rfl (fun x hx => ?_)⟩
  cases List.mem_singleton.mp hx
  refine (ax_XF_lt (x := 250) (Nat.le_of_ble_eq_true rfl)).mpr ?_
  show py_250 (4012) (ρ 2) (ρ 3) (ρ 2) (ρ 3)
  exact (rfl : py_pop _ _ _ = _)

theorem axq0_mw3 : ax_RO ax_wM0 (ax_XM 0) axu0_mw3 := by
  intro ρ hp hE hT
  have j0 : ρ 0 % 4 = 1 := pz_gj hE 0 (Nat.le_of_ble_eq_true rfl) rfl
  have j1 : ρ 1 % 4 = 1 := pz_gj hE 1 (Nat.le_of_ble_eq_true rfl) rfl
  have j2 : ρ 2 % 4 = 1 := pz_gj hE 2 (Nat.le_of_ble_eq_true rfl) rfl
  have j3 : ρ 3 % 4 = 1 := pz_gj hE 3 (Nat.le_of_ble_eq_true rfl) rfl
  have j4 : ρ 4 % 4 = 1 := pz_gj hE 4 (Nat.le_of_ble_eq_true rfl) rfl
  have j5 : ρ 5 % 4 = 1 := pz_gj hE 5 (Nat.le_of_ble_eq_true rfl) rfl
  obtain ⟨i6a, i6b, i6c, i6d⟩ := pz_gi hE 6 2147484651 2147484655 (Nat.le_of_ble_eq_true rfl) rfl
  obtain ⟨-, -, F242⟩ : ay_ex hp 173 ∧ ay_ex hp 185 ∧ py_y242 (ρ 4) (ay_at hp 173 27) (ay_at hp 185) := (ax_XF_lt (x := 242) (Nat.le_of_ble_eq_true rfl)).mp (ax_gx hE (242, [19]) ax_m0)
  obtain ⟨-, -, F241⟩ : ay_ex hp 180 ∧ ay_ex hp 182 ∧ py_y241 1 (ρ 5) (ay_at hp 180 1) (ay_at hp 182) := (ax_XF_lt (x := 241) (Nat.le_of_ble_eq_true rfl)).mp (ax_gx hE (241, [23]) ax_m1)
  have F251 : py_251 (ρ 2) (ρ 6) (ρ 4) := (ax_XF_lt (x := 251) (Nat.le_of_ble_eq_true rfl)).mp (ax_gx hE (251, [11, 27, 19]) ax_m2)
  have F251a : py_251 (ρ 5) (ρ 6) (ρ 3) := (ax_XF_lt (x := 251) (Nat.le_of_ble_eq_true rfl)).mp (ax_gx hE (251, [23, 27, 15]) ax_m3)
  have F250 : py_250 (4012) (ρ 0) (ρ 1) (ρ 2) (ρ 3) := (ax_XF_lt (x := 250) (Nat.le_of_ble_eq_true rfl)).mp (ax_gx hE (250, [4012, 3, 7, 11, 15]) ax_m4)
  refine ⟨(fun y hy => by cases hy), _, List.mem_cons_self, ρ, fun _ _ => rfl, ax_px hE rfl (fun x hx => ?_)⟩
  cases List.mem_singleton.mp hx
  refine (ax_XF_lt (x := 250) (Nat.le_of_ble_eq_true rfl)).mpr ?_
  show py_250 (4012) (ρ 0) (ρ 1) (ρ 4) (ρ 5)
  exact pm_cq1 F250 F251 F251a (show 1 ≤ _ from py_bd_1 (by omega) (by omega))

theorem axq0_mw4 : ax_RO ax_wM0 (ax_XM 0) axu0_mw4 := by
  intro ρ hp hE hT
  have j0 : ρ 0 % 4 = 1 := pz_gj hE 0 (Nat.le_of_ble_eq_true rfl) rfl
  have j1 : ρ 1 % 4 = 1 := pz_gj hE 1 (Nat.le_of_ble_eq_true rfl) rfl
  have j2 : ρ 2 % 4 = 1 := pz_gj hE 2 (Nat.le_of_ble_eq_true rfl) rfl
  have j3 : ρ 3 % 4 = 1 := pz_gj hE 3 (Nat.le_of_ble_eq_true rfl) rfl
  have j4 : ρ 4 % 4 = 1 := pz_gj hE 4 (Nat.le_of_ble_eq_true rfl) rfl
  have j5 : ρ 5 % 4 = 1 := pz_gj hE 5 (Nat.le_of_ble_eq_true rfl) rfl
  obtain ⟨i6a, i6b, i6c, i6d⟩ := pz_gi hE 6 2147483648 2147483648 (Nat.le_of_ble_eq_true rfl) rfl
  have c_opened : ay_at hp 173 27 = some (ρ 6) := ay_gfj hE 702 108 27 173 27 ax_m5 (ax_vlq rfl rfl) (ax_vlj rfl rfl)
  obtain ⟨-, -, -, -, -, F151⟩ : ay_ex hp 173 ∧ ay_ex hp 173 ∧ ay_ex hp 173 ∧ ay_ex hp 173 ∧ ay_ex hp 173 ∧ pz_y151 (ρ 0) (ρ 1) (ay_at hp 173 13) (ay_at hp 173 14) (ay_at hp 173 15) (ay_at hp 173 16) (ay_at hp 173 17) := (ax_XF_lt (x := 151) (Nat.le_of_ble_eq_true rfl)).mp (ax_gx hE (151, [3, 7]) ax_m0)
  have F246 : py_y246 (pz_gt (ρ 0)) (pz_gN (ρ 0)) ((ρ 1) / 4) (ρ 2) (ρ 3) := (ax_XF_lt (x := 246) (Nat.le_of_ble_eq_true rfl)).mp (ax_gx hE (246, [3, 7, 11, 15]) ax_m1)
  obtain ⟨-, -, F242⟩ : ay_ex hp 173 ∧ ay_ex hp 185 ∧ py_y242 (ρ 4) (ay_at hp 173 27) (ay_at hp 185) := (ax_XF_lt (x := 242) (Nat.le_of_ble_eq_true rfl)).mp (ax_gx hE (242, [19]) ax_m2)
  rw [c_opened] at F242
  obtain ⟨-, -, F241⟩ : ay_ex hp 180 ∧ ay_ex hp 182 ∧ py_y241 1 (ρ 5) (ay_at hp 180 1) (ay_at hp 182) := (ax_XF_lt (x := 241) (Nat.le_of_ble_eq_true rfl)).mp (ax_gx hE (241, [23]) ax_m3)
  have F250 : py_250 (4012) (ρ 2) (ρ 3) (ρ 4) (ρ 5) := (ax_XF_lt (x := 250) (Nat.le_of_ble_eq_true rfl)).mp (ax_gx hE (250, [4012, 11, 15, 19, 23]) ax_m4)
  refine ⟨(fun y hy => by cases hy), _, List.mem_cons_self, ρ, fun _ _ => rfl, ax_px hE rfl (fun x hx => ?_)⟩
  cases List.mem_singleton.mp hx
  refine (ax_XF_lt (x := 248) (Nat.le_of_ble_eq_true rfl)).mpr ?_
  show py_248 (pz_gt (ρ 0)) (pz_gN (ρ 0)) ((ρ 1) / 4) (ρ 5)
  exact pm_mw4 F246 F250 (py_none F242 (show ρ 6 / 4 = 0 by omega))

theorem axq0_ml1 : ax_RO ax_wM0 (ax_XM 0) axu0_ml1 := by
  intro ρ hp hE hT
  have j0 : ρ 0 % 4 = 1 := pz_gj hE 0 (Nat.le_of_ble_eq_true rfl) rfl
  have j1 : ρ 1 % 4 = 1 := pz_gj hE 1 (Nat.le_of_ble_eq_true rfl) rfl
  obtain ⟨i2a, i2b, i2c, i2d⟩ := pz_gi hE 2 2147483668 2147483668 (Nat.le_of_ble_eq_true rfl) rfl
  have c_links : ay_at hp 176 1 = some (ρ 2) := ay_gfj hE 714 4 11 176 1 ax_m4 (ax_vlq rfl rfl) (ax_vlj rfl rfl)
  obtain ⟨-, -, -, -, -, F151⟩ : ay_ex hp 173 ∧ ay_ex hp 173 ∧ ay_ex hp 173 ∧ ay_ex hp 173 ∧ ay_ex hp 173 ∧ pz_y151 (ρ 0) (ρ 1) (ay_at hp 173 13) (ay_at hp 173 14) (ay_at hp 173 15) (ay_at hp 173 16) (ay_at hp 173 17) := (ax_XF_lt (x := 151) (Nat.le_of_ble_eq_true rfl)).mp (ax_gx hE (151, [3, 7]) ax_m0)
  obtain ⟨-, -, -, -, -, -, -, -, -, -, -, F152⟩ : ay_ex hp 175 ∧ ay_ex hp 176 ∧ ay_ex hp 177 ∧ ay_ex hp 178 ∧ ay_ex hp 179 ∧ ay_ex hp 173 ∧ ay_ex hp 173 ∧ ay_ex hp 173 ∧ ay_ex hp 173 ∧ ay_ex hp 173 ∧ ay_ex hp 181 ∧ pz_y152 1 (ρ 0) (ρ 1) (ay_at hp 175 1) (ay_at hp 176 1) (ay_at hp 177 1) (ay_at hp 178 1) (ay_at hp 179 1) (ay_at hp 173 23) (ay_at hp 173 25) (ay_at hp 173 24) (ay_at hp 173 18) (ay_at hp 173 19) (ay_at hp 181) := (ax_XF_lt (x := 152) (Nat.le_of_ble_eq_true rfl)).mp (ax_gx hE (152, [3, 7]) ax_m1)
  rw [c_links] at F152
  have F173 : pz7 (pz_gt (ρ 0)) (pz_gN (ρ 0)) ((ρ 1) / 4) 3 := (ax_XF_lt (x := 173) (Nat.le_of_ble_eq_true rfl)).mp (ax_gx hE (173, [3, 7]) ax_m2)
  have F160 : pz60 (pz_gt (ρ 0)) (pz_gN (ρ 0)) ((ρ 1) / 4) ((4) / 4) := (ax_XF_lt (x := 160) (Nat.le_of_ble_eq_true rfl)).mp (ax_gx hE (160, [3, 7, 4]) ax_m3)
  refine ⟨(fun y hy => by cases hy), _, List.mem_cons_self, ρ, fun _ _ => rfl, ax_px hE rfl (fun x hx => ?_)⟩
  cases List.mem_singleton.mp hx
  refine (ax_XF_lt (x := 164) (Nat.le_of_ble_eq_true rfl)).mpr ?_
  show pz64 (pz_gt (ρ 0)) (pz_gN (ρ 0)) ((ρ 1) / 4) ((16) / 4)
  exact pq_lk1 (pz_m50 F151 F152) F173 F160 (show ρ 2 / 4 = 20 by omega)

theorem axq0_ml2 : ax_RO ax_wM0 (ax_XM 0) axu0_ml2 := by
  intro ρ hp hE hT
  have j0 : ρ 0 % 4 = 1 := pz_gj hE 0 (Nat.le_of_ble_eq_true rfl) rfl
  have j1 : ρ 1 % 4 = 1 := pz_gj hE 1 (Nat.le_of_ble_eq_true rfl) rfl
  obtain ⟨i2a, i2b, i2c, i2d⟩ := pz_gi hE 2 2147483648 2147483667 (Nat.le_of_ble_eq_true rfl) rfl
  have c_links : ay_at hp 176 1 = some (ρ 2) := ay_gfj hE 714 4 11 176 1 ax_m4 (ax_vlq rfl rfl) (ax_vlj rfl rfl)
  obtain ⟨-, -, -, -, -, F151⟩ : ay_ex hp 173 ∧ ay_ex hp 173 ∧ ay_ex hp 173 ∧ ay_ex hp 173 ∧ ay_ex hp 173 ∧ pz_y151 (ρ 0) (ρ 1) (ay_at hp 173 13) (ay_at hp 173 14) (ay_at hp 173 15) (ay_at hp 173 16) (ay_at hp 173 17) := (ax_XF_lt (x := 151) (Nat.le_of_ble_eq_true rfl)).mp (ax_gx hE (151, [3, 7]) ax_m0)
  obtain ⟨-, -, -, -, -, -, -, -, -, -, -, F152⟩ : ay_ex hp 175 ∧ ay_ex hp 176 ∧ ay_ex hp 177 ∧ ay_ex hp 178 ∧ ay_ex hp 179 ∧ ay_ex hp 173 ∧ ay_ex hp 173 ∧ ay_ex hp 173 ∧ ay_ex hp 173 ∧ ay_ex hp 173 ∧ ay_ex hp 181 ∧ pz_y152 1 (ρ 0) (ρ 1) (ay_at hp 175 1) (ay_at hp 176 1) (ay_at hp 177 1) (ay_at hp 178 1) (ay_at hp 179 1) (ay_at hp 173 23) (ay_at hp 173 25) (ay_at hp 173 24) (ay_at hp 173 18) (ay_at hp 173 19) (ay_at hp 181) := (ax_XF_lt (x := 152) (Nat.le_of_ble_eq_true rfl)).mp (ax_gx hE (152, [3, 7]) ax_m1)
  rw [c_links] at F152
  have F173 : pz7 (pz_gt (ρ 0)) (pz_gN (ρ 0)) ((ρ 1) / 4) 3 := (ax_XF_lt (x := 173) (Nat.le_of_ble_eq_true rfl)).mp (ax_gx hE (173, [3, 7]) ax_m2)
  have F160 : pz60 (pz_gt (ρ 0)) (pz_gN (ρ 0)) ((ρ 1) / 4) ((4) / 4) := (ax_XF_lt (x := 160) (Nat.le_of_ble_eq_true rfl)).mp (ax_gx hE (160, [3, 7, 4]) ax_m3)
  have st := pq_lk2 (pz_m50 F151 F152) F173 F160 (show ρ 2 / 4 ≤ 19 by omega)
  obtain ⟨ρ', h1, h2⟩ := pz_pn1 (K := ρ 1 / 4 + 1) (xf := [(153, [3, 15]), (182, [7, 15]), (152, [3, 15]), (174, [3, 15])]) hE (by decide) (fun ρ' h1 h2 x hx => by
    have q0 : ρ' 0 = ρ 0 := h1 0 (by decide)
    have q1 : ρ' 1 = ρ 1 := h1 1 (by decide)
    have q2 : ρ' 2 = ρ 2 := h1 2 (by decide)
    rcases List.mem_cons.mp hx with e | hx
    · subst e
      refine (ax_XF_lt (x := 153) (Nat.le_of_ble_eq_true rfl)).mpr ?_
      show ay_ex hp 173 ∧ pz_at (pz_gt (ρ' 0)) (pz_gN (ρ' 0)) (ay_ln (ay_at hp 173 13)) = pz_at (pz_gt (ρ' 0)) (pz_gN (ρ' 0)) (pz_p (pz_cF (ρ' 0) (ρ' 3)))
      rw [q0, h2]
      refine ⟨(ax_cellT hT (q := 173) (g := 11) ax_cg_173), ?_⟩
      exact pz_l153 (pz_41 _) st.1.1
    rcases List.mem_cons.mp hx with e | hx
    · subst e
      refine (ax_XF_lt (x := 182) (Nat.le_of_ble_eq_true rfl)).mpr ?_
      show (ρ' 3) / 4 = (ρ' 1) / 4 + 1
      rw [q1, h2]
      rw [pz_41]
    rcases List.mem_cons.mp hx with e | hx
    · subst e
      refine (ax_XF_lt (x := 152) (Nat.le_of_ble_eq_true rfl)).mpr ?_
      show ay_ex hp 175 ∧ ay_ex hp 176 ∧ ay_ex hp 177 ∧ ay_ex hp 178 ∧ ay_ex hp 179 ∧ ay_ex hp 173 ∧ ay_ex hp 173 ∧ ay_ex hp 173 ∧ ay_ex hp 173 ∧ ay_ex hp 173 ∧ ay_ex hp 181 ∧ pz_y152 1 (ρ' 0) (ρ' 3) (ay_at hp 175 1) (ay_at hp 176 1) (ay_at hp 177 1) (ay_at hp 178 1) (ay_at hp 179 1) (ay_at hp 173 23) (ay_at hp 173 25) (ay_at hp 173 24) (ay_at hp 173 18) (ay_at hp 173 19) (ay_at hp 181)
      rw [q0, h2]
      refine ⟨(ax_cellT hT (q := 175) (g := 45) ax_cg_175), (ax_cellT hT (q := 176) (g := 46) ax_cg_176), (ax_cellT hT (q := 177) (g := 47) ax_cg_177), (ax_cellT hT (q := 178) (g := 48) ax_cg_178), (ax_cellT hT (q := 179) (g := 49) ax_cg_179), (ax_cellT hT (q := 173) (g := 11) ax_cg_173), (ax_cellT hT (q := 173) (g := 11) ax_cg_173), (ax_cellT hT (q := 173) (g := 11) ax_cg_173), (ax_cellT hT (q := 173) (g := 11) ax_cg_173), (ax_cellT hT (q := 173) (g := 11) ax_cg_173), (ax_cellT hT (q := 181) (g := 51) ax_cg_181), ?_⟩
      rw [c_links]
      exact pz_l152 (pz_41 _) st.1.2
    cases List.mem_singleton.mp hx
    refine (ax_XF_lt (x := 174) (Nat.le_of_ble_eq_true rfl)).mpr ?_
    show pz7 (pz_gt (ρ' 0)) (pz_gN (ρ' 0)) ((ρ' 3) / 4) 4
    rw [q0, h2]
    rw [pz_41]
    exact st.2)
  exact ⟨(fun y hy => by cases hy), _, List.mem_cons_self, ρ', h1, h2⟩

theorem axq0_ml3_38 : ax_RO ax_wM0 (ax_XM 0) axu0_ml3_38 := by
  intro ρ hp hE hT
  have j0 : ρ 0 % 4 = 1 := pz_gj hE 0 (Nat.le_of_ble_eq_true rfl) rfl
  have j1 : ρ 1 % 4 = 1 := pz_gj hE 1 (Nat.le_of_ble_eq_true rfl) rfl
  obtain ⟨i2a, i2b, i2c, i2d⟩ := pz_gi hE 2 0 4294967295 (Nat.le_of_ble_eq_true rfl) rfl
  obtain ⟨i3a, i3b, i3c, i3d⟩ := pz_gi hE 3 2147483648 2147493647 (Nat.le_of_ble_eq_true rfl) rfl
  have c_nodes : ay_at hp 175 1 = some (ρ 3) := ay_gfj hE 710 4 15 175 1 ax_m1 (ax_vlq rfl rfl) (ax_vlj rfl rfl)
  have s1 : (ρ 2 / 4 + 2147483648) % 4294967296 + (4 / 4 + 2147483648) % 4294967296 = (ρ 3 / 4 + 2147483648) % 4294967296 + 2147483648 := pz_gs hE 11 4 15 ax_m2
  obtain ⟨-, -, -, -, -, -, -, -, -, -, -, F152⟩ : ay_ex hp 175 ∧ ay_ex hp 176 ∧ ay_ex hp 177 ∧ ay_ex hp 178 ∧ ay_ex hp 179 ∧ ay_ex hp 173 ∧ ay_ex hp 173 ∧ ay_ex hp 173 ∧ ay_ex hp 173 ∧ ay_ex hp 173 ∧ ay_ex hp 181 ∧ pz_y152 1 (ρ 0) (ρ 1) (ay_at hp 175 1) (ay_at hp 176 1) (ay_at hp 177 1) (ay_at hp 178 1) (ay_at hp 179 1) (ay_at hp 173 23) (ay_at hp 173 25) (ay_at hp 173 24) (ay_at hp 173 18) (ay_at hp 173 19) (ay_at hp 181) := (ax_XF_lt (x := 152) (Nat.le_of_ble_eq_true rfl)).mp (ax_gx hE (152, [3, 7]) ax_m0)
  rw [c_nodes] at F152
  have e : ρ 3 / 4 = pz_no (pz_cf (pz_gt (ρ 0)) (pz_gN (ρ 0)) (ρ 1 / 4)) := F152.1
  refine ⟨(fun y hy => by cases hy), _, List.mem_cons_self, ρ, fun _ _ => rfl, ax_px hE rfl (fun x hx => ?_)⟩
  cases List.mem_singleton.mp hx
  refine (ax_XF_lt (x := 203) (Nat.le_of_ble_eq_true rfl)).mpr ?_
  show pz_x103 (ρ 0) (ρ 1) (ρ 2)
  show (ρ 2 / 4 + 2147483648) % 4294967296 + 1 = pz_no (pz_cf (pz_gt (ρ 0)) (pz_gN (ρ 0)) (ρ 1 / 4)) + 2147483648
  omega

theorem axq0_ml3_79 : ax_RO ax_wM0 (ax_XM 0) axu0_ml3_79 := by
  intro ρ hp hE hT
  have j0 : ρ 0 % 4 = 1 := pz_gj hE 0 (Nat.le_of_ble_eq_true rfl) rfl
  have j1 : ρ 1 % 4 = 1 := pz_gj hE 1 (Nat.le_of_ble_eq_true rfl) rfl
  obtain ⟨i2a, i2b, i2c, i2d⟩ := pz_gi hE 2 0 4294967295 (Nat.le_of_ble_eq_true rfl) rfl
  obtain ⟨i3a, i3b, i3c, i3d⟩ := pz_gi hE 3 2147483648 2147493647 (Nat.le_of_ble_eq_true rfl) rfl
  have c_nodes : ay_at hp 175 1 = some (ρ 3) := ay_gfj hE 710 4 15 175 1 ax_m1 (ax_vlq rfl rfl) (ax_vlj rfl rfl)
  have s1 : (ρ 2 / 4 + 2147483648) % 4294967296 + (4 / 4 + 2147483648) % 4294967296 = (ρ 3 / 4 + 2147483648) % 4294967296 + 2147483648 := pz_gs hE 11 4 15 ax_m2
  obtain ⟨-, -, -, -, -, -, -, -, -, -, -, F152⟩ : ay_ex hp 175 ∧ ay_ex hp 176 ∧ ay_ex hp 177 ∧ ay_ex hp 178 ∧ ay_ex hp 179 ∧ ay_ex hp 173 ∧ ay_ex hp 173 ∧ ay_ex hp 173 ∧ ay_ex hp 173 ∧ ay_ex hp 173 ∧ ay_ex hp 181 ∧ pz_y152 1 (ρ 0) (ρ 1) (ay_at hp 175 1) (ay_at hp 176 1) (ay_at hp 177 1) (ay_at hp 178 1) (ay_at hp 179 1) (ay_at hp 173 23) (ay_at hp 173 25) (ay_at hp 173 24) (ay_at hp 173 18) (ay_at hp 173 19) (ay_at hp 181) := (ax_XF_lt (x := 152) (Nat.le_of_ble_eq_true rfl)).mp (ax_gx hE (152, [3, 7]) ax_m0)
  rw [c_nodes] at F152
  have e : ρ 3 / 4 = pz_no (pz_cf (pz_gt (ρ 0)) (pz_gN (ρ 0)) (ρ 1 / 4)) := F152.1
  refine ⟨(fun y hy => by cases hy), _, List.mem_cons_self, ρ, fun _ _ => rfl, ax_px hE rfl (fun x hx => ?_)⟩
  cases List.mem_singleton.mp hx
  refine (ax_XF_lt (x := 203) (Nat.le_of_ble_eq_true rfl)).mpr ?_
  show pz_x103 (ρ 0) (ρ 1) (ρ 2)
  show (ρ 2 / 4 + 2147483648) % 4294967296 + 1 = pz_no (pz_cf (pz_gt (ρ 0)) (pz_gN (ρ 0)) (ρ 1 / 4)) + 2147483648
  omega

theorem axq0_ml4 : ax_RO ax_wM0 (ax_XM 0) axu0_ml4 := by
  intro ρ hp hE hT
  have j0 : ρ 0 % 4 = 1 := pz_gj hE 0 (Nat.le_of_ble_eq_true rfl) rfl
  have j1 : ρ 1 % 4 = 1 := pz_gj hE 1 (Nat.le_of_ble_eq_true rfl) rfl
  have j2 : ρ 2 % 4 = 1 := pz_gj hE 2 (Nat.le_of_ble_eq_true rfl) rfl
  obtain ⟨i3a, i3b, i3c, i3d⟩ := pz_gi hE 3 2147483648 2147493647 (Nat.le_of_ble_eq_true rfl) rfl
  obtain ⟨-, -, -, -, -, F151⟩ : ay_ex hp 173 ∧ ay_ex hp 173 ∧ ay_ex hp 173 ∧ ay_ex hp 173 ∧ ay_ex hp 173 ∧ pz_y151 (ρ 0) (ρ 2) (ay_at hp 173 13) (ay_at hp 173 14) (ay_at hp 173 15) (ay_at hp 173 16) (ay_at hp 173 17) := (ax_XF_lt (x := 151) (Nat.le_of_ble_eq_true rfl)).mp (ax_gx hE (151, [3, 11]) ax_m0)
  have F182 : (ρ 2) / 4 = (ρ 1) / 4 + 1 := (ax_XF_lt (x := 182) (Nat.le_of_ble_eq_true rfl)).mp (ax_gx hE (182, [7, 11]) ax_m1)
  obtain ⟨-, -, -, -, -, -, -, -, -, -, -, F152⟩ : ay_ex hp 175 ∧ ay_ex hp 176 ∧ ay_ex hp 177 ∧ ay_ex hp 178 ∧ ay_ex hp 179 ∧ ay_ex hp 173 ∧ ay_ex hp 173 ∧ ay_ex hp 173 ∧ ay_ex hp 173 ∧ ay_ex hp 173 ∧ ay_ex hp 181 ∧ pz_y152 1 (ρ 0) (ρ 1) (ay_at hp 175 1) (ay_at hp 176 1) (ay_at hp 177 1) (ay_at hp 178 1) (ay_at hp 179 1) (ay_at hp 173 23) (ay_at hp 173 25) (ay_at hp 173 24) (ay_at hp 173 18) (ay_at hp 173 19) (ay_at hp 181) := (ax_XF_lt (x := 152) (Nat.le_of_ble_eq_true rfl)).mp (ax_gx hE (152, [3, 7]) ax_m2)
  have F174 : pz7 (pz_gt (ρ 0)) (pz_gN (ρ 0)) ((ρ 1) / 4) 4 := (ax_XF_lt (x := 174) (Nat.le_of_ble_eq_true rfl)).mp (ax_gx hE (174, [3, 7]) ax_m3)
  have F204 : pz104 (pz_gt (ρ 0)) (pz_gN (ρ 0)) ((ρ 1) / 4) ((ρ 3) / 4) := (ax_XF_lt (x := 204) (Nat.le_of_ble_eq_true rfl)).mp (ax_gx hE (204, [3, 7, 15]) ax_m4)
  have f50 : pz50 (pz_gt (ρ 0)) (pz_gN (ρ 0)) (ρ 1 / 4) (pz_nx (pz_gt (ρ 0)) (pz_gN (ρ 0)) (pz_p (pz_cf (pz_gt (ρ 0)) (pz_gN (ρ 0)) (ρ 1 / 4)))) (pz_at (pz_gt (ρ 0)) (pz_gN (ρ 0)) (pz_p (pz_cf (pz_gt (ρ 0)) (pz_gN (ρ 0)) (ρ 1 / 4)))) (pz_kd (pz_gt (ρ 0)) (pz_gN (ρ 0)) (pz_p (pz_cf (pz_gt (ρ 0)) (pz_gN (ρ 0)) (ρ 1 / 4)))) (pz_vl (pz_gt (ρ 0)) (pz_gN (ρ 0)) (pz_p (pz_cf (pz_gt (ρ 0)) (pz_gN (ρ 0)) (ρ 1 / 4)))) _ _ _ _ _ _ _ _ _ _ _ _ := ⟨rfl, rfl, rfl, fun _ => pz_m_vl, F152⟩
  have st := pq_lk4 f50 F174 F204
  refine ⟨(fun y hy => by cases hy), _, List.mem_cons_self, ρ, fun _ _ => rfl, ax_px hE rfl (fun x hx => ?_)⟩
  rcases List.mem_cons.mp hx with e | hx
  · subst e
    refine (ax_XF_lt (x := 152) (Nat.le_of_ble_eq_true rfl)).mpr ?_
    show ay_ex hp 175 ∧ ay_ex hp 176 ∧ ay_ex hp 177 ∧ ay_ex hp 178 ∧ ay_ex hp 179 ∧ ay_ex hp 173 ∧ ay_ex hp 173 ∧ ay_ex hp 173 ∧ ay_ex hp 173 ∧ ay_ex hp 173 ∧ ay_ex hp 181 ∧ pz_y152 1 (ρ 0) (ρ 2) (ay_at hp 175 1) (ay_at hp 176 1) (ay_at hp 177 1) (ay_at hp 178 1) (ay_at hp 179 1) (ay_at hp 173 23) (ay_at hp 173 25) (ay_at hp 173 24) (ay_at hp 173 18) (ay_at hp 173 19) (ay_at hp 181)
    refine ⟨(ax_cellT hT (q := 175) (g := 45) ax_cg_175), (ax_cellT hT (q := 176) (g := 46) ax_cg_176), (ax_cellT hT (q := 177) (g := 47) ax_cg_177), (ax_cellT hT (q := 178) (g := 48) ax_cg_178), (ax_cellT hT (q := 179) (g := 49) ax_cg_179), (ax_cellT hT (q := 173) (g := 11) ax_cg_173), (ax_cellT hT (q := 173) (g := 11) ax_cg_173), (ax_cellT hT (q := 173) (g := 11) ax_cg_173), (ax_cellT hT (q := 173) (g := 11) ax_cg_173), (ax_cellT hT (q := 173) (g := 11) ax_cg_173), (ax_cellT hT (q := 181) (g := 51) ax_cg_181), ?_⟩
    exact pz_l152 F182 st.1.2
  rcases List.mem_cons.mp hx with e | hx
  · subst e
    refine (ax_XF_lt (x := 175) (Nat.le_of_ble_eq_true rfl)).mpr ?_
    show pz7 (pz_gt (ρ 0)) (pz_gN (ρ 0)) ((ρ 2) / 4) 5
    rw [F182]
    exact st.2.1
  cases List.mem_singleton.mp hx
  refine (ax_XF_lt (x := 167) (Nat.le_of_ble_eq_true rfl)).mpr ?_
  show pz67 (pz_gt (ρ 0)) (pz_gN (ρ 0)) ((ρ 2) / 4) ((ρ 3) / 4)
  rw [F182]
  exact st.2.2

theorem axqg_ml5a {w : ax_W} {b : Nat} (hw : ax_WW w) : ax_RO w (ax_XM b) axu0_ml5a := by
  intro ρ hp hE hT
  have j0 : ρ 0 % 4 = 1 := pz_gj hE 0 (Nat.le_of_ble_eq_true rfl) rfl
  have j1 : ρ 1 % 4 = 1 := pz_gj hE 1 (Nat.le_of_ble_eq_true rfl) rfl
  obtain ⟨i2a, i2b, i2c, i2d⟩ := pz_gi hE 2 0 2147483650 (Nat.le_of_ble_eq_true rfl) rfl
  have c_token : ay_at hp 173 15 = some (ρ 2) := ay_gfj hE 702 60 11 173 15 ax_m2 (ax_vlq rfl rfl) (ax_vlj rfl rfl)
  obtain ⟨-, -, -, -, -, F151⟩ : ay_ex hp 173 ∧ ay_ex hp 173 ∧ ay_ex hp 173 ∧ ay_ex hp 173 ∧ ay_ex hp 173 ∧ pz_y151 (ρ 0) (ρ 1) (ay_at hp 173 13) (ay_at hp 173 14) (ay_at hp 173 15) (ay_at hp 173 16) (ay_at hp 173 17) := (ax_XF_lt (x := 151) (Nat.le_of_ble_eq_true rfl)).mp (ax_gx hE (151, [3, 7]) ax_m0)
  rw [c_token] at F151
  have F175 : pz7 (pz_gt (ρ 0)) (pz_gN (ρ 0)) ((ρ 1) / 4) 5 := (ax_XF_lt (x := 175) (Nat.le_of_ble_eq_true rfl)).mp (ax_gx hE (175, [3, 7]) ax_m1)
  have ht : ρ 2 / 4 = pz_tok (pz_kd (pz_gt (ρ 0)) (pz_gN (ρ 0)) (pz_p (pz_cf (pz_gt (ρ 0)) (pz_gN (ρ 0)) (ρ 1 / 4)))) := F151.2.2.1
  have hc := pz_tok_c (pz_kd (pz_gt (ρ 0)) (pz_gN (ρ 0)) (pz_p (pz_cf (pz_gt (ρ 0)) (pz_gN (ρ 0)) (ρ 1 / 4))))
  have hk : pz_kd (pz_gt (ρ 0)) (pz_gN (ρ 0)) (pz_p (pz_cf (pz_gt (ρ 0)) (pz_gN (ρ 0)) (ρ 1 / 4))) ≠ 2 := (by rcases hc with h | h | h | h | h <;> omega)
  refine ⟨(fun y hy => by cases hy), _, List.mem_cons_self, ρ, fun _ _ => rfl, ax_px hE rfl (fun x hx => ?_)⟩
  cases List.mem_singleton.mp hx
  refine (ax_XF_lt (x := 164) (Nat.le_of_ble_eq_true rfl)).mpr ?_
  show pz64 (pz_gt (ρ 0)) (pz_gN (ρ 0)) ((ρ 1) / 4) ((4) / 4)
  exact pq_rn1 (by decide) F175 hk
theorem axq0_ml5a : ax_RO ax_wM0 (ax_XM 0) axu0_ml5a := axqg_ml5a ax_WW0
theorem axqg_ml5b {w : ax_W} {b : Nat} (hw : ax_WW w) : ax_RO w (ax_XM b) axu0_ml5b := by
  intro ρ hp hE hT
  have j0 : ρ 0 % 4 = 1 := pz_gj hE 0 (Nat.le_of_ble_eq_true rfl) rfl
  have j1 : ρ 1 % 4 = 1 := pz_gj hE 1 (Nat.le_of_ble_eq_true rfl) rfl
  obtain ⟨i2a, i2b, i2c, i2d⟩ := pz_gi hE 2 2147483652 4294967295 (Nat.le_of_ble_eq_true rfl) rfl
  have c_token : ay_at hp 173 15 = some (ρ 2) := ay_gfj hE 702 60 11 173 15 ax_m2 (ax_vlq rfl rfl) (ax_vlj rfl rfl)
  obtain ⟨-, -, -, -, -, F151⟩ : ay_ex hp 173 ∧ ay_ex hp 173 ∧ ay_ex hp 173 ∧ ay_ex hp 173 ∧ ay_ex hp 173 ∧ pz_y151 (ρ 0) (ρ 1) (ay_at hp 173 13) (ay_at hp 173 14) (ay_at hp 173 15) (ay_at hp 173 16) (ay_at hp 173 17) := (ax_XF_lt (x := 151) (Nat.le_of_ble_eq_true rfl)).mp (ax_gx hE (151, [3, 7]) ax_m0)
  rw [c_token] at F151
  have F175 : pz7 (pz_gt (ρ 0)) (pz_gN (ρ 0)) ((ρ 1) / 4) 5 := (ax_XF_lt (x := 175) (Nat.le_of_ble_eq_true rfl)).mp (ax_gx hE (175, [3, 7]) ax_m1)
  have ht : ρ 2 / 4 = pz_tok (pz_kd (pz_gt (ρ 0)) (pz_gN (ρ 0)) (pz_p (pz_cf (pz_gt (ρ 0)) (pz_gN (ρ 0)) (ρ 1 / 4)))) := F151.2.2.1
  have hc := pz_tok_c (pz_kd (pz_gt (ρ 0)) (pz_gN (ρ 0)) (pz_p (pz_cf (pz_gt (ρ 0)) (pz_gN (ρ 0)) (ρ 1 / 4))))
  have hk : pz_kd (pz_gt (ρ 0)) (pz_gN (ρ 0)) (pz_p (pz_cf (pz_gt (ρ 0)) (pz_gN (ρ 0)) (ρ 1 / 4))) ≠ 2 := (by rcases hc with h | h | h | h | h <;> omega)
  refine ⟨(fun y hy => by cases hy), _, List.mem_cons_self, ρ, fun _ _ => rfl, ax_px hE rfl (fun x hx => ?_)⟩
  cases List.mem_singleton.mp hx
  refine (ax_XF_lt (x := 164) (Nat.le_of_ble_eq_true rfl)).mpr ?_
  show pz64 (pz_gt (ρ 0)) (pz_gN (ρ 0)) ((ρ 1) / 4) ((4) / 4)
  exact pq_rn1 (by decide) F175 hk
theorem axq0_ml5b : ax_RO ax_wM0 (ax_XM 0) axu0_ml5b := axqg_ml5b ax_WW0
theorem axqg_ml6a {w : ax_W} {b : Nat} (hw : ax_WW w) : ax_RO w (ax_XM b) axu0_ml6a := by
  intro ρ hp hE hT
  have j0 : ρ 0 % 4 = 1 := pz_gj hE 0 (Nat.le_of_ble_eq_true rfl) rfl
  have j1 : ρ 1 % 4 = 1 := pz_gj hE 1 (Nat.le_of_ble_eq_true rfl) rfl
  obtain ⟨i2a, i2b, i2c, i2d⟩ := pz_gi hE 2 2147483651 2147483651 (Nat.le_of_ble_eq_true rfl) rfl
  obtain ⟨i3a, i3b, i3c, i3d⟩ := pz_gi hE 3 2147483648 2147493647 (Nat.le_of_ble_eq_true rfl) rfl
  obtain ⟨i4a, i4b, i4c, i4d⟩ := pz_gi hE 4 2147483647 2147493646 (Nat.le_of_ble_eq_true rfl) rfl
  have c_token : ay_at hp 173 15 = some (ρ 2) := ay_gfj hE 702 60 11 173 15 ax_m3 (ax_vlq rfl rfl) (ax_vlj rfl rfl)
  have c_number : ay_at hp 173 16 = some (ρ 3) := ay_gfj hE 702 64 15 173 16 ax_m4 (ax_vlq rfl rfl) (ax_vlj rfl rfl)
  have r1 : (ρ 4 / 4 + 2147483648) % 4294967296 < (ρ 3 / 4 + 2147483648) % 4294967296 := pz_gc hE 4 15 19 (Nat.le_of_ble_eq_true rfl) ax_m5
  obtain ⟨-, -, -, -, -, F151⟩ : ay_ex hp 173 ∧ ay_ex hp 173 ∧ ay_ex hp 173 ∧ ay_ex hp 173 ∧ ay_ex hp 173 ∧ pz_y151 (ρ 0) (ρ 1) (ay_at hp 173 13) (ay_at hp 173 14) (ay_at hp 173 15) (ay_at hp 173 16) (ay_at hp 173 17) := (ax_XF_lt (x := 151) (Nat.le_of_ble_eq_true rfl)).mp (ax_gx hE (151, [3, 7]) ax_m0)
  rw [c_token] at F151
  rw [c_number] at F151
  have F175 : pz7 (pz_gt (ρ 0)) (pz_gN (ρ 0)) ((ρ 1) / 4) 5 := (ax_XF_lt (x := 175) (Nat.le_of_ble_eq_true rfl)).mp (ax_gx hE (175, [3, 7]) ax_m1)
  have F203 : pz_x103 (ρ 0) (ρ 1) (ρ 4) := (ax_XF_lt (x := 203) (Nat.le_of_ble_eq_true rfl)).mp (ax_gx hE (203, [3, 7, 19]) ax_m2)
  have ht : ρ 2 / 4 = pz_tok (pz_kd (pz_gt (ρ 0)) (pz_gN (ρ 0)) (pz_p (pz_cf (pz_gt (ρ 0)) (pz_gN (ρ 0)) (ρ 1 / 4)))) := F151.2.2.1
  have hc := pz_tok_c (pz_kd (pz_gt (ρ 0)) (pz_gN (ρ 0)) (pz_p (pz_cf (pz_gt (ρ 0)) (pz_gN (ρ 0)) (ρ 1 / 4))))
  have hk : pz_kd (pz_gt (ρ 0)) (pz_gN (ρ 0)) (pz_p (pz_cf (pz_gt (ρ 0)) (pz_gN (ρ 0)) (ρ 1 / 4))) = 2 := (by rcases hc with h | h | h | h | h <;> omega)
  have vl := pz_mc (F151.2.2.2.1 hk)
  replace vl : (ρ 3 / 4 ≤ 1000 ∧ pz_vl (pz_gt (ρ 0)) (pz_gN (ρ 0)) (pz_p (pz_cf (pz_gt (ρ 0)) (pz_gN (ρ 0)) (ρ 1 / 4))) = ρ 3 / 4) ∨ (1000 < ρ 3 / 4 ∧ pz_vl (pz_gt (ρ 0)) (pz_gN (ρ 0)) (pz_p (pz_cf (pz_gt (ρ 0)) (pz_gN (ρ 0)) (ρ 1 / 4))) = 1000) := vl
  replace F203 : (ρ 4 / 4 + 2147483648) % 4294967296 + 1 = pz_no (pz_cf (pz_gt (ρ 0)) (pz_gN (ρ 0)) (ρ 1 / 4)) + 2147483648 := F203
  have h9 := pz_no9 F175 (by decide)
  refine ⟨(fun y hy => by cases hy), _, List.mem_cons_self, ρ, fun _ _ => rfl, ax_px hE rfl (fun x hx => ?_)⟩
  cases List.mem_singleton.mp hx
  refine (ax_XF_lt (x := 164) (Nat.le_of_ble_eq_true rfl)).mpr ?_
  show pz64 (pz_gt (ρ 0)) (pz_gN (ρ 0)) ((ρ 1) / 4) ((8) / 4)
  exact pq_rn2 (by decide) F175 hk (by omega)
theorem axq0_ml6a : ax_RO ax_wM0 (ax_XM 0) axu0_ml6a := axqg_ml6a ax_WW0
theorem axqg_ml6b {w : ax_W} {b : Nat} (hw : ax_WW w) : ax_RO w (ax_XM b) axu0_ml6b := by
  intro ρ hp hE hT
  have j0 : ρ 0 % 4 = 1 := pz_gj hE 0 (Nat.le_of_ble_eq_true rfl) rfl
  have j1 : ρ 1 % 4 = 1 := pz_gj hE 1 (Nat.le_of_ble_eq_true rfl) rfl
  obtain ⟨i2a, i2b, i2c, i2d⟩ := pz_gi hE 2 2147483651 2147483651 (Nat.le_of_ble_eq_true rfl) rfl
  obtain ⟨i3a, i3b, i3c, i3d⟩ := pz_gi hE 3 2147483648 2147493647 (Nat.le_of_ble_eq_true rfl) rfl
  obtain ⟨i4a, i4b, i4c, i4d⟩ := pz_gi hE 4 2147483648 2147493647 (Nat.le_of_ble_eq_true rfl) rfl
  obtain ⟨i5a, i5b, i5c, i5d⟩ := pz_gi hE 5 2147483647 2147493646 (Nat.le_of_ble_eq_true rfl) rfl
  have c_token : ay_at hp 173 15 = some (ρ 2) := ay_gfj hE 702 60 11 173 15 ax_m4 (ax_vlq rfl rfl) (ax_vlj rfl rfl)
  have c_number : ay_at hp 173 16 = some (ρ 3) := ay_gfj hE 702 64 15 173 16 ax_m5 (ax_vlq rfl rfl) (ax_vlj rfl rfl)
  have r1 : (ρ 3 / 4 + 2147483648) % 4294967296 = (ρ 4 / 4 + 2147483648) % 4294967296 := pz_gc hE 0 15 19 (Nat.le_of_ble_eq_true rfl) ax_m6
  have r2 : (ρ 3 / 4 + 2147483648) % 4294967296 ≤ (ρ 5 / 4 + 2147483648) % 4294967296 := pz_gc hE 5 15 23 (Nat.le_of_ble_eq_true rfl) ax_m7
  obtain ⟨-, -, -, -, -, F151⟩ : ay_ex hp 173 ∧ ay_ex hp 173 ∧ ay_ex hp 173 ∧ ay_ex hp 173 ∧ ay_ex hp 173 ∧ pz_y151 (ρ 0) (ρ 1) (ay_at hp 173 13) (ay_at hp 173 14) (ay_at hp 173 15) (ay_at hp 173 16) (ay_at hp 173 17) := (ax_XF_lt (x := 151) (Nat.le_of_ble_eq_true rfl)).mp (ax_gx hE (151, [3, 7]) ax_m0)
  rw [c_token] at F151
  rw [c_number] at F151
  have F175 : pz7 (pz_gt (ρ 0)) (pz_gN (ρ 0)) ((ρ 1) / 4) 5 := (ax_XF_lt (x := 175) (Nat.le_of_ble_eq_true rfl)).mp (ax_gx hE (175, [3, 7]) ax_m1)
  have F167 : pz67 (pz_gt (ρ 0)) (pz_gN (ρ 0)) ((ρ 1) / 4) ((ρ 4) / 4) := (ax_XF_lt (x := 167) (Nat.le_of_ble_eq_true rfl)).mp (ax_gx hE (167, [3, 7, 19]) ax_m2)
  have F203 : pz_x103 (ρ 0) (ρ 1) (ρ 5) := (ax_XF_lt (x := 203) (Nat.le_of_ble_eq_true rfl)).mp (ax_gx hE (203, [3, 7, 23]) ax_m3)
  have ht : ρ 2 / 4 = pz_tok (pz_kd (pz_gt (ρ 0)) (pz_gN (ρ 0)) (pz_p (pz_cf (pz_gt (ρ 0)) (pz_gN (ρ 0)) (ρ 1 / 4)))) := F151.2.2.1
  have hc := pz_tok_c (pz_kd (pz_gt (ρ 0)) (pz_gN (ρ 0)) (pz_p (pz_cf (pz_gt (ρ 0)) (pz_gN (ρ 0)) (ρ 1 / 4))))
  have hk : pz_kd (pz_gt (ρ 0)) (pz_gN (ρ 0)) (pz_p (pz_cf (pz_gt (ρ 0)) (pz_gN (ρ 0)) (ρ 1 / 4))) = 2 := (by rcases hc with h | h | h | h | h <;> omega)
  have vl := pz_mc (F151.2.2.2.1 hk)
  replace vl : (ρ 3 / 4 ≤ 1000 ∧ pz_vl (pz_gt (ρ 0)) (pz_gN (ρ 0)) (pz_p (pz_cf (pz_gt (ρ 0)) (pz_gN (ρ 0)) (ρ 1 / 4))) = ρ 3 / 4) ∨ (1000 < ρ 3 / 4 ∧ pz_vl (pz_gt (ρ 0)) (pz_gN (ρ 0)) (pz_p (pz_cf (pz_gt (ρ 0)) (pz_gN (ρ 0)) (ρ 1 / 4))) = 1000) := vl
  replace F203 : (ρ 5 / 4 + 2147483648) % 4294967296 + 1 = pz_no (pz_cf (pz_gt (ρ 0)) (pz_gN (ρ 0)) (ρ 1 / 4)) + 2147483648 := F203
  have h9 := pz_no9 F175 (by decide)
  refine ⟨(fun y hy => by cases hy), _, List.mem_cons_self, ρ, fun _ _ => rfl, ax_px hE rfl (fun x hx => ?_)⟩
  cases List.mem_singleton.mp hx
  refine (ax_XF_lt (x := 164) (Nat.le_of_ble_eq_true rfl)).mpr ?_
  show pz64 (pz_gt (ρ 0)) (pz_gN (ρ 0)) ((ρ 1) / 4) ((8) / 4)
  have e : ρ 4 / 4 = ρ 3 / 4 := by omega
  rw [e] at F167
  exact pq_lk5 F175 F167 ⟨⟨hk, by omega⟩, by omega⟩
theorem axq0_ml6b : ax_RO ax_wM0 (ax_XM 0) axu0_ml6b := axqg_ml6b ax_WW0
theorem axqg_ml7 {w : ax_W} {b : Nat} (hw : ax_WW w) : ax_RO w (ax_XM b) axu0_ml7 := by
  intro ρ hp hE hT
  have j0 : ρ 0 % 4 = 1 := pz_gj hE 0 (Nat.le_of_ble_eq_true rfl) rfl
  have j1 : ρ 1 % 4 = 1 := pz_gj hE 1 (Nat.le_of_ble_eq_true rfl) rfl
  obtain ⟨i2a, i2b, i2c, i2d⟩ := pz_gi hE 2 2147483651 2147483651 (Nat.le_of_ble_eq_true rfl) rfl
  obtain ⟨i3a, i3b, i3c, i3d⟩ := pz_gi hE 3 2147483648 2147493647 (Nat.le_of_ble_eq_true rfl) rfl
  obtain ⟨i4a, i4b, i4c, i4d⟩ := pz_gi hE 4 2147483647 2147493646 (Nat.le_of_ble_eq_true rfl) rfl
  have c_token : ay_at hp 173 15 = some (ρ 2) := ay_gfj hE 702 60 11 173 15 ax_m3 (ax_vlq rfl rfl) (ax_vlj rfl rfl)
  have c_number : ay_at hp 173 16 = some (ρ 3) := ay_gfj hE 702 64 15 173 16 ax_m4 (ax_vlq rfl rfl) (ax_vlj rfl rfl)
  have r1 : (ρ 3 / 4 + 2147483648) % 4294967296 ≤ (ρ 4 / 4 + 2147483648) % 4294967296 := pz_gc hE 5 15 19 (Nat.le_of_ble_eq_true rfl) ax_m5
  obtain ⟨-, -, -, -, -, F151⟩ : ay_ex hp 173 ∧ ay_ex hp 173 ∧ ay_ex hp 173 ∧ ay_ex hp 173 ∧ ay_ex hp 173 ∧ pz_y151 (ρ 0) (ρ 1) (ay_at hp 173 13) (ay_at hp 173 14) (ay_at hp 173 15) (ay_at hp 173 16) (ay_at hp 173 17) := (ax_XF_lt (x := 151) (Nat.le_of_ble_eq_true rfl)).mp (ax_gx hE (151, [3, 7]) ax_m0)
  rw [c_token] at F151
  rw [c_number] at F151
  have F175 : pz7 (pz_gt (ρ 0)) (pz_gN (ρ 0)) ((ρ 1) / 4) 5 := (ax_XF_lt (x := 175) (Nat.le_of_ble_eq_true rfl)).mp (ax_gx hE (175, [3, 7]) ax_m1)
  have F203 : pz_x103 (ρ 0) (ρ 1) (ρ 4) := (ax_XF_lt (x := 203) (Nat.le_of_ble_eq_true rfl)).mp (ax_gx hE (203, [3, 7, 19]) ax_m2)
  have ht : ρ 2 / 4 = pz_tok (pz_kd (pz_gt (ρ 0)) (pz_gN (ρ 0)) (pz_p (pz_cf (pz_gt (ρ 0)) (pz_gN (ρ 0)) (ρ 1 / 4)))) := F151.2.2.1
  have hc := pz_tok_c (pz_kd (pz_gt (ρ 0)) (pz_gN (ρ 0)) (pz_p (pz_cf (pz_gt (ρ 0)) (pz_gN (ρ 0)) (ρ 1 / 4))))
  have hk : pz_kd (pz_gt (ρ 0)) (pz_gN (ρ 0)) (pz_p (pz_cf (pz_gt (ρ 0)) (pz_gN (ρ 0)) (ρ 1 / 4))) = 2 := (by rcases hc with h | h | h | h | h <;> omega)
  have vl := pz_mc (F151.2.2.2.1 hk)
  replace vl : (ρ 3 / 4 ≤ 1000 ∧ pz_vl (pz_gt (ρ 0)) (pz_gN (ρ 0)) (pz_p (pz_cf (pz_gt (ρ 0)) (pz_gN (ρ 0)) (ρ 1 / 4))) = ρ 3 / 4) ∨ (1000 < ρ 3 / 4 ∧ pz_vl (pz_gt (ρ 0)) (pz_gN (ρ 0)) (pz_p (pz_cf (pz_gt (ρ 0)) (pz_gN (ρ 0)) (ρ 1 / 4))) = 1000) := vl
  replace F203 : (ρ 4 / 4 + 2147483648) % 4294967296 + 1 = pz_no (pz_cf (pz_gt (ρ 0)) (pz_gN (ρ 0)) (ρ 1 / 4)) + 2147483648 := F203
  have h9 := pz_no9 F175 (by decide)
  refine ⟨(fun y hy => by cases hy), _, List.mem_cons_self, ρ, fun _ _ => rfl, ax_px hE rfl (fun x hx => ?_)⟩
  cases List.mem_singleton.mp hx
  refine (ax_XF_lt (x := 204) (Nat.le_of_ble_eq_true rfl)).mpr ?_
  show pz104 (pz_gt (ρ 0)) (pz_gN (ρ 0)) ((ρ 1) / 4) ((ρ 3) / 4)
  exact ⟨⟨hk, by omega⟩, by omega⟩
theorem axq0_ml7 : ax_RO ax_wM0 (ax_XM 0) axu0_ml7 := axqg_ml7 ax_WW0
theorem axqg_ml8 {w : ax_W} {b : Nat} (hw : ax_WW w) : ax_RO w (ax_XM b) axu0_ml8 := by
  intro ρ hp hE hT
  have j0 : ρ 0 % 4 = 1 := pz_gj hE 0 (Nat.le_of_ble_eq_true rfl) rfl
  have j1 : ρ 1 % 4 = 1 := pz_gj hE 1 (Nat.le_of_ble_eq_true rfl) rfl
  obtain ⟨i2a, i2b, i2c, i2d⟩ := pz_gi hE 2 2147483648 2147493647 (Nat.le_of_ble_eq_true rfl) rfl
  obtain ⟨i3a, i3b, i3c, i3d⟩ := pz_gi hE 3 2147483648 2147493647 (Nat.le_of_ble_eq_true rfl) rfl
  have c_number : ay_at hp 173 16 = some (ρ 2) := ay_gfj hE 702 64 11 173 16 ax_m3 (ax_vlq rfl rfl) (ax_vlj rfl rfl)
  have r1 : (ρ 2 / 4 + 2147483648) % 4294967296 ≠ (ρ 3 / 4 + 2147483648) % 4294967296 := pz_gc hE 1 11 15 (Nat.le_of_ble_eq_true rfl) ax_m5
  obtain ⟨-, -, -, -, -, F151⟩ : ay_ex hp 173 ∧ ay_ex hp 173 ∧ ay_ex hp 173 ∧ ay_ex hp 173 ∧ ay_ex hp 173 ∧ pz_y151 (ρ 0) (ρ 1) (ay_at hp 173 13) (ay_at hp 173 14) (ay_at hp 173 15) (ay_at hp 173 16) (ay_at hp 173 17) := (ax_XF_lt (x := 151) (Nat.le_of_ble_eq_true rfl)).mp (ax_gx hE (151, [3, 7]) ax_m0)
  rw [c_number] at F151
  have F175 : pz7 (pz_gt (ρ 0)) (pz_gN (ρ 0)) ((ρ 1) / 4) 5 := (ax_XF_lt (x := 175) (Nat.le_of_ble_eq_true rfl)).mp (ax_gx hE (175, [3, 7]) ax_m1)
  have F167 : pz67 (pz_gt (ρ 0)) (pz_gN (ρ 0)) ((ρ 1) / 4) ((ρ 3) / 4) := (ax_XF_lt (x := 167) (Nat.le_of_ble_eq_true rfl)).mp (ax_gx hE (167, [3, 7, 15]) ax_m2)
  have F204 : pz104 (pz_gt (ρ 0)) (pz_gN (ρ 0)) ((ρ 1) / 4) ((ρ 2) / 4) := (ax_XF_lt (x := 204) (Nat.le_of_ble_eq_true rfl)).mp (ax_gx hE (204, [3, 7, 11]) ax_m4)
  have F213 : pz112 (pz_gt (ρ 0)) (pz_gN (ρ 0)) ((ρ 1) / 4) ((ρ 3) / 4) ((ρ 2) / 4) := (ax_XF_lt (x := 213) (Nat.le_of_ble_eq_true rfl)).mp (ax_gx hE (213, [3, 7, 15, 11]) ax_m6)
  refine ⟨(fun y hy => by cases hy), _, List.mem_cons_self, ρ, fun _ _ => rfl, ax_px hE rfl (fun x hx => ?_)⟩
  cases List.mem_singleton.mp hx
  refine (ax_XF_lt (x := 164) (Nat.le_of_ble_eq_true rfl)).mpr ?_
  show pz64 (pz_gt (ρ 0)) (pz_gN (ρ 0)) ((ρ 1) / 4) ((12) / 4)
  exact pq_lk6 F175 F167 F204 (by omega) F213
theorem axq0_ml8 : ax_RO ax_wM0 (ax_XM 0) axu0_ml8 := axqg_ml8 ax_WW0
theorem axq0_ml9 : ax_RO ax_wM0 (ax_XM 0) axu0_ml9 := by
  intro ρ hp hE hT
  have j0 : ρ 0 % 4 = 1 := pz_gj hE 0 (Nat.le_of_ble_eq_true rfl) rfl
  have j1 : ρ 1 % 4 = 1 := pz_gj hE 1 (Nat.le_of_ble_eq_true rfl) rfl
  obtain ⟨i2a, i2b, i2c, i2d⟩ := pz_gi hE 2 2147483648 2147493647 (Nat.le_of_ble_eq_true rfl) rfl
  obtain ⟨i3a, i3b, i3c, i3d⟩ := pz_gi hE 3 2147483648 2147493647 (Nat.le_of_ble_eq_true rfl) rfl
  obtain ⟨i4a, i4b, i4c, i4d⟩ := pz_gi hE 4 2147483688 2147483727 (Nat.le_of_ble_eq_true rfl) rfl
  obtain ⟨i5a, i5b, i5c, i5d⟩ := pz_gi hE 5 2147483648 2147483667 (Nat.le_of_ble_eq_true rfl) rfl
  obtain ⟨i6a, i6b, i6c, i6d⟩ := pz_gi hE 6 0 4294967295 (Nat.le_of_ble_eq_true rfl) rfl
  obtain ⟨i7a, i7b, i7c, i7d⟩ := pz_gi hE 7 0 4294967295 (Nat.le_of_ble_eq_true rfl) rfl
  have c_number : ay_at hp 173 16 = some (ρ 2) := ay_gfj hE 702 64 11 173 16 ax_m4 (ax_vlq rfl rfl) (ax_vlj rfl rfl)
  have r1 : (ρ 2 / 4 + 2147483648) % 4294967296 ≠ (ρ 3 / 4 + 2147483648) % 4294967296 := pz_gc hE 1 11 15 (Nat.le_of_ble_eq_true rfl) ax_m7
  have c_links : ay_at hp 176 1 = some (ρ 5) := ay_gfj hE 714 4 23 176 1 ax_m8 (ax_vlq rfl rfl) (ax_vlj rfl rfl)
  have s1 : (160 / 4 + 2147483648) % 4294967296 + (ρ 6 / 4 + 2147483648) % 4294967296 = (ρ 7 / 4 + 2147483648) % 4294967296 + 2147483648 := pz_gs hE 160 27 31 ax_m10
  have s2 : (ρ 7 / 4 + 2147483648) % 4294967296 + (0 / 4 + 2147483648) % 4294967296 = (ρ 4 / 4 + 2147483648) % 4294967296 + 2147483648 := pz_gs hE 31 0 19 ax_m11
  obtain ⟨-, -, -, -, -, F151⟩ : ay_ex hp 173 ∧ ay_ex hp 173 ∧ ay_ex hp 173 ∧ ay_ex hp 173 ∧ ay_ex hp 173 ∧ pz_y151 (ρ 0) (ρ 1) (ay_at hp 173 13) (ay_at hp 173 14) (ay_at hp 173 15) (ay_at hp 173 16) (ay_at hp 173 17) := (ax_XF_lt (x := 151) (Nat.le_of_ble_eq_true rfl)).mp (ax_gx hE (151, [3, 7]) ax_m0)
  rw [c_number] at F151
  obtain ⟨-, -, -, -, -, -, -, -, -, -, -, F152⟩ : ay_ex hp 175 ∧ ay_ex hp 176 ∧ ay_ex hp 177 ∧ ay_ex hp 178 ∧ ay_ex hp 179 ∧ ay_ex hp 173 ∧ ay_ex hp 173 ∧ ay_ex hp 173 ∧ ay_ex hp 173 ∧ ay_ex hp 173 ∧ ay_ex hp 181 ∧ pz_y152 1 (ρ 0) (ρ 1) (ay_at hp 175 1) (ay_at hp 176 1) (ay_at hp 177 1) (ay_at hp 178 1) (ay_at hp 179 1) (ay_at hp 173 23) (ay_at hp 173 25) (ay_at hp 173 24) (ay_at hp 173 18) (ay_at hp 173 19) (ay_at hp 181) := (ax_XF_lt (x := 152) (Nat.le_of_ble_eq_true rfl)).mp (ax_gx hE (152, [3, 7]) ax_m1)
  rw [c_links] at F152
  have F175 : pz7 (pz_gt (ρ 0)) (pz_gN (ρ 0)) ((ρ 1) / 4) 5 := (ax_XF_lt (x := 175) (Nat.le_of_ble_eq_true rfl)).mp (ax_gx hE (175, [3, 7]) ax_m2)
  have F167 : pz67 (pz_gt (ρ 0)) (pz_gN (ρ 0)) ((ρ 1) / 4) ((ρ 3) / 4) := (ax_XF_lt (x := 167) (Nat.le_of_ble_eq_true rfl)).mp (ax_gx hE (167, [3, 7, 15]) ax_m3)
  have F204 : pz104 (pz_gt (ρ 0)) (pz_gN (ρ 0)) ((ρ 1) / 4) ((ρ 2) / 4) := (ax_XF_lt (x := 204) (Nat.le_of_ble_eq_true rfl)).mp (ax_gx hE (204, [3, 7, 11]) ax_m5)
  have F214 : pz113 (pz_gt (ρ 0)) (pz_gN (ρ 0)) ((ρ 1) / 4) ((ρ 3) / 4) ((ρ 2) / 4) := (ax_XF_lt (x := 214) (Nat.le_of_ble_eq_true rfl)).mp (ax_gx hE (214, [3, 7, 15, 11]) ax_m6)
  obtain ⟨r, m1, m2', m3⟩ := ay_mk hE 2 8 23 27 (by decide) (by decide)
  replace m1 : some (8 / 4 * (ρ 5 / 4) % 4294967296) = some r := m1
  have m1 := Option.some.inj m1
  replace m3 : ρ 6 = 4 * r := m3
  have hl := (pz_ps 0 19 i5b i5c i5d (by decide)).2
  have hm : ρ 6 / 4 = 2 * (ρ 5 / 4) := by
    clear s1 s2
    omega
  have h1 : ρ 7 / 4 = 40 + ρ 6 / 4 := pz_sm (by decide) (by omega) i7b s1
  have h2 : ρ 4 / 4 = ρ 7 / 4 + 0 := pz_sm (by omega) (by decide) i4b s2
  have hj : ρ 4 / 4 = 40 * 1 + 2 * (ρ 5 / 4) + 0 := by omega
  refine ⟨(fun y hy => by cases hy), _, List.mem_cons_self, ρ, fun _ _ => rfl, ax_px hE rfl (fun x hx => ?_)⟩
  cases List.mem_singleton.mp hx
  refine (ax_XF_wr (x := 216) (Nat.le_of_ble_eq_true rfl)).mpr ?_
  show ay_ex (ax_upd hp 734 (ρ 4) (ρ 3)) 175 ∧ ay_ex (ax_upd hp 734 (ρ 4) (ρ 3)) 176 ∧ ay_ex (ax_upd hp 734 (ρ 4) (ρ 3)) 177 ∧ ay_ex (ax_upd hp 734 (ρ 4) (ρ 3)) 178 ∧ ay_ex (ax_upd hp 734 (ρ 4) (ρ 3)) 179 ∧ ay_ex (ax_upd hp 734 (ρ 4) (ρ 3)) 173 ∧ ay_ex (ax_upd hp 734 (ρ 4) (ρ 3)) 173 ∧ ay_ex (ax_upd hp 734 (ρ 4) (ρ 3)) 173 ∧ ay_ex (ax_upd hp 734 (ρ 4) (ρ 3)) 173 ∧ ay_ex (ax_upd hp 734 (ρ 4) (ρ 3)) 173 ∧ ay_ex (ax_upd hp 734 (ρ 4) (ρ 3)) 181 ∧ pz_yal 1 1 (ρ 0) (ρ 1) (ρ 3) (ρ 2) (ρ 5) (ay_at (ax_upd hp 734 (ρ 4) (ρ 3)) 175 1) (ay_at (ax_upd hp 734 (ρ 4) (ρ 3)) 176 1) (ay_at (ax_upd hp 734 (ρ 4) (ρ 3)) 177 1) (ay_at (ax_upd hp 734 (ρ 4) (ρ 3)) 178 1) (ay_at (ax_upd hp 734 (ρ 4) (ρ 3)) 179 1) (ay_at (ax_upd hp 734 (ρ 4) (ρ 3)) 173 23) (ay_at (ax_upd hp 734 (ρ 4) (ρ 3)) 173 25) (ay_at (ax_upd hp 734 (ρ 4) (ρ 3)) 173 24) (ay_at (ax_upd hp 734 (ρ 4) (ρ 3)) 173 18) (ay_at (ax_upd hp 734 (ρ 4) (ρ 3)) 173 19) (ay_at (ax_upd hp 734 (ρ 4) (ρ 3)) 181)
  obtain ⟨o0, ho0⟩ := ay_some hT (q := 181) (g := 51) (n := 80) ax_cg_181 ax_cn_51 (j := ρ 4 / 4) (by omega)
  have u1 : ∀ q, q ≠ 181 → ay_at (ax_upd hp 734 (ρ 4) (ρ 3)) q = ay_at hp q := fun q hq => funext (fun j => ay_upd_ne hT.1 hq j)
  have u2 : ∀ j, ay_at (ax_upd hp 734 (ρ 4) (ρ 3)) 181 j = if j = ρ 4 / 4 then some (ρ 3) else ay_at hp 181 j := fun j => ay_upd_eq hT.1 rfl ho0 j
  refine ⟨ay_ex_upd hT.1 (ax_cellT hT (q := 175) (g := 45) ax_cg_175), ay_ex_upd hT.1 (ax_cellT hT (q := 176) (g := 46) ax_cg_176), ay_ex_upd hT.1 (ax_cellT hT (q := 177) (g := 47) ax_cg_177), ay_ex_upd hT.1 (ax_cellT hT (q := 178) (g := 48) ax_cg_178), ay_ex_upd hT.1 (ax_cellT hT (q := 179) (g := 49) ax_cg_179), ay_ex_upd hT.1 (ax_cellT hT (q := 173) (g := 11) ax_cg_173), ay_ex_upd hT.1 (ax_cellT hT (q := 173) (g := 11) ax_cg_173), ay_ex_upd hT.1 (ax_cellT hT (q := 173) (g := 11) ax_cg_173), ay_ex_upd hT.1 (ax_cellT hT (q := 173) (g := 11) ax_cg_173), ay_ex_upd hT.1 (ax_cellT hT (q := 173) (g := 11) ax_cg_173), ay_ex_upd hT.1 (ax_cellT hT (q := 181) (g := 51) ax_cg_181), ?_⟩
  rw [u1 175 (Nat.ne_of_beq_eq_false rfl), u1 176 (Nat.ne_of_beq_eq_false rfl), u1 177 (Nat.ne_of_beq_eq_false rfl), u1 178 (Nat.ne_of_beq_eq_false rfl), u1 179 (Nat.ne_of_beq_eq_false rfl), u1 173 (Nat.ne_of_beq_eq_false rfl)]
  rw [c_links]
  have ey : ρ 3 = 4 * (ρ 3 / 4) := by omega
  have el : ρ 5 / 4 = ρ 5 / 4 := rfl
  refine ⟨rfl, F175, F167, F204, by omega, F214, pz_y152_en (v := ρ 3) F152 rfl (show 40 * 1 + 2 * (ρ 5 / 4) ≤ ρ 4 / 4 by omega) u2, ?_, fun z => absurd z (by decide)⟩
  rw [u2, if_pos (by omega)]
  exact congrArg some ey

theorem axq0_mlA : ax_RO ax_wM0 (ax_XM 0) axu0_mlA := by
  intro ρ hp hE hT
  have j0 : ρ 0 % 4 = 1 := pz_gj hE 0 (Nat.le_of_ble_eq_true rfl) rfl
  have j1 : ρ 1 % 4 = 1 := pz_gj hE 1 (Nat.le_of_ble_eq_true rfl) rfl
  obtain ⟨i2a, i2b, i2c, i2d⟩ := pz_gi hE 2 2147483648 2147493647 (Nat.le_of_ble_eq_true rfl) rfl
  obtain ⟨i3a, i3b, i3c, i3d⟩ := pz_gi hE 3 2147483648 2147493647 (Nat.le_of_ble_eq_true rfl) rfl
  obtain ⟨i4a, i4b, i4c, i4d⟩ := pz_gi hE 4 2147483688 2147483727 (Nat.le_of_ble_eq_true rfl) rfl
  obtain ⟨i5a, i5b, i5c, i5d⟩ := pz_gi hE 5 2147483648 2147483667 (Nat.le_of_ble_eq_true rfl) rfl
  obtain ⟨i6a, i6b, i6c, i6d⟩ := pz_gi hE 6 0 4294967295 (Nat.le_of_ble_eq_true rfl) rfl
  obtain ⟨i7a, i7b, i7c, i7d⟩ := pz_gi hE 7 0 4294967295 (Nat.le_of_ble_eq_true rfl) rfl
  have c_links : ay_at hp 176 1 = some (ρ 5) := ay_gfj hE 714 4 23 176 1 ax_m1 (ax_vlq rfl rfl) (ax_vlj rfl rfl)
  have s1 : (160 / 4 + 2147483648) % 4294967296 + (ρ 6 / 4 + 2147483648) % 4294967296 = (ρ 7 / 4 + 2147483648) % 4294967296 + 2147483648 := pz_gs hE 160 27 31 ax_m3
  have s2 : (ρ 7 / 4 + 2147483648) % 4294967296 + (4 / 4 + 2147483648) % 4294967296 = (ρ 4 / 4 + 2147483648) % 4294967296 + 2147483648 := pz_gs hE 31 4 19 ax_m4
  obtain ⟨-, -, -, -, -, F151⟩ : ay_ex hp 173 ∧ ay_ex hp 173 ∧ ay_ex hp 173 ∧ ay_ex hp 173 ∧ ay_ex hp 173 ∧ pz_y151 (ρ 0) (ρ 1) (ay_at hp 173 13) (ay_at hp 173 14) (ay_at hp 173 15) (ay_at hp 173 16) (ay_at hp 173 17) := (ax_XF_lt (x := 151) (Nat.le_of_ble_eq_true rfl)).mp (ax_gx hE (151, [3, 7]) ax_m0)
  obtain ⟨-, -, -, -, -, -, -, -, -, -, -, F216⟩ : ay_ex hp 175 ∧ ay_ex hp 176 ∧ ay_ex hp 177 ∧ ay_ex hp 178 ∧ ay_ex hp 179 ∧ ay_ex hp 173 ∧ ay_ex hp 173 ∧ ay_ex hp 173 ∧ ay_ex hp 173 ∧ ay_ex hp 173 ∧ ay_ex hp 181 ∧ pz_yal 1 1 (ρ 0) (ρ 1) (ρ 3) (ρ 2) (ρ 5) (ay_at hp 175 1) (ay_at hp 176 1) (ay_at hp 177 1) (ay_at hp 178 1) (ay_at hp 179 1) (ay_at hp 173 23) (ay_at hp 173 25) (ay_at hp 173 24) (ay_at hp 173 18) (ay_at hp 173 19) (ay_at hp 181) := (ax_XF_lt (x := 216) (Nat.le_of_ble_eq_true rfl)).mp (ax_gx hE (216, [3, 7, 15, 11, 23]) ax_m5)
  rw [c_links] at F216
  obtain ⟨r, m1, m2', m3⟩ := ay_mk hE 2 8 23 27 (by decide) (by decide)
  replace m1 : some (8 / 4 * (ρ 5 / 4) % 4294967296) = some r := m1
  have m1 := Option.some.inj m1
  replace m3 : ρ 6 = 4 * r := m3
  have hl := (pz_ps 0 19 i5b i5c i5d (by decide)).2
  have hm : ρ 6 / 4 = 2 * (ρ 5 / 4) := by
    clear s1 s2
    omega
  have h1 : ρ 7 / 4 = 40 + ρ 6 / 4 := pz_sm (by decide) (by omega) i7b s1
  have h2 : ρ 4 / 4 = ρ 7 / 4 + 1 := pz_sm (by omega) (by decide) i4b s2
  have hj : ρ 4 / 4 = 40 * 1 + 2 * (ρ 5 / 4) + 1 := by omega
  refine ⟨(fun y hy => by cases hy), _, List.mem_cons_self, ρ, fun _ _ => rfl, ax_px hE rfl (fun x hx => ?_)⟩
  cases List.mem_singleton.mp hx
  refine (ax_XF_wr (x := 217) (Nat.le_of_ble_eq_true rfl)).mpr ?_
  show ay_ex (ax_upd hp 734 (ρ 4) (ρ 2)) 175 ∧ ay_ex (ax_upd hp 734 (ρ 4) (ρ 2)) 176 ∧ ay_ex (ax_upd hp 734 (ρ 4) (ρ 2)) 177 ∧ ay_ex (ax_upd hp 734 (ρ 4) (ρ 2)) 178 ∧ ay_ex (ax_upd hp 734 (ρ 4) (ρ 2)) 179 ∧ ay_ex (ax_upd hp 734 (ρ 4) (ρ 2)) 173 ∧ ay_ex (ax_upd hp 734 (ρ 4) (ρ 2)) 173 ∧ ay_ex (ax_upd hp 734 (ρ 4) (ρ 2)) 173 ∧ ay_ex (ax_upd hp 734 (ρ 4) (ρ 2)) 173 ∧ ay_ex (ax_upd hp 734 (ρ 4) (ρ 2)) 173 ∧ ay_ex (ax_upd hp 734 (ρ 4) (ρ 2)) 181 ∧ pz_yal 2 1 (ρ 0) (ρ 1) (ρ 3) (ρ 2) (ρ 5) (ay_at (ax_upd hp 734 (ρ 4) (ρ 2)) 175 1) (ay_at (ax_upd hp 734 (ρ 4) (ρ 2)) 176 1) (ay_at (ax_upd hp 734 (ρ 4) (ρ 2)) 177 1) (ay_at (ax_upd hp 734 (ρ 4) (ρ 2)) 178 1) (ay_at (ax_upd hp 734 (ρ 4) (ρ 2)) 179 1) (ay_at (ax_upd hp 734 (ρ 4) (ρ 2)) 173 23) (ay_at (ax_upd hp 734 (ρ 4) (ρ 2)) 173 25) (ay_at (ax_upd hp 734 (ρ 4) (ρ 2)) 173 24) (ay_at (ax_upd hp 734 (ρ 4) (ρ 2)) 173 18) (ay_at (ax_upd hp 734 (ρ 4) (ρ 2)) 173 19) (ay_at (ax_upd hp 734 (ρ 4) (ρ 2)) 181)
  obtain ⟨o0, ho0⟩ := ay_some hT (q := 181) (g := 51) (n := 80) ax_cg_181 ax_cn_51 (j := ρ 4 / 4) (by omega)
  have u1 : ∀ q, q ≠ 181 → ay_at (ax_upd hp 734 (ρ 4) (ρ 2)) q = ay_at hp q := fun q hq => funext (fun j => ay_upd_ne hT.1 hq j)
  have u2 : ∀ j, ay_at (ax_upd hp 734 (ρ 4) (ρ 2)) 181 j = if j = ρ 4 / 4 then some (ρ 2) else ay_at hp 181 j := fun j => ay_upd_eq hT.1 rfl ho0 j
  refine ⟨ay_ex_upd hT.1 (ax_cellT hT (q := 175) (g := 45) ax_cg_175), ay_ex_upd hT.1 (ax_cellT hT (q := 176) (g := 46) ax_cg_176), ay_ex_upd hT.1 (ax_cellT hT (q := 177) (g := 47) ax_cg_177), ay_ex_upd hT.1 (ax_cellT hT (q := 178) (g := 48) ax_cg_178), ay_ex_upd hT.1 (ax_cellT hT (q := 179) (g := 49) ax_cg_179), ay_ex_upd hT.1 (ax_cellT hT (q := 173) (g := 11) ax_cg_173), ay_ex_upd hT.1 (ax_cellT hT (q := 173) (g := 11) ax_cg_173), ay_ex_upd hT.1 (ax_cellT hT (q := 173) (g := 11) ax_cg_173), ay_ex_upd hT.1 (ax_cellT hT (q := 173) (g := 11) ax_cg_173), ay_ex_upd hT.1 (ax_cellT hT (q := 173) (g := 11) ax_cg_173), ay_ex_upd hT.1 (ax_cellT hT (q := 181) (g := 51) ax_cg_181), ?_⟩
  rw [u1 175 (Nat.ne_of_beq_eq_false rfl), u1 176 (Nat.ne_of_beq_eq_false rfl), u1 177 (Nat.ne_of_beq_eq_false rfl), u1 178 (Nat.ne_of_beq_eq_false rfl), u1 179 (Nat.ne_of_beq_eq_false rfl), u1 173 (Nat.ne_of_beq_eq_false rfl)]
  rw [c_links]
  have ex : ρ 2 = 4 * (ρ 2 / 4) := by omega
  obtain ⟨a1, a2, a3, a4, a5, a6, a7, a8, a9⟩ := F216
  refine ⟨a1, a2, a3, a4, a5, a6, pz_y152_en (v := ρ 2) a7 a1 (show 40 * 1 + 2 * (ρ 5 / 4) ≤ ρ 4 / 4 by omega) u2, ?_, fun _ => ?_⟩
  · rw [u2, if_neg (by omega)]
    exact a8
  · rw [u2, if_pos (by omega)]
    exact congrArg some ex

theorem axq0_mlB : ax_RO ax_wM0 (ax_XM 0) axu0_mlB := by
  intro ρ hp hE hT
  have j0 : ρ 0 % 4 = 1 := pz_gj hE 0 (Nat.le_of_ble_eq_true rfl) rfl
  have j1 : ρ 1 % 4 = 1 := pz_gj hE 1 (Nat.le_of_ble_eq_true rfl) rfl
  obtain ⟨i2a, i2b, i2c, i2d⟩ := pz_gi hE 2 2147483648 2147493647 (Nat.le_of_ble_eq_true rfl) rfl
  obtain ⟨i3a, i3b, i3c, i3d⟩ := pz_gi hE 3 2147483648 2147493647 (Nat.le_of_ble_eq_true rfl) rfl
  obtain ⟨i4a, i4b, i4c, i4d⟩ := pz_gi hE 4 0 4294967295 (Nat.le_of_ble_eq_true rfl) rfl
  obtain ⟨i5a, i5b, i5c, i5d⟩ := pz_gi hE 5 2147483648 2147483667 (Nat.le_of_ble_eq_true rfl) rfl
  have c_links : ay_at hp 176 1 = some (ρ 5) := ay_gfj hE 714 4 23 176 1 ax_m1 (ax_vlq rfl rfl) (ax_vlj rfl rfl)
  have s1 : (ρ 5 / 4 + 2147483648) % 4294967296 + (4 / 4 + 2147483648) % 4294967296 = (ρ 4 / 4 + 2147483648) % 4294967296 + 2147483648 := pz_gs hE 23 4 19 ax_m2
  obtain ⟨-, -, -, -, -, F151⟩ : ay_ex hp 173 ∧ ay_ex hp 173 ∧ ay_ex hp 173 ∧ ay_ex hp 173 ∧ ay_ex hp 173 ∧ pz_y151 (ρ 0) (ρ 1) (ay_at hp 173 13) (ay_at hp 173 14) (ay_at hp 173 15) (ay_at hp 173 16) (ay_at hp 173 17) := (ax_XF_lt (x := 151) (Nat.le_of_ble_eq_true rfl)).mp (ax_gx hE (151, [3, 7]) ax_m0)
  obtain ⟨-, -, -, -, -, -, -, -, -, -, -, F217⟩ : ay_ex hp 175 ∧ ay_ex hp 176 ∧ ay_ex hp 177 ∧ ay_ex hp 178 ∧ ay_ex hp 179 ∧ ay_ex hp 173 ∧ ay_ex hp 173 ∧ ay_ex hp 173 ∧ ay_ex hp 173 ∧ ay_ex hp 173 ∧ ay_ex hp 181 ∧ pz_yal 2 1 (ρ 0) (ρ 1) (ρ 3) (ρ 2) (ρ 5) (ay_at hp 175 1) (ay_at hp 176 1) (ay_at hp 177 1) (ay_at hp 178 1) (ay_at hp 179 1) (ay_at hp 173 23) (ay_at hp 173 25) (ay_at hp 173 24) (ay_at hp 173 18) (ay_at hp 173 19) (ay_at hp 181) := (ax_XF_lt (x := 217) (Nat.le_of_ble_eq_true rfl)).mp (ax_gx hE (217, [3, 7, 15, 11, 23]) ax_m3)
  rw [c_links] at F217
  have el : ρ 4 / 4 = ρ 5 / 4 + 1 := by omega
  obtain ⟨a1, a2, a3, a4, a5, a6, a7, a8, a9⟩ := F217
  have a9 := a9 (by decide)
  have st := pq_al (pz_m50 F151 a7) a2 a3 a4 a5 a6 (fun _ _ => rfl) (fun _ _ => rfl) (show pz_be _ _ _ = _ from a8) (show pz_fi 1 (ay_at hp 181) (2 * (ρ 5 / 4)) = _ by unfold pz_fi; rw [if_pos (by omega)]; exact a9) (show pz_be _ _ _ = _ from a9) (show pz_fi 1 (ay_at hp 181) (2 * (ρ 5 / 4) + 1) = _ by unfold pz_fi; rw [if_neg (by omega)]; exact a8)
  obtain ⟨ρ', h1, h2⟩ := pz_pn1 (K := ρ 1 / 4 + 1) (xf := [(652, [714, 4, 19, 3, 27]), (181, [3, 27]), (153, [3, 27]), (182, [7, 27])]) hE (by decide) (fun ρ' h1 h2 x hx => by
    have q0 : ρ' 0 = ρ 0 := h1 0 (by decide)
    have q1 : ρ' 1 = ρ 1 := h1 1 (by decide)
    have q2 : ρ' 2 = ρ 2 := h1 2 (by decide)
    have q3 : ρ' 3 = ρ 3 := h1 3 (by decide)
    have q4 : ρ' 4 = ρ 4 := h1 4 (by decide)
    have q5 : ρ' 5 = ρ 5 := h1 5 (by decide)
    rcases List.mem_cons.mp hx with e | hx
    · subst e
      refine (ax_XF_wr (x := 152) (Nat.le_of_ble_eq_true rfl)).mpr ?_
      show ay_ex (ax_upd hp 714 (4) (ρ' 4)) 175 ∧ ay_ex (ax_upd hp 714 (4) (ρ' 4)) 176 ∧ ay_ex (ax_upd hp 714 (4) (ρ' 4)) 177 ∧ ay_ex (ax_upd hp 714 (4) (ρ' 4)) 178 ∧ ay_ex (ax_upd hp 714 (4) (ρ' 4)) 179 ∧ ay_ex (ax_upd hp 714 (4) (ρ' 4)) 173 ∧ ay_ex (ax_upd hp 714 (4) (ρ' 4)) 173 ∧ ay_ex (ax_upd hp 714 (4) (ρ' 4)) 173 ∧ ay_ex (ax_upd hp 714 (4) (ρ' 4)) 173 ∧ ay_ex (ax_upd hp 714 (4) (ρ' 4)) 173 ∧ ay_ex (ax_upd hp 714 (4) (ρ' 4)) 181 ∧ pz_y152 1 (ρ' 0) (ρ' 6) (ay_at (ax_upd hp 714 (4) (ρ' 4)) 175 1) (ay_at (ax_upd hp 714 (4) (ρ' 4)) 176 1) (ay_at (ax_upd hp 714 (4) (ρ' 4)) 177 1) (ay_at (ax_upd hp 714 (4) (ρ' 4)) 178 1) (ay_at (ax_upd hp 714 (4) (ρ' 4)) 179 1) (ay_at (ax_upd hp 714 (4) (ρ' 4)) 173 23) (ay_at (ax_upd hp 714 (4) (ρ' 4)) 173 25) (ay_at (ax_upd hp 714 (4) (ρ' 4)) 173 24) (ay_at (ax_upd hp 714 (4) (ρ' 4)) 173 18) (ay_at (ax_upd hp 714 (4) (ρ' 4)) 173 19) (ay_at (ax_upd hp 714 (4) (ρ' 4)) 181)
      rw [q0, q4, h2]
      obtain ⟨o0, ho0⟩ := ay_some hT (q := 176) (g := 46) (n := 2) ax_cg_176 ax_cn_46 (j := 4 / 4) (Nat.le_of_ble_eq_true rfl)
      have u1 : ∀ q, q ≠ 176 → ay_at (ax_upd hp 714 4 (ρ 4)) q = ay_at hp q := fun q hq => funext (fun j => ay_upd_ne hT.1 hq j)
      have u2 : ∀ j, ay_at (ax_upd hp 714 4 (ρ 4)) 176 j = if j = 1 then some (ρ 4) else ay_at hp 176 j := fun j => ay_upd_eq hT.1 rfl ho0 j
      refine ⟨ay_ex_upd hT.1 (ax_cellT hT (q := 175) (g := 45) ax_cg_175), ay_ex_upd hT.1 (ax_cellT hT (q := 176) (g := 46) ax_cg_176), ay_ex_upd hT.1 (ax_cellT hT (q := 177) (g := 47) ax_cg_177), ay_ex_upd hT.1 (ax_cellT hT (q := 178) (g := 48) ax_cg_178), ay_ex_upd hT.1 (ax_cellT hT (q := 179) (g := 49) ax_cg_179), ay_ex_upd hT.1 (ax_cellT hT (q := 173) (g := 11) ax_cg_173), ay_ex_upd hT.1 (ax_cellT hT (q := 173) (g := 11) ax_cg_173), ay_ex_upd hT.1 (ax_cellT hT (q := 173) (g := 11) ax_cg_173), ay_ex_upd hT.1 (ax_cellT hT (q := 173) (g := 11) ax_cg_173), ay_ex_upd hT.1 (ax_cellT hT (q := 173) (g := 11) ax_cg_173), ay_ex_upd hT.1 (ax_cellT hT (q := 181) (g := 51) ax_cg_181), ?_⟩
      rw [u1 175 (Nat.ne_of_beq_eq_false rfl), u2 1, if_pos rfl, u1 177 (Nat.ne_of_beq_eq_false rfl), u1 178 (Nat.ne_of_beq_eq_false rfl), u1 179 (Nat.ne_of_beq_eq_false rfl), u1 173 (Nat.ne_of_beq_eq_false rfl), u1 181 (Nat.ne_of_beq_eq_false rfl)]
      refine pz_l152 (pz_41 _) ?_
      show pz_dt _ _ (ρ 4 / 4) _ _ _ _ _ _ _ _ _ _
      rw [el]
      exact st.1.2
    rcases List.mem_cons.mp hx with e | hx
    · subst e
      refine (ax_XF_lt (x := 181) (Nat.le_of_ble_eq_true rfl)).mpr ?_
      show pz_y181 (ρ' 0) (ρ' 6)
      rw [q0, h2]
      refine Or.inl ?_
      rw [pz_41]
      exact st.2
    rcases List.mem_cons.mp hx with e | hx
    · subst e
      refine (ax_XF_lt (x := 153) (Nat.le_of_ble_eq_true rfl)).mpr ?_
      show ay_ex hp 173 ∧ pz_at (pz_gt (ρ' 0)) (pz_gN (ρ' 0)) (ay_ln (ay_at hp 173 13)) = pz_at (pz_gt (ρ' 0)) (pz_gN (ρ' 0)) (pz_p (pz_cF (ρ' 0) (ρ' 6)))
      rw [q0, h2]
      refine ⟨(ax_cellT hT (q := 173) (g := 11) ax_cg_173), ?_⟩
      exact pz_l153 (pz_41 _) st.1.1
    cases List.mem_singleton.mp hx
    refine (ax_XF_lt (x := 182) (Nat.le_of_ble_eq_true rfl)).mpr ?_
    show (ρ' 6) / 4 = (ρ' 1) / 4 + 1
    rw [q1, h2]
    rw [pz_41])
  exact ⟨(fun y hy => by cases hy), _, List.mem_cons_self, ρ', h1, h2⟩

theorem axqg_t0_ml2 {w : ax_W} {b : Nat} (hw : ax_WW w) : ax_RO w (ax_XM b) axu0_t0_ml2 := by
  intro ρ hp hE hT
  have j0 : ρ 0 % 4 = 1 := pz_gj hE 0 (Nat.le_of_ble_eq_true rfl) rfl
  have j1 : ρ 1 % 4 = 1 := pz_gj hE 1 (Nat.le_of_ble_eq_true rfl) rfl
  have j2 : ρ 2 % 4 = 1 := pz_gj hE 2 (Nat.le_of_ble_eq_true rfl) rfl
  have j3 : ρ 3 % 4 = 1 := pz_gj hE 3 (Nat.le_of_ble_eq_true rfl) rfl
  have F173 : pz7 (pz_gt (ρ 0)) (pz_gN (ρ 0)) ((ρ 1) / 4) 3 := (ax_XF_lt (x := 173) (Nat.le_of_ble_eq_true rfl)).mp (ax_gx hE (173, [3, 7]) ax_m0)
  have F182 : (ρ 2) / 4 = (ρ 1) / 4 + 1 := (ax_XF_lt (x := 182) (Nat.le_of_ble_eq_true rfl)).mp (ax_gx hE (182, [7, 11]) ax_m1)
  have F246 : py_y246 (pz_gt (ρ 0)) (pz_gN (ρ 0)) ((ρ 1) / 4) (5) (ρ 3) := (ax_XF_lt (x := 246) (Nat.le_of_ble_eq_true rfl)).mp (ax_gx hE (246, [3, 7, 5, 15]) ax_m2)
  refine ⟨(fun y hy => by cases hy), _, List.mem_cons_self, ρ, fun _ _ => rfl, ax_px hE rfl (fun x hx => ?_)⟩
  cases List.mem_singleton.mp hx
  refine (ax_XF_lt (x := 246) (Nat.le_of_ble_eq_true rfl)).mpr ?_
  show py_y246 (pz_gt (ρ 0)) (pz_gN (ρ 0)) ((ρ 2) / 4) (5) (ρ 3)
  exact pm_t0 F173 (by decide) (by decide) F182 F246
theorem axq0_t0_ml2 : ax_RO ax_wM0 (ax_XM 0) axu0_t0_ml2 := axqg_t0_ml2 ax_WW0
theorem axqg_t0_ml4 {w : ax_W} {b : Nat} (hw : ax_WW w) : ax_RO w (ax_XM b) axu0_t0_ml4 := by
  intro ρ hp hE hT
  have j0 : ρ 0 % 4 = 1 := pz_gj hE 0 (Nat.le_of_ble_eq_true rfl) rfl
  have j1 : ρ 1 % 4 = 1 := pz_gj hE 1 (Nat.le_of_ble_eq_true rfl) rfl
  have j2 : ρ 2 % 4 = 1 := pz_gj hE 2 (Nat.le_of_ble_eq_true rfl) rfl
  have j3 : ρ 3 % 4 = 1 := pz_gj hE 3 (Nat.le_of_ble_eq_true rfl) rfl
  have F174 : pz7 (pz_gt (ρ 0)) (pz_gN (ρ 0)) ((ρ 1) / 4) 4 := (ax_XF_lt (x := 174) (Nat.le_of_ble_eq_true rfl)).mp (ax_gx hE (174, [3, 7]) ax_m0)
  have F182 : (ρ 2) / 4 = (ρ 1) / 4 + 1 := (ax_XF_lt (x := 182) (Nat.le_of_ble_eq_true rfl)).mp (ax_gx hE (182, [7, 11]) ax_m1)
  have F246 : py_y246 (pz_gt (ρ 0)) (pz_gN (ρ 0)) ((ρ 1) / 4) (5) (ρ 3) := (ax_XF_lt (x := 246) (Nat.le_of_ble_eq_true rfl)).mp (ax_gx hE (246, [3, 7, 5, 15]) ax_m2)
  refine ⟨(fun y hy => by cases hy), _, List.mem_cons_self, ρ, fun _ _ => rfl, ax_px hE rfl (fun x hx => ?_)⟩
  cases List.mem_singleton.mp hx
  refine (ax_XF_lt (x := 246) (Nat.le_of_ble_eq_true rfl)).mpr ?_
  show py_y246 (pz_gt (ρ 0)) (pz_gN (ρ 0)) ((ρ 2) / 4) (5) (ρ 3)
  exact pm_t0 F174 (by decide) (by decide) F182 F246
theorem axq0_t0_ml4 : ax_RO ax_wM0 (ax_XM 0) axu0_t0_ml4 := axqg_t0_ml4 ax_WW0
theorem axqg_t0_mlB {w : ax_W} {b : Nat} (hw : ax_WW w) : ax_RO w (ax_XM b) axu0_t0_mlB := by
  intro ρ hp hE hT
  have j0 : ρ 0 % 4 = 1 := pz_gj hE 0 (Nat.le_of_ble_eq_true rfl) rfl
  have j1 : ρ 1 % 4 = 1 := pz_gj hE 1 (Nat.le_of_ble_eq_true rfl) rfl
  have j2 : ρ 2 % 4 = 1 := pz_gj hE 2 (Nat.le_of_ble_eq_true rfl) rfl
  have j3 : ρ 3 % 4 = 1 := pz_gj hE 3 (Nat.le_of_ble_eq_true rfl) rfl
  have F175 : pz7 (pz_gt (ρ 0)) (pz_gN (ρ 0)) ((ρ 1) / 4) 5 := (ax_XF_lt (x := 175) (Nat.le_of_ble_eq_true rfl)).mp (ax_gx hE (175, [3, 7]) ax_m0)
  have F182 : (ρ 2) / 4 = (ρ 1) / 4 + 1 := (ax_XF_lt (x := 182) (Nat.le_of_ble_eq_true rfl)).mp (ax_gx hE (182, [7, 11]) ax_m1)
  have F246 : py_y246 (pz_gt (ρ 0)) (pz_gN (ρ 0)) ((ρ 1) / 4) (5) (ρ 3) := (ax_XF_lt (x := 246) (Nat.le_of_ble_eq_true rfl)).mp (ax_gx hE (246, [3, 7, 5, 15]) ax_m2)
  refine ⟨(fun y hy => by cases hy), _, List.mem_cons_self, ρ, fun _ _ => rfl, ax_px hE rfl (fun x hx => ?_)⟩
  cases List.mem_singleton.mp hx
  refine (ax_XF_lt (x := 246) (Nat.le_of_ble_eq_true rfl)).mpr ?_
  show py_y246 (pz_gt (ρ 0)) (pz_gN (ρ 0)) ((ρ 2) / 4) (5) (ρ 3)
  exact pm_t0 F175 (by decide) (by decide) F182 F246
theorem axq0_t0_mlB : ax_RO ax_wM0 (ax_XM 0) axu0_t0_mlB := axqg_t0_mlB ax_WW0
theorem axq0_my_ro : ax_RO ax_wM0 (ax_XM 0) axu0_my_ro := by
  intro ρ hp hE hT
  have j0 : ρ 0 % 4 = 1 := pz_gj hE 0 (Nat.le_of_ble_eq_true rfl) rfl
  have j1 : ρ 1 % 4 = 1 := pz_gj hE 1 (Nat.le_of_ble_eq_true rfl) rfl
  obtain ⟨i2a, i2b, i2c, i2d⟩ := pz_gi hE 2 2147483648 2147483648 (Nat.le_of_ble_eq_true rfl) rfl
  have c_hasRoot : ay_at hp 173 23 = some (ρ 2) := ay_gfj hE 702 92 11 173 23 ax_m5 (ax_vlq rfl rfl) (ax_vlj rfl rfl)
  obtain ⟨-, -, -, -, -, F151⟩ : ay_ex hp 173 ∧ ay_ex hp 173 ∧ ay_ex hp 173 ∧ ay_ex hp 173 ∧ ay_ex hp 173 ∧ pz_y151 (ρ 0) (ρ 1) (ay_at hp 173 13) (ay_at hp 173 14) (ay_at hp 173 15) (ay_at hp 173 16) (ay_at hp 173 17) := (ax_XF_lt (x := 151) (Nat.le_of_ble_eq_true rfl)).mp (ax_gx hE (151, [3, 7]) ax_m0)
  obtain ⟨-, -, -, -, -, -, -, -, -, -, -, F152⟩ : ay_ex hp 175 ∧ ay_ex hp 176 ∧ ay_ex hp 177 ∧ ay_ex hp 178 ∧ ay_ex hp 179 ∧ ay_ex hp 173 ∧ ay_ex hp 173 ∧ ay_ex hp 173 ∧ ay_ex hp 173 ∧ ay_ex hp 173 ∧ ay_ex hp 181 ∧ pz_y152 1 (ρ 0) (ρ 1) (ay_at hp 175 1) (ay_at hp 176 1) (ay_at hp 177 1) (ay_at hp 178 1) (ay_at hp 179 1) (ay_at hp 173 23) (ay_at hp 173 25) (ay_at hp 173 24) (ay_at hp 173 18) (ay_at hp 173 19) (ay_at hp 181) := (ax_XF_lt (x := 152) (Nat.le_of_ble_eq_true rfl)).mp (ax_gx hE (152, [3, 7]) ax_m1)
  rw [c_hasRoot] at F152
  have F173 : pz7 (pz_gt (ρ 0)) (pz_gN (ρ 0)) ((ρ 1) / 4) 3 := (ax_XF_lt (x := 173) (Nat.le_of_ble_eq_true rfl)).mp (ax_gx hE (173, [3, 7]) ax_m2)
  have F160 : pz60 (pz_gt (ρ 0)) (pz_gN (ρ 0)) ((ρ 1) / 4) ((8) / 4) := (ax_XF_lt (x := 160) (Nat.le_of_ble_eq_true rfl)).mp (ax_gx hE (160, [3, 7, 8]) ax_m3)
  have F161 : pz61 (pz_gt (ρ 0)) (pz_gN (ρ 0)) ((ρ 1) / 4) ((4) / 4) := (ax_XF_lt (x := 161) (Nat.le_of_ble_eq_true rfl)).mp (ax_gx hE (161, [3, 7, 4]) ax_m4)
  have st := pq_rl_ro (pz_m50 F151 F152) F173 F161 F160 (show ρ 2 / 4 = 0 by omega)
  obtain ⟨ρ', h1, h2⟩ := pz_pn1 (K := ρ 1 / 4 + 1) (xf := [(652, [702, 92, 4, 3, 15]), (176, [3, 15]), (153, [3, 15]), (182, [7, 15])]) hE (by decide) (fun ρ' h1 h2 x hx => by
    have q0 : ρ' 0 = ρ 0 := h1 0 (by decide)
    have q1 : ρ' 1 = ρ 1 := h1 1 (by decide)
    have q2 : ρ' 2 = ρ 2 := h1 2 (by decide)
    rcases List.mem_cons.mp hx with e | hx
    · subst e
      refine (ax_XF_wr (x := 152) (Nat.le_of_ble_eq_true rfl)).mpr ?_
      show ay_ex (ax_upd hp 702 (92) (4)) 175 ∧ ay_ex (ax_upd hp 702 (92) (4)) 176 ∧ ay_ex (ax_upd hp 702 (92) (4)) 177 ∧ ay_ex (ax_upd hp 702 (92) (4)) 178 ∧ ay_ex (ax_upd hp 702 (92) (4)) 179 ∧ ay_ex (ax_upd hp 702 (92) (4)) 173 ∧ ay_ex (ax_upd hp 702 (92) (4)) 173 ∧ ay_ex (ax_upd hp 702 (92) (4)) 173 ∧ ay_ex (ax_upd hp 702 (92) (4)) 173 ∧ ay_ex (ax_upd hp 702 (92) (4)) 173 ∧ ay_ex (ax_upd hp 702 (92) (4)) 181 ∧ pz_y152 1 (ρ' 0) (ρ' 3) (ay_at (ax_upd hp 702 (92) (4)) 175 1) (ay_at (ax_upd hp 702 (92) (4)) 176 1) (ay_at (ax_upd hp 702 (92) (4)) 177 1) (ay_at (ax_upd hp 702 (92) (4)) 178 1) (ay_at (ax_upd hp 702 (92) (4)) 179 1) (ay_at (ax_upd hp 702 (92) (4)) 173 23) (ay_at (ax_upd hp 702 (92) (4)) 173 25) (ay_at (ax_upd hp 702 (92) (4)) 173 24) (ay_at (ax_upd hp 702 (92) (4)) 173 18) (ay_at (ax_upd hp 702 (92) (4)) 173 19) (ay_at (ax_upd hp 702 (92) (4)) 181)
      rw [q0, h2]
      obtain ⟨o0, ho0⟩ := ay_some hT (q := 173) (g := 11) (n := 58) ax_cg_173 ax_cn_11 (j := 92 / 4) (Nat.le_of_ble_eq_true rfl)
      have u1 : ∀ q, q ≠ 173 → ay_at (ax_upd hp 702 92 (4)) q = ay_at hp q := fun q hq => funext (fun j => ay_upd_ne hT.1 hq j)
      have u2 : ∀ j, ay_at (ax_upd hp 702 92 (4)) 173 j = if j = 23 then some (4) else ay_at hp 173 j := fun j => ay_upd_eq hT.1 rfl ho0 j
      refine ⟨ay_ex_upd hT.1 (ax_cellT hT (q := 175) (g := 45) ax_cg_175), ay_ex_upd hT.1 (ax_cellT hT (q := 176) (g := 46) ax_cg_176), ay_ex_upd hT.1 (ax_cellT hT (q := 177) (g := 47) ax_cg_177), ay_ex_upd hT.1 (ax_cellT hT (q := 178) (g := 48) ax_cg_178), ay_ex_upd hT.1 (ax_cellT hT (q := 179) (g := 49) ax_cg_179), ay_ex_upd hT.1 (ax_cellT hT (q := 173) (g := 11) ax_cg_173), ay_ex_upd hT.1 (ax_cellT hT (q := 173) (g := 11) ax_cg_173), ay_ex_upd hT.1 (ax_cellT hT (q := 173) (g := 11) ax_cg_173), ay_ex_upd hT.1 (ax_cellT hT (q := 173) (g := 11) ax_cg_173), ay_ex_upd hT.1 (ax_cellT hT (q := 173) (g := 11) ax_cg_173), ay_ex_upd hT.1 (ax_cellT hT (q := 181) (g := 51) ax_cg_181), ?_⟩
      rw [u1 175 (Nat.ne_of_beq_eq_false rfl), u1 176 (Nat.ne_of_beq_eq_false rfl), u1 177 (Nat.ne_of_beq_eq_false rfl), u1 178 (Nat.ne_of_beq_eq_false rfl), u1 179 (Nat.ne_of_beq_eq_false rfl), u2 23, if_pos rfl, u2 25, if_neg (show ¬ 25 = 23 from Nat.ne_of_beq_eq_false rfl), u2 24, if_neg (show ¬ 24 = 23 from Nat.ne_of_beq_eq_false rfl), u2 18, if_neg (show ¬ 18 = 23 from Nat.ne_of_beq_eq_false rfl), u2 19, if_neg (show ¬ 19 = 23 from Nat.ne_of_beq_eq_false rfl), u1 181 (Nat.ne_of_beq_eq_false rfl)]
      exact pz_l152 (pz_41 _) st.1.2
    rcases List.mem_cons.mp hx with e | hx
    · subst e
      refine (ax_XF_lt (x := 176) (Nat.le_of_ble_eq_true rfl)).mpr ?_
      show pz7 (pz_gt (ρ' 0)) (pz_gN (ρ' 0)) ((ρ' 3) / 4) 6
      rw [q0, h2]
      rw [pz_41]
      exact st.2
    rcases List.mem_cons.mp hx with e | hx
    · subst e
      refine (ax_XF_lt (x := 153) (Nat.le_of_ble_eq_true rfl)).mpr ?_
      show ay_ex hp 173 ∧ pz_at (pz_gt (ρ' 0)) (pz_gN (ρ' 0)) (ay_ln (ay_at hp 173 13)) = pz_at (pz_gt (ρ' 0)) (pz_gN (ρ' 0)) (pz_p (pz_cF (ρ' 0) (ρ' 3)))
      rw [q0, h2]
      refine ⟨(ax_cellT hT (q := 173) (g := 11) ax_cg_173), ?_⟩
      exact pz_l153 (pz_41 _) st.1.1
    cases List.mem_singleton.mp hx
    refine (ax_XF_lt (x := 182) (Nat.le_of_ble_eq_true rfl)).mpr ?_
    show (ρ' 3) / 4 = (ρ' 1) / 4 + 1
    rw [q1, h2]
    rw [pz_41])
  exact ⟨(fun y hy => by cases hy), _, List.mem_cons_self, ρ', h1, h2⟩

theorem axq0_my_rm : ax_RO ax_wM0 (ax_XM 0) axu0_my_rm := by
  intro ρ hp hE hT
  have j0 : ρ 0 % 4 = 1 := pz_gj hE 0 (Nat.le_of_ble_eq_true rfl) rfl
  have j1 : ρ 1 % 4 = 1 := pz_gj hE 1 (Nat.le_of_ble_eq_true rfl) rfl
  obtain ⟨i2a, i2b, i2c, i2d⟩ := pz_gi hE 2 2147483648 2147483648 (Nat.le_of_ble_eq_true rfl) rfl
  have c_hasRoom : ay_at hp 173 25 = some (ρ 2) := ay_gfj hE 702 100 11 173 25 ax_m5 (ax_vlq rfl rfl) (ax_vlj rfl rfl)
  obtain ⟨-, -, -, -, -, F151⟩ : ay_ex hp 173 ∧ ay_ex hp 173 ∧ ay_ex hp 173 ∧ ay_ex hp 173 ∧ ay_ex hp 173 ∧ pz_y151 (ρ 0) (ρ 1) (ay_at hp 173 13) (ay_at hp 173 14) (ay_at hp 173 15) (ay_at hp 173 16) (ay_at hp 173 17) := (ax_XF_lt (x := 151) (Nat.le_of_ble_eq_true rfl)).mp (ax_gx hE (151, [3, 7]) ax_m0)
  obtain ⟨-, -, -, -, -, -, -, -, -, -, -, F152⟩ : ay_ex hp 175 ∧ ay_ex hp 176 ∧ ay_ex hp 177 ∧ ay_ex hp 178 ∧ ay_ex hp 179 ∧ ay_ex hp 173 ∧ ay_ex hp 173 ∧ ay_ex hp 173 ∧ ay_ex hp 173 ∧ ay_ex hp 173 ∧ ay_ex hp 181 ∧ pz_y152 1 (ρ 0) (ρ 1) (ay_at hp 175 1) (ay_at hp 176 1) (ay_at hp 177 1) (ay_at hp 178 1) (ay_at hp 179 1) (ay_at hp 173 23) (ay_at hp 173 25) (ay_at hp 173 24) (ay_at hp 173 18) (ay_at hp 173 19) (ay_at hp 181) := (ax_XF_lt (x := 152) (Nat.le_of_ble_eq_true rfl)).mp (ax_gx hE (152, [3, 7]) ax_m1)
  rw [c_hasRoom] at F152
  have F173 : pz7 (pz_gt (ρ 0)) (pz_gN (ρ 0)) ((ρ 1) / 4) 3 := (ax_XF_lt (x := 173) (Nat.le_of_ble_eq_true rfl)).mp (ax_gx hE (173, [3, 7]) ax_m2)
  have F160 : pz60 (pz_gt (ρ 0)) (pz_gN (ρ 0)) ((ρ 1) / 4) ((12) / 4) := (ax_XF_lt (x := 160) (Nat.le_of_ble_eq_true rfl)).mp (ax_gx hE (160, [3, 7, 12]) ax_m3)
  have F161 : pz61 (pz_gt (ρ 0)) (pz_gN (ρ 0)) ((ρ 1) / 4) ((4) / 4) := (ax_XF_lt (x := 161) (Nat.le_of_ble_eq_true rfl)).mp (ax_gx hE (161, [3, 7, 4]) ax_m4)
  have st := pq_rl_rm (pz_m50 F151 F152) F173 F161 F160 (show ρ 2 / 4 = 0 by omega)
  obtain ⟨ρ', h1, h2⟩ := pz_pn1 (K := ρ 1 / 4 + 1) (xf := [(652, [702, 100, 4, 3, 15]), (177, [3, 15]), (153, [3, 15]), (182, [7, 15])]) hE (by decide) (fun ρ' h1 h2 x hx => by
    have q0 : ρ' 0 = ρ 0 := h1 0 (by decide)
    have q1 : ρ' 1 = ρ 1 := h1 1 (by decide)
    have q2 : ρ' 2 = ρ 2 := h1 2 (by decide)
    rcases List.mem_cons.mp hx with e | hx
    · subst e
      refine (ax_XF_wr (x := 152) (Nat.le_of_ble_eq_true rfl)).mpr ?_
      show ay_ex (ax_upd hp 702 (100) (4)) 175 ∧ ay_ex (ax_upd hp 702 (100) (4)) 176 ∧ ay_ex (ax_upd hp 702 (100) (4)) 177 ∧ ay_ex (ax_upd hp 702 (100) (4)) 178 ∧ ay_ex (ax_upd hp 702 (100) (4)) 179 ∧ ay_ex (ax_upd hp 702 (100) (4)) 173 ∧ ay_ex (ax_upd hp 702 (100) (4)) 173 ∧ ay_ex (ax_upd hp 702 (100) (4)) 173 ∧ ay_ex (ax_upd hp 702 (100) (4)) 173 ∧ ay_ex (ax_upd hp 702 (100) (4)) 173 ∧ ay_ex (ax_upd hp 702 (100) (4)) 181 ∧ pz_y152 1 (ρ' 0) (ρ' 3) (ay_at (ax_upd hp 702 (100) (4)) 175 1) (ay_at (ax_upd hp 702 (100) (4)) 176 1) (ay_at (ax_upd hp 702 (100) (4)) 177 1) (ay_at (ax_upd hp 702 (100) (4)) 178 1) (ay_at (ax_upd hp 702 (100) (4)) 179 1) (ay_at (ax_upd hp 702 (100) (4)) 173 23) (ay_at (ax_upd hp 702 (100) (4)) 173 25) (ay_at (ax_upd hp 702 (100) (4)) 173 24) (ay_at (ax_upd hp 702 (100) (4)) 173 18) (ay_at (ax_upd hp 702 (100) (4)) 173 19) (ay_at (ax_upd hp 702 (100) (4)) 181)
      rw [q0, h2]
      obtain ⟨o0, ho0⟩ := ay_some hT (q := 173) (g := 11) (n := 58) ax_cg_173 ax_cn_11 (j := 100 / 4) (Nat.le_of_ble_eq_true rfl)
      have u1 : ∀ q, q ≠ 173 → ay_at (ax_upd hp 702 100 (4)) q = ay_at hp q := fun q hq => funext (fun j => ay_upd_ne hT.1 hq j)
      have u2 : ∀ j, ay_at (ax_upd hp 702 100 (4)) 173 j = if j = 25 then some (4) else ay_at hp 173 j := fun j => ay_upd_eq hT.1 rfl ho0 j
      refine ⟨ay_ex_upd hT.1 (ax_cellT hT (q := 175) (g := 45) ax_cg_175), ay_ex_upd hT.1 (ax_cellT hT (q := 176) (g := 46) ax_cg_176), ay_ex_upd hT.1 (ax_cellT hT (q := 177) (g := 47) ax_cg_177), ay_ex_upd hT.1 (ax_cellT hT (q := 178) (g := 48) ax_cg_178), ay_ex_upd hT.1 (ax_cellT hT (q := 179) (g := 49) ax_cg_179), ay_ex_upd hT.1 (ax_cellT hT (q := 173) (g := 11) ax_cg_173), ay_ex_upd hT.1 (ax_cellT hT (q := 173) (g := 11) ax_cg_173), ay_ex_upd hT.1 (ax_cellT hT (q := 173) (g := 11) ax_cg_173), ay_ex_upd hT.1 (ax_cellT hT (q := 173) (g := 11) ax_cg_173), ay_ex_upd hT.1 (ax_cellT hT (q := 173) (g := 11) ax_cg_173), ay_ex_upd hT.1 (ax_cellT hT (q := 181) (g := 51) ax_cg_181), ?_⟩
      rw [u1 175 (Nat.ne_of_beq_eq_false rfl), u1 176 (Nat.ne_of_beq_eq_false rfl), u1 177 (Nat.ne_of_beq_eq_false rfl), u1 178 (Nat.ne_of_beq_eq_false rfl), u1 179 (Nat.ne_of_beq_eq_false rfl), u2 23, if_neg (show ¬ 23 = 25 from Nat.ne_of_beq_eq_false rfl), u2 25, if_pos rfl, u2 24, if_neg (show ¬ 24 = 25 from Nat.ne_of_beq_eq_false rfl), u2 18, if_neg (show ¬ 18 = 25 from Nat.ne_of_beq_eq_false rfl), u2 19, if_neg (show ¬ 19 = 25 from Nat.ne_of_beq_eq_false rfl), u1 181 (Nat.ne_of_beq_eq_false rfl)]
      exact pz_l152 (pz_41 _) st.1.2
    rcases List.mem_cons.mp hx with e | hx
    · subst e
      refine (ax_XF_lt (x := 177) (Nat.le_of_ble_eq_true rfl)).mpr ?_
      show pz7 (pz_gt (ρ' 0)) (pz_gN (ρ' 0)) ((ρ' 3) / 4) 7
      rw [q0, h2]
      rw [pz_41]
      exact st.2
    rcases List.mem_cons.mp hx with e | hx
    · subst e
      refine (ax_XF_lt (x := 153) (Nat.le_of_ble_eq_true rfl)).mpr ?_
      show ay_ex hp 173 ∧ pz_at (pz_gt (ρ' 0)) (pz_gN (ρ' 0)) (ay_ln (ay_at hp 173 13)) = pz_at (pz_gt (ρ' 0)) (pz_gN (ρ' 0)) (pz_p (pz_cF (ρ' 0) (ρ' 3)))
      rw [q0, h2]
      refine ⟨(ax_cellT hT (q := 173) (g := 11) ax_cg_173), ?_⟩
      exact pz_l153 (pz_41 _) st.1.1
    cases List.mem_singleton.mp hx
    refine (ax_XF_lt (x := 182) (Nat.le_of_ble_eq_true rfl)).mpr ?_
    show (ρ' 3) / 4 = (ρ' 1) / 4 + 1
    rw [q1, h2]
    rw [pz_41])
  exact ⟨(fun y hy => by cases hy), _, List.mem_cons_self, ρ', h1, h2⟩

theorem axq0_my_rk : ax_RO ax_wM0 (ax_XM 0) axu0_my_rk := by
  intro ρ hp hE hT
  have j0 : ρ 0 % 4 = 1 := pz_gj hE 0 (Nat.le_of_ble_eq_true rfl) rfl
  have j1 : ρ 1 % 4 = 1 := pz_gj hE 1 (Nat.le_of_ble_eq_true rfl) rfl
  obtain ⟨i2a, i2b, i2c, i2d⟩ := pz_gi hE 2 2147483648 2147483648 (Nat.le_of_ble_eq_true rfl) rfl
  have c_hasRank : ay_at hp 173 24 = some (ρ 2) := ay_gfj hE 702 96 11 173 24 ax_m5 (ax_vlq rfl rfl) (ax_vlj rfl rfl)
  obtain ⟨-, -, -, -, -, F151⟩ : ay_ex hp 173 ∧ ay_ex hp 173 ∧ ay_ex hp 173 ∧ ay_ex hp 173 ∧ ay_ex hp 173 ∧ pz_y151 (ρ 0) (ρ 1) (ay_at hp 173 13) (ay_at hp 173 14) (ay_at hp 173 15) (ay_at hp 173 16) (ay_at hp 173 17) := (ax_XF_lt (x := 151) (Nat.le_of_ble_eq_true rfl)).mp (ax_gx hE (151, [3, 7]) ax_m0)
  obtain ⟨-, -, -, -, -, -, -, -, -, -, -, F152⟩ : ay_ex hp 175 ∧ ay_ex hp 176 ∧ ay_ex hp 177 ∧ ay_ex hp 178 ∧ ay_ex hp 179 ∧ ay_ex hp 173 ∧ ay_ex hp 173 ∧ ay_ex hp 173 ∧ ay_ex hp 173 ∧ ay_ex hp 173 ∧ ay_ex hp 181 ∧ pz_y152 1 (ρ 0) (ρ 1) (ay_at hp 175 1) (ay_at hp 176 1) (ay_at hp 177 1) (ay_at hp 178 1) (ay_at hp 179 1) (ay_at hp 173 23) (ay_at hp 173 25) (ay_at hp 173 24) (ay_at hp 173 18) (ay_at hp 173 19) (ay_at hp 181) := (ax_XF_lt (x := 152) (Nat.le_of_ble_eq_true rfl)).mp (ax_gx hE (152, [3, 7]) ax_m1)
  rw [c_hasRank] at F152
  have F173 : pz7 (pz_gt (ρ 0)) (pz_gN (ρ 0)) ((ρ 1) / 4) 3 := (ax_XF_lt (x := 173) (Nat.le_of_ble_eq_true rfl)).mp (ax_gx hE (173, [3, 7]) ax_m2)
  have F160 : pz60 (pz_gt (ρ 0)) (pz_gN (ρ 0)) ((ρ 1) / 4) ((16) / 4) := (ax_XF_lt (x := 160) (Nat.le_of_ble_eq_true rfl)).mp (ax_gx hE (160, [3, 7, 16]) ax_m3)
  have F161 : pz61 (pz_gt (ρ 0)) (pz_gN (ρ 0)) ((ρ 1) / 4) ((4) / 4) := (ax_XF_lt (x := 161) (Nat.le_of_ble_eq_true rfl)).mp (ax_gx hE (161, [3, 7, 4]) ax_m4)
  have st := pq_rl_rk (pz_m50 F151 F152) F173 F161 F160 (show ρ 2 / 4 = 0 by omega)
  obtain ⟨ρ', h1, h2⟩ := pz_pn2 (K := ρ 1 / 4 + 1) (L := 1) (xf := [(652, [702, 96, 4, 3, 15]), (178, [3, 15]), (190, [3, 15, 19]), (189, [19]), (153, [3, 15]), (182, [7, 15])]) hE (by decide) (fun ρ' h1 h2 h3 x hx => by
    have q0 : ρ' 0 = ρ 0 := h1 0 (by decide)
    have q1 : ρ' 1 = ρ 1 := h1 1 (by decide)
    have q2 : ρ' 2 = ρ 2 := h1 2 (by decide)
    rcases List.mem_cons.mp hx with e | hx
    · subst e
      refine (ax_XF_wr (x := 152) (Nat.le_of_ble_eq_true rfl)).mpr ?_
      show ay_ex (ax_upd hp 702 (96) (4)) 175 ∧ ay_ex (ax_upd hp 702 (96) (4)) 176 ∧ ay_ex (ax_upd hp 702 (96) (4)) 177 ∧ ay_ex (ax_upd hp 702 (96) (4)) 178 ∧ ay_ex (ax_upd hp 702 (96) (4)) 179 ∧ ay_ex (ax_upd hp 702 (96) (4)) 173 ∧ ay_ex (ax_upd hp 702 (96) (4)) 173 ∧ ay_ex (ax_upd hp 702 (96) (4)) 173 ∧ ay_ex (ax_upd hp 702 (96) (4)) 173 ∧ ay_ex (ax_upd hp 702 (96) (4)) 173 ∧ ay_ex (ax_upd hp 702 (96) (4)) 181 ∧ pz_y152 1 (ρ' 0) (ρ' 3) (ay_at (ax_upd hp 702 (96) (4)) 175 1) (ay_at (ax_upd hp 702 (96) (4)) 176 1) (ay_at (ax_upd hp 702 (96) (4)) 177 1) (ay_at (ax_upd hp 702 (96) (4)) 178 1) (ay_at (ax_upd hp 702 (96) (4)) 179 1) (ay_at (ax_upd hp 702 (96) (4)) 173 23) (ay_at (ax_upd hp 702 (96) (4)) 173 25) (ay_at (ax_upd hp 702 (96) (4)) 173 24) (ay_at (ax_upd hp 702 (96) (4)) 173 18) (ay_at (ax_upd hp 702 (96) (4)) 173 19) (ay_at (ax_upd hp 702 (96) (4)) 181)
      rw [q0, h2]
      obtain ⟨o0, ho0⟩ := ay_some hT (q := 173) (g := 11) (n := 58) ax_cg_173 ax_cn_11 (j := 96 / 4) (Nat.le_of_ble_eq_true rfl)
      have u1 : ∀ q, q ≠ 173 → ay_at (ax_upd hp 702 96 (4)) q = ay_at hp q := fun q hq => funext (fun j => ay_upd_ne hT.1 hq j)
      have u2 : ∀ j, ay_at (ax_upd hp 702 96 (4)) 173 j = if j = 24 then some (4) else ay_at hp 173 j := fun j => ay_upd_eq hT.1 rfl ho0 j
      refine ⟨ay_ex_upd hT.1 (ax_cellT hT (q := 175) (g := 45) ax_cg_175), ay_ex_upd hT.1 (ax_cellT hT (q := 176) (g := 46) ax_cg_176), ay_ex_upd hT.1 (ax_cellT hT (q := 177) (g := 47) ax_cg_177), ay_ex_upd hT.1 (ax_cellT hT (q := 178) (g := 48) ax_cg_178), ay_ex_upd hT.1 (ax_cellT hT (q := 179) (g := 49) ax_cg_179), ay_ex_upd hT.1 (ax_cellT hT (q := 173) (g := 11) ax_cg_173), ay_ex_upd hT.1 (ax_cellT hT (q := 173) (g := 11) ax_cg_173), ay_ex_upd hT.1 (ax_cellT hT (q := 173) (g := 11) ax_cg_173), ay_ex_upd hT.1 (ax_cellT hT (q := 173) (g := 11) ax_cg_173), ay_ex_upd hT.1 (ax_cellT hT (q := 173) (g := 11) ax_cg_173), ay_ex_upd hT.1 (ax_cellT hT (q := 181) (g := 51) ax_cg_181), ?_⟩
      rw [u1 175 (Nat.ne_of_beq_eq_false rfl), u1 176 (Nat.ne_of_beq_eq_false rfl), u1 177 (Nat.ne_of_beq_eq_false rfl), u1 178 (Nat.ne_of_beq_eq_false rfl), u1 179 (Nat.ne_of_beq_eq_false rfl), u2 23, if_neg (show ¬ 23 = 24 from Nat.ne_of_beq_eq_false rfl), u2 25, if_neg (show ¬ 25 = 24 from Nat.ne_of_beq_eq_false rfl), u2 24, if_pos rfl, u2 18, if_neg (show ¬ 18 = 24 from Nat.ne_of_beq_eq_false rfl), u2 19, if_neg (show ¬ 19 = 24 from Nat.ne_of_beq_eq_false rfl), u1 181 (Nat.ne_of_beq_eq_false rfl)]
      exact pz_l152 (pz_41 _) st.1.2
    rcases List.mem_cons.mp hx with e | hx
    · subst e
      refine (ax_XF_lt (x := 178) (Nat.le_of_ble_eq_true rfl)).mpr ?_
      show pz7 (pz_gt (ρ' 0)) (pz_gN (ρ' 0)) ((ρ' 3) / 4) 8
      rw [q0, h2]
      rw [pz_41]
      exact st.2.1
    rcases List.mem_cons.mp hx with e | hx
    · subst e
      refine (ax_XF_lt (x := 190) (Nat.le_of_ble_eq_true rfl)).mpr ?_
      show (pz90 (pz_gt (ρ' 0)) (pz_gN (ρ' 0)) ((ρ' 3) / 4) ((ρ' 4) / 4) ∧ 1 ≤ (ρ' 4) / 4)
      rw [q0, h2, h3]
      rw [pz_41, pz_41]
      exact ⟨st.2.2, by decide⟩
    rcases List.mem_cons.mp hx with e | hx
    · subst e
      refine (ax_XF_lt (x := 189) (Nat.le_of_ble_eq_true rfl)).mpr ?_
      show (ρ' 4) / 4 = 1
      rw [h3]
      skip
    rcases List.mem_cons.mp hx with e | hx
    · subst e
      refine (ax_XF_lt (x := 153) (Nat.le_of_ble_eq_true rfl)).mpr ?_
      show ay_ex hp 173 ∧ pz_at (pz_gt (ρ' 0)) (pz_gN (ρ' 0)) (ay_ln (ay_at hp 173 13)) = pz_at (pz_gt (ρ' 0)) (pz_gN (ρ' 0)) (pz_p (pz_cF (ρ' 0) (ρ' 3)))
      rw [q0, h2]
      refine ⟨(ax_cellT hT (q := 173) (g := 11) ax_cg_173), ?_⟩
      exact pz_l153 (pz_41 _) st.1.1
    cases List.mem_singleton.mp hx
    refine (ax_XF_lt (x := 182) (Nat.le_of_ble_eq_true rfl)).mpr ?_
    show (ρ' 3) / 4 = (ρ' 1) / 4 + 1
    rw [q1, h2]
    rw [pz_41])
  exact ⟨(fun y hy => by cases hy), _, List.mem_cons_self, ρ', h1, h2⟩

theorem axq0_my_m : ax_RO ax_wM0 (ax_XM 0) axu0_my_m := by
  intro ρ hp hE hT
  have j0 : ρ 0 % 4 = 1 := pz_gj hE 0 (Nat.le_of_ble_eq_true rfl) rfl
  have j1 : ρ 1 % 4 = 1 := pz_gj hE 1 (Nat.le_of_ble_eq_true rfl) rfl
  obtain ⟨i2a, i2b, i2c, i2d⟩ := pz_gi hE 2 0 4294967295 (Nat.le_of_ble_eq_true rfl) rfl
  obtain ⟨i3a, i3b, i3c, i3d⟩ := pz_gi hE 3 2147483648 2147493647 (Nat.le_of_ble_eq_true rfl) rfl
  have c_nodes : ay_at hp 175 1 = some (ρ 3) := ay_gfj hE 710 4 15 175 1 ax_m1 (ax_vlq rfl rfl) (ax_vlj rfl rfl)
  have s1 : (ρ 2 / 4 + 2147483648) % 4294967296 + (4 / 4 + 2147483648) % 4294967296 = (ρ 3 / 4 + 2147483648) % 4294967296 + 2147483648 := pz_gs hE 11 4 15 ax_m2
  obtain ⟨-, -, -, -, -, -, -, -, -, -, -, F152⟩ : ay_ex hp 175 ∧ ay_ex hp 176 ∧ ay_ex hp 177 ∧ ay_ex hp 178 ∧ ay_ex hp 179 ∧ ay_ex hp 173 ∧ ay_ex hp 173 ∧ ay_ex hp 173 ∧ ay_ex hp 173 ∧ ay_ex hp 173 ∧ ay_ex hp 181 ∧ pz_y152 1 (ρ 0) (ρ 1) (ay_at hp 175 1) (ay_at hp 176 1) (ay_at hp 177 1) (ay_at hp 178 1) (ay_at hp 179 1) (ay_at hp 173 23) (ay_at hp 173 25) (ay_at hp 173 24) (ay_at hp 173 18) (ay_at hp 173 19) (ay_at hp 181) := (ax_XF_lt (x := 152) (Nat.le_of_ble_eq_true rfl)).mp (ax_gx hE (152, [3, 7]) ax_m0)
  rw [c_nodes] at F152
  have e : ρ 3 / 4 = pz_no (pz_cf (pz_gt (ρ 0)) (pz_gN (ρ 0)) (ρ 1 / 4)) := F152.1
  refine ⟨(fun y hy => by cases hy), _, List.mem_cons_self, ρ, fun _ _ => rfl, ax_px hE rfl (fun x hx => ?_)⟩
  cases List.mem_singleton.mp hx
  refine (ax_XF_lt (x := 203) (Nat.le_of_ble_eq_true rfl)).mpr ?_
  show pz_x103 (ρ 0) (ρ 1) (ρ 2)
  show (ρ 2 / 4 + 2147483648) % 4294967296 + 1 = pz_no (pz_cf (pz_gt (ρ 0)) (pz_gN (ρ 0)) (ρ 1 / 4)) + 2147483648
  omega

theorem axq0_my_ro2 : ax_RO ax_wM0 (ax_XM 0) axu0_my_ro2 := by
  intro ρ hp hE hT
  have j0 : ρ 0 % 4 = 1 := pz_gj hE 0 (Nat.le_of_ble_eq_true rfl) rfl
  have j1 : ρ 1 % 4 = 1 := pz_gj hE 1 (Nat.le_of_ble_eq_true rfl) rfl
  have j2 : ρ 2 % 4 = 1 := pz_gj hE 2 (Nat.le_of_ble_eq_true rfl) rfl
  obtain ⟨i3a, i3b, i3c, i3d⟩ := pz_gi hE 3 2147483648 2147493647 (Nat.le_of_ble_eq_true rfl) rfl
  obtain ⟨-, -, -, -, -, F151⟩ : ay_ex hp 173 ∧ ay_ex hp 173 ∧ ay_ex hp 173 ∧ ay_ex hp 173 ∧ ay_ex hp 173 ∧ pz_y151 (ρ 0) (ρ 2) (ay_at hp 173 13) (ay_at hp 173 14) (ay_at hp 173 15) (ay_at hp 173 16) (ay_at hp 173 17) := (ax_XF_lt (x := 151) (Nat.le_of_ble_eq_true rfl)).mp (ax_gx hE (151, [3, 11]) ax_m0)
  have F182 : (ρ 2) / 4 = (ρ 1) / 4 + 1 := (ax_XF_lt (x := 182) (Nat.le_of_ble_eq_true rfl)).mp (ax_gx hE (182, [7, 11]) ax_m1)
  obtain ⟨-, -, -, -, -, -, -, -, -, -, -, F152⟩ : ay_ex hp 175 ∧ ay_ex hp 176 ∧ ay_ex hp 177 ∧ ay_ex hp 178 ∧ ay_ex hp 179 ∧ ay_ex hp 173 ∧ ay_ex hp 173 ∧ ay_ex hp 173 ∧ ay_ex hp 173 ∧ ay_ex hp 173 ∧ ay_ex hp 181 ∧ pz_y152 1 (ρ 0) (ρ 1) (ay_at hp 175 1) (ay_at hp 176 1) (ay_at hp 177 1) (ay_at hp 178 1) (ay_at hp 179 1) (ay_at hp 173 23) (ay_at hp 173 25) (ay_at hp 173 24) (ay_at hp 173 18) (ay_at hp 173 19) (ay_at hp 181) := (ax_XF_lt (x := 152) (Nat.le_of_ble_eq_true rfl)).mp (ax_gx hE (152, [3, 7]) ax_m2)
  have F176 : pz7 (pz_gt (ρ 0)) (pz_gN (ρ 0)) ((ρ 1) / 4) 6 := (ax_XF_lt (x := 176) (Nat.le_of_ble_eq_true rfl)).mp (ax_gx hE (176, [3, 7]) ax_m3)
  have F204 : pz104 (pz_gt (ρ 0)) (pz_gN (ρ 0)) ((ρ 1) / 4) ((ρ 3) / 4) := (ax_XF_lt (x := 204) (Nat.le_of_ble_eq_true rfl)).mp (ax_gx hE (204, [3, 7, 15]) ax_m4)
  have f50 : pz50 (pz_gt (ρ 0)) (pz_gN (ρ 0)) (ρ 1 / 4) (pz_nx (pz_gt (ρ 0)) (pz_gN (ρ 0)) (pz_p (pz_cf (pz_gt (ρ 0)) (pz_gN (ρ 0)) (ρ 1 / 4)))) (pz_at (pz_gt (ρ 0)) (pz_gN (ρ 0)) (pz_p (pz_cf (pz_gt (ρ 0)) (pz_gN (ρ 0)) (ρ 1 / 4)))) (pz_kd (pz_gt (ρ 0)) (pz_gN (ρ 0)) (pz_p (pz_cf (pz_gt (ρ 0)) (pz_gN (ρ 0)) (ρ 1 / 4)))) (pz_vl (pz_gt (ρ 0)) (pz_gN (ρ 0)) (pz_p (pz_cf (pz_gt (ρ 0)) (pz_gN (ρ 0)) (ρ 1 / 4)))) _ _ _ _ _ _ _ _ _ _ _ _ := ⟨rfl, rfl, rfl, fun _ => pz_m_vl, F152⟩
  have st := pq_rl_ro2 f50 F176 F204
  refine ⟨(fun y hy => by cases hy), _, List.mem_cons_self, ρ, fun _ _ => rfl, ax_px hE rfl (fun x hx => ?_)⟩
  rcases List.mem_cons.mp hx with e | hx
  · subst e
    refine (ax_XF_wr (x := 152) (Nat.le_of_ble_eq_true rfl)).mpr ?_
    show ay_ex (ax_upd hp 718 (4) (ρ 3)) 175 ∧ ay_ex (ax_upd hp 718 (4) (ρ 3)) 176 ∧ ay_ex (ax_upd hp 718 (4) (ρ 3)) 177 ∧ ay_ex (ax_upd hp 718 (4) (ρ 3)) 178 ∧ ay_ex (ax_upd hp 718 (4) (ρ 3)) 179 ∧ ay_ex (ax_upd hp 718 (4) (ρ 3)) 173 ∧ ay_ex (ax_upd hp 718 (4) (ρ 3)) 173 ∧ ay_ex (ax_upd hp 718 (4) (ρ 3)) 173 ∧ ay_ex (ax_upd hp 718 (4) (ρ 3)) 173 ∧ ay_ex (ax_upd hp 718 (4) (ρ 3)) 173 ∧ ay_ex (ax_upd hp 718 (4) (ρ 3)) 181 ∧ pz_y152 1 (ρ 0) (ρ 2) (ay_at (ax_upd hp 718 (4) (ρ 3)) 175 1) (ay_at (ax_upd hp 718 (4) (ρ 3)) 176 1) (ay_at (ax_upd hp 718 (4) (ρ 3)) 177 1) (ay_at (ax_upd hp 718 (4) (ρ 3)) 178 1) (ay_at (ax_upd hp 718 (4) (ρ 3)) 179 1) (ay_at (ax_upd hp 718 (4) (ρ 3)) 173 23) (ay_at (ax_upd hp 718 (4) (ρ 3)) 173 25) (ay_at (ax_upd hp 718 (4) (ρ 3)) 173 24) (ay_at (ax_upd hp 718 (4) (ρ 3)) 173 18) (ay_at (ax_upd hp 718 (4) (ρ 3)) 173 19) (ay_at (ax_upd hp 718 (4) (ρ 3)) 181)
    obtain ⟨o0, ho0⟩ := ay_some hT (q := 177) (g := 47) (n := 2) ax_cg_177 ax_cn_47 (j := 4 / 4) (Nat.le_of_ble_eq_true rfl)
    have u1 : ∀ q, q ≠ 177 → ay_at (ax_upd hp 718 4 (ρ 3)) q = ay_at hp q := fun q hq => funext (fun j => ay_upd_ne hT.1 hq j)
    have u2 : ∀ j, ay_at (ax_upd hp 718 4 (ρ 3)) 177 j = if j = 1 then some (ρ 3) else ay_at hp 177 j := fun j => ay_upd_eq hT.1 rfl ho0 j
    refine ⟨ay_ex_upd hT.1 (ax_cellT hT (q := 175) (g := 45) ax_cg_175), ay_ex_upd hT.1 (ax_cellT hT (q := 176) (g := 46) ax_cg_176), ay_ex_upd hT.1 (ax_cellT hT (q := 177) (g := 47) ax_cg_177), ay_ex_upd hT.1 (ax_cellT hT (q := 178) (g := 48) ax_cg_178), ay_ex_upd hT.1 (ax_cellT hT (q := 179) (g := 49) ax_cg_179), ay_ex_upd hT.1 (ax_cellT hT (q := 173) (g := 11) ax_cg_173), ay_ex_upd hT.1 (ax_cellT hT (q := 173) (g := 11) ax_cg_173), ay_ex_upd hT.1 (ax_cellT hT (q := 173) (g := 11) ax_cg_173), ay_ex_upd hT.1 (ax_cellT hT (q := 173) (g := 11) ax_cg_173), ay_ex_upd hT.1 (ax_cellT hT (q := 173) (g := 11) ax_cg_173), ay_ex_upd hT.1 (ax_cellT hT (q := 181) (g := 51) ax_cg_181), ?_⟩
    rw [u1 175 (Nat.ne_of_beq_eq_false rfl), u1 176 (Nat.ne_of_beq_eq_false rfl), u2 1, if_pos rfl, u1 178 (Nat.ne_of_beq_eq_false rfl), u1 179 (Nat.ne_of_beq_eq_false rfl), u1 173 (Nat.ne_of_beq_eq_false rfl), u1 181 (Nat.ne_of_beq_eq_false rfl)]
    exact pz_l152 F182 st.1.2
  cases List.mem_singleton.mp hx
  refine (ax_XF_lt (x := 181) (Nat.le_of_ble_eq_true rfl)).mpr ?_
  show pz_y181 (ρ 0) (ρ 2)
  refine Or.inl ?_
  rw [F182]
  exact st.2

theorem axq0_my_rm2 : ax_RO ax_wM0 (ax_XM 0) axu0_my_rm2 := by
  intro ρ hp hE hT
  have j0 : ρ 0 % 4 = 1 := pz_gj hE 0 (Nat.le_of_ble_eq_true rfl) rfl
  have j1 : ρ 1 % 4 = 1 := pz_gj hE 1 (Nat.le_of_ble_eq_true rfl) rfl
  have j2 : ρ 2 % 4 = 1 := pz_gj hE 2 (Nat.le_of_ble_eq_true rfl) rfl
  obtain ⟨i3a, i3b, i3c, i3d⟩ := pz_gi hE 3 2147483649 2147483651 (Nat.le_of_ble_eq_true rfl) rfl
  obtain ⟨-, -, -, -, -, F151⟩ : ay_ex hp 173 ∧ ay_ex hp 173 ∧ ay_ex hp 173 ∧ ay_ex hp 173 ∧ ay_ex hp 173 ∧ pz_y151 (ρ 0) (ρ 2) (ay_at hp 173 13) (ay_at hp 173 14) (ay_at hp 173 15) (ay_at hp 173 16) (ay_at hp 173 17) := (ax_XF_lt (x := 151) (Nat.le_of_ble_eq_true rfl)).mp (ax_gx hE (151, [3, 11]) ax_m0)
  have F182 : (ρ 2) / 4 = (ρ 1) / 4 + 1 := (ax_XF_lt (x := 182) (Nat.le_of_ble_eq_true rfl)).mp (ax_gx hE (182, [7, 11]) ax_m1)
  obtain ⟨-, -, -, -, -, -, -, -, -, -, -, F152⟩ : ay_ex hp 175 ∧ ay_ex hp 176 ∧ ay_ex hp 177 ∧ ay_ex hp 178 ∧ ay_ex hp 179 ∧ ay_ex hp 173 ∧ ay_ex hp 173 ∧ ay_ex hp 173 ∧ ay_ex hp 173 ∧ ay_ex hp 173 ∧ ay_ex hp 181 ∧ pz_y152 1 (ρ 0) (ρ 1) (ay_at hp 175 1) (ay_at hp 176 1) (ay_at hp 177 1) (ay_at hp 178 1) (ay_at hp 179 1) (ay_at hp 173 23) (ay_at hp 173 25) (ay_at hp 173 24) (ay_at hp 173 18) (ay_at hp 173 19) (ay_at hp 181) := (ax_XF_lt (x := 152) (Nat.le_of_ble_eq_true rfl)).mp (ax_gx hE (152, [3, 7]) ax_m2)
  have F177 : pz7 (pz_gt (ρ 0)) (pz_gN (ρ 0)) ((ρ 1) / 4) 7 := (ax_XF_lt (x := 177) (Nat.le_of_ble_eq_true rfl)).mp (ax_gx hE (177, [3, 7]) ax_m3)
  have F166 : pz66 (pz_gt (ρ 0)) (pz_gN (ρ 0)) ((ρ 1) / 4) ((ρ 3) / 4) := (ax_XF_lt (x := 166) (Nat.le_of_ble_eq_true rfl)).mp (ax_gx hE (166, [3, 7, 15]) ax_m4)
  have f50 : pz50 (pz_gt (ρ 0)) (pz_gN (ρ 0)) (ρ 1 / 4) (pz_nx (pz_gt (ρ 0)) (pz_gN (ρ 0)) (pz_p (pz_cf (pz_gt (ρ 0)) (pz_gN (ρ 0)) (ρ 1 / 4)))) (pz_at (pz_gt (ρ 0)) (pz_gN (ρ 0)) (pz_p (pz_cf (pz_gt (ρ 0)) (pz_gN (ρ 0)) (ρ 1 / 4)))) (pz_kd (pz_gt (ρ 0)) (pz_gN (ρ 0)) (pz_p (pz_cf (pz_gt (ρ 0)) (pz_gN (ρ 0)) (ρ 1 / 4)))) (pz_vl (pz_gt (ρ 0)) (pz_gN (ρ 0)) (pz_p (pz_cf (pz_gt (ρ 0)) (pz_gN (ρ 0)) (ρ 1 / 4)))) _ _ _ _ _ _ _ _ _ _ _ _ := ⟨rfl, rfl, rfl, fun _ => pz_m_vl, F152⟩
  have st := pq_rl_rm2 f50 F177 F166 (by omega) (by omega)
  refine ⟨(fun y hy => by cases hy), _, List.mem_cons_self, ρ, fun _ _ => rfl, ax_px hE rfl (fun x hx => ?_)⟩
  rcases List.mem_cons.mp hx with e | hx
  · subst e
    refine (ax_XF_wr (x := 152) (Nat.le_of_ble_eq_true rfl)).mpr ?_
    show ay_ex (ax_upd hp 722 (4) (ρ 3)) 175 ∧ ay_ex (ax_upd hp 722 (4) (ρ 3)) 176 ∧ ay_ex (ax_upd hp 722 (4) (ρ 3)) 177 ∧ ay_ex (ax_upd hp 722 (4) (ρ 3)) 178 ∧ ay_ex (ax_upd hp 722 (4) (ρ 3)) 179 ∧ ay_ex (ax_upd hp 722 (4) (ρ 3)) 173 ∧ ay_ex (ax_upd hp 722 (4) (ρ 3)) 173 ∧ ay_ex (ax_upd hp 722 (4) (ρ 3)) 173 ∧ ay_ex (ax_upd hp 722 (4) (ρ 3)) 173 ∧ ay_ex (ax_upd hp 722 (4) (ρ 3)) 173 ∧ ay_ex (ax_upd hp 722 (4) (ρ 3)) 181 ∧ pz_y152 1 (ρ 0) (ρ 2) (ay_at (ax_upd hp 722 (4) (ρ 3)) 175 1) (ay_at (ax_upd hp 722 (4) (ρ 3)) 176 1) (ay_at (ax_upd hp 722 (4) (ρ 3)) 177 1) (ay_at (ax_upd hp 722 (4) (ρ 3)) 178 1) (ay_at (ax_upd hp 722 (4) (ρ 3)) 179 1) (ay_at (ax_upd hp 722 (4) (ρ 3)) 173 23) (ay_at (ax_upd hp 722 (4) (ρ 3)) 173 25) (ay_at (ax_upd hp 722 (4) (ρ 3)) 173 24) (ay_at (ax_upd hp 722 (4) (ρ 3)) 173 18) (ay_at (ax_upd hp 722 (4) (ρ 3)) 173 19) (ay_at (ax_upd hp 722 (4) (ρ 3)) 181)
    obtain ⟨o0, ho0⟩ := ay_some hT (q := 178) (g := 48) (n := 2) ax_cg_178 ax_cn_48 (j := 4 / 4) (Nat.le_of_ble_eq_true rfl)
    have u1 : ∀ q, q ≠ 178 → ay_at (ax_upd hp 722 4 (ρ 3)) q = ay_at hp q := fun q hq => funext (fun j => ay_upd_ne hT.1 hq j)
    have u2 : ∀ j, ay_at (ax_upd hp 722 4 (ρ 3)) 178 j = if j = 1 then some (ρ 3) else ay_at hp 178 j := fun j => ay_upd_eq hT.1 rfl ho0 j
    refine ⟨ay_ex_upd hT.1 (ax_cellT hT (q := 175) (g := 45) ax_cg_175), ay_ex_upd hT.1 (ax_cellT hT (q := 176) (g := 46) ax_cg_176), ay_ex_upd hT.1 (ax_cellT hT (q := 177) (g := 47) ax_cg_177), ay_ex_upd hT.1 (ax_cellT hT (q := 178) (g := 48) ax_cg_178), ay_ex_upd hT.1 (ax_cellT hT (q := 179) (g := 49) ax_cg_179), ay_ex_upd hT.1 (ax_cellT hT (q := 173) (g := 11) ax_cg_173), ay_ex_upd hT.1 (ax_cellT hT (q := 173) (g := 11) ax_cg_173), ay_ex_upd hT.1 (ax_cellT hT (q := 173) (g := 11) ax_cg_173), ay_ex_upd hT.1 (ax_cellT hT (q := 173) (g := 11) ax_cg_173), ay_ex_upd hT.1 (ax_cellT hT (q := 173) (g := 11) ax_cg_173), ay_ex_upd hT.1 (ax_cellT hT (q := 181) (g := 51) ax_cg_181), ?_⟩
    rw [u1 175 (Nat.ne_of_beq_eq_false rfl), u1 176 (Nat.ne_of_beq_eq_false rfl), u1 177 (Nat.ne_of_beq_eq_false rfl), u2 1, if_pos rfl, u1 179 (Nat.ne_of_beq_eq_false rfl), u1 173 (Nat.ne_of_beq_eq_false rfl), u1 181 (Nat.ne_of_beq_eq_false rfl)]
    exact pz_l152 F182 st.1.2
  cases List.mem_singleton.mp hx
  refine (ax_XF_lt (x := 181) (Nat.le_of_ble_eq_true rfl)).mpr ?_
  show pz_y181 (ρ 0) (ρ 2)
  refine Or.inl ?_
  rw [F182]
  exact st.2

theorem axqg_my_n2 {w : ax_W} {b : Nat} (hw : ax_WW w) : ax_RO w (ax_XM b) axu0_my_n2 := by
  intro ρ hp hE hT
  have j0 : ρ 0 % 4 = 1 := pz_gj hE 0 (Nat.le_of_ble_eq_true rfl) rfl
  have j1 : ρ 1 % 4 = 1 := pz_gj hE 1 (Nat.le_of_ble_eq_true rfl) rfl
  obtain ⟨-, -, -, -, -, F151⟩ : ay_ex hp 173 ∧ ay_ex hp 173 ∧ ay_ex hp 173 ∧ ay_ex hp 173 ∧ ay_ex hp 173 ∧ pz_y151 (ρ 0) (ρ 1) (ay_at hp 173 13) (ay_at hp 173 14) (ay_at hp 173 15) (ay_at hp 173 16) (ay_at hp 173 17) := (ax_XF_lt (x := 151) (Nat.le_of_ble_eq_true rfl)).mp (ax_gx hE (151, [3, 7]) ax_m0)
  have F161 : pz61 (pz_gt (ρ 0)) (pz_gN (ρ 0)) ((ρ 1) / 4) ((8) / 4) := (ax_XF_lt (x := 161) (Nat.le_of_ble_eq_true rfl)).mp (ax_gx hE (161, [3, 7, 8]) ax_m1)
  refine ⟨(fun y hy => by cases hy), _, List.mem_cons_self, ρ, fun _ _ => rfl, ax_px hE rfl (fun x hx => ?_)⟩
  cases List.mem_singleton.mp hx
  refine (ax_XF_lt (x := 222) (Nat.le_of_ble_eq_true rfl)).mpr ?_
  show ay_ex hp 173 ∧ (pz61 (pz_gt (ρ 0)) (pz_gN (ρ 0)) ((ρ 1) / 4) 2 ∨ ay_ln (ay_at hp 173 23) = 1)
  refine ⟨(ax_cellT hT (q := 173) (g := 11) (ax_wc hw ax_cg_173)), ?_⟩
  exact Or.inl F161
theorem axq0_my_n2 : ax_RO ax_wM0 (ax_XM 0) axu0_my_n2 := axqg_my_n2 ax_WW0
theorem axqg_my_t2 {w : ax_W} {b : Nat} (hw : ax_WW w) : ax_RO w (ax_XM b) axu0_my_t2 := by
  intro ρ hp hE hT
  have j0 : ρ 0 % 4 = 1 := pz_gj hE 0 (Nat.le_of_ble_eq_true rfl) rfl
  have j1 : ρ 1 % 4 = 1 := pz_gj hE 1 (Nat.le_of_ble_eq_true rfl) rfl
  obtain ⟨i2a, i2b, i2c, i2d⟩ := pz_gi hE 2 2147483649 2147483649 (Nat.le_of_ble_eq_true rfl) rfl
  have c_hasRoot : ay_at hp 173 23 = some (ρ 2) := ay_gfj hE 702 92 11 173 23 ax_m1 (ax_vlq rfl rfl) (ax_vlj rfl rfl)
  obtain ⟨-, -, -, -, -, F151⟩ : ay_ex hp 173 ∧ ay_ex hp 173 ∧ ay_ex hp 173 ∧ ay_ex hp 173 ∧ ay_ex hp 173 ∧ pz_y151 (ρ 0) (ρ 1) (ay_at hp 173 13) (ay_at hp 173 14) (ay_at hp 173 15) (ay_at hp 173 16) (ay_at hp 173 17) := (ax_XF_lt (x := 151) (Nat.le_of_ble_eq_true rfl)).mp (ax_gx hE (151, [3, 7]) ax_m0)
  refine ⟨(fun y hy => by cases hy), _, List.mem_cons_self, ρ, fun _ _ => rfl, ax_px hE rfl (fun x hx => ?_)⟩
  cases List.mem_singleton.mp hx
  refine (ax_XF_lt (x := 222) (Nat.le_of_ble_eq_true rfl)).mpr ?_
  show ay_ex hp 173 ∧ (pz61 (pz_gt (ρ 0)) (pz_gN (ρ 0)) ((ρ 1) / 4) 2 ∨ ay_ln (ay_at hp 173 23) = 1)
  refine ⟨(ax_cellT hT (q := 173) (g := 11) (ax_wc hw ax_cg_173)), ?_⟩
  rw [c_hasRoot]
  exact Or.inr (show ρ 2 / 4 = 1 by omega)
theorem axq0_my_t2 : ax_RO ax_wM0 (ax_XM 0) axu0_my_t2 := axqg_my_t2 ax_WW0
theorem axqg_my_n3 {w : ax_W} {b : Nat} (hw : ax_WW w) : ax_RO w (ax_XM b) axu0_my_n3 := by
  intro ρ hp hE hT
  have j0 : ρ 0 % 4 = 1 := pz_gj hE 0 (Nat.le_of_ble_eq_true rfl) rfl
  have j1 : ρ 1 % 4 = 1 := pz_gj hE 1 (Nat.le_of_ble_eq_true rfl) rfl
  obtain ⟨-, -, -, -, -, F151⟩ : ay_ex hp 173 ∧ ay_ex hp 173 ∧ ay_ex hp 173 ∧ ay_ex hp 173 ∧ ay_ex hp 173 ∧ pz_y151 (ρ 0) (ρ 1) (ay_at hp 173 13) (ay_at hp 173 14) (ay_at hp 173 15) (ay_at hp 173 16) (ay_at hp 173 17) := (ax_XF_lt (x := 151) (Nat.le_of_ble_eq_true rfl)).mp (ax_gx hE (151, [3, 7]) ax_m0)
  have F161 : pz61 (pz_gt (ρ 0)) (pz_gN (ρ 0)) ((ρ 1) / 4) ((12) / 4) := (ax_XF_lt (x := 161) (Nat.le_of_ble_eq_true rfl)).mp (ax_gx hE (161, [3, 7, 12]) ax_m1)
  refine ⟨(fun y hy => by cases hy), _, List.mem_cons_self, ρ, fun _ _ => rfl, ax_px hE rfl (fun x hx => ?_)⟩
  cases List.mem_singleton.mp hx
  refine (ax_XF_lt (x := 223) (Nat.le_of_ble_eq_true rfl)).mpr ?_
  show ay_ex hp 173 ∧ (pz61 (pz_gt (ρ 0)) (pz_gN (ρ 0)) ((ρ 1) / 4) 3 ∨ ay_ln (ay_at hp 173 25) = 1)
  refine ⟨(ax_cellT hT (q := 173) (g := 11) (ax_wc hw ax_cg_173)), ?_⟩
  exact Or.inl F161
theorem axq0_my_n3 : ax_RO ax_wM0 (ax_XM 0) axu0_my_n3 := axqg_my_n3 ax_WW0
theorem axqg_my_t3 {w : ax_W} {b : Nat} (hw : ax_WW w) : ax_RO w (ax_XM b) axu0_my_t3 := by
  intro ρ hp hE hT
  have j0 : ρ 0 % 4 = 1 := pz_gj hE 0 (Nat.le_of_ble_eq_true rfl) rfl
  have j1 : ρ 1 % 4 = 1 := pz_gj hE 1 (Nat.le_of_ble_eq_true rfl) rfl
  obtain ⟨i2a, i2b, i2c, i2d⟩ := pz_gi hE 2 2147483649 2147483649 (Nat.le_of_ble_eq_true rfl) rfl
  have c_hasRoom : ay_at hp 173 25 = some (ρ 2) := ay_gfj hE 702 100 11 173 25 ax_m1 (ax_vlq rfl rfl) (ax_vlj rfl rfl)
  obtain ⟨-, -, -, -, -, F151⟩ : ay_ex hp 173 ∧ ay_ex hp 173 ∧ ay_ex hp 173 ∧ ay_ex hp 173 ∧ ay_ex hp 173 ∧ pz_y151 (ρ 0) (ρ 1) (ay_at hp 173 13) (ay_at hp 173 14) (ay_at hp 173 15) (ay_at hp 173 16) (ay_at hp 173 17) := (ax_XF_lt (x := 151) (Nat.le_of_ble_eq_true rfl)).mp (ax_gx hE (151, [3, 7]) ax_m0)
  refine ⟨(fun y hy => by cases hy), _, List.mem_cons_self, ρ, fun _ _ => rfl, ax_px hE rfl (fun x hx => ?_)⟩
  cases List.mem_singleton.mp hx
  refine (ax_XF_lt (x := 223) (Nat.le_of_ble_eq_true rfl)).mpr ?_
  show ay_ex hp 173 ∧ (pz61 (pz_gt (ρ 0)) (pz_gN (ρ 0)) ((ρ 1) / 4) 3 ∨ ay_ln (ay_at hp 173 25) = 1)
  refine ⟨(ax_cellT hT (q := 173) (g := 11) (ax_wc hw ax_cg_173)), ?_⟩
  rw [c_hasRoom]
  exact Or.inr (show ρ 2 / 4 = 1 by omega)
theorem axq0_my_t3 : ax_RO ax_wM0 (ax_XM 0) axu0_my_t3 := axqg_my_t3 ax_WW0
theorem axqg_my_n4 {w : ax_W} {b : Nat} (hw : ax_WW w) : ax_RO w (ax_XM b) axu0_my_n4 := by
  intro ρ hp hE hT
  have j0 : ρ 0 % 4 = 1 := pz_gj hE 0 (Nat.le_of_ble_eq_true rfl) rfl
  have j1 : ρ 1 % 4 = 1 := pz_gj hE 1 (Nat.le_of_ble_eq_true rfl) rfl
  obtain ⟨-, -, -, -, -, F151⟩ : ay_ex hp 173 ∧ ay_ex hp 173 ∧ ay_ex hp 173 ∧ ay_ex hp 173 ∧ ay_ex hp 173 ∧ pz_y151 (ρ 0) (ρ 1) (ay_at hp 173 13) (ay_at hp 173 14) (ay_at hp 173 15) (ay_at hp 173 16) (ay_at hp 173 17) := (ax_XF_lt (x := 151) (Nat.le_of_ble_eq_true rfl)).mp (ax_gx hE (151, [3, 7]) ax_m0)
  have F161 : pz61 (pz_gt (ρ 0)) (pz_gN (ρ 0)) ((ρ 1) / 4) ((16) / 4) := (ax_XF_lt (x := 161) (Nat.le_of_ble_eq_true rfl)).mp (ax_gx hE (161, [3, 7, 16]) ax_m1)
  refine ⟨(fun y hy => by cases hy), _, List.mem_cons_self, ρ, fun _ _ => rfl, ax_px hE rfl (fun x hx => ?_)⟩
  cases List.mem_singleton.mp hx
  refine (ax_XF_lt (x := 224) (Nat.le_of_ble_eq_true rfl)).mpr ?_
  show ay_ex hp 173 ∧ (pz61 (pz_gt (ρ 0)) (pz_gN (ρ 0)) ((ρ 1) / 4) 4 ∨ ay_ln (ay_at hp 173 24) = 1)
  refine ⟨(ax_cellT hT (q := 173) (g := 11) (ax_wc hw ax_cg_173)), ?_⟩
  exact Or.inl F161
theorem axq0_my_n4 : ax_RO ax_wM0 (ax_XM 0) axu0_my_n4 := axqg_my_n4 ax_WW0
theorem axqg_my_t4 {w : ax_W} {b : Nat} (hw : ax_WW w) : ax_RO w (ax_XM b) axu0_my_t4 := by
  intro ρ hp hE hT
  have j0 : ρ 0 % 4 = 1 := pz_gj hE 0 (Nat.le_of_ble_eq_true rfl) rfl
  have j1 : ρ 1 % 4 = 1 := pz_gj hE 1 (Nat.le_of_ble_eq_true rfl) rfl
  obtain ⟨i2a, i2b, i2c, i2d⟩ := pz_gi hE 2 2147483649 2147483649 (Nat.le_of_ble_eq_true rfl) rfl
  have c_hasRank : ay_at hp 173 24 = some (ρ 2) := ay_gfj hE 702 96 11 173 24 ax_m1 (ax_vlq rfl rfl) (ax_vlj rfl rfl)
  obtain ⟨-, -, -, -, -, F151⟩ : ay_ex hp 173 ∧ ay_ex hp 173 ∧ ay_ex hp 173 ∧ ay_ex hp 173 ∧ ay_ex hp 173 ∧ pz_y151 (ρ 0) (ρ 1) (ay_at hp 173 13) (ay_at hp 173 14) (ay_at hp 173 15) (ay_at hp 173 16) (ay_at hp 173 17) := (ax_XF_lt (x := 151) (Nat.le_of_ble_eq_true rfl)).mp (ax_gx hE (151, [3, 7]) ax_m0)
  refine ⟨(fun y hy => by cases hy), _, List.mem_cons_self, ρ, fun _ _ => rfl, ax_px hE rfl (fun x hx => ?_)⟩
  cases List.mem_singleton.mp hx
  refine (ax_XF_lt (x := 224) (Nat.le_of_ble_eq_true rfl)).mpr ?_
  show ay_ex hp 173 ∧ (pz61 (pz_gt (ρ 0)) (pz_gN (ρ 0)) ((ρ 1) / 4) 4 ∨ ay_ln (ay_at hp 173 24) = 1)
  refine ⟨(ax_cellT hT (q := 173) (g := 11) (ax_wc hw ax_cg_173)), ?_⟩
  rw [c_hasRank]
  exact Or.inr (show ρ 2 / 4 = 1 by omega)
theorem axq0_my_t4 : ax_RO ax_wM0 (ax_XM 0) axu0_my_t4 := axqg_my_t4 ax_WW0
theorem axq0_my_f : ax_RO ax_wM0 (ax_XM 0) axu0_my_f := by
  intro ρ hp hE hT
  have j0 : ρ 0 % 4 = 1 := pz_gj hE 0 (Nat.le_of_ble_eq_true rfl) rfl
  have j1 : ρ 1 % 4 = 1 := pz_gj hE 1 (Nat.le_of_ble_eq_true rfl) rfl
  obtain ⟨-, -, -, -, -, F151⟩ : ay_ex hp 173 ∧ ay_ex hp 173 ∧ ay_ex hp 173 ∧ ay_ex hp 173 ∧ ay_ex hp 173 ∧ pz_y151 (ρ 0) (ρ 1) (ay_at hp 173 13) (ay_at hp 173 14) (ay_at hp 173 15) (ay_at hp 173 16) (ay_at hp 173 17) := (ax_XF_lt (x := 151) (Nat.le_of_ble_eq_true rfl)).mp (ax_gx hE (151, [3, 7]) ax_m0)
  obtain ⟨-, -, -, -, -, -, -, -, -, -, -, F152⟩ : ay_ex hp 175 ∧ ay_ex hp 176 ∧ ay_ex hp 177 ∧ ay_ex hp 178 ∧ ay_ex hp 179 ∧ ay_ex hp 173 ∧ ay_ex hp 173 ∧ ay_ex hp 173 ∧ ay_ex hp 173 ∧ ay_ex hp 173 ∧ ay_ex hp 181 ∧ pz_y152 1 (ρ 0) (ρ 1) (ay_at hp 175 1) (ay_at hp 176 1) (ay_at hp 177 1) (ay_at hp 178 1) (ay_at hp 179 1) (ay_at hp 173 23) (ay_at hp 173 25) (ay_at hp 173 24) (ay_at hp 173 18) (ay_at hp 173 19) (ay_at hp 181) := (ax_XF_lt (x := 152) (Nat.le_of_ble_eq_true rfl)).mp (ax_gx hE (152, [3, 7]) ax_m1)
  have F173 : pz7 (pz_gt (ρ 0)) (pz_gN (ρ 0)) ((ρ 1) / 4) 3 := (ax_XF_lt (x := 173) (Nat.le_of_ble_eq_true rfl)).mp (ax_gx hE (173, [3, 7]) ax_m2)
  have F211 : pz111 (pz_gt (ρ 0)) (pz_gN (ρ 0)) ((ρ 1) / 4) := (ax_XF_lt (x := 211) (Nat.le_of_ble_eq_true rfl)).mp (ax_gx hE (211, [3, 7]) ax_m3)
  have F161 : pz61 (pz_gt (ρ 0)) (pz_gN (ρ 0)) ((ρ 1) / 4) ((4) / 4) := (ax_XF_lt (x := 161) (Nat.le_of_ble_eq_true rfl)).mp (ax_gx hE (161, [3, 7, 4]) ax_m4)
  obtain ⟨-, F222⟩ : ay_ex hp 173 ∧ (pz61 (pz_gt (ρ 0)) (pz_gN (ρ 0)) ((ρ 1) / 4) 2 ∨ ay_ln (ay_at hp 173 23) = 1) := (ax_XF_lt (x := 222) (Nat.le_of_ble_eq_true rfl)).mp (ax_gx hE (222, [3, 7]) ax_m5)
  obtain ⟨-, F223⟩ : ay_ex hp 173 ∧ (pz61 (pz_gt (ρ 0)) (pz_gN (ρ 0)) ((ρ 1) / 4) 3 ∨ ay_ln (ay_at hp 173 25) = 1) := (ax_XF_lt (x := 223) (Nat.le_of_ble_eq_true rfl)).mp (ax_gx hE (223, [3, 7]) ax_m6)
  obtain ⟨-, F224⟩ : ay_ex hp 173 ∧ (pz61 (pz_gt (ρ 0)) (pz_gN (ρ 0)) ((ρ 1) / 4) 4 ∨ ay_ln (ay_at hp 173 24) = 1) := (ax_XF_lt (x := 224) (Nat.le_of_ble_eq_true rfl)).mp (ax_gx hE (224, [3, 7]) ax_m7)
  refine ⟨(fun y hy => by cases hy), _, List.mem_cons_self, ρ, fun _ _ => rfl, ax_px hE rfl (fun x hx => ?_)⟩
  cases List.mem_singleton.mp hx
  refine (ax_XF_lt (x := 164) (Nat.le_of_ble_eq_true rfl)).mpr ?_
  show pz64 (pz_gt (ρ 0)) (pz_gN (ρ 0)) ((ρ 1) / 4) ((4) / 4)
  exact pq_rl_f (pz_m50 F151 F152) F173 F211 F161 F222 F223 F224

theorem axqg_t0_ro {w : ax_W} {b : Nat} (hw : ax_WW w) : ax_RO w (ax_XM b) axu0_t0_ro := by
  intro ρ hp hE hT
  have j0 : ρ 0 % 4 = 1 := pz_gj hE 0 (Nat.le_of_ble_eq_true rfl) rfl
  have j1 : ρ 1 % 4 = 1 := pz_gj hE 1 (Nat.le_of_ble_eq_true rfl) rfl
  have j2 : ρ 2 % 4 = 1 := pz_gj hE 2 (Nat.le_of_ble_eq_true rfl) rfl
  have j3 : ρ 3 % 4 = 1 := pz_gj hE 3 (Nat.le_of_ble_eq_true rfl) rfl
  have F173 : pz7 (pz_gt (ρ 0)) (pz_gN (ρ 0)) ((ρ 1) / 4) 3 := (ax_XF_lt (x := 173) (Nat.le_of_ble_eq_true rfl)).mp (ax_gx hE (173, [3, 7]) ax_m0)
  have F182 : (ρ 2) / 4 = (ρ 1) / 4 + 1 := (ax_XF_lt (x := 182) (Nat.le_of_ble_eq_true rfl)).mp (ax_gx hE (182, [7, 11]) ax_m1)
  have F246 : py_y246 (pz_gt (ρ 0)) (pz_gN (ρ 0)) ((ρ 1) / 4) (5) (ρ 3) := (ax_XF_lt (x := 246) (Nat.le_of_ble_eq_true rfl)).mp (ax_gx hE (246, [3, 7, 5, 15]) ax_m2)
  refine ⟨(fun y hy => by cases hy), _, List.mem_cons_self, ρ, fun _ _ => rfl, ax_px hE rfl (fun x hx => ?_)⟩
  cases List.mem_singleton.mp hx
  refine (ax_XF_lt (x := 246) (Nat.le_of_ble_eq_true rfl)).mpr ?_
  show py_y246 (pz_gt (ρ 0)) (pz_gN (ρ 0)) ((ρ 2) / 4) (5) (ρ 3)
  exact pm_t0 F173 (by decide) (by decide) F182 F246
theorem axq0_t0_ro : ax_RO ax_wM0 (ax_XM 0) axu0_t0_ro := axqg_t0_ro ax_WW0
theorem axqg_t0_rm {w : ax_W} {b : Nat} (hw : ax_WW w) : ax_RO w (ax_XM b) axu0_t0_rm := by
  intro ρ hp hE hT
  have j0 : ρ 0 % 4 = 1 := pz_gj hE 0 (Nat.le_of_ble_eq_true rfl) rfl
  have j1 : ρ 1 % 4 = 1 := pz_gj hE 1 (Nat.le_of_ble_eq_true rfl) rfl
  have j2 : ρ 2 % 4 = 1 := pz_gj hE 2 (Nat.le_of_ble_eq_true rfl) rfl
  have j3 : ρ 3 % 4 = 1 := pz_gj hE 3 (Nat.le_of_ble_eq_true rfl) rfl
  have F173 : pz7 (pz_gt (ρ 0)) (pz_gN (ρ 0)) ((ρ 1) / 4) 3 := (ax_XF_lt (x := 173) (Nat.le_of_ble_eq_true rfl)).mp (ax_gx hE (173, [3, 7]) ax_m0)
  have F182 : (ρ 2) / 4 = (ρ 1) / 4 + 1 := (ax_XF_lt (x := 182) (Nat.le_of_ble_eq_true rfl)).mp (ax_gx hE (182, [7, 11]) ax_m1)
  have F246 : py_y246 (pz_gt (ρ 0)) (pz_gN (ρ 0)) ((ρ 1) / 4) (5) (ρ 3) := (ax_XF_lt (x := 246) (Nat.le_of_ble_eq_true rfl)).mp (ax_gx hE (246, [3, 7, 5, 15]) ax_m2)
  refine ⟨(fun y hy => by cases hy), _, List.mem_cons_self, ρ, fun _ _ => rfl, ax_px hE rfl (fun x hx => ?_)⟩
  cases List.mem_singleton.mp hx
  refine (ax_XF_lt (x := 246) (Nat.le_of_ble_eq_true rfl)).mpr ?_
  show py_y246 (pz_gt (ρ 0)) (pz_gN (ρ 0)) ((ρ 2) / 4) (5) (ρ 3)
  exact pm_t0 F173 (by decide) (by decide) F182 F246
theorem axq0_t0_rm : ax_RO ax_wM0 (ax_XM 0) axu0_t0_rm := axqg_t0_rm ax_WW0
theorem axqg_t0_ro2 {w : ax_W} {b : Nat} (hw : ax_WW w) : ax_RO w (ax_XM b) axu0_t0_ro2 := by
  intro ρ hp hE hT
  have j0 : ρ 0 % 4 = 1 := pz_gj hE 0 (Nat.le_of_ble_eq_true rfl) rfl
  have j1 : ρ 1 % 4 = 1 := pz_gj hE 1 (Nat.le_of_ble_eq_true rfl) rfl
  have j2 : ρ 2 % 4 = 1 := pz_gj hE 2 (Nat.le_of_ble_eq_true rfl) rfl
  have j3 : ρ 3 % 4 = 1 := pz_gj hE 3 (Nat.le_of_ble_eq_true rfl) rfl
  have F176 : pz7 (pz_gt (ρ 0)) (pz_gN (ρ 0)) ((ρ 1) / 4) 6 := (ax_XF_lt (x := 176) (Nat.le_of_ble_eq_true rfl)).mp (ax_gx hE (176, [3, 7]) ax_m0)
  have F182 : (ρ 2) / 4 = (ρ 1) / 4 + 1 := (ax_XF_lt (x := 182) (Nat.le_of_ble_eq_true rfl)).mp (ax_gx hE (182, [7, 11]) ax_m1)
  have F246 : py_y246 (pz_gt (ρ 0)) (pz_gN (ρ 0)) ((ρ 1) / 4) (5) (ρ 3) := (ax_XF_lt (x := 246) (Nat.le_of_ble_eq_true rfl)).mp (ax_gx hE (246, [3, 7, 5, 15]) ax_m2)
  refine ⟨(fun y hy => by cases hy), _, List.mem_cons_self, ρ, fun _ _ => rfl, ax_px hE rfl (fun x hx => ?_)⟩
  cases List.mem_singleton.mp hx
  refine (ax_XF_lt (x := 246) (Nat.le_of_ble_eq_true rfl)).mpr ?_
  show py_y246 (pz_gt (ρ 0)) (pz_gN (ρ 0)) ((ρ 2) / 4) (5) (ρ 3)
  exact pm_t0 F176 (by decide) (by decide) F182 F246
theorem axq0_t0_ro2 : ax_RO ax_wM0 (ax_XM 0) axu0_t0_ro2 := axqg_t0_ro2 ax_WW0
theorem axqg_t0_rm2 {w : ax_W} {b : Nat} (hw : ax_WW w) : ax_RO w (ax_XM b) axu0_t0_rm2 := by
  intro ρ hp hE hT
  have j0 : ρ 0 % 4 = 1 := pz_gj hE 0 (Nat.le_of_ble_eq_true rfl) rfl
  have j1 : ρ 1 % 4 = 1 := pz_gj hE 1 (Nat.le_of_ble_eq_true rfl) rfl
  have j2 : ρ 2 % 4 = 1 := pz_gj hE 2 (Nat.le_of_ble_eq_true rfl) rfl
  have j3 : ρ 3 % 4 = 1 := pz_gj hE 3 (Nat.le_of_ble_eq_true rfl) rfl
  have F177 : pz7 (pz_gt (ρ 0)) (pz_gN (ρ 0)) ((ρ 1) / 4) 7 := (ax_XF_lt (x := 177) (Nat.le_of_ble_eq_true rfl)).mp (ax_gx hE (177, [3, 7]) ax_m0)
  have F182 : (ρ 2) / 4 = (ρ 1) / 4 + 1 := (ax_XF_lt (x := 182) (Nat.le_of_ble_eq_true rfl)).mp (ax_gx hE (182, [7, 11]) ax_m1)
  have F246 : py_y246 (pz_gt (ρ 0)) (pz_gN (ρ 0)) ((ρ 1) / 4) (5) (ρ 3) := (ax_XF_lt (x := 246) (Nat.le_of_ble_eq_true rfl)).mp (ax_gx hE (246, [3, 7, 5, 15]) ax_m2)
  refine ⟨(fun y hy => by cases hy), _, List.mem_cons_self, ρ, fun _ _ => rfl, ax_px hE rfl (fun x hx => ?_)⟩
  cases List.mem_singleton.mp hx
  refine (ax_XF_lt (x := 246) (Nat.le_of_ble_eq_true rfl)).mpr ?_
  show py_y246 (pz_gt (ρ 0)) (pz_gN (ρ 0)) ((ρ 2) / 4) (5) (ρ 3)
  exact pm_t0 F177 (by decide) (by decide) F182 F246
theorem axq0_t0_rm2 : ax_RO ax_wM0 (ax_XM 0) axu0_t0_rm2 := axqg_t0_rm2 ax_WW0
theorem axq0_t0_rk : ax_RO ax_wM0 (ax_XM 0) axu0_t0_rk := by
  intro ρ hp hE hT
  have j0 : ρ 0 % 4 = 1 := pz_gj hE 0 (Nat.le_of_ble_eq_true rfl) rfl
  have j1 : ρ 1 % 4 = 1 := pz_gj hE 1 (Nat.le_of_ble_eq_true rfl) rfl
  have j2 : ρ 2 % 4 = 1 := pz_gj hE 2 (Nat.le_of_ble_eq_true rfl) rfl
  have j3 : ρ 3 % 4 = 1 := pz_gj hE 3 (Nat.le_of_ble_eq_true rfl) rfl
  obtain ⟨i4a, i4b, i4c, i4d⟩ := pz_gi hE 4 2147483648 2147483648 (Nat.le_of_ble_eq_true rfl) rfl
  have c_hasRank : ay_at hp 173 24 = some (ρ 4) := ay_gfj hE 702 96 19 173 24 ax_m4 (ax_vlq rfl rfl) (ax_vlj rfl rfl)
  obtain ⟨-, -, -, -, -, F151⟩ : ay_ex hp 173 ∧ ay_ex hp 173 ∧ ay_ex hp 173 ∧ ay_ex hp 173 ∧ ay_ex hp 173 ∧ pz_y151 (ρ 0) (ρ 1) (ay_at hp 173 13) (ay_at hp 173 14) (ay_at hp 173 15) (ay_at hp 173 16) (ay_at hp 173 17) := (ax_XF_lt (x := 151) (Nat.le_of_ble_eq_true rfl)).mp (ax_gx hE (151, [3, 7]) ax_m0)
  have F182 : (ρ 2) / 4 = (ρ 1) / 4 + 1 := (ax_XF_lt (x := 182) (Nat.le_of_ble_eq_true rfl)).mp (ax_gx hE (182, [7, 11]) ax_m1)
  obtain ⟨-, -, -, -, -, -, -, -, -, -, -, F152⟩ : ay_ex hp 175 ∧ ay_ex hp 176 ∧ ay_ex hp 177 ∧ ay_ex hp 178 ∧ ay_ex hp 179 ∧ ay_ex hp 173 ∧ ay_ex hp 173 ∧ ay_ex hp 173 ∧ ay_ex hp 173 ∧ ay_ex hp 173 ∧ ay_ex hp 181 ∧ pz_y152 1 (ρ 0) (ρ 1) (ay_at hp 175 1) (ay_at hp 176 1) (ay_at hp 177 1) (ay_at hp 178 1) (ay_at hp 179 1) (ay_at hp 173 23) (ay_at hp 173 25) (ay_at hp 173 24) (ay_at hp 173 18) (ay_at hp 173 19) (ay_at hp 181) := (ax_XF_lt (x := 152) (Nat.le_of_ble_eq_true rfl)).mp (ax_gx hE (152, [3, 7]) ax_m2)
  rw [c_hasRank] at F152
  have F173 : pz7 (pz_gt (ρ 0)) (pz_gN (ρ 0)) ((ρ 1) / 4) 3 := (ax_XF_lt (x := 173) (Nat.le_of_ble_eq_true rfl)).mp (ax_gx hE (173, [3, 7]) ax_m3)
  have F246 : py_y246 (pz_gt (ρ 0)) (pz_gN (ρ 0)) ((ρ 1) / 4) (5) (ρ 3) := (ax_XF_lt (x := 246) (Nat.le_of_ble_eq_true rfl)).mp (ax_gx hE (246, [3, 7, 5, 15]) ax_m5)
  have hf : pz_fk (pz_cf (pz_gt (ρ 0)) (pz_gN (ρ 0)) (ρ 1 / 4)) = false := by
    have e : ρ 4 / 4 = pz_B (pz_fk (pz_cf (pz_gt (ρ 0)) (pz_gN (ρ 0)) (ρ 1 / 4))) := F152.2.2.2.2.2.2.2.1
    cases h : pz_fk (pz_cf (pz_gt (ρ 0)) (pz_gN (ρ 0)) (ρ 1 / 4)) with
    | false => rfl
    | true => rw [h] at e; replace e : ρ 4 / 4 = 1 := e; omega
  refine ⟨(fun y hy => by cases hy), _, List.mem_cons_self, ρ, fun _ _ => rfl, ax_px hE rfl (fun x hx => ?_)⟩
  cases List.mem_singleton.mp hx
  refine (ax_XF_lt (x := 246) (Nat.le_of_ble_eq_true rfl)).mpr ?_
  show py_y246 (pz_gt (ρ 0)) (pz_gN (ρ 0)) ((ρ 2) / 4) (5) (5)
  exact pm_rk F173 hf F182

theorem axqg_t2_readLine {w : ax_W} {b : Nat} (hw : ax_WW w) : ax_RO w (ax_XM b) axu0_t2_readLine := by
  intro ρ hp hE hT
  have j0 : ρ 0 % 4 = 1 := pz_gj hE 0 (Nat.le_of_ble_eq_true rfl) rfl
  have j1 : ρ 1 % 4 = 1 := pz_gj hE 1 (Nat.le_of_ble_eq_true rfl) rfl
  have j2 : ρ 2 % 4 = 1 := pz_gj hE 2 (Nat.le_of_ble_eq_true rfl) rfl
  obtain ⟨-, -, -, -, -, F151⟩ : ay_ex hp 173 ∧ ay_ex hp 173 ∧ ay_ex hp 173 ∧ ay_ex hp 173 ∧ ay_ex hp 173 ∧ pz_y151 (ρ 0) (ρ 1) (ay_at hp 173 13) (ay_at hp 173 14) (ay_at hp 173 15) (ay_at hp 173 16) (ay_at hp 173 17) := (ax_XF_lt (x := 151) (Nat.le_of_ble_eq_true rfl)).mp (ax_gx hE (151, [3, 7]) ax_m0)
  have F181 : pz_y181 (ρ 0) (ρ 1) := (ax_XF_lt (x := 181) (Nat.le_of_ble_eq_true rfl)).mp (ax_gx hE (181, [3, 7]) ax_m1)
  have F246 : py_y246 (pz_gt (ρ 0)) (pz_gN (ρ 0)) ((ρ 1) / 4) (5) (ρ 2) := (ax_XF_lt (x := 246) (Nat.le_of_ble_eq_true rfl)).mp (ax_gx hE (246, [3, 7, 5, 11]) ax_m2)
  refine ⟨(fun y hy => by cases hy), _, List.mem_cons_self, ρ, fun _ _ => rfl, ax_px hE rfl (fun x hx => ?_)⟩
  cases List.mem_singleton.mp hx
  refine (ax_XF_lt (x := 261) (Nat.le_of_ble_eq_true rfl)).mpr ?_
  show py_261 (ρ 0) (ρ 1) (ρ 2)
  exact pm_t2 F246
theorem axq0_t2_readLine : ax_RO ax_wM0 (ax_XM 0) axu0_t2_readLine := axqg_t2_readLine ax_WW0
theorem axqg_t3_readLine {w : ax_W} {b : Nat} (hw : ax_WW w) : ax_RO w (ax_XM b) axu0_t3_readLine := by
  intro ρ hp hE hT
  have j0 : ρ 0 % 4 = 1 := pz_gj hE 0 (Nat.le_of_ble_eq_true rfl) rfl
  have j1 : ρ 1 % 4 = 1 := pz_gj hE 1 (Nat.le_of_ble_eq_true rfl) rfl
  have j2 : ρ 2 % 4 = 1 := pz_gj hE 2 (Nat.le_of_ble_eq_true rfl) rfl
  obtain ⟨-, -, -, -, -, F151⟩ : ay_ex hp 173 ∧ ay_ex hp 173 ∧ ay_ex hp 173 ∧ ay_ex hp 173 ∧ ay_ex hp 173 ∧ pz_y151 (ρ 0) (ρ 1) (ay_at hp 173 13) (ay_at hp 173 14) (ay_at hp 173 15) (ay_at hp 173 16) (ay_at hp 173 17) := (ax_XF_lt (x := 151) (Nat.le_of_ble_eq_true rfl)).mp (ax_gx hE (151, [3, 7]) ax_m0)
  have F179 : pz7 (pz_gt (ρ 0)) (pz_gN (ρ 0)) ((ρ 1) / 4) 9 := (ax_XF_lt (x := 179) (Nat.le_of_ble_eq_true rfl)).mp (ax_gx hE (179, [3, 7]) ax_m1)
  have F248 : py_248 (pz_gt (ρ 0)) (pz_gN (ρ 0)) ((ρ 1) / 4) (ρ 2) := (ax_XF_lt (x := 248) (Nat.le_of_ble_eq_true rfl)).mp (ax_gx hE (248, [3, 7, 11]) ax_m2)
  refine ⟨(fun y hy => by cases hy), _, List.mem_cons_self, ρ, fun _ _ => rfl, ax_px hE rfl (fun x hx => ?_)⟩
  cases List.mem_singleton.mp hx
  refine (ax_XF_lt (x := 261) (Nat.le_of_ble_eq_true rfl)).mpr ?_
  show py_261 (ρ 0) (ρ 1) (ρ 2)
  exact pm_t3 F179 F248
theorem axq0_t3_readLine : ax_RO ax_wM0 (ax_XM 0) axu0_t3_readLine := axqg_t3_readLine ax_WW0
theorem axq0_mz1 : ax_RO ax_wM0 (ax_XM 0) axu0_mz1 := by
  intro ρ hp hE hT
  have j0 : ρ 0 % 4 = 1 := pz_gj hE 0 (Nat.le_of_ble_eq_true rfl) rfl
  have j1 : ρ 1 % 4 = 1 := pz_gj hE 1 (Nat.le_of_ble_eq_true rfl) rfl
  obtain ⟨i2a, i2b, i2c, i2d⟩ := pz_gi hE 2 2147483648 2147483648 (Nat.le_of_ble_eq_true rfl) rfl
  have c_token : ay_at hp 173 15 = some (ρ 2) := ay_gfj hE 702 60 11 173 15 ax_m3 (ax_vlq rfl rfl) (ax_vlj rfl rfl)
  obtain ⟨-, -, -, -, -, F151⟩ : ay_ex hp 173 ∧ ay_ex hp 173 ∧ ay_ex hp 173 ∧ ay_ex hp 173 ∧ ay_ex hp 173 ∧ pz_y151 (ρ 0) (ρ 1) (ay_at hp 173 13) (ay_at hp 173 14) (ay_at hp 173 15) (ay_at hp 173 16) (ay_at hp 173 17) := (ax_XF_lt (x := 151) (Nat.le_of_ble_eq_true rfl)).mp (ax_gx hE (151, [3, 7]) ax_m0)
  rw [c_token] at F151
  obtain ⟨-, -, -, -, -, -, -, -, -, -, -, F152⟩ : ay_ex hp 175 ∧ ay_ex hp 176 ∧ ay_ex hp 177 ∧ ay_ex hp 178 ∧ ay_ex hp 179 ∧ ay_ex hp 173 ∧ ay_ex hp 173 ∧ ay_ex hp 173 ∧ ay_ex hp 173 ∧ ay_ex hp 173 ∧ ay_ex hp 181 ∧ pz_y152 1 (ρ 0) (ρ 1) (ay_at hp 175 1) (ay_at hp 176 1) (ay_at hp 177 1) (ay_at hp 178 1) (ay_at hp 179 1) (ay_at hp 173 23) (ay_at hp 173 25) (ay_at hp 173 24) (ay_at hp 173 18) (ay_at hp 173 19) (ay_at hp 181) := (ax_XF_lt (x := 152) (Nat.le_of_ble_eq_true rfl)).mp (ax_gx hE (152, [3, 7]) ax_m1)
  have F170 : pz7 (pz_gt (ρ 0)) (pz_gN (ρ 0)) ((ρ 1) / 4) 0 := (ax_XF_lt (x := 170) (Nat.le_of_ble_eq_true rfl)).mp (ax_gx hE (170, [3, 7]) ax_m2)
  have ht : ρ 2 / 4 = pz_tok (pz_kd (pz_gt (ρ 0)) (pz_gN (ρ 0)) (pz_p (pz_cf (pz_gt (ρ 0)) (pz_gN (ρ 0)) (ρ 1 / 4)))) := F151.2.2.1
  have hc := pz_tok_c (pz_kd (pz_gt (ρ 0)) (pz_gN (ρ 0)) (pz_p (pz_cf (pz_gt (ρ 0)) (pz_gN (ρ 0)) (ρ 1 / 4))))
  have hk : pz_kd (pz_gt (ρ 0)) (pz_gN (ρ 0)) (pz_p (pz_cf (pz_gt (ρ 0)) (pz_gN (ρ 0)) (ρ 1 / 4))) = 0 := (by rcases hc with h | h | h | h | h <;> omega)
  refine ⟨(fun y hy => by cases hy), _, List.mem_cons_self, ρ, fun _ _ => rfl, ax_px hE rfl (fun x hx => ?_)⟩
  cases List.mem_singleton.mp hx
  refine (ax_XF_lt (x := 210) (Nat.le_of_ble_eq_true rfl)).mpr ?_
  show ay_ex hp 175 ∧ ay_ex hp 176 ∧ ay_ex hp 177 ∧ ay_ex hp 178 ∧ ay_ex hp 179 ∧ ay_ex hp 173 ∧ ay_ex hp 173 ∧ ay_ex hp 173 ∧ ay_ex hp 173 ∧ ay_ex hp 173 ∧ ay_ex hp 181 ∧ pz110 (pz_gt (ρ 0)) (pz_gN (ρ 0)) (ay_ln (ay_at hp 175 1)) (ay_ln (ay_at hp 176 1)) (ay_ln (ay_at hp 177 1)) (ay_ln (ay_at hp 178 1)) (ay_ln (ay_at hp 179 1)) (ay_ln (ay_at hp 173 23)) (ay_ln (ay_at hp 173 25)) (ay_ln (ay_at hp 173 24)) (ay_ln (ay_at hp 173 18)) (ay_ln (ay_at hp 173 19)) (pz_be 1 (ay_at hp 181)) (pz_fi 1 (ay_at hp 181))
  refine ⟨(ax_cellT hT (q := 175) (g := 45) ax_cg_175), (ax_cellT hT (q := 176) (g := 46) ax_cg_176), (ax_cellT hT (q := 177) (g := 47) ax_cg_177), (ax_cellT hT (q := 178) (g := 48) ax_cg_178), (ax_cellT hT (q := 179) (g := 49) ax_cg_179), (ax_cellT hT (q := 173) (g := 11) ax_cg_173), (ax_cellT hT (q := 173) (g := 11) ax_cg_173), (ax_cellT hT (q := 173) (g := 11) ax_cg_173), (ax_cellT hT (q := 173) (g := 11) ax_cg_173), (ax_cellT hT (q := 173) (g := 11) ax_cg_173), (ax_cellT hT (q := 181) (g := 51) ax_cg_181), ?_⟩
  exact pq_rt2 (pz_m50 F151 F152) F170 hk

theorem axqg_mz2a_12 {w : ax_W} {b : Nat} (hw : ax_WW w) : ax_RO w (ax_XM b) axu0_mz2a_12 := by
  intro ρ hp hE hT
  have j0 : ρ 0 % 4 = 1 := pz_gj hE 0 (Nat.le_of_ble_eq_true rfl) rfl
  have j1 : ρ 1 % 4 = 1 := pz_gj hE 1 (Nat.le_of_ble_eq_true rfl) rfl
  obtain ⟨i2a, i2b, i2c, i2d⟩ := pz_gi hE 2 0 2147483647 (Nat.le_of_ble_eq_true rfl) rfl
  have c_token : ay_at hp 173 15 = some (ρ 2) := ay_gfj hE 702 60 11 173 15 ax_m1 (ax_vlq rfl rfl) (ax_vlj rfl rfl)
  obtain ⟨-, -, -, -, -, F151⟩ : ay_ex hp 173 ∧ ay_ex hp 173 ∧ ay_ex hp 173 ∧ ay_ex hp 173 ∧ ay_ex hp 173 ∧ pz_y151 (ρ 0) (ρ 1) (ay_at hp 173 13) (ay_at hp 173 14) (ay_at hp 173 15) (ay_at hp 173 16) (ay_at hp 173 17) := (ax_XF_lt (x := 151) (Nat.le_of_ble_eq_true rfl)).mp (ax_gx hE (151, [3, 7]) ax_m0)
  rw [c_token] at F151
  have ht : ρ 2 / 4 = pz_tok (pz_kd (pz_gt (ρ 0)) (pz_gN (ρ 0)) (pz_p (pz_cf (pz_gt (ρ 0)) (pz_gN (ρ 0)) (ρ 1 / 4)))) := F151.2.2.1
  have hc := pz_tok_c (pz_kd (pz_gt (ρ 0)) (pz_gN (ρ 0)) (pz_p (pz_cf (pz_gt (ρ 0)) (pz_gN (ρ 0)) (ρ 1 / 4))))
  have hk : pz_kd (pz_gt (ρ 0)) (pz_gN (ρ 0)) (pz_p (pz_cf (pz_gt (ρ 0)) (pz_gN (ρ 0)) (ρ 1 / 4))) ≠ 0 := (by rcases hc with h | h | h | h | h <;> omega)
  refine ⟨(fun y hy => by cases hy), _, List.mem_cons_self, ρ, fun _ _ => rfl, ax_px hE rfl (fun x hx => ?_)⟩
  cases List.mem_singleton.mp hx
  refine (ax_XF_lt (x := 211) (Nat.le_of_ble_eq_true rfl)).mpr ?_
  show pz111 (pz_gt (ρ 0)) (pz_gN (ρ 0)) ((ρ 1) / 4)
  exact hk
theorem axq0_mz2a_12 : ax_RO ax_wM0 (ax_XM 0) axu0_mz2a_12 := axqg_mz2a_12 ax_WW0
theorem axqg_mz2a_69 {w : ax_W} {b : Nat} (hw : ax_WW w) : ax_RO w (ax_XM b) axu0_mz2a_69 := by
  intro ρ hp hE hT
  have j0 : ρ 0 % 4 = 1 := pz_gj hE 0 (Nat.le_of_ble_eq_true rfl) rfl
  have j1 : ρ 1 % 4 = 1 := pz_gj hE 1 (Nat.le_of_ble_eq_true rfl) rfl
  obtain ⟨i2a, i2b, i2c, i2d⟩ := pz_gi hE 2 0 2147483647 (Nat.le_of_ble_eq_true rfl) rfl
  have c_token : ay_at hp 173 15 = some (ρ 2) := ay_gfj hE 702 60 11 173 15 ax_m1 (ax_vlq rfl rfl) (ax_vlj rfl rfl)
  obtain ⟨-, -, -, -, -, F151⟩ : ay_ex hp 173 ∧ ay_ex hp 173 ∧ ay_ex hp 173 ∧ ay_ex hp 173 ∧ ay_ex hp 173 ∧ pz_y151 (ρ 0) (ρ 1) (ay_at hp 173 13) (ay_at hp 173 14) (ay_at hp 173 15) (ay_at hp 173 16) (ay_at hp 173 17) := (ax_XF_lt (x := 151) (Nat.le_of_ble_eq_true rfl)).mp (ax_gx hE (151, [3, 7]) ax_m0)
  rw [c_token] at F151
  have ht : ρ 2 / 4 = pz_tok (pz_kd (pz_gt (ρ 0)) (pz_gN (ρ 0)) (pz_p (pz_cf (pz_gt (ρ 0)) (pz_gN (ρ 0)) (ρ 1 / 4)))) := F151.2.2.1
  have hc := pz_tok_c (pz_kd (pz_gt (ρ 0)) (pz_gN (ρ 0)) (pz_p (pz_cf (pz_gt (ρ 0)) (pz_gN (ρ 0)) (ρ 1 / 4))))
  have hk : pz_kd (pz_gt (ρ 0)) (pz_gN (ρ 0)) (pz_p (pz_cf (pz_gt (ρ 0)) (pz_gN (ρ 0)) (ρ 1 / 4))) ≠ 0 := (by rcases hc with h | h | h | h | h <;> omega)
  refine ⟨(fun y hy => by cases hy), _, List.mem_cons_self, ρ, fun _ _ => rfl, ax_px hE rfl (fun x hx => ?_)⟩
  cases List.mem_singleton.mp hx
  refine (ax_XF_lt (x := 211) (Nat.le_of_ble_eq_true rfl)).mpr ?_
  show pz111 (pz_gt (ρ 0)) (pz_gN (ρ 0)) ((ρ 1) / 4)
  exact hk
theorem axq0_mz2a_69 : ax_RO ax_wM0 (ax_XM 0) axu0_mz2a_69 := axqg_mz2a_69 ax_WW0
theorem axqg_mz2b_12 {w : ax_W} {b : Nat} (hw : ax_WW w) : ax_RO w (ax_XM b) axu0_mz2b_12 := by
  intro ρ hp hE hT
  have j0 : ρ 0 % 4 = 1 := pz_gj hE 0 (Nat.le_of_ble_eq_true rfl) rfl
  have j1 : ρ 1 % 4 = 1 := pz_gj hE 1 (Nat.le_of_ble_eq_true rfl) rfl
  obtain ⟨i2a, i2b, i2c, i2d⟩ := pz_gi hE 2 2147483649 4294967295 (Nat.le_of_ble_eq_true rfl) rfl
  have c_token : ay_at hp 173 15 = some (ρ 2) := ay_gfj hE 702 60 11 173 15 ax_m1 (ax_vlq rfl rfl) (ax_vlj rfl rfl)
  obtain ⟨-, -, -, -, -, F151⟩ : ay_ex hp 173 ∧ ay_ex hp 173 ∧ ay_ex hp 173 ∧ ay_ex hp 173 ∧ ay_ex hp 173 ∧ pz_y151 (ρ 0) (ρ 1) (ay_at hp 173 13) (ay_at hp 173 14) (ay_at hp 173 15) (ay_at hp 173 16) (ay_at hp 173 17) := (ax_XF_lt (x := 151) (Nat.le_of_ble_eq_true rfl)).mp (ax_gx hE (151, [3, 7]) ax_m0)
  rw [c_token] at F151
  have ht : ρ 2 / 4 = pz_tok (pz_kd (pz_gt (ρ 0)) (pz_gN (ρ 0)) (pz_p (pz_cf (pz_gt (ρ 0)) (pz_gN (ρ 0)) (ρ 1 / 4)))) := F151.2.2.1
  have hc := pz_tok_c (pz_kd (pz_gt (ρ 0)) (pz_gN (ρ 0)) (pz_p (pz_cf (pz_gt (ρ 0)) (pz_gN (ρ 0)) (ρ 1 / 4))))
  have hk : pz_kd (pz_gt (ρ 0)) (pz_gN (ρ 0)) (pz_p (pz_cf (pz_gt (ρ 0)) (pz_gN (ρ 0)) (ρ 1 / 4))) ≠ 0 := (by rcases hc with h | h | h | h | h <;> omega)
  refine ⟨(fun y hy => by cases hy), _, List.mem_cons_self, ρ, fun _ _ => rfl, ax_px hE rfl (fun x hx => ?_)⟩
  cases List.mem_singleton.mp hx
  refine (ax_XF_lt (x := 211) (Nat.le_of_ble_eq_true rfl)).mpr ?_
  show pz111 (pz_gt (ρ 0)) (pz_gN (ρ 0)) ((ρ 1) / 4)
  exact hk
theorem axq0_mz2b_12 : ax_RO ax_wM0 (ax_XM 0) axu0_mz2b_12 := axqg_mz2b_12 ax_WW0
theorem axqg_mz2b_69 {w : ax_W} {b : Nat} (hw : ax_WW w) : ax_RO w (ax_XM b) axu0_mz2b_69 := by
  intro ρ hp hE hT
  have j0 : ρ 0 % 4 = 1 := pz_gj hE 0 (Nat.le_of_ble_eq_true rfl) rfl
  have j1 : ρ 1 % 4 = 1 := pz_gj hE 1 (Nat.le_of_ble_eq_true rfl) rfl
  obtain ⟨i2a, i2b, i2c, i2d⟩ := pz_gi hE 2 2147483649 4294967295 (Nat.le_of_ble_eq_true rfl) rfl
  have c_token : ay_at hp 173 15 = some (ρ 2) := ay_gfj hE 702 60 11 173 15 ax_m1 (ax_vlq rfl rfl) (ax_vlj rfl rfl)
  obtain ⟨-, -, -, -, -, F151⟩ : ay_ex hp 173 ∧ ay_ex hp 173 ∧ ay_ex hp 173 ∧ ay_ex hp 173 ∧ ay_ex hp 173 ∧ pz_y151 (ρ 0) (ρ 1) (ay_at hp 173 13) (ay_at hp 173 14) (ay_at hp 173 15) (ay_at hp 173 16) (ay_at hp 173 17) := (ax_XF_lt (x := 151) (Nat.le_of_ble_eq_true rfl)).mp (ax_gx hE (151, [3, 7]) ax_m0)
  rw [c_token] at F151
  have ht : ρ 2 / 4 = pz_tok (pz_kd (pz_gt (ρ 0)) (pz_gN (ρ 0)) (pz_p (pz_cf (pz_gt (ρ 0)) (pz_gN (ρ 0)) (ρ 1 / 4)))) := F151.2.2.1
  have hc := pz_tok_c (pz_kd (pz_gt (ρ 0)) (pz_gN (ρ 0)) (pz_p (pz_cf (pz_gt (ρ 0)) (pz_gN (ρ 0)) (ρ 1 / 4))))
  have hk : pz_kd (pz_gt (ρ 0)) (pz_gN (ρ 0)) (pz_p (pz_cf (pz_gt (ρ 0)) (pz_gN (ρ 0)) (ρ 1 / 4))) ≠ 0 := (by rcases hc with h | h | h | h | h <;> omega)
  refine ⟨(fun y hy => by cases hy), _, List.mem_cons_self, ρ, fun _ _ => rfl, ax_px hE rfl (fun x hx => ?_)⟩
  cases List.mem_singleton.mp hx
  refine (ax_XF_lt (x := 211) (Nat.le_of_ble_eq_true rfl)).mpr ?_
  show pz111 (pz_gt (ρ 0)) (pz_gN (ρ 0)) ((ρ 1) / 4)
  exact hk
theorem axq0_mz2b_69 : ax_RO ax_wM0 (ax_XM 0) axu0_mz2b_69 := axqg_mz2b_69 ax_WW0
theorem axqg_mz3 {w : ax_W} {b : Nat} (hw : ax_WW w) : ax_RO w (ax_XM b) axu0_mz3 := by
  intro ρ hp hE hT
  have j0 : ρ 0 % 4 = 1 := pz_gj hE 0 (Nat.le_of_ble_eq_true rfl) rfl
  have j1 : ρ 1 % 4 = 1 := pz_gj hE 1 (Nat.le_of_ble_eq_true rfl) rfl
  obtain ⟨-, -, -, -, -, F151⟩ : ay_ex hp 173 ∧ ay_ex hp 173 ∧ ay_ex hp 173 ∧ ay_ex hp 173 ∧ ay_ex hp 173 ∧ pz_y151 (ρ 0) (ρ 1) (ay_at hp 173 13) (ay_at hp 173 14) (ay_at hp 173 15) (ay_at hp 173 16) (ay_at hp 173 17) := (ax_XF_lt (x := 151) (Nat.le_of_ble_eq_true rfl)).mp (ax_gx hE (151, [3, 7]) ax_m0)
  have F170 : pz7 (pz_gt (ρ 0)) (pz_gN (ρ 0)) ((ρ 1) / 4) 0 := (ax_XF_lt (x := 170) (Nat.le_of_ble_eq_true rfl)).mp (ax_gx hE (170, [3, 7]) ax_m1)
  have F211 : pz111 (pz_gt (ρ 0)) (pz_gN (ρ 0)) ((ρ 1) / 4) := (ax_XF_lt (x := 211) (Nat.le_of_ble_eq_true rfl)).mp (ax_gx hE (211, [3, 7]) ax_m2)
  have F161 : pz61 (pz_gt (ρ 0)) (pz_gN (ρ 0)) ((ρ 1) / 4) ((0) / 4) := (ax_XF_lt (x := 161) (Nat.le_of_ble_eq_true rfl)).mp (ax_gx hE (161, [3, 7, 0]) ax_m3)
  refine ⟨(fun y hy => by cases hy), _, List.mem_cons_self, ρ, fun _ _ => rfl, ax_px hE rfl (fun x hx => ?_)⟩
  cases List.mem_singleton.mp hx
  refine (ax_XF_lt (x := 164) (Nat.le_of_ble_eq_true rfl)).mpr ?_
  show pz64 (pz_gt (ρ 0)) (pz_gN (ρ 0)) ((ρ 1) / 4) ((4) / 4)
  exact pq_sw1 F170 F211 F161
theorem axq0_mz3 : ax_RO ax_wM0 (ax_XM 0) axu0_mz3 := axqg_mz3 ax_WW0
theorem axq0_mz4 : ax_RO ax_wM0 (ax_XM 0) axu0_mz4 := by
  intro ρ hp hE hT
  have j0 : ρ 0 % 4 = 1 := pz_gj hE 0 (Nat.le_of_ble_eq_true rfl) rfl
  have j1 : ρ 1 % 4 = 1 := pz_gj hE 1 (Nat.le_of_ble_eq_true rfl) rfl
  obtain ⟨-, -, -, -, -, F151⟩ : ay_ex hp 173 ∧ ay_ex hp 173 ∧ ay_ex hp 173 ∧ ay_ex hp 173 ∧ ay_ex hp 173 ∧ pz_y151 (ρ 0) (ρ 1) (ay_at hp 173 13) (ay_at hp 173 14) (ay_at hp 173 15) (ay_at hp 173 16) (ay_at hp 173 17) := (ax_XF_lt (x := 151) (Nat.le_of_ble_eq_true rfl)).mp (ax_gx hE (151, [3, 7]) ax_m0)
  obtain ⟨-, -, -, -, -, -, -, -, -, -, -, F152⟩ : ay_ex hp 175 ∧ ay_ex hp 176 ∧ ay_ex hp 177 ∧ ay_ex hp 178 ∧ ay_ex hp 179 ∧ ay_ex hp 173 ∧ ay_ex hp 173 ∧ ay_ex hp 173 ∧ ay_ex hp 173 ∧ ay_ex hp 173 ∧ ay_ex hp 181 ∧ pz_y152 1 (ρ 0) (ρ 1) (ay_at hp 175 1) (ay_at hp 176 1) (ay_at hp 177 1) (ay_at hp 178 1) (ay_at hp 179 1) (ay_at hp 173 23) (ay_at hp 173 25) (ay_at hp 173 24) (ay_at hp 173 18) (ay_at hp 173 19) (ay_at hp 181) := (ax_XF_lt (x := 152) (Nat.le_of_ble_eq_true rfl)).mp (ax_gx hE (152, [3, 7]) ax_m1)
  have F170 : pz7 (pz_gt (ρ 0)) (pz_gN (ρ 0)) ((ρ 1) / 4) 0 := (ax_XF_lt (x := 170) (Nat.le_of_ble_eq_true rfl)).mp (ax_gx hE (170, [3, 7]) ax_m2)
  have F160 : pz60 (pz_gt (ρ 0)) (pz_gN (ρ 0)) ((ρ 1) / 4) ((0) / 4) := (ax_XF_lt (x := 160) (Nat.le_of_ble_eq_true rfl)).mp (ax_gx hE (160, [3, 7, 0]) ax_m3)
  have st := pq_sw2 (pz_m50 F151 F152) F170 F160
  obtain ⟨ρ', h1, h2⟩ := pz_pn1 (K := ρ 1 / 4 + 1) (xf := [(153, [3, 11]), (182, [7, 11]), (152, [3, 11]), (171, [3, 11])]) hE (by decide) (fun ρ' h1 h2 x hx => by
    have q0 : ρ' 0 = ρ 0 := h1 0 (by decide)
    have q1 : ρ' 1 = ρ 1 := h1 1 (by decide)
    rcases List.mem_cons.mp hx with e | hx
    · subst e
      refine (ax_XF_lt (x := 153) (Nat.le_of_ble_eq_true rfl)).mpr ?_
      show ay_ex hp 173 ∧ pz_at (pz_gt (ρ' 0)) (pz_gN (ρ' 0)) (ay_ln (ay_at hp 173 13)) = pz_at (pz_gt (ρ' 0)) (pz_gN (ρ' 0)) (pz_p (pz_cF (ρ' 0) (ρ' 2)))
      rw [q0, h2]
      refine ⟨(ax_cellT hT (q := 173) (g := 11) ax_cg_173), ?_⟩
      exact pz_l153 (pz_41 _) st.1.1
    rcases List.mem_cons.mp hx with e | hx
    · subst e
      refine (ax_XF_lt (x := 182) (Nat.le_of_ble_eq_true rfl)).mpr ?_
      show (ρ' 2) / 4 = (ρ' 1) / 4 + 1
      rw [q1, h2]
      rw [pz_41]
    rcases List.mem_cons.mp hx with e | hx
    · subst e
      refine (ax_XF_lt (x := 152) (Nat.le_of_ble_eq_true rfl)).mpr ?_
      show ay_ex hp 175 ∧ ay_ex hp 176 ∧ ay_ex hp 177 ∧ ay_ex hp 178 ∧ ay_ex hp 179 ∧ ay_ex hp 173 ∧ ay_ex hp 173 ∧ ay_ex hp 173 ∧ ay_ex hp 173 ∧ ay_ex hp 173 ∧ ay_ex hp 181 ∧ pz_y152 1 (ρ' 0) (ρ' 2) (ay_at hp 175 1) (ay_at hp 176 1) (ay_at hp 177 1) (ay_at hp 178 1) (ay_at hp 179 1) (ay_at hp 173 23) (ay_at hp 173 25) (ay_at hp 173 24) (ay_at hp 173 18) (ay_at hp 173 19) (ay_at hp 181)
      rw [q0, h2]
      refine ⟨(ax_cellT hT (q := 175) (g := 45) ax_cg_175), (ax_cellT hT (q := 176) (g := 46) ax_cg_176), (ax_cellT hT (q := 177) (g := 47) ax_cg_177), (ax_cellT hT (q := 178) (g := 48) ax_cg_178), (ax_cellT hT (q := 179) (g := 49) ax_cg_179), (ax_cellT hT (q := 173) (g := 11) ax_cg_173), (ax_cellT hT (q := 173) (g := 11) ax_cg_173), (ax_cellT hT (q := 173) (g := 11) ax_cg_173), (ax_cellT hT (q := 173) (g := 11) ax_cg_173), (ax_cellT hT (q := 173) (g := 11) ax_cg_173), (ax_cellT hT (q := 181) (g := 51) ax_cg_181), ?_⟩
      exact pz_l152 (pz_41 _) st.1.2
    cases List.mem_singleton.mp hx
    refine (ax_XF_lt (x := 171) (Nat.le_of_ble_eq_true rfl)).mpr ?_
    show pz7 (pz_gt (ρ' 0)) (pz_gN (ρ' 0)) ((ρ' 2) / 4) 1
    rw [q0, h2]
    rw [pz_41]
    exact st.2)
  exact ⟨(fun y hy => by cases hy), _, List.mem_cons_self, ρ', h1, h2⟩

theorem axq0_mz5 : ax_RO ax_wM0 (ax_XM 0) axu0_mz5 := by
  intro ρ hp hE hT
  have j0 : ρ 0 % 4 = 1 := pz_gj hE 0 (Nat.le_of_ble_eq_true rfl) rfl
  have j1 : ρ 1 % 4 = 1 := pz_gj hE 1 (Nat.le_of_ble_eq_true rfl) rfl
  have j2 : ρ 2 % 4 = 1 := pz_gj hE 2 (Nat.le_of_ble_eq_true rfl) rfl
  obtain ⟨i3a, i3b, i3c, i3d⟩ := pz_gi hE 3 2147483650 2147483658 (Nat.le_of_ble_eq_true rfl) rfl
  obtain ⟨-, -, -, -, -, F151⟩ : ay_ex hp 173 ∧ ay_ex hp 173 ∧ ay_ex hp 173 ∧ ay_ex hp 173 ∧ ay_ex hp 173 ∧ pz_y151 (ρ 0) (ρ 2) (ay_at hp 173 13) (ay_at hp 173 14) (ay_at hp 173 15) (ay_at hp 173 16) (ay_at hp 173 17) := (ax_XF_lt (x := 151) (Nat.le_of_ble_eq_true rfl)).mp (ax_gx hE (151, [3, 11]) ax_m0)
  have F182 : (ρ 2) / 4 = (ρ 1) / 4 + 1 := (ax_XF_lt (x := 182) (Nat.le_of_ble_eq_true rfl)).mp (ax_gx hE (182, [7, 11]) ax_m1)
  obtain ⟨-, -, -, -, -, -, -, -, -, -, -, F152⟩ : ay_ex hp 175 ∧ ay_ex hp 176 ∧ ay_ex hp 177 ∧ ay_ex hp 178 ∧ ay_ex hp 179 ∧ ay_ex hp 173 ∧ ay_ex hp 173 ∧ ay_ex hp 173 ∧ ay_ex hp 173 ∧ ay_ex hp 173 ∧ ay_ex hp 181 ∧ pz_y152 1 (ρ 0) (ρ 1) (ay_at hp 175 1) (ay_at hp 176 1) (ay_at hp 177 1) (ay_at hp 178 1) (ay_at hp 179 1) (ay_at hp 173 23) (ay_at hp 173 25) (ay_at hp 173 24) (ay_at hp 173 18) (ay_at hp 173 19) (ay_at hp 181) := (ax_XF_lt (x := 152) (Nat.le_of_ble_eq_true rfl)).mp (ax_gx hE (152, [3, 7]) ax_m2)
  have F171 : pz7 (pz_gt (ρ 0)) (pz_gN (ρ 0)) ((ρ 1) / 4) 1 := (ax_XF_lt (x := 171) (Nat.le_of_ble_eq_true rfl)).mp (ax_gx hE (171, [3, 7]) ax_m3)
  have F166 : pz66 (pz_gt (ρ 0)) (pz_gN (ρ 0)) ((ρ 1) / 4) ((ρ 3) / 4) := (ax_XF_lt (x := 166) (Nat.le_of_ble_eq_true rfl)).mp (ax_gx hE (166, [3, 7, 15]) ax_m4)
  have f50 : pz50 (pz_gt (ρ 0)) (pz_gN (ρ 0)) (ρ 1 / 4) (pz_nx (pz_gt (ρ 0)) (pz_gN (ρ 0)) (pz_p (pz_cf (pz_gt (ρ 0)) (pz_gN (ρ 0)) (ρ 1 / 4)))) (pz_at (pz_gt (ρ 0)) (pz_gN (ρ 0)) (pz_p (pz_cf (pz_gt (ρ 0)) (pz_gN (ρ 0)) (ρ 1 / 4)))) (pz_kd (pz_gt (ρ 0)) (pz_gN (ρ 0)) (pz_p (pz_cf (pz_gt (ρ 0)) (pz_gN (ρ 0)) (ρ 1 / 4)))) (pz_vl (pz_gt (ρ 0)) (pz_gN (ρ 0)) (pz_p (pz_cf (pz_gt (ρ 0)) (pz_gN (ρ 0)) (ρ 1 / 4)))) _ _ _ _ _ _ _ _ _ _ _ _ := ⟨rfl, rfl, rfl, fun _ => pz_m_vl, F152⟩
  have st := pq_sw3 f50 F171 F166 (by omega) (by omega)
  refine ⟨(fun y hy => by cases hy), _, List.mem_cons_self, ρ, fun _ _ => rfl, ax_px hE rfl (fun x hx => ?_)⟩
  rcases List.mem_cons.mp hx with e | hx
  · subst e
    refine (ax_XF_wr (x := 152) (Nat.le_of_ble_eq_true rfl)).mpr ?_
    show ay_ex (ax_upd hp 710 (4) (ρ 3)) 175 ∧ ay_ex (ax_upd hp 710 (4) (ρ 3)) 176 ∧ ay_ex (ax_upd hp 710 (4) (ρ 3)) 177 ∧ ay_ex (ax_upd hp 710 (4) (ρ 3)) 178 ∧ ay_ex (ax_upd hp 710 (4) (ρ 3)) 179 ∧ ay_ex (ax_upd hp 710 (4) (ρ 3)) 173 ∧ ay_ex (ax_upd hp 710 (4) (ρ 3)) 173 ∧ ay_ex (ax_upd hp 710 (4) (ρ 3)) 173 ∧ ay_ex (ax_upd hp 710 (4) (ρ 3)) 173 ∧ ay_ex (ax_upd hp 710 (4) (ρ 3)) 173 ∧ ay_ex (ax_upd hp 710 (4) (ρ 3)) 181 ∧ pz_y152 1 (ρ 0) (ρ 2) (ay_at (ax_upd hp 710 (4) (ρ 3)) 175 1) (ay_at (ax_upd hp 710 (4) (ρ 3)) 176 1) (ay_at (ax_upd hp 710 (4) (ρ 3)) 177 1) (ay_at (ax_upd hp 710 (4) (ρ 3)) 178 1) (ay_at (ax_upd hp 710 (4) (ρ 3)) 179 1) (ay_at (ax_upd hp 710 (4) (ρ 3)) 173 23) (ay_at (ax_upd hp 710 (4) (ρ 3)) 173 25) (ay_at (ax_upd hp 710 (4) (ρ 3)) 173 24) (ay_at (ax_upd hp 710 (4) (ρ 3)) 173 18) (ay_at (ax_upd hp 710 (4) (ρ 3)) 173 19) (ay_at (ax_upd hp 710 (4) (ρ 3)) 181)
    obtain ⟨o0, ho0⟩ := ay_some hT (q := 175) (g := 45) (n := 2) ax_cg_175 ax_cn_45 (j := 4 / 4) (Nat.le_of_ble_eq_true rfl)
    have u1 : ∀ q, q ≠ 175 → ay_at (ax_upd hp 710 4 (ρ 3)) q = ay_at hp q := fun q hq => funext (fun j => ay_upd_ne hT.1 hq j)
    have u2 : ∀ j, ay_at (ax_upd hp 710 4 (ρ 3)) 175 j = if j = 1 then some (ρ 3) else ay_at hp 175 j := fun j => ay_upd_eq hT.1 rfl ho0 j
    refine ⟨ay_ex_upd hT.1 (ax_cellT hT (q := 175) (g := 45) ax_cg_175), ay_ex_upd hT.1 (ax_cellT hT (q := 176) (g := 46) ax_cg_176), ay_ex_upd hT.1 (ax_cellT hT (q := 177) (g := 47) ax_cg_177), ay_ex_upd hT.1 (ax_cellT hT (q := 178) (g := 48) ax_cg_178), ay_ex_upd hT.1 (ax_cellT hT (q := 179) (g := 49) ax_cg_179), ay_ex_upd hT.1 (ax_cellT hT (q := 173) (g := 11) ax_cg_173), ay_ex_upd hT.1 (ax_cellT hT (q := 173) (g := 11) ax_cg_173), ay_ex_upd hT.1 (ax_cellT hT (q := 173) (g := 11) ax_cg_173), ay_ex_upd hT.1 (ax_cellT hT (q := 173) (g := 11) ax_cg_173), ay_ex_upd hT.1 (ax_cellT hT (q := 173) (g := 11) ax_cg_173), ay_ex_upd hT.1 (ax_cellT hT (q := 181) (g := 51) ax_cg_181), ?_⟩
    rw [u2 1, if_pos rfl, u1 176 (Nat.ne_of_beq_eq_false rfl), u1 177 (Nat.ne_of_beq_eq_false rfl), u1 178 (Nat.ne_of_beq_eq_false rfl), u1 179 (Nat.ne_of_beq_eq_false rfl), u1 173 (Nat.ne_of_beq_eq_false rfl), u1 181 (Nat.ne_of_beq_eq_false rfl)]
    exact pz_l152 F182 st.1.2
  cases List.mem_singleton.mp hx
  refine (ax_XF_lt (x := 181) (Nat.le_of_ble_eq_true rfl)).mpr ?_
  show pz_y181 (ρ 0) (ρ 2)
  refine Or.inl ?_
  rw [F182]
  exact st.2

theorem axq0_mz6 : ax_RO ax_wM0 (ax_XM 0) axu0_mz6 := by
  intro ρ hp hE hT
  have j0 : ρ 0 % 4 = 1 := pz_gj hE 0 (Nat.le_of_ble_eq_true rfl) rfl
  have j1 : ρ 1 % 4 = 1 := pz_gj hE 1 (Nat.le_of_ble_eq_true rfl) rfl
  obtain ⟨i2a, i2b, i2c, i2d⟩ := pz_gi hE 2 2147483648 2147483648 (Nat.le_of_ble_eq_true rfl) rfl
  have c_token : ay_at hp 173 15 = some (ρ 2) := ay_gfj hE 702 60 11 173 15 ax_m3 (ax_vlq rfl rfl) (ax_vlj rfl rfl)
  obtain ⟨-, -, -, -, -, F151⟩ : ay_ex hp 173 ∧ ay_ex hp 173 ∧ ay_ex hp 173 ∧ ay_ex hp 173 ∧ ay_ex hp 173 ∧ pz_y151 (ρ 0) (ρ 1) (ay_at hp 173 13) (ay_at hp 173 14) (ay_at hp 173 15) (ay_at hp 173 16) (ay_at hp 173 17) := (ax_XF_lt (x := 151) (Nat.le_of_ble_eq_true rfl)).mp (ax_gx hE (151, [3, 7]) ax_m0)
  rw [c_token] at F151
  obtain ⟨-, -, -, -, -, -, -, -, -, -, -, F152⟩ : ay_ex hp 175 ∧ ay_ex hp 176 ∧ ay_ex hp 177 ∧ ay_ex hp 178 ∧ ay_ex hp 179 ∧ ay_ex hp 173 ∧ ay_ex hp 173 ∧ ay_ex hp 173 ∧ ay_ex hp 173 ∧ ay_ex hp 173 ∧ ay_ex hp 181 ∧ pz_y152 1 (ρ 0) (ρ 1) (ay_at hp 175 1) (ay_at hp 176 1) (ay_at hp 177 1) (ay_at hp 178 1) (ay_at hp 179 1) (ay_at hp 173 23) (ay_at hp 173 25) (ay_at hp 173 24) (ay_at hp 173 18) (ay_at hp 173 19) (ay_at hp 181) := (ax_XF_lt (x := 152) (Nat.le_of_ble_eq_true rfl)).mp (ax_gx hE (152, [3, 7]) ax_m1)
  have F173 : pz7 (pz_gt (ρ 0)) (pz_gN (ρ 0)) ((ρ 1) / 4) 3 := (ax_XF_lt (x := 173) (Nat.le_of_ble_eq_true rfl)).mp (ax_gx hE (173, [3, 7]) ax_m2)
  have ht : ρ 2 / 4 = pz_tok (pz_kd (pz_gt (ρ 0)) (pz_gN (ρ 0)) (pz_p (pz_cf (pz_gt (ρ 0)) (pz_gN (ρ 0)) (ρ 1 / 4)))) := F151.2.2.1
  have hc := pz_tok_c (pz_kd (pz_gt (ρ 0)) (pz_gN (ρ 0)) (pz_p (pz_cf (pz_gt (ρ 0)) (pz_gN (ρ 0)) (ρ 1 / 4))))
  have hk : pz_kd (pz_gt (ρ 0)) (pz_gN (ρ 0)) (pz_p (pz_cf (pz_gt (ρ 0)) (pz_gN (ρ 0)) (ρ 1 / 4))) = 0 := (by rcases hc with h | h | h | h | h <;> omega)
  refine ⟨(fun y hy => by cases hy), _, List.mem_cons_self, ρ, fun _ _ => rfl, ax_px hE rfl (fun x hx => ?_)⟩
  cases List.mem_singleton.mp hx
  refine (ax_XF_lt (x := 210) (Nat.le_of_ble_eq_true rfl)).mpr ?_
  show ay_ex hp 175 ∧ ay_ex hp 176 ∧ ay_ex hp 177 ∧ ay_ex hp 178 ∧ ay_ex hp 179 ∧ ay_ex hp 173 ∧ ay_ex hp 173 ∧ ay_ex hp 173 ∧ ay_ex hp 173 ∧ ay_ex hp 173 ∧ ay_ex hp 181 ∧ pz110 (pz_gt (ρ 0)) (pz_gN (ρ 0)) (ay_ln (ay_at hp 175 1)) (ay_ln (ay_at hp 176 1)) (ay_ln (ay_at hp 177 1)) (ay_ln (ay_at hp 178 1)) (ay_ln (ay_at hp 179 1)) (ay_ln (ay_at hp 173 23)) (ay_ln (ay_at hp 173 25)) (ay_ln (ay_at hp 173 24)) (ay_ln (ay_at hp 173 18)) (ay_ln (ay_at hp 173 19)) (pz_be 1 (ay_at hp 181)) (pz_fi 1 (ay_at hp 181))
  refine ⟨(ax_cellT hT (q := 175) (g := 45) ax_cg_175), (ax_cellT hT (q := 176) (g := 46) ax_cg_176), (ax_cellT hT (q := 177) (g := 47) ax_cg_177), (ax_cellT hT (q := 178) (g := 48) ax_cg_178), (ax_cellT hT (q := 179) (g := 49) ax_cg_179), (ax_cellT hT (q := 173) (g := 11) ax_cg_173), (ax_cellT hT (q := 173) (g := 11) ax_cg_173), (ax_cellT hT (q := 173) (g := 11) ax_cg_173), (ax_cellT hT (q := 173) (g := 11) ax_cg_173), (ax_cellT hT (q := 173) (g := 11) ax_cg_173), (ax_cellT hT (q := 181) (g := 51) ax_cg_181), ?_⟩
  exact pq_rt8 (pz_m50 F151 F152) F173 hk

theorem axqg_t0_mz4 {w : ax_W} {b : Nat} (hw : ax_WW w) : ax_RO w (ax_XM b) axu0_t0_mz4 := by
  intro ρ hp hE hT
  have j0 : ρ 0 % 4 = 1 := pz_gj hE 0 (Nat.le_of_ble_eq_true rfl) rfl
  have j1 : ρ 1 % 4 = 1 := pz_gj hE 1 (Nat.le_of_ble_eq_true rfl) rfl
  have j2 : ρ 2 % 4 = 1 := pz_gj hE 2 (Nat.le_of_ble_eq_true rfl) rfl
  have j3 : ρ 3 % 4 = 1 := pz_gj hE 3 (Nat.le_of_ble_eq_true rfl) rfl
  have F170 : pz7 (pz_gt (ρ 0)) (pz_gN (ρ 0)) ((ρ 1) / 4) 0 := (ax_XF_lt (x := 170) (Nat.le_of_ble_eq_true rfl)).mp (ax_gx hE (170, [3, 7]) ax_m0)
  have F182 : (ρ 2) / 4 = (ρ 1) / 4 + 1 := (ax_XF_lt (x := 182) (Nat.le_of_ble_eq_true rfl)).mp (ax_gx hE (182, [7, 11]) ax_m1)
  have F246 : py_y246 (pz_gt (ρ 0)) (pz_gN (ρ 0)) ((ρ 1) / 4) (5) (ρ 3) := (ax_XF_lt (x := 246) (Nat.le_of_ble_eq_true rfl)).mp (ax_gx hE (246, [3, 7, 5, 15]) ax_m2)
  refine ⟨(fun y hy => by cases hy), _, List.mem_cons_self, ρ, fun _ _ => rfl, ax_px hE rfl (fun x hx => ?_)⟩
  cases List.mem_singleton.mp hx
  refine (ax_XF_lt (x := 246) (Nat.le_of_ble_eq_true rfl)).mpr ?_
  show py_y246 (pz_gt (ρ 0)) (pz_gN (ρ 0)) ((ρ 2) / 4) (5) (ρ 3)
  exact pm_t0 F170 (by decide) (by decide) F182 F246
theorem axq0_t0_mz4 : ax_RO ax_wM0 (ax_XM 0) axu0_t0_mz4 := axqg_t0_mz4 ax_WW0
theorem axqg_t0_mz5 {w : ax_W} {b : Nat} (hw : ax_WW w) : ax_RO w (ax_XM b) axu0_t0_mz5 := by
  intro ρ hp hE hT
  have j0 : ρ 0 % 4 = 1 := pz_gj hE 0 (Nat.le_of_ble_eq_true rfl) rfl
  have j1 : ρ 1 % 4 = 1 := pz_gj hE 1 (Nat.le_of_ble_eq_true rfl) rfl
  have j2 : ρ 2 % 4 = 1 := pz_gj hE 2 (Nat.le_of_ble_eq_true rfl) rfl
  have j3 : ρ 3 % 4 = 1 := pz_gj hE 3 (Nat.le_of_ble_eq_true rfl) rfl
  have F171 : pz7 (pz_gt (ρ 0)) (pz_gN (ρ 0)) ((ρ 1) / 4) 1 := (ax_XF_lt (x := 171) (Nat.le_of_ble_eq_true rfl)).mp (ax_gx hE (171, [3, 7]) ax_m0)
  have F182 : (ρ 2) / 4 = (ρ 1) / 4 + 1 := (ax_XF_lt (x := 182) (Nat.le_of_ble_eq_true rfl)).mp (ax_gx hE (182, [7, 11]) ax_m1)
  have F246 : py_y246 (pz_gt (ρ 0)) (pz_gN (ρ 0)) ((ρ 1) / 4) (5) (ρ 3) := (ax_XF_lt (x := 246) (Nat.le_of_ble_eq_true rfl)).mp (ax_gx hE (246, [3, 7, 5, 15]) ax_m2)
  refine ⟨(fun y hy => by cases hy), _, List.mem_cons_self, ρ, fun _ _ => rfl, ax_px hE rfl (fun x hx => ?_)⟩
  cases List.mem_singleton.mp hx
  refine (ax_XF_lt (x := 246) (Nat.le_of_ble_eq_true rfl)).mpr ?_
  show py_y246 (pz_gt (ρ 0)) (pz_gN (ρ 0)) ((ρ 2) / 4) (5) (ρ 3)
  exact pm_t0 F171 (by decide) (by decide) F182 F246
theorem axq0_t0_mz5 : ax_RO ax_wM0 (ax_XM 0) axu0_t0_mz5 := axqg_t0_mz5 ax_WW0
theorem axqg_t2_readAll {w : ax_W} {b : Nat} (hw : ax_WW w) : ax_RO w (ax_XM b) axu0_t2_readAll := by
  intro ρ hp hE hT
  have j0 : ρ 0 % 4 = 1 := pz_gj hE 0 (Nat.le_of_ble_eq_true rfl) rfl
  have j1 : ρ 1 % 4 = 1 := pz_gj hE 1 (Nat.le_of_ble_eq_true rfl) rfl
  have j2 : ρ 2 % 4 = 1 := pz_gj hE 2 (Nat.le_of_ble_eq_true rfl) rfl
  obtain ⟨-, -, -, -, -, F151⟩ : ay_ex hp 173 ∧ ay_ex hp 173 ∧ ay_ex hp 173 ∧ ay_ex hp 173 ∧ ay_ex hp 173 ∧ pz_y151 (ρ 0) (ρ 1) (ay_at hp 173 13) (ay_at hp 173 14) (ay_at hp 173 15) (ay_at hp 173 16) (ay_at hp 173 17) := (ax_XF_lt (x := 151) (Nat.le_of_ble_eq_true rfl)).mp (ax_gx hE (151, [3, 7]) ax_m0)
  have F181 : pz_y181 (ρ 0) (ρ 1) := (ax_XF_lt (x := 181) (Nat.le_of_ble_eq_true rfl)).mp (ax_gx hE (181, [3, 7]) ax_m1)
  have F246 : py_y246 (pz_gt (ρ 0)) (pz_gN (ρ 0)) ((ρ 1) / 4) (5) (ρ 2) := (ax_XF_lt (x := 246) (Nat.le_of_ble_eq_true rfl)).mp (ax_gx hE (246, [3, 7, 5, 11]) ax_m2)
  refine ⟨(fun y hy => by cases hy), _, List.mem_cons_self, ρ, fun _ _ => rfl, ax_px hE rfl (fun x hx => ?_)⟩
  cases List.mem_singleton.mp hx
  refine (ax_XF_lt (x := 261) (Nat.le_of_ble_eq_true rfl)).mpr ?_
  show py_261 (ρ 0) (ρ 1) (ρ 2)
  exact pm_t2 F246
theorem axq0_t2_readAll : ax_RO ax_wM0 (ax_XM 0) axu0_t2_readAll := axqg_t2_readAll ax_WW0
theorem axqg_t3_readAll {w : ax_W} {b : Nat} (hw : ax_WW w) : ax_RO w (ax_XM b) axu0_t3_readAll := by
  intro ρ hp hE hT
  have j0 : ρ 0 % 4 = 1 := pz_gj hE 0 (Nat.le_of_ble_eq_true rfl) rfl
  have j1 : ρ 1 % 4 = 1 := pz_gj hE 1 (Nat.le_of_ble_eq_true rfl) rfl
  have j2 : ρ 2 % 4 = 1 := pz_gj hE 2 (Nat.le_of_ble_eq_true rfl) rfl
  obtain ⟨-, -, -, -, -, F151⟩ : ay_ex hp 173 ∧ ay_ex hp 173 ∧ ay_ex hp 173 ∧ ay_ex hp 173 ∧ ay_ex hp 173 ∧ pz_y151 (ρ 0) (ρ 1) (ay_at hp 173 13) (ay_at hp 173 14) (ay_at hp 173 15) (ay_at hp 173 16) (ay_at hp 173 17) := (ax_XF_lt (x := 151) (Nat.le_of_ble_eq_true rfl)).mp (ax_gx hE (151, [3, 7]) ax_m0)
  have F179 : pz7 (pz_gt (ρ 0)) (pz_gN (ρ 0)) ((ρ 1) / 4) 9 := (ax_XF_lt (x := 179) (Nat.le_of_ble_eq_true rfl)).mp (ax_gx hE (179, [3, 7]) ax_m1)
  have F248 : py_248 (pz_gt (ρ 0)) (pz_gN (ρ 0)) ((ρ 1) / 4) (ρ 2) := (ax_XF_lt (x := 248) (Nat.le_of_ble_eq_true rfl)).mp (ax_gx hE (248, [3, 7, 11]) ax_m2)
  refine ⟨(fun y hy => by cases hy), _, List.mem_cons_self, ρ, fun _ _ => rfl, ax_px hE rfl (fun x hx => ?_)⟩
  cases List.mem_singleton.mp hx
  refine (ax_XF_lt (x := 261) (Nat.le_of_ble_eq_true rfl)).mpr ?_
  show py_261 (ρ 0) (ρ 1) (ρ 2)
  exact pm_t3 F179 F248
theorem axq0_t3_readAll : ax_RO ax_wM0 (ax_XM 0) axu0_t3_readAll := axqg_t3_readAll ax_WW0
theorem axq0_mz9a : ax_RO ax_wM0 (ax_XM 0) axu0_mz9a := by
  intro ρ hp hE hT
  have j0 : ρ 0 % 4 = 1 := pz_gj hE 0 (Nat.le_of_ble_eq_true rfl) rfl
  have j1 : ρ 1 % 4 = 1 := pz_gj hE 1 (Nat.le_of_ble_eq_true rfl) rfl
  obtain ⟨i2a, i2b, i2c, i2d⟩ := pz_gi hE 2 2147483648 2147483648 (Nat.le_of_ble_eq_true rfl) rfl
  have j3 : ρ 3 % 4 = 1 := pz_gj hE 3 (Nat.le_of_ble_eq_true rfl) rfl
  have c_token : ay_at hp 173 15 = some (ρ 2) := ay_gfj hE 702 60 11 173 15 ax_m2 (ax_vlq rfl rfl) (ax_vlj rfl rfl)
  obtain ⟨-, -, -, -, -, F151⟩ : ay_ex hp 173 ∧ ay_ex hp 173 ∧ ay_ex hp 173 ∧ ay_ex hp 173 ∧ ay_ex hp 173 ∧ pz_y151 (ρ 0) (ρ 1) (ay_at hp 173 13) (ay_at hp 173 14) (ay_at hp 173 15) (ay_at hp 173 16) (ay_at hp 173 17) := (ax_XF_lt (x := 151) (Nat.le_of_ble_eq_true rfl)).mp (ax_gx hE (151, [3, 7]) ax_m0)
  rw [c_token] at F151
  have F170 : pz7 (pz_gt (ρ 0)) (pz_gN (ρ 0)) ((ρ 1) / 4) 0 := (ax_XF_lt (x := 170) (Nat.le_of_ble_eq_true rfl)).mp (ax_gx hE (170, [3, 7]) ax_m1)
  have F246 : py_y246 (pz_gt (ρ 0)) (pz_gN (ρ 0)) ((ρ 1) / 4) (5) (ρ 3) := (ax_XF_lt (x := 246) (Nat.le_of_ble_eq_true rfl)).mp (ax_gx hE (246, [3, 7, 5, 15]) ax_m3)
  obtain ⟨-, -, F241⟩ : ay_ex hp 180 ∧ ay_ex hp 182 ∧ py_y241 1 (ρ 3) (ay_at hp 180 1) (ay_at hp 182) := (ax_XF_lt (x := 241) (Nat.le_of_ble_eq_true rfl)).mp (ax_gx hE (241, [15]) ax_m4)
  have ht : ρ 2 / 4 = pz_tok (pz_kd (pz_gt (ρ 0)) (pz_gN (ρ 0)) (pz_p (pz_cf (pz_gt (ρ 0)) (pz_gN (ρ 0)) (ρ 1 / 4)))) := F151.2.2.1
  have hc := pz_tok_c (pz_kd (pz_gt (ρ 0)) (pz_gN (ρ 0)) (pz_p (pz_cf (pz_gt (ρ 0)) (pz_gN (ρ 0)) (ρ 1 / 4))))
  have hk : pz_kd (pz_gt (ρ 0)) (pz_gN (ρ 0)) (pz_p (pz_cf (pz_gt (ρ 0)) (pz_gN (ρ 0)) (ρ 1 / 4))) = 0 := (by rcases hc with h | h | h | h | h <;> omega)
  refine ⟨(fun y hy => by cases hy), _, List.mem_cons_self, ρ, fun _ _ => rfl, ax_px hE rfl (fun x hx => ?_)⟩
  cases List.mem_singleton.mp hx
  refine (ax_XF_lt (x := 262) (Nat.le_of_ble_eq_true rfl)).mpr ?_
  show py_82 (ρ 0) (ρ 3)
  exact pm_82 F170 (by decide) hk F246 F241.1

theorem axq0_mz9b : ax_RO ax_wM0 (ax_XM 0) axu0_mz9b := by
  intro ρ hp hE hT
  have j0 : ρ 0 % 4 = 1 := pz_gj hE 0 (Nat.le_of_ble_eq_true rfl) rfl
  have j1 : ρ 1 % 4 = 1 := pz_gj hE 1 (Nat.le_of_ble_eq_true rfl) rfl
  obtain ⟨i2a, i2b, i2c, i2d⟩ := pz_gi hE 2 2147483648 2147483648 (Nat.le_of_ble_eq_true rfl) rfl
  have j3 : ρ 3 % 4 = 1 := pz_gj hE 3 (Nat.le_of_ble_eq_true rfl) rfl
  have c_token : ay_at hp 173 15 = some (ρ 2) := ay_gfj hE 702 60 11 173 15 ax_m2 (ax_vlq rfl rfl) (ax_vlj rfl rfl)
  obtain ⟨-, -, -, -, -, F151⟩ : ay_ex hp 173 ∧ ay_ex hp 173 ∧ ay_ex hp 173 ∧ ay_ex hp 173 ∧ ay_ex hp 173 ∧ pz_y151 (ρ 0) (ρ 1) (ay_at hp 173 13) (ay_at hp 173 14) (ay_at hp 173 15) (ay_at hp 173 16) (ay_at hp 173 17) := (ax_XF_lt (x := 151) (Nat.le_of_ble_eq_true rfl)).mp (ax_gx hE (151, [3, 7]) ax_m0)
  rw [c_token] at F151
  have F173 : pz7 (pz_gt (ρ 0)) (pz_gN (ρ 0)) ((ρ 1) / 4) 3 := (ax_XF_lt (x := 173) (Nat.le_of_ble_eq_true rfl)).mp (ax_gx hE (173, [3, 7]) ax_m1)
  have F246 : py_y246 (pz_gt (ρ 0)) (pz_gN (ρ 0)) ((ρ 1) / 4) (5) (ρ 3) := (ax_XF_lt (x := 246) (Nat.le_of_ble_eq_true rfl)).mp (ax_gx hE (246, [3, 7, 5, 15]) ax_m3)
  obtain ⟨-, -, F241⟩ : ay_ex hp 180 ∧ ay_ex hp 182 ∧ py_y241 1 (ρ 3) (ay_at hp 180 1) (ay_at hp 182) := (ax_XF_lt (x := 241) (Nat.le_of_ble_eq_true rfl)).mp (ax_gx hE (241, [15]) ax_m4)
  have ht : ρ 2 / 4 = pz_tok (pz_kd (pz_gt (ρ 0)) (pz_gN (ρ 0)) (pz_p (pz_cf (pz_gt (ρ 0)) (pz_gN (ρ 0)) (ρ 1 / 4)))) := F151.2.2.1
  have hc := pz_tok_c (pz_kd (pz_gt (ρ 0)) (pz_gN (ρ 0)) (pz_p (pz_cf (pz_gt (ρ 0)) (pz_gN (ρ 0)) (ρ 1 / 4))))
  have hk : pz_kd (pz_gt (ρ 0)) (pz_gN (ρ 0)) (pz_p (pz_cf (pz_gt (ρ 0)) (pz_gN (ρ 0)) (ρ 1 / 4))) = 0 := (by rcases hc with h | h | h | h | h <;> omega)
  refine ⟨(fun y hy => by cases hy), _, List.mem_cons_self, ρ, fun _ _ => rfl, ax_px hE rfl (fun x hx => ?_)⟩
  cases List.mem_singleton.mp hx
  refine (ax_XF_lt (x := 262) (Nat.le_of_ble_eq_true rfl)).mpr ?_
  show py_82 (ρ 0) (ρ 3)
  exact pm_82 F173 (by decide) hk F246 F241.1

theorem axqg_nt1 {w : ax_W} {b : Nat} (hw : ax_WW w) : ax_RO w (ax_XM b) axu0_nt1 := by
  intro ρ hp hE hT
  have j0 : ρ 0 % 4 = 1 := pz_gj hE 0 (Nat.le_of_ble_eq_true rfl) rfl
  obtain ⟨i1a, i1b, i1c, i1d⟩ := pz_gi hE 1 2147483648 2147484448 (Nat.le_of_ble_eq_true rfl) rfl
  have c_taped : ay_at hp 173 11 = some (ρ 1) := ay_gfj hE 702 44 7 173 11 ax_m1 (ax_vlq rfl rfl) (ax_vlj rfl rfl)
  obtain ⟨-, -, F130⟩ : ay_ex hp 173 ∧ ay_ex hp 183 ∧ pz_x30 (ρ 0) (ay_at hp 173 11) (ay_at hp 183) := (ax_XF_lt (x := 130) (Nat.le_of_ble_eq_true rfl)).mp (ax_gx hE (130, [3]) ax_m0)
  rw [c_taped] at F130
  refine ⟨(fun y hy => by cases hy), _, List.mem_cons_self, ρ, fun _ _ => rfl, ax_px hE rfl (fun x hx => ?_)⟩
  cases List.mem_singleton.mp hx
  refine (ax_XF_wr (x := 131) (Nat.le_of_ble_eq_true rfl)).mpr ?_
  show ay_ex (ax_upd hp 702 (48) (ρ 1)) 173 ∧ ay_ex (ax_upd hp 702 (48) (ρ 1)) 183 ∧ pz_x30 (ρ 0) (ay_at (ax_upd hp 702 (48) (ρ 1)) 173 12) (ay_at (ax_upd hp 702 (48) (ρ 1)) 183)
  obtain ⟨o0, ho0⟩ := ay_some hT (q := 173) (g := 11) (n := 58) (ax_wc hw ax_cg_173) (ax_wn hw ax_cn_11) (j := 48 / 4) (Nat.le_of_ble_eq_true rfl)
  have u1 : ∀ q, q ≠ 173 → ay_at (ax_upd hp 702 48 (ρ 1)) q = ay_at hp q := fun q hq => funext (fun j => ay_upd_ne hT.1 hq j)
  have u2 : ∀ j, ay_at (ax_upd hp 702 48 (ρ 1)) 173 j = if j = 12 then some (ρ 1) else ay_at hp 173 j := fun j => ay_upd_eq hT.1 rfl ho0 j
  refine ⟨ay_ex_upd hT.1 (ax_cellT hT (q := 173) (g := 11) (ax_wc hw ax_cg_173)), ay_ex_upd hT.1 (ax_cellT hT (q := 183) (g := 53) (ax_wc hw ax_cg_183)), ?_⟩
  rw [u2 12, if_pos rfl, u1 183 (Nat.ne_of_beq_eq_false rfl)]
  exact F130
theorem axq0_nt1 : ax_RO ax_wM0 (ax_XM 0) axu0_nt1 := axqg_nt1 ax_WW0
theorem axq0_nt2 : ax_RO ax_wM0 (ax_XM 0) axu0_nt2 := by
  intro ρ hp hE hT
  have j0 : ρ 0 % 4 = 1 := pz_gj hE 0 (Nat.le_of_ble_eq_true rfl) rfl
  have c_ruled : ay_at hp 180 1 = some (0) := ay_gfj hE 730 4 0 180 1 ax_m1 (ax_vlq rfl rfl) (ax_vlj rfl rfl)
  have c_nodes : ay_at hp 175 1 = some (0) := ay_gfj hE 710 4 0 175 1 ax_m2 (ax_vlq rfl rfl) (ax_vlj rfl rfl)
  have c_links : ay_at hp 176 1 = some (0) := ay_gfj hE 714 4 0 176 1 ax_m3 (ax_vlq rfl rfl) (ax_vlj rfl rfl)
  have c_roots : ay_at hp 177 1 = some (0) := ay_gfj hE 718 4 0 177 1 ax_m4 (ax_vlq rfl rfl) (ax_vlj rfl rfl)
  have c_rooms : ay_at hp 178 1 = some (4) := ay_gfj hE 722 4 4 178 1 ax_m5 (ax_vlq rfl rfl) (ax_vlj rfl rfl)
  have c_units : ay_at hp 179 1 = some (0) := ay_gfj hE 726 4 0 179 1 ax_m6 (ax_vlq rfl rfl) (ax_vlj rfl rfl)
  have c_hasRoot : ay_at hp 173 23 = some (0) := ay_gfj hE 702 92 0 173 23 ax_m7 (ax_vlq rfl rfl) (ax_vlj rfl rfl)
  have c_hasRoom : ay_at hp 173 25 = some (0) := ay_gfj hE 702 100 0 173 25 ax_m8 (ax_vlq rfl rfl) (ax_vlj rfl rfl)
  have c_hasRank : ay_at hp 173 24 = some (0) := ay_gfj hE 702 96 0 173 24 ax_m9 (ax_vlq rfl rfl) (ax_vlj rfl rfl)
  have c_found : ay_at hp 173 18 = some (0) := ay_gfj hE 702 72 0 173 18 ax_m10 (ax_vlq rfl rfl) (ax_vlj rfl rfl)
  have c_foundAt : ay_at hp 173 19 = some (17179869180) := ay_gfj hE 702 76 17179869180 173 19 ax_m11 (ax_vlq rfl rfl) (ax_vlj rfl rfl)
  have c_next : ay_at hp 173 13 = some (0) := ay_gfj hE 702 52 0 173 13 ax_m12 (ax_vlq rfl rfl) (ax_vlj rfl rfl)
  obtain ⟨-, -, F131⟩ : ay_ex hp 173 ∧ ay_ex hp 183 ∧ pz_x30 (ρ 0) (ay_at hp 173 12) (ay_at hp 183) := (ax_XF_lt (x := 131) (Nat.le_of_ble_eq_true rfl)).mp (ax_gx hE (131, [3]) ax_m0)
  obtain ⟨ρ', h1, h2⟩ := pz_pn1 (K := 0) (xf := [(153, [3, 7]), (152, [3, 7]), (170, [3, 7]), (246, [3, 7, 5, 5]), (241, [5])]) hE (by decide) (fun ρ' h1 h2 x hx => by
    have q0 : ρ' 0 = ρ 0 := h1 0 (by decide)
    rcases List.mem_cons.mp hx with e | hx
    · subst e
      refine (ax_XF_lt (x := 153) (Nat.le_of_ble_eq_true rfl)).mpr ?_
      show ay_ex hp 173 ∧ pz_at (pz_gt (ρ' 0)) (pz_gN (ρ' 0)) (ay_ln (ay_at hp 173 13)) = pz_at (pz_gt (ρ' 0)) (pz_gN (ρ' 0)) (pz_p (pz_cF (ρ' 0) (ρ' 1)))
      rw [q0, h2]
      refine ⟨(ax_cellT hT (q := 173) (g := 11) ax_cg_173), ?_⟩
      rw [c_next]
      exact pz_l153 (pz_41 _) rfl
    rcases List.mem_cons.mp hx with e | hx
    · subst e
      refine (ax_XF_lt (x := 152) (Nat.le_of_ble_eq_true rfl)).mpr ?_
      show ay_ex hp 175 ∧ ay_ex hp 176 ∧ ay_ex hp 177 ∧ ay_ex hp 178 ∧ ay_ex hp 179 ∧ ay_ex hp 173 ∧ ay_ex hp 173 ∧ ay_ex hp 173 ∧ ay_ex hp 173 ∧ ay_ex hp 173 ∧ ay_ex hp 181 ∧ pz_y152 1 (ρ' 0) (ρ' 1) (ay_at hp 175 1) (ay_at hp 176 1) (ay_at hp 177 1) (ay_at hp 178 1) (ay_at hp 179 1) (ay_at hp 173 23) (ay_at hp 173 25) (ay_at hp 173 24) (ay_at hp 173 18) (ay_at hp 173 19) (ay_at hp 181)
      rw [q0, h2]
      refine ⟨(ax_cellT hT (q := 175) (g := 45) ax_cg_175), (ax_cellT hT (q := 176) (g := 46) ax_cg_176), (ax_cellT hT (q := 177) (g := 47) ax_cg_177), (ax_cellT hT (q := 178) (g := 48) ax_cg_178), (ax_cellT hT (q := 179) (g := 49) ax_cg_179), (ax_cellT hT (q := 173) (g := 11) ax_cg_173), (ax_cellT hT (q := 173) (g := 11) ax_cg_173), (ax_cellT hT (q := 173) (g := 11) ax_cg_173), (ax_cellT hT (q := 173) (g := 11) ax_cg_173), (ax_cellT hT (q := 173) (g := 11) ax_cg_173), (ax_cellT hT (q := 181) (g := 51) ax_cg_181), ?_⟩
      rw [c_nodes]
      rw [c_links]
      rw [c_roots]
      rw [c_rooms]
      rw [c_units]
      rw [c_hasRoot]
      rw [c_hasRoom]
      rw [c_hasRank]
      rw [c_found]
      rw [c_foundAt]
      exact pz_l152 (pz_41 _) pq_rt1.1.2
    rcases List.mem_cons.mp hx with e | hx
    · subst e
      refine (ax_XF_lt (x := 170) (Nat.le_of_ble_eq_true rfl)).mpr ?_
      show pz7 (pz_gt (ρ' 0)) (pz_gN (ρ' 0)) ((ρ' 1) / 4) 0
      rw [q0, h2]
      rw [pz_41]
      exact rfl
    rcases List.mem_cons.mp hx with e | hx
    · subst e
      refine (ax_XF_lt (x := 246) (Nat.le_of_ble_eq_true rfl)).mpr ?_
      show py_y246 (pz_gt (ρ' 0)) (pz_gN (ρ' 0)) ((ρ' 1) / 4) (5) (5)
      rw [q0, h2]
      rw [pz_41]
      exact rfl
    cases List.mem_singleton.mp hx
    refine (ax_XF_lt (x := 241) (Nat.le_of_ble_eq_true rfl)).mpr ?_
    show ay_ex hp 180 ∧ ay_ex hp 182 ∧ py_y241 1 (5) (ay_at hp 180 1) (ay_at hp 182)
    refine ⟨(ax_cellT hT (q := 180) (g := 50) ax_cg_180), (ax_cellT hT (q := 182) (g := 52) ax_cg_182), ?_⟩
    rw [c_ruled]
    exact pm_241_0 rfl)
  exact ⟨(fun y hy => by cases hy), _, List.mem_cons_self, ρ', h1, h2⟩

theorem axqg_nt3 {w : ax_W} {b : Nat} (hw : ax_WW w) : ax_RO w (ax_XM b) axu0_nt3 := by
  intro ρ hp hE hT
  have j0 : ρ 0 % 4 = 1 := pz_gj hE 0 (Nat.le_of_ble_eq_true rfl) rfl
  obtain ⟨i1a, i1b, i1c, i1d⟩ := pz_gi hE 1 0 4294967295 (Nat.le_of_ble_eq_true rfl) rfl
  obtain ⟨i2a, i2b, i2c, i2d⟩ := pz_gi hE 2 0 4294967295 (Nat.le_of_ble_eq_true rfl) rfl
  have c_found : ay_at hp 173 18 = some (ρ 1) := ay_gfj hE 702 72 7 173 18 ax_m1 (ax_vlq rfl rfl) (ax_vlj rfl rfl)
  have c_foundAt : ay_at hp 173 19 = some (ρ 2) := ay_gfj hE 702 76 11 173 19 ax_m2 (ax_vlq rfl rfl) (ax_vlj rfl rfl)
  have c_fault : ay_at hp 173 20 = some (ρ 1) := ay_gfj hE 702 80 7 173 20 ax_m3 (ax_vlq rfl rfl) (ax_vlj rfl rfl)
  obtain ⟨-, -, F163⟩ : ay_ex hp 173 ∧ ay_ex hp 173 ∧ pz63 (pz_gt (ρ 0)) (pz_gN (ρ 0)) (ay_ln (ay_at hp 173 18)) (ay_ln (ay_at hp 173 19)) := (ax_XF_lt (x := 163) (Nat.le_of_ble_eq_true rfl)).mp (ax_gx hE (163, [3]) ax_m0)
  rw [c_found] at F163
  rw [c_foundAt] at F163
  refine ⟨(fun y hy => by cases hy), _, List.mem_cons_self, ρ, fun _ _ => rfl, ax_px hE rfl (fun x hx => ?_)⟩
  cases List.mem_singleton.mp hx
  refine (ax_XF_wr (x := 228) (Nat.le_of_ble_eq_true rfl)).mpr ?_
  show ay_ex (ax_upd hp 702 (84) (ρ 2)) 173 ∧ ay_ex (ax_upd hp 702 (84) (ρ 2)) 173 ∧ pz63 (pz_gt (ρ 0)) (pz_gN (ρ 0)) (ay_ln (ay_at (ax_upd hp 702 (84) (ρ 2)) 173 20)) (ay_ln (ay_at (ax_upd hp 702 (84) (ρ 2)) 173 21))
  obtain ⟨o0, ho0⟩ := ay_some hT (q := 173) (g := 11) (n := 58) (ax_wc hw ax_cg_173) (ax_wn hw ax_cn_11) (j := 84 / 4) (Nat.le_of_ble_eq_true rfl)
  have u1 : ∀ q, q ≠ 173 → ay_at (ax_upd hp 702 84 (ρ 2)) q = ay_at hp q := fun q hq => funext (fun j => ay_upd_ne hT.1 hq j)
  have u2 : ∀ j, ay_at (ax_upd hp 702 84 (ρ 2)) 173 j = if j = 21 then some (ρ 2) else ay_at hp 173 j := fun j => ay_upd_eq hT.1 rfl ho0 j
  refine ⟨ay_ex_upd hT.1 (ax_cellT hT (q := 173) (g := 11) (ax_wc hw ax_cg_173)), ay_ex_upd hT.1 (ax_cellT hT (q := 173) (g := 11) (ax_wc hw ax_cg_173)), ?_⟩
  rw [u2 20, if_neg (show ¬ 20 = 21 from Nat.ne_of_beq_eq_false rfl), u2 21, if_pos rfl]
  rw [c_fault]
  exact F163
theorem axq0_nt3 : ax_RO ax_wM0 (ax_XM 0) axu0_nt3 := axqg_nt3 ax_WW0
theorem axq0_nt4 : ax_RO ax_wM0 (ax_XM 0) axu0_nt4 := by
  intro ρ hp hE hT
  have j0 : ρ 0 % 4 = 1 := pz_gj hE 0 (Nat.le_of_ble_eq_true rfl) rfl
  obtain ⟨i1a, i1b, i1c, i1d⟩ := pz_gi hE 1 0 4294967295 (Nat.le_of_ble_eq_true rfl) rfl
  obtain ⟨i2a, i2b, i2c, i2d⟩ := pz_gi hE 2 0 4294967295 (Nat.le_of_ble_eq_true rfl) rfl
  have c_found : ay_at hp 173 18 = some (ρ 1) := ay_gfj hE 702 72 7 173 18 ax_m1 (ax_vlq rfl rfl) (ax_vlj rfl rfl)
  have c_foundAt : ay_at hp 173 19 = some (ρ 2) := ay_gfj hE 702 76 11 173 19 ax_m2 (ax_vlq rfl rfl) (ax_vlj rfl rfl)
  have c_fault : ay_at hp 173 20 = some (ρ 1) := ay_gfj hE 702 80 7 173 20 ax_m3 (ax_vlq rfl rfl) (ax_vlj rfl rfl)
  obtain ⟨-, -, -, -, -, -, -, -, -, -, -, F210⟩ : ay_ex hp 175 ∧ ay_ex hp 176 ∧ ay_ex hp 177 ∧ ay_ex hp 178 ∧ ay_ex hp 179 ∧ ay_ex hp 173 ∧ ay_ex hp 173 ∧ ay_ex hp 173 ∧ ay_ex hp 173 ∧ ay_ex hp 173 ∧ ay_ex hp 181 ∧ pz110 (pz_gt (ρ 0)) (pz_gN (ρ 0)) (ay_ln (ay_at hp 175 1)) (ay_ln (ay_at hp 176 1)) (ay_ln (ay_at hp 177 1)) (ay_ln (ay_at hp 178 1)) (ay_ln (ay_at hp 179 1)) (ay_ln (ay_at hp 173 23)) (ay_ln (ay_at hp 173 25)) (ay_ln (ay_at hp 173 24)) (ay_ln (ay_at hp 173 18)) (ay_ln (ay_at hp 173 19)) (pz_be 1 (ay_at hp 181)) (pz_fi 1 (ay_at hp 181)) := (ax_XF_lt (x := 210) (Nat.le_of_ble_eq_true rfl)).mp (ax_gx hE (210, [3]) ax_m0)
  rw [c_found] at F210
  rw [c_foundAt] at F210
  refine ⟨(fun y hy => by cases hy), _, List.mem_cons_self, ρ, fun _ _ => rfl, ax_px hE rfl (fun x hx => ?_)⟩
  cases List.mem_singleton.mp hx
  refine (ax_XF_wr (x := 227) (Nat.le_of_ble_eq_true rfl)).mpr ?_
  show ay_ex (ax_upd hp 702 (84) (ρ 2)) 173 ∧ ay_ex (ax_upd hp 702 (84) (ρ 2)) 173 ∧ (ay_ln (ay_at (ax_upd hp 702 (84) (ρ 2)) 173 20) = 0 ∧ ay_ln (ay_at (ax_upd hp 702 (84) (ρ 2)) 173 21) = 4294967295)
  obtain ⟨o0, ho0⟩ := ay_some hT (q := 173) (g := 11) (n := 58) ax_cg_173 ax_cn_11 (j := 84 / 4) (Nat.le_of_ble_eq_true rfl)
  have u1 : ∀ q, q ≠ 173 → ay_at (ax_upd hp 702 84 (ρ 2)) q = ay_at hp q := fun q hq => funext (fun j => ay_upd_ne hT.1 hq j)
  have u2 : ∀ j, ay_at (ax_upd hp 702 84 (ρ 2)) 173 j = if j = 21 then some (ρ 2) else ay_at hp 173 j := fun j => ay_upd_eq hT.1 rfl ho0 j
  refine ⟨ay_ex_upd hT.1 (ax_cellT hT (q := 173) (g := 11) ax_cg_173), ay_ex_upd hT.1 (ax_cellT hT (q := 173) (g := 11) ax_cg_173), ?_⟩
  rw [u2 20, if_neg (show ¬ 20 = 21 from Nat.ne_of_beq_eq_false rfl), u2 21, if_pos rfl]
  rw [c_fault]
  obtain ⟨m, hm, hd⟩ := F210
  exact ⟨hd.2.2.2.2.2.2.2.2.1, hd.2.2.2.2.2.2.2.2.2.1⟩

theorem axqg_sc1 {w : ax_W} {b : Nat} (hw : ax_WW w) : ax_RO w (ax_XM b) axu0_sc1 := by
  intro ρ hp hE hT
  have j0 : ρ 0 % 4 = 1 := pz_gj hE 0 (Nat.le_of_ble_eq_true rfl) rfl
  have j1 : ρ 1 % 4 = 1 := pz_gj hE 1 (Nat.le_of_ble_eq_true rfl) rfl
  obtain ⟨i2a, i2b, i2c, i2d⟩ := pz_gi hE 2 2147483648 2147484448 (Nat.le_of_ble_eq_true rfl) rfl
  have c_next : ay_at hp 173 13 = some (ρ 2) := ay_gfj hE 702 52 11 173 13 ax_m1 (ax_vlq rfl rfl) (ax_vlj rfl rfl)
  obtain ⟨-, F153⟩ : ay_ex hp 173 ∧ pz_at (pz_gt (ρ 0)) (pz_gN (ρ 0)) (ay_ln (ay_at hp 173 13)) = pz_at (pz_gt (ρ 0)) (pz_gN (ρ 0)) (pz_p (pz_cF (ρ 0) (ρ 1))) := (ax_XF_lt (x := 153) (Nat.le_of_ble_eq_true rfl)).mp (ax_gx hE (153, [3, 7]) ax_m0)
  rw [c_next] at F153
  refine ⟨(fun y hy => by cases hy), _, List.mem_cons_self, ρ, fun _ _ => rfl, ax_px hE rfl (fun x hx => ?_)⟩
  cases List.mem_singleton.mp hx
  refine (ax_XF_wr (x := 157) (Nat.le_of_ble_eq_true rfl)).mpr ?_
  show ay_ex (ax_upd hp 702 (56) (ρ 2)) 173 ∧ pz_at (pz_gt (ρ 0)) (pz_gN (ρ 0)) (ay_ln (ay_at (ax_upd hp 702 (56) (ρ 2)) 173 14)) = pz_at (pz_gt (ρ 0)) (pz_gN (ρ 0)) (pz_p (pz_cF (ρ 0) (ρ 1)))
  obtain ⟨o0, ho0⟩ := ay_some hT (q := 173) (g := 11) (n := 58) (ax_wc hw ax_cg_173) (ax_wn hw ax_cn_11) (j := 56 / 4) (Nat.le_of_ble_eq_true rfl)
  have u1 : ∀ q, q ≠ 173 → ay_at (ax_upd hp 702 56 (ρ 2)) q = ay_at hp q := fun q hq => funext (fun j => ay_upd_ne hT.1 hq j)
  have u2 : ∀ j, ay_at (ax_upd hp 702 56 (ρ 2)) 173 j = if j = 14 then some (ρ 2) else ay_at hp 173 j := fun j => ay_upd_eq hT.1 rfl ho0 j
  refine ⟨ay_ex_upd hT.1 (ax_cellT hT (q := 173) (g := 11) (ax_wc hw ax_cg_173)), ?_⟩
  rw [u2 14, if_pos rfl]
  exact F153
theorem axq0_sc1 : ax_RO ax_wM0 (ax_XM 0) axu0_sc1 := axqg_sc1 ax_WW0
theorem axqg_sc2_32 {w : ax_W} {b : Nat} (hw : ax_WW w) : ax_RO w (ax_XM b) axu0_sc2_32 := by
  intro ρ hp hE hT
  have j0 : ρ 0 % 4 = 1 := pz_gj hE 0 (Nat.le_of_ble_eq_true rfl) rfl
  have j1 : ρ 1 % 4 = 1 := pz_gj hE 1 (Nat.le_of_ble_eq_true rfl) rfl
  obtain ⟨i2a, i2b, i2c, i2d⟩ := pz_gi hE 2 2147483648 2147484448 (Nat.le_of_ble_eq_true rfl) rfl
  obtain ⟨i3a, i3b, i3c, i3d⟩ := pz_gi hE 3 0 4294967295 (Nat.le_of_ble_eq_true rfl) rfl
  obtain ⟨i4a, i4b, i4c, i4d⟩ := pz_gi hE 4 2147483648 2147484448 (Nat.le_of_ble_eq_true rfl) rfl
  obtain ⟨i5a, i5b, i5c, i5d⟩ := pz_gi hE 5 2147483680 2147483680 (Nat.le_of_ble_eq_true rfl) rfl
  have c_at : ay_at hp 173 14 = some (ρ 2) := ay_gfj hE 702 56 11 173 14 ax_m2 (ax_vlq rfl rfl) (ax_vlj rfl rfl)
  have c_size : ay_at hp 173 12 = some (ρ 4) := ay_gfj hE 702 48 19 173 12 ax_m3 (ax_vlq rfl rfl) (ax_vlj rfl rfl)
  have c_tape : ay_at hp 183 (ρ 2 / 4) = some (ρ 5) := ay_gf hE 742 11 23 183 ax_m4 (ax_vlq rfl rfl)
  have r1 : (ρ 2 / 4 + 2147483648) % 4294967296 < (ρ 4 / 4 + 2147483648) % 4294967296 := pz_gc hE 2 11 19 (Nat.le_of_ble_eq_true rfl) ax_m5
  have s1 : (ρ 2 / 4 + 2147483648) % 4294967296 + (4 / 4 + 2147483648) % 4294967296 = (ρ 3 / 4 + 2147483648) % 4294967296 + 2147483648 := pz_gs hE 11 4 15 ax_m6
  obtain ⟨-, -, F131⟩ : ay_ex hp 173 ∧ ay_ex hp 183 ∧ pz_x30 (ρ 0) (ay_at hp 173 12) (ay_at hp 183) := (ax_XF_lt (x := 131) (Nat.le_of_ble_eq_true rfl)).mp (ax_gx hE (131, [3]) ax_m0)
  rw [c_size] at F131
  obtain ⟨-, F157⟩ : ay_ex hp 173 ∧ pz_at (pz_gt (ρ 0)) (pz_gN (ρ 0)) (ay_ln (ay_at hp 173 14)) = pz_at (pz_gt (ρ 0)) (pz_gN (ρ 0)) (pz_p (pz_cF (ρ 0) (ρ 1))) := (ax_XF_lt (x := 157) (Nat.le_of_ble_eq_true rfl)).mp (ax_gx hE (157, [3, 7]) ax_m1)
  rw [c_at] at F157
  have hb : ρ 2 / 4 < pz_gN (ρ 0) → pz_b (pz_gt (ρ 0)) (ρ 2 / 4) = ρ 5 / 4 := fun hl => by
    have e := F131.2.2 (ρ 2 / 4) hl
    rw [c_tape] at e
    have e := Option.some.inj e
    omega
  have hN : ρ 4 / 4 = pz_gN (ρ 0) := F131.1
  have hlt : ρ 2 / 4 < pz_gN (ρ 0) := by omega
  refine ⟨(fun y hy => by cases hy), _, List.mem_cons_self, ρ, fun _ _ => rfl, ax_px hE rfl (fun x hx => ?_)⟩
  cases List.mem_singleton.mp hx
  refine (ax_XF_wr (x := 157) (Nat.le_of_ble_eq_true rfl)).mpr ?_
  show ay_ex (ax_upd hp 702 (56) (ρ 3)) 173 ∧ pz_at (pz_gt (ρ 0)) (pz_gN (ρ 0)) (ay_ln (ay_at (ax_upd hp 702 (56) (ρ 3)) 173 14)) = pz_at (pz_gt (ρ 0)) (pz_gN (ρ 0)) (pz_p (pz_cF (ρ 0) (ρ 1)))
  obtain ⟨o0, ho0⟩ := ay_some hT (q := 173) (g := 11) (n := 58) (ax_wc hw ax_cg_173) (ax_wn hw ax_cn_11) (j := 56 / 4) (Nat.le_of_ble_eq_true rfl)
  have u1 : ∀ q, q ≠ 173 → ay_at (ax_upd hp 702 56 (ρ 3)) q = ay_at hp q := fun q hq => funext (fun j => ay_upd_ne hT.1 hq j)
  have u2 : ∀ j, ay_at (ax_upd hp 702 56 (ρ 3)) 173 j = if j = 14 then some (ρ 3) else ay_at hp 173 j := fun j => ay_upd_eq hT.1 rfl ho0 j
  refine ⟨ay_ex_upd hT.1 (ax_cellT hT (q := 173) (g := 11) (ax_wc hw ax_cg_173)), ?_⟩
  rw [u2 14, if_pos rfl]
  show pz_at (pz_gt (ρ 0)) (pz_gN (ρ 0)) (ρ 3 / 4) = _
  rw [show ρ 3 / 4 = ρ 2 / 4 + 1 by omega, ← F157]
  exact (pz_e_on hlt (by rw [hb hlt, show ρ 5 / 4 = 32 by omega]; rfl)).symm
theorem axq0_sc2_32 : ax_RO ax_wM0 (ax_XM 0) axu0_sc2_32 := axqg_sc2_32 ax_WW0
theorem axqg_sc2_10 {w : ax_W} {b : Nat} (hw : ax_WW w) : ax_RO w (ax_XM b) axu0_sc2_10 := by
  intro ρ hp hE hT
  have j0 : ρ 0 % 4 = 1 := pz_gj hE 0 (Nat.le_of_ble_eq_true rfl) rfl
  have j1 : ρ 1 % 4 = 1 := pz_gj hE 1 (Nat.le_of_ble_eq_true rfl) rfl
  obtain ⟨i2a, i2b, i2c, i2d⟩ := pz_gi hE 2 2147483648 2147484448 (Nat.le_of_ble_eq_true rfl) rfl
  obtain ⟨i3a, i3b, i3c, i3d⟩ := pz_gi hE 3 0 4294967295 (Nat.le_of_ble_eq_true rfl) rfl
  obtain ⟨i4a, i4b, i4c, i4d⟩ := pz_gi hE 4 2147483648 2147484448 (Nat.le_of_ble_eq_true rfl) rfl
  obtain ⟨i5a, i5b, i5c, i5d⟩ := pz_gi hE 5 2147483658 2147483658 (Nat.le_of_ble_eq_true rfl) rfl
  have c_at : ay_at hp 173 14 = some (ρ 2) := ay_gfj hE 702 56 11 173 14 ax_m2 (ax_vlq rfl rfl) (ax_vlj rfl rfl)
  have c_size : ay_at hp 173 12 = some (ρ 4) := ay_gfj hE 702 48 19 173 12 ax_m3 (ax_vlq rfl rfl) (ax_vlj rfl rfl)
  have c_tape : ay_at hp 183 (ρ 2 / 4) = some (ρ 5) := ay_gf hE 742 11 23 183 ax_m4 (ax_vlq rfl rfl)
  have r1 : (ρ 2 / 4 + 2147483648) % 4294967296 < (ρ 4 / 4 + 2147483648) % 4294967296 := pz_gc hE 2 11 19 (Nat.le_of_ble_eq_true rfl) ax_m5
  have s1 : (ρ 2 / 4 + 2147483648) % 4294967296 + (4 / 4 + 2147483648) % 4294967296 = (ρ 3 / 4 + 2147483648) % 4294967296 + 2147483648 := pz_gs hE 11 4 15 ax_m6
  obtain ⟨-, -, F131⟩ : ay_ex hp 173 ∧ ay_ex hp 183 ∧ pz_x30 (ρ 0) (ay_at hp 173 12) (ay_at hp 183) := (ax_XF_lt (x := 131) (Nat.le_of_ble_eq_true rfl)).mp (ax_gx hE (131, [3]) ax_m0)
  rw [c_size] at F131
  obtain ⟨-, F157⟩ : ay_ex hp 173 ∧ pz_at (pz_gt (ρ 0)) (pz_gN (ρ 0)) (ay_ln (ay_at hp 173 14)) = pz_at (pz_gt (ρ 0)) (pz_gN (ρ 0)) (pz_p (pz_cF (ρ 0) (ρ 1))) := (ax_XF_lt (x := 157) (Nat.le_of_ble_eq_true rfl)).mp (ax_gx hE (157, [3, 7]) ax_m1)
  rw [c_at] at F157
  have hb : ρ 2 / 4 < pz_gN (ρ 0) → pz_b (pz_gt (ρ 0)) (ρ 2 / 4) = ρ 5 / 4 := fun hl => by
    have e := F131.2.2 (ρ 2 / 4) hl
    rw [c_tape] at e
    have e := Option.some.inj e
    omega
  have hN : ρ 4 / 4 = pz_gN (ρ 0) := F131.1
  have hlt : ρ 2 / 4 < pz_gN (ρ 0) := by omega
  refine ⟨(fun y hy => by cases hy), _, List.mem_cons_self, ρ, fun _ _ => rfl, ax_px hE rfl (fun x hx => ?_)⟩
  cases List.mem_singleton.mp hx
  refine (ax_XF_wr (x := 157) (Nat.le_of_ble_eq_true rfl)).mpr ?_
  show ay_ex (ax_upd hp 702 (56) (ρ 3)) 173 ∧ pz_at (pz_gt (ρ 0)) (pz_gN (ρ 0)) (ay_ln (ay_at (ax_upd hp 702 (56) (ρ 3)) 173 14)) = pz_at (pz_gt (ρ 0)) (pz_gN (ρ 0)) (pz_p (pz_cF (ρ 0) (ρ 1)))
  obtain ⟨o0, ho0⟩ := ay_some hT (q := 173) (g := 11) (n := 58) (ax_wc hw ax_cg_173) (ax_wn hw ax_cn_11) (j := 56 / 4) (Nat.le_of_ble_eq_true rfl)
  have u1 : ∀ q, q ≠ 173 → ay_at (ax_upd hp 702 56 (ρ 3)) q = ay_at hp q := fun q hq => funext (fun j => ay_upd_ne hT.1 hq j)
  have u2 : ∀ j, ay_at (ax_upd hp 702 56 (ρ 3)) 173 j = if j = 14 then some (ρ 3) else ay_at hp 173 j := fun j => ay_upd_eq hT.1 rfl ho0 j
  refine ⟨ay_ex_upd hT.1 (ax_cellT hT (q := 173) (g := 11) (ax_wc hw ax_cg_173)), ?_⟩
  rw [u2 14, if_pos rfl]
  show pz_at (pz_gt (ρ 0)) (pz_gN (ρ 0)) (ρ 3 / 4) = _
  rw [show ρ 3 / 4 = ρ 2 / 4 + 1 by omega, ← F157]
  exact (pz_e_on hlt (by rw [hb hlt, show ρ 5 / 4 = 10 by omega]; rfl)).symm
theorem axq0_sc2_10 : ax_RO ax_wM0 (ax_XM 0) axu0_sc2_10 := axqg_sc2_10 ax_WW0
theorem axqg_sc3_e {w : ax_W} {b : Nat} (hw : ax_WW w) : ax_RO w (ax_XM b) axu0_sc3_e := by
  intro ρ hp hE hT
  have j0 : ρ 0 % 4 = 1 := pz_gj hE 0 (Nat.le_of_ble_eq_true rfl) rfl
  have j1 : ρ 1 % 4 = 1 := pz_gj hE 1 (Nat.le_of_ble_eq_true rfl) rfl
  obtain ⟨i2a, i2b, i2c, i2d⟩ := pz_gi hE 2 2147483648 2147484448 (Nat.le_of_ble_eq_true rfl) rfl
  obtain ⟨i3a, i3b, i3c, i3d⟩ := pz_gi hE 3 2147483648 2147484448 (Nat.le_of_ble_eq_true rfl) rfl
  have c_at : ay_at hp 173 14 = some (ρ 2) := ay_gfj hE 702 56 11 173 14 ax_m2 (ax_vlq rfl rfl) (ax_vlj rfl rfl)
  have c_size : ay_at hp 173 12 = some (ρ 3) := ay_gfj hE 702 48 15 173 12 ax_m3 (ax_vlq rfl rfl) (ax_vlj rfl rfl)
  have r1 : (ρ 3 / 4 + 2147483648) % 4294967296 ≤ (ρ 2 / 4 + 2147483648) % 4294967296 := pz_gc hE 3 11 15 (Nat.le_of_ble_eq_true rfl) ax_m4
  obtain ⟨-, -, F131⟩ : ay_ex hp 173 ∧ ay_ex hp 183 ∧ pz_x30 (ρ 0) (ay_at hp 173 12) (ay_at hp 183) := (ax_XF_lt (x := 131) (Nat.le_of_ble_eq_true rfl)).mp (ax_gx hE (131, [3]) ax_m0)
  rw [c_size] at F131
  obtain ⟨-, F157⟩ : ay_ex hp 173 ∧ pz_at (pz_gt (ρ 0)) (pz_gN (ρ 0)) (ay_ln (ay_at hp 173 14)) = pz_at (pz_gt (ρ 0)) (pz_gN (ρ 0)) (pz_p (pz_cF (ρ 0) (ρ 1))) := (ax_XF_lt (x := 157) (Nat.le_of_ble_eq_true rfl)).mp (ax_gx hE (157, [3, 7]) ax_m1)
  rw [c_at] at F157
  have hN : ρ 3 / 4 = pz_gN (ρ 0) := F131.1
  have e : pz_at (pz_gt (ρ 0)) (pz_gN (ρ 0)) (ρ 2 / 4) = ρ 2 / 4 := pz_e_off (Or.inl (by omega))
  refine ⟨(fun y hy => by cases hy), _, List.mem_cons_self, ρ, fun _ _ => rfl, ax_px hE rfl (fun x hx => ?_)⟩
  cases List.mem_singleton.mp hx
  refine (ax_XF_lt (x := 154) (Nat.le_of_ble_eq_true rfl)).mpr ?_
  show ay_ex hp 173 ∧ ay_ln (ay_at hp 173 14) = pz_at (pz_gt (ρ 0)) (pz_gN (ρ 0)) (pz_p (pz_cF (ρ 0) (ρ 1)))
  refine ⟨(ax_cellT hT (q := 173) (g := 11) (ax_wc hw ax_cg_173)), ?_⟩
  rw [c_at]
  exact e.symm.trans F157
theorem axq0_sc3_e : ax_RO ax_wM0 (ax_XM 0) axu0_sc3_e := axqg_sc3_e ax_WW0
theorem axqg_sc3_a {w : ax_W} {b : Nat} (hw : ax_WW w) : ax_RO w (ax_XM b) axu0_sc3_a := by
  intro ρ hp hE hT
  have j0 : ρ 0 % 4 = 1 := pz_gj hE 0 (Nat.le_of_ble_eq_true rfl) rfl
  have j1 : ρ 1 % 4 = 1 := pz_gj hE 1 (Nat.le_of_ble_eq_true rfl) rfl
  obtain ⟨i2a, i2b, i2c, i2d⟩ := pz_gi hE 2 2147483648 2147484448 (Nat.le_of_ble_eq_true rfl) rfl
  obtain ⟨i3a, i3b, i3c, i3d⟩ := pz_gi hE 3 2147483520 2147483657 (Nat.le_of_ble_eq_true rfl) rfl
  have c_at : ay_at hp 173 14 = some (ρ 2) := ay_gfj hE 702 56 11 173 14 ax_m2 (ax_vlq rfl rfl) (ax_vlj rfl rfl)
  have c_tape : ay_at hp 183 (ρ 2 / 4) = some (ρ 3) := ay_gf hE 742 11 15 183 ax_m3 (ax_vlq rfl rfl)
  obtain ⟨-, -, F131⟩ : ay_ex hp 173 ∧ ay_ex hp 183 ∧ pz_x30 (ρ 0) (ay_at hp 173 12) (ay_at hp 183) := (ax_XF_lt (x := 131) (Nat.le_of_ble_eq_true rfl)).mp (ax_gx hE (131, [3]) ax_m0)
  obtain ⟨-, F157⟩ : ay_ex hp 173 ∧ pz_at (pz_gt (ρ 0)) (pz_gN (ρ 0)) (ay_ln (ay_at hp 173 14)) = pz_at (pz_gt (ρ 0)) (pz_gN (ρ 0)) (pz_p (pz_cF (ρ 0) (ρ 1))) := (ax_XF_lt (x := 157) (Nat.le_of_ble_eq_true rfl)).mp (ax_gx hE (157, [3, 7]) ax_m1)
  rw [c_at] at F157
  have hb : ρ 2 / 4 < pz_gN (ρ 0) → pz_b (pz_gt (ρ 0)) (ρ 2 / 4) = ρ 3 / 4 := fun hl => by
    have e := F131.2.2 (ρ 2 / 4) hl
    rw [c_tape] at e
    have e := Option.some.inj e
    omega
  have e : pz_at (pz_gt (ρ 0)) (pz_gN (ρ 0)) (ρ 2 / 4) = ρ 2 / 4 := pz_e_off (by
    by_cases hl : ρ 2 / 4 < pz_gN (ρ 0)
    · exact Or.inr (by rw [hb hl]; exact pz_bl_no (by omega) (by omega))
    · exact Or.inl (by omega))
  refine ⟨(fun y hy => by cases hy), _, List.mem_cons_self, ρ, fun _ _ => rfl, ax_px hE rfl (fun x hx => ?_)⟩
  cases List.mem_singleton.mp hx
  refine (ax_XF_lt (x := 154) (Nat.le_of_ble_eq_true rfl)).mpr ?_
  show ay_ex hp 173 ∧ ay_ln (ay_at hp 173 14) = pz_at (pz_gt (ρ 0)) (pz_gN (ρ 0)) (pz_p (pz_cF (ρ 0) (ρ 1)))
  refine ⟨(ax_cellT hT (q := 173) (g := 11) (ax_wc hw ax_cg_173)), ?_⟩
  rw [c_at]
  exact e.symm.trans F157
theorem axq0_sc3_a : ax_RO ax_wM0 (ax_XM 0) axu0_sc3_a := axqg_sc3_a ax_WW0
theorem axqg_sc3_b {w : ax_W} {b : Nat} (hw : ax_WW w) : ax_RO w (ax_XM b) axu0_sc3_b := by
  intro ρ hp hE hT
  have j0 : ρ 0 % 4 = 1 := pz_gj hE 0 (Nat.le_of_ble_eq_true rfl) rfl
  have j1 : ρ 1 % 4 = 1 := pz_gj hE 1 (Nat.le_of_ble_eq_true rfl) rfl
  obtain ⟨i2a, i2b, i2c, i2d⟩ := pz_gi hE 2 2147483648 2147484448 (Nat.le_of_ble_eq_true rfl) rfl
  obtain ⟨i3a, i3b, i3c, i3d⟩ := pz_gi hE 3 2147483659 2147483679 (Nat.le_of_ble_eq_true rfl) rfl
  have c_at : ay_at hp 173 14 = some (ρ 2) := ay_gfj hE 702 56 11 173 14 ax_m2 (ax_vlq rfl rfl) (ax_vlj rfl rfl)
  have c_tape : ay_at hp 183 (ρ 2 / 4) = some (ρ 3) := ay_gf hE 742 11 15 183 ax_m3 (ax_vlq rfl rfl)
  obtain ⟨-, -, F131⟩ : ay_ex hp 173 ∧ ay_ex hp 183 ∧ pz_x30 (ρ 0) (ay_at hp 173 12) (ay_at hp 183) := (ax_XF_lt (x := 131) (Nat.le_of_ble_eq_true rfl)).mp (ax_gx hE (131, [3]) ax_m0)
  obtain ⟨-, F157⟩ : ay_ex hp 173 ∧ pz_at (pz_gt (ρ 0)) (pz_gN (ρ 0)) (ay_ln (ay_at hp 173 14)) = pz_at (pz_gt (ρ 0)) (pz_gN (ρ 0)) (pz_p (pz_cF (ρ 0) (ρ 1))) := (ax_XF_lt (x := 157) (Nat.le_of_ble_eq_true rfl)).mp (ax_gx hE (157, [3, 7]) ax_m1)
  rw [c_at] at F157
  have hb : ρ 2 / 4 < pz_gN (ρ 0) → pz_b (pz_gt (ρ 0)) (ρ 2 / 4) = ρ 3 / 4 := fun hl => by
    have e := F131.2.2 (ρ 2 / 4) hl
    rw [c_tape] at e
    have e := Option.some.inj e
    omega
  have e : pz_at (pz_gt (ρ 0)) (pz_gN (ρ 0)) (ρ 2 / 4) = ρ 2 / 4 := pz_e_off (by
    by_cases hl : ρ 2 / 4 < pz_gN (ρ 0)
    · exact Or.inr (by rw [hb hl]; exact pz_bl_no (by omega) (by omega))
    · exact Or.inl (by omega))
  refine ⟨(fun y hy => by cases hy), _, List.mem_cons_self, ρ, fun _ _ => rfl, ax_px hE rfl (fun x hx => ?_)⟩
  cases List.mem_singleton.mp hx
  refine (ax_XF_lt (x := 154) (Nat.le_of_ble_eq_true rfl)).mpr ?_
  show ay_ex hp 173 ∧ ay_ln (ay_at hp 173 14) = pz_at (pz_gt (ρ 0)) (pz_gN (ρ 0)) (pz_p (pz_cF (ρ 0) (ρ 1)))
  refine ⟨(ax_cellT hT (q := 173) (g := 11) (ax_wc hw ax_cg_173)), ?_⟩
  rw [c_at]
  exact e.symm.trans F157
theorem axq0_sc3_b : ax_RO ax_wM0 (ax_XM 0) axu0_sc3_b := axqg_sc3_b ax_WW0
theorem axqg_sc3_c {w : ax_W} {b : Nat} (hw : ax_WW w) : ax_RO w (ax_XM b) axu0_sc3_c := by
  intro ρ hp hE hT
  have j0 : ρ 0 % 4 = 1 := pz_gj hE 0 (Nat.le_of_ble_eq_true rfl) rfl
  have j1 : ρ 1 % 4 = 1 := pz_gj hE 1 (Nat.le_of_ble_eq_true rfl) rfl
  obtain ⟨i2a, i2b, i2c, i2d⟩ := pz_gi hE 2 2147483648 2147484448 (Nat.le_of_ble_eq_true rfl) rfl
  obtain ⟨i3a, i3b, i3c, i3d⟩ := pz_gi hE 3 2147483681 2147483775 (Nat.le_of_ble_eq_true rfl) rfl
  have c_at : ay_at hp 173 14 = some (ρ 2) := ay_gfj hE 702 56 11 173 14 ax_m2 (ax_vlq rfl rfl) (ax_vlj rfl rfl)
  have c_tape : ay_at hp 183 (ρ 2 / 4) = some (ρ 3) := ay_gf hE 742 11 15 183 ax_m3 (ax_vlq rfl rfl)
  obtain ⟨-, -, F131⟩ : ay_ex hp 173 ∧ ay_ex hp 183 ∧ pz_x30 (ρ 0) (ay_at hp 173 12) (ay_at hp 183) := (ax_XF_lt (x := 131) (Nat.le_of_ble_eq_true rfl)).mp (ax_gx hE (131, [3]) ax_m0)
  obtain ⟨-, F157⟩ : ay_ex hp 173 ∧ pz_at (pz_gt (ρ 0)) (pz_gN (ρ 0)) (ay_ln (ay_at hp 173 14)) = pz_at (pz_gt (ρ 0)) (pz_gN (ρ 0)) (pz_p (pz_cF (ρ 0) (ρ 1))) := (ax_XF_lt (x := 157) (Nat.le_of_ble_eq_true rfl)).mp (ax_gx hE (157, [3, 7]) ax_m1)
  rw [c_at] at F157
  have hb : ρ 2 / 4 < pz_gN (ρ 0) → pz_b (pz_gt (ρ 0)) (ρ 2 / 4) = ρ 3 / 4 := fun hl => by
    have e := F131.2.2 (ρ 2 / 4) hl
    rw [c_tape] at e
    have e := Option.some.inj e
    omega
  have e : pz_at (pz_gt (ρ 0)) (pz_gN (ρ 0)) (ρ 2 / 4) = ρ 2 / 4 := pz_e_off (by
    by_cases hl : ρ 2 / 4 < pz_gN (ρ 0)
    · exact Or.inr (by rw [hb hl]; exact pz_bl_no (by omega) (by omega))
    · exact Or.inl (by omega))
  refine ⟨(fun y hy => by cases hy), _, List.mem_cons_self, ρ, fun _ _ => rfl, ax_px hE rfl (fun x hx => ?_)⟩
  cases List.mem_singleton.mp hx
  refine (ax_XF_lt (x := 154) (Nat.le_of_ble_eq_true rfl)).mpr ?_
  show ay_ex hp 173 ∧ ay_ln (ay_at hp 173 14) = pz_at (pz_gt (ρ 0)) (pz_gN (ρ 0)) (pz_p (pz_cF (ρ 0) (ρ 1)))
  refine ⟨(ax_cellT hT (q := 173) (g := 11) (ax_wc hw ax_cg_173)), ?_⟩
  rw [c_at]
  exact e.symm.trans F157
theorem axq0_sc3_c : ax_RO ax_wM0 (ax_XM 0) axu0_sc3_c := axqg_sc3_c ax_WW0
theorem axqg_sc4 {w : ax_W} {b : Nat} (hw : ax_WW w) : ax_RO w (ax_XM b) axu0_sc4 := by
  intro ρ hp hE hT
  have j0 : ρ 0 % 4 = 1 := pz_gj hE 0 (Nat.le_of_ble_eq_true rfl) rfl
  have j1 : ρ 1 % 4 = 1 := pz_gj hE 1 (Nat.le_of_ble_eq_true rfl) rfl
  obtain ⟨i2a, i2b, i2c, i2d⟩ := pz_gi hE 2 2147483648 2147484448 (Nat.le_of_ble_eq_true rfl) rfl
  obtain ⟨i3a, i3b, i3c, i3d⟩ := pz_gi hE 3 2147483648 2147484448 (Nat.le_of_ble_eq_true rfl) rfl
  have c_at : ay_at hp 173 14 = some (ρ 2) := ay_gfj hE 702 56 11 173 14 ax_m2 (ax_vlq rfl rfl) (ax_vlj rfl rfl)
  have c_next : ay_at hp 173 13 = some (ρ 2) := ay_gfj hE 702 52 11 173 13 ax_m3 (ax_vlq rfl rfl) (ax_vlj rfl rfl)
  have c_size : ay_at hp 173 12 = some (ρ 3) := ay_gfj hE 702 48 15 173 12 ax_m4 (ax_vlq rfl rfl) (ax_vlj rfl rfl)
  have r1 : (ρ 3 / 4 + 2147483648) % 4294967296 ≤ (ρ 2 / 4 + 2147483648) % 4294967296 := pz_gc hE 3 11 15 (Nat.le_of_ble_eq_true rfl) ax_m5
  obtain ⟨-, -, F131⟩ : ay_ex hp 173 ∧ ay_ex hp 183 ∧ pz_x30 (ρ 0) (ay_at hp 173 12) (ay_at hp 183) := (ax_XF_lt (x := 131) (Nat.le_of_ble_eq_true rfl)).mp (ax_gx hE (131, [3]) ax_m0)
  rw [c_size] at F131
  obtain ⟨-, F154⟩ : ay_ex hp 173 ∧ ay_ln (ay_at hp 173 14) = pz_at (pz_gt (ρ 0)) (pz_gN (ρ 0)) (pz_p (pz_cF (ρ 0) (ρ 1))) := (ax_XF_lt (x := 154) (Nat.le_of_ble_eq_true rfl)).mp (ax_gx hE (154, [3, 7]) ax_m1)
  rw [c_at] at F154
  have hN : ρ 3 / 4 = pz_gN (ρ 0) := F131.1
  have e1 : ρ 2 / 4 = pz_at (pz_gt (ρ 0)) (pz_gN (ρ 0)) (pz_p (pz_cf (pz_gt (ρ 0)) (pz_gN (ρ 0)) (ρ 1 / 4))) := F154
  obtain ⟨k1, k2⟩ := pz_kd_end (t := pz_gt (ρ 0)) (N := pz_gN (ρ 0)) (p := pz_p (pz_cf (pz_gt (ρ 0)) (pz_gN (ρ 0)) (ρ 1 / 4))) (by omega)
  refine ⟨(fun y hy => by cases hy), _, List.mem_cons_self, ρ, fun _ _ => rfl, ax_px hE rfl (fun x hx => ?_)⟩
  cases List.mem_singleton.mp hx
  refine (ax_XF_wr (x := 151) (Nat.le_of_ble_eq_true rfl)).mpr ?_
  show ay_ex (ax_upd hp 702 (60) (0)) 173 ∧ ay_ex (ax_upd hp 702 (60) (0)) 173 ∧ ay_ex (ax_upd hp 702 (60) (0)) 173 ∧ ay_ex (ax_upd hp 702 (60) (0)) 173 ∧ ay_ex (ax_upd hp 702 (60) (0)) 173 ∧ pz_y151 (ρ 0) (ρ 1) (ay_at (ax_upd hp 702 (60) (0)) 173 13) (ay_at (ax_upd hp 702 (60) (0)) 173 14) (ay_at (ax_upd hp 702 (60) (0)) 173 15) (ay_at (ax_upd hp 702 (60) (0)) 173 16) (ay_at (ax_upd hp 702 (60) (0)) 173 17)
  obtain ⟨o0, ho0⟩ := ay_some hT (q := 173) (g := 11) (n := 58) (ax_wc hw ax_cg_173) (ax_wn hw ax_cn_11) (j := 60 / 4) (Nat.le_of_ble_eq_true rfl)
  have u1 : ∀ q, q ≠ 173 → ay_at (ax_upd hp 702 60 (0)) q = ay_at hp q := fun q hq => funext (fun j => ay_upd_ne hT.1 hq j)
  have u2 : ∀ j, ay_at (ax_upd hp 702 60 (0)) 173 j = if j = 15 then some (0) else ay_at hp 173 j := fun j => ay_upd_eq hT.1 rfl ho0 j
  refine ⟨ay_ex_upd hT.1 (ax_cellT hT (q := 173) (g := 11) (ax_wc hw ax_cg_173)), ay_ex_upd hT.1 (ax_cellT hT (q := 173) (g := 11) (ax_wc hw ax_cg_173)), ay_ex_upd hT.1 (ax_cellT hT (q := 173) (g := 11) (ax_wc hw ax_cg_173)), ay_ex_upd hT.1 (ax_cellT hT (q := 173) (g := 11) (ax_wc hw ax_cg_173)), ay_ex_upd hT.1 (ax_cellT hT (q := 173) (g := 11) (ax_wc hw ax_cg_173)), ?_⟩
  rw [u2 13, if_neg (show ¬ 13 = 15 from Nat.ne_of_beq_eq_false rfl), u2 14, if_neg (show ¬ 14 = 15 from Nat.ne_of_beq_eq_false rfl), u2 15, if_pos rfl, u2 16, if_neg (show ¬ 16 = 15 from Nat.ne_of_beq_eq_false rfl), u2 17, if_neg (show ¬ 17 = 15 from Nat.ne_of_beq_eq_false rfl)]
  rw [c_at]
  rw [c_next]
  exact ⟨by show ρ 2 / 4 = _; rw [k2]; exact e1, e1, by show 0 / 4 = _; rw [k1]; rfl, fun z => (by rw [k1] at z; cases z), fun z => (by rw [k1] at z; cases z)⟩
theorem axq0_sc4 : ax_RO ax_wM0 (ax_XM 0) axu0_sc4 := axqg_sc4 ax_WW0
theorem axqg_sc5 {w : ax_W} {b : Nat} (hw : ax_WW w) : ax_RO w (ax_XM b) axu0_sc5 := by
  intro ρ hp hE hT
  have j0 : ρ 0 % 4 = 1 := pz_gj hE 0 (Nat.le_of_ble_eq_true rfl) rfl
  have j1 : ρ 1 % 4 = 1 := pz_gj hE 1 (Nat.le_of_ble_eq_true rfl) rfl
  obtain ⟨i2a, i2b, i2c, i2d⟩ := pz_gi hE 2 2147483648 2147484448 (Nat.le_of_ble_eq_true rfl) rfl
  obtain ⟨i3a, i3b, i3c, i3d⟩ := pz_gi hE 3 2147483648 2147484448 (Nat.le_of_ble_eq_true rfl) rfl
  obtain ⟨i4a, i4b, i4c, i4d⟩ := pz_gi hE 4 2147483745 2147483770 (Nat.le_of_ble_eq_true rfl) rfl
  have c_at : ay_at hp 173 14 = some (ρ 2) := ay_gfj hE 702 56 11 173 14 ax_m2 (ax_vlq rfl rfl) (ax_vlj rfl rfl)
  have c_size : ay_at hp 173 12 = some (ρ 3) := ay_gfj hE 702 48 15 173 12 ax_m3 (ax_vlq rfl rfl) (ax_vlj rfl rfl)
  have r1 : (ρ 2 / 4 + 2147483648) % 4294967296 < (ρ 3 / 4 + 2147483648) % 4294967296 := pz_gc hE 2 11 15 (Nat.le_of_ble_eq_true rfl) ax_m4
  have c_tape : ay_at hp 183 (ρ 2 / 4) = some (ρ 4) := ay_gf hE 742 11 19 183 ax_m5 (ax_vlq rfl rfl)
  obtain ⟨-, -, F131⟩ : ay_ex hp 173 ∧ ay_ex hp 183 ∧ pz_x30 (ρ 0) (ay_at hp 173 12) (ay_at hp 183) := (ax_XF_lt (x := 131) (Nat.le_of_ble_eq_true rfl)).mp (ax_gx hE (131, [3]) ax_m0)
  rw [c_size] at F131
  obtain ⟨-, F154⟩ : ay_ex hp 173 ∧ ay_ln (ay_at hp 173 14) = pz_at (pz_gt (ρ 0)) (pz_gN (ρ 0)) (pz_p (pz_cF (ρ 0) (ρ 1))) := (ax_XF_lt (x := 154) (Nat.le_of_ble_eq_true rfl)).mp (ax_gx hE (154, [3, 7]) ax_m1)
  rw [c_at] at F154
  have hb : ρ 2 / 4 < pz_gN (ρ 0) → pz_b (pz_gt (ρ 0)) (ρ 2 / 4) = ρ 4 / 4 := fun hl => by
    have e := F131.2.2 (ρ 2 / 4) hl
    rw [c_tape] at e
    have e := Option.some.inj e
    omega
  have hN : ρ 3 / 4 = pz_gN (ρ 0) := F131.1
  have hlt : ρ 2 / 4 < pz_gN (ρ 0) := by omega
  have e1 : ρ 2 / 4 = pz_at (pz_gt (ρ 0)) (pz_gN (ρ 0)) (pz_p (pz_cf (pz_gt (ρ 0)) (pz_gN (ρ 0)) (ρ 1 / 4))) := F154
  have hb1 := hb hlt
  rw [e1] at hb1
  have hl1 : pz_at (pz_gt (ρ 0)) (pz_gN (ρ 0)) (pz_p (pz_cf (pz_gt (ρ 0)) (pz_gN (ρ 0)) (ρ 1 / 4))) < pz_gN (ρ 0) := by omega
  refine ⟨(fun y hy => by cases hy), _, List.mem_cons_self, ρ, fun _ _ => rfl, ax_px hE rfl (fun x hx => ?_)⟩
  cases List.mem_singleton.mp hx
  refine (ax_XF_lt (x := 168) (Nat.le_of_ble_eq_true rfl)).mpr ?_
  show pz_kd (pz_gt (ρ 0)) (pz_gN (ρ 0)) (pz_p (pz_cF (ρ 0) (ρ 1))) = (4) / 4
  exact (pz_kd_wd hl1 (by rw [hb1]; exact pz_lt_yes (by omega) (by omega))).1
theorem axq0_sc5 : ax_RO ax_wM0 (ax_XM 0) axu0_sc5 := axqg_sc5 ax_WW0
theorem axqg_sc6 {w : ax_W} {b : Nat} (hw : ax_WW w) : ax_RO w (ax_XM b) axu0_sc6 := by
  intro ρ hp hE hT
  have j0 : ρ 0 % 4 = 1 := pz_gj hE 0 (Nat.le_of_ble_eq_true rfl) rfl
  have j1 : ρ 1 % 4 = 1 := pz_gj hE 1 (Nat.le_of_ble_eq_true rfl) rfl
  obtain ⟨i2a, i2b, i2c, i2d⟩ := pz_gi hE 2 2147483648 2147484448 (Nat.le_of_ble_eq_true rfl) rfl
  obtain ⟨i3a, i3b, i3c, i3d⟩ := pz_gi hE 3 2147483648 2147484448 (Nat.le_of_ble_eq_true rfl) rfl
  obtain ⟨i4a, i4b, i4c, i4d⟩ := pz_gi hE 4 2147483696 2147483705 (Nat.le_of_ble_eq_true rfl) rfl
  have c_at : ay_at hp 173 14 = some (ρ 2) := ay_gfj hE 702 56 11 173 14 ax_m2 (ax_vlq rfl rfl) (ax_vlj rfl rfl)
  have c_size : ay_at hp 173 12 = some (ρ 3) := ay_gfj hE 702 48 15 173 12 ax_m3 (ax_vlq rfl rfl) (ax_vlj rfl rfl)
  have r1 : (ρ 2 / 4 + 2147483648) % 4294967296 < (ρ 3 / 4 + 2147483648) % 4294967296 := pz_gc hE 2 11 15 (Nat.le_of_ble_eq_true rfl) ax_m4
  have c_tape : ay_at hp 183 (ρ 2 / 4) = some (ρ 4) := ay_gf hE 742 11 19 183 ax_m5 (ax_vlq rfl rfl)
  obtain ⟨-, -, F131⟩ : ay_ex hp 173 ∧ ay_ex hp 183 ∧ pz_x30 (ρ 0) (ay_at hp 173 12) (ay_at hp 183) := (ax_XF_lt (x := 131) (Nat.le_of_ble_eq_true rfl)).mp (ax_gx hE (131, [3]) ax_m0)
  rw [c_size] at F131
  obtain ⟨-, F154⟩ : ay_ex hp 173 ∧ ay_ln (ay_at hp 173 14) = pz_at (pz_gt (ρ 0)) (pz_gN (ρ 0)) (pz_p (pz_cF (ρ 0) (ρ 1))) := (ax_XF_lt (x := 154) (Nat.le_of_ble_eq_true rfl)).mp (ax_gx hE (154, [3, 7]) ax_m1)
  rw [c_at] at F154
  have hb : ρ 2 / 4 < pz_gN (ρ 0) → pz_b (pz_gt (ρ 0)) (ρ 2 / 4) = ρ 4 / 4 := fun hl => by
    have e := F131.2.2 (ρ 2 / 4) hl
    rw [c_tape] at e
    have e := Option.some.inj e
    omega
  have hN : ρ 3 / 4 = pz_gN (ρ 0) := F131.1
  have hlt : ρ 2 / 4 < pz_gN (ρ 0) := by omega
  have e1 : ρ 2 / 4 = pz_at (pz_gt (ρ 0)) (pz_gN (ρ 0)) (pz_p (pz_cf (pz_gt (ρ 0)) (pz_gN (ρ 0)) (ρ 1 / 4))) := F154
  have hb1 := hb hlt
  rw [e1] at hb1
  have hl1 : pz_at (pz_gt (ρ 0)) (pz_gN (ρ 0)) (pz_p (pz_cf (pz_gt (ρ 0)) (pz_gN (ρ 0)) (ρ 1 / 4))) < pz_gN (ρ 0) := by omega
  refine ⟨(fun y hy => by cases hy), _, List.mem_cons_self, ρ, fun _ _ => rfl, ax_px hE rfl (fun x hx => ?_)⟩
  cases List.mem_singleton.mp hx
  refine (ax_XF_lt (x := 168) (Nat.le_of_ble_eq_true rfl)).mpr ?_
  show pz_kd (pz_gt (ρ 0)) (pz_gN (ρ 0)) (pz_p (pz_cF (ρ 0) (ρ 1))) = (8) / 4
  exact (pz_kd_nm hl1 (by rw [hb1]; exact pz_dg_yes (by omega) (by omega))).1
theorem axq0_sc6 : ax_RO ax_wM0 (ax_XM 0) axu0_sc6 := axqg_sc6 ax_WW0
theorem axqg_sc7_59 {w : ax_W} {b : Nat} (hw : ax_WW w) : ax_RO w (ax_XM b) axu0_sc7_59 := by
  intro ρ hp hE hT
  have j0 : ρ 0 % 4 = 1 := pz_gj hE 0 (Nat.le_of_ble_eq_true rfl) rfl
  have j1 : ρ 1 % 4 = 1 := pz_gj hE 1 (Nat.le_of_ble_eq_true rfl) rfl
  obtain ⟨i2a, i2b, i2c, i2d⟩ := pz_gi hE 2 2147483648 2147484448 (Nat.le_of_ble_eq_true rfl) rfl
  obtain ⟨i3a, i3b, i3c, i3d⟩ := pz_gi hE 3 2147483648 2147484449 (Nat.le_of_ble_eq_true rfl) rfl
  obtain ⟨i4a, i4b, i4c, i4d⟩ := pz_gi hE 4 2147483648 2147484448 (Nat.le_of_ble_eq_true rfl) rfl
  obtain ⟨i5a, i5b, i5c, i5d⟩ := pz_gi hE 5 2147483707 2147483707 (Nat.le_of_ble_eq_true rfl) rfl
  have c_at : ay_at hp 173 14 = some (ρ 2) := ay_gfj hE 702 56 11 173 14 ax_m2 (ax_vlq rfl rfl) (ax_vlj rfl rfl)
  have c_next : ay_at hp 173 13 = some (ρ 3) := ay_gfj hE 702 52 15 173 13 ax_m3 (ax_vlq rfl rfl) (ax_vlj rfl rfl)
  have s1 : (ρ 2 / 4 + 2147483648) % 4294967296 + (4 / 4 + 2147483648) % 4294967296 = (ρ 3 / 4 + 2147483648) % 4294967296 + 2147483648 := pz_gs hE 11 4 15 ax_m4
  have c_size : ay_at hp 173 12 = some (ρ 4) := ay_gfj hE 702 48 19 173 12 ax_m5 (ax_vlq rfl rfl) (ax_vlj rfl rfl)
  have r1 : (ρ 2 / 4 + 2147483648) % 4294967296 < (ρ 4 / 4 + 2147483648) % 4294967296 := pz_gc hE 2 11 19 (Nat.le_of_ble_eq_true rfl) ax_m6
  have c_tape : ay_at hp 183 (ρ 2 / 4) = some (ρ 5) := ay_gf hE 742 11 23 183 ax_m7 (ax_vlq rfl rfl)
  obtain ⟨-, -, F131⟩ : ay_ex hp 173 ∧ ay_ex hp 183 ∧ pz_x30 (ρ 0) (ay_at hp 173 12) (ay_at hp 183) := (ax_XF_lt (x := 131) (Nat.le_of_ble_eq_true rfl)).mp (ax_gx hE (131, [3]) ax_m0)
  rw [c_size] at F131
  obtain ⟨-, F154⟩ : ay_ex hp 173 ∧ ay_ln (ay_at hp 173 14) = pz_at (pz_gt (ρ 0)) (pz_gN (ρ 0)) (pz_p (pz_cF (ρ 0) (ρ 1))) := (ax_XF_lt (x := 154) (Nat.le_of_ble_eq_true rfl)).mp (ax_gx hE (154, [3, 7]) ax_m1)
  rw [c_at] at F154
  have hb : ρ 2 / 4 < pz_gN (ρ 0) → pz_b (pz_gt (ρ 0)) (ρ 2 / 4) = ρ 5 / 4 := fun hl => by
    have e := F131.2.2 (ρ 2 / 4) hl
    rw [c_tape] at e
    have e := Option.some.inj e
    omega
  have hN : ρ 4 / 4 = pz_gN (ρ 0) := F131.1
  have hlt : ρ 2 / 4 < pz_gN (ρ 0) := by omega
  have e1 : ρ 2 / 4 = pz_at (pz_gt (ρ 0)) (pz_gN (ρ 0)) (pz_p (pz_cf (pz_gt (ρ 0)) (pz_gN (ρ 0)) (ρ 1 / 4))) := F154
  have hb1 := hb hlt
  rw [e1] at hb1
  have hl1 : pz_at (pz_gt (ρ 0)) (pz_gN (ρ 0)) (pz_p (pz_cf (pz_gt (ρ 0)) (pz_gN (ρ 0)) (ρ 1 / 4))) < pz_gN (ρ 0) := by omega
  obtain ⟨k1, k2⟩ := pz_kd_sg hl1 (by rw [hb1]; exact pz_lt_no (by omega)) (by rw [hb1]; exact pz_dg_no (by omega))
  rw [hb1] at k1
  have ec : ρ 5 / 4 = 59 := by omega
  rw [ec] at k1
  have k3 : pz_kd (pz_gt (ρ 0)) (pz_gN (ρ 0)) (pz_p (pz_cf (pz_gt (ρ 0)) (pz_gN (ρ 0)) (ρ 1 / 4))) = 59 := k1
  refine ⟨(fun y hy => by cases hy), _, List.mem_cons_self, ρ, fun _ _ => rfl, ax_px hE rfl (fun x hx => ?_)⟩
  cases List.mem_singleton.mp hx
  refine (ax_XF_wr (x := 151) (Nat.le_of_ble_eq_true rfl)).mpr ?_
  show ay_ex (ax_upd hp 702 (60) (16)) 173 ∧ ay_ex (ax_upd hp 702 (60) (16)) 173 ∧ ay_ex (ax_upd hp 702 (60) (16)) 173 ∧ ay_ex (ax_upd hp 702 (60) (16)) 173 ∧ ay_ex (ax_upd hp 702 (60) (16)) 173 ∧ pz_y151 (ρ 0) (ρ 1) (ay_at (ax_upd hp 702 (60) (16)) 173 13) (ay_at (ax_upd hp 702 (60) (16)) 173 14) (ay_at (ax_upd hp 702 (60) (16)) 173 15) (ay_at (ax_upd hp 702 (60) (16)) 173 16) (ay_at (ax_upd hp 702 (60) (16)) 173 17)
  obtain ⟨o0, ho0⟩ := ay_some hT (q := 173) (g := 11) (n := 58) (ax_wc hw ax_cg_173) (ax_wn hw ax_cn_11) (j := 60 / 4) (Nat.le_of_ble_eq_true rfl)
  have u1 : ∀ q, q ≠ 173 → ay_at (ax_upd hp 702 60 (16)) q = ay_at hp q := fun q hq => funext (fun j => ay_upd_ne hT.1 hq j)
  have u2 : ∀ j, ay_at (ax_upd hp 702 60 (16)) 173 j = if j = 15 then some (16) else ay_at hp 173 j := fun j => ay_upd_eq hT.1 rfl ho0 j
  refine ⟨ay_ex_upd hT.1 (ax_cellT hT (q := 173) (g := 11) (ax_wc hw ax_cg_173)), ay_ex_upd hT.1 (ax_cellT hT (q := 173) (g := 11) (ax_wc hw ax_cg_173)), ay_ex_upd hT.1 (ax_cellT hT (q := 173) (g := 11) (ax_wc hw ax_cg_173)), ay_ex_upd hT.1 (ax_cellT hT (q := 173) (g := 11) (ax_wc hw ax_cg_173)), ay_ex_upd hT.1 (ax_cellT hT (q := 173) (g := 11) (ax_wc hw ax_cg_173)), ?_⟩
  rw [u2 13, if_neg (show ¬ 13 = 15 from Nat.ne_of_beq_eq_false rfl), u2 14, if_neg (show ¬ 14 = 15 from Nat.ne_of_beq_eq_false rfl), u2 15, if_pos rfl, u2 16, if_neg (show ¬ 16 = 15 from Nat.ne_of_beq_eq_false rfl), u2 17, if_neg (show ¬ 17 = 15 from Nat.ne_of_beq_eq_false rfl)]
  rw [c_at]
  rw [c_next]
  exact ⟨by show ρ 3 / 4 = _; rw [k2, ← e1]; omega, e1, by show 16 / 4 = pz_tok _; rw [k3]; rfl, fun z => absurd (k3.symm.trans z) (by decide), fun z => absurd (k3.symm.trans z) (by decide)⟩
theorem axq0_sc7_59 : ax_RO ax_wM0 (ax_XM 0) axu0_sc7_59 := axqg_sc7_59 ax_WW0
theorem axqg_sc7_40 {w : ax_W} {b : Nat} (hw : ax_WW w) : ax_RO w (ax_XM b) axu0_sc7_40 := by
  intro ρ hp hE hT
  have j0 : ρ 0 % 4 = 1 := pz_gj hE 0 (Nat.le_of_ble_eq_true rfl) rfl
  have j1 : ρ 1 % 4 = 1 := pz_gj hE 1 (Nat.le_of_ble_eq_true rfl) rfl
  obtain ⟨i2a, i2b, i2c, i2d⟩ := pz_gi hE 2 2147483648 2147484448 (Nat.le_of_ble_eq_true rfl) rfl
  obtain ⟨i3a, i3b, i3c, i3d⟩ := pz_gi hE 3 2147483648 2147484449 (Nat.le_of_ble_eq_true rfl) rfl
  obtain ⟨i4a, i4b, i4c, i4d⟩ := pz_gi hE 4 2147483648 2147484448 (Nat.le_of_ble_eq_true rfl) rfl
  obtain ⟨i5a, i5b, i5c, i5d⟩ := pz_gi hE 5 2147483688 2147483688 (Nat.le_of_ble_eq_true rfl) rfl
  have c_at : ay_at hp 173 14 = some (ρ 2) := ay_gfj hE 702 56 11 173 14 ax_m2 (ax_vlq rfl rfl) (ax_vlj rfl rfl)
  have c_next : ay_at hp 173 13 = some (ρ 3) := ay_gfj hE 702 52 15 173 13 ax_m3 (ax_vlq rfl rfl) (ax_vlj rfl rfl)
  have s1 : (ρ 2 / 4 + 2147483648) % 4294967296 + (4 / 4 + 2147483648) % 4294967296 = (ρ 3 / 4 + 2147483648) % 4294967296 + 2147483648 := pz_gs hE 11 4 15 ax_m4
  have c_size : ay_at hp 173 12 = some (ρ 4) := ay_gfj hE 702 48 19 173 12 ax_m5 (ax_vlq rfl rfl) (ax_vlj rfl rfl)
  have r1 : (ρ 2 / 4 + 2147483648) % 4294967296 < (ρ 4 / 4 + 2147483648) % 4294967296 := pz_gc hE 2 11 19 (Nat.le_of_ble_eq_true rfl) ax_m6
  have c_tape : ay_at hp 183 (ρ 2 / 4) = some (ρ 5) := ay_gf hE 742 11 23 183 ax_m7 (ax_vlq rfl rfl)
  obtain ⟨-, -, F131⟩ : ay_ex hp 173 ∧ ay_ex hp 183 ∧ pz_x30 (ρ 0) (ay_at hp 173 12) (ay_at hp 183) := (ax_XF_lt (x := 131) (Nat.le_of_ble_eq_true rfl)).mp (ax_gx hE (131, [3]) ax_m0)
  rw [c_size] at F131
  obtain ⟨-, F154⟩ : ay_ex hp 173 ∧ ay_ln (ay_at hp 173 14) = pz_at (pz_gt (ρ 0)) (pz_gN (ρ 0)) (pz_p (pz_cF (ρ 0) (ρ 1))) := (ax_XF_lt (x := 154) (Nat.le_of_ble_eq_true rfl)).mp (ax_gx hE (154, [3, 7]) ax_m1)
  rw [c_at] at F154
  have hb : ρ 2 / 4 < pz_gN (ρ 0) → pz_b (pz_gt (ρ 0)) (ρ 2 / 4) = ρ 5 / 4 := fun hl => by
    have e := F131.2.2 (ρ 2 / 4) hl
    rw [c_tape] at e
    have e := Option.some.inj e
    omega
  have hN : ρ 4 / 4 = pz_gN (ρ 0) := F131.1
  have hlt : ρ 2 / 4 < pz_gN (ρ 0) := by omega
  have e1 : ρ 2 / 4 = pz_at (pz_gt (ρ 0)) (pz_gN (ρ 0)) (pz_p (pz_cf (pz_gt (ρ 0)) (pz_gN (ρ 0)) (ρ 1 / 4))) := F154
  have hb1 := hb hlt
  rw [e1] at hb1
  have hl1 : pz_at (pz_gt (ρ 0)) (pz_gN (ρ 0)) (pz_p (pz_cf (pz_gt (ρ 0)) (pz_gN (ρ 0)) (ρ 1 / 4))) < pz_gN (ρ 0) := by omega
  obtain ⟨k1, k2⟩ := pz_kd_sg hl1 (by rw [hb1]; exact pz_lt_no (by omega)) (by rw [hb1]; exact pz_dg_no (by omega))
  rw [hb1] at k1
  have ec : ρ 5 / 4 = 40 := by omega
  rw [ec] at k1
  have k3 : pz_kd (pz_gt (ρ 0)) (pz_gN (ρ 0)) (pz_p (pz_cf (pz_gt (ρ 0)) (pz_gN (ρ 0)) (ρ 1 / 4))) = 40 := k1
  refine ⟨(fun y hy => by cases hy), _, List.mem_cons_self, ρ, fun _ _ => rfl, ax_px hE rfl (fun x hx => ?_)⟩
  cases List.mem_singleton.mp hx
  refine (ax_XF_wr (x := 151) (Nat.le_of_ble_eq_true rfl)).mpr ?_
  show ay_ex (ax_upd hp 702 (60) (16)) 173 ∧ ay_ex (ax_upd hp 702 (60) (16)) 173 ∧ ay_ex (ax_upd hp 702 (60) (16)) 173 ∧ ay_ex (ax_upd hp 702 (60) (16)) 173 ∧ ay_ex (ax_upd hp 702 (60) (16)) 173 ∧ pz_y151 (ρ 0) (ρ 1) (ay_at (ax_upd hp 702 (60) (16)) 173 13) (ay_at (ax_upd hp 702 (60) (16)) 173 14) (ay_at (ax_upd hp 702 (60) (16)) 173 15) (ay_at (ax_upd hp 702 (60) (16)) 173 16) (ay_at (ax_upd hp 702 (60) (16)) 173 17)
  obtain ⟨o0, ho0⟩ := ay_some hT (q := 173) (g := 11) (n := 58) (ax_wc hw ax_cg_173) (ax_wn hw ax_cn_11) (j := 60 / 4) (Nat.le_of_ble_eq_true rfl)
  have u1 : ∀ q, q ≠ 173 → ay_at (ax_upd hp 702 60 (16)) q = ay_at hp q := fun q hq => funext (fun j => ay_upd_ne hT.1 hq j)
  have u2 : ∀ j, ay_at (ax_upd hp 702 60 (16)) 173 j = if j = 15 then some (16) else ay_at hp 173 j := fun j => ay_upd_eq hT.1 rfl ho0 j
  refine ⟨ay_ex_upd hT.1 (ax_cellT hT (q := 173) (g := 11) (ax_wc hw ax_cg_173)), ay_ex_upd hT.1 (ax_cellT hT (q := 173) (g := 11) (ax_wc hw ax_cg_173)), ay_ex_upd hT.1 (ax_cellT hT (q := 173) (g := 11) (ax_wc hw ax_cg_173)), ay_ex_upd hT.1 (ax_cellT hT (q := 173) (g := 11) (ax_wc hw ax_cg_173)), ay_ex_upd hT.1 (ax_cellT hT (q := 173) (g := 11) (ax_wc hw ax_cg_173)), ?_⟩
  rw [u2 13, if_neg (show ¬ 13 = 15 from Nat.ne_of_beq_eq_false rfl), u2 14, if_neg (show ¬ 14 = 15 from Nat.ne_of_beq_eq_false rfl), u2 15, if_pos rfl, u2 16, if_neg (show ¬ 16 = 15 from Nat.ne_of_beq_eq_false rfl), u2 17, if_neg (show ¬ 17 = 15 from Nat.ne_of_beq_eq_false rfl)]
  rw [c_at]
  rw [c_next]
  exact ⟨by show ρ 3 / 4 = _; rw [k2, ← e1]; omega, e1, by show 16 / 4 = pz_tok _; rw [k3]; rfl, fun z => absurd (k3.symm.trans z) (by decide), fun z => absurd (k3.symm.trans z) (by decide)⟩
theorem axq0_sc7_40 : ax_RO ax_wM0 (ax_XM 0) axu0_sc7_40 := axqg_sc7_40 ax_WW0
theorem axqg_sc7_41 {w : ax_W} {b : Nat} (hw : ax_WW w) : ax_RO w (ax_XM b) axu0_sc7_41 := by
  intro ρ hp hE hT
  have j0 : ρ 0 % 4 = 1 := pz_gj hE 0 (Nat.le_of_ble_eq_true rfl) rfl
  have j1 : ρ 1 % 4 = 1 := pz_gj hE 1 (Nat.le_of_ble_eq_true rfl) rfl
  obtain ⟨i2a, i2b, i2c, i2d⟩ := pz_gi hE 2 2147483648 2147484448 (Nat.le_of_ble_eq_true rfl) rfl
  obtain ⟨i3a, i3b, i3c, i3d⟩ := pz_gi hE 3 2147483648 2147484449 (Nat.le_of_ble_eq_true rfl) rfl
  obtain ⟨i4a, i4b, i4c, i4d⟩ := pz_gi hE 4 2147483648 2147484448 (Nat.le_of_ble_eq_true rfl) rfl
  obtain ⟨i5a, i5b, i5c, i5d⟩ := pz_gi hE 5 2147483689 2147483689 (Nat.le_of_ble_eq_true rfl) rfl
  have c_at : ay_at hp 173 14 = some (ρ 2) := ay_gfj hE 702 56 11 173 14 ax_m2 (ax_vlq rfl rfl) (ax_vlj rfl rfl)
  have c_next : ay_at hp 173 13 = some (ρ 3) := ay_gfj hE 702 52 15 173 13 ax_m3 (ax_vlq rfl rfl) (ax_vlj rfl rfl)
  have s1 : (ρ 2 / 4 + 2147483648) % 4294967296 + (4 / 4 + 2147483648) % 4294967296 = (ρ 3 / 4 + 2147483648) % 4294967296 + 2147483648 := pz_gs hE 11 4 15 ax_m4
  have c_size : ay_at hp 173 12 = some (ρ 4) := ay_gfj hE 702 48 19 173 12 ax_m5 (ax_vlq rfl rfl) (ax_vlj rfl rfl)
  have r1 : (ρ 2 / 4 + 2147483648) % 4294967296 < (ρ 4 / 4 + 2147483648) % 4294967296 := pz_gc hE 2 11 19 (Nat.le_of_ble_eq_true rfl) ax_m6
  have c_tape : ay_at hp 183 (ρ 2 / 4) = some (ρ 5) := ay_gf hE 742 11 23 183 ax_m7 (ax_vlq rfl rfl)
  obtain ⟨-, -, F131⟩ : ay_ex hp 173 ∧ ay_ex hp 183 ∧ pz_x30 (ρ 0) (ay_at hp 173 12) (ay_at hp 183) := (ax_XF_lt (x := 131) (Nat.le_of_ble_eq_true rfl)).mp (ax_gx hE (131, [3]) ax_m0)
  rw [c_size] at F131
  obtain ⟨-, F154⟩ : ay_ex hp 173 ∧ ay_ln (ay_at hp 173 14) = pz_at (pz_gt (ρ 0)) (pz_gN (ρ 0)) (pz_p (pz_cF (ρ 0) (ρ 1))) := (ax_XF_lt (x := 154) (Nat.le_of_ble_eq_true rfl)).mp (ax_gx hE (154, [3, 7]) ax_m1)
  rw [c_at] at F154
  have hb : ρ 2 / 4 < pz_gN (ρ 0) → pz_b (pz_gt (ρ 0)) (ρ 2 / 4) = ρ 5 / 4 := fun hl => by
    have e := F131.2.2 (ρ 2 / 4) hl
    rw [c_tape] at e
    have e := Option.some.inj e
    omega
  have hN : ρ 4 / 4 = pz_gN (ρ 0) := F131.1
  have hlt : ρ 2 / 4 < pz_gN (ρ 0) := by omega
  have e1 : ρ 2 / 4 = pz_at (pz_gt (ρ 0)) (pz_gN (ρ 0)) (pz_p (pz_cf (pz_gt (ρ 0)) (pz_gN (ρ 0)) (ρ 1 / 4))) := F154
  have hb1 := hb hlt
  rw [e1] at hb1
  have hl1 : pz_at (pz_gt (ρ 0)) (pz_gN (ρ 0)) (pz_p (pz_cf (pz_gt (ρ 0)) (pz_gN (ρ 0)) (ρ 1 / 4))) < pz_gN (ρ 0) := by omega
  obtain ⟨k1, k2⟩ := pz_kd_sg hl1 (by rw [hb1]; exact pz_lt_no (by omega)) (by rw [hb1]; exact pz_dg_no (by omega))
  rw [hb1] at k1
  have ec : ρ 5 / 4 = 41 := by omega
  rw [ec] at k1
  have k3 : pz_kd (pz_gt (ρ 0)) (pz_gN (ρ 0)) (pz_p (pz_cf (pz_gt (ρ 0)) (pz_gN (ρ 0)) (ρ 1 / 4))) = 41 := k1
  refine ⟨(fun y hy => by cases hy), _, List.mem_cons_self, ρ, fun _ _ => rfl, ax_px hE rfl (fun x hx => ?_)⟩
  cases List.mem_singleton.mp hx
  refine (ax_XF_wr (x := 151) (Nat.le_of_ble_eq_true rfl)).mpr ?_
  show ay_ex (ax_upd hp 702 (60) (16)) 173 ∧ ay_ex (ax_upd hp 702 (60) (16)) 173 ∧ ay_ex (ax_upd hp 702 (60) (16)) 173 ∧ ay_ex (ax_upd hp 702 (60) (16)) 173 ∧ ay_ex (ax_upd hp 702 (60) (16)) 173 ∧ pz_y151 (ρ 0) (ρ 1) (ay_at (ax_upd hp 702 (60) (16)) 173 13) (ay_at (ax_upd hp 702 (60) (16)) 173 14) (ay_at (ax_upd hp 702 (60) (16)) 173 15) (ay_at (ax_upd hp 702 (60) (16)) 173 16) (ay_at (ax_upd hp 702 (60) (16)) 173 17)
  obtain ⟨o0, ho0⟩ := ay_some hT (q := 173) (g := 11) (n := 58) (ax_wc hw ax_cg_173) (ax_wn hw ax_cn_11) (j := 60 / 4) (Nat.le_of_ble_eq_true rfl)
  have u1 : ∀ q, q ≠ 173 → ay_at (ax_upd hp 702 60 (16)) q = ay_at hp q := fun q hq => funext (fun j => ay_upd_ne hT.1 hq j)
  have u2 : ∀ j, ay_at (ax_upd hp 702 60 (16)) 173 j = if j = 15 then some (16) else ay_at hp 173 j := fun j => ay_upd_eq hT.1 rfl ho0 j
  refine ⟨ay_ex_upd hT.1 (ax_cellT hT (q := 173) (g := 11) (ax_wc hw ax_cg_173)), ay_ex_upd hT.1 (ax_cellT hT (q := 173) (g := 11) (ax_wc hw ax_cg_173)), ay_ex_upd hT.1 (ax_cellT hT (q := 173) (g := 11) (ax_wc hw ax_cg_173)), ay_ex_upd hT.1 (ax_cellT hT (q := 173) (g := 11) (ax_wc hw ax_cg_173)), ay_ex_upd hT.1 (ax_cellT hT (q := 173) (g := 11) (ax_wc hw ax_cg_173)), ?_⟩
  rw [u2 13, if_neg (show ¬ 13 = 15 from Nat.ne_of_beq_eq_false rfl), u2 14, if_neg (show ¬ 14 = 15 from Nat.ne_of_beq_eq_false rfl), u2 15, if_pos rfl, u2 16, if_neg (show ¬ 16 = 15 from Nat.ne_of_beq_eq_false rfl), u2 17, if_neg (show ¬ 17 = 15 from Nat.ne_of_beq_eq_false rfl)]
  rw [c_at]
  rw [c_next]
  exact ⟨by show ρ 3 / 4 = _; rw [k2, ← e1]; omega, e1, by show 16 / 4 = pz_tok _; rw [k3]; rfl, fun z => absurd (k3.symm.trans z) (by decide), fun z => absurd (k3.symm.trans z) (by decide)⟩
theorem axq0_sc7_41 : ax_RO ax_wM0 (ax_XM 0) axu0_sc7_41 := axqg_sc7_41 ax_WW0
theorem axqg_sc7_43 {w : ax_W} {b : Nat} (hw : ax_WW w) : ax_RO w (ax_XM b) axu0_sc7_43 := by
  intro ρ hp hE hT
  have j0 : ρ 0 % 4 = 1 := pz_gj hE 0 (Nat.le_of_ble_eq_true rfl) rfl
  have j1 : ρ 1 % 4 = 1 := pz_gj hE 1 (Nat.le_of_ble_eq_true rfl) rfl
  obtain ⟨i2a, i2b, i2c, i2d⟩ := pz_gi hE 2 2147483648 2147484448 (Nat.le_of_ble_eq_true rfl) rfl
  obtain ⟨i3a, i3b, i3c, i3d⟩ := pz_gi hE 3 2147483648 2147484449 (Nat.le_of_ble_eq_true rfl) rfl
  obtain ⟨i4a, i4b, i4c, i4d⟩ := pz_gi hE 4 2147483648 2147484448 (Nat.le_of_ble_eq_true rfl) rfl
  obtain ⟨i5a, i5b, i5c, i5d⟩ := pz_gi hE 5 2147483691 2147483691 (Nat.le_of_ble_eq_true rfl) rfl
  have c_at : ay_at hp 173 14 = some (ρ 2) := ay_gfj hE 702 56 11 173 14 ax_m2 (ax_vlq rfl rfl) (ax_vlj rfl rfl)
  have c_next : ay_at hp 173 13 = some (ρ 3) := ay_gfj hE 702 52 15 173 13 ax_m3 (ax_vlq rfl rfl) (ax_vlj rfl rfl)
  have s1 : (ρ 2 / 4 + 2147483648) % 4294967296 + (4 / 4 + 2147483648) % 4294967296 = (ρ 3 / 4 + 2147483648) % 4294967296 + 2147483648 := pz_gs hE 11 4 15 ax_m4
  have c_size : ay_at hp 173 12 = some (ρ 4) := ay_gfj hE 702 48 19 173 12 ax_m5 (ax_vlq rfl rfl) (ax_vlj rfl rfl)
  have r1 : (ρ 2 / 4 + 2147483648) % 4294967296 < (ρ 4 / 4 + 2147483648) % 4294967296 := pz_gc hE 2 11 19 (Nat.le_of_ble_eq_true rfl) ax_m6
  have c_tape : ay_at hp 183 (ρ 2 / 4) = some (ρ 5) := ay_gf hE 742 11 23 183 ax_m7 (ax_vlq rfl rfl)
  obtain ⟨-, -, F131⟩ : ay_ex hp 173 ∧ ay_ex hp 183 ∧ pz_x30 (ρ 0) (ay_at hp 173 12) (ay_at hp 183) := (ax_XF_lt (x := 131) (Nat.le_of_ble_eq_true rfl)).mp (ax_gx hE (131, [3]) ax_m0)
  rw [c_size] at F131
  obtain ⟨-, F154⟩ : ay_ex hp 173 ∧ ay_ln (ay_at hp 173 14) = pz_at (pz_gt (ρ 0)) (pz_gN (ρ 0)) (pz_p (pz_cF (ρ 0) (ρ 1))) := (ax_XF_lt (x := 154) (Nat.le_of_ble_eq_true rfl)).mp (ax_gx hE (154, [3, 7]) ax_m1)
  rw [c_at] at F154
  have hb : ρ 2 / 4 < pz_gN (ρ 0) → pz_b (pz_gt (ρ 0)) (ρ 2 / 4) = ρ 5 / 4 := fun hl => by
    have e := F131.2.2 (ρ 2 / 4) hl
    rw [c_tape] at e
    have e := Option.some.inj e
    omega
  have hN : ρ 4 / 4 = pz_gN (ρ 0) := F131.1
  have hlt : ρ 2 / 4 < pz_gN (ρ 0) := by omega
  have e1 : ρ 2 / 4 = pz_at (pz_gt (ρ 0)) (pz_gN (ρ 0)) (pz_p (pz_cf (pz_gt (ρ 0)) (pz_gN (ρ 0)) (ρ 1 / 4))) := F154
  have hb1 := hb hlt
  rw [e1] at hb1
  have hl1 : pz_at (pz_gt (ρ 0)) (pz_gN (ρ 0)) (pz_p (pz_cf (pz_gt (ρ 0)) (pz_gN (ρ 0)) (ρ 1 / 4))) < pz_gN (ρ 0) := by omega
  obtain ⟨k1, k2⟩ := pz_kd_sg hl1 (by rw [hb1]; exact pz_lt_no (by omega)) (by rw [hb1]; exact pz_dg_no (by omega))
  rw [hb1] at k1
  have ec : ρ 5 / 4 = 43 := by omega
  rw [ec] at k1
  have k3 : pz_kd (pz_gt (ρ 0)) (pz_gN (ρ 0)) (pz_p (pz_cf (pz_gt (ρ 0)) (pz_gN (ρ 0)) (ρ 1 / 4))) = 43 := k1
  refine ⟨(fun y hy => by cases hy), _, List.mem_cons_self, ρ, fun _ _ => rfl, ax_px hE rfl (fun x hx => ?_)⟩
  cases List.mem_singleton.mp hx
  refine (ax_XF_wr (x := 151) (Nat.le_of_ble_eq_true rfl)).mpr ?_
  show ay_ex (ax_upd hp 702 (60) (16)) 173 ∧ ay_ex (ax_upd hp 702 (60) (16)) 173 ∧ ay_ex (ax_upd hp 702 (60) (16)) 173 ∧ ay_ex (ax_upd hp 702 (60) (16)) 173 ∧ ay_ex (ax_upd hp 702 (60) (16)) 173 ∧ pz_y151 (ρ 0) (ρ 1) (ay_at (ax_upd hp 702 (60) (16)) 173 13) (ay_at (ax_upd hp 702 (60) (16)) 173 14) (ay_at (ax_upd hp 702 (60) (16)) 173 15) (ay_at (ax_upd hp 702 (60) (16)) 173 16) (ay_at (ax_upd hp 702 (60) (16)) 173 17)
  obtain ⟨o0, ho0⟩ := ay_some hT (q := 173) (g := 11) (n := 58) (ax_wc hw ax_cg_173) (ax_wn hw ax_cn_11) (j := 60 / 4) (Nat.le_of_ble_eq_true rfl)
  have u1 : ∀ q, q ≠ 173 → ay_at (ax_upd hp 702 60 (16)) q = ay_at hp q := fun q hq => funext (fun j => ay_upd_ne hT.1 hq j)
  have u2 : ∀ j, ay_at (ax_upd hp 702 60 (16)) 173 j = if j = 15 then some (16) else ay_at hp 173 j := fun j => ay_upd_eq hT.1 rfl ho0 j
  refine ⟨ay_ex_upd hT.1 (ax_cellT hT (q := 173) (g := 11) (ax_wc hw ax_cg_173)), ay_ex_upd hT.1 (ax_cellT hT (q := 173) (g := 11) (ax_wc hw ax_cg_173)), ay_ex_upd hT.1 (ax_cellT hT (q := 173) (g := 11) (ax_wc hw ax_cg_173)), ay_ex_upd hT.1 (ax_cellT hT (q := 173) (g := 11) (ax_wc hw ax_cg_173)), ay_ex_upd hT.1 (ax_cellT hT (q := 173) (g := 11) (ax_wc hw ax_cg_173)), ?_⟩
  rw [u2 13, if_neg (show ¬ 13 = 15 from Nat.ne_of_beq_eq_false rfl), u2 14, if_neg (show ¬ 14 = 15 from Nat.ne_of_beq_eq_false rfl), u2 15, if_pos rfl, u2 16, if_neg (show ¬ 16 = 15 from Nat.ne_of_beq_eq_false rfl), u2 17, if_neg (show ¬ 17 = 15 from Nat.ne_of_beq_eq_false rfl)]
  rw [c_at]
  rw [c_next]
  exact ⟨by show ρ 3 / 4 = _; rw [k2, ← e1]; omega, e1, by show 16 / 4 = pz_tok _; rw [k3]; rfl, fun z => absurd (k3.symm.trans z) (by decide), fun z => absurd (k3.symm.trans z) (by decide)⟩
theorem axq0_sc7_43 : ax_RO ax_wM0 (ax_XM 0) axu0_sc7_43 := axqg_sc7_43 ax_WW0
theorem axqg_sc7_45 {w : ax_W} {b : Nat} (hw : ax_WW w) : ax_RO w (ax_XM b) axu0_sc7_45 := by
  intro ρ hp hE hT
  have j0 : ρ 0 % 4 = 1 := pz_gj hE 0 (Nat.le_of_ble_eq_true rfl) rfl
  have j1 : ρ 1 % 4 = 1 := pz_gj hE 1 (Nat.le_of_ble_eq_true rfl) rfl
  obtain ⟨i2a, i2b, i2c, i2d⟩ := pz_gi hE 2 2147483648 2147484448 (Nat.le_of_ble_eq_true rfl) rfl
  obtain ⟨i3a, i3b, i3c, i3d⟩ := pz_gi hE 3 2147483648 2147484449 (Nat.le_of_ble_eq_true rfl) rfl
  obtain ⟨i4a, i4b, i4c, i4d⟩ := pz_gi hE 4 2147483648 2147484448 (Nat.le_of_ble_eq_true rfl) rfl
  obtain ⟨i5a, i5b, i5c, i5d⟩ := pz_gi hE 5 2147483693 2147483693 (Nat.le_of_ble_eq_true rfl) rfl
  have c_at : ay_at hp 173 14 = some (ρ 2) := ay_gfj hE 702 56 11 173 14 ax_m2 (ax_vlq rfl rfl) (ax_vlj rfl rfl)
  have c_next : ay_at hp 173 13 = some (ρ 3) := ay_gfj hE 702 52 15 173 13 ax_m3 (ax_vlq rfl rfl) (ax_vlj rfl rfl)
  have s1 : (ρ 2 / 4 + 2147483648) % 4294967296 + (4 / 4 + 2147483648) % 4294967296 = (ρ 3 / 4 + 2147483648) % 4294967296 + 2147483648 := pz_gs hE 11 4 15 ax_m4
  have c_size : ay_at hp 173 12 = some (ρ 4) := ay_gfj hE 702 48 19 173 12 ax_m5 (ax_vlq rfl rfl) (ax_vlj rfl rfl)
  have r1 : (ρ 2 / 4 + 2147483648) % 4294967296 < (ρ 4 / 4 + 2147483648) % 4294967296 := pz_gc hE 2 11 19 (Nat.le_of_ble_eq_true rfl) ax_m6
  have c_tape : ay_at hp 183 (ρ 2 / 4) = some (ρ 5) := ay_gf hE 742 11 23 183 ax_m7 (ax_vlq rfl rfl)
  obtain ⟨-, -, F131⟩ : ay_ex hp 173 ∧ ay_ex hp 183 ∧ pz_x30 (ρ 0) (ay_at hp 173 12) (ay_at hp 183) := (ax_XF_lt (x := 131) (Nat.le_of_ble_eq_true rfl)).mp (ax_gx hE (131, [3]) ax_m0)
  rw [c_size] at F131
  obtain ⟨-, F154⟩ : ay_ex hp 173 ∧ ay_ln (ay_at hp 173 14) = pz_at (pz_gt (ρ 0)) (pz_gN (ρ 0)) (pz_p (pz_cF (ρ 0) (ρ 1))) := (ax_XF_lt (x := 154) (Nat.le_of_ble_eq_true rfl)).mp (ax_gx hE (154, [3, 7]) ax_m1)
  rw [c_at] at F154
  have hb : ρ 2 / 4 < pz_gN (ρ 0) → pz_b (pz_gt (ρ 0)) (ρ 2 / 4) = ρ 5 / 4 := fun hl => by
    have e := F131.2.2 (ρ 2 / 4) hl
    rw [c_tape] at e
    have e := Option.some.inj e
    omega
  have hN : ρ 4 / 4 = pz_gN (ρ 0) := F131.1
  have hlt : ρ 2 / 4 < pz_gN (ρ 0) := by omega
  have e1 : ρ 2 / 4 = pz_at (pz_gt (ρ 0)) (pz_gN (ρ 0)) (pz_p (pz_cf (pz_gt (ρ 0)) (pz_gN (ρ 0)) (ρ 1 / 4))) := F154
  have hb1 := hb hlt
  rw [e1] at hb1
  have hl1 : pz_at (pz_gt (ρ 0)) (pz_gN (ρ 0)) (pz_p (pz_cf (pz_gt (ρ 0)) (pz_gN (ρ 0)) (ρ 1 / 4))) < pz_gN (ρ 0) := by omega
  obtain ⟨k1, k2⟩ := pz_kd_sg hl1 (by rw [hb1]; exact pz_lt_no (by omega)) (by rw [hb1]; exact pz_dg_no (by omega))
  rw [hb1] at k1
  have ec : ρ 5 / 4 = 45 := by omega
  rw [ec] at k1
  have k3 : pz_kd (pz_gt (ρ 0)) (pz_gN (ρ 0)) (pz_p (pz_cf (pz_gt (ρ 0)) (pz_gN (ρ 0)) (ρ 1 / 4))) = 45 := k1
  refine ⟨(fun y hy => by cases hy), _, List.mem_cons_self, ρ, fun _ _ => rfl, ax_px hE rfl (fun x hx => ?_)⟩
  cases List.mem_singleton.mp hx
  refine (ax_XF_wr (x := 151) (Nat.le_of_ble_eq_true rfl)).mpr ?_
  show ay_ex (ax_upd hp 702 (60) (16)) 173 ∧ ay_ex (ax_upd hp 702 (60) (16)) 173 ∧ ay_ex (ax_upd hp 702 (60) (16)) 173 ∧ ay_ex (ax_upd hp 702 (60) (16)) 173 ∧ ay_ex (ax_upd hp 702 (60) (16)) 173 ∧ pz_y151 (ρ 0) (ρ 1) (ay_at (ax_upd hp 702 (60) (16)) 173 13) (ay_at (ax_upd hp 702 (60) (16)) 173 14) (ay_at (ax_upd hp 702 (60) (16)) 173 15) (ay_at (ax_upd hp 702 (60) (16)) 173 16) (ay_at (ax_upd hp 702 (60) (16)) 173 17)
  obtain ⟨o0, ho0⟩ := ay_some hT (q := 173) (g := 11) (n := 58) (ax_wc hw ax_cg_173) (ax_wn hw ax_cn_11) (j := 60 / 4) (Nat.le_of_ble_eq_true rfl)
  have u1 : ∀ q, q ≠ 173 → ay_at (ax_upd hp 702 60 (16)) q = ay_at hp q := fun q hq => funext (fun j => ay_upd_ne hT.1 hq j)
  have u2 : ∀ j, ay_at (ax_upd hp 702 60 (16)) 173 j = if j = 15 then some (16) else ay_at hp 173 j := fun j => ay_upd_eq hT.1 rfl ho0 j
  refine ⟨ay_ex_upd hT.1 (ax_cellT hT (q := 173) (g := 11) (ax_wc hw ax_cg_173)), ay_ex_upd hT.1 (ax_cellT hT (q := 173) (g := 11) (ax_wc hw ax_cg_173)), ay_ex_upd hT.1 (ax_cellT hT (q := 173) (g := 11) (ax_wc hw ax_cg_173)), ay_ex_upd hT.1 (ax_cellT hT (q := 173) (g := 11) (ax_wc hw ax_cg_173)), ay_ex_upd hT.1 (ax_cellT hT (q := 173) (g := 11) (ax_wc hw ax_cg_173)), ?_⟩
  rw [u2 13, if_neg (show ¬ 13 = 15 from Nat.ne_of_beq_eq_false rfl), u2 14, if_neg (show ¬ 14 = 15 from Nat.ne_of_beq_eq_false rfl), u2 15, if_pos rfl, u2 16, if_neg (show ¬ 16 = 15 from Nat.ne_of_beq_eq_false rfl), u2 17, if_neg (show ¬ 17 = 15 from Nat.ne_of_beq_eq_false rfl)]
  rw [c_at]
  rw [c_next]
  exact ⟨by show ρ 3 / 4 = _; rw [k2, ← e1]; omega, e1, by show 16 / 4 = pz_tok _; rw [k3]; rfl, fun z => absurd (k3.symm.trans z) (by decide), fun z => absurd (k3.symm.trans z) (by decide)⟩
theorem axq0_sc7_45 : ax_RO ax_wM0 (ax_XM 0) axu0_sc7_45 := axqg_sc7_45 ax_WW0
theorem axqg_sc7_42 {w : ax_W} {b : Nat} (hw : ax_WW w) : ax_RO w (ax_XM b) axu0_sc7_42 := by
  intro ρ hp hE hT
  have j0 : ρ 0 % 4 = 1 := pz_gj hE 0 (Nat.le_of_ble_eq_true rfl) rfl
  have j1 : ρ 1 % 4 = 1 := pz_gj hE 1 (Nat.le_of_ble_eq_true rfl) rfl
  obtain ⟨i2a, i2b, i2c, i2d⟩ := pz_gi hE 2 2147483648 2147484448 (Nat.le_of_ble_eq_true rfl) rfl
  obtain ⟨i3a, i3b, i3c, i3d⟩ := pz_gi hE 3 2147483648 2147484449 (Nat.le_of_ble_eq_true rfl) rfl
  obtain ⟨i4a, i4b, i4c, i4d⟩ := pz_gi hE 4 2147483648 2147484448 (Nat.le_of_ble_eq_true rfl) rfl
  obtain ⟨i5a, i5b, i5c, i5d⟩ := pz_gi hE 5 2147483690 2147483690 (Nat.le_of_ble_eq_true rfl) rfl
  have c_at : ay_at hp 173 14 = some (ρ 2) := ay_gfj hE 702 56 11 173 14 ax_m2 (ax_vlq rfl rfl) (ax_vlj rfl rfl)
  have c_next : ay_at hp 173 13 = some (ρ 3) := ay_gfj hE 702 52 15 173 13 ax_m3 (ax_vlq rfl rfl) (ax_vlj rfl rfl)
  have s1 : (ρ 2 / 4 + 2147483648) % 4294967296 + (4 / 4 + 2147483648) % 4294967296 = (ρ 3 / 4 + 2147483648) % 4294967296 + 2147483648 := pz_gs hE 11 4 15 ax_m4
  have c_size : ay_at hp 173 12 = some (ρ 4) := ay_gfj hE 702 48 19 173 12 ax_m5 (ax_vlq rfl rfl) (ax_vlj rfl rfl)
  have r1 : (ρ 2 / 4 + 2147483648) % 4294967296 < (ρ 4 / 4 + 2147483648) % 4294967296 := pz_gc hE 2 11 19 (Nat.le_of_ble_eq_true rfl) ax_m6
  have c_tape : ay_at hp 183 (ρ 2 / 4) = some (ρ 5) := ay_gf hE 742 11 23 183 ax_m7 (ax_vlq rfl rfl)
  obtain ⟨-, -, F131⟩ : ay_ex hp 173 ∧ ay_ex hp 183 ∧ pz_x30 (ρ 0) (ay_at hp 173 12) (ay_at hp 183) := (ax_XF_lt (x := 131) (Nat.le_of_ble_eq_true rfl)).mp (ax_gx hE (131, [3]) ax_m0)
  rw [c_size] at F131
  obtain ⟨-, F154⟩ : ay_ex hp 173 ∧ ay_ln (ay_at hp 173 14) = pz_at (pz_gt (ρ 0)) (pz_gN (ρ 0)) (pz_p (pz_cF (ρ 0) (ρ 1))) := (ax_XF_lt (x := 154) (Nat.le_of_ble_eq_true rfl)).mp (ax_gx hE (154, [3, 7]) ax_m1)
  rw [c_at] at F154
  have hb : ρ 2 / 4 < pz_gN (ρ 0) → pz_b (pz_gt (ρ 0)) (ρ 2 / 4) = ρ 5 / 4 := fun hl => by
    have e := F131.2.2 (ρ 2 / 4) hl
    rw [c_tape] at e
    have e := Option.some.inj e
    omega
  have hN : ρ 4 / 4 = pz_gN (ρ 0) := F131.1
  have hlt : ρ 2 / 4 < pz_gN (ρ 0) := by omega
  have e1 : ρ 2 / 4 = pz_at (pz_gt (ρ 0)) (pz_gN (ρ 0)) (pz_p (pz_cf (pz_gt (ρ 0)) (pz_gN (ρ 0)) (ρ 1 / 4))) := F154
  have hb1 := hb hlt
  rw [e1] at hb1
  have hl1 : pz_at (pz_gt (ρ 0)) (pz_gN (ρ 0)) (pz_p (pz_cf (pz_gt (ρ 0)) (pz_gN (ρ 0)) (ρ 1 / 4))) < pz_gN (ρ 0) := by omega
  obtain ⟨k1, k2⟩ := pz_kd_sg hl1 (by rw [hb1]; exact pz_lt_no (by omega)) (by rw [hb1]; exact pz_dg_no (by omega))
  rw [hb1] at k1
  have ec : ρ 5 / 4 = 42 := by omega
  rw [ec] at k1
  have k3 : pz_kd (pz_gt (ρ 0)) (pz_gN (ρ 0)) (pz_p (pz_cf (pz_gt (ρ 0)) (pz_gN (ρ 0)) (ρ 1 / 4))) = 42 := k1
  refine ⟨(fun y hy => by cases hy), _, List.mem_cons_self, ρ, fun _ _ => rfl, ax_px hE rfl (fun x hx => ?_)⟩
  cases List.mem_singleton.mp hx
  refine (ax_XF_wr (x := 151) (Nat.le_of_ble_eq_true rfl)).mpr ?_
  show ay_ex (ax_upd hp 702 (60) (16)) 173 ∧ ay_ex (ax_upd hp 702 (60) (16)) 173 ∧ ay_ex (ax_upd hp 702 (60) (16)) 173 ∧ ay_ex (ax_upd hp 702 (60) (16)) 173 ∧ ay_ex (ax_upd hp 702 (60) (16)) 173 ∧ pz_y151 (ρ 0) (ρ 1) (ay_at (ax_upd hp 702 (60) (16)) 173 13) (ay_at (ax_upd hp 702 (60) (16)) 173 14) (ay_at (ax_upd hp 702 (60) (16)) 173 15) (ay_at (ax_upd hp 702 (60) (16)) 173 16) (ay_at (ax_upd hp 702 (60) (16)) 173 17)
  obtain ⟨o0, ho0⟩ := ay_some hT (q := 173) (g := 11) (n := 58) (ax_wc hw ax_cg_173) (ax_wn hw ax_cn_11) (j := 60 / 4) (Nat.le_of_ble_eq_true rfl)
  have u1 : ∀ q, q ≠ 173 → ay_at (ax_upd hp 702 60 (16)) q = ay_at hp q := fun q hq => funext (fun j => ay_upd_ne hT.1 hq j)
  have u2 : ∀ j, ay_at (ax_upd hp 702 60 (16)) 173 j = if j = 15 then some (16) else ay_at hp 173 j := fun j => ay_upd_eq hT.1 rfl ho0 j
  refine ⟨ay_ex_upd hT.1 (ax_cellT hT (q := 173) (g := 11) (ax_wc hw ax_cg_173)), ay_ex_upd hT.1 (ax_cellT hT (q := 173) (g := 11) (ax_wc hw ax_cg_173)), ay_ex_upd hT.1 (ax_cellT hT (q := 173) (g := 11) (ax_wc hw ax_cg_173)), ay_ex_upd hT.1 (ax_cellT hT (q := 173) (g := 11) (ax_wc hw ax_cg_173)), ay_ex_upd hT.1 (ax_cellT hT (q := 173) (g := 11) (ax_wc hw ax_cg_173)), ?_⟩
  rw [u2 13, if_neg (show ¬ 13 = 15 from Nat.ne_of_beq_eq_false rfl), u2 14, if_neg (show ¬ 14 = 15 from Nat.ne_of_beq_eq_false rfl), u2 15, if_pos rfl, u2 16, if_neg (show ¬ 16 = 15 from Nat.ne_of_beq_eq_false rfl), u2 17, if_neg (show ¬ 17 = 15 from Nat.ne_of_beq_eq_false rfl)]
  rw [c_at]
  rw [c_next]
  exact ⟨by show ρ 3 / 4 = _; rw [k2, ← e1]; omega, e1, by show 16 / 4 = pz_tok _; rw [k3]; rfl, fun z => absurd (k3.symm.trans z) (by decide), fun z => absurd (k3.symm.trans z) (by decide)⟩
theorem axq0_sc7_42 : ax_RO ax_wM0 (ax_XM 0) axu0_sc7_42 := axqg_sc7_42 ax_WW0
