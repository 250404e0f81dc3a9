theorem axqg_muA {w : ax_W} {b : Nat} (hw : ax_WW w) : ax_RO w (ax_XM b) axu0_muA := by
  intro ρ hp hE hT
  have j0 : ρ 0 % 4 = 1 := pz_gj hE 0 (by decide) rfl
  obtain ⟨-, -, F196⟩ : ay_ex hp 173 ∧ ay_ex hp 185 ∧ pz_y196 (ρ 0) (ay_at hp 173 27) (ay_at hp 185) := (ax_XF_lt (by decide)).mp (ax_gx hE (196, [3]) (by decide))
  refine ⟨(fun y hy => by cases hy), _, List.mem_cons_self, ρ, fun _ _ => rfl, ax_px hE (by decide) (fun x hx => ?_)⟩
  cases List.mem_singleton.mp hx
  refine (ax_XF_lt (x := 209) (by decide)).mpr ?_
  show pz_strip ((ρ 0) / 4) = pz_strip ((ρ 0) / 4)
  rfl
theorem axq0_muA : ax_RO ax_wM0 (ax_XM 0) axu0_muA := axqg_muA ax_WW0
theorem axqg_muB {w : ax_W} {b : Nat} (hw : ax_WW w) : ax_RO w (ax_XM b) axu0_muB := by
  intro ρ hp hE hT
  have j0 : ρ 0 % 4 = 1 := pz_gj hE 0 (by decide) rfl
  have j1 : ρ 1 % 4 = 1 := pz_gj hE 1 (by decide) rfl
  have j2 : ρ 2 % 4 = 1 := pz_gj hE 2 (by decide) rfl
  have j3 : ρ 3 % 4 = 1 := pz_gj hE 3 (by decide) rfl
  obtain ⟨-, -, -, -, -, F151⟩ : ay_ex hp 173 ∧ ay_ex hp 173 ∧ ay_ex hp 173 ∧ ay_ex hp 173 ∧ ay_ex hp 173 ∧ pz_y151 (ρ 0) (ρ 1) (ay_at hp 173 13) (ay_at hp 173 14) (ay_at hp 173 15) (ay_at hp 173 16) (ay_at hp 173 17) := (ax_XF_lt (by decide)).mp (ax_gx hE (151, [3, 7]) (by decide))
  have F197 : (pz90 (pz_gt (ρ 0)) (pz_gN (ρ 0)) ((ρ 1) / 4) (pz_strip ((ρ 2) / 4)) ∧ 1 ≤ (ρ 2) / 4) := (ax_XF_lt (by decide)).mp (ax_gx hE (197, [3, 7, 11]) (by decide))
  have F192 : pz_strip ((ρ 2) / 4) = (ρ 3) / 4 := (ax_XF_lt (by decide)).mp (ax_gx hE (192, [11, 15]) (by decide))
  obtain ⟨-, -, F196⟩ : ay_ex hp 173 ∧ ay_ex hp 185 ∧ pz_y196 (ρ 3) (ay_at hp 173 27) (ay_at hp 185) := (ax_XF_lt (by decide)).mp (ax_gx hE (196, [15]) (by decide))
  refine ⟨(fun y hy => by cases hy), _, List.mem_cons_self, ρ, fun _ _ => rfl, ax_px hE (by decide) (fun x hx => ?_)⟩
  cases List.mem_singleton.mp hx
  refine (ax_XF_lt (x := 190) (by decide)).mpr ?_
  show (pz90 (pz_gt (ρ 0)) (pz_gN (ρ 0)) ((ρ 1) / 4) ((ρ 3) / 4) ∧ 1 ≤ (ρ 3) / 4)
  rw [← F192]
  exact ⟨F197.1, pz_strip_1 F197.2⟩
theorem axq0_muB : ax_RO ax_wM0 (ax_XM 0) axu0_muB := axqg_muB ax_WW0
theorem axqg_mv1_1 {w : ax_W} {b : Nat} (hw : ax_WW w) : ax_RO w (ax_XM b) axu0_mv1_1 := by
  intro ρ hp hE hT
  have j0 : ρ 0 % 4 = 1 := pz_gj hE 0 (by decide) rfl
  have j1 : ρ 1 % 4 = 1 := pz_gj hE 1 (by decide) rfl
  have j2 : ρ 2 % 4 = 1 := pz_gj hE 2 (by decide) rfl
  have j3 : ρ 3 % 4 = 1 := pz_gj hE 3 (by decide) rfl
  have j4 : ρ 4 % 4 = 1 := pz_gj hE 4 (by decide) rfl
  obtain ⟨i5a, i5b, i5c, i5d⟩ := pz_gi hE 5 2147483648 2147484647 (by decide) rfl
  have c_number : ay_at hp 173 16 = some (ρ 5) := ay_gfj hE 702 64 23 173 16 (by decide) (by rw [ax_vl_c (by decide)]) (by rw [ax_vl_c (by decide)])
  obtain ⟨-, -, -, -, -, F151⟩ : ay_ex hp 173 ∧ ay_ex hp 173 ∧ ay_ex hp 173 ∧ ay_ex hp 173 ∧ ay_ex hp 173 ∧ pz_y151 (ρ 0) (ρ 1) (ay_at hp 173 13) (ay_at hp 173 14) (ay_at hp 173 15) (ay_at hp 173 16) (ay_at hp 173 17) := (ax_XF_lt (by decide)).mp (ax_gx hE (151, [3, 7]) (by decide))
  rw [c_number] at F151
  have F182 : (ρ 2) / 4 = (ρ 1) / 4 + 1 := (ax_XF_lt (by decide)).mp (ax_gx hE (182, [7, 11]) (by decide))
  have F178 : pz7 (pz_gt (ρ 0)) (pz_gN (ρ 0)) ((ρ 1) / 4) 8 := (ax_XF_lt (by decide)).mp (ax_gx hE (178, [3, 7]) (by decide))
  have F207 : pz107 (pz_gt (ρ 0)) (pz_gN (ρ 0)) ((ρ 1) / 4) ((4) / 4) := (ax_XF_lt (by decide)).mp (ax_gx hE (207, [3, 7, 4]) (by decide))
  have F246 : py_y246 (pz_gt (ρ 0)) (pz_gN (ρ 0)) ((ρ 1) / 4) (ρ 3) (ρ 4) := (ax_XF_lt (by decide)).mp (ax_gx hE (246, [3, 7, 15, 19]) (by decide))
  have kd := pr_k1 F207
  have vl := pz_mc (F151.2.2.2.1 kd)
  replace vl : (ρ 5 / 4 ≤ 1000 ∧ pz_vl (pz_gt (ρ 0)) (pz_gN (ρ 0)) (pz_p (pz_cf (pz_gt (ρ 0)) (pz_gN (ρ 0)) (ρ 1 / 4))) = ρ 5 / 4) ∨ (1000 < ρ 5 / 4 ∧ pz_vl (pz_gt (ρ 0)) (pz_gN (ρ 0)) (pz_p (pz_cf (pz_gt (ρ 0)) (pz_gN (ρ 0)) (ρ 1 / 4))) = 1000) := vl
  refine ⟨(fun y hy => by cases hy), _, List.mem_cons_self, ρ, fun _ _ => rfl, ax_px hE (by decide) (fun x hx => ?_)⟩
  cases List.mem_singleton.mp hx
  refine (ax_XF_lt (x := 257) (by decide)).mpr ?_
  show py_257 (pz_gt (ρ 0)) (pz_gN (ρ 0)) ((ρ 2) / 4) (ρ 3) (ρ 4) (ρ 5)
  exact pm_mv1 F178 (by rw [kd]; decide) (by rw [kd]; decide) F182 F246 (by rw [pr_un1 F207]; omega)
theorem axq0_mv1_1 : ax_RO ax_wM0 (ax_XM 0) axu0_mv1_1 := axqg_mv1_1 ax_WW0
theorem axq0_mv2_1 : ax_RO ax_wM0 (ax_XM 0) axu0_mv2_1 := by
  intro ρ hp hE hT
  have j0 : ρ 0 % 4 = 1 := pz_gj hE 0 (by decide) rfl
  have j1 : ρ 1 % 4 = 1 := pz_gj hE 1 (by decide) rfl
  have j2 : ρ 2 % 4 = 1 := pz_gj hE 2 (by decide) rfl
  have j3 : ρ 3 % 4 = 1 := pz_gj hE 3 (by decide) rfl
  have j4 : ρ 4 % 4 = 1 := pz_gj hE 4 (by decide) rfl
  obtain ⟨i5a, i5b, i5c, i5d⟩ := pz_gi hE 5 2147483648 2147484647 (by decide) rfl
  obtain ⟨-, -, -, -, -, F151⟩ : ay_ex hp 173 ∧ ay_ex hp 173 ∧ ay_ex hp 173 ∧ ay_ex hp 173 ∧ ay_ex hp 173 ∧ pz_y151 (ρ 0) (ρ 1) (ay_at hp 173 13) (ay_at hp 173 14) (ay_at hp 173 15) (ay_at hp 173 16) (ay_at hp 173 17) := (ax_XF_lt (by decide)).mp (ax_gx hE (151, [3, 7]) (by decide))
  have F257 : py_257 (pz_gt (ρ 0)) (pz_gN (ρ 0)) ((ρ 1) / 4) (ρ 2) (ρ 3) (ρ 5) := (ax_XF_lt (by decide)).mp (ax_gx hE (257, [3, 7, 11, 15, 23]) (by decide))
  obtain ⟨-, -, F242⟩ : ay_ex hp 173 ∧ ay_ex hp 185 ∧ py_y242 (ρ 2) (ay_at hp 173 27) (ay_at hp 185) := (ax_XF_lt (by decide)).mp (ax_gx hE (242, [11]) (by decide))
  obtain ⟨-, -, F241⟩ : ay_ex hp 180 ∧ ay_ex hp 182 ∧ py_y241 1 (ρ 4) (ay_at hp 180 1) (ay_at hp 182) := (ax_XF_lt (by decide)).mp (ax_gx hE (241, [19]) (by decide))
  have F251 : py_251 (ρ 4) (ρ 5) (ρ 3) := (ax_XF_lt (by decide)).mp (ax_gx hE (251, [19, 23, 15]) (by decide))
  refine ⟨(fun y hy => by cases hy), _, List.mem_cons_self, ρ, fun _ _ => rfl, ax_px hE (by decide) (fun x hx => ?_)⟩
  rcases List.mem_cons.mp hx with e | hx
  · subst e
    refine (ax_XF_lt (x := 247) (by decide)).mpr ?_
    show py_247 (pz_gt (ρ 0)) (pz_gN (ρ 0)) ((ρ 1) / 4) (ρ 2) (ρ 4)
    exact pm_mv2 F257 F251
  cases List.mem_singleton.mp hx
  refine (ax_XF_lt (x := 249) (by decide)).mpr ?_
  show py_249 (ρ 2) (ρ 4) (ρ 2) (ρ 4)
  exact (rfl : py_neg _ _ = _)

theorem axqg_mv1_2 {w : ax_W} {b : Nat} (hw : ax_WW w) : ax_RO w (ax_XM b) axu0_mv1_2 := by
  intro ρ hp hE hT
  have j0 : ρ 0 % 4 = 1 := pz_gj hE 0 (by decide) rfl
  have j1 : ρ 1 % 4 = 1 := pz_gj hE 1 (by decide) rfl
  have j2 : ρ 2 % 4 = 1 := pz_gj hE 2 (by decide) rfl
  have j3 : ρ 3 % 4 = 1 := pz_gj hE 3 (by decide) rfl
  have j4 : ρ 4 % 4 = 1 := pz_gj hE 4 (by decide) rfl
  obtain ⟨-, -, -, -, -, F151⟩ : ay_ex hp 173 ∧ ay_ex hp 173 ∧ ay_ex hp 173 ∧ ay_ex hp 173 ∧ ay_ex hp 173 ∧ pz_y151 (ρ 0) (ρ 1) (ay_at hp 173 13) (ay_at hp 173 14) (ay_at hp 173 15) (ay_at hp 173 16) (ay_at hp 173 17) := (ax_XF_lt (by decide)).mp (ax_gx hE (151, [3, 7]) (by decide))
  have F182 : (ρ 2) / 4 = (ρ 1) / 4 + 1 := (ax_XF_lt (by decide)).mp (ax_gx hE (182, [7, 11]) (by decide))
  have F178 : pz7 (pz_gt (ρ 0)) (pz_gN (ρ 0)) ((ρ 1) / 4) 8 := (ax_XF_lt (by decide)).mp (ax_gx hE (178, [3, 7]) (by decide))
  have F207 : pz107 (pz_gt (ρ 0)) (pz_gN (ρ 0)) ((ρ 1) / 4) ((8) / 4) := (ax_XF_lt (by decide)).mp (ax_gx hE (207, [3, 7, 8]) (by decide))
  have F246 : py_y246 (pz_gt (ρ 0)) (pz_gN (ρ 0)) ((ρ 1) / 4) (ρ 3) (ρ 4) := (ax_XF_lt (by decide)).mp (ax_gx hE (246, [3, 7, 15, 19]) (by decide))
  have kd := (pr_w (k := 2) (by decide) F207).1
  refine ⟨(fun y hy => by cases hy), _, List.mem_cons_self, ρ, fun _ _ => rfl, ax_px hE (by decide) (fun x hx => ?_)⟩
  cases List.mem_singleton.mp hx
  refine (ax_XF_lt (x := 257) (by decide)).mpr ?_
  show py_257 (pz_gt (ρ 0)) (pz_gN (ρ 0)) ((ρ 2) / 4) (ρ 3) (ρ 4) (4000)
  exact pm_mv1 F178 (by rw [kd]; decide) (by rw [kd]; decide) F182 F246 (by rw [pr_unw (k := 2) (by decide) F207])
theorem axq0_mv1_2 : ax_RO ax_wM0 (ax_XM 0) axu0_mv1_2 := axqg_mv1_2 ax_WW0
theorem axq0_mv2_2 : ax_RO ax_wM0 (ax_XM 0) axu0_mv2_2 := by
  intro ρ hp hE hT
  have j0 : ρ 0 % 4 = 1 := pz_gj hE 0 (by decide) rfl
  have j1 : ρ 1 % 4 = 1 := pz_gj hE 1 (by decide) rfl
  have j2 : ρ 2 % 4 = 1 := pz_gj hE 2 (by decide) rfl
  have j3 : ρ 3 % 4 = 1 := pz_gj hE 3 (by decide) rfl
  have j4 : ρ 4 % 4 = 1 := pz_gj hE 4 (by decide) rfl
  obtain ⟨-, -, -, -, -, F151⟩ : ay_ex hp 173 ∧ ay_ex hp 173 ∧ ay_ex hp 173 ∧ ay_ex hp 173 ∧ ay_ex hp 173 ∧ pz_y151 (ρ 0) (ρ 1) (ay_at hp 173 13) (ay_at hp 173 14) (ay_at hp 173 15) (ay_at hp 173 16) (ay_at hp 173 17) := (ax_XF_lt (by decide)).mp (ax_gx hE (151, [3, 7]) (by decide))
  have F257 : py_257 (pz_gt (ρ 0)) (pz_gN (ρ 0)) ((ρ 1) / 4) (ρ 2) (ρ 3) (4000) := (ax_XF_lt (by decide)).mp (ax_gx hE (257, [3, 7, 11, 15, 4000]) (by decide))
  obtain ⟨-, -, F242⟩ : ay_ex hp 173 ∧ ay_ex hp 185 ∧ py_y242 (ρ 2) (ay_at hp 173 27) (ay_at hp 185) := (ax_XF_lt (by decide)).mp (ax_gx hE (242, [11]) (by decide))
  obtain ⟨-, -, F241⟩ : ay_ex hp 180 ∧ ay_ex hp 182 ∧ py_y241 1 (ρ 4) (ay_at hp 180 1) (ay_at hp 182) := (ax_XF_lt (by decide)).mp (ax_gx hE (241, [19]) (by decide))
  have F251 : py_251 (ρ 4) (4000) (ρ 3) := (ax_XF_lt (by decide)).mp (ax_gx hE (251, [19, 4000, 15]) (by decide))
  refine ⟨(fun y hy => by cases hy), _, List.mem_cons_self, ρ, fun _ _ => rfl, ax_px hE (by decide) (fun x hx => ?_)⟩
  rcases List.mem_cons.mp hx with e | hx
  · subst e
    refine (ax_XF_lt (x := 247) (by decide)).mpr ?_
    show py_247 (pz_gt (ρ 0)) (pz_gN (ρ 0)) ((ρ 1) / 4) (ρ 2) (ρ 4)
    exact pm_mv2 F257 F251
  cases List.mem_singleton.mp hx
  refine (ax_XF_lt (x := 249) (by decide)).mpr ?_
  show py_249 (ρ 2) (ρ 4) (ρ 2) (ρ 4)
  exact (rfl : py_neg _ _ = _)

theorem axqg_mv1_3 {w : ax_W} {b : Nat} (hw : ax_WW w) : ax_RO w (ax_XM b) axu0_mv1_3 := by
  intro ρ hp hE hT
  have j0 : ρ 0 % 4 = 1 := pz_gj hE 0 (by decide) rfl
  have j1 : ρ 1 % 4 = 1 := pz_gj hE 1 (by decide) rfl
  have j2 : ρ 2 % 4 = 1 := pz_gj hE 2 (by decide) rfl
  have j3 : ρ 3 % 4 = 1 := pz_gj hE 3 (by decide) rfl
  have j4 : ρ 4 % 4 = 1 := pz_gj hE 4 (by decide) rfl
  obtain ⟨-, -, -, -, -, F151⟩ : ay_ex hp 173 ∧ ay_ex hp 173 ∧ ay_ex hp 173 ∧ ay_ex hp 173 ∧ ay_ex hp 173 ∧ pz_y151 (ρ 0) (ρ 1) (ay_at hp 173 13) (ay_at hp 173 14) (ay_at hp 173 15) (ay_at hp 173 16) (ay_at hp 173 17) := (ax_XF_lt (by decide)).mp (ax_gx hE (151, [3, 7]) (by decide))
  have F182 : (ρ 2) / 4 = (ρ 1) / 4 + 1 := (ax_XF_lt (by decide)).mp (ax_gx hE (182, [7, 11]) (by decide))
  have F178 : pz7 (pz_gt (ρ 0)) (pz_gN (ρ 0)) ((ρ 1) / 4) 8 := (ax_XF_lt (by decide)).mp (ax_gx hE (178, [3, 7]) (by decide))
  have F207 : pz107 (pz_gt (ρ 0)) (pz_gN (ρ 0)) ((ρ 1) / 4) ((12) / 4) := (ax_XF_lt (by decide)).mp (ax_gx hE (207, [3, 7, 12]) (by decide))
  have F246 : py_y246 (pz_gt (ρ 0)) (pz_gN (ρ 0)) ((ρ 1) / 4) (ρ 3) (ρ 4) := (ax_XF_lt (by decide)).mp (ax_gx hE (246, [3, 7, 15, 19]) (by decide))
  have kd := (pr_w (k := 3) (by decide) F207).1
  refine ⟨(fun y hy => by cases hy), _, List.mem_cons_self, ρ, fun _ _ => rfl, ax_px hE (by decide) (fun x hx => ?_)⟩
  cases List.mem_singleton.mp hx
  refine (ax_XF_lt (x := 257) (by decide)).mpr ?_
  show py_257 (pz_gt (ρ 0)) (pz_gN (ρ 0)) ((ρ 2) / 4) (ρ 3) (ρ 4) (4004)
  exact pm_mv1 F178 (by rw [kd]; decide) (by rw [kd]; decide) F182 F246 (by rw [pr_unw (k := 3) (by decide) F207])
theorem axq0_mv1_3 : ax_RO ax_wM0 (ax_XM 0) axu0_mv1_3 := axqg_mv1_3 ax_WW0
theorem axq0_mv2_3 : ax_RO ax_wM0 (ax_XM 0) axu0_mv2_3 := by
  intro ρ hp hE hT
  have j0 : ρ 0 % 4 = 1 := pz_gj hE 0 (by decide) rfl
  have j1 : ρ 1 % 4 = 1 := pz_gj hE 1 (by decide) rfl
  have j2 : ρ 2 % 4 = 1 := pz_gj hE 2 (by decide) rfl
  have j3 : ρ 3 % 4 = 1 := pz_gj hE 3 (by decide) rfl
  have j4 : ρ 4 % 4 = 1 := pz_gj hE 4 (by decide) rfl
  obtain ⟨-, -, -, -, -, F151⟩ : ay_ex hp 173 ∧ ay_ex hp 173 ∧ ay_ex hp 173 ∧ ay_ex hp 173 ∧ ay_ex hp 173 ∧ pz_y151 (ρ 0) (ρ 1) (ay_at hp 173 13) (ay_at hp 173 14) (ay_at hp 173 15) (ay_at hp 173 16) (ay_at hp 173 17) := (ax_XF_lt (by decide)).mp (ax_gx hE (151, [3, 7]) (by decide))
  have F257 : py_257 (pz_gt (ρ 0)) (pz_gN (ρ 0)) ((ρ 1) / 4) (ρ 2) (ρ 3) (4004) := (ax_XF_lt (by decide)).mp (ax_gx hE (257, [3, 7, 11, 15, 4004]) (by decide))
  obtain ⟨-, -, F242⟩ : ay_ex hp 173 ∧ ay_ex hp 185 ∧ py_y242 (ρ 2) (ay_at hp 173 27) (ay_at hp 185) := (ax_XF_lt (by decide)).mp (ax_gx hE (242, [11]) (by decide))
  obtain ⟨-, -, F241⟩ : ay_ex hp 180 ∧ ay_ex hp 182 ∧ py_y241 1 (ρ 4) (ay_at hp 180 1) (ay_at hp 182) := (ax_XF_lt (by decide)).mp (ax_gx hE (241, [19]) (by decide))
  have F251 : py_251 (ρ 4) (4004) (ρ 3) := (ax_XF_lt (by decide)).mp (ax_gx hE (251, [19, 4004, 15]) (by decide))
  refine ⟨(fun y hy => by cases hy), _, List.mem_cons_self, ρ, fun _ _ => rfl, ax_px hE (by decide) (fun x hx => ?_)⟩
  rcases List.mem_cons.mp hx with e | hx
  · subst e
    refine (ax_XF_lt (x := 247) (by decide)).mpr ?_
    show py_247 (pz_gt (ρ 0)) (pz_gN (ρ 0)) ((ρ 1) / 4) (ρ 2) (ρ 4)
    exact pm_mv2 F257 F251
  cases List.mem_singleton.mp hx
  refine (ax_XF_lt (x := 249) (by decide)).mpr ?_
  show py_249 (ρ 2) (ρ 4) (ρ 2) (ρ 4)
  exact (rfl : py_neg _ _ = _)

theorem axqg_mv1_4 {w : ax_W} {b : Nat} (hw : ax_WW w) : ax_RO w (ax_XM b) axu0_mv1_4 := by
  intro ρ hp hE hT
  have j0 : ρ 0 % 4 = 1 := pz_gj hE 0 (by decide) rfl
  have j1 : ρ 1 % 4 = 1 := pz_gj hE 1 (by decide) rfl
  have j2 : ρ 2 % 4 = 1 := pz_gj hE 2 (by decide) rfl
  have j3 : ρ 3 % 4 = 1 := pz_gj hE 3 (by decide) rfl
  have j4 : ρ 4 % 4 = 1 := pz_gj hE 4 (by decide) rfl
  obtain ⟨-, -, -, -, -, F151⟩ : ay_ex hp 173 ∧ ay_ex hp 173 ∧ ay_ex hp 173 ∧ ay_ex hp 173 ∧ ay_ex hp 173 ∧ pz_y151 (ρ 0) (ρ 1) (ay_at hp 173 13) (ay_at hp 173 14) (ay_at hp 173 15) (ay_at hp 173 16) (ay_at hp 173 17) := (ax_XF_lt (by decide)).mp (ax_gx hE (151, [3, 7]) (by decide))
  have F182 : (ρ 2) / 4 = (ρ 1) / 4 + 1 := (ax_XF_lt (by decide)).mp (ax_gx hE (182, [7, 11]) (by decide))
  have F178 : pz7 (pz_gt (ρ 0)) (pz_gN (ρ 0)) ((ρ 1) / 4) 8 := (ax_XF_lt (by decide)).mp (ax_gx hE (178, [3, 7]) (by decide))
  have F207 : pz107 (pz_gt (ρ 0)) (pz_gN (ρ 0)) ((ρ 1) / 4) ((16) / 4) := (ax_XF_lt (by decide)).mp (ax_gx hE (207, [3, 7, 16]) (by decide))
  have F246 : py_y246 (pz_gt (ρ 0)) (pz_gN (ρ 0)) ((ρ 1) / 4) (ρ 3) (ρ 4) := (ax_XF_lt (by decide)).mp (ax_gx hE (246, [3, 7, 15, 19]) (by decide))
  have kd := (pr_w (k := 4) (by decide) F207).1
  refine ⟨(fun y hy => by cases hy), _, List.mem_cons_self, ρ, fun _ _ => rfl, ax_px hE (by decide) (fun x hx => ?_)⟩
  cases List.mem_singleton.mp hx
  refine (ax_XF_lt (x := 257) (by decide)).mpr ?_
  show py_257 (pz_gt (ρ 0)) (pz_gN (ρ 0)) ((ρ 2) / 4) (ρ 3) (ρ 4) (4008)
  exact pm_mv1 F178 (by rw [kd]; decide) (by rw [kd]; decide) F182 F246 (by rw [pr_unw (k := 4) (by decide) F207])
theorem axq0_mv1_4 : ax_RO ax_wM0 (ax_XM 0) axu0_mv1_4 := axqg_mv1_4 ax_WW0
theorem axq0_mv2_4 : ax_RO ax_wM0 (ax_XM 0) axu0_mv2_4 := by
  intro ρ hp hE hT
  have j0 : ρ 0 % 4 = 1 := pz_gj hE 0 (by decide) rfl
  have j1 : ρ 1 % 4 = 1 := pz_gj hE 1 (by decide) rfl
  have j2 : ρ 2 % 4 = 1 := pz_gj hE 2 (by decide) rfl
  have j3 : ρ 3 % 4 = 1 := pz_gj hE 3 (by decide) rfl
  have j4 : ρ 4 % 4 = 1 := pz_gj hE 4 (by decide) rfl
  obtain ⟨-, -, -, -, -, F151⟩ : ay_ex hp 173 ∧ ay_ex hp 173 ∧ ay_ex hp 173 ∧ ay_ex hp 173 ∧ ay_ex hp 173 ∧ pz_y151 (ρ 0) (ρ 1) (ay_at hp 173 13) (ay_at hp 173 14) (ay_at hp 173 15) (ay_at hp 173 16) (ay_at hp 173 17) := (ax_XF_lt (by decide)).mp (ax_gx hE (151, [3, 7]) (by decide))
  have F257 : py_257 (pz_gt (ρ 0)) (pz_gN (ρ 0)) ((ρ 1) / 4) (ρ 2) (ρ 3) (4008) := (ax_XF_lt (by decide)).mp (ax_gx hE (257, [3, 7, 11, 15, 4008]) (by decide))
  obtain ⟨-, -, F242⟩ : ay_ex hp 173 ∧ ay_ex hp 185 ∧ py_y242 (ρ 2) (ay_at hp 173 27) (ay_at hp 185) := (ax_XF_lt (by decide)).mp (ax_gx hE (242, [11]) (by decide))
  obtain ⟨-, -, F241⟩ : ay_ex hp 180 ∧ ay_ex hp 182 ∧ py_y241 1 (ρ 4) (ay_at hp 180 1) (ay_at hp 182) := (ax_XF_lt (by decide)).mp (ax_gx hE (241, [19]) (by decide))
  have F251 : py_251 (ρ 4) (4008) (ρ 3) := (ax_XF_lt (by decide)).mp (ax_gx hE (251, [19, 4008, 15]) (by decide))
  refine ⟨(fun y hy => by cases hy), _, List.mem_cons_self, ρ, fun _ _ => rfl, ax_px hE (by decide) (fun x hx => ?_)⟩
  rcases List.mem_cons.mp hx with e | hx
  · subst e
    refine (ax_XF_lt (x := 247) (by decide)).mpr ?_
    show py_247 (pz_gt (ρ 0)) (pz_gN (ρ 0)) ((ρ 1) / 4) (ρ 2) (ρ 4)
    exact pm_mv2 F257 F251
  cases List.mem_singleton.mp hx
  refine (ax_XF_lt (x := 249) (by decide)).mpr ?_
  show py_249 (ρ 2) (ρ 4) (ρ 2) (ρ 4)
  exact (rfl : py_neg _ _ = _)

theorem axqg_md1_5 {w : ax_W} {b : Nat} (hw : ax_WW w) : ax_RO w (ax_XM b) axu0_md1_5 := by
  intro ρ hp hE hT
  have j0 : ρ 0 % 4 = 1 := pz_gj hE 0 (by decide) rfl
  have j1 : ρ 1 % 4 = 1 := pz_gj hE 1 (by decide) rfl
  obtain ⟨i2a, i2b, i2c, i2d⟩ := pz_gi hE 2 2147483651 2147483651 (by decide) rfl
  have c_token : ay_at hp 173 15 = some (ρ 2) := ay_gfj hE 702 60 11 173 15 (by decide) (by rw [ax_vl_c (by decide)]) (by rw [ax_vl_c (by decide)])
  obtain ⟨-, -, -, -, -, F151⟩ : ay_ex hp 173 ∧ ay_ex hp 173 ∧ ay_ex hp 173 ∧ ay_ex hp 173 ∧ ay_ex hp 173 ∧ pz_y151 (ρ 0) (ρ 1) (ay_at hp 173 13) (ay_at hp 173 14) (ay_at hp 173 15) (ay_at hp 173 16) (ay_at hp 173 17) := (ax_XF_lt (by decide)).mp (ax_gx hE (151, [3, 7]) (by decide))
  rw [c_token] at F151
  have F160 : pz60 (pz_gt (ρ 0)) (pz_gN (ρ 0)) ((ρ 1) / 4) ((20) / 4) := (ax_XF_lt (by decide)).mp (ax_gx hE (160, [3, 7, 20]) (by decide))
  have ht : ρ 2 / 4 = pz_tok (pz_kd (pz_gt (ρ 0)) (pz_gN (ρ 0)) (pz_p (pz_cf (pz_gt (ρ 0)) (pz_gN (ρ 0)) (ρ 1 / 4)))) := F151.2.2.1
  have hc := pz_tok_c (pz_kd (pz_gt (ρ 0)) (pz_gN (ρ 0)) (pz_p (pz_cf (pz_gt (ρ 0)) (pz_gN (ρ 0)) (ρ 1 / 4))))
  exfalso
  have e : pz_kd (pz_gt (ρ 0)) (pz_gN (ρ 0)) (pz_p (pz_cf (pz_gt (ρ 0)) (pz_gN (ρ 0)) (ρ 1 / 4))) = 1 := pz_wd1 F160
  rcases hc with h | h | h | h | h <;> omega
theorem axq0_md1_5 : ax_RO ax_wM0 (ax_XM 0) axu0_md1_5 := axqg_md1_5 ax_WW0
theorem axqg_md1_6 {w : ax_W} {b : Nat} (hw : ax_WW w) : ax_RO w (ax_XM b) axu0_md1_6 := by
  intro ρ hp hE hT
  have j0 : ρ 0 % 4 = 1 := pz_gj hE 0 (by decide) rfl
  have j1 : ρ 1 % 4 = 1 := pz_gj hE 1 (by decide) rfl
  obtain ⟨i2a, i2b, i2c, i2d⟩ := pz_gi hE 2 2147483651 2147483651 (by decide) rfl
  have c_token : ay_at hp 173 15 = some (ρ 2) := ay_gfj hE 702 60 11 173 15 (by decide) (by rw [ax_vl_c (by decide)]) (by rw [ax_vl_c (by decide)])
  obtain ⟨-, -, -, -, -, F151⟩ : ay_ex hp 173 ∧ ay_ex hp 173 ∧ ay_ex hp 173 ∧ ay_ex hp 173 ∧ ay_ex hp 173 ∧ pz_y151 (ρ 0) (ρ 1) (ay_at hp 173 13) (ay_at hp 173 14) (ay_at hp 173 15) (ay_at hp 173 16) (ay_at hp 173 17) := (ax_XF_lt (by decide)).mp (ax_gx hE (151, [3, 7]) (by decide))
  rw [c_token] at F151
  have F160 : pz60 (pz_gt (ρ 0)) (pz_gN (ρ 0)) ((ρ 1) / 4) ((24) / 4) := (ax_XF_lt (by decide)).mp (ax_gx hE (160, [3, 7, 24]) (by decide))
  have ht : ρ 2 / 4 = pz_tok (pz_kd (pz_gt (ρ 0)) (pz_gN (ρ 0)) (pz_p (pz_cf (pz_gt (ρ 0)) (pz_gN (ρ 0)) (ρ 1 / 4)))) := F151.2.2.1
  have hc := pz_tok_c (pz_kd (pz_gt (ρ 0)) (pz_gN (ρ 0)) (pz_p (pz_cf (pz_gt (ρ 0)) (pz_gN (ρ 0)) (ρ 1 / 4))))
  exfalso
  have e : pz_kd (pz_gt (ρ 0)) (pz_gN (ρ 0)) (pz_p (pz_cf (pz_gt (ρ 0)) (pz_gN (ρ 0)) (ρ 1 / 4))) = 1 := pz_wd1 F160
  rcases hc with h | h | h | h | h <;> omega
theorem axq0_md1_6 : ax_RO ax_wM0 (ax_XM 0) axu0_md1_6 := axqg_md1_6 ax_WW0
theorem axqg_md1_7 {w : ax_W} {b : Nat} (hw : ax_WW w) : ax_RO w (ax_XM b) axu0_md1_7 := by
  intro ρ hp hE hT
  have j0 : ρ 0 % 4 = 1 := pz_gj hE 0 (by decide) rfl
  have j1 : ρ 1 % 4 = 1 := pz_gj hE 1 (by decide) rfl
  obtain ⟨i2a, i2b, i2c, i2d⟩ := pz_gi hE 2 2147483651 2147483651 (by decide) rfl
  have c_token : ay_at hp 173 15 = some (ρ 2) := ay_gfj hE 702 60 11 173 15 (by decide) (by rw [ax_vl_c (by decide)]) (by rw [ax_vl_c (by decide)])
  obtain ⟨-, -, -, -, -, F151⟩ : ay_ex hp 173 ∧ ay_ex hp 173 ∧ ay_ex hp 173 ∧ ay_ex hp 173 ∧ ay_ex hp 173 ∧ pz_y151 (ρ 0) (ρ 1) (ay_at hp 173 13) (ay_at hp 173 14) (ay_at hp 173 15) (ay_at hp 173 16) (ay_at hp 173 17) := (ax_XF_lt (by decide)).mp (ax_gx hE (151, [3, 7]) (by decide))
  rw [c_token] at F151
  have F160 : pz60 (pz_gt (ρ 0)) (pz_gN (ρ 0)) ((ρ 1) / 4) ((28) / 4) := (ax_XF_lt (by decide)).mp (ax_gx hE (160, [3, 7, 28]) (by decide))
  have ht : ρ 2 / 4 = pz_tok (pz_kd (pz_gt (ρ 0)) (pz_gN (ρ 0)) (pz_p (pz_cf (pz_gt (ρ 0)) (pz_gN (ρ 0)) (ρ 1 / 4)))) := F151.2.2.1
  have hc := pz_tok_c (pz_kd (pz_gt (ρ 0)) (pz_gN (ρ 0)) (pz_p (pz_cf (pz_gt (ρ 0)) (pz_gN (ρ 0)) (ρ 1 / 4))))
  exfalso
  have e : pz_kd (pz_gt (ρ 0)) (pz_gN (ρ 0)) (pz_p (pz_cf (pz_gt (ρ 0)) (pz_gN (ρ 0)) (ρ 1 / 4))) = 1 := pz_wd1 F160
  rcases hc with h | h | h | h | h <;> omega
theorem axq0_md1_7 : ax_RO ax_wM0 (ax_XM 0) axu0_md1_7 := axqg_md1_7 ax_WW0
theorem axqg_md2a {w : ax_W} {b : Nat} (hw : ax_WW w) : ax_RO w (ax_XM b) axu0_md2a := by
  intro ρ hp hE hT
  have j0 : ρ 0 % 4 = 1 := pz_gj hE 0 (by decide) rfl
  have j1 : ρ 1 % 4 = 1 := pz_gj hE 1 (by decide) rfl
  obtain ⟨i2a, i2b, i2c, i2d⟩ := pz_gi hE 2 0 2147483650 (by decide) rfl
  have c_token : ay_at hp 173 15 = some (ρ 2) := ay_gfj hE 702 60 11 173 15 (by decide) (by rw [ax_vl_c (by decide)]) (by rw [ax_vl_c (by decide)])
  obtain ⟨-, -, -, -, -, F151⟩ : ay_ex hp 173 ∧ ay_ex hp 173 ∧ ay_ex hp 173 ∧ ay_ex hp 173 ∧ ay_ex hp 173 ∧ pz_y151 (ρ 0) (ρ 1) (ay_at hp 173 13) (ay_at hp 173 14) (ay_at hp 173 15) (ay_at hp 173 16) (ay_at hp 173 17) := (ax_XF_lt (by decide)).mp (ax_gx hE (151, [3, 7]) (by decide))
  rw [c_token] at F151
  have F207 : pz107 (pz_gt (ρ 0)) (pz_gN (ρ 0)) ((ρ 1) / 4) ((4) / 4) := (ax_XF_lt (by decide)).mp (ax_gx hE (207, [3, 7, 4]) (by decide))
  have ht : ρ 2 / 4 = pz_tok (pz_kd (pz_gt (ρ 0)) (pz_gN (ρ 0)) (pz_p (pz_cf (pz_gt (ρ 0)) (pz_gN (ρ 0)) (ρ 1 / 4)))) := F151.2.2.1
  have hc := pz_tok_c (pz_kd (pz_gt (ρ 0)) (pz_gN (ρ 0)) (pz_p (pz_cf (pz_gt (ρ 0)) (pz_gN (ρ 0)) (ρ 1 / 4))))
  exfalso
  have e := pr_k1 F207
  replace e : pz_kd (pz_gt (ρ 0)) (pz_gN (ρ 0)) (pz_p (pz_cf (pz_gt (ρ 0)) (pz_gN (ρ 0)) (ρ 1 / 4))) = 2 := e
  rcases hc with h | h | h | h | h <;> omega
theorem axq0_md2a : ax_RO ax_wM0 (ax_XM 0) axu0_md2a := axqg_md2a ax_WW0
theorem axqg_md2b {w : ax_W} {b : Nat} (hw : ax_WW w) : ax_RO w (ax_XM b) axu0_md2b := by
  intro ρ hp hE hT
  have j0 : ρ 0 % 4 = 1 := pz_gj hE 0 (by decide) rfl
  have j1 : ρ 1 % 4 = 1 := pz_gj hE 1 (by decide) rfl
  obtain ⟨i2a, i2b, i2c, i2d⟩ := pz_gi hE 2 2147483652 4294967295 (by decide) rfl
  have c_token : ay_at hp 173 15 = some (ρ 2) := ay_gfj hE 702 60 11 173 15 (by decide) (by rw [ax_vl_c (by decide)]) (by rw [ax_vl_c (by decide)])
  obtain ⟨-, -, -, -, -, F151⟩ : ay_ex hp 173 ∧ ay_ex hp 173 ∧ ay_ex hp 173 ∧ ay_ex hp 173 ∧ ay_ex hp 173 ∧ pz_y151 (ρ 0) (ρ 1) (ay_at hp 173 13) (ay_at hp 173 14) (ay_at hp 173 15) (ay_at hp 173 16) (ay_at hp 173 17) := (ax_XF_lt (by decide)).mp (ax_gx hE (151, [3, 7]) (by decide))
  rw [c_token] at F151
  have F207 : pz107 (pz_gt (ρ 0)) (pz_gN (ρ 0)) ((ρ 1) / 4) ((4) / 4) := (ax_XF_lt (by decide)).mp (ax_gx hE (207, [3, 7, 4]) (by decide))
  have ht : ρ 2 / 4 = pz_tok (pz_kd (pz_gt (ρ 0)) (pz_gN (ρ 0)) (pz_p (pz_cf (pz_gt (ρ 0)) (pz_gN (ρ 0)) (ρ 1 / 4)))) := F151.2.2.1
  have hc := pz_tok_c (pz_kd (pz_gt (ρ 0)) (pz_gN (ρ 0)) (pz_p (pz_cf (pz_gt (ρ 0)) (pz_gN (ρ 0)) (ρ 1 / 4))))
  exfalso
  have e := pr_k1 F207
  replace e : pz_kd (pz_gt (ρ 0)) (pz_gN (ρ 0)) (pz_p (pz_cf (pz_gt (ρ 0)) (pz_gN (ρ 0)) (ρ 1 / 4))) = 2 := e
  rcases hc with h | h | h | h | h <;> omega
theorem axq0_md2b : ax_RO ax_wM0 (ax_XM 0) axu0_md2b := axqg_md2b ax_WW0
theorem axqg_md3_5_6 {w : ax_W} {b : Nat} (hw : ax_WW w) : ax_RO w (ax_XM b) axu0_md3_5_6 := by
  intro ρ hp hE hT
  have j0 : ρ 0 % 4 = 1 := pz_gj hE 0 (by decide) rfl
  have j1 : ρ 1 % 4 = 1 := pz_gj hE 1 (by decide) rfl
  obtain ⟨i2a, i2b, i2c, i2d⟩ := pz_gi hE 2 2147483653 2147483653 (by decide) rfl
  have c_word : ay_at hp 173 17 = some (ρ 2) := ay_gfj hE 702 68 11 173 17 (by decide) (by rw [ax_vl_c (by decide)]) (by rw [ax_vl_c (by decide)])
  obtain ⟨-, -, -, -, -, F151⟩ : ay_ex hp 173 ∧ ay_ex hp 173 ∧ ay_ex hp 173 ∧ ay_ex hp 173 ∧ ay_ex hp 173 ∧ pz_y151 (ρ 0) (ρ 1) (ay_at hp 173 13) (ay_at hp 173 14) (ay_at hp 173 15) (ay_at hp 173 16) (ay_at hp 173 17) := (ax_XF_lt (by decide)).mp (ax_gx hE (151, [3, 7]) (by decide))
  rw [c_word] at F151
  have F160 : pz60 (pz_gt (ρ 0)) (pz_gN (ρ 0)) ((ρ 1) / 4) ((24) / 4) := (ax_XF_lt (by decide)).mp (ax_gx hE (160, [3, 7, 24]) (by decide))
  exfalso
  have hk : pz_kd (pz_gt (ρ 0)) (pz_gN (ρ 0)) (pz_p (pz_cf (pz_gt (ρ 0)) (pz_gN (ρ 0)) (ρ 1 / 4))) = 1 := pz_wd1 F160
  have hw : ρ 2 / 4 = pz_wix (pz_gt (ρ 0)) (pz_gN (ρ 0)) (pz_p (pz_cf (pz_gt (ρ 0)) (pz_gN (ρ 0)) (ρ 1 / 4))) := F151.2.2.2.2 hk
  have e := pz_wix_3 (k := 6) (by decide) F160
  replace e : pz_wix (pz_gt (ρ 0)) (pz_gN (ρ 0)) (pz_p (pz_cf (pz_gt (ρ 0)) (pz_gN (ρ 0)) (ρ 1 / 4))) = 6 := e
  omega
theorem axq0_md3_5_6 : ax_RO ax_wM0 (ax_XM 0) axu0_md3_5_6 := axqg_md3_5_6 ax_WW0
theorem axqg_md3_5_7 {w : ax_W} {b : Nat} (hw : ax_WW w) : ax_RO w (ax_XM b) axu0_md3_5_7 := by
  intro ρ hp hE hT
  have j0 : ρ 0 % 4 = 1 := pz_gj hE 0 (by decide) rfl
  have j1 : ρ 1 % 4 = 1 := pz_gj hE 1 (by decide) rfl
  obtain ⟨i2a, i2b, i2c, i2d⟩ := pz_gi hE 2 2147483653 2147483653 (by decide) rfl
  have c_word : ay_at hp 173 17 = some (ρ 2) := ay_gfj hE 702 68 11 173 17 (by decide) (by rw [ax_vl_c (by decide)]) (by rw [ax_vl_c (by decide)])
  obtain ⟨-, -, -, -, -, F151⟩ : ay_ex hp 173 ∧ ay_ex hp 173 ∧ ay_ex hp 173 ∧ ay_ex hp 173 ∧ ay_ex hp 173 ∧ pz_y151 (ρ 0) (ρ 1) (ay_at hp 173 13) (ay_at hp 173 14) (ay_at hp 173 15) (ay_at hp 173 16) (ay_at hp 173 17) := (ax_XF_lt (by decide)).mp (ax_gx hE (151, [3, 7]) (by decide))
  rw [c_word] at F151
  have F160 : pz60 (pz_gt (ρ 0)) (pz_gN (ρ 0)) ((ρ 1) / 4) ((28) / 4) := (ax_XF_lt (by decide)).mp (ax_gx hE (160, [3, 7, 28]) (by decide))
  exfalso
  have hk : pz_kd (pz_gt (ρ 0)) (pz_gN (ρ 0)) (pz_p (pz_cf (pz_gt (ρ 0)) (pz_gN (ρ 0)) (ρ 1 / 4))) = 1 := pz_wd1 F160
  have hw : ρ 2 / 4 = pz_wix (pz_gt (ρ 0)) (pz_gN (ρ 0)) (pz_p (pz_cf (pz_gt (ρ 0)) (pz_gN (ρ 0)) (ρ 1 / 4))) := F151.2.2.2.2 hk
  have e := pz_wix_3 (k := 7) (by decide) F160
  replace e : pz_wix (pz_gt (ρ 0)) (pz_gN (ρ 0)) (pz_p (pz_cf (pz_gt (ρ 0)) (pz_gN (ρ 0)) (ρ 1 / 4))) = 7 := e
  omega
theorem axq0_md3_5_7 : ax_RO ax_wM0 (ax_XM 0) axu0_md3_5_7 := axqg_md3_5_7 ax_WW0
theorem axqg_md3_6_7 {w : ax_W} {b : Nat} (hw : ax_WW w) : ax_RO w (ax_XM b) axu0_md3_6_7 := by
  intro ρ hp hE hT
  have j0 : ρ 0 % 4 = 1 := pz_gj hE 0 (by decide) rfl
  have j1 : ρ 1 % 4 = 1 := pz_gj hE 1 (by decide) rfl
  obtain ⟨i2a, i2b, i2c, i2d⟩ := pz_gi hE 2 2147483654 2147483654 (by decide) rfl
  have c_word : ay_at hp 173 17 = some (ρ 2) := ay_gfj hE 702 68 11 173 17 (by decide) (by rw [ax_vl_c (by decide)]) (by rw [ax_vl_c (by decide)])
  obtain ⟨-, -, -, -, -, F151⟩ : ay_ex hp 173 ∧ ay_ex hp 173 ∧ ay_ex hp 173 ∧ ay_ex hp 173 ∧ ay_ex hp 173 ∧ pz_y151 (ρ 0) (ρ 1) (ay_at hp 173 13) (ay_at hp 173 14) (ay_at hp 173 15) (ay_at hp 173 16) (ay_at hp 173 17) := (ax_XF_lt (by decide)).mp (ax_gx hE (151, [3, 7]) (by decide))
  rw [c_word] at F151
  have F160 : pz60 (pz_gt (ρ 0)) (pz_gN (ρ 0)) ((ρ 1) / 4) ((28) / 4) := (ax_XF_lt (by decide)).mp (ax_gx hE (160, [3, 7, 28]) (by decide))
  exfalso
  have hk : pz_kd (pz_gt (ρ 0)) (pz_gN (ρ 0)) (pz_p (pz_cf (pz_gt (ρ 0)) (pz_gN (ρ 0)) (ρ 1 / 4))) = 1 := pz_wd1 F160
  have hw : ρ 2 / 4 = pz_wix (pz_gt (ρ 0)) (pz_gN (ρ 0)) (pz_p (pz_cf (pz_gt (ρ 0)) (pz_gN (ρ 0)) (ρ 1 / 4))) := F151.2.2.2.2 hk
  have e := pz_wix_3 (k := 7) (by decide) F160
  replace e : pz_wix (pz_gt (ρ 0)) (pz_gN (ρ 0)) (pz_p (pz_cf (pz_gt (ρ 0)) (pz_gN (ρ 0)) (ρ 1 / 4))) = 7 := e
  omega
theorem axq0_md3_6_7 : ax_RO ax_wM0 (ax_XM 0) axu0_md3_6_7 := axqg_md3_6_7 ax_WW0
theorem axqg_md3_6_5 {w : ax_W} {b : Nat} (hw : ax_WW w) : ax_RO w (ax_XM b) axu0_md3_6_5 := by
  intro ρ hp hE hT
  have j0 : ρ 0 % 4 = 1 := pz_gj hE 0 (by decide) rfl
  have j1 : ρ 1 % 4 = 1 := pz_gj hE 1 (by decide) rfl
  obtain ⟨i2a, i2b, i2c, i2d⟩ := pz_gi hE 2 2147483654 2147483654 (by decide) rfl
  have c_word : ay_at hp 173 17 = some (ρ 2) := ay_gfj hE 702 68 11 173 17 (by decide) (by rw [ax_vl_c (by decide)]) (by rw [ax_vl_c (by decide)])
  obtain ⟨-, -, -, -, -, F151⟩ : ay_ex hp 173 ∧ ay_ex hp 173 ∧ ay_ex hp 173 ∧ ay_ex hp 173 ∧ ay_ex hp 173 ∧ pz_y151 (ρ 0) (ρ 1) (ay_at hp 173 13) (ay_at hp 173 14) (ay_at hp 173 15) (ay_at hp 173 16) (ay_at hp 173 17) := (ax_XF_lt (by decide)).mp (ax_gx hE (151, [3, 7]) (by decide))
  rw [c_word] at F151
  have F160 : pz60 (pz_gt (ρ 0)) (pz_gN (ρ 0)) ((ρ 1) / 4) ((20) / 4) := (ax_XF_lt (by decide)).mp (ax_gx hE (160, [3, 7, 20]) (by decide))
  exfalso
  have hk : pz_kd (pz_gt (ρ 0)) (pz_gN (ρ 0)) (pz_p (pz_cf (pz_gt (ρ 0)) (pz_gN (ρ 0)) (ρ 1 / 4))) = 1 := pz_wd1 F160
  have hw : ρ 2 / 4 = pz_wix (pz_gt (ρ 0)) (pz_gN (ρ 0)) (pz_p (pz_cf (pz_gt (ρ 0)) (pz_gN (ρ 0)) (ρ 1 / 4))) := F151.2.2.2.2 hk
  have e := pz_wix_3 (k := 5) (by decide) F160
  replace e : pz_wix (pz_gt (ρ 0)) (pz_gN (ρ 0)) (pz_p (pz_cf (pz_gt (ρ 0)) (pz_gN (ρ 0)) (ρ 1 / 4))) = 5 := e
  omega
theorem axq0_md3_6_5 : ax_RO ax_wM0 (ax_XM 0) axu0_md3_6_5 := axqg_md3_6_5 ax_WW0
theorem axqg_md4a_222_5 {w : ax_W} {b : Nat} (hw : ax_WW w) : ax_RO w (ax_XM b) axu0_md4a_222_5 := by
  intro ρ hp hE hT
  have j0 : ρ 0 % 4 = 1 := pz_gj hE 0 (by decide) rfl
  have j1 : ρ 1 % 4 = 1 := pz_gj hE 1 (by decide) rfl
  obtain ⟨i2a, i2b, i2c, i2d⟩ := pz_gi hE 2 0 2147483652 (by decide) rfl
  have c_word : ay_at hp 173 17 = some (ρ 2) := ay_gfj hE 702 68 11 173 17 (by decide) (by rw [ax_vl_c (by decide)]) (by rw [ax_vl_c (by decide)])
  obtain ⟨-, -, -, -, -, F151⟩ : ay_ex hp 173 ∧ ay_ex hp 173 ∧ ay_ex hp 173 ∧ ay_ex hp 173 ∧ ay_ex hp 173 ∧ pz_y151 (ρ 0) (ρ 1) (ay_at hp 173 13) (ay_at hp 173 14) (ay_at hp 173 15) (ay_at hp 173 16) (ay_at hp 173 17) := (ax_XF_lt (by decide)).mp (ax_gx hE (151, [3, 7]) (by decide))
  rw [c_word] at F151
  have F160 : pz60 (pz_gt (ρ 0)) (pz_gN (ρ 0)) ((ρ 1) / 4) ((20) / 4) := (ax_XF_lt (by decide)).mp (ax_gx hE (160, [3, 7, 20]) (by decide))
  exfalso
  have hk : pz_kd (pz_gt (ρ 0)) (pz_gN (ρ 0)) (pz_p (pz_cf (pz_gt (ρ 0)) (pz_gN (ρ 0)) (ρ 1 / 4))) = 1 := pz_wd1 F160
  have hw : ρ 2 / 4 = pz_wix (pz_gt (ρ 0)) (pz_gN (ρ 0)) (pz_p (pz_cf (pz_gt (ρ 0)) (pz_gN (ρ 0)) (ρ 1 / 4))) := F151.2.2.2.2 hk
  have e := pz_wix_3 (k := 5) (by decide) F160
  replace e : pz_wix (pz_gt (ρ 0)) (pz_gN (ρ 0)) (pz_p (pz_cf (pz_gt (ρ 0)) (pz_gN (ρ 0)) (ρ 1 / 4))) = 5 := e
  omega
theorem axq0_md4a_222_5 : ax_RO ax_wM0 (ax_XM 0) axu0_md4a_222_5 := axqg_md4a_222_5 ax_WW0
theorem axqg_md4b_222_5 {w : ax_W} {b : Nat} (hw : ax_WW w) : ax_RO w (ax_XM b) axu0_md4b_222_5 := by
  intro ρ hp hE hT
  have j0 : ρ 0 % 4 = 1 := pz_gj hE 0 (by decide) rfl
  have j1 : ρ 1 % 4 = 1 := pz_gj hE 1 (by decide) rfl
  obtain ⟨i2a, i2b, i2c, i2d⟩ := pz_gi hE 2 2147483654 4294967295 (by decide) rfl
  have c_word : ay_at hp 173 17 = some (ρ 2) := ay_gfj hE 702 68 11 173 17 (by decide) (by rw [ax_vl_c (by decide)]) (by rw [ax_vl_c (by decide)])
  obtain ⟨-, -, -, -, -, F151⟩ : ay_ex hp 173 ∧ ay_ex hp 173 ∧ ay_ex hp 173 ∧ ay_ex hp 173 ∧ ay_ex hp 173 ∧ pz_y151 (ρ 0) (ρ 1) (ay_at hp 173 13) (ay_at hp 173 14) (ay_at hp 173 15) (ay_at hp 173 16) (ay_at hp 173 17) := (ax_XF_lt (by decide)).mp (ax_gx hE (151, [3, 7]) (by decide))
  rw [c_word] at F151
  have F160 : pz60 (pz_gt (ρ 0)) (pz_gN (ρ 0)) ((ρ 1) / 4) ((20) / 4) := (ax_XF_lt (by decide)).mp (ax_gx hE (160, [3, 7, 20]) (by decide))
  exfalso
  have hk : pz_kd (pz_gt (ρ 0)) (pz_gN (ρ 0)) (pz_p (pz_cf (pz_gt (ρ 0)) (pz_gN (ρ 0)) (ρ 1 / 4))) = 1 := pz_wd1 F160
  have hw : ρ 2 / 4 = pz_wix (pz_gt (ρ 0)) (pz_gN (ρ 0)) (pz_p (pz_cf (pz_gt (ρ 0)) (pz_gN (ρ 0)) (ρ 1 / 4))) := F151.2.2.2.2 hk
  have e := pz_wix_3 (k := 5) (by decide) F160
  replace e : pz_wix (pz_gt (ρ 0)) (pz_gN (ρ 0)) (pz_p (pz_cf (pz_gt (ρ 0)) (pz_gN (ρ 0)) (ρ 1 / 4))) = 5 := e
  omega
theorem axq0_md4b_222_5 : ax_RO ax_wM0 (ax_XM 0) axu0_md4b_222_5 := axqg_md4b_222_5 ax_WW0
theorem axqg_md4a_237_6 {w : ax_W} {b : Nat} (hw : ax_WW w) : ax_RO w (ax_XM b) axu0_md4a_237_6 := by
  intro ρ hp hE hT
  have j0 : ρ 0 % 4 = 1 := pz_gj hE 0 (by decide) rfl
  have j1 : ρ 1 % 4 = 1 := pz_gj hE 1 (by decide) rfl
  obtain ⟨i2a, i2b, i2c, i2d⟩ := pz_gi hE 2 0 2147483653 (by decide) rfl
  have c_word : ay_at hp 173 17 = some (ρ 2) := ay_gfj hE 702 68 11 173 17 (by decide) (by rw [ax_vl_c (by decide)]) (by rw [ax_vl_c (by decide)])
  obtain ⟨-, -, -, -, -, F151⟩ : ay_ex hp 173 ∧ ay_ex hp 173 ∧ ay_ex hp 173 ∧ ay_ex hp 173 ∧ ay_ex hp 173 ∧ pz_y151 (ρ 0) (ρ 1) (ay_at hp 173 13) (ay_at hp 173 14) (ay_at hp 173 15) (ay_at hp 173 16) (ay_at hp 173 17) := (ax_XF_lt (by decide)).mp (ax_gx hE (151, [3, 7]) (by decide))
  rw [c_word] at F151
  have F160 : pz60 (pz_gt (ρ 0)) (pz_gN (ρ 0)) ((ρ 1) / 4) ((24) / 4) := (ax_XF_lt (by decide)).mp (ax_gx hE (160, [3, 7, 24]) (by decide))
  exfalso
  have hk : pz_kd (pz_gt (ρ 0)) (pz_gN (ρ 0)) (pz_p (pz_cf (pz_gt (ρ 0)) (pz_gN (ρ 0)) (ρ 1 / 4))) = 1 := pz_wd1 F160
  have hw : ρ 2 / 4 = pz_wix (pz_gt (ρ 0)) (pz_gN (ρ 0)) (pz_p (pz_cf (pz_gt (ρ 0)) (pz_gN (ρ 0)) (ρ 1 / 4))) := F151.2.2.2.2 hk
  have e := pz_wix_3 (k := 6) (by decide) F160
  replace e : pz_wix (pz_gt (ρ 0)) (pz_gN (ρ 0)) (pz_p (pz_cf (pz_gt (ρ 0)) (pz_gN (ρ 0)) (ρ 1 / 4))) = 6 := e
  omega
theorem axq0_md4a_237_6 : ax_RO ax_wM0 (ax_XM 0) axu0_md4a_237_6 := axqg_md4a_237_6 ax_WW0
theorem axqg_md4b_237_6 {w : ax_W} {b : Nat} (hw : ax_WW w) : ax_RO w (ax_XM b) axu0_md4b_237_6 := by
  intro ρ hp hE hT
  have j0 : ρ 0 % 4 = 1 := pz_gj hE 0 (by decide) rfl
  have j1 : ρ 1 % 4 = 1 := pz_gj hE 1 (by decide) rfl
  obtain ⟨i2a, i2b, i2c, i2d⟩ := pz_gi hE 2 2147483655 4294967295 (by decide) rfl
  have c_word : ay_at hp 173 17 = some (ρ 2) := ay_gfj hE 702 68 11 173 17 (by decide) (by rw [ax_vl_c (by decide)]) (by rw [ax_vl_c (by decide)])
  obtain ⟨-, -, -, -, -, F151⟩ : ay_ex hp 173 ∧ ay_ex hp 173 ∧ ay_ex hp 173 ∧ ay_ex hp 173 ∧ ay_ex hp 173 ∧ pz_y151 (ρ 0) (ρ 1) (ay_at hp 173 13) (ay_at hp 173 14) (ay_at hp 173 15) (ay_at hp 173 16) (ay_at hp 173 17) := (ax_XF_lt (by decide)).mp (ax_gx hE (151, [3, 7]) (by decide))
  rw [c_word] at F151
  have F160 : pz60 (pz_gt (ρ 0)) (pz_gN (ρ 0)) ((ρ 1) / 4) ((24) / 4) := (ax_XF_lt (by decide)).mp (ax_gx hE (160, [3, 7, 24]) (by decide))
  exfalso
  have hk : pz_kd (pz_gt (ρ 0)) (pz_gN (ρ 0)) (pz_p (pz_cf (pz_gt (ρ 0)) (pz_gN (ρ 0)) (ρ 1 / 4))) = 1 := pz_wd1 F160
  have hw : ρ 2 / 4 = pz_wix (pz_gt (ρ 0)) (pz_gN (ρ 0)) (pz_p (pz_cf (pz_gt (ρ 0)) (pz_gN (ρ 0)) (ρ 1 / 4))) := F151.2.2.2.2 hk
  have e := pz_wix_3 (k := 6) (by decide) F160
  replace e : pz_wix (pz_gt (ρ 0)) (pz_gN (ρ 0)) (pz_p (pz_cf (pz_gt (ρ 0)) (pz_gN (ρ 0)) (ρ 1 / 4))) = 6 := e
  omega
theorem axq0_md4b_237_6 : ax_RO ax_wM0 (ax_XM 0) axu0_md4b_237_6 := axqg_md4b_237_6 ax_WW0
theorem axqg_md4a_237_5 {w : ax_W} {b : Nat} (hw : ax_WW w) : ax_RO w (ax_XM b) axu0_md4a_237_5 := by
  intro ρ hp hE hT
  have j0 : ρ 0 % 4 = 1 := pz_gj hE 0 (by decide) rfl
  have j1 : ρ 1 % 4 = 1 := pz_gj hE 1 (by decide) rfl
  obtain ⟨i2a, i2b, i2c, i2d⟩ := pz_gi hE 2 0 2147483652 (by decide) rfl
  have c_word : ay_at hp 173 17 = some (ρ 2) := ay_gfj hE 702 68 11 173 17 (by decide) (by rw [ax_vl_c (by decide)]) (by rw [ax_vl_c (by decide)])
  obtain ⟨-, -, -, -, -, F151⟩ : ay_ex hp 173 ∧ ay_ex hp 173 ∧ ay_ex hp 173 ∧ ay_ex hp 173 ∧ ay_ex hp 173 ∧ pz_y151 (ρ 0) (ρ 1) (ay_at hp 173 13) (ay_at hp 173 14) (ay_at hp 173 15) (ay_at hp 173 16) (ay_at hp 173 17) := (ax_XF_lt (by decide)).mp (ax_gx hE (151, [3, 7]) (by decide))
  rw [c_word] at F151
  have F160 : pz60 (pz_gt (ρ 0)) (pz_gN (ρ 0)) ((ρ 1) / 4) ((20) / 4) := (ax_XF_lt (by decide)).mp (ax_gx hE (160, [3, 7, 20]) (by decide))
  exfalso
  have hk : pz_kd (pz_gt (ρ 0)) (pz_gN (ρ 0)) (pz_p (pz_cf (pz_gt (ρ 0)) (pz_gN (ρ 0)) (ρ 1 / 4))) = 1 := pz_wd1 F160
  have hw : ρ 2 / 4 = pz_wix (pz_gt (ρ 0)) (pz_gN (ρ 0)) (pz_p (pz_cf (pz_gt (ρ 0)) (pz_gN (ρ 0)) (ρ 1 / 4))) := F151.2.2.2.2 hk
  have e := pz_wix_3 (k := 5) (by decide) F160
  replace e : pz_wix (pz_gt (ρ 0)) (pz_gN (ρ 0)) (pz_p (pz_cf (pz_gt (ρ 0)) (pz_gN (ρ 0)) (ρ 1 / 4))) = 5 := e
  omega
theorem axq0_md4a_237_5 : ax_RO ax_wM0 (ax_XM 0) axu0_md4a_237_5 := axqg_md4a_237_5 ax_WW0
theorem axqg_md4b_237_5 {w : ax_W} {b : Nat} (hw : ax_WW w) : ax_RO w (ax_XM b) axu0_md4b_237_5 := by
  intro ρ hp hE hT
  have j0 : ρ 0 % 4 = 1 := pz_gj hE 0 (by decide) rfl
  have j1 : ρ 1 % 4 = 1 := pz_gj hE 1 (by decide) rfl
  obtain ⟨i2a, i2b, i2c, i2d⟩ := pz_gi hE 2 2147483654 4294967295 (by decide) rfl
  have c_word : ay_at hp 173 17 = some (ρ 2) := ay_gfj hE 702 68 11 173 17 (by decide) (by rw [ax_vl_c (by decide)]) (by rw [ax_vl_c (by decide)])
  obtain ⟨-, -, -, -, -, F151⟩ : ay_ex hp 173 ∧ ay_ex hp 173 ∧ ay_ex hp 173 ∧ ay_ex hp 173 ∧ ay_ex hp 173 ∧ pz_y151 (ρ 0) (ρ 1) (ay_at hp 173 13) (ay_at hp 173 14) (ay_at hp 173 15) (ay_at hp 173 16) (ay_at hp 173 17) := (ax_XF_lt (by decide)).mp (ax_gx hE (151, [3, 7]) (by decide))
  rw [c_word] at F151
  have F160 : pz60 (pz_gt (ρ 0)) (pz_gN (ρ 0)) ((ρ 1) / 4) ((20) / 4) := (ax_XF_lt (by decide)).mp (ax_gx hE (160, [3, 7, 20]) (by decide))
  exfalso
  have hk : pz_kd (pz_gt (ρ 0)) (pz_gN (ρ 0)) (pz_p (pz_cf (pz_gt (ρ 0)) (pz_gN (ρ 0)) (ρ 1 / 4))) = 1 := pz_wd1 F160
  have hw : ρ 2 / 4 = pz_wix (pz_gt (ρ 0)) (pz_gN (ρ 0)) (pz_p (pz_cf (pz_gt (ρ 0)) (pz_gN (ρ 0)) (ρ 1 / 4))) := F151.2.2.2.2 hk
  have e := pz_wix_3 (k := 5) (by decide) F160
  replace e : pz_wix (pz_gt (ρ 0)) (pz_gN (ρ 0)) (pz_p (pz_cf (pz_gt (ρ 0)) (pz_gN (ρ 0)) (ρ 1 / 4))) = 5 := e
  omega
theorem axq0_md4b_237_5 : ax_RO ax_wM0 (ax_XM 0) axu0_md4b_237_5 := axqg_md4b_237_5 ax_WW0
theorem axq0_mv3 : ax_RO ax_wM0 (ax_XM 0) axu0_mv3 := by
  intro ρ hp hE hT
  have j0 : ρ 0 % 4 = 1 := pz_gj hE 0 (by decide) rfl
  have j1 : ρ 1 % 4 = 1 := pz_gj hE 1 (by decide) rfl
  have j2 : ρ 2 % 4 = 1 := pz_gj hE 2 (by decide) rfl
  have j3 : ρ 3 % 4 = 1 := pz_gj hE 3 (by decide) rfl
  have j4 : ρ 4 % 4 = 1 := pz_gj hE 4 (by decide) rfl
  have j5 : ρ 5 % 4 = 1 := pz_gj hE 5 (by decide) rfl
  obtain ⟨-, -, -, -, -, F151⟩ : ay_ex hp 173 ∧ ay_ex hp 173 ∧ ay_ex hp 173 ∧ ay_ex hp 173 ∧ ay_ex hp 173 ∧ pz_y151 (ρ 0) (ρ 1) (ay_at hp 173 13) (ay_at hp 173 14) (ay_at hp 173 15) (ay_at hp 173 16) (ay_at hp 173 17) := (ax_XF_lt (by decide)).mp (ax_gx hE (151, [3, 7]) (by decide))
  have F247 : py_247 (pz_gt (ρ 0)) (pz_gN (ρ 0)) ((ρ 1) / 4) (ρ 2) (ρ 3) := (ax_XF_lt (by decide)).mp (ax_gx hE (247, [3, 7, 11, 15]) (by decide))
  have F253 : py_253 (ρ 2) (ρ 3) (ρ 4) (ρ 5) := (ax_XF_lt (by decide)).mp (ax_gx hE (253, [11, 15, 19, 23]) (by decide))
  obtain ⟨-, -, F242⟩ : ay_ex hp 173 ∧ ay_ex hp 185 ∧ py_y242 (ρ 4) (ay_at hp 173 27) (ay_at hp 185) := (ax_XF_lt (by decide)).mp (ax_gx hE (242, [19]) (by decide))
  obtain ⟨-, -, F241⟩ : ay_ex hp 180 ∧ ay_ex hp 182 ∧ py_y241 1 (ρ 5) (ay_at hp 180 1) (ay_at hp 182) := (ax_XF_lt (by decide)).mp (ax_gx hE (241, [23]) (by decide))
  refine ⟨(fun y hy => by cases hy), _, List.mem_cons_self, ρ, fun _ _ => rfl, ax_px hE (by decide) (fun x hx => ?_)⟩
  cases List.mem_singleton.mp hx
  refine (ax_XF_lt (x := 246) (by decide)).mpr ?_
  show py_y246 (pz_gt (ρ 0)) (pz_gN (ρ 0)) ((ρ 1) / 4) (ρ 4) (ρ 5)
  exact pm_cq5 F247 F253

theorem axqg_mv4_40 {w : ax_W} {b : Nat} (hw : ax_WW w) : ax_RO w (ax_XM b) axu0_mv4_40 := by
  intro ρ hp hE hT
  have j0 : ρ 0 % 4 = 1 := pz_gj hE 0 (by decide) rfl
  have j1 : ρ 1 % 4 = 1 := pz_gj hE 1 (by decide) rfl
  have j2 : ρ 2 % 4 = 1 := pz_gj hE 2 (by decide) rfl
  have j3 : ρ 3 % 4 = 1 := pz_gj hE 3 (by decide) rfl
  have j4 : ρ 4 % 4 = 1 := pz_gj hE 4 (by decide) rfl
  obtain ⟨-, -, -, -, -, F151⟩ : ay_ex hp 173 ∧ ay_ex hp 173 ∧ ay_ex hp 173 ∧ ay_ex hp 173 ∧ ay_ex hp 173 ∧ pz_y151 (ρ 0) (ρ 1) (ay_at hp 173 13) (ay_at hp 173 14) (ay_at hp 173 15) (ay_at hp 173 16) (ay_at hp 173 17) := (ax_XF_lt (by decide)).mp (ax_gx hE (151, [3, 7]) (by decide))
  have F182 : (ρ 2) / 4 = (ρ 1) / 4 + 1 := (ax_XF_lt (by decide)).mp (ax_gx hE (182, [7, 11]) (by decide))
  have F178 : pz7 (pz_gt (ρ 0)) (pz_gN (ρ 0)) ((ρ 1) / 4) 8 := (ax_XF_lt (by decide)).mp (ax_gx hE (178, [3, 7]) (by decide))
  have F207 : pz107 (pz_gt (ρ 0)) (pz_gN (ρ 0)) ((ρ 1) / 4) ((160) / 4) := (ax_XF_lt (by decide)).mp (ax_gx hE (207, [3, 7, 160]) (by decide))
  have F246 : py_y246 (pz_gt (ρ 0)) (pz_gN (ρ 0)) ((ρ 1) / 4) (ρ 3) (ρ 4) := (ax_XF_lt (by decide)).mp (ax_gx hE (246, [3, 7, 15, 19]) (by decide))
  refine ⟨(fun y hy => by cases hy), _, List.mem_cons_self, ρ, fun _ _ => rfl, ax_px hE (by decide) (fun x hx => ?_)⟩
  cases List.mem_singleton.mp hx
  refine (ax_XF_lt (x := 258) (by decide)).mpr ?_
  show py_258 (pz_gt (ρ 0)) (pz_gN (ρ 0)) ((ρ 2) / 4) (4036) (ρ 3) (ρ 4)
  exact pm_mvO F178 (pr_k40 F207) F182 F246
theorem axq0_mv4_40 : ax_RO ax_wM0 (ax_XM 0) axu0_mv4_40 := axqg_mv4_40 ax_WW0
theorem axqg_mv5_40 {w : ax_W} {b : Nat} (hw : ax_WW w) : ax_RO w (ax_XM b) axu0_mv5_40 := by
  intro ρ hp hE hT
  have j0 : ρ 0 % 4 = 1 := pz_gj hE 0 (by decide) rfl
  have j1 : ρ 1 % 4 = 1 := pz_gj hE 1 (by decide) rfl
  have j2 : ρ 2 % 4 = 1 := pz_gj hE 2 (by decide) rfl
  have j3 : ρ 3 % 4 = 1 := pz_gj hE 3 (by decide) rfl
  have j4 : ρ 4 % 4 = 1 := pz_gj hE 4 (by decide) rfl
  obtain ⟨-, -, -, -, -, F151⟩ : ay_ex hp 173 ∧ ay_ex hp 173 ∧ ay_ex hp 173 ∧ ay_ex hp 173 ∧ ay_ex hp 173 ∧ pz_y151 (ρ 0) (ρ 1) (ay_at hp 173 13) (ay_at hp 173 14) (ay_at hp 173 15) (ay_at hp 173 16) (ay_at hp 173 17) := (ax_XF_lt (by decide)).mp (ax_gx hE (151, [3, 7]) (by decide))
  have F258 : py_258 (pz_gt (ρ 0)) (pz_gN (ρ 0)) ((ρ 1) / 4) (4036) (ρ 2) (ρ 4) := (ax_XF_lt (by decide)).mp (ax_gx hE (258, [3, 7, 4036, 11, 19]) (by decide))
  obtain ⟨-, -, F242⟩ : ay_ex hp 173 ∧ ay_ex hp 185 ∧ py_y242 (ρ 3) (ay_at hp 173 27) (ay_at hp 185) := (ax_XF_lt (by decide)).mp (ax_gx hE (242, [15]) (by decide))
  have F251 : py_251 (ρ 3) (4036) (ρ 2) := (ax_XF_lt (by decide)).mp (ax_gx hE (251, [15, 4036, 11]) (by decide))
  refine ⟨(fun y hy => by cases hy), _, List.mem_cons_self, ρ, fun _ _ => rfl, ax_px hE (by decide) (fun x hx => ?_)⟩
  cases List.mem_singleton.mp hx
  refine (ax_XF_lt (x := 246) (by decide)).mpr ?_
  show py_y246 (pz_gt (ρ 0)) (pz_gN (ρ 0)) ((ρ 1) / 4) (ρ 3) (ρ 4)
  exact pm_mv5 F258 F251
theorem axq0_mv5_40 : ax_RO ax_wM0 (ax_XM 0) axu0_mv5_40 := axqg_mv5_40 ax_WW0
theorem axqg_mv4_5 {w : ax_W} {b : Nat} (hw : ax_WW w) : ax_RO w (ax_XM b) axu0_mv4_5 := by
  intro ρ hp hE hT
  have j0 : ρ 0 % 4 = 1 := pz_gj hE 0 (by decide) rfl
  have j1 : ρ 1 % 4 = 1 := pz_gj hE 1 (by decide) rfl
  have j2 : ρ 2 % 4 = 1 := pz_gj hE 2 (by decide) rfl
  have j3 : ρ 3 % 4 = 1 := pz_gj hE 3 (by decide) rfl
  have j4 : ρ 4 % 4 = 1 := pz_gj hE 4 (by decide) rfl
  obtain ⟨-, -, -, -, -, F151⟩ : ay_ex hp 173 ∧ ay_ex hp 173 ∧ ay_ex hp 173 ∧ ay_ex hp 173 ∧ ay_ex hp 173 ∧ pz_y151 (ρ 0) (ρ 1) (ay_at hp 173 13) (ay_at hp 173 14) (ay_at hp 173 15) (ay_at hp 173 16) (ay_at hp 173 17) := (ax_XF_lt (by decide)).mp (ax_gx hE (151, [3, 7]) (by decide))
  have F182 : (ρ 2) / 4 = (ρ 1) / 4 + 1 := (ax_XF_lt (by decide)).mp (ax_gx hE (182, [7, 11]) (by decide))
  have F178 : pz7 (pz_gt (ρ 0)) (pz_gN (ρ 0)) ((ρ 1) / 4) 8 := (ax_XF_lt (by decide)).mp (ax_gx hE (178, [3, 7]) (by decide))
  have F207 : pz107 (pz_gt (ρ 0)) (pz_gN (ρ 0)) ((ρ 1) / 4) ((20) / 4) := (ax_XF_lt (by decide)).mp (ax_gx hE (207, [3, 7, 20]) (by decide))
  have F246 : py_y246 (pz_gt (ρ 0)) (pz_gN (ρ 0)) ((ρ 1) / 4) (ρ 3) (ρ 4) := (ax_XF_lt (by decide)).mp (ax_gx hE (246, [3, 7, 15, 19]) (by decide))
  refine ⟨(fun y hy => by cases hy), _, List.mem_cons_self, ρ, fun _ _ => rfl, ax_px hE (by decide) (fun x hx => ?_)⟩
  cases List.mem_singleton.mp hx
  refine (ax_XF_lt (x := 258) (by decide)).mpr ?_
  show py_258 (pz_gt (ρ 0)) (pz_gN (ρ 0)) ((ρ 2) / 4) (4032) (ρ 3) (ρ 4)
  exact pm_mvM F178 (pr_k5 F207) F182 F246
theorem axq0_mv4_5 : ax_RO ax_wM0 (ax_XM 0) axu0_mv4_5 := axqg_mv4_5 ax_WW0
theorem axqg_mv5_5 {w : ax_W} {b : Nat} (hw : ax_WW w) : ax_RO w (ax_XM b) axu0_mv5_5 := by
  intro ρ hp hE hT
  have j0 : ρ 0 % 4 = 1 := pz_gj hE 0 (by decide) rfl
  have j1 : ρ 1 % 4 = 1 := pz_gj hE 1 (by decide) rfl
  have j2 : ρ 2 % 4 = 1 := pz_gj hE 2 (by decide) rfl
  have j3 : ρ 3 % 4 = 1 := pz_gj hE 3 (by decide) rfl
  have j4 : ρ 4 % 4 = 1 := pz_gj hE 4 (by decide) rfl
  obtain ⟨-, -, -, -, -, F151⟩ : ay_ex hp 173 ∧ ay_ex hp 173 ∧ ay_ex hp 173 ∧ ay_ex hp 173 ∧ ay_ex hp 173 ∧ pz_y151 (ρ 0) (ρ 1) (ay_at hp 173 13) (ay_at hp 173 14) (ay_at hp 173 15) (ay_at hp 173 16) (ay_at hp 173 17) := (ax_XF_lt (by decide)).mp (ax_gx hE (151, [3, 7]) (by decide))
  have F258 : py_258 (pz_gt (ρ 0)) (pz_gN (ρ 0)) ((ρ 1) / 4) (4032) (ρ 2) (ρ 4) := (ax_XF_lt (by decide)).mp (ax_gx hE (258, [3, 7, 4032, 11, 19]) (by decide))
  obtain ⟨-, -, F242⟩ : ay_ex hp 173 ∧ ay_ex hp 185 ∧ py_y242 (ρ 3) (ay_at hp 173 27) (ay_at hp 185) := (ax_XF_lt (by decide)).mp (ax_gx hE (242, [15]) (by decide))
  have F251 : py_251 (ρ 3) (4032) (ρ 2) := (ax_XF_lt (by decide)).mp (ax_gx hE (251, [15, 4032, 11]) (by decide))
  refine ⟨(fun y hy => by cases hy), _, List.mem_cons_self, ρ, fun _ _ => rfl, ax_px hE (by decide) (fun x hx => ?_)⟩
  cases List.mem_singleton.mp hx
  refine (ax_XF_lt (x := 246) (by decide)).mpr ?_
  show py_y246 (pz_gt (ρ 0)) (pz_gN (ρ 0)) ((ρ 1) / 4) (ρ 3) (ρ 4)
  exact pm_mv5 F258 F251
theorem axq0_mv5_5 : ax_RO ax_wM0 (ax_XM 0) axu0_mv5_5 := axqg_mv5_5 ax_WW0
theorem axqg_bn_43 {w : ax_W} {b : Nat} (hw : ax_WW w) : ax_RO w (ax_XM b) axu0_bn_43 := by
  intro ρ hp hE hT
  have j0 : ρ 0 % 4 = 1 := pz_gj hE 0 (by decide) rfl
  have j1 : ρ 1 % 4 = 1 := pz_gj hE 1 (by decide) rfl
  have F168 : pz_kd (pz_gt (ρ 0)) (pz_gN (ρ 0)) (pz_p (pz_cF (ρ 0) (ρ 1))) = (172) / 4 := (ax_XF_lt (by decide)).mp (ax_gx hE (168, [3, 7, 172]) (by decide))
  refine ⟨(fun y hy => by cases hy), _, List.mem_cons_self, ρ, fun _ _ => rfl, ax_px hE (by decide) (fun x hx => ?_)⟩
  cases List.mem_singleton.mp hx
  refine (ax_XF_lt (x := 198) (by decide)).mpr ?_
  show pz_op (pz_kd (pz_gt (ρ 0)) (pz_gN (ρ 0)) (pz_p (pz_cF (ρ 0) (ρ 1)))) = true
  rw [F168]
  rfl
theorem axq0_bn_43 : ax_RO ax_wM0 (ax_XM 0) axu0_bn_43 := axqg_bn_43 ax_WW0
theorem axqg_bn_45 {w : ax_W} {b : Nat} (hw : ax_WW w) : ax_RO w (ax_XM b) axu0_bn_45 := by
  intro ρ hp hE hT
  have j0 : ρ 0 % 4 = 1 := pz_gj hE 0 (by decide) rfl
  have j1 : ρ 1 % 4 = 1 := pz_gj hE 1 (by decide) rfl
  have F168 : pz_kd (pz_gt (ρ 0)) (pz_gN (ρ 0)) (pz_p (pz_cF (ρ 0) (ρ 1))) = (180) / 4 := (ax_XF_lt (by decide)).mp (ax_gx hE (168, [3, 7, 180]) (by decide))
  refine ⟨(fun y hy => by cases hy), _, List.mem_cons_self, ρ, fun _ _ => rfl, ax_px hE (by decide) (fun x hx => ?_)⟩
  cases List.mem_singleton.mp hx
  refine (ax_XF_lt (x := 198) (by decide)).mpr ?_
  show pz_op (pz_kd (pz_gt (ρ 0)) (pz_gN (ρ 0)) (pz_p (pz_cF (ρ 0) (ρ 1)))) = true
  rw [F168]
  rfl
theorem axq0_bn_45 : ax_RO ax_wM0 (ax_XM 0) axu0_bn_45 := axqg_bn_45 ax_WW0
theorem axqg_bn_42 {w : ax_W} {b : Nat} (hw : ax_WW w) : ax_RO w (ax_XM b) axu0_bn_42 := by
  intro ρ hp hE hT
  have j0 : ρ 0 % 4 = 1 := pz_gj hE 0 (by decide) rfl
  have j1 : ρ 1 % 4 = 1 := pz_gj hE 1 (by decide) rfl
  have F168 : pz_kd (pz_gt (ρ 0)) (pz_gN (ρ 0)) (pz_p (pz_cF (ρ 0) (ρ 1))) = (168) / 4 := (ax_XF_lt (by decide)).mp (ax_gx hE (168, [3, 7, 168]) (by decide))
  refine ⟨(fun y hy => by cases hy), _, List.mem_cons_self, ρ, fun _ _ => rfl, ax_px hE (by decide) (fun x hx => ?_)⟩
  cases List.mem_singleton.mp hx
  refine (ax_XF_lt (x := 198) (by decide)).mpr ?_
  show pz_op (pz_kd (pz_gt (ρ 0)) (pz_gN (ρ 0)) (pz_p (pz_cF (ρ 0) (ρ 1)))) = true
  rw [F168]
  rfl
theorem axq0_bn_42 : ax_RO ax_wM0 (ax_XM 0) axu0_bn_42 := axqg_bn_42 ax_WW0
theorem axqg_bn_47 {w : ax_W} {b : Nat} (hw : ax_WW w) : ax_RO w (ax_XM b) axu0_bn_47 := by
  intro ρ hp hE hT
  have j0 : ρ 0 % 4 = 1 := pz_gj hE 0 (by decide) rfl
  have j1 : ρ 1 % 4 = 1 := pz_gj hE 1 (by decide) rfl
  have F168 : pz_kd (pz_gt (ρ 0)) (pz_gN (ρ 0)) (pz_p (pz_cF (ρ 0) (ρ 1))) = (188) / 4 := (ax_XF_lt (by decide)).mp (ax_gx hE (168, [3, 7, 188]) (by decide))
  refine ⟨(fun y hy => by cases hy), _, List.mem_cons_self, ρ, fun _ _ => rfl, ax_px hE (by decide) (fun x hx => ?_)⟩
  cases List.mem_singleton.mp hx
  refine (ax_XF_lt (x := 198) (by decide)).mpr ?_
  show pz_op (pz_kd (pz_gt (ρ 0)) (pz_gN (ρ 0)) (pz_p (pz_cF (ρ 0) (ρ 1)))) = true
  rw [F168]
  rfl
theorem axq0_bn_47 : ax_RO ax_wM0 (ax_XM 0) axu0_bn_47 := axqg_bn_47 ax_WW0
theorem axqg_bn_37 {w : ax_W} {b : Nat} (hw : ax_WW w) : ax_RO w (ax_XM b) axu0_bn_37 := by
  intro ρ hp hE hT
  have j0 : ρ 0 % 4 = 1 := pz_gj hE 0 (by decide) rfl
  have j1 : ρ 1 % 4 = 1 := pz_gj hE 1 (by decide) rfl
  have F168 : pz_kd (pz_gt (ρ 0)) (pz_gN (ρ 0)) (pz_p (pz_cF (ρ 0) (ρ 1))) = (148) / 4 := (ax_XF_lt (by decide)).mp (ax_gx hE (168, [3, 7, 148]) (by decide))
  refine ⟨(fun y hy => by cases hy), _, List.mem_cons_self, ρ, fun _ _ => rfl, ax_px hE (by decide) (fun x hx => ?_)⟩
  cases List.mem_singleton.mp hx
  refine (ax_XF_lt (x := 198) (by decide)).mpr ?_
  show pz_op (pz_kd (pz_gt (ρ 0)) (pz_gN (ρ 0)) (pz_p (pz_cF (ρ 0) (ρ 1)))) = true
  rw [F168]
  rfl
theorem axq0_bn_37 : ax_RO ax_wM0 (ax_XM 0) axu0_bn_37 := axqg_bn_37 ax_WW0
theorem axqg_bnD {w : ax_W} {b : Nat} (hw : ax_WW w) : ax_RO w (ax_XM b) axu0_bnD := by
  intro ρ hp hE hT
  have j0 : ρ 0 % 4 = 1 := pz_gj hE 0 (by decide) rfl
  have j1 : ρ 1 % 4 = 1 := pz_gj hE 1 (by decide) rfl
  have F198 : pz_op (pz_kd (pz_gt (ρ 0)) (pz_gN (ρ 0)) (pz_p (pz_cF (ρ 0) (ρ 1)))) = true := (ax_XF_lt (by decide)).mp (ax_gx hE (198, [3, 7]) (by decide))
  have F169 : pz_kd (pz_gt (ρ 0)) (pz_gN (ρ 0)) (pz_p (pz_cF (ρ 0) (ρ 1))) ≠ (172) / 4 := (ax_XF_lt (by decide)).mp (ax_gx hE (169, [3, 7, 172]) (by decide))
  have F169a : pz_kd (pz_gt (ρ 0)) (pz_gN (ρ 0)) (pz_p (pz_cF (ρ 0) (ρ 1))) ≠ (180) / 4 := (ax_XF_lt (by decide)).mp (ax_gx hE (169, [3, 7, 180]) (by decide))
  have F169b : pz_kd (pz_gt (ρ 0)) (pz_gN (ρ 0)) (pz_p (pz_cF (ρ 0) (ρ 1))) ≠ (168) / 4 := (ax_XF_lt (by decide)).mp (ax_gx hE (169, [3, 7, 168]) (by decide))
  have F169c : pz_kd (pz_gt (ρ 0)) (pz_gN (ρ 0)) (pz_p (pz_cF (ρ 0) (ρ 1))) ≠ (188) / 4 := (ax_XF_lt (by decide)).mp (ax_gx hE (169, [3, 7, 188]) (by decide))
  have F169d : pz_kd (pz_gt (ρ 0)) (pz_gN (ρ 0)) (pz_p (pz_cF (ρ 0) (ρ 1))) ≠ (148) / 4 := (ax_XF_lt (by decide)).mp (ax_gx hE (169, [3, 7, 148]) (by decide))
  exfalso
  have e := pz_op_no (show _ ≠ 43 from F169) (show _ ≠ 45 from F169a) ⟨show _ ≠ 42 from F169b, show _ ≠ 47 from F169c, show _ ≠ 37 from F169d⟩
  rw [e] at F198
  cases F198
theorem axq0_bnD : ax_RO ax_wM0 (ax_XM 0) axu0_bnD := axqg_bnD ax_WW0
theorem axqg_bnN {w : ax_W} {b : Nat} (hw : ax_WW w) : ax_RO w (ax_XM b) axu0_bnN := by
  intro ρ hp hE hT
  have j0 : ρ 0 % 4 = 1 := pz_gj hE 0 (by decide) rfl
  have j1 : ρ 1 % 4 = 1 := pz_gj hE 1 (by decide) rfl
  obtain ⟨-, -, -, -, -, F151⟩ : ay_ex hp 173 ∧ ay_ex hp 173 ∧ ay_ex hp 173 ∧ ay_ex hp 173 ∧ ay_ex hp 173 ∧ pz_y151 (ρ 0) (ρ 1) (ay_at hp 173 13) (ay_at hp 173 14) (ay_at hp 173 15) (ay_at hp 173 16) (ay_at hp 173 17) := (ax_XF_lt (by decide)).mp (ax_gx hE (151, [3, 7]) (by decide))
  have F169 : pz_kd (pz_gt (ρ 0)) (pz_gN (ρ 0)) (pz_p (pz_cF (ρ 0) (ρ 1))) ≠ (172) / 4 := (ax_XF_lt (by decide)).mp (ax_gx hE (169, [3, 7, 172]) (by decide))
  have F169a : pz_kd (pz_gt (ρ 0)) (pz_gN (ρ 0)) (pz_p (pz_cF (ρ 0) (ρ 1))) ≠ (180) / 4 := (ax_XF_lt (by decide)).mp (ax_gx hE (169, [3, 7, 180]) (by decide))
  have F169b : pz_kd (pz_gt (ρ 0)) (pz_gN (ρ 0)) (pz_p (pz_cF (ρ 0) (ρ 1))) ≠ (168) / 4 := (ax_XF_lt (by decide)).mp (ax_gx hE (169, [3, 7, 168]) (by decide))
  have F169c : pz_kd (pz_gt (ρ 0)) (pz_gN (ρ 0)) (pz_p (pz_cF (ρ 0) (ρ 1))) ≠ (188) / 4 := (ax_XF_lt (by decide)).mp (ax_gx hE (169, [3, 7, 188]) (by decide))
  have F169d : pz_kd (pz_gt (ρ 0)) (pz_gN (ρ 0)) (pz_p (pz_cF (ρ 0) (ρ 1))) ≠ (148) / 4 := (ax_XF_lt (by decide)).mp (ax_gx hE (169, [3, 7, 148]) (by decide))
  refine ⟨(fun y hy => by cases hy), _, List.mem_cons_self, ρ, fun _ _ => rfl, ax_px hE (by decide) (fun x hx => ?_)⟩
  cases List.mem_singleton.mp hx
  refine (ax_XF_lt (x := 194) (by decide)).mpr ?_
  show pz94 (pz_gt (ρ 0)) (pz_gN (ρ 0)) ((ρ 1) / 4)
  exact pz_op_no (show _ ≠ 43 from F169) (show _ ≠ 45 from F169a) ⟨show _ ≠ 42 from F169b, show _ ≠ 47 from F169c, show _ ≠ 37 from F169d⟩
theorem axq0_bnN : ax_RO ax_wM0 (ax_XM 0) axu0_bnN := axqg_bnN ax_WW0
theorem axqg_bm_43 {w : ax_W} {b : Nat} (hw : ax_WW w) : ax_RO w (ax_XM b) axu0_bm_43 := by
  intro ρ hp hE hT
  have j0 : ρ 0 % 4 = 1 := pz_gj hE 0 (by decide) rfl
  have j1 : ρ 1 % 4 = 1 := pz_gj hE 1 (by decide) rfl
  obtain ⟨-, -, -, -, -, F151⟩ : ay_ex hp 173 ∧ ay_ex hp 173 ∧ ay_ex hp 173 ∧ ay_ex hp 173 ∧ ay_ex hp 173 ∧ pz_y151 (ρ 0) (ρ 1) (ay_at hp 173 13) (ay_at hp 173 14) (ay_at hp 173 15) (ay_at hp 173 16) (ay_at hp 173 17) := (ax_XF_lt (by decide)).mp (ax_gx hE (151, [3, 7]) (by decide))
  have F168 : pz_kd (pz_gt (ρ 0)) (pz_gN (ρ 0)) (pz_p (pz_cF (ρ 0) (ρ 1))) = (172) / 4 := (ax_XF_lt (by decide)).mp (ax_gx hE (168, [3, 7, 172]) (by decide))
  refine ⟨(fun y hy => by cases hy), _, List.mem_cons_self, ρ, fun _ _ => rfl, ax_px hE (by decide) (fun x hx => ?_)⟩
  cases List.mem_singleton.mp hx
  refine (ax_XF_lt (x := 259) (by decide)).mpr ?_
  show (4012) / 4 = py_op (pz_kd (pz_gt (ρ 0)) (pz_gN (ρ 0)) (pz_p (pz_cF (ρ 0) (ρ 1))))
  rw [F168]
  rfl
theorem axq0_bm_43 : ax_RO ax_wM0 (ax_XM 0) axu0_bm_43 := axqg_bm_43 ax_WW0
theorem axqg_bm_45 {w : ax_W} {b : Nat} (hw : ax_WW w) : ax_RO w (ax_XM b) axu0_bm_45 := by
  intro ρ hp hE hT
  have j0 : ρ 0 % 4 = 1 := pz_gj hE 0 (by decide) rfl
  have j1 : ρ 1 % 4 = 1 := pz_gj hE 1 (by decide) rfl
  obtain ⟨-, -, -, -, -, F151⟩ : ay_ex hp 173 ∧ ay_ex hp 173 ∧ ay_ex hp 173 ∧ ay_ex hp 173 ∧ ay_ex hp 173 ∧ pz_y151 (ρ 0) (ρ 1) (ay_at hp 173 13) (ay_at hp 173 14) (ay_at hp 173 15) (ay_at hp 173 16) (ay_at hp 173 17) := (ax_XF_lt (by decide)).mp (ax_gx hE (151, [3, 7]) (by decide))
  have F168 : pz_kd (pz_gt (ρ 0)) (pz_gN (ρ 0)) (pz_p (pz_cF (ρ 0) (ρ 1))) = (180) / 4 := (ax_XF_lt (by decide)).mp (ax_gx hE (168, [3, 7, 180]) (by decide))
  refine ⟨(fun y hy => by cases hy), _, List.mem_cons_self, ρ, fun _ _ => rfl, ax_px hE (by decide) (fun x hx => ?_)⟩
  cases List.mem_singleton.mp hx
  refine (ax_XF_lt (x := 259) (by decide)).mpr ?_
  show (4016) / 4 = py_op (pz_kd (pz_gt (ρ 0)) (pz_gN (ρ 0)) (pz_p (pz_cF (ρ 0) (ρ 1))))
  rw [F168]
  rfl
theorem axq0_bm_45 : ax_RO ax_wM0 (ax_XM 0) axu0_bm_45 := axqg_bm_45 ax_WW0
theorem axqg_bm_42 {w : ax_W} {b : Nat} (hw : ax_WW w) : ax_RO w (ax_XM b) axu0_bm_42 := by
  intro ρ hp hE hT
  have j0 : ρ 0 % 4 = 1 := pz_gj hE 0 (by decide) rfl
  have j1 : ρ 1 % 4 = 1 := pz_gj hE 1 (by decide) rfl
  obtain ⟨-, -, -, -, -, F151⟩ : ay_ex hp 173 ∧ ay_ex hp 173 ∧ ay_ex hp 173 ∧ ay_ex hp 173 ∧ ay_ex hp 173 ∧ pz_y151 (ρ 0) (ρ 1) (ay_at hp 173 13) (ay_at hp 173 14) (ay_at hp 173 15) (ay_at hp 173 16) (ay_at hp 173 17) := (ax_XF_lt (by decide)).mp (ax_gx hE (151, [3, 7]) (by decide))
  have F168 : pz_kd (pz_gt (ρ 0)) (pz_gN (ρ 0)) (pz_p (pz_cF (ρ 0) (ρ 1))) = (168) / 4 := (ax_XF_lt (by decide)).mp (ax_gx hE (168, [3, 7, 168]) (by decide))
  refine ⟨(fun y hy => by cases hy), _, List.mem_cons_self, ρ, fun _ _ => rfl, ax_px hE (by decide) (fun x hx => ?_)⟩
  cases List.mem_singleton.mp hx
  refine (ax_XF_lt (x := 259) (by decide)).mpr ?_
  show (4020) / 4 = py_op (pz_kd (pz_gt (ρ 0)) (pz_gN (ρ 0)) (pz_p (pz_cF (ρ 0) (ρ 1))))
  rw [F168]
  rfl
theorem axq0_bm_42 : ax_RO ax_wM0 (ax_XM 0) axu0_bm_42 := axqg_bm_42 ax_WW0
theorem axqg_bm_47 {w : ax_W} {b : Nat} (hw : ax_WW w) : ax_RO w (ax_XM b) axu0_bm_47 := by
  intro ρ hp hE hT
  have j0 : ρ 0 % 4 = 1 := pz_gj hE 0 (by decide) rfl
  have j1 : ρ 1 % 4 = 1 := pz_gj hE 1 (by decide) rfl
  obtain ⟨-, -, -, -, -, F151⟩ : ay_ex hp 173 ∧ ay_ex hp 173 ∧ ay_ex hp 173 ∧ ay_ex hp 173 ∧ ay_ex hp 173 ∧ pz_y151 (ρ 0) (ρ 1) (ay_at hp 173 13) (ay_at hp 173 14) (ay_at hp 173 15) (ay_at hp 173 16) (ay_at hp 173 17) := (ax_XF_lt (by decide)).mp (ax_gx hE (151, [3, 7]) (by decide))
  have F168 : pz_kd (pz_gt (ρ 0)) (pz_gN (ρ 0)) (pz_p (pz_cF (ρ 0) (ρ 1))) = (188) / 4 := (ax_XF_lt (by decide)).mp (ax_gx hE (168, [3, 7, 188]) (by decide))
  refine ⟨(fun y hy => by cases hy), _, List.mem_cons_self, ρ, fun _ _ => rfl, ax_px hE (by decide) (fun x hx => ?_)⟩
  cases List.mem_singleton.mp hx
  refine (ax_XF_lt (x := 259) (by decide)).mpr ?_
  show (4024) / 4 = py_op (pz_kd (pz_gt (ρ 0)) (pz_gN (ρ 0)) (pz_p (pz_cF (ρ 0) (ρ 1))))
  rw [F168]
  rfl
theorem axq0_bm_47 : ax_RO ax_wM0 (ax_XM 0) axu0_bm_47 := axqg_bm_47 ax_WW0
theorem axqg_bm_37 {w : ax_W} {b : Nat} (hw : ax_WW w) : ax_RO w (ax_XM b) axu0_bm_37 := by
  intro ρ hp hE hT
  have j0 : ρ 0 % 4 = 1 := pz_gj hE 0 (by decide) rfl
  have j1 : ρ 1 % 4 = 1 := pz_gj hE 1 (by decide) rfl
  obtain ⟨-, -, -, -, -, F151⟩ : ay_ex hp 173 ∧ ay_ex hp 173 ∧ ay_ex hp 173 ∧ ay_ex hp 173 ∧ ay_ex hp 173 ∧ pz_y151 (ρ 0) (ρ 1) (ay_at hp 173 13) (ay_at hp 173 14) (ay_at hp 173 15) (ay_at hp 173 16) (ay_at hp 173 17) := (ax_XF_lt (by decide)).mp (ax_gx hE (151, [3, 7]) (by decide))
  have F168 : pz_kd (pz_gt (ρ 0)) (pz_gN (ρ 0)) (pz_p (pz_cF (ρ 0) (ρ 1))) = (148) / 4 := (ax_XF_lt (by decide)).mp (ax_gx hE (168, [3, 7, 148]) (by decide))
  refine ⟨(fun y hy => by cases hy), _, List.mem_cons_self, ρ, fun _ _ => rfl, ax_px hE (by decide) (fun x hx => ?_)⟩
  cases List.mem_singleton.mp hx
  refine (ax_XF_lt (x := 259) (by decide)).mpr ?_
  show (4028) / 4 = py_op (pz_kd (pz_gt (ρ 0)) (pz_gN (ρ 0)) (pz_p (pz_cF (ρ 0) (ρ 1))))
  rw [F168]
  rfl
theorem axq0_bm_37 : ax_RO ax_wM0 (ax_XM 0) axu0_bm_37 := axqg_bm_37 ax_WW0
theorem axq0_mb1 : ax_RO ax_wM0 (ax_XM 0) axu0_mb1 := by
  intro ρ hp hE hT
  have j0 : ρ 0 % 4 = 1 := pz_gj hE 0 (by decide) rfl
  have j1 : ρ 1 % 4 = 1 := pz_gj hE 1 (by decide) rfl
  have j2 : ρ 2 % 4 = 1 := pz_gj hE 2 (by decide) rfl
  obtain ⟨-, -, -, -, -, F151⟩ : ay_ex hp 173 ∧ ay_ex hp 173 ∧ ay_ex hp 173 ∧ ay_ex hp 173 ∧ ay_ex hp 173 ∧ pz_y151 (ρ 0) (ρ 1) (ay_at hp 173 13) (ay_at hp 173 14) (ay_at hp 173 15) (ay_at hp 173 16) (ay_at hp 173 17) := (ax_XF_lt (by decide)).mp (ax_gx hE (151, [3, 7]) (by decide))
  obtain ⟨-, -, -, -, -, -, -, -, -, -, -, F152⟩ : ay_ex hp 175 ∧ ay_ex hp 176 ∧ ay_ex hp 177 ∧ ay_ex hp 178 ∧ ay_ex hp 179 ∧ ay_ex hp 173 ∧ ay_ex hp 173 ∧ ay_ex hp 173 ∧ ay_ex hp 173 ∧ ay_ex hp 173 ∧ ay_ex hp 181 ∧ pz_y152 1 (ρ 0) (ρ 1) (ay_at hp 175 1) (ay_at hp 176 1) (ay_at hp 177 1) (ay_at hp 178 1) (ay_at hp 179 1) (ay_at hp 173 23) (ay_at hp 173 25) (ay_at hp 173 24) (ay_at hp 173 18) (ay_at hp 173 19) (ay_at hp 181) := (ax_XF_lt (by decide)).mp (ax_gx hE (152, [3, 7]) (by decide))
  have F179 : pz7 (pz_gt (ρ 0)) (pz_gN (ρ 0)) ((ρ 1) / 4) 9 := (ax_XF_lt (by decide)).mp (ax_gx hE (179, [3, 7]) (by decide))
  have F190 : (pz90 (pz_gt (ρ 0)) (pz_gN (ρ 0)) ((ρ 1) / 4) ((ρ 2) / 4) ∧ 1 ≤ (ρ 2) / 4) := (ax_XF_lt (by decide)).mp (ax_gx hE (190, [3, 7, 11]) (by decide))
  have F198 : pz_op (pz_kd (pz_gt (ρ 0)) (pz_gN (ρ 0)) (pz_p (pz_cF (ρ 0) (ρ 1)))) = true := (ax_XF_lt (by decide)).mp (ax_gx hE (198, [3, 7]) (by decide))
  have st := pq_op (pz_m50 F151 F152) F179 F190.1 F198
  obtain ⟨ρ', h1, h2⟩ := pz_pn1 (K := ρ 1 / 4 + 1) (xf := [(153, [3, 15]), (182, [7, 15]), (152, [3, 15]), (178, [3, 15]), (190, [3, 15, 11])]) hE (by decide) (fun ρ' h1 h2 x hx => by
    have q0 : ρ' 0 = ρ 0 := h1 0 (by decide)
    have q1 : ρ' 1 = ρ 1 := h1 1 (by decide)
    have q2 : ρ' 2 = ρ 2 := h1 2 (by decide)
    rcases List.mem_cons.mp hx with e | hx
    · subst e
      refine (ax_XF_lt (x := 153) (by decide)).mpr ?_
      show ay_ex hp 173 ∧ pz_at (pz_gt (ρ' 0)) (pz_gN (ρ' 0)) (ay_ln (ay_at hp 173 13)) = pz_at (pz_gt (ρ' 0)) (pz_gN (ρ' 0)) (pz_p (pz_cF (ρ' 0) (ρ' 3)))
      rw [q0, h2]
      refine ⟨(ax_cellT hT (q := 173) (g := 11) ax_cg_173), ?_⟩
      exact pz_l153 (pz_41 _) st.1.1
    rcases List.mem_cons.mp hx with e | hx
    · subst e
      refine (ax_XF_lt (x := 182) (by decide)).mpr ?_
      show (ρ' 3) / 4 = (ρ' 1) / 4 + 1
      rw [q1, h2]
      rw [pz_41]
    rcases List.mem_cons.mp hx with e | hx
    · subst e
      refine (ax_XF_lt (x := 152) (by decide)).mpr ?_
      show ay_ex hp 175 ∧ ay_ex hp 176 ∧ ay_ex hp 177 ∧ ay_ex hp 178 ∧ ay_ex hp 179 ∧ ay_ex hp 173 ∧ ay_ex hp 173 ∧ ay_ex hp 173 ∧ ay_ex hp 173 ∧ ay_ex hp 173 ∧ ay_ex hp 181 ∧ pz_y152 1 (ρ' 0) (ρ' 3) (ay_at hp 175 1) (ay_at hp 176 1) (ay_at hp 177 1) (ay_at hp 178 1) (ay_at hp 179 1) (ay_at hp 173 23) (ay_at hp 173 25) (ay_at hp 173 24) (ay_at hp 173 18) (ay_at hp 173 19) (ay_at hp 181)
      rw [q0, h2]
      refine ⟨(ax_cellT hT (q := 175) (g := 45) ax_cg_175), (ax_cellT hT (q := 176) (g := 46) ax_cg_176), (ax_cellT hT (q := 177) (g := 47) ax_cg_177), (ax_cellT hT (q := 178) (g := 48) ax_cg_178), (ax_cellT hT (q := 179) (g := 49) ax_cg_179), (ax_cellT hT (q := 173) (g := 11) ax_cg_173), (ax_cellT hT (q := 173) (g := 11) ax_cg_173), (ax_cellT hT (q := 173) (g := 11) ax_cg_173), (ax_cellT hT (q := 173) (g := 11) ax_cg_173), (ax_cellT hT (q := 173) (g := 11) ax_cg_173), (ax_cellT hT (q := 181) (g := 51) ax_cg_181), ?_⟩
      exact pz_l152 (pz_41 _) st.1.2
    rcases List.mem_cons.mp hx with e | hx
    · subst e
      refine (ax_XF_lt (x := 178) (by decide)).mpr ?_
      show pz7 (pz_gt (ρ' 0)) (pz_gN (ρ' 0)) ((ρ' 3) / 4) 8
      rw [q0, h2]
      rw [pz_41]
      exact st.2.1
    cases List.mem_singleton.mp hx
    refine (ax_XF_lt (x := 190) (by decide)).mpr ?_
    show (pz90 (pz_gt (ρ' 0)) (pz_gN (ρ' 0)) ((ρ' 3) / 4) ((ρ' 2) / 4) ∧ 1 ≤ (ρ' 2) / 4)
    rw [q0, q2, h2]
    exact ⟨pz_l197 (pz_41 _) st.2.2, F190.2⟩)
  exact ⟨(fun y hy => by cases hy), _, List.mem_cons_self, ρ', h1, h2⟩

theorem axq0_mc0 : ax_RO ax_wM0 (ax_XM 0) axu0_mc0 := by
  intro ρ hp hE hT
  have j0 : ρ 0 % 4 = 1 := pz_gj hE 0 (by decide) rfl
  have j1 : ρ 1 % 4 = 1 := pz_gj hE 1 (by decide) rfl
  obtain ⟨i2a, i2b, i2c, i2d⟩ := pz_gi hE 2 2147484651 2147484655 (by decide) rfl
  obtain ⟨-, -, F242⟩ : ay_ex hp 173 ∧ ay_ex hp 185 ∧ py_y242 (ρ 0) (ay_at hp 173 27) (ay_at hp 185) := (ax_XF_lt (by decide)).mp (ax_gx hE (242, [3]) (by decide))
  obtain ⟨-, -, F241⟩ : ay_ex hp 180 ∧ ay_ex hp 182 ∧ py_y241 1 (ρ 1) (ay_at hp 180 1) (ay_at hp 182) := (ax_XF_lt (by decide)).mp (ax_gx hE (241, [7]) (by decide))
  refine ⟨(fun y hy => by cases hy), _, List.mem_cons_self, ρ, fun _ _ => rfl, ax_px hE (by decide) (fun x hx => ?_)⟩
  cases List.mem_singleton.mp hx
  refine (ax_XF_lt (x := 250) (by decide)).mpr ?_
  show py_250 (ρ 2) (ρ 0) (ρ 1) (ρ 0) (ρ 1)
  exact (rfl : py_pop _ _ _ = _)

theorem axqg_mc1 {w : ax_W} {b : Nat} (hw : ax_WW w) : ax_RO w (ax_XM b) axu0_mc1 := by
  intro ρ hp hE hT
  have j0 : ρ 0 % 4 = 1 := pz_gj hE 0 (by decide) rfl
  obtain ⟨i1a, i1b, i1c, i1d⟩ := pz_gi hE 1 2147483648 2147483747 (by decide) rfl
  obtain ⟨i2a, i2b, i2c, i2d⟩ := pz_gi hE 2 2147483649 2147483748 (by decide) rfl
  obtain ⟨i3a, i3b, i3c, i3d⟩ := pz_gi hE 3 2147484651 2147484655 (by decide) rfl
  have c_opened : ay_at hp 173 27 = some (ρ 2) := ay_gfj hE 702 108 11 173 27 (by decide) (by rw [ax_vl_c (by decide)]) (by rw [ax_vl_c (by decide)])
  have s1 : (ρ 1 / 4 + 2147483648) % 4294967296 + (4 / 4 + 2147483648) % 4294967296 = (ρ 2 / 4 + 2147483648) % 4294967296 + 2147483648 := pz_gs hE 7 4 11 (by decide)
  have c_open : ay_at hp 185 (ρ 1 / 4) = some (ρ 3) := ay_gf hE 750 7 15 185 (by decide) (by rw [ax_vl_c (by decide)])
  obtain ⟨-, -, F242⟩ : ay_ex hp 173 ∧ ay_ex hp 185 ∧ py_y242 (ρ 0) (ay_at hp 173 27) (ay_at hp 185) := (ax_XF_lt (by decide)).mp (ax_gx hE (242, [3]) (by decide))
  rw [c_opened] at F242
  obtain ⟨c, T, t1, t2, t3, t4, t5, t6, t7⟩ := py_take (o := ρ 1 / 4) F242 (show ρ 2 / 4 = ρ 1 / 4 + 1 by omega)
  rw [c_open] at t3
  have te := Option.some.inj t3
  have tk : c = ρ 3 / 4 := by omega
  refine ⟨(fun y hy => by cases hy), _, List.mem_cons_self, ρ, fun _ _ => rfl, ax_px hE (by decide) (fun x hx => ?_)⟩
  cases List.mem_singleton.mp hx
  refine (ax_XF_lt (x := 256) (by decide)).mpr ?_
  show py_256 (ρ 0) (ρ 3)
  exact ⟨T, by rw [t1, tk]⟩
theorem axq0_mc1 : ax_RO ax_wM0 (ax_XM 0) axu0_mc1 := axqg_mc1 ax_WW0
theorem axq0_mc2a : ax_RO ax_wM0 (ax_XM 0) axu0_mc2a := by
  intro ρ hp hE hT
  have j0 : ρ 0 % 4 = 1 := pz_gj hE 0 (by decide) rfl
  have j1 : ρ 1 % 4 = 1 := pz_gj hE 1 (by decide) rfl
  have j2 : ρ 2 % 4 = 1 := pz_gj hE 2 (by decide) rfl
  have j3 : ρ 3 % 4 = 1 := pz_gj hE 3 (by decide) rfl
  have j4 : ρ 4 % 4 = 1 := pz_gj hE 4 (by decide) rfl
  have j5 : ρ 5 % 4 = 1 := pz_gj hE 5 (by decide) rfl
  obtain ⟨i6a, i6b, i6c, i6d⟩ := pz_gi hE 6 2147484651 2147484652 (by decide) rfl
  obtain ⟨i7a, i7b, i7c, i7d⟩ := pz_gi hE 7 2147484651 2147484655 (by decide) rfl
  obtain ⟨i8a, i8b, i8c, i8d⟩ := pz_gi hE 8 2147484651 2147484655 (by decide) rfl
  obtain ⟨-, -, F242⟩ : ay_ex hp 173 ∧ ay_ex hp 185 ∧ py_y242 (ρ 4) (ay_at hp 173 27) (ay_at hp 185) := (ax_XF_lt (by decide)).mp (ax_gx hE (242, [19]) (by decide))
  obtain ⟨-, -, F241⟩ : ay_ex hp 180 ∧ ay_ex hp 182 ∧ py_y241 1 (ρ 5) (ay_at hp 180 1) (ay_at hp 182) := (ax_XF_lt (by decide)).mp (ax_gx hE (241, [23]) (by decide))
  have F251 : py_251 (ρ 2) (ρ 7) (ρ 4) := (ax_XF_lt (by decide)).mp (ax_gx hE (251, [11, 31, 19]) (by decide))
  have F251a : py_251 (ρ 5) (ρ 7) (ρ 3) := (ax_XF_lt (by decide)).mp (ax_gx hE (251, [23, 31, 15]) (by decide))
  have F256 : py_256 (ρ 2) (ρ 8) := (ax_XF_lt (by decide)).mp (ax_gx hE (256, [11, 35]) (by decide))
  have F250 : py_250 (ρ 6) (ρ 0) (ρ 1) (ρ 2) (ρ 3) := (ax_XF_lt (by decide)).mp (ax_gx hE (250, [27, 3, 7, 11, 15]) (by decide))
  refine ⟨(fun y hy => by cases hy), _, List.mem_cons_self, ρ, fun _ _ => rfl, ax_px hE (by decide) (fun x hx => ?_)⟩
  cases List.mem_singleton.mp hx
  refine (ax_XF_lt (x := 250) (by decide)).mpr ?_
  show py_250 (ρ 6) (ρ 0) (ρ 1) (ρ 4) (ρ 5)
  exact pm_cq1 F250 F251 F251a (by rw [py_bd_a (c := ρ 6 / 4) (by omega) (by omega)]; exact py_bd_1 (by omega) (by omega))

theorem axq0_mc2b : ax_RO ax_wM0 (ax_XM 0) axu0_mc2b := by
  intro ρ hp hE hT
  have j0 : ρ 0 % 4 = 1 := pz_gj hE 0 (by decide) rfl
  have j1 : ρ 1 % 4 = 1 := pz_gj hE 1 (by decide) rfl
  have j2 : ρ 2 % 4 = 1 := pz_gj hE 2 (by decide) rfl
  have j3 : ρ 3 % 4 = 1 := pz_gj hE 3 (by decide) rfl
  have j4 : ρ 4 % 4 = 1 := pz_gj hE 4 (by decide) rfl
  have j5 : ρ 5 % 4 = 1 := pz_gj hE 5 (by decide) rfl
  obtain ⟨i6a, i6b, i6c, i6d⟩ := pz_gi hE 6 2147484653 2147484655 (by decide) rfl
  obtain ⟨i7a, i7b, i7c, i7d⟩ := pz_gi hE 7 2147484651 2147484655 (by decide) rfl
  obtain ⟨i8a, i8b, i8c, i8d⟩ := pz_gi hE 8 2147484653 2147484655 (by decide) rfl
  obtain ⟨-, -, F242⟩ : ay_ex hp 173 ∧ ay_ex hp 185 ∧ py_y242 (ρ 4) (ay_at hp 173 27) (ay_at hp 185) := (ax_XF_lt (by decide)).mp (ax_gx hE (242, [19]) (by decide))
  obtain ⟨-, -, F241⟩ : ay_ex hp 180 ∧ ay_ex hp 182 ∧ py_y241 1 (ρ 5) (ay_at hp 180 1) (ay_at hp 182) := (ax_XF_lt (by decide)).mp (ax_gx hE (241, [23]) (by decide))
  have F251 : py_251 (ρ 2) (ρ 7) (ρ 4) := (ax_XF_lt (by decide)).mp (ax_gx hE (251, [11, 31, 19]) (by decide))
  have F251a : py_251 (ρ 5) (ρ 7) (ρ 3) := (ax_XF_lt (by decide)).mp (ax_gx hE (251, [23, 31, 15]) (by decide))
  have F256 : py_256 (ρ 2) (ρ 8) := (ax_XF_lt (by decide)).mp (ax_gx hE (256, [11, 35]) (by decide))
  have F250 : py_250 (ρ 6) (ρ 0) (ρ 1) (ρ 2) (ρ 3) := (ax_XF_lt (by decide)).mp (ax_gx hE (250, [27, 3, 7, 11, 15]) (by decide))
  have e := pm_mc2 F251 F256
  refine ⟨(fun y hy => by cases hy), _, List.mem_cons_self, ρ, fun _ _ => rfl, ax_px hE (by decide) (fun x hx => ?_)⟩
  cases List.mem_singleton.mp hx
  refine (ax_XF_lt (x := 250) (by decide)).mpr ?_
  show py_250 (ρ 6) (ρ 0) (ρ 1) (ρ 4) (ρ 5)
  exact pm_cq1 F250 F251 F251a (by rw [py_bd_b (c := ρ 6 / 4) (by omega) (by omega), py_bd_b (c := ρ 7 / 4) (by omega) (by omega)]; exact Nat.le_refl 2)

theorem axq0_mc3 : ax_RO ax_wM0 (ax_XM 0) axu0_mc3 := by
  intro ρ hp hE hT
  have j0 : ρ 0 % 4 = 1 := pz_gj hE 0 (by decide) rfl
  have j1 : ρ 1 % 4 = 1 := pz_gj hE 1 (by decide) rfl
  have j2 : ρ 2 % 4 = 1 := pz_gj hE 2 (by decide) rfl
  have j3 : ρ 3 % 4 = 1 := pz_gj hE 3 (by decide) rfl
  obtain ⟨i4a, i4b, i4c, i4d⟩ := pz_gi hE 4 2147483648 2147483648 (by decide) rfl
  obtain ⟨i5a, i5b, i5c, i5d⟩ := pz_gi hE 5 2147484651 2147484655 (by decide) rfl
  have c_opened : ay_at hp 173 27 = some (ρ 4) := ay_gfj hE 702 108 19 173 27 (by decide) (by rw [ax_vl_c (by decide)]) (by rw [ax_vl_c (by decide)])
  obtain ⟨-, -, F242⟩ : ay_ex hp 173 ∧ ay_ex hp 185 ∧ py_y242 (ρ 2) (ay_at hp 173 27) (ay_at hp 185) := (ax_XF_lt (by decide)).mp (ax_gx hE (242, [11]) (by decide))
  rw [c_opened] at F242
  obtain ⟨-, -, F241⟩ : ay_ex hp 180 ∧ ay_ex hp 182 ∧ py_y241 1 (ρ 3) (ay_at hp 180 1) (ay_at hp 182) := (ax_XF_lt (by decide)).mp (ax_gx hE (241, [15]) (by decide))
  have F250 : py_250 (ρ 5) (ρ 0) (ρ 1) (ρ 2) (ρ 3) := (ax_XF_lt (by decide)).mp (ax_gx hE (250, [23, 3, 7, 11, 15]) (by decide))
  refine ⟨(fun y hy => by cases hy), _, List.mem_cons_self, ρ, fun _ _ => rfl, ax_px hE (by decide) (fun x hx => ?_)⟩
  cases List.mem_singleton.mp hx
  refine (ax_XF_lt (x := 260) (by decide)).mpr ?_
  show py_260 (ρ 5) (ρ 0) (ρ 1) (ρ 2) (ρ 3)
  exact pm_mc4 F250 (by rw [py_none F242 (show ρ 4 / 4 = 0 by omega)]; exact (show 0 < _ from py_bd_1 (by omega) (by omega)))

theorem axq0_mc4a : ax_RO ax_wM0 (ax_XM 0) axu0_mc4a := by
  intro ρ hp hE hT
  have j0 : ρ 0 % 4 = 1 := pz_gj hE 0 (by decide) rfl
  have j1 : ρ 1 % 4 = 1 := pz_gj hE 1 (by decide) rfl
  have j2 : ρ 2 % 4 = 1 := pz_gj hE 2 (by decide) rfl
  have j3 : ρ 3 % 4 = 1 := pz_gj hE 3 (by decide) rfl
  obtain ⟨i4a, i4b, i4c, i4d⟩ := pz_gi hE 4 2147483649 2147483748 (by decide) rfl
  obtain ⟨i5a, i5b, i5c, i5d⟩ := pz_gi hE 5 2147483648 2147483747 (by decide) rfl
  obtain ⟨i6a, i6b, i6c, i6d⟩ := pz_gi hE 6 2147484651 2147484652 (by decide) rfl
  obtain ⟨i7a, i7b, i7c, i7d⟩ := pz_gi hE 7 2147484656 2147484657 (by decide) rfl
  have c_opened : ay_at hp 173 27 = some (ρ 4) := ay_gfj hE 702 108 19 173 27 (by decide) (by rw [ax_vl_c (by decide)]) (by rw [ax_vl_c (by decide)])
  have s1 : (ρ 5 / 4 + 2147483648) % 4294967296 + (4 / 4 + 2147483648) % 4294967296 = (ρ 4 / 4 + 2147483648) % 4294967296 + 2147483648 := pz_gs hE 23 4 19 (by decide)
  have c_open : ay_at hp 185 (ρ 5 / 4) = some (ρ 7) := ay_gf hE 750 23 31 185 (by decide) (by rw [ax_vl_c (by decide)])
  obtain ⟨-, -, F242⟩ : ay_ex hp 173 ∧ ay_ex hp 185 ∧ py_y242 (ρ 2) (ay_at hp 173 27) (ay_at hp 185) := (ax_XF_lt (by decide)).mp (ax_gx hE (242, [11]) (by decide))
  rw [c_opened] at F242
  obtain ⟨-, -, F241⟩ : ay_ex hp 180 ∧ ay_ex hp 182 ∧ py_y241 1 (ρ 3) (ay_at hp 180 1) (ay_at hp 182) := (ax_XF_lt (by decide)).mp (ax_gx hE (241, [15]) (by decide))
  have F250 : py_250 (ρ 6) (ρ 0) (ρ 1) (ρ 2) (ρ 3) := (ax_XF_lt (by decide)).mp (ax_gx hE (250, [27, 3, 7, 11, 15]) (by decide))
  obtain ⟨c, T, t1, t2, t3, t4, t5, t6, t7⟩ := py_take (o := ρ 5 / 4) F242 (show ρ 4 / 4 = ρ 5 / 4 + 1 by omega)
  rw [c_open] at t3
  have te := Option.some.inj t3
  have tk : c = ρ 7 / 4 := by omega
  refine ⟨(fun y hy => by cases hy), _, List.mem_cons_self, ρ, fun _ _ => rfl, ax_px hE (by decide) (fun x hx => ?_)⟩
  cases List.mem_singleton.mp hx
  refine (ax_XF_lt (x := 260) (by decide)).mpr ?_
  show py_260 (ρ 6) (ρ 0) (ρ 1) (ρ 2) (ρ 3)
  exact pm_mc4 F250 (by rw [t1]; show py_bd c < _; rw [tk, py_bd_c (by omega) (by omega)]; exact py_bd_1 (by omega) (by omega))

theorem axq0_mc4b : ax_RO ax_wM0 (ax_XM 0) axu0_mc4b := by
  intro ρ hp hE hT
  have j0 : ρ 0 % 4 = 1 := pz_gj hE 0 (by decide) rfl
  have j1 : ρ 1 % 4 = 1 := pz_gj hE 1 (by decide) rfl
  have j2 : ρ 2 % 4 = 1 := pz_gj hE 2 (by decide) rfl
  have j3 : ρ 3 % 4 = 1 := pz_gj hE 3 (by decide) rfl
  obtain ⟨i4a, i4b, i4c, i4d⟩ := pz_gi hE 4 2147483649 2147483748 (by decide) rfl
  obtain ⟨i5a, i5b, i5c, i5d⟩ := pz_gi hE 5 2147483648 2147483747 (by decide) rfl
  obtain ⟨i6a, i6b, i6c, i6d⟩ := pz_gi hE 6 2147484653 2147484655 (by decide) rfl
  obtain ⟨i7a, i7b, i7c, i7d⟩ := pz_gi hE 7 2147484651 2147484652 (by decide) rfl
  have c_opened : ay_at hp 173 27 = some (ρ 4) := ay_gfj hE 702 108 19 173 27 (by decide) (by rw [ax_vl_c (by decide)]) (by rw [ax_vl_c (by decide)])
  have s1 : (ρ 5 / 4 + 2147483648) % 4294967296 + (4 / 4 + 2147483648) % 4294967296 = (ρ 4 / 4 + 2147483648) % 4294967296 + 2147483648 := pz_gs hE 23 4 19 (by decide)
  have c_open : ay_at hp 185 (ρ 5 / 4) = some (ρ 7) := ay_gf hE 750 23 31 185 (by decide) (by rw [ax_vl_c (by decide)])
  obtain ⟨-, -, F242⟩ : ay_ex hp 173 ∧ ay_ex hp 185 ∧ py_y242 (ρ 2) (ay_at hp 173 27) (ay_at hp 185) := (ax_XF_lt (by decide)).mp (ax_gx hE (242, [11]) (by decide))
  rw [c_opened] at F242
  obtain ⟨-, -, F241⟩ : ay_ex hp 180 ∧ ay_ex hp 182 ∧ py_y241 1 (ρ 3) (ay_at hp 180 1) (ay_at hp 182) := (ax_XF_lt (by decide)).mp (ax_gx hE (241, [15]) (by decide))
  have F250 : py_250 (ρ 6) (ρ 0) (ρ 1) (ρ 2) (ρ 3) := (ax_XF_lt (by decide)).mp (ax_gx hE (250, [27, 3, 7, 11, 15]) (by decide))
  obtain ⟨c, T, t1, t2, t3, t4, t5, t6, t7⟩ := py_take (o := ρ 5 / 4) F242 (show ρ 4 / 4 = ρ 5 / 4 + 1 by omega)
  rw [c_open] at t3
  have te := Option.some.inj t3
  have tk : c = ρ 7 / 4 := by omega
  refine ⟨(fun y hy => by cases hy), _, List.mem_cons_self, ρ, fun _ _ => rfl, ax_px hE (by decide) (fun x hx => ?_)⟩
  cases List.mem_singleton.mp hx
  refine (ax_XF_lt (x := 260) (by decide)).mpr ?_
  show py_260 (ρ 6) (ρ 0) (ρ 1) (ρ 2) (ρ 3)
  exact pm_mc4 F250 (by rw [t1]; show py_bd c < _; rw [tk, py_bd_a (by omega) (by omega), py_bd_b (by omega) (by omega)]; decide)

theorem axq0_mc4c : ax_RO ax_wM0 (ax_XM 0) axu0_mc4c := by
  intro ρ hp hE hT
  have j0 : ρ 0 % 4 = 1 := pz_gj hE 0 (by decide) rfl
  have j1 : ρ 1 % 4 = 1 := pz_gj hE 1 (by decide) rfl
  have j2 : ρ 2 % 4 = 1 := pz_gj hE 2 (by decide) rfl
  have j3 : ρ 3 % 4 = 1 := pz_gj hE 3 (by decide) rfl
  obtain ⟨i4a, i4b, i4c, i4d⟩ := pz_gi hE 4 2147483649 2147483748 (by decide) rfl
  obtain ⟨i5a, i5b, i5c, i5d⟩ := pz_gi hE 5 2147483648 2147483747 (by decide) rfl
  obtain ⟨i6a, i6b, i6c, i6d⟩ := pz_gi hE 6 2147484653 2147484655 (by decide) rfl
  obtain ⟨i7a, i7b, i7c, i7d⟩ := pz_gi hE 7 2147484656 2147484657 (by decide) rfl
  have c_opened : ay_at hp 173 27 = some (ρ 4) := ay_gfj hE 702 108 19 173 27 (by decide) (by rw [ax_vl_c (by decide)]) (by rw [ax_vl_c (by decide)])
  have s1 : (ρ 5 / 4 + 2147483648) % 4294967296 + (4 / 4 + 2147483648) % 4294967296 = (ρ 4 / 4 + 2147483648) % 4294967296 + 2147483648 := pz_gs hE 23 4 19 (by decide)
  have c_open : ay_at hp 185 (ρ 5 / 4) = some (ρ 7) := ay_gf hE 750 23 31 185 (by decide) (by rw [ax_vl_c (by decide)])
  obtain ⟨-, -, F242⟩ : ay_ex hp 173 ∧ ay_ex hp 185 ∧ py_y242 (ρ 2) (ay_at hp 173 27) (ay_at hp 185) := (ax_XF_lt (by decide)).mp (ax_gx hE (242, [11]) (by decide))
  rw [c_opened] at F242
  obtain ⟨-, -, F241⟩ : ay_ex hp 180 ∧ ay_ex hp 182 ∧ py_y241 1 (ρ 3) (ay_at hp 180 1) (ay_at hp 182) := (ax_XF_lt (by decide)).mp (ax_gx hE (241, [15]) (by decide))
  have F250 : py_250 (ρ 6) (ρ 0) (ρ 1) (ρ 2) (ρ 3) := (ax_XF_lt (by decide)).mp (ax_gx hE (250, [27, 3, 7, 11, 15]) (by decide))
  obtain ⟨c, T, t1, t2, t3, t4, t5, t6, t7⟩ := py_take (o := ρ 5 / 4) F242 (show ρ 4 / 4 = ρ 5 / 4 + 1 by omega)
  rw [c_open] at t3
  have te := Option.some.inj t3
  have tk : c = ρ 7 / 4 := by omega
  refine ⟨(fun y hy => by cases hy), _, List.mem_cons_self, ρ, fun _ _ => rfl, ax_px hE (by decide) (fun x hx => ?_)⟩
  cases List.mem_singleton.mp hx
  refine (ax_XF_lt (x := 260) (by decide)).mpr ?_
  show py_260 (ρ 6) (ρ 0) (ρ 1) (ρ 2) (ρ 3)
  exact pm_mc4 F250 (by rw [t1]; show py_bd c < _; rw [tk, py_bd_c (by omega) (by omega)]; exact py_bd_1 (by omega) (by omega))

theorem axq0_mc5 : ax_RO ax_wM0 (ax_XM 0) axu0_mc5 := by
  intro ρ hp hE hT
  have j0 : ρ 0 % 4 = 1 := pz_gj hE 0 (by decide) rfl
  have j1 : ρ 1 % 4 = 1 := pz_gj hE 1 (by decide) rfl
  have j2 : ρ 2 % 4 = 1 := pz_gj hE 2 (by decide) rfl
  have j3 : ρ 3 % 4 = 1 := pz_gj hE 3 (by decide) rfl
  have j4 : ρ 4 % 4 = 1 := pz_gj hE 4 (by decide) rfl
  have j5 : ρ 5 % 4 = 1 := pz_gj hE 5 (by decide) rfl
  have j6 : ρ 6 % 4 = 1 := pz_gj hE 6 (by decide) rfl
  have j7 : ρ 7 % 4 = 1 := pz_gj hE 7 (by decide) rfl
  obtain ⟨i8a, i8b, i8c, i8d⟩ := pz_gi hE 8 2147484651 2147484655 (by decide) rfl
  obtain ⟨-, -, -, -, -, F151⟩ : ay_ex hp 173 ∧ ay_ex hp 173 ∧ ay_ex hp 173 ∧ ay_ex hp 173 ∧ ay_ex hp 173 ∧ pz_y151 (ρ 0) (ρ 1) (ay_at hp 173 13) (ay_at hp 173 14) (ay_at hp 173 15) (ay_at hp 173 16) (ay_at hp 173 17) := (ax_XF_lt (by decide)).mp (ax_gx hE (151, [3, 7]) (by decide))
  have F182 : (ρ 2) / 4 = (ρ 1) / 4 + 1 := (ax_XF_lt (by decide)).mp (ax_gx hE (182, [7, 11]) (by decide))
  have F179 : pz7 (pz_gt (ρ 0)) (pz_gN (ρ 0)) ((ρ 1) / 4) 9 := (ax_XF_lt (by decide)).mp (ax_gx hE (179, [3, 7]) (by decide))
  have F198 : pz_op (pz_kd (pz_gt (ρ 0)) (pz_gN (ρ 0)) (pz_p (pz_cF (ρ 0) (ρ 1)))) = true := (ax_XF_lt (by decide)).mp (ax_gx hE (198, [3, 7]) (by decide))
  have F259 : (ρ 8) / 4 = py_op (pz_kd (pz_gt (ρ 0)) (pz_gN (ρ 0)) (pz_p (pz_cF (ρ 0) (ρ 1)))) := (ax_XF_lt (by decide)).mp (ax_gx hE (259, [3, 7, 35]) (by decide))
  have F246 : py_y246 (pz_gt (ρ 0)) (pz_gN (ρ 0)) ((ρ 1) / 4) (ρ 3) (ρ 4) := (ax_XF_lt (by decide)).mp (ax_gx hE (246, [3, 7, 15, 19]) (by decide))
  have F260 : py_260 (ρ 8) (ρ 3) (ρ 4) (ρ 5) (ρ 6) := (ax_XF_lt (by decide)).mp (ax_gx hE (260, [35, 15, 19, 23, 27]) (by decide))
  obtain ⟨-, -, F242⟩ : ay_ex hp 173 ∧ ay_ex hp 185 ∧ py_y242 (ρ 7) (ay_at hp 173 27) (ay_at hp 185) := (ax_XF_lt (by decide)).mp (ax_gx hE (242, [31]) (by decide))
  obtain ⟨-, -, F241⟩ : ay_ex hp 180 ∧ ay_ex hp 182 ∧ py_y241 1 (ρ 6) (ay_at hp 180 1) (ay_at hp 182) := (ax_XF_lt (by decide)).mp (ax_gx hE (241, [27]) (by decide))
  have F251 : py_251 (ρ 7) (ρ 8) (ρ 5) := (ax_XF_lt (by decide)).mp (ax_gx hE (251, [31, 35, 23]) (by decide))
  refine ⟨(fun y hy => by cases hy), _, List.mem_cons_self, ρ, fun _ _ => rfl, ax_px hE (by decide) (fun x hx => ?_)⟩
  cases List.mem_singleton.mp hx
  refine (ax_XF_lt (x := 246) (by decide)).mpr ?_
  show py_y246 (pz_gt (ρ 0)) (pz_gN (ρ 0)) ((ρ 2) / 4) (ρ 7) (ρ 6)
  exact pm_mc5 F179 F198 F259 F182 F246 F260 F251

theorem axqg_mx0 {w : ax_W} {b : Nat} (hw : ax_WW w) : ax_RO w (ax_XM b) axu0_mx0 := by
  intro ρ hp hE hT
  have j0 : ρ 0 % 4 = 1 := pz_gj hE 0 (by decide) rfl
  have F189 : (ρ 0) / 4 = 1 := (ax_XF_lt (by decide)).mp (ax_gx hE (189, [3]) (by decide))
  refine ⟨(fun y hy => by cases hy), _, List.mem_cons_self, ρ, fun _ _ => rfl, ax_px hE (by decide) (fun x hx => ?_)⟩
  cases List.mem_singleton.mp hx
  refine (ax_XF_wr (x := 196) (by decide)).mpr ?_
  show ay_ex (ax_upd hp 702 (108) (0)) 173 ∧ ay_ex (ax_upd hp 702 (108) (0)) 185 ∧ pz_y196 (ρ 0) (ay_at (ax_upd hp 702 (108) (0)) 173 27) (ay_at (ax_upd hp 702 (108) (0)) 185)
  obtain ⟨o0, ho0⟩ := ay_some hT (q := 173) (g := 11) (n := 58) (ax_wc hw ax_cg_173) (ax_wn hw ax_cn_11) (j := 108 / 4) (by decide)
  have u1 : ∀ q, q ≠ 173 → ay_at (ax_upd hp 702 108 (0)) q = ay_at hp q := fun q hq => funext (fun j => ay_upd_ne hT.1 hq j)
  have u2 : ∀ j, ay_at (ax_upd hp 702 108 (0)) 173 j = if j = 27 then some (0) else ay_at hp 173 j := fun j => ay_upd_eq hT.1 rfl ho0 j
  refine ⟨ay_ex_upd hT.1 (ax_cellT hT (q := 173) (g := 11) (ax_wc hw ax_cg_173)), ay_ex_upd hT.1 (ax_cellT hT (q := 185) (g := 55) (ax_wc hw ax_cg_185)), ?_⟩
  rw [u2 27, if_pos rfl, u1 185 (by decide)]
  exact ⟨F189.symm, fun j hj => absurd (show j + 1 < 0 from hj) (by omega)⟩
theorem axq0_mx0 : ax_RO ax_wM0 (ax_XM 0) axu0_mx0 := axqg_mx0 ax_WW0
theorem axqg_mx1 {w : ax_W} {b : Nat} (hw : ax_WW w) : ax_RO w (ax_XM b) axu0_mx1 := by
  intro ρ hp hE hT
  have j0 : ρ 0 % 4 = 1 := pz_gj hE 0 (by decide) rfl
  have F189 : (ρ 0) / 4 = 1 := (ax_XF_lt (by decide)).mp (ax_gx hE (189, [3]) (by decide))
  refine ⟨(fun y hy => by cases hy), _, List.mem_cons_self, ρ, fun _ _ => rfl, ax_px hE (by decide) (fun x hx => ?_)⟩
  cases List.mem_singleton.mp hx
  refine (ax_XF_wr (x := 195) (by decide)).mpr ?_
  show ay_ex (ax_upd hp 702 (112) (0)) 173 ∧ ay_ln (ay_at (ax_upd hp 702 (112) (0)) 173 28) = pz_dp ((ρ 0) / 4)
  obtain ⟨o0, ho0⟩ := ay_some hT (q := 173) (g := 11) (n := 58) (ax_wc hw ax_cg_173) (ax_wn hw ax_cn_11) (j := 112 / 4) (by decide)
  have u1 : ∀ q, q ≠ 173 → ay_at (ax_upd hp 702 112 (0)) q = ay_at hp q := fun q hq => funext (fun j => ay_upd_ne hT.1 hq j)
  have u2 : ∀ j, ay_at (ax_upd hp 702 112 (0)) 173 j = if j = 28 then some (0) else ay_at hp 173 j := fun j => ay_upd_eq hT.1 rfl ho0 j
  refine ⟨ay_ex_upd hT.1 (ax_cellT hT (q := 173) (g := 11) (ax_wc hw ax_cg_173)), ?_⟩
  rw [u2 28, if_pos rfl]
  show 0 / 4 = _
  rw [F189]
  rfl
theorem axq0_mx1 : ax_RO ax_wM0 (ax_XM 0) axu0_mx1 := axqg_mx1 ax_WW0
theorem axqg_mx2 {w : ax_W} {b : Nat} (hw : ax_WW w) : ax_RO w (ax_XM b) axu0_mx2 := by
  intro ρ hp hE hT
  have j0 : ρ 0 % 4 = 1 := pz_gj hE 0 (by decide) rfl
  have j1 : ρ 1 % 4 = 1 := pz_gj hE 1 (by decide) rfl
  have j2 : ρ 2 % 4 = 1 := pz_gj hE 2 (by decide) rfl
  obtain ⟨-, -, -, -, -, F151⟩ : ay_ex hp 173 ∧ ay_ex hp 173 ∧ ay_ex hp 173 ∧ ay_ex hp 173 ∧ ay_ex hp 173 ∧ pz_y151 (ρ 0) (ρ 1) (ay_at hp 173 13) (ay_at hp 173 14) (ay_at hp 173 15) (ay_at hp 173 16) (ay_at hp 173 17) := (ax_XF_lt (by decide)).mp (ax_gx hE (151, [3, 7]) (by decide))
  have F178 : pz7 (pz_gt (ρ 0)) (pz_gN (ρ 0)) ((ρ 1) / 4) 8 := (ax_XF_lt (by decide)).mp (ax_gx hE (178, [3, 7]) (by decide))
  have F190 : (pz90 (pz_gt (ρ 0)) (pz_gN (ρ 0)) ((ρ 1) / 4) ((ρ 2) / 4) ∧ 1 ≤ (ρ 2) / 4) := (ax_XF_lt (by decide)).mp (ax_gx hE (190, [3, 7, 11]) (by decide))
  refine ⟨(fun y hy => by cases hy), _, List.mem_cons_self, ρ, fun _ _ => rfl, ax_px hE (by decide) (fun x hx => ?_)⟩
  cases List.mem_singleton.mp hx
  refine (ax_XF_lt (x := 180) (by decide)).mpr ?_
  show pz_y180 (ρ 0) (ρ 1) (ρ 2) (4)
  exact ⟨F190.1, F190.2, fun _ => F178, fun z => absurd z (by decide)⟩
theorem axq0_mx2 : ax_RO ax_wM0 (ax_XM 0) axu0_mx2 := axqg_mx2 ax_WW0
theorem axqg_mx3 {w : ax_W} {b : Nat} (hw : ax_WW w) : ax_RO w (ax_XM b) axu0_mx3 := by
  intro ρ hp hE hT
  have j0 : ρ 0 % 4 = 1 := pz_gj hE 0 (by decide) rfl
  have j1 : ρ 1 % 4 = 1 := pz_gj hE 1 (by decide) rfl
  have j2 : ρ 2 % 4 = 1 := pz_gj hE 2 (by decide) rfl
  obtain ⟨i3a, i3b, i3c, i3d⟩ := pz_gi hE 3 2147483649 2147483649 (by decide) rfl
  obtain ⟨-, -, -, -, -, F151⟩ : ay_ex hp 173 ∧ ay_ex hp 173 ∧ ay_ex hp 173 ∧ ay_ex hp 173 ∧ ay_ex hp 173 ∧ pz_y151 (ρ 0) (ρ 1) (ay_at hp 173 13) (ay_at hp 173 14) (ay_at hp 173 15) (ay_at hp 173 16) (ay_at hp 173 17) := (ax_XF_lt (by decide)).mp (ax_gx hE (151, [3, 7]) (by decide))
  have F180 : pz_y180 (ρ 0) (ρ 1) (ρ 2) (ρ 3) := (ax_XF_lt (by decide)).mp (ax_gx hE (180, [3, 7, 11, 15]) (by decide))
  refine ⟨(fun y hy => by cases hy), _, List.mem_cons_self, ρ, fun _ _ => rfl, ax_px hE (by decide) (fun x hx => ?_)⟩
  rcases List.mem_cons.mp hx with e | hx
  · subst e
    refine (ax_XF_lt (x := 178) (by decide)).mpr ?_
    show pz7 (pz_gt (ρ 0)) (pz_gN (ρ 0)) ((ρ 1) / 4) 8
    exact F180.2.2.1 (by omega)
  cases List.mem_singleton.mp hx
  refine (ax_XF_lt (x := 190) (by decide)).mpr ?_
  show (pz90 (pz_gt (ρ 0)) (pz_gN (ρ 0)) ((ρ 1) / 4) ((ρ 2) / 4) ∧ 1 ≤ (ρ 2) / 4)
  exact ⟨F180.1, F180.2.1⟩
theorem axq0_mx3 : ax_RO ax_wM0 (ax_XM 0) axu0_mx3 := axqg_mx3 ax_WW0
theorem axqg_mx4 {w : ax_W} {b : Nat} (hw : ax_WW w) : ax_RO w (ax_XM b) axu0_mx4 := by
  intro ρ hp hE hT
  have j0 : ρ 0 % 4 = 1 := pz_gj hE 0 (by decide) rfl
  have j1 : ρ 1 % 4 = 1 := pz_gj hE 1 (by decide) rfl
  have j2 : ρ 2 % 4 = 1 := pz_gj hE 2 (by decide) rfl
  obtain ⟨i3a, i3b, i3c, i3d⟩ := pz_gi hE 3 2147483648 2147483648 (by decide) rfl
  obtain ⟨-, -, -, -, -, F151⟩ : ay_ex hp 173 ∧ ay_ex hp 173 ∧ ay_ex hp 173 ∧ ay_ex hp 173 ∧ ay_ex hp 173 ∧ pz_y151 (ρ 0) (ρ 1) (ay_at hp 173 13) (ay_at hp 173 14) (ay_at hp 173 15) (ay_at hp 173 16) (ay_at hp 173 17) := (ax_XF_lt (by decide)).mp (ax_gx hE (151, [3, 7]) (by decide))
  have F180 : pz_y180 (ρ 0) (ρ 1) (ρ 2) (ρ 3) := (ax_XF_lt (by decide)).mp (ax_gx hE (180, [3, 7, 11, 15]) (by decide))
  refine ⟨(fun y hy => by cases hy), _, List.mem_cons_self, ρ, fun _ _ => rfl, ax_px hE (by decide) (fun x hx => ?_)⟩
  rcases List.mem_cons.mp hx with e | hx
  · subst e
    refine (ax_XF_lt (x := 179) (by decide)).mpr ?_
    show pz7 (pz_gt (ρ 0)) (pz_gN (ρ 0)) ((ρ 1) / 4) 9
    exact (F180.2.2.2 (by omega)).1
  rcases List.mem_cons.mp hx with e | hx
  · subst e
    refine (ax_XF_lt (x := 190) (by decide)).mpr ?_
    show (pz90 (pz_gt (ρ 0)) (pz_gN (ρ 0)) ((ρ 1) / 4) ((ρ 2) / 4) ∧ 1 ≤ (ρ 2) / 4)
    exact ⟨F180.1, F180.2.1⟩
  cases List.mem_singleton.mp hx
  refine (ax_XF_lt (x := 192) (by decide)).mpr ?_
  show pz_strip ((ρ 2) / 4) = (ρ 2) / 4
  exact (F180.2.2.2 (by omega)).2
theorem axq0_mx4 : ax_RO ax_wM0 (ax_XM 0) axu0_mx4 := axqg_mx4 ax_WW0
theorem axqg_mx5_35 {w : ax_W} {b : Nat} (hw : ax_WW w) : ax_RO w (ax_XM b) axu0_mx5_35 := by
  intro ρ hp hE hT
  have j0 : ρ 0 % 4 = 1 := pz_gj hE 0 (by decide) rfl
  have j1 : ρ 1 % 4 = 1 := pz_gj hE 1 (by decide) rfl
  have j2 : ρ 2 % 4 = 1 := pz_gj hE 2 (by decide) rfl
  obtain ⟨-, -, -, -, -, F151⟩ : ay_ex hp 173 ∧ ay_ex hp 173 ∧ ay_ex hp 173 ∧ ay_ex hp 173 ∧ ay_ex hp 173 ∧ pz_y151 (ρ 0) (ρ 1) (ay_at hp 173 13) (ay_at hp 173 14) (ay_at hp 173 15) (ay_at hp 173 16) (ay_at hp 173 17) := (ax_XF_lt (by decide)).mp (ax_gx hE (151, [3, 7]) (by decide))
  have F178 : pz7 (pz_gt (ρ 0)) (pz_gN (ρ 0)) ((ρ 1) / 4) 8 := (ax_XF_lt (by decide)).mp (ax_gx hE (178, [3, 7]) (by decide))
  have F190 : (pz90 (pz_gt (ρ 0)) (pz_gN (ρ 0)) ((ρ 1) / 4) ((ρ 2) / 4) ∧ 1 ≤ (ρ 2) / 4) := (ax_XF_lt (by decide)).mp (ax_gx hE (190, [3, 7, 11]) (by decide))
  obtain ⟨-, -, F196⟩ : ay_ex hp 173 ∧ ay_ex hp 185 ∧ pz_y196 (ρ 2) (ay_at hp 173 27) (ay_at hp 185) := (ax_XF_lt (by decide)).mp (ax_gx hE (196, [11]) (by decide))
  refine ⟨(fun y hy => by cases hy), _, List.mem_cons_self, ρ, fun _ _ => rfl, ax_px hE (by decide) (fun x hx => ?_)⟩
  cases List.mem_singleton.mp hx
  refine (ax_XF_lt (x := 180) (by decide)).mpr ?_
  show pz_y180 (ρ 0) (ρ 1) (ρ 2) (4)
  exact ⟨F190.1, F190.2, fun _ => F178, fun z => absurd z (by decide)⟩
theorem axq0_mx5_35 : ax_RO ax_wM0 (ax_XM 0) axu0_mx5_35 := axqg_mx5_35 ax_WW0
theorem axqg_mx6_35 {w : ax_W} {b : Nat} (hw : ax_WW w) : ax_RO w (ax_XM b) axu0_mx6_35 := by
  intro ρ hp hE hT
  have j0 : ρ 0 % 4 = 1 := pz_gj hE 0 (by decide) rfl
  have j1 : ρ 1 % 4 = 1 := pz_gj hE 1 (by decide) rfl
  have j2 : ρ 2 % 4 = 1 := pz_gj hE 2 (by decide) rfl
  obtain ⟨i3a, i3b, i3c, i3d⟩ := pz_gi hE 3 2147483648 2147483648 (by decide) rfl
  obtain ⟨-, -, -, -, -, F151⟩ : ay_ex hp 173 ∧ ay_ex hp 173 ∧ ay_ex hp 173 ∧ ay_ex hp 173 ∧ ay_ex hp 173 ∧ pz_y151 (ρ 0) (ρ 1) (ay_at hp 173 13) (ay_at hp 173 14) (ay_at hp 173 15) (ay_at hp 173 16) (ay_at hp 173 17) := (ax_XF_lt (by decide)).mp (ax_gx hE (151, [3, 7]) (by decide))
  have F179 : pz7 (pz_gt (ρ 0)) (pz_gN (ρ 0)) ((ρ 1) / 4) 9 := (ax_XF_lt (by decide)).mp (ax_gx hE (179, [3, 7]) (by decide))
  have F190 : (pz90 (pz_gt (ρ 0)) (pz_gN (ρ 0)) ((ρ 1) / 4) ((ρ 2) / 4) ∧ 1 ≤ (ρ 2) / 4) := (ax_XF_lt (by decide)).mp (ax_gx hE (190, [3, 7, 11]) (by decide))
  obtain ⟨-, -, F196⟩ : ay_ex hp 173 ∧ ay_ex hp 185 ∧ pz_y196 (ρ 2) (ay_at hp 173 27) (ay_at hp 185) := (ax_XF_lt (by decide)).mp (ax_gx hE (196, [11]) (by decide))
  have F192 : pz_strip ((ρ 2) / 4) = (ρ 2) / 4 := (ax_XF_lt (by decide)).mp (ax_gx hE (192, [11, 11]) (by decide))
  refine ⟨(fun y hy => by cases hy), _, List.mem_cons_self, ρ, fun _ _ => rfl, ax_px hE (by decide) (fun x hx => ?_)⟩
  cases List.mem_singleton.mp hx
  refine (ax_XF_lt (x := 180) (by decide)).mpr ?_
  show pz_y180 (ρ 0) (ρ 1) (ρ 2) (ρ 3)
  exact ⟨F190.1, F190.2, fun z => absurd z (by omega), fun _ => ⟨F179, F192⟩⟩
theorem axq0_mx6_35 : ax_RO ax_wM0 (ax_XM 0) axu0_mx6_35 := axqg_mx6_35 ax_WW0
theorem axqg_mx6_59 {w : ax_W} {b : Nat} (hw : ax_WW w) : ax_RO w (ax_XM b) axu0_mx6_59 := by
  intro ρ hp hE hT
  have j0 : ρ 0 % 4 = 1 := pz_gj hE 0 (by decide) rfl
  have j1 : ρ 1 % 4 = 1 := pz_gj hE 1 (by decide) rfl
  have j2 : ρ 2 % 4 = 1 := pz_gj hE 2 (by decide) rfl
  obtain ⟨i3a, i3b, i3c, i3d⟩ := pz_gi hE 3 2147483648 2147483648 (by decide) rfl
  obtain ⟨-, -, -, -, -, F151⟩ : ay_ex hp 173 ∧ ay_ex hp 173 ∧ ay_ex hp 173 ∧ ay_ex hp 173 ∧ ay_ex hp 173 ∧ pz_y151 (ρ 0) (ρ 1) (ay_at hp 173 13) (ay_at hp 173 14) (ay_at hp 173 15) (ay_at hp 173 16) (ay_at hp 173 17) := (ax_XF_lt (by decide)).mp (ax_gx hE (151, [3, 7]) (by decide))
  have F179 : pz7 (pz_gt (ρ 0)) (pz_gN (ρ 0)) ((ρ 1) / 4) 9 := (ax_XF_lt (by decide)).mp (ax_gx hE (179, [3, 7]) (by decide))
  have F190 : (pz90 (pz_gt (ρ 0)) (pz_gN (ρ 0)) ((ρ 1) / 4) ((ρ 2) / 4) ∧ 1 ≤ (ρ 2) / 4) := (ax_XF_lt (by decide)).mp (ax_gx hE (190, [3, 7, 11]) (by decide))
  obtain ⟨-, -, F196⟩ : ay_ex hp 173 ∧ ay_ex hp 185 ∧ pz_y196 (ρ 2) (ay_at hp 173 27) (ay_at hp 185) := (ax_XF_lt (by decide)).mp (ax_gx hE (196, [11]) (by decide))
  have F192 : pz_strip ((ρ 2) / 4) = (ρ 2) / 4 := (ax_XF_lt (by decide)).mp (ax_gx hE (192, [11, 11]) (by decide))
  refine ⟨(fun y hy => by cases hy), _, List.mem_cons_self, ρ, fun _ _ => rfl, ax_px hE (by decide) (fun x hx => ?_)⟩
  cases List.mem_singleton.mp hx
  refine (ax_XF_lt (x := 180) (by decide)).mpr ?_
  show pz_y180 (ρ 0) (ρ 1) (ρ 2) (ρ 3)
  exact ⟨F190.1, F190.2, fun z => absurd z (by omega), fun _ => ⟨F179, F192⟩⟩
theorem axq0_mx6_59 : ax_RO ax_wM0 (ax_XM 0) axu0_mx6_59 := axqg_mx6_59 ax_WW0
theorem axqg_mx5_76 {w : ax_W} {b : Nat} (hw : ax_WW w) : ax_RO w (ax_XM b) axu0_mx5_76 := by
  intro ρ hp hE hT
  have j0 : ρ 0 % 4 = 1 := pz_gj hE 0 (by decide) rfl
  have j1 : ρ 1 % 4 = 1 := pz_gj hE 1 (by decide) rfl
  have j2 : ρ 2 % 4 = 1 := pz_gj hE 2 (by decide) rfl
  obtain ⟨-, -, -, -, -, F151⟩ : ay_ex hp 173 ∧ ay_ex hp 173 ∧ ay_ex hp 173 ∧ ay_ex hp 173 ∧ ay_ex hp 173 ∧ pz_y151 (ρ 0) (ρ 1) (ay_at hp 173 13) (ay_at hp 173 14) (ay_at hp 173 15) (ay_at hp 173 16) (ay_at hp 173 17) := (ax_XF_lt (by decide)).mp (ax_gx hE (151, [3, 7]) (by decide))
  have F178 : pz7 (pz_gt (ρ 0)) (pz_gN (ρ 0)) ((ρ 1) / 4) 8 := (ax_XF_lt (by decide)).mp (ax_gx hE (178, [3, 7]) (by decide))
  have F190 : (pz90 (pz_gt (ρ 0)) (pz_gN (ρ 0)) ((ρ 1) / 4) ((ρ 2) / 4) ∧ 1 ≤ (ρ 2) / 4) := (ax_XF_lt (by decide)).mp (ax_gx hE (190, [3, 7, 11]) (by decide))
  obtain ⟨-, -, F196⟩ : ay_ex hp 173 ∧ ay_ex hp 185 ∧ pz_y196 (ρ 2) (ay_at hp 173 27) (ay_at hp 185) := (ax_XF_lt (by decide)).mp (ax_gx hE (196, [11]) (by decide))
  refine ⟨(fun y hy => by cases hy), _, List.mem_cons_self, ρ, fun _ _ => rfl, ax_px hE (by decide) (fun x hx => ?_)⟩
  cases List.mem_singleton.mp hx
  refine (ax_XF_lt (x := 180) (by decide)).mpr ?_
  show pz_y180 (ρ 0) (ρ 1) (ρ 2) (4)
  exact ⟨F190.1, F190.2, fun _ => F178, fun z => absurd z (by decide)⟩
theorem axq0_mx5_76 : ax_RO ax_wM0 (ax_XM 0) axu0_mx5_76 := axqg_mx5_76 ax_WW0
theorem axqg_mx7 {w : ax_W} {b : Nat} (hw : ax_WW w) : ax_RO w (ax_XM b) axu0_mx7 := by
  intro ρ hp hE hT
  have j0 : ρ 0 % 4 = 1 := pz_gj hE 0 (by decide) rfl
  have j1 : ρ 1 % 4 = 1 := pz_gj hE 1 (by decide) rfl
  have j2 : ρ 2 % 4 = 1 := pz_gj hE 2 (by decide) rfl
  obtain ⟨i3a, i3b, i3c, i3d⟩ := pz_gi hE 3 2147483649 2147483654 (by decide) rfl
  have c_deep : ay_at hp 173 28 = some (ρ 3) := ay_gfj hE 702 112 15 173 28 (by decide) (by rw [ax_vl_c (by decide)]) (by rw [ax_vl_c (by decide)])
  obtain ⟨-, -, -, -, -, F151⟩ : ay_ex hp 173 ∧ ay_ex hp 173 ∧ ay_ex hp 173 ∧ ay_ex hp 173 ∧ ay_ex hp 173 ∧ pz_y151 (ρ 0) (ρ 1) (ay_at hp 173 13) (ay_at hp 173 14) (ay_at hp 173 15) (ay_at hp 173 16) (ay_at hp 173 17) := (ax_XF_lt (by decide)).mp (ax_gx hE (151, [3, 7]) (by decide))
  have F190 : (pz90 (pz_gt (ρ 0)) (pz_gN (ρ 0)) ((ρ 1) / 4) ((ρ 2) / 4) ∧ 1 ≤ (ρ 2) / 4) := (ax_XF_lt (by decide)).mp (ax_gx hE (190, [3, 7, 11]) (by decide))
  obtain ⟨-, F195⟩ : ay_ex hp 173 ∧ ay_ln (ay_at hp 173 28) = pz_dp ((ρ 2) / 4) := (ax_XF_lt (by decide)).mp (ax_gx hE (195, [11]) (by decide))
  rw [c_deep] at F195
  have F192 : pz_strip ((ρ 2) / 4) = (ρ 2) / 4 := (ax_XF_lt (by decide)).mp (ax_gx hE (192, [11, 11]) (by decide))
  have e : ρ 3 / 4 = pz_dp (ρ 2 / 4) := F195
  have e1 := pz_dp_1 (s := ρ 2 / 4) (by omega)
  have e2 := pz_strip_ev F190.2 F192
  obtain ⟨ρ', h1, h2⟩ := pz_pn1 (K := ρ 2 / 4 / 2) (xf := [(193, [11, 19])]) hE (by decide) (fun ρ' h1 h2 x hx => by
    have q0 : ρ' 0 = ρ 0 := h1 0 (by decide)
    have q1 : ρ' 1 = ρ 1 := h1 1 (by decide)
    have q2 : ρ' 2 = ρ 2 := h1 2 (by decide)
    have q3 : ρ' 3 = ρ 3 := h1 3 (by decide)
    cases List.mem_singleton.mp hx
    refine (ax_XF_lt (x := 193) (by decide)).mpr ?_
    show ((ρ' 2) / 4 = 2 * ((ρ' 4) / 4) ∧ 1 ≤ (ρ' 4) / 4)
    rw [q2, h2]
    rw [pz_41]
    exact ⟨by omega, by omega⟩)
  exact ⟨(fun y hy => by cases hy), _, List.mem_cons_self, ρ', h1, h2⟩
theorem axq0_mx7 : ax_RO ax_wM0 (ax_XM 0) axu0_mx7 := axqg_mx7 ax_WW0
theorem axqg_mx8a {w : ax_W} {b : Nat} (hw : ax_WW w) : ax_RO w (ax_XM b) axu0_mx8a := by
  intro ρ hp hE hT
  have j0 : ρ 0 % 4 = 1 := pz_gj hE 0 (by decide) rfl
  have j1 : ρ 1 % 4 = 1 := pz_gj hE 1 (by decide) rfl
  have j2 : ρ 2 % 4 = 1 := pz_gj hE 2 (by decide) rfl
  obtain ⟨-, -, -, -, -, F151⟩ : ay_ex hp 173 ∧ ay_ex hp 173 ∧ ay_ex hp 173 ∧ ay_ex hp 173 ∧ ay_ex hp 173 ∧ pz_y151 (ρ 0) (ρ 1) (ay_at hp 173 13) (ay_at hp 173 14) (ay_at hp 173 15) (ay_at hp 173 16) (ay_at hp 173 17) := (ax_XF_lt (by decide)).mp (ax_gx hE (151, [3, 7]) (by decide))
  have F190 : (pz90 (pz_gt (ρ 0)) (pz_gN (ρ 0)) ((ρ 1) / 4) ((ρ 2) / 4) ∧ 1 ≤ (ρ 2) / 4) := (ax_XF_lt (by decide)).mp (ax_gx hE (190, [3, 7, 11]) (by decide))
  have F169 : pz_kd (pz_gt (ρ 0)) (pz_gN (ρ 0)) (pz_p (pz_cF (ρ 0) (ρ 1))) ≠ (164) / 4 := (ax_XF_lt (by decide)).mp (ax_gx hE (169, [3, 7, 164]) (by decide))
  refine ⟨(fun y hy => by cases hy), _, List.mem_cons_self, ρ, fun _ _ => rfl, ax_px hE (by decide) (fun x hx => ?_)⟩
  cases List.mem_singleton.mp hx
  refine (ax_XF_lt (x := 199) (by decide)).mpr ?_
  show ¬ (pz_kd (pz_gt (ρ 0)) (pz_gN (ρ 0)) (pz_p (pz_cF (ρ 0) (ρ 1))) = 41 ∧ 1 < (ρ 2) / 4)
  exact fun z => F169 z.1
theorem axq0_mx8a : ax_RO ax_wM0 (ax_XM 0) axu0_mx8a := axqg_mx8a ax_WW0
theorem axqg_mx8b {w : ax_W} {b : Nat} (hw : ax_WW w) : ax_RO w (ax_XM b) axu0_mx8b := by
  intro ρ hp hE hT
  have j0 : ρ 0 % 4 = 1 := pz_gj hE 0 (by decide) rfl
  have j1 : ρ 1 % 4 = 1 := pz_gj hE 1 (by decide) rfl
  have j2 : ρ 2 % 4 = 1 := pz_gj hE 2 (by decide) rfl
  obtain ⟨i3a, i3b, i3c, i3d⟩ := pz_gi hE 3 2147483648 2147483648 (by decide) rfl
  have c_deep : ay_at hp 173 28 = some (ρ 3) := ay_gfj hE 702 112 15 173 28 (by decide) (by rw [ax_vl_c (by decide)]) (by rw [ax_vl_c (by decide)])
  obtain ⟨-, -, -, -, -, F151⟩ : ay_ex hp 173 ∧ ay_ex hp 173 ∧ ay_ex hp 173 ∧ ay_ex hp 173 ∧ ay_ex hp 173 ∧ pz_y151 (ρ 0) (ρ 1) (ay_at hp 173 13) (ay_at hp 173 14) (ay_at hp 173 15) (ay_at hp 173 16) (ay_at hp 173 17) := (ax_XF_lt (by decide)).mp (ax_gx hE (151, [3, 7]) (by decide))
  have F190 : (pz90 (pz_gt (ρ 0)) (pz_gN (ρ 0)) ((ρ 1) / 4) ((ρ 2) / 4) ∧ 1 ≤ (ρ 2) / 4) := (ax_XF_lt (by decide)).mp (ax_gx hE (190, [3, 7, 11]) (by decide))
  obtain ⟨-, F195⟩ : ay_ex hp 173 ∧ ay_ln (ay_at hp 173 28) = pz_dp ((ρ 2) / 4) := (ax_XF_lt (by decide)).mp (ax_gx hE (195, [11]) (by decide))
  rw [c_deep] at F195
  have e : ρ 3 / 4 = pz_dp (ρ 2 / 4) := F195
  refine ⟨(fun y hy => by cases hy), _, List.mem_cons_self, ρ, fun _ _ => rfl, ax_px hE (by decide) (fun x hx => ?_)⟩
  cases List.mem_singleton.mp hx
  refine (ax_XF_lt (x := 199) (by decide)).mpr ?_
  show ¬ (pz_kd (pz_gt (ρ 0)) (pz_gN (ρ 0)) (pz_p (pz_cF (ρ 0) (ρ 1))) = 41 ∧ 1 < (ρ 2) / 4)
  exact fun z => absurd (pz_dp_0 (s := ρ 2 / 4) (by omega)) (by have := z.2; omega)
theorem axq0_mx8b : ax_RO ax_wM0 (ax_XM 0) axu0_mx8b := axqg_mx8b ax_WW0
theorem axqg_mx9 {w : ax_W} {b : Nat} (hw : ax_WW w) : ax_RO w (ax_XM b) axu0_mx9 := by
  intro ρ hp hE hT
  have j0 : ρ 0 % 4 = 1 := pz_gj hE 0 (by decide) rfl
  have j1 : ρ 1 % 4 = 1 := pz_gj hE 1 (by decide) rfl
  have j2 : ρ 2 % 4 = 1 := pz_gj hE 2 (by decide) rfl
  obtain ⟨i3a, i3b, i3c, i3d⟩ := pz_gi hE 3 2147483649 2147483654 (by decide) rfl
  have c_deep : ay_at hp 173 28 = some (ρ 3) := ay_gfj hE 702 112 15 173 28 (by decide) (by rw [ax_vl_c (by decide)]) (by rw [ax_vl_c (by decide)])
  obtain ⟨-, -, -, -, -, F151⟩ : ay_ex hp 173 ∧ ay_ex hp 173 ∧ ay_ex hp 173 ∧ ay_ex hp 173 ∧ ay_ex hp 173 ∧ pz_y151 (ρ 0) (ρ 1) (ay_at hp 173 13) (ay_at hp 173 14) (ay_at hp 173 15) (ay_at hp 173 16) (ay_at hp 173 17) := (ax_XF_lt (by decide)).mp (ax_gx hE (151, [3, 7]) (by decide))
  have F179 : pz7 (pz_gt (ρ 0)) (pz_gN (ρ 0)) ((ρ 1) / 4) 9 := (ax_XF_lt (by decide)).mp (ax_gx hE (179, [3, 7]) (by decide))
  have F190 : (pz90 (pz_gt (ρ 0)) (pz_gN (ρ 0)) ((ρ 1) / 4) ((ρ 2) / 4) ∧ 1 ≤ (ρ 2) / 4) := (ax_XF_lt (by decide)).mp (ax_gx hE (190, [3, 7, 11]) (by decide))
  have F192 : pz_strip ((ρ 2) / 4) = (ρ 2) / 4 := (ax_XF_lt (by decide)).mp (ax_gx hE (192, [11, 11]) (by decide))
  have F194 : pz94 (pz_gt (ρ 0)) (pz_gN (ρ 0)) ((ρ 1) / 4) := (ax_XF_lt (by decide)).mp (ax_gx hE (194, [3, 7]) (by decide))
  have F199 : ¬ (pz_kd (pz_gt (ρ 0)) (pz_gN (ρ 0)) (pz_p (pz_cF (ρ 0) (ρ 1))) = 41 ∧ 1 < (ρ 2) / 4) := (ax_XF_lt (by decide)).mp (ax_gx hE (199, [3, 7, 11]) (by decide))
  obtain ⟨-, F195⟩ : ay_ex hp 173 ∧ ay_ln (ay_at hp 173 28) = pz_dp ((ρ 2) / 4) := (ax_XF_lt (by decide)).mp (ax_gx hE (195, [11]) (by decide))
  rw [c_deep] at F195
  have e : ρ 3 / 4 = pz_dp (ρ 2 / 4) := F195
  have e1 := pz_dp_1 (s := ρ 2 / 4) (by omega)
  have e2 := pz_strip_ev F190.2 F192
  refine ⟨(fun y hy => by cases hy), _, List.mem_cons_self, ρ, fun _ _ => rfl, ax_px hE (by decide) (fun x hx => ?_)⟩
  cases List.mem_singleton.mp hx
  refine (ax_XF_lt (x := 164) (by decide)).mpr ?_
  show pz64 (pz_gt (ρ 0)) (pz_gN (ρ 0)) ((ρ 1) / 4) ((4) / 4)
  exact pq_rs3 (s0 := ρ 2 / 4 / 2) F179 F190.1 (by omega) (by omega) F194 (fun z => F199 ⟨z, by omega⟩)
theorem axq0_mx9 : ax_RO ax_wM0 (ax_XM 0) axu0_mx9 := axqg_mx9 ax_WW0
theorem axqg_mxb {w : ax_W} {b : Nat} (hw : ax_WW w) : ax_RO w (ax_XM b) axu0_mxb := by
  intro ρ hp hE hT
  have j0 : ρ 0 % 4 = 1 := pz_gj hE 0 (by decide) rfl
  have j1 : ρ 1 % 4 = 1 := pz_gj hE 1 (by decide) rfl
  have j2 : ρ 2 % 4 = 1 := pz_gj hE 2 (by decide) rfl
  obtain ⟨i3a, i3b, i3c, i3d⟩ := pz_gi hE 3 2147483648 2147483648 (by decide) rfl
  have c_deep : ay_at hp 173 28 = some (ρ 3) := ay_gfj hE 702 112 15 173 28 (by decide) (by rw [ax_vl_c (by decide)]) (by rw [ax_vl_c (by decide)])
  obtain ⟨-, -, -, -, -, F151⟩ : ay_ex hp 173 ∧ ay_ex hp 173 ∧ ay_ex hp 173 ∧ ay_ex hp 173 ∧ ay_ex hp 173 ∧ pz_y151 (ρ 0) (ρ 1) (ay_at hp 173 13) (ay_at hp 173 14) (ay_at hp 173 15) (ay_at hp 173 16) (ay_at hp 173 17) := (ax_XF_lt (by decide)).mp (ax_gx hE (151, [3, 7]) (by decide))
  have F179 : pz7 (pz_gt (ρ 0)) (pz_gN (ρ 0)) ((ρ 1) / 4) 9 := (ax_XF_lt (by decide)).mp (ax_gx hE (179, [3, 7]) (by decide))
  have F190 : (pz90 (pz_gt (ρ 0)) (pz_gN (ρ 0)) ((ρ 1) / 4) ((ρ 2) / 4) ∧ 1 ≤ (ρ 2) / 4) := (ax_XF_lt (by decide)).mp (ax_gx hE (190, [3, 7, 11]) (by decide))
  have F194 : pz94 (pz_gt (ρ 0)) (pz_gN (ρ 0)) ((ρ 1) / 4) := (ax_XF_lt (by decide)).mp (ax_gx hE (194, [3, 7]) (by decide))
  obtain ⟨-, F195⟩ : ay_ex hp 173 ∧ ay_ln (ay_at hp 173 28) = pz_dp ((ρ 2) / 4) := (ax_XF_lt (by decide)).mp (ax_gx hE (195, [11]) (by decide))
  rw [c_deep] at F195
  have e : ρ 3 / 4 = pz_dp (ρ 2 / 4) := F195
  have e1 := pz_dp_0 (s := ρ 2 / 4) (by omega)
  refine ⟨(fun y hy => by cases hy), _, List.mem_cons_self, ρ, fun _ _ => rfl, ax_px hE (by decide) (fun x hx => ?_)⟩
  cases List.mem_singleton.mp hx
  refine (ax_XF_lt (x := 181) (by decide)).mpr ?_
  show pz_y181 (ρ 0) (ρ 1)
  exact Or.inr ⟨F179, by have h := F190.1; rw [show ρ 2 / 4 = 1 by have := F190.2; omega] at h; exact h, F194⟩
theorem axq0_mxb : ax_RO ax_wM0 (ax_XM 0) axu0_mxb := axqg_mxb ax_WW0
theorem axq0_mw0 : ax_RO ax_wM0 (ax_XM 0) axu0_mw0 := by
  intro ρ hp hE hT
  obtain ⟨-, -, F42⟩ : ay_ex hp 180 ∧ ay_ex hp 179 ∧ ay_M42 (ay_at hp 180 1) (ay_at hp 179 1) := (ax_XF_lt (by decide)).mp (ax_gx hE (42, []) (by decide))
  refine ⟨(fun y hy => by cases hy), _, List.mem_cons_self, ρ, fun _ _ => rfl, ax_px hE (by decide) (fun x hx => ?_)⟩
  cases List.mem_singleton.mp hx
  refine (ax_XF_wr (x := 242) (by decide)).mpr ?_
  show ay_ex (ax_upd hp 702 (108) (0)) 173 ∧ ay_ex (ax_upd hp 702 (108) (0)) 185 ∧ py_y242 (5) (ay_at (ax_upd hp 702 (108) (0)) 173 27) (ay_at (ax_upd hp 702 (108) (0)) 185)
  obtain ⟨o0, ho0⟩ := ay_some hT (q := 173) (g := 11) (n := 58) ax_cg_173 ax_cn_11 (j := 108 / 4) (by decide)
  have u1 : ∀ q, q ≠ 173 → ay_at (ax_upd hp 702 108 (0)) q = ay_at hp q := fun q hq => funext (fun j => ay_upd_ne hT.1 hq j)
  have u2 : ∀ j, ay_at (ax_upd hp 702 108 (0)) 173 j = if j = 27 then some (0) else ay_at hp 173 j := fun j => ay_upd_eq hT.1 rfl ho0 j
  refine ⟨ay_ex_upd hT.1 (ax_cellT hT (q := 173) (g := 11) ax_cg_173), ay_ex_upd hT.1 (ax_cellT hT (q := 185) (g := 55) ax_cg_185), ?_⟩
  rw [u2 27, if_pos rfl, u1 185 (by decide)]
  exact pm_242_0

theorem axq0_mw1 : ax_RO ax_wM0 (ax_XM 0) axu0_mw1 := by
  intro ρ hp hE hT
  obtain ⟨-, -, F42⟩ : ay_ex hp 180 ∧ ay_ex hp 179 ∧ ay_M42 (ay_at hp 180 1) (ay_at hp 179 1) := (ax_XF_lt (by decide)).mp (ax_gx hE (42, []) (by decide))
  refine ⟨(fun y hy => by cases hy), _, List.mem_cons_self, ρ, fun _ _ => rfl, ax_px hE (by decide) (fun x hx => ?_)⟩
  cases List.mem_singleton.mp hx
  refine (ax_XF_lt (x := 241) (by decide)).mpr ?_
  show ay_ex hp 180 ∧ ay_ex hp 182 ∧ py_y241 1 (5) (ay_at hp 180 1) (ay_at hp 182)
  refine ⟨(ax_cellT hT (q := 180) (g := 50) ax_cg_180), (ax_cellT hT (q := 182) (g := 52) ax_cg_182), ?_⟩
  exact pm_241_0 F42.1

theorem axq0_mw5 : ax_RO ax_wM0 (ax_XM 0) axu0_mw5 := by
  intro ρ hp hE hT
  have j0 : ρ 0 % 4 = 1 := pz_gj hE 0 (by decide) rfl
  have j1 : ρ 1 % 4 = 1 := pz_gj hE 1 (by decide) rfl
  obtain ⟨-, -, F242⟩ : ay_ex hp 173 ∧ ay_ex hp 185 ∧ py_y242 (ρ 0) (ay_at hp 173 27) (ay_at hp 185) := (ax_XF_lt (by decide)).mp (ax_gx hE (242, [3]) (by decide))
  obtain ⟨-, -, F241⟩ : ay_ex hp 180 ∧ ay_ex hp 182 ∧ py_y241 1 (ρ 1) (ay_at hp 180 1) (ay_at hp 182) := (ax_XF_lt (by decide)).mp (ax_gx hE (241, [7]) (by decide))
  refine ⟨(fun y hy => by cases hy), _, List.mem_cons_self, ρ, fun _ _ => rfl, ax_px hE (by decide) (fun x hx => ?_)⟩
  cases List.mem_singleton.mp hx
  refine (ax_XF_lt (x := 250) (by decide)).mpr ?_
  show py_250 (4012) (ρ 0) (ρ 1) (ρ 0) (ρ 1)
  exact (rfl : py_pop _ _ _ = _)

theorem axq0_mw2 : ax_RO ax_wM0 (ax_XM 0) axu0_mw2 := by
  intro ρ hp hE hT
  have j0 : ρ 0 % 4 = 1 := pz_gj hE 0 (by decide) rfl
  have j1 : ρ 1 % 4 = 1 := pz_gj hE 1 (by decide) rfl
  have j2 : ρ 2 % 4 = 1 := pz_gj hE 2 (by decide) rfl
  have j3 : ρ 3 % 4 = 1 := pz_gj hE 3 (by decide) rfl
  obtain ⟨-, -, -, -, -, F151⟩ : ay_ex hp 173 ∧ ay_ex hp 173 ∧ ay_ex hp 173 ∧ ay_ex hp 173 ∧ ay_ex hp 173 ∧ pz_y151 (ρ 0) (ρ 1) (ay_at hp 173 13) (ay_at hp 173 14) (ay_at hp 173 15) (ay_at hp 173 16) (ay_at hp 173 17) := (ax_XF_lt (by decide)).mp (ax_gx hE (151, [3, 7]) (by decide))
  have F246 : py_y246 (pz_gt (ρ 0)) (pz_gN (ρ 0)) ((ρ 1) / 4) (ρ 2) (ρ 3) := (ax_XF_lt (by decide)).mp (ax_gx hE (246, [3, 7, 11, 15]) (by decide))
  obtain ⟨-, -, F242⟩ : ay_ex hp 173 ∧ ay_ex hp 185 ∧ py_y242 (ρ 2) (ay_at hp 173 27) (ay_at hp 185) := (ax_XF_lt (by decide)).mp (ax_gx hE (242, [11]) (by decide))
  obtain ⟨-, -, F241⟩ : ay_ex hp 180 ∧ ay_ex hp 182 ∧ py_y241 1 (ρ 3) (ay_at hp 180 1) (ay_at hp 182) := (ax_XF_lt (by decide)).mp (ax_gx hE (241, [15]) (by decide))
  refine ⟨(fun y hy => by cases hy), _, List.mem_cons_self, ρ, fun _ _ => rfl, ax_px hE (by decide) (fun x hx => ?_)⟩
  cases List.mem_singleton.mp hx
  refine (ax_XF_lt (x := 250) (by decide)).mpr ?_
  show py_250 (4012) (ρ 2) (ρ 3) (ρ 2) (ρ 3)
  exact (rfl : py_pop _ _ _ = _)

theorem axq0_mw3 : ax_RO ax_wM0 (ax_XM 0) axu0_mw3 := by
  intro ρ hp hE hT
  have j0 : ρ 0 % 4 = 1 := pz_gj hE 0 (by decide) rfl
  have j1 : ρ 1 % 4 = 1 := pz_gj hE 1 (by decide) rfl
  have j2 : ρ 2 % 4 = 1 := pz_gj hE 2 (by decide) rfl
  have j3 : ρ 3 % 4 = 1 := pz_gj hE 3 (by decide) rfl
  have j4 : ρ 4 % 4 = 1 := pz_gj hE 4 (by decide) rfl
  have j5 : ρ 5 % 4 = 1 := pz_gj hE 5 (by decide) rfl
  obtain ⟨i6a, i6b, i6c, i6d⟩ := pz_gi hE 6 2147484651 2147484655 (by decide) rfl
  obtain ⟨-, -, F242⟩ : ay_ex hp 173 ∧ ay_ex hp 185 ∧ py_y242 (ρ 4) (ay_at hp 173 27) (ay_at hp 185) := (ax_XF_lt (by decide)).mp (ax_gx hE (242, [19]) (by decide))
  obtain ⟨-, -, F241⟩ : ay_ex hp 180 ∧ ay_ex hp 182 ∧ py_y241 1 (ρ 5) (ay_at hp 180 1) (ay_at hp 182) := (ax_XF_lt (by decide)).mp (ax_gx hE (241, [23]) (by decide))
  have F251 : py_251 (ρ 2) (ρ 6) (ρ 4) := (ax_XF_lt (by decide)).mp (ax_gx hE (251, [11, 27, 19]) (by decide))
  have F251a : py_251 (ρ 5) (ρ 6) (ρ 3) := (ax_XF_lt (by decide)).mp (ax_gx hE (251, [23, 27, 15]) (by decide))
  have F250 : py_250 (4012) (ρ 0) (ρ 1) (ρ 2) (ρ 3) := (ax_XF_lt (by decide)).mp (ax_gx hE (250, [4012, 3, 7, 11, 15]) (by decide))
  refine ⟨(fun y hy => by cases hy), _, List.mem_cons_self, ρ, fun _ _ => rfl, ax_px hE (by decide) (fun x hx => ?_)⟩
  cases List.mem_singleton.mp hx
  refine (ax_XF_lt (x := 250) (by decide)).mpr ?_
  show py_250 (4012) (ρ 0) (ρ 1) (ρ 4) (ρ 5)
  exact pm_cq1 F250 F251 F251a (show 1 ≤ _ from py_bd_1 (by omega) (by omega))

theorem axq0_mw4 : ax_RO ax_wM0 (ax_XM 0) axu0_mw4 := by
  intro ρ hp hE hT
  have j0 : ρ 0 % 4 = 1 := pz_gj hE 0 (by decide) rfl
  have j1 : ρ 1 % 4 = 1 := pz_gj hE 1 (by decide) rfl
  have j2 : ρ 2 % 4 = 1 := pz_gj hE 2 (by decide) rfl
  have j3 : ρ 3 % 4 = 1 := pz_gj hE 3 (by decide) rfl
  have j4 : ρ 4 % 4 = 1 := pz_gj hE 4 (by decide) rfl
  have j5 : ρ 5 % 4 = 1 := pz_gj hE 5 (by decide) rfl
  obtain ⟨i6a, i6b, i6c, i6d⟩ := pz_gi hE 6 2147483648 2147483648 (by decide) rfl
  have c_opened : ay_at hp 173 27 = some (ρ 6) := ay_gfj hE 702 108 27 173 27 (by decide) (by rw [ax_vl_c (by decide)]) (by rw [ax_vl_c (by decide)])
  obtain ⟨-, -, -, -, -, F151⟩ : ay_ex hp 173 ∧ ay_ex hp 173 ∧ ay_ex hp 173 ∧ ay_ex hp 173 ∧ ay_ex hp 173 ∧ pz_y151 (ρ 0) (ρ 1) (ay_at hp 173 13) (ay_at hp 173 14) (ay_at hp 173 15) (ay_at hp 173 16) (ay_at hp 173 17) := (ax_XF_lt (by decide)).mp (ax_gx hE (151, [3, 7]) (by decide))
  have F246 : py_y246 (pz_gt (ρ 0)) (pz_gN (ρ 0)) ((ρ 1) / 4) (ρ 2) (ρ 3) := (ax_XF_lt (by decide)).mp (ax_gx hE (246, [3, 7, 11, 15]) (by decide))
  obtain ⟨-, -, F242⟩ : ay_ex hp 173 ∧ ay_ex hp 185 ∧ py_y242 (ρ 4) (ay_at hp 173 27) (ay_at hp 185) := (ax_XF_lt (by decide)).mp (ax_gx hE (242, [19]) (by decide))
  rw [c_opened] at F242
  obtain ⟨-, -, F241⟩ : ay_ex hp 180 ∧ ay_ex hp 182 ∧ py_y241 1 (ρ 5) (ay_at hp 180 1) (ay_at hp 182) := (ax_XF_lt (by decide)).mp (ax_gx hE (241, [23]) (by decide))
  have F250 : py_250 (4012) (ρ 2) (ρ 3) (ρ 4) (ρ 5) := (ax_XF_lt (by decide)).mp (ax_gx hE (250, [4012, 11, 15, 19, 23]) (by decide))
  refine ⟨(fun y hy => by cases hy), _, List.mem_cons_self, ρ, fun _ _ => rfl, ax_px hE (by decide) (fun x hx => ?_)⟩
  cases List.mem_singleton.mp hx
  refine (ax_XF_lt (x := 248) (by decide)).mpr ?_
  show py_248 (pz_gt (ρ 0)) (pz_gN (ρ 0)) ((ρ 1) / 4) (ρ 5)
  exact pm_mw4 F246 F250 (py_none F242 (show ρ 6 / 4 = 0 by omega))

theorem axq0_ml1 : ax_RO ax_wM0 (ax_XM 0) axu0_ml1 := by
  intro ρ hp hE hT
  have j0 : ρ 0 % 4 = 1 := pz_gj hE 0 (by decide) rfl
  have j1 : ρ 1 % 4 = 1 := pz_gj hE 1 (by decide) rfl
  obtain ⟨i2a, i2b, i2c, i2d⟩ := pz_gi hE 2 2147483668 2147483668 (by decide) rfl
  have c_links : ay_at hp 176 1 = some (ρ 2) := ay_gfj hE 714 4 11 176 1 (by decide) (by rw [ax_vl_c (by decide)]) (by rw [ax_vl_c (by decide)])
  obtain ⟨-, -, -, -, -, F151⟩ : ay_ex hp 173 ∧ ay_ex hp 173 ∧ ay_ex hp 173 ∧ ay_ex hp 173 ∧ ay_ex hp 173 ∧ pz_y151 (ρ 0) (ρ 1) (ay_at hp 173 13) (ay_at hp 173 14) (ay_at hp 173 15) (ay_at hp 173 16) (ay_at hp 173 17) := (ax_XF_lt (by decide)).mp (ax_gx hE (151, [3, 7]) (by decide))
  obtain ⟨-, -, -, -, -, -, -, -, -, -, -, F152⟩ : ay_ex hp 175 ∧ ay_ex hp 176 ∧ ay_ex hp 177 ∧ ay_ex hp 178 ∧ ay_ex hp 179 ∧ ay_ex hp 173 ∧ ay_ex hp 173 ∧ ay_ex hp 173 ∧ ay_ex hp 173 ∧ ay_ex hp 173 ∧ ay_ex hp 181 ∧ pz_y152 1 (ρ 0) (ρ 1) (ay_at hp 175 1) (ay_at hp 176 1) (ay_at hp 177 1) (ay_at hp 178 1) (ay_at hp 179 1) (ay_at hp 173 23) (ay_at hp 173 25) (ay_at hp 173 24) (ay_at hp 173 18) (ay_at hp 173 19) (ay_at hp 181) := (ax_XF_lt (by decide)).mp (ax_gx hE (152, [3, 7]) (by decide))
  rw [c_links] at F152
  have F173 : pz7 (pz_gt (ρ 0)) (pz_gN (ρ 0)) ((ρ 1) / 4) 3 := (ax_XF_lt (by decide)).mp (ax_gx hE (173, [3, 7]) (by decide))
  have F160 : pz60 (pz_gt (ρ 0)) (pz_gN (ρ 0)) ((ρ 1) / 4) ((4) / 4) := (ax_XF_lt (by decide)).mp (ax_gx hE (160, [3, 7, 4]) (by decide))
  refine ⟨(fun y hy => by cases hy), _, List.mem_cons_self, ρ, fun _ _ => rfl, ax_px hE (by decide) (fun x hx => ?_)⟩
  cases List.mem_singleton.mp hx
  refine (ax_XF_lt (x := 164) (by decide)).mpr ?_
  show pz64 (pz_gt (ρ 0)) (pz_gN (ρ 0)) ((ρ 1) / 4) ((16) / 4)
  exact pq_lk1 (pz_m50 F151 F152) F173 F160 (show ρ 2 / 4 = 20 by omega)

theorem axq0_ml2 : ax_RO ax_wM0 (ax_XM 0) axu0_ml2 := by
  intro ρ hp hE hT
  have j0 : ρ 0 % 4 = 1 := pz_gj hE 0 (by decide) rfl
  have j1 : ρ 1 % 4 = 1 := pz_gj hE 1 (by decide) rfl
  obtain ⟨i2a, i2b, i2c, i2d⟩ := pz_gi hE 2 2147483648 2147483667 (by decide) rfl
  have c_links : ay_at hp 176 1 = some (ρ 2) := ay_gfj hE 714 4 11 176 1 (by decide) (by rw [ax_vl_c (by decide)]) (by rw [ax_vl_c (by decide)])
  obtain ⟨-, -, -, -, -, F151⟩ : ay_ex hp 173 ∧ ay_ex hp 173 ∧ ay_ex hp 173 ∧ ay_ex hp 173 ∧ ay_ex hp 173 ∧ pz_y151 (ρ 0) (ρ 1) (ay_at hp 173 13) (ay_at hp 173 14) (ay_at hp 173 15) (ay_at hp 173 16) (ay_at hp 173 17) := (ax_XF_lt (by decide)).mp (ax_gx hE (151, [3, 7]) (by decide))
  obtain ⟨-, -, -, -, -, -, -, -, -, -, -, F152⟩ : ay_ex hp 175 ∧ ay_ex hp 176 ∧ ay_ex hp 177 ∧ ay_ex hp 178 ∧ ay_ex hp 179 ∧ ay_ex hp 173 ∧ ay_ex hp 173 ∧ ay_ex hp 173 ∧ ay_ex hp 173 ∧ ay_ex hp 173 ∧ ay_ex hp 181 ∧ pz_y152 1 (ρ 0) (ρ 1) (ay_at hp 175 1) (ay_at hp 176 1) (ay_at hp 177 1) (ay_at hp 178 1) (ay_at hp 179 1) (ay_at hp 173 23) (ay_at hp 173 25) (ay_at hp 173 24) (ay_at hp 173 18) (ay_at hp 173 19) (ay_at hp 181) := (ax_XF_lt (by decide)).mp (ax_gx hE (152, [3, 7]) (by decide))
  rw [c_links] at F152
  have F173 : pz7 (pz_gt (ρ 0)) (pz_gN (ρ 0)) ((ρ 1) / 4) 3 := (ax_XF_lt (by decide)).mp (ax_gx hE (173, [3, 7]) (by decide))
  have F160 : pz60 (pz_gt (ρ 0)) (pz_gN (ρ 0)) ((ρ 1) / 4) ((4) / 4) := (ax_XF_lt (by decide)).mp (ax_gx hE (160, [3, 7, 4]) (by decide))
  have st := pq_lk2 (pz_m50 F151 F152) F173 F160 (show ρ 2 / 4 ≤ 19 by omega)
  obtain ⟨ρ', h1, h2⟩ := pz_pn1 (K := ρ 1 / 4 + 1) (xf := [(153, [3, 15]), (182, [7, 15]), (152, [3, 15]), (174, [3, 15])]) hE (by decide) (fun ρ' h1 h2 x hx => by
    have q0 : ρ' 0 = ρ 0 := h1 0 (by decide)
    have q1 : ρ' 1 = ρ 1 := h1 1 (by decide)
    have q2 : ρ' 2 = ρ 2 := h1 2 (by decide)
    rcases List.mem_cons.mp hx with e | hx
    · subst e
      refine (ax_XF_lt (x := 153) (by decide)).mpr ?_
      show ay_ex hp 173 ∧ pz_at (pz_gt (ρ' 0)) (pz_gN (ρ' 0)) (ay_ln (ay_at hp 173 13)) = pz_at (pz_gt (ρ' 0)) (pz_gN (ρ' 0)) (pz_p (pz_cF (ρ' 0) (ρ' 3)))
      rw [q0, h2]
      refine ⟨(ax_cellT hT (q := 173) (g := 11) ax_cg_173), ?_⟩
      exact pz_l153 (pz_41 _) st.1.1
    rcases List.mem_cons.mp hx with e | hx
    · subst e
      refine (ax_XF_lt (x := 182) (by decide)).mpr ?_
      show (ρ' 3) / 4 = (ρ' 1) / 4 + 1
      rw [q1, h2]
      rw [pz_41]
    rcases List.mem_cons.mp hx with e | hx
    · subst e
      refine (ax_XF_lt (x := 152) (by decide)).mpr ?_
      show ay_ex hp 175 ∧ ay_ex hp 176 ∧ ay_ex hp 177 ∧ ay_ex hp 178 ∧ ay_ex hp 179 ∧ ay_ex hp 173 ∧ ay_ex hp 173 ∧ ay_ex hp 173 ∧ ay_ex hp 173 ∧ ay_ex hp 173 ∧ ay_ex hp 181 ∧ pz_y152 1 (ρ' 0) (ρ' 3) (ay_at hp 175 1) (ay_at hp 176 1) (ay_at hp 177 1) (ay_at hp 178 1) (ay_at hp 179 1) (ay_at hp 173 23) (ay_at hp 173 25) (ay_at hp 173 24) (ay_at hp 173 18) (ay_at hp 173 19) (ay_at hp 181)
      rw [q0, h2]
      refine ⟨(ax_cellT hT (q := 175) (g := 45) ax_cg_175), (ax_cellT hT (q := 176) (g := 46) ax_cg_176), (ax_cellT hT (q := 177) (g := 47) ax_cg_177), (ax_cellT hT (q := 178) (g := 48) ax_cg_178), (ax_cellT hT (q := 179) (g := 49) ax_cg_179), (ax_cellT hT (q := 173) (g := 11) ax_cg_173), (ax_cellT hT (q := 173) (g := 11) ax_cg_173), (ax_cellT hT (q := 173) (g := 11) ax_cg_173), (ax_cellT hT (q := 173) (g := 11) ax_cg_173), (ax_cellT hT (q := 173) (g := 11) ax_cg_173), (ax_cellT hT (q := 181) (g := 51) ax_cg_181), ?_⟩
      rw [c_links]
      exact pz_l152 (pz_41 _) st.1.2
    cases List.mem_singleton.mp hx
    refine (ax_XF_lt (x := 174) (by decide)).mpr ?_
    show pz7 (pz_gt (ρ' 0)) (pz_gN (ρ' 0)) ((ρ' 3) / 4) 4
    rw [q0, h2]
    rw [pz_41]
    exact st.2)
  exact ⟨(fun y hy => by cases hy), _, List.mem_cons_self, ρ', h1, h2⟩

theorem axq0_ml3_38 : ax_RO ax_wM0 (ax_XM 0) axu0_ml3_38 := by
  intro ρ hp hE hT
  have j0 : ρ 0 % 4 = 1 := pz_gj hE 0 (by decide) rfl
  have j1 : ρ 1 % 4 = 1 := pz_gj hE 1 (by decide) rfl
  obtain ⟨i2a, i2b, i2c, i2d⟩ := pz_gi hE 2 0 4294967295 (by decide) rfl
  obtain ⟨i3a, i3b, i3c, i3d⟩ := pz_gi hE 3 2147483648 2147493647 (by decide) rfl
  have c_nodes : ay_at hp 175 1 = some (ρ 3) := ay_gfj hE 710 4 15 175 1 (by decide) (by rw [ax_vl_c (by decide)]) (by rw [ax_vl_c (by decide)])
  have s1 : (ρ 2 / 4 + 2147483648) % 4294967296 + (4 / 4 + 2147483648) % 4294967296 = (ρ 3 / 4 + 2147483648) % 4294967296 + 2147483648 := pz_gs hE 11 4 15 (by decide)
  obtain ⟨-, -, -, -, -, -, -, -, -, -, -, F152⟩ : ay_ex hp 175 ∧ ay_ex hp 176 ∧ ay_ex hp 177 ∧ ay_ex hp 178 ∧ ay_ex hp 179 ∧ ay_ex hp 173 ∧ ay_ex hp 173 ∧ ay_ex hp 173 ∧ ay_ex hp 173 ∧ ay_ex hp 173 ∧ ay_ex hp 181 ∧ pz_y152 1 (ρ 0) (ρ 1) (ay_at hp 175 1) (ay_at hp 176 1) (ay_at hp 177 1) (ay_at hp 178 1) (ay_at hp 179 1) (ay_at hp 173 23) (ay_at hp 173 25) (ay_at hp 173 24) (ay_at hp 173 18) (ay_at hp 173 19) (ay_at hp 181) := (ax_XF_lt (by decide)).mp (ax_gx hE (152, [3, 7]) (by decide))
  rw [c_nodes] at F152
  have e : ρ 3 / 4 = pz_no (pz_cf (pz_gt (ρ 0)) (pz_gN (ρ 0)) (ρ 1 / 4)) := F152.1
  refine ⟨(fun y hy => by cases hy), _, List.mem_cons_self, ρ, fun _ _ => rfl, ax_px hE (by decide) (fun x hx => ?_)⟩
  cases List.mem_singleton.mp hx
  refine (ax_XF_lt (x := 203) (by decide)).mpr ?_
  show pz_x103 (ρ 0) (ρ 1) (ρ 2)
  show (ρ 2 / 4 + 2147483648) % 4294967296 + 1 = pz_no (pz_cf (pz_gt (ρ 0)) (pz_gN (ρ 0)) (ρ 1 / 4)) + 2147483648
  omega

