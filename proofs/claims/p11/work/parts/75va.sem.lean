theorem axq1_fm1_1 : ax_RO ax_wM1 (ax_XM 1) axu1_fm1_1 := axqg_fm1_1 ax_WW1
theorem axq1_fm2_1 : ax_RO ax_wM1 (ax_XM 1) axu1_fm2_1 := axqg_fm2_1 ax_WW1
theorem axq1_fm1_2 : ax_RO ax_wM1 (ax_XM 1) axu1_fm1_2 := axqg_fm1_2 ax_WW1
theorem axq1_fm2_2 : ax_RO ax_wM1 (ax_XM 1) axu1_fm2_2 := axqg_fm2_2 ax_WW1
theorem axq1_fm1_3 : ax_RO ax_wM1 (ax_XM 1) axu1_fm1_3 := axqg_fm1_3 ax_WW1
theorem axq1_fm2_3 : ax_RO ax_wM1 (ax_XM 1) axu1_fm2_3 := axqg_fm2_3 ax_WW1
theorem axq1_fm1_4 : ax_RO ax_wM1 (ax_XM 1) axu1_fm1_4 := axqg_fm1_4 ax_WW1
theorem axq1_fm2_4 : ax_RO ax_wM1 (ax_XM 1) axu1_fm2_4 := axqg_fm2_4 ax_WW1
theorem axq1_co1y : ax_RO ax_wM1 (ax_XM 1) axu1_co1y := by
  intro ρ hp hE hT
  have j0 : ρ 0 % 4 = 1 := pz_gj hE 0 (by decide) rfl
  obtain ⟨i1a, i1b, i1c, i1d⟩ := pz_gi hE 1 0 4294967295 (by decide) rfl
  obtain ⟨i2a, i2b, i2c, i2d⟩ := pz_gi hE 2 2147483648 2147483847 (by decide) rfl
  obtain ⟨i3a, i3b, i3c, i3d⟩ := pz_gi hE 3 2147483648 2147483747 (by decide) rfl
  have c_ruled : ay_at hp 180 0 = some (ρ 3) := ay_gfj hE 730 0 15 180 0 (by decide) (by rw [ax_vl_c (by decide)]) (by rw [ax_vl_c (by decide)])
  have s1 : (0 / 4 + 2147483648) % 4294967296 + (ρ 3 / 4 + 2147483648) % 4294967296 = (ρ 2 / 4 + 2147483648) % 4294967296 + 2147483648 := pz_gs hE 0 15 11 (by decide)
  obtain ⟨-, -, F241⟩ : ay_ex hp 180 ∧ ay_ex hp 182 ∧ py_y241 0 (ρ 0) (ay_at hp 180 0) (ay_at hp 182) := (ax_XF_lt (by decide)).mp (ax_gx hE (241, [3]) (by decide))
  rw [c_ruled] at F241
  refine ⟨(fun y hy => by cases hy), _, List.mem_cons_self, ρ, fun _ _ => rfl, ax_px hE (by decide) (fun x hx => ?_)⟩
  cases List.mem_singleton.mp hx
  refine (ax_XF_wr (x := 243) (by decide)).mpr ?_
  show ay_ex (ax_upd hp 738 (ρ 2) (ρ 1)) 180 ∧ ay_ex (ax_upd hp 738 (ρ 2) (ρ 1)) 182 ∧ py_y243 0 (ρ 0) (ρ 1) (ay_at (ax_upd hp 738 (ρ 2) (ρ 1)) 180 0) (ay_at (ax_upd hp 738 (ρ 2) (ρ 1)) 182)
  obtain ⟨o0, ho0⟩ := ay_some hT (q := 182) (g := 52) (n := 200) (ax_wc ax_WW1 ax_cg_182) (ax_wn ax_WW1 ax_cn_52) (j := ρ 2 / 4) (by omega)
  have u1 : ∀ q, q ≠ 182 → ay_at (ax_upd hp 738 (ρ 2) (ρ 1)) q = ay_at hp q := fun q hq => funext (fun j => ay_upd_ne hT.1 hq j)
  have u2 : ∀ j, ay_at (ax_upd hp 738 (ρ 2) (ρ 1)) 182 j = if j = ρ 2 / 4 then some (ρ 1) else ay_at hp 182 j := fun j => ay_upd_eq hT.1 rfl ho0 j
  refine ⟨ay_ex_upd hT.1 (ax_cellT hT (q := 180) (g := 50) (ax_wc ax_WW1 ax_cg_180)), ay_ex_upd hT.1 (ax_cellT hT (q := 182) (g := 52) (ax_wc ax_WW1 ax_cg_182)), ?_⟩
  rw [u1 180 (by decide)]
  rw [c_ruled]
  have ez : ρ 3 / 4 = (py_L (ρ 0 / 4)).length := F241.2.1
  refine ⟨⟨F241.1, F241.2.1, fun i c hc => ?_⟩, ?_⟩
  · have hi := (List.getElem?_eq_some_iff.mp hc).1
    rw [List.length_reverse] at hi
    rw [u2, if_neg (by omega)]
    exact F241.2.2 i c hc
  · rw [u2, if_pos (by omega)]

theorem axq1_co2y : ax_RO ax_wM1 (ax_XM 1) axu1_co2y := by
  intro ρ hp hE hT
  have j0 : ρ 0 % 4 = 1 := pz_gj hE 0 (by decide) rfl
  obtain ⟨i1a, i1b, i1c, i1d⟩ := pz_gi hE 1 2147483648 2147484657 (by decide) rfl
  obtain ⟨i2a, i2b, i2c, i2d⟩ := pz_gi hE 2 2147483648 2147483747 (by decide) rfl
  obtain ⟨i3a, i3b, i3c, i3d⟩ := pz_gi hE 3 0 4294967295 (by decide) rfl
  have c_ruled : ay_at hp 180 0 = some (ρ 2) := ay_gfj hE 730 0 11 180 0 (by decide) (by rw [ax_vl_c (by decide)]) (by rw [ax_vl_c (by decide)])
  have s1 : (ρ 2 / 4 + 2147483648) % 4294967296 + (4 / 4 + 2147483648) % 4294967296 = (ρ 3 / 4 + 2147483648) % 4294967296 + 2147483648 := pz_gs hE 11 4 15 (by decide)
  obtain ⟨-, -, F243⟩ : ay_ex hp 180 ∧ ay_ex hp 182 ∧ py_y243 0 (ρ 0) (ρ 1) (ay_at hp 180 0) (ay_at hp 182) := (ax_XF_lt (by decide)).mp (ax_gx hE (243, [3, 7]) (by decide))
  rw [c_ruled] at F243
  have hc4 : 4 * (ρ 1 / 4) = ρ 1 := by omega
  have h1L := F243.1.1
  have h3 : py_y243 0 (ρ 0) (4 * (ρ 1 / 4)) (some (ρ 2)) (ay_at hp 182) := by rw [hc4]; exact F243
  have hL : py_L (ρ 0 / 4 * 4096 + ρ 1 / 4) = ρ 1 / 4 :: py_L (ρ 0 / 4) := py_L_c h1L (by omega)
  obtain ⟨ρ', h1, h2⟩ := pz_pn1 (K := ρ 0 / 4 * 4096 + ρ 1 / 4) (xf := [(741, [730, 0, 15, 19]), (251, [19, 7, 3])]) hE (by decide) (fun ρ' h1 h2 x hx => by
    have q0 : ρ' 0 = ρ 0 := h1 0 (by decide)
    have q1 : ρ' 1 = ρ 1 := h1 1 (by decide)
    have q2 : ρ' 2 = ρ 2 := h1 2 (by decide)
    have q3 : ρ' 3 = ρ 3 := h1 3 (by decide)
    rcases List.mem_cons.mp hx with e | hx
    · subst e
      refine (ax_XF_wr (x := 241) (by decide)).mpr ?_
      show ay_ex (ax_upd hp 730 (0) (ρ' 3)) 180 ∧ ay_ex (ax_upd hp 730 (0) (ρ' 3)) 182 ∧ py_y241 0 (ρ' 4) (ay_at (ax_upd hp 730 (0) (ρ' 3)) 180 0) (ay_at (ax_upd hp 730 (0) (ρ' 3)) 182)
      rw [q3, h2]
      obtain ⟨o0, ho0⟩ := ay_some hT (q := 180) (g := 50) (n := 2) (ax_wc ax_WW1 ax_cg_180) (ax_wn ax_WW1 ax_cn_50) (j := 0 / 4) (by decide)
      have u1 : ∀ q, q ≠ 180 → ay_at (ax_upd hp 730 0 (ρ 3)) q = ay_at hp q := fun q hq => funext (fun j => ay_upd_ne hT.1 hq j)
      have u2 : ∀ j, ay_at (ax_upd hp 730 0 (ρ 3)) 180 j = if j = 0 then some (ρ 3) else ay_at hp 180 j := fun j => ay_upd_eq hT.1 rfl ho0 j
      refine ⟨ay_ex_upd hT.1 (ax_cellT hT (q := 180) (g := 50) (ax_wc ax_WW1 ax_cg_180)), ay_ex_upd hT.1 (ax_cellT hT (q := 182) (g := 52) (ax_wc ax_WW1 ax_cg_182)), ?_⟩
      rw [u2 0, if_pos rfl, u1 182 (by decide)]
      exact py_lay (c := ρ 1 / 4) h3 (by rw [pz_41]; exact hL) (by rw [pz_41]; omega) (show ρ 3 / 4 = ρ 2 / 4 + 1 by omega)
    cases List.mem_singleton.mp hx
    refine (ax_XF_lt (x := 251) (by decide)).mpr ?_
    show py_251 (ρ' 4) (ρ' 1) (ρ' 0)
    rw [q0, q1, h2]
    unfold py_251
    rw [pz_41]
    exact hL)
  exact ⟨(fun y hy => by cases hy), _, List.mem_cons_self, ρ', h1, h2⟩

theorem axq1_pu4 : ax_RO ax_wM1 (ax_XM 1) axu1_pu4 := axqg_pu4 ax_WW1
theorem axq1_pu5O : ax_RO ax_wM1 (ax_XM 1) axu1_pu5O := axqg_pu5O ax_WW1
theorem axq1_pu5M : ax_RO ax_wM1 (ax_XM 1) axu1_pu5M := axqg_pu5M ax_WW1
theorem axq1_pu5B : ax_RO ax_wM1 (ax_XM 1) axu1_pu5B := axqg_pu5B ax_WW1
theorem axq1_pu6 : ax_RO ax_wM1 (ax_XM 1) axu1_pu6 := axqg_pu6 ax_WW1
theorem axq1_pu7 : ax_RO ax_wM1 (ax_XM 1) axu1_pu7 := axqg_pu7 ax_WW1
theorem axq1_lo4B : ax_RO ax_wM1 (ax_XM 1) axu1_lo4B := axqg_lo4B ax_WW1
theorem axq1_lo4M : ax_RO ax_wM1 (ax_XM 1) axu1_lo4M := axqg_lo4M ax_WW1
theorem axq1_lo6B : ax_RO ax_wM1 (ax_XM 1) axu1_lo6B := axqg_lo6B ax_WW1
theorem axq1_lp6B : ax_RO ax_wM1 (ax_XM 1) axu1_lp6B := axqg_lp6B ax_WW1
theorem axq1_lo6M : ax_RO ax_wM1 (ax_XM 1) axu1_lo6M := axqg_lo6M ax_WW1
theorem axq1_lp6M : ax_RO ax_wM1 (ax_XM 1) axu1_lp6M := axqg_lp6M ax_WW1
theorem axq1_cn2 : ax_RO ax_wM1 (ax_XM 1) axu1_cn2 := axqg_cn2 ax_WW1
theorem axq1_cn3 : ax_RO ax_wM1 (ax_XM 1) axu1_cn3 := axqg_cn3 ax_WW1
theorem axq1_cnE : ax_RO ax_wM1 (ax_XM 1) axu1_cnE := axqg_cnE ax_WW1
theorem axq1_cnF0 : ax_RO ax_wM1 (ax_XM 1) axu1_cnF0 := axqg_cnF0 ax_WW1
theorem axq1_cnF1 : ax_RO ax_wM1 (ax_XM 1) axu1_cnF1 := axqg_cnF1 ax_WW1
theorem axq1_cm6 : ax_RO ax_wM1 (ax_XM 1) axu1_cm6 := by
  intro ρ hp hE hT
  have j0 : ρ 0 % 4 = 1 := pz_gj hE 0 (by decide) rfl
  have j1 : ρ 1 % 4 = 1 := pz_gj hE 1 (by decide) rfl
  have j2 : ρ 2 % 4 = 1 := pz_gj hE 2 (by decide) rfl
  have j3 : ρ 3 % 4 = 1 := pz_gj hE 3 (by decide) rfl
  have j4 : ρ 4 % 4 = 1 := pz_gj hE 4 (by decide) rfl
  have j5 : ρ 5 % 4 = 1 := pz_gj hE 5 (by decide) rfl
  obtain ⟨i6a, i6b, i6c, i6d⟩ := pz_gi hE 6 2147484656 2147484656 (by decide) rfl
  obtain ⟨-, -, F242⟩ : ay_ex hp 173 ∧ ay_ex hp 185 ∧ py_y242 (ρ 4) (ay_at hp 173 27) (ay_at hp 185) := (ax_XF_lt (by decide)).mp (ax_gx hE (242, [19]) (by decide))
  obtain ⟨-, -, F241⟩ : ay_ex hp 180 ∧ ay_ex hp 182 ∧ py_y241 0 (ρ 5) (ay_at hp 180 0) (ay_at hp 182) := (ax_XF_lt (by decide)).mp (ax_gx hE (241, [23]) (by decide))
  have F251 : py_251 (ρ 2) (ρ 6) (ρ 4) := (ax_XF_lt (by decide)).mp (ax_gx hE (251, [11, 27, 19]) (by decide))
  have F251a : py_251 (ρ 5) (ρ 6) (ρ 3) := (ax_XF_lt (by decide)).mp (ax_gx hE (251, [23, 27, 15]) (by decide))
  have F249 : py_249 (ρ 0) (ρ 1) (ρ 2) (ρ 3) := (ax_XF_lt (by decide)).mp (ax_gx hE (249, [3, 7, 11, 15]) (by decide))
  refine ⟨(fun y hy => by cases hy), _, List.mem_cons_self, ρ, fun _ _ => rfl, ax_px hE (by decide) (fun x hx => ?_)⟩
  cases List.mem_singleton.mp hx
  refine (ax_XF_lt (x := 249) (by decide)).mpr ?_
  show py_249 (ρ 0) (ρ 1) (ρ 4) (ρ 5)
  exact pm_cm6 F249 F251 F251a (by omega)

theorem axq1_cm7 : ax_RO ax_wM1 (ax_XM 1) axu1_cm7 := by
  intro ρ hp hE hT
  have j0 : ρ 0 % 4 = 1 := pz_gj hE 0 (by decide) rfl
  have j1 : ρ 1 % 4 = 1 := pz_gj hE 1 (by decide) rfl
  have j2 : ρ 2 % 4 = 1 := pz_gj hE 2 (by decide) rfl
  have j3 : ρ 3 % 4 = 1 := pz_gj hE 3 (by decide) rfl
  obtain ⟨i4a, i4b, i4c, i4d⟩ := pz_gi hE 4 2147483648 2147483648 (by decide) rfl
  have c_opened : ay_at hp 173 27 = some (ρ 4) := ay_gfj hE 702 108 19 173 27 (by decide) (by rw [ax_vl_c (by decide)]) (by rw [ax_vl_c (by decide)])
  obtain ⟨-, -, F242⟩ : ay_ex hp 173 ∧ ay_ex hp 185 ∧ py_y242 (ρ 2) (ay_at hp 173 27) (ay_at hp 185) := (ax_XF_lt (by decide)).mp (ax_gx hE (242, [11]) (by decide))
  rw [c_opened] at F242
  obtain ⟨-, -, F241⟩ : ay_ex hp 180 ∧ ay_ex hp 182 ∧ py_y241 0 (ρ 3) (ay_at hp 180 0) (ay_at hp 182) := (ax_XF_lt (by decide)).mp (ax_gx hE (241, [15]) (by decide))
  have F249 : py_249 (ρ 0) (ρ 1) (ρ 2) (ρ 3) := (ax_XF_lt (by decide)).mp (ax_gx hE (249, [3, 7, 11, 15]) (by decide))
  refine ⟨(fun y hy => by cases hy), _, List.mem_cons_self, ρ, fun _ _ => rfl, ax_px hE (by decide) (fun x hx => ?_)⟩
  cases List.mem_singleton.mp hx
  refine (ax_XF_lt (x := 253) (by decide)).mpr ?_
  show py_253 (ρ 0) (ρ 1) (ρ 2) (ρ 3)
  exact pm_cm7 F249 (by rw [py_none F242 (show ρ 4 / 4 = 0 by omega)]; decide)

theorem axq1_cm80 : ax_RO ax_wM1 (ax_XM 1) axu1_cm80 := by
  intro ρ hp hE hT
  have j0 : ρ 0 % 4 = 1 := pz_gj hE 0 (by decide) rfl
  have j1 : ρ 1 % 4 = 1 := pz_gj hE 1 (by decide) rfl
  have j2 : ρ 2 % 4 = 1 := pz_gj hE 2 (by decide) rfl
  have j3 : ρ 3 % 4 = 1 := pz_gj hE 3 (by decide) rfl
  obtain ⟨i4a, i4b, i4c, i4d⟩ := pz_gi hE 4 2147483649 2147483748 (by decide) rfl
  obtain ⟨i5a, i5b, i5c, i5d⟩ := pz_gi hE 5 2147483648 2147483747 (by decide) rfl
  obtain ⟨i6a, i6b, i6c, i6d⟩ := pz_gi hE 6 0 2147484655 (by decide) rfl
  have c_opened : ay_at hp 173 27 = some (ρ 4) := ay_gfj hE 702 108 19 173 27 (by decide) (by rw [ax_vl_c (by decide)]) (by rw [ax_vl_c (by decide)])
  have s1 : (ρ 5 / 4 + 2147483648) % 4294967296 + (4 / 4 + 2147483648) % 4294967296 = (ρ 4 / 4 + 2147483648) % 4294967296 + 2147483648 := pz_gs hE 23 4 19 (by decide)
  have c_open : ay_at hp 185 (ρ 5 / 4) = some (ρ 6) := ay_gf hE 750 23 27 185 (by decide) (by rw [ax_vl_c (by decide)])
  obtain ⟨-, -, F242⟩ : ay_ex hp 173 ∧ ay_ex hp 185 ∧ py_y242 (ρ 2) (ay_at hp 173 27) (ay_at hp 185) := (ax_XF_lt (by decide)).mp (ax_gx hE (242, [11]) (by decide))
  rw [c_opened] at F242
  obtain ⟨-, -, F241⟩ : ay_ex hp 180 ∧ ay_ex hp 182 ∧ py_y241 0 (ρ 3) (ay_at hp 180 0) (ay_at hp 182) := (ax_XF_lt (by decide)).mp (ax_gx hE (241, [15]) (by decide))
  have F249 : py_249 (ρ 0) (ρ 1) (ρ 2) (ρ 3) := (ax_XF_lt (by decide)).mp (ax_gx hE (249, [3, 7, 11, 15]) (by decide))
  obtain ⟨c, T, t1, t2, t3, t4, t5, t6, t7⟩ := py_take (o := ρ 5 / 4) F242 (show ρ 4 / 4 = ρ 5 / 4 + 1 by omega)
  rw [c_open] at t3
  have te := Option.some.inj t3
  have tk : c = ρ 6 / 4 := by omega
  refine ⟨(fun y hy => by cases hy), _, List.mem_cons_self, ρ, fun _ _ => rfl, ax_px hE (by decide) (fun x hx => ?_)⟩
  cases List.mem_singleton.mp hx
  refine (ax_XF_lt (x := 253) (by decide)).mpr ?_
  show py_253 (ρ 0) (ρ 1) (ρ 2) (ρ 3)
  exact pm_cm7 F249 (by rw [t1]; show c ≠ 1008; omega)

theorem axq1_cm81 : ax_RO ax_wM1 (ax_XM 1) axu1_cm81 := by
  intro ρ hp hE hT
  have j0 : ρ 0 % 4 = 1 := pz_gj hE 0 (by decide) rfl
  have j1 : ρ 1 % 4 = 1 := pz_gj hE 1 (by decide) rfl
  have j2 : ρ 2 % 4 = 1 := pz_gj hE 2 (by decide) rfl
  have j3 : ρ 3 % 4 = 1 := pz_gj hE 3 (by decide) rfl
  obtain ⟨i4a, i4b, i4c, i4d⟩ := pz_gi hE 4 2147483649 2147483748 (by decide) rfl
  obtain ⟨i5a, i5b, i5c, i5d⟩ := pz_gi hE 5 2147483648 2147483747 (by decide) rfl
  obtain ⟨i6a, i6b, i6c, i6d⟩ := pz_gi hE 6 2147484657 4294967295 (by decide) rfl
  have c_opened : ay_at hp 173 27 = some (ρ 4) := ay_gfj hE 702 108 19 173 27 (by decide) (by rw [ax_vl_c (by decide)]) (by rw [ax_vl_c (by decide)])
  have s1 : (ρ 5 / 4 + 2147483648) % 4294967296 + (4 / 4 + 2147483648) % 4294967296 = (ρ 4 / 4 + 2147483648) % 4294967296 + 2147483648 := pz_gs hE 23 4 19 (by decide)
  have c_open : ay_at hp 185 (ρ 5 / 4) = some (ρ 6) := ay_gf hE 750 23 27 185 (by decide) (by rw [ax_vl_c (by decide)])
  obtain ⟨-, -, F242⟩ : ay_ex hp 173 ∧ ay_ex hp 185 ∧ py_y242 (ρ 2) (ay_at hp 173 27) (ay_at hp 185) := (ax_XF_lt (by decide)).mp (ax_gx hE (242, [11]) (by decide))
  rw [c_opened] at F242
  obtain ⟨-, -, F241⟩ : ay_ex hp 180 ∧ ay_ex hp 182 ∧ py_y241 0 (ρ 3) (ay_at hp 180 0) (ay_at hp 182) := (ax_XF_lt (by decide)).mp (ax_gx hE (241, [15]) (by decide))
  have F249 : py_249 (ρ 0) (ρ 1) (ρ 2) (ρ 3) := (ax_XF_lt (by decide)).mp (ax_gx hE (249, [3, 7, 11, 15]) (by decide))
  obtain ⟨c, T, t1, t2, t3, t4, t5, t6, t7⟩ := py_take (o := ρ 5 / 4) F242 (show ρ 4 / 4 = ρ 5 / 4 + 1 by omega)
  rw [c_open] at t3
  have te := Option.some.inj t3
  have tk : c = ρ 6 / 4 := by omega
  refine ⟨(fun y hy => by cases hy), _, List.mem_cons_self, ρ, fun _ _ => rfl, ax_px hE (by decide) (fun x hx => ?_)⟩
  cases List.mem_singleton.mp hx
  refine (ax_XF_lt (x := 253) (by decide)).mpr ?_
  show py_253 (ρ 0) (ρ 1) (ρ 2) (ρ 3)
  exact pm_cm7 F249 (by rw [t1]; show c ≠ 1008; omega)

theorem axq1_cp3 : ax_RO ax_wM1 (ax_XM 1) axu1_cp3 := axqg_cp3 ax_WW1
theorem axq1_cp4 : ax_RO ax_wM1 (ax_XM 1) axu1_cp4 := axqg_cp4 ax_WW1
theorem axq1_cp5 : ax_RO ax_wM1 (ax_XM 1) axu1_cp5 := by
  intro ρ hp hE hT
  have j0 : ρ 0 % 4 = 1 := pz_gj hE 0 (by decide) rfl
  have j1 : ρ 1 % 4 = 1 := pz_gj hE 1 (by decide) rfl
  have j2 : ρ 2 % 4 = 1 := pz_gj hE 2 (by decide) rfl
  have j3 : ρ 3 % 4 = 1 := pz_gj hE 3 (by decide) rfl
  obtain ⟨-, -, -, -, -, F151⟩ : ay_ex hp 173 ∧ ay_ex hp 173 ∧ ay_ex hp 173 ∧ ay_ex hp 173 ∧ ay_ex hp 173 ∧ pz_y151 (ρ 0) (ρ 1) (ay_at hp 173 13) (ay_at hp 173 14) (ay_at hp 173 15) (ay_at hp 173 16) (ay_at hp 173 17) := (ax_XF_lt (by decide)).mp (ax_gx hE (151, [3, 7]) (by decide))
  obtain ⟨-, -, -, -, -, -, -, -, -, -, -, F152⟩ : ay_ex hp 175 ∧ ay_ex hp 176 ∧ ay_ex hp 177 ∧ ay_ex hp 178 ∧ ay_ex hp 179 ∧ ay_ex hp 173 ∧ ay_ex hp 173 ∧ ay_ex hp 173 ∧ ay_ex hp 173 ∧ ay_ex hp 173 ∧ ay_ex hp 181 ∧ pz_y152 0 (ρ 0) (ρ 1) (ay_at hp 175 0) (ay_at hp 176 0) (ay_at hp 177 0) (ay_at hp 178 0) (ay_at hp 179 0) (ay_at hp 173 23) (ay_at hp 173 25) (ay_at hp 173 24) (ay_at hp 173 18) (ay_at hp 173 19) (ay_at hp 181) := (ax_XF_lt (by decide)).mp (ax_gx hE (152, [3, 7]) (by decide))
  have F179 : pz7 (pz_gt (ρ 0)) (pz_gN (ρ 0)) ((ρ 1) / 4) 9 := (ax_XF_lt (by decide)).mp (ax_gx hE (179, [3, 7]) (by decide))
  have F190 : (pz90 (pz_gt (ρ 0)) (pz_gN (ρ 0)) ((ρ 1) / 4) ((ρ 2) / 4) ∧ 1 ≤ (ρ 2) / 4) := (ax_XF_lt (by decide)).mp (ax_gx hE (190, [3, 7, 11]) (by decide))
  have F193 : ((ρ 2) / 4 = 2 * ((ρ 3) / 4) ∧ 1 ≤ (ρ 3) / 4) := (ax_XF_lt (by decide)).mp (ax_gx hE (193, [11, 15]) (by decide))
  have F168 : pz_kd (pz_gt (ρ 0)) (pz_gN (ρ 0)) (pz_p (pz_cF (ρ 0) (ρ 1))) = (164) / 4 := (ax_XF_lt (by decide)).mp (ax_gx hE (168, [3, 7, 164]) (by decide))
  have st := pq_rs6 (pz_m50 F151 F152) F179 F190.1 F193.1 F193.2 (show _ = 41 from F168)
  obtain ⟨ρ', h1, h2⟩ := pz_pn1 (K := ρ 1 / 4 + 1) (xf := [(153, [3, 19]), (182, [7, 19]), (152, [3, 19]), (179, [3, 19]), (197, [3, 19, 15])]) hE (by decide) (fun ρ' h1 h2 x hx => by
    have q0 : ρ' 0 = ρ 0 := h1 0 (by decide)
    have q1 : ρ' 1 = ρ 1 := h1 1 (by decide)
    have q2 : ρ' 2 = ρ 2 := h1 2 (by decide)
    have q3 : ρ' 3 = ρ 3 := h1 3 (by decide)
    rcases List.mem_cons.mp hx with e | hx
    · subst e
      refine (ax_XF_lt (x := 153) (by decide)).mpr ?_
      show ay_ex hp 173 ∧ pz_at (pz_gt (ρ' 0)) (pz_gN (ρ' 0)) (ay_ln (ay_at hp 173 13)) = pz_at (pz_gt (ρ' 0)) (pz_gN (ρ' 0)) (pz_p (pz_cF (ρ' 0) (ρ' 4)))
      rw [q0, h2]
      refine ⟨(ax_cellT hT (q := 173) (g := 11) (ax_wc ax_WW1 ax_cg_173)), ?_⟩
      exact pz_l153 (pz_41 _) st.1.1
    rcases List.mem_cons.mp hx with e | hx
    · subst e
      refine (ax_XF_lt (x := 182) (by decide)).mpr ?_
      show (ρ' 4) / 4 = (ρ' 1) / 4 + 1
      rw [q1, h2]
      rw [pz_41]
    rcases List.mem_cons.mp hx with e | hx
    · subst e
      refine (ax_XF_lt (x := 152) (by decide)).mpr ?_
      show ay_ex hp 175 ∧ ay_ex hp 176 ∧ ay_ex hp 177 ∧ ay_ex hp 178 ∧ ay_ex hp 179 ∧ ay_ex hp 173 ∧ ay_ex hp 173 ∧ ay_ex hp 173 ∧ ay_ex hp 173 ∧ ay_ex hp 173 ∧ ay_ex hp 181 ∧ pz_y152 0 (ρ' 0) (ρ' 4) (ay_at hp 175 0) (ay_at hp 176 0) (ay_at hp 177 0) (ay_at hp 178 0) (ay_at hp 179 0) (ay_at hp 173 23) (ay_at hp 173 25) (ay_at hp 173 24) (ay_at hp 173 18) (ay_at hp 173 19) (ay_at hp 181)
      rw [q0, h2]
      refine ⟨(ax_cellT hT (q := 175) (g := 45) (ax_wc ax_WW1 ax_cg_175)), (ax_cellT hT (q := 176) (g := 46) (ax_wc ax_WW1 ax_cg_176)), (ax_cellT hT (q := 177) (g := 47) (ax_wc ax_WW1 ax_cg_177)), (ax_cellT hT (q := 178) (g := 48) (ax_wc ax_WW1 ax_cg_178)), (ax_cellT hT (q := 179) (g := 49) (ax_wc ax_WW1 ax_cg_179)), (ax_cellT hT (q := 173) (g := 11) (ax_wc ax_WW1 ax_cg_173)), (ax_cellT hT (q := 173) (g := 11) (ax_wc ax_WW1 ax_cg_173)), (ax_cellT hT (q := 173) (g := 11) (ax_wc ax_WW1 ax_cg_173)), (ax_cellT hT (q := 173) (g := 11) (ax_wc ax_WW1 ax_cg_173)), (ax_cellT hT (q := 173) (g := 11) (ax_wc ax_WW1 ax_cg_173)), (ax_cellT hT (q := 181) (g := 51) (ax_wc ax_WW1 ax_cg_181)), ?_⟩
      exact pz_l152 (pz_41 _) st.1.2
    rcases List.mem_cons.mp hx with e | hx
    · subst e
      refine (ax_XF_lt (x := 179) (by decide)).mpr ?_
      show pz7 (pz_gt (ρ' 0)) (pz_gN (ρ' 0)) ((ρ' 4) / 4) 9
      rw [q0, h2]
      rw [pz_41]
      exact st.2.1
    cases List.mem_singleton.mp hx
    refine (ax_XF_lt (x := 197) (by decide)).mpr ?_
    show (pz90 (pz_gt (ρ' 0)) (pz_gN (ρ' 0)) ((ρ' 4) / 4) (pz_strip ((ρ' 3) / 4)) ∧ 1 ≤ (ρ' 3) / 4)
    rw [q0, q3, h2]
    exact ⟨pz_l197 (pz_41 _) st.2.2, F193.2⟩)
  exact ⟨(fun y hy => by cases hy), _, List.mem_cons_self, ρ', h1, h2⟩

theorem axq1_cp6 : ax_RO ax_wM1 (ax_XM 1) axu1_cp6 := axqg_cp6 ax_WW1
theorem axq1_cp7 : ax_RO ax_wM1 (ax_XM 1) axu1_cp7 := axqg_cp7 ax_WW1
theorem axq1_cq1 : ax_RO ax_wM1 (ax_XM 1) axu1_cq1 := by
  intro ρ hp hE hT
  have j0 : ρ 0 % 4 = 1 := pz_gj hE 0 (by decide) rfl
  have j1 : ρ 1 % 4 = 1 := pz_gj hE 1 (by decide) rfl
  have j2 : ρ 2 % 4 = 1 := pz_gj hE 2 (by decide) rfl
  have j3 : ρ 3 % 4 = 1 := pz_gj hE 3 (by decide) rfl
  have j4 : ρ 4 % 4 = 1 := pz_gj hE 4 (by decide) rfl
  have j5 : ρ 5 % 4 = 1 := pz_gj hE 5 (by decide) rfl
  obtain ⟨i6a, i6b, i6c, i6d⟩ := pz_gi hE 6 2147484651 2147484655 (by decide) rfl
  obtain ⟨-, -, F242⟩ : ay_ex hp 173 ∧ ay_ex hp 185 ∧ py_y242 (ρ 4) (ay_at hp 173 27) (ay_at hp 185) := (ax_XF_lt (by decide)).mp (ax_gx hE (242, [19]) (by decide))
  obtain ⟨-, -, F241⟩ : ay_ex hp 180 ∧ ay_ex hp 182 ∧ py_y241 0 (ρ 5) (ay_at hp 180 0) (ay_at hp 182) := (ax_XF_lt (by decide)).mp (ax_gx hE (241, [23]) (by decide))
  have F251 : py_251 (ρ 2) (ρ 6) (ρ 4) := (ax_XF_lt (by decide)).mp (ax_gx hE (251, [11, 27, 19]) (by decide))
  have F251a : py_251 (ρ 5) (ρ 6) (ρ 3) := (ax_XF_lt (by decide)).mp (ax_gx hE (251, [23, 27, 15]) (by decide))
  have F250 : py_250 (4012) (ρ 0) (ρ 1) (ρ 2) (ρ 3) := (ax_XF_lt (by decide)).mp (ax_gx hE (250, [4012, 3, 7, 11, 15]) (by decide))
  refine ⟨(fun y hy => by cases hy), _, List.mem_cons_self, ρ, fun _ _ => rfl, ax_px hE (by decide) (fun x hx => ?_)⟩
  cases List.mem_singleton.mp hx
  refine (ax_XF_lt (x := 250) (by decide)).mpr ?_
  show py_250 (4012) (ρ 0) (ρ 1) (ρ 4) (ρ 5)
  exact pm_cq1 F250 F251 F251a (show 1 ≤ _ from py_bd_1 (by omega) (by omega))

theorem axq1_cq2 : ax_RO ax_wM1 (ax_XM 1) axu1_cq2 := axqg_cq2 ax_WW1
theorem axq1_cq3 : ax_RO ax_wM1 (ax_XM 1) axu1_cq3 := by
  intro ρ hp hE hT
  have j0 : ρ 0 % 4 = 1 := pz_gj hE 0 (by decide) rfl
  have j1 : ρ 1 % 4 = 1 := pz_gj hE 1 (by decide) rfl
  have j2 : ρ 2 % 4 = 1 := pz_gj hE 2 (by decide) rfl
  have j3 : ρ 3 % 4 = 1 := pz_gj hE 3 (by decide) rfl
  have j4 : ρ 4 % 4 = 1 := pz_gj hE 4 (by decide) rfl
  have j5 : ρ 5 % 4 = 1 := pz_gj hE 5 (by decide) rfl
  have j6 : ρ 6 % 4 = 1 := pz_gj hE 6 (by decide) rfl
  have j7 : ρ 7 % 4 = 1 := pz_gj hE 7 (by decide) rfl
  have j8 : ρ 8 % 4 = 1 := pz_gj hE 8 (by decide) rfl
  have j9 : ρ 9 % 4 = 1 := pz_gj hE 9 (by decide) rfl
  obtain ⟨-, -, -, -, -, F151⟩ : ay_ex hp 173 ∧ ay_ex hp 173 ∧ ay_ex hp 173 ∧ ay_ex hp 173 ∧ ay_ex hp 173 ∧ pz_y151 (ρ 0) (ρ 1) (ay_at hp 173 13) (ay_at hp 173 14) (ay_at hp 173 15) (ay_at hp 173 16) (ay_at hp 173 17) := (ax_XF_lt (by decide)).mp (ax_gx hE (151, [3, 7]) (by decide))
  have F182 : (ρ 2) / 4 = (ρ 1) / 4 + 1 := (ax_XF_lt (by decide)).mp (ax_gx hE (182, [7, 11]) (by decide))
  have F179 : pz7 (pz_gt (ρ 0)) (pz_gN (ρ 0)) ((ρ 1) / 4) 9 := (ax_XF_lt (by decide)).mp (ax_gx hE (179, [3, 7]) (by decide))
  have F168 : pz_kd (pz_gt (ρ 0)) (pz_gN (ρ 0)) (pz_p (pz_cF (ρ 0) (ρ 1))) = (164) / 4 := (ax_XF_lt (by decide)).mp (ax_gx hE (168, [3, 7, 164]) (by decide))
  have F190 : (pz90 (pz_gt (ρ 0)) (pz_gN (ρ 0)) ((ρ 1) / 4) ((ρ 3) / 4) ∧ 1 ≤ (ρ 3) / 4) := (ax_XF_lt (by decide)).mp (ax_gx hE (190, [3, 7, 15]) (by decide))
  have F193 : ((ρ 3) / 4 = 2 * ((ρ 4) / 4) ∧ 1 ≤ (ρ 4) / 4) := (ax_XF_lt (by decide)).mp (ax_gx hE (193, [15, 19]) (by decide))
  have F246 : py_y246 (pz_gt (ρ 0)) (pz_gN (ρ 0)) ((ρ 1) / 4) (ρ 5) (ρ 6) := (ax_XF_lt (by decide)).mp (ax_gx hE (246, [3, 7, 23, 27]) (by decide))
  obtain ⟨-, -, F242⟩ : ay_ex hp 173 ∧ ay_ex hp 185 ∧ py_y242 (ρ 9) (ay_at hp 173 27) (ay_at hp 185) := (ax_XF_lt (by decide)).mp (ax_gx hE (242, [39]) (by decide))
  obtain ⟨-, -, F241⟩ : ay_ex hp 180 ∧ ay_ex hp 182 ∧ py_y241 0 (ρ 8) (ay_at hp 180 0) (ay_at hp 182) := (ax_XF_lt (by decide)).mp (ax_gx hE (241, [35]) (by decide))
  have F250 : py_250 (4012) (ρ 5) (ρ 6) (ρ 7) (ρ 8) := (ax_XF_lt (by decide)).mp (ax_gx hE (250, [4012, 23, 27, 31, 35]) (by decide))
  have F251 : py_251 (ρ 7) (4036) (ρ 9) := (ax_XF_lt (by decide)).mp (ax_gx hE (251, [31, 4036, 39]) (by decide))
  refine ⟨(fun y hy => by cases hy), _, List.mem_cons_self, ρ, fun _ _ => rfl, ax_px hE (by decide) (fun x hx => ?_)⟩
  cases List.mem_singleton.mp hx
  refine (ax_XF_lt (x := 247) (by decide)).mpr ?_
  show py_247 (pz_gt (ρ 0)) (pz_gN (ρ 0)) ((ρ 2) / 4) (ρ 9) (ρ 8)
  exact pm_cq3 F179 (show _ = 41 from F168) F190.1 (by have h1 := F193.1; have h2 := F193.2; omega) F182 F246 F250 F251

theorem axq1_cq4 : ax_RO ax_wM1 (ax_XM 1) axu1_cq4 := by
  intro ρ hp hE hT
  have j0 : ρ 0 % 4 = 1 := pz_gj hE 0 (by decide) rfl
  have j1 : ρ 1 % 4 = 1 := pz_gj hE 1 (by decide) rfl
  obtain ⟨-, -, F242⟩ : ay_ex hp 173 ∧ ay_ex hp 185 ∧ py_y242 (ρ 0) (ay_at hp 173 27) (ay_at hp 185) := (ax_XF_lt (by decide)).mp (ax_gx hE (242, [3]) (by decide))
  obtain ⟨-, -, F241⟩ : ay_ex hp 180 ∧ ay_ex hp 182 ∧ py_y241 0 (ρ 1) (ay_at hp 180 0) (ay_at hp 182) := (ax_XF_lt (by decide)).mp (ax_gx hE (241, [7]) (by decide))
  refine ⟨(fun y hy => by cases hy), _, List.mem_cons_self, ρ, fun _ _ => rfl, ax_px hE (by decide) (fun x hx => ?_)⟩
  cases List.mem_singleton.mp hx
  refine (ax_XF_lt (x := 249) (by decide)).mpr ?_
  show py_249 (ρ 0) (ρ 1) (ρ 0) (ρ 1)
  exact (rfl : py_neg _ _ = _)

theorem axq1_cq5 : ax_RO ax_wM1 (ax_XM 1) axu1_cq5 := by
  intro ρ hp hE hT
  have j0 : ρ 0 % 4 = 1 := pz_gj hE 0 (by decide) rfl
  have j1 : ρ 1 % 4 = 1 := pz_gj hE 1 (by decide) rfl
  have j2 : ρ 2 % 4 = 1 := pz_gj hE 2 (by decide) rfl
  have j3 : ρ 3 % 4 = 1 := pz_gj hE 3 (by decide) rfl
  have j4 : ρ 4 % 4 = 1 := pz_gj hE 4 (by decide) rfl
  have j5 : ρ 5 % 4 = 1 := pz_gj hE 5 (by decide) rfl
  obtain ⟨-, -, -, -, -, F151⟩ : ay_ex hp 173 ∧ ay_ex hp 173 ∧ ay_ex hp 173 ∧ ay_ex hp 173 ∧ ay_ex hp 173 ∧ pz_y151 (ρ 0) (ρ 1) (ay_at hp 173 13) (ay_at hp 173 14) (ay_at hp 173 15) (ay_at hp 173 16) (ay_at hp 173 17) := (ax_XF_lt (by decide)).mp (ax_gx hE (151, [3, 7]) (by decide))
  have F247 : py_247 (pz_gt (ρ 0)) (pz_gN (ρ 0)) ((ρ 1) / 4) (ρ 2) (ρ 3) := (ax_XF_lt (by decide)).mp (ax_gx hE (247, [3, 7, 11, 15]) (by decide))
  have F253 : py_253 (ρ 2) (ρ 3) (ρ 4) (ρ 5) := (ax_XF_lt (by decide)).mp (ax_gx hE (253, [11, 15, 19, 23]) (by decide))
  obtain ⟨-, -, F242⟩ : ay_ex hp 173 ∧ ay_ex hp 185 ∧ py_y242 (ρ 4) (ay_at hp 173 27) (ay_at hp 185) := (ax_XF_lt (by decide)).mp (ax_gx hE (242, [19]) (by decide))
  obtain ⟨-, -, F241⟩ : ay_ex hp 180 ∧ ay_ex hp 182 ∧ py_y241 0 (ρ 5) (ay_at hp 180 0) (ay_at hp 182) := (ax_XF_lt (by decide)).mp (ax_gx hE (241, [23]) (by decide))
  refine ⟨(fun y hy => by cases hy), _, List.mem_cons_self, ρ, fun _ _ => rfl, ax_px hE (by decide) (fun x hx => ?_)⟩
  cases List.mem_singleton.mp hx
  refine (ax_XF_lt (x := 246) (by decide)).mpr ?_
  show py_y246 (pz_gt (ρ 0)) (pz_gN (ρ 0)) ((ρ 1) / 4) (ρ 4) (ρ 5)
  exact pm_cq5 F247 F253

theorem axq1_mu0_5_40 : ax_RO ax_wM1 (ax_XM 1) axu1_mu0_5_40 := axqg_mu0_5_40 ax_WW1
theorem axq1_mu0_5_45 : ax_RO ax_wM1 (ax_XM 1) axu1_mu0_5_45 := axqg_mu0_5_45 ax_WW1
theorem axq1_mu0_6_40 : ax_RO ax_wM1 (ax_XM 1) axu1_mu0_6_40 := axqg_mu0_6_40 ax_WW1
theorem axq1_mu0_6_45 : ax_RO ax_wM1 (ax_XM 1) axu1_mu0_6_45 := axqg_mu0_6_45 ax_WW1
theorem axq1_mu0_7_40 : ax_RO ax_wM1 (ax_XM 1) axu1_mu0_7_40 := axqg_mu0_7_40 ax_WW1
theorem axq1_mu0_7_45 : ax_RO ax_wM1 (ax_XM 1) axu1_mu0_7_45 := axqg_mu0_7_45 ax_WW1
theorem axq1_mu1a : ax_RO ax_wM1 (ax_XM 1) axu1_mu1a := axqg_mu1a ax_WW1
theorem axq1_mu1b : ax_RO ax_wM1 (ax_XM 1) axu1_mu1b := axqg_mu1b ax_WW1
theorem axq1_mu2 : ax_RO ax_wM1 (ax_XM 1) axu1_mu2 := axqg_mu2 ax_WW1
theorem axq1_muD_40 : ax_RO ax_wM1 (ax_XM 1) axu1_muD_40 := axqg_muD_40 ax_WW1
theorem axq1_muD_5 : ax_RO ax_wM1 (ax_XM 1) axu1_muD_5 := axqg_muD_5 ax_WW1
theorem axq1_muD_2 : ax_RO ax_wM1 (ax_XM 1) axu1_muD_2 := axqg_muD_2 ax_WW1
theorem axq1_muD_3 : ax_RO ax_wM1 (ax_XM 1) axu1_muD_3 := axqg_muD_3 ax_WW1
theorem axq1_muD_4 : ax_RO ax_wM1 (ax_XM 1) axu1_muD_4 := axqg_muD_4 ax_WW1
theorem axq1_mu3_40 : ax_RO ax_wM1 (ax_XM 1) axu1_mu3_40 := axqg_mu3_40 ax_WW1
theorem axq1_mu3_5 : ax_RO ax_wM1 (ax_XM 1) axu1_mu3_5 := axqg_mu3_5 ax_WW1
theorem axq1_mu3_2 : ax_RO ax_wM1 (ax_XM 1) axu1_mu3_2 := axqg_mu3_2 ax_WW1
theorem axq1_mu3_3 : ax_RO ax_wM1 (ax_XM 1) axu1_mu3_3 := axqg_mu3_3 ax_WW1
theorem axq1_mu3_4 : ax_RO ax_wM1 (ax_XM 1) axu1_mu3_4 := axqg_mu3_4 ax_WW1
theorem axq1_mu3_1 : ax_RO ax_wM1 (ax_XM 1) axu1_mu3_1 := axqg_mu3_1 ax_WW1
theorem axq1_mu4 : ax_RO ax_wM1 (ax_XM 1) axu1_mu4 := by
  intro ρ hp hE hT
  have j0 : ρ 0 % 4 = 1 := pz_gj hE 0 (by decide) rfl
  have j1 : ρ 1 % 4 = 1 := pz_gj hE 1 (by decide) rfl
  obtain ⟨i2a, i2b, i2c, i2d⟩ := pz_gi hE 2 0 4294967295 (by decide) rfl
  obtain ⟨i3a, i3b, i3c, i3d⟩ := pz_gi hE 3 2147483688 2147483688 (by decide) rfl
  have c_units : ay_at hp 179 0 = some (ρ 3) := ay_gfj hE 726 0 15 179 0 (by decide) (by rw [ax_vl_c (by decide)]) (by rw [ax_vl_c (by decide)])
  obtain ⟨-, -, -, -, -, F151⟩ : ay_ex hp 173 ∧ ay_ex hp 173 ∧ ay_ex hp 173 ∧ ay_ex hp 173 ∧ ay_ex hp 173 ∧ pz_y151 (ρ 0) (ρ 1) (ay_at hp 173 13) (ay_at hp 173 14) (ay_at hp 173 15) (ay_at hp 173 16) (ay_at hp 173 17) := (ax_XF_lt (by decide)).mp (ax_gx hE (151, [3, 7]) (by decide))
  obtain ⟨-, -, -, -, -, -, -, -, -, -, -, F152⟩ : ay_ex hp 175 ∧ ay_ex hp 176 ∧ ay_ex hp 177 ∧ ay_ex hp 178 ∧ ay_ex hp 179 ∧ ay_ex hp 173 ∧ ay_ex hp 173 ∧ ay_ex hp 173 ∧ ay_ex hp 173 ∧ ay_ex hp 173 ∧ ay_ex hp 181 ∧ pz_y152 0 (ρ 0) (ρ 1) (ay_at hp 175 0) (ay_at hp 176 0) (ay_at hp 177 0) (ay_at hp 178 0) (ay_at hp 179 0) (ay_at hp 173 23) (ay_at hp 173 25) (ay_at hp 173 24) (ay_at hp 173 18) (ay_at hp 173 19) (ay_at hp 181) := (ax_XF_lt (by decide)).mp (ax_gx hE (152, [3, 7]) (by decide))
  rw [c_units] at F152
  have F178 : pz7 (pz_gt (ρ 0)) (pz_gN (ρ 0)) ((ρ 1) / 4) 8 := (ax_XF_lt (by decide)).mp (ax_gx hE (178, [3, 7]) (by decide))
  have F207 : pz107 (pz_gt (ρ 0)) (pz_gN (ρ 0)) ((ρ 1) / 4) ((ρ 2) / 4) := (ax_XF_lt (by decide)).mp (ax_gx hE (207, [3, 7, 11]) (by decide))
  refine ⟨(fun y hy => by cases hy), _, List.mem_cons_self, ρ, fun _ _ => rfl, ax_px hE (by decide) (fun x hx => ?_)⟩
  cases List.mem_singleton.mp hx
  refine (ax_XF_lt (x := 164) (by decide)).mpr ?_
  show pz64 (pz_gt (ρ 0)) (pz_gN (ρ 0)) ((ρ 1) / 4) ((16) / 4)
  exact pq_ru4 (pz_m50 F151 F152) F178 F207 (show ρ 3 / 4 = 40 by omega)

theorem axq1_mu5 : ax_RO ax_wM1 (ax_XM 1) axu1_mu5 := axqg_mu5 ax_WW1
theorem axq1_mu6_40 : ax_RO ax_wM1 (ax_XM 1) axu1_mu6_40 := by
  intro ρ hp hE hT
  have j0 : ρ 0 % 4 = 1 := pz_gj hE 0 (by decide) rfl
  have j1 : ρ 1 % 4 = 1 := pz_gj hE 1 (by decide) rfl
  have j2 : ρ 2 % 4 = 1 := pz_gj hE 2 (by decide) rfl
  obtain ⟨i3a, i3b, i3c, i3d⟩ := pz_gi hE 3 0 4294967295 (by decide) rfl
  obtain ⟨i4a, i4b, i4c, i4d⟩ := pz_gi hE 4 2147483648 2147483687 (by decide) rfl
  obtain ⟨i5a, i5b, i5c, i5d⟩ := pz_gi hE 5 2147483648 2147483653 (by decide) rfl
  have c_deep : ay_at hp 173 28 = some (ρ 5) := ay_gfj hE 702 112 23 173 28 (by decide) (by rw [ax_vl_c (by decide)]) (by rw [ax_vl_c (by decide)])
  have c_units : ay_at hp 179 0 = some (ρ 4) := ay_gfj hE 726 0 19 179 0 (by decide) (by rw [ax_vl_c (by decide)]) (by rw [ax_vl_c (by decide)])
  have s1 : (ρ 4 / 4 + 2147483648) % 4294967296 + (4 / 4 + 2147483648) % 4294967296 = (ρ 3 / 4 + 2147483648) % 4294967296 + 2147483648 := pz_gs hE 19 4 15 (by decide)
  obtain ⟨-, -, -, -, -, F151⟩ : ay_ex hp 173 ∧ ay_ex hp 173 ∧ ay_ex hp 173 ∧ ay_ex hp 173 ∧ ay_ex hp 173 ∧ pz_y151 (ρ 0) (ρ 1) (ay_at hp 173 13) (ay_at hp 173 14) (ay_at hp 173 15) (ay_at hp 173 16) (ay_at hp 173 17) := (ax_XF_lt (by decide)).mp (ax_gx hE (151, [3, 7]) (by decide))
  obtain ⟨-, -, -, -, -, -, -, -, -, -, -, F152⟩ : ay_ex hp 175 ∧ ay_ex hp 176 ∧ ay_ex hp 177 ∧ ay_ex hp 178 ∧ ay_ex hp 179 ∧ ay_ex hp 173 ∧ ay_ex hp 173 ∧ ay_ex hp 173 ∧ ay_ex hp 173 ∧ ay_ex hp 173 ∧ ay_ex hp 181 ∧ pz_y152 0 (ρ 0) (ρ 1) (ay_at hp 175 0) (ay_at hp 176 0) (ay_at hp 177 0) (ay_at hp 178 0) (ay_at hp 179 0) (ay_at hp 173 23) (ay_at hp 173 25) (ay_at hp 173 24) (ay_at hp 173 18) (ay_at hp 173 19) (ay_at hp 181) := (ax_XF_lt (by decide)).mp (ax_gx hE (152, [3, 7]) (by decide))
  rw [c_units] at F152
  have F178 : pz7 (pz_gt (ρ 0)) (pz_gN (ρ 0)) ((ρ 1) / 4) 8 := (ax_XF_lt (by decide)).mp (ax_gx hE (178, [3, 7]) (by decide))
  have F207 : pz107 (pz_gt (ρ 0)) (pz_gN (ρ 0)) ((ρ 1) / 4) ((160) / 4) := (ax_XF_lt (by decide)).mp (ax_gx hE (207, [3, 7, 160]) (by decide))
  have F190 : (pz90 (pz_gt (ρ 0)) (pz_gN (ρ 0)) ((ρ 1) / 4) ((ρ 2) / 4) ∧ 1 ≤ (ρ 2) / 4) := (ax_XF_lt (by decide)).mp (ax_gx hE (190, [3, 7, 11]) (by decide))
  obtain ⟨-, F195⟩ : ay_ex hp 173 ∧ ay_ln (ay_at hp 173 28) = pz_dp ((ρ 2) / 4) := (ax_XF_lt (by decide)).mp (ax_gx hE (195, [11]) (by decide))
  rw [c_deep] at F195
  have hd : ρ 5 / 4 = pz_dp (ρ 2 / 4) := F195
  have st := pq_ru6o (pz_m50 F151 F152) F178 F207 F190.1 (by omega) (show ρ 4 / 4 ≤ 39 by omega)
  obtain ⟨ρ', h1, h2⟩ := pz_pn1 (K := ρ 1 / 4 + 1) (xf := [(652, [726, 0, 15, 3, 27]), (153, [3, 27]), (182, [7, 27]), (178, [3, 27]), (187, [3, 27, 11])]) hE (by decide) (fun ρ' h1 h2 x hx => by
    have q0 : ρ' 0 = ρ 0 := h1 0 (by decide)
    have q1 : ρ' 1 = ρ 1 := h1 1 (by decide)
    have q2 : ρ' 2 = ρ 2 := h1 2 (by decide)
    have q3 : ρ' 3 = ρ 3 := h1 3 (by decide)
    have q4 : ρ' 4 = ρ 4 := h1 4 (by decide)
    have q5 : ρ' 5 = ρ 5 := h1 5 (by decide)
    rcases List.mem_cons.mp hx with e | hx
    · subst e
      refine (ax_XF_wr (x := 152) (by decide)).mpr ?_
      show ay_ex (ax_upd hp 726 (0) (ρ' 3)) 175 ∧ ay_ex (ax_upd hp 726 (0) (ρ' 3)) 176 ∧ ay_ex (ax_upd hp 726 (0) (ρ' 3)) 177 ∧ ay_ex (ax_upd hp 726 (0) (ρ' 3)) 178 ∧ ay_ex (ax_upd hp 726 (0) (ρ' 3)) 179 ∧ ay_ex (ax_upd hp 726 (0) (ρ' 3)) 173 ∧ ay_ex (ax_upd hp 726 (0) (ρ' 3)) 173 ∧ ay_ex (ax_upd hp 726 (0) (ρ' 3)) 173 ∧ ay_ex (ax_upd hp 726 (0) (ρ' 3)) 173 ∧ ay_ex (ax_upd hp 726 (0) (ρ' 3)) 173 ∧ ay_ex (ax_upd hp 726 (0) (ρ' 3)) 181 ∧ pz_y152 0 (ρ' 0) (ρ' 6) (ay_at (ax_upd hp 726 (0) (ρ' 3)) 175 0) (ay_at (ax_upd hp 726 (0) (ρ' 3)) 176 0) (ay_at (ax_upd hp 726 (0) (ρ' 3)) 177 0) (ay_at (ax_upd hp 726 (0) (ρ' 3)) 178 0) (ay_at (ax_upd hp 726 (0) (ρ' 3)) 179 0) (ay_at (ax_upd hp 726 (0) (ρ' 3)) 173 23) (ay_at (ax_upd hp 726 (0) (ρ' 3)) 173 25) (ay_at (ax_upd hp 726 (0) (ρ' 3)) 173 24) (ay_at (ax_upd hp 726 (0) (ρ' 3)) 173 18) (ay_at (ax_upd hp 726 (0) (ρ' 3)) 173 19) (ay_at (ax_upd hp 726 (0) (ρ' 3)) 181)
      rw [q0, q3, h2]
      obtain ⟨o0, ho0⟩ := ay_some hT (q := 179) (g := 49) (n := 2) (ax_wc ax_WW1 ax_cg_179) (ax_wn ax_WW1 ax_cn_49) (j := 0 / 4) (by decide)
      have u1 : ∀ q, q ≠ 179 → ay_at (ax_upd hp 726 0 (ρ 3)) q = ay_at hp q := fun q hq => funext (fun j => ay_upd_ne hT.1 hq j)
      have u2 : ∀ j, ay_at (ax_upd hp 726 0 (ρ 3)) 179 j = if j = 0 then some (ρ 3) else ay_at hp 179 j := fun j => ay_upd_eq hT.1 rfl ho0 j
      refine ⟨ay_ex_upd hT.1 (ax_cellT hT (q := 175) (g := 45) (ax_wc ax_WW1 ax_cg_175)), ay_ex_upd hT.1 (ax_cellT hT (q := 176) (g := 46) (ax_wc ax_WW1 ax_cg_176)), ay_ex_upd hT.1 (ax_cellT hT (q := 177) (g := 47) (ax_wc ax_WW1 ax_cg_177)), ay_ex_upd hT.1 (ax_cellT hT (q := 178) (g := 48) (ax_wc ax_WW1 ax_cg_178)), ay_ex_upd hT.1 (ax_cellT hT (q := 179) (g := 49) (ax_wc ax_WW1 ax_cg_179)), ay_ex_upd hT.1 (ax_cellT hT (q := 173) (g := 11) (ax_wc ax_WW1 ax_cg_173)), ay_ex_upd hT.1 (ax_cellT hT (q := 173) (g := 11) (ax_wc ax_WW1 ax_cg_173)), ay_ex_upd hT.1 (ax_cellT hT (q := 173) (g := 11) (ax_wc ax_WW1 ax_cg_173)), ay_ex_upd hT.1 (ax_cellT hT (q := 173) (g := 11) (ax_wc ax_WW1 ax_cg_173)), ay_ex_upd hT.1 (ax_cellT hT (q := 173) (g := 11) (ax_wc ax_WW1 ax_cg_173)), ay_ex_upd hT.1 (ax_cellT hT (q := 181) (g := 51) (ax_wc ax_WW1 ax_cg_181)), ?_⟩
      rw [u1 175 (by decide), u1 176 (by decide), u1 177 (by decide), u1 178 (by decide), u2 0, if_pos rfl, u1 173 (by decide), u1 181 (by decide)]
      refine pz_l152 (pz_41 _) ?_
      show pz_dt _ _ _ _ _ (ρ 3 / 4) _ _ _ _ _ _ _
      rw [show ρ 3 / 4 = ρ 4 / 4 + 1 by omega]
      exact st.1.2
    rcases List.mem_cons.mp hx with e | hx
    · subst e
      refine (ax_XF_lt (x := 153) (by decide)).mpr ?_
      show ay_ex hp 173 ∧ pz_at (pz_gt (ρ' 0)) (pz_gN (ρ' 0)) (ay_ln (ay_at hp 173 13)) = pz_at (pz_gt (ρ' 0)) (pz_gN (ρ' 0)) (pz_p (pz_cF (ρ' 0) (ρ' 6)))
      rw [q0, h2]
      refine ⟨(ax_cellT hT (q := 173) (g := 11) (ax_wc ax_WW1 ax_cg_173)), ?_⟩
      exact pz_l153 (pz_41 _) st.1.1
    rcases List.mem_cons.mp hx with e | hx
    · subst e
      refine (ax_XF_lt (x := 182) (by decide)).mpr ?_
      show (ρ' 6) / 4 = (ρ' 1) / 4 + 1
      rw [q1, h2]
      rw [pz_41]
    rcases List.mem_cons.mp hx with e | hx
    · subst e
      refine (ax_XF_lt (x := 178) (by decide)).mpr ?_
      show pz7 (pz_gt (ρ' 0)) (pz_gN (ρ' 0)) ((ρ' 6) / 4) 8
      rw [q0, h2]
      rw [pz_41]
      exact st.2.1
    cases List.mem_singleton.mp hx
    refine (ax_XF_lt (x := 187) (by decide)).mpr ?_
    show (pz90 (pz_gt (ρ' 0)) (pz_gN (ρ' 0)) ((ρ' 6) / 4) (2 * ((ρ' 2) / 4)) ∧ 1 ≤ (ρ' 2) / 4)
    rw [q0, q2, h2]
    exact ⟨pz_l197 (pz_41 _) st.2.2, F190.2⟩)
  exact ⟨(fun y hy => by cases hy), _, List.mem_cons_self, ρ', h1, h2⟩

theorem axq1_mu6_5 : ax_RO ax_wM1 (ax_XM 1) axu1_mu6_5 := by
  intro ρ hp hE hT
  have j0 : ρ 0 % 4 = 1 := pz_gj hE 0 (by decide) rfl
  have j1 : ρ 1 % 4 = 1 := pz_gj hE 1 (by decide) rfl
  have j2 : ρ 2 % 4 = 1 := pz_gj hE 2 (by decide) rfl
  obtain ⟨i3a, i3b, i3c, i3d⟩ := pz_gi hE 3 0 4294967295 (by decide) rfl
  obtain ⟨i4a, i4b, i4c, i4d⟩ := pz_gi hE 4 2147483648 2147483687 (by decide) rfl
  obtain ⟨i5a, i5b, i5c, i5d⟩ := pz_gi hE 5 2147483648 2147483653 (by decide) rfl
  have c_deep : ay_at hp 173 28 = some (ρ 5) := ay_gfj hE 702 112 23 173 28 (by decide) (by rw [ax_vl_c (by decide)]) (by rw [ax_vl_c (by decide)])
  have c_units : ay_at hp 179 0 = some (ρ 4) := ay_gfj hE 726 0 19 179 0 (by decide) (by rw [ax_vl_c (by decide)]) (by rw [ax_vl_c (by decide)])
  have s1 : (ρ 4 / 4 + 2147483648) % 4294967296 + (4 / 4 + 2147483648) % 4294967296 = (ρ 3 / 4 + 2147483648) % 4294967296 + 2147483648 := pz_gs hE 19 4 15 (by decide)
  obtain ⟨-, -, -, -, -, F151⟩ : ay_ex hp 173 ∧ ay_ex hp 173 ∧ ay_ex hp 173 ∧ ay_ex hp 173 ∧ ay_ex hp 173 ∧ pz_y151 (ρ 0) (ρ 1) (ay_at hp 173 13) (ay_at hp 173 14) (ay_at hp 173 15) (ay_at hp 173 16) (ay_at hp 173 17) := (ax_XF_lt (by decide)).mp (ax_gx hE (151, [3, 7]) (by decide))
  obtain ⟨-, -, -, -, -, -, -, -, -, -, -, F152⟩ : ay_ex hp 175 ∧ ay_ex hp 176 ∧ ay_ex hp 177 ∧ ay_ex hp 178 ∧ ay_ex hp 179 ∧ ay_ex hp 173 ∧ ay_ex hp 173 ∧ ay_ex hp 173 ∧ ay_ex hp 173 ∧ ay_ex hp 173 ∧ ay_ex hp 181 ∧ pz_y152 0 (ρ 0) (ρ 1) (ay_at hp 175 0) (ay_at hp 176 0) (ay_at hp 177 0) (ay_at hp 178 0) (ay_at hp 179 0) (ay_at hp 173 23) (ay_at hp 173 25) (ay_at hp 173 24) (ay_at hp 173 18) (ay_at hp 173 19) (ay_at hp 181) := (ax_XF_lt (by decide)).mp (ax_gx hE (152, [3, 7]) (by decide))
  rw [c_units] at F152
  have F178 : pz7 (pz_gt (ρ 0)) (pz_gN (ρ 0)) ((ρ 1) / 4) 8 := (ax_XF_lt (by decide)).mp (ax_gx hE (178, [3, 7]) (by decide))
  have F207 : pz107 (pz_gt (ρ 0)) (pz_gN (ρ 0)) ((ρ 1) / 4) ((20) / 4) := (ax_XF_lt (by decide)).mp (ax_gx hE (207, [3, 7, 20]) (by decide))
  have F190 : (pz90 (pz_gt (ρ 0)) (pz_gN (ρ 0)) ((ρ 1) / 4) ((ρ 2) / 4) ∧ 1 ≤ (ρ 2) / 4) := (ax_XF_lt (by decide)).mp (ax_gx hE (190, [3, 7, 11]) (by decide))
  obtain ⟨-, F195⟩ : ay_ex hp 173 ∧ ay_ln (ay_at hp 173 28) = pz_dp ((ρ 2) / 4) := (ax_XF_lt (by decide)).mp (ax_gx hE (195, [11]) (by decide))
  rw [c_deep] at F195
  have hd : ρ 5 / 4 = pz_dp (ρ 2 / 4) := F195
  have st := pq_ru6m (pz_m50 F151 F152) F178 F207 F190.1 (by omega) (show ρ 4 / 4 ≤ 39 by omega)
  obtain ⟨ρ', h1, h2⟩ := pz_pn1 (K := ρ 1 / 4 + 1) (xf := [(652, [726, 0, 15, 3, 27]), (153, [3, 27]), (182, [7, 27]), (178, [3, 27]), (188, [3, 27, 11])]) hE (by decide) (fun ρ' h1 h2 x hx => by
    have q0 : ρ' 0 = ρ 0 := h1 0 (by decide)
    have q1 : ρ' 1 = ρ 1 := h1 1 (by decide)
    have q2 : ρ' 2 = ρ 2 := h1 2 (by decide)
    have q3 : ρ' 3 = ρ 3 := h1 3 (by decide)
    have q4 : ρ' 4 = ρ 4 := h1 4 (by decide)
    have q5 : ρ' 5 = ρ 5 := h1 5 (by decide)
    rcases List.mem_cons.mp hx with e | hx
    · subst e
      refine (ax_XF_wr (x := 152) (by decide)).mpr ?_
      show ay_ex (ax_upd hp 726 (0) (ρ' 3)) 175 ∧ ay_ex (ax_upd hp 726 (0) (ρ' 3)) 176 ∧ ay_ex (ax_upd hp 726 (0) (ρ' 3)) 177 ∧ ay_ex (ax_upd hp 726 (0) (ρ' 3)) 178 ∧ ay_ex (ax_upd hp 726 (0) (ρ' 3)) 179 ∧ ay_ex (ax_upd hp 726 (0) (ρ' 3)) 173 ∧ ay_ex (ax_upd hp 726 (0) (ρ' 3)) 173 ∧ ay_ex (ax_upd hp 726 (0) (ρ' 3)) 173 ∧ ay_ex (ax_upd hp 726 (0) (ρ' 3)) 173 ∧ ay_ex (ax_upd hp 726 (0) (ρ' 3)) 173 ∧ ay_ex (ax_upd hp 726 (0) (ρ' 3)) 181 ∧ pz_y152 0 (ρ' 0) (ρ' 6) (ay_at (ax_upd hp 726 (0) (ρ' 3)) 175 0) (ay_at (ax_upd hp 726 (0) (ρ' 3)) 176 0) (ay_at (ax_upd hp 726 (0) (ρ' 3)) 177 0) (ay_at (ax_upd hp 726 (0) (ρ' 3)) 178 0) (ay_at (ax_upd hp 726 (0) (ρ' 3)) 179 0) (ay_at (ax_upd hp 726 (0) (ρ' 3)) 173 23) (ay_at (ax_upd hp 726 (0) (ρ' 3)) 173 25) (ay_at (ax_upd hp 726 (0) (ρ' 3)) 173 24) (ay_at (ax_upd hp 726 (0) (ρ' 3)) 173 18) (ay_at (ax_upd hp 726 (0) (ρ' 3)) 173 19) (ay_at (ax_upd hp 726 (0) (ρ' 3)) 181)
      rw [q0, q3, h2]
      obtain ⟨o0, ho0⟩ := ay_some hT (q := 179) (g := 49) (n := 2) (ax_wc ax_WW1 ax_cg_179) (ax_wn ax_WW1 ax_cn_49) (j := 0 / 4) (by decide)
      have u1 : ∀ q, q ≠ 179 → ay_at (ax_upd hp 726 0 (ρ 3)) q = ay_at hp q := fun q hq => funext (fun j => ay_upd_ne hT.1 hq j)
      have u2 : ∀ j, ay_at (ax_upd hp 726 0 (ρ 3)) 179 j = if j = 0 then some (ρ 3) else ay_at hp 179 j := fun j => ay_upd_eq hT.1 rfl ho0 j
      refine ⟨ay_ex_upd hT.1 (ax_cellT hT (q := 175) (g := 45) (ax_wc ax_WW1 ax_cg_175)), ay_ex_upd hT.1 (ax_cellT hT (q := 176) (g := 46) (ax_wc ax_WW1 ax_cg_176)), ay_ex_upd hT.1 (ax_cellT hT (q := 177) (g := 47) (ax_wc ax_WW1 ax_cg_177)), ay_ex_upd hT.1 (ax_cellT hT (q := 178) (g := 48) (ax_wc ax_WW1 ax_cg_178)), ay_ex_upd hT.1 (ax_cellT hT (q := 179) (g := 49) (ax_wc ax_WW1 ax_cg_179)), ay_ex_upd hT.1 (ax_cellT hT (q := 173) (g := 11) (ax_wc ax_WW1 ax_cg_173)), ay_ex_upd hT.1 (ax_cellT hT (q := 173) (g := 11) (ax_wc ax_WW1 ax_cg_173)), ay_ex_upd hT.1 (ax_cellT hT (q := 173) (g := 11) (ax_wc ax_WW1 ax_cg_173)), ay_ex_upd hT.1 (ax_cellT hT (q := 173) (g := 11) (ax_wc ax_WW1 ax_cg_173)), ay_ex_upd hT.1 (ax_cellT hT (q := 173) (g := 11) (ax_wc ax_WW1 ax_cg_173)), ay_ex_upd hT.1 (ax_cellT hT (q := 181) (g := 51) (ax_wc ax_WW1 ax_cg_181)), ?_⟩
      rw [u1 175 (by decide), u1 176 (by decide), u1 177 (by decide), u1 178 (by decide), u2 0, if_pos rfl, u1 173 (by decide), u1 181 (by decide)]
      refine pz_l152 (pz_41 _) ?_
      show pz_dt _ _ _ _ _ (ρ 3 / 4) _ _ _ _ _ _ _
      rw [show ρ 3 / 4 = ρ 4 / 4 + 1 by omega]
      exact st.1.2
    rcases List.mem_cons.mp hx with e | hx
    · subst e
      refine (ax_XF_lt (x := 153) (by decide)).mpr ?_
      show ay_ex hp 173 ∧ pz_at (pz_gt (ρ' 0)) (pz_gN (ρ' 0)) (ay_ln (ay_at hp 173 13)) = pz_at (pz_gt (ρ' 0)) (pz_gN (ρ' 0)) (pz_p (pz_cF (ρ' 0) (ρ' 6)))
      rw [q0, h2]
      refine ⟨(ax_cellT hT (q := 173) (g := 11) (ax_wc ax_WW1 ax_cg_173)), ?_⟩
      exact pz_l153 (pz_41 _) st.1.1
    rcases List.mem_cons.mp hx with e | hx
    · subst e
      refine (ax_XF_lt (x := 182) (by decide)).mpr ?_
      show (ρ' 6) / 4 = (ρ' 1) / 4 + 1
      rw [q1, h2]
      rw [pz_41]
    rcases List.mem_cons.mp hx with e | hx
    · subst e
      refine (ax_XF_lt (x := 178) (by decide)).mpr ?_
      show pz7 (pz_gt (ρ' 0)) (pz_gN (ρ' 0)) ((ρ' 6) / 4) 8
      rw [q0, h2]
      rw [pz_41]
      exact st.2.1
    cases List.mem_singleton.mp hx
    refine (ax_XF_lt (x := 188) (by decide)).mpr ?_
    show (pz90 (pz_gt (ρ' 0)) (pz_gN (ρ' 0)) ((ρ' 6) / 4) (2 * ((ρ' 2) / 4) + 1) ∧ 1 ≤ (ρ' 2) / 4)
    rw [q0, q2, h2]
    exact ⟨pz_l197 (pz_41 _) st.2.2, F190.2⟩)
  exact ⟨(fun y hy => by cases hy), _, List.mem_cons_self, ρ', h1, h2⟩

theorem axq1_mu6_1 : ax_RO ax_wM1 (ax_XM 1) axu1_mu6_1 := by
  intro ρ hp hE hT
  have j0 : ρ 0 % 4 = 1 := pz_gj hE 0 (by decide) rfl
  have j1 : ρ 1 % 4 = 1 := pz_gj hE 1 (by decide) rfl
  have j2 : ρ 2 % 4 = 1 := pz_gj hE 2 (by decide) rfl
  obtain ⟨i3a, i3b, i3c, i3d⟩ := pz_gi hE 3 0 4294967295 (by decide) rfl
  obtain ⟨i4a, i4b, i4c, i4d⟩ := pz_gi hE 4 2147483648 2147483687 (by decide) rfl
  obtain ⟨i5a, i5b, i5c, i5d⟩ := pz_gi hE 5 2147483648 2147483653 (by decide) rfl
  have c_deep : ay_at hp 173 28 = some (ρ 5) := ay_gfj hE 702 112 23 173 28 (by decide) (by rw [ax_vl_c (by decide)]) (by rw [ax_vl_c (by decide)])
  have c_units : ay_at hp 179 0 = some (ρ 4) := ay_gfj hE 726 0 19 179 0 (by decide) (by rw [ax_vl_c (by decide)]) (by rw [ax_vl_c (by decide)])
  have s1 : (ρ 4 / 4 + 2147483648) % 4294967296 + (4 / 4 + 2147483648) % 4294967296 = (ρ 3 / 4 + 2147483648) % 4294967296 + 2147483648 := pz_gs hE 19 4 15 (by decide)
  obtain ⟨-, -, -, -, -, F151⟩ : ay_ex hp 173 ∧ ay_ex hp 173 ∧ ay_ex hp 173 ∧ ay_ex hp 173 ∧ ay_ex hp 173 ∧ pz_y151 (ρ 0) (ρ 1) (ay_at hp 173 13) (ay_at hp 173 14) (ay_at hp 173 15) (ay_at hp 173 16) (ay_at hp 173 17) := (ax_XF_lt (by decide)).mp (ax_gx hE (151, [3, 7]) (by decide))
  obtain ⟨-, -, -, -, -, -, -, -, -, -, -, F152⟩ : ay_ex hp 175 ∧ ay_ex hp 176 ∧ ay_ex hp 177 ∧ ay_ex hp 178 ∧ ay_ex hp 179 ∧ ay_ex hp 173 ∧ ay_ex hp 173 ∧ ay_ex hp 173 ∧ ay_ex hp 173 ∧ ay_ex hp 173 ∧ ay_ex hp 181 ∧ pz_y152 0 (ρ 0) (ρ 1) (ay_at hp 175 0) (ay_at hp 176 0) (ay_at hp 177 0) (ay_at hp 178 0) (ay_at hp 179 0) (ay_at hp 173 23) (ay_at hp 173 25) (ay_at hp 173 24) (ay_at hp 173 18) (ay_at hp 173 19) (ay_at hp 181) := (ax_XF_lt (by decide)).mp (ax_gx hE (152, [3, 7]) (by decide))
  rw [c_units] at F152
  have F178 : pz7 (pz_gt (ρ 0)) (pz_gN (ρ 0)) ((ρ 1) / 4) 8 := (ax_XF_lt (by decide)).mp (ax_gx hE (178, [3, 7]) (by decide))
  have F207 : pz107 (pz_gt (ρ 0)) (pz_gN (ρ 0)) ((ρ 1) / 4) ((4) / 4) := (ax_XF_lt (by decide)).mp (ax_gx hE (207, [3, 7, 4]) (by decide))
  have F190 : (pz90 (pz_gt (ρ 0)) (pz_gN (ρ 0)) ((ρ 1) / 4) ((ρ 2) / 4) ∧ 1 ≤ (ρ 2) / 4) := (ax_XF_lt (by decide)).mp (ax_gx hE (190, [3, 7, 11]) (by decide))
  obtain ⟨-, F195⟩ : ay_ex hp 173 ∧ ay_ln (ay_at hp 173 28) = pz_dp ((ρ 2) / 4) := (ax_XF_lt (by decide)).mp (ax_gx hE (195, [11]) (by decide))
  rw [c_deep] at F195
  have hd : ρ 5 / 4 = pz_dp (ρ 2 / 4) := F195
  have st := pq_ru6u (pz_m50 F151 F152) F178 F207 (by decide) (by decide) F190.1 (by omega) (show ρ 4 / 4 ≤ 39 by omega)
  obtain ⟨ρ', h1, h2⟩ := pz_pn1 (K := ρ 1 / 4 + 1) (xf := [(652, [726, 0, 15, 3, 27]), (153, [3, 27]), (182, [7, 27]), (179, [3, 27]), (197, [3, 27, 11])]) hE (by decide) (fun ρ' h1 h2 x hx => by
    have q0 : ρ' 0 = ρ 0 := h1 0 (by decide)
    have q1 : ρ' 1 = ρ 1 := h1 1 (by decide)
    have q2 : ρ' 2 = ρ 2 := h1 2 (by decide)
    have q3 : ρ' 3 = ρ 3 := h1 3 (by decide)
    have q4 : ρ' 4 = ρ 4 := h1 4 (by decide)
    have q5 : ρ' 5 = ρ 5 := h1 5 (by decide)
    rcases List.mem_cons.mp hx with e | hx
    · subst e
      refine (ax_XF_wr (x := 152) (by decide)).mpr ?_
      show ay_ex (ax_upd hp 726 (0) (ρ' 3)) 175 ∧ ay_ex (ax_upd hp 726 (0) (ρ' 3)) 176 ∧ ay_ex (ax_upd hp 726 (0) (ρ' 3)) 177 ∧ ay_ex (ax_upd hp 726 (0) (ρ' 3)) 178 ∧ ay_ex (ax_upd hp 726 (0) (ρ' 3)) 179 ∧ ay_ex (ax_upd hp 726 (0) (ρ' 3)) 173 ∧ ay_ex (ax_upd hp 726 (0) (ρ' 3)) 173 ∧ ay_ex (ax_upd hp 726 (0) (ρ' 3)) 173 ∧ ay_ex (ax_upd hp 726 (0) (ρ' 3)) 173 ∧ ay_ex (ax_upd hp 726 (0) (ρ' 3)) 173 ∧ ay_ex (ax_upd hp 726 (0) (ρ' 3)) 181 ∧ pz_y152 0 (ρ' 0) (ρ' 6) (ay_at (ax_upd hp 726 (0) (ρ' 3)) 175 0) (ay_at (ax_upd hp 726 (0) (ρ' 3)) 176 0) (ay_at (ax_upd hp 726 (0) (ρ' 3)) 177 0) (ay_at (ax_upd hp 726 (0) (ρ' 3)) 178 0) (ay_at (ax_upd hp 726 (0) (ρ' 3)) 179 0) (ay_at (ax_upd hp 726 (0) (ρ' 3)) 173 23) (ay_at (ax_upd hp 726 (0) (ρ' 3)) 173 25) (ay_at (ax_upd hp 726 (0) (ρ' 3)) 173 24) (ay_at (ax_upd hp 726 (0) (ρ' 3)) 173 18) (ay_at (ax_upd hp 726 (0) (ρ' 3)) 173 19) (ay_at (ax_upd hp 726 (0) (ρ' 3)) 181)
      rw [q0, q3, h2]
      obtain ⟨o0, ho0⟩ := ay_some hT (q := 179) (g := 49) (n := 2) (ax_wc ax_WW1 ax_cg_179) (ax_wn ax_WW1 ax_cn_49) (j := 0 / 4) (by decide)
      have u1 : ∀ q, q ≠ 179 → ay_at (ax_upd hp 726 0 (ρ 3)) q = ay_at hp q := fun q hq => funext (fun j => ay_upd_ne hT.1 hq j)
      have u2 : ∀ j, ay_at (ax_upd hp 726 0 (ρ 3)) 179 j = if j = 0 then some (ρ 3) else ay_at hp 179 j := fun j => ay_upd_eq hT.1 rfl ho0 j
      refine ⟨ay_ex_upd hT.1 (ax_cellT hT (q := 175) (g := 45) (ax_wc ax_WW1 ax_cg_175)), ay_ex_upd hT.1 (ax_cellT hT (q := 176) (g := 46) (ax_wc ax_WW1 ax_cg_176)), ay_ex_upd hT.1 (ax_cellT hT (q := 177) (g := 47) (ax_wc ax_WW1 ax_cg_177)), ay_ex_upd hT.1 (ax_cellT hT (q := 178) (g := 48) (ax_wc ax_WW1 ax_cg_178)), ay_ex_upd hT.1 (ax_cellT hT (q := 179) (g := 49) (ax_wc ax_WW1 ax_cg_179)), ay_ex_upd hT.1 (ax_cellT hT (q := 173) (g := 11) (ax_wc ax_WW1 ax_cg_173)), ay_ex_upd hT.1 (ax_cellT hT (q := 173) (g := 11) (ax_wc ax_WW1 ax_cg_173)), ay_ex_upd hT.1 (ax_cellT hT (q := 173) (g := 11) (ax_wc ax_WW1 ax_cg_173)), ay_ex_upd hT.1 (ax_cellT hT (q := 173) (g := 11) (ax_wc ax_WW1 ax_cg_173)), ay_ex_upd hT.1 (ax_cellT hT (q := 173) (g := 11) (ax_wc ax_WW1 ax_cg_173)), ay_ex_upd hT.1 (ax_cellT hT (q := 181) (g := 51) (ax_wc ax_WW1 ax_cg_181)), ?_⟩
      rw [u1 175 (by decide), u1 176 (by decide), u1 177 (by decide), u1 178 (by decide), u2 0, if_pos rfl, u1 173 (by decide), u1 181 (by decide)]
      refine pz_l152 (pz_41 _) ?_
      show pz_dt _ _ _ _ _ (ρ 3 / 4) _ _ _ _ _ _ _
      rw [show ρ 3 / 4 = ρ 4 / 4 + 1 by omega]
      exact st.1.2
    rcases List.mem_cons.mp hx with e | hx
    · subst e
      refine (ax_XF_lt (x := 153) (by decide)).mpr ?_
      show ay_ex hp 173 ∧ pz_at (pz_gt (ρ' 0)) (pz_gN (ρ' 0)) (ay_ln (ay_at hp 173 13)) = pz_at (pz_gt (ρ' 0)) (pz_gN (ρ' 0)) (pz_p (pz_cF (ρ' 0) (ρ' 6)))
      rw [q0, h2]
      refine ⟨(ax_cellT hT (q := 173) (g := 11) (ax_wc ax_WW1 ax_cg_173)), ?_⟩
      exact pz_l153 (pz_41 _) st.1.1
    rcases List.mem_cons.mp hx with e | hx
    · subst e
      refine (ax_XF_lt (x := 182) (by decide)).mpr ?_
      show (ρ' 6) / 4 = (ρ' 1) / 4 + 1
      rw [q1, h2]
      rw [pz_41]
    rcases List.mem_cons.mp hx with e | hx
    · subst e
      refine (ax_XF_lt (x := 179) (by decide)).mpr ?_
      show pz7 (pz_gt (ρ' 0)) (pz_gN (ρ' 0)) ((ρ' 6) / 4) 9
      rw [q0, h2]
      rw [pz_41]
      exact st.2.1
    cases List.mem_singleton.mp hx
    refine (ax_XF_lt (x := 197) (by decide)).mpr ?_
    show (pz90 (pz_gt (ρ' 0)) (pz_gN (ρ' 0)) ((ρ' 6) / 4) (pz_strip ((ρ' 2) / 4)) ∧ 1 ≤ (ρ' 2) / 4)
    rw [q0, q2, h2]
    exact ⟨pz_l197 (pz_41 _) st.2.2, F190.2⟩)
  exact ⟨(fun y hy => by cases hy), _, List.mem_cons_self, ρ', h1, h2⟩

theorem axq1_mu6_2 : ax_RO ax_wM1 (ax_XM 1) axu1_mu6_2 := by
  intro ρ hp hE hT
  have j0 : ρ 0 % 4 = 1 := pz_gj hE 0 (by decide) rfl
  have j1 : ρ 1 % 4 = 1 := pz_gj hE 1 (by decide) rfl
  have j2 : ρ 2 % 4 = 1 := pz_gj hE 2 (by decide) rfl
  obtain ⟨i3a, i3b, i3c, i3d⟩ := pz_gi hE 3 0 4294967295 (by decide) rfl
  obtain ⟨i4a, i4b, i4c, i4d⟩ := pz_gi hE 4 2147483648 2147483687 (by decide) rfl
  obtain ⟨i5a, i5b, i5c, i5d⟩ := pz_gi hE 5 2147483648 2147483653 (by decide) rfl
  have c_deep : ay_at hp 173 28 = some (ρ 5) := ay_gfj hE 702 112 23 173 28 (by decide) (by rw [ax_vl_c (by decide)]) (by rw [ax_vl_c (by decide)])
  have c_units : ay_at hp 179 0 = some (ρ 4) := ay_gfj hE 726 0 19 179 0 (by decide) (by rw [ax_vl_c (by decide)]) (by rw [ax_vl_c (by decide)])
  have s1 : (ρ 4 / 4 + 2147483648) % 4294967296 + (4 / 4 + 2147483648) % 4294967296 = (ρ 3 / 4 + 2147483648) % 4294967296 + 2147483648 := pz_gs hE 19 4 15 (by decide)
  obtain ⟨-, -, -, -, -, F151⟩ : ay_ex hp 173 ∧ ay_ex hp 173 ∧ ay_ex hp 173 ∧ ay_ex hp 173 ∧ ay_ex hp 173 ∧ pz_y151 (ρ 0) (ρ 1) (ay_at hp 173 13) (ay_at hp 173 14) (ay_at hp 173 15) (ay_at hp 173 16) (ay_at hp 173 17) := (ax_XF_lt (by decide)).mp (ax_gx hE (151, [3, 7]) (by decide))
  obtain ⟨-, -, -, -, -, -, -, -, -, -, -, F152⟩ : ay_ex hp 175 ∧ ay_ex hp 176 ∧ ay_ex hp 177 ∧ ay_ex hp 178 ∧ ay_ex hp 179 ∧ ay_ex hp 173 ∧ ay_ex hp 173 ∧ ay_ex hp 173 ∧ ay_ex hp 173 ∧ ay_ex hp 173 ∧ ay_ex hp 181 ∧ pz_y152 0 (ρ 0) (ρ 1) (ay_at hp 175 0) (ay_at hp 176 0) (ay_at hp 177 0) (ay_at hp 178 0) (ay_at hp 179 0) (ay_at hp 173 23) (ay_at hp 173 25) (ay_at hp 173 24) (ay_at hp 173 18) (ay_at hp 173 19) (ay_at hp 181) := (ax_XF_lt (by decide)).mp (ax_gx hE (152, [3, 7]) (by decide))
  rw [c_units] at F152
  have F178 : pz7 (pz_gt (ρ 0)) (pz_gN (ρ 0)) ((ρ 1) / 4) 8 := (ax_XF_lt (by decide)).mp (ax_gx hE (178, [3, 7]) (by decide))
  have F207 : pz107 (pz_gt (ρ 0)) (pz_gN (ρ 0)) ((ρ 1) / 4) ((8) / 4) := (ax_XF_lt (by decide)).mp (ax_gx hE (207, [3, 7, 8]) (by decide))
  have F190 : (pz90 (pz_gt (ρ 0)) (pz_gN (ρ 0)) ((ρ 1) / 4) ((ρ 2) / 4) ∧ 1 ≤ (ρ 2) / 4) := (ax_XF_lt (by decide)).mp (ax_gx hE (190, [3, 7, 11]) (by decide))
  obtain ⟨-, F195⟩ : ay_ex hp 173 ∧ ay_ln (ay_at hp 173 28) = pz_dp ((ρ 2) / 4) := (ax_XF_lt (by decide)).mp (ax_gx hE (195, [11]) (by decide))
  rw [c_deep] at F195
  have hd : ρ 5 / 4 = pz_dp (ρ 2 / 4) := F195
  have st := pq_ru6u (pz_m50 F151 F152) F178 F207 (by decide) (by decide) F190.1 (by omega) (show ρ 4 / 4 ≤ 39 by omega)
  obtain ⟨ρ', h1, h2⟩ := pz_pn1 (K := ρ 1 / 4 + 1) (xf := [(652, [726, 0, 15, 3, 27]), (153, [3, 27]), (182, [7, 27]), (179, [3, 27]), (197, [3, 27, 11])]) hE (by decide) (fun ρ' h1 h2 x hx => by
    have q0 : ρ' 0 = ρ 0 := h1 0 (by decide)
    have q1 : ρ' 1 = ρ 1 := h1 1 (by decide)
    have q2 : ρ' 2 = ρ 2 := h1 2 (by decide)
    have q3 : ρ' 3 = ρ 3 := h1 3 (by decide)
    have q4 : ρ' 4 = ρ 4 := h1 4 (by decide)
    have q5 : ρ' 5 = ρ 5 := h1 5 (by decide)
    rcases List.mem_cons.mp hx with e | hx
    · subst e
      refine (ax_XF_wr (x := 152) (by decide)).mpr ?_
      show ay_ex (ax_upd hp 726 (0) (ρ' 3)) 175 ∧ ay_ex (ax_upd hp 726 (0) (ρ' 3)) 176 ∧ ay_ex (ax_upd hp 726 (0) (ρ' 3)) 177 ∧ ay_ex (ax_upd hp 726 (0) (ρ' 3)) 178 ∧ ay_ex (ax_upd hp 726 (0) (ρ' 3)) 179 ∧ ay_ex (ax_upd hp 726 (0) (ρ' 3)) 173 ∧ ay_ex (ax_upd hp 726 (0) (ρ' 3)) 173 ∧ ay_ex (ax_upd hp 726 (0) (ρ' 3)) 173 ∧ ay_ex (ax_upd hp 726 (0) (ρ' 3)) 173 ∧ ay_ex (ax_upd hp 726 (0) (ρ' 3)) 173 ∧ ay_ex (ax_upd hp 726 (0) (ρ' 3)) 181 ∧ pz_y152 0 (ρ' 0) (ρ' 6) (ay_at (ax_upd hp 726 (0) (ρ' 3)) 175 0) (ay_at (ax_upd hp 726 (0) (ρ' 3)) 176 0) (ay_at (ax_upd hp 726 (0) (ρ' 3)) 177 0) (ay_at (ax_upd hp 726 (0) (ρ' 3)) 178 0) (ay_at (ax_upd hp 726 (0) (ρ' 3)) 179 0) (ay_at (ax_upd hp 726 (0) (ρ' 3)) 173 23) (ay_at (ax_upd hp 726 (0) (ρ' 3)) 173 25) (ay_at (ax_upd hp 726 (0) (ρ' 3)) 173 24) (ay_at (ax_upd hp 726 (0) (ρ' 3)) 173 18) (ay_at (ax_upd hp 726 (0) (ρ' 3)) 173 19) (ay_at (ax_upd hp 726 (0) (ρ' 3)) 181)
      rw [q0, q3, h2]
      obtain ⟨o0, ho0⟩ := ay_some hT (q := 179) (g := 49) (n := 2) (ax_wc ax_WW1 ax_cg_179) (ax_wn ax_WW1 ax_cn_49) (j := 0 / 4) (by decide)
      have u1 : ∀ q, q ≠ 179 → ay_at (ax_upd hp 726 0 (ρ 3)) q = ay_at hp q := fun q hq => funext (fun j => ay_upd_ne hT.1 hq j)
      have u2 : ∀ j, ay_at (ax_upd hp 726 0 (ρ 3)) 179 j = if j = 0 then some (ρ 3) else ay_at hp 179 j := fun j => ay_upd_eq hT.1 rfl ho0 j
      refine ⟨ay_ex_upd hT.1 (ax_cellT hT (q := 175) (g := 45) (ax_wc ax_WW1 ax_cg_175)), ay_ex_upd hT.1 (ax_cellT hT (q := 176) (g := 46) (ax_wc ax_WW1 ax_cg_176)), ay_ex_upd hT.1 (ax_cellT hT (q := 177) (g := 47) (ax_wc ax_WW1 ax_cg_177)), ay_ex_upd hT.1 (ax_cellT hT (q := 178) (g := 48) (ax_wc ax_WW1 ax_cg_178)), ay_ex_upd hT.1 (ax_cellT hT (q := 179) (g := 49) (ax_wc ax_WW1 ax_cg_179)), ay_ex_upd hT.1 (ax_cellT hT (q := 173) (g := 11) (ax_wc ax_WW1 ax_cg_173)), ay_ex_upd hT.1 (ax_cellT hT (q := 173) (g := 11) (ax_wc ax_WW1 ax_cg_173)), ay_ex_upd hT.1 (ax_cellT hT (q := 173) (g := 11) (ax_wc ax_WW1 ax_cg_173)), ay_ex_upd hT.1 (ax_cellT hT (q := 173) (g := 11) (ax_wc ax_WW1 ax_cg_173)), ay_ex_upd hT.1 (ax_cellT hT (q := 173) (g := 11) (ax_wc ax_WW1 ax_cg_173)), ay_ex_upd hT.1 (ax_cellT hT (q := 181) (g := 51) (ax_wc ax_WW1 ax_cg_181)), ?_⟩
      rw [u1 175 (by decide), u1 176 (by decide), u1 177 (by decide), u1 178 (by decide), u2 0, if_pos rfl, u1 173 (by decide), u1 181 (by decide)]
      refine pz_l152 (pz_41 _) ?_
      show pz_dt _ _ _ _ _ (ρ 3 / 4) _ _ _ _ _ _ _
      rw [show ρ 3 / 4 = ρ 4 / 4 + 1 by omega]
      exact st.1.2
    rcases List.mem_cons.mp hx with e | hx
    · subst e
      refine (ax_XF_lt (x := 153) (by decide)).mpr ?_
      show ay_ex hp 173 ∧ pz_at (pz_gt (ρ' 0)) (pz_gN (ρ' 0)) (ay_ln (ay_at hp 173 13)) = pz_at (pz_gt (ρ' 0)) (pz_gN (ρ' 0)) (pz_p (pz_cF (ρ' 0) (ρ' 6)))
      rw [q0, h2]
      refine ⟨(ax_cellT hT (q := 173) (g := 11) (ax_wc ax_WW1 ax_cg_173)), ?_⟩
      exact pz_l153 (pz_41 _) st.1.1
    rcases List.mem_cons.mp hx with e | hx
    · subst e
      refine (ax_XF_lt (x := 182) (by decide)).mpr ?_
      show (ρ' 6) / 4 = (ρ' 1) / 4 + 1
      rw [q1, h2]
      rw [pz_41]
    rcases List.mem_cons.mp hx with e | hx
    · subst e
      refine (ax_XF_lt (x := 179) (by decide)).mpr ?_
      show pz7 (pz_gt (ρ' 0)) (pz_gN (ρ' 0)) ((ρ' 6) / 4) 9
      rw [q0, h2]
      rw [pz_41]
      exact st.2.1
    cases List.mem_singleton.mp hx
    refine (ax_XF_lt (x := 197) (by decide)).mpr ?_
    show (pz90 (pz_gt (ρ' 0)) (pz_gN (ρ' 0)) ((ρ' 6) / 4) (pz_strip ((ρ' 2) / 4)) ∧ 1 ≤ (ρ' 2) / 4)
    rw [q0, q2, h2]
    exact ⟨pz_l197 (pz_41 _) st.2.2, F190.2⟩)
  exact ⟨(fun y hy => by cases hy), _, List.mem_cons_self, ρ', h1, h2⟩

theorem axq1_mu6_3 : ax_RO ax_wM1 (ax_XM 1) axu1_mu6_3 := by
  intro ρ hp hE hT
  have j0 : ρ 0 % 4 = 1 := pz_gj hE 0 (by decide) rfl
  have j1 : ρ 1 % 4 = 1 := pz_gj hE 1 (by decide) rfl
  have j2 : ρ 2 % 4 = 1 := pz_gj hE 2 (by decide) rfl
  obtain ⟨i3a, i3b, i3c, i3d⟩ := pz_gi hE 3 0 4294967295 (by decide) rfl
  obtain ⟨i4a, i4b, i4c, i4d⟩ := pz_gi hE 4 2147483648 2147483687 (by decide) rfl
  obtain ⟨i5a, i5b, i5c, i5d⟩ := pz_gi hE 5 2147483648 2147483653 (by decide) rfl
  have c_deep : ay_at hp 173 28 = some (ρ 5) := ay_gfj hE 702 112 23 173 28 (by decide) (by rw [ax_vl_c (by decide)]) (by rw [ax_vl_c (by decide)])
  have c_units : ay_at hp 179 0 = some (ρ 4) := ay_gfj hE 726 0 19 179 0 (by decide) (by rw [ax_vl_c (by decide)]) (by rw [ax_vl_c (by decide)])
  have s1 : (ρ 4 / 4 + 2147483648) % 4294967296 + (4 / 4 + 2147483648) % 4294967296 = (ρ 3 / 4 + 2147483648) % 4294967296 + 2147483648 := pz_gs hE 19 4 15 (by decide)
  obtain ⟨-, -, -, -, -, F151⟩ : ay_ex hp 173 ∧ ay_ex hp 173 ∧ ay_ex hp 173 ∧ ay_ex hp 173 ∧ ay_ex hp 173 ∧ pz_y151 (ρ 0) (ρ 1) (ay_at hp 173 13) (ay_at hp 173 14) (ay_at hp 173 15) (ay_at hp 173 16) (ay_at hp 173 17) := (ax_XF_lt (by decide)).mp (ax_gx hE (151, [3, 7]) (by decide))
  obtain ⟨-, -, -, -, -, -, -, -, -, -, -, F152⟩ : ay_ex hp 175 ∧ ay_ex hp 176 ∧ ay_ex hp 177 ∧ ay_ex hp 178 ∧ ay_ex hp 179 ∧ ay_ex hp 173 ∧ ay_ex hp 173 ∧ ay_ex hp 173 ∧ ay_ex hp 173 ∧ ay_ex hp 173 ∧ ay_ex hp 181 ∧ pz_y152 0 (ρ 0) (ρ 1) (ay_at hp 175 0) (ay_at hp 176 0) (ay_at hp 177 0) (ay_at hp 178 0) (ay_at hp 179 0) (ay_at hp 173 23) (ay_at hp 173 25) (ay_at hp 173 24) (ay_at hp 173 18) (ay_at hp 173 19) (ay_at hp 181) := (ax_XF_lt (by decide)).mp (ax_gx hE (152, [3, 7]) (by decide))
  rw [c_units] at F152
  have F178 : pz7 (pz_gt (ρ 0)) (pz_gN (ρ 0)) ((ρ 1) / 4) 8 := (ax_XF_lt (by decide)).mp (ax_gx hE (178, [3, 7]) (by decide))
  have F207 : pz107 (pz_gt (ρ 0)) (pz_gN (ρ 0)) ((ρ 1) / 4) ((12) / 4) := (ax_XF_lt (by decide)).mp (ax_gx hE (207, [3, 7, 12]) (by decide))
  have F190 : (pz90 (pz_gt (ρ 0)) (pz_gN (ρ 0)) ((ρ 1) / 4) ((ρ 2) / 4) ∧ 1 ≤ (ρ 2) / 4) := (ax_XF_lt (by decide)).mp (ax_gx hE (190, [3, 7, 11]) (by decide))
  obtain ⟨-, F195⟩ : ay_ex hp 173 ∧ ay_ln (ay_at hp 173 28) = pz_dp ((ρ 2) / 4) := (ax_XF_lt (by decide)).mp (ax_gx hE (195, [11]) (by decide))
  rw [c_deep] at F195
  have hd : ρ 5 / 4 = pz_dp (ρ 2 / 4) := F195
  have st := pq_ru6u (pz_m50 F151 F152) F178 F207 (by decide) (by decide) F190.1 (by omega) (show ρ 4 / 4 ≤ 39 by omega)
  obtain ⟨ρ', h1, h2⟩ := pz_pn1 (K := ρ 1 / 4 + 1) (xf := [(652, [726, 0, 15, 3, 27]), (153, [3, 27]), (182, [7, 27]), (179, [3, 27]), (197, [3, 27, 11])]) hE (by decide) (fun ρ' h1 h2 x hx => by
    have q0 : ρ' 0 = ρ 0 := h1 0 (by decide)
    have q1 : ρ' 1 = ρ 1 := h1 1 (by decide)
    have q2 : ρ' 2 = ρ 2 := h1 2 (by decide)
    have q3 : ρ' 3 = ρ 3 := h1 3 (by decide)
    have q4 : ρ' 4 = ρ 4 := h1 4 (by decide)
    have q5 : ρ' 5 = ρ 5 := h1 5 (by decide)
    rcases List.mem_cons.mp hx with e | hx
    · subst e
      refine (ax_XF_wr (x := 152) (by decide)).mpr ?_
      show ay_ex (ax_upd hp 726 (0) (ρ' 3)) 175 ∧ ay_ex (ax_upd hp 726 (0) (ρ' 3)) 176 ∧ ay_ex (ax_upd hp 726 (0) (ρ' 3)) 177 ∧ ay_ex (ax_upd hp 726 (0) (ρ' 3)) 178 ∧ ay_ex (ax_upd hp 726 (0) (ρ' 3)) 179 ∧ ay_ex (ax_upd hp 726 (0) (ρ' 3)) 173 ∧ ay_ex (ax_upd hp 726 (0) (ρ' 3)) 173 ∧ ay_ex (ax_upd hp 726 (0) (ρ' 3)) 173 ∧ ay_ex (ax_upd hp 726 (0) (ρ' 3)) 173 ∧ ay_ex (ax_upd hp 726 (0) (ρ' 3)) 173 ∧ ay_ex (ax_upd hp 726 (0) (ρ' 3)) 181 ∧ pz_y152 0 (ρ' 0) (ρ' 6) (ay_at (ax_upd hp 726 (0) (ρ' 3)) 175 0) (ay_at (ax_upd hp 726 (0) (ρ' 3)) 176 0) (ay_at (ax_upd hp 726 (0) (ρ' 3)) 177 0) (ay_at (ax_upd hp 726 (0) (ρ' 3)) 178 0) (ay_at (ax_upd hp 726 (0) (ρ' 3)) 179 0) (ay_at (ax_upd hp 726 (0) (ρ' 3)) 173 23) (ay_at (ax_upd hp 726 (0) (ρ' 3)) 173 25) (ay_at (ax_upd hp 726 (0) (ρ' 3)) 173 24) (ay_at (ax_upd hp 726 (0) (ρ' 3)) 173 18) (ay_at (ax_upd hp 726 (0) (ρ' 3)) 173 19) (ay_at (ax_upd hp 726 (0) (ρ' 3)) 181)
      rw [q0, q3, h2]
      obtain ⟨o0, ho0⟩ := ay_some hT (q := 179) (g := 49) (n := 2) (ax_wc ax_WW1 ax_cg_179) (ax_wn ax_WW1 ax_cn_49) (j := 0 / 4) (by decide)
      have u1 : ∀ q, q ≠ 179 → ay_at (ax_upd hp 726 0 (ρ 3)) q = ay_at hp q := fun q hq => funext (fun j => ay_upd_ne hT.1 hq j)
      have u2 : ∀ j, ay_at (ax_upd hp 726 0 (ρ 3)) 179 j = if j = 0 then some (ρ 3) else ay_at hp 179 j := fun j => ay_upd_eq hT.1 rfl ho0 j
      refine ⟨ay_ex_upd hT.1 (ax_cellT hT (q := 175) (g := 45) (ax_wc ax_WW1 ax_cg_175)), ay_ex_upd hT.1 (ax_cellT hT (q := 176) (g := 46) (ax_wc ax_WW1 ax_cg_176)), ay_ex_upd hT.1 (ax_cellT hT (q := 177) (g := 47) (ax_wc ax_WW1 ax_cg_177)), ay_ex_upd hT.1 (ax_cellT hT (q := 178) (g := 48) (ax_wc ax_WW1 ax_cg_178)), ay_ex_upd hT.1 (ax_cellT hT (q := 179) (g := 49) (ax_wc ax_WW1 ax_cg_179)), ay_ex_upd hT.1 (ax_cellT hT (q := 173) (g := 11) (ax_wc ax_WW1 ax_cg_173)), ay_ex_upd hT.1 (ax_cellT hT (q := 173) (g := 11) (ax_wc ax_WW1 ax_cg_173)), ay_ex_upd hT.1 (ax_cellT hT (q := 173) (g := 11) (ax_wc ax_WW1 ax_cg_173)), ay_ex_upd hT.1 (ax_cellT hT (q := 173) (g := 11) (ax_wc ax_WW1 ax_cg_173)), ay_ex_upd hT.1 (ax_cellT hT (q := 173) (g := 11) (ax_wc ax_WW1 ax_cg_173)), ay_ex_upd hT.1 (ax_cellT hT (q := 181) (g := 51) (ax_wc ax_WW1 ax_cg_181)), ?_⟩
      rw [u1 175 (by decide), u1 176 (by decide), u1 177 (by decide), u1 178 (by decide), u2 0, if_pos rfl, u1 173 (by decide), u1 181 (by decide)]
      refine pz_l152 (pz_41 _) ?_
      show pz_dt _ _ _ _ _ (ρ 3 / 4) _ _ _ _ _ _ _
      rw [show ρ 3 / 4 = ρ 4 / 4 + 1 by omega]
      exact st.1.2
    rcases List.mem_cons.mp hx with e | hx
    · subst e
      refine (ax_XF_lt (x := 153) (by decide)).mpr ?_
      show ay_ex hp 173 ∧ pz_at (pz_gt (ρ' 0)) (pz_gN (ρ' 0)) (ay_ln (ay_at hp 173 13)) = pz_at (pz_gt (ρ' 0)) (pz_gN (ρ' 0)) (pz_p (pz_cF (ρ' 0) (ρ' 6)))
      rw [q0, h2]
      refine ⟨(ax_cellT hT (q := 173) (g := 11) (ax_wc ax_WW1 ax_cg_173)), ?_⟩
      exact pz_l153 (pz_41 _) st.1.1
    rcases List.mem_cons.mp hx with e | hx
    · subst e
      refine (ax_XF_lt (x := 182) (by decide)).mpr ?_
      show (ρ' 6) / 4 = (ρ' 1) / 4 + 1
      rw [q1, h2]
      rw [pz_41]
    rcases List.mem_cons.mp hx with e | hx
    · subst e
      refine (ax_XF_lt (x := 179) (by decide)).mpr ?_
      show pz7 (pz_gt (ρ' 0)) (pz_gN (ρ' 0)) ((ρ' 6) / 4) 9
      rw [q0, h2]
      rw [pz_41]
      exact st.2.1
    cases List.mem_singleton.mp hx
    refine (ax_XF_lt (x := 197) (by decide)).mpr ?_
    show (pz90 (pz_gt (ρ' 0)) (pz_gN (ρ' 0)) ((ρ' 6) / 4) (pz_strip ((ρ' 2) / 4)) ∧ 1 ≤ (ρ' 2) / 4)
    rw [q0, q2, h2]
    exact ⟨pz_l197 (pz_41 _) st.2.2, F190.2⟩)
  exact ⟨(fun y hy => by cases hy), _, List.mem_cons_self, ρ', h1, h2⟩

theorem axq1_mu6_4 : ax_RO ax_wM1 (ax_XM 1) axu1_mu6_4 := by
  intro ρ hp hE hT
  have j0 : ρ 0 % 4 = 1 := pz_gj hE 0 (by decide) rfl
  have j1 : ρ 1 % 4 = 1 := pz_gj hE 1 (by decide) rfl
  have j2 : ρ 2 % 4 = 1 := pz_gj hE 2 (by decide) rfl
  obtain ⟨i3a, i3b, i3c, i3d⟩ := pz_gi hE 3 0 4294967295 (by decide) rfl
  obtain ⟨i4a, i4b, i4c, i4d⟩ := pz_gi hE 4 2147483648 2147483687 (by decide) rfl
  obtain ⟨i5a, i5b, i5c, i5d⟩ := pz_gi hE 5 2147483648 2147483653 (by decide) rfl
  have c_deep : ay_at hp 173 28 = some (ρ 5) := ay_gfj hE 702 112 23 173 28 (by decide) (by rw [ax_vl_c (by decide)]) (by rw [ax_vl_c (by decide)])
  have c_units : ay_at hp 179 0 = some (ρ 4) := ay_gfj hE 726 0 19 179 0 (by decide) (by rw [ax_vl_c (by decide)]) (by rw [ax_vl_c (by decide)])
  have s1 : (ρ 4 / 4 + 2147483648) % 4294967296 + (4 / 4 + 2147483648) % 4294967296 = (ρ 3 / 4 + 2147483648) % 4294967296 + 2147483648 := pz_gs hE 19 4 15 (by decide)
  obtain ⟨-, -, -, -, -, F151⟩ : ay_ex hp 173 ∧ ay_ex hp 173 ∧ ay_ex hp 173 ∧ ay_ex hp 173 ∧ ay_ex hp 173 ∧ pz_y151 (ρ 0) (ρ 1) (ay_at hp 173 13) (ay_at hp 173 14) (ay_at hp 173 15) (ay_at hp 173 16) (ay_at hp 173 17) := (ax_XF_lt (by decide)).mp (ax_gx hE (151, [3, 7]) (by decide))
  obtain ⟨-, -, -, -, -, -, -, -, -, -, -, F152⟩ : ay_ex hp 175 ∧ ay_ex hp 176 ∧ ay_ex hp 177 ∧ ay_ex hp 178 ∧ ay_ex hp 179 ∧ ay_ex hp 173 ∧ ay_ex hp 173 ∧ ay_ex hp 173 ∧ ay_ex hp 173 ∧ ay_ex hp 173 ∧ ay_ex hp 181 ∧ pz_y152 0 (ρ 0) (ρ 1) (ay_at hp 175 0) (ay_at hp 176 0) (ay_at hp 177 0) (ay_at hp 178 0) (ay_at hp 179 0) (ay_at hp 173 23) (ay_at hp 173 25) (ay_at hp 173 24) (ay_at hp 173 18) (ay_at hp 173 19) (ay_at hp 181) := (ax_XF_lt (by decide)).mp (ax_gx hE (152, [3, 7]) (by decide))
  rw [c_units] at F152
  have F178 : pz7 (pz_gt (ρ 0)) (pz_gN (ρ 0)) ((ρ 1) / 4) 8 := (ax_XF_lt (by decide)).mp (ax_gx hE (178, [3, 7]) (by decide))
  have F207 : pz107 (pz_gt (ρ 0)) (pz_gN (ρ 0)) ((ρ 1) / 4) ((16) / 4) := (ax_XF_lt (by decide)).mp (ax_gx hE (207, [3, 7, 16]) (by decide))
  have F190 : (pz90 (pz_gt (ρ 0)) (pz_gN (ρ 0)) ((ρ 1) / 4) ((ρ 2) / 4) ∧ 1 ≤ (ρ 2) / 4) := (ax_XF_lt (by decide)).mp (ax_gx hE (190, [3, 7, 11]) (by decide))
  obtain ⟨-, F195⟩ : ay_ex hp 173 ∧ ay_ln (ay_at hp 173 28) = pz_dp ((ρ 2) / 4) := (ax_XF_lt (by decide)).mp (ax_gx hE (195, [11]) (by decide))
  rw [c_deep] at F195
  have hd : ρ 5 / 4 = pz_dp (ρ 2 / 4) := F195
  have st := pq_ru6u (pz_m50 F151 F152) F178 F207 (by decide) (by decide) F190.1 (by omega) (show ρ 4 / 4 ≤ 39 by omega)
  obtain ⟨ρ', h1, h2⟩ := pz_pn1 (K := ρ 1 / 4 + 1) (xf := [(652, [726, 0, 15, 3, 27]), (153, [3, 27]), (182, [7, 27]), (179, [3, 27]), (197, [3, 27, 11])]) hE (by decide) (fun ρ' h1 h2 x hx => by
    have q0 : ρ' 0 = ρ 0 := h1 0 (by decide)
    have q1 : ρ' 1 = ρ 1 := h1 1 (by decide)
    have q2 : ρ' 2 = ρ 2 := h1 2 (by decide)
    have q3 : ρ' 3 = ρ 3 := h1 3 (by decide)
    have q4 : ρ' 4 = ρ 4 := h1 4 (by decide)
    have q5 : ρ' 5 = ρ 5 := h1 5 (by decide)
    rcases List.mem_cons.mp hx with e | hx
    · subst e
      refine (ax_XF_wr (x := 152) (by decide)).mpr ?_
      show ay_ex (ax_upd hp 726 (0) (ρ' 3)) 175 ∧ ay_ex (ax_upd hp 726 (0) (ρ' 3)) 176 ∧ ay_ex (ax_upd hp 726 (0) (ρ' 3)) 177 ∧ ay_ex (ax_upd hp 726 (0) (ρ' 3)) 178 ∧ ay_ex (ax_upd hp 726 (0) (ρ' 3)) 179 ∧ ay_ex (ax_upd hp 726 (0) (ρ' 3)) 173 ∧ ay_ex (ax_upd hp 726 (0) (ρ' 3)) 173 ∧ ay_ex (ax_upd hp 726 (0) (ρ' 3)) 173 ∧ ay_ex (ax_upd hp 726 (0) (ρ' 3)) 173 ∧ ay_ex (ax_upd hp 726 (0) (ρ' 3)) 173 ∧ ay_ex (ax_upd hp 726 (0) (ρ' 3)) 181 ∧ pz_y152 0 (ρ' 0) (ρ' 6) (ay_at (ax_upd hp 726 (0) (ρ' 3)) 175 0) (ay_at (ax_upd hp 726 (0) (ρ' 3)) 176 0) (ay_at (ax_upd hp 726 (0) (ρ' 3)) 177 0) (ay_at (ax_upd hp 726 (0) (ρ' 3)) 178 0) (ay_at (ax_upd hp 726 (0) (ρ' 3)) 179 0) (ay_at (ax_upd hp 726 (0) (ρ' 3)) 173 23) (ay_at (ax_upd hp 726 (0) (ρ' 3)) 173 25) (ay_at (ax_upd hp 726 (0) (ρ' 3)) 173 24) (ay_at (ax_upd hp 726 (0) (ρ' 3)) 173 18) (ay_at (ax_upd hp 726 (0) (ρ' 3)) 173 19) (ay_at (ax_upd hp 726 (0) (ρ' 3)) 181)
      rw [q0, q3, h2]
      obtain ⟨o0, ho0⟩ := ay_some hT (q := 179) (g := 49) (n := 2) (ax_wc ax_WW1 ax_cg_179) (ax_wn ax_WW1 ax_cn_49) (j := 0 / 4) (by decide)
      have u1 : ∀ q, q ≠ 179 → ay_at (ax_upd hp 726 0 (ρ 3)) q = ay_at hp q := fun q hq => funext (fun j => ay_upd_ne hT.1 hq j)
      have u2 : ∀ j, ay_at (ax_upd hp 726 0 (ρ 3)) 179 j = if j = 0 then some (ρ 3) else ay_at hp 179 j := fun j => ay_upd_eq hT.1 rfl ho0 j
      refine ⟨ay_ex_upd hT.1 (ax_cellT hT (q := 175) (g := 45) (ax_wc ax_WW1 ax_cg_175)), ay_ex_upd hT.1 (ax_cellT hT (q := 176) (g := 46) (ax_wc ax_WW1 ax_cg_176)), ay_ex_upd hT.1 (ax_cellT hT (q := 177) (g := 47) (ax_wc ax_WW1 ax_cg_177)), ay_ex_upd hT.1 (ax_cellT hT (q := 178) (g := 48) (ax_wc ax_WW1 ax_cg_178)), ay_ex_upd hT.1 (ax_cellT hT (q := 179) (g := 49) (ax_wc ax_WW1 ax_cg_179)), ay_ex_upd hT.1 (ax_cellT hT (q := 173) (g := 11) (ax_wc ax_WW1 ax_cg_173)), ay_ex_upd hT.1 (ax_cellT hT (q := 173) (g := 11) (ax_wc ax_WW1 ax_cg_173)), ay_ex_upd hT.1 (ax_cellT hT (q := 173) (g := 11) (ax_wc ax_WW1 ax_cg_173)), ay_ex_upd hT.1 (ax_cellT hT (q := 173) (g := 11) (ax_wc ax_WW1 ax_cg_173)), ay_ex_upd hT.1 (ax_cellT hT (q := 173) (g := 11) (ax_wc ax_WW1 ax_cg_173)), ay_ex_upd hT.1 (ax_cellT hT (q := 181) (g := 51) (ax_wc ax_WW1 ax_cg_181)), ?_⟩
      rw [u1 175 (by decide), u1 176 (by decide), u1 177 (by decide), u1 178 (by decide), u2 0, if_pos rfl, u1 173 (by decide), u1 181 (by decide)]
      refine pz_l152 (pz_41 _) ?_
      show pz_dt _ _ _ _ _ (ρ 3 / 4) _ _ _ _ _ _ _
      rw [show ρ 3 / 4 = ρ 4 / 4 + 1 by omega]
      exact st.1.2
    rcases List.mem_cons.mp hx with e | hx
    · subst e
      refine (ax_XF_lt (x := 153) (by decide)).mpr ?_
      show ay_ex hp 173 ∧ pz_at (pz_gt (ρ' 0)) (pz_gN (ρ' 0)) (ay_ln (ay_at hp 173 13)) = pz_at (pz_gt (ρ' 0)) (pz_gN (ρ' 0)) (pz_p (pz_cF (ρ' 0) (ρ' 6)))
      rw [q0, h2]
      refine ⟨(ax_cellT hT (q := 173) (g := 11) (ax_wc ax_WW1 ax_cg_173)), ?_⟩
      exact pz_l153 (pz_41 _) st.1.1
    rcases List.mem_cons.mp hx with e | hx
    · subst e
      refine (ax_XF_lt (x := 182) (by decide)).mpr ?_
      show (ρ' 6) / 4 = (ρ' 1) / 4 + 1
      rw [q1, h2]
      rw [pz_41]
    rcases List.mem_cons.mp hx with e | hx
    · subst e
      refine (ax_XF_lt (x := 179) (by decide)).mpr ?_
      show pz7 (pz_gt (ρ' 0)) (pz_gN (ρ' 0)) ((ρ' 6) / 4) 9
      rw [q0, h2]
      rw [pz_41]
      exact st.2.1
    cases List.mem_singleton.mp hx
    refine (ax_XF_lt (x := 197) (by decide)).mpr ?_
    show (pz90 (pz_gt (ρ' 0)) (pz_gN (ρ' 0)) ((ρ' 6) / 4) (pz_strip ((ρ' 2) / 4)) ∧ 1 ≤ (ρ' 2) / 4)
    rw [q0, q2, h2]
    exact ⟨pz_l197 (pz_41 _) st.2.2, F190.2⟩)
  exact ⟨(fun y hy => by cases hy), _, List.mem_cons_self, ρ', h1, h2⟩

theorem axq1_mu7a : ax_RO ax_wM1 (ax_XM 1) axu1_mu7a := axqg_mu7a ax_WW1
theorem axq1_mu7b : ax_RO ax_wM1 (ax_XM 1) axu1_mu7b := axqg_mu7b ax_WW1
theorem axq1_mu8O : ax_RO ax_wM1 (ax_XM 1) axu1_mu8O := axqg_mu8O ax_WW1
theorem axq1_mu9O : ax_RO ax_wM1 (ax_XM 1) axu1_mu9O := axqg_mu9O ax_WW1
theorem axq1_mu8M : ax_RO ax_wM1 (ax_XM 1) axu1_mu8M := axqg_mu8M ax_WW1
theorem axq1_mu9M : ax_RO ax_wM1 (ax_XM 1) axu1_mu9M := axqg_mu9M ax_WW1
