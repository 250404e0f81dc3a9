section
theorem axq1_sgkeepAct : ax_RO ax_wM1 (ax_XM 1) axu1_sgkeepAct := axqg_sgkeepAct ax_WW1
theorem axq1_sgback : ax_RO ax_wM1 (ax_XM 1) axu1_sgback := axqg_sgback ax_WW1
theorem axq1_sgswapAll : ax_RO ax_wM1 (ax_XM 1) axu1_sgswapAll := axqg_sgswapAll ax_WW1
theorem axq1_sgimage : ax_RO ax_wM1 (ax_XM 1) axu1_sgimage := axqg_sgimage ax_WW1
theorem axq1_sgputAside : ax_RO ax_wM1 (ax_XM 1) axu1_sgputAside := axqg_sgputAside ax_WW1
theorem axq1_sgbringBack : ax_RO ax_wM1 (ax_XM 1) axu1_sgbringBack := axqg_sgbringBack ax_WW1
theorem axq1_fm1_1 : ax_RO ax_wM1 (ax_XM 1) axu1_fm1_1 := axqg_fm1_1 ax_WW1
theorem axq1_fm2_1 : ax_RO ax_wM1 (ax_XM 1) axu1_fm2_1 := axqg_fm2_1 ax_WW1
theorem axq1_fm1_2 : ax_RO ax_wM1 (ax_XM 1) axu1_fm1_2 := axqg_fm1_2 ax_WW1
theorem axq1_fm2_2 : ax_RO ax_wM1 (ax_XM 1) axu1_fm2_2 := axqg_fm2_2 ax_WW1
theorem axq1_fm1_3 : ax_RO ax_wM1 (ax_XM 1) axu1_fm1_3 := axqg_fm1_3 ax_WW1
theorem axq1_fm2_3 : ax_RO ax_wM1 (ax_XM 1) axu1_fm2_3 := axqg_fm2_3 ax_WW1
theorem axq1_fm1_4 : ax_RO ax_wM1 (ax_XM 1) axu1_fm1_4 := axqg_fm1_4 ax_WW1
theorem axq1_fm2_4 : ax_RO ax_wM1 (ax_XM 1) axu1_fm2_4 := axqg_fm2_4 ax_WW1
theorem axq1_co1y : ax_RO ax_wM1 (ax_XM 1) axu1_co1y := by
  intro ρ hp hE hT
  have j0 : ρ 0 % 4 = 1 := pz_gj hE 0 (Nat.le_of_ble_eq_true rfl) rfl
  obtain ⟨i1a, i1b, i1c, i1d⟩ := pz_gi hE 1 0 4294967295 (Nat.le_of_ble_eq_true rfl) rfl
  obtain ⟨i2a, i2b, i2c, i2d⟩ := pz_gi hE 2 2147483648 2147483847 (Nat.le_of_ble_eq_true rfl) rfl
  obtain ⟨i3a, i3b, i3c, i3d⟩ := pz_gi hE 3 2147483648 2147483747 (Nat.le_of_ble_eq_true rfl) rfl
  have c_ruled : ay_at hp 180 0 = some (ρ 3) := ay_gfj hE 730 0 15 180 0 ax_m1 (ax_vlq rfl rfl) (ax_vlj rfl rfl)
  have s1 : (0 / 4 + 2147483648) % 4294967296 + (ρ 3 / 4 + 2147483648) % 4294967296 = (ρ 2 / 4 + 2147483648) % 4294967296 + 2147483648 := pz_gs hE 0 15 11 ax_m2
  obtain ⟨-, -, F241⟩ : ay_ex hp 180 ∧ ay_ex hp 182 ∧ py_y241 0 (ρ 0) (ay_at hp 180 0) (ay_at hp 182) := (ax_XF_lt (x := 241) (Nat.le_of_ble_eq_true rfl)).mp (ax_gx hE (241, [3]) ax_m0)
  rw [c_ruled] at F241
  refine ⟨(fun y hy => by cases hy), _, List.mem_cons_self, ρ, fun _ _ => rfl, ax_px hE rfl (fun x hx => ?_)⟩
  cases List.mem_singleton.mp hx
  refine (ax_XF_wr (x := 243) (Nat.le_of_ble_eq_true rfl)).mpr ?_
  show ay_ex (ax_upd hp 738 (ρ 2) (ρ 1)) 180 ∧ ay_ex (ax_upd hp 738 (ρ 2) (ρ 1)) 182 ∧ py_y243 0 (ρ 0) (ρ 1) (ay_at (ax_upd hp 738 (ρ 2) (ρ 1)) 180 0) (ay_at (ax_upd hp 738 (ρ 2) (ρ 1)) 182)
  obtain ⟨o0, ho0⟩ := ay_some hT (q := 182) (g := 52) (n := 200) (ax_wc ax_WW1 ax_cg_182) (ax_wn ax_WW1 ax_cn_52) (j := ρ 2 / 4) (by omega)
  have u1 : ∀ q, q ≠ 182 → ay_at (ax_upd hp 738 (ρ 2) (ρ 1)) q = ay_at hp q := fun q hq => funext (fun j => ay_upd_ne hT.1 hq j)
  have u2 : ∀ j, ay_at (ax_upd hp 738 (ρ 2) (ρ 1)) 182 j = if j = ρ 2 / 4 then some (ρ 1) else ay_at hp 182 j := fun j => ay_upd_eq hT.1 rfl ho0 j
  refine ⟨ay_ex_upd hT.1 (ax_cellT hT (q := 180) (g := 50) (ax_wc ax_WW1 ax_cg_180)), ay_ex_upd hT.1 (ax_cellT hT (q := 182) (g := 52) (ax_wc ax_WW1 ax_cg_182)), ?_⟩
  rw [u1 180 (Nat.ne_of_beq_eq_false rfl)]
  rw [c_ruled]
  have ez : ρ 3 / 4 = (py_L (ρ 0 / 4)).length := F241.2.1
  refine ⟨⟨F241.1, F241.2.1, fun i c hc => ?_⟩, ?_⟩
  · have hi := (List.getElem?_eq_some_iff.mp hc).1
    rw [List.length_reverse] at hi
    rw [u2, if_neg (by omega)]
    exact F241.2.2 i c hc
  · rw [u2, if_pos (by omega)]

theorem axq1_co2y : ax_RO ax_wM1 (ax_XM 1) axu1_co2y := by
  intro ρ hp hE hT
  have j0 : ρ 0 % 4 = 1 := pz_gj hE 0 (Nat.le_of_ble_eq_true rfl) rfl
  obtain ⟨i1a, i1b, i1c, i1d⟩ := pz_gi hE 1 2147483648 2147484657 (Nat.le_of_ble_eq_true rfl) rfl
  obtain ⟨i2a, i2b, i2c, i2d⟩ := pz_gi hE 2 2147483648 2147483747 (Nat.le_of_ble_eq_true rfl) rfl
  obtain ⟨i3a, i3b, i3c, i3d⟩ := pz_gi hE 3 0 4294967295 (Nat.le_of_ble_eq_true rfl) rfl
  have c_ruled : ay_at hp 180 0 = some (ρ 2) := ay_gfj hE 730 0 11 180 0 ax_m1 (ax_vlq rfl rfl) (ax_vlj rfl rfl)
  have s1 : (ρ 2 / 4 + 2147483648) % 4294967296 + (4 / 4 + 2147483648) % 4294967296 = (ρ 3 / 4 + 2147483648) % 4294967296 + 2147483648 := pz_gs hE 11 4 15 ax_m2
  obtain ⟨-, -, F243⟩ : ay_ex hp 180 ∧ ay_ex hp 182 ∧ py_y243 0 (ρ 0) (ρ 1) (ay_at hp 180 0) (ay_at hp 182) := (ax_XF_lt (x := 243) (Nat.le_of_ble_eq_true rfl)).mp (ax_gx hE (243, [3, 7]) ax_m0)
  rw [c_ruled] at F243
  have hc4 : 4 * (ρ 1 / 4) = ρ 1 := by omega
  have h1L := F243.1.1
  have h3 : py_y243 0 (ρ 0) (4 * (ρ 1 / 4)) (some (ρ 2)) (ay_at hp 182) := by rw [hc4]; exact F243
  have hL : py_L (ρ 0 / 4 * 4096 + ρ 1 / 4) = ρ 1 / 4 :: py_L (ρ 0 / 4) := py_L_c h1L (by omega)
  obtain ⟨ρ', h1, h2⟩ := pz_pn1 (K := ρ 0 / 4 * 4096 + ρ 1 / 4) (xf := [(741, [730, 0, 15, 19]), (251, [19, 7, 3])]) hE (by decide) (fun ρ' h1 h2 x hx => by
    have q0 : ρ' 0 = ρ 0 := h1 0 (by decide)
    have q1 : ρ' 1 = ρ 1 := h1 1 (by decide)
    have q2 : ρ' 2 = ρ 2 := h1 2 (by decide)
    have q3 : ρ' 3 = ρ 3 := h1 3 (by decide)
    rcases List.mem_cons.mp hx with e | hx
    · subst e
      refine (ax_XF_wr (x := 241) (Nat.le_of_ble_eq_true rfl)).mpr ?_
      show ay_ex (ax_upd hp 730 (0) (ρ' 3)) 180 ∧ ay_ex (ax_upd hp 730 (0) (ρ' 3)) 182 ∧ py_y241 0 (ρ' 4) (ay_at (ax_upd hp 730 (0) (ρ' 3)) 180 0) (ay_at (ax_upd hp 730 (0) (ρ' 3)) 182)
      rw [q3, h2]
      obtain ⟨o0, ho0⟩ := ay_some hT (q := 180) (g := 50) (n := 2) (ax_wc ax_WW1 ax_cg_180) (ax_wn ax_WW1 ax_cn_50) (j := 0 / 4) (Nat.le_of_ble_eq_true rfl)
      have u1 : ∀ q, q ≠ 180 → ay_at (ax_upd hp 730 0 (ρ 3)) q = ay_at hp q := fun q hq => funext (fun j => ay_upd_ne hT.1 hq j)
      have u2 : ∀ j, ay_at (ax_upd hp 730 0 (ρ 3)) 180 j = if j = 0 then some (ρ 3) else ay_at hp 180 j := fun j => ay_upd_eq hT.1 rfl ho0 j
      refine ⟨ay_ex_upd hT.1 (ax_cellT hT (q := 180) (g := 50) (ax_wc ax_WW1 ax_cg_180)), ay_ex_upd hT.1 (ax_cellT hT (q := 182) (g := 52) (ax_wc ax_WW1 ax_cg_182)), ?_⟩
      rw [u2 0, if_pos rfl, u1 182 (Nat.ne_of_beq_eq_false rfl)]
      exact py_lay (c := ρ 1 / 4) h3 (by rw [pz_41]; exact hL) (by rw [pz_41]; omega) (show ρ 3 / 4 = ρ 2 / 4 + 1 by omega)
    cases List.mem_singleton.mp hx
    refine (ax_XF_lt (x := 251) (Nat.le_of_ble_eq_true rfl)).mpr ?_
    show py_251 (ρ' 4) (ρ' 1) (ρ' 0)
    rw [q0, q1, h2]
    unfold py_251
    rw [pz_41]
    exact hL)
  exact ⟨(fun y hy => by cases hy), _, List.mem_cons_self, ρ', h1, h2⟩

theorem axq1_pu4 : ax_RO ax_wM1 (ax_XM 1) axu1_pu4 := axqg_pu4 ax_WW1
theorem axq1_pu5O : ax_RO ax_wM1 (ax_XM 1) axu1_pu5O := axqg_pu5O ax_WW1
theorem axq1_pu5M : ax_RO ax_wM1 (ax_XM 1) axu1_pu5M := axqg_pu5M ax_WW1
theorem axq1_pu5B : ax_RO ax_wM1 (ax_XM 1) axu1_pu5B := axqg_pu5B ax_WW1
theorem axq1_pu6 : ax_RO ax_wM1 (ax_XM 1) axu1_pu6 := axqg_pu6 ax_WW1
theorem axq1_pu7 : ax_RO ax_wM1 (ax_XM 1) axu1_pu7 := axqg_pu7 ax_WW1
theorem axq1_lo4B : ax_RO ax_wM1 (ax_XM 1) axu1_lo4B := axqg_lo4B ax_WW1
theorem axq1_lo4M : ax_RO ax_wM1 (ax_XM 1) axu1_lo4M := axqg_lo4M ax_WW1
theorem axq1_lo6B : ax_RO ax_wM1 (ax_XM 1) axu1_lo6B := axqg_lo6B ax_WW1
theorem axq1_lp6B : ax_RO ax_wM1 (ax_XM 1) axu1_lp6B := axqg_lp6B ax_WW1
theorem axq1_lo6M : ax_RO ax_wM1 (ax_XM 1) axu1_lo6M := axqg_lo6M ax_WW1
theorem axq1_lp6M : ax_RO ax_wM1 (ax_XM 1) axu1_lp6M := axqg_lp6M ax_WW1
theorem axq1_cn2 : ax_RO ax_wM1 (ax_XM 1) axu1_cn2 := axqg_cn2 ax_WW1
theorem axq1_cn3 : ax_RO ax_wM1 (ax_XM 1) axu1_cn3 := axqg_cn3 ax_WW1
theorem axq1_cnE : ax_RO ax_wM1 (ax_XM 1) axu1_cnE := axqg_cnE ax_WW1
theorem axq1_cnF0 : ax_RO ax_wM1 (ax_XM 1) axu1_cnF0 := axqg_cnF0 ax_WW1
theorem axq1_cnF1 : ax_RO ax_wM1 (ax_XM 1) axu1_cnF1 := axqg_cnF1 ax_WW1
theorem axq1_cm6 : ax_RO ax_wM1 (ax_XM 1) axu1_cm6 := by
  intro ρ hp hE hT
  have j0 : ρ 0 % 4 = 1 := pz_gj hE 0 (Nat.le_of_ble_eq_true rfl) rfl
  have j1 : ρ 1 % 4 = 1 := pz_gj hE 1 (Nat.le_of_ble_eq_true rfl) rfl
  have j2 : ρ 2 % 4 = 1 := pz_gj hE 2 (Nat.le_of_ble_eq_true rfl) rfl
  have j3 : ρ 3 % 4 = 1 := pz_gj hE 3 (Nat.le_of_ble_eq_true rfl) rfl
  have j4 : ρ 4 % 4 = 1 := pz_gj hE 4 (Nat.le_of_ble_eq_true rfl) rfl
  have j5 : ρ 5 % 4 = 1 := pz_gj hE 5 (Nat.le_of_ble_eq_true rfl) rfl
  obtain ⟨i6a, i6b, i6c, i6d⟩ := pz_gi hE 6 2147484656 2147484656 (Nat.le_of_ble_eq_true rfl) rfl
  obtain ⟨-, -, F242⟩ : ay_ex hp 173 ∧ ay_ex hp 185 ∧ py_y242 (ρ 4) (ay_at hp 173 27) (ay_at hp 185) := (ax_XF_lt (x := 242) (Nat.le_of_ble_eq_true rfl)).mp (ax_gx hE (242, [19]) (by decide))
  obtain ⟨-, -, F241⟩ : ay_ex hp 180 ∧ ay_ex hp 182 ∧ py_y241 0 (ρ 5) (ay_at hp 180 0) (ay_at hp 182) := (ax_XF_lt (x := 241) (Nat.le_of_ble_eq_true rfl)).mp (ax_gx hE (241, [23]) (by decide))
  have F251 : py_251 (ρ 2) (ρ 6) (ρ 4) := (ax_XF_lt (x := 251) (Nat.le_of_ble_eq_true rfl)).mp (ax_gx hE (251, [11, 27, 19]) (by decide))
  have F251a : py_251 (ρ 5) (ρ 6) (ρ 3) := (ax_XF_lt (x := 251) (Nat.le_of_ble_eq_true rfl)).mp (ax_gx hE (251, [23, 27, 15]) (by decide))
  have F249 : py_249 (ρ 0) (ρ 1) (ρ 2) (ρ 3) := (ax_XF_lt (x := 249) (Nat.le_of_ble_eq_true rfl)).mp (ax_gx hE (249, [3, 7, 11, 15]) (by decide))
  refine ⟨(fun y hy => by cases hy), _, List.mem_cons_self, ρ, fun _ _ => rfl, ax_px hE rfl (fun x hx => ?_)⟩
  cases List.mem_singleton.mp hx
  refine (ax_XF_lt (x := 249) (Nat.le_of_ble_eq_true rfl)).mpr ?_
  show py_249 (ρ 0) (ρ 1) (ρ 4) (ρ 5)
  exact pm_cm6 F249 F251 F251a (by omega)

theorem axq1_cm7 : ax_RO ax_wM1 (ax_XM 1) axu1_cm7 := by
  intro ρ hp hE hT
  have j0 : ρ 0 % 4 = 1 := pz_gj hE 0 (Nat.le_of_ble_eq_true rfl) rfl
  have j1 : ρ 1 % 4 = 1 := pz_gj hE 1 (Nat.le_of_ble_eq_true rfl) rfl
  have j2 : ρ 2 % 4 = 1 := pz_gj hE 2 (Nat.le_of_ble_eq_true rfl) rfl
  have j3 : ρ 3 % 4 = 1 := pz_gj hE 3 (Nat.le_of_ble_eq_true rfl) rfl
  obtain ⟨i4a, i4b, i4c, i4d⟩ := pz_gi hE 4 2147483648 2147483648 (Nat.le_of_ble_eq_true rfl) rfl
  have c_opened : ay_at hp 173 27 = some (ρ 4) := ay_gfj hE 702 108 19 173 27 (by decide) (ax_vlq rfl rfl) (ax_vlj rfl rfl)
  obtain ⟨-, -, F242⟩ : ay_ex hp 173 ∧ ay_ex hp 185 ∧ py_y242 (ρ 2) (ay_at hp 173 27) (ay_at hp 185) := (ax_XF_lt (x := 242) (Nat.le_of_ble_eq_true rfl)).mp (ax_gx hE (242, [11]) (by decide))
  rw [c_opened] at F242
  obtain ⟨-, -, F241⟩ : ay_ex hp 180 ∧ ay_ex hp 182 ∧ py_y241 0 (ρ 3) (ay_at hp 180 0) (ay_at hp 182) := (ax_XF_lt (x := 241) (Nat.le_of_ble_eq_true rfl)).mp (ax_gx hE (241, [15]) (by decide))
  have F249 : py_249 (ρ 0) (ρ 1) (ρ 2) (ρ 3) := (ax_XF_lt (x := 249) (Nat.le_of_ble_eq_true rfl)).mp (ax_gx hE (249, [3, 7, 11, 15]) (by decide))
  refine ⟨(fun y hy => by cases hy), _, List.mem_cons_self, ρ, fun _ _ => rfl, ax_px hE rfl (fun x hx => ?_)⟩
  cases List.mem_singleton.mp hx
  refine (ax_XF_lt (x := 253) (Nat.le_of_ble_eq_true rfl)).mpr ?_
  show py_253 (ρ 0) (ρ 1) (ρ 2) (ρ 3)
  exact pm_cm7 F249 (by rw [py_none F242 (show ρ 4 / 4 = 0 by omega)]; decide)

theorem axq1_cm80 : ax_RO ax_wM1 (ax_XM 1) axu1_cm80 := by
  intro ρ hp hE hT
  have j0 : ρ 0 % 4 = 1 := pz_gj hE 0 (Nat.le_of_ble_eq_true rfl) rfl
  have j1 : ρ 1 % 4 = 1 := pz_gj hE 1 (Nat.le_of_ble_eq_true rfl) rfl
  have j2 : ρ 2 % 4 = 1 := pz_gj hE 2 (Nat.le_of_ble_eq_true rfl) rfl
  have j3 : ρ 3 % 4 = 1 := pz_gj hE 3 (Nat.le_of_ble_eq_true rfl) rfl
  obtain ⟨i4a, i4b, i4c, i4d⟩ := pz_gi hE 4 2147483649 2147483748 (Nat.le_of_ble_eq_true rfl) rfl
  obtain ⟨i5a, i5b, i5c, i5d⟩ := pz_gi hE 5 2147483648 2147483747 (Nat.le_of_ble_eq_true rfl) rfl
  obtain ⟨i6a, i6b, i6c, i6d⟩ := pz_gi hE 6 0 2147484655 (Nat.le_of_ble_eq_true rfl) rfl
  have c_opened : ay_at hp 173 27 = some (ρ 4) := ay_gfj hE 702 108 19 173 27 (by decide) (ax_vlq rfl rfl) (ax_vlj rfl rfl)
  have s1 : (ρ 5 / 4 + 2147483648) % 4294967296 + (4 / 4 + 2147483648) % 4294967296 = (ρ 4 / 4 + 2147483648) % 4294967296 + 2147483648 := pz_gs hE 23 4 19 (by decide)
  have c_open : ay_at hp 185 (ρ 5 / 4) = some (ρ 6) := ay_gf hE 750 23 27 185 (by decide) (ax_vlq rfl rfl)
  obtain ⟨-, -, F242⟩ : ay_ex hp 173 ∧ ay_ex hp 185 ∧ py_y242 (ρ 2) (ay_at hp 173 27) (ay_at hp 185) := (ax_XF_lt (x := 242) (Nat.le_of_ble_eq_true rfl)).mp (ax_gx hE (242, [11]) (by decide))
  rw [c_opened] at F242
  obtain ⟨-, -, F241⟩ : ay_ex hp 180 ∧ ay_ex hp 182 ∧ py_y241 0 (ρ 3) (ay_at hp 180 0) (ay_at hp 182) := (ax_XF_lt (x := 241) (Nat.le_of_ble_eq_true rfl)).mp (ax_gx hE (241, [15]) (by decide))
  have F249 : py_249 (ρ 0) (ρ 1) (ρ 2) (ρ 3) := (ax_XF_lt (x := 249) (Nat.le_of_ble_eq_true rfl)).mp (ax_gx hE (249, [3, 7, 11, 15]) (by decide))
  obtain ⟨c, T, t1, t2, t3, t4, t5, t6, t7⟩ := py_take (o := ρ 5 / 4) F242 (show ρ 4 / 4 = ρ 5 / 4 + 1 by omega)
  rw [c_open] at t3
  have te := Option.some.inj t3
  have tk : c = ρ 6 / 4 := by omega
  refine ⟨(fun y hy => by cases hy), _, List.mem_cons_self, ρ, fun _ _ => rfl, ax_px hE rfl (fun x hx => ?_)⟩
  cases List.mem_singleton.mp hx
  refine (ax_XF_lt (x := 253) (Nat.le_of_ble_eq_true rfl)).mpr ?_
  show py_253 (ρ 0) (ρ 1) (ρ 2) (ρ 3)
  exact pm_cm7 F249 (by rw [t1]; show c ≠ 1008; omega)

theorem axq1_cm81 : ax_RO ax_wM1 (ax_XM 1) axu1_cm81 := by
  intro ρ hp hE hT
  have j0 : ρ 0 % 4 = 1 := pz_gj hE 0 (Nat.le_of_ble_eq_true rfl) rfl
  have j1 : ρ 1 % 4 = 1 := pz_gj hE 1 (Nat.le_of_ble_eq_true rfl) rfl
  have j2 : ρ 2 % 4 = 1 := pz_gj hE 2 (Nat.le_of_ble_eq_true rfl) rfl
  have j3 : ρ 3 % 4 = 1 := pz_gj hE 3 (Nat.le_of_ble_eq_true rfl) rfl
  obtain ⟨i4a, i4b, i4c, i4d⟩ := pz_gi hE 4 2147483649 2147483748 (Nat.le_of_ble_eq_true rfl) rfl
  obtain ⟨i5a, i5b, i5c, i5d⟩ := pz_gi hE 5 2147483648 2147483747 (Nat.le_of_ble_eq_true rfl) rfl
  obtain ⟨i6a, i6b, i6c, i6d⟩ := pz_gi hE 6 2147484657 4294967295 (Nat.le_of_ble_eq_true rfl) rfl
  have c_opened : ay_at hp 173 27 = some (ρ 4) := ay_gfj hE 702 108 19 173 27 (by decide) (ax_vlq rfl rfl) (ax_vlj rfl rfl)
  have s1 : (ρ 5 / 4 + 2147483648) % 4294967296 + (4 / 4 + 2147483648) % 4294967296 = (ρ 4 / 4 + 2147483648) % 4294967296 + 2147483648 := pz_gs hE 23 4 19 (by decide)
  have c_open : ay_at hp 185 (ρ 5 / 4) = some (ρ 6) := ay_gf hE 750 23 27 185 (by decide) (ax_vlq rfl rfl)
  obtain ⟨-, -, F242⟩ : ay_ex hp 173 ∧ ay_ex hp 185 ∧ py_y242 (ρ 2) (ay_at hp 173 27) (ay_at hp 185) := (ax_XF_lt (x := 242) (Nat.le_of_ble_eq_true rfl)).mp (ax_gx hE (242, [11]) (by decide))
  rw [c_opened] at F242
  obtain ⟨-, -, F241⟩ : ay_ex hp 180 ∧ ay_ex hp 182 ∧ py_y241 0 (ρ 3) (ay_at hp 180 0) (ay_at hp 182) := (ax_XF_lt (x := 241) (Nat.le_of_ble_eq_true rfl)).mp (ax_gx hE (241, [15]) (by decide))
  have F249 : py_249 (ρ 0) (ρ 1) (ρ 2) (ρ 3) := (ax_XF_lt (x := 249) (Nat.le_of_ble_eq_true rfl)).mp (ax_gx hE (249, [3, 7, 11, 15]) (by decide))
  obtain ⟨c, T, t1, t2, t3, t4, t5, t6, t7⟩ := py_take (o := ρ 5 / 4) F242 (show ρ 4 / 4 = ρ 5 / 4 + 1 by omega)
  rw [c_open] at t3
  have te := Option.some.inj t3
  have tk : c = ρ 6 / 4 := by omega
  refine ⟨(fun y hy => by cases hy), _, List.mem_cons_self, ρ, fun _ _ => rfl, ax_px hE rfl (fun x hx => ?_)⟩
  cases List.mem_singleton.mp hx
  refine (ax_XF_lt (x := 253) (Nat.le_of_ble_eq_true rfl)).mpr ?_
  show py_253 (ρ 0) (ρ 1) (ρ 2) (ρ 3)
  exact pm_cm7 F249 (by rw [t1]; show c ≠ 1008; omega)

theorem axq1_cp3 : ax_RO ax_wM1 (ax_XM 1) axu1_cp3 := axqg_cp3 ax_WW1
theorem axq1_cp4 : ax_RO ax_wM1 (ax_XM 1) axu1_cp4 := axqg_cp4 ax_WW1
theorem axq1_cp5 : ax_RO ax_wM1 (ax_XM 1) axu1_cp5 := by
  intro ρ hp hE hT
  have j0 : ρ 0 % 4 = 1 := pz_gj hE 0 (Nat.le_of_ble_eq_true rfl) rfl
  have j1 : ρ 1 % 4 = 1 := pz_gj hE 1 (Nat.le_of_ble_eq_true rfl) rfl
  have j2 : ρ 2 % 4 = 1 := pz_gj hE 2 (Nat.le_of_ble_eq_true rfl) rfl
  have j3 : ρ 3 % 4 = 1 := pz_gj hE 3 (Nat.le_of_ble_eq_true rfl) rfl
  obtain ⟨-, -, -, -, -, F151⟩ : ay_ex hp 173 ∧ ay_ex hp 173 ∧ ay_ex hp 173 ∧ ay_ex hp 173 ∧ ay_ex hp 173 ∧ pz_y151 (ρ 0) (ρ 1) (ay_at hp 173 13) (ay_at hp 173 14) (ay_at hp 173 15) (ay_at hp 173 16) (ay_at hp 173 17) := (ax_XF_lt (x := 151) (Nat.le_of_ble_eq_true rfl)).mp (ax_gx hE (151, [3, 7]) (by decide))
  obtain ⟨-, -, -, -, -, -, -, -, -, -, -, F152⟩ : ay_ex hp 175 ∧ ay_ex hp 176 ∧ ay_ex hp 177 ∧ ay_ex hp 178 ∧ ay_ex hp 179 ∧ ay_ex hp 173 ∧ ay_ex hp 173 ∧ ay_ex hp 173 ∧ ay_ex hp 173 ∧ ay_ex hp 173 ∧ ay_ex hp 181 ∧ pz_y152 0 (ρ 0) (ρ 1) (ay_at hp 175 0) (ay_at hp 176 0) (ay_at hp 177 0) (ay_at hp 178 0) (ay_at hp 179 0) (ay_at hp 173 23) (ay_at hp 173 25) (ay_at hp 173 24) (ay_at hp 173 18) (ay_at hp 173 19) (ay_at hp 181) := (ax_XF_lt (x := 152) (Nat.le_of_ble_eq_true rfl)).mp (ax_gx hE (152, [3, 7]) (by decide))
  have F179 : pz7 (pz_gt (ρ 0)) (pz_gN (ρ 0)) ((ρ 1) / 4) 9 := (ax_XF_lt (x := 179) (Nat.le_of_ble_eq_true rfl)).mp (ax_gx hE (179, [3, 7]) (by decide))
  have F190 : (pz90 (pz_gt (ρ 0)) (pz_gN (ρ 0)) ((ρ 1) / 4) ((ρ 2) / 4) ∧ 1 ≤ (ρ 2) / 4) := (ax_XF_lt (x := 190) (Nat.le_of_ble_eq_true rfl)).mp (ax_gx hE (190, [3, 7, 11]) (by decide))
  have F193 : ((ρ 2) / 4 = 2 * ((ρ 3) / 4) ∧ 1 ≤ (ρ 3) / 4) := (ax_XF_lt (x := 193) (Nat.le_of_ble_eq_true rfl)).mp (ax_gx hE (193, [11, 15]) (by decide))
  have F168 : pz_kd (pz_gt (ρ 0)) (pz_gN (ρ 0)) (pz_p (pz_cF (ρ 0) (ρ 1))) = (164) / 4 := (ax_XF_lt (x := 168) (Nat.le_of_ble_eq_true rfl)).mp (ax_gx hE (168, [3, 7, 164]) (by decide))
  have st := pq_rs6 (pz_m50 F151 F152) F179 F190.1 F193.1 F193.2 (show _ = 41 from F168)
  obtain ⟨ρ', h1, h2⟩ := pz_pn1 (K := ρ 1 / 4 + 1) (xf := [(153, [3, 19]), (182, [7, 19]), (152, [3, 19]), (179, [3, 19]), (197, [3, 19, 15])]) hE (by decide) (fun ρ' h1 h2 x hx => by
    have q0 : ρ' 0 = ρ 0 := h1 0 (by decide)
    have q1 : ρ' 1 = ρ 1 := h1 1 (by decide)
    have q2 : ρ' 2 = ρ 2 := h1 2 (by decide)
    have q3 : ρ' 3 = ρ 3 := h1 3 (by decide)
    rcases List.mem_cons.mp hx with e | hx
    · subst e
      refine (ax_XF_lt (x := 153) (Nat.le_of_ble_eq_true rfl)).mpr ?_
      show ay_ex hp 173 ∧ pz_at (pz_gt (ρ' 0)) (pz_gN (ρ' 0)) (ay_ln (ay_at hp 173 13)) = pz_at (pz_gt (ρ' 0)) (pz_gN (ρ' 0)) (pz_p (pz_cF (ρ' 0) (ρ' 4)))
      rw [q0, h2]
      refine ⟨(ax_cellT hT (q := 173) (g := 11) (ax_wc ax_WW1 ax_cg_173)), ?_⟩
      exact pz_l153 (pz_41 _) st.1.1
    rcases List.mem_cons.mp hx with e | hx
    · subst e
      refine (ax_XF_lt (x := 182) (Nat.le_of_ble_eq_true rfl)).mpr ?_
      show (ρ' 4) / 4 = (ρ' 1) / 4 + 1
      rw [q1, h2]
      rw [pz_41]
    rcases List.mem_cons.mp hx with e | hx
    · subst e
      refine (ax_XF_lt (x := 152) (Nat.le_of_ble_eq_true rfl)).mpr ?_
      show ay_ex hp 175 ∧ ay_ex hp 176 ∧ ay_ex hp 177 ∧ ay_ex hp 178 ∧ ay_ex hp 179 ∧ ay_ex hp 173 ∧ ay_ex hp 173 ∧ ay_ex hp 173 ∧ ay_ex hp 173 ∧ ay_ex hp 173 ∧ ay_ex hp 181 ∧ pz_y152 0 (ρ' 0) (ρ' 4) (ay_at hp 175 0) (ay_at hp 176 0) (ay_at hp 177 0) (ay_at hp 178 0) (ay_at hp 179 0) (ay_at hp 173 23) (ay_at hp 173 25) (ay_at hp 173 24) (ay_at hp 173 18) (ay_at hp 173 19) (ay_at hp 181)
      rw [q0, h2]
      refine ⟨(ax_cellT hT (q := 175) (g := 45) (ax_wc ax_WW1 ax_cg_175)), (ax_cellT hT (q := 176) (g := 46) (ax_wc ax_WW1 ax_cg_176)), (ax_cellT hT (q := 177) (g := 47) (ax_wc ax_WW1 ax_cg_177)), (ax_cellT hT (q := 178) (g := 48) (ax_wc ax_WW1 ax_cg_178)), (ax_cellT hT (q := 179) (g := 49) (ax_wc ax_WW1 ax_cg_179)), (ax_cellT hT (q := 173) (g := 11) (ax_wc ax_WW1 ax_cg_173)), (ax_cellT hT (q := 173) (g := 11) (ax_wc ax_WW1 ax_cg_173)), (ax_cellT hT (q := 173) (g := 11) (ax_wc ax_WW1 ax_cg_173)), (ax_cellT hT (q := 173) (g := 11) (ax_wc ax_WW1 ax_cg_173)), (ax_cellT hT (q := 173) (g := 11) (ax_wc ax_WW1 ax_cg_173)), (ax_cellT hT (q := 181) (g := 51) (ax_wc ax_WW1 ax_cg_181)), ?_⟩
      exact pz_l152 (pz_41 _) st.1.2
    rcases List.mem_cons.mp hx with e | hx
    · subst e
      refine (ax_XF_lt (x := 179) (Nat.le_of_ble_eq_true rfl)).mpr ?_
      show pz7 (pz_gt (ρ' 0)) (pz_gN (ρ' 0)) ((ρ' 4) / 4) 9
      rw [q0, h2]
      rw [pz_41]
      exact st.2.1
    cases List.mem_singleton.mp hx
    refine (ax_XF_lt (x := 197) (Nat.le_of_ble_eq_true rfl)).mpr ?_
    show (pz90 (pz_gt (ρ' 0)) (pz_gN (ρ' 0)) ((ρ' 4) / 4) (pz_strip ((ρ' 3) / 4)) ∧ 1 ≤ (ρ' 3) / 4)
    rw [q0, q3, h2]
    exact ⟨pz_l197 (pz_41 _) st.2.2, F193.2⟩)
  exact ⟨(fun y hy => by cases hy), _, List.mem_cons_self, ρ', h1, h2⟩

theorem axq1_cp6 : ax_RO ax_wM1 (ax_XM 1) axu1_cp6 := axqg_cp6 ax_WW1
theorem axq1_cp7 : ax_RO ax_wM1 (ax_XM 1) axu1_cp7 := axqg_cp7 ax_WW1
theorem axq1_cq1 : ax_RO ax_wM1 (ax_XM 1) axu1_cq1 := by
  intro ρ hp hE hT
  have j0 : ρ 0 % 4 = 1 := pz_gj hE 0 (Nat.le_of_ble_eq_true rfl) rfl
  have j1 : ρ 1 % 4 = 1 := pz_gj hE 1 (Nat.le_of_ble_eq_true rfl) rfl
  have j2 : ρ 2 % 4 = 1 := pz_gj hE 2 (Nat.le_of_ble_eq_true rfl) rfl
  have j3 : ρ 3 % 4 = 1 := pz_gj hE 3 (Nat.le_of_ble_eq_true rfl) rfl
  have j4 : ρ 4 % 4 = 1 := pz_gj hE 4 (Nat.le_of_ble_eq_true rfl) rfl
  have j5 : ρ 5 % 4 = 1 := pz_gj hE 5 (Nat.le_of_ble_eq_true rfl) rfl
  obtain ⟨i6a, i6b, i6c, i6d⟩ := pz_gi hE 6 2147484651 2147484655 (Nat.le_of_ble_eq_true rfl) rfl
  obtain ⟨-, -, F242⟩ : ay_ex hp 173 ∧ ay_ex hp 185 ∧ py_y242 (ρ 4) (ay_at hp 173 27) (ay_at hp 185) := (ax_XF_lt (x := 242) (Nat.le_of_ble_eq_true rfl)).mp (ax_gx hE (242, [19]) (by decide))
  obtain ⟨-, -, F241⟩ : ay_ex hp 180 ∧ ay_ex hp 182 ∧ py_y241 0 (ρ 5) (ay_at hp 180 0) (ay_at hp 182) := (ax_XF_lt (x := 241) (Nat.le_of_ble_eq_true rfl)).mp (ax_gx hE (241, [23]) (by decide))
  have F251 : py_251 (ρ 2) (ρ 6) (ρ 4) := (ax_XF_lt (x := 251) (Nat.le_of_ble_eq_true rfl)).mp (ax_gx hE (251, [11, 27, 19]) (by decide))
  have F251a : py_251 (ρ 5) (ρ 6) (ρ 3) := (ax_XF_lt (x := 251) (Nat.le_of_ble_eq_true rfl)).mp (ax_gx hE (251, [23, 27, 15]) (by decide))
  have F250 : py_250 (4012) (ρ 0) (ρ 1) (ρ 2) (ρ 3) := (ax_XF_lt (x := 250) (Nat.le_of_ble_eq_true rfl)).mp (ax_gx hE (250, [4012, 3, 7, 11, 15]) (by decide))
  refine ⟨(fun y hy => by cases hy), _, List.mem_cons_self, ρ, fun _ _ => rfl, ax_px hE rfl (fun x hx => ?_)⟩
  cases List.mem_singleton.mp hx
  refine (ax_XF_lt (x := 250) (Nat.le_of_ble_eq_true rfl)).mpr ?_
  show py_250 (4012) (ρ 0) (ρ 1) (ρ 4) (ρ 5)
  exact pm_cq1 F250 F251 F251a (show 1 ≤ _ from py_bd_1 (by omega) (by omega))

theorem axq1_cq2 : ax_RO ax_wM1 (ax_XM 1) axu1_cq2 := axqg_cq2 ax_WW1
theorem axq1_cq3 : ax_RO ax_wM1 (ax_XM 1) axu1_cq3 := by
  intro ρ hp hE hT
  have j0 : ρ 0 % 4 = 1 := pz_gj hE 0 (Nat.le_of_ble_eq_true rfl) rfl
  have j1 : ρ 1 % 4 = 1 := pz_gj hE 1 (Nat.le_of_ble_eq_true rfl) rfl
  have j2 : ρ 2 % 4 = 1 := pz_gj hE 2 (Nat.le_of_ble_eq_true rfl) rfl
  have j3 : ρ 3 % 4 = 1 := pz_gj hE 3 (Nat.le_of_ble_eq_true rfl) rfl
  have j4 : ρ 4 % 4 = 1 := pz_gj hE 4 (Nat.le_of_ble_eq_true rfl) rfl
  have j5 : ρ 5 % 4 = 1 := pz_gj hE 5 (Nat.le_of_ble_eq_true rfl) rfl
  have j6 : ρ 6 % 4 = 1 := pz_gj hE 6 (Nat.le_of_ble_eq_true rfl) rfl
  have j7 : ρ 7 % 4 = 1 := pz_gj hE 7 (Nat.le_of_ble_eq_true rfl) rfl
  have j8 : ρ 8 % 4 = 1 := pz_gj hE 8 (Nat.le_of_ble_eq_true rfl) rfl
  have j9 : ρ 9 % 4 = 1 := pz_gj hE 9 (Nat.le_of_ble_eq_true rfl) rfl
  obtain ⟨-, -, -, -, -, F151⟩ : ay_ex hp 173 ∧ ay_ex hp 173 ∧ ay_ex hp 173 ∧ ay_ex hp 173 ∧ ay_ex hp 173 ∧ pz_y151 (ρ 0) (ρ 1) (ay_at hp 173 13) (ay_at hp 173 14) (ay_at hp 173 15) (ay_at hp 173 16) (ay_at hp 173 17) := (ax_XF_lt (x := 151) (Nat.le_of_ble_eq_true rfl)).mp (ax_gx hE (151, [3, 7]) (by decide))
  have F182 : (ρ 2) / 4 = (ρ 1) / 4 + 1 := (ax_XF_lt (x := 182) (Nat.le_of_ble_eq_true rfl)).mp (ax_gx hE (182, [7, 11]) (by decide))
  have F179 : pz7 (pz_gt (ρ 0)) (pz_gN (ρ 0)) ((ρ 1) / 4) 9 := (ax_XF_lt (x := 179) (Nat.le_of_ble_eq_true rfl)).mp (ax_gx hE (179, [3, 7]) (by decide))
  have F168 : pz_kd (pz_gt (ρ 0)) (pz_gN (ρ 0)) (pz_p (pz_cF (ρ 0) (ρ 1))) = (164) / 4 := (ax_XF_lt (x := 168) (Nat.le_of_ble_eq_true rfl)).mp (ax_gx hE (168, [3, 7, 164]) (by decide))
  have F190 : (pz90 (pz_gt (ρ 0)) (pz_gN (ρ 0)) ((ρ 1) / 4) ((ρ 3) / 4) ∧ 1 ≤ (ρ 3) / 4) := (ax_XF_lt (x := 190) (Nat.le_of_ble_eq_true rfl)).mp (ax_gx hE (190, [3, 7, 15]) (by decide))
  have F193 : ((ρ 3) / 4 = 2 * ((ρ 4) / 4) ∧ 1 ≤ (ρ 4) / 4) := (ax_XF_lt (x := 193) (Nat.le_of_ble_eq_true rfl)).mp (ax_gx hE (193, [15, 19]) (by decide))
  have F246 : py_y246 (pz_gt (ρ 0)) (pz_gN (ρ 0)) ((ρ 1) / 4) (ρ 5) (ρ 6) := (ax_XF_lt (x := 246) (Nat.le_of_ble_eq_true rfl)).mp (ax_gx hE (246, [3, 7, 23, 27]) (by decide))
  obtain ⟨-, -, F242⟩ : ay_ex hp 173 ∧ ay_ex hp 185 ∧ py_y242 (ρ 9) (ay_at hp 173 27) (ay_at hp 185) := (ax_XF_lt (x := 242) (Nat.le_of_ble_eq_true rfl)).mp (ax_gx hE (242, [39]) (by decide))
  obtain ⟨-, -, F241⟩ : ay_ex hp 180 ∧ ay_ex hp 182 ∧ py_y241 0 (ρ 8) (ay_at hp 180 0) (ay_at hp 182) := (ax_XF_lt (x := 241) (Nat.le_of_ble_eq_true rfl)).mp (ax_gx hE (241, [35]) (by decide))
  have F250 : py_250 (4012) (ρ 5) (ρ 6) (ρ 7) (ρ 8) := (ax_XF_lt (x := 250) (Nat.le_of_ble_eq_true rfl)).mp (ax_gx hE (250, [4012, 23, 27, 31, 35]) (by decide))
  have F251 : py_251 (ρ 7) (4036) (ρ 9) := (ax_XF_lt (x := 251) (Nat.le_of_ble_eq_true rfl)).mp (ax_gx hE (251, [31, 4036, 39]) (by decide))
  refine ⟨(fun y hy => by cases hy), _, List.mem_cons_self, ρ, fun _ _ => rfl, ax_px hE rfl (fun x hx => ?_)⟩
  cases List.mem_singleton.mp hx
  refine (ax_XF_lt (x := 247) (Nat.le_of_ble_eq_true rfl)).mpr ?_
  show py_247 (pz_gt (ρ 0)) (pz_gN (ρ 0)) ((ρ 2) / 4) (ρ 9) (ρ 8)
  exact pm_cq3 F179 (show _ = 41 from F168) F190.1 (by have h1 := F193.1; have h2 := F193.2; omega) F182 F246 F250 F251

theorem axq1_cq4 : ax_RO ax_wM1 (ax_XM 1) axu1_cq4 := by
  intro ρ hp hE hT
  have j0 : ρ 0 % 4 = 1 := pz_gj hE 0 (Nat.le_of_ble_eq_true rfl) rfl
  have j1 : ρ 1 % 4 = 1 := pz_gj hE 1 (Nat.le_of_ble_eq_true rfl) rfl
  obtain ⟨-, -, F242⟩ : ay_ex hp 173 ∧ ay_ex hp 185 ∧ py_y242 (ρ 0) (ay_at hp 173 27) (ay_at hp 185) := (ax_XF_lt (x := 242) (Nat.le_of_ble_eq_true rfl)).mp (ax_gx hE (242, [3]) (by decide))
  obtain ⟨-, -, F241⟩ : ay_ex hp 180 ∧ ay_ex hp 182 ∧ py_y241 0 (ρ 1) (ay_at hp 180 0) (ay_at hp 182) := (ax_XF_lt (x := 241) (Nat.le_of_ble_eq_true rfl)).mp (ax_gx hE (241, [7]) (by decide))
  refine ⟨(fun y hy => by cases hy), _, List.mem_cons_self, ρ, fun _ _ => rfl, ax_px hE rfl (fun x hx => ?_)⟩
  cases List.mem_singleton.mp hx
  refine (ax_XF_lt (x := 249) (Nat.le_of_ble_eq_true rfl)).mpr ?_
  show py_249 (ρ 0) (ρ 1) (ρ 0) (ρ 1)
  exact (rfl : py_neg _ _ = _)

theorem axq1_cq5 : ax_RO ax_wM1 (ax_XM 1) axu1_cq5 := by
  intro ρ hp hE hT
  have j0 : ρ 0 % 4 = 1 := pz_gj hE 0 (Nat.le_of_ble_eq_true rfl) rfl
  have j1 : ρ 1 % 4 = 1 := pz_gj hE 1 (Nat.le_of_ble_eq_true rfl) rfl
  have j2 : ρ 2 % 4 = 1 := pz_gj hE 2 (Nat.le_of_ble_eq_true rfl) rfl
  have j3 : ρ 3 % 4 = 1 := pz_gj hE 3 (Nat.le_of_ble_eq_true rfl) rfl
  have j4 : ρ 4 % 4 = 1 := pz_gj hE 4 (Nat.le_of_ble_eq_true rfl) rfl
  have j5 : ρ 5 % 4 = 1 := pz_gj hE 5 (Nat.le_of_ble_eq_true rfl) rfl
  obtain ⟨-, -, -, -, -, F151⟩ : ay_ex hp 173 ∧ ay_ex hp 173 ∧ ay_ex hp 173 ∧ ay_ex hp 173 ∧ ay_ex hp 173 ∧ pz_y151 (ρ 0) (ρ 1) (ay_at hp 173 13) (ay_at hp 173 14) (ay_at hp 173 15) (ay_at hp 173 16) (ay_at hp 173 17) := (ax_XF_lt (x := 151) (Nat.le_of_ble_eq_true rfl)).mp (ax_gx hE (151, [3, 7]) (by decide))
  have F247 : py_247 (pz_gt (ρ 0)) (pz_gN (ρ 0)) ((ρ 1) / 4) (ρ 2) (ρ 3) := (ax_XF_lt (x := 247) (Nat.le_of_ble_eq_true rfl)).mp (ax_gx hE (247, [3, 7, 11, 15]) (by decide))
  have F253 : py_253 (ρ 2) (ρ 3) (ρ 4) (ρ 5) := (ax_XF_lt (x := 253) (Nat.le_of_ble_eq_true rfl)).mp (ax_gx hE (253, [11, 15, 19, 23]) (by decide))
  obtain ⟨-, -, F242⟩ : ay_ex hp 173 ∧ ay_ex hp 185 ∧ py_y242 (ρ 4) (ay_at hp 173 27) (ay_at hp 185) := (ax_XF_lt (x := 242) (Nat.le_of_ble_eq_true rfl)).mp (ax_gx hE (242, [19]) (by decide))
  obtain ⟨-, -, F241⟩ : ay_ex hp 180 ∧ ay_ex hp 182 ∧ py_y241 0 (ρ 5) (ay_at hp 180 0) (ay_at hp 182) := (ax_XF_lt (x := 241) (Nat.le_of_ble_eq_true rfl)).mp (ax_gx hE (241, [23]) (by decide))
  refine ⟨(fun y hy => by cases hy), _, List.mem_cons_self, ρ, fun _ _ => rfl, ax_px hE rfl (fun x hx => ?_)⟩
  cases List.mem_singleton.mp hx
  refine (ax_XF_lt (x := 246) (Nat.le_of_ble_eq_true rfl)).mpr ?_
  show py_y246 (pz_gt (ρ 0)) (pz_gN (ρ 0)) ((ρ 1) / 4) (ρ 4) (ρ 5)
  exact pm_cq5 F247 F253

theorem axq1_mu0_5_40 : ax_RO ax_wM1 (ax_XM 1) axu1_mu0_5_40 := axqg_mu0_5_40 ax_WW1
theorem axq1_mu0_5_45 : ax_RO ax_wM1 (ax_XM 1) axu1_mu0_5_45 := axqg_mu0_5_45 ax_WW1
theorem axq1_mu0_6_40 : ax_RO ax_wM1 (ax_XM 1) axu1_mu0_6_40 := axqg_mu0_6_40 ax_WW1
theorem axq1_mu0_6_45 : ax_RO ax_wM1 (ax_XM 1) axu1_mu0_6_45 := axqg_mu0_6_45 ax_WW1
theorem axq1_mu0_7_40 : ax_RO ax_wM1 (ax_XM 1) axu1_mu0_7_40 := axqg_mu0_7_40 ax_WW1
theorem axq1_mu0_7_45 : ax_RO ax_wM1 (ax_XM 1) axu1_mu0_7_45 := axqg_mu0_7_45 ax_WW1
theorem axq1_mu1a : ax_RO ax_wM1 (ax_XM 1) axu1_mu1a := axqg_mu1a ax_WW1
theorem axq1_mu1b : ax_RO ax_wM1 (ax_XM 1) axu1_mu1b := axqg_mu1b ax_WW1
theorem axq1_mu2 : ax_RO ax_wM1 (ax_XM 1) axu1_mu2 := axqg_mu2 ax_WW1
theorem axq1_muD_40 : ax_RO ax_wM1 (ax_XM 1) axu1_muD_40 := axqg_muD_40 ax_WW1
theorem axq1_muD_5 : ax_RO ax_wM1 (ax_XM 1) axu1_muD_5 := axqg_muD_5 ax_WW1
theorem axq1_muD_2 : ax_RO ax_wM1 (ax_XM 1) axu1_muD_2 := axqg_muD_2 ax_WW1
theorem axq1_muD_3 : ax_RO ax_wM1 (ax_XM 1) axu1_muD_3 := axqg_muD_3 ax_WW1
theorem axq1_muD_4 : ax_RO ax_wM1 (ax_XM 1) axu1_muD_4 := axqg_muD_4 ax_WW1
theorem axq1_mu3_40 : ax_RO ax_wM1 (ax_XM 1) axu1_mu3_40 := axqg_mu3_40 ax_WW1
theorem axq1_mu3_5 : ax_RO ax_wM1 (ax_XM 1) axu1_mu3_5 := axqg_mu3_5 ax_WW1
theorem axq1_mu3_2 : ax_RO ax_wM1 (ax_XM 1) axu1_mu3_2 := axqg_mu3_2 ax_WW1
theorem axq1_mu3_3 : ax_RO ax_wM1 (ax_XM 1) axu1_mu3_3 := axqg_mu3_3 ax_WW1
theorem axq1_mu3_4 : ax_RO ax_wM1 (ax_XM 1) axu1_mu3_4 := axqg_mu3_4 ax_WW1
theorem axq1_mu3_1 : ax_RO ax_wM1 (ax_XM 1) axu1_mu3_1 := axqg_mu3_1 ax_WW1
theorem axq1_mu4 : ax_RO ax_wM1 (ax_XM 1) axu1_mu4 := by
  intro ρ hp hE hT
  have j0 : ρ 0 % 4 = 1 := pz_gj hE 0 (Nat.le_of_ble_eq_true rfl) rfl
  have j1 : ρ 1 % 4 = 1 := pz_gj hE 1 (Nat.le_of_ble_eq_true rfl) rfl
  obtain ⟨i2a, i2b, i2c, i2d⟩ := pz_gi hE 2 0 4294967295 (Nat.le_of_ble_eq_true rfl) rfl
  obtain ⟨i3a, i3b, i3c, i3d⟩ := pz_gi hE 3 2147483688 2147483688 (Nat.le_of_ble_eq_true rfl) rfl
  have c_units : ay_at hp 179 0 = some (ρ 3) := ay_gfj hE 726 0 15 179 0 ax_m4 (ax_vlq rfl rfl) (ax_vlj rfl rfl)
  obtain ⟨-, -, -, -, -, F151⟩ : ay_ex hp 173 ∧ ay_ex hp 173 ∧ ay_ex hp 173 ∧ ay_ex hp 173 ∧ ay_ex hp 173 ∧ pz_y151 (ρ 0) (ρ 1) (ay_at hp 173 13) (ay_at hp 173 14) (ay_at hp 173 15) (ay_at hp 173 16) (ay_at hp 173 17) := (ax_XF_lt (x := 151) (Nat.le_of_ble_eq_true rfl)).mp (ax_gx hE (151, [3, 7]) ax_m0)
  obtain ⟨-, -, -, -, -, -, -, -, -, -, -, F152⟩ : ay_ex hp 175 ∧ ay_ex hp 176 ∧ ay_ex hp 177 ∧ ay_ex hp 178 ∧ ay_ex hp 179 ∧ ay_ex hp 173 ∧ ay_ex hp 173 ∧ ay_ex hp 173 ∧ ay_ex hp 173 ∧ ay_ex hp 173 ∧ ay_ex hp 181 ∧ pz_y152 0 (ρ 0) (ρ 1) (ay_at hp 175 0) (ay_at hp 176 0) (ay_at hp 177 0) (ay_at hp 178 0) (ay_at hp 179 0) (ay_at hp 173 23) (ay_at hp 173 25) (ay_at hp 173 24) (ay_at hp 173 18) (ay_at hp 173 19) (ay_at hp 181) := (ax_XF_lt (x := 152) (Nat.le_of_ble_eq_true rfl)).mp (ax_gx hE (152, [3, 7]) ax_m1)
  rw [c_units] at F152
  have F178 : pz7 (pz_gt (ρ 0)) (pz_gN (ρ 0)) ((ρ 1) / 4) 8 := (ax_XF_lt (x := 178) (Nat.le_of_ble_eq_true rfl)).mp (ax_gx hE (178, [3, 7]) ax_m2)
  have F207 : pz107 (pz_gt (ρ 0)) (pz_gN (ρ 0)) ((ρ 1) / 4) ((ρ 2) / 4) := (ax_XF_lt (x := 207) (Nat.le_of_ble_eq_true rfl)).mp (ax_gx hE (207, [3, 7, 11]) ax_m3)
  refine ⟨(fun y hy => by cases hy), _, List.mem_cons_self, ρ, fun _ _ => rfl, ax_px hE rfl (fun x hx => ?_)⟩
  cases List.mem_singleton.mp hx
  refine (ax_XF_lt (x := 164) (Nat.le_of_ble_eq_true rfl)).mpr ?_
  show pz64 (pz_gt (ρ 0)) (pz_gN (ρ 0)) ((ρ 1) / 4) ((16) / 4)
  exact pq_ru4 (pz_m50 F151 F152) F178 F207 (show ρ 3 / 4 = 40 by omega)

theorem axq1_mu5 : ax_RO ax_wM1 (ax_XM 1) axu1_mu5 := axqg_mu5 ax_WW1
theorem axq1_mu6_40 : ax_RO ax_wM1 (ax_XM 1) axu1_mu6_40 := by
  intro ρ hp hE hT
  have j0 : ρ 0 % 4 = 1 := pz_gj hE 0 (Nat.le_of_ble_eq_true rfl) rfl
  have j1 : ρ 1 % 4 = 1 := pz_gj hE 1 (Nat.le_of_ble_eq_true rfl) rfl
  have j2 : ρ 2 % 4 = 1 := pz_gj hE 2 (Nat.le_of_ble_eq_true rfl) rfl
  obtain ⟨i3a, i3b, i3c, i3d⟩ := pz_gi hE 3 0 4294967295 (Nat.le_of_ble_eq_true rfl) rfl
  obtain ⟨i4a, i4b, i4c, i4d⟩ := pz_gi hE 4 2147483648 2147483687 (Nat.le_of_ble_eq_true rfl) rfl
  obtain ⟨i5a, i5b, i5c, i5d⟩ := pz_gi hE 5 2147483648 2147483653 (Nat.le_of_ble_eq_true rfl) rfl
  have c_deep : ay_at hp 173 28 = some (ρ 5) := ay_gfj hE 702 112 23 173 28 ax_m6 (ax_vlq rfl rfl) (ax_vlj rfl rfl)
  have c_units : ay_at hp 179 0 = some (ρ 4) := ay_gfj hE 726 0 19 179 0 ax_m7 (ax_vlq rfl rfl) (ax_vlj rfl rfl)
  have s1 : (ρ 4 / 4 + 2147483648) % 4294967296 + (4 / 4 + 2147483648) % 4294967296 = (ρ 3 / 4 + 2147483648) % 4294967296 + 2147483648 := pz_gs hE 19 4 15 ax_m8
  obtain ⟨-, -, -, -, -, F151⟩ : ay_ex hp 173 ∧ ay_ex hp 173 ∧ ay_ex hp 173 ∧ ay_ex hp 173 ∧ ay_ex hp 173 ∧ pz_y151 (ρ 0) (ρ 1) (ay_at hp 173 13) (ay_at hp 173 14) (ay_at hp 173 15) (ay_at hp 173 16) (ay_at hp 173 17) := (ax_XF_lt (x := 151) (Nat.le_of_ble_eq_true rfl)).mp (ax_gx hE (151, [3, 7]) ax_m0)
  obtain ⟨-, -, -, -, -, -, -, -, -, -, -, F152⟩ : ay_ex hp 175 ∧ ay_ex hp 176 ∧ ay_ex hp 177 ∧ ay_ex hp 178 ∧ ay_ex hp 179 ∧ ay_ex hp 173 ∧ ay_ex hp 173 ∧ ay_ex hp 173 ∧ ay_ex hp 173 ∧ ay_ex hp 173 ∧ ay_ex hp 181 ∧ pz_y152 0 (ρ 0) (ρ 1) (ay_at hp 175 0) (ay_at hp 176 0) (ay_at hp 177 0) (ay_at hp 178 0) (ay_at hp 179 0) (ay_at hp 173 23) (ay_at hp 173 25) (ay_at hp 173 24) (ay_at hp 173 18) (ay_at hp 173 19) (ay_at hp 181) := (ax_XF_lt (x := 152) (Nat.le_of_ble_eq_true rfl)).mp (ax_gx hE (152, [3, 7]) ax_m1)
  rw [c_units] at F152
  have F178 : pz7 (pz_gt (ρ 0)) (pz_gN (ρ 0)) ((ρ 1) / 4) 8 := (ax_XF_lt (x := 178) (Nat.le_of_ble_eq_true rfl)).mp (ax_gx hE (178, [3, 7]) ax_m2)
  have F207 : pz107 (pz_gt (ρ 0)) (pz_gN (ρ 0)) ((ρ 1) / 4) ((160) / 4) := (ax_XF_lt (x := 207) (Nat.le_of_ble_eq_true rfl)).mp (ax_gx hE (207, [3, 7, 160]) ax_m3)
  have F190 : (pz90 (pz_gt (ρ 0)) (pz_gN (ρ 0)) ((ρ 1) / 4) ((ρ 2) / 4) ∧ 1 ≤ (ρ 2) / 4) := (ax_XF_lt (x := 190) (Nat.le_of_ble_eq_true rfl)).mp (ax_gx hE (190, [3, 7, 11]) ax_m4)
  obtain ⟨-, F195⟩ : ay_ex hp 173 ∧ ay_ln (ay_at hp 173 28) = pz_dp ((ρ 2) / 4) := (ax_XF_lt (x := 195) (Nat.le_of_ble_eq_true rfl)).mp (ax_gx hE (195, [11]) ax_m5)
  rw [c_deep] at F195
  have hd : ρ 5 / 4 = pz_dp (ρ 2 / 4) := F195
  have st := pq_ru6o (pz_m50 F151 F152) F178 F207 F190.1 (by omega) (show ρ 4 / 4 ≤ 39 by omega)
  obtain ⟨ρ', h1, h2⟩ := pz_pn1 (K := ρ 1 / 4 + 1) (xf := [(652, [726, 0, 15, 3, 27]), (153, [3, 27]), (182, [7, 27]), (178, [3, 27]), (187, [3, 27, 11])]) hE (by decide) (fun ρ' h1 h2 x hx => by
    have q0 : ρ' 0 = ρ 0 := h1 0 (by decide)
    have q1 : ρ' 1 = ρ 1 := h1 1 (by decide)
    have q2 : ρ' 2 = ρ 2 := h1 2 (by decide)
    have q3 : ρ' 3 = ρ 3 := h1 3 (by decide)
    have q4 : ρ' 4 = ρ 4 := h1 4 (by decide)
    have q5 : ρ' 5 = ρ 5 := h1 5 (by decide)
    rcases List.mem_cons.mp hx with e | hx
    · subst e
      refine (ax_XF_wr (x := 152) (Nat.le_of_ble_eq_true rfl)).mpr ?_
      show ay_ex (ax_upd hp 726 (0) (ρ' 3)) 175 ∧ ay_ex (ax_upd hp 726 (0) (ρ' 3)) 176 ∧ ay_ex (ax_upd hp 726 (0) (ρ' 3)) 177 ∧ ay_ex (ax_upd hp 726 (0) (ρ' 3)) 178 ∧ ay_ex (ax_upd hp 726 (0) (ρ' 3)) 179 ∧ ay_ex (ax_upd hp 726 (0) (ρ' 3)) 173 ∧ ay_ex (ax_upd hp 726 (0) (ρ' 3)) 173 ∧ ay_ex (ax_upd hp 726 (0) (ρ' 3)) 173 ∧ ay_ex (ax_upd hp 726 (0) (ρ' 3)) 173 ∧ ay_ex (ax_upd hp 726 (0) (ρ' 3)) 173 ∧ ay_ex (ax_upd hp 726 (0) (ρ' 3)) 181 ∧ pz_y152 0 (ρ' 0) (ρ' 6) (ay_at (ax_upd hp 726 (0) (ρ' 3)) 175 0) (ay_at (ax_upd hp 726 (0) (ρ' 3)) 176 0) (ay_at (ax_upd hp 726 (0) (ρ' 3)) 177 0) (ay_at (ax_upd hp 726 (0) (ρ' 3)) 178 0) (ay_at (ax_upd hp 726 (0) (ρ' 3)) 179 0) (ay_at (ax_upd hp 726 (0) (ρ' 3)) 173 23) (ay_at (ax_upd hp 726 (0) (ρ' 3)) 173 25) (ay_at (ax_upd hp 726 (0) (ρ' 3)) 173 24) (ay_at (ax_upd hp 726 (0) (ρ' 3)) 173 18) (ay_at (ax_upd hp 726 (0) (ρ' 3)) 173 19) (ay_at (ax_upd hp 726 (0) (ρ' 3)) 181)
      rw [q0, q3, h2]
      obtain ⟨o0, ho0⟩ := ay_some hT (q := 179) (g := 49) (n := 2) (ax_wc ax_WW1 ax_cg_179) (ax_wn ax_WW1 ax_cn_49) (j := 0 / 4) (Nat.le_of_ble_eq_true rfl)
      have u1 : ∀ q, q ≠ 179 → ay_at (ax_upd hp 726 0 (ρ 3)) q = ay_at hp q := fun q hq => funext (fun j => ay_upd_ne hT.1 hq j)
      have u2 : ∀ j, ay_at (ax_upd hp 726 0 (ρ 3)) 179 j = if j = 0 then some (ρ 3) else ay_at hp 179 j := fun j => ay_upd_eq hT.1 rfl ho0 j
      refine ⟨ay_ex_upd hT.1 (ax_cellT hT (q := 175) (g := 45) (ax_wc ax_WW1 ax_cg_175)), ay_ex_upd hT.1 (ax_cellT hT (q := 176) (g := 46) (ax_wc ax_WW1 ax_cg_176)), ay_ex_upd hT.1 (ax_cellT hT (q := 177) (g := 47) (ax_wc ax_WW1 ax_cg_177)), ay_ex_upd hT.1 (ax_cellT hT (q := 178) (g := 48) (ax_wc ax_WW1 ax_cg_178)), ay_ex_upd hT.1 (ax_cellT hT (q := 179) (g := 49) (ax_wc ax_WW1 ax_cg_179)), ay_ex_upd hT.1 (ax_cellT hT (q := 173) (g := 11) (ax_wc ax_WW1 ax_cg_173)), ay_ex_upd hT.1 (ax_cellT hT (q := 173) (g := 11) (ax_wc ax_WW1 ax_cg_173)), ay_ex_upd hT.1 (ax_cellT hT (q := 173) (g := 11) (ax_wc ax_WW1 ax_cg_173)), ay_ex_upd hT.1 (ax_cellT hT (q := 173) (g := 11) (ax_wc ax_WW1 ax_cg_173)), ay_ex_upd hT.1 (ax_cellT hT (q := 173) (g := 11) (ax_wc ax_WW1 ax_cg_173)), ay_ex_upd hT.1 (ax_cellT hT (q := 181) (g := 51) (ax_wc ax_WW1 ax_cg_181)), ?_⟩
      rw [u1 175 (Nat.ne_of_beq_eq_false rfl), u1 176 (Nat.ne_of_beq_eq_false rfl), u1 177 (Nat.ne_of_beq_eq_false rfl), u1 178 (Nat.ne_of_beq_eq_false rfl), u2 0, if_pos rfl, u1 173 (Nat.ne_of_beq_eq_false rfl), u1 181 (Nat.ne_of_beq_eq_false rfl)]
      refine pz_l152 (pz_41 _) ?_
      show pz_dt _ _ _ _ _ (ρ 3 / 4) _ _ _ _ _ _ _
      rw [show ρ 3 / 4 = ρ 4 / 4 + 1 by omega]
      exact st.1.2
    rcases List.mem_cons.mp hx with e | hx
    · subst e
      refine (ax_XF_lt (x := 153) (Nat.le_of_ble_eq_true rfl)).mpr ?_
      show ay_ex hp 173 ∧ pz_at (pz_gt (ρ' 0)) (pz_gN (ρ' 0)) (ay_ln (ay_at hp 173 13)) = pz_at (pz_gt (ρ' 0)) (pz_gN (ρ' 0)) (pz_p (pz_cF (ρ' 0) (ρ' 6)))
      rw [q0, h2]
      refine ⟨(ax_cellT hT (q := 173) (g := 11) (ax_wc ax_WW1 ax_cg_173)), ?_⟩
      exact pz_l153 (pz_41 _) st.1.1
    rcases List.mem_cons.mp hx with e | hx
    · subst e
      refine (ax_XF_lt (x := 182) (Nat.le_of_ble_eq_true rfl)).mpr ?_
      show (ρ' 6) / 4 = (ρ' 1) / 4 + 1
      rw [q1, h2]
      rw [pz_41]
    rcases List.mem_cons.mp hx with e | hx
    · subst e
      refine (ax_XF_lt (x := 178) (Nat.le_of_ble_eq_true rfl)).mpr ?_
      show pz7 (pz_gt (ρ' 0)) (pz_gN (ρ' 0)) ((ρ' 6) / 4) 8
      rw [q0, h2]
      rw [pz_41]
      exact st.2.1
    cases List.mem_singleton.mp hx
    refine (ax_XF_lt (x := 187) (Nat.le_of_ble_eq_true rfl)).mpr ?_
    show (pz90 (pz_gt (ρ' 0)) (pz_gN (ρ' 0)) ((ρ' 6) / 4) (2 * ((ρ' 2) / 4)) ∧ 1 ≤ (ρ' 2) / 4)
    rw [q0, q2, h2]
    exact ⟨pz_l197 (pz_41 _) st.2.2, F190.2⟩)
  exact ⟨(fun y hy => by cases hy), _, List.mem_cons_self, ρ', h1, h2⟩

theorem axq1_mu6_5 : ax_RO ax_wM1 (ax_XM 1) axu1_mu6_5 := by
  intro ρ hp hE hT
  have j0 : ρ 0 % 4 = 1 := pz_gj hE 0 (Nat.le_of_ble_eq_true rfl) rfl
  have j1 : ρ 1 % 4 = 1 := pz_gj hE 1 (Nat.le_of_ble_eq_true rfl) rfl
  have j2 : ρ 2 % 4 = 1 := pz_gj hE 2 (Nat.le_of_ble_eq_true rfl) rfl
  obtain ⟨i3a, i3b, i3c, i3d⟩ := pz_gi hE 3 0 4294967295 (Nat.le_of_ble_eq_true rfl) rfl
  obtain ⟨i4a, i4b, i4c, i4d⟩ := pz_gi hE 4 2147483648 2147483687 (Nat.le_of_ble_eq_true rfl) rfl
  obtain ⟨i5a, i5b, i5c, i5d⟩ := pz_gi hE 5 2147483648 2147483653 (Nat.le_of_ble_eq_true rfl) rfl
  have c_deep : ay_at hp 173 28 = some (ρ 5) := ay_gfj hE 702 112 23 173 28 ax_m6 (ax_vlq rfl rfl) (ax_vlj rfl rfl)
  have c_units : ay_at hp 179 0 = some (ρ 4) := ay_gfj hE 726 0 19 179 0 ax_m7 (ax_vlq rfl rfl) (ax_vlj rfl rfl)
  have s1 : (ρ 4 / 4 + 2147483648) % 4294967296 + (4 / 4 + 2147483648) % 4294967296 = (ρ 3 / 4 + 2147483648) % 4294967296 + 2147483648 := pz_gs hE 19 4 15 ax_m8
  obtain ⟨-, -, -, -, -, F151⟩ : ay_ex hp 173 ∧ ay_ex hp 173 ∧ ay_ex hp 173 ∧ ay_ex hp 173 ∧ ay_ex hp 173 ∧ pz_y151 (ρ 0) (ρ 1) (ay_at hp 173 13) (ay_at hp 173 14) (ay_at hp 173 15) (ay_at hp 173 16) (ay_at hp 173 17) := (ax_XF_lt (x := 151) (Nat.le_of_ble_eq_true rfl)).mp (ax_gx hE (151, [3, 7]) ax_m0)
  obtain ⟨-, -, -, -, -, -, -, -, -, -, -, F152⟩ : ay_ex hp 175 ∧ ay_ex hp 176 ∧ ay_ex hp 177 ∧ ay_ex hp 178 ∧ ay_ex hp 179 ∧ ay_ex hp 173 ∧ ay_ex hp 173 ∧ ay_ex hp 173 ∧ ay_ex hp 173 ∧ ay_ex hp 173 ∧ ay_ex hp 181 ∧ pz_y152 0 (ρ 0) (ρ 1) (ay_at hp 175 0) (ay_at hp 176 0) (ay_at hp 177 0) (ay_at hp 178 0) (ay_at hp 179 0) (ay_at hp 173 23) (ay_at hp 173 25) (ay_at hp 173 24) (ay_at hp 173 18) (ay_at hp 173 19) (ay_at hp 181) := (ax_XF_lt (x := 152) (Nat.le_of_ble_eq_true rfl)).mp (ax_gx hE (152, [3, 7]) ax_m1)
  rw [c_units] at F152
  have F178 : pz7 (pz_gt (ρ 0)) (pz_gN (ρ 0)) ((ρ 1) / 4) 8 := (ax_XF_lt (x := 178) (Nat.le_of_ble_eq_true rfl)).mp (ax_gx hE (178, [3, 7]) ax_m2)
  have F207 : pz107 (pz_gt (ρ 0)) (pz_gN (ρ 0)) ((ρ 1) / 4) ((20) / 4) := (ax_XF_lt (x := 207) (Nat.le_of_ble_eq_true rfl)).mp (ax_gx hE (207, [3, 7, 20]) ax_m3)
  have F190 : (pz90 (pz_gt (ρ 0)) (pz_gN (ρ 0)) ((ρ 1) / 4) ((ρ 2) / 4) ∧ 1 ≤ (ρ 2) / 4) := (ax_XF_lt (x := 190) (Nat.le_of_ble_eq_true rfl)).mp (ax_gx hE (190, [3, 7, 11]) ax_m4)
  obtain ⟨-, F195⟩ : ay_ex hp 173 ∧ ay_ln (ay_at hp 173 28) = pz_dp ((ρ 2) / 4) := (ax_XF_lt (x := 195) (Nat.le_of_ble_eq_true rfl)).mp (ax_gx hE (195, [11]) ax_m5)
  rw [c_deep] at F195
  have hd : ρ 5 / 4 = pz_dp (ρ 2 / 4) := F195
  have st := pq_ru6m (pz_m50 F151 F152) F178 F207 F190.1 (by omega) (show ρ 4 / 4 ≤ 39 by omega)
  obtain ⟨ρ', h1, h2⟩ := pz_pn1 (K := ρ 1 / 4 + 1) (xf := [(652, [726, 0, 15, 3, 27]), (153, [3, 27]), (182, [7, 27]), (178, [3, 27]), (188, [3, 27, 11])]) hE (by decide) (fun ρ' h1 h2 x hx => by
    have q0 : ρ' 0 = ρ 0 := h1 0 (by decide)
    have q1 : ρ' 1 = ρ 1 := h1 1 (by decide)
    have q2 : ρ' 2 = ρ 2 := h1 2 (by decide)
    have q3 : ρ' 3 = ρ 3 := h1 3 (by decide)
    have q4 : ρ' 4 = ρ 4 := h1 4 (by decide)
    have q5 : ρ' 5 = ρ 5 := h1 5 (by decide)
    rcases List.mem_cons.mp hx with e | hx
    · subst e
      refine (ax_XF_wr (x := 152) (Nat.le_of_ble_eq_true rfl)).mpr ?_
      show ay_ex (ax_upd hp 726 (0) (ρ' 3)) 175 ∧ ay_ex (ax_upd hp 726 (0) (ρ' 3)) 176 ∧ ay_ex (ax_upd hp 726 (0) (ρ' 3)) 177 ∧ ay_ex (ax_upd hp 726 (0) (ρ' 3)) 178 ∧ ay_ex (ax_upd hp 726 (0) (ρ' 3)) 179 ∧ ay_ex (ax_upd hp 726 (0) (ρ' 3)) 173 ∧ ay_ex (ax_upd hp 726 (0) (ρ' 3)) 173 ∧ ay_ex (ax_upd hp 726 (0) (ρ' 3)) 173 ∧ ay_ex (ax_upd hp 726 (0) (ρ' 3)) 173 ∧ ay_ex (ax_upd hp 726 (0) (ρ' 3)) 173 ∧ ay_ex (ax_upd hp 726 (0) (ρ' 3)) 181 ∧ pz_y152 0 (ρ' 0) (ρ' 6) (ay_at (ax_upd hp 726 (0) (ρ' 3)) 175 0) (ay_at (ax_upd hp 726 (0) (ρ' 3)) 176 0) (ay_at (ax_upd hp 726 (0) (ρ' 3)) 177 0) (ay_at (ax_upd hp 726 (0) (ρ' 3)) 178 0) (ay_at (ax_upd hp 726 (0) (ρ' 3)) 179 0) (ay_at (ax_upd hp 726 (0) (ρ' 3)) 173 23) (ay_at (ax_upd hp 726 (0) (ρ' 3)) 173 25) (ay_at (ax_upd hp 726 (0) (ρ' 3)) 173 24) (ay_at (ax_upd hp 726 (0) (ρ' 3)) 173 18) (ay_at (ax_upd hp 726 (0) (ρ' 3)) 173 19) (ay_at (ax_upd hp 726 (0) (ρ' 3)) 181)
      rw [q0, q3, h2]
      obtain ⟨o0, ho0⟩ := ay_some hT (q := 179) (g := 49) (n := 2) (ax_wc ax_WW1 ax_cg_179) (ax_wn ax_WW1 ax_cn_49) (j := 0 / 4) (Nat.le_of_ble_eq_true rfl)
      have u1 : ∀ q, q ≠ 179 → ay_at (ax_upd hp 726 0 (ρ 3)) q = ay_at hp q := fun q hq => funext (fun j => ay_upd_ne hT.1 hq j)
      have u2 : ∀ j, ay_at (ax_upd hp 726 0 (ρ 3)) 179 j = if j = 0 then some (ρ 3) else ay_at hp 179 j := fun j => ay_upd_eq hT.1 rfl ho0 j
      refine ⟨ay_ex_upd hT.1 (ax_cellT hT (q := 175) (g := 45) (ax_wc ax_WW1 ax_cg_175)), ay_ex_upd hT.1 (ax_cellT hT (q := 176) (g := 46) (ax_wc ax_WW1 ax_cg_176)), ay_ex_upd hT.1 (ax_cellT hT (q := 177) (g := 47) (ax_wc ax_WW1 ax_cg_177)), ay_ex_upd hT.1 (ax_cellT hT (q := 178) (g := 48) (ax_wc ax_WW1 ax_cg_178)), ay_ex_upd hT.1 (ax_cellT hT (q := 179) (g := 49) (ax_wc ax_WW1 ax_cg_179)), ay_ex_upd hT.1 (ax_cellT hT (q := 173) (g := 11) (ax_wc ax_WW1 ax_cg_173)), ay_ex_upd hT.1 (ax_cellT hT (q := 173) (g := 11) (ax_wc ax_WW1 ax_cg_173)), ay_ex_upd hT.1 (ax_cellT hT (q := 173) (g := 11) (ax_wc ax_WW1 ax_cg_173)), ay_ex_upd hT.1 (ax_cellT hT (q := 173) (g := 11) (ax_wc ax_WW1 ax_cg_173)), ay_ex_upd hT.1 (ax_cellT hT (q := 173) (g := 11) (ax_wc ax_WW1 ax_cg_173)), ay_ex_upd hT.1 (ax_cellT hT (q := 181) (g := 51) (ax_wc ax_WW1 ax_cg_181)), ?_⟩
      rw [u1 175 (Nat.ne_of_beq_eq_false rfl), u1 176 (Nat.ne_of_beq_eq_false rfl), u1 177 (Nat.ne_of_beq_eq_false rfl), u1 178 (Nat.ne_of_beq_eq_false rfl), u2 0, if_pos rfl, u1 173 (Nat.ne_of_beq_eq_false rfl), u1 181 (Nat.ne_of_beq_eq_false rfl)]
      refine pz_l152 (pz_41 _) ?_
      show pz_dt _ _ _ _ _ (ρ 3 / 4) _ _ _ _ _ _ _
      rw [show ρ 3 / 4 = ρ 4 / 4 + 1 by omega]
      exact st.1.2
    rcases List.mem_cons.mp hx with e | hx
    · subst e
      refine (ax_XF_lt (x := 153) (Nat.le_of_ble_eq_true rfl)).mpr ?_
      show ay_ex hp 173 ∧ pz_at (pz_gt (ρ' 0)) (pz_gN (ρ' 0)) (ay_ln (ay_at hp 173 13)) = pz_at (pz_gt (ρ' 0)) (pz_gN (ρ' 0)) (pz_p (pz_cF (ρ' 0) (ρ' 6)))
      rw [q0, h2]
      refine ⟨(ax_cellT hT (q := 173) (g := 11) (ax_wc ax_WW1 ax_cg_173)), ?_⟩
      exact pz_l153 (pz_41 _) st.1.1
    rcases List.mem_cons.mp hx with e | hx
    · subst e
      refine (ax_XF_lt (x := 182) (Nat.le_of_ble_eq_true rfl)).mpr ?_
      show (ρ' 6) / 4 = (ρ' 1) / 4 + 1
      rw [q1, h2]
      rw [pz_41]
    rcases List.mem_cons.mp hx with e | hx
    · subst e
      refine (ax_XF_lt (x := 178) (Nat.le_of_ble_eq_true rfl)).mpr ?_
      show pz7 (pz_gt (ρ' 0)) (pz_gN (ρ' 0)) ((ρ' 6) / 4) 8
      rw [q0, h2]
      rw [pz_41]
      exact st.2.1
    cases List.mem_singleton.mp hx
    refine (ax_XF_lt (x := 188) (Nat.le_of_ble_eq_true rfl)).mpr ?_
    show (pz90 (pz_gt (ρ' 0)) (pz_gN (ρ' 0)) ((ρ' 6) / 4) (2 * ((ρ' 2) / 4) + 1) ∧ 1 ≤ (ρ' 2) / 4)
    rw [q0, q2, h2]
    exact ⟨pz_l197 (pz_41 _) st.2.2, F190.2⟩)
  exact ⟨(fun y hy => by cases hy), _, List.mem_cons_self, ρ', h1, h2⟩

theorem axq1_mu6_1 : ax_RO ax_wM1 (ax_XM 1) axu1_mu6_1 := by
  intro ρ hp hE hT
  have j0 : ρ 0 % 4 = 1 := pz_gj hE 0 (Nat.le_of_ble_eq_true rfl) rfl
  have j1 : ρ 1 % 4 = 1 := pz_gj hE 1 (Nat.le_of_ble_eq_true rfl) rfl
  have j2 : ρ 2 % 4 = 1 := pz_gj hE 2 (Nat.le_of_ble_eq_true rfl) rfl
  obtain ⟨i3a, i3b, i3c, i3d⟩ := pz_gi hE 3 0 4294967295 (Nat.le_of_ble_eq_true rfl) rfl
  obtain ⟨i4a, i4b, i4c, i4d⟩ := pz_gi hE 4 2147483648 2147483687 (Nat.le_of_ble_eq_true rfl) rfl
  obtain ⟨i5a, i5b, i5c, i5d⟩ := pz_gi hE 5 2147483648 2147483653 (Nat.le_of_ble_eq_true rfl) rfl
  have c_deep : ay_at hp 173 28 = some (ρ 5) := ay_gfj hE 702 112 23 173 28 ax_m6 (ax_vlq rfl rfl) (ax_vlj rfl rfl)
  have c_units : ay_at hp 179 0 = some (ρ 4) := ay_gfj hE 726 0 19 179 0 ax_m7 (ax_vlq rfl rfl) (ax_vlj rfl rfl)
  have s1 : (ρ 4 / 4 + 2147483648) % 4294967296 + (4 / 4 + 2147483648) % 4294967296 = (ρ 3 / 4 + 2147483648) % 4294967296 + 2147483648 := pz_gs hE 19 4 15 ax_m8
  obtain ⟨-, -, -, -, -, F151⟩ : ay_ex hp 173 ∧ ay_ex hp 173 ∧ ay_ex hp 173 ∧ ay_ex hp 173 ∧ ay_ex hp 173 ∧ pz_y151 (ρ 0) (ρ 1) (ay_at hp 173 13) (ay_at hp 173 14) (ay_at hp 173 15) (ay_at hp 173 16) (ay_at hp 173 17) := (ax_XF_lt (x := 151) (Nat.le_of_ble_eq_true rfl)).mp (ax_gx hE (151, [3, 7]) ax_m0)
  obtain ⟨-, -, -, -, -, -, -, -, -, -, -, F152⟩ : ay_ex hp 175 ∧ ay_ex hp 176 ∧ ay_ex hp 177 ∧ ay_ex hp 178 ∧ ay_ex hp 179 ∧ ay_ex hp 173 ∧ ay_ex hp 173 ∧ ay_ex hp 173 ∧ ay_ex hp 173 ∧ ay_ex hp 173 ∧ ay_ex hp 181 ∧ pz_y152 0 (ρ 0) (ρ 1) (ay_at hp 175 0) (ay_at hp 176 0) (ay_at hp 177 0) (ay_at hp 178 0) (ay_at hp 179 0) (ay_at hp 173 23) (ay_at hp 173 25) (ay_at hp 173 24) (ay_at hp 173 18) (ay_at hp 173 19) (ay_at hp 181) := (ax_XF_lt (x := 152) (Nat.le_of_ble_eq_true rfl)).mp (ax_gx hE (152, [3, 7]) ax_m1)
  rw [c_units] at F152
  have F178 : pz7 (pz_gt (ρ 0)) (pz_gN (ρ 0)) ((ρ 1) / 4) 8 := (ax_XF_lt (x := 178) (Nat.le_of_ble_eq_true rfl)).mp (ax_gx hE (178, [3, 7]) ax_m2)
  have F207 : pz107 (pz_gt (ρ 0)) (pz_gN (ρ 0)) ((ρ 1) / 4) ((4) / 4) := (ax_XF_lt (x := 207) (Nat.le_of_ble_eq_true rfl)).mp (ax_gx hE (207, [3, 7, 4]) ax_m3)
  have F190 : (pz90 (pz_gt (ρ 0)) (pz_gN (ρ 0)) ((ρ 1) / 4) ((ρ 2) / 4) ∧ 1 ≤ (ρ 2) / 4) := (ax_XF_lt (x := 190) (Nat.le_of_ble_eq_true rfl)).mp (ax_gx hE (190, [3, 7, 11]) ax_m4)
  obtain ⟨-, F195⟩ : ay_ex hp 173 ∧ ay_ln (ay_at hp 173 28) = pz_dp ((ρ 2) / 4) := (ax_XF_lt (x := 195) (Nat.le_of_ble_eq_true rfl)).mp (ax_gx hE (195, [11]) ax_m5)
  rw [c_deep] at F195
  have hd : ρ 5 / 4 = pz_dp (ρ 2 / 4) := F195
  have st := pq_ru6u (pz_m50 F151 F152) F178 F207 (by decide) (by decide) F190.1 (by omega) (show ρ 4 / 4 ≤ 39 by omega)
  obtain ⟨ρ', h1, h2⟩ := pz_pn1 (K := ρ 1 / 4 + 1) (xf := [(652, [726, 0, 15, 3, 27]), (153, [3, 27]), (182, [7, 27]), (179, [3, 27]), (197, [3, 27, 11])]) hE (by decide) (fun ρ' h1 h2 x hx => by
    have q0 : ρ' 0 = ρ 0 := h1 0 (by decide)
    have q1 : ρ' 1 = ρ 1 := h1 1 (by decide)
    have q2 : ρ' 2 = ρ 2 := h1 2 (by decide)
    have q3 : ρ' 3 = ρ 3 := h1 3 (by decide)
    have q4 : ρ' 4 = ρ 4 := h1 4 (by decide)
    have q5 : ρ' 5 = ρ 5 := h1 5 (by decide)
    rcases List.mem_cons.mp hx with e | hx
    · subst e
      refine (ax_XF_wr (x := 152) (Nat.le_of_ble_eq_true rfl)).mpr ?_
      show ay_ex (ax_upd hp 726 (0) (ρ' 3)) 175 ∧ ay_ex (ax_upd hp 726 (0) (ρ' 3)) 176 ∧ ay_ex (ax_upd hp 726 (0) (ρ' 3)) 177 ∧ ay_ex (ax_upd hp 726 (0) (ρ' 3)) 178 ∧ ay_ex (ax_upd hp 726 (0) (ρ' 3)) 179 ∧ ay_ex (ax_upd hp 726 (0) (ρ' 3)) 173 ∧ ay_ex (ax_upd hp 726 (0) (ρ' 3)) 173 ∧ ay_ex (ax_upd hp 726 (0) (ρ' 3)) 173 ∧ ay_ex (ax_upd hp 726 (0) (ρ' 3)) 173 ∧ ay_ex (ax_upd hp 726 (0) (ρ' 3)) 173 ∧ ay_ex (ax_upd hp 726 (0) (ρ' 3)) 181 ∧ pz_y152 0 (ρ' 0) (ρ' 6) (ay_at (ax_upd hp 726 (0) (ρ' 3)) 175 0) (ay_at (ax_upd hp 726 (0) (ρ' 3)) 176 0) (ay_at (ax_upd hp 726 (0) (ρ' 3)) 177 0) (ay_at (ax_upd hp 726 (0) (ρ' 3)) 178 0) (ay_at (ax_upd hp 726 (0) (ρ' 3)) 179 0) (ay_at (ax_upd hp 726 (0) (ρ' 3)) 173 23) (ay_at (ax_upd hp 726 (0) (ρ' 3)) 173 25) (ay_at (ax_upd hp 726 (0) (ρ' 3)) 173 24) (ay_at (ax_upd hp 726 (0) (ρ' 3)) 173 18) (ay_at (ax_upd hp 726 (0) (ρ' 3)) 173 19) (ay_at (ax_upd hp 726 (0) (ρ' 3)) 181)
      rw [q0, q3, h2]
      obtain ⟨o0, ho0⟩ := ay_some hT (q := 179) (g := 49) (n := 2) (ax_wc ax_WW1 ax_cg_179) (ax_wn ax_WW1 ax_cn_49) (j := 0 / 4) (Nat.le_of_ble_eq_true rfl)
      have u1 : ∀ q, q ≠ 179 → ay_at (ax_upd hp 726 0 (ρ 3)) q = ay_at hp q := fun q hq => funext (fun j => ay_upd_ne hT.1 hq j)
      have u2 : ∀ j, ay_at (ax_upd hp 726 0 (ρ 3)) 179 j = if j = 0 then some (ρ 3) else ay_at hp 179 j := fun j => ay_upd_eq hT.1 rfl ho0 j
      refine ⟨ay_ex_upd hT.1 (ax_cellT hT (q := 175) (g := 45) (ax_wc ax_WW1 ax_cg_175)), ay_ex_upd hT.1 (ax_cellT hT (q := 176) (g := 46) (ax_wc ax_WW1 ax_cg_176)), ay_ex_upd hT.1 (ax_cellT hT (q := 177) (g := 47) (ax_wc ax_WW1 ax_cg_177)), ay_ex_upd hT.1 (ax_cellT hT (q := 178) (g := 48) (ax_wc ax_WW1 ax_cg_178)), ay_ex_upd hT.1 (ax_cellT hT (q := 179) (g := 49) (ax_wc ax_WW1 ax_cg_179)), ay_ex_upd hT.1 (ax_cellT hT (q := 173) (g := 11) (ax_wc ax_WW1 ax_cg_173)), ay_ex_upd hT.1 (ax_cellT hT (q := 173) (g := 11) (ax_wc ax_WW1 ax_cg_173)), ay_ex_upd hT.1 (ax_cellT hT (q := 173) (g := 11) (ax_wc ax_WW1 ax_cg_173)), ay_ex_upd hT.1 (ax_cellT hT (q := 173) (g := 11) (ax_wc ax_WW1 ax_cg_173)), ay_ex_upd hT.1 (ax_cellT hT (q := 173) (g := 11) (ax_wc ax_WW1 ax_cg_173)), ay_ex_upd hT.1 (ax_cellT hT (q := 181) (g := 51) (ax_wc ax_WW1 ax_cg_181)), ?_⟩
      rw [u1 175 (Nat.ne_of_beq_eq_false rfl), u1 176 (Nat.ne_of_beq_eq_false rfl), u1 177 (Nat.ne_of_beq_eq_false rfl), u1 178 (Nat.ne_of_beq_eq_false rfl), u2 0, if_pos rfl, u1 173 (Nat.ne_of_beq_eq_false rfl), u1 181 (Nat.ne_of_beq_eq_false rfl)]
      refine pz_l152 (pz_41 _) ?_
      show pz_dt _ _ _ _ _ (ρ 3 / 4) _ _ _ _ _ _ _
      rw [show ρ 3 / 4 = ρ 4 / 4 + 1 by omega]
      exact st.1.2
    rcases List.mem_cons.mp hx with e | hx
    · subst e
      refine (ax_XF_lt (x := 153) (Nat.le_of_ble_eq_true rfl)).mpr ?_
      show ay_ex hp 173 ∧ pz_at (pz_gt (ρ' 0)) (pz_gN (ρ' 0)) (ay_ln (ay_at hp 173 13)) = pz_at (pz_gt (ρ' 0)) (pz_gN (ρ' 0)) (pz_p (pz_cF (ρ' 0) (ρ' 6)))
      rw [q0, h2]
      refine ⟨(ax_cellT hT (q := 173) (g := 11) (ax_wc ax_WW1 ax_cg_173)), ?_⟩
      exact pz_l153 (pz_41 _) st.1.1
    rcases List.mem_cons.mp hx with e | hx
    · subst e
      refine (ax_XF_lt (x := 182) (Nat.le_of_ble_eq_true rfl)).mpr ?_
      show (ρ' 6) / 4 = (ρ' 1) / 4 + 1
      rw [q1, h2]
      rw [pz_41]
    rcases List.mem_cons.mp hx with e | hx
    · subst e
      refine (ax_XF_lt (x := 179) (Nat.le_of_ble_eq_true rfl)).mpr ?_
      show pz7 (pz_gt (ρ' 0)) (pz_gN (ρ' 0)) ((ρ' 6) / 4) 9
      rw [q0, h2]
      rw [pz_41]
      exact st.2.1
    cases List.mem_singleton.mp hx
    refine (ax_XF_lt (x := 197) (Nat.le_of_ble_eq_true rfl)).mpr ?_
    show (pz90 (pz_gt (ρ' 0)) (pz_gN (ρ' 0)) ((ρ' 6) / 4) (pz_strip ((ρ' 2) / 4)) ∧ 1 ≤ (ρ' 2) / 4)
    rw [q0, q2, h2]
    exact ⟨pz_l197 (pz_41 _) st.2.2, F190.2⟩)
  exact ⟨(fun y hy => by cases hy), _, List.mem_cons_self, ρ', h1, h2⟩

theorem axq1_mu6_2 : ax_RO ax_wM1 (ax_XM 1) axu1_mu6_2 := by
  intro ρ hp hE hT
  have j0 : ρ 0 % 4 = 1 := pz_gj hE 0 (Nat.le_of_ble_eq_true rfl) rfl
  have j1 : ρ 1 % 4 = 1 := pz_gj hE 1 (Nat.le_of_ble_eq_true rfl) rfl
  have j2 : ρ 2 % 4 = 1 := pz_gj hE 2 (Nat.le_of_ble_eq_true rfl) rfl
  obtain ⟨i3a, i3b, i3c, i3d⟩ := pz_gi hE 3 0 4294967295 (Nat.le_of_ble_eq_true rfl) rfl
  obtain ⟨i4a, i4b, i4c, i4d⟩ := pz_gi hE 4 2147483648 2147483687 (Nat.le_of_ble_eq_true rfl) rfl
  obtain ⟨i5a, i5b, i5c, i5d⟩ := pz_gi hE 5 2147483648 2147483653 (Nat.le_of_ble_eq_true rfl) rfl
  have c_deep : ay_at hp 173 28 = some (ρ 5) := ay_gfj hE 702 112 23 173 28 ax_m6 (ax_vlq rfl rfl) (ax_vlj rfl rfl)
  have c_units : ay_at hp 179 0 = some (ρ 4) := ay_gfj hE 726 0 19 179 0 ax_m7 (ax_vlq rfl rfl) (ax_vlj rfl rfl)
  have s1 : (ρ 4 / 4 + 2147483648) % 4294967296 + (4 / 4 + 2147483648) % 4294967296 = (ρ 3 / 4 + 2147483648) % 4294967296 + 2147483648 := pz_gs hE 19 4 15 ax_m8
  obtain ⟨-, -, -, -, -, F151⟩ : ay_ex hp 173 ∧ ay_ex hp 173 ∧ ay_ex hp 173 ∧ ay_ex hp 173 ∧ ay_ex hp 173 ∧ pz_y151 (ρ 0) (ρ 1) (ay_at hp 173 13) (ay_at hp 173 14) (ay_at hp 173 15) (ay_at hp 173 16) (ay_at hp 173 17) := (ax_XF_lt (x := 151) (Nat.le_of_ble_eq_true rfl)).mp (ax_gx hE (151, [3, 7]) ax_m0)
  obtain ⟨-, -, -, -, -, -, -, -, -, -, -, F152⟩ : ay_ex hp 175 ∧ ay_ex hp 176 ∧ ay_ex hp 177 ∧ ay_ex hp 178 ∧ ay_ex hp 179 ∧ ay_ex hp 173 ∧ ay_ex hp 173 ∧ ay_ex hp 173 ∧ ay_ex hp 173 ∧ ay_ex hp 173 ∧ ay_ex hp 181 ∧ pz_y152 0 (ρ 0) (ρ 1) (ay_at hp 175 0) (ay_at hp 176 0) (ay_at hp 177 0) (ay_at hp 178 0) (ay_at hp 179 0) (ay_at hp 173 23) (ay_at hp 173 25) (ay_at hp 173 24) (ay_at hp 173 18) (ay_at hp 173 19) (ay_at hp 181) := (ax_XF_lt (x := 152) (Nat.le_of_ble_eq_true rfl)).mp (ax_gx hE (152, [3, 7]) ax_m1)
  rw [c_units] at F152
  have F178 : pz7 (pz_gt (ρ 0)) (pz_gN (ρ 0)) ((ρ 1) / 4) 8 := (ax_XF_lt (x := 178) (Nat.le_of_ble_eq_true rfl)).mp (ax_gx hE (178, [3, 7]) ax_m2)
  have F207 : pz107 (pz_gt (ρ 0)) (pz_gN (ρ 0)) ((ρ 1) / 4) ((8) / 4) := (ax_XF_lt (x := 207) (Nat.le_of_ble_eq_true rfl)).mp (ax_gx hE (207, [3, 7, 8]) ax_m3)
  have F190 : (pz90 (pz_gt (ρ 0)) (pz_gN (ρ 0)) ((ρ 1) / 4) ((ρ 2) / 4) ∧ 1 ≤ (ρ 2) / 4) := (ax_XF_lt (x := 190) (Nat.le_of_ble_eq_true rfl)).mp (ax_gx hE (190, [3, 7, 11]) ax_m4)
  obtain ⟨-, F195⟩ : ay_ex hp 173 ∧ ay_ln (ay_at hp 173 28) = pz_dp ((ρ 2) / 4) := (ax_XF_lt (x := 195) (Nat.le_of_ble_eq_true rfl)).mp (ax_gx hE (195, [11]) ax_m5)
  rw [c_deep] at F195
  have hd : ρ 5 / 4 = pz_dp (ρ 2 / 4) := F195
  have st := pq_ru6u (pz_m50 F151 F152) F178 F207 (by decide) (by decide) F190.1 (by omega) (show ρ 4 / 4 ≤ 39 by omega)
  obtain ⟨ρ', h1, h2⟩ := pz_pn1 (K := ρ 1 / 4 + 1) (xf := [(652, [726, 0, 15, 3, 27]), (153, [3, 27]), (182, [7, 27]), (179, [3, 27]), (197, [3, 27, 11])]) hE (by decide) (fun ρ' h1 h2 x hx => by
    have q0 : ρ' 0 = ρ 0 := h1 0 (by decide)
    have q1 : ρ' 1 = ρ 1 := h1 1 (by decide)
    have q2 : ρ' 2 = ρ 2 := h1 2 (by decide)
    have q3 : ρ' 3 = ρ 3 := h1 3 (by decide)
    have q4 : ρ' 4 = ρ 4 := h1 4 (by decide)
    have q5 : ρ' 5 = ρ 5 := h1 5 (by decide)
    rcases List.mem_cons.mp hx with e | hx
    · subst e
      refine (ax_XF_wr (x := 152) (Nat.le_of_ble_eq_true rfl)).mpr ?_
      show ay_ex (ax_upd hp 726 (0) (ρ' 3)) 175 ∧ ay_ex (ax_upd hp 726 (0) (ρ' 3)) 176 ∧ ay_ex (ax_upd hp 726 (0) (ρ' 3)) 177 ∧ ay_ex (ax_upd hp 726 (0) (ρ' 3)) 178 ∧ ay_ex (ax_upd hp 726 (0) (ρ' 3)) 179 ∧ ay_ex (ax_upd hp 726 (0) (ρ' 3)) 173 ∧ ay_ex (ax_upd hp 726 (0) (ρ' 3)) 173 ∧ ay_ex (ax_upd hp 726 (0) (ρ' 3)) 173 ∧ ay_ex (ax_upd hp 726 (0) (ρ' 3)) 173 ∧ ay_ex (ax_upd hp 726 (0) (ρ' 3)) 173 ∧ ay_ex (ax_upd hp 726 (0) (ρ' 3)) 181 ∧ pz_y152 0 (ρ' 0) (ρ' 6) (ay_at (ax_upd hp 726 (0) (ρ' 3)) 175 0) (ay_at (ax_upd hp 726 (0) (ρ' 3)) 176 0) (ay_at (ax_upd hp 726 (0) (ρ' 3)) 177 0) (ay_at (ax_upd hp 726 (0) (ρ' 3)) 178 0) (ay_at (ax_upd hp 726 (0) (ρ' 3)) 179 0) (ay_at (ax_upd hp 726 (0) (ρ' 3)) 173 23) (ay_at (ax_upd hp 726 (0) (ρ' 3)) 173 25) (ay_at (ax_upd hp 726 (0) (ρ' 3)) 173 24) (ay_at (ax_upd hp 726 (0) (ρ' 3)) 173 18) (ay_at (ax_upd hp 726 (0) (ρ' 3)) 173 19) (ay_at (ax_upd hp 726 (0) (ρ' 3)) 181)
      rw [q0, q3, h2]
      obtain ⟨o0, ho0⟩ := ay_some hT (q := 179) (g := 49) (n := 2) (ax_wc ax_WW1 ax_cg_179) (ax_wn ax_WW1 ax_cn_49) (j := 0 / 4) (Nat.le_of_ble_eq_true rfl)
      have u1 : ∀ q, q ≠ 179 → ay_at (ax_upd hp 726 0 (ρ 3)) q = ay_at hp q := fun q hq => funext (fun j => ay_upd_ne hT.1 hq j)
      have u2 : ∀ j, ay_at (ax_upd hp 726 0 (ρ 3)) 179 j = if j = 0 then some (ρ 3) else ay_at hp 179 j := fun j => ay_upd_eq hT.1 rfl ho0 j
      refine ⟨ay_ex_upd hT.1 (ax_cellT hT (q := 175) (g := 45) (ax_wc ax_WW1 ax_cg_175)), ay_ex_upd hT.1 (ax_cellT hT (q := 176) (g := 46) (ax_wc ax_WW1 ax_cg_176)), ay_ex_upd hT.1 (ax_cellT hT (q := 177) (g := 47) (ax_wc ax_WW1 ax_cg_177)), ay_ex_upd hT.1 (ax_cellT hT (q := 178) (g := 48) (ax_wc ax_WW1 ax_cg_178)), ay_ex_upd hT.1 (ax_cellT hT (q := 179) (g := 49) (ax_wc ax_WW1 ax_cg_179)), ay_ex_upd hT.1 (ax_cellT hT (q := 173) (g := 11) (ax_wc ax_WW1 ax_cg_173)), ay_ex_upd hT.1 (ax_cellT hT (q := 173) (g := 11) (ax_wc ax_WW1 ax_cg_173)), ay_ex_upd hT.1 (ax_cellT hT (q := 173) (g := 11) (ax_wc ax_WW1 ax_cg_173)), ay_ex_upd hT.1 (ax_cellT hT (q := 173) (g := 11) (ax_wc ax_WW1 ax_cg_173)), ay_ex_upd hT.1 (ax_cellT hT (q := 173) (g := 11) (ax_wc ax_WW1 ax_cg_173)), ay_ex_upd hT.1 (ax_cellT hT (q := 181) (g := 51) (ax_wc ax_WW1 ax_cg_181)), ?_⟩
      rw [u1 175 (Nat.ne_of_beq_eq_false rfl), u1 176 (Nat.ne_of_beq_eq_false rfl), u1 177 (Nat.ne_of_beq_eq_false rfl), u1 178 (Nat.ne_of_beq_eq_false rfl), u2 0, if_pos rfl, u1 173 (Nat.ne_of_beq_eq_false rfl), u1 181 (Nat.ne_of_beq_eq_false rfl)]
      refine pz_l152 (pz_41 _) ?_
      show pz_dt _ _ _ _ _ (ρ 3 / 4) _ _ _ _ _ _ _
      rw [show ρ 3 / 4 = ρ 4 / 4 + 1 by omega]
      exact st.1.2
    rcases List.mem_cons.mp hx with e | hx
    · subst e
      refine (ax_XF_lt (x := 153) (Nat.le_of_ble_eq_true rfl)).mpr ?_
      show ay_ex hp 173 ∧ pz_at (pz_gt (ρ' 0)) (pz_gN (ρ' 0)) (ay_ln (ay_at hp 173 13)) = pz_at (pz_gt (ρ' 0)) (pz_gN (ρ' 0)) (pz_p (pz_cF (ρ' 0) (ρ' 6)))
      rw [q0, h2]
      refine ⟨(ax_cellT hT (q := 173) (g := 11) (ax_wc ax_WW1 ax_cg_173)), ?_⟩
      exact pz_l153 (pz_41 _) st.1.1
    rcases List.mem_cons.mp hx with e | hx
    · subst e
      refine (ax_XF_lt (x := 182) (Nat.le_of_ble_eq_true rfl)).mpr ?_
      show (ρ' 6) / 4 = (ρ' 1) / 4 + 1
      rw [q1, h2]
      rw [pz_41]
    rcases List.mem_cons.mp hx with e | hx
    · subst e
      refine (ax_XF_lt (x := 179) (Nat.le_of_ble_eq_true rfl)).mpr ?_
      show pz7 (pz_gt (ρ' 0)) (pz_gN (ρ' 0)) ((ρ' 6) / 4) 9
      rw [q0, h2]
      rw [pz_41]
      exact st.2.1
    cases List.mem_singleton.mp hx
    refine (ax_XF_lt (x := 197) (Nat.le_of_ble_eq_true rfl)).mpr ?_
    show (pz90 (pz_gt (ρ' 0)) (pz_gN (ρ' 0)) ((ρ' 6) / 4) (pz_strip ((ρ' 2) / 4)) ∧ 1 ≤ (ρ' 2) / 4)
    rw [q0, q2, h2]
    exact ⟨pz_l197 (pz_41 _) st.2.2, F190.2⟩)
  exact ⟨(fun y hy => by cases hy), _, List.mem_cons_self, ρ', h1, h2⟩

theorem axq1_mu6_3 : ax_RO ax_wM1 (ax_XM 1) axu1_mu6_3 := by
  intro ρ hp hE hT
  have j0 : ρ 0 % 4 = 1 := pz_gj hE 0 (Nat.le_of_ble_eq_true rfl) rfl
  have j1 : ρ 1 % 4 = 1 := pz_gj hE 1 (Nat.le_of_ble_eq_true rfl) rfl
  have j2 : ρ 2 % 4 = 1 := pz_gj hE 2 (Nat.le_of_ble_eq_true rfl) rfl
  obtain ⟨i3a, i3b, i3c, i3d⟩ := pz_gi hE 3 0 4294967295 (Nat.le_of_ble_eq_true rfl) rfl
  obtain ⟨i4a, i4b, i4c, i4d⟩ := pz_gi hE 4 2147483648 2147483687 (Nat.le_of_ble_eq_true rfl) rfl
  obtain ⟨i5a, i5b, i5c, i5d⟩ := pz_gi hE 5 2147483648 2147483653 (Nat.le_of_ble_eq_true rfl) rfl
  have c_deep : ay_at hp 173 28 = some (ρ 5) := ay_gfj hE 702 112 23 173 28 ax_m6 (ax_vlq rfl rfl) (ax_vlj rfl rfl)
  have c_units : ay_at hp 179 0 = some (ρ 4) := ay_gfj hE 726 0 19 179 0 ax_m7 (ax_vlq rfl rfl) (ax_vlj rfl rfl)
  have s1 : (ρ 4 / 4 + 2147483648) % 4294967296 + (4 / 4 + 2147483648) % 4294967296 = (ρ 3 / 4 + 2147483648) % 4294967296 + 2147483648 := pz_gs hE 19 4 15 ax_m8
  obtain ⟨-, -, -, -, -, F151⟩ : ay_ex hp 173 ∧ ay_ex hp 173 ∧ ay_ex hp 173 ∧ ay_ex hp 173 ∧ ay_ex hp 173 ∧ pz_y151 (ρ 0) (ρ 1) (ay_at hp 173 13) (ay_at hp 173 14) (ay_at hp 173 15) (ay_at hp 173 16) (ay_at hp 173 17) := (ax_XF_lt (x := 151) (Nat.le_of_ble_eq_true rfl)).mp (ax_gx hE (151, [3, 7]) ax_m0)
  obtain ⟨-, -, -, -, -, -, -, -, -, -, -, F152⟩ : ay_ex hp 175 ∧ ay_ex hp 176 ∧ ay_ex hp 177 ∧ ay_ex hp 178 ∧ ay_ex hp 179 ∧ ay_ex hp 173 ∧ ay_ex hp 173 ∧ ay_ex hp 173 ∧ ay_ex hp 173 ∧ ay_ex hp 173 ∧ ay_ex hp 181 ∧ pz_y152 0 (ρ 0) (ρ 1) (ay_at hp 175 0) (ay_at hp 176 0) (ay_at hp 177 0) (ay_at hp 178 0) (ay_at hp 179 0) (ay_at hp 173 23) (ay_at hp 173 25) (ay_at hp 173 24) (ay_at hp 173 18) (ay_at hp 173 19) (ay_at hp 181) := (ax_XF_lt (x := 152) (Nat.le_of_ble_eq_true rfl)).mp (ax_gx hE (152, [3, 7]) ax_m1)
  rw [c_units] at F152
  have F178 : pz7 (pz_gt (ρ 0)) (pz_gN (ρ 0)) ((ρ 1) / 4) 8 := (ax_XF_lt (x := 178) (Nat.le_of_ble_eq_true rfl)).mp (ax_gx hE (178, [3, 7]) ax_m2)
  have F207 : pz107 (pz_gt (ρ 0)) (pz_gN (ρ 0)) ((ρ 1) / 4) ((12) / 4) := (ax_XF_lt (x := 207) (Nat.le_of_ble_eq_true rfl)).mp (ax_gx hE (207, [3, 7, 12]) ax_m3)
  have F190 : (pz90 (pz_gt (ρ 0)) (pz_gN (ρ 0)) ((ρ 1) / 4) ((ρ 2) / 4) ∧ 1 ≤ (ρ 2) / 4) := (ax_XF_lt (x := 190) (Nat.le_of_ble_eq_true rfl)).mp (ax_gx hE (190, [3, 7, 11]) ax_m4)
  obtain ⟨-, F195⟩ : ay_ex hp 173 ∧ ay_ln (ay_at hp 173 28) = pz_dp ((ρ 2) / 4) := (ax_XF_lt (x := 195) (Nat.le_of_ble_eq_true rfl)).mp (ax_gx hE (195, [11]) ax_m5)
  rw [c_deep] at F195
  have hd : ρ 5 / 4 = pz_dp (ρ 2 / 4) := F195
  have st := pq_ru6u (pz_m50 F151 F152) F178 F207 (by decide) (by decide) F190.1 (by omega) (show ρ 4 / 4 ≤ 39 by omega)
  obtain ⟨ρ', h1, h2⟩ := pz_pn1 (K := ρ 1 / 4 + 1) (xf := [(652, [726, 0, 15, 3, 27]), (153, [3, 27]), (182, [7, 27]), (179, [3, 27]), (197, [3, 27, 11])]) hE (by decide) (fun ρ' h1 h2 x hx => by
    have q0 : ρ' 0 = ρ 0 := h1 0 (by decide)
    have q1 : ρ' 1 = ρ 1 := h1 1 (by decide)
    have q2 : ρ' 2 = ρ 2 := h1 2 (by decide)
    have q3 : ρ' 3 = ρ 3 := h1 3 (by decide)
    have q4 : ρ' 4 = ρ 4 := h1 4 (by decide)
    have q5 : ρ' 5 = ρ 5 := h1 5 (by decide)
    rcases List.mem_cons.mp hx with e | hx
    · subst e
      refine (ax_XF_wr (x := 152) (Nat.le_of_ble_eq_true rfl)).mpr ?_
      show ay_ex (ax_upd hp 726 (0) (ρ' 3)) 175 ∧ ay_ex (ax_upd hp 726 (0) (ρ' 3)) 176 ∧ ay_ex (ax_upd hp 726 (0) (ρ' 3)) 177 ∧ ay_ex (ax_upd hp 726 (0) (ρ' 3)) 178 ∧ ay_ex (ax_upd hp 726 (0) (ρ' 3)) 179 ∧ ay_ex (ax_upd hp 726 (0) (ρ' 3)) 173 ∧ ay_ex (ax_upd hp 726 (0) (ρ' 3)) 173 ∧ ay_ex (ax_upd hp 726 (0) (ρ' 3)) 173 ∧ ay_ex (ax_upd hp 726 (0) (ρ' 3)) 173 ∧ ay_ex (ax_upd hp 726 (0) (ρ' 3)) 173 ∧ ay_ex (ax_upd hp 726 (0) (ρ' 3)) 181 ∧ pz_y152 0 (ρ' 0) (ρ' 6) (ay_at (ax_upd hp 726 (0) (ρ' 3)) 175 0) (ay_at (ax_upd hp 726 (0) (ρ' 3)) 176 0) (ay_at (ax_upd hp 726 (0) (ρ' 3)) 177 0) (ay_at (ax_upd hp 726 (0) (ρ' 3)) 178 0) (ay_at (ax_upd hp 726 (0) (ρ' 3)) 179 0) (ay_at (ax_upd hp 726 (0) (ρ' 3)) 173 23) (ay_at (ax_upd hp 726 (0) (ρ' 3)) 173 25) (ay_at (ax_upd hp 726 (0) (ρ' 3)) 173 24) (ay_at (ax_upd hp 726 (0) (ρ' 3)) 173 18) (ay_at (ax_upd hp 726 (0) (ρ' 3)) 173 19) (ay_at (ax_upd hp 726 (0) (ρ' 3)) 181)
      rw [q0, q3, h2]
      obtain ⟨o0, ho0⟩ := ay_some hT (q := 179) (g := 49) (n := 2) (ax_wc ax_WW1 ax_cg_179) (ax_wn ax_WW1 ax_cn_49) (j := 0 / 4) (Nat.le_of_ble_eq_true rfl)
      have u1 : ∀ q, q ≠ 179 → ay_at (ax_upd hp 726 0 (ρ 3)) q = ay_at hp q := fun q hq => funext (fun j => ay_upd_ne hT.1 hq j)
      have u2 : ∀ j, ay_at (ax_upd hp 726 0 (ρ 3)) 179 j = if j = 0 then some (ρ 3) else ay_at hp 179 j := fun j => ay_upd_eq hT.1 rfl ho0 j
      refine ⟨ay_ex_upd hT.1 (ax_cellT hT (q := 175) (g := 45) (ax_wc ax_WW1 ax_cg_175)), ay_ex_upd hT.1 (ax_cellT hT (q := 176) (g := 46) (ax_wc ax_WW1 ax_cg_176)), ay_ex_upd hT.1 (ax_cellT hT (q := 177) (g := 47) (ax_wc ax_WW1 ax_cg_177)), ay_ex_upd hT.1 (ax_cellT hT (q := 178) (g := 48) (ax_wc ax_WW1 ax_cg_178)), ay_ex_upd hT.1 (ax_cellT hT (q := 179) (g := 49) (ax_wc ax_WW1 ax_cg_179)), ay_ex_upd hT.1 (ax_cellT hT (q := 173) (g := 11) (ax_wc ax_WW1 ax_cg_173)), ay_ex_upd hT.1 (ax_cellT hT (q := 173) (g := 11) (ax_wc ax_WW1 ax_cg_173)), ay_ex_upd hT.1 (ax_cellT hT (q := 173) (g := 11) (ax_wc ax_WW1 ax_cg_173)), ay_ex_upd hT.1 (ax_cellT hT (q := 173) (g := 11) (ax_wc ax_WW1 ax_cg_173)), ay_ex_upd hT.1 (ax_cellT hT (q := 173) (g := 11) (ax_wc ax_WW1 ax_cg_173)), ay_ex_upd hT.1 (ax_cellT hT (q := 181) (g := 51) (ax_wc ax_WW1 ax_cg_181)), ?_⟩
      rw [u1 175 (Nat.ne_of_beq_eq_false rfl), u1 176 (Nat.ne_of_beq_eq_false rfl), u1 177 (Nat.ne_of_beq_eq_false rfl), u1 178 (Nat.ne_of_beq_eq_false rfl), u2 0, if_pos rfl, u1 173 (Nat.ne_of_beq_eq_false rfl), u1 181 (Nat.ne_of_beq_eq_false rfl)]
      refine pz_l152 (pz_41 _) ?_
      show pz_dt _ _ _ _ _ (ρ 3 / 4) _ _ _ _ _ _ _
      rw [show ρ 3 / 4 = ρ 4 / 4 + 1 by omega]
      exact st.1.2
    rcases List.mem_cons.mp hx with e | hx
    · subst e
      refine (ax_XF_lt (x := 153) (Nat.le_of_ble_eq_true rfl)).mpr ?_
      show ay_ex hp 173 ∧ pz_at (pz_gt (ρ' 0)) (pz_gN (ρ' 0)) (ay_ln (ay_at hp 173 13)) = pz_at (pz_gt (ρ' 0)) (pz_gN (ρ' 0)) (pz_p (pz_cF (ρ' 0) (ρ' 6)))
      rw [q0, h2]
      refine ⟨(ax_cellT hT (q := 173) (g := 11) (ax_wc ax_WW1 ax_cg_173)), ?_⟩
      exact pz_l153 (pz_41 _) st.1.1
    rcases List.mem_cons.mp hx with e | hx
    · subst e
      refine (ax_XF_lt (x := 182) (Nat.le_of_ble_eq_true rfl)).mpr ?_
      show (ρ' 6) / 4 = (ρ' 1) / 4 + 1
      rw [q1, h2]
      rw [pz_41]
    rcases List.mem_cons.mp hx with e | hx
    · subst e
      refine (ax_XF_lt (x := 179) (Nat.le_of_ble_eq_true rfl)).mpr ?_
      show pz7 (pz_gt (ρ' 0)) (pz_gN (ρ' 0)) ((ρ' 6) / 4) 9
      rw [q0, h2]
      rw [pz_41]
      exact st.2.1
    cases List.mem_singleton.mp hx
    refine (ax_XF_lt (x := 197) (Nat.le_of_ble_eq_true rfl)).mpr ?_
    show (pz90 (pz_gt (ρ' 0)) (pz_gN (ρ' 0)) ((ρ' 6) / 4) (pz_strip ((ρ' 2) / 4)) ∧ 1 ≤ (ρ' 2) / 4)
    rw [q0, q2, h2]
    exact ⟨pz_l197 (pz_41 _) st.2.2, F190.2⟩)
  exact ⟨(fun y hy => by cases hy), _, List.mem_cons_self, ρ', h1, h2⟩

theorem axq1_mu6_4 : ax_RO ax_wM1 (ax_XM 1) axu1_mu6_4 := by
  intro ρ hp hE hT
  have j0 : ρ 0 % 4 = 1 := pz_gj hE 0 (Nat.le_of_ble_eq_true rfl) rfl
  have j1 : ρ 1 % 4 = 1 := pz_gj hE 1 (Nat.le_of_ble_eq_true rfl) rfl
  have j2 : ρ 2 % 4 = 1 := pz_gj hE 2 (Nat.le_of_ble_eq_true rfl) rfl
  obtain ⟨i3a, i3b, i3c, i3d⟩ := pz_gi hE 3 0 4294967295 (Nat.le_of_ble_eq_true rfl) rfl
  obtain ⟨i4a, i4b, i4c, i4d⟩ := pz_gi hE 4 2147483648 2147483687 (Nat.le_of_ble_eq_true rfl) rfl
  obtain ⟨i5a, i5b, i5c, i5d⟩ := pz_gi hE 5 2147483648 2147483653 (Nat.le_of_ble_eq_true rfl) rfl
  have c_deep : ay_at hp 173 28 = some (ρ 5) := ay_gfj hE 702 112 23 173 28 ax_m6 (ax_vlq rfl rfl) (ax_vlj rfl rfl)
  have c_units : ay_at hp 179 0 = some (ρ 4) := ay_gfj hE 726 0 19 179 0 ax_m7 (ax_vlq rfl rfl) (ax_vlj rfl rfl)
  have s1 : (ρ 4 / 4 + 2147483648) % 4294967296 + (4 / 4 + 2147483648) % 4294967296 = (ρ 3 / 4 + 2147483648) % 4294967296 + 2147483648 := pz_gs hE 19 4 15 ax_m8
  obtain ⟨-, -, -, -, -, F151⟩ : ay_ex hp 173 ∧ ay_ex hp 173 ∧ ay_ex hp 173 ∧ ay_ex hp 173 ∧ ay_ex hp 173 ∧ pz_y151 (ρ 0) (ρ 1) (ay_at hp 173 13) (ay_at hp 173 14) (ay_at hp 173 15) (ay_at hp 173 16) (ay_at hp 173 17) := (ax_XF_lt (x := 151) (Nat.le_of_ble_eq_true rfl)).mp (ax_gx hE (151, [3, 7]) ax_m0)
  obtain ⟨-, -, -, -, -, -, -, -, -, -, -, F152⟩ : ay_ex hp 175 ∧ ay_ex hp 176 ∧ ay_ex hp 177 ∧ ay_ex hp 178 ∧ ay_ex hp 179 ∧ ay_ex hp 173 ∧ ay_ex hp 173 ∧ ay_ex hp 173 ∧ ay_ex hp 173 ∧ ay_ex hp 173 ∧ ay_ex hp 181 ∧ pz_y152 0 (ρ 0) (ρ 1) (ay_at hp 175 0) (ay_at hp 176 0) (ay_at hp 177 0) (ay_at hp 178 0) (ay_at hp 179 0) (ay_at hp 173 23) (ay_at hp 173 25) (ay_at hp 173 24) (ay_at hp 173 18) (ay_at hp 173 19) (ay_at hp 181) := (ax_XF_lt (x := 152) (Nat.le_of_ble_eq_true rfl)).mp (ax_gx hE (152, [3, 7]) ax_m1)
  rw [c_units] at F152
  have F178 : pz7 (pz_gt (ρ 0)) (pz_gN (ρ 0)) ((ρ 1) / 4) 8 := (ax_XF_lt (x := 178) (Nat.le_of_ble_eq_true rfl)).mp (ax_gx hE (178, [3, 7]) ax_m2)
  have F207 : pz107 (pz_gt (ρ 0)) (pz_gN (ρ 0)) ((ρ 1) / 4) ((16) / 4) := (ax_XF_lt (x := 207) (Nat.le_of_ble_eq_true rfl)).mp (ax_gx hE (207, [3, 7, 16]) ax_m3)
  have F190 : (pz90 (pz_gt (ρ 0)) (pz_gN (ρ 0)) ((ρ 1) / 4) ((ρ 2) / 4) ∧ 1 ≤ (ρ 2) / 4) := (ax_XF_lt (x := 190) (Nat.le_of_ble_eq_true rfl)).mp (ax_gx hE (190, [3, 7, 11]) ax_m4)
  obtain ⟨-, F195⟩ : ay_ex hp 173 ∧ ay_ln (ay_at hp 173 28) = pz_dp ((ρ 2) / 4) := (ax_XF_lt (x := 195) (Nat.le_of_ble_eq_true rfl)).mp (ax_gx hE (195, [11]) ax_m5)
  rw [c_deep] at F195
  have hd : ρ 5 / 4 = pz_dp (ρ 2 / 4) := F195
  have st := pq_ru6u (pz_m50 F151 F152) F178 F207 (by decide) (by decide) F190.1 (by omega) (show ρ 4 / 4 ≤ 39 by omega)
  obtain ⟨ρ', h1, h2⟩ := pz_pn1 (K := ρ 1 / 4 + 1) (xf := [(652, [726, 0, 15, 3, 27]), (153, [3, 27]), (182, [7, 27]), (179, [3, 27]), (197, [3, 27, 11])]) hE (by decide) (fun ρ' h1 h2 x hx => by
    have q0 : ρ' 0 = ρ 0 := h1 0 (by decide)
    have q1 : ρ' 1 = ρ 1 := h1 1 (by decide)
    have q2 : ρ' 2 = ρ 2 := h1 2 (by decide)
    have q3 : ρ' 3 = ρ 3 := h1 3 (by decide)
    have q4 : ρ' 4 = ρ 4 := h1 4 (by decide)
    have q5 : ρ' 5 = ρ 5 := h1 5 (by decide)
    rcases List.mem_cons.mp hx with e | hx
    · subst e
      refine (ax_XF_wr (x := 152) (Nat.le_of_ble_eq_true rfl)).mpr ?_
      show ay_ex (ax_upd hp 726 (0) (ρ' 3)) 175 ∧ ay_ex (ax_upd hp 726 (0) (ρ' 3)) 176 ∧ ay_ex (ax_upd hp 726 (0) (ρ' 3)) 177 ∧ ay_ex (ax_upd hp 726 (0) (ρ' 3)) 178 ∧ ay_ex (ax_upd hp 726 (0) (ρ' 3)) 179 ∧ ay_ex (ax_upd hp 726 (0) (ρ' 3)) 173 ∧ ay_ex (ax_upd hp 726 (0) (ρ' 3)) 173 ∧ ay_ex (ax_upd hp 726 (0) (ρ' 3)) 173 ∧ ay_ex (ax_upd hp 726 (0) (ρ' 3)) 173 ∧ ay_ex (ax_upd hp 726 (0) (ρ' 3)) 173 ∧ ay_ex (ax_upd hp 726 (0) (ρ' 3)) 181 ∧ pz_y152 0 (ρ' 0) (ρ' 6) (ay_at (ax_upd hp 726 (0) (ρ' 3)) 175 0) (ay_at (ax_upd hp 726 (0) (ρ' 3)) 176 0) (ay_at (ax_upd hp 726 (0) (ρ' 3)) 177 0) (ay_at (ax_upd hp 726 (0) (ρ' 3)) 178 0) (ay_at (ax_upd hp 726 (0) (ρ' 3)) 179 0) (ay_at (ax_upd hp 726 (0) (ρ' 3)) 173 23) (ay_at (ax_upd hp 726 (0) (ρ' 3)) 173 25) (ay_at (ax_upd hp 726 (0) (ρ' 3)) 173 24) (ay_at (ax_upd hp 726 (0) (ρ' 3)) 173 18) (ay_at (ax_upd hp 726 (0) (ρ' 3)) 173 19) (ay_at (ax_upd hp 726 (0) (ρ' 3)) 181)
      rw [q0, q3, h2]
      obtain ⟨o0, ho0⟩ := ay_some hT (q := 179) (g := 49) (n := 2) (ax_wc ax_WW1 ax_cg_179) (ax_wn ax_WW1 ax_cn_49) (j := 0 / 4) (Nat.le_of_ble_eq_true rfl)
      have u1 : ∀ q, q ≠ 179 → ay_at (ax_upd hp 726 0 (ρ 3)) q = ay_at hp q := fun q hq => funext (fun j => ay_upd_ne hT.1 hq j)
      have u2 : ∀ j, ay_at (ax_upd hp 726 0 (ρ 3)) 179 j = if j = 0 then some (ρ 3) else ay_at hp 179 j := fun j => ay_upd_eq hT.1 rfl ho0 j
      refine ⟨ay_ex_upd hT.1 (ax_cellT hT (q := 175) (g := 45) (ax_wc ax_WW1 ax_cg_175)), ay_ex_upd hT.1 (ax_cellT hT (q := 176) (g := 46) (ax_wc ax_WW1 ax_cg_176)), ay_ex_upd hT.1 (ax_cellT hT (q := 177) (g := 47) (ax_wc ax_WW1 ax_cg_177)), ay_ex_upd hT.1 (ax_cellT hT (q := 178) (g := 48) (ax_wc ax_WW1 ax_cg_178)), ay_ex_upd hT.1 (ax_cellT hT (q := 179) (g := 49) (ax_wc ax_WW1 ax_cg_179)), ay_ex_upd hT.1 (ax_cellT hT (q := 173) (g := 11) (ax_wc ax_WW1 ax_cg_173)), ay_ex_upd hT.1 (ax_cellT hT (q := 173) (g := 11) (ax_wc ax_WW1 ax_cg_173)), ay_ex_upd hT.1 (ax_cellT hT (q := 173) (g := 11) (ax_wc ax_WW1 ax_cg_173)), ay_ex_upd hT.1 (ax_cellT hT (q := 173) (g := 11) (ax_wc ax_WW1 ax_cg_173)), ay_ex_upd hT.1 (ax_cellT hT (q := 173) (g := 11) (ax_wc ax_WW1 ax_cg_173)), ay_ex_upd hT.1 (ax_cellT hT (q := 181) (g := 51) (ax_wc ax_WW1 ax_cg_181)), ?_⟩
      rw [u1 175 (Nat.ne_of_beq_eq_false rfl), u1 176 (Nat.ne_of_beq_eq_false rfl), u1 177 (Nat.ne_of_beq_eq_false rfl), u1 178 (Nat.ne_of_beq_eq_false rfl), u2 0, if_pos rfl, u1 173 (Nat.ne_of_beq_eq_false rfl), u1 181 (Nat.ne_of_beq_eq_false rfl)]
      refine pz_l152 (pz_41 _) ?_
      show pz_dt _ _ _ _ _ (ρ 3 / 4) _ _ _ _ _ _ _
      rw [show ρ 3 / 4 = ρ 4 / 4 + 1 by omega]
      exact st.1.2
    rcases List.mem_cons.mp hx with e | hx
    · subst e
      refine (ax_XF_lt (x := 153) (Nat.le_of_ble_eq_true rfl)).mpr ?_
      show ay_ex hp 173 ∧ pz_at (pz_gt (ρ' 0)) (pz_gN (ρ' 0)) (ay_ln (ay_at hp 173 13)) = pz_at (pz_gt (ρ' 0)) (pz_gN (ρ' 0)) (pz_p (pz_cF (ρ' 0) (ρ' 6)))
      rw [q0, h2]
      refine ⟨(ax_cellT hT (q := 173) (g := 11) (ax_wc ax_WW1 ax_cg_173)), ?_⟩
      exact pz_l153 (pz_41 _) st.1.1
    rcases List.mem_cons.mp hx with e | hx
    · subst e
      refine (ax_XF_lt (x := 182) (Nat.le_of_ble_eq_true rfl)).mpr ?_
      show (ρ' 6) / 4 = (ρ' 1) / 4 + 1
      rw [q1, h2]
      rw [pz_41]
    rcases List.mem_cons.mp hx with e | hx
    · subst e
      refine (ax_XF_lt (x := 179) (Nat.le_of_ble_eq_true rfl)).mpr ?_
      show pz7 (pz_gt (ρ' 0)) (pz_gN (ρ' 0)) ((ρ' 6) / 4) 9
      rw [q0, h2]
      rw [pz_41]
      exact st.2.1
    cases List.mem_singleton.mp hx
    refine (ax_XF_lt (x := 197) (Nat.le_of_ble_eq_true rfl)).mpr ?_
    show (pz90 (pz_gt (ρ' 0)) (pz_gN (ρ' 0)) ((ρ' 6) / 4) (pz_strip ((ρ' 2) / 4)) ∧ 1 ≤ (ρ' 2) / 4)
    rw [q0, q2, h2]
    exact ⟨pz_l197 (pz_41 _) st.2.2, F190.2⟩)
  exact ⟨(fun y hy => by cases hy), _, List.mem_cons_self, ρ', h1, h2⟩
end
section
theorem axq1_mu7a : ax_RO ax_wM1 (ax_XM 1) axu1_mu7a := axqg_mu7a ax_WW1
theorem axq1_mu7b : ax_RO ax_wM1 (ax_XM 1) axu1_mu7b := axqg_mu7b ax_WW1
theorem axq1_mu8O : ax_RO ax_wM1 (ax_XM 1) axu1_mu8O := axqg_mu8O ax_WW1
theorem axq1_mu9O : ax_RO ax_wM1 (ax_XM 1) axu1_mu9O := axqg_mu9O ax_WW1
theorem axq1_mu8M : ax_RO ax_wM1 (ax_XM 1) axu1_mu8M := axqg_mu8M ax_WW1
theorem axq1_mu9M : ax_RO ax_wM1 (ax_XM 1) axu1_mu9M := axqg_mu9M ax_WW1
theorem axq1_muA : ax_RO ax_wM1 (ax_XM 1) axu1_muA := axqg_muA ax_WW1
theorem axq1_muB : ax_RO ax_wM1 (ax_XM 1) axu1_muB := axqg_muB ax_WW1
theorem axq1_mv1_1 : ax_RO ax_wM1 (ax_XM 1) axu1_mv1_1 := axqg_mv1_1 ax_WW1
theorem axq1_mv2_1 : ax_RO ax_wM1 (ax_XM 1) axu1_mv2_1 := by
  intro ρ hp hE hT
  have j0 : ρ 0 % 4 = 1 := pz_gj hE 0 (Nat.le_of_ble_eq_true rfl) rfl
  have j1 : ρ 1 % 4 = 1 := pz_gj hE 1 (Nat.le_of_ble_eq_true rfl) rfl
  have j2 : ρ 2 % 4 = 1 := pz_gj hE 2 (Nat.le_of_ble_eq_true rfl) rfl
  have j3 : ρ 3 % 4 = 1 := pz_gj hE 3 (Nat.le_of_ble_eq_true rfl) rfl
  have j4 : ρ 4 % 4 = 1 := pz_gj hE 4 (Nat.le_of_ble_eq_true rfl) rfl
  obtain ⟨i5a, i5b, i5c, i5d⟩ := pz_gi hE 5 2147483648 2147484647 (Nat.le_of_ble_eq_true rfl) rfl
  obtain ⟨-, -, -, -, -, F151⟩ : ay_ex hp 173 ∧ ay_ex hp 173 ∧ ay_ex hp 173 ∧ ay_ex hp 173 ∧ ay_ex hp 173 ∧ pz_y151 (ρ 0) (ρ 1) (ay_at hp 173 13) (ay_at hp 173 14) (ay_at hp 173 15) (ay_at hp 173 16) (ay_at hp 173 17) := (ax_XF_lt (x := 151) (Nat.le_of_ble_eq_true rfl)).mp (ax_gx hE (151, [3, 7]) (by decide))
  have F257 : py_257 (pz_gt (ρ 0)) (pz_gN (ρ 0)) ((ρ 1) / 4) (ρ 2) (ρ 3) (ρ 5) := (ax_XF_lt (x := 257) (Nat.le_of_ble_eq_true rfl)).mp (ax_gx hE (257, [3, 7, 11, 15, 23]) (by decide))
  obtain ⟨-, -, F242⟩ : ay_ex hp 173 ∧ ay_ex hp 185 ∧ py_y242 (ρ 2) (ay_at hp 173 27) (ay_at hp 185) := (ax_XF_lt (x := 242) (Nat.le_of_ble_eq_true rfl)).mp (ax_gx hE (242, [11]) (by decide))
  obtain ⟨-, -, F241⟩ : ay_ex hp 180 ∧ ay_ex hp 182 ∧ py_y241 0 (ρ 4) (ay_at hp 180 0) (ay_at hp 182) := (ax_XF_lt (x := 241) (Nat.le_of_ble_eq_true rfl)).mp (ax_gx hE (241, [19]) (by decide))
  have F251 : py_251 (ρ 4) (ρ 5) (ρ 3) := (ax_XF_lt (x := 251) (Nat.le_of_ble_eq_true rfl)).mp (ax_gx hE (251, [19, 23, 15]) (by decide))
  refine ⟨(fun y hy => by cases hy), _, List.mem_cons_self, ρ, fun _ _ => rfl, ax_px hE rfl (fun x hx => ?_)⟩
  rcases List.mem_cons.mp hx with e | hx
  · subst e
    refine (ax_XF_lt (x := 247) (Nat.le_of_ble_eq_true rfl)).mpr ?_
    show py_247 (pz_gt (ρ 0)) (pz_gN (ρ 0)) ((ρ 1) / 4) (ρ 2) (ρ 4)
    exact pm_mv2 F257 F251
  cases List.mem_singleton.mp hx
  refine (ax_XF_lt (x := 249) (Nat.le_of_ble_eq_true rfl)).mpr ?_
  show py_249 (ρ 2) (ρ 4) (ρ 2) (ρ 4)
  exact (rfl : py_neg _ _ = _)

theorem axq1_mv1_2 : ax_RO ax_wM1 (ax_XM 1) axu1_mv1_2 := axqg_mv1_2 ax_WW1
theorem axq1_mv2_2 : ax_RO ax_wM1 (ax_XM 1) axu1_mv2_2 := by
  intro ρ hp hE hT
  have j0 : ρ 0 % 4 = 1 := pz_gj hE 0 (Nat.le_of_ble_eq_true rfl) rfl
  have j1 : ρ 1 % 4 = 1 := pz_gj hE 1 (Nat.le_of_ble_eq_true rfl) rfl
  have j2 : ρ 2 % 4 = 1 := pz_gj hE 2 (Nat.le_of_ble_eq_true rfl) rfl
  have j3 : ρ 3 % 4 = 1 := pz_gj hE 3 (Nat.le_of_ble_eq_true rfl) rfl
  have j4 : ρ 4 % 4 = 1 := pz_gj hE 4 (Nat.le_of_ble_eq_true rfl) rfl
  obtain ⟨-, -, -, -, -, F151⟩ : ay_ex hp 173 ∧ ay_ex hp 173 ∧ ay_ex hp 173 ∧ ay_ex hp 173 ∧ ay_ex hp 173 ∧ pz_y151 (ρ 0) (ρ 1) (ay_at hp 173 13) (ay_at hp 173 14) (ay_at hp 173 15) (ay_at hp 173 16) (ay_at hp 173 17) := (ax_XF_lt (x := 151) (Nat.le_of_ble_eq_true rfl)).mp (ax_gx hE (151, [3, 7]) (by decide))
  have F257 : py_257 (pz_gt (ρ 0)) (pz_gN (ρ 0)) ((ρ 1) / 4) (ρ 2) (ρ 3) (4000) := (ax_XF_lt (x := 257) (Nat.le_of_ble_eq_true rfl)).mp (ax_gx hE (257, [3, 7, 11, 15, 4000]) (by decide))
  obtain ⟨-, -, F242⟩ : ay_ex hp 173 ∧ ay_ex hp 185 ∧ py_y242 (ρ 2) (ay_at hp 173 27) (ay_at hp 185) := (ax_XF_lt (x := 242) (Nat.le_of_ble_eq_true rfl)).mp (ax_gx hE (242, [11]) (by decide))
  obtain ⟨-, -, F241⟩ : ay_ex hp 180 ∧ ay_ex hp 182 ∧ py_y241 0 (ρ 4) (ay_at hp 180 0) (ay_at hp 182) := (ax_XF_lt (x := 241) (Nat.le_of_ble_eq_true rfl)).mp (ax_gx hE (241, [19]) (by decide))
  have F251 : py_251 (ρ 4) (4000) (ρ 3) := (ax_XF_lt (x := 251) (Nat.le_of_ble_eq_true rfl)).mp (ax_gx hE (251, [19, 4000, 15]) (by decide))
  refine ⟨(fun y hy => by cases hy), _, List.mem_cons_self, ρ, fun _ _ => rfl, ax_px hE rfl (fun x hx => ?_)⟩
  rcases List.mem_cons.mp hx with e | hx
  · subst e
    refine (ax_XF_lt (x := 247) (Nat.le_of_ble_eq_true rfl)).mpr ?_
    show py_247 (pz_gt (ρ 0)) (pz_gN (ρ 0)) ((ρ 1) / 4) (ρ 2) (ρ 4)
    exact pm_mv2 F257 F251
  cases List.mem_singleton.mp hx
  refine (ax_XF_lt (x := 249) (Nat.le_of_ble_eq_true rfl)).mpr ?_
  show py_249 (ρ 2) (ρ 4) (ρ 2) (ρ 4)
  exact (rfl : py_neg _ _ = _)

theorem axq1_mv1_3 : ax_RO ax_wM1 (ax_XM 1) axu1_mv1_3 := axqg_mv1_3 ax_WW1
theorem axq1_mv2_3 : ax_RO ax_wM1 (ax_XM 1) axu1_mv2_3 := by
  intro ρ hp hE hT
  have j0 : ρ 0 % 4 = 1 := pz_gj hE 0 (Nat.le_of_ble_eq_true rfl) rfl
  have j1 : ρ 1 % 4 = 1 := pz_gj hE 1 (Nat.le_of_ble_eq_true rfl) rfl
  have j2 : ρ 2 % 4 = 1 := pz_gj hE 2 (Nat.le_of_ble_eq_true rfl) rfl
  have j3 : ρ 3 % 4 = 1 := pz_gj hE 3 (Nat.le_of_ble_eq_true rfl) rfl
  have j4 : ρ 4 % 4 = 1 := pz_gj hE 4 (Nat.le_of_ble_eq_true rfl) rfl
  obtain ⟨-, -, -, -, -, F151⟩ : ay_ex hp 173 ∧ ay_ex hp 173 ∧ ay_ex hp 173 ∧ ay_ex hp 173 ∧ ay_ex hp 173 ∧ pz_y151 (ρ 0) (ρ 1) (ay_at hp 173 13) (ay_at hp 173 14) (ay_at hp 173 15) (ay_at hp 173 16) (ay_at hp 173 17) := (ax_XF_lt (x := 151) (Nat.le_of_ble_eq_true rfl)).mp (ax_gx hE (151, [3, 7]) (by decide))
  have F257 : py_257 (pz_gt (ρ 0)) (pz_gN (ρ 0)) ((ρ 1) / 4) (ρ 2) (ρ 3) (4004) := (ax_XF_lt (x := 257) (Nat.le_of_ble_eq_true rfl)).mp (ax_gx hE (257, [3, 7, 11, 15, 4004]) (by decide))
  obtain ⟨-, -, F242⟩ : ay_ex hp 173 ∧ ay_ex hp 185 ∧ py_y242 (ρ 2) (ay_at hp 173 27) (ay_at hp 185) := (ax_XF_lt (x := 242) (Nat.le_of_ble_eq_true rfl)).mp (ax_gx hE (242, [11]) (by decide))
  obtain ⟨-, -, F241⟩ : ay_ex hp 180 ∧ ay_ex hp 182 ∧ py_y241 0 (ρ 4) (ay_at hp 180 0) (ay_at hp 182) := (ax_XF_lt (x := 241) (Nat.le_of_ble_eq_true rfl)).mp (ax_gx hE (241, [19]) (by decide))
  have F251 : py_251 (ρ 4) (4004) (ρ 3) := (ax_XF_lt (x := 251) (Nat.le_of_ble_eq_true rfl)).mp (ax_gx hE (251, [19, 4004, 15]) (by decide))
  refine ⟨(fun y hy => by cases hy), _, List.mem_cons_self, ρ, fun _ _ => rfl, ax_px hE rfl (fun x hx => ?_)⟩
  rcases List.mem_cons.mp hx with e | hx
  · subst e
    refine (ax_XF_lt (x := 247) (Nat.le_of_ble_eq_true rfl)).mpr ?_
    show py_247 (pz_gt (ρ 0)) (pz_gN (ρ 0)) ((ρ 1) / 4) (ρ 2) (ρ 4)
    exact pm_mv2 F257 F251
  cases List.mem_singleton.mp hx
  refine (ax_XF_lt (x := 249) (Nat.le_of_ble_eq_true rfl)).mpr ?_
  show py_249 (ρ 2) (ρ 4) (ρ 2) (ρ 4)
  exact (rfl : py_neg _ _ = _)

theorem axq1_mv1_4 : ax_RO ax_wM1 (ax_XM 1) axu1_mv1_4 := axqg_mv1_4 ax_WW1
theorem axq1_mv2_4 : ax_RO ax_wM1 (ax_XM 1) axu1_mv2_4 := by
  intro ρ hp hE hT
  have j0 : ρ 0 % 4 = 1 := pz_gj hE 0 (Nat.le_of_ble_eq_true rfl) rfl
  have j1 : ρ 1 % 4 = 1 := pz_gj hE 1 (Nat.le_of_ble_eq_true rfl) rfl
  have j2 : ρ 2 % 4 = 1 := pz_gj hE 2 (Nat.le_of_ble_eq_true rfl) rfl
  have j3 : ρ 3 % 4 = 1 := pz_gj hE 3 (Nat.le_of_ble_eq_true rfl) rfl
  have j4 : ρ 4 % 4 = 1 := pz_gj hE 4 (Nat.le_of_ble_eq_true rfl) rfl
  obtain ⟨-, -, -, -, -, F151⟩ : ay_ex hp 173 ∧ ay_ex hp 173 ∧ ay_ex hp 173 ∧ ay_ex hp 173 ∧ ay_ex hp 173 ∧ pz_y151 (ρ 0) (ρ 1) (ay_at hp 173 13) (ay_at hp 173 14) (ay_at hp 173 15) (ay_at hp 173 16) (ay_at hp 173 17) := (ax_XF_lt (x := 151) (Nat.le_of_ble_eq_true rfl)).mp (ax_gx hE (151, [3, 7]) (by decide))
  have F257 : py_257 (pz_gt (ρ 0)) (pz_gN (ρ 0)) ((ρ 1) / 4) (ρ 2) (ρ 3) (4008) := (ax_XF_lt (x := 257) (Nat.le_of_ble_eq_true rfl)).mp (ax_gx hE (257, [3, 7, 11, 15, 4008]) (by decide))
  obtain ⟨-, -, F242⟩ : ay_ex hp 173 ∧ ay_ex hp 185 ∧ py_y242 (ρ 2) (ay_at hp 173 27) (ay_at hp 185) := (ax_XF_lt (x := 242) (Nat.le_of_ble_eq_true rfl)).mp (ax_gx hE (242, [11]) (by decide))
  obtain ⟨-, -, F241⟩ : ay_ex hp 180 ∧ ay_ex hp 182 ∧ py_y241 0 (ρ 4) (ay_at hp 180 0) (ay_at hp 182) := (ax_XF_lt (x := 241) (Nat.le_of_ble_eq_true rfl)).mp (ax_gx hE (241, [19]) (by decide))
  have F251 : py_251 (ρ 4) (4008) (ρ 3) := (ax_XF_lt (x := 251) (Nat.le_of_ble_eq_true rfl)).mp (ax_gx hE (251, [19, 4008, 15]) (by decide))
  refine ⟨(fun y hy => by cases hy), _, List.mem_cons_self, ρ, fun _ _ => rfl, ax_px hE rfl (fun x hx => ?_)⟩
  rcases List.mem_cons.mp hx with e | hx
  · subst e
    refine (ax_XF_lt (x := 247) (Nat.le_of_ble_eq_true rfl)).mpr ?_
    show py_247 (pz_gt (ρ 0)) (pz_gN (ρ 0)) ((ρ 1) / 4) (ρ 2) (ρ 4)
    exact pm_mv2 F257 F251
  cases List.mem_singleton.mp hx
  refine (ax_XF_lt (x := 249) (Nat.le_of_ble_eq_true rfl)).mpr ?_
  show py_249 (ρ 2) (ρ 4) (ρ 2) (ρ 4)
  exact (rfl : py_neg _ _ = _)

theorem axq1_md1_5 : ax_RO ax_wM1 (ax_XM 1) axu1_md1_5 := axqg_md1_5 ax_WW1
theorem axq1_md1_6 : ax_RO ax_wM1 (ax_XM 1) axu1_md1_6 := axqg_md1_6 ax_WW1
theorem axq1_md1_7 : ax_RO ax_wM1 (ax_XM 1) axu1_md1_7 := axqg_md1_7 ax_WW1
theorem axq1_md2a : ax_RO ax_wM1 (ax_XM 1) axu1_md2a := axqg_md2a ax_WW1
theorem axq1_md2b : ax_RO ax_wM1 (ax_XM 1) axu1_md2b := axqg_md2b ax_WW1
theorem axq1_md3_5_6 : ax_RO ax_wM1 (ax_XM 1) axu1_md3_5_6 := axqg_md3_5_6 ax_WW1
theorem axq1_md3_5_7 : ax_RO ax_wM1 (ax_XM 1) axu1_md3_5_7 := axqg_md3_5_7 ax_WW1
theorem axq1_md3_6_7 : ax_RO ax_wM1 (ax_XM 1) axu1_md3_6_7 := axqg_md3_6_7 ax_WW1
theorem axq1_md3_6_5 : ax_RO ax_wM1 (ax_XM 1) axu1_md3_6_5 := axqg_md3_6_5 ax_WW1
theorem axq1_md4a_222_5 : ax_RO ax_wM1 (ax_XM 1) axu1_md4a_222_5 := axqg_md4a_222_5 ax_WW1
theorem axq1_md4b_222_5 : ax_RO ax_wM1 (ax_XM 1) axu1_md4b_222_5 := axqg_md4b_222_5 ax_WW1
theorem axq1_md4a_237_6 : ax_RO ax_wM1 (ax_XM 1) axu1_md4a_237_6 := axqg_md4a_237_6 ax_WW1
theorem axq1_md4b_237_6 : ax_RO ax_wM1 (ax_XM 1) axu1_md4b_237_6 := axqg_md4b_237_6 ax_WW1
theorem axq1_md4a_237_5 : ax_RO ax_wM1 (ax_XM 1) axu1_md4a_237_5 := axqg_md4a_237_5 ax_WW1
theorem axq1_md4b_237_5 : ax_RO ax_wM1 (ax_XM 1) axu1_md4b_237_5 := axqg_md4b_237_5 ax_WW1
theorem axq1_mv3 : ax_RO ax_wM1 (ax_XM 1) axu1_mv3 := by
  intro ρ hp hE hT
  have j0 : ρ 0 % 4 = 1 := pz_gj hE 0 (Nat.le_of_ble_eq_true rfl) rfl
  have j1 : ρ 1 % 4 = 1 := pz_gj hE 1 (Nat.le_of_ble_eq_true rfl) rfl
  have j2 : ρ 2 % 4 = 1 := pz_gj hE 2 (Nat.le_of_ble_eq_true rfl) rfl
  have j3 : ρ 3 % 4 = 1 := pz_gj hE 3 (Nat.le_of_ble_eq_true rfl) rfl
  have j4 : ρ 4 % 4 = 1 := pz_gj hE 4 (Nat.le_of_ble_eq_true rfl) rfl
  have j5 : ρ 5 % 4 = 1 := pz_gj hE 5 (Nat.le_of_ble_eq_true rfl) rfl
  obtain ⟨-, -, -, -, -, F151⟩ : ay_ex hp 173 ∧ ay_ex hp 173 ∧ ay_ex hp 173 ∧ ay_ex hp 173 ∧ ay_ex hp 173 ∧ pz_y151 (ρ 0) (ρ 1) (ay_at hp 173 13) (ay_at hp 173 14) (ay_at hp 173 15) (ay_at hp 173 16) (ay_at hp 173 17) := (ax_XF_lt (x := 151) (Nat.le_of_ble_eq_true rfl)).mp (ax_gx hE (151, [3, 7]) (by decide))
  have F247 : py_247 (pz_gt (ρ 0)) (pz_gN (ρ 0)) ((ρ 1) / 4) (ρ 2) (ρ 3) := (ax_XF_lt (x := 247) (Nat.le_of_ble_eq_true rfl)).mp (ax_gx hE (247, [3, 7, 11, 15]) (by decide))
  have F253 : py_253 (ρ 2) (ρ 3) (ρ 4) (ρ 5) := (ax_XF_lt (x := 253) (Nat.le_of_ble_eq_true rfl)).mp (ax_gx hE (253, [11, 15, 19, 23]) (by decide))
  obtain ⟨-, -, F242⟩ : ay_ex hp 173 ∧ ay_ex hp 185 ∧ py_y242 (ρ 4) (ay_at hp 173 27) (ay_at hp 185) := (ax_XF_lt (x := 242) (Nat.le_of_ble_eq_true rfl)).mp (ax_gx hE (242, [19]) (by decide))
  obtain ⟨-, -, F241⟩ : ay_ex hp 180 ∧ ay_ex hp 182 ∧ py_y241 0 (ρ 5) (ay_at hp 180 0) (ay_at hp 182) := (ax_XF_lt (x := 241) (Nat.le_of_ble_eq_true rfl)).mp (ax_gx hE (241, [23]) (by decide))
  refine ⟨(fun y hy => by cases hy), _, List.mem_cons_self, ρ, fun _ _ => rfl, ax_px hE rfl (fun x hx => ?_)⟩
  cases List.mem_singleton.mp hx
  refine (ax_XF_lt (x := 246) (Nat.le_of_ble_eq_true rfl)).mpr ?_
  show py_y246 (pz_gt (ρ 0)) (pz_gN (ρ 0)) ((ρ 1) / 4) (ρ 4) (ρ 5)
  exact pm_cq5 F247 F253

theorem axq1_mv4_40 : ax_RO ax_wM1 (ax_XM 1) axu1_mv4_40 := axqg_mv4_40 ax_WW1
theorem axq1_mv5_40 : ax_RO ax_wM1 (ax_XM 1) axu1_mv5_40 := axqg_mv5_40 ax_WW1
theorem axq1_mv4_5 : ax_RO ax_wM1 (ax_XM 1) axu1_mv4_5 := axqg_mv4_5 ax_WW1
theorem axq1_mv5_5 : ax_RO ax_wM1 (ax_XM 1) axu1_mv5_5 := axqg_mv5_5 ax_WW1
theorem axq1_bn_43 : ax_RO ax_wM1 (ax_XM 1) axu1_bn_43 := axqg_bn_43 ax_WW1
theorem axq1_bn_45 : ax_RO ax_wM1 (ax_XM 1) axu1_bn_45 := axqg_bn_45 ax_WW1
theorem axq1_bn_42 : ax_RO ax_wM1 (ax_XM 1) axu1_bn_42 := axqg_bn_42 ax_WW1
theorem axq1_bn_47 : ax_RO ax_wM1 (ax_XM 1) axu1_bn_47 := axqg_bn_47 ax_WW1
theorem axq1_bn_37 : ax_RO ax_wM1 (ax_XM 1) axu1_bn_37 := axqg_bn_37 ax_WW1
theorem axq1_bnD : ax_RO ax_wM1 (ax_XM 1) axu1_bnD := axqg_bnD ax_WW1
theorem axq1_bnN : ax_RO ax_wM1 (ax_XM 1) axu1_bnN := axqg_bnN ax_WW1
theorem axq1_bm_43 : ax_RO ax_wM1 (ax_XM 1) axu1_bm_43 := axqg_bm_43 ax_WW1
theorem axq1_bm_45 : ax_RO ax_wM1 (ax_XM 1) axu1_bm_45 := axqg_bm_45 ax_WW1
theorem axq1_bm_42 : ax_RO ax_wM1 (ax_XM 1) axu1_bm_42 := axqg_bm_42 ax_WW1
theorem axq1_bm_47 : ax_RO ax_wM1 (ax_XM 1) axu1_bm_47 := axqg_bm_47 ax_WW1
theorem axq1_bm_37 : ax_RO ax_wM1 (ax_XM 1) axu1_bm_37 := axqg_bm_37 ax_WW1
theorem axq1_mb1 : ax_RO ax_wM1 (ax_XM 1) axu1_mb1 := by
  intro ρ hp hE hT
  have j0 : ρ 0 % 4 = 1 := pz_gj hE 0 (Nat.le_of_ble_eq_true rfl) rfl
  have j1 : ρ 1 % 4 = 1 := pz_gj hE 1 (Nat.le_of_ble_eq_true rfl) rfl
  have j2 : ρ 2 % 4 = 1 := pz_gj hE 2 (Nat.le_of_ble_eq_true rfl) rfl
  obtain ⟨-, -, -, -, -, F151⟩ : ay_ex hp 173 ∧ ay_ex hp 173 ∧ ay_ex hp 173 ∧ ay_ex hp 173 ∧ ay_ex hp 173 ∧ pz_y151 (ρ 0) (ρ 1) (ay_at hp 173 13) (ay_at hp 173 14) (ay_at hp 173 15) (ay_at hp 173 16) (ay_at hp 173 17) := (ax_XF_lt (x := 151) (Nat.le_of_ble_eq_true rfl)).mp (ax_gx hE (151, [3, 7]) (by decide))
  obtain ⟨-, -, -, -, -, -, -, -, -, -, -, F152⟩ : ay_ex hp 175 ∧ ay_ex hp 176 ∧ ay_ex hp 177 ∧ ay_ex hp 178 ∧ ay_ex hp 179 ∧ ay_ex hp 173 ∧ ay_ex hp 173 ∧ ay_ex hp 173 ∧ ay_ex hp 173 ∧ ay_ex hp 173 ∧ ay_ex hp 181 ∧ pz_y152 0 (ρ 0) (ρ 1) (ay_at hp 175 0) (ay_at hp 176 0) (ay_at hp 177 0) (ay_at hp 178 0) (ay_at hp 179 0) (ay_at hp 173 23) (ay_at hp 173 25) (ay_at hp 173 24) (ay_at hp 173 18) (ay_at hp 173 19) (ay_at hp 181) := (ax_XF_lt (x := 152) (Nat.le_of_ble_eq_true rfl)).mp (ax_gx hE (152, [3, 7]) (by decide))
  have F179 : pz7 (pz_gt (ρ 0)) (pz_gN (ρ 0)) ((ρ 1) / 4) 9 := (ax_XF_lt (x := 179) (Nat.le_of_ble_eq_true rfl)).mp (ax_gx hE (179, [3, 7]) (by decide))
  have F190 : (pz90 (pz_gt (ρ 0)) (pz_gN (ρ 0)) ((ρ 1) / 4) ((ρ 2) / 4) ∧ 1 ≤ (ρ 2) / 4) := (ax_XF_lt (x := 190) (Nat.le_of_ble_eq_true rfl)).mp (ax_gx hE (190, [3, 7, 11]) (by decide))
  have F198 : pz_op (pz_kd (pz_gt (ρ 0)) (pz_gN (ρ 0)) (pz_p (pz_cF (ρ 0) (ρ 1)))) = true := (ax_XF_lt (x := 198) (Nat.le_of_ble_eq_true rfl)).mp (ax_gx hE (198, [3, 7]) (by decide))
  have st := pq_op (pz_m50 F151 F152) F179 F190.1 F198
  obtain ⟨ρ', h1, h2⟩ := pz_pn1 (K := ρ 1 / 4 + 1) (xf := [(153, [3, 15]), (182, [7, 15]), (152, [3, 15]), (178, [3, 15]), (190, [3, 15, 11])]) hE (by decide) (fun ρ' h1 h2 x hx => by
    have q0 : ρ' 0 = ρ 0 := h1 0 (by decide)
    have q1 : ρ' 1 = ρ 1 := h1 1 (by decide)
    have q2 : ρ' 2 = ρ 2 := h1 2 (by decide)
    rcases List.mem_cons.mp hx with e | hx
    · subst e
      refine (ax_XF_lt (x := 153) (Nat.le_of_ble_eq_true rfl)).mpr ?_
      show ay_ex hp 173 ∧ pz_at (pz_gt (ρ' 0)) (pz_gN (ρ' 0)) (ay_ln (ay_at hp 173 13)) = pz_at (pz_gt (ρ' 0)) (pz_gN (ρ' 0)) (pz_p (pz_cF (ρ' 0) (ρ' 3)))
      rw [q0, h2]
      refine ⟨(ax_cellT hT (q := 173) (g := 11) (ax_wc ax_WW1 ax_cg_173)), ?_⟩
      exact pz_l153 (pz_41 _) st.1.1
    rcases List.mem_cons.mp hx with e | hx
    · subst e
      refine (ax_XF_lt (x := 182) (Nat.le_of_ble_eq_true rfl)).mpr ?_
      show (ρ' 3) / 4 = (ρ' 1) / 4 + 1
      rw [q1, h2]
      rw [pz_41]
    rcases List.mem_cons.mp hx with e | hx
    · subst e
      refine (ax_XF_lt (x := 152) (Nat.le_of_ble_eq_true rfl)).mpr ?_
      show ay_ex hp 175 ∧ ay_ex hp 176 ∧ ay_ex hp 177 ∧ ay_ex hp 178 ∧ ay_ex hp 179 ∧ ay_ex hp 173 ∧ ay_ex hp 173 ∧ ay_ex hp 173 ∧ ay_ex hp 173 ∧ ay_ex hp 173 ∧ ay_ex hp 181 ∧ pz_y152 0 (ρ' 0) (ρ' 3) (ay_at hp 175 0) (ay_at hp 176 0) (ay_at hp 177 0) (ay_at hp 178 0) (ay_at hp 179 0) (ay_at hp 173 23) (ay_at hp 173 25) (ay_at hp 173 24) (ay_at hp 173 18) (ay_at hp 173 19) (ay_at hp 181)
      rw [q0, h2]
      refine ⟨(ax_cellT hT (q := 175) (g := 45) (ax_wc ax_WW1 ax_cg_175)), (ax_cellT hT (q := 176) (g := 46) (ax_wc ax_WW1 ax_cg_176)), (ax_cellT hT (q := 177) (g := 47) (ax_wc ax_WW1 ax_cg_177)), (ax_cellT hT (q := 178) (g := 48) (ax_wc ax_WW1 ax_cg_178)), (ax_cellT hT (q := 179) (g := 49) (ax_wc ax_WW1 ax_cg_179)), (ax_cellT hT (q := 173) (g := 11) (ax_wc ax_WW1 ax_cg_173)), (ax_cellT hT (q := 173) (g := 11) (ax_wc ax_WW1 ax_cg_173)), (ax_cellT hT (q := 173) (g := 11) (ax_wc ax_WW1 ax_cg_173)), (ax_cellT hT (q := 173) (g := 11) (ax_wc ax_WW1 ax_cg_173)), (ax_cellT hT (q := 173) (g := 11) (ax_wc ax_WW1 ax_cg_173)), (ax_cellT hT (q := 181) (g := 51) (ax_wc ax_WW1 ax_cg_181)), ?_⟩
      exact pz_l152 (pz_41 _) st.1.2
    rcases List.mem_cons.mp hx with e | hx
    · subst e
      refine (ax_XF_lt (x := 178) (Nat.le_of_ble_eq_true rfl)).mpr ?_
      show pz7 (pz_gt (ρ' 0)) (pz_gN (ρ' 0)) ((ρ' 3) / 4) 8
      rw [q0, h2]
      rw [pz_41]
      exact st.2.1
    cases List.mem_singleton.mp hx
    refine (ax_XF_lt (x := 190) (Nat.le_of_ble_eq_true rfl)).mpr ?_
    show (pz90 (pz_gt (ρ' 0)) (pz_gN (ρ' 0)) ((ρ' 3) / 4) ((ρ' 2) / 4) ∧ 1 ≤ (ρ' 2) / 4)
    rw [q0, q2, h2]
    exact ⟨pz_l197 (pz_41 _) st.2.2, F190.2⟩)
  exact ⟨(fun y hy => by cases hy), _, List.mem_cons_self, ρ', h1, h2⟩

theorem axq1_mc0 : ax_RO ax_wM1 (ax_XM 1) axu1_mc0 := by
  intro ρ hp hE hT
  have j0 : ρ 0 % 4 = 1 := pz_gj hE 0 (Nat.le_of_ble_eq_true rfl) rfl
  have j1 : ρ 1 % 4 = 1 := pz_gj hE 1 (Nat.le_of_ble_eq_true rfl) rfl
  obtain ⟨i2a, i2b, i2c, i2d⟩ := pz_gi hE 2 2147484651 2147484655 (Nat.le_of_ble_eq_true rfl) rfl
  obtain ⟨-, -, F242⟩ : ay_ex hp 173 ∧ ay_ex hp 185 ∧ py_y242 (ρ 0) (ay_at hp 173 27) (ay_at hp 185) := (ax_XF_lt (x := 242) (Nat.le_of_ble_eq_true rfl)).mp (ax_gx hE (242, [3]) (by decide))
  obtain ⟨-, -, F241⟩ : ay_ex hp 180 ∧ ay_ex hp 182 ∧ py_y241 0 (ρ 1) (ay_at hp 180 0) (ay_at hp 182) := (ax_XF_lt (x := 241) (Nat.le_of_ble_eq_true rfl)).mp (ax_gx hE (241, [7]) (by decide))
  refine ⟨(fun y hy => by cases hy), _, List.mem_cons_self, ρ, fun _ _ => rfl, ax_px hE rfl (fun x hx => ?_)⟩
  cases List.mem_singleton.mp hx
  refine (ax_XF_lt (x := 250) (Nat.le_of_ble_eq_true rfl)).mpr ?_
  show py_250 (ρ 2) (ρ 0) (ρ 1) (ρ 0) (ρ 1)
  exact (rfl : py_pop _ _ _ = _)

theorem axq1_mc1 : ax_RO ax_wM1 (ax_XM 1) axu1_mc1 := axqg_mc1 ax_WW1
theorem axq1_mc2a : ax_RO ax_wM1 (ax_XM 1) axu1_mc2a := by
  intro ρ hp hE hT
  have j0 : ρ 0 % 4 = 1 := pz_gj hE 0 (Nat.le_of_ble_eq_true rfl) rfl
  have j1 : ρ 1 % 4 = 1 := pz_gj hE 1 (Nat.le_of_ble_eq_true rfl) rfl
  have j2 : ρ 2 % 4 = 1 := pz_gj hE 2 (Nat.le_of_ble_eq_true rfl) rfl
  have j3 : ρ 3 % 4 = 1 := pz_gj hE 3 (Nat.le_of_ble_eq_true rfl) rfl
  have j4 : ρ 4 % 4 = 1 := pz_gj hE 4 (Nat.le_of_ble_eq_true rfl) rfl
  have j5 : ρ 5 % 4 = 1 := pz_gj hE 5 (Nat.le_of_ble_eq_true rfl) rfl
  obtain ⟨i6a, i6b, i6c, i6d⟩ := pz_gi hE 6 2147484651 2147484652 (Nat.le_of_ble_eq_true rfl) rfl
  obtain ⟨i7a, i7b, i7c, i7d⟩ := pz_gi hE 7 2147484651 2147484655 (Nat.le_of_ble_eq_true rfl) rfl
  obtain ⟨i8a, i8b, i8c, i8d⟩ := pz_gi hE 8 2147484651 2147484655 (Nat.le_of_ble_eq_true rfl) rfl
  obtain ⟨-, -, F242⟩ : ay_ex hp 173 ∧ ay_ex hp 185 ∧ py_y242 (ρ 4) (ay_at hp 173 27) (ay_at hp 185) := (ax_XF_lt (x := 242) (Nat.le_of_ble_eq_true rfl)).mp (ax_gx hE (242, [19]) (by decide))
  obtain ⟨-, -, F241⟩ : ay_ex hp 180 ∧ ay_ex hp 182 ∧ py_y241 0 (ρ 5) (ay_at hp 180 0) (ay_at hp 182) := (ax_XF_lt (x := 241) (Nat.le_of_ble_eq_true rfl)).mp (ax_gx hE (241, [23]) (by decide))
  have F251 : py_251 (ρ 2) (ρ 7) (ρ 4) := (ax_XF_lt (x := 251) (Nat.le_of_ble_eq_true rfl)).mp (ax_gx hE (251, [11, 31, 19]) (by decide))
  have F251a : py_251 (ρ 5) (ρ 7) (ρ 3) := (ax_XF_lt (x := 251) (Nat.le_of_ble_eq_true rfl)).mp (ax_gx hE (251, [23, 31, 15]) (by decide))
  have F256 : py_256 (ρ 2) (ρ 8) := (ax_XF_lt (x := 256) (Nat.le_of_ble_eq_true rfl)).mp (ax_gx hE (256, [11, 35]) (by decide))
  have F250 : py_250 (ρ 6) (ρ 0) (ρ 1) (ρ 2) (ρ 3) := (ax_XF_lt (x := 250) (Nat.le_of_ble_eq_true rfl)).mp (ax_gx hE (250, [27, 3, 7, 11, 15]) (by decide))
  refine ⟨(fun y hy => by cases hy), _, List.mem_cons_self, ρ, fun _ _ => rfl, ax_px hE rfl (fun x hx => ?_)⟩
  cases List.mem_singleton.mp hx
  refine (ax_XF_lt (x := 250) (Nat.le_of_ble_eq_true rfl)).mpr ?_
  show py_250 (ρ 6) (ρ 0) (ρ 1) (ρ 4) (ρ 5)
  exact pm_cq1 F250 F251 F251a (by rw [py_bd_a (c := ρ 6 / 4) (by omega) (by omega)]; exact py_bd_1 (by omega) (by omega))

theorem axq1_mc2b : ax_RO ax_wM1 (ax_XM 1) axu1_mc2b := by
  intro ρ hp hE hT
  have j0 : ρ 0 % 4 = 1 := pz_gj hE 0 (Nat.le_of_ble_eq_true rfl) rfl
  have j1 : ρ 1 % 4 = 1 := pz_gj hE 1 (Nat.le_of_ble_eq_true rfl) rfl
  have j2 : ρ 2 % 4 = 1 := pz_gj hE 2 (Nat.le_of_ble_eq_true rfl) rfl
  have j3 : ρ 3 % 4 = 1 := pz_gj hE 3 (Nat.le_of_ble_eq_true rfl) rfl
  have j4 : ρ 4 % 4 = 1 := pz_gj hE 4 (Nat.le_of_ble_eq_true rfl) rfl
  have j5 : ρ 5 % 4 = 1 := pz_gj hE 5 (Nat.le_of_ble_eq_true rfl) rfl
  obtain ⟨i6a, i6b, i6c, i6d⟩ := pz_gi hE 6 2147484653 2147484655 (Nat.le_of_ble_eq_true rfl) rfl
  obtain ⟨i7a, i7b, i7c, i7d⟩ := pz_gi hE 7 2147484651 2147484655 (Nat.le_of_ble_eq_true rfl) rfl
  obtain ⟨i8a, i8b, i8c, i8d⟩ := pz_gi hE 8 2147484653 2147484655 (Nat.le_of_ble_eq_true rfl) rfl
  obtain ⟨-, -, F242⟩ : ay_ex hp 173 ∧ ay_ex hp 185 ∧ py_y242 (ρ 4) (ay_at hp 173 27) (ay_at hp 185) := (ax_XF_lt (x := 242) (Nat.le_of_ble_eq_true rfl)).mp (ax_gx hE (242, [19]) (by decide))
  obtain ⟨-, -, F241⟩ : ay_ex hp 180 ∧ ay_ex hp 182 ∧ py_y241 0 (ρ 5) (ay_at hp 180 0) (ay_at hp 182) := (ax_XF_lt (x := 241) (Nat.le_of_ble_eq_true rfl)).mp (ax_gx hE (241, [23]) (by decide))
  have F251 : py_251 (ρ 2) (ρ 7) (ρ 4) := (ax_XF_lt (x := 251) (Nat.le_of_ble_eq_true rfl)).mp (ax_gx hE (251, [11, 31, 19]) (by decide))
  have F251a : py_251 (ρ 5) (ρ 7) (ρ 3) := (ax_XF_lt (x := 251) (Nat.le_of_ble_eq_true rfl)).mp (ax_gx hE (251, [23, 31, 15]) (by decide))
  have F256 : py_256 (ρ 2) (ρ 8) := (ax_XF_lt (x := 256) (Nat.le_of_ble_eq_true rfl)).mp (ax_gx hE (256, [11, 35]) (by decide))
  have F250 : py_250 (ρ 6) (ρ 0) (ρ 1) (ρ 2) (ρ 3) := (ax_XF_lt (x := 250) (Nat.le_of_ble_eq_true rfl)).mp (ax_gx hE (250, [27, 3, 7, 11, 15]) (by decide))
  have e := pm_mc2 F251 F256
  refine ⟨(fun y hy => by cases hy), _, List.mem_cons_self, ρ, fun _ _ => rfl, ax_px hE rfl (fun x hx => ?_)⟩
  cases List.mem_singleton.mp hx
  refine (ax_XF_lt (x := 250) (Nat.le_of_ble_eq_true rfl)).mpr ?_
  show py_250 (ρ 6) (ρ 0) (ρ 1) (ρ 4) (ρ 5)
  exact pm_cq1 F250 F251 F251a (by rw [py_bd_b (c := ρ 6 / 4) (by omega) (by omega), py_bd_b (c := ρ 7 / 4) (by omega) (by omega)]; exact Nat.le_refl 2)

theorem axq1_mc3 : ax_RO ax_wM1 (ax_XM 1) axu1_mc3 := by
  intro ρ hp hE hT
  have j0 : ρ 0 % 4 = 1 := pz_gj hE 0 (Nat.le_of_ble_eq_true rfl) rfl
  have j1 : ρ 1 % 4 = 1 := pz_gj hE 1 (Nat.le_of_ble_eq_true rfl) rfl
  have j2 : ρ 2 % 4 = 1 := pz_gj hE 2 (Nat.le_of_ble_eq_true rfl) rfl
  have j3 : ρ 3 % 4 = 1 := pz_gj hE 3 (Nat.le_of_ble_eq_true rfl) rfl
  obtain ⟨i4a, i4b, i4c, i4d⟩ := pz_gi hE 4 2147483648 2147483648 (Nat.le_of_ble_eq_true rfl) rfl
  obtain ⟨i5a, i5b, i5c, i5d⟩ := pz_gi hE 5 2147484651 2147484655 (Nat.le_of_ble_eq_true rfl) rfl
  have c_opened : ay_at hp 173 27 = some (ρ 4) := ay_gfj hE 702 108 19 173 27 (by decide) (ax_vlq rfl rfl) (ax_vlj rfl rfl)
  obtain ⟨-, -, F242⟩ : ay_ex hp 173 ∧ ay_ex hp 185 ∧ py_y242 (ρ 2) (ay_at hp 173 27) (ay_at hp 185) := (ax_XF_lt (x := 242) (Nat.le_of_ble_eq_true rfl)).mp (ax_gx hE (242, [11]) (by decide))
  rw [c_opened] at F242
  obtain ⟨-, -, F241⟩ : ay_ex hp 180 ∧ ay_ex hp 182 ∧ py_y241 0 (ρ 3) (ay_at hp 180 0) (ay_at hp 182) := (ax_XF_lt (x := 241) (Nat.le_of_ble_eq_true rfl)).mp (ax_gx hE (241, [15]) (by decide))
  have F250 : py_250 (ρ 5) (ρ 0) (ρ 1) (ρ 2) (ρ 3) := (ax_XF_lt (x := 250) (Nat.le_of_ble_eq_true rfl)).mp (ax_gx hE (250, [23, 3, 7, 11, 15]) (by decide))
  refine ⟨(fun y hy => by cases hy), _, List.mem_cons_self, ρ, fun _ _ => rfl, ax_px hE rfl (fun x hx => ?_)⟩
  cases List.mem_singleton.mp hx
  refine (ax_XF_lt (x := 260) (Nat.le_of_ble_eq_true rfl)).mpr ?_
  show py_260 (ρ 5) (ρ 0) (ρ 1) (ρ 2) (ρ 3)
  exact pm_mc4 F250 (by rw [py_none F242 (show ρ 4 / 4 = 0 by omega)]; exact (show 0 < _ from py_bd_1 (by omega) (by omega)))

theorem axq1_mc4a : ax_RO ax_wM1 (ax_XM 1) axu1_mc4a := by
  intro ρ hp hE hT
  have j0 : ρ 0 % 4 = 1 := pz_gj hE 0 (Nat.le_of_ble_eq_true rfl) rfl
  have j1 : ρ 1 % 4 = 1 := pz_gj hE 1 (Nat.le_of_ble_eq_true rfl) rfl
  have j2 : ρ 2 % 4 = 1 := pz_gj hE 2 (Nat.le_of_ble_eq_true rfl) rfl
  have j3 : ρ 3 % 4 = 1 := pz_gj hE 3 (Nat.le_of_ble_eq_true rfl) rfl
  obtain ⟨i4a, i4b, i4c, i4d⟩ := pz_gi hE 4 2147483649 2147483748 (Nat.le_of_ble_eq_true rfl) rfl
  obtain ⟨i5a, i5b, i5c, i5d⟩ := pz_gi hE 5 2147483648 2147483747 (Nat.le_of_ble_eq_true rfl) rfl
  obtain ⟨i6a, i6b, i6c, i6d⟩ := pz_gi hE 6 2147484651 2147484652 (Nat.le_of_ble_eq_true rfl) rfl
  obtain ⟨i7a, i7b, i7c, i7d⟩ := pz_gi hE 7 2147484656 2147484657 (Nat.le_of_ble_eq_true rfl) rfl
  have c_opened : ay_at hp 173 27 = some (ρ 4) := ay_gfj hE 702 108 19 173 27 (by decide) (ax_vlq rfl rfl) (ax_vlj rfl rfl)
  have s1 : (ρ 5 / 4 + 2147483648) % 4294967296 + (4 / 4 + 2147483648) % 4294967296 = (ρ 4 / 4 + 2147483648) % 4294967296 + 2147483648 := pz_gs hE 23 4 19 (by decide)
  have c_open : ay_at hp 185 (ρ 5 / 4) = some (ρ 7) := ay_gf hE 750 23 31 185 (by decide) (ax_vlq rfl rfl)
  obtain ⟨-, -, F242⟩ : ay_ex hp 173 ∧ ay_ex hp 185 ∧ py_y242 (ρ 2) (ay_at hp 173 27) (ay_at hp 185) := (ax_XF_lt (x := 242) (Nat.le_of_ble_eq_true rfl)).mp (ax_gx hE (242, [11]) (by decide))
  rw [c_opened] at F242
  obtain ⟨-, -, F241⟩ : ay_ex hp 180 ∧ ay_ex hp 182 ∧ py_y241 0 (ρ 3) (ay_at hp 180 0) (ay_at hp 182) := (ax_XF_lt (x := 241) (Nat.le_of_ble_eq_true rfl)).mp (ax_gx hE (241, [15]) (by decide))
  have F250 : py_250 (ρ 6) (ρ 0) (ρ 1) (ρ 2) (ρ 3) := (ax_XF_lt (x := 250) (Nat.le_of_ble_eq_true rfl)).mp (ax_gx hE (250, [27, 3, 7, 11, 15]) (by decide))
  obtain ⟨c, T, t1, t2, t3, t4, t5, t6, t7⟩ := py_take (o := ρ 5 / 4) F242 (show ρ 4 / 4 = ρ 5 / 4 + 1 by omega)
  rw [c_open] at t3
  have te := Option.some.inj t3
  have tk : c = ρ 7 / 4 := by omega
  refine ⟨(fun y hy => by cases hy), _, List.mem_cons_self, ρ, fun _ _ => rfl, ax_px hE rfl (fun x hx => ?_)⟩
  cases List.mem_singleton.mp hx
  refine (ax_XF_lt (x := 260) (Nat.le_of_ble_eq_true rfl)).mpr ?_
  show py_260 (ρ 6) (ρ 0) (ρ 1) (ρ 2) (ρ 3)
  exact pm_mc4 F250 (by rw [t1]; show py_bd c < _; rw [tk, py_bd_c (by omega) (by omega)]; exact py_bd_1 (by omega) (by omega))

theorem axq1_mc4b : ax_RO ax_wM1 (ax_XM 1) axu1_mc4b := by
  intro ρ hp hE hT
  have j0 : ρ 0 % 4 = 1 := pz_gj hE 0 (Nat.le_of_ble_eq_true rfl) rfl
  have j1 : ρ 1 % 4 = 1 := pz_gj hE 1 (Nat.le_of_ble_eq_true rfl) rfl
  have j2 : ρ 2 % 4 = 1 := pz_gj hE 2 (Nat.le_of_ble_eq_true rfl) rfl
  have j3 : ρ 3 % 4 = 1 := pz_gj hE 3 (Nat.le_of_ble_eq_true rfl) rfl
  obtain ⟨i4a, i4b, i4c, i4d⟩ := pz_gi hE 4 2147483649 2147483748 (Nat.le_of_ble_eq_true rfl) rfl
  obtain ⟨i5a, i5b, i5c, i5d⟩ := pz_gi hE 5 2147483648 2147483747 (Nat.le_of_ble_eq_true rfl) rfl
  obtain ⟨i6a, i6b, i6c, i6d⟩ := pz_gi hE 6 2147484653 2147484655 (Nat.le_of_ble_eq_true rfl) rfl
  obtain ⟨i7a, i7b, i7c, i7d⟩ := pz_gi hE 7 2147484651 2147484652 (Nat.le_of_ble_eq_true rfl) rfl
  have c_opened : ay_at hp 173 27 = some (ρ 4) := ay_gfj hE 702 108 19 173 27 (by decide) (ax_vlq rfl rfl) (ax_vlj rfl rfl)
  have s1 : (ρ 5 / 4 + 2147483648) % 4294967296 + (4 / 4 + 2147483648) % 4294967296 = (ρ 4 / 4 + 2147483648) % 4294967296 + 2147483648 := pz_gs hE 23 4 19 (by decide)
  have c_open : ay_at hp 185 (ρ 5 / 4) = some (ρ 7) := ay_gf hE 750 23 31 185 (by decide) (ax_vlq rfl rfl)
  obtain ⟨-, -, F242⟩ : ay_ex hp 173 ∧ ay_ex hp 185 ∧ py_y242 (ρ 2) (ay_at hp 173 27) (ay_at hp 185) := (ax_XF_lt (x := 242) (Nat.le_of_ble_eq_true rfl)).mp (ax_gx hE (242, [11]) (by decide))
  rw [c_opened] at F242
  obtain ⟨-, -, F241⟩ : ay_ex hp 180 ∧ ay_ex hp 182 ∧ py_y241 0 (ρ 3) (ay_at hp 180 0) (ay_at hp 182) := (ax_XF_lt (x := 241) (Nat.le_of_ble_eq_true rfl)).mp (ax_gx hE (241, [15]) (by decide))
  have F250 : py_250 (ρ 6) (ρ 0) (ρ 1) (ρ 2) (ρ 3) := (ax_XF_lt (x := 250) (Nat.le_of_ble_eq_true rfl)).mp (ax_gx hE (250, [27, 3, 7, 11, 15]) (by decide))
  obtain ⟨c, T, t1, t2, t3, t4, t5, t6, t7⟩ := py_take (o := ρ 5 / 4) F242 (show ρ 4 / 4 = ρ 5 / 4 + 1 by omega)
  rw [c_open] at t3
  have te := Option.some.inj t3
  have tk : c = ρ 7 / 4 := by omega
  refine ⟨(fun y hy => by cases hy), _, List.mem_cons_self, ρ, fun _ _ => rfl, ax_px hE rfl (fun x hx => ?_)⟩
  cases List.mem_singleton.mp hx
  refine (ax_XF_lt (x := 260) (Nat.le_of_ble_eq_true rfl)).mpr ?_
  show py_260 (ρ 6) (ρ 0) (ρ 1) (ρ 2) (ρ 3)
  exact pm_mc4 F250 (by rw [t1]; show py_bd c < _; rw [tk, py_bd_a (by omega) (by omega), py_bd_b (by omega) (by omega)]; decide)

theorem axq1_mc4c : ax_RO ax_wM1 (ax_XM 1) axu1_mc4c := by
  intro ρ hp hE hT
  have j0 : ρ 0 % 4 = 1 := pz_gj hE 0 (Nat.le_of_ble_eq_true rfl) rfl
  have j1 : ρ 1 % 4 = 1 := pz_gj hE 1 (Nat.le_of_ble_eq_true rfl) rfl
  have j2 : ρ 2 % 4 = 1 := pz_gj hE 2 (Nat.le_of_ble_eq_true rfl) rfl
  have j3 : ρ 3 % 4 = 1 := pz_gj hE 3 (Nat.le_of_ble_eq_true rfl) rfl
  obtain ⟨i4a, i4b, i4c, i4d⟩ := pz_gi hE 4 2147483649 2147483748 (Nat.le_of_ble_eq_true rfl) rfl
  obtain ⟨i5a, i5b, i5c, i5d⟩ := pz_gi hE 5 2147483648 2147483747 (Nat.le_of_ble_eq_true rfl) rfl
  obtain ⟨i6a, i6b, i6c, i6d⟩ := pz_gi hE 6 2147484653 2147484655 (Nat.le_of_ble_eq_true rfl) rfl
  obtain ⟨i7a, i7b, i7c, i7d⟩ := pz_gi hE 7 2147484656 2147484657 (Nat.le_of_ble_eq_true rfl) rfl
  have c_opened : ay_at hp 173 27 = some (ρ 4) := ay_gfj hE 702 108 19 173 27 (by decide) (ax_vlq rfl rfl) (ax_vlj rfl rfl)
  have s1 : (ρ 5 / 4 + 2147483648) % 4294967296 + (4 / 4 + 2147483648) % 4294967296 = (ρ 4 / 4 + 2147483648) % 4294967296 + 2147483648 := pz_gs hE 23 4 19 (by decide)
  have c_open : ay_at hp 185 (ρ 5 / 4) = some (ρ 7) := ay_gf hE 750 23 31 185 (by decide) (ax_vlq rfl rfl)
  obtain ⟨-, -, F242⟩ : ay_ex hp 173 ∧ ay_ex hp 185 ∧ py_y242 (ρ 2) (ay_at hp 173 27) (ay_at hp 185) := (ax_XF_lt (x := 242) (Nat.le_of_ble_eq_true rfl)).mp (ax_gx hE (242, [11]) (by decide))
  rw [c_opened] at F242
  obtain ⟨-, -, F241⟩ : ay_ex hp 180 ∧ ay_ex hp 182 ∧ py_y241 0 (ρ 3) (ay_at hp 180 0) (ay_at hp 182) := (ax_XF_lt (x := 241) (Nat.le_of_ble_eq_true rfl)).mp (ax_gx hE (241, [15]) (by decide))
  have F250 : py_250 (ρ 6) (ρ 0) (ρ 1) (ρ 2) (ρ 3) := (ax_XF_lt (x := 250) (Nat.le_of_ble_eq_true rfl)).mp (ax_gx hE (250, [27, 3, 7, 11, 15]) (by decide))
  obtain ⟨c, T, t1, t2, t3, t4, t5, t6, t7⟩ := py_take (o := ρ 5 / 4) F242 (show ρ 4 / 4 = ρ 5 / 4 + 1 by omega)
  rw [c_open] at t3
  have te := Option.some.inj t3
  have tk : c = ρ 7 / 4 := by omega
  refine ⟨(fun y hy => by cases hy), _, List.mem_cons_self, ρ, fun _ _ => rfl, ax_px hE rfl (fun x hx => ?_)⟩
  cases List.mem_singleton.mp hx
  refine (ax_XF_lt (x := 260) (Nat.le_of_ble_eq_true rfl)).mpr ?_
  show py_260 (ρ 6) (ρ 0) (ρ 1) (ρ 2) (ρ 3)
  exact pm_mc4 F250 (by rw [t1]; show py_bd c < _; rw [tk, py_bd_c (by omega) (by omega)]; exact py_bd_1 (by omega) (by omega))

theorem axq1_mc5 : ax_RO ax_wM1 (ax_XM 1) axu1_mc5 := by
  intro ρ hp hE hT
  have j0 : ρ 0 % 4 = 1 := pz_gj hE 0 (Nat.le_of_ble_eq_true rfl) rfl
  have j1 : ρ 1 % 4 = 1 := pz_gj hE 1 (Nat.le_of_ble_eq_true rfl) rfl
  have j2 : ρ 2 % 4 = 1 := pz_gj hE 2 (Nat.le_of_ble_eq_true rfl) rfl
  have j3 : ρ 3 % 4 = 1 := pz_gj hE 3 (Nat.le_of_ble_eq_true rfl) rfl
  have j4 : ρ 4 % 4 = 1 := pz_gj hE 4 (Nat.le_of_ble_eq_true rfl) rfl
  have j5 : ρ 5 % 4 = 1 := pz_gj hE 5 (Nat.le_of_ble_eq_true rfl) rfl
  have j6 : ρ 6 % 4 = 1 := pz_gj hE 6 (Nat.le_of_ble_eq_true rfl) rfl
  have j7 : ρ 7 % 4 = 1 := pz_gj hE 7 (Nat.le_of_ble_eq_true rfl) rfl
  obtain ⟨i8a, i8b, i8c, i8d⟩ := pz_gi hE 8 2147484651 2147484655 (Nat.le_of_ble_eq_true rfl) rfl
  obtain ⟨-, -, -, -, -, F151⟩ : ay_ex hp 173 ∧ ay_ex hp 173 ∧ ay_ex hp 173 ∧ ay_ex hp 173 ∧ ay_ex hp 173 ∧ pz_y151 (ρ 0) (ρ 1) (ay_at hp 173 13) (ay_at hp 173 14) (ay_at hp 173 15) (ay_at hp 173 16) (ay_at hp 173 17) := (ax_XF_lt (x := 151) (Nat.le_of_ble_eq_true rfl)).mp (ax_gx hE (151, [3, 7]) (by decide))
  have F182 : (ρ 2) / 4 = (ρ 1) / 4 + 1 := (ax_XF_lt (x := 182) (Nat.le_of_ble_eq_true rfl)).mp (ax_gx hE (182, [7, 11]) (by decide))
  have F179 : pz7 (pz_gt (ρ 0)) (pz_gN (ρ 0)) ((ρ 1) / 4) 9 := (ax_XF_lt (x := 179) (Nat.le_of_ble_eq_true rfl)).mp (ax_gx hE (179, [3, 7]) (by decide))
  have F198 : pz_op (pz_kd (pz_gt (ρ 0)) (pz_gN (ρ 0)) (pz_p (pz_cF (ρ 0) (ρ 1)))) = true := (ax_XF_lt (x := 198) (Nat.le_of_ble_eq_true rfl)).mp (ax_gx hE (198, [3, 7]) (by decide))
  have F259 : (ρ 8) / 4 = py_op (pz_kd (pz_gt (ρ 0)) (pz_gN (ρ 0)) (pz_p (pz_cF (ρ 0) (ρ 1)))) := (ax_XF_lt (x := 259) (Nat.le_of_ble_eq_true rfl)).mp (ax_gx hE (259, [3, 7, 35]) (by decide))
  have F246 : py_y246 (pz_gt (ρ 0)) (pz_gN (ρ 0)) ((ρ 1) / 4) (ρ 3) (ρ 4) := (ax_XF_lt (x := 246) (Nat.le_of_ble_eq_true rfl)).mp (ax_gx hE (246, [3, 7, 15, 19]) (by decide))
  have F260 : py_260 (ρ 8) (ρ 3) (ρ 4) (ρ 5) (ρ 6) := (ax_XF_lt (x := 260) (Nat.le_of_ble_eq_true rfl)).mp (ax_gx hE (260, [35, 15, 19, 23, 27]) (by decide))
  obtain ⟨-, -, F242⟩ : ay_ex hp 173 ∧ ay_ex hp 185 ∧ py_y242 (ρ 7) (ay_at hp 173 27) (ay_at hp 185) := (ax_XF_lt (x := 242) (Nat.le_of_ble_eq_true rfl)).mp (ax_gx hE (242, [31]) (by decide))
  obtain ⟨-, -, F241⟩ : ay_ex hp 180 ∧ ay_ex hp 182 ∧ py_y241 0 (ρ 6) (ay_at hp 180 0) (ay_at hp 182) := (ax_XF_lt (x := 241) (Nat.le_of_ble_eq_true rfl)).mp (ax_gx hE (241, [27]) (by decide))
  have F251 : py_251 (ρ 7) (ρ 8) (ρ 5) := (ax_XF_lt (x := 251) (Nat.le_of_ble_eq_true rfl)).mp (ax_gx hE (251, [31, 35, 23]) (by decide))
  refine ⟨(fun y hy => by cases hy), _, List.mem_cons_self, ρ, fun _ _ => rfl, ax_px hE rfl (fun x hx => ?_)⟩
  cases List.mem_singleton.mp hx
  refine (ax_XF_lt (x := 246) (Nat.le_of_ble_eq_true rfl)).mpr ?_
  show py_y246 (pz_gt (ρ 0)) (pz_gN (ρ 0)) ((ρ 2) / 4) (ρ 7) (ρ 6)
  exact pm_mc5 F179 F198 F259 F182 F246 F260 F251

theorem axq1_mx0 : ax_RO ax_wM1 (ax_XM 1) axu1_mx0 := axqg_mx0 ax_WW1
theorem axq1_mx1 : ax_RO ax_wM1 (ax_XM 1) axu1_mx1 := axqg_mx1 ax_WW1
theorem axq1_mx2 : ax_RO ax_wM1 (ax_XM 1) axu1_mx2 := axqg_mx2 ax_WW1
theorem axq1_mx3 : ax_RO ax_wM1 (ax_XM 1) axu1_mx3 := axqg_mx3 ax_WW1
theorem axq1_mx4 : ax_RO ax_wM1 (ax_XM 1) axu1_mx4 := axqg_mx4 ax_WW1
theorem axq1_mx5_35 : ax_RO ax_wM1 (ax_XM 1) axu1_mx5_35 := axqg_mx5_35 ax_WW1
theorem axq1_mx6_35 : ax_RO ax_wM1 (ax_XM 1) axu1_mx6_35 := axqg_mx6_35 ax_WW1
theorem axq1_mx6_59 : ax_RO ax_wM1 (ax_XM 1) axu1_mx6_59 := axqg_mx6_59 ax_WW1
theorem axq1_mx5_76 : ax_RO ax_wM1 (ax_XM 1) axu1_mx5_76 := axqg_mx5_76 ax_WW1
theorem axq1_mx7 : ax_RO ax_wM1 (ax_XM 1) axu1_mx7 := axqg_mx7 ax_WW1
theorem axq1_mx8a : ax_RO ax_wM1 (ax_XM 1) axu1_mx8a := axqg_mx8a ax_WW1
theorem axq1_mx8b : ax_RO ax_wM1 (ax_XM 1) axu1_mx8b := axqg_mx8b ax_WW1
theorem axq1_mx9 : ax_RO ax_wM1 (ax_XM 1) axu1_mx9 := axqg_mx9 ax_WW1
theorem axq1_mxb : ax_RO ax_wM1 (ax_XM 1) axu1_mxb := axqg_mxb ax_WW1
theorem axq1_mw0 : ax_RO ax_wM1 (ax_XM 1) axu1_mw0 := by
  intro ρ hp hE hT
  obtain ⟨-, -, F42⟩ : ay_ex hp 180 ∧ ay_ex hp 179 ∧ ay_M42 (ay_at hp 180 0) (ay_at hp 179 0) := (ax_XF_lt (x := 42) (Nat.le_of_ble_eq_true rfl)).mp (ax_gx hE (42, []) (by decide))
  refine ⟨(fun y hy => by cases hy), _, List.mem_cons_self, ρ, fun _ _ => rfl, ax_px hE rfl (fun x hx => ?_)⟩
  cases List.mem_singleton.mp hx
  refine (ax_XF_wr (x := 242) (Nat.le_of_ble_eq_true rfl)).mpr ?_
  show ay_ex (ax_upd hp 702 (108) (0)) 173 ∧ ay_ex (ax_upd hp 702 (108) (0)) 185 ∧ py_y242 (5) (ay_at (ax_upd hp 702 (108) (0)) 173 27) (ay_at (ax_upd hp 702 (108) (0)) 185)
  obtain ⟨o0, ho0⟩ := ay_some hT (q := 173) (g := 11) (n := 58) (ax_wc ax_WW1 ax_cg_173) (ax_wn ax_WW1 ax_cn_11) (j := 108 / 4) (Nat.le_of_ble_eq_true rfl)
  have u1 : ∀ q, q ≠ 173 → ay_at (ax_upd hp 702 108 (0)) q = ay_at hp q := fun q hq => funext (fun j => ay_upd_ne hT.1 hq j)
  have u2 : ∀ j, ay_at (ax_upd hp 702 108 (0)) 173 j = if j = 27 then some (0) else ay_at hp 173 j := fun j => ay_upd_eq hT.1 rfl ho0 j
  refine ⟨ay_ex_upd hT.1 (ax_cellT hT (q := 173) (g := 11) (ax_wc ax_WW1 ax_cg_173)), ay_ex_upd hT.1 (ax_cellT hT (q := 185) (g := 55) (ax_wc ax_WW1 ax_cg_185)), ?_⟩
  rw [u2 27, if_pos rfl, u1 185 (Nat.ne_of_beq_eq_false rfl)]
  exact pm_242_0

theorem axq1_mw1 : ax_RO ax_wM1 (ax_XM 1) axu1_mw1 := by
  intro ρ hp hE hT
  obtain ⟨-, -, F42⟩ : ay_ex hp 180 ∧ ay_ex hp 179 ∧ ay_M42 (ay_at hp 180 0) (ay_at hp 179 0) := (ax_XF_lt (x := 42) (Nat.le_of_ble_eq_true rfl)).mp (ax_gx hE (42, []) (by decide))
  refine ⟨(fun y hy => by cases hy), _, List.mem_cons_self, ρ, fun _ _ => rfl, ax_px hE rfl (fun x hx => ?_)⟩
  cases List.mem_singleton.mp hx
  refine (ax_XF_lt (x := 241) (Nat.le_of_ble_eq_true rfl)).mpr ?_
  show ay_ex hp 180 ∧ ay_ex hp 182 ∧ py_y241 0 (5) (ay_at hp 180 0) (ay_at hp 182)
  refine ⟨(ax_cellT hT (q := 180) (g := 50) (ax_wc ax_WW1 ax_cg_180)), (ax_cellT hT (q := 182) (g := 52) (ax_wc ax_WW1 ax_cg_182)), ?_⟩
  exact pm_241_0 F42.1

theorem axq1_mw5 : ax_RO ax_wM1 (ax_XM 1) axu1_mw5 := by
  intro ρ hp hE hT
  have j0 : ρ 0 % 4 = 1 := pz_gj hE 0 (Nat.le_of_ble_eq_true rfl) rfl
  have j1 : ρ 1 % 4 = 1 := pz_gj hE 1 (Nat.le_of_ble_eq_true rfl) rfl
  obtain ⟨-, -, F242⟩ : ay_ex hp 173 ∧ ay_ex hp 185 ∧ py_y242 (ρ 0) (ay_at hp 173 27) (ay_at hp 185) := (ax_XF_lt (x := 242) (Nat.le_of_ble_eq_true rfl)).mp (ax_gx hE (242, [3]) (by decide))
  obtain ⟨-, -, F241⟩ : ay_ex hp 180 ∧ ay_ex hp 182 ∧ py_y241 0 (ρ 1) (ay_at hp 180 0) (ay_at hp 182) := (ax_XF_lt (x := 241) (Nat.le_of_ble_eq_true rfl)).mp (ax_gx hE (241, [7]) (by decide))
  refine ⟨(fun y hy => by cases hy), _, List.mem_cons_self, ρ, fun _ _ => rfl, ax_px hE rfl (fun x hx => ?_)⟩
  cases List.mem_singleton.mp hx
  refine (ax_XF_lt (x := 250) (Nat.le_of_ble_eq_true rfl)).mpr ?_
  show py_250 (4012) (ρ 0) (ρ 1) (ρ 0) (ρ 1)
  exact (rfl : py_pop _ _ _ = _)
end
section
theorem axq1_mw2 : ax_RO ax_wM1 (ax_XM 1) axu1_mw2 := by
  intro ρ hp hE hT
  have j0 : ρ 0 % 4 = 1 := pz_gj hE 0 (Nat.le_of_ble_eq_true rfl) rfl
  have j1 : ρ 1 % 4 = 1 := pz_gj hE 1 (Nat.le_of_ble_eq_true rfl) rfl
  have j2 : ρ 2 % 4 = 1 := pz_gj hE 2 (Nat.le_of_ble_eq_true rfl) rfl
  have j3 : ρ 3 % 4 = 1 := pz_gj hE 3 (Nat.le_of_ble_eq_true rfl) rfl
  obtain ⟨-, -, -, -, -, F151⟩ : ay_ex hp 173 ∧ ay_ex hp 173 ∧ ay_ex hp 173 ∧ ay_ex hp 173 ∧ ay_ex hp 173 ∧ pz_y151 (ρ 0) (ρ 1) (ay_at hp 173 13) (ay_at hp 173 14) (ay_at hp 173 15) (ay_at hp 173 16) (ay_at hp 173 17) := (ax_XF_lt (x := 151) (Nat.le_of_ble_eq_true rfl)).mp (ax_gx hE (151, [3, 7]) (by decide))
  have F246 : py_y246 (pz_gt (ρ 0)) (pz_gN (ρ 0)) ((ρ 1) / 4) (ρ 2) (ρ 3) := (ax_XF_lt (x := 246) (Nat.le_of_ble_eq_true rfl)).mp (ax_gx hE (246, [3, 7, 11, 15]) (by decide))
  obtain ⟨-, -, F242⟩ : ay_ex hp 173 ∧ ay_ex hp 185 ∧ py_y242 (ρ 2) (ay_at hp 173 27) (ay_at hp 185) := (ax_XF_lt (x := 242) (Nat.le_of_ble_eq_true rfl)).mp (ax_gx hE (242, [11]) (by decide))
  obtain ⟨-, -, F241⟩ : ay_ex hp 180 ∧ ay_ex hp 182 ∧ py_y241 0 (ρ 3) (ay_at hp 180 0) (ay_at hp 182) := (ax_XF_lt (x := 241) (Nat.le_of_ble_eq_true rfl)).mp (ax_gx hE (241, [15]) (by decide))
  refine ⟨(fun y hy => by cases hy), _, List.mem_cons_self, ρ, fun _ _ => rfl, ax_px hE rfl (fun x hx => ?_)⟩
  cases List.mem_singleton.mp hx
  refine (ax_XF_lt (x := 250) (Nat.le_of_ble_eq_true rfl)).mpr ?_
  show py_250 (4012) (ρ 2) (ρ 3) (ρ 2) (ρ 3)
  exact (rfl : py_pop _ _ _ = _)

theorem axq1_mw3 : ax_RO ax_wM1 (ax_XM 1) axu1_mw3 := by
  intro ρ hp hE hT
  have j0 : ρ 0 % 4 = 1 := pz_gj hE 0 (Nat.le_of_ble_eq_true rfl) rfl
  have j1 : ρ 1 % 4 = 1 := pz_gj hE 1 (Nat.le_of_ble_eq_true rfl) rfl
  have j2 : ρ 2 % 4 = 1 := pz_gj hE 2 (Nat.le_of_ble_eq_true rfl) rfl
  have j3 : ρ 3 % 4 = 1 := pz_gj hE 3 (Nat.le_of_ble_eq_true rfl) rfl
  have j4 : ρ 4 % 4 = 1 := pz_gj hE 4 (Nat.le_of_ble_eq_true rfl) rfl
  have j5 : ρ 5 % 4 = 1 := pz_gj hE 5 (Nat.le_of_ble_eq_true rfl) rfl
  obtain ⟨i6a, i6b, i6c, i6d⟩ := pz_gi hE 6 2147484651 2147484655 (Nat.le_of_ble_eq_true rfl) rfl
  obtain ⟨-, -, F242⟩ : ay_ex hp 173 ∧ ay_ex hp 185 ∧ py_y242 (ρ 4) (ay_at hp 173 27) (ay_at hp 185) := (ax_XF_lt (x := 242) (Nat.le_of_ble_eq_true rfl)).mp (ax_gx hE (242, [19]) (by decide))
  obtain ⟨-, -, F241⟩ : ay_ex hp 180 ∧ ay_ex hp 182 ∧ py_y241 0 (ρ 5) (ay_at hp 180 0) (ay_at hp 182) := (ax_XF_lt (x := 241) (Nat.le_of_ble_eq_true rfl)).mp (ax_gx hE (241, [23]) (by decide))
  have F251 : py_251 (ρ 2) (ρ 6) (ρ 4) := (ax_XF_lt (x := 251) (Nat.le_of_ble_eq_true rfl)).mp (ax_gx hE (251, [11, 27, 19]) (by decide))
  have F251a : py_251 (ρ 5) (ρ 6) (ρ 3) := (ax_XF_lt (x := 251) (Nat.le_of_ble_eq_true rfl)).mp (ax_gx hE (251, [23, 27, 15]) (by decide))
  have F250 : py_250 (4012) (ρ 0) (ρ 1) (ρ 2) (ρ 3) := (ax_XF_lt (x := 250) (Nat.le_of_ble_eq_true rfl)).mp (ax_gx hE (250, [4012, 3, 7, 11, 15]) (by decide))
  refine ⟨(fun y hy => by cases hy), _, List.mem_cons_self, ρ, fun _ _ => rfl, ax_px hE rfl (fun x hx => ?_)⟩
  cases List.mem_singleton.mp hx
  refine (ax_XF_lt (x := 250) (Nat.le_of_ble_eq_true rfl)).mpr ?_
  show py_250 (4012) (ρ 0) (ρ 1) (ρ 4) (ρ 5)
  exact pm_cq1 F250 F251 F251a (show 1 ≤ _ from py_bd_1 (by omega) (by omega))

theorem axq1_mw4 : ax_RO ax_wM1 (ax_XM 1) axu1_mw4 := by
  intro ρ hp hE hT
  have j0 : ρ 0 % 4 = 1 := pz_gj hE 0 (Nat.le_of_ble_eq_true rfl) rfl
  have j1 : ρ 1 % 4 = 1 := pz_gj hE 1 (Nat.le_of_ble_eq_true rfl) rfl
  have j2 : ρ 2 % 4 = 1 := pz_gj hE 2 (Nat.le_of_ble_eq_true rfl) rfl
  have j3 : ρ 3 % 4 = 1 := pz_gj hE 3 (Nat.le_of_ble_eq_true rfl) rfl
  have j4 : ρ 4 % 4 = 1 := pz_gj hE 4 (Nat.le_of_ble_eq_true rfl) rfl
  have j5 : ρ 5 % 4 = 1 := pz_gj hE 5 (Nat.le_of_ble_eq_true rfl) rfl
  obtain ⟨i6a, i6b, i6c, i6d⟩ := pz_gi hE 6 2147483648 2147483648 (Nat.le_of_ble_eq_true rfl) rfl
  have c_opened : ay_at hp 173 27 = some (ρ 6) := ay_gfj hE 702 108 27 173 27 (by decide) (ax_vlq rfl rfl) (ax_vlj rfl rfl)
  obtain ⟨-, -, -, -, -, F151⟩ : ay_ex hp 173 ∧ ay_ex hp 173 ∧ ay_ex hp 173 ∧ ay_ex hp 173 ∧ ay_ex hp 173 ∧ pz_y151 (ρ 0) (ρ 1) (ay_at hp 173 13) (ay_at hp 173 14) (ay_at hp 173 15) (ay_at hp 173 16) (ay_at hp 173 17) := (ax_XF_lt (x := 151) (Nat.le_of_ble_eq_true rfl)).mp (ax_gx hE (151, [3, 7]) (by decide))
  have F246 : py_y246 (pz_gt (ρ 0)) (pz_gN (ρ 0)) ((ρ 1) / 4) (ρ 2) (ρ 3) := (ax_XF_lt (x := 246) (Nat.le_of_ble_eq_true rfl)).mp (ax_gx hE (246, [3, 7, 11, 15]) (by decide))
  obtain ⟨-, -, F242⟩ : ay_ex hp 173 ∧ ay_ex hp 185 ∧ py_y242 (ρ 4) (ay_at hp 173 27) (ay_at hp 185) := (ax_XF_lt (x := 242) (Nat.le_of_ble_eq_true rfl)).mp (ax_gx hE (242, [19]) (by decide))
  rw [c_opened] at F242
  obtain ⟨-, -, F241⟩ : ay_ex hp 180 ∧ ay_ex hp 182 ∧ py_y241 0 (ρ 5) (ay_at hp 180 0) (ay_at hp 182) := (ax_XF_lt (x := 241) (Nat.le_of_ble_eq_true rfl)).mp (ax_gx hE (241, [23]) (by decide))
  have F250 : py_250 (4012) (ρ 2) (ρ 3) (ρ 4) (ρ 5) := (ax_XF_lt (x := 250) (Nat.le_of_ble_eq_true rfl)).mp (ax_gx hE (250, [4012, 11, 15, 19, 23]) (by decide))
  refine ⟨(fun y hy => by cases hy), _, List.mem_cons_self, ρ, fun _ _ => rfl, ax_px hE rfl (fun x hx => ?_)⟩
  cases List.mem_singleton.mp hx
  refine (ax_XF_lt (x := 248) (Nat.le_of_ble_eq_true rfl)).mpr ?_
  show py_248 (pz_gt (ρ 0)) (pz_gN (ρ 0)) ((ρ 1) / 4) (ρ 5)
  exact pm_mw4 F246 F250 (py_none F242 (show ρ 6 / 4 = 0 by omega))

theorem axq1_ml1 : ax_RO ax_wM1 (ax_XM 1) axu1_ml1 := by
  intro ρ hp hE hT
  have j0 : ρ 0 % 4 = 1 := pz_gj hE 0 (Nat.le_of_ble_eq_true rfl) rfl
  have j1 : ρ 1 % 4 = 1 := pz_gj hE 1 (Nat.le_of_ble_eq_true rfl) rfl
  obtain ⟨i2a, i2b, i2c, i2d⟩ := pz_gi hE 2 2147483668 2147483668 (Nat.le_of_ble_eq_true rfl) rfl
  have c_links : ay_at hp 176 0 = some (ρ 2) := ay_gfj hE 714 0 11 176 0 ax_m4 (ax_vlq rfl rfl) (ax_vlj rfl rfl)
  obtain ⟨-, -, -, -, -, F151⟩ : ay_ex hp 173 ∧ ay_ex hp 173 ∧ ay_ex hp 173 ∧ ay_ex hp 173 ∧ ay_ex hp 173 ∧ pz_y151 (ρ 0) (ρ 1) (ay_at hp 173 13) (ay_at hp 173 14) (ay_at hp 173 15) (ay_at hp 173 16) (ay_at hp 173 17) := (ax_XF_lt (x := 151) (Nat.le_of_ble_eq_true rfl)).mp (ax_gx hE (151, [3, 7]) ax_m0)
  obtain ⟨-, -, -, -, -, -, -, -, -, -, -, F152⟩ : ay_ex hp 175 ∧ ay_ex hp 176 ∧ ay_ex hp 177 ∧ ay_ex hp 178 ∧ ay_ex hp 179 ∧ ay_ex hp 173 ∧ ay_ex hp 173 ∧ ay_ex hp 173 ∧ ay_ex hp 173 ∧ ay_ex hp 173 ∧ ay_ex hp 181 ∧ pz_y152 0 (ρ 0) (ρ 1) (ay_at hp 175 0) (ay_at hp 176 0) (ay_at hp 177 0) (ay_at hp 178 0) (ay_at hp 179 0) (ay_at hp 173 23) (ay_at hp 173 25) (ay_at hp 173 24) (ay_at hp 173 18) (ay_at hp 173 19) (ay_at hp 181) := (ax_XF_lt (x := 152) (Nat.le_of_ble_eq_true rfl)).mp (ax_gx hE (152, [3, 7]) ax_m1)
  rw [c_links] at F152
  have F173 : pz7 (pz_gt (ρ 0)) (pz_gN (ρ 0)) ((ρ 1) / 4) 3 := (ax_XF_lt (x := 173) (Nat.le_of_ble_eq_true rfl)).mp (ax_gx hE (173, [3, 7]) ax_m2)
  have F160 : pz60 (pz_gt (ρ 0)) (pz_gN (ρ 0)) ((ρ 1) / 4) ((4) / 4) := (ax_XF_lt (x := 160) (Nat.le_of_ble_eq_true rfl)).mp (ax_gx hE (160, [3, 7, 4]) ax_m3)
  refine ⟨(fun y hy => by cases hy), _, List.mem_cons_self, ρ, fun _ _ => rfl, ax_px hE rfl (fun x hx => ?_)⟩
  cases List.mem_singleton.mp hx
  refine (ax_XF_lt (x := 164) (Nat.le_of_ble_eq_true rfl)).mpr ?_
  show pz64 (pz_gt (ρ 0)) (pz_gN (ρ 0)) ((ρ 1) / 4) ((16) / 4)
  exact pq_lk1 (pz_m50 F151 F152) F173 F160 (show ρ 2 / 4 = 20 by omega)

theorem axq1_ml2 : ax_RO ax_wM1 (ax_XM 1) axu1_ml2 := by
  intro ρ hp hE hT
  have j0 : ρ 0 % 4 = 1 := pz_gj hE 0 (Nat.le_of_ble_eq_true rfl) rfl
  have j1 : ρ 1 % 4 = 1 := pz_gj hE 1 (Nat.le_of_ble_eq_true rfl) rfl
  obtain ⟨i2a, i2b, i2c, i2d⟩ := pz_gi hE 2 2147483648 2147483667 (Nat.le_of_ble_eq_true rfl) rfl
  have c_links : ay_at hp 176 0 = some (ρ 2) := ay_gfj hE 714 0 11 176 0 ax_m4 (ax_vlq rfl rfl) (ax_vlj rfl rfl)
  obtain ⟨-, -, -, -, -, F151⟩ : ay_ex hp 173 ∧ ay_ex hp 173 ∧ ay_ex hp 173 ∧ ay_ex hp 173 ∧ ay_ex hp 173 ∧ pz_y151 (ρ 0) (ρ 1) (ay_at hp 173 13) (ay_at hp 173 14) (ay_at hp 173 15) (ay_at hp 173 16) (ay_at hp 173 17) := (ax_XF_lt (x := 151) (Nat.le_of_ble_eq_true rfl)).mp (ax_gx hE (151, [3, 7]) ax_m0)
  obtain ⟨-, -, -, -, -, -, -, -, -, -, -, F152⟩ : ay_ex hp 175 ∧ ay_ex hp 176 ∧ ay_ex hp 177 ∧ ay_ex hp 178 ∧ ay_ex hp 179 ∧ ay_ex hp 173 ∧ ay_ex hp 173 ∧ ay_ex hp 173 ∧ ay_ex hp 173 ∧ ay_ex hp 173 ∧ ay_ex hp 181 ∧ pz_y152 0 (ρ 0) (ρ 1) (ay_at hp 175 0) (ay_at hp 176 0) (ay_at hp 177 0) (ay_at hp 178 0) (ay_at hp 179 0) (ay_at hp 173 23) (ay_at hp 173 25) (ay_at hp 173 24) (ay_at hp 173 18) (ay_at hp 173 19) (ay_at hp 181) := (ax_XF_lt (x := 152) (Nat.le_of_ble_eq_true rfl)).mp (ax_gx hE (152, [3, 7]) ax_m1)
  rw [c_links] at F152
  have F173 : pz7 (pz_gt (ρ 0)) (pz_gN (ρ 0)) ((ρ 1) / 4) 3 := (ax_XF_lt (x := 173) (Nat.le_of_ble_eq_true rfl)).mp (ax_gx hE (173, [3, 7]) ax_m2)
  have F160 : pz60 (pz_gt (ρ 0)) (pz_gN (ρ 0)) ((ρ 1) / 4) ((4) / 4) := (ax_XF_lt (x := 160) (Nat.le_of_ble_eq_true rfl)).mp (ax_gx hE (160, [3, 7, 4]) ax_m3)
  have st := pq_lk2 (pz_m50 F151 F152) F173 F160 (show ρ 2 / 4 ≤ 19 by omega)
  obtain ⟨ρ', h1, h2⟩ := pz_pn1 (K := ρ 1 / 4 + 1) (xf := [(153, [3, 15]), (182, [7, 15]), (152, [3, 15]), (174, [3, 15])]) hE (by decide) (fun ρ' h1 h2 x hx => by
    have q0 : ρ' 0 = ρ 0 := h1 0 (by decide)
    have q1 : ρ' 1 = ρ 1 := h1 1 (by decide)
    have q2 : ρ' 2 = ρ 2 := h1 2 (by decide)
    rcases List.mem_cons.mp hx with e | hx
    · subst e
      refine (ax_XF_lt (x := 153) (Nat.le_of_ble_eq_true rfl)).mpr ?_
      show ay_ex hp 173 ∧ pz_at (pz_gt (ρ' 0)) (pz_gN (ρ' 0)) (ay_ln (ay_at hp 173 13)) = pz_at (pz_gt (ρ' 0)) (pz_gN (ρ' 0)) (pz_p (pz_cF (ρ' 0) (ρ' 3)))
      rw [q0, h2]
      refine ⟨(ax_cellT hT (q := 173) (g := 11) (ax_wc ax_WW1 ax_cg_173)), ?_⟩
      exact pz_l153 (pz_41 _) st.1.1
    rcases List.mem_cons.mp hx with e | hx
    · subst e
      refine (ax_XF_lt (x := 182) (Nat.le_of_ble_eq_true rfl)).mpr ?_
      show (ρ' 3) / 4 = (ρ' 1) / 4 + 1
      rw [q1, h2]
      rw [pz_41]
    rcases List.mem_cons.mp hx with e | hx
    · subst e
      refine (ax_XF_lt (x := 152) (Nat.le_of_ble_eq_true rfl)).mpr ?_
      show ay_ex hp 175 ∧ ay_ex hp 176 ∧ ay_ex hp 177 ∧ ay_ex hp 178 ∧ ay_ex hp 179 ∧ ay_ex hp 173 ∧ ay_ex hp 173 ∧ ay_ex hp 173 ∧ ay_ex hp 173 ∧ ay_ex hp 173 ∧ ay_ex hp 181 ∧ pz_y152 0 (ρ' 0) (ρ' 3) (ay_at hp 175 0) (ay_at hp 176 0) (ay_at hp 177 0) (ay_at hp 178 0) (ay_at hp 179 0) (ay_at hp 173 23) (ay_at hp 173 25) (ay_at hp 173 24) (ay_at hp 173 18) (ay_at hp 173 19) (ay_at hp 181)
      rw [q0, h2]
      refine ⟨(ax_cellT hT (q := 175) (g := 45) (ax_wc ax_WW1 ax_cg_175)), (ax_cellT hT (q := 176) (g := 46) (ax_wc ax_WW1 ax_cg_176)), (ax_cellT hT (q := 177) (g := 47) (ax_wc ax_WW1 ax_cg_177)), (ax_cellT hT (q := 178) (g := 48) (ax_wc ax_WW1 ax_cg_178)), (ax_cellT hT (q := 179) (g := 49) (ax_wc ax_WW1 ax_cg_179)), (ax_cellT hT (q := 173) (g := 11) (ax_wc ax_WW1 ax_cg_173)), (ax_cellT hT (q := 173) (g := 11) (ax_wc ax_WW1 ax_cg_173)), (ax_cellT hT (q := 173) (g := 11) (ax_wc ax_WW1 ax_cg_173)), (ax_cellT hT (q := 173) (g := 11) (ax_wc ax_WW1 ax_cg_173)), (ax_cellT hT (q := 173) (g := 11) (ax_wc ax_WW1 ax_cg_173)), (ax_cellT hT (q := 181) (g := 51) (ax_wc ax_WW1 ax_cg_181)), ?_⟩
      rw [c_links]
      exact pz_l152 (pz_41 _) st.1.2
    cases List.mem_singleton.mp hx
    refine (ax_XF_lt (x := 174) (Nat.le_of_ble_eq_true rfl)).mpr ?_
    show pz7 (pz_gt (ρ' 0)) (pz_gN (ρ' 0)) ((ρ' 3) / 4) 4
    rw [q0, h2]
    rw [pz_41]
    exact st.2)
  exact ⟨(fun y hy => by cases hy), _, List.mem_cons_self, ρ', h1, h2⟩

theorem axq1_ml3_38 : ax_RO ax_wM1 (ax_XM 1) axu1_ml3_38 := by
  intro ρ hp hE hT
  have j0 : ρ 0 % 4 = 1 := pz_gj hE 0 (Nat.le_of_ble_eq_true rfl) rfl
  have j1 : ρ 1 % 4 = 1 := pz_gj hE 1 (Nat.le_of_ble_eq_true rfl) rfl
  obtain ⟨i2a, i2b, i2c, i2d⟩ := pz_gi hE 2 0 4294967295 (Nat.le_of_ble_eq_true rfl) rfl
  obtain ⟨i3a, i3b, i3c, i3d⟩ := pz_gi hE 3 2147483648 2147493647 (Nat.le_of_ble_eq_true rfl) rfl
  have c_nodes : ay_at hp 175 0 = some (ρ 3) := ay_gfj hE 710 0 15 175 0 ax_m1 (ax_vlq rfl rfl) (ax_vlj rfl rfl)
  have s1 : (ρ 2 / 4 + 2147483648) % 4294967296 + (4 / 4 + 2147483648) % 4294967296 = (ρ 3 / 4 + 2147483648) % 4294967296 + 2147483648 := pz_gs hE 11 4 15 ax_m2
  obtain ⟨-, -, -, -, -, -, -, -, -, -, -, F152⟩ : ay_ex hp 175 ∧ ay_ex hp 176 ∧ ay_ex hp 177 ∧ ay_ex hp 178 ∧ ay_ex hp 179 ∧ ay_ex hp 173 ∧ ay_ex hp 173 ∧ ay_ex hp 173 ∧ ay_ex hp 173 ∧ ay_ex hp 173 ∧ ay_ex hp 181 ∧ pz_y152 0 (ρ 0) (ρ 1) (ay_at hp 175 0) (ay_at hp 176 0) (ay_at hp 177 0) (ay_at hp 178 0) (ay_at hp 179 0) (ay_at hp 173 23) (ay_at hp 173 25) (ay_at hp 173 24) (ay_at hp 173 18) (ay_at hp 173 19) (ay_at hp 181) := (ax_XF_lt (x := 152) (Nat.le_of_ble_eq_true rfl)).mp (ax_gx hE (152, [3, 7]) ax_m0)
  rw [c_nodes] at F152
  have e : ρ 3 / 4 = pz_no (pz_cf (pz_gt (ρ 0)) (pz_gN (ρ 0)) (ρ 1 / 4)) := F152.1
  refine ⟨(fun y hy => by cases hy), _, List.mem_cons_self, ρ, fun _ _ => rfl, ax_px hE rfl (fun x hx => ?_)⟩
  cases List.mem_singleton.mp hx
  refine (ax_XF_lt (x := 203) (Nat.le_of_ble_eq_true rfl)).mpr ?_
  show pz_x103 (ρ 0) (ρ 1) (ρ 2)
  show (ρ 2 / 4 + 2147483648) % 4294967296 + 1 = pz_no (pz_cf (pz_gt (ρ 0)) (pz_gN (ρ 0)) (ρ 1 / 4)) + 2147483648
  omega

theorem axq1_ml3_79 : ax_RO ax_wM1 (ax_XM 1) axu1_ml3_79 := by
  intro ρ hp hE hT
  have j0 : ρ 0 % 4 = 1 := pz_gj hE 0 (Nat.le_of_ble_eq_true rfl) rfl
  have j1 : ρ 1 % 4 = 1 := pz_gj hE 1 (Nat.le_of_ble_eq_true rfl) rfl
  obtain ⟨i2a, i2b, i2c, i2d⟩ := pz_gi hE 2 0 4294967295 (Nat.le_of_ble_eq_true rfl) rfl
  obtain ⟨i3a, i3b, i3c, i3d⟩ := pz_gi hE 3 2147483648 2147493647 (Nat.le_of_ble_eq_true rfl) rfl
  have c_nodes : ay_at hp 175 0 = some (ρ 3) := ay_gfj hE 710 0 15 175 0 ax_m1 (ax_vlq rfl rfl) (ax_vlj rfl rfl)
  have s1 : (ρ 2 / 4 + 2147483648) % 4294967296 + (4 / 4 + 2147483648) % 4294967296 = (ρ 3 / 4 + 2147483648) % 4294967296 + 2147483648 := pz_gs hE 11 4 15 ax_m2
  obtain ⟨-, -, -, -, -, -, -, -, -, -, -, F152⟩ : ay_ex hp 175 ∧ ay_ex hp 176 ∧ ay_ex hp 177 ∧ ay_ex hp 178 ∧ ay_ex hp 179 ∧ ay_ex hp 173 ∧ ay_ex hp 173 ∧ ay_ex hp 173 ∧ ay_ex hp 173 ∧ ay_ex hp 173 ∧ ay_ex hp 181 ∧ pz_y152 0 (ρ 0) (ρ 1) (ay_at hp 175 0) (ay_at hp 176 0) (ay_at hp 177 0) (ay_at hp 178 0) (ay_at hp 179 0) (ay_at hp 173 23) (ay_at hp 173 25) (ay_at hp 173 24) (ay_at hp 173 18) (ay_at hp 173 19) (ay_at hp 181) := (ax_XF_lt (x := 152) (Nat.le_of_ble_eq_true rfl)).mp (ax_gx hE (152, [3, 7]) ax_m0)
  rw [c_nodes] at F152
  have e : ρ 3 / 4 = pz_no (pz_cf (pz_gt (ρ 0)) (pz_gN (ρ 0)) (ρ 1 / 4)) := F152.1
  refine ⟨(fun y hy => by cases hy), _, List.mem_cons_self, ρ, fun _ _ => rfl, ax_px hE rfl (fun x hx => ?_)⟩
  cases List.mem_singleton.mp hx
  refine (ax_XF_lt (x := 203) (Nat.le_of_ble_eq_true rfl)).mpr ?_
  show pz_x103 (ρ 0) (ρ 1) (ρ 2)
  show (ρ 2 / 4 + 2147483648) % 4294967296 + 1 = pz_no (pz_cf (pz_gt (ρ 0)) (pz_gN (ρ 0)) (ρ 1 / 4)) + 2147483648
  omega

theorem axq1_ml4 : ax_RO ax_wM1 (ax_XM 1) axu1_ml4 := by
  intro ρ hp hE hT
  have j0 : ρ 0 % 4 = 1 := pz_gj hE 0 (Nat.le_of_ble_eq_true rfl) rfl
  have j1 : ρ 1 % 4 = 1 := pz_gj hE 1 (Nat.le_of_ble_eq_true rfl) rfl
  have j2 : ρ 2 % 4 = 1 := pz_gj hE 2 (Nat.le_of_ble_eq_true rfl) rfl
  obtain ⟨i3a, i3b, i3c, i3d⟩ := pz_gi hE 3 2147483648 2147493647 (Nat.le_of_ble_eq_true rfl) rfl
  obtain ⟨-, -, -, -, -, F151⟩ : ay_ex hp 173 ∧ ay_ex hp 173 ∧ ay_ex hp 173 ∧ ay_ex hp 173 ∧ ay_ex hp 173 ∧ pz_y151 (ρ 0) (ρ 2) (ay_at hp 173 13) (ay_at hp 173 14) (ay_at hp 173 15) (ay_at hp 173 16) (ay_at hp 173 17) := (ax_XF_lt (x := 151) (Nat.le_of_ble_eq_true rfl)).mp (ax_gx hE (151, [3, 11]) (by decide))
  have F182 : (ρ 2) / 4 = (ρ 1) / 4 + 1 := (ax_XF_lt (x := 182) (Nat.le_of_ble_eq_true rfl)).mp (ax_gx hE (182, [7, 11]) (by decide))
  obtain ⟨-, -, -, -, -, -, -, -, -, -, -, F152⟩ : ay_ex hp 175 ∧ ay_ex hp 176 ∧ ay_ex hp 177 ∧ ay_ex hp 178 ∧ ay_ex hp 179 ∧ ay_ex hp 173 ∧ ay_ex hp 173 ∧ ay_ex hp 173 ∧ ay_ex hp 173 ∧ ay_ex hp 173 ∧ ay_ex hp 181 ∧ pz_y152 0 (ρ 0) (ρ 1) (ay_at hp 175 0) (ay_at hp 176 0) (ay_at hp 177 0) (ay_at hp 178 0) (ay_at hp 179 0) (ay_at hp 173 23) (ay_at hp 173 25) (ay_at hp 173 24) (ay_at hp 173 18) (ay_at hp 173 19) (ay_at hp 181) := (ax_XF_lt (x := 152) (Nat.le_of_ble_eq_true rfl)).mp (ax_gx hE (152, [3, 7]) (by decide))
  have F174 : pz7 (pz_gt (ρ 0)) (pz_gN (ρ 0)) ((ρ 1) / 4) 4 := (ax_XF_lt (x := 174) (Nat.le_of_ble_eq_true rfl)).mp (ax_gx hE (174, [3, 7]) (by decide))
  have F204 : pz104 (pz_gt (ρ 0)) (pz_gN (ρ 0)) ((ρ 1) / 4) ((ρ 3) / 4) := (ax_XF_lt (x := 204) (Nat.le_of_ble_eq_true rfl)).mp (ax_gx hE (204, [3, 7, 15]) (by decide))
  have f50 : pz50 (pz_gt (ρ 0)) (pz_gN (ρ 0)) (ρ 1 / 4) (pz_nx (pz_gt (ρ 0)) (pz_gN (ρ 0)) (pz_p (pz_cf (pz_gt (ρ 0)) (pz_gN (ρ 0)) (ρ 1 / 4)))) (pz_at (pz_gt (ρ 0)) (pz_gN (ρ 0)) (pz_p (pz_cf (pz_gt (ρ 0)) (pz_gN (ρ 0)) (ρ 1 / 4)))) (pz_kd (pz_gt (ρ 0)) (pz_gN (ρ 0)) (pz_p (pz_cf (pz_gt (ρ 0)) (pz_gN (ρ 0)) (ρ 1 / 4)))) (pz_vl (pz_gt (ρ 0)) (pz_gN (ρ 0)) (pz_p (pz_cf (pz_gt (ρ 0)) (pz_gN (ρ 0)) (ρ 1 / 4)))) _ _ _ _ _ _ _ _ _ _ _ _ := ⟨rfl, rfl, rfl, fun _ => pz_m_vl, F152⟩
  have st := pq_lk4 f50 F174 F204
  refine ⟨(fun y hy => by cases hy), _, List.mem_cons_self, ρ, fun _ _ => rfl, ax_px hE rfl (fun x hx => ?_)⟩
  rcases List.mem_cons.mp hx with e | hx
  · subst e
    refine (ax_XF_lt (x := 152) (Nat.le_of_ble_eq_true rfl)).mpr ?_
    show ay_ex hp 175 ∧ ay_ex hp 176 ∧ ay_ex hp 177 ∧ ay_ex hp 178 ∧ ay_ex hp 179 ∧ ay_ex hp 173 ∧ ay_ex hp 173 ∧ ay_ex hp 173 ∧ ay_ex hp 173 ∧ ay_ex hp 173 ∧ ay_ex hp 181 ∧ pz_y152 0 (ρ 0) (ρ 2) (ay_at hp 175 0) (ay_at hp 176 0) (ay_at hp 177 0) (ay_at hp 178 0) (ay_at hp 179 0) (ay_at hp 173 23) (ay_at hp 173 25) (ay_at hp 173 24) (ay_at hp 173 18) (ay_at hp 173 19) (ay_at hp 181)
    refine ⟨(ax_cellT hT (q := 175) (g := 45) (ax_wc ax_WW1 ax_cg_175)), (ax_cellT hT (q := 176) (g := 46) (ax_wc ax_WW1 ax_cg_176)), (ax_cellT hT (q := 177) (g := 47) (ax_wc ax_WW1 ax_cg_177)), (ax_cellT hT (q := 178) (g := 48) (ax_wc ax_WW1 ax_cg_178)), (ax_cellT hT (q := 179) (g := 49) (ax_wc ax_WW1 ax_cg_179)), (ax_cellT hT (q := 173) (g := 11) (ax_wc ax_WW1 ax_cg_173)), (ax_cellT hT (q := 173) (g := 11) (ax_wc ax_WW1 ax_cg_173)), (ax_cellT hT (q := 173) (g := 11) (ax_wc ax_WW1 ax_cg_173)), (ax_cellT hT (q := 173) (g := 11) (ax_wc ax_WW1 ax_cg_173)), (ax_cellT hT (q := 173) (g := 11) (ax_wc ax_WW1 ax_cg_173)), (ax_cellT hT (q := 181) (g := 51) (ax_wc ax_WW1 ax_cg_181)), ?_⟩
    exact pz_l152 F182 st.1.2
  rcases List.mem_cons.mp hx with e | hx
  · subst e
    refine (ax_XF_lt (x := 175) (Nat.le_of_ble_eq_true rfl)).mpr ?_
    show pz7 (pz_gt (ρ 0)) (pz_gN (ρ 0)) ((ρ 2) / 4) 5
    rw [F182]
    exact st.2.1
  cases List.mem_singleton.mp hx
  refine (ax_XF_lt (x := 167) (Nat.le_of_ble_eq_true rfl)).mpr ?_
  show pz67 (pz_gt (ρ 0)) (pz_gN (ρ 0)) ((ρ 2) / 4) ((ρ 3) / 4)
  rw [F182]
  exact st.2.2

theorem axq1_ml5a : ax_RO ax_wM1 (ax_XM 1) axu1_ml5a := axqg_ml5a ax_WW1
theorem axq1_ml5b : ax_RO ax_wM1 (ax_XM 1) axu1_ml5b := axqg_ml5b ax_WW1
theorem axq1_ml6a : ax_RO ax_wM1 (ax_XM 1) axu1_ml6a := axqg_ml6a ax_WW1
theorem axq1_ml6b : ax_RO ax_wM1 (ax_XM 1) axu1_ml6b := axqg_ml6b ax_WW1
theorem axq1_ml7 : ax_RO ax_wM1 (ax_XM 1) axu1_ml7 := axqg_ml7 ax_WW1
theorem axq1_ml8 : ax_RO ax_wM1 (ax_XM 1) axu1_ml8 := axqg_ml8 ax_WW1
theorem axq1_ml9 : ax_RO ax_wM1 (ax_XM 1) axu1_ml9 := by
  intro ρ hp hE hT
  have j0 : ρ 0 % 4 = 1 := pz_gj hE 0 (Nat.le_of_ble_eq_true rfl) rfl
  have j1 : ρ 1 % 4 = 1 := pz_gj hE 1 (Nat.le_of_ble_eq_true rfl) rfl
  obtain ⟨i2a, i2b, i2c, i2d⟩ := pz_gi hE 2 2147483648 2147493647 (Nat.le_of_ble_eq_true rfl) rfl
  obtain ⟨i3a, i3b, i3c, i3d⟩ := pz_gi hE 3 2147483648 2147493647 (Nat.le_of_ble_eq_true rfl) rfl
  obtain ⟨i4a, i4b, i4c, i4d⟩ := pz_gi hE 4 2147483648 2147483687 (Nat.le_of_ble_eq_true rfl) rfl
  obtain ⟨i5a, i5b, i5c, i5d⟩ := pz_gi hE 5 2147483648 2147483667 (Nat.le_of_ble_eq_true rfl) rfl
  obtain ⟨i6a, i6b, i6c, i6d⟩ := pz_gi hE 6 0 4294967295 (Nat.le_of_ble_eq_true rfl) rfl
  obtain ⟨i7a, i7b, i7c, i7d⟩ := pz_gi hE 7 0 4294967295 (Nat.le_of_ble_eq_true rfl) rfl
  have c_number : ay_at hp 173 16 = some (ρ 2) := ay_gfj hE 702 64 11 173 16 ax_m4 (ax_vlq rfl rfl) (ax_vlj rfl rfl)
  have r1 : (ρ 2 / 4 + 2147483648) % 4294967296 ≠ (ρ 3 / 4 + 2147483648) % 4294967296 := pz_gc hE 1 11 15 (Nat.le_of_ble_eq_true rfl) ax_m7
  have c_links : ay_at hp 176 0 = some (ρ 5) := ay_gfj hE 714 0 23 176 0 ax_m8 (ax_vlq rfl rfl) (ax_vlj rfl rfl)
  have s1 : (0 / 4 + 2147483648) % 4294967296 + (ρ 6 / 4 + 2147483648) % 4294967296 = (ρ 7 / 4 + 2147483648) % 4294967296 + 2147483648 := pz_gs hE 0 27 31 ax_m10
  have s2 : (ρ 7 / 4 + 2147483648) % 4294967296 + (0 / 4 + 2147483648) % 4294967296 = (ρ 4 / 4 + 2147483648) % 4294967296 + 2147483648 := pz_gs hE 31 0 19 ax_m11
  obtain ⟨-, -, -, -, -, F151⟩ : ay_ex hp 173 ∧ ay_ex hp 173 ∧ ay_ex hp 173 ∧ ay_ex hp 173 ∧ ay_ex hp 173 ∧ pz_y151 (ρ 0) (ρ 1) (ay_at hp 173 13) (ay_at hp 173 14) (ay_at hp 173 15) (ay_at hp 173 16) (ay_at hp 173 17) := (ax_XF_lt (x := 151) (Nat.le_of_ble_eq_true rfl)).mp (ax_gx hE (151, [3, 7]) ax_m0)
  rw [c_number] at F151
  obtain ⟨-, -, -, -, -, -, -, -, -, -, -, F152⟩ : ay_ex hp 175 ∧ ay_ex hp 176 ∧ ay_ex hp 177 ∧ ay_ex hp 178 ∧ ay_ex hp 179 ∧ ay_ex hp 173 ∧ ay_ex hp 173 ∧ ay_ex hp 173 ∧ ay_ex hp 173 ∧ ay_ex hp 173 ∧ ay_ex hp 181 ∧ pz_y152 0 (ρ 0) (ρ 1) (ay_at hp 175 0) (ay_at hp 176 0) (ay_at hp 177 0) (ay_at hp 178 0) (ay_at hp 179 0) (ay_at hp 173 23) (ay_at hp 173 25) (ay_at hp 173 24) (ay_at hp 173 18) (ay_at hp 173 19) (ay_at hp 181) := (ax_XF_lt (x := 152) (Nat.le_of_ble_eq_true rfl)).mp (ax_gx hE (152, [3, 7]) ax_m1)
  rw [c_links] at F152
  have F175 : pz7 (pz_gt (ρ 0)) (pz_gN (ρ 0)) ((ρ 1) / 4) 5 := (ax_XF_lt (x := 175) (Nat.le_of_ble_eq_true rfl)).mp (ax_gx hE (175, [3, 7]) ax_m2)
  have F167 : pz67 (pz_gt (ρ 0)) (pz_gN (ρ 0)) ((ρ 1) / 4) ((ρ 3) / 4) := (ax_XF_lt (x := 167) (Nat.le_of_ble_eq_true rfl)).mp (ax_gx hE (167, [3, 7, 15]) ax_m3)
  have F204 : pz104 (pz_gt (ρ 0)) (pz_gN (ρ 0)) ((ρ 1) / 4) ((ρ 2) / 4) := (ax_XF_lt (x := 204) (Nat.le_of_ble_eq_true rfl)).mp (ax_gx hE (204, [3, 7, 11]) ax_m5)
  have F214 : pz113 (pz_gt (ρ 0)) (pz_gN (ρ 0)) ((ρ 1) / 4) ((ρ 3) / 4) ((ρ 2) / 4) := (ax_XF_lt (x := 214) (Nat.le_of_ble_eq_true rfl)).mp (ax_gx hE (214, [3, 7, 15, 11]) ax_m6)
  obtain ⟨r, m1, m2', m3⟩ := ay_mk hE 2 8 23 27 (by decide) (by decide)
  replace m1 : some (8 / 4 * (ρ 5 / 4) % 4294967296) = some r := m1
  have m1 := Option.some.inj m1
  replace m3 : ρ 6 = 4 * r := m3
  have hl := (pz_ps 0 19 i5b i5c i5d (by decide)).2
  have hm : ρ 6 / 4 = 2 * (ρ 5 / 4) := by
    clear s1 s2
    omega
  have h1 : ρ 7 / 4 = 0 + ρ 6 / 4 := pz_sm (by decide) (by omega) i7b s1
  have h2 : ρ 4 / 4 = ρ 7 / 4 + 0 := pz_sm (by omega) (by decide) i4b s2
  have hj : ρ 4 / 4 = 40 * 0 + 2 * (ρ 5 / 4) + 0 := by omega
  refine ⟨(fun y hy => by cases hy), _, List.mem_cons_self, ρ, fun _ _ => rfl, ax_px hE rfl (fun x hx => ?_)⟩
  cases List.mem_singleton.mp hx
  refine (ax_XF_wr (x := 216) (Nat.le_of_ble_eq_true rfl)).mpr ?_
  show ay_ex (ax_upd hp 734 (ρ 4) (ρ 3)) 175 ∧ ay_ex (ax_upd hp 734 (ρ 4) (ρ 3)) 176 ∧ ay_ex (ax_upd hp 734 (ρ 4) (ρ 3)) 177 ∧ ay_ex (ax_upd hp 734 (ρ 4) (ρ 3)) 178 ∧ ay_ex (ax_upd hp 734 (ρ 4) (ρ 3)) 179 ∧ ay_ex (ax_upd hp 734 (ρ 4) (ρ 3)) 173 ∧ ay_ex (ax_upd hp 734 (ρ 4) (ρ 3)) 173 ∧ ay_ex (ax_upd hp 734 (ρ 4) (ρ 3)) 173 ∧ ay_ex (ax_upd hp 734 (ρ 4) (ρ 3)) 173 ∧ ay_ex (ax_upd hp 734 (ρ 4) (ρ 3)) 173 ∧ ay_ex (ax_upd hp 734 (ρ 4) (ρ 3)) 181 ∧ pz_yal 1 0 (ρ 0) (ρ 1) (ρ 3) (ρ 2) (ρ 5) (ay_at (ax_upd hp 734 (ρ 4) (ρ 3)) 175 0) (ay_at (ax_upd hp 734 (ρ 4) (ρ 3)) 176 0) (ay_at (ax_upd hp 734 (ρ 4) (ρ 3)) 177 0) (ay_at (ax_upd hp 734 (ρ 4) (ρ 3)) 178 0) (ay_at (ax_upd hp 734 (ρ 4) (ρ 3)) 179 0) (ay_at (ax_upd hp 734 (ρ 4) (ρ 3)) 173 23) (ay_at (ax_upd hp 734 (ρ 4) (ρ 3)) 173 25) (ay_at (ax_upd hp 734 (ρ 4) (ρ 3)) 173 24) (ay_at (ax_upd hp 734 (ρ 4) (ρ 3)) 173 18) (ay_at (ax_upd hp 734 (ρ 4) (ρ 3)) 173 19) (ay_at (ax_upd hp 734 (ρ 4) (ρ 3)) 181)
  obtain ⟨o0, ho0⟩ := ay_some hT (q := 181) (g := 51) (n := 80) (ax_wc ax_WW1 ax_cg_181) (ax_wn ax_WW1 ax_cn_51) (j := ρ 4 / 4) (by omega)
  have u1 : ∀ q, q ≠ 181 → ay_at (ax_upd hp 734 (ρ 4) (ρ 3)) q = ay_at hp q := fun q hq => funext (fun j => ay_upd_ne hT.1 hq j)
  have u2 : ∀ j, ay_at (ax_upd hp 734 (ρ 4) (ρ 3)) 181 j = if j = ρ 4 / 4 then some (ρ 3) else ay_at hp 181 j := fun j => ay_upd_eq hT.1 rfl ho0 j
  refine ⟨ay_ex_upd hT.1 (ax_cellT hT (q := 175) (g := 45) (ax_wc ax_WW1 ax_cg_175)), ay_ex_upd hT.1 (ax_cellT hT (q := 176) (g := 46) (ax_wc ax_WW1 ax_cg_176)), ay_ex_upd hT.1 (ax_cellT hT (q := 177) (g := 47) (ax_wc ax_WW1 ax_cg_177)), ay_ex_upd hT.1 (ax_cellT hT (q := 178) (g := 48) (ax_wc ax_WW1 ax_cg_178)), ay_ex_upd hT.1 (ax_cellT hT (q := 179) (g := 49) (ax_wc ax_WW1 ax_cg_179)), ay_ex_upd hT.1 (ax_cellT hT (q := 173) (g := 11) (ax_wc ax_WW1 ax_cg_173)), ay_ex_upd hT.1 (ax_cellT hT (q := 173) (g := 11) (ax_wc ax_WW1 ax_cg_173)), ay_ex_upd hT.1 (ax_cellT hT (q := 173) (g := 11) (ax_wc ax_WW1 ax_cg_173)), ay_ex_upd hT.1 (ax_cellT hT (q := 173) (g := 11) (ax_wc ax_WW1 ax_cg_173)), ay_ex_upd hT.1 (ax_cellT hT (q := 173) (g := 11) (ax_wc ax_WW1 ax_cg_173)), ay_ex_upd hT.1 (ax_cellT hT (q := 181) (g := 51) (ax_wc ax_WW1 ax_cg_181)), ?_⟩
  rw [u1 175 (Nat.ne_of_beq_eq_false rfl), u1 176 (Nat.ne_of_beq_eq_false rfl), u1 177 (Nat.ne_of_beq_eq_false rfl), u1 178 (Nat.ne_of_beq_eq_false rfl), u1 179 (Nat.ne_of_beq_eq_false rfl), u1 173 (Nat.ne_of_beq_eq_false rfl)]
  rw [c_links]
  have ey : ρ 3 = 4 * (ρ 3 / 4) := by omega
  have el : ρ 5 / 4 = ρ 5 / 4 := rfl
  refine ⟨rfl, F175, F167, F204, by omega, F214, pz_y152_en (v := ρ 3) F152 rfl (show 40 * 0 + 2 * (ρ 5 / 4) ≤ ρ 4 / 4 by omega) u2, ?_, fun z => absurd z (by decide)⟩
  rw [u2, if_pos (by omega)]
  exact congrArg some ey

theorem axq1_mlA : ax_RO ax_wM1 (ax_XM 1) axu1_mlA := by
  intro ρ hp hE hT
  have j0 : ρ 0 % 4 = 1 := pz_gj hE 0 (Nat.le_of_ble_eq_true rfl) rfl
  have j1 : ρ 1 % 4 = 1 := pz_gj hE 1 (Nat.le_of_ble_eq_true rfl) rfl
  obtain ⟨i2a, i2b, i2c, i2d⟩ := pz_gi hE 2 2147483648 2147493647 (Nat.le_of_ble_eq_true rfl) rfl
  obtain ⟨i3a, i3b, i3c, i3d⟩ := pz_gi hE 3 2147483648 2147493647 (Nat.le_of_ble_eq_true rfl) rfl
  obtain ⟨i4a, i4b, i4c, i4d⟩ := pz_gi hE 4 2147483648 2147483687 (Nat.le_of_ble_eq_true rfl) rfl
  obtain ⟨i5a, i5b, i5c, i5d⟩ := pz_gi hE 5 2147483648 2147483667 (Nat.le_of_ble_eq_true rfl) rfl
  obtain ⟨i6a, i6b, i6c, i6d⟩ := pz_gi hE 6 0 4294967295 (Nat.le_of_ble_eq_true rfl) rfl
  obtain ⟨i7a, i7b, i7c, i7d⟩ := pz_gi hE 7 0 4294967295 (Nat.le_of_ble_eq_true rfl) rfl
  have c_links : ay_at hp 176 0 = some (ρ 5) := ay_gfj hE 714 0 23 176 0 ax_m1 (ax_vlq rfl rfl) (ax_vlj rfl rfl)
  have s1 : (0 / 4 + 2147483648) % 4294967296 + (ρ 6 / 4 + 2147483648) % 4294967296 = (ρ 7 / 4 + 2147483648) % 4294967296 + 2147483648 := pz_gs hE 0 27 31 ax_m3
  have s2 : (ρ 7 / 4 + 2147483648) % 4294967296 + (4 / 4 + 2147483648) % 4294967296 = (ρ 4 / 4 + 2147483648) % 4294967296 + 2147483648 := pz_gs hE 31 4 19 ax_m4
  obtain ⟨-, -, -, -, -, F151⟩ : ay_ex hp 173 ∧ ay_ex hp 173 ∧ ay_ex hp 173 ∧ ay_ex hp 173 ∧ ay_ex hp 173 ∧ pz_y151 (ρ 0) (ρ 1) (ay_at hp 173 13) (ay_at hp 173 14) (ay_at hp 173 15) (ay_at hp 173 16) (ay_at hp 173 17) := (ax_XF_lt (x := 151) (Nat.le_of_ble_eq_true rfl)).mp (ax_gx hE (151, [3, 7]) ax_m0)
  obtain ⟨-, -, -, -, -, -, -, -, -, -, -, F216⟩ : ay_ex hp 175 ∧ ay_ex hp 176 ∧ ay_ex hp 177 ∧ ay_ex hp 178 ∧ ay_ex hp 179 ∧ ay_ex hp 173 ∧ ay_ex hp 173 ∧ ay_ex hp 173 ∧ ay_ex hp 173 ∧ ay_ex hp 173 ∧ ay_ex hp 181 ∧ pz_yal 1 0 (ρ 0) (ρ 1) (ρ 3) (ρ 2) (ρ 5) (ay_at hp 175 0) (ay_at hp 176 0) (ay_at hp 177 0) (ay_at hp 178 0) (ay_at hp 179 0) (ay_at hp 173 23) (ay_at hp 173 25) (ay_at hp 173 24) (ay_at hp 173 18) (ay_at hp 173 19) (ay_at hp 181) := (ax_XF_lt (x := 216) (Nat.le_of_ble_eq_true rfl)).mp (ax_gx hE (216, [3, 7, 15, 11, 23]) ax_m5)
  rw [c_links] at F216
  obtain ⟨r, m1, m2', m3⟩ := ay_mk hE 2 8 23 27 (by decide) (by decide)
  replace m1 : some (8 / 4 * (ρ 5 / 4) % 4294967296) = some r := m1
  have m1 := Option.some.inj m1
  replace m3 : ρ 6 = 4 * r := m3
  have hl := (pz_ps 0 19 i5b i5c i5d (by decide)).2
  have hm : ρ 6 / 4 = 2 * (ρ 5 / 4) := by
    clear s1 s2
    omega
  have h1 : ρ 7 / 4 = 0 + ρ 6 / 4 := pz_sm (by decide) (by omega) i7b s1
  have h2 : ρ 4 / 4 = ρ 7 / 4 + 1 := pz_sm (by omega) (by decide) i4b s2
  have hj : ρ 4 / 4 = 40 * 0 + 2 * (ρ 5 / 4) + 1 := by omega
  refine ⟨(fun y hy => by cases hy), _, List.mem_cons_self, ρ, fun _ _ => rfl, ax_px hE rfl (fun x hx => ?_)⟩
  cases List.mem_singleton.mp hx
  refine (ax_XF_wr (x := 217) (Nat.le_of_ble_eq_true rfl)).mpr ?_
  show ay_ex (ax_upd hp 734 (ρ 4) (ρ 2)) 175 ∧ ay_ex (ax_upd hp 734 (ρ 4) (ρ 2)) 176 ∧ ay_ex (ax_upd hp 734 (ρ 4) (ρ 2)) 177 ∧ ay_ex (ax_upd hp 734 (ρ 4) (ρ 2)) 178 ∧ ay_ex (ax_upd hp 734 (ρ 4) (ρ 2)) 179 ∧ ay_ex (ax_upd hp 734 (ρ 4) (ρ 2)) 173 ∧ ay_ex (ax_upd hp 734 (ρ 4) (ρ 2)) 173 ∧ ay_ex (ax_upd hp 734 (ρ 4) (ρ 2)) 173 ∧ ay_ex (ax_upd hp 734 (ρ 4) (ρ 2)) 173 ∧ ay_ex (ax_upd hp 734 (ρ 4) (ρ 2)) 173 ∧ ay_ex (ax_upd hp 734 (ρ 4) (ρ 2)) 181 ∧ pz_yal 2 0 (ρ 0) (ρ 1) (ρ 3) (ρ 2) (ρ 5) (ay_at (ax_upd hp 734 (ρ 4) (ρ 2)) 175 0) (ay_at (ax_upd hp 734 (ρ 4) (ρ 2)) 176 0) (ay_at (ax_upd hp 734 (ρ 4) (ρ 2)) 177 0) (ay_at (ax_upd hp 734 (ρ 4) (ρ 2)) 178 0) (ay_at (ax_upd hp 734 (ρ 4) (ρ 2)) 179 0) (ay_at (ax_upd hp 734 (ρ 4) (ρ 2)) 173 23) (ay_at (ax_upd hp 734 (ρ 4) (ρ 2)) 173 25) (ay_at (ax_upd hp 734 (ρ 4) (ρ 2)) 173 24) (ay_at (ax_upd hp 734 (ρ 4) (ρ 2)) 173 18) (ay_at (ax_upd hp 734 (ρ 4) (ρ 2)) 173 19) (ay_at (ax_upd hp 734 (ρ 4) (ρ 2)) 181)
  obtain ⟨o0, ho0⟩ := ay_some hT (q := 181) (g := 51) (n := 80) (ax_wc ax_WW1 ax_cg_181) (ax_wn ax_WW1 ax_cn_51) (j := ρ 4 / 4) (by omega)
  have u1 : ∀ q, q ≠ 181 → ay_at (ax_upd hp 734 (ρ 4) (ρ 2)) q = ay_at hp q := fun q hq => funext (fun j => ay_upd_ne hT.1 hq j)
  have u2 : ∀ j, ay_at (ax_upd hp 734 (ρ 4) (ρ 2)) 181 j = if j = ρ 4 / 4 then some (ρ 2) else ay_at hp 181 j := fun j => ay_upd_eq hT.1 rfl ho0 j
  refine ⟨ay_ex_upd hT.1 (ax_cellT hT (q := 175) (g := 45) (ax_wc ax_WW1 ax_cg_175)), ay_ex_upd hT.1 (ax_cellT hT (q := 176) (g := 46) (ax_wc ax_WW1 ax_cg_176)), ay_ex_upd hT.1 (ax_cellT hT (q := 177) (g := 47) (ax_wc ax_WW1 ax_cg_177)), ay_ex_upd hT.1 (ax_cellT hT (q := 178) (g := 48) (ax_wc ax_WW1 ax_cg_178)), ay_ex_upd hT.1 (ax_cellT hT (q := 179) (g := 49) (ax_wc ax_WW1 ax_cg_179)), ay_ex_upd hT.1 (ax_cellT hT (q := 173) (g := 11) (ax_wc ax_WW1 ax_cg_173)), ay_ex_upd hT.1 (ax_cellT hT (q := 173) (g := 11) (ax_wc ax_WW1 ax_cg_173)), ay_ex_upd hT.1 (ax_cellT hT (q := 173) (g := 11) (ax_wc ax_WW1 ax_cg_173)), ay_ex_upd hT.1 (ax_cellT hT (q := 173) (g := 11) (ax_wc ax_WW1 ax_cg_173)), ay_ex_upd hT.1 (ax_cellT hT (q := 173) (g := 11) (ax_wc ax_WW1 ax_cg_173)), ay_ex_upd hT.1 (ax_cellT hT (q := 181) (g := 51) (ax_wc ax_WW1 ax_cg_181)), ?_⟩
  rw [u1 175 (Nat.ne_of_beq_eq_false rfl), u1 176 (Nat.ne_of_beq_eq_false rfl), u1 177 (Nat.ne_of_beq_eq_false rfl), u1 178 (Nat.ne_of_beq_eq_false rfl), u1 179 (Nat.ne_of_beq_eq_false rfl), u1 173 (Nat.ne_of_beq_eq_false rfl)]
  rw [c_links]
  have ex : ρ 2 = 4 * (ρ 2 / 4) := by omega
  obtain ⟨a1, a2, a3, a4, a5, a6, a7, a8, a9⟩ := F216
  refine ⟨a1, a2, a3, a4, a5, a6, pz_y152_en (v := ρ 2) a7 a1 (show 40 * 0 + 2 * (ρ 5 / 4) ≤ ρ 4 / 4 by omega) u2, ?_, fun _ => ?_⟩
  · rw [u2, if_neg (by omega)]
    exact a8
  · rw [u2, if_pos (by omega)]
    exact congrArg some ex

theorem axq1_mlB : ax_RO ax_wM1 (ax_XM 1) axu1_mlB := by
  intro ρ hp hE hT
  have j0 : ρ 0 % 4 = 1 := pz_gj hE 0 (Nat.le_of_ble_eq_true rfl) rfl
  have j1 : ρ 1 % 4 = 1 := pz_gj hE 1 (Nat.le_of_ble_eq_true rfl) rfl
  obtain ⟨i2a, i2b, i2c, i2d⟩ := pz_gi hE 2 2147483648 2147493647 (Nat.le_of_ble_eq_true rfl) rfl
  obtain ⟨i3a, i3b, i3c, i3d⟩ := pz_gi hE 3 2147483648 2147493647 (Nat.le_of_ble_eq_true rfl) rfl
  obtain ⟨i4a, i4b, i4c, i4d⟩ := pz_gi hE 4 0 4294967295 (Nat.le_of_ble_eq_true rfl) rfl
  obtain ⟨i5a, i5b, i5c, i5d⟩ := pz_gi hE 5 2147483648 2147483667 (Nat.le_of_ble_eq_true rfl) rfl
  have c_links : ay_at hp 176 0 = some (ρ 5) := ay_gfj hE 714 0 23 176 0 ax_m1 (ax_vlq rfl rfl) (ax_vlj rfl rfl)
  have s1 : (ρ 5 / 4 + 2147483648) % 4294967296 + (4 / 4 + 2147483648) % 4294967296 = (ρ 4 / 4 + 2147483648) % 4294967296 + 2147483648 := pz_gs hE 23 4 19 ax_m2
  obtain ⟨-, -, -, -, -, F151⟩ : ay_ex hp 173 ∧ ay_ex hp 173 ∧ ay_ex hp 173 ∧ ay_ex hp 173 ∧ ay_ex hp 173 ∧ pz_y151 (ρ 0) (ρ 1) (ay_at hp 173 13) (ay_at hp 173 14) (ay_at hp 173 15) (ay_at hp 173 16) (ay_at hp 173 17) := (ax_XF_lt (x := 151) (Nat.le_of_ble_eq_true rfl)).mp (ax_gx hE (151, [3, 7]) ax_m0)
  obtain ⟨-, -, -, -, -, -, -, -, -, -, -, F217⟩ : ay_ex hp 175 ∧ ay_ex hp 176 ∧ ay_ex hp 177 ∧ ay_ex hp 178 ∧ ay_ex hp 179 ∧ ay_ex hp 173 ∧ ay_ex hp 173 ∧ ay_ex hp 173 ∧ ay_ex hp 173 ∧ ay_ex hp 173 ∧ ay_ex hp 181 ∧ pz_yal 2 0 (ρ 0) (ρ 1) (ρ 3) (ρ 2) (ρ 5) (ay_at hp 175 0) (ay_at hp 176 0) (ay_at hp 177 0) (ay_at hp 178 0) (ay_at hp 179 0) (ay_at hp 173 23) (ay_at hp 173 25) (ay_at hp 173 24) (ay_at hp 173 18) (ay_at hp 173 19) (ay_at hp 181) := (ax_XF_lt (x := 217) (Nat.le_of_ble_eq_true rfl)).mp (ax_gx hE (217, [3, 7, 15, 11, 23]) ax_m3)
  rw [c_links] at F217
  have el : ρ 4 / 4 = ρ 5 / 4 + 1 := by omega
  obtain ⟨a1, a2, a3, a4, a5, a6, a7, a8, a9⟩ := F217
  have a9 := a9 (by decide)
  have st := pq_al (pz_m50 F151 a7) a2 a3 a4 a5 a6 (fun _ _ => rfl) (fun _ _ => rfl) (show pz_be _ _ _ = _ from a8) (show pz_fi 0 (ay_at hp 181) (2 * (ρ 5 / 4)) = _ by unfold pz_fi; rw [if_pos (by omega)]; exact a9) (show pz_be _ _ _ = _ from a9) (show pz_fi 0 (ay_at hp 181) (2 * (ρ 5 / 4) + 1) = _ by unfold pz_fi; rw [if_neg (by omega)]; exact a8)
  obtain ⟨ρ', h1, h2⟩ := pz_pn1 (K := ρ 1 / 4 + 1) (xf := [(652, [714, 0, 19, 3, 27]), (181, [3, 27]), (153, [3, 27]), (182, [7, 27])]) hE (by decide) (fun ρ' h1 h2 x hx => by
    have q0 : ρ' 0 = ρ 0 := h1 0 (by decide)
    have q1 : ρ' 1 = ρ 1 := h1 1 (by decide)
    have q2 : ρ' 2 = ρ 2 := h1 2 (by decide)
    have q3 : ρ' 3 = ρ 3 := h1 3 (by decide)
    have q4 : ρ' 4 = ρ 4 := h1 4 (by decide)
    have q5 : ρ' 5 = ρ 5 := h1 5 (by decide)
    rcases List.mem_cons.mp hx with e | hx
    · subst e
      refine (ax_XF_wr (x := 152) (Nat.le_of_ble_eq_true rfl)).mpr ?_
      show ay_ex (ax_upd hp 714 (0) (ρ' 4)) 175 ∧ ay_ex (ax_upd hp 714 (0) (ρ' 4)) 176 ∧ ay_ex (ax_upd hp 714 (0) (ρ' 4)) 177 ∧ ay_ex (ax_upd hp 714 (0) (ρ' 4)) 178 ∧ ay_ex (ax_upd hp 714 (0) (ρ' 4)) 179 ∧ ay_ex (ax_upd hp 714 (0) (ρ' 4)) 173 ∧ ay_ex (ax_upd hp 714 (0) (ρ' 4)) 173 ∧ ay_ex (ax_upd hp 714 (0) (ρ' 4)) 173 ∧ ay_ex (ax_upd hp 714 (0) (ρ' 4)) 173 ∧ ay_ex (ax_upd hp 714 (0) (ρ' 4)) 173 ∧ ay_ex (ax_upd hp 714 (0) (ρ' 4)) 181 ∧ pz_y152 0 (ρ' 0) (ρ' 6) (ay_at (ax_upd hp 714 (0) (ρ' 4)) 175 0) (ay_at (ax_upd hp 714 (0) (ρ' 4)) 176 0) (ay_at (ax_upd hp 714 (0) (ρ' 4)) 177 0) (ay_at (ax_upd hp 714 (0) (ρ' 4)) 178 0) (ay_at (ax_upd hp 714 (0) (ρ' 4)) 179 0) (ay_at (ax_upd hp 714 (0) (ρ' 4)) 173 23) (ay_at (ax_upd hp 714 (0) (ρ' 4)) 173 25) (ay_at (ax_upd hp 714 (0) (ρ' 4)) 173 24) (ay_at (ax_upd hp 714 (0) (ρ' 4)) 173 18) (ay_at (ax_upd hp 714 (0) (ρ' 4)) 173 19) (ay_at (ax_upd hp 714 (0) (ρ' 4)) 181)
      rw [q0, q4, h2]
      obtain ⟨o0, ho0⟩ := ay_some hT (q := 176) (g := 46) (n := 2) (ax_wc ax_WW1 ax_cg_176) (ax_wn ax_WW1 ax_cn_46) (j := 0 / 4) (Nat.le_of_ble_eq_true rfl)
      have u1 : ∀ q, q ≠ 176 → ay_at (ax_upd hp 714 0 (ρ 4)) q = ay_at hp q := fun q hq => funext (fun j => ay_upd_ne hT.1 hq j)
      have u2 : ∀ j, ay_at (ax_upd hp 714 0 (ρ 4)) 176 j = if j = 0 then some (ρ 4) else ay_at hp 176 j := fun j => ay_upd_eq hT.1 rfl ho0 j
      refine ⟨ay_ex_upd hT.1 (ax_cellT hT (q := 175) (g := 45) (ax_wc ax_WW1 ax_cg_175)), ay_ex_upd hT.1 (ax_cellT hT (q := 176) (g := 46) (ax_wc ax_WW1 ax_cg_176)), ay_ex_upd hT.1 (ax_cellT hT (q := 177) (g := 47) (ax_wc ax_WW1 ax_cg_177)), ay_ex_upd hT.1 (ax_cellT hT (q := 178) (g := 48) (ax_wc ax_WW1 ax_cg_178)), ay_ex_upd hT.1 (ax_cellT hT (q := 179) (g := 49) (ax_wc ax_WW1 ax_cg_179)), ay_ex_upd hT.1 (ax_cellT hT (q := 173) (g := 11) (ax_wc ax_WW1 ax_cg_173)), ay_ex_upd hT.1 (ax_cellT hT (q := 173) (g := 11) (ax_wc ax_WW1 ax_cg_173)), ay_ex_upd hT.1 (ax_cellT hT (q := 173) (g := 11) (ax_wc ax_WW1 ax_cg_173)), ay_ex_upd hT.1 (ax_cellT hT (q := 173) (g := 11) (ax_wc ax_WW1 ax_cg_173)), ay_ex_upd hT.1 (ax_cellT hT (q := 173) (g := 11) (ax_wc ax_WW1 ax_cg_173)), ay_ex_upd hT.1 (ax_cellT hT (q := 181) (g := 51) (ax_wc ax_WW1 ax_cg_181)), ?_⟩
      rw [u1 175 (Nat.ne_of_beq_eq_false rfl), u2 0, if_pos rfl, u1 177 (Nat.ne_of_beq_eq_false rfl), u1 178 (Nat.ne_of_beq_eq_false rfl), u1 179 (Nat.ne_of_beq_eq_false rfl), u1 173 (Nat.ne_of_beq_eq_false rfl), u1 181 (Nat.ne_of_beq_eq_false rfl)]
      refine pz_l152 (pz_41 _) ?_
      show pz_dt _ _ (ρ 4 / 4) _ _ _ _ _ _ _ _ _ _
      rw [el]
      exact st.1.2
    rcases List.mem_cons.mp hx with e | hx
    · subst e
      refine (ax_XF_lt (x := 181) (Nat.le_of_ble_eq_true rfl)).mpr ?_
      show pz_y181 (ρ' 0) (ρ' 6)
      rw [q0, h2]
      refine Or.inl ?_
      rw [pz_41]
      exact st.2
    rcases List.mem_cons.mp hx with e | hx
    · subst e
      refine (ax_XF_lt (x := 153) (Nat.le_of_ble_eq_true rfl)).mpr ?_
      show ay_ex hp 173 ∧ pz_at (pz_gt (ρ' 0)) (pz_gN (ρ' 0)) (ay_ln (ay_at hp 173 13)) = pz_at (pz_gt (ρ' 0)) (pz_gN (ρ' 0)) (pz_p (pz_cF (ρ' 0) (ρ' 6)))
      rw [q0, h2]
      refine ⟨(ax_cellT hT (q := 173) (g := 11) (ax_wc ax_WW1 ax_cg_173)), ?_⟩
      exact pz_l153 (pz_41 _) st.1.1
    cases List.mem_singleton.mp hx
    refine (ax_XF_lt (x := 182) (Nat.le_of_ble_eq_true rfl)).mpr ?_
    show (ρ' 6) / 4 = (ρ' 1) / 4 + 1
    rw [q1, h2]
    rw [pz_41])
  exact ⟨(fun y hy => by cases hy), _, List.mem_cons_self, ρ', h1, h2⟩

theorem axq1_t0_ml2 : ax_RO ax_wM1 (ax_XM 1) axu1_t0_ml2 := axqg_t0_ml2 ax_WW1
theorem axq1_t0_ml4 : ax_RO ax_wM1 (ax_XM 1) axu1_t0_ml4 := axqg_t0_ml4 ax_WW1
theorem axq1_t0_mlB : ax_RO ax_wM1 (ax_XM 1) axu1_t0_mlB := axqg_t0_mlB ax_WW1
theorem axq1_my_ro : ax_RO ax_wM1 (ax_XM 1) axu1_my_ro := by
  intro ρ hp hE hT
  have j0 : ρ 0 % 4 = 1 := pz_gj hE 0 (Nat.le_of_ble_eq_true rfl) rfl
  have j1 : ρ 1 % 4 = 1 := pz_gj hE 1 (Nat.le_of_ble_eq_true rfl) rfl
  obtain ⟨i2a, i2b, i2c, i2d⟩ := pz_gi hE 2 2147483648 2147483648 (Nat.le_of_ble_eq_true rfl) rfl
  have c_hasRoot : ay_at hp 173 23 = some (ρ 2) := ay_gfj hE 702 92 11 173 23 (by decide) (ax_vlq rfl rfl) (ax_vlj rfl rfl)
  obtain ⟨-, -, -, -, -, F151⟩ : ay_ex hp 173 ∧ ay_ex hp 173 ∧ ay_ex hp 173 ∧ ay_ex hp 173 ∧ ay_ex hp 173 ∧ pz_y151 (ρ 0) (ρ 1) (ay_at hp 173 13) (ay_at hp 173 14) (ay_at hp 173 15) (ay_at hp 173 16) (ay_at hp 173 17) := (ax_XF_lt (x := 151) (Nat.le_of_ble_eq_true rfl)).mp (ax_gx hE (151, [3, 7]) (by decide))
  obtain ⟨-, -, -, -, -, -, -, -, -, -, -, F152⟩ : ay_ex hp 175 ∧ ay_ex hp 176 ∧ ay_ex hp 177 ∧ ay_ex hp 178 ∧ ay_ex hp 179 ∧ ay_ex hp 173 ∧ ay_ex hp 173 ∧ ay_ex hp 173 ∧ ay_ex hp 173 ∧ ay_ex hp 173 ∧ ay_ex hp 181 ∧ pz_y152 0 (ρ 0) (ρ 1) (ay_at hp 175 0) (ay_at hp 176 0) (ay_at hp 177 0) (ay_at hp 178 0) (ay_at hp 179 0) (ay_at hp 173 23) (ay_at hp 173 25) (ay_at hp 173 24) (ay_at hp 173 18) (ay_at hp 173 19) (ay_at hp 181) := (ax_XF_lt (x := 152) (Nat.le_of_ble_eq_true rfl)).mp (ax_gx hE (152, [3, 7]) (by decide))
  rw [c_hasRoot] at F152
  have F173 : pz7 (pz_gt (ρ 0)) (pz_gN (ρ 0)) ((ρ 1) / 4) 3 := (ax_XF_lt (x := 173) (Nat.le_of_ble_eq_true rfl)).mp (ax_gx hE (173, [3, 7]) (by decide))
  have F160 : pz60 (pz_gt (ρ 0)) (pz_gN (ρ 0)) ((ρ 1) / 4) ((8) / 4) := (ax_XF_lt (x := 160) (Nat.le_of_ble_eq_true rfl)).mp (ax_gx hE (160, [3, 7, 8]) (by decide))
  have F161 : pz61 (pz_gt (ρ 0)) (pz_gN (ρ 0)) ((ρ 1) / 4) ((4) / 4) := (ax_XF_lt (x := 161) (Nat.le_of_ble_eq_true rfl)).mp (ax_gx hE (161, [3, 7, 4]) (by decide))
  have st := pq_rl_ro (pz_m50 F151 F152) F173 F161 F160 (show ρ 2 / 4 = 0 by omega)
  obtain ⟨ρ', h1, h2⟩ := pz_pn1 (K := ρ 1 / 4 + 1) (xf := [(652, [702, 92, 4, 3, 15]), (176, [3, 15]), (153, [3, 15]), (182, [7, 15])]) hE (by decide) (fun ρ' h1 h2 x hx => by
    have q0 : ρ' 0 = ρ 0 := h1 0 (by decide)
    have q1 : ρ' 1 = ρ 1 := h1 1 (by decide)
    have q2 : ρ' 2 = ρ 2 := h1 2 (by decide)
    rcases List.mem_cons.mp hx with e | hx
    · subst e
      refine (ax_XF_wr (x := 152) (Nat.le_of_ble_eq_true rfl)).mpr ?_
      show ay_ex (ax_upd hp 702 (92) (4)) 175 ∧ ay_ex (ax_upd hp 702 (92) (4)) 176 ∧ ay_ex (ax_upd hp 702 (92) (4)) 177 ∧ ay_ex (ax_upd hp 702 (92) (4)) 178 ∧ ay_ex (ax_upd hp 702 (92) (4)) 179 ∧ ay_ex (ax_upd hp 702 (92) (4)) 173 ∧ ay_ex (ax_upd hp 702 (92) (4)) 173 ∧ ay_ex (ax_upd hp 702 (92) (4)) 173 ∧ ay_ex (ax_upd hp 702 (92) (4)) 173 ∧ ay_ex (ax_upd hp 702 (92) (4)) 173 ∧ ay_ex (ax_upd hp 702 (92) (4)) 181 ∧ pz_y152 0 (ρ' 0) (ρ' 3) (ay_at (ax_upd hp 702 (92) (4)) 175 0) (ay_at (ax_upd hp 702 (92) (4)) 176 0) (ay_at (ax_upd hp 702 (92) (4)) 177 0) (ay_at (ax_upd hp 702 (92) (4)) 178 0) (ay_at (ax_upd hp 702 (92) (4)) 179 0) (ay_at (ax_upd hp 702 (92) (4)) 173 23) (ay_at (ax_upd hp 702 (92) (4)) 173 25) (ay_at (ax_upd hp 702 (92) (4)) 173 24) (ay_at (ax_upd hp 702 (92) (4)) 173 18) (ay_at (ax_upd hp 702 (92) (4)) 173 19) (ay_at (ax_upd hp 702 (92) (4)) 181)
      rw [q0, h2]
      obtain ⟨o0, ho0⟩ := ay_some hT (q := 173) (g := 11) (n := 58) (ax_wc ax_WW1 ax_cg_173) (ax_wn ax_WW1 ax_cn_11) (j := 92 / 4) (Nat.le_of_ble_eq_true rfl)
      have u1 : ∀ q, q ≠ 173 → ay_at (ax_upd hp 702 92 (4)) q = ay_at hp q := fun q hq => funext (fun j => ay_upd_ne hT.1 hq j)
      have u2 : ∀ j, ay_at (ax_upd hp 702 92 (4)) 173 j = if j = 23 then some (4) else ay_at hp 173 j := fun j => ay_upd_eq hT.1 rfl ho0 j
      refine ⟨ay_ex_upd hT.1 (ax_cellT hT (q := 175) (g := 45) (ax_wc ax_WW1 ax_cg_175)), ay_ex_upd hT.1 (ax_cellT hT (q := 176) (g := 46) (ax_wc ax_WW1 ax_cg_176)), ay_ex_upd hT.1 (ax_cellT hT (q := 177) (g := 47) (ax_wc ax_WW1 ax_cg_177)), ay_ex_upd hT.1 (ax_cellT hT (q := 178) (g := 48) (ax_wc ax_WW1 ax_cg_178)), ay_ex_upd hT.1 (ax_cellT hT (q := 179) (g := 49) (ax_wc ax_WW1 ax_cg_179)), ay_ex_upd hT.1 (ax_cellT hT (q := 173) (g := 11) (ax_wc ax_WW1 ax_cg_173)), ay_ex_upd hT.1 (ax_cellT hT (q := 173) (g := 11) (ax_wc ax_WW1 ax_cg_173)), ay_ex_upd hT.1 (ax_cellT hT (q := 173) (g := 11) (ax_wc ax_WW1 ax_cg_173)), ay_ex_upd hT.1 (ax_cellT hT (q := 173) (g := 11) (ax_wc ax_WW1 ax_cg_173)), ay_ex_upd hT.1 (ax_cellT hT (q := 173) (g := 11) (ax_wc ax_WW1 ax_cg_173)), ay_ex_upd hT.1 (ax_cellT hT (q := 181) (g := 51) (ax_wc ax_WW1 ax_cg_181)), ?_⟩
      rw [u1 175 (Nat.ne_of_beq_eq_false rfl), u1 176 (Nat.ne_of_beq_eq_false rfl), u1 177 (Nat.ne_of_beq_eq_false rfl), u1 178 (Nat.ne_of_beq_eq_false rfl), u1 179 (Nat.ne_of_beq_eq_false rfl), u2 23, if_pos rfl, u2 25, if_neg (show ¬ 25 = 23 from Nat.ne_of_beq_eq_false rfl), u2 24, if_neg (show ¬ 24 = 23 from Nat.ne_of_beq_eq_false rfl), u2 18, if_neg (show ¬ 18 = 23 from Nat.ne_of_beq_eq_false rfl), u2 19, if_neg (show ¬ 19 = 23 from Nat.ne_of_beq_eq_false rfl), u1 181 (Nat.ne_of_beq_eq_false rfl)]
      exact pz_l152 (pz_41 _) st.1.2
    rcases List.mem_cons.mp hx with e | hx
    · subst e
      refine (ax_XF_lt (x := 176) (Nat.le_of_ble_eq_true rfl)).mpr ?_
      show pz7 (pz_gt (ρ' 0)) (pz_gN (ρ' 0)) ((ρ' 3) / 4) 6
      rw [q0, h2]
      rw [pz_41]
      exact st.2
    rcases List.mem_cons.mp hx with e | hx
    · subst e
      refine (ax_XF_lt (x := 153) (Nat.le_of_ble_eq_true rfl)).mpr ?_
      show ay_ex hp 173 ∧ pz_at (pz_gt (ρ' 0)) (pz_gN (ρ' 0)) (ay_ln (ay_at hp 173 13)) = pz_at (pz_gt (ρ' 0)) (pz_gN (ρ' 0)) (pz_p (pz_cF (ρ' 0) (ρ' 3)))
      rw [q0, h2]
      refine ⟨(ax_cellT hT (q := 173) (g := 11) (ax_wc ax_WW1 ax_cg_173)), ?_⟩
      exact pz_l153 (pz_41 _) st.1.1
    cases List.mem_singleton.mp hx
    refine (ax_XF_lt (x := 182) (Nat.le_of_ble_eq_true rfl)).mpr ?_
    show (ρ' 3) / 4 = (ρ' 1) / 4 + 1
    rw [q1, h2]
    rw [pz_41])
  exact ⟨(fun y hy => by cases hy), _, List.mem_cons_self, ρ', h1, h2⟩

theorem axq1_my_rm : ax_RO ax_wM1 (ax_XM 1) axu1_my_rm := by
  intro ρ hp hE hT
  have j0 : ρ 0 % 4 = 1 := pz_gj hE 0 (Nat.le_of_ble_eq_true rfl) rfl
  have j1 : ρ 1 % 4 = 1 := pz_gj hE 1 (Nat.le_of_ble_eq_true rfl) rfl
  obtain ⟨i2a, i2b, i2c, i2d⟩ := pz_gi hE 2 2147483648 2147483648 (Nat.le_of_ble_eq_true rfl) rfl
  have c_hasRoom : ay_at hp 173 25 = some (ρ 2) := ay_gfj hE 702 100 11 173 25 (by decide) (ax_vlq rfl rfl) (ax_vlj rfl rfl)
  obtain ⟨-, -, -, -, -, F151⟩ : ay_ex hp 173 ∧ ay_ex hp 173 ∧ ay_ex hp 173 ∧ ay_ex hp 173 ∧ ay_ex hp 173 ∧ pz_y151 (ρ 0) (ρ 1) (ay_at hp 173 13) (ay_at hp 173 14) (ay_at hp 173 15) (ay_at hp 173 16) (ay_at hp 173 17) := (ax_XF_lt (x := 151) (Nat.le_of_ble_eq_true rfl)).mp (ax_gx hE (151, [3, 7]) (by decide))
  obtain ⟨-, -, -, -, -, -, -, -, -, -, -, F152⟩ : ay_ex hp 175 ∧ ay_ex hp 176 ∧ ay_ex hp 177 ∧ ay_ex hp 178 ∧ ay_ex hp 179 ∧ ay_ex hp 173 ∧ ay_ex hp 173 ∧ ay_ex hp 173 ∧ ay_ex hp 173 ∧ ay_ex hp 173 ∧ ay_ex hp 181 ∧ pz_y152 0 (ρ 0) (ρ 1) (ay_at hp 175 0) (ay_at hp 176 0) (ay_at hp 177 0) (ay_at hp 178 0) (ay_at hp 179 0) (ay_at hp 173 23) (ay_at hp 173 25) (ay_at hp 173 24) (ay_at hp 173 18) (ay_at hp 173 19) (ay_at hp 181) := (ax_XF_lt (x := 152) (Nat.le_of_ble_eq_true rfl)).mp (ax_gx hE (152, [3, 7]) (by decide))
  rw [c_hasRoom] at F152
  have F173 : pz7 (pz_gt (ρ 0)) (pz_gN (ρ 0)) ((ρ 1) / 4) 3 := (ax_XF_lt (x := 173) (Nat.le_of_ble_eq_true rfl)).mp (ax_gx hE (173, [3, 7]) (by decide))
  have F160 : pz60 (pz_gt (ρ 0)) (pz_gN (ρ 0)) ((ρ 1) / 4) ((12) / 4) := (ax_XF_lt (x := 160) (Nat.le_of_ble_eq_true rfl)).mp (ax_gx hE (160, [3, 7, 12]) (by decide))
  have F161 : pz61 (pz_gt (ρ 0)) (pz_gN (ρ 0)) ((ρ 1) / 4) ((4) / 4) := (ax_XF_lt (x := 161) (Nat.le_of_ble_eq_true rfl)).mp (ax_gx hE (161, [3, 7, 4]) (by decide))
  have st := pq_rl_rm (pz_m50 F151 F152) F173 F161 F160 (show ρ 2 / 4 = 0 by omega)
  obtain ⟨ρ', h1, h2⟩ := pz_pn1 (K := ρ 1 / 4 + 1) (xf := [(652, [702, 100, 4, 3, 15]), (177, [3, 15]), (153, [3, 15]), (182, [7, 15])]) hE (by decide) (fun ρ' h1 h2 x hx => by
    have q0 : ρ' 0 = ρ 0 := h1 0 (by decide)
    have q1 : ρ' 1 = ρ 1 := h1 1 (by decide)
    have q2 : ρ' 2 = ρ 2 := h1 2 (by decide)
    rcases List.mem_cons.mp hx with e | hx
    · subst e
      refine (ax_XF_wr (x := 152) (Nat.le_of_ble_eq_true rfl)).mpr ?_
      show ay_ex (ax_upd hp 702 (100) (4)) 175 ∧ ay_ex (ax_upd hp 702 (100) (4)) 176 ∧ ay_ex (ax_upd hp 702 (100) (4)) 177 ∧ ay_ex (ax_upd hp 702 (100) (4)) 178 ∧ ay_ex (ax_upd hp 702 (100) (4)) 179 ∧ ay_ex (ax_upd hp 702 (100) (4)) 173 ∧ ay_ex (ax_upd hp 702 (100) (4)) 173 ∧ ay_ex (ax_upd hp 702 (100) (4)) 173 ∧ ay_ex (ax_upd hp 702 (100) (4)) 173 ∧ ay_ex (ax_upd hp 702 (100) (4)) 173 ∧ ay_ex (ax_upd hp 702 (100) (4)) 181 ∧ pz_y152 0 (ρ' 0) (ρ' 3) (ay_at (ax_upd hp 702 (100) (4)) 175 0) (ay_at (ax_upd hp 702 (100) (4)) 176 0) (ay_at (ax_upd hp 702 (100) (4)) 177 0) (ay_at (ax_upd hp 702 (100) (4)) 178 0) (ay_at (ax_upd hp 702 (100) (4)) 179 0) (ay_at (ax_upd hp 702 (100) (4)) 173 23) (ay_at (ax_upd hp 702 (100) (4)) 173 25) (ay_at (ax_upd hp 702 (100) (4)) 173 24) (ay_at (ax_upd hp 702 (100) (4)) 173 18) (ay_at (ax_upd hp 702 (100) (4)) 173 19) (ay_at (ax_upd hp 702 (100) (4)) 181)
      rw [q0, h2]
      obtain ⟨o0, ho0⟩ := ay_some hT (q := 173) (g := 11) (n := 58) (ax_wc ax_WW1 ax_cg_173) (ax_wn ax_WW1 ax_cn_11) (j := 100 / 4) (Nat.le_of_ble_eq_true rfl)
      have u1 : ∀ q, q ≠ 173 → ay_at (ax_upd hp 702 100 (4)) q = ay_at hp q := fun q hq => funext (fun j => ay_upd_ne hT.1 hq j)
      have u2 : ∀ j, ay_at (ax_upd hp 702 100 (4)) 173 j = if j = 25 then some (4) else ay_at hp 173 j := fun j => ay_upd_eq hT.1 rfl ho0 j
      refine ⟨ay_ex_upd hT.1 (ax_cellT hT (q := 175) (g := 45) (ax_wc ax_WW1 ax_cg_175)), ay_ex_upd hT.1 (ax_cellT hT (q := 176) (g := 46) (ax_wc ax_WW1 ax_cg_176)), ay_ex_upd hT.1 (ax_cellT hT (q := 177) (g := 47) (ax_wc ax_WW1 ax_cg_177)), ay_ex_upd hT.1 (ax_cellT hT (q := 178) (g := 48) (ax_wc ax_WW1 ax_cg_178)), ay_ex_upd hT.1 (ax_cellT hT (q := 179) (g := 49) (ax_wc ax_WW1 ax_cg_179)), ay_ex_upd hT.1 (ax_cellT hT (q := 173) (g := 11) (ax_wc ax_WW1 ax_cg_173)), ay_ex_upd hT.1 (ax_cellT hT (q := 173) (g := 11) (ax_wc ax_WW1 ax_cg_173)), ay_ex_upd hT.1 (ax_cellT hT (q := 173) (g := 11) (ax_wc ax_WW1 ax_cg_173)), ay_ex_upd hT.1 (ax_cellT hT (q := 173) (g := 11) (ax_wc ax_WW1 ax_cg_173)), ay_ex_upd hT.1 (ax_cellT hT (q := 173) (g := 11) (ax_wc ax_WW1 ax_cg_173)), ay_ex_upd hT.1 (ax_cellT hT (q := 181) (g := 51) (ax_wc ax_WW1 ax_cg_181)), ?_⟩
      rw [u1 175 (Nat.ne_of_beq_eq_false rfl), u1 176 (Nat.ne_of_beq_eq_false rfl), u1 177 (Nat.ne_of_beq_eq_false rfl), u1 178 (Nat.ne_of_beq_eq_false rfl), u1 179 (Nat.ne_of_beq_eq_false rfl), u2 23, if_neg (show ¬ 23 = 25 from Nat.ne_of_beq_eq_false rfl), u2 25, if_pos rfl, u2 24, if_neg (show ¬ 24 = 25 from Nat.ne_of_beq_eq_false rfl), u2 18, if_neg (show ¬ 18 = 25 from Nat.ne_of_beq_eq_false rfl), u2 19, if_neg (show ¬ 19 = 25 from Nat.ne_of_beq_eq_false rfl), u1 181 (Nat.ne_of_beq_eq_false rfl)]
      exact pz_l152 (pz_41 _) st.1.2
    rcases List.mem_cons.mp hx with e | hx
    · subst e
      refine (ax_XF_lt (x := 177) (Nat.le_of_ble_eq_true rfl)).mpr ?_
      show pz7 (pz_gt (ρ' 0)) (pz_gN (ρ' 0)) ((ρ' 3) / 4) 7
      rw [q0, h2]
      rw [pz_41]
      exact st.2
    rcases List.mem_cons.mp hx with e | hx
    · subst e
      refine (ax_XF_lt (x := 153) (Nat.le_of_ble_eq_true rfl)).mpr ?_
      show ay_ex hp 173 ∧ pz_at (pz_gt (ρ' 0)) (pz_gN (ρ' 0)) (ay_ln (ay_at hp 173 13)) = pz_at (pz_gt (ρ' 0)) (pz_gN (ρ' 0)) (pz_p (pz_cF (ρ' 0) (ρ' 3)))
      rw [q0, h2]
      refine ⟨(ax_cellT hT (q := 173) (g := 11) (ax_wc ax_WW1 ax_cg_173)), ?_⟩
      exact pz_l153 (pz_41 _) st.1.1
    cases List.mem_singleton.mp hx
    refine (ax_XF_lt (x := 182) (Nat.le_of_ble_eq_true rfl)).mpr ?_
    show (ρ' 3) / 4 = (ρ' 1) / 4 + 1
    rw [q1, h2]
    rw [pz_41])
  exact ⟨(fun y hy => by cases hy), _, List.mem_cons_self, ρ', h1, h2⟩

theorem axq1_my_rk : ax_RO ax_wM1 (ax_XM 1) axu1_my_rk := by
  intro ρ hp hE hT
  have j0 : ρ 0 % 4 = 1 := pz_gj hE 0 (Nat.le_of_ble_eq_true rfl) rfl
  have j1 : ρ 1 % 4 = 1 := pz_gj hE 1 (Nat.le_of_ble_eq_true rfl) rfl
  obtain ⟨i2a, i2b, i2c, i2d⟩ := pz_gi hE 2 2147483648 2147483648 (Nat.le_of_ble_eq_true rfl) rfl
  have c_hasRank : ay_at hp 173 24 = some (ρ 2) := ay_gfj hE 702 96 11 173 24 (by decide) (ax_vlq rfl rfl) (ax_vlj rfl rfl)
  obtain ⟨-, -, -, -, -, F151⟩ : ay_ex hp 173 ∧ ay_ex hp 173 ∧ ay_ex hp 173 ∧ ay_ex hp 173 ∧ ay_ex hp 173 ∧ pz_y151 (ρ 0) (ρ 1) (ay_at hp 173 13) (ay_at hp 173 14) (ay_at hp 173 15) (ay_at hp 173 16) (ay_at hp 173 17) := (ax_XF_lt (x := 151) (Nat.le_of_ble_eq_true rfl)).mp (ax_gx hE (151, [3, 7]) (by decide))
  obtain ⟨-, -, -, -, -, -, -, -, -, -, -, F152⟩ : ay_ex hp 175 ∧ ay_ex hp 176 ∧ ay_ex hp 177 ∧ ay_ex hp 178 ∧ ay_ex hp 179 ∧ ay_ex hp 173 ∧ ay_ex hp 173 ∧ ay_ex hp 173 ∧ ay_ex hp 173 ∧ ay_ex hp 173 ∧ ay_ex hp 181 ∧ pz_y152 0 (ρ 0) (ρ 1) (ay_at hp 175 0) (ay_at hp 176 0) (ay_at hp 177 0) (ay_at hp 178 0) (ay_at hp 179 0) (ay_at hp 173 23) (ay_at hp 173 25) (ay_at hp 173 24) (ay_at hp 173 18) (ay_at hp 173 19) (ay_at hp 181) := (ax_XF_lt (x := 152) (Nat.le_of_ble_eq_true rfl)).mp (ax_gx hE (152, [3, 7]) (by decide))
  rw [c_hasRank] at F152
  have F173 : pz7 (pz_gt (ρ 0)) (pz_gN (ρ 0)) ((ρ 1) / 4) 3 := (ax_XF_lt (x := 173) (Nat.le_of_ble_eq_true rfl)).mp (ax_gx hE (173, [3, 7]) (by decide))
  have F160 : pz60 (pz_gt (ρ 0)) (pz_gN (ρ 0)) ((ρ 1) / 4) ((16) / 4) := (ax_XF_lt (x := 160) (Nat.le_of_ble_eq_true rfl)).mp (ax_gx hE (160, [3, 7, 16]) (by decide))
  have F161 : pz61 (pz_gt (ρ 0)) (pz_gN (ρ 0)) ((ρ 1) / 4) ((4) / 4) := (ax_XF_lt (x := 161) (Nat.le_of_ble_eq_true rfl)).mp (ax_gx hE (161, [3, 7, 4]) (by decide))
  have st := pq_rl_rk (pz_m50 F151 F152) F173 F161 F160 (show ρ 2 / 4 = 0 by omega)
  obtain ⟨ρ', h1, h2⟩ := pz_pn2 (K := ρ 1 / 4 + 1) (L := 1) (xf := [(652, [702, 96, 4, 3, 15]), (178, [3, 15]), (190, [3, 15, 19]), (189, [19]), (153, [3, 15]), (182, [7, 15])]) hE (by decide) (fun ρ' h1 h2 h3 x hx => by
    have q0 : ρ' 0 = ρ 0 := h1 0 (by decide)
    have q1 : ρ' 1 = ρ 1 := h1 1 (by decide)
    have q2 : ρ' 2 = ρ 2 := h1 2 (by decide)
    rcases List.mem_cons.mp hx with e | hx
    · subst e
      refine (ax_XF_wr (x := 152) (Nat.le_of_ble_eq_true rfl)).mpr ?_
      show ay_ex (ax_upd hp 702 (96) (4)) 175 ∧ ay_ex (ax_upd hp 702 (96) (4)) 176 ∧ ay_ex (ax_upd hp 702 (96) (4)) 177 ∧ ay_ex (ax_upd hp 702 (96) (4)) 178 ∧ ay_ex (ax_upd hp 702 (96) (4)) 179 ∧ ay_ex (ax_upd hp 702 (96) (4)) 173 ∧ ay_ex (ax_upd hp 702 (96) (4)) 173 ∧ ay_ex (ax_upd hp 702 (96) (4)) 173 ∧ ay_ex (ax_upd hp 702 (96) (4)) 173 ∧ ay_ex (ax_upd hp 702 (96) (4)) 173 ∧ ay_ex (ax_upd hp 702 (96) (4)) 181 ∧ pz_y152 0 (ρ' 0) (ρ' 3) (ay_at (ax_upd hp 702 (96) (4)) 175 0) (ay_at (ax_upd hp 702 (96) (4)) 176 0) (ay_at (ax_upd hp 702 (96) (4)) 177 0) (ay_at (ax_upd hp 702 (96) (4)) 178 0) (ay_at (ax_upd hp 702 (96) (4)) 179 0) (ay_at (ax_upd hp 702 (96) (4)) 173 23) (ay_at (ax_upd hp 702 (96) (4)) 173 25) (ay_at (ax_upd hp 702 (96) (4)) 173 24) (ay_at (ax_upd hp 702 (96) (4)) 173 18) (ay_at (ax_upd hp 702 (96) (4)) 173 19) (ay_at (ax_upd hp 702 (96) (4)) 181)
      rw [q0, h2]
      obtain ⟨o0, ho0⟩ := ay_some hT (q := 173) (g := 11) (n := 58) (ax_wc ax_WW1 ax_cg_173) (ax_wn ax_WW1 ax_cn_11) (j := 96 / 4) (Nat.le_of_ble_eq_true rfl)
      have u1 : ∀ q, q ≠ 173 → ay_at (ax_upd hp 702 96 (4)) q = ay_at hp q := fun q hq => funext (fun j => ay_upd_ne hT.1 hq j)
      have u2 : ∀ j, ay_at (ax_upd hp 702 96 (4)) 173 j = if j = 24 then some (4) else ay_at hp 173 j := fun j => ay_upd_eq hT.1 rfl ho0 j
      refine ⟨ay_ex_upd hT.1 (ax_cellT hT (q := 175) (g := 45) (ax_wc ax_WW1 ax_cg_175)), ay_ex_upd hT.1 (ax_cellT hT (q := 176) (g := 46) (ax_wc ax_WW1 ax_cg_176)), ay_ex_upd hT.1 (ax_cellT hT (q := 177) (g := 47) (ax_wc ax_WW1 ax_cg_177)), ay_ex_upd hT.1 (ax_cellT hT (q := 178) (g := 48) (ax_wc ax_WW1 ax_cg_178)), ay_ex_upd hT.1 (ax_cellT hT (q := 179) (g := 49) (ax_wc ax_WW1 ax_cg_179)), ay_ex_upd hT.1 (ax_cellT hT (q := 173) (g := 11) (ax_wc ax_WW1 ax_cg_173)), ay_ex_upd hT.1 (ax_cellT hT (q := 173) (g := 11) (ax_wc ax_WW1 ax_cg_173)), ay_ex_upd hT.1 (ax_cellT hT (q := 173) (g := 11) (ax_wc ax_WW1 ax_cg_173)), ay_ex_upd hT.1 (ax_cellT hT (q := 173) (g := 11) (ax_wc ax_WW1 ax_cg_173)), ay_ex_upd hT.1 (ax_cellT hT (q := 173) (g := 11) (ax_wc ax_WW1 ax_cg_173)), ay_ex_upd hT.1 (ax_cellT hT (q := 181) (g := 51) (ax_wc ax_WW1 ax_cg_181)), ?_⟩
      rw [u1 175 (Nat.ne_of_beq_eq_false rfl), u1 176 (Nat.ne_of_beq_eq_false rfl), u1 177 (Nat.ne_of_beq_eq_false rfl), u1 178 (Nat.ne_of_beq_eq_false rfl), u1 179 (Nat.ne_of_beq_eq_false rfl), u2 23, if_neg (show ¬ 23 = 24 from Nat.ne_of_beq_eq_false rfl), u2 25, if_neg (show ¬ 25 = 24 from Nat.ne_of_beq_eq_false rfl), u2 24, if_pos rfl, u2 18, if_neg (show ¬ 18 = 24 from Nat.ne_of_beq_eq_false rfl), u2 19, if_neg (show ¬ 19 = 24 from Nat.ne_of_beq_eq_false rfl), u1 181 (Nat.ne_of_beq_eq_false rfl)]
      exact pz_l152 (pz_41 _) st.1.2
    rcases List.mem_cons.mp hx with e | hx
    · subst e
      refine (ax_XF_lt (x := 178) (Nat.le_of_ble_eq_true rfl)).mpr ?_
      show pz7 (pz_gt (ρ' 0)) (pz_gN (ρ' 0)) ((ρ' 3) / 4) 8
      rw [q0, h2]
      rw [pz_41]
      exact st.2.1
    rcases List.mem_cons.mp hx with e | hx
    · subst e
      refine (ax_XF_lt (x := 190) (Nat.le_of_ble_eq_true rfl)).mpr ?_
      show (pz90 (pz_gt (ρ' 0)) (pz_gN (ρ' 0)) ((ρ' 3) / 4) ((ρ' 4) / 4) ∧ 1 ≤ (ρ' 4) / 4)
      rw [q0, h2, h3]
      rw [pz_41, pz_41]
      exact ⟨st.2.2, by decide⟩
    rcases List.mem_cons.mp hx with e | hx
    · subst e
      refine (ax_XF_lt (x := 189) (Nat.le_of_ble_eq_true rfl)).mpr ?_
      show (ρ' 4) / 4 = 1
      rw [h3]
      skip
    rcases List.mem_cons.mp hx with e | hx
    · subst e
      refine (ax_XF_lt (x := 153) (Nat.le_of_ble_eq_true rfl)).mpr ?_
      show ay_ex hp 173 ∧ pz_at (pz_gt (ρ' 0)) (pz_gN (ρ' 0)) (ay_ln (ay_at hp 173 13)) = pz_at (pz_gt (ρ' 0)) (pz_gN (ρ' 0)) (pz_p (pz_cF (ρ' 0) (ρ' 3)))
      rw [q0, h2]
      refine ⟨(ax_cellT hT (q := 173) (g := 11) (ax_wc ax_WW1 ax_cg_173)), ?_⟩
      exact pz_l153 (pz_41 _) st.1.1
    cases List.mem_singleton.mp hx
    refine (ax_XF_lt (x := 182) (Nat.le_of_ble_eq_true rfl)).mpr ?_
    show (ρ' 3) / 4 = (ρ' 1) / 4 + 1
    rw [q1, h2]
    rw [pz_41])
  exact ⟨(fun y hy => by cases hy), _, List.mem_cons_self, ρ', h1, h2⟩

theorem axq1_my_m : ax_RO ax_wM1 (ax_XM 1) axu1_my_m := by
  intro ρ hp hE hT
  have j0 : ρ 0 % 4 = 1 := pz_gj hE 0 (Nat.le_of_ble_eq_true rfl) rfl
  have j1 : ρ 1 % 4 = 1 := pz_gj hE 1 (Nat.le_of_ble_eq_true rfl) rfl
  obtain ⟨i2a, i2b, i2c, i2d⟩ := pz_gi hE 2 0 4294967295 (Nat.le_of_ble_eq_true rfl) rfl
  obtain ⟨i3a, i3b, i3c, i3d⟩ := pz_gi hE 3 2147483648 2147493647 (Nat.le_of_ble_eq_true rfl) rfl
  have c_nodes : ay_at hp 175 0 = some (ρ 3) := ay_gfj hE 710 0 15 175 0 ax_m1 (ax_vlq rfl rfl) (ax_vlj rfl rfl)
  have s1 : (ρ 2 / 4 + 2147483648) % 4294967296 + (4 / 4 + 2147483648) % 4294967296 = (ρ 3 / 4 + 2147483648) % 4294967296 + 2147483648 := pz_gs hE 11 4 15 ax_m2
  obtain ⟨-, -, -, -, -, -, -, -, -, -, -, F152⟩ : ay_ex hp 175 ∧ ay_ex hp 176 ∧ ay_ex hp 177 ∧ ay_ex hp 178 ∧ ay_ex hp 179 ∧ ay_ex hp 173 ∧ ay_ex hp 173 ∧ ay_ex hp 173 ∧ ay_ex hp 173 ∧ ay_ex hp 173 ∧ ay_ex hp 181 ∧ pz_y152 0 (ρ 0) (ρ 1) (ay_at hp 175 0) (ay_at hp 176 0) (ay_at hp 177 0) (ay_at hp 178 0) (ay_at hp 179 0) (ay_at hp 173 23) (ay_at hp 173 25) (ay_at hp 173 24) (ay_at hp 173 18) (ay_at hp 173 19) (ay_at hp 181) := (ax_XF_lt (x := 152) (Nat.le_of_ble_eq_true rfl)).mp (ax_gx hE (152, [3, 7]) ax_m0)
  rw [c_nodes] at F152
  have e : ρ 3 / 4 = pz_no (pz_cf (pz_gt (ρ 0)) (pz_gN (ρ 0)) (ρ 1 / 4)) := F152.1
  refine ⟨(fun y hy => by cases hy), _, List.mem_cons_self, ρ, fun _ _ => rfl, ax_px hE rfl (fun x hx => ?_)⟩
  cases List.mem_singleton.mp hx
  refine (ax_XF_lt (x := 203) (Nat.le_of_ble_eq_true rfl)).mpr ?_
  show pz_x103 (ρ 0) (ρ 1) (ρ 2)
  show (ρ 2 / 4 + 2147483648) % 4294967296 + 1 = pz_no (pz_cf (pz_gt (ρ 0)) (pz_gN (ρ 0)) (ρ 1 / 4)) + 2147483648
  omega

theorem axq1_my_ro2 : ax_RO ax_wM1 (ax_XM 1) axu1_my_ro2 := by
  intro ρ hp hE hT
  have j0 : ρ 0 % 4 = 1 := pz_gj hE 0 (Nat.le_of_ble_eq_true rfl) rfl
  have j1 : ρ 1 % 4 = 1 := pz_gj hE 1 (Nat.le_of_ble_eq_true rfl) rfl
  have j2 : ρ 2 % 4 = 1 := pz_gj hE 2 (Nat.le_of_ble_eq_true rfl) rfl
  obtain ⟨i3a, i3b, i3c, i3d⟩ := pz_gi hE 3 2147483648 2147493647 (Nat.le_of_ble_eq_true rfl) rfl
  obtain ⟨-, -, -, -, -, F151⟩ : ay_ex hp 173 ∧ ay_ex hp 173 ∧ ay_ex hp 173 ∧ ay_ex hp 173 ∧ ay_ex hp 173 ∧ pz_y151 (ρ 0) (ρ 2) (ay_at hp 173 13) (ay_at hp 173 14) (ay_at hp 173 15) (ay_at hp 173 16) (ay_at hp 173 17) := (ax_XF_lt (x := 151) (Nat.le_of_ble_eq_true rfl)).mp (ax_gx hE (151, [3, 11]) ax_m0)
  have F182 : (ρ 2) / 4 = (ρ 1) / 4 + 1 := (ax_XF_lt (x := 182) (Nat.le_of_ble_eq_true rfl)).mp (ax_gx hE (182, [7, 11]) ax_m1)
  obtain ⟨-, -, -, -, -, -, -, -, -, -, -, F152⟩ : ay_ex hp 175 ∧ ay_ex hp 176 ∧ ay_ex hp 177 ∧ ay_ex hp 178 ∧ ay_ex hp 179 ∧ ay_ex hp 173 ∧ ay_ex hp 173 ∧ ay_ex hp 173 ∧ ay_ex hp 173 ∧ ay_ex hp 173 ∧ ay_ex hp 181 ∧ pz_y152 0 (ρ 0) (ρ 1) (ay_at hp 175 0) (ay_at hp 176 0) (ay_at hp 177 0) (ay_at hp 178 0) (ay_at hp 179 0) (ay_at hp 173 23) (ay_at hp 173 25) (ay_at hp 173 24) (ay_at hp 173 18) (ay_at hp 173 19) (ay_at hp 181) := (ax_XF_lt (x := 152) (Nat.le_of_ble_eq_true rfl)).mp (ax_gx hE (152, [3, 7]) ax_m2)
  have F176 : pz7 (pz_gt (ρ 0)) (pz_gN (ρ 0)) ((ρ 1) / 4) 6 := (ax_XF_lt (x := 176) (Nat.le_of_ble_eq_true rfl)).mp (ax_gx hE (176, [3, 7]) ax_m3)
  have F204 : pz104 (pz_gt (ρ 0)) (pz_gN (ρ 0)) ((ρ 1) / 4) ((ρ 3) / 4) := (ax_XF_lt (x := 204) (Nat.le_of_ble_eq_true rfl)).mp (ax_gx hE (204, [3, 7, 15]) ax_m4)
  have f50 : pz50 (pz_gt (ρ 0)) (pz_gN (ρ 0)) (ρ 1 / 4) (pz_nx (pz_gt (ρ 0)) (pz_gN (ρ 0)) (pz_p (pz_cf (pz_gt (ρ 0)) (pz_gN (ρ 0)) (ρ 1 / 4)))) (pz_at (pz_gt (ρ 0)) (pz_gN (ρ 0)) (pz_p (pz_cf (pz_gt (ρ 0)) (pz_gN (ρ 0)) (ρ 1 / 4)))) (pz_kd (pz_gt (ρ 0)) (pz_gN (ρ 0)) (pz_p (pz_cf (pz_gt (ρ 0)) (pz_gN (ρ 0)) (ρ 1 / 4)))) (pz_vl (pz_gt (ρ 0)) (pz_gN (ρ 0)) (pz_p (pz_cf (pz_gt (ρ 0)) (pz_gN (ρ 0)) (ρ 1 / 4)))) _ _ _ _ _ _ _ _ _ _ _ _ := ⟨rfl, rfl, rfl, fun _ => pz_m_vl, F152⟩
  have st := pq_rl_ro2 f50 F176 F204
  refine ⟨(fun y hy => by cases hy), _, List.mem_cons_self, ρ, fun _ _ => rfl, ax_px hE rfl (fun x hx => ?_)⟩
  rcases List.mem_cons.mp hx with e | hx
  · subst e
    refine (ax_XF_wr (x := 152) (Nat.le_of_ble_eq_true rfl)).mpr ?_
    show ay_ex (ax_upd hp 718 (0) (ρ 3)) 175 ∧ ay_ex (ax_upd hp 718 (0) (ρ 3)) 176 ∧ ay_ex (ax_upd hp 718 (0) (ρ 3)) 177 ∧ ay_ex (ax_upd hp 718 (0) (ρ 3)) 178 ∧ ay_ex (ax_upd hp 718 (0) (ρ 3)) 179 ∧ ay_ex (ax_upd hp 718 (0) (ρ 3)) 173 ∧ ay_ex (ax_upd hp 718 (0) (ρ 3)) 173 ∧ ay_ex (ax_upd hp 718 (0) (ρ 3)) 173 ∧ ay_ex (ax_upd hp 718 (0) (ρ 3)) 173 ∧ ay_ex (ax_upd hp 718 (0) (ρ 3)) 173 ∧ ay_ex (ax_upd hp 718 (0) (ρ 3)) 181 ∧ pz_y152 0 (ρ 0) (ρ 2) (ay_at (ax_upd hp 718 (0) (ρ 3)) 175 0) (ay_at (ax_upd hp 718 (0) (ρ 3)) 176 0) (ay_at (ax_upd hp 718 (0) (ρ 3)) 177 0) (ay_at (ax_upd hp 718 (0) (ρ 3)) 178 0) (ay_at (ax_upd hp 718 (0) (ρ 3)) 179 0) (ay_at (ax_upd hp 718 (0) (ρ 3)) 173 23) (ay_at (ax_upd hp 718 (0) (ρ 3)) 173 25) (ay_at (ax_upd hp 718 (0) (ρ 3)) 173 24) (ay_at (ax_upd hp 718 (0) (ρ 3)) 173 18) (ay_at (ax_upd hp 718 (0) (ρ 3)) 173 19) (ay_at (ax_upd hp 718 (0) (ρ 3)) 181)
    obtain ⟨o0, ho0⟩ := ay_some hT (q := 177) (g := 47) (n := 2) (ax_wc ax_WW1 ax_cg_177) (ax_wn ax_WW1 ax_cn_47) (j := 0 / 4) (Nat.le_of_ble_eq_true rfl)
    have u1 : ∀ q, q ≠ 177 → ay_at (ax_upd hp 718 0 (ρ 3)) q = ay_at hp q := fun q hq => funext (fun j => ay_upd_ne hT.1 hq j)
    have u2 : ∀ j, ay_at (ax_upd hp 718 0 (ρ 3)) 177 j = if j = 0 then some (ρ 3) else ay_at hp 177 j := fun j => ay_upd_eq hT.1 rfl ho0 j
    refine ⟨ay_ex_upd hT.1 (ax_cellT hT (q := 175) (g := 45) (ax_wc ax_WW1 ax_cg_175)), ay_ex_upd hT.1 (ax_cellT hT (q := 176) (g := 46) (ax_wc ax_WW1 ax_cg_176)), ay_ex_upd hT.1 (ax_cellT hT (q := 177) (g := 47) (ax_wc ax_WW1 ax_cg_177)), ay_ex_upd hT.1 (ax_cellT hT (q := 178) (g := 48) (ax_wc ax_WW1 ax_cg_178)), ay_ex_upd hT.1 (ax_cellT hT (q := 179) (g := 49) (ax_wc ax_WW1 ax_cg_179)), ay_ex_upd hT.1 (ax_cellT hT (q := 173) (g := 11) (ax_wc ax_WW1 ax_cg_173)), ay_ex_upd hT.1 (ax_cellT hT (q := 173) (g := 11) (ax_wc ax_WW1 ax_cg_173)), ay_ex_upd hT.1 (ax_cellT hT (q := 173) (g := 11) (ax_wc ax_WW1 ax_cg_173)), ay_ex_upd hT.1 (ax_cellT hT (q := 173) (g := 11) (ax_wc ax_WW1 ax_cg_173)), ay_ex_upd hT.1 (ax_cellT hT (q := 173) (g := 11) (ax_wc ax_WW1 ax_cg_173)), ay_ex_upd hT.1 (ax_cellT hT (q := 181) (g := 51) (ax_wc ax_WW1 ax_cg_181)), ?_⟩
    rw [u1 175 (Nat.ne_of_beq_eq_false rfl), u1 176 (Nat.ne_of_beq_eq_false rfl), u2 0, if_pos rfl, u1 178 (Nat.ne_of_beq_eq_false rfl), u1 179 (Nat.ne_of_beq_eq_false rfl), u1 173 (Nat.ne_of_beq_eq_false rfl), u1 181 (Nat.ne_of_beq_eq_false rfl)]
    exact pz_l152 F182 st.1.2
  cases List.mem_singleton.mp hx
  refine (ax_XF_lt (x := 181) (Nat.le_of_ble_eq_true rfl)).mpr ?_
  show pz_y181 (ρ 0) (ρ 2)
  refine Or.inl ?_
  rw [F182]
  exact st.2

theorem axq1_my_rm2 : ax_RO ax_wM1 (ax_XM 1) axu1_my_rm2 := by
  intro ρ hp hE hT
  have j0 : ρ 0 % 4 = 1 := pz_gj hE 0 (Nat.le_of_ble_eq_true rfl) rfl
  have j1 : ρ 1 % 4 = 1 := pz_gj hE 1 (Nat.le_of_ble_eq_true rfl) rfl
  have j2 : ρ 2 % 4 = 1 := pz_gj hE 2 (Nat.le_of_ble_eq_true rfl) rfl
  obtain ⟨i3a, i3b, i3c, i3d⟩ := pz_gi hE 3 2147483649 2147483651 (Nat.le_of_ble_eq_true rfl) rfl
  obtain ⟨-, -, -, -, -, F151⟩ : ay_ex hp 173 ∧ ay_ex hp 173 ∧ ay_ex hp 173 ∧ ay_ex hp 173 ∧ ay_ex hp 173 ∧ pz_y151 (ρ 0) (ρ 2) (ay_at hp 173 13) (ay_at hp 173 14) (ay_at hp 173 15) (ay_at hp 173 16) (ay_at hp 173 17) := (ax_XF_lt (x := 151) (Nat.le_of_ble_eq_true rfl)).mp (ax_gx hE (151, [3, 11]) ax_m0)
  have F182 : (ρ 2) / 4 = (ρ 1) / 4 + 1 := (ax_XF_lt (x := 182) (Nat.le_of_ble_eq_true rfl)).mp (ax_gx hE (182, [7, 11]) ax_m1)
  obtain ⟨-, -, -, -, -, -, -, -, -, -, -, F152⟩ : ay_ex hp 175 ∧ ay_ex hp 176 ∧ ay_ex hp 177 ∧ ay_ex hp 178 ∧ ay_ex hp 179 ∧ ay_ex hp 173 ∧ ay_ex hp 173 ∧ ay_ex hp 173 ∧ ay_ex hp 173 ∧ ay_ex hp 173 ∧ ay_ex hp 181 ∧ pz_y152 0 (ρ 0) (ρ 1) (ay_at hp 175 0) (ay_at hp 176 0) (ay_at hp 177 0) (ay_at hp 178 0) (ay_at hp 179 0) (ay_at hp 173 23) (ay_at hp 173 25) (ay_at hp 173 24) (ay_at hp 173 18) (ay_at hp 173 19) (ay_at hp 181) := (ax_XF_lt (x := 152) (Nat.le_of_ble_eq_true rfl)).mp (ax_gx hE (152, [3, 7]) ax_m2)
  have F177 : pz7 (pz_gt (ρ 0)) (pz_gN (ρ 0)) ((ρ 1) / 4) 7 := (ax_XF_lt (x := 177) (Nat.le_of_ble_eq_true rfl)).mp (ax_gx hE (177, [3, 7]) ax_m3)
  have F166 : pz66 (pz_gt (ρ 0)) (pz_gN (ρ 0)) ((ρ 1) / 4) ((ρ 3) / 4) := (ax_XF_lt (x := 166) (Nat.le_of_ble_eq_true rfl)).mp (ax_gx hE (166, [3, 7, 15]) ax_m4)
  have f50 : pz50 (pz_gt (ρ 0)) (pz_gN (ρ 0)) (ρ 1 / 4) (pz_nx (pz_gt (ρ 0)) (pz_gN (ρ 0)) (pz_p (pz_cf (pz_gt (ρ 0)) (pz_gN (ρ 0)) (ρ 1 / 4)))) (pz_at (pz_gt (ρ 0)) (pz_gN (ρ 0)) (pz_p (pz_cf (pz_gt (ρ 0)) (pz_gN (ρ 0)) (ρ 1 / 4)))) (pz_kd (pz_gt (ρ 0)) (pz_gN (ρ 0)) (pz_p (pz_cf (pz_gt (ρ 0)) (pz_gN (ρ 0)) (ρ 1 / 4)))) (pz_vl (pz_gt (ρ 0)) (pz_gN (ρ 0)) (pz_p (pz_cf (pz_gt (ρ 0)) (pz_gN (ρ 0)) (ρ 1 / 4)))) _ _ _ _ _ _ _ _ _ _ _ _ := ⟨rfl, rfl, rfl, fun _ => pz_m_vl, F152⟩
  have st := pq_rl_rm2 f50 F177 F166 (by omega) (by omega)
  refine ⟨(fun y hy => by cases hy), _, List.mem_cons_self, ρ, fun _ _ => rfl, ax_px hE rfl (fun x hx => ?_)⟩
  rcases List.mem_cons.mp hx with e | hx
  · subst e
    refine (ax_XF_wr (x := 152) (Nat.le_of_ble_eq_true rfl)).mpr ?_
    show ay_ex (ax_upd hp 722 (0) (ρ 3)) 175 ∧ ay_ex (ax_upd hp 722 (0) (ρ 3)) 176 ∧ ay_ex (ax_upd hp 722 (0) (ρ 3)) 177 ∧ ay_ex (ax_upd hp 722 (0) (ρ 3)) 178 ∧ ay_ex (ax_upd hp 722 (0) (ρ 3)) 179 ∧ ay_ex (ax_upd hp 722 (0) (ρ 3)) 173 ∧ ay_ex (ax_upd hp 722 (0) (ρ 3)) 173 ∧ ay_ex (ax_upd hp 722 (0) (ρ 3)) 173 ∧ ay_ex (ax_upd hp 722 (0) (ρ 3)) 173 ∧ ay_ex (ax_upd hp 722 (0) (ρ 3)) 173 ∧ ay_ex (ax_upd hp 722 (0) (ρ 3)) 181 ∧ pz_y152 0 (ρ 0) (ρ 2) (ay_at (ax_upd hp 722 (0) (ρ 3)) 175 0) (ay_at (ax_upd hp 722 (0) (ρ 3)) 176 0) (ay_at (ax_upd hp 722 (0) (ρ 3)) 177 0) (ay_at (ax_upd hp 722 (0) (ρ 3)) 178 0) (ay_at (ax_upd hp 722 (0) (ρ 3)) 179 0) (ay_at (ax_upd hp 722 (0) (ρ 3)) 173 23) (ay_at (ax_upd hp 722 (0) (ρ 3)) 173 25) (ay_at (ax_upd hp 722 (0) (ρ 3)) 173 24) (ay_at (ax_upd hp 722 (0) (ρ 3)) 173 18) (ay_at (ax_upd hp 722 (0) (ρ 3)) 173 19) (ay_at (ax_upd hp 722 (0) (ρ 3)) 181)
    obtain ⟨o0, ho0⟩ := ay_some hT (q := 178) (g := 48) (n := 2) (ax_wc ax_WW1 ax_cg_178) (ax_wn ax_WW1 ax_cn_48) (j := 0 / 4) (Nat.le_of_ble_eq_true rfl)
    have u1 : ∀ q, q ≠ 178 → ay_at (ax_upd hp 722 0 (ρ 3)) q = ay_at hp q := fun q hq => funext (fun j => ay_upd_ne hT.1 hq j)
    have u2 : ∀ j, ay_at (ax_upd hp 722 0 (ρ 3)) 178 j = if j = 0 then some (ρ 3) else ay_at hp 178 j := fun j => ay_upd_eq hT.1 rfl ho0 j
    refine ⟨ay_ex_upd hT.1 (ax_cellT hT (q := 175) (g := 45) (ax_wc ax_WW1 ax_cg_175)), ay_ex_upd hT.1 (ax_cellT hT (q := 176) (g := 46) (ax_wc ax_WW1 ax_cg_176)), ay_ex_upd hT.1 (ax_cellT hT (q := 177) (g := 47) (ax_wc ax_WW1 ax_cg_177)), ay_ex_upd hT.1 (ax_cellT hT (q := 178) (g := 48) (ax_wc ax_WW1 ax_cg_178)), ay_ex_upd hT.1 (ax_cellT hT (q := 179) (g := 49) (ax_wc ax_WW1 ax_cg_179)), ay_ex_upd hT.1 (ax_cellT hT (q := 173) (g := 11) (ax_wc ax_WW1 ax_cg_173)), ay_ex_upd hT.1 (ax_cellT hT (q := 173) (g := 11) (ax_wc ax_WW1 ax_cg_173)), ay_ex_upd hT.1 (ax_cellT hT (q := 173) (g := 11) (ax_wc ax_WW1 ax_cg_173)), ay_ex_upd hT.1 (ax_cellT hT (q := 173) (g := 11) (ax_wc ax_WW1 ax_cg_173)), ay_ex_upd hT.1 (ax_cellT hT (q := 173) (g := 11) (ax_wc ax_WW1 ax_cg_173)), ay_ex_upd hT.1 (ax_cellT hT (q := 181) (g := 51) (ax_wc ax_WW1 ax_cg_181)), ?_⟩
    rw [u1 175 (Nat.ne_of_beq_eq_false rfl), u1 176 (Nat.ne_of_beq_eq_false rfl), u1 177 (Nat.ne_of_beq_eq_false rfl), u2 0, if_pos rfl, u1 179 (Nat.ne_of_beq_eq_false rfl), u1 173 (Nat.ne_of_beq_eq_false rfl), u1 181 (Nat.ne_of_beq_eq_false rfl)]
    exact pz_l152 F182 st.1.2
  cases List.mem_singleton.mp hx
  refine (ax_XF_lt (x := 181) (Nat.le_of_ble_eq_true rfl)).mpr ?_
  show pz_y181 (ρ 0) (ρ 2)
  refine Or.inl ?_
  rw [F182]
  exact st.2

theorem axq1_my_n2 : ax_RO ax_wM1 (ax_XM 1) axu1_my_n2 := axqg_my_n2 ax_WW1
theorem axq1_my_t2 : ax_RO ax_wM1 (ax_XM 1) axu1_my_t2 := axqg_my_t2 ax_WW1
theorem axq1_my_n3 : ax_RO ax_wM1 (ax_XM 1) axu1_my_n3 := axqg_my_n3 ax_WW1
theorem axq1_my_t3 : ax_RO ax_wM1 (ax_XM 1) axu1_my_t3 := axqg_my_t3 ax_WW1
theorem axq1_my_n4 : ax_RO ax_wM1 (ax_XM 1) axu1_my_n4 := axqg_my_n4 ax_WW1
theorem axq1_my_t4 : ax_RO ax_wM1 (ax_XM 1) axu1_my_t4 := axqg_my_t4 ax_WW1
theorem axq1_my_f : ax_RO ax_wM1 (ax_XM 1) axu1_my_f := by
  intro ρ hp hE hT
  have j0 : ρ 0 % 4 = 1 := pz_gj hE 0 (Nat.le_of_ble_eq_true rfl) rfl
  have j1 : ρ 1 % 4 = 1 := pz_gj hE 1 (Nat.le_of_ble_eq_true rfl) rfl
  obtain ⟨-, -, -, -, -, F151⟩ : ay_ex hp 173 ∧ ay_ex hp 173 ∧ ay_ex hp 173 ∧ ay_ex hp 173 ∧ ay_ex hp 173 ∧ pz_y151 (ρ 0) (ρ 1) (ay_at hp 173 13) (ay_at hp 173 14) (ay_at hp 173 15) (ay_at hp 173 16) (ay_at hp 173 17) := (ax_XF_lt (x := 151) (Nat.le_of_ble_eq_true rfl)).mp (ax_gx hE (151, [3, 7]) (by decide))
  obtain ⟨-, -, -, -, -, -, -, -, -, -, -, F152⟩ : ay_ex hp 175 ∧ ay_ex hp 176 ∧ ay_ex hp 177 ∧ ay_ex hp 178 ∧ ay_ex hp 179 ∧ ay_ex hp 173 ∧ ay_ex hp 173 ∧ ay_ex hp 173 ∧ ay_ex hp 173 ∧ ay_ex hp 173 ∧ ay_ex hp 181 ∧ pz_y152 0 (ρ 0) (ρ 1) (ay_at hp 175 0) (ay_at hp 176 0) (ay_at hp 177 0) (ay_at hp 178 0) (ay_at hp 179 0) (ay_at hp 173 23) (ay_at hp 173 25) (ay_at hp 173 24) (ay_at hp 173 18) (ay_at hp 173 19) (ay_at hp 181) := (ax_XF_lt (x := 152) (Nat.le_of_ble_eq_true rfl)).mp (ax_gx hE (152, [3, 7]) (by decide))
  have F173 : pz7 (pz_gt (ρ 0)) (pz_gN (ρ 0)) ((ρ 1) / 4) 3 := (ax_XF_lt (x := 173) (Nat.le_of_ble_eq_true rfl)).mp (ax_gx hE (173, [3, 7]) (by decide))
  have F211 : pz111 (pz_gt (ρ 0)) (pz_gN (ρ 0)) ((ρ 1) / 4) := (ax_XF_lt (x := 211) (Nat.le_of_ble_eq_true rfl)).mp (ax_gx hE (211, [3, 7]) (by decide))
  have F161 : pz61 (pz_gt (ρ 0)) (pz_gN (ρ 0)) ((ρ 1) / 4) ((4) / 4) := (ax_XF_lt (x := 161) (Nat.le_of_ble_eq_true rfl)).mp (ax_gx hE (161, [3, 7, 4]) (by decide))
  obtain ⟨-, F222⟩ : ay_ex hp 173 ∧ (pz61 (pz_gt (ρ 0)) (pz_gN (ρ 0)) ((ρ 1) / 4) 2 ∨ ay_ln (ay_at hp 173 23) = 1) := (ax_XF_lt (x := 222) (Nat.le_of_ble_eq_true rfl)).mp (ax_gx hE (222, [3, 7]) (by decide))
  obtain ⟨-, F223⟩ : ay_ex hp 173 ∧ (pz61 (pz_gt (ρ 0)) (pz_gN (ρ 0)) ((ρ 1) / 4) 3 ∨ ay_ln (ay_at hp 173 25) = 1) := (ax_XF_lt (x := 223) (Nat.le_of_ble_eq_true rfl)).mp (ax_gx hE (223, [3, 7]) (by decide))
  obtain ⟨-, F224⟩ : ay_ex hp 173 ∧ (pz61 (pz_gt (ρ 0)) (pz_gN (ρ 0)) ((ρ 1) / 4) 4 ∨ ay_ln (ay_at hp 173 24) = 1) := (ax_XF_lt (x := 224) (Nat.le_of_ble_eq_true rfl)).mp (ax_gx hE (224, [3, 7]) (by decide))
  refine ⟨(fun y hy => by cases hy), _, List.mem_cons_self, ρ, fun _ _ => rfl, ax_px hE rfl (fun x hx => ?_)⟩
  cases List.mem_singleton.mp hx
  refine (ax_XF_lt (x := 164) (Nat.le_of_ble_eq_true rfl)).mpr ?_
  show pz64 (pz_gt (ρ 0)) (pz_gN (ρ 0)) ((ρ 1) / 4) ((4) / 4)
  exact pq_rl_f (pz_m50 F151 F152) F173 F211 F161 F222 F223 F224

theorem axq1_t0_ro : ax_RO ax_wM1 (ax_XM 1) axu1_t0_ro := axqg_t0_ro ax_WW1
theorem axq1_t0_rm : ax_RO ax_wM1 (ax_XM 1) axu1_t0_rm := axqg_t0_rm ax_WW1
theorem axq1_t0_ro2 : ax_RO ax_wM1 (ax_XM 1) axu1_t0_ro2 := axqg_t0_ro2 ax_WW1
theorem axq1_t0_rm2 : ax_RO ax_wM1 (ax_XM 1) axu1_t0_rm2 := axqg_t0_rm2 ax_WW1
theorem axq1_t0_rk : ax_RO ax_wM1 (ax_XM 1) axu1_t0_rk := by
  intro ρ hp hE hT
  have j0 : ρ 0 % 4 = 1 := pz_gj hE 0 (Nat.le_of_ble_eq_true rfl) rfl
  have j1 : ρ 1 % 4 = 1 := pz_gj hE 1 (Nat.le_of_ble_eq_true rfl) rfl
  have j2 : ρ 2 % 4 = 1 := pz_gj hE 2 (Nat.le_of_ble_eq_true rfl) rfl
  have j3 : ρ 3 % 4 = 1 := pz_gj hE 3 (Nat.le_of_ble_eq_true rfl) rfl
  obtain ⟨i4a, i4b, i4c, i4d⟩ := pz_gi hE 4 2147483648 2147483648 (Nat.le_of_ble_eq_true rfl) rfl
  have c_hasRank : ay_at hp 173 24 = some (ρ 4) := ay_gfj hE 702 96 19 173 24 (by decide) (ax_vlq rfl rfl) (ax_vlj rfl rfl)
  obtain ⟨-, -, -, -, -, F151⟩ : ay_ex hp 173 ∧ ay_ex hp 173 ∧ ay_ex hp 173 ∧ ay_ex hp 173 ∧ ay_ex hp 173 ∧ pz_y151 (ρ 0) (ρ 1) (ay_at hp 173 13) (ay_at hp 173 14) (ay_at hp 173 15) (ay_at hp 173 16) (ay_at hp 173 17) := (ax_XF_lt (x := 151) (Nat.le_of_ble_eq_true rfl)).mp (ax_gx hE (151, [3, 7]) (by decide))
  have F182 : (ρ 2) / 4 = (ρ 1) / 4 + 1 := (ax_XF_lt (x := 182) (Nat.le_of_ble_eq_true rfl)).mp (ax_gx hE (182, [7, 11]) (by decide))
  obtain ⟨-, -, -, -, -, -, -, -, -, -, -, F152⟩ : ay_ex hp 175 ∧ ay_ex hp 176 ∧ ay_ex hp 177 ∧ ay_ex hp 178 ∧ ay_ex hp 179 ∧ ay_ex hp 173 ∧ ay_ex hp 173 ∧ ay_ex hp 173 ∧ ay_ex hp 173 ∧ ay_ex hp 173 ∧ ay_ex hp 181 ∧ pz_y152 0 (ρ 0) (ρ 1) (ay_at hp 175 0) (ay_at hp 176 0) (ay_at hp 177 0) (ay_at hp 178 0) (ay_at hp 179 0) (ay_at hp 173 23) (ay_at hp 173 25) (ay_at hp 173 24) (ay_at hp 173 18) (ay_at hp 173 19) (ay_at hp 181) := (ax_XF_lt (x := 152) (Nat.le_of_ble_eq_true rfl)).mp (ax_gx hE (152, [3, 7]) (by decide))
  rw [c_hasRank] at F152
  have F173 : pz7 (pz_gt (ρ 0)) (pz_gN (ρ 0)) ((ρ 1) / 4) 3 := (ax_XF_lt (x := 173) (Nat.le_of_ble_eq_true rfl)).mp (ax_gx hE (173, [3, 7]) (by decide))
  have F246 : py_y246 (pz_gt (ρ 0)) (pz_gN (ρ 0)) ((ρ 1) / 4) (5) (ρ 3) := (ax_XF_lt (x := 246) (Nat.le_of_ble_eq_true rfl)).mp (ax_gx hE (246, [3, 7, 5, 15]) (by decide))
  have hf : pz_fk (pz_cf (pz_gt (ρ 0)) (pz_gN (ρ 0)) (ρ 1 / 4)) = false := by
    have e : ρ 4 / 4 = pz_B (pz_fk (pz_cf (pz_gt (ρ 0)) (pz_gN (ρ 0)) (ρ 1 / 4))) := F152.2.2.2.2.2.2.2.1
    cases h : pz_fk (pz_cf (pz_gt (ρ 0)) (pz_gN (ρ 0)) (ρ 1 / 4)) with
    | false => rfl
    | true => rw [h] at e; replace e : ρ 4 / 4 = 1 := e; omega
  refine ⟨(fun y hy => by cases hy), _, List.mem_cons_self, ρ, fun _ _ => rfl, ax_px hE rfl (fun x hx => ?_)⟩
  cases List.mem_singleton.mp hx
  refine (ax_XF_lt (x := 246) (Nat.le_of_ble_eq_true rfl)).mpr ?_
  show py_y246 (pz_gt (ρ 0)) (pz_gN (ρ 0)) ((ρ 2) / 4) (5) (5)
  exact pm_rk F173 hf F182

theorem axq1_t2_readLine : ax_RO ax_wM1 (ax_XM 1) axu1_t2_readLine := axqg_t2_readLine ax_WW1
theorem axq1_t3_readLine : ax_RO ax_wM1 (ax_XM 1) axu1_t3_readLine := axqg_t3_readLine ax_WW1
theorem axq1_mz1 : ax_RO ax_wM1 (ax_XM 1) axu1_mz1 := by
  intro ρ hp hE hT
  have j0 : ρ 0 % 4 = 1 := pz_gj hE 0 (Nat.le_of_ble_eq_true rfl) rfl
  have j1 : ρ 1 % 4 = 1 := pz_gj hE 1 (Nat.le_of_ble_eq_true rfl) rfl
  obtain ⟨i2a, i2b, i2c, i2d⟩ := pz_gi hE 2 2147483648 2147483648 (Nat.le_of_ble_eq_true rfl) rfl
  have c_token : ay_at hp 173 15 = some (ρ 2) := ay_gfj hE 702 60 11 173 15 (by decide) (ax_vlq rfl rfl) (ax_vlj rfl rfl)
  obtain ⟨-, -, -, -, -, F151⟩ : ay_ex hp 173 ∧ ay_ex hp 173 ∧ ay_ex hp 173 ∧ ay_ex hp 173 ∧ ay_ex hp 173 ∧ pz_y151 (ρ 0) (ρ 1) (ay_at hp 173 13) (ay_at hp 173 14) (ay_at hp 173 15) (ay_at hp 173 16) (ay_at hp 173 17) := (ax_XF_lt (x := 151) (Nat.le_of_ble_eq_true rfl)).mp (ax_gx hE (151, [3, 7]) (by decide))
  rw [c_token] at F151
  obtain ⟨-, -, -, -, -, -, -, -, -, -, -, F152⟩ : ay_ex hp 175 ∧ ay_ex hp 176 ∧ ay_ex hp 177 ∧ ay_ex hp 178 ∧ ay_ex hp 179 ∧ ay_ex hp 173 ∧ ay_ex hp 173 ∧ ay_ex hp 173 ∧ ay_ex hp 173 ∧ ay_ex hp 173 ∧ ay_ex hp 181 ∧ pz_y152 0 (ρ 0) (ρ 1) (ay_at hp 175 0) (ay_at hp 176 0) (ay_at hp 177 0) (ay_at hp 178 0) (ay_at hp 179 0) (ay_at hp 173 23) (ay_at hp 173 25) (ay_at hp 173 24) (ay_at hp 173 18) (ay_at hp 173 19) (ay_at hp 181) := (ax_XF_lt (x := 152) (Nat.le_of_ble_eq_true rfl)).mp (ax_gx hE (152, [3, 7]) (by decide))
  have F170 : pz7 (pz_gt (ρ 0)) (pz_gN (ρ 0)) ((ρ 1) / 4) 0 := (ax_XF_lt (x := 170) (Nat.le_of_ble_eq_true rfl)).mp (ax_gx hE (170, [3, 7]) (by decide))
  have ht : ρ 2 / 4 = pz_tok (pz_kd (pz_gt (ρ 0)) (pz_gN (ρ 0)) (pz_p (pz_cf (pz_gt (ρ 0)) (pz_gN (ρ 0)) (ρ 1 / 4)))) := F151.2.2.1
  have hc := pz_tok_c (pz_kd (pz_gt (ρ 0)) (pz_gN (ρ 0)) (pz_p (pz_cf (pz_gt (ρ 0)) (pz_gN (ρ 0)) (ρ 1 / 4))))
  have hk : pz_kd (pz_gt (ρ 0)) (pz_gN (ρ 0)) (pz_p (pz_cf (pz_gt (ρ 0)) (pz_gN (ρ 0)) (ρ 1 / 4))) = 0 := (by rcases hc with h | h | h | h | h <;> omega)
  refine ⟨(fun y hy => by cases hy), _, List.mem_cons_self, ρ, fun _ _ => rfl, ax_px hE rfl (fun x hx => ?_)⟩
  cases List.mem_singleton.mp hx
  refine (ax_XF_lt (x := 210) (Nat.le_of_ble_eq_true rfl)).mpr ?_
  show ay_ex hp 175 ∧ ay_ex hp 176 ∧ ay_ex hp 177 ∧ ay_ex hp 178 ∧ ay_ex hp 179 ∧ ay_ex hp 173 ∧ ay_ex hp 173 ∧ ay_ex hp 173 ∧ ay_ex hp 173 ∧ ay_ex hp 173 ∧ ay_ex hp 181 ∧ pz110 (pz_gt (ρ 0)) (pz_gN (ρ 0)) (ay_ln (ay_at hp 175 0)) (ay_ln (ay_at hp 176 0)) (ay_ln (ay_at hp 177 0)) (ay_ln (ay_at hp 178 0)) (ay_ln (ay_at hp 179 0)) (ay_ln (ay_at hp 173 23)) (ay_ln (ay_at hp 173 25)) (ay_ln (ay_at hp 173 24)) (ay_ln (ay_at hp 173 18)) (ay_ln (ay_at hp 173 19)) (pz_be 0 (ay_at hp 181)) (pz_fi 0 (ay_at hp 181))
  refine ⟨(ax_cellT hT (q := 175) (g := 45) (ax_wc ax_WW1 ax_cg_175)), (ax_cellT hT (q := 176) (g := 46) (ax_wc ax_WW1 ax_cg_176)), (ax_cellT hT (q := 177) (g := 47) (ax_wc ax_WW1 ax_cg_177)), (ax_cellT hT (q := 178) (g := 48) (ax_wc ax_WW1 ax_cg_178)), (ax_cellT hT (q := 179) (g := 49) (ax_wc ax_WW1 ax_cg_179)), (ax_cellT hT (q := 173) (g := 11) (ax_wc ax_WW1 ax_cg_173)), (ax_cellT hT (q := 173) (g := 11) (ax_wc ax_WW1 ax_cg_173)), (ax_cellT hT (q := 173) (g := 11) (ax_wc ax_WW1 ax_cg_173)), (ax_cellT hT (q := 173) (g := 11) (ax_wc ax_WW1 ax_cg_173)), (ax_cellT hT (q := 173) (g := 11) (ax_wc ax_WW1 ax_cg_173)), (ax_cellT hT (q := 181) (g := 51) (ax_wc ax_WW1 ax_cg_181)), ?_⟩
  exact pq_rt2 (pz_m50 F151 F152) F170 hk

theorem axq1_mz2a_12 : ax_RO ax_wM1 (ax_XM 1) axu1_mz2a_12 := axqg_mz2a_12 ax_WW1
theorem axq1_mz2a_69 : ax_RO ax_wM1 (ax_XM 1) axu1_mz2a_69 := axqg_mz2a_69 ax_WW1
theorem axq1_mz2b_12 : ax_RO ax_wM1 (ax_XM 1) axu1_mz2b_12 := axqg_mz2b_12 ax_WW1
theorem axq1_mz2b_69 : ax_RO ax_wM1 (ax_XM 1) axu1_mz2b_69 := axqg_mz2b_69 ax_WW1
theorem axq1_mz3 : ax_RO ax_wM1 (ax_XM 1) axu1_mz3 := axqg_mz3 ax_WW1
theorem axq1_mz4 : ax_RO ax_wM1 (ax_XM 1) axu1_mz4 := by
  intro ρ hp hE hT
  have j0 : ρ 0 % 4 = 1 := pz_gj hE 0 (Nat.le_of_ble_eq_true rfl) rfl
  have j1 : ρ 1 % 4 = 1 := pz_gj hE 1 (Nat.le_of_ble_eq_true rfl) rfl
  obtain ⟨-, -, -, -, -, F151⟩ : ay_ex hp 173 ∧ ay_ex hp 173 ∧ ay_ex hp 173 ∧ ay_ex hp 173 ∧ ay_ex hp 173 ∧ pz_y151 (ρ 0) (ρ 1) (ay_at hp 173 13) (ay_at hp 173 14) (ay_at hp 173 15) (ay_at hp 173 16) (ay_at hp 173 17) := (ax_XF_lt (x := 151) (Nat.le_of_ble_eq_true rfl)).mp (ax_gx hE (151, [3, 7]) (by decide))
  obtain ⟨-, -, -, -, -, -, -, -, -, -, -, F152⟩ : ay_ex hp 175 ∧ ay_ex hp 176 ∧ ay_ex hp 177 ∧ ay_ex hp 178 ∧ ay_ex hp 179 ∧ ay_ex hp 173 ∧ ay_ex hp 173 ∧ ay_ex hp 173 ∧ ay_ex hp 173 ∧ ay_ex hp 173 ∧ ay_ex hp 181 ∧ pz_y152 0 (ρ 0) (ρ 1) (ay_at hp 175 0) (ay_at hp 176 0) (ay_at hp 177 0) (ay_at hp 178 0) (ay_at hp 179 0) (ay_at hp 173 23) (ay_at hp 173 25) (ay_at hp 173 24) (ay_at hp 173 18) (ay_at hp 173 19) (ay_at hp 181) := (ax_XF_lt (x := 152) (Nat.le_of_ble_eq_true rfl)).mp (ax_gx hE (152, [3, 7]) (by decide))
  have F170 : pz7 (pz_gt (ρ 0)) (pz_gN (ρ 0)) ((ρ 1) / 4) 0 := (ax_XF_lt (x := 170) (Nat.le_of_ble_eq_true rfl)).mp (ax_gx hE (170, [3, 7]) (by decide))
  have F160 : pz60 (pz_gt (ρ 0)) (pz_gN (ρ 0)) ((ρ 1) / 4) ((0) / 4) := (ax_XF_lt (x := 160) (Nat.le_of_ble_eq_true rfl)).mp (ax_gx hE (160, [3, 7, 0]) (by decide))
  have st := pq_sw2 (pz_m50 F151 F152) F170 F160
  obtain ⟨ρ', h1, h2⟩ := pz_pn1 (K := ρ 1 / 4 + 1) (xf := [(153, [3, 11]), (182, [7, 11]), (152, [3, 11]), (171, [3, 11])]) hE (by decide) (fun ρ' h1 h2 x hx => by
    have q0 : ρ' 0 = ρ 0 := h1 0 (by decide)
    have q1 : ρ' 1 = ρ 1 := h1 1 (by decide)
    rcases List.mem_cons.mp hx with e | hx
    · subst e
      refine (ax_XF_lt (x := 153) (Nat.le_of_ble_eq_true rfl)).mpr ?_
      show ay_ex hp 173 ∧ pz_at (pz_gt (ρ' 0)) (pz_gN (ρ' 0)) (ay_ln (ay_at hp 173 13)) = pz_at (pz_gt (ρ' 0)) (pz_gN (ρ' 0)) (pz_p (pz_cF (ρ' 0) (ρ' 2)))
      rw [q0, h2]
      refine ⟨(ax_cellT hT (q := 173) (g := 11) (ax_wc ax_WW1 ax_cg_173)), ?_⟩
      exact pz_l153 (pz_41 _) st.1.1
    rcases List.mem_cons.mp hx with e | hx
    · subst e
      refine (ax_XF_lt (x := 182) (Nat.le_of_ble_eq_true rfl)).mpr ?_
      show (ρ' 2) / 4 = (ρ' 1) / 4 + 1
      rw [q1, h2]
      rw [pz_41]
    rcases List.mem_cons.mp hx with e | hx
    · subst e
      refine (ax_XF_lt (x := 152) (Nat.le_of_ble_eq_true rfl)).mpr ?_
      show ay_ex hp 175 ∧ ay_ex hp 176 ∧ ay_ex hp 177 ∧ ay_ex hp 178 ∧ ay_ex hp 179 ∧ ay_ex hp 173 ∧ ay_ex hp 173 ∧ ay_ex hp 173 ∧ ay_ex hp 173 ∧ ay_ex hp 173 ∧ ay_ex hp 181 ∧ pz_y152 0 (ρ' 0) (ρ' 2) (ay_at hp 175 0) (ay_at hp 176 0) (ay_at hp 177 0) (ay_at hp 178 0) (ay_at hp 179 0) (ay_at hp 173 23) (ay_at hp 173 25) (ay_at hp 173 24) (ay_at hp 173 18) (ay_at hp 173 19) (ay_at hp 181)
      rw [q0, h2]
      refine ⟨(ax_cellT hT (q := 175) (g := 45) (ax_wc ax_WW1 ax_cg_175)), (ax_cellT hT (q := 176) (g := 46) (ax_wc ax_WW1 ax_cg_176)), (ax_cellT hT (q := 177) (g := 47) (ax_wc ax_WW1 ax_cg_177)), (ax_cellT hT (q := 178) (g := 48) (ax_wc ax_WW1 ax_cg_178)), (ax_cellT hT (q := 179) (g := 49) (ax_wc ax_WW1 ax_cg_179)), (ax_cellT hT (q := 173) (g := 11) (ax_wc ax_WW1 ax_cg_173)), (ax_cellT hT (q := 173) (g := 11) (ax_wc ax_WW1 ax_cg_173)), (ax_cellT hT (q := 173) (g := 11) (ax_wc ax_WW1 ax_cg_173)), (ax_cellT hT (q := 173) (g := 11) (ax_wc ax_WW1 ax_cg_173)), (ax_cellT hT (q := 173) (g := 11) (ax_wc ax_WW1 ax_cg_173)), (ax_cellT hT (q := 181) (g := 51) (ax_wc ax_WW1 ax_cg_181)), ?_⟩
      exact pz_l152 (pz_41 _) st.1.2
    cases List.mem_singleton.mp hx
    refine (ax_XF_lt (x := 171) (Nat.le_of_ble_eq_true rfl)).mpr ?_
    show pz7 (pz_gt (ρ' 0)) (pz_gN (ρ' 0)) ((ρ' 2) / 4) 1
    rw [q0, h2]
    rw [pz_41]
    exact st.2)
  exact ⟨(fun y hy => by cases hy), _, List.mem_cons_self, ρ', h1, h2⟩

theorem axq1_mz5 : ax_RO ax_wM1 (ax_XM 1) axu1_mz5 := by
  intro ρ hp hE hT
  have j0 : ρ 0 % 4 = 1 := pz_gj hE 0 (Nat.le_of_ble_eq_true rfl) rfl
  have j1 : ρ 1 % 4 = 1 := pz_gj hE 1 (Nat.le_of_ble_eq_true rfl) rfl
  have j2 : ρ 2 % 4 = 1 := pz_gj hE 2 (Nat.le_of_ble_eq_true rfl) rfl
  obtain ⟨i3a, i3b, i3c, i3d⟩ := pz_gi hE 3 2147483650 2147483658 (Nat.le_of_ble_eq_true rfl) rfl
  obtain ⟨-, -, -, -, -, F151⟩ : ay_ex hp 173 ∧ ay_ex hp 173 ∧ ay_ex hp 173 ∧ ay_ex hp 173 ∧ ay_ex hp 173 ∧ pz_y151 (ρ 0) (ρ 2) (ay_at hp 173 13) (ay_at hp 173 14) (ay_at hp 173 15) (ay_at hp 173 16) (ay_at hp 173 17) := (ax_XF_lt (x := 151) (Nat.le_of_ble_eq_true rfl)).mp (ax_gx hE (151, [3, 11]) ax_m0)
  have F182 : (ρ 2) / 4 = (ρ 1) / 4 + 1 := (ax_XF_lt (x := 182) (Nat.le_of_ble_eq_true rfl)).mp (ax_gx hE (182, [7, 11]) ax_m1)
  obtain ⟨-, -, -, -, -, -, -, -, -, -, -, F152⟩ : ay_ex hp 175 ∧ ay_ex hp 176 ∧ ay_ex hp 177 ∧ ay_ex hp 178 ∧ ay_ex hp 179 ∧ ay_ex hp 173 ∧ ay_ex hp 173 ∧ ay_ex hp 173 ∧ ay_ex hp 173 ∧ ay_ex hp 173 ∧ ay_ex hp 181 ∧ pz_y152 0 (ρ 0) (ρ 1) (ay_at hp 175 0) (ay_at hp 176 0) (ay_at hp 177 0) (ay_at hp 178 0) (ay_at hp 179 0) (ay_at hp 173 23) (ay_at hp 173 25) (ay_at hp 173 24) (ay_at hp 173 18) (ay_at hp 173 19) (ay_at hp 181) := (ax_XF_lt (x := 152) (Nat.le_of_ble_eq_true rfl)).mp (ax_gx hE (152, [3, 7]) ax_m2)
  have F171 : pz7 (pz_gt (ρ 0)) (pz_gN (ρ 0)) ((ρ 1) / 4) 1 := (ax_XF_lt (x := 171) (Nat.le_of_ble_eq_true rfl)).mp (ax_gx hE (171, [3, 7]) ax_m3)
  have F166 : pz66 (pz_gt (ρ 0)) (pz_gN (ρ 0)) ((ρ 1) / 4) ((ρ 3) / 4) := (ax_XF_lt (x := 166) (Nat.le_of_ble_eq_true rfl)).mp (ax_gx hE (166, [3, 7, 15]) ax_m4)
  have f50 : pz50 (pz_gt (ρ 0)) (pz_gN (ρ 0)) (ρ 1 / 4) (pz_nx (pz_gt (ρ 0)) (pz_gN (ρ 0)) (pz_p (pz_cf (pz_gt (ρ 0)) (pz_gN (ρ 0)) (ρ 1 / 4)))) (pz_at (pz_gt (ρ 0)) (pz_gN (ρ 0)) (pz_p (pz_cf (pz_gt (ρ 0)) (pz_gN (ρ 0)) (ρ 1 / 4)))) (pz_kd (pz_gt (ρ 0)) (pz_gN (ρ 0)) (pz_p (pz_cf (pz_gt (ρ 0)) (pz_gN (ρ 0)) (ρ 1 / 4)))) (pz_vl (pz_gt (ρ 0)) (pz_gN (ρ 0)) (pz_p (pz_cf (pz_gt (ρ 0)) (pz_gN (ρ 0)) (ρ 1 / 4)))) _ _ _ _ _ _ _ _ _ _ _ _ := ⟨rfl, rfl, rfl, fun _ => pz_m_vl, F152⟩
  have st := pq_sw3 f50 F171 F166 (by omega) (by omega)
  refine ⟨(fun y hy => by cases hy), _, List.mem_cons_self, ρ, fun _ _ => rfl, ax_px hE rfl (fun x hx => ?_)⟩
  rcases List.mem_cons.mp hx with e | hx
  · subst e
    refine (ax_XF_wr (x := 152) (Nat.le_of_ble_eq_true rfl)).mpr ?_
    show ay_ex (ax_upd hp 710 (0) (ρ 3)) 175 ∧ ay_ex (ax_upd hp 710 (0) (ρ 3)) 176 ∧ ay_ex (ax_upd hp 710 (0) (ρ 3)) 177 ∧ ay_ex (ax_upd hp 710 (0) (ρ 3)) 178 ∧ ay_ex (ax_upd hp 710 (0) (ρ 3)) 179 ∧ ay_ex (ax_upd hp 710 (0) (ρ 3)) 173 ∧ ay_ex (ax_upd hp 710 (0) (ρ 3)) 173 ∧ ay_ex (ax_upd hp 710 (0) (ρ 3)) 173 ∧ ay_ex (ax_upd hp 710 (0) (ρ 3)) 173 ∧ ay_ex (ax_upd hp 710 (0) (ρ 3)) 173 ∧ ay_ex (ax_upd hp 710 (0) (ρ 3)) 181 ∧ pz_y152 0 (ρ 0) (ρ 2) (ay_at (ax_upd hp 710 (0) (ρ 3)) 175 0) (ay_at (ax_upd hp 710 (0) (ρ 3)) 176 0) (ay_at (ax_upd hp 710 (0) (ρ 3)) 177 0) (ay_at (ax_upd hp 710 (0) (ρ 3)) 178 0) (ay_at (ax_upd hp 710 (0) (ρ 3)) 179 0) (ay_at (ax_upd hp 710 (0) (ρ 3)) 173 23) (ay_at (ax_upd hp 710 (0) (ρ 3)) 173 25) (ay_at (ax_upd hp 710 (0) (ρ 3)) 173 24) (ay_at (ax_upd hp 710 (0) (ρ 3)) 173 18) (ay_at (ax_upd hp 710 (0) (ρ 3)) 173 19) (ay_at (ax_upd hp 710 (0) (ρ 3)) 181)
    obtain ⟨o0, ho0⟩ := ay_some hT (q := 175) (g := 45) (n := 2) (ax_wc ax_WW1 ax_cg_175) (ax_wn ax_WW1 ax_cn_45) (j := 0 / 4) (Nat.le_of_ble_eq_true rfl)
    have u1 : ∀ q, q ≠ 175 → ay_at (ax_upd hp 710 0 (ρ 3)) q = ay_at hp q := fun q hq => funext (fun j => ay_upd_ne hT.1 hq j)
    have u2 : ∀ j, ay_at (ax_upd hp 710 0 (ρ 3)) 175 j = if j = 0 then some (ρ 3) else ay_at hp 175 j := fun j => ay_upd_eq hT.1 rfl ho0 j
    refine ⟨ay_ex_upd hT.1 (ax_cellT hT (q := 175) (g := 45) (ax_wc ax_WW1 ax_cg_175)), ay_ex_upd hT.1 (ax_cellT hT (q := 176) (g := 46) (ax_wc ax_WW1 ax_cg_176)), ay_ex_upd hT.1 (ax_cellT hT (q := 177) (g := 47) (ax_wc ax_WW1 ax_cg_177)), ay_ex_upd hT.1 (ax_cellT hT (q := 178) (g := 48) (ax_wc ax_WW1 ax_cg_178)), ay_ex_upd hT.1 (ax_cellT hT (q := 179) (g := 49) (ax_wc ax_WW1 ax_cg_179)), ay_ex_upd hT.1 (ax_cellT hT (q := 173) (g := 11) (ax_wc ax_WW1 ax_cg_173)), ay_ex_upd hT.1 (ax_cellT hT (q := 173) (g := 11) (ax_wc ax_WW1 ax_cg_173)), ay_ex_upd hT.1 (ax_cellT hT (q := 173) (g := 11) (ax_wc ax_WW1 ax_cg_173)), ay_ex_upd hT.1 (ax_cellT hT (q := 173) (g := 11) (ax_wc ax_WW1 ax_cg_173)), ay_ex_upd hT.1 (ax_cellT hT (q := 173) (g := 11) (ax_wc ax_WW1 ax_cg_173)), ay_ex_upd hT.1 (ax_cellT hT (q := 181) (g := 51) (ax_wc ax_WW1 ax_cg_181)), ?_⟩
    rw [u2 0, if_pos rfl, u1 176 (Nat.ne_of_beq_eq_false rfl), u1 177 (Nat.ne_of_beq_eq_false rfl), u1 178 (Nat.ne_of_beq_eq_false rfl), u1 179 (Nat.ne_of_beq_eq_false rfl), u1 173 (Nat.ne_of_beq_eq_false rfl), u1 181 (Nat.ne_of_beq_eq_false rfl)]
    exact pz_l152 F182 st.1.2
  cases List.mem_singleton.mp hx
  refine (ax_XF_lt (x := 181) (Nat.le_of_ble_eq_true rfl)).mpr ?_
  show pz_y181 (ρ 0) (ρ 2)
  refine Or.inl ?_
  rw [F182]
  exact st.2

theorem axq1_mz6 : ax_RO ax_wM1 (ax_XM 1) axu1_mz6 := by
  intro ρ hp hE hT
  have j0 : ρ 0 % 4 = 1 := pz_gj hE 0 (Nat.le_of_ble_eq_true rfl) rfl
  have j1 : ρ 1 % 4 = 1 := pz_gj hE 1 (Nat.le_of_ble_eq_true rfl) rfl
  obtain ⟨i2a, i2b, i2c, i2d⟩ := pz_gi hE 2 2147483648 2147483648 (Nat.le_of_ble_eq_true rfl) rfl
  have c_token : ay_at hp 173 15 = some (ρ 2) := ay_gfj hE 702 60 11 173 15 (by decide) (ax_vlq rfl rfl) (ax_vlj rfl rfl)
  obtain ⟨-, -, -, -, -, F151⟩ : ay_ex hp 173 ∧ ay_ex hp 173 ∧ ay_ex hp 173 ∧ ay_ex hp 173 ∧ ay_ex hp 173 ∧ pz_y151 (ρ 0) (ρ 1) (ay_at hp 173 13) (ay_at hp 173 14) (ay_at hp 173 15) (ay_at hp 173 16) (ay_at hp 173 17) := (ax_XF_lt (x := 151) (Nat.le_of_ble_eq_true rfl)).mp (ax_gx hE (151, [3, 7]) (by decide))
  rw [c_token] at F151
  obtain ⟨-, -, -, -, -, -, -, -, -, -, -, F152⟩ : ay_ex hp 175 ∧ ay_ex hp 176 ∧ ay_ex hp 177 ∧ ay_ex hp 178 ∧ ay_ex hp 179 ∧ ay_ex hp 173 ∧ ay_ex hp 173 ∧ ay_ex hp 173 ∧ ay_ex hp 173 ∧ ay_ex hp 173 ∧ ay_ex hp 181 ∧ pz_y152 0 (ρ 0) (ρ 1) (ay_at hp 175 0) (ay_at hp 176 0) (ay_at hp 177 0) (ay_at hp 178 0) (ay_at hp 179 0) (ay_at hp 173 23) (ay_at hp 173 25) (ay_at hp 173 24) (ay_at hp 173 18) (ay_at hp 173 19) (ay_at hp 181) := (ax_XF_lt (x := 152) (Nat.le_of_ble_eq_true rfl)).mp (ax_gx hE (152, [3, 7]) (by decide))
  have F173 : pz7 (pz_gt (ρ 0)) (pz_gN (ρ 0)) ((ρ 1) / 4) 3 := (ax_XF_lt (x := 173) (Nat.le_of_ble_eq_true rfl)).mp (ax_gx hE (173, [3, 7]) (by decide))
  have ht : ρ 2 / 4 = pz_tok (pz_kd (pz_gt (ρ 0)) (pz_gN (ρ 0)) (pz_p (pz_cf (pz_gt (ρ 0)) (pz_gN (ρ 0)) (ρ 1 / 4)))) := F151.2.2.1
  have hc := pz_tok_c (pz_kd (pz_gt (ρ 0)) (pz_gN (ρ 0)) (pz_p (pz_cf (pz_gt (ρ 0)) (pz_gN (ρ 0)) (ρ 1 / 4))))
  have hk : pz_kd (pz_gt (ρ 0)) (pz_gN (ρ 0)) (pz_p (pz_cf (pz_gt (ρ 0)) (pz_gN (ρ 0)) (ρ 1 / 4))) = 0 := (by rcases hc with h | h | h | h | h <;> omega)
  refine ⟨(fun y hy => by cases hy), _, List.mem_cons_self, ρ, fun _ _ => rfl, ax_px hE rfl (fun x hx => ?_)⟩
  cases List.mem_singleton.mp hx
  refine (ax_XF_lt (x := 210) (Nat.le_of_ble_eq_true rfl)).mpr ?_
  show ay_ex hp 175 ∧ ay_ex hp 176 ∧ ay_ex hp 177 ∧ ay_ex hp 178 ∧ ay_ex hp 179 ∧ ay_ex hp 173 ∧ ay_ex hp 173 ∧ ay_ex hp 173 ∧ ay_ex hp 173 ∧ ay_ex hp 173 ∧ ay_ex hp 181 ∧ pz110 (pz_gt (ρ 0)) (pz_gN (ρ 0)) (ay_ln (ay_at hp 175 0)) (ay_ln (ay_at hp 176 0)) (ay_ln (ay_at hp 177 0)) (ay_ln (ay_at hp 178 0)) (ay_ln (ay_at hp 179 0)) (ay_ln (ay_at hp 173 23)) (ay_ln (ay_at hp 173 25)) (ay_ln (ay_at hp 173 24)) (ay_ln (ay_at hp 173 18)) (ay_ln (ay_at hp 173 19)) (pz_be 0 (ay_at hp 181)) (pz_fi 0 (ay_at hp 181))
  refine ⟨(ax_cellT hT (q := 175) (g := 45) (ax_wc ax_WW1 ax_cg_175)), (ax_cellT hT (q := 176) (g := 46) (ax_wc ax_WW1 ax_cg_176)), (ax_cellT hT (q := 177) (g := 47) (ax_wc ax_WW1 ax_cg_177)), (ax_cellT hT (q := 178) (g := 48) (ax_wc ax_WW1 ax_cg_178)), (ax_cellT hT (q := 179) (g := 49) (ax_wc ax_WW1 ax_cg_179)), (ax_cellT hT (q := 173) (g := 11) (ax_wc ax_WW1 ax_cg_173)), (ax_cellT hT (q := 173) (g := 11) (ax_wc ax_WW1 ax_cg_173)), (ax_cellT hT (q := 173) (g := 11) (ax_wc ax_WW1 ax_cg_173)), (ax_cellT hT (q := 173) (g := 11) (ax_wc ax_WW1 ax_cg_173)), (ax_cellT hT (q := 173) (g := 11) (ax_wc ax_WW1 ax_cg_173)), (ax_cellT hT (q := 181) (g := 51) (ax_wc ax_WW1 ax_cg_181)), ?_⟩
  exact pq_rt8 (pz_m50 F151 F152) F173 hk

theorem axq1_t0_mz4 : ax_RO ax_wM1 (ax_XM 1) axu1_t0_mz4 := axqg_t0_mz4 ax_WW1
theorem axq1_t0_mz5 : ax_RO ax_wM1 (ax_XM 1) axu1_t0_mz5 := axqg_t0_mz5 ax_WW1
theorem axq1_t2_readAll : ax_RO ax_wM1 (ax_XM 1) axu1_t2_readAll := axqg_t2_readAll ax_WW1
theorem axq1_t3_readAll : ax_RO ax_wM1 (ax_XM 1) axu1_t3_readAll := axqg_t3_readAll ax_WW1
theorem axq1_mz9a : ax_RO ax_wM1 (ax_XM 1) axu1_mz9a := by
  intro ρ hp hE hT
  have j0 : ρ 0 % 4 = 1 := pz_gj hE 0 (Nat.le_of_ble_eq_true rfl) rfl
  have j1 : ρ 1 % 4 = 1 := pz_gj hE 1 (Nat.le_of_ble_eq_true rfl) rfl
  obtain ⟨i2a, i2b, i2c, i2d⟩ := pz_gi hE 2 2147483648 2147483648 (Nat.le_of_ble_eq_true rfl) rfl
  have j3 : ρ 3 % 4 = 1 := pz_gj hE 3 (Nat.le_of_ble_eq_true rfl) rfl
  have c_token : ay_at hp 173 15 = some (ρ 2) := ay_gfj hE 702 60 11 173 15 (by decide) (ax_vlq rfl rfl) (ax_vlj rfl rfl)
  obtain ⟨-, -, -, -, -, F151⟩ : ay_ex hp 173 ∧ ay_ex hp 173 ∧ ay_ex hp 173 ∧ ay_ex hp 173 ∧ ay_ex hp 173 ∧ pz_y151 (ρ 0) (ρ 1) (ay_at hp 173 13) (ay_at hp 173 14) (ay_at hp 173 15) (ay_at hp 173 16) (ay_at hp 173 17) := (ax_XF_lt (x := 151) (Nat.le_of_ble_eq_true rfl)).mp (ax_gx hE (151, [3, 7]) (by decide))
  rw [c_token] at F151
  have F170 : pz7 (pz_gt (ρ 0)) (pz_gN (ρ 0)) ((ρ 1) / 4) 0 := (ax_XF_lt (x := 170) (Nat.le_of_ble_eq_true rfl)).mp (ax_gx hE (170, [3, 7]) (by decide))
  have F246 : py_y246 (pz_gt (ρ 0)) (pz_gN (ρ 0)) ((ρ 1) / 4) (5) (ρ 3) := (ax_XF_lt (x := 246) (Nat.le_of_ble_eq_true rfl)).mp (ax_gx hE (246, [3, 7, 5, 15]) (by decide))
  obtain ⟨-, -, F241⟩ : ay_ex hp 180 ∧ ay_ex hp 182 ∧ py_y241 0 (ρ 3) (ay_at hp 180 0) (ay_at hp 182) := (ax_XF_lt (x := 241) (Nat.le_of_ble_eq_true rfl)).mp (ax_gx hE (241, [15]) (by decide))
  have ht : ρ 2 / 4 = pz_tok (pz_kd (pz_gt (ρ 0)) (pz_gN (ρ 0)) (pz_p (pz_cf (pz_gt (ρ 0)) (pz_gN (ρ 0)) (ρ 1 / 4)))) := F151.2.2.1
  have hc := pz_tok_c (pz_kd (pz_gt (ρ 0)) (pz_gN (ρ 0)) (pz_p (pz_cf (pz_gt (ρ 0)) (pz_gN (ρ 0)) (ρ 1 / 4))))
  have hk : pz_kd (pz_gt (ρ 0)) (pz_gN (ρ 0)) (pz_p (pz_cf (pz_gt (ρ 0)) (pz_gN (ρ 0)) (ρ 1 / 4))) = 0 := (by rcases hc with h | h | h | h | h <;> omega)
  refine ⟨(fun y hy => by cases hy), _, List.mem_cons_self, ρ, fun _ _ => rfl, ax_px hE rfl (fun x hx => ?_)⟩
  cases List.mem_singleton.mp hx
  refine (ax_XF_lt (x := 262) (Nat.le_of_ble_eq_true rfl)).mpr ?_
  show py_82 (ρ 0) (ρ 3)
  exact pm_82 F170 (by decide) hk F246 F241.1

theorem axq1_mz9b : ax_RO ax_wM1 (ax_XM 1) axu1_mz9b := by
  intro ρ hp hE hT
  have j0 : ρ 0 % 4 = 1 := pz_gj hE 0 (Nat.le_of_ble_eq_true rfl) rfl
  have j1 : ρ 1 % 4 = 1 := pz_gj hE 1 (Nat.le_of_ble_eq_true rfl) rfl
  obtain ⟨i2a, i2b, i2c, i2d⟩ := pz_gi hE 2 2147483648 2147483648 (Nat.le_of_ble_eq_true rfl) rfl
  have j3 : ρ 3 % 4 = 1 := pz_gj hE 3 (Nat.le_of_ble_eq_true rfl) rfl
  have c_token : ay_at hp 173 15 = some (ρ 2) := ay_gfj hE 702 60 11 173 15 (by decide) (ax_vlq rfl rfl) (ax_vlj rfl rfl)
  obtain ⟨-, -, -, -, -, F151⟩ : ay_ex hp 173 ∧ ay_ex hp 173 ∧ ay_ex hp 173 ∧ ay_ex hp 173 ∧ ay_ex hp 173 ∧ pz_y151 (ρ 0) (ρ 1) (ay_at hp 173 13) (ay_at hp 173 14) (ay_at hp 173 15) (ay_at hp 173 16) (ay_at hp 173 17) := (ax_XF_lt (x := 151) (Nat.le_of_ble_eq_true rfl)).mp (ax_gx hE (151, [3, 7]) (by decide))
  rw [c_token] at F151
  have F173 : pz7 (pz_gt (ρ 0)) (pz_gN (ρ 0)) ((ρ 1) / 4) 3 := (ax_XF_lt (x := 173) (Nat.le_of_ble_eq_true rfl)).mp (ax_gx hE (173, [3, 7]) (by decide))
  have F246 : py_y246 (pz_gt (ρ 0)) (pz_gN (ρ 0)) ((ρ 1) / 4) (5) (ρ 3) := (ax_XF_lt (x := 246) (Nat.le_of_ble_eq_true rfl)).mp (ax_gx hE (246, [3, 7, 5, 15]) (by decide))
  obtain ⟨-, -, F241⟩ : ay_ex hp 180 ∧ ay_ex hp 182 ∧ py_y241 0 (ρ 3) (ay_at hp 180 0) (ay_at hp 182) := (ax_XF_lt (x := 241) (Nat.le_of_ble_eq_true rfl)).mp (ax_gx hE (241, [15]) (by decide))
  have ht : ρ 2 / 4 = pz_tok (pz_kd (pz_gt (ρ 0)) (pz_gN (ρ 0)) (pz_p (pz_cf (pz_gt (ρ 0)) (pz_gN (ρ 0)) (ρ 1 / 4)))) := F151.2.2.1
  have hc := pz_tok_c (pz_kd (pz_gt (ρ 0)) (pz_gN (ρ 0)) (pz_p (pz_cf (pz_gt (ρ 0)) (pz_gN (ρ 0)) (ρ 1 / 4))))
  have hk : pz_kd (pz_gt (ρ 0)) (pz_gN (ρ 0)) (pz_p (pz_cf (pz_gt (ρ 0)) (pz_gN (ρ 0)) (ρ 1 / 4))) = 0 := (by rcases hc with h | h | h | h | h <;> omega)
  refine ⟨(fun y hy => by cases hy), _, List.mem_cons_self, ρ, fun _ _ => rfl, ax_px hE rfl (fun x hx => ?_)⟩
  cases List.mem_singleton.mp hx
  refine (ax_XF_lt (x := 262) (Nat.le_of_ble_eq_true rfl)).mpr ?_
  show py_82 (ρ 0) (ρ 3)
  exact pm_82 F173 (by decide) hk F246 F241.1

theorem axq1_nt1 : ax_RO ax_wM1 (ax_XM 1) axu1_nt1 := axqg_nt1 ax_WW1
theorem axq1_nt2 : ax_RO ax_wM1 (ax_XM 1) axu1_nt2 := by
  intro ρ hp hE hT
  have j0 : ρ 0 % 4 = 1 := pz_gj hE 0 (Nat.le_of_ble_eq_true rfl) rfl
  have c_ruled : ay_at hp 180 0 = some (0) := ay_gfj hE 730 0 0 180 0 ax_m1 (ax_vlq rfl rfl) (ax_vlj rfl rfl)
  have c_nodes : ay_at hp 175 0 = some (0) := ay_gfj hE 710 0 0 175 0 ax_m2 (ax_vlq rfl rfl) (ax_vlj rfl rfl)
  have c_links : ay_at hp 176 0 = some (0) := ay_gfj hE 714 0 0 176 0 ax_m3 (ax_vlq rfl rfl) (ax_vlj rfl rfl)
  have c_roots : ay_at hp 177 0 = some (0) := ay_gfj hE 718 0 0 177 0 ax_m4 (ax_vlq rfl rfl) (ax_vlj rfl rfl)
  have c_rooms : ay_at hp 178 0 = some (4) := ay_gfj hE 722 0 4 178 0 ax_m5 (ax_vlq rfl rfl) (ax_vlj rfl rfl)
  have c_units : ay_at hp 179 0 = some (0) := ay_gfj hE 726 0 0 179 0 ax_m6 (ax_vlq rfl rfl) (ax_vlj rfl rfl)
  have c_hasRoot : ay_at hp 173 23 = some (0) := ay_gfj hE 702 92 0 173 23 ax_m7 (ax_vlq rfl rfl) (ax_vlj rfl rfl)
  have c_hasRoom : ay_at hp 173 25 = some (0) := ay_gfj hE 702 100 0 173 25 ax_m8 (ax_vlq rfl rfl) (ax_vlj rfl rfl)
  have c_hasRank : ay_at hp 173 24 = some (0) := ay_gfj hE 702 96 0 173 24 ax_m9 (ax_vlq rfl rfl) (ax_vlj rfl rfl)
  have c_found : ay_at hp 173 18 = some (0) := ay_gfj hE 702 72 0 173 18 ax_m10 (ax_vlq rfl rfl) (ax_vlj rfl rfl)
  have c_foundAt : ay_at hp 173 19 = some (17179869180) := ay_gfj hE 702 76 17179869180 173 19 ax_m11 (ax_vlq rfl rfl) (ax_vlj rfl rfl)
  have c_next : ay_at hp 173 13 = some (0) := ay_gfj hE 702 52 0 173 13 ax_m12 (ax_vlq rfl rfl) (ax_vlj rfl rfl)
  obtain ⟨-, -, F131⟩ : ay_ex hp 173 ∧ ay_ex hp 183 ∧ pz_x30 (ρ 0) (ay_at hp 173 12) (ay_at hp 183) := (ax_XF_lt (x := 131) (Nat.le_of_ble_eq_true rfl)).mp (ax_gx hE (131, [3]) ax_m0)
  obtain ⟨ρ', h1, h2⟩ := pz_pn1 (K := 0) (xf := [(153, [3, 7]), (152, [3, 7]), (170, [3, 7]), (246, [3, 7, 5, 5]), (241, [5])]) hE (by decide) (fun ρ' h1 h2 x hx => by
    have q0 : ρ' 0 = ρ 0 := h1 0 (by decide)
    rcases List.mem_cons.mp hx with e | hx
    · subst e
      refine (ax_XF_lt (x := 153) (Nat.le_of_ble_eq_true rfl)).mpr ?_
      show ay_ex hp 173 ∧ pz_at (pz_gt (ρ' 0)) (pz_gN (ρ' 0)) (ay_ln (ay_at hp 173 13)) = pz_at (pz_gt (ρ' 0)) (pz_gN (ρ' 0)) (pz_p (pz_cF (ρ' 0) (ρ' 1)))
      rw [q0, h2]
      refine ⟨(ax_cellT hT (q := 173) (g := 11) (ax_wc ax_WW1 ax_cg_173)), ?_⟩
      rw [c_next]
      exact pz_l153 (pz_41 _) rfl
    rcases List.mem_cons.mp hx with e | hx
    · subst e
      refine (ax_XF_lt (x := 152) (Nat.le_of_ble_eq_true rfl)).mpr ?_
      show ay_ex hp 175 ∧ ay_ex hp 176 ∧ ay_ex hp 177 ∧ ay_ex hp 178 ∧ ay_ex hp 179 ∧ ay_ex hp 173 ∧ ay_ex hp 173 ∧ ay_ex hp 173 ∧ ay_ex hp 173 ∧ ay_ex hp 173 ∧ ay_ex hp 181 ∧ pz_y152 0 (ρ' 0) (ρ' 1) (ay_at hp 175 0) (ay_at hp 176 0) (ay_at hp 177 0) (ay_at hp 178 0) (ay_at hp 179 0) (ay_at hp 173 23) (ay_at hp 173 25) (ay_at hp 173 24) (ay_at hp 173 18) (ay_at hp 173 19) (ay_at hp 181)
      rw [q0, h2]
      refine ⟨(ax_cellT hT (q := 175) (g := 45) (ax_wc ax_WW1 ax_cg_175)), (ax_cellT hT (q := 176) (g := 46) (ax_wc ax_WW1 ax_cg_176)), (ax_cellT hT (q := 177) (g := 47) (ax_wc ax_WW1 ax_cg_177)), (ax_cellT hT (q := 178) (g := 48) (ax_wc ax_WW1 ax_cg_178)), (ax_cellT hT (q := 179) (g := 49) (ax_wc ax_WW1 ax_cg_179)), (ax_cellT hT (q := 173) (g := 11) (ax_wc ax_WW1 ax_cg_173)), (ax_cellT hT (q := 173) (g := 11) (ax_wc ax_WW1 ax_cg_173)), (ax_cellT hT (q := 173) (g := 11) (ax_wc ax_WW1 ax_cg_173)), (ax_cellT hT (q := 173) (g := 11) (ax_wc ax_WW1 ax_cg_173)), (ax_cellT hT (q := 173) (g := 11) (ax_wc ax_WW1 ax_cg_173)), (ax_cellT hT (q := 181) (g := 51) (ax_wc ax_WW1 ax_cg_181)), ?_⟩
      rw [c_nodes]
      rw [c_links]
      rw [c_roots]
      rw [c_rooms]
      rw [c_units]
      rw [c_hasRoot]
      rw [c_hasRoom]
      rw [c_hasRank]
      rw [c_found]
      rw [c_foundAt]
      exact pz_l152 (pz_41 _) pq_rt1.1.2
    rcases List.mem_cons.mp hx with e | hx
    · subst e
      refine (ax_XF_lt (x := 170) (Nat.le_of_ble_eq_true rfl)).mpr ?_
      show pz7 (pz_gt (ρ' 0)) (pz_gN (ρ' 0)) ((ρ' 1) / 4) 0
      rw [q0, h2]
      rw [pz_41]
      exact rfl
    rcases List.mem_cons.mp hx with e | hx
    · subst e
      refine (ax_XF_lt (x := 246) (Nat.le_of_ble_eq_true rfl)).mpr ?_
      show py_y246 (pz_gt (ρ' 0)) (pz_gN (ρ' 0)) ((ρ' 1) / 4) (5) (5)
      rw [q0, h2]
      rw [pz_41]
      exact rfl
    cases List.mem_singleton.mp hx
    refine (ax_XF_lt (x := 241) (Nat.le_of_ble_eq_true rfl)).mpr ?_
    show ay_ex hp 180 ∧ ay_ex hp 182 ∧ py_y241 0 (5) (ay_at hp 180 0) (ay_at hp 182)
    refine ⟨(ax_cellT hT (q := 180) (g := 50) (ax_wc ax_WW1 ax_cg_180)), (ax_cellT hT (q := 182) (g := 52) (ax_wc ax_WW1 ax_cg_182)), ?_⟩
    rw [c_ruled]
    exact pm_241_0 rfl)
  exact ⟨(fun y hy => by cases hy), _, List.mem_cons_self, ρ', h1, h2⟩

theorem axq1_nt3 : ax_RO ax_wM1 (ax_XM 1) axu1_nt3 := axqg_nt3 ax_WW1
theorem axq1_nt4 : ax_RO ax_wM1 (ax_XM 1) axu1_nt4 := by
  intro ρ hp hE hT
  have j0 : ρ 0 % 4 = 1 := pz_gj hE 0 (Nat.le_of_ble_eq_true rfl) rfl
  obtain ⟨i1a, i1b, i1c, i1d⟩ := pz_gi hE 1 0 4294967295 (Nat.le_of_ble_eq_true rfl) rfl
  obtain ⟨i2a, i2b, i2c, i2d⟩ := pz_gi hE 2 0 4294967295 (Nat.le_of_ble_eq_true rfl) rfl
  have c_found : ay_at hp 173 18 = some (ρ 1) := ay_gfj hE 702 72 7 173 18 (by decide) (ax_vlq rfl rfl) (ax_vlj rfl rfl)
  have c_foundAt : ay_at hp 173 19 = some (ρ 2) := ay_gfj hE 702 76 11 173 19 (by decide) (ax_vlq rfl rfl) (ax_vlj rfl rfl)
  have c_fault : ay_at hp 173 20 = some (ρ 1) := ay_gfj hE 702 80 7 173 20 (by decide) (ax_vlq rfl rfl) (ax_vlj rfl rfl)
  obtain ⟨-, -, -, -, -, -, -, -, -, -, -, F210⟩ : ay_ex hp 175 ∧ ay_ex hp 176 ∧ ay_ex hp 177 ∧ ay_ex hp 178 ∧ ay_ex hp 179 ∧ ay_ex hp 173 ∧ ay_ex hp 173 ∧ ay_ex hp 173 ∧ ay_ex hp 173 ∧ ay_ex hp 173 ∧ ay_ex hp 181 ∧ pz110 (pz_gt (ρ 0)) (pz_gN (ρ 0)) (ay_ln (ay_at hp 175 0)) (ay_ln (ay_at hp 176 0)) (ay_ln (ay_at hp 177 0)) (ay_ln (ay_at hp 178 0)) (ay_ln (ay_at hp 179 0)) (ay_ln (ay_at hp 173 23)) (ay_ln (ay_at hp 173 25)) (ay_ln (ay_at hp 173 24)) (ay_ln (ay_at hp 173 18)) (ay_ln (ay_at hp 173 19)) (pz_be 0 (ay_at hp 181)) (pz_fi 0 (ay_at hp 181)) := (ax_XF_lt (x := 210) (Nat.le_of_ble_eq_true rfl)).mp (ax_gx hE (210, [3]) (by decide))
  rw [c_found] at F210
  rw [c_foundAt] at F210
  refine ⟨(fun y hy => by cases hy), _, List.mem_cons_self, ρ, fun _ _ => rfl, ax_px hE rfl (fun x hx => ?_)⟩
  cases List.mem_singleton.mp hx
  refine (ax_XF_wr (x := 227) (Nat.le_of_ble_eq_true rfl)).mpr ?_
  show ay_ex (ax_upd hp 702 (84) (ρ 2)) 173 ∧ ay_ex (ax_upd hp 702 (84) (ρ 2)) 173 ∧ (ay_ln (ay_at (ax_upd hp 702 (84) (ρ 2)) 173 20) = 0 ∧ ay_ln (ay_at (ax_upd hp 702 (84) (ρ 2)) 173 21) = 4294967295)
  obtain ⟨o0, ho0⟩ := ay_some hT (q := 173) (g := 11) (n := 58) (ax_wc ax_WW1 ax_cg_173) (ax_wn ax_WW1 ax_cn_11) (j := 84 / 4) (Nat.le_of_ble_eq_true rfl)
  have u1 : ∀ q, q ≠ 173 → ay_at (ax_upd hp 702 84 (ρ 2)) q = ay_at hp q := fun q hq => funext (fun j => ay_upd_ne hT.1 hq j)
  have u2 : ∀ j, ay_at (ax_upd hp 702 84 (ρ 2)) 173 j = if j = 21 then some (ρ 2) else ay_at hp 173 j := fun j => ay_upd_eq hT.1 rfl ho0 j
  refine ⟨ay_ex_upd hT.1 (ax_cellT hT (q := 173) (g := 11) (ax_wc ax_WW1 ax_cg_173)), ay_ex_upd hT.1 (ax_cellT hT (q := 173) (g := 11) (ax_wc ax_WW1 ax_cg_173)), ?_⟩
  rw [u2 20, if_neg (show ¬ 20 = 21 from Nat.ne_of_beq_eq_false rfl), u2 21, if_pos rfl]
  rw [c_fault]
  obtain ⟨m, hm, hd⟩ := F210
  exact ⟨hd.2.2.2.2.2.2.2.2.1, hd.2.2.2.2.2.2.2.2.2.1⟩

theorem axq1_sc1 : ax_RO ax_wM1 (ax_XM 1) axu1_sc1 := axqg_sc1 ax_WW1
theorem axq1_sc2_32 : ax_RO ax_wM1 (ax_XM 1) axu1_sc2_32 := axqg_sc2_32 ax_WW1
theorem axq1_sc2_10 : ax_RO ax_wM1 (ax_XM 1) axu1_sc2_10 := axqg_sc2_10 ax_WW1
theorem axq1_sc3_e : ax_RO ax_wM1 (ax_XM 1) axu1_sc3_e := axqg_sc3_e ax_WW1
theorem axq1_sc3_a : ax_RO ax_wM1 (ax_XM 1) axu1_sc3_a := axqg_sc3_a ax_WW1
theorem axq1_sc3_b : ax_RO ax_wM1 (ax_XM 1) axu1_sc3_b := axqg_sc3_b ax_WW1
theorem axq1_sc3_c : ax_RO ax_wM1 (ax_XM 1) axu1_sc3_c := axqg_sc3_c ax_WW1
theorem axq1_sc4 : ax_RO ax_wM1 (ax_XM 1) axu1_sc4 := axqg_sc4 ax_WW1
theorem axq1_sc5 : ax_RO ax_wM1 (ax_XM 1) axu1_sc5 := axqg_sc5 ax_WW1
theorem axq1_sc6 : ax_RO ax_wM1 (ax_XM 1) axu1_sc6 := axqg_sc6 ax_WW1
theorem axq1_sc7_59 : ax_RO ax_wM1 (ax_XM 1) axu1_sc7_59 := axqg_sc7_59 ax_WW1
theorem axq1_sc7_40 : ax_RO ax_wM1 (ax_XM 1) axu1_sc7_40 := axqg_sc7_40 ax_WW1
theorem axq1_sc7_41 : ax_RO ax_wM1 (ax_XM 1) axu1_sc7_41 := axqg_sc7_41 ax_WW1
theorem axq1_sc7_43 : ax_RO ax_wM1 (ax_XM 1) axu1_sc7_43 := axqg_sc7_43 ax_WW1
theorem axq1_sc7_45 : ax_RO ax_wM1 (ax_XM 1) axu1_sc7_45 := axqg_sc7_45 ax_WW1
theorem axq1_sc7_42 : ax_RO ax_wM1 (ax_XM 1) axu1_sc7_42 := axqg_sc7_42 ax_WW1
end
section
theorem axq1_sc7_47 : ax_RO ax_wM1 (ax_XM 1) axu1_sc7_47 := axqg_sc7_47 ax_WW1
theorem axq1_sc7_37 : ax_RO ax_wM1 (ax_XM 1) axu1_sc7_37 := axqg_sc7_37 ax_WW1
theorem axq1_sc8_a : ax_RO ax_wM1 (ax_XM 1) axu1_sc8_a := axqg_sc8_a ax_WW1
theorem axq1_sc8_b : ax_RO ax_wM1 (ax_XM 1) axu1_sc8_b := axqg_sc8_b ax_WW1
theorem axq1_sc8_c : ax_RO ax_wM1 (ax_XM 1) axu1_sc8_c := axqg_sc8_c ax_WW1
theorem axq1_sc8_d : ax_RO ax_wM1 (ax_XM 1) axu1_sc8_d := axqg_sc8_d ax_WW1
theorem axq1_sc8_e : ax_RO ax_wM1 (ax_XM 1) axu1_sc8_e := axqg_sc8_e ax_WW1
theorem axq1_sc8_f : ax_RO ax_wM1 (ax_XM 1) axu1_sc8_f := axqg_sc8_f ax_WW1
theorem axq1_sc8_g : ax_RO ax_wM1 (ax_XM 1) axu1_sc8_g := axqg_sc8_g ax_WW1
theorem axq1_sw1 : ax_RO ax_wM1 (ax_XM 1) axu1_sw1 := axqg_sw1 ax_WW1
theorem axq1_sw2 : ax_RO ax_wM1 (ax_XM 1) axu1_sw2 := axqg_sw2 ax_WW1
theorem axq1_sw3_e : ax_RO ax_wM1 (ax_XM 1) axu1_sw3_e := axqg_sw3_e ax_WW1
theorem axq1_sw3_a : ax_RO ax_wM1 (ax_XM 1) axu1_sw3_a := axqg_sw3_a ax_WW1
theorem axq1_sw3_b : ax_RO ax_wM1 (ax_XM 1) axu1_sw3_b := axqg_sw3_b ax_WW1
theorem axq1_sw4 : ax_RO ax_wM1 (ax_XM 1) axu1_sw4 := axqg_sw4 ax_WW1
theorem axq1_sw5_0 : ax_RO ax_wM1 (ax_XM 1) axu1_sw5_0 := axqg_sw5_0 ax_WW1
theorem axq1_sw6_0 : ax_RO ax_wM1 (ax_XM 1) axu1_sw6_0 := axqg_sw6_0 ax_WW1
theorem axq1_sw5_1 : ax_RO ax_wM1 (ax_XM 1) axu1_sw5_1 := axqg_sw5_1 ax_WW1
theorem axq1_sw6_1 : ax_RO ax_wM1 (ax_XM 1) axu1_sw6_1 := axqg_sw6_1 ax_WW1
theorem axq1_sw5_2 : ax_RO ax_wM1 (ax_XM 1) axu1_sw5_2 := axqg_sw5_2 ax_WW1
theorem axq1_sw6_2 : ax_RO ax_wM1 (ax_XM 1) axu1_sw6_2 := axqg_sw6_2 ax_WW1
theorem axq1_sw5_3 : ax_RO ax_wM1 (ax_XM 1) axu1_sw5_3 := axqg_sw5_3 ax_WW1
theorem axq1_sw6_3 : ax_RO ax_wM1 (ax_XM 1) axu1_sw6_3 := axqg_sw6_3 ax_WW1
theorem axq1_sw5_4 : ax_RO ax_wM1 (ax_XM 1) axu1_sw5_4 := axqg_sw5_4 ax_WW1
theorem axq1_sw6_4 : ax_RO ax_wM1 (ax_XM 1) axu1_sw6_4 := axqg_sw6_4 ax_WW1
theorem axq1_sw5_5 : ax_RO ax_wM1 (ax_XM 1) axu1_sw5_5 := axqg_sw5_5 ax_WW1
theorem axq1_sw6_5 : ax_RO ax_wM1 (ax_XM 1) axu1_sw6_5 := axqg_sw6_5 ax_WW1
theorem axq1_sw5_6 : ax_RO ax_wM1 (ax_XM 1) axu1_sw5_6 := axqg_sw5_6 ax_WW1
theorem axq1_sw6_6 : ax_RO ax_wM1 (ax_XM 1) axu1_sw6_6 := axqg_sw6_6 ax_WW1
theorem axq1_sw5_7 : ax_RO ax_wM1 (ax_XM 1) axu1_sw5_7 := axqg_sw5_7 ax_WW1
theorem axq1_sw6_7 : ax_RO ax_wM1 (ax_XM 1) axu1_sw6_7 := axqg_sw6_7 ax_WW1
theorem axq1_sw7 : ax_RO ax_wM1 (ax_XM 1) axu1_sw7 := axqg_sw7 ax_WW1
theorem axq1_is1a_0 : ax_RO ax_wM1 (ax_XM 1) axu1_is1a_0 := axqg_is1a_0 ax_WW1
theorem axq1_is1b_0 : ax_RO ax_wM1 (ax_XM 1) axu1_is1b_0 := axqg_is1b_0 ax_WW1
theorem axq1_is2_0 : ax_RO ax_wM1 (ax_XM 1) axu1_is2_0 := axqg_is2_0 ax_WW1
theorem axq1_is3_0_0 : ax_RO ax_wM1 (ax_XM 1) axu1_is3_0_0 := axqg_is3_0_0 ax_WW1
theorem axq1_is4a_0_0 : ax_RO ax_wM1 (ax_XM 1) axu1_is4a_0_0 := axqg_is4a_0_0 ax_WW1
theorem axq1_is4b_0_0 : ax_RO ax_wM1 (ax_XM 1) axu1_is4b_0_0 := axqg_is4b_0_0 ax_WW1
theorem axq1_is3_0_1 : ax_RO ax_wM1 (ax_XM 1) axu1_is3_0_1 := axqg_is3_0_1 ax_WW1
theorem axq1_is4a_0_1 : ax_RO ax_wM1 (ax_XM 1) axu1_is4a_0_1 := axqg_is4a_0_1 ax_WW1
theorem axq1_is4b_0_1 : ax_RO ax_wM1 (ax_XM 1) axu1_is4b_0_1 := axqg_is4b_0_1 ax_WW1
theorem axq1_is3_0_2 : ax_RO ax_wM1 (ax_XM 1) axu1_is3_0_2 := axqg_is3_0_2 ax_WW1
theorem axq1_is4a_0_2 : ax_RO ax_wM1 (ax_XM 1) axu1_is4a_0_2 := axqg_is4a_0_2 ax_WW1
theorem axq1_is4b_0_2 : ax_RO ax_wM1 (ax_XM 1) axu1_is4b_0_2 := axqg_is4b_0_2 ax_WW1
theorem axq1_is3_0_3 : ax_RO ax_wM1 (ax_XM 1) axu1_is3_0_3 := axqg_is3_0_3 ax_WW1
theorem axq1_is4a_0_3 : ax_RO ax_wM1 (ax_XM 1) axu1_is4a_0_3 := axqg_is4a_0_3 ax_WW1
theorem axq1_is4b_0_3 : ax_RO ax_wM1 (ax_XM 1) axu1_is4b_0_3 := axqg_is4b_0_3 ax_WW1
theorem axq1_is3_0_4 : ax_RO ax_wM1 (ax_XM 1) axu1_is3_0_4 := axqg_is3_0_4 ax_WW1
theorem axq1_is4a_0_4 : ax_RO ax_wM1 (ax_XM 1) axu1_is4a_0_4 := axqg_is4a_0_4 ax_WW1
theorem axq1_is4b_0_4 : ax_RO ax_wM1 (ax_XM 1) axu1_is4b_0_4 := axqg_is4b_0_4 ax_WW1
theorem axq1_is3_0_5 : ax_RO ax_wM1 (ax_XM 1) axu1_is3_0_5 := axqg_is3_0_5 ax_WW1
theorem axq1_is4a_0_5 : ax_RO ax_wM1 (ax_XM 1) axu1_is4a_0_5 := axqg_is4a_0_5 ax_WW1
theorem axq1_is4b_0_5 : ax_RO ax_wM1 (ax_XM 1) axu1_is4b_0_5 := axqg_is4b_0_5 ax_WW1
theorem axq1_is3_0_6 : ax_RO ax_wM1 (ax_XM 1) axu1_is3_0_6 := axqg_is3_0_6 ax_WW1
theorem axq1_is4a_0_6 : ax_RO ax_wM1 (ax_XM 1) axu1_is4a_0_6 := axqg_is4a_0_6 ax_WW1
theorem axq1_is4b_0_6 : ax_RO ax_wM1 (ax_XM 1) axu1_is4b_0_6 := axqg_is4b_0_6 ax_WW1
theorem axq1_is3_0_7 : ax_RO ax_wM1 (ax_XM 1) axu1_is3_0_7 := axqg_is3_0_7 ax_WW1
theorem axq1_is4a_0_7 : ax_RO ax_wM1 (ax_XM 1) axu1_is4a_0_7 := axqg_is4a_0_7 ax_WW1
theorem axq1_is4b_0_7 : ax_RO ax_wM1 (ax_XM 1) axu1_is4b_0_7 := axqg_is4b_0_7 ax_WW1
theorem axq1_is5_0 : ax_RO ax_wM1 (ax_XM 1) axu1_is5_0 := axqg_is5_0 ax_WW1
theorem axq1_is1a_1 : ax_RO ax_wM1 (ax_XM 1) axu1_is1a_1 := axqg_is1a_1 ax_WW1
theorem axq1_is1b_1 : ax_RO ax_wM1 (ax_XM 1) axu1_is1b_1 := axqg_is1b_1 ax_WW1
theorem axq1_is2_1 : ax_RO ax_wM1 (ax_XM 1) axu1_is2_1 := axqg_is2_1 ax_WW1
theorem axq1_is3_1_0 : ax_RO ax_wM1 (ax_XM 1) axu1_is3_1_0 := axqg_is3_1_0 ax_WW1
theorem axq1_is4a_1_0 : ax_RO ax_wM1 (ax_XM 1) axu1_is4a_1_0 := axqg_is4a_1_0 ax_WW1
theorem axq1_is4b_1_0 : ax_RO ax_wM1 (ax_XM 1) axu1_is4b_1_0 := axqg_is4b_1_0 ax_WW1
theorem axq1_is3_1_1 : ax_RO ax_wM1 (ax_XM 1) axu1_is3_1_1 := axqg_is3_1_1 ax_WW1
theorem axq1_is4a_1_1 : ax_RO ax_wM1 (ax_XM 1) axu1_is4a_1_1 := axqg_is4a_1_1 ax_WW1
theorem axq1_is4b_1_1 : ax_RO ax_wM1 (ax_XM 1) axu1_is4b_1_1 := axqg_is4b_1_1 ax_WW1
theorem axq1_is3_1_2 : ax_RO ax_wM1 (ax_XM 1) axu1_is3_1_2 := axqg_is3_1_2 ax_WW1
theorem axq1_is4a_1_2 : ax_RO ax_wM1 (ax_XM 1) axu1_is4a_1_2 := axqg_is4a_1_2 ax_WW1
theorem axq1_is4b_1_2 : ax_RO ax_wM1 (ax_XM 1) axu1_is4b_1_2 := axqg_is4b_1_2 ax_WW1
theorem axq1_is3_1_3 : ax_RO ax_wM1 (ax_XM 1) axu1_is3_1_3 := axqg_is3_1_3 ax_WW1
theorem axq1_is4a_1_3 : ax_RO ax_wM1 (ax_XM 1) axu1_is4a_1_3 := axqg_is4a_1_3 ax_WW1
theorem axq1_is4b_1_3 : ax_RO ax_wM1 (ax_XM 1) axu1_is4b_1_3 := axqg_is4b_1_3 ax_WW1
end
section
theorem axq1_is5_1 : ax_RO ax_wM1 (ax_XM 1) axu1_is5_1 := axqg_is5_1 ax_WW1
theorem axq1_is1a_2 : ax_RO ax_wM1 (ax_XM 1) axu1_is1a_2 := axqg_is1a_2 ax_WW1
theorem axq1_is1b_2 : ax_RO ax_wM1 (ax_XM 1) axu1_is1b_2 := axqg_is1b_2 ax_WW1
theorem axq1_is2_2 : ax_RO ax_wM1 (ax_XM 1) axu1_is2_2 := axqg_is2_2 ax_WW1
theorem axq1_is3_2_0 : ax_RO ax_wM1 (ax_XM 1) axu1_is3_2_0 := axqg_is3_2_0 ax_WW1
theorem axq1_is4a_2_0 : ax_RO ax_wM1 (ax_XM 1) axu1_is4a_2_0 := axqg_is4a_2_0 ax_WW1
theorem axq1_is4b_2_0 : ax_RO ax_wM1 (ax_XM 1) axu1_is4b_2_0 := axqg_is4b_2_0 ax_WW1
theorem axq1_is3_2_1 : ax_RO ax_wM1 (ax_XM 1) axu1_is3_2_1 := axqg_is3_2_1 ax_WW1
theorem axq1_is4a_2_1 : ax_RO ax_wM1 (ax_XM 1) axu1_is4a_2_1 := axqg_is4a_2_1 ax_WW1
theorem axq1_is4b_2_1 : ax_RO ax_wM1 (ax_XM 1) axu1_is4b_2_1 := axqg_is4b_2_1 ax_WW1
theorem axq1_is3_2_2 : ax_RO ax_wM1 (ax_XM 1) axu1_is3_2_2 := axqg_is3_2_2 ax_WW1
theorem axq1_is4a_2_2 : ax_RO ax_wM1 (ax_XM 1) axu1_is4a_2_2 := axqg_is4a_2_2 ax_WW1
theorem axq1_is4b_2_2 : ax_RO ax_wM1 (ax_XM 1) axu1_is4b_2_2 := axqg_is4b_2_2 ax_WW1
theorem axq1_is3_2_3 : ax_RO ax_wM1 (ax_XM 1) axu1_is3_2_3 := axqg_is3_2_3 ax_WW1
theorem axq1_is4a_2_3 : ax_RO ax_wM1 (ax_XM 1) axu1_is4a_2_3 := axqg_is4a_2_3 ax_WW1
theorem axq1_is4b_2_3 : ax_RO ax_wM1 (ax_XM 1) axu1_is4b_2_3 := axqg_is4b_2_3 ax_WW1
theorem axq1_is5_2 : ax_RO ax_wM1 (ax_XM 1) axu1_is5_2 := axqg_is5_2 ax_WW1
theorem axq1_is1a_3 : ax_RO ax_wM1 (ax_XM 1) axu1_is1a_3 := axqg_is1a_3 ax_WW1
theorem axq1_is1b_3 : ax_RO ax_wM1 (ax_XM 1) axu1_is1b_3 := axqg_is1b_3 ax_WW1
theorem axq1_is2_3 : ax_RO ax_wM1 (ax_XM 1) axu1_is2_3 := axqg_is2_3 ax_WW1
theorem axq1_is3_3_0 : ax_RO ax_wM1 (ax_XM 1) axu1_is3_3_0 := axqg_is3_3_0 ax_WW1
theorem axq1_is4a_3_0 : ax_RO ax_wM1 (ax_XM 1) axu1_is4a_3_0 := axqg_is4a_3_0 ax_WW1
theorem axq1_is4b_3_0 : ax_RO ax_wM1 (ax_XM 1) axu1_is4b_3_0 := axqg_is4b_3_0 ax_WW1
theorem axq1_is3_3_1 : ax_RO ax_wM1 (ax_XM 1) axu1_is3_3_1 := axqg_is3_3_1 ax_WW1
theorem axq1_is4a_3_1 : ax_RO ax_wM1 (ax_XM 1) axu1_is4a_3_1 := axqg_is4a_3_1 ax_WW1
theorem axq1_is4b_3_1 : ax_RO ax_wM1 (ax_XM 1) axu1_is4b_3_1 := axqg_is4b_3_1 ax_WW1
theorem axq1_is3_3_2 : ax_RO ax_wM1 (ax_XM 1) axu1_is3_3_2 := axqg_is3_3_2 ax_WW1
theorem axq1_is4a_3_2 : ax_RO ax_wM1 (ax_XM 1) axu1_is4a_3_2 := axqg_is4a_3_2 ax_WW1
theorem axq1_is4b_3_2 : ax_RO ax_wM1 (ax_XM 1) axu1_is4b_3_2 := axqg_is4b_3_2 ax_WW1
theorem axq1_is3_3_3 : ax_RO ax_wM1 (ax_XM 1) axu1_is3_3_3 := axqg_is3_3_3 ax_WW1
theorem axq1_is4a_3_3 : ax_RO ax_wM1 (ax_XM 1) axu1_is4a_3_3 := axqg_is4a_3_3 ax_WW1
theorem axq1_is4b_3_3 : ax_RO ax_wM1 (ax_XM 1) axu1_is4b_3_3 := axqg_is4b_3_3 ax_WW1
theorem axq1_is5_3 : ax_RO ax_wM1 (ax_XM 1) axu1_is5_3 := axqg_is5_3 ax_WW1
theorem axq1_is1a_4 : ax_RO ax_wM1 (ax_XM 1) axu1_is1a_4 := axqg_is1a_4 ax_WW1
theorem axq1_is1b_4 : ax_RO ax_wM1 (ax_XM 1) axu1_is1b_4 := axqg_is1b_4 ax_WW1
theorem axq1_is2_4 : ax_RO ax_wM1 (ax_XM 1) axu1_is2_4 := axqg_is2_4 ax_WW1
theorem axq1_is3_4_0 : ax_RO ax_wM1 (ax_XM 1) axu1_is3_4_0 := axqg_is3_4_0 ax_WW1
theorem axq1_is4a_4_0 : ax_RO ax_wM1 (ax_XM 1) axu1_is4a_4_0 := axqg_is4a_4_0 ax_WW1
theorem axq1_is4b_4_0 : ax_RO ax_wM1 (ax_XM 1) axu1_is4b_4_0 := axqg_is4b_4_0 ax_WW1
theorem axq1_is3_4_1 : ax_RO ax_wM1 (ax_XM 1) axu1_is3_4_1 := axqg_is3_4_1 ax_WW1
theorem axq1_is4a_4_1 : ax_RO ax_wM1 (ax_XM 1) axu1_is4a_4_1 := axqg_is4a_4_1 ax_WW1
theorem axq1_is4b_4_1 : ax_RO ax_wM1 (ax_XM 1) axu1_is4b_4_1 := axqg_is4b_4_1 ax_WW1
theorem axq1_is3_4_2 : ax_RO ax_wM1 (ax_XM 1) axu1_is3_4_2 := axqg_is3_4_2 ax_WW1
theorem axq1_is4a_4_2 : ax_RO ax_wM1 (ax_XM 1) axu1_is4a_4_2 := axqg_is4a_4_2 ax_WW1
theorem axq1_is4b_4_2 : ax_RO ax_wM1 (ax_XM 1) axu1_is4b_4_2 := axqg_is4b_4_2 ax_WW1
theorem axq1_is3_4_3 : ax_RO ax_wM1 (ax_XM 1) axu1_is3_4_3 := axqg_is3_4_3 ax_WW1
theorem axq1_is4a_4_3 : ax_RO ax_wM1 (ax_XM 1) axu1_is4a_4_3 := axqg_is4a_4_3 ax_WW1
theorem axq1_is4b_4_3 : ax_RO ax_wM1 (ax_XM 1) axu1_is4b_4_3 := axqg_is4b_4_3 ax_WW1
theorem axq1_is5_4 : ax_RO ax_wM1 (ax_XM 1) axu1_is5_4 := axqg_is5_4 ax_WW1
theorem axq1_is1a_5 : ax_RO ax_wM1 (ax_XM 1) axu1_is1a_5 := axqg_is1a_5 ax_WW1
theorem axq1_is1b_5 : ax_RO ax_wM1 (ax_XM 1) axu1_is1b_5 := axqg_is1b_5 ax_WW1
theorem axq1_is2_5 : ax_RO ax_wM1 (ax_XM 1) axu1_is2_5 := axqg_is2_5 ax_WW1
theorem axq1_is3_5_0 : ax_RO ax_wM1 (ax_XM 1) axu1_is3_5_0 := axqg_is3_5_0 ax_WW1
theorem axq1_is4a_5_0 : ax_RO ax_wM1 (ax_XM 1) axu1_is4a_5_0 := axqg_is4a_5_0 ax_WW1
theorem axq1_is4b_5_0 : ax_RO ax_wM1 (ax_XM 1) axu1_is4b_5_0 := axqg_is4b_5_0 ax_WW1
theorem axq1_is3_5_1 : ax_RO ax_wM1 (ax_XM 1) axu1_is3_5_1 := axqg_is3_5_1 ax_WW1
theorem axq1_is4a_5_1 : ax_RO ax_wM1 (ax_XM 1) axu1_is4a_5_1 := axqg_is4a_5_1 ax_WW1
theorem axq1_is4b_5_1 : ax_RO ax_wM1 (ax_XM 1) axu1_is4b_5_1 := axqg_is4b_5_1 ax_WW1
theorem axq1_is3_5_2 : ax_RO ax_wM1 (ax_XM 1) axu1_is3_5_2 := axqg_is3_5_2 ax_WW1
theorem axq1_is4a_5_2 : ax_RO ax_wM1 (ax_XM 1) axu1_is4a_5_2 := axqg_is4a_5_2 ax_WW1
theorem axq1_is4b_5_2 : ax_RO ax_wM1 (ax_XM 1) axu1_is4b_5_2 := axqg_is4b_5_2 ax_WW1
theorem axq1_is5_5 : ax_RO ax_wM1 (ax_XM 1) axu1_is5_5 := axqg_is5_5 ax_WW1
theorem axq1_is1a_6 : ax_RO ax_wM1 (ax_XM 1) axu1_is1a_6 := axqg_is1a_6 ax_WW1
theorem axq1_is1b_6 : ax_RO ax_wM1 (ax_XM 1) axu1_is1b_6 := axqg_is1b_6 ax_WW1
theorem axq1_is2_6 : ax_RO ax_wM1 (ax_XM 1) axu1_is2_6 := axqg_is2_6 ax_WW1
theorem axq1_is3_6_0 : ax_RO ax_wM1 (ax_XM 1) axu1_is3_6_0 := axqg_is3_6_0 ax_WW1
theorem axq1_is4a_6_0 : ax_RO ax_wM1 (ax_XM 1) axu1_is4a_6_0 := axqg_is4a_6_0 ax_WW1
theorem axq1_is4b_6_0 : ax_RO ax_wM1 (ax_XM 1) axu1_is4b_6_0 := axqg_is4b_6_0 ax_WW1
theorem axq1_is3_6_1 : ax_RO ax_wM1 (ax_XM 1) axu1_is3_6_1 := axqg_is3_6_1 ax_WW1
theorem axq1_is4a_6_1 : ax_RO ax_wM1 (ax_XM 1) axu1_is4a_6_1 := axqg_is4a_6_1 ax_WW1
theorem axq1_is4b_6_1 : ax_RO ax_wM1 (ax_XM 1) axu1_is4b_6_1 := axqg_is4b_6_1 ax_WW1
theorem axq1_is3_6_2 : ax_RO ax_wM1 (ax_XM 1) axu1_is3_6_2 := axqg_is3_6_2 ax_WW1
theorem axq1_is4a_6_2 : ax_RO ax_wM1 (ax_XM 1) axu1_is4a_6_2 := axqg_is4a_6_2 ax_WW1
theorem axq1_is4b_6_2 : ax_RO ax_wM1 (ax_XM 1) axu1_is4b_6_2 := axqg_is4b_6_2 ax_WW1
theorem axq1_is3_6_3 : ax_RO ax_wM1 (ax_XM 1) axu1_is3_6_3 := axqg_is3_6_3 ax_WW1
end
section
theorem axq1_is4a_6_3 : ax_RO ax_wM1 (ax_XM 1) axu1_is4a_6_3 := axqg_is4a_6_3 ax_WW1
theorem axq1_is4b_6_3 : ax_RO ax_wM1 (ax_XM 1) axu1_is4b_6_3 := axqg_is4b_6_3 ax_WW1
theorem axq1_is3_6_4 : ax_RO ax_wM1 (ax_XM 1) axu1_is3_6_4 := axqg_is3_6_4 ax_WW1
theorem axq1_is4a_6_4 : ax_RO ax_wM1 (ax_XM 1) axu1_is4a_6_4 := axqg_is4a_6_4 ax_WW1
theorem axq1_is4b_6_4 : ax_RO ax_wM1 (ax_XM 1) axu1_is4b_6_4 := axqg_is4b_6_4 ax_WW1
theorem axq1_is3_6_5 : ax_RO ax_wM1 (ax_XM 1) axu1_is3_6_5 := axqg_is3_6_5 ax_WW1
theorem axq1_is4a_6_5 : ax_RO ax_wM1 (ax_XM 1) axu1_is4a_6_5 := axqg_is4a_6_5 ax_WW1
theorem axq1_is4b_6_5 : ax_RO ax_wM1 (ax_XM 1) axu1_is4b_6_5 := axqg_is4b_6_5 ax_WW1
theorem axq1_is5_6 : ax_RO ax_wM1 (ax_XM 1) axu1_is5_6 := axqg_is5_6 ax_WW1
theorem axq1_is1a_7 : ax_RO ax_wM1 (ax_XM 1) axu1_is1a_7 := axqg_is1a_7 ax_WW1
theorem axq1_is1b_7 : ax_RO ax_wM1 (ax_XM 1) axu1_is1b_7 := axqg_is1b_7 ax_WW1
theorem axq1_is2_7 : ax_RO ax_wM1 (ax_XM 1) axu1_is2_7 := axqg_is2_7 ax_WW1
theorem axq1_is3_7_0 : ax_RO ax_wM1 (ax_XM 1) axu1_is3_7_0 := axqg_is3_7_0 ax_WW1
theorem axq1_is4a_7_0 : ax_RO ax_wM1 (ax_XM 1) axu1_is4a_7_0 := axqg_is4a_7_0 ax_WW1
theorem axq1_is4b_7_0 : ax_RO ax_wM1 (ax_XM 1) axu1_is4b_7_0 := axqg_is4b_7_0 ax_WW1
theorem axq1_is3_7_1 : ax_RO ax_wM1 (ax_XM 1) axu1_is3_7_1 := axqg_is3_7_1 ax_WW1
theorem axq1_is4a_7_1 : ax_RO ax_wM1 (ax_XM 1) axu1_is4a_7_1 := axqg_is4a_7_1 ax_WW1
theorem axq1_is4b_7_1 : ax_RO ax_wM1 (ax_XM 1) axu1_is4b_7_1 := axqg_is4b_7_1 ax_WW1
theorem axq1_is3_7_2 : ax_RO ax_wM1 (ax_XM 1) axu1_is3_7_2 := axqg_is3_7_2 ax_WW1
theorem axq1_is4a_7_2 : ax_RO ax_wM1 (ax_XM 1) axu1_is4a_7_2 := axqg_is4a_7_2 ax_WW1
theorem axq1_is4b_7_2 : ax_RO ax_wM1 (ax_XM 1) axu1_is4b_7_2 := axqg_is4b_7_2 ax_WW1
theorem axq1_is3_7_3 : ax_RO ax_wM1 (ax_XM 1) axu1_is3_7_3 := axqg_is3_7_3 ax_WW1
theorem axq1_is4a_7_3 : ax_RO ax_wM1 (ax_XM 1) axu1_is4a_7_3 := axqg_is4a_7_3 ax_WW1
theorem axq1_is4b_7_3 : ax_RO ax_wM1 (ax_XM 1) axu1_is4b_7_3 := axqg_is4b_7_3 ax_WW1
theorem axq1_is3_7_4 : ax_RO ax_wM1 (ax_XM 1) axu1_is3_7_4 := axqg_is3_7_4 ax_WW1
theorem axq1_is4a_7_4 : ax_RO ax_wM1 (ax_XM 1) axu1_is4a_7_4 := axqg_is4a_7_4 ax_WW1
theorem axq1_is4b_7_4 : ax_RO ax_wM1 (ax_XM 1) axu1_is4b_7_4 := axqg_is4b_7_4 ax_WW1
theorem axq1_is5_7 : ax_RO ax_wM1 (ax_XM 1) axu1_is5_7 := axqg_is5_7 ax_WW1
theorem axq1_sn1 : ax_RO ax_wM1 (ax_XM 1) axu1_sn1 := axqg_sn1 ax_WW1
theorem axq1_sn2 : ax_RO ax_wM1 (ax_XM 1) axu1_sn2 := axqg_sn2 ax_WW1
theorem axq1_sn3 : ax_RO ax_wM1 (ax_XM 1) axu1_sn3 := axqg_sn3 ax_WW1
theorem axq1_sn3z : ax_RO ax_wM1 (ax_XM 1) axu1_sn3z := axqg_sn3z ax_WW1
theorem axq1_sn4 : ax_RO ax_wM1 (ax_XM 1) axu1_sn4 := axqg_sn4 ax_WW1
theorem axq1_sn5_e : ax_RO ax_wM1 (ax_XM 1) axu1_sn5_e := axqg_sn5_e ax_WW1
theorem axq1_sn5_a : ax_RO ax_wM1 (ax_XM 1) axu1_sn5_a := axqg_sn5_a ax_WW1
theorem axq1_sn5_b : ax_RO ax_wM1 (ax_XM 1) axu1_sn5_b := axqg_sn5_b ax_WW1
theorem axq1_ia1_59 : ax_RO ax_wM1 (ax_XM 1) axu1_ia1_59 := axqg_ia1_59 ax_WW1
theorem axq1_ia2a_59 : ax_RO ax_wM1 (ax_XM 1) axu1_ia2a_59 := axqg_ia2a_59 ax_WW1
theorem axq1_ia2b_59 : ax_RO ax_wM1 (ax_XM 1) axu1_ia2b_59 := axqg_ia2b_59 ax_WW1
theorem axq1_ia3a_59 : ax_RO ax_wM1 (ax_XM 1) axu1_ia3a_59 := axqg_ia3a_59 ax_WW1
theorem axq1_ia3b_59 : ax_RO ax_wM1 (ax_XM 1) axu1_ia3b_59 := axqg_ia3b_59 ax_WW1
theorem axq1_ia4_59 : ax_RO ax_wM1 (ax_XM 1) axu1_ia4_59 := axqg_ia4_59 ax_WW1
theorem axq1_ia1_40 : ax_RO ax_wM1 (ax_XM 1) axu1_ia1_40 := axqg_ia1_40 ax_WW1
theorem axq1_ia2a_40 : ax_RO ax_wM1 (ax_XM 1) axu1_ia2a_40 := axqg_ia2a_40 ax_WW1
theorem axq1_ia2b_40 : ax_RO ax_wM1 (ax_XM 1) axu1_ia2b_40 := axqg_ia2b_40 ax_WW1
theorem axq1_ia3a_40 : ax_RO ax_wM1 (ax_XM 1) axu1_ia3a_40 := axqg_ia3a_40 ax_WW1
theorem axq1_ia3b_40 : ax_RO ax_wM1 (ax_XM 1) axu1_ia3b_40 := axqg_ia3b_40 ax_WW1
theorem axq1_ia4_40 : ax_RO ax_wM1 (ax_XM 1) axu1_ia4_40 := axqg_ia4_40 ax_WW1
theorem axq1_ia1_41 : ax_RO ax_wM1 (ax_XM 1) axu1_ia1_41 := axqg_ia1_41 ax_WW1
theorem axq1_ia2a_41 : ax_RO ax_wM1 (ax_XM 1) axu1_ia2a_41 := axqg_ia2a_41 ax_WW1
theorem axq1_ia2b_41 : ax_RO ax_wM1 (ax_XM 1) axu1_ia2b_41 := axqg_ia2b_41 ax_WW1
theorem axq1_ia3a_41 : ax_RO ax_wM1 (ax_XM 1) axu1_ia3a_41 := axqg_ia3a_41 ax_WW1
theorem axq1_ia3b_41 : ax_RO ax_wM1 (ax_XM 1) axu1_ia3b_41 := axqg_ia3b_41 ax_WW1
theorem axq1_ia4_41 : ax_RO ax_wM1 (ax_XM 1) axu1_ia4_41 := axqg_ia4_41 ax_WW1
theorem axq1_ia1_43 : ax_RO ax_wM1 (ax_XM 1) axu1_ia1_43 := axqg_ia1_43 ax_WW1
theorem axq1_ia2a_43 : ax_RO ax_wM1 (ax_XM 1) axu1_ia2a_43 := axqg_ia2a_43 ax_WW1
theorem axq1_ia2b_43 : ax_RO ax_wM1 (ax_XM 1) axu1_ia2b_43 := axqg_ia2b_43 ax_WW1
theorem axq1_ia3a_43 : ax_RO ax_wM1 (ax_XM 1) axu1_ia3a_43 := axqg_ia3a_43 ax_WW1
theorem axq1_ia3b_43 : ax_RO ax_wM1 (ax_XM 1) axu1_ia3b_43 := axqg_ia3b_43 ax_WW1
theorem axq1_ia4_43 : ax_RO ax_wM1 (ax_XM 1) axu1_ia4_43 := axqg_ia4_43 ax_WW1
theorem axq1_ia1_45 : ax_RO ax_wM1 (ax_XM 1) axu1_ia1_45 := axqg_ia1_45 ax_WW1
theorem axq1_ia2a_45 : ax_RO ax_wM1 (ax_XM 1) axu1_ia2a_45 := axqg_ia2a_45 ax_WW1
theorem axq1_ia2b_45 : ax_RO ax_wM1 (ax_XM 1) axu1_ia2b_45 := axqg_ia2b_45 ax_WW1
theorem axq1_ia3a_45 : ax_RO ax_wM1 (ax_XM 1) axu1_ia3a_45 := axqg_ia3a_45 ax_WW1
theorem axq1_ia3b_45 : ax_RO ax_wM1 (ax_XM 1) axu1_ia3b_45 := axqg_ia3b_45 ax_WW1
theorem axq1_ia4_45 : ax_RO ax_wM1 (ax_XM 1) axu1_ia4_45 := axqg_ia4_45 ax_WW1
theorem axq1_ia1_42 : ax_RO ax_wM1 (ax_XM 1) axu1_ia1_42 := axqg_ia1_42 ax_WW1
theorem axq1_ia2a_42 : ax_RO ax_wM1 (ax_XM 1) axu1_ia2a_42 := axqg_ia2a_42 ax_WW1
theorem axq1_ia2b_42 : ax_RO ax_wM1 (ax_XM 1) axu1_ia2b_42 := axqg_ia2b_42 ax_WW1
theorem axq1_ia3a_42 : ax_RO ax_wM1 (ax_XM 1) axu1_ia3a_42 := axqg_ia3a_42 ax_WW1
theorem axq1_ia3b_42 : ax_RO ax_wM1 (ax_XM 1) axu1_ia3b_42 := axqg_ia3b_42 ax_WW1
theorem axq1_ia4_42 : ax_RO ax_wM1 (ax_XM 1) axu1_ia4_42 := axqg_ia4_42 ax_WW1
theorem axq1_ia1_47 : ax_RO ax_wM1 (ax_XM 1) axu1_ia1_47 := axqg_ia1_47 ax_WW1
theorem axq1_ia2a_47 : ax_RO ax_wM1 (ax_XM 1) axu1_ia2a_47 := axqg_ia2a_47 ax_WW1
theorem axq1_ia2b_47 : ax_RO ax_wM1 (ax_XM 1) axu1_ia2b_47 := axqg_ia2b_47 ax_WW1
end
