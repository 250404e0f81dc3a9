section
theorem axqg_sgkeepAct {w : ax_W} {b : Nat} (hw : ax_WW w) : ax_RO w (ax_XM b) axu0_sgkeepAct := by
  exact ax_ro_sg
theorem axq0_sgkeepAct : ax_RO ax_wM0 (ax_XM 0) axu0_sgkeepAct := axqg_sgkeepAct ax_WW0
theorem axqg_sgback {w : ax_W} {b : Nat} (hw : ax_WW w) : ax_RO w (ax_XM b) axu0_sgback := by
  exact ax_ro_sg
theorem axq0_sgback : ax_RO ax_wM0 (ax_XM 0) axu0_sgback := axqg_sgback ax_WW0
theorem axqg_sgswapAll {w : ax_W} {b : Nat} (hw : ax_WW w) : ax_RO w (ax_XM b) axu0_sgswapAll := by
  exact ax_ro_sg
theorem axq0_sgswapAll : ax_RO ax_wM0 (ax_XM 0) axu0_sgswapAll := axqg_sgswapAll ax_WW0
theorem axqg_sgimage {w : ax_W} {b : Nat} (hw : ax_WW w) : ax_RO w (ax_XM b) axu0_sgimage := by
  exact ax_ro_sg
theorem axq0_sgimage : ax_RO ax_wM0 (ax_XM 0) axu0_sgimage := axqg_sgimage ax_WW0
theorem axqg_sgputAside {w : ax_W} {b : Nat} (hw : ax_WW w) : ax_RO w (ax_XM b) axu0_sgputAside := by
  exact ax_ro_sg
theorem axq0_sgputAside : ax_RO ax_wM0 (ax_XM 0) axu0_sgputAside := axqg_sgputAside ax_WW0
theorem axqg_sgbringBack {w : ax_W} {b : Nat} (hw : ax_WW w) : ax_RO w (ax_XM b) axu0_sgbringBack := by
  exact ax_ro_sg
theorem axq0_sgbringBack : ax_RO ax_wM0 (ax_XM 0) axu0_sgbringBack := axqg_sgbringBack ax_WW0
theorem axqg_fm1_1 {w : ax_W} {b : Nat} (hw : ax_WW w) : ax_RO w (ax_XM b) axu0_fm1_1 := by
  intro ρ hp hE hT
  have j0 : ρ 0 % 4 = 1 := pz_gj hE 0 (Nat.le_of_ble_eq_true rfl) rfl
  have j1 : ρ 1 % 4 = 1 := pz_gj hE 1 (Nat.le_of_ble_eq_true rfl) rfl
  obtain ⟨-, -, -, -, -, F151⟩ : ay_ex hp 173 ∧ ay_ex hp 173 ∧ ay_ex hp 173 ∧ ay_ex hp 173 ∧ ay_ex hp 173 ∧ pz_y151 (ρ 0) (ρ 1) (ay_at hp 173 13) (ay_at hp 173 14) (ay_at hp 173 15) (ay_at hp 173 16) (ay_at hp 173 17) := (ax_XF_lt (x := 151) (Nat.le_of_ble_eq_true rfl)).mp (ax_gx hE (151, [3, 7]) ax_m0)
  have F164 : pz64 (pz_gt (ρ 0)) (pz_gN (ρ 0)) ((ρ 1) / 4) ((4) / 4) := (ax_XF_lt (x := 164) (Nat.le_of_ble_eq_true rfl)).mp (ax_gx hE (164, [3, 7, 4]) ax_m1)
  refine ⟨(fun y hy => by cases hy), _, List.mem_cons_self, ρ, fun _ _ => rfl, ax_px hE rfl (fun x hx => ?_)⟩
  cases List.mem_singleton.mp hx
  refine (ax_XF_wr (x := 165) (Nat.le_of_ble_eq_true rfl)).mpr ?_
  show ay_ex (ax_upd hp 702 (72) (4)) 173 ∧ ay_ex (ax_upd hp 702 (72) (4)) 173 ∧ pz_y165 (ρ 0) (ρ 1) (4) (ay_at (ax_upd hp 702 (72) (4)) 173 14) (ay_at (ax_upd hp 702 (72) (4)) 173 18)
  obtain ⟨o0, ho0⟩ := ay_some hT (q := 173) (g := 11) (n := 58) (ax_wc hw ax_cg_173) (ax_wn hw ax_cn_11) (j := 72 / 4) (Nat.le_of_ble_eq_true rfl)
  have u1 : ∀ q, q ≠ 173 → ay_at (ax_upd hp 702 72 (4)) q = ay_at hp q := fun q hq => funext (fun j => ay_upd_ne hT.1 hq j)
  have u2 : ∀ j, ay_at (ax_upd hp 702 72 (4)) 173 j = if j = 18 then some (4) else ay_at hp 173 j := fun j => ay_upd_eq hT.1 rfl ho0 j
  refine ⟨ay_ex_upd hT.1 (ax_cellT hT (q := 173) (g := 11) (ax_wc hw ax_cg_173)), ay_ex_upd hT.1 (ax_cellT hT (q := 173) (g := 11) (ax_wc hw ax_cg_173)), ?_⟩
  rw [u2 14, if_neg (show ¬ 14 = 18 from Nat.ne_of_beq_eq_false rfl), u2 18, if_pos rfl]
  exact ⟨F164, rfl, F151.2.1⟩
theorem axq0_fm1_1 : ax_RO ax_wM0 (ax_XM 0) axu0_fm1_1 := axqg_fm1_1 ax_WW0
theorem axqg_fm2_1 {w : ax_W} {b : Nat} (hw : ax_WW w) : ax_RO w (ax_XM b) axu0_fm2_1 := by
  intro ρ hp hE hT
  have j0 : ρ 0 % 4 = 1 := pz_gj hE 0 (Nat.le_of_ble_eq_true rfl) rfl
  have j1 : ρ 1 % 4 = 1 := pz_gj hE 1 (Nat.le_of_ble_eq_true rfl) rfl
  obtain ⟨i2a, i2b, i2c, i2d⟩ := pz_gi hE 2 2147483648 2147484448 (Nat.le_of_ble_eq_true rfl) rfl
  have c_at : ay_at hp 173 14 = some (ρ 2) := ay_gfj hE 702 56 11 173 14 ax_m1 (ax_vlq rfl rfl) (ax_vlj rfl rfl)
  obtain ⟨-, -, F165⟩ : ay_ex hp 173 ∧ ay_ex hp 173 ∧ pz_y165 (ρ 0) (ρ 1) (4) (ay_at hp 173 14) (ay_at hp 173 18) := (ax_XF_lt (x := 165) (Nat.le_of_ble_eq_true rfl)).mp (ax_gx hE (165, [3, 7, 4]) ax_m0)
  rw [c_at] at F165
  have e := pq_fl2 F165.1
  have e2 : ρ 2 / 4 = pz_at (pz_gt (ρ 0)) (pz_gN (ρ 0)) (pz_p (pz_cf (pz_gt (ρ 0)) (pz_gN (ρ 0)) (ρ 1 / 4))) := F165.2.2
  have e3 : ay_ln (ay_at hp 173 18) = 1 := F165.2.1
  refine ⟨(fun y hy => by cases hy), _, List.mem_cons_self, ρ, fun _ _ => rfl, ax_px hE rfl (fun x hx => ?_)⟩
  cases List.mem_singleton.mp hx
  refine (ax_XF_wr (x := 163) (Nat.le_of_ble_eq_true rfl)).mpr ?_
  show ay_ex (ax_upd hp 702 (76) (ρ 2)) 173 ∧ ay_ex (ax_upd hp 702 (76) (ρ 2)) 173 ∧ pz63 (pz_gt (ρ 0)) (pz_gN (ρ 0)) (ay_ln (ay_at (ax_upd hp 702 (76) (ρ 2)) 173 18)) (ay_ln (ay_at (ax_upd hp 702 (76) (ρ 2)) 173 19))
  obtain ⟨o0, ho0⟩ := ay_some hT (q := 173) (g := 11) (n := 58) (ax_wc hw ax_cg_173) (ax_wn hw ax_cn_11) (j := 76 / 4) (Nat.le_of_ble_eq_true rfl)
  have u1 : ∀ q, q ≠ 173 → ay_at (ax_upd hp 702 76 (ρ 2)) q = ay_at hp q := fun q hq => funext (fun j => ay_upd_ne hT.1 hq j)
  have u2 : ∀ j, ay_at (ax_upd hp 702 76 (ρ 2)) 173 j = if j = 19 then some (ρ 2) else ay_at hp 173 j := fun j => ay_upd_eq hT.1 rfl ho0 j
  refine ⟨ay_ex_upd hT.1 (ax_cellT hT (q := 173) (g := 11) (ax_wc hw ax_cg_173)), ay_ex_upd hT.1 (ax_cellT hT (q := 173) (g := 11) (ax_wc hw ax_cg_173)), ?_⟩
  rw [u2 18, if_neg (show ¬ 18 = 19 from Nat.ne_of_beq_eq_false rfl), u2 19, if_pos rfl]
  show pz63 _ _ (ay_ln (ay_at hp 173 18)) (ρ 2 / 4)
  rw [e3, e2]
  exact e
theorem axq0_fm2_1 : ax_RO ax_wM0 (ax_XM 0) axu0_fm2_1 := axqg_fm2_1 ax_WW0
theorem axqg_fm1_2 {w : ax_W} {b : Nat} (hw : ax_WW w) : ax_RO w (ax_XM b) axu0_fm1_2 := by
  intro ρ hp hE hT
  have j0 : ρ 0 % 4 = 1 := pz_gj hE 0 (Nat.le_of_ble_eq_true rfl) rfl
  have j1 : ρ 1 % 4 = 1 := pz_gj hE 1 (Nat.le_of_ble_eq_true rfl) rfl
  obtain ⟨-, -, -, -, -, F151⟩ : ay_ex hp 173 ∧ ay_ex hp 173 ∧ ay_ex hp 173 ∧ ay_ex hp 173 ∧ ay_ex hp 173 ∧ pz_y151 (ρ 0) (ρ 1) (ay_at hp 173 13) (ay_at hp 173 14) (ay_at hp 173 15) (ay_at hp 173 16) (ay_at hp 173 17) := (ax_XF_lt (x := 151) (Nat.le_of_ble_eq_true rfl)).mp (ax_gx hE (151, [3, 7]) ax_m0)
  have F164 : pz64 (pz_gt (ρ 0)) (pz_gN (ρ 0)) ((ρ 1) / 4) ((8) / 4) := (ax_XF_lt (x := 164) (Nat.le_of_ble_eq_true rfl)).mp (ax_gx hE (164, [3, 7, 8]) ax_m1)
  refine ⟨(fun y hy => by cases hy), _, List.mem_cons_self, ρ, fun _ _ => rfl, ax_px hE rfl (fun x hx => ?_)⟩
  cases List.mem_singleton.mp hx
  refine (ax_XF_wr (x := 165) (Nat.le_of_ble_eq_true rfl)).mpr ?_
  show ay_ex (ax_upd hp 702 (72) (8)) 173 ∧ ay_ex (ax_upd hp 702 (72) (8)) 173 ∧ pz_y165 (ρ 0) (ρ 1) (8) (ay_at (ax_upd hp 702 (72) (8)) 173 14) (ay_at (ax_upd hp 702 (72) (8)) 173 18)
  obtain ⟨o0, ho0⟩ := ay_some hT (q := 173) (g := 11) (n := 58) (ax_wc hw ax_cg_173) (ax_wn hw ax_cn_11) (j := 72 / 4) (Nat.le_of_ble_eq_true rfl)
  have u1 : ∀ q, q ≠ 173 → ay_at (ax_upd hp 702 72 (8)) q = ay_at hp q := fun q hq => funext (fun j => ay_upd_ne hT.1 hq j)
  have u2 : ∀ j, ay_at (ax_upd hp 702 72 (8)) 173 j = if j = 18 then some (8) else ay_at hp 173 j := fun j => ay_upd_eq hT.1 rfl ho0 j
  refine ⟨ay_ex_upd hT.1 (ax_cellT hT (q := 173) (g := 11) (ax_wc hw ax_cg_173)), ay_ex_upd hT.1 (ax_cellT hT (q := 173) (g := 11) (ax_wc hw ax_cg_173)), ?_⟩
  rw [u2 14, if_neg (show ¬ 14 = 18 from Nat.ne_of_beq_eq_false rfl), u2 18, if_pos rfl]
  exact ⟨F164, rfl, F151.2.1⟩
theorem axq0_fm1_2 : ax_RO ax_wM0 (ax_XM 0) axu0_fm1_2 := axqg_fm1_2 ax_WW0
theorem axqg_fm2_2 {w : ax_W} {b : Nat} (hw : ax_WW w) : ax_RO w (ax_XM b) axu0_fm2_2 := by
  intro ρ hp hE hT
  have j0 : ρ 0 % 4 = 1 := pz_gj hE 0 (Nat.le_of_ble_eq_true rfl) rfl
  have j1 : ρ 1 % 4 = 1 := pz_gj hE 1 (Nat.le_of_ble_eq_true rfl) rfl
  obtain ⟨i2a, i2b, i2c, i2d⟩ := pz_gi hE 2 2147483648 2147484448 (Nat.le_of_ble_eq_true rfl) rfl
  have c_at : ay_at hp 173 14 = some (ρ 2) := ay_gfj hE 702 56 11 173 14 ax_m1 (ax_vlq rfl rfl) (ax_vlj rfl rfl)
  obtain ⟨-, -, F165⟩ : ay_ex hp 173 ∧ ay_ex hp 173 ∧ pz_y165 (ρ 0) (ρ 1) (8) (ay_at hp 173 14) (ay_at hp 173 18) := (ax_XF_lt (x := 165) (Nat.le_of_ble_eq_true rfl)).mp (ax_gx hE (165, [3, 7, 8]) ax_m0)
  rw [c_at] at F165
  have e := pq_fl2 F165.1
  have e2 : ρ 2 / 4 = pz_at (pz_gt (ρ 0)) (pz_gN (ρ 0)) (pz_p (pz_cf (pz_gt (ρ 0)) (pz_gN (ρ 0)) (ρ 1 / 4))) := F165.2.2
  have e3 : ay_ln (ay_at hp 173 18) = 2 := F165.2.1
  refine ⟨(fun y hy => by cases hy), _, List.mem_cons_self, ρ, fun _ _ => rfl, ax_px hE rfl (fun x hx => ?_)⟩
  cases List.mem_singleton.mp hx
  refine (ax_XF_wr (x := 163) (Nat.le_of_ble_eq_true rfl)).mpr ?_
  show ay_ex (ax_upd hp 702 (76) (ρ 2)) 173 ∧ ay_ex (ax_upd hp 702 (76) (ρ 2)) 173 ∧ pz63 (pz_gt (ρ 0)) (pz_gN (ρ 0)) (ay_ln (ay_at (ax_upd hp 702 (76) (ρ 2)) 173 18)) (ay_ln (ay_at (ax_upd hp 702 (76) (ρ 2)) 173 19))
  obtain ⟨o0, ho0⟩ := ay_some hT (q := 173) (g := 11) (n := 58) (ax_wc hw ax_cg_173) (ax_wn hw ax_cn_11) (j := 76 / 4) (Nat.le_of_ble_eq_true rfl)
  have u1 : ∀ q, q ≠ 173 → ay_at (ax_upd hp 702 76 (ρ 2)) q = ay_at hp q := fun q hq => funext (fun j => ay_upd_ne hT.1 hq j)
  have u2 : ∀ j, ay_at (ax_upd hp 702 76 (ρ 2)) 173 j = if j = 19 then some (ρ 2) else ay_at hp 173 j := fun j => ay_upd_eq hT.1 rfl ho0 j
  refine ⟨ay_ex_upd hT.1 (ax_cellT hT (q := 173) (g := 11) (ax_wc hw ax_cg_173)), ay_ex_upd hT.1 (ax_cellT hT (q := 173) (g := 11) (ax_wc hw ax_cg_173)), ?_⟩
  rw [u2 18, if_neg (show ¬ 18 = 19 from Nat.ne_of_beq_eq_false rfl), u2 19, if_pos rfl]
  show pz63 _ _ (ay_ln (ay_at hp 173 18)) (ρ 2 / 4)
  rw [e3, e2]
  exact e
theorem axq0_fm2_2 : ax_RO ax_wM0 (ax_XM 0) axu0_fm2_2 := axqg_fm2_2 ax_WW0
theorem axqg_fm1_3 {w : ax_W} {b : Nat} (hw : ax_WW w) : ax_RO w (ax_XM b) axu0_fm1_3 := by
  intro ρ hp hE hT
  have j0 : ρ 0 % 4 = 1 := pz_gj hE 0 (Nat.le_of_ble_eq_true rfl) rfl
  have j1 : ρ 1 % 4 = 1 := pz_gj hE 1 (Nat.le_of_ble_eq_true rfl) rfl
  obtain ⟨-, -, -, -, -, F151⟩ : ay_ex hp 173 ∧ ay_ex hp 173 ∧ ay_ex hp 173 ∧ ay_ex hp 173 ∧ ay_ex hp 173 ∧ pz_y151 (ρ 0) (ρ 1) (ay_at hp 173 13) (ay_at hp 173 14) (ay_at hp 173 15) (ay_at hp 173 16) (ay_at hp 173 17) := (ax_XF_lt (x := 151) (Nat.le_of_ble_eq_true rfl)).mp (ax_gx hE (151, [3, 7]) ax_m0)
  have F164 : pz64 (pz_gt (ρ 0)) (pz_gN (ρ 0)) ((ρ 1) / 4) ((12) / 4) := (ax_XF_lt (x := 164) (Nat.le_of_ble_eq_true rfl)).mp (ax_gx hE (164, [3, 7, 12]) ax_m1)
  refine ⟨(fun y hy => by cases hy), _, List.mem_cons_self, ρ, fun _ _ => rfl, ax_px hE rfl (fun x hx => ?_)⟩
  cases List.mem_singleton.mp hx
  refine (ax_XF_wr (x := 165) (Nat.le_of_ble_eq_true rfl)).mpr ?_
  show ay_ex (ax_upd hp 702 (72) (12)) 173 ∧ ay_ex (ax_upd hp 702 (72) (12)) 173 ∧ pz_y165 (ρ 0) (ρ 1) (12) (ay_at (ax_upd hp 702 (72) (12)) 173 14) (ay_at (ax_upd hp 702 (72) (12)) 173 18)
  obtain ⟨o0, ho0⟩ := ay_some hT (q := 173) (g := 11) (n := 58) (ax_wc hw ax_cg_173) (ax_wn hw ax_cn_11) (j := 72 / 4) (Nat.le_of_ble_eq_true rfl)
  have u1 : ∀ q, q ≠ 173 → ay_at (ax_upd hp 702 72 (12)) q = ay_at hp q := fun q hq => funext (fun j => ay_upd_ne hT.1 hq j)
  have u2 : ∀ j, ay_at (ax_upd hp 702 72 (12)) 173 j = if j = 18 then some (12) else ay_at hp 173 j := fun j => ay_upd_eq hT.1 rfl ho0 j
  refine ⟨ay_ex_upd hT.1 (ax_cellT hT (q := 173) (g := 11) (ax_wc hw ax_cg_173)), ay_ex_upd hT.1 (ax_cellT hT (q := 173) (g := 11) (ax_wc hw ax_cg_173)), ?_⟩
  rw [u2 14, if_neg (show ¬ 14 = 18 from Nat.ne_of_beq_eq_false rfl), u2 18, if_pos rfl]
  exact ⟨F164, rfl, F151.2.1⟩
theorem axq0_fm1_3 : ax_RO ax_wM0 (ax_XM 0) axu0_fm1_3 := axqg_fm1_3 ax_WW0
theorem axqg_fm2_3 {w : ax_W} {b : Nat} (hw : ax_WW w) : ax_RO w (ax_XM b) axu0_fm2_3 := by
  intro ρ hp hE hT
  have j0 : ρ 0 % 4 = 1 := pz_gj hE 0 (Nat.le_of_ble_eq_true rfl) rfl
  have j1 : ρ 1 % 4 = 1 := pz_gj hE 1 (Nat.le_of_ble_eq_true rfl) rfl
  obtain ⟨i2a, i2b, i2c, i2d⟩ := pz_gi hE 2 2147483648 2147484448 (Nat.le_of_ble_eq_true rfl) rfl
  have c_at : ay_at hp 173 14 = some (ρ 2) := ay_gfj hE 702 56 11 173 14 ax_m1 (ax_vlq rfl rfl) (ax_vlj rfl rfl)
  obtain ⟨-, -, F165⟩ : ay_ex hp 173 ∧ ay_ex hp 173 ∧ pz_y165 (ρ 0) (ρ 1) (12) (ay_at hp 173 14) (ay_at hp 173 18) := (ax_XF_lt (x := 165) (Nat.le_of_ble_eq_true rfl)).mp (ax_gx hE (165, [3, 7, 12]) ax_m0)
  rw [c_at] at F165
  have e := pq_fl2 F165.1
  have e2 : ρ 2 / 4 = pz_at (pz_gt (ρ 0)) (pz_gN (ρ 0)) (pz_p (pz_cf (pz_gt (ρ 0)) (pz_gN (ρ 0)) (ρ 1 / 4))) := F165.2.2
  have e3 : ay_ln (ay_at hp 173 18) = 3 := F165.2.1
  refine ⟨(fun y hy => by cases hy), _, List.mem_cons_self, ρ, fun _ _ => rfl, ax_px hE rfl (fun x hx => ?_)⟩
  cases List.mem_singleton.mp hx
  refine (ax_XF_wr (x := 163) (Nat.le_of_ble_eq_true rfl)).mpr ?_
  show ay_ex (ax_upd hp 702 (76) (ρ 2)) 173 ∧ ay_ex (ax_upd hp 702 (76) (ρ 2)) 173 ∧ pz63 (pz_gt (ρ 0)) (pz_gN (ρ 0)) (ay_ln (ay_at (ax_upd hp 702 (76) (ρ 2)) 173 18)) (ay_ln (ay_at (ax_upd hp 702 (76) (ρ 2)) 173 19))
  obtain ⟨o0, ho0⟩ := ay_some hT (q := 173) (g := 11) (n := 58) (ax_wc hw ax_cg_173) (ax_wn hw ax_cn_11) (j := 76 / 4) (Nat.le_of_ble_eq_true rfl)
  have u1 : ∀ q, q ≠ 173 → ay_at (ax_upd hp 702 76 (ρ 2)) q = ay_at hp q := fun q hq => funext (fun j => ay_upd_ne hT.1 hq j)
  have u2 : ∀ j, ay_at (ax_upd hp 702 76 (ρ 2)) 173 j = if j = 19 then some (ρ 2) else ay_at hp 173 j := fun j => ay_upd_eq hT.1 rfl ho0 j
  refine ⟨ay_ex_upd hT.1 (ax_cellT hT (q := 173) (g := 11) (ax_wc hw ax_cg_173)), ay_ex_upd hT.1 (ax_cellT hT (q := 173) (g := 11) (ax_wc hw ax_cg_173)), ?_⟩
  rw [u2 18, if_neg (show ¬ 18 = 19 from Nat.ne_of_beq_eq_false rfl), u2 19, if_pos rfl]
  show pz63 _ _ (ay_ln (ay_at hp 173 18)) (ρ 2 / 4)
  rw [e3, e2]
  exact e
theorem axq0_fm2_3 : ax_RO ax_wM0 (ax_XM 0) axu0_fm2_3 := axqg_fm2_3 ax_WW0
theorem axqg_fm1_4 {w : ax_W} {b : Nat} (hw : ax_WW w) : ax_RO w (ax_XM b) axu0_fm1_4 := by
  intro ρ hp hE hT
  have j0 : ρ 0 % 4 = 1 := pz_gj hE 0 (Nat.le_of_ble_eq_true rfl) rfl
  have j1 : ρ 1 % 4 = 1 := pz_gj hE 1 (Nat.le_of_ble_eq_true rfl) rfl
  obtain ⟨-, -, -, -, -, F151⟩ : ay_ex hp 173 ∧ ay_ex hp 173 ∧ ay_ex hp 173 ∧ ay_ex hp 173 ∧ ay_ex hp 173 ∧ pz_y151 (ρ 0) (ρ 1) (ay_at hp 173 13) (ay_at hp 173 14) (ay_at hp 173 15) (ay_at hp 173 16) (ay_at hp 173 17) := (ax_XF_lt (x := 151) (Nat.le_of_ble_eq_true rfl)).mp (ax_gx hE (151, [3, 7]) ax_m0)
  have F164 : pz64 (pz_gt (ρ 0)) (pz_gN (ρ 0)) ((ρ 1) / 4) ((16) / 4) := (ax_XF_lt (x := 164) (Nat.le_of_ble_eq_true rfl)).mp (ax_gx hE (164, [3, 7, 16]) ax_m1)
  refine ⟨(fun y hy => by cases hy), _, List.mem_cons_self, ρ, fun _ _ => rfl, ax_px hE rfl (fun x hx => ?_)⟩
  cases List.mem_singleton.mp hx
  refine (ax_XF_wr (x := 165) (Nat.le_of_ble_eq_true rfl)).mpr ?_
  show ay_ex (ax_upd hp 702 (72) (16)) 173 ∧ ay_ex (ax_upd hp 702 (72) (16)) 173 ∧ pz_y165 (ρ 0) (ρ 1) (16) (ay_at (ax_upd hp 702 (72) (16)) 173 14) (ay_at (ax_upd hp 702 (72) (16)) 173 18)
  obtain ⟨o0, ho0⟩ := ay_some hT (q := 173) (g := 11) (n := 58) (ax_wc hw ax_cg_173) (ax_wn hw ax_cn_11) (j := 72 / 4) (Nat.le_of_ble_eq_true rfl)
  have u1 : ∀ q, q ≠ 173 → ay_at (ax_upd hp 702 72 (16)) q = ay_at hp q := fun q hq => funext (fun j => ay_upd_ne hT.1 hq j)
  have u2 : ∀ j, ay_at (ax_upd hp 702 72 (16)) 173 j = if j = 18 then some (16) else ay_at hp 173 j := fun j => ay_upd_eq hT.1 rfl ho0 j
  refine ⟨ay_ex_upd hT.1 (ax_cellT hT (q := 173) (g := 11) (ax_wc hw ax_cg_173)), ay_ex_upd hT.1 (ax_cellT hT (q := 173) (g := 11) (ax_wc hw ax_cg_173)), ?_⟩
  rw [u2 14, if_neg (show ¬ 14 = 18 from Nat.ne_of_beq_eq_false rfl), u2 18, if_pos rfl]
  exact ⟨F164, rfl, F151.2.1⟩
theorem axq0_fm1_4 : ax_RO ax_wM0 (ax_XM 0) axu0_fm1_4 := axqg_fm1_4 ax_WW0
theorem axqg_fm2_4 {w : ax_W} {b : Nat} (hw : ax_WW w) : ax_RO w (ax_XM b) axu0_fm2_4 := by
  intro ρ hp hE hT
  have j0 : ρ 0 % 4 = 1 := pz_gj hE 0 (Nat.le_of_ble_eq_true rfl) rfl
  have j1 : ρ 1 % 4 = 1 := pz_gj hE 1 (Nat.le_of_ble_eq_true rfl) rfl
  obtain ⟨i2a, i2b, i2c, i2d⟩ := pz_gi hE 2 2147483648 2147484448 (Nat.le_of_ble_eq_true rfl) rfl
  have c_at : ay_at hp 173 14 = some (ρ 2) := ay_gfj hE 702 56 11 173 14 ax_m1 (ax_vlq rfl rfl) (ax_vlj rfl rfl)
  obtain ⟨-, -, F165⟩ : ay_ex hp 173 ∧ ay_ex hp 173 ∧ pz_y165 (ρ 0) (ρ 1) (16) (ay_at hp 173 14) (ay_at hp 173 18) := (ax_XF_lt (x := 165) (Nat.le_of_ble_eq_true rfl)).mp (ax_gx hE (165, [3, 7, 16]) ax_m0)
  rw [c_at] at F165
  have e := pq_fl2 F165.1
  have e2 : ρ 2 / 4 = pz_at (pz_gt (ρ 0)) (pz_gN (ρ 0)) (pz_p (pz_cf (pz_gt (ρ 0)) (pz_gN (ρ 0)) (ρ 1 / 4))) := F165.2.2
  have e3 : ay_ln (ay_at hp 173 18) = 4 := F165.2.1
  refine ⟨(fun y hy => by cases hy), _, List.mem_cons_self, ρ, fun _ _ => rfl, ax_px hE rfl (fun x hx => ?_)⟩
  cases List.mem_singleton.mp hx
  refine (ax_XF_wr (x := 163) (Nat.le_of_ble_eq_true rfl)).mpr ?_
  show ay_ex (ax_upd hp 702 (76) (ρ 2)) 173 ∧ ay_ex (ax_upd hp 702 (76) (ρ 2)) 173 ∧ pz63 (pz_gt (ρ 0)) (pz_gN (ρ 0)) (ay_ln (ay_at (ax_upd hp 702 (76) (ρ 2)) 173 18)) (ay_ln (ay_at (ax_upd hp 702 (76) (ρ 2)) 173 19))
  obtain ⟨o0, ho0⟩ := ay_some hT (q := 173) (g := 11) (n := 58) (ax_wc hw ax_cg_173) (ax_wn hw ax_cn_11) (j := 76 / 4) (Nat.le_of_ble_eq_true rfl)
  have u1 : ∀ q, q ≠ 173 → ay_at (ax_upd hp 702 76 (ρ 2)) q = ay_at hp q := fun q hq => funext (fun j => ay_upd_ne hT.1 hq j)
  have u2 : ∀ j, ay_at (ax_upd hp 702 76 (ρ 2)) 173 j = if j = 19 then some (ρ 2) else ay_at hp 173 j := fun j => ay_upd_eq hT.1 rfl ho0 j
  refine ⟨ay_ex_upd hT.1 (ax_cellT hT (q := 173) (g := 11) (ax_wc hw ax_cg_173)), ay_ex_upd hT.1 (ax_cellT hT (q := 173) (g := 11) (ax_wc hw ax_cg_173)), ?_⟩
  rw [u2 18, if_neg (show ¬ 18 = 19 from Nat.ne_of_beq_eq_false rfl), u2 19, if_pos rfl]
  show pz63 _ _ (ay_ln (ay_at hp 173 18)) (ρ 2 / 4)
  rw [e3, e2]
  exact e
theorem axq0_fm2_4 : ax_RO ax_wM0 (ax_XM 0) axu0_fm2_4 := axqg_fm2_4 ax_WW0
theorem axq0_co1y : ax_RO ax_wM0 (ax_XM 0) axu0_co1y := by
  intro ρ hp hE hT
  have j0 : ρ 0 % 4 = 1 := pz_gj hE 0 (Nat.le_of_ble_eq_true rfl) rfl
  obtain ⟨i1a, i1b, i1c, i1d⟩ := pz_gi hE 1 0 4294967295 (Nat.le_of_ble_eq_true rfl) rfl
  obtain ⟨i2a, i2b, i2c, i2d⟩ := pz_gi hE 2 2147483648 2147483847 (Nat.le_of_ble_eq_true rfl) rfl
  obtain ⟨i3a, i3b, i3c, i3d⟩ := pz_gi hE 3 2147483648 2147483747 (Nat.le_of_ble_eq_true rfl) rfl
  have c_ruled : ay_at hp 180 1 = some (ρ 3) := ay_gfj hE 730 4 15 180 1 ax_m1 (ax_vlq rfl rfl) (ax_vlj rfl rfl)
  have s1 : (400 / 4 + 2147483648) % 4294967296 + (ρ 3 / 4 + 2147483648) % 4294967296 = (ρ 2 / 4 + 2147483648) % 4294967296 + 2147483648 := pz_gs hE 400 15 11 ax_m2
  obtain ⟨-, -, F241⟩ : ay_ex hp 180 ∧ ay_ex hp 182 ∧ py_y241 1 (ρ 0) (ay_at hp 180 1) (ay_at hp 182) := (ax_XF_lt (x := 241) (Nat.le_of_ble_eq_true rfl)).mp (ax_gx hE (241, [3]) ax_m0)
  rw [c_ruled] at F241
  refine ⟨(fun y hy => by cases hy), _, List.mem_cons_self, ρ, fun _ _ => rfl, ax_px hE rfl (fun x hx => ?_)⟩
  cases List.mem_singleton.mp hx
  refine (ax_XF_wr (x := 243) (Nat.le_of_ble_eq_true rfl)).mpr ?_
  show ay_ex (ax_upd hp 738 (ρ 2) (ρ 1)) 180 ∧ ay_ex (ax_upd hp 738 (ρ 2) (ρ 1)) 182 ∧ py_y243 1 (ρ 0) (ρ 1) (ay_at (ax_upd hp 738 (ρ 2) (ρ 1)) 180 1) (ay_at (ax_upd hp 738 (ρ 2) (ρ 1)) 182)
  obtain ⟨o0, ho0⟩ := ay_some hT (q := 182) (g := 52) (n := 200) ax_cg_182 ax_cn_52 (j := ρ 2 / 4) (by omega)
  have u1 : ∀ q, q ≠ 182 → ay_at (ax_upd hp 738 (ρ 2) (ρ 1)) q = ay_at hp q := fun q hq => funext (fun j => ay_upd_ne hT.1 hq j)
  have u2 : ∀ j, ay_at (ax_upd hp 738 (ρ 2) (ρ 1)) 182 j = if j = ρ 2 / 4 then some (ρ 1) else ay_at hp 182 j := fun j => ay_upd_eq hT.1 rfl ho0 j
  refine ⟨ay_ex_upd hT.1 (ax_cellT hT (q := 180) (g := 50) ax_cg_180), ay_ex_upd hT.1 (ax_cellT hT (q := 182) (g := 52) ax_cg_182), ?_⟩
  rw [u1 180 (Nat.ne_of_beq_eq_false rfl)]
  rw [c_ruled]
  have ez : ρ 3 / 4 = (py_L (ρ 0 / 4)).length := F241.2.1
  refine ⟨⟨F241.1, F241.2.1, fun i c hc => ?_⟩, ?_⟩
  · have hi := (List.getElem?_eq_some_iff.mp hc).1
    rw [List.length_reverse] at hi
    rw [u2, if_neg (by omega)]
    exact F241.2.2 i c hc
  · rw [u2, if_pos (by omega)]

theorem axq0_co2y : ax_RO ax_wM0 (ax_XM 0) axu0_co2y := by
  intro ρ hp hE hT
  have j0 : ρ 0 % 4 = 1 := pz_gj hE 0 (Nat.le_of_ble_eq_true rfl) rfl
  obtain ⟨i1a, i1b, i1c, i1d⟩ := pz_gi hE 1 2147483648 2147484657 (Nat.le_of_ble_eq_true rfl) rfl
  obtain ⟨i2a, i2b, i2c, i2d⟩ := pz_gi hE 2 2147483648 2147483747 (Nat.le_of_ble_eq_true rfl) rfl
  obtain ⟨i3a, i3b, i3c, i3d⟩ := pz_gi hE 3 0 4294967295 (Nat.le_of_ble_eq_true rfl) rfl
  have c_ruled : ay_at hp 180 1 = some (ρ 2) := ay_gfj hE 730 4 11 180 1 ax_m1 (ax_vlq rfl rfl) (ax_vlj rfl rfl)
  have s1 : (ρ 2 / 4 + 2147483648) % 4294967296 + (4 / 4 + 2147483648) % 4294967296 = (ρ 3 / 4 + 2147483648) % 4294967296 + 2147483648 := pz_gs hE 11 4 15 ax_m2
  obtain ⟨-, -, F243⟩ : ay_ex hp 180 ∧ ay_ex hp 182 ∧ py_y243 1 (ρ 0) (ρ 1) (ay_at hp 180 1) (ay_at hp 182) := (ax_XF_lt (x := 243) (Nat.le_of_ble_eq_true rfl)).mp (ax_gx hE (243, [3, 7]) ax_m0)
  rw [c_ruled] at F243
  have hc4 : 4 * (ρ 1 / 4) = ρ 1 := by omega
  have h1L := F243.1.1
  have h3 : py_y243 1 (ρ 0) (4 * (ρ 1 / 4)) (some (ρ 2)) (ay_at hp 182) := by rw [hc4]; exact F243
  have hL : py_L (ρ 0 / 4 * 4096 + ρ 1 / 4) = ρ 1 / 4 :: py_L (ρ 0 / 4) := py_L_c h1L (by omega)
  obtain ⟨ρ', h1, h2⟩ := pz_pn1 (K := ρ 0 / 4 * 4096 + ρ 1 / 4) (xf := [(741, [730, 4, 15, 19]), (251, [19, 7, 3])]) hE (by decide) (fun ρ' h1 h2 x hx => by
    have q0 : ρ' 0 = ρ 0 := h1 0 (by decide)
    have q1 : ρ' 1 = ρ 1 := h1 1 (by decide)
    have q2 : ρ' 2 = ρ 2 := h1 2 (by decide)
    have q3 : ρ' 3 = ρ 3 := h1 3 (by decide)
    rcases List.mem_cons.mp hx with e | hx
    · subst e
      refine (ax_XF_wr (x := 241) (Nat.le_of_ble_eq_true rfl)).mpr ?_
      show ay_ex (ax_upd hp 730 (4) (ρ' 3)) 180 ∧ ay_ex (ax_upd hp 730 (4) (ρ' 3)) 182 ∧ py_y241 1 (ρ' 4) (ay_at (ax_upd hp 730 (4) (ρ' 3)) 180 1) (ay_at (ax_upd hp 730 (4) (ρ' 3)) 182)
      rw [q3, h2]
      obtain ⟨o0, ho0⟩ := ay_some hT (q := 180) (g := 50) (n := 2) ax_cg_180 ax_cn_50 (j := 4 / 4) (Nat.le_of_ble_eq_true rfl)
      have u1 : ∀ q, q ≠ 180 → ay_at (ax_upd hp 730 4 (ρ 3)) q = ay_at hp q := fun q hq => funext (fun j => ay_upd_ne hT.1 hq j)
      have u2 : ∀ j, ay_at (ax_upd hp 730 4 (ρ 3)) 180 j = if j = 1 then some (ρ 3) else ay_at hp 180 j := fun j => ay_upd_eq hT.1 rfl ho0 j
      refine ⟨ay_ex_upd hT.1 (ax_cellT hT (q := 180) (g := 50) ax_cg_180), ay_ex_upd hT.1 (ax_cellT hT (q := 182) (g := 52) ax_cg_182), ?_⟩
      rw [u2 1, if_pos rfl, u1 182 (Nat.ne_of_beq_eq_false rfl)]
      exact py_lay (c := ρ 1 / 4) h3 (by rw [pz_41]; exact hL) (by rw [pz_41]; omega) (show ρ 3 / 4 = ρ 2 / 4 + 1 by omega)
    cases List.mem_singleton.mp hx
    refine (ax_XF_lt (x := 251) (Nat.le_of_ble_eq_true rfl)).mpr ?_
    show py_251 (ρ' 4) (ρ' 1) (ρ' 0)
    rw [q0, q1, h2]
    unfold py_251
    rw [pz_41]
    exact hL)
  exact ⟨(fun y hy => by cases hy), _, List.mem_cons_self, ρ', h1, h2⟩

theorem axqg_pu4 {w : ax_W} {b : Nat} (hw : ax_WW w) : ax_RO w (ax_XM b) axu0_pu4 := by
  intro ρ hp hE hT
  have j0 : ρ 0 % 4 = 1 := pz_gj hE 0 (Nat.le_of_ble_eq_true rfl) rfl
  obtain ⟨i1a, i1b, i1c, i1d⟩ := pz_gi hE 1 0 4294967295 (Nat.le_of_ble_eq_true rfl) rfl
  obtain ⟨i2a, i2b, i2c, i2d⟩ := pz_gi hE 2 2147483648 2147483747 (Nat.le_of_ble_eq_true rfl) rfl
  have c_opened : ay_at hp 173 27 = some (ρ 2) := ay_gfj hE 702 108 11 173 27 ax_m1 (ax_vlq rfl rfl) (ax_vlj rfl rfl)
  obtain ⟨-, -, F196⟩ : ay_ex hp 173 ∧ ay_ex hp 185 ∧ pz_y196 (ρ 0) (ay_at hp 173 27) (ay_at hp 185) := (ax_XF_lt (x := 196) (Nat.le_of_ble_eq_true rfl)).mp (ax_gx hE (196, [3]) ax_m0)
  rw [c_opened] at F196
  refine ⟨(fun y hy => by cases hy), _, List.mem_cons_self, ρ, fun _ _ => rfl, ax_px hE rfl (fun x hx => ?_)⟩
  cases List.mem_singleton.mp hx
  refine (ax_XF_wr (x := 196) (Nat.le_of_ble_eq_true rfl)).mpr ?_
  show ay_ex (ax_upd hp 750 (ρ 2) (ρ 1)) 173 ∧ ay_ex (ax_upd hp 750 (ρ 2) (ρ 1)) 185 ∧ pz_y196 (ρ 0) (ay_at (ax_upd hp 750 (ρ 2) (ρ 1)) 173 27) (ay_at (ax_upd hp 750 (ρ 2) (ρ 1)) 185)
  obtain ⟨o0, ho0⟩ := ay_some hT (q := 185) (g := 55) (n := 100) (ax_wc hw ax_cg_185) (ax_wn hw ax_cn_55) (j := ρ 2 / 4) (by omega)
  have u1 : ∀ q, q ≠ 185 → ay_at (ax_upd hp 750 (ρ 2) (ρ 1)) q = ay_at hp q := fun q hq => funext (fun j => ay_upd_ne hT.1 hq j)
  have u2 : ∀ j, ay_at (ax_upd hp 750 (ρ 2) (ρ 1)) 185 j = if j = ρ 2 / 4 then some (ρ 1) else ay_at hp 185 j := fun j => ay_upd_eq hT.1 rfl ho0 j
  refine ⟨ay_ex_upd hT.1 (ax_cellT hT (q := 173) (g := 11) (ax_wc hw ax_cg_173)), ay_ex_upd hT.1 (ax_cellT hT (q := 185) (g := 55) (ax_wc hw ax_cg_185)), ?_⟩
  rw [u1 173 (Nat.ne_of_beq_eq_false rfl)]
  rw [c_opened]
  have e : pz_os (ay_at hp 185) (ρ 2 / 4) = ρ 0 / 4 := F196.1
  refine ⟨?_, fun j hj => ?_⟩
  · show pz_os _ (ρ 2 / 4) = _
    rw [← e]
    exact pz_os_same _ (fun j hj => by rw [u2, if_neg (by omega)])
  · replace hj : j + 1 < ρ 2 / 4 := hj
    rw [u2, u2, if_neg (by omega), if_neg (by omega)]
    exact F196.2 j hj
theorem axq0_pu4 : ax_RO ax_wM0 (ax_XM 0) axu0_pu4 := axqg_pu4 ax_WW0
theorem axqg_pu5O {w : ax_W} {b : Nat} (hw : ax_WW w) : ax_RO w (ax_XM b) axu0_pu5O := by
  intro ρ hp hE hT
  have j0 : ρ 0 % 4 = 1 := pz_gj hE 0 (Nat.le_of_ble_eq_true rfl) rfl
  obtain ⟨i1a, i1b, i1c, i1d⟩ := pz_gi hE 1 0 4294967295 (Nat.le_of_ble_eq_true rfl) rfl
  obtain ⟨i2a, i2b, i2c, i2d⟩ := pz_gi hE 2 2147483648 2147483747 (Nat.le_of_ble_eq_true rfl) rfl
  obtain ⟨i3a, i3b, i3c, i3d⟩ := pz_gi hE 3 2147484657 2147484657 (Nat.le_of_ble_eq_true rfl) rfl
  have c_opened : ay_at hp 173 27 = some (ρ 2) := ay_gfj hE 702 108 11 173 27 ax_m1 (ax_vlq rfl rfl) (ax_vlj rfl rfl)
  have s1 : (ρ 2 / 4 + 2147483648) % 4294967296 + (4 / 4 + 2147483648) % 4294967296 = (ρ 1 / 4 + 2147483648) % 4294967296 + 2147483648 := pz_gs hE 11 4 7 ax_m2
  have c_open : ay_at hp 185 (ρ 2 / 4) = some (ρ 3) := ay_gf hE 750 11 15 185 ax_m3 (ax_vlq rfl rfl)
  obtain ⟨-, -, F196⟩ : ay_ex hp 173 ∧ ay_ex hp 185 ∧ pz_y196 (ρ 0) (ay_at hp 173 27) (ay_at hp 185) := (ax_XF_lt (x := 196) (Nat.le_of_ble_eq_true rfl)).mp (ax_gx hE (196, [3]) ax_m0)
  rw [c_opened] at F196
  have eo : ρ 1 / 4 = ρ 2 / 4 + 1 := by omega
  have e : pz_os (ay_at hp 185) (ρ 2 / 4) = ρ 0 / 4 := F196.1
  have hc : ay_at hp 185 (ρ 2 / 4) = some 4036 := by rw [c_open]; exact congrArg some (by omega)
  have e1 := pz_os_1 (op := ay_at hp 185) (ρ 2 / 4)
  obtain ⟨ρ', h1, h2⟩ := pz_pn1 (K := 2 * (ρ 0 / 4)) (xf := [(696, [702, 108, 7, 19]), (193, [19, 3])]) hE (by decide) (fun ρ' h1 h2 x hx => by
    have q0 : ρ' 0 = ρ 0 := h1 0 (by decide)
    have q1 : ρ' 1 = ρ 1 := h1 1 (by decide)
    have q2 : ρ' 2 = ρ 2 := h1 2 (by decide)
    have q3 : ρ' 3 = ρ 3 := h1 3 (by decide)
    rcases List.mem_cons.mp hx with e | hx
    · subst e
      refine (ax_XF_wr (x := 196) (Nat.le_of_ble_eq_true rfl)).mpr ?_
      show ay_ex (ax_upd hp 702 (108) (ρ' 1)) 173 ∧ ay_ex (ax_upd hp 702 (108) (ρ' 1)) 185 ∧ pz_y196 (ρ' 4) (ay_at (ax_upd hp 702 (108) (ρ' 1)) 173 27) (ay_at (ax_upd hp 702 (108) (ρ' 1)) 185)
      rw [q1, h2]
      obtain ⟨o0, ho0⟩ := ay_some hT (q := 173) (g := 11) (n := 58) (ax_wc hw ax_cg_173) (ax_wn hw ax_cn_11) (j := 108 / 4) (Nat.le_of_ble_eq_true rfl)
      have u1 : ∀ q, q ≠ 173 → ay_at (ax_upd hp 702 108 (ρ 1)) q = ay_at hp q := fun q hq => funext (fun j => ay_upd_ne hT.1 hq j)
      have u2 : ∀ j, ay_at (ax_upd hp 702 108 (ρ 1)) 173 j = if j = 27 then some (ρ 1) else ay_at hp 173 j := fun j => ay_upd_eq hT.1 rfl ho0 j
      refine ⟨ay_ex_upd hT.1 (ax_cellT hT (q := 173) (g := 11) (ax_wc hw ax_cg_173)), ay_ex_upd hT.1 (ax_cellT hT (q := 185) (g := 55) (ax_wc hw ax_cg_185)), ?_⟩
      rw [u2 27, if_pos rfl, u1 185 (Nat.ne_of_beq_eq_false rfl)]
      refine ⟨?_, fun j hj => ?_⟩
      · rw [pz_41]
        show pz_os (ay_at hp 185) (ρ 1 / 4) = _
        rw [eo, pz_os_O hc, e]
      · replace hj : j + 1 < ρ 1 / 4 := hj
        intro z
        by_cases h : j + 1 < ρ 2 / 4
        · exact F196.2 j h z
        · rw [show j + 1 = ρ 2 / 4 by omega]
          exact Or.inr hc
    cases List.mem_singleton.mp hx
    refine (ax_XF_lt (x := 193) (Nat.le_of_ble_eq_true rfl)).mpr ?_
    show ((ρ' 4) / 4 = 2 * ((ρ' 0) / 4) ∧ 1 ≤ (ρ' 0) / 4)
    rw [q0, h2]
    rw [pz_41]
    exact ⟨rfl, by omega⟩)
  exact ⟨(fun y hy => by cases hy), _, List.mem_cons_self, ρ', h1, h2⟩
theorem axq0_pu5O : ax_RO ax_wM0 (ax_XM 0) axu0_pu5O := axqg_pu5O ax_WW0
theorem axqg_pu5M {w : ax_W} {b : Nat} (hw : ax_WW w) : ax_RO w (ax_XM b) axu0_pu5M := by
  intro ρ hp hE hT
  have j0 : ρ 0 % 4 = 1 := pz_gj hE 0 (Nat.le_of_ble_eq_true rfl) rfl
  obtain ⟨i1a, i1b, i1c, i1d⟩ := pz_gi hE 1 0 4294967295 (Nat.le_of_ble_eq_true rfl) rfl
  obtain ⟨i2a, i2b, i2c, i2d⟩ := pz_gi hE 2 2147483648 2147483747 (Nat.le_of_ble_eq_true rfl) rfl
  obtain ⟨i3a, i3b, i3c, i3d⟩ := pz_gi hE 3 2147484656 2147484656 (Nat.le_of_ble_eq_true rfl) rfl
  have c_opened : ay_at hp 173 27 = some (ρ 2) := ay_gfj hE 702 108 11 173 27 ax_m1 (ax_vlq rfl rfl) (ax_vlj rfl rfl)
  have s1 : (ρ 2 / 4 + 2147483648) % 4294967296 + (4 / 4 + 2147483648) % 4294967296 = (ρ 1 / 4 + 2147483648) % 4294967296 + 2147483648 := pz_gs hE 11 4 7 ax_m2
  have c_open : ay_at hp 185 (ρ 2 / 4) = some (ρ 3) := ay_gf hE 750 11 15 185 ax_m3 (ax_vlq rfl rfl)
  obtain ⟨-, -, F196⟩ : ay_ex hp 173 ∧ ay_ex hp 185 ∧ pz_y196 (ρ 0) (ay_at hp 173 27) (ay_at hp 185) := (ax_XF_lt (x := 196) (Nat.le_of_ble_eq_true rfl)).mp (ax_gx hE (196, [3]) ax_m0)
  rw [c_opened] at F196
  have eo : ρ 1 / 4 = ρ 2 / 4 + 1 := by omega
  have e : pz_os (ay_at hp 185) (ρ 2 / 4) = ρ 0 / 4 := F196.1
  have hc : ay_at hp 185 (ρ 2 / 4) = some 4032 := by rw [c_open]; exact congrArg some (by omega)
  have e1 := pz_os_1 (op := ay_at hp 185) (ρ 2 / 4)
  obtain ⟨ρ', h1, h2⟩ := pz_pn1 (K := 2 * (ρ 0 / 4) + 1) (xf := [(696, [702, 108, 7, 19]), (208, [3, 19])]) hE (by decide) (fun ρ' h1 h2 x hx => by
    have q0 : ρ' 0 = ρ 0 := h1 0 (by decide)
    have q1 : ρ' 1 = ρ 1 := h1 1 (by decide)
    have q2 : ρ' 2 = ρ 2 := h1 2 (by decide)
    have q3 : ρ' 3 = ρ 3 := h1 3 (by decide)
    rcases List.mem_cons.mp hx with e | hx
    · subst e
      refine (ax_XF_wr (x := 196) (Nat.le_of_ble_eq_true rfl)).mpr ?_
      show ay_ex (ax_upd hp 702 (108) (ρ' 1)) 173 ∧ ay_ex (ax_upd hp 702 (108) (ρ' 1)) 185 ∧ pz_y196 (ρ' 4) (ay_at (ax_upd hp 702 (108) (ρ' 1)) 173 27) (ay_at (ax_upd hp 702 (108) (ρ' 1)) 185)
      rw [q1, h2]
      obtain ⟨o0, ho0⟩ := ay_some hT (q := 173) (g := 11) (n := 58) (ax_wc hw ax_cg_173) (ax_wn hw ax_cn_11) (j := 108 / 4) (Nat.le_of_ble_eq_true rfl)
      have u1 : ∀ q, q ≠ 173 → ay_at (ax_upd hp 702 108 (ρ 1)) q = ay_at hp q := fun q hq => funext (fun j => ay_upd_ne hT.1 hq j)
      have u2 : ∀ j, ay_at (ax_upd hp 702 108 (ρ 1)) 173 j = if j = 27 then some (ρ 1) else ay_at hp 173 j := fun j => ay_upd_eq hT.1 rfl ho0 j
      refine ⟨ay_ex_upd hT.1 (ax_cellT hT (q := 173) (g := 11) (ax_wc hw ax_cg_173)), ay_ex_upd hT.1 (ax_cellT hT (q := 185) (g := 55) (ax_wc hw ax_cg_185)), ?_⟩
      rw [u2 27, if_pos rfl, u1 185 (Nat.ne_of_beq_eq_false rfl)]
      refine ⟨?_, fun j hj => ?_⟩
      · rw [pz_41]
        show pz_os (ay_at hp 185) (ρ 1 / 4) = _
        rw [eo, pz_os_M hc, e]
      · replace hj : j + 1 < ρ 1 / 4 := hj
        intro z
        by_cases h : j + 1 < ρ 2 / 4
        · exact F196.2 j h z
        · rw [show j + 1 = ρ 2 / 4 by omega]
          exact Or.inl hc
    cases List.mem_singleton.mp hx
    refine (ax_XF_lt (x := 208) (Nat.le_of_ble_eq_true rfl)).mpr ?_
    show ((ρ' 4) / 4 = 2 * ((ρ' 0) / 4) + 1 ∧ 1 ≤ (ρ' 0) / 4)
    rw [q0, h2]
    rw [pz_41]
    exact ⟨rfl, by omega⟩)
  exact ⟨(fun y hy => by cases hy), _, List.mem_cons_self, ρ', h1, h2⟩
theorem axq0_pu5M : ax_RO ax_wM0 (ax_XM 0) axu0_pu5M := axqg_pu5M ax_WW0
theorem axqg_pu5B {w : ax_W} {b : Nat} (hw : ax_WW w) : ax_RO w (ax_XM b) axu0_pu5B := by
  intro ρ hp hE hT
  have j0 : ρ 0 % 4 = 1 := pz_gj hE 0 (Nat.le_of_ble_eq_true rfl) rfl
  obtain ⟨i1a, i1b, i1c, i1d⟩ := pz_gi hE 1 0 4294967295 (Nat.le_of_ble_eq_true rfl) rfl
  obtain ⟨i2a, i2b, i2c, i2d⟩ := pz_gi hE 2 2147483648 2147483747 (Nat.le_of_ble_eq_true rfl) rfl
  obtain ⟨i3a, i3b, i3c, i3d⟩ := pz_gi hE 3 2147484651 2147484655 (Nat.le_of_ble_eq_true rfl) rfl
  have c_opened : ay_at hp 173 27 = some (ρ 2) := ay_gfj hE 702 108 11 173 27 ax_m2 (ax_vlq rfl rfl) (ax_vlj rfl rfl)
  have s1 : (ρ 2 / 4 + 2147483648) % 4294967296 + (4 / 4 + 2147483648) % 4294967296 = (ρ 1 / 4 + 2147483648) % 4294967296 + 2147483648 := pz_gs hE 11 4 7 ax_m3
  have c_open : ay_at hp 185 (ρ 2 / 4) = some (ρ 3) := ay_gf hE 750 11 15 185 ax_m4 (ax_vlq rfl rfl)
  obtain ⟨-, -, F196⟩ : ay_ex hp 173 ∧ ay_ex hp 185 ∧ pz_y196 (ρ 0) (ay_at hp 173 27) (ay_at hp 185) := (ax_XF_lt (x := 196) (Nat.le_of_ble_eq_true rfl)).mp (ax_gx hE (196, [3]) ax_m0)
  rw [c_opened] at F196
  have F192 : pz_strip ((ρ 0) / 4) = (ρ 0) / 4 := (ax_XF_lt (x := 192) (Nat.le_of_ble_eq_true rfl)).mp (ax_gx hE (192, [3, 3]) ax_m1)
  have eo : ρ 1 / 4 = ρ 2 / 4 + 1 := by omega
  have e : pz_os (ay_at hp 185) (ρ 2 / 4) = ρ 0 / 4 := F196.1
  have hb := pz_bin (c := ρ 3) i3a (by omega) (by omega)
  refine ⟨(fun y hy => by cases hy), _, List.mem_cons_self, ρ, fun _ _ => rfl, ax_px hE rfl (fun x hx => ?_)⟩
  cases List.mem_singleton.mp hx
  refine (ax_XF_wr (x := 196) (Nat.le_of_ble_eq_true rfl)).mpr ?_
  show ay_ex (ax_upd hp 702 (108) (ρ 1)) 173 ∧ ay_ex (ax_upd hp 702 (108) (ρ 1)) 185 ∧ pz_y196 (ρ 0) (ay_at (ax_upd hp 702 (108) (ρ 1)) 173 27) (ay_at (ax_upd hp 702 (108) (ρ 1)) 185)
  obtain ⟨o0, ho0⟩ := ay_some hT (q := 173) (g := 11) (n := 58) (ax_wc hw ax_cg_173) (ax_wn hw ax_cn_11) (j := 108 / 4) (Nat.le_of_ble_eq_true rfl)
  have u1 : ∀ q, q ≠ 173 → ay_at (ax_upd hp 702 108 (ρ 1)) q = ay_at hp q := fun q hq => funext (fun j => ay_upd_ne hT.1 hq j)
  have u2 : ∀ j, ay_at (ax_upd hp 702 108 (ρ 1)) 173 j = if j = 27 then some (ρ 1) else ay_at hp 173 j := fun j => ay_upd_eq hT.1 rfl ho0 j
  refine ⟨ay_ex_upd hT.1 (ax_cellT hT (q := 173) (g := 11) (ax_wc hw ax_cg_173)), ay_ex_upd hT.1 (ax_cellT hT (q := 185) (g := 55) (ax_wc hw ax_cg_185)), ?_⟩
  rw [u2 27, if_pos rfl, u1 185 (Nat.ne_of_beq_eq_false rfl)]
  refine ⟨?_, fun j hj => ?_⟩
  · show pz_os (ay_at hp 185) (ρ 1 / 4) = _
    rw [eo, pz_os_B (by rw [c_open]; exact hb.1) (by rw [c_open]; exact hb.2), e]
  · replace hj : j + 1 < ρ 1 / 4 := hj
    intro z
    by_cases h : j + 1 < ρ 2 / 4
    · exact F196.2 j h z
    · exfalso
      have e2 := pz_os_M z
      rw [show j + 1 = ρ 2 / 4 by omega, e] at e2
      have e3 := pz_os_1 (op := ay_at hp 185) j
      have e4 := pz_strip_ev (by omega) F192
      omega
theorem axq0_pu5B : ax_RO ax_wM0 (ax_XM 0) axu0_pu5B := axqg_pu5B ax_WW0
theorem axqg_pu6 {w : ax_W} {b : Nat} (hw : ax_WW w) : ax_RO w (ax_XM b) axu0_pu6 := by
  intro ρ hp hE hT
  have j0 : ρ 0 % 4 = 1 := pz_gj hE 0 (Nat.le_of_ble_eq_true rfl) rfl
  obtain ⟨i1a, i1b, i1c, i1d⟩ := pz_gi hE 1 0 4294967295 (Nat.le_of_ble_eq_true rfl) rfl
  obtain ⟨i2a, i2b, i2c, i2d⟩ := pz_gi hE 2 2147483648 2147483747 (Nat.le_of_ble_eq_true rfl) rfl
  have c_opened : ay_at hp 173 27 = some (ρ 2) := ay_gfj hE 702 108 11 173 27 ax_m1 (ax_vlq rfl rfl) (ax_vlj rfl rfl)
  obtain ⟨-, -, F242⟩ : ay_ex hp 173 ∧ ay_ex hp 185 ∧ py_y242 (ρ 0) (ay_at hp 173 27) (ay_at hp 185) := (ax_XF_lt (x := 242) (Nat.le_of_ble_eq_true rfl)).mp (ax_gx hE (242, [3]) ax_m0)
  rw [c_opened] at F242
  refine ⟨(fun y hy => by cases hy), _, List.mem_cons_self, ρ, fun _ _ => rfl, ax_px hE rfl (fun x hx => ?_)⟩
  cases List.mem_singleton.mp hx
  refine (ax_XF_wr (x := 242) (Nat.le_of_ble_eq_true rfl)).mpr ?_
  show ay_ex (ax_upd hp 750 (ρ 2) (ρ 1)) 173 ∧ ay_ex (ax_upd hp 750 (ρ 2) (ρ 1)) 185 ∧ py_y242 (ρ 0) (ay_at (ax_upd hp 750 (ρ 2) (ρ 1)) 173 27) (ay_at (ax_upd hp 750 (ρ 2) (ρ 1)) 185)
  obtain ⟨o0, ho0⟩ := ay_some hT (q := 185) (g := 55) (n := 100) (ax_wc hw ax_cg_185) (ax_wn hw ax_cn_55) (j := ρ 2 / 4) (by omega)
  have u1 : ∀ q, q ≠ 185 → ay_at (ax_upd hp 750 (ρ 2) (ρ 1)) q = ay_at hp q := fun q hq => funext (fun j => ay_upd_ne hT.1 hq j)
  have u2 : ∀ j, ay_at (ax_upd hp 750 (ρ 2) (ρ 1)) 185 j = if j = ρ 2 / 4 then some (ρ 1) else ay_at hp 185 j := fun j => ay_upd_eq hT.1 rfl ho0 j
  refine ⟨ay_ex_upd hT.1 (ax_cellT hT (q := 173) (g := 11) (ax_wc hw ax_cg_173)), ay_ex_upd hT.1 (ax_cellT hT (q := 185) (g := 55) (ax_wc hw ax_cg_185)), ?_⟩
  rw [u1 173 (Nat.ne_of_beq_eq_false rfl)]
  rw [c_opened]
  have ez : ρ 2 / 4 = (py_L (ρ 0 / 4)).length := F242.2.1
  refine ⟨F242.1, F242.2.1, F242.2.2.1, fun i c hc => ?_⟩
  have hi := (List.getElem?_eq_some_iff.mp hc).1
  rw [List.length_reverse] at hi
  rw [u2, if_neg (by omega)]
  exact F242.2.2.2 i c hc
theorem axq0_pu6 : ax_RO ax_wM0 (ax_XM 0) axu0_pu6 := axqg_pu6 ax_WW0
theorem axqg_pu7 {w : ax_W} {b : Nat} (hw : ax_WW w) : ax_RO w (ax_XM b) axu0_pu7 := by
  intro ρ hp hE hT
  have j0 : ρ 0 % 4 = 1 := pz_gj hE 0 (Nat.le_of_ble_eq_true rfl) rfl
  obtain ⟨i1a, i1b, i1c, i1d⟩ := pz_gi hE 1 0 4294967295 (Nat.le_of_ble_eq_true rfl) rfl
  obtain ⟨i2a, i2b, i2c, i2d⟩ := pz_gi hE 2 2147483648 2147483747 (Nat.le_of_ble_eq_true rfl) rfl
  obtain ⟨i3a, i3b, i3c, i3d⟩ := pz_gi hE 3 2147484651 2147484657 (Nat.le_of_ble_eq_true rfl) rfl
  have c_opened : ay_at hp 173 27 = some (ρ 2) := ay_gfj hE 702 108 11 173 27 ax_m1 (ax_vlq rfl rfl) (ax_vlj rfl rfl)
  have s1 : (ρ 2 / 4 + 2147483648) % 4294967296 + (4 / 4 + 2147483648) % 4294967296 = (ρ 1 / 4 + 2147483648) % 4294967296 + 2147483648 := pz_gs hE 11 4 7 ax_m2
  have c_open : ay_at hp 185 (ρ 2 / 4) = some (ρ 3) := ay_gf hE 750 11 15 185 ax_m3 (ax_vlq rfl rfl)
  obtain ⟨-, -, F242⟩ : ay_ex hp 173 ∧ ay_ex hp 185 ∧ py_y242 (ρ 0) (ay_at hp 173 27) (ay_at hp 185) := (ax_XF_lt (x := 242) (Nat.le_of_ble_eq_true rfl)).mp (ax_gx hE (242, [3]) ax_m0)
  rw [c_opened] at F242
  have h1L := F242.1
  have ez : ρ 2 / 4 = (py_L (ρ 0 / 4)).length := F242.2.1
  have ht : ay_at hp 185 (py_L (ρ 0 / 4)).length = some (4 * (ρ 3 / 4)) := by rw [← ez, c_open]; exact congrArg some (by omega)
  have hL : py_L (ρ 0 / 4 * 4096 + ρ 3 / 4) = ρ 3 / 4 :: py_L (ρ 0 / 4) := py_L_c h1L (by omega)
  obtain ⟨ρ', h1, h2⟩ := pz_pn1 (K := ρ 0 / 4 * 4096 + ρ 3 / 4) (xf := [(742, [702, 108, 7, 19]), (251, [19, 15, 3])]) hE (by decide) (fun ρ' h1 h2 x hx => by
    have q0 : ρ' 0 = ρ 0 := h1 0 (by decide)
    have q1 : ρ' 1 = ρ 1 := h1 1 (by decide)
    have q2 : ρ' 2 = ρ 2 := h1 2 (by decide)
    have q3 : ρ' 3 = ρ 3 := h1 3 (by decide)
    rcases List.mem_cons.mp hx with e | hx
    · subst e
      refine (ax_XF_wr (x := 242) (Nat.le_of_ble_eq_true rfl)).mpr ?_
      show ay_ex (ax_upd hp 702 (108) (ρ' 1)) 173 ∧ ay_ex (ax_upd hp 702 (108) (ρ' 1)) 185 ∧ py_y242 (ρ' 4) (ay_at (ax_upd hp 702 (108) (ρ' 1)) 173 27) (ay_at (ax_upd hp 702 (108) (ρ' 1)) 185)
      rw [q1, h2]
      obtain ⟨o0, ho0⟩ := ay_some hT (q := 173) (g := 11) (n := 58) (ax_wc hw ax_cg_173) (ax_wn hw ax_cn_11) (j := 108 / 4) (Nat.le_of_ble_eq_true rfl)
      have u1 : ∀ q, q ≠ 173 → ay_at (ax_upd hp 702 108 (ρ 1)) q = ay_at hp q := fun q hq => funext (fun j => ay_upd_ne hT.1 hq j)
      have u2 : ∀ j, ay_at (ax_upd hp 702 108 (ρ 1)) 173 j = if j = 27 then some (ρ 1) else ay_at hp 173 j := fun j => ay_upd_eq hT.1 rfl ho0 j
      refine ⟨ay_ex_upd hT.1 (ax_cellT hT (q := 173) (g := 11) (ax_wc hw ax_cg_173)), ay_ex_upd hT.1 (ax_cellT hT (q := 185) (g := 55) (ax_wc hw ax_cg_185)), ?_⟩
      rw [u2 27, if_pos rfl, u1 185 (Nat.ne_of_beq_eq_false rfl)]
      exact py_push (c := ρ 3 / 4) F242 ht (by rw [pz_41]; exact hL) (by omega) (by rw [pz_41]; omega) (show ρ 1 / 4 = ρ 2 / 4 + 1 by omega)
    cases List.mem_singleton.mp hx
    refine (ax_XF_lt (x := 251) (Nat.le_of_ble_eq_true rfl)).mpr ?_
    show py_251 (ρ' 4) (ρ' 3) (ρ' 0)
    rw [q0, q3, h2]
    unfold py_251
    rw [pz_41]
    exact hL)
  exact ⟨(fun y hy => by cases hy), _, List.mem_cons_self, ρ', h1, h2⟩
theorem axq0_pu7 : ax_RO ax_wM0 (ax_XM 0) axu0_pu7 := axqg_pu7 ax_WW0
theorem axqg_lo4B {w : ax_W} {b : Nat} (hw : ax_WW w) : ax_RO w (ax_XM b) axu0_lo4B := by
  intro ρ hp hE hT
  have j0 : ρ 0 % 4 = 1 := pz_gj hE 0 (Nat.le_of_ble_eq_true rfl) rfl
  obtain ⟨i1a, i1b, i1c, i1d⟩ := pz_gi hE 1 0 4294967295 (Nat.le_of_ble_eq_true rfl) rfl
  obtain ⟨i2a, i2b, i2c, i2d⟩ := pz_gi hE 2 2147483648 2147483748 (Nat.le_of_ble_eq_true rfl) rfl
  have c_opened : ay_at hp 173 27 = some (ρ 2) := ay_gfj hE 702 108 11 173 27 ax_m2 (ax_vlq rfl rfl) (ax_vlj rfl rfl)
  have s1 : (ρ 1 / 4 + 2147483648) % 4294967296 + (4 / 4 + 2147483648) % 4294967296 = (ρ 2 / 4 + 2147483648) % 4294967296 + 2147483648 := pz_gs hE 7 4 11 ax_m3
  obtain ⟨-, -, F57⟩ : ay_ex hp 173 ∧ ay_ex hp 185 ∧ ay_M57 (ay_at hp 173 27) (ay_at hp 185) := (ax_XF_lt (x := 57) (Nat.le_of_ble_eq_true rfl)).mp (ax_gx hE (57, []) ax_m0)
  rw [c_opened] at F57
  obtain ⟨-, -, F196⟩ : ay_ex hp 173 ∧ ay_ex hp 185 ∧ pz_y196 (ρ 0) (ay_at hp 173 27) (ay_at hp 185) := (ax_XF_lt (x := 196) (Nat.le_of_ble_eq_true rfl)).mp (ax_gx hE (196, [3]) ax_m1)
  rw [c_opened] at F196
  have h0 : 1 ≤ ρ 2 / 4 := F57.1
  have eo : ρ 2 / 4 = ρ 1 / 4 + 1 := by omega
  refine ⟨(fun y hy => by cases hy), _, List.mem_cons_self, ρ, fun _ _ => rfl, ax_px hE rfl (fun x hx => ?_)⟩
  cases List.mem_singleton.mp hx
  refine (ax_XF_wr (x := 196) (Nat.le_of_ble_eq_true rfl)).mpr ?_
  show ay_ex (ax_upd hp 702 (108) (ρ 1)) 173 ∧ ay_ex (ax_upd hp 702 (108) (ρ 1)) 185 ∧ pz_y196 (ρ 0) (ay_at (ax_upd hp 702 (108) (ρ 1)) 173 27) (ay_at (ax_upd hp 702 (108) (ρ 1)) 185)
  obtain ⟨o0, ho0⟩ := ay_some hT (q := 173) (g := 11) (n := 58) (ax_wc hw ax_cg_173) (ax_wn hw ax_cn_11) (j := 108 / 4) (Nat.le_of_ble_eq_true rfl)
  have u1 : ∀ q, q ≠ 173 → ay_at (ax_upd hp 702 108 (ρ 1)) q = ay_at hp q := fun q hq => funext (fun j => ay_upd_ne hT.1 hq j)
  have u2 : ∀ j, ay_at (ax_upd hp 702 108 (ρ 1)) 173 j = if j = 27 then some (ρ 1) else ay_at hp 173 j := fun j => ay_upd_eq hT.1 rfl ho0 j
  refine ⟨ay_ex_upd hT.1 (ax_cellT hT (q := 173) (g := 11) (ax_wc hw ax_cg_173)), ay_ex_upd hT.1 (ax_cellT hT (q := 185) (g := 55) (ax_wc hw ax_cg_185)), ?_⟩
  rw [u2 27, if_pos rfl, u1 185 (Nat.ne_of_beq_eq_false rfl)]
  obtain ⟨b1, b2⟩ := F57
  replace b2 : ay_isb (ay_at hp 185 (ρ 2 / 4 - 1)) = true := b2
  obtain ⟨c1, c2⟩ := pz_isb b2
  refine ⟨?_, fun j hj => F196.2 j (by show j + 1 < ρ 2 / 4; replace hj : j + 1 < ρ 1 / 4 := hj; omega)⟩
  have e : pz_os (ay_at hp 185) (ρ 2 / 4) = ρ 0 / 4 := F196.1
  show pz_os (ay_at hp 185) (ρ 1 / 4) = ρ 0 / 4
  rw [eo] at e c1 c2
  rw [← e]
  exact (pz_os_B c1 c2).symm
theorem axq0_lo4B : ax_RO ax_wM0 (ax_XM 0) axu0_lo4B := axqg_lo4B ax_WW0
theorem axqg_lo4M {w : ax_W} {b : Nat} (hw : ax_WW w) : ax_RO w (ax_XM b) axu0_lo4M := by
  intro ρ hp hE hT
  have j0 : ρ 0 % 4 = 1 := pz_gj hE 0 (Nat.le_of_ble_eq_true rfl) rfl
  obtain ⟨i1a, i1b, i1c, i1d⟩ := pz_gi hE 1 0 4294967295 (Nat.le_of_ble_eq_true rfl) rfl
  obtain ⟨i2a, i2b, i2c, i2d⟩ := pz_gi hE 2 2147483648 2147483748 (Nat.le_of_ble_eq_true rfl) rfl
  have c_opened : ay_at hp 173 27 = some (ρ 2) := ay_gfj hE 702 108 11 173 27 ax_m2 (ax_vlq rfl rfl) (ax_vlj rfl rfl)
  have s1 : (ρ 1 / 4 + 2147483648) % 4294967296 + (4 / 4 + 2147483648) % 4294967296 = (ρ 2 / 4 + 2147483648) % 4294967296 + 2147483648 := pz_gs hE 7 4 11 ax_m3
  obtain ⟨-, -, F58⟩ : ay_ex hp 173 ∧ ay_ex hp 185 ∧ ay_M58 (ay_at hp 173 27) (ay_at hp 185) := (ax_XF_lt (x := 58) (Nat.le_of_ble_eq_true rfl)).mp (ax_gx hE (58, []) ax_m0)
  rw [c_opened] at F58
  obtain ⟨-, -, F196⟩ : ay_ex hp 173 ∧ ay_ex hp 185 ∧ pz_y196 (ρ 0) (ay_at hp 173 27) (ay_at hp 185) := (ax_XF_lt (x := 196) (Nat.le_of_ble_eq_true rfl)).mp (ax_gx hE (196, [3]) ax_m1)
  rw [c_opened] at F196
  have h0 : 1 ≤ ρ 2 / 4 := F58.1
  have eo : ρ 2 / 4 = ρ 1 / 4 + 1 := by omega
  have b2 : ay_at hp 185 (ρ 2 / 4 - 1) = some 4032 := F58.2
  rw [eo, Nat.add_sub_cancel] at b2
  have e : pz_os (ay_at hp 185) (ρ 2 / 4) = ρ 0 / 4 := F196.1
  rw [eo, pz_os_M b2] at e
  have e1 := pz_os_1 (op := ay_at hp 185) (ρ 1 / 4)
  obtain ⟨ρ', h1, h2⟩ := pz_pn1 (K := pz_os (ay_at hp 185) (ρ 1 / 4)) (xf := [(696, [702, 108, 7, 15]), (208, [15, 3])]) hE (by decide) (fun ρ' h1 h2 x hx => by
    have q0 : ρ' 0 = ρ 0 := h1 0 (by decide)
    have q1 : ρ' 1 = ρ 1 := h1 1 (by decide)
    have q2 : ρ' 2 = ρ 2 := h1 2 (by decide)
    rcases List.mem_cons.mp hx with e | hx
    · subst e
      refine (ax_XF_wr (x := 196) (Nat.le_of_ble_eq_true rfl)).mpr ?_
      show ay_ex (ax_upd hp 702 (108) (ρ' 1)) 173 ∧ ay_ex (ax_upd hp 702 (108) (ρ' 1)) 185 ∧ pz_y196 (ρ' 3) (ay_at (ax_upd hp 702 (108) (ρ' 1)) 173 27) (ay_at (ax_upd hp 702 (108) (ρ' 1)) 185)
      rw [q1, h2]
      obtain ⟨o0, ho0⟩ := ay_some hT (q := 173) (g := 11) (n := 58) (ax_wc hw ax_cg_173) (ax_wn hw ax_cn_11) (j := 108 / 4) (Nat.le_of_ble_eq_true rfl)
      have u1 : ∀ q, q ≠ 173 → ay_at (ax_upd hp 702 108 (ρ 1)) q = ay_at hp q := fun q hq => funext (fun j => ay_upd_ne hT.1 hq j)
      have u2 : ∀ j, ay_at (ax_upd hp 702 108 (ρ 1)) 173 j = if j = 27 then some (ρ 1) else ay_at hp 173 j := fun j => ay_upd_eq hT.1 rfl ho0 j
      refine ⟨ay_ex_upd hT.1 (ax_cellT hT (q := 173) (g := 11) (ax_wc hw ax_cg_173)), ay_ex_upd hT.1 (ax_cellT hT (q := 185) (g := 55) (ax_wc hw ax_cg_185)), ?_⟩
      rw [u2 27, if_pos rfl, u1 185 (Nat.ne_of_beq_eq_false rfl)]
      refine ⟨?_, fun j hj => F196.2 j (by show j + 1 < ρ 2 / 4; replace hj : j + 1 < ρ 1 / 4 := hj; omega)⟩
      rw [pz_41]
      rfl
    cases List.mem_singleton.mp hx
    refine (ax_XF_lt (x := 208) (Nat.le_of_ble_eq_true rfl)).mpr ?_
    show ((ρ' 0) / 4 = 2 * ((ρ' 3) / 4) + 1 ∧ 1 ≤ (ρ' 3) / 4)
    rw [q0, h2]
    rw [pz_41]
    exact ⟨by omega, e1⟩)
  exact ⟨(fun y hy => by cases hy), _, List.mem_cons_self, ρ', h1, h2⟩
theorem axq0_lo4M : ax_RO ax_wM0 (ax_XM 0) axu0_lo4M := axqg_lo4M ax_WW0
theorem axqg_lo6B {w : ax_W} {b : Nat} (hw : ax_WW w) : ax_RO w (ax_XM b) axu0_lo6B := by
  intro ρ hp hE hT
  have j0 : ρ 0 % 4 = 1 := pz_gj hE 0 (Nat.le_of_ble_eq_true rfl) rfl
  obtain ⟨i1a, i1b, i1c, i1d⟩ := pz_gi hE 1 0 4294967295 (Nat.le_of_ble_eq_true rfl) rfl
  obtain ⟨i2a, i2b, i2c, i2d⟩ := pz_gi hE 2 2147483648 2147483748 (Nat.le_of_ble_eq_true rfl) rfl
  have c_opened : ay_at hp 173 27 = some (ρ 2) := ay_gfj hE 702 108 11 173 27 ax_m2 (ax_vlq rfl rfl) (ax_vlj rfl rfl)
  have s1 : (ρ 1 / 4 + 2147483648) % 4294967296 + (4 / 4 + 2147483648) % 4294967296 = (ρ 2 / 4 + 2147483648) % 4294967296 + 2147483648 := pz_gs hE 7 4 11 ax_m3
  obtain ⟨-, -, F57⟩ : ay_ex hp 173 ∧ ay_ex hp 185 ∧ ay_M57 (ay_at hp 173 27) (ay_at hp 185) := (ax_XF_lt (x := 57) (Nat.le_of_ble_eq_true rfl)).mp (ax_gx hE (57, []) ax_m0)
  rw [c_opened] at F57
  obtain ⟨-, -, F242⟩ : ay_ex hp 173 ∧ ay_ex hp 185 ∧ py_y242 (ρ 0) (ay_at hp 173 27) (ay_at hp 185) := (ax_XF_lt (x := 242) (Nat.le_of_ble_eq_true rfl)).mp (ax_gx hE (242, [3]) ax_m1)
  rw [c_opened] at F242
  have h0 : 1 ≤ ρ 2 / 4 := F57.1
  obtain ⟨c, T, t1, t2, t3, t4, t5, t6, t7⟩ := py_take (o := ρ 1 / 4) F242 (show ρ 2 / 4 = ρ 1 / 4 + 1 by omega)
  obtain ⟨ρ', h1, h2⟩ := pz_pn1 (K := py_enc T) (xf := [(742, [702, 108, 7, 15]), (754, [702, 108, 7, 3, 15])]) hE (by decide) (fun ρ' h1 h2 x hx => by
    have q0 : ρ' 0 = ρ 0 := h1 0 (by decide)
    have q1 : ρ' 1 = ρ 1 := h1 1 (by decide)
    have q2 : ρ' 2 = ρ 2 := h1 2 (by decide)
    rcases List.mem_cons.mp hx with e | hx
    · subst e
      refine (ax_XF_wr (x := 242) (Nat.le_of_ble_eq_true rfl)).mpr ?_
      show ay_ex (ax_upd hp 702 (108) (ρ' 1)) 173 ∧ ay_ex (ax_upd hp 702 (108) (ρ' 1)) 185 ∧ py_y242 (ρ' 3) (ay_at (ax_upd hp 702 (108) (ρ' 1)) 173 27) (ay_at (ax_upd hp 702 (108) (ρ' 1)) 185)
      rw [q1, h2]
      obtain ⟨o0, ho0⟩ := ay_some hT (q := 173) (g := 11) (n := 58) (ax_wc hw ax_cg_173) (ax_wn hw ax_cn_11) (j := 108 / 4) (Nat.le_of_ble_eq_true rfl)
      have u1 : ∀ q, q ≠ 173 → ay_at (ax_upd hp 702 108 (ρ 1)) q = ay_at hp q := fun q hq => funext (fun j => ay_upd_ne hT.1 hq j)
      have u2 : ∀ j, ay_at (ax_upd hp 702 108 (ρ 1)) 173 j = if j = 27 then some (ρ 1) else ay_at hp 173 j := fun j => ay_upd_eq hT.1 rfl ho0 j
      refine ⟨ay_ex_upd hT.1 (ax_cellT hT (q := 173) (g := 11) (ax_wc hw ax_cg_173)), ay_ex_upd hT.1 (ax_cellT hT (q := 185) (g := 55) (ax_wc hw ax_cg_185)), ?_⟩
      rw [u2 27, if_pos rfl, u1 185 (Nat.ne_of_beq_eq_false rfl)]
      exact ⟨by rw [pz_41]; exact t5, by rw [pz_41, t4]; exact t2.symm, by rw [pz_41, t4]; exact t6, by rw [pz_41, t4]; exact t7⟩
    cases List.mem_singleton.mp hx
    refine (ax_XF_wr (x := 254) (Nat.le_of_ble_eq_true rfl)).mpr ?_
    show ay_ex (ax_upd hp 702 (108) (ρ' 1)) 173 ∧ ay_ex (ax_upd hp 702 (108) (ρ' 1)) 185 ∧ py_y254 (ρ' 0) (ρ' 3) (ay_at (ax_upd hp 702 (108) (ρ' 1)) 173 27) (ay_at (ax_upd hp 702 (108) (ρ' 1)) 185)
    rw [q0, q1, h2]
    obtain ⟨o0, ho0⟩ := ay_some hT (q := 173) (g := 11) (n := 58) (ax_wc hw ax_cg_173) (ax_wn hw ax_cn_11) (j := 108 / 4) (Nat.le_of_ble_eq_true rfl)
    have u1 : ∀ q, q ≠ 173 → ay_at (ax_upd hp 702 108 (ρ 1)) q = ay_at hp q := fun q hq => funext (fun j => ay_upd_ne hT.1 hq j)
    have u2 : ∀ j, ay_at (ax_upd hp 702 108 (ρ 1)) 173 j = if j = 27 then some (ρ 1) else ay_at hp 173 j := fun j => ay_upd_eq hT.1 rfl ho0 j
    refine ⟨ay_ex_upd hT.1 (ax_cellT hT (q := 173) (g := 11) (ax_wc hw ax_cg_173)), ay_ex_upd hT.1 (ax_cellT hT (q := 185) (g := 55) (ax_wc hw ax_cg_185)), ?_⟩
    rw [u2 27, if_pos rfl, u1 185 (Nat.ne_of_beq_eq_false rfl)]
    exact ⟨c, t3, by rw [pz_41, t4]; exact t1⟩)
  exact ⟨(fun y hy => by cases hy), _, List.mem_cons_self, ρ', h1, h2⟩
theorem axq0_lo6B : ax_RO ax_wM0 (ax_XM 0) axu0_lo6B := axqg_lo6B ax_WW0
theorem axqg_lp6B {w : ax_W} {b : Nat} (hw : ax_WW w) : ax_RO w (ax_XM b) axu0_lp6B := by
  intro ρ hp hE hT
  have j0 : ρ 0 % 4 = 1 := pz_gj hE 0 (Nat.le_of_ble_eq_true rfl) rfl
  have j1 : ρ 1 % 4 = 1 := pz_gj hE 1 (Nat.le_of_ble_eq_true rfl) rfl
  obtain ⟨i2a, i2b, i2c, i2d⟩ := pz_gi hE 2 2147483648 2147483747 (Nat.le_of_ble_eq_true rfl) rfl
  obtain ⟨i3a, i3b, i3c, i3d⟩ := pz_gi hE 3 2147484651 2147484656 (Nat.le_of_ble_eq_true rfl) rfl
  have c_opened : ay_at hp 173 27 = some (ρ 2) := ay_gfj hE 702 108 11 173 27 ax_m1 (ax_vlq rfl rfl) (ax_vlj rfl rfl)
  have c_open : ay_at hp 185 (ρ 2 / 4) = some (ρ 3) := ay_gf hE 750 11 15 185 ax_m2 (ax_vlq rfl rfl)
  obtain ⟨-, -, F254⟩ : ay_ex hp 173 ∧ ay_ex hp 185 ∧ py_y254 (ρ 0) (ρ 1) (ay_at hp 173 27) (ay_at hp 185) := (ax_XF_lt (x := 254) (Nat.le_of_ble_eq_true rfl)).mp (ax_gx hE (254, [3, 7]) ax_m0)
  rw [c_opened] at F254
  refine ⟨(fun y hy => by cases hy), _, List.mem_cons_self, ρ, fun _ _ => rfl, ax_px hE rfl (fun x hx => ?_)⟩
  cases List.mem_singleton.mp hx
  refine (ax_XF_lt (x := 251) (Nat.le_of_ble_eq_true rfl)).mpr ?_
  show py_251 (ρ 0) (ρ 3) (ρ 1)
  obtain ⟨c, h1, h2⟩ := F254
  replace h1 : ay_at hp 185 (ρ 2 / 4) = _ := h1
  rw [c_open] at h1
  have e := Option.some.inj h1
  unfold py_251
  rw [h2, show ρ 3 / 4 = c by omega]
theorem axq0_lp6B : ax_RO ax_wM0 (ax_XM 0) axu0_lp6B := axqg_lp6B ax_WW0
theorem axqg_lo6M {w : ax_W} {b : Nat} (hw : ax_WW w) : ax_RO w (ax_XM b) axu0_lo6M := by
  intro ρ hp hE hT
  have j0 : ρ 0 % 4 = 1 := pz_gj hE 0 (Nat.le_of_ble_eq_true rfl) rfl
  obtain ⟨i1a, i1b, i1c, i1d⟩ := pz_gi hE 1 0 4294967295 (Nat.le_of_ble_eq_true rfl) rfl
  obtain ⟨i2a, i2b, i2c, i2d⟩ := pz_gi hE 2 2147483648 2147483748 (Nat.le_of_ble_eq_true rfl) rfl
  have c_opened : ay_at hp 173 27 = some (ρ 2) := ay_gfj hE 702 108 11 173 27 ax_m2 (ax_vlq rfl rfl) (ax_vlj rfl rfl)
  have s1 : (ρ 1 / 4 + 2147483648) % 4294967296 + (4 / 4 + 2147483648) % 4294967296 = (ρ 2 / 4 + 2147483648) % 4294967296 + 2147483648 := pz_gs hE 7 4 11 ax_m3
  obtain ⟨-, -, F58⟩ : ay_ex hp 173 ∧ ay_ex hp 185 ∧ ay_M58 (ay_at hp 173 27) (ay_at hp 185) := (ax_XF_lt (x := 58) (Nat.le_of_ble_eq_true rfl)).mp (ax_gx hE (58, []) ax_m0)
  rw [c_opened] at F58
  obtain ⟨-, -, F242⟩ : ay_ex hp 173 ∧ ay_ex hp 185 ∧ py_y242 (ρ 0) (ay_at hp 173 27) (ay_at hp 185) := (ax_XF_lt (x := 242) (Nat.le_of_ble_eq_true rfl)).mp (ax_gx hE (242, [3]) ax_m1)
  rw [c_opened] at F242
  have h0 : 1 ≤ ρ 2 / 4 := F58.1
  obtain ⟨c, T, t1, t2, t3, t4, t5, t6, t7⟩ := py_take (o := ρ 1 / 4) F242 (show ρ 2 / 4 = ρ 1 / 4 + 1 by omega)
  obtain ⟨ρ', h1, h2⟩ := pz_pn1 (K := py_enc T) (xf := [(742, [702, 108, 7, 15]), (754, [702, 108, 7, 3, 15])]) hE (by decide) (fun ρ' h1 h2 x hx => by
    have q0 : ρ' 0 = ρ 0 := h1 0 (by decide)
    have q1 : ρ' 1 = ρ 1 := h1 1 (by decide)
    have q2 : ρ' 2 = ρ 2 := h1 2 (by decide)
    rcases List.mem_cons.mp hx with e | hx
    · subst e
      refine (ax_XF_wr (x := 242) (Nat.le_of_ble_eq_true rfl)).mpr ?_
      show ay_ex (ax_upd hp 702 (108) (ρ' 1)) 173 ∧ ay_ex (ax_upd hp 702 (108) (ρ' 1)) 185 ∧ py_y242 (ρ' 3) (ay_at (ax_upd hp 702 (108) (ρ' 1)) 173 27) (ay_at (ax_upd hp 702 (108) (ρ' 1)) 185)
      rw [q1, h2]
      obtain ⟨o0, ho0⟩ := ay_some hT (q := 173) (g := 11) (n := 58) (ax_wc hw ax_cg_173) (ax_wn hw ax_cn_11) (j := 108 / 4) (Nat.le_of_ble_eq_true rfl)
      have u1 : ∀ q, q ≠ 173 → ay_at (ax_upd hp 702 108 (ρ 1)) q = ay_at hp q := fun q hq => funext (fun j => ay_upd_ne hT.1 hq j)
      have u2 : ∀ j, ay_at (ax_upd hp 702 108 (ρ 1)) 173 j = if j = 27 then some (ρ 1) else ay_at hp 173 j := fun j => ay_upd_eq hT.1 rfl ho0 j
      refine ⟨ay_ex_upd hT.1 (ax_cellT hT (q := 173) (g := 11) (ax_wc hw ax_cg_173)), ay_ex_upd hT.1 (ax_cellT hT (q := 185) (g := 55) (ax_wc hw ax_cg_185)), ?_⟩
      rw [u2 27, if_pos rfl, u1 185 (Nat.ne_of_beq_eq_false rfl)]
      exact ⟨by rw [pz_41]; exact t5, by rw [pz_41, t4]; exact t2.symm, by rw [pz_41, t4]; exact t6, by rw [pz_41, t4]; exact t7⟩
    cases List.mem_singleton.mp hx
    refine (ax_XF_wr (x := 254) (Nat.le_of_ble_eq_true rfl)).mpr ?_
    show ay_ex (ax_upd hp 702 (108) (ρ' 1)) 173 ∧ ay_ex (ax_upd hp 702 (108) (ρ' 1)) 185 ∧ py_y254 (ρ' 0) (ρ' 3) (ay_at (ax_upd hp 702 (108) (ρ' 1)) 173 27) (ay_at (ax_upd hp 702 (108) (ρ' 1)) 185)
    rw [q0, q1, h2]
    obtain ⟨o0, ho0⟩ := ay_some hT (q := 173) (g := 11) (n := 58) (ax_wc hw ax_cg_173) (ax_wn hw ax_cn_11) (j := 108 / 4) (Nat.le_of_ble_eq_true rfl)
    have u1 : ∀ q, q ≠ 173 → ay_at (ax_upd hp 702 108 (ρ 1)) q = ay_at hp q := fun q hq => funext (fun j => ay_upd_ne hT.1 hq j)
    have u2 : ∀ j, ay_at (ax_upd hp 702 108 (ρ 1)) 173 j = if j = 27 then some (ρ 1) else ay_at hp 173 j := fun j => ay_upd_eq hT.1 rfl ho0 j
    refine ⟨ay_ex_upd hT.1 (ax_cellT hT (q := 173) (g := 11) (ax_wc hw ax_cg_173)), ay_ex_upd hT.1 (ax_cellT hT (q := 185) (g := 55) (ax_wc hw ax_cg_185)), ?_⟩
    rw [u2 27, if_pos rfl, u1 185 (Nat.ne_of_beq_eq_false rfl)]
    exact ⟨c, t3, by rw [pz_41, t4]; exact t1⟩)
  exact ⟨(fun y hy => by cases hy), _, List.mem_cons_self, ρ', h1, h2⟩
theorem axq0_lo6M : ax_RO ax_wM0 (ax_XM 0) axu0_lo6M := axqg_lo6M ax_WW0
theorem axqg_lp6M {w : ax_W} {b : Nat} (hw : ax_WW w) : ax_RO w (ax_XM b) axu0_lp6M := by
  intro ρ hp hE hT
  have j0 : ρ 0 % 4 = 1 := pz_gj hE 0 (Nat.le_of_ble_eq_true rfl) rfl
  have j1 : ρ 1 % 4 = 1 := pz_gj hE 1 (Nat.le_of_ble_eq_true rfl) rfl
  obtain ⟨i2a, i2b, i2c, i2d⟩ := pz_gi hE 2 2147483648 2147483747 (Nat.le_of_ble_eq_true rfl) rfl
  obtain ⟨i3a, i3b, i3c, i3d⟩ := pz_gi hE 3 2147484651 2147484656 (Nat.le_of_ble_eq_true rfl) rfl
  have c_opened : ay_at hp 173 27 = some (ρ 2) := ay_gfj hE 702 108 11 173 27 ax_m1 (ax_vlq rfl rfl) (ax_vlj rfl rfl)
  have c_open : ay_at hp 185 (ρ 2 / 4) = some (ρ 3) := ay_gf hE 750 11 15 185 ax_m2 (ax_vlq rfl rfl)
  obtain ⟨-, -, F254⟩ : ay_ex hp 173 ∧ ay_ex hp 185 ∧ py_y254 (ρ 0) (ρ 1) (ay_at hp 173 27) (ay_at hp 185) := (ax_XF_lt (x := 254) (Nat.le_of_ble_eq_true rfl)).mp (ax_gx hE (254, [3, 7]) ax_m0)
  rw [c_opened] at F254
  refine ⟨(fun y hy => by cases hy), _, List.mem_cons_self, ρ, fun _ _ => rfl, ax_px hE rfl (fun x hx => ?_)⟩
  cases List.mem_singleton.mp hx
  refine (ax_XF_lt (x := 251) (Nat.le_of_ble_eq_true rfl)).mpr ?_
  show py_251 (ρ 0) (ρ 3) (ρ 1)
  obtain ⟨c, h1, h2⟩ := F254
  replace h1 : ay_at hp 185 (ρ 2 / 4) = _ := h1
  rw [c_open] at h1
  have e := Option.some.inj h1
  unfold py_251
  rw [h2, show ρ 3 / 4 = c by omega]
theorem axq0_lp6M : ax_RO ax_wM0 (ax_XM 0) axu0_lp6M := axqg_lp6M ax_WW0
theorem axqg_cn2 {w : ax_W} {b : Nat} (hw : ax_WW w) : ax_RO w (ax_XM b) axu0_cn2 := by
  intro ρ hp hE hT
  have j0 : ρ 0 % 4 = 1 := pz_gj hE 0 (Nat.le_of_ble_eq_true rfl) rfl
  have j1 : ρ 1 % 4 = 1 := pz_gj hE 1 (Nat.le_of_ble_eq_true rfl) rfl
  obtain ⟨i2a, i2b, i2c, i2d⟩ := pz_gi hE 2 0 4294967295 (Nat.le_of_ble_eq_true rfl) rfl
  obtain ⟨i3a, i3b, i3c, i3d⟩ := pz_gi hE 3 2147483648 2147483654 (Nat.le_of_ble_eq_true rfl) rfl
  have c_deep : ay_at hp 173 28 = some (ρ 3) := ay_gfj hE 702 112 15 173 28 ax_m2 (ax_vlq rfl rfl) (ax_vlj rfl rfl)
  have s1 : (ρ 2 / 4 + 2147483648) % 4294967296 + (4 / 4 + 2147483648) % 4294967296 = (ρ 3 / 4 + 2147483648) % 4294967296 + 2147483648 := pz_gs hE 11 4 15 ax_m3
  have F208 : ((ρ 1) / 4 = 2 * ((ρ 0) / 4) + 1 ∧ 1 ≤ (ρ 0) / 4) := (ax_XF_lt (x := 208) (Nat.le_of_ble_eq_true rfl)).mp (ax_gx hE (208, [3, 7]) ax_m0)
  obtain ⟨-, F195⟩ : ay_ex hp 173 ∧ ay_ln (ay_at hp 173 28) = pz_dp ((ρ 1) / 4) := (ax_XF_lt (x := 195) (Nat.le_of_ble_eq_true rfl)).mp (ax_gx hE (195, [7]) ax_m1)
  rw [c_deep] at F195
  have e : ρ 3 / 4 = pz_dp (ρ 1 / 4) := F195
  rw [F208.1, pz_dp_push (s := ρ 0 / 4) F208.2 (Or.inr rfl)] at e
  refine ⟨(fun y hy => by cases hy), _, List.mem_cons_self, ρ, fun _ _ => rfl, ax_px hE rfl (fun x hx => ?_)⟩
  cases List.mem_singleton.mp hx
  refine (ax_XF_wr (x := 195) (Nat.le_of_ble_eq_true rfl)).mpr ?_
  show ay_ex (ax_upd hp 702 (112) (ρ 2)) 173 ∧ ay_ln (ay_at (ax_upd hp 702 (112) (ρ 2)) 173 28) = pz_dp ((ρ 0) / 4)
  obtain ⟨o0, ho0⟩ := ay_some hT (q := 173) (g := 11) (n := 58) (ax_wc hw ax_cg_173) (ax_wn hw ax_cn_11) (j := 112 / 4) (Nat.le_of_ble_eq_true rfl)
  have u1 : ∀ q, q ≠ 173 → ay_at (ax_upd hp 702 112 (ρ 2)) q = ay_at hp q := fun q hq => funext (fun j => ay_upd_ne hT.1 hq j)
  have u2 : ∀ j, ay_at (ax_upd hp 702 112 (ρ 2)) 173 j = if j = 28 then some (ρ 2) else ay_at hp 173 j := fun j => ay_upd_eq hT.1 rfl ho0 j
  refine ⟨ay_ex_upd hT.1 (ax_cellT hT (q := 173) (g := 11) (ax_wc hw ax_cg_173)), ?_⟩
  rw [u2 28, if_pos rfl]
  show ρ 2 / 4 = _
  omega
theorem axq0_cn2 : ax_RO ax_wM0 (ax_XM 0) axu0_cn2 := axqg_cn2 ax_WW0
theorem axqg_cn3 {w : ax_W} {b : Nat} (hw : ax_WW w) : ax_RO w (ax_XM b) axu0_cn3 := by
  intro ρ hp hE hT
  have j0 : ρ 0 % 4 = 1 := pz_gj hE 0 (Nat.le_of_ble_eq_true rfl) rfl
  have j1 : ρ 1 % 4 = 1 := pz_gj hE 1 (Nat.le_of_ble_eq_true rfl) rfl
  have j2 : ρ 2 % 4 = 1 := pz_gj hE 2 (Nat.le_of_ble_eq_true rfl) rfl
  obtain ⟨-, -, F196⟩ : ay_ex hp 173 ∧ ay_ex hp 185 ∧ pz_y196 (ρ 1) (ay_at hp 173 27) (ay_at hp 185) := (ax_XF_lt (x := 196) (Nat.le_of_ble_eq_true rfl)).mp (ax_gx hE (196, [7]) ax_m0)
  have F208 : ((ρ 2) / 4 = 2 * ((ρ 1) / 4) + 1 ∧ 1 ≤ (ρ 1) / 4) := (ax_XF_lt (x := 208) (Nat.le_of_ble_eq_true rfl)).mp (ax_gx hE (208, [7, 11]) ax_m1)
  have F209 : pz_strip ((ρ 0) / 4) = pz_strip ((ρ 2) / 4) := (ax_XF_lt (x := 209) (Nat.le_of_ble_eq_true rfl)).mp (ax_gx hE (209, [3, 11]) ax_m2)
  refine ⟨(fun y hy => by cases hy), _, List.mem_cons_self, ρ, fun _ _ => rfl, ax_px hE rfl (fun x hx => ?_)⟩
  cases List.mem_singleton.mp hx
  refine (ax_XF_lt (x := 209) (Nat.le_of_ble_eq_true rfl)).mpr ?_
  show pz_strip ((ρ 0) / 4) = pz_strip ((ρ 1) / 4)
  rw [F209, F208.1]
  exact pz_strip_odd F208.2
theorem axq0_cn3 : ax_RO ax_wM0 (ax_XM 0) axu0_cn3 := axqg_cn3 ax_WW0
theorem axqg_cnE {w : ax_W} {b : Nat} (hw : ax_WW w) : ax_RO w (ax_XM b) axu0_cnE := by
  intro ρ hp hE hT
  have j0 : ρ 0 % 4 = 1 := pz_gj hE 0 (Nat.le_of_ble_eq_true rfl) rfl
  have j1 : ρ 1 % 4 = 1 := pz_gj hE 1 (Nat.le_of_ble_eq_true rfl) rfl
  obtain ⟨i2a, i2b, i2c, i2d⟩ := pz_gi hE 2 2147483648 2147483648 (Nat.le_of_ble_eq_true rfl) rfl
  have c_opened : ay_at hp 173 27 = some (ρ 2) := ay_gfj hE 702 108 11 173 27 ax_m2 (ax_vlq rfl rfl) (ax_vlj rfl rfl)
  obtain ⟨-, -, F196⟩ : ay_ex hp 173 ∧ ay_ex hp 185 ∧ pz_y196 (ρ 1) (ay_at hp 173 27) (ay_at hp 185) := (ax_XF_lt (x := 196) (Nat.le_of_ble_eq_true rfl)).mp (ax_gx hE (196, [7]) ax_m0)
  rw [c_opened] at F196
  have F209 : pz_strip ((ρ 0) / 4) = pz_strip ((ρ 1) / 4) := (ax_XF_lt (x := 209) (Nat.le_of_ble_eq_true rfl)).mp (ax_gx hE (209, [3, 7]) ax_m1)
  have hs : pz_strip (ρ 1 / 4) = ρ 1 / 4 := by
    have e : pz_os (ay_at hp 185) (ρ 2 / 4) = ρ 1 / 4 := F196.1
    rw [← e]
    exact pz_strip_even (pz_os_ev _ (fun j hj => F196.2 j hj) (fun j hj => by omega))
  refine ⟨(fun y hy => by cases hy), _, List.mem_cons_self, ρ, fun _ _ => rfl, ax_px hE rfl (fun x hx => ?_)⟩
  rcases List.mem_cons.mp hx with e | hx
  · subst e
    refine (ax_XF_lt (x := 192) (Nat.le_of_ble_eq_true rfl)).mpr ?_
    show pz_strip ((ρ 0) / 4) = (ρ 1) / 4
    rw [F209]
    exact hs
  cases List.mem_singleton.mp hx
  refine (ax_XF_lt (x := 192) (Nat.le_of_ble_eq_true rfl)).mpr ?_
  show pz_strip ((ρ 1) / 4) = (ρ 1) / 4
  exact hs
theorem axq0_cnE : ax_RO ax_wM0 (ax_XM 0) axu0_cnE := axqg_cnE ax_WW0
theorem axqg_cnF0 {w : ax_W} {b : Nat} (hw : ax_WW w) : ax_RO w (ax_XM b) axu0_cnF0 := by
  intro ρ hp hE hT
  have j0 : ρ 0 % 4 = 1 := pz_gj hE 0 (Nat.le_of_ble_eq_true rfl) rfl
  have j1 : ρ 1 % 4 = 1 := pz_gj hE 1 (Nat.le_of_ble_eq_true rfl) rfl
  obtain ⟨i2a, i2b, i2c, i2d⟩ := pz_gi hE 2 2147483649 2147483748 (Nat.le_of_ble_eq_true rfl) rfl
  obtain ⟨i3a, i3b, i3c, i3d⟩ := pz_gi hE 3 2147483648 2147483747 (Nat.le_of_ble_eq_true rfl) rfl
  obtain ⟨i4a, i4b, i4c, i4d⟩ := pz_gi hE 4 0 2147484655 (Nat.le_of_ble_eq_true rfl) rfl
  have c_opened : ay_at hp 173 27 = some (ρ 2) := ay_gfj hE 702 108 11 173 27 ax_m2 (ax_vlq rfl rfl) (ax_vlj rfl rfl)
  have s1 : (ρ 3 / 4 + 2147483648) % 4294967296 + (4 / 4 + 2147483648) % 4294967296 = (ρ 2 / 4 + 2147483648) % 4294967296 + 2147483648 := pz_gs hE 15 4 11 ax_m3
  have c_open : ay_at hp 185 (ρ 3 / 4) = some (ρ 4) := ay_gf hE 750 15 19 185 ax_m4 (ax_vlq rfl rfl)
  obtain ⟨-, -, F196⟩ : ay_ex hp 173 ∧ ay_ex hp 185 ∧ pz_y196 (ρ 1) (ay_at hp 173 27) (ay_at hp 185) := (ax_XF_lt (x := 196) (Nat.le_of_ble_eq_true rfl)).mp (ax_gx hE (196, [7]) ax_m0)
  rw [c_opened] at F196
  have F209 : pz_strip ((ρ 0) / 4) = pz_strip ((ρ 1) / 4) := (ax_XF_lt (x := 209) (Nat.le_of_ble_eq_true rfl)).mp (ax_gx hE (209, [3, 7]) ax_m1)
  have hs : pz_strip (ρ 1 / 4) = ρ 1 / 4 := by
    have e : pz_os (ay_at hp 185) (ρ 2 / 4) = ρ 1 / 4 := F196.1
    rw [← e]
    exact pz_strip_even (pz_os_ev _ (fun j hj => F196.2 j hj) (fun j hj => (by rw [show j = ρ 3 / 4 by omega, c_open]; intro z; have := Option.some.inj z; omega)))
  refine ⟨(fun y hy => by cases hy), _, List.mem_cons_self, ρ, fun _ _ => rfl, ax_px hE rfl (fun x hx => ?_)⟩
  rcases List.mem_cons.mp hx with e | hx
  · subst e
    refine (ax_XF_lt (x := 192) (Nat.le_of_ble_eq_true rfl)).mpr ?_
    show pz_strip ((ρ 0) / 4) = (ρ 1) / 4
    rw [F209]
    exact hs
  cases List.mem_singleton.mp hx
  refine (ax_XF_lt (x := 192) (Nat.le_of_ble_eq_true rfl)).mpr ?_
  show pz_strip ((ρ 1) / 4) = (ρ 1) / 4
  exact hs
theorem axq0_cnF0 : ax_RO ax_wM0 (ax_XM 0) axu0_cnF0 := axqg_cnF0 ax_WW0
theorem axqg_cnF1 {w : ax_W} {b : Nat} (hw : ax_WW w) : ax_RO w (ax_XM b) axu0_cnF1 := by
  intro ρ hp hE hT
  have j0 : ρ 0 % 4 = 1 := pz_gj hE 0 (Nat.le_of_ble_eq_true rfl) rfl
  have j1 : ρ 1 % 4 = 1 := pz_gj hE 1 (Nat.le_of_ble_eq_true rfl) rfl
  obtain ⟨i2a, i2b, i2c, i2d⟩ := pz_gi hE 2 2147483649 2147483748 (Nat.le_of_ble_eq_true rfl) rfl
  obtain ⟨i3a, i3b, i3c, i3d⟩ := pz_gi hE 3 2147483648 2147483747 (Nat.le_of_ble_eq_true rfl) rfl
  obtain ⟨i4a, i4b, i4c, i4d⟩ := pz_gi hE 4 2147484657 4294967295 (Nat.le_of_ble_eq_true rfl) rfl
  have c_opened : ay_at hp 173 27 = some (ρ 2) := ay_gfj hE 702 108 11 173 27 ax_m2 (ax_vlq rfl rfl) (ax_vlj rfl rfl)
  have s1 : (ρ 3 / 4 + 2147483648) % 4294967296 + (4 / 4 + 2147483648) % 4294967296 = (ρ 2 / 4 + 2147483648) % 4294967296 + 2147483648 := pz_gs hE 15 4 11 ax_m3
  have c_open : ay_at hp 185 (ρ 3 / 4) = some (ρ 4) := ay_gf hE 750 15 19 185 ax_m4 (ax_vlq rfl rfl)
  obtain ⟨-, -, F196⟩ : ay_ex hp 173 ∧ ay_ex hp 185 ∧ pz_y196 (ρ 1) (ay_at hp 173 27) (ay_at hp 185) := (ax_XF_lt (x := 196) (Nat.le_of_ble_eq_true rfl)).mp (ax_gx hE (196, [7]) ax_m0)
  rw [c_opened] at F196
  have F209 : pz_strip ((ρ 0) / 4) = pz_strip ((ρ 1) / 4) := (ax_XF_lt (x := 209) (Nat.le_of_ble_eq_true rfl)).mp (ax_gx hE (209, [3, 7]) ax_m1)
  have hs : pz_strip (ρ 1 / 4) = ρ 1 / 4 := by
    have e : pz_os (ay_at hp 185) (ρ 2 / 4) = ρ 1 / 4 := F196.1
    rw [← e]
    exact pz_strip_even (pz_os_ev _ (fun j hj => F196.2 j hj) (fun j hj => (by rw [show j = ρ 3 / 4 by omega, c_open]; intro z; have := Option.some.inj z; omega)))
  refine ⟨(fun y hy => by cases hy), _, List.mem_cons_self, ρ, fun _ _ => rfl, ax_px hE rfl (fun x hx => ?_)⟩
  rcases List.mem_cons.mp hx with e | hx
  · subst e
    refine (ax_XF_lt (x := 192) (Nat.le_of_ble_eq_true rfl)).mpr ?_
    show pz_strip ((ρ 0) / 4) = (ρ 1) / 4
    rw [F209]
    exact hs
  cases List.mem_singleton.mp hx
  refine (ax_XF_lt (x := 192) (Nat.le_of_ble_eq_true rfl)).mpr ?_
  show pz_strip ((ρ 1) / 4) = (ρ 1) / 4
  exact hs
theorem axq0_cnF1 : ax_RO ax_wM0 (ax_XM 0) axu0_cnF1 := axqg_cnF1 ax_WW0
theorem axq0_cm6 : ax_RO ax_wM0 (ax_XM 0) axu0_cm6 := by
  intro ρ hp hE hT
  have j0 : ρ 0 % 4 = 1 := pz_gj hE 0 (Nat.le_of_ble_eq_true rfl) rfl
  have j1 : ρ 1 % 4 = 1 := pz_gj hE 1 (Nat.le_of_ble_eq_true rfl) rfl
  have j2 : ρ 2 % 4 = 1 := pz_gj hE 2 (Nat.le_of_ble_eq_true rfl) rfl
  have j3 : ρ 3 % 4 = 1 := pz_gj hE 3 (Nat.le_of_ble_eq_true rfl) rfl
  have j4 : ρ 4 % 4 = 1 := pz_gj hE 4 (Nat.le_of_ble_eq_true rfl) rfl
  have j5 : ρ 5 % 4 = 1 := pz_gj hE 5 (Nat.le_of_ble_eq_true rfl) rfl
  obtain ⟨i6a, i6b, i6c, i6d⟩ := pz_gi hE 6 2147484656 2147484656 (Nat.le_of_ble_eq_true rfl) rfl
  obtain ⟨-, -, F242⟩ : ay_ex hp 173 ∧ ay_ex hp 185 ∧ py_y242 (ρ 4) (ay_at hp 173 27) (ay_at hp 185) := (ax_XF_lt (x := 242) (Nat.le_of_ble_eq_true rfl)).mp (ax_gx hE (242, [19]) ax_m0)
  obtain ⟨-, -, F241⟩ : ay_ex hp 180 ∧ ay_ex hp 182 ∧ py_y241 1 (ρ 5) (ay_at hp 180 1) (ay_at hp 182) := (ax_XF_lt (x := 241) (Nat.le_of_ble_eq_true rfl)).mp (ax_gx hE (241, [23]) ax_m1)
  have F251 : py_251 (ρ 2) (ρ 6) (ρ 4) := (ax_XF_lt (x := 251) (Nat.le_of_ble_eq_true rfl)).mp (ax_gx hE (251, [11, 27, 19]) ax_m2)
  have F251a : py_251 (ρ 5) (ρ 6) (ρ 3) := (ax_XF_lt (x := 251) (Nat.le_of_ble_eq_true rfl)).mp (ax_gx hE (251, [23, 27, 15]) ax_m3)
  have F249 : py_249 (ρ 0) (ρ 1) (ρ 2) (ρ 3) := (ax_XF_lt (x := 249) (Nat.le_of_ble_eq_true rfl)).mp (ax_gx hE (249, [3, 7, 11, 15]) ax_m4)
  refine ⟨(fun y hy => by cases hy), _, List.mem_cons_self, ρ, fun _ _ => rfl, ax_px hE rfl (fun x hx => ?_)⟩
  cases List.mem_singleton.mp hx
  refine (ax_XF_lt (x := 249) (Nat.le_of_ble_eq_true rfl)).mpr ?_
  show py_249 (ρ 0) (ρ 1) (ρ 4) (ρ 5)
  exact pm_cm6 F249 F251 F251a (by omega)

theorem axq0_cm7 : ax_RO ax_wM0 (ax_XM 0) axu0_cm7 := by
  intro ρ hp hE hT
  have j0 : ρ 0 % 4 = 1 := pz_gj hE 0 (Nat.le_of_ble_eq_true rfl) rfl
  have j1 : ρ 1 % 4 = 1 := pz_gj hE 1 (Nat.le_of_ble_eq_true rfl) rfl
  have j2 : ρ 2 % 4 = 1 := pz_gj hE 2 (Nat.le_of_ble_eq_true rfl) rfl
  have j3 : ρ 3 % 4 = 1 := pz_gj hE 3 (Nat.le_of_ble_eq_true rfl) rfl
  obtain ⟨i4a, i4b, i4c, i4d⟩ := pz_gi hE 4 2147483648 2147483648 (Nat.le_of_ble_eq_true rfl) rfl
  have c_opened : ay_at hp 173 27 = some (ρ 4) := ay_gfj hE 702 108 19 173 27 ax_m3 (ax_vlq rfl rfl) (ax_vlj rfl rfl)
  obtain ⟨-, -, F242⟩ : ay_ex hp 173 ∧ ay_ex hp 185 ∧ py_y242 (ρ 2) (ay_at hp 173 27) (ay_at hp 185) := (ax_XF_lt (x := 242) (Nat.le_of_ble_eq_true rfl)).mp (ax_gx hE (242, [11]) ax_m0)
  rw [c_opened] at F242
  obtain ⟨-, -, F241⟩ : ay_ex hp 180 ∧ ay_ex hp 182 ∧ py_y241 1 (ρ 3) (ay_at hp 180 1) (ay_at hp 182) := (ax_XF_lt (x := 241) (Nat.le_of_ble_eq_true rfl)).mp (ax_gx hE (241, [15]) ax_m1)
  have F249 : py_249 (ρ 0) (ρ 1) (ρ 2) (ρ 3) := (ax_XF_lt (x := 249) (Nat.le_of_ble_eq_true rfl)).mp (ax_gx hE (249, [3, 7, 11, 15]) ax_m2)
  refine ⟨(fun y hy => by cases hy), _, List.mem_cons_self, ρ, fun _ _ => rfl, ax_px hE rfl (fun x hx => ?_)⟩
  cases List.mem_singleton.mp hx
  refine (ax_XF_lt (x := 253) (Nat.le_of_ble_eq_true rfl)).mpr ?_
  show py_253 (ρ 0) (ρ 1) (ρ 2) (ρ 3)
  exact pm_cm7 F249 (by rw [py_none F242 (show ρ 4 / 4 = 0 by omega)]; decide)

theorem axq0_cm80 : ax_RO ax_wM0 (ax_XM 0) axu0_cm80 := by
  intro ρ hp hE hT
  have j0 : ρ 0 % 4 = 1 := pz_gj hE 0 (Nat.le_of_ble_eq_true rfl) rfl
  have j1 : ρ 1 % 4 = 1 := pz_gj hE 1 (Nat.le_of_ble_eq_true rfl) rfl
  have j2 : ρ 2 % 4 = 1 := pz_gj hE 2 (Nat.le_of_ble_eq_true rfl) rfl
  have j3 : ρ 3 % 4 = 1 := pz_gj hE 3 (Nat.le_of_ble_eq_true rfl) rfl
  obtain ⟨i4a, i4b, i4c, i4d⟩ := pz_gi hE 4 2147483649 2147483748 (Nat.le_of_ble_eq_true rfl) rfl
  obtain ⟨i5a, i5b, i5c, i5d⟩ := pz_gi hE 5 2147483648 2147483747 (Nat.le_of_ble_eq_true rfl) rfl
  obtain ⟨i6a, i6b, i6c, i6d⟩ := pz_gi hE 6 0 2147484655 (Nat.le_of_ble_eq_true rfl) rfl
  have c_opened : ay_at hp 173 27 = some (ρ 4) := ay_gfj hE 702 108 19 173 27 ax_m3 (ax_vlq rfl rfl) (ax_vlj rfl rfl)
  have s1 : (ρ 5 / 4 + 2147483648) % 4294967296 + (4 / 4 + 2147483648) % 4294967296 = (ρ 4 / 4 + 2147483648) % 4294967296 + 2147483648 := pz_gs hE 23 4 19 ax_m4
  have c_open : ay_at hp 185 (ρ 5 / 4) = some (ρ 6) := ay_gf hE 750 23 27 185 ax_m5 (ax_vlq rfl rfl)
  obtain ⟨-, -, F242⟩ : ay_ex hp 173 ∧ ay_ex hp 185 ∧ py_y242 (ρ 2) (ay_at hp 173 27) (ay_at hp 185) := (ax_XF_lt (x := 242) (Nat.le_of_ble_eq_true rfl)).mp (ax_gx hE (242, [11]) ax_m0)
  rw [c_opened] at F242
  obtain ⟨-, -, F241⟩ : ay_ex hp 180 ∧ ay_ex hp 182 ∧ py_y241 1 (ρ 3) (ay_at hp 180 1) (ay_at hp 182) := (ax_XF_lt (x := 241) (Nat.le_of_ble_eq_true rfl)).mp (ax_gx hE (241, [15]) ax_m1)
  have F249 : py_249 (ρ 0) (ρ 1) (ρ 2) (ρ 3) := (ax_XF_lt (x := 249) (Nat.le_of_ble_eq_true rfl)).mp (ax_gx hE (249, [3, 7, 11, 15]) ax_m2)
  obtain ⟨c, T, t1, t2, t3, t4, t5, t6, t7⟩ := py_take (o := ρ 5 / 4) F242 (show ρ 4 / 4 = ρ 5 / 4 + 1 by omega)
  rw [c_open] at t3
  have te := Option.some.inj t3
  have tk : c = ρ 6 / 4 := by omega
  refine ⟨(fun y hy => by cases hy), _, List.mem_cons_self, ρ, fun _ _ => rfl, ax_px hE rfl (fun x hx => ?_)⟩
  cases List.mem_singleton.mp hx
  refine (ax_XF_lt (x := 253) (Nat.le_of_ble_eq_true rfl)).mpr ?_
  show py_253 (ρ 0) (ρ 1) (ρ 2) (ρ 3)
  exact pm_cm7 F249 (by rw [t1]; show c ≠ 1008; omega)

theorem axq0_cm81 : ax_RO ax_wM0 (ax_XM 0) axu0_cm81 := by
  intro ρ hp hE hT
  have j0 : ρ 0 % 4 = 1 := pz_gj hE 0 (Nat.le_of_ble_eq_true rfl) rfl
  have j1 : ρ 1 % 4 = 1 := pz_gj hE 1 (Nat.le_of_ble_eq_true rfl) rfl
  have j2 : ρ 2 % 4 = 1 := pz_gj hE 2 (Nat.le_of_ble_eq_true rfl) rfl
  have j3 : ρ 3 % 4 = 1 := pz_gj hE 3 (Nat.le_of_ble_eq_true rfl) rfl
  obtain ⟨i4a, i4b, i4c, i4d⟩ := pz_gi hE 4 2147483649 2147483748 (Nat.le_of_ble_eq_true rfl) rfl
  obtain ⟨i5a, i5b, i5c, i5d⟩ := pz_gi hE 5 2147483648 2147483747 (Nat.le_of_ble_eq_true rfl) rfl
  obtain ⟨i6a, i6b, i6c, i6d⟩ := pz_gi hE 6 2147484657 4294967295 (Nat.le_of_ble_eq_true rfl) rfl
  have c_opened : ay_at hp 173 27 = some (ρ 4) := ay_gfj hE 702 108 19 173 27 ax_m3 (ax_vlq rfl rfl) (ax_vlj rfl rfl)
  have s1 : (ρ 5 / 4 + 2147483648) % 4294967296 + (4 / 4 + 2147483648) % 4294967296 = (ρ 4 / 4 + 2147483648) % 4294967296 + 2147483648 := pz_gs hE 23 4 19 ax_m4
  have c_open : ay_at hp 185 (ρ 5 / 4) = some (ρ 6) := ay_gf hE 750 23 27 185 ax_m5 (ax_vlq rfl rfl)
  obtain ⟨-, -, F242⟩ : ay_ex hp 173 ∧ ay_ex hp 185 ∧ py_y242 (ρ 2) (ay_at hp 173 27) (ay_at hp 185) := (ax_XF_lt (x := 242) (Nat.le_of_ble_eq_true rfl)).mp (ax_gx hE (242, [11]) ax_m0)
  rw [c_opened] at F242
  obtain ⟨-, -, F241⟩ : ay_ex hp 180 ∧ ay_ex hp 182 ∧ py_y241 1 (ρ 3) (ay_at hp 180 1) (ay_at hp 182) := (ax_XF_lt (x := 241) (Nat.le_of_ble_eq_true rfl)).mp (ax_gx hE (241, [15]) ax_m1)
  have F249 : py_249 (ρ 0) (ρ 1) (ρ 2) (ρ 3) := (ax_XF_lt (x := 249) (Nat.le_of_ble_eq_true rfl)).mp (ax_gx hE (249, [3, 7, 11, 15]) ax_m2)
  obtain ⟨c, T, t1, t2, t3, t4, t5, t6, t7⟩ := py_take (o := ρ 5 / 4) F242 (show ρ 4 / 4 = ρ 5 / 4 + 1 by omega)
  rw [c_open] at t3
  have te := Option.some.inj t3
  have tk : c = ρ 6 / 4 := by omega
  refine ⟨(fun y hy => by cases hy), _, List.mem_cons_self, ρ, fun _ _ => rfl, ax_px hE rfl (fun x hx => ?_)⟩
  cases List.mem_singleton.mp hx
  refine (ax_XF_lt (x := 253) (Nat.le_of_ble_eq_true rfl)).mpr ?_
  show py_253 (ρ 0) (ρ 1) (ρ 2) (ρ 3)
  exact pm_cm7 F249 (by rw [t1]; show c ≠ 1008; omega)

theorem axqg_cp3 {w : ax_W} {b : Nat} (hw : ax_WW w) : ax_RO w (ax_XM b) axu0_cp3 := by
  intro ρ hp hE hT
  have j0 : ρ 0 % 4 = 1 := pz_gj hE 0 (Nat.le_of_ble_eq_true rfl) rfl
  have j1 : ρ 1 % 4 = 1 := pz_gj hE 1 (Nat.le_of_ble_eq_true rfl) rfl
  obtain ⟨i2a, i2b, i2c, i2d⟩ := pz_gi hE 2 2147483648 2147483747 (Nat.le_of_ble_eq_true rfl) rfl
  obtain ⟨i3a, i3b, i3c, i3d⟩ := pz_gi hE 3 2147483649 2147483748 (Nat.le_of_ble_eq_true rfl) rfl
  obtain ⟨i4a, i4b, i4c, i4d⟩ := pz_gi hE 4 2147484657 2147484657 (Nat.le_of_ble_eq_true rfl) rfl
  have c_opened : ay_at hp 173 27 = some (ρ 3) := ay_gfj hE 702 108 15 173 27 ax_m2 (ax_vlq rfl rfl) (ax_vlj rfl rfl)
  have s1 : (ρ 2 / 4 + 2147483648) % 4294967296 + (4 / 4 + 2147483648) % 4294967296 = (ρ 3 / 4 + 2147483648) % 4294967296 + 2147483648 := pz_gs hE 11 4 15 ax_m3
  have c_open : ay_at hp 185 (ρ 2 / 4) = some (ρ 4) := ay_gf hE 750 11 19 185 ax_m4 (ax_vlq rfl rfl)
  obtain ⟨-, -, F196⟩ : ay_ex hp 173 ∧ ay_ex hp 185 ∧ pz_y196 (ρ 0) (ay_at hp 173 27) (ay_at hp 185) := (ax_XF_lt (x := 196) (Nat.le_of_ble_eq_true rfl)).mp (ax_gx hE (196, [3]) ax_m0)
  rw [c_opened] at F196
  have F193 : ((ρ 0) / 4 = 2 * ((ρ 1) / 4) ∧ 1 ≤ (ρ 1) / 4) := (ax_XF_lt (x := 193) (Nat.le_of_ble_eq_true rfl)).mp (ax_gx hE (193, [3, 7]) ax_m1)
  have eo : ρ 3 / 4 = ρ 2 / 4 + 1 := by omega
  have hc : ay_at hp 185 (ρ 2 / 4) = some 4036 := by rw [c_open]; exact congrArg some (by omega)
  refine ⟨(fun y hy => by cases hy), _, List.mem_cons_self, ρ, fun _ _ => rfl, ax_px hE rfl (fun x hx => ?_)⟩
  cases List.mem_singleton.mp hx
  refine (ax_XF_wr (x := 196) (Nat.le_of_ble_eq_true rfl)).mpr ?_
  show ay_ex (ax_upd hp 702 (108) (ρ 2)) 173 ∧ ay_ex (ax_upd hp 702 (108) (ρ 2)) 185 ∧ pz_y196 (ρ 1) (ay_at (ax_upd hp 702 (108) (ρ 2)) 173 27) (ay_at (ax_upd hp 702 (108) (ρ 2)) 185)
  obtain ⟨o0, ho0⟩ := ay_some hT (q := 173) (g := 11) (n := 58) (ax_wc hw ax_cg_173) (ax_wn hw ax_cn_11) (j := 108 / 4) (Nat.le_of_ble_eq_true rfl)
  have u1 : ∀ q, q ≠ 173 → ay_at (ax_upd hp 702 108 (ρ 2)) q = ay_at hp q := fun q hq => funext (fun j => ay_upd_ne hT.1 hq j)
  have u2 : ∀ j, ay_at (ax_upd hp 702 108 (ρ 2)) 173 j = if j = 27 then some (ρ 2) else ay_at hp 173 j := fun j => ay_upd_eq hT.1 rfl ho0 j
  refine ⟨ay_ex_upd hT.1 (ax_cellT hT (q := 173) (g := 11) (ax_wc hw ax_cg_173)), ay_ex_upd hT.1 (ax_cellT hT (q := 185) (g := 55) (ax_wc hw ax_cg_185)), ?_⟩
  rw [u2 27, if_pos rfl, u1 185 (Nat.ne_of_beq_eq_false rfl)]
  have e : pz_os (ay_at hp 185) (ρ 3 / 4) = ρ 0 / 4 := F196.1
  rw [eo, pz_os_O hc, F193.1] at e
  refine ⟨?_, fun j hj => F196.2 j (by show j + 1 < ρ 3 / 4; replace hj : j + 1 < ρ 2 / 4 := hj; omega)⟩
  show pz_os (ay_at hp 185) (ρ 2 / 4) = _
  omega
theorem axq0_cp3 : ax_RO ax_wM0 (ax_XM 0) axu0_cp3 := axqg_cp3 ax_WW0
theorem axqg_cp4 {w : ax_W} {b : Nat} (hw : ax_WW w) : ax_RO w (ax_XM b) axu0_cp4 := by
  intro ρ hp hE hT
  have j0 : ρ 0 % 4 = 1 := pz_gj hE 0 (Nat.le_of_ble_eq_true rfl) rfl
  have j1 : ρ 1 % 4 = 1 := pz_gj hE 1 (Nat.le_of_ble_eq_true rfl) rfl
  obtain ⟨i2a, i2b, i2c, i2d⟩ := pz_gi hE 2 0 4294967295 (Nat.le_of_ble_eq_true rfl) rfl
  obtain ⟨i3a, i3b, i3c, i3d⟩ := pz_gi hE 3 2147483649 2147483654 (Nat.le_of_ble_eq_true rfl) rfl
  have c_deep : ay_at hp 173 28 = some (ρ 3) := ay_gfj hE 702 112 15 173 28 ax_m2 (ax_vlq rfl rfl) (ax_vlj rfl rfl)
  have s1 : (ρ 2 / 4 + 2147483648) % 4294967296 + (4 / 4 + 2147483648) % 4294967296 = (ρ 3 / 4 + 2147483648) % 4294967296 + 2147483648 := pz_gs hE 11 4 15 ax_m3
  obtain ⟨-, F195⟩ : ay_ex hp 173 ∧ ay_ln (ay_at hp 173 28) = pz_dp ((ρ 0) / 4) := (ax_XF_lt (x := 195) (Nat.le_of_ble_eq_true rfl)).mp (ax_gx hE (195, [3]) ax_m0)
  rw [c_deep] at F195
  have F193 : ((ρ 0) / 4 = 2 * ((ρ 1) / 4) ∧ 1 ≤ (ρ 1) / 4) := (ax_XF_lt (x := 193) (Nat.le_of_ble_eq_true rfl)).mp (ax_gx hE (193, [3, 7]) ax_m1)
  have e : ρ 3 / 4 = pz_dp (ρ 0 / 4) := F195
  rw [F193.1, pz_dp_push (s := ρ 1 / 4) F193.2 (Or.inl rfl)] at e
  refine ⟨(fun y hy => by cases hy), _, List.mem_cons_self, ρ, fun _ _ => rfl, ax_px hE rfl (fun x hx => ?_)⟩
  cases List.mem_singleton.mp hx
  refine (ax_XF_wr (x := 195) (Nat.le_of_ble_eq_true rfl)).mpr ?_
  show ay_ex (ax_upd hp 702 (112) (ρ 2)) 173 ∧ ay_ln (ay_at (ax_upd hp 702 (112) (ρ 2)) 173 28) = pz_dp ((ρ 1) / 4)
  obtain ⟨o0, ho0⟩ := ay_some hT (q := 173) (g := 11) (n := 58) (ax_wc hw ax_cg_173) (ax_wn hw ax_cn_11) (j := 112 / 4) (Nat.le_of_ble_eq_true rfl)
  have u1 : ∀ q, q ≠ 173 → ay_at (ax_upd hp 702 112 (ρ 2)) q = ay_at hp q := fun q hq => funext (fun j => ay_upd_ne hT.1 hq j)
  have u2 : ∀ j, ay_at (ax_upd hp 702 112 (ρ 2)) 173 j = if j = 28 then some (ρ 2) else ay_at hp 173 j := fun j => ay_upd_eq hT.1 rfl ho0 j
  refine ⟨ay_ex_upd hT.1 (ax_cellT hT (q := 173) (g := 11) (ax_wc hw ax_cg_173)), ?_⟩
  rw [u2 28, if_pos rfl]
  show ρ 2 / 4 = _
  omega
theorem axq0_cp4 : ax_RO ax_wM0 (ax_XM 0) axu0_cp4 := axqg_cp4 ax_WW0
theorem axq0_cp5 : ax_RO ax_wM0 (ax_XM 0) axu0_cp5 := by
  intro ρ hp hE hT
  have j0 : ρ 0 % 4 = 1 := pz_gj hE 0 (Nat.le_of_ble_eq_true rfl) rfl
  have j1 : ρ 1 % 4 = 1 := pz_gj hE 1 (Nat.le_of_ble_eq_true rfl) rfl
  have j2 : ρ 2 % 4 = 1 := pz_gj hE 2 (Nat.le_of_ble_eq_true rfl) rfl
  have j3 : ρ 3 % 4 = 1 := pz_gj hE 3 (Nat.le_of_ble_eq_true rfl) rfl
  obtain ⟨-, -, -, -, -, F151⟩ : ay_ex hp 173 ∧ ay_ex hp 173 ∧ ay_ex hp 173 ∧ ay_ex hp 173 ∧ ay_ex hp 173 ∧ pz_y151 (ρ 0) (ρ 1) (ay_at hp 173 13) (ay_at hp 173 14) (ay_at hp 173 15) (ay_at hp 173 16) (ay_at hp 173 17) := (ax_XF_lt (x := 151) (Nat.le_of_ble_eq_true rfl)).mp (ax_gx hE (151, [3, 7]) ax_m0)
  obtain ⟨-, -, -, -, -, -, -, -, -, -, -, F152⟩ : ay_ex hp 175 ∧ ay_ex hp 176 ∧ ay_ex hp 177 ∧ ay_ex hp 178 ∧ ay_ex hp 179 ∧ ay_ex hp 173 ∧ ay_ex hp 173 ∧ ay_ex hp 173 ∧ ay_ex hp 173 ∧ ay_ex hp 173 ∧ ay_ex hp 181 ∧ pz_y152 1 (ρ 0) (ρ 1) (ay_at hp 175 1) (ay_at hp 176 1) (ay_at hp 177 1) (ay_at hp 178 1) (ay_at hp 179 1) (ay_at hp 173 23) (ay_at hp 173 25) (ay_at hp 173 24) (ay_at hp 173 18) (ay_at hp 173 19) (ay_at hp 181) := (ax_XF_lt (x := 152) (Nat.le_of_ble_eq_true rfl)).mp (ax_gx hE (152, [3, 7]) ax_m1)
  have F179 : pz7 (pz_gt (ρ 0)) (pz_gN (ρ 0)) ((ρ 1) / 4) 9 := (ax_XF_lt (x := 179) (Nat.le_of_ble_eq_true rfl)).mp (ax_gx hE (179, [3, 7]) ax_m2)
  have F190 : (pz90 (pz_gt (ρ 0)) (pz_gN (ρ 0)) ((ρ 1) / 4) ((ρ 2) / 4) ∧ 1 ≤ (ρ 2) / 4) := (ax_XF_lt (x := 190) (Nat.le_of_ble_eq_true rfl)).mp (ax_gx hE (190, [3, 7, 11]) ax_m3)
  have F193 : ((ρ 2) / 4 = 2 * ((ρ 3) / 4) ∧ 1 ≤ (ρ 3) / 4) := (ax_XF_lt (x := 193) (Nat.le_of_ble_eq_true rfl)).mp (ax_gx hE (193, [11, 15]) ax_m4)
  have F168 : pz_kd (pz_gt (ρ 0)) (pz_gN (ρ 0)) (pz_p (pz_cF (ρ 0) (ρ 1))) = (164) / 4 := (ax_XF_lt (x := 168) (Nat.le_of_ble_eq_true rfl)).mp (ax_gx hE (168, [3, 7, 164]) ax_m5)
  have st := pq_rs6 (pz_m50 F151 F152) F179 F190.1 F193.1 F193.2 (show _ = 41 from F168)
  obtain ⟨ρ', h1, h2⟩ := pz_pn1 (K := ρ 1 / 4 + 1) (xf := [(153, [3, 19]), (182, [7, 19]), (152, [3, 19]), (179, [3, 19]), (197, [3, 19, 15])]) hE (by decide) (fun ρ' h1 h2 x hx => by
    have q0 : ρ' 0 = ρ 0 := h1 0 (by decide)
    have q1 : ρ' 1 = ρ 1 := h1 1 (by decide)
    have q2 : ρ' 2 = ρ 2 := h1 2 (by decide)
    have q3 : ρ' 3 = ρ 3 := h1 3 (by decide)
    rcases List.mem_cons.mp hx with e | hx
    · subst e
      refine (ax_XF_lt (x := 153) (Nat.le_of_ble_eq_true rfl)).mpr ?_
      show ay_ex hp 173 ∧ pz_at (pz_gt (ρ' 0)) (pz_gN (ρ' 0)) (ay_ln (ay_at hp 173 13)) = pz_at (pz_gt (ρ' 0)) (pz_gN (ρ' 0)) (pz_p (pz_cF (ρ' 0) (ρ' 4)))
      rw [q0, h2]
      refine ⟨(ax_cellT hT (q := 173) (g := 11) ax_cg_173), ?_⟩
      exact pz_l153 (pz_41 _) st.1.1
    rcases List.mem_cons.mp hx with e | hx
    · subst e
      refine (ax_XF_lt (x := 182) (Nat.le_of_ble_eq_true rfl)).mpr ?_
      show (ρ' 4) / 4 = (ρ' 1) / 4 + 1
      rw [q1, h2]
      rw [pz_41]
    rcases List.mem_cons.mp hx with e | hx
    · subst e
      refine (ax_XF_lt (x := 152) (Nat.le_of_ble_eq_true rfl)).mpr ?_
      show ay_ex hp 175 ∧ ay_ex hp 176 ∧ ay_ex hp 177 ∧ ay_ex hp 178 ∧ ay_ex hp 179 ∧ ay_ex hp 173 ∧ ay_ex hp 173 ∧ ay_ex hp 173 ∧ ay_ex hp 173 ∧ ay_ex hp 173 ∧ ay_ex hp 181 ∧ pz_y152 1 (ρ' 0) (ρ' 4) (ay_at hp 175 1) (ay_at hp 176 1) (ay_at hp 177 1) (ay_at hp 178 1) (ay_at hp 179 1) (ay_at hp 173 23) (ay_at hp 173 25) (ay_at hp 173 24) (ay_at hp 173 18) (ay_at hp 173 19) (ay_at hp 181)
      rw [q0, h2]
      refine ⟨(ax_cellT hT (q := 175) (g := 45) ax_cg_175), (ax_cellT hT (q := 176) (g := 46) ax_cg_176), (ax_cellT hT (q := 177) (g := 47) ax_cg_177), (ax_cellT hT (q := 178) (g := 48) ax_cg_178), (ax_cellT hT (q := 179) (g := 49) ax_cg_179), (ax_cellT hT (q := 173) (g := 11) ax_cg_173), (ax_cellT hT (q := 173) (g := 11) ax_cg_173), (ax_cellT hT (q := 173) (g := 11) ax_cg_173), (ax_cellT hT (q := 173) (g := 11) ax_cg_173), (ax_cellT hT (q := 173) (g := 11) ax_cg_173), (ax_cellT hT (q := 181) (g := 51) ax_cg_181), ?_⟩
      exact pz_l152 (pz_41 _) st.1.2
    rcases List.mem_cons.mp hx with e | hx
    · subst e
      refine (ax_XF_lt (x := 179) (Nat.le_of_ble_eq_true rfl)).mpr ?_
      show pz7 (pz_gt (ρ' 0)) (pz_gN (ρ' 0)) ((ρ' 4) / 4) 9
      rw [q0, h2]
      rw [pz_41]
      exact st.2.1
    cases List.mem_singleton.mp hx
    refine (ax_XF_lt (x := 197) (Nat.le_of_ble_eq_true rfl)).mpr ?_
    show (pz90 (pz_gt (ρ' 0)) (pz_gN (ρ' 0)) ((ρ' 4) / 4) (pz_strip ((ρ' 3) / 4)) ∧ 1 ≤ (ρ' 3) / 4)
    rw [q0, q3, h2]
    exact ⟨pz_l197 (pz_41 _) st.2.2, F193.2⟩)
  exact ⟨(fun y hy => by cases hy), _, List.mem_cons_self, ρ', h1, h2⟩

theorem axqg_cp6 {w : ax_W} {b : Nat} (hw : ax_WW w) : ax_RO w (ax_XM b) axu0_cp6 := by
  intro ρ hp hE hT
  have j0 : ρ 0 % 4 = 1 := pz_gj hE 0 (Nat.le_of_ble_eq_true rfl) rfl
  obtain ⟨-, -, F196⟩ : ay_ex hp 173 ∧ ay_ex hp 185 ∧ pz_y196 (ρ 0) (ay_at hp 173 27) (ay_at hp 185) := (ax_XF_lt (x := 196) (Nat.le_of_ble_eq_true rfl)).mp (ax_gx hE (196, [3]) ax_m0)
  refine ⟨(fun y hy => by cases hy), _, List.mem_cons_self, ρ, fun _ _ => rfl, ax_px hE rfl (fun x hx => ?_)⟩
  cases List.mem_singleton.mp hx
  refine (ax_XF_lt (x := 209) (Nat.le_of_ble_eq_true rfl)).mpr ?_
  show pz_strip ((ρ 0) / 4) = pz_strip ((ρ 0) / 4)
  rfl
theorem axq0_cp6 : ax_RO ax_wM0 (ax_XM 0) axu0_cp6 := axqg_cp6 ax_WW0
theorem axqg_cp7 {w : ax_W} {b : Nat} (hw : ax_WW w) : ax_RO w (ax_XM b) axu0_cp7 := by
  intro ρ hp hE hT
  have j0 : ρ 0 % 4 = 1 := pz_gj hE 0 (Nat.le_of_ble_eq_true rfl) rfl
  have j1 : ρ 1 % 4 = 1 := pz_gj hE 1 (Nat.le_of_ble_eq_true rfl) rfl
  have j2 : ρ 2 % 4 = 1 := pz_gj hE 2 (Nat.le_of_ble_eq_true rfl) rfl
  have j3 : ρ 3 % 4 = 1 := pz_gj hE 3 (Nat.le_of_ble_eq_true rfl) rfl
  obtain ⟨-, -, -, -, -, F151⟩ : ay_ex hp 173 ∧ ay_ex hp 173 ∧ ay_ex hp 173 ∧ ay_ex hp 173 ∧ ay_ex hp 173 ∧ pz_y151 (ρ 0) (ρ 1) (ay_at hp 173 13) (ay_at hp 173 14) (ay_at hp 173 15) (ay_at hp 173 16) (ay_at hp 173 17) := (ax_XF_lt (x := 151) (Nat.le_of_ble_eq_true rfl)).mp (ax_gx hE (151, [3, 7]) ax_m0)
  have F197 : (pz90 (pz_gt (ρ 0)) (pz_gN (ρ 0)) ((ρ 1) / 4) (pz_strip ((ρ 2) / 4)) ∧ 1 ≤ (ρ 2) / 4) := (ax_XF_lt (x := 197) (Nat.le_of_ble_eq_true rfl)).mp (ax_gx hE (197, [3, 7, 11]) ax_m1)
  have F192 : pz_strip ((ρ 2) / 4) = (ρ 3) / 4 := (ax_XF_lt (x := 192) (Nat.le_of_ble_eq_true rfl)).mp (ax_gx hE (192, [11, 15]) ax_m2)
  obtain ⟨-, -, F196⟩ : ay_ex hp 173 ∧ ay_ex hp 185 ∧ pz_y196 (ρ 3) (ay_at hp 173 27) (ay_at hp 185) := (ax_XF_lt (x := 196) (Nat.le_of_ble_eq_true rfl)).mp (ax_gx hE (196, [15]) ax_m3)
  refine ⟨(fun y hy => by cases hy), _, List.mem_cons_self, ρ, fun _ _ => rfl, ax_px hE rfl (fun x hx => ?_)⟩
  cases List.mem_singleton.mp hx
  refine (ax_XF_lt (x := 190) (Nat.le_of_ble_eq_true rfl)).mpr ?_
  show (pz90 (pz_gt (ρ 0)) (pz_gN (ρ 0)) ((ρ 1) / 4) ((ρ 3) / 4) ∧ 1 ≤ (ρ 3) / 4)
  rw [← F192]
  exact ⟨F197.1, pz_strip_1 F197.2⟩
theorem axq0_cp7 : ax_RO ax_wM0 (ax_XM 0) axu0_cp7 := axqg_cp7 ax_WW0
theorem axq0_cq1 : ax_RO ax_wM0 (ax_XM 0) axu0_cq1 := by
  intro ρ hp hE hT
  have j0 : ρ 0 % 4 = 1 := pz_gj hE 0 (Nat.le_of_ble_eq_true rfl) rfl
  have j1 : ρ 1 % 4 = 1 := pz_gj hE 1 (Nat.le_of_ble_eq_true rfl) rfl
  have j2 : ρ 2 % 4 = 1 := pz_gj hE 2 (Nat.le_of_ble_eq_true rfl) rfl
  have j3 : ρ 3 % 4 = 1 := pz_gj hE 3 (Nat.le_of_ble_eq_true rfl) rfl
  have j4 : ρ 4 % 4 = 1 := pz_gj hE 4 (Nat.le_of_ble_eq_true rfl) rfl
  have j5 : ρ 5 % 4 = 1 := pz_gj hE 5 (Nat.le_of_ble_eq_true rfl) rfl
  obtain ⟨i6a, i6b, i6c, i6d⟩ := pz_gi hE 6 2147484651 2147484655 (Nat.le_of_ble_eq_true rfl) rfl
  obtain ⟨-, -, F242⟩ : ay_ex hp 173 ∧ ay_ex hp 185 ∧ py_y242 (ρ 4) (ay_at hp 173 27) (ay_at hp 185) := (ax_XF_lt (x := 242) (Nat.le_of_ble_eq_true rfl)).mp (ax_gx hE (242, [19]) ax_m0)
  obtain ⟨-, -, F241⟩ : ay_ex hp 180 ∧ ay_ex hp 182 ∧ py_y241 1 (ρ 5) (ay_at hp 180 1) (ay_at hp 182) := (ax_XF_lt (x := 241) (Nat.le_of_ble_eq_true rfl)).mp (ax_gx hE (241, [23]) ax_m1)
  have F251 : py_251 (ρ 2) (ρ 6) (ρ 4) := (ax_XF_lt (x := 251) (Nat.le_of_ble_eq_true rfl)).mp (ax_gx hE (251, [11, 27, 19]) ax_m2)
  have F251a : py_251 (ρ 5) (ρ 6) (ρ 3) := (ax_XF_lt (x := 251) (Nat.le_of_ble_eq_true rfl)).mp (ax_gx hE (251, [23, 27, 15]) ax_m3)
  have F250 : py_250 (4012) (ρ 0) (ρ 1) (ρ 2) (ρ 3) := (ax_XF_lt (x := 250) (Nat.le_of_ble_eq_true rfl)).mp (ax_gx hE (250, [4012, 3, 7, 11, 15]) ax_m4)
  refine ⟨(fun y hy => by cases hy), _, List.mem_cons_self, ρ, fun _ _ => rfl, ax_px hE rfl (fun x hx => ?_)⟩
  cases List.mem_singleton.mp hx
  refine (ax_XF_lt (x := 250) (Nat.le_of_ble_eq_true rfl)).mpr ?_
  show py_250 (4012) (ρ 0) (ρ 1) (ρ 4) (ρ 5)
  exact pm_cq1 F250 F251 F251a (show 1 ≤ _ from py_bd_1 (by omega) (by omega))

theorem axqg_cq2 {w : ax_W} {b : Nat} (hw : ax_WW w) : ax_RO w (ax_XM b) axu0_cq2 := by
  intro ρ hp hE hT
  have j0 : ρ 0 % 4 = 1 := pz_gj hE 0 (Nat.le_of_ble_eq_true rfl) rfl
  obtain ⟨i1a, i1b, i1c, i1d⟩ := pz_gi hE 1 2147483648 2147483747 (Nat.le_of_ble_eq_true rfl) rfl
  obtain ⟨i2a, i2b, i2c, i2d⟩ := pz_gi hE 2 2147483649 2147483748 (Nat.le_of_ble_eq_true rfl) rfl
  obtain ⟨i3a, i3b, i3c, i3d⟩ := pz_gi hE 3 2147484657 2147484657 (Nat.le_of_ble_eq_true rfl) rfl
  have c_opened : ay_at hp 173 27 = some (ρ 2) := ay_gfj hE 702 108 11 173 27 ax_m1 (ax_vlq rfl rfl) (ax_vlj rfl rfl)
  have s1 : (ρ 1 / 4 + 2147483648) % 4294967296 + (4 / 4 + 2147483648) % 4294967296 = (ρ 2 / 4 + 2147483648) % 4294967296 + 2147483648 := pz_gs hE 7 4 11 ax_m2
  have c_open : ay_at hp 185 (ρ 1 / 4) = some (ρ 3) := ay_gf hE 750 7 15 185 ax_m3 (ax_vlq rfl rfl)
  obtain ⟨-, -, F242⟩ : ay_ex hp 173 ∧ ay_ex hp 185 ∧ py_y242 (ρ 0) (ay_at hp 173 27) (ay_at hp 185) := (ax_XF_lt (x := 242) (Nat.le_of_ble_eq_true rfl)).mp (ax_gx hE (242, [3]) ax_m0)
  rw [c_opened] at F242
  obtain ⟨c, T, t1, t2, t3, t4, t5, t6, t7⟩ := py_take (o := ρ 1 / 4) F242 (show ρ 2 / 4 = ρ 1 / 4 + 1 by omega)
  rw [c_open] at t3
  have te := Option.some.inj t3
  have tk : c = ρ 3 / 4 := by omega
  obtain ⟨ρ', h1, h2⟩ := pz_pn1 (K := py_enc T) (xf := [(742, [702, 108, 7, 19]), (251, [3, 4036, 19])]) hE (by decide) (fun ρ' h1 h2 x hx => by
    have q0 : ρ' 0 = ρ 0 := h1 0 (by decide)
    have q1 : ρ' 1 = ρ 1 := h1 1 (by decide)
    have q2 : ρ' 2 = ρ 2 := h1 2 (by decide)
    have q3 : ρ' 3 = ρ 3 := h1 3 (by decide)
    rcases List.mem_cons.mp hx with e | hx
    · subst e
      refine (ax_XF_wr (x := 242) (Nat.le_of_ble_eq_true rfl)).mpr ?_
      show ay_ex (ax_upd hp 702 (108) (ρ' 1)) 173 ∧ ay_ex (ax_upd hp 702 (108) (ρ' 1)) 185 ∧ py_y242 (ρ' 4) (ay_at (ax_upd hp 702 (108) (ρ' 1)) 173 27) (ay_at (ax_upd hp 702 (108) (ρ' 1)) 185)
      rw [q1, h2]
      obtain ⟨o0, ho0⟩ := ay_some hT (q := 173) (g := 11) (n := 58) (ax_wc hw ax_cg_173) (ax_wn hw ax_cn_11) (j := 108 / 4) (Nat.le_of_ble_eq_true rfl)
      have u1 : ∀ q, q ≠ 173 → ay_at (ax_upd hp 702 108 (ρ 1)) q = ay_at hp q := fun q hq => funext (fun j => ay_upd_ne hT.1 hq j)
      have u2 : ∀ j, ay_at (ax_upd hp 702 108 (ρ 1)) 173 j = if j = 27 then some (ρ 1) else ay_at hp 173 j := fun j => ay_upd_eq hT.1 rfl ho0 j
      refine ⟨ay_ex_upd hT.1 (ax_cellT hT (q := 173) (g := 11) (ax_wc hw ax_cg_173)), ay_ex_upd hT.1 (ax_cellT hT (q := 185) (g := 55) (ax_wc hw ax_cg_185)), ?_⟩
      rw [u2 27, if_pos rfl, u1 185 (Nat.ne_of_beq_eq_false rfl)]
      exact ⟨by rw [pz_41]; exact t5, by rw [pz_41, t4]; exact t2.symm, by rw [pz_41, t4]; exact t6, by rw [pz_41, t4]; exact t7⟩
    cases List.mem_singleton.mp hx
    refine (ax_XF_lt (x := 251) (Nat.le_of_ble_eq_true rfl)).mpr ?_
    show py_251 (ρ' 0) (4036) (ρ' 4)
    rw [q0, h2]
    unfold py_251
    rw [pz_41, t4, t1, tk, show ρ 3 / 4 = 1009 by omega])
  exact ⟨(fun y hy => by cases hy), _, List.mem_cons_self, ρ', h1, h2⟩
theorem axq0_cq2 : ax_RO ax_wM0 (ax_XM 0) axu0_cq2 := axqg_cq2 ax_WW0
theorem axq0_cq3 : ax_RO ax_wM0 (ax_XM 0) axu0_cq3 := by
  intro ρ hp hE hT
  have j0 : ρ 0 % 4 = 1 := pz_gj hE 0 (Nat.le_of_ble_eq_true rfl) rfl
  have j1 : ρ 1 % 4 = 1 := pz_gj hE 1 (Nat.le_of_ble_eq_true rfl) rfl
  have j2 : ρ 2 % 4 = 1 := pz_gj hE 2 (Nat.le_of_ble_eq_true rfl) rfl
  have j3 : ρ 3 % 4 = 1 := pz_gj hE 3 (Nat.le_of_ble_eq_true rfl) rfl
  have j4 : ρ 4 % 4 = 1 := pz_gj hE 4 (Nat.le_of_ble_eq_true rfl) rfl
  have j5 : ρ 5 % 4 = 1 := pz_gj hE 5 (Nat.le_of_ble_eq_true rfl) rfl
  have j6 : ρ 6 % 4 = 1 := pz_gj hE 6 (Nat.le_of_ble_eq_true rfl) rfl
  have j7 : ρ 7 % 4 = 1 := pz_gj hE 7 (Nat.le_of_ble_eq_true rfl) rfl
  have j8 : ρ 8 % 4 = 1 := pz_gj hE 8 (Nat.le_of_ble_eq_true rfl) rfl
  have j9 : ρ 9 % 4 = 1 := pz_gj hE 9 (Nat.le_of_ble_eq_true rfl) rfl
  obtain ⟨-, -, -, -, -, F151⟩ : ay_ex hp 173 ∧ ay_ex hp 173 ∧ ay_ex hp 173 ∧ ay_ex hp 173 ∧ ay_ex hp 173 ∧ pz_y151 (ρ 0) (ρ 1) (ay_at hp 173 13) (ay_at hp 173 14) (ay_at hp 173 15) (ay_at hp 173 16) (ay_at hp 173 17) := (ax_XF_lt (x := 151) (Nat.le_of_ble_eq_true rfl)).mp (ax_gx hE (151, [3, 7]) ax_m0)
  have F182 : (ρ 2) / 4 = (ρ 1) / 4 + 1 := (ax_XF_lt (x := 182) (Nat.le_of_ble_eq_true rfl)).mp (ax_gx hE (182, [7, 11]) ax_m1)
  have F179 : pz7 (pz_gt (ρ 0)) (pz_gN (ρ 0)) ((ρ 1) / 4) 9 := (ax_XF_lt (x := 179) (Nat.le_of_ble_eq_true rfl)).mp (ax_gx hE (179, [3, 7]) ax_m2)
  have F168 : pz_kd (pz_gt (ρ 0)) (pz_gN (ρ 0)) (pz_p (pz_cF (ρ 0) (ρ 1))) = (164) / 4 := (ax_XF_lt (x := 168) (Nat.le_of_ble_eq_true rfl)).mp (ax_gx hE (168, [3, 7, 164]) ax_m3)
  have F190 : (pz90 (pz_gt (ρ 0)) (pz_gN (ρ 0)) ((ρ 1) / 4) ((ρ 3) / 4) ∧ 1 ≤ (ρ 3) / 4) := (ax_XF_lt (x := 190) (Nat.le_of_ble_eq_true rfl)).mp (ax_gx hE (190, [3, 7, 15]) ax_m4)
  have F193 : ((ρ 3) / 4 = 2 * ((ρ 4) / 4) ∧ 1 ≤ (ρ 4) / 4) := (ax_XF_lt (x := 193) (Nat.le_of_ble_eq_true rfl)).mp (ax_gx hE (193, [15, 19]) ax_m5)
  have F246 : py_y246 (pz_gt (ρ 0)) (pz_gN (ρ 0)) ((ρ 1) / 4) (ρ 5) (ρ 6) := (ax_XF_lt (x := 246) (Nat.le_of_ble_eq_true rfl)).mp (ax_gx hE (246, [3, 7, 23, 27]) ax_m6)
  obtain ⟨-, -, F242⟩ : ay_ex hp 173 ∧ ay_ex hp 185 ∧ py_y242 (ρ 9) (ay_at hp 173 27) (ay_at hp 185) := (ax_XF_lt (x := 242) (Nat.le_of_ble_eq_true rfl)).mp (ax_gx hE (242, [39]) ax_m7)
  obtain ⟨-, -, F241⟩ : ay_ex hp 180 ∧ ay_ex hp 182 ∧ py_y241 1 (ρ 8) (ay_at hp 180 1) (ay_at hp 182) := (ax_XF_lt (x := 241) (Nat.le_of_ble_eq_true rfl)).mp (ax_gx hE (241, [35]) ax_m8)
  have F250 : py_250 (4012) (ρ 5) (ρ 6) (ρ 7) (ρ 8) := (ax_XF_lt (x := 250) (Nat.le_of_ble_eq_true rfl)).mp (ax_gx hE (250, [4012, 23, 27, 31, 35]) ax_m9)
  have F251 : py_251 (ρ 7) (4036) (ρ 9) := (ax_XF_lt (x := 251) (Nat.le_of_ble_eq_true rfl)).mp (ax_gx hE (251, [31, 4036, 39]) ax_m10)
  refine ⟨(fun y hy => by cases hy), _, List.mem_cons_self, ρ, fun _ _ => rfl, ax_px hE rfl (fun x hx => ?_)⟩
  cases List.mem_singleton.mp hx
  refine (ax_XF_lt (x := 247) (Nat.le_of_ble_eq_true rfl)).mpr ?_
  show py_247 (pz_gt (ρ 0)) (pz_gN (ρ 0)) ((ρ 2) / 4) (ρ 9) (ρ 8)
  exact pm_cq3 F179 (show _ = 41 from F168) F190.1 (by have h1 := F193.1; have h2 := F193.2; omega) F182 F246 F250 F251

theorem axq0_cq4 : ax_RO ax_wM0 (ax_XM 0) axu0_cq4 := by
  intro ρ hp hE hT
  have j0 : ρ 0 % 4 = 1 := pz_gj hE 0 (Nat.le_of_ble_eq_true rfl) rfl
  have j1 : ρ 1 % 4 = 1 := pz_gj hE 1 (Nat.le_of_ble_eq_true rfl) rfl
  obtain ⟨-, -, F242⟩ : ay_ex hp 173 ∧ ay_ex hp 185 ∧ py_y242 (ρ 0) (ay_at hp 173 27) (ay_at hp 185) := (ax_XF_lt (x := 242) (Nat.le_of_ble_eq_true rfl)).mp (ax_gx hE (242, [3]) ax_m0)
  obtain ⟨-, -, F241⟩ : ay_ex hp 180 ∧ ay_ex hp 182 ∧ py_y241 1 (ρ 1) (ay_at hp 180 1) (ay_at hp 182) := (ax_XF_lt (x := 241) (Nat.le_of_ble_eq_true rfl)).mp (ax_gx hE (241, [7]) ax_m1)
  refine ⟨(fun y hy => by cases hy), _, List.mem_cons_self, ρ, fun _ _ => rfl, ax_px hE rfl (fun x hx => ?_)⟩
  cases List.mem_singleton.mp hx
  refine (ax_XF_lt (x := 249) (Nat.le_of_ble_eq_true rfl)).mpr ?_
  show py_249 (ρ 0) (ρ 1) (ρ 0) (ρ 1)
  exact (rfl : py_neg _ _ = _)

theorem axq0_cq5 : ax_RO ax_wM0 (ax_XM 0) axu0_cq5 := by
  intro ρ hp hE hT
  have j0 : ρ 0 % 4 = 1 := pz_gj hE 0 (Nat.le_of_ble_eq_true rfl) rfl
  have j1 : ρ 1 % 4 = 1 := pz_gj hE 1 (Nat.le_of_ble_eq_true rfl) rfl
  have j2 : ρ 2 % 4 = 1 := pz_gj hE 2 (Nat.le_of_ble_eq_true rfl) rfl
  have j3 : ρ 3 % 4 = 1 := pz_gj hE 3 (Nat.le_of_ble_eq_true rfl) rfl
  have j4 : ρ 4 % 4 = 1 := pz_gj hE 4 (Nat.le_of_ble_eq_true rfl) rfl
  have j5 : ρ 5 % 4 = 1 := pz_gj hE 5 (Nat.le_of_ble_eq_true rfl) rfl
  obtain ⟨-, -, -, -, -, F151⟩ : ay_ex hp 173 ∧ ay_ex hp 173 ∧ ay_ex hp 173 ∧ ay_ex hp 173 ∧ ay_ex hp 173 ∧ pz_y151 (ρ 0) (ρ 1) (ay_at hp 173 13) (ay_at hp 173 14) (ay_at hp 173 15) (ay_at hp 173 16) (ay_at hp 173 17) := (ax_XF_lt (x := 151) (Nat.le_of_ble_eq_true rfl)).mp (ax_gx hE (151, [3, 7]) ax_m0)
  have F247 : py_247 (pz_gt (ρ 0)) (pz_gN (ρ 0)) ((ρ 1) / 4) (ρ 2) (ρ 3) := (ax_XF_lt (x := 247) (Nat.le_of_ble_eq_true rfl)).mp (ax_gx hE (247, [3, 7, 11, 15]) ax_m1)
  have F253 : py_253 (ρ 2) (ρ 3) (ρ 4) (ρ 5) := (ax_XF_lt (x := 253) (Nat.le_of_ble_eq_true rfl)).mp (ax_gx hE (253, [11, 15, 19, 23]) ax_m2)
  obtain ⟨-, -, F242⟩ : ay_ex hp 173 ∧ ay_ex hp 185 ∧ py_y242 (ρ 4) (ay_at hp 173 27) (ay_at hp 185) := (ax_XF_lt (x := 242) (Nat.le_of_ble_eq_true rfl)).mp (ax_gx hE (242, [19]) ax_m3)
  obtain ⟨-, -, F241⟩ : ay_ex hp 180 ∧ ay_ex hp 182 ∧ py_y241 1 (ρ 5) (ay_at hp 180 1) (ay_at hp 182) := (ax_XF_lt (x := 241) (Nat.le_of_ble_eq_true rfl)).mp (ax_gx hE (241, [23]) ax_m4)
  refine ⟨(fun y hy => by cases hy), _, List.mem_cons_self, ρ, fun _ _ => rfl, ax_px hE rfl (fun x hx => ?_)⟩
  cases List.mem_singleton.mp hx
  refine (ax_XF_lt (x := 246) (Nat.le_of_ble_eq_true rfl)).mpr ?_
  show py_y246 (pz_gt (ρ 0)) (pz_gN (ρ 0)) ((ρ 1) / 4) (ρ 4) (ρ 5)
  exact pm_cq5 F247 F253

theorem axqg_mu0_5_40 {w : ax_W} {b : Nat} (hw : ax_WW w) : ax_RO w (ax_XM b) axu0_mu0_5_40 := by
  intro ρ hp hE hT
  have j0 : ρ 0 % 4 = 1 := pz_gj hE 0 (Nat.le_of_ble_eq_true rfl) rfl
  have j1 : ρ 1 % 4 = 1 := pz_gj hE 1 (Nat.le_of_ble_eq_true rfl) rfl
  have F160 : pz60 (pz_gt (ρ 0)) (pz_gN (ρ 0)) ((ρ 1) / 4) ((20) / 4) := (ax_XF_lt (x := 160) (Nat.le_of_ble_eq_true rfl)).mp (ax_gx hE (160, [3, 7, 20]) ax_m0)
  have F168 : pz_kd (pz_gt (ρ 0)) (pz_gN (ρ 0)) (pz_p (pz_cF (ρ 0) (ρ 1))) = (160) / 4 := (ax_XF_lt (x := 168) (Nat.le_of_ble_eq_true rfl)).mp (ax_gx hE (168, [3, 7, 160]) ax_m1)
  exfalso
  have e := pz_wd1 F160
  have e2 : pz_kd (pz_gt (ρ 0)) (pz_gN (ρ 0)) (pz_p (pz_cf (pz_gt (ρ 0)) (pz_gN (ρ 0)) (ρ 1 / 4))) = 40 := F168
  rw [e2] at e
  cases e
theorem axq0_mu0_5_40 : ax_RO ax_wM0 (ax_XM 0) axu0_mu0_5_40 := axqg_mu0_5_40 ax_WW0
theorem axqg_mu0_5_45 {w : ax_W} {b : Nat} (hw : ax_WW w) : ax_RO w (ax_XM b) axu0_mu0_5_45 := by
  intro ρ hp hE hT
  have j0 : ρ 0 % 4 = 1 := pz_gj hE 0 (Nat.le_of_ble_eq_true rfl) rfl
  have j1 : ρ 1 % 4 = 1 := pz_gj hE 1 (Nat.le_of_ble_eq_true rfl) rfl
  have F160 : pz60 (pz_gt (ρ 0)) (pz_gN (ρ 0)) ((ρ 1) / 4) ((20) / 4) := (ax_XF_lt (x := 160) (Nat.le_of_ble_eq_true rfl)).mp (ax_gx hE (160, [3, 7, 20]) ax_m0)
  have F168 : pz_kd (pz_gt (ρ 0)) (pz_gN (ρ 0)) (pz_p (pz_cF (ρ 0) (ρ 1))) = (180) / 4 := (ax_XF_lt (x := 168) (Nat.le_of_ble_eq_true rfl)).mp (ax_gx hE (168, [3, 7, 180]) ax_m1)
  exfalso
  have e := pz_wd1 F160
  have e2 : pz_kd (pz_gt (ρ 0)) (pz_gN (ρ 0)) (pz_p (pz_cf (pz_gt (ρ 0)) (pz_gN (ρ 0)) (ρ 1 / 4))) = 45 := F168
  rw [e2] at e
  cases e
theorem axq0_mu0_5_45 : ax_RO ax_wM0 (ax_XM 0) axu0_mu0_5_45 := axqg_mu0_5_45 ax_WW0
theorem axqg_mu0_6_40 {w : ax_W} {b : Nat} (hw : ax_WW w) : ax_RO w (ax_XM b) axu0_mu0_6_40 := by
  intro ρ hp hE hT
  have j0 : ρ 0 % 4 = 1 := pz_gj hE 0 (Nat.le_of_ble_eq_true rfl) rfl
  have j1 : ρ 1 % 4 = 1 := pz_gj hE 1 (Nat.le_of_ble_eq_true rfl) rfl
  have F160 : pz60 (pz_gt (ρ 0)) (pz_gN (ρ 0)) ((ρ 1) / 4) ((24) / 4) := (ax_XF_lt (x := 160) (Nat.le_of_ble_eq_true rfl)).mp (ax_gx hE (160, [3, 7, 24]) ax_m0)
  have F168 : pz_kd (pz_gt (ρ 0)) (pz_gN (ρ 0)) (pz_p (pz_cF (ρ 0) (ρ 1))) = (160) / 4 := (ax_XF_lt (x := 168) (Nat.le_of_ble_eq_true rfl)).mp (ax_gx hE (168, [3, 7, 160]) ax_m1)
  exfalso
  have e := pz_wd1 F160
  have e2 : pz_kd (pz_gt (ρ 0)) (pz_gN (ρ 0)) (pz_p (pz_cf (pz_gt (ρ 0)) (pz_gN (ρ 0)) (ρ 1 / 4))) = 40 := F168
  rw [e2] at e
  cases e
theorem axq0_mu0_6_40 : ax_RO ax_wM0 (ax_XM 0) axu0_mu0_6_40 := axqg_mu0_6_40 ax_WW0
theorem axqg_mu0_6_45 {w : ax_W} {b : Nat} (hw : ax_WW w) : ax_RO w (ax_XM b) axu0_mu0_6_45 := by
  intro ρ hp hE hT
  have j0 : ρ 0 % 4 = 1 := pz_gj hE 0 (Nat.le_of_ble_eq_true rfl) rfl
  have j1 : ρ 1 % 4 = 1 := pz_gj hE 1 (Nat.le_of_ble_eq_true rfl) rfl
  have F160 : pz60 (pz_gt (ρ 0)) (pz_gN (ρ 0)) ((ρ 1) / 4) ((24) / 4) := (ax_XF_lt (x := 160) (Nat.le_of_ble_eq_true rfl)).mp (ax_gx hE (160, [3, 7, 24]) ax_m0)
  have F168 : pz_kd (pz_gt (ρ 0)) (pz_gN (ρ 0)) (pz_p (pz_cF (ρ 0) (ρ 1))) = (180) / 4 := (ax_XF_lt (x := 168) (Nat.le_of_ble_eq_true rfl)).mp (ax_gx hE (168, [3, 7, 180]) ax_m1)
  exfalso
  have e := pz_wd1 F160
  have e2 : pz_kd (pz_gt (ρ 0)) (pz_gN (ρ 0)) (pz_p (pz_cf (pz_gt (ρ 0)) (pz_gN (ρ 0)) (ρ 1 / 4))) = 45 := F168
  rw [e2] at e
  cases e
theorem axq0_mu0_6_45 : ax_RO ax_wM0 (ax_XM 0) axu0_mu0_6_45 := axqg_mu0_6_45 ax_WW0
theorem axqg_mu0_7_40 {w : ax_W} {b : Nat} (hw : ax_WW w) : ax_RO w (ax_XM b) axu0_mu0_7_40 := by
  intro ρ hp hE hT
  have j0 : ρ 0 % 4 = 1 := pz_gj hE 0 (Nat.le_of_ble_eq_true rfl) rfl
  have j1 : ρ 1 % 4 = 1 := pz_gj hE 1 (Nat.le_of_ble_eq_true rfl) rfl
  have F160 : pz60 (pz_gt (ρ 0)) (pz_gN (ρ 0)) ((ρ 1) / 4) ((28) / 4) := (ax_XF_lt (x := 160) (Nat.le_of_ble_eq_true rfl)).mp (ax_gx hE (160, [3, 7, 28]) ax_m0)
  have F168 : pz_kd (pz_gt (ρ 0)) (pz_gN (ρ 0)) (pz_p (pz_cF (ρ 0) (ρ 1))) = (160) / 4 := (ax_XF_lt (x := 168) (Nat.le_of_ble_eq_true rfl)).mp (ax_gx hE (168, [3, 7, 160]) ax_m1)
  exfalso
  have e := pz_wd1 F160
  have e2 : pz_kd (pz_gt (ρ 0)) (pz_gN (ρ 0)) (pz_p (pz_cf (pz_gt (ρ 0)) (pz_gN (ρ 0)) (ρ 1 / 4))) = 40 := F168
  rw [e2] at e
  cases e
theorem axq0_mu0_7_40 : ax_RO ax_wM0 (ax_XM 0) axu0_mu0_7_40 := axqg_mu0_7_40 ax_WW0
theorem axqg_mu0_7_45 {w : ax_W} {b : Nat} (hw : ax_WW w) : ax_RO w (ax_XM b) axu0_mu0_7_45 := by
  intro ρ hp hE hT
  have j0 : ρ 0 % 4 = 1 := pz_gj hE 0 (Nat.le_of_ble_eq_true rfl) rfl
  have j1 : ρ 1 % 4 = 1 := pz_gj hE 1 (Nat.le_of_ble_eq_true rfl) rfl
  have F160 : pz60 (pz_gt (ρ 0)) (pz_gN (ρ 0)) ((ρ 1) / 4) ((28) / 4) := (ax_XF_lt (x := 160) (Nat.le_of_ble_eq_true rfl)).mp (ax_gx hE (160, [3, 7, 28]) ax_m0)
  have F168 : pz_kd (pz_gt (ρ 0)) (pz_gN (ρ 0)) (pz_p (pz_cF (ρ 0) (ρ 1))) = (180) / 4 := (ax_XF_lt (x := 168) (Nat.le_of_ble_eq_true rfl)).mp (ax_gx hE (168, [3, 7, 180]) ax_m1)
  exfalso
  have e := pz_wd1 F160
  have e2 : pz_kd (pz_gt (ρ 0)) (pz_gN (ρ 0)) (pz_p (pz_cf (pz_gt (ρ 0)) (pz_gN (ρ 0)) (ρ 1 / 4))) = 45 := F168
  rw [e2] at e
  cases e
theorem axq0_mu0_7_45 : ax_RO ax_wM0 (ax_XM 0) axu0_mu0_7_45 := axqg_mu0_7_45 ax_WW0
theorem axqg_mu1a {w : ax_W} {b : Nat} (hw : ax_WW w) : ax_RO w (ax_XM b) axu0_mu1a := by
  intro ρ hp hE hT
  have j0 : ρ 0 % 4 = 1 := pz_gj hE 0 (Nat.le_of_ble_eq_true rfl) rfl
  have j1 : ρ 1 % 4 = 1 := pz_gj hE 1 (Nat.le_of_ble_eq_true rfl) rfl
  obtain ⟨i2a, i2b, i2c, i2d⟩ := pz_gi hE 2 0 2147483650 (Nat.le_of_ble_eq_true rfl) rfl
  have c_token : ay_at hp 173 15 = some (ρ 2) := ay_gfj hE 702 60 11 173 15 ax_m7 (ax_vlq rfl rfl) (ax_vlj rfl rfl)
  obtain ⟨-, -, -, -, -, F151⟩ : ay_ex hp 173 ∧ ay_ex hp 173 ∧ ay_ex hp 173 ∧ ay_ex hp 173 ∧ ay_ex hp 173 ∧ pz_y151 (ρ 0) (ρ 1) (ay_at hp 173 13) (ay_at hp 173 14) (ay_at hp 173 15) (ay_at hp 173 16) (ay_at hp 173 17) := (ax_XF_lt (x := 151) (Nat.le_of_ble_eq_true rfl)).mp (ax_gx hE (151, [3, 7]) ax_m0)
  rw [c_token] at F151
  have F178 : pz7 (pz_gt (ρ 0)) (pz_gN (ρ 0)) ((ρ 1) / 4) 8 := (ax_XF_lt (x := 178) (Nat.le_of_ble_eq_true rfl)).mp (ax_gx hE (178, [3, 7]) ax_m1)
  have F169 : pz_kd (pz_gt (ρ 0)) (pz_gN (ρ 0)) (pz_p (pz_cF (ρ 0) (ρ 1))) ≠ (160) / 4 := (ax_XF_lt (x := 169) (Nat.le_of_ble_eq_true rfl)).mp (ax_gx hE (169, [3, 7, 160]) ax_m2)
  have F169a : pz_kd (pz_gt (ρ 0)) (pz_gN (ρ 0)) (pz_p (pz_cF (ρ 0) (ρ 1))) ≠ (180) / 4 := (ax_XF_lt (x := 169) (Nat.le_of_ble_eq_true rfl)).mp (ax_gx hE (169, [3, 7, 180]) ax_m3)
  have F161 : pz61 (pz_gt (ρ 0)) (pz_gN (ρ 0)) ((ρ 1) / 4) ((20) / 4) := (ax_XF_lt (x := 161) (Nat.le_of_ble_eq_true rfl)).mp (ax_gx hE (161, [3, 7, 20]) ax_m4)
  have F161a : pz61 (pz_gt (ρ 0)) (pz_gN (ρ 0)) ((ρ 1) / 4) ((24) / 4) := (ax_XF_lt (x := 161) (Nat.le_of_ble_eq_true rfl)).mp (ax_gx hE (161, [3, 7, 24]) ax_m5)
  have F161b : pz61 (pz_gt (ρ 0)) (pz_gN (ρ 0)) ((ρ 1) / 4) ((28) / 4) := (ax_XF_lt (x := 161) (Nat.le_of_ble_eq_true rfl)).mp (ax_gx hE (161, [3, 7, 28]) ax_m6)
  have ht : ρ 2 / 4 = pz_tok (pz_kd (pz_gt (ρ 0)) (pz_gN (ρ 0)) (pz_p (pz_cf (pz_gt (ρ 0)) (pz_gN (ρ 0)) (ρ 1 / 4)))) := F151.2.2.1
  have hc := pz_tok_c (pz_kd (pz_gt (ρ 0)) (pz_gN (ρ 0)) (pz_p (pz_cf (pz_gt (ρ 0)) (pz_gN (ρ 0)) (ρ 1 / 4))))
  have hk : pz_kd (pz_gt (ρ 0)) (pz_gN (ρ 0)) (pz_p (pz_cf (pz_gt (ρ 0)) (pz_gN (ρ 0)) (ρ 1 / 4))) ≠ 2 := (by rcases hc with h | h | h | h | h <;> omega)
  refine ⟨(fun y hy => by cases hy), _, List.mem_cons_self, ρ, fun _ _ => rfl, ax_px hE rfl (fun x hx => ?_)⟩
  cases List.mem_singleton.mp hx
  refine (ax_XF_lt (x := 164) (Nat.le_of_ble_eq_true rfl)).mpr ?_
  show pz64 (pz_gt (ρ 0)) (pz_gN (ρ 0)) ((ρ 1) / 4) ((4) / 4)
  exact pq_ru1 F178 (Or.inr (Or.inr (Or.inr (Or.inr ⟨rfl, hk, show _ ≠ 40 from F169, show _ ≠ 45 from F169a, F161, F161a, F161b⟩))))
theorem axq0_mu1a : ax_RO ax_wM0 (ax_XM 0) axu0_mu1a := axqg_mu1a ax_WW0
theorem axqg_mu1b {w : ax_W} {b : Nat} (hw : ax_WW w) : ax_RO w (ax_XM b) axu0_mu1b := by
  intro ρ hp hE hT
  have j0 : ρ 0 % 4 = 1 := pz_gj hE 0 (Nat.le_of_ble_eq_true rfl) rfl
  have j1 : ρ 1 % 4 = 1 := pz_gj hE 1 (Nat.le_of_ble_eq_true rfl) rfl
  obtain ⟨i2a, i2b, i2c, i2d⟩ := pz_gi hE 2 2147483652 4294967295 (Nat.le_of_ble_eq_true rfl) rfl
  have c_token : ay_at hp 173 15 = some (ρ 2) := ay_gfj hE 702 60 11 173 15 ax_m7 (ax_vlq rfl rfl) (ax_vlj rfl rfl)
  obtain ⟨-, -, -, -, -, F151⟩ : ay_ex hp 173 ∧ ay_ex hp 173 ∧ ay_ex hp 173 ∧ ay_ex hp 173 ∧ ay_ex hp 173 ∧ pz_y151 (ρ 0) (ρ 1) (ay_at hp 173 13) (ay_at hp 173 14) (ay_at hp 173 15) (ay_at hp 173 16) (ay_at hp 173 17) := (ax_XF_lt (x := 151) (Nat.le_of_ble_eq_true rfl)).mp (ax_gx hE (151, [3, 7]) ax_m0)
  rw [c_token] at F151
  have F178 : pz7 (pz_gt (ρ 0)) (pz_gN (ρ 0)) ((ρ 1) / 4) 8 := (ax_XF_lt (x := 178) (Nat.le_of_ble_eq_true rfl)).mp (ax_gx hE (178, [3, 7]) ax_m1)
  have F169 : pz_kd (pz_gt (ρ 0)) (pz_gN (ρ 0)) (pz_p (pz_cF (ρ 0) (ρ 1))) ≠ (160) / 4 := (ax_XF_lt (x := 169) (Nat.le_of_ble_eq_true rfl)).mp (ax_gx hE (169, [3, 7, 160]) ax_m2)
  have F169a : pz_kd (pz_gt (ρ 0)) (pz_gN (ρ 0)) (pz_p (pz_cF (ρ 0) (ρ 1))) ≠ (180) / 4 := (ax_XF_lt (x := 169) (Nat.le_of_ble_eq_true rfl)).mp (ax_gx hE (169, [3, 7, 180]) ax_m3)
  have F161 : pz61 (pz_gt (ρ 0)) (pz_gN (ρ 0)) ((ρ 1) / 4) ((20) / 4) := (ax_XF_lt (x := 161) (Nat.le_of_ble_eq_true rfl)).mp (ax_gx hE (161, [3, 7, 20]) ax_m4)
  have F161a : pz61 (pz_gt (ρ 0)) (pz_gN (ρ 0)) ((ρ 1) / 4) ((24) / 4) := (ax_XF_lt (x := 161) (Nat.le_of_ble_eq_true rfl)).mp (ax_gx hE (161, [3, 7, 24]) ax_m5)
  have F161b : pz61 (pz_gt (ρ 0)) (pz_gN (ρ 0)) ((ρ 1) / 4) ((28) / 4) := (ax_XF_lt (x := 161) (Nat.le_of_ble_eq_true rfl)).mp (ax_gx hE (161, [3, 7, 28]) ax_m6)
  have ht : ρ 2 / 4 = pz_tok (pz_kd (pz_gt (ρ 0)) (pz_gN (ρ 0)) (pz_p (pz_cf (pz_gt (ρ 0)) (pz_gN (ρ 0)) (ρ 1 / 4)))) := F151.2.2.1
  have hc := pz_tok_c (pz_kd (pz_gt (ρ 0)) (pz_gN (ρ 0)) (pz_p (pz_cf (pz_gt (ρ 0)) (pz_gN (ρ 0)) (ρ 1 / 4))))
  have hk : pz_kd (pz_gt (ρ 0)) (pz_gN (ρ 0)) (pz_p (pz_cf (pz_gt (ρ 0)) (pz_gN (ρ 0)) (ρ 1 / 4))) ≠ 2 := (by rcases hc with h | h | h | h | h <;> omega)
  refine ⟨(fun y hy => by cases hy), _, List.mem_cons_self, ρ, fun _ _ => rfl, ax_px hE rfl (fun x hx => ?_)⟩
  cases List.mem_singleton.mp hx
  refine (ax_XF_lt (x := 164) (Nat.le_of_ble_eq_true rfl)).mpr ?_
  show pz64 (pz_gt (ρ 0)) (pz_gN (ρ 0)) ((ρ 1) / 4) ((4) / 4)
  exact pq_ru1 F178 (Or.inr (Or.inr (Or.inr (Or.inr ⟨rfl, hk, show _ ≠ 40 from F169, show _ ≠ 45 from F169a, F161, F161a, F161b⟩))))
theorem axq0_mu1b : ax_RO ax_wM0 (ax_XM 0) axu0_mu1b := axqg_mu1b ax_WW0
theorem axqg_mu2 {w : ax_W} {b : Nat} (hw : ax_WW w) : ax_RO w (ax_XM b) axu0_mu2 := by
  intro ρ hp hE hT
  have j0 : ρ 0 % 4 = 1 := pz_gj hE 0 (Nat.le_of_ble_eq_true rfl) rfl
  have j1 : ρ 1 % 4 = 1 := pz_gj hE 1 (Nat.le_of_ble_eq_true rfl) rfl
  obtain ⟨i2a, i2b, i2c, i2d⟩ := pz_gi hE 2 2147483651 2147483651 (Nat.le_of_ble_eq_true rfl) rfl
  obtain ⟨i3a, i3b, i3c, i3d⟩ := pz_gi hE 3 2147484648 2147493647 (Nat.le_of_ble_eq_true rfl) rfl
  have c_token : ay_at hp 173 15 = some (ρ 2) := ay_gfj hE 702 60 11 173 15 ax_m2 (ax_vlq rfl rfl) (ax_vlj rfl rfl)
  have c_number : ay_at hp 173 16 = some (ρ 3) := ay_gfj hE 702 64 15 173 16 ax_m3 (ax_vlq rfl rfl) (ax_vlj rfl rfl)
  obtain ⟨-, -, -, -, -, F151⟩ : ay_ex hp 173 ∧ ay_ex hp 173 ∧ ay_ex hp 173 ∧ ay_ex hp 173 ∧ ay_ex hp 173 ∧ pz_y151 (ρ 0) (ρ 1) (ay_at hp 173 13) (ay_at hp 173 14) (ay_at hp 173 15) (ay_at hp 173 16) (ay_at hp 173 17) := (ax_XF_lt (x := 151) (Nat.le_of_ble_eq_true rfl)).mp (ax_gx hE (151, [3, 7]) ax_m0)
  rw [c_token] at F151
  rw [c_number] at F151
  have F178 : pz7 (pz_gt (ρ 0)) (pz_gN (ρ 0)) ((ρ 1) / 4) 8 := (ax_XF_lt (x := 178) (Nat.le_of_ble_eq_true rfl)).mp (ax_gx hE (178, [3, 7]) ax_m1)
  have ht : ρ 2 / 4 = pz_tok (pz_kd (pz_gt (ρ 0)) (pz_gN (ρ 0)) (pz_p (pz_cf (pz_gt (ρ 0)) (pz_gN (ρ 0)) (ρ 1 / 4)))) := F151.2.2.1
  have hc := pz_tok_c (pz_kd (pz_gt (ρ 0)) (pz_gN (ρ 0)) (pz_p (pz_cf (pz_gt (ρ 0)) (pz_gN (ρ 0)) (ρ 1 / 4))))
  have hk : pz_kd (pz_gt (ρ 0)) (pz_gN (ρ 0)) (pz_p (pz_cf (pz_gt (ρ 0)) (pz_gN (ρ 0)) (ρ 1 / 4))) = 2 := (by rcases hc with h | h | h | h | h <;> omega)
  have vl := pz_mc (F151.2.2.2.1 hk)
  replace vl : (ρ 3 / 4 ≤ 1000 ∧ pz_vl (pz_gt (ρ 0)) (pz_gN (ρ 0)) (pz_p (pz_cf (pz_gt (ρ 0)) (pz_gN (ρ 0)) (ρ 1 / 4))) = ρ 3 / 4) ∨ (1000 < ρ 3 / 4 ∧ pz_vl (pz_gt (ρ 0)) (pz_gN (ρ 0)) (pz_p (pz_cf (pz_gt (ρ 0)) (pz_gN (ρ 0)) (ρ 1 / 4))) = 1000) := vl
  refine ⟨(fun y hy => by cases hy), _, List.mem_cons_self, ρ, fun _ _ => rfl, ax_px hE rfl (fun x hx => ?_)⟩
  cases List.mem_singleton.mp hx
  refine (ax_XF_lt (x := 164) (Nat.le_of_ble_eq_true rfl)).mpr ?_
  show pz64 (pz_gt (ρ 0)) (pz_gN (ρ 0)) ((ρ 1) / 4) ((8) / 4)
  exact pq_ru2 F178 (Or.inl ⟨rfl, hk⟩) (by omega)
theorem axq0_mu2 : ax_RO ax_wM0 (ax_XM 0) axu0_mu2 := axqg_mu2 ax_WW0
theorem axqg_muD_40 {w : ax_W} {b : Nat} (hw : ax_WW w) : ax_RO w (ax_XM b) axu0_muD_40 := by
  intro ρ hp hE hT
  have j0 : ρ 0 % 4 = 1 := pz_gj hE 0 (Nat.le_of_ble_eq_true rfl) rfl
  have j1 : ρ 1 % 4 = 1 := pz_gj hE 1 (Nat.le_of_ble_eq_true rfl) rfl
  obtain ⟨i2a, i2b, i2c, i2d⟩ := pz_gi hE 2 2147483651 2147483651 (Nat.le_of_ble_eq_true rfl) rfl
  have c_token : ay_at hp 173 15 = some (ρ 2) := ay_gfj hE 702 60 11 173 15 ax_m2 (ax_vlq rfl rfl) (ax_vlj rfl rfl)
  obtain ⟨-, -, -, -, -, F151⟩ : ay_ex hp 173 ∧ ay_ex hp 173 ∧ ay_ex hp 173 ∧ ay_ex hp 173 ∧ ay_ex hp 173 ∧ pz_y151 (ρ 0) (ρ 1) (ay_at hp 173 13) (ay_at hp 173 14) (ay_at hp 173 15) (ay_at hp 173 16) (ay_at hp 173 17) := (ax_XF_lt (x := 151) (Nat.le_of_ble_eq_true rfl)).mp (ax_gx hE (151, [3, 7]) ax_m0)
  rw [c_token] at F151
  have F168 : pz_kd (pz_gt (ρ 0)) (pz_gN (ρ 0)) (pz_p (pz_cF (ρ 0) (ρ 1))) = (160) / 4 := (ax_XF_lt (x := 168) (Nat.le_of_ble_eq_true rfl)).mp (ax_gx hE (168, [3, 7, 160]) ax_m1)
  have ht : ρ 2 / 4 = pz_tok (pz_kd (pz_gt (ρ 0)) (pz_gN (ρ 0)) (pz_p (pz_cf (pz_gt (ρ 0)) (pz_gN (ρ 0)) (ρ 1 / 4)))) := F151.2.2.1
  have hc := pz_tok_c (pz_kd (pz_gt (ρ 0)) (pz_gN (ρ 0)) (pz_p (pz_cf (pz_gt (ρ 0)) (pz_gN (ρ 0)) (ρ 1 / 4))))
  exfalso
  have e : pz_kd (pz_gt (ρ 0)) (pz_gN (ρ 0)) (pz_p (pz_cf (pz_gt (ρ 0)) (pz_gN (ρ 0)) (ρ 1 / 4))) = 40 := F168
  rcases hc with h | h | h | h | h <;> omega
theorem axq0_muD_40 : ax_RO ax_wM0 (ax_XM 0) axu0_muD_40 := axqg_muD_40 ax_WW0
theorem axqg_muD_5 {w : ax_W} {b : Nat} (hw : ax_WW w) : ax_RO w (ax_XM b) axu0_muD_5 := by
  intro ρ hp hE hT
  have j0 : ρ 0 % 4 = 1 := pz_gj hE 0 (Nat.le_of_ble_eq_true rfl) rfl
  have j1 : ρ 1 % 4 = 1 := pz_gj hE 1 (Nat.le_of_ble_eq_true rfl) rfl
  obtain ⟨i2a, i2b, i2c, i2d⟩ := pz_gi hE 2 2147483651 2147483651 (Nat.le_of_ble_eq_true rfl) rfl
  have c_token : ay_at hp 173 15 = some (ρ 2) := ay_gfj hE 702 60 11 173 15 ax_m2 (ax_vlq rfl rfl) (ax_vlj rfl rfl)
  obtain ⟨-, -, -, -, -, F151⟩ : ay_ex hp 173 ∧ ay_ex hp 173 ∧ ay_ex hp 173 ∧ ay_ex hp 173 ∧ ay_ex hp 173 ∧ pz_y151 (ρ 0) (ρ 1) (ay_at hp 173 13) (ay_at hp 173 14) (ay_at hp 173 15) (ay_at hp 173 16) (ay_at hp 173 17) := (ax_XF_lt (x := 151) (Nat.le_of_ble_eq_true rfl)).mp (ax_gx hE (151, [3, 7]) ax_m0)
  rw [c_token] at F151
  have F168 : pz_kd (pz_gt (ρ 0)) (pz_gN (ρ 0)) (pz_p (pz_cF (ρ 0) (ρ 1))) = (180) / 4 := (ax_XF_lt (x := 168) (Nat.le_of_ble_eq_true rfl)).mp (ax_gx hE (168, [3, 7, 180]) ax_m1)
  have ht : ρ 2 / 4 = pz_tok (pz_kd (pz_gt (ρ 0)) (pz_gN (ρ 0)) (pz_p (pz_cf (pz_gt (ρ 0)) (pz_gN (ρ 0)) (ρ 1 / 4)))) := F151.2.2.1
  have hc := pz_tok_c (pz_kd (pz_gt (ρ 0)) (pz_gN (ρ 0)) (pz_p (pz_cf (pz_gt (ρ 0)) (pz_gN (ρ 0)) (ρ 1 / 4))))
  exfalso
  have e : pz_kd (pz_gt (ρ 0)) (pz_gN (ρ 0)) (pz_p (pz_cf (pz_gt (ρ 0)) (pz_gN (ρ 0)) (ρ 1 / 4))) = 45 := F168
  rcases hc with h | h | h | h | h <;> omega
theorem axq0_muD_5 : ax_RO ax_wM0 (ax_XM 0) axu0_muD_5 := axqg_muD_5 ax_WW0
theorem axqg_muD_2 {w : ax_W} {b : Nat} (hw : ax_WW w) : ax_RO w (ax_XM b) axu0_muD_2 := by
  intro ρ hp hE hT
  have j0 : ρ 0 % 4 = 1 := pz_gj hE 0 (Nat.le_of_ble_eq_true rfl) rfl
  have j1 : ρ 1 % 4 = 1 := pz_gj hE 1 (Nat.le_of_ble_eq_true rfl) rfl
  obtain ⟨i2a, i2b, i2c, i2d⟩ := pz_gi hE 2 2147483651 2147483651 (Nat.le_of_ble_eq_true rfl) rfl
  have c_token : ay_at hp 173 15 = some (ρ 2) := ay_gfj hE 702 60 11 173 15 ax_m2 (ax_vlq rfl rfl) (ax_vlj rfl rfl)
  obtain ⟨-, -, -, -, -, F151⟩ : ay_ex hp 173 ∧ ay_ex hp 173 ∧ ay_ex hp 173 ∧ ay_ex hp 173 ∧ ay_ex hp 173 ∧ pz_y151 (ρ 0) (ρ 1) (ay_at hp 173 13) (ay_at hp 173 14) (ay_at hp 173 15) (ay_at hp 173 16) (ay_at hp 173 17) := (ax_XF_lt (x := 151) (Nat.le_of_ble_eq_true rfl)).mp (ax_gx hE (151, [3, 7]) ax_m0)
  rw [c_token] at F151
  have F160 : pz60 (pz_gt (ρ 0)) (pz_gN (ρ 0)) ((ρ 1) / 4) ((20) / 4) := (ax_XF_lt (x := 160) (Nat.le_of_ble_eq_true rfl)).mp (ax_gx hE (160, [3, 7, 20]) ax_m1)
  have ht : ρ 2 / 4 = pz_tok (pz_kd (pz_gt (ρ 0)) (pz_gN (ρ 0)) (pz_p (pz_cf (pz_gt (ρ 0)) (pz_gN (ρ 0)) (ρ 1 / 4)))) := F151.2.2.1
  have hc := pz_tok_c (pz_kd (pz_gt (ρ 0)) (pz_gN (ρ 0)) (pz_p (pz_cf (pz_gt (ρ 0)) (pz_gN (ρ 0)) (ρ 1 / 4))))
  exfalso
  have e : pz_kd (pz_gt (ρ 0)) (pz_gN (ρ 0)) (pz_p (pz_cf (pz_gt (ρ 0)) (pz_gN (ρ 0)) (ρ 1 / 4))) = 1 := pz_wd1 F160
  rcases hc with h | h | h | h | h <;> omega
theorem axq0_muD_2 : ax_RO ax_wM0 (ax_XM 0) axu0_muD_2 := axqg_muD_2 ax_WW0
theorem axqg_muD_3 {w : ax_W} {b : Nat} (hw : ax_WW w) : ax_RO w (ax_XM b) axu0_muD_3 := by
  intro ρ hp hE hT
  have j0 : ρ 0 % 4 = 1 := pz_gj hE 0 (Nat.le_of_ble_eq_true rfl) rfl
  have j1 : ρ 1 % 4 = 1 := pz_gj hE 1 (Nat.le_of_ble_eq_true rfl) rfl
  obtain ⟨i2a, i2b, i2c, i2d⟩ := pz_gi hE 2 2147483651 2147483651 (Nat.le_of_ble_eq_true rfl) rfl
  have c_token : ay_at hp 173 15 = some (ρ 2) := ay_gfj hE 702 60 11 173 15 ax_m2 (ax_vlq rfl rfl) (ax_vlj rfl rfl)
  obtain ⟨-, -, -, -, -, F151⟩ : ay_ex hp 173 ∧ ay_ex hp 173 ∧ ay_ex hp 173 ∧ ay_ex hp 173 ∧ ay_ex hp 173 ∧ pz_y151 (ρ 0) (ρ 1) (ay_at hp 173 13) (ay_at hp 173 14) (ay_at hp 173 15) (ay_at hp 173 16) (ay_at hp 173 17) := (ax_XF_lt (x := 151) (Nat.le_of_ble_eq_true rfl)).mp (ax_gx hE (151, [3, 7]) ax_m0)
  rw [c_token] at F151
  have F160 : pz60 (pz_gt (ρ 0)) (pz_gN (ρ 0)) ((ρ 1) / 4) ((24) / 4) := (ax_XF_lt (x := 160) (Nat.le_of_ble_eq_true rfl)).mp (ax_gx hE (160, [3, 7, 24]) ax_m1)
  have ht : ρ 2 / 4 = pz_tok (pz_kd (pz_gt (ρ 0)) (pz_gN (ρ 0)) (pz_p (pz_cf (pz_gt (ρ 0)) (pz_gN (ρ 0)) (ρ 1 / 4)))) := F151.2.2.1
  have hc := pz_tok_c (pz_kd (pz_gt (ρ 0)) (pz_gN (ρ 0)) (pz_p (pz_cf (pz_gt (ρ 0)) (pz_gN (ρ 0)) (ρ 1 / 4))))
  exfalso
  have e : pz_kd (pz_gt (ρ 0)) (pz_gN (ρ 0)) (pz_p (pz_cf (pz_gt (ρ 0)) (pz_gN (ρ 0)) (ρ 1 / 4))) = 1 := pz_wd1 F160
  rcases hc with h | h | h | h | h <;> omega
theorem axq0_muD_3 : ax_RO ax_wM0 (ax_XM 0) axu0_muD_3 := axqg_muD_3 ax_WW0
theorem axqg_muD_4 {w : ax_W} {b : Nat} (hw : ax_WW w) : ax_RO w (ax_XM b) axu0_muD_4 := by
  intro ρ hp hE hT
  have j0 : ρ 0 % 4 = 1 := pz_gj hE 0 (Nat.le_of_ble_eq_true rfl) rfl
  have j1 : ρ 1 % 4 = 1 := pz_gj hE 1 (Nat.le_of_ble_eq_true rfl) rfl
  obtain ⟨i2a, i2b, i2c, i2d⟩ := pz_gi hE 2 2147483651 2147483651 (Nat.le_of_ble_eq_true rfl) rfl
  have c_token : ay_at hp 173 15 = some (ρ 2) := ay_gfj hE 702 60 11 173 15 ax_m2 (ax_vlq rfl rfl) (ax_vlj rfl rfl)
  obtain ⟨-, -, -, -, -, F151⟩ : ay_ex hp 173 ∧ ay_ex hp 173 ∧ ay_ex hp 173 ∧ ay_ex hp 173 ∧ ay_ex hp 173 ∧ pz_y151 (ρ 0) (ρ 1) (ay_at hp 173 13) (ay_at hp 173 14) (ay_at hp 173 15) (ay_at hp 173 16) (ay_at hp 173 17) := (ax_XF_lt (x := 151) (Nat.le_of_ble_eq_true rfl)).mp (ax_gx hE (151, [3, 7]) ax_m0)
  rw [c_token] at F151
  have F160 : pz60 (pz_gt (ρ 0)) (pz_gN (ρ 0)) ((ρ 1) / 4) ((28) / 4) := (ax_XF_lt (x := 160) (Nat.le_of_ble_eq_true rfl)).mp (ax_gx hE (160, [3, 7, 28]) ax_m1)
  have ht : ρ 2 / 4 = pz_tok (pz_kd (pz_gt (ρ 0)) (pz_gN (ρ 0)) (pz_p (pz_cf (pz_gt (ρ 0)) (pz_gN (ρ 0)) (ρ 1 / 4)))) := F151.2.2.1
  have hc := pz_tok_c (pz_kd (pz_gt (ρ 0)) (pz_gN (ρ 0)) (pz_p (pz_cf (pz_gt (ρ 0)) (pz_gN (ρ 0)) (ρ 1 / 4))))
  exfalso
  have e : pz_kd (pz_gt (ρ 0)) (pz_gN (ρ 0)) (pz_p (pz_cf (pz_gt (ρ 0)) (pz_gN (ρ 0)) (ρ 1 / 4))) = 1 := pz_wd1 F160
  rcases hc with h | h | h | h | h <;> omega
theorem axq0_muD_4 : ax_RO ax_wM0 (ax_XM 0) axu0_muD_4 := axqg_muD_4 ax_WW0
theorem axqg_mu3_40 {w : ax_W} {b : Nat} (hw : ax_WW w) : ax_RO w (ax_XM b) axu0_mu3_40 := by
  intro ρ hp hE hT
  have j0 : ρ 0 % 4 = 1 := pz_gj hE 0 (Nat.le_of_ble_eq_true rfl) rfl
  have j1 : ρ 1 % 4 = 1 := pz_gj hE 1 (Nat.le_of_ble_eq_true rfl) rfl
  obtain ⟨-, -, -, -, -, F151⟩ : ay_ex hp 173 ∧ ay_ex hp 173 ∧ ay_ex hp 173 ∧ ay_ex hp 173 ∧ ay_ex hp 173 ∧ pz_y151 (ρ 0) (ρ 1) (ay_at hp 173 13) (ay_at hp 173 14) (ay_at hp 173 15) (ay_at hp 173 16) (ay_at hp 173 17) := (ax_XF_lt (x := 151) (Nat.le_of_ble_eq_true rfl)).mp (ax_gx hE (151, [3, 7]) ax_m0)
  have F168 : pz_kd (pz_gt (ρ 0)) (pz_gN (ρ 0)) (pz_p (pz_cF (ρ 0) (ρ 1))) = (160) / 4 := (ax_XF_lt (x := 168) (Nat.le_of_ble_eq_true rfl)).mp (ax_gx hE (168, [3, 7, 160]) ax_m1)
  refine ⟨(fun y hy => by cases hy), _, List.mem_cons_self, ρ, fun _ _ => rfl, ax_px hE rfl (fun x hx => ?_)⟩
  cases List.mem_singleton.mp hx
  refine (ax_XF_lt (x := 207) (Nat.le_of_ble_eq_true rfl)).mpr ?_
  show pz107 (pz_gt (ρ 0)) (pz_gN (ρ 0)) ((ρ 1) / 4) ((160) / 4)
  exact ⟨Or.inr (Or.inl ⟨rfl, F168⟩), by decide, fun z => absurd z (by decide)⟩
theorem axq0_mu3_40 : ax_RO ax_wM0 (ax_XM 0) axu0_mu3_40 := axqg_mu3_40 ax_WW0
theorem axqg_mu3_5 {w : ax_W} {b : Nat} (hw : ax_WW w) : ax_RO w (ax_XM b) axu0_mu3_5 := by
  intro ρ hp hE hT
  have j0 : ρ 0 % 4 = 1 := pz_gj hE 0 (Nat.le_of_ble_eq_true rfl) rfl
  have j1 : ρ 1 % 4 = 1 := pz_gj hE 1 (Nat.le_of_ble_eq_true rfl) rfl
  obtain ⟨-, -, -, -, -, F151⟩ : ay_ex hp 173 ∧ ay_ex hp 173 ∧ ay_ex hp 173 ∧ ay_ex hp 173 ∧ ay_ex hp 173 ∧ pz_y151 (ρ 0) (ρ 1) (ay_at hp 173 13) (ay_at hp 173 14) (ay_at hp 173 15) (ay_at hp 173 16) (ay_at hp 173 17) := (ax_XF_lt (x := 151) (Nat.le_of_ble_eq_true rfl)).mp (ax_gx hE (151, [3, 7]) ax_m0)
  have F168 : pz_kd (pz_gt (ρ 0)) (pz_gN (ρ 0)) (pz_p (pz_cF (ρ 0) (ρ 1))) = (180) / 4 := (ax_XF_lt (x := 168) (Nat.le_of_ble_eq_true rfl)).mp (ax_gx hE (168, [3, 7, 180]) ax_m1)
  refine ⟨(fun y hy => by cases hy), _, List.mem_cons_self, ρ, fun _ _ => rfl, ax_px hE rfl (fun x hx => ?_)⟩
  cases List.mem_singleton.mp hx
  refine (ax_XF_lt (x := 207) (Nat.le_of_ble_eq_true rfl)).mpr ?_
  show pz107 (pz_gt (ρ 0)) (pz_gN (ρ 0)) ((ρ 1) / 4) ((20) / 4)
  exact ⟨Or.inr (Or.inr (Or.inl ⟨rfl, F168⟩)), by decide, fun z => absurd z (by decide)⟩
theorem axq0_mu3_5 : ax_RO ax_wM0 (ax_XM 0) axu0_mu3_5 := axqg_mu3_5 ax_WW0
theorem axqg_mu3_2 {w : ax_W} {b : Nat} (hw : ax_WW w) : ax_RO w (ax_XM b) axu0_mu3_2 := by
  intro ρ hp hE hT
  have j0 : ρ 0 % 4 = 1 := pz_gj hE 0 (Nat.le_of_ble_eq_true rfl) rfl
  have j1 : ρ 1 % 4 = 1 := pz_gj hE 1 (Nat.le_of_ble_eq_true rfl) rfl
  obtain ⟨-, -, -, -, -, F151⟩ : ay_ex hp 173 ∧ ay_ex hp 173 ∧ ay_ex hp 173 ∧ ay_ex hp 173 ∧ ay_ex hp 173 ∧ pz_y151 (ρ 0) (ρ 1) (ay_at hp 173 13) (ay_at hp 173 14) (ay_at hp 173 15) (ay_at hp 173 16) (ay_at hp 173 17) := (ax_XF_lt (x := 151) (Nat.le_of_ble_eq_true rfl)).mp (ax_gx hE (151, [3, 7]) ax_m0)
  have F160 : pz60 (pz_gt (ρ 0)) (pz_gN (ρ 0)) ((ρ 1) / 4) ((20) / 4) := (ax_XF_lt (x := 160) (Nat.le_of_ble_eq_true rfl)).mp (ax_gx hE (160, [3, 7, 20]) ax_m1)
  refine ⟨(fun y hy => by cases hy), _, List.mem_cons_self, ρ, fun _ _ => rfl, ax_px hE rfl (fun x hx => ?_)⟩
  cases List.mem_singleton.mp hx
  refine (ax_XF_lt (x := 207) (Nat.le_of_ble_eq_true rfl)).mpr ?_
  show pz107 (pz_gt (ρ 0)) (pz_gN (ρ 0)) ((ρ 1) / 4) ((8) / 4)
  exact ⟨Or.inr (Or.inr (Or.inr (Or.inl ⟨pz_wd1 F160, Or.inl ⟨rfl, F160⟩⟩))), by decide, fun z => absurd z (by decide)⟩
theorem axq0_mu3_2 : ax_RO ax_wM0 (ax_XM 0) axu0_mu3_2 := axqg_mu3_2 ax_WW0
theorem axqg_mu3_3 {w : ax_W} {b : Nat} (hw : ax_WW w) : ax_RO w (ax_XM b) axu0_mu3_3 := by
  intro ρ hp hE hT
  have j0 : ρ 0 % 4 = 1 := pz_gj hE 0 (Nat.le_of_ble_eq_true rfl) rfl
  have j1 : ρ 1 % 4 = 1 := pz_gj hE 1 (Nat.le_of_ble_eq_true rfl) rfl
  obtain ⟨-, -, -, -, -, F151⟩ : ay_ex hp 173 ∧ ay_ex hp 173 ∧ ay_ex hp 173 ∧ ay_ex hp 173 ∧ ay_ex hp 173 ∧ pz_y151 (ρ 0) (ρ 1) (ay_at hp 173 13) (ay_at hp 173 14) (ay_at hp 173 15) (ay_at hp 173 16) (ay_at hp 173 17) := (ax_XF_lt (x := 151) (Nat.le_of_ble_eq_true rfl)).mp (ax_gx hE (151, [3, 7]) ax_m0)
  have F160 : pz60 (pz_gt (ρ 0)) (pz_gN (ρ 0)) ((ρ 1) / 4) ((24) / 4) := (ax_XF_lt (x := 160) (Nat.le_of_ble_eq_true rfl)).mp (ax_gx hE (160, [3, 7, 24]) ax_m1)
  refine ⟨(fun y hy => by cases hy), _, List.mem_cons_self, ρ, fun _ _ => rfl, ax_px hE rfl (fun x hx => ?_)⟩
  cases List.mem_singleton.mp hx
  refine (ax_XF_lt (x := 207) (Nat.le_of_ble_eq_true rfl)).mpr ?_
  show pz107 (pz_gt (ρ 0)) (pz_gN (ρ 0)) ((ρ 1) / 4) ((12) / 4)
  exact ⟨Or.inr (Or.inr (Or.inr (Or.inl ⟨pz_wd1 F160, Or.inr (Or.inl ⟨rfl, F160⟩)⟩))), by decide, fun z => absurd z (by decide)⟩
theorem axq0_mu3_3 : ax_RO ax_wM0 (ax_XM 0) axu0_mu3_3 := axqg_mu3_3 ax_WW0
theorem axqg_mu3_4 {w : ax_W} {b : Nat} (hw : ax_WW w) : ax_RO w (ax_XM b) axu0_mu3_4 := by
  intro ρ hp hE hT
  have j0 : ρ 0 % 4 = 1 := pz_gj hE 0 (Nat.le_of_ble_eq_true rfl) rfl
  have j1 : ρ 1 % 4 = 1 := pz_gj hE 1 (Nat.le_of_ble_eq_true rfl) rfl
  obtain ⟨-, -, -, -, -, F151⟩ : ay_ex hp 173 ∧ ay_ex hp 173 ∧ ay_ex hp 173 ∧ ay_ex hp 173 ∧ ay_ex hp 173 ∧ pz_y151 (ρ 0) (ρ 1) (ay_at hp 173 13) (ay_at hp 173 14) (ay_at hp 173 15) (ay_at hp 173 16) (ay_at hp 173 17) := (ax_XF_lt (x := 151) (Nat.le_of_ble_eq_true rfl)).mp (ax_gx hE (151, [3, 7]) ax_m0)
  have F160 : pz60 (pz_gt (ρ 0)) (pz_gN (ρ 0)) ((ρ 1) / 4) ((28) / 4) := (ax_XF_lt (x := 160) (Nat.le_of_ble_eq_true rfl)).mp (ax_gx hE (160, [3, 7, 28]) ax_m1)
  refine ⟨(fun y hy => by cases hy), _, List.mem_cons_self, ρ, fun _ _ => rfl, ax_px hE rfl (fun x hx => ?_)⟩
  cases List.mem_singleton.mp hx
  refine (ax_XF_lt (x := 207) (Nat.le_of_ble_eq_true rfl)).mpr ?_
  show pz107 (pz_gt (ρ 0)) (pz_gN (ρ 0)) ((ρ 1) / 4) ((16) / 4)
  exact ⟨Or.inr (Or.inr (Or.inr (Or.inl ⟨pz_wd1 F160, Or.inr (Or.inr ⟨rfl, F160⟩)⟩))), by decide, fun z => absurd z (by decide)⟩
theorem axq0_mu3_4 : ax_RO ax_wM0 (ax_XM 0) axu0_mu3_4 := axqg_mu3_4 ax_WW0
theorem axqg_mu3_1 {w : ax_W} {b : Nat} (hw : ax_WW w) : ax_RO w (ax_XM b) axu0_mu3_1 := by
  intro ρ hp hE hT
  have j0 : ρ 0 % 4 = 1 := pz_gj hE 0 (Nat.le_of_ble_eq_true rfl) rfl
  have j1 : ρ 1 % 4 = 1 := pz_gj hE 1 (Nat.le_of_ble_eq_true rfl) rfl
  obtain ⟨i2a, i2b, i2c, i2d⟩ := pz_gi hE 2 2147483651 2147483651 (Nat.le_of_ble_eq_true rfl) rfl
  obtain ⟨i3a, i3b, i3c, i3d⟩ := pz_gi hE 3 2147483648 2147484647 (Nat.le_of_ble_eq_true rfl) rfl
  have c_token : ay_at hp 173 15 = some (ρ 2) := ay_gfj hE 702 60 11 173 15 ax_m1 (ax_vlq rfl rfl) (ax_vlj rfl rfl)
  have c_number : ay_at hp 173 16 = some (ρ 3) := ay_gfj hE 702 64 15 173 16 ax_m2 (ax_vlq rfl rfl) (ax_vlj rfl rfl)
  obtain ⟨-, -, -, -, -, F151⟩ : ay_ex hp 173 ∧ ay_ex hp 173 ∧ ay_ex hp 173 ∧ ay_ex hp 173 ∧ ay_ex hp 173 ∧ pz_y151 (ρ 0) (ρ 1) (ay_at hp 173 13) (ay_at hp 173 14) (ay_at hp 173 15) (ay_at hp 173 16) (ay_at hp 173 17) := (ax_XF_lt (x := 151) (Nat.le_of_ble_eq_true rfl)).mp (ax_gx hE (151, [3, 7]) ax_m0)
  rw [c_token] at F151
  rw [c_number] at F151
  have ht : ρ 2 / 4 = pz_tok (pz_kd (pz_gt (ρ 0)) (pz_gN (ρ 0)) (pz_p (pz_cf (pz_gt (ρ 0)) (pz_gN (ρ 0)) (ρ 1 / 4)))) := F151.2.2.1
  have hc := pz_tok_c (pz_kd (pz_gt (ρ 0)) (pz_gN (ρ 0)) (pz_p (pz_cf (pz_gt (ρ 0)) (pz_gN (ρ 0)) (ρ 1 / 4))))
  have hk : pz_kd (pz_gt (ρ 0)) (pz_gN (ρ 0)) (pz_p (pz_cf (pz_gt (ρ 0)) (pz_gN (ρ 0)) (ρ 1 / 4))) = 2 := (by rcases hc with h | h | h | h | h <;> omega)
  have vl := pz_mc (F151.2.2.2.1 hk)
  replace vl : (ρ 3 / 4 ≤ 1000 ∧ pz_vl (pz_gt (ρ 0)) (pz_gN (ρ 0)) (pz_p (pz_cf (pz_gt (ρ 0)) (pz_gN (ρ 0)) (ρ 1 / 4))) = ρ 3 / 4) ∨ (1000 < ρ 3 / 4 ∧ pz_vl (pz_gt (ρ 0)) (pz_gN (ρ 0)) (pz_p (pz_cf (pz_gt (ρ 0)) (pz_gN (ρ 0)) (ρ 1 / 4))) = 1000) := vl
  refine ⟨(fun y hy => by cases hy), _, List.mem_cons_self, ρ, fun _ _ => rfl, ax_px hE rfl (fun x hx => ?_)⟩
  cases List.mem_singleton.mp hx
  refine (ax_XF_lt (x := 207) (Nat.le_of_ble_eq_true rfl)).mpr ?_
  show pz107 (pz_gt (ρ 0)) (pz_gN (ρ 0)) ((ρ 1) / 4) ((4) / 4)
  exact ⟨Or.inl ⟨rfl, hk⟩, by decide, fun _ => by omega⟩
theorem axq0_mu3_1 : ax_RO ax_wM0 (ax_XM 0) axu0_mu3_1 := axqg_mu3_1 ax_WW0
theorem axq0_mu4 : ax_RO ax_wM0 (ax_XM 0) axu0_mu4 := by
  intro ρ hp hE hT
  have j0 : ρ 0 % 4 = 1 := pz_gj hE 0 (Nat.le_of_ble_eq_true rfl) rfl
  have j1 : ρ 1 % 4 = 1 := pz_gj hE 1 (Nat.le_of_ble_eq_true rfl) rfl
  obtain ⟨i2a, i2b, i2c, i2d⟩ := pz_gi hE 2 0 4294967295 (Nat.le_of_ble_eq_true rfl) rfl
  obtain ⟨i3a, i3b, i3c, i3d⟩ := pz_gi hE 3 2147483688 2147483688 (Nat.le_of_ble_eq_true rfl) rfl
  have c_units : ay_at hp 179 1 = some (ρ 3) := ay_gfj hE 726 4 15 179 1 ax_m4 (ax_vlq rfl rfl) (ax_vlj rfl rfl)
  obtain ⟨-, -, -, -, -, F151⟩ : ay_ex hp 173 ∧ ay_ex hp 173 ∧ ay_ex hp 173 ∧ ay_ex hp 173 ∧ ay_ex hp 173 ∧ pz_y151 (ρ 0) (ρ 1) (ay_at hp 173 13) (ay_at hp 173 14) (ay_at hp 173 15) (ay_at hp 173 16) (ay_at hp 173 17) := (ax_XF_lt (x := 151) (Nat.le_of_ble_eq_true rfl)).mp (ax_gx hE (151, [3, 7]) ax_m0)
  obtain ⟨-, -, -, -, -, -, -, -, -, -, -, F152⟩ : ay_ex hp 175 ∧ ay_ex hp 176 ∧ ay_ex hp 177 ∧ ay_ex hp 178 ∧ ay_ex hp 179 ∧ ay_ex hp 173 ∧ ay_ex hp 173 ∧ ay_ex hp 173 ∧ ay_ex hp 173 ∧ ay_ex hp 173 ∧ ay_ex hp 181 ∧ pz_y152 1 (ρ 0) (ρ 1) (ay_at hp 175 1) (ay_at hp 176 1) (ay_at hp 177 1) (ay_at hp 178 1) (ay_at hp 179 1) (ay_at hp 173 23) (ay_at hp 173 25) (ay_at hp 173 24) (ay_at hp 173 18) (ay_at hp 173 19) (ay_at hp 181) := (ax_XF_lt (x := 152) (Nat.le_of_ble_eq_true rfl)).mp (ax_gx hE (152, [3, 7]) ax_m1)
  rw [c_units] at F152
  have F178 : pz7 (pz_gt (ρ 0)) (pz_gN (ρ 0)) ((ρ 1) / 4) 8 := (ax_XF_lt (x := 178) (Nat.le_of_ble_eq_true rfl)).mp (ax_gx hE (178, [3, 7]) ax_m2)
  have F207 : pz107 (pz_gt (ρ 0)) (pz_gN (ρ 0)) ((ρ 1) / 4) ((ρ 2) / 4) := (ax_XF_lt (x := 207) (Nat.le_of_ble_eq_true rfl)).mp (ax_gx hE (207, [3, 7, 11]) ax_m3)
  refine ⟨(fun y hy => by cases hy), _, List.mem_cons_self, ρ, fun _ _ => rfl, ax_px hE rfl (fun x hx => ?_)⟩
  cases List.mem_singleton.mp hx
  refine (ax_XF_lt (x := 164) (Nat.le_of_ble_eq_true rfl)).mpr ?_
  show pz64 (pz_gt (ρ 0)) (pz_gN (ρ 0)) ((ρ 1) / 4) ((16) / 4)
  exact pq_ru4 (pz_m50 F151 F152) F178 F207 (show ρ 3 / 4 = 40 by omega)

theorem axqg_mu5 {w : ax_W} {b : Nat} (hw : ax_WW w) : ax_RO w (ax_XM b) axu0_mu5 := by
  intro ρ hp hE hT
  have j0 : ρ 0 % 4 = 1 := pz_gj hE 0 (Nat.le_of_ble_eq_true rfl) rfl
  have j1 : ρ 1 % 4 = 1 := pz_gj hE 1 (Nat.le_of_ble_eq_true rfl) rfl
  have j2 : ρ 2 % 4 = 1 := pz_gj hE 2 (Nat.le_of_ble_eq_true rfl) rfl
  obtain ⟨i3a, i3b, i3c, i3d⟩ := pz_gi hE 3 0 4294967295 (Nat.le_of_ble_eq_true rfl) rfl
  obtain ⟨i4a, i4b, i4c, i4d⟩ := pz_gi hE 4 2147483654 2147483654 (Nat.le_of_ble_eq_true rfl) rfl
  have c_deep : ay_at hp 173 28 = some (ρ 4) := ay_gfj hE 702 112 19 173 28 ax_m5 (ax_vlq rfl rfl) (ax_vlj rfl rfl)
  obtain ⟨-, -, -, -, -, F151⟩ : ay_ex hp 173 ∧ ay_ex hp 173 ∧ ay_ex hp 173 ∧ ay_ex hp 173 ∧ ay_ex hp 173 ∧ pz_y151 (ρ 0) (ρ 1) (ay_at hp 173 13) (ay_at hp 173 14) (ay_at hp 173 15) (ay_at hp 173 16) (ay_at hp 173 17) := (ax_XF_lt (x := 151) (Nat.le_of_ble_eq_true rfl)).mp (ax_gx hE (151, [3, 7]) ax_m0)
  have F178 : pz7 (pz_gt (ρ 0)) (pz_gN (ρ 0)) ((ρ 1) / 4) 8 := (ax_XF_lt (x := 178) (Nat.le_of_ble_eq_true rfl)).mp (ax_gx hE (178, [3, 7]) ax_m1)
  have F207 : pz107 (pz_gt (ρ 0)) (pz_gN (ρ 0)) ((ρ 1) / 4) ((ρ 3) / 4) := (ax_XF_lt (x := 207) (Nat.le_of_ble_eq_true rfl)).mp (ax_gx hE (207, [3, 7, 15]) ax_m2)
  have F190 : (pz90 (pz_gt (ρ 0)) (pz_gN (ρ 0)) ((ρ 1) / 4) ((ρ 2) / 4) ∧ 1 ≤ (ρ 2) / 4) := (ax_XF_lt (x := 190) (Nat.le_of_ble_eq_true rfl)).mp (ax_gx hE (190, [3, 7, 11]) ax_m3)
  obtain ⟨-, F195⟩ : ay_ex hp 173 ∧ ay_ln (ay_at hp 173 28) = pz_dp ((ρ 2) / 4) := (ax_XF_lt (x := 195) (Nat.le_of_ble_eq_true rfl)).mp (ax_gx hE (195, [11]) ax_m4)
  rw [c_deep] at F195
  refine ⟨(fun y hy => by cases hy), _, List.mem_cons_self, ρ, fun _ _ => rfl, ax_px hE rfl (fun x hx => ?_)⟩
  cases List.mem_singleton.mp hx
  refine (ax_XF_lt (x := 164) (Nat.le_of_ble_eq_true rfl)).mpr ?_
  show pz64 (pz_gt (ρ 0)) (pz_gN (ρ 0)) ((ρ 1) / 4) ((16) / 4)
  exact pq_ru5 F178 F207 F190.1 (by have e : ρ 4 / 4 = pz_dp (ρ 2 / 4) := F195; omega)
theorem axq0_mu5 : ax_RO ax_wM0 (ax_XM 0) axu0_mu5 := axqg_mu5 ax_WW0
theorem axq0_mu6_40 : ax_RO ax_wM0 (ax_XM 0) axu0_mu6_40 := by
  intro ρ hp hE hT
  have j0 : ρ 0 % 4 = 1 := pz_gj hE 0 (Nat.le_of_ble_eq_true rfl) rfl
  have j1 : ρ 1 % 4 = 1 := pz_gj hE 1 (Nat.le_of_ble_eq_true rfl) rfl
  have j2 : ρ 2 % 4 = 1 := pz_gj hE 2 (Nat.le_of_ble_eq_true rfl) rfl
  obtain ⟨i3a, i3b, i3c, i3d⟩ := pz_gi hE 3 0 4294967295 (Nat.le_of_ble_eq_true rfl) rfl
  obtain ⟨i4a, i4b, i4c, i4d⟩ := pz_gi hE 4 2147483648 2147483687 (Nat.le_of_ble_eq_true rfl) rfl
  obtain ⟨i5a, i5b, i5c, i5d⟩ := pz_gi hE 5 2147483648 2147483653 (Nat.le_of_ble_eq_true rfl) rfl
  have c_deep : ay_at hp 173 28 = some (ρ 5) := ay_gfj hE 702 112 23 173 28 ax_m6 (ax_vlq rfl rfl) (ax_vlj rfl rfl)
  have c_units : ay_at hp 179 1 = some (ρ 4) := ay_gfj hE 726 4 19 179 1 ax_m7 (ax_vlq rfl rfl) (ax_vlj rfl rfl)
  have s1 : (ρ 4 / 4 + 2147483648) % 4294967296 + (4 / 4 + 2147483648) % 4294967296 = (ρ 3 / 4 + 2147483648) % 4294967296 + 2147483648 := pz_gs hE 19 4 15 ax_m8
  obtain ⟨-, -, -, -, -, F151⟩ : ay_ex hp 173 ∧ ay_ex hp 173 ∧ ay_ex hp 173 ∧ ay_ex hp 173 ∧ ay_ex hp 173 ∧ pz_y151 (ρ 0) (ρ 1) (ay_at hp 173 13) (ay_at hp 173 14) (ay_at hp 173 15) (ay_at hp 173 16) (ay_at hp 173 17) := (ax_XF_lt (x := 151) (Nat.le_of_ble_eq_true rfl)).mp (ax_gx hE (151, [3, 7]) ax_m0)
  obtain ⟨-, -, -, -, -, -, -, -, -, -, -, F152⟩ : ay_ex hp 175 ∧ ay_ex hp 176 ∧ ay_ex hp 177 ∧ ay_ex hp 178 ∧ ay_ex hp 179 ∧ ay_ex hp 173 ∧ ay_ex hp 173 ∧ ay_ex hp 173 ∧ ay_ex hp 173 ∧ ay_ex hp 173 ∧ ay_ex hp 181 ∧ pz_y152 1 (ρ 0) (ρ 1) (ay_at hp 175 1) (ay_at hp 176 1) (ay_at hp 177 1) (ay_at hp 178 1) (ay_at hp 179 1) (ay_at hp 173 23) (ay_at hp 173 25) (ay_at hp 173 24) (ay_at hp 173 18) (ay_at hp 173 19) (ay_at hp 181) := (ax_XF_lt (x := 152) (Nat.le_of_ble_eq_true rfl)).mp (ax_gx hE (152, [3, 7]) ax_m1)
  rw [c_units] at F152
  have F178 : pz7 (pz_gt (ρ 0)) (pz_gN (ρ 0)) ((ρ 1) / 4) 8 := (ax_XF_lt (x := 178) (Nat.le_of_ble_eq_true rfl)).mp (ax_gx hE (178, [3, 7]) ax_m2)
  have F207 : pz107 (pz_gt (ρ 0)) (pz_gN (ρ 0)) ((ρ 1) / 4) ((160) / 4) := (ax_XF_lt (x := 207) (Nat.le_of_ble_eq_true rfl)).mp (ax_gx hE (207, [3, 7, 160]) ax_m3)
  have F190 : (pz90 (pz_gt (ρ 0)) (pz_gN (ρ 0)) ((ρ 1) / 4) ((ρ 2) / 4) ∧ 1 ≤ (ρ 2) / 4) := (ax_XF_lt (x := 190) (Nat.le_of_ble_eq_true rfl)).mp (ax_gx hE (190, [3, 7, 11]) ax_m4)
  obtain ⟨-, F195⟩ : ay_ex hp 173 ∧ ay_ln (ay_at hp 173 28) = pz_dp ((ρ 2) / 4) := (ax_XF_lt (x := 195) (Nat.le_of_ble_eq_true rfl)).mp (ax_gx hE (195, [11]) ax_m5)
  rw [c_deep] at F195
  have hd : ρ 5 / 4 = pz_dp (ρ 2 / 4) := F195
  have st := pq_ru6o (pz_m50 F151 F152) F178 F207 F190.1 (by omega) (show ρ 4 / 4 ≤ 39 by omega)
  obtain ⟨ρ', h1, h2⟩ := pz_pn1 (K := ρ 1 / 4 + 1) (xf := [(652, [726, 4, 15, 3, 27]), (153, [3, 27]), (182, [7, 27]), (178, [3, 27]), (187, [3, 27, 11])]) hE (by decide) (fun ρ' h1 h2 x hx => by
    have q0 : ρ' 0 = ρ 0 := h1 0 (by decide)
    have q1 : ρ' 1 = ρ 1 := h1 1 (by decide)
    have q2 : ρ' 2 = ρ 2 := h1 2 (by decide)
    have q3 : ρ' 3 = ρ 3 := h1 3 (by decide)
    have q4 : ρ' 4 = ρ 4 := h1 4 (by decide)
    have q5 : ρ' 5 = ρ 5 := h1 5 (by decide)
    rcases List.mem_cons.mp hx with e | hx
    · subst e
      refine (ax_XF_wr (x := 152) (Nat.le_of_ble_eq_true rfl)).mpr ?_
      show ay_ex (ax_upd hp 726 (4) (ρ' 3)) 175 ∧ ay_ex (ax_upd hp 726 (4) (ρ' 3)) 176 ∧ ay_ex (ax_upd hp 726 (4) (ρ' 3)) 177 ∧ ay_ex (ax_upd hp 726 (4) (ρ' 3)) 178 ∧ ay_ex (ax_upd hp 726 (4) (ρ' 3)) 179 ∧ ay_ex (ax_upd hp 726 (4) (ρ' 3)) 173 ∧ ay_ex (ax_upd hp 726 (4) (ρ' 3)) 173 ∧ ay_ex (ax_upd hp 726 (4) (ρ' 3)) 173 ∧ ay_ex (ax_upd hp 726 (4) (ρ' 3)) 173 ∧ ay_ex (ax_upd hp 726 (4) (ρ' 3)) 173 ∧ ay_ex (ax_upd hp 726 (4) (ρ' 3)) 181 ∧ pz_y152 1 (ρ' 0) (ρ' 6) (ay_at (ax_upd hp 726 (4) (ρ' 3)) 175 1) (ay_at (ax_upd hp 726 (4) (ρ' 3)) 176 1) (ay_at (ax_upd hp 726 (4) (ρ' 3)) 177 1) (ay_at (ax_upd hp 726 (4) (ρ' 3)) 178 1) (ay_at (ax_upd hp 726 (4) (ρ' 3)) 179 1) (ay_at (ax_upd hp 726 (4) (ρ' 3)) 173 23) (ay_at (ax_upd hp 726 (4) (ρ' 3)) 173 25) (ay_at (ax_upd hp 726 (4) (ρ' 3)) 173 24) (ay_at (ax_upd hp 726 (4) (ρ' 3)) 173 18) (ay_at (ax_upd hp 726 (4) (ρ' 3)) 173 19) (ay_at (ax_upd hp 726 (4) (ρ' 3)) 181)
      rw [q0, q3, h2]
      obtain ⟨o0, ho0⟩ := ay_some hT (q := 179) (g := 49) (n := 2) ax_cg_179 ax_cn_49 (j := 4 / 4) (Nat.le_of_ble_eq_true rfl)
      have u1 : ∀ q, q ≠ 179 → ay_at (ax_upd hp 726 4 (ρ 3)) q = ay_at hp q := fun q hq => funext (fun j => ay_upd_ne hT.1 hq j)
      have u2 : ∀ j, ay_at (ax_upd hp 726 4 (ρ 3)) 179 j = if j = 1 then some (ρ 3) else ay_at hp 179 j := fun j => ay_upd_eq hT.1 rfl ho0 j
      refine ⟨ay_ex_upd hT.1 (ax_cellT hT (q := 175) (g := 45) ax_cg_175), ay_ex_upd hT.1 (ax_cellT hT (q := 176) (g := 46) ax_cg_176), ay_ex_upd hT.1 (ax_cellT hT (q := 177) (g := 47) ax_cg_177), ay_ex_upd hT.1 (ax_cellT hT (q := 178) (g := 48) ax_cg_178), ay_ex_upd hT.1 (ax_cellT hT (q := 179) (g := 49) ax_cg_179), ay_ex_upd hT.1 (ax_cellT hT (q := 173) (g := 11) ax_cg_173), ay_ex_upd hT.1 (ax_cellT hT (q := 173) (g := 11) ax_cg_173), ay_ex_upd hT.1 (ax_cellT hT (q := 173) (g := 11) ax_cg_173), ay_ex_upd hT.1 (ax_cellT hT (q := 173) (g := 11) ax_cg_173), ay_ex_upd hT.1 (ax_cellT hT (q := 173) (g := 11) ax_cg_173), ay_ex_upd hT.1 (ax_cellT hT (q := 181) (g := 51) ax_cg_181), ?_⟩
      rw [u1 175 (Nat.ne_of_beq_eq_false rfl), u1 176 (Nat.ne_of_beq_eq_false rfl), u1 177 (Nat.ne_of_beq_eq_false rfl), u1 178 (Nat.ne_of_beq_eq_false rfl), u2 1, if_pos rfl, u1 173 (Nat.ne_of_beq_eq_false rfl), u1 181 (Nat.ne_of_beq_eq_false rfl)]
      refine pz_l152 (pz_41 _) ?_
      show pz_dt _ _ _ _ _ (ρ 3 / 4) _ _ _ _ _ _ _
      rw [show ρ 3 / 4 = ρ 4 / 4 + 1 by omega]
      exact st.1.2
    rcases List.mem_cons.mp hx with e | hx
    · subst e
      refine (ax_XF_lt (x := 153) (Nat.le_of_ble_eq_true rfl)).mpr ?_
      show ay_ex hp 173 ∧ pz_at (pz_gt (ρ' 0)) (pz_gN (ρ' 0)) (ay_ln (ay_at hp 173 13)) = pz_at (pz_gt (ρ' 0)) (pz_gN (ρ' 0)) (pz_p (pz_cF (ρ' 0) (ρ' 6)))
      rw [q0, h2]
      refine ⟨(ax_cellT hT (q := 173) (g := 11) ax_cg_173), ?_⟩
      exact pz_l153 (pz_41 _) st.1.1
    rcases List.mem_cons.mp hx with e | hx
    · subst e
      refine (ax_XF_lt (x := 182) (Nat.le_of_ble_eq_true rfl)).mpr ?_
      show (ρ' 6) / 4 = (ρ' 1) / 4 + 1
      rw [q1, h2]
      rw [pz_41]
    rcases List.mem_cons.mp hx with e | hx
    · subst e
      refine (ax_XF_lt (x := 178) (Nat.le_of_ble_eq_true rfl)).mpr ?_
      show pz7 (pz_gt (ρ' 0)) (pz_gN (ρ' 0)) ((ρ' 6) / 4) 8
      rw [q0, h2]
      rw [pz_41]
      exact st.2.1
    cases List.mem_singleton.mp hx
    refine (ax_XF_lt (x := 187) (Nat.le_of_ble_eq_true rfl)).mpr ?_
    show (pz90 (pz_gt (ρ' 0)) (pz_gN (ρ' 0)) ((ρ' 6) / 4) (2 * ((ρ' 2) / 4)) ∧ 1 ≤ (ρ' 2) / 4)
    rw [q0, q2, h2]
    exact ⟨pz_l197 (pz_41 _) st.2.2, F190.2⟩)
  exact ⟨(fun y hy => by cases hy), _, List.mem_cons_self, ρ', h1, h2⟩

theorem axq0_mu6_5 : ax_RO ax_wM0 (ax_XM 0) axu0_mu6_5 := by
  intro ρ hp hE hT
  have j0 : ρ 0 % 4 = 1 := pz_gj hE 0 (Nat.le_of_ble_eq_true rfl) rfl
  have j1 : ρ 1 % 4 = 1 := pz_gj hE 1 (Nat.le_of_ble_eq_true rfl) rfl
  have j2 : ρ 2 % 4 = 1 := pz_gj hE 2 (Nat.le_of_ble_eq_true rfl) rfl
  obtain ⟨i3a, i3b, i3c, i3d⟩ := pz_gi hE 3 0 4294967295 (Nat.le_of_ble_eq_true rfl) rfl
  obtain ⟨i4a, i4b, i4c, i4d⟩ := pz_gi hE 4 2147483648 2147483687 (Nat.le_of_ble_eq_true rfl) rfl
  obtain ⟨i5a, i5b, i5c, i5d⟩ := pz_gi hE 5 2147483648 2147483653 (Nat.le_of_ble_eq_true rfl) rfl
  have c_deep : ay_at hp 173 28 = some (ρ 5) := ay_gfj hE 702 112 23 173 28 ax_m6 (ax_vlq rfl rfl) (ax_vlj rfl rfl)
  have c_units : ay_at hp 179 1 = some (ρ 4) := ay_gfj hE 726 4 19 179 1 ax_m7 (ax_vlq rfl rfl) (ax_vlj rfl rfl)
  have s1 : (ρ 4 / 4 + 2147483648) % 4294967296 + (4 / 4 + 2147483648) % 4294967296 = (ρ 3 / 4 + 2147483648) % 4294967296 + 2147483648 := pz_gs hE 19 4 15 ax_m8
  obtain ⟨-, -, -, -, -, F151⟩ : ay_ex hp 173 ∧ ay_ex hp 173 ∧ ay_ex hp 173 ∧ ay_ex hp 173 ∧ ay_ex hp 173 ∧ pz_y151 (ρ 0) (ρ 1) (ay_at hp 173 13) (ay_at hp 173 14) (ay_at hp 173 15) (ay_at hp 173 16) (ay_at hp 173 17) := (ax_XF_lt (x := 151) (Nat.le_of_ble_eq_true rfl)).mp (ax_gx hE (151, [3, 7]) ax_m0)
  obtain ⟨-, -, -, -, -, -, -, -, -, -, -, F152⟩ : ay_ex hp 175 ∧ ay_ex hp 176 ∧ ay_ex hp 177 ∧ ay_ex hp 178 ∧ ay_ex hp 179 ∧ ay_ex hp 173 ∧ ay_ex hp 173 ∧ ay_ex hp 173 ∧ ay_ex hp 173 ∧ ay_ex hp 173 ∧ ay_ex hp 181 ∧ pz_y152 1 (ρ 0) (ρ 1) (ay_at hp 175 1) (ay_at hp 176 1) (ay_at hp 177 1) (ay_at hp 178 1) (ay_at hp 179 1) (ay_at hp 173 23) (ay_at hp 173 25) (ay_at hp 173 24) (ay_at hp 173 18) (ay_at hp 173 19) (ay_at hp 181) := (ax_XF_lt (x := 152) (Nat.le_of_ble_eq_true rfl)).mp (ax_gx hE (152, [3, 7]) ax_m1)
  rw [c_units] at F152
  have F178 : pz7 (pz_gt (ρ 0)) (pz_gN (ρ 0)) ((ρ 1) / 4) 8 := (ax_XF_lt (x := 178) (Nat.le_of_ble_eq_true rfl)).mp (ax_gx hE (178, [3, 7]) ax_m2)
  have F207 : pz107 (pz_gt (ρ 0)) (pz_gN (ρ 0)) ((ρ 1) / 4) ((20) / 4) := (ax_XF_lt (x := 207) (Nat.le_of_ble_eq_true rfl)).mp (ax_gx hE (207, [3, 7, 20]) ax_m3)
  have F190 : (pz90 (pz_gt (ρ 0)) (pz_gN (ρ 0)) ((ρ 1) / 4) ((ρ 2) / 4) ∧ 1 ≤ (ρ 2) / 4) := (ax_XF_lt (x := 190) (Nat.le_of_ble_eq_true rfl)).mp (ax_gx hE (190, [3, 7, 11]) ax_m4)
  obtain ⟨-, F195⟩ : ay_ex hp 173 ∧ ay_ln (ay_at hp 173 28) = pz_dp ((ρ 2) / 4) := (ax_XF_lt (x := 195) (Nat.le_of_ble_eq_true rfl)).mp (ax_gx hE (195, [11]) ax_m5)
  rw [c_deep] at F195
  have hd : ρ 5 / 4 = pz_dp (ρ 2 / 4) := F195
  have st := pq_ru6m (pz_m50 F151 F152) F178 F207 F190.1 (by omega) (show ρ 4 / 4 ≤ 39 by omega)
  obtain ⟨ρ', h1, h2⟩ := pz_pn1 (K := ρ 1 / 4 + 1) (xf := [(652, [726, 4, 15, 3, 27]), (153, [3, 27]), (182, [7, 27]), (178, [3, 27]), (188, [3, 27, 11])]) hE (by decide) (fun ρ' h1 h2 x hx => by
    have q0 : ρ' 0 = ρ 0 := h1 0 (by decide)
    have q1 : ρ' 1 = ρ 1 := h1 1 (by decide)
    have q2 : ρ' 2 = ρ 2 := h1 2 (by decide)
    have q3 : ρ' 3 = ρ 3 := h1 3 (by decide)
    have q4 : ρ' 4 = ρ 4 := h1 4 (by decide)
    have q5 : ρ' 5 = ρ 5 := h1 5 (by decide)
    rcases List.mem_cons.mp hx with e | hx
    · subst e
      refine (ax_XF_wr (x := 152) (Nat.le_of_ble_eq_true rfl)).mpr ?_
      show ay_ex (ax_upd hp 726 (4) (ρ' 3)) 175 ∧ ay_ex (ax_upd hp 726 (4) (ρ' 3)) 176 ∧ ay_ex (ax_upd hp 726 (4) (ρ' 3)) 177 ∧ ay_ex (ax_upd hp 726 (4) (ρ' 3)) 178 ∧ ay_ex (ax_upd hp 726 (4) (ρ' 3)) 179 ∧ ay_ex (ax_upd hp 726 (4) (ρ' 3)) 173 ∧ ay_ex (ax_upd hp 726 (4) (ρ' 3)) 173 ∧ ay_ex (ax_upd hp 726 (4) (ρ' 3)) 173 ∧ ay_ex (ax_upd hp 726 (4) (ρ' 3)) 173 ∧ ay_ex (ax_upd hp 726 (4) (ρ' 3)) 173 ∧ ay_ex (ax_upd hp 726 (4) (ρ' 3)) 181 ∧ pz_y152 1 (ρ' 0) (ρ' 6) (ay_at (ax_upd hp 726 (4) (ρ' 3)) 175 1) (ay_at (ax_upd hp 726 (4) (ρ' 3)) 176 1) (ay_at (ax_upd hp 726 (4) (ρ' 3)) 177 1) (ay_at (ax_upd hp 726 (4) (ρ' 3)) 178 1) (ay_at (ax_upd hp 726 (4) (ρ' 3)) 179 1) (ay_at (ax_upd hp 726 (4) (ρ' 3)) 173 23) (ay_at (ax_upd hp 726 (4) (ρ' 3)) 173 25) (ay_at (ax_upd hp 726 (4) (ρ' 3)) 173 24) (ay_at (ax_upd hp 726 (4) (ρ' 3)) 173 18) (ay_at (ax_upd hp 726 (4) (ρ' 3)) 173 19) (ay_at (ax_upd hp 726 (4) (ρ' 3)) 181)
      rw [q0, q3, h2]
      obtain ⟨o0, ho0⟩ := ay_some hT (q := 179) (g := 49) (n := 2) ax_cg_179 ax_cn_49 (j := 4 / 4) (Nat.le_of_ble_eq_true rfl)
      have u1 : ∀ q, q ≠ 179 → ay_at (ax_upd hp 726 4 (ρ 3)) q = ay_at hp q := fun q hq => funext (fun j => ay_upd_ne hT.1 hq j)
      have u2 : ∀ j, ay_at (ax_upd hp 726 4 (ρ 3)) 179 j = if j = 1 then some (ρ 3) else ay_at hp 179 j := fun j => ay_upd_eq hT.1 rfl ho0 j
      refine ⟨ay_ex_upd hT.1 (ax_cellT hT (q := 175) (g := 45) ax_cg_175), ay_ex_upd hT.1 (ax_cellT hT (q := 176) (g := 46) ax_cg_176), ay_ex_upd hT.1 (ax_cellT hT (q := 177) (g := 47) ax_cg_177), ay_ex_upd hT.1 (ax_cellT hT (q := 178) (g := 48) ax_cg_178), ay_ex_upd hT.1 (ax_cellT hT (q := 179) (g := 49) ax_cg_179), ay_ex_upd hT.1 (ax_cellT hT (q := 173) (g := 11) ax_cg_173), ay_ex_upd hT.1 (ax_cellT hT (q := 173) (g := 11) ax_cg_173), ay_ex_upd hT.1 (ax_cellT hT (q := 173) (g := 11) ax_cg_173), ay_ex_upd hT.1 (ax_cellT hT (q := 173) (g := 11) ax_cg_173), ay_ex_upd hT.1 (ax_cellT hT (q := 173) (g := 11) ax_cg_173), ay_ex_upd hT.1 (ax_cellT hT (q := 181) (g := 51) ax_cg_181), ?_⟩
      rw [u1 175 (Nat.ne_of_beq_eq_false rfl), u1 176 (Nat.ne_of_beq_eq_false rfl), u1 177 (Nat.ne_of_beq_eq_false rfl), u1 178 (Nat.ne_of_beq_eq_false rfl), u2 1, if_pos rfl, u1 173 (Nat.ne_of_beq_eq_false rfl), u1 181 (Nat.ne_of_beq_eq_false rfl)]
      refine pz_l152 (pz_41 _) ?_
      show pz_dt _ _ _ _ _ (ρ 3 / 4) _ _ _ _ _ _ _
      rw [show ρ 3 / 4 = ρ 4 / 4 + 1 by omega]
      exact st.1.2
    rcases List.mem_cons.mp hx with e | hx
    · subst e
      refine (ax_XF_lt (x := 153) (Nat.le_of_ble_eq_true rfl)).mpr ?_
      show ay_ex hp 173 ∧ pz_at (pz_gt (ρ' 0)) (pz_gN (ρ' 0)) (ay_ln (ay_at hp 173 13)) = pz_at (pz_gt (ρ' 0)) (pz_gN (ρ' 0)) (pz_p (pz_cF (ρ' 0) (ρ' 6)))
      rw [q0, h2]
      refine ⟨(ax_cellT hT (q := 173) (g := 11) ax_cg_173), ?_⟩
      exact pz_l153 (pz_41 _) st.1.1
    rcases List.mem_cons.mp hx with e | hx
    · subst e
      refine (ax_XF_lt (x := 182) (Nat.le_of_ble_eq_true rfl)).mpr ?_
      show (ρ' 6) / 4 = (ρ' 1) / 4 + 1
      rw [q1, h2]
      rw [pz_41]
    rcases List.mem_cons.mp hx with e | hx
    · subst e
      refine (ax_XF_lt (x := 178) (Nat.le_of_ble_eq_true rfl)).mpr ?_
      show pz7 (pz_gt (ρ' 0)) (pz_gN (ρ' 0)) ((ρ' 6) / 4) 8
      rw [q0, h2]
      rw [pz_41]
      exact st.2.1
    cases List.mem_singleton.mp hx
    refine (ax_XF_lt (x := 188) (Nat.le_of_ble_eq_true rfl)).mpr ?_
    show (pz90 (pz_gt (ρ' 0)) (pz_gN (ρ' 0)) ((ρ' 6) / 4) (2 * ((ρ' 2) / 4) + 1) ∧ 1 ≤ (ρ' 2) / 4)
    rw [q0, q2, h2]
    exact ⟨pz_l197 (pz_41 _) st.2.2, F190.2⟩)
  exact ⟨(fun y hy => by cases hy), _, List.mem_cons_self, ρ', h1, h2⟩

theorem axq0_mu6_1 : ax_RO ax_wM0 (ax_XM 0) axu0_mu6_1 := by
  intro ρ hp hE hT
  have j0 : ρ 0 % 4 = 1 := pz_gj hE 0 (Nat.le_of_ble_eq_true rfl) rfl
  have j1 : ρ 1 % 4 = 1 := pz_gj hE 1 (Nat.le_of_ble_eq_true rfl) rfl
  have j2 : ρ 2 % 4 = 1 := pz_gj hE 2 (Nat.le_of_ble_eq_true rfl) rfl
  obtain ⟨i3a, i3b, i3c, i3d⟩ := pz_gi hE 3 0 4294967295 (Nat.le_of_ble_eq_true rfl) rfl
  obtain ⟨i4a, i4b, i4c, i4d⟩ := pz_gi hE 4 2147483648 2147483687 (Nat.le_of_ble_eq_true rfl) rfl
  obtain ⟨i5a, i5b, i5c, i5d⟩ := pz_gi hE 5 2147483648 2147483653 (Nat.le_of_ble_eq_true rfl) rfl
  have c_deep : ay_at hp 173 28 = some (ρ 5) := ay_gfj hE 702 112 23 173 28 ax_m6 (ax_vlq rfl rfl) (ax_vlj rfl rfl)
  have c_units : ay_at hp 179 1 = some (ρ 4) := ay_gfj hE 726 4 19 179 1 ax_m7 (ax_vlq rfl rfl) (ax_vlj rfl rfl)
  have s1 : (ρ 4 / 4 + 2147483648) % 4294967296 + (4 / 4 + 2147483648) % 4294967296 = (ρ 3 / 4 + 2147483648) % 4294967296 + 2147483648 := pz_gs hE 19 4 15 ax_m8
  obtain ⟨-, -, -, -, -, F151⟩ : ay_ex hp 173 ∧ ay_ex hp 173 ∧ ay_ex hp 173 ∧ ay_ex hp 173 ∧ ay_ex hp 173 ∧ pz_y151 (ρ 0) (ρ 1) (ay_at hp 173 13) (ay_at hp 173 14) (ay_at hp 173 15) (ay_at hp 173 16) (ay_at hp 173 17) := (ax_XF_lt (x := 151) (Nat.le_of_ble_eq_true rfl)).mp (ax_gx hE (151, [3, 7]) ax_m0)
  obtain ⟨-, -, -, -, -, -, -, -, -, -, -, F152⟩ : ay_ex hp 175 ∧ ay_ex hp 176 ∧ ay_ex hp 177 ∧ ay_ex hp 178 ∧ ay_ex hp 179 ∧ ay_ex hp 173 ∧ ay_ex hp 173 ∧ ay_ex hp 173 ∧ ay_ex hp 173 ∧ ay_ex hp 173 ∧ ay_ex hp 181 ∧ pz_y152 1 (ρ 0) (ρ 1) (ay_at hp 175 1) (ay_at hp 176 1) (ay_at hp 177 1) (ay_at hp 178 1) (ay_at hp 179 1) (ay_at hp 173 23) (ay_at hp 173 25) (ay_at hp 173 24) (ay_at hp 173 18) (ay_at hp 173 19) (ay_at hp 181) := (ax_XF_lt (x := 152) (Nat.le_of_ble_eq_true rfl)).mp (ax_gx hE (152, [3, 7]) ax_m1)
  rw [c_units] at F152
  have F178 : pz7 (pz_gt (ρ 0)) (pz_gN (ρ 0)) ((ρ 1) / 4) 8 := (ax_XF_lt (x := 178) (Nat.le_of_ble_eq_true rfl)).mp (ax_gx hE (178, [3, 7]) ax_m2)
  have F207 : pz107 (pz_gt (ρ 0)) (pz_gN (ρ 0)) ((ρ 1) / 4) ((4) / 4) := (ax_XF_lt (x := 207) (Nat.le_of_ble_eq_true rfl)).mp (ax_gx hE (207, [3, 7, 4]) ax_m3)
  have F190 : (pz90 (pz_gt (ρ 0)) (pz_gN (ρ 0)) ((ρ 1) / 4) ((ρ 2) / 4) ∧ 1 ≤ (ρ 2) / 4) := (ax_XF_lt (x := 190) (Nat.le_of_ble_eq_true rfl)).mp (ax_gx hE (190, [3, 7, 11]) ax_m4)
  obtain ⟨-, F195⟩ : ay_ex hp 173 ∧ ay_ln (ay_at hp 173 28) = pz_dp ((ρ 2) / 4) := (ax_XF_lt (x := 195) (Nat.le_of_ble_eq_true rfl)).mp (ax_gx hE (195, [11]) ax_m5)
  rw [c_deep] at F195
  have hd : ρ 5 / 4 = pz_dp (ρ 2 / 4) := F195
  have st := pq_ru6u (pz_m50 F151 F152) F178 F207 (by decide) (by decide) F190.1 (by omega) (show ρ 4 / 4 ≤ 39 by omega)
  obtain ⟨ρ', h1, h2⟩ := pz_pn1 (K := ρ 1 / 4 + 1) (xf := [(652, [726, 4, 15, 3, 27]), (153, [3, 27]), (182, [7, 27]), (179, [3, 27]), (197, [3, 27, 11])]) hE (by decide) (fun ρ' h1 h2 x hx => by
    have q0 : ρ' 0 = ρ 0 := h1 0 (by decide)
    have q1 : ρ' 1 = ρ 1 := h1 1 (by decide)
    have q2 : ρ' 2 = ρ 2 := h1 2 (by decide)
    have q3 : ρ' 3 = ρ 3 := h1 3 (by decide)
    have q4 : ρ' 4 = ρ 4 := h1 4 (by decide)
    have q5 : ρ' 5 = ρ 5 := h1 5 (by decide)
    rcases List.mem_cons.mp hx with e | hx
    · subst e
      refine (ax_XF_wr (x := 152) (Nat.le_of_ble_eq_true rfl)).mpr ?_
      show ay_ex (ax_upd hp 726 (4) (ρ' 3)) 175 ∧ ay_ex (ax_upd hp 726 (4) (ρ' 3)) 176 ∧ ay_ex (ax_upd hp 726 (4) (ρ' 3)) 177 ∧ ay_ex (ax_upd hp 726 (4) (ρ' 3)) 178 ∧ ay_ex (ax_upd hp 726 (4) (ρ' 3)) 179 ∧ ay_ex (ax_upd hp 726 (4) (ρ' 3)) 173 ∧ ay_ex (ax_upd hp 726 (4) (ρ' 3)) 173 ∧ ay_ex (ax_upd hp 726 (4) (ρ' 3)) 173 ∧ ay_ex (ax_upd hp 726 (4) (ρ' 3)) 173 ∧ ay_ex (ax_upd hp 726 (4) (ρ' 3)) 173 ∧ ay_ex (ax_upd hp 726 (4) (ρ' 3)) 181 ∧ pz_y152 1 (ρ' 0) (ρ' 6) (ay_at (ax_upd hp 726 (4) (ρ' 3)) 175 1) (ay_at (ax_upd hp 726 (4) (ρ' 3)) 176 1) (ay_at (ax_upd hp 726 (4) (ρ' 3)) 177 1) (ay_at (ax_upd hp 726 (4) (ρ' 3)) 178 1) (ay_at (ax_upd hp 726 (4) (ρ' 3)) 179 1) (ay_at (ax_upd hp 726 (4) (ρ' 3)) 173 23) (ay_at (ax_upd hp 726 (4) (ρ' 3)) 173 25) (ay_at (ax_upd hp 726 (4) (ρ' 3)) 173 24) (ay_at (ax_upd hp 726 (4) (ρ' 3)) 173 18) (ay_at (ax_upd hp 726 (4) (ρ' 3)) 173 19) (ay_at (ax_upd hp 726 (4) (ρ' 3)) 181)
      rw [q0, q3, h2]
      obtain ⟨o0, ho0⟩ := ay_some hT (q := 179) (g := 49) (n := 2) ax_cg_179 ax_cn_49 (j := 4 / 4) (Nat.le_of_ble_eq_true rfl)
      have u1 : ∀ q, q ≠ 179 → ay_at (ax_upd hp 726 4 (ρ 3)) q = ay_at hp q := fun q hq => funext (fun j => ay_upd_ne hT.1 hq j)
      have u2 : ∀ j, ay_at (ax_upd hp 726 4 (ρ 3)) 179 j = if j = 1 then some (ρ 3) else ay_at hp 179 j := fun j => ay_upd_eq hT.1 rfl ho0 j
      refine ⟨ay_ex_upd hT.1 (ax_cellT hT (q := 175) (g := 45) ax_cg_175), ay_ex_upd hT.1 (ax_cellT hT (q := 176) (g := 46) ax_cg_176), ay_ex_upd hT.1 (ax_cellT hT (q := 177) (g := 47) ax_cg_177), ay_ex_upd hT.1 (ax_cellT hT (q := 178) (g := 48) ax_cg_178), ay_ex_upd hT.1 (ax_cellT hT (q := 179) (g := 49) ax_cg_179), ay_ex_upd hT.1 (ax_cellT hT (q := 173) (g := 11) ax_cg_173), ay_ex_upd hT.1 (ax_cellT hT (q := 173) (g := 11) ax_cg_173), ay_ex_upd hT.1 (ax_cellT hT (q := 173) (g := 11) ax_cg_173), ay_ex_upd hT.1 (ax_cellT hT (q := 173) (g := 11) ax_cg_173), ay_ex_upd hT.1 (ax_cellT hT (q := 173) (g := 11) ax_cg_173), ay_ex_upd hT.1 (ax_cellT hT (q := 181) (g := 51) ax_cg_181), ?_⟩
      rw [u1 175 (Nat.ne_of_beq_eq_false rfl), u1 176 (Nat.ne_of_beq_eq_false rfl), u1 177 (Nat.ne_of_beq_eq_false rfl), u1 178 (Nat.ne_of_beq_eq_false rfl), u2 1, if_pos rfl, u1 173 (Nat.ne_of_beq_eq_false rfl), u1 181 (Nat.ne_of_beq_eq_false rfl)]
      refine pz_l152 (pz_41 _) ?_
      show pz_dt _ _ _ _ _ (ρ 3 / 4) _ _ _ _ _ _ _
      rw [show ρ 3 / 4 = ρ 4 / 4 + 1 by omega]
      exact st.1.2
    rcases List.mem_cons.mp hx with e | hx
    · subst e
      refine (ax_XF_lt (x := 153) (Nat.le_of_ble_eq_true rfl)).mpr ?_
      show ay_ex hp 173 ∧ pz_at (pz_gt (ρ' 0)) (pz_gN (ρ' 0)) (ay_ln (ay_at hp 173 13)) = pz_at (pz_gt (ρ' 0)) (pz_gN (ρ' 0)) (pz_p (pz_cF (ρ' 0) (ρ' 6)))
      rw [q0, h2]
      refine ⟨(ax_cellT hT (q := 173) (g := 11) ax_cg_173), ?_⟩
      exact pz_l153 (pz_41 _) st.1.1
    rcases List.mem_cons.mp hx with e | hx
    · subst e
      refine (ax_XF_lt (x := 182) (Nat.le_of_ble_eq_true rfl)).mpr ?_
      show (ρ' 6) / 4 = (ρ' 1) / 4 + 1
      rw [q1, h2]
      rw [pz_41]
    rcases List.mem_cons.mp hx with e | hx
    · subst e
      refine (ax_XF_lt (x := 179) (Nat.le_of_ble_eq_true rfl)).mpr ?_
      show pz7 (pz_gt (ρ' 0)) (pz_gN (ρ' 0)) ((ρ' 6) / 4) 9
      rw [q0, h2]
      rw [pz_41]
      exact st.2.1
    cases List.mem_singleton.mp hx
    refine (ax_XF_lt (x := 197) (Nat.le_of_ble_eq_true rfl)).mpr ?_
    show (pz90 (pz_gt (ρ' 0)) (pz_gN (ρ' 0)) ((ρ' 6) / 4) (pz_strip ((ρ' 2) / 4)) ∧ 1 ≤ (ρ' 2) / 4)
    rw [q0, q2, h2]
    exact ⟨pz_l197 (pz_41 _) st.2.2, F190.2⟩)
  exact ⟨(fun y hy => by cases hy), _, List.mem_cons_self, ρ', h1, h2⟩

theorem axq0_mu6_2 : ax_RO ax_wM0 (ax_XM 0) axu0_mu6_2 := by
  intro ρ hp hE hT
  have j0 : ρ 0 % 4 = 1 := pz_gj hE 0 (Nat.le_of_ble_eq_true rfl) rfl
  have j1 : ρ 1 % 4 = 1 := pz_gj hE 1 (Nat.le_of_ble_eq_true rfl) rfl
  have j2 : ρ 2 % 4 = 1 := pz_gj hE 2 (Nat.le_of_ble_eq_true rfl) rfl
  obtain ⟨i3a, i3b, i3c, i3d⟩ := pz_gi hE 3 0 4294967295 (Nat.le_of_ble_eq_true rfl) rfl
  obtain ⟨i4a, i4b, i4c, i4d⟩ := pz_gi hE 4 2147483648 2147483687 (Nat.le_of_ble_eq_true rfl) rfl
  obtain ⟨i5a, i5b, i5c, i5d⟩ := pz_gi hE 5 2147483648 2147483653 (Nat.le_of_ble_eq_true rfl) rfl
  have c_deep : ay_at hp 173 28 = some (ρ 5) := ay_gfj hE 702 112 23 173 28 ax_m6 (ax_vlq rfl rfl) (ax_vlj rfl rfl)
  have c_units : ay_at hp 179 1 = some (ρ 4) := ay_gfj hE 726 4 19 179 1 ax_m7 (ax_vlq rfl rfl) (ax_vlj rfl rfl)
  have s1 : (ρ 4 / 4 + 2147483648) % 4294967296 + (4 / 4 + 2147483648) % 4294967296 = (ρ 3 / 4 + 2147483648) % 4294967296 + 2147483648 := pz_gs hE 19 4 15 ax_m8
  obtain ⟨-, -, -, -, -, F151⟩ : ay_ex hp 173 ∧ ay_ex hp 173 ∧ ay_ex hp 173 ∧ ay_ex hp 173 ∧ ay_ex hp 173 ∧ pz_y151 (ρ 0) (ρ 1) (ay_at hp 173 13) (ay_at hp 173 14) (ay_at hp 173 15) (ay_at hp 173 16) (ay_at hp 173 17) := (ax_XF_lt (x := 151) (Nat.le_of_ble_eq_true rfl)).mp (ax_gx hE (151, [3, 7]) ax_m0)
  obtain ⟨-, -, -, -, -, -, -, -, -, -, -, F152⟩ : ay_ex hp 175 ∧ ay_ex hp 176 ∧ ay_ex hp 177 ∧ ay_ex hp 178 ∧ ay_ex hp 179 ∧ ay_ex hp 173 ∧ ay_ex hp 173 ∧ ay_ex hp 173 ∧ ay_ex hp 173 ∧ ay_ex hp 173 ∧ ay_ex hp 181 ∧ pz_y152 1 (ρ 0) (ρ 1) (ay_at hp 175 1) (ay_at hp 176 1) (ay_at hp 177 1) (ay_at hp 178 1) (ay_at hp 179 1) (ay_at hp 173 23) (ay_at hp 173 25) (ay_at hp 173 24) (ay_at hp 173 18) (ay_at hp 173 19) (ay_at hp 181) := (ax_XF_lt (x := 152) (Nat.le_of_ble_eq_true rfl)).mp (ax_gx hE (152, [3, 7]) ax_m1)
  rw [c_units] at F152
  have F178 : pz7 (pz_gt (ρ 0)) (pz_gN (ρ 0)) ((ρ 1) / 4) 8 := (ax_XF_lt (x := 178) (Nat.le_of_ble_eq_true rfl)).mp (ax_gx hE (178, [3, 7]) ax_m2)
  have F207 : pz107 (pz_gt (ρ 0)) (pz_gN (ρ 0)) ((ρ 1) / 4) ((8) / 4) := (ax_XF_lt (x := 207) (Nat.le_of_ble_eq_true rfl)).mp (ax_gx hE (207, [3, 7, 8]) ax_m3)
  have F190 : (pz90 (pz_gt (ρ 0)) (pz_gN (ρ 0)) ((ρ 1) / 4) ((ρ 2) / 4) ∧ 1 ≤ (ρ 2) / 4) := (ax_XF_lt (x := 190) (Nat.le_of_ble_eq_true rfl)).mp (ax_gx hE (190, [3, 7, 11]) ax_m4)
  obtain ⟨-, F195⟩ : ay_ex hp 173 ∧ ay_ln (ay_at hp 173 28) = pz_dp ((ρ 2) / 4) := (ax_XF_lt (x := 195) (Nat.le_of_ble_eq_true rfl)).mp (ax_gx hE (195, [11]) ax_m5)
  rw [c_deep] at F195
  have hd : ρ 5 / 4 = pz_dp (ρ 2 / 4) := F195
  have st := pq_ru6u (pz_m50 F151 F152) F178 F207 (by decide) (by decide) F190.1 (by omega) (show ρ 4 / 4 ≤ 39 by omega)
  obtain ⟨ρ', h1, h2⟩ := pz_pn1 (K := ρ 1 / 4 + 1) (xf := [(652, [726, 4, 15, 3, 27]), (153, [3, 27]), (182, [7, 27]), (179, [3, 27]), (197, [3, 27, 11])]) hE (by decide) (fun ρ' h1 h2 x hx => by
    have q0 : ρ' 0 = ρ 0 := h1 0 (by decide)
    have q1 : ρ' 1 = ρ 1 := h1 1 (by decide)
    have q2 : ρ' 2 = ρ 2 := h1 2 (by decide)
    have q3 : ρ' 3 = ρ 3 := h1 3 (by decide)
    have q4 : ρ' 4 = ρ 4 := h1 4 (by decide)
    have q5 : ρ' 5 = ρ 5 := h1 5 (by decide)
    rcases List.mem_cons.mp hx with e | hx
    · subst e
      refine (ax_XF_wr (x := 152) (Nat.le_of_ble_eq_true rfl)).mpr ?_
      show ay_ex (ax_upd hp 726 (4) (ρ' 3)) 175 ∧ ay_ex (ax_upd hp 726 (4) (ρ' 3)) 176 ∧ ay_ex (ax_upd hp 726 (4) (ρ' 3)) 177 ∧ ay_ex (ax_upd hp 726 (4) (ρ' 3)) 178 ∧ ay_ex (ax_upd hp 726 (4) (ρ' 3)) 179 ∧ ay_ex (ax_upd hp 726 (4) (ρ' 3)) 173 ∧ ay_ex (ax_upd hp 726 (4) (ρ' 3)) 173 ∧ ay_ex (ax_upd hp 726 (4) (ρ' 3)) 173 ∧ ay_ex (ax_upd hp 726 (4) (ρ' 3)) 173 ∧ ay_ex (ax_upd hp 726 (4) (ρ' 3)) 173 ∧ ay_ex (ax_upd hp 726 (4) (ρ' 3)) 181 ∧ pz_y152 1 (ρ' 0) (ρ' 6) (ay_at (ax_upd hp 726 (4) (ρ' 3)) 175 1) (ay_at (ax_upd hp 726 (4) (ρ' 3)) 176 1) (ay_at (ax_upd hp 726 (4) (ρ' 3)) 177 1) (ay_at (ax_upd hp 726 (4) (ρ' 3)) 178 1) (ay_at (ax_upd hp 726 (4) (ρ' 3)) 179 1) (ay_at (ax_upd hp 726 (4) (ρ' 3)) 173 23) (ay_at (ax_upd hp 726 (4) (ρ' 3)) 173 25) (ay_at (ax_upd hp 726 (4) (ρ' 3)) 173 24) (ay_at (ax_upd hp 726 (4) (ρ' 3)) 173 18) (ay_at (ax_upd hp 726 (4) (ρ' 3)) 173 19) (ay_at (ax_upd hp 726 (4) (ρ' 3)) 181)
      rw [q0, q3, h2]
      obtain ⟨o0, ho0⟩ := ay_some hT (q := 179) (g := 49) (n := 2) ax_cg_179 ax_cn_49 (j := 4 / 4) (Nat.le_of_ble_eq_true rfl)
      have u1 : ∀ q, q ≠ 179 → ay_at (ax_upd hp 726 4 (ρ 3)) q = ay_at hp q := fun q hq => funext (fun j => ay_upd_ne hT.1 hq j)
      have u2 : ∀ j, ay_at (ax_upd hp 726 4 (ρ 3)) 179 j = if j = 1 then some (ρ 3) else ay_at hp 179 j := fun j => ay_upd_eq hT.1 rfl ho0 j
      refine ⟨ay_ex_upd hT.1 (ax_cellT hT (q := 175) (g := 45) ax_cg_175), ay_ex_upd hT.1 (ax_cellT hT (q := 176) (g := 46) ax_cg_176), ay_ex_upd hT.1 (ax_cellT hT (q := 177) (g := 47) ax_cg_177), ay_ex_upd hT.1 (ax_cellT hT (q := 178) (g := 48) ax_cg_178), ay_ex_upd hT.1 (ax_cellT hT (q := 179) (g := 49) ax_cg_179), ay_ex_upd hT.1 (ax_cellT hT (q := 173) (g := 11) ax_cg_173), ay_ex_upd hT.1 (ax_cellT hT (q := 173) (g := 11) ax_cg_173), ay_ex_upd hT.1 (ax_cellT hT (q := 173) (g := 11) ax_cg_173), ay_ex_upd hT.1 (ax_cellT hT (q := 173) (g := 11) ax_cg_173), ay_ex_upd hT.1 (ax_cellT hT (q := 173) (g := 11) ax_cg_173), ay_ex_upd hT.1 (ax_cellT hT (q := 181) (g := 51) ax_cg_181), ?_⟩
      rw [u1 175 (Nat.ne_of_beq_eq_false rfl), u1 176 (Nat.ne_of_beq_eq_false rfl), u1 177 (Nat.ne_of_beq_eq_false rfl), u1 178 (Nat.ne_of_beq_eq_false rfl), u2 1, if_pos rfl, u1 173 (Nat.ne_of_beq_eq_false rfl), u1 181 (Nat.ne_of_beq_eq_false rfl)]
      refine pz_l152 (pz_41 _) ?_
      show pz_dt _ _ _ _ _ (ρ 3 / 4) _ _ _ _ _ _ _
      rw [show ρ 3 / 4 = ρ 4 / 4 + 1 by omega]
      exact st.1.2
    rcases List.mem_cons.mp hx with e | hx
    · subst e
      refine (ax_XF_lt (x := 153) (Nat.le_of_ble_eq_true rfl)).mpr ?_
      show ay_ex hp 173 ∧ pz_at (pz_gt (ρ' 0)) (pz_gN (ρ' 0)) (ay_ln (ay_at hp 173 13)) = pz_at (pz_gt (ρ' 0)) (pz_gN (ρ' 0)) (pz_p (pz_cF (ρ' 0) (ρ' 6)))
      rw [q0, h2]
      refine ⟨(ax_cellT hT (q := 173) (g := 11) ax_cg_173), ?_⟩
      exact pz_l153 (pz_41 _) st.1.1
    rcases List.mem_cons.mp hx with e | hx
    · subst e
      refine (ax_XF_lt (x := 182) (Nat.le_of_ble_eq_true rfl)).mpr ?_
      show (ρ' 6) / 4 = (ρ' 1) / 4 + 1
      rw [q1, h2]
      rw [pz_41]
    rcases List.mem_cons.mp hx with e | hx
    · subst e
      refine (ax_XF_lt (x := 179) (Nat.le_of_ble_eq_true rfl)).mpr ?_
      show pz7 (pz_gt (ρ' 0)) (pz_gN (ρ' 0)) ((ρ' 6) / 4) 9
      rw [q0, h2]
      rw [pz_41]
      exact st.2.1
    cases List.mem_singleton.mp hx
    refine (ax_XF_lt (x := 197) (Nat.le_of_ble_eq_true rfl)).mpr ?_
    show (pz90 (pz_gt (ρ' 0)) (pz_gN (ρ' 0)) ((ρ' 6) / 4) (pz_strip ((ρ' 2) / 4)) ∧ 1 ≤ (ρ' 2) / 4)
    rw [q0, q2, h2]
    exact ⟨pz_l197 (pz_41 _) st.2.2, F190.2⟩)
  exact ⟨(fun y hy => by cases hy), _, List.mem_cons_self, ρ', h1, h2⟩

theorem axq0_mu6_3 : ax_RO ax_wM0 (ax_XM 0) axu0_mu6_3 := by
  intro ρ hp hE hT
  have j0 : ρ 0 % 4 = 1 := pz_gj hE 0 (Nat.le_of_ble_eq_true rfl) rfl
  have j1 : ρ 1 % 4 = 1 := pz_gj hE 1 (Nat.le_of_ble_eq_true rfl) rfl
  have j2 : ρ 2 % 4 = 1 := pz_gj hE 2 (Nat.le_of_ble_eq_true rfl) rfl
  obtain ⟨i3a, i3b, i3c, i3d⟩ := pz_gi hE 3 0 4294967295 (Nat.le_of_ble_eq_true rfl) rfl
  obtain ⟨i4a, i4b, i4c, i4d⟩ := pz_gi hE 4 2147483648 2147483687 (Nat.le_of_ble_eq_true rfl) rfl
  obtain ⟨i5a, i5b, i5c, i5d⟩ := pz_gi hE 5 2147483648 2147483653 (Nat.le_of_ble_eq_true rfl) rfl
  have c_deep : ay_at hp 173 28 = some (ρ 5) := ay_gfj hE 702 112 23 173 28 ax_m6 (ax_vlq rfl rfl) (ax_vlj rfl rfl)
  have c_units : ay_at hp 179 1 = some (ρ 4) := ay_gfj hE 726 4 19 179 1 ax_m7 (ax_vlq rfl rfl) (ax_vlj rfl rfl)
  have s1 : (ρ 4 / 4 + 2147483648) % 4294967296 + (4 / 4 + 2147483648) % 4294967296 = (ρ 3 / 4 + 2147483648) % 4294967296 + 2147483648 := pz_gs hE 19 4 15 ax_m8
  obtain ⟨-, -, -, -, -, F151⟩ : ay_ex hp 173 ∧ ay_ex hp 173 ∧ ay_ex hp 173 ∧ ay_ex hp 173 ∧ ay_ex hp 173 ∧ pz_y151 (ρ 0) (ρ 1) (ay_at hp 173 13) (ay_at hp 173 14) (ay_at hp 173 15) (ay_at hp 173 16) (ay_at hp 173 17) := (ax_XF_lt (x := 151) (Nat.le_of_ble_eq_true rfl)).mp (ax_gx hE (151, [3, 7]) ax_m0)
  obtain ⟨-, -, -, -, -, -, -, -, -, -, -, F152⟩ : ay_ex hp 175 ∧ ay_ex hp 176 ∧ ay_ex hp 177 ∧ ay_ex hp 178 ∧ ay_ex hp 179 ∧ ay_ex hp 173 ∧ ay_ex hp 173 ∧ ay_ex hp 173 ∧ ay_ex hp 173 ∧ ay_ex hp 173 ∧ ay_ex hp 181 ∧ pz_y152 1 (ρ 0) (ρ 1) (ay_at hp 175 1) (ay_at hp 176 1) (ay_at hp 177 1) (ay_at hp 178 1) (ay_at hp 179 1) (ay_at hp 173 23) (ay_at hp 173 25) (ay_at hp 173 24) (ay_at hp 173 18) (ay_at hp 173 19) (ay_at hp 181) := (ax_XF_lt (x := 152) (Nat.le_of_ble_eq_true rfl)).mp (ax_gx hE (152, [3, 7]) ax_m1)
  rw [c_units] at F152
  have F178 : pz7 (pz_gt (ρ 0)) (pz_gN (ρ 0)) ((ρ 1) / 4) 8 := (ax_XF_lt (x := 178) (Nat.le_of_ble_eq_true rfl)).mp (ax_gx hE (178, [3, 7]) ax_m2)
  have F207 : pz107 (pz_gt (ρ 0)) (pz_gN (ρ 0)) ((ρ 1) / 4) ((12) / 4) := (ax_XF_lt (x := 207) (Nat.le_of_ble_eq_true rfl)).mp (ax_gx hE (207, [3, 7, 12]) ax_m3)
  have F190 : (pz90 (pz_gt (ρ 0)) (pz_gN (ρ 0)) ((ρ 1) / 4) ((ρ 2) / 4) ∧ 1 ≤ (ρ 2) / 4) := (ax_XF_lt (x := 190) (Nat.le_of_ble_eq_true rfl)).mp (ax_gx hE (190, [3, 7, 11]) ax_m4)
  obtain ⟨-, F195⟩ : ay_ex hp 173 ∧ ay_ln (ay_at hp 173 28) = pz_dp ((ρ 2) / 4) := (ax_XF_lt (x := 195) (Nat.le_of_ble_eq_true rfl)).mp (ax_gx hE (195, [11]) ax_m5)
  rw [c_deep] at F195
  have hd : ρ 5 / 4 = pz_dp (ρ 2 / 4) := F195
  have st := pq_ru6u (pz_m50 F151 F152) F178 F207 (by decide) (by decide) F190.1 (by omega) (show ρ 4 / 4 ≤ 39 by omega)
  obtain ⟨ρ', h1, h2⟩ := pz_pn1 (K := ρ 1 / 4 + 1) (xf := [(652, [726, 4, 15, 3, 27]), (153, [3, 27]), (182, [7, 27]), (179, [3, 27]), (197, [3, 27, 11])]) hE (by decide) (fun ρ' h1 h2 x hx => by
    have q0 : ρ' 0 = ρ 0 := h1 0 (by decide)
    have q1 : ρ' 1 = ρ 1 := h1 1 (by decide)
    have q2 : ρ' 2 = ρ 2 := h1 2 (by decide)
    have q3 : ρ' 3 = ρ 3 := h1 3 (by decide)
    have q4 : ρ' 4 = ρ 4 := h1 4 (by decide)
    have q5 : ρ' 5 = ρ 5 := h1 5 (by decide)
    rcases List.mem_cons.mp hx with e | hx
    · subst e
      refine (ax_XF_wr (x := 152) (Nat.le_of_ble_eq_true rfl)).mpr ?_
      show ay_ex (ax_upd hp 726 (4) (ρ' 3)) 175 ∧ ay_ex (ax_upd hp 726 (4) (ρ' 3)) 176 ∧ ay_ex (ax_upd hp 726 (4) (ρ' 3)) 177 ∧ ay_ex (ax_upd hp 726 (4) (ρ' 3)) 178 ∧ ay_ex (ax_upd hp 726 (4) (ρ' 3)) 179 ∧ ay_ex (ax_upd hp 726 (4) (ρ' 3)) 173 ∧ ay_ex (ax_upd hp 726 (4) (ρ' 3)) 173 ∧ ay_ex (ax_upd hp 726 (4) (ρ' 3)) 173 ∧ ay_ex (ax_upd hp 726 (4) (ρ' 3)) 173 ∧ ay_ex (ax_upd hp 726 (4) (ρ' 3)) 173 ∧ ay_ex (ax_upd hp 726 (4) (ρ' 3)) 181 ∧ pz_y152 1 (ρ' 0) (ρ' 6) (ay_at (ax_upd hp 726 (4) (ρ' 3)) 175 1) (ay_at (ax_upd hp 726 (4) (ρ' 3)) 176 1) (ay_at (ax_upd hp 726 (4) (ρ' 3)) 177 1) (ay_at (ax_upd hp 726 (4) (ρ' 3)) 178 1) (ay_at (ax_upd hp 726 (4) (ρ' 3)) 179 1) (ay_at (ax_upd hp 726 (4) (ρ' 3)) 173 23) (ay_at (ax_upd hp 726 (4) (ρ' 3)) 173 25) (ay_at (ax_upd hp 726 (4) (ρ' 3)) 173 24) (ay_at (ax_upd hp 726 (4) (ρ' 3)) 173 18) (ay_at (ax_upd hp 726 (4) (ρ' 3)) 173 19) (ay_at (ax_upd hp 726 (4) (ρ' 3)) 181)
      rw [q0, q3, h2]
      obtain ⟨o0, ho0⟩ := ay_some hT (q := 179) (g := 49) (n := 2) ax_cg_179 ax_cn_49 (j := 4 / 4) (Nat.le_of_ble_eq_true rfl)
      have u1 : ∀ q, q ≠ 179 → ay_at (ax_upd hp 726 4 (ρ 3)) q = ay_at hp q := fun q hq => funext (fun j => ay_upd_ne hT.1 hq j)
      have u2 : ∀ j, ay_at (ax_upd hp 726 4 (ρ 3)) 179 j = if j = 1 then some (ρ 3) else ay_at hp 179 j := fun j => ay_upd_eq hT.1 rfl ho0 j
      refine ⟨ay_ex_upd hT.1 (ax_cellT hT (q := 175) (g := 45) ax_cg_175), ay_ex_upd hT.1 (ax_cellT hT (q := 176) (g := 46) ax_cg_176), ay_ex_upd hT.1 (ax_cellT hT (q := 177) (g := 47) ax_cg_177), ay_ex_upd hT.1 (ax_cellT hT (q := 178) (g := 48) ax_cg_178), ay_ex_upd hT.1 (ax_cellT hT (q := 179) (g := 49) ax_cg_179), ay_ex_upd hT.1 (ax_cellT hT (q := 173) (g := 11) ax_cg_173), ay_ex_upd hT.1 (ax_cellT hT (q := 173) (g := 11) ax_cg_173), ay_ex_upd hT.1 (ax_cellT hT (q := 173) (g := 11) ax_cg_173), ay_ex_upd hT.1 (ax_cellT hT (q := 173) (g := 11) ax_cg_173), ay_ex_upd hT.1 (ax_cellT hT (q := 173) (g := 11) ax_cg_173), ay_ex_upd hT.1 (ax_cellT hT (q := 181) (g := 51) ax_cg_181), ?_⟩
      rw [u1 175 (Nat.ne_of_beq_eq_false rfl), u1 176 (Nat.ne_of_beq_eq_false rfl), u1 177 (Nat.ne_of_beq_eq_false rfl), u1 178 (Nat.ne_of_beq_eq_false rfl), u2 1, if_pos rfl, u1 173 (Nat.ne_of_beq_eq_false rfl), u1 181 (Nat.ne_of_beq_eq_false rfl)]
      refine pz_l152 (pz_41 _) ?_
      show pz_dt _ _ _ _ _ (ρ 3 / 4) _ _ _ _ _ _ _
      rw [show ρ 3 / 4 = ρ 4 / 4 + 1 by omega]
      exact st.1.2
    rcases List.mem_cons.mp hx with e | hx
    · subst e
      refine (ax_XF_lt (x := 153) (Nat.le_of_ble_eq_true rfl)).mpr ?_
      show ay_ex hp 173 ∧ pz_at (pz_gt (ρ' 0)) (pz_gN (ρ' 0)) (ay_ln (ay_at hp 173 13)) = pz_at (pz_gt (ρ' 0)) (pz_gN (ρ' 0)) (pz_p (pz_cF (ρ' 0) (ρ' 6)))
      rw [q0, h2]
      refine ⟨(ax_cellT hT (q := 173) (g := 11) ax_cg_173), ?_⟩
      exact pz_l153 (pz_41 _) st.1.1
    rcases List.mem_cons.mp hx with e | hx
    · subst e
      refine (ax_XF_lt (x := 182) (Nat.le_of_ble_eq_true rfl)).mpr ?_
      show (ρ' 6) / 4 = (ρ' 1) / 4 + 1
      rw [q1, h2]
      rw [pz_41]
    rcases List.mem_cons.mp hx with e | hx
    · subst e
      refine (ax_XF_lt (x := 179) (Nat.le_of_ble_eq_true rfl)).mpr ?_
      show pz7 (pz_gt (ρ' 0)) (pz_gN (ρ' 0)) ((ρ' 6) / 4) 9
      rw [q0, h2]
      rw [pz_41]
      exact st.2.1
    cases List.mem_singleton.mp hx
    refine (ax_XF_lt (x := 197) (Nat.le_of_ble_eq_true rfl)).mpr ?_
    show (pz90 (pz_gt (ρ' 0)) (pz_gN (ρ' 0)) ((ρ' 6) / 4) (pz_strip ((ρ' 2) / 4)) ∧ 1 ≤ (ρ' 2) / 4)
    rw [q0, q2, h2]
    exact ⟨pz_l197 (pz_41 _) st.2.2, F190.2⟩)
  exact ⟨(fun y hy => by cases hy), _, List.mem_cons_self, ρ', h1, h2⟩

theorem axq0_mu6_4 : ax_RO ax_wM0 (ax_XM 0) axu0_mu6_4 := by
  intro ρ hp hE hT
  have j0 : ρ 0 % 4 = 1 := pz_gj hE 0 (Nat.le_of_ble_eq_true rfl) rfl
  have j1 : ρ 1 % 4 = 1 := pz_gj hE 1 (Nat.le_of_ble_eq_true rfl) rfl
  have j2 : ρ 2 % 4 = 1 := pz_gj hE 2 (Nat.le_of_ble_eq_true rfl) rfl
  obtain ⟨i3a, i3b, i3c, i3d⟩ := pz_gi hE 3 0 4294967295 (Nat.le_of_ble_eq_true rfl) rfl
  obtain ⟨i4a, i4b, i4c, i4d⟩ := pz_gi hE 4 2147483648 2147483687 (Nat.le_of_ble_eq_true rfl) rfl
  obtain ⟨i5a, i5b, i5c, i5d⟩ := pz_gi hE 5 2147483648 2147483653 (Nat.le_of_ble_eq_true rfl) rfl
  have c_deep : ay_at hp 173 28 = some (ρ 5) := ay_gfj hE 702 112 23 173 28 ax_m6 (ax_vlq rfl rfl) (ax_vlj rfl rfl)
  have c_units : ay_at hp 179 1 = some (ρ 4) := ay_gfj hE 726 4 19 179 1 ax_m7 (ax_vlq rfl rfl) (ax_vlj rfl rfl)
  have s1 : (ρ 4 / 4 + 2147483648) % 4294967296 + (4 / 4 + 2147483648) % 4294967296 = (ρ 3 / 4 + 2147483648) % 4294967296 + 2147483648 := pz_gs hE 19 4 15 ax_m8
  obtain ⟨-, -, -, -, -, F151⟩ : ay_ex hp 173 ∧ ay_ex hp 173 ∧ ay_ex hp 173 ∧ ay_ex hp 173 ∧ ay_ex hp 173 ∧ pz_y151 (ρ 0) (ρ 1) (ay_at hp 173 13) (ay_at hp 173 14) (ay_at hp 173 15) (ay_at hp 173 16) (ay_at hp 173 17) := (ax_XF_lt (x := 151) (Nat.le_of_ble_eq_true rfl)).mp (ax_gx hE (151, [3, 7]) ax_m0)
  obtain ⟨-, -, -, -, -, -, -, -, -, -, -, F152⟩ : ay_ex hp 175 ∧ ay_ex hp 176 ∧ ay_ex hp 177 ∧ ay_ex hp 178 ∧ ay_ex hp 179 ∧ ay_ex hp 173 ∧ ay_ex hp 173 ∧ ay_ex hp 173 ∧ ay_ex hp 173 ∧ ay_ex hp 173 ∧ ay_ex hp 181 ∧ pz_y152 1 (ρ 0) (ρ 1) (ay_at hp 175 1) (ay_at hp 176 1) (ay_at hp 177 1) (ay_at hp 178 1) (ay_at hp 179 1) (ay_at hp 173 23) (ay_at hp 173 25) (ay_at hp 173 24) (ay_at hp 173 18) (ay_at hp 173 19) (ay_at hp 181) := (ax_XF_lt (x := 152) (Nat.le_of_ble_eq_true rfl)).mp (ax_gx hE (152, [3, 7]) ax_m1)
  rw [c_units] at F152
  have F178 : pz7 (pz_gt (ρ 0)) (pz_gN (ρ 0)) ((ρ 1) / 4) 8 := (ax_XF_lt (x := 178) (Nat.le_of_ble_eq_true rfl)).mp (ax_gx hE (178, [3, 7]) ax_m2)
  have F207 : pz107 (pz_gt (ρ 0)) (pz_gN (ρ 0)) ((ρ 1) / 4) ((16) / 4) := (ax_XF_lt (x := 207) (Nat.le_of_ble_eq_true rfl)).mp (ax_gx hE (207, [3, 7, 16]) ax_m3)
  have F190 : (pz90 (pz_gt (ρ 0)) (pz_gN (ρ 0)) ((ρ 1) / 4) ((ρ 2) / 4) ∧ 1 ≤ (ρ 2) / 4) := (ax_XF_lt (x := 190) (Nat.le_of_ble_eq_true rfl)).mp (ax_gx hE (190, [3, 7, 11]) ax_m4)
  obtain ⟨-, F195⟩ : ay_ex hp 173 ∧ ay_ln (ay_at hp 173 28) = pz_dp ((ρ 2) / 4) := (ax_XF_lt (x := 195) (Nat.le_of_ble_eq_true rfl)).mp (ax_gx hE (195, [11]) ax_m5)
  rw [c_deep] at F195
  have hd : ρ 5 / 4 = pz_dp (ρ 2 / 4) := F195
  have st := pq_ru6u (pz_m50 F151 F152) F178 F207 (by decide) (by decide) F190.1 (by omega) (show ρ 4 / 4 ≤ 39 by omega)
  obtain ⟨ρ', h1, h2⟩ := pz_pn1 (K := ρ 1 / 4 + 1) (xf := [(652, [726, 4, 15, 3, 27]), (153, [3, 27]), (182, [7, 27]), (179, [3, 27]), (197, [3, 27, 11])]) hE (by decide) (fun ρ' h1 h2 x hx => by
    have q0 : ρ' 0 = ρ 0 := h1 0 (by decide)
    have q1 : ρ' 1 = ρ 1 := h1 1 (by decide)
    have q2 : ρ' 2 = ρ 2 := h1 2 (by decide)
    have q3 : ρ' 3 = ρ 3 := h1 3 (by decide)
    have q4 : ρ' 4 = ρ 4 := h1 4 (by decide)
    have q5 : ρ' 5 = ρ 5 := h1 5 (by decide)
    rcases List.mem_cons.mp hx with e | hx
    · subst e
      refine (ax_XF_wr (x := 152) (Nat.le_of_ble_eq_true rfl)).mpr ?_
      show ay_ex (ax_upd hp 726 (4) (ρ' 3)) 175 ∧ ay_ex (ax_upd hp 726 (4) (ρ' 3)) 176 ∧ ay_ex (ax_upd hp 726 (4) (ρ' 3)) 177 ∧ ay_ex (ax_upd hp 726 (4) (ρ' 3)) 178 ∧ ay_ex (ax_upd hp 726 (4) (ρ' 3)) 179 ∧ ay_ex (ax_upd hp 726 (4) (ρ' 3)) 173 ∧ ay_ex (ax_upd hp 726 (4) (ρ' 3)) 173 ∧ ay_ex (ax_upd hp 726 (4) (ρ' 3)) 173 ∧ ay_ex (ax_upd hp 726 (4) (ρ' 3)) 173 ∧ ay_ex (ax_upd hp 726 (4) (ρ' 3)) 173 ∧ ay_ex (ax_upd hp 726 (4) (ρ' 3)) 181 ∧ pz_y152 1 (ρ' 0) (ρ' 6) (ay_at (ax_upd hp 726 (4) (ρ' 3)) 175 1) (ay_at (ax_upd hp 726 (4) (ρ' 3)) 176 1) (ay_at (ax_upd hp 726 (4) (ρ' 3)) 177 1) (ay_at (ax_upd hp 726 (4) (ρ' 3)) 178 1) (ay_at (ax_upd hp 726 (4) (ρ' 3)) 179 1) (ay_at (ax_upd hp 726 (4) (ρ' 3)) 173 23) (ay_at (ax_upd hp 726 (4) (ρ' 3)) 173 25) (ay_at (ax_upd hp 726 (4) (ρ' 3)) 173 24) (ay_at (ax_upd hp 726 (4) (ρ' 3)) 173 18) (ay_at (ax_upd hp 726 (4) (ρ' 3)) 173 19) (ay_at (ax_upd hp 726 (4) (ρ' 3)) 181)
      rw [q0, q3, h2]
      obtain ⟨o0, ho0⟩ := ay_some hT (q := 179) (g := 49) (n := 2) ax_cg_179 ax_cn_49 (j := 4 / 4) (Nat.le_of_ble_eq_true rfl)
      have u1 : ∀ q, q ≠ 179 → ay_at (ax_upd hp 726 4 (ρ 3)) q = ay_at hp q := fun q hq => funext (fun j => ay_upd_ne hT.1 hq j)
      have u2 : ∀ j, ay_at (ax_upd hp 726 4 (ρ 3)) 179 j = if j = 1 then some (ρ 3) else ay_at hp 179 j := fun j => ay_upd_eq hT.1 rfl ho0 j
      refine ⟨ay_ex_upd hT.1 (ax_cellT hT (q := 175) (g := 45) ax_cg_175), ay_ex_upd hT.1 (ax_cellT hT (q := 176) (g := 46) ax_cg_176), ay_ex_upd hT.1 (ax_cellT hT (q := 177) (g := 47) ax_cg_177), ay_ex_upd hT.1 (ax_cellT hT (q := 178) (g := 48) ax_cg_178), ay_ex_upd hT.1 (ax_cellT hT (q := 179) (g := 49) ax_cg_179), ay_ex_upd hT.1 (ax_cellT hT (q := 173) (g := 11) ax_cg_173), ay_ex_upd hT.1 (ax_cellT hT (q := 173) (g := 11) ax_cg_173), ay_ex_upd hT.1 (ax_cellT hT (q := 173) (g := 11) ax_cg_173), ay_ex_upd hT.1 (ax_cellT hT (q := 173) (g := 11) ax_cg_173), ay_ex_upd hT.1 (ax_cellT hT (q := 173) (g := 11) ax_cg_173), ay_ex_upd hT.1 (ax_cellT hT (q := 181) (g := 51) ax_cg_181), ?_⟩
      rw [u1 175 (Nat.ne_of_beq_eq_false rfl), u1 176 (Nat.ne_of_beq_eq_false rfl), u1 177 (Nat.ne_of_beq_eq_false rfl), u1 178 (Nat.ne_of_beq_eq_false rfl), u2 1, if_pos rfl, u1 173 (Nat.ne_of_beq_eq_false rfl), u1 181 (Nat.ne_of_beq_eq_false rfl)]
      refine pz_l152 (pz_41 _) ?_
      show pz_dt _ _ _ _ _ (ρ 3 / 4) _ _ _ _ _ _ _
      rw [show ρ 3 / 4 = ρ 4 / 4 + 1 by omega]
      exact st.1.2
    rcases List.mem_cons.mp hx with e | hx
    · subst e
      refine (ax_XF_lt (x := 153) (Nat.le_of_ble_eq_true rfl)).mpr ?_
      show ay_ex hp 173 ∧ pz_at (pz_gt (ρ' 0)) (pz_gN (ρ' 0)) (ay_ln (ay_at hp 173 13)) = pz_at (pz_gt (ρ' 0)) (pz_gN (ρ' 0)) (pz_p (pz_cF (ρ' 0) (ρ' 6)))
      rw [q0, h2]
      refine ⟨(ax_cellT hT (q := 173) (g := 11) ax_cg_173), ?_⟩
      exact pz_l153 (pz_41 _) st.1.1
    rcases List.mem_cons.mp hx with e | hx
    · subst e
      refine (ax_XF_lt (x := 182) (Nat.le_of_ble_eq_true rfl)).mpr ?_
      show (ρ' 6) / 4 = (ρ' 1) / 4 + 1
      rw [q1, h2]
      rw [pz_41]
    rcases List.mem_cons.mp hx with e | hx
    · subst e
      refine (ax_XF_lt (x := 179) (Nat.le_of_ble_eq_true rfl)).mpr ?_
      show pz7 (pz_gt (ρ' 0)) (pz_gN (ρ' 0)) ((ρ' 6) / 4) 9
      rw [q0, h2]
      rw [pz_41]
      exact st.2.1
    cases List.mem_singleton.mp hx
    refine (ax_XF_lt (x := 197) (Nat.le_of_ble_eq_true rfl)).mpr ?_
    show (pz90 (pz_gt (ρ' 0)) (pz_gN (ρ' 0)) ((ρ' 6) / 4) (pz_strip ((ρ' 2) / 4)) ∧ 1 ≤ (ρ' 2) / 4)
    rw [q0, q2, h2]
    exact ⟨pz_l197 (pz_41 _) st.2.2, F190.2⟩)
  exact ⟨(fun y hy => by cases hy), _, List.mem_cons_self, ρ', h1, h2⟩
end
section
theorem axqg_mu7a {w : ax_W} {b : Nat} (hw : ax_WW w) : ax_RO w (ax_XM b) axu0_mu7a := by
  intro ρ hp hE hT
  have j0 : ρ 0 % 4 = 1 := pz_gj hE 0 (Nat.le_of_ble_eq_true rfl) rfl
  have j1 : ρ 1 % 4 = 1 := pz_gj hE 1 (Nat.le_of_ble_eq_true rfl) rfl
  have F168 : pz_kd (pz_gt (ρ 0)) (pz_gN (ρ 0)) (pz_p (pz_cF (ρ 0) (ρ 1))) = (160) / 4 := (ax_XF_lt (x := 168) (Nat.le_of_ble_eq_true rfl)).mp (ax_gx hE (168, [3, 7, 160]) ax_m0)
  have F169 : pz_kd (pz_gt (ρ 0)) (pz_gN (ρ 0)) (pz_p (pz_cF (ρ 0) (ρ 1))) ≠ (160) / 4 := (ax_XF_lt (x := 169) (Nat.le_of_ble_eq_true rfl)).mp (ax_gx hE (169, [3, 7, 160]) ax_m1)
  exfalso
  exact F169 F168
theorem axq0_mu7a : ax_RO ax_wM0 (ax_XM 0) axu0_mu7a := axqg_mu7a ax_WW0
theorem axqg_mu7b {w : ax_W} {b : Nat} (hw : ax_WW w) : ax_RO w (ax_XM b) axu0_mu7b := by
  intro ρ hp hE hT
  have j0 : ρ 0 % 4 = 1 := pz_gj hE 0 (Nat.le_of_ble_eq_true rfl) rfl
  have j1 : ρ 1 % 4 = 1 := pz_gj hE 1 (Nat.le_of_ble_eq_true rfl) rfl
  have F168 : pz_kd (pz_gt (ρ 0)) (pz_gN (ρ 0)) (pz_p (pz_cF (ρ 0) (ρ 1))) = (160) / 4 := (ax_XF_lt (x := 168) (Nat.le_of_ble_eq_true rfl)).mp (ax_gx hE (168, [3, 7, 160]) ax_m0)
  have F169 : pz_kd (pz_gt (ρ 0)) (pz_gN (ρ 0)) (pz_p (pz_cF (ρ 0) (ρ 1))) ≠ (160) / 4 := (ax_XF_lt (x := 169) (Nat.le_of_ble_eq_true rfl)).mp (ax_gx hE (169, [3, 7, 160]) ax_m1)
  exfalso
  exact F169 F168
theorem axq0_mu7b : ax_RO ax_wM0 (ax_XM 0) axu0_mu7b := axqg_mu7b ax_WW0
theorem axqg_mu8O {w : ax_W} {b : Nat} (hw : ax_WW w) : ax_RO w (ax_XM b) axu0_mu8O := by
  intro ρ hp hE hT
  have j0 : ρ 0 % 4 = 1 := pz_gj hE 0 (Nat.le_of_ble_eq_true rfl) rfl
  have j1 : ρ 1 % 4 = 1 := pz_gj hE 1 (Nat.le_of_ble_eq_true rfl) rfl
  obtain ⟨i2a, i2b, i2c, i2d⟩ := pz_gi hE 2 2147483649 2147483654 (Nat.le_of_ble_eq_true rfl) rfl
  obtain ⟨i3a, i3b, i3c, i3d⟩ := pz_gi hE 3 2147483648 2147483653 (Nat.le_of_ble_eq_true rfl) rfl
  have c_deep : ay_at hp 173 28 = some (ρ 3) := ay_gfj hE 702 112 15 173 28 ax_m2 (ax_vlq rfl rfl) (ax_vlj rfl rfl)
  have s1 : (ρ 3 / 4 + 2147483648) % 4294967296 + (4 / 4 + 2147483648) % 4294967296 = (ρ 2 / 4 + 2147483648) % 4294967296 + 2147483648 := pz_gs hE 15 4 11 ax_m3
  obtain ⟨-, F195⟩ : ay_ex hp 173 ∧ ay_ln (ay_at hp 173 28) = pz_dp ((ρ 0) / 4) := (ax_XF_lt (x := 195) (Nat.le_of_ble_eq_true rfl)).mp (ax_gx hE (195, [3]) ax_m0)
  rw [c_deep] at F195
  have F193 : ((ρ 1) / 4 = 2 * ((ρ 0) / 4) ∧ 1 ≤ (ρ 0) / 4) := (ax_XF_lt (x := 193) (Nat.le_of_ble_eq_true rfl)).mp (ax_gx hE (193, [7, 3]) ax_m1)
  refine ⟨(fun y hy => by cases hy), _, List.mem_cons_self, ρ, fun _ _ => rfl, ax_px hE rfl (fun x hx => ?_)⟩
  cases List.mem_singleton.mp hx
  refine (ax_XF_wr (x := 195) (Nat.le_of_ble_eq_true rfl)).mpr ?_
  show ay_ex (ax_upd hp 702 (112) (ρ 2)) 173 ∧ ay_ln (ay_at (ax_upd hp 702 (112) (ρ 2)) 173 28) = pz_dp ((ρ 1) / 4)
  obtain ⟨o0, ho0⟩ := ay_some hT (q := 173) (g := 11) (n := 58) (ax_wc hw ax_cg_173) (ax_wn hw ax_cn_11) (j := 112 / 4) (Nat.le_of_ble_eq_true rfl)
  have u1 : ∀ q, q ≠ 173 → ay_at (ax_upd hp 702 112 (ρ 2)) q = ay_at hp q := fun q hq => funext (fun j => ay_upd_ne hT.1 hq j)
  have u2 : ∀ j, ay_at (ax_upd hp 702 112 (ρ 2)) 173 j = if j = 28 then some (ρ 2) else ay_at hp 173 j := fun j => ay_upd_eq hT.1 rfl ho0 j
  refine ⟨ay_ex_upd hT.1 (ax_cellT hT (q := 173) (g := 11) (ax_wc hw ax_cg_173)), ?_⟩
  rw [u2 28, if_pos rfl]
  show ρ 2 / 4 = _
  rw [F193.1, pz_dp_push F193.2 (Or.inl rfl), ← (show ρ 3 / 4 = pz_dp (ρ 0 / 4) from F195)]
  omega
theorem axq0_mu8O : ax_RO ax_wM0 (ax_XM 0) axu0_mu8O := axqg_mu8O ax_WW0
theorem axqg_mu9O {w : ax_W} {b : Nat} (hw : ax_WW w) : ax_RO w (ax_XM b) axu0_mu9O := by
  intro ρ hp hE hT
  have j0 : ρ 0 % 4 = 1 := pz_gj hE 0 (Nat.le_of_ble_eq_true rfl) rfl
  have j1 : ρ 1 % 4 = 1 := pz_gj hE 1 (Nat.le_of_ble_eq_true rfl) rfl
  have j2 : ρ 2 % 4 = 1 := pz_gj hE 2 (Nat.le_of_ble_eq_true rfl) rfl
  have j3 : ρ 3 % 4 = 1 := pz_gj hE 3 (Nat.le_of_ble_eq_true rfl) rfl
  obtain ⟨-, -, -, -, -, F151⟩ : ay_ex hp 173 ∧ ay_ex hp 173 ∧ ay_ex hp 173 ∧ ay_ex hp 173 ∧ ay_ex hp 173 ∧ pz_y151 (ρ 0) (ρ 1) (ay_at hp 173 13) (ay_at hp 173 14) (ay_at hp 173 15) (ay_at hp 173 16) (ay_at hp 173 17) := (ax_XF_lt (x := 151) (Nat.le_of_ble_eq_true rfl)).mp (ax_gx hE (151, [3, 7]) ax_m0)
  have F187 : (pz90 (pz_gt (ρ 0)) (pz_gN (ρ 0)) ((ρ 1) / 4) (2 * ((ρ 2) / 4)) ∧ 1 ≤ (ρ 2) / 4) := (ax_XF_lt (x := 187) (Nat.le_of_ble_eq_true rfl)).mp (ax_gx hE (187, [3, 7, 11]) ax_m1)
  have F193 : ((ρ 3) / 4 = 2 * ((ρ 2) / 4) ∧ 1 ≤ (ρ 2) / 4) := (ax_XF_lt (x := 193) (Nat.le_of_ble_eq_true rfl)).mp (ax_gx hE (193, [15, 11]) ax_m2)
  have e1 := F187.2
  refine ⟨(fun y hy => by cases hy), _, List.mem_cons_self, ρ, fun _ _ => rfl, ax_px hE rfl (fun x hx => ?_)⟩
  cases List.mem_singleton.mp hx
  refine (ax_XF_lt (x := 190) (Nat.le_of_ble_eq_true rfl)).mpr ?_
  show (pz90 (pz_gt (ρ 0)) (pz_gN (ρ 0)) ((ρ 1) / 4) ((ρ 3) / 4) ∧ 1 ≤ (ρ 3) / 4)
  rw [F193.1]
  exact ⟨F187.1, by omega⟩
theorem axq0_mu9O : ax_RO ax_wM0 (ax_XM 0) axu0_mu9O := axqg_mu9O ax_WW0
theorem axqg_mu8M {w : ax_W} {b : Nat} (hw : ax_WW w) : ax_RO w (ax_XM b) axu0_mu8M := by
  intro ρ hp hE hT
  have j0 : ρ 0 % 4 = 1 := pz_gj hE 0 (Nat.le_of_ble_eq_true rfl) rfl
  have j1 : ρ 1 % 4 = 1 := pz_gj hE 1 (Nat.le_of_ble_eq_true rfl) rfl
  obtain ⟨i2a, i2b, i2c, i2d⟩ := pz_gi hE 2 2147483649 2147483654 (Nat.le_of_ble_eq_true rfl) rfl
  obtain ⟨i3a, i3b, i3c, i3d⟩ := pz_gi hE 3 2147483648 2147483653 (Nat.le_of_ble_eq_true rfl) rfl
  have c_deep : ay_at hp 173 28 = some (ρ 3) := ay_gfj hE 702 112 15 173 28 ax_m2 (ax_vlq rfl rfl) (ax_vlj rfl rfl)
  have s1 : (ρ 3 / 4 + 2147483648) % 4294967296 + (4 / 4 + 2147483648) % 4294967296 = (ρ 2 / 4 + 2147483648) % 4294967296 + 2147483648 := pz_gs hE 15 4 11 ax_m3
  obtain ⟨-, F195⟩ : ay_ex hp 173 ∧ ay_ln (ay_at hp 173 28) = pz_dp ((ρ 0) / 4) := (ax_XF_lt (x := 195) (Nat.le_of_ble_eq_true rfl)).mp (ax_gx hE (195, [3]) ax_m0)
  rw [c_deep] at F195
  have F208 : ((ρ 1) / 4 = 2 * ((ρ 0) / 4) + 1 ∧ 1 ≤ (ρ 0) / 4) := (ax_XF_lt (x := 208) (Nat.le_of_ble_eq_true rfl)).mp (ax_gx hE (208, [3, 7]) ax_m1)
  refine ⟨(fun y hy => by cases hy), _, List.mem_cons_self, ρ, fun _ _ => rfl, ax_px hE rfl (fun x hx => ?_)⟩
  cases List.mem_singleton.mp hx
  refine (ax_XF_wr (x := 195) (Nat.le_of_ble_eq_true rfl)).mpr ?_
  show ay_ex (ax_upd hp 702 (112) (ρ 2)) 173 ∧ ay_ln (ay_at (ax_upd hp 702 (112) (ρ 2)) 173 28) = pz_dp ((ρ 1) / 4)
  obtain ⟨o0, ho0⟩ := ay_some hT (q := 173) (g := 11) (n := 58) (ax_wc hw ax_cg_173) (ax_wn hw ax_cn_11) (j := 112 / 4) (Nat.le_of_ble_eq_true rfl)
  have u1 : ∀ q, q ≠ 173 → ay_at (ax_upd hp 702 112 (ρ 2)) q = ay_at hp q := fun q hq => funext (fun j => ay_upd_ne hT.1 hq j)
  have u2 : ∀ j, ay_at (ax_upd hp 702 112 (ρ 2)) 173 j = if j = 28 then some (ρ 2) else ay_at hp 173 j := fun j => ay_upd_eq hT.1 rfl ho0 j
  refine ⟨ay_ex_upd hT.1 (ax_cellT hT (q := 173) (g := 11) (ax_wc hw ax_cg_173)), ?_⟩
  rw [u2 28, if_pos rfl]
  show ρ 2 / 4 = _
  rw [F208.1, pz_dp_push F208.2 (Or.inr rfl), ← (show ρ 3 / 4 = pz_dp (ρ 0 / 4) from F195)]
  omega
theorem axq0_mu8M : ax_RO ax_wM0 (ax_XM 0) axu0_mu8M := axqg_mu8M ax_WW0
theorem axqg_mu9M {w : ax_W} {b : Nat} (hw : ax_WW w) : ax_RO w (ax_XM b) axu0_mu9M := by
  intro ρ hp hE hT
  have j0 : ρ 0 % 4 = 1 := pz_gj hE 0 (Nat.le_of_ble_eq_true rfl) rfl
  have j1 : ρ 1 % 4 = 1 := pz_gj hE 1 (Nat.le_of_ble_eq_true rfl) rfl
  have j2 : ρ 2 % 4 = 1 := pz_gj hE 2 (Nat.le_of_ble_eq_true rfl) rfl
  have j3 : ρ 3 % 4 = 1 := pz_gj hE 3 (Nat.le_of_ble_eq_true rfl) rfl
  obtain ⟨-, -, -, -, -, F151⟩ : ay_ex hp 173 ∧ ay_ex hp 173 ∧ ay_ex hp 173 ∧ ay_ex hp 173 ∧ ay_ex hp 173 ∧ pz_y151 (ρ 0) (ρ 1) (ay_at hp 173 13) (ay_at hp 173 14) (ay_at hp 173 15) (ay_at hp 173 16) (ay_at hp 173 17) := (ax_XF_lt (x := 151) (Nat.le_of_ble_eq_true rfl)).mp (ax_gx hE (151, [3, 7]) ax_m0)
  have F188 : (pz90 (pz_gt (ρ 0)) (pz_gN (ρ 0)) ((ρ 1) / 4) (2 * ((ρ 2) / 4) + 1) ∧ 1 ≤ (ρ 2) / 4) := (ax_XF_lt (x := 188) (Nat.le_of_ble_eq_true rfl)).mp (ax_gx hE (188, [3, 7, 11]) ax_m1)
  have F208 : ((ρ 3) / 4 = 2 * ((ρ 2) / 4) + 1 ∧ 1 ≤ (ρ 2) / 4) := (ax_XF_lt (x := 208) (Nat.le_of_ble_eq_true rfl)).mp (ax_gx hE (208, [11, 15]) ax_m2)
  refine ⟨(fun y hy => by cases hy), _, List.mem_cons_self, ρ, fun _ _ => rfl, ax_px hE rfl (fun x hx => ?_)⟩
  cases List.mem_singleton.mp hx
  refine (ax_XF_lt (x := 190) (Nat.le_of_ble_eq_true rfl)).mpr ?_
  show (pz90 (pz_gt (ρ 0)) (pz_gN (ρ 0)) ((ρ 1) / 4) ((ρ 3) / 4) ∧ 1 ≤ (ρ 3) / 4)
  rw [F208.1]
  exact ⟨F188.1, by omega⟩
theorem axq0_mu9M : ax_RO ax_wM0 (ax_XM 0) axu0_mu9M := axqg_mu9M ax_WW0
theorem axqg_muA {w : ax_W} {b : Nat} (hw : ax_WW w) : ax_RO w (ax_XM b) axu0_muA := by
  intro ρ hp hE hT
  have j0 : ρ 0 % 4 = 1 := pz_gj hE 0 (Nat.le_of_ble_eq_true rfl) rfl
  obtain ⟨-, -, F196⟩ : ay_ex hp 173 ∧ ay_ex hp 185 ∧ pz_y196 (ρ 0) (ay_at hp 173 27) (ay_at hp 185) := (ax_XF_lt (x := 196) (Nat.le_of_ble_eq_true rfl)).mp (ax_gx hE (196, [3]) ax_m0)
  refine ⟨(fun y hy => by cases hy), _, List.mem_cons_self, ρ, fun _ _ => rfl, ax_px hE rfl (fun x hx => ?_)⟩
  cases List.mem_singleton.mp hx
  refine (ax_XF_lt (x := 209) (Nat.le_of_ble_eq_true rfl)).mpr ?_
  show pz_strip ((ρ 0) / 4) = pz_strip ((ρ 0) / 4)
  rfl
theorem axq0_muA : ax_RO ax_wM0 (ax_XM 0) axu0_muA := axqg_muA ax_WW0
theorem axqg_muB {w : ax_W} {b : Nat} (hw : ax_WW w) : ax_RO w (ax_XM b) axu0_muB := by
  intro ρ hp hE hT
  have j0 : ρ 0 % 4 = 1 := pz_gj hE 0 (Nat.le_of_ble_eq_true rfl) rfl
  have j1 : ρ 1 % 4 = 1 := pz_gj hE 1 (Nat.le_of_ble_eq_true rfl) rfl
  have j2 : ρ 2 % 4 = 1 := pz_gj hE 2 (Nat.le_of_ble_eq_true rfl) rfl
  have j3 : ρ 3 % 4 = 1 := pz_gj hE 3 (Nat.le_of_ble_eq_true rfl) rfl
  obtain ⟨-, -, -, -, -, F151⟩ : ay_ex hp 173 ∧ ay_ex hp 173 ∧ ay_ex hp 173 ∧ ay_ex hp 173 ∧ ay_ex hp 173 ∧ pz_y151 (ρ 0) (ρ 1) (ay_at hp 173 13) (ay_at hp 173 14) (ay_at hp 173 15) (ay_at hp 173 16) (ay_at hp 173 17) := (ax_XF_lt (x := 151) (Nat.le_of_ble_eq_true rfl)).mp (ax_gx hE (151, [3, 7]) ax_m0)
  have F197 : (pz90 (pz_gt (ρ 0)) (pz_gN (ρ 0)) ((ρ 1) / 4) (pz_strip ((ρ 2) / 4)) ∧ 1 ≤ (ρ 2) / 4) := (ax_XF_lt (x := 197) (Nat.le_of_ble_eq_true rfl)).mp (ax_gx hE (197, [3, 7, 11]) ax_m1)
  have F192 : pz_strip ((ρ 2) / 4) = (ρ 3) / 4 := (ax_XF_lt (x := 192) (Nat.le_of_ble_eq_true rfl)).mp (ax_gx hE (192, [11, 15]) ax_m2)
  obtain ⟨-, -, F196⟩ : ay_ex hp 173 ∧ ay_ex hp 185 ∧ pz_y196 (ρ 3) (ay_at hp 173 27) (ay_at hp 185) := (ax_XF_lt (x := 196) (Nat.le_of_ble_eq_true rfl)).mp (ax_gx hE (196, [15]) ax_m3)
  refine ⟨(fun y hy => by cases hy), _, List.mem_cons_self, ρ, fun _ _ => rfl, ax_px hE rfl (fun x hx => ?_)⟩
  cases List.mem_singleton.mp hx
  refine (ax_XF_lt (x := 190) (Nat.le_of_ble_eq_true rfl)).mpr ?_
  show (pz90 (pz_gt (ρ 0)) (pz_gN (ρ 0)) ((ρ 1) / 4) ((ρ 3) / 4) ∧ 1 ≤ (ρ 3) / 4)
  rw [← F192]
  exact ⟨F197.1, pz_strip_1 F197.2⟩
theorem axq0_muB : ax_RO ax_wM0 (ax_XM 0) axu0_muB := axqg_muB ax_WW0
theorem axqg_mv1_1 {w : ax_W} {b : Nat} (hw : ax_WW w) : ax_RO w (ax_XM b) axu0_mv1_1 := by
  intro ρ hp hE hT
  have j0 : ρ 0 % 4 = 1 := pz_gj hE 0 (Nat.le_of_ble_eq_true rfl) rfl
  have j1 : ρ 1 % 4 = 1 := pz_gj hE 1 (Nat.le_of_ble_eq_true rfl) rfl
  have j2 : ρ 2 % 4 = 1 := pz_gj hE 2 (Nat.le_of_ble_eq_true rfl) rfl
  have j3 : ρ 3 % 4 = 1 := pz_gj hE 3 (Nat.le_of_ble_eq_true rfl) rfl
  have j4 : ρ 4 % 4 = 1 := pz_gj hE 4 (Nat.le_of_ble_eq_true rfl) rfl
  obtain ⟨i5a, i5b, i5c, i5d⟩ := pz_gi hE 5 2147483648 2147484647 (Nat.le_of_ble_eq_true rfl) rfl
  have c_number : ay_at hp 173 16 = some (ρ 5) := ay_gfj hE 702 64 23 173 16 ax_m5 (ax_vlq rfl rfl) (ax_vlj rfl rfl)
  obtain ⟨-, -, -, -, -, F151⟩ : ay_ex hp 173 ∧ ay_ex hp 173 ∧ ay_ex hp 173 ∧ ay_ex hp 173 ∧ ay_ex hp 173 ∧ pz_y151 (ρ 0) (ρ 1) (ay_at hp 173 13) (ay_at hp 173 14) (ay_at hp 173 15) (ay_at hp 173 16) (ay_at hp 173 17) := (ax_XF_lt (x := 151) (Nat.le_of_ble_eq_true rfl)).mp (ax_gx hE (151, [3, 7]) ax_m0)
  rw [c_number] at F151
  have F182 : (ρ 2) / 4 = (ρ 1) / 4 + 1 := (ax_XF_lt (x := 182) (Nat.le_of_ble_eq_true rfl)).mp (ax_gx hE (182, [7, 11]) ax_m1)
  have F178 : pz7 (pz_gt (ρ 0)) (pz_gN (ρ 0)) ((ρ 1) / 4) 8 := (ax_XF_lt (x := 178) (Nat.le_of_ble_eq_true rfl)).mp (ax_gx hE (178, [3, 7]) ax_m2)
  have F207 : pz107 (pz_gt (ρ 0)) (pz_gN (ρ 0)) ((ρ 1) / 4) ((4) / 4) := (ax_XF_lt (x := 207) (Nat.le_of_ble_eq_true rfl)).mp (ax_gx hE (207, [3, 7, 4]) ax_m3)
  have F246 : py_y246 (pz_gt (ρ 0)) (pz_gN (ρ 0)) ((ρ 1) / 4) (ρ 3) (ρ 4) := (ax_XF_lt (x := 246) (Nat.le_of_ble_eq_true rfl)).mp (ax_gx hE (246, [3, 7, 15, 19]) ax_m4)
  have kd := pr_k1 F207
  have vl := pz_mc (F151.2.2.2.1 kd)
  replace vl : (ρ 5 / 4 ≤ 1000 ∧ pz_vl (pz_gt (ρ 0)) (pz_gN (ρ 0)) (pz_p (pz_cf (pz_gt (ρ 0)) (pz_gN (ρ 0)) (ρ 1 / 4))) = ρ 5 / 4) ∨ (1000 < ρ 5 / 4 ∧ pz_vl (pz_gt (ρ 0)) (pz_gN (ρ 0)) (pz_p (pz_cf (pz_gt (ρ 0)) (pz_gN (ρ 0)) (ρ 1 / 4))) = 1000) := vl
  refine ⟨(fun y hy => by cases hy), _, List.mem_cons_self, ρ, fun _ _ => rfl, ax_px hE rfl (fun x hx => ?_)⟩
  cases List.mem_singleton.mp hx
  refine (ax_XF_lt (x := 257) (Nat.le_of_ble_eq_true rfl)).mpr ?_
  show py_257 (pz_gt (ρ 0)) (pz_gN (ρ 0)) ((ρ 2) / 4) (ρ 3) (ρ 4) (ρ 5)
  exact pm_mv1 F178 (by rw [kd]; decide) (by rw [kd]; decide) F182 F246 (by rw [pr_un1 F207]; omega)
theorem axq0_mv1_1 : ax_RO ax_wM0 (ax_XM 0) axu0_mv1_1 := axqg_mv1_1 ax_WW0
theorem axq0_mv2_1 : ax_RO ax_wM0 (ax_XM 0) axu0_mv2_1 := by
  intro ρ hp hE hT
  have j0 : ρ 0 % 4 = 1 := pz_gj hE 0 (Nat.le_of_ble_eq_true rfl) rfl
  have j1 : ρ 1 % 4 = 1 := pz_gj hE 1 (Nat.le_of_ble_eq_true rfl) rfl
  have j2 : ρ 2 % 4 = 1 := pz_gj hE 2 (Nat.le_of_ble_eq_true rfl) rfl
  have j3 : ρ 3 % 4 = 1 := pz_gj hE 3 (Nat.le_of_ble_eq_true rfl) rfl
  have j4 : ρ 4 % 4 = 1 := pz_gj hE 4 (Nat.le_of_ble_eq_true rfl) rfl
  obtain ⟨i5a, i5b, i5c, i5d⟩ := pz_gi hE 5 2147483648 2147484647 (Nat.le_of_ble_eq_true rfl) rfl
  obtain ⟨-, -, -, -, -, F151⟩ : ay_ex hp 173 ∧ ay_ex hp 173 ∧ ay_ex hp 173 ∧ ay_ex hp 173 ∧ ay_ex hp 173 ∧ pz_y151 (ρ 0) (ρ 1) (ay_at hp 173 13) (ay_at hp 173 14) (ay_at hp 173 15) (ay_at hp 173 16) (ay_at hp 173 17) := (ax_XF_lt (x := 151) (Nat.le_of_ble_eq_true rfl)).mp (ax_gx hE (151, [3, 7]) ax_m0)
  have F257 : py_257 (pz_gt (ρ 0)) (pz_gN (ρ 0)) ((ρ 1) / 4) (ρ 2) (ρ 3) (ρ 5) := (ax_XF_lt (x := 257) (Nat.le_of_ble_eq_true rfl)).mp (ax_gx hE (257, [3, 7, 11, 15, 23]) ax_m1)
  obtain ⟨-, -, F242⟩ : ay_ex hp 173 ∧ ay_ex hp 185 ∧ py_y242 (ρ 2) (ay_at hp 173 27) (ay_at hp 185) := (ax_XF_lt (x := 242) (Nat.le_of_ble_eq_true rfl)).mp (ax_gx hE (242, [11]) ax_m2)
  obtain ⟨-, -, F241⟩ : ay_ex hp 180 ∧ ay_ex hp 182 ∧ py_y241 1 (ρ 4) (ay_at hp 180 1) (ay_at hp 182) := (ax_XF_lt (x := 241) (Nat.le_of_ble_eq_true rfl)).mp (ax_gx hE (241, [19]) ax_m3)
  have F251 : py_251 (ρ 4) (ρ 5) (ρ 3) := (ax_XF_lt (x := 251) (Nat.le_of_ble_eq_true rfl)).mp (ax_gx hE (251, [19, 23, 15]) ax_m4)
  refine ⟨(fun y hy => by cases hy), _, List.mem_cons_self, ρ, fun _ _ => rfl, ax_px hE rfl (fun x hx => ?_)⟩
  rcases List.mem_cons.mp hx with e | hx
  · subst e
    refine (ax_XF_lt (x := 247) (Nat.le_of_ble_eq_true rfl)).mpr ?_
    show py_247 (pz_gt (ρ 0)) (pz_gN (ρ 0)) ((ρ 1) / 4) (ρ 2) (ρ 4)
    exact pm_mv2 F257 F251
  cases List.mem_singleton.mp hx
  refine (ax_XF_lt (x := 249) (Nat.le_of_ble_eq_true rfl)).mpr ?_
  show py_249 (ρ 2) (ρ 4) (ρ 2) (ρ 4)
  exact (rfl : py_neg _ _ = _)

theorem axqg_mv1_2 {w : ax_W} {b : Nat} (hw : ax_WW w) : ax_RO w (ax_XM b) axu0_mv1_2 := by
  intro ρ hp hE hT
  have j0 : ρ 0 % 4 = 1 := pz_gj hE 0 (Nat.le_of_ble_eq_true rfl) rfl
  have j1 : ρ 1 % 4 = 1 := pz_gj hE 1 (Nat.le_of_ble_eq_true rfl) rfl
  have j2 : ρ 2 % 4 = 1 := pz_gj hE 2 (Nat.le_of_ble_eq_true rfl) rfl
  have j3 : ρ 3 % 4 = 1 := pz_gj hE 3 (Nat.le_of_ble_eq_true rfl) rfl
  have j4 : ρ 4 % 4 = 1 := pz_gj hE 4 (Nat.le_of_ble_eq_true rfl) rfl
  obtain ⟨-, -, -, -, -, F151⟩ : ay_ex hp 173 ∧ ay_ex hp 173 ∧ ay_ex hp 173 ∧ ay_ex hp 173 ∧ ay_ex hp 173 ∧ pz_y151 (ρ 0) (ρ 1) (ay_at hp 173 13) (ay_at hp 173 14) (ay_at hp 173 15) (ay_at hp 173 16) (ay_at hp 173 17) := (ax_XF_lt (x := 151) (Nat.le_of_ble_eq_true rfl)).mp (ax_gx hE (151, [3, 7]) ax_m0)
  have F182 : (ρ 2) / 4 = (ρ 1) / 4 + 1 := (ax_XF_lt (x := 182) (Nat.le_of_ble_eq_true rfl)).mp (ax_gx hE (182, [7, 11]) ax_m1)
  have F178 : pz7 (pz_gt (ρ 0)) (pz_gN (ρ 0)) ((ρ 1) / 4) 8 := (ax_XF_lt (x := 178) (Nat.le_of_ble_eq_true rfl)).mp (ax_gx hE (178, [3, 7]) ax_m2)
  have F207 : pz107 (pz_gt (ρ 0)) (pz_gN (ρ 0)) ((ρ 1) / 4) ((8) / 4) := (ax_XF_lt (x := 207) (Nat.le_of_ble_eq_true rfl)).mp (ax_gx hE (207, [3, 7, 8]) ax_m3)
  have F246 : py_y246 (pz_gt (ρ 0)) (pz_gN (ρ 0)) ((ρ 1) / 4) (ρ 3) (ρ 4) := (ax_XF_lt (x := 246) (Nat.le_of_ble_eq_true rfl)).mp (ax_gx hE (246, [3, 7, 15, 19]) ax_m4)
  have kd := (pr_w (k := 2) (by decide) F207).1
  refine ⟨(fun y hy => by cases hy), _, List.mem_cons_self, ρ, fun _ _ => rfl, ax_px hE rfl (fun x hx => ?_)⟩
  cases List.mem_singleton.mp hx
  refine (ax_XF_lt (x := 257) (Nat.le_of_ble_eq_true rfl)).mpr ?_
  show py_257 (pz_gt (ρ 0)) (pz_gN (ρ 0)) ((ρ 2) / 4) (ρ 3) (ρ 4) (4000)
  exact pm_mv1 F178 (by rw [kd]; decide) (by rw [kd]; decide) F182 F246 (by rw [pr_unw (k := 2) (by decide) F207])
theorem axq0_mv1_2 : ax_RO ax_wM0 (ax_XM 0) axu0_mv1_2 := axqg_mv1_2 ax_WW0
theorem axq0_mv2_2 : ax_RO ax_wM0 (ax_XM 0) axu0_mv2_2 := by
  intro ρ hp hE hT
  have j0 : ρ 0 % 4 = 1 := pz_gj hE 0 (Nat.le_of_ble_eq_true rfl) rfl
  have j1 : ρ 1 % 4 = 1 := pz_gj hE 1 (Nat.le_of_ble_eq_true rfl) rfl
  have j2 : ρ 2 % 4 = 1 := pz_gj hE 2 (Nat.le_of_ble_eq_true rfl) rfl
  have j3 : ρ 3 % 4 = 1 := pz_gj hE 3 (Nat.le_of_ble_eq_true rfl) rfl
  have j4 : ρ 4 % 4 = 1 := pz_gj hE 4 (Nat.le_of_ble_eq_true rfl) rfl
  obtain ⟨-, -, -, -, -, F151⟩ : ay_ex hp 173 ∧ ay_ex hp 173 ∧ ay_ex hp 173 ∧ ay_ex hp 173 ∧ ay_ex hp 173 ∧ pz_y151 (ρ 0) (ρ 1) (ay_at hp 173 13) (ay_at hp 173 14) (ay_at hp 173 15) (ay_at hp 173 16) (ay_at hp 173 17) := (ax_XF_lt (x := 151) (Nat.le_of_ble_eq_true rfl)).mp (ax_gx hE (151, [3, 7]) ax_m0)
  have F257 : py_257 (pz_gt (ρ 0)) (pz_gN (ρ 0)) ((ρ 1) / 4) (ρ 2) (ρ 3) (4000) := (ax_XF_lt (x := 257) (Nat.le_of_ble_eq_true rfl)).mp (ax_gx hE (257, [3, 7, 11, 15, 4000]) ax_m1)
  obtain ⟨-, -, F242⟩ : ay_ex hp 173 ∧ ay_ex hp 185 ∧ py_y242 (ρ 2) (ay_at hp 173 27) (ay_at hp 185) := (ax_XF_lt (x := 242) (Nat.le_of_ble_eq_true rfl)).mp (ax_gx hE (242, [11]) ax_m2)
  obtain ⟨-, -, F241⟩ : ay_ex hp 180 ∧ ay_ex hp 182 ∧ py_y241 1 (ρ 4) (ay_at hp 180 1) (ay_at hp 182) := (ax_XF_lt (x := 241) (Nat.le_of_ble_eq_true rfl)).mp (ax_gx hE (241, [19]) ax_m3)
  have F251 : py_251 (ρ 4) (4000) (ρ 3) := (ax_XF_lt (x := 251) (Nat.le_of_ble_eq_true rfl)).mp (ax_gx hE (251, [19, 4000, 15]) ax_m4)
  refine ⟨(fun y hy => by cases hy), _, List.mem_cons_self, ρ, fun _ _ => rfl, ax_px hE rfl (fun x hx => ?_)⟩
  rcases List.mem_cons.mp hx with e | hx
  · subst e
    refine (ax_XF_lt (x := 247) (Nat.le_of_ble_eq_true rfl)).mpr ?_
    show py_247 (pz_gt (ρ 0)) (pz_gN (ρ 0)) ((ρ 1) / 4) (ρ 2) (ρ 4)
    exact pm_mv2 F257 F251
  cases List.mem_singleton.mp hx
  refine (ax_XF_lt (x := 249) (Nat.le_of_ble_eq_true rfl)).mpr ?_
  show py_249 (ρ 2) (ρ 4) (ρ 2) (ρ 4)
  exact (rfl : py_neg _ _ = _)

theorem axqg_mv1_3 {w : ax_W} {b : Nat} (hw : ax_WW w) : ax_RO w (ax_XM b) axu0_mv1_3 := by
  intro ρ hp hE hT
  have j0 : ρ 0 % 4 = 1 := pz_gj hE 0 (Nat.le_of_ble_eq_true rfl) rfl
  have j1 : ρ 1 % 4 = 1 := pz_gj hE 1 (Nat.le_of_ble_eq_true rfl) rfl
  have j2 : ρ 2 % 4 = 1 := pz_gj hE 2 (Nat.le_of_ble_eq_true rfl) rfl
  have j3 : ρ 3 % 4 = 1 := pz_gj hE 3 (Nat.le_of_ble_eq_true rfl) rfl
  have j4 : ρ 4 % 4 = 1 := pz_gj hE 4 (Nat.le_of_ble_eq_true rfl) rfl
  obtain ⟨-, -, -, -, -, F151⟩ : ay_ex hp 173 ∧ ay_ex hp 173 ∧ ay_ex hp 173 ∧ ay_ex hp 173 ∧ ay_ex hp 173 ∧ pz_y151 (ρ 0) (ρ 1) (ay_at hp 173 13) (ay_at hp 173 14) (ay_at hp 173 15) (ay_at hp 173 16) (ay_at hp 173 17) := (ax_XF_lt (x := 151) (Nat.le_of_ble_eq_true rfl)).mp (ax_gx hE (151, [3, 7]) ax_m0)
  have F182 : (ρ 2) / 4 = (ρ 1) / 4 + 1 := (ax_XF_lt (x := 182) (Nat.le_of_ble_eq_true rfl)).mp (ax_gx hE (182, [7, 11]) ax_m1)
  have F178 : pz7 (pz_gt (ρ 0)) (pz_gN (ρ 0)) ((ρ 1) / 4) 8 := (ax_XF_lt (x := 178) (Nat.le_of_ble_eq_true rfl)).mp (ax_gx hE (178, [3, 7]) ax_m2)
  have F207 : pz107 (pz_gt (ρ 0)) (pz_gN (ρ 0)) ((ρ 1) / 4) ((12) / 4) := (ax_XF_lt (x := 207) (Nat.le_of_ble_eq_true rfl)).mp (ax_gx hE (207, [3, 7, 12]) ax_m3)
  have F246 : py_y246 (pz_gt (ρ 0)) (pz_gN (ρ 0)) ((ρ 1) / 4) (ρ 3) (ρ 4) := (ax_XF_lt (x := 246) (Nat.le_of_ble_eq_true rfl)).mp (ax_gx hE (246, [3, 7, 15, 19]) ax_m4)
  have kd := (pr_w (k := 3) (by decide) F207).1
  refine ⟨(fun y hy => by cases hy), _, List.mem_cons_self, ρ, fun _ _ => rfl, ax_px hE rfl (fun x hx => ?_)⟩
  cases List.mem_singleton.mp hx
  refine (ax_XF_lt (x := 257) (Nat.le_of_ble_eq_true rfl)).mpr ?_
  show py_257 (pz_gt (ρ 0)) (pz_gN (ρ 0)) ((ρ 2) / 4) (ρ 3) (ρ 4) (4004)
  exact pm_mv1 F178 (by rw [kd]; decide) (by rw [kd]; decide) F182 F246 (by rw [pr_unw (k := 3) (by decide) F207])
theorem axq0_mv1_3 : ax_RO ax_wM0 (ax_XM 0) axu0_mv1_3 := axqg_mv1_3 ax_WW0
theorem axq0_mv2_3 : ax_RO ax_wM0 (ax_XM 0) axu0_mv2_3 := by
  intro ρ hp hE hT
  have j0 : ρ 0 % 4 = 1 := pz_gj hE 0 (Nat.le_of_ble_eq_true rfl) rfl
  have j1 : ρ 1 % 4 = 1 := pz_gj hE 1 (Nat.le_of_ble_eq_true rfl) rfl
  have j2 : ρ 2 % 4 = 1 := pz_gj hE 2 (Nat.le_of_ble_eq_true rfl) rfl
  have j3 : ρ 3 % 4 = 1 := pz_gj hE 3 (Nat.le_of_ble_eq_true rfl) rfl
  have j4 : ρ 4 % 4 = 1 := pz_gj hE 4 (Nat.le_of_ble_eq_true rfl) rfl
  obtain ⟨-, -, -, -, -, F151⟩ : ay_ex hp 173 ∧ ay_ex hp 173 ∧ ay_ex hp 173 ∧ ay_ex hp 173 ∧ ay_ex hp 173 ∧ pz_y151 (ρ 0) (ρ 1) (ay_at hp 173 13) (ay_at hp 173 14) (ay_at hp 173 15) (ay_at hp 173 16) (ay_at hp 173 17) := (ax_XF_lt (x := 151) (Nat.le_of_ble_eq_true rfl)).mp (ax_gx hE (151, [3, 7]) ax_m0)
  have F257 : py_257 (pz_gt (ρ 0)) (pz_gN (ρ 0)) ((ρ 1) / 4) (ρ 2) (ρ 3) (4004) := (ax_XF_lt (x := 257) (Nat.le_of_ble_eq_true rfl)).mp (ax_gx hE (257, [3, 7, 11, 15, 4004]) ax_m1)
  obtain ⟨-, -, F242⟩ : ay_ex hp 173 ∧ ay_ex hp 185 ∧ py_y242 (ρ 2) (ay_at hp 173 27) (ay_at hp 185) := (ax_XF_lt (x := 242) (Nat.le_of_ble_eq_true rfl)).mp (ax_gx hE (242, [11]) ax_m2)
  obtain ⟨-, -, F241⟩ : ay_ex hp 180 ∧ ay_ex hp 182 ∧ py_y241 1 (ρ 4) (ay_at hp 180 1) (ay_at hp 182) := (ax_XF_lt (x := 241) (Nat.le_of_ble_eq_true rfl)).mp (ax_gx hE (241, [19]) ax_m3)
  have F251 : py_251 (ρ 4) (4004) (ρ 3) := (ax_XF_lt (x := 251) (Nat.le_of_ble_eq_true rfl)).mp (ax_gx hE (251, [19, 4004, 15]) ax_m4)
  refine ⟨(fun y hy => by cases hy), _, List.mem_cons_self, ρ, fun _ _ => rfl, ax_px hE rfl (fun x hx => ?_)⟩
  rcases List.mem_cons.mp hx with e | hx
  · subst e
    refine (ax_XF_lt (x := 247) (Nat.le_of_ble_eq_true rfl)).mpr ?_
    show py_247 (pz_gt (ρ 0)) (pz_gN (ρ 0)) ((ρ 1) / 4) (ρ 2) (ρ 4)
    exact pm_mv2 F257 F251
  cases List.mem_singleton.mp hx
  refine (ax_XF_lt (x := 249) (Nat.le_of_ble_eq_true rfl)).mpr ?_
  show py_249 (ρ 2) (ρ 4) (ρ 2) (ρ 4)
  exact (rfl : py_neg _ _ = _)

theorem axqg_mv1_4 {w : ax_W} {b : Nat} (hw : ax_WW w) : ax_RO w (ax_XM b) axu0_mv1_4 := by
  intro ρ hp hE hT
  have j0 : ρ 0 % 4 = 1 := pz_gj hE 0 (Nat.le_of_ble_eq_true rfl) rfl
  have j1 : ρ 1 % 4 = 1 := pz_gj hE 1 (Nat.le_of_ble_eq_true rfl) rfl
  have j2 : ρ 2 % 4 = 1 := pz_gj hE 2 (Nat.le_of_ble_eq_true rfl) rfl
  have j3 : ρ 3 % 4 = 1 := pz_gj hE 3 (Nat.le_of_ble_eq_true rfl) rfl
  have j4 : ρ 4 % 4 = 1 := pz_gj hE 4 (Nat.le_of_ble_eq_true rfl) rfl
  obtain ⟨-, -, -, -, -, F151⟩ : ay_ex hp 173 ∧ ay_ex hp 173 ∧ ay_ex hp 173 ∧ ay_ex hp 173 ∧ ay_ex hp 173 ∧ pz_y151 (ρ 0) (ρ 1) (ay_at hp 173 13) (ay_at hp 173 14) (ay_at hp 173 15) (ay_at hp 173 16) (ay_at hp 173 17) := (ax_XF_lt (x := 151) (Nat.le_of_ble_eq_true rfl)).mp (ax_gx hE (151, [3, 7]) ax_m0)
  have F182 : (ρ 2) / 4 = (ρ 1) / 4 + 1 := (ax_XF_lt (x := 182) (Nat.le_of_ble_eq_true rfl)).mp (ax_gx hE (182, [7, 11]) ax_m1)
  have F178 : pz7 (pz_gt (ρ 0)) (pz_gN (ρ 0)) ((ρ 1) / 4) 8 := (ax_XF_lt (x := 178) (Nat.le_of_ble_eq_true rfl)).mp (ax_gx hE (178, [3, 7]) ax_m2)
  have F207 : pz107 (pz_gt (ρ 0)) (pz_gN (ρ 0)) ((ρ 1) / 4) ((16) / 4) := (ax_XF_lt (x := 207) (Nat.le_of_ble_eq_true rfl)).mp (ax_gx hE (207, [3, 7, 16]) ax_m3)
  have F246 : py_y246 (pz_gt (ρ 0)) (pz_gN (ρ 0)) ((ρ 1) / 4) (ρ 3) (ρ 4) := (ax_XF_lt (x := 246) (Nat.le_of_ble_eq_true rfl)).mp (ax_gx hE (246, [3, 7, 15, 19]) ax_m4)
  have kd := (pr_w (k := 4) (by decide) F207).1
  refine ⟨(fun y hy => by cases hy), _, List.mem_cons_self, ρ, fun _ _ => rfl, ax_px hE rfl (fun x hx => ?_)⟩
  cases List.mem_singleton.mp hx
  refine (ax_XF_lt (x := 257) (Nat.le_of_ble_eq_true rfl)).mpr ?_
  show py_257 (pz_gt (ρ 0)) (pz_gN (ρ 0)) ((ρ 2) / 4) (ρ 3) (ρ 4) (4008)
  exact pm_mv1 F178 (by rw [kd]; decide) (by rw [kd]; decide) F182 F246 (by rw [pr_unw (k := 4) (by decide) F207])
theorem axq0_mv1_4 : ax_RO ax_wM0 (ax_XM 0) axu0_mv1_4 := axqg_mv1_4 ax_WW0
theorem axq0_mv2_4 : ax_RO ax_wM0 (ax_XM 0) axu0_mv2_4 := by
  intro ρ hp hE hT
  have j0 : ρ 0 % 4 = 1 := pz_gj hE 0 (Nat.le_of_ble_eq_true rfl) rfl
  have j1 : ρ 1 % 4 = 1 := pz_gj hE 1 (Nat.le_of_ble_eq_true rfl) rfl
  have j2 : ρ 2 % 4 = 1 := pz_gj hE 2 (Nat.le_of_ble_eq_true rfl) rfl
  have j3 : ρ 3 % 4 = 1 := pz_gj hE 3 (Nat.le_of_ble_eq_true rfl) rfl
  have j4 : ρ 4 % 4 = 1 := pz_gj hE 4 (Nat.le_of_ble_eq_true rfl) rfl
  obtain ⟨-, -, -, -, -, F151⟩ : ay_ex hp 173 ∧ ay_ex hp 173 ∧ ay_ex hp 173 ∧ ay_ex hp 173 ∧ ay_ex hp 173 ∧ pz_y151 (ρ 0) (ρ 1) (ay_at hp 173 13) (ay_at hp 173 14) (ay_at hp 173 15) (ay_at hp 173 16) (ay_at hp 173 17) := (ax_XF_lt (x := 151) (Nat.le_of_ble_eq_true rfl)).mp (ax_gx hE (151, [3, 7]) ax_m0)
  have F257 : py_257 (pz_gt (ρ 0)) (pz_gN (ρ 0)) ((ρ 1) / 4) (ρ 2) (ρ 3) (4008) := (ax_XF_lt (x := 257) (Nat.le_of_ble_eq_true rfl)).mp (ax_gx hE (257, [3, 7, 11, 15, 4008]) ax_m1)
  obtain ⟨-, -, F242⟩ : ay_ex hp 173 ∧ ay_ex hp 185 ∧ py_y242 (ρ 2) (ay_at hp 173 27) (ay_at hp 185) := (ax_XF_lt (x := 242) (Nat.le_of_ble_eq_true rfl)).mp (ax_gx hE (242, [11]) ax_m2)
  obtain ⟨-, -, F241⟩ : ay_ex hp 180 ∧ ay_ex hp 182 ∧ py_y241 1 (ρ 4) (ay_at hp 180 1) (ay_at hp 182) := (ax_XF_lt (x := 241) (Nat.le_of_ble_eq_true rfl)).mp (ax_gx hE (241, [19]) ax_m3)
  have F251 : py_251 (ρ 4) (4008) (ρ 3) := (ax_XF_lt (x := 251) (Nat.le_of_ble_eq_true rfl)).mp (ax_gx hE (251, [19, 4008, 15]) ax_m4)
  refine ⟨(fun y hy => by cases hy), _, List.mem_cons_self, ρ, fun _ _ => rfl, ax_px hE rfl (fun x hx => ?_)⟩
  rcases List.mem_cons.mp hx with e | hx
  · subst e
    refine (ax_XF_lt (x := 247) (Nat.le_of_ble_eq_true rfl)).mpr ?_
    show py_247 (pz_gt (ρ 0)) (pz_gN (ρ 0)) ((ρ 1) / 4) (ρ 2) (ρ 4)
    exact pm_mv2 F257 F251
  cases List.mem_singleton.mp hx
  refine (ax_XF_lt (x := 249) (Nat.le_of_ble_eq_true rfl)).mpr ?_
  show py_249 (ρ 2) (ρ 4) (ρ 2) (ρ 4)
  exact (rfl : py_neg _ _ = _)

theorem axqg_md1_5 {w : ax_W} {b : Nat} (hw : ax_WW w) : ax_RO w (ax_XM b) axu0_md1_5 := by
  intro ρ hp hE hT
  have j0 : ρ 0 % 4 = 1 := pz_gj hE 0 (Nat.le_of_ble_eq_true rfl) rfl
  have j1 : ρ 1 % 4 = 1 := pz_gj hE 1 (Nat.le_of_ble_eq_true rfl) rfl
  obtain ⟨i2a, i2b, i2c, i2d⟩ := pz_gi hE 2 2147483651 2147483651 (Nat.le_of_ble_eq_true rfl) rfl
  have c_token : ay_at hp 173 15 = some (ρ 2) := ay_gfj hE 702 60 11 173 15 ax_m2 (ax_vlq rfl rfl) (ax_vlj rfl rfl)
  obtain ⟨-, -, -, -, -, F151⟩ : ay_ex hp 173 ∧ ay_ex hp 173 ∧ ay_ex hp 173 ∧ ay_ex hp 173 ∧ ay_ex hp 173 ∧ pz_y151 (ρ 0) (ρ 1) (ay_at hp 173 13) (ay_at hp 173 14) (ay_at hp 173 15) (ay_at hp 173 16) (ay_at hp 173 17) := (ax_XF_lt (x := 151) (Nat.le_of_ble_eq_true rfl)).mp (ax_gx hE (151, [3, 7]) ax_m0)
  rw [c_token] at F151
  have F160 : pz60 (pz_gt (ρ 0)) (pz_gN (ρ 0)) ((ρ 1) / 4) ((20) / 4) := (ax_XF_lt (x := 160) (Nat.le_of_ble_eq_true rfl)).mp (ax_gx hE (160, [3, 7, 20]) ax_m1)
  have ht : ρ 2 / 4 = pz_tok (pz_kd (pz_gt (ρ 0)) (pz_gN (ρ 0)) (pz_p (pz_cf (pz_gt (ρ 0)) (pz_gN (ρ 0)) (ρ 1 / 4)))) := F151.2.2.1
  have hc := pz_tok_c (pz_kd (pz_gt (ρ 0)) (pz_gN (ρ 0)) (pz_p (pz_cf (pz_gt (ρ 0)) (pz_gN (ρ 0)) (ρ 1 / 4))))
  exfalso
  have e : pz_kd (pz_gt (ρ 0)) (pz_gN (ρ 0)) (pz_p (pz_cf (pz_gt (ρ 0)) (pz_gN (ρ 0)) (ρ 1 / 4))) = 1 := pz_wd1 F160
  rcases hc with h | h | h | h | h <;> omega
theorem axq0_md1_5 : ax_RO ax_wM0 (ax_XM 0) axu0_md1_5 := axqg_md1_5 ax_WW0
theorem axqg_md1_6 {w : ax_W} {b : Nat} (hw : ax_WW w) : ax_RO w (ax_XM b) axu0_md1_6 := by
  intro ρ hp hE hT
  have j0 : ρ 0 % 4 = 1 := pz_gj hE 0 (Nat.le_of_ble_eq_true rfl) rfl
  have j1 : ρ 1 % 4 = 1 := pz_gj hE 1 (Nat.le_of_ble_eq_true rfl) rfl
  obtain ⟨i2a, i2b, i2c, i2d⟩ := pz_gi hE 2 2147483651 2147483651 (Nat.le_of_ble_eq_true rfl) rfl
  have c_token : ay_at hp 173 15 = some (ρ 2) := ay_gfj hE 702 60 11 173 15 ax_m2 (ax_vlq rfl rfl) (ax_vlj rfl rfl)
  obtain ⟨-, -, -, -, -, F151⟩ : ay_ex hp 173 ∧ ay_ex hp 173 ∧ ay_ex hp 173 ∧ ay_ex hp 173 ∧ ay_ex hp 173 ∧ pz_y151 (ρ 0) (ρ 1) (ay_at hp 173 13) (ay_at hp 173 14) (ay_at hp 173 15) (ay_at hp 173 16) (ay_at hp 173 17) := (ax_XF_lt (x := 151) (Nat.le_of_ble_eq_true rfl)).mp (ax_gx hE (151, [3, 7]) ax_m0)
  rw [c_token] at F151
  have F160 : pz60 (pz_gt (ρ 0)) (pz_gN (ρ 0)) ((ρ 1) / 4) ((24) / 4) := (ax_XF_lt (x := 160) (Nat.le_of_ble_eq_true rfl)).mp (ax_gx hE (160, [3, 7, 24]) ax_m1)
  have ht : ρ 2 / 4 = pz_tok (pz_kd (pz_gt (ρ 0)) (pz_gN (ρ 0)) (pz_p (pz_cf (pz_gt (ρ 0)) (pz_gN (ρ 0)) (ρ 1 / 4)))) := F151.2.2.1
  have hc := pz_tok_c (pz_kd (pz_gt (ρ 0)) (pz_gN (ρ 0)) (pz_p (pz_cf (pz_gt (ρ 0)) (pz_gN (ρ 0)) (ρ 1 / 4))))
  exfalso
  have e : pz_kd (pz_gt (ρ 0)) (pz_gN (ρ 0)) (pz_p (pz_cf (pz_gt (ρ 0)) (pz_gN (ρ 0)) (ρ 1 / 4))) = 1 := pz_wd1 F160
  rcases hc with h | h | h | h | h <;> omega
theorem axq0_md1_6 : ax_RO ax_wM0 (ax_XM 0) axu0_md1_6 := axqg_md1_6 ax_WW0
theorem axqg_md1_7 {w : ax_W} {b : Nat} (hw : ax_WW w) : ax_RO w (ax_XM b) axu0_md1_7 := by
  intro ρ hp hE hT
  have j0 : ρ 0 % 4 = 1 := pz_gj hE 0 (Nat.le_of_ble_eq_true rfl) rfl
  have j1 : ρ 1 % 4 = 1 := pz_gj hE 1 (Nat.le_of_ble_eq_true rfl) rfl
  obtain ⟨i2a, i2b, i2c, i2d⟩ := pz_gi hE 2 2147483651 2147483651 (Nat.le_of_ble_eq_true rfl) rfl
  have c_token : ay_at hp 173 15 = some (ρ 2) := ay_gfj hE 702 60 11 173 15 ax_m2 (ax_vlq rfl rfl) (ax_vlj rfl rfl)
  obtain ⟨-, -, -, -, -, F151⟩ : ay_ex hp 173 ∧ ay_ex hp 173 ∧ ay_ex hp 173 ∧ ay_ex hp 173 ∧ ay_ex hp 173 ∧ pz_y151 (ρ 0) (ρ 1) (ay_at hp 173 13) (ay_at hp 173 14) (ay_at hp 173 15) (ay_at hp 173 16) (ay_at hp 173 17) := (ax_XF_lt (x := 151) (Nat.le_of_ble_eq_true rfl)).mp (ax_gx hE (151, [3, 7]) ax_m0)
  rw [c_token] at F151
  have F160 : pz60 (pz_gt (ρ 0)) (pz_gN (ρ 0)) ((ρ 1) / 4) ((28) / 4) := (ax_XF_lt (x := 160) (Nat.le_of_ble_eq_true rfl)).mp (ax_gx hE (160, [3, 7, 28]) ax_m1)
  have ht : ρ 2 / 4 = pz_tok (pz_kd (pz_gt (ρ 0)) (pz_gN (ρ 0)) (pz_p (pz_cf (pz_gt (ρ 0)) (pz_gN (ρ 0)) (ρ 1 / 4)))) := F151.2.2.1
  have hc := pz_tok_c (pz_kd (pz_gt (ρ 0)) (pz_gN (ρ 0)) (pz_p (pz_cf (pz_gt (ρ 0)) (pz_gN (ρ 0)) (ρ 1 / 4))))
  exfalso
  have e : pz_kd (pz_gt (ρ 0)) (pz_gN (ρ 0)) (pz_p (pz_cf (pz_gt (ρ 0)) (pz_gN (ρ 0)) (ρ 1 / 4))) = 1 := pz_wd1 F160
  rcases hc with h | h | h | h | h <;> omega
theorem axq0_md1_7 : ax_RO ax_wM0 (ax_XM 0) axu0_md1_7 := axqg_md1_7 ax_WW0
theorem axqg_md2a {w : ax_W} {b : Nat} (hw : ax_WW w) : ax_RO w (ax_XM b) axu0_md2a := by
  intro ρ hp hE hT
  have j0 : ρ 0 % 4 = 1 := pz_gj hE 0 (Nat.le_of_ble_eq_true rfl) rfl
  have j1 : ρ 1 % 4 = 1 := pz_gj hE 1 (Nat.le_of_ble_eq_true rfl) rfl
  obtain ⟨i2a, i2b, i2c, i2d⟩ := pz_gi hE 2 0 2147483650 (Nat.le_of_ble_eq_true rfl) rfl
  have c_token : ay_at hp 173 15 = some (ρ 2) := ay_gfj hE 702 60 11 173 15 ax_m2 (ax_vlq rfl rfl) (ax_vlj rfl rfl)
  obtain ⟨-, -, -, -, -, F151⟩ : ay_ex hp 173 ∧ ay_ex hp 173 ∧ ay_ex hp 173 ∧ ay_ex hp 173 ∧ ay_ex hp 173 ∧ pz_y151 (ρ 0) (ρ 1) (ay_at hp 173 13) (ay_at hp 173 14) (ay_at hp 173 15) (ay_at hp 173 16) (ay_at hp 173 17) := (ax_XF_lt (x := 151) (Nat.le_of_ble_eq_true rfl)).mp (ax_gx hE (151, [3, 7]) ax_m0)
  rw [c_token] at F151
  have F207 : pz107 (pz_gt (ρ 0)) (pz_gN (ρ 0)) ((ρ 1) / 4) ((4) / 4) := (ax_XF_lt (x := 207) (Nat.le_of_ble_eq_true rfl)).mp (ax_gx hE (207, [3, 7, 4]) ax_m1)
  have ht : ρ 2 / 4 = pz_tok (pz_kd (pz_gt (ρ 0)) (pz_gN (ρ 0)) (pz_p (pz_cf (pz_gt (ρ 0)) (pz_gN (ρ 0)) (ρ 1 / 4)))) := F151.2.2.1
  have hc := pz_tok_c (pz_kd (pz_gt (ρ 0)) (pz_gN (ρ 0)) (pz_p (pz_cf (pz_gt (ρ 0)) (pz_gN (ρ 0)) (ρ 1 / 4))))
  exfalso
  have e := pr_k1 F207
  replace e : pz_kd (pz_gt (ρ 0)) (pz_gN (ρ 0)) (pz_p (pz_cf (pz_gt (ρ 0)) (pz_gN (ρ 0)) (ρ 1 / 4))) = 2 := e
  rcases hc with h | h | h | h | h <;> omega
theorem axq0_md2a : ax_RO ax_wM0 (ax_XM 0) axu0_md2a := axqg_md2a ax_WW0
theorem axqg_md2b {w : ax_W} {b : Nat} (hw : ax_WW w) : ax_RO w (ax_XM b) axu0_md2b := by
  intro ρ hp hE hT
  have j0 : ρ 0 % 4 = 1 := pz_gj hE 0 (Nat.le_of_ble_eq_true rfl) rfl
  have j1 : ρ 1 % 4 = 1 := pz_gj hE 1 (Nat.le_of_ble_eq_true rfl) rfl
  obtain ⟨i2a, i2b, i2c, i2d⟩ := pz_gi hE 2 2147483652 4294967295 (Nat.le_of_ble_eq_true rfl) rfl
  have c_token : ay_at hp 173 15 = some (ρ 2) := ay_gfj hE 702 60 11 173 15 ax_m2 (ax_vlq rfl rfl) (ax_vlj rfl rfl)
  obtain ⟨-, -, -, -, -, F151⟩ : ay_ex hp 173 ∧ ay_ex hp 173 ∧ ay_ex hp 173 ∧ ay_ex hp 173 ∧ ay_ex hp 173 ∧ pz_y151 (ρ 0) (ρ 1) (ay_at hp 173 13) (ay_at hp 173 14) (ay_at hp 173 15) (ay_at hp 173 16) (ay_at hp 173 17) := (ax_XF_lt (x := 151) (Nat.le_of_ble_eq_true rfl)).mp (ax_gx hE (151, [3, 7]) ax_m0)
  rw [c_token] at F151
  have F207 : pz107 (pz_gt (ρ 0)) (pz_gN (ρ 0)) ((ρ 1) / 4) ((4) / 4) := (ax_XF_lt (x := 207) (Nat.le_of_ble_eq_true rfl)).mp (ax_gx hE (207, [3, 7, 4]) ax_m1)
  have ht : ρ 2 / 4 = pz_tok (pz_kd (pz_gt (ρ 0)) (pz_gN (ρ 0)) (pz_p (pz_cf (pz_gt (ρ 0)) (pz_gN (ρ 0)) (ρ 1 / 4)))) := F151.2.2.1
  have hc := pz_tok_c (pz_kd (pz_gt (ρ 0)) (pz_gN (ρ 0)) (pz_p (pz_cf (pz_gt (ρ 0)) (pz_gN (ρ 0)) (ρ 1 / 4))))
  exfalso
  have e := pr_k1 F207
  replace e : pz_kd (pz_gt (ρ 0)) (pz_gN (ρ 0)) (pz_p (pz_cf (pz_gt (ρ 0)) (pz_gN (ρ 0)) (ρ 1 / 4))) = 2 := e
  rcases hc with h | h | h | h | h <;> omega
theorem axq0_md2b : ax_RO ax_wM0 (ax_XM 0) axu0_md2b := axqg_md2b ax_WW0
theorem axqg_md3_5_6 {w : ax_W} {b : Nat} (hw : ax_WW w) : ax_RO w (ax_XM b) axu0_md3_5_6 := by
  intro ρ hp hE hT
  have j0 : ρ 0 % 4 = 1 := pz_gj hE 0 (Nat.le_of_ble_eq_true rfl) rfl
  have j1 : ρ 1 % 4 = 1 := pz_gj hE 1 (Nat.le_of_ble_eq_true rfl) rfl
  obtain ⟨i2a, i2b, i2c, i2d⟩ := pz_gi hE 2 2147483653 2147483653 (Nat.le_of_ble_eq_true rfl) rfl
  have c_word : ay_at hp 173 17 = some (ρ 2) := ay_gfj hE 702 68 11 173 17 ax_m2 (ax_vlq rfl rfl) (ax_vlj rfl rfl)
  obtain ⟨-, -, -, -, -, F151⟩ : ay_ex hp 173 ∧ ay_ex hp 173 ∧ ay_ex hp 173 ∧ ay_ex hp 173 ∧ ay_ex hp 173 ∧ pz_y151 (ρ 0) (ρ 1) (ay_at hp 173 13) (ay_at hp 173 14) (ay_at hp 173 15) (ay_at hp 173 16) (ay_at hp 173 17) := (ax_XF_lt (x := 151) (Nat.le_of_ble_eq_true rfl)).mp (ax_gx hE (151, [3, 7]) ax_m0)
  rw [c_word] at F151
  have F160 : pz60 (pz_gt (ρ 0)) (pz_gN (ρ 0)) ((ρ 1) / 4) ((24) / 4) := (ax_XF_lt (x := 160) (Nat.le_of_ble_eq_true rfl)).mp (ax_gx hE (160, [3, 7, 24]) ax_m1)
  exfalso
  have hk : pz_kd (pz_gt (ρ 0)) (pz_gN (ρ 0)) (pz_p (pz_cf (pz_gt (ρ 0)) (pz_gN (ρ 0)) (ρ 1 / 4))) = 1 := pz_wd1 F160
  have hw : ρ 2 / 4 = pz_wix (pz_gt (ρ 0)) (pz_gN (ρ 0)) (pz_p (pz_cf (pz_gt (ρ 0)) (pz_gN (ρ 0)) (ρ 1 / 4))) := F151.2.2.2.2 hk
  have e := pz_wix_3 (k := 6) (by decide) F160
  replace e : pz_wix (pz_gt (ρ 0)) (pz_gN (ρ 0)) (pz_p (pz_cf (pz_gt (ρ 0)) (pz_gN (ρ 0)) (ρ 1 / 4))) = 6 := e
  omega
theorem axq0_md3_5_6 : ax_RO ax_wM0 (ax_XM 0) axu0_md3_5_6 := axqg_md3_5_6 ax_WW0
theorem axqg_md3_5_7 {w : ax_W} {b : Nat} (hw : ax_WW w) : ax_RO w (ax_XM b) axu0_md3_5_7 := by
  intro ρ hp hE hT
  have j0 : ρ 0 % 4 = 1 := pz_gj hE 0 (Nat.le_of_ble_eq_true rfl) rfl
  have j1 : ρ 1 % 4 = 1 := pz_gj hE 1 (Nat.le_of_ble_eq_true rfl) rfl
  obtain ⟨i2a, i2b, i2c, i2d⟩ := pz_gi hE 2 2147483653 2147483653 (Nat.le_of_ble_eq_true rfl) rfl
  have c_word : ay_at hp 173 17 = some (ρ 2) := ay_gfj hE 702 68 11 173 17 ax_m2 (ax_vlq rfl rfl) (ax_vlj rfl rfl)
  obtain ⟨-, -, -, -, -, F151⟩ : ay_ex hp 173 ∧ ay_ex hp 173 ∧ ay_ex hp 173 ∧ ay_ex hp 173 ∧ ay_ex hp 173 ∧ pz_y151 (ρ 0) (ρ 1) (ay_at hp 173 13) (ay_at hp 173 14) (ay_at hp 173 15) (ay_at hp 173 16) (ay_at hp 173 17) := (ax_XF_lt (x := 151) (Nat.le_of_ble_eq_true rfl)).mp (ax_gx hE (151, [3, 7]) ax_m0)
  rw [c_word] at F151
  have F160 : pz60 (pz_gt (ρ 0)) (pz_gN (ρ 0)) ((ρ 1) / 4) ((28) / 4) := (ax_XF_lt (x := 160) (Nat.le_of_ble_eq_true rfl)).mp (ax_gx hE (160, [3, 7, 28]) ax_m1)
  exfalso
  have hk : pz_kd (pz_gt (ρ 0)) (pz_gN (ρ 0)) (pz_p (pz_cf (pz_gt (ρ 0)) (pz_gN (ρ 0)) (ρ 1 / 4))) = 1 := pz_wd1 F160
  have hw : ρ 2 / 4 = pz_wix (pz_gt (ρ 0)) (pz_gN (ρ 0)) (pz_p (pz_cf (pz_gt (ρ 0)) (pz_gN (ρ 0)) (ρ 1 / 4))) := F151.2.2.2.2 hk
  have e := pz_wix_3 (k := 7) (by decide) F160
  replace e : pz_wix (pz_gt (ρ 0)) (pz_gN (ρ 0)) (pz_p (pz_cf (pz_gt (ρ 0)) (pz_gN (ρ 0)) (ρ 1 / 4))) = 7 := e
  omega
theorem axq0_md3_5_7 : ax_RO ax_wM0 (ax_XM 0) axu0_md3_5_7 := axqg_md3_5_7 ax_WW0
theorem axqg_md3_6_7 {w : ax_W} {b : Nat} (hw : ax_WW w) : ax_RO w (ax_XM b) axu0_md3_6_7 := by
  intro ρ hp hE hT
  have j0 : ρ 0 % 4 = 1 := pz_gj hE 0 (Nat.le_of_ble_eq_true rfl) rfl
  have j1 : ρ 1 % 4 = 1 := pz_gj hE 1 (Nat.le_of_ble_eq_true rfl) rfl
  obtain ⟨i2a, i2b, i2c, i2d⟩ := pz_gi hE 2 2147483654 2147483654 (Nat.le_of_ble_eq_true rfl) rfl
  have c_word : ay_at hp 173 17 = some (ρ 2) := ay_gfj hE 702 68 11 173 17 ax_m2 (ax_vlq rfl rfl) (ax_vlj rfl rfl)
  obtain ⟨-, -, -, -, -, F151⟩ : ay_ex hp 173 ∧ ay_ex hp 173 ∧ ay_ex hp 173 ∧ ay_ex hp 173 ∧ ay_ex hp 173 ∧ pz_y151 (ρ 0) (ρ 1) (ay_at hp 173 13) (ay_at hp 173 14) (ay_at hp 173 15) (ay_at hp 173 16) (ay_at hp 173 17) := (ax_XF_lt (x := 151) (Nat.le_of_ble_eq_true rfl)).mp (ax_gx hE (151, [3, 7]) ax_m0)
  rw [c_word] at F151
  have F160 : pz60 (pz_gt (ρ 0)) (pz_gN (ρ 0)) ((ρ 1) / 4) ((28) / 4) := (ax_XF_lt (x := 160) (Nat.le_of_ble_eq_true rfl)).mp (ax_gx hE (160, [3, 7, 28]) ax_m1)
  exfalso
  have hk : pz_kd (pz_gt (ρ 0)) (pz_gN (ρ 0)) (pz_p (pz_cf (pz_gt (ρ 0)) (pz_gN (ρ 0)) (ρ 1 / 4))) = 1 := pz_wd1 F160
  have hw : ρ 2 / 4 = pz_wix (pz_gt (ρ 0)) (pz_gN (ρ 0)) (pz_p (pz_cf (pz_gt (ρ 0)) (pz_gN (ρ 0)) (ρ 1 / 4))) := F151.2.2.2.2 hk
  have e := pz_wix_3 (k := 7) (by decide) F160
  replace e : pz_wix (pz_gt (ρ 0)) (pz_gN (ρ 0)) (pz_p (pz_cf (pz_gt (ρ 0)) (pz_gN (ρ 0)) (ρ 1 / 4))) = 7 := e
  omega
theorem axq0_md3_6_7 : ax_RO ax_wM0 (ax_XM 0) axu0_md3_6_7 := axqg_md3_6_7 ax_WW0
theorem axqg_md3_6_5 {w : ax_W} {b : Nat} (hw : ax_WW w) : ax_RO w (ax_XM b) axu0_md3_6_5 := by
  intro ρ hp hE hT
  have j0 : ρ 0 % 4 = 1 := pz_gj hE 0 (Nat.le_of_ble_eq_true rfl) rfl
  have j1 : ρ 1 % 4 = 1 := pz_gj hE 1 (Nat.le_of_ble_eq_true rfl) rfl
  obtain ⟨i2a, i2b, i2c, i2d⟩ := pz_gi hE 2 2147483654 2147483654 (Nat.le_of_ble_eq_true rfl) rfl
  have c_word : ay_at hp 173 17 = some (ρ 2) := ay_gfj hE 702 68 11 173 17 ax_m2 (ax_vlq rfl rfl) (ax_vlj rfl rfl)
  obtain ⟨-, -, -, -, -, F151⟩ : ay_ex hp 173 ∧ ay_ex hp 173 ∧ ay_ex hp 173 ∧ ay_ex hp 173 ∧ ay_ex hp 173 ∧ pz_y151 (ρ 0) (ρ 1) (ay_at hp 173 13) (ay_at hp 173 14) (ay_at hp 173 15) (ay_at hp 173 16) (ay_at hp 173 17) := (ax_XF_lt (x := 151) (Nat.le_of_ble_eq_true rfl)).mp (ax_gx hE (151, [3, 7]) ax_m0)
  rw [c_word] at F151
  have F160 : pz60 (pz_gt (ρ 0)) (pz_gN (ρ 0)) ((ρ 1) / 4) ((20) / 4) := (ax_XF_lt (x := 160) (Nat.le_of_ble_eq_true rfl)).mp (ax_gx hE (160, [3, 7, 20]) ax_m1)
  exfalso
  have hk : pz_kd (pz_gt (ρ 0)) (pz_gN (ρ 0)) (pz_p (pz_cf (pz_gt (ρ 0)) (pz_gN (ρ 0)) (ρ 1 / 4))) = 1 := pz_wd1 F160
  have hw : ρ 2 / 4 = pz_wix (pz_gt (ρ 0)) (pz_gN (ρ 0)) (pz_p (pz_cf (pz_gt (ρ 0)) (pz_gN (ρ 0)) (ρ 1 / 4))) := F151.2.2.2.2 hk
  have e := pz_wix_3 (k := 5) (by decide) F160
  replace e : pz_wix (pz_gt (ρ 0)) (pz_gN (ρ 0)) (pz_p (pz_cf (pz_gt (ρ 0)) (pz_gN (ρ 0)) (ρ 1 / 4))) = 5 := e
  omega
theorem axq0_md3_6_5 : ax_RO ax_wM0 (ax_XM 0) axu0_md3_6_5 := axqg_md3_6_5 ax_WW0
theorem axqg_md4a_222_5 {w : ax_W} {b : Nat} (hw : ax_WW w) : ax_RO w (ax_XM b) axu0_md4a_222_5 := by
  intro ρ hp hE hT
  have j0 : ρ 0 % 4 = 1 := pz_gj hE 0 (Nat.le_of_ble_eq_true rfl) rfl
  have j1 : ρ 1 % 4 = 1 := pz_gj hE 1 (Nat.le_of_ble_eq_true rfl) rfl
  obtain ⟨i2a, i2b, i2c, i2d⟩ := pz_gi hE 2 0 2147483652 (Nat.le_of_ble_eq_true rfl) rfl
  have c_word : ay_at hp 173 17 = some (ρ 2) := ay_gfj hE 702 68 11 173 17 ax_m2 (ax_vlq rfl rfl) (ax_vlj rfl rfl)
  obtain ⟨-, -, -, -, -, F151⟩ : ay_ex hp 173 ∧ ay_ex hp 173 ∧ ay_ex hp 173 ∧ ay_ex hp 173 ∧ ay_ex hp 173 ∧ pz_y151 (ρ 0) (ρ 1) (ay_at hp 173 13) (ay_at hp 173 14) (ay_at hp 173 15) (ay_at hp 173 16) (ay_at hp 173 17) := (ax_XF_lt (x := 151) (Nat.le_of_ble_eq_true rfl)).mp (ax_gx hE (151, [3, 7]) ax_m0)
  rw [c_word] at F151
  have F160 : pz60 (pz_gt (ρ 0)) (pz_gN (ρ 0)) ((ρ 1) / 4) ((20) / 4) := (ax_XF_lt (x := 160) (Nat.le_of_ble_eq_true rfl)).mp (ax_gx hE (160, [3, 7, 20]) ax_m1)
  exfalso
  have hk : pz_kd (pz_gt (ρ 0)) (pz_gN (ρ 0)) (pz_p (pz_cf (pz_gt (ρ 0)) (pz_gN (ρ 0)) (ρ 1 / 4))) = 1 := pz_wd1 F160
  have hw : ρ 2 / 4 = pz_wix (pz_gt (ρ 0)) (pz_gN (ρ 0)) (pz_p (pz_cf (pz_gt (ρ 0)) (pz_gN (ρ 0)) (ρ 1 / 4))) := F151.2.2.2.2 hk
  have e := pz_wix_3 (k := 5) (by decide) F160
  replace e : pz_wix (pz_gt (ρ 0)) (pz_gN (ρ 0)) (pz_p (pz_cf (pz_gt (ρ 0)) (pz_gN (ρ 0)) (ρ 1 / 4))) = 5 := e
  omega
theorem axq0_md4a_222_5 : ax_RO ax_wM0 (ax_XM 0) axu0_md4a_222_5 := axqg_md4a_222_5 ax_WW0
theorem axqg_md4b_222_5 {w : ax_W} {b : Nat} (hw : ax_WW w) : ax_RO w (ax_XM b) axu0_md4b_222_5 := by
  intro ρ hp hE hT
  have j0 : ρ 0 % 4 = 1 := pz_gj hE 0 (Nat.le_of_ble_eq_true rfl) rfl
  have j1 : ρ 1 % 4 = 1 := pz_gj hE 1 (Nat.le_of_ble_eq_true rfl) rfl
  obtain ⟨i2a, i2b, i2c, i2d⟩ := pz_gi hE 2 2147483654 4294967295 (Nat.le_of_ble_eq_true rfl) rfl
  have c_word : ay_at hp 173 17 = some (ρ 2) := ay_gfj hE 702 68 11 173 17 ax_m2 (ax_vlq rfl rfl) (ax_vlj rfl rfl)
  obtain ⟨-, -, -, -, -, F151⟩ : ay_ex hp 173 ∧ ay_ex hp 173 ∧ ay_ex hp 173 ∧ ay_ex hp 173 ∧ ay_ex hp 173 ∧ pz_y151 (ρ 0) (ρ 1) (ay_at hp 173 13) (ay_at hp 173 14) (ay_at hp 173 15) (ay_at hp 173 16) (ay_at hp 173 17) := (ax_XF_lt (x := 151) (Nat.le_of_ble_eq_true rfl)).mp (ax_gx hE (151, [3, 7]) ax_m0)
  rw [c_word] at F151
  have F160 : pz60 (pz_gt (ρ 0)) (pz_gN (ρ 0)) ((ρ 1) / 4) ((20) / 4) := (ax_XF_lt (x := 160) (Nat.le_of_ble_eq_true rfl)).mp (ax_gx hE (160, [3, 7, 20]) ax_m1)
  exfalso
  have hk : pz_kd (pz_gt (ρ 0)) (pz_gN (ρ 0)) (pz_p (pz_cf (pz_gt (ρ 0)) (pz_gN (ρ 0)) (ρ 1 / 4))) = 1 := pz_wd1 F160
  have hw : ρ 2 / 4 = pz_wix (pz_gt (ρ 0)) (pz_gN (ρ 0)) (pz_p (pz_cf (pz_gt (ρ 0)) (pz_gN (ρ 0)) (ρ 1 / 4))) := F151.2.2.2.2 hk
  have e := pz_wix_3 (k := 5) (by decide) F160
  replace e : pz_wix (pz_gt (ρ 0)) (pz_gN (ρ 0)) (pz_p (pz_cf (pz_gt (ρ 0)) (pz_gN (ρ 0)) (ρ 1 / 4))) = 5 := e
  omega
theorem axq0_md4b_222_5 : ax_RO ax_wM0 (ax_XM 0) axu0_md4b_222_5 := axqg_md4b_222_5 ax_WW0
theorem axqg_md4a_237_6 {w : ax_W} {b : Nat} (hw : ax_WW w) : ax_RO w (ax_XM b) axu0_md4a_237_6 := by
  intro ρ hp hE hT
  have j0 : ρ 0 % 4 = 1 := pz_gj hE 0 (Nat.le_of_ble_eq_true rfl) rfl
  have j1 : ρ 1 % 4 = 1 := pz_gj hE 1 (Nat.le_of_ble_eq_true rfl) rfl
  obtain ⟨i2a, i2b, i2c, i2d⟩ := pz_gi hE 2 0 2147483653 (Nat.le_of_ble_eq_true rfl) rfl
  have c_word : ay_at hp 173 17 = some (ρ 2) := ay_gfj hE 702 68 11 173 17 ax_m2 (ax_vlq rfl rfl) (ax_vlj rfl rfl)
  obtain ⟨-, -, -, -, -, F151⟩ : ay_ex hp 173 ∧ ay_ex hp 173 ∧ ay_ex hp 173 ∧ ay_ex hp 173 ∧ ay_ex hp 173 ∧ pz_y151 (ρ 0) (ρ 1) (ay_at hp 173 13) (ay_at hp 173 14) (ay_at hp 173 15) (ay_at hp 173 16) (ay_at hp 173 17) := (ax_XF_lt (x := 151) (Nat.le_of_ble_eq_true rfl)).mp (ax_gx hE (151, [3, 7]) ax_m0)
  rw [c_word] at F151
  have F160 : pz60 (pz_gt (ρ 0)) (pz_gN (ρ 0)) ((ρ 1) / 4) ((24) / 4) := (ax_XF_lt (x := 160) (Nat.le_of_ble_eq_true rfl)).mp (ax_gx hE (160, [3, 7, 24]) ax_m1)
  exfalso
  have hk : pz_kd (pz_gt (ρ 0)) (pz_gN (ρ 0)) (pz_p (pz_cf (pz_gt (ρ 0)) (pz_gN (ρ 0)) (ρ 1 / 4))) = 1 := pz_wd1 F160
  have hw : ρ 2 / 4 = pz_wix (pz_gt (ρ 0)) (pz_gN (ρ 0)) (pz_p (pz_cf (pz_gt (ρ 0)) (pz_gN (ρ 0)) (ρ 1 / 4))) := F151.2.2.2.2 hk
  have e := pz_wix_3 (k := 6) (by decide) F160
  replace e : pz_wix (pz_gt (ρ 0)) (pz_gN (ρ 0)) (pz_p (pz_cf (pz_gt (ρ 0)) (pz_gN (ρ 0)) (ρ 1 / 4))) = 6 := e
  omega
theorem axq0_md4a_237_6 : ax_RO ax_wM0 (ax_XM 0) axu0_md4a_237_6 := axqg_md4a_237_6 ax_WW0
theorem axqg_md4b_237_6 {w : ax_W} {b : Nat} (hw : ax_WW w) : ax_RO w (ax_XM b) axu0_md4b_237_6 := by
  intro ρ hp hE hT
  have j0 : ρ 0 % 4 = 1 := pz_gj hE 0 (Nat.le_of_ble_eq_true rfl) rfl
  have j1 : ρ 1 % 4 = 1 := pz_gj hE 1 (Nat.le_of_ble_eq_true rfl) rfl
  obtain ⟨i2a, i2b, i2c, i2d⟩ := pz_gi hE 2 2147483655 4294967295 (Nat.le_of_ble_eq_true rfl) rfl
  have c_word : ay_at hp 173 17 = some (ρ 2) := ay_gfj hE 702 68 11 173 17 ax_m2 (ax_vlq rfl rfl) (ax_vlj rfl rfl)
  obtain ⟨-, -, -, -, -, F151⟩ : ay_ex hp 173 ∧ ay_ex hp 173 ∧ ay_ex hp 173 ∧ ay_ex hp 173 ∧ ay_ex hp 173 ∧ pz_y151 (ρ 0) (ρ 1) (ay_at hp 173 13) (ay_at hp 173 14) (ay_at hp 173 15) (ay_at hp 173 16) (ay_at hp 173 17) := (ax_XF_lt (x := 151) (Nat.le_of_ble_eq_true rfl)).mp (ax_gx hE (151, [3, 7]) ax_m0)
  rw [c_word] at F151
  have F160 : pz60 (pz_gt (ρ 0)) (pz_gN (ρ 0)) ((ρ 1) / 4) ((24) / 4) := (ax_XF_lt (x := 160) (Nat.le_of_ble_eq_true rfl)).mp (ax_gx hE (160, [3, 7, 24]) ax_m1)
  exfalso
  have hk : pz_kd (pz_gt (ρ 0)) (pz_gN (ρ 0)) (pz_p (pz_cf (pz_gt (ρ 0)) (pz_gN (ρ 0)) (ρ 1 / 4))) = 1 := pz_wd1 F160
  have hw : ρ 2 / 4 = pz_wix (pz_gt (ρ 0)) (pz_gN (ρ 0)) (pz_p (pz_cf (pz_gt (ρ 0)) (pz_gN (ρ 0)) (ρ 1 / 4))) := F151.2.2.2.2 hk
  have e := pz_wix_3 (k := 6) (by decide) F160
  replace e : pz_wix (pz_gt (ρ 0)) (pz_gN (ρ 0)) (pz_p (pz_cf (pz_gt (ρ 0)) (pz_gN (ρ 0)) (ρ 1 / 4))) = 6 := e
  omega
theorem axq0_md4b_237_6 : ax_RO ax_wM0 (ax_XM 0) axu0_md4b_237_6 := axqg_md4b_237_6 ax_WW0
theorem axqg_md4a_237_5 {w : ax_W} {b : Nat} (hw : ax_WW w) : ax_RO w (ax_XM b) axu0_md4a_237_5 := by
  intro ρ hp hE hT
  have j0 : ρ 0 % 4 = 1 := pz_gj hE 0 (Nat.le_of_ble_eq_true rfl) rfl
  have j1 : ρ 1 % 4 = 1 := pz_gj hE 1 (Nat.le_of_ble_eq_true rfl) rfl
  obtain ⟨i2a, i2b, i2c, i2d⟩ := pz_gi hE 2 0 2147483652 (Nat.le_of_ble_eq_true rfl) rfl
  have c_word : ay_at hp 173 17 = some (ρ 2) := ay_gfj hE 702 68 11 173 17 ax_m2 (ax_vlq rfl rfl) (ax_vlj rfl rfl)
  obtain ⟨-, -, -, -, -, F151⟩ : ay_ex hp 173 ∧ ay_ex hp 173 ∧ ay_ex hp 173 ∧ ay_ex hp 173 ∧ ay_ex hp 173 ∧ pz_y151 (ρ 0) (ρ 1) (ay_at hp 173 13) (ay_at hp 173 14) (ay_at hp 173 15) (ay_at hp 173 16) (ay_at hp 173 17) := (ax_XF_lt (x := 151) (Nat.le_of_ble_eq_true rfl)).mp (ax_gx hE (151, [3, 7]) ax_m0)
  rw [c_word] at F151
  have F160 : pz60 (pz_gt (ρ 0)) (pz_gN (ρ 0)) ((ρ 1) / 4) ((20) / 4) := (ax_XF_lt (x := 160) (Nat.le_of_ble_eq_true rfl)).mp (ax_gx hE (160, [3, 7, 20]) ax_m1)
  exfalso
  have hk : pz_kd (pz_gt (ρ 0)) (pz_gN (ρ 0)) (pz_p (pz_cf (pz_gt (ρ 0)) (pz_gN (ρ 0)) (ρ 1 / 4))) = 1 := pz_wd1 F160
  have hw : ρ 2 / 4 = pz_wix (pz_gt (ρ 0)) (pz_gN (ρ 0)) (pz_p (pz_cf (pz_gt (ρ 0)) (pz_gN (ρ 0)) (ρ 1 / 4))) := F151.2.2.2.2 hk
  have e := pz_wix_3 (k := 5) (by decide) F160
  replace e : pz_wix (pz_gt (ρ 0)) (pz_gN (ρ 0)) (pz_p (pz_cf (pz_gt (ρ 0)) (pz_gN (ρ 0)) (ρ 1 / 4))) = 5 := e
  omega
theorem axq0_md4a_237_5 : ax_RO ax_wM0 (ax_XM 0) axu0_md4a_237_5 := axqg_md4a_237_5 ax_WW0
theorem axqg_md4b_237_5 {w : ax_W} {b : Nat} (hw : ax_WW w) : ax_RO w (ax_XM b) axu0_md4b_237_5 := by
  intro ρ hp hE hT
  have j0 : ρ 0 % 4 = 1 := pz_gj hE 0 (Nat.le_of_ble_eq_true rfl) rfl
  have j1 : ρ 1 % 4 = 1 := pz_gj hE 1 (Nat.le_of_ble_eq_true rfl) rfl
  obtain ⟨i2a, i2b, i2c, i2d⟩ := pz_gi hE 2 2147483654 4294967295 (Nat.le_of_ble_eq_true rfl) rfl
  have c_word : ay_at hp 173 17 = some (ρ 2) := ay_gfj hE 702 68 11 173 17 ax_m2 (ax_vlq rfl rfl) (ax_vlj rfl rfl)
  obtain ⟨-, -, -, -, -, F151⟩ : ay_ex hp 173 ∧ ay_ex hp 173 ∧ ay_ex hp 173 ∧ ay_ex hp 173 ∧ ay_ex hp 173 ∧ pz_y151 (ρ 0) (ρ 1) (ay_at hp 173 13) (ay_at hp 173 14) (ay_at hp 173 15) (ay_at hp 173 16) (ay_at hp 173 17) := (ax_XF_lt (x := 151) (Nat.le_of_ble_eq_true rfl)).mp (ax_gx hE (151, [3, 7]) ax_m0)
  rw [c_word] at F151
  have F160 : pz60 (pz_gt (ρ 0)) (pz_gN (ρ 0)) ((ρ 1) / 4) ((20) / 4) := (ax_XF_lt (x := 160) (Nat.le_of_ble_eq_true rfl)).mp (ax_gx hE (160, [3, 7, 20]) ax_m1)
  exfalso
  have hk : pz_kd (pz_gt (ρ 0)) (pz_gN (ρ 0)) (pz_p (pz_cf (pz_gt (ρ 0)) (pz_gN (ρ 0)) (ρ 1 / 4))) = 1 := pz_wd1 F160
  have hw : ρ 2 / 4 = pz_wix (pz_gt (ρ 0)) (pz_gN (ρ 0)) (pz_p (pz_cf (pz_gt (ρ 0)) (pz_gN (ρ 0)) (ρ 1 / 4))) := F151.2.2.2.2 hk
  have e := pz_wix_3 (k := 5) (by decide) F160
  replace e : pz_wix (pz_gt (ρ 0)) (pz_gN (ρ 0)) (pz_p (pz_cf (pz_gt (ρ 0)) (pz_gN (ρ 0)) (ρ 1 / 4))) = 5 := e
  omega
theorem axq0_md4b_237_5 : ax_RO ax_wM0 (ax_XM 0) axu0_md4b_237_5 := axqg_md4b_237_5 ax_WW0
theorem axq0_mv3 : ax_RO ax_wM0 (ax_XM 0) axu0_mv3 := by
  intro ρ hp hE hT
  have j0 : ρ 0 % 4 = 1 := pz_gj hE 0 (Nat.le_of_ble_eq_true rfl) rfl
  have j1 : ρ 1 % 4 = 1 := pz_gj hE 1 (Nat.le_of_ble_eq_true rfl) rfl
  have j2 : ρ 2 % 4 = 1 := pz_gj hE 2 (Nat.le_of_ble_eq_true rfl) rfl
  have j3 : ρ 3 % 4 = 1 := pz_gj hE 3 (Nat.le_of_ble_eq_true rfl) rfl
  have j4 : ρ 4 % 4 = 1 := pz_gj hE 4 (Nat.le_of_ble_eq_true rfl) rfl
  have j5 : ρ 5 % 4 = 1 := pz_gj hE 5 (Nat.le_of_ble_eq_true rfl) rfl
  obtain ⟨-, -, -, -, -, F151⟩ : ay_ex hp 173 ∧ ay_ex hp 173 ∧ ay_ex hp 173 ∧ ay_ex hp 173 ∧ ay_ex hp 173 ∧ pz_y151 (ρ 0) (ρ 1) (ay_at hp 173 13) (ay_at hp 173 14) (ay_at hp 173 15) (ay_at hp 173 16) (ay_at hp 173 17) := (ax_XF_lt (x := 151) (Nat.le_of_ble_eq_true rfl)).mp (ax_gx hE (151, [3, 7]) ax_m0)
  have F247 : py_247 (pz_gt (ρ 0)) (pz_gN (ρ 0)) ((ρ 1) / 4) (ρ 2) (ρ 3) := (ax_XF_lt (x := 247) (Nat.le_of_ble_eq_true rfl)).mp (ax_gx hE (247, [3, 7, 11, 15]) ax_m1)
  have F253 : py_253 (ρ 2) (ρ 3) (ρ 4) (ρ 5) := (ax_XF_lt (x := 253) (Nat.le_of_ble_eq_true rfl)).mp (ax_gx hE (253, [11, 15, 19, 23]) ax_m2)
  obtain ⟨-, -, F242⟩ : ay_ex hp 173 ∧ ay_ex hp 185 ∧ py_y242 (ρ 4) (ay_at hp 173 27) (ay_at hp 185) := (ax_XF_lt (x := 242) (Nat.le_of_ble_eq_true rfl)).mp (ax_gx hE (242, [19]) ax_m3)
  obtain ⟨-, -, F241⟩ : ay_ex hp 180 ∧ ay_ex hp 182 ∧ py_y241 1 (ρ 5) (ay_at hp 180 1) (ay_at hp 182) := (ax_XF_lt (x := 241) (Nat.le_of_ble_eq_true rfl)).mp (ax_gx hE (241, [23]) ax_m4)
  refine ⟨(fun y hy => by cases hy), _, List.mem_cons_self, ρ, fun _ _ => rfl, ax_px hE rfl (fun x hx => ?_)⟩
  cases List.mem_singleton.mp hx
  refine (ax_XF_lt (x := 246) (Nat.le_of_ble_eq_true rfl)).mpr ?_
  show py_y246 (pz_gt (ρ 0)) (pz_gN (ρ 0)) ((ρ 1) / 4) (ρ 4) (ρ 5)
  exact pm_cq5 F247 F253

theorem axqg_mv4_40 {w : ax_W} {b : Nat} (hw : ax_WW w) : ax_RO w (ax_XM b) axu0_mv4_40 := by
  intro ρ hp hE hT
  have j0 : ρ 0 % 4 = 1 := pz_gj hE 0 (Nat.le_of_ble_eq_true rfl) rfl
  have j1 : ρ 1 % 4 = 1 := pz_gj hE 1 (Nat.le_of_ble_eq_true rfl) rfl
  have j2 : ρ 2 % 4 = 1 := pz_gj hE 2 (Nat.le_of_ble_eq_true rfl) rfl
  have j3 : ρ 3 % 4 = 1 := pz_gj hE 3 (Nat.le_of_ble_eq_true rfl) rfl
  have j4 : ρ 4 % 4 = 1 := pz_gj hE 4 (Nat.le_of_ble_eq_true rfl) rfl
  obtain ⟨-, -, -, -, -, F151⟩ : ay_ex hp 173 ∧ ay_ex hp 173 ∧ ay_ex hp 173 ∧ ay_ex hp 173 ∧ ay_ex hp 173 ∧ pz_y151 (ρ 0) (ρ 1) (ay_at hp 173 13) (ay_at hp 173 14) (ay_at hp 173 15) (ay_at hp 173 16) (ay_at hp 173 17) := (ax_XF_lt (x := 151) (Nat.le_of_ble_eq_true rfl)).mp (ax_gx hE (151, [3, 7]) ax_m0)
  have F182 : (ρ 2) / 4 = (ρ 1) / 4 + 1 := (ax_XF_lt (x := 182) (Nat.le_of_ble_eq_true rfl)).mp (ax_gx hE (182, [7, 11]) ax_m1)
  have F178 : pz7 (pz_gt (ρ 0)) (pz_gN (ρ 0)) ((ρ 1) / 4) 8 := (ax_XF_lt (x := 178) (Nat.le_of_ble_eq_true rfl)).mp (ax_gx hE (178, [3, 7]) ax_m2)
  have F207 : pz107 (pz_gt (ρ 0)) (pz_gN (ρ 0)) ((ρ 1) / 4) ((160) / 4) := (ax_XF_lt (x := 207) (Nat.le_of_ble_eq_true rfl)).mp (ax_gx hE (207, [3, 7, 160]) ax_m3)
  have F246 : py_y246 (pz_gt (ρ 0)) (pz_gN (ρ 0)) ((ρ 1) / 4) (ρ 3) (ρ 4) := (ax_XF_lt (x := 246) (Nat.le_of_ble_eq_true rfl)).mp (ax_gx hE (246, [3, 7, 15, 19]) ax_m4)
  refine ⟨(fun y hy => by cases hy), _, List.mem_cons_self, ρ, fun _ _ => rfl, ax_px hE rfl (fun x hx => ?_)⟩
  cases List.mem_singleton.mp hx
  refine (ax_XF_lt (x := 258) (Nat.le_of_ble_eq_true rfl)).mpr ?_
  show py_258 (pz_gt (ρ 0)) (pz_gN (ρ 0)) ((ρ 2) / 4) (4036) (ρ 3) (ρ 4)
  exact pm_mvO F178 (pr_k40 F207) F182 F246
theorem axq0_mv4_40 : ax_RO ax_wM0 (ax_XM 0) axu0_mv4_40 := axqg_mv4_40 ax_WW0
theorem axqg_mv5_40 {w : ax_W} {b : Nat} (hw : ax_WW w) : ax_RO w (ax_XM b) axu0_mv5_40 := by
  intro ρ hp hE hT
  have j0 : ρ 0 % 4 = 1 := pz_gj hE 0 (Nat.le_of_ble_eq_true rfl) rfl
  have j1 : ρ 1 % 4 = 1 := pz_gj hE 1 (Nat.le_of_ble_eq_true rfl) rfl
  have j2 : ρ 2 % 4 = 1 := pz_gj hE 2 (Nat.le_of_ble_eq_true rfl) rfl
  have j3 : ρ 3 % 4 = 1 := pz_gj hE 3 (Nat.le_of_ble_eq_true rfl) rfl
  have j4 : ρ 4 % 4 = 1 := pz_gj hE 4 (Nat.le_of_ble_eq_true rfl) rfl
  obtain ⟨-, -, -, -, -, F151⟩ : ay_ex hp 173 ∧ ay_ex hp 173 ∧ ay_ex hp 173 ∧ ay_ex hp 173 ∧ ay_ex hp 173 ∧ pz_y151 (ρ 0) (ρ 1) (ay_at hp 173 13) (ay_at hp 173 14) (ay_at hp 173 15) (ay_at hp 173 16) (ay_at hp 173 17) := (ax_XF_lt (x := 151) (Nat.le_of_ble_eq_true rfl)).mp (ax_gx hE (151, [3, 7]) ax_m0)
  have F258 : py_258 (pz_gt (ρ 0)) (pz_gN (ρ 0)) ((ρ 1) / 4) (4036) (ρ 2) (ρ 4) := (ax_XF_lt (x := 258) (Nat.le_of_ble_eq_true rfl)).mp (ax_gx hE (258, [3, 7, 4036, 11, 19]) ax_m1)
  obtain ⟨-, -, F242⟩ : ay_ex hp 173 ∧ ay_ex hp 185 ∧ py_y242 (ρ 3) (ay_at hp 173 27) (ay_at hp 185) := (ax_XF_lt (x := 242) (Nat.le_of_ble_eq_true rfl)).mp (ax_gx hE (242, [15]) ax_m2)
  have F251 : py_251 (ρ 3) (4036) (ρ 2) := (ax_XF_lt (x := 251) (Nat.le_of_ble_eq_true rfl)).mp (ax_gx hE (251, [15, 4036, 11]) ax_m3)
  refine ⟨(fun y hy => by cases hy), _, List.mem_cons_self, ρ, fun _ _ => rfl, ax_px hE rfl (fun x hx => ?_)⟩
  cases List.mem_singleton.mp hx
  refine (ax_XF_lt (x := 246) (Nat.le_of_ble_eq_true rfl)).mpr ?_
  show py_y246 (pz_gt (ρ 0)) (pz_gN (ρ 0)) ((ρ 1) / 4) (ρ 3) (ρ 4)
  exact pm_mv5 F258 F251
theorem axq0_mv5_40 : ax_RO ax_wM0 (ax_XM 0) axu0_mv5_40 := axqg_mv5_40 ax_WW0
theorem axqg_mv4_5 {w : ax_W} {b : Nat} (hw : ax_WW w) : ax_RO w (ax_XM b) axu0_mv4_5 := by
  intro ρ hp hE hT
  have j0 : ρ 0 % 4 = 1 := pz_gj hE 0 (Nat.le_of_ble_eq_true rfl) rfl
  have j1 : ρ 1 % 4 = 1 := pz_gj hE 1 (Nat.le_of_ble_eq_true rfl) rfl
  have j2 : ρ 2 % 4 = 1 := pz_gj hE 2 (Nat.le_of_ble_eq_true rfl) rfl
  have j3 : ρ 3 % 4 = 1 := pz_gj hE 3 (Nat.le_of_ble_eq_true rfl) rfl
  have j4 : ρ 4 % 4 = 1 := pz_gj hE 4 (Nat.le_of_ble_eq_true rfl) rfl
  obtain ⟨-, -, -, -, -, F151⟩ : ay_ex hp 173 ∧ ay_ex hp 173 ∧ ay_ex hp 173 ∧ ay_ex hp 173 ∧ ay_ex hp 173 ∧ pz_y151 (ρ 0) (ρ 1) (ay_at hp 173 13) (ay_at hp 173 14) (ay_at hp 173 15) (ay_at hp 173 16) (ay_at hp 173 17) := (ax_XF_lt (x := 151) (Nat.le_of_ble_eq_true rfl)).mp (ax_gx hE (151, [3, 7]) ax_m0)
  have F182 : (ρ 2) / 4 = (ρ 1) / 4 + 1 := (ax_XF_lt (x := 182) (Nat.le_of_ble_eq_true rfl)).mp (ax_gx hE (182, [7, 11]) ax_m1)
  have F178 : pz7 (pz_gt (ρ 0)) (pz_gN (ρ 0)) ((ρ 1) / 4) 8 := (ax_XF_lt (x := 178) (Nat.le_of_ble_eq_true rfl)).mp (ax_gx hE (178, [3, 7]) ax_m2)
  have F207 : pz107 (pz_gt (ρ 0)) (pz_gN (ρ 0)) ((ρ 1) / 4) ((20) / 4) := (ax_XF_lt (x := 207) (Nat.le_of_ble_eq_true rfl)).mp (ax_gx hE (207, [3, 7, 20]) ax_m3)
  have F246 : py_y246 (pz_gt (ρ 0)) (pz_gN (ρ 0)) ((ρ 1) / 4) (ρ 3) (ρ 4) := (ax_XF_lt (x := 246) (Nat.le_of_ble_eq_true rfl)).mp (ax_gx hE (246, [3, 7, 15, 19]) ax_m4)
  refine ⟨(fun y hy => by cases hy), _, List.mem_cons_self, ρ, fun _ _ => rfl, ax_px hE rfl (fun x hx => ?_)⟩
  cases List.mem_singleton.mp hx
  refine (ax_XF_lt (x := 258) (Nat.le_of_ble_eq_true rfl)).mpr ?_
  show py_258 (pz_gt (ρ 0)) (pz_gN (ρ 0)) ((ρ 2) / 4) (4032) (ρ 3) (ρ 4)
  exact pm_mvM F178 (pr_k5 F207) F182 F246
theorem axq0_mv4_5 : ax_RO ax_wM0 (ax_XM 0) axu0_mv4_5 := axqg_mv4_5 ax_WW0
theorem axqg_mv5_5 {w : ax_W} {b : Nat} (hw : ax_WW w) : ax_RO w (ax_XM b) axu0_mv5_5 := by
  intro ρ hp hE hT
  have j0 : ρ 0 % 4 = 1 := pz_gj hE 0 (Nat.le_of_ble_eq_true rfl) rfl
  have j1 : ρ 1 % 4 = 1 := pz_gj hE 1 (Nat.le_of_ble_eq_true rfl) rfl
  have j2 : ρ 2 % 4 = 1 := pz_gj hE 2 (Nat.le_of_ble_eq_true rfl) rfl
  have j3 : ρ 3 % 4 = 1 := pz_gj hE 3 (Nat.le_of_ble_eq_true rfl) rfl
  have j4 : ρ 4 % 4 = 1 := pz_gj hE 4 (Nat.le_of_ble_eq_true rfl) rfl
  obtain ⟨-, -, -, -, -, F151⟩ : ay_ex hp 173 ∧ ay_ex hp 173 ∧ ay_ex hp 173 ∧ ay_ex hp 173 ∧ ay_ex hp 173 ∧ pz_y151 (ρ 0) (ρ 1) (ay_at hp 173 13) (ay_at hp 173 14) (ay_at hp 173 15) (ay_at hp 173 16) (ay_at hp 173 17) := (ax_XF_lt (x := 151) (Nat.le_of_ble_eq_true rfl)).mp (ax_gx hE (151, [3, 7]) ax_m0)
  have F258 : py_258 (pz_gt (ρ 0)) (pz_gN (ρ 0)) ((ρ 1) / 4) (4032) (ρ 2) (ρ 4) := (ax_XF_lt (x := 258) (Nat.le_of_ble_eq_true rfl)).mp (ax_gx hE (258, [3, 7, 4032, 11, 19]) ax_m1)
  obtain ⟨-, -, F242⟩ : ay_ex hp 173 ∧ ay_ex hp 185 ∧ py_y242 (ρ 3) (ay_at hp 173 27) (ay_at hp 185) := (ax_XF_lt (x := 242) (Nat.le_of_ble_eq_true rfl)).mp (ax_gx hE (242, [15]) ax_m2)
  have F251 : py_251 (ρ 3) (4032) (ρ 2) := (ax_XF_lt (x := 251) (Nat.le_of_ble_eq_true rfl)).mp (ax_gx hE (251, [15, 4032, 11]) ax_m3)
  refine ⟨(fun y hy => by cases hy), _, List.mem_cons_self, ρ, fun _ _ => rfl, ax_px hE rfl (fun x hx => ?_)⟩
  cases List.mem_singleton.mp hx
  refine (ax_XF_lt (x := 246) (Nat.le_of_ble_eq_true rfl)).mpr ?_
  show py_y246 (pz_gt (ρ 0)) (pz_gN (ρ 0)) ((ρ 1) / 4) (ρ 3) (ρ 4)
  exact pm_mv5 F258 F251
theorem axq0_mv5_5 : ax_RO ax_wM0 (ax_XM 0) axu0_mv5_5 := axqg_mv5_5 ax_WW0
theorem axqg_bn_43 {w : ax_W} {b : Nat} (hw : ax_WW w) : ax_RO w (ax_XM b) axu0_bn_43 := by
  intro ρ hp hE hT
  have j0 : ρ 0 % 4 = 1 := pz_gj hE 0 (Nat.le_of_ble_eq_true rfl) rfl
  have j1 : ρ 1 % 4 = 1 := pz_gj hE 1 (Nat.le_of_ble_eq_true rfl) rfl
  have F168 : pz_kd (pz_gt (ρ 0)) (pz_gN (ρ 0)) (pz_p (pz_cF (ρ 0) (ρ 1))) = (172) / 4 := (ax_XF_lt (x := 168) (Nat.le_of_ble_eq_true rfl)).mp (ax_gx hE (168, [3, 7, 172]) ax_m0)
  refine ⟨(fun y hy => by cases hy), _, List.mem_cons_self, ρ, fun _ _ => rfl, ax_px hE rfl (fun x hx => ?_)⟩
  cases List.mem_singleton.mp hx
  refine (ax_XF_lt (x := 198) (Nat.le_of_ble_eq_true rfl)).mpr ?_
  show pz_op (pz_kd (pz_gt (ρ 0)) (pz_gN (ρ 0)) (pz_p (pz_cF (ρ 0) (ρ 1)))) = true
  rw [F168]
  rfl
theorem axq0_bn_43 : ax_RO ax_wM0 (ax_XM 0) axu0_bn_43 := axqg_bn_43 ax_WW0
theorem axqg_bn_45 {w : ax_W} {b : Nat} (hw : ax_WW w) : ax_RO w (ax_XM b) axu0_bn_45 := by
  intro ρ hp hE hT
  have j0 : ρ 0 % 4 = 1 := pz_gj hE 0 (Nat.le_of_ble_eq_true rfl) rfl
  have j1 : ρ 1 % 4 = 1 := pz_gj hE 1 (Nat.le_of_ble_eq_true rfl) rfl
  have F168 : pz_kd (pz_gt (ρ 0)) (pz_gN (ρ 0)) (pz_p (pz_cF (ρ 0) (ρ 1))) = (180) / 4 := (ax_XF_lt (x := 168) (Nat.le_of_ble_eq_true rfl)).mp (ax_gx hE (168, [3, 7, 180]) ax_m0)
  refine ⟨(fun y hy => by cases hy), _, List.mem_cons_self, ρ, fun _ _ => rfl, ax_px hE rfl (fun x hx => ?_)⟩
  cases List.mem_singleton.mp hx
  refine (ax_XF_lt (x := 198) (Nat.le_of_ble_eq_true rfl)).mpr ?_
  show pz_op (pz_kd (pz_gt (ρ 0)) (pz_gN (ρ 0)) (pz_p (pz_cF (ρ 0) (ρ 1)))) = true
  rw [F168]
  rfl
theorem axq0_bn_45 : ax_RO ax_wM0 (ax_XM 0) axu0_bn_45 := axqg_bn_45 ax_WW0
theorem axqg_bn_42 {w : ax_W} {b : Nat} (hw : ax_WW w) : ax_RO w (ax_XM b) axu0_bn_42 := by
  intro ρ hp hE hT
  have j0 : ρ 0 % 4 = 1 := pz_gj hE 0 (Nat.le_of_ble_eq_true rfl) rfl
  have j1 : ρ 1 % 4 = 1 := pz_gj hE 1 (Nat.le_of_ble_eq_true rfl) rfl
  have F168 : pz_kd (pz_gt (ρ 0)) (pz_gN (ρ 0)) (pz_p (pz_cF (ρ 0) (ρ 1))) = (168) / 4 := (ax_XF_lt (x := 168) (Nat.le_of_ble_eq_true rfl)).mp (ax_gx hE (168, [3, 7, 168]) ax_m0)
  refine ⟨(fun y hy => by cases hy), _, List.mem_cons_self, ρ, fun _ _ => rfl, ax_px hE rfl (fun x hx => ?_)⟩
  cases List.mem_singleton.mp hx
  refine (ax_XF_lt (x := 198) (Nat.le_of_ble_eq_true rfl)).mpr ?_
  show pz_op (pz_kd (pz_gt (ρ 0)) (pz_gN (ρ 0)) (pz_p (pz_cF (ρ 0) (ρ 1)))) = true
  rw [F168]
  rfl
theorem axq0_bn_42 : ax_RO ax_wM0 (ax_XM 0) axu0_bn_42 := axqg_bn_42 ax_WW0
theorem axqg_bn_47 {w : ax_W} {b : Nat} (hw : ax_WW w) : ax_RO w (ax_XM b) axu0_bn_47 := by
  intro ρ hp hE hT
  have j0 : ρ 0 % 4 = 1 := pz_gj hE 0 (Nat.le_of_ble_eq_true rfl) rfl
  have j1 : ρ 1 % 4 = 1 := pz_gj hE 1 (Nat.le_of_ble_eq_true rfl) rfl
  have F168 : pz_kd (pz_gt (ρ 0)) (pz_gN (ρ 0)) (pz_p (pz_cF (ρ 0) (ρ 1))) = (188) / 4 := (ax_XF_lt (x := 168) (Nat.le_of_ble_eq_true rfl)).mp (ax_gx hE (168, [3, 7, 188]) ax_m0)
  refine ⟨(fun y hy => by cases hy), _, List.mem_cons_self, ρ, fun _ _ => rfl, ax_px hE rfl (fun x hx => ?_)⟩
  cases List.mem_singleton.mp hx
  refine (ax_XF_lt (x := 198) (Nat.le_of_ble_eq_true rfl)).mpr ?_
  show pz_op (pz_kd (pz_gt (ρ 0)) (pz_gN (ρ 0)) (pz_p (pz_cF (ρ 0) (ρ 1)))) = true
  rw [F168]
  rfl
theorem axq0_bn_47 : ax_RO ax_wM0 (ax_XM 0) axu0_bn_47 := axqg_bn_47 ax_WW0
theorem axqg_bn_37 {w : ax_W} {b : Nat} (hw : ax_WW w) : ax_RO w (ax_XM b) axu0_bn_37 := by
  intro ρ hp hE hT
  have j0 : ρ 0 % 4 = 1 := pz_gj hE 0 (Nat.le_of_ble_eq_true rfl) rfl
  have j1 : ρ 1 % 4 = 1 := pz_gj hE 1 (Nat.le_of_ble_eq_true rfl) rfl
  have F168 : pz_kd (pz_gt (ρ 0)) (pz_gN (ρ 0)) (pz_p (pz_cF (ρ 0) (ρ 1))) = (148) / 4 := (ax_XF_lt (x := 168) (Nat.le_of_ble_eq_true rfl)).mp (ax_gx hE (168, [3, 7, 148]) ax_m0)
  refine ⟨(fun y hy => by cases hy), _, List.mem_cons_self, ρ, fun _ _ => rfl, ax_px hE rfl (fun x hx => ?_)⟩
  cases List.mem_singleton.mp hx
  refine (ax_XF_lt (x := 198) (Nat.le_of_ble_eq_true rfl)).mpr ?_
  show pz_op (pz_kd (pz_gt (ρ 0)) (pz_gN (ρ 0)) (pz_p (pz_cF (ρ 0) (ρ 1)))) = true
  rw [F168]
  rfl
theorem axq0_bn_37 : ax_RO ax_wM0 (ax_XM 0) axu0_bn_37 := axqg_bn_37 ax_WW0
theorem axqg_bnD {w : ax_W} {b : Nat} (hw : ax_WW w) : ax_RO w (ax_XM b) axu0_bnD := by
  intro ρ hp hE hT
  have j0 : ρ 0 % 4 = 1 := pz_gj hE 0 (Nat.le_of_ble_eq_true rfl) rfl
  have j1 : ρ 1 % 4 = 1 := pz_gj hE 1 (Nat.le_of_ble_eq_true rfl) rfl
  have F198 : pz_op (pz_kd (pz_gt (ρ 0)) (pz_gN (ρ 0)) (pz_p (pz_cF (ρ 0) (ρ 1)))) = true := (ax_XF_lt (x := 198) (Nat.le_of_ble_eq_true rfl)).mp (ax_gx hE (198, [3, 7]) ax_m0)
  have F169 : pz_kd (pz_gt (ρ 0)) (pz_gN (ρ 0)) (pz_p (pz_cF (ρ 0) (ρ 1))) ≠ (172) / 4 := (ax_XF_lt (x := 169) (Nat.le_of_ble_eq_true rfl)).mp (ax_gx hE (169, [3, 7, 172]) ax_m1)
  have F169a : pz_kd (pz_gt (ρ 0)) (pz_gN (ρ 0)) (pz_p (pz_cF (ρ 0) (ρ 1))) ≠ (180) / 4 := (ax_XF_lt (x := 169) (Nat.le_of_ble_eq_true rfl)).mp (ax_gx hE (169, [3, 7, 180]) ax_m2)
  have F169b : pz_kd (pz_gt (ρ 0)) (pz_gN (ρ 0)) (pz_p (pz_cF (ρ 0) (ρ 1))) ≠ (168) / 4 := (ax_XF_lt (x := 169) (Nat.le_of_ble_eq_true rfl)).mp (ax_gx hE (169, [3, 7, 168]) ax_m3)
  have F169c : pz_kd (pz_gt (ρ 0)) (pz_gN (ρ 0)) (pz_p (pz_cF (ρ 0) (ρ 1))) ≠ (188) / 4 := (ax_XF_lt (x := 169) (Nat.le_of_ble_eq_true rfl)).mp (ax_gx hE (169, [3, 7, 188]) ax_m4)
  have F169d : pz_kd (pz_gt (ρ 0)) (pz_gN (ρ 0)) (pz_p (pz_cF (ρ 0) (ρ 1))) ≠ (148) / 4 := (ax_XF_lt (x := 169) (Nat.le_of_ble_eq_true rfl)).mp (ax_gx hE (169, [3, 7, 148]) ax_m5)
  exfalso
  have e := pz_op_no (show _ ≠ 43 from F169) (show _ ≠ 45 from F169a) ⟨show _ ≠ 42 from F169b, show _ ≠ 47 from F169c, show _ ≠ 37 from F169d⟩
  rw [e] at F198
  cases F198
theorem axq0_bnD : ax_RO ax_wM0 (ax_XM 0) axu0_bnD := axqg_bnD ax_WW0
theorem axqg_bnN {w : ax_W} {b : Nat} (hw : ax_WW w) : ax_RO w (ax_XM b) axu0_bnN := by
  intro ρ hp hE hT
  have j0 : ρ 0 % 4 = 1 := pz_gj hE 0 (Nat.le_of_ble_eq_true rfl) rfl
  have j1 : ρ 1 % 4 = 1 := pz_gj hE 1 (Nat.le_of_ble_eq_true rfl) rfl
  obtain ⟨-, -, -, -, -, F151⟩ : ay_ex hp 173 ∧ ay_ex hp 173 ∧ ay_ex hp 173 ∧ ay_ex hp 173 ∧ ay_ex hp 173 ∧ pz_y151 (ρ 0) (ρ 1) (ay_at hp 173 13) (ay_at hp 173 14) (ay_at hp 173 15) (ay_at hp 173 16) (ay_at hp 173 17) := (ax_XF_lt (x := 151) (Nat.le_of_ble_eq_true rfl)).mp (ax_gx hE (151, [3, 7]) ax_m0)
  have F169 : pz_kd (pz_gt (ρ 0)) (pz_gN (ρ 0)) (pz_p (pz_cF (ρ 0) (ρ 1))) ≠ (172) / 4 := (ax_XF_lt (x := 169) (Nat.le_of_ble_eq_true rfl)).mp (ax_gx hE (169, [3, 7, 172]) ax_m1)
  have F169a : pz_kd (pz_gt (ρ 0)) (pz_gN (ρ 0)) (pz_p (pz_cF (ρ 0) (ρ 1))) ≠ (180) / 4 := (ax_XF_lt (x := 169) (Nat.le_of_ble_eq_true rfl)).mp (ax_gx hE (169, [3, 7, 180]) ax_m2)
  have F169b : pz_kd (pz_gt (ρ 0)) (pz_gN (ρ 0)) (pz_p (pz_cF (ρ 0) (ρ 1))) ≠ (168) / 4 := (ax_XF_lt (x := 169) (Nat.le_of_ble_eq_true rfl)).mp (ax_gx hE (169, [3, 7, 168]) ax_m3)
  have F169c : pz_kd (pz_gt (ρ 0)) (pz_gN (ρ 0)) (pz_p (pz_cF (ρ 0) (ρ 1))) ≠ (188) / 4 := (ax_XF_lt (x := 169) (Nat.le_of_ble_eq_true rfl)).mp (ax_gx hE (169, [3, 7, 188]) ax_m4)
  have F169d : pz_kd (pz_gt (ρ 0)) (pz_gN (ρ 0)) (pz_p (pz_cF (ρ 0) (ρ 1))) ≠ (148) / 4 := (ax_XF_lt (x := 169) (Nat.le_of_ble_eq_true rfl)).mp (ax_gx hE (169, [3, 7, 148]) ax_m5)
  refine ⟨(fun y hy => by cases hy), _, List.mem_cons_self, ρ, fun _ _ => rfl, ax_px hE rfl (fun x hx => ?_)⟩
  cases List.mem_singleton.mp hx
  refine (ax_XF_lt (x := 194) (Nat.le_of_ble_eq_true rfl)).mpr ?_
  show pz94 (pz_gt (ρ 0)) (pz_gN (ρ 0)) ((ρ 1) / 4)
  exact pz_op_no (show _ ≠ 43 from F169) (show _ ≠ 45 from F169a) ⟨show _ ≠ 42 from F169b, show _ ≠ 47 from F169c, show _ ≠ 37 from F169d⟩
theorem axq0_bnN : ax_RO ax_wM0 (ax_XM 0) axu0_bnN := axqg_bnN ax_WW0
theorem axqg_bm_43 {w : ax_W} {b : Nat} (hw : ax_WW w) : ax_RO w (ax_XM b) axu0_bm_43 := by
  intro ρ hp hE hT
  have j0 : ρ 0 % 4 = 1 := pz_gj hE 0 (Nat.le_of_ble_eq_true rfl) rfl
  have j1 : ρ 1 % 4 = 1 := pz_gj hE 1 (Nat.le_of_ble_eq_true rfl) rfl
  obtain ⟨-, -, -, -, -, F151⟩ : ay_ex hp 173 ∧ ay_ex hp 173 ∧ ay_ex hp 173 ∧ ay_ex hp 173 ∧ ay_ex hp 173 ∧ pz_y151 (ρ 0) (ρ 1) (ay_at hp 173 13) (ay_at hp 173 14) (ay_at hp 173 15) (ay_at hp 173 16) (ay_at hp 173 17) := (ax_XF_lt (x := 151) (Nat.le_of_ble_eq_true rfl)).mp (ax_gx hE (151, [3, 7]) ax_m0)
  have F168 : pz_kd (pz_gt (ρ 0)) (pz_gN (ρ 0)) (pz_p (pz_cF (ρ 0) (ρ 1))) = (172) / 4 := (ax_XF_lt (x := 168) (Nat.le_of_ble_eq_true rfl)).mp (ax_gx hE (168, [3, 7, 172]) ax_m1)
  refine ⟨(fun y hy => by cases hy), _, List.mem_cons_self, ρ, fun _ _ => rfl, ax_px hE rfl (fun x hx => ?_)⟩
  cases List.mem_singleton.mp hx
  refine (ax_XF_lt (x := 259) (Nat.le_of_ble_eq_true rfl)).mpr ?_
  show (4012) / 4 = py_op (pz_kd (pz_gt (ρ 0)) (pz_gN (ρ 0)) (pz_p (pz_cF (ρ 0) (ρ 1))))
  rw [F168]
  rfl
theorem axq0_bm_43 : ax_RO ax_wM0 (ax_XM 0) axu0_bm_43 := axqg_bm_43 ax_WW0
theorem axqg_bm_45 {w : ax_W} {b : Nat} (hw : ax_WW w) : ax_RO w (ax_XM b) axu0_bm_45 := by
  intro ρ hp hE hT
  have j0 : ρ 0 % 4 = 1 := pz_gj hE 0 (Nat.le_of_ble_eq_true rfl) rfl
  have j1 : ρ 1 % 4 = 1 := pz_gj hE 1 (Nat.le_of_ble_eq_true rfl) rfl
  obtain ⟨-, -, -, -, -, F151⟩ : ay_ex hp 173 ∧ ay_ex hp 173 ∧ ay_ex hp 173 ∧ ay_ex hp 173 ∧ ay_ex hp 173 ∧ pz_y151 (ρ 0) (ρ 1) (ay_at hp 173 13) (ay_at hp 173 14) (ay_at hp 173 15) (ay_at hp 173 16) (ay_at hp 173 17) := (ax_XF_lt (x := 151) (Nat.le_of_ble_eq_true rfl)).mp (ax_gx hE (151, [3, 7]) ax_m0)
  have F168 : pz_kd (pz_gt (ρ 0)) (pz_gN (ρ 0)) (pz_p (pz_cF (ρ 0) (ρ 1))) = (180) / 4 := (ax_XF_lt (x := 168) (Nat.le_of_ble_eq_true rfl)).mp (ax_gx hE (168, [3, 7, 180]) ax_m1)
  refine ⟨(fun y hy => by cases hy), _, List.mem_cons_self, ρ, fun _ _ => rfl, ax_px hE rfl (fun x hx => ?_)⟩
  cases List.mem_singleton.mp hx
  refine (ax_XF_lt (x := 259) (Nat.le_of_ble_eq_true rfl)).mpr ?_
  show (4016) / 4 = py_op (pz_kd (pz_gt (ρ 0)) (pz_gN (ρ 0)) (pz_p (pz_cF (ρ 0) (ρ 1))))
  rw [F168]
  rfl
theorem axq0_bm_45 : ax_RO ax_wM0 (ax_XM 0) axu0_bm_45 := axqg_bm_45 ax_WW0
theorem axqg_bm_42 {w : ax_W} {b : Nat} (hw : ax_WW w) : ax_RO w (ax_XM b) axu0_bm_42 := by
  intro ρ hp hE hT
  have j0 : ρ 0 % 4 = 1 := pz_gj hE 0 (Nat.le_of_ble_eq_true rfl) rfl
  have j1 : ρ 1 % 4 = 1 := pz_gj hE 1 (Nat.le_of_ble_eq_true rfl) rfl
  obtain ⟨-, -, -, -, -, F151⟩ : ay_ex hp 173 ∧ ay_ex hp 173 ∧ ay_ex hp 173 ∧ ay_ex hp 173 ∧ ay_ex hp 173 ∧ pz_y151 (ρ 0) (ρ 1) (ay_at hp 173 13) (ay_at hp 173 14) (ay_at hp 173 15) (ay_at hp 173 16) (ay_at hp 173 17) := (ax_XF_lt (x := 151) (Nat.le_of_ble_eq_true rfl)).mp (ax_gx hE (151, [3, 7]) ax_m0)
  have F168 : pz_kd (pz_gt (ρ 0)) (pz_gN (ρ 0)) (pz_p (pz_cF (ρ 0) (ρ 1))) = (168) / 4 := (ax_XF_lt (x := 168) (Nat.le_of_ble_eq_true rfl)).mp (ax_gx hE (168, [3, 7, 168]) ax_m1)
  refine ⟨(fun y hy => by cases hy), _, List.mem_cons_self, ρ, fun _ _ => rfl, ax_px hE rfl (fun x hx => ?_)⟩
  cases List.mem_singleton.mp hx
  refine (ax_XF_lt (x := 259) (Nat.le_of_ble_eq_true rfl)).mpr ?_
  show (4020) / 4 = py_op (pz_kd (pz_gt (ρ 0)) (pz_gN (ρ 0)) (pz_p (pz_cF (ρ 0) (ρ 1))))
  rw [F168]
  rfl
theorem axq0_bm_42 : ax_RO ax_wM0 (ax_XM 0) axu0_bm_42 := axqg_bm_42 ax_WW0
theorem axqg_bm_47 {w : ax_W} {b : Nat} (hw : ax_WW w) : ax_RO w (ax_XM b) axu0_bm_47 := by
  intro ρ hp hE hT
  have j0 : ρ 0 % 4 = 1 := pz_gj hE 0 (Nat.le_of_ble_eq_true rfl) rfl
  have j1 : ρ 1 % 4 = 1 := pz_gj hE 1 (Nat.le_of_ble_eq_true rfl) rfl
  obtain ⟨-, -, -, -, -, F151⟩ : ay_ex hp 173 ∧ ay_ex hp 173 ∧ ay_ex hp 173 ∧ ay_ex hp 173 ∧ ay_ex hp 173 ∧ pz_y151 (ρ 0) (ρ 1) (ay_at hp 173 13) (ay_at hp 173 14) (ay_at hp 173 15) (ay_at hp 173 16) (ay_at hp 173 17) := (ax_XF_lt (x := 151) (Nat.le_of_ble_eq_true rfl)).mp (ax_gx hE (151, [3, 7]) ax_m0)
  have F168 : pz_kd (pz_gt (ρ 0)) (pz_gN (ρ 0)) (pz_p (pz_cF (ρ 0) (ρ 1))) = (188) / 4 := (ax_XF_lt (x := 168) (Nat.le_of_ble_eq_true rfl)).mp (ax_gx hE (168, [3, 7, 188]) ax_m1)
  refine ⟨(fun y hy => by cases hy), _, List.mem_cons_self, ρ, fun _ _ => rfl, ax_px hE rfl (fun x hx => ?_)⟩
  cases List.mem_singleton.mp hx
  refine (ax_XF_lt (x := 259) (Nat.le_of_ble_eq_true rfl)).mpr ?_
  show (4024) / 4 = py_op (pz_kd (pz_gt (ρ 0)) (pz_gN (ρ 0)) (pz_p (pz_cF (ρ 0) (ρ 1))))
  rw [F168]
  rfl
theorem axq0_bm_47 : ax_RO ax_wM0 (ax_XM 0) axu0_bm_47 := axqg_bm_47 ax_WW0
theorem axqg_bm_37 {w : ax_W} {b : Nat} (hw : ax_WW w) : ax_RO w (ax_XM b) axu0_bm_37 := by
  intro ρ hp hE hT
  have j0 : ρ 0 % 4 = 1 := pz_gj hE 0 (Nat.le_of_ble_eq_true rfl) rfl
  have j1 : ρ 1 % 4 = 1 := pz_gj hE 1 (Nat.le_of_ble_eq_true rfl) rfl
  obtain ⟨-, -, -, -, -, F151⟩ : ay_ex hp 173 ∧ ay_ex hp 173 ∧ ay_ex hp 173 ∧ ay_ex hp 173 ∧ ay_ex hp 173 ∧ pz_y151 (ρ 0) (ρ 1) (ay_at hp 173 13) (ay_at hp 173 14) (ay_at hp 173 15) (ay_at hp 173 16) (ay_at hp 173 17) := (ax_XF_lt (x := 151) (Nat.le_of_ble_eq_true rfl)).mp (ax_gx hE (151, [3, 7]) ax_m0)
  have F168 : pz_kd (pz_gt (ρ 0)) (pz_gN (ρ 0)) (pz_p (pz_cF (ρ 0) (ρ 1))) = (148) / 4 := (ax_XF_lt (x := 168) (Nat.le_of_ble_eq_true rfl)).mp (ax_gx hE (168, [3, 7, 148]) ax_m1)
  refine ⟨(fun y hy => by cases hy), _, List.mem_cons_self, ρ, fun _ _ => rfl, ax_px hE rfl (fun x hx => ?_)⟩
  cases List.mem_singleton.mp hx
  refine (ax_XF_lt (x := 259) (Nat.le_of_ble_eq_true rfl)).mpr ?_
  show (4028) / 4 = py_op (pz_kd (pz_gt (ρ 0)) (pz_gN (ρ 0)) (pz_p (pz_cF (ρ 0) (ρ 1))))
  rw [F168]
  rfl
theorem axq0_bm_37 : ax_RO ax_wM0 (ax_XM 0) axu0_bm_37 := axqg_bm_37 ax_WW0
theorem axq0_mb1 : ax_RO ax_wM0 (ax_XM 0) axu0_mb1 := by
  intro ρ hp hE hT
  have j0 : ρ 0 % 4 = 1 := pz_gj hE 0 (Nat.le_of_ble_eq_true rfl) rfl
  have j1 : ρ 1 % 4 = 1 := pz_gj hE 1 (Nat.le_of_ble_eq_true rfl) rfl
  have j2 : ρ 2 % 4 = 1 := pz_gj hE 2 (Nat.le_of_ble_eq_true rfl) rfl
  obtain ⟨-, -, -, -, -, F151⟩ : ay_ex hp 173 ∧ ay_ex hp 173 ∧ ay_ex hp 173 ∧ ay_ex hp 173 ∧ ay_ex hp 173 ∧ pz_y151 (ρ 0) (ρ 1) (ay_at hp 173 13) (ay_at hp 173 14) (ay_at hp 173 15) (ay_at hp 173 16) (ay_at hp 173 17) := (ax_XF_lt (x := 151) (Nat.le_of_ble_eq_true rfl)).mp (ax_gx hE (151, [3, 7]) ax_m0)
  obtain ⟨-, -, -, -, -, -, -, -, -, -, -, F152⟩ : ay_ex hp 175 ∧ ay_ex hp 176 ∧ ay_ex hp 177 ∧ ay_ex hp 178 ∧ ay_ex hp 179 ∧ ay_ex hp 173 ∧ ay_ex hp 173 ∧ ay_ex hp 173 ∧ ay_ex hp 173 ∧ ay_ex hp 173 ∧ ay_ex hp 181 ∧ pz_y152 1 (ρ 0) (ρ 1) (ay_at hp 175 1) (ay_at hp 176 1) (ay_at hp 177 1) (ay_at hp 178 1) (ay_at hp 179 1) (ay_at hp 173 23) (ay_at hp 173 25) (ay_at hp 173 24) (ay_at hp 173 18) (ay_at hp 173 19) (ay_at hp 181) := (ax_XF_lt (x := 152) (Nat.le_of_ble_eq_true rfl)).mp (ax_gx hE (152, [3, 7]) ax_m1)
  have F179 : pz7 (pz_gt (ρ 0)) (pz_gN (ρ 0)) ((ρ 1) / 4) 9 := (ax_XF_lt (x := 179) (Nat.le_of_ble_eq_true rfl)).mp (ax_gx hE (179, [3, 7]) ax_m2)
  have F190 : (pz90 (pz_gt (ρ 0)) (pz_gN (ρ 0)) ((ρ 1) / 4) ((ρ 2) / 4) ∧ 1 ≤ (ρ 2) / 4) := (ax_XF_lt (x := 190) (Nat.le_of_ble_eq_true rfl)).mp (ax_gx hE (190, [3, 7, 11]) ax_m3)
  have F198 : pz_op (pz_kd (pz_gt (ρ 0)) (pz_gN (ρ 0)) (pz_p (pz_cF (ρ 0) (ρ 1)))) = true := (ax_XF_lt (x := 198) (Nat.le_of_ble_eq_true rfl)).mp (ax_gx hE (198, [3, 7]) ax_m4)
  have st := pq_op (pz_m50 F151 F152) F179 F190.1 F198
  obtain ⟨ρ', h1, h2⟩ := pz_pn1 (K := ρ 1 / 4 + 1) (xf := [(153, [3, 15]), (182, [7, 15]), (152, [3, 15]), (178, [3, 15]), (190, [3, 15, 11])]) hE (by decide) (fun ρ' h1 h2 x hx => by
    have q0 : ρ' 0 = ρ 0 := h1 0 (by decide)
    have q1 : ρ' 1 = ρ 1 := h1 1 (by decide)
    have q2 : ρ' 2 = ρ 2 := h1 2 (by decide)
    rcases List.mem_cons.mp hx with e | hx
    · subst e
      refine (ax_XF_lt (x := 153) (Nat.le_of_ble_eq_true rfl)).mpr ?_
      show ay_ex hp 173 ∧ pz_at (pz_gt (ρ' 0)) (pz_gN (ρ' 0)) (ay_ln (ay_at hp 173 13)) = pz_at (pz_gt (ρ' 0)) (pz_gN (ρ' 0)) (pz_p (pz_cF (ρ' 0) (ρ' 3)))
      rw [q0, h2]
      refine ⟨(ax_cellT hT (q := 173) (g := 11) ax_cg_173), ?_⟩
      exact pz_l153 (pz_41 _) st.1.1
    rcases List.mem_cons.mp hx with e | hx
    · subst e
      refine (ax_XF_lt (x := 182) (Nat.le_of_ble_eq_true rfl)).mpr ?_
      show (ρ' 3) / 4 = (ρ' 1) / 4 + 1
      rw [q1, h2]
      rw [pz_41]
    rcases List.mem_cons.mp hx with e | hx
    · subst e
      refine (ax_XF_lt (x := 152) (Nat.le_of_ble_eq_true rfl)).mpr ?_
      show ay_ex hp 175 ∧ ay_ex hp 176 ∧ ay_ex hp 177 ∧ ay_ex hp 178 ∧ ay_ex hp 179 ∧ ay_ex hp 173 ∧ ay_ex hp 173 ∧ ay_ex hp 173 ∧ ay_ex hp 173 ∧ ay_ex hp 173 ∧ ay_ex hp 181 ∧ pz_y152 1 (ρ' 0) (ρ' 3) (ay_at hp 175 1) (ay_at hp 176 1) (ay_at hp 177 1) (ay_at hp 178 1) (ay_at hp 179 1) (ay_at hp 173 23) (ay_at hp 173 25) (ay_at hp 173 24) (ay_at hp 173 18) (ay_at hp 173 19) (ay_at hp 181)
      rw [q0, h2]
      refine ⟨(ax_cellT hT (q := 175) (g := 45) ax_cg_175), (ax_cellT hT (q := 176) (g := 46) ax_cg_176), (ax_cellT hT (q := 177) (g := 47) ax_cg_177), (ax_cellT hT (q := 178) (g := 48) ax_cg_178), (ax_cellT hT (q := 179) (g := 49) ax_cg_179), (ax_cellT hT (q := 173) (g := 11) ax_cg_173), (ax_cellT hT (q := 173) (g := 11) ax_cg_173), (ax_cellT hT (q := 173) (g := 11) ax_cg_173), (ax_cellT hT (q := 173) (g := 11) ax_cg_173), (ax_cellT hT (q := 173) (g := 11) ax_cg_173), (ax_cellT hT (q := 181) (g := 51) ax_cg_181), ?_⟩
      exact pz_l152 (pz_41 _) st.1.2
    rcases List.mem_cons.mp hx with e | hx
    · subst e
      refine (ax_XF_lt (x := 178) (Nat.le_of_ble_eq_true rfl)).mpr ?_
      show pz7 (pz_gt (ρ' 0)) (pz_gN (ρ' 0)) ((ρ' 3) / 4) 8
      rw [q0, h2]
      rw [pz_41]
      exact st.2.1
    cases List.mem_singleton.mp hx
    refine (ax_XF_lt (x := 190) (Nat.le_of_ble_eq_true rfl)).mpr ?_
    show (pz90 (pz_gt (ρ' 0)) (pz_gN (ρ' 0)) ((ρ' 3) / 4) ((ρ' 2) / 4) ∧ 1 ≤ (ρ' 2) / 4)
    rw [q0, q2, h2]
    exact ⟨pz_l197 (pz_41 _) st.2.2, F190.2⟩)
  exact ⟨(fun y hy => by cases hy), _, List.mem_cons_self, ρ', h1, h2⟩

theorem axq0_mc0 : ax_RO ax_wM0 (ax_XM 0) axu0_mc0 := by
  intro ρ hp hE hT
  have j0 : ρ 0 % 4 = 1 := pz_gj hE 0 (Nat.le_of_ble_eq_true rfl) rfl
  have j1 : ρ 1 % 4 = 1 := pz_gj hE 1 (Nat.le_of_ble_eq_true rfl) rfl
  obtain ⟨i2a, i2b, i2c, i2d⟩ := pz_gi hE 2 2147484651 2147484655 (Nat.le_of_ble_eq_true rfl) rfl
  obtain ⟨-, -, F242⟩ : ay_ex hp 173 ∧ ay_ex hp 185 ∧ py_y242 (ρ 0) (ay_at hp 173 27) (ay_at hp 185) := (ax_XF_lt (x := 242) (Nat.le_of_ble_eq_true rfl)).mp (ax_gx hE (242, [3]) ax_m0)
  obtain ⟨-, -, F241⟩ : ay_ex hp 180 ∧ ay_ex hp 182 ∧ py_y241 1 (ρ 1) (ay_at hp 180 1) (ay_at hp 182) := (ax_XF_lt (x := 241) (Nat.le_of_ble_eq_true rfl)).mp (ax_gx hE (241, [7]) ax_m1)
  refine ⟨(fun y hy => by cases hy), _, List.mem_cons_self, ρ, fun _ _ => rfl, ax_px hE rfl (fun x hx => ?_)⟩
  cases List.mem_singleton.mp hx
  refine (ax_XF_lt (x := 250) (Nat.le_of_ble_eq_true rfl)).mpr ?_
  show py_250 (ρ 2) (ρ 0) (ρ 1) (ρ 0) (ρ 1)
  exact (rfl : py_pop _ _ _ = _)

theorem axqg_mc1 {w : ax_W} {b : Nat} (hw : ax_WW w) : ax_RO w (ax_XM b) axu0_mc1 := by
  intro ρ hp hE hT
  have j0 : ρ 0 % 4 = 1 := pz_gj hE 0 (Nat.le_of_ble_eq_true rfl) rfl
  obtain ⟨i1a, i1b, i1c, i1d⟩ := pz_gi hE 1 2147483648 2147483747 (Nat.le_of_ble_eq_true rfl) rfl
  obtain ⟨i2a, i2b, i2c, i2d⟩ := pz_gi hE 2 2147483649 2147483748 (Nat.le_of_ble_eq_true rfl) rfl
  obtain ⟨i3a, i3b, i3c, i3d⟩ := pz_gi hE 3 2147484651 2147484655 (Nat.le_of_ble_eq_true rfl) rfl
  have c_opened : ay_at hp 173 27 = some (ρ 2) := ay_gfj hE 702 108 11 173 27 ax_m1 (ax_vlq rfl rfl) (ax_vlj rfl rfl)
  have s1 : (ρ 1 / 4 + 2147483648) % 4294967296 + (4 / 4 + 2147483648) % 4294967296 = (ρ 2 / 4 + 2147483648) % 4294967296 + 2147483648 := pz_gs hE 7 4 11 ax_m2
  have c_open : ay_at hp 185 (ρ 1 / 4) = some (ρ 3) := ay_gf hE 750 7 15 185 ax_m3 (ax_vlq rfl rfl)
  obtain ⟨-, -, F242⟩ : ay_ex hp 173 ∧ ay_ex hp 185 ∧ py_y242 (ρ 0) (ay_at hp 173 27) (ay_at hp 185) := (ax_XF_lt (x := 242) (Nat.le_of_ble_eq_true rfl)).mp (ax_gx hE (242, [3]) ax_m0)
  rw [c_opened] at F242
  obtain ⟨c, T, t1, t2, t3, t4, t5, t6, t7⟩ := py_take (o := ρ 1 / 4) F242 (show ρ 2 / 4 = ρ 1 / 4 + 1 by omega)
  rw [c_open] at t3
  have te := Option.some.inj t3
  have tk : c = ρ 3 / 4 := by omega
  refine ⟨(fun y hy => by cases hy), _, List.mem_cons_self, ρ, fun _ _ => rfl, ax_px hE rfl (fun x hx => ?_)⟩
  cases List.mem_singleton.mp hx
  refine (ax_XF_lt (x := 256) (Nat.le_of_ble_eq_true rfl)).mpr ?_
  show py_256 (ρ 0) (ρ 3)
  exact ⟨T, by rw [t1, tk]⟩
theorem axq0_mc1 : ax_RO ax_wM0 (ax_XM 0) axu0_mc1 := axqg_mc1 ax_WW0
theorem axq0_mc2a : ax_RO ax_wM0 (ax_XM 0) axu0_mc2a := by
  intro ρ hp hE hT
  have j0 : ρ 0 % 4 = 1 := pz_gj hE 0 (Nat.le_of_ble_eq_true rfl) rfl
  have j1 : ρ 1 % 4 = 1 := pz_gj hE 1 (Nat.le_of_ble_eq_true rfl) rfl
  have j2 : ρ 2 % 4 = 1 := pz_gj hE 2 (Nat.le_of_ble_eq_true rfl) rfl
  have j3 : ρ 3 % 4 = 1 := pz_gj hE 3 (Nat.le_of_ble_eq_true rfl) rfl
  have j4 : ρ 4 % 4 = 1 := pz_gj hE 4 (Nat.le_of_ble_eq_true rfl) rfl
  have j5 : ρ 5 % 4 = 1 := pz_gj hE 5 (Nat.le_of_ble_eq_true rfl) rfl
  obtain ⟨i6a, i6b, i6c, i6d⟩ := pz_gi hE 6 2147484651 2147484652 (Nat.le_of_ble_eq_true rfl) rfl
  obtain ⟨i7a, i7b, i7c, i7d⟩ := pz_gi hE 7 2147484651 2147484655 (Nat.le_of_ble_eq_true rfl) rfl
  obtain ⟨i8a, i8b, i8c, i8d⟩ := pz_gi hE 8 2147484651 2147484655 (Nat.le_of_ble_eq_true rfl) rfl
  obtain ⟨-, -, F242⟩ : ay_ex hp 173 ∧ ay_ex hp 185 ∧ py_y242 (ρ 4) (ay_at hp 173 27) (ay_at hp 185) := (ax_XF_lt (x := 242) (Nat.le_of_ble_eq_true rfl)).mp (ax_gx hE (242, [19]) ax_m0)
  obtain ⟨-, -, F241⟩ : ay_ex hp 180 ∧ ay_ex hp 182 ∧ py_y241 1 (ρ 5) (ay_at hp 180 1) (ay_at hp 182) := (ax_XF_lt (x := 241) (Nat.le_of_ble_eq_true rfl)).mp (ax_gx hE (241, [23]) ax_m1)
  have F251 : py_251 (ρ 2) (ρ 7) (ρ 4) := (ax_XF_lt (x := 251) (Nat.le_of_ble_eq_true rfl)).mp (ax_gx hE (251, [11, 31, 19]) ax_m2)
  have F251a : py_251 (ρ 5) (ρ 7) (ρ 3) := (ax_XF_lt (x := 251) (Nat.le_of_ble_eq_true rfl)).mp (ax_gx hE (251, [23, 31, 15]) ax_m3)
  have F256 : py_256 (ρ 2) (ρ 8) := (ax_XF_lt (x := 256) (Nat.le_of_ble_eq_true rfl)).mp (ax_gx hE (256, [11, 35]) ax_m4)
  have F250 : py_250 (ρ 6) (ρ 0) (ρ 1) (ρ 2) (ρ 3) := (ax_XF_lt (x := 250) (Nat.le_of_ble_eq_true rfl)).mp (ax_gx hE (250, [27, 3, 7, 11, 15]) ax_m5)
  refine ⟨(fun y hy => by cases hy), _, List.mem_cons_self, ρ, fun _ _ => rfl, ax_px hE rfl (fun x hx => ?_)⟩
  cases List.mem_singleton.mp hx
  refine (ax_XF_lt (x := 250) (Nat.le_of_ble_eq_true rfl)).mpr ?_
  show py_250 (ρ 6) (ρ 0) (ρ 1) (ρ 4) (ρ 5)
  exact pm_cq1 F250 F251 F251a (by rw [py_bd_a (c := ρ 6 / 4) (by omega) (by omega)]; exact py_bd_1 (by omega) (by omega))

theorem axq0_mc2b : ax_RO ax_wM0 (ax_XM 0) axu0_mc2b := by
  intro ρ hp hE hT
  have j0 : ρ 0 % 4 = 1 := pz_gj hE 0 (Nat.le_of_ble_eq_true rfl) rfl
  have j1 : ρ 1 % 4 = 1 := pz_gj hE 1 (Nat.le_of_ble_eq_true rfl) rfl
  have j2 : ρ 2 % 4 = 1 := pz_gj hE 2 (Nat.le_of_ble_eq_true rfl) rfl
  have j3 : ρ 3 % 4 = 1 := pz_gj hE 3 (Nat.le_of_ble_eq_true rfl) rfl
  have j4 : ρ 4 % 4 = 1 := pz_gj hE 4 (Nat.le_of_ble_eq_true rfl) rfl
  have j5 : ρ 5 % 4 = 1 := pz_gj hE 5 (Nat.le_of_ble_eq_true rfl) rfl
  obtain ⟨i6a, i6b, i6c, i6d⟩ := pz_gi hE 6 2147484653 2147484655 (Nat.le_of_ble_eq_true rfl) rfl
  obtain ⟨i7a, i7b, i7c, i7d⟩ := pz_gi hE 7 2147484651 2147484655 (Nat.le_of_ble_eq_true rfl) rfl
  obtain ⟨i8a, i8b, i8c, i8d⟩ := pz_gi hE 8 2147484653 2147484655 (Nat.le_of_ble_eq_true rfl) rfl
  obtain ⟨-, -, F242⟩ : ay_ex hp 173 ∧ ay_ex hp 185 ∧ py_y242 (ρ 4) (ay_at hp 173 27) (ay_at hp 185) := (ax_XF_lt (x := 242) (Nat.le_of_ble_eq_true rfl)).mp (ax_gx hE (242, [19]) ax_m0)
  obtain ⟨-, -, F241⟩ : ay_ex hp 180 ∧ ay_ex hp 182 ∧ py_y241 1 (ρ 5) (ay_at hp 180 1) (ay_at hp 182) := (ax_XF_lt (x := 241) (Nat.le_of_ble_eq_true rfl)).mp (ax_gx hE (241, [23]) ax_m1)
  have F251 : py_251 (ρ 2) (ρ 7) (ρ 4) := (ax_XF_lt (x := 251) (Nat.le_of_ble_eq_true rfl)).mp (ax_gx hE (251, [11, 31, 19]) ax_m2)
  have F251a : py_251 (ρ 5) (ρ 7) (ρ 3) := (ax_XF_lt (x := 251) (Nat.le_of_ble_eq_true rfl)).mp (ax_gx hE (251, [23, 31, 15]) ax_m3)
  have F256 : py_256 (ρ 2) (ρ 8) := (ax_XF_lt (x := 256) (Nat.le_of_ble_eq_true rfl)).mp (ax_gx hE (256, [11, 35]) ax_m4)
  have F250 : py_250 (ρ 6) (ρ 0) (ρ 1) (ρ 2) (ρ 3) := (ax_XF_lt (x := 250) (Nat.le_of_ble_eq_true rfl)).mp (ax_gx hE (250, [27, 3, 7, 11, 15]) ax_m5)
  have e := pm_mc2 F251 F256
  refine ⟨(fun y hy => by cases hy), _, List.mem_cons_self, ρ, fun _ _ => rfl, ax_px hE rfl (fun x hx => ?_)⟩
  cases List.mem_singleton.mp hx
  refine (ax_XF_lt (x := 250) (Nat.le_of_ble_eq_true rfl)).mpr ?_
  show py_250 (ρ 6) (ρ 0) (ρ 1) (ρ 4) (ρ 5)
  exact pm_cq1 F250 F251 F251a (by rw [py_bd_b (c := ρ 6 / 4) (by omega) (by omega), py_bd_b (c := ρ 7 / 4) (by omega) (by omega)]; exact Nat.le_refl 2)

theorem axq0_mc3 : ax_RO ax_wM0 (ax_XM 0) axu0_mc3 := by
  intro ρ hp hE hT
  have j0 : ρ 0 % 4 = 1 := pz_gj hE 0 (Nat.le_of_ble_eq_true rfl) rfl
  have j1 : ρ 1 % 4 = 1 := pz_gj hE 1 (Nat.le_of_ble_eq_true rfl) rfl
  have j2 : ρ 2 % 4 = 1 := pz_gj hE 2 (Nat.le_of_ble_eq_true rfl) rfl
  have j3 : ρ 3 % 4 = 1 := pz_gj hE 3 (Nat.le_of_ble_eq_true rfl) rfl
  obtain ⟨i4a, i4b, i4c, i4d⟩ := pz_gi hE 4 2147483648 2147483648 (Nat.le_of_ble_eq_true rfl) rfl
  obtain ⟨i5a, i5b, i5c, i5d⟩ := pz_gi hE 5 2147484651 2147484655 (Nat.le_of_ble_eq_true rfl) rfl
  have c_opened : ay_at hp 173 27 = some (ρ 4) := ay_gfj hE 702 108 19 173 27 ax_m3 (ax_vlq rfl rfl) (ax_vlj rfl rfl)
  obtain ⟨-, -, F242⟩ : ay_ex hp 173 ∧ ay_ex hp 185 ∧ py_y242 (ρ 2) (ay_at hp 173 27) (ay_at hp 185) := (ax_XF_lt (x := 242) (Nat.le_of_ble_eq_true rfl)).mp (ax_gx hE (242, [11]) ax_m0)
  rw [c_opened] at F242
  obtain ⟨-, -, F241⟩ : ay_ex hp 180 ∧ ay_ex hp 182 ∧ py_y241 1 (ρ 3) (ay_at hp 180 1) (ay_at hp 182) := (ax_XF_lt (x := 241) (Nat.le_of_ble_eq_true rfl)).mp (ax_gx hE (241, [15]) ax_m1)
  have F250 : py_250 (ρ 5) (ρ 0) (ρ 1) (ρ 2) (ρ 3) := (ax_XF_lt (x := 250) (Nat.le_of_ble_eq_true rfl)).mp (ax_gx hE (250, [23, 3, 7, 11, 15]) ax_m2)
  refine ⟨(fun y hy => by cases hy), _, List.mem_cons_self, ρ, fun _ _ => rfl, ax_px hE rfl (fun x hx => ?_)⟩
  cases List.mem_singleton.mp hx
  refine (ax_XF_lt (x := 260) (Nat.le_of_ble_eq_true rfl)).mpr ?_
  show py_260 (ρ 5) (ρ 0) (ρ 1) (ρ 2) (ρ 3)
  exact pm_mc4 F250 (by rw [py_none F242 (show ρ 4 / 4 = 0 by omega)]; exact (show 0 < _ from py_bd_1 (by omega) (by omega)))

theorem axq0_mc4a : ax_RO ax_wM0 (ax_XM 0) axu0_mc4a := by
  intro ρ hp hE hT
  have j0 : ρ 0 % 4 = 1 := pz_gj hE 0 (Nat.le_of_ble_eq_true rfl) rfl
  have j1 : ρ 1 % 4 = 1 := pz_gj hE 1 (Nat.le_of_ble_eq_true rfl) rfl
  have j2 : ρ 2 % 4 = 1 := pz_gj hE 2 (Nat.le_of_ble_eq_true rfl) rfl
  have j3 : ρ 3 % 4 = 1 := pz_gj hE 3 (Nat.le_of_ble_eq_true rfl) rfl
  obtain ⟨i4a, i4b, i4c, i4d⟩ := pz_gi hE 4 2147483649 2147483748 (Nat.le_of_ble_eq_true rfl) rfl
  obtain ⟨i5a, i5b, i5c, i5d⟩ := pz_gi hE 5 2147483648 2147483747 (Nat.le_of_ble_eq_true rfl) rfl
  obtain ⟨i6a, i6b, i6c, i6d⟩ := pz_gi hE 6 2147484651 2147484652 (Nat.le_of_ble_eq_true rfl) rfl
  obtain ⟨i7a, i7b, i7c, i7d⟩ := pz_gi hE 7 2147484656 2147484657 (Nat.le_of_ble_eq_true rfl) rfl
  have c_opened : ay_at hp 173 27 = some (ρ 4) := ay_gfj hE 702 108 19 173 27 ax_m3 (ax_vlq rfl rfl) (ax_vlj rfl rfl)
  have s1 : (ρ 5 / 4 + 2147483648) % 4294967296 + (4 / 4 + 2147483648) % 4294967296 = (ρ 4 / 4 + 2147483648) % 4294967296 + 2147483648 := pz_gs hE 23 4 19 ax_m4
  have c_open : ay_at hp 185 (ρ 5 / 4) = some (ρ 7) := ay_gf hE 750 23 31 185 ax_m5 (ax_vlq rfl rfl)
  obtain ⟨-, -, F242⟩ : ay_ex hp 173 ∧ ay_ex hp 185 ∧ py_y242 (ρ 2) (ay_at hp 173 27) (ay_at hp 185) := (ax_XF_lt (x := 242) (Nat.le_of_ble_eq_true rfl)).mp (ax_gx hE (242, [11]) ax_m0)
  rw [c_opened] at F242
  obtain ⟨-, -, F241⟩ : ay_ex hp 180 ∧ ay_ex hp 182 ∧ py_y241 1 (ρ 3) (ay_at hp 180 1) (ay_at hp 182) := (ax_XF_lt (x := 241) (Nat.le_of_ble_eq_true rfl)).mp (ax_gx hE (241, [15]) ax_m1)
  have F250 : py_250 (ρ 6) (ρ 0) (ρ 1) (ρ 2) (ρ 3) := (ax_XF_lt (x := 250) (Nat.le_of_ble_eq_true rfl)).mp (ax_gx hE (250, [27, 3, 7, 11, 15]) ax_m2)
  obtain ⟨c, T, t1, t2, t3, t4, t5, t6, t7⟩ := py_take (o := ρ 5 / 4) F242 (show ρ 4 / 4 = ρ 5 / 4 + 1 by omega)
  rw [c_open] at t3
  have te := Option.some.inj t3
  have tk : c = ρ 7 / 4 := by omega
  refine ⟨(fun y hy => by cases hy), _, List.mem_cons_self, ρ, fun _ _ => rfl, ax_px hE rfl (fun x hx => ?_)⟩
  cases List.mem_singleton.mp hx
  refine (ax_XF_lt (x := 260) (Nat.le_of_ble_eq_true rfl)).mpr ?_
  show py_260 (ρ 6) (ρ 0) (ρ 1) (ρ 2) (ρ 3)
  exact pm_mc4 F250 (by rw [t1]; show py_bd c < _; rw [tk, py_bd_c (by omega) (by omega)]; exact py_bd_1 (by omega) (by omega))

theorem axq0_mc4b : ax_RO ax_wM0 (ax_XM 0) axu0_mc4b := by
  intro ρ hp hE hT
  have j0 : ρ 0 % 4 = 1 := pz_gj hE 0 (Nat.le_of_ble_eq_true rfl) rfl
  have j1 : ρ 1 % 4 = 1 := pz_gj hE 1 (Nat.le_of_ble_eq_true rfl) rfl
  have j2 : ρ 2 % 4 = 1 := pz_gj hE 2 (Nat.le_of_ble_eq_true rfl) rfl
  have j3 : ρ 3 % 4 = 1 := pz_gj hE 3 (Nat.le_of_ble_eq_true rfl) rfl
  obtain ⟨i4a, i4b, i4c, i4d⟩ := pz_gi hE 4 2147483649 2147483748 (Nat.le_of_ble_eq_true rfl) rfl
  obtain ⟨i5a, i5b, i5c, i5d⟩ := pz_gi hE 5 2147483648 2147483747 (Nat.le_of_ble_eq_true rfl) rfl
  obtain ⟨i6a, i6b, i6c, i6d⟩ := pz_gi hE 6 2147484653 2147484655 (Nat.le_of_ble_eq_true rfl) rfl
  obtain ⟨i7a, i7b, i7c, i7d⟩ := pz_gi hE 7 2147484651 2147484652 (Nat.le_of_ble_eq_true rfl) rfl
  have c_opened : ay_at hp 173 27 = some (ρ 4) := ay_gfj hE 702 108 19 173 27 ax_m3 (ax_vlq rfl rfl) (ax_vlj rfl rfl)
  have s1 : (ρ 5 / 4 + 2147483648) % 4294967296 + (4 / 4 + 2147483648) % 4294967296 = (ρ 4 / 4 + 2147483648) % 4294967296 + 2147483648 := pz_gs hE 23 4 19 ax_m4
  have c_open : ay_at hp 185 (ρ 5 / 4) = some (ρ 7) := ay_gf hE 750 23 31 185 ax_m5 (ax_vlq rfl rfl)
  obtain ⟨-, -, F242⟩ : ay_ex hp 173 ∧ ay_ex hp 185 ∧ py_y242 (ρ 2) (ay_at hp 173 27) (ay_at hp 185) := (ax_XF_lt (x := 242) (Nat.le_of_ble_eq_true rfl)).mp (ax_gx hE (242, [11]) ax_m0)
  rw [c_opened] at F242
  obtain ⟨-, -, F241⟩ : ay_ex hp 180 ∧ ay_ex hp 182 ∧ py_y241 1 (ρ 3) (ay_at hp 180 1) (ay_at hp 182) := (ax_XF_lt (x := 241) (Nat.le_of_ble_eq_true rfl)).mp (ax_gx hE (241, [15]) ax_m1)
  have F250 : py_250 (ρ 6) (ρ 0) (ρ 1) (ρ 2) (ρ 3) := (ax_XF_lt (x := 250) (Nat.le_of_ble_eq_true rfl)).mp (ax_gx hE (250, [27, 3, 7, 11, 15]) ax_m2)
  obtain ⟨c, T, t1, t2, t3, t4, t5, t6, t7⟩ := py_take (o := ρ 5 / 4) F242 (show ρ 4 / 4 = ρ 5 / 4 + 1 by omega)
  rw [c_open] at t3
  have te := Option.some.inj t3
  have tk : c = ρ 7 / 4 := by omega
  refine ⟨(fun y hy => by cases hy), _, List.mem_cons_self, ρ, fun _ _ => rfl, ax_px hE rfl (fun x hx => ?_)⟩
  cases List.mem_singleton.mp hx
  refine (ax_XF_lt (x := 260) (Nat.le_of_ble_eq_true rfl)).mpr ?_
  show py_260 (ρ 6) (ρ 0) (ρ 1) (ρ 2) (ρ 3)
  exact pm_mc4 F250 (by rw [t1]; show py_bd c < _; rw [tk, py_bd_a (by omega) (by omega), py_bd_b (by omega) (by omega)]; decide)

theorem axq0_mc4c : ax_RO ax_wM0 (ax_XM 0) axu0_mc4c := by
  intro ρ hp hE hT
  have j0 : ρ 0 % 4 = 1 := pz_gj hE 0 (Nat.le_of_ble_eq_true rfl) rfl
  have j1 : ρ 1 % 4 = 1 := pz_gj hE 1 (Nat.le_of_ble_eq_true rfl) rfl
  have j2 : ρ 2 % 4 = 1 := pz_gj hE 2 (Nat.le_of_ble_eq_true rfl) rfl
  have j3 : ρ 3 % 4 = 1 := pz_gj hE 3 (Nat.le_of_ble_eq_true rfl) rfl
  obtain ⟨i4a, i4b, i4c, i4d⟩ := pz_gi hE 4 2147483649 2147483748 (Nat.le_of_ble_eq_true rfl) rfl
  obtain ⟨i5a, i5b, i5c, i5d⟩ := pz_gi hE 5 2147483648 2147483747 (Nat.le_of_ble_eq_true rfl) rfl
  obtain ⟨i6a, i6b, i6c, i6d⟩ := pz_gi hE 6 2147484653 2147484655 (Nat.le_of_ble_eq_true rfl) rfl
  obtain ⟨i7a, i7b, i7c, i7d⟩ := pz_gi hE 7 2147484656 2147484657 (Nat.le_of_ble_eq_true rfl) rfl
  have c_opened : ay_at hp 173 27 = some (ρ 4) := ay_gfj hE 702 108 19 173 27 ax_m3 (ax_vlq rfl rfl) (ax_vlj rfl rfl)
  have s1 : (ρ 5 / 4 + 2147483648) % 4294967296 + (4 / 4 + 2147483648) % 4294967296 = (ρ 4 / 4 + 2147483648) % 4294967296 + 2147483648 := pz_gs hE 23 4 19 ax_m4
  have c_open : ay_at hp 185 (ρ 5 / 4) = some (ρ 7) := ay_gf hE 750 23 31 185 ax_m5 (ax_vlq rfl rfl)
  obtain ⟨-, -, F242⟩ : ay_ex hp 173 ∧ ay_ex hp 185 ∧ py_y242 (ρ 2) (ay_at hp 173 27) (ay_at hp 185) := (ax_XF_lt (x := 242) (Nat.le_of_ble_eq_true rfl)).mp (ax_gx hE (242, [11]) ax_m0)
  rw [c_opened] at F242
  obtain ⟨-, -, F241⟩ : ay_ex hp 180 ∧ ay_ex hp 182 ∧ py_y241 1 (ρ 3) (ay_at hp 180 1) (ay_at hp 182) := (ax_XF_lt (x := 241) (Nat.le_of_ble_eq_true rfl)).mp (ax_gx hE (241, [15]) ax_m1)
  have F250 : py_250 (ρ 6) (ρ 0) (ρ 1) (ρ 2) (ρ 3) := (ax_XF_lt (x := 250) (Nat.le_of_ble_eq_true rfl)).mp (ax_gx hE (250, [27, 3, 7, 11, 15]) ax_m2)
  obtain ⟨c, T, t1, t2, t3, t4, t5, t6, t7⟩ := py_take (o := ρ 5 / 4) F242 (show ρ 4 / 4 = ρ 5 / 4 + 1 by omega)
  rw [c_open] at t3
  have te := Option.some.inj t3
  have tk : c = ρ 7 / 4 := by omega
  refine ⟨(fun y hy => by cases hy), _, List.mem_cons_self, ρ, fun _ _ => rfl, ax_px hE rfl (fun x hx => ?_)⟩
  cases List.mem_singleton.mp hx
  refine (ax_XF_lt (x := 260) (Nat.le_of_ble_eq_true rfl)).mpr ?_
  show py_260 (ρ 6) (ρ 0) (ρ 1) (ρ 2) (ρ 3)
  exact pm_mc4 F250 (by rw [t1]; show py_bd c < _; rw [tk, py_bd_c (by omega) (by omega)]; exact py_bd_1 (by omega) (by omega))

theorem axq0_mc5 : ax_RO ax_wM0 (ax_XM 0) axu0_mc5 := by
  intro ρ hp hE hT
  have j0 : ρ 0 % 4 = 1 := pz_gj hE 0 (Nat.le_of_ble_eq_true rfl) rfl
  have j1 : ρ 1 % 4 = 1 := pz_gj hE 1 (Nat.le_of_ble_eq_true rfl) rfl
  have j2 : ρ 2 % 4 = 1 := pz_gj hE 2 (Nat.le_of_ble_eq_true rfl) rfl
  have j3 : ρ 3 % 4 = 1 := pz_gj hE 3 (Nat.le_of_ble_eq_true rfl) rfl
  have j4 : ρ 4 % 4 = 1 := pz_gj hE 4 (Nat.le_of_ble_eq_true rfl) rfl
  have j5 : ρ 5 % 4 = 1 := pz_gj hE 5 (Nat.le_of_ble_eq_true rfl) rfl
  have j6 : ρ 6 % 4 = 1 := pz_gj hE 6 (Nat.le_of_ble_eq_true rfl) rfl
  have j7 : ρ 7 % 4 = 1 := pz_gj hE 7 (Nat.le_of_ble_eq_true rfl) rfl
  obtain ⟨i8a, i8b, i8c, i8d⟩ := pz_gi hE 8 2147484651 2147484655 (Nat.le_of_ble_eq_true rfl) rfl
  obtain ⟨-, -, -, -, -, F151⟩ : ay_ex hp 173 ∧ ay_ex hp 173 ∧ ay_ex hp 173 ∧ ay_ex hp 173 ∧ ay_ex hp 173 ∧ pz_y151 (ρ 0) (ρ 1) (ay_at hp 173 13) (ay_at hp 173 14) (ay_at hp 173 15) (ay_at hp 173 16) (ay_at hp 173 17) := (ax_XF_lt (x := 151) (Nat.le_of_ble_eq_true rfl)).mp (ax_gx hE (151, [3, 7]) ax_m0)
  have F182 : (ρ 2) / 4 = (ρ 1) / 4 + 1 := (ax_XF_lt (x := 182) (Nat.le_of_ble_eq_true rfl)).mp (ax_gx hE (182, [7, 11]) ax_m1)
  have F179 : pz7 (pz_gt (ρ 0)) (pz_gN (ρ 0)) ((ρ 1) / 4) 9 := (ax_XF_lt (x := 179) (Nat.le_of_ble_eq_true rfl)).mp (ax_gx hE (179, [3, 7]) ax_m2)
  have F198 : pz_op (pz_kd (pz_gt (ρ 0)) (pz_gN (ρ 0)) (pz_p (pz_cF (ρ 0) (ρ 1)))) = true := (ax_XF_lt (x := 198) (Nat.le_of_ble_eq_true rfl)).mp (ax_gx hE (198, [3, 7]) ax_m3)
  have F259 : (ρ 8) / 4 = py_op (pz_kd (pz_gt (ρ 0)) (pz_gN (ρ 0)) (pz_p (pz_cF (ρ 0) (ρ 1)))) := (ax_XF_lt (x := 259) (Nat.le_of_ble_eq_true rfl)).mp (ax_gx hE (259, [3, 7, 35]) ax_m4)
  have F246 : py_y246 (pz_gt (ρ 0)) (pz_gN (ρ 0)) ((ρ 1) / 4) (ρ 3) (ρ 4) := (ax_XF_lt (x := 246) (Nat.le_of_ble_eq_true rfl)).mp (ax_gx hE (246, [3, 7, 15, 19]) ax_m5)
  have F260 : py_260 (ρ 8) (ρ 3) (ρ 4) (ρ 5) (ρ 6) := (ax_XF_lt (x := 260) (Nat.le_of_ble_eq_true rfl)).mp (ax_gx hE (260, [35, 15, 19, 23, 27]) ax_m6)
  obtain ⟨-, -, F242⟩ : ay_ex hp 173 ∧ ay_ex hp 185 ∧ py_y242 (ρ 7) (ay_at hp 173 27) (ay_at hp 185) := (ax_XF_lt (x := 242) (Nat.le_of_ble_eq_true rfl)).mp (ax_gx hE (242, [31]) ax_m7)
  obtain ⟨-, -, F241⟩ : ay_ex hp 180 ∧ ay_ex hp 182 ∧ py_y241 1 (ρ 6) (ay_at hp 180 1) (ay_at hp 182) := (ax_XF_lt (x := 241) (Nat.le_of_ble_eq_true rfl)).mp (ax_gx hE (241, [27]) ax_m8)
  have F251 : py_251 (ρ 7) (ρ 8) (ρ 5) := (ax_XF_lt (x := 251) (Nat.le_of_ble_eq_true rfl)).mp (ax_gx hE (251, [31, 35, 23]) ax_m9)
  refine ⟨(fun y hy => by cases hy), _, List.mem_cons_self, ρ, fun _ _ => rfl, ax_px hE rfl (fun x hx => ?_)⟩
  cases List.mem_singleton.mp hx
  refine (ax_XF_lt (x := 246) (Nat.le_of_ble_eq_true rfl)).mpr ?_
  show py_y246 (pz_gt (ρ 0)) (pz_gN (ρ 0)) ((ρ 2) / 4) (ρ 7) (ρ 6)
  exact pm_mc5 F179 F198 F259 F182 F246 F260 F251

theorem axqg_mx0 {w : ax_W} {b : Nat} (hw : ax_WW w) : ax_RO w (ax_XM b) axu0_mx0 := by
  intro ρ hp hE hT
  have j0 : ρ 0 % 4 = 1 := pz_gj hE 0 (Nat.le_of_ble_eq_true rfl) rfl
  have F189 : (ρ 0) / 4 = 1 := (ax_XF_lt (x := 189) (Nat.le_of_ble_eq_true rfl)).mp (ax_gx hE (189, [3]) ax_m0)
  refine ⟨(fun y hy => by cases hy), _, List.mem_cons_self, ρ, fun _ _ => rfl, ax_px hE rfl (fun x hx => ?_)⟩
  cases List.mem_singleton.mp hx
  refine (ax_XF_wr (x := 196) (Nat.le_of_ble_eq_true rfl)).mpr ?_
  show ay_ex (ax_upd hp 702 (108) (0)) 173 ∧ ay_ex (ax_upd hp 702 (108) (0)) 185 ∧ pz_y196 (ρ 0) (ay_at (ax_upd hp 702 (108) (0)) 173 27) (ay_at (ax_upd hp 702 (108) (0)) 185)
  obtain ⟨o0, ho0⟩ := ay_some hT (q := 173) (g := 11) (n := 58) (ax_wc hw ax_cg_173) (ax_wn hw ax_cn_11) (j := 108 / 4) (Nat.le_of_ble_eq_true rfl)
  have u1 : ∀ q, q ≠ 173 → ay_at (ax_upd hp 702 108 (0)) q = ay_at hp q := fun q hq => funext (fun j => ay_upd_ne hT.1 hq j)
  have u2 : ∀ j, ay_at (ax_upd hp 702 108 (0)) 173 j = if j = 27 then some (0) else ay_at hp 173 j := fun j => ay_upd_eq hT.1 rfl ho0 j
  refine ⟨ay_ex_upd hT.1 (ax_cellT hT (q := 173) (g := 11) (ax_wc hw ax_cg_173)), ay_ex_upd hT.1 (ax_cellT hT (q := 185) (g := 55) (ax_wc hw ax_cg_185)), ?_⟩
  rw [u2 27, if_pos rfl, u1 185 (Nat.ne_of_beq_eq_false rfl)]
  exact ⟨F189.symm, fun j hj => absurd (show j + 1 < 0 from hj) (by omega)⟩
theorem axq0_mx0 : ax_RO ax_wM0 (ax_XM 0) axu0_mx0 := axqg_mx0 ax_WW0
theorem axqg_mx1 {w : ax_W} {b : Nat} (hw : ax_WW w) : ax_RO w (ax_XM b) axu0_mx1 := by
  intro ρ hp hE hT
  have j0 : ρ 0 % 4 = 1 := pz_gj hE 0 (Nat.le_of_ble_eq_true rfl) rfl
  have F189 : (ρ 0) / 4 = 1 := (ax_XF_lt (x := 189) (Nat.le_of_ble_eq_true rfl)).mp (ax_gx hE (189, [3]) ax_m0)
  refine ⟨(fun y hy => by cases hy), _, List.mem_cons_self, ρ, fun _ _ => rfl, ax_px hE rfl (fun x hx => ?_)⟩
  cases List.mem_singleton.mp hx
  refine (ax_XF_wr (x := 195) (Nat.le_of_ble_eq_true rfl)).mpr ?_
  show ay_ex (ax_upd hp 702 (112) (0)) 173 ∧ ay_ln (ay_at (ax_upd hp 702 (112) (0)) 173 28) = pz_dp ((ρ 0) / 4)
  obtain ⟨o0, ho0⟩ := ay_some hT (q := 173) (g := 11) (n := 58) (ax_wc hw ax_cg_173) (ax_wn hw ax_cn_11) (j := 112 / 4) (Nat.le_of_ble_eq_true rfl)
  have u1 : ∀ q, q ≠ 173 → ay_at (ax_upd hp 702 112 (0)) q = ay_at hp q := fun q hq => funext (fun j => ay_upd_ne hT.1 hq j)
  have u2 : ∀ j, ay_at (ax_upd hp 702 112 (0)) 173 j = if j = 28 then some (0) else ay_at hp 173 j := fun j => ay_upd_eq hT.1 rfl ho0 j
  refine ⟨ay_ex_upd hT.1 (ax_cellT hT (q := 173) (g := 11) (ax_wc hw ax_cg_173)), ?_⟩
  rw [u2 28, if_pos rfl]
  show 0 / 4 = _
  rw [F189]
  rfl
theorem axq0_mx1 : ax_RO ax_wM0 (ax_XM 0) axu0_mx1 := axqg_mx1 ax_WW0
theorem axqg_mx2 {w : ax_W} {b : Nat} (hw : ax_WW w) : ax_RO w (ax_XM b) axu0_mx2 := by
  intro ρ hp hE hT
  have j0 : ρ 0 % 4 = 1 := pz_gj hE 0 (Nat.le_of_ble_eq_true rfl) rfl
  have j1 : ρ 1 % 4 = 1 := pz_gj hE 1 (Nat.le_of_ble_eq_true rfl) rfl
  have j2 : ρ 2 % 4 = 1 := pz_gj hE 2 (Nat.le_of_ble_eq_true rfl) rfl
  obtain ⟨-, -, -, -, -, F151⟩ : ay_ex hp 173 ∧ ay_ex hp 173 ∧ ay_ex hp 173 ∧ ay_ex hp 173 ∧ ay_ex hp 173 ∧ pz_y151 (ρ 0) (ρ 1) (ay_at hp 173 13) (ay_at hp 173 14) (ay_at hp 173 15) (ay_at hp 173 16) (ay_at hp 173 17) := (ax_XF_lt (x := 151) (Nat.le_of_ble_eq_true rfl)).mp (ax_gx hE (151, [3, 7]) ax_m0)
  have F178 : pz7 (pz_gt (ρ 0)) (pz_gN (ρ 0)) ((ρ 1) / 4) 8 := (ax_XF_lt (x := 178) (Nat.le_of_ble_eq_true rfl)).mp (ax_gx hE (178, [3, 7]) ax_m1)
  have F190 : (pz90 (pz_gt (ρ 0)) (pz_gN (ρ 0)) ((ρ 1) / 4) ((ρ 2) / 4) ∧ 1 ≤ (ρ 2) / 4) := (ax_XF_lt (x := 190) (Nat.le_of_ble_eq_true rfl)).mp (ax_gx hE (190, [3, 7, 11]) ax_m2)
  refine ⟨(fun y hy => by cases hy), _, List.mem_cons_self, ρ, fun _ _ => rfl, ax_px hE rfl (fun x hx => ?_)⟩
  cases List.mem_singleton.mp hx
  refine (ax_XF_lt (x := 180) (Nat.le_of_ble_eq_true rfl)).mpr ?_
  show pz_y180 (ρ 0) (ρ 1) (ρ 2) (4)
  exact ⟨F190.1, F190.2, fun _ => F178, fun z => absurd z (by decide)⟩
theorem axq0_mx2 : ax_RO ax_wM0 (ax_XM 0) axu0_mx2 := axqg_mx2 ax_WW0
theorem axqg_mx3 {w : ax_W} {b : Nat} (hw : ax_WW w) : ax_RO w (ax_XM b) axu0_mx3 := by
  intro ρ hp hE hT
  have j0 : ρ 0 % 4 = 1 := pz_gj hE 0 (Nat.le_of_ble_eq_true rfl) rfl
  have j1 : ρ 1 % 4 = 1 := pz_gj hE 1 (Nat.le_of_ble_eq_true rfl) rfl
  have j2 : ρ 2 % 4 = 1 := pz_gj hE 2 (Nat.le_of_ble_eq_true rfl) rfl
  obtain ⟨i3a, i3b, i3c, i3d⟩ := pz_gi hE 3 2147483649 2147483649 (Nat.le_of_ble_eq_true rfl) rfl
  obtain ⟨-, -, -, -, -, F151⟩ : ay_ex hp 173 ∧ ay_ex hp 173 ∧ ay_ex hp 173 ∧ ay_ex hp 173 ∧ ay_ex hp 173 ∧ pz_y151 (ρ 0) (ρ 1) (ay_at hp 173 13) (ay_at hp 173 14) (ay_at hp 173 15) (ay_at hp 173 16) (ay_at hp 173 17) := (ax_XF_lt (x := 151) (Nat.le_of_ble_eq_true rfl)).mp (ax_gx hE (151, [3, 7]) ax_m0)
  have F180 : pz_y180 (ρ 0) (ρ 1) (ρ 2) (ρ 3) := (ax_XF_lt (x := 180) (Nat.le_of_ble_eq_true rfl)).mp (ax_gx hE (180, [3, 7, 11, 15]) ax_m1)
  refine ⟨(fun y hy => by cases hy), _, List.mem_cons_self, ρ, fun _ _ => rfl, ax_px hE rfl (fun x hx => ?_)⟩
  rcases List.mem_cons.mp hx with e | hx
  · subst e
    refine (ax_XF_lt (x := 178) (Nat.le_of_ble_eq_true rfl)).mpr ?_
    show pz7 (pz_gt (ρ 0)) (pz_gN (ρ 0)) ((ρ 1) / 4) 8
    exact F180.2.2.1 (by omega)
  cases List.mem_singleton.mp hx
  refine (ax_XF_lt (x := 190) (Nat.le_of_ble_eq_true rfl)).mpr ?_
  show (pz90 (pz_gt (ρ 0)) (pz_gN (ρ 0)) ((ρ 1) / 4) ((ρ 2) / 4) ∧ 1 ≤ (ρ 2) / 4)
  exact ⟨F180.1, F180.2.1⟩
theorem axq0_mx3 : ax_RO ax_wM0 (ax_XM 0) axu0_mx3 := axqg_mx3 ax_WW0
theorem axqg_mx4 {w : ax_W} {b : Nat} (hw : ax_WW w) : ax_RO w (ax_XM b) axu0_mx4 := by
  intro ρ hp hE hT
  have j0 : ρ 0 % 4 = 1 := pz_gj hE 0 (Nat.le_of_ble_eq_true rfl) rfl
  have j1 : ρ 1 % 4 = 1 := pz_gj hE 1 (Nat.le_of_ble_eq_true rfl) rfl
  have j2 : ρ 2 % 4 = 1 := pz_gj hE 2 (Nat.le_of_ble_eq_true rfl) rfl
  obtain ⟨i3a, i3b, i3c, i3d⟩ := pz_gi hE 3 2147483648 2147483648 (Nat.le_of_ble_eq_true rfl) rfl
  obtain ⟨-, -, -, -, -, F151⟩ : ay_ex hp 173 ∧ ay_ex hp 173 ∧ ay_ex hp 173 ∧ ay_ex hp 173 ∧ ay_ex hp 173 ∧ pz_y151 (ρ 0) (ρ 1) (ay_at hp 173 13) (ay_at hp 173 14) (ay_at hp 173 15) (ay_at hp 173 16) (ay_at hp 173 17) := (ax_XF_lt (x := 151) (Nat.le_of_ble_eq_true rfl)).mp (ax_gx hE (151, [3, 7]) ax_m0)
  have F180 : pz_y180 (ρ 0) (ρ 1) (ρ 2) (ρ 3) := (ax_XF_lt (x := 180) (Nat.le_of_ble_eq_true rfl)).mp (ax_gx hE (180, [3, 7, 11, 15]) ax_m1)
  refine ⟨(fun y hy => by cases hy), _, List.mem_cons_self, ρ, fun _ _ => rfl, ax_px hE rfl (fun x hx => ?_)⟩
  rcases List.mem_cons.mp hx with e | hx
  · subst e
    refine (ax_XF_lt (x := 179) (Nat.le_of_ble_eq_true rfl)).mpr ?_
    show pz7 (pz_gt (ρ 0)) (pz_gN (ρ 0)) ((ρ 1) / 4) 9
    exact (F180.2.2.2 (by omega)).1
  rcases List.mem_cons.mp hx with e | hx
  · subst e
    refine (ax_XF_lt (x := 190) (Nat.le_of_ble_eq_true rfl)).mpr ?_
    show (pz90 (pz_gt (ρ 0)) (pz_gN (ρ 0)) ((ρ 1) / 4) ((ρ 2) / 4) ∧ 1 ≤ (ρ 2) / 4)
    exact ⟨F180.1, F180.2.1⟩
  cases List.mem_singleton.mp hx
  refine (ax_XF_lt (x := 192) (Nat.le_of_ble_eq_true rfl)).mpr ?_
  show pz_strip ((ρ 2) / 4) = (ρ 2) / 4
  exact (F180.2.2.2 (by omega)).2
theorem axq0_mx4 : ax_RO ax_wM0 (ax_XM 0) axu0_mx4 := axqg_mx4 ax_WW0
theorem axqg_mx5_35 {w : ax_W} {b : Nat} (hw : ax_WW w) : ax_RO w (ax_XM b) axu0_mx5_35 := by
  intro ρ hp hE hT
  have j0 : ρ 0 % 4 = 1 := pz_gj hE 0 (Nat.le_of_ble_eq_true rfl) rfl
  have j1 : ρ 1 % 4 = 1 := pz_gj hE 1 (Nat.le_of_ble_eq_true rfl) rfl
  have j2 : ρ 2 % 4 = 1 := pz_gj hE 2 (Nat.le_of_ble_eq_true rfl) rfl
  obtain ⟨-, -, -, -, -, F151⟩ : ay_ex hp 173 ∧ ay_ex hp 173 ∧ ay_ex hp 173 ∧ ay_ex hp 173 ∧ ay_ex hp 173 ∧ pz_y151 (ρ 0) (ρ 1) (ay_at hp 173 13) (ay_at hp 173 14) (ay_at hp 173 15) (ay_at hp 173 16) (ay_at hp 173 17) := (ax_XF_lt (x := 151) (Nat.le_of_ble_eq_true rfl)).mp (ax_gx hE (151, [3, 7]) ax_m0)
  have F178 : pz7 (pz_gt (ρ 0)) (pz_gN (ρ 0)) ((ρ 1) / 4) 8 := (ax_XF_lt (x := 178) (Nat.le_of_ble_eq_true rfl)).mp (ax_gx hE (178, [3, 7]) ax_m1)
  have F190 : (pz90 (pz_gt (ρ 0)) (pz_gN (ρ 0)) ((ρ 1) / 4) ((ρ 2) / 4) ∧ 1 ≤ (ρ 2) / 4) := (ax_XF_lt (x := 190) (Nat.le_of_ble_eq_true rfl)).mp (ax_gx hE (190, [3, 7, 11]) ax_m2)
  obtain ⟨-, -, F196⟩ : ay_ex hp 173 ∧ ay_ex hp 185 ∧ pz_y196 (ρ 2) (ay_at hp 173 27) (ay_at hp 185) := (ax_XF_lt (x := 196) (Nat.le_of_ble_eq_true rfl)).mp (ax_gx hE (196, [11]) ax_m3)
  refine ⟨(fun y hy => by cases hy), _, List.mem_cons_self, ρ, fun _ _ => rfl, ax_px hE rfl (fun x hx => ?_)⟩
  cases List.mem_singleton.mp hx
  refine (ax_XF_lt (x := 180) (Nat.le_of_ble_eq_true rfl)).mpr ?_
  show pz_y180 (ρ 0) (ρ 1) (ρ 2) (4)
  exact ⟨F190.1, F190.2, fun _ => F178, fun z => absurd z (by decide)⟩
theorem axq0_mx5_35 : ax_RO ax_wM0 (ax_XM 0) axu0_mx5_35 := axqg_mx5_35 ax_WW0
theorem axqg_mx6_35 {w : ax_W} {b : Nat} (hw : ax_WW w) : ax_RO w (ax_XM b) axu0_mx6_35 := by
  intro ρ hp hE hT
  have j0 : ρ 0 % 4 = 1 := pz_gj hE 0 (Nat.le_of_ble_eq_true rfl) rfl
  have j1 : ρ 1 % 4 = 1 := pz_gj hE 1 (Nat.le_of_ble_eq_true rfl) rfl
  have j2 : ρ 2 % 4 = 1 := pz_gj hE 2 (Nat.le_of_ble_eq_true rfl) rfl
  obtain ⟨i3a, i3b, i3c, i3d⟩ := pz_gi hE 3 2147483648 2147483648 (Nat.le_of_ble_eq_true rfl) rfl
  obtain ⟨-, -, -, -, -, F151⟩ : ay_ex hp 173 ∧ ay_ex hp 173 ∧ ay_ex hp 173 ∧ ay_ex hp 173 ∧ ay_ex hp 173 ∧ pz_y151 (ρ 0) (ρ 1) (ay_at hp 173 13) (ay_at hp 173 14) (ay_at hp 173 15) (ay_at hp 173 16) (ay_at hp 173 17) := (ax_XF_lt (x := 151) (Nat.le_of_ble_eq_true rfl)).mp (ax_gx hE (151, [3, 7]) ax_m0)
  have F179 : pz7 (pz_gt (ρ 0)) (pz_gN (ρ 0)) ((ρ 1) / 4) 9 := (ax_XF_lt (x := 179) (Nat.le_of_ble_eq_true rfl)).mp (ax_gx hE (179, [3, 7]) ax_m1)
  have F190 : (pz90 (pz_gt (ρ 0)) (pz_gN (ρ 0)) ((ρ 1) / 4) ((ρ 2) / 4) ∧ 1 ≤ (ρ 2) / 4) := (ax_XF_lt (x := 190) (Nat.le_of_ble_eq_true rfl)).mp (ax_gx hE (190, [3, 7, 11]) ax_m2)
  obtain ⟨-, -, F196⟩ : ay_ex hp 173 ∧ ay_ex hp 185 ∧ pz_y196 (ρ 2) (ay_at hp 173 27) (ay_at hp 185) := (ax_XF_lt (x := 196) (Nat.le_of_ble_eq_true rfl)).mp (ax_gx hE (196, [11]) ax_m3)
  have F192 : pz_strip ((ρ 2) / 4) = (ρ 2) / 4 := (ax_XF_lt (x := 192) (Nat.le_of_ble_eq_true rfl)).mp (ax_gx hE (192, [11, 11]) ax_m4)
  refine ⟨(fun y hy => by cases hy), _, List.mem_cons_self, ρ, fun _ _ => rfl, ax_px hE rfl (fun x hx => ?_)⟩
  cases List.mem_singleton.mp hx
  refine (ax_XF_lt (x := 180) (Nat.le_of_ble_eq_true rfl)).mpr ?_
  show pz_y180 (ρ 0) (ρ 1) (ρ 2) (ρ 3)
  exact ⟨F190.1, F190.2, fun z => absurd z (by omega), fun _ => ⟨F179, F192⟩⟩
theorem axq0_mx6_35 : ax_RO ax_wM0 (ax_XM 0) axu0_mx6_35 := axqg_mx6_35 ax_WW0
theorem axqg_mx6_59 {w : ax_W} {b : Nat} (hw : ax_WW w) : ax_RO w (ax_XM b) axu0_mx6_59 := by
  intro ρ hp hE hT
  have j0 : ρ 0 % 4 = 1 := pz_gj hE 0 (Nat.le_of_ble_eq_true rfl) rfl
  have j1 : ρ 1 % 4 = 1 := pz_gj hE 1 (Nat.le_of_ble_eq_true rfl) rfl
  have j2 : ρ 2 % 4 = 1 := pz_gj hE 2 (Nat.le_of_ble_eq_true rfl) rfl
  obtain ⟨i3a, i3b, i3c, i3d⟩ := pz_gi hE 3 2147483648 2147483648 (Nat.le_of_ble_eq_true rfl) rfl
  obtain ⟨-, -, -, -, -, F151⟩ : ay_ex hp 173 ∧ ay_ex hp 173 ∧ ay_ex hp 173 ∧ ay_ex hp 173 ∧ ay_ex hp 173 ∧ pz_y151 (ρ 0) (ρ 1) (ay_at hp 173 13) (ay_at hp 173 14) (ay_at hp 173 15) (ay_at hp 173 16) (ay_at hp 173 17) := (ax_XF_lt (x := 151) (Nat.le_of_ble_eq_true rfl)).mp (ax_gx hE (151, [3, 7]) ax_m0)
  have F179 : pz7 (pz_gt (ρ 0)) (pz_gN (ρ 0)) ((ρ 1) / 4) 9 := (ax_XF_lt (x := 179) (Nat.le_of_ble_eq_true rfl)).mp (ax_gx hE (179, [3, 7]) ax_m1)
  have F190 : (pz90 (pz_gt (ρ 0)) (pz_gN (ρ 0)) ((ρ 1) / 4) ((ρ 2) / 4) ∧ 1 ≤ (ρ 2) / 4) := (ax_XF_lt (x := 190) (Nat.le_of_ble_eq_true rfl)).mp (ax_gx hE (190, [3, 7, 11]) ax_m2)
  obtain ⟨-, -, F196⟩ : ay_ex hp 173 ∧ ay_ex hp 185 ∧ pz_y196 (ρ 2) (ay_at hp 173 27) (ay_at hp 185) := (ax_XF_lt (x := 196) (Nat.le_of_ble_eq_true rfl)).mp (ax_gx hE (196, [11]) ax_m3)
  have F192 : pz_strip ((ρ 2) / 4) = (ρ 2) / 4 := (ax_XF_lt (x := 192) (Nat.le_of_ble_eq_true rfl)).mp (ax_gx hE (192, [11, 11]) ax_m4)
  refine ⟨(fun y hy => by cases hy), _, List.mem_cons_self, ρ, fun _ _ => rfl, ax_px hE rfl (fun x hx => ?_)⟩
  cases List.mem_singleton.mp hx
  refine (ax_XF_lt (x := 180) (Nat.le_of_ble_eq_true rfl)).mpr ?_
  show pz_y180 (ρ 0) (ρ 1) (ρ 2) (ρ 3)
  exact ⟨F190.1, F190.2, fun z => absurd z (by omega), fun _ => ⟨F179, F192⟩⟩
theorem axq0_mx6_59 : ax_RO ax_wM0 (ax_XM 0) axu0_mx6_59 := axqg_mx6_59 ax_WW0
theorem axqg_mx5_76 {w : ax_W} {b : Nat} (hw : ax_WW w) : ax_RO w (ax_XM b) axu0_mx5_76 := by
  intro ρ hp hE hT
  have j0 : ρ 0 % 4 = 1 := pz_gj hE 0 (Nat.le_of_ble_eq_true rfl) rfl
  have j1 : ρ 1 % 4 = 1 := pz_gj hE 1 (Nat.le_of_ble_eq_true rfl) rfl
  have j2 : ρ 2 % 4 = 1 := pz_gj hE 2 (Nat.le_of_ble_eq_true rfl) rfl
  obtain ⟨-, -, -, -, -, F151⟩ : ay_ex hp 173 ∧ ay_ex hp 173 ∧ ay_ex hp 173 ∧ ay_ex hp 173 ∧ ay_ex hp 173 ∧ pz_y151 (ρ 0) (ρ 1) (ay_at hp 173 13) (ay_at hp 173 14) (ay_at hp 173 15) (ay_at hp 173 16) (ay_at hp 173 17) := (ax_XF_lt (x := 151) (Nat.le_of_ble_eq_true rfl)).mp (ax_gx hE (151, [3, 7]) ax_m0)
  have F178 : pz7 (pz_gt (ρ 0)) (pz_gN (ρ 0)) ((ρ 1) / 4) 8 := (ax_XF_lt (x := 178) (Nat.le_of_ble_eq_true rfl)).mp (ax_gx hE (178, [3, 7]) ax_m1)
  have F190 : (pz90 (pz_gt (ρ 0)) (pz_gN (ρ 0)) ((ρ 1) / 4) ((ρ 2) / 4) ∧ 1 ≤ (ρ 2) / 4) := (ax_XF_lt (x := 190) (Nat.le_of_ble_eq_true rfl)).mp (ax_gx hE (190, [3, 7, 11]) ax_m2)
  obtain ⟨-, -, F196⟩ : ay_ex hp 173 ∧ ay_ex hp 185 ∧ pz_y196 (ρ 2) (ay_at hp 173 27) (ay_at hp 185) := (ax_XF_lt (x := 196) (Nat.le_of_ble_eq_true rfl)).mp (ax_gx hE (196, [11]) ax_m3)
  refine ⟨(fun y hy => by cases hy), _, List.mem_cons_self, ρ, fun _ _ => rfl, ax_px hE rfl (fun x hx => ?_)⟩
  cases List.mem_singleton.mp hx
  refine (ax_XF_lt (x := 180) (Nat.le_of_ble_eq_true rfl)).mpr ?_
  show pz_y180 (ρ 0) (ρ 1) (ρ 2) (4)
  exact ⟨F190.1, F190.2, fun _ => F178, fun z => absurd z (by decide)⟩
theorem axq0_mx5_76 : ax_RO ax_wM0 (ax_XM 0) axu0_mx5_76 := axqg_mx5_76 ax_WW0
theorem axqg_mx7 {w : ax_W} {b : Nat} (hw : ax_WW w) : ax_RO w (ax_XM b) axu0_mx7 := by
  intro ρ hp hE hT
  have j0 : ρ 0 % 4 = 1 := pz_gj hE 0 (Nat.le_of_ble_eq_true rfl) rfl
  have j1 : ρ 1 % 4 = 1 := pz_gj hE 1 (Nat.le_of_ble_eq_true rfl) rfl
  have j2 : ρ 2 % 4 = 1 := pz_gj hE 2 (Nat.le_of_ble_eq_true rfl) rfl
  obtain ⟨i3a, i3b, i3c, i3d⟩ := pz_gi hE 3 2147483649 2147483654 (Nat.le_of_ble_eq_true rfl) rfl
  have c_deep : ay_at hp 173 28 = some (ρ 3) := ay_gfj hE 702 112 15 173 28 ax_m4 (ax_vlq rfl rfl) (ax_vlj rfl rfl)
  obtain ⟨-, -, -, -, -, F151⟩ : ay_ex hp 173 ∧ ay_ex hp 173 ∧ ay_ex hp 173 ∧ ay_ex hp 173 ∧ ay_ex hp 173 ∧ pz_y151 (ρ 0) (ρ 1) (ay_at hp 173 13) (ay_at hp 173 14) (ay_at hp 173 15) (ay_at hp 173 16) (ay_at hp 173 17) := (ax_XF_lt (x := 151) (Nat.le_of_ble_eq_true rfl)).mp (ax_gx hE (151, [3, 7]) ax_m0)
  have F190 : (pz90 (pz_gt (ρ 0)) (pz_gN (ρ 0)) ((ρ 1) / 4) ((ρ 2) / 4) ∧ 1 ≤ (ρ 2) / 4) := (ax_XF_lt (x := 190) (Nat.le_of_ble_eq_true rfl)).mp (ax_gx hE (190, [3, 7, 11]) ax_m1)
  obtain ⟨-, F195⟩ : ay_ex hp 173 ∧ ay_ln (ay_at hp 173 28) = pz_dp ((ρ 2) / 4) := (ax_XF_lt (x := 195) (Nat.le_of_ble_eq_true rfl)).mp (ax_gx hE (195, [11]) ax_m2)
  rw [c_deep] at F195
  have F192 : pz_strip ((ρ 2) / 4) = (ρ 2) / 4 := (ax_XF_lt (x := 192) (Nat.le_of_ble_eq_true rfl)).mp (ax_gx hE (192, [11, 11]) ax_m3)
  have e : ρ 3 / 4 = pz_dp (ρ 2 / 4) := F195
  have e1 := pz_dp_1 (s := ρ 2 / 4) (by omega)
  have e2 := pz_strip_ev F190.2 F192
  obtain ⟨ρ', h1, h2⟩ := pz_pn1 (K := ρ 2 / 4 / 2) (xf := [(193, [11, 19])]) hE (by decide) (fun ρ' h1 h2 x hx => by
    have q0 : ρ' 0 = ρ 0 := h1 0 (by decide)
    have q1 : ρ' 1 = ρ 1 := h1 1 (by decide)
    have q2 : ρ' 2 = ρ 2 := h1 2 (by decide)
    have q3 : ρ' 3 = ρ 3 := h1 3 (by decide)
    cases List.mem_singleton.mp hx
    refine (ax_XF_lt (x := 193) (Nat.le_of_ble_eq_true rfl)).mpr ?_
    show ((ρ' 2) / 4 = 2 * ((ρ' 4) / 4) ∧ 1 ≤ (ρ' 4) / 4)
    rw [q2, h2]
    rw [pz_41]
    exact ⟨by omega, by omega⟩)
  exact ⟨(fun y hy => by cases hy), _, List.mem_cons_self, ρ', h1, h2⟩
theorem axq0_mx7 : ax_RO ax_wM0 (ax_XM 0) axu0_mx7 := axqg_mx7 ax_WW0
theorem axqg_mx8a {w : ax_W} {b : Nat} (hw : ax_WW w) : ax_RO w (ax_XM b) axu0_mx8a := by
  intro ρ hp hE hT
  have j0 : ρ 0 % 4 = 1 := pz_gj hE 0 (Nat.le_of_ble_eq_true rfl) rfl
  have j1 : ρ 1 % 4 = 1 := pz_gj hE 1 (Nat.le_of_ble_eq_true rfl) rfl
  have j2 : ρ 2 % 4 = 1 := pz_gj hE 2 (Nat.le_of_ble_eq_true rfl) rfl
  obtain ⟨-, -, -, -, -, F151⟩ : ay_ex hp 173 ∧ ay_ex hp 173 ∧ ay_ex hp 173 ∧ ay_ex hp 173 ∧ ay_ex hp 173 ∧ pz_y151 (ρ 0) (ρ 1) (ay_at hp 173 13) (ay_at hp 173 14) (ay_at hp 173 15) (ay_at hp 173 16) (ay_at hp 173 17) := (ax_XF_lt (x := 151) (Nat.le_of_ble_eq_true rfl)).mp (ax_gx hE (151, [3, 7]) ax_m0)
  have F190 : (pz90 (pz_gt (ρ 0)) (pz_gN (ρ 0)) ((ρ 1) / 4) ((ρ 2) / 4) ∧ 1 ≤ (ρ 2) / 4) := (ax_XF_lt (x := 190) (Nat.le_of_ble_eq_true rfl)).mp (ax_gx hE (190, [3, 7, 11]) ax_m1)
  have F169 : pz_kd (pz_gt (ρ 0)) (pz_gN (ρ 0)) (pz_p (pz_cF (ρ 0) (ρ 1))) ≠ (164) / 4 := (ax_XF_lt (x := 169) (Nat.le_of_ble_eq_true rfl)).mp (ax_gx hE (169, [3, 7, 164]) ax_m2)
  refine ⟨(fun y hy => by cases hy), _, List.mem_cons_self, ρ, fun _ _ => rfl, ax_px hE rfl (fun x hx => ?_)⟩
  cases List.mem_singleton.mp hx
  refine (ax_XF_lt (x := 199) (Nat.le_of_ble_eq_true rfl)).mpr ?_
  show ¬ (pz_kd (pz_gt (ρ 0)) (pz_gN (ρ 0)) (pz_p (pz_cF (ρ 0) (ρ 1))) = 41 ∧ 1 < (ρ 2) / 4)
  exact fun z => F169 z.1
theorem axq0_mx8a : ax_RO ax_wM0 (ax_XM 0) axu0_mx8a := axqg_mx8a ax_WW0
theorem axqg_mx8b {w : ax_W} {b : Nat} (hw : ax_WW w) : ax_RO w (ax_XM b) axu0_mx8b := by
  intro ρ hp hE hT
  have j0 : ρ 0 % 4 = 1 := pz_gj hE 0 (Nat.le_of_ble_eq_true rfl) rfl
  have j1 : ρ 1 % 4 = 1 := pz_gj hE 1 (Nat.le_of_ble_eq_true rfl) rfl
  have j2 : ρ 2 % 4 = 1 := pz_gj hE 2 (Nat.le_of_ble_eq_true rfl) rfl
  obtain ⟨i3a, i3b, i3c, i3d⟩ := pz_gi hE 3 2147483648 2147483648 (Nat.le_of_ble_eq_true rfl) rfl
  have c_deep : ay_at hp 173 28 = some (ρ 3) := ay_gfj hE 702 112 15 173 28 ax_m3 (ax_vlq rfl rfl) (ax_vlj rfl rfl)
  obtain ⟨-, -, -, -, -, F151⟩ : ay_ex hp 173 ∧ ay_ex hp 173 ∧ ay_ex hp 173 ∧ ay_ex hp 173 ∧ ay_ex hp 173 ∧ pz_y151 (ρ 0) (ρ 1) (ay_at hp 173 13) (ay_at hp 173 14) (ay_at hp 173 15) (ay_at hp 173 16) (ay_at hp 173 17) := (ax_XF_lt (x := 151) (Nat.le_of_ble_eq_true rfl)).mp (ax_gx hE (151, [3, 7]) ax_m0)
  have F190 : (pz90 (pz_gt (ρ 0)) (pz_gN (ρ 0)) ((ρ 1) / 4) ((ρ 2) / 4) ∧ 1 ≤ (ρ 2) / 4) := (ax_XF_lt (x := 190) (Nat.le_of_ble_eq_true rfl)).mp (ax_gx hE (190, [3, 7, 11]) ax_m1)
  obtain ⟨-, F195⟩ : ay_ex hp 173 ∧ ay_ln (ay_at hp 173 28) = pz_dp ((ρ 2) / 4) := (ax_XF_lt (x := 195) (Nat.le_of_ble_eq_true rfl)).mp (ax_gx hE (195, [11]) ax_m2)
  rw [c_deep] at F195
  have e : ρ 3 / 4 = pz_dp (ρ 2 / 4) := F195
  refine ⟨(fun y hy => by cases hy), _, List.mem_cons_self, ρ, fun _ _ => rfl, ax_px hE rfl (fun x hx => ?_)⟩
  cases List.mem_singleton.mp hx
  refine (ax_XF_lt (x := 199) (Nat.le_of_ble_eq_true rfl)).mpr ?_
  show ¬ (pz_kd (pz_gt (ρ 0)) (pz_gN (ρ 0)) (pz_p (pz_cF (ρ 0) (ρ 1))) = 41 ∧ 1 < (ρ 2) / 4)
  exact fun z => absurd (pz_dp_0 (s := ρ 2 / 4) (by omega)) (by have := z.2; omega)
theorem axq0_mx8b : ax_RO ax_wM0 (ax_XM 0) axu0_mx8b := axqg_mx8b ax_WW0
theorem axqg_mx9 {w : ax_W} {b : Nat} (hw : ax_WW w) : ax_RO w (ax_XM b) axu0_mx9 := by
  intro ρ hp hE hT
  have j0 : ρ 0 % 4 = 1 := pz_gj hE 0 (Nat.le_of_ble_eq_true rfl) rfl
  have j1 : ρ 1 % 4 = 1 := pz_gj hE 1 (Nat.le_of_ble_eq_true rfl) rfl
  have j2 : ρ 2 % 4 = 1 := pz_gj hE 2 (Nat.le_of_ble_eq_true rfl) rfl
  obtain ⟨i3a, i3b, i3c, i3d⟩ := pz_gi hE 3 2147483649 2147483654 (Nat.le_of_ble_eq_true rfl) rfl
  have c_deep : ay_at hp 173 28 = some (ρ 3) := ay_gfj hE 702 112 15 173 28 ax_m7 (ax_vlq rfl rfl) (ax_vlj rfl rfl)
  obtain ⟨-, -, -, -, -, F151⟩ : ay_ex hp 173 ∧ ay_ex hp 173 ∧ ay_ex hp 173 ∧ ay_ex hp 173 ∧ ay_ex hp 173 ∧ pz_y151 (ρ 0) (ρ 1) (ay_at hp 173 13) (ay_at hp 173 14) (ay_at hp 173 15) (ay_at hp 173 16) (ay_at hp 173 17) := (ax_XF_lt (x := 151) (Nat.le_of_ble_eq_true rfl)).mp (ax_gx hE (151, [3, 7]) ax_m0)
  have F179 : pz7 (pz_gt (ρ 0)) (pz_gN (ρ 0)) ((ρ 1) / 4) 9 := (ax_XF_lt (x := 179) (Nat.le_of_ble_eq_true rfl)).mp (ax_gx hE (179, [3, 7]) ax_m1)
  have F190 : (pz90 (pz_gt (ρ 0)) (pz_gN (ρ 0)) ((ρ 1) / 4) ((ρ 2) / 4) ∧ 1 ≤ (ρ 2) / 4) := (ax_XF_lt (x := 190) (Nat.le_of_ble_eq_true rfl)).mp (ax_gx hE (190, [3, 7, 11]) ax_m2)
  have F192 : pz_strip ((ρ 2) / 4) = (ρ 2) / 4 := (ax_XF_lt (x := 192) (Nat.le_of_ble_eq_true rfl)).mp (ax_gx hE (192, [11, 11]) ax_m3)
  have F194 : pz94 (pz_gt (ρ 0)) (pz_gN (ρ 0)) ((ρ 1) / 4) := (ax_XF_lt (x := 194) (Nat.le_of_ble_eq_true rfl)).mp (ax_gx hE (194, [3, 7]) ax_m4)
  have F199 : ¬ (pz_kd (pz_gt (ρ 0)) (pz_gN (ρ 0)) (pz_p (pz_cF (ρ 0) (ρ 1))) = 41 ∧ 1 < (ρ 2) / 4) := (ax_XF_lt (x := 199) (Nat.le_of_ble_eq_true rfl)).mp (ax_gx hE (199, [3, 7, 11]) ax_m5)
  obtain ⟨-, F195⟩ : ay_ex hp 173 ∧ ay_ln (ay_at hp 173 28) = pz_dp ((ρ 2) / 4) := (ax_XF_lt (x := 195) (Nat.le_of_ble_eq_true rfl)).mp (ax_gx hE (195, [11]) ax_m6)
  rw [c_deep] at F195
  have e : ρ 3 / 4 = pz_dp (ρ 2 / 4) := F195
  have e1 := pz_dp_1 (s := ρ 2 / 4) (by omega)
  have e2 := pz_strip_ev F190.2 F192
  refine ⟨(fun y hy => by cases hy), _, List.mem_cons_self, ρ, fun _ _ => rfl, ax_px hE rfl (fun x hx => ?_)⟩
  cases List.mem_singleton.mp hx
  refine (ax_XF_lt (x := 164) (Nat.le_of_ble_eq_true rfl)).mpr ?_
  show pz64 (pz_gt (ρ 0)) (pz_gN (ρ 0)) ((ρ 1) / 4) ((4) / 4)
  exact pq_rs3 (s0 := ρ 2 / 4 / 2) F179 F190.1 (by omega) (by omega) F194 (fun z => F199 ⟨z, by omega⟩)
theorem axq0_mx9 : ax_RO ax_wM0 (ax_XM 0) axu0_mx9 := axqg_mx9 ax_WW0
theorem axqg_mxb {w : ax_W} {b : Nat} (hw : ax_WW w) : ax_RO w (ax_XM b) axu0_mxb := by
  intro ρ hp hE hT
  have j0 : ρ 0 % 4 = 1 := pz_gj hE 0 (Nat.le_of_ble_eq_true rfl) rfl
  have j1 : ρ 1 % 4 = 1 := pz_gj hE 1 (Nat.le_of_ble_eq_true rfl) rfl
  have j2 : ρ 2 % 4 = 1 := pz_gj hE 2 (Nat.le_of_ble_eq_true rfl) rfl
  obtain ⟨i3a, i3b, i3c, i3d⟩ := pz_gi hE 3 2147483648 2147483648 (Nat.le_of_ble_eq_true rfl) rfl
  have c_deep : ay_at hp 173 28 = some (ρ 3) := ay_gfj hE 702 112 15 173 28 ax_m5 (ax_vlq rfl rfl) (ax_vlj rfl rfl)
  obtain ⟨-, -, -, -, -, F151⟩ : ay_ex hp 173 ∧ ay_ex hp 173 ∧ ay_ex hp 173 ∧ ay_ex hp 173 ∧ ay_ex hp 173 ∧ pz_y151 (ρ 0) (ρ 1) (ay_at hp 173 13) (ay_at hp 173 14) (ay_at hp 173 15) (ay_at hp 173 16) (ay_at hp 173 17) := (ax_XF_lt (x := 151) (Nat.le_of_ble_eq_true rfl)).mp (ax_gx hE (151, [3, 7]) ax_m0)
  have F179 : pz7 (pz_gt (ρ 0)) (pz_gN (ρ 0)) ((ρ 1) / 4) 9 := (ax_XF_lt (x := 179) (Nat.le_of_ble_eq_true rfl)).mp (ax_gx hE (179, [3, 7]) ax_m1)
  have F190 : (pz90 (pz_gt (ρ 0)) (pz_gN (ρ 0)) ((ρ 1) / 4) ((ρ 2) / 4) ∧ 1 ≤ (ρ 2) / 4) := (ax_XF_lt (x := 190) (Nat.le_of_ble_eq_true rfl)).mp (ax_gx hE (190, [3, 7, 11]) ax_m2)
  have F194 : pz94 (pz_gt (ρ 0)) (pz_gN (ρ 0)) ((ρ 1) / 4) := (ax_XF_lt (x := 194) (Nat.le_of_ble_eq_true rfl)).mp (ax_gx hE (194, [3, 7]) ax_m3)
  obtain ⟨-, F195⟩ : ay_ex hp 173 ∧ ay_ln (ay_at hp 173 28) = pz_dp ((ρ 2) / 4) := (ax_XF_lt (x := 195) (Nat.le_of_ble_eq_true rfl)).mp (ax_gx hE (195, [11]) ax_m4)
  rw [c_deep] at F195
  have e : ρ 3 / 4 = pz_dp (ρ 2 / 4) := F195
  have e1 := pz_dp_0 (s := ρ 2 / 4) (by omega)
  refine ⟨(fun y hy => by cases hy), _, List.mem_cons_self, ρ, fun _ _ => rfl, ax_px hE rfl (fun x hx => ?_)⟩
  cases List.mem_singleton.mp hx
  refine (ax_XF_lt (x := 181) (Nat.le_of_ble_eq_true rfl)).mpr ?_
  show pz_y181 (ρ 0) (ρ 1)
  exact Or.inr ⟨F179, by have h := F190.1; rw [show ρ 2 / 4 = 1 by have := F190.2; omega] at h; exact h, F194⟩
theorem axq0_mxb : ax_RO ax_wM0 (ax_XM 0) axu0_mxb := axqg_mxb ax_WW0
theorem axq0_mw0 : ax_RO ax_wM0 (ax_XM 0) axu0_mw0 := by
  intro ρ hp hE hT
  obtain ⟨-, -, F42⟩ : ay_ex hp 180 ∧ ay_ex hp 179 ∧ ay_M42 (ay_at hp 180 1) (ay_at hp 179 1) := (ax_XF_lt (x := 42) (Nat.le_of_ble_eq_true rfl)).mp (ax_gx hE (42, []) ax_m0)
  refine ⟨(fun y hy => by cases hy), _, List.mem_cons_self, ρ, fun _ _ => rfl, ax_px hE rfl (fun x hx => ?_)⟩
  cases List.mem_singleton.mp hx
  refine (ax_XF_wr (x := 242) (Nat.le_of_ble_eq_true rfl)).mpr ?_
  show ay_ex (ax_upd hp 702 (108) (0)) 173 ∧ ay_ex (ax_upd hp 702 (108) (0)) 185 ∧ py_y242 (5) (ay_at (ax_upd hp 702 (108) (0)) 173 27) (ay_at (ax_upd hp 702 (108) (0)) 185)
  obtain ⟨o0, ho0⟩ := ay_some hT (q := 173) (g := 11) (n := 58) ax_cg_173 ax_cn_11 (j := 108 / 4) (Nat.le_of_ble_eq_true rfl)
  have u1 : ∀ q, q ≠ 173 → ay_at (ax_upd hp 702 108 (0)) q = ay_at hp q := fun q hq => funext (fun j => ay_upd_ne hT.1 hq j)
  have u2 : ∀ j, ay_at (ax_upd hp 702 108 (0)) 173 j = if j = 27 then some (0) else ay_at hp 173 j := fun j => ay_upd_eq hT.1 rfl ho0 j
  refine ⟨ay_ex_upd hT.1 (ax_cellT hT (q := 173) (g := 11) ax_cg_173), ay_ex_upd hT.1 (ax_cellT hT (q := 185) (g := 55) ax_cg_185), ?_⟩
  rw [u2 27, if_pos rfl, u1 185 (Nat.ne_of_beq_eq_false rfl)]
  exact pm_242_0

theorem axq0_mw1 : ax_RO ax_wM0 (ax_XM 0) axu0_mw1 := by
  intro ρ hp hE hT
  obtain ⟨-, -, F42⟩ : ay_ex hp 180 ∧ ay_ex hp 179 ∧ ay_M42 (ay_at hp 180 1) (ay_at hp 179 1) := (ax_XF_lt (x := 42) (Nat.le_of_ble_eq_true rfl)).mp (ax_gx hE (42, []) ax_m0)
  refine ⟨(fun y hy => by cases hy), _, List.mem_cons_self, ρ, fun _ _ => rfl, ax_px hE rfl (fun x hx => ?_)⟩
  cases List.mem_singleton.mp hx
  refine (ax_XF_lt (x := 241) (Nat.le_of_ble_eq_true rfl)).mpr ?_
  show ay_ex hp 180 ∧ ay_ex hp 182 ∧ py_y241 1 (5) (ay_at hp 180 1) (ay_at hp 182)
  refine ⟨(ax_cellT hT (q := 180) (g := 50) ax_cg_180), (ax_cellT hT (q := 182) (g := 52) ax_cg_182), ?_⟩
  exact pm_241_0 F42.1

theorem axq0_mw5 : ax_RO ax_wM0 (ax_XM 0) axu0_mw5 := by
  intro ρ hp hE hT
  have j0 : ρ 0 % 4 = 1 := pz_gj hE 0 (Nat.le_of_ble_eq_true rfl) rfl
  have j1 : ρ 1 % 4 = 1 := pz_gj hE 1 (Nat.le_of_ble_eq_true rfl) rfl
  obtain ⟨-, -, F242⟩ : ay_ex hp 173 ∧ ay_ex hp 185 ∧ py_y242 (ρ 0) (ay_at hp 173 27) (ay_at hp 185) := (ax_XF_lt (x := 242) (Nat.le_of_ble_eq_true rfl)).mp (ax_gx hE (242, [3]) ax_m0)
  obtain ⟨-, -, F241⟩ : ay_ex hp 180 ∧ ay_ex hp 182 ∧ py_y241 1 (ρ 1) (ay_at hp 180 1) (ay_at hp 182) := (ax_XF_lt (x := 241) (Nat.le_of_ble_eq_true rfl)).mp (ax_gx hE (241, [7]) ax_m1)
  refine ⟨(fun y hy => by cases hy), _, List.mem_cons_self, ρ, fun _ _ => rfl, ax_px hE rfl (fun x hx => ?_)⟩
  cases List.mem_singleton.mp hx
  refine (ax_XF_lt (x := 250) (Nat.le_of_ble_eq_true rfl)).mpr ?_
  show py_250 (4012) (ρ 0) (ρ 1) (ρ 0) (ρ 1)
  exact (rfl : py_pop _ _ _ = _)
end
