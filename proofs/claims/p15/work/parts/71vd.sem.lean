theorem axqg_sc7_47 {w : ax_W} {b : Nat} (hw : ax_WW w) : ax_RO w (ax_XM b) axu0_sc7_47 := by
  intro ρ hp hE hT
  have j0 : ρ 0 % 4 = 1 := pz_gj hE 0 (Nat.le_of_ble_eq_true rfl) rfl
  have j1 : ρ 1 % 4 = 1 := pz_gj hE 1 (Nat.le_of_ble_eq_true rfl) rfl
  obtain ⟨i2a, i2b, i2c, i2d⟩ := pz_gi hE 2 2147483648 2147484448 (Nat.le_of_ble_eq_true rfl) rfl
  obtain ⟨i3a, i3b, i3c, i3d⟩ := pz_gi hE 3 2147483648 2147484449 (Nat.le_of_ble_eq_true rfl) rfl
  obtain ⟨i4a, i4b, i4c, i4d⟩ := pz_gi hE 4 2147483648 2147484448 (Nat.le_of_ble_eq_true rfl) rfl
  obtain ⟨i5a, i5b, i5c, i5d⟩ := pz_gi hE 5 2147483695 2147483695 (Nat.le_of_ble_eq_true rfl) rfl
  have c_at : ay_at hp 173 14 = some (ρ 2) := ay_gfj hE 702 56 11 173 14 ax_m2 (ax_vlq rfl rfl) (ax_vlj rfl rfl)
  have c_next : ay_at hp 173 13 = some (ρ 3) := ay_gfj hE 702 52 15 173 13 ax_m3 (ax_vlq rfl rfl) (ax_vlj rfl rfl)
  have s1 : (ρ 2 / 4 + 2147483648) % 4294967296 + (4 / 4 + 2147483648) % 4294967296 = (ρ 3 / 4 + 2147483648) % 4294967296 + 2147483648 := pz_gs hE 11 4 15 ax_m4
  have c_size : ay_at hp 173 12 = some (ρ 4) := ay_gfj hE 702 48 19 173 12 ax_m5 (ax_vlq rfl rfl) (ax_vlj rfl rfl)
  have r1 : (ρ 2 / 4 + 2147483648) % 4294967296 < (ρ 4 / 4 + 2147483648) % 4294967296 := pz_gc hE 2 11 19 (Nat.le_of_ble_eq_true rfl) ax_m6
  have c_tape : ay_at hp 183 (ρ 2 / 4) = some (ρ 5) := ay_gf hE 742 11 23 183 ax_m7 (ax_vlq rfl rfl)
  obtain ⟨-, -, F131⟩ : ay_ex hp 173 ∧ ay_ex hp 183 ∧ pz_x30 (ρ 0) (ay_at hp 173 12) (ay_at hp 183) := (ax_XF_lt (x := 131) (Nat.le_of_ble_eq_true rfl)).mp (ax_gx hE (131, [3]) ax_m0)
  rw [c_size] at F131
  obtain ⟨-, F154⟩ : ay_ex hp 173 ∧ ay_ln (ay_at hp 173 14) = pz_at (pz_gt (ρ 0)) (pz_gN (ρ 0)) (pz_p (pz_cF (ρ 0) (ρ 1))) := (ax_XF_lt (x := 154) (Nat.le_of_ble_eq_true rfl)).mp (ax_gx hE (154, [3, 7]) ax_m1)
  rw [c_at] at F154
  have hb : ρ 2 / 4 < pz_gN (ρ 0) → pz_b (pz_gt (ρ 0)) (ρ 2 / 4) = ρ 5 / 4 := fun hl => by
    have e := F131.2.2 (ρ 2 / 4) hl
    rw [c_tape] at e
    have e := Option.some.inj e
    omega
  have hN : ρ 4 / 4 = pz_gN (ρ 0) := F131.1
  have hlt : ρ 2 / 4 < pz_gN (ρ 0) := by omega
  have e1 : ρ 2 / 4 = pz_at (pz_gt (ρ 0)) (pz_gN (ρ 0)) (pz_p (pz_cf (pz_gt (ρ 0)) (pz_gN (ρ 0)) (ρ 1 / 4))) := F154
  have hb1 := hb hlt
  rw [e1] at hb1
  have hl1 : pz_at (pz_gt (ρ 0)) (pz_gN (ρ 0)) (pz_p (pz_cf (pz_gt (ρ 0)) (pz_gN (ρ 0)) (ρ 1 / 4))) < pz_gN (ρ 0) := by omega
  obtain ⟨k1, k2⟩ := pz_kd_sg hl1 (by rw [hb1]; exact pz_lt_no (by omega)) (by rw [hb1]; exact pz_dg_no (by omega))
  rw [hb1] at k1
  have ec : ρ 5 / 4 = 47 := by omega
  rw [ec] at k1
  have k3 : pz_kd (pz_gt (ρ 0)) (pz_gN (ρ 0)) (pz_p (pz_cf (pz_gt (ρ 0)) (pz_gN (ρ 0)) (ρ 1 / 4))) = 47 := k1
  refine ⟨(fun y hy => by cases hy), _, List.mem_cons_self, ρ, fun _ _ => rfl, ax_px hE rfl (fun x hx => ?_)⟩
  cases List.mem_singleton.mp hx
  refine (ax_XF_wr (x := 151) (Nat.le_of_ble_eq_true rfl)).mpr ?_
  show ay_ex (ax_upd hp 702 (60) (16)) 173 ∧ ay_ex (ax_upd hp 702 (60) (16)) 173 ∧ ay_ex (ax_upd hp 702 (60) (16)) 173 ∧ ay_ex (ax_upd hp 702 (60) (16)) 173 ∧ ay_ex (ax_upd hp 702 (60) (16)) 173 ∧ pz_y151 (ρ 0) (ρ 1) (ay_at (ax_upd hp 702 (60) (16)) 173 13) (ay_at (ax_upd hp 702 (60) (16)) 173 14) (ay_at (ax_upd hp 702 (60) (16)) 173 15) (ay_at (ax_upd hp 702 (60) (16)) 173 16) (ay_at (ax_upd hp 702 (60) (16)) 173 17)
  obtain ⟨o0, ho0⟩ := ay_some hT (q := 173) (g := 11) (n := 58) (ax_wc hw ax_cg_173) (ax_wn hw ax_cn_11) (j := 60 / 4) (Nat.le_of_ble_eq_true rfl)
  have u1 : ∀ q, q ≠ 173 → ay_at (ax_upd hp 702 60 (16)) q = ay_at hp q := fun q hq => funext (fun j => ay_upd_ne hT.1 hq j)
  have u2 : ∀ j, ay_at (ax_upd hp 702 60 (16)) 173 j = if j = 15 then some (16) else ay_at hp 173 j := fun j => ay_upd_eq hT.1 rfl ho0 j
  refine ⟨ay_ex_upd hT.1 (ax_cellT hT (q := 173) (g := 11) (ax_wc hw ax_cg_173)), ay_ex_upd hT.1 (ax_cellT hT (q := 173) (g := 11) (ax_wc hw ax_cg_173)), ay_ex_upd hT.1 (ax_cellT hT (q := 173) (g := 11) (ax_wc hw ax_cg_173)), ay_ex_upd hT.1 (ax_cellT hT (q := 173) (g := 11) (ax_wc hw ax_cg_173)), ay_ex_upd hT.1 (ax_cellT hT (q := 173) (g := 11) (ax_wc hw ax_cg_173)), ?_⟩
  rw [u2 13, if_neg (show ¬ 13 = 15 from Nat.ne_of_beq_eq_false rfl), u2 14, if_neg (show ¬ 14 = 15 from Nat.ne_of_beq_eq_false rfl), u2 15, if_pos rfl, u2 16, if_neg (show ¬ 16 = 15 from Nat.ne_of_beq_eq_false rfl), u2 17, if_neg (show ¬ 17 = 15 from Nat.ne_of_beq_eq_false rfl)]
  rw [c_at]
  rw [c_next]
  exact ⟨by show ρ 3 / 4 = _; rw [k2, ← e1]; omega, e1, by show 16 / 4 = pz_tok _; rw [k3]; rfl, fun z => absurd (k3.symm.trans z) (by decide), fun z => absurd (k3.symm.trans z) (by decide)⟩
theorem axq0_sc7_47 : ax_RO ax_wM0 (ax_XM 0) axu0_sc7_47 := axqg_sc7_47 ax_WW0
theorem axqg_sc7_37 {w : ax_W} {b : Nat} (hw : ax_WW w) : ax_RO w (ax_XM b) axu0_sc7_37 := by
  intro ρ hp hE hT
  have j0 : ρ 0 % 4 = 1 := pz_gj hE 0 (Nat.le_of_ble_eq_true rfl) rfl
  have j1 : ρ 1 % 4 = 1 := pz_gj hE 1 (Nat.le_of_ble_eq_true rfl) rfl
  obtain ⟨i2a, i2b, i2c, i2d⟩ := pz_gi hE 2 2147483648 2147484448 (Nat.le_of_ble_eq_true rfl) rfl
  obtain ⟨i3a, i3b, i3c, i3d⟩ := pz_gi hE 3 2147483648 2147484449 (Nat.le_of_ble_eq_true rfl) rfl
  obtain ⟨i4a, i4b, i4c, i4d⟩ := pz_gi hE 4 2147483648 2147484448 (Nat.le_of_ble_eq_true rfl) rfl
  obtain ⟨i5a, i5b, i5c, i5d⟩ := pz_gi hE 5 2147483685 2147483685 (Nat.le_of_ble_eq_true rfl) rfl
  have c_at : ay_at hp 173 14 = some (ρ 2) := ay_gfj hE 702 56 11 173 14 ax_m2 (ax_vlq rfl rfl) (ax_vlj rfl rfl)
  have c_next : ay_at hp 173 13 = some (ρ 3) := ay_gfj hE 702 52 15 173 13 ax_m3 (ax_vlq rfl rfl) (ax_vlj rfl rfl)
  have s1 : (ρ 2 / 4 + 2147483648) % 4294967296 + (4 / 4 + 2147483648) % 4294967296 = (ρ 3 / 4 + 2147483648) % 4294967296 + 2147483648 := pz_gs hE 11 4 15 ax_m4
  have c_size : ay_at hp 173 12 = some (ρ 4) := ay_gfj hE 702 48 19 173 12 ax_m5 (ax_vlq rfl rfl) (ax_vlj rfl rfl)
  have r1 : (ρ 2 / 4 + 2147483648) % 4294967296 < (ρ 4 / 4 + 2147483648) % 4294967296 := pz_gc hE 2 11 19 (Nat.le_of_ble_eq_true rfl) ax_m6
  have c_tape : ay_at hp 183 (ρ 2 / 4) = some (ρ 5) := ay_gf hE 742 11 23 183 ax_m7 (ax_vlq rfl rfl)
  obtain ⟨-, -, F131⟩ : ay_ex hp 173 ∧ ay_ex hp 183 ∧ pz_x30 (ρ 0) (ay_at hp 173 12) (ay_at hp 183) := (ax_XF_lt (x := 131) (Nat.le_of_ble_eq_true rfl)).mp (ax_gx hE (131, [3]) ax_m0)
  rw [c_size] at F131
  obtain ⟨-, F154⟩ : ay_ex hp 173 ∧ ay_ln (ay_at hp 173 14) = pz_at (pz_gt (ρ 0)) (pz_gN (ρ 0)) (pz_p (pz_cF (ρ 0) (ρ 1))) := (ax_XF_lt (x := 154) (Nat.le_of_ble_eq_true rfl)).mp (ax_gx hE (154, [3, 7]) ax_m1)
  rw [c_at] at F154
  have hb : ρ 2 / 4 < pz_gN (ρ 0) → pz_b (pz_gt (ρ 0)) (ρ 2 / 4) = ρ 5 / 4 := fun hl => by
    have e := F131.2.2 (ρ 2 / 4) hl
    rw [c_tape] at e
    have e := Option.some.inj e
    omega
  have hN : ρ 4 / 4 = pz_gN (ρ 0) := F131.1
  have hlt : ρ 2 / 4 < pz_gN (ρ 0) := by omega
  have e1 : ρ 2 / 4 = pz_at (pz_gt (ρ 0)) (pz_gN (ρ 0)) (pz_p (pz_cf (pz_gt (ρ 0)) (pz_gN (ρ 0)) (ρ 1 / 4))) := F154
  have hb1 := hb hlt
  rw [e1] at hb1
  have hl1 : pz_at (pz_gt (ρ 0)) (pz_gN (ρ 0)) (pz_p (pz_cf (pz_gt (ρ 0)) (pz_gN (ρ 0)) (ρ 1 / 4))) < pz_gN (ρ 0) := by omega
  obtain ⟨k1, k2⟩ := pz_kd_sg hl1 (by rw [hb1]; exact pz_lt_no (by omega)) (by rw [hb1]; exact pz_dg_no (by omega))
  rw [hb1] at k1
  have ec : ρ 5 / 4 = 37 := by omega
  rw [ec] at k1
  have k3 : pz_kd (pz_gt (ρ 0)) (pz_gN (ρ 0)) (pz_p (pz_cf (pz_gt (ρ 0)) (pz_gN (ρ 0)) (ρ 1 / 4))) = 37 := k1
  refine ⟨(fun y hy => by cases hy), _, List.mem_cons_self, ρ, fun _ _ => rfl, ax_px hE rfl (fun x hx => ?_)⟩
  cases List.mem_singleton.mp hx
  refine (ax_XF_wr (x := 151) (Nat.le_of_ble_eq_true rfl)).mpr ?_
  show ay_ex (ax_upd hp 702 (60) (16)) 173 ∧ ay_ex (ax_upd hp 702 (60) (16)) 173 ∧ ay_ex (ax_upd hp 702 (60) (16)) 173 ∧ ay_ex (ax_upd hp 702 (60) (16)) 173 ∧ ay_ex (ax_upd hp 702 (60) (16)) 173 ∧ pz_y151 (ρ 0) (ρ 1) (ay_at (ax_upd hp 702 (60) (16)) 173 13) (ay_at (ax_upd hp 702 (60) (16)) 173 14) (ay_at (ax_upd hp 702 (60) (16)) 173 15) (ay_at (ax_upd hp 702 (60) (16)) 173 16) (ay_at (ax_upd hp 702 (60) (16)) 173 17)
  obtain ⟨o0, ho0⟩ := ay_some hT (q := 173) (g := 11) (n := 58) (ax_wc hw ax_cg_173) (ax_wn hw ax_cn_11) (j := 60 / 4) (Nat.le_of_ble_eq_true rfl)
  have u1 : ∀ q, q ≠ 173 → ay_at (ax_upd hp 702 60 (16)) q = ay_at hp q := fun q hq => funext (fun j => ay_upd_ne hT.1 hq j)
  have u2 : ∀ j, ay_at (ax_upd hp 702 60 (16)) 173 j = if j = 15 then some (16) else ay_at hp 173 j := fun j => ay_upd_eq hT.1 rfl ho0 j
  refine ⟨ay_ex_upd hT.1 (ax_cellT hT (q := 173) (g := 11) (ax_wc hw ax_cg_173)), ay_ex_upd hT.1 (ax_cellT hT (q := 173) (g := 11) (ax_wc hw ax_cg_173)), ay_ex_upd hT.1 (ax_cellT hT (q := 173) (g := 11) (ax_wc hw ax_cg_173)), ay_ex_upd hT.1 (ax_cellT hT (q := 173) (g := 11) (ax_wc hw ax_cg_173)), ay_ex_upd hT.1 (ax_cellT hT (q := 173) (g := 11) (ax_wc hw ax_cg_173)), ?_⟩
  rw [u2 13, if_neg (show ¬ 13 = 15 from Nat.ne_of_beq_eq_false rfl), u2 14, if_neg (show ¬ 14 = 15 from Nat.ne_of_beq_eq_false rfl), u2 15, if_pos rfl, u2 16, if_neg (show ¬ 16 = 15 from Nat.ne_of_beq_eq_false rfl), u2 17, if_neg (show ¬ 17 = 15 from Nat.ne_of_beq_eq_false rfl)]
  rw [c_at]
  rw [c_next]
  exact ⟨by show ρ 3 / 4 = _; rw [k2, ← e1]; omega, e1, by show 16 / 4 = pz_tok _; rw [k3]; rfl, fun z => absurd (k3.symm.trans z) (by decide), fun z => absurd (k3.symm.trans z) (by decide)⟩
theorem axq0_sc7_37 : ax_RO ax_wM0 (ax_XM 0) axu0_sc7_37 := axqg_sc7_37 ax_WW0
theorem axqg_sc8_a {w : ax_W} {b : Nat} (hw : ax_WW w) : ax_RO w (ax_XM b) axu0_sc8_a := by
  intro ρ hp hE hT
  have j0 : ρ 0 % 4 = 1 := pz_gj hE 0 (Nat.le_of_ble_eq_true rfl) rfl
  have j1 : ρ 1 % 4 = 1 := pz_gj hE 1 (Nat.le_of_ble_eq_true rfl) rfl
  obtain ⟨i2a, i2b, i2c, i2d⟩ := pz_gi hE 2 2147483648 2147484448 (Nat.le_of_ble_eq_true rfl) rfl
  obtain ⟨i3a, i3b, i3c, i3d⟩ := pz_gi hE 3 2147483648 2147484449 (Nat.le_of_ble_eq_true rfl) rfl
  obtain ⟨i4a, i4b, i4c, i4d⟩ := pz_gi hE 4 2147483648 2147484448 (Nat.le_of_ble_eq_true rfl) rfl
  obtain ⟨i5a, i5b, i5c, i5d⟩ := pz_gi hE 5 2147483520 2147483684 (Nat.le_of_ble_eq_true rfl) rfl
  have c_at : ay_at hp 173 14 = some (ρ 2) := ay_gfj hE 702 56 11 173 14 ax_m2 (ax_vlq rfl rfl) (ax_vlj rfl rfl)
  have c_next : ay_at hp 173 13 = some (ρ 3) := ay_gfj hE 702 52 15 173 13 ax_m3 (ax_vlq rfl rfl) (ax_vlj rfl rfl)
  have s1 : (ρ 2 / 4 + 2147483648) % 4294967296 + (4 / 4 + 2147483648) % 4294967296 = (ρ 3 / 4 + 2147483648) % 4294967296 + 2147483648 := pz_gs hE 11 4 15 ax_m4
  have c_size : ay_at hp 173 12 = some (ρ 4) := ay_gfj hE 702 48 19 173 12 ax_m5 (ax_vlq rfl rfl) (ax_vlj rfl rfl)
  have r1 : (ρ 2 / 4 + 2147483648) % 4294967296 < (ρ 4 / 4 + 2147483648) % 4294967296 := pz_gc hE 2 11 19 (Nat.le_of_ble_eq_true rfl) ax_m6
  have c_tape : ay_at hp 183 (ρ 2 / 4) = some (ρ 5) := ay_gf hE 742 11 23 183 ax_m7 (ax_vlq rfl rfl)
  obtain ⟨-, -, F131⟩ : ay_ex hp 173 ∧ ay_ex hp 183 ∧ pz_x30 (ρ 0) (ay_at hp 173 12) (ay_at hp 183) := (ax_XF_lt (x := 131) (Nat.le_of_ble_eq_true rfl)).mp (ax_gx hE (131, [3]) ax_m0)
  rw [c_size] at F131
  obtain ⟨-, F154⟩ : ay_ex hp 173 ∧ ay_ln (ay_at hp 173 14) = pz_at (pz_gt (ρ 0)) (pz_gN (ρ 0)) (pz_p (pz_cF (ρ 0) (ρ 1))) := (ax_XF_lt (x := 154) (Nat.le_of_ble_eq_true rfl)).mp (ax_gx hE (154, [3, 7]) ax_m1)
  rw [c_at] at F154
  have hb : ρ 2 / 4 < pz_gN (ρ 0) → pz_b (pz_gt (ρ 0)) (ρ 2 / 4) = ρ 5 / 4 := fun hl => by
    have e := F131.2.2 (ρ 2 / 4) hl
    rw [c_tape] at e
    have e := Option.some.inj e
    omega
  have hN : ρ 4 / 4 = pz_gN (ρ 0) := F131.1
  have hlt : ρ 2 / 4 < pz_gN (ρ 0) := by omega
  have e1 : ρ 2 / 4 = pz_at (pz_gt (ρ 0)) (pz_gN (ρ 0)) (pz_p (pz_cf (pz_gt (ρ 0)) (pz_gN (ρ 0)) (ρ 1 / 4))) := F154
  have hb1 := hb hlt
  rw [e1] at hb1
  have hl1 : pz_at (pz_gt (ρ 0)) (pz_gN (ρ 0)) (pz_p (pz_cf (pz_gt (ρ 0)) (pz_gN (ρ 0)) (ρ 1 / 4))) < pz_gN (ρ 0) := by omega
  obtain ⟨k1, k2⟩ := pz_kd_sg hl1 (by rw [hb1]; exact pz_lt_no (by omega)) (by rw [hb1]; exact pz_dg_no (by omega))
  rw [hb1] at k1
  rw [pz_sg_no (by omega) (by omega) (by omega) (by omega) (by omega) (by omega) (by omega) (by omega)] at k1
  have k3 : pz_kd (pz_gt (ρ 0)) (pz_gN (ρ 0)) (pz_p (pz_cf (pz_gt (ρ 0)) (pz_gN (ρ 0)) (ρ 1 / 4))) = 3 := k1
  refine ⟨(fun y hy => by cases hy), _, List.mem_cons_self, ρ, fun _ _ => rfl, ax_px hE rfl (fun x hx => ?_)⟩
  cases List.mem_singleton.mp hx
  refine (ax_XF_wr (x := 151) (Nat.le_of_ble_eq_true rfl)).mpr ?_
  show ay_ex (ax_upd hp 702 (60) (4)) 173 ∧ ay_ex (ax_upd hp 702 (60) (4)) 173 ∧ ay_ex (ax_upd hp 702 (60) (4)) 173 ∧ ay_ex (ax_upd hp 702 (60) (4)) 173 ∧ ay_ex (ax_upd hp 702 (60) (4)) 173 ∧ pz_y151 (ρ 0) (ρ 1) (ay_at (ax_upd hp 702 (60) (4)) 173 13) (ay_at (ax_upd hp 702 (60) (4)) 173 14) (ay_at (ax_upd hp 702 (60) (4)) 173 15) (ay_at (ax_upd hp 702 (60) (4)) 173 16) (ay_at (ax_upd hp 702 (60) (4)) 173 17)
  obtain ⟨o0, ho0⟩ := ay_some hT (q := 173) (g := 11) (n := 58) (ax_wc hw ax_cg_173) (ax_wn hw ax_cn_11) (j := 60 / 4) (Nat.le_of_ble_eq_true rfl)
  have u1 : ∀ q, q ≠ 173 → ay_at (ax_upd hp 702 60 (4)) q = ay_at hp q := fun q hq => funext (fun j => ay_upd_ne hT.1 hq j)
  have u2 : ∀ j, ay_at (ax_upd hp 702 60 (4)) 173 j = if j = 15 then some (4) else ay_at hp 173 j := fun j => ay_upd_eq hT.1 rfl ho0 j
  refine ⟨ay_ex_upd hT.1 (ax_cellT hT (q := 173) (g := 11) (ax_wc hw ax_cg_173)), ay_ex_upd hT.1 (ax_cellT hT (q := 173) (g := 11) (ax_wc hw ax_cg_173)), ay_ex_upd hT.1 (ax_cellT hT (q := 173) (g := 11) (ax_wc hw ax_cg_173)), ay_ex_upd hT.1 (ax_cellT hT (q := 173) (g := 11) (ax_wc hw ax_cg_173)), ay_ex_upd hT.1 (ax_cellT hT (q := 173) (g := 11) (ax_wc hw ax_cg_173)), ?_⟩
  rw [u2 13, if_neg (show ¬ 13 = 15 from Nat.ne_of_beq_eq_false rfl), u2 14, if_neg (show ¬ 14 = 15 from Nat.ne_of_beq_eq_false rfl), u2 15, if_pos rfl, u2 16, if_neg (show ¬ 16 = 15 from Nat.ne_of_beq_eq_false rfl), u2 17, if_neg (show ¬ 17 = 15 from Nat.ne_of_beq_eq_false rfl)]
  rw [c_at]
  rw [c_next]
  exact ⟨by show ρ 3 / 4 = _; rw [k2, ← e1]; omega, e1, by show 4 / 4 = pz_tok _; rw [k3]; rfl, fun z => absurd (k3.symm.trans z) (by decide), fun z => absurd (k3.symm.trans z) (by decide)⟩
theorem axq0_sc8_a : ax_RO ax_wM0 (ax_XM 0) axu0_sc8_a := axqg_sc8_a ax_WW0
theorem axqg_sc8_b {w : ax_W} {b : Nat} (hw : ax_WW w) : ax_RO w (ax_XM b) axu0_sc8_b := by
  intro ρ hp hE hT
  have j0 : ρ 0 % 4 = 1 := pz_gj hE 0 (Nat.le_of_ble_eq_true rfl) rfl
  have j1 : ρ 1 % 4 = 1 := pz_gj hE 1 (Nat.le_of_ble_eq_true rfl) rfl
  obtain ⟨i2a, i2b, i2c, i2d⟩ := pz_gi hE 2 2147483648 2147484448 (Nat.le_of_ble_eq_true rfl) rfl
  obtain ⟨i3a, i3b, i3c, i3d⟩ := pz_gi hE 3 2147483648 2147484449 (Nat.le_of_ble_eq_true rfl) rfl
  obtain ⟨i4a, i4b, i4c, i4d⟩ := pz_gi hE 4 2147483648 2147484448 (Nat.le_of_ble_eq_true rfl) rfl
  obtain ⟨i5a, i5b, i5c, i5d⟩ := pz_gi hE 5 2147483686 2147483687 (Nat.le_of_ble_eq_true rfl) rfl
  have c_at : ay_at hp 173 14 = some (ρ 2) := ay_gfj hE 702 56 11 173 14 ax_m2 (ax_vlq rfl rfl) (ax_vlj rfl rfl)
  have c_next : ay_at hp 173 13 = some (ρ 3) := ay_gfj hE 702 52 15 173 13 ax_m3 (ax_vlq rfl rfl) (ax_vlj rfl rfl)
  have s1 : (ρ 2 / 4 + 2147483648) % 4294967296 + (4 / 4 + 2147483648) % 4294967296 = (ρ 3 / 4 + 2147483648) % 4294967296 + 2147483648 := pz_gs hE 11 4 15 ax_m4
  have c_size : ay_at hp 173 12 = some (ρ 4) := ay_gfj hE 702 48 19 173 12 ax_m5 (ax_vlq rfl rfl) (ax_vlj rfl rfl)
  have r1 : (ρ 2 / 4 + 2147483648) % 4294967296 < (ρ 4 / 4 + 2147483648) % 4294967296 := pz_gc hE 2 11 19 (Nat.le_of_ble_eq_true rfl) ax_m6
  have c_tape : ay_at hp 183 (ρ 2 / 4) = some (ρ 5) := ay_gf hE 742 11 23 183 ax_m7 (ax_vlq rfl rfl)
  obtain ⟨-, -, F131⟩ : ay_ex hp 173 ∧ ay_ex hp 183 ∧ pz_x30 (ρ 0) (ay_at hp 173 12) (ay_at hp 183) := (ax_XF_lt (x := 131) (Nat.le_of_ble_eq_true rfl)).mp (ax_gx hE (131, [3]) ax_m0)
  rw [c_size] at F131
  obtain ⟨-, F154⟩ : ay_ex hp 173 ∧ ay_ln (ay_at hp 173 14) = pz_at (pz_gt (ρ 0)) (pz_gN (ρ 0)) (pz_p (pz_cF (ρ 0) (ρ 1))) := (ax_XF_lt (x := 154) (Nat.le_of_ble_eq_true rfl)).mp (ax_gx hE (154, [3, 7]) ax_m1)
  rw [c_at] at F154
  have hb : ρ 2 / 4 < pz_gN (ρ 0) → pz_b (pz_gt (ρ 0)) (ρ 2 / 4) = ρ 5 / 4 := fun hl => by
    have e := F131.2.2 (ρ 2 / 4) hl
    rw [c_tape] at e
    have e := Option.some.inj e
    omega
  have hN : ρ 4 / 4 = pz_gN (ρ 0) := F131.1
  have hlt : ρ 2 / 4 < pz_gN (ρ 0) := by omega
  have e1 : ρ 2 / 4 = pz_at (pz_gt (ρ 0)) (pz_gN (ρ 0)) (pz_p (pz_cf (pz_gt (ρ 0)) (pz_gN (ρ 0)) (ρ 1 / 4))) := F154
  have hb1 := hb hlt
  rw [e1] at hb1
  have hl1 : pz_at (pz_gt (ρ 0)) (pz_gN (ρ 0)) (pz_p (pz_cf (pz_gt (ρ 0)) (pz_gN (ρ 0)) (ρ 1 / 4))) < pz_gN (ρ 0) := by omega
  obtain ⟨k1, k2⟩ := pz_kd_sg hl1 (by rw [hb1]; exact pz_lt_no (by omega)) (by rw [hb1]; exact pz_dg_no (by omega))
  rw [hb1] at k1
  rw [pz_sg_no (by omega) (by omega) (by omega) (by omega) (by omega) (by omega) (by omega) (by omega)] at k1
  have k3 : pz_kd (pz_gt (ρ 0)) (pz_gN (ρ 0)) (pz_p (pz_cf (pz_gt (ρ 0)) (pz_gN (ρ 0)) (ρ 1 / 4))) = 3 := k1
  refine ⟨(fun y hy => by cases hy), _, List.mem_cons_self, ρ, fun _ _ => rfl, ax_px hE rfl (fun x hx => ?_)⟩
  cases List.mem_singleton.mp hx
  refine (ax_XF_wr (x := 151) (Nat.le_of_ble_eq_true rfl)).mpr ?_
  show ay_ex (ax_upd hp 702 (60) (4)) 173 ∧ ay_ex (ax_upd hp 702 (60) (4)) 173 ∧ ay_ex (ax_upd hp 702 (60) (4)) 173 ∧ ay_ex (ax_upd hp 702 (60) (4)) 173 ∧ ay_ex (ax_upd hp 702 (60) (4)) 173 ∧ pz_y151 (ρ 0) (ρ 1) (ay_at (ax_upd hp 702 (60) (4)) 173 13) (ay_at (ax_upd hp 702 (60) (4)) 173 14) (ay_at (ax_upd hp 702 (60) (4)) 173 15) (ay_at (ax_upd hp 702 (60) (4)) 173 16) (ay_at (ax_upd hp 702 (60) (4)) 173 17)
  obtain ⟨o0, ho0⟩ := ay_some hT (q := 173) (g := 11) (n := 58) (ax_wc hw ax_cg_173) (ax_wn hw ax_cn_11) (j := 60 / 4) (Nat.le_of_ble_eq_true rfl)
  have u1 : ∀ q, q ≠ 173 → ay_at (ax_upd hp 702 60 (4)) q = ay_at hp q := fun q hq => funext (fun j => ay_upd_ne hT.1 hq j)
  have u2 : ∀ j, ay_at (ax_upd hp 702 60 (4)) 173 j = if j = 15 then some (4) else ay_at hp 173 j := fun j => ay_upd_eq hT.1 rfl ho0 j
  refine ⟨ay_ex_upd hT.1 (ax_cellT hT (q := 173) (g := 11) (ax_wc hw ax_cg_173)), ay_ex_upd hT.1 (ax_cellT hT (q := 173) (g := 11) (ax_wc hw ax_cg_173)), ay_ex_upd hT.1 (ax_cellT hT (q := 173) (g := 11) (ax_wc hw ax_cg_173)), ay_ex_upd hT.1 (ax_cellT hT (q := 173) (g := 11) (ax_wc hw ax_cg_173)), ay_ex_upd hT.1 (ax_cellT hT (q := 173) (g := 11) (ax_wc hw ax_cg_173)), ?_⟩
  rw [u2 13, if_neg (show ¬ 13 = 15 from Nat.ne_of_beq_eq_false rfl), u2 14, if_neg (show ¬ 14 = 15 from Nat.ne_of_beq_eq_false rfl), u2 15, if_pos rfl, u2 16, if_neg (show ¬ 16 = 15 from Nat.ne_of_beq_eq_false rfl), u2 17, if_neg (show ¬ 17 = 15 from Nat.ne_of_beq_eq_false rfl)]
  rw [c_at]
  rw [c_next]
  exact ⟨by show ρ 3 / 4 = _; rw [k2, ← e1]; omega, e1, by show 4 / 4 = pz_tok _; rw [k3]; rfl, fun z => absurd (k3.symm.trans z) (by decide), fun z => absurd (k3.symm.trans z) (by decide)⟩
theorem axq0_sc8_b : ax_RO ax_wM0 (ax_XM 0) axu0_sc8_b := axqg_sc8_b ax_WW0
theorem axqg_sc8_c {w : ax_W} {b : Nat} (hw : ax_WW w) : ax_RO w (ax_XM b) axu0_sc8_c := by
  intro ρ hp hE hT
  have j0 : ρ 0 % 4 = 1 := pz_gj hE 0 (Nat.le_of_ble_eq_true rfl) rfl
  have j1 : ρ 1 % 4 = 1 := pz_gj hE 1 (Nat.le_of_ble_eq_true rfl) rfl
  obtain ⟨i2a, i2b, i2c, i2d⟩ := pz_gi hE 2 2147483648 2147484448 (Nat.le_of_ble_eq_true rfl) rfl
  obtain ⟨i3a, i3b, i3c, i3d⟩ := pz_gi hE 3 2147483648 2147484449 (Nat.le_of_ble_eq_true rfl) rfl
  obtain ⟨i4a, i4b, i4c, i4d⟩ := pz_gi hE 4 2147483648 2147484448 (Nat.le_of_ble_eq_true rfl) rfl
  obtain ⟨i5a, i5b, i5c, i5d⟩ := pz_gi hE 5 2147483692 2147483692 (Nat.le_of_ble_eq_true rfl) rfl
  have c_at : ay_at hp 173 14 = some (ρ 2) := ay_gfj hE 702 56 11 173 14 ax_m2 (ax_vlq rfl rfl) (ax_vlj rfl rfl)
  have c_next : ay_at hp 173 13 = some (ρ 3) := ay_gfj hE 702 52 15 173 13 ax_m3 (ax_vlq rfl rfl) (ax_vlj rfl rfl)
  have s1 : (ρ 2 / 4 + 2147483648) % 4294967296 + (4 / 4 + 2147483648) % 4294967296 = (ρ 3 / 4 + 2147483648) % 4294967296 + 2147483648 := pz_gs hE 11 4 15 ax_m4
  have c_size : ay_at hp 173 12 = some (ρ 4) := ay_gfj hE 702 48 19 173 12 ax_m5 (ax_vlq rfl rfl) (ax_vlj rfl rfl)
  have r1 : (ρ 2 / 4 + 2147483648) % 4294967296 < (ρ 4 / 4 + 2147483648) % 4294967296 := pz_gc hE 2 11 19 (Nat.le_of_ble_eq_true rfl) ax_m6
  have c_tape : ay_at hp 183 (ρ 2 / 4) = some (ρ 5) := ay_gf hE 742 11 23 183 ax_m7 (ax_vlq rfl rfl)
  obtain ⟨-, -, F131⟩ : ay_ex hp 173 ∧ ay_ex hp 183 ∧ pz_x30 (ρ 0) (ay_at hp 173 12) (ay_at hp 183) := (ax_XF_lt (x := 131) (Nat.le_of_ble_eq_true rfl)).mp (ax_gx hE (131, [3]) ax_m0)
  rw [c_size] at F131
  obtain ⟨-, F154⟩ : ay_ex hp 173 ∧ ay_ln (ay_at hp 173 14) = pz_at (pz_gt (ρ 0)) (pz_gN (ρ 0)) (pz_p (pz_cF (ρ 0) (ρ 1))) := (ax_XF_lt (x := 154) (Nat.le_of_ble_eq_true rfl)).mp (ax_gx hE (154, [3, 7]) ax_m1)
  rw [c_at] at F154
  have hb : ρ 2 / 4 < pz_gN (ρ 0) → pz_b (pz_gt (ρ 0)) (ρ 2 / 4) = ρ 5 / 4 := fun hl => by
    have e := F131.2.2 (ρ 2 / 4) hl
    rw [c_tape] at e
    have e := Option.some.inj e
    omega
  have hN : ρ 4 / 4 = pz_gN (ρ 0) := F131.1
  have hlt : ρ 2 / 4 < pz_gN (ρ 0) := by omega
  have e1 : ρ 2 / 4 = pz_at (pz_gt (ρ 0)) (pz_gN (ρ 0)) (pz_p (pz_cf (pz_gt (ρ 0)) (pz_gN (ρ 0)) (ρ 1 / 4))) := F154
  have hb1 := hb hlt
  rw [e1] at hb1
  have hl1 : pz_at (pz_gt (ρ 0)) (pz_gN (ρ 0)) (pz_p (pz_cf (pz_gt (ρ 0)) (pz_gN (ρ 0)) (ρ 1 / 4))) < pz_gN (ρ 0) := by omega
  obtain ⟨k1, k2⟩ := pz_kd_sg hl1 (by rw [hb1]; exact pz_lt_no (by omega)) (by rw [hb1]; exact pz_dg_no (by omega))
  rw [hb1] at k1
  rw [pz_sg_no (by omega) (by omega) (by omega) (by omega) (by omega) (by omega) (by omega) (by omega)] at k1
  have k3 : pz_kd (pz_gt (ρ 0)) (pz_gN (ρ 0)) (pz_p (pz_cf (pz_gt (ρ 0)) (pz_gN (ρ 0)) (ρ 1 / 4))) = 3 := k1
  refine ⟨(fun y hy => by cases hy), _, List.mem_cons_self, ρ, fun _ _ => rfl, ax_px hE rfl (fun x hx => ?_)⟩
  cases List.mem_singleton.mp hx
  refine (ax_XF_wr (x := 151) (Nat.le_of_ble_eq_true rfl)).mpr ?_
  show ay_ex (ax_upd hp 702 (60) (4)) 173 ∧ ay_ex (ax_upd hp 702 (60) (4)) 173 ∧ ay_ex (ax_upd hp 702 (60) (4)) 173 ∧ ay_ex (ax_upd hp 702 (60) (4)) 173 ∧ ay_ex (ax_upd hp 702 (60) (4)) 173 ∧ pz_y151 (ρ 0) (ρ 1) (ay_at (ax_upd hp 702 (60) (4)) 173 13) (ay_at (ax_upd hp 702 (60) (4)) 173 14) (ay_at (ax_upd hp 702 (60) (4)) 173 15) (ay_at (ax_upd hp 702 (60) (4)) 173 16) (ay_at (ax_upd hp 702 (60) (4)) 173 17)
  obtain ⟨o0, ho0⟩ := ay_some hT (q := 173) (g := 11) (n := 58) (ax_wc hw ax_cg_173) (ax_wn hw ax_cn_11) (j := 60 / 4) (Nat.le_of_ble_eq_true rfl)
  have u1 : ∀ q, q ≠ 173 → ay_at (ax_upd hp 702 60 (4)) q = ay_at hp q := fun q hq => funext (fun j => ay_upd_ne hT.1 hq j)
  have u2 : ∀ j, ay_at (ax_upd hp 702 60 (4)) 173 j = if j = 15 then some (4) else ay_at hp 173 j := fun j => ay_upd_eq hT.1 rfl ho0 j
  refine ⟨ay_ex_upd hT.1 (ax_cellT hT (q := 173) (g := 11) (ax_wc hw ax_cg_173)), ay_ex_upd hT.1 (ax_cellT hT (q := 173) (g := 11) (ax_wc hw ax_cg_173)), ay_ex_upd hT.1 (ax_cellT hT (q := 173) (g := 11) (ax_wc hw ax_cg_173)), ay_ex_upd hT.1 (ax_cellT hT (q := 173) (g := 11) (ax_wc hw ax_cg_173)), ay_ex_upd hT.1 (ax_cellT hT (q := 173) (g := 11) (ax_wc hw ax_cg_173)), ?_⟩
  rw [u2 13, if_neg (show ¬ 13 = 15 from Nat.ne_of_beq_eq_false rfl), u2 14, if_neg (show ¬ 14 = 15 from Nat.ne_of_beq_eq_false rfl), u2 15, if_pos rfl, u2 16, if_neg (show ¬ 16 = 15 from Nat.ne_of_beq_eq_false rfl), u2 17, if_neg (show ¬ 17 = 15 from Nat.ne_of_beq_eq_false rfl)]
  rw [c_at]
  rw [c_next]
  exact ⟨by show ρ 3 / 4 = _; rw [k2, ← e1]; omega, e1, by show 4 / 4 = pz_tok _; rw [k3]; rfl, fun z => absurd (k3.symm.trans z) (by decide), fun z => absurd (k3.symm.trans z) (by decide)⟩
theorem axq0_sc8_c : ax_RO ax_wM0 (ax_XM 0) axu0_sc8_c := axqg_sc8_c ax_WW0
theorem axqg_sc8_d {w : ax_W} {b : Nat} (hw : ax_WW w) : ax_RO w (ax_XM b) axu0_sc8_d := by
  intro ρ hp hE hT
  have j0 : ρ 0 % 4 = 1 := pz_gj hE 0 (Nat.le_of_ble_eq_true rfl) rfl
  have j1 : ρ 1 % 4 = 1 := pz_gj hE 1 (Nat.le_of_ble_eq_true rfl) rfl
  obtain ⟨i2a, i2b, i2c, i2d⟩ := pz_gi hE 2 2147483648 2147484448 (Nat.le_of_ble_eq_true rfl) rfl
  obtain ⟨i3a, i3b, i3c, i3d⟩ := pz_gi hE 3 2147483648 2147484449 (Nat.le_of_ble_eq_true rfl) rfl
  obtain ⟨i4a, i4b, i4c, i4d⟩ := pz_gi hE 4 2147483648 2147484448 (Nat.le_of_ble_eq_true rfl) rfl
  obtain ⟨i5a, i5b, i5c, i5d⟩ := pz_gi hE 5 2147483694 2147483694 (Nat.le_of_ble_eq_true rfl) rfl
  have c_at : ay_at hp 173 14 = some (ρ 2) := ay_gfj hE 702 56 11 173 14 ax_m2 (ax_vlq rfl rfl) (ax_vlj rfl rfl)
  have c_next : ay_at hp 173 13 = some (ρ 3) := ay_gfj hE 702 52 15 173 13 ax_m3 (ax_vlq rfl rfl) (ax_vlj rfl rfl)
  have s1 : (ρ 2 / 4 + 2147483648) % 4294967296 + (4 / 4 + 2147483648) % 4294967296 = (ρ 3 / 4 + 2147483648) % 4294967296 + 2147483648 := pz_gs hE 11 4 15 ax_m4
  have c_size : ay_at hp 173 12 = some (ρ 4) := ay_gfj hE 702 48 19 173 12 ax_m5 (ax_vlq rfl rfl) (ax_vlj rfl rfl)
  have r1 : (ρ 2 / 4 + 2147483648) % 4294967296 < (ρ 4 / 4 + 2147483648) % 4294967296 := pz_gc hE 2 11 19 (Nat.le_of_ble_eq_true rfl) ax_m6
  have c_tape : ay_at hp 183 (ρ 2 / 4) = some (ρ 5) := ay_gf hE 742 11 23 183 ax_m7 (ax_vlq rfl rfl)
  obtain ⟨-, -, F131⟩ : ay_ex hp 173 ∧ ay_ex hp 183 ∧ pz_x30 (ρ 0) (ay_at hp 173 12) (ay_at hp 183) := (ax_XF_lt (x := 131) (Nat.le_of_ble_eq_true rfl)).mp (ax_gx hE (131, [3]) ax_m0)
  rw [c_size] at F131
  obtain ⟨-, F154⟩ : ay_ex hp 173 ∧ ay_ln (ay_at hp 173 14) = pz_at (pz_gt (ρ 0)) (pz_gN (ρ 0)) (pz_p (pz_cF (ρ 0) (ρ 1))) := (ax_XF_lt (x := 154) (Nat.le_of_ble_eq_true rfl)).mp (ax_gx hE (154, [3, 7]) ax_m1)
  rw [c_at] at F154
  have hb : ρ 2 / 4 < pz_gN (ρ 0) → pz_b (pz_gt (ρ 0)) (ρ 2 / 4) = ρ 5 / 4 := fun hl => by
    have e := F131.2.2 (ρ 2 / 4) hl
    rw [c_tape] at e
    have e := Option.some.inj e
    omega
  have hN : ρ 4 / 4 = pz_gN (ρ 0) := F131.1
  have hlt : ρ 2 / 4 < pz_gN (ρ 0) := by omega
  have e1 : ρ 2 / 4 = pz_at (pz_gt (ρ 0)) (pz_gN (ρ 0)) (pz_p (pz_cf (pz_gt (ρ 0)) (pz_gN (ρ 0)) (ρ 1 / 4))) := F154
  have hb1 := hb hlt
  rw [e1] at hb1
  have hl1 : pz_at (pz_gt (ρ 0)) (pz_gN (ρ 0)) (pz_p (pz_cf (pz_gt (ρ 0)) (pz_gN (ρ 0)) (ρ 1 / 4))) < pz_gN (ρ 0) := by omega
  obtain ⟨k1, k2⟩ := pz_kd_sg hl1 (by rw [hb1]; exact pz_lt_no (by omega)) (by rw [hb1]; exact pz_dg_no (by omega))
  rw [hb1] at k1
  rw [pz_sg_no (by omega) (by omega) (by omega) (by omega) (by omega) (by omega) (by omega) (by omega)] at k1
  have k3 : pz_kd (pz_gt (ρ 0)) (pz_gN (ρ 0)) (pz_p (pz_cf (pz_gt (ρ 0)) (pz_gN (ρ 0)) (ρ 1 / 4))) = 3 := k1
  refine ⟨(fun y hy => by cases hy), _, List.mem_cons_self, ρ, fun _ _ => rfl, ax_px hE rfl (fun x hx => ?_)⟩
  cases List.mem_singleton.mp hx
  refine (ax_XF_wr (x := 151) (Nat.le_of_ble_eq_true rfl)).mpr ?_
  show ay_ex (ax_upd hp 702 (60) (4)) 173 ∧ ay_ex (ax_upd hp 702 (60) (4)) 173 ∧ ay_ex (ax_upd hp 702 (60) (4)) 173 ∧ ay_ex (ax_upd hp 702 (60) (4)) 173 ∧ ay_ex (ax_upd hp 702 (60) (4)) 173 ∧ pz_y151 (ρ 0) (ρ 1) (ay_at (ax_upd hp 702 (60) (4)) 173 13) (ay_at (ax_upd hp 702 (60) (4)) 173 14) (ay_at (ax_upd hp 702 (60) (4)) 173 15) (ay_at (ax_upd hp 702 (60) (4)) 173 16) (ay_at (ax_upd hp 702 (60) (4)) 173 17)
  obtain ⟨o0, ho0⟩ := ay_some hT (q := 173) (g := 11) (n := 58) (ax_wc hw ax_cg_173) (ax_wn hw ax_cn_11) (j := 60 / 4) (Nat.le_of_ble_eq_true rfl)
  have u1 : ∀ q, q ≠ 173 → ay_at (ax_upd hp 702 60 (4)) q = ay_at hp q := fun q hq => funext (fun j => ay_upd_ne hT.1 hq j)
  have u2 : ∀ j, ay_at (ax_upd hp 702 60 (4)) 173 j = if j = 15 then some (4) else ay_at hp 173 j := fun j => ay_upd_eq hT.1 rfl ho0 j
  refine ⟨ay_ex_upd hT.1 (ax_cellT hT (q := 173) (g := 11) (ax_wc hw ax_cg_173)), ay_ex_upd hT.1 (ax_cellT hT (q := 173) (g := 11) (ax_wc hw ax_cg_173)), ay_ex_upd hT.1 (ax_cellT hT (q := 173) (g := 11) (ax_wc hw ax_cg_173)), ay_ex_upd hT.1 (ax_cellT hT (q := 173) (g := 11) (ax_wc hw ax_cg_173)), ay_ex_upd hT.1 (ax_cellT hT (q := 173) (g := 11) (ax_wc hw ax_cg_173)), ?_⟩
  rw [u2 13, if_neg (show ¬ 13 = 15 from Nat.ne_of_beq_eq_false rfl), u2 14, if_neg (show ¬ 14 = 15 from Nat.ne_of_beq_eq_false rfl), u2 15, if_pos rfl, u2 16, if_neg (show ¬ 16 = 15 from Nat.ne_of_beq_eq_false rfl), u2 17, if_neg (show ¬ 17 = 15 from Nat.ne_of_beq_eq_false rfl)]
  rw [c_at]
  rw [c_next]
  exact ⟨by show ρ 3 / 4 = _; rw [k2, ← e1]; omega, e1, by show 4 / 4 = pz_tok _; rw [k3]; rfl, fun z => absurd (k3.symm.trans z) (by decide), fun z => absurd (k3.symm.trans z) (by decide)⟩
theorem axq0_sc8_d : ax_RO ax_wM0 (ax_XM 0) axu0_sc8_d := axqg_sc8_d ax_WW0
theorem axqg_sc8_e {w : ax_W} {b : Nat} (hw : ax_WW w) : ax_RO w (ax_XM b) axu0_sc8_e := by
  intro ρ hp hE hT
  have j0 : ρ 0 % 4 = 1 := pz_gj hE 0 (Nat.le_of_ble_eq_true rfl) rfl
  have j1 : ρ 1 % 4 = 1 := pz_gj hE 1 (Nat.le_of_ble_eq_true rfl) rfl
  obtain ⟨i2a, i2b, i2c, i2d⟩ := pz_gi hE 2 2147483648 2147484448 (Nat.le_of_ble_eq_true rfl) rfl
  obtain ⟨i3a, i3b, i3c, i3d⟩ := pz_gi hE 3 2147483648 2147484449 (Nat.le_of_ble_eq_true rfl) rfl
  obtain ⟨i4a, i4b, i4c, i4d⟩ := pz_gi hE 4 2147483648 2147484448 (Nat.le_of_ble_eq_true rfl) rfl
  obtain ⟨i5a, i5b, i5c, i5d⟩ := pz_gi hE 5 2147483706 2147483706 (Nat.le_of_ble_eq_true rfl) rfl
  have c_at : ay_at hp 173 14 = some (ρ 2) := ay_gfj hE 702 56 11 173 14 ax_m2 (ax_vlq rfl rfl) (ax_vlj rfl rfl)
  have c_next : ay_at hp 173 13 = some (ρ 3) := ay_gfj hE 702 52 15 173 13 ax_m3 (ax_vlq rfl rfl) (ax_vlj rfl rfl)
  have s1 : (ρ 2 / 4 + 2147483648) % 4294967296 + (4 / 4 + 2147483648) % 4294967296 = (ρ 3 / 4 + 2147483648) % 4294967296 + 2147483648 := pz_gs hE 11 4 15 ax_m4
  have c_size : ay_at hp 173 12 = some (ρ 4) := ay_gfj hE 702 48 19 173 12 ax_m5 (ax_vlq rfl rfl) (ax_vlj rfl rfl)
  have r1 : (ρ 2 / 4 + 2147483648) % 4294967296 < (ρ 4 / 4 + 2147483648) % 4294967296 := pz_gc hE 2 11 19 (Nat.le_of_ble_eq_true rfl) ax_m6
  have c_tape : ay_at hp 183 (ρ 2 / 4) = some (ρ 5) := ay_gf hE 742 11 23 183 ax_m7 (ax_vlq rfl rfl)
  obtain ⟨-, -, F131⟩ : ay_ex hp 173 ∧ ay_ex hp 183 ∧ pz_x30 (ρ 0) (ay_at hp 173 12) (ay_at hp 183) := (ax_XF_lt (x := 131) (Nat.le_of_ble_eq_true rfl)).mp (ax_gx hE (131, [3]) ax_m0)
  rw [c_size] at F131
  obtain ⟨-, F154⟩ : ay_ex hp 173 ∧ ay_ln (ay_at hp 173 14) = pz_at (pz_gt (ρ 0)) (pz_gN (ρ 0)) (pz_p (pz_cF (ρ 0) (ρ 1))) := (ax_XF_lt (x := 154) (Nat.le_of_ble_eq_true rfl)).mp (ax_gx hE (154, [3, 7]) ax_m1)
  rw [c_at] at F154
  have hb : ρ 2 / 4 < pz_gN (ρ 0) → pz_b (pz_gt (ρ 0)) (ρ 2 / 4) = ρ 5 / 4 := fun hl => by
    have e := F131.2.2 (ρ 2 / 4) hl
    rw [c_tape] at e
    have e := Option.some.inj e
    omega
  have hN : ρ 4 / 4 = pz_gN (ρ 0) := F131.1
  have hlt : ρ 2 / 4 < pz_gN (ρ 0) := by omega
  have e1 : ρ 2 / 4 = pz_at (pz_gt (ρ 0)) (pz_gN (ρ 0)) (pz_p (pz_cf (pz_gt (ρ 0)) (pz_gN (ρ 0)) (ρ 1 / 4))) := F154
  have hb1 := hb hlt
  rw [e1] at hb1
  have hl1 : pz_at (pz_gt (ρ 0)) (pz_gN (ρ 0)) (pz_p (pz_cf (pz_gt (ρ 0)) (pz_gN (ρ 0)) (ρ 1 / 4))) < pz_gN (ρ 0) := by omega
  obtain ⟨k1, k2⟩ := pz_kd_sg hl1 (by rw [hb1]; exact pz_lt_no (by omega)) (by rw [hb1]; exact pz_dg_no (by omega))
  rw [hb1] at k1
  rw [pz_sg_no (by omega) (by omega) (by omega) (by omega) (by omega) (by omega) (by omega) (by omega)] at k1
  have k3 : pz_kd (pz_gt (ρ 0)) (pz_gN (ρ 0)) (pz_p (pz_cf (pz_gt (ρ 0)) (pz_gN (ρ 0)) (ρ 1 / 4))) = 3 := k1
  refine ⟨(fun y hy => by cases hy), _, List.mem_cons_self, ρ, fun _ _ => rfl, ax_px hE rfl (fun x hx => ?_)⟩
  cases List.mem_singleton.mp hx
  refine (ax_XF_wr (x := 151) (Nat.le_of_ble_eq_true rfl)).mpr ?_
  show ay_ex (ax_upd hp 702 (60) (4)) 173 ∧ ay_ex (ax_upd hp 702 (60) (4)) 173 ∧ ay_ex (ax_upd hp 702 (60) (4)) 173 ∧ ay_ex (ax_upd hp 702 (60) (4)) 173 ∧ ay_ex (ax_upd hp 702 (60) (4)) 173 ∧ pz_y151 (ρ 0) (ρ 1) (ay_at (ax_upd hp 702 (60) (4)) 173 13) (ay_at (ax_upd hp 702 (60) (4)) 173 14) (ay_at (ax_upd hp 702 (60) (4)) 173 15) (ay_at (ax_upd hp 702 (60) (4)) 173 16) (ay_at (ax_upd hp 702 (60) (4)) 173 17)
  obtain ⟨o0, ho0⟩ := ay_some hT (q := 173) (g := 11) (n := 58) (ax_wc hw ax_cg_173) (ax_wn hw ax_cn_11) (j := 60 / 4) (Nat.le_of_ble_eq_true rfl)
  have u1 : ∀ q, q ≠ 173 → ay_at (ax_upd hp 702 60 (4)) q = ay_at hp q := fun q hq => funext (fun j => ay_upd_ne hT.1 hq j)
  have u2 : ∀ j, ay_at (ax_upd hp 702 60 (4)) 173 j = if j = 15 then some (4) else ay_at hp 173 j := fun j => ay_upd_eq hT.1 rfl ho0 j
  refine ⟨ay_ex_upd hT.1 (ax_cellT hT (q := 173) (g := 11) (ax_wc hw ax_cg_173)), ay_ex_upd hT.1 (ax_cellT hT (q := 173) (g := 11) (ax_wc hw ax_cg_173)), ay_ex_upd hT.1 (ax_cellT hT (q := 173) (g := 11) (ax_wc hw ax_cg_173)), ay_ex_upd hT.1 (ax_cellT hT (q := 173) (g := 11) (ax_wc hw ax_cg_173)), ay_ex_upd hT.1 (ax_cellT hT (q := 173) (g := 11) (ax_wc hw ax_cg_173)), ?_⟩
  rw [u2 13, if_neg (show ¬ 13 = 15 from Nat.ne_of_beq_eq_false rfl), u2 14, if_neg (show ¬ 14 = 15 from Nat.ne_of_beq_eq_false rfl), u2 15, if_pos rfl, u2 16, if_neg (show ¬ 16 = 15 from Nat.ne_of_beq_eq_false rfl), u2 17, if_neg (show ¬ 17 = 15 from Nat.ne_of_beq_eq_false rfl)]
  rw [c_at]
  rw [c_next]
  exact ⟨by show ρ 3 / 4 = _; rw [k2, ← e1]; omega, e1, by show 4 / 4 = pz_tok _; rw [k3]; rfl, fun z => absurd (k3.symm.trans z) (by decide), fun z => absurd (k3.symm.trans z) (by decide)⟩
theorem axq0_sc8_e : ax_RO ax_wM0 (ax_XM 0) axu0_sc8_e := axqg_sc8_e ax_WW0
theorem axqg_sc8_f {w : ax_W} {b : Nat} (hw : ax_WW w) : ax_RO w (ax_XM b) axu0_sc8_f := by
  intro ρ hp hE hT
  have j0 : ρ 0 % 4 = 1 := pz_gj hE 0 (Nat.le_of_ble_eq_true rfl) rfl
  have j1 : ρ 1 % 4 = 1 := pz_gj hE 1 (Nat.le_of_ble_eq_true rfl) rfl
  obtain ⟨i2a, i2b, i2c, i2d⟩ := pz_gi hE 2 2147483648 2147484448 (Nat.le_of_ble_eq_true rfl) rfl
  obtain ⟨i3a, i3b, i3c, i3d⟩ := pz_gi hE 3 2147483648 2147484449 (Nat.le_of_ble_eq_true rfl) rfl
  obtain ⟨i4a, i4b, i4c, i4d⟩ := pz_gi hE 4 2147483648 2147484448 (Nat.le_of_ble_eq_true rfl) rfl
  obtain ⟨i5a, i5b, i5c, i5d⟩ := pz_gi hE 5 2147483708 2147483744 (Nat.le_of_ble_eq_true rfl) rfl
  have c_at : ay_at hp 173 14 = some (ρ 2) := ay_gfj hE 702 56 11 173 14 ax_m2 (ax_vlq rfl rfl) (ax_vlj rfl rfl)
  have c_next : ay_at hp 173 13 = some (ρ 3) := ay_gfj hE 702 52 15 173 13 ax_m3 (ax_vlq rfl rfl) (ax_vlj rfl rfl)
  have s1 : (ρ 2 / 4 + 2147483648) % 4294967296 + (4 / 4 + 2147483648) % 4294967296 = (ρ 3 / 4 + 2147483648) % 4294967296 + 2147483648 := pz_gs hE 11 4 15 ax_m4
  have c_size : ay_at hp 173 12 = some (ρ 4) := ay_gfj hE 702 48 19 173 12 ax_m5 (ax_vlq rfl rfl) (ax_vlj rfl rfl)
  have r1 : (ρ 2 / 4 + 2147483648) % 4294967296 < (ρ 4 / 4 + 2147483648) % 4294967296 := pz_gc hE 2 11 19 (Nat.le_of_ble_eq_true rfl) ax_m6
  have c_tape : ay_at hp 183 (ρ 2 / 4) = some (ρ 5) := ay_gf hE 742 11 23 183 ax_m7 (ax_vlq rfl rfl)
  obtain ⟨-, -, F131⟩ : ay_ex hp 173 ∧ ay_ex hp 183 ∧ pz_x30 (ρ 0) (ay_at hp 173 12) (ay_at hp 183) := (ax_XF_lt (x := 131) (Nat.le_of_ble_eq_true rfl)).mp (ax_gx hE (131, [3]) ax_m0)
  rw [c_size] at F131
  obtain ⟨-, F154⟩ : ay_ex hp 173 ∧ ay_ln (ay_at hp 173 14) = pz_at (pz_gt (ρ 0)) (pz_gN (ρ 0)) (pz_p (pz_cF (ρ 0) (ρ 1))) := (ax_XF_lt (x := 154) (Nat.le_of_ble_eq_true rfl)).mp (ax_gx hE (154, [3, 7]) ax_m1)
  rw [c_at] at F154
  have hb : ρ 2 / 4 < pz_gN (ρ 0) → pz_b (pz_gt (ρ 0)) (ρ 2 / 4) = ρ 5 / 4 := fun hl => by
    have e := F131.2.2 (ρ 2 / 4) hl
    rw [c_tape] at e
    have e := Option.some.inj e
    omega
  have hN : ρ 4 / 4 = pz_gN (ρ 0) := F131.1
  have hlt : ρ 2 / 4 < pz_gN (ρ 0) := by omega
  have e1 : ρ 2 / 4 = pz_at (pz_gt (ρ 0)) (pz_gN (ρ 0)) (pz_p (pz_cf (pz_gt (ρ 0)) (pz_gN (ρ 0)) (ρ 1 / 4))) := F154
  have hb1 := hb hlt
  rw [e1] at hb1
  have hl1 : pz_at (pz_gt (ρ 0)) (pz_gN (ρ 0)) (pz_p (pz_cf (pz_gt (ρ 0)) (pz_gN (ρ 0)) (ρ 1 / 4))) < pz_gN (ρ 0) := by omega
  obtain ⟨k1, k2⟩ := pz_kd_sg hl1 (by rw [hb1]; exact pz_lt_no (by omega)) (by rw [hb1]; exact pz_dg_no (by omega))
  rw [hb1] at k1
  rw [pz_sg_no (by omega) (by omega) (by omega) (by omega) (by omega) (by omega) (by omega) (by omega)] at k1
  have k3 : pz_kd (pz_gt (ρ 0)) (pz_gN (ρ 0)) (pz_p (pz_cf (pz_gt (ρ 0)) (pz_gN (ρ 0)) (ρ 1 / 4))) = 3 := k1
  refine ⟨(fun y hy => by cases hy), _, List.mem_cons_self, ρ, fun _ _ => rfl, ax_px hE rfl (fun x hx => ?_)⟩
  cases List.mem_singleton.mp hx
  refine (ax_XF_wr (x := 151) (Nat.le_of_ble_eq_true rfl)).mpr ?_
  show ay_ex (ax_upd hp 702 (60) (4)) 173 ∧ ay_ex (ax_upd hp 702 (60) (4)) 173 ∧ ay_ex (ax_upd hp 702 (60) (4)) 173 ∧ ay_ex (ax_upd hp 702 (60) (4)) 173 ∧ ay_ex (ax_upd hp 702 (60) (4)) 173 ∧ pz_y151 (ρ 0) (ρ 1) (ay_at (ax_upd hp 702 (60) (4)) 173 13) (ay_at (ax_upd hp 702 (60) (4)) 173 14) (ay_at (ax_upd hp 702 (60) (4)) 173 15) (ay_at (ax_upd hp 702 (60) (4)) 173 16) (ay_at (ax_upd hp 702 (60) (4)) 173 17)
  obtain ⟨o0, ho0⟩ := ay_some hT (q := 173) (g := 11) (n := 58) (ax_wc hw ax_cg_173) (ax_wn hw ax_cn_11) (j := 60 / 4) (Nat.le_of_ble_eq_true rfl)
  have u1 : ∀ q, q ≠ 173 → ay_at (ax_upd hp 702 60 (4)) q = ay_at hp q := fun q hq => funext (fun j => ay_upd_ne hT.1 hq j)
  have u2 : ∀ j, ay_at (ax_upd hp 702 60 (4)) 173 j = if j = 15 then some (4) else ay_at hp 173 j := fun j => ay_upd_eq hT.1 rfl ho0 j
  refine ⟨ay_ex_upd hT.1 (ax_cellT hT (q := 173) (g := 11) (ax_wc hw ax_cg_173)), ay_ex_upd hT.1 (ax_cellT hT (q := 173) (g := 11) (ax_wc hw ax_cg_173)), ay_ex_upd hT.1 (ax_cellT hT (q := 173) (g := 11) (ax_wc hw ax_cg_173)), ay_ex_upd hT.1 (ax_cellT hT (q := 173) (g := 11) (ax_wc hw ax_cg_173)), ay_ex_upd hT.1 (ax_cellT hT (q := 173) (g := 11) (ax_wc hw ax_cg_173)), ?_⟩
  rw [u2 13, if_neg (show ¬ 13 = 15 from Nat.ne_of_beq_eq_false rfl), u2 14, if_neg (show ¬ 14 = 15 from Nat.ne_of_beq_eq_false rfl), u2 15, if_pos rfl, u2 16, if_neg (show ¬ 16 = 15 from Nat.ne_of_beq_eq_false rfl), u2 17, if_neg (show ¬ 17 = 15 from Nat.ne_of_beq_eq_false rfl)]
  rw [c_at]
  rw [c_next]
  exact ⟨by show ρ 3 / 4 = _; rw [k2, ← e1]; omega, e1, by show 4 / 4 = pz_tok _; rw [k3]; rfl, fun z => absurd (k3.symm.trans z) (by decide), fun z => absurd (k3.symm.trans z) (by decide)⟩
theorem axq0_sc8_f : ax_RO ax_wM0 (ax_XM 0) axu0_sc8_f := axqg_sc8_f ax_WW0
theorem axqg_sc8_g {w : ax_W} {b : Nat} (hw : ax_WW w) : ax_RO w (ax_XM b) axu0_sc8_g := by
  intro ρ hp hE hT
  have j0 : ρ 0 % 4 = 1 := pz_gj hE 0 (Nat.le_of_ble_eq_true rfl) rfl
  have j1 : ρ 1 % 4 = 1 := pz_gj hE 1 (Nat.le_of_ble_eq_true rfl) rfl
  obtain ⟨i2a, i2b, i2c, i2d⟩ := pz_gi hE 2 2147483648 2147484448 (Nat.le_of_ble_eq_true rfl) rfl
  obtain ⟨i3a, i3b, i3c, i3d⟩ := pz_gi hE 3 2147483648 2147484449 (Nat.le_of_ble_eq_true rfl) rfl
  obtain ⟨i4a, i4b, i4c, i4d⟩ := pz_gi hE 4 2147483648 2147484448 (Nat.le_of_ble_eq_true rfl) rfl
  obtain ⟨i5a, i5b, i5c, i5d⟩ := pz_gi hE 5 2147483771 2147483775 (Nat.le_of_ble_eq_true rfl) rfl
  have c_at : ay_at hp 173 14 = some (ρ 2) := ay_gfj hE 702 56 11 173 14 ax_m2 (ax_vlq rfl rfl) (ax_vlj rfl rfl)
  have c_next : ay_at hp 173 13 = some (ρ 3) := ay_gfj hE 702 52 15 173 13 ax_m3 (ax_vlq rfl rfl) (ax_vlj rfl rfl)
  have s1 : (ρ 2 / 4 + 2147483648) % 4294967296 + (4 / 4 + 2147483648) % 4294967296 = (ρ 3 / 4 + 2147483648) % 4294967296 + 2147483648 := pz_gs hE 11 4 15 ax_m4
  have c_size : ay_at hp 173 12 = some (ρ 4) := ay_gfj hE 702 48 19 173 12 ax_m5 (ax_vlq rfl rfl) (ax_vlj rfl rfl)
  have r1 : (ρ 2 / 4 + 2147483648) % 4294967296 < (ρ 4 / 4 + 2147483648) % 4294967296 := pz_gc hE 2 11 19 (Nat.le_of_ble_eq_true rfl) ax_m6
  have c_tape : ay_at hp 183 (ρ 2 / 4) = some (ρ 5) := ay_gf hE 742 11 23 183 ax_m7 (ax_vlq rfl rfl)
  obtain ⟨-, -, F131⟩ : ay_ex hp 173 ∧ ay_ex hp 183 ∧ pz_x30 (ρ 0) (ay_at hp 173 12) (ay_at hp 183) := (ax_XF_lt (x := 131) (Nat.le_of_ble_eq_true rfl)).mp (ax_gx hE (131, [3]) ax_m0)
  rw [c_size] at F131
  obtain ⟨-, F154⟩ : ay_ex hp 173 ∧ ay_ln (ay_at hp 173 14) = pz_at (pz_gt (ρ 0)) (pz_gN (ρ 0)) (pz_p (pz_cF (ρ 0) (ρ 1))) := (ax_XF_lt (x := 154) (Nat.le_of_ble_eq_true rfl)).mp (ax_gx hE (154, [3, 7]) ax_m1)
  rw [c_at] at F154
  have hb : ρ 2 / 4 < pz_gN (ρ 0) → pz_b (pz_gt (ρ 0)) (ρ 2 / 4) = ρ 5 / 4 := fun hl => by
    have e := F131.2.2 (ρ 2 / 4) hl
    rw [c_tape] at e
    have e := Option.some.inj e
    omega
  have hN : ρ 4 / 4 = pz_gN (ρ 0) := F131.1
  have hlt : ρ 2 / 4 < pz_gN (ρ 0) := by omega
  have e1 : ρ 2 / 4 = pz_at (pz_gt (ρ 0)) (pz_gN (ρ 0)) (pz_p (pz_cf (pz_gt (ρ 0)) (pz_gN (ρ 0)) (ρ 1 / 4))) := F154
  have hb1 := hb hlt
  rw [e1] at hb1
  have hl1 : pz_at (pz_gt (ρ 0)) (pz_gN (ρ 0)) (pz_p (pz_cf (pz_gt (ρ 0)) (pz_gN (ρ 0)) (ρ 1 / 4))) < pz_gN (ρ 0) := by omega
  obtain ⟨k1, k2⟩ := pz_kd_sg hl1 (by rw [hb1]; exact pz_lt_no (by omega)) (by rw [hb1]; exact pz_dg_no (by omega))
  rw [hb1] at k1
  rw [pz_sg_no (by omega) (by omega) (by omega) (by omega) (by omega) (by omega) (by omega) (by omega)] at k1
  have k3 : pz_kd (pz_gt (ρ 0)) (pz_gN (ρ 0)) (pz_p (pz_cf (pz_gt (ρ 0)) (pz_gN (ρ 0)) (ρ 1 / 4))) = 3 := k1
  refine ⟨(fun y hy => by cases hy), _, List.mem_cons_self, ρ, fun _ _ => rfl, ax_px hE rfl (fun x hx => ?_)⟩
  cases List.mem_singleton.mp hx
  refine (ax_XF_wr (x := 151) (Nat.le_of_ble_eq_true rfl)).mpr ?_
  show ay_ex (ax_upd hp 702 (60) (4)) 173 ∧ ay_ex (ax_upd hp 702 (60) (4)) 173 ∧ ay_ex (ax_upd hp 702 (60) (4)) 173 ∧ ay_ex (ax_upd hp 702 (60) (4)) 173 ∧ ay_ex (ax_upd hp 702 (60) (4)) 173 ∧ pz_y151 (ρ 0) (ρ 1) (ay_at (ax_upd hp 702 (60) (4)) 173 13) (ay_at (ax_upd hp 702 (60) (4)) 173 14) (ay_at (ax_upd hp 702 (60) (4)) 173 15) (ay_at (ax_upd hp 702 (60) (4)) 173 16) (ay_at (ax_upd hp 702 (60) (4)) 173 17)
  obtain ⟨o0, ho0⟩ := ay_some hT (q := 173) (g := 11) (n := 58) (ax_wc hw ax_cg_173) (ax_wn hw ax_cn_11) (j := 60 / 4) (Nat.le_of_ble_eq_true rfl)
  have u1 : ∀ q, q ≠ 173 → ay_at (ax_upd hp 702 60 (4)) q = ay_at hp q := fun q hq => funext (fun j => ay_upd_ne hT.1 hq j)
  have u2 : ∀ j, ay_at (ax_upd hp 702 60 (4)) 173 j = if j = 15 then some (4) else ay_at hp 173 j := fun j => ay_upd_eq hT.1 rfl ho0 j
  refine ⟨ay_ex_upd hT.1 (ax_cellT hT (q := 173) (g := 11) (ax_wc hw ax_cg_173)), ay_ex_upd hT.1 (ax_cellT hT (q := 173) (g := 11) (ax_wc hw ax_cg_173)), ay_ex_upd hT.1 (ax_cellT hT (q := 173) (g := 11) (ax_wc hw ax_cg_173)), ay_ex_upd hT.1 (ax_cellT hT (q := 173) (g := 11) (ax_wc hw ax_cg_173)), ay_ex_upd hT.1 (ax_cellT hT (q := 173) (g := 11) (ax_wc hw ax_cg_173)), ?_⟩
  rw [u2 13, if_neg (show ¬ 13 = 15 from Nat.ne_of_beq_eq_false rfl), u2 14, if_neg (show ¬ 14 = 15 from Nat.ne_of_beq_eq_false rfl), u2 15, if_pos rfl, u2 16, if_neg (show ¬ 16 = 15 from Nat.ne_of_beq_eq_false rfl), u2 17, if_neg (show ¬ 17 = 15 from Nat.ne_of_beq_eq_false rfl)]
  rw [c_at]
  rw [c_next]
  exact ⟨by show ρ 3 / 4 = _; rw [k2, ← e1]; omega, e1, by show 4 / 4 = pz_tok _; rw [k3]; rfl, fun z => absurd (k3.symm.trans z) (by decide), fun z => absurd (k3.symm.trans z) (by decide)⟩
theorem axq0_sc8_g : ax_RO ax_wM0 (ax_XM 0) axu0_sc8_g := axqg_sc8_g ax_WW0
theorem axqg_sw1 {w : ax_W} {b : Nat} (hw : ax_WW w) : ax_RO w (ax_XM b) axu0_sw1 := by
  intro ρ hp hE hT
  have j0 : ρ 0 % 4 = 1 := pz_gj hE 0 (Nat.le_of_ble_eq_true rfl) rfl
  have j1 : ρ 1 % 4 = 1 := pz_gj hE 1 (Nat.le_of_ble_eq_true rfl) rfl
  obtain ⟨i2a, i2b, i2c, i2d⟩ := pz_gi hE 2 2147483648 2147484448 (Nat.le_of_ble_eq_true rfl) rfl
  have c_at : ay_at hp 173 14 = some (ρ 2) := ay_gfj hE 702 56 11 173 14 ax_m2 (ax_vlq rfl rfl) (ax_vlj rfl rfl)
  obtain ⟨-, F154⟩ : ay_ex hp 173 ∧ ay_ln (ay_at hp 173 14) = pz_at (pz_gt (ρ 0)) (pz_gN (ρ 0)) (pz_p (pz_cF (ρ 0) (ρ 1))) := (ax_XF_lt (x := 154) (Nat.le_of_ble_eq_true rfl)).mp (ax_gx hE (154, [3, 7]) ax_m0)
  rw [c_at] at F154
  have F168 : pz_kd (pz_gt (ρ 0)) (pz_gN (ρ 0)) (pz_p (pz_cF (ρ 0) (ρ 1))) = (4) / 4 := (ax_XF_lt (x := 168) (Nat.le_of_ble_eq_true rfl)).mp (ax_gx hE (168, [3, 7, 4]) ax_m1)
  have e1 : ρ 2 / 4 = pz_at (pz_gt (ρ 0)) (pz_gN (ρ 0)) (pz_p (pz_cf (pz_gt (ρ 0)) (pz_gN (ρ 0)) (ρ 1 / 4))) := F154
  refine ⟨(fun y hy => by cases hy), _, List.mem_cons_self, ρ, fun _ _ => rfl, ax_px hE rfl (fun x hx => ?_)⟩
  cases List.mem_singleton.mp hx
  refine (ax_XF_wr (x := 155) (Nat.le_of_ble_eq_true rfl)).mpr ?_
  show ay_ex (ax_upd hp 702 (52) (ρ 2)) 173 ∧ pz_e pz_lt (pz_gt (ρ 0)) (pz_gN (ρ 0)) (ay_ln (ay_at (ax_upd hp 702 (52) (ρ 2)) 173 13)) = pz_nx (pz_gt (ρ 0)) (pz_gN (ρ 0)) (pz_p (pz_cF (ρ 0) (ρ 1)))
  obtain ⟨o0, ho0⟩ := ay_some hT (q := 173) (g := 11) (n := 58) (ax_wc hw ax_cg_173) (ax_wn hw ax_cn_11) (j := 52 / 4) (Nat.le_of_ble_eq_true rfl)
  have u1 : ∀ q, q ≠ 173 → ay_at (ax_upd hp 702 52 (ρ 2)) q = ay_at hp q := fun q hq => funext (fun j => ay_upd_ne hT.1 hq j)
  have u2 : ∀ j, ay_at (ax_upd hp 702 52 (ρ 2)) 173 j = if j = 13 then some (ρ 2) else ay_at hp 173 j := fun j => ay_upd_eq hT.1 rfl ho0 j
  refine ⟨ay_ex_upd hT.1 (ax_cellT hT (q := 173) (g := 11) (ax_wc hw ax_cg_173)), ?_⟩
  rw [u2 13, if_pos rfl]
  show pz_e pz_lt (pz_gt (ρ 0)) (pz_gN (ρ 0)) (ρ 2 / 4) = _
  rw [e1]
  exact (pz_kd1 (show _ = 1 from F168)).symm
theorem axq0_sw1 : ax_RO ax_wM0 (ax_XM 0) axu0_sw1 := axqg_sw1 ax_WW0
theorem axqg_sw2 {w : ax_W} {b : Nat} (hw : ax_WW w) : ax_RO w (ax_XM b) axu0_sw2 := by
  intro ρ hp hE hT
  have j0 : ρ 0 % 4 = 1 := pz_gj hE 0 (Nat.le_of_ble_eq_true rfl) rfl
  have j1 : ρ 1 % 4 = 1 := pz_gj hE 1 (Nat.le_of_ble_eq_true rfl) rfl
  obtain ⟨i2a, i2b, i2c, i2d⟩ := pz_gi hE 2 2147483648 2147484448 (Nat.le_of_ble_eq_true rfl) rfl
  obtain ⟨i3a, i3b, i3c, i3d⟩ := pz_gi hE 3 0 4294967295 (Nat.le_of_ble_eq_true rfl) rfl
  obtain ⟨i4a, i4b, i4c, i4d⟩ := pz_gi hE 4 2147483648 2147484448 (Nat.le_of_ble_eq_true rfl) rfl
  obtain ⟨i5a, i5b, i5c, i5d⟩ := pz_gi hE 5 2147483745 2147483770 (Nat.le_of_ble_eq_true rfl) rfl
  have c_next : ay_at hp 173 13 = some (ρ 2) := ay_gfj hE 702 52 11 173 13 ax_m2 (ax_vlq rfl rfl) (ax_vlj rfl rfl)
  have c_size : ay_at hp 173 12 = some (ρ 4) := ay_gfj hE 702 48 19 173 12 ax_m3 (ax_vlq rfl rfl) (ax_vlj rfl rfl)
  have r1 : (ρ 2 / 4 + 2147483648) % 4294967296 < (ρ 4 / 4 + 2147483648) % 4294967296 := pz_gc hE 2 11 19 (Nat.le_of_ble_eq_true rfl) ax_m4
  have c_tape : ay_at hp 183 (ρ 2 / 4) = some (ρ 5) := ay_gf hE 742 11 23 183 ax_m5 (ax_vlq rfl rfl)
  have s1 : (ρ 2 / 4 + 2147483648) % 4294967296 + (4 / 4 + 2147483648) % 4294967296 = (ρ 3 / 4 + 2147483648) % 4294967296 + 2147483648 := pz_gs hE 11 4 15 ax_m6
  obtain ⟨-, -, F131⟩ : ay_ex hp 173 ∧ ay_ex hp 183 ∧ pz_x30 (ρ 0) (ay_at hp 173 12) (ay_at hp 183) := (ax_XF_lt (x := 131) (Nat.le_of_ble_eq_true rfl)).mp (ax_gx hE (131, [3]) ax_m0)
  rw [c_size] at F131
  obtain ⟨-, F155⟩ : ay_ex hp 173 ∧ pz_e pz_lt (pz_gt (ρ 0)) (pz_gN (ρ 0)) (ay_ln (ay_at hp 173 13)) = pz_nx (pz_gt (ρ 0)) (pz_gN (ρ 0)) (pz_p (pz_cF (ρ 0) (ρ 1))) := (ax_XF_lt (x := 155) (Nat.le_of_ble_eq_true rfl)).mp (ax_gx hE (155, [3, 7]) ax_m1)
  rw [c_next] at F155
  have hb : ρ 2 / 4 < pz_gN (ρ 0) → pz_b (pz_gt (ρ 0)) (ρ 2 / 4) = ρ 5 / 4 := fun hl => by
    have e := F131.2.2 (ρ 2 / 4) hl
    rw [c_tape] at e
    have e := Option.some.inj e
    omega
  have hN : ρ 4 / 4 = pz_gN (ρ 0) := F131.1
  have hlt : ρ 2 / 4 < pz_gN (ρ 0) := by omega
  refine ⟨(fun y hy => by cases hy), _, List.mem_cons_self, ρ, fun _ _ => rfl, ax_px hE rfl (fun x hx => ?_)⟩
  cases List.mem_singleton.mp hx
  refine (ax_XF_wr (x := 155) (Nat.le_of_ble_eq_true rfl)).mpr ?_
  show ay_ex (ax_upd hp 702 (52) (ρ 3)) 173 ∧ pz_e pz_lt (pz_gt (ρ 0)) (pz_gN (ρ 0)) (ay_ln (ay_at (ax_upd hp 702 (52) (ρ 3)) 173 13)) = pz_nx (pz_gt (ρ 0)) (pz_gN (ρ 0)) (pz_p (pz_cF (ρ 0) (ρ 1)))
  obtain ⟨o0, ho0⟩ := ay_some hT (q := 173) (g := 11) (n := 58) (ax_wc hw ax_cg_173) (ax_wn hw ax_cn_11) (j := 52 / 4) (Nat.le_of_ble_eq_true rfl)
  have u1 : ∀ q, q ≠ 173 → ay_at (ax_upd hp 702 52 (ρ 3)) q = ay_at hp q := fun q hq => funext (fun j => ay_upd_ne hT.1 hq j)
  have u2 : ∀ j, ay_at (ax_upd hp 702 52 (ρ 3)) 173 j = if j = 13 then some (ρ 3) else ay_at hp 173 j := fun j => ay_upd_eq hT.1 rfl ho0 j
  refine ⟨ay_ex_upd hT.1 (ax_cellT hT (q := 173) (g := 11) (ax_wc hw ax_cg_173)), ?_⟩
  rw [u2 13, if_pos rfl]
  show pz_e pz_lt (pz_gt (ρ 0)) (pz_gN (ρ 0)) (ρ 3 / 4) = _
  rw [show ρ 3 / 4 = ρ 2 / 4 + 1 by omega]
  exact (pz_e_on hlt (by rw [hb hlt]; exact pz_lt_yes (by omega) (by omega))).symm.trans F155
theorem axq0_sw2 : ax_RO ax_wM0 (ax_XM 0) axu0_sw2 := axqg_sw2 ax_WW0
theorem axqg_sw3_e {w : ax_W} {b : Nat} (hw : ax_WW w) : ax_RO w (ax_XM b) axu0_sw3_e := by
  intro ρ hp hE hT
  have j0 : ρ 0 % 4 = 1 := pz_gj hE 0 (Nat.le_of_ble_eq_true rfl) rfl
  have j1 : ρ 1 % 4 = 1 := pz_gj hE 1 (Nat.le_of_ble_eq_true rfl) rfl
  obtain ⟨i2a, i2b, i2c, i2d⟩ := pz_gi hE 2 2147483648 2147484448 (Nat.le_of_ble_eq_true rfl) rfl
  obtain ⟨i3a, i3b, i3c, i3d⟩ := pz_gi hE 3 2147483648 2147484448 (Nat.le_of_ble_eq_true rfl) rfl
  have c_next : ay_at hp 173 13 = some (ρ 2) := ay_gfj hE 702 52 11 173 13 ax_m2 (ax_vlq rfl rfl) (ax_vlj rfl rfl)
  have c_size : ay_at hp 173 12 = some (ρ 3) := ay_gfj hE 702 48 15 173 12 ax_m3 (ax_vlq rfl rfl) (ax_vlj rfl rfl)
  have r1 : (ρ 3 / 4 + 2147483648) % 4294967296 ≤ (ρ 2 / 4 + 2147483648) % 4294967296 := pz_gc hE 3 11 15 (Nat.le_of_ble_eq_true rfl) ax_m4
  obtain ⟨-, -, F131⟩ : ay_ex hp 173 ∧ ay_ex hp 183 ∧ pz_x30 (ρ 0) (ay_at hp 173 12) (ay_at hp 183) := (ax_XF_lt (x := 131) (Nat.le_of_ble_eq_true rfl)).mp (ax_gx hE (131, [3]) ax_m0)
  rw [c_size] at F131
  obtain ⟨-, F155⟩ : ay_ex hp 173 ∧ pz_e pz_lt (pz_gt (ρ 0)) (pz_gN (ρ 0)) (ay_ln (ay_at hp 173 13)) = pz_nx (pz_gt (ρ 0)) (pz_gN (ρ 0)) (pz_p (pz_cF (ρ 0) (ρ 1))) := (ax_XF_lt (x := 155) (Nat.le_of_ble_eq_true rfl)).mp (ax_gx hE (155, [3, 7]) ax_m1)
  rw [c_next] at F155
  have hN : ρ 3 / 4 = pz_gN (ρ 0) := F131.1
  have e : pz_e pz_lt (pz_gt (ρ 0)) (pz_gN (ρ 0)) (ρ 2 / 4) = ρ 2 / 4 := pz_e_off (Or.inl (by omega))
  refine ⟨(fun y hy => by cases hy), _, List.mem_cons_self, ρ, fun _ _ => rfl, ax_px hE rfl (fun x hx => ?_)⟩
  cases List.mem_singleton.mp hx
  refine (ax_XF_lt (x := 156) (Nat.le_of_ble_eq_true rfl)).mpr ?_
  show ay_ex hp 173 ∧ ay_ln (ay_at hp 173 13) = pz_nx (pz_gt (ρ 0)) (pz_gN (ρ 0)) (pz_p (pz_cF (ρ 0) (ρ 1)))
  refine ⟨(ax_cellT hT (q := 173) (g := 11) (ax_wc hw ax_cg_173)), ?_⟩
  rw [c_next]
  exact e.symm.trans F155
theorem axq0_sw3_e : ax_RO ax_wM0 (ax_XM 0) axu0_sw3_e := axqg_sw3_e ax_WW0
theorem axqg_sw3_a {w : ax_W} {b : Nat} (hw : ax_WW w) : ax_RO w (ax_XM b) axu0_sw3_a := by
  intro ρ hp hE hT
  have j0 : ρ 0 % 4 = 1 := pz_gj hE 0 (Nat.le_of_ble_eq_true rfl) rfl
  have j1 : ρ 1 % 4 = 1 := pz_gj hE 1 (Nat.le_of_ble_eq_true rfl) rfl
  obtain ⟨i2a, i2b, i2c, i2d⟩ := pz_gi hE 2 2147483648 2147484448 (Nat.le_of_ble_eq_true rfl) rfl
  obtain ⟨i3a, i3b, i3c, i3d⟩ := pz_gi hE 3 2147483520 2147483744 (Nat.le_of_ble_eq_true rfl) rfl
  have c_next : ay_at hp 173 13 = some (ρ 2) := ay_gfj hE 702 52 11 173 13 ax_m2 (ax_vlq rfl rfl) (ax_vlj rfl rfl)
  have c_tape : ay_at hp 183 (ρ 2 / 4) = some (ρ 3) := ay_gf hE 742 11 15 183 ax_m3 (ax_vlq rfl rfl)
  obtain ⟨-, -, F131⟩ : ay_ex hp 173 ∧ ay_ex hp 183 ∧ pz_x30 (ρ 0) (ay_at hp 173 12) (ay_at hp 183) := (ax_XF_lt (x := 131) (Nat.le_of_ble_eq_true rfl)).mp (ax_gx hE (131, [3]) ax_m0)
  obtain ⟨-, F155⟩ : ay_ex hp 173 ∧ pz_e pz_lt (pz_gt (ρ 0)) (pz_gN (ρ 0)) (ay_ln (ay_at hp 173 13)) = pz_nx (pz_gt (ρ 0)) (pz_gN (ρ 0)) (pz_p (pz_cF (ρ 0) (ρ 1))) := (ax_XF_lt (x := 155) (Nat.le_of_ble_eq_true rfl)).mp (ax_gx hE (155, [3, 7]) ax_m1)
  rw [c_next] at F155
  have hb : ρ 2 / 4 < pz_gN (ρ 0) → pz_b (pz_gt (ρ 0)) (ρ 2 / 4) = ρ 3 / 4 := fun hl => by
    have e := F131.2.2 (ρ 2 / 4) hl
    rw [c_tape] at e
    have e := Option.some.inj e
    omega
  have e : pz_e pz_lt (pz_gt (ρ 0)) (pz_gN (ρ 0)) (ρ 2 / 4) = ρ 2 / 4 := pz_e_off (by
    by_cases hl : ρ 2 / 4 < pz_gN (ρ 0)
    · exact Or.inr (by rw [hb hl]; exact pz_lt_no (by omega))
    · exact Or.inl (by omega))
  refine ⟨(fun y hy => by cases hy), _, List.mem_cons_self, ρ, fun _ _ => rfl, ax_px hE rfl (fun x hx => ?_)⟩
  cases List.mem_singleton.mp hx
  refine (ax_XF_lt (x := 156) (Nat.le_of_ble_eq_true rfl)).mpr ?_
  show ay_ex hp 173 ∧ ay_ln (ay_at hp 173 13) = pz_nx (pz_gt (ρ 0)) (pz_gN (ρ 0)) (pz_p (pz_cF (ρ 0) (ρ 1)))
  refine ⟨(ax_cellT hT (q := 173) (g := 11) (ax_wc hw ax_cg_173)), ?_⟩
  rw [c_next]
  exact e.symm.trans F155
theorem axq0_sw3_a : ax_RO ax_wM0 (ax_XM 0) axu0_sw3_a := axqg_sw3_a ax_WW0
theorem axqg_sw3_b {w : ax_W} {b : Nat} (hw : ax_WW w) : ax_RO w (ax_XM b) axu0_sw3_b := by
  intro ρ hp hE hT
  have j0 : ρ 0 % 4 = 1 := pz_gj hE 0 (Nat.le_of_ble_eq_true rfl) rfl
  have j1 : ρ 1 % 4 = 1 := pz_gj hE 1 (Nat.le_of_ble_eq_true rfl) rfl
  obtain ⟨i2a, i2b, i2c, i2d⟩ := pz_gi hE 2 2147483648 2147484448 (Nat.le_of_ble_eq_true rfl) rfl
  obtain ⟨i3a, i3b, i3c, i3d⟩ := pz_gi hE 3 2147483771 2147483775 (Nat.le_of_ble_eq_true rfl) rfl
  have c_next : ay_at hp 173 13 = some (ρ 2) := ay_gfj hE 702 52 11 173 13 ax_m2 (ax_vlq rfl rfl) (ax_vlj rfl rfl)
  have c_tape : ay_at hp 183 (ρ 2 / 4) = some (ρ 3) := ay_gf hE 742 11 15 183 ax_m3 (ax_vlq rfl rfl)
  obtain ⟨-, -, F131⟩ : ay_ex hp 173 ∧ ay_ex hp 183 ∧ pz_x30 (ρ 0) (ay_at hp 173 12) (ay_at hp 183) := (ax_XF_lt (x := 131) (Nat.le_of_ble_eq_true rfl)).mp (ax_gx hE (131, [3]) ax_m0)
  obtain ⟨-, F155⟩ : ay_ex hp 173 ∧ pz_e pz_lt (pz_gt (ρ 0)) (pz_gN (ρ 0)) (ay_ln (ay_at hp 173 13)) = pz_nx (pz_gt (ρ 0)) (pz_gN (ρ 0)) (pz_p (pz_cF (ρ 0) (ρ 1))) := (ax_XF_lt (x := 155) (Nat.le_of_ble_eq_true rfl)).mp (ax_gx hE (155, [3, 7]) ax_m1)
  rw [c_next] at F155
  have hb : ρ 2 / 4 < pz_gN (ρ 0) → pz_b (pz_gt (ρ 0)) (ρ 2 / 4) = ρ 3 / 4 := fun hl => by
    have e := F131.2.2 (ρ 2 / 4) hl
    rw [c_tape] at e
    have e := Option.some.inj e
    omega
  have e : pz_e pz_lt (pz_gt (ρ 0)) (pz_gN (ρ 0)) (ρ 2 / 4) = ρ 2 / 4 := pz_e_off (by
    by_cases hl : ρ 2 / 4 < pz_gN (ρ 0)
    · exact Or.inr (by rw [hb hl]; exact pz_lt_no (by omega))
    · exact Or.inl (by omega))
  refine ⟨(fun y hy => by cases hy), _, List.mem_cons_self, ρ, fun _ _ => rfl, ax_px hE rfl (fun x hx => ?_)⟩
  cases List.mem_singleton.mp hx
  refine (ax_XF_lt (x := 156) (Nat.le_of_ble_eq_true rfl)).mpr ?_
  show ay_ex hp 173 ∧ ay_ln (ay_at hp 173 13) = pz_nx (pz_gt (ρ 0)) (pz_gN (ρ 0)) (pz_p (pz_cF (ρ 0) (ρ 1)))
  refine ⟨(ax_cellT hT (q := 173) (g := 11) (ax_wc hw ax_cg_173)), ?_⟩
  rw [c_next]
  exact e.symm.trans F155
theorem axq0_sw3_b : ax_RO ax_wM0 (ax_XM 0) axu0_sw3_b := axqg_sw3_b ax_WW0
theorem axqg_sw4 {w : ax_W} {b : Nat} (hw : ax_WW w) : ax_RO w (ax_XM b) axu0_sw4 := by
  intro ρ hp hE hT
  have j0 : ρ 0 % 4 = 1 := pz_gj hE 0 (Nat.le_of_ble_eq_true rfl) rfl
  have j1 : ρ 1 % 4 = 1 := pz_gj hE 1 (Nat.le_of_ble_eq_true rfl) rfl
  have c_word : ay_at hp 173 17 = some (17179869180) := ay_gfj hE 702 68 17179869180 173 17 ax_m1 (ax_vlq rfl rfl) (ax_vlj rfl rfl)
  obtain ⟨-, F156⟩ : ay_ex hp 173 ∧ ay_ln (ay_at hp 173 13) = pz_nx (pz_gt (ρ 0)) (pz_gN (ρ 0)) (pz_p (pz_cF (ρ 0) (ρ 1))) := (ax_XF_lt (x := 156) (Nat.le_of_ble_eq_true rfl)).mp (ax_gx hE (156, [3, 7]) ax_m0)
  refine ⟨(fun y hy => by cases hy), _, List.mem_cons_self, ρ, fun _ _ => rfl, ax_px hE rfl (fun x hx => ?_)⟩
  cases List.mem_singleton.mp hx
  refine (ax_XF_lt (x := 162) (Nat.le_of_ble_eq_true rfl)).mpr ?_
  show pz_y162 (ρ 0) (ρ 1) (0) (17179869180)
  exact Or.inl ⟨rfl, fun j hj => absurd (show j < 0 from hj) (by omega)⟩
theorem axq0_sw4 : ax_RO ax_wM0 (ax_XM 0) axu0_sw4 := axqg_sw4 ax_WW0
theorem axqg_sw5_0 {w : ax_W} {b : Nat} (hw : ax_WW w) : ax_RO w (ax_XM b) axu0_sw5_0 := by
  intro ρ hp hE hT
  have j0 : ρ 0 % 4 = 1 := pz_gj hE 0 (Nat.le_of_ble_eq_true rfl) rfl
  have j1 : ρ 1 % 4 = 1 := pz_gj hE 1 (Nat.le_of_ble_eq_true rfl) rfl
  obtain ⟨i2a, i2b, i2c, i2d⟩ := pz_gi hE 2 2147483647 2147483655 (Nat.le_of_ble_eq_true rfl) rfl
  have c_word : ay_at hp 173 17 = some (ρ 2) := ay_gfj hE 702 68 11 173 17 ax_m1 (ax_vlq rfl rfl) (ax_vlj rfl rfl)
  have F161 : pz61 (pz_gt (ρ 0)) (pz_gN (ρ 0)) ((ρ 1) / 4) ((0) / 4) := (ax_XF_lt (x := 161) (Nat.le_of_ble_eq_true rfl)).mp (ax_gx hE (161, [3, 7, 0]) ax_m0)
  have F162 : pz_y162 (ρ 0) (ρ 1) (0) (ρ 2) := (ax_XF_lt (x := 162) (Nat.le_of_ble_eq_true rfl)).mp (ax_gx hE (162, [3, 7, 0, 11]) ax_m2)
  refine ⟨(fun y hy => by cases hy), _, List.mem_cons_self, ρ, fun _ _ => rfl, ax_px hE rfl (fun x hx => ?_)⟩
  cases List.mem_singleton.mp hx
  refine (ax_XF_lt (x := 162) (Nat.le_of_ble_eq_true rfl)).mpr ?_
  show pz_y162 (ρ 0) (ρ 1) (4) (ρ 2)
  rcases F162 with ⟨h1, h2⟩ | ⟨h1, h2, h3⟩
  · refine Or.inl ⟨h1, fun j hj => ?_⟩
    replace hj : j < 1 := hj
    by_cases h : j < 0
    · exact h2 j h
    · have e : j = 0 := by omega
      subst e
      exact F161
  · replace h1 : ρ 2 / 4 < 0 := h1
    exact Or.inr ⟨show ρ 2 / 4 < 1 by omega, by decide, h3⟩
theorem axq0_sw5_0 : ax_RO ax_wM0 (ax_XM 0) axu0_sw5_0 := axqg_sw5_0 ax_WW0
theorem axqg_sw6_0 {w : ax_W} {b : Nat} (hw : ax_WW w) : ax_RO w (ax_XM b) axu0_sw6_0 := by
  intro ρ hp hE hT
  have j0 : ρ 0 % 4 = 1 := pz_gj hE 0 (Nat.le_of_ble_eq_true rfl) rfl
  have j1 : ρ 1 % 4 = 1 := pz_gj hE 1 (Nat.le_of_ble_eq_true rfl) rfl
  obtain ⟨i2a, i2b, i2c, i2d⟩ := pz_gi hE 2 2147483648 2147483648 (Nat.le_of_ble_eq_true rfl) rfl
  have c_word : ay_at hp 173 17 = some (ρ 2) := ay_gfj hE 702 68 11 173 17 ax_m1 (ax_vlq rfl rfl) (ax_vlj rfl rfl)
  have F160 : pz60 (pz_gt (ρ 0)) (pz_gN (ρ 0)) ((ρ 1) / 4) ((0) / 4) := (ax_XF_lt (x := 160) (Nat.le_of_ble_eq_true rfl)).mp (ax_gx hE (160, [3, 7, 0]) ax_m0)
  have e : ρ 2 / 4 = 0 := by omega
  refine ⟨(fun y hy => by cases hy), _, List.mem_cons_self, ρ, fun _ _ => rfl, ax_px hE rfl (fun x hx => ?_)⟩
  cases List.mem_singleton.mp hx
  refine (ax_XF_lt (x := 162) (Nat.le_of_ble_eq_true rfl)).mpr ?_
  show pz_y162 (ρ 0) (ρ 1) (4) (ρ 2)
  exact Or.inr ⟨show ρ 2 / 4 < 1 by omega, by decide, by rw [e]; exact F160⟩
theorem axq0_sw6_0 : ax_RO ax_wM0 (ax_XM 0) axu0_sw6_0 := axqg_sw6_0 ax_WW0
theorem axqg_sw5_1 {w : ax_W} {b : Nat} (hw : ax_WW w) : ax_RO w (ax_XM b) axu0_sw5_1 := by
  intro ρ hp hE hT
  have j0 : ρ 0 % 4 = 1 := pz_gj hE 0 (Nat.le_of_ble_eq_true rfl) rfl
  have j1 : ρ 1 % 4 = 1 := pz_gj hE 1 (Nat.le_of_ble_eq_true rfl) rfl
  obtain ⟨i2a, i2b, i2c, i2d⟩ := pz_gi hE 2 2147483647 2147483655 (Nat.le_of_ble_eq_true rfl) rfl
  have c_word : ay_at hp 173 17 = some (ρ 2) := ay_gfj hE 702 68 11 173 17 ax_m1 (ax_vlq rfl rfl) (ax_vlj rfl rfl)
  have F161 : pz61 (pz_gt (ρ 0)) (pz_gN (ρ 0)) ((ρ 1) / 4) ((4) / 4) := (ax_XF_lt (x := 161) (Nat.le_of_ble_eq_true rfl)).mp (ax_gx hE (161, [3, 7, 4]) ax_m0)
  have F162 : pz_y162 (ρ 0) (ρ 1) (4) (ρ 2) := (ax_XF_lt (x := 162) (Nat.le_of_ble_eq_true rfl)).mp (ax_gx hE (162, [3, 7, 4, 11]) ax_m2)
  refine ⟨(fun y hy => by cases hy), _, List.mem_cons_self, ρ, fun _ _ => rfl, ax_px hE rfl (fun x hx => ?_)⟩
  cases List.mem_singleton.mp hx
  refine (ax_XF_lt (x := 162) (Nat.le_of_ble_eq_true rfl)).mpr ?_
  show pz_y162 (ρ 0) (ρ 1) (8) (ρ 2)
  rcases F162 with ⟨h1, h2⟩ | ⟨h1, h2, h3⟩
  · refine Or.inl ⟨h1, fun j hj => ?_⟩
    replace hj : j < 2 := hj
    by_cases h : j < 1
    · exact h2 j h
    · have e : j = 1 := by omega
      subst e
      exact F161
  · replace h1 : ρ 2 / 4 < 1 := h1
    exact Or.inr ⟨show ρ 2 / 4 < 2 by omega, by decide, h3⟩
theorem axq0_sw5_1 : ax_RO ax_wM0 (ax_XM 0) axu0_sw5_1 := axqg_sw5_1 ax_WW0
theorem axqg_sw6_1 {w : ax_W} {b : Nat} (hw : ax_WW w) : ax_RO w (ax_XM b) axu0_sw6_1 := by
  intro ρ hp hE hT
  have j0 : ρ 0 % 4 = 1 := pz_gj hE 0 (Nat.le_of_ble_eq_true rfl) rfl
  have j1 : ρ 1 % 4 = 1 := pz_gj hE 1 (Nat.le_of_ble_eq_true rfl) rfl
  obtain ⟨i2a, i2b, i2c, i2d⟩ := pz_gi hE 2 2147483649 2147483649 (Nat.le_of_ble_eq_true rfl) rfl
  have c_word : ay_at hp 173 17 = some (ρ 2) := ay_gfj hE 702 68 11 173 17 ax_m1 (ax_vlq rfl rfl) (ax_vlj rfl rfl)
  have F160 : pz60 (pz_gt (ρ 0)) (pz_gN (ρ 0)) ((ρ 1) / 4) ((4) / 4) := (ax_XF_lt (x := 160) (Nat.le_of_ble_eq_true rfl)).mp (ax_gx hE (160, [3, 7, 4]) ax_m0)
  have e : ρ 2 / 4 = 1 := by omega
  refine ⟨(fun y hy => by cases hy), _, List.mem_cons_self, ρ, fun _ _ => rfl, ax_px hE rfl (fun x hx => ?_)⟩
  cases List.mem_singleton.mp hx
  refine (ax_XF_lt (x := 162) (Nat.le_of_ble_eq_true rfl)).mpr ?_
  show pz_y162 (ρ 0) (ρ 1) (8) (ρ 2)
  exact Or.inr ⟨show ρ 2 / 4 < 2 by omega, by decide, by rw [e]; exact F160⟩
theorem axq0_sw6_1 : ax_RO ax_wM0 (ax_XM 0) axu0_sw6_1 := axqg_sw6_1 ax_WW0
theorem axqg_sw5_2 {w : ax_W} {b : Nat} (hw : ax_WW w) : ax_RO w (ax_XM b) axu0_sw5_2 := by
  intro ρ hp hE hT
  have j0 : ρ 0 % 4 = 1 := pz_gj hE 0 (Nat.le_of_ble_eq_true rfl) rfl
  have j1 : ρ 1 % 4 = 1 := pz_gj hE 1 (Nat.le_of_ble_eq_true rfl) rfl
  obtain ⟨i2a, i2b, i2c, i2d⟩ := pz_gi hE 2 2147483647 2147483655 (Nat.le_of_ble_eq_true rfl) rfl
  have c_word : ay_at hp 173 17 = some (ρ 2) := ay_gfj hE 702 68 11 173 17 ax_m1 (ax_vlq rfl rfl) (ax_vlj rfl rfl)
  have F161 : pz61 (pz_gt (ρ 0)) (pz_gN (ρ 0)) ((ρ 1) / 4) ((8) / 4) := (ax_XF_lt (x := 161) (Nat.le_of_ble_eq_true rfl)).mp (ax_gx hE (161, [3, 7, 8]) ax_m0)
  have F162 : pz_y162 (ρ 0) (ρ 1) (8) (ρ 2) := (ax_XF_lt (x := 162) (Nat.le_of_ble_eq_true rfl)).mp (ax_gx hE (162, [3, 7, 8, 11]) ax_m2)
  refine ⟨(fun y hy => by cases hy), _, List.mem_cons_self, ρ, fun _ _ => rfl, ax_px hE rfl (fun x hx => ?_)⟩
  cases List.mem_singleton.mp hx
  refine (ax_XF_lt (x := 162) (Nat.le_of_ble_eq_true rfl)).mpr ?_
  show pz_y162 (ρ 0) (ρ 1) (12) (ρ 2)
  rcases F162 with ⟨h1, h2⟩ | ⟨h1, h2, h3⟩
  · refine Or.inl ⟨h1, fun j hj => ?_⟩
    replace hj : j < 3 := hj
    by_cases h : j < 2
    · exact h2 j h
    · have e : j = 2 := by omega
      subst e
      exact F161
  · replace h1 : ρ 2 / 4 < 2 := h1
    exact Or.inr ⟨show ρ 2 / 4 < 3 by omega, by decide, h3⟩
theorem axq0_sw5_2 : ax_RO ax_wM0 (ax_XM 0) axu0_sw5_2 := axqg_sw5_2 ax_WW0
theorem axqg_sw6_2 {w : ax_W} {b : Nat} (hw : ax_WW w) : ax_RO w (ax_XM b) axu0_sw6_2 := by
  intro ρ hp hE hT
  have j0 : ρ 0 % 4 = 1 := pz_gj hE 0 (Nat.le_of_ble_eq_true rfl) rfl
  have j1 : ρ 1 % 4 = 1 := pz_gj hE 1 (Nat.le_of_ble_eq_true rfl) rfl
  obtain ⟨i2a, i2b, i2c, i2d⟩ := pz_gi hE 2 2147483650 2147483650 (Nat.le_of_ble_eq_true rfl) rfl
  have c_word : ay_at hp 173 17 = some (ρ 2) := ay_gfj hE 702 68 11 173 17 ax_m1 (ax_vlq rfl rfl) (ax_vlj rfl rfl)
  have F160 : pz60 (pz_gt (ρ 0)) (pz_gN (ρ 0)) ((ρ 1) / 4) ((8) / 4) := (ax_XF_lt (x := 160) (Nat.le_of_ble_eq_true rfl)).mp (ax_gx hE (160, [3, 7, 8]) ax_m0)
  have e : ρ 2 / 4 = 2 := by omega
  refine ⟨(fun y hy => by cases hy), _, List.mem_cons_self, ρ, fun _ _ => rfl, ax_px hE rfl (fun x hx => ?_)⟩
  cases List.mem_singleton.mp hx
  refine (ax_XF_lt (x := 162) (Nat.le_of_ble_eq_true rfl)).mpr ?_
  show pz_y162 (ρ 0) (ρ 1) (12) (ρ 2)
  exact Or.inr ⟨show ρ 2 / 4 < 3 by omega, by decide, by rw [e]; exact F160⟩
theorem axq0_sw6_2 : ax_RO ax_wM0 (ax_XM 0) axu0_sw6_2 := axqg_sw6_2 ax_WW0
theorem axqg_sw5_3 {w : ax_W} {b : Nat} (hw : ax_WW w) : ax_RO w (ax_XM b) axu0_sw5_3 := by
  intro ρ hp hE hT
  have j0 : ρ 0 % 4 = 1 := pz_gj hE 0 (Nat.le_of_ble_eq_true rfl) rfl
  have j1 : ρ 1 % 4 = 1 := pz_gj hE 1 (Nat.le_of_ble_eq_true rfl) rfl
  obtain ⟨i2a, i2b, i2c, i2d⟩ := pz_gi hE 2 2147483647 2147483655 (Nat.le_of_ble_eq_true rfl) rfl
  have c_word : ay_at hp 173 17 = some (ρ 2) := ay_gfj hE 702 68 11 173 17 ax_m1 (ax_vlq rfl rfl) (ax_vlj rfl rfl)
  have F161 : pz61 (pz_gt (ρ 0)) (pz_gN (ρ 0)) ((ρ 1) / 4) ((16) / 4) := (ax_XF_lt (x := 161) (Nat.le_of_ble_eq_true rfl)).mp (ax_gx hE (161, [3, 7, 16]) ax_m0)
  have F162 : pz_y162 (ρ 0) (ρ 1) (12) (ρ 2) := (ax_XF_lt (x := 162) (Nat.le_of_ble_eq_true rfl)).mp (ax_gx hE (162, [3, 7, 12, 11]) ax_m2)
  refine ⟨(fun y hy => by cases hy), _, List.mem_cons_self, ρ, fun _ _ => rfl, ax_px hE rfl (fun x hx => ?_)⟩
  cases List.mem_singleton.mp hx
  refine (ax_XF_lt (x := 162) (Nat.le_of_ble_eq_true rfl)).mpr ?_
  show pz_y162 (ρ 0) (ρ 1) (16) (ρ 2)
  rcases F162 with ⟨h1, h2⟩ | ⟨h1, h2, h3⟩
  · refine Or.inl ⟨h1, fun j hj => ?_⟩
    replace hj : j < 4 := hj
    by_cases h : j < 3
    · exact h2 j h
    · have e : j = 3 := by omega
      subst e
      exact F161
  · replace h1 : ρ 2 / 4 < 3 := h1
    exact Or.inr ⟨show ρ 2 / 4 < 4 by omega, by decide, h3⟩
theorem axq0_sw5_3 : ax_RO ax_wM0 (ax_XM 0) axu0_sw5_3 := axqg_sw5_3 ax_WW0
theorem axqg_sw6_3 {w : ax_W} {b : Nat} (hw : ax_WW w) : ax_RO w (ax_XM b) axu0_sw6_3 := by
  intro ρ hp hE hT
  have j0 : ρ 0 % 4 = 1 := pz_gj hE 0 (Nat.le_of_ble_eq_true rfl) rfl
  have j1 : ρ 1 % 4 = 1 := pz_gj hE 1 (Nat.le_of_ble_eq_true rfl) rfl
  obtain ⟨i2a, i2b, i2c, i2d⟩ := pz_gi hE 2 2147483651 2147483651 (Nat.le_of_ble_eq_true rfl) rfl
  have c_word : ay_at hp 173 17 = some (ρ 2) := ay_gfj hE 702 68 11 173 17 ax_m1 (ax_vlq rfl rfl) (ax_vlj rfl rfl)
  have F160 : pz60 (pz_gt (ρ 0)) (pz_gN (ρ 0)) ((ρ 1) / 4) ((16) / 4) := (ax_XF_lt (x := 160) (Nat.le_of_ble_eq_true rfl)).mp (ax_gx hE (160, [3, 7, 16]) ax_m0)
  have e : ρ 2 / 4 = 3 := by omega
  refine ⟨(fun y hy => by cases hy), _, List.mem_cons_self, ρ, fun _ _ => rfl, ax_px hE rfl (fun x hx => ?_)⟩
  cases List.mem_singleton.mp hx
  refine (ax_XF_lt (x := 162) (Nat.le_of_ble_eq_true rfl)).mpr ?_
  show pz_y162 (ρ 0) (ρ 1) (16) (ρ 2)
  exact Or.inr ⟨show ρ 2 / 4 < 4 by omega, by decide, by rw [e]; exact F160⟩
theorem axq0_sw6_3 : ax_RO ax_wM0 (ax_XM 0) axu0_sw6_3 := axqg_sw6_3 ax_WW0
theorem axqg_sw5_4 {w : ax_W} {b : Nat} (hw : ax_WW w) : ax_RO w (ax_XM b) axu0_sw5_4 := by
  intro ρ hp hE hT
  have j0 : ρ 0 % 4 = 1 := pz_gj hE 0 (Nat.le_of_ble_eq_true rfl) rfl
  have j1 : ρ 1 % 4 = 1 := pz_gj hE 1 (Nat.le_of_ble_eq_true rfl) rfl
  obtain ⟨i2a, i2b, i2c, i2d⟩ := pz_gi hE 2 2147483647 2147483655 (Nat.le_of_ble_eq_true rfl) rfl
  have c_word : ay_at hp 173 17 = some (ρ 2) := ay_gfj hE 702 68 11 173 17 ax_m1 (ax_vlq rfl rfl) (ax_vlj rfl rfl)
  have F161 : pz61 (pz_gt (ρ 0)) (pz_gN (ρ 0)) ((ρ 1) / 4) ((12) / 4) := (ax_XF_lt (x := 161) (Nat.le_of_ble_eq_true rfl)).mp (ax_gx hE (161, [3, 7, 12]) ax_m0)
  have F162 : pz_y162 (ρ 0) (ρ 1) (16) (ρ 2) := (ax_XF_lt (x := 162) (Nat.le_of_ble_eq_true rfl)).mp (ax_gx hE (162, [3, 7, 16, 11]) ax_m2)
  refine ⟨(fun y hy => by cases hy), _, List.mem_cons_self, ρ, fun _ _ => rfl, ax_px hE rfl (fun x hx => ?_)⟩
  cases List.mem_singleton.mp hx
  refine (ax_XF_lt (x := 162) (Nat.le_of_ble_eq_true rfl)).mpr ?_
  show pz_y162 (ρ 0) (ρ 1) (20) (ρ 2)
  rcases F162 with ⟨h1, h2⟩ | ⟨h1, h2, h3⟩
  · refine Or.inl ⟨h1, fun j hj => ?_⟩
    replace hj : j < 5 := hj
    by_cases h : j < 4
    · exact h2 j h
    · have e : j = 4 := by omega
      subst e
      exact F161
  · replace h1 : ρ 2 / 4 < 4 := h1
    exact Or.inr ⟨show ρ 2 / 4 < 5 by omega, by decide, h3⟩
theorem axq0_sw5_4 : ax_RO ax_wM0 (ax_XM 0) axu0_sw5_4 := axqg_sw5_4 ax_WW0
theorem axqg_sw6_4 {w : ax_W} {b : Nat} (hw : ax_WW w) : ax_RO w (ax_XM b) axu0_sw6_4 := by
  intro ρ hp hE hT
  have j0 : ρ 0 % 4 = 1 := pz_gj hE 0 (Nat.le_of_ble_eq_true rfl) rfl
  have j1 : ρ 1 % 4 = 1 := pz_gj hE 1 (Nat.le_of_ble_eq_true rfl) rfl
  obtain ⟨i2a, i2b, i2c, i2d⟩ := pz_gi hE 2 2147483652 2147483652 (Nat.le_of_ble_eq_true rfl) rfl
  have c_word : ay_at hp 173 17 = some (ρ 2) := ay_gfj hE 702 68 11 173 17 ax_m1 (ax_vlq rfl rfl) (ax_vlj rfl rfl)
  have F160 : pz60 (pz_gt (ρ 0)) (pz_gN (ρ 0)) ((ρ 1) / 4) ((12) / 4) := (ax_XF_lt (x := 160) (Nat.le_of_ble_eq_true rfl)).mp (ax_gx hE (160, [3, 7, 12]) ax_m0)
  have e : ρ 2 / 4 = 4 := by omega
  refine ⟨(fun y hy => by cases hy), _, List.mem_cons_self, ρ, fun _ _ => rfl, ax_px hE rfl (fun x hx => ?_)⟩
  cases List.mem_singleton.mp hx
  refine (ax_XF_lt (x := 162) (Nat.le_of_ble_eq_true rfl)).mpr ?_
  show pz_y162 (ρ 0) (ρ 1) (20) (ρ 2)
  exact Or.inr ⟨show ρ 2 / 4 < 5 by omega, by decide, by rw [e]; exact F160⟩
theorem axq0_sw6_4 : ax_RO ax_wM0 (ax_XM 0) axu0_sw6_4 := axqg_sw6_4 ax_WW0
theorem axqg_sw5_5 {w : ax_W} {b : Nat} (hw : ax_WW w) : ax_RO w (ax_XM b) axu0_sw5_5 := by
  intro ρ hp hE hT
  have j0 : ρ 0 % 4 = 1 := pz_gj hE 0 (Nat.le_of_ble_eq_true rfl) rfl
  have j1 : ρ 1 % 4 = 1 := pz_gj hE 1 (Nat.le_of_ble_eq_true rfl) rfl
  obtain ⟨i2a, i2b, i2c, i2d⟩ := pz_gi hE 2 2147483647 2147483655 (Nat.le_of_ble_eq_true rfl) rfl
  have c_word : ay_at hp 173 17 = some (ρ 2) := ay_gfj hE 702 68 11 173 17 ax_m1 (ax_vlq rfl rfl) (ax_vlj rfl rfl)
  have F161 : pz61 (pz_gt (ρ 0)) (pz_gN (ρ 0)) ((ρ 1) / 4) ((20) / 4) := (ax_XF_lt (x := 161) (Nat.le_of_ble_eq_true rfl)).mp (ax_gx hE (161, [3, 7, 20]) ax_m0)
  have F162 : pz_y162 (ρ 0) (ρ 1) (20) (ρ 2) := (ax_XF_lt (x := 162) (Nat.le_of_ble_eq_true rfl)).mp (ax_gx hE (162, [3, 7, 20, 11]) ax_m2)
  refine ⟨(fun y hy => by cases hy), _, List.mem_cons_self, ρ, fun _ _ => rfl, ax_px hE rfl (fun x hx => ?_)⟩
  cases List.mem_singleton.mp hx
  refine (ax_XF_lt (x := 162) (Nat.le_of_ble_eq_true rfl)).mpr ?_
  show pz_y162 (ρ 0) (ρ 1) (24) (ρ 2)
  rcases F162 with ⟨h1, h2⟩ | ⟨h1, h2, h3⟩
  · refine Or.inl ⟨h1, fun j hj => ?_⟩
    replace hj : j < 6 := hj
    by_cases h : j < 5
    · exact h2 j h
    · have e : j = 5 := by omega
      subst e
      exact F161
  · replace h1 : ρ 2 / 4 < 5 := h1
    exact Or.inr ⟨show ρ 2 / 4 < 6 by omega, by decide, h3⟩
theorem axq0_sw5_5 : ax_RO ax_wM0 (ax_XM 0) axu0_sw5_5 := axqg_sw5_5 ax_WW0
theorem axqg_sw6_5 {w : ax_W} {b : Nat} (hw : ax_WW w) : ax_RO w (ax_XM b) axu0_sw6_5 := by
  intro ρ hp hE hT
  have j0 : ρ 0 % 4 = 1 := pz_gj hE 0 (Nat.le_of_ble_eq_true rfl) rfl
  have j1 : ρ 1 % 4 = 1 := pz_gj hE 1 (Nat.le_of_ble_eq_true rfl) rfl
  obtain ⟨i2a, i2b, i2c, i2d⟩ := pz_gi hE 2 2147483653 2147483653 (Nat.le_of_ble_eq_true rfl) rfl
  have c_word : ay_at hp 173 17 = some (ρ 2) := ay_gfj hE 702 68 11 173 17 ax_m1 (ax_vlq rfl rfl) (ax_vlj rfl rfl)
  have F160 : pz60 (pz_gt (ρ 0)) (pz_gN (ρ 0)) ((ρ 1) / 4) ((20) / 4) := (ax_XF_lt (x := 160) (Nat.le_of_ble_eq_true rfl)).mp (ax_gx hE (160, [3, 7, 20]) ax_m0)
  have e : ρ 2 / 4 = 5 := by omega
  refine ⟨(fun y hy => by cases hy), _, List.mem_cons_self, ρ, fun _ _ => rfl, ax_px hE rfl (fun x hx => ?_)⟩
  cases List.mem_singleton.mp hx
  refine (ax_XF_lt (x := 162) (Nat.le_of_ble_eq_true rfl)).mpr ?_
  show pz_y162 (ρ 0) (ρ 1) (24) (ρ 2)
  exact Or.inr ⟨show ρ 2 / 4 < 6 by omega, by decide, by rw [e]; exact F160⟩
theorem axq0_sw6_5 : ax_RO ax_wM0 (ax_XM 0) axu0_sw6_5 := axqg_sw6_5 ax_WW0
theorem axqg_sw5_6 {w : ax_W} {b : Nat} (hw : ax_WW w) : ax_RO w (ax_XM b) axu0_sw5_6 := by
  intro ρ hp hE hT
  have j0 : ρ 0 % 4 = 1 := pz_gj hE 0 (Nat.le_of_ble_eq_true rfl) rfl
  have j1 : ρ 1 % 4 = 1 := pz_gj hE 1 (Nat.le_of_ble_eq_true rfl) rfl
  obtain ⟨i2a, i2b, i2c, i2d⟩ := pz_gi hE 2 2147483647 2147483655 (Nat.le_of_ble_eq_true rfl) rfl
  have c_word : ay_at hp 173 17 = some (ρ 2) := ay_gfj hE 702 68 11 173 17 ax_m1 (ax_vlq rfl rfl) (ax_vlj rfl rfl)
  have F161 : pz61 (pz_gt (ρ 0)) (pz_gN (ρ 0)) ((ρ 1) / 4) ((24) / 4) := (ax_XF_lt (x := 161) (Nat.le_of_ble_eq_true rfl)).mp (ax_gx hE (161, [3, 7, 24]) ax_m0)
  have F162 : pz_y162 (ρ 0) (ρ 1) (24) (ρ 2) := (ax_XF_lt (x := 162) (Nat.le_of_ble_eq_true rfl)).mp (ax_gx hE (162, [3, 7, 24, 11]) ax_m2)
  refine ⟨(fun y hy => by cases hy), _, List.mem_cons_self, ρ, fun _ _ => rfl, ax_px hE rfl (fun x hx => ?_)⟩
  cases List.mem_singleton.mp hx
  refine (ax_XF_lt (x := 162) (Nat.le_of_ble_eq_true rfl)).mpr ?_
  show pz_y162 (ρ 0) (ρ 1) (28) (ρ 2)
  rcases F162 with ⟨h1, h2⟩ | ⟨h1, h2, h3⟩
  · refine Or.inl ⟨h1, fun j hj => ?_⟩
    replace hj : j < 7 := hj
    by_cases h : j < 6
    · exact h2 j h
    · have e : j = 6 := by omega
      subst e
      exact F161
  · replace h1 : ρ 2 / 4 < 6 := h1
    exact Or.inr ⟨show ρ 2 / 4 < 7 by omega, by decide, h3⟩
theorem axq0_sw5_6 : ax_RO ax_wM0 (ax_XM 0) axu0_sw5_6 := axqg_sw5_6 ax_WW0
theorem axqg_sw6_6 {w : ax_W} {b : Nat} (hw : ax_WW w) : ax_RO w (ax_XM b) axu0_sw6_6 := by
  intro ρ hp hE hT
  have j0 : ρ 0 % 4 = 1 := pz_gj hE 0 (Nat.le_of_ble_eq_true rfl) rfl
  have j1 : ρ 1 % 4 = 1 := pz_gj hE 1 (Nat.le_of_ble_eq_true rfl) rfl
  obtain ⟨i2a, i2b, i2c, i2d⟩ := pz_gi hE 2 2147483654 2147483654 (Nat.le_of_ble_eq_true rfl) rfl
  have c_word : ay_at hp 173 17 = some (ρ 2) := ay_gfj hE 702 68 11 173 17 ax_m1 (ax_vlq rfl rfl) (ax_vlj rfl rfl)
  have F160 : pz60 (pz_gt (ρ 0)) (pz_gN (ρ 0)) ((ρ 1) / 4) ((24) / 4) := (ax_XF_lt (x := 160) (Nat.le_of_ble_eq_true rfl)).mp (ax_gx hE (160, [3, 7, 24]) ax_m0)
  have e : ρ 2 / 4 = 6 := by omega
  refine ⟨(fun y hy => by cases hy), _, List.mem_cons_self, ρ, fun _ _ => rfl, ax_px hE rfl (fun x hx => ?_)⟩
  cases List.mem_singleton.mp hx
  refine (ax_XF_lt (x := 162) (Nat.le_of_ble_eq_true rfl)).mpr ?_
  show pz_y162 (ρ 0) (ρ 1) (28) (ρ 2)
  exact Or.inr ⟨show ρ 2 / 4 < 7 by omega, by decide, by rw [e]; exact F160⟩
theorem axq0_sw6_6 : ax_RO ax_wM0 (ax_XM 0) axu0_sw6_6 := axqg_sw6_6 ax_WW0
theorem axqg_sw5_7 {w : ax_W} {b : Nat} (hw : ax_WW w) : ax_RO w (ax_XM b) axu0_sw5_7 := by
  intro ρ hp hE hT
  have j0 : ρ 0 % 4 = 1 := pz_gj hE 0 (Nat.le_of_ble_eq_true rfl) rfl
  have j1 : ρ 1 % 4 = 1 := pz_gj hE 1 (Nat.le_of_ble_eq_true rfl) rfl
  obtain ⟨i2a, i2b, i2c, i2d⟩ := pz_gi hE 2 2147483647 2147483655 (Nat.le_of_ble_eq_true rfl) rfl
  have c_word : ay_at hp 173 17 = some (ρ 2) := ay_gfj hE 702 68 11 173 17 ax_m1 (ax_vlq rfl rfl) (ax_vlj rfl rfl)
  have F161 : pz61 (pz_gt (ρ 0)) (pz_gN (ρ 0)) ((ρ 1) / 4) ((28) / 4) := (ax_XF_lt (x := 161) (Nat.le_of_ble_eq_true rfl)).mp (ax_gx hE (161, [3, 7, 28]) ax_m0)
  have F162 : pz_y162 (ρ 0) (ρ 1) (28) (ρ 2) := (ax_XF_lt (x := 162) (Nat.le_of_ble_eq_true rfl)).mp (ax_gx hE (162, [3, 7, 28, 11]) ax_m2)
  refine ⟨(fun y hy => by cases hy), _, List.mem_cons_self, ρ, fun _ _ => rfl, ax_px hE rfl (fun x hx => ?_)⟩
  cases List.mem_singleton.mp hx
  refine (ax_XF_lt (x := 162) (Nat.le_of_ble_eq_true rfl)).mpr ?_
  show pz_y162 (ρ 0) (ρ 1) (32) (ρ 2)
  rcases F162 with ⟨h1, h2⟩ | ⟨h1, h2, h3⟩
  · refine Or.inl ⟨h1, fun j hj => ?_⟩
    replace hj : j < 8 := hj
    by_cases h : j < 7
    · exact h2 j h
    · have e : j = 7 := by omega
      subst e
      exact F161
  · replace h1 : ρ 2 / 4 < 7 := h1
    exact Or.inr ⟨show ρ 2 / 4 < 8 by omega, by decide, h3⟩
theorem axq0_sw5_7 : ax_RO ax_wM0 (ax_XM 0) axu0_sw5_7 := axqg_sw5_7 ax_WW0
theorem axqg_sw6_7 {w : ax_W} {b : Nat} (hw : ax_WW w) : ax_RO w (ax_XM b) axu0_sw6_7 := by
  intro ρ hp hE hT
  have j0 : ρ 0 % 4 = 1 := pz_gj hE 0 (Nat.le_of_ble_eq_true rfl) rfl
  have j1 : ρ 1 % 4 = 1 := pz_gj hE 1 (Nat.le_of_ble_eq_true rfl) rfl
  obtain ⟨i2a, i2b, i2c, i2d⟩ := pz_gi hE 2 2147483655 2147483655 (Nat.le_of_ble_eq_true rfl) rfl
  have c_word : ay_at hp 173 17 = some (ρ 2) := ay_gfj hE 702 68 11 173 17 ax_m1 (ax_vlq rfl rfl) (ax_vlj rfl rfl)
  have F160 : pz60 (pz_gt (ρ 0)) (pz_gN (ρ 0)) ((ρ 1) / 4) ((28) / 4) := (ax_XF_lt (x := 160) (Nat.le_of_ble_eq_true rfl)).mp (ax_gx hE (160, [3, 7, 28]) ax_m0)
  have e : ρ 2 / 4 = 7 := by omega
  refine ⟨(fun y hy => by cases hy), _, List.mem_cons_self, ρ, fun _ _ => rfl, ax_px hE rfl (fun x hx => ?_)⟩
  cases List.mem_singleton.mp hx
  refine (ax_XF_lt (x := 162) (Nat.le_of_ble_eq_true rfl)).mpr ?_
  show pz_y162 (ρ 0) (ρ 1) (32) (ρ 2)
  exact Or.inr ⟨show ρ 2 / 4 < 8 by omega, by decide, by rw [e]; exact F160⟩
theorem axq0_sw6_7 : ax_RO ax_wM0 (ax_XM 0) axu0_sw6_7 := axqg_sw6_7 ax_WW0
theorem axqg_sw7 {w : ax_W} {b : Nat} (hw : ax_WW w) : ax_RO w (ax_XM b) axu0_sw7 := by
  intro ρ hp hE hT
  have j0 : ρ 0 % 4 = 1 := pz_gj hE 0 (Nat.le_of_ble_eq_true rfl) rfl
  have j1 : ρ 1 % 4 = 1 := pz_gj hE 1 (Nat.le_of_ble_eq_true rfl) rfl
  obtain ⟨i2a, i2b, i2c, i2d⟩ := pz_gi hE 2 2147483647 2147483655 (Nat.le_of_ble_eq_true rfl) rfl
  have c_token : ay_at hp 173 15 = some (8) := ay_gfj hE 702 60 8 173 15 ax_m3 (ax_vlq rfl rfl) (ax_vlj rfl rfl)
  have c_word : ay_at hp 173 17 = some (ρ 2) := ay_gfj hE 702 68 11 173 17 ax_m4 (ax_vlq rfl rfl) (ax_vlj rfl rfl)
  obtain ⟨-, F154⟩ : ay_ex hp 173 ∧ ay_ln (ay_at hp 173 14) = pz_at (pz_gt (ρ 0)) (pz_gN (ρ 0)) (pz_p (pz_cF (ρ 0) (ρ 1))) := (ax_XF_lt (x := 154) (Nat.le_of_ble_eq_true rfl)).mp (ax_gx hE (154, [3, 7]) ax_m0)
  obtain ⟨-, F156⟩ : ay_ex hp 173 ∧ ay_ln (ay_at hp 173 13) = pz_nx (pz_gt (ρ 0)) (pz_gN (ρ 0)) (pz_p (pz_cF (ρ 0) (ρ 1))) := (ax_XF_lt (x := 156) (Nat.le_of_ble_eq_true rfl)).mp (ax_gx hE (156, [3, 7]) ax_m1)
  have F168 : pz_kd (pz_gt (ρ 0)) (pz_gN (ρ 0)) (pz_p (pz_cF (ρ 0) (ρ 1))) = (4) / 4 := (ax_XF_lt (x := 168) (Nat.le_of_ble_eq_true rfl)).mp (ax_gx hE (168, [3, 7, 4]) ax_m2)
  have F162 : pz_y162 (ρ 0) (ρ 1) (32) (ρ 2) := (ax_XF_lt (x := 162) (Nat.le_of_ble_eq_true rfl)).mp (ax_gx hE (162, [3, 7, 32, 11]) ax_m5)
  refine ⟨(fun y hy => by cases hy), _, List.mem_cons_self, ρ, fun _ _ => rfl, ax_px hE rfl (fun x hx => ?_)⟩
  cases List.mem_singleton.mp hx
  refine (ax_XF_lt (x := 151) (Nat.le_of_ble_eq_true rfl)).mpr ?_
  show ay_ex hp 173 ∧ ay_ex hp 173 ∧ ay_ex hp 173 ∧ ay_ex hp 173 ∧ ay_ex hp 173 ∧ pz_y151 (ρ 0) (ρ 1) (ay_at hp 173 13) (ay_at hp 173 14) (ay_at hp 173 15) (ay_at hp 173 16) (ay_at hp 173 17)
  refine ⟨(ax_cellT hT (q := 173) (g := 11) (ax_wc hw ax_cg_173)), (ax_cellT hT (q := 173) (g := 11) (ax_wc hw ax_cg_173)), (ax_cellT hT (q := 173) (g := 11) (ax_wc hw ax_cg_173)), (ax_cellT hT (q := 173) (g := 11) (ax_wc hw ax_cg_173)), (ax_cellT hT (q := 173) (g := 11) (ax_wc hw ax_cg_173)), ?_⟩
  rw [c_token]
  rw [c_word]
  exact ⟨F156, F154, by show 8 / 4 = pz_tok _; rw [F168]; rfl, fun z => absurd (F168.symm.trans z) (by decide), fun _ => pz_y162_8 F162⟩
theorem axq0_sw7 : ax_RO ax_wM0 (ax_XM 0) axu0_sw7 := axqg_sw7 ax_WW0
theorem axqg_is1a_0 {w : ax_W} {b : Nat} (hw : ax_WW w) : ax_RO w (ax_XM b) axu0_is1a_0 := by
  intro ρ hp hE hT
  have j0 : ρ 0 % 4 = 1 := pz_gj hE 0 (Nat.le_of_ble_eq_true rfl) rfl
  have j1 : ρ 1 % 4 = 1 := pz_gj hE 1 (Nat.le_of_ble_eq_true rfl) rfl
  obtain ⟨i2a, i2b, i2c, i2d⟩ := pz_gi hE 2 2147482848 2147483655 (Nat.le_of_ble_eq_true rfl) rfl
  obtain ⟨i3a, i3b, i3c, i3d⟩ := pz_gi hE 3 2147483648 2147484448 (Nat.le_of_ble_eq_true rfl) rfl
  obtain ⟨i4a, i4b, i4c, i4d⟩ := pz_gi hE 4 2147483648 2147484448 (Nat.le_of_ble_eq_true rfl) rfl
  have c_next : ay_at hp 173 13 = some (ρ 4) := ay_gfj hE 702 52 19 173 13 ax_m2 (ax_vlq rfl rfl) (ax_vlj rfl rfl)
  have c_at : ay_at hp 173 14 = some (ρ 3) := ay_gfj hE 702 56 15 173 14 ax_m3 (ax_vlq rfl rfl) (ax_vlj rfl rfl)
  have s1 : (ρ 2 / 4 + 2147483648) % 4294967296 + (ρ 3 / 4 + 2147483648) % 4294967296 = (ρ 4 / 4 + 2147483648) % 4294967296 + 2147483648 := pz_gs hE 11 15 19 ax_m4
  obtain ⟨-, F154⟩ : ay_ex hp 173 ∧ ay_ln (ay_at hp 173 14) = pz_at (pz_gt (ρ 0)) (pz_gN (ρ 0)) (pz_p (pz_cF (ρ 0) (ρ 1))) := (ax_XF_lt (x := 154) (Nat.le_of_ble_eq_true rfl)).mp (ax_gx hE (154, [3, 7]) ax_m0)
  rw [c_at] at F154
  obtain ⟨-, F156⟩ : ay_ex hp 173 ∧ ay_ln (ay_at hp 173 13) = pz_nx (pz_gt (ρ 0)) (pz_gN (ρ 0)) (pz_p (pz_cF (ρ 0) (ρ 1))) := (ax_XF_lt (x := 156) (Nat.le_of_ble_eq_true rfl)).mp (ax_gx hE (156, [3, 7]) ax_m1)
  rw [c_next] at F156
  have e1 : ρ 4 / 4 = pz_nx (pz_gt (ρ 0)) (pz_gN (ρ 0)) (pz_p (pz_cf (pz_gt (ρ 0)) (pz_gN (ρ 0)) (ρ 1 / 4))) := F156
  have e2 : ρ 3 / 4 = pz_at (pz_gt (ρ 0)) (pz_gN (ρ 0)) (pz_p (pz_cf (pz_gt (ρ 0)) (pz_gN (ρ 0)) (ρ 1 / 4))) := F154
  refine ⟨(fun y hy => by cases hy), _, List.mem_cons_self, ρ, fun _ _ => rfl, ax_px hE rfl (fun x hx => ?_)⟩
  cases List.mem_singleton.mp hx
  refine (ax_XF_lt (x := 161) (Nat.le_of_ble_eq_true rfl)).mpr ?_
  show pz61 (pz_gt (ρ 0)) (pz_gN (ρ 0)) ((ρ 1) / 4) ((0) / 4)
  refine pz_is_no (Or.inr (Or.inl ?_))
  show pz_nx (pz_gt (ρ 0)) (pz_gN (ρ 0)) (pz_p (pz_cf (pz_gt (ρ 0)) (pz_gN (ρ 0)) (ρ 1 / 4))) - pz_at (pz_gt (ρ 0)) (pz_gN (ρ 0)) (pz_p (pz_cf (pz_gt (ρ 0)) (pz_gN (ρ 0)) (ρ 1 / 4))) ≠ 8
  omega
theorem axq0_is1a_0 : ax_RO ax_wM0 (ax_XM 0) axu0_is1a_0 := axqg_is1a_0 ax_WW0
theorem axqg_is1b_0 {w : ax_W} {b : Nat} (hw : ax_WW w) : ax_RO w (ax_XM b) axu0_is1b_0 := by
  intro ρ hp hE hT
  have j0 : ρ 0 % 4 = 1 := pz_gj hE 0 (Nat.le_of_ble_eq_true rfl) rfl
  have j1 : ρ 1 % 4 = 1 := pz_gj hE 1 (Nat.le_of_ble_eq_true rfl) rfl
  obtain ⟨i2a, i2b, i2c, i2d⟩ := pz_gi hE 2 2147483657 2147484449 (Nat.le_of_ble_eq_true rfl) rfl
  obtain ⟨i3a, i3b, i3c, i3d⟩ := pz_gi hE 3 2147483648 2147484448 (Nat.le_of_ble_eq_true rfl) rfl
  obtain ⟨i4a, i4b, i4c, i4d⟩ := pz_gi hE 4 2147483648 2147484448 (Nat.le_of_ble_eq_true rfl) rfl
  have c_next : ay_at hp 173 13 = some (ρ 4) := ay_gfj hE 702 52 19 173 13 ax_m2 (ax_vlq rfl rfl) (ax_vlj rfl rfl)
  have c_at : ay_at hp 173 14 = some (ρ 3) := ay_gfj hE 702 56 15 173 14 ax_m3 (ax_vlq rfl rfl) (ax_vlj rfl rfl)
  have s1 : (ρ 2 / 4 + 2147483648) % 4294967296 + (ρ 3 / 4 + 2147483648) % 4294967296 = (ρ 4 / 4 + 2147483648) % 4294967296 + 2147483648 := pz_gs hE 11 15 19 ax_m4
  obtain ⟨-, F154⟩ : ay_ex hp 173 ∧ ay_ln (ay_at hp 173 14) = pz_at (pz_gt (ρ 0)) (pz_gN (ρ 0)) (pz_p (pz_cF (ρ 0) (ρ 1))) := (ax_XF_lt (x := 154) (Nat.le_of_ble_eq_true rfl)).mp (ax_gx hE (154, [3, 7]) ax_m0)
  rw [c_at] at F154
  obtain ⟨-, F156⟩ : ay_ex hp 173 ∧ ay_ln (ay_at hp 173 13) = pz_nx (pz_gt (ρ 0)) (pz_gN (ρ 0)) (pz_p (pz_cF (ρ 0) (ρ 1))) := (ax_XF_lt (x := 156) (Nat.le_of_ble_eq_true rfl)).mp (ax_gx hE (156, [3, 7]) ax_m1)
  rw [c_next] at F156
  have e1 : ρ 4 / 4 = pz_nx (pz_gt (ρ 0)) (pz_gN (ρ 0)) (pz_p (pz_cf (pz_gt (ρ 0)) (pz_gN (ρ 0)) (ρ 1 / 4))) := F156
  have e2 : ρ 3 / 4 = pz_at (pz_gt (ρ 0)) (pz_gN (ρ 0)) (pz_p (pz_cf (pz_gt (ρ 0)) (pz_gN (ρ 0)) (ρ 1 / 4))) := F154
  refine ⟨(fun y hy => by cases hy), _, List.mem_cons_self, ρ, fun _ _ => rfl, ax_px hE rfl (fun x hx => ?_)⟩
  cases List.mem_singleton.mp hx
  refine (ax_XF_lt (x := 161) (Nat.le_of_ble_eq_true rfl)).mpr ?_
  show pz61 (pz_gt (ρ 0)) (pz_gN (ρ 0)) ((ρ 1) / 4) ((0) / 4)
  refine pz_is_no (Or.inr (Or.inl ?_))
  show pz_nx (pz_gt (ρ 0)) (pz_gN (ρ 0)) (pz_p (pz_cf (pz_gt (ρ 0)) (pz_gN (ρ 0)) (ρ 1 / 4))) - pz_at (pz_gt (ρ 0)) (pz_gN (ρ 0)) (pz_p (pz_cf (pz_gt (ρ 0)) (pz_gN (ρ 0)) (ρ 1 / 4))) ≠ 8
  omega
theorem axq0_is1b_0 : ax_RO ax_wM0 (ax_XM 0) axu0_is1b_0 := axqg_is1b_0 ax_WW0
theorem axqg_is2_0 {w : ax_W} {b : Nat} (hw : ax_WW w) : ax_RO w (ax_XM b) axu0_is2_0 := by
  intro ρ hp hE hT
  have j0 : ρ 0 % 4 = 1 := pz_gj hE 0 (Nat.le_of_ble_eq_true rfl) rfl
  have j1 : ρ 1 % 4 = 1 := pz_gj hE 1 (Nat.le_of_ble_eq_true rfl) rfl
  obtain ⟨i2a, i2b, i2c, i2d⟩ := pz_gi hE 2 2147483656 2147483656 (Nat.le_of_ble_eq_true rfl) rfl
  obtain ⟨i3a, i3b, i3c, i3d⟩ := pz_gi hE 3 2147483648 2147484448 (Nat.le_of_ble_eq_true rfl) rfl
  obtain ⟨i4a, i4b, i4c, i4d⟩ := pz_gi hE 4 2147483648 2147484448 (Nat.le_of_ble_eq_true rfl) rfl
  have c_next : ay_at hp 173 13 = some (ρ 4) := ay_gfj hE 702 52 19 173 13 ax_m3 (ax_vlq rfl rfl) (ax_vlj rfl rfl)
  have c_at : ay_at hp 173 14 = some (ρ 3) := ay_gfj hE 702 56 15 173 14 ax_m4 (ax_vlq rfl rfl) (ax_vlj rfl rfl)
  have s1 : (ρ 2 / 4 + 2147483648) % 4294967296 + (ρ 3 / 4 + 2147483648) % 4294967296 = (ρ 4 / 4 + 2147483648) % 4294967296 + 2147483648 := pz_gs hE 11 15 19 ax_m5
  have F168 : pz_kd (pz_gt (ρ 0)) (pz_gN (ρ 0)) (pz_p (pz_cF (ρ 0) (ρ 1))) = (4) / 4 := (ax_XF_lt (x := 168) (Nat.le_of_ble_eq_true rfl)).mp (ax_gx hE (168, [3, 7, 4]) ax_m0)
  obtain ⟨-, F154⟩ : ay_ex hp 173 ∧ ay_ln (ay_at hp 173 14) = pz_at (pz_gt (ρ 0)) (pz_gN (ρ 0)) (pz_p (pz_cF (ρ 0) (ρ 1))) := (ax_XF_lt (x := 154) (Nat.le_of_ble_eq_true rfl)).mp (ax_gx hE (154, [3, 7]) ax_m1)
  rw [c_at] at F154
  obtain ⟨-, F156⟩ : ay_ex hp 173 ∧ ay_ln (ay_at hp 173 13) = pz_nx (pz_gt (ρ 0)) (pz_gN (ρ 0)) (pz_p (pz_cF (ρ 0) (ρ 1))) := (ax_XF_lt (x := 156) (Nat.le_of_ble_eq_true rfl)).mp (ax_gx hE (156, [3, 7]) ax_m2)
  rw [c_next] at F156
  have e1 : ρ 4 / 4 = pz_nx (pz_gt (ρ 0)) (pz_gN (ρ 0)) (pz_p (pz_cf (pz_gt (ρ 0)) (pz_gN (ρ 0)) (ρ 1 / 4))) := F156
  have e2 : ρ 3 / 4 = pz_at (pz_gt (ρ 0)) (pz_gN (ρ 0)) (pz_p (pz_cf (pz_gt (ρ 0)) (pz_gN (ρ 0)) (ρ 1 / 4))) := F154
  refine ⟨(fun y hy => by cases hy), _, List.mem_cons_self, ρ, fun _ _ => rfl, ax_px hE rfl (fun x hx => ?_)⟩
  cases List.mem_singleton.mp hx
  refine (ax_XF_lt (x := 212) (Nat.le_of_ble_eq_true rfl)).mpr ?_
  show pz_x62 (ρ 0) (ρ 1) (4000) (0)
  refine ⟨F168, ?_, fun j hj => absurd (show j < 0 from hj) (by omega)⟩
  show pz_nx (pz_gt (ρ 0)) (pz_gN (ρ 0)) (pz_p (pz_cf (pz_gt (ρ 0)) (pz_gN (ρ 0)) (ρ 1 / 4))) - pz_at (pz_gt (ρ 0)) (pz_gN (ρ 0)) (pz_p (pz_cf (pz_gt (ρ 0)) (pz_gN (ρ 0)) (ρ 1 / 4))) = 8
  omega
theorem axq0_is2_0 : ax_RO ax_wM0 (ax_XM 0) axu0_is2_0 := axqg_is2_0 ax_WW0
theorem axqg_is3_0_0 {w : ax_W} {b : Nat} (hw : ax_WW w) : ax_RO w (ax_XM b) axu0_is3_0_0 := by
  intro ρ hp hE hT
  have j0 : ρ 0 % 4 = 1 := pz_gj hE 0 (Nat.le_of_ble_eq_true rfl) rfl
  have j1 : ρ 1 % 4 = 1 := pz_gj hE 1 (Nat.le_of_ble_eq_true rfl) rfl
  obtain ⟨i2a, i2b, i2c, i2d⟩ := pz_gi hE 2 2147483648 2147484448 (Nat.le_of_ble_eq_true rfl) rfl
  obtain ⟨i3a, i3b, i3c, i3d⟩ := pz_gi hE 3 0 4294967295 (Nat.le_of_ble_eq_true rfl) rfl
  obtain ⟨i4a, i4b, i4c, i4d⟩ := pz_gi hE 4 2147483763 2147483763 (Nat.le_of_ble_eq_true rfl) rfl
  have c_at : ay_at hp 173 14 = some (ρ 2) := ay_gfj hE 702 56 11 173 14 ax_m2 (ax_vlq rfl rfl) (ax_vlj rfl rfl)
  have s1 : (ρ 2 / 4 + 2147483648) % 4294967296 + (0 / 4 + 2147483648) % 4294967296 = (ρ 3 / 4 + 2147483648) % 4294967296 + 2147483648 := pz_gs hE 11 0 15 ax_m3
  have c_tape : ay_at hp 183 (ρ 3 / 4) = some (ρ 4) := ay_gf hE 742 15 19 183 ax_m4 (ax_vlq rfl rfl)
  obtain ⟨-, -, F131⟩ : ay_ex hp 173 ∧ ay_ex hp 183 ∧ pz_x30 (ρ 0) (ay_at hp 173 12) (ay_at hp 183) := (ax_XF_lt (x := 131) (Nat.le_of_ble_eq_true rfl)).mp (ax_gx hE (131, [3]) ax_m0)
  obtain ⟨-, F154⟩ : ay_ex hp 173 ∧ ay_ln (ay_at hp 173 14) = pz_at (pz_gt (ρ 0)) (pz_gN (ρ 0)) (pz_p (pz_cF (ρ 0) (ρ 1))) := (ax_XF_lt (x := 154) (Nat.le_of_ble_eq_true rfl)).mp (ax_gx hE (154, [3, 7]) ax_m1)
  rw [c_at] at F154
  have F212 : pz_x62 (ρ 0) (ρ 1) (4000) (0) := (ax_XF_lt (x := 212) (Nat.le_of_ble_eq_true rfl)).mp (ax_gx hE (212, [3, 7, 4000, 0]) ax_m5)
  have ep : ρ 2 / 4 = pz_at (pz_gt (ρ 0)) (pz_gN (ρ 0)) (pz_p (pz_cf (pz_gt (ρ 0)) (pz_gN (ρ 0)) (ρ 1 / 4))) := F154
  have hw : pz_at (pz_gt (ρ 0)) (pz_gN (ρ 0)) (pz_p (pz_cf (pz_gt (ρ 0)) (pz_gN (ρ 0)) (ρ 1 / 4))) < pz_gN (ρ 0) ∧ pz_nx (pz_gt (ρ 0)) (pz_gN (ρ 0)) (pz_p (pz_cf (pz_gt (ρ 0)) (pz_gN (ρ 0)) (ρ 1 / 4))) ≤ pz_gN (ρ 0) := pz_wd_le F212.1
  have hln : pz_nx (pz_gt (ρ 0)) (pz_gN (ρ 0)) (pz_p (pz_cf (pz_gt (ρ 0)) (pz_gN (ρ 0)) (ρ 1 / 4))) - pz_at (pz_gt (ρ 0)) (pz_gN (ρ 0)) (pz_p (pz_cf (pz_gt (ρ 0)) (pz_gN (ρ 0)) (ρ 1 / 4))) = 8 := F212.2.1
  have ha1 := (pz_ps 0 800 i2b i2c i2d (by decide))
  have hq1 : ρ 3 / 4 = ρ 2 / 4 + 0 := pz_sm (by omega) (by decide) i3b s1
  have hb := F131.2.2 (ρ 3 / 4) (by have := hw.2; omega)
  rw [c_tape] at hb
  have hb := Option.some.inj hb
  rw [show ρ 3 / 4 = pz_at (pz_gt (ρ 0)) (pz_gN (ρ 0)) (pz_p (pz_cf (pz_gt (ρ 0)) (pz_gN (ρ 0)) (ρ 1 / 4))) + 0 by omega] at hb
  have hb2 : pz_b (pz_gt (ρ 0)) (pz_at (pz_gt (ρ 0)) (pz_gN (ρ 0)) (pz_p (pz_cf (pz_gt (ρ 0)) (pz_gN (ρ 0)) (ρ 1 / 4))) + 0) = ρ 4 / 4 := by omega
  refine ⟨(fun y hy => by cases hy), _, List.mem_cons_self, ρ, fun _ _ => rfl, ax_px hE rfl (fun x hx => ?_)⟩
  cases List.mem_singleton.mp hx
  refine (ax_XF_lt (x := 212) (Nat.le_of_ble_eq_true rfl)).mpr ?_
  show pz_x62 (ρ 0) (ρ 1) (4000) (4)
  refine ⟨F212.1, F212.2.1, fun i hi => ?_⟩
  replace hi : i < 1 := hi
  by_cases h : i < 0
  · exact F212.2.2 i h
  · have e : i = 0 := by omega
    subst e
    exact hb2.trans (show ρ 4 / 4 = 115 by omega)
theorem axq0_is3_0_0 : ax_RO ax_wM0 (ax_XM 0) axu0_is3_0_0 := axqg_is3_0_0 ax_WW0
theorem axqg_is4a_0_0 {w : ax_W} {b : Nat} (hw : ax_WW w) : ax_RO w (ax_XM b) axu0_is4a_0_0 := by
  intro ρ hp hE hT
  have j0 : ρ 0 % 4 = 1 := pz_gj hE 0 (Nat.le_of_ble_eq_true rfl) rfl
  have j1 : ρ 1 % 4 = 1 := pz_gj hE 1 (Nat.le_of_ble_eq_true rfl) rfl
  obtain ⟨i2a, i2b, i2c, i2d⟩ := pz_gi hE 2 2147483648 2147484448 (Nat.le_of_ble_eq_true rfl) rfl
  obtain ⟨i3a, i3b, i3c, i3d⟩ := pz_gi hE 3 0 4294967295 (Nat.le_of_ble_eq_true rfl) rfl
  obtain ⟨i4a, i4b, i4c, i4d⟩ := pz_gi hE 4 2147483520 2147483762 (Nat.le_of_ble_eq_true rfl) rfl
  have c_at : ay_at hp 173 14 = some (ρ 2) := ay_gfj hE 702 56 11 173 14 ax_m2 (ax_vlq rfl rfl) (ax_vlj rfl rfl)
  have s1 : (ρ 2 / 4 + 2147483648) % 4294967296 + (0 / 4 + 2147483648) % 4294967296 = (ρ 3 / 4 + 2147483648) % 4294967296 + 2147483648 := pz_gs hE 11 0 15 ax_m3
  have c_tape : ay_at hp 183 (ρ 3 / 4) = some (ρ 4) := ay_gf hE 742 15 19 183 ax_m4 (ax_vlq rfl rfl)
  obtain ⟨-, -, F131⟩ : ay_ex hp 173 ∧ ay_ex hp 183 ∧ pz_x30 (ρ 0) (ay_at hp 173 12) (ay_at hp 183) := (ax_XF_lt (x := 131) (Nat.le_of_ble_eq_true rfl)).mp (ax_gx hE (131, [3]) ax_m0)
  obtain ⟨-, F154⟩ : ay_ex hp 173 ∧ ay_ln (ay_at hp 173 14) = pz_at (pz_gt (ρ 0)) (pz_gN (ρ 0)) (pz_p (pz_cF (ρ 0) (ρ 1))) := (ax_XF_lt (x := 154) (Nat.le_of_ble_eq_true rfl)).mp (ax_gx hE (154, [3, 7]) ax_m1)
  rw [c_at] at F154
  have F212 : pz_x62 (ρ 0) (ρ 1) (4000) (0) := (ax_XF_lt (x := 212) (Nat.le_of_ble_eq_true rfl)).mp (ax_gx hE (212, [3, 7, 4000, 0]) ax_m5)
  have ep : ρ 2 / 4 = pz_at (pz_gt (ρ 0)) (pz_gN (ρ 0)) (pz_p (pz_cf (pz_gt (ρ 0)) (pz_gN (ρ 0)) (ρ 1 / 4))) := F154
  have hw : pz_at (pz_gt (ρ 0)) (pz_gN (ρ 0)) (pz_p (pz_cf (pz_gt (ρ 0)) (pz_gN (ρ 0)) (ρ 1 / 4))) < pz_gN (ρ 0) ∧ pz_nx (pz_gt (ρ 0)) (pz_gN (ρ 0)) (pz_p (pz_cf (pz_gt (ρ 0)) (pz_gN (ρ 0)) (ρ 1 / 4))) ≤ pz_gN (ρ 0) := pz_wd_le F212.1
  have hln : pz_nx (pz_gt (ρ 0)) (pz_gN (ρ 0)) (pz_p (pz_cf (pz_gt (ρ 0)) (pz_gN (ρ 0)) (ρ 1 / 4))) - pz_at (pz_gt (ρ 0)) (pz_gN (ρ 0)) (pz_p (pz_cf (pz_gt (ρ 0)) (pz_gN (ρ 0)) (ρ 1 / 4))) = 8 := F212.2.1
  have ha1 := (pz_ps 0 800 i2b i2c i2d (by decide))
  have hq1 : ρ 3 / 4 = ρ 2 / 4 + 0 := pz_sm (by omega) (by decide) i3b s1
  have hb := F131.2.2 (ρ 3 / 4) (by have := hw.2; omega)
  rw [c_tape] at hb
  have hb := Option.some.inj hb
  rw [show ρ 3 / 4 = pz_at (pz_gt (ρ 0)) (pz_gN (ρ 0)) (pz_p (pz_cf (pz_gt (ρ 0)) (pz_gN (ρ 0)) (ρ 1 / 4))) + 0 by omega] at hb
  have hb2 : pz_b (pz_gt (ρ 0)) (pz_at (pz_gt (ρ 0)) (pz_gN (ρ 0)) (pz_p (pz_cf (pz_gt (ρ 0)) (pz_gN (ρ 0)) (ρ 1 / 4))) + 0) = ρ 4 / 4 := by omega
  refine ⟨(fun y hy => by cases hy), _, List.mem_cons_self, ρ, fun _ _ => rfl, ax_px hE rfl (fun x hx => ?_)⟩
  cases List.mem_singleton.mp hx
  refine (ax_XF_lt (x := 161) (Nat.le_of_ble_eq_true rfl)).mpr ?_
  show pz61 (pz_gt (ρ 0)) (pz_gN (ρ 0)) ((ρ 1) / 4) ((0) / 4)
  refine pz_is_no (Or.inr (Or.inr ⟨0, by decide, fun z => ?_⟩))
  have z2 : ρ 4 / 4 = 115 := hb2.symm.trans z
  omega
theorem axq0_is4a_0_0 : ax_RO ax_wM0 (ax_XM 0) axu0_is4a_0_0 := axqg_is4a_0_0 ax_WW0
theorem axqg_is4b_0_0 {w : ax_W} {b : Nat} (hw : ax_WW w) : ax_RO w (ax_XM b) axu0_is4b_0_0 := by
  intro ρ hp hE hT
  have j0 : ρ 0 % 4 = 1 := pz_gj hE 0 (Nat.le_of_ble_eq_true rfl) rfl
  have j1 : ρ 1 % 4 = 1 := pz_gj hE 1 (Nat.le_of_ble_eq_true rfl) rfl
  obtain ⟨i2a, i2b, i2c, i2d⟩ := pz_gi hE 2 2147483648 2147484448 (Nat.le_of_ble_eq_true rfl) rfl
  obtain ⟨i3a, i3b, i3c, i3d⟩ := pz_gi hE 3 0 4294967295 (Nat.le_of_ble_eq_true rfl) rfl
  obtain ⟨i4a, i4b, i4c, i4d⟩ := pz_gi hE 4 2147483764 2147483775 (Nat.le_of_ble_eq_true rfl) rfl
  have c_at : ay_at hp 173 14 = some (ρ 2) := ay_gfj hE 702 56 11 173 14 ax_m2 (ax_vlq rfl rfl) (ax_vlj rfl rfl)
  have s1 : (ρ 2 / 4 + 2147483648) % 4294967296 + (0 / 4 + 2147483648) % 4294967296 = (ρ 3 / 4 + 2147483648) % 4294967296 + 2147483648 := pz_gs hE 11 0 15 ax_m3
  have c_tape : ay_at hp 183 (ρ 3 / 4) = some (ρ 4) := ay_gf hE 742 15 19 183 ax_m4 (ax_vlq rfl rfl)
  obtain ⟨-, -, F131⟩ : ay_ex hp 173 ∧ ay_ex hp 183 ∧ pz_x30 (ρ 0) (ay_at hp 173 12) (ay_at hp 183) := (ax_XF_lt (x := 131) (Nat.le_of_ble_eq_true rfl)).mp (ax_gx hE (131, [3]) ax_m0)
  obtain ⟨-, F154⟩ : ay_ex hp 173 ∧ ay_ln (ay_at hp 173 14) = pz_at (pz_gt (ρ 0)) (pz_gN (ρ 0)) (pz_p (pz_cF (ρ 0) (ρ 1))) := (ax_XF_lt (x := 154) (Nat.le_of_ble_eq_true rfl)).mp (ax_gx hE (154, [3, 7]) ax_m1)
  rw [c_at] at F154
  have F212 : pz_x62 (ρ 0) (ρ 1) (4000) (0) := (ax_XF_lt (x := 212) (Nat.le_of_ble_eq_true rfl)).mp (ax_gx hE (212, [3, 7, 4000, 0]) ax_m5)
  have ep : ρ 2 / 4 = pz_at (pz_gt (ρ 0)) (pz_gN (ρ 0)) (pz_p (pz_cf (pz_gt (ρ 0)) (pz_gN (ρ 0)) (ρ 1 / 4))) := F154
  have hw : pz_at (pz_gt (ρ 0)) (pz_gN (ρ 0)) (pz_p (pz_cf (pz_gt (ρ 0)) (pz_gN (ρ 0)) (ρ 1 / 4))) < pz_gN (ρ 0) ∧ pz_nx (pz_gt (ρ 0)) (pz_gN (ρ 0)) (pz_p (pz_cf (pz_gt (ρ 0)) (pz_gN (ρ 0)) (ρ 1 / 4))) ≤ pz_gN (ρ 0) := pz_wd_le F212.1
  have hln : pz_nx (pz_gt (ρ 0)) (pz_gN (ρ 0)) (pz_p (pz_cf (pz_gt (ρ 0)) (pz_gN (ρ 0)) (ρ 1 / 4))) - pz_at (pz_gt (ρ 0)) (pz_gN (ρ 0)) (pz_p (pz_cf (pz_gt (ρ 0)) (pz_gN (ρ 0)) (ρ 1 / 4))) = 8 := F212.2.1
  have ha1 := (pz_ps 0 800 i2b i2c i2d (by decide))
  have hq1 : ρ 3 / 4 = ρ 2 / 4 + 0 := pz_sm (by omega) (by decide) i3b s1
  have hb := F131.2.2 (ρ 3 / 4) (by have := hw.2; omega)
  rw [c_tape] at hb
  have hb := Option.some.inj hb
  rw [show ρ 3 / 4 = pz_at (pz_gt (ρ 0)) (pz_gN (ρ 0)) (pz_p (pz_cf (pz_gt (ρ 0)) (pz_gN (ρ 0)) (ρ 1 / 4))) + 0 by omega] at hb
  have hb2 : pz_b (pz_gt (ρ 0)) (pz_at (pz_gt (ρ 0)) (pz_gN (ρ 0)) (pz_p (pz_cf (pz_gt (ρ 0)) (pz_gN (ρ 0)) (ρ 1 / 4))) + 0) = ρ 4 / 4 := by omega
  refine ⟨(fun y hy => by cases hy), _, List.mem_cons_self, ρ, fun _ _ => rfl, ax_px hE rfl (fun x hx => ?_)⟩
  cases List.mem_singleton.mp hx
  refine (ax_XF_lt (x := 161) (Nat.le_of_ble_eq_true rfl)).mpr ?_
  show pz61 (pz_gt (ρ 0)) (pz_gN (ρ 0)) ((ρ 1) / 4) ((0) / 4)
  refine pz_is_no (Or.inr (Or.inr ⟨0, by decide, fun z => ?_⟩))
  have z2 : ρ 4 / 4 = 115 := hb2.symm.trans z
  omega
theorem axq0_is4b_0_0 : ax_RO ax_wM0 (ax_XM 0) axu0_is4b_0_0 := axqg_is4b_0_0 ax_WW0
theorem axqg_is3_0_1 {w : ax_W} {b : Nat} (hw : ax_WW w) : ax_RO w (ax_XM b) axu0_is3_0_1 := by
  intro ρ hp hE hT
  have j0 : ρ 0 % 4 = 1 := pz_gj hE 0 (Nat.le_of_ble_eq_true rfl) rfl
  have j1 : ρ 1 % 4 = 1 := pz_gj hE 1 (Nat.le_of_ble_eq_true rfl) rfl
  obtain ⟨i2a, i2b, i2c, i2d⟩ := pz_gi hE 2 2147483648 2147484448 (Nat.le_of_ble_eq_true rfl) rfl
  obtain ⟨i3a, i3b, i3c, i3d⟩ := pz_gi hE 3 0 4294967295 (Nat.le_of_ble_eq_true rfl) rfl
  obtain ⟨i4a, i4b, i4c, i4d⟩ := pz_gi hE 4 2147483767 2147483767 (Nat.le_of_ble_eq_true rfl) rfl
  have c_at : ay_at hp 173 14 = some (ρ 2) := ay_gfj hE 702 56 11 173 14 ax_m2 (ax_vlq rfl rfl) (ax_vlj rfl rfl)
  have s1 : (ρ 2 / 4 + 2147483648) % 4294967296 + (4 / 4 + 2147483648) % 4294967296 = (ρ 3 / 4 + 2147483648) % 4294967296 + 2147483648 := pz_gs hE 11 4 15 ax_m3
  have c_tape : ay_at hp 183 (ρ 3 / 4) = some (ρ 4) := ay_gf hE 742 15 19 183 ax_m4 (ax_vlq rfl rfl)
  obtain ⟨-, -, F131⟩ : ay_ex hp 173 ∧ ay_ex hp 183 ∧ pz_x30 (ρ 0) (ay_at hp 173 12) (ay_at hp 183) := (ax_XF_lt (x := 131) (Nat.le_of_ble_eq_true rfl)).mp (ax_gx hE (131, [3]) ax_m0)
  obtain ⟨-, F154⟩ : ay_ex hp 173 ∧ ay_ln (ay_at hp 173 14) = pz_at (pz_gt (ρ 0)) (pz_gN (ρ 0)) (pz_p (pz_cF (ρ 0) (ρ 1))) := (ax_XF_lt (x := 154) (Nat.le_of_ble_eq_true rfl)).mp (ax_gx hE (154, [3, 7]) ax_m1)
  rw [c_at] at F154
  have F212 : pz_x62 (ρ 0) (ρ 1) (4000) (4) := (ax_XF_lt (x := 212) (Nat.le_of_ble_eq_true rfl)).mp (ax_gx hE (212, [3, 7, 4000, 4]) ax_m5)
  have ep : ρ 2 / 4 = pz_at (pz_gt (ρ 0)) (pz_gN (ρ 0)) (pz_p (pz_cf (pz_gt (ρ 0)) (pz_gN (ρ 0)) (ρ 1 / 4))) := F154
  have hw : pz_at (pz_gt (ρ 0)) (pz_gN (ρ 0)) (pz_p (pz_cf (pz_gt (ρ 0)) (pz_gN (ρ 0)) (ρ 1 / 4))) < pz_gN (ρ 0) ∧ pz_nx (pz_gt (ρ 0)) (pz_gN (ρ 0)) (pz_p (pz_cf (pz_gt (ρ 0)) (pz_gN (ρ 0)) (ρ 1 / 4))) ≤ pz_gN (ρ 0) := pz_wd_le F212.1
  have hln : pz_nx (pz_gt (ρ 0)) (pz_gN (ρ 0)) (pz_p (pz_cf (pz_gt (ρ 0)) (pz_gN (ρ 0)) (ρ 1 / 4))) - pz_at (pz_gt (ρ 0)) (pz_gN (ρ 0)) (pz_p (pz_cf (pz_gt (ρ 0)) (pz_gN (ρ 0)) (ρ 1 / 4))) = 8 := F212.2.1
  have ha1 := (pz_ps 0 800 i2b i2c i2d (by decide))
  have hq1 : ρ 3 / 4 = ρ 2 / 4 + 1 := pz_sm (by omega) (by decide) i3b s1
  have hb := F131.2.2 (ρ 3 / 4) (by have := hw.2; omega)
  rw [c_tape] at hb
  have hb := Option.some.inj hb
  rw [show ρ 3 / 4 = pz_at (pz_gt (ρ 0)) (pz_gN (ρ 0)) (pz_p (pz_cf (pz_gt (ρ 0)) (pz_gN (ρ 0)) (ρ 1 / 4))) + 1 by omega] at hb
  have hb2 : pz_b (pz_gt (ρ 0)) (pz_at (pz_gt (ρ 0)) (pz_gN (ρ 0)) (pz_p (pz_cf (pz_gt (ρ 0)) (pz_gN (ρ 0)) (ρ 1 / 4))) + 1) = ρ 4 / 4 := by omega
  refine ⟨(fun y hy => by cases hy), _, List.mem_cons_self, ρ, fun _ _ => rfl, ax_px hE rfl (fun x hx => ?_)⟩
  cases List.mem_singleton.mp hx
  refine (ax_XF_lt (x := 212) (Nat.le_of_ble_eq_true rfl)).mpr ?_
  show pz_x62 (ρ 0) (ρ 1) (4000) (8)
  refine ⟨F212.1, F212.2.1, fun i hi => ?_⟩
  replace hi : i < 2 := hi
  by_cases h : i < 1
  · exact F212.2.2 i h
  · have e : i = 1 := by omega
    subst e
    exact hb2.trans (show ρ 4 / 4 = 119 by omega)
theorem axq0_is3_0_1 : ax_RO ax_wM0 (ax_XM 0) axu0_is3_0_1 := axqg_is3_0_1 ax_WW0
theorem axqg_is4a_0_1 {w : ax_W} {b : Nat} (hw : ax_WW w) : ax_RO w (ax_XM b) axu0_is4a_0_1 := by
  intro ρ hp hE hT
  have j0 : ρ 0 % 4 = 1 := pz_gj hE 0 (Nat.le_of_ble_eq_true rfl) rfl
  have j1 : ρ 1 % 4 = 1 := pz_gj hE 1 (Nat.le_of_ble_eq_true rfl) rfl
  obtain ⟨i2a, i2b, i2c, i2d⟩ := pz_gi hE 2 2147483648 2147484448 (Nat.le_of_ble_eq_true rfl) rfl
  obtain ⟨i3a, i3b, i3c, i3d⟩ := pz_gi hE 3 0 4294967295 (Nat.le_of_ble_eq_true rfl) rfl
  obtain ⟨i4a, i4b, i4c, i4d⟩ := pz_gi hE 4 2147483520 2147483766 (Nat.le_of_ble_eq_true rfl) rfl
  have c_at : ay_at hp 173 14 = some (ρ 2) := ay_gfj hE 702 56 11 173 14 ax_m2 (ax_vlq rfl rfl) (ax_vlj rfl rfl)
  have s1 : (ρ 2 / 4 + 2147483648) % 4294967296 + (4 / 4 + 2147483648) % 4294967296 = (ρ 3 / 4 + 2147483648) % 4294967296 + 2147483648 := pz_gs hE 11 4 15 ax_m3
  have c_tape : ay_at hp 183 (ρ 3 / 4) = some (ρ 4) := ay_gf hE 742 15 19 183 ax_m4 (ax_vlq rfl rfl)
  obtain ⟨-, -, F131⟩ : ay_ex hp 173 ∧ ay_ex hp 183 ∧ pz_x30 (ρ 0) (ay_at hp 173 12) (ay_at hp 183) := (ax_XF_lt (x := 131) (Nat.le_of_ble_eq_true rfl)).mp (ax_gx hE (131, [3]) ax_m0)
  obtain ⟨-, F154⟩ : ay_ex hp 173 ∧ ay_ln (ay_at hp 173 14) = pz_at (pz_gt (ρ 0)) (pz_gN (ρ 0)) (pz_p (pz_cF (ρ 0) (ρ 1))) := (ax_XF_lt (x := 154) (Nat.le_of_ble_eq_true rfl)).mp (ax_gx hE (154, [3, 7]) ax_m1)
  rw [c_at] at F154
  have F212 : pz_x62 (ρ 0) (ρ 1) (4000) (4) := (ax_XF_lt (x := 212) (Nat.le_of_ble_eq_true rfl)).mp (ax_gx hE (212, [3, 7, 4000, 4]) ax_m5)
  have ep : ρ 2 / 4 = pz_at (pz_gt (ρ 0)) (pz_gN (ρ 0)) (pz_p (pz_cf (pz_gt (ρ 0)) (pz_gN (ρ 0)) (ρ 1 / 4))) := F154
  have hw : pz_at (pz_gt (ρ 0)) (pz_gN (ρ 0)) (pz_p (pz_cf (pz_gt (ρ 0)) (pz_gN (ρ 0)) (ρ 1 / 4))) < pz_gN (ρ 0) ∧ pz_nx (pz_gt (ρ 0)) (pz_gN (ρ 0)) (pz_p (pz_cf (pz_gt (ρ 0)) (pz_gN (ρ 0)) (ρ 1 / 4))) ≤ pz_gN (ρ 0) := pz_wd_le F212.1
  have hln : pz_nx (pz_gt (ρ 0)) (pz_gN (ρ 0)) (pz_p (pz_cf (pz_gt (ρ 0)) (pz_gN (ρ 0)) (ρ 1 / 4))) - pz_at (pz_gt (ρ 0)) (pz_gN (ρ 0)) (pz_p (pz_cf (pz_gt (ρ 0)) (pz_gN (ρ 0)) (ρ 1 / 4))) = 8 := F212.2.1
  have ha1 := (pz_ps 0 800 i2b i2c i2d (by decide))
  have hq1 : ρ 3 / 4 = ρ 2 / 4 + 1 := pz_sm (by omega) (by decide) i3b s1
  have hb := F131.2.2 (ρ 3 / 4) (by have := hw.2; omega)
  rw [c_tape] at hb
  have hb := Option.some.inj hb
  rw [show ρ 3 / 4 = pz_at (pz_gt (ρ 0)) (pz_gN (ρ 0)) (pz_p (pz_cf (pz_gt (ρ 0)) (pz_gN (ρ 0)) (ρ 1 / 4))) + 1 by omega] at hb
  have hb2 : pz_b (pz_gt (ρ 0)) (pz_at (pz_gt (ρ 0)) (pz_gN (ρ 0)) (pz_p (pz_cf (pz_gt (ρ 0)) (pz_gN (ρ 0)) (ρ 1 / 4))) + 1) = ρ 4 / 4 := by omega
  refine ⟨(fun y hy => by cases hy), _, List.mem_cons_self, ρ, fun _ _ => rfl, ax_px hE rfl (fun x hx => ?_)⟩
  cases List.mem_singleton.mp hx
  refine (ax_XF_lt (x := 161) (Nat.le_of_ble_eq_true rfl)).mpr ?_
  show pz61 (pz_gt (ρ 0)) (pz_gN (ρ 0)) ((ρ 1) / 4) ((0) / 4)
  refine pz_is_no (Or.inr (Or.inr ⟨1, by decide, fun z => ?_⟩))
  have z2 : ρ 4 / 4 = 119 := hb2.symm.trans z
  omega
theorem axq0_is4a_0_1 : ax_RO ax_wM0 (ax_XM 0) axu0_is4a_0_1 := axqg_is4a_0_1 ax_WW0
theorem axqg_is4b_0_1 {w : ax_W} {b : Nat} (hw : ax_WW w) : ax_RO w (ax_XM b) axu0_is4b_0_1 := by
  intro ρ hp hE hT
  have j0 : ρ 0 % 4 = 1 := pz_gj hE 0 (Nat.le_of_ble_eq_true rfl) rfl
  have j1 : ρ 1 % 4 = 1 := pz_gj hE 1 (Nat.le_of_ble_eq_true rfl) rfl
  obtain ⟨i2a, i2b, i2c, i2d⟩ := pz_gi hE 2 2147483648 2147484448 (Nat.le_of_ble_eq_true rfl) rfl
  obtain ⟨i3a, i3b, i3c, i3d⟩ := pz_gi hE 3 0 4294967295 (Nat.le_of_ble_eq_true rfl) rfl
  obtain ⟨i4a, i4b, i4c, i4d⟩ := pz_gi hE 4 2147483768 2147483775 (Nat.le_of_ble_eq_true rfl) rfl
  have c_at : ay_at hp 173 14 = some (ρ 2) := ay_gfj hE 702 56 11 173 14 ax_m2 (ax_vlq rfl rfl) (ax_vlj rfl rfl)
  have s1 : (ρ 2 / 4 + 2147483648) % 4294967296 + (4 / 4 + 2147483648) % 4294967296 = (ρ 3 / 4 + 2147483648) % 4294967296 + 2147483648 := pz_gs hE 11 4 15 ax_m3
  have c_tape : ay_at hp 183 (ρ 3 / 4) = some (ρ 4) := ay_gf hE 742 15 19 183 ax_m4 (ax_vlq rfl rfl)
  obtain ⟨-, -, F131⟩ : ay_ex hp 173 ∧ ay_ex hp 183 ∧ pz_x30 (ρ 0) (ay_at hp 173 12) (ay_at hp 183) := (ax_XF_lt (x := 131) (Nat.le_of_ble_eq_true rfl)).mp (ax_gx hE (131, [3]) ax_m0)
  obtain ⟨-, F154⟩ : ay_ex hp 173 ∧ ay_ln (ay_at hp 173 14) = pz_at (pz_gt (ρ 0)) (pz_gN (ρ 0)) (pz_p (pz_cF (ρ 0) (ρ 1))) := (ax_XF_lt (x := 154) (Nat.le_of_ble_eq_true rfl)).mp (ax_gx hE (154, [3, 7]) ax_m1)
  rw [c_at] at F154
  have F212 : pz_x62 (ρ 0) (ρ 1) (4000) (4) := (ax_XF_lt (x := 212) (Nat.le_of_ble_eq_true rfl)).mp (ax_gx hE (212, [3, 7, 4000, 4]) ax_m5)
  have ep : ρ 2 / 4 = pz_at (pz_gt (ρ 0)) (pz_gN (ρ 0)) (pz_p (pz_cf (pz_gt (ρ 0)) (pz_gN (ρ 0)) (ρ 1 / 4))) := F154
  have hw : pz_at (pz_gt (ρ 0)) (pz_gN (ρ 0)) (pz_p (pz_cf (pz_gt (ρ 0)) (pz_gN (ρ 0)) (ρ 1 / 4))) < pz_gN (ρ 0) ∧ pz_nx (pz_gt (ρ 0)) (pz_gN (ρ 0)) (pz_p (pz_cf (pz_gt (ρ 0)) (pz_gN (ρ 0)) (ρ 1 / 4))) ≤ pz_gN (ρ 0) := pz_wd_le F212.1
  have hln : pz_nx (pz_gt (ρ 0)) (pz_gN (ρ 0)) (pz_p (pz_cf (pz_gt (ρ 0)) (pz_gN (ρ 0)) (ρ 1 / 4))) - pz_at (pz_gt (ρ 0)) (pz_gN (ρ 0)) (pz_p (pz_cf (pz_gt (ρ 0)) (pz_gN (ρ 0)) (ρ 1 / 4))) = 8 := F212.2.1
  have ha1 := (pz_ps 0 800 i2b i2c i2d (by decide))
  have hq1 : ρ 3 / 4 = ρ 2 / 4 + 1 := pz_sm (by omega) (by decide) i3b s1
  have hb := F131.2.2 (ρ 3 / 4) (by have := hw.2; omega)
  rw [c_tape] at hb
  have hb := Option.some.inj hb
  rw [show ρ 3 / 4 = pz_at (pz_gt (ρ 0)) (pz_gN (ρ 0)) (pz_p (pz_cf (pz_gt (ρ 0)) (pz_gN (ρ 0)) (ρ 1 / 4))) + 1 by omega] at hb
  have hb2 : pz_b (pz_gt (ρ 0)) (pz_at (pz_gt (ρ 0)) (pz_gN (ρ 0)) (pz_p (pz_cf (pz_gt (ρ 0)) (pz_gN (ρ 0)) (ρ 1 / 4))) + 1) = ρ 4 / 4 := by omega
  refine ⟨(fun y hy => by cases hy), _, List.mem_cons_self, ρ, fun _ _ => rfl, ax_px hE rfl (fun x hx => ?_)⟩
  cases List.mem_singleton.mp hx
  refine (ax_XF_lt (x := 161) (Nat.le_of_ble_eq_true rfl)).mpr ?_
  show pz61 (pz_gt (ρ 0)) (pz_gN (ρ 0)) ((ρ 1) / 4) ((0) / 4)
  refine pz_is_no (Or.inr (Or.inr ⟨1, by decide, fun z => ?_⟩))
  have z2 : ρ 4 / 4 = 119 := hb2.symm.trans z
  omega
theorem axq0_is4b_0_1 : ax_RO ax_wM0 (ax_XM 0) axu0_is4b_0_1 := axqg_is4b_0_1 ax_WW0
theorem axqg_is3_0_2 {w : ax_W} {b : Nat} (hw : ax_WW w) : ax_RO w (ax_XM b) axu0_is3_0_2 := by
  intro ρ hp hE hT
  have j0 : ρ 0 % 4 = 1 := pz_gj hE 0 (Nat.le_of_ble_eq_true rfl) rfl
  have j1 : ρ 1 % 4 = 1 := pz_gj hE 1 (Nat.le_of_ble_eq_true rfl) rfl
  obtain ⟨i2a, i2b, i2c, i2d⟩ := pz_gi hE 2 2147483648 2147484448 (Nat.le_of_ble_eq_true rfl) rfl
  obtain ⟨i3a, i3b, i3c, i3d⟩ := pz_gi hE 3 0 4294967295 (Nat.le_of_ble_eq_true rfl) rfl
  obtain ⟨i4a, i4b, i4c, i4d⟩ := pz_gi hE 4 2147483753 2147483753 (Nat.le_of_ble_eq_true rfl) rfl
  have c_at : ay_at hp 173 14 = some (ρ 2) := ay_gfj hE 702 56 11 173 14 ax_m2 (ax_vlq rfl rfl) (ax_vlj rfl rfl)
  have s1 : (ρ 2 / 4 + 2147483648) % 4294967296 + (8 / 4 + 2147483648) % 4294967296 = (ρ 3 / 4 + 2147483648) % 4294967296 + 2147483648 := pz_gs hE 11 8 15 ax_m3
  have c_tape : ay_at hp 183 (ρ 3 / 4) = some (ρ 4) := ay_gf hE 742 15 19 183 ax_m4 (ax_vlq rfl rfl)
  obtain ⟨-, -, F131⟩ : ay_ex hp 173 ∧ ay_ex hp 183 ∧ pz_x30 (ρ 0) (ay_at hp 173 12) (ay_at hp 183) := (ax_XF_lt (x := 131) (Nat.le_of_ble_eq_true rfl)).mp (ax_gx hE (131, [3]) ax_m0)
  obtain ⟨-, F154⟩ : ay_ex hp 173 ∧ ay_ln (ay_at hp 173 14) = pz_at (pz_gt (ρ 0)) (pz_gN (ρ 0)) (pz_p (pz_cF (ρ 0) (ρ 1))) := (ax_XF_lt (x := 154) (Nat.le_of_ble_eq_true rfl)).mp (ax_gx hE (154, [3, 7]) ax_m1)
  rw [c_at] at F154
  have F212 : pz_x62 (ρ 0) (ρ 1) (4000) (8) := (ax_XF_lt (x := 212) (Nat.le_of_ble_eq_true rfl)).mp (ax_gx hE (212, [3, 7, 4000, 8]) ax_m5)
  have ep : ρ 2 / 4 = pz_at (pz_gt (ρ 0)) (pz_gN (ρ 0)) (pz_p (pz_cf (pz_gt (ρ 0)) (pz_gN (ρ 0)) (ρ 1 / 4))) := F154
  have hw : pz_at (pz_gt (ρ 0)) (pz_gN (ρ 0)) (pz_p (pz_cf (pz_gt (ρ 0)) (pz_gN (ρ 0)) (ρ 1 / 4))) < pz_gN (ρ 0) ∧ pz_nx (pz_gt (ρ 0)) (pz_gN (ρ 0)) (pz_p (pz_cf (pz_gt (ρ 0)) (pz_gN (ρ 0)) (ρ 1 / 4))) ≤ pz_gN (ρ 0) := pz_wd_le F212.1
  have hln : pz_nx (pz_gt (ρ 0)) (pz_gN (ρ 0)) (pz_p (pz_cf (pz_gt (ρ 0)) (pz_gN (ρ 0)) (ρ 1 / 4))) - pz_at (pz_gt (ρ 0)) (pz_gN (ρ 0)) (pz_p (pz_cf (pz_gt (ρ 0)) (pz_gN (ρ 0)) (ρ 1 / 4))) = 8 := F212.2.1
  have ha1 := (pz_ps 0 800 i2b i2c i2d (by decide))
  have hq1 : ρ 3 / 4 = ρ 2 / 4 + 2 := pz_sm (by omega) (by decide) i3b s1
  have hb := F131.2.2 (ρ 3 / 4) (by have := hw.2; omega)
  rw [c_tape] at hb
  have hb := Option.some.inj hb
  rw [show ρ 3 / 4 = pz_at (pz_gt (ρ 0)) (pz_gN (ρ 0)) (pz_p (pz_cf (pz_gt (ρ 0)) (pz_gN (ρ 0)) (ρ 1 / 4))) + 2 by omega] at hb
  have hb2 : pz_b (pz_gt (ρ 0)) (pz_at (pz_gt (ρ 0)) (pz_gN (ρ 0)) (pz_p (pz_cf (pz_gt (ρ 0)) (pz_gN (ρ 0)) (ρ 1 / 4))) + 2) = ρ 4 / 4 := by omega
  refine ⟨(fun y hy => by cases hy), _, List.mem_cons_self, ρ, fun _ _ => rfl, ax_px hE rfl (fun x hx => ?_)⟩
  cases List.mem_singleton.mp hx
  refine (ax_XF_lt (x := 212) (Nat.le_of_ble_eq_true rfl)).mpr ?_
  show pz_x62 (ρ 0) (ρ 1) (4000) (12)
  refine ⟨F212.1, F212.2.1, fun i hi => ?_⟩
  replace hi : i < 3 := hi
  by_cases h : i < 2
  · exact F212.2.2 i h
  · have e : i = 2 := by omega
    subst e
    exact hb2.trans (show ρ 4 / 4 = 105 by omega)
theorem axq0_is3_0_2 : ax_RO ax_wM0 (ax_XM 0) axu0_is3_0_2 := axqg_is3_0_2 ax_WW0
theorem axqg_is4a_0_2 {w : ax_W} {b : Nat} (hw : ax_WW w) : ax_RO w (ax_XM b) axu0_is4a_0_2 := by
  intro ρ hp hE hT
  have j0 : ρ 0 % 4 = 1 := pz_gj hE 0 (Nat.le_of_ble_eq_true rfl) rfl
  have j1 : ρ 1 % 4 = 1 := pz_gj hE 1 (Nat.le_of_ble_eq_true rfl) rfl
  obtain ⟨i2a, i2b, i2c, i2d⟩ := pz_gi hE 2 2147483648 2147484448 (Nat.le_of_ble_eq_true rfl) rfl
  obtain ⟨i3a, i3b, i3c, i3d⟩ := pz_gi hE 3 0 4294967295 (Nat.le_of_ble_eq_true rfl) rfl
  obtain ⟨i4a, i4b, i4c, i4d⟩ := pz_gi hE 4 2147483520 2147483752 (Nat.le_of_ble_eq_true rfl) rfl
  have c_at : ay_at hp 173 14 = some (ρ 2) := ay_gfj hE 702 56 11 173 14 ax_m2 (ax_vlq rfl rfl) (ax_vlj rfl rfl)
  have s1 : (ρ 2 / 4 + 2147483648) % 4294967296 + (8 / 4 + 2147483648) % 4294967296 = (ρ 3 / 4 + 2147483648) % 4294967296 + 2147483648 := pz_gs hE 11 8 15 ax_m3
  have c_tape : ay_at hp 183 (ρ 3 / 4) = some (ρ 4) := ay_gf hE 742 15 19 183 ax_m4 (ax_vlq rfl rfl)
  obtain ⟨-, -, F131⟩ : ay_ex hp 173 ∧ ay_ex hp 183 ∧ pz_x30 (ρ 0) (ay_at hp 173 12) (ay_at hp 183) := (ax_XF_lt (x := 131) (Nat.le_of_ble_eq_true rfl)).mp (ax_gx hE (131, [3]) ax_m0)
  obtain ⟨-, F154⟩ : ay_ex hp 173 ∧ ay_ln (ay_at hp 173 14) = pz_at (pz_gt (ρ 0)) (pz_gN (ρ 0)) (pz_p (pz_cF (ρ 0) (ρ 1))) := (ax_XF_lt (x := 154) (Nat.le_of_ble_eq_true rfl)).mp (ax_gx hE (154, [3, 7]) ax_m1)
  rw [c_at] at F154
  have F212 : pz_x62 (ρ 0) (ρ 1) (4000) (8) := (ax_XF_lt (x := 212) (Nat.le_of_ble_eq_true rfl)).mp (ax_gx hE (212, [3, 7, 4000, 8]) ax_m5)
  have ep : ρ 2 / 4 = pz_at (pz_gt (ρ 0)) (pz_gN (ρ 0)) (pz_p (pz_cf (pz_gt (ρ 0)) (pz_gN (ρ 0)) (ρ 1 / 4))) := F154
  have hw : pz_at (pz_gt (ρ 0)) (pz_gN (ρ 0)) (pz_p (pz_cf (pz_gt (ρ 0)) (pz_gN (ρ 0)) (ρ 1 / 4))) < pz_gN (ρ 0) ∧ pz_nx (pz_gt (ρ 0)) (pz_gN (ρ 0)) (pz_p (pz_cf (pz_gt (ρ 0)) (pz_gN (ρ 0)) (ρ 1 / 4))) ≤ pz_gN (ρ 0) := pz_wd_le F212.1
  have hln : pz_nx (pz_gt (ρ 0)) (pz_gN (ρ 0)) (pz_p (pz_cf (pz_gt (ρ 0)) (pz_gN (ρ 0)) (ρ 1 / 4))) - pz_at (pz_gt (ρ 0)) (pz_gN (ρ 0)) (pz_p (pz_cf (pz_gt (ρ 0)) (pz_gN (ρ 0)) (ρ 1 / 4))) = 8 := F212.2.1
  have ha1 := (pz_ps 0 800 i2b i2c i2d (by decide))
  have hq1 : ρ 3 / 4 = ρ 2 / 4 + 2 := pz_sm (by omega) (by decide) i3b s1
  have hb := F131.2.2 (ρ 3 / 4) (by have := hw.2; omega)
  rw [c_tape] at hb
  have hb := Option.some.inj hb
  rw [show ρ 3 / 4 = pz_at (pz_gt (ρ 0)) (pz_gN (ρ 0)) (pz_p (pz_cf (pz_gt (ρ 0)) (pz_gN (ρ 0)) (ρ 1 / 4))) + 2 by omega] at hb
  have hb2 : pz_b (pz_gt (ρ 0)) (pz_at (pz_gt (ρ 0)) (pz_gN (ρ 0)) (pz_p (pz_cf (pz_gt (ρ 0)) (pz_gN (ρ 0)) (ρ 1 / 4))) + 2) = ρ 4 / 4 := by omega
  refine ⟨(fun y hy => by cases hy), _, List.mem_cons_self, ρ, fun _ _ => rfl, ax_px hE rfl (fun x hx => ?_)⟩
  cases List.mem_singleton.mp hx
  refine (ax_XF_lt (x := 161) (Nat.le_of_ble_eq_true rfl)).mpr ?_
  show pz61 (pz_gt (ρ 0)) (pz_gN (ρ 0)) ((ρ 1) / 4) ((0) / 4)
  refine pz_is_no (Or.inr (Or.inr ⟨2, by decide, fun z => ?_⟩))
  have z2 : ρ 4 / 4 = 105 := hb2.symm.trans z
  omega
theorem axq0_is4a_0_2 : ax_RO ax_wM0 (ax_XM 0) axu0_is4a_0_2 := axqg_is4a_0_2 ax_WW0
theorem axqg_is4b_0_2 {w : ax_W} {b : Nat} (hw : ax_WW w) : ax_RO w (ax_XM b) axu0_is4b_0_2 := by
  intro ρ hp hE hT
  have j0 : ρ 0 % 4 = 1 := pz_gj hE 0 (Nat.le_of_ble_eq_true rfl) rfl
  have j1 : ρ 1 % 4 = 1 := pz_gj hE 1 (Nat.le_of_ble_eq_true rfl) rfl
  obtain ⟨i2a, i2b, i2c, i2d⟩ := pz_gi hE 2 2147483648 2147484448 (Nat.le_of_ble_eq_true rfl) rfl
  obtain ⟨i3a, i3b, i3c, i3d⟩ := pz_gi hE 3 0 4294967295 (Nat.le_of_ble_eq_true rfl) rfl
  obtain ⟨i4a, i4b, i4c, i4d⟩ := pz_gi hE 4 2147483754 2147483775 (Nat.le_of_ble_eq_true rfl) rfl
  have c_at : ay_at hp 173 14 = some (ρ 2) := ay_gfj hE 702 56 11 173 14 ax_m2 (ax_vlq rfl rfl) (ax_vlj rfl rfl)
  have s1 : (ρ 2 / 4 + 2147483648) % 4294967296 + (8 / 4 + 2147483648) % 4294967296 = (ρ 3 / 4 + 2147483648) % 4294967296 + 2147483648 := pz_gs hE 11 8 15 ax_m3
  have c_tape : ay_at hp 183 (ρ 3 / 4) = some (ρ 4) := ay_gf hE 742 15 19 183 ax_m4 (ax_vlq rfl rfl)
  obtain ⟨-, -, F131⟩ : ay_ex hp 173 ∧ ay_ex hp 183 ∧ pz_x30 (ρ 0) (ay_at hp 173 12) (ay_at hp 183) := (ax_XF_lt (x := 131) (Nat.le_of_ble_eq_true rfl)).mp (ax_gx hE (131, [3]) ax_m0)
  obtain ⟨-, F154⟩ : ay_ex hp 173 ∧ ay_ln (ay_at hp 173 14) = pz_at (pz_gt (ρ 0)) (pz_gN (ρ 0)) (pz_p (pz_cF (ρ 0) (ρ 1))) := (ax_XF_lt (x := 154) (Nat.le_of_ble_eq_true rfl)).mp (ax_gx hE (154, [3, 7]) ax_m1)
  rw [c_at] at F154
  have F212 : pz_x62 (ρ 0) (ρ 1) (4000) (8) := (ax_XF_lt (x := 212) (Nat.le_of_ble_eq_true rfl)).mp (ax_gx hE (212, [3, 7, 4000, 8]) ax_m5)
  have ep : ρ 2 / 4 = pz_at (pz_gt (ρ 0)) (pz_gN (ρ 0)) (pz_p (pz_cf (pz_gt (ρ 0)) (pz_gN (ρ 0)) (ρ 1 / 4))) := F154
  have hw : pz_at (pz_gt (ρ 0)) (pz_gN (ρ 0)) (pz_p (pz_cf (pz_gt (ρ 0)) (pz_gN (ρ 0)) (ρ 1 / 4))) < pz_gN (ρ 0) ∧ pz_nx (pz_gt (ρ 0)) (pz_gN (ρ 0)) (pz_p (pz_cf (pz_gt (ρ 0)) (pz_gN (ρ 0)) (ρ 1 / 4))) ≤ pz_gN (ρ 0) := pz_wd_le F212.1
  have hln : pz_nx (pz_gt (ρ 0)) (pz_gN (ρ 0)) (pz_p (pz_cf (pz_gt (ρ 0)) (pz_gN (ρ 0)) (ρ 1 / 4))) - pz_at (pz_gt (ρ 0)) (pz_gN (ρ 0)) (pz_p (pz_cf (pz_gt (ρ 0)) (pz_gN (ρ 0)) (ρ 1 / 4))) = 8 := F212.2.1
  have ha1 := (pz_ps 0 800 i2b i2c i2d (by decide))
  have hq1 : ρ 3 / 4 = ρ 2 / 4 + 2 := pz_sm (by omega) (by decide) i3b s1
  have hb := F131.2.2 (ρ 3 / 4) (by have := hw.2; omega)
  rw [c_tape] at hb
  have hb := Option.some.inj hb
  rw [show ρ 3 / 4 = pz_at (pz_gt (ρ 0)) (pz_gN (ρ 0)) (pz_p (pz_cf (pz_gt (ρ 0)) (pz_gN (ρ 0)) (ρ 1 / 4))) + 2 by omega] at hb
  have hb2 : pz_b (pz_gt (ρ 0)) (pz_at (pz_gt (ρ 0)) (pz_gN (ρ 0)) (pz_p (pz_cf (pz_gt (ρ 0)) (pz_gN (ρ 0)) (ρ 1 / 4))) + 2) = ρ 4 / 4 := by omega
  refine ⟨(fun y hy => by cases hy), _, List.mem_cons_self, ρ, fun _ _ => rfl, ax_px hE rfl (fun x hx => ?_)⟩
  cases List.mem_singleton.mp hx
  refine (ax_XF_lt (x := 161) (Nat.le_of_ble_eq_true rfl)).mpr ?_
  show pz61 (pz_gt (ρ 0)) (pz_gN (ρ 0)) ((ρ 1) / 4) ((0) / 4)
  refine pz_is_no (Or.inr (Or.inr ⟨2, by decide, fun z => ?_⟩))
  have z2 : ρ 4 / 4 = 105 := hb2.symm.trans z
  omega
theorem axq0_is4b_0_2 : ax_RO ax_wM0 (ax_XM 0) axu0_is4b_0_2 := axqg_is4b_0_2 ax_WW0
theorem axqg_is3_0_3 {w : ax_W} {b : Nat} (hw : ax_WW w) : ax_RO w (ax_XM b) axu0_is3_0_3 := by
  intro ρ hp hE hT
  have j0 : ρ 0 % 4 = 1 := pz_gj hE 0 (Nat.le_of_ble_eq_true rfl) rfl
  have j1 : ρ 1 % 4 = 1 := pz_gj hE 1 (Nat.le_of_ble_eq_true rfl) rfl
  obtain ⟨i2a, i2b, i2c, i2d⟩ := pz_gi hE 2 2147483648 2147484448 (Nat.le_of_ble_eq_true rfl) rfl
  obtain ⟨i3a, i3b, i3c, i3d⟩ := pz_gi hE 3 0 4294967295 (Nat.le_of_ble_eq_true rfl) rfl
  obtain ⟨i4a, i4b, i4c, i4d⟩ := pz_gi hE 4 2147483764 2147483764 (Nat.le_of_ble_eq_true rfl) rfl
  have c_at : ay_at hp 173 14 = some (ρ 2) := ay_gfj hE 702 56 11 173 14 ax_m2 (ax_vlq rfl rfl) (ax_vlj rfl rfl)
  have s1 : (ρ 2 / 4 + 2147483648) % 4294967296 + (12 / 4 + 2147483648) % 4294967296 = (ρ 3 / 4 + 2147483648) % 4294967296 + 2147483648 := pz_gs hE 11 12 15 ax_m3
  have c_tape : ay_at hp 183 (ρ 3 / 4) = some (ρ 4) := ay_gf hE 742 15 19 183 ax_m4 (ax_vlq rfl rfl)
  obtain ⟨-, -, F131⟩ : ay_ex hp 173 ∧ ay_ex hp 183 ∧ pz_x30 (ρ 0) (ay_at hp 173 12) (ay_at hp 183) := (ax_XF_lt (x := 131) (Nat.le_of_ble_eq_true rfl)).mp (ax_gx hE (131, [3]) ax_m0)
  obtain ⟨-, F154⟩ : ay_ex hp 173 ∧ ay_ln (ay_at hp 173 14) = pz_at (pz_gt (ρ 0)) (pz_gN (ρ 0)) (pz_p (pz_cF (ρ 0) (ρ 1))) := (ax_XF_lt (x := 154) (Nat.le_of_ble_eq_true rfl)).mp (ax_gx hE (154, [3, 7]) ax_m1)
  rw [c_at] at F154
  have F212 : pz_x62 (ρ 0) (ρ 1) (4000) (12) := (ax_XF_lt (x := 212) (Nat.le_of_ble_eq_true rfl)).mp (ax_gx hE (212, [3, 7, 4000, 12]) ax_m5)
  have ep : ρ 2 / 4 = pz_at (pz_gt (ρ 0)) (pz_gN (ρ 0)) (pz_p (pz_cf (pz_gt (ρ 0)) (pz_gN (ρ 0)) (ρ 1 / 4))) := F154
  have hw : pz_at (pz_gt (ρ 0)) (pz_gN (ρ 0)) (pz_p (pz_cf (pz_gt (ρ 0)) (pz_gN (ρ 0)) (ρ 1 / 4))) < pz_gN (ρ 0) ∧ pz_nx (pz_gt (ρ 0)) (pz_gN (ρ 0)) (pz_p (pz_cf (pz_gt (ρ 0)) (pz_gN (ρ 0)) (ρ 1 / 4))) ≤ pz_gN (ρ 0) := pz_wd_le F212.1
  have hln : pz_nx (pz_gt (ρ 0)) (pz_gN (ρ 0)) (pz_p (pz_cf (pz_gt (ρ 0)) (pz_gN (ρ 0)) (ρ 1 / 4))) - pz_at (pz_gt (ρ 0)) (pz_gN (ρ 0)) (pz_p (pz_cf (pz_gt (ρ 0)) (pz_gN (ρ 0)) (ρ 1 / 4))) = 8 := F212.2.1
  have ha1 := (pz_ps 0 800 i2b i2c i2d (by decide))
  have hq1 : ρ 3 / 4 = ρ 2 / 4 + 3 := pz_sm (by omega) (by decide) i3b s1
  have hb := F131.2.2 (ρ 3 / 4) (by have := hw.2; omega)
  rw [c_tape] at hb
  have hb := Option.some.inj hb
  rw [show ρ 3 / 4 = pz_at (pz_gt (ρ 0)) (pz_gN (ρ 0)) (pz_p (pz_cf (pz_gt (ρ 0)) (pz_gN (ρ 0)) (ρ 1 / 4))) + 3 by omega] at hb
  have hb2 : pz_b (pz_gt (ρ 0)) (pz_at (pz_gt (ρ 0)) (pz_gN (ρ 0)) (pz_p (pz_cf (pz_gt (ρ 0)) (pz_gN (ρ 0)) (ρ 1 / 4))) + 3) = ρ 4 / 4 := by omega
  refine ⟨(fun y hy => by cases hy), _, List.mem_cons_self, ρ, fun _ _ => rfl, ax_px hE rfl (fun x hx => ?_)⟩
  cases List.mem_singleton.mp hx
  refine (ax_XF_lt (x := 212) (Nat.le_of_ble_eq_true rfl)).mpr ?_
  show pz_x62 (ρ 0) (ρ 1) (4000) (16)
  refine ⟨F212.1, F212.2.1, fun i hi => ?_⟩
  replace hi : i < 4 := hi
  by_cases h : i < 3
  · exact F212.2.2 i h
  · have e : i = 3 := by omega
    subst e
    exact hb2.trans (show ρ 4 / 4 = 116 by omega)
theorem axq0_is3_0_3 : ax_RO ax_wM0 (ax_XM 0) axu0_is3_0_3 := axqg_is3_0_3 ax_WW0
theorem axqg_is4a_0_3 {w : ax_W} {b : Nat} (hw : ax_WW w) : ax_RO w (ax_XM b) axu0_is4a_0_3 := by
  intro ρ hp hE hT
  have j0 : ρ 0 % 4 = 1 := pz_gj hE 0 (Nat.le_of_ble_eq_true rfl) rfl
  have j1 : ρ 1 % 4 = 1 := pz_gj hE 1 (Nat.le_of_ble_eq_true rfl) rfl
  obtain ⟨i2a, i2b, i2c, i2d⟩ := pz_gi hE 2 2147483648 2147484448 (Nat.le_of_ble_eq_true rfl) rfl
  obtain ⟨i3a, i3b, i3c, i3d⟩ := pz_gi hE 3 0 4294967295 (Nat.le_of_ble_eq_true rfl) rfl
  obtain ⟨i4a, i4b, i4c, i4d⟩ := pz_gi hE 4 2147483520 2147483763 (Nat.le_of_ble_eq_true rfl) rfl
  have c_at : ay_at hp 173 14 = some (ρ 2) := ay_gfj hE 702 56 11 173 14 ax_m2 (ax_vlq rfl rfl) (ax_vlj rfl rfl)
  have s1 : (ρ 2 / 4 + 2147483648) % 4294967296 + (12 / 4 + 2147483648) % 4294967296 = (ρ 3 / 4 + 2147483648) % 4294967296 + 2147483648 := pz_gs hE 11 12 15 ax_m3
  have c_tape : ay_at hp 183 (ρ 3 / 4) = some (ρ 4) := ay_gf hE 742 15 19 183 ax_m4 (ax_vlq rfl rfl)
  obtain ⟨-, -, F131⟩ : ay_ex hp 173 ∧ ay_ex hp 183 ∧ pz_x30 (ρ 0) (ay_at hp 173 12) (ay_at hp 183) := (ax_XF_lt (x := 131) (Nat.le_of_ble_eq_true rfl)).mp (ax_gx hE (131, [3]) ax_m0)
  obtain ⟨-, F154⟩ : ay_ex hp 173 ∧ ay_ln (ay_at hp 173 14) = pz_at (pz_gt (ρ 0)) (pz_gN (ρ 0)) (pz_p (pz_cF (ρ 0) (ρ 1))) := (ax_XF_lt (x := 154) (Nat.le_of_ble_eq_true rfl)).mp (ax_gx hE (154, [3, 7]) ax_m1)
  rw [c_at] at F154
  have F212 : pz_x62 (ρ 0) (ρ 1) (4000) (12) := (ax_XF_lt (x := 212) (Nat.le_of_ble_eq_true rfl)).mp (ax_gx hE (212, [3, 7, 4000, 12]) ax_m5)
  have ep : ρ 2 / 4 = pz_at (pz_gt (ρ 0)) (pz_gN (ρ 0)) (pz_p (pz_cf (pz_gt (ρ 0)) (pz_gN (ρ 0)) (ρ 1 / 4))) := F154
  have hw : pz_at (pz_gt (ρ 0)) (pz_gN (ρ 0)) (pz_p (pz_cf (pz_gt (ρ 0)) (pz_gN (ρ 0)) (ρ 1 / 4))) < pz_gN (ρ 0) ∧ pz_nx (pz_gt (ρ 0)) (pz_gN (ρ 0)) (pz_p (pz_cf (pz_gt (ρ 0)) (pz_gN (ρ 0)) (ρ 1 / 4))) ≤ pz_gN (ρ 0) := pz_wd_le F212.1
  have hln : pz_nx (pz_gt (ρ 0)) (pz_gN (ρ 0)) (pz_p (pz_cf (pz_gt (ρ 0)) (pz_gN (ρ 0)) (ρ 1 / 4))) - pz_at (pz_gt (ρ 0)) (pz_gN (ρ 0)) (pz_p (pz_cf (pz_gt (ρ 0)) (pz_gN (ρ 0)) (ρ 1 / 4))) = 8 := F212.2.1
  have ha1 := (pz_ps 0 800 i2b i2c i2d (by decide))
  have hq1 : ρ 3 / 4 = ρ 2 / 4 + 3 := pz_sm (by omega) (by decide) i3b s1
  have hb := F131.2.2 (ρ 3 / 4) (by have := hw.2; omega)
  rw [c_tape] at hb
  have hb := Option.some.inj hb
  rw [show ρ 3 / 4 = pz_at (pz_gt (ρ 0)) (pz_gN (ρ 0)) (pz_p (pz_cf (pz_gt (ρ 0)) (pz_gN (ρ 0)) (ρ 1 / 4))) + 3 by omega] at hb
  have hb2 : pz_b (pz_gt (ρ 0)) (pz_at (pz_gt (ρ 0)) (pz_gN (ρ 0)) (pz_p (pz_cf (pz_gt (ρ 0)) (pz_gN (ρ 0)) (ρ 1 / 4))) + 3) = ρ 4 / 4 := by omega
  refine ⟨(fun y hy => by cases hy), _, List.mem_cons_self, ρ, fun _ _ => rfl, ax_px hE rfl (fun x hx => ?_)⟩
  cases List.mem_singleton.mp hx
  refine (ax_XF_lt (x := 161) (Nat.le_of_ble_eq_true rfl)).mpr ?_
  show pz61 (pz_gt (ρ 0)) (pz_gN (ρ 0)) ((ρ 1) / 4) ((0) / 4)
  refine pz_is_no (Or.inr (Or.inr ⟨3, by decide, fun z => ?_⟩))
  have z2 : ρ 4 / 4 = 116 := hb2.symm.trans z
  omega
theorem axq0_is4a_0_3 : ax_RO ax_wM0 (ax_XM 0) axu0_is4a_0_3 := axqg_is4a_0_3 ax_WW0
theorem axqg_is4b_0_3 {w : ax_W} {b : Nat} (hw : ax_WW w) : ax_RO w (ax_XM b) axu0_is4b_0_3 := by
  intro ρ hp hE hT
  have j0 : ρ 0 % 4 = 1 := pz_gj hE 0 (Nat.le_of_ble_eq_true rfl) rfl
  have j1 : ρ 1 % 4 = 1 := pz_gj hE 1 (Nat.le_of_ble_eq_true rfl) rfl
  obtain ⟨i2a, i2b, i2c, i2d⟩ := pz_gi hE 2 2147483648 2147484448 (Nat.le_of_ble_eq_true rfl) rfl
  obtain ⟨i3a, i3b, i3c, i3d⟩ := pz_gi hE 3 0 4294967295 (Nat.le_of_ble_eq_true rfl) rfl
  obtain ⟨i4a, i4b, i4c, i4d⟩ := pz_gi hE 4 2147483765 2147483775 (Nat.le_of_ble_eq_true rfl) rfl
  have c_at : ay_at hp 173 14 = some (ρ 2) := ay_gfj hE 702 56 11 173 14 ax_m2 (ax_vlq rfl rfl) (ax_vlj rfl rfl)
  have s1 : (ρ 2 / 4 + 2147483648) % 4294967296 + (12 / 4 + 2147483648) % 4294967296 = (ρ 3 / 4 + 2147483648) % 4294967296 + 2147483648 := pz_gs hE 11 12 15 ax_m3
  have c_tape : ay_at hp 183 (ρ 3 / 4) = some (ρ 4) := ay_gf hE 742 15 19 183 ax_m4 (ax_vlq rfl rfl)
  obtain ⟨-, -, F131⟩ : ay_ex hp 173 ∧ ay_ex hp 183 ∧ pz_x30 (ρ 0) (ay_at hp 173 12) (ay_at hp 183) := (ax_XF_lt (x := 131) (Nat.le_of_ble_eq_true rfl)).mp (ax_gx hE (131, [3]) ax_m0)
  obtain ⟨-, F154⟩ : ay_ex hp 173 ∧ ay_ln (ay_at hp 173 14) = pz_at (pz_gt (ρ 0)) (pz_gN (ρ 0)) (pz_p (pz_cF (ρ 0) (ρ 1))) := (ax_XF_lt (x := 154) (Nat.le_of_ble_eq_true rfl)).mp (ax_gx hE (154, [3, 7]) ax_m1)
  rw [c_at] at F154
  have F212 : pz_x62 (ρ 0) (ρ 1) (4000) (12) := (ax_XF_lt (x := 212) (Nat.le_of_ble_eq_true rfl)).mp (ax_gx hE (212, [3, 7, 4000, 12]) ax_m5)
  have ep : ρ 2 / 4 = pz_at (pz_gt (ρ 0)) (pz_gN (ρ 0)) (pz_p (pz_cf (pz_gt (ρ 0)) (pz_gN (ρ 0)) (ρ 1 / 4))) := F154
  have hw : pz_at (pz_gt (ρ 0)) (pz_gN (ρ 0)) (pz_p (pz_cf (pz_gt (ρ 0)) (pz_gN (ρ 0)) (ρ 1 / 4))) < pz_gN (ρ 0) ∧ pz_nx (pz_gt (ρ 0)) (pz_gN (ρ 0)) (pz_p (pz_cf (pz_gt (ρ 0)) (pz_gN (ρ 0)) (ρ 1 / 4))) ≤ pz_gN (ρ 0) := pz_wd_le F212.1
  have hln : pz_nx (pz_gt (ρ 0)) (pz_gN (ρ 0)) (pz_p (pz_cf (pz_gt (ρ 0)) (pz_gN (ρ 0)) (ρ 1 / 4))) - pz_at (pz_gt (ρ 0)) (pz_gN (ρ 0)) (pz_p (pz_cf (pz_gt (ρ 0)) (pz_gN (ρ 0)) (ρ 1 / 4))) = 8 := F212.2.1
  have ha1 := (pz_ps 0 800 i2b i2c i2d (by decide))
  have hq1 : ρ 3 / 4 = ρ 2 / 4 + 3 := pz_sm (by omega) (by decide) i3b s1
  have hb := F131.2.2 (ρ 3 / 4) (by have := hw.2; omega)
  rw [c_tape] at hb
  have hb := Option.some.inj hb
  rw [show ρ 3 / 4 = pz_at (pz_gt (ρ 0)) (pz_gN (ρ 0)) (pz_p (pz_cf (pz_gt (ρ 0)) (pz_gN (ρ 0)) (ρ 1 / 4))) + 3 by omega] at hb
  have hb2 : pz_b (pz_gt (ρ 0)) (pz_at (pz_gt (ρ 0)) (pz_gN (ρ 0)) (pz_p (pz_cf (pz_gt (ρ 0)) (pz_gN (ρ 0)) (ρ 1 / 4))) + 3) = ρ 4 / 4 := by omega
  refine ⟨(fun y hy => by cases hy), _, List.mem_cons_self, ρ, fun _ _ => rfl, ax_px hE rfl (fun x hx => ?_)⟩
  cases List.mem_singleton.mp hx
  refine (ax_XF_lt (x := 161) (Nat.le_of_ble_eq_true rfl)).mpr ?_
  show pz61 (pz_gt (ρ 0)) (pz_gN (ρ 0)) ((ρ 1) / 4) ((0) / 4)
  refine pz_is_no (Or.inr (Or.inr ⟨3, by decide, fun z => ?_⟩))
  have z2 : ρ 4 / 4 = 116 := hb2.symm.trans z
  omega
theorem axq0_is4b_0_3 : ax_RO ax_wM0 (ax_XM 0) axu0_is4b_0_3 := axqg_is4b_0_3 ax_WW0
theorem axqg_is3_0_4 {w : ax_W} {b : Nat} (hw : ax_WW w) : ax_RO w (ax_XM b) axu0_is3_0_4 := by
  intro ρ hp hE hT
  have j0 : ρ 0 % 4 = 1 := pz_gj hE 0 (Nat.le_of_ble_eq_true rfl) rfl
  have j1 : ρ 1 % 4 = 1 := pz_gj hE 1 (Nat.le_of_ble_eq_true rfl) rfl
  obtain ⟨i2a, i2b, i2c, i2d⟩ := pz_gi hE 2 2147483648 2147484448 (Nat.le_of_ble_eq_true rfl) rfl
  obtain ⟨i3a, i3b, i3c, i3d⟩ := pz_gi hE 3 0 4294967295 (Nat.le_of_ble_eq_true rfl) rfl
  obtain ⟨i4a, i4b, i4c, i4d⟩ := pz_gi hE 4 2147483747 2147483747 (Nat.le_of_ble_eq_true rfl) rfl
  have c_at : ay_at hp 173 14 = some (ρ 2) := ay_gfj hE 702 56 11 173 14 ax_m2 (ax_vlq rfl rfl) (ax_vlj rfl rfl)
  have s1 : (ρ 2 / 4 + 2147483648) % 4294967296 + (16 / 4 + 2147483648) % 4294967296 = (ρ 3 / 4 + 2147483648) % 4294967296 + 2147483648 := pz_gs hE 11 16 15 ax_m3
  have c_tape : ay_at hp 183 (ρ 3 / 4) = some (ρ 4) := ay_gf hE 742 15 19 183 ax_m4 (ax_vlq rfl rfl)
  obtain ⟨-, -, F131⟩ : ay_ex hp 173 ∧ ay_ex hp 183 ∧ pz_x30 (ρ 0) (ay_at hp 173 12) (ay_at hp 183) := (ax_XF_lt (x := 131) (Nat.le_of_ble_eq_true rfl)).mp (ax_gx hE (131, [3]) ax_m0)
  obtain ⟨-, F154⟩ : ay_ex hp 173 ∧ ay_ln (ay_at hp 173 14) = pz_at (pz_gt (ρ 0)) (pz_gN (ρ 0)) (pz_p (pz_cF (ρ 0) (ρ 1))) := (ax_XF_lt (x := 154) (Nat.le_of_ble_eq_true rfl)).mp (ax_gx hE (154, [3, 7]) ax_m1)
  rw [c_at] at F154
  have F212 : pz_x62 (ρ 0) (ρ 1) (4000) (16) := (ax_XF_lt (x := 212) (Nat.le_of_ble_eq_true rfl)).mp (ax_gx hE (212, [3, 7, 4000, 16]) ax_m5)
  have ep : ρ 2 / 4 = pz_at (pz_gt (ρ 0)) (pz_gN (ρ 0)) (pz_p (pz_cf (pz_gt (ρ 0)) (pz_gN (ρ 0)) (ρ 1 / 4))) := F154
  have hw : pz_at (pz_gt (ρ 0)) (pz_gN (ρ 0)) (pz_p (pz_cf (pz_gt (ρ 0)) (pz_gN (ρ 0)) (ρ 1 / 4))) < pz_gN (ρ 0) ∧ pz_nx (pz_gt (ρ 0)) (pz_gN (ρ 0)) (pz_p (pz_cf (pz_gt (ρ 0)) (pz_gN (ρ 0)) (ρ 1 / 4))) ≤ pz_gN (ρ 0) := pz_wd_le F212.1
  have hln : pz_nx (pz_gt (ρ 0)) (pz_gN (ρ 0)) (pz_p (pz_cf (pz_gt (ρ 0)) (pz_gN (ρ 0)) (ρ 1 / 4))) - pz_at (pz_gt (ρ 0)) (pz_gN (ρ 0)) (pz_p (pz_cf (pz_gt (ρ 0)) (pz_gN (ρ 0)) (ρ 1 / 4))) = 8 := F212.2.1
  have ha1 := (pz_ps 0 800 i2b i2c i2d (by decide))
  have hq1 : ρ 3 / 4 = ρ 2 / 4 + 4 := pz_sm (by omega) (by decide) i3b s1
  have hb := F131.2.2 (ρ 3 / 4) (by have := hw.2; omega)
  rw [c_tape] at hb
  have hb := Option.some.inj hb
  rw [show ρ 3 / 4 = pz_at (pz_gt (ρ 0)) (pz_gN (ρ 0)) (pz_p (pz_cf (pz_gt (ρ 0)) (pz_gN (ρ 0)) (ρ 1 / 4))) + 4 by omega] at hb
  have hb2 : pz_b (pz_gt (ρ 0)) (pz_at (pz_gt (ρ 0)) (pz_gN (ρ 0)) (pz_p (pz_cf (pz_gt (ρ 0)) (pz_gN (ρ 0)) (ρ 1 / 4))) + 4) = ρ 4 / 4 := by omega
  refine ⟨(fun y hy => by cases hy), _, List.mem_cons_self, ρ, fun _ _ => rfl, ax_px hE rfl (fun x hx => ?_)⟩
  cases List.mem_singleton.mp hx
  refine (ax_XF_lt (x := 212) (Nat.le_of_ble_eq_true rfl)).mpr ?_
  show pz_x62 (ρ 0) (ρ 1) (4000) (20)
  refine ⟨F212.1, F212.2.1, fun i hi => ?_⟩
  replace hi : i < 5 := hi
  by_cases h : i < 4
  · exact F212.2.2 i h
  · have e : i = 4 := by omega
    subst e
    exact hb2.trans (show ρ 4 / 4 = 99 by omega)
theorem axq0_is3_0_4 : ax_RO ax_wM0 (ax_XM 0) axu0_is3_0_4 := axqg_is3_0_4 ax_WW0
theorem axqg_is4a_0_4 {w : ax_W} {b : Nat} (hw : ax_WW w) : ax_RO w (ax_XM b) axu0_is4a_0_4 := by
  intro ρ hp hE hT
  have j0 : ρ 0 % 4 = 1 := pz_gj hE 0 (Nat.le_of_ble_eq_true rfl) rfl
  have j1 : ρ 1 % 4 = 1 := pz_gj hE 1 (Nat.le_of_ble_eq_true rfl) rfl
  obtain ⟨i2a, i2b, i2c, i2d⟩ := pz_gi hE 2 2147483648 2147484448 (Nat.le_of_ble_eq_true rfl) rfl
  obtain ⟨i3a, i3b, i3c, i3d⟩ := pz_gi hE 3 0 4294967295 (Nat.le_of_ble_eq_true rfl) rfl
  obtain ⟨i4a, i4b, i4c, i4d⟩ := pz_gi hE 4 2147483520 2147483746 (Nat.le_of_ble_eq_true rfl) rfl
  have c_at : ay_at hp 173 14 = some (ρ 2) := ay_gfj hE 702 56 11 173 14 ax_m2 (ax_vlq rfl rfl) (ax_vlj rfl rfl)
  have s1 : (ρ 2 / 4 + 2147483648) % 4294967296 + (16 / 4 + 2147483648) % 4294967296 = (ρ 3 / 4 + 2147483648) % 4294967296 + 2147483648 := pz_gs hE 11 16 15 ax_m3
  have c_tape : ay_at hp 183 (ρ 3 / 4) = some (ρ 4) := ay_gf hE 742 15 19 183 ax_m4 (ax_vlq rfl rfl)
  obtain ⟨-, -, F131⟩ : ay_ex hp 173 ∧ ay_ex hp 183 ∧ pz_x30 (ρ 0) (ay_at hp 173 12) (ay_at hp 183) := (ax_XF_lt (x := 131) (Nat.le_of_ble_eq_true rfl)).mp (ax_gx hE (131, [3]) ax_m0)
  obtain ⟨-, F154⟩ : ay_ex hp 173 ∧ ay_ln (ay_at hp 173 14) = pz_at (pz_gt (ρ 0)) (pz_gN (ρ 0)) (pz_p (pz_cF (ρ 0) (ρ 1))) := (ax_XF_lt (x := 154) (Nat.le_of_ble_eq_true rfl)).mp (ax_gx hE (154, [3, 7]) ax_m1)
  rw [c_at] at F154
  have F212 : pz_x62 (ρ 0) (ρ 1) (4000) (16) := (ax_XF_lt (x := 212) (Nat.le_of_ble_eq_true rfl)).mp (ax_gx hE (212, [3, 7, 4000, 16]) ax_m5)
  have ep : ρ 2 / 4 = pz_at (pz_gt (ρ 0)) (pz_gN (ρ 0)) (pz_p (pz_cf (pz_gt (ρ 0)) (pz_gN (ρ 0)) (ρ 1 / 4))) := F154
  have hw : pz_at (pz_gt (ρ 0)) (pz_gN (ρ 0)) (pz_p (pz_cf (pz_gt (ρ 0)) (pz_gN (ρ 0)) (ρ 1 / 4))) < pz_gN (ρ 0) ∧ pz_nx (pz_gt (ρ 0)) (pz_gN (ρ 0)) (pz_p (pz_cf (pz_gt (ρ 0)) (pz_gN (ρ 0)) (ρ 1 / 4))) ≤ pz_gN (ρ 0) := pz_wd_le F212.1
  have hln : pz_nx (pz_gt (ρ 0)) (pz_gN (ρ 0)) (pz_p (pz_cf (pz_gt (ρ 0)) (pz_gN (ρ 0)) (ρ 1 / 4))) - pz_at (pz_gt (ρ 0)) (pz_gN (ρ 0)) (pz_p (pz_cf (pz_gt (ρ 0)) (pz_gN (ρ 0)) (ρ 1 / 4))) = 8 := F212.2.1
  have ha1 := (pz_ps 0 800 i2b i2c i2d (by decide))
  have hq1 : ρ 3 / 4 = ρ 2 / 4 + 4 := pz_sm (by omega) (by decide) i3b s1
  have hb := F131.2.2 (ρ 3 / 4) (by have := hw.2; omega)
  rw [c_tape] at hb
  have hb := Option.some.inj hb
  rw [show ρ 3 / 4 = pz_at (pz_gt (ρ 0)) (pz_gN (ρ 0)) (pz_p (pz_cf (pz_gt (ρ 0)) (pz_gN (ρ 0)) (ρ 1 / 4))) + 4 by omega] at hb
  have hb2 : pz_b (pz_gt (ρ 0)) (pz_at (pz_gt (ρ 0)) (pz_gN (ρ 0)) (pz_p (pz_cf (pz_gt (ρ 0)) (pz_gN (ρ 0)) (ρ 1 / 4))) + 4) = ρ 4 / 4 := by omega
  refine ⟨(fun y hy => by cases hy), _, List.mem_cons_self, ρ, fun _ _ => rfl, ax_px hE rfl (fun x hx => ?_)⟩
  cases List.mem_singleton.mp hx
  refine (ax_XF_lt (x := 161) (Nat.le_of_ble_eq_true rfl)).mpr ?_
  show pz61 (pz_gt (ρ 0)) (pz_gN (ρ 0)) ((ρ 1) / 4) ((0) / 4)
  refine pz_is_no (Or.inr (Or.inr ⟨4, by decide, fun z => ?_⟩))
  have z2 : ρ 4 / 4 = 99 := hb2.symm.trans z
  omega
theorem axq0_is4a_0_4 : ax_RO ax_wM0 (ax_XM 0) axu0_is4a_0_4 := axqg_is4a_0_4 ax_WW0
theorem axqg_is4b_0_4 {w : ax_W} {b : Nat} (hw : ax_WW w) : ax_RO w (ax_XM b) axu0_is4b_0_4 := by
  intro ρ hp hE hT
  have j0 : ρ 0 % 4 = 1 := pz_gj hE 0 (Nat.le_of_ble_eq_true rfl) rfl
  have j1 : ρ 1 % 4 = 1 := pz_gj hE 1 (Nat.le_of_ble_eq_true rfl) rfl
  obtain ⟨i2a, i2b, i2c, i2d⟩ := pz_gi hE 2 2147483648 2147484448 (Nat.le_of_ble_eq_true rfl) rfl
  obtain ⟨i3a, i3b, i3c, i3d⟩ := pz_gi hE 3 0 4294967295 (Nat.le_of_ble_eq_true rfl) rfl
  obtain ⟨i4a, i4b, i4c, i4d⟩ := pz_gi hE 4 2147483748 2147483775 (Nat.le_of_ble_eq_true rfl) rfl
  have c_at : ay_at hp 173 14 = some (ρ 2) := ay_gfj hE 702 56 11 173 14 ax_m2 (ax_vlq rfl rfl) (ax_vlj rfl rfl)
  have s1 : (ρ 2 / 4 + 2147483648) % 4294967296 + (16 / 4 + 2147483648) % 4294967296 = (ρ 3 / 4 + 2147483648) % 4294967296 + 2147483648 := pz_gs hE 11 16 15 ax_m3
  have c_tape : ay_at hp 183 (ρ 3 / 4) = some (ρ 4) := ay_gf hE 742 15 19 183 ax_m4 (ax_vlq rfl rfl)
  obtain ⟨-, -, F131⟩ : ay_ex hp 173 ∧ ay_ex hp 183 ∧ pz_x30 (ρ 0) (ay_at hp 173 12) (ay_at hp 183) := (ax_XF_lt (x := 131) (Nat.le_of_ble_eq_true rfl)).mp (ax_gx hE (131, [3]) ax_m0)
  obtain ⟨-, F154⟩ : ay_ex hp 173 ∧ ay_ln (ay_at hp 173 14) = pz_at (pz_gt (ρ 0)) (pz_gN (ρ 0)) (pz_p (pz_cF (ρ 0) (ρ 1))) := (ax_XF_lt (x := 154) (Nat.le_of_ble_eq_true rfl)).mp (ax_gx hE (154, [3, 7]) ax_m1)
  rw [c_at] at F154
  have F212 : pz_x62 (ρ 0) (ρ 1) (4000) (16) := (ax_XF_lt (x := 212) (Nat.le_of_ble_eq_true rfl)).mp (ax_gx hE (212, [3, 7, 4000, 16]) ax_m5)
  have ep : ρ 2 / 4 = pz_at (pz_gt (ρ 0)) (pz_gN (ρ 0)) (pz_p (pz_cf (pz_gt (ρ 0)) (pz_gN (ρ 0)) (ρ 1 / 4))) := F154
  have hw : pz_at (pz_gt (ρ 0)) (pz_gN (ρ 0)) (pz_p (pz_cf (pz_gt (ρ 0)) (pz_gN (ρ 0)) (ρ 1 / 4))) < pz_gN (ρ 0) ∧ pz_nx (pz_gt (ρ 0)) (pz_gN (ρ 0)) (pz_p (pz_cf (pz_gt (ρ 0)) (pz_gN (ρ 0)) (ρ 1 / 4))) ≤ pz_gN (ρ 0) := pz_wd_le F212.1
  have hln : pz_nx (pz_gt (ρ 0)) (pz_gN (ρ 0)) (pz_p (pz_cf (pz_gt (ρ 0)) (pz_gN (ρ 0)) (ρ 1 / 4))) - pz_at (pz_gt (ρ 0)) (pz_gN (ρ 0)) (pz_p (pz_cf (pz_gt (ρ 0)) (pz_gN (ρ 0)) (ρ 1 / 4))) = 8 := F212.2.1
  have ha1 := (pz_ps 0 800 i2b i2c i2d (by decide))
  have hq1 : ρ 3 / 4 = ρ 2 / 4 + 4 := pz_sm (by omega) (by decide) i3b s1
  have hb := F131.2.2 (ρ 3 / 4) (by have := hw.2; omega)
  rw [c_tape] at hb
  have hb := Option.some.inj hb
  rw [show ρ 3 / 4 = pz_at (pz_gt (ρ 0)) (pz_gN (ρ 0)) (pz_p (pz_cf (pz_gt (ρ 0)) (pz_gN (ρ 0)) (ρ 1 / 4))) + 4 by omega] at hb
  have hb2 : pz_b (pz_gt (ρ 0)) (pz_at (pz_gt (ρ 0)) (pz_gN (ρ 0)) (pz_p (pz_cf (pz_gt (ρ 0)) (pz_gN (ρ 0)) (ρ 1 / 4))) + 4) = ρ 4 / 4 := by omega
  refine ⟨(fun y hy => by cases hy), _, List.mem_cons_self, ρ, fun _ _ => rfl, ax_px hE rfl (fun x hx => ?_)⟩
  cases List.mem_singleton.mp hx
  refine (ax_XF_lt (x := 161) (Nat.le_of_ble_eq_true rfl)).mpr ?_
  show pz61 (pz_gt (ρ 0)) (pz_gN (ρ 0)) ((ρ 1) / 4) ((0) / 4)
  refine pz_is_no (Or.inr (Or.inr ⟨4, by decide, fun z => ?_⟩))
  have z2 : ρ 4 / 4 = 99 := hb2.symm.trans z
  omega
theorem axq0_is4b_0_4 : ax_RO ax_wM0 (ax_XM 0) axu0_is4b_0_4 := axqg_is4b_0_4 ax_WW0
theorem axqg_is3_0_5 {w : ax_W} {b : Nat} (hw : ax_WW w) : ax_RO w (ax_XM b) axu0_is3_0_5 := by
  intro ρ hp hE hT
  have j0 : ρ 0 % 4 = 1 := pz_gj hE 0 (Nat.le_of_ble_eq_true rfl) rfl
  have j1 : ρ 1 % 4 = 1 := pz_gj hE 1 (Nat.le_of_ble_eq_true rfl) rfl
  obtain ⟨i2a, i2b, i2c, i2d⟩ := pz_gi hE 2 2147483648 2147484448 (Nat.le_of_ble_eq_true rfl) rfl
  obtain ⟨i3a, i3b, i3c, i3d⟩ := pz_gi hE 3 0 4294967295 (Nat.le_of_ble_eq_true rfl) rfl
  obtain ⟨i4a, i4b, i4c, i4d⟩ := pz_gi hE 4 2147483752 2147483752 (Nat.le_of_ble_eq_true rfl) rfl
  have c_at : ay_at hp 173 14 = some (ρ 2) := ay_gfj hE 702 56 11 173 14 ax_m2 (ax_vlq rfl rfl) (ax_vlj rfl rfl)
  have s1 : (ρ 2 / 4 + 2147483648) % 4294967296 + (20 / 4 + 2147483648) % 4294967296 = (ρ 3 / 4 + 2147483648) % 4294967296 + 2147483648 := pz_gs hE 11 20 15 ax_m3
  have c_tape : ay_at hp 183 (ρ 3 / 4) = some (ρ 4) := ay_gf hE 742 15 19 183 ax_m4 (ax_vlq rfl rfl)
  obtain ⟨-, -, F131⟩ : ay_ex hp 173 ∧ ay_ex hp 183 ∧ pz_x30 (ρ 0) (ay_at hp 173 12) (ay_at hp 183) := (ax_XF_lt (x := 131) (Nat.le_of_ble_eq_true rfl)).mp (ax_gx hE (131, [3]) ax_m0)
  obtain ⟨-, F154⟩ : ay_ex hp 173 ∧ ay_ln (ay_at hp 173 14) = pz_at (pz_gt (ρ 0)) (pz_gN (ρ 0)) (pz_p (pz_cF (ρ 0) (ρ 1))) := (ax_XF_lt (x := 154) (Nat.le_of_ble_eq_true rfl)).mp (ax_gx hE (154, [3, 7]) ax_m1)
  rw [c_at] at F154
  have F212 : pz_x62 (ρ 0) (ρ 1) (4000) (20) := (ax_XF_lt (x := 212) (Nat.le_of_ble_eq_true rfl)).mp (ax_gx hE (212, [3, 7, 4000, 20]) ax_m5)
  have ep : ρ 2 / 4 = pz_at (pz_gt (ρ 0)) (pz_gN (ρ 0)) (pz_p (pz_cf (pz_gt (ρ 0)) (pz_gN (ρ 0)) (ρ 1 / 4))) := F154
  have hw : pz_at (pz_gt (ρ 0)) (pz_gN (ρ 0)) (pz_p (pz_cf (pz_gt (ρ 0)) (pz_gN (ρ 0)) (ρ 1 / 4))) < pz_gN (ρ 0) ∧ pz_nx (pz_gt (ρ 0)) (pz_gN (ρ 0)) (pz_p (pz_cf (pz_gt (ρ 0)) (pz_gN (ρ 0)) (ρ 1 / 4))) ≤ pz_gN (ρ 0) := pz_wd_le F212.1
  have hln : pz_nx (pz_gt (ρ 0)) (pz_gN (ρ 0)) (pz_p (pz_cf (pz_gt (ρ 0)) (pz_gN (ρ 0)) (ρ 1 / 4))) - pz_at (pz_gt (ρ 0)) (pz_gN (ρ 0)) (pz_p (pz_cf (pz_gt (ρ 0)) (pz_gN (ρ 0)) (ρ 1 / 4))) = 8 := F212.2.1
  have ha1 := (pz_ps 0 800 i2b i2c i2d (by decide))
  have hq1 : ρ 3 / 4 = ρ 2 / 4 + 5 := pz_sm (by omega) (by decide) i3b s1
  have hb := F131.2.2 (ρ 3 / 4) (by have := hw.2; omega)
  rw [c_tape] at hb
  have hb := Option.some.inj hb
  rw [show ρ 3 / 4 = pz_at (pz_gt (ρ 0)) (pz_gN (ρ 0)) (pz_p (pz_cf (pz_gt (ρ 0)) (pz_gN (ρ 0)) (ρ 1 / 4))) + 5 by omega] at hb
  have hb2 : pz_b (pz_gt (ρ 0)) (pz_at (pz_gt (ρ 0)) (pz_gN (ρ 0)) (pz_p (pz_cf (pz_gt (ρ 0)) (pz_gN (ρ 0)) (ρ 1 / 4))) + 5) = ρ 4 / 4 := by omega
  refine ⟨(fun y hy => by cases hy), _, List.mem_cons_self, ρ, fun _ _ => rfl, ax_px hE rfl (fun x hx => ?_)⟩
  cases List.mem_singleton.mp hx
  refine (ax_XF_lt (x := 212) (Nat.le_of_ble_eq_true rfl)).mpr ?_
  show pz_x62 (ρ 0) (ρ 1) (4000) (24)
  refine ⟨F212.1, F212.2.1, fun i hi => ?_⟩
  replace hi : i < 6 := hi
  by_cases h : i < 5
  · exact F212.2.2 i h
  · have e : i = 5 := by omega
    subst e
    exact hb2.trans (show ρ 4 / 4 = 104 by omega)
theorem axq0_is3_0_5 : ax_RO ax_wM0 (ax_XM 0) axu0_is3_0_5 := axqg_is3_0_5 ax_WW0
theorem axqg_is4a_0_5 {w : ax_W} {b : Nat} (hw : ax_WW w) : ax_RO w (ax_XM b) axu0_is4a_0_5 := by
  intro ρ hp hE hT
  have j0 : ρ 0 % 4 = 1 := pz_gj hE 0 (Nat.le_of_ble_eq_true rfl) rfl
  have j1 : ρ 1 % 4 = 1 := pz_gj hE 1 (Nat.le_of_ble_eq_true rfl) rfl
  obtain ⟨i2a, i2b, i2c, i2d⟩ := pz_gi hE 2 2147483648 2147484448 (Nat.le_of_ble_eq_true rfl) rfl
  obtain ⟨i3a, i3b, i3c, i3d⟩ := pz_gi hE 3 0 4294967295 (Nat.le_of_ble_eq_true rfl) rfl
  obtain ⟨i4a, i4b, i4c, i4d⟩ := pz_gi hE 4 2147483520 2147483751 (Nat.le_of_ble_eq_true rfl) rfl
  have c_at : ay_at hp 173 14 = some (ρ 2) := ay_gfj hE 702 56 11 173 14 ax_m2 (ax_vlq rfl rfl) (ax_vlj rfl rfl)
  have s1 : (ρ 2 / 4 + 2147483648) % 4294967296 + (20 / 4 + 2147483648) % 4294967296 = (ρ 3 / 4 + 2147483648) % 4294967296 + 2147483648 := pz_gs hE 11 20 15 ax_m3
  have c_tape : ay_at hp 183 (ρ 3 / 4) = some (ρ 4) := ay_gf hE 742 15 19 183 ax_m4 (ax_vlq rfl rfl)
  obtain ⟨-, -, F131⟩ : ay_ex hp 173 ∧ ay_ex hp 183 ∧ pz_x30 (ρ 0) (ay_at hp 173 12) (ay_at hp 183) := (ax_XF_lt (x := 131) (Nat.le_of_ble_eq_true rfl)).mp (ax_gx hE (131, [3]) ax_m0)
  obtain ⟨-, F154⟩ : ay_ex hp 173 ∧ ay_ln (ay_at hp 173 14) = pz_at (pz_gt (ρ 0)) (pz_gN (ρ 0)) (pz_p (pz_cF (ρ 0) (ρ 1))) := (ax_XF_lt (x := 154) (Nat.le_of_ble_eq_true rfl)).mp (ax_gx hE (154, [3, 7]) ax_m1)
  rw [c_at] at F154
  have F212 : pz_x62 (ρ 0) (ρ 1) (4000) (20) := (ax_XF_lt (x := 212) (Nat.le_of_ble_eq_true rfl)).mp (ax_gx hE (212, [3, 7, 4000, 20]) ax_m5)
  have ep : ρ 2 / 4 = pz_at (pz_gt (ρ 0)) (pz_gN (ρ 0)) (pz_p (pz_cf (pz_gt (ρ 0)) (pz_gN (ρ 0)) (ρ 1 / 4))) := F154
  have hw : pz_at (pz_gt (ρ 0)) (pz_gN (ρ 0)) (pz_p (pz_cf (pz_gt (ρ 0)) (pz_gN (ρ 0)) (ρ 1 / 4))) < pz_gN (ρ 0) ∧ pz_nx (pz_gt (ρ 0)) (pz_gN (ρ 0)) (pz_p (pz_cf (pz_gt (ρ 0)) (pz_gN (ρ 0)) (ρ 1 / 4))) ≤ pz_gN (ρ 0) := pz_wd_le F212.1
  have hln : pz_nx (pz_gt (ρ 0)) (pz_gN (ρ 0)) (pz_p (pz_cf (pz_gt (ρ 0)) (pz_gN (ρ 0)) (ρ 1 / 4))) - pz_at (pz_gt (ρ 0)) (pz_gN (ρ 0)) (pz_p (pz_cf (pz_gt (ρ 0)) (pz_gN (ρ 0)) (ρ 1 / 4))) = 8 := F212.2.1
  have ha1 := (pz_ps 0 800 i2b i2c i2d (by decide))
  have hq1 : ρ 3 / 4 = ρ 2 / 4 + 5 := pz_sm (by omega) (by decide) i3b s1
  have hb := F131.2.2 (ρ 3 / 4) (by have := hw.2; omega)
  rw [c_tape] at hb
  have hb := Option.some.inj hb
  rw [show ρ 3 / 4 = pz_at (pz_gt (ρ 0)) (pz_gN (ρ 0)) (pz_p (pz_cf (pz_gt (ρ 0)) (pz_gN (ρ 0)) (ρ 1 / 4))) + 5 by omega] at hb
  have hb2 : pz_b (pz_gt (ρ 0)) (pz_at (pz_gt (ρ 0)) (pz_gN (ρ 0)) (pz_p (pz_cf (pz_gt (ρ 0)) (pz_gN (ρ 0)) (ρ 1 / 4))) + 5) = ρ 4 / 4 := by omega
  refine ⟨(fun y hy => by cases hy), _, List.mem_cons_self, ρ, fun _ _ => rfl, ax_px hE rfl (fun x hx => ?_)⟩
  cases List.mem_singleton.mp hx
  refine (ax_XF_lt (x := 161) (Nat.le_of_ble_eq_true rfl)).mpr ?_
  show pz61 (pz_gt (ρ 0)) (pz_gN (ρ 0)) ((ρ 1) / 4) ((0) / 4)
  refine pz_is_no (Or.inr (Or.inr ⟨5, by decide, fun z => ?_⟩))
  have z2 : ρ 4 / 4 = 104 := hb2.symm.trans z
  omega
theorem axq0_is4a_0_5 : ax_RO ax_wM0 (ax_XM 0) axu0_is4a_0_5 := axqg_is4a_0_5 ax_WW0
theorem axqg_is4b_0_5 {w : ax_W} {b : Nat} (hw : ax_WW w) : ax_RO w (ax_XM b) axu0_is4b_0_5 := by
  intro ρ hp hE hT
  have j0 : ρ 0 % 4 = 1 := pz_gj hE 0 (Nat.le_of_ble_eq_true rfl) rfl
  have j1 : ρ 1 % 4 = 1 := pz_gj hE 1 (Nat.le_of_ble_eq_true rfl) rfl
  obtain ⟨i2a, i2b, i2c, i2d⟩ := pz_gi hE 2 2147483648 2147484448 (Nat.le_of_ble_eq_true rfl) rfl
  obtain ⟨i3a, i3b, i3c, i3d⟩ := pz_gi hE 3 0 4294967295 (Nat.le_of_ble_eq_true rfl) rfl
  obtain ⟨i4a, i4b, i4c, i4d⟩ := pz_gi hE 4 2147483753 2147483775 (Nat.le_of_ble_eq_true rfl) rfl
  have c_at : ay_at hp 173 14 = some (ρ 2) := ay_gfj hE 702 56 11 173 14 ax_m2 (ax_vlq rfl rfl) (ax_vlj rfl rfl)
  have s1 : (ρ 2 / 4 + 2147483648) % 4294967296 + (20 / 4 + 2147483648) % 4294967296 = (ρ 3 / 4 + 2147483648) % 4294967296 + 2147483648 := pz_gs hE 11 20 15 ax_m3
  have c_tape : ay_at hp 183 (ρ 3 / 4) = some (ρ 4) := ay_gf hE 742 15 19 183 ax_m4 (ax_vlq rfl rfl)
  obtain ⟨-, -, F131⟩ : ay_ex hp 173 ∧ ay_ex hp 183 ∧ pz_x30 (ρ 0) (ay_at hp 173 12) (ay_at hp 183) := (ax_XF_lt (x := 131) (Nat.le_of_ble_eq_true rfl)).mp (ax_gx hE (131, [3]) ax_m0)
  obtain ⟨-, F154⟩ : ay_ex hp 173 ∧ ay_ln (ay_at hp 173 14) = pz_at (pz_gt (ρ 0)) (pz_gN (ρ 0)) (pz_p (pz_cF (ρ 0) (ρ 1))) := (ax_XF_lt (x := 154) (Nat.le_of_ble_eq_true rfl)).mp (ax_gx hE (154, [3, 7]) ax_m1)
  rw [c_at] at F154
  have F212 : pz_x62 (ρ 0) (ρ 1) (4000) (20) := (ax_XF_lt (x := 212) (Nat.le_of_ble_eq_true rfl)).mp (ax_gx hE (212, [3, 7, 4000, 20]) ax_m5)
  have ep : ρ 2 / 4 = pz_at (pz_gt (ρ 0)) (pz_gN (ρ 0)) (pz_p (pz_cf (pz_gt (ρ 0)) (pz_gN (ρ 0)) (ρ 1 / 4))) := F154
  have hw : pz_at (pz_gt (ρ 0)) (pz_gN (ρ 0)) (pz_p (pz_cf (pz_gt (ρ 0)) (pz_gN (ρ 0)) (ρ 1 / 4))) < pz_gN (ρ 0) ∧ pz_nx (pz_gt (ρ 0)) (pz_gN (ρ 0)) (pz_p (pz_cf (pz_gt (ρ 0)) (pz_gN (ρ 0)) (ρ 1 / 4))) ≤ pz_gN (ρ 0) := pz_wd_le F212.1
  have hln : pz_nx (pz_gt (ρ 0)) (pz_gN (ρ 0)) (pz_p (pz_cf (pz_gt (ρ 0)) (pz_gN (ρ 0)) (ρ 1 / 4))) - pz_at (pz_gt (ρ 0)) (pz_gN (ρ 0)) (pz_p (pz_cf (pz_gt (ρ 0)) (pz_gN (ρ 0)) (ρ 1 / 4))) = 8 := F212.2.1
  have ha1 := (pz_ps 0 800 i2b i2c i2d (by decide))
  have hq1 : ρ 3 / 4 = ρ 2 / 4 + 5 := pz_sm (by omega) (by decide) i3b s1
  have hb := F131.2.2 (ρ 3 / 4) (by have := hw.2; omega)
  rw [c_tape] at hb
  have hb := Option.some.inj hb
  rw [show ρ 3 / 4 = pz_at (pz_gt (ρ 0)) (pz_gN (ρ 0)) (pz_p (pz_cf (pz_gt (ρ 0)) (pz_gN (ρ 0)) (ρ 1 / 4))) + 5 by omega] at hb
  have hb2 : pz_b (pz_gt (ρ 0)) (pz_at (pz_gt (ρ 0)) (pz_gN (ρ 0)) (pz_p (pz_cf (pz_gt (ρ 0)) (pz_gN (ρ 0)) (ρ 1 / 4))) + 5) = ρ 4 / 4 := by omega
  refine ⟨(fun y hy => by cases hy), _, List.mem_cons_self, ρ, fun _ _ => rfl, ax_px hE rfl (fun x hx => ?_)⟩
  cases List.mem_singleton.mp hx
  refine (ax_XF_lt (x := 161) (Nat.le_of_ble_eq_true rfl)).mpr ?_
  show pz61 (pz_gt (ρ 0)) (pz_gN (ρ 0)) ((ρ 1) / 4) ((0) / 4)
  refine pz_is_no (Or.inr (Or.inr ⟨5, by decide, fun z => ?_⟩))
  have z2 : ρ 4 / 4 = 104 := hb2.symm.trans z
  omega
theorem axq0_is4b_0_5 : ax_RO ax_wM0 (ax_XM 0) axu0_is4b_0_5 := axqg_is4b_0_5 ax_WW0
theorem axqg_is3_0_6 {w : ax_W} {b : Nat} (hw : ax_WW w) : ax_RO w (ax_XM b) axu0_is3_0_6 := by
  intro ρ hp hE hT
  have j0 : ρ 0 % 4 = 1 := pz_gj hE 0 (Nat.le_of_ble_eq_true rfl) rfl
  have j1 : ρ 1 % 4 = 1 := pz_gj hE 1 (Nat.le_of_ble_eq_true rfl) rfl
  obtain ⟨i2a, i2b, i2c, i2d⟩ := pz_gi hE 2 2147483648 2147484448 (Nat.le_of_ble_eq_true rfl) rfl
  obtain ⟨i3a, i3b, i3c, i3d⟩ := pz_gi hE 3 0 4294967295 (Nat.le_of_ble_eq_true rfl) rfl
  obtain ⟨i4a, i4b, i4c, i4d⟩ := pz_gi hE 4 2147483749 2147483749 (Nat.le_of_ble_eq_true rfl) rfl
  have c_at : ay_at hp 173 14 = some (ρ 2) := ay_gfj hE 702 56 11 173 14 ax_m2 (ax_vlq rfl rfl) (ax_vlj rfl rfl)
  have s1 : (ρ 2 / 4 + 2147483648) % 4294967296 + (24 / 4 + 2147483648) % 4294967296 = (ρ 3 / 4 + 2147483648) % 4294967296 + 2147483648 := pz_gs hE 11 24 15 ax_m3
  have c_tape : ay_at hp 183 (ρ 3 / 4) = some (ρ 4) := ay_gf hE 742 15 19 183 ax_m4 (ax_vlq rfl rfl)
  obtain ⟨-, -, F131⟩ : ay_ex hp 173 ∧ ay_ex hp 183 ∧ pz_x30 (ρ 0) (ay_at hp 173 12) (ay_at hp 183) := (ax_XF_lt (x := 131) (Nat.le_of_ble_eq_true rfl)).mp (ax_gx hE (131, [3]) ax_m0)
  obtain ⟨-, F154⟩ : ay_ex hp 173 ∧ ay_ln (ay_at hp 173 14) = pz_at (pz_gt (ρ 0)) (pz_gN (ρ 0)) (pz_p (pz_cF (ρ 0) (ρ 1))) := (ax_XF_lt (x := 154) (Nat.le_of_ble_eq_true rfl)).mp (ax_gx hE (154, [3, 7]) ax_m1)
  rw [c_at] at F154
  have F212 : pz_x62 (ρ 0) (ρ 1) (4000) (24) := (ax_XF_lt (x := 212) (Nat.le_of_ble_eq_true rfl)).mp (ax_gx hE (212, [3, 7, 4000, 24]) ax_m5)
  have ep : ρ 2 / 4 = pz_at (pz_gt (ρ 0)) (pz_gN (ρ 0)) (pz_p (pz_cf (pz_gt (ρ 0)) (pz_gN (ρ 0)) (ρ 1 / 4))) := F154
  have hw : pz_at (pz_gt (ρ 0)) (pz_gN (ρ 0)) (pz_p (pz_cf (pz_gt (ρ 0)) (pz_gN (ρ 0)) (ρ 1 / 4))) < pz_gN (ρ 0) ∧ pz_nx (pz_gt (ρ 0)) (pz_gN (ρ 0)) (pz_p (pz_cf (pz_gt (ρ 0)) (pz_gN (ρ 0)) (ρ 1 / 4))) ≤ pz_gN (ρ 0) := pz_wd_le F212.1
  have hln : pz_nx (pz_gt (ρ 0)) (pz_gN (ρ 0)) (pz_p (pz_cf (pz_gt (ρ 0)) (pz_gN (ρ 0)) (ρ 1 / 4))) - pz_at (pz_gt (ρ 0)) (pz_gN (ρ 0)) (pz_p (pz_cf (pz_gt (ρ 0)) (pz_gN (ρ 0)) (ρ 1 / 4))) = 8 := F212.2.1
  have ha1 := (pz_ps 0 800 i2b i2c i2d (by decide))
  have hq1 : ρ 3 / 4 = ρ 2 / 4 + 6 := pz_sm (by omega) (by decide) i3b s1
  have hb := F131.2.2 (ρ 3 / 4) (by have := hw.2; omega)
  rw [c_tape] at hb
  have hb := Option.some.inj hb
  rw [show ρ 3 / 4 = pz_at (pz_gt (ρ 0)) (pz_gN (ρ 0)) (pz_p (pz_cf (pz_gt (ρ 0)) (pz_gN (ρ 0)) (ρ 1 / 4))) + 6 by omega] at hb
  have hb2 : pz_b (pz_gt (ρ 0)) (pz_at (pz_gt (ρ 0)) (pz_gN (ρ 0)) (pz_p (pz_cf (pz_gt (ρ 0)) (pz_gN (ρ 0)) (ρ 1 / 4))) + 6) = ρ 4 / 4 := by omega
  refine ⟨(fun y hy => by cases hy), _, List.mem_cons_self, ρ, fun _ _ => rfl, ax_px hE rfl (fun x hx => ?_)⟩
  cases List.mem_singleton.mp hx
  refine (ax_XF_lt (x := 212) (Nat.le_of_ble_eq_true rfl)).mpr ?_
  show pz_x62 (ρ 0) (ρ 1) (4000) (28)
  refine ⟨F212.1, F212.2.1, fun i hi => ?_⟩
  replace hi : i < 7 := hi
  by_cases h : i < 6
  · exact F212.2.2 i h
  · have e : i = 6 := by omega
    subst e
    exact hb2.trans (show ρ 4 / 4 = 101 by omega)
theorem axq0_is3_0_6 : ax_RO ax_wM0 (ax_XM 0) axu0_is3_0_6 := axqg_is3_0_6 ax_WW0
theorem axqg_is4a_0_6 {w : ax_W} {b : Nat} (hw : ax_WW w) : ax_RO w (ax_XM b) axu0_is4a_0_6 := by
  intro ρ hp hE hT
  have j0 : ρ 0 % 4 = 1 := pz_gj hE 0 (Nat.le_of_ble_eq_true rfl) rfl
  have j1 : ρ 1 % 4 = 1 := pz_gj hE 1 (Nat.le_of_ble_eq_true rfl) rfl
  obtain ⟨i2a, i2b, i2c, i2d⟩ := pz_gi hE 2 2147483648 2147484448 (Nat.le_of_ble_eq_true rfl) rfl
  obtain ⟨i3a, i3b, i3c, i3d⟩ := pz_gi hE 3 0 4294967295 (Nat.le_of_ble_eq_true rfl) rfl
  obtain ⟨i4a, i4b, i4c, i4d⟩ := pz_gi hE 4 2147483520 2147483748 (Nat.le_of_ble_eq_true rfl) rfl
  have c_at : ay_at hp 173 14 = some (ρ 2) := ay_gfj hE 702 56 11 173 14 ax_m2 (ax_vlq rfl rfl) (ax_vlj rfl rfl)
  have s1 : (ρ 2 / 4 + 2147483648) % 4294967296 + (24 / 4 + 2147483648) % 4294967296 = (ρ 3 / 4 + 2147483648) % 4294967296 + 2147483648 := pz_gs hE 11 24 15 ax_m3
  have c_tape : ay_at hp 183 (ρ 3 / 4) = some (ρ 4) := ay_gf hE 742 15 19 183 ax_m4 (ax_vlq rfl rfl)
  obtain ⟨-, -, F131⟩ : ay_ex hp 173 ∧ ay_ex hp 183 ∧ pz_x30 (ρ 0) (ay_at hp 173 12) (ay_at hp 183) := (ax_XF_lt (x := 131) (Nat.le_of_ble_eq_true rfl)).mp (ax_gx hE (131, [3]) ax_m0)
  obtain ⟨-, F154⟩ : ay_ex hp 173 ∧ ay_ln (ay_at hp 173 14) = pz_at (pz_gt (ρ 0)) (pz_gN (ρ 0)) (pz_p (pz_cF (ρ 0) (ρ 1))) := (ax_XF_lt (x := 154) (Nat.le_of_ble_eq_true rfl)).mp (ax_gx hE (154, [3, 7]) ax_m1)
  rw [c_at] at F154
  have F212 : pz_x62 (ρ 0) (ρ 1) (4000) (24) := (ax_XF_lt (x := 212) (Nat.le_of_ble_eq_true rfl)).mp (ax_gx hE (212, [3, 7, 4000, 24]) ax_m5)
  have ep : ρ 2 / 4 = pz_at (pz_gt (ρ 0)) (pz_gN (ρ 0)) (pz_p (pz_cf (pz_gt (ρ 0)) (pz_gN (ρ 0)) (ρ 1 / 4))) := F154
  have hw : pz_at (pz_gt (ρ 0)) (pz_gN (ρ 0)) (pz_p (pz_cf (pz_gt (ρ 0)) (pz_gN (ρ 0)) (ρ 1 / 4))) < pz_gN (ρ 0) ∧ pz_nx (pz_gt (ρ 0)) (pz_gN (ρ 0)) (pz_p (pz_cf (pz_gt (ρ 0)) (pz_gN (ρ 0)) (ρ 1 / 4))) ≤ pz_gN (ρ 0) := pz_wd_le F212.1
  have hln : pz_nx (pz_gt (ρ 0)) (pz_gN (ρ 0)) (pz_p (pz_cf (pz_gt (ρ 0)) (pz_gN (ρ 0)) (ρ 1 / 4))) - pz_at (pz_gt (ρ 0)) (pz_gN (ρ 0)) (pz_p (pz_cf (pz_gt (ρ 0)) (pz_gN (ρ 0)) (ρ 1 / 4))) = 8 := F212.2.1
  have ha1 := (pz_ps 0 800 i2b i2c i2d (by decide))
  have hq1 : ρ 3 / 4 = ρ 2 / 4 + 6 := pz_sm (by omega) (by decide) i3b s1
  have hb := F131.2.2 (ρ 3 / 4) (by have := hw.2; omega)
  rw [c_tape] at hb
  have hb := Option.some.inj hb
  rw [show ρ 3 / 4 = pz_at (pz_gt (ρ 0)) (pz_gN (ρ 0)) (pz_p (pz_cf (pz_gt (ρ 0)) (pz_gN (ρ 0)) (ρ 1 / 4))) + 6 by omega] at hb
  have hb2 : pz_b (pz_gt (ρ 0)) (pz_at (pz_gt (ρ 0)) (pz_gN (ρ 0)) (pz_p (pz_cf (pz_gt (ρ 0)) (pz_gN (ρ 0)) (ρ 1 / 4))) + 6) = ρ 4 / 4 := by omega
  refine ⟨(fun y hy => by cases hy), _, List.mem_cons_self, ρ, fun _ _ => rfl, ax_px hE rfl (fun x hx => ?_)⟩
  cases List.mem_singleton.mp hx
  refine (ax_XF_lt (x := 161) (Nat.le_of_ble_eq_true rfl)).mpr ?_
  show pz61 (pz_gt (ρ 0)) (pz_gN (ρ 0)) ((ρ 1) / 4) ((0) / 4)
  refine pz_is_no (Or.inr (Or.inr ⟨6, by decide, fun z => ?_⟩))
  have z2 : ρ 4 / 4 = 101 := hb2.symm.trans z
  omega
theorem axq0_is4a_0_6 : ax_RO ax_wM0 (ax_XM 0) axu0_is4a_0_6 := axqg_is4a_0_6 ax_WW0
theorem axqg_is4b_0_6 {w : ax_W} {b : Nat} (hw : ax_WW w) : ax_RO w (ax_XM b) axu0_is4b_0_6 := by
  intro ρ hp hE hT
  have j0 : ρ 0 % 4 = 1 := pz_gj hE 0 (Nat.le_of_ble_eq_true rfl) rfl
  have j1 : ρ 1 % 4 = 1 := pz_gj hE 1 (Nat.le_of_ble_eq_true rfl) rfl
  obtain ⟨i2a, i2b, i2c, i2d⟩ := pz_gi hE 2 2147483648 2147484448 (Nat.le_of_ble_eq_true rfl) rfl
  obtain ⟨i3a, i3b, i3c, i3d⟩ := pz_gi hE 3 0 4294967295 (Nat.le_of_ble_eq_true rfl) rfl
  obtain ⟨i4a, i4b, i4c, i4d⟩ := pz_gi hE 4 2147483750 2147483775 (Nat.le_of_ble_eq_true rfl) rfl
  have c_at : ay_at hp 173 14 = some (ρ 2) := ay_gfj hE 702 56 11 173 14 ax_m2 (ax_vlq rfl rfl) (ax_vlj rfl rfl)
  have s1 : (ρ 2 / 4 + 2147483648) % 4294967296 + (24 / 4 + 2147483648) % 4294967296 = (ρ 3 / 4 + 2147483648) % 4294967296 + 2147483648 := pz_gs hE 11 24 15 ax_m3
  have c_tape : ay_at hp 183 (ρ 3 / 4) = some (ρ 4) := ay_gf hE 742 15 19 183 ax_m4 (ax_vlq rfl rfl)
  obtain ⟨-, -, F131⟩ : ay_ex hp 173 ∧ ay_ex hp 183 ∧ pz_x30 (ρ 0) (ay_at hp 173 12) (ay_at hp 183) := (ax_XF_lt (x := 131) (Nat.le_of_ble_eq_true rfl)).mp (ax_gx hE (131, [3]) ax_m0)
  obtain ⟨-, F154⟩ : ay_ex hp 173 ∧ ay_ln (ay_at hp 173 14) = pz_at (pz_gt (ρ 0)) (pz_gN (ρ 0)) (pz_p (pz_cF (ρ 0) (ρ 1))) := (ax_XF_lt (x := 154) (Nat.le_of_ble_eq_true rfl)).mp (ax_gx hE (154, [3, 7]) ax_m1)
  rw [c_at] at F154
  have F212 : pz_x62 (ρ 0) (ρ 1) (4000) (24) := (ax_XF_lt (x := 212) (Nat.le_of_ble_eq_true rfl)).mp (ax_gx hE (212, [3, 7, 4000, 24]) ax_m5)
  have ep : ρ 2 / 4 = pz_at (pz_gt (ρ 0)) (pz_gN (ρ 0)) (pz_p (pz_cf (pz_gt (ρ 0)) (pz_gN (ρ 0)) (ρ 1 / 4))) := F154
  have hw : pz_at (pz_gt (ρ 0)) (pz_gN (ρ 0)) (pz_p (pz_cf (pz_gt (ρ 0)) (pz_gN (ρ 0)) (ρ 1 / 4))) < pz_gN (ρ 0) ∧ pz_nx (pz_gt (ρ 0)) (pz_gN (ρ 0)) (pz_p (pz_cf (pz_gt (ρ 0)) (pz_gN (ρ 0)) (ρ 1 / 4))) ≤ pz_gN (ρ 0) := pz_wd_le F212.1
  have hln : pz_nx (pz_gt (ρ 0)) (pz_gN (ρ 0)) (pz_p (pz_cf (pz_gt (ρ 0)) (pz_gN (ρ 0)) (ρ 1 / 4))) - pz_at (pz_gt (ρ 0)) (pz_gN (ρ 0)) (pz_p (pz_cf (pz_gt (ρ 0)) (pz_gN (ρ 0)) (ρ 1 / 4))) = 8 := F212.2.1
  have ha1 := (pz_ps 0 800 i2b i2c i2d (by decide))
  have hq1 : ρ 3 / 4 = ρ 2 / 4 + 6 := pz_sm (by omega) (by decide) i3b s1
  have hb := F131.2.2 (ρ 3 / 4) (by have := hw.2; omega)
  rw [c_tape] at hb
  have hb := Option.some.inj hb
  rw [show ρ 3 / 4 = pz_at (pz_gt (ρ 0)) (pz_gN (ρ 0)) (pz_p (pz_cf (pz_gt (ρ 0)) (pz_gN (ρ 0)) (ρ 1 / 4))) + 6 by omega] at hb
  have hb2 : pz_b (pz_gt (ρ 0)) (pz_at (pz_gt (ρ 0)) (pz_gN (ρ 0)) (pz_p (pz_cf (pz_gt (ρ 0)) (pz_gN (ρ 0)) (ρ 1 / 4))) + 6) = ρ 4 / 4 := by omega
  refine ⟨(fun y hy => by cases hy), _, List.mem_cons_self, ρ, fun _ _ => rfl, ax_px hE rfl (fun x hx => ?_)⟩
  cases List.mem_singleton.mp hx
  refine (ax_XF_lt (x := 161) (Nat.le_of_ble_eq_true rfl)).mpr ?_
  show pz61 (pz_gt (ρ 0)) (pz_gN (ρ 0)) ((ρ 1) / 4) ((0) / 4)
  refine pz_is_no (Or.inr (Or.inr ⟨6, by decide, fun z => ?_⟩))
  have z2 : ρ 4 / 4 = 101 := hb2.symm.trans z
  omega
theorem axq0_is4b_0_6 : ax_RO ax_wM0 (ax_XM 0) axu0_is4b_0_6 := axqg_is4b_0_6 ax_WW0
theorem axqg_is3_0_7 {w : ax_W} {b : Nat} (hw : ax_WW w) : ax_RO w (ax_XM b) axu0_is3_0_7 := by
  intro ρ hp hE hT
  have j0 : ρ 0 % 4 = 1 := pz_gj hE 0 (Nat.le_of_ble_eq_true rfl) rfl
  have j1 : ρ 1 % 4 = 1 := pz_gj hE 1 (Nat.le_of_ble_eq_true rfl) rfl
  obtain ⟨i2a, i2b, i2c, i2d⟩ := pz_gi hE 2 2147483648 2147484448 (Nat.le_of_ble_eq_true rfl) rfl
  obtain ⟨i3a, i3b, i3c, i3d⟩ := pz_gi hE 3 0 4294967295 (Nat.le_of_ble_eq_true rfl) rfl
  obtain ⟨i4a, i4b, i4c, i4d⟩ := pz_gi hE 4 2147483763 2147483763 (Nat.le_of_ble_eq_true rfl) rfl
  have c_at : ay_at hp 173 14 = some (ρ 2) := ay_gfj hE 702 56 11 173 14 ax_m2 (ax_vlq rfl rfl) (ax_vlj rfl rfl)
  have s1 : (ρ 2 / 4 + 2147483648) % 4294967296 + (28 / 4 + 2147483648) % 4294967296 = (ρ 3 / 4 + 2147483648) % 4294967296 + 2147483648 := pz_gs hE 11 28 15 ax_m3
  have c_tape : ay_at hp 183 (ρ 3 / 4) = some (ρ 4) := ay_gf hE 742 15 19 183 ax_m4 (ax_vlq rfl rfl)
  obtain ⟨-, -, F131⟩ : ay_ex hp 173 ∧ ay_ex hp 183 ∧ pz_x30 (ρ 0) (ay_at hp 173 12) (ay_at hp 183) := (ax_XF_lt (x := 131) (Nat.le_of_ble_eq_true rfl)).mp (ax_gx hE (131, [3]) ax_m0)
  obtain ⟨-, F154⟩ : ay_ex hp 173 ∧ ay_ln (ay_at hp 173 14) = pz_at (pz_gt (ρ 0)) (pz_gN (ρ 0)) (pz_p (pz_cF (ρ 0) (ρ 1))) := (ax_XF_lt (x := 154) (Nat.le_of_ble_eq_true rfl)).mp (ax_gx hE (154, [3, 7]) ax_m1)
  rw [c_at] at F154
  have F212 : pz_x62 (ρ 0) (ρ 1) (4000) (28) := (ax_XF_lt (x := 212) (Nat.le_of_ble_eq_true rfl)).mp (ax_gx hE (212, [3, 7, 4000, 28]) ax_m5)
  have ep : ρ 2 / 4 = pz_at (pz_gt (ρ 0)) (pz_gN (ρ 0)) (pz_p (pz_cf (pz_gt (ρ 0)) (pz_gN (ρ 0)) (ρ 1 / 4))) := F154
  have hw : pz_at (pz_gt (ρ 0)) (pz_gN (ρ 0)) (pz_p (pz_cf (pz_gt (ρ 0)) (pz_gN (ρ 0)) (ρ 1 / 4))) < pz_gN (ρ 0) ∧ pz_nx (pz_gt (ρ 0)) (pz_gN (ρ 0)) (pz_p (pz_cf (pz_gt (ρ 0)) (pz_gN (ρ 0)) (ρ 1 / 4))) ≤ pz_gN (ρ 0) := pz_wd_le F212.1
  have hln : pz_nx (pz_gt (ρ 0)) (pz_gN (ρ 0)) (pz_p (pz_cf (pz_gt (ρ 0)) (pz_gN (ρ 0)) (ρ 1 / 4))) - pz_at (pz_gt (ρ 0)) (pz_gN (ρ 0)) (pz_p (pz_cf (pz_gt (ρ 0)) (pz_gN (ρ 0)) (ρ 1 / 4))) = 8 := F212.2.1
  have ha1 := (pz_ps 0 800 i2b i2c i2d (by decide))
  have hq1 : ρ 3 / 4 = ρ 2 / 4 + 7 := pz_sm (by omega) (by decide) i3b s1
  have hb := F131.2.2 (ρ 3 / 4) (by have := hw.2; omega)
  rw [c_tape] at hb
  have hb := Option.some.inj hb
  rw [show ρ 3 / 4 = pz_at (pz_gt (ρ 0)) (pz_gN (ρ 0)) (pz_p (pz_cf (pz_gt (ρ 0)) (pz_gN (ρ 0)) (ρ 1 / 4))) + 7 by omega] at hb
  have hb2 : pz_b (pz_gt (ρ 0)) (pz_at (pz_gt (ρ 0)) (pz_gN (ρ 0)) (pz_p (pz_cf (pz_gt (ρ 0)) (pz_gN (ρ 0)) (ρ 1 / 4))) + 7) = ρ 4 / 4 := by omega
  refine ⟨(fun y hy => by cases hy), _, List.mem_cons_self, ρ, fun _ _ => rfl, ax_px hE rfl (fun x hx => ?_)⟩
  cases List.mem_singleton.mp hx
  refine (ax_XF_lt (x := 212) (Nat.le_of_ble_eq_true rfl)).mpr ?_
  show pz_x62 (ρ 0) (ρ 1) (4000) (32)
  refine ⟨F212.1, F212.2.1, fun i hi => ?_⟩
  replace hi : i < 8 := hi
  by_cases h : i < 7
  · exact F212.2.2 i h
  · have e : i = 7 := by omega
    subst e
    exact hb2.trans (show ρ 4 / 4 = 115 by omega)
theorem axq0_is3_0_7 : ax_RO ax_wM0 (ax_XM 0) axu0_is3_0_7 := axqg_is3_0_7 ax_WW0
theorem axqg_is4a_0_7 {w : ax_W} {b : Nat} (hw : ax_WW w) : ax_RO w (ax_XM b) axu0_is4a_0_7 := by
  intro ρ hp hE hT
  have j0 : ρ 0 % 4 = 1 := pz_gj hE 0 (Nat.le_of_ble_eq_true rfl) rfl
  have j1 : ρ 1 % 4 = 1 := pz_gj hE 1 (Nat.le_of_ble_eq_true rfl) rfl
  obtain ⟨i2a, i2b, i2c, i2d⟩ := pz_gi hE 2 2147483648 2147484448 (Nat.le_of_ble_eq_true rfl) rfl
  obtain ⟨i3a, i3b, i3c, i3d⟩ := pz_gi hE 3 0 4294967295 (Nat.le_of_ble_eq_true rfl) rfl
  obtain ⟨i4a, i4b, i4c, i4d⟩ := pz_gi hE 4 2147483520 2147483762 (Nat.le_of_ble_eq_true rfl) rfl
  have c_at : ay_at hp 173 14 = some (ρ 2) := ay_gfj hE 702 56 11 173 14 ax_m2 (ax_vlq rfl rfl) (ax_vlj rfl rfl)
  have s1 : (ρ 2 / 4 + 2147483648) % 4294967296 + (28 / 4 + 2147483648) % 4294967296 = (ρ 3 / 4 + 2147483648) % 4294967296 + 2147483648 := pz_gs hE 11 28 15 ax_m3
  have c_tape : ay_at hp 183 (ρ 3 / 4) = some (ρ 4) := ay_gf hE 742 15 19 183 ax_m4 (ax_vlq rfl rfl)
  obtain ⟨-, -, F131⟩ : ay_ex hp 173 ∧ ay_ex hp 183 ∧ pz_x30 (ρ 0) (ay_at hp 173 12) (ay_at hp 183) := (ax_XF_lt (x := 131) (Nat.le_of_ble_eq_true rfl)).mp (ax_gx hE (131, [3]) ax_m0)
  obtain ⟨-, F154⟩ : ay_ex hp 173 ∧ ay_ln (ay_at hp 173 14) = pz_at (pz_gt (ρ 0)) (pz_gN (ρ 0)) (pz_p (pz_cF (ρ 0) (ρ 1))) := (ax_XF_lt (x := 154) (Nat.le_of_ble_eq_true rfl)).mp (ax_gx hE (154, [3, 7]) ax_m1)
  rw [c_at] at F154
  have F212 : pz_x62 (ρ 0) (ρ 1) (4000) (28) := (ax_XF_lt (x := 212) (Nat.le_of_ble_eq_true rfl)).mp (ax_gx hE (212, [3, 7, 4000, 28]) ax_m5)
  have ep : ρ 2 / 4 = pz_at (pz_gt (ρ 0)) (pz_gN (ρ 0)) (pz_p (pz_cf (pz_gt (ρ 0)) (pz_gN (ρ 0)) (ρ 1 / 4))) := F154
  have hw : pz_at (pz_gt (ρ 0)) (pz_gN (ρ 0)) (pz_p (pz_cf (pz_gt (ρ 0)) (pz_gN (ρ 0)) (ρ 1 / 4))) < pz_gN (ρ 0) ∧ pz_nx (pz_gt (ρ 0)) (pz_gN (ρ 0)) (pz_p (pz_cf (pz_gt (ρ 0)) (pz_gN (ρ 0)) (ρ 1 / 4))) ≤ pz_gN (ρ 0) := pz_wd_le F212.1
  have hln : pz_nx (pz_gt (ρ 0)) (pz_gN (ρ 0)) (pz_p (pz_cf (pz_gt (ρ 0)) (pz_gN (ρ 0)) (ρ 1 / 4))) - pz_at (pz_gt (ρ 0)) (pz_gN (ρ 0)) (pz_p (pz_cf (pz_gt (ρ 0)) (pz_gN (ρ 0)) (ρ 1 / 4))) = 8 := F212.2.1
  have ha1 := (pz_ps 0 800 i2b i2c i2d (by decide))
  have hq1 : ρ 3 / 4 = ρ 2 / 4 + 7 := pz_sm (by omega) (by decide) i3b s1
  have hb := F131.2.2 (ρ 3 / 4) (by have := hw.2; omega)
  rw [c_tape] at hb
  have hb := Option.some.inj hb
  rw [show ρ 3 / 4 = pz_at (pz_gt (ρ 0)) (pz_gN (ρ 0)) (pz_p (pz_cf (pz_gt (ρ 0)) (pz_gN (ρ 0)) (ρ 1 / 4))) + 7 by omega] at hb
  have hb2 : pz_b (pz_gt (ρ 0)) (pz_at (pz_gt (ρ 0)) (pz_gN (ρ 0)) (pz_p (pz_cf (pz_gt (ρ 0)) (pz_gN (ρ 0)) (ρ 1 / 4))) + 7) = ρ 4 / 4 := by omega
  refine ⟨(fun y hy => by cases hy), _, List.mem_cons_self, ρ, fun _ _ => rfl, ax_px hE rfl (fun x hx => ?_)⟩
  cases List.mem_singleton.mp hx
  refine (ax_XF_lt (x := 161) (Nat.le_of_ble_eq_true rfl)).mpr ?_
  show pz61 (pz_gt (ρ 0)) (pz_gN (ρ 0)) ((ρ 1) / 4) ((0) / 4)
  refine pz_is_no (Or.inr (Or.inr ⟨7, by decide, fun z => ?_⟩))
  have z2 : ρ 4 / 4 = 115 := hb2.symm.trans z
  omega
theorem axq0_is4a_0_7 : ax_RO ax_wM0 (ax_XM 0) axu0_is4a_0_7 := axqg_is4a_0_7 ax_WW0
theorem axqg_is4b_0_7 {w : ax_W} {b : Nat} (hw : ax_WW w) : ax_RO w (ax_XM b) axu0_is4b_0_7 := by
  intro ρ hp hE hT
  have j0 : ρ 0 % 4 = 1 := pz_gj hE 0 (Nat.le_of_ble_eq_true rfl) rfl
  have j1 : ρ 1 % 4 = 1 := pz_gj hE 1 (Nat.le_of_ble_eq_true rfl) rfl
  obtain ⟨i2a, i2b, i2c, i2d⟩ := pz_gi hE 2 2147483648 2147484448 (Nat.le_of_ble_eq_true rfl) rfl
  obtain ⟨i3a, i3b, i3c, i3d⟩ := pz_gi hE 3 0 4294967295 (Nat.le_of_ble_eq_true rfl) rfl
  obtain ⟨i4a, i4b, i4c, i4d⟩ := pz_gi hE 4 2147483764 2147483775 (Nat.le_of_ble_eq_true rfl) rfl
  have c_at : ay_at hp 173 14 = some (ρ 2) := ay_gfj hE 702 56 11 173 14 ax_m2 (ax_vlq rfl rfl) (ax_vlj rfl rfl)
  have s1 : (ρ 2 / 4 + 2147483648) % 4294967296 + (28 / 4 + 2147483648) % 4294967296 = (ρ 3 / 4 + 2147483648) % 4294967296 + 2147483648 := pz_gs hE 11 28 15 ax_m3
  have c_tape : ay_at hp 183 (ρ 3 / 4) = some (ρ 4) := ay_gf hE 742 15 19 183 ax_m4 (ax_vlq rfl rfl)
  obtain ⟨-, -, F131⟩ : ay_ex hp 173 ∧ ay_ex hp 183 ∧ pz_x30 (ρ 0) (ay_at hp 173 12) (ay_at hp 183) := (ax_XF_lt (x := 131) (Nat.le_of_ble_eq_true rfl)).mp (ax_gx hE (131, [3]) ax_m0)
  obtain ⟨-, F154⟩ : ay_ex hp 173 ∧ ay_ln (ay_at hp 173 14) = pz_at (pz_gt (ρ 0)) (pz_gN (ρ 0)) (pz_p (pz_cF (ρ 0) (ρ 1))) := (ax_XF_lt (x := 154) (Nat.le_of_ble_eq_true rfl)).mp (ax_gx hE (154, [3, 7]) ax_m1)
  rw [c_at] at F154
  have F212 : pz_x62 (ρ 0) (ρ 1) (4000) (28) := (ax_XF_lt (x := 212) (Nat.le_of_ble_eq_true rfl)).mp (ax_gx hE (212, [3, 7, 4000, 28]) ax_m5)
  have ep : ρ 2 / 4 = pz_at (pz_gt (ρ 0)) (pz_gN (ρ 0)) (pz_p (pz_cf (pz_gt (ρ 0)) (pz_gN (ρ 0)) (ρ 1 / 4))) := F154
  have hw : pz_at (pz_gt (ρ 0)) (pz_gN (ρ 0)) (pz_p (pz_cf (pz_gt (ρ 0)) (pz_gN (ρ 0)) (ρ 1 / 4))) < pz_gN (ρ 0) ∧ pz_nx (pz_gt (ρ 0)) (pz_gN (ρ 0)) (pz_p (pz_cf (pz_gt (ρ 0)) (pz_gN (ρ 0)) (ρ 1 / 4))) ≤ pz_gN (ρ 0) := pz_wd_le F212.1
  have hln : pz_nx (pz_gt (ρ 0)) (pz_gN (ρ 0)) (pz_p (pz_cf (pz_gt (ρ 0)) (pz_gN (ρ 0)) (ρ 1 / 4))) - pz_at (pz_gt (ρ 0)) (pz_gN (ρ 0)) (pz_p (pz_cf (pz_gt (ρ 0)) (pz_gN (ρ 0)) (ρ 1 / 4))) = 8 := F212.2.1
  have ha1 := (pz_ps 0 800 i2b i2c i2d (by decide))
  have hq1 : ρ 3 / 4 = ρ 2 / 4 + 7 := pz_sm (by omega) (by decide) i3b s1
  have hb := F131.2.2 (ρ 3 / 4) (by have := hw.2; omega)
  rw [c_tape] at hb
  have hb := Option.some.inj hb
  rw [show ρ 3 / 4 = pz_at (pz_gt (ρ 0)) (pz_gN (ρ 0)) (pz_p (pz_cf (pz_gt (ρ 0)) (pz_gN (ρ 0)) (ρ 1 / 4))) + 7 by omega] at hb
  have hb2 : pz_b (pz_gt (ρ 0)) (pz_at (pz_gt (ρ 0)) (pz_gN (ρ 0)) (pz_p (pz_cf (pz_gt (ρ 0)) (pz_gN (ρ 0)) (ρ 1 / 4))) + 7) = ρ 4 / 4 := by omega
  refine ⟨(fun y hy => by cases hy), _, List.mem_cons_self, ρ, fun _ _ => rfl, ax_px hE rfl (fun x hx => ?_)⟩
  cases List.mem_singleton.mp hx
  refine (ax_XF_lt (x := 161) (Nat.le_of_ble_eq_true rfl)).mpr ?_
  show pz61 (pz_gt (ρ 0)) (pz_gN (ρ 0)) ((ρ 1) / 4) ((0) / 4)
  refine pz_is_no (Or.inr (Or.inr ⟨7, by decide, fun z => ?_⟩))
  have z2 : ρ 4 / 4 = 115 := hb2.symm.trans z
  omega
theorem axq0_is4b_0_7 : ax_RO ax_wM0 (ax_XM 0) axu0_is4b_0_7 := axqg_is4b_0_7 ax_WW0
theorem axqg_is5_0 {w : ax_W} {b : Nat} (hw : ax_WW w) : ax_RO w (ax_XM b) axu0_is5_0 := by
  intro ρ hp hE hT
  have j0 : ρ 0 % 4 = 1 := pz_gj hE 0 (Nat.le_of_ble_eq_true rfl) rfl
  have j1 : ρ 1 % 4 = 1 := pz_gj hE 1 (Nat.le_of_ble_eq_true rfl) rfl
  have F212 : pz_x62 (ρ 0) (ρ 1) (4000) (32) := (ax_XF_lt (x := 212) (Nat.le_of_ble_eq_true rfl)).mp (ax_gx hE (212, [3, 7, 4000, 32]) ax_m0)
  refine ⟨(fun y hy => by cases hy), _, List.mem_cons_self, ρ, fun _ _ => rfl, ax_px hE rfl (fun x hx => ?_)⟩
  cases List.mem_singleton.mp hx
  refine (ax_XF_lt (x := 160) (Nat.le_of_ble_eq_true rfl)).mpr ?_
  show pz60 (pz_gt (ρ 0)) (pz_gN (ρ 0)) ((ρ 1) / 4) ((0) / 4)
  exact pz_is_yes F212.1 F212.2.1 (fun i hi => F212.2.2 i hi)
theorem axq0_is5_0 : ax_RO ax_wM0 (ax_XM 0) axu0_is5_0 := axqg_is5_0 ax_WW0
theorem axqg_is1a_1 {w : ax_W} {b : Nat} (hw : ax_WW w) : ax_RO w (ax_XM b) axu0_is1a_1 := by
  intro ρ hp hE hT
  have j0 : ρ 0 % 4 = 1 := pz_gj hE 0 (Nat.le_of_ble_eq_true rfl) rfl
  have j1 : ρ 1 % 4 = 1 := pz_gj hE 1 (Nat.le_of_ble_eq_true rfl) rfl
  obtain ⟨i2a, i2b, i2c, i2d⟩ := pz_gi hE 2 2147482848 2147483651 (Nat.le_of_ble_eq_true rfl) rfl
  obtain ⟨i3a, i3b, i3c, i3d⟩ := pz_gi hE 3 2147483648 2147484448 (Nat.le_of_ble_eq_true rfl) rfl
  obtain ⟨i4a, i4b, i4c, i4d⟩ := pz_gi hE 4 2147483648 2147484448 (Nat.le_of_ble_eq_true rfl) rfl
  have c_next : ay_at hp 173 13 = some (ρ 4) := ay_gfj hE 702 52 19 173 13 ax_m2 (ax_vlq rfl rfl) (ax_vlj rfl rfl)
  have c_at : ay_at hp 173 14 = some (ρ 3) := ay_gfj hE 702 56 15 173 14 ax_m3 (ax_vlq rfl rfl) (ax_vlj rfl rfl)
  have s1 : (ρ 2 / 4 + 2147483648) % 4294967296 + (ρ 3 / 4 + 2147483648) % 4294967296 = (ρ 4 / 4 + 2147483648) % 4294967296 + 2147483648 := pz_gs hE 11 15 19 ax_m4
  obtain ⟨-, F154⟩ : ay_ex hp 173 ∧ ay_ln (ay_at hp 173 14) = pz_at (pz_gt (ρ 0)) (pz_gN (ρ 0)) (pz_p (pz_cF (ρ 0) (ρ 1))) := (ax_XF_lt (x := 154) (Nat.le_of_ble_eq_true rfl)).mp (ax_gx hE (154, [3, 7]) ax_m0)
  rw [c_at] at F154
  obtain ⟨-, F156⟩ : ay_ex hp 173 ∧ ay_ln (ay_at hp 173 13) = pz_nx (pz_gt (ρ 0)) (pz_gN (ρ 0)) (pz_p (pz_cF (ρ 0) (ρ 1))) := (ax_XF_lt (x := 156) (Nat.le_of_ble_eq_true rfl)).mp (ax_gx hE (156, [3, 7]) ax_m1)
  rw [c_next] at F156
  have e1 : ρ 4 / 4 = pz_nx (pz_gt (ρ 0)) (pz_gN (ρ 0)) (pz_p (pz_cf (pz_gt (ρ 0)) (pz_gN (ρ 0)) (ρ 1 / 4))) := F156
  have e2 : ρ 3 / 4 = pz_at (pz_gt (ρ 0)) (pz_gN (ρ 0)) (pz_p (pz_cf (pz_gt (ρ 0)) (pz_gN (ρ 0)) (ρ 1 / 4))) := F154
  refine ⟨(fun y hy => by cases hy), _, List.mem_cons_self, ρ, fun _ _ => rfl, ax_px hE rfl (fun x hx => ?_)⟩
  cases List.mem_singleton.mp hx
  refine (ax_XF_lt (x := 161) (Nat.le_of_ble_eq_true rfl)).mpr ?_
  show pz61 (pz_gt (ρ 0)) (pz_gN (ρ 0)) ((ρ 1) / 4) ((4) / 4)
  refine pz_is_no (Or.inr (Or.inl ?_))
  show pz_nx (pz_gt (ρ 0)) (pz_gN (ρ 0)) (pz_p (pz_cf (pz_gt (ρ 0)) (pz_gN (ρ 0)) (ρ 1 / 4))) - pz_at (pz_gt (ρ 0)) (pz_gN (ρ 0)) (pz_p (pz_cf (pz_gt (ρ 0)) (pz_gN (ρ 0)) (ρ 1 / 4))) ≠ 4
  omega
theorem axq0_is1a_1 : ax_RO ax_wM0 (ax_XM 0) axu0_is1a_1 := axqg_is1a_1 ax_WW0
theorem axqg_is1b_1 {w : ax_W} {b : Nat} (hw : ax_WW w) : ax_RO w (ax_XM b) axu0_is1b_1 := by
  intro ρ hp hE hT
  have j0 : ρ 0 % 4 = 1 := pz_gj hE 0 (Nat.le_of_ble_eq_true rfl) rfl
  have j1 : ρ 1 % 4 = 1 := pz_gj hE 1 (Nat.le_of_ble_eq_true rfl) rfl
  obtain ⟨i2a, i2b, i2c, i2d⟩ := pz_gi hE 2 2147483653 2147484449 (Nat.le_of_ble_eq_true rfl) rfl
  obtain ⟨i3a, i3b, i3c, i3d⟩ := pz_gi hE 3 2147483648 2147484448 (Nat.le_of_ble_eq_true rfl) rfl
  obtain ⟨i4a, i4b, i4c, i4d⟩ := pz_gi hE 4 2147483648 2147484448 (Nat.le_of_ble_eq_true rfl) rfl
  have c_next : ay_at hp 173 13 = some (ρ 4) := ay_gfj hE 702 52 19 173 13 ax_m2 (ax_vlq rfl rfl) (ax_vlj rfl rfl)
  have c_at : ay_at hp 173 14 = some (ρ 3) := ay_gfj hE 702 56 15 173 14 ax_m3 (ax_vlq rfl rfl) (ax_vlj rfl rfl)
  have s1 : (ρ 2 / 4 + 2147483648) % 4294967296 + (ρ 3 / 4 + 2147483648) % 4294967296 = (ρ 4 / 4 + 2147483648) % 4294967296 + 2147483648 := pz_gs hE 11 15 19 ax_m4
  obtain ⟨-, F154⟩ : ay_ex hp 173 ∧ ay_ln (ay_at hp 173 14) = pz_at (pz_gt (ρ 0)) (pz_gN (ρ 0)) (pz_p (pz_cF (ρ 0) (ρ 1))) := (ax_XF_lt (x := 154) (Nat.le_of_ble_eq_true rfl)).mp (ax_gx hE (154, [3, 7]) ax_m0)
  rw [c_at] at F154
  obtain ⟨-, F156⟩ : ay_ex hp 173 ∧ ay_ln (ay_at hp 173 13) = pz_nx (pz_gt (ρ 0)) (pz_gN (ρ 0)) (pz_p (pz_cF (ρ 0) (ρ 1))) := (ax_XF_lt (x := 156) (Nat.le_of_ble_eq_true rfl)).mp (ax_gx hE (156, [3, 7]) ax_m1)
  rw [c_next] at F156
  have e1 : ρ 4 / 4 = pz_nx (pz_gt (ρ 0)) (pz_gN (ρ 0)) (pz_p (pz_cf (pz_gt (ρ 0)) (pz_gN (ρ 0)) (ρ 1 / 4))) := F156
  have e2 : ρ 3 / 4 = pz_at (pz_gt (ρ 0)) (pz_gN (ρ 0)) (pz_p (pz_cf (pz_gt (ρ 0)) (pz_gN (ρ 0)) (ρ 1 / 4))) := F154
  refine ⟨(fun y hy => by cases hy), _, List.mem_cons_self, ρ, fun _ _ => rfl, ax_px hE rfl (fun x hx => ?_)⟩
  cases List.mem_singleton.mp hx
  refine (ax_XF_lt (x := 161) (Nat.le_of_ble_eq_true rfl)).mpr ?_
  show pz61 (pz_gt (ρ 0)) (pz_gN (ρ 0)) ((ρ 1) / 4) ((4) / 4)
  refine pz_is_no (Or.inr (Or.inl ?_))
  show pz_nx (pz_gt (ρ 0)) (pz_gN (ρ 0)) (pz_p (pz_cf (pz_gt (ρ 0)) (pz_gN (ρ 0)) (ρ 1 / 4))) - pz_at (pz_gt (ρ 0)) (pz_gN (ρ 0)) (pz_p (pz_cf (pz_gt (ρ 0)) (pz_gN (ρ 0)) (ρ 1 / 4))) ≠ 4
  omega
theorem axq0_is1b_1 : ax_RO ax_wM0 (ax_XM 0) axu0_is1b_1 := axqg_is1b_1 ax_WW0
theorem axqg_is2_1 {w : ax_W} {b : Nat} (hw : ax_WW w) : ax_RO w (ax_XM b) axu0_is2_1 := by
  intro ρ hp hE hT
  have j0 : ρ 0 % 4 = 1 := pz_gj hE 0 (Nat.le_of_ble_eq_true rfl) rfl
  have j1 : ρ 1 % 4 = 1 := pz_gj hE 1 (Nat.le_of_ble_eq_true rfl) rfl
  obtain ⟨i2a, i2b, i2c, i2d⟩ := pz_gi hE 2 2147483652 2147483652 (Nat.le_of_ble_eq_true rfl) rfl
  obtain ⟨i3a, i3b, i3c, i3d⟩ := pz_gi hE 3 2147483648 2147484448 (Nat.le_of_ble_eq_true rfl) rfl
  obtain ⟨i4a, i4b, i4c, i4d⟩ := pz_gi hE 4 2147483648 2147484448 (Nat.le_of_ble_eq_true rfl) rfl
  have c_next : ay_at hp 173 13 = some (ρ 4) := ay_gfj hE 702 52 19 173 13 ax_m3 (ax_vlq rfl rfl) (ax_vlj rfl rfl)
  have c_at : ay_at hp 173 14 = some (ρ 3) := ay_gfj hE 702 56 15 173 14 ax_m4 (ax_vlq rfl rfl) (ax_vlj rfl rfl)
  have s1 : (ρ 2 / 4 + 2147483648) % 4294967296 + (ρ 3 / 4 + 2147483648) % 4294967296 = (ρ 4 / 4 + 2147483648) % 4294967296 + 2147483648 := pz_gs hE 11 15 19 ax_m5
  have F168 : pz_kd (pz_gt (ρ 0)) (pz_gN (ρ 0)) (pz_p (pz_cF (ρ 0) (ρ 1))) = (4) / 4 := (ax_XF_lt (x := 168) (Nat.le_of_ble_eq_true rfl)).mp (ax_gx hE (168, [3, 7, 4]) ax_m0)
  obtain ⟨-, F154⟩ : ay_ex hp 173 ∧ ay_ln (ay_at hp 173 14) = pz_at (pz_gt (ρ 0)) (pz_gN (ρ 0)) (pz_p (pz_cF (ρ 0) (ρ 1))) := (ax_XF_lt (x := 154) (Nat.le_of_ble_eq_true rfl)).mp (ax_gx hE (154, [3, 7]) ax_m1)
  rw [c_at] at F154
  obtain ⟨-, F156⟩ : ay_ex hp 173 ∧ ay_ln (ay_at hp 173 13) = pz_nx (pz_gt (ρ 0)) (pz_gN (ρ 0)) (pz_p (pz_cF (ρ 0) (ρ 1))) := (ax_XF_lt (x := 156) (Nat.le_of_ble_eq_true rfl)).mp (ax_gx hE (156, [3, 7]) ax_m2)
  rw [c_next] at F156
  have e1 : ρ 4 / 4 = pz_nx (pz_gt (ρ 0)) (pz_gN (ρ 0)) (pz_p (pz_cf (pz_gt (ρ 0)) (pz_gN (ρ 0)) (ρ 1 / 4))) := F156
  have e2 : ρ 3 / 4 = pz_at (pz_gt (ρ 0)) (pz_gN (ρ 0)) (pz_p (pz_cf (pz_gt (ρ 0)) (pz_gN (ρ 0)) (ρ 1 / 4))) := F154
  refine ⟨(fun y hy => by cases hy), _, List.mem_cons_self, ρ, fun _ _ => rfl, ax_px hE rfl (fun x hx => ?_)⟩
  cases List.mem_singleton.mp hx
  refine (ax_XF_lt (x := 212) (Nat.le_of_ble_eq_true rfl)).mpr ?_
  show pz_x62 (ρ 0) (ρ 1) (4004) (0)
  refine ⟨F168, ?_, fun j hj => absurd (show j < 0 from hj) (by omega)⟩
  show pz_nx (pz_gt (ρ 0)) (pz_gN (ρ 0)) (pz_p (pz_cf (pz_gt (ρ 0)) (pz_gN (ρ 0)) (ρ 1 / 4))) - pz_at (pz_gt (ρ 0)) (pz_gN (ρ 0)) (pz_p (pz_cf (pz_gt (ρ 0)) (pz_gN (ρ 0)) (ρ 1 / 4))) = 4
  omega
theorem axq0_is2_1 : ax_RO ax_wM0 (ax_XM 0) axu0_is2_1 := axqg_is2_1 ax_WW0
theorem axqg_is3_1_0 {w : ax_W} {b : Nat} (hw : ax_WW w) : ax_RO w (ax_XM b) axu0_is3_1_0 := by
  intro ρ hp hE hT
  have j0 : ρ 0 % 4 = 1 := pz_gj hE 0 (Nat.le_of_ble_eq_true rfl) rfl
  have j1 : ρ 1 % 4 = 1 := pz_gj hE 1 (Nat.le_of_ble_eq_true rfl) rfl
  obtain ⟨i2a, i2b, i2c, i2d⟩ := pz_gi hE 2 2147483648 2147484448 (Nat.le_of_ble_eq_true rfl) rfl
  obtain ⟨i3a, i3b, i3c, i3d⟩ := pz_gi hE 3 0 4294967295 (Nat.le_of_ble_eq_true rfl) rfl
  obtain ⟨i4a, i4b, i4c, i4d⟩ := pz_gi hE 4 2147483756 2147483756 (Nat.le_of_ble_eq_true rfl) rfl
  have c_at : ay_at hp 173 14 = some (ρ 2) := ay_gfj hE 702 56 11 173 14 ax_m2 (ax_vlq rfl rfl) (ax_vlj rfl rfl)
  have s1 : (ρ 2 / 4 + 2147483648) % 4294967296 + (0 / 4 + 2147483648) % 4294967296 = (ρ 3 / 4 + 2147483648) % 4294967296 + 2147483648 := pz_gs hE 11 0 15 ax_m3
  have c_tape : ay_at hp 183 (ρ 3 / 4) = some (ρ 4) := ay_gf hE 742 15 19 183 ax_m4 (ax_vlq rfl rfl)
  obtain ⟨-, -, F131⟩ : ay_ex hp 173 ∧ ay_ex hp 183 ∧ pz_x30 (ρ 0) (ay_at hp 173 12) (ay_at hp 183) := (ax_XF_lt (x := 131) (Nat.le_of_ble_eq_true rfl)).mp (ax_gx hE (131, [3]) ax_m0)
  obtain ⟨-, F154⟩ : ay_ex hp 173 ∧ ay_ln (ay_at hp 173 14) = pz_at (pz_gt (ρ 0)) (pz_gN (ρ 0)) (pz_p (pz_cF (ρ 0) (ρ 1))) := (ax_XF_lt (x := 154) (Nat.le_of_ble_eq_true rfl)).mp (ax_gx hE (154, [3, 7]) ax_m1)
  rw [c_at] at F154
  have F212 : pz_x62 (ρ 0) (ρ 1) (4004) (0) := (ax_XF_lt (x := 212) (Nat.le_of_ble_eq_true rfl)).mp (ax_gx hE (212, [3, 7, 4004, 0]) ax_m5)
  have ep : ρ 2 / 4 = pz_at (pz_gt (ρ 0)) (pz_gN (ρ 0)) (pz_p (pz_cf (pz_gt (ρ 0)) (pz_gN (ρ 0)) (ρ 1 / 4))) := F154
  have hw : pz_at (pz_gt (ρ 0)) (pz_gN (ρ 0)) (pz_p (pz_cf (pz_gt (ρ 0)) (pz_gN (ρ 0)) (ρ 1 / 4))) < pz_gN (ρ 0) ∧ pz_nx (pz_gt (ρ 0)) (pz_gN (ρ 0)) (pz_p (pz_cf (pz_gt (ρ 0)) (pz_gN (ρ 0)) (ρ 1 / 4))) ≤ pz_gN (ρ 0) := pz_wd_le F212.1
  have hln : pz_nx (pz_gt (ρ 0)) (pz_gN (ρ 0)) (pz_p (pz_cf (pz_gt (ρ 0)) (pz_gN (ρ 0)) (ρ 1 / 4))) - pz_at (pz_gt (ρ 0)) (pz_gN (ρ 0)) (pz_p (pz_cf (pz_gt (ρ 0)) (pz_gN (ρ 0)) (ρ 1 / 4))) = 4 := F212.2.1
  have ha1 := (pz_ps 0 800 i2b i2c i2d (by decide))
  have hq1 : ρ 3 / 4 = ρ 2 / 4 + 0 := pz_sm (by omega) (by decide) i3b s1
  have hb := F131.2.2 (ρ 3 / 4) (by have := hw.2; omega)
  rw [c_tape] at hb
  have hb := Option.some.inj hb
  rw [show ρ 3 / 4 = pz_at (pz_gt (ρ 0)) (pz_gN (ρ 0)) (pz_p (pz_cf (pz_gt (ρ 0)) (pz_gN (ρ 0)) (ρ 1 / 4))) + 0 by omega] at hb
  have hb2 : pz_b (pz_gt (ρ 0)) (pz_at (pz_gt (ρ 0)) (pz_gN (ρ 0)) (pz_p (pz_cf (pz_gt (ρ 0)) (pz_gN (ρ 0)) (ρ 1 / 4))) + 0) = ρ 4 / 4 := by omega
  refine ⟨(fun y hy => by cases hy), _, List.mem_cons_self, ρ, fun _ _ => rfl, ax_px hE rfl (fun x hx => ?_)⟩
  cases List.mem_singleton.mp hx
  refine (ax_XF_lt (x := 212) (Nat.le_of_ble_eq_true rfl)).mpr ?_
  show pz_x62 (ρ 0) (ρ 1) (4004) (4)
  refine ⟨F212.1, F212.2.1, fun i hi => ?_⟩
  replace hi : i < 1 := hi
  by_cases h : i < 0
  · exact F212.2.2 i h
  · have e : i = 0 := by omega
    subst e
    exact hb2.trans (show ρ 4 / 4 = 108 by omega)
theorem axq0_is3_1_0 : ax_RO ax_wM0 (ax_XM 0) axu0_is3_1_0 := axqg_is3_1_0 ax_WW0
theorem axqg_is4a_1_0 {w : ax_W} {b : Nat} (hw : ax_WW w) : ax_RO w (ax_XM b) axu0_is4a_1_0 := by
  intro ρ hp hE hT
  have j0 : ρ 0 % 4 = 1 := pz_gj hE 0 (Nat.le_of_ble_eq_true rfl) rfl
  have j1 : ρ 1 % 4 = 1 := pz_gj hE 1 (Nat.le_of_ble_eq_true rfl) rfl
  obtain ⟨i2a, i2b, i2c, i2d⟩ := pz_gi hE 2 2147483648 2147484448 (Nat.le_of_ble_eq_true rfl) rfl
  obtain ⟨i3a, i3b, i3c, i3d⟩ := pz_gi hE 3 0 4294967295 (Nat.le_of_ble_eq_true rfl) rfl
  obtain ⟨i4a, i4b, i4c, i4d⟩ := pz_gi hE 4 2147483520 2147483755 (Nat.le_of_ble_eq_true rfl) rfl
  have c_at : ay_at hp 173 14 = some (ρ 2) := ay_gfj hE 702 56 11 173 14 ax_m2 (ax_vlq rfl rfl) (ax_vlj rfl rfl)
  have s1 : (ρ 2 / 4 + 2147483648) % 4294967296 + (0 / 4 + 2147483648) % 4294967296 = (ρ 3 / 4 + 2147483648) % 4294967296 + 2147483648 := pz_gs hE 11 0 15 ax_m3
  have c_tape : ay_at hp 183 (ρ 3 / 4) = some (ρ 4) := ay_gf hE 742 15 19 183 ax_m4 (ax_vlq rfl rfl)
  obtain ⟨-, -, F131⟩ : ay_ex hp 173 ∧ ay_ex hp 183 ∧ pz_x30 (ρ 0) (ay_at hp 173 12) (ay_at hp 183) := (ax_XF_lt (x := 131) (Nat.le_of_ble_eq_true rfl)).mp (ax_gx hE (131, [3]) ax_m0)
  obtain ⟨-, F154⟩ : ay_ex hp 173 ∧ ay_ln (ay_at hp 173 14) = pz_at (pz_gt (ρ 0)) (pz_gN (ρ 0)) (pz_p (pz_cF (ρ 0) (ρ 1))) := (ax_XF_lt (x := 154) (Nat.le_of_ble_eq_true rfl)).mp (ax_gx hE (154, [3, 7]) ax_m1)
  rw [c_at] at F154
  have F212 : pz_x62 (ρ 0) (ρ 1) (4004) (0) := (ax_XF_lt (x := 212) (Nat.le_of_ble_eq_true rfl)).mp (ax_gx hE (212, [3, 7, 4004, 0]) ax_m5)
  have ep : ρ 2 / 4 = pz_at (pz_gt (ρ 0)) (pz_gN (ρ 0)) (pz_p (pz_cf (pz_gt (ρ 0)) (pz_gN (ρ 0)) (ρ 1 / 4))) := F154
  have hw : pz_at (pz_gt (ρ 0)) (pz_gN (ρ 0)) (pz_p (pz_cf (pz_gt (ρ 0)) (pz_gN (ρ 0)) (ρ 1 / 4))) < pz_gN (ρ 0) ∧ pz_nx (pz_gt (ρ 0)) (pz_gN (ρ 0)) (pz_p (pz_cf (pz_gt (ρ 0)) (pz_gN (ρ 0)) (ρ 1 / 4))) ≤ pz_gN (ρ 0) := pz_wd_le F212.1
  have hln : pz_nx (pz_gt (ρ 0)) (pz_gN (ρ 0)) (pz_p (pz_cf (pz_gt (ρ 0)) (pz_gN (ρ 0)) (ρ 1 / 4))) - pz_at (pz_gt (ρ 0)) (pz_gN (ρ 0)) (pz_p (pz_cf (pz_gt (ρ 0)) (pz_gN (ρ 0)) (ρ 1 / 4))) = 4 := F212.2.1
  have ha1 := (pz_ps 0 800 i2b i2c i2d (by decide))
  have hq1 : ρ 3 / 4 = ρ 2 / 4 + 0 := pz_sm (by omega) (by decide) i3b s1
  have hb := F131.2.2 (ρ 3 / 4) (by have := hw.2; omega)
  rw [c_tape] at hb
  have hb := Option.some.inj hb
  rw [show ρ 3 / 4 = pz_at (pz_gt (ρ 0)) (pz_gN (ρ 0)) (pz_p (pz_cf (pz_gt (ρ 0)) (pz_gN (ρ 0)) (ρ 1 / 4))) + 0 by omega] at hb
  have hb2 : pz_b (pz_gt (ρ 0)) (pz_at (pz_gt (ρ 0)) (pz_gN (ρ 0)) (pz_p (pz_cf (pz_gt (ρ 0)) (pz_gN (ρ 0)) (ρ 1 / 4))) + 0) = ρ 4 / 4 := by omega
  refine ⟨(fun y hy => by cases hy), _, List.mem_cons_self, ρ, fun _ _ => rfl, ax_px hE rfl (fun x hx => ?_)⟩
  cases List.mem_singleton.mp hx
  refine (ax_XF_lt (x := 161) (Nat.le_of_ble_eq_true rfl)).mpr ?_
  show pz61 (pz_gt (ρ 0)) (pz_gN (ρ 0)) ((ρ 1) / 4) ((4) / 4)
  refine pz_is_no (Or.inr (Or.inr ⟨0, by decide, fun z => ?_⟩))
  have z2 : ρ 4 / 4 = 108 := hb2.symm.trans z
  omega
theorem axq0_is4a_1_0 : ax_RO ax_wM0 (ax_XM 0) axu0_is4a_1_0 := axqg_is4a_1_0 ax_WW0
theorem axqg_is4b_1_0 {w : ax_W} {b : Nat} (hw : ax_WW w) : ax_RO w (ax_XM b) axu0_is4b_1_0 := by
  intro ρ hp hE hT
  have j0 : ρ 0 % 4 = 1 := pz_gj hE 0 (Nat.le_of_ble_eq_true rfl) rfl
  have j1 : ρ 1 % 4 = 1 := pz_gj hE 1 (Nat.le_of_ble_eq_true rfl) rfl
  obtain ⟨i2a, i2b, i2c, i2d⟩ := pz_gi hE 2 2147483648 2147484448 (Nat.le_of_ble_eq_true rfl) rfl
  obtain ⟨i3a, i3b, i3c, i3d⟩ := pz_gi hE 3 0 4294967295 (Nat.le_of_ble_eq_true rfl) rfl
  obtain ⟨i4a, i4b, i4c, i4d⟩ := pz_gi hE 4 2147483757 2147483775 (Nat.le_of_ble_eq_true rfl) rfl
  have c_at : ay_at hp 173 14 = some (ρ 2) := ay_gfj hE 702 56 11 173 14 ax_m2 (ax_vlq rfl rfl) (ax_vlj rfl rfl)
  have s1 : (ρ 2 / 4 + 2147483648) % 4294967296 + (0 / 4 + 2147483648) % 4294967296 = (ρ 3 / 4 + 2147483648) % 4294967296 + 2147483648 := pz_gs hE 11 0 15 ax_m3
  have c_tape : ay_at hp 183 (ρ 3 / 4) = some (ρ 4) := ay_gf hE 742 15 19 183 ax_m4 (ax_vlq rfl rfl)
  obtain ⟨-, -, F131⟩ : ay_ex hp 173 ∧ ay_ex hp 183 ∧ pz_x30 (ρ 0) (ay_at hp 173 12) (ay_at hp 183) := (ax_XF_lt (x := 131) (Nat.le_of_ble_eq_true rfl)).mp (ax_gx hE (131, [3]) ax_m0)
  obtain ⟨-, F154⟩ : ay_ex hp 173 ∧ ay_ln (ay_at hp 173 14) = pz_at (pz_gt (ρ 0)) (pz_gN (ρ 0)) (pz_p (pz_cF (ρ 0) (ρ 1))) := (ax_XF_lt (x := 154) (Nat.le_of_ble_eq_true rfl)).mp (ax_gx hE (154, [3, 7]) ax_m1)
  rw [c_at] at F154
  have F212 : pz_x62 (ρ 0) (ρ 1) (4004) (0) := (ax_XF_lt (x := 212) (Nat.le_of_ble_eq_true rfl)).mp (ax_gx hE (212, [3, 7, 4004, 0]) ax_m5)
  have ep : ρ 2 / 4 = pz_at (pz_gt (ρ 0)) (pz_gN (ρ 0)) (pz_p (pz_cf (pz_gt (ρ 0)) (pz_gN (ρ 0)) (ρ 1 / 4))) := F154
  have hw : pz_at (pz_gt (ρ 0)) (pz_gN (ρ 0)) (pz_p (pz_cf (pz_gt (ρ 0)) (pz_gN (ρ 0)) (ρ 1 / 4))) < pz_gN (ρ 0) ∧ pz_nx (pz_gt (ρ 0)) (pz_gN (ρ 0)) (pz_p (pz_cf (pz_gt (ρ 0)) (pz_gN (ρ 0)) (ρ 1 / 4))) ≤ pz_gN (ρ 0) := pz_wd_le F212.1
  have hln : pz_nx (pz_gt (ρ 0)) (pz_gN (ρ 0)) (pz_p (pz_cf (pz_gt (ρ 0)) (pz_gN (ρ 0)) (ρ 1 / 4))) - pz_at (pz_gt (ρ 0)) (pz_gN (ρ 0)) (pz_p (pz_cf (pz_gt (ρ 0)) (pz_gN (ρ 0)) (ρ 1 / 4))) = 4 := F212.2.1
  have ha1 := (pz_ps 0 800 i2b i2c i2d (by decide))
  have hq1 : ρ 3 / 4 = ρ 2 / 4 + 0 := pz_sm (by omega) (by decide) i3b s1
  have hb := F131.2.2 (ρ 3 / 4) (by have := hw.2; omega)
  rw [c_tape] at hb
  have hb := Option.some.inj hb
  rw [show ρ 3 / 4 = pz_at (pz_gt (ρ 0)) (pz_gN (ρ 0)) (pz_p (pz_cf (pz_gt (ρ 0)) (pz_gN (ρ 0)) (ρ 1 / 4))) + 0 by omega] at hb
  have hb2 : pz_b (pz_gt (ρ 0)) (pz_at (pz_gt (ρ 0)) (pz_gN (ρ 0)) (pz_p (pz_cf (pz_gt (ρ 0)) (pz_gN (ρ 0)) (ρ 1 / 4))) + 0) = ρ 4 / 4 := by omega
  refine ⟨(fun y hy => by cases hy), _, List.mem_cons_self, ρ, fun _ _ => rfl, ax_px hE rfl (fun x hx => ?_)⟩
  cases List.mem_singleton.mp hx
  refine (ax_XF_lt (x := 161) (Nat.le_of_ble_eq_true rfl)).mpr ?_
  show pz61 (pz_gt (ρ 0)) (pz_gN (ρ 0)) ((ρ 1) / 4) ((4) / 4)
  refine pz_is_no (Or.inr (Or.inr ⟨0, by decide, fun z => ?_⟩))
  have z2 : ρ 4 / 4 = 108 := hb2.symm.trans z
  omega
theorem axq0_is4b_1_0 : ax_RO ax_wM0 (ax_XM 0) axu0_is4b_1_0 := axqg_is4b_1_0 ax_WW0
theorem axqg_is3_1_1 {w : ax_W} {b : Nat} (hw : ax_WW w) : ax_RO w (ax_XM b) axu0_is3_1_1 := by
  intro ρ hp hE hT
  have j0 : ρ 0 % 4 = 1 := pz_gj hE 0 (Nat.le_of_ble_eq_true rfl) rfl
  have j1 : ρ 1 % 4 = 1 := pz_gj hE 1 (Nat.le_of_ble_eq_true rfl) rfl
  obtain ⟨i2a, i2b, i2c, i2d⟩ := pz_gi hE 2 2147483648 2147484448 (Nat.le_of_ble_eq_true rfl) rfl
  obtain ⟨i3a, i3b, i3c, i3d⟩ := pz_gi hE 3 0 4294967295 (Nat.le_of_ble_eq_true rfl) rfl
  obtain ⟨i4a, i4b, i4c, i4d⟩ := pz_gi hE 4 2147483753 2147483753 (Nat.le_of_ble_eq_true rfl) rfl
  have c_at : ay_at hp 173 14 = some (ρ 2) := ay_gfj hE 702 56 11 173 14 ax_m2 (ax_vlq rfl rfl) (ax_vlj rfl rfl)
  have s1 : (ρ 2 / 4 + 2147483648) % 4294967296 + (4 / 4 + 2147483648) % 4294967296 = (ρ 3 / 4 + 2147483648) % 4294967296 + 2147483648 := pz_gs hE 11 4 15 ax_m3
  have c_tape : ay_at hp 183 (ρ 3 / 4) = some (ρ 4) := ay_gf hE 742 15 19 183 ax_m4 (ax_vlq rfl rfl)
  obtain ⟨-, -, F131⟩ : ay_ex hp 173 ∧ ay_ex hp 183 ∧ pz_x30 (ρ 0) (ay_at hp 173 12) (ay_at hp 183) := (ax_XF_lt (x := 131) (Nat.le_of_ble_eq_true rfl)).mp (ax_gx hE (131, [3]) ax_m0)
  obtain ⟨-, F154⟩ : ay_ex hp 173 ∧ ay_ln (ay_at hp 173 14) = pz_at (pz_gt (ρ 0)) (pz_gN (ρ 0)) (pz_p (pz_cF (ρ 0) (ρ 1))) := (ax_XF_lt (x := 154) (Nat.le_of_ble_eq_true rfl)).mp (ax_gx hE (154, [3, 7]) ax_m1)
  rw [c_at] at F154
  have F212 : pz_x62 (ρ 0) (ρ 1) (4004) (4) := (ax_XF_lt (x := 212) (Nat.le_of_ble_eq_true rfl)).mp (ax_gx hE (212, [3, 7, 4004, 4]) ax_m5)
  have ep : ρ 2 / 4 = pz_at (pz_gt (ρ 0)) (pz_gN (ρ 0)) (pz_p (pz_cf (pz_gt (ρ 0)) (pz_gN (ρ 0)) (ρ 1 / 4))) := F154
  have hw : pz_at (pz_gt (ρ 0)) (pz_gN (ρ 0)) (pz_p (pz_cf (pz_gt (ρ 0)) (pz_gN (ρ 0)) (ρ 1 / 4))) < pz_gN (ρ 0) ∧ pz_nx (pz_gt (ρ 0)) (pz_gN (ρ 0)) (pz_p (pz_cf (pz_gt (ρ 0)) (pz_gN (ρ 0)) (ρ 1 / 4))) ≤ pz_gN (ρ 0) := pz_wd_le F212.1
  have hln : pz_nx (pz_gt (ρ 0)) (pz_gN (ρ 0)) (pz_p (pz_cf (pz_gt (ρ 0)) (pz_gN (ρ 0)) (ρ 1 / 4))) - pz_at (pz_gt (ρ 0)) (pz_gN (ρ 0)) (pz_p (pz_cf (pz_gt (ρ 0)) (pz_gN (ρ 0)) (ρ 1 / 4))) = 4 := F212.2.1
  have ha1 := (pz_ps 0 800 i2b i2c i2d (by decide))
  have hq1 : ρ 3 / 4 = ρ 2 / 4 + 1 := pz_sm (by omega) (by decide) i3b s1
  have hb := F131.2.2 (ρ 3 / 4) (by have := hw.2; omega)
  rw [c_tape] at hb
  have hb := Option.some.inj hb
  rw [show ρ 3 / 4 = pz_at (pz_gt (ρ 0)) (pz_gN (ρ 0)) (pz_p (pz_cf (pz_gt (ρ 0)) (pz_gN (ρ 0)) (ρ 1 / 4))) + 1 by omega] at hb
  have hb2 : pz_b (pz_gt (ρ 0)) (pz_at (pz_gt (ρ 0)) (pz_gN (ρ 0)) (pz_p (pz_cf (pz_gt (ρ 0)) (pz_gN (ρ 0)) (ρ 1 / 4))) + 1) = ρ 4 / 4 := by omega
  refine ⟨(fun y hy => by cases hy), _, List.mem_cons_self, ρ, fun _ _ => rfl, ax_px hE rfl (fun x hx => ?_)⟩
  cases List.mem_singleton.mp hx
  refine (ax_XF_lt (x := 212) (Nat.le_of_ble_eq_true rfl)).mpr ?_
  show pz_x62 (ρ 0) (ρ 1) (4004) (8)
  refine ⟨F212.1, F212.2.1, fun i hi => ?_⟩
  replace hi : i < 2 := hi
  by_cases h : i < 1
  · exact F212.2.2 i h
  · have e : i = 1 := by omega
    subst e
    exact hb2.trans (show ρ 4 / 4 = 105 by omega)
theorem axq0_is3_1_1 : ax_RO ax_wM0 (ax_XM 0) axu0_is3_1_1 := axqg_is3_1_1 ax_WW0
theorem axqg_is4a_1_1 {w : ax_W} {b : Nat} (hw : ax_WW w) : ax_RO w (ax_XM b) axu0_is4a_1_1 := by
  intro ρ hp hE hT
  have j0 : ρ 0 % 4 = 1 := pz_gj hE 0 (Nat.le_of_ble_eq_true rfl) rfl
  have j1 : ρ 1 % 4 = 1 := pz_gj hE 1 (Nat.le_of_ble_eq_true rfl) rfl
  obtain ⟨i2a, i2b, i2c, i2d⟩ := pz_gi hE 2 2147483648 2147484448 (Nat.le_of_ble_eq_true rfl) rfl
  obtain ⟨i3a, i3b, i3c, i3d⟩ := pz_gi hE 3 0 4294967295 (Nat.le_of_ble_eq_true rfl) rfl
  obtain ⟨i4a, i4b, i4c, i4d⟩ := pz_gi hE 4 2147483520 2147483752 (Nat.le_of_ble_eq_true rfl) rfl
  have c_at : ay_at hp 173 14 = some (ρ 2) := ay_gfj hE 702 56 11 173 14 ax_m2 (ax_vlq rfl rfl) (ax_vlj rfl rfl)
  have s1 : (ρ 2 / 4 + 2147483648) % 4294967296 + (4 / 4 + 2147483648) % 4294967296 = (ρ 3 / 4 + 2147483648) % 4294967296 + 2147483648 := pz_gs hE 11 4 15 ax_m3
  have c_tape : ay_at hp 183 (ρ 3 / 4) = some (ρ 4) := ay_gf hE 742 15 19 183 ax_m4 (ax_vlq rfl rfl)
  obtain ⟨-, -, F131⟩ : ay_ex hp 173 ∧ ay_ex hp 183 ∧ pz_x30 (ρ 0) (ay_at hp 173 12) (ay_at hp 183) := (ax_XF_lt (x := 131) (Nat.le_of_ble_eq_true rfl)).mp (ax_gx hE (131, [3]) ax_m0)
  obtain ⟨-, F154⟩ : ay_ex hp 173 ∧ ay_ln (ay_at hp 173 14) = pz_at (pz_gt (ρ 0)) (pz_gN (ρ 0)) (pz_p (pz_cF (ρ 0) (ρ 1))) := (ax_XF_lt (x := 154) (Nat.le_of_ble_eq_true rfl)).mp (ax_gx hE (154, [3, 7]) ax_m1)
  rw [c_at] at F154
  have F212 : pz_x62 (ρ 0) (ρ 1) (4004) (4) := (ax_XF_lt (x := 212) (Nat.le_of_ble_eq_true rfl)).mp (ax_gx hE (212, [3, 7, 4004, 4]) ax_m5)
  have ep : ρ 2 / 4 = pz_at (pz_gt (ρ 0)) (pz_gN (ρ 0)) (pz_p (pz_cf (pz_gt (ρ 0)) (pz_gN (ρ 0)) (ρ 1 / 4))) := F154
  have hw : pz_at (pz_gt (ρ 0)) (pz_gN (ρ 0)) (pz_p (pz_cf (pz_gt (ρ 0)) (pz_gN (ρ 0)) (ρ 1 / 4))) < pz_gN (ρ 0) ∧ pz_nx (pz_gt (ρ 0)) (pz_gN (ρ 0)) (pz_p (pz_cf (pz_gt (ρ 0)) (pz_gN (ρ 0)) (ρ 1 / 4))) ≤ pz_gN (ρ 0) := pz_wd_le F212.1
  have hln : pz_nx (pz_gt (ρ 0)) (pz_gN (ρ 0)) (pz_p (pz_cf (pz_gt (ρ 0)) (pz_gN (ρ 0)) (ρ 1 / 4))) - pz_at (pz_gt (ρ 0)) (pz_gN (ρ 0)) (pz_p (pz_cf (pz_gt (ρ 0)) (pz_gN (ρ 0)) (ρ 1 / 4))) = 4 := F212.2.1
  have ha1 := (pz_ps 0 800 i2b i2c i2d (by decide))
  have hq1 : ρ 3 / 4 = ρ 2 / 4 + 1 := pz_sm (by omega) (by decide) i3b s1
  have hb := F131.2.2 (ρ 3 / 4) (by have := hw.2; omega)
  rw [c_tape] at hb
  have hb := Option.some.inj hb
  rw [show ρ 3 / 4 = pz_at (pz_gt (ρ 0)) (pz_gN (ρ 0)) (pz_p (pz_cf (pz_gt (ρ 0)) (pz_gN (ρ 0)) (ρ 1 / 4))) + 1 by omega] at hb
  have hb2 : pz_b (pz_gt (ρ 0)) (pz_at (pz_gt (ρ 0)) (pz_gN (ρ 0)) (pz_p (pz_cf (pz_gt (ρ 0)) (pz_gN (ρ 0)) (ρ 1 / 4))) + 1) = ρ 4 / 4 := by omega
  refine ⟨(fun y hy => by cases hy), _, List.mem_cons_self, ρ, fun _ _ => rfl, ax_px hE rfl (fun x hx => ?_)⟩
  cases List.mem_singleton.mp hx
  refine (ax_XF_lt (x := 161) (Nat.le_of_ble_eq_true rfl)).mpr ?_
  show pz61 (pz_gt (ρ 0)) (pz_gN (ρ 0)) ((ρ 1) / 4) ((4) / 4)
  refine pz_is_no (Or.inr (Or.inr ⟨1, by decide, fun z => ?_⟩))
  have z2 : ρ 4 / 4 = 105 := hb2.symm.trans z
  omega
theorem axq0_is4a_1_1 : ax_RO ax_wM0 (ax_XM 0) axu0_is4a_1_1 := axqg_is4a_1_1 ax_WW0
theorem axqg_is4b_1_1 {w : ax_W} {b : Nat} (hw : ax_WW w) : ax_RO w (ax_XM b) axu0_is4b_1_1 := by
  intro ρ hp hE hT
  have j0 : ρ 0 % 4 = 1 := pz_gj hE 0 (Nat.le_of_ble_eq_true rfl) rfl
  have j1 : ρ 1 % 4 = 1 := pz_gj hE 1 (Nat.le_of_ble_eq_true rfl) rfl
  obtain ⟨i2a, i2b, i2c, i2d⟩ := pz_gi hE 2 2147483648 2147484448 (Nat.le_of_ble_eq_true rfl) rfl
  obtain ⟨i3a, i3b, i3c, i3d⟩ := pz_gi hE 3 0 4294967295 (Nat.le_of_ble_eq_true rfl) rfl
  obtain ⟨i4a, i4b, i4c, i4d⟩ := pz_gi hE 4 2147483754 2147483775 (Nat.le_of_ble_eq_true rfl) rfl
  have c_at : ay_at hp 173 14 = some (ρ 2) := ay_gfj hE 702 56 11 173 14 ax_m2 (ax_vlq rfl rfl) (ax_vlj rfl rfl)
  have s1 : (ρ 2 / 4 + 2147483648) % 4294967296 + (4 / 4 + 2147483648) % 4294967296 = (ρ 3 / 4 + 2147483648) % 4294967296 + 2147483648 := pz_gs hE 11 4 15 ax_m3
  have c_tape : ay_at hp 183 (ρ 3 / 4) = some (ρ 4) := ay_gf hE 742 15 19 183 ax_m4 (ax_vlq rfl rfl)
  obtain ⟨-, -, F131⟩ : ay_ex hp 173 ∧ ay_ex hp 183 ∧ pz_x30 (ρ 0) (ay_at hp 173 12) (ay_at hp 183) := (ax_XF_lt (x := 131) (Nat.le_of_ble_eq_true rfl)).mp (ax_gx hE (131, [3]) ax_m0)
  obtain ⟨-, F154⟩ : ay_ex hp 173 ∧ ay_ln (ay_at hp 173 14) = pz_at (pz_gt (ρ 0)) (pz_gN (ρ 0)) (pz_p (pz_cF (ρ 0) (ρ 1))) := (ax_XF_lt (x := 154) (Nat.le_of_ble_eq_true rfl)).mp (ax_gx hE (154, [3, 7]) ax_m1)
  rw [c_at] at F154
  have F212 : pz_x62 (ρ 0) (ρ 1) (4004) (4) := (ax_XF_lt (x := 212) (Nat.le_of_ble_eq_true rfl)).mp (ax_gx hE (212, [3, 7, 4004, 4]) ax_m5)
  have ep : ρ 2 / 4 = pz_at (pz_gt (ρ 0)) (pz_gN (ρ 0)) (pz_p (pz_cf (pz_gt (ρ 0)) (pz_gN (ρ 0)) (ρ 1 / 4))) := F154
  have hw : pz_at (pz_gt (ρ 0)) (pz_gN (ρ 0)) (pz_p (pz_cf (pz_gt (ρ 0)) (pz_gN (ρ 0)) (ρ 1 / 4))) < pz_gN (ρ 0) ∧ pz_nx (pz_gt (ρ 0)) (pz_gN (ρ 0)) (pz_p (pz_cf (pz_gt (ρ 0)) (pz_gN (ρ 0)) (ρ 1 / 4))) ≤ pz_gN (ρ 0) := pz_wd_le F212.1
  have hln : pz_nx (pz_gt (ρ 0)) (pz_gN (ρ 0)) (pz_p (pz_cf (pz_gt (ρ 0)) (pz_gN (ρ 0)) (ρ 1 / 4))) - pz_at (pz_gt (ρ 0)) (pz_gN (ρ 0)) (pz_p (pz_cf (pz_gt (ρ 0)) (pz_gN (ρ 0)) (ρ 1 / 4))) = 4 := F212.2.1
  have ha1 := (pz_ps 0 800 i2b i2c i2d (by decide))
  have hq1 : ρ 3 / 4 = ρ 2 / 4 + 1 := pz_sm (by omega) (by decide) i3b s1
  have hb := F131.2.2 (ρ 3 / 4) (by have := hw.2; omega)
  rw [c_tape] at hb
  have hb := Option.some.inj hb
  rw [show ρ 3 / 4 = pz_at (pz_gt (ρ 0)) (pz_gN (ρ 0)) (pz_p (pz_cf (pz_gt (ρ 0)) (pz_gN (ρ 0)) (ρ 1 / 4))) + 1 by omega] at hb
  have hb2 : pz_b (pz_gt (ρ 0)) (pz_at (pz_gt (ρ 0)) (pz_gN (ρ 0)) (pz_p (pz_cf (pz_gt (ρ 0)) (pz_gN (ρ 0)) (ρ 1 / 4))) + 1) = ρ 4 / 4 := by omega
  refine ⟨(fun y hy => by cases hy), _, List.mem_cons_self, ρ, fun _ _ => rfl, ax_px hE rfl (fun x hx => ?_)⟩
  cases List.mem_singleton.mp hx
  refine (ax_XF_lt (x := 161) (Nat.le_of_ble_eq_true rfl)).mpr ?_
  show pz61 (pz_gt (ρ 0)) (pz_gN (ρ 0)) ((ρ 1) / 4) ((4) / 4)
  refine pz_is_no (Or.inr (Or.inr ⟨1, by decide, fun z => ?_⟩))
  have z2 : ρ 4 / 4 = 105 := hb2.symm.trans z
  omega
theorem axq0_is4b_1_1 : ax_RO ax_wM0 (ax_XM 0) axu0_is4b_1_1 := axqg_is4b_1_1 ax_WW0
theorem axqg_is3_1_2 {w : ax_W} {b : Nat} (hw : ax_WW w) : ax_RO w (ax_XM b) axu0_is3_1_2 := by
  intro ρ hp hE hT
  have j0 : ρ 0 % 4 = 1 := pz_gj hE 0 (Nat.le_of_ble_eq_true rfl) rfl
  have j1 : ρ 1 % 4 = 1 := pz_gj hE 1 (Nat.le_of_ble_eq_true rfl) rfl
  obtain ⟨i2a, i2b, i2c, i2d⟩ := pz_gi hE 2 2147483648 2147484448 (Nat.le_of_ble_eq_true rfl) rfl
  obtain ⟨i3a, i3b, i3c, i3d⟩ := pz_gi hE 3 0 4294967295 (Nat.le_of_ble_eq_true rfl) rfl
  obtain ⟨i4a, i4b, i4c, i4d⟩ := pz_gi hE 4 2147483758 2147483758 (Nat.le_of_ble_eq_true rfl) rfl
  have c_at : ay_at hp 173 14 = some (ρ 2) := ay_gfj hE 702 56 11 173 14 ax_m2 (ax_vlq rfl rfl) (ax_vlj rfl rfl)
  have s1 : (ρ 2 / 4 + 2147483648) % 4294967296 + (8 / 4 + 2147483648) % 4294967296 = (ρ 3 / 4 + 2147483648) % 4294967296 + 2147483648 := pz_gs hE 11 8 15 ax_m3
  have c_tape : ay_at hp 183 (ρ 3 / 4) = some (ρ 4) := ay_gf hE 742 15 19 183 ax_m4 (ax_vlq rfl rfl)
  obtain ⟨-, -, F131⟩ : ay_ex hp 173 ∧ ay_ex hp 183 ∧ pz_x30 (ρ 0) (ay_at hp 173 12) (ay_at hp 183) := (ax_XF_lt (x := 131) (Nat.le_of_ble_eq_true rfl)).mp (ax_gx hE (131, [3]) ax_m0)
  obtain ⟨-, F154⟩ : ay_ex hp 173 ∧ ay_ln (ay_at hp 173 14) = pz_at (pz_gt (ρ 0)) (pz_gN (ρ 0)) (pz_p (pz_cF (ρ 0) (ρ 1))) := (ax_XF_lt (x := 154) (Nat.le_of_ble_eq_true rfl)).mp (ax_gx hE (154, [3, 7]) ax_m1)
  rw [c_at] at F154
  have F212 : pz_x62 (ρ 0) (ρ 1) (4004) (8) := (ax_XF_lt (x := 212) (Nat.le_of_ble_eq_true rfl)).mp (ax_gx hE (212, [3, 7, 4004, 8]) ax_m5)
  have ep : ρ 2 / 4 = pz_at (pz_gt (ρ 0)) (pz_gN (ρ 0)) (pz_p (pz_cf (pz_gt (ρ 0)) (pz_gN (ρ 0)) (ρ 1 / 4))) := F154
  have hw : pz_at (pz_gt (ρ 0)) (pz_gN (ρ 0)) (pz_p (pz_cf (pz_gt (ρ 0)) (pz_gN (ρ 0)) (ρ 1 / 4))) < pz_gN (ρ 0) ∧ pz_nx (pz_gt (ρ 0)) (pz_gN (ρ 0)) (pz_p (pz_cf (pz_gt (ρ 0)) (pz_gN (ρ 0)) (ρ 1 / 4))) ≤ pz_gN (ρ 0) := pz_wd_le F212.1
  have hln : pz_nx (pz_gt (ρ 0)) (pz_gN (ρ 0)) (pz_p (pz_cf (pz_gt (ρ 0)) (pz_gN (ρ 0)) (ρ 1 / 4))) - pz_at (pz_gt (ρ 0)) (pz_gN (ρ 0)) (pz_p (pz_cf (pz_gt (ρ 0)) (pz_gN (ρ 0)) (ρ 1 / 4))) = 4 := F212.2.1
  have ha1 := (pz_ps 0 800 i2b i2c i2d (by decide))
  have hq1 : ρ 3 / 4 = ρ 2 / 4 + 2 := pz_sm (by omega) (by decide) i3b s1
  have hb := F131.2.2 (ρ 3 / 4) (by have := hw.2; omega)
  rw [c_tape] at hb
  have hb := Option.some.inj hb
  rw [show ρ 3 / 4 = pz_at (pz_gt (ρ 0)) (pz_gN (ρ 0)) (pz_p (pz_cf (pz_gt (ρ 0)) (pz_gN (ρ 0)) (ρ 1 / 4))) + 2 by omega] at hb
  have hb2 : pz_b (pz_gt (ρ 0)) (pz_at (pz_gt (ρ 0)) (pz_gN (ρ 0)) (pz_p (pz_cf (pz_gt (ρ 0)) (pz_gN (ρ 0)) (ρ 1 / 4))) + 2) = ρ 4 / 4 := by omega
  refine ⟨(fun y hy => by cases hy), _, List.mem_cons_self, ρ, fun _ _ => rfl, ax_px hE rfl (fun x hx => ?_)⟩
  cases List.mem_singleton.mp hx
  refine (ax_XF_lt (x := 212) (Nat.le_of_ble_eq_true rfl)).mpr ?_
  show pz_x62 (ρ 0) (ρ 1) (4004) (12)
  refine ⟨F212.1, F212.2.1, fun i hi => ?_⟩
  replace hi : i < 3 := hi
  by_cases h : i < 2
  · exact F212.2.2 i h
  · have e : i = 2 := by omega
    subst e
    exact hb2.trans (show ρ 4 / 4 = 110 by omega)
theorem axq0_is3_1_2 : ax_RO ax_wM0 (ax_XM 0) axu0_is3_1_2 := axqg_is3_1_2 ax_WW0
theorem axqg_is4a_1_2 {w : ax_W} {b : Nat} (hw : ax_WW w) : ax_RO w (ax_XM b) axu0_is4a_1_2 := by
  intro ρ hp hE hT
  have j0 : ρ 0 % 4 = 1 := pz_gj hE 0 (Nat.le_of_ble_eq_true rfl) rfl
  have j1 : ρ 1 % 4 = 1 := pz_gj hE 1 (Nat.le_of_ble_eq_true rfl) rfl
  obtain ⟨i2a, i2b, i2c, i2d⟩ := pz_gi hE 2 2147483648 2147484448 (Nat.le_of_ble_eq_true rfl) rfl
  obtain ⟨i3a, i3b, i3c, i3d⟩ := pz_gi hE 3 0 4294967295 (Nat.le_of_ble_eq_true rfl) rfl
  obtain ⟨i4a, i4b, i4c, i4d⟩ := pz_gi hE 4 2147483520 2147483757 (Nat.le_of_ble_eq_true rfl) rfl
  have c_at : ay_at hp 173 14 = some (ρ 2) := ay_gfj hE 702 56 11 173 14 ax_m2 (ax_vlq rfl rfl) (ax_vlj rfl rfl)
  have s1 : (ρ 2 / 4 + 2147483648) % 4294967296 + (8 / 4 + 2147483648) % 4294967296 = (ρ 3 / 4 + 2147483648) % 4294967296 + 2147483648 := pz_gs hE 11 8 15 ax_m3
  have c_tape : ay_at hp 183 (ρ 3 / 4) = some (ρ 4) := ay_gf hE 742 15 19 183 ax_m4 (ax_vlq rfl rfl)
  obtain ⟨-, -, F131⟩ : ay_ex hp 173 ∧ ay_ex hp 183 ∧ pz_x30 (ρ 0) (ay_at hp 173 12) (ay_at hp 183) := (ax_XF_lt (x := 131) (Nat.le_of_ble_eq_true rfl)).mp (ax_gx hE (131, [3]) ax_m0)
  obtain ⟨-, F154⟩ : ay_ex hp 173 ∧ ay_ln (ay_at hp 173 14) = pz_at (pz_gt (ρ 0)) (pz_gN (ρ 0)) (pz_p (pz_cF (ρ 0) (ρ 1))) := (ax_XF_lt (x := 154) (Nat.le_of_ble_eq_true rfl)).mp (ax_gx hE (154, [3, 7]) ax_m1)
  rw [c_at] at F154
  have F212 : pz_x62 (ρ 0) (ρ 1) (4004) (8) := (ax_XF_lt (x := 212) (Nat.le_of_ble_eq_true rfl)).mp (ax_gx hE (212, [3, 7, 4004, 8]) ax_m5)
  have ep : ρ 2 / 4 = pz_at (pz_gt (ρ 0)) (pz_gN (ρ 0)) (pz_p (pz_cf (pz_gt (ρ 0)) (pz_gN (ρ 0)) (ρ 1 / 4))) := F154
  have hw : pz_at (pz_gt (ρ 0)) (pz_gN (ρ 0)) (pz_p (pz_cf (pz_gt (ρ 0)) (pz_gN (ρ 0)) (ρ 1 / 4))) < pz_gN (ρ 0) ∧ pz_nx (pz_gt (ρ 0)) (pz_gN (ρ 0)) (pz_p (pz_cf (pz_gt (ρ 0)) (pz_gN (ρ 0)) (ρ 1 / 4))) ≤ pz_gN (ρ 0) := pz_wd_le F212.1
  have hln : pz_nx (pz_gt (ρ 0)) (pz_gN (ρ 0)) (pz_p (pz_cf (pz_gt (ρ 0)) (pz_gN (ρ 0)) (ρ 1 / 4))) - pz_at (pz_gt (ρ 0)) (pz_gN (ρ 0)) (pz_p (pz_cf (pz_gt (ρ 0)) (pz_gN (ρ 0)) (ρ 1 / 4))) = 4 := F212.2.1
  have ha1 := (pz_ps 0 800 i2b i2c i2d (by decide))
  have hq1 : ρ 3 / 4 = ρ 2 / 4 + 2 := pz_sm (by omega) (by decide) i3b s1
  have hb := F131.2.2 (ρ 3 / 4) (by have := hw.2; omega)
  rw [c_tape] at hb
  have hb := Option.some.inj hb
  rw [show ρ 3 / 4 = pz_at (pz_gt (ρ 0)) (pz_gN (ρ 0)) (pz_p (pz_cf (pz_gt (ρ 0)) (pz_gN (ρ 0)) (ρ 1 / 4))) + 2 by omega] at hb
  have hb2 : pz_b (pz_gt (ρ 0)) (pz_at (pz_gt (ρ 0)) (pz_gN (ρ 0)) (pz_p (pz_cf (pz_gt (ρ 0)) (pz_gN (ρ 0)) (ρ 1 / 4))) + 2) = ρ 4 / 4 := by omega
  refine ⟨(fun y hy => by cases hy), _, List.mem_cons_self, ρ, fun _ _ => rfl, ax_px hE rfl (fun x hx => ?_)⟩
  cases List.mem_singleton.mp hx
  refine (ax_XF_lt (x := 161) (Nat.le_of_ble_eq_true rfl)).mpr ?_
  show pz61 (pz_gt (ρ 0)) (pz_gN (ρ 0)) ((ρ 1) / 4) ((4) / 4)
  refine pz_is_no (Or.inr (Or.inr ⟨2, by decide, fun z => ?_⟩))
  have z2 : ρ 4 / 4 = 110 := hb2.symm.trans z
  omega
theorem axq0_is4a_1_2 : ax_RO ax_wM0 (ax_XM 0) axu0_is4a_1_2 := axqg_is4a_1_2 ax_WW0
theorem axqg_is4b_1_2 {w : ax_W} {b : Nat} (hw : ax_WW w) : ax_RO w (ax_XM b) axu0_is4b_1_2 := by
  intro ρ hp hE hT
  have j0 : ρ 0 % 4 = 1 := pz_gj hE 0 (Nat.le_of_ble_eq_true rfl) rfl
  have j1 : ρ 1 % 4 = 1 := pz_gj hE 1 (Nat.le_of_ble_eq_true rfl) rfl
  obtain ⟨i2a, i2b, i2c, i2d⟩ := pz_gi hE 2 2147483648 2147484448 (Nat.le_of_ble_eq_true rfl) rfl
  obtain ⟨i3a, i3b, i3c, i3d⟩ := pz_gi hE 3 0 4294967295 (Nat.le_of_ble_eq_true rfl) rfl
  obtain ⟨i4a, i4b, i4c, i4d⟩ := pz_gi hE 4 2147483759 2147483775 (Nat.le_of_ble_eq_true rfl) rfl
  have c_at : ay_at hp 173 14 = some (ρ 2) := ay_gfj hE 702 56 11 173 14 ax_m2 (ax_vlq rfl rfl) (ax_vlj rfl rfl)
  have s1 : (ρ 2 / 4 + 2147483648) % 4294967296 + (8 / 4 + 2147483648) % 4294967296 = (ρ 3 / 4 + 2147483648) % 4294967296 + 2147483648 := pz_gs hE 11 8 15 ax_m3
  have c_tape : ay_at hp 183 (ρ 3 / 4) = some (ρ 4) := ay_gf hE 742 15 19 183 ax_m4 (ax_vlq rfl rfl)
  obtain ⟨-, -, F131⟩ : ay_ex hp 173 ∧ ay_ex hp 183 ∧ pz_x30 (ρ 0) (ay_at hp 173 12) (ay_at hp 183) := (ax_XF_lt (x := 131) (Nat.le_of_ble_eq_true rfl)).mp (ax_gx hE (131, [3]) ax_m0)
  obtain ⟨-, F154⟩ : ay_ex hp 173 ∧ ay_ln (ay_at hp 173 14) = pz_at (pz_gt (ρ 0)) (pz_gN (ρ 0)) (pz_p (pz_cF (ρ 0) (ρ 1))) := (ax_XF_lt (x := 154) (Nat.le_of_ble_eq_true rfl)).mp (ax_gx hE (154, [3, 7]) ax_m1)
  rw [c_at] at F154
  have F212 : pz_x62 (ρ 0) (ρ 1) (4004) (8) := (ax_XF_lt (x := 212) (Nat.le_of_ble_eq_true rfl)).mp (ax_gx hE (212, [3, 7, 4004, 8]) ax_m5)
  have ep : ρ 2 / 4 = pz_at (pz_gt (ρ 0)) (pz_gN (ρ 0)) (pz_p (pz_cf (pz_gt (ρ 0)) (pz_gN (ρ 0)) (ρ 1 / 4))) := F154
  have hw : pz_at (pz_gt (ρ 0)) (pz_gN (ρ 0)) (pz_p (pz_cf (pz_gt (ρ 0)) (pz_gN (ρ 0)) (ρ 1 / 4))) < pz_gN (ρ 0) ∧ pz_nx (pz_gt (ρ 0)) (pz_gN (ρ 0)) (pz_p (pz_cf (pz_gt (ρ 0)) (pz_gN (ρ 0)) (ρ 1 / 4))) ≤ pz_gN (ρ 0) := pz_wd_le F212.1
  have hln : pz_nx (pz_gt (ρ 0)) (pz_gN (ρ 0)) (pz_p (pz_cf (pz_gt (ρ 0)) (pz_gN (ρ 0)) (ρ 1 / 4))) - pz_at (pz_gt (ρ 0)) (pz_gN (ρ 0)) (pz_p (pz_cf (pz_gt (ρ 0)) (pz_gN (ρ 0)) (ρ 1 / 4))) = 4 := F212.2.1
  have ha1 := (pz_ps 0 800 i2b i2c i2d (by decide))
  have hq1 : ρ 3 / 4 = ρ 2 / 4 + 2 := pz_sm (by omega) (by decide) i3b s1
  have hb := F131.2.2 (ρ 3 / 4) (by have := hw.2; omega)
  rw [c_tape] at hb
  have hb := Option.some.inj hb
  rw [show ρ 3 / 4 = pz_at (pz_gt (ρ 0)) (pz_gN (ρ 0)) (pz_p (pz_cf (pz_gt (ρ 0)) (pz_gN (ρ 0)) (ρ 1 / 4))) + 2 by omega] at hb
  have hb2 : pz_b (pz_gt (ρ 0)) (pz_at (pz_gt (ρ 0)) (pz_gN (ρ 0)) (pz_p (pz_cf (pz_gt (ρ 0)) (pz_gN (ρ 0)) (ρ 1 / 4))) + 2) = ρ 4 / 4 := by omega
  refine ⟨(fun y hy => by cases hy), _, List.mem_cons_self, ρ, fun _ _ => rfl, ax_px hE rfl (fun x hx => ?_)⟩
  cases List.mem_singleton.mp hx
  refine (ax_XF_lt (x := 161) (Nat.le_of_ble_eq_true rfl)).mpr ?_
  show pz61 (pz_gt (ρ 0)) (pz_gN (ρ 0)) ((ρ 1) / 4) ((4) / 4)
  refine pz_is_no (Or.inr (Or.inr ⟨2, by decide, fun z => ?_⟩))
  have z2 : ρ 4 / 4 = 110 := hb2.symm.trans z
  omega
theorem axq0_is4b_1_2 : ax_RO ax_wM0 (ax_XM 0) axu0_is4b_1_2 := axqg_is4b_1_2 ax_WW0
theorem axqg_is3_1_3 {w : ax_W} {b : Nat} (hw : ax_WW w) : ax_RO w (ax_XM b) axu0_is3_1_3 := by
  intro ρ hp hE hT
  have j0 : ρ 0 % 4 = 1 := pz_gj hE 0 (Nat.le_of_ble_eq_true rfl) rfl
  have j1 : ρ 1 % 4 = 1 := pz_gj hE 1 (Nat.le_of_ble_eq_true rfl) rfl
  obtain ⟨i2a, i2b, i2c, i2d⟩ := pz_gi hE 2 2147483648 2147484448 (Nat.le_of_ble_eq_true rfl) rfl
  obtain ⟨i3a, i3b, i3c, i3d⟩ := pz_gi hE 3 0 4294967295 (Nat.le_of_ble_eq_true rfl) rfl
  obtain ⟨i4a, i4b, i4c, i4d⟩ := pz_gi hE 4 2147483755 2147483755 (Nat.le_of_ble_eq_true rfl) rfl
  have c_at : ay_at hp 173 14 = some (ρ 2) := ay_gfj hE 702 56 11 173 14 ax_m2 (ax_vlq rfl rfl) (ax_vlj rfl rfl)
  have s1 : (ρ 2 / 4 + 2147483648) % 4294967296 + (12 / 4 + 2147483648) % 4294967296 = (ρ 3 / 4 + 2147483648) % 4294967296 + 2147483648 := pz_gs hE 11 12 15 ax_m3
  have c_tape : ay_at hp 183 (ρ 3 / 4) = some (ρ 4) := ay_gf hE 742 15 19 183 ax_m4 (ax_vlq rfl rfl)
  obtain ⟨-, -, F131⟩ : ay_ex hp 173 ∧ ay_ex hp 183 ∧ pz_x30 (ρ 0) (ay_at hp 173 12) (ay_at hp 183) := (ax_XF_lt (x := 131) (Nat.le_of_ble_eq_true rfl)).mp (ax_gx hE (131, [3]) ax_m0)
  obtain ⟨-, F154⟩ : ay_ex hp 173 ∧ ay_ln (ay_at hp 173 14) = pz_at (pz_gt (ρ 0)) (pz_gN (ρ 0)) (pz_p (pz_cF (ρ 0) (ρ 1))) := (ax_XF_lt (x := 154) (Nat.le_of_ble_eq_true rfl)).mp (ax_gx hE (154, [3, 7]) ax_m1)
  rw [c_at] at F154
  have F212 : pz_x62 (ρ 0) (ρ 1) (4004) (12) := (ax_XF_lt (x := 212) (Nat.le_of_ble_eq_true rfl)).mp (ax_gx hE (212, [3, 7, 4004, 12]) ax_m5)
  have ep : ρ 2 / 4 = pz_at (pz_gt (ρ 0)) (pz_gN (ρ 0)) (pz_p (pz_cf (pz_gt (ρ 0)) (pz_gN (ρ 0)) (ρ 1 / 4))) := F154
  have hw : pz_at (pz_gt (ρ 0)) (pz_gN (ρ 0)) (pz_p (pz_cf (pz_gt (ρ 0)) (pz_gN (ρ 0)) (ρ 1 / 4))) < pz_gN (ρ 0) ∧ pz_nx (pz_gt (ρ 0)) (pz_gN (ρ 0)) (pz_p (pz_cf (pz_gt (ρ 0)) (pz_gN (ρ 0)) (ρ 1 / 4))) ≤ pz_gN (ρ 0) := pz_wd_le F212.1
  have hln : pz_nx (pz_gt (ρ 0)) (pz_gN (ρ 0)) (pz_p (pz_cf (pz_gt (ρ 0)) (pz_gN (ρ 0)) (ρ 1 / 4))) - pz_at (pz_gt (ρ 0)) (pz_gN (ρ 0)) (pz_p (pz_cf (pz_gt (ρ 0)) (pz_gN (ρ 0)) (ρ 1 / 4))) = 4 := F212.2.1
  have ha1 := (pz_ps 0 800 i2b i2c i2d (by decide))
  have hq1 : ρ 3 / 4 = ρ 2 / 4 + 3 := pz_sm (by omega) (by decide) i3b s1
  have hb := F131.2.2 (ρ 3 / 4) (by have := hw.2; omega)
  rw [c_tape] at hb
  have hb := Option.some.inj hb
  rw [show ρ 3 / 4 = pz_at (pz_gt (ρ 0)) (pz_gN (ρ 0)) (pz_p (pz_cf (pz_gt (ρ 0)) (pz_gN (ρ 0)) (ρ 1 / 4))) + 3 by omega] at hb
  have hb2 : pz_b (pz_gt (ρ 0)) (pz_at (pz_gt (ρ 0)) (pz_gN (ρ 0)) (pz_p (pz_cf (pz_gt (ρ 0)) (pz_gN (ρ 0)) (ρ 1 / 4))) + 3) = ρ 4 / 4 := by omega
  refine ⟨(fun y hy => by cases hy), _, List.mem_cons_self, ρ, fun _ _ => rfl, ax_px hE rfl (fun x hx => ?_)⟩
  cases List.mem_singleton.mp hx
  refine (ax_XF_lt (x := 212) (Nat.le_of_ble_eq_true rfl)).mpr ?_
  show pz_x62 (ρ 0) (ρ 1) (4004) (16)
  refine ⟨F212.1, F212.2.1, fun i hi => ?_⟩
  replace hi : i < 4 := hi
  by_cases h : i < 3
  · exact F212.2.2 i h
  · have e : i = 3 := by omega
    subst e
    exact hb2.trans (show ρ 4 / 4 = 107 by omega)
theorem axq0_is3_1_3 : ax_RO ax_wM0 (ax_XM 0) axu0_is3_1_3 := axqg_is3_1_3 ax_WW0
theorem axqg_is4a_1_3 {w : ax_W} {b : Nat} (hw : ax_WW w) : ax_RO w (ax_XM b) axu0_is4a_1_3 := by
  intro ρ hp hE hT
  have j0 : ρ 0 % 4 = 1 := pz_gj hE 0 (Nat.le_of_ble_eq_true rfl) rfl
  have j1 : ρ 1 % 4 = 1 := pz_gj hE 1 (Nat.le_of_ble_eq_true rfl) rfl
  obtain ⟨i2a, i2b, i2c, i2d⟩ := pz_gi hE 2 2147483648 2147484448 (Nat.le_of_ble_eq_true rfl) rfl
  obtain ⟨i3a, i3b, i3c, i3d⟩ := pz_gi hE 3 0 4294967295 (Nat.le_of_ble_eq_true rfl) rfl
  obtain ⟨i4a, i4b, i4c, i4d⟩ := pz_gi hE 4 2147483520 2147483754 (Nat.le_of_ble_eq_true rfl) rfl
  have c_at : ay_at hp 173 14 = some (ρ 2) := ay_gfj hE 702 56 11 173 14 ax_m2 (ax_vlq rfl rfl) (ax_vlj rfl rfl)
  have s1 : (ρ 2 / 4 + 2147483648) % 4294967296 + (12 / 4 + 2147483648) % 4294967296 = (ρ 3 / 4 + 2147483648) % 4294967296 + 2147483648 := pz_gs hE 11 12 15 ax_m3
  have c_tape : ay_at hp 183 (ρ 3 / 4) = some (ρ 4) := ay_gf hE 742 15 19 183 ax_m4 (ax_vlq rfl rfl)
  obtain ⟨-, -, F131⟩ : ay_ex hp 173 ∧ ay_ex hp 183 ∧ pz_x30 (ρ 0) (ay_at hp 173 12) (ay_at hp 183) := (ax_XF_lt (x := 131) (Nat.le_of_ble_eq_true rfl)).mp (ax_gx hE (131, [3]) ax_m0)
  obtain ⟨-, F154⟩ : ay_ex hp 173 ∧ ay_ln (ay_at hp 173 14) = pz_at (pz_gt (ρ 0)) (pz_gN (ρ 0)) (pz_p (pz_cF (ρ 0) (ρ 1))) := (ax_XF_lt (x := 154) (Nat.le_of_ble_eq_true rfl)).mp (ax_gx hE (154, [3, 7]) ax_m1)
  rw [c_at] at F154
  have F212 : pz_x62 (ρ 0) (ρ 1) (4004) (12) := (ax_XF_lt (x := 212) (Nat.le_of_ble_eq_true rfl)).mp (ax_gx hE (212, [3, 7, 4004, 12]) ax_m5)
  have ep : ρ 2 / 4 = pz_at (pz_gt (ρ 0)) (pz_gN (ρ 0)) (pz_p (pz_cf (pz_gt (ρ 0)) (pz_gN (ρ 0)) (ρ 1 / 4))) := F154
  have hw : pz_at (pz_gt (ρ 0)) (pz_gN (ρ 0)) (pz_p (pz_cf (pz_gt (ρ 0)) (pz_gN (ρ 0)) (ρ 1 / 4))) < pz_gN (ρ 0) ∧ pz_nx (pz_gt (ρ 0)) (pz_gN (ρ 0)) (pz_p (pz_cf (pz_gt (ρ 0)) (pz_gN (ρ 0)) (ρ 1 / 4))) ≤ pz_gN (ρ 0) := pz_wd_le F212.1
  have hln : pz_nx (pz_gt (ρ 0)) (pz_gN (ρ 0)) (pz_p (pz_cf (pz_gt (ρ 0)) (pz_gN (ρ 0)) (ρ 1 / 4))) - pz_at (pz_gt (ρ 0)) (pz_gN (ρ 0)) (pz_p (pz_cf (pz_gt (ρ 0)) (pz_gN (ρ 0)) (ρ 1 / 4))) = 4 := F212.2.1
  have ha1 := (pz_ps 0 800 i2b i2c i2d (by decide))
  have hq1 : ρ 3 / 4 = ρ 2 / 4 + 3 := pz_sm (by omega) (by decide) i3b s1
  have hb := F131.2.2 (ρ 3 / 4) (by have := hw.2; omega)
  rw [c_tape] at hb
  have hb := Option.some.inj hb
  rw [show ρ 3 / 4 = pz_at (pz_gt (ρ 0)) (pz_gN (ρ 0)) (pz_p (pz_cf (pz_gt (ρ 0)) (pz_gN (ρ 0)) (ρ 1 / 4))) + 3 by omega] at hb
  have hb2 : pz_b (pz_gt (ρ 0)) (pz_at (pz_gt (ρ 0)) (pz_gN (ρ 0)) (pz_p (pz_cf (pz_gt (ρ 0)) (pz_gN (ρ 0)) (ρ 1 / 4))) + 3) = ρ 4 / 4 := by omega
  refine ⟨(fun y hy => by cases hy), _, List.mem_cons_self, ρ, fun _ _ => rfl, ax_px hE rfl (fun x hx => ?_)⟩
  cases List.mem_singleton.mp hx
  refine (ax_XF_lt (x := 161) (Nat.le_of_ble_eq_true rfl)).mpr ?_
  show pz61 (pz_gt (ρ 0)) (pz_gN (ρ 0)) ((ρ 1) / 4) ((4) / 4)
  refine pz_is_no (Or.inr (Or.inr ⟨3, by decide, fun z => ?_⟩))
  have z2 : ρ 4 / 4 = 107 := hb2.symm.trans z
  omega
theorem axq0_is4a_1_3 : ax_RO ax_wM0 (ax_XM 0) axu0_is4a_1_3 := axqg_is4a_1_3 ax_WW0
theorem axqg_is4b_1_3 {w : ax_W} {b : Nat} (hw : ax_WW w) : ax_RO w (ax_XM b) axu0_is4b_1_3 := by
  intro ρ hp hE hT
  have j0 : ρ 0 % 4 = 1 := pz_gj hE 0 (Nat.le_of_ble_eq_true rfl) rfl
  have j1 : ρ 1 % 4 = 1 := pz_gj hE 1 (Nat.le_of_ble_eq_true rfl) rfl
  obtain ⟨i2a, i2b, i2c, i2d⟩ := pz_gi hE 2 2147483648 2147484448 (Nat.le_of_ble_eq_true rfl) rfl
  obtain ⟨i3a, i3b, i3c, i3d⟩ := pz_gi hE 3 0 4294967295 (Nat.le_of_ble_eq_true rfl) rfl
  obtain ⟨i4a, i4b, i4c, i4d⟩ := pz_gi hE 4 2147483756 2147483775 (Nat.le_of_ble_eq_true rfl) rfl
  have c_at : ay_at hp 173 14 = some (ρ 2) := ay_gfj hE 702 56 11 173 14 ax_m2 (ax_vlq rfl rfl) (ax_vlj rfl rfl)
  have s1 : (ρ 2 / 4 + 2147483648) % 4294967296 + (12 / 4 + 2147483648) % 4294967296 = (ρ 3 / 4 + 2147483648) % 4294967296 + 2147483648 := pz_gs hE 11 12 15 ax_m3
  have c_tape : ay_at hp 183 (ρ 3 / 4) = some (ρ 4) := ay_gf hE 742 15 19 183 ax_m4 (ax_vlq rfl rfl)
  obtain ⟨-, -, F131⟩ : ay_ex hp 173 ∧ ay_ex hp 183 ∧ pz_x30 (ρ 0) (ay_at hp 173 12) (ay_at hp 183) := (ax_XF_lt (x := 131) (Nat.le_of_ble_eq_true rfl)).mp (ax_gx hE (131, [3]) ax_m0)
  obtain ⟨-, F154⟩ : ay_ex hp 173 ∧ ay_ln (ay_at hp 173 14) = pz_at (pz_gt (ρ 0)) (pz_gN (ρ 0)) (pz_p (pz_cF (ρ 0) (ρ 1))) := (ax_XF_lt (x := 154) (Nat.le_of_ble_eq_true rfl)).mp (ax_gx hE (154, [3, 7]) ax_m1)
  rw [c_at] at F154
  have F212 : pz_x62 (ρ 0) (ρ 1) (4004) (12) := (ax_XF_lt (x := 212) (Nat.le_of_ble_eq_true rfl)).mp (ax_gx hE (212, [3, 7, 4004, 12]) ax_m5)
  have ep : ρ 2 / 4 = pz_at (pz_gt (ρ 0)) (pz_gN (ρ 0)) (pz_p (pz_cf (pz_gt (ρ 0)) (pz_gN (ρ 0)) (ρ 1 / 4))) := F154
  have hw : pz_at (pz_gt (ρ 0)) (pz_gN (ρ 0)) (pz_p (pz_cf (pz_gt (ρ 0)) (pz_gN (ρ 0)) (ρ 1 / 4))) < pz_gN (ρ 0) ∧ pz_nx (pz_gt (ρ 0)) (pz_gN (ρ 0)) (pz_p (pz_cf (pz_gt (ρ 0)) (pz_gN (ρ 0)) (ρ 1 / 4))) ≤ pz_gN (ρ 0) := pz_wd_le F212.1
  have hln : pz_nx (pz_gt (ρ 0)) (pz_gN (ρ 0)) (pz_p (pz_cf (pz_gt (ρ 0)) (pz_gN (ρ 0)) (ρ 1 / 4))) - pz_at (pz_gt (ρ 0)) (pz_gN (ρ 0)) (pz_p (pz_cf (pz_gt (ρ 0)) (pz_gN (ρ 0)) (ρ 1 / 4))) = 4 := F212.2.1
  have ha1 := (pz_ps 0 800 i2b i2c i2d (by decide))
  have hq1 : ρ 3 / 4 = ρ 2 / 4 + 3 := pz_sm (by omega) (by decide) i3b s1
  have hb := F131.2.2 (ρ 3 / 4) (by have := hw.2; omega)
  rw [c_tape] at hb
  have hb := Option.some.inj hb
  rw [show ρ 3 / 4 = pz_at (pz_gt (ρ 0)) (pz_gN (ρ 0)) (pz_p (pz_cf (pz_gt (ρ 0)) (pz_gN (ρ 0)) (ρ 1 / 4))) + 3 by omega] at hb
  have hb2 : pz_b (pz_gt (ρ 0)) (pz_at (pz_gt (ρ 0)) (pz_gN (ρ 0)) (pz_p (pz_cf (pz_gt (ρ 0)) (pz_gN (ρ 0)) (ρ 1 / 4))) + 3) = ρ 4 / 4 := by omega
  refine ⟨(fun y hy => by cases hy), _, List.mem_cons_self, ρ, fun _ _ => rfl, ax_px hE rfl (fun x hx => ?_)⟩
  cases List.mem_singleton.mp hx
  refine (ax_XF_lt (x := 161) (Nat.le_of_ble_eq_true rfl)).mpr ?_
  show pz61 (pz_gt (ρ 0)) (pz_gN (ρ 0)) ((ρ 1) / 4) ((4) / 4)
  refine pz_is_no (Or.inr (Or.inr ⟨3, by decide, fun z => ?_⟩))
  have z2 : ρ 4 / 4 = 107 := hb2.symm.trans z
  omega
theorem axq0_is4b_1_3 : ax_RO ax_wM0 (ax_XM 0) axu0_is4b_1_3 := axqg_is4b_1_3 ax_WW0
