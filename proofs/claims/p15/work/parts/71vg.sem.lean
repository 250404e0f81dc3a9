theorem axqg_ia3a_47 {w : ax_W} {b : Nat} (hw : ax_WW w) : ax_RO w (ax_XM b) axu0_ia3a_47 := by
  intro ρ hp hE hT
  have j0 : ρ 0 % 4 = 1 := pz_gj hE 0 (Nat.le_of_ble_eq_true rfl) rfl
  have j1 : ρ 1 % 4 = 1 := pz_gj hE 1 (Nat.le_of_ble_eq_true rfl) rfl
  obtain ⟨i2a, i2b, i2c, i2d⟩ := pz_gi hE 2 2147483648 2147484448 (Nat.le_of_ble_eq_true rfl) rfl
  obtain ⟨i3a, i3b, i3c, i3d⟩ := pz_gi hE 3 2147483648 2147484448 (Nat.le_of_ble_eq_true rfl) rfl
  obtain ⟨i4a, i4b, i4c, i4d⟩ := pz_gi hE 4 2147483520 2147483694 (Nat.le_of_ble_eq_true rfl) rfl
  have c_at : ay_at hp 173 14 = some (ρ 2) := ay_gfj hE 702 56 11 173 14 ax_m2 (ax_vlq rfl rfl) (ax_vlj rfl rfl)
  have c_size : ay_at hp 173 12 = some (ρ 3) := ay_gfj hE 702 48 15 173 12 ax_m3 (ax_vlq rfl rfl) (ax_vlj rfl rfl)
  have r1 : (ρ 2 / 4 + 2147483648) % 4294967296 < (ρ 3 / 4 + 2147483648) % 4294967296 := pz_gc hE 2 11 15 (Nat.le_of_ble_eq_true rfl) ax_m4
  have c_tape : ay_at hp 183 (ρ 2 / 4) = some (ρ 4) := ay_gf hE 742 11 19 183 ax_m5 (ax_vlq rfl rfl)
  obtain ⟨-, -, F131⟩ : ay_ex hp 173 ∧ ay_ex hp 183 ∧ pz_x30 (ρ 0) (ay_at hp 173 12) (ay_at hp 183) := (ax_XF_lt (x := 131) (Nat.le_of_ble_eq_true rfl)).mp (ax_gx hE (131, [3]) ax_m0)
  rw [c_size] at F131
  obtain ⟨-, -, -, -, -, F151⟩ : ay_ex hp 173 ∧ ay_ex hp 173 ∧ ay_ex hp 173 ∧ ay_ex hp 173 ∧ ay_ex hp 173 ∧ pz_y151 (ρ 0) (ρ 1) (ay_at hp 173 13) (ay_at hp 173 14) (ay_at hp 173 15) (ay_at hp 173 16) (ay_at hp 173 17) := (ax_XF_lt (x := 151) (Nat.le_of_ble_eq_true rfl)).mp (ax_gx hE (151, [3, 7]) ax_m1)
  rw [c_at] at F151
  have hb : ρ 2 / 4 < pz_gN (ρ 0) → pz_b (pz_gt (ρ 0)) (ρ 2 / 4) = ρ 4 / 4 := fun hl => by
    have e := F131.2.2 (ρ 2 / 4) hl
    rw [c_tape] at e
    have e := Option.some.inj e
    omega
  have hN : ρ 3 / 4 = pz_gN (ρ 0) := F131.1
  have hlt : ρ 2 / 4 < pz_gN (ρ 0) := by omega
  have e1 : ρ 2 / 4 = pz_at (pz_gt (ρ 0)) (pz_gN (ρ 0)) (pz_p (pz_cf (pz_gt (ρ 0)) (pz_gN (ρ 0)) (ρ 1 / 4))) := F151.2.1
  refine ⟨(fun y hy => by cases hy), _, List.mem_cons_self, ρ, fun _ _ => rfl, ax_px hE rfl (fun x hx => ?_)⟩
  cases List.mem_singleton.mp hx
  refine (ax_XF_lt (x := 169) (Nat.le_of_ble_eq_true rfl)).mpr ?_
  show pz_kd (pz_gt (ρ 0)) (pz_gN (ρ 0)) (pz_p (pz_cF (ρ 0) (ρ 1))) ≠ (188) / 4
  show pz_kd (pz_gt (ρ 0)) (pz_gN (ρ 0)) (pz_p (pz_cf (pz_gt (ρ 0)) (pz_gN (ρ 0)) (ρ 1 / 4))) ≠ 47
  intro z
  have e := (pz_kd4 (show 4 ≤ pz_kd (pz_gt (ρ 0)) (pz_gN (ρ 0)) (pz_p (pz_cf (pz_gt (ρ 0)) (pz_gN (ρ 0)) (ρ 1 / 4))) by omega)).2
  rw [← e1, hb hlt] at e
  omega
theorem axq0_ia3a_47 : ax_RO ax_wM0 (ax_XM 0) axu0_ia3a_47 := axqg_ia3a_47 ax_WW0
theorem axqg_ia3b_47 {w : ax_W} {b : Nat} (hw : ax_WW w) : ax_RO w (ax_XM b) axu0_ia3b_47 := by
  intro ρ hp hE hT
  have j0 : ρ 0 % 4 = 1 := pz_gj hE 0 (Nat.le_of_ble_eq_true rfl) rfl
  have j1 : ρ 1 % 4 = 1 := pz_gj hE 1 (Nat.le_of_ble_eq_true rfl) rfl
  obtain ⟨i2a, i2b, i2c, i2d⟩ := pz_gi hE 2 2147483648 2147484448 (Nat.le_of_ble_eq_true rfl) rfl
  obtain ⟨i3a, i3b, i3c, i3d⟩ := pz_gi hE 3 2147483648 2147484448 (Nat.le_of_ble_eq_true rfl) rfl
  obtain ⟨i4a, i4b, i4c, i4d⟩ := pz_gi hE 4 2147483696 2147483775 (Nat.le_of_ble_eq_true rfl) rfl
  have c_at : ay_at hp 173 14 = some (ρ 2) := ay_gfj hE 702 56 11 173 14 ax_m2 (ax_vlq rfl rfl) (ax_vlj rfl rfl)
  have c_size : ay_at hp 173 12 = some (ρ 3) := ay_gfj hE 702 48 15 173 12 ax_m3 (ax_vlq rfl rfl) (ax_vlj rfl rfl)
  have r1 : (ρ 2 / 4 + 2147483648) % 4294967296 < (ρ 3 / 4 + 2147483648) % 4294967296 := pz_gc hE 2 11 15 (Nat.le_of_ble_eq_true rfl) ax_m4
  have c_tape : ay_at hp 183 (ρ 2 / 4) = some (ρ 4) := ay_gf hE 742 11 19 183 ax_m5 (ax_vlq rfl rfl)
  obtain ⟨-, -, F131⟩ : ay_ex hp 173 ∧ ay_ex hp 183 ∧ pz_x30 (ρ 0) (ay_at hp 173 12) (ay_at hp 183) := (ax_XF_lt (x := 131) (Nat.le_of_ble_eq_true rfl)).mp (ax_gx hE (131, [3]) ax_m0)
  rw [c_size] at F131
  obtain ⟨-, -, -, -, -, F151⟩ : ay_ex hp 173 ∧ ay_ex hp 173 ∧ ay_ex hp 173 ∧ ay_ex hp 173 ∧ ay_ex hp 173 ∧ pz_y151 (ρ 0) (ρ 1) (ay_at hp 173 13) (ay_at hp 173 14) (ay_at hp 173 15) (ay_at hp 173 16) (ay_at hp 173 17) := (ax_XF_lt (x := 151) (Nat.le_of_ble_eq_true rfl)).mp (ax_gx hE (151, [3, 7]) ax_m1)
  rw [c_at] at F151
  have hb : ρ 2 / 4 < pz_gN (ρ 0) → pz_b (pz_gt (ρ 0)) (ρ 2 / 4) = ρ 4 / 4 := fun hl => by
    have e := F131.2.2 (ρ 2 / 4) hl
    rw [c_tape] at e
    have e := Option.some.inj e
    omega
  have hN : ρ 3 / 4 = pz_gN (ρ 0) := F131.1
  have hlt : ρ 2 / 4 < pz_gN (ρ 0) := by omega
  have e1 : ρ 2 / 4 = pz_at (pz_gt (ρ 0)) (pz_gN (ρ 0)) (pz_p (pz_cf (pz_gt (ρ 0)) (pz_gN (ρ 0)) (ρ 1 / 4))) := F151.2.1
  refine ⟨(fun y hy => by cases hy), _, List.mem_cons_self, ρ, fun _ _ => rfl, ax_px hE rfl (fun x hx => ?_)⟩
  cases List.mem_singleton.mp hx
  refine (ax_XF_lt (x := 169) (Nat.le_of_ble_eq_true rfl)).mpr ?_
  show pz_kd (pz_gt (ρ 0)) (pz_gN (ρ 0)) (pz_p (pz_cF (ρ 0) (ρ 1))) ≠ (188) / 4
  show pz_kd (pz_gt (ρ 0)) (pz_gN (ρ 0)) (pz_p (pz_cf (pz_gt (ρ 0)) (pz_gN (ρ 0)) (ρ 1 / 4))) ≠ 47
  intro z
  have e := (pz_kd4 (show 4 ≤ pz_kd (pz_gt (ρ 0)) (pz_gN (ρ 0)) (pz_p (pz_cf (pz_gt (ρ 0)) (pz_gN (ρ 0)) (ρ 1 / 4))) by omega)).2
  rw [← e1, hb hlt] at e
  omega
theorem axq0_ia3b_47 : ax_RO ax_wM0 (ax_XM 0) axu0_ia3b_47 := axqg_ia3b_47 ax_WW0
theorem axqg_ia4_47 {w : ax_W} {b : Nat} (hw : ax_WW w) : ax_RO w (ax_XM b) axu0_ia4_47 := by
  intro ρ hp hE hT
  have j0 : ρ 0 % 4 = 1 := pz_gj hE 0 (Nat.le_of_ble_eq_true rfl) rfl
  have j1 : ρ 1 % 4 = 1 := pz_gj hE 1 (Nat.le_of_ble_eq_true rfl) rfl
  obtain ⟨i2a, i2b, i2c, i2d⟩ := pz_gi hE 2 2147483648 2147484448 (Nat.le_of_ble_eq_true rfl) rfl
  obtain ⟨i3a, i3b, i3c, i3d⟩ := pz_gi hE 3 2147483648 2147484448 (Nat.le_of_ble_eq_true rfl) rfl
  have c_at : ay_at hp 173 14 = some (ρ 2) := ay_gfj hE 702 56 11 173 14 ax_m2 (ax_vlq rfl rfl) (ax_vlj rfl rfl)
  have c_size : ay_at hp 173 12 = some (ρ 3) := ay_gfj hE 702 48 15 173 12 ax_m3 (ax_vlq rfl rfl) (ax_vlj rfl rfl)
  have r1 : (ρ 3 / 4 + 2147483648) % 4294967296 ≤ (ρ 2 / 4 + 2147483648) % 4294967296 := pz_gc hE 3 11 15 (Nat.le_of_ble_eq_true rfl) ax_m4
  obtain ⟨-, -, F131⟩ : ay_ex hp 173 ∧ ay_ex hp 183 ∧ pz_x30 (ρ 0) (ay_at hp 173 12) (ay_at hp 183) := (ax_XF_lt (x := 131) (Nat.le_of_ble_eq_true rfl)).mp (ax_gx hE (131, [3]) ax_m0)
  rw [c_size] at F131
  obtain ⟨-, -, -, -, -, F151⟩ : ay_ex hp 173 ∧ ay_ex hp 173 ∧ ay_ex hp 173 ∧ ay_ex hp 173 ∧ ay_ex hp 173 ∧ pz_y151 (ρ 0) (ρ 1) (ay_at hp 173 13) (ay_at hp 173 14) (ay_at hp 173 15) (ay_at hp 173 16) (ay_at hp 173 17) := (ax_XF_lt (x := 151) (Nat.le_of_ble_eq_true rfl)).mp (ax_gx hE (151, [3, 7]) ax_m1)
  rw [c_at] at F151
  have hN : ρ 3 / 4 = pz_gN (ρ 0) := F131.1
  have e1 : ρ 2 / 4 = pz_at (pz_gt (ρ 0)) (pz_gN (ρ 0)) (pz_p (pz_cf (pz_gt (ρ 0)) (pz_gN (ρ 0)) (ρ 1 / 4))) := F151.2.1
  have k1 := (pz_kd_end (t := pz_gt (ρ 0)) (N := pz_gN (ρ 0)) (p := pz_p (pz_cf (pz_gt (ρ 0)) (pz_gN (ρ 0)) (ρ 1 / 4))) (by omega)).1
  refine ⟨(fun y hy => by cases hy), _, List.mem_cons_self, ρ, fun _ _ => rfl, ax_px hE rfl (fun x hx => ?_)⟩
  cases List.mem_singleton.mp hx
  refine (ax_XF_lt (x := 169) (Nat.le_of_ble_eq_true rfl)).mpr ?_
  show pz_kd (pz_gt (ρ 0)) (pz_gN (ρ 0)) (pz_p (pz_cF (ρ 0) (ρ 1))) ≠ (188) / 4
  show pz_kd (pz_gt (ρ 0)) (pz_gN (ρ 0)) (pz_p (pz_cf (pz_gt (ρ 0)) (pz_gN (ρ 0)) (ρ 1 / 4))) ≠ 47
  intro z
  rw [k1] at z
  cases z
theorem axq0_ia4_47 : ax_RO ax_wM0 (ax_XM 0) axu0_ia4_47 := axqg_ia4_47 ax_WW0
theorem axqg_ia1_37 {w : ax_W} {b : Nat} (hw : ax_WW w) : ax_RO w (ax_XM b) axu0_ia1_37 := by
  intro ρ hp hE hT
  have j0 : ρ 0 % 4 = 1 := pz_gj hE 0 (Nat.le_of_ble_eq_true rfl) rfl
  have j1 : ρ 1 % 4 = 1 := pz_gj hE 1 (Nat.le_of_ble_eq_true rfl) rfl
  obtain ⟨i2a, i2b, i2c, i2d⟩ := pz_gi hE 2 2147483652 2147483652 (Nat.le_of_ble_eq_true rfl) rfl
  obtain ⟨i3a, i3b, i3c, i3d⟩ := pz_gi hE 3 2147483648 2147484448 (Nat.le_of_ble_eq_true rfl) rfl
  obtain ⟨i4a, i4b, i4c, i4d⟩ := pz_gi hE 4 2147483648 2147484448 (Nat.le_of_ble_eq_true rfl) rfl
  obtain ⟨i5a, i5b, i5c, i5d⟩ := pz_gi hE 5 2147483685 2147483685 (Nat.le_of_ble_eq_true rfl) rfl
  have c_token : ay_at hp 173 15 = some (ρ 2) := ay_gfj hE 702 60 11 173 15 ax_m2 (ax_vlq rfl rfl) (ax_vlj rfl rfl)
  have c_at : ay_at hp 173 14 = some (ρ 3) := ay_gfj hE 702 56 15 173 14 ax_m3 (ax_vlq rfl rfl) (ax_vlj rfl rfl)
  have c_size : ay_at hp 173 12 = some (ρ 4) := ay_gfj hE 702 48 19 173 12 ax_m4 (ax_vlq rfl rfl) (ax_vlj rfl rfl)
  have r1 : (ρ 3 / 4 + 2147483648) % 4294967296 < (ρ 4 / 4 + 2147483648) % 4294967296 := pz_gc hE 2 15 19 (Nat.le_of_ble_eq_true rfl) ax_m5
  have c_tape : ay_at hp 183 (ρ 3 / 4) = some (ρ 5) := ay_gf hE 742 15 23 183 ax_m6 (ax_vlq rfl rfl)
  obtain ⟨-, -, F131⟩ : ay_ex hp 173 ∧ ay_ex hp 183 ∧ pz_x30 (ρ 0) (ay_at hp 173 12) (ay_at hp 183) := (ax_XF_lt (x := 131) (Nat.le_of_ble_eq_true rfl)).mp (ax_gx hE (131, [3]) ax_m0)
  rw [c_size] at F131
  obtain ⟨-, -, -, -, -, F151⟩ : ay_ex hp 173 ∧ ay_ex hp 173 ∧ ay_ex hp 173 ∧ ay_ex hp 173 ∧ ay_ex hp 173 ∧ pz_y151 (ρ 0) (ρ 1) (ay_at hp 173 13) (ay_at hp 173 14) (ay_at hp 173 15) (ay_at hp 173 16) (ay_at hp 173 17) := (ax_XF_lt (x := 151) (Nat.le_of_ble_eq_true rfl)).mp (ax_gx hE (151, [3, 7]) ax_m1)
  rw [c_token] at F151
  rw [c_at] at F151
  have ht : ρ 2 / 4 = pz_tok (pz_kd (pz_gt (ρ 0)) (pz_gN (ρ 0)) (pz_p (pz_cf (pz_gt (ρ 0)) (pz_gN (ρ 0)) (ρ 1 / 4)))) := F151.2.2.1
  have hc := pz_tok_c (pz_kd (pz_gt (ρ 0)) (pz_gN (ρ 0)) (pz_p (pz_cf (pz_gt (ρ 0)) (pz_gN (ρ 0)) (ρ 1 / 4))))
  have hk : 4 ≤ pz_kd (pz_gt (ρ 0)) (pz_gN (ρ 0)) (pz_p (pz_cf (pz_gt (ρ 0)) (pz_gN (ρ 0)) (ρ 1 / 4))) := (by rcases hc with h | h | h | h | h <;> omega)
  have hb : ρ 3 / 4 < pz_gN (ρ 0) → pz_b (pz_gt (ρ 0)) (ρ 3 / 4) = ρ 5 / 4 := fun hl => by
    have e := F131.2.2 (ρ 3 / 4) hl
    rw [c_tape] at e
    have e := Option.some.inj e
    omega
  have hN : ρ 4 / 4 = pz_gN (ρ 0) := F131.1
  have hlt : ρ 3 / 4 < pz_gN (ρ 0) := by omega
  have e1 : ρ 3 / 4 = pz_at (pz_gt (ρ 0)) (pz_gN (ρ 0)) (pz_p (pz_cf (pz_gt (ρ 0)) (pz_gN (ρ 0)) (ρ 1 / 4))) := F151.2.1
  have e := (pz_kd4 hk).2
  rw [← e1, hb hlt] at e
  refine ⟨(fun y hy => by cases hy), _, List.mem_cons_self, ρ, fun _ _ => rfl, ax_px hE rfl (fun x hx => ?_)⟩
  cases List.mem_singleton.mp hx
  refine (ax_XF_lt (x := 168) (Nat.le_of_ble_eq_true rfl)).mpr ?_
  show pz_kd (pz_gt (ρ 0)) (pz_gN (ρ 0)) (pz_p (pz_cF (ρ 0) (ρ 1))) = (148) / 4
  show pz_kd (pz_gt (ρ 0)) (pz_gN (ρ 0)) (pz_p (pz_cf (pz_gt (ρ 0)) (pz_gN (ρ 0)) (ρ 1 / 4))) = 37
  omega
theorem axq0_ia1_37 : ax_RO ax_wM0 (ax_XM 0) axu0_ia1_37 := axqg_ia1_37 ax_WW0
theorem axqg_ia2a_37 {w : ax_W} {b : Nat} (hw : ax_WW w) : ax_RO w (ax_XM b) axu0_ia2a_37 := by
  intro ρ hp hE hT
  have j0 : ρ 0 % 4 = 1 := pz_gj hE 0 (Nat.le_of_ble_eq_true rfl) rfl
  have j1 : ρ 1 % 4 = 1 := pz_gj hE 1 (Nat.le_of_ble_eq_true rfl) rfl
  obtain ⟨i2a, i2b, i2c, i2d⟩ := pz_gi hE 2 0 2147483651 (Nat.le_of_ble_eq_true rfl) rfl
  have c_token : ay_at hp 173 15 = some (ρ 2) := ay_gfj hE 702 60 11 173 15 ax_m2 (ax_vlq rfl rfl) (ax_vlj rfl rfl)
  obtain ⟨-, -, F131⟩ : ay_ex hp 173 ∧ ay_ex hp 183 ∧ pz_x30 (ρ 0) (ay_at hp 173 12) (ay_at hp 183) := (ax_XF_lt (x := 131) (Nat.le_of_ble_eq_true rfl)).mp (ax_gx hE (131, [3]) ax_m0)
  obtain ⟨-, -, -, -, -, F151⟩ : ay_ex hp 173 ∧ ay_ex hp 173 ∧ ay_ex hp 173 ∧ ay_ex hp 173 ∧ ay_ex hp 173 ∧ pz_y151 (ρ 0) (ρ 1) (ay_at hp 173 13) (ay_at hp 173 14) (ay_at hp 173 15) (ay_at hp 173 16) (ay_at hp 173 17) := (ax_XF_lt (x := 151) (Nat.le_of_ble_eq_true rfl)).mp (ax_gx hE (151, [3, 7]) ax_m1)
  rw [c_token] at F151
  have ht : ρ 2 / 4 = pz_tok (pz_kd (pz_gt (ρ 0)) (pz_gN (ρ 0)) (pz_p (pz_cf (pz_gt (ρ 0)) (pz_gN (ρ 0)) (ρ 1 / 4)))) := F151.2.2.1
  have hc := pz_tok_c (pz_kd (pz_gt (ρ 0)) (pz_gN (ρ 0)) (pz_p (pz_cf (pz_gt (ρ 0)) (pz_gN (ρ 0)) (ρ 1 / 4))))
  refine ⟨(fun y hy => by cases hy), _, List.mem_cons_self, ρ, fun _ _ => rfl, ax_px hE rfl (fun x hx => ?_)⟩
  cases List.mem_singleton.mp hx
  refine (ax_XF_lt (x := 169) (Nat.le_of_ble_eq_true rfl)).mpr ?_
  show pz_kd (pz_gt (ρ 0)) (pz_gN (ρ 0)) (pz_p (pz_cF (ρ 0) (ρ 1))) ≠ (148) / 4
  show pz_kd (pz_gt (ρ 0)) (pz_gN (ρ 0)) (pz_p (pz_cf (pz_gt (ρ 0)) (pz_gN (ρ 0)) (ρ 1 / 4))) ≠ 37
  intro z
  rcases hc with h | h | h | h | h <;> omega
theorem axq0_ia2a_37 : ax_RO ax_wM0 (ax_XM 0) axu0_ia2a_37 := axqg_ia2a_37 ax_WW0
theorem axqg_ia2b_37 {w : ax_W} {b : Nat} (hw : ax_WW w) : ax_RO w (ax_XM b) axu0_ia2b_37 := by
  intro ρ hp hE hT
  have j0 : ρ 0 % 4 = 1 := pz_gj hE 0 (Nat.le_of_ble_eq_true rfl) rfl
  have j1 : ρ 1 % 4 = 1 := pz_gj hE 1 (Nat.le_of_ble_eq_true rfl) rfl
  obtain ⟨i2a, i2b, i2c, i2d⟩ := pz_gi hE 2 2147483653 4294967295 (Nat.le_of_ble_eq_true rfl) rfl
  have c_token : ay_at hp 173 15 = some (ρ 2) := ay_gfj hE 702 60 11 173 15 ax_m2 (ax_vlq rfl rfl) (ax_vlj rfl rfl)
  obtain ⟨-, -, F131⟩ : ay_ex hp 173 ∧ ay_ex hp 183 ∧ pz_x30 (ρ 0) (ay_at hp 173 12) (ay_at hp 183) := (ax_XF_lt (x := 131) (Nat.le_of_ble_eq_true rfl)).mp (ax_gx hE (131, [3]) ax_m0)
  obtain ⟨-, -, -, -, -, F151⟩ : ay_ex hp 173 ∧ ay_ex hp 173 ∧ ay_ex hp 173 ∧ ay_ex hp 173 ∧ ay_ex hp 173 ∧ pz_y151 (ρ 0) (ρ 1) (ay_at hp 173 13) (ay_at hp 173 14) (ay_at hp 173 15) (ay_at hp 173 16) (ay_at hp 173 17) := (ax_XF_lt (x := 151) (Nat.le_of_ble_eq_true rfl)).mp (ax_gx hE (151, [3, 7]) ax_m1)
  rw [c_token] at F151
  have ht : ρ 2 / 4 = pz_tok (pz_kd (pz_gt (ρ 0)) (pz_gN (ρ 0)) (pz_p (pz_cf (pz_gt (ρ 0)) (pz_gN (ρ 0)) (ρ 1 / 4)))) := F151.2.2.1
  have hc := pz_tok_c (pz_kd (pz_gt (ρ 0)) (pz_gN (ρ 0)) (pz_p (pz_cf (pz_gt (ρ 0)) (pz_gN (ρ 0)) (ρ 1 / 4))))
  refine ⟨(fun y hy => by cases hy), _, List.mem_cons_self, ρ, fun _ _ => rfl, ax_px hE rfl (fun x hx => ?_)⟩
  cases List.mem_singleton.mp hx
  refine (ax_XF_lt (x := 169) (Nat.le_of_ble_eq_true rfl)).mpr ?_
  show pz_kd (pz_gt (ρ 0)) (pz_gN (ρ 0)) (pz_p (pz_cF (ρ 0) (ρ 1))) ≠ (148) / 4
  show pz_kd (pz_gt (ρ 0)) (pz_gN (ρ 0)) (pz_p (pz_cf (pz_gt (ρ 0)) (pz_gN (ρ 0)) (ρ 1 / 4))) ≠ 37
  intro z
  rcases hc with h | h | h | h | h <;> omega
theorem axq0_ia2b_37 : ax_RO ax_wM0 (ax_XM 0) axu0_ia2b_37 := axqg_ia2b_37 ax_WW0
theorem axqg_ia3a_37 {w : ax_W} {b : Nat} (hw : ax_WW w) : ax_RO w (ax_XM b) axu0_ia3a_37 := by
  intro ρ hp hE hT
  have j0 : ρ 0 % 4 = 1 := pz_gj hE 0 (Nat.le_of_ble_eq_true rfl) rfl
  have j1 : ρ 1 % 4 = 1 := pz_gj hE 1 (Nat.le_of_ble_eq_true rfl) rfl
  obtain ⟨i2a, i2b, i2c, i2d⟩ := pz_gi hE 2 2147483648 2147484448 (Nat.le_of_ble_eq_true rfl) rfl
  obtain ⟨i3a, i3b, i3c, i3d⟩ := pz_gi hE 3 2147483648 2147484448 (Nat.le_of_ble_eq_true rfl) rfl
  obtain ⟨i4a, i4b, i4c, i4d⟩ := pz_gi hE 4 2147483520 2147483684 (Nat.le_of_ble_eq_true rfl) rfl
  have c_at : ay_at hp 173 14 = some (ρ 2) := ay_gfj hE 702 56 11 173 14 ax_m2 (ax_vlq rfl rfl) (ax_vlj rfl rfl)
  have c_size : ay_at hp 173 12 = some (ρ 3) := ay_gfj hE 702 48 15 173 12 ax_m3 (ax_vlq rfl rfl) (ax_vlj rfl rfl)
  have r1 : (ρ 2 / 4 + 2147483648) % 4294967296 < (ρ 3 / 4 + 2147483648) % 4294967296 := pz_gc hE 2 11 15 (Nat.le_of_ble_eq_true rfl) ax_m4
  have c_tape : ay_at hp 183 (ρ 2 / 4) = some (ρ 4) := ay_gf hE 742 11 19 183 ax_m5 (ax_vlq rfl rfl)
  obtain ⟨-, -, F131⟩ : ay_ex hp 173 ∧ ay_ex hp 183 ∧ pz_x30 (ρ 0) (ay_at hp 173 12) (ay_at hp 183) := (ax_XF_lt (x := 131) (Nat.le_of_ble_eq_true rfl)).mp (ax_gx hE (131, [3]) ax_m0)
  rw [c_size] at F131
  obtain ⟨-, -, -, -, -, F151⟩ : ay_ex hp 173 ∧ ay_ex hp 173 ∧ ay_ex hp 173 ∧ ay_ex hp 173 ∧ ay_ex hp 173 ∧ pz_y151 (ρ 0) (ρ 1) (ay_at hp 173 13) (ay_at hp 173 14) (ay_at hp 173 15) (ay_at hp 173 16) (ay_at hp 173 17) := (ax_XF_lt (x := 151) (Nat.le_of_ble_eq_true rfl)).mp (ax_gx hE (151, [3, 7]) ax_m1)
  rw [c_at] at F151
  have hb : ρ 2 / 4 < pz_gN (ρ 0) → pz_b (pz_gt (ρ 0)) (ρ 2 / 4) = ρ 4 / 4 := fun hl => by
    have e := F131.2.2 (ρ 2 / 4) hl
    rw [c_tape] at e
    have e := Option.some.inj e
    omega
  have hN : ρ 3 / 4 = pz_gN (ρ 0) := F131.1
  have hlt : ρ 2 / 4 < pz_gN (ρ 0) := by omega
  have e1 : ρ 2 / 4 = pz_at (pz_gt (ρ 0)) (pz_gN (ρ 0)) (pz_p (pz_cf (pz_gt (ρ 0)) (pz_gN (ρ 0)) (ρ 1 / 4))) := F151.2.1
  refine ⟨(fun y hy => by cases hy), _, List.mem_cons_self, ρ, fun _ _ => rfl, ax_px hE rfl (fun x hx => ?_)⟩
  cases List.mem_singleton.mp hx
  refine (ax_XF_lt (x := 169) (Nat.le_of_ble_eq_true rfl)).mpr ?_
  show pz_kd (pz_gt (ρ 0)) (pz_gN (ρ 0)) (pz_p (pz_cF (ρ 0) (ρ 1))) ≠ (148) / 4
  show pz_kd (pz_gt (ρ 0)) (pz_gN (ρ 0)) (pz_p (pz_cf (pz_gt (ρ 0)) (pz_gN (ρ 0)) (ρ 1 / 4))) ≠ 37
  intro z
  have e := (pz_kd4 (show 4 ≤ pz_kd (pz_gt (ρ 0)) (pz_gN (ρ 0)) (pz_p (pz_cf (pz_gt (ρ 0)) (pz_gN (ρ 0)) (ρ 1 / 4))) by omega)).2
  rw [← e1, hb hlt] at e
  omega
theorem axq0_ia3a_37 : ax_RO ax_wM0 (ax_XM 0) axu0_ia3a_37 := axqg_ia3a_37 ax_WW0
theorem axqg_ia3b_37 {w : ax_W} {b : Nat} (hw : ax_WW w) : ax_RO w (ax_XM b) axu0_ia3b_37 := by
  intro ρ hp hE hT
  have j0 : ρ 0 % 4 = 1 := pz_gj hE 0 (Nat.le_of_ble_eq_true rfl) rfl
  have j1 : ρ 1 % 4 = 1 := pz_gj hE 1 (Nat.le_of_ble_eq_true rfl) rfl
  obtain ⟨i2a, i2b, i2c, i2d⟩ := pz_gi hE 2 2147483648 2147484448 (Nat.le_of_ble_eq_true rfl) rfl
  obtain ⟨i3a, i3b, i3c, i3d⟩ := pz_gi hE 3 2147483648 2147484448 (Nat.le_of_ble_eq_true rfl) rfl
  obtain ⟨i4a, i4b, i4c, i4d⟩ := pz_gi hE 4 2147483686 2147483775 (Nat.le_of_ble_eq_true rfl) rfl
  have c_at : ay_at hp 173 14 = some (ρ 2) := ay_gfj hE 702 56 11 173 14 ax_m2 (ax_vlq rfl rfl) (ax_vlj rfl rfl)
  have c_size : ay_at hp 173 12 = some (ρ 3) := ay_gfj hE 702 48 15 173 12 ax_m3 (ax_vlq rfl rfl) (ax_vlj rfl rfl)
  have r1 : (ρ 2 / 4 + 2147483648) % 4294967296 < (ρ 3 / 4 + 2147483648) % 4294967296 := pz_gc hE 2 11 15 (Nat.le_of_ble_eq_true rfl) ax_m4
  have c_tape : ay_at hp 183 (ρ 2 / 4) = some (ρ 4) := ay_gf hE 742 11 19 183 ax_m5 (ax_vlq rfl rfl)
  obtain ⟨-, -, F131⟩ : ay_ex hp 173 ∧ ay_ex hp 183 ∧ pz_x30 (ρ 0) (ay_at hp 173 12) (ay_at hp 183) := (ax_XF_lt (x := 131) (Nat.le_of_ble_eq_true rfl)).mp (ax_gx hE (131, [3]) ax_m0)
  rw [c_size] at F131
  obtain ⟨-, -, -, -, -, F151⟩ : ay_ex hp 173 ∧ ay_ex hp 173 ∧ ay_ex hp 173 ∧ ay_ex hp 173 ∧ ay_ex hp 173 ∧ pz_y151 (ρ 0) (ρ 1) (ay_at hp 173 13) (ay_at hp 173 14) (ay_at hp 173 15) (ay_at hp 173 16) (ay_at hp 173 17) := (ax_XF_lt (x := 151) (Nat.le_of_ble_eq_true rfl)).mp (ax_gx hE (151, [3, 7]) ax_m1)
  rw [c_at] at F151
  have hb : ρ 2 / 4 < pz_gN (ρ 0) → pz_b (pz_gt (ρ 0)) (ρ 2 / 4) = ρ 4 / 4 := fun hl => by
    have e := F131.2.2 (ρ 2 / 4) hl
    rw [c_tape] at e
    have e := Option.some.inj e
    omega
  have hN : ρ 3 / 4 = pz_gN (ρ 0) := F131.1
  have hlt : ρ 2 / 4 < pz_gN (ρ 0) := by omega
  have e1 : ρ 2 / 4 = pz_at (pz_gt (ρ 0)) (pz_gN (ρ 0)) (pz_p (pz_cf (pz_gt (ρ 0)) (pz_gN (ρ 0)) (ρ 1 / 4))) := F151.2.1
  refine ⟨(fun y hy => by cases hy), _, List.mem_cons_self, ρ, fun _ _ => rfl, ax_px hE rfl (fun x hx => ?_)⟩
  cases List.mem_singleton.mp hx
  refine (ax_XF_lt (x := 169) (Nat.le_of_ble_eq_true rfl)).mpr ?_
  show pz_kd (pz_gt (ρ 0)) (pz_gN (ρ 0)) (pz_p (pz_cF (ρ 0) (ρ 1))) ≠ (148) / 4
  show pz_kd (pz_gt (ρ 0)) (pz_gN (ρ 0)) (pz_p (pz_cf (pz_gt (ρ 0)) (pz_gN (ρ 0)) (ρ 1 / 4))) ≠ 37
  intro z
  have e := (pz_kd4 (show 4 ≤ pz_kd (pz_gt (ρ 0)) (pz_gN (ρ 0)) (pz_p (pz_cf (pz_gt (ρ 0)) (pz_gN (ρ 0)) (ρ 1 / 4))) by omega)).2
  rw [← e1, hb hlt] at e
  omega
theorem axq0_ia3b_37 : ax_RO ax_wM0 (ax_XM 0) axu0_ia3b_37 := axqg_ia3b_37 ax_WW0
theorem axqg_ia4_37 {w : ax_W} {b : Nat} (hw : ax_WW w) : ax_RO w (ax_XM b) axu0_ia4_37 := by
  intro ρ hp hE hT
  have j0 : ρ 0 % 4 = 1 := pz_gj hE 0 (Nat.le_of_ble_eq_true rfl) rfl
  have j1 : ρ 1 % 4 = 1 := pz_gj hE 1 (Nat.le_of_ble_eq_true rfl) rfl
  obtain ⟨i2a, i2b, i2c, i2d⟩ := pz_gi hE 2 2147483648 2147484448 (Nat.le_of_ble_eq_true rfl) rfl
  obtain ⟨i3a, i3b, i3c, i3d⟩ := pz_gi hE 3 2147483648 2147484448 (Nat.le_of_ble_eq_true rfl) rfl
  have c_at : ay_at hp 173 14 = some (ρ 2) := ay_gfj hE 702 56 11 173 14 ax_m2 (ax_vlq rfl rfl) (ax_vlj rfl rfl)
  have c_size : ay_at hp 173 12 = some (ρ 3) := ay_gfj hE 702 48 15 173 12 ax_m3 (ax_vlq rfl rfl) (ax_vlj rfl rfl)
  have r1 : (ρ 3 / 4 + 2147483648) % 4294967296 ≤ (ρ 2 / 4 + 2147483648) % 4294967296 := pz_gc hE 3 11 15 (Nat.le_of_ble_eq_true rfl) ax_m4
  obtain ⟨-, -, F131⟩ : ay_ex hp 173 ∧ ay_ex hp 183 ∧ pz_x30 (ρ 0) (ay_at hp 173 12) (ay_at hp 183) := (ax_XF_lt (x := 131) (Nat.le_of_ble_eq_true rfl)).mp (ax_gx hE (131, [3]) ax_m0)
  rw [c_size] at F131
  obtain ⟨-, -, -, -, -, F151⟩ : ay_ex hp 173 ∧ ay_ex hp 173 ∧ ay_ex hp 173 ∧ ay_ex hp 173 ∧ ay_ex hp 173 ∧ pz_y151 (ρ 0) (ρ 1) (ay_at hp 173 13) (ay_at hp 173 14) (ay_at hp 173 15) (ay_at hp 173 16) (ay_at hp 173 17) := (ax_XF_lt (x := 151) (Nat.le_of_ble_eq_true rfl)).mp (ax_gx hE (151, [3, 7]) ax_m1)
  rw [c_at] at F151
  have hN : ρ 3 / 4 = pz_gN (ρ 0) := F131.1
  have e1 : ρ 2 / 4 = pz_at (pz_gt (ρ 0)) (pz_gN (ρ 0)) (pz_p (pz_cf (pz_gt (ρ 0)) (pz_gN (ρ 0)) (ρ 1 / 4))) := F151.2.1
  have k1 := (pz_kd_end (t := pz_gt (ρ 0)) (N := pz_gN (ρ 0)) (p := pz_p (pz_cf (pz_gt (ρ 0)) (pz_gN (ρ 0)) (ρ 1 / 4))) (by omega)).1
  refine ⟨(fun y hy => by cases hy), _, List.mem_cons_self, ρ, fun _ _ => rfl, ax_px hE rfl (fun x hx => ?_)⟩
  cases List.mem_singleton.mp hx
  refine (ax_XF_lt (x := 169) (Nat.le_of_ble_eq_true rfl)).mpr ?_
  show pz_kd (pz_gt (ρ 0)) (pz_gN (ρ 0)) (pz_p (pz_cF (ρ 0) (ρ 1))) ≠ (148) / 4
  show pz_kd (pz_gt (ρ 0)) (pz_gN (ρ 0)) (pz_p (pz_cf (pz_gt (ρ 0)) (pz_gN (ρ 0)) (ρ 1 / 4))) ≠ 37
  intro z
  rw [k1] at z
  cases z
theorem axq0_ia4_37 : ax_RO ax_wM0 (ax_XM 0) axu0_ia4_37 := axqg_ia4_37 ax_WW0
theorem axqg_iv1_0 {w : ax_W} {b : Nat} (hw : ax_WW w) : ax_RO w (ax_XM b) axu0_iv1_0 := by
  intro ρ hp hE hT
  have j0 : ρ 0 % 4 = 1 := pz_gj hE 0 (Nat.le_of_ble_eq_true rfl) rfl
  have j1 : ρ 1 % 4 = 1 := pz_gj hE 1 (Nat.le_of_ble_eq_true rfl) rfl
  obtain ⟨i2a, i2b, i2c, i2d⟩ := pz_gi hE 2 2147483650 2147483650 (Nat.le_of_ble_eq_true rfl) rfl
  obtain ⟨i3a, i3b, i3c, i3d⟩ := pz_gi hE 3 2147483648 2147483648 (Nat.le_of_ble_eq_true rfl) rfl
  have c_token : ay_at hp 173 15 = some (ρ 2) := ay_gfj hE 702 60 11 173 15 ax_m1 (ax_vlq rfl rfl) (ax_vlj rfl rfl)
  have c_word : ay_at hp 173 17 = some (ρ 3) := ay_gfj hE 702 68 15 173 17 ax_m2 (ax_vlq rfl rfl) (ax_vlj rfl rfl)
  obtain ⟨-, -, -, -, -, F151⟩ : ay_ex hp 173 ∧ ay_ex hp 173 ∧ ay_ex hp 173 ∧ ay_ex hp 173 ∧ ay_ex hp 173 ∧ pz_y151 (ρ 0) (ρ 1) (ay_at hp 173 13) (ay_at hp 173 14) (ay_at hp 173 15) (ay_at hp 173 16) (ay_at hp 173 17) := (ax_XF_lt (x := 151) (Nat.le_of_ble_eq_true rfl)).mp (ax_gx hE (151, [3, 7]) ax_m0)
  rw [c_token] at F151
  rw [c_word] at F151
  have ht : ρ 2 / 4 = pz_tok (pz_kd (pz_gt (ρ 0)) (pz_gN (ρ 0)) (pz_p (pz_cf (pz_gt (ρ 0)) (pz_gN (ρ 0)) (ρ 1 / 4)))) := F151.2.2.1
  have hc := pz_tok_c (pz_kd (pz_gt (ρ 0)) (pz_gN (ρ 0)) (pz_p (pz_cf (pz_gt (ρ 0)) (pz_gN (ρ 0)) (ρ 1 / 4))))
  have hk : pz_kd (pz_gt (ρ 0)) (pz_gN (ρ 0)) (pz_p (pz_cf (pz_gt (ρ 0)) (pz_gN (ρ 0)) (ρ 1 / 4))) = 1 := (by rcases hc with h | h | h | h | h <;> omega)
  have hw : ρ 3 / 4 = pz_wix (pz_gt (ρ 0)) (pz_gN (ρ 0)) (pz_p (pz_cf (pz_gt (ρ 0)) (pz_gN (ρ 0)) (ρ 1 / 4))) := F151.2.2.2.2 hk
  refine ⟨(fun y hy => by cases hy), _, List.mem_cons_self, ρ, fun _ _ => rfl, ax_px hE rfl (fun x hx => ?_)⟩
  cases List.mem_singleton.mp hx
  refine (ax_XF_lt (x := 160) (Nat.le_of_ble_eq_true rfl)).mpr ?_
  show pz60 (pz_gt (ρ 0)) (pz_gN (ρ 0)) ((ρ 1) / 4) ((0) / 4)
  exact pz_wix_1 (k := 0) (by decide) (by omega)
theorem axq0_iv1_0 : ax_RO ax_wM0 (ax_XM 0) axu0_iv1_0 := axqg_iv1_0 ax_WW0
theorem axqg_iv2a_0 {w : ax_W} {b : Nat} (hw : ax_WW w) : ax_RO w (ax_XM b) axu0_iv2a_0 := by
  intro ρ hp hE hT
  have j0 : ρ 0 % 4 = 1 := pz_gj hE 0 (Nat.le_of_ble_eq_true rfl) rfl
  have j1 : ρ 1 % 4 = 1 := pz_gj hE 1 (Nat.le_of_ble_eq_true rfl) rfl
  obtain ⟨i2a, i2b, i2c, i2d⟩ := pz_gi hE 2 0 2147483649 (Nat.le_of_ble_eq_true rfl) rfl
  have c_token : ay_at hp 173 15 = some (ρ 2) := ay_gfj hE 702 60 11 173 15 ax_m1 (ax_vlq rfl rfl) (ax_vlj rfl rfl)
  obtain ⟨-, -, -, -, -, F151⟩ : ay_ex hp 173 ∧ ay_ex hp 173 ∧ ay_ex hp 173 ∧ ay_ex hp 173 ∧ ay_ex hp 173 ∧ pz_y151 (ρ 0) (ρ 1) (ay_at hp 173 13) (ay_at hp 173 14) (ay_at hp 173 15) (ay_at hp 173 16) (ay_at hp 173 17) := (ax_XF_lt (x := 151) (Nat.le_of_ble_eq_true rfl)).mp (ax_gx hE (151, [3, 7]) ax_m0)
  rw [c_token] at F151
  have ht : ρ 2 / 4 = pz_tok (pz_kd (pz_gt (ρ 0)) (pz_gN (ρ 0)) (pz_p (pz_cf (pz_gt (ρ 0)) (pz_gN (ρ 0)) (ρ 1 / 4)))) := F151.2.2.1
  have hc := pz_tok_c (pz_kd (pz_gt (ρ 0)) (pz_gN (ρ 0)) (pz_p (pz_cf (pz_gt (ρ 0)) (pz_gN (ρ 0)) (ρ 1 / 4))))
  have hk : pz_kd (pz_gt (ρ 0)) (pz_gN (ρ 0)) (pz_p (pz_cf (pz_gt (ρ 0)) (pz_gN (ρ 0)) (ρ 1 / 4))) ≠ 1 := (by rcases hc with h | h | h | h | h <;> omega)
  refine ⟨(fun y hy => by cases hy), _, List.mem_cons_self, ρ, fun _ _ => rfl, ax_px hE rfl (fun x hx => ?_)⟩
  cases List.mem_singleton.mp hx
  refine (ax_XF_lt (x := 161) (Nat.le_of_ble_eq_true rfl)).mpr ?_
  show pz61 (pz_gt (ρ 0)) (pz_gN (ρ 0)) ((ρ 1) / 4) ((0) / 4)
  exact pz_wd_no hk
theorem axq0_iv2a_0 : ax_RO ax_wM0 (ax_XM 0) axu0_iv2a_0 := axqg_iv2a_0 ax_WW0
theorem axqg_iv2b_0 {w : ax_W} {b : Nat} (hw : ax_WW w) : ax_RO w (ax_XM b) axu0_iv2b_0 := by
  intro ρ hp hE hT
  have j0 : ρ 0 % 4 = 1 := pz_gj hE 0 (Nat.le_of_ble_eq_true rfl) rfl
  have j1 : ρ 1 % 4 = 1 := pz_gj hE 1 (Nat.le_of_ble_eq_true rfl) rfl
  obtain ⟨i2a, i2b, i2c, i2d⟩ := pz_gi hE 2 2147483651 4294967295 (Nat.le_of_ble_eq_true rfl) rfl
  have c_token : ay_at hp 173 15 = some (ρ 2) := ay_gfj hE 702 60 11 173 15 ax_m1 (ax_vlq rfl rfl) (ax_vlj rfl rfl)
  obtain ⟨-, -, -, -, -, F151⟩ : ay_ex hp 173 ∧ ay_ex hp 173 ∧ ay_ex hp 173 ∧ ay_ex hp 173 ∧ ay_ex hp 173 ∧ pz_y151 (ρ 0) (ρ 1) (ay_at hp 173 13) (ay_at hp 173 14) (ay_at hp 173 15) (ay_at hp 173 16) (ay_at hp 173 17) := (ax_XF_lt (x := 151) (Nat.le_of_ble_eq_true rfl)).mp (ax_gx hE (151, [3, 7]) ax_m0)
  rw [c_token] at F151
  have ht : ρ 2 / 4 = pz_tok (pz_kd (pz_gt (ρ 0)) (pz_gN (ρ 0)) (pz_p (pz_cf (pz_gt (ρ 0)) (pz_gN (ρ 0)) (ρ 1 / 4)))) := F151.2.2.1
  have hc := pz_tok_c (pz_kd (pz_gt (ρ 0)) (pz_gN (ρ 0)) (pz_p (pz_cf (pz_gt (ρ 0)) (pz_gN (ρ 0)) (ρ 1 / 4))))
  have hk : pz_kd (pz_gt (ρ 0)) (pz_gN (ρ 0)) (pz_p (pz_cf (pz_gt (ρ 0)) (pz_gN (ρ 0)) (ρ 1 / 4))) ≠ 1 := (by rcases hc with h | h | h | h | h <;> omega)
  refine ⟨(fun y hy => by cases hy), _, List.mem_cons_self, ρ, fun _ _ => rfl, ax_px hE rfl (fun x hx => ?_)⟩
  cases List.mem_singleton.mp hx
  refine (ax_XF_lt (x := 161) (Nat.le_of_ble_eq_true rfl)).mpr ?_
  show pz61 (pz_gt (ρ 0)) (pz_gN (ρ 0)) ((ρ 1) / 4) ((0) / 4)
  exact pz_wd_no hk
theorem axq0_iv2b_0 : ax_RO ax_wM0 (ax_XM 0) axu0_iv2b_0 := axqg_iv2b_0 ax_WW0
theorem axqg_iv3a_0 {w : ax_W} {b : Nat} (hw : ax_WW w) : ax_RO w (ax_XM b) axu0_iv3a_0 := by
  intro ρ hp hE hT
  have j0 : ρ 0 % 4 = 1 := pz_gj hE 0 (Nat.le_of_ble_eq_true rfl) rfl
  have j1 : ρ 1 % 4 = 1 := pz_gj hE 1 (Nat.le_of_ble_eq_true rfl) rfl
  obtain ⟨i2a, i2b, i2c, i2d⟩ := pz_gi hE 2 0 2147483647 (Nat.le_of_ble_eq_true rfl) rfl
  have c_word : ay_at hp 173 17 = some (ρ 2) := ay_gfj hE 702 68 11 173 17 ax_m1 (ax_vlq rfl rfl) (ax_vlj rfl rfl)
  obtain ⟨-, -, -, -, -, F151⟩ : ay_ex hp 173 ∧ ay_ex hp 173 ∧ ay_ex hp 173 ∧ ay_ex hp 173 ∧ ay_ex hp 173 ∧ pz_y151 (ρ 0) (ρ 1) (ay_at hp 173 13) (ay_at hp 173 14) (ay_at hp 173 15) (ay_at hp 173 16) (ay_at hp 173 17) := (ax_XF_lt (x := 151) (Nat.le_of_ble_eq_true rfl)).mp (ax_gx hE (151, [3, 7]) ax_m0)
  rw [c_word] at F151
  refine ⟨(fun y hy => by cases hy), _, List.mem_cons_self, ρ, fun _ _ => rfl, ax_px hE rfl (fun x hx => ?_)⟩
  cases List.mem_singleton.mp hx
  refine (ax_XF_lt (x := 161) (Nat.le_of_ble_eq_true rfl)).mpr ?_
  show pz61 (pz_gt (ρ 0)) (pz_gN (ρ 0)) ((ρ 1) / 4) ((0) / 4)
  by_cases hk : pz_kd (pz_gt (ρ 0)) (pz_gN (ρ 0)) (pz_p (pz_cf (pz_gt (ρ 0)) (pz_gN (ρ 0)) (ρ 1 / 4))) = 1
  · have hw : ρ 2 / 4 = pz_wix (pz_gt (ρ 0)) (pz_gN (ρ 0)) (pz_p (pz_cf (pz_gt (ρ 0)) (pz_gN (ρ 0)) (ρ 1 / 4))) := F151.2.2.2.2 hk
    exact pz_wix_2 (k := 0) (by decide) (by omega)
  · exact pz_wd_no hk
theorem axq0_iv3a_0 : ax_RO ax_wM0 (ax_XM 0) axu0_iv3a_0 := axqg_iv3a_0 ax_WW0
theorem axqg_iv3b_0 {w : ax_W} {b : Nat} (hw : ax_WW w) : ax_RO w (ax_XM b) axu0_iv3b_0 := by
  intro ρ hp hE hT
  have j0 : ρ 0 % 4 = 1 := pz_gj hE 0 (Nat.le_of_ble_eq_true rfl) rfl
  have j1 : ρ 1 % 4 = 1 := pz_gj hE 1 (Nat.le_of_ble_eq_true rfl) rfl
  obtain ⟨i2a, i2b, i2c, i2d⟩ := pz_gi hE 2 2147483649 4294967295 (Nat.le_of_ble_eq_true rfl) rfl
  have c_word : ay_at hp 173 17 = some (ρ 2) := ay_gfj hE 702 68 11 173 17 ax_m1 (ax_vlq rfl rfl) (ax_vlj rfl rfl)
  obtain ⟨-, -, -, -, -, F151⟩ : ay_ex hp 173 ∧ ay_ex hp 173 ∧ ay_ex hp 173 ∧ ay_ex hp 173 ∧ ay_ex hp 173 ∧ pz_y151 (ρ 0) (ρ 1) (ay_at hp 173 13) (ay_at hp 173 14) (ay_at hp 173 15) (ay_at hp 173 16) (ay_at hp 173 17) := (ax_XF_lt (x := 151) (Nat.le_of_ble_eq_true rfl)).mp (ax_gx hE (151, [3, 7]) ax_m0)
  rw [c_word] at F151
  refine ⟨(fun y hy => by cases hy), _, List.mem_cons_self, ρ, fun _ _ => rfl, ax_px hE rfl (fun x hx => ?_)⟩
  cases List.mem_singleton.mp hx
  refine (ax_XF_lt (x := 161) (Nat.le_of_ble_eq_true rfl)).mpr ?_
  show pz61 (pz_gt (ρ 0)) (pz_gN (ρ 0)) ((ρ 1) / 4) ((0) / 4)
  by_cases hk : pz_kd (pz_gt (ρ 0)) (pz_gN (ρ 0)) (pz_p (pz_cf (pz_gt (ρ 0)) (pz_gN (ρ 0)) (ρ 1 / 4))) = 1
  · have hw : ρ 2 / 4 = pz_wix (pz_gt (ρ 0)) (pz_gN (ρ 0)) (pz_p (pz_cf (pz_gt (ρ 0)) (pz_gN (ρ 0)) (ρ 1 / 4))) := F151.2.2.2.2 hk
    exact pz_wix_2 (k := 0) (by decide) (by omega)
  · exact pz_wd_no hk
theorem axq0_iv3b_0 : ax_RO ax_wM0 (ax_XM 0) axu0_iv3b_0 := axqg_iv3b_0 ax_WW0
theorem axqg_iv1_1 {w : ax_W} {b : Nat} (hw : ax_WW w) : ax_RO w (ax_XM b) axu0_iv1_1 := by
  intro ρ hp hE hT
  have j0 : ρ 0 % 4 = 1 := pz_gj hE 0 (Nat.le_of_ble_eq_true rfl) rfl
  have j1 : ρ 1 % 4 = 1 := pz_gj hE 1 (Nat.le_of_ble_eq_true rfl) rfl
  obtain ⟨i2a, i2b, i2c, i2d⟩ := pz_gi hE 2 2147483650 2147483650 (Nat.le_of_ble_eq_true rfl) rfl
  obtain ⟨i3a, i3b, i3c, i3d⟩ := pz_gi hE 3 2147483649 2147483649 (Nat.le_of_ble_eq_true rfl) rfl
  have c_token : ay_at hp 173 15 = some (ρ 2) := ay_gfj hE 702 60 11 173 15 ax_m1 (ax_vlq rfl rfl) (ax_vlj rfl rfl)
  have c_word : ay_at hp 173 17 = some (ρ 3) := ay_gfj hE 702 68 15 173 17 ax_m2 (ax_vlq rfl rfl) (ax_vlj rfl rfl)
  obtain ⟨-, -, -, -, -, F151⟩ : ay_ex hp 173 ∧ ay_ex hp 173 ∧ ay_ex hp 173 ∧ ay_ex hp 173 ∧ ay_ex hp 173 ∧ pz_y151 (ρ 0) (ρ 1) (ay_at hp 173 13) (ay_at hp 173 14) (ay_at hp 173 15) (ay_at hp 173 16) (ay_at hp 173 17) := (ax_XF_lt (x := 151) (Nat.le_of_ble_eq_true rfl)).mp (ax_gx hE (151, [3, 7]) ax_m0)
  rw [c_token] at F151
  rw [c_word] at F151
  have ht : ρ 2 / 4 = pz_tok (pz_kd (pz_gt (ρ 0)) (pz_gN (ρ 0)) (pz_p (pz_cf (pz_gt (ρ 0)) (pz_gN (ρ 0)) (ρ 1 / 4)))) := F151.2.2.1
  have hc := pz_tok_c (pz_kd (pz_gt (ρ 0)) (pz_gN (ρ 0)) (pz_p (pz_cf (pz_gt (ρ 0)) (pz_gN (ρ 0)) (ρ 1 / 4))))
  have hk : pz_kd (pz_gt (ρ 0)) (pz_gN (ρ 0)) (pz_p (pz_cf (pz_gt (ρ 0)) (pz_gN (ρ 0)) (ρ 1 / 4))) = 1 := (by rcases hc with h | h | h | h | h <;> omega)
  have hw : ρ 3 / 4 = pz_wix (pz_gt (ρ 0)) (pz_gN (ρ 0)) (pz_p (pz_cf (pz_gt (ρ 0)) (pz_gN (ρ 0)) (ρ 1 / 4))) := F151.2.2.2.2 hk
  refine ⟨(fun y hy => by cases hy), _, List.mem_cons_self, ρ, fun _ _ => rfl, ax_px hE rfl (fun x hx => ?_)⟩
  cases List.mem_singleton.mp hx
  refine (ax_XF_lt (x := 160) (Nat.le_of_ble_eq_true rfl)).mpr ?_
  show pz60 (pz_gt (ρ 0)) (pz_gN (ρ 0)) ((ρ 1) / 4) ((4) / 4)
  exact pz_wix_1 (k := 1) (by decide) (by omega)
theorem axq0_iv1_1 : ax_RO ax_wM0 (ax_XM 0) axu0_iv1_1 := axqg_iv1_1 ax_WW0
theorem axqg_iv2a_1 {w : ax_W} {b : Nat} (hw : ax_WW w) : ax_RO w (ax_XM b) axu0_iv2a_1 := by
  intro ρ hp hE hT
  have j0 : ρ 0 % 4 = 1 := pz_gj hE 0 (Nat.le_of_ble_eq_true rfl) rfl
  have j1 : ρ 1 % 4 = 1 := pz_gj hE 1 (Nat.le_of_ble_eq_true rfl) rfl
  obtain ⟨i2a, i2b, i2c, i2d⟩ := pz_gi hE 2 0 2147483649 (Nat.le_of_ble_eq_true rfl) rfl
  have c_token : ay_at hp 173 15 = some (ρ 2) := ay_gfj hE 702 60 11 173 15 ax_m1 (ax_vlq rfl rfl) (ax_vlj rfl rfl)
  obtain ⟨-, -, -, -, -, F151⟩ : ay_ex hp 173 ∧ ay_ex hp 173 ∧ ay_ex hp 173 ∧ ay_ex hp 173 ∧ ay_ex hp 173 ∧ pz_y151 (ρ 0) (ρ 1) (ay_at hp 173 13) (ay_at hp 173 14) (ay_at hp 173 15) (ay_at hp 173 16) (ay_at hp 173 17) := (ax_XF_lt (x := 151) (Nat.le_of_ble_eq_true rfl)).mp (ax_gx hE (151, [3, 7]) ax_m0)
  rw [c_token] at F151
  have ht : ρ 2 / 4 = pz_tok (pz_kd (pz_gt (ρ 0)) (pz_gN (ρ 0)) (pz_p (pz_cf (pz_gt (ρ 0)) (pz_gN (ρ 0)) (ρ 1 / 4)))) := F151.2.2.1
  have hc := pz_tok_c (pz_kd (pz_gt (ρ 0)) (pz_gN (ρ 0)) (pz_p (pz_cf (pz_gt (ρ 0)) (pz_gN (ρ 0)) (ρ 1 / 4))))
  have hk : pz_kd (pz_gt (ρ 0)) (pz_gN (ρ 0)) (pz_p (pz_cf (pz_gt (ρ 0)) (pz_gN (ρ 0)) (ρ 1 / 4))) ≠ 1 := (by rcases hc with h | h | h | h | h <;> omega)
  refine ⟨(fun y hy => by cases hy), _, List.mem_cons_self, ρ, fun _ _ => rfl, ax_px hE rfl (fun x hx => ?_)⟩
  cases List.mem_singleton.mp hx
  refine (ax_XF_lt (x := 161) (Nat.le_of_ble_eq_true rfl)).mpr ?_
  show pz61 (pz_gt (ρ 0)) (pz_gN (ρ 0)) ((ρ 1) / 4) ((4) / 4)
  exact pz_wd_no hk
theorem axq0_iv2a_1 : ax_RO ax_wM0 (ax_XM 0) axu0_iv2a_1 := axqg_iv2a_1 ax_WW0
theorem axqg_iv2b_1 {w : ax_W} {b : Nat} (hw : ax_WW w) : ax_RO w (ax_XM b) axu0_iv2b_1 := by
  intro ρ hp hE hT
  have j0 : ρ 0 % 4 = 1 := pz_gj hE 0 (Nat.le_of_ble_eq_true rfl) rfl
  have j1 : ρ 1 % 4 = 1 := pz_gj hE 1 (Nat.le_of_ble_eq_true rfl) rfl
  obtain ⟨i2a, i2b, i2c, i2d⟩ := pz_gi hE 2 2147483651 4294967295 (Nat.le_of_ble_eq_true rfl) rfl
  have c_token : ay_at hp 173 15 = some (ρ 2) := ay_gfj hE 702 60 11 173 15 ax_m1 (ax_vlq rfl rfl) (ax_vlj rfl rfl)
  obtain ⟨-, -, -, -, -, F151⟩ : ay_ex hp 173 ∧ ay_ex hp 173 ∧ ay_ex hp 173 ∧ ay_ex hp 173 ∧ ay_ex hp 173 ∧ pz_y151 (ρ 0) (ρ 1) (ay_at hp 173 13) (ay_at hp 173 14) (ay_at hp 173 15) (ay_at hp 173 16) (ay_at hp 173 17) := (ax_XF_lt (x := 151) (Nat.le_of_ble_eq_true rfl)).mp (ax_gx hE (151, [3, 7]) ax_m0)
  rw [c_token] at F151
  have ht : ρ 2 / 4 = pz_tok (pz_kd (pz_gt (ρ 0)) (pz_gN (ρ 0)) (pz_p (pz_cf (pz_gt (ρ 0)) (pz_gN (ρ 0)) (ρ 1 / 4)))) := F151.2.2.1
  have hc := pz_tok_c (pz_kd (pz_gt (ρ 0)) (pz_gN (ρ 0)) (pz_p (pz_cf (pz_gt (ρ 0)) (pz_gN (ρ 0)) (ρ 1 / 4))))
  have hk : pz_kd (pz_gt (ρ 0)) (pz_gN (ρ 0)) (pz_p (pz_cf (pz_gt (ρ 0)) (pz_gN (ρ 0)) (ρ 1 / 4))) ≠ 1 := (by rcases hc with h | h | h | h | h <;> omega)
  refine ⟨(fun y hy => by cases hy), _, List.mem_cons_self, ρ, fun _ _ => rfl, ax_px hE rfl (fun x hx => ?_)⟩
  cases List.mem_singleton.mp hx
  refine (ax_XF_lt (x := 161) (Nat.le_of_ble_eq_true rfl)).mpr ?_
  show pz61 (pz_gt (ρ 0)) (pz_gN (ρ 0)) ((ρ 1) / 4) ((4) / 4)
  exact pz_wd_no hk
theorem axq0_iv2b_1 : ax_RO ax_wM0 (ax_XM 0) axu0_iv2b_1 := axqg_iv2b_1 ax_WW0
theorem axqg_iv3a_1 {w : ax_W} {b : Nat} (hw : ax_WW w) : ax_RO w (ax_XM b) axu0_iv3a_1 := by
  intro ρ hp hE hT
  have j0 : ρ 0 % 4 = 1 := pz_gj hE 0 (Nat.le_of_ble_eq_true rfl) rfl
  have j1 : ρ 1 % 4 = 1 := pz_gj hE 1 (Nat.le_of_ble_eq_true rfl) rfl
  obtain ⟨i2a, i2b, i2c, i2d⟩ := pz_gi hE 2 0 2147483648 (Nat.le_of_ble_eq_true rfl) rfl
  have c_word : ay_at hp 173 17 = some (ρ 2) := ay_gfj hE 702 68 11 173 17 ax_m1 (ax_vlq rfl rfl) (ax_vlj rfl rfl)
  obtain ⟨-, -, -, -, -, F151⟩ : ay_ex hp 173 ∧ ay_ex hp 173 ∧ ay_ex hp 173 ∧ ay_ex hp 173 ∧ ay_ex hp 173 ∧ pz_y151 (ρ 0) (ρ 1) (ay_at hp 173 13) (ay_at hp 173 14) (ay_at hp 173 15) (ay_at hp 173 16) (ay_at hp 173 17) := (ax_XF_lt (x := 151) (Nat.le_of_ble_eq_true rfl)).mp (ax_gx hE (151, [3, 7]) ax_m0)
  rw [c_word] at F151
  refine ⟨(fun y hy => by cases hy), _, List.mem_cons_self, ρ, fun _ _ => rfl, ax_px hE rfl (fun x hx => ?_)⟩
  cases List.mem_singleton.mp hx
  refine (ax_XF_lt (x := 161) (Nat.le_of_ble_eq_true rfl)).mpr ?_
  show pz61 (pz_gt (ρ 0)) (pz_gN (ρ 0)) ((ρ 1) / 4) ((4) / 4)
  by_cases hk : pz_kd (pz_gt (ρ 0)) (pz_gN (ρ 0)) (pz_p (pz_cf (pz_gt (ρ 0)) (pz_gN (ρ 0)) (ρ 1 / 4))) = 1
  · have hw : ρ 2 / 4 = pz_wix (pz_gt (ρ 0)) (pz_gN (ρ 0)) (pz_p (pz_cf (pz_gt (ρ 0)) (pz_gN (ρ 0)) (ρ 1 / 4))) := F151.2.2.2.2 hk
    exact pz_wix_2 (k := 1) (by decide) (by omega)
  · exact pz_wd_no hk
theorem axq0_iv3a_1 : ax_RO ax_wM0 (ax_XM 0) axu0_iv3a_1 := axqg_iv3a_1 ax_WW0
theorem axqg_iv3b_1 {w : ax_W} {b : Nat} (hw : ax_WW w) : ax_RO w (ax_XM b) axu0_iv3b_1 := by
  intro ρ hp hE hT
  have j0 : ρ 0 % 4 = 1 := pz_gj hE 0 (Nat.le_of_ble_eq_true rfl) rfl
  have j1 : ρ 1 % 4 = 1 := pz_gj hE 1 (Nat.le_of_ble_eq_true rfl) rfl
  obtain ⟨i2a, i2b, i2c, i2d⟩ := pz_gi hE 2 2147483650 4294967295 (Nat.le_of_ble_eq_true rfl) rfl
  have c_word : ay_at hp 173 17 = some (ρ 2) := ay_gfj hE 702 68 11 173 17 ax_m1 (ax_vlq rfl rfl) (ax_vlj rfl rfl)
  obtain ⟨-, -, -, -, -, F151⟩ : ay_ex hp 173 ∧ ay_ex hp 173 ∧ ay_ex hp 173 ∧ ay_ex hp 173 ∧ ay_ex hp 173 ∧ pz_y151 (ρ 0) (ρ 1) (ay_at hp 173 13) (ay_at hp 173 14) (ay_at hp 173 15) (ay_at hp 173 16) (ay_at hp 173 17) := (ax_XF_lt (x := 151) (Nat.le_of_ble_eq_true rfl)).mp (ax_gx hE (151, [3, 7]) ax_m0)
  rw [c_word] at F151
  refine ⟨(fun y hy => by cases hy), _, List.mem_cons_self, ρ, fun _ _ => rfl, ax_px hE rfl (fun x hx => ?_)⟩
  cases List.mem_singleton.mp hx
  refine (ax_XF_lt (x := 161) (Nat.le_of_ble_eq_true rfl)).mpr ?_
  show pz61 (pz_gt (ρ 0)) (pz_gN (ρ 0)) ((ρ 1) / 4) ((4) / 4)
  by_cases hk : pz_kd (pz_gt (ρ 0)) (pz_gN (ρ 0)) (pz_p (pz_cf (pz_gt (ρ 0)) (pz_gN (ρ 0)) (ρ 1 / 4))) = 1
  · have hw : ρ 2 / 4 = pz_wix (pz_gt (ρ 0)) (pz_gN (ρ 0)) (pz_p (pz_cf (pz_gt (ρ 0)) (pz_gN (ρ 0)) (ρ 1 / 4))) := F151.2.2.2.2 hk
    exact pz_wix_2 (k := 1) (by decide) (by omega)
  · exact pz_wd_no hk
theorem axq0_iv3b_1 : ax_RO ax_wM0 (ax_XM 0) axu0_iv3b_1 := axqg_iv3b_1 ax_WW0
theorem axqg_iv1_2 {w : ax_W} {b : Nat} (hw : ax_WW w) : ax_RO w (ax_XM b) axu0_iv1_2 := by
  intro ρ hp hE hT
  have j0 : ρ 0 % 4 = 1 := pz_gj hE 0 (Nat.le_of_ble_eq_true rfl) rfl
  have j1 : ρ 1 % 4 = 1 := pz_gj hE 1 (Nat.le_of_ble_eq_true rfl) rfl
  obtain ⟨i2a, i2b, i2c, i2d⟩ := pz_gi hE 2 2147483650 2147483650 (Nat.le_of_ble_eq_true rfl) rfl
  obtain ⟨i3a, i3b, i3c, i3d⟩ := pz_gi hE 3 2147483650 2147483650 (Nat.le_of_ble_eq_true rfl) rfl
  have c_token : ay_at hp 173 15 = some (ρ 2) := ay_gfj hE 702 60 11 173 15 ax_m1 (ax_vlq rfl rfl) (ax_vlj rfl rfl)
  have c_word : ay_at hp 173 17 = some (ρ 3) := ay_gfj hE 702 68 15 173 17 ax_m2 (ax_vlq rfl rfl) (ax_vlj rfl rfl)
  obtain ⟨-, -, -, -, -, F151⟩ : ay_ex hp 173 ∧ ay_ex hp 173 ∧ ay_ex hp 173 ∧ ay_ex hp 173 ∧ ay_ex hp 173 ∧ pz_y151 (ρ 0) (ρ 1) (ay_at hp 173 13) (ay_at hp 173 14) (ay_at hp 173 15) (ay_at hp 173 16) (ay_at hp 173 17) := (ax_XF_lt (x := 151) (Nat.le_of_ble_eq_true rfl)).mp (ax_gx hE (151, [3, 7]) ax_m0)
  rw [c_token] at F151
  rw [c_word] at F151
  have ht : ρ 2 / 4 = pz_tok (pz_kd (pz_gt (ρ 0)) (pz_gN (ρ 0)) (pz_p (pz_cf (pz_gt (ρ 0)) (pz_gN (ρ 0)) (ρ 1 / 4)))) := F151.2.2.1
  have hc := pz_tok_c (pz_kd (pz_gt (ρ 0)) (pz_gN (ρ 0)) (pz_p (pz_cf (pz_gt (ρ 0)) (pz_gN (ρ 0)) (ρ 1 / 4))))
  have hk : pz_kd (pz_gt (ρ 0)) (pz_gN (ρ 0)) (pz_p (pz_cf (pz_gt (ρ 0)) (pz_gN (ρ 0)) (ρ 1 / 4))) = 1 := (by rcases hc with h | h | h | h | h <;> omega)
  have hw : ρ 3 / 4 = pz_wix (pz_gt (ρ 0)) (pz_gN (ρ 0)) (pz_p (pz_cf (pz_gt (ρ 0)) (pz_gN (ρ 0)) (ρ 1 / 4))) := F151.2.2.2.2 hk
  refine ⟨(fun y hy => by cases hy), _, List.mem_cons_self, ρ, fun _ _ => rfl, ax_px hE rfl (fun x hx => ?_)⟩
  cases List.mem_singleton.mp hx
  refine (ax_XF_lt (x := 160) (Nat.le_of_ble_eq_true rfl)).mpr ?_
  show pz60 (pz_gt (ρ 0)) (pz_gN (ρ 0)) ((ρ 1) / 4) ((8) / 4)
  exact pz_wix_1 (k := 2) (by decide) (by omega)
theorem axq0_iv1_2 : ax_RO ax_wM0 (ax_XM 0) axu0_iv1_2 := axqg_iv1_2 ax_WW0
theorem axqg_iv2a_2 {w : ax_W} {b : Nat} (hw : ax_WW w) : ax_RO w (ax_XM b) axu0_iv2a_2 := by
  intro ρ hp hE hT
  have j0 : ρ 0 % 4 = 1 := pz_gj hE 0 (Nat.le_of_ble_eq_true rfl) rfl
  have j1 : ρ 1 % 4 = 1 := pz_gj hE 1 (Nat.le_of_ble_eq_true rfl) rfl
  obtain ⟨i2a, i2b, i2c, i2d⟩ := pz_gi hE 2 0 2147483649 (Nat.le_of_ble_eq_true rfl) rfl
  have c_token : ay_at hp 173 15 = some (ρ 2) := ay_gfj hE 702 60 11 173 15 ax_m1 (ax_vlq rfl rfl) (ax_vlj rfl rfl)
  obtain ⟨-, -, -, -, -, F151⟩ : ay_ex hp 173 ∧ ay_ex hp 173 ∧ ay_ex hp 173 ∧ ay_ex hp 173 ∧ ay_ex hp 173 ∧ pz_y151 (ρ 0) (ρ 1) (ay_at hp 173 13) (ay_at hp 173 14) (ay_at hp 173 15) (ay_at hp 173 16) (ay_at hp 173 17) := (ax_XF_lt (x := 151) (Nat.le_of_ble_eq_true rfl)).mp (ax_gx hE (151, [3, 7]) ax_m0)
  rw [c_token] at F151
  have ht : ρ 2 / 4 = pz_tok (pz_kd (pz_gt (ρ 0)) (pz_gN (ρ 0)) (pz_p (pz_cf (pz_gt (ρ 0)) (pz_gN (ρ 0)) (ρ 1 / 4)))) := F151.2.2.1
  have hc := pz_tok_c (pz_kd (pz_gt (ρ 0)) (pz_gN (ρ 0)) (pz_p (pz_cf (pz_gt (ρ 0)) (pz_gN (ρ 0)) (ρ 1 / 4))))
  have hk : pz_kd (pz_gt (ρ 0)) (pz_gN (ρ 0)) (pz_p (pz_cf (pz_gt (ρ 0)) (pz_gN (ρ 0)) (ρ 1 / 4))) ≠ 1 := (by rcases hc with h | h | h | h | h <;> omega)
  refine ⟨(fun y hy => by cases hy), _, List.mem_cons_self, ρ, fun _ _ => rfl, ax_px hE rfl (fun x hx => ?_)⟩
  cases List.mem_singleton.mp hx
  refine (ax_XF_lt (x := 161) (Nat.le_of_ble_eq_true rfl)).mpr ?_
  show pz61 (pz_gt (ρ 0)) (pz_gN (ρ 0)) ((ρ 1) / 4) ((8) / 4)
  exact pz_wd_no hk
theorem axq0_iv2a_2 : ax_RO ax_wM0 (ax_XM 0) axu0_iv2a_2 := axqg_iv2a_2 ax_WW0
theorem axqg_iv2b_2 {w : ax_W} {b : Nat} (hw : ax_WW w) : ax_RO w (ax_XM b) axu0_iv2b_2 := by
  intro ρ hp hE hT
  have j0 : ρ 0 % 4 = 1 := pz_gj hE 0 (Nat.le_of_ble_eq_true rfl) rfl
  have j1 : ρ 1 % 4 = 1 := pz_gj hE 1 (Nat.le_of_ble_eq_true rfl) rfl
  obtain ⟨i2a, i2b, i2c, i2d⟩ := pz_gi hE 2 2147483651 4294967295 (Nat.le_of_ble_eq_true rfl) rfl
  have c_token : ay_at hp 173 15 = some (ρ 2) := ay_gfj hE 702 60 11 173 15 ax_m1 (ax_vlq rfl rfl) (ax_vlj rfl rfl)
  obtain ⟨-, -, -, -, -, F151⟩ : ay_ex hp 173 ∧ ay_ex hp 173 ∧ ay_ex hp 173 ∧ ay_ex hp 173 ∧ ay_ex hp 173 ∧ pz_y151 (ρ 0) (ρ 1) (ay_at hp 173 13) (ay_at hp 173 14) (ay_at hp 173 15) (ay_at hp 173 16) (ay_at hp 173 17) := (ax_XF_lt (x := 151) (Nat.le_of_ble_eq_true rfl)).mp (ax_gx hE (151, [3, 7]) ax_m0)
  rw [c_token] at F151
  have ht : ρ 2 / 4 = pz_tok (pz_kd (pz_gt (ρ 0)) (pz_gN (ρ 0)) (pz_p (pz_cf (pz_gt (ρ 0)) (pz_gN (ρ 0)) (ρ 1 / 4)))) := F151.2.2.1
  have hc := pz_tok_c (pz_kd (pz_gt (ρ 0)) (pz_gN (ρ 0)) (pz_p (pz_cf (pz_gt (ρ 0)) (pz_gN (ρ 0)) (ρ 1 / 4))))
  have hk : pz_kd (pz_gt (ρ 0)) (pz_gN (ρ 0)) (pz_p (pz_cf (pz_gt (ρ 0)) (pz_gN (ρ 0)) (ρ 1 / 4))) ≠ 1 := (by rcases hc with h | h | h | h | h <;> omega)
  refine ⟨(fun y hy => by cases hy), _, List.mem_cons_self, ρ, fun _ _ => rfl, ax_px hE rfl (fun x hx => ?_)⟩
  cases List.mem_singleton.mp hx
  refine (ax_XF_lt (x := 161) (Nat.le_of_ble_eq_true rfl)).mpr ?_
  show pz61 (pz_gt (ρ 0)) (pz_gN (ρ 0)) ((ρ 1) / 4) ((8) / 4)
  exact pz_wd_no hk
theorem axq0_iv2b_2 : ax_RO ax_wM0 (ax_XM 0) axu0_iv2b_2 := axqg_iv2b_2 ax_WW0
theorem axqg_iv3a_2 {w : ax_W} {b : Nat} (hw : ax_WW w) : ax_RO w (ax_XM b) axu0_iv3a_2 := by
  intro ρ hp hE hT
  have j0 : ρ 0 % 4 = 1 := pz_gj hE 0 (Nat.le_of_ble_eq_true rfl) rfl
  have j1 : ρ 1 % 4 = 1 := pz_gj hE 1 (Nat.le_of_ble_eq_true rfl) rfl
  obtain ⟨i2a, i2b, i2c, i2d⟩ := pz_gi hE 2 0 2147483649 (Nat.le_of_ble_eq_true rfl) rfl
  have c_word : ay_at hp 173 17 = some (ρ 2) := ay_gfj hE 702 68 11 173 17 ax_m1 (ax_vlq rfl rfl) (ax_vlj rfl rfl)
  obtain ⟨-, -, -, -, -, F151⟩ : ay_ex hp 173 ∧ ay_ex hp 173 ∧ ay_ex hp 173 ∧ ay_ex hp 173 ∧ ay_ex hp 173 ∧ pz_y151 (ρ 0) (ρ 1) (ay_at hp 173 13) (ay_at hp 173 14) (ay_at hp 173 15) (ay_at hp 173 16) (ay_at hp 173 17) := (ax_XF_lt (x := 151) (Nat.le_of_ble_eq_true rfl)).mp (ax_gx hE (151, [3, 7]) ax_m0)
  rw [c_word] at F151
  refine ⟨(fun y hy => by cases hy), _, List.mem_cons_self, ρ, fun _ _ => rfl, ax_px hE rfl (fun x hx => ?_)⟩
  cases List.mem_singleton.mp hx
  refine (ax_XF_lt (x := 161) (Nat.le_of_ble_eq_true rfl)).mpr ?_
  show pz61 (pz_gt (ρ 0)) (pz_gN (ρ 0)) ((ρ 1) / 4) ((8) / 4)
  by_cases hk : pz_kd (pz_gt (ρ 0)) (pz_gN (ρ 0)) (pz_p (pz_cf (pz_gt (ρ 0)) (pz_gN (ρ 0)) (ρ 1 / 4))) = 1
  · have hw : ρ 2 / 4 = pz_wix (pz_gt (ρ 0)) (pz_gN (ρ 0)) (pz_p (pz_cf (pz_gt (ρ 0)) (pz_gN (ρ 0)) (ρ 1 / 4))) := F151.2.2.2.2 hk
    exact pz_wix_2 (k := 2) (by decide) (by omega)
  · exact pz_wd_no hk
theorem axq0_iv3a_2 : ax_RO ax_wM0 (ax_XM 0) axu0_iv3a_2 := axqg_iv3a_2 ax_WW0
theorem axqg_iv3b_2 {w : ax_W} {b : Nat} (hw : ax_WW w) : ax_RO w (ax_XM b) axu0_iv3b_2 := by
  intro ρ hp hE hT
  have j0 : ρ 0 % 4 = 1 := pz_gj hE 0 (Nat.le_of_ble_eq_true rfl) rfl
  have j1 : ρ 1 % 4 = 1 := pz_gj hE 1 (Nat.le_of_ble_eq_true rfl) rfl
  obtain ⟨i2a, i2b, i2c, i2d⟩ := pz_gi hE 2 2147483651 4294967295 (Nat.le_of_ble_eq_true rfl) rfl
  have c_word : ay_at hp 173 17 = some (ρ 2) := ay_gfj hE 702 68 11 173 17 ax_m1 (ax_vlq rfl rfl) (ax_vlj rfl rfl)
  obtain ⟨-, -, -, -, -, F151⟩ : ay_ex hp 173 ∧ ay_ex hp 173 ∧ ay_ex hp 173 ∧ ay_ex hp 173 ∧ ay_ex hp 173 ∧ pz_y151 (ρ 0) (ρ 1) (ay_at hp 173 13) (ay_at hp 173 14) (ay_at hp 173 15) (ay_at hp 173 16) (ay_at hp 173 17) := (ax_XF_lt (x := 151) (Nat.le_of_ble_eq_true rfl)).mp (ax_gx hE (151, [3, 7]) ax_m0)
  rw [c_word] at F151
  refine ⟨(fun y hy => by cases hy), _, List.mem_cons_self, ρ, fun _ _ => rfl, ax_px hE rfl (fun x hx => ?_)⟩
  cases List.mem_singleton.mp hx
  refine (ax_XF_lt (x := 161) (Nat.le_of_ble_eq_true rfl)).mpr ?_
  show pz61 (pz_gt (ρ 0)) (pz_gN (ρ 0)) ((ρ 1) / 4) ((8) / 4)
  by_cases hk : pz_kd (pz_gt (ρ 0)) (pz_gN (ρ 0)) (pz_p (pz_cf (pz_gt (ρ 0)) (pz_gN (ρ 0)) (ρ 1 / 4))) = 1
  · have hw : ρ 2 / 4 = pz_wix (pz_gt (ρ 0)) (pz_gN (ρ 0)) (pz_p (pz_cf (pz_gt (ρ 0)) (pz_gN (ρ 0)) (ρ 1 / 4))) := F151.2.2.2.2 hk
    exact pz_wix_2 (k := 2) (by decide) (by omega)
  · exact pz_wd_no hk
theorem axq0_iv3b_2 : ax_RO ax_wM0 (ax_XM 0) axu0_iv3b_2 := axqg_iv3b_2 ax_WW0
theorem axqg_iv1_3 {w : ax_W} {b : Nat} (hw : ax_WW w) : ax_RO w (ax_XM b) axu0_iv1_3 := by
  intro ρ hp hE hT
  have j0 : ρ 0 % 4 = 1 := pz_gj hE 0 (Nat.le_of_ble_eq_true rfl) rfl
  have j1 : ρ 1 % 4 = 1 := pz_gj hE 1 (Nat.le_of_ble_eq_true rfl) rfl
  obtain ⟨i2a, i2b, i2c, i2d⟩ := pz_gi hE 2 2147483650 2147483650 (Nat.le_of_ble_eq_true rfl) rfl
  obtain ⟨i3a, i3b, i3c, i3d⟩ := pz_gi hE 3 2147483651 2147483651 (Nat.le_of_ble_eq_true rfl) rfl
  have c_token : ay_at hp 173 15 = some (ρ 2) := ay_gfj hE 702 60 11 173 15 ax_m1 (ax_vlq rfl rfl) (ax_vlj rfl rfl)
  have c_word : ay_at hp 173 17 = some (ρ 3) := ay_gfj hE 702 68 15 173 17 ax_m2 (ax_vlq rfl rfl) (ax_vlj rfl rfl)
  obtain ⟨-, -, -, -, -, F151⟩ : ay_ex hp 173 ∧ ay_ex hp 173 ∧ ay_ex hp 173 ∧ ay_ex hp 173 ∧ ay_ex hp 173 ∧ pz_y151 (ρ 0) (ρ 1) (ay_at hp 173 13) (ay_at hp 173 14) (ay_at hp 173 15) (ay_at hp 173 16) (ay_at hp 173 17) := (ax_XF_lt (x := 151) (Nat.le_of_ble_eq_true rfl)).mp (ax_gx hE (151, [3, 7]) ax_m0)
  rw [c_token] at F151
  rw [c_word] at F151
  have ht : ρ 2 / 4 = pz_tok (pz_kd (pz_gt (ρ 0)) (pz_gN (ρ 0)) (pz_p (pz_cf (pz_gt (ρ 0)) (pz_gN (ρ 0)) (ρ 1 / 4)))) := F151.2.2.1
  have hc := pz_tok_c (pz_kd (pz_gt (ρ 0)) (pz_gN (ρ 0)) (pz_p (pz_cf (pz_gt (ρ 0)) (pz_gN (ρ 0)) (ρ 1 / 4))))
  have hk : pz_kd (pz_gt (ρ 0)) (pz_gN (ρ 0)) (pz_p (pz_cf (pz_gt (ρ 0)) (pz_gN (ρ 0)) (ρ 1 / 4))) = 1 := (by rcases hc with h | h | h | h | h <;> omega)
  have hw : ρ 3 / 4 = pz_wix (pz_gt (ρ 0)) (pz_gN (ρ 0)) (pz_p (pz_cf (pz_gt (ρ 0)) (pz_gN (ρ 0)) (ρ 1 / 4))) := F151.2.2.2.2 hk
  refine ⟨(fun y hy => by cases hy), _, List.mem_cons_self, ρ, fun _ _ => rfl, ax_px hE rfl (fun x hx => ?_)⟩
  cases List.mem_singleton.mp hx
  refine (ax_XF_lt (x := 160) (Nat.le_of_ble_eq_true rfl)).mpr ?_
  show pz60 (pz_gt (ρ 0)) (pz_gN (ρ 0)) ((ρ 1) / 4) ((16) / 4)
  exact pz_wix_1 (k := 3) (by decide) (by omega)
theorem axq0_iv1_3 : ax_RO ax_wM0 (ax_XM 0) axu0_iv1_3 := axqg_iv1_3 ax_WW0
theorem axqg_iv2a_3 {w : ax_W} {b : Nat} (hw : ax_WW w) : ax_RO w (ax_XM b) axu0_iv2a_3 := by
  intro ρ hp hE hT
  have j0 : ρ 0 % 4 = 1 := pz_gj hE 0 (Nat.le_of_ble_eq_true rfl) rfl
  have j1 : ρ 1 % 4 = 1 := pz_gj hE 1 (Nat.le_of_ble_eq_true rfl) rfl
  obtain ⟨i2a, i2b, i2c, i2d⟩ := pz_gi hE 2 0 2147483649 (Nat.le_of_ble_eq_true rfl) rfl
  have c_token : ay_at hp 173 15 = some (ρ 2) := ay_gfj hE 702 60 11 173 15 ax_m1 (ax_vlq rfl rfl) (ax_vlj rfl rfl)
  obtain ⟨-, -, -, -, -, F151⟩ : ay_ex hp 173 ∧ ay_ex hp 173 ∧ ay_ex hp 173 ∧ ay_ex hp 173 ∧ ay_ex hp 173 ∧ pz_y151 (ρ 0) (ρ 1) (ay_at hp 173 13) (ay_at hp 173 14) (ay_at hp 173 15) (ay_at hp 173 16) (ay_at hp 173 17) := (ax_XF_lt (x := 151) (Nat.le_of_ble_eq_true rfl)).mp (ax_gx hE (151, [3, 7]) ax_m0)
  rw [c_token] at F151
  have ht : ρ 2 / 4 = pz_tok (pz_kd (pz_gt (ρ 0)) (pz_gN (ρ 0)) (pz_p (pz_cf (pz_gt (ρ 0)) (pz_gN (ρ 0)) (ρ 1 / 4)))) := F151.2.2.1
  have hc := pz_tok_c (pz_kd (pz_gt (ρ 0)) (pz_gN (ρ 0)) (pz_p (pz_cf (pz_gt (ρ 0)) (pz_gN (ρ 0)) (ρ 1 / 4))))
  have hk : pz_kd (pz_gt (ρ 0)) (pz_gN (ρ 0)) (pz_p (pz_cf (pz_gt (ρ 0)) (pz_gN (ρ 0)) (ρ 1 / 4))) ≠ 1 := (by rcases hc with h | h | h | h | h <;> omega)
  refine ⟨(fun y hy => by cases hy), _, List.mem_cons_self, ρ, fun _ _ => rfl, ax_px hE rfl (fun x hx => ?_)⟩
  cases List.mem_singleton.mp hx
  refine (ax_XF_lt (x := 161) (Nat.le_of_ble_eq_true rfl)).mpr ?_
  show pz61 (pz_gt (ρ 0)) (pz_gN (ρ 0)) ((ρ 1) / 4) ((16) / 4)
  exact pz_wd_no hk
theorem axq0_iv2a_3 : ax_RO ax_wM0 (ax_XM 0) axu0_iv2a_3 := axqg_iv2a_3 ax_WW0
theorem axqg_iv2b_3 {w : ax_W} {b : Nat} (hw : ax_WW w) : ax_RO w (ax_XM b) axu0_iv2b_3 := by
  intro ρ hp hE hT
  have j0 : ρ 0 % 4 = 1 := pz_gj hE 0 (Nat.le_of_ble_eq_true rfl) rfl
  have j1 : ρ 1 % 4 = 1 := pz_gj hE 1 (Nat.le_of_ble_eq_true rfl) rfl
  obtain ⟨i2a, i2b, i2c, i2d⟩ := pz_gi hE 2 2147483651 4294967295 (Nat.le_of_ble_eq_true rfl) rfl
  have c_token : ay_at hp 173 15 = some (ρ 2) := ay_gfj hE 702 60 11 173 15 ax_m1 (ax_vlq rfl rfl) (ax_vlj rfl rfl)
  obtain ⟨-, -, -, -, -, F151⟩ : ay_ex hp 173 ∧ ay_ex hp 173 ∧ ay_ex hp 173 ∧ ay_ex hp 173 ∧ ay_ex hp 173 ∧ pz_y151 (ρ 0) (ρ 1) (ay_at hp 173 13) (ay_at hp 173 14) (ay_at hp 173 15) (ay_at hp 173 16) (ay_at hp 173 17) := (ax_XF_lt (x := 151) (Nat.le_of_ble_eq_true rfl)).mp (ax_gx hE (151, [3, 7]) ax_m0)
  rw [c_token] at F151
  have ht : ρ 2 / 4 = pz_tok (pz_kd (pz_gt (ρ 0)) (pz_gN (ρ 0)) (pz_p (pz_cf (pz_gt (ρ 0)) (pz_gN (ρ 0)) (ρ 1 / 4)))) := F151.2.2.1
  have hc := pz_tok_c (pz_kd (pz_gt (ρ 0)) (pz_gN (ρ 0)) (pz_p (pz_cf (pz_gt (ρ 0)) (pz_gN (ρ 0)) (ρ 1 / 4))))
  have hk : pz_kd (pz_gt (ρ 0)) (pz_gN (ρ 0)) (pz_p (pz_cf (pz_gt (ρ 0)) (pz_gN (ρ 0)) (ρ 1 / 4))) ≠ 1 := (by rcases hc with h | h | h | h | h <;> omega)
  refine ⟨(fun y hy => by cases hy), _, List.mem_cons_self, ρ, fun _ _ => rfl, ax_px hE rfl (fun x hx => ?_)⟩
  cases List.mem_singleton.mp hx
  refine (ax_XF_lt (x := 161) (Nat.le_of_ble_eq_true rfl)).mpr ?_
  show pz61 (pz_gt (ρ 0)) (pz_gN (ρ 0)) ((ρ 1) / 4) ((16) / 4)
  exact pz_wd_no hk
theorem axq0_iv2b_3 : ax_RO ax_wM0 (ax_XM 0) axu0_iv2b_3 := axqg_iv2b_3 ax_WW0
theorem axqg_iv3a_3 {w : ax_W} {b : Nat} (hw : ax_WW w) : ax_RO w (ax_XM b) axu0_iv3a_3 := by
  intro ρ hp hE hT
  have j0 : ρ 0 % 4 = 1 := pz_gj hE 0 (Nat.le_of_ble_eq_true rfl) rfl
  have j1 : ρ 1 % 4 = 1 := pz_gj hE 1 (Nat.le_of_ble_eq_true rfl) rfl
  obtain ⟨i2a, i2b, i2c, i2d⟩ := pz_gi hE 2 0 2147483650 (Nat.le_of_ble_eq_true rfl) rfl
  have c_word : ay_at hp 173 17 = some (ρ 2) := ay_gfj hE 702 68 11 173 17 ax_m1 (ax_vlq rfl rfl) (ax_vlj rfl rfl)
  obtain ⟨-, -, -, -, -, F151⟩ : ay_ex hp 173 ∧ ay_ex hp 173 ∧ ay_ex hp 173 ∧ ay_ex hp 173 ∧ ay_ex hp 173 ∧ pz_y151 (ρ 0) (ρ 1) (ay_at hp 173 13) (ay_at hp 173 14) (ay_at hp 173 15) (ay_at hp 173 16) (ay_at hp 173 17) := (ax_XF_lt (x := 151) (Nat.le_of_ble_eq_true rfl)).mp (ax_gx hE (151, [3, 7]) ax_m0)
  rw [c_word] at F151
  refine ⟨(fun y hy => by cases hy), _, List.mem_cons_self, ρ, fun _ _ => rfl, ax_px hE rfl (fun x hx => ?_)⟩
  cases List.mem_singleton.mp hx
  refine (ax_XF_lt (x := 161) (Nat.le_of_ble_eq_true rfl)).mpr ?_
  show pz61 (pz_gt (ρ 0)) (pz_gN (ρ 0)) ((ρ 1) / 4) ((16) / 4)
  by_cases hk : pz_kd (pz_gt (ρ 0)) (pz_gN (ρ 0)) (pz_p (pz_cf (pz_gt (ρ 0)) (pz_gN (ρ 0)) (ρ 1 / 4))) = 1
  · have hw : ρ 2 / 4 = pz_wix (pz_gt (ρ 0)) (pz_gN (ρ 0)) (pz_p (pz_cf (pz_gt (ρ 0)) (pz_gN (ρ 0)) (ρ 1 / 4))) := F151.2.2.2.2 hk
    exact pz_wix_2 (k := 3) (by decide) (by omega)
  · exact pz_wd_no hk
theorem axq0_iv3a_3 : ax_RO ax_wM0 (ax_XM 0) axu0_iv3a_3 := axqg_iv3a_3 ax_WW0
theorem axqg_iv3b_3 {w : ax_W} {b : Nat} (hw : ax_WW w) : ax_RO w (ax_XM b) axu0_iv3b_3 := by
  intro ρ hp hE hT
  have j0 : ρ 0 % 4 = 1 := pz_gj hE 0 (Nat.le_of_ble_eq_true rfl) rfl
  have j1 : ρ 1 % 4 = 1 := pz_gj hE 1 (Nat.le_of_ble_eq_true rfl) rfl
  obtain ⟨i2a, i2b, i2c, i2d⟩ := pz_gi hE 2 2147483652 4294967295 (Nat.le_of_ble_eq_true rfl) rfl
  have c_word : ay_at hp 173 17 = some (ρ 2) := ay_gfj hE 702 68 11 173 17 ax_m1 (ax_vlq rfl rfl) (ax_vlj rfl rfl)
  obtain ⟨-, -, -, -, -, F151⟩ : ay_ex hp 173 ∧ ay_ex hp 173 ∧ ay_ex hp 173 ∧ ay_ex hp 173 ∧ ay_ex hp 173 ∧ pz_y151 (ρ 0) (ρ 1) (ay_at hp 173 13) (ay_at hp 173 14) (ay_at hp 173 15) (ay_at hp 173 16) (ay_at hp 173 17) := (ax_XF_lt (x := 151) (Nat.le_of_ble_eq_true rfl)).mp (ax_gx hE (151, [3, 7]) ax_m0)
  rw [c_word] at F151
  refine ⟨(fun y hy => by cases hy), _, List.mem_cons_self, ρ, fun _ _ => rfl, ax_px hE rfl (fun x hx => ?_)⟩
  cases List.mem_singleton.mp hx
  refine (ax_XF_lt (x := 161) (Nat.le_of_ble_eq_true rfl)).mpr ?_
  show pz61 (pz_gt (ρ 0)) (pz_gN (ρ 0)) ((ρ 1) / 4) ((16) / 4)
  by_cases hk : pz_kd (pz_gt (ρ 0)) (pz_gN (ρ 0)) (pz_p (pz_cf (pz_gt (ρ 0)) (pz_gN (ρ 0)) (ρ 1 / 4))) = 1
  · have hw : ρ 2 / 4 = pz_wix (pz_gt (ρ 0)) (pz_gN (ρ 0)) (pz_p (pz_cf (pz_gt (ρ 0)) (pz_gN (ρ 0)) (ρ 1 / 4))) := F151.2.2.2.2 hk
    exact pz_wix_2 (k := 3) (by decide) (by omega)
  · exact pz_wd_no hk
theorem axq0_iv3b_3 : ax_RO ax_wM0 (ax_XM 0) axu0_iv3b_3 := axqg_iv3b_3 ax_WW0
theorem axqg_iv1_4 {w : ax_W} {b : Nat} (hw : ax_WW w) : ax_RO w (ax_XM b) axu0_iv1_4 := by
  intro ρ hp hE hT
  have j0 : ρ 0 % 4 = 1 := pz_gj hE 0 (Nat.le_of_ble_eq_true rfl) rfl
  have j1 : ρ 1 % 4 = 1 := pz_gj hE 1 (Nat.le_of_ble_eq_true rfl) rfl
  obtain ⟨i2a, i2b, i2c, i2d⟩ := pz_gi hE 2 2147483650 2147483650 (Nat.le_of_ble_eq_true rfl) rfl
  obtain ⟨i3a, i3b, i3c, i3d⟩ := pz_gi hE 3 2147483652 2147483652 (Nat.le_of_ble_eq_true rfl) rfl
  have c_token : ay_at hp 173 15 = some (ρ 2) := ay_gfj hE 702 60 11 173 15 ax_m1 (ax_vlq rfl rfl) (ax_vlj rfl rfl)
  have c_word : ay_at hp 173 17 = some (ρ 3) := ay_gfj hE 702 68 15 173 17 ax_m2 (ax_vlq rfl rfl) (ax_vlj rfl rfl)
  obtain ⟨-, -, -, -, -, F151⟩ : ay_ex hp 173 ∧ ay_ex hp 173 ∧ ay_ex hp 173 ∧ ay_ex hp 173 ∧ ay_ex hp 173 ∧ pz_y151 (ρ 0) (ρ 1) (ay_at hp 173 13) (ay_at hp 173 14) (ay_at hp 173 15) (ay_at hp 173 16) (ay_at hp 173 17) := (ax_XF_lt (x := 151) (Nat.le_of_ble_eq_true rfl)).mp (ax_gx hE (151, [3, 7]) ax_m0)
  rw [c_token] at F151
  rw [c_word] at F151
  have ht : ρ 2 / 4 = pz_tok (pz_kd (pz_gt (ρ 0)) (pz_gN (ρ 0)) (pz_p (pz_cf (pz_gt (ρ 0)) (pz_gN (ρ 0)) (ρ 1 / 4)))) := F151.2.2.1
  have hc := pz_tok_c (pz_kd (pz_gt (ρ 0)) (pz_gN (ρ 0)) (pz_p (pz_cf (pz_gt (ρ 0)) (pz_gN (ρ 0)) (ρ 1 / 4))))
  have hk : pz_kd (pz_gt (ρ 0)) (pz_gN (ρ 0)) (pz_p (pz_cf (pz_gt (ρ 0)) (pz_gN (ρ 0)) (ρ 1 / 4))) = 1 := (by rcases hc with h | h | h | h | h <;> omega)
  have hw : ρ 3 / 4 = pz_wix (pz_gt (ρ 0)) (pz_gN (ρ 0)) (pz_p (pz_cf (pz_gt (ρ 0)) (pz_gN (ρ 0)) (ρ 1 / 4))) := F151.2.2.2.2 hk
  refine ⟨(fun y hy => by cases hy), _, List.mem_cons_self, ρ, fun _ _ => rfl, ax_px hE rfl (fun x hx => ?_)⟩
  cases List.mem_singleton.mp hx
  refine (ax_XF_lt (x := 160) (Nat.le_of_ble_eq_true rfl)).mpr ?_
  show pz60 (pz_gt (ρ 0)) (pz_gN (ρ 0)) ((ρ 1) / 4) ((12) / 4)
  exact pz_wix_1 (k := 4) (by decide) (by omega)
theorem axq0_iv1_4 : ax_RO ax_wM0 (ax_XM 0) axu0_iv1_4 := axqg_iv1_4 ax_WW0
theorem axqg_iv2a_4 {w : ax_W} {b : Nat} (hw : ax_WW w) : ax_RO w (ax_XM b) axu0_iv2a_4 := by
  intro ρ hp hE hT
  have j0 : ρ 0 % 4 = 1 := pz_gj hE 0 (Nat.le_of_ble_eq_true rfl) rfl
  have j1 : ρ 1 % 4 = 1 := pz_gj hE 1 (Nat.le_of_ble_eq_true rfl) rfl
  obtain ⟨i2a, i2b, i2c, i2d⟩ := pz_gi hE 2 0 2147483649 (Nat.le_of_ble_eq_true rfl) rfl
  have c_token : ay_at hp 173 15 = some (ρ 2) := ay_gfj hE 702 60 11 173 15 ax_m1 (ax_vlq rfl rfl) (ax_vlj rfl rfl)
  obtain ⟨-, -, -, -, -, F151⟩ : ay_ex hp 173 ∧ ay_ex hp 173 ∧ ay_ex hp 173 ∧ ay_ex hp 173 ∧ ay_ex hp 173 ∧ pz_y151 (ρ 0) (ρ 1) (ay_at hp 173 13) (ay_at hp 173 14) (ay_at hp 173 15) (ay_at hp 173 16) (ay_at hp 173 17) := (ax_XF_lt (x := 151) (Nat.le_of_ble_eq_true rfl)).mp (ax_gx hE (151, [3, 7]) ax_m0)
  rw [c_token] at F151
  have ht : ρ 2 / 4 = pz_tok (pz_kd (pz_gt (ρ 0)) (pz_gN (ρ 0)) (pz_p (pz_cf (pz_gt (ρ 0)) (pz_gN (ρ 0)) (ρ 1 / 4)))) := F151.2.2.1
  have hc := pz_tok_c (pz_kd (pz_gt (ρ 0)) (pz_gN (ρ 0)) (pz_p (pz_cf (pz_gt (ρ 0)) (pz_gN (ρ 0)) (ρ 1 / 4))))
  have hk : pz_kd (pz_gt (ρ 0)) (pz_gN (ρ 0)) (pz_p (pz_cf (pz_gt (ρ 0)) (pz_gN (ρ 0)) (ρ 1 / 4))) ≠ 1 := (by rcases hc with h | h | h | h | h <;> omega)
  refine ⟨(fun y hy => by cases hy), _, List.mem_cons_self, ρ, fun _ _ => rfl, ax_px hE rfl (fun x hx => ?_)⟩
  cases List.mem_singleton.mp hx
  refine (ax_XF_lt (x := 161) (Nat.le_of_ble_eq_true rfl)).mpr ?_
  show pz61 (pz_gt (ρ 0)) (pz_gN (ρ 0)) ((ρ 1) / 4) ((12) / 4)
  exact pz_wd_no hk
theorem axq0_iv2a_4 : ax_RO ax_wM0 (ax_XM 0) axu0_iv2a_4 := axqg_iv2a_4 ax_WW0
theorem axqg_iv2b_4 {w : ax_W} {b : Nat} (hw : ax_WW w) : ax_RO w (ax_XM b) axu0_iv2b_4 := by
  intro ρ hp hE hT
  have j0 : ρ 0 % 4 = 1 := pz_gj hE 0 (Nat.le_of_ble_eq_true rfl) rfl
  have j1 : ρ 1 % 4 = 1 := pz_gj hE 1 (Nat.le_of_ble_eq_true rfl) rfl
  obtain ⟨i2a, i2b, i2c, i2d⟩ := pz_gi hE 2 2147483651 4294967295 (Nat.le_of_ble_eq_true rfl) rfl
  have c_token : ay_at hp 173 15 = some (ρ 2) := ay_gfj hE 702 60 11 173 15 ax_m1 (ax_vlq rfl rfl) (ax_vlj rfl rfl)
  obtain ⟨-, -, -, -, -, F151⟩ : ay_ex hp 173 ∧ ay_ex hp 173 ∧ ay_ex hp 173 ∧ ay_ex hp 173 ∧ ay_ex hp 173 ∧ pz_y151 (ρ 0) (ρ 1) (ay_at hp 173 13) (ay_at hp 173 14) (ay_at hp 173 15) (ay_at hp 173 16) (ay_at hp 173 17) := (ax_XF_lt (x := 151) (Nat.le_of_ble_eq_true rfl)).mp (ax_gx hE (151, [3, 7]) ax_m0)
  rw [c_token] at F151
  have ht : ρ 2 / 4 = pz_tok (pz_kd (pz_gt (ρ 0)) (pz_gN (ρ 0)) (pz_p (pz_cf (pz_gt (ρ 0)) (pz_gN (ρ 0)) (ρ 1 / 4)))) := F151.2.2.1
  have hc := pz_tok_c (pz_kd (pz_gt (ρ 0)) (pz_gN (ρ 0)) (pz_p (pz_cf (pz_gt (ρ 0)) (pz_gN (ρ 0)) (ρ 1 / 4))))
  have hk : pz_kd (pz_gt (ρ 0)) (pz_gN (ρ 0)) (pz_p (pz_cf (pz_gt (ρ 0)) (pz_gN (ρ 0)) (ρ 1 / 4))) ≠ 1 := (by rcases hc with h | h | h | h | h <;> omega)
  refine ⟨(fun y hy => by cases hy), _, List.mem_cons_self, ρ, fun _ _ => rfl, ax_px hE rfl (fun x hx => ?_)⟩
  cases List.mem_singleton.mp hx
  refine (ax_XF_lt (x := 161) (Nat.le_of_ble_eq_true rfl)).mpr ?_
  show pz61 (pz_gt (ρ 0)) (pz_gN (ρ 0)) ((ρ 1) / 4) ((12) / 4)
  exact pz_wd_no hk
theorem axq0_iv2b_4 : ax_RO ax_wM0 (ax_XM 0) axu0_iv2b_4 := axqg_iv2b_4 ax_WW0
theorem axqg_iv3a_4 {w : ax_W} {b : Nat} (hw : ax_WW w) : ax_RO w (ax_XM b) axu0_iv3a_4 := by
  intro ρ hp hE hT
  have j0 : ρ 0 % 4 = 1 := pz_gj hE 0 (Nat.le_of_ble_eq_true rfl) rfl
  have j1 : ρ 1 % 4 = 1 := pz_gj hE 1 (Nat.le_of_ble_eq_true rfl) rfl
  obtain ⟨i2a, i2b, i2c, i2d⟩ := pz_gi hE 2 0 2147483651 (Nat.le_of_ble_eq_true rfl) rfl
  have c_word : ay_at hp 173 17 = some (ρ 2) := ay_gfj hE 702 68 11 173 17 ax_m1 (ax_vlq rfl rfl) (ax_vlj rfl rfl)
  obtain ⟨-, -, -, -, -, F151⟩ : ay_ex hp 173 ∧ ay_ex hp 173 ∧ ay_ex hp 173 ∧ ay_ex hp 173 ∧ ay_ex hp 173 ∧ pz_y151 (ρ 0) (ρ 1) (ay_at hp 173 13) (ay_at hp 173 14) (ay_at hp 173 15) (ay_at hp 173 16) (ay_at hp 173 17) := (ax_XF_lt (x := 151) (Nat.le_of_ble_eq_true rfl)).mp (ax_gx hE (151, [3, 7]) ax_m0)
  rw [c_word] at F151
  refine ⟨(fun y hy => by cases hy), _, List.mem_cons_self, ρ, fun _ _ => rfl, ax_px hE rfl (fun x hx => ?_)⟩
  cases List.mem_singleton.mp hx
  refine (ax_XF_lt (x := 161) (Nat.le_of_ble_eq_true rfl)).mpr ?_
  show pz61 (pz_gt (ρ 0)) (pz_gN (ρ 0)) ((ρ 1) / 4) ((12) / 4)
  by_cases hk : pz_kd (pz_gt (ρ 0)) (pz_gN (ρ 0)) (pz_p (pz_cf (pz_gt (ρ 0)) (pz_gN (ρ 0)) (ρ 1 / 4))) = 1
  · have hw : ρ 2 / 4 = pz_wix (pz_gt (ρ 0)) (pz_gN (ρ 0)) (pz_p (pz_cf (pz_gt (ρ 0)) (pz_gN (ρ 0)) (ρ 1 / 4))) := F151.2.2.2.2 hk
    exact pz_wix_2 (k := 4) (by decide) (by omega)
  · exact pz_wd_no hk
theorem axq0_iv3a_4 : ax_RO ax_wM0 (ax_XM 0) axu0_iv3a_4 := axqg_iv3a_4 ax_WW0
theorem axqg_iv3b_4 {w : ax_W} {b : Nat} (hw : ax_WW w) : ax_RO w (ax_XM b) axu0_iv3b_4 := by
  intro ρ hp hE hT
  have j0 : ρ 0 % 4 = 1 := pz_gj hE 0 (Nat.le_of_ble_eq_true rfl) rfl
  have j1 : ρ 1 % 4 = 1 := pz_gj hE 1 (Nat.le_of_ble_eq_true rfl) rfl
  obtain ⟨i2a, i2b, i2c, i2d⟩ := pz_gi hE 2 2147483653 4294967295 (Nat.le_of_ble_eq_true rfl) rfl
  have c_word : ay_at hp 173 17 = some (ρ 2) := ay_gfj hE 702 68 11 173 17 ax_m1 (ax_vlq rfl rfl) (ax_vlj rfl rfl)
  obtain ⟨-, -, -, -, -, F151⟩ : ay_ex hp 173 ∧ ay_ex hp 173 ∧ ay_ex hp 173 ∧ ay_ex hp 173 ∧ ay_ex hp 173 ∧ pz_y151 (ρ 0) (ρ 1) (ay_at hp 173 13) (ay_at hp 173 14) (ay_at hp 173 15) (ay_at hp 173 16) (ay_at hp 173 17) := (ax_XF_lt (x := 151) (Nat.le_of_ble_eq_true rfl)).mp (ax_gx hE (151, [3, 7]) ax_m0)
  rw [c_word] at F151
  refine ⟨(fun y hy => by cases hy), _, List.mem_cons_self, ρ, fun _ _ => rfl, ax_px hE rfl (fun x hx => ?_)⟩
  cases List.mem_singleton.mp hx
  refine (ax_XF_lt (x := 161) (Nat.le_of_ble_eq_true rfl)).mpr ?_
  show pz61 (pz_gt (ρ 0)) (pz_gN (ρ 0)) ((ρ 1) / 4) ((12) / 4)
  by_cases hk : pz_kd (pz_gt (ρ 0)) (pz_gN (ρ 0)) (pz_p (pz_cf (pz_gt (ρ 0)) (pz_gN (ρ 0)) (ρ 1 / 4))) = 1
  · have hw : ρ 2 / 4 = pz_wix (pz_gt (ρ 0)) (pz_gN (ρ 0)) (pz_p (pz_cf (pz_gt (ρ 0)) (pz_gN (ρ 0)) (ρ 1 / 4))) := F151.2.2.2.2 hk
    exact pz_wix_2 (k := 4) (by decide) (by omega)
  · exact pz_wd_no hk
theorem axq0_iv3b_4 : ax_RO ax_wM0 (ax_XM 0) axu0_iv3b_4 := axqg_iv3b_4 ax_WW0
theorem axqg_iv1_5 {w : ax_W} {b : Nat} (hw : ax_WW w) : ax_RO w (ax_XM b) axu0_iv1_5 := by
  intro ρ hp hE hT
  have j0 : ρ 0 % 4 = 1 := pz_gj hE 0 (Nat.le_of_ble_eq_true rfl) rfl
  have j1 : ρ 1 % 4 = 1 := pz_gj hE 1 (Nat.le_of_ble_eq_true rfl) rfl
  obtain ⟨i2a, i2b, i2c, i2d⟩ := pz_gi hE 2 2147483650 2147483650 (Nat.le_of_ble_eq_true rfl) rfl
  obtain ⟨i3a, i3b, i3c, i3d⟩ := pz_gi hE 3 2147483653 2147483653 (Nat.le_of_ble_eq_true rfl) rfl
  have c_token : ay_at hp 173 15 = some (ρ 2) := ay_gfj hE 702 60 11 173 15 ax_m1 (ax_vlq rfl rfl) (ax_vlj rfl rfl)
  have c_word : ay_at hp 173 17 = some (ρ 3) := ay_gfj hE 702 68 15 173 17 ax_m2 (ax_vlq rfl rfl) (ax_vlj rfl rfl)
  obtain ⟨-, -, -, -, -, F151⟩ : ay_ex hp 173 ∧ ay_ex hp 173 ∧ ay_ex hp 173 ∧ ay_ex hp 173 ∧ ay_ex hp 173 ∧ pz_y151 (ρ 0) (ρ 1) (ay_at hp 173 13) (ay_at hp 173 14) (ay_at hp 173 15) (ay_at hp 173 16) (ay_at hp 173 17) := (ax_XF_lt (x := 151) (Nat.le_of_ble_eq_true rfl)).mp (ax_gx hE (151, [3, 7]) ax_m0)
  rw [c_token] at F151
  rw [c_word] at F151
  have ht : ρ 2 / 4 = pz_tok (pz_kd (pz_gt (ρ 0)) (pz_gN (ρ 0)) (pz_p (pz_cf (pz_gt (ρ 0)) (pz_gN (ρ 0)) (ρ 1 / 4)))) := F151.2.2.1
  have hc := pz_tok_c (pz_kd (pz_gt (ρ 0)) (pz_gN (ρ 0)) (pz_p (pz_cf (pz_gt (ρ 0)) (pz_gN (ρ 0)) (ρ 1 / 4))))
  have hk : pz_kd (pz_gt (ρ 0)) (pz_gN (ρ 0)) (pz_p (pz_cf (pz_gt (ρ 0)) (pz_gN (ρ 0)) (ρ 1 / 4))) = 1 := (by rcases hc with h | h | h | h | h <;> omega)
  have hw : ρ 3 / 4 = pz_wix (pz_gt (ρ 0)) (pz_gN (ρ 0)) (pz_p (pz_cf (pz_gt (ρ 0)) (pz_gN (ρ 0)) (ρ 1 / 4))) := F151.2.2.2.2 hk
  refine ⟨(fun y hy => by cases hy), _, List.mem_cons_self, ρ, fun _ _ => rfl, ax_px hE rfl (fun x hx => ?_)⟩
  cases List.mem_singleton.mp hx
  refine (ax_XF_lt (x := 160) (Nat.le_of_ble_eq_true rfl)).mpr ?_
  show pz60 (pz_gt (ρ 0)) (pz_gN (ρ 0)) ((ρ 1) / 4) ((20) / 4)
  exact pz_wix_1 (k := 5) (by decide) (by omega)
theorem axq0_iv1_5 : ax_RO ax_wM0 (ax_XM 0) axu0_iv1_5 := axqg_iv1_5 ax_WW0
theorem axqg_iv2a_5 {w : ax_W} {b : Nat} (hw : ax_WW w) : ax_RO w (ax_XM b) axu0_iv2a_5 := by
  intro ρ hp hE hT
  have j0 : ρ 0 % 4 = 1 := pz_gj hE 0 (Nat.le_of_ble_eq_true rfl) rfl
  have j1 : ρ 1 % 4 = 1 := pz_gj hE 1 (Nat.le_of_ble_eq_true rfl) rfl
  obtain ⟨i2a, i2b, i2c, i2d⟩ := pz_gi hE 2 0 2147483649 (Nat.le_of_ble_eq_true rfl) rfl
  have c_token : ay_at hp 173 15 = some (ρ 2) := ay_gfj hE 702 60 11 173 15 ax_m1 (ax_vlq rfl rfl) (ax_vlj rfl rfl)
  obtain ⟨-, -, -, -, -, F151⟩ : ay_ex hp 173 ∧ ay_ex hp 173 ∧ ay_ex hp 173 ∧ ay_ex hp 173 ∧ ay_ex hp 173 ∧ pz_y151 (ρ 0) (ρ 1) (ay_at hp 173 13) (ay_at hp 173 14) (ay_at hp 173 15) (ay_at hp 173 16) (ay_at hp 173 17) := (ax_XF_lt (x := 151) (Nat.le_of_ble_eq_true rfl)).mp (ax_gx hE (151, [3, 7]) ax_m0)
  rw [c_token] at F151
  have ht : ρ 2 / 4 = pz_tok (pz_kd (pz_gt (ρ 0)) (pz_gN (ρ 0)) (pz_p (pz_cf (pz_gt (ρ 0)) (pz_gN (ρ 0)) (ρ 1 / 4)))) := F151.2.2.1
  have hc := pz_tok_c (pz_kd (pz_gt (ρ 0)) (pz_gN (ρ 0)) (pz_p (pz_cf (pz_gt (ρ 0)) (pz_gN (ρ 0)) (ρ 1 / 4))))
  have hk : pz_kd (pz_gt (ρ 0)) (pz_gN (ρ 0)) (pz_p (pz_cf (pz_gt (ρ 0)) (pz_gN (ρ 0)) (ρ 1 / 4))) ≠ 1 := (by rcases hc with h | h | h | h | h <;> omega)
  refine ⟨(fun y hy => by cases hy), _, List.mem_cons_self, ρ, fun _ _ => rfl, ax_px hE rfl (fun x hx => ?_)⟩
  cases List.mem_singleton.mp hx
  refine (ax_XF_lt (x := 161) (Nat.le_of_ble_eq_true rfl)).mpr ?_
  show pz61 (pz_gt (ρ 0)) (pz_gN (ρ 0)) ((ρ 1) / 4) ((20) / 4)
  exact pz_wd_no hk
theorem axq0_iv2a_5 : ax_RO ax_wM0 (ax_XM 0) axu0_iv2a_5 := axqg_iv2a_5 ax_WW0
theorem axqg_iv2b_5 {w : ax_W} {b : Nat} (hw : ax_WW w) : ax_RO w (ax_XM b) axu0_iv2b_5 := by
  intro ρ hp hE hT
  have j0 : ρ 0 % 4 = 1 := pz_gj hE 0 (Nat.le_of_ble_eq_true rfl) rfl
  have j1 : ρ 1 % 4 = 1 := pz_gj hE 1 (Nat.le_of_ble_eq_true rfl) rfl
  obtain ⟨i2a, i2b, i2c, i2d⟩ := pz_gi hE 2 2147483651 4294967295 (Nat.le_of_ble_eq_true rfl) rfl
  have c_token : ay_at hp 173 15 = some (ρ 2) := ay_gfj hE 702 60 11 173 15 ax_m1 (ax_vlq rfl rfl) (ax_vlj rfl rfl)
  obtain ⟨-, -, -, -, -, F151⟩ : ay_ex hp 173 ∧ ay_ex hp 173 ∧ ay_ex hp 173 ∧ ay_ex hp 173 ∧ ay_ex hp 173 ∧ pz_y151 (ρ 0) (ρ 1) (ay_at hp 173 13) (ay_at hp 173 14) (ay_at hp 173 15) (ay_at hp 173 16) (ay_at hp 173 17) := (ax_XF_lt (x := 151) (Nat.le_of_ble_eq_true rfl)).mp (ax_gx hE (151, [3, 7]) ax_m0)
  rw [c_token] at F151
  have ht : ρ 2 / 4 = pz_tok (pz_kd (pz_gt (ρ 0)) (pz_gN (ρ 0)) (pz_p (pz_cf (pz_gt (ρ 0)) (pz_gN (ρ 0)) (ρ 1 / 4)))) := F151.2.2.1
  have hc := pz_tok_c (pz_kd (pz_gt (ρ 0)) (pz_gN (ρ 0)) (pz_p (pz_cf (pz_gt (ρ 0)) (pz_gN (ρ 0)) (ρ 1 / 4))))
  have hk : pz_kd (pz_gt (ρ 0)) (pz_gN (ρ 0)) (pz_p (pz_cf (pz_gt (ρ 0)) (pz_gN (ρ 0)) (ρ 1 / 4))) ≠ 1 := (by rcases hc with h | h | h | h | h <;> omega)
  refine ⟨(fun y hy => by cases hy), _, List.mem_cons_self, ρ, fun _ _ => rfl, ax_px hE rfl (fun x hx => ?_)⟩
  cases List.mem_singleton.mp hx
  refine (ax_XF_lt (x := 161) (Nat.le_of_ble_eq_true rfl)).mpr ?_
  show pz61 (pz_gt (ρ 0)) (pz_gN (ρ 0)) ((ρ 1) / 4) ((20) / 4)
  exact pz_wd_no hk
theorem axq0_iv2b_5 : ax_RO ax_wM0 (ax_XM 0) axu0_iv2b_5 := axqg_iv2b_5 ax_WW0
theorem axqg_iv3a_5 {w : ax_W} {b : Nat} (hw : ax_WW w) : ax_RO w (ax_XM b) axu0_iv3a_5 := by
  intro ρ hp hE hT
  have j0 : ρ 0 % 4 = 1 := pz_gj hE 0 (Nat.le_of_ble_eq_true rfl) rfl
  have j1 : ρ 1 % 4 = 1 := pz_gj hE 1 (Nat.le_of_ble_eq_true rfl) rfl
  obtain ⟨i2a, i2b, i2c, i2d⟩ := pz_gi hE 2 0 2147483652 (Nat.le_of_ble_eq_true rfl) rfl
  have c_word : ay_at hp 173 17 = some (ρ 2) := ay_gfj hE 702 68 11 173 17 ax_m1 (ax_vlq rfl rfl) (ax_vlj rfl rfl)
  obtain ⟨-, -, -, -, -, F151⟩ : ay_ex hp 173 ∧ ay_ex hp 173 ∧ ay_ex hp 173 ∧ ay_ex hp 173 ∧ ay_ex hp 173 ∧ pz_y151 (ρ 0) (ρ 1) (ay_at hp 173 13) (ay_at hp 173 14) (ay_at hp 173 15) (ay_at hp 173 16) (ay_at hp 173 17) := (ax_XF_lt (x := 151) (Nat.le_of_ble_eq_true rfl)).mp (ax_gx hE (151, [3, 7]) ax_m0)
  rw [c_word] at F151
  refine ⟨(fun y hy => by cases hy), _, List.mem_cons_self, ρ, fun _ _ => rfl, ax_px hE rfl (fun x hx => ?_)⟩
  cases List.mem_singleton.mp hx
  refine (ax_XF_lt (x := 161) (Nat.le_of_ble_eq_true rfl)).mpr ?_
  show pz61 (pz_gt (ρ 0)) (pz_gN (ρ 0)) ((ρ 1) / 4) ((20) / 4)
  by_cases hk : pz_kd (pz_gt (ρ 0)) (pz_gN (ρ 0)) (pz_p (pz_cf (pz_gt (ρ 0)) (pz_gN (ρ 0)) (ρ 1 / 4))) = 1
  · have hw : ρ 2 / 4 = pz_wix (pz_gt (ρ 0)) (pz_gN (ρ 0)) (pz_p (pz_cf (pz_gt (ρ 0)) (pz_gN (ρ 0)) (ρ 1 / 4))) := F151.2.2.2.2 hk
    exact pz_wix_2 (k := 5) (by decide) (by omega)
  · exact pz_wd_no hk
theorem axq0_iv3a_5 : ax_RO ax_wM0 (ax_XM 0) axu0_iv3a_5 := axqg_iv3a_5 ax_WW0
theorem axqg_iv3b_5 {w : ax_W} {b : Nat} (hw : ax_WW w) : ax_RO w (ax_XM b) axu0_iv3b_5 := by
  intro ρ hp hE hT
  have j0 : ρ 0 % 4 = 1 := pz_gj hE 0 (Nat.le_of_ble_eq_true rfl) rfl
  have j1 : ρ 1 % 4 = 1 := pz_gj hE 1 (Nat.le_of_ble_eq_true rfl) rfl
  obtain ⟨i2a, i2b, i2c, i2d⟩ := pz_gi hE 2 2147483654 4294967295 (Nat.le_of_ble_eq_true rfl) rfl
  have c_word : ay_at hp 173 17 = some (ρ 2) := ay_gfj hE 702 68 11 173 17 ax_m1 (ax_vlq rfl rfl) (ax_vlj rfl rfl)
  obtain ⟨-, -, -, -, -, F151⟩ : ay_ex hp 173 ∧ ay_ex hp 173 ∧ ay_ex hp 173 ∧ ay_ex hp 173 ∧ ay_ex hp 173 ∧ pz_y151 (ρ 0) (ρ 1) (ay_at hp 173 13) (ay_at hp 173 14) (ay_at hp 173 15) (ay_at hp 173 16) (ay_at hp 173 17) := (ax_XF_lt (x := 151) (Nat.le_of_ble_eq_true rfl)).mp (ax_gx hE (151, [3, 7]) ax_m0)
  rw [c_word] at F151
  refine ⟨(fun y hy => by cases hy), _, List.mem_cons_self, ρ, fun _ _ => rfl, ax_px hE rfl (fun x hx => ?_)⟩
  cases List.mem_singleton.mp hx
  refine (ax_XF_lt (x := 161) (Nat.le_of_ble_eq_true rfl)).mpr ?_
  show pz61 (pz_gt (ρ 0)) (pz_gN (ρ 0)) ((ρ 1) / 4) ((20) / 4)
  by_cases hk : pz_kd (pz_gt (ρ 0)) (pz_gN (ρ 0)) (pz_p (pz_cf (pz_gt (ρ 0)) (pz_gN (ρ 0)) (ρ 1 / 4))) = 1
  · have hw : ρ 2 / 4 = pz_wix (pz_gt (ρ 0)) (pz_gN (ρ 0)) (pz_p (pz_cf (pz_gt (ρ 0)) (pz_gN (ρ 0)) (ρ 1 / 4))) := F151.2.2.2.2 hk
    exact pz_wix_2 (k := 5) (by decide) (by omega)
  · exact pz_wd_no hk
theorem axq0_iv3b_5 : ax_RO ax_wM0 (ax_XM 0) axu0_iv3b_5 := axqg_iv3b_5 ax_WW0
theorem axqg_iv1_6 {w : ax_W} {b : Nat} (hw : ax_WW w) : ax_RO w (ax_XM b) axu0_iv1_6 := by
  intro ρ hp hE hT
  have j0 : ρ 0 % 4 = 1 := pz_gj hE 0 (Nat.le_of_ble_eq_true rfl) rfl
  have j1 : ρ 1 % 4 = 1 := pz_gj hE 1 (Nat.le_of_ble_eq_true rfl) rfl
  obtain ⟨i2a, i2b, i2c, i2d⟩ := pz_gi hE 2 2147483650 2147483650 (Nat.le_of_ble_eq_true rfl) rfl
  obtain ⟨i3a, i3b, i3c, i3d⟩ := pz_gi hE 3 2147483654 2147483654 (Nat.le_of_ble_eq_true rfl) rfl
  have c_token : ay_at hp 173 15 = some (ρ 2) := ay_gfj hE 702 60 11 173 15 ax_m1 (ax_vlq rfl rfl) (ax_vlj rfl rfl)
  have c_word : ay_at hp 173 17 = some (ρ 3) := ay_gfj hE 702 68 15 173 17 ax_m2 (ax_vlq rfl rfl) (ax_vlj rfl rfl)
  obtain ⟨-, -, -, -, -, F151⟩ : ay_ex hp 173 ∧ ay_ex hp 173 ∧ ay_ex hp 173 ∧ ay_ex hp 173 ∧ ay_ex hp 173 ∧ pz_y151 (ρ 0) (ρ 1) (ay_at hp 173 13) (ay_at hp 173 14) (ay_at hp 173 15) (ay_at hp 173 16) (ay_at hp 173 17) := (ax_XF_lt (x := 151) (Nat.le_of_ble_eq_true rfl)).mp (ax_gx hE (151, [3, 7]) ax_m0)
  rw [c_token] at F151
  rw [c_word] at F151
  have ht : ρ 2 / 4 = pz_tok (pz_kd (pz_gt (ρ 0)) (pz_gN (ρ 0)) (pz_p (pz_cf (pz_gt (ρ 0)) (pz_gN (ρ 0)) (ρ 1 / 4)))) := F151.2.2.1
  have hc := pz_tok_c (pz_kd (pz_gt (ρ 0)) (pz_gN (ρ 0)) (pz_p (pz_cf (pz_gt (ρ 0)) (pz_gN (ρ 0)) (ρ 1 / 4))))
  have hk : pz_kd (pz_gt (ρ 0)) (pz_gN (ρ 0)) (pz_p (pz_cf (pz_gt (ρ 0)) (pz_gN (ρ 0)) (ρ 1 / 4))) = 1 := (by rcases hc with h | h | h | h | h <;> omega)
  have hw : ρ 3 / 4 = pz_wix (pz_gt (ρ 0)) (pz_gN (ρ 0)) (pz_p (pz_cf (pz_gt (ρ 0)) (pz_gN (ρ 0)) (ρ 1 / 4))) := F151.2.2.2.2 hk
  refine ⟨(fun y hy => by cases hy), _, List.mem_cons_self, ρ, fun _ _ => rfl, ax_px hE rfl (fun x hx => ?_)⟩
  cases List.mem_singleton.mp hx
  refine (ax_XF_lt (x := 160) (Nat.le_of_ble_eq_true rfl)).mpr ?_
  show pz60 (pz_gt (ρ 0)) (pz_gN (ρ 0)) ((ρ 1) / 4) ((24) / 4)
  exact pz_wix_1 (k := 6) (by decide) (by omega)
theorem axq0_iv1_6 : ax_RO ax_wM0 (ax_XM 0) axu0_iv1_6 := axqg_iv1_6 ax_WW0
theorem axqg_iv2a_6 {w : ax_W} {b : Nat} (hw : ax_WW w) : ax_RO w (ax_XM b) axu0_iv2a_6 := by
  intro ρ hp hE hT
  have j0 : ρ 0 % 4 = 1 := pz_gj hE 0 (Nat.le_of_ble_eq_true rfl) rfl
  have j1 : ρ 1 % 4 = 1 := pz_gj hE 1 (Nat.le_of_ble_eq_true rfl) rfl
  obtain ⟨i2a, i2b, i2c, i2d⟩ := pz_gi hE 2 0 2147483649 (Nat.le_of_ble_eq_true rfl) rfl
  have c_token : ay_at hp 173 15 = some (ρ 2) := ay_gfj hE 702 60 11 173 15 ax_m1 (ax_vlq rfl rfl) (ax_vlj rfl rfl)
  obtain ⟨-, -, -, -, -, F151⟩ : ay_ex hp 173 ∧ ay_ex hp 173 ∧ ay_ex hp 173 ∧ ay_ex hp 173 ∧ ay_ex hp 173 ∧ pz_y151 (ρ 0) (ρ 1) (ay_at hp 173 13) (ay_at hp 173 14) (ay_at hp 173 15) (ay_at hp 173 16) (ay_at hp 173 17) := (ax_XF_lt (x := 151) (Nat.le_of_ble_eq_true rfl)).mp (ax_gx hE (151, [3, 7]) ax_m0)
  rw [c_token] at F151
  have ht : ρ 2 / 4 = pz_tok (pz_kd (pz_gt (ρ 0)) (pz_gN (ρ 0)) (pz_p (pz_cf (pz_gt (ρ 0)) (pz_gN (ρ 0)) (ρ 1 / 4)))) := F151.2.2.1
  have hc := pz_tok_c (pz_kd (pz_gt (ρ 0)) (pz_gN (ρ 0)) (pz_p (pz_cf (pz_gt (ρ 0)) (pz_gN (ρ 0)) (ρ 1 / 4))))
  have hk : pz_kd (pz_gt (ρ 0)) (pz_gN (ρ 0)) (pz_p (pz_cf (pz_gt (ρ 0)) (pz_gN (ρ 0)) (ρ 1 / 4))) ≠ 1 := (by rcases hc with h | h | h | h | h <;> omega)
  refine ⟨(fun y hy => by cases hy), _, List.mem_cons_self, ρ, fun _ _ => rfl, ax_px hE rfl (fun x hx => ?_)⟩
  cases List.mem_singleton.mp hx
  refine (ax_XF_lt (x := 161) (Nat.le_of_ble_eq_true rfl)).mpr ?_
  show pz61 (pz_gt (ρ 0)) (pz_gN (ρ 0)) ((ρ 1) / 4) ((24) / 4)
  exact pz_wd_no hk
theorem axq0_iv2a_6 : ax_RO ax_wM0 (ax_XM 0) axu0_iv2a_6 := axqg_iv2a_6 ax_WW0
theorem axqg_iv2b_6 {w : ax_W} {b : Nat} (hw : ax_WW w) : ax_RO w (ax_XM b) axu0_iv2b_6 := by
  intro ρ hp hE hT
  have j0 : ρ 0 % 4 = 1 := pz_gj hE 0 (Nat.le_of_ble_eq_true rfl) rfl
  have j1 : ρ 1 % 4 = 1 := pz_gj hE 1 (Nat.le_of_ble_eq_true rfl) rfl
  obtain ⟨i2a, i2b, i2c, i2d⟩ := pz_gi hE 2 2147483651 4294967295 (Nat.le_of_ble_eq_true rfl) rfl
  have c_token : ay_at hp 173 15 = some (ρ 2) := ay_gfj hE 702 60 11 173 15 ax_m1 (ax_vlq rfl rfl) (ax_vlj rfl rfl)
  obtain ⟨-, -, -, -, -, F151⟩ : ay_ex hp 173 ∧ ay_ex hp 173 ∧ ay_ex hp 173 ∧ ay_ex hp 173 ∧ ay_ex hp 173 ∧ pz_y151 (ρ 0) (ρ 1) (ay_at hp 173 13) (ay_at hp 173 14) (ay_at hp 173 15) (ay_at hp 173 16) (ay_at hp 173 17) := (ax_XF_lt (x := 151) (Nat.le_of_ble_eq_true rfl)).mp (ax_gx hE (151, [3, 7]) ax_m0)
  rw [c_token] at F151
  have ht : ρ 2 / 4 = pz_tok (pz_kd (pz_gt (ρ 0)) (pz_gN (ρ 0)) (pz_p (pz_cf (pz_gt (ρ 0)) (pz_gN (ρ 0)) (ρ 1 / 4)))) := F151.2.2.1
  have hc := pz_tok_c (pz_kd (pz_gt (ρ 0)) (pz_gN (ρ 0)) (pz_p (pz_cf (pz_gt (ρ 0)) (pz_gN (ρ 0)) (ρ 1 / 4))))
  have hk : pz_kd (pz_gt (ρ 0)) (pz_gN (ρ 0)) (pz_p (pz_cf (pz_gt (ρ 0)) (pz_gN (ρ 0)) (ρ 1 / 4))) ≠ 1 := (by rcases hc with h | h | h | h | h <;> omega)
  refine ⟨(fun y hy => by cases hy), _, List.mem_cons_self, ρ, fun _ _ => rfl, ax_px hE rfl (fun x hx => ?_)⟩
  cases List.mem_singleton.mp hx
  refine (ax_XF_lt (x := 161) (Nat.le_of_ble_eq_true rfl)).mpr ?_
  show pz61 (pz_gt (ρ 0)) (pz_gN (ρ 0)) ((ρ 1) / 4) ((24) / 4)
  exact pz_wd_no hk
theorem axq0_iv2b_6 : ax_RO ax_wM0 (ax_XM 0) axu0_iv2b_6 := axqg_iv2b_6 ax_WW0
theorem axqg_iv3a_6 {w : ax_W} {b : Nat} (hw : ax_WW w) : ax_RO w (ax_XM b) axu0_iv3a_6 := by
  intro ρ hp hE hT
  have j0 : ρ 0 % 4 = 1 := pz_gj hE 0 (Nat.le_of_ble_eq_true rfl) rfl
  have j1 : ρ 1 % 4 = 1 := pz_gj hE 1 (Nat.le_of_ble_eq_true rfl) rfl
  obtain ⟨i2a, i2b, i2c, i2d⟩ := pz_gi hE 2 0 2147483653 (Nat.le_of_ble_eq_true rfl) rfl
  have c_word : ay_at hp 173 17 = some (ρ 2) := ay_gfj hE 702 68 11 173 17 ax_m1 (ax_vlq rfl rfl) (ax_vlj rfl rfl)
  obtain ⟨-, -, -, -, -, F151⟩ : ay_ex hp 173 ∧ ay_ex hp 173 ∧ ay_ex hp 173 ∧ ay_ex hp 173 ∧ ay_ex hp 173 ∧ pz_y151 (ρ 0) (ρ 1) (ay_at hp 173 13) (ay_at hp 173 14) (ay_at hp 173 15) (ay_at hp 173 16) (ay_at hp 173 17) := (ax_XF_lt (x := 151) (Nat.le_of_ble_eq_true rfl)).mp (ax_gx hE (151, [3, 7]) ax_m0)
  rw [c_word] at F151
  refine ⟨(fun y hy => by cases hy), _, List.mem_cons_self, ρ, fun _ _ => rfl, ax_px hE rfl (fun x hx => ?_)⟩
  cases List.mem_singleton.mp hx
  refine (ax_XF_lt (x := 161) (Nat.le_of_ble_eq_true rfl)).mpr ?_
  show pz61 (pz_gt (ρ 0)) (pz_gN (ρ 0)) ((ρ 1) / 4) ((24) / 4)
  by_cases hk : pz_kd (pz_gt (ρ 0)) (pz_gN (ρ 0)) (pz_p (pz_cf (pz_gt (ρ 0)) (pz_gN (ρ 0)) (ρ 1 / 4))) = 1
  · have hw : ρ 2 / 4 = pz_wix (pz_gt (ρ 0)) (pz_gN (ρ 0)) (pz_p (pz_cf (pz_gt (ρ 0)) (pz_gN (ρ 0)) (ρ 1 / 4))) := F151.2.2.2.2 hk
    exact pz_wix_2 (k := 6) (by decide) (by omega)
  · exact pz_wd_no hk
theorem axq0_iv3a_6 : ax_RO ax_wM0 (ax_XM 0) axu0_iv3a_6 := axqg_iv3a_6 ax_WW0
theorem axqg_iv3b_6 {w : ax_W} {b : Nat} (hw : ax_WW w) : ax_RO w (ax_XM b) axu0_iv3b_6 := by
  intro ρ hp hE hT
  have j0 : ρ 0 % 4 = 1 := pz_gj hE 0 (Nat.le_of_ble_eq_true rfl) rfl
  have j1 : ρ 1 % 4 = 1 := pz_gj hE 1 (Nat.le_of_ble_eq_true rfl) rfl
  obtain ⟨i2a, i2b, i2c, i2d⟩ := pz_gi hE 2 2147483655 4294967295 (Nat.le_of_ble_eq_true rfl) rfl
  have c_word : ay_at hp 173 17 = some (ρ 2) := ay_gfj hE 702 68 11 173 17 ax_m1 (ax_vlq rfl rfl) (ax_vlj rfl rfl)
  obtain ⟨-, -, -, -, -, F151⟩ : ay_ex hp 173 ∧ ay_ex hp 173 ∧ ay_ex hp 173 ∧ ay_ex hp 173 ∧ ay_ex hp 173 ∧ pz_y151 (ρ 0) (ρ 1) (ay_at hp 173 13) (ay_at hp 173 14) (ay_at hp 173 15) (ay_at hp 173 16) (ay_at hp 173 17) := (ax_XF_lt (x := 151) (Nat.le_of_ble_eq_true rfl)).mp (ax_gx hE (151, [3, 7]) ax_m0)
  rw [c_word] at F151
  refine ⟨(fun y hy => by cases hy), _, List.mem_cons_self, ρ, fun _ _ => rfl, ax_px hE rfl (fun x hx => ?_)⟩
  cases List.mem_singleton.mp hx
  refine (ax_XF_lt (x := 161) (Nat.le_of_ble_eq_true rfl)).mpr ?_
  show pz61 (pz_gt (ρ 0)) (pz_gN (ρ 0)) ((ρ 1) / 4) ((24) / 4)
  by_cases hk : pz_kd (pz_gt (ρ 0)) (pz_gN (ρ 0)) (pz_p (pz_cf (pz_gt (ρ 0)) (pz_gN (ρ 0)) (ρ 1 / 4))) = 1
  · have hw : ρ 2 / 4 = pz_wix (pz_gt (ρ 0)) (pz_gN (ρ 0)) (pz_p (pz_cf (pz_gt (ρ 0)) (pz_gN (ρ 0)) (ρ 1 / 4))) := F151.2.2.2.2 hk
    exact pz_wix_2 (k := 6) (by decide) (by omega)
  · exact pz_wd_no hk
theorem axq0_iv3b_6 : ax_RO ax_wM0 (ax_XM 0) axu0_iv3b_6 := axqg_iv3b_6 ax_WW0
theorem axqg_iv1_7 {w : ax_W} {b : Nat} (hw : ax_WW w) : ax_RO w (ax_XM b) axu0_iv1_7 := by
  intro ρ hp hE hT
  have j0 : ρ 0 % 4 = 1 := pz_gj hE 0 (Nat.le_of_ble_eq_true rfl) rfl
  have j1 : ρ 1 % 4 = 1 := pz_gj hE 1 (Nat.le_of_ble_eq_true rfl) rfl
  obtain ⟨i2a, i2b, i2c, i2d⟩ := pz_gi hE 2 2147483650 2147483650 (Nat.le_of_ble_eq_true rfl) rfl
  obtain ⟨i3a, i3b, i3c, i3d⟩ := pz_gi hE 3 2147483655 2147483655 (Nat.le_of_ble_eq_true rfl) rfl
  have c_token : ay_at hp 173 15 = some (ρ 2) := ay_gfj hE 702 60 11 173 15 ax_m1 (ax_vlq rfl rfl) (ax_vlj rfl rfl)
  have c_word : ay_at hp 173 17 = some (ρ 3) := ay_gfj hE 702 68 15 173 17 ax_m2 (ax_vlq rfl rfl) (ax_vlj rfl rfl)
  obtain ⟨-, -, -, -, -, F151⟩ : ay_ex hp 173 ∧ ay_ex hp 173 ∧ ay_ex hp 173 ∧ ay_ex hp 173 ∧ ay_ex hp 173 ∧ pz_y151 (ρ 0) (ρ 1) (ay_at hp 173 13) (ay_at hp 173 14) (ay_at hp 173 15) (ay_at hp 173 16) (ay_at hp 173 17) := (ax_XF_lt (x := 151) (Nat.le_of_ble_eq_true rfl)).mp (ax_gx hE (151, [3, 7]) ax_m0)
  rw [c_token] at F151
  rw [c_word] at F151
  have ht : ρ 2 / 4 = pz_tok (pz_kd (pz_gt (ρ 0)) (pz_gN (ρ 0)) (pz_p (pz_cf (pz_gt (ρ 0)) (pz_gN (ρ 0)) (ρ 1 / 4)))) := F151.2.2.1
  have hc := pz_tok_c (pz_kd (pz_gt (ρ 0)) (pz_gN (ρ 0)) (pz_p (pz_cf (pz_gt (ρ 0)) (pz_gN (ρ 0)) (ρ 1 / 4))))
  have hk : pz_kd (pz_gt (ρ 0)) (pz_gN (ρ 0)) (pz_p (pz_cf (pz_gt (ρ 0)) (pz_gN (ρ 0)) (ρ 1 / 4))) = 1 := (by rcases hc with h | h | h | h | h <;> omega)
  have hw : ρ 3 / 4 = pz_wix (pz_gt (ρ 0)) (pz_gN (ρ 0)) (pz_p (pz_cf (pz_gt (ρ 0)) (pz_gN (ρ 0)) (ρ 1 / 4))) := F151.2.2.2.2 hk
  refine ⟨(fun y hy => by cases hy), _, List.mem_cons_self, ρ, fun _ _ => rfl, ax_px hE rfl (fun x hx => ?_)⟩
  cases List.mem_singleton.mp hx
  refine (ax_XF_lt (x := 160) (Nat.le_of_ble_eq_true rfl)).mpr ?_
  show pz60 (pz_gt (ρ 0)) (pz_gN (ρ 0)) ((ρ 1) / 4) ((28) / 4)
  exact pz_wix_1 (k := 7) (by decide) (by omega)
theorem axq0_iv1_7 : ax_RO ax_wM0 (ax_XM 0) axu0_iv1_7 := axqg_iv1_7 ax_WW0
theorem axqg_iv2a_7 {w : ax_W} {b : Nat} (hw : ax_WW w) : ax_RO w (ax_XM b) axu0_iv2a_7 := by
  intro ρ hp hE hT
  have j0 : ρ 0 % 4 = 1 := pz_gj hE 0 (Nat.le_of_ble_eq_true rfl) rfl
  have j1 : ρ 1 % 4 = 1 := pz_gj hE 1 (Nat.le_of_ble_eq_true rfl) rfl
  obtain ⟨i2a, i2b, i2c, i2d⟩ := pz_gi hE 2 0 2147483649 (Nat.le_of_ble_eq_true rfl) rfl
  have c_token : ay_at hp 173 15 = some (ρ 2) := ay_gfj hE 702 60 11 173 15 ax_m1 (ax_vlq rfl rfl) (ax_vlj rfl rfl)
  obtain ⟨-, -, -, -, -, F151⟩ : ay_ex hp 173 ∧ ay_ex hp 173 ∧ ay_ex hp 173 ∧ ay_ex hp 173 ∧ ay_ex hp 173 ∧ pz_y151 (ρ 0) (ρ 1) (ay_at hp 173 13) (ay_at hp 173 14) (ay_at hp 173 15) (ay_at hp 173 16) (ay_at hp 173 17) := (ax_XF_lt (x := 151) (Nat.le_of_ble_eq_true rfl)).mp (ax_gx hE (151, [3, 7]) ax_m0)
  rw [c_token] at F151
  have ht : ρ 2 / 4 = pz_tok (pz_kd (pz_gt (ρ 0)) (pz_gN (ρ 0)) (pz_p (pz_cf (pz_gt (ρ 0)) (pz_gN (ρ 0)) (ρ 1 / 4)))) := F151.2.2.1
  have hc := pz_tok_c (pz_kd (pz_gt (ρ 0)) (pz_gN (ρ 0)) (pz_p (pz_cf (pz_gt (ρ 0)) (pz_gN (ρ 0)) (ρ 1 / 4))))
  have hk : pz_kd (pz_gt (ρ 0)) (pz_gN (ρ 0)) (pz_p (pz_cf (pz_gt (ρ 0)) (pz_gN (ρ 0)) (ρ 1 / 4))) ≠ 1 := (by rcases hc with h | h | h | h | h <;> omega)
  refine ⟨(fun y hy => by cases hy), _, List.mem_cons_self, ρ, fun _ _ => rfl, ax_px hE rfl (fun x hx => ?_)⟩
  cases List.mem_singleton.mp hx
  refine (ax_XF_lt (x := 161) (Nat.le_of_ble_eq_true rfl)).mpr ?_
  show pz61 (pz_gt (ρ 0)) (pz_gN (ρ 0)) ((ρ 1) / 4) ((28) / 4)
  exact pz_wd_no hk
theorem axq0_iv2a_7 : ax_RO ax_wM0 (ax_XM 0) axu0_iv2a_7 := axqg_iv2a_7 ax_WW0
theorem axqg_iv2b_7 {w : ax_W} {b : Nat} (hw : ax_WW w) : ax_RO w (ax_XM b) axu0_iv2b_7 := by
  intro ρ hp hE hT
  have j0 : ρ 0 % 4 = 1 := pz_gj hE 0 (Nat.le_of_ble_eq_true rfl) rfl
  have j1 : ρ 1 % 4 = 1 := pz_gj hE 1 (Nat.le_of_ble_eq_true rfl) rfl
  obtain ⟨i2a, i2b, i2c, i2d⟩ := pz_gi hE 2 2147483651 4294967295 (Nat.le_of_ble_eq_true rfl) rfl
  have c_token : ay_at hp 173 15 = some (ρ 2) := ay_gfj hE 702 60 11 173 15 ax_m1 (ax_vlq rfl rfl) (ax_vlj rfl rfl)
  obtain ⟨-, -, -, -, -, F151⟩ : ay_ex hp 173 ∧ ay_ex hp 173 ∧ ay_ex hp 173 ∧ ay_ex hp 173 ∧ ay_ex hp 173 ∧ pz_y151 (ρ 0) (ρ 1) (ay_at hp 173 13) (ay_at hp 173 14) (ay_at hp 173 15) (ay_at hp 173 16) (ay_at hp 173 17) := (ax_XF_lt (x := 151) (Nat.le_of_ble_eq_true rfl)).mp (ax_gx hE (151, [3, 7]) ax_m0)
  rw [c_token] at F151
  have ht : ρ 2 / 4 = pz_tok (pz_kd (pz_gt (ρ 0)) (pz_gN (ρ 0)) (pz_p (pz_cf (pz_gt (ρ 0)) (pz_gN (ρ 0)) (ρ 1 / 4)))) := F151.2.2.1
  have hc := pz_tok_c (pz_kd (pz_gt (ρ 0)) (pz_gN (ρ 0)) (pz_p (pz_cf (pz_gt (ρ 0)) (pz_gN (ρ 0)) (ρ 1 / 4))))
  have hk : pz_kd (pz_gt (ρ 0)) (pz_gN (ρ 0)) (pz_p (pz_cf (pz_gt (ρ 0)) (pz_gN (ρ 0)) (ρ 1 / 4))) ≠ 1 := (by rcases hc with h | h | h | h | h <;> omega)
  refine ⟨(fun y hy => by cases hy), _, List.mem_cons_self, ρ, fun _ _ => rfl, ax_px hE rfl (fun x hx => ?_)⟩
  cases List.mem_singleton.mp hx
  refine (ax_XF_lt (x := 161) (Nat.le_of_ble_eq_true rfl)).mpr ?_
  show pz61 (pz_gt (ρ 0)) (pz_gN (ρ 0)) ((ρ 1) / 4) ((28) / 4)
  exact pz_wd_no hk
theorem axq0_iv2b_7 : ax_RO ax_wM0 (ax_XM 0) axu0_iv2b_7 := axqg_iv2b_7 ax_WW0
theorem axqg_iv3a_7 {w : ax_W} {b : Nat} (hw : ax_WW w) : ax_RO w (ax_XM b) axu0_iv3a_7 := by
  intro ρ hp hE hT
  have j0 : ρ 0 % 4 = 1 := pz_gj hE 0 (Nat.le_of_ble_eq_true rfl) rfl
  have j1 : ρ 1 % 4 = 1 := pz_gj hE 1 (Nat.le_of_ble_eq_true rfl) rfl
  obtain ⟨i2a, i2b, i2c, i2d⟩ := pz_gi hE 2 0 2147483654 (Nat.le_of_ble_eq_true rfl) rfl
  have c_word : ay_at hp 173 17 = some (ρ 2) := ay_gfj hE 702 68 11 173 17 ax_m1 (ax_vlq rfl rfl) (ax_vlj rfl rfl)
  obtain ⟨-, -, -, -, -, F151⟩ : ay_ex hp 173 ∧ ay_ex hp 173 ∧ ay_ex hp 173 ∧ ay_ex hp 173 ∧ ay_ex hp 173 ∧ pz_y151 (ρ 0) (ρ 1) (ay_at hp 173 13) (ay_at hp 173 14) (ay_at hp 173 15) (ay_at hp 173 16) (ay_at hp 173 17) := (ax_XF_lt (x := 151) (Nat.le_of_ble_eq_true rfl)).mp (ax_gx hE (151, [3, 7]) ax_m0)
  rw [c_word] at F151
  refine ⟨(fun y hy => by cases hy), _, List.mem_cons_self, ρ, fun _ _ => rfl, ax_px hE rfl (fun x hx => ?_)⟩
  cases List.mem_singleton.mp hx
  refine (ax_XF_lt (x := 161) (Nat.le_of_ble_eq_true rfl)).mpr ?_
  show pz61 (pz_gt (ρ 0)) (pz_gN (ρ 0)) ((ρ 1) / 4) ((28) / 4)
  by_cases hk : pz_kd (pz_gt (ρ 0)) (pz_gN (ρ 0)) (pz_p (pz_cf (pz_gt (ρ 0)) (pz_gN (ρ 0)) (ρ 1 / 4))) = 1
  · have hw : ρ 2 / 4 = pz_wix (pz_gt (ρ 0)) (pz_gN (ρ 0)) (pz_p (pz_cf (pz_gt (ρ 0)) (pz_gN (ρ 0)) (ρ 1 / 4))) := F151.2.2.2.2 hk
    exact pz_wix_2 (k := 7) (by decide) (by omega)
  · exact pz_wd_no hk
theorem axq0_iv3a_7 : ax_RO ax_wM0 (ax_XM 0) axu0_iv3a_7 := axqg_iv3a_7 ax_WW0
theorem axqg_iv3b_7 {w : ax_W} {b : Nat} (hw : ax_WW w) : ax_RO w (ax_XM b) axu0_iv3b_7 := by
  intro ρ hp hE hT
  have j0 : ρ 0 % 4 = 1 := pz_gj hE 0 (Nat.le_of_ble_eq_true rfl) rfl
  have j1 : ρ 1 % 4 = 1 := pz_gj hE 1 (Nat.le_of_ble_eq_true rfl) rfl
  obtain ⟨i2a, i2b, i2c, i2d⟩ := pz_gi hE 2 2147483656 4294967295 (Nat.le_of_ble_eq_true rfl) rfl
  have c_word : ay_at hp 173 17 = some (ρ 2) := ay_gfj hE 702 68 11 173 17 ax_m1 (ax_vlq rfl rfl) (ax_vlj rfl rfl)
  obtain ⟨-, -, -, -, -, F151⟩ : ay_ex hp 173 ∧ ay_ex hp 173 ∧ ay_ex hp 173 ∧ ay_ex hp 173 ∧ ay_ex hp 173 ∧ pz_y151 (ρ 0) (ρ 1) (ay_at hp 173 13) (ay_at hp 173 14) (ay_at hp 173 15) (ay_at hp 173 16) (ay_at hp 173 17) := (ax_XF_lt (x := 151) (Nat.le_of_ble_eq_true rfl)).mp (ax_gx hE (151, [3, 7]) ax_m0)
  rw [c_word] at F151
  refine ⟨(fun y hy => by cases hy), _, List.mem_cons_self, ρ, fun _ _ => rfl, ax_px hE rfl (fun x hx => ?_)⟩
  cases List.mem_singleton.mp hx
  refine (ax_XF_lt (x := 161) (Nat.le_of_ble_eq_true rfl)).mpr ?_
  show pz61 (pz_gt (ρ 0)) (pz_gN (ρ 0)) ((ρ 1) / 4) ((28) / 4)
  by_cases hk : pz_kd (pz_gt (ρ 0)) (pz_gN (ρ 0)) (pz_p (pz_cf (pz_gt (ρ 0)) (pz_gN (ρ 0)) (ρ 1 / 4))) = 1
  · have hw : ρ 2 / 4 = pz_wix (pz_gt (ρ 0)) (pz_gN (ρ 0)) (pz_p (pz_cf (pz_gt (ρ 0)) (pz_gN (ρ 0)) (ρ 1 / 4))) := F151.2.2.2.2 hk
    exact pz_wix_2 (k := 7) (by decide) (by omega)
  · exact pz_wd_no hk
theorem axq0_iv3b_7 : ax_RO ax_wM0 (ax_XM 0) axu0_iv3b_7 := axqg_iv3b_7 ax_WW0
theorem axqg_nu1a_1 {w : ax_W} {b : Nat} (hw : ax_WW w) : ax_RO w (ax_XM b) axu0_nu1a_1 := by
  intro ρ hp hE hT
  have j0 : ρ 0 % 4 = 1 := pz_gj hE 0 (Nat.le_of_ble_eq_true rfl) rfl
  have j1 : ρ 1 % 4 = 1 := pz_gj hE 1 (Nat.le_of_ble_eq_true rfl) rfl
  obtain ⟨i2a, i2b, i2c, i2d⟩ := pz_gi hE 2 0 2147483650 (Nat.le_of_ble_eq_true rfl) rfl
  have c_token : ay_at hp 173 15 = some (ρ 2) := ay_gfj hE 702 60 11 173 15 ax_m2 (ax_vlq rfl rfl) (ax_vlj rfl rfl)
  obtain ⟨-, -, -, -, -, F151⟩ : ay_ex hp 173 ∧ ay_ex hp 173 ∧ ay_ex hp 173 ∧ ay_ex hp 173 ∧ ay_ex hp 173 ∧ pz_y151 (ρ 0) (ρ 1) (ay_at hp 173 13) (ay_at hp 173 14) (ay_at hp 173 15) (ay_at hp 173 16) (ay_at hp 173 17) := (ax_XF_lt (x := 151) (Nat.le_of_ble_eq_true rfl)).mp (ax_gx hE (151, [3, 7]) ax_m0)
  rw [c_token] at F151
  have F171 : pz7 (pz_gt (ρ 0)) (pz_gN (ρ 0)) ((ρ 1) / 4) 1 := (ax_XF_lt (x := 171) (Nat.le_of_ble_eq_true rfl)).mp (ax_gx hE (171, [3, 7]) ax_m1)
  have ht : ρ 2 / 4 = pz_tok (pz_kd (pz_gt (ρ 0)) (pz_gN (ρ 0)) (pz_p (pz_cf (pz_gt (ρ 0)) (pz_gN (ρ 0)) (ρ 1 / 4)))) := F151.2.2.1
  have hc := pz_tok_c (pz_kd (pz_gt (ρ 0)) (pz_gN (ρ 0)) (pz_p (pz_cf (pz_gt (ρ 0)) (pz_gN (ρ 0)) (ρ 1 / 4))))
  have hk : pz_kd (pz_gt (ρ 0)) (pz_gN (ρ 0)) (pz_p (pz_cf (pz_gt (ρ 0)) (pz_gN (ρ 0)) (ρ 1 / 4))) ≠ 2 := (by rcases hc with h | h | h | h | h <;> omega)
  refine ⟨(fun y hy => by cases hy), _, List.mem_cons_self, ρ, fun _ _ => rfl, ax_px hE rfl (fun x hx => ?_)⟩
  cases List.mem_singleton.mp hx
  refine (ax_XF_lt (x := 164) (Nat.le_of_ble_eq_true rfl)).mpr ?_
  show pz64 (pz_gt (ρ 0)) (pz_gN (ρ 0)) ((ρ 1) / 4) ((4) / 4)
  exact pq_rn1 (by decide) F171 hk
theorem axq0_nu1a_1 : ax_RO ax_wM0 (ax_XM 0) axu0_nu1a_1 := axqg_nu1a_1 ax_WW0
theorem axqg_nu1b_1 {w : ax_W} {b : Nat} (hw : ax_WW w) : ax_RO w (ax_XM b) axu0_nu1b_1 := by
  intro ρ hp hE hT
  have j0 : ρ 0 % 4 = 1 := pz_gj hE 0 (Nat.le_of_ble_eq_true rfl) rfl
  have j1 : ρ 1 % 4 = 1 := pz_gj hE 1 (Nat.le_of_ble_eq_true rfl) rfl
  obtain ⟨i2a, i2b, i2c, i2d⟩ := pz_gi hE 2 2147483652 4294967295 (Nat.le_of_ble_eq_true rfl) rfl
  have c_token : ay_at hp 173 15 = some (ρ 2) := ay_gfj hE 702 60 11 173 15 ax_m2 (ax_vlq rfl rfl) (ax_vlj rfl rfl)
  obtain ⟨-, -, -, -, -, F151⟩ : ay_ex hp 173 ∧ ay_ex hp 173 ∧ ay_ex hp 173 ∧ ay_ex hp 173 ∧ ay_ex hp 173 ∧ pz_y151 (ρ 0) (ρ 1) (ay_at hp 173 13) (ay_at hp 173 14) (ay_at hp 173 15) (ay_at hp 173 16) (ay_at hp 173 17) := (ax_XF_lt (x := 151) (Nat.le_of_ble_eq_true rfl)).mp (ax_gx hE (151, [3, 7]) ax_m0)
  rw [c_token] at F151
  have F171 : pz7 (pz_gt (ρ 0)) (pz_gN (ρ 0)) ((ρ 1) / 4) 1 := (ax_XF_lt (x := 171) (Nat.le_of_ble_eq_true rfl)).mp (ax_gx hE (171, [3, 7]) ax_m1)
  have ht : ρ 2 / 4 = pz_tok (pz_kd (pz_gt (ρ 0)) (pz_gN (ρ 0)) (pz_p (pz_cf (pz_gt (ρ 0)) (pz_gN (ρ 0)) (ρ 1 / 4)))) := F151.2.2.1
  have hc := pz_tok_c (pz_kd (pz_gt (ρ 0)) (pz_gN (ρ 0)) (pz_p (pz_cf (pz_gt (ρ 0)) (pz_gN (ρ 0)) (ρ 1 / 4))))
  have hk : pz_kd (pz_gt (ρ 0)) (pz_gN (ρ 0)) (pz_p (pz_cf (pz_gt (ρ 0)) (pz_gN (ρ 0)) (ρ 1 / 4))) ≠ 2 := (by rcases hc with h | h | h | h | h <;> omega)
  refine ⟨(fun y hy => by cases hy), _, List.mem_cons_self, ρ, fun _ _ => rfl, ax_px hE rfl (fun x hx => ?_)⟩
  cases List.mem_singleton.mp hx
  refine (ax_XF_lt (x := 164) (Nat.le_of_ble_eq_true rfl)).mpr ?_
  show pz64 (pz_gt (ρ 0)) (pz_gN (ρ 0)) ((ρ 1) / 4) ((4) / 4)
  exact pq_rn1 (by decide) F171 hk
theorem axq0_nu1b_1 : ax_RO ax_wM0 (ax_XM 0) axu0_nu1b_1 := axqg_nu1b_1 ax_WW0
theorem axqg_nu2a_1 {w : ax_W} {b : Nat} (hw : ax_WW w) : ax_RO w (ax_XM b) axu0_nu2a_1 := by
  intro ρ hp hE hT
  have j0 : ρ 0 % 4 = 1 := pz_gj hE 0 (Nat.le_of_ble_eq_true rfl) rfl
  have j1 : ρ 1 % 4 = 1 := pz_gj hE 1 (Nat.le_of_ble_eq_true rfl) rfl
  obtain ⟨i2a, i2b, i2c, i2d⟩ := pz_gi hE 2 2147483651 2147483651 (Nat.le_of_ble_eq_true rfl) rfl
  obtain ⟨i3a, i3b, i3c, i3d⟩ := pz_gi hE 3 2147483648 2147483649 (Nat.le_of_ble_eq_true rfl) rfl
  have c_token : ay_at hp 173 15 = some (ρ 2) := ay_gfj hE 702 60 11 173 15 ax_m2 (ax_vlq rfl rfl) (ax_vlj rfl rfl)
  have c_number : ay_at hp 173 16 = some (ρ 3) := ay_gfj hE 702 64 15 173 16 ax_m3 (ax_vlq rfl rfl) (ax_vlj rfl rfl)
  obtain ⟨-, -, -, -, -, F151⟩ : ay_ex hp 173 ∧ ay_ex hp 173 ∧ ay_ex hp 173 ∧ ay_ex hp 173 ∧ ay_ex hp 173 ∧ pz_y151 (ρ 0) (ρ 1) (ay_at hp 173 13) (ay_at hp 173 14) (ay_at hp 173 15) (ay_at hp 173 16) (ay_at hp 173 17) := (ax_XF_lt (x := 151) (Nat.le_of_ble_eq_true rfl)).mp (ax_gx hE (151, [3, 7]) ax_m0)
  rw [c_token] at F151
  rw [c_number] at F151
  have F171 : pz7 (pz_gt (ρ 0)) (pz_gN (ρ 0)) ((ρ 1) / 4) 1 := (ax_XF_lt (x := 171) (Nat.le_of_ble_eq_true rfl)).mp (ax_gx hE (171, [3, 7]) ax_m1)
  have ht : ρ 2 / 4 = pz_tok (pz_kd (pz_gt (ρ 0)) (pz_gN (ρ 0)) (pz_p (pz_cf (pz_gt (ρ 0)) (pz_gN (ρ 0)) (ρ 1 / 4)))) := F151.2.2.1
  have hc := pz_tok_c (pz_kd (pz_gt (ρ 0)) (pz_gN (ρ 0)) (pz_p (pz_cf (pz_gt (ρ 0)) (pz_gN (ρ 0)) (ρ 1 / 4))))
  have hk : pz_kd (pz_gt (ρ 0)) (pz_gN (ρ 0)) (pz_p (pz_cf (pz_gt (ρ 0)) (pz_gN (ρ 0)) (ρ 1 / 4))) = 2 := (by rcases hc with h | h | h | h | h <;> omega)
  have vl := pz_mc (F151.2.2.2.1 hk)
  replace vl : (ρ 3 / 4 ≤ 1000 ∧ pz_vl (pz_gt (ρ 0)) (pz_gN (ρ 0)) (pz_p (pz_cf (pz_gt (ρ 0)) (pz_gN (ρ 0)) (ρ 1 / 4))) = ρ 3 / 4) ∨ (1000 < ρ 3 / 4 ∧ pz_vl (pz_gt (ρ 0)) (pz_gN (ρ 0)) (pz_p (pz_cf (pz_gt (ρ 0)) (pz_gN (ρ 0)) (ρ 1 / 4))) = 1000) := vl
  refine ⟨(fun y hy => by cases hy), _, List.mem_cons_self, ρ, fun _ _ => rfl, ax_px hE rfl (fun x hx => ?_)⟩
  cases List.mem_singleton.mp hx
  refine (ax_XF_lt (x := 164) (Nat.le_of_ble_eq_true rfl)).mpr ?_
  show pz64 (pz_gt (ρ 0)) (pz_gN (ρ 0)) ((ρ 1) / 4) ((8) / 4)
  exact pq_rn31 F171 hk (by omega)
theorem axq0_nu2a_1 : ax_RO ax_wM0 (ax_XM 0) axu0_nu2a_1 := axqg_nu2a_1 ax_WW0
theorem axqg_nu2b_1 {w : ax_W} {b : Nat} (hw : ax_WW w) : ax_RO w (ax_XM b) axu0_nu2b_1 := by
  intro ρ hp hE hT
  have j0 : ρ 0 % 4 = 1 := pz_gj hE 0 (Nat.le_of_ble_eq_true rfl) rfl
  have j1 : ρ 1 % 4 = 1 := pz_gj hE 1 (Nat.le_of_ble_eq_true rfl) rfl
  obtain ⟨i2a, i2b, i2c, i2d⟩ := pz_gi hE 2 2147483651 2147483651 (Nat.le_of_ble_eq_true rfl) rfl
  obtain ⟨i3a, i3b, i3c, i3d⟩ := pz_gi hE 3 2147483659 2147493647 (Nat.le_of_ble_eq_true rfl) rfl
  have c_token : ay_at hp 173 15 = some (ρ 2) := ay_gfj hE 702 60 11 173 15 ax_m2 (ax_vlq rfl rfl) (ax_vlj rfl rfl)
  have c_number : ay_at hp 173 16 = some (ρ 3) := ay_gfj hE 702 64 15 173 16 ax_m3 (ax_vlq rfl rfl) (ax_vlj rfl rfl)
  obtain ⟨-, -, -, -, -, F151⟩ : ay_ex hp 173 ∧ ay_ex hp 173 ∧ ay_ex hp 173 ∧ ay_ex hp 173 ∧ ay_ex hp 173 ∧ pz_y151 (ρ 0) (ρ 1) (ay_at hp 173 13) (ay_at hp 173 14) (ay_at hp 173 15) (ay_at hp 173 16) (ay_at hp 173 17) := (ax_XF_lt (x := 151) (Nat.le_of_ble_eq_true rfl)).mp (ax_gx hE (151, [3, 7]) ax_m0)
  rw [c_token] at F151
  rw [c_number] at F151
  have F171 : pz7 (pz_gt (ρ 0)) (pz_gN (ρ 0)) ((ρ 1) / 4) 1 := (ax_XF_lt (x := 171) (Nat.le_of_ble_eq_true rfl)).mp (ax_gx hE (171, [3, 7]) ax_m1)
  have ht : ρ 2 / 4 = pz_tok (pz_kd (pz_gt (ρ 0)) (pz_gN (ρ 0)) (pz_p (pz_cf (pz_gt (ρ 0)) (pz_gN (ρ 0)) (ρ 1 / 4)))) := F151.2.2.1
  have hc := pz_tok_c (pz_kd (pz_gt (ρ 0)) (pz_gN (ρ 0)) (pz_p (pz_cf (pz_gt (ρ 0)) (pz_gN (ρ 0)) (ρ 1 / 4))))
  have hk : pz_kd (pz_gt (ρ 0)) (pz_gN (ρ 0)) (pz_p (pz_cf (pz_gt (ρ 0)) (pz_gN (ρ 0)) (ρ 1 / 4))) = 2 := (by rcases hc with h | h | h | h | h <;> omega)
  have vl := pz_mc (F151.2.2.2.1 hk)
  replace vl : (ρ 3 / 4 ≤ 1000 ∧ pz_vl (pz_gt (ρ 0)) (pz_gN (ρ 0)) (pz_p (pz_cf (pz_gt (ρ 0)) (pz_gN (ρ 0)) (ρ 1 / 4))) = ρ 3 / 4) ∨ (1000 < ρ 3 / 4 ∧ pz_vl (pz_gt (ρ 0)) (pz_gN (ρ 0)) (pz_p (pz_cf (pz_gt (ρ 0)) (pz_gN (ρ 0)) (ρ 1 / 4))) = 1000) := vl
  refine ⟨(fun y hy => by cases hy), _, List.mem_cons_self, ρ, fun _ _ => rfl, ax_px hE rfl (fun x hx => ?_)⟩
  cases List.mem_singleton.mp hx
  refine (ax_XF_lt (x := 164) (Nat.le_of_ble_eq_true rfl)).mpr ?_
  show pz64 (pz_gt (ρ 0)) (pz_gN (ρ 0)) ((ρ 1) / 4) ((8) / 4)
  exact pq_rn31 F171 hk (by omega)
theorem axq0_nu2b_1 : ax_RO ax_wM0 (ax_XM 0) axu0_nu2b_1 := axqg_nu2b_1 ax_WW0
theorem axq0_nu3_1 : ax_RO ax_wM0 (ax_XM 0) axu0_nu3_1 := by
  intro ρ hp hE hT
  have j0 : ρ 0 % 4 = 1 := pz_gj hE 0 (Nat.le_of_ble_eq_true rfl) rfl
  have j1 : ρ 1 % 4 = 1 := pz_gj hE 1 (Nat.le_of_ble_eq_true rfl) rfl
  obtain ⟨i2a, i2b, i2c, i2d⟩ := pz_gi hE 2 2147483651 2147483651 (Nat.le_of_ble_eq_true rfl) rfl
  obtain ⟨i3a, i3b, i3c, i3d⟩ := pz_gi hE 3 2147483650 2147483658 (Nat.le_of_ble_eq_true rfl) rfl
  have c_token : ay_at hp 173 15 = some (ρ 2) := ay_gfj hE 702 60 11 173 15 ax_m3 (ax_vlq rfl rfl) (ax_vlj rfl rfl)
  have c_number : ay_at hp 173 16 = some (ρ 3) := ay_gfj hE 702 64 15 173 16 ax_m4 (ax_vlq rfl rfl) (ax_vlj rfl rfl)
  obtain ⟨-, -, -, -, -, F151⟩ : ay_ex hp 173 ∧ ay_ex hp 173 ∧ ay_ex hp 173 ∧ ay_ex hp 173 ∧ ay_ex hp 173 ∧ pz_y151 (ρ 0) (ρ 1) (ay_at hp 173 13) (ay_at hp 173 14) (ay_at hp 173 15) (ay_at hp 173 16) (ay_at hp 173 17) := (ax_XF_lt (x := 151) (Nat.le_of_ble_eq_true rfl)).mp (ax_gx hE (151, [3, 7]) ax_m0)
  rw [c_token] at F151
  rw [c_number] at F151
  obtain ⟨-, -, -, -, -, -, -, -, -, -, -, F152⟩ : ay_ex hp 175 ∧ ay_ex hp 176 ∧ ay_ex hp 177 ∧ ay_ex hp 178 ∧ ay_ex hp 179 ∧ ay_ex hp 173 ∧ ay_ex hp 173 ∧ ay_ex hp 173 ∧ ay_ex hp 173 ∧ ay_ex hp 173 ∧ ay_ex hp 181 ∧ pz_y152 1 (ρ 0) (ρ 1) (ay_at hp 175 1) (ay_at hp 176 1) (ay_at hp 177 1) (ay_at hp 178 1) (ay_at hp 179 1) (ay_at hp 173 23) (ay_at hp 173 25) (ay_at hp 173 24) (ay_at hp 173 18) (ay_at hp 173 19) (ay_at hp 181) := (ax_XF_lt (x := 152) (Nat.le_of_ble_eq_true rfl)).mp (ax_gx hE (152, [3, 7]) ax_m1)
  have F171 : pz7 (pz_gt (ρ 0)) (pz_gN (ρ 0)) ((ρ 1) / 4) 1 := (ax_XF_lt (x := 171) (Nat.le_of_ble_eq_true rfl)).mp (ax_gx hE (171, [3, 7]) ax_m2)
  have ht : ρ 2 / 4 = pz_tok (pz_kd (pz_gt (ρ 0)) (pz_gN (ρ 0)) (pz_p (pz_cf (pz_gt (ρ 0)) (pz_gN (ρ 0)) (ρ 1 / 4)))) := F151.2.2.1
  have hc := pz_tok_c (pz_kd (pz_gt (ρ 0)) (pz_gN (ρ 0)) (pz_p (pz_cf (pz_gt (ρ 0)) (pz_gN (ρ 0)) (ρ 1 / 4))))
  have hk : pz_kd (pz_gt (ρ 0)) (pz_gN (ρ 0)) (pz_p (pz_cf (pz_gt (ρ 0)) (pz_gN (ρ 0)) (ρ 1 / 4))) = 2 := (by rcases hc with h | h | h | h | h <;> omega)
  have vl := pz_mc (F151.2.2.2.1 hk)
  replace vl : (ρ 3 / 4 ≤ 1000 ∧ pz_vl (pz_gt (ρ 0)) (pz_gN (ρ 0)) (pz_p (pz_cf (pz_gt (ρ 0)) (pz_gN (ρ 0)) (ρ 1 / 4))) = ρ 3 / 4) ∨ (1000 < ρ 3 / 4 ∧ pz_vl (pz_gt (ρ 0)) (pz_gN (ρ 0)) (pz_p (pz_cf (pz_gt (ρ 0)) (pz_gN (ρ 0)) (ρ 1 / 4))) = 1000) := vl
  have h66 : pz66 (pz_gt (ρ 0)) (pz_gN (ρ 0)) (ρ 1 / 4) (ρ 3 / 4) := ⟨hk, by omega⟩
  have st := pq_sw3 (pz_m50 F151 F152) F171 h66 (by omega) (by omega)
  obtain ⟨ρ', h1, h2⟩ := pz_pn1 (K := ρ 1 / 4 + 1) (xf := [(153, [3, 19]), (182, [7, 19]), (166, [3, 7, 15])]) hE (by decide) (fun ρ' h1 h2 x hx => by
    have q0 : ρ' 0 = ρ 0 := h1 0 (by decide)
    have q1 : ρ' 1 = ρ 1 := h1 1 (by decide)
    have q2 : ρ' 2 = ρ 2 := h1 2 (by decide)
    have q3 : ρ' 3 = ρ 3 := h1 3 (by decide)
    rcases List.mem_cons.mp hx with e | hx
    · subst e
      refine (ax_XF_lt (x := 153) (Nat.le_of_ble_eq_true rfl)).mpr ?_
      show ay_ex hp 173 ∧ pz_at (pz_gt (ρ' 0)) (pz_gN (ρ' 0)) (ay_ln (ay_at hp 173 13)) = pz_at (pz_gt (ρ' 0)) (pz_gN (ρ' 0)) (pz_p (pz_cF (ρ' 0) (ρ' 4)))
      rw [q0, h2]
      refine ⟨(ax_cellT hT (q := 173) (g := 11) ax_cg_173), ?_⟩
      exact pz_l153 (pz_41 _) st.1.1
    rcases List.mem_cons.mp hx with e | hx
    · subst e
      refine (ax_XF_lt (x := 182) (Nat.le_of_ble_eq_true rfl)).mpr ?_
      show (ρ' 4) / 4 = (ρ' 1) / 4 + 1
      rw [q1, h2]
      rw [pz_41]
    cases List.mem_singleton.mp hx
    refine (ax_XF_lt (x := 166) (Nat.le_of_ble_eq_true rfl)).mpr ?_
    show pz66 (pz_gt (ρ' 0)) (pz_gN (ρ' 0)) ((ρ' 1) / 4) ((ρ' 3) / 4)
    rw [q0, q1, q3]
    exact h66)
  exact ⟨(fun y hy => by cases hy), _, List.mem_cons_self, ρ', h1, h2⟩

theorem axqg_nu1a_4 {w : ax_W} {b : Nat} (hw : ax_WW w) : ax_RO w (ax_XM b) axu0_nu1a_4 := by
  intro ρ hp hE hT
  have j0 : ρ 0 % 4 = 1 := pz_gj hE 0 (Nat.le_of_ble_eq_true rfl) rfl
  have j1 : ρ 1 % 4 = 1 := pz_gj hE 1 (Nat.le_of_ble_eq_true rfl) rfl
  obtain ⟨i2a, i2b, i2c, i2d⟩ := pz_gi hE 2 0 2147483650 (Nat.le_of_ble_eq_true rfl) rfl
  have c_token : ay_at hp 173 15 = some (ρ 2) := ay_gfj hE 702 60 11 173 15 ax_m2 (ax_vlq rfl rfl) (ax_vlj rfl rfl)
  obtain ⟨-, -, -, -, -, F151⟩ : ay_ex hp 173 ∧ ay_ex hp 173 ∧ ay_ex hp 173 ∧ ay_ex hp 173 ∧ ay_ex hp 173 ∧ pz_y151 (ρ 0) (ρ 1) (ay_at hp 173 13) (ay_at hp 173 14) (ay_at hp 173 15) (ay_at hp 173 16) (ay_at hp 173 17) := (ax_XF_lt (x := 151) (Nat.le_of_ble_eq_true rfl)).mp (ax_gx hE (151, [3, 7]) ax_m0)
  rw [c_token] at F151
  have F174 : pz7 (pz_gt (ρ 0)) (pz_gN (ρ 0)) ((ρ 1) / 4) 4 := (ax_XF_lt (x := 174) (Nat.le_of_ble_eq_true rfl)).mp (ax_gx hE (174, [3, 7]) ax_m1)
  have ht : ρ 2 / 4 = pz_tok (pz_kd (pz_gt (ρ 0)) (pz_gN (ρ 0)) (pz_p (pz_cf (pz_gt (ρ 0)) (pz_gN (ρ 0)) (ρ 1 / 4)))) := F151.2.2.1
  have hc := pz_tok_c (pz_kd (pz_gt (ρ 0)) (pz_gN (ρ 0)) (pz_p (pz_cf (pz_gt (ρ 0)) (pz_gN (ρ 0)) (ρ 1 / 4))))
  have hk : pz_kd (pz_gt (ρ 0)) (pz_gN (ρ 0)) (pz_p (pz_cf (pz_gt (ρ 0)) (pz_gN (ρ 0)) (ρ 1 / 4))) ≠ 2 := (by rcases hc with h | h | h | h | h <;> omega)
  refine ⟨(fun y hy => by cases hy), _, List.mem_cons_self, ρ, fun _ _ => rfl, ax_px hE rfl (fun x hx => ?_)⟩
  cases List.mem_singleton.mp hx
  refine (ax_XF_lt (x := 164) (Nat.le_of_ble_eq_true rfl)).mpr ?_
  show pz64 (pz_gt (ρ 0)) (pz_gN (ρ 0)) ((ρ 1) / 4) ((4) / 4)
  exact pq_rn1 (by decide) F174 hk
theorem axq0_nu1a_4 : ax_RO ax_wM0 (ax_XM 0) axu0_nu1a_4 := axqg_nu1a_4 ax_WW0
theorem axqg_nu1b_4 {w : ax_W} {b : Nat} (hw : ax_WW w) : ax_RO w (ax_XM b) axu0_nu1b_4 := by
  intro ρ hp hE hT
  have j0 : ρ 0 % 4 = 1 := pz_gj hE 0 (Nat.le_of_ble_eq_true rfl) rfl
  have j1 : ρ 1 % 4 = 1 := pz_gj hE 1 (Nat.le_of_ble_eq_true rfl) rfl
  obtain ⟨i2a, i2b, i2c, i2d⟩ := pz_gi hE 2 2147483652 4294967295 (Nat.le_of_ble_eq_true rfl) rfl
  have c_token : ay_at hp 173 15 = some (ρ 2) := ay_gfj hE 702 60 11 173 15 ax_m2 (ax_vlq rfl rfl) (ax_vlj rfl rfl)
  obtain ⟨-, -, -, -, -, F151⟩ : ay_ex hp 173 ∧ ay_ex hp 173 ∧ ay_ex hp 173 ∧ ay_ex hp 173 ∧ ay_ex hp 173 ∧ pz_y151 (ρ 0) (ρ 1) (ay_at hp 173 13) (ay_at hp 173 14) (ay_at hp 173 15) (ay_at hp 173 16) (ay_at hp 173 17) := (ax_XF_lt (x := 151) (Nat.le_of_ble_eq_true rfl)).mp (ax_gx hE (151, [3, 7]) ax_m0)
  rw [c_token] at F151
  have F174 : pz7 (pz_gt (ρ 0)) (pz_gN (ρ 0)) ((ρ 1) / 4) 4 := (ax_XF_lt (x := 174) (Nat.le_of_ble_eq_true rfl)).mp (ax_gx hE (174, [3, 7]) ax_m1)
  have ht : ρ 2 / 4 = pz_tok (pz_kd (pz_gt (ρ 0)) (pz_gN (ρ 0)) (pz_p (pz_cf (pz_gt (ρ 0)) (pz_gN (ρ 0)) (ρ 1 / 4)))) := F151.2.2.1
  have hc := pz_tok_c (pz_kd (pz_gt (ρ 0)) (pz_gN (ρ 0)) (pz_p (pz_cf (pz_gt (ρ 0)) (pz_gN (ρ 0)) (ρ 1 / 4))))
  have hk : pz_kd (pz_gt (ρ 0)) (pz_gN (ρ 0)) (pz_p (pz_cf (pz_gt (ρ 0)) (pz_gN (ρ 0)) (ρ 1 / 4))) ≠ 2 := (by rcases hc with h | h | h | h | h <;> omega)
  refine ⟨(fun y hy => by cases hy), _, List.mem_cons_self, ρ, fun _ _ => rfl, ax_px hE rfl (fun x hx => ?_)⟩
  cases List.mem_singleton.mp hx
  refine (ax_XF_lt (x := 164) (Nat.le_of_ble_eq_true rfl)).mpr ?_
  show pz64 (pz_gt (ρ 0)) (pz_gN (ρ 0)) ((ρ 1) / 4) ((4) / 4)
  exact pq_rn1 (by decide) F174 hk
theorem axq0_nu1b_4 : ax_RO ax_wM0 (ax_XM 0) axu0_nu1b_4 := axqg_nu1b_4 ax_WW0
theorem axqg_nu2_4 {w : ax_W} {b : Nat} (hw : ax_WW w) : ax_RO w (ax_XM b) axu0_nu2_4 := by
  intro ρ hp hE hT
  have j0 : ρ 0 % 4 = 1 := pz_gj hE 0 (Nat.le_of_ble_eq_true rfl) rfl
  have j1 : ρ 1 % 4 = 1 := pz_gj hE 1 (Nat.le_of_ble_eq_true rfl) rfl
  obtain ⟨i2a, i2b, i2c, i2d⟩ := pz_gi hE 2 2147483651 2147483651 (Nat.le_of_ble_eq_true rfl) rfl
  obtain ⟨i3a, i3b, i3c, i3d⟩ := pz_gi hE 3 2147483648 2147493647 (Nat.le_of_ble_eq_true rfl) rfl
  obtain ⟨i4a, i4b, i4c, i4d⟩ := pz_gi hE 4 2147483647 2147493646 (Nat.le_of_ble_eq_true rfl) rfl
  have c_token : ay_at hp 173 15 = some (ρ 2) := ay_gfj hE 702 60 11 173 15 ax_m2 (ax_vlq rfl rfl) (ax_vlj rfl rfl)
  have c_number : ay_at hp 173 16 = some (ρ 3) := ay_gfj hE 702 64 15 173 16 ax_m3 (ax_vlq rfl rfl) (ax_vlj rfl rfl)
  have r1 : (ρ 4 / 4 + 2147483648) % 4294967296 < (ρ 3 / 4 + 2147483648) % 4294967296 := pz_gc hE 4 15 19 (Nat.le_of_ble_eq_true rfl) ax_m5
  obtain ⟨-, -, -, -, -, F151⟩ : ay_ex hp 173 ∧ ay_ex hp 173 ∧ ay_ex hp 173 ∧ ay_ex hp 173 ∧ ay_ex hp 173 ∧ pz_y151 (ρ 0) (ρ 1) (ay_at hp 173 13) (ay_at hp 173 14) (ay_at hp 173 15) (ay_at hp 173 16) (ay_at hp 173 17) := (ax_XF_lt (x := 151) (Nat.le_of_ble_eq_true rfl)).mp (ax_gx hE (151, [3, 7]) ax_m0)
  rw [c_token] at F151
  rw [c_number] at F151
  have F174 : pz7 (pz_gt (ρ 0)) (pz_gN (ρ 0)) ((ρ 1) / 4) 4 := (ax_XF_lt (x := 174) (Nat.le_of_ble_eq_true rfl)).mp (ax_gx hE (174, [3, 7]) ax_m1)
  have F203 : pz_x103 (ρ 0) (ρ 1) (ρ 4) := (ax_XF_lt (x := 203) (Nat.le_of_ble_eq_true rfl)).mp (ax_gx hE (203, [3, 7, 19]) ax_m4)
  have ht : ρ 2 / 4 = pz_tok (pz_kd (pz_gt (ρ 0)) (pz_gN (ρ 0)) (pz_p (pz_cf (pz_gt (ρ 0)) (pz_gN (ρ 0)) (ρ 1 / 4)))) := F151.2.2.1
  have hc := pz_tok_c (pz_kd (pz_gt (ρ 0)) (pz_gN (ρ 0)) (pz_p (pz_cf (pz_gt (ρ 0)) (pz_gN (ρ 0)) (ρ 1 / 4))))
  have hk : pz_kd (pz_gt (ρ 0)) (pz_gN (ρ 0)) (pz_p (pz_cf (pz_gt (ρ 0)) (pz_gN (ρ 0)) (ρ 1 / 4))) = 2 := (by rcases hc with h | h | h | h | h <;> omega)
  have vl := pz_mc (F151.2.2.2.1 hk)
  replace vl : (ρ 3 / 4 ≤ 1000 ∧ pz_vl (pz_gt (ρ 0)) (pz_gN (ρ 0)) (pz_p (pz_cf (pz_gt (ρ 0)) (pz_gN (ρ 0)) (ρ 1 / 4))) = ρ 3 / 4) ∨ (1000 < ρ 3 / 4 ∧ pz_vl (pz_gt (ρ 0)) (pz_gN (ρ 0)) (pz_p (pz_cf (pz_gt (ρ 0)) (pz_gN (ρ 0)) (ρ 1 / 4))) = 1000) := vl
  replace F203 : (ρ 4 / 4 + 2147483648) % 4294967296 + 1 = pz_no (pz_cf (pz_gt (ρ 0)) (pz_gN (ρ 0)) (ρ 1 / 4)) + 2147483648 := F203
  have h9 := pz_no9 F174 (by decide)
  refine ⟨(fun y hy => by cases hy), _, List.mem_cons_self, ρ, fun _ _ => rfl, ax_px hE rfl (fun x hx => ?_)⟩
  cases List.mem_singleton.mp hx
  refine (ax_XF_lt (x := 164) (Nat.le_of_ble_eq_true rfl)).mpr ?_
  show pz64 (pz_gt (ρ 0)) (pz_gN (ρ 0)) ((ρ 1) / 4) ((8) / 4)
  exact pq_rn2 (by decide) F174 hk (by omega)
theorem axq0_nu2_4 : ax_RO ax_wM0 (ax_XM 0) axu0_nu2_4 := axqg_nu2_4 ax_WW0
theorem axq0_nu3_4 : ax_RO ax_wM0 (ax_XM 0) axu0_nu3_4 := by
  intro ρ hp hE hT
  have j0 : ρ 0 % 4 = 1 := pz_gj hE 0 (Nat.le_of_ble_eq_true rfl) rfl
  have j1 : ρ 1 % 4 = 1 := pz_gj hE 1 (Nat.le_of_ble_eq_true rfl) rfl
  obtain ⟨i2a, i2b, i2c, i2d⟩ := pz_gi hE 2 2147483651 2147483651 (Nat.le_of_ble_eq_true rfl) rfl
  obtain ⟨i3a, i3b, i3c, i3d⟩ := pz_gi hE 3 2147483648 2147493647 (Nat.le_of_ble_eq_true rfl) rfl
  obtain ⟨i4a, i4b, i4c, i4d⟩ := pz_gi hE 4 2147483647 2147493646 (Nat.le_of_ble_eq_true rfl) rfl
  have c_token : ay_at hp 173 15 = some (ρ 2) := ay_gfj hE 702 60 11 173 15 ax_m3 (ax_vlq rfl rfl) (ax_vlj rfl rfl)
  have c_number : ay_at hp 173 16 = some (ρ 3) := ay_gfj hE 702 64 15 173 16 ax_m4 (ax_vlq rfl rfl) (ax_vlj rfl rfl)
  have r1 : (ρ 3 / 4 + 2147483648) % 4294967296 ≤ (ρ 4 / 4 + 2147483648) % 4294967296 := pz_gc hE 5 15 19 (Nat.le_of_ble_eq_true rfl) ax_m6
  obtain ⟨-, -, -, -, -, F151⟩ : ay_ex hp 173 ∧ ay_ex hp 173 ∧ ay_ex hp 173 ∧ ay_ex hp 173 ∧ ay_ex hp 173 ∧ pz_y151 (ρ 0) (ρ 1) (ay_at hp 173 13) (ay_at hp 173 14) (ay_at hp 173 15) (ay_at hp 173 16) (ay_at hp 173 17) := (ax_XF_lt (x := 151) (Nat.le_of_ble_eq_true rfl)).mp (ax_gx hE (151, [3, 7]) ax_m0)
  rw [c_token] at F151
  rw [c_number] at F151
  obtain ⟨-, -, -, -, -, -, -, -, -, -, -, F152⟩ : ay_ex hp 175 ∧ ay_ex hp 176 ∧ ay_ex hp 177 ∧ ay_ex hp 178 ∧ ay_ex hp 179 ∧ ay_ex hp 173 ∧ ay_ex hp 173 ∧ ay_ex hp 173 ∧ ay_ex hp 173 ∧ ay_ex hp 173 ∧ ay_ex hp 181 ∧ pz_y152 1 (ρ 0) (ρ 1) (ay_at hp 175 1) (ay_at hp 176 1) (ay_at hp 177 1) (ay_at hp 178 1) (ay_at hp 179 1) (ay_at hp 173 23) (ay_at hp 173 25) (ay_at hp 173 24) (ay_at hp 173 18) (ay_at hp 173 19) (ay_at hp 181) := (ax_XF_lt (x := 152) (Nat.le_of_ble_eq_true rfl)).mp (ax_gx hE (152, [3, 7]) ax_m1)
  have F174 : pz7 (pz_gt (ρ 0)) (pz_gN (ρ 0)) ((ρ 1) / 4) 4 := (ax_XF_lt (x := 174) (Nat.le_of_ble_eq_true rfl)).mp (ax_gx hE (174, [3, 7]) ax_m2)
  have F203 : pz_x103 (ρ 0) (ρ 1) (ρ 4) := (ax_XF_lt (x := 203) (Nat.le_of_ble_eq_true rfl)).mp (ax_gx hE (203, [3, 7, 19]) ax_m5)
  have ht : ρ 2 / 4 = pz_tok (pz_kd (pz_gt (ρ 0)) (pz_gN (ρ 0)) (pz_p (pz_cf (pz_gt (ρ 0)) (pz_gN (ρ 0)) (ρ 1 / 4)))) := F151.2.2.1
  have hc := pz_tok_c (pz_kd (pz_gt (ρ 0)) (pz_gN (ρ 0)) (pz_p (pz_cf (pz_gt (ρ 0)) (pz_gN (ρ 0)) (ρ 1 / 4))))
  have hk : pz_kd (pz_gt (ρ 0)) (pz_gN (ρ 0)) (pz_p (pz_cf (pz_gt (ρ 0)) (pz_gN (ρ 0)) (ρ 1 / 4))) = 2 := (by rcases hc with h | h | h | h | h <;> omega)
  have vl := pz_mc (F151.2.2.2.1 hk)
  replace vl : (ρ 3 / 4 ≤ 1000 ∧ pz_vl (pz_gt (ρ 0)) (pz_gN (ρ 0)) (pz_p (pz_cf (pz_gt (ρ 0)) (pz_gN (ρ 0)) (ρ 1 / 4))) = ρ 3 / 4) ∨ (1000 < ρ 3 / 4 ∧ pz_vl (pz_gt (ρ 0)) (pz_gN (ρ 0)) (pz_p (pz_cf (pz_gt (ρ 0)) (pz_gN (ρ 0)) (ρ 1 / 4))) = 1000) := vl
  replace F203 : (ρ 4 / 4 + 2147483648) % 4294967296 + 1 = pz_no (pz_cf (pz_gt (ρ 0)) (pz_gN (ρ 0)) (ρ 1 / 4)) + 2147483648 := F203
  have h9 := pz_no9 F174 (by decide)
  have h04 : pz104 (pz_gt (ρ 0)) (pz_gN (ρ 0)) (ρ 1 / 4) (ρ 3 / 4) := ⟨⟨hk, by omega⟩, by omega⟩
  have st := pq_lk4 (pz_m50 F151 F152) F174 h04
  obtain ⟨ρ', h1, h2⟩ := pz_pn1 (K := ρ 1 / 4 + 1) (xf := [(153, [3, 23]), (182, [7, 23]), (204, [3, 7, 15])]) hE (by decide) (fun ρ' h1 h2 x hx => by
    have q0 : ρ' 0 = ρ 0 := h1 0 (by decide)
    have q1 : ρ' 1 = ρ 1 := h1 1 (by decide)
    have q2 : ρ' 2 = ρ 2 := h1 2 (by decide)
    have q3 : ρ' 3 = ρ 3 := h1 3 (by decide)
    have q4 : ρ' 4 = ρ 4 := h1 4 (by decide)
    rcases List.mem_cons.mp hx with e | hx
    · subst e
      refine (ax_XF_lt (x := 153) (Nat.le_of_ble_eq_true rfl)).mpr ?_
      show ay_ex hp 173 ∧ pz_at (pz_gt (ρ' 0)) (pz_gN (ρ' 0)) (ay_ln (ay_at hp 173 13)) = pz_at (pz_gt (ρ' 0)) (pz_gN (ρ' 0)) (pz_p (pz_cF (ρ' 0) (ρ' 5)))
      rw [q0, h2]
      refine ⟨(ax_cellT hT (q := 173) (g := 11) ax_cg_173), ?_⟩
      exact pz_l153 (pz_41 _) st.1.1
    rcases List.mem_cons.mp hx with e | hx
    · subst e
      refine (ax_XF_lt (x := 182) (Nat.le_of_ble_eq_true rfl)).mpr ?_
      show (ρ' 5) / 4 = (ρ' 1) / 4 + 1
      rw [q1, h2]
      rw [pz_41]
    cases List.mem_singleton.mp hx
    refine (ax_XF_lt (x := 204) (Nat.le_of_ble_eq_true rfl)).mpr ?_
    show pz104 (pz_gt (ρ' 0)) (pz_gN (ρ' 0)) ((ρ' 1) / 4) ((ρ' 3) / 4)
    rw [q0, q1, q3]
    exact h04)
  exact ⟨(fun y hy => by cases hy), _, List.mem_cons_self, ρ', h1, h2⟩

theorem axqg_nu1a_6 {w : ax_W} {b : Nat} (hw : ax_WW w) : ax_RO w (ax_XM b) axu0_nu1a_6 := by
  intro ρ hp hE hT
  have j0 : ρ 0 % 4 = 1 := pz_gj hE 0 (Nat.le_of_ble_eq_true rfl) rfl
  have j1 : ρ 1 % 4 = 1 := pz_gj hE 1 (Nat.le_of_ble_eq_true rfl) rfl
  obtain ⟨i2a, i2b, i2c, i2d⟩ := pz_gi hE 2 0 2147483650 (Nat.le_of_ble_eq_true rfl) rfl
  have c_token : ay_at hp 173 15 = some (ρ 2) := ay_gfj hE 702 60 11 173 15 ax_m2 (ax_vlq rfl rfl) (ax_vlj rfl rfl)
  obtain ⟨-, -, -, -, -, F151⟩ : ay_ex hp 173 ∧ ay_ex hp 173 ∧ ay_ex hp 173 ∧ ay_ex hp 173 ∧ ay_ex hp 173 ∧ pz_y151 (ρ 0) (ρ 1) (ay_at hp 173 13) (ay_at hp 173 14) (ay_at hp 173 15) (ay_at hp 173 16) (ay_at hp 173 17) := (ax_XF_lt (x := 151) (Nat.le_of_ble_eq_true rfl)).mp (ax_gx hE (151, [3, 7]) ax_m0)
  rw [c_token] at F151
  have F176 : pz7 (pz_gt (ρ 0)) (pz_gN (ρ 0)) ((ρ 1) / 4) 6 := (ax_XF_lt (x := 176) (Nat.le_of_ble_eq_true rfl)).mp (ax_gx hE (176, [3, 7]) ax_m1)
  have ht : ρ 2 / 4 = pz_tok (pz_kd (pz_gt (ρ 0)) (pz_gN (ρ 0)) (pz_p (pz_cf (pz_gt (ρ 0)) (pz_gN (ρ 0)) (ρ 1 / 4)))) := F151.2.2.1
  have hc := pz_tok_c (pz_kd (pz_gt (ρ 0)) (pz_gN (ρ 0)) (pz_p (pz_cf (pz_gt (ρ 0)) (pz_gN (ρ 0)) (ρ 1 / 4))))
  have hk : pz_kd (pz_gt (ρ 0)) (pz_gN (ρ 0)) (pz_p (pz_cf (pz_gt (ρ 0)) (pz_gN (ρ 0)) (ρ 1 / 4))) ≠ 2 := (by rcases hc with h | h | h | h | h <;> omega)
  refine ⟨(fun y hy => by cases hy), _, List.mem_cons_self, ρ, fun _ _ => rfl, ax_px hE rfl (fun x hx => ?_)⟩
  cases List.mem_singleton.mp hx
  refine (ax_XF_lt (x := 164) (Nat.le_of_ble_eq_true rfl)).mpr ?_
  show pz64 (pz_gt (ρ 0)) (pz_gN (ρ 0)) ((ρ 1) / 4) ((4) / 4)
  exact pq_rn1 (by decide) F176 hk
theorem axq0_nu1a_6 : ax_RO ax_wM0 (ax_XM 0) axu0_nu1a_6 := axqg_nu1a_6 ax_WW0
theorem axqg_nu1b_6 {w : ax_W} {b : Nat} (hw : ax_WW w) : ax_RO w (ax_XM b) axu0_nu1b_6 := by
  intro ρ hp hE hT
  have j0 : ρ 0 % 4 = 1 := pz_gj hE 0 (Nat.le_of_ble_eq_true rfl) rfl
  have j1 : ρ 1 % 4 = 1 := pz_gj hE 1 (Nat.le_of_ble_eq_true rfl) rfl
  obtain ⟨i2a, i2b, i2c, i2d⟩ := pz_gi hE 2 2147483652 4294967295 (Nat.le_of_ble_eq_true rfl) rfl
  have c_token : ay_at hp 173 15 = some (ρ 2) := ay_gfj hE 702 60 11 173 15 ax_m2 (ax_vlq rfl rfl) (ax_vlj rfl rfl)
  obtain ⟨-, -, -, -, -, F151⟩ : ay_ex hp 173 ∧ ay_ex hp 173 ∧ ay_ex hp 173 ∧ ay_ex hp 173 ∧ ay_ex hp 173 ∧ pz_y151 (ρ 0) (ρ 1) (ay_at hp 173 13) (ay_at hp 173 14) (ay_at hp 173 15) (ay_at hp 173 16) (ay_at hp 173 17) := (ax_XF_lt (x := 151) (Nat.le_of_ble_eq_true rfl)).mp (ax_gx hE (151, [3, 7]) ax_m0)
  rw [c_token] at F151
  have F176 : pz7 (pz_gt (ρ 0)) (pz_gN (ρ 0)) ((ρ 1) / 4) 6 := (ax_XF_lt (x := 176) (Nat.le_of_ble_eq_true rfl)).mp (ax_gx hE (176, [3, 7]) ax_m1)
  have ht : ρ 2 / 4 = pz_tok (pz_kd (pz_gt (ρ 0)) (pz_gN (ρ 0)) (pz_p (pz_cf (pz_gt (ρ 0)) (pz_gN (ρ 0)) (ρ 1 / 4)))) := F151.2.2.1
  have hc := pz_tok_c (pz_kd (pz_gt (ρ 0)) (pz_gN (ρ 0)) (pz_p (pz_cf (pz_gt (ρ 0)) (pz_gN (ρ 0)) (ρ 1 / 4))))
  have hk : pz_kd (pz_gt (ρ 0)) (pz_gN (ρ 0)) (pz_p (pz_cf (pz_gt (ρ 0)) (pz_gN (ρ 0)) (ρ 1 / 4))) ≠ 2 := (by rcases hc with h | h | h | h | h <;> omega)
  refine ⟨(fun y hy => by cases hy), _, List.mem_cons_self, ρ, fun _ _ => rfl, ax_px hE rfl (fun x hx => ?_)⟩
  cases List.mem_singleton.mp hx
  refine (ax_XF_lt (x := 164) (Nat.le_of_ble_eq_true rfl)).mpr ?_
  show pz64 (pz_gt (ρ 0)) (pz_gN (ρ 0)) ((ρ 1) / 4) ((4) / 4)
  exact pq_rn1 (by decide) F176 hk
theorem axq0_nu1b_6 : ax_RO ax_wM0 (ax_XM 0) axu0_nu1b_6 := axqg_nu1b_6 ax_WW0
theorem axqg_nu2_6 {w : ax_W} {b : Nat} (hw : ax_WW w) : ax_RO w (ax_XM b) axu0_nu2_6 := by
  intro ρ hp hE hT
  have j0 : ρ 0 % 4 = 1 := pz_gj hE 0 (Nat.le_of_ble_eq_true rfl) rfl
  have j1 : ρ 1 % 4 = 1 := pz_gj hE 1 (Nat.le_of_ble_eq_true rfl) rfl
  obtain ⟨i2a, i2b, i2c, i2d⟩ := pz_gi hE 2 2147483651 2147483651 (Nat.le_of_ble_eq_true rfl) rfl
  obtain ⟨i3a, i3b, i3c, i3d⟩ := pz_gi hE 3 2147483648 2147493647 (Nat.le_of_ble_eq_true rfl) rfl
  obtain ⟨i4a, i4b, i4c, i4d⟩ := pz_gi hE 4 2147483647 2147493646 (Nat.le_of_ble_eq_true rfl) rfl
  have c_token : ay_at hp 173 15 = some (ρ 2) := ay_gfj hE 702 60 11 173 15 ax_m2 (ax_vlq rfl rfl) (ax_vlj rfl rfl)
  have c_number : ay_at hp 173 16 = some (ρ 3) := ay_gfj hE 702 64 15 173 16 ax_m3 (ax_vlq rfl rfl) (ax_vlj rfl rfl)
  have r1 : (ρ 4 / 4 + 2147483648) % 4294967296 < (ρ 3 / 4 + 2147483648) % 4294967296 := pz_gc hE 4 15 19 (Nat.le_of_ble_eq_true rfl) ax_m5
  obtain ⟨-, -, -, -, -, F151⟩ : ay_ex hp 173 ∧ ay_ex hp 173 ∧ ay_ex hp 173 ∧ ay_ex hp 173 ∧ ay_ex hp 173 ∧ pz_y151 (ρ 0) (ρ 1) (ay_at hp 173 13) (ay_at hp 173 14) (ay_at hp 173 15) (ay_at hp 173 16) (ay_at hp 173 17) := (ax_XF_lt (x := 151) (Nat.le_of_ble_eq_true rfl)).mp (ax_gx hE (151, [3, 7]) ax_m0)
  rw [c_token] at F151
  rw [c_number] at F151
  have F176 : pz7 (pz_gt (ρ 0)) (pz_gN (ρ 0)) ((ρ 1) / 4) 6 := (ax_XF_lt (x := 176) (Nat.le_of_ble_eq_true rfl)).mp (ax_gx hE (176, [3, 7]) ax_m1)
  have F203 : pz_x103 (ρ 0) (ρ 1) (ρ 4) := (ax_XF_lt (x := 203) (Nat.le_of_ble_eq_true rfl)).mp (ax_gx hE (203, [3, 7, 19]) ax_m4)
  have ht : ρ 2 / 4 = pz_tok (pz_kd (pz_gt (ρ 0)) (pz_gN (ρ 0)) (pz_p (pz_cf (pz_gt (ρ 0)) (pz_gN (ρ 0)) (ρ 1 / 4)))) := F151.2.2.1
  have hc := pz_tok_c (pz_kd (pz_gt (ρ 0)) (pz_gN (ρ 0)) (pz_p (pz_cf (pz_gt (ρ 0)) (pz_gN (ρ 0)) (ρ 1 / 4))))
  have hk : pz_kd (pz_gt (ρ 0)) (pz_gN (ρ 0)) (pz_p (pz_cf (pz_gt (ρ 0)) (pz_gN (ρ 0)) (ρ 1 / 4))) = 2 := (by rcases hc with h | h | h | h | h <;> omega)
  have vl := pz_mc (F151.2.2.2.1 hk)
  replace vl : (ρ 3 / 4 ≤ 1000 ∧ pz_vl (pz_gt (ρ 0)) (pz_gN (ρ 0)) (pz_p (pz_cf (pz_gt (ρ 0)) (pz_gN (ρ 0)) (ρ 1 / 4))) = ρ 3 / 4) ∨ (1000 < ρ 3 / 4 ∧ pz_vl (pz_gt (ρ 0)) (pz_gN (ρ 0)) (pz_p (pz_cf (pz_gt (ρ 0)) (pz_gN (ρ 0)) (ρ 1 / 4))) = 1000) := vl
  replace F203 : (ρ 4 / 4 + 2147483648) % 4294967296 + 1 = pz_no (pz_cf (pz_gt (ρ 0)) (pz_gN (ρ 0)) (ρ 1 / 4)) + 2147483648 := F203
  have h9 := pz_no9 F176 (by decide)
  refine ⟨(fun y hy => by cases hy), _, List.mem_cons_self, ρ, fun _ _ => rfl, ax_px hE rfl (fun x hx => ?_)⟩
  cases List.mem_singleton.mp hx
  refine (ax_XF_lt (x := 164) (Nat.le_of_ble_eq_true rfl)).mpr ?_
  show pz64 (pz_gt (ρ 0)) (pz_gN (ρ 0)) ((ρ 1) / 4) ((8) / 4)
  exact pq_rn2 (by decide) F176 hk (by omega)
theorem axq0_nu2_6 : ax_RO ax_wM0 (ax_XM 0) axu0_nu2_6 := axqg_nu2_6 ax_WW0
theorem axq0_nu3_6 : ax_RO ax_wM0 (ax_XM 0) axu0_nu3_6 := by
  intro ρ hp hE hT
  have j0 : ρ 0 % 4 = 1 := pz_gj hE 0 (Nat.le_of_ble_eq_true rfl) rfl
  have j1 : ρ 1 % 4 = 1 := pz_gj hE 1 (Nat.le_of_ble_eq_true rfl) rfl
  obtain ⟨i2a, i2b, i2c, i2d⟩ := pz_gi hE 2 2147483651 2147483651 (Nat.le_of_ble_eq_true rfl) rfl
  obtain ⟨i3a, i3b, i3c, i3d⟩ := pz_gi hE 3 2147483648 2147493647 (Nat.le_of_ble_eq_true rfl) rfl
  obtain ⟨i4a, i4b, i4c, i4d⟩ := pz_gi hE 4 2147483647 2147493646 (Nat.le_of_ble_eq_true rfl) rfl
  have c_token : ay_at hp 173 15 = some (ρ 2) := ay_gfj hE 702 60 11 173 15 ax_m3 (ax_vlq rfl rfl) (ax_vlj rfl rfl)
  have c_number : ay_at hp 173 16 = some (ρ 3) := ay_gfj hE 702 64 15 173 16 ax_m4 (ax_vlq rfl rfl) (ax_vlj rfl rfl)
  have r1 : (ρ 3 / 4 + 2147483648) % 4294967296 ≤ (ρ 4 / 4 + 2147483648) % 4294967296 := pz_gc hE 5 15 19 (Nat.le_of_ble_eq_true rfl) ax_m6
  obtain ⟨-, -, -, -, -, F151⟩ : ay_ex hp 173 ∧ ay_ex hp 173 ∧ ay_ex hp 173 ∧ ay_ex hp 173 ∧ ay_ex hp 173 ∧ pz_y151 (ρ 0) (ρ 1) (ay_at hp 173 13) (ay_at hp 173 14) (ay_at hp 173 15) (ay_at hp 173 16) (ay_at hp 173 17) := (ax_XF_lt (x := 151) (Nat.le_of_ble_eq_true rfl)).mp (ax_gx hE (151, [3, 7]) ax_m0)
  rw [c_token] at F151
  rw [c_number] at F151
  obtain ⟨-, -, -, -, -, -, -, -, -, -, -, F152⟩ : ay_ex hp 175 ∧ ay_ex hp 176 ∧ ay_ex hp 177 ∧ ay_ex hp 178 ∧ ay_ex hp 179 ∧ ay_ex hp 173 ∧ ay_ex hp 173 ∧ ay_ex hp 173 ∧ ay_ex hp 173 ∧ ay_ex hp 173 ∧ ay_ex hp 181 ∧ pz_y152 1 (ρ 0) (ρ 1) (ay_at hp 175 1) (ay_at hp 176 1) (ay_at hp 177 1) (ay_at hp 178 1) (ay_at hp 179 1) (ay_at hp 173 23) (ay_at hp 173 25) (ay_at hp 173 24) (ay_at hp 173 18) (ay_at hp 173 19) (ay_at hp 181) := (ax_XF_lt (x := 152) (Nat.le_of_ble_eq_true rfl)).mp (ax_gx hE (152, [3, 7]) ax_m1)
  have F176 : pz7 (pz_gt (ρ 0)) (pz_gN (ρ 0)) ((ρ 1) / 4) 6 := (ax_XF_lt (x := 176) (Nat.le_of_ble_eq_true rfl)).mp (ax_gx hE (176, [3, 7]) ax_m2)
  have F203 : pz_x103 (ρ 0) (ρ 1) (ρ 4) := (ax_XF_lt (x := 203) (Nat.le_of_ble_eq_true rfl)).mp (ax_gx hE (203, [3, 7, 19]) ax_m5)
  have ht : ρ 2 / 4 = pz_tok (pz_kd (pz_gt (ρ 0)) (pz_gN (ρ 0)) (pz_p (pz_cf (pz_gt (ρ 0)) (pz_gN (ρ 0)) (ρ 1 / 4)))) := F151.2.2.1
  have hc := pz_tok_c (pz_kd (pz_gt (ρ 0)) (pz_gN (ρ 0)) (pz_p (pz_cf (pz_gt (ρ 0)) (pz_gN (ρ 0)) (ρ 1 / 4))))
  have hk : pz_kd (pz_gt (ρ 0)) (pz_gN (ρ 0)) (pz_p (pz_cf (pz_gt (ρ 0)) (pz_gN (ρ 0)) (ρ 1 / 4))) = 2 := (by rcases hc with h | h | h | h | h <;> omega)
  have vl := pz_mc (F151.2.2.2.1 hk)
  replace vl : (ρ 3 / 4 ≤ 1000 ∧ pz_vl (pz_gt (ρ 0)) (pz_gN (ρ 0)) (pz_p (pz_cf (pz_gt (ρ 0)) (pz_gN (ρ 0)) (ρ 1 / 4))) = ρ 3 / 4) ∨ (1000 < ρ 3 / 4 ∧ pz_vl (pz_gt (ρ 0)) (pz_gN (ρ 0)) (pz_p (pz_cf (pz_gt (ρ 0)) (pz_gN (ρ 0)) (ρ 1 / 4))) = 1000) := vl
  replace F203 : (ρ 4 / 4 + 2147483648) % 4294967296 + 1 = pz_no (pz_cf (pz_gt (ρ 0)) (pz_gN (ρ 0)) (ρ 1 / 4)) + 2147483648 := F203
  have h9 := pz_no9 F176 (by decide)
  have h04 : pz104 (pz_gt (ρ 0)) (pz_gN (ρ 0)) (ρ 1 / 4) (ρ 3 / 4) := ⟨⟨hk, by omega⟩, by omega⟩
  have st := pq_rl_ro2 (pz_m50 F151 F152) F176 h04
  obtain ⟨ρ', h1, h2⟩ := pz_pn1 (K := ρ 1 / 4 + 1) (xf := [(153, [3, 23]), (182, [7, 23]), (204, [3, 7, 15])]) hE (by decide) (fun ρ' h1 h2 x hx => by
    have q0 : ρ' 0 = ρ 0 := h1 0 (by decide)
    have q1 : ρ' 1 = ρ 1 := h1 1 (by decide)
    have q2 : ρ' 2 = ρ 2 := h1 2 (by decide)
    have q3 : ρ' 3 = ρ 3 := h1 3 (by decide)
    have q4 : ρ' 4 = ρ 4 := h1 4 (by decide)
    rcases List.mem_cons.mp hx with e | hx
    · subst e
      refine (ax_XF_lt (x := 153) (Nat.le_of_ble_eq_true rfl)).mpr ?_
      show ay_ex hp 173 ∧ pz_at (pz_gt (ρ' 0)) (pz_gN (ρ' 0)) (ay_ln (ay_at hp 173 13)) = pz_at (pz_gt (ρ' 0)) (pz_gN (ρ' 0)) (pz_p (pz_cF (ρ' 0) (ρ' 5)))
      rw [q0, h2]
      refine ⟨(ax_cellT hT (q := 173) (g := 11) ax_cg_173), ?_⟩
      exact pz_l153 (pz_41 _) st.1.1
    rcases List.mem_cons.mp hx with e | hx
    · subst e
      refine (ax_XF_lt (x := 182) (Nat.le_of_ble_eq_true rfl)).mpr ?_
      show (ρ' 5) / 4 = (ρ' 1) / 4 + 1
      rw [q1, h2]
      rw [pz_41]
    cases List.mem_singleton.mp hx
    refine (ax_XF_lt (x := 204) (Nat.le_of_ble_eq_true rfl)).mpr ?_
    show pz104 (pz_gt (ρ' 0)) (pz_gN (ρ' 0)) ((ρ' 1) / 4) ((ρ' 3) / 4)
    rw [q0, q1, q3]
    exact h04)
  exact ⟨(fun y hy => by cases hy), _, List.mem_cons_self, ρ', h1, h2⟩

theorem axqg_nu1a_7 {w : ax_W} {b : Nat} (hw : ax_WW w) : ax_RO w (ax_XM b) axu0_nu1a_7 := by
  intro ρ hp hE hT
  have j0 : ρ 0 % 4 = 1 := pz_gj hE 0 (Nat.le_of_ble_eq_true rfl) rfl
  have j1 : ρ 1 % 4 = 1 := pz_gj hE 1 (Nat.le_of_ble_eq_true rfl) rfl
  obtain ⟨i2a, i2b, i2c, i2d⟩ := pz_gi hE 2 0 2147483650 (Nat.le_of_ble_eq_true rfl) rfl
  have c_token : ay_at hp 173 15 = some (ρ 2) := ay_gfj hE 702 60 11 173 15 ax_m2 (ax_vlq rfl rfl) (ax_vlj rfl rfl)
  obtain ⟨-, -, -, -, -, F151⟩ : ay_ex hp 173 ∧ ay_ex hp 173 ∧ ay_ex hp 173 ∧ ay_ex hp 173 ∧ ay_ex hp 173 ∧ pz_y151 (ρ 0) (ρ 1) (ay_at hp 173 13) (ay_at hp 173 14) (ay_at hp 173 15) (ay_at hp 173 16) (ay_at hp 173 17) := (ax_XF_lt (x := 151) (Nat.le_of_ble_eq_true rfl)).mp (ax_gx hE (151, [3, 7]) ax_m0)
  rw [c_token] at F151
  have F177 : pz7 (pz_gt (ρ 0)) (pz_gN (ρ 0)) ((ρ 1) / 4) 7 := (ax_XF_lt (x := 177) (Nat.le_of_ble_eq_true rfl)).mp (ax_gx hE (177, [3, 7]) ax_m1)
  have ht : ρ 2 / 4 = pz_tok (pz_kd (pz_gt (ρ 0)) (pz_gN (ρ 0)) (pz_p (pz_cf (pz_gt (ρ 0)) (pz_gN (ρ 0)) (ρ 1 / 4)))) := F151.2.2.1
  have hc := pz_tok_c (pz_kd (pz_gt (ρ 0)) (pz_gN (ρ 0)) (pz_p (pz_cf (pz_gt (ρ 0)) (pz_gN (ρ 0)) (ρ 1 / 4))))
  have hk : pz_kd (pz_gt (ρ 0)) (pz_gN (ρ 0)) (pz_p (pz_cf (pz_gt (ρ 0)) (pz_gN (ρ 0)) (ρ 1 / 4))) ≠ 2 := (by rcases hc with h | h | h | h | h <;> omega)
  refine ⟨(fun y hy => by cases hy), _, List.mem_cons_self, ρ, fun _ _ => rfl, ax_px hE rfl (fun x hx => ?_)⟩
  cases List.mem_singleton.mp hx
  refine (ax_XF_lt (x := 164) (Nat.le_of_ble_eq_true rfl)).mpr ?_
  show pz64 (pz_gt (ρ 0)) (pz_gN (ρ 0)) ((ρ 1) / 4) ((4) / 4)
  exact pq_rn1 (by decide) F177 hk
theorem axq0_nu1a_7 : ax_RO ax_wM0 (ax_XM 0) axu0_nu1a_7 := axqg_nu1a_7 ax_WW0
theorem axqg_nu1b_7 {w : ax_W} {b : Nat} (hw : ax_WW w) : ax_RO w (ax_XM b) axu0_nu1b_7 := by
  intro ρ hp hE hT
  have j0 : ρ 0 % 4 = 1 := pz_gj hE 0 (Nat.le_of_ble_eq_true rfl) rfl
  have j1 : ρ 1 % 4 = 1 := pz_gj hE 1 (Nat.le_of_ble_eq_true rfl) rfl
  obtain ⟨i2a, i2b, i2c, i2d⟩ := pz_gi hE 2 2147483652 4294967295 (Nat.le_of_ble_eq_true rfl) rfl
  have c_token : ay_at hp 173 15 = some (ρ 2) := ay_gfj hE 702 60 11 173 15 ax_m2 (ax_vlq rfl rfl) (ax_vlj rfl rfl)
  obtain ⟨-, -, -, -, -, F151⟩ : ay_ex hp 173 ∧ ay_ex hp 173 ∧ ay_ex hp 173 ∧ ay_ex hp 173 ∧ ay_ex hp 173 ∧ pz_y151 (ρ 0) (ρ 1) (ay_at hp 173 13) (ay_at hp 173 14) (ay_at hp 173 15) (ay_at hp 173 16) (ay_at hp 173 17) := (ax_XF_lt (x := 151) (Nat.le_of_ble_eq_true rfl)).mp (ax_gx hE (151, [3, 7]) ax_m0)
  rw [c_token] at F151
  have F177 : pz7 (pz_gt (ρ 0)) (pz_gN (ρ 0)) ((ρ 1) / 4) 7 := (ax_XF_lt (x := 177) (Nat.le_of_ble_eq_true rfl)).mp (ax_gx hE (177, [3, 7]) ax_m1)
  have ht : ρ 2 / 4 = pz_tok (pz_kd (pz_gt (ρ 0)) (pz_gN (ρ 0)) (pz_p (pz_cf (pz_gt (ρ 0)) (pz_gN (ρ 0)) (ρ 1 / 4)))) := F151.2.2.1
  have hc := pz_tok_c (pz_kd (pz_gt (ρ 0)) (pz_gN (ρ 0)) (pz_p (pz_cf (pz_gt (ρ 0)) (pz_gN (ρ 0)) (ρ 1 / 4))))
  have hk : pz_kd (pz_gt (ρ 0)) (pz_gN (ρ 0)) (pz_p (pz_cf (pz_gt (ρ 0)) (pz_gN (ρ 0)) (ρ 1 / 4))) ≠ 2 := (by rcases hc with h | h | h | h | h <;> omega)
  refine ⟨(fun y hy => by cases hy), _, List.mem_cons_self, ρ, fun _ _ => rfl, ax_px hE rfl (fun x hx => ?_)⟩
  cases List.mem_singleton.mp hx
  refine (ax_XF_lt (x := 164) (Nat.le_of_ble_eq_true rfl)).mpr ?_
  show pz64 (pz_gt (ρ 0)) (pz_gN (ρ 0)) ((ρ 1) / 4) ((4) / 4)
  exact pq_rn1 (by decide) F177 hk
theorem axq0_nu1b_7 : ax_RO ax_wM0 (ax_XM 0) axu0_nu1b_7 := axqg_nu1b_7 ax_WW0
theorem axqg_nu2a_7 {w : ax_W} {b : Nat} (hw : ax_WW w) : ax_RO w (ax_XM b) axu0_nu2a_7 := by
  intro ρ hp hE hT
  have j0 : ρ 0 % 4 = 1 := pz_gj hE 0 (Nat.le_of_ble_eq_true rfl) rfl
  have j1 : ρ 1 % 4 = 1 := pz_gj hE 1 (Nat.le_of_ble_eq_true rfl) rfl
  obtain ⟨i2a, i2b, i2c, i2d⟩ := pz_gi hE 2 2147483651 2147483651 (Nat.le_of_ble_eq_true rfl) rfl
  obtain ⟨i3a, i3b, i3c, i3d⟩ := pz_gi hE 3 2147483648 2147483648 (Nat.le_of_ble_eq_true rfl) rfl
  have c_token : ay_at hp 173 15 = some (ρ 2) := ay_gfj hE 702 60 11 173 15 ax_m2 (ax_vlq rfl rfl) (ax_vlj rfl rfl)
  have c_number : ay_at hp 173 16 = some (ρ 3) := ay_gfj hE 702 64 15 173 16 ax_m3 (ax_vlq rfl rfl) (ax_vlj rfl rfl)
  obtain ⟨-, -, -, -, -, F151⟩ : ay_ex hp 173 ∧ ay_ex hp 173 ∧ ay_ex hp 173 ∧ ay_ex hp 173 ∧ ay_ex hp 173 ∧ pz_y151 (ρ 0) (ρ 1) (ay_at hp 173 13) (ay_at hp 173 14) (ay_at hp 173 15) (ay_at hp 173 16) (ay_at hp 173 17) := (ax_XF_lt (x := 151) (Nat.le_of_ble_eq_true rfl)).mp (ax_gx hE (151, [3, 7]) ax_m0)
  rw [c_token] at F151
  rw [c_number] at F151
  have F177 : pz7 (pz_gt (ρ 0)) (pz_gN (ρ 0)) ((ρ 1) / 4) 7 := (ax_XF_lt (x := 177) (Nat.le_of_ble_eq_true rfl)).mp (ax_gx hE (177, [3, 7]) ax_m1)
  have ht : ρ 2 / 4 = pz_tok (pz_kd (pz_gt (ρ 0)) (pz_gN (ρ 0)) (pz_p (pz_cf (pz_gt (ρ 0)) (pz_gN (ρ 0)) (ρ 1 / 4)))) := F151.2.2.1
  have hc := pz_tok_c (pz_kd (pz_gt (ρ 0)) (pz_gN (ρ 0)) (pz_p (pz_cf (pz_gt (ρ 0)) (pz_gN (ρ 0)) (ρ 1 / 4))))
  have hk : pz_kd (pz_gt (ρ 0)) (pz_gN (ρ 0)) (pz_p (pz_cf (pz_gt (ρ 0)) (pz_gN (ρ 0)) (ρ 1 / 4))) = 2 := (by rcases hc with h | h | h | h | h <;> omega)
  have vl := pz_mc (F151.2.2.2.1 hk)
  replace vl : (ρ 3 / 4 ≤ 1000 ∧ pz_vl (pz_gt (ρ 0)) (pz_gN (ρ 0)) (pz_p (pz_cf (pz_gt (ρ 0)) (pz_gN (ρ 0)) (ρ 1 / 4))) = ρ 3 / 4) ∨ (1000 < ρ 3 / 4 ∧ pz_vl (pz_gt (ρ 0)) (pz_gN (ρ 0)) (pz_p (pz_cf (pz_gt (ρ 0)) (pz_gN (ρ 0)) (ρ 1 / 4))) = 1000) := vl
  refine ⟨(fun y hy => by cases hy), _, List.mem_cons_self, ρ, fun _ _ => rfl, ax_px hE rfl (fun x hx => ?_)⟩
  cases List.mem_singleton.mp hx
  refine (ax_XF_lt (x := 164) (Nat.le_of_ble_eq_true rfl)).mpr ?_
  show pz64 (pz_gt (ρ 0)) (pz_gN (ρ 0)) ((ρ 1) / 4) ((8) / 4)
  exact pq_rn37 F177 hk (by omega)
theorem axq0_nu2a_7 : ax_RO ax_wM0 (ax_XM 0) axu0_nu2a_7 := axqg_nu2a_7 ax_WW0
theorem axqg_nu2b_7 {w : ax_W} {b : Nat} (hw : ax_WW w) : ax_RO w (ax_XM b) axu0_nu2b_7 := by
  intro ρ hp hE hT
  have j0 : ρ 0 % 4 = 1 := pz_gj hE 0 (Nat.le_of_ble_eq_true rfl) rfl
  have j1 : ρ 1 % 4 = 1 := pz_gj hE 1 (Nat.le_of_ble_eq_true rfl) rfl
  obtain ⟨i2a, i2b, i2c, i2d⟩ := pz_gi hE 2 2147483651 2147483651 (Nat.le_of_ble_eq_true rfl) rfl
  obtain ⟨i3a, i3b, i3c, i3d⟩ := pz_gi hE 3 2147483652 2147493647 (Nat.le_of_ble_eq_true rfl) rfl
  have c_token : ay_at hp 173 15 = some (ρ 2) := ay_gfj hE 702 60 11 173 15 ax_m2 (ax_vlq rfl rfl) (ax_vlj rfl rfl)
  have c_number : ay_at hp 173 16 = some (ρ 3) := ay_gfj hE 702 64 15 173 16 ax_m3 (ax_vlq rfl rfl) (ax_vlj rfl rfl)
  obtain ⟨-, -, -, -, -, F151⟩ : ay_ex hp 173 ∧ ay_ex hp 173 ∧ ay_ex hp 173 ∧ ay_ex hp 173 ∧ ay_ex hp 173 ∧ pz_y151 (ρ 0) (ρ 1) (ay_at hp 173 13) (ay_at hp 173 14) (ay_at hp 173 15) (ay_at hp 173 16) (ay_at hp 173 17) := (ax_XF_lt (x := 151) (Nat.le_of_ble_eq_true rfl)).mp (ax_gx hE (151, [3, 7]) ax_m0)
  rw [c_token] at F151
  rw [c_number] at F151
  have F177 : pz7 (pz_gt (ρ 0)) (pz_gN (ρ 0)) ((ρ 1) / 4) 7 := (ax_XF_lt (x := 177) (Nat.le_of_ble_eq_true rfl)).mp (ax_gx hE (177, [3, 7]) ax_m1)
  have ht : ρ 2 / 4 = pz_tok (pz_kd (pz_gt (ρ 0)) (pz_gN (ρ 0)) (pz_p (pz_cf (pz_gt (ρ 0)) (pz_gN (ρ 0)) (ρ 1 / 4)))) := F151.2.2.1
  have hc := pz_tok_c (pz_kd (pz_gt (ρ 0)) (pz_gN (ρ 0)) (pz_p (pz_cf (pz_gt (ρ 0)) (pz_gN (ρ 0)) (ρ 1 / 4))))
  have hk : pz_kd (pz_gt (ρ 0)) (pz_gN (ρ 0)) (pz_p (pz_cf (pz_gt (ρ 0)) (pz_gN (ρ 0)) (ρ 1 / 4))) = 2 := (by rcases hc with h | h | h | h | h <;> omega)
  have vl := pz_mc (F151.2.2.2.1 hk)
  replace vl : (ρ 3 / 4 ≤ 1000 ∧ pz_vl (pz_gt (ρ 0)) (pz_gN (ρ 0)) (pz_p (pz_cf (pz_gt (ρ 0)) (pz_gN (ρ 0)) (ρ 1 / 4))) = ρ 3 / 4) ∨ (1000 < ρ 3 / 4 ∧ pz_vl (pz_gt (ρ 0)) (pz_gN (ρ 0)) (pz_p (pz_cf (pz_gt (ρ 0)) (pz_gN (ρ 0)) (ρ 1 / 4))) = 1000) := vl
  refine ⟨(fun y hy => by cases hy), _, List.mem_cons_self, ρ, fun _ _ => rfl, ax_px hE rfl (fun x hx => ?_)⟩
  cases List.mem_singleton.mp hx
  refine (ax_XF_lt (x := 164) (Nat.le_of_ble_eq_true rfl)).mpr ?_
  show pz64 (pz_gt (ρ 0)) (pz_gN (ρ 0)) ((ρ 1) / 4) ((8) / 4)
  exact pq_rn37 F177 hk (by omega)
theorem axq0_nu2b_7 : ax_RO ax_wM0 (ax_XM 0) axu0_nu2b_7 := axqg_nu2b_7 ax_WW0
theorem axq0_nu3_7 : ax_RO ax_wM0 (ax_XM 0) axu0_nu3_7 := by
  intro ρ hp hE hT
  have j0 : ρ 0 % 4 = 1 := pz_gj hE 0 (Nat.le_of_ble_eq_true rfl) rfl
  have j1 : ρ 1 % 4 = 1 := pz_gj hE 1 (Nat.le_of_ble_eq_true rfl) rfl
  obtain ⟨i2a, i2b, i2c, i2d⟩ := pz_gi hE 2 2147483651 2147483651 (Nat.le_of_ble_eq_true rfl) rfl
  obtain ⟨i3a, i3b, i3c, i3d⟩ := pz_gi hE 3 2147483649 2147483651 (Nat.le_of_ble_eq_true rfl) rfl
  have c_token : ay_at hp 173 15 = some (ρ 2) := ay_gfj hE 702 60 11 173 15 ax_m3 (ax_vlq rfl rfl) (ax_vlj rfl rfl)
  have c_number : ay_at hp 173 16 = some (ρ 3) := ay_gfj hE 702 64 15 173 16 ax_m4 (ax_vlq rfl rfl) (ax_vlj rfl rfl)
  obtain ⟨-, -, -, -, -, F151⟩ : ay_ex hp 173 ∧ ay_ex hp 173 ∧ ay_ex hp 173 ∧ ay_ex hp 173 ∧ ay_ex hp 173 ∧ pz_y151 (ρ 0) (ρ 1) (ay_at hp 173 13) (ay_at hp 173 14) (ay_at hp 173 15) (ay_at hp 173 16) (ay_at hp 173 17) := (ax_XF_lt (x := 151) (Nat.le_of_ble_eq_true rfl)).mp (ax_gx hE (151, [3, 7]) ax_m0)
  rw [c_token] at F151
  rw [c_number] at F151
  obtain ⟨-, -, -, -, -, -, -, -, -, -, -, F152⟩ : ay_ex hp 175 ∧ ay_ex hp 176 ∧ ay_ex hp 177 ∧ ay_ex hp 178 ∧ ay_ex hp 179 ∧ ay_ex hp 173 ∧ ay_ex hp 173 ∧ ay_ex hp 173 ∧ ay_ex hp 173 ∧ ay_ex hp 173 ∧ ay_ex hp 181 ∧ pz_y152 1 (ρ 0) (ρ 1) (ay_at hp 175 1) (ay_at hp 176 1) (ay_at hp 177 1) (ay_at hp 178 1) (ay_at hp 179 1) (ay_at hp 173 23) (ay_at hp 173 25) (ay_at hp 173 24) (ay_at hp 173 18) (ay_at hp 173 19) (ay_at hp 181) := (ax_XF_lt (x := 152) (Nat.le_of_ble_eq_true rfl)).mp (ax_gx hE (152, [3, 7]) ax_m1)
  have F177 : pz7 (pz_gt (ρ 0)) (pz_gN (ρ 0)) ((ρ 1) / 4) 7 := (ax_XF_lt (x := 177) (Nat.le_of_ble_eq_true rfl)).mp (ax_gx hE (177, [3, 7]) ax_m2)
  have ht : ρ 2 / 4 = pz_tok (pz_kd (pz_gt (ρ 0)) (pz_gN (ρ 0)) (pz_p (pz_cf (pz_gt (ρ 0)) (pz_gN (ρ 0)) (ρ 1 / 4)))) := F151.2.2.1
  have hc := pz_tok_c (pz_kd (pz_gt (ρ 0)) (pz_gN (ρ 0)) (pz_p (pz_cf (pz_gt (ρ 0)) (pz_gN (ρ 0)) (ρ 1 / 4))))
  have hk : pz_kd (pz_gt (ρ 0)) (pz_gN (ρ 0)) (pz_p (pz_cf (pz_gt (ρ 0)) (pz_gN (ρ 0)) (ρ 1 / 4))) = 2 := (by rcases hc with h | h | h | h | h <;> omega)
  have vl := pz_mc (F151.2.2.2.1 hk)
  replace vl : (ρ 3 / 4 ≤ 1000 ∧ pz_vl (pz_gt (ρ 0)) (pz_gN (ρ 0)) (pz_p (pz_cf (pz_gt (ρ 0)) (pz_gN (ρ 0)) (ρ 1 / 4))) = ρ 3 / 4) ∨ (1000 < ρ 3 / 4 ∧ pz_vl (pz_gt (ρ 0)) (pz_gN (ρ 0)) (pz_p (pz_cf (pz_gt (ρ 0)) (pz_gN (ρ 0)) (ρ 1 / 4))) = 1000) := vl
  have h66 : pz66 (pz_gt (ρ 0)) (pz_gN (ρ 0)) (ρ 1 / 4) (ρ 3 / 4) := ⟨hk, by omega⟩
  have st := pq_rl_rm2 (pz_m50 F151 F152) F177 h66 (by omega) (by omega)
  obtain ⟨ρ', h1, h2⟩ := pz_pn1 (K := ρ 1 / 4 + 1) (xf := [(153, [3, 19]), (182, [7, 19]), (166, [3, 7, 15])]) hE (by decide) (fun ρ' h1 h2 x hx => by
    have q0 : ρ' 0 = ρ 0 := h1 0 (by decide)
    have q1 : ρ' 1 = ρ 1 := h1 1 (by decide)
    have q2 : ρ' 2 = ρ 2 := h1 2 (by decide)
    have q3 : ρ' 3 = ρ 3 := h1 3 (by decide)
    rcases List.mem_cons.mp hx with e | hx
    · subst e
      refine (ax_XF_lt (x := 153) (Nat.le_of_ble_eq_true rfl)).mpr ?_
      show ay_ex hp 173 ∧ pz_at (pz_gt (ρ' 0)) (pz_gN (ρ' 0)) (ay_ln (ay_at hp 173 13)) = pz_at (pz_gt (ρ' 0)) (pz_gN (ρ' 0)) (pz_p (pz_cF (ρ' 0) (ρ' 4)))
      rw [q0, h2]
      refine ⟨(ax_cellT hT (q := 173) (g := 11) ax_cg_173), ?_⟩
      exact pz_l153 (pz_41 _) st.1.1
    rcases List.mem_cons.mp hx with e | hx
    · subst e
      refine (ax_XF_lt (x := 182) (Nat.le_of_ble_eq_true rfl)).mpr ?_
      show (ρ' 4) / 4 = (ρ' 1) / 4 + 1
      rw [q1, h2]
      rw [pz_41]
    cases List.mem_singleton.mp hx
    refine (ax_XF_lt (x := 166) (Nat.le_of_ble_eq_true rfl)).mpr ?_
    show pz66 (pz_gt (ρ' 0)) (pz_gN (ρ' 0)) ((ρ' 1) / 4) ((ρ' 3) / 4)
    rw [q0, q1, q3]
    exact h66)
  exact ⟨(fun y hy => by cases hy), _, List.mem_cons_self, ρ', h1, h2⟩

theorem axq0_nd1 : ax_RO ax_wM0 (ax_XM 0) axu0_nd1 := by
  intro ρ hp hE hT
  have j0 : ρ 0 % 4 = 1 := pz_gj hE 0 (Nat.le_of_ble_eq_true rfl) rfl
  have j1 : ρ 1 % 4 = 1 := pz_gj hE 1 (Nat.le_of_ble_eq_true rfl) rfl
  obtain ⟨-, -, -, -, -, F151⟩ : ay_ex hp 173 ∧ ay_ex hp 173 ∧ ay_ex hp 173 ∧ ay_ex hp 173 ∧ ay_ex hp 173 ∧ pz_y151 (ρ 0) (ρ 1) (ay_at hp 173 13) (ay_at hp 173 14) (ay_at hp 173 15) (ay_at hp 173 16) (ay_at hp 173 17) := (ax_XF_lt (x := 151) (Nat.le_of_ble_eq_true rfl)).mp (ax_gx hE (151, [3, 7]) ax_m0)
  obtain ⟨-, -, -, -, -, -, -, -, -, -, -, F152⟩ : ay_ex hp 175 ∧ ay_ex hp 176 ∧ ay_ex hp 177 ∧ ay_ex hp 178 ∧ ay_ex hp 179 ∧ ay_ex hp 173 ∧ ay_ex hp 173 ∧ ay_ex hp 173 ∧ ay_ex hp 173 ∧ ay_ex hp 173 ∧ ay_ex hp 181 ∧ pz_y152 1 (ρ 0) (ρ 1) (ay_at hp 175 1) (ay_at hp 176 1) (ay_at hp 177 1) (ay_at hp 178 1) (ay_at hp 179 1) (ay_at hp 173 23) (ay_at hp 173 25) (ay_at hp 173 24) (ay_at hp 173 18) (ay_at hp 173 19) (ay_at hp 181) := (ax_XF_lt (x := 152) (Nat.le_of_ble_eq_true rfl)).mp (ax_gx hE (152, [3, 7]) ax_m1)
  have F181 : pz_y181 (ρ 0) (ρ 1) := (ax_XF_lt (x := 181) (Nat.le_of_ble_eq_true rfl)).mp (ax_gx hE (181, [3, 7]) ax_m2)
  have F168 : pz_kd (pz_gt (ρ 0)) (pz_gN (ρ 0)) (pz_p (pz_cF (ρ 0) (ρ 1))) = (236) / 4 := (ax_XF_lt (x := 168) (Nat.le_of_ble_eq_true rfl)).mp (ax_gx hE (168, [3, 7, 236]) ax_m3)
  have st := F181.elim (fun h => pq_rs4 (pz_m50 F151 F152) h (show _ = 59 from F168)) (fun h => pq_rs5 (pz_m50 F151 F152) h.1 h.2.1 (show _ = 59 from F168))
  obtain ⟨ρ', h1, h2⟩ := pz_pn1 (K := ρ 1 / 4 + 1) (xf := [(153, [3, 11]), (182, [7, 11]), (152, [3, 11]), (173, [3, 11])]) hE (by decide) (fun ρ' h1 h2 x hx => by
    have q0 : ρ' 0 = ρ 0 := h1 0 (by decide)
    have q1 : ρ' 1 = ρ 1 := h1 1 (by decide)
    rcases List.mem_cons.mp hx with e | hx
    · subst e
      refine (ax_XF_lt (x := 153) (Nat.le_of_ble_eq_true rfl)).mpr ?_
      show ay_ex hp 173 ∧ pz_at (pz_gt (ρ' 0)) (pz_gN (ρ' 0)) (ay_ln (ay_at hp 173 13)) = pz_at (pz_gt (ρ' 0)) (pz_gN (ρ' 0)) (pz_p (pz_cF (ρ' 0) (ρ' 2)))
      rw [q0, h2]
      refine ⟨(ax_cellT hT (q := 173) (g := 11) ax_cg_173), ?_⟩
      exact pz_l153 (pz_41 _) st.1.1
    rcases List.mem_cons.mp hx with e | hx
    · subst e
      refine (ax_XF_lt (x := 182) (Nat.le_of_ble_eq_true rfl)).mpr ?_
      show (ρ' 2) / 4 = (ρ' 1) / 4 + 1
      rw [q1, h2]
      rw [pz_41]
    rcases List.mem_cons.mp hx with e | hx
    · subst e
      refine (ax_XF_lt (x := 152) (Nat.le_of_ble_eq_true rfl)).mpr ?_
      show ay_ex hp 175 ∧ ay_ex hp 176 ∧ ay_ex hp 177 ∧ ay_ex hp 178 ∧ ay_ex hp 179 ∧ ay_ex hp 173 ∧ ay_ex hp 173 ∧ ay_ex hp 173 ∧ ay_ex hp 173 ∧ ay_ex hp 173 ∧ ay_ex hp 181 ∧ pz_y152 1 (ρ' 0) (ρ' 2) (ay_at hp 175 1) (ay_at hp 176 1) (ay_at hp 177 1) (ay_at hp 178 1) (ay_at hp 179 1) (ay_at hp 173 23) (ay_at hp 173 25) (ay_at hp 173 24) (ay_at hp 173 18) (ay_at hp 173 19) (ay_at hp 181)
      rw [q0, h2]
      refine ⟨(ax_cellT hT (q := 175) (g := 45) ax_cg_175), (ax_cellT hT (q := 176) (g := 46) ax_cg_176), (ax_cellT hT (q := 177) (g := 47) ax_cg_177), (ax_cellT hT (q := 178) (g := 48) ax_cg_178), (ax_cellT hT (q := 179) (g := 49) ax_cg_179), (ax_cellT hT (q := 173) (g := 11) ax_cg_173), (ax_cellT hT (q := 173) (g := 11) ax_cg_173), (ax_cellT hT (q := 173) (g := 11) ax_cg_173), (ax_cellT hT (q := 173) (g := 11) ax_cg_173), (ax_cellT hT (q := 173) (g := 11) ax_cg_173), (ax_cellT hT (q := 181) (g := 51) ax_cg_181), ?_⟩
      exact pz_l152 (pz_41 _) st.1.2
    cases List.mem_singleton.mp hx
    refine (ax_XF_lt (x := 173) (Nat.le_of_ble_eq_true rfl)).mpr ?_
    show pz7 (pz_gt (ρ' 0)) (pz_gN (ρ' 0)) ((ρ' 2) / 4) 3
    rw [q0, h2]
    rw [pz_41]
    exact st.2)
  exact ⟨(fun y hy => by cases hy), _, List.mem_cons_self, ρ', h1, h2⟩

theorem axqg_nd2 {w : ax_W} {b : Nat} (hw : ax_WW w) : ax_RO w (ax_XM b) axu0_nd2 := by
  intro ρ hp hE hT
  have j0 : ρ 0 % 4 = 1 := pz_gj hE 0 (Nat.le_of_ble_eq_true rfl) rfl
  have j1 : ρ 1 % 4 = 1 := pz_gj hE 1 (Nat.le_of_ble_eq_true rfl) rfl
  obtain ⟨-, -, -, -, -, F151⟩ : ay_ex hp 173 ∧ ay_ex hp 173 ∧ ay_ex hp 173 ∧ ay_ex hp 173 ∧ ay_ex hp 173 ∧ pz_y151 (ρ 0) (ρ 1) (ay_at hp 173 13) (ay_at hp 173 14) (ay_at hp 173 15) (ay_at hp 173 16) (ay_at hp 173 17) := (ax_XF_lt (x := 151) (Nat.le_of_ble_eq_true rfl)).mp (ax_gx hE (151, [3, 7]) ax_m0)
  have F181 : pz_y181 (ρ 0) (ρ 1) := (ax_XF_lt (x := 181) (Nat.le_of_ble_eq_true rfl)).mp (ax_gx hE (181, [3, 7]) ax_m1)
  have F169 : pz_kd (pz_gt (ρ 0)) (pz_gN (ρ 0)) (pz_p (pz_cF (ρ 0) (ρ 1))) ≠ (236) / 4 := (ax_XF_lt (x := 169) (Nat.le_of_ble_eq_true rfl)).mp (ax_gx hE (169, [3, 7, 236]) ax_m2)
  refine ⟨(fun y hy => by cases hy), _, List.mem_cons_self, ρ, fun _ _ => rfl, ax_px hE rfl (fun x hx => ?_)⟩
  cases List.mem_singleton.mp hx
  refine (ax_XF_lt (x := 164) (Nat.le_of_ble_eq_true rfl)).mpr ?_
  show pz64 (pz_gt (ρ 0)) (pz_gN (ρ 0)) ((ρ 1) / 4) ((4) / 4)
  exact F181.elim (fun h => pq_rs1 h (show _ ≠ 59 from F169)) (fun h => pq_rs2 h.1 h.2.1 h.2.2 (show _ ≠ 59 from F169))
theorem axq0_nd2 : ax_RO ax_wM0 (ax_XM 0) axu0_nd2 := axqg_nd2 ax_WW0
theorem axqg_t1 {w : ax_W} {b : Nat} (hw : ax_WW w) : ax_RO w (ax_XM b) axu0_t1 := by
  intro ρ hp hE hT
  have j0 : ρ 0 % 4 = 1 := pz_gj hE 0 (Nat.le_of_ble_eq_true rfl) rfl
  have j1 : ρ 1 % 4 = 1 := pz_gj hE 1 (Nat.le_of_ble_eq_true rfl) rfl
  have j2 : ρ 2 % 4 = 1 := pz_gj hE 2 (Nat.le_of_ble_eq_true rfl) rfl
  have j3 : ρ 3 % 4 = 1 := pz_gj hE 3 (Nat.le_of_ble_eq_true rfl) rfl
  obtain ⟨-, -, -, -, -, F151⟩ : ay_ex hp 173 ∧ ay_ex hp 173 ∧ ay_ex hp 173 ∧ ay_ex hp 173 ∧ ay_ex hp 173 ∧ pz_y151 (ρ 0) (ρ 1) (ay_at hp 173 13) (ay_at hp 173 14) (ay_at hp 173 15) (ay_at hp 173 16) (ay_at hp 173 17) := (ax_XF_lt (x := 151) (Nat.le_of_ble_eq_true rfl)).mp (ax_gx hE (151, [3, 7]) ax_m0)
  have F182 : (ρ 2) / 4 = (ρ 1) / 4 + 1 := (ax_XF_lt (x := 182) (Nat.le_of_ble_eq_true rfl)).mp (ax_gx hE (182, [7, 11]) ax_m1)
  have F181 : pz_y181 (ρ 0) (ρ 1) := (ax_XF_lt (x := 181) (Nat.le_of_ble_eq_true rfl)).mp (ax_gx hE (181, [3, 7]) ax_m2)
  have F168 : pz_kd (pz_gt (ρ 0)) (pz_gN (ρ 0)) (pz_p (pz_cF (ρ 0) (ρ 1))) = (236) / 4 := (ax_XF_lt (x := 168) (Nat.le_of_ble_eq_true rfl)).mp (ax_gx hE (168, [3, 7, 236]) ax_m3)
  have F261 : py_261 (ρ 0) (ρ 1) (ρ 3) := (ax_XF_lt (x := 261) (Nat.le_of_ble_eq_true rfl)).mp (ax_gx hE (261, [3, 7, 15]) ax_m4)
  refine ⟨(fun y hy => by cases hy), _, List.mem_cons_self, ρ, fun _ _ => rfl, ax_px hE rfl (fun x hx => ?_)⟩
  cases List.mem_singleton.mp hx
  refine (ax_XF_lt (x := 246) (Nat.le_of_ble_eq_true rfl)).mpr ?_
  show py_y246 (pz_gt (ρ 0)) (pz_gN (ρ 0)) ((ρ 2) / 4) (5) (ρ 3)
  exact pm_t1 F261 F181 F182
theorem axq0_t1 : ax_RO ax_wM0 (ax_XM 0) axu0_t1 := axqg_t1 ax_WW0
theorem axq0_ij1 : ax_RO ax_wM0 (ax_XM 0) axu0_ij1 := by
  intro ρ hp hE hT
  have j0 : ρ 0 % 4 = 1 := pz_gj hE 0 (Nat.le_of_ble_eq_true rfl) rfl
  have j1 : ρ 1 % 4 = 1 := pz_gj hE 1 (Nat.le_of_ble_eq_true rfl) rfl
  obtain ⟨i2a, i2b, i2c, i2d⟩ := pz_gi hE 2 0 4294967295 (Nat.le_of_ble_eq_true rfl) rfl
  obtain ⟨i3a, i3b, i3c, i3d⟩ := pz_gi hE 3 0 4294967295 (Nat.le_of_ble_eq_true rfl) rfl
  obtain ⟨-, -, -, -, -, -, -, -, -, -, -, F152⟩ : ay_ex hp 175 ∧ ay_ex hp 176 ∧ ay_ex hp 177 ∧ ay_ex hp 178 ∧ ay_ex hp 179 ∧ ay_ex hp 173 ∧ ay_ex hp 173 ∧ ay_ex hp 173 ∧ ay_ex hp 173 ∧ ay_ex hp 173 ∧ ay_ex hp 181 ∧ pz_y152 1 (ρ 0) (ρ 1) (ay_at hp 175 1) (ay_at hp 176 1) (ay_at hp 177 1) (ay_at hp 178 1) (ay_at hp 179 1) (ay_at hp 173 23) (ay_at hp 173 25) (ay_at hp 173 24) (ay_at hp 173 18) (ay_at hp 173 19) (ay_at hp 181) := (ax_XF_lt (x := 152) (Nat.le_of_ble_eq_true rfl)).mp (ax_gx hE (152, [3, 7]) ax_m0)
  refine ⟨(fun y hy => by cases hy), _, List.mem_cons_self, ρ, fun _ _ => rfl, ax_px hE rfl (fun x hx => ?_)⟩
  cases List.mem_singleton.mp hx
  refine (ax_XF_lt (x := 215) (Nat.le_of_ble_eq_true rfl)).mpr ?_
  show pz_y215 (ρ 0) (ρ 1) (ρ 2) (ρ 3) (0)
  intro j x y hj
  exact absurd (show j < 0 from hj) (by omega)

theorem axq0_ij2a : ax_RO ax_wM0 (ax_XM 0) axu0_ij2a := by
  intro ρ hp hE hT
  have j0 : ρ 0 % 4 = 1 := pz_gj hE 0 (Nat.le_of_ble_eq_true rfl) rfl
  have j1 : ρ 1 % 4 = 1 := pz_gj hE 1 (Nat.le_of_ble_eq_true rfl) rfl
  obtain ⟨i2a, i2b, i2c, i2d⟩ := pz_gi hE 2 0 4294967295 (Nat.le_of_ble_eq_true rfl) rfl
  obtain ⟨i3a, i3b, i3c, i3d⟩ := pz_gi hE 3 0 4294967295 (Nat.le_of_ble_eq_true rfl) rfl
  obtain ⟨i4a, i4b, i4c, i4d⟩ := pz_gi hE 4 2147483648 2147483667 (Nat.le_of_ble_eq_true rfl) rfl
  obtain ⟨i5a, i5b, i5c, i5d⟩ := pz_gi hE 5 2147483648 2147483668 (Nat.le_of_ble_eq_true rfl) rfl
  obtain ⟨i6a, i6b, i6c, i6d⟩ := pz_gi hE 6 0 4294967295 (Nat.le_of_ble_eq_true rfl) rfl
  obtain ⟨i7a, i7b, i7c, i7d⟩ := pz_gi hE 7 0 4294967295 (Nat.le_of_ble_eq_true rfl) rfl
  obtain ⟨i8a, i8b, i8c, i8d⟩ := pz_gi hE 8 0 4294967295 (Nat.le_of_ble_eq_true rfl) rfl
  obtain ⟨i9a, i9b, i9c, i9d⟩ := pz_gi hE 9 0 4294967295 (Nat.le_of_ble_eq_true rfl) rfl
  obtain ⟨i10a, i10b, i10c, i10d⟩ := pz_gi hE 10 2147483648 2147483657 (Nat.le_of_ble_eq_true rfl) rfl
  obtain ⟨i11a, i11b, i11c, i11d⟩ := pz_gi hE 11 2147483648 2147483657 (Nat.le_of_ble_eq_true rfl) rfl
  have c_links : ay_at hp 176 1 = some (ρ 5) := ay_gfj hE 714 4 23 176 1 ax_m1 (ax_vlq rfl rfl) (ax_vlj rfl rfl)
  have r1 : (ρ 4 / 4 + 2147483648) % 4294967296 < (ρ 5 / 4 + 2147483648) % 4294967296 := pz_gc hE 2 19 23 (Nat.le_of_ble_eq_true rfl) ax_m2
  have s1 : (160 / 4 + 2147483648) % 4294967296 + (ρ 6 / 4 + 2147483648) % 4294967296 = (ρ 7 / 4 + 2147483648) % 4294967296 + 2147483648 := pz_gs hE 160 27 31 ax_m4
  have s2 : (ρ 7 / 4 + 2147483648) % 4294967296 + (0 / 4 + 2147483648) % 4294967296 = (ρ 8 / 4 + 2147483648) % 4294967296 + 2147483648 := pz_gs hE 31 0 35 ax_m5
  have c_ends : ay_at hp 181 (ρ 8 / 4) = some (ρ 10) := ay_gf hE 734 35 43 181 ax_m6 (ax_vlq rfl rfl)
  have s3 : (ρ 7 / 4 + 2147483648) % 4294967296 + (4 / 4 + 2147483648) % 4294967296 = (ρ 9 / 4 + 2147483648) % 4294967296 + 2147483648 := pz_gs hE 31 4 39 ax_m7
  have c_ends2 : ay_at hp 181 (ρ 9 / 4) = some (ρ 11) := ay_gf hE 734 39 47 181 ax_m8 (ax_vlq rfl rfl)
  have r2 : (ρ 10 / 4 + 2147483648) % 4294967296 = (ρ 2 / 4 + 2147483648) % 4294967296 := pz_gc hE 0 43 11 (Nat.le_of_ble_eq_true rfl) ax_m9
  have r3 : (ρ 11 / 4 + 2147483648) % 4294967296 = (ρ 3 / 4 + 2147483648) % 4294967296 := pz_gc hE 0 47 15 (Nat.le_of_ble_eq_true rfl) ax_m10
  obtain ⟨-, -, -, -, -, -, -, -, -, -, -, F152⟩ : ay_ex hp 175 ∧ ay_ex hp 176 ∧ ay_ex hp 177 ∧ ay_ex hp 178 ∧ ay_ex hp 179 ∧ ay_ex hp 173 ∧ ay_ex hp 173 ∧ ay_ex hp 173 ∧ ay_ex hp 173 ∧ ay_ex hp 173 ∧ ay_ex hp 181 ∧ pz_y152 1 (ρ 0) (ρ 1) (ay_at hp 175 1) (ay_at hp 176 1) (ay_at hp 177 1) (ay_at hp 178 1) (ay_at hp 179 1) (ay_at hp 173 23) (ay_at hp 173 25) (ay_at hp 173 24) (ay_at hp 173 18) (ay_at hp 173 19) (ay_at hp 181) := (ax_XF_lt (x := 152) (Nat.le_of_ble_eq_true rfl)).mp (ax_gx hE (152, [3, 7]) ax_m0)
  rw [c_links] at F152
  obtain ⟨r, m1, m2', m3⟩ := ay_mk hE 2 8 19 27 (by decide) (by decide)
  replace m1 : some (8 / 4 * (ρ 4 / 4) % 4294967296) = some r := m1
  have m1 := Option.some.inj m1
  replace m3 : ρ 6 = 4 * r := m3
  have hi := (pz_ps 0 19 i4b i4c i4d (by decide)).2
  have hm : ρ 6 / 4 = 2 * (ρ 4 / 4) := by
    clear s1 s2 s3
    omega
  have h1 : ρ 7 / 4 = 40 + ρ 6 / 4 := pz_sm (by decide) (by omega) i7b s1
  have h2 : ρ 8 / 4 = ρ 7 / 4 + 0 := pz_sm (by omega) (by decide) i8b s2
  have h3 : ρ 9 / 4 = ρ 7 / 4 + 1 := pz_sm (by omega) (by decide) i9b s3
  rw [show ρ 8 / 4 = 40 * 1 + 2 * (ρ 4 / 4) by omega] at c_ends
  rw [show ρ 9 / 4 = 40 * 1 + 2 * (ρ 4 / 4) + 1 by omega] at c_ends2
  refine ⟨(fun y hy => by cases hy), _, List.mem_cons_self, ρ, fun _ _ => rfl, ax_px hE rfl (fun x hx => ?_)⟩
  cases List.mem_singleton.mp hx
  refine (ax_XF_lt (x := 213) (Nat.le_of_ble_eq_true rfl)).mpr ?_
  show pz112 (pz_gt (ρ 0)) (pz_gN (ρ 0)) ((ρ 1) / 4) ((ρ 2) / 4) ((ρ 3) / 4)
  exact pz_jn2 F152 (show ρ 4 / 4 < ρ 5 / 4 by omega) c_ends c_ends2 (Or.inl ⟨by omega, by omega⟩)

theorem axq0_ij2b : ax_RO ax_wM0 (ax_XM 0) axu0_ij2b := by
  intro ρ hp hE hT
  have j0 : ρ 0 % 4 = 1 := pz_gj hE 0 (Nat.le_of_ble_eq_true rfl) rfl
  have j1 : ρ 1 % 4 = 1 := pz_gj hE 1 (Nat.le_of_ble_eq_true rfl) rfl
  obtain ⟨i2a, i2b, i2c, i2d⟩ := pz_gi hE 2 0 4294967295 (Nat.le_of_ble_eq_true rfl) rfl
  obtain ⟨i3a, i3b, i3c, i3d⟩ := pz_gi hE 3 0 4294967295 (Nat.le_of_ble_eq_true rfl) rfl
  obtain ⟨i4a, i4b, i4c, i4d⟩ := pz_gi hE 4 2147483648 2147483667 (Nat.le_of_ble_eq_true rfl) rfl
  obtain ⟨i5a, i5b, i5c, i5d⟩ := pz_gi hE 5 2147483648 2147483668 (Nat.le_of_ble_eq_true rfl) rfl
  obtain ⟨i6a, i6b, i6c, i6d⟩ := pz_gi hE 6 0 4294967295 (Nat.le_of_ble_eq_true rfl) rfl
  obtain ⟨i7a, i7b, i7c, i7d⟩ := pz_gi hE 7 0 4294967295 (Nat.le_of_ble_eq_true rfl) rfl
  obtain ⟨i8a, i8b, i8c, i8d⟩ := pz_gi hE 8 0 4294967295 (Nat.le_of_ble_eq_true rfl) rfl
  obtain ⟨i9a, i9b, i9c, i9d⟩ := pz_gi hE 9 0 4294967295 (Nat.le_of_ble_eq_true rfl) rfl
  obtain ⟨i10a, i10b, i10c, i10d⟩ := pz_gi hE 10 2147483648 2147483657 (Nat.le_of_ble_eq_true rfl) rfl
  obtain ⟨i11a, i11b, i11c, i11d⟩ := pz_gi hE 11 2147483648 2147483657 (Nat.le_of_ble_eq_true rfl) rfl
  have c_links : ay_at hp 176 1 = some (ρ 5) := ay_gfj hE 714 4 23 176 1 ax_m1 (ax_vlq rfl rfl) (ax_vlj rfl rfl)
  have r1 : (ρ 4 / 4 + 2147483648) % 4294967296 < (ρ 5 / 4 + 2147483648) % 4294967296 := pz_gc hE 2 19 23 (Nat.le_of_ble_eq_true rfl) ax_m2
  have s1 : (160 / 4 + 2147483648) % 4294967296 + (ρ 6 / 4 + 2147483648) % 4294967296 = (ρ 7 / 4 + 2147483648) % 4294967296 + 2147483648 := pz_gs hE 160 27 31 ax_m4
  have s2 : (ρ 7 / 4 + 2147483648) % 4294967296 + (0 / 4 + 2147483648) % 4294967296 = (ρ 8 / 4 + 2147483648) % 4294967296 + 2147483648 := pz_gs hE 31 0 35 ax_m5
  have c_ends : ay_at hp 181 (ρ 8 / 4) = some (ρ 10) := ay_gf hE 734 35 43 181 ax_m6 (ax_vlq rfl rfl)
  have s3 : (ρ 7 / 4 + 2147483648) % 4294967296 + (4 / 4 + 2147483648) % 4294967296 = (ρ 9 / 4 + 2147483648) % 4294967296 + 2147483648 := pz_gs hE 31 4 39 ax_m7
  have c_ends2 : ay_at hp 181 (ρ 9 / 4) = some (ρ 11) := ay_gf hE 734 39 47 181 ax_m8 (ax_vlq rfl rfl)
  have r2 : (ρ 10 / 4 + 2147483648) % 4294967296 = (ρ 3 / 4 + 2147483648) % 4294967296 := pz_gc hE 0 43 15 (Nat.le_of_ble_eq_true rfl) ax_m9
  have r3 : (ρ 11 / 4 + 2147483648) % 4294967296 = (ρ 2 / 4 + 2147483648) % 4294967296 := pz_gc hE 0 47 11 (Nat.le_of_ble_eq_true rfl) ax_m10
  obtain ⟨-, -, -, -, -, -, -, -, -, -, -, F152⟩ : ay_ex hp 175 ∧ ay_ex hp 176 ∧ ay_ex hp 177 ∧ ay_ex hp 178 ∧ ay_ex hp 179 ∧ ay_ex hp 173 ∧ ay_ex hp 173 ∧ ay_ex hp 173 ∧ ay_ex hp 173 ∧ ay_ex hp 173 ∧ ay_ex hp 181 ∧ pz_y152 1 (ρ 0) (ρ 1) (ay_at hp 175 1) (ay_at hp 176 1) (ay_at hp 177 1) (ay_at hp 178 1) (ay_at hp 179 1) (ay_at hp 173 23) (ay_at hp 173 25) (ay_at hp 173 24) (ay_at hp 173 18) (ay_at hp 173 19) (ay_at hp 181) := (ax_XF_lt (x := 152) (Nat.le_of_ble_eq_true rfl)).mp (ax_gx hE (152, [3, 7]) ax_m0)
  rw [c_links] at F152
  obtain ⟨r, m1, m2', m3⟩ := ay_mk hE 2 8 19 27 (by decide) (by decide)
  replace m1 : some (8 / 4 * (ρ 4 / 4) % 4294967296) = some r := m1
  have m1 := Option.some.inj m1
  replace m3 : ρ 6 = 4 * r := m3
  have hi := (pz_ps 0 19 i4b i4c i4d (by decide)).2
  have hm : ρ 6 / 4 = 2 * (ρ 4 / 4) := by
    clear s1 s2 s3
    omega
  have h1 : ρ 7 / 4 = 40 + ρ 6 / 4 := pz_sm (by decide) (by omega) i7b s1
  have h2 : ρ 8 / 4 = ρ 7 / 4 + 0 := pz_sm (by omega) (by decide) i8b s2
  have h3 : ρ 9 / 4 = ρ 7 / 4 + 1 := pz_sm (by omega) (by decide) i9b s3
  rw [show ρ 8 / 4 = 40 * 1 + 2 * (ρ 4 / 4) by omega] at c_ends
  rw [show ρ 9 / 4 = 40 * 1 + 2 * (ρ 4 / 4) + 1 by omega] at c_ends2
  refine ⟨(fun y hy => by cases hy), _, List.mem_cons_self, ρ, fun _ _ => rfl, ax_px hE rfl (fun x hx => ?_)⟩
  cases List.mem_singleton.mp hx
  refine (ax_XF_lt (x := 213) (Nat.le_of_ble_eq_true rfl)).mpr ?_
  show pz112 (pz_gt (ρ 0)) (pz_gN (ρ 0)) ((ρ 1) / 4) ((ρ 2) / 4) ((ρ 3) / 4)
  exact pz_jn2 F152 (show ρ 4 / 4 < ρ 5 / 4 by omega) c_ends c_ends2 (Or.inr ⟨by omega, by omega⟩)

theorem axq0_ij3a : ax_RO ax_wM0 (ax_XM 0) axu0_ij3a := by
  intro ρ hp hE hT
  have j0 : ρ 0 % 4 = 1 := pz_gj hE 0 (Nat.le_of_ble_eq_true rfl) rfl
  have j1 : ρ 1 % 4 = 1 := pz_gj hE 1 (Nat.le_of_ble_eq_true rfl) rfl
  obtain ⟨i2a, i2b, i2c, i2d⟩ := pz_gi hE 2 0 4294967295 (Nat.le_of_ble_eq_true rfl) rfl
  obtain ⟨i3a, i3b, i3c, i3d⟩ := pz_gi hE 3 0 4294967295 (Nat.le_of_ble_eq_true rfl) rfl
  obtain ⟨i4a, i4b, i4c, i4d⟩ := pz_gi hE 4 2147483648 2147483667 (Nat.le_of_ble_eq_true rfl) rfl
  obtain ⟨i5a, i5b, i5c, i5d⟩ := pz_gi hE 5 0 4294967295 (Nat.le_of_ble_eq_true rfl) rfl
  obtain ⟨i6a, i6b, i6c, i6d⟩ := pz_gi hE 6 0 4294967295 (Nat.le_of_ble_eq_true rfl) rfl
  obtain ⟨i7a, i7b, i7c, i7d⟩ := pz_gi hE 7 0 4294967295 (Nat.le_of_ble_eq_true rfl) rfl
  obtain ⟨i8a, i8b, i8c, i8d⟩ := pz_gi hE 8 0 4294967295 (Nat.le_of_ble_eq_true rfl) rfl
  obtain ⟨i9a, i9b, i9c, i9d⟩ := pz_gi hE 9 0 4294967295 (Nat.le_of_ble_eq_true rfl) rfl
  obtain ⟨i10a, i10b, i10c, i10d⟩ := pz_gi hE 10 2147483648 2147483657 (Nat.le_of_ble_eq_true rfl) rfl
  obtain ⟨i11a, i11b, i11c, i11d⟩ := pz_gi hE 11 2147483648 2147483657 (Nat.le_of_ble_eq_true rfl) rfl
  have s1 : (ρ 4 / 4 + 2147483648) % 4294967296 + (4 / 4 + 2147483648) % 4294967296 = (ρ 5 / 4 + 2147483648) % 4294967296 + 2147483648 := pz_gs hE 19 4 23 ax_m2
  have s2 : (160 / 4 + 2147483648) % 4294967296 + (ρ 6 / 4 + 2147483648) % 4294967296 = (ρ 7 / 4 + 2147483648) % 4294967296 + 2147483648 := pz_gs hE 160 27 31 ax_m4
  have s3 : (ρ 7 / 4 + 2147483648) % 4294967296 + (0 / 4 + 2147483648) % 4294967296 = (ρ 8 / 4 + 2147483648) % 4294967296 + 2147483648 := pz_gs hE 31 0 35 ax_m5
  have c_ends : ay_at hp 181 (ρ 8 / 4) = some (ρ 10) := ay_gf hE 734 35 43 181 ax_m6 (ax_vlq rfl rfl)
  have s4 : (ρ 7 / 4 + 2147483648) % 4294967296 + (4 / 4 + 2147483648) % 4294967296 = (ρ 9 / 4 + 2147483648) % 4294967296 + 2147483648 := pz_gs hE 31 4 39 ax_m7
  have c_ends2 : ay_at hp 181 (ρ 9 / 4) = some (ρ 11) := ay_gf hE 734 39 47 181 ax_m8 (ax_vlq rfl rfl)
  have r1 : (ρ 10 / 4 + 2147483648) % 4294967296 ≠ (ρ 2 / 4 + 2147483648) % 4294967296 := pz_gc hE 1 43 11 (Nat.le_of_ble_eq_true rfl) ax_m9
  have r2 : (ρ 10 / 4 + 2147483648) % 4294967296 ≠ (ρ 3 / 4 + 2147483648) % 4294967296 := pz_gc hE 1 43 15 (Nat.le_of_ble_eq_true rfl) ax_m10
  obtain ⟨-, -, -, -, -, -, -, -, -, -, -, F152⟩ : ay_ex hp 175 ∧ ay_ex hp 176 ∧ ay_ex hp 177 ∧ ay_ex hp 178 ∧ ay_ex hp 179 ∧ ay_ex hp 173 ∧ ay_ex hp 173 ∧ ay_ex hp 173 ∧ ay_ex hp 173 ∧ ay_ex hp 173 ∧ ay_ex hp 181 ∧ pz_y152 1 (ρ 0) (ρ 1) (ay_at hp 175 1) (ay_at hp 176 1) (ay_at hp 177 1) (ay_at hp 178 1) (ay_at hp 179 1) (ay_at hp 173 23) (ay_at hp 173 25) (ay_at hp 173 24) (ay_at hp 173 18) (ay_at hp 173 19) (ay_at hp 181) := (ax_XF_lt (x := 152) (Nat.le_of_ble_eq_true rfl)).mp (ax_gx hE (152, [3, 7]) ax_m0)
  have F215 : pz_y215 (ρ 0) (ρ 1) (ρ 2) (ρ 3) (ρ 4) := (ax_XF_lt (x := 215) (Nat.le_of_ble_eq_true rfl)).mp (ax_gx hE (215, [3, 7, 11, 15, 19]) ax_m1)
  obtain ⟨r, m1, m2', m3⟩ := ay_mk hE 2 8 19 27 (by decide) (by decide)
  replace m1 : some (8 / 4 * (ρ 4 / 4) % 4294967296) = some r := m1
  have m1 := Option.some.inj m1
  replace m3 : ρ 6 = 4 * r := m3
  have hi := (pz_ps 0 19 i4b i4c i4d (by decide)).2
  have hm : ρ 6 / 4 = 2 * (ρ 4 / 4) := by
    clear s1 s2 s3 s4
    omega
  have h1 : ρ 7 / 4 = 40 + ρ 6 / 4 := pz_sm (by decide) (by omega) i7b s2
  have h2 : ρ 8 / 4 = ρ 7 / 4 + 0 := pz_sm (by omega) (by decide) i8b s3
  have h3 : ρ 9 / 4 = ρ 7 / 4 + 1 := pz_sm (by omega) (by decide) i9b s4
  rw [show ρ 8 / 4 = 40 * 1 + 2 * (ρ 4 / 4) by omega] at c_ends
  rw [show ρ 9 / 4 = 40 * 1 + 2 * (ρ 4 / 4) + 1 by omega] at c_ends2
  have hi2 : ρ 5 / 4 = ρ 4 / 4 + 1 := pz_sm (by omega) (by decide) i5b s1
  refine ⟨(fun y hy => by cases hy), _, List.mem_cons_self, ρ, fun _ _ => rfl, ax_px hE rfl (fun x hx => ?_)⟩
  cases List.mem_singleton.mp hx
  refine (ax_XF_lt (x := 215) (Nat.le_of_ble_eq_true rfl)).mpr ?_
  show pz_y215 (ρ 0) (ρ 1) (ρ 2) (ρ 3) (ρ 5)
  intro j u v hj hz
  replace hj : j < ρ 5 / 4 := hj
  by_cases h : j < ρ 4 / 4
  · exact F215 j u v h hz
  · have e : j = ρ 4 / 4 := by omega
    rw [e] at hz
    exact pz_jn3 F152 c_ends c_ends2 (by omega) hz

theorem axq0_ij3b : ax_RO ax_wM0 (ax_XM 0) axu0_ij3b := by
  intro ρ hp hE hT
  have j0 : ρ 0 % 4 = 1 := pz_gj hE 0 (Nat.le_of_ble_eq_true rfl) rfl
  have j1 : ρ 1 % 4 = 1 := pz_gj hE 1 (Nat.le_of_ble_eq_true rfl) rfl
  obtain ⟨i2a, i2b, i2c, i2d⟩ := pz_gi hE 2 0 4294967295 (Nat.le_of_ble_eq_true rfl) rfl
  obtain ⟨i3a, i3b, i3c, i3d⟩ := pz_gi hE 3 0 4294967295 (Nat.le_of_ble_eq_true rfl) rfl
  obtain ⟨i4a, i4b, i4c, i4d⟩ := pz_gi hE 4 2147483648 2147483667 (Nat.le_of_ble_eq_true rfl) rfl
  obtain ⟨i5a, i5b, i5c, i5d⟩ := pz_gi hE 5 0 4294967295 (Nat.le_of_ble_eq_true rfl) rfl
  obtain ⟨i6a, i6b, i6c, i6d⟩ := pz_gi hE 6 0 4294967295 (Nat.le_of_ble_eq_true rfl) rfl
  obtain ⟨i7a, i7b, i7c, i7d⟩ := pz_gi hE 7 0 4294967295 (Nat.le_of_ble_eq_true rfl) rfl
  obtain ⟨i8a, i8b, i8c, i8d⟩ := pz_gi hE 8 0 4294967295 (Nat.le_of_ble_eq_true rfl) rfl
  obtain ⟨i9a, i9b, i9c, i9d⟩ := pz_gi hE 9 0 4294967295 (Nat.le_of_ble_eq_true rfl) rfl
  obtain ⟨i10a, i10b, i10c, i10d⟩ := pz_gi hE 10 2147483648 2147483657 (Nat.le_of_ble_eq_true rfl) rfl
  obtain ⟨i11a, i11b, i11c, i11d⟩ := pz_gi hE 11 2147483648 2147483657 (Nat.le_of_ble_eq_true rfl) rfl
  have s1 : (ρ 4 / 4 + 2147483648) % 4294967296 + (4 / 4 + 2147483648) % 4294967296 = (ρ 5 / 4 + 2147483648) % 4294967296 + 2147483648 := pz_gs hE 19 4 23 ax_m2
  have s2 : (160 / 4 + 2147483648) % 4294967296 + (ρ 6 / 4 + 2147483648) % 4294967296 = (ρ 7 / 4 + 2147483648) % 4294967296 + 2147483648 := pz_gs hE 160 27 31 ax_m4
  have s3 : (ρ 7 / 4 + 2147483648) % 4294967296 + (0 / 4 + 2147483648) % 4294967296 = (ρ 8 / 4 + 2147483648) % 4294967296 + 2147483648 := pz_gs hE 31 0 35 ax_m5
  have c_ends : ay_at hp 181 (ρ 8 / 4) = some (ρ 10) := ay_gf hE 734 35 43 181 ax_m6 (ax_vlq rfl rfl)
  have s4 : (ρ 7 / 4 + 2147483648) % 4294967296 + (4 / 4 + 2147483648) % 4294967296 = (ρ 9 / 4 + 2147483648) % 4294967296 + 2147483648 := pz_gs hE 31 4 39 ax_m7
  have c_ends2 : ay_at hp 181 (ρ 9 / 4) = some (ρ 11) := ay_gf hE 734 39 47 181 ax_m8 (ax_vlq rfl rfl)
  have r1 : (ρ 10 / 4 + 2147483648) % 4294967296 ≠ (ρ 2 / 4 + 2147483648) % 4294967296 := pz_gc hE 1 43 11 (Nat.le_of_ble_eq_true rfl) ax_m9
  have r2 : (ρ 11 / 4 + 2147483648) % 4294967296 ≠ (ρ 2 / 4 + 2147483648) % 4294967296 := pz_gc hE 1 47 11 (Nat.le_of_ble_eq_true rfl) ax_m10
  obtain ⟨-, -, -, -, -, -, -, -, -, -, -, F152⟩ : ay_ex hp 175 ∧ ay_ex hp 176 ∧ ay_ex hp 177 ∧ ay_ex hp 178 ∧ ay_ex hp 179 ∧ ay_ex hp 173 ∧ ay_ex hp 173 ∧ ay_ex hp 173 ∧ ay_ex hp 173 ∧ ay_ex hp 173 ∧ ay_ex hp 181 ∧ pz_y152 1 (ρ 0) (ρ 1) (ay_at hp 175 1) (ay_at hp 176 1) (ay_at hp 177 1) (ay_at hp 178 1) (ay_at hp 179 1) (ay_at hp 173 23) (ay_at hp 173 25) (ay_at hp 173 24) (ay_at hp 173 18) (ay_at hp 173 19) (ay_at hp 181) := (ax_XF_lt (x := 152) (Nat.le_of_ble_eq_true rfl)).mp (ax_gx hE (152, [3, 7]) ax_m0)
  have F215 : pz_y215 (ρ 0) (ρ 1) (ρ 2) (ρ 3) (ρ 4) := (ax_XF_lt (x := 215) (Nat.le_of_ble_eq_true rfl)).mp (ax_gx hE (215, [3, 7, 11, 15, 19]) ax_m1)
  obtain ⟨r, m1, m2', m3⟩ := ay_mk hE 2 8 19 27 (by decide) (by decide)
  replace m1 : some (8 / 4 * (ρ 4 / 4) % 4294967296) = some r := m1
  have m1 := Option.some.inj m1
  replace m3 : ρ 6 = 4 * r := m3
  have hi := (pz_ps 0 19 i4b i4c i4d (by decide)).2
  have hm : ρ 6 / 4 = 2 * (ρ 4 / 4) := by
    clear s1 s2 s3 s4
    omega
  have h1 : ρ 7 / 4 = 40 + ρ 6 / 4 := pz_sm (by decide) (by omega) i7b s2
  have h2 : ρ 8 / 4 = ρ 7 / 4 + 0 := pz_sm (by omega) (by decide) i8b s3
  have h3 : ρ 9 / 4 = ρ 7 / 4 + 1 := pz_sm (by omega) (by decide) i9b s4
  rw [show ρ 8 / 4 = 40 * 1 + 2 * (ρ 4 / 4) by omega] at c_ends
  rw [show ρ 9 / 4 = 40 * 1 + 2 * (ρ 4 / 4) + 1 by omega] at c_ends2
  have hi2 : ρ 5 / 4 = ρ 4 / 4 + 1 := pz_sm (by omega) (by decide) i5b s1
  refine ⟨(fun y hy => by cases hy), _, List.mem_cons_self, ρ, fun _ _ => rfl, ax_px hE rfl (fun x hx => ?_)⟩
  cases List.mem_singleton.mp hx
  refine (ax_XF_lt (x := 215) (Nat.le_of_ble_eq_true rfl)).mpr ?_
  show pz_y215 (ρ 0) (ρ 1) (ρ 2) (ρ 3) (ρ 5)
  intro j u v hj hz
  replace hj : j < ρ 5 / 4 := hj
  by_cases h : j < ρ 4 / 4
  · exact F215 j u v h hz
  · have e : j = ρ 4 / 4 := by omega
    rw [e] at hz
    exact pz_jn3 F152 c_ends c_ends2 (by omega) hz

