theorem axq_ad1_32 : ax_RO ax_wC ax_XC axu_ad1_32 := by
  intro ρ hp hE hT
  have j0 : ρ 0 % 4 = 1 := pz_gj hE 0 (Nat.le_of_ble_eq_true rfl) rfl
  have j1 : ρ 1 % 4 = 1 := pz_gj hE 1 (Nat.le_of_ble_eq_true rfl) rfl
  obtain ⟨i2a, i2b, i2c, i2d⟩ := pz_gi hE 2 2147483648 2147484448 (Nat.le_of_ble_eq_true rfl) rfl
  obtain ⟨i3a, i3b, i3c, i3d⟩ := pz_gi hE 3 0 4294967295 (Nat.le_of_ble_eq_true rfl) rfl
  obtain ⟨i4a, i4b, i4c, i4d⟩ := pz_gi hE 4 2147483648 2147484448 (Nat.le_of_ble_eq_true rfl) rfl
  obtain ⟨i5a, i5b, i5c, i5d⟩ := pz_gi hE 5 2147483680 2147483680 (Nat.le_of_ble_eq_true rfl) rfl
  have c_ahead : ay_at hp 8 5 = some (ρ 2) := ay_gfj hE 42 20 11 8 5 ax_m2 (ax_vlq rfl rfl) (ax_vlj rfl rfl)
  have c_size : ay_at hp 8 1 = some (ρ 4) := ay_gfj hE 42 4 19 8 1 ax_m3 (ax_vlq rfl rfl) (ax_vlj rfl rfl)
  have c_tape : ay_at hp 9 (ρ 2 / 4) = some (ρ 5) := ay_gf hE 46 11 23 9 ax_m4 (ax_vlq rfl rfl)
  have r1 : (ρ 2 / 4 + 2147483648) % 4294967296 < (ρ 4 / 4 + 2147483648) % 4294967296 := pz_gc hE 2 11 19 (Nat.le_of_ble_eq_true rfl) ax_m5
  have s1 : (ρ 2 / 4 + 2147483648) % 4294967296 + (4 / 4 + 2147483648) % 4294967296 = (ρ 3 / 4 + 2147483648) % 4294967296 + 2147483648 := pz_gs hE 11 4 15 ax_m6
  obtain ⟨-, -, F30⟩ : ay_ex hp 8 ∧ ay_ex hp 9 ∧ pz_x30 (ρ 0) (ay_at hp 8 1) (ay_at hp 9) := (ax_XF_lt (x := 30) (Nat.le_of_ble_eq_true rfl)).mp (ax_gx hE (30, [3]) ax_m0)
  rw [c_size] at F30
  obtain ⟨-, -, -, -, F53⟩ : ay_ex hp 8 ∧ ay_ex hp 10 ∧ ay_ex hp 11 ∧ ay_ex hp 12 ∧ pz_x53 (ρ 0) (ρ 1) (ay_at hp 8 5) (ay_at hp 10 0) (ay_at hp 10 1) (ay_at hp 10 2) (ay_at hp 10 3) (ay_at hp 10 4) (ay_at hp 8 9) (ay_at hp 8 11) (ay_at hp 8 10) (ay_at hp 8 3) (ay_at hp 8 4) (ay_at hp 11) (ay_at hp 12) := (ax_XF_lt (x := 53) (Nat.le_of_ble_eq_true rfl)).mp (ax_gx hE (53, [3, 7]) ax_m1)
  rw [c_ahead] at F53
  refine ⟨(fun y hy => by cases hy), _, List.mem_cons_self, ρ, fun _ _ => rfl, ax_px hE rfl (fun y hy => ?_)⟩
  cases List.mem_singleton.mp hy
  refine (ax_XF_wr (x := 53) (Nat.le_of_ble_eq_true rfl)).mpr ?_
  show ay_ex (ax_upd hp 42 20 (ρ 3)) 8 ∧ ay_ex (ax_upd hp 42 20 (ρ 3)) 10 ∧ ay_ex (ax_upd hp 42 20 (ρ 3)) 11 ∧ ay_ex (ax_upd hp 42 20 (ρ 3)) 12 ∧ pz_x53 (ρ 0) (ρ 1) (ay_at (ax_upd hp 42 20 (ρ 3)) 8 5) (ay_at (ax_upd hp 42 20 (ρ 3)) 10 0) (ay_at (ax_upd hp 42 20 (ρ 3)) 10 1) (ay_at (ax_upd hp 42 20 (ρ 3)) 10 2) (ay_at (ax_upd hp 42 20 (ρ 3)) 10 3) (ay_at (ax_upd hp 42 20 (ρ 3)) 10 4) (ay_at (ax_upd hp 42 20 (ρ 3)) 8 9) (ay_at (ax_upd hp 42 20 (ρ 3)) 8 11) (ay_at (ax_upd hp 42 20 (ρ 3)) 8 10) (ay_at (ax_upd hp 42 20 (ρ 3)) 8 3) (ay_at (ax_upd hp 42 20 (ρ 3)) 8 4) (ay_at (ax_upd hp 42 20 (ρ 3)) 11) (ay_at (ax_upd hp 42 20 (ρ 3)) 12)
  obtain ⟨o0, ho0⟩ := ay_some hT (q := 8) (g := 2) (n := 12) rfl rfl (j := 20 / 4) (Nat.le_of_ble_eq_true rfl)
  have u1 : ∀ q, q ≠ 8 → ay_at (ax_upd hp 42 20 (ρ 3)) q = ay_at hp q := fun q hq => funext (fun j => ay_upd_ne hT.1 hq j)
  have u2 : ∀ j, ay_at (ax_upd hp 42 20 (ρ 3)) 8 j = if j = 5 then some (ρ 3) else ay_at hp 8 j := fun j => ay_upd_eq hT.1 rfl ho0 j
  refine ⟨ay_ex_upd hT.1 (ax_cellT hT (q := 8) (g := 2) rfl), ay_ex_upd hT.1 (ax_cellT hT (q := 10) (g := 1) rfl), ay_ex_upd hT.1 (ax_cellT hT (q := 11) (g := 14) rfl), ay_ex_upd hT.1 (ax_cellT hT (q := 12) (g := 15) rfl), ?_⟩
  rw [u2 5, if_pos rfl, u1 10 (Nat.ne_of_beq_eq_false rfl), u2 9, if_neg (show ¬ 9 = 5 from Nat.ne_of_beq_eq_false rfl), u2 11, if_neg (show ¬ 11 = 5 from Nat.ne_of_beq_eq_false rfl), u2 10, if_neg (show ¬ 10 = 5 from Nat.ne_of_beq_eq_false rfl), u2 3, if_neg (show ¬ 3 = 5 from Nat.ne_of_beq_eq_false rfl), u2 4, if_neg (show ¬ 4 = 5 from Nat.ne_of_beq_eq_false rfl), u1 11 (Nat.ne_of_beq_eq_false rfl), u1 12 (Nat.ne_of_beq_eq_false rfl)]
  have hb : ρ 2 / 4 < pz_gN (ρ 0) → pz_b (pz_gt (ρ 0)) (ρ 2 / 4) = ρ 5 / 4 := fun hl => by
    have e := F30.2.2 (ρ 2 / 4) hl
    rw [c_tape] at e
    have e := Option.some.inj e
    omega
  have hN : ρ 4 / 4 = pz_gN (ρ 0) := F30.1
  refine ⟨?_, F53.2⟩
  show pz_at (pz_gt (ρ 0)) (pz_gN (ρ 0)) (ρ 3 / 4) = _
  rw [show ρ 3 / 4 = ρ 2 / 4 + 1 by omega, ← F53.1]
  exact (pz_e_on (by omega) (by rw [hb (by omega), show ρ 5 / 4 = 32 by omega]; rfl)).symm

theorem axq_ad1_10 : ax_RO ax_wC ax_XC axu_ad1_10 := by
  intro ρ hp hE hT
  have j0 : ρ 0 % 4 = 1 := pz_gj hE 0 (Nat.le_of_ble_eq_true rfl) rfl
  have j1 : ρ 1 % 4 = 1 := pz_gj hE 1 (Nat.le_of_ble_eq_true rfl) rfl
  obtain ⟨i2a, i2b, i2c, i2d⟩ := pz_gi hE 2 2147483648 2147484448 (Nat.le_of_ble_eq_true rfl) rfl
  obtain ⟨i3a, i3b, i3c, i3d⟩ := pz_gi hE 3 0 4294967295 (Nat.le_of_ble_eq_true rfl) rfl
  obtain ⟨i4a, i4b, i4c, i4d⟩ := pz_gi hE 4 2147483648 2147484448 (Nat.le_of_ble_eq_true rfl) rfl
  obtain ⟨i5a, i5b, i5c, i5d⟩ := pz_gi hE 5 2147483658 2147483658 (Nat.le_of_ble_eq_true rfl) rfl
  have c_ahead : ay_at hp 8 5 = some (ρ 2) := ay_gfj hE 42 20 11 8 5 ax_m2 (ax_vlq rfl rfl) (ax_vlj rfl rfl)
  have c_size : ay_at hp 8 1 = some (ρ 4) := ay_gfj hE 42 4 19 8 1 ax_m3 (ax_vlq rfl rfl) (ax_vlj rfl rfl)
  have c_tape : ay_at hp 9 (ρ 2 / 4) = some (ρ 5) := ay_gf hE 46 11 23 9 ax_m4 (ax_vlq rfl rfl)
  have r1 : (ρ 2 / 4 + 2147483648) % 4294967296 < (ρ 4 / 4 + 2147483648) % 4294967296 := pz_gc hE 2 11 19 (Nat.le_of_ble_eq_true rfl) ax_m5
  have s1 : (ρ 2 / 4 + 2147483648) % 4294967296 + (4 / 4 + 2147483648) % 4294967296 = (ρ 3 / 4 + 2147483648) % 4294967296 + 2147483648 := pz_gs hE 11 4 15 ax_m6
  obtain ⟨-, -, F30⟩ : ay_ex hp 8 ∧ ay_ex hp 9 ∧ pz_x30 (ρ 0) (ay_at hp 8 1) (ay_at hp 9) := (ax_XF_lt (x := 30) (Nat.le_of_ble_eq_true rfl)).mp (ax_gx hE (30, [3]) ax_m0)
  rw [c_size] at F30
  obtain ⟨-, -, -, -, F53⟩ : ay_ex hp 8 ∧ ay_ex hp 10 ∧ ay_ex hp 11 ∧ ay_ex hp 12 ∧ pz_x53 (ρ 0) (ρ 1) (ay_at hp 8 5) (ay_at hp 10 0) (ay_at hp 10 1) (ay_at hp 10 2) (ay_at hp 10 3) (ay_at hp 10 4) (ay_at hp 8 9) (ay_at hp 8 11) (ay_at hp 8 10) (ay_at hp 8 3) (ay_at hp 8 4) (ay_at hp 11) (ay_at hp 12) := (ax_XF_lt (x := 53) (Nat.le_of_ble_eq_true rfl)).mp (ax_gx hE (53, [3, 7]) ax_m1)
  rw [c_ahead] at F53
  refine ⟨(fun y hy => by cases hy), _, List.mem_cons_self, ρ, fun _ _ => rfl, ax_px hE rfl (fun y hy => ?_)⟩
  cases List.mem_singleton.mp hy
  refine (ax_XF_wr (x := 53) (Nat.le_of_ble_eq_true rfl)).mpr ?_
  show ay_ex (ax_upd hp 42 20 (ρ 3)) 8 ∧ ay_ex (ax_upd hp 42 20 (ρ 3)) 10 ∧ ay_ex (ax_upd hp 42 20 (ρ 3)) 11 ∧ ay_ex (ax_upd hp 42 20 (ρ 3)) 12 ∧ pz_x53 (ρ 0) (ρ 1) (ay_at (ax_upd hp 42 20 (ρ 3)) 8 5) (ay_at (ax_upd hp 42 20 (ρ 3)) 10 0) (ay_at (ax_upd hp 42 20 (ρ 3)) 10 1) (ay_at (ax_upd hp 42 20 (ρ 3)) 10 2) (ay_at (ax_upd hp 42 20 (ρ 3)) 10 3) (ay_at (ax_upd hp 42 20 (ρ 3)) 10 4) (ay_at (ax_upd hp 42 20 (ρ 3)) 8 9) (ay_at (ax_upd hp 42 20 (ρ 3)) 8 11) (ay_at (ax_upd hp 42 20 (ρ 3)) 8 10) (ay_at (ax_upd hp 42 20 (ρ 3)) 8 3) (ay_at (ax_upd hp 42 20 (ρ 3)) 8 4) (ay_at (ax_upd hp 42 20 (ρ 3)) 11) (ay_at (ax_upd hp 42 20 (ρ 3)) 12)
  obtain ⟨o0, ho0⟩ := ay_some hT (q := 8) (g := 2) (n := 12) rfl rfl (j := 20 / 4) (Nat.le_of_ble_eq_true rfl)
  have u1 : ∀ q, q ≠ 8 → ay_at (ax_upd hp 42 20 (ρ 3)) q = ay_at hp q := fun q hq => funext (fun j => ay_upd_ne hT.1 hq j)
  have u2 : ∀ j, ay_at (ax_upd hp 42 20 (ρ 3)) 8 j = if j = 5 then some (ρ 3) else ay_at hp 8 j := fun j => ay_upd_eq hT.1 rfl ho0 j
  refine ⟨ay_ex_upd hT.1 (ax_cellT hT (q := 8) (g := 2) rfl), ay_ex_upd hT.1 (ax_cellT hT (q := 10) (g := 1) rfl), ay_ex_upd hT.1 (ax_cellT hT (q := 11) (g := 14) rfl), ay_ex_upd hT.1 (ax_cellT hT (q := 12) (g := 15) rfl), ?_⟩
  rw [u2 5, if_pos rfl, u1 10 (Nat.ne_of_beq_eq_false rfl), u2 9, if_neg (show ¬ 9 = 5 from Nat.ne_of_beq_eq_false rfl), u2 11, if_neg (show ¬ 11 = 5 from Nat.ne_of_beq_eq_false rfl), u2 10, if_neg (show ¬ 10 = 5 from Nat.ne_of_beq_eq_false rfl), u2 3, if_neg (show ¬ 3 = 5 from Nat.ne_of_beq_eq_false rfl), u2 4, if_neg (show ¬ 4 = 5 from Nat.ne_of_beq_eq_false rfl), u1 11 (Nat.ne_of_beq_eq_false rfl), u1 12 (Nat.ne_of_beq_eq_false rfl)]
  have hb : ρ 2 / 4 < pz_gN (ρ 0) → pz_b (pz_gt (ρ 0)) (ρ 2 / 4) = ρ 5 / 4 := fun hl => by
    have e := F30.2.2 (ρ 2 / 4) hl
    rw [c_tape] at e
    have e := Option.some.inj e
    omega
  have hN : ρ 4 / 4 = pz_gN (ρ 0) := F30.1
  refine ⟨?_, F53.2⟩
  show pz_at (pz_gt (ρ 0)) (pz_gN (ρ 0)) (ρ 3 / 4) = _
  rw [show ρ 3 / 4 = ρ 2 / 4 + 1 by omega, ← F53.1]
  exact (pz_e_on (by omega) (by rw [hb (by omega), show ρ 5 / 4 = 10 by omega]; rfl)).symm

theorem axq_ad2_e : ax_RO ax_wC ax_XC axu_ad2_e := by
  intro ρ hp hE hT
  have j0 : ρ 0 % 4 = 1 := pz_gj hE 0 (Nat.le_of_ble_eq_true rfl) rfl
  have j1 : ρ 1 % 4 = 1 := pz_gj hE 1 (Nat.le_of_ble_eq_true rfl) rfl
  obtain ⟨i2a, i2b, i2c, i2d⟩ := pz_gi hE 2 2147483648 2147484448 (Nat.le_of_ble_eq_true rfl) rfl
  obtain ⟨i3a, i3b, i3c, i3d⟩ := pz_gi hE 3 2147483648 2147484448 (Nat.le_of_ble_eq_true rfl) rfl
  have c_ahead : ay_at hp 8 5 = some (ρ 2) := ay_gfj hE 42 20 11 8 5 ax_m2 (ax_vlq rfl rfl) (ax_vlj rfl rfl)
  have c_size : ay_at hp 8 1 = some (ρ 3) := ay_gfj hE 42 4 15 8 1 ax_m3 (ax_vlq rfl rfl) (ax_vlj rfl rfl)
  have r1 : (ρ 3 / 4 + 2147483648) % 4294967296 ≤ (ρ 2 / 4 + 2147483648) % 4294967296 := pz_gc hE 3 11 15 (Nat.le_of_ble_eq_true rfl) ax_m4
  obtain ⟨-, -, F30⟩ : ay_ex hp 8 ∧ ay_ex hp 9 ∧ pz_x30 (ρ 0) (ay_at hp 8 1) (ay_at hp 9) := (ax_XF_lt (x := 30) (Nat.le_of_ble_eq_true rfl)).mp (ax_gx hE (30, [3]) ax_m0)
  rw [c_size] at F30
  obtain ⟨-, -, -, -, F53⟩ : ay_ex hp 8 ∧ ay_ex hp 10 ∧ ay_ex hp 11 ∧ ay_ex hp 12 ∧ pz_x53 (ρ 0) (ρ 1) (ay_at hp 8 5) (ay_at hp 10 0) (ay_at hp 10 1) (ay_at hp 10 2) (ay_at hp 10 3) (ay_at hp 10 4) (ay_at hp 8 9) (ay_at hp 8 11) (ay_at hp 8 10) (ay_at hp 8 3) (ay_at hp 8 4) (ay_at hp 11) (ay_at hp 12) := (ax_XF_lt (x := 53) (Nat.le_of_ble_eq_true rfl)).mp (ax_gx hE (53, [3, 7]) ax_m1)
  rw [c_ahead] at F53
  refine ⟨(fun y hy => by cases hy), _, List.mem_cons_self, ρ, fun _ _ => rfl, ax_px hE rfl (fun y hy => ?_)⟩
  cases List.mem_singleton.mp hy
  refine (ax_XF_wr (x := 54) (Nat.le_of_ble_eq_true rfl)).mpr ?_
  show ay_ex (ax_upd hp 42 24 (ρ 2)) 8 ∧ ay_ex (ax_upd hp 42 24 (ρ 2)) 10 ∧ ay_ex (ax_upd hp 42 24 (ρ 2)) 11 ∧ ay_ex (ax_upd hp 42 24 (ρ 2)) 12 ∧ pz_x54 (ρ 0) (ρ 1) (ay_at (ax_upd hp 42 24 (ρ 2)) 8 5) (ay_at (ax_upd hp 42 24 (ρ 2)) 8 6) (ay_at (ax_upd hp 42 24 (ρ 2)) 10 0) (ay_at (ax_upd hp 42 24 (ρ 2)) 10 1) (ay_at (ax_upd hp 42 24 (ρ 2)) 10 2) (ay_at (ax_upd hp 42 24 (ρ 2)) 10 3) (ay_at (ax_upd hp 42 24 (ρ 2)) 10 4) (ay_at (ax_upd hp 42 24 (ρ 2)) 8 9) (ay_at (ax_upd hp 42 24 (ρ 2)) 8 11) (ay_at (ax_upd hp 42 24 (ρ 2)) 8 10) (ay_at (ax_upd hp 42 24 (ρ 2)) 8 3) (ay_at (ax_upd hp 42 24 (ρ 2)) 8 4) (ay_at (ax_upd hp 42 24 (ρ 2)) 11) (ay_at (ax_upd hp 42 24 (ρ 2)) 12)
  obtain ⟨o0, ho0⟩ := ay_some hT (q := 8) (g := 2) (n := 12) rfl rfl (j := 24 / 4) (Nat.le_of_ble_eq_true rfl)
  have u1 : ∀ q, q ≠ 8 → ay_at (ax_upd hp 42 24 (ρ 2)) q = ay_at hp q := fun q hq => funext (fun j => ay_upd_ne hT.1 hq j)
  have u2 : ∀ j, ay_at (ax_upd hp 42 24 (ρ 2)) 8 j = if j = 6 then some (ρ 2) else ay_at hp 8 j := fun j => ay_upd_eq hT.1 rfl ho0 j
  refine ⟨ay_ex_upd hT.1 (ax_cellT hT (q := 8) (g := 2) rfl), ay_ex_upd hT.1 (ax_cellT hT (q := 10) (g := 1) rfl), ay_ex_upd hT.1 (ax_cellT hT (q := 11) (g := 14) rfl), ay_ex_upd hT.1 (ax_cellT hT (q := 12) (g := 15) rfl), ?_⟩
  rw [u2 5, if_neg (show ¬ 5 = 6 from Nat.ne_of_beq_eq_false rfl), u2 6, if_pos rfl, u1 10 (Nat.ne_of_beq_eq_false rfl), u2 9, if_neg (show ¬ 9 = 6 from Nat.ne_of_beq_eq_false rfl), u2 11, if_neg (show ¬ 11 = 6 from Nat.ne_of_beq_eq_false rfl), u2 10, if_neg (show ¬ 10 = 6 from Nat.ne_of_beq_eq_false rfl), u2 3, if_neg (show ¬ 3 = 6 from Nat.ne_of_beq_eq_false rfl), u2 4, if_neg (show ¬ 4 = 6 from Nat.ne_of_beq_eq_false rfl), u1 11 (Nat.ne_of_beq_eq_false rfl), u1 12 (Nat.ne_of_beq_eq_false rfl)]
  rw [c_ahead]
  have hN : ρ 3 / 4 = pz_gN (ρ 0) := F30.1
  have e : pz_at (pz_gt (ρ 0)) (pz_gN (ρ 0)) (ρ 2 / 4) = ρ 2 / 4 := pz_e_off (Or.inl (by omega))
  have e2 : pz_at (pz_gt (ρ 0)) (pz_gN (ρ 0)) (ρ 2 / 4) = pz_at (pz_gt (ρ 0)) (pz_gN (ρ 0)) (pz_p (pz_cf (pz_gt (ρ 0)) (pz_gN (ρ 0)) (ρ 1 / 4))) := F53.1
  exact ⟨by show ρ 2 / 4 = pz_at (pz_gt (ρ 0)) (pz_gN (ρ 0)) (pz_p (pz_cf (pz_gt (ρ 0)) (pz_gN (ρ 0)) (ρ 1 / 4))); omega, rfl, F53.2⟩

theorem axq_ad2_a : ax_RO ax_wC ax_XC axu_ad2_a := by
  intro ρ hp hE hT
  have j0 : ρ 0 % 4 = 1 := pz_gj hE 0 (Nat.le_of_ble_eq_true rfl) rfl
  have j1 : ρ 1 % 4 = 1 := pz_gj hE 1 (Nat.le_of_ble_eq_true rfl) rfl
  obtain ⟨i2a, i2b, i2c, i2d⟩ := pz_gi hE 2 2147483648 2147484448 (Nat.le_of_ble_eq_true rfl) rfl
  obtain ⟨i3a, i3b, i3c, i3d⟩ := pz_gi hE 3 2147483520 2147483657 (Nat.le_of_ble_eq_true rfl) rfl
  have c_ahead : ay_at hp 8 5 = some (ρ 2) := ay_gfj hE 42 20 11 8 5 ax_m2 (ax_vlq rfl rfl) (ax_vlj rfl rfl)
  have c_tape : ay_at hp 9 (ρ 2 / 4) = some (ρ 3) := ay_gf hE 46 11 15 9 ax_m3 (ax_vlq rfl rfl)
  obtain ⟨-, -, F30⟩ : ay_ex hp 8 ∧ ay_ex hp 9 ∧ pz_x30 (ρ 0) (ay_at hp 8 1) (ay_at hp 9) := (ax_XF_lt (x := 30) (Nat.le_of_ble_eq_true rfl)).mp (ax_gx hE (30, [3]) ax_m0)
  obtain ⟨-, -, -, -, F53⟩ : ay_ex hp 8 ∧ ay_ex hp 10 ∧ ay_ex hp 11 ∧ ay_ex hp 12 ∧ pz_x53 (ρ 0) (ρ 1) (ay_at hp 8 5) (ay_at hp 10 0) (ay_at hp 10 1) (ay_at hp 10 2) (ay_at hp 10 3) (ay_at hp 10 4) (ay_at hp 8 9) (ay_at hp 8 11) (ay_at hp 8 10) (ay_at hp 8 3) (ay_at hp 8 4) (ay_at hp 11) (ay_at hp 12) := (ax_XF_lt (x := 53) (Nat.le_of_ble_eq_true rfl)).mp (ax_gx hE (53, [3, 7]) ax_m1)
  rw [c_ahead] at F53
  refine ⟨(fun y hy => by cases hy), _, List.mem_cons_self, ρ, fun _ _ => rfl, ax_px hE rfl (fun y hy => ?_)⟩
  cases List.mem_singleton.mp hy
  refine (ax_XF_wr (x := 54) (Nat.le_of_ble_eq_true rfl)).mpr ?_
  show ay_ex (ax_upd hp 42 24 (ρ 2)) 8 ∧ ay_ex (ax_upd hp 42 24 (ρ 2)) 10 ∧ ay_ex (ax_upd hp 42 24 (ρ 2)) 11 ∧ ay_ex (ax_upd hp 42 24 (ρ 2)) 12 ∧ pz_x54 (ρ 0) (ρ 1) (ay_at (ax_upd hp 42 24 (ρ 2)) 8 5) (ay_at (ax_upd hp 42 24 (ρ 2)) 8 6) (ay_at (ax_upd hp 42 24 (ρ 2)) 10 0) (ay_at (ax_upd hp 42 24 (ρ 2)) 10 1) (ay_at (ax_upd hp 42 24 (ρ 2)) 10 2) (ay_at (ax_upd hp 42 24 (ρ 2)) 10 3) (ay_at (ax_upd hp 42 24 (ρ 2)) 10 4) (ay_at (ax_upd hp 42 24 (ρ 2)) 8 9) (ay_at (ax_upd hp 42 24 (ρ 2)) 8 11) (ay_at (ax_upd hp 42 24 (ρ 2)) 8 10) (ay_at (ax_upd hp 42 24 (ρ 2)) 8 3) (ay_at (ax_upd hp 42 24 (ρ 2)) 8 4) (ay_at (ax_upd hp 42 24 (ρ 2)) 11) (ay_at (ax_upd hp 42 24 (ρ 2)) 12)
  obtain ⟨o0, ho0⟩ := ay_some hT (q := 8) (g := 2) (n := 12) rfl rfl (j := 24 / 4) (Nat.le_of_ble_eq_true rfl)
  have u1 : ∀ q, q ≠ 8 → ay_at (ax_upd hp 42 24 (ρ 2)) q = ay_at hp q := fun q hq => funext (fun j => ay_upd_ne hT.1 hq j)
  have u2 : ∀ j, ay_at (ax_upd hp 42 24 (ρ 2)) 8 j = if j = 6 then some (ρ 2) else ay_at hp 8 j := fun j => ay_upd_eq hT.1 rfl ho0 j
  refine ⟨ay_ex_upd hT.1 (ax_cellT hT (q := 8) (g := 2) rfl), ay_ex_upd hT.1 (ax_cellT hT (q := 10) (g := 1) rfl), ay_ex_upd hT.1 (ax_cellT hT (q := 11) (g := 14) rfl), ay_ex_upd hT.1 (ax_cellT hT (q := 12) (g := 15) rfl), ?_⟩
  rw [u2 5, if_neg (show ¬ 5 = 6 from Nat.ne_of_beq_eq_false rfl), u2 6, if_pos rfl, u1 10 (Nat.ne_of_beq_eq_false rfl), u2 9, if_neg (show ¬ 9 = 6 from Nat.ne_of_beq_eq_false rfl), u2 11, if_neg (show ¬ 11 = 6 from Nat.ne_of_beq_eq_false rfl), u2 10, if_neg (show ¬ 10 = 6 from Nat.ne_of_beq_eq_false rfl), u2 3, if_neg (show ¬ 3 = 6 from Nat.ne_of_beq_eq_false rfl), u2 4, if_neg (show ¬ 4 = 6 from Nat.ne_of_beq_eq_false rfl), u1 11 (Nat.ne_of_beq_eq_false rfl), u1 12 (Nat.ne_of_beq_eq_false rfl)]
  rw [c_ahead]
  have hb : ρ 2 / 4 < pz_gN (ρ 0) → pz_b (pz_gt (ρ 0)) (ρ 2 / 4) = ρ 3 / 4 := fun hl => by
    have e := F30.2.2 (ρ 2 / 4) hl
    rw [c_tape] at e
    have e := Option.some.inj e
    omega
  have e : pz_at (pz_gt (ρ 0)) (pz_gN (ρ 0)) (ρ 2 / 4) = ρ 2 / 4 := pz_e_off (by
    by_cases hl : ρ 2 / 4 < pz_gN (ρ 0)
    · exact Or.inr (by rw [hb hl]; exact pz_bl_no (by omega) (by omega))
    · exact Or.inl (by omega))
  have e2 : pz_at (pz_gt (ρ 0)) (pz_gN (ρ 0)) (ρ 2 / 4) = pz_at (pz_gt (ρ 0)) (pz_gN (ρ 0)) (pz_p (pz_cf (pz_gt (ρ 0)) (pz_gN (ρ 0)) (ρ 1 / 4))) := F53.1
  exact ⟨by show ρ 2 / 4 = pz_at (pz_gt (ρ 0)) (pz_gN (ρ 0)) (pz_p (pz_cf (pz_gt (ρ 0)) (pz_gN (ρ 0)) (ρ 1 / 4))); omega, rfl, F53.2⟩

theorem axq_ad2_b : ax_RO ax_wC ax_XC axu_ad2_b := by
  intro ρ hp hE hT
  have j0 : ρ 0 % 4 = 1 := pz_gj hE 0 (Nat.le_of_ble_eq_true rfl) rfl
  have j1 : ρ 1 % 4 = 1 := pz_gj hE 1 (Nat.le_of_ble_eq_true rfl) rfl
  obtain ⟨i2a, i2b, i2c, i2d⟩ := pz_gi hE 2 2147483648 2147484448 (Nat.le_of_ble_eq_true rfl) rfl
  obtain ⟨i3a, i3b, i3c, i3d⟩ := pz_gi hE 3 2147483659 2147483679 (Nat.le_of_ble_eq_true rfl) rfl
  have c_ahead : ay_at hp 8 5 = some (ρ 2) := ay_gfj hE 42 20 11 8 5 ax_m2 (ax_vlq rfl rfl) (ax_vlj rfl rfl)
  have c_tape : ay_at hp 9 (ρ 2 / 4) = some (ρ 3) := ay_gf hE 46 11 15 9 ax_m3 (ax_vlq rfl rfl)
  obtain ⟨-, -, F30⟩ : ay_ex hp 8 ∧ ay_ex hp 9 ∧ pz_x30 (ρ 0) (ay_at hp 8 1) (ay_at hp 9) := (ax_XF_lt (x := 30) (Nat.le_of_ble_eq_true rfl)).mp (ax_gx hE (30, [3]) ax_m0)
  obtain ⟨-, -, -, -, F53⟩ : ay_ex hp 8 ∧ ay_ex hp 10 ∧ ay_ex hp 11 ∧ ay_ex hp 12 ∧ pz_x53 (ρ 0) (ρ 1) (ay_at hp 8 5) (ay_at hp 10 0) (ay_at hp 10 1) (ay_at hp 10 2) (ay_at hp 10 3) (ay_at hp 10 4) (ay_at hp 8 9) (ay_at hp 8 11) (ay_at hp 8 10) (ay_at hp 8 3) (ay_at hp 8 4) (ay_at hp 11) (ay_at hp 12) := (ax_XF_lt (x := 53) (Nat.le_of_ble_eq_true rfl)).mp (ax_gx hE (53, [3, 7]) ax_m1)
  rw [c_ahead] at F53
  refine ⟨(fun y hy => by cases hy), _, List.mem_cons_self, ρ, fun _ _ => rfl, ax_px hE rfl (fun y hy => ?_)⟩
  cases List.mem_singleton.mp hy
  refine (ax_XF_wr (x := 54) (Nat.le_of_ble_eq_true rfl)).mpr ?_
  show ay_ex (ax_upd hp 42 24 (ρ 2)) 8 ∧ ay_ex (ax_upd hp 42 24 (ρ 2)) 10 ∧ ay_ex (ax_upd hp 42 24 (ρ 2)) 11 ∧ ay_ex (ax_upd hp 42 24 (ρ 2)) 12 ∧ pz_x54 (ρ 0) (ρ 1) (ay_at (ax_upd hp 42 24 (ρ 2)) 8 5) (ay_at (ax_upd hp 42 24 (ρ 2)) 8 6) (ay_at (ax_upd hp 42 24 (ρ 2)) 10 0) (ay_at (ax_upd hp 42 24 (ρ 2)) 10 1) (ay_at (ax_upd hp 42 24 (ρ 2)) 10 2) (ay_at (ax_upd hp 42 24 (ρ 2)) 10 3) (ay_at (ax_upd hp 42 24 (ρ 2)) 10 4) (ay_at (ax_upd hp 42 24 (ρ 2)) 8 9) (ay_at (ax_upd hp 42 24 (ρ 2)) 8 11) (ay_at (ax_upd hp 42 24 (ρ 2)) 8 10) (ay_at (ax_upd hp 42 24 (ρ 2)) 8 3) (ay_at (ax_upd hp 42 24 (ρ 2)) 8 4) (ay_at (ax_upd hp 42 24 (ρ 2)) 11) (ay_at (ax_upd hp 42 24 (ρ 2)) 12)
  obtain ⟨o0, ho0⟩ := ay_some hT (q := 8) (g := 2) (n := 12) rfl rfl (j := 24 / 4) (Nat.le_of_ble_eq_true rfl)
  have u1 : ∀ q, q ≠ 8 → ay_at (ax_upd hp 42 24 (ρ 2)) q = ay_at hp q := fun q hq => funext (fun j => ay_upd_ne hT.1 hq j)
  have u2 : ∀ j, ay_at (ax_upd hp 42 24 (ρ 2)) 8 j = if j = 6 then some (ρ 2) else ay_at hp 8 j := fun j => ay_upd_eq hT.1 rfl ho0 j
  refine ⟨ay_ex_upd hT.1 (ax_cellT hT (q := 8) (g := 2) rfl), ay_ex_upd hT.1 (ax_cellT hT (q := 10) (g := 1) rfl), ay_ex_upd hT.1 (ax_cellT hT (q := 11) (g := 14) rfl), ay_ex_upd hT.1 (ax_cellT hT (q := 12) (g := 15) rfl), ?_⟩
  rw [u2 5, if_neg (show ¬ 5 = 6 from Nat.ne_of_beq_eq_false rfl), u2 6, if_pos rfl, u1 10 (Nat.ne_of_beq_eq_false rfl), u2 9, if_neg (show ¬ 9 = 6 from Nat.ne_of_beq_eq_false rfl), u2 11, if_neg (show ¬ 11 = 6 from Nat.ne_of_beq_eq_false rfl), u2 10, if_neg (show ¬ 10 = 6 from Nat.ne_of_beq_eq_false rfl), u2 3, if_neg (show ¬ 3 = 6 from Nat.ne_of_beq_eq_false rfl), u2 4, if_neg (show ¬ 4 = 6 from Nat.ne_of_beq_eq_false rfl), u1 11 (Nat.ne_of_beq_eq_false rfl), u1 12 (Nat.ne_of_beq_eq_false rfl)]
  rw [c_ahead]
  have hb : ρ 2 / 4 < pz_gN (ρ 0) → pz_b (pz_gt (ρ 0)) (ρ 2 / 4) = ρ 3 / 4 := fun hl => by
    have e := F30.2.2 (ρ 2 / 4) hl
    rw [c_tape] at e
    have e := Option.some.inj e
    omega
  have e : pz_at (pz_gt (ρ 0)) (pz_gN (ρ 0)) (ρ 2 / 4) = ρ 2 / 4 := pz_e_off (by
    by_cases hl : ρ 2 / 4 < pz_gN (ρ 0)
    · exact Or.inr (by rw [hb hl]; exact pz_bl_no (by omega) (by omega))
    · exact Or.inl (by omega))
  have e2 : pz_at (pz_gt (ρ 0)) (pz_gN (ρ 0)) (ρ 2 / 4) = pz_at (pz_gt (ρ 0)) (pz_gN (ρ 0)) (pz_p (pz_cf (pz_gt (ρ 0)) (pz_gN (ρ 0)) (ρ 1 / 4))) := F53.1
  exact ⟨by show ρ 2 / 4 = pz_at (pz_gt (ρ 0)) (pz_gN (ρ 0)) (pz_p (pz_cf (pz_gt (ρ 0)) (pz_gN (ρ 0)) (ρ 1 / 4))); omega, rfl, F53.2⟩

theorem axq_ad2_c : ax_RO ax_wC ax_XC axu_ad2_c := by
  intro ρ hp hE hT
  have j0 : ρ 0 % 4 = 1 := pz_gj hE 0 (Nat.le_of_ble_eq_true rfl) rfl
  have j1 : ρ 1 % 4 = 1 := pz_gj hE 1 (Nat.le_of_ble_eq_true rfl) rfl
  obtain ⟨i2a, i2b, i2c, i2d⟩ := pz_gi hE 2 2147483648 2147484448 (Nat.le_of_ble_eq_true rfl) rfl
  obtain ⟨i3a, i3b, i3c, i3d⟩ := pz_gi hE 3 2147483681 2147483775 (Nat.le_of_ble_eq_true rfl) rfl
  have c_ahead : ay_at hp 8 5 = some (ρ 2) := ay_gfj hE 42 20 11 8 5 ax_m2 (ax_vlq rfl rfl) (ax_vlj rfl rfl)
  have c_tape : ay_at hp 9 (ρ 2 / 4) = some (ρ 3) := ay_gf hE 46 11 15 9 ax_m3 (ax_vlq rfl rfl)
  obtain ⟨-, -, F30⟩ : ay_ex hp 8 ∧ ay_ex hp 9 ∧ pz_x30 (ρ 0) (ay_at hp 8 1) (ay_at hp 9) := (ax_XF_lt (x := 30) (Nat.le_of_ble_eq_true rfl)).mp (ax_gx hE (30, [3]) ax_m0)
  obtain ⟨-, -, -, -, F53⟩ : ay_ex hp 8 ∧ ay_ex hp 10 ∧ ay_ex hp 11 ∧ ay_ex hp 12 ∧ pz_x53 (ρ 0) (ρ 1) (ay_at hp 8 5) (ay_at hp 10 0) (ay_at hp 10 1) (ay_at hp 10 2) (ay_at hp 10 3) (ay_at hp 10 4) (ay_at hp 8 9) (ay_at hp 8 11) (ay_at hp 8 10) (ay_at hp 8 3) (ay_at hp 8 4) (ay_at hp 11) (ay_at hp 12) := (ax_XF_lt (x := 53) (Nat.le_of_ble_eq_true rfl)).mp (ax_gx hE (53, [3, 7]) ax_m1)
  rw [c_ahead] at F53
  refine ⟨(fun y hy => by cases hy), _, List.mem_cons_self, ρ, fun _ _ => rfl, ax_px hE rfl (fun y hy => ?_)⟩
  cases List.mem_singleton.mp hy
  refine (ax_XF_wr (x := 54) (Nat.le_of_ble_eq_true rfl)).mpr ?_
  show ay_ex (ax_upd hp 42 24 (ρ 2)) 8 ∧ ay_ex (ax_upd hp 42 24 (ρ 2)) 10 ∧ ay_ex (ax_upd hp 42 24 (ρ 2)) 11 ∧ ay_ex (ax_upd hp 42 24 (ρ 2)) 12 ∧ pz_x54 (ρ 0) (ρ 1) (ay_at (ax_upd hp 42 24 (ρ 2)) 8 5) (ay_at (ax_upd hp 42 24 (ρ 2)) 8 6) (ay_at (ax_upd hp 42 24 (ρ 2)) 10 0) (ay_at (ax_upd hp 42 24 (ρ 2)) 10 1) (ay_at (ax_upd hp 42 24 (ρ 2)) 10 2) (ay_at (ax_upd hp 42 24 (ρ 2)) 10 3) (ay_at (ax_upd hp 42 24 (ρ 2)) 10 4) (ay_at (ax_upd hp 42 24 (ρ 2)) 8 9) (ay_at (ax_upd hp 42 24 (ρ 2)) 8 11) (ay_at (ax_upd hp 42 24 (ρ 2)) 8 10) (ay_at (ax_upd hp 42 24 (ρ 2)) 8 3) (ay_at (ax_upd hp 42 24 (ρ 2)) 8 4) (ay_at (ax_upd hp 42 24 (ρ 2)) 11) (ay_at (ax_upd hp 42 24 (ρ 2)) 12)
  obtain ⟨o0, ho0⟩ := ay_some hT (q := 8) (g := 2) (n := 12) rfl rfl (j := 24 / 4) (Nat.le_of_ble_eq_true rfl)
  have u1 : ∀ q, q ≠ 8 → ay_at (ax_upd hp 42 24 (ρ 2)) q = ay_at hp q := fun q hq => funext (fun j => ay_upd_ne hT.1 hq j)
  have u2 : ∀ j, ay_at (ax_upd hp 42 24 (ρ 2)) 8 j = if j = 6 then some (ρ 2) else ay_at hp 8 j := fun j => ay_upd_eq hT.1 rfl ho0 j
  refine ⟨ay_ex_upd hT.1 (ax_cellT hT (q := 8) (g := 2) rfl), ay_ex_upd hT.1 (ax_cellT hT (q := 10) (g := 1) rfl), ay_ex_upd hT.1 (ax_cellT hT (q := 11) (g := 14) rfl), ay_ex_upd hT.1 (ax_cellT hT (q := 12) (g := 15) rfl), ?_⟩
  rw [u2 5, if_neg (show ¬ 5 = 6 from Nat.ne_of_beq_eq_false rfl), u2 6, if_pos rfl, u1 10 (Nat.ne_of_beq_eq_false rfl), u2 9, if_neg (show ¬ 9 = 6 from Nat.ne_of_beq_eq_false rfl), u2 11, if_neg (show ¬ 11 = 6 from Nat.ne_of_beq_eq_false rfl), u2 10, if_neg (show ¬ 10 = 6 from Nat.ne_of_beq_eq_false rfl), u2 3, if_neg (show ¬ 3 = 6 from Nat.ne_of_beq_eq_false rfl), u2 4, if_neg (show ¬ 4 = 6 from Nat.ne_of_beq_eq_false rfl), u1 11 (Nat.ne_of_beq_eq_false rfl), u1 12 (Nat.ne_of_beq_eq_false rfl)]
  rw [c_ahead]
  have hb : ρ 2 / 4 < pz_gN (ρ 0) → pz_b (pz_gt (ρ 0)) (ρ 2 / 4) = ρ 3 / 4 := fun hl => by
    have e := F30.2.2 (ρ 2 / 4) hl
    rw [c_tape] at e
    have e := Option.some.inj e
    omega
  have e : pz_at (pz_gt (ρ 0)) (pz_gN (ρ 0)) (ρ 2 / 4) = ρ 2 / 4 := pz_e_off (by
    by_cases hl : ρ 2 / 4 < pz_gN (ρ 0)
    · exact Or.inr (by rw [hb hl]; exact pz_bl_no (by omega) (by omega))
    · exact Or.inl (by omega))
  have e2 : pz_at (pz_gt (ρ 0)) (pz_gN (ρ 0)) (ρ 2 / 4) = pz_at (pz_gt (ρ 0)) (pz_gN (ρ 0)) (pz_p (pz_cf (pz_gt (ρ 0)) (pz_gN (ρ 0)) (ρ 1 / 4))) := F53.1
  exact ⟨by show ρ 2 / 4 = pz_at (pz_gt (ρ 0)) (pz_gN (ρ 0)) (pz_p (pz_cf (pz_gt (ρ 0)) (pz_gN (ρ 0)) (ρ 1 / 4))); omega, rfl, F53.2⟩

theorem axq_ad3 : ax_RO ax_wC ax_XC axu_ad3 := by
  intro ρ hp hE hT
  have j0 : ρ 0 % 4 = 1 := pz_gj hE 0 (Nat.le_of_ble_eq_true rfl) rfl
  have j1 : ρ 1 % 4 = 1 := pz_gj hE 1 (Nat.le_of_ble_eq_true rfl) rfl
  obtain ⟨i2a, i2b, i2c, i2d⟩ := pz_gi hE 2 2147483648 2147484448 (Nat.le_of_ble_eq_true rfl) rfl
  obtain ⟨i3a, i3b, i3c, i3d⟩ := pz_gi hE 3 2147483648 2147484448 (Nat.le_of_ble_eq_true rfl) rfl
  have c_ahead : ay_at hp 8 5 = some (ρ 2) := ay_gfj hE 42 20 11 8 5 ax_m2 (ax_vlq rfl rfl) (ax_vlj rfl rfl)
  have c_size : ay_at hp 8 1 = some (ρ 3) := ay_gfj hE 42 4 15 8 1 ax_m3 (ax_vlq rfl rfl) (ax_vlj rfl rfl)
  have r1 : (ρ 3 / 4 + 2147483648) % 4294967296 ≤ (ρ 2 / 4 + 2147483648) % 4294967296 := pz_gc hE 3 11 15 (Nat.le_of_ble_eq_true rfl) ax_m4
  obtain ⟨-, -, F30⟩ : ay_ex hp 8 ∧ ay_ex hp 9 ∧ pz_x30 (ρ 0) (ay_at hp 8 1) (ay_at hp 9) := (ax_XF_lt (x := 30) (Nat.le_of_ble_eq_true rfl)).mp (ax_gx hE (30, [3]) ax_m0)
  rw [c_size] at F30
  obtain ⟨-, -, -, -, F54⟩ : ay_ex hp 8 ∧ ay_ex hp 10 ∧ ay_ex hp 11 ∧ ay_ex hp 12 ∧ pz_x54 (ρ 0) (ρ 1) (ay_at hp 8 5) (ay_at hp 8 6) (ay_at hp 10 0) (ay_at hp 10 1) (ay_at hp 10 2) (ay_at hp 10 3) (ay_at hp 10 4) (ay_at hp 8 9) (ay_at hp 8 11) (ay_at hp 8 10) (ay_at hp 8 3) (ay_at hp 8 4) (ay_at hp 11) (ay_at hp 12) := (ax_XF_lt (x := 54) (Nat.le_of_ble_eq_true rfl)).mp (ax_gx hE (54, [3, 7]) ax_m1)
  rw [c_ahead] at F54
  refine ⟨(fun y hy => by cases hy), _, List.mem_cons_self, ρ, fun _ _ => rfl, ax_px hE rfl (fun y hy => ?_)⟩
  cases List.mem_singleton.mp hy
  refine (ax_XF_wr (x := 50) (Nat.le_of_ble_eq_true rfl)).mpr ?_
  show ay_ex (ax_upd hp 42 28 (0)) 8 ∧ ay_ex (ax_upd hp 42 28 (0)) 10 ∧ ay_ex (ax_upd hp 42 28 (0)) 11 ∧ ay_ex (ax_upd hp 42 28 (0)) 12 ∧ pz_x50 (ρ 0) (ρ 1) (ay_at (ax_upd hp 42 28 (0)) 8 5) (ay_at (ax_upd hp 42 28 (0)) 8 6) (ay_at (ax_upd hp 42 28 (0)) 8 7) (ay_at (ax_upd hp 42 28 (0)) 8 8) (ay_at (ax_upd hp 42 28 (0)) 10 0) (ay_at (ax_upd hp 42 28 (0)) 10 1) (ay_at (ax_upd hp 42 28 (0)) 10 2) (ay_at (ax_upd hp 42 28 (0)) 10 3) (ay_at (ax_upd hp 42 28 (0)) 10 4) (ay_at (ax_upd hp 42 28 (0)) 8 9) (ay_at (ax_upd hp 42 28 (0)) 8 11) (ay_at (ax_upd hp 42 28 (0)) 8 10) (ay_at (ax_upd hp 42 28 (0)) 8 3) (ay_at (ax_upd hp 42 28 (0)) 8 4) (ay_at (ax_upd hp 42 28 (0)) 11) (ay_at (ax_upd hp 42 28 (0)) 12)
  obtain ⟨o0, ho0⟩ := ay_some hT (q := 8) (g := 2) (n := 12) rfl rfl (j := 28 / 4) (Nat.le_of_ble_eq_true rfl)
  have u1 : ∀ q, q ≠ 8 → ay_at (ax_upd hp 42 28 (0)) q = ay_at hp q := fun q hq => funext (fun j => ay_upd_ne hT.1 hq j)
  have u2 : ∀ j, ay_at (ax_upd hp 42 28 (0)) 8 j = if j = 7 then some (0) else ay_at hp 8 j := fun j => ay_upd_eq hT.1 rfl ho0 j
  refine ⟨ay_ex_upd hT.1 (ax_cellT hT (q := 8) (g := 2) rfl), ay_ex_upd hT.1 (ax_cellT hT (q := 10) (g := 1) rfl), ay_ex_upd hT.1 (ax_cellT hT (q := 11) (g := 14) rfl), ay_ex_upd hT.1 (ax_cellT hT (q := 12) (g := 15) rfl), ?_⟩
  rw [u2 5, if_neg (show ¬ 5 = 7 from Nat.ne_of_beq_eq_false rfl), u2 6, if_neg (show ¬ 6 = 7 from Nat.ne_of_beq_eq_false rfl), u2 7, if_pos rfl, u2 8, if_neg (show ¬ 8 = 7 from Nat.ne_of_beq_eq_false rfl), u1 10 (Nat.ne_of_beq_eq_false rfl), u2 9, if_neg (show ¬ 9 = 7 from Nat.ne_of_beq_eq_false rfl), u2 11, if_neg (show ¬ 11 = 7 from Nat.ne_of_beq_eq_false rfl), u2 10, if_neg (show ¬ 10 = 7 from Nat.ne_of_beq_eq_false rfl), u2 3, if_neg (show ¬ 3 = 7 from Nat.ne_of_beq_eq_false rfl), u2 4, if_neg (show ¬ 4 = 7 from Nat.ne_of_beq_eq_false rfl), u1 11 (Nat.ne_of_beq_eq_false rfl), u1 12 (Nat.ne_of_beq_eq_false rfl)]
  rw [c_ahead]
  have hN : ρ 3 / 4 = pz_gN (ρ 0) := F30.1
  have e1 : ay_ln (ay_at hp 8 6) = pz_at (pz_gt (ρ 0)) (pz_gN (ρ 0)) (pz_p (pz_cf (pz_gt (ρ 0)) (pz_gN (ρ 0)) (ρ 1 / 4))) := F54.1
  have e2 : ρ 2 / 4 = ay_ln (ay_at hp 8 6) := F54.2.1
  obtain ⟨k1, k2⟩ := pz_kd_end (t := pz_gt (ρ 0)) (N := pz_gN (ρ 0)) (p := pz_p (pz_cf (pz_gt (ρ 0)) (pz_gN (ρ 0)) (ρ 1 / 4))) (by omega)
  exact ⟨by show ρ 2 / 4 = _; omega, e1, by show 0 = _; omega, fun z => (by cases z), F54.2.2⟩

theorem axq_ad4 : ax_RO ax_wC ax_XC axu_ad4 := by
  intro ρ hp hE hT
  have j0 : ρ 0 % 4 = 1 := pz_gj hE 0 (Nat.le_of_ble_eq_true rfl) rfl
  have j1 : ρ 1 % 4 = 1 := pz_gj hE 1 (Nat.le_of_ble_eq_true rfl) rfl
  obtain ⟨i2a, i2b, i2c, i2d⟩ := pz_gi hE 2 2147483648 2147484448 (Nat.le_of_ble_eq_true rfl) rfl
  obtain ⟨i3a, i3b, i3c, i3d⟩ := pz_gi hE 3 0 4294967295 (Nat.le_of_ble_eq_true rfl) rfl
  obtain ⟨i4a, i4b, i4c, i4d⟩ := pz_gi hE 4 2147483648 2147484448 (Nat.le_of_ble_eq_true rfl) rfl
  have c_ahead : ay_at hp 8 5 = some (ρ 2) := ay_gfj hE 42 20 11 8 5 ax_m2 (ax_vlq rfl rfl) (ax_vlj rfl rfl)
  have c_size : ay_at hp 8 1 = some (ρ 4) := ay_gfj hE 42 4 19 8 1 ax_m3 (ax_vlq rfl rfl) (ax_vlj rfl rfl)
  have r1 : (ρ 2 / 4 + 2147483648) % 4294967296 < (ρ 4 / 4 + 2147483648) % 4294967296 := pz_gc hE 2 11 19 (Nat.le_of_ble_eq_true rfl) ax_m4
  have s1 : (ρ 2 / 4 + 2147483648) % 4294967296 + (4 / 4 + 2147483648) % 4294967296 = (ρ 3 / 4 + 2147483648) % 4294967296 + 2147483648 := pz_gs hE 11 4 15 ax_m5
  obtain ⟨-, -, F30⟩ : ay_ex hp 8 ∧ ay_ex hp 9 ∧ pz_x30 (ρ 0) (ay_at hp 8 1) (ay_at hp 9) := (ax_XF_lt (x := 30) (Nat.le_of_ble_eq_true rfl)).mp (ax_gx hE (30, [3]) ax_m0)
  rw [c_size] at F30
  obtain ⟨-, -, -, -, F54⟩ : ay_ex hp 8 ∧ ay_ex hp 10 ∧ ay_ex hp 11 ∧ ay_ex hp 12 ∧ pz_x54 (ρ 0) (ρ 1) (ay_at hp 8 5) (ay_at hp 8 6) (ay_at hp 10 0) (ay_at hp 10 1) (ay_at hp 10 2) (ay_at hp 10 3) (ay_at hp 10 4) (ay_at hp 8 9) (ay_at hp 8 11) (ay_at hp 8 10) (ay_at hp 8 3) (ay_at hp 8 4) (ay_at hp 11) (ay_at hp 12) := (ax_XF_lt (x := 54) (Nat.le_of_ble_eq_true rfl)).mp (ax_gx hE (54, [3, 7]) ax_m1)
  rw [c_ahead] at F54
  refine ⟨(fun y hy => by cases hy), _, List.mem_cons_self, ρ, fun _ _ => rfl, ax_px hE rfl (fun y hy => ?_)⟩
  cases List.mem_singleton.mp hy
  refine (ax_XF_wr (x := 55) (Nat.le_of_ble_eq_true rfl)).mpr ?_
  show ay_ex (ax_upd hp 42 20 (ρ 3)) 8 ∧ ay_ex (ax_upd hp 42 20 (ρ 3)) 10 ∧ ay_ex (ax_upd hp 42 20 (ρ 3)) 11 ∧ ay_ex (ax_upd hp 42 20 (ρ 3)) 12 ∧ pz_x55 (ρ 0) (ρ 1) (ay_at (ax_upd hp 42 20 (ρ 3)) 8 5) (ay_at (ax_upd hp 42 20 (ρ 3)) 8 6) (ay_at (ax_upd hp 42 20 (ρ 3)) 10 0) (ay_at (ax_upd hp 42 20 (ρ 3)) 10 1) (ay_at (ax_upd hp 42 20 (ρ 3)) 10 2) (ay_at (ax_upd hp 42 20 (ρ 3)) 10 3) (ay_at (ax_upd hp 42 20 (ρ 3)) 10 4) (ay_at (ax_upd hp 42 20 (ρ 3)) 8 9) (ay_at (ax_upd hp 42 20 (ρ 3)) 8 11) (ay_at (ax_upd hp 42 20 (ρ 3)) 8 10) (ay_at (ax_upd hp 42 20 (ρ 3)) 8 3) (ay_at (ax_upd hp 42 20 (ρ 3)) 8 4) (ay_at (ax_upd hp 42 20 (ρ 3)) 11) (ay_at (ax_upd hp 42 20 (ρ 3)) 12)
  obtain ⟨o0, ho0⟩ := ay_some hT (q := 8) (g := 2) (n := 12) rfl rfl (j := 20 / 4) (Nat.le_of_ble_eq_true rfl)
  have u1 : ∀ q, q ≠ 8 → ay_at (ax_upd hp 42 20 (ρ 3)) q = ay_at hp q := fun q hq => funext (fun j => ay_upd_ne hT.1 hq j)
  have u2 : ∀ j, ay_at (ax_upd hp 42 20 (ρ 3)) 8 j = if j = 5 then some (ρ 3) else ay_at hp 8 j := fun j => ay_upd_eq hT.1 rfl ho0 j
  refine ⟨ay_ex_upd hT.1 (ax_cellT hT (q := 8) (g := 2) rfl), ay_ex_upd hT.1 (ax_cellT hT (q := 10) (g := 1) rfl), ay_ex_upd hT.1 (ax_cellT hT (q := 11) (g := 14) rfl), ay_ex_upd hT.1 (ax_cellT hT (q := 12) (g := 15) rfl), ?_⟩
  rw [u2 5, if_pos rfl, u2 6, if_neg (show ¬ 6 = 5 from Nat.ne_of_beq_eq_false rfl), u1 10 (Nat.ne_of_beq_eq_false rfl), u2 9, if_neg (show ¬ 9 = 5 from Nat.ne_of_beq_eq_false rfl), u2 11, if_neg (show ¬ 11 = 5 from Nat.ne_of_beq_eq_false rfl), u2 10, if_neg (show ¬ 10 = 5 from Nat.ne_of_beq_eq_false rfl), u2 3, if_neg (show ¬ 3 = 5 from Nat.ne_of_beq_eq_false rfl), u2 4, if_neg (show ¬ 4 = 5 from Nat.ne_of_beq_eq_false rfl), u1 11 (Nat.ne_of_beq_eq_false rfl), u1 12 (Nat.ne_of_beq_eq_false rfl)]
  have hN : ρ 4 / 4 = pz_gN (ρ 0) := F30.1
  have e2 : ρ 2 / 4 = ay_ln (ay_at hp 8 6) := F54.2.1
  exact ⟨F54.1, by show ρ 3 / 4 = _; omega, by omega, F54.2.2⟩

theorem axq_ad5 : ax_RO ax_wC ax_XC axu_ad5 := by
  intro ρ hp hE hT
  have j0 : ρ 0 % 4 = 1 := pz_gj hE 0 (Nat.le_of_ble_eq_true rfl) rfl
  have j1 : ρ 1 % 4 = 1 := pz_gj hE 1 (Nat.le_of_ble_eq_true rfl) rfl
  obtain ⟨i2a, i2b, i2c, i2d⟩ := pz_gi hE 2 2147483648 2147484448 (Nat.le_of_ble_eq_true rfl) rfl
  obtain ⟨i3a, i3b, i3c, i3d⟩ := pz_gi hE 3 2147483745 2147483770 (Nat.le_of_ble_eq_true rfl) rfl
  have c_place : ay_at hp 8 6 = some (ρ 2) := ay_gfj hE 42 24 11 8 6 ax_m2 (ax_vlq rfl rfl) (ax_vlj rfl rfl)
  have c_tape : ay_at hp 9 (ρ 2 / 4) = some (ρ 3) := ay_gf hE 46 11 15 9 ax_m3 (ax_vlq rfl rfl)
  obtain ⟨-, -, F30⟩ : ay_ex hp 8 ∧ ay_ex hp 9 ∧ pz_x30 (ρ 0) (ay_at hp 8 1) (ay_at hp 9) := (ax_XF_lt (x := 30) (Nat.le_of_ble_eq_true rfl)).mp (ax_gx hE (30, [3]) ax_m0)
  obtain ⟨-, -, -, -, F55⟩ : ay_ex hp 8 ∧ ay_ex hp 10 ∧ ay_ex hp 11 ∧ ay_ex hp 12 ∧ pz_x55 (ρ 0) (ρ 1) (ay_at hp 8 5) (ay_at hp 8 6) (ay_at hp 10 0) (ay_at hp 10 1) (ay_at hp 10 2) (ay_at hp 10 3) (ay_at hp 10 4) (ay_at hp 8 9) (ay_at hp 8 11) (ay_at hp 8 10) (ay_at hp 8 3) (ay_at hp 8 4) (ay_at hp 11) (ay_at hp 12) := (ax_XF_lt (x := 55) (Nat.le_of_ble_eq_true rfl)).mp (ax_gx hE (55, [3, 7]) ax_m1)
  rw [c_place] at F55
  refine ⟨(fun y hy => by cases hy), _, List.mem_cons_self, ρ, fun _ _ => rfl, ax_px hE rfl (fun y hy => ?_)⟩
  cases List.mem_singleton.mp hy
  refine (ax_XF_wr (x := 56) (Nat.le_of_ble_eq_true rfl)).mpr ?_
  show ay_ex (ax_upd hp 42 28 (4)) 8 ∧ ay_ex (ax_upd hp 42 28 (4)) 10 ∧ ay_ex (ax_upd hp 42 28 (4)) 11 ∧ ay_ex (ax_upd hp 42 28 (4)) 12 ∧ pz_x56 (ρ 0) (ρ 1) (ay_at (ax_upd hp 42 28 (4)) 8 5) (ay_at (ax_upd hp 42 28 (4)) 8 6) (ay_at (ax_upd hp 42 28 (4)) 8 7) (ay_at (ax_upd hp 42 28 (4)) 10 0) (ay_at (ax_upd hp 42 28 (4)) 10 1) (ay_at (ax_upd hp 42 28 (4)) 10 2) (ay_at (ax_upd hp 42 28 (4)) 10 3) (ay_at (ax_upd hp 42 28 (4)) 10 4) (ay_at (ax_upd hp 42 28 (4)) 8 9) (ay_at (ax_upd hp 42 28 (4)) 8 11) (ay_at (ax_upd hp 42 28 (4)) 8 10) (ay_at (ax_upd hp 42 28 (4)) 8 3) (ay_at (ax_upd hp 42 28 (4)) 8 4) (ay_at (ax_upd hp 42 28 (4)) 11) (ay_at (ax_upd hp 42 28 (4)) 12)
  obtain ⟨o0, ho0⟩ := ay_some hT (q := 8) (g := 2) (n := 12) rfl rfl (j := 28 / 4) (Nat.le_of_ble_eq_true rfl)
  have u1 : ∀ q, q ≠ 8 → ay_at (ax_upd hp 42 28 (4)) q = ay_at hp q := fun q hq => funext (fun j => ay_upd_ne hT.1 hq j)
  have u2 : ∀ j, ay_at (ax_upd hp 42 28 (4)) 8 j = if j = 7 then some (4) else ay_at hp 8 j := fun j => ay_upd_eq hT.1 rfl ho0 j
  refine ⟨ay_ex_upd hT.1 (ax_cellT hT (q := 8) (g := 2) rfl), ay_ex_upd hT.1 (ax_cellT hT (q := 10) (g := 1) rfl), ay_ex_upd hT.1 (ax_cellT hT (q := 11) (g := 14) rfl), ay_ex_upd hT.1 (ax_cellT hT (q := 12) (g := 15) rfl), ?_⟩
  rw [u2 5, if_neg (show ¬ 5 = 7 from Nat.ne_of_beq_eq_false rfl), u2 6, if_neg (show ¬ 6 = 7 from Nat.ne_of_beq_eq_false rfl), u2 7, if_pos rfl, u1 10 (Nat.ne_of_beq_eq_false rfl), u2 9, if_neg (show ¬ 9 = 7 from Nat.ne_of_beq_eq_false rfl), u2 11, if_neg (show ¬ 11 = 7 from Nat.ne_of_beq_eq_false rfl), u2 10, if_neg (show ¬ 10 = 7 from Nat.ne_of_beq_eq_false rfl), u2 3, if_neg (show ¬ 3 = 7 from Nat.ne_of_beq_eq_false rfl), u2 4, if_neg (show ¬ 4 = 7 from Nat.ne_of_beq_eq_false rfl), u1 11 (Nat.ne_of_beq_eq_false rfl), u1 12 (Nat.ne_of_beq_eq_false rfl)]
  rw [c_place]
  have hb : ρ 2 / 4 < pz_gN (ρ 0) → pz_b (pz_gt (ρ 0)) (ρ 2 / 4) = ρ 3 / 4 := fun hl => by
    have e := F30.2.2 (ρ 2 / 4) hl
    rw [c_tape] at e
    have e := Option.some.inj e
    omega
  have e1 : ρ 2 / 4 = pz_at (pz_gt (ρ 0)) (pz_gN (ρ 0)) (pz_p (pz_cf (pz_gt (ρ 0)) (pz_gN (ρ 0)) (ρ 1 / 4))) := F55.1
  have e2 : ay_ln (ay_at hp 8 5) = ρ 2 / 4 + 1 := F55.2.1
  have e3 : ρ 2 / 4 < pz_gN (ρ 0) := F55.2.2.1
  have hb1 := hb e3
  rw [e1] at hb1 e2 e3
  obtain ⟨k1, k2⟩ := pz_kd_wd e3 (by rw [hb1]; exact pz_lt_yes (by omega) (by omega))
  exact ⟨e1, rfl, k1, by rw [e2, k2], F55.2.2.2⟩

theorem axq_ad6 : ax_RO ax_wC ax_XC axu_ad6 := by
  intro ρ hp hE hT
  have j0 : ρ 0 % 4 = 1 := pz_gj hE 0 (Nat.le_of_ble_eq_true rfl) rfl
  have j1 : ρ 1 % 4 = 1 := pz_gj hE 1 (Nat.le_of_ble_eq_true rfl) rfl
  obtain ⟨i2a, i2b, i2c, i2d⟩ := pz_gi hE 2 2147483648 2147484448 (Nat.le_of_ble_eq_true rfl) rfl
  obtain ⟨i3a, i3b, i3c, i3d⟩ := pz_gi hE 3 0 4294967295 (Nat.le_of_ble_eq_true rfl) rfl
  obtain ⟨i4a, i4b, i4c, i4d⟩ := pz_gi hE 4 2147483648 2147484448 (Nat.le_of_ble_eq_true rfl) rfl
  obtain ⟨i5a, i5b, i5c, i5d⟩ := pz_gi hE 5 2147483745 2147483770 (Nat.le_of_ble_eq_true rfl) rfl
  have c_ahead : ay_at hp 8 5 = some (ρ 2) := ay_gfj hE 42 20 11 8 5 ax_m2 (ax_vlq rfl rfl) (ax_vlj rfl rfl)
  have c_size : ay_at hp 8 1 = some (ρ 4) := ay_gfj hE 42 4 19 8 1 ax_m3 (ax_vlq rfl rfl) (ax_vlj rfl rfl)
  have c_tape : ay_at hp 9 (ρ 2 / 4) = some (ρ 5) := ay_gf hE 46 11 23 9 ax_m4 (ax_vlq rfl rfl)
  have r1 : (ρ 2 / 4 + 2147483648) % 4294967296 < (ρ 4 / 4 + 2147483648) % 4294967296 := pz_gc hE 2 11 19 (Nat.le_of_ble_eq_true rfl) ax_m5
  have s1 : (ρ 2 / 4 + 2147483648) % 4294967296 + (4 / 4 + 2147483648) % 4294967296 = (ρ 3 / 4 + 2147483648) % 4294967296 + 2147483648 := pz_gs hE 11 4 15 ax_m6
  obtain ⟨-, -, F30⟩ : ay_ex hp 8 ∧ ay_ex hp 9 ∧ pz_x30 (ρ 0) (ay_at hp 8 1) (ay_at hp 9) := (ax_XF_lt (x := 30) (Nat.le_of_ble_eq_true rfl)).mp (ax_gx hE (30, [3]) ax_m0)
  rw [c_size] at F30
  obtain ⟨-, -, -, -, F56⟩ : ay_ex hp 8 ∧ ay_ex hp 10 ∧ ay_ex hp 11 ∧ ay_ex hp 12 ∧ pz_x56 (ρ 0) (ρ 1) (ay_at hp 8 5) (ay_at hp 8 6) (ay_at hp 8 7) (ay_at hp 10 0) (ay_at hp 10 1) (ay_at hp 10 2) (ay_at hp 10 3) (ay_at hp 10 4) (ay_at hp 8 9) (ay_at hp 8 11) (ay_at hp 8 10) (ay_at hp 8 3) (ay_at hp 8 4) (ay_at hp 11) (ay_at hp 12) := (ax_XF_lt (x := 56) (Nat.le_of_ble_eq_true rfl)).mp (ax_gx hE (56, [3, 7]) ax_m1)
  rw [c_ahead] at F56
  refine ⟨(fun y hy => by cases hy), _, List.mem_cons_self, ρ, fun _ _ => rfl, ax_px hE rfl (fun y hy => ?_)⟩
  cases List.mem_singleton.mp hy
  refine (ax_XF_wr (x := 56) (Nat.le_of_ble_eq_true rfl)).mpr ?_
  show ay_ex (ax_upd hp 42 20 (ρ 3)) 8 ∧ ay_ex (ax_upd hp 42 20 (ρ 3)) 10 ∧ ay_ex (ax_upd hp 42 20 (ρ 3)) 11 ∧ ay_ex (ax_upd hp 42 20 (ρ 3)) 12 ∧ pz_x56 (ρ 0) (ρ 1) (ay_at (ax_upd hp 42 20 (ρ 3)) 8 5) (ay_at (ax_upd hp 42 20 (ρ 3)) 8 6) (ay_at (ax_upd hp 42 20 (ρ 3)) 8 7) (ay_at (ax_upd hp 42 20 (ρ 3)) 10 0) (ay_at (ax_upd hp 42 20 (ρ 3)) 10 1) (ay_at (ax_upd hp 42 20 (ρ 3)) 10 2) (ay_at (ax_upd hp 42 20 (ρ 3)) 10 3) (ay_at (ax_upd hp 42 20 (ρ 3)) 10 4) (ay_at (ax_upd hp 42 20 (ρ 3)) 8 9) (ay_at (ax_upd hp 42 20 (ρ 3)) 8 11) (ay_at (ax_upd hp 42 20 (ρ 3)) 8 10) (ay_at (ax_upd hp 42 20 (ρ 3)) 8 3) (ay_at (ax_upd hp 42 20 (ρ 3)) 8 4) (ay_at (ax_upd hp 42 20 (ρ 3)) 11) (ay_at (ax_upd hp 42 20 (ρ 3)) 12)
  obtain ⟨o0, ho0⟩ := ay_some hT (q := 8) (g := 2) (n := 12) rfl rfl (j := 20 / 4) (Nat.le_of_ble_eq_true rfl)
  have u1 : ∀ q, q ≠ 8 → ay_at (ax_upd hp 42 20 (ρ 3)) q = ay_at hp q := fun q hq => funext (fun j => ay_upd_ne hT.1 hq j)
  have u2 : ∀ j, ay_at (ax_upd hp 42 20 (ρ 3)) 8 j = if j = 5 then some (ρ 3) else ay_at hp 8 j := fun j => ay_upd_eq hT.1 rfl ho0 j
  refine ⟨ay_ex_upd hT.1 (ax_cellT hT (q := 8) (g := 2) rfl), ay_ex_upd hT.1 (ax_cellT hT (q := 10) (g := 1) rfl), ay_ex_upd hT.1 (ax_cellT hT (q := 11) (g := 14) rfl), ay_ex_upd hT.1 (ax_cellT hT (q := 12) (g := 15) rfl), ?_⟩
  rw [u2 5, if_pos rfl, u2 6, if_neg (show ¬ 6 = 5 from Nat.ne_of_beq_eq_false rfl), u2 7, if_neg (show ¬ 7 = 5 from Nat.ne_of_beq_eq_false rfl), u1 10 (Nat.ne_of_beq_eq_false rfl), u2 9, if_neg (show ¬ 9 = 5 from Nat.ne_of_beq_eq_false rfl), u2 11, if_neg (show ¬ 11 = 5 from Nat.ne_of_beq_eq_false rfl), u2 10, if_neg (show ¬ 10 = 5 from Nat.ne_of_beq_eq_false rfl), u2 3, if_neg (show ¬ 3 = 5 from Nat.ne_of_beq_eq_false rfl), u2 4, if_neg (show ¬ 4 = 5 from Nat.ne_of_beq_eq_false rfl), u1 11 (Nat.ne_of_beq_eq_false rfl), u1 12 (Nat.ne_of_beq_eq_false rfl)]
  have hb : ρ 2 / 4 < pz_gN (ρ 0) → pz_b (pz_gt (ρ 0)) (ρ 2 / 4) = ρ 5 / 4 := fun hl => by
    have e := F30.2.2 (ρ 2 / 4) hl
    rw [c_tape] at e
    have e := Option.some.inj e
    omega
  have hN : ρ 4 / 4 = pz_gN (ρ 0) := F30.1
  refine ⟨F56.1, F56.2.1, F56.2.2.1, ?_, F56.2.2.2.2⟩
  have e : pz_e pz_lt (pz_gt (ρ 0)) (pz_gN (ρ 0)) (ρ 2 / 4) = pz_nx (pz_gt (ρ 0)) (pz_gN (ρ 0)) (pz_p (pz_cf (pz_gt (ρ 0)) (pz_gN (ρ 0)) (ρ 1 / 4))) := F56.2.2.2.1
  show pz_e pz_lt (pz_gt (ρ 0)) (pz_gN (ρ 0)) (ρ 3 / 4) = _
  rw [show ρ 3 / 4 = ρ 2 / 4 + 1 by omega, ← e]
  exact (pz_e_on (by omega) (by rw [hb (by omega)]; exact pz_lt_yes (by omega) (by omega))).symm

theorem axq_ad7_e : ax_RO ax_wC ax_XC axu_ad7_e := by
  intro ρ hp hE hT
  have j0 : ρ 0 % 4 = 1 := pz_gj hE 0 (Nat.le_of_ble_eq_true rfl) rfl
  have j1 : ρ 1 % 4 = 1 := pz_gj hE 1 (Nat.le_of_ble_eq_true rfl) rfl
  obtain ⟨i2a, i2b, i2c, i2d⟩ := pz_gi hE 2 2147483648 2147484448 (Nat.le_of_ble_eq_true rfl) rfl
  obtain ⟨i3a, i3b, i3c, i3d⟩ := pz_gi hE 3 2147483648 2147484448 (Nat.le_of_ble_eq_true rfl) rfl
  have c_ahead : ay_at hp 8 5 = some (ρ 2) := ay_gfj hE 42 20 11 8 5 ax_m2 (ax_vlq rfl rfl) (ax_vlj rfl rfl)
  have c_size : ay_at hp 8 1 = some (ρ 3) := ay_gfj hE 42 4 15 8 1 ax_m3 (ax_vlq rfl rfl) (ax_vlj rfl rfl)
  have r1 : (ρ 3 / 4 + 2147483648) % 4294967296 ≤ (ρ 2 / 4 + 2147483648) % 4294967296 := pz_gc hE 3 11 15 (Nat.le_of_ble_eq_true rfl) ax_m4
  obtain ⟨-, -, F30⟩ : ay_ex hp 8 ∧ ay_ex hp 9 ∧ pz_x30 (ρ 0) (ay_at hp 8 1) (ay_at hp 9) := (ax_XF_lt (x := 30) (Nat.le_of_ble_eq_true rfl)).mp (ax_gx hE (30, [3]) ax_m0)
  rw [c_size] at F30
  obtain ⟨-, -, -, -, F56⟩ : ay_ex hp 8 ∧ ay_ex hp 10 ∧ ay_ex hp 11 ∧ ay_ex hp 12 ∧ pz_x56 (ρ 0) (ρ 1) (ay_at hp 8 5) (ay_at hp 8 6) (ay_at hp 8 7) (ay_at hp 10 0) (ay_at hp 10 1) (ay_at hp 10 2) (ay_at hp 10 3) (ay_at hp 10 4) (ay_at hp 8 9) (ay_at hp 8 11) (ay_at hp 8 10) (ay_at hp 8 3) (ay_at hp 8 4) (ay_at hp 11) (ay_at hp 12) := (ax_XF_lt (x := 56) (Nat.le_of_ble_eq_true rfl)).mp (ax_gx hE (56, [3, 7]) ax_m1)
  rw [c_ahead] at F56
  refine ⟨(fun y hy => by cases hy), _, List.mem_cons_self, ρ, fun _ _ => rfl, ax_px hE rfl (fun y hy => ?_)⟩
  cases List.mem_singleton.mp hy
  refine (ax_XF_lt (x := 50) (Nat.le_of_ble_eq_true rfl)).mpr ?_
  show ay_ex hp 8 ∧ ay_ex hp 10 ∧ ay_ex hp 11 ∧ ay_ex hp 12 ∧ pz_x50 (ρ 0) (ρ 1) (ay_at hp 8 5) (ay_at hp 8 6) (ay_at hp 8 7) (ay_at hp 8 8) (ay_at hp 10 0) (ay_at hp 10 1) (ay_at hp 10 2) (ay_at hp 10 3) (ay_at hp 10 4) (ay_at hp 8 9) (ay_at hp 8 11) (ay_at hp 8 10) (ay_at hp 8 3) (ay_at hp 8 4) (ay_at hp 11) (ay_at hp 12)
  refine ⟨(ax_cellT hT (q := 8) (g := 2) rfl), (ax_cellT hT (q := 10) (g := 1) rfl), (ax_cellT hT (q := 11) (g := 14) rfl), (ax_cellT hT (q := 12) (g := 15) rfl), ?_⟩
  rw [c_ahead]
  have hN : ρ 3 / 4 = pz_gN (ρ 0) := F30.1
  have e : pz_e pz_lt (pz_gt (ρ 0)) (pz_gN (ρ 0)) (ρ 2 / 4) = pz_nx (pz_gt (ρ 0)) (pz_gN (ρ 0)) (pz_p (pz_cf (pz_gt (ρ 0)) (pz_gN (ρ 0)) (ρ 1 / 4))) := F56.2.2.2.1
  have e2 : pz_e pz_lt (pz_gt (ρ 0)) (pz_gN (ρ 0)) (ρ 2 / 4) = ρ 2 / 4 := pz_e_off (Or.inl (by omega))
  exact ⟨e2.symm.trans e, F56.1, F56.2.1.trans F56.2.2.1.symm, fun z => absurd (F56.2.1.symm.trans z) (by decide), F56.2.2.2.2⟩

theorem axq_ad7_a : ax_RO ax_wC ax_XC axu_ad7_a := by
  intro ρ hp hE hT
  have j0 : ρ 0 % 4 = 1 := pz_gj hE 0 (Nat.le_of_ble_eq_true rfl) rfl
  have j1 : ρ 1 % 4 = 1 := pz_gj hE 1 (Nat.le_of_ble_eq_true rfl) rfl
  obtain ⟨i2a, i2b, i2c, i2d⟩ := pz_gi hE 2 2147483648 2147484448 (Nat.le_of_ble_eq_true rfl) rfl
  obtain ⟨i3a, i3b, i3c, i3d⟩ := pz_gi hE 3 2147483520 2147483744 (Nat.le_of_ble_eq_true rfl) rfl
  have c_ahead : ay_at hp 8 5 = some (ρ 2) := ay_gfj hE 42 20 11 8 5 ax_m2 (ax_vlq rfl rfl) (ax_vlj rfl rfl)
  have c_tape : ay_at hp 9 (ρ 2 / 4) = some (ρ 3) := ay_gf hE 46 11 15 9 ax_m3 (ax_vlq rfl rfl)
  obtain ⟨-, -, F30⟩ : ay_ex hp 8 ∧ ay_ex hp 9 ∧ pz_x30 (ρ 0) (ay_at hp 8 1) (ay_at hp 9) := (ax_XF_lt (x := 30) (Nat.le_of_ble_eq_true rfl)).mp (ax_gx hE (30, [3]) ax_m0)
  obtain ⟨-, -, -, -, F56⟩ : ay_ex hp 8 ∧ ay_ex hp 10 ∧ ay_ex hp 11 ∧ ay_ex hp 12 ∧ pz_x56 (ρ 0) (ρ 1) (ay_at hp 8 5) (ay_at hp 8 6) (ay_at hp 8 7) (ay_at hp 10 0) (ay_at hp 10 1) (ay_at hp 10 2) (ay_at hp 10 3) (ay_at hp 10 4) (ay_at hp 8 9) (ay_at hp 8 11) (ay_at hp 8 10) (ay_at hp 8 3) (ay_at hp 8 4) (ay_at hp 11) (ay_at hp 12) := (ax_XF_lt (x := 56) (Nat.le_of_ble_eq_true rfl)).mp (ax_gx hE (56, [3, 7]) ax_m1)
  rw [c_ahead] at F56
  refine ⟨(fun y hy => by cases hy), _, List.mem_cons_self, ρ, fun _ _ => rfl, ax_px hE rfl (fun y hy => ?_)⟩
  cases List.mem_singleton.mp hy
  refine (ax_XF_lt (x := 50) (Nat.le_of_ble_eq_true rfl)).mpr ?_
  show ay_ex hp 8 ∧ ay_ex hp 10 ∧ ay_ex hp 11 ∧ ay_ex hp 12 ∧ pz_x50 (ρ 0) (ρ 1) (ay_at hp 8 5) (ay_at hp 8 6) (ay_at hp 8 7) (ay_at hp 8 8) (ay_at hp 10 0) (ay_at hp 10 1) (ay_at hp 10 2) (ay_at hp 10 3) (ay_at hp 10 4) (ay_at hp 8 9) (ay_at hp 8 11) (ay_at hp 8 10) (ay_at hp 8 3) (ay_at hp 8 4) (ay_at hp 11) (ay_at hp 12)
  refine ⟨(ax_cellT hT (q := 8) (g := 2) rfl), (ax_cellT hT (q := 10) (g := 1) rfl), (ax_cellT hT (q := 11) (g := 14) rfl), (ax_cellT hT (q := 12) (g := 15) rfl), ?_⟩
  rw [c_ahead]
  have hb : ρ 2 / 4 < pz_gN (ρ 0) → pz_b (pz_gt (ρ 0)) (ρ 2 / 4) = ρ 3 / 4 := fun hl => by
    have e := F30.2.2 (ρ 2 / 4) hl
    rw [c_tape] at e
    have e := Option.some.inj e
    omega
  have e : pz_e pz_lt (pz_gt (ρ 0)) (pz_gN (ρ 0)) (ρ 2 / 4) = pz_nx (pz_gt (ρ 0)) (pz_gN (ρ 0)) (pz_p (pz_cf (pz_gt (ρ 0)) (pz_gN (ρ 0)) (ρ 1 / 4))) := F56.2.2.2.1
  have e2 : pz_e pz_lt (pz_gt (ρ 0)) (pz_gN (ρ 0)) (ρ 2 / 4) = ρ 2 / 4 := pz_e_off (by
    by_cases hl : ρ 2 / 4 < pz_gN (ρ 0)
    · exact Or.inr (by rw [hb hl]; exact pz_lt_no (by omega))
    · exact Or.inl (by omega))
  exact ⟨e2.symm.trans e, F56.1, F56.2.1.trans F56.2.2.1.symm, fun z => absurd (F56.2.1.symm.trans z) (by decide), F56.2.2.2.2⟩

theorem axq_ad7_b : ax_RO ax_wC ax_XC axu_ad7_b := by
  intro ρ hp hE hT
  have j0 : ρ 0 % 4 = 1 := pz_gj hE 0 (Nat.le_of_ble_eq_true rfl) rfl
  have j1 : ρ 1 % 4 = 1 := pz_gj hE 1 (Nat.le_of_ble_eq_true rfl) rfl
  obtain ⟨i2a, i2b, i2c, i2d⟩ := pz_gi hE 2 2147483648 2147484448 (Nat.le_of_ble_eq_true rfl) rfl
  obtain ⟨i3a, i3b, i3c, i3d⟩ := pz_gi hE 3 2147483771 2147483775 (Nat.le_of_ble_eq_true rfl) rfl
  have c_ahead : ay_at hp 8 5 = some (ρ 2) := ay_gfj hE 42 20 11 8 5 ax_m2 (ax_vlq rfl rfl) (ax_vlj rfl rfl)
  have c_tape : ay_at hp 9 (ρ 2 / 4) = some (ρ 3) := ay_gf hE 46 11 15 9 ax_m3 (ax_vlq rfl rfl)
  obtain ⟨-, -, F30⟩ : ay_ex hp 8 ∧ ay_ex hp 9 ∧ pz_x30 (ρ 0) (ay_at hp 8 1) (ay_at hp 9) := (ax_XF_lt (x := 30) (Nat.le_of_ble_eq_true rfl)).mp (ax_gx hE (30, [3]) ax_m0)
  obtain ⟨-, -, -, -, F56⟩ : ay_ex hp 8 ∧ ay_ex hp 10 ∧ ay_ex hp 11 ∧ ay_ex hp 12 ∧ pz_x56 (ρ 0) (ρ 1) (ay_at hp 8 5) (ay_at hp 8 6) (ay_at hp 8 7) (ay_at hp 10 0) (ay_at hp 10 1) (ay_at hp 10 2) (ay_at hp 10 3) (ay_at hp 10 4) (ay_at hp 8 9) (ay_at hp 8 11) (ay_at hp 8 10) (ay_at hp 8 3) (ay_at hp 8 4) (ay_at hp 11) (ay_at hp 12) := (ax_XF_lt (x := 56) (Nat.le_of_ble_eq_true rfl)).mp (ax_gx hE (56, [3, 7]) ax_m1)
  rw [c_ahead] at F56
  refine ⟨(fun y hy => by cases hy), _, List.mem_cons_self, ρ, fun _ _ => rfl, ax_px hE rfl (fun y hy => ?_)⟩
  cases List.mem_singleton.mp hy
  refine (ax_XF_lt (x := 50) (Nat.le_of_ble_eq_true rfl)).mpr ?_
  show ay_ex hp 8 ∧ ay_ex hp 10 ∧ ay_ex hp 11 ∧ ay_ex hp 12 ∧ pz_x50 (ρ 0) (ρ 1) (ay_at hp 8 5) (ay_at hp 8 6) (ay_at hp 8 7) (ay_at hp 8 8) (ay_at hp 10 0) (ay_at hp 10 1) (ay_at hp 10 2) (ay_at hp 10 3) (ay_at hp 10 4) (ay_at hp 8 9) (ay_at hp 8 11) (ay_at hp 8 10) (ay_at hp 8 3) (ay_at hp 8 4) (ay_at hp 11) (ay_at hp 12)
  refine ⟨(ax_cellT hT (q := 8) (g := 2) rfl), (ax_cellT hT (q := 10) (g := 1) rfl), (ax_cellT hT (q := 11) (g := 14) rfl), (ax_cellT hT (q := 12) (g := 15) rfl), ?_⟩
  rw [c_ahead]
  have hb : ρ 2 / 4 < pz_gN (ρ 0) → pz_b (pz_gt (ρ 0)) (ρ 2 / 4) = ρ 3 / 4 := fun hl => by
    have e := F30.2.2 (ρ 2 / 4) hl
    rw [c_tape] at e
    have e := Option.some.inj e
    omega
  have e : pz_e pz_lt (pz_gt (ρ 0)) (pz_gN (ρ 0)) (ρ 2 / 4) = pz_nx (pz_gt (ρ 0)) (pz_gN (ρ 0)) (pz_p (pz_cf (pz_gt (ρ 0)) (pz_gN (ρ 0)) (ρ 1 / 4))) := F56.2.2.2.1
  have e2 : pz_e pz_lt (pz_gt (ρ 0)) (pz_gN (ρ 0)) (ρ 2 / 4) = ρ 2 / 4 := pz_e_off (by
    by_cases hl : ρ 2 / 4 < pz_gN (ρ 0)
    · exact Or.inr (by rw [hb hl]; exact pz_lt_no (by omega))
    · exact Or.inl (by omega))
  exact ⟨e2.symm.trans e, F56.1, F56.2.1.trans F56.2.2.1.symm, fun z => absurd (F56.2.1.symm.trans z) (by decide), F56.2.2.2.2⟩

theorem axq_ad8 : ax_RO ax_wC ax_XC axu_ad8 := by
  intro ρ hp hE hT
  have j0 : ρ 0 % 4 = 1 := pz_gj hE 0 (Nat.le_of_ble_eq_true rfl) rfl
  have j1 : ρ 1 % 4 = 1 := pz_gj hE 1 (Nat.le_of_ble_eq_true rfl) rfl
  obtain ⟨i2a, i2b, i2c, i2d⟩ := pz_gi hE 2 2147483648 2147484448 (Nat.le_of_ble_eq_true rfl) rfl
  obtain ⟨i3a, i3b, i3c, i3d⟩ := pz_gi hE 3 2147483696 2147483705 (Nat.le_of_ble_eq_true rfl) rfl
  have c_place : ay_at hp 8 6 = some (ρ 2) := ay_gfj hE 42 24 11 8 6 ax_m2 (ax_vlq rfl rfl) (ax_vlj rfl rfl)
  have c_tape : ay_at hp 9 (ρ 2 / 4) = some (ρ 3) := ay_gf hE 46 11 15 9 ax_m3 (ax_vlq rfl rfl)
  obtain ⟨-, -, F30⟩ : ay_ex hp 8 ∧ ay_ex hp 9 ∧ pz_x30 (ρ 0) (ay_at hp 8 1) (ay_at hp 9) := (ax_XF_lt (x := 30) (Nat.le_of_ble_eq_true rfl)).mp (ax_gx hE (30, [3]) ax_m0)
  obtain ⟨-, -, -, -, F55⟩ : ay_ex hp 8 ∧ ay_ex hp 10 ∧ ay_ex hp 11 ∧ ay_ex hp 12 ∧ pz_x55 (ρ 0) (ρ 1) (ay_at hp 8 5) (ay_at hp 8 6) (ay_at hp 10 0) (ay_at hp 10 1) (ay_at hp 10 2) (ay_at hp 10 3) (ay_at hp 10 4) (ay_at hp 8 9) (ay_at hp 8 11) (ay_at hp 8 10) (ay_at hp 8 3) (ay_at hp 8 4) (ay_at hp 11) (ay_at hp 12) := (ax_XF_lt (x := 55) (Nat.le_of_ble_eq_true rfl)).mp (ax_gx hE (55, [3, 7]) ax_m1)
  rw [c_place] at F55
  refine ⟨(fun y hy => by cases hy), _, List.mem_cons_self, ρ, fun _ _ => rfl, ax_px hE rfl (fun y hy => ?_)⟩
  cases List.mem_singleton.mp hy
  refine (ax_XF_wr (x := 57) (Nat.le_of_ble_eq_true rfl)).mpr ?_
  show ay_ex (ax_upd hp 42 28 (8)) 8 ∧ ay_ex (ax_upd hp 42 28 (8)) 10 ∧ ay_ex (ax_upd hp 42 28 (8)) 11 ∧ ay_ex (ax_upd hp 42 28 (8)) 12 ∧ pz_x57 (ρ 0) (ρ 1) (ay_at (ax_upd hp 42 28 (8)) 8 5) (ay_at (ax_upd hp 42 28 (8)) 8 6) (ay_at (ax_upd hp 42 28 (8)) 8 7) (ay_at (ax_upd hp 42 28 (8)) 10 0) (ay_at (ax_upd hp 42 28 (8)) 10 1) (ay_at (ax_upd hp 42 28 (8)) 10 2) (ay_at (ax_upd hp 42 28 (8)) 10 3) (ay_at (ax_upd hp 42 28 (8)) 10 4) (ay_at (ax_upd hp 42 28 (8)) 8 9) (ay_at (ax_upd hp 42 28 (8)) 8 11) (ay_at (ax_upd hp 42 28 (8)) 8 10) (ay_at (ax_upd hp 42 28 (8)) 8 3) (ay_at (ax_upd hp 42 28 (8)) 8 4) (ay_at (ax_upd hp 42 28 (8)) 11) (ay_at (ax_upd hp 42 28 (8)) 12)
  obtain ⟨o0, ho0⟩ := ay_some hT (q := 8) (g := 2) (n := 12) rfl rfl (j := 28 / 4) (Nat.le_of_ble_eq_true rfl)
  have u1 : ∀ q, q ≠ 8 → ay_at (ax_upd hp 42 28 (8)) q = ay_at hp q := fun q hq => funext (fun j => ay_upd_ne hT.1 hq j)
  have u2 : ∀ j, ay_at (ax_upd hp 42 28 (8)) 8 j = if j = 7 then some (8) else ay_at hp 8 j := fun j => ay_upd_eq hT.1 rfl ho0 j
  refine ⟨ay_ex_upd hT.1 (ax_cellT hT (q := 8) (g := 2) rfl), ay_ex_upd hT.1 (ax_cellT hT (q := 10) (g := 1) rfl), ay_ex_upd hT.1 (ax_cellT hT (q := 11) (g := 14) rfl), ay_ex_upd hT.1 (ax_cellT hT (q := 12) (g := 15) rfl), ?_⟩
  rw [u2 5, if_neg (show ¬ 5 = 7 from Nat.ne_of_beq_eq_false rfl), u2 6, if_neg (show ¬ 6 = 7 from Nat.ne_of_beq_eq_false rfl), u2 7, if_pos rfl, u1 10 (Nat.ne_of_beq_eq_false rfl), u2 9, if_neg (show ¬ 9 = 7 from Nat.ne_of_beq_eq_false rfl), u2 11, if_neg (show ¬ 11 = 7 from Nat.ne_of_beq_eq_false rfl), u2 10, if_neg (show ¬ 10 = 7 from Nat.ne_of_beq_eq_false rfl), u2 3, if_neg (show ¬ 3 = 7 from Nat.ne_of_beq_eq_false rfl), u2 4, if_neg (show ¬ 4 = 7 from Nat.ne_of_beq_eq_false rfl), u1 11 (Nat.ne_of_beq_eq_false rfl), u1 12 (Nat.ne_of_beq_eq_false rfl)]
  rw [c_place]
  have hb : ρ 2 / 4 < pz_gN (ρ 0) → pz_b (pz_gt (ρ 0)) (ρ 2 / 4) = ρ 3 / 4 := fun hl => by
    have e := F30.2.2 (ρ 2 / 4) hl
    rw [c_tape] at e
    have e := Option.some.inj e
    omega
  have e1 : ρ 2 / 4 = pz_at (pz_gt (ρ 0)) (pz_gN (ρ 0)) (pz_p (pz_cf (pz_gt (ρ 0)) (pz_gN (ρ 0)) (ρ 1 / 4))) := F55.1
  have e2 : ay_ln (ay_at hp 8 5) = ρ 2 / 4 + 1 := F55.2.1
  have e3 : ρ 2 / 4 < pz_gN (ρ 0) := F55.2.2.1
  have hb1 := hb e3
  rw [e1] at hb1 e2 e3
  obtain ⟨k1, k2⟩ := pz_kd_nm e3 (by rw [hb1]; exact pz_dg_yes (by omega) (by omega))
  exact ⟨e1, by rw [e2, ← e1]; rfl, by rw [← e1] at e3; exact e3, rfl, k1, F55.2.2.2⟩

theorem axq_ad9 : ax_RO ax_wC ax_XC axu_ad9 := by
  intro ρ hp hE hT
  have j0 : ρ 0 % 4 = 1 := pz_gj hE 0 (Nat.le_of_ble_eq_true rfl) rfl
  have j1 : ρ 1 % 4 = 1 := pz_gj hE 1 (Nat.le_of_ble_eq_true rfl) rfl
  obtain ⟨i2a, i2b, i2c, i2d⟩ := pz_gi hE 2 2147483648 2147484448 (Nat.le_of_ble_eq_true rfl) rfl
  obtain ⟨i3a, i3b, i3c, i3d⟩ := pz_gi hE 3 2147483696 2147483705 (Nat.le_of_ble_eq_true rfl) rfl
  obtain ⟨i4a, i4b, i4c, i4d⟩ := pz_gi hE 4 0 4294967295 (Nat.le_of_ble_eq_true rfl) rfl
  have c_place : ay_at hp 8 6 = some (ρ 2) := ay_gfj hE 42 24 11 8 6 ax_m2 (ax_vlq rfl rfl) (ax_vlj rfl rfl)
  have c_tape : ay_at hp 9 (ρ 2 / 4) = some (ρ 3) := ay_gf hE 46 11 15 9 ax_m3 (ax_vlq rfl rfl)
  have s1 : (ρ 4 / 4 + 2147483648) % 4294967296 + (192 / 4 + 2147483648) % 4294967296 = (ρ 3 / 4 + 2147483648) % 4294967296 + 2147483648 := pz_gs hE 19 192 15 ax_m4
  obtain ⟨-, -, F30⟩ : ay_ex hp 8 ∧ ay_ex hp 9 ∧ pz_x30 (ρ 0) (ay_at hp 8 1) (ay_at hp 9) := (ax_XF_lt (x := 30) (Nat.le_of_ble_eq_true rfl)).mp (ax_gx hE (30, [3]) ax_m0)
  obtain ⟨-, -, -, -, F57⟩ : ay_ex hp 8 ∧ ay_ex hp 10 ∧ ay_ex hp 11 ∧ ay_ex hp 12 ∧ pz_x57 (ρ 0) (ρ 1) (ay_at hp 8 5) (ay_at hp 8 6) (ay_at hp 8 7) (ay_at hp 10 0) (ay_at hp 10 1) (ay_at hp 10 2) (ay_at hp 10 3) (ay_at hp 10 4) (ay_at hp 8 9) (ay_at hp 8 11) (ay_at hp 8 10) (ay_at hp 8 3) (ay_at hp 8 4) (ay_at hp 11) (ay_at hp 12) := (ax_XF_lt (x := 57) (Nat.le_of_ble_eq_true rfl)).mp (ax_gx hE (57, [3, 7]) ax_m1)
  rw [c_place] at F57
  refine ⟨(fun y hy => by cases hy), _, List.mem_cons_self, ρ, fun _ _ => rfl, ax_px hE rfl (fun y hy => ?_)⟩
  cases List.mem_singleton.mp hy
  refine (ax_XF_wr (x := 58) (Nat.le_of_ble_eq_true rfl)).mpr ?_
  show ay_ex (ax_upd hp 42 32 (ρ 4)) 8 ∧ ay_ex (ax_upd hp 42 32 (ρ 4)) 10 ∧ ay_ex (ax_upd hp 42 32 (ρ 4)) 11 ∧ ay_ex (ax_upd hp 42 32 (ρ 4)) 12 ∧ pz_x58 (ρ 0) (ρ 1) (ay_at (ax_upd hp 42 32 (ρ 4)) 8 5) (ay_at (ax_upd hp 42 32 (ρ 4)) 8 6) (ay_at (ax_upd hp 42 32 (ρ 4)) 8 7) (ay_at (ax_upd hp 42 32 (ρ 4)) 8 8) (ay_at (ax_upd hp 42 32 (ρ 4)) 10 0) (ay_at (ax_upd hp 42 32 (ρ 4)) 10 1) (ay_at (ax_upd hp 42 32 (ρ 4)) 10 2) (ay_at (ax_upd hp 42 32 (ρ 4)) 10 3) (ay_at (ax_upd hp 42 32 (ρ 4)) 10 4) (ay_at (ax_upd hp 42 32 (ρ 4)) 8 9) (ay_at (ax_upd hp 42 32 (ρ 4)) 8 11) (ay_at (ax_upd hp 42 32 (ρ 4)) 8 10) (ay_at (ax_upd hp 42 32 (ρ 4)) 8 3) (ay_at (ax_upd hp 42 32 (ρ 4)) 8 4) (ay_at (ax_upd hp 42 32 (ρ 4)) 11) (ay_at (ax_upd hp 42 32 (ρ 4)) 12)
  obtain ⟨o0, ho0⟩ := ay_some hT (q := 8) (g := 2) (n := 12) rfl rfl (j := 32 / 4) (Nat.le_of_ble_eq_true rfl)
  have u1 : ∀ q, q ≠ 8 → ay_at (ax_upd hp 42 32 (ρ 4)) q = ay_at hp q := fun q hq => funext (fun j => ay_upd_ne hT.1 hq j)
  have u2 : ∀ j, ay_at (ax_upd hp 42 32 (ρ 4)) 8 j = if j = 8 then some (ρ 4) else ay_at hp 8 j := fun j => ay_upd_eq hT.1 rfl ho0 j
  refine ⟨ay_ex_upd hT.1 (ax_cellT hT (q := 8) (g := 2) rfl), ay_ex_upd hT.1 (ax_cellT hT (q := 10) (g := 1) rfl), ay_ex_upd hT.1 (ax_cellT hT (q := 11) (g := 14) rfl), ay_ex_upd hT.1 (ax_cellT hT (q := 12) (g := 15) rfl), ?_⟩
  rw [u2 5, if_neg (show ¬ 5 = 8 from Nat.ne_of_beq_eq_false rfl), u2 6, if_neg (show ¬ 6 = 8 from Nat.ne_of_beq_eq_false rfl), u2 7, if_neg (show ¬ 7 = 8 from Nat.ne_of_beq_eq_false rfl), u2 8, if_pos rfl, u1 10 (Nat.ne_of_beq_eq_false rfl), u2 9, if_neg (show ¬ 9 = 8 from Nat.ne_of_beq_eq_false rfl), u2 11, if_neg (show ¬ 11 = 8 from Nat.ne_of_beq_eq_false rfl), u2 10, if_neg (show ¬ 10 = 8 from Nat.ne_of_beq_eq_false rfl), u2 3, if_neg (show ¬ 3 = 8 from Nat.ne_of_beq_eq_false rfl), u2 4, if_neg (show ¬ 4 = 8 from Nat.ne_of_beq_eq_false rfl), u1 11 (Nat.ne_of_beq_eq_false rfl), u1 12 (Nat.ne_of_beq_eq_false rfl)]
  rw [c_place]
  have hb : ρ 2 / 4 < pz_gN (ρ 0) → pz_b (pz_gt (ρ 0)) (ρ 2 / 4) = ρ 3 / 4 := fun hl => by
    have e := F30.2.2 (ρ 2 / 4) hl
    rw [c_tape] at e
    have e := Option.some.inj e
    omega
  have e1 : ρ 2 / 4 = pz_at (pz_gt (ρ 0)) (pz_gN (ρ 0)) (pz_p (pz_cf (pz_gt (ρ 0)) (pz_gN (ρ 0)) (ρ 1 / 4))) := F57.1
  have e2 : ay_ln (ay_at hp 8 5) = ρ 2 / 4 + 1 := F57.2.1
  have e3 : ρ 2 / 4 < pz_gN (ρ 0) := F57.2.2.1
  have hb1 := hb e3
  rw [e1] at hb1 e2 e3
  obtain ⟨k1, k2, k3⟩ := pz_kd_nm e3 (by rw [hb1]; exact pz_dg_yes (by omega) (by omega))
  refine ⟨e1, F57.2.2.2.1, k1, by rw [e2, k2], ?_, F57.2.2.2.2.2⟩
  show pz_n (pz_gt (ρ 0)) (pz_gN (ρ 0)) (ay_ln (ay_at hp 8 5)) (pz_m (ρ 4 / 4)) = _
  rw [e2, k3, hb1, show ρ 4 / 4 = ρ 3 / 4 - 48 by omega]

theorem axq_ad10 : ax_RO ax_wC ax_XC axu_ad10 := by
  intro ρ hp hE hT
  have j0 : ρ 0 % 4 = 1 := pz_gj hE 0 (Nat.le_of_ble_eq_true rfl) rfl
  have j1 : ρ 1 % 4 = 1 := pz_gj hE 1 (Nat.le_of_ble_eq_true rfl) rfl
  obtain ⟨i2a, i2b, i2c, i2d⟩ := pz_gi hE 2 2147483648 2147484448 (Nat.le_of_ble_eq_true rfl) rfl
  obtain ⟨i3a, i3b, i3c, i3d⟩ := pz_gi hE 3 2147483648 2147484448 (Nat.le_of_ble_eq_true rfl) rfl
  obtain ⟨i4a, i4b, i4c, i4d⟩ := pz_gi hE 4 2147483696 2147483705 (Nat.le_of_ble_eq_true rfl) rfl
  obtain ⟨i5a, i5b, i5c, i5d⟩ := pz_gi hE 5 0 4294967295 (Nat.le_of_ble_eq_true rfl) rfl
  obtain ⟨i6a, i6b, i6c, i6d⟩ := pz_gi hE 6 0 4294967295 (Nat.le_of_ble_eq_true rfl) rfl
  obtain ⟨i7a, i7b, i7c, i7d⟩ := pz_gi hE 7 0 4294967295 (Nat.le_of_ble_eq_true rfl) rfl
  obtain ⟨i8a, i8b, i8c, i8d⟩ := pz_gi hE 8 0 4294967295 (Nat.le_of_ble_eq_true rfl) rfl
  obtain ⟨i9a, i9b, i9c, i9d⟩ := pz_gi hE 9 2147483648 2147583648 (Nat.le_of_ble_eq_true rfl) rfl
  have c_ahead : ay_at hp 8 5 = some (ρ 2) := ay_gfj hE 42 20 11 8 5 ax_m2 (ax_vlq rfl rfl) (ax_vlj rfl rfl)
  have c_size : ay_at hp 8 1 = some (ρ 3) := ay_gfj hE 42 4 15 8 1 ax_m3 (ax_vlq rfl rfl) (ax_vlj rfl rfl)
  have c_tape : ay_at hp 9 (ρ 2 / 4) = some (ρ 4) := ay_gf hE 46 11 19 9 ax_m4 (ax_vlq rfl rfl)
  have c_value : ay_at hp 8 8 = some (ρ 9) := ay_gfj hE 42 32 39 8 8 ax_m5 (ax_vlq rfl rfl) (ax_vlj rfl rfl)
  have r1 : (ρ 2 / 4 + 2147483648) % 4294967296 < (ρ 3 / 4 + 2147483648) % 4294967296 := pz_gc hE 2 11 15 (Nat.le_of_ble_eq_true rfl) ax_m6
  have s1 : (ρ 8 / 4 + 2147483648) % 4294967296 + (192 / 4 + 2147483648) % 4294967296 = (ρ 7 / 4 + 2147483648) % 4294967296 + 2147483648 := pz_gs hE 35 192 31 ax_m8
  have s2 : (ρ 6 / 4 + 2147483648) % 4294967296 + (ρ 4 / 4 + 2147483648) % 4294967296 = (ρ 7 / 4 + 2147483648) % 4294967296 + 2147483648 := pz_gs hE 27 19 31 ax_m9
  obtain ⟨-, -, F30⟩ : ay_ex hp 8 ∧ ay_ex hp 9 ∧ pz_x30 (ρ 0) (ay_at hp 8 1) (ay_at hp 9) := (ax_XF_lt (x := 30) (Nat.le_of_ble_eq_true rfl)).mp (ax_gx hE (30, [3]) ax_m0)
  rw [c_size] at F30
  obtain ⟨-, -, -, -, F58⟩ : ay_ex hp 8 ∧ ay_ex hp 10 ∧ ay_ex hp 11 ∧ ay_ex hp 12 ∧ pz_x58 (ρ 0) (ρ 1) (ay_at hp 8 5) (ay_at hp 8 6) (ay_at hp 8 7) (ay_at hp 8 8) (ay_at hp 10 0) (ay_at hp 10 1) (ay_at hp 10 2) (ay_at hp 10 3) (ay_at hp 10 4) (ay_at hp 8 9) (ay_at hp 8 11) (ay_at hp 8 10) (ay_at hp 8 3) (ay_at hp 8 4) (ay_at hp 11) (ay_at hp 12) := (ax_XF_lt (x := 58) (Nat.le_of_ble_eq_true rfl)).mp (ax_gx hE (58, [3, 7]) ax_m1)
  rw [c_ahead] at F58
  rw [c_value] at F58
  refine ⟨(fun y hy => by cases hy), _, List.mem_cons_self, ρ, fun _ _ => rfl, ax_px hE rfl (fun y hy => ?_)⟩
  cases List.mem_singleton.mp hy
  refine (ax_XF_wr (x := 59) (Nat.le_of_ble_eq_true rfl)).mpr ?_
  show ay_ex (ax_upd hp 42 32 (ρ 5)) 8 ∧ ay_ex (ax_upd hp 42 32 (ρ 5)) 10 ∧ ay_ex (ax_upd hp 42 32 (ρ 5)) 11 ∧ ay_ex (ax_upd hp 42 32 (ρ 5)) 12 ∧ pz_x59 (ρ 0) (ρ 1) (ay_at (ax_upd hp 42 32 (ρ 5)) 8 5) (ay_at (ax_upd hp 42 32 (ρ 5)) 8 6) (ay_at (ax_upd hp 42 32 (ρ 5)) 8 7) (ay_at (ax_upd hp 42 32 (ρ 5)) 8 8) (ay_at (ax_upd hp 42 32 (ρ 5)) 10 0) (ay_at (ax_upd hp 42 32 (ρ 5)) 10 1) (ay_at (ax_upd hp 42 32 (ρ 5)) 10 2) (ay_at (ax_upd hp 42 32 (ρ 5)) 10 3) (ay_at (ax_upd hp 42 32 (ρ 5)) 10 4) (ay_at (ax_upd hp 42 32 (ρ 5)) 8 9) (ay_at (ax_upd hp 42 32 (ρ 5)) 8 11) (ay_at (ax_upd hp 42 32 (ρ 5)) 8 10) (ay_at (ax_upd hp 42 32 (ρ 5)) 8 3) (ay_at (ax_upd hp 42 32 (ρ 5)) 8 4) (ay_at (ax_upd hp 42 32 (ρ 5)) 11) (ay_at (ax_upd hp 42 32 (ρ 5)) 12)
  obtain ⟨o0, ho0⟩ := ay_some hT (q := 8) (g := 2) (n := 12) rfl rfl (j := 32 / 4) (Nat.le_of_ble_eq_true rfl)
  have u1 : ∀ q, q ≠ 8 → ay_at (ax_upd hp 42 32 (ρ 5)) q = ay_at hp q := fun q hq => funext (fun j => ay_upd_ne hT.1 hq j)
  have u2 : ∀ j, ay_at (ax_upd hp 42 32 (ρ 5)) 8 j = if j = 8 then some (ρ 5) else ay_at hp 8 j := fun j => ay_upd_eq hT.1 rfl ho0 j
  refine ⟨ay_ex_upd hT.1 (ax_cellT hT (q := 8) (g := 2) rfl), ay_ex_upd hT.1 (ax_cellT hT (q := 10) (g := 1) rfl), ay_ex_upd hT.1 (ax_cellT hT (q := 11) (g := 14) rfl), ay_ex_upd hT.1 (ax_cellT hT (q := 12) (g := 15) rfl), ?_⟩
  rw [u2 5, if_neg (show ¬ 5 = 8 from Nat.ne_of_beq_eq_false rfl), u2 6, if_neg (show ¬ 6 = 8 from Nat.ne_of_beq_eq_false rfl), u2 7, if_neg (show ¬ 7 = 8 from Nat.ne_of_beq_eq_false rfl), u2 8, if_pos rfl, u1 10 (Nat.ne_of_beq_eq_false rfl), u2 9, if_neg (show ¬ 9 = 8 from Nat.ne_of_beq_eq_false rfl), u2 11, if_neg (show ¬ 11 = 8 from Nat.ne_of_beq_eq_false rfl), u2 10, if_neg (show ¬ 10 = 8 from Nat.ne_of_beq_eq_false rfl), u2 3, if_neg (show ¬ 3 = 8 from Nat.ne_of_beq_eq_false rfl), u2 4, if_neg (show ¬ 4 = 8 from Nat.ne_of_beq_eq_false rfl), u1 11 (Nat.ne_of_beq_eq_false rfl), u1 12 (Nat.ne_of_beq_eq_false rfl)]
  rw [c_ahead]
  have hb : ρ 2 / 4 < pz_gN (ρ 0) → pz_b (pz_gt (ρ 0)) (ρ 2 / 4) = ρ 4 / 4 := fun hl => by
    have e := F30.2.2 (ρ 2 / 4) hl
    rw [c_tape] at e
    have e := Option.some.inj e
    omega
  have hN : ρ 3 / 4 = pz_gN (ρ 0) := F30.1
  obtain ⟨r, m1, m2, m3⟩ := ay_mk hE 2 40 39 27 (by decide) (by decide)
  replace m1 : some (40 / 4 * (ρ 9 / 4) % 4294967296) = some r := m1
  have m1 := Option.some.inj m1
  replace m3 : ρ 6 = 4 * r := m3
  have mm : ρ 5 = if (400000 / 4 + 2147483648) % 4294967296 < (ρ 8 / 4 + 2147483648) % 4294967296 then 400000 else ρ 8 := pz_g41 hE 35 400000 23 (by decide)
  have hlt : ρ 2 / 4 < pz_gN (ρ 0) := by
    clear mm s1 s2 m1
    omega
  have hd : pz_dg (pz_b (pz_gt (ρ 0)) (ρ 2 / 4)) = true := by rw [hb hlt]; exact pz_dg_yes (pz_ps 48 57 i4b i4c i4d (by decide)).1 (pz_ps 48 57 i4b i4c i4d (by decide)).2
  have hc1 := pz_ps 48 57 i4b i4c i4d (by decide)
  have ho1 := (pz_ps 0 100000 i9b i9c i9d (by decide)).2
  have hr : ρ 6 / 4 = 10 * (ρ 9 / 4) := by
    clear mm s1 s2 r1
    omega
  have hz : ρ 7 / 4 = 10 * (ρ 9 / 4) + ρ 4 / 4 := by
    rw [pz_sm (by omega) (by omega) i7b s2, hr]
  have ey : ρ 8 / 4 = 10 * (ρ 9 / 4) + (ρ 4 / 4 - 48) := by
    rw [hz] at s1
    clear mm s2 r1 m1
    omega
  have ex : ρ 5 / 4 = if 10 * (ρ 9 / 4) + (ρ 4 / 4 - 48) ≤ 100000 then 10 * (ρ 9 / 4) + (ρ 4 / 4 - 48) else 100000 := by
    by_cases hc : 10 * (ρ 9 / 4) + (ρ 4 / 4 - 48) ≤ 100000
    · rw [if_pos hc, mm, if_neg (by rw [ey]; clear mm s1 s2 m1 r1; omega), ey]
    · rw [if_neg hc, mm, if_pos (by rw [ey]; clear mm s1 s2 m1 r1; omega)]
  refine ⟨F58.1, F58.2.1, F58.2.2.1, ?_, ?_, F58.2.2.2.2.2⟩
  · exact (pz_e_on hlt hd).symm.trans F58.2.2.2.1
  · show pz_n (pz_gt (ρ 0)) (pz_gN (ρ 0)) (ρ 2 / 4 + 1) (pz_m (ρ 5 / 4)) = _
    rw [ex, pz_m_class (by have := hc1.2; clear mm s1 s2 m1 r1; omega), ← hb hlt]
    exact (pz_n_on hlt hd).symm.trans F58.2.2.2.2.1

theorem axq_ad11 : ax_RO ax_wC ax_XC axu_ad11 := by
  intro ρ hp hE hT
  have j0 : ρ 0 % 4 = 1 := pz_gj hE 0 (Nat.le_of_ble_eq_true rfl) rfl
  have j1 : ρ 1 % 4 = 1 := pz_gj hE 1 (Nat.le_of_ble_eq_true rfl) rfl
  obtain ⟨i2a, i2b, i2c, i2d⟩ := pz_gi hE 2 2147483648 2147484448 (Nat.le_of_ble_eq_true rfl) rfl
  obtain ⟨i3a, i3b, i3c, i3d⟩ := pz_gi hE 3 0 4294967295 (Nat.le_of_ble_eq_true rfl) rfl
  have c_ahead : ay_at hp 8 5 = some (ρ 2) := ay_gfj hE 42 20 11 8 5 ax_m2 (ax_vlq rfl rfl) (ax_vlj rfl rfl)
  have s1 : (ρ 2 / 4 + 2147483648) % 4294967296 + (4 / 4 + 2147483648) % 4294967296 = (ρ 3 / 4 + 2147483648) % 4294967296 + 2147483648 := pz_gs hE 11 4 15 ax_m3
  obtain ⟨-, -, F30⟩ : ay_ex hp 8 ∧ ay_ex hp 9 ∧ pz_x30 (ρ 0) (ay_at hp 8 1) (ay_at hp 9) := (ax_XF_lt (x := 30) (Nat.le_of_ble_eq_true rfl)).mp (ax_gx hE (30, [3]) ax_m0)
  obtain ⟨-, -, -, -, F59⟩ : ay_ex hp 8 ∧ ay_ex hp 10 ∧ ay_ex hp 11 ∧ ay_ex hp 12 ∧ pz_x59 (ρ 0) (ρ 1) (ay_at hp 8 5) (ay_at hp 8 6) (ay_at hp 8 7) (ay_at hp 8 8) (ay_at hp 10 0) (ay_at hp 10 1) (ay_at hp 10 2) (ay_at hp 10 3) (ay_at hp 10 4) (ay_at hp 8 9) (ay_at hp 8 11) (ay_at hp 8 10) (ay_at hp 8 3) (ay_at hp 8 4) (ay_at hp 11) (ay_at hp 12) := (ax_XF_lt (x := 59) (Nat.le_of_ble_eq_true rfl)).mp (ax_gx hE (59, [3, 7]) ax_m1)
  rw [c_ahead] at F59
  refine ⟨(fun y hy => by cases hy), _, List.mem_cons_self, ρ, fun _ _ => rfl, ax_px hE rfl (fun y hy => ?_)⟩
  cases List.mem_singleton.mp hy
  refine (ax_XF_wr (x := 58) (Nat.le_of_ble_eq_true rfl)).mpr ?_
  show ay_ex (ax_upd hp 42 20 (ρ 3)) 8 ∧ ay_ex (ax_upd hp 42 20 (ρ 3)) 10 ∧ ay_ex (ax_upd hp 42 20 (ρ 3)) 11 ∧ ay_ex (ax_upd hp 42 20 (ρ 3)) 12 ∧ pz_x58 (ρ 0) (ρ 1) (ay_at (ax_upd hp 42 20 (ρ 3)) 8 5) (ay_at (ax_upd hp 42 20 (ρ 3)) 8 6) (ay_at (ax_upd hp 42 20 (ρ 3)) 8 7) (ay_at (ax_upd hp 42 20 (ρ 3)) 8 8) (ay_at (ax_upd hp 42 20 (ρ 3)) 10 0) (ay_at (ax_upd hp 42 20 (ρ 3)) 10 1) (ay_at (ax_upd hp 42 20 (ρ 3)) 10 2) (ay_at (ax_upd hp 42 20 (ρ 3)) 10 3) (ay_at (ax_upd hp 42 20 (ρ 3)) 10 4) (ay_at (ax_upd hp 42 20 (ρ 3)) 8 9) (ay_at (ax_upd hp 42 20 (ρ 3)) 8 11) (ay_at (ax_upd hp 42 20 (ρ 3)) 8 10) (ay_at (ax_upd hp 42 20 (ρ 3)) 8 3) (ay_at (ax_upd hp 42 20 (ρ 3)) 8 4) (ay_at (ax_upd hp 42 20 (ρ 3)) 11) (ay_at (ax_upd hp 42 20 (ρ 3)) 12)
  obtain ⟨o0, ho0⟩ := ay_some hT (q := 8) (g := 2) (n := 12) rfl rfl (j := 20 / 4) (Nat.le_of_ble_eq_true rfl)
  have u1 : ∀ q, q ≠ 8 → ay_at (ax_upd hp 42 20 (ρ 3)) q = ay_at hp q := fun q hq => funext (fun j => ay_upd_ne hT.1 hq j)
  have u2 : ∀ j, ay_at (ax_upd hp 42 20 (ρ 3)) 8 j = if j = 5 then some (ρ 3) else ay_at hp 8 j := fun j => ay_upd_eq hT.1 rfl ho0 j
  refine ⟨ay_ex_upd hT.1 (ax_cellT hT (q := 8) (g := 2) rfl), ay_ex_upd hT.1 (ax_cellT hT (q := 10) (g := 1) rfl), ay_ex_upd hT.1 (ax_cellT hT (q := 11) (g := 14) rfl), ay_ex_upd hT.1 (ax_cellT hT (q := 12) (g := 15) rfl), ?_⟩
  rw [u2 5, if_pos rfl, u2 6, if_neg (show ¬ 6 = 5 from Nat.ne_of_beq_eq_false rfl), u2 7, if_neg (show ¬ 7 = 5 from Nat.ne_of_beq_eq_false rfl), u2 8, if_neg (show ¬ 8 = 5 from Nat.ne_of_beq_eq_false rfl), u1 10 (Nat.ne_of_beq_eq_false rfl), u2 9, if_neg (show ¬ 9 = 5 from Nat.ne_of_beq_eq_false rfl), u2 11, if_neg (show ¬ 11 = 5 from Nat.ne_of_beq_eq_false rfl), u2 10, if_neg (show ¬ 10 = 5 from Nat.ne_of_beq_eq_false rfl), u2 3, if_neg (show ¬ 3 = 5 from Nat.ne_of_beq_eq_false rfl), u2 4, if_neg (show ¬ 4 = 5 from Nat.ne_of_beq_eq_false rfl), u1 11 (Nat.ne_of_beq_eq_false rfl), u1 12 (Nat.ne_of_beq_eq_false rfl)]
  refine ⟨F59.1, F59.2.1, F59.2.2.1, ?_, ?_, F59.2.2.2.2.2⟩
  · show pz_e pz_dg (pz_gt (ρ 0)) (pz_gN (ρ 0)) (ρ 3 / 4) = _
    rw [show ρ 3 / 4 = ρ 2 / 4 + 1 by omega]
    exact F59.2.2.2.1
  · show pz_n (pz_gt (ρ 0)) (pz_gN (ρ 0)) (ρ 3 / 4) _ = _
    rw [show ρ 3 / 4 = ρ 2 / 4 + 1 by omega]
    exact F59.2.2.2.2.1

theorem axq_ad12_e : ax_RO ax_wC ax_XC axu_ad12_e := by
  intro ρ hp hE hT
  have j0 : ρ 0 % 4 = 1 := pz_gj hE 0 (Nat.le_of_ble_eq_true rfl) rfl
  have j1 : ρ 1 % 4 = 1 := pz_gj hE 1 (Nat.le_of_ble_eq_true rfl) rfl
  obtain ⟨i2a, i2b, i2c, i2d⟩ := pz_gi hE 2 2147483648 2147484448 (Nat.le_of_ble_eq_true rfl) rfl
  obtain ⟨i3a, i3b, i3c, i3d⟩ := pz_gi hE 3 2147483648 2147484448 (Nat.le_of_ble_eq_true rfl) rfl
  have c_ahead : ay_at hp 8 5 = some (ρ 2) := ay_gfj hE 42 20 11 8 5 ax_m2 (ax_vlq rfl rfl) (ax_vlj rfl rfl)
  have c_size : ay_at hp 8 1 = some (ρ 3) := ay_gfj hE 42 4 15 8 1 ax_m3 (ax_vlq rfl rfl) (ax_vlj rfl rfl)
  have r1 : (ρ 3 / 4 + 2147483648) % 4294967296 ≤ (ρ 2 / 4 + 2147483648) % 4294967296 := pz_gc hE 3 11 15 (Nat.le_of_ble_eq_true rfl) ax_m4
  obtain ⟨-, -, F30⟩ : ay_ex hp 8 ∧ ay_ex hp 9 ∧ pz_x30 (ρ 0) (ay_at hp 8 1) (ay_at hp 9) := (ax_XF_lt (x := 30) (Nat.le_of_ble_eq_true rfl)).mp (ax_gx hE (30, [3]) ax_m0)
  rw [c_size] at F30
  obtain ⟨-, -, -, -, F58⟩ : ay_ex hp 8 ∧ ay_ex hp 10 ∧ ay_ex hp 11 ∧ ay_ex hp 12 ∧ pz_x58 (ρ 0) (ρ 1) (ay_at hp 8 5) (ay_at hp 8 6) (ay_at hp 8 7) (ay_at hp 8 8) (ay_at hp 10 0) (ay_at hp 10 1) (ay_at hp 10 2) (ay_at hp 10 3) (ay_at hp 10 4) (ay_at hp 8 9) (ay_at hp 8 11) (ay_at hp 8 10) (ay_at hp 8 3) (ay_at hp 8 4) (ay_at hp 11) (ay_at hp 12) := (ax_XF_lt (x := 58) (Nat.le_of_ble_eq_true rfl)).mp (ax_gx hE (58, [3, 7]) ax_m1)
  rw [c_ahead] at F58
  refine ⟨(fun y hy => by cases hy), _, List.mem_cons_self, ρ, fun _ _ => rfl, ax_px hE rfl (fun y hy => ?_)⟩
  cases List.mem_singleton.mp hy
  refine (ax_XF_lt (x := 50) (Nat.le_of_ble_eq_true rfl)).mpr ?_
  show ay_ex hp 8 ∧ ay_ex hp 10 ∧ ay_ex hp 11 ∧ ay_ex hp 12 ∧ pz_x50 (ρ 0) (ρ 1) (ay_at hp 8 5) (ay_at hp 8 6) (ay_at hp 8 7) (ay_at hp 8 8) (ay_at hp 10 0) (ay_at hp 10 1) (ay_at hp 10 2) (ay_at hp 10 3) (ay_at hp 10 4) (ay_at hp 8 9) (ay_at hp 8 11) (ay_at hp 8 10) (ay_at hp 8 3) (ay_at hp 8 4) (ay_at hp 11) (ay_at hp 12)
  refine ⟨(ax_cellT hT (q := 8) (g := 2) rfl), (ax_cellT hT (q := 10) (g := 1) rfl), (ax_cellT hT (q := 11) (g := 14) rfl), (ax_cellT hT (q := 12) (g := 15) rfl), ?_⟩
  rw [c_ahead]
  have hN : ρ 3 / 4 = pz_gN (ρ 0) := F30.1
  have e : pz_e pz_dg (pz_gt (ρ 0)) (pz_gN (ρ 0)) (ρ 2 / 4) = pz_nx (pz_gt (ρ 0)) (pz_gN (ρ 0)) (pz_p (pz_cf (pz_gt (ρ 0)) (pz_gN (ρ 0)) (ρ 1 / 4))) := F58.2.2.2.1
  have e2 : pz_e pz_dg (pz_gt (ρ 0)) (pz_gN (ρ 0)) (ρ 2 / 4) = ρ 2 / 4 := pz_e_off (Or.inl (by omega))
  have e3 : pz_n (pz_gt (ρ 0)) (pz_gN (ρ 0)) (ρ 2 / 4) _ = _ := F58.2.2.2.2.1
  rw [pz_n_off (Or.inl (by omega))] at e3
  exact ⟨e2.symm.trans e, F58.1, F58.2.1.trans F58.2.2.1.symm, fun _ => e3, F58.2.2.2.2.2⟩

theorem axq_ad12_a : ax_RO ax_wC ax_XC axu_ad12_a := by
  intro ρ hp hE hT
  have j0 : ρ 0 % 4 = 1 := pz_gj hE 0 (Nat.le_of_ble_eq_true rfl) rfl
  have j1 : ρ 1 % 4 = 1 := pz_gj hE 1 (Nat.le_of_ble_eq_true rfl) rfl
  obtain ⟨i2a, i2b, i2c, i2d⟩ := pz_gi hE 2 2147483648 2147484448 (Nat.le_of_ble_eq_true rfl) rfl
  obtain ⟨i3a, i3b, i3c, i3d⟩ := pz_gi hE 3 2147483520 2147483695 (Nat.le_of_ble_eq_true rfl) rfl
  have c_ahead : ay_at hp 8 5 = some (ρ 2) := ay_gfj hE 42 20 11 8 5 ax_m2 (ax_vlq rfl rfl) (ax_vlj rfl rfl)
  have c_tape : ay_at hp 9 (ρ 2 / 4) = some (ρ 3) := ay_gf hE 46 11 15 9 ax_m3 (ax_vlq rfl rfl)
  obtain ⟨-, -, F30⟩ : ay_ex hp 8 ∧ ay_ex hp 9 ∧ pz_x30 (ρ 0) (ay_at hp 8 1) (ay_at hp 9) := (ax_XF_lt (x := 30) (Nat.le_of_ble_eq_true rfl)).mp (ax_gx hE (30, [3]) ax_m0)
  obtain ⟨-, -, -, -, F58⟩ : ay_ex hp 8 ∧ ay_ex hp 10 ∧ ay_ex hp 11 ∧ ay_ex hp 12 ∧ pz_x58 (ρ 0) (ρ 1) (ay_at hp 8 5) (ay_at hp 8 6) (ay_at hp 8 7) (ay_at hp 8 8) (ay_at hp 10 0) (ay_at hp 10 1) (ay_at hp 10 2) (ay_at hp 10 3) (ay_at hp 10 4) (ay_at hp 8 9) (ay_at hp 8 11) (ay_at hp 8 10) (ay_at hp 8 3) (ay_at hp 8 4) (ay_at hp 11) (ay_at hp 12) := (ax_XF_lt (x := 58) (Nat.le_of_ble_eq_true rfl)).mp (ax_gx hE (58, [3, 7]) ax_m1)
  rw [c_ahead] at F58
  refine ⟨(fun y hy => by cases hy), _, List.mem_cons_self, ρ, fun _ _ => rfl, ax_px hE rfl (fun y hy => ?_)⟩
  cases List.mem_singleton.mp hy
  refine (ax_XF_lt (x := 50) (Nat.le_of_ble_eq_true rfl)).mpr ?_
  show ay_ex hp 8 ∧ ay_ex hp 10 ∧ ay_ex hp 11 ∧ ay_ex hp 12 ∧ pz_x50 (ρ 0) (ρ 1) (ay_at hp 8 5) (ay_at hp 8 6) (ay_at hp 8 7) (ay_at hp 8 8) (ay_at hp 10 0) (ay_at hp 10 1) (ay_at hp 10 2) (ay_at hp 10 3) (ay_at hp 10 4) (ay_at hp 8 9) (ay_at hp 8 11) (ay_at hp 8 10) (ay_at hp 8 3) (ay_at hp 8 4) (ay_at hp 11) (ay_at hp 12)
  refine ⟨(ax_cellT hT (q := 8) (g := 2) rfl), (ax_cellT hT (q := 10) (g := 1) rfl), (ax_cellT hT (q := 11) (g := 14) rfl), (ax_cellT hT (q := 12) (g := 15) rfl), ?_⟩
  rw [c_ahead]
  have hb : ρ 2 / 4 < pz_gN (ρ 0) → pz_b (pz_gt (ρ 0)) (ρ 2 / 4) = ρ 3 / 4 := fun hl => by
    have e := F30.2.2 (ρ 2 / 4) hl
    rw [c_tape] at e
    have e := Option.some.inj e
    omega
  have e : pz_e pz_dg (pz_gt (ρ 0)) (pz_gN (ρ 0)) (ρ 2 / 4) = pz_nx (pz_gt (ρ 0)) (pz_gN (ρ 0)) (pz_p (pz_cf (pz_gt (ρ 0)) (pz_gN (ρ 0)) (ρ 1 / 4))) := F58.2.2.2.1
  have e2 : pz_e pz_dg (pz_gt (ρ 0)) (pz_gN (ρ 0)) (ρ 2 / 4) = ρ 2 / 4 := pz_e_off (by
    by_cases hl : ρ 2 / 4 < pz_gN (ρ 0)
    · exact Or.inr (by rw [hb hl]; exact pz_dg_no (by omega))
    · exact Or.inl (by omega))
  have e3 : pz_n (pz_gt (ρ 0)) (pz_gN (ρ 0)) (ρ 2 / 4) _ = _ := F58.2.2.2.2.1
  rw [pz_n_off (by
    by_cases hl : ρ 2 / 4 < pz_gN (ρ 0)
    · exact Or.inr (by rw [hb hl]; exact pz_dg_no (by omega))
    · exact Or.inl (by omega))] at e3
  exact ⟨e2.symm.trans e, F58.1, F58.2.1.trans F58.2.2.1.symm, fun _ => e3, F58.2.2.2.2.2⟩

theorem axq_ad12_b : ax_RO ax_wC ax_XC axu_ad12_b := by
  intro ρ hp hE hT
  have j0 : ρ 0 % 4 = 1 := pz_gj hE 0 (Nat.le_of_ble_eq_true rfl) rfl
  have j1 : ρ 1 % 4 = 1 := pz_gj hE 1 (Nat.le_of_ble_eq_true rfl) rfl
  obtain ⟨i2a, i2b, i2c, i2d⟩ := pz_gi hE 2 2147483648 2147484448 (Nat.le_of_ble_eq_true rfl) rfl
  obtain ⟨i3a, i3b, i3c, i3d⟩ := pz_gi hE 3 2147483706 2147483775 (Nat.le_of_ble_eq_true rfl) rfl
  have c_ahead : ay_at hp 8 5 = some (ρ 2) := ay_gfj hE 42 20 11 8 5 ax_m2 (ax_vlq rfl rfl) (ax_vlj rfl rfl)
  have c_tape : ay_at hp 9 (ρ 2 / 4) = some (ρ 3) := ay_gf hE 46 11 15 9 ax_m3 (ax_vlq rfl rfl)
  obtain ⟨-, -, F30⟩ : ay_ex hp 8 ∧ ay_ex hp 9 ∧ pz_x30 (ρ 0) (ay_at hp 8 1) (ay_at hp 9) := (ax_XF_lt (x := 30) (Nat.le_of_ble_eq_true rfl)).mp (ax_gx hE (30, [3]) ax_m0)
  obtain ⟨-, -, -, -, F58⟩ : ay_ex hp 8 ∧ ay_ex hp 10 ∧ ay_ex hp 11 ∧ ay_ex hp 12 ∧ pz_x58 (ρ 0) (ρ 1) (ay_at hp 8 5) (ay_at hp 8 6) (ay_at hp 8 7) (ay_at hp 8 8) (ay_at hp 10 0) (ay_at hp 10 1) (ay_at hp 10 2) (ay_at hp 10 3) (ay_at hp 10 4) (ay_at hp 8 9) (ay_at hp 8 11) (ay_at hp 8 10) (ay_at hp 8 3) (ay_at hp 8 4) (ay_at hp 11) (ay_at hp 12) := (ax_XF_lt (x := 58) (Nat.le_of_ble_eq_true rfl)).mp (ax_gx hE (58, [3, 7]) ax_m1)
  rw [c_ahead] at F58
  refine ⟨(fun y hy => by cases hy), _, List.mem_cons_self, ρ, fun _ _ => rfl, ax_px hE rfl (fun y hy => ?_)⟩
  cases List.mem_singleton.mp hy
  refine (ax_XF_lt (x := 50) (Nat.le_of_ble_eq_true rfl)).mpr ?_
  show ay_ex hp 8 ∧ ay_ex hp 10 ∧ ay_ex hp 11 ∧ ay_ex hp 12 ∧ pz_x50 (ρ 0) (ρ 1) (ay_at hp 8 5) (ay_at hp 8 6) (ay_at hp 8 7) (ay_at hp 8 8) (ay_at hp 10 0) (ay_at hp 10 1) (ay_at hp 10 2) (ay_at hp 10 3) (ay_at hp 10 4) (ay_at hp 8 9) (ay_at hp 8 11) (ay_at hp 8 10) (ay_at hp 8 3) (ay_at hp 8 4) (ay_at hp 11) (ay_at hp 12)
  refine ⟨(ax_cellT hT (q := 8) (g := 2) rfl), (ax_cellT hT (q := 10) (g := 1) rfl), (ax_cellT hT (q := 11) (g := 14) rfl), (ax_cellT hT (q := 12) (g := 15) rfl), ?_⟩
  rw [c_ahead]
  have hb : ρ 2 / 4 < pz_gN (ρ 0) → pz_b (pz_gt (ρ 0)) (ρ 2 / 4) = ρ 3 / 4 := fun hl => by
    have e := F30.2.2 (ρ 2 / 4) hl
    rw [c_tape] at e
    have e := Option.some.inj e
    omega
  have e : pz_e pz_dg (pz_gt (ρ 0)) (pz_gN (ρ 0)) (ρ 2 / 4) = pz_nx (pz_gt (ρ 0)) (pz_gN (ρ 0)) (pz_p (pz_cf (pz_gt (ρ 0)) (pz_gN (ρ 0)) (ρ 1 / 4))) := F58.2.2.2.1
  have e2 : pz_e pz_dg (pz_gt (ρ 0)) (pz_gN (ρ 0)) (ρ 2 / 4) = ρ 2 / 4 := pz_e_off (by
    by_cases hl : ρ 2 / 4 < pz_gN (ρ 0)
    · exact Or.inr (by rw [hb hl]; exact pz_dg_no (by omega))
    · exact Or.inl (by omega))
  have e3 : pz_n (pz_gt (ρ 0)) (pz_gN (ρ 0)) (ρ 2 / 4) _ = _ := F58.2.2.2.2.1
  rw [pz_n_off (by
    by_cases hl : ρ 2 / 4 < pz_gN (ρ 0)
    · exact Or.inr (by rw [hb hl]; exact pz_dg_no (by omega))
    · exact Or.inl (by omega))] at e3
  exact ⟨e2.symm.trans e, F58.1, F58.2.1.trans F58.2.2.1.symm, fun _ => e3, F58.2.2.2.2.2⟩

theorem axq_ad13_59 : ax_RO ax_wC ax_XC axu_ad13_59 := by
  intro ρ hp hE hT
  have j0 : ρ 0 % 4 = 1 := pz_gj hE 0 (Nat.le_of_ble_eq_true rfl) rfl
  have j1 : ρ 1 % 4 = 1 := pz_gj hE 1 (Nat.le_of_ble_eq_true rfl) rfl
  obtain ⟨i2a, i2b, i2c, i2d⟩ := pz_gi hE 2 2147483648 2147484448 (Nat.le_of_ble_eq_true rfl) rfl
  obtain ⟨i3a, i3b, i3c, i3d⟩ := pz_gi hE 3 2147483707 2147483707 (Nat.le_of_ble_eq_true rfl) rfl
  have c_place : ay_at hp 8 6 = some (ρ 2) := ay_gfj hE 42 24 11 8 6 ax_m2 (ax_vlq rfl rfl) (ax_vlj rfl rfl)
  have c_tape : ay_at hp 9 (ρ 2 / 4) = some (ρ 3) := ay_gf hE 46 11 15 9 ax_m3 (ax_vlq rfl rfl)
  obtain ⟨-, -, F30⟩ : ay_ex hp 8 ∧ ay_ex hp 9 ∧ pz_x30 (ρ 0) (ay_at hp 8 1) (ay_at hp 9) := (ax_XF_lt (x := 30) (Nat.le_of_ble_eq_true rfl)).mp (ax_gx hE (30, [3]) ax_m0)
  obtain ⟨-, -, -, -, F55⟩ : ay_ex hp 8 ∧ ay_ex hp 10 ∧ ay_ex hp 11 ∧ ay_ex hp 12 ∧ pz_x55 (ρ 0) (ρ 1) (ay_at hp 8 5) (ay_at hp 8 6) (ay_at hp 10 0) (ay_at hp 10 1) (ay_at hp 10 2) (ay_at hp 10 3) (ay_at hp 10 4) (ay_at hp 8 9) (ay_at hp 8 11) (ay_at hp 8 10) (ay_at hp 8 3) (ay_at hp 8 4) (ay_at hp 11) (ay_at hp 12) := (ax_XF_lt (x := 55) (Nat.le_of_ble_eq_true rfl)).mp (ax_gx hE (55, [3, 7]) ax_m1)
  rw [c_place] at F55
  refine ⟨(fun y hy => by cases hy), _, List.mem_cons_self, ρ, fun _ _ => rfl, ax_px hE rfl (fun y hy => ?_)⟩
  cases List.mem_singleton.mp hy
  refine (ax_XF_wr (x := 50) (Nat.le_of_ble_eq_true rfl)).mpr ?_
  show ay_ex (ax_upd hp 42 28 (ρ 3)) 8 ∧ ay_ex (ax_upd hp 42 28 (ρ 3)) 10 ∧ ay_ex (ax_upd hp 42 28 (ρ 3)) 11 ∧ ay_ex (ax_upd hp 42 28 (ρ 3)) 12 ∧ pz_x50 (ρ 0) (ρ 1) (ay_at (ax_upd hp 42 28 (ρ 3)) 8 5) (ay_at (ax_upd hp 42 28 (ρ 3)) 8 6) (ay_at (ax_upd hp 42 28 (ρ 3)) 8 7) (ay_at (ax_upd hp 42 28 (ρ 3)) 8 8) (ay_at (ax_upd hp 42 28 (ρ 3)) 10 0) (ay_at (ax_upd hp 42 28 (ρ 3)) 10 1) (ay_at (ax_upd hp 42 28 (ρ 3)) 10 2) (ay_at (ax_upd hp 42 28 (ρ 3)) 10 3) (ay_at (ax_upd hp 42 28 (ρ 3)) 10 4) (ay_at (ax_upd hp 42 28 (ρ 3)) 8 9) (ay_at (ax_upd hp 42 28 (ρ 3)) 8 11) (ay_at (ax_upd hp 42 28 (ρ 3)) 8 10) (ay_at (ax_upd hp 42 28 (ρ 3)) 8 3) (ay_at (ax_upd hp 42 28 (ρ 3)) 8 4) (ay_at (ax_upd hp 42 28 (ρ 3)) 11) (ay_at (ax_upd hp 42 28 (ρ 3)) 12)
  obtain ⟨o0, ho0⟩ := ay_some hT (q := 8) (g := 2) (n := 12) rfl rfl (j := 28 / 4) (Nat.le_of_ble_eq_true rfl)
  have u1 : ∀ q, q ≠ 8 → ay_at (ax_upd hp 42 28 (ρ 3)) q = ay_at hp q := fun q hq => funext (fun j => ay_upd_ne hT.1 hq j)
  have u2 : ∀ j, ay_at (ax_upd hp 42 28 (ρ 3)) 8 j = if j = 7 then some (ρ 3) else ay_at hp 8 j := fun j => ay_upd_eq hT.1 rfl ho0 j
  refine ⟨ay_ex_upd hT.1 (ax_cellT hT (q := 8) (g := 2) rfl), ay_ex_upd hT.1 (ax_cellT hT (q := 10) (g := 1) rfl), ay_ex_upd hT.1 (ax_cellT hT (q := 11) (g := 14) rfl), ay_ex_upd hT.1 (ax_cellT hT (q := 12) (g := 15) rfl), ?_⟩
  rw [u2 5, if_neg (show ¬ 5 = 7 from Nat.ne_of_beq_eq_false rfl), u2 6, if_neg (show ¬ 6 = 7 from Nat.ne_of_beq_eq_false rfl), u2 7, if_pos rfl, u2 8, if_neg (show ¬ 8 = 7 from Nat.ne_of_beq_eq_false rfl), u1 10 (Nat.ne_of_beq_eq_false rfl), u2 9, if_neg (show ¬ 9 = 7 from Nat.ne_of_beq_eq_false rfl), u2 11, if_neg (show ¬ 11 = 7 from Nat.ne_of_beq_eq_false rfl), u2 10, if_neg (show ¬ 10 = 7 from Nat.ne_of_beq_eq_false rfl), u2 3, if_neg (show ¬ 3 = 7 from Nat.ne_of_beq_eq_false rfl), u2 4, if_neg (show ¬ 4 = 7 from Nat.ne_of_beq_eq_false rfl), u1 11 (Nat.ne_of_beq_eq_false rfl), u1 12 (Nat.ne_of_beq_eq_false rfl)]
  rw [c_place]
  have hb : ρ 2 / 4 < pz_gN (ρ 0) → pz_b (pz_gt (ρ 0)) (ρ 2 / 4) = ρ 3 / 4 := fun hl => by
    have e := F30.2.2 (ρ 2 / 4) hl
    rw [c_tape] at e
    have e := Option.some.inj e
    omega
  have e1 : ρ 2 / 4 = pz_at (pz_gt (ρ 0)) (pz_gN (ρ 0)) (pz_p (pz_cf (pz_gt (ρ 0)) (pz_gN (ρ 0)) (ρ 1 / 4))) := F55.1
  have e2 : ay_ln (ay_at hp 8 5) = ρ 2 / 4 + 1 := F55.2.1
  have e3 : ρ 2 / 4 < pz_gN (ρ 0) := F55.2.2.1
  have hb1 := hb e3
  rw [e1] at hb1 e2 e3
  obtain ⟨k1, k2⟩ := pz_kd_sg e3 (by rw [hb1]; exact pz_lt_no (by omega)) (by rw [hb1]; exact pz_dg_no (by omega))
  rw [hb1] at k1
  have ec : ρ 3 / 4 = 59 := by omega
  rw [ec] at k1
  replace k1 : pz_kd (pz_gt (ρ 0)) (pz_gN (ρ 0)) (pz_p (pz_cf (pz_gt (ρ 0)) (pz_gN (ρ 0)) (ρ 1 / 4))) = 59 := k1
  exact ⟨by rw [e2, k2], e1, by show ρ 3 / 4 = _; rw [ec, k1], fun z => absurd (show 59 = 2 from ec.symm.trans z) (by decide), F55.2.2.2⟩

theorem axq_ad13_40 : ax_RO ax_wC ax_XC axu_ad13_40 := by
  intro ρ hp hE hT
  have j0 : ρ 0 % 4 = 1 := pz_gj hE 0 (Nat.le_of_ble_eq_true rfl) rfl
  have j1 : ρ 1 % 4 = 1 := pz_gj hE 1 (Nat.le_of_ble_eq_true rfl) rfl
  obtain ⟨i2a, i2b, i2c, i2d⟩ := pz_gi hE 2 2147483648 2147484448 (Nat.le_of_ble_eq_true rfl) rfl
  obtain ⟨i3a, i3b, i3c, i3d⟩ := pz_gi hE 3 2147483688 2147483688 (Nat.le_of_ble_eq_true rfl) rfl
  have c_place : ay_at hp 8 6 = some (ρ 2) := ay_gfj hE 42 24 11 8 6 ax_m2 (ax_vlq rfl rfl) (ax_vlj rfl rfl)
  have c_tape : ay_at hp 9 (ρ 2 / 4) = some (ρ 3) := ay_gf hE 46 11 15 9 ax_m3 (ax_vlq rfl rfl)
  obtain ⟨-, -, F30⟩ : ay_ex hp 8 ∧ ay_ex hp 9 ∧ pz_x30 (ρ 0) (ay_at hp 8 1) (ay_at hp 9) := (ax_XF_lt (x := 30) (Nat.le_of_ble_eq_true rfl)).mp (ax_gx hE (30, [3]) ax_m0)
  obtain ⟨-, -, -, -, F55⟩ : ay_ex hp 8 ∧ ay_ex hp 10 ∧ ay_ex hp 11 ∧ ay_ex hp 12 ∧ pz_x55 (ρ 0) (ρ 1) (ay_at hp 8 5) (ay_at hp 8 6) (ay_at hp 10 0) (ay_at hp 10 1) (ay_at hp 10 2) (ay_at hp 10 3) (ay_at hp 10 4) (ay_at hp 8 9) (ay_at hp 8 11) (ay_at hp 8 10) (ay_at hp 8 3) (ay_at hp 8 4) (ay_at hp 11) (ay_at hp 12) := (ax_XF_lt (x := 55) (Nat.le_of_ble_eq_true rfl)).mp (ax_gx hE (55, [3, 7]) ax_m1)
  rw [c_place] at F55
  refine ⟨(fun y hy => by cases hy), _, List.mem_cons_self, ρ, fun _ _ => rfl, ax_px hE rfl (fun y hy => ?_)⟩
  cases List.mem_singleton.mp hy
  refine (ax_XF_wr (x := 50) (Nat.le_of_ble_eq_true rfl)).mpr ?_
  show ay_ex (ax_upd hp 42 28 (ρ 3)) 8 ∧ ay_ex (ax_upd hp 42 28 (ρ 3)) 10 ∧ ay_ex (ax_upd hp 42 28 (ρ 3)) 11 ∧ ay_ex (ax_upd hp 42 28 (ρ 3)) 12 ∧ pz_x50 (ρ 0) (ρ 1) (ay_at (ax_upd hp 42 28 (ρ 3)) 8 5) (ay_at (ax_upd hp 42 28 (ρ 3)) 8 6) (ay_at (ax_upd hp 42 28 (ρ 3)) 8 7) (ay_at (ax_upd hp 42 28 (ρ 3)) 8 8) (ay_at (ax_upd hp 42 28 (ρ 3)) 10 0) (ay_at (ax_upd hp 42 28 (ρ 3)) 10 1) (ay_at (ax_upd hp 42 28 (ρ 3)) 10 2) (ay_at (ax_upd hp 42 28 (ρ 3)) 10 3) (ay_at (ax_upd hp 42 28 (ρ 3)) 10 4) (ay_at (ax_upd hp 42 28 (ρ 3)) 8 9) (ay_at (ax_upd hp 42 28 (ρ 3)) 8 11) (ay_at (ax_upd hp 42 28 (ρ 3)) 8 10) (ay_at (ax_upd hp 42 28 (ρ 3)) 8 3) (ay_at (ax_upd hp 42 28 (ρ 3)) 8 4) (ay_at (ax_upd hp 42 28 (ρ 3)) 11) (ay_at (ax_upd hp 42 28 (ρ 3)) 12)
  obtain ⟨o0, ho0⟩ := ay_some hT (q := 8) (g := 2) (n := 12) rfl rfl (j := 28 / 4) (Nat.le_of_ble_eq_true rfl)
  have u1 : ∀ q, q ≠ 8 → ay_at (ax_upd hp 42 28 (ρ 3)) q = ay_at hp q := fun q hq => funext (fun j => ay_upd_ne hT.1 hq j)
  have u2 : ∀ j, ay_at (ax_upd hp 42 28 (ρ 3)) 8 j = if j = 7 then some (ρ 3) else ay_at hp 8 j := fun j => ay_upd_eq hT.1 rfl ho0 j
  refine ⟨ay_ex_upd hT.1 (ax_cellT hT (q := 8) (g := 2) rfl), ay_ex_upd hT.1 (ax_cellT hT (q := 10) (g := 1) rfl), ay_ex_upd hT.1 (ax_cellT hT (q := 11) (g := 14) rfl), ay_ex_upd hT.1 (ax_cellT hT (q := 12) (g := 15) rfl), ?_⟩
  rw [u2 5, if_neg (show ¬ 5 = 7 from Nat.ne_of_beq_eq_false rfl), u2 6, if_neg (show ¬ 6 = 7 from Nat.ne_of_beq_eq_false rfl), u2 7, if_pos rfl, u2 8, if_neg (show ¬ 8 = 7 from Nat.ne_of_beq_eq_false rfl), u1 10 (Nat.ne_of_beq_eq_false rfl), u2 9, if_neg (show ¬ 9 = 7 from Nat.ne_of_beq_eq_false rfl), u2 11, if_neg (show ¬ 11 = 7 from Nat.ne_of_beq_eq_false rfl), u2 10, if_neg (show ¬ 10 = 7 from Nat.ne_of_beq_eq_false rfl), u2 3, if_neg (show ¬ 3 = 7 from Nat.ne_of_beq_eq_false rfl), u2 4, if_neg (show ¬ 4 = 7 from Nat.ne_of_beq_eq_false rfl), u1 11 (Nat.ne_of_beq_eq_false rfl), u1 12 (Nat.ne_of_beq_eq_false rfl)]
  rw [c_place]
  have hb : ρ 2 / 4 < pz_gN (ρ 0) → pz_b (pz_gt (ρ 0)) (ρ 2 / 4) = ρ 3 / 4 := fun hl => by
    have e := F30.2.2 (ρ 2 / 4) hl
    rw [c_tape] at e
    have e := Option.some.inj e
    omega
  have e1 : ρ 2 / 4 = pz_at (pz_gt (ρ 0)) (pz_gN (ρ 0)) (pz_p (pz_cf (pz_gt (ρ 0)) (pz_gN (ρ 0)) (ρ 1 / 4))) := F55.1
  have e2 : ay_ln (ay_at hp 8 5) = ρ 2 / 4 + 1 := F55.2.1
  have e3 : ρ 2 / 4 < pz_gN (ρ 0) := F55.2.2.1
  have hb1 := hb e3
  rw [e1] at hb1 e2 e3
  obtain ⟨k1, k2⟩ := pz_kd_sg e3 (by rw [hb1]; exact pz_lt_no (by omega)) (by rw [hb1]; exact pz_dg_no (by omega))
  rw [hb1] at k1
  have ec : ρ 3 / 4 = 40 := by omega
  rw [ec] at k1
  replace k1 : pz_kd (pz_gt (ρ 0)) (pz_gN (ρ 0)) (pz_p (pz_cf (pz_gt (ρ 0)) (pz_gN (ρ 0)) (ρ 1 / 4))) = 40 := k1
  exact ⟨by rw [e2, k2], e1, by show ρ 3 / 4 = _; rw [ec, k1], fun z => absurd (show 40 = 2 from ec.symm.trans z) (by decide), F55.2.2.2⟩

theorem axq_ad13_41 : ax_RO ax_wC ax_XC axu_ad13_41 := by
  intro ρ hp hE hT
  have j0 : ρ 0 % 4 = 1 := pz_gj hE 0 (Nat.le_of_ble_eq_true rfl) rfl
  have j1 : ρ 1 % 4 = 1 := pz_gj hE 1 (Nat.le_of_ble_eq_true rfl) rfl
  obtain ⟨i2a, i2b, i2c, i2d⟩ := pz_gi hE 2 2147483648 2147484448 (Nat.le_of_ble_eq_true rfl) rfl
  obtain ⟨i3a, i3b, i3c, i3d⟩ := pz_gi hE 3 2147483689 2147483689 (Nat.le_of_ble_eq_true rfl) rfl
  have c_place : ay_at hp 8 6 = some (ρ 2) := ay_gfj hE 42 24 11 8 6 ax_m2 (ax_vlq rfl rfl) (ax_vlj rfl rfl)
  have c_tape : ay_at hp 9 (ρ 2 / 4) = some (ρ 3) := ay_gf hE 46 11 15 9 ax_m3 (ax_vlq rfl rfl)
  obtain ⟨-, -, F30⟩ : ay_ex hp 8 ∧ ay_ex hp 9 ∧ pz_x30 (ρ 0) (ay_at hp 8 1) (ay_at hp 9) := (ax_XF_lt (x := 30) (Nat.le_of_ble_eq_true rfl)).mp (ax_gx hE (30, [3]) ax_m0)
  obtain ⟨-, -, -, -, F55⟩ : ay_ex hp 8 ∧ ay_ex hp 10 ∧ ay_ex hp 11 ∧ ay_ex hp 12 ∧ pz_x55 (ρ 0) (ρ 1) (ay_at hp 8 5) (ay_at hp 8 6) (ay_at hp 10 0) (ay_at hp 10 1) (ay_at hp 10 2) (ay_at hp 10 3) (ay_at hp 10 4) (ay_at hp 8 9) (ay_at hp 8 11) (ay_at hp 8 10) (ay_at hp 8 3) (ay_at hp 8 4) (ay_at hp 11) (ay_at hp 12) := (ax_XF_lt (x := 55) (Nat.le_of_ble_eq_true rfl)).mp (ax_gx hE (55, [3, 7]) ax_m1)
  rw [c_place] at F55
  refine ⟨(fun y hy => by cases hy), _, List.mem_cons_self, ρ, fun _ _ => rfl, ax_px hE rfl (fun y hy => ?_)⟩
  cases List.mem_singleton.mp hy
  refine (ax_XF_wr (x := 50) (Nat.le_of_ble_eq_true rfl)).mpr ?_
  show ay_ex (ax_upd hp 42 28 (ρ 3)) 8 ∧ ay_ex (ax_upd hp 42 28 (ρ 3)) 10 ∧ ay_ex (ax_upd hp 42 28 (ρ 3)) 11 ∧ ay_ex (ax_upd hp 42 28 (ρ 3)) 12 ∧ pz_x50 (ρ 0) (ρ 1) (ay_at (ax_upd hp 42 28 (ρ 3)) 8 5) (ay_at (ax_upd hp 42 28 (ρ 3)) 8 6) (ay_at (ax_upd hp 42 28 (ρ 3)) 8 7) (ay_at (ax_upd hp 42 28 (ρ 3)) 8 8) (ay_at (ax_upd hp 42 28 (ρ 3)) 10 0) (ay_at (ax_upd hp 42 28 (ρ 3)) 10 1) (ay_at (ax_upd hp 42 28 (ρ 3)) 10 2) (ay_at (ax_upd hp 42 28 (ρ 3)) 10 3) (ay_at (ax_upd hp 42 28 (ρ 3)) 10 4) (ay_at (ax_upd hp 42 28 (ρ 3)) 8 9) (ay_at (ax_upd hp 42 28 (ρ 3)) 8 11) (ay_at (ax_upd hp 42 28 (ρ 3)) 8 10) (ay_at (ax_upd hp 42 28 (ρ 3)) 8 3) (ay_at (ax_upd hp 42 28 (ρ 3)) 8 4) (ay_at (ax_upd hp 42 28 (ρ 3)) 11) (ay_at (ax_upd hp 42 28 (ρ 3)) 12)
  obtain ⟨o0, ho0⟩ := ay_some hT (q := 8) (g := 2) (n := 12) rfl rfl (j := 28 / 4) (Nat.le_of_ble_eq_true rfl)
  have u1 : ∀ q, q ≠ 8 → ay_at (ax_upd hp 42 28 (ρ 3)) q = ay_at hp q := fun q hq => funext (fun j => ay_upd_ne hT.1 hq j)
  have u2 : ∀ j, ay_at (ax_upd hp 42 28 (ρ 3)) 8 j = if j = 7 then some (ρ 3) else ay_at hp 8 j := fun j => ay_upd_eq hT.1 rfl ho0 j
  refine ⟨ay_ex_upd hT.1 (ax_cellT hT (q := 8) (g := 2) rfl), ay_ex_upd hT.1 (ax_cellT hT (q := 10) (g := 1) rfl), ay_ex_upd hT.1 (ax_cellT hT (q := 11) (g := 14) rfl), ay_ex_upd hT.1 (ax_cellT hT (q := 12) (g := 15) rfl), ?_⟩
  rw [u2 5, if_neg (show ¬ 5 = 7 from Nat.ne_of_beq_eq_false rfl), u2 6, if_neg (show ¬ 6 = 7 from Nat.ne_of_beq_eq_false rfl), u2 7, if_pos rfl, u2 8, if_neg (show ¬ 8 = 7 from Nat.ne_of_beq_eq_false rfl), u1 10 (Nat.ne_of_beq_eq_false rfl), u2 9, if_neg (show ¬ 9 = 7 from Nat.ne_of_beq_eq_false rfl), u2 11, if_neg (show ¬ 11 = 7 from Nat.ne_of_beq_eq_false rfl), u2 10, if_neg (show ¬ 10 = 7 from Nat.ne_of_beq_eq_false rfl), u2 3, if_neg (show ¬ 3 = 7 from Nat.ne_of_beq_eq_false rfl), u2 4, if_neg (show ¬ 4 = 7 from Nat.ne_of_beq_eq_false rfl), u1 11 (Nat.ne_of_beq_eq_false rfl), u1 12 (Nat.ne_of_beq_eq_false rfl)]
  rw [c_place]
  have hb : ρ 2 / 4 < pz_gN (ρ 0) → pz_b (pz_gt (ρ 0)) (ρ 2 / 4) = ρ 3 / 4 := fun hl => by
    have e := F30.2.2 (ρ 2 / 4) hl
    rw [c_tape] at e
    have e := Option.some.inj e
    omega
  have e1 : ρ 2 / 4 = pz_at (pz_gt (ρ 0)) (pz_gN (ρ 0)) (pz_p (pz_cf (pz_gt (ρ 0)) (pz_gN (ρ 0)) (ρ 1 / 4))) := F55.1
  have e2 : ay_ln (ay_at hp 8 5) = ρ 2 / 4 + 1 := F55.2.1
  have e3 : ρ 2 / 4 < pz_gN (ρ 0) := F55.2.2.1
  have hb1 := hb e3
  rw [e1] at hb1 e2 e3
  obtain ⟨k1, k2⟩ := pz_kd_sg e3 (by rw [hb1]; exact pz_lt_no (by omega)) (by rw [hb1]; exact pz_dg_no (by omega))
  rw [hb1] at k1
  have ec : ρ 3 / 4 = 41 := by omega
  rw [ec] at k1
  replace k1 : pz_kd (pz_gt (ρ 0)) (pz_gN (ρ 0)) (pz_p (pz_cf (pz_gt (ρ 0)) (pz_gN (ρ 0)) (ρ 1 / 4))) = 41 := k1
  exact ⟨by rw [e2, k2], e1, by show ρ 3 / 4 = _; rw [ec, k1], fun z => absurd (show 41 = 2 from ec.symm.trans z) (by decide), F55.2.2.2⟩

theorem axq_ad13_43 : ax_RO ax_wC ax_XC axu_ad13_43 := by
  intro ρ hp hE hT
  have j0 : ρ 0 % 4 = 1 := pz_gj hE 0 (Nat.le_of_ble_eq_true rfl) rfl
  have j1 : ρ 1 % 4 = 1 := pz_gj hE 1 (Nat.le_of_ble_eq_true rfl) rfl
  obtain ⟨i2a, i2b, i2c, i2d⟩ := pz_gi hE 2 2147483648 2147484448 (Nat.le_of_ble_eq_true rfl) rfl
  obtain ⟨i3a, i3b, i3c, i3d⟩ := pz_gi hE 3 2147483691 2147483691 (Nat.le_of_ble_eq_true rfl) rfl
  have c_place : ay_at hp 8 6 = some (ρ 2) := ay_gfj hE 42 24 11 8 6 ax_m2 (ax_vlq rfl rfl) (ax_vlj rfl rfl)
  have c_tape : ay_at hp 9 (ρ 2 / 4) = some (ρ 3) := ay_gf hE 46 11 15 9 ax_m3 (ax_vlq rfl rfl)
  obtain ⟨-, -, F30⟩ : ay_ex hp 8 ∧ ay_ex hp 9 ∧ pz_x30 (ρ 0) (ay_at hp 8 1) (ay_at hp 9) := (ax_XF_lt (x := 30) (Nat.le_of_ble_eq_true rfl)).mp (ax_gx hE (30, [3]) ax_m0)
  obtain ⟨-, -, -, -, F55⟩ : ay_ex hp 8 ∧ ay_ex hp 10 ∧ ay_ex hp 11 ∧ ay_ex hp 12 ∧ pz_x55 (ρ 0) (ρ 1) (ay_at hp 8 5) (ay_at hp 8 6) (ay_at hp 10 0) (ay_at hp 10 1) (ay_at hp 10 2) (ay_at hp 10 3) (ay_at hp 10 4) (ay_at hp 8 9) (ay_at hp 8 11) (ay_at hp 8 10) (ay_at hp 8 3) (ay_at hp 8 4) (ay_at hp 11) (ay_at hp 12) := (ax_XF_lt (x := 55) (Nat.le_of_ble_eq_true rfl)).mp (ax_gx hE (55, [3, 7]) ax_m1)
  rw [c_place] at F55
  refine ⟨(fun y hy => by cases hy), _, List.mem_cons_self, ρ, fun _ _ => rfl, ax_px hE rfl (fun y hy => ?_)⟩
  cases List.mem_singleton.mp hy
  refine (ax_XF_wr (x := 50) (Nat.le_of_ble_eq_true rfl)).mpr ?_
  show ay_ex (ax_upd hp 42 28 (ρ 3)) 8 ∧ ay_ex (ax_upd hp 42 28 (ρ 3)) 10 ∧ ay_ex (ax_upd hp 42 28 (ρ 3)) 11 ∧ ay_ex (ax_upd hp 42 28 (ρ 3)) 12 ∧ pz_x50 (ρ 0) (ρ 1) (ay_at (ax_upd hp 42 28 (ρ 3)) 8 5) (ay_at (ax_upd hp 42 28 (ρ 3)) 8 6) (ay_at (ax_upd hp 42 28 (ρ 3)) 8 7) (ay_at (ax_upd hp 42 28 (ρ 3)) 8 8) (ay_at (ax_upd hp 42 28 (ρ 3)) 10 0) (ay_at (ax_upd hp 42 28 (ρ 3)) 10 1) (ay_at (ax_upd hp 42 28 (ρ 3)) 10 2) (ay_at (ax_upd hp 42 28 (ρ 3)) 10 3) (ay_at (ax_upd hp 42 28 (ρ 3)) 10 4) (ay_at (ax_upd hp 42 28 (ρ 3)) 8 9) (ay_at (ax_upd hp 42 28 (ρ 3)) 8 11) (ay_at (ax_upd hp 42 28 (ρ 3)) 8 10) (ay_at (ax_upd hp 42 28 (ρ 3)) 8 3) (ay_at (ax_upd hp 42 28 (ρ 3)) 8 4) (ay_at (ax_upd hp 42 28 (ρ 3)) 11) (ay_at (ax_upd hp 42 28 (ρ 3)) 12)
  obtain ⟨o0, ho0⟩ := ay_some hT (q := 8) (g := 2) (n := 12) rfl rfl (j := 28 / 4) (Nat.le_of_ble_eq_true rfl)
  have u1 : ∀ q, q ≠ 8 → ay_at (ax_upd hp 42 28 (ρ 3)) q = ay_at hp q := fun q hq => funext (fun j => ay_upd_ne hT.1 hq j)
  have u2 : ∀ j, ay_at (ax_upd hp 42 28 (ρ 3)) 8 j = if j = 7 then some (ρ 3) else ay_at hp 8 j := fun j => ay_upd_eq hT.1 rfl ho0 j
  refine ⟨ay_ex_upd hT.1 (ax_cellT hT (q := 8) (g := 2) rfl), ay_ex_upd hT.1 (ax_cellT hT (q := 10) (g := 1) rfl), ay_ex_upd hT.1 (ax_cellT hT (q := 11) (g := 14) rfl), ay_ex_upd hT.1 (ax_cellT hT (q := 12) (g := 15) rfl), ?_⟩
  rw [u2 5, if_neg (show ¬ 5 = 7 from Nat.ne_of_beq_eq_false rfl), u2 6, if_neg (show ¬ 6 = 7 from Nat.ne_of_beq_eq_false rfl), u2 7, if_pos rfl, u2 8, if_neg (show ¬ 8 = 7 from Nat.ne_of_beq_eq_false rfl), u1 10 (Nat.ne_of_beq_eq_false rfl), u2 9, if_neg (show ¬ 9 = 7 from Nat.ne_of_beq_eq_false rfl), u2 11, if_neg (show ¬ 11 = 7 from Nat.ne_of_beq_eq_false rfl), u2 10, if_neg (show ¬ 10 = 7 from Nat.ne_of_beq_eq_false rfl), u2 3, if_neg (show ¬ 3 = 7 from Nat.ne_of_beq_eq_false rfl), u2 4, if_neg (show ¬ 4 = 7 from Nat.ne_of_beq_eq_false rfl), u1 11 (Nat.ne_of_beq_eq_false rfl), u1 12 (Nat.ne_of_beq_eq_false rfl)]
  rw [c_place]
  have hb : ρ 2 / 4 < pz_gN (ρ 0) → pz_b (pz_gt (ρ 0)) (ρ 2 / 4) = ρ 3 / 4 := fun hl => by
    have e := F30.2.2 (ρ 2 / 4) hl
    rw [c_tape] at e
    have e := Option.some.inj e
    omega
  have e1 : ρ 2 / 4 = pz_at (pz_gt (ρ 0)) (pz_gN (ρ 0)) (pz_p (pz_cf (pz_gt (ρ 0)) (pz_gN (ρ 0)) (ρ 1 / 4))) := F55.1
  have e2 : ay_ln (ay_at hp 8 5) = ρ 2 / 4 + 1 := F55.2.1
  have e3 : ρ 2 / 4 < pz_gN (ρ 0) := F55.2.2.1
  have hb1 := hb e3
  rw [e1] at hb1 e2 e3
  obtain ⟨k1, k2⟩ := pz_kd_sg e3 (by rw [hb1]; exact pz_lt_no (by omega)) (by rw [hb1]; exact pz_dg_no (by omega))
  rw [hb1] at k1
  have ec : ρ 3 / 4 = 43 := by omega
  rw [ec] at k1
  replace k1 : pz_kd (pz_gt (ρ 0)) (pz_gN (ρ 0)) (pz_p (pz_cf (pz_gt (ρ 0)) (pz_gN (ρ 0)) (ρ 1 / 4))) = 43 := k1
  exact ⟨by rw [e2, k2], e1, by show ρ 3 / 4 = _; rw [ec, k1], fun z => absurd (show 43 = 2 from ec.symm.trans z) (by decide), F55.2.2.2⟩

theorem axq_ad13_45 : ax_RO ax_wC ax_XC axu_ad13_45 := by
  intro ρ hp hE hT
  have j0 : ρ 0 % 4 = 1 := pz_gj hE 0 (Nat.le_of_ble_eq_true rfl) rfl
  have j1 : ρ 1 % 4 = 1 := pz_gj hE 1 (Nat.le_of_ble_eq_true rfl) rfl
  obtain ⟨i2a, i2b, i2c, i2d⟩ := pz_gi hE 2 2147483648 2147484448 (Nat.le_of_ble_eq_true rfl) rfl
  obtain ⟨i3a, i3b, i3c, i3d⟩ := pz_gi hE 3 2147483693 2147483693 (Nat.le_of_ble_eq_true rfl) rfl
  have c_place : ay_at hp 8 6 = some (ρ 2) := ay_gfj hE 42 24 11 8 6 ax_m2 (ax_vlq rfl rfl) (ax_vlj rfl rfl)
  have c_tape : ay_at hp 9 (ρ 2 / 4) = some (ρ 3) := ay_gf hE 46 11 15 9 ax_m3 (ax_vlq rfl rfl)
  obtain ⟨-, -, F30⟩ : ay_ex hp 8 ∧ ay_ex hp 9 ∧ pz_x30 (ρ 0) (ay_at hp 8 1) (ay_at hp 9) := (ax_XF_lt (x := 30) (Nat.le_of_ble_eq_true rfl)).mp (ax_gx hE (30, [3]) ax_m0)
  obtain ⟨-, -, -, -, F55⟩ : ay_ex hp 8 ∧ ay_ex hp 10 ∧ ay_ex hp 11 ∧ ay_ex hp 12 ∧ pz_x55 (ρ 0) (ρ 1) (ay_at hp 8 5) (ay_at hp 8 6) (ay_at hp 10 0) (ay_at hp 10 1) (ay_at hp 10 2) (ay_at hp 10 3) (ay_at hp 10 4) (ay_at hp 8 9) (ay_at hp 8 11) (ay_at hp 8 10) (ay_at hp 8 3) (ay_at hp 8 4) (ay_at hp 11) (ay_at hp 12) := (ax_XF_lt (x := 55) (Nat.le_of_ble_eq_true rfl)).mp (ax_gx hE (55, [3, 7]) ax_m1)
  rw [c_place] at F55
  refine ⟨(fun y hy => by cases hy), _, List.mem_cons_self, ρ, fun _ _ => rfl, ax_px hE rfl (fun y hy => ?_)⟩
  cases List.mem_singleton.mp hy
  refine (ax_XF_wr (x := 50) (Nat.le_of_ble_eq_true rfl)).mpr ?_
  show ay_ex (ax_upd hp 42 28 (ρ 3)) 8 ∧ ay_ex (ax_upd hp 42 28 (ρ 3)) 10 ∧ ay_ex (ax_upd hp 42 28 (ρ 3)) 11 ∧ ay_ex (ax_upd hp 42 28 (ρ 3)) 12 ∧ pz_x50 (ρ 0) (ρ 1) (ay_at (ax_upd hp 42 28 (ρ 3)) 8 5) (ay_at (ax_upd hp 42 28 (ρ 3)) 8 6) (ay_at (ax_upd hp 42 28 (ρ 3)) 8 7) (ay_at (ax_upd hp 42 28 (ρ 3)) 8 8) (ay_at (ax_upd hp 42 28 (ρ 3)) 10 0) (ay_at (ax_upd hp 42 28 (ρ 3)) 10 1) (ay_at (ax_upd hp 42 28 (ρ 3)) 10 2) (ay_at (ax_upd hp 42 28 (ρ 3)) 10 3) (ay_at (ax_upd hp 42 28 (ρ 3)) 10 4) (ay_at (ax_upd hp 42 28 (ρ 3)) 8 9) (ay_at (ax_upd hp 42 28 (ρ 3)) 8 11) (ay_at (ax_upd hp 42 28 (ρ 3)) 8 10) (ay_at (ax_upd hp 42 28 (ρ 3)) 8 3) (ay_at (ax_upd hp 42 28 (ρ 3)) 8 4) (ay_at (ax_upd hp 42 28 (ρ 3)) 11) (ay_at (ax_upd hp 42 28 (ρ 3)) 12)
  obtain ⟨o0, ho0⟩ := ay_some hT (q := 8) (g := 2) (n := 12) rfl rfl (j := 28 / 4) (Nat.le_of_ble_eq_true rfl)
  have u1 : ∀ q, q ≠ 8 → ay_at (ax_upd hp 42 28 (ρ 3)) q = ay_at hp q := fun q hq => funext (fun j => ay_upd_ne hT.1 hq j)
  have u2 : ∀ j, ay_at (ax_upd hp 42 28 (ρ 3)) 8 j = if j = 7 then some (ρ 3) else ay_at hp 8 j := fun j => ay_upd_eq hT.1 rfl ho0 j
  refine ⟨ay_ex_upd hT.1 (ax_cellT hT (q := 8) (g := 2) rfl), ay_ex_upd hT.1 (ax_cellT hT (q := 10) (g := 1) rfl), ay_ex_upd hT.1 (ax_cellT hT (q := 11) (g := 14) rfl), ay_ex_upd hT.1 (ax_cellT hT (q := 12) (g := 15) rfl), ?_⟩
  rw [u2 5, if_neg (show ¬ 5 = 7 from Nat.ne_of_beq_eq_false rfl), u2 6, if_neg (show ¬ 6 = 7 from Nat.ne_of_beq_eq_false rfl), u2 7, if_pos rfl, u2 8, if_neg (show ¬ 8 = 7 from Nat.ne_of_beq_eq_false rfl), u1 10 (Nat.ne_of_beq_eq_false rfl), u2 9, if_neg (show ¬ 9 = 7 from Nat.ne_of_beq_eq_false rfl), u2 11, if_neg (show ¬ 11 = 7 from Nat.ne_of_beq_eq_false rfl), u2 10, if_neg (show ¬ 10 = 7 from Nat.ne_of_beq_eq_false rfl), u2 3, if_neg (show ¬ 3 = 7 from Nat.ne_of_beq_eq_false rfl), u2 4, if_neg (show ¬ 4 = 7 from Nat.ne_of_beq_eq_false rfl), u1 11 (Nat.ne_of_beq_eq_false rfl), u1 12 (Nat.ne_of_beq_eq_false rfl)]
  rw [c_place]
  have hb : ρ 2 / 4 < pz_gN (ρ 0) → pz_b (pz_gt (ρ 0)) (ρ 2 / 4) = ρ 3 / 4 := fun hl => by
    have e := F30.2.2 (ρ 2 / 4) hl
    rw [c_tape] at e
    have e := Option.some.inj e
    omega
  have e1 : ρ 2 / 4 = pz_at (pz_gt (ρ 0)) (pz_gN (ρ 0)) (pz_p (pz_cf (pz_gt (ρ 0)) (pz_gN (ρ 0)) (ρ 1 / 4))) := F55.1
  have e2 : ay_ln (ay_at hp 8 5) = ρ 2 / 4 + 1 := F55.2.1
  have e3 : ρ 2 / 4 < pz_gN (ρ 0) := F55.2.2.1
  have hb1 := hb e3
  rw [e1] at hb1 e2 e3
  obtain ⟨k1, k2⟩ := pz_kd_sg e3 (by rw [hb1]; exact pz_lt_no (by omega)) (by rw [hb1]; exact pz_dg_no (by omega))
  rw [hb1] at k1
  have ec : ρ 3 / 4 = 45 := by omega
  rw [ec] at k1
  replace k1 : pz_kd (pz_gt (ρ 0)) (pz_gN (ρ 0)) (pz_p (pz_cf (pz_gt (ρ 0)) (pz_gN (ρ 0)) (ρ 1 / 4))) = 45 := k1
  exact ⟨by rw [e2, k2], e1, by show ρ 3 / 4 = _; rw [ec, k1], fun z => absurd (show 45 = 2 from ec.symm.trans z) (by decide), F55.2.2.2⟩

theorem axq_ad13_42 : ax_RO ax_wC ax_XC axu_ad13_42 := by
  intro ρ hp hE hT
  have j0 : ρ 0 % 4 = 1 := pz_gj hE 0 (Nat.le_of_ble_eq_true rfl) rfl
  have j1 : ρ 1 % 4 = 1 := pz_gj hE 1 (Nat.le_of_ble_eq_true rfl) rfl
  obtain ⟨i2a, i2b, i2c, i2d⟩ := pz_gi hE 2 2147483648 2147484448 (Nat.le_of_ble_eq_true rfl) rfl
  obtain ⟨i3a, i3b, i3c, i3d⟩ := pz_gi hE 3 2147483690 2147483690 (Nat.le_of_ble_eq_true rfl) rfl
  have c_place : ay_at hp 8 6 = some (ρ 2) := ay_gfj hE 42 24 11 8 6 ax_m2 (ax_vlq rfl rfl) (ax_vlj rfl rfl)
  have c_tape : ay_at hp 9 (ρ 2 / 4) = some (ρ 3) := ay_gf hE 46 11 15 9 ax_m3 (ax_vlq rfl rfl)
  obtain ⟨-, -, F30⟩ : ay_ex hp 8 ∧ ay_ex hp 9 ∧ pz_x30 (ρ 0) (ay_at hp 8 1) (ay_at hp 9) := (ax_XF_lt (x := 30) (Nat.le_of_ble_eq_true rfl)).mp (ax_gx hE (30, [3]) ax_m0)
  obtain ⟨-, -, -, -, F55⟩ : ay_ex hp 8 ∧ ay_ex hp 10 ∧ ay_ex hp 11 ∧ ay_ex hp 12 ∧ pz_x55 (ρ 0) (ρ 1) (ay_at hp 8 5) (ay_at hp 8 6) (ay_at hp 10 0) (ay_at hp 10 1) (ay_at hp 10 2) (ay_at hp 10 3) (ay_at hp 10 4) (ay_at hp 8 9) (ay_at hp 8 11) (ay_at hp 8 10) (ay_at hp 8 3) (ay_at hp 8 4) (ay_at hp 11) (ay_at hp 12) := (ax_XF_lt (x := 55) (Nat.le_of_ble_eq_true rfl)).mp (ax_gx hE (55, [3, 7]) ax_m1)
  rw [c_place] at F55
  refine ⟨(fun y hy => by cases hy), _, List.mem_cons_self, ρ, fun _ _ => rfl, ax_px hE rfl (fun y hy => ?_)⟩
  cases List.mem_singleton.mp hy
  refine (ax_XF_wr (x := 50) (Nat.le_of_ble_eq_true rfl)).mpr ?_
  show ay_ex (ax_upd hp 42 28 (ρ 3)) 8 ∧ ay_ex (ax_upd hp 42 28 (ρ 3)) 10 ∧ ay_ex (ax_upd hp 42 28 (ρ 3)) 11 ∧ ay_ex (ax_upd hp 42 28 (ρ 3)) 12 ∧ pz_x50 (ρ 0) (ρ 1) (ay_at (ax_upd hp 42 28 (ρ 3)) 8 5) (ay_at (ax_upd hp 42 28 (ρ 3)) 8 6) (ay_at (ax_upd hp 42 28 (ρ 3)) 8 7) (ay_at (ax_upd hp 42 28 (ρ 3)) 8 8) (ay_at (ax_upd hp 42 28 (ρ 3)) 10 0) (ay_at (ax_upd hp 42 28 (ρ 3)) 10 1) (ay_at (ax_upd hp 42 28 (ρ 3)) 10 2) (ay_at (ax_upd hp 42 28 (ρ 3)) 10 3) (ay_at (ax_upd hp 42 28 (ρ 3)) 10 4) (ay_at (ax_upd hp 42 28 (ρ 3)) 8 9) (ay_at (ax_upd hp 42 28 (ρ 3)) 8 11) (ay_at (ax_upd hp 42 28 (ρ 3)) 8 10) (ay_at (ax_upd hp 42 28 (ρ 3)) 8 3) (ay_at (ax_upd hp 42 28 (ρ 3)) 8 4) (ay_at (ax_upd hp 42 28 (ρ 3)) 11) (ay_at (ax_upd hp 42 28 (ρ 3)) 12)
  obtain ⟨o0, ho0⟩ := ay_some hT (q := 8) (g := 2) (n := 12) rfl rfl (j := 28 / 4) (Nat.le_of_ble_eq_true rfl)
  have u1 : ∀ q, q ≠ 8 → ay_at (ax_upd hp 42 28 (ρ 3)) q = ay_at hp q := fun q hq => funext (fun j => ay_upd_ne hT.1 hq j)
  have u2 : ∀ j, ay_at (ax_upd hp 42 28 (ρ 3)) 8 j = if j = 7 then some (ρ 3) else ay_at hp 8 j := fun j => ay_upd_eq hT.1 rfl ho0 j
  refine ⟨ay_ex_upd hT.1 (ax_cellT hT (q := 8) (g := 2) rfl), ay_ex_upd hT.1 (ax_cellT hT (q := 10) (g := 1) rfl), ay_ex_upd hT.1 (ax_cellT hT (q := 11) (g := 14) rfl), ay_ex_upd hT.1 (ax_cellT hT (q := 12) (g := 15) rfl), ?_⟩
  rw [u2 5, if_neg (show ¬ 5 = 7 from Nat.ne_of_beq_eq_false rfl), u2 6, if_neg (show ¬ 6 = 7 from Nat.ne_of_beq_eq_false rfl), u2 7, if_pos rfl, u2 8, if_neg (show ¬ 8 = 7 from Nat.ne_of_beq_eq_false rfl), u1 10 (Nat.ne_of_beq_eq_false rfl), u2 9, if_neg (show ¬ 9 = 7 from Nat.ne_of_beq_eq_false rfl), u2 11, if_neg (show ¬ 11 = 7 from Nat.ne_of_beq_eq_false rfl), u2 10, if_neg (show ¬ 10 = 7 from Nat.ne_of_beq_eq_false rfl), u2 3, if_neg (show ¬ 3 = 7 from Nat.ne_of_beq_eq_false rfl), u2 4, if_neg (show ¬ 4 = 7 from Nat.ne_of_beq_eq_false rfl), u1 11 (Nat.ne_of_beq_eq_false rfl), u1 12 (Nat.ne_of_beq_eq_false rfl)]
  rw [c_place]
  have hb : ρ 2 / 4 < pz_gN (ρ 0) → pz_b (pz_gt (ρ 0)) (ρ 2 / 4) = ρ 3 / 4 := fun hl => by
    have e := F30.2.2 (ρ 2 / 4) hl
    rw [c_tape] at e
    have e := Option.some.inj e
    omega
  have e1 : ρ 2 / 4 = pz_at (pz_gt (ρ 0)) (pz_gN (ρ 0)) (pz_p (pz_cf (pz_gt (ρ 0)) (pz_gN (ρ 0)) (ρ 1 / 4))) := F55.1
  have e2 : ay_ln (ay_at hp 8 5) = ρ 2 / 4 + 1 := F55.2.1
  have e3 : ρ 2 / 4 < pz_gN (ρ 0) := F55.2.2.1
  have hb1 := hb e3
  rw [e1] at hb1 e2 e3
  obtain ⟨k1, k2⟩ := pz_kd_sg e3 (by rw [hb1]; exact pz_lt_no (by omega)) (by rw [hb1]; exact pz_dg_no (by omega))
  rw [hb1] at k1
  have ec : ρ 3 / 4 = 42 := by omega
  rw [ec] at k1
  replace k1 : pz_kd (pz_gt (ρ 0)) (pz_gN (ρ 0)) (pz_p (pz_cf (pz_gt (ρ 0)) (pz_gN (ρ 0)) (ρ 1 / 4))) = 42 := k1
  exact ⟨by rw [e2, k2], e1, by show ρ 3 / 4 = _; rw [ec, k1], fun z => absurd (show 42 = 2 from ec.symm.trans z) (by decide), F55.2.2.2⟩

theorem axq_ad13_47 : ax_RO ax_wC ax_XC axu_ad13_47 := by
  intro ρ hp hE hT
  have j0 : ρ 0 % 4 = 1 := pz_gj hE 0 (Nat.le_of_ble_eq_true rfl) rfl
  have j1 : ρ 1 % 4 = 1 := pz_gj hE 1 (Nat.le_of_ble_eq_true rfl) rfl
  obtain ⟨i2a, i2b, i2c, i2d⟩ := pz_gi hE 2 2147483648 2147484448 (Nat.le_of_ble_eq_true rfl) rfl
  obtain ⟨i3a, i3b, i3c, i3d⟩ := pz_gi hE 3 2147483695 2147483695 (Nat.le_of_ble_eq_true rfl) rfl
  have c_place : ay_at hp 8 6 = some (ρ 2) := ay_gfj hE 42 24 11 8 6 ax_m2 (ax_vlq rfl rfl) (ax_vlj rfl rfl)
  have c_tape : ay_at hp 9 (ρ 2 / 4) = some (ρ 3) := ay_gf hE 46 11 15 9 ax_m3 (ax_vlq rfl rfl)
  obtain ⟨-, -, F30⟩ : ay_ex hp 8 ∧ ay_ex hp 9 ∧ pz_x30 (ρ 0) (ay_at hp 8 1) (ay_at hp 9) := (ax_XF_lt (x := 30) (Nat.le_of_ble_eq_true rfl)).mp (ax_gx hE (30, [3]) ax_m0)
  obtain ⟨-, -, -, -, F55⟩ : ay_ex hp 8 ∧ ay_ex hp 10 ∧ ay_ex hp 11 ∧ ay_ex hp 12 ∧ pz_x55 (ρ 0) (ρ 1) (ay_at hp 8 5) (ay_at hp 8 6) (ay_at hp 10 0) (ay_at hp 10 1) (ay_at hp 10 2) (ay_at hp 10 3) (ay_at hp 10 4) (ay_at hp 8 9) (ay_at hp 8 11) (ay_at hp 8 10) (ay_at hp 8 3) (ay_at hp 8 4) (ay_at hp 11) (ay_at hp 12) := (ax_XF_lt (x := 55) (Nat.le_of_ble_eq_true rfl)).mp (ax_gx hE (55, [3, 7]) ax_m1)
  rw [c_place] at F55
  refine ⟨(fun y hy => by cases hy), _, List.mem_cons_self, ρ, fun _ _ => rfl, ax_px hE rfl (fun y hy => ?_)⟩
  cases List.mem_singleton.mp hy
  refine (ax_XF_wr (x := 50) (Nat.le_of_ble_eq_true rfl)).mpr ?_
  show ay_ex (ax_upd hp 42 28 (ρ 3)) 8 ∧ ay_ex (ax_upd hp 42 28 (ρ 3)) 10 ∧ ay_ex (ax_upd hp 42 28 (ρ 3)) 11 ∧ ay_ex (ax_upd hp 42 28 (ρ 3)) 12 ∧ pz_x50 (ρ 0) (ρ 1) (ay_at (ax_upd hp 42 28 (ρ 3)) 8 5) (ay_at (ax_upd hp 42 28 (ρ 3)) 8 6) (ay_at (ax_upd hp 42 28 (ρ 3)) 8 7) (ay_at (ax_upd hp 42 28 (ρ 3)) 8 8) (ay_at (ax_upd hp 42 28 (ρ 3)) 10 0) (ay_at (ax_upd hp 42 28 (ρ 3)) 10 1) (ay_at (ax_upd hp 42 28 (ρ 3)) 10 2) (ay_at (ax_upd hp 42 28 (ρ 3)) 10 3) (ay_at (ax_upd hp 42 28 (ρ 3)) 10 4) (ay_at (ax_upd hp 42 28 (ρ 3)) 8 9) (ay_at (ax_upd hp 42 28 (ρ 3)) 8 11) (ay_at (ax_upd hp 42 28 (ρ 3)) 8 10) (ay_at (ax_upd hp 42 28 (ρ 3)) 8 3) (ay_at (ax_upd hp 42 28 (ρ 3)) 8 4) (ay_at (ax_upd hp 42 28 (ρ 3)) 11) (ay_at (ax_upd hp 42 28 (ρ 3)) 12)
  obtain ⟨o0, ho0⟩ := ay_some hT (q := 8) (g := 2) (n := 12) rfl rfl (j := 28 / 4) (Nat.le_of_ble_eq_true rfl)
  have u1 : ∀ q, q ≠ 8 → ay_at (ax_upd hp 42 28 (ρ 3)) q = ay_at hp q := fun q hq => funext (fun j => ay_upd_ne hT.1 hq j)
  have u2 : ∀ j, ay_at (ax_upd hp 42 28 (ρ 3)) 8 j = if j = 7 then some (ρ 3) else ay_at hp 8 j := fun j => ay_upd_eq hT.1 rfl ho0 j
  refine ⟨ay_ex_upd hT.1 (ax_cellT hT (q := 8) (g := 2) rfl), ay_ex_upd hT.1 (ax_cellT hT (q := 10) (g := 1) rfl), ay_ex_upd hT.1 (ax_cellT hT (q := 11) (g := 14) rfl), ay_ex_upd hT.1 (ax_cellT hT (q := 12) (g := 15) rfl), ?_⟩
  rw [u2 5, if_neg (show ¬ 5 = 7 from Nat.ne_of_beq_eq_false rfl), u2 6, if_neg (show ¬ 6 = 7 from Nat.ne_of_beq_eq_false rfl), u2 7, if_pos rfl, u2 8, if_neg (show ¬ 8 = 7 from Nat.ne_of_beq_eq_false rfl), u1 10 (Nat.ne_of_beq_eq_false rfl), u2 9, if_neg (show ¬ 9 = 7 from Nat.ne_of_beq_eq_false rfl), u2 11, if_neg (show ¬ 11 = 7 from Nat.ne_of_beq_eq_false rfl), u2 10, if_neg (show ¬ 10 = 7 from Nat.ne_of_beq_eq_false rfl), u2 3, if_neg (show ¬ 3 = 7 from Nat.ne_of_beq_eq_false rfl), u2 4, if_neg (show ¬ 4 = 7 from Nat.ne_of_beq_eq_false rfl), u1 11 (Nat.ne_of_beq_eq_false rfl), u1 12 (Nat.ne_of_beq_eq_false rfl)]
  rw [c_place]
  have hb : ρ 2 / 4 < pz_gN (ρ 0) → pz_b (pz_gt (ρ 0)) (ρ 2 / 4) = ρ 3 / 4 := fun hl => by
    have e := F30.2.2 (ρ 2 / 4) hl
    rw [c_tape] at e
    have e := Option.some.inj e
    omega
  have e1 : ρ 2 / 4 = pz_at (pz_gt (ρ 0)) (pz_gN (ρ 0)) (pz_p (pz_cf (pz_gt (ρ 0)) (pz_gN (ρ 0)) (ρ 1 / 4))) := F55.1
  have e2 : ay_ln (ay_at hp 8 5) = ρ 2 / 4 + 1 := F55.2.1
  have e3 : ρ 2 / 4 < pz_gN (ρ 0) := F55.2.2.1
  have hb1 := hb e3
  rw [e1] at hb1 e2 e3
  obtain ⟨k1, k2⟩ := pz_kd_sg e3 (by rw [hb1]; exact pz_lt_no (by omega)) (by rw [hb1]; exact pz_dg_no (by omega))
  rw [hb1] at k1
  have ec : ρ 3 / 4 = 47 := by omega
  rw [ec] at k1
  replace k1 : pz_kd (pz_gt (ρ 0)) (pz_gN (ρ 0)) (pz_p (pz_cf (pz_gt (ρ 0)) (pz_gN (ρ 0)) (ρ 1 / 4))) = 47 := k1
  exact ⟨by rw [e2, k2], e1, by show ρ 3 / 4 = _; rw [ec, k1], fun z => absurd (show 47 = 2 from ec.symm.trans z) (by decide), F55.2.2.2⟩

theorem axq_ad13_37 : ax_RO ax_wC ax_XC axu_ad13_37 := by
  intro ρ hp hE hT
  have j0 : ρ 0 % 4 = 1 := pz_gj hE 0 (Nat.le_of_ble_eq_true rfl) rfl
  have j1 : ρ 1 % 4 = 1 := pz_gj hE 1 (Nat.le_of_ble_eq_true rfl) rfl
  obtain ⟨i2a, i2b, i2c, i2d⟩ := pz_gi hE 2 2147483648 2147484448 (Nat.le_of_ble_eq_true rfl) rfl
  obtain ⟨i3a, i3b, i3c, i3d⟩ := pz_gi hE 3 2147483685 2147483685 (Nat.le_of_ble_eq_true rfl) rfl
  have c_place : ay_at hp 8 6 = some (ρ 2) := ay_gfj hE 42 24 11 8 6 ax_m2 (ax_vlq rfl rfl) (ax_vlj rfl rfl)
  have c_tape : ay_at hp 9 (ρ 2 / 4) = some (ρ 3) := ay_gf hE 46 11 15 9 ax_m3 (ax_vlq rfl rfl)
  obtain ⟨-, -, F30⟩ : ay_ex hp 8 ∧ ay_ex hp 9 ∧ pz_x30 (ρ 0) (ay_at hp 8 1) (ay_at hp 9) := (ax_XF_lt (x := 30) (Nat.le_of_ble_eq_true rfl)).mp (ax_gx hE (30, [3]) ax_m0)
  obtain ⟨-, -, -, -, F55⟩ : ay_ex hp 8 ∧ ay_ex hp 10 ∧ ay_ex hp 11 ∧ ay_ex hp 12 ∧ pz_x55 (ρ 0) (ρ 1) (ay_at hp 8 5) (ay_at hp 8 6) (ay_at hp 10 0) (ay_at hp 10 1) (ay_at hp 10 2) (ay_at hp 10 3) (ay_at hp 10 4) (ay_at hp 8 9) (ay_at hp 8 11) (ay_at hp 8 10) (ay_at hp 8 3) (ay_at hp 8 4) (ay_at hp 11) (ay_at hp 12) := (ax_XF_lt (x := 55) (Nat.le_of_ble_eq_true rfl)).mp (ax_gx hE (55, [3, 7]) ax_m1)
  rw [c_place] at F55
  refine ⟨(fun y hy => by cases hy), _, List.mem_cons_self, ρ, fun _ _ => rfl, ax_px hE rfl (fun y hy => ?_)⟩
  cases List.mem_singleton.mp hy
  refine (ax_XF_wr (x := 50) (Nat.le_of_ble_eq_true rfl)).mpr ?_
  show ay_ex (ax_upd hp 42 28 (ρ 3)) 8 ∧ ay_ex (ax_upd hp 42 28 (ρ 3)) 10 ∧ ay_ex (ax_upd hp 42 28 (ρ 3)) 11 ∧ ay_ex (ax_upd hp 42 28 (ρ 3)) 12 ∧ pz_x50 (ρ 0) (ρ 1) (ay_at (ax_upd hp 42 28 (ρ 3)) 8 5) (ay_at (ax_upd hp 42 28 (ρ 3)) 8 6) (ay_at (ax_upd hp 42 28 (ρ 3)) 8 7) (ay_at (ax_upd hp 42 28 (ρ 3)) 8 8) (ay_at (ax_upd hp 42 28 (ρ 3)) 10 0) (ay_at (ax_upd hp 42 28 (ρ 3)) 10 1) (ay_at (ax_upd hp 42 28 (ρ 3)) 10 2) (ay_at (ax_upd hp 42 28 (ρ 3)) 10 3) (ay_at (ax_upd hp 42 28 (ρ 3)) 10 4) (ay_at (ax_upd hp 42 28 (ρ 3)) 8 9) (ay_at (ax_upd hp 42 28 (ρ 3)) 8 11) (ay_at (ax_upd hp 42 28 (ρ 3)) 8 10) (ay_at (ax_upd hp 42 28 (ρ 3)) 8 3) (ay_at (ax_upd hp 42 28 (ρ 3)) 8 4) (ay_at (ax_upd hp 42 28 (ρ 3)) 11) (ay_at (ax_upd hp 42 28 (ρ 3)) 12)
  obtain ⟨o0, ho0⟩ := ay_some hT (q := 8) (g := 2) (n := 12) rfl rfl (j := 28 / 4) (Nat.le_of_ble_eq_true rfl)
  have u1 : ∀ q, q ≠ 8 → ay_at (ax_upd hp 42 28 (ρ 3)) q = ay_at hp q := fun q hq => funext (fun j => ay_upd_ne hT.1 hq j)
  have u2 : ∀ j, ay_at (ax_upd hp 42 28 (ρ 3)) 8 j = if j = 7 then some (ρ 3) else ay_at hp 8 j := fun j => ay_upd_eq hT.1 rfl ho0 j
  refine ⟨ay_ex_upd hT.1 (ax_cellT hT (q := 8) (g := 2) rfl), ay_ex_upd hT.1 (ax_cellT hT (q := 10) (g := 1) rfl), ay_ex_upd hT.1 (ax_cellT hT (q := 11) (g := 14) rfl), ay_ex_upd hT.1 (ax_cellT hT (q := 12) (g := 15) rfl), ?_⟩
  rw [u2 5, if_neg (show ¬ 5 = 7 from Nat.ne_of_beq_eq_false rfl), u2 6, if_neg (show ¬ 6 = 7 from Nat.ne_of_beq_eq_false rfl), u2 7, if_pos rfl, u2 8, if_neg (show ¬ 8 = 7 from Nat.ne_of_beq_eq_false rfl), u1 10 (Nat.ne_of_beq_eq_false rfl), u2 9, if_neg (show ¬ 9 = 7 from Nat.ne_of_beq_eq_false rfl), u2 11, if_neg (show ¬ 11 = 7 from Nat.ne_of_beq_eq_false rfl), u2 10, if_neg (show ¬ 10 = 7 from Nat.ne_of_beq_eq_false rfl), u2 3, if_neg (show ¬ 3 = 7 from Nat.ne_of_beq_eq_false rfl), u2 4, if_neg (show ¬ 4 = 7 from Nat.ne_of_beq_eq_false rfl), u1 11 (Nat.ne_of_beq_eq_false rfl), u1 12 (Nat.ne_of_beq_eq_false rfl)]
  rw [c_place]
  have hb : ρ 2 / 4 < pz_gN (ρ 0) → pz_b (pz_gt (ρ 0)) (ρ 2 / 4) = ρ 3 / 4 := fun hl => by
    have e := F30.2.2 (ρ 2 / 4) hl
    rw [c_tape] at e
    have e := Option.some.inj e
    omega
  have e1 : ρ 2 / 4 = pz_at (pz_gt (ρ 0)) (pz_gN (ρ 0)) (pz_p (pz_cf (pz_gt (ρ 0)) (pz_gN (ρ 0)) (ρ 1 / 4))) := F55.1
  have e2 : ay_ln (ay_at hp 8 5) = ρ 2 / 4 + 1 := F55.2.1
  have e3 : ρ 2 / 4 < pz_gN (ρ 0) := F55.2.2.1
  have hb1 := hb e3
  rw [e1] at hb1 e2 e3
  obtain ⟨k1, k2⟩ := pz_kd_sg e3 (by rw [hb1]; exact pz_lt_no (by omega)) (by rw [hb1]; exact pz_dg_no (by omega))
  rw [hb1] at k1
  have ec : ρ 3 / 4 = 37 := by omega
  rw [ec] at k1
  replace k1 : pz_kd (pz_gt (ρ 0)) (pz_gN (ρ 0)) (pz_p (pz_cf (pz_gt (ρ 0)) (pz_gN (ρ 0)) (ρ 1 / 4))) = 37 := k1
  exact ⟨by rw [e2, k2], e1, by show ρ 3 / 4 = _; rw [ec, k1], fun z => absurd (show 37 = 2 from ec.symm.trans z) (by decide), F55.2.2.2⟩

theorem axq_ad14_a : ax_RO ax_wC ax_XC axu_ad14_a := by
  intro ρ hp hE hT
  have j0 : ρ 0 % 4 = 1 := pz_gj hE 0 (Nat.le_of_ble_eq_true rfl) rfl
  have j1 : ρ 1 % 4 = 1 := pz_gj hE 1 (Nat.le_of_ble_eq_true rfl) rfl
  obtain ⟨i2a, i2b, i2c, i2d⟩ := pz_gi hE 2 2147483648 2147484448 (Nat.le_of_ble_eq_true rfl) rfl
  obtain ⟨i3a, i3b, i3c, i3d⟩ := pz_gi hE 3 2147483520 2147483684 (Nat.le_of_ble_eq_true rfl) rfl
  have c_place : ay_at hp 8 6 = some (ρ 2) := ay_gfj hE 42 24 11 8 6 ax_m2 (ax_vlq rfl rfl) (ax_vlj rfl rfl)
  have c_tape : ay_at hp 9 (ρ 2 / 4) = some (ρ 3) := ay_gf hE 46 11 15 9 ax_m3 (ax_vlq rfl rfl)
  obtain ⟨-, -, F30⟩ : ay_ex hp 8 ∧ ay_ex hp 9 ∧ pz_x30 (ρ 0) (ay_at hp 8 1) (ay_at hp 9) := (ax_XF_lt (x := 30) (Nat.le_of_ble_eq_true rfl)).mp (ax_gx hE (30, [3]) ax_m0)
  obtain ⟨-, -, -, -, F55⟩ : ay_ex hp 8 ∧ ay_ex hp 10 ∧ ay_ex hp 11 ∧ ay_ex hp 12 ∧ pz_x55 (ρ 0) (ρ 1) (ay_at hp 8 5) (ay_at hp 8 6) (ay_at hp 10 0) (ay_at hp 10 1) (ay_at hp 10 2) (ay_at hp 10 3) (ay_at hp 10 4) (ay_at hp 8 9) (ay_at hp 8 11) (ay_at hp 8 10) (ay_at hp 8 3) (ay_at hp 8 4) (ay_at hp 11) (ay_at hp 12) := (ax_XF_lt (x := 55) (Nat.le_of_ble_eq_true rfl)).mp (ax_gx hE (55, [3, 7]) ax_m1)
  rw [c_place] at F55
  refine ⟨(fun y hy => by cases hy), _, List.mem_cons_self, ρ, fun _ _ => rfl, ax_px hE rfl (fun y hy => ?_)⟩
  cases List.mem_singleton.mp hy
  refine (ax_XF_wr (x := 50) (Nat.le_of_ble_eq_true rfl)).mpr ?_
  show ay_ex (ax_upd hp 42 28 (12)) 8 ∧ ay_ex (ax_upd hp 42 28 (12)) 10 ∧ ay_ex (ax_upd hp 42 28 (12)) 11 ∧ ay_ex (ax_upd hp 42 28 (12)) 12 ∧ pz_x50 (ρ 0) (ρ 1) (ay_at (ax_upd hp 42 28 (12)) 8 5) (ay_at (ax_upd hp 42 28 (12)) 8 6) (ay_at (ax_upd hp 42 28 (12)) 8 7) (ay_at (ax_upd hp 42 28 (12)) 8 8) (ay_at (ax_upd hp 42 28 (12)) 10 0) (ay_at (ax_upd hp 42 28 (12)) 10 1) (ay_at (ax_upd hp 42 28 (12)) 10 2) (ay_at (ax_upd hp 42 28 (12)) 10 3) (ay_at (ax_upd hp 42 28 (12)) 10 4) (ay_at (ax_upd hp 42 28 (12)) 8 9) (ay_at (ax_upd hp 42 28 (12)) 8 11) (ay_at (ax_upd hp 42 28 (12)) 8 10) (ay_at (ax_upd hp 42 28 (12)) 8 3) (ay_at (ax_upd hp 42 28 (12)) 8 4) (ay_at (ax_upd hp 42 28 (12)) 11) (ay_at (ax_upd hp 42 28 (12)) 12)
  obtain ⟨o0, ho0⟩ := ay_some hT (q := 8) (g := 2) (n := 12) rfl rfl (j := 28 / 4) (Nat.le_of_ble_eq_true rfl)
  have u1 : ∀ q, q ≠ 8 → ay_at (ax_upd hp 42 28 (12)) q = ay_at hp q := fun q hq => funext (fun j => ay_upd_ne hT.1 hq j)
  have u2 : ∀ j, ay_at (ax_upd hp 42 28 (12)) 8 j = if j = 7 then some (12) else ay_at hp 8 j := fun j => ay_upd_eq hT.1 rfl ho0 j
  refine ⟨ay_ex_upd hT.1 (ax_cellT hT (q := 8) (g := 2) rfl), ay_ex_upd hT.1 (ax_cellT hT (q := 10) (g := 1) rfl), ay_ex_upd hT.1 (ax_cellT hT (q := 11) (g := 14) rfl), ay_ex_upd hT.1 (ax_cellT hT (q := 12) (g := 15) rfl), ?_⟩
  rw [u2 5, if_neg (show ¬ 5 = 7 from Nat.ne_of_beq_eq_false rfl), u2 6, if_neg (show ¬ 6 = 7 from Nat.ne_of_beq_eq_false rfl), u2 7, if_pos rfl, u2 8, if_neg (show ¬ 8 = 7 from Nat.ne_of_beq_eq_false rfl), u1 10 (Nat.ne_of_beq_eq_false rfl), u2 9, if_neg (show ¬ 9 = 7 from Nat.ne_of_beq_eq_false rfl), u2 11, if_neg (show ¬ 11 = 7 from Nat.ne_of_beq_eq_false rfl), u2 10, if_neg (show ¬ 10 = 7 from Nat.ne_of_beq_eq_false rfl), u2 3, if_neg (show ¬ 3 = 7 from Nat.ne_of_beq_eq_false rfl), u2 4, if_neg (show ¬ 4 = 7 from Nat.ne_of_beq_eq_false rfl), u1 11 (Nat.ne_of_beq_eq_false rfl), u1 12 (Nat.ne_of_beq_eq_false rfl)]
  rw [c_place]
  have hb : ρ 2 / 4 < pz_gN (ρ 0) → pz_b (pz_gt (ρ 0)) (ρ 2 / 4) = ρ 3 / 4 := fun hl => by
    have e := F30.2.2 (ρ 2 / 4) hl
    rw [c_tape] at e
    have e := Option.some.inj e
    omega
  have e1 : ρ 2 / 4 = pz_at (pz_gt (ρ 0)) (pz_gN (ρ 0)) (pz_p (pz_cf (pz_gt (ρ 0)) (pz_gN (ρ 0)) (ρ 1 / 4))) := F55.1
  have e2 : ay_ln (ay_at hp 8 5) = ρ 2 / 4 + 1 := F55.2.1
  have e3 : ρ 2 / 4 < pz_gN (ρ 0) := F55.2.2.1
  have hb1 := hb e3
  rw [e1] at hb1 e2 e3
  obtain ⟨k1, k2⟩ := pz_kd_sg e3 (by rw [hb1]; exact pz_lt_no (by omega)) (by rw [hb1]; exact pz_dg_no (by omega))
  rw [hb1] at k1
  rw [pz_sg_no (by omega) (by omega) (by omega) (by omega) (by omega) (by omega) (by omega) (by omega)] at k1
  replace k1 : pz_kd (pz_gt (ρ 0)) (pz_gN (ρ 0)) (pz_p (pz_cf (pz_gt (ρ 0)) (pz_gN (ρ 0)) (ρ 1 / 4))) = 3 := k1
  exact ⟨by rw [e2, k2], e1, by show 3 = _; rw [k1], fun z => absurd (show 3 = 2 from z) (by decide), F55.2.2.2⟩

theorem axq_ad14_b : ax_RO ax_wC ax_XC axu_ad14_b := by
  intro ρ hp hE hT
  have j0 : ρ 0 % 4 = 1 := pz_gj hE 0 (Nat.le_of_ble_eq_true rfl) rfl
  have j1 : ρ 1 % 4 = 1 := pz_gj hE 1 (Nat.le_of_ble_eq_true rfl) rfl
  obtain ⟨i2a, i2b, i2c, i2d⟩ := pz_gi hE 2 2147483648 2147484448 (Nat.le_of_ble_eq_true rfl) rfl
  obtain ⟨i3a, i3b, i3c, i3d⟩ := pz_gi hE 3 2147483686 2147483687 (Nat.le_of_ble_eq_true rfl) rfl
  have c_place : ay_at hp 8 6 = some (ρ 2) := ay_gfj hE 42 24 11 8 6 ax_m2 (ax_vlq rfl rfl) (ax_vlj rfl rfl)
  have c_tape : ay_at hp 9 (ρ 2 / 4) = some (ρ 3) := ay_gf hE 46 11 15 9 ax_m3 (ax_vlq rfl rfl)
  obtain ⟨-, -, F30⟩ : ay_ex hp 8 ∧ ay_ex hp 9 ∧ pz_x30 (ρ 0) (ay_at hp 8 1) (ay_at hp 9) := (ax_XF_lt (x := 30) (Nat.le_of_ble_eq_true rfl)).mp (ax_gx hE (30, [3]) ax_m0)
  obtain ⟨-, -, -, -, F55⟩ : ay_ex hp 8 ∧ ay_ex hp 10 ∧ ay_ex hp 11 ∧ ay_ex hp 12 ∧ pz_x55 (ρ 0) (ρ 1) (ay_at hp 8 5) (ay_at hp 8 6) (ay_at hp 10 0) (ay_at hp 10 1) (ay_at hp 10 2) (ay_at hp 10 3) (ay_at hp 10 4) (ay_at hp 8 9) (ay_at hp 8 11) (ay_at hp 8 10) (ay_at hp 8 3) (ay_at hp 8 4) (ay_at hp 11) (ay_at hp 12) := (ax_XF_lt (x := 55) (Nat.le_of_ble_eq_true rfl)).mp (ax_gx hE (55, [3, 7]) ax_m1)
  rw [c_place] at F55
  refine ⟨(fun y hy => by cases hy), _, List.mem_cons_self, ρ, fun _ _ => rfl, ax_px hE rfl (fun y hy => ?_)⟩
  cases List.mem_singleton.mp hy
  refine (ax_XF_wr (x := 50) (Nat.le_of_ble_eq_true rfl)).mpr ?_
  show ay_ex (ax_upd hp 42 28 (12)) 8 ∧ ay_ex (ax_upd hp 42 28 (12)) 10 ∧ ay_ex (ax_upd hp 42 28 (12)) 11 ∧ ay_ex (ax_upd hp 42 28 (12)) 12 ∧ pz_x50 (ρ 0) (ρ 1) (ay_at (ax_upd hp 42 28 (12)) 8 5) (ay_at (ax_upd hp 42 28 (12)) 8 6) (ay_at (ax_upd hp 42 28 (12)) 8 7) (ay_at (ax_upd hp 42 28 (12)) 8 8) (ay_at (ax_upd hp 42 28 (12)) 10 0) (ay_at (ax_upd hp 42 28 (12)) 10 1) (ay_at (ax_upd hp 42 28 (12)) 10 2) (ay_at (ax_upd hp 42 28 (12)) 10 3) (ay_at (ax_upd hp 42 28 (12)) 10 4) (ay_at (ax_upd hp 42 28 (12)) 8 9) (ay_at (ax_upd hp 42 28 (12)) 8 11) (ay_at (ax_upd hp 42 28 (12)) 8 10) (ay_at (ax_upd hp 42 28 (12)) 8 3) (ay_at (ax_upd hp 42 28 (12)) 8 4) (ay_at (ax_upd hp 42 28 (12)) 11) (ay_at (ax_upd hp 42 28 (12)) 12)
  obtain ⟨o0, ho0⟩ := ay_some hT (q := 8) (g := 2) (n := 12) rfl rfl (j := 28 / 4) (Nat.le_of_ble_eq_true rfl)
  have u1 : ∀ q, q ≠ 8 → ay_at (ax_upd hp 42 28 (12)) q = ay_at hp q := fun q hq => funext (fun j => ay_upd_ne hT.1 hq j)
  have u2 : ∀ j, ay_at (ax_upd hp 42 28 (12)) 8 j = if j = 7 then some (12) else ay_at hp 8 j := fun j => ay_upd_eq hT.1 rfl ho0 j
  refine ⟨ay_ex_upd hT.1 (ax_cellT hT (q := 8) (g := 2) rfl), ay_ex_upd hT.1 (ax_cellT hT (q := 10) (g := 1) rfl), ay_ex_upd hT.1 (ax_cellT hT (q := 11) (g := 14) rfl), ay_ex_upd hT.1 (ax_cellT hT (q := 12) (g := 15) rfl), ?_⟩
  rw [u2 5, if_neg (show ¬ 5 = 7 from Nat.ne_of_beq_eq_false rfl), u2 6, if_neg (show ¬ 6 = 7 from Nat.ne_of_beq_eq_false rfl), u2 7, if_pos rfl, u2 8, if_neg (show ¬ 8 = 7 from Nat.ne_of_beq_eq_false rfl), u1 10 (Nat.ne_of_beq_eq_false rfl), u2 9, if_neg (show ¬ 9 = 7 from Nat.ne_of_beq_eq_false rfl), u2 11, if_neg (show ¬ 11 = 7 from Nat.ne_of_beq_eq_false rfl), u2 10, if_neg (show ¬ 10 = 7 from Nat.ne_of_beq_eq_false rfl), u2 3, if_neg (show ¬ 3 = 7 from Nat.ne_of_beq_eq_false rfl), u2 4, if_neg (show ¬ 4 = 7 from Nat.ne_of_beq_eq_false rfl), u1 11 (Nat.ne_of_beq_eq_false rfl), u1 12 (Nat.ne_of_beq_eq_false rfl)]
  rw [c_place]
  have hb : ρ 2 / 4 < pz_gN (ρ 0) → pz_b (pz_gt (ρ 0)) (ρ 2 / 4) = ρ 3 / 4 := fun hl => by
    have e := F30.2.2 (ρ 2 / 4) hl
    rw [c_tape] at e
    have e := Option.some.inj e
    omega
  have e1 : ρ 2 / 4 = pz_at (pz_gt (ρ 0)) (pz_gN (ρ 0)) (pz_p (pz_cf (pz_gt (ρ 0)) (pz_gN (ρ 0)) (ρ 1 / 4))) := F55.1
  have e2 : ay_ln (ay_at hp 8 5) = ρ 2 / 4 + 1 := F55.2.1
  have e3 : ρ 2 / 4 < pz_gN (ρ 0) := F55.2.2.1
  have hb1 := hb e3
  rw [e1] at hb1 e2 e3
  obtain ⟨k1, k2⟩ := pz_kd_sg e3 (by rw [hb1]; exact pz_lt_no (by omega)) (by rw [hb1]; exact pz_dg_no (by omega))
  rw [hb1] at k1
  rw [pz_sg_no (by omega) (by omega) (by omega) (by omega) (by omega) (by omega) (by omega) (by omega)] at k1
  replace k1 : pz_kd (pz_gt (ρ 0)) (pz_gN (ρ 0)) (pz_p (pz_cf (pz_gt (ρ 0)) (pz_gN (ρ 0)) (ρ 1 / 4))) = 3 := k1
  exact ⟨by rw [e2, k2], e1, by show 3 = _; rw [k1], fun z => absurd (show 3 = 2 from z) (by decide), F55.2.2.2⟩

theorem axq_ad14_c : ax_RO ax_wC ax_XC axu_ad14_c := by
  intro ρ hp hE hT
  have j0 : ρ 0 % 4 = 1 := pz_gj hE 0 (Nat.le_of_ble_eq_true rfl) rfl
  have j1 : ρ 1 % 4 = 1 := pz_gj hE 1 (Nat.le_of_ble_eq_true rfl) rfl
  obtain ⟨i2a, i2b, i2c, i2d⟩ := pz_gi hE 2 2147483648 2147484448 (Nat.le_of_ble_eq_true rfl) rfl
  obtain ⟨i3a, i3b, i3c, i3d⟩ := pz_gi hE 3 2147483692 2147483692 (Nat.le_of_ble_eq_true rfl) rfl
  have c_place : ay_at hp 8 6 = some (ρ 2) := ay_gfj hE 42 24 11 8 6 ax_m2 (ax_vlq rfl rfl) (ax_vlj rfl rfl)
  have c_tape : ay_at hp 9 (ρ 2 / 4) = some (ρ 3) := ay_gf hE 46 11 15 9 ax_m3 (ax_vlq rfl rfl)
  obtain ⟨-, -, F30⟩ : ay_ex hp 8 ∧ ay_ex hp 9 ∧ pz_x30 (ρ 0) (ay_at hp 8 1) (ay_at hp 9) := (ax_XF_lt (x := 30) (Nat.le_of_ble_eq_true rfl)).mp (ax_gx hE (30, [3]) ax_m0)
  obtain ⟨-, -, -, -, F55⟩ : ay_ex hp 8 ∧ ay_ex hp 10 ∧ ay_ex hp 11 ∧ ay_ex hp 12 ∧ pz_x55 (ρ 0) (ρ 1) (ay_at hp 8 5) (ay_at hp 8 6) (ay_at hp 10 0) (ay_at hp 10 1) (ay_at hp 10 2) (ay_at hp 10 3) (ay_at hp 10 4) (ay_at hp 8 9) (ay_at hp 8 11) (ay_at hp 8 10) (ay_at hp 8 3) (ay_at hp 8 4) (ay_at hp 11) (ay_at hp 12) := (ax_XF_lt (x := 55) (Nat.le_of_ble_eq_true rfl)).mp (ax_gx hE (55, [3, 7]) ax_m1)
  rw [c_place] at F55
  refine ⟨(fun y hy => by cases hy), _, List.mem_cons_self, ρ, fun _ _ => rfl, ax_px hE rfl (fun y hy => ?_)⟩
  cases List.mem_singleton.mp hy
  refine (ax_XF_wr (x := 50) (Nat.le_of_ble_eq_true rfl)).mpr ?_
  show ay_ex (ax_upd hp 42 28 (12)) 8 ∧ ay_ex (ax_upd hp 42 28 (12)) 10 ∧ ay_ex (ax_upd hp 42 28 (12)) 11 ∧ ay_ex (ax_upd hp 42 28 (12)) 12 ∧ pz_x50 (ρ 0) (ρ 1) (ay_at (ax_upd hp 42 28 (12)) 8 5) (ay_at (ax_upd hp 42 28 (12)) 8 6) (ay_at (ax_upd hp 42 28 (12)) 8 7) (ay_at (ax_upd hp 42 28 (12)) 8 8) (ay_at (ax_upd hp 42 28 (12)) 10 0) (ay_at (ax_upd hp 42 28 (12)) 10 1) (ay_at (ax_upd hp 42 28 (12)) 10 2) (ay_at (ax_upd hp 42 28 (12)) 10 3) (ay_at (ax_upd hp 42 28 (12)) 10 4) (ay_at (ax_upd hp 42 28 (12)) 8 9) (ay_at (ax_upd hp 42 28 (12)) 8 11) (ay_at (ax_upd hp 42 28 (12)) 8 10) (ay_at (ax_upd hp 42 28 (12)) 8 3) (ay_at (ax_upd hp 42 28 (12)) 8 4) (ay_at (ax_upd hp 42 28 (12)) 11) (ay_at (ax_upd hp 42 28 (12)) 12)
  obtain ⟨o0, ho0⟩ := ay_some hT (q := 8) (g := 2) (n := 12) rfl rfl (j := 28 / 4) (Nat.le_of_ble_eq_true rfl)
  have u1 : ∀ q, q ≠ 8 → ay_at (ax_upd hp 42 28 (12)) q = ay_at hp q := fun q hq => funext (fun j => ay_upd_ne hT.1 hq j)
  have u2 : ∀ j, ay_at (ax_upd hp 42 28 (12)) 8 j = if j = 7 then some (12) else ay_at hp 8 j := fun j => ay_upd_eq hT.1 rfl ho0 j
  refine ⟨ay_ex_upd hT.1 (ax_cellT hT (q := 8) (g := 2) rfl), ay_ex_upd hT.1 (ax_cellT hT (q := 10) (g := 1) rfl), ay_ex_upd hT.1 (ax_cellT hT (q := 11) (g := 14) rfl), ay_ex_upd hT.1 (ax_cellT hT (q := 12) (g := 15) rfl), ?_⟩
  rw [u2 5, if_neg (show ¬ 5 = 7 from Nat.ne_of_beq_eq_false rfl), u2 6, if_neg (show ¬ 6 = 7 from Nat.ne_of_beq_eq_false rfl), u2 7, if_pos rfl, u2 8, if_neg (show ¬ 8 = 7 from Nat.ne_of_beq_eq_false rfl), u1 10 (Nat.ne_of_beq_eq_false rfl), u2 9, if_neg (show ¬ 9 = 7 from Nat.ne_of_beq_eq_false rfl), u2 11, if_neg (show ¬ 11 = 7 from Nat.ne_of_beq_eq_false rfl), u2 10, if_neg (show ¬ 10 = 7 from Nat.ne_of_beq_eq_false rfl), u2 3, if_neg (show ¬ 3 = 7 from Nat.ne_of_beq_eq_false rfl), u2 4, if_neg (show ¬ 4 = 7 from Nat.ne_of_beq_eq_false rfl), u1 11 (Nat.ne_of_beq_eq_false rfl), u1 12 (Nat.ne_of_beq_eq_false rfl)]
  rw [c_place]
  have hb : ρ 2 / 4 < pz_gN (ρ 0) → pz_b (pz_gt (ρ 0)) (ρ 2 / 4) = ρ 3 / 4 := fun hl => by
    have e := F30.2.2 (ρ 2 / 4) hl
    rw [c_tape] at e
    have e := Option.some.inj e
    omega
  have e1 : ρ 2 / 4 = pz_at (pz_gt (ρ 0)) (pz_gN (ρ 0)) (pz_p (pz_cf (pz_gt (ρ 0)) (pz_gN (ρ 0)) (ρ 1 / 4))) := F55.1
  have e2 : ay_ln (ay_at hp 8 5) = ρ 2 / 4 + 1 := F55.2.1
  have e3 : ρ 2 / 4 < pz_gN (ρ 0) := F55.2.2.1
  have hb1 := hb e3
  rw [e1] at hb1 e2 e3
  obtain ⟨k1, k2⟩ := pz_kd_sg e3 (by rw [hb1]; exact pz_lt_no (by omega)) (by rw [hb1]; exact pz_dg_no (by omega))
  rw [hb1] at k1
  rw [pz_sg_no (by omega) (by omega) (by omega) (by omega) (by omega) (by omega) (by omega) (by omega)] at k1
  replace k1 : pz_kd (pz_gt (ρ 0)) (pz_gN (ρ 0)) (pz_p (pz_cf (pz_gt (ρ 0)) (pz_gN (ρ 0)) (ρ 1 / 4))) = 3 := k1
  exact ⟨by rw [e2, k2], e1, by show 3 = _; rw [k1], fun z => absurd (show 3 = 2 from z) (by decide), F55.2.2.2⟩

theorem axq_ad14_d : ax_RO ax_wC ax_XC axu_ad14_d := by
  intro ρ hp hE hT
  have j0 : ρ 0 % 4 = 1 := pz_gj hE 0 (Nat.le_of_ble_eq_true rfl) rfl
  have j1 : ρ 1 % 4 = 1 := pz_gj hE 1 (Nat.le_of_ble_eq_true rfl) rfl
  obtain ⟨i2a, i2b, i2c, i2d⟩ := pz_gi hE 2 2147483648 2147484448 (Nat.le_of_ble_eq_true rfl) rfl
  obtain ⟨i3a, i3b, i3c, i3d⟩ := pz_gi hE 3 2147483694 2147483694 (Nat.le_of_ble_eq_true rfl) rfl
  have c_place : ay_at hp 8 6 = some (ρ 2) := ay_gfj hE 42 24 11 8 6 ax_m2 (ax_vlq rfl rfl) (ax_vlj rfl rfl)
  have c_tape : ay_at hp 9 (ρ 2 / 4) = some (ρ 3) := ay_gf hE 46 11 15 9 ax_m3 (ax_vlq rfl rfl)
  obtain ⟨-, -, F30⟩ : ay_ex hp 8 ∧ ay_ex hp 9 ∧ pz_x30 (ρ 0) (ay_at hp 8 1) (ay_at hp 9) := (ax_XF_lt (x := 30) (Nat.le_of_ble_eq_true rfl)).mp (ax_gx hE (30, [3]) ax_m0)
  obtain ⟨-, -, -, -, F55⟩ : ay_ex hp 8 ∧ ay_ex hp 10 ∧ ay_ex hp 11 ∧ ay_ex hp 12 ∧ pz_x55 (ρ 0) (ρ 1) (ay_at hp 8 5) (ay_at hp 8 6) (ay_at hp 10 0) (ay_at hp 10 1) (ay_at hp 10 2) (ay_at hp 10 3) (ay_at hp 10 4) (ay_at hp 8 9) (ay_at hp 8 11) (ay_at hp 8 10) (ay_at hp 8 3) (ay_at hp 8 4) (ay_at hp 11) (ay_at hp 12) := (ax_XF_lt (x := 55) (Nat.le_of_ble_eq_true rfl)).mp (ax_gx hE (55, [3, 7]) ax_m1)
  rw [c_place] at F55
  refine ⟨(fun y hy => by cases hy), _, List.mem_cons_self, ρ, fun _ _ => rfl, ax_px hE rfl (fun y hy => ?_)⟩
  cases List.mem_singleton.mp hy
  refine (ax_XF_wr (x := 50) (Nat.le_of_ble_eq_true rfl)).mpr ?_
  show ay_ex (ax_upd hp 42 28 (12)) 8 ∧ ay_ex (ax_upd hp 42 28 (12)) 10 ∧ ay_ex (ax_upd hp 42 28 (12)) 11 ∧ ay_ex (ax_upd hp 42 28 (12)) 12 ∧ pz_x50 (ρ 0) (ρ 1) (ay_at (ax_upd hp 42 28 (12)) 8 5) (ay_at (ax_upd hp 42 28 (12)) 8 6) (ay_at (ax_upd hp 42 28 (12)) 8 7) (ay_at (ax_upd hp 42 28 (12)) 8 8) (ay_at (ax_upd hp 42 28 (12)) 10 0) (ay_at (ax_upd hp 42 28 (12)) 10 1) (ay_at (ax_upd hp 42 28 (12)) 10 2) (ay_at (ax_upd hp 42 28 (12)) 10 3) (ay_at (ax_upd hp 42 28 (12)) 10 4) (ay_at (ax_upd hp 42 28 (12)) 8 9) (ay_at (ax_upd hp 42 28 (12)) 8 11) (ay_at (ax_upd hp 42 28 (12)) 8 10) (ay_at (ax_upd hp 42 28 (12)) 8 3) (ay_at (ax_upd hp 42 28 (12)) 8 4) (ay_at (ax_upd hp 42 28 (12)) 11) (ay_at (ax_upd hp 42 28 (12)) 12)
  obtain ⟨o0, ho0⟩ := ay_some hT (q := 8) (g := 2) (n := 12) rfl rfl (j := 28 / 4) (Nat.le_of_ble_eq_true rfl)
  have u1 : ∀ q, q ≠ 8 → ay_at (ax_upd hp 42 28 (12)) q = ay_at hp q := fun q hq => funext (fun j => ay_upd_ne hT.1 hq j)
  have u2 : ∀ j, ay_at (ax_upd hp 42 28 (12)) 8 j = if j = 7 then some (12) else ay_at hp 8 j := fun j => ay_upd_eq hT.1 rfl ho0 j
  refine ⟨ay_ex_upd hT.1 (ax_cellT hT (q := 8) (g := 2) rfl), ay_ex_upd hT.1 (ax_cellT hT (q := 10) (g := 1) rfl), ay_ex_upd hT.1 (ax_cellT hT (q := 11) (g := 14) rfl), ay_ex_upd hT.1 (ax_cellT hT (q := 12) (g := 15) rfl), ?_⟩
  rw [u2 5, if_neg (show ¬ 5 = 7 from Nat.ne_of_beq_eq_false rfl), u2 6, if_neg (show ¬ 6 = 7 from Nat.ne_of_beq_eq_false rfl), u2 7, if_pos rfl, u2 8, if_neg (show ¬ 8 = 7 from Nat.ne_of_beq_eq_false rfl), u1 10 (Nat.ne_of_beq_eq_false rfl), u2 9, if_neg (show ¬ 9 = 7 from Nat.ne_of_beq_eq_false rfl), u2 11, if_neg (show ¬ 11 = 7 from Nat.ne_of_beq_eq_false rfl), u2 10, if_neg (show ¬ 10 = 7 from Nat.ne_of_beq_eq_false rfl), u2 3, if_neg (show ¬ 3 = 7 from Nat.ne_of_beq_eq_false rfl), u2 4, if_neg (show ¬ 4 = 7 from Nat.ne_of_beq_eq_false rfl), u1 11 (Nat.ne_of_beq_eq_false rfl), u1 12 (Nat.ne_of_beq_eq_false rfl)]
  rw [c_place]
  have hb : ρ 2 / 4 < pz_gN (ρ 0) → pz_b (pz_gt (ρ 0)) (ρ 2 / 4) = ρ 3 / 4 := fun hl => by
    have e := F30.2.2 (ρ 2 / 4) hl
    rw [c_tape] at e
    have e := Option.some.inj e
    omega
  have e1 : ρ 2 / 4 = pz_at (pz_gt (ρ 0)) (pz_gN (ρ 0)) (pz_p (pz_cf (pz_gt (ρ 0)) (pz_gN (ρ 0)) (ρ 1 / 4))) := F55.1
  have e2 : ay_ln (ay_at hp 8 5) = ρ 2 / 4 + 1 := F55.2.1
  have e3 : ρ 2 / 4 < pz_gN (ρ 0) := F55.2.2.1
  have hb1 := hb e3
  rw [e1] at hb1 e2 e3
  obtain ⟨k1, k2⟩ := pz_kd_sg e3 (by rw [hb1]; exact pz_lt_no (by omega)) (by rw [hb1]; exact pz_dg_no (by omega))
  rw [hb1] at k1
  rw [pz_sg_no (by omega) (by omega) (by omega) (by omega) (by omega) (by omega) (by omega) (by omega)] at k1
  replace k1 : pz_kd (pz_gt (ρ 0)) (pz_gN (ρ 0)) (pz_p (pz_cf (pz_gt (ρ 0)) (pz_gN (ρ 0)) (ρ 1 / 4))) = 3 := k1
  exact ⟨by rw [e2, k2], e1, by show 3 = _; rw [k1], fun z => absurd (show 3 = 2 from z) (by decide), F55.2.2.2⟩

theorem axq_ad14_e : ax_RO ax_wC ax_XC axu_ad14_e := by
  intro ρ hp hE hT
  have j0 : ρ 0 % 4 = 1 := pz_gj hE 0 (Nat.le_of_ble_eq_true rfl) rfl
  have j1 : ρ 1 % 4 = 1 := pz_gj hE 1 (Nat.le_of_ble_eq_true rfl) rfl
  obtain ⟨i2a, i2b, i2c, i2d⟩ := pz_gi hE 2 2147483648 2147484448 (Nat.le_of_ble_eq_true rfl) rfl
  obtain ⟨i3a, i3b, i3c, i3d⟩ := pz_gi hE 3 2147483706 2147483706 (Nat.le_of_ble_eq_true rfl) rfl
  have c_place : ay_at hp 8 6 = some (ρ 2) := ay_gfj hE 42 24 11 8 6 ax_m2 (ax_vlq rfl rfl) (ax_vlj rfl rfl)
  have c_tape : ay_at hp 9 (ρ 2 / 4) = some (ρ 3) := ay_gf hE 46 11 15 9 ax_m3 (ax_vlq rfl rfl)
  obtain ⟨-, -, F30⟩ : ay_ex hp 8 ∧ ay_ex hp 9 ∧ pz_x30 (ρ 0) (ay_at hp 8 1) (ay_at hp 9) := (ax_XF_lt (x := 30) (Nat.le_of_ble_eq_true rfl)).mp (ax_gx hE (30, [3]) ax_m0)
  obtain ⟨-, -, -, -, F55⟩ : ay_ex hp 8 ∧ ay_ex hp 10 ∧ ay_ex hp 11 ∧ ay_ex hp 12 ∧ pz_x55 (ρ 0) (ρ 1) (ay_at hp 8 5) (ay_at hp 8 6) (ay_at hp 10 0) (ay_at hp 10 1) (ay_at hp 10 2) (ay_at hp 10 3) (ay_at hp 10 4) (ay_at hp 8 9) (ay_at hp 8 11) (ay_at hp 8 10) (ay_at hp 8 3) (ay_at hp 8 4) (ay_at hp 11) (ay_at hp 12) := (ax_XF_lt (x := 55) (Nat.le_of_ble_eq_true rfl)).mp (ax_gx hE (55, [3, 7]) ax_m1)
  rw [c_place] at F55
  refine ⟨(fun y hy => by cases hy), _, List.mem_cons_self, ρ, fun _ _ => rfl, ax_px hE rfl (fun y hy => ?_)⟩
  cases List.mem_singleton.mp hy
  refine (ax_XF_wr (x := 50) (Nat.le_of_ble_eq_true rfl)).mpr ?_
  show ay_ex (ax_upd hp 42 28 (12)) 8 ∧ ay_ex (ax_upd hp 42 28 (12)) 10 ∧ ay_ex (ax_upd hp 42 28 (12)) 11 ∧ ay_ex (ax_upd hp 42 28 (12)) 12 ∧ pz_x50 (ρ 0) (ρ 1) (ay_at (ax_upd hp 42 28 (12)) 8 5) (ay_at (ax_upd hp 42 28 (12)) 8 6) (ay_at (ax_upd hp 42 28 (12)) 8 7) (ay_at (ax_upd hp 42 28 (12)) 8 8) (ay_at (ax_upd hp 42 28 (12)) 10 0) (ay_at (ax_upd hp 42 28 (12)) 10 1) (ay_at (ax_upd hp 42 28 (12)) 10 2) (ay_at (ax_upd hp 42 28 (12)) 10 3) (ay_at (ax_upd hp 42 28 (12)) 10 4) (ay_at (ax_upd hp 42 28 (12)) 8 9) (ay_at (ax_upd hp 42 28 (12)) 8 11) (ay_at (ax_upd hp 42 28 (12)) 8 10) (ay_at (ax_upd hp 42 28 (12)) 8 3) (ay_at (ax_upd hp 42 28 (12)) 8 4) (ay_at (ax_upd hp 42 28 (12)) 11) (ay_at (ax_upd hp 42 28 (12)) 12)
  obtain ⟨o0, ho0⟩ := ay_some hT (q := 8) (g := 2) (n := 12) rfl rfl (j := 28 / 4) (Nat.le_of_ble_eq_true rfl)
  have u1 : ∀ q, q ≠ 8 → ay_at (ax_upd hp 42 28 (12)) q = ay_at hp q := fun q hq => funext (fun j => ay_upd_ne hT.1 hq j)
  have u2 : ∀ j, ay_at (ax_upd hp 42 28 (12)) 8 j = if j = 7 then some (12) else ay_at hp 8 j := fun j => ay_upd_eq hT.1 rfl ho0 j
  refine ⟨ay_ex_upd hT.1 (ax_cellT hT (q := 8) (g := 2) rfl), ay_ex_upd hT.1 (ax_cellT hT (q := 10) (g := 1) rfl), ay_ex_upd hT.1 (ax_cellT hT (q := 11) (g := 14) rfl), ay_ex_upd hT.1 (ax_cellT hT (q := 12) (g := 15) rfl), ?_⟩
  rw [u2 5, if_neg (show ¬ 5 = 7 from Nat.ne_of_beq_eq_false rfl), u2 6, if_neg (show ¬ 6 = 7 from Nat.ne_of_beq_eq_false rfl), u2 7, if_pos rfl, u2 8, if_neg (show ¬ 8 = 7 from Nat.ne_of_beq_eq_false rfl), u1 10 (Nat.ne_of_beq_eq_false rfl), u2 9, if_neg (show ¬ 9 = 7 from Nat.ne_of_beq_eq_false rfl), u2 11, if_neg (show ¬ 11 = 7 from Nat.ne_of_beq_eq_false rfl), u2 10, if_neg (show ¬ 10 = 7 from Nat.ne_of_beq_eq_false rfl), u2 3, if_neg (show ¬ 3 = 7 from Nat.ne_of_beq_eq_false rfl), u2 4, if_neg (show ¬ 4 = 7 from Nat.ne_of_beq_eq_false rfl), u1 11 (Nat.ne_of_beq_eq_false rfl), u1 12 (Nat.ne_of_beq_eq_false rfl)]
  rw [c_place]
  have hb : ρ 2 / 4 < pz_gN (ρ 0) → pz_b (pz_gt (ρ 0)) (ρ 2 / 4) = ρ 3 / 4 := fun hl => by
    have e := F30.2.2 (ρ 2 / 4) hl
    rw [c_tape] at e
    have e := Option.some.inj e
    omega
  have e1 : ρ 2 / 4 = pz_at (pz_gt (ρ 0)) (pz_gN (ρ 0)) (pz_p (pz_cf (pz_gt (ρ 0)) (pz_gN (ρ 0)) (ρ 1 / 4))) := F55.1
  have e2 : ay_ln (ay_at hp 8 5) = ρ 2 / 4 + 1 := F55.2.1
  have e3 : ρ 2 / 4 < pz_gN (ρ 0) := F55.2.2.1
  have hb1 := hb e3
  rw [e1] at hb1 e2 e3
  obtain ⟨k1, k2⟩ := pz_kd_sg e3 (by rw [hb1]; exact pz_lt_no (by omega)) (by rw [hb1]; exact pz_dg_no (by omega))
  rw [hb1] at k1
  rw [pz_sg_no (by omega) (by omega) (by omega) (by omega) (by omega) (by omega) (by omega) (by omega)] at k1
  replace k1 : pz_kd (pz_gt (ρ 0)) (pz_gN (ρ 0)) (pz_p (pz_cf (pz_gt (ρ 0)) (pz_gN (ρ 0)) (ρ 1 / 4))) = 3 := k1
  exact ⟨by rw [e2, k2], e1, by show 3 = _; rw [k1], fun z => absurd (show 3 = 2 from z) (by decide), F55.2.2.2⟩

theorem axq_ad14_f : ax_RO ax_wC ax_XC axu_ad14_f := by
  intro ρ hp hE hT
  have j0 : ρ 0 % 4 = 1 := pz_gj hE 0 (Nat.le_of_ble_eq_true rfl) rfl
  have j1 : ρ 1 % 4 = 1 := pz_gj hE 1 (Nat.le_of_ble_eq_true rfl) rfl
  obtain ⟨i2a, i2b, i2c, i2d⟩ := pz_gi hE 2 2147483648 2147484448 (Nat.le_of_ble_eq_true rfl) rfl
  obtain ⟨i3a, i3b, i3c, i3d⟩ := pz_gi hE 3 2147483708 2147483744 (Nat.le_of_ble_eq_true rfl) rfl
  have c_place : ay_at hp 8 6 = some (ρ 2) := ay_gfj hE 42 24 11 8 6 ax_m2 (ax_vlq rfl rfl) (ax_vlj rfl rfl)
  have c_tape : ay_at hp 9 (ρ 2 / 4) = some (ρ 3) := ay_gf hE 46 11 15 9 ax_m3 (ax_vlq rfl rfl)
  obtain ⟨-, -, F30⟩ : ay_ex hp 8 ∧ ay_ex hp 9 ∧ pz_x30 (ρ 0) (ay_at hp 8 1) (ay_at hp 9) := (ax_XF_lt (x := 30) (Nat.le_of_ble_eq_true rfl)).mp (ax_gx hE (30, [3]) ax_m0)
  obtain ⟨-, -, -, -, F55⟩ : ay_ex hp 8 ∧ ay_ex hp 10 ∧ ay_ex hp 11 ∧ ay_ex hp 12 ∧ pz_x55 (ρ 0) (ρ 1) (ay_at hp 8 5) (ay_at hp 8 6) (ay_at hp 10 0) (ay_at hp 10 1) (ay_at hp 10 2) (ay_at hp 10 3) (ay_at hp 10 4) (ay_at hp 8 9) (ay_at hp 8 11) (ay_at hp 8 10) (ay_at hp 8 3) (ay_at hp 8 4) (ay_at hp 11) (ay_at hp 12) := (ax_XF_lt (x := 55) (Nat.le_of_ble_eq_true rfl)).mp (ax_gx hE (55, [3, 7]) ax_m1)
  rw [c_place] at F55
  refine ⟨(fun y hy => by cases hy), _, List.mem_cons_self, ρ, fun _ _ => rfl, ax_px hE rfl (fun y hy => ?_)⟩
  cases List.mem_singleton.mp hy
  refine (ax_XF_wr (x := 50) (Nat.le_of_ble_eq_true rfl)).mpr ?_
  show ay_ex (ax_upd hp 42 28 (12)) 8 ∧ ay_ex (ax_upd hp 42 28 (12)) 10 ∧ ay_ex (ax_upd hp 42 28 (12)) 11 ∧ ay_ex (ax_upd hp 42 28 (12)) 12 ∧ pz_x50 (ρ 0) (ρ 1) (ay_at (ax_upd hp 42 28 (12)) 8 5) (ay_at (ax_upd hp 42 28 (12)) 8 6) (ay_at (ax_upd hp 42 28 (12)) 8 7) (ay_at (ax_upd hp 42 28 (12)) 8 8) (ay_at (ax_upd hp 42 28 (12)) 10 0) (ay_at (ax_upd hp 42 28 (12)) 10 1) (ay_at (ax_upd hp 42 28 (12)) 10 2) (ay_at (ax_upd hp 42 28 (12)) 10 3) (ay_at (ax_upd hp 42 28 (12)) 10 4) (ay_at (ax_upd hp 42 28 (12)) 8 9) (ay_at (ax_upd hp 42 28 (12)) 8 11) (ay_at (ax_upd hp 42 28 (12)) 8 10) (ay_at (ax_upd hp 42 28 (12)) 8 3) (ay_at (ax_upd hp 42 28 (12)) 8 4) (ay_at (ax_upd hp 42 28 (12)) 11) (ay_at (ax_upd hp 42 28 (12)) 12)
  obtain ⟨o0, ho0⟩ := ay_some hT (q := 8) (g := 2) (n := 12) rfl rfl (j := 28 / 4) (Nat.le_of_ble_eq_true rfl)
  have u1 : ∀ q, q ≠ 8 → ay_at (ax_upd hp 42 28 (12)) q = ay_at hp q := fun q hq => funext (fun j => ay_upd_ne hT.1 hq j)
  have u2 : ∀ j, ay_at (ax_upd hp 42 28 (12)) 8 j = if j = 7 then some (12) else ay_at hp 8 j := fun j => ay_upd_eq hT.1 rfl ho0 j
  refine ⟨ay_ex_upd hT.1 (ax_cellT hT (q := 8) (g := 2) rfl), ay_ex_upd hT.1 (ax_cellT hT (q := 10) (g := 1) rfl), ay_ex_upd hT.1 (ax_cellT hT (q := 11) (g := 14) rfl), ay_ex_upd hT.1 (ax_cellT hT (q := 12) (g := 15) rfl), ?_⟩
  rw [u2 5, if_neg (show ¬ 5 = 7 from Nat.ne_of_beq_eq_false rfl), u2 6, if_neg (show ¬ 6 = 7 from Nat.ne_of_beq_eq_false rfl), u2 7, if_pos rfl, u2 8, if_neg (show ¬ 8 = 7 from Nat.ne_of_beq_eq_false rfl), u1 10 (Nat.ne_of_beq_eq_false rfl), u2 9, if_neg (show ¬ 9 = 7 from Nat.ne_of_beq_eq_false rfl), u2 11, if_neg (show ¬ 11 = 7 from Nat.ne_of_beq_eq_false rfl), u2 10, if_neg (show ¬ 10 = 7 from Nat.ne_of_beq_eq_false rfl), u2 3, if_neg (show ¬ 3 = 7 from Nat.ne_of_beq_eq_false rfl), u2 4, if_neg (show ¬ 4 = 7 from Nat.ne_of_beq_eq_false rfl), u1 11 (Nat.ne_of_beq_eq_false rfl), u1 12 (Nat.ne_of_beq_eq_false rfl)]
  rw [c_place]
  have hb : ρ 2 / 4 < pz_gN (ρ 0) → pz_b (pz_gt (ρ 0)) (ρ 2 / 4) = ρ 3 / 4 := fun hl => by
    have e := F30.2.2 (ρ 2 / 4) hl
    rw [c_tape] at e
    have e := Option.some.inj e
    omega
  have e1 : ρ 2 / 4 = pz_at (pz_gt (ρ 0)) (pz_gN (ρ 0)) (pz_p (pz_cf (pz_gt (ρ 0)) (pz_gN (ρ 0)) (ρ 1 / 4))) := F55.1
  have e2 : ay_ln (ay_at hp 8 5) = ρ 2 / 4 + 1 := F55.2.1
  have e3 : ρ 2 / 4 < pz_gN (ρ 0) := F55.2.2.1
  have hb1 := hb e3
  rw [e1] at hb1 e2 e3
  obtain ⟨k1, k2⟩ := pz_kd_sg e3 (by rw [hb1]; exact pz_lt_no (by omega)) (by rw [hb1]; exact pz_dg_no (by omega))
  rw [hb1] at k1
  rw [pz_sg_no (by omega) (by omega) (by omega) (by omega) (by omega) (by omega) (by omega) (by omega)] at k1
  replace k1 : pz_kd (pz_gt (ρ 0)) (pz_gN (ρ 0)) (pz_p (pz_cf (pz_gt (ρ 0)) (pz_gN (ρ 0)) (ρ 1 / 4))) = 3 := k1
  exact ⟨by rw [e2, k2], e1, by show 3 = _; rw [k1], fun z => absurd (show 3 = 2 from z) (by decide), F55.2.2.2⟩

theorem axq_ad14_g : ax_RO ax_wC ax_XC axu_ad14_g := by
  intro ρ hp hE hT
  have j0 : ρ 0 % 4 = 1 := pz_gj hE 0 (Nat.le_of_ble_eq_true rfl) rfl
  have j1 : ρ 1 % 4 = 1 := pz_gj hE 1 (Nat.le_of_ble_eq_true rfl) rfl
  obtain ⟨i2a, i2b, i2c, i2d⟩ := pz_gi hE 2 2147483648 2147484448 (Nat.le_of_ble_eq_true rfl) rfl
  obtain ⟨i3a, i3b, i3c, i3d⟩ := pz_gi hE 3 2147483771 2147483775 (Nat.le_of_ble_eq_true rfl) rfl
  have c_place : ay_at hp 8 6 = some (ρ 2) := ay_gfj hE 42 24 11 8 6 ax_m2 (ax_vlq rfl rfl) (ax_vlj rfl rfl)
  have c_tape : ay_at hp 9 (ρ 2 / 4) = some (ρ 3) := ay_gf hE 46 11 15 9 ax_m3 (ax_vlq rfl rfl)
  obtain ⟨-, -, F30⟩ : ay_ex hp 8 ∧ ay_ex hp 9 ∧ pz_x30 (ρ 0) (ay_at hp 8 1) (ay_at hp 9) := (ax_XF_lt (x := 30) (Nat.le_of_ble_eq_true rfl)).mp (ax_gx hE (30, [3]) ax_m0)
  obtain ⟨-, -, -, -, F55⟩ : ay_ex hp 8 ∧ ay_ex hp 10 ∧ ay_ex hp 11 ∧ ay_ex hp 12 ∧ pz_x55 (ρ 0) (ρ 1) (ay_at hp 8 5) (ay_at hp 8 6) (ay_at hp 10 0) (ay_at hp 10 1) (ay_at hp 10 2) (ay_at hp 10 3) (ay_at hp 10 4) (ay_at hp 8 9) (ay_at hp 8 11) (ay_at hp 8 10) (ay_at hp 8 3) (ay_at hp 8 4) (ay_at hp 11) (ay_at hp 12) := (ax_XF_lt (x := 55) (Nat.le_of_ble_eq_true rfl)).mp (ax_gx hE (55, [3, 7]) ax_m1)
  rw [c_place] at F55
  refine ⟨(fun y hy => by cases hy), _, List.mem_cons_self, ρ, fun _ _ => rfl, ax_px hE rfl (fun y hy => ?_)⟩
  cases List.mem_singleton.mp hy
  refine (ax_XF_wr (x := 50) (Nat.le_of_ble_eq_true rfl)).mpr ?_
  show ay_ex (ax_upd hp 42 28 (12)) 8 ∧ ay_ex (ax_upd hp 42 28 (12)) 10 ∧ ay_ex (ax_upd hp 42 28 (12)) 11 ∧ ay_ex (ax_upd hp 42 28 (12)) 12 ∧ pz_x50 (ρ 0) (ρ 1) (ay_at (ax_upd hp 42 28 (12)) 8 5) (ay_at (ax_upd hp 42 28 (12)) 8 6) (ay_at (ax_upd hp 42 28 (12)) 8 7) (ay_at (ax_upd hp 42 28 (12)) 8 8) (ay_at (ax_upd hp 42 28 (12)) 10 0) (ay_at (ax_upd hp 42 28 (12)) 10 1) (ay_at (ax_upd hp 42 28 (12)) 10 2) (ay_at (ax_upd hp 42 28 (12)) 10 3) (ay_at (ax_upd hp 42 28 (12)) 10 4) (ay_at (ax_upd hp 42 28 (12)) 8 9) (ay_at (ax_upd hp 42 28 (12)) 8 11) (ay_at (ax_upd hp 42 28 (12)) 8 10) (ay_at (ax_upd hp 42 28 (12)) 8 3) (ay_at (ax_upd hp 42 28 (12)) 8 4) (ay_at (ax_upd hp 42 28 (12)) 11) (ay_at (ax_upd hp 42 28 (12)) 12)
  obtain ⟨o0, ho0⟩ := ay_some hT (q := 8) (g := 2) (n := 12) rfl rfl (j := 28 / 4) (Nat.le_of_ble_eq_true rfl)
  have u1 : ∀ q, q ≠ 8 → ay_at (ax_upd hp 42 28 (12)) q = ay_at hp q := fun q hq => funext (fun j => ay_upd_ne hT.1 hq j)
  have u2 : ∀ j, ay_at (ax_upd hp 42 28 (12)) 8 j = if j = 7 then some (12) else ay_at hp 8 j := fun j => ay_upd_eq hT.1 rfl ho0 j
  refine ⟨ay_ex_upd hT.1 (ax_cellT hT (q := 8) (g := 2) rfl), ay_ex_upd hT.1 (ax_cellT hT (q := 10) (g := 1) rfl), ay_ex_upd hT.1 (ax_cellT hT (q := 11) (g := 14) rfl), ay_ex_upd hT.1 (ax_cellT hT (q := 12) (g := 15) rfl), ?_⟩
  rw [u2 5, if_neg (show ¬ 5 = 7 from Nat.ne_of_beq_eq_false rfl), u2 6, if_neg (show ¬ 6 = 7 from Nat.ne_of_beq_eq_false rfl), u2 7, if_pos rfl, u2 8, if_neg (show ¬ 8 = 7 from Nat.ne_of_beq_eq_false rfl), u1 10 (Nat.ne_of_beq_eq_false rfl), u2 9, if_neg (show ¬ 9 = 7 from Nat.ne_of_beq_eq_false rfl), u2 11, if_neg (show ¬ 11 = 7 from Nat.ne_of_beq_eq_false rfl), u2 10, if_neg (show ¬ 10 = 7 from Nat.ne_of_beq_eq_false rfl), u2 3, if_neg (show ¬ 3 = 7 from Nat.ne_of_beq_eq_false rfl), u2 4, if_neg (show ¬ 4 = 7 from Nat.ne_of_beq_eq_false rfl), u1 11 (Nat.ne_of_beq_eq_false rfl), u1 12 (Nat.ne_of_beq_eq_false rfl)]
  rw [c_place]
  have hb : ρ 2 / 4 < pz_gN (ρ 0) → pz_b (pz_gt (ρ 0)) (ρ 2 / 4) = ρ 3 / 4 := fun hl => by
    have e := F30.2.2 (ρ 2 / 4) hl
    rw [c_tape] at e
    have e := Option.some.inj e
    omega
  have e1 : ρ 2 / 4 = pz_at (pz_gt (ρ 0)) (pz_gN (ρ 0)) (pz_p (pz_cf (pz_gt (ρ 0)) (pz_gN (ρ 0)) (ρ 1 / 4))) := F55.1
  have e2 : ay_ln (ay_at hp 8 5) = ρ 2 / 4 + 1 := F55.2.1
  have e3 : ρ 2 / 4 < pz_gN (ρ 0) := F55.2.2.1
  have hb1 := hb e3
  rw [e1] at hb1 e2 e3
  obtain ⟨k1, k2⟩ := pz_kd_sg e3 (by rw [hb1]; exact pz_lt_no (by omega)) (by rw [hb1]; exact pz_dg_no (by omega))
  rw [hb1] at k1
  rw [pz_sg_no (by omega) (by omega) (by omega) (by omega) (by omega) (by omega) (by omega) (by omega)] at k1
  replace k1 : pz_kd (pz_gt (ρ 0)) (pz_gN (ρ 0)) (pz_p (pz_cf (pz_gt (ρ 0)) (pz_gN (ρ 0)) (ρ 1 / 4))) = 3 := k1
  exact ⟨by rw [e2, k2], e1, by show 3 = _; rw [k1], fun z => absurd (show 3 = 2 from z) (by decide), F55.2.2.2⟩

theorem axq_iw1a_0 : ax_RO ax_wC ax_XC axu_iw1a_0 := by
  intro ρ hp hE hT
  have j0 : ρ 0 % 4 = 1 := pz_gj hE 0 (Nat.le_of_ble_eq_true rfl) rfl
  have j1 : ρ 1 % 4 = 1 := pz_gj hE 1 (Nat.le_of_ble_eq_true rfl) rfl
  obtain ⟨i2a, i2b, i2c, i2d⟩ := pz_gi hE 2 0 2147483648 (Nat.le_of_ble_eq_true rfl) rfl
  have c_kind : ay_at hp 8 7 = some (ρ 2) := ay_gfj hE 42 28 11 8 7 ax_m1 (ax_vlq rfl rfl) (ax_vlj rfl rfl)
  obtain ⟨-, -, -, -, F50⟩ : ay_ex hp 8 ∧ ay_ex hp 10 ∧ ay_ex hp 11 ∧ ay_ex hp 12 ∧ pz_x50 (ρ 0) (ρ 1) (ay_at hp 8 5) (ay_at hp 8 6) (ay_at hp 8 7) (ay_at hp 8 8) (ay_at hp 10 0) (ay_at hp 10 1) (ay_at hp 10 2) (ay_at hp 10 3) (ay_at hp 10 4) (ay_at hp 8 9) (ay_at hp 8 11) (ay_at hp 8 10) (ay_at hp 8 3) (ay_at hp 8 4) (ay_at hp 11) (ay_at hp 12) := (ax_XF_lt (x := 50) (Nat.le_of_ble_eq_true rfl)).mp (ax_gx hE (50, [3, 7]) ax_m0)
  rw [c_kind] at F50
  refine ⟨(fun y hy => by cases hy), _, List.mem_cons_self, ρ, fun _ _ => rfl, ax_px hE rfl (fun y hy => ?_)⟩
  cases List.mem_singleton.mp hy
  refine (ax_XF_lt (x := 61) (Nat.le_of_ble_eq_true rfl)).mpr ?_
  show pz61 (pz_gt (ρ 0)) (pz_gN (ρ 0)) ((ρ 1) / 4) ((4002) / 4 - 1000)
  have kd : ρ 2 / 4 = pz_kd (pz_gt (ρ 0)) (pz_gN (ρ 0)) (pz_p (pz_cf (pz_gt (ρ 0)) (pz_gN (ρ 0)) (ρ 1 / 4))) := F50.2.2.1
  exact pz_is_no (Or.inl (by omega))

theorem axq_iw1b_0 : ax_RO ax_wC ax_XC axu_iw1b_0 := by
  intro ρ hp hE hT
  have j0 : ρ 0 % 4 = 1 := pz_gj hE 0 (Nat.le_of_ble_eq_true rfl) rfl
  have j1 : ρ 1 % 4 = 1 := pz_gj hE 1 (Nat.le_of_ble_eq_true rfl) rfl
  obtain ⟨i2a, i2b, i2c, i2d⟩ := pz_gi hE 2 2147483650 4294967295 (Nat.le_of_ble_eq_true rfl) rfl
  have c_kind : ay_at hp 8 7 = some (ρ 2) := ay_gfj hE 42 28 11 8 7 ax_m1 (ax_vlq rfl rfl) (ax_vlj rfl rfl)
  obtain ⟨-, -, -, -, F50⟩ : ay_ex hp 8 ∧ ay_ex hp 10 ∧ ay_ex hp 11 ∧ ay_ex hp 12 ∧ pz_x50 (ρ 0) (ρ 1) (ay_at hp 8 5) (ay_at hp 8 6) (ay_at hp 8 7) (ay_at hp 8 8) (ay_at hp 10 0) (ay_at hp 10 1) (ay_at hp 10 2) (ay_at hp 10 3) (ay_at hp 10 4) (ay_at hp 8 9) (ay_at hp 8 11) (ay_at hp 8 10) (ay_at hp 8 3) (ay_at hp 8 4) (ay_at hp 11) (ay_at hp 12) := (ax_XF_lt (x := 50) (Nat.le_of_ble_eq_true rfl)).mp (ax_gx hE (50, [3, 7]) ax_m0)
  rw [c_kind] at F50
  refine ⟨(fun y hy => by cases hy), _, List.mem_cons_self, ρ, fun _ _ => rfl, ax_px hE rfl (fun y hy => ?_)⟩
  cases List.mem_singleton.mp hy
  refine (ax_XF_lt (x := 61) (Nat.le_of_ble_eq_true rfl)).mpr ?_
  show pz61 (pz_gt (ρ 0)) (pz_gN (ρ 0)) ((ρ 1) / 4) ((4002) / 4 - 1000)
  have kd : ρ 2 / 4 = pz_kd (pz_gt (ρ 0)) (pz_gN (ρ 0)) (pz_p (pz_cf (pz_gt (ρ 0)) (pz_gN (ρ 0)) (ρ 1 / 4))) := F50.2.2.1
  exact pz_is_no (Or.inl (by omega))

theorem axq_iw2a_0 : ax_RO ax_wC ax_XC axu_iw2a_0 := by
  intro ρ hp hE hT
  have j0 : ρ 0 % 4 = 1 := pz_gj hE 0 (Nat.le_of_ble_eq_true rfl) rfl
  have j1 : ρ 1 % 4 = 1 := pz_gj hE 1 (Nat.le_of_ble_eq_true rfl) rfl
  obtain ⟨i2a, i2b, i2c, i2d⟩ := pz_gi hE 2 2147482848 2147483655 (Nat.le_of_ble_eq_true rfl) rfl
  obtain ⟨i3a, i3b, i3c, i3d⟩ := pz_gi hE 3 2147483648 2147484448 (Nat.le_of_ble_eq_true rfl) rfl
  obtain ⟨i4a, i4b, i4c, i4d⟩ := pz_gi hE 4 2147483648 2147484448 (Nat.le_of_ble_eq_true rfl) rfl
  have c_place : ay_at hp 8 6 = some (ρ 3) := ay_gfj hE 42 24 15 8 6 ax_m1 (ax_vlq rfl rfl) (ax_vlj rfl rfl)
  have c_ahead : ay_at hp 8 5 = some (ρ 4) := ay_gfj hE 42 20 19 8 5 ax_m2 (ax_vlq rfl rfl) (ax_vlj rfl rfl)
  have s1 : (ρ 2 / 4 + 2147483648) % 4294967296 + (ρ 3 / 4 + 2147483648) % 4294967296 = (ρ 4 / 4 + 2147483648) % 4294967296 + 2147483648 := pz_gs hE 11 15 19 ax_m3
  obtain ⟨-, -, -, -, F50⟩ : ay_ex hp 8 ∧ ay_ex hp 10 ∧ ay_ex hp 11 ∧ ay_ex hp 12 ∧ pz_x50 (ρ 0) (ρ 1) (ay_at hp 8 5) (ay_at hp 8 6) (ay_at hp 8 7) (ay_at hp 8 8) (ay_at hp 10 0) (ay_at hp 10 1) (ay_at hp 10 2) (ay_at hp 10 3) (ay_at hp 10 4) (ay_at hp 8 9) (ay_at hp 8 11) (ay_at hp 8 10) (ay_at hp 8 3) (ay_at hp 8 4) (ay_at hp 11) (ay_at hp 12) := (ax_XF_lt (x := 50) (Nat.le_of_ble_eq_true rfl)).mp (ax_gx hE (50, [3, 7]) ax_m0)
  rw [c_place] at F50
  rw [c_ahead] at F50
  refine ⟨(fun y hy => by cases hy), _, List.mem_cons_self, ρ, fun _ _ => rfl, ax_px hE rfl (fun y hy => ?_)⟩
  cases List.mem_singleton.mp hy
  refine (ax_XF_lt (x := 61) (Nat.le_of_ble_eq_true rfl)).mpr ?_
  show pz61 (pz_gt (ρ 0)) (pz_gN (ρ 0)) ((ρ 1) / 4) ((4002) / 4 - 1000)
  have e1 : ρ 4 / 4 = pz_nx (pz_gt (ρ 0)) (pz_gN (ρ 0)) (pz_p (pz_cf (pz_gt (ρ 0)) (pz_gN (ρ 0)) (ρ 1 / 4))) := F50.1
  have e2 : ρ 3 / 4 = pz_at (pz_gt (ρ 0)) (pz_gN (ρ 0)) (pz_p (pz_cf (pz_gt (ρ 0)) (pz_gN (ρ 0)) (ρ 1 / 4))) := F50.2.1
  refine pz_is_no (Or.inr (Or.inl ?_))
  show pz_nx (pz_gt (ρ 0)) (pz_gN (ρ 0)) (pz_p (pz_cf (pz_gt (ρ 0)) (pz_gN (ρ 0)) (ρ 1 / 4))) - pz_at (pz_gt (ρ 0)) (pz_gN (ρ 0)) (pz_p (pz_cf (pz_gt (ρ 0)) (pz_gN (ρ 0)) (ρ 1 / 4))) ≠ 8
  omega

theorem axq_iw2b_0 : ax_RO ax_wC ax_XC axu_iw2b_0 := by
  intro ρ hp hE hT
  have j0 : ρ 0 % 4 = 1 := pz_gj hE 0 (Nat.le_of_ble_eq_true rfl) rfl
  have j1 : ρ 1 % 4 = 1 := pz_gj hE 1 (Nat.le_of_ble_eq_true rfl) rfl
  obtain ⟨i2a, i2b, i2c, i2d⟩ := pz_gi hE 2 2147483657 2147484448 (Nat.le_of_ble_eq_true rfl) rfl
  obtain ⟨i3a, i3b, i3c, i3d⟩ := pz_gi hE 3 2147483648 2147484448 (Nat.le_of_ble_eq_true rfl) rfl
  obtain ⟨i4a, i4b, i4c, i4d⟩ := pz_gi hE 4 2147483648 2147484448 (Nat.le_of_ble_eq_true rfl) rfl
  have c_place : ay_at hp 8 6 = some (ρ 3) := ay_gfj hE 42 24 15 8 6 ax_m1 (ax_vlq rfl rfl) (ax_vlj rfl rfl)
  have c_ahead : ay_at hp 8 5 = some (ρ 4) := ay_gfj hE 42 20 19 8 5 ax_m2 (ax_vlq rfl rfl) (ax_vlj rfl rfl)
  have s1 : (ρ 2 / 4 + 2147483648) % 4294967296 + (ρ 3 / 4 + 2147483648) % 4294967296 = (ρ 4 / 4 + 2147483648) % 4294967296 + 2147483648 := pz_gs hE 11 15 19 ax_m3
  obtain ⟨-, -, -, -, F50⟩ : ay_ex hp 8 ∧ ay_ex hp 10 ∧ ay_ex hp 11 ∧ ay_ex hp 12 ∧ pz_x50 (ρ 0) (ρ 1) (ay_at hp 8 5) (ay_at hp 8 6) (ay_at hp 8 7) (ay_at hp 8 8) (ay_at hp 10 0) (ay_at hp 10 1) (ay_at hp 10 2) (ay_at hp 10 3) (ay_at hp 10 4) (ay_at hp 8 9) (ay_at hp 8 11) (ay_at hp 8 10) (ay_at hp 8 3) (ay_at hp 8 4) (ay_at hp 11) (ay_at hp 12) := (ax_XF_lt (x := 50) (Nat.le_of_ble_eq_true rfl)).mp (ax_gx hE (50, [3, 7]) ax_m0)
  rw [c_place] at F50
  rw [c_ahead] at F50
  refine ⟨(fun y hy => by cases hy), _, List.mem_cons_self, ρ, fun _ _ => rfl, ax_px hE rfl (fun y hy => ?_)⟩
  cases List.mem_singleton.mp hy
  refine (ax_XF_lt (x := 61) (Nat.le_of_ble_eq_true rfl)).mpr ?_
  show pz61 (pz_gt (ρ 0)) (pz_gN (ρ 0)) ((ρ 1) / 4) ((4002) / 4 - 1000)
  have e1 : ρ 4 / 4 = pz_nx (pz_gt (ρ 0)) (pz_gN (ρ 0)) (pz_p (pz_cf (pz_gt (ρ 0)) (pz_gN (ρ 0)) (ρ 1 / 4))) := F50.1
  have e2 : ρ 3 / 4 = pz_at (pz_gt (ρ 0)) (pz_gN (ρ 0)) (pz_p (pz_cf (pz_gt (ρ 0)) (pz_gN (ρ 0)) (ρ 1 / 4))) := F50.2.1
  refine pz_is_no (Or.inr (Or.inl ?_))
  show pz_nx (pz_gt (ρ 0)) (pz_gN (ρ 0)) (pz_p (pz_cf (pz_gt (ρ 0)) (pz_gN (ρ 0)) (ρ 1 / 4))) - pz_at (pz_gt (ρ 0)) (pz_gN (ρ 0)) (pz_p (pz_cf (pz_gt (ρ 0)) (pz_gN (ρ 0)) (ρ 1 / 4))) ≠ 8
  omega

theorem axq_iw3_0 : ax_RO ax_wC ax_XC axu_iw3_0 := by
  intro ρ hp hE hT
  have j0 : ρ 0 % 4 = 1 := pz_gj hE 0 (Nat.le_of_ble_eq_true rfl) rfl
  have j1 : ρ 1 % 4 = 1 := pz_gj hE 1 (Nat.le_of_ble_eq_true rfl) rfl
  obtain ⟨i2a, i2b, i2c, i2d⟩ := pz_gi hE 2 2147483649 2147483649 (Nat.le_of_ble_eq_true rfl) rfl
  obtain ⟨i3a, i3b, i3c, i3d⟩ := pz_gi hE 3 2147483656 2147483656 (Nat.le_of_ble_eq_true rfl) rfl
  obtain ⟨i4a, i4b, i4c, i4d⟩ := pz_gi hE 4 2147483648 2147484448 (Nat.le_of_ble_eq_true rfl) rfl
  obtain ⟨i5a, i5b, i5c, i5d⟩ := pz_gi hE 5 2147483648 2147484448 (Nat.le_of_ble_eq_true rfl) rfl
  have c_kind : ay_at hp 8 7 = some (ρ 2) := ay_gfj hE 42 28 11 8 7 ax_m1 (ax_vlq rfl rfl) (ax_vlj rfl rfl)
  have c_place : ay_at hp 8 6 = some (ρ 4) := ay_gfj hE 42 24 19 8 6 ax_m2 (ax_vlq rfl rfl) (ax_vlj rfl rfl)
  have c_ahead : ay_at hp 8 5 = some (ρ 5) := ay_gfj hE 42 20 23 8 5 ax_m3 (ax_vlq rfl rfl) (ax_vlj rfl rfl)
  have s1 : (ρ 3 / 4 + 2147483648) % 4294967296 + (ρ 4 / 4 + 2147483648) % 4294967296 = (ρ 5 / 4 + 2147483648) % 4294967296 + 2147483648 := pz_gs hE 15 19 23 ax_m4
  obtain ⟨-, -, -, -, F50⟩ : ay_ex hp 8 ∧ ay_ex hp 10 ∧ ay_ex hp 11 ∧ ay_ex hp 12 ∧ pz_x50 (ρ 0) (ρ 1) (ay_at hp 8 5) (ay_at hp 8 6) (ay_at hp 8 7) (ay_at hp 8 8) (ay_at hp 10 0) (ay_at hp 10 1) (ay_at hp 10 2) (ay_at hp 10 3) (ay_at hp 10 4) (ay_at hp 8 9) (ay_at hp 8 11) (ay_at hp 8 10) (ay_at hp 8 3) (ay_at hp 8 4) (ay_at hp 11) (ay_at hp 12) := (ax_XF_lt (x := 50) (Nat.le_of_ble_eq_true rfl)).mp (ax_gx hE (50, [3, 7]) ax_m0)
  rw [c_kind] at F50
  rw [c_place] at F50
  rw [c_ahead] at F50
  refine ⟨(fun y hy => by cases hy), _, List.mem_cons_self, ρ, fun _ _ => rfl, ax_px hE rfl (fun y hy => ?_)⟩
  cases List.mem_singleton.mp hy
  refine (ax_XF_lt (x := 62) (Nat.le_of_ble_eq_true rfl)).mpr ?_
  show pz_x62 (ρ 0) (ρ 1) (4002) (0)
  have kd : ρ 2 / 4 = pz_kd (pz_gt (ρ 0)) (pz_gN (ρ 0)) (pz_p (pz_cf (pz_gt (ρ 0)) (pz_gN (ρ 0)) (ρ 1 / 4))) := F50.2.2.1
  have e1 : ρ 5 / 4 = pz_nx (pz_gt (ρ 0)) (pz_gN (ρ 0)) (pz_p (pz_cf (pz_gt (ρ 0)) (pz_gN (ρ 0)) (ρ 1 / 4))) := F50.1
  have e2 : ρ 4 / 4 = pz_at (pz_gt (ρ 0)) (pz_gN (ρ 0)) (pz_p (pz_cf (pz_gt (ρ 0)) (pz_gN (ρ 0)) (ρ 1 / 4))) := F50.2.1
  refine ⟨kd.symm.trans (show ρ 2 / 4 = 1 by omega), ?_, fun j hj => absurd (show j < 0 from hj) (by omega)⟩
  show pz_nx (pz_gt (ρ 0)) (pz_gN (ρ 0)) (pz_p (pz_cf (pz_gt (ρ 0)) (pz_gN (ρ 0)) (ρ 1 / 4))) - pz_at (pz_gt (ρ 0)) (pz_gN (ρ 0)) (pz_p (pz_cf (pz_gt (ρ 0)) (pz_gN (ρ 0)) (ρ 1 / 4))) = 8
  omega

theorem axq_iw4_0 : ax_RO ax_wC ax_XC axu_iw4_0 := by
  intro ρ hp hE hT
  have j0 : ρ 0 % 4 = 1 := pz_gj hE 0 (Nat.le_of_ble_eq_true rfl) rfl
  have j1 : ρ 1 % 4 = 1 := pz_gj hE 1 (Nat.le_of_ble_eq_true rfl) rfl
  obtain ⟨i2a, i2b, i2c, i2d⟩ := pz_gi hE 2 2147483648 2147483655 (Nat.le_of_ble_eq_true rfl) rfl
  obtain ⟨i3a, i3b, i3c, i3d⟩ := pz_gi hE 3 0 4294967295 (Nat.le_of_ble_eq_true rfl) rfl
  obtain ⟨i4a, i4b, i4c, i4d⟩ := pz_gi hE 4 2147483648 2147484448 (Nat.le_of_ble_eq_true rfl) rfl
  obtain ⟨i5a, i5b, i5c, i5d⟩ := pz_gi hE 5 0 4294967295 (Nat.le_of_ble_eq_true rfl) rfl
  obtain ⟨i6a, i6b, i6c, i6d⟩ := pz_gi hE 6 2147483520 2147483775 (Nat.le_of_ble_eq_true rfl) rfl
  obtain ⟨i7a, i7b, i7c, i7d⟩ := pz_gi hE 7 2147483648 2147483903 (Nat.le_of_ble_eq_true rfl) rfl
  have s1 : (ρ 2 / 4 + 2147483648) % 4294967296 + (4 / 4 + 2147483648) % 4294967296 = (ρ 3 / 4 + 2147483648) % 4294967296 + 2147483648 := pz_gs hE 11 4 15 ax_m3
  have c_place : ay_at hp 8 6 = some (ρ 4) := ay_gfj hE 42 24 19 8 6 ax_m4 (ax_vlq rfl rfl) (ax_vlj rfl rfl)
  have s2 : (ρ 4 / 4 + 2147483648) % 4294967296 + (ρ 2 / 4 + 2147483648) % 4294967296 = (ρ 5 / 4 + 2147483648) % 4294967296 + 2147483648 := pz_gs hE 19 11 23 ax_m5
  have c_tape : ay_at hp 9 (ρ 5 / 4) = some (ρ 6) := ay_gf hE 46 23 27 9 ax_m6 (ax_vlq rfl rfl)
  have r1 : (ρ 6 / 4 + 2147483648) % 4294967296 = (ρ 7 / 4 + 2147483648) % 4294967296 := pz_gc hE 0 27 31 (Nat.le_of_ble_eq_true rfl) ax_m8
  obtain ⟨-, -, F30⟩ : ay_ex hp 8 ∧ ay_ex hp 9 ∧ pz_x30 (ρ 0) (ay_at hp 8 1) (ay_at hp 9) := (ax_XF_lt (x := 30) (Nat.le_of_ble_eq_true rfl)).mp (ax_gx hE (30, [3]) ax_m0)
  obtain ⟨-, -, -, -, F50⟩ : ay_ex hp 8 ∧ ay_ex hp 10 ∧ ay_ex hp 11 ∧ ay_ex hp 12 ∧ pz_x50 (ρ 0) (ρ 1) (ay_at hp 8 5) (ay_at hp 8 6) (ay_at hp 8 7) (ay_at hp 8 8) (ay_at hp 10 0) (ay_at hp 10 1) (ay_at hp 10 2) (ay_at hp 10 3) (ay_at hp 10 4) (ay_at hp 8 9) (ay_at hp 8 11) (ay_at hp 8 10) (ay_at hp 8 3) (ay_at hp 8 4) (ay_at hp 11) (ay_at hp 12) := (ax_XF_lt (x := 50) (Nat.le_of_ble_eq_true rfl)).mp (ax_gx hE (50, [3, 7]) ax_m1)
  rw [c_place] at F50
  have F62 : pz_x62 (ρ 0) (ρ 1) (4002) (ρ 2) := (ax_XF_lt (x := 62) (Nat.le_of_ble_eq_true rfl)).mp (ax_gx hE (62, [3, 7, 4002, 11]) ax_m2)
  refine ⟨(fun y hy => by cases hy), _, List.mem_cons_self, ρ, fun _ _ => rfl, ax_px hE rfl (fun y hy => ?_)⟩
  cases List.mem_singleton.mp hy
  refine (ax_XF_lt (x := 62) (Nat.le_of_ble_eq_true rfl)).mpr ?_
  show pz_x62 (ρ 0) (ρ 1) (4002) (ρ 3)
  have ch := pz_chr (v := 4002) (i := ρ 2) (z := ρ 7) (l := [115, 119, 105, 116, 99, 104, 101, 115]) (by decide +kernel) (pz_g42 hE 4002 11 31 (by decide))
  have ep : ρ 4 / 4 = pz_at (pz_gt (ρ 0)) (pz_gN (ρ 0)) (pz_p (pz_cf (pz_gt (ρ 0)) (pz_gN (ρ 0)) (ρ 1 / 4))) := F50.2.1
  have hw : pz_at (pz_gt (ρ 0)) (pz_gN (ρ 0)) (pz_p (pz_cf (pz_gt (ρ 0)) (pz_gN (ρ 0)) (ρ 1 / 4))) < pz_gN (ρ 0) ∧ pz_nx (pz_gt (ρ 0)) (pz_gN (ρ 0)) (pz_p (pz_cf (pz_gt (ρ 0)) (pz_gN (ρ 0)) (ρ 1 / 4))) ≤ pz_gN (ρ 0) := pz_wd_le F62.1
  have hln : pz_nx (pz_gt (ρ 0)) (pz_gN (ρ 0)) (pz_p (pz_cf (pz_gt (ρ 0)) (pz_gN (ρ 0)) (ρ 1 / 4))) - pz_at (pz_gt (ρ 0)) (pz_gN (ρ 0)) (pz_p (pz_cf (pz_gt (ρ 0)) (pz_gN (ρ 0)) (ρ 1 / 4))) = 8 := F62.2.1
  have hi1 : ρ 2 / 4 < 8 := by omega
  have ha1 : ρ 4 / 4 ≤ 800 := by omega
  have hq1 : ρ 5 / 4 = ρ 4 / 4 + ρ 2 / 4 := by omega
  have hb := F30.2.2 (ρ 5 / 4) (by have := hw.2; omega)
  rw [c_tape] at hb
  have hb := Option.some.inj hb
  rw [show ρ 5 / 4 = pz_at (pz_gt (ρ 0)) (pz_gN (ρ 0)) (pz_p (pz_cf (pz_gt (ρ 0)) (pz_gN (ρ 0)) (ρ 1 / 4))) + ρ 2 / 4 by omega] at hb
  refine ⟨F62.1, F62.2.1, fun j hj => ?_⟩
  by_cases h : j < ρ 2 / 4
  · exact F62.2.2 j h
  · have e : j = ρ 2 / 4 := by omega
    have hcc : ρ 6 / 4 = ρ 7 / 4 := by omega
    have hb2 : pz_b (pz_gt (ρ 0)) (pz_at (pz_gt (ρ 0)) (pz_gN (ρ 0)) (pz_p (pz_cf (pz_gt (ρ 0)) (pz_gN (ρ 0)) (ρ 1 / 4))) + ρ 2 / 4) = ρ 6 / 4 := by omega
    rw [e]
    refine Eq.trans ?_ (pz_getD ch).symm
    rw [← hcc]
    exact hb2

theorem axq_iw5_0 : ax_RO ax_wC ax_XC axu_iw5_0 := by
  intro ρ hp hE hT
  have j0 : ρ 0 % 4 = 1 := pz_gj hE 0 (Nat.le_of_ble_eq_true rfl) rfl
  have j1 : ρ 1 % 4 = 1 := pz_gj hE 1 (Nat.le_of_ble_eq_true rfl) rfl
  obtain ⟨i2a, i2b, i2c, i2d⟩ := pz_gi hE 2 2147483648 2147483655 (Nat.le_of_ble_eq_true rfl) rfl
  obtain ⟨i3a, i3b, i3c, i3d⟩ := pz_gi hE 3 2147483648 2147484448 (Nat.le_of_ble_eq_true rfl) rfl
  obtain ⟨i4a, i4b, i4c, i4d⟩ := pz_gi hE 4 0 4294967295 (Nat.le_of_ble_eq_true rfl) rfl
  obtain ⟨i5a, i5b, i5c, i5d⟩ := pz_gi hE 5 2147483520 2147483775 (Nat.le_of_ble_eq_true rfl) rfl
  obtain ⟨i6a, i6b, i6c, i6d⟩ := pz_gi hE 6 2147483648 2147483903 (Nat.le_of_ble_eq_true rfl) rfl
  have c_place : ay_at hp 8 6 = some (ρ 3) := ay_gfj hE 42 24 15 8 6 ax_m3 (ax_vlq rfl rfl) (ax_vlj rfl rfl)
  have s1 : (ρ 3 / 4 + 2147483648) % 4294967296 + (ρ 2 / 4 + 2147483648) % 4294967296 = (ρ 4 / 4 + 2147483648) % 4294967296 + 2147483648 := pz_gs hE 15 11 19 ax_m4
  have c_tape : ay_at hp 9 (ρ 4 / 4) = some (ρ 5) := ay_gf hE 46 19 23 9 ax_m5 (ax_vlq rfl rfl)
  have r1 : (ρ 5 / 4 + 2147483648) % 4294967296 ≠ (ρ 6 / 4 + 2147483648) % 4294967296 := pz_gc hE 1 23 27 (Nat.le_of_ble_eq_true rfl) ax_m7
  obtain ⟨-, -, F30⟩ : ay_ex hp 8 ∧ ay_ex hp 9 ∧ pz_x30 (ρ 0) (ay_at hp 8 1) (ay_at hp 9) := (ax_XF_lt (x := 30) (Nat.le_of_ble_eq_true rfl)).mp (ax_gx hE (30, [3]) ax_m0)
  obtain ⟨-, -, -, -, F50⟩ : ay_ex hp 8 ∧ ay_ex hp 10 ∧ ay_ex hp 11 ∧ ay_ex hp 12 ∧ pz_x50 (ρ 0) (ρ 1) (ay_at hp 8 5) (ay_at hp 8 6) (ay_at hp 8 7) (ay_at hp 8 8) (ay_at hp 10 0) (ay_at hp 10 1) (ay_at hp 10 2) (ay_at hp 10 3) (ay_at hp 10 4) (ay_at hp 8 9) (ay_at hp 8 11) (ay_at hp 8 10) (ay_at hp 8 3) (ay_at hp 8 4) (ay_at hp 11) (ay_at hp 12) := (ax_XF_lt (x := 50) (Nat.le_of_ble_eq_true rfl)).mp (ax_gx hE (50, [3, 7]) ax_m1)
  rw [c_place] at F50
  have F62 : pz_x62 (ρ 0) (ρ 1) (4002) (ρ 2) := (ax_XF_lt (x := 62) (Nat.le_of_ble_eq_true rfl)).mp (ax_gx hE (62, [3, 7, 4002, 11]) ax_m2)
  refine ⟨(fun y hy => by cases hy), _, List.mem_cons_self, ρ, fun _ _ => rfl, ax_px hE rfl (fun y hy => ?_)⟩
  cases List.mem_singleton.mp hy
  refine (ax_XF_lt (x := 61) (Nat.le_of_ble_eq_true rfl)).mpr ?_
  show pz61 (pz_gt (ρ 0)) (pz_gN (ρ 0)) ((ρ 1) / 4) ((4002) / 4 - 1000)
  have ch := pz_chr (v := 4002) (i := ρ 2) (z := ρ 6) (l := [115, 119, 105, 116, 99, 104, 101, 115]) (by decide +kernel) (pz_g42 hE 4002 11 27 (by decide))
  have ep : ρ 3 / 4 = pz_at (pz_gt (ρ 0)) (pz_gN (ρ 0)) (pz_p (pz_cf (pz_gt (ρ 0)) (pz_gN (ρ 0)) (ρ 1 / 4))) := F50.2.1
  have hw : pz_at (pz_gt (ρ 0)) (pz_gN (ρ 0)) (pz_p (pz_cf (pz_gt (ρ 0)) (pz_gN (ρ 0)) (ρ 1 / 4))) < pz_gN (ρ 0) ∧ pz_nx (pz_gt (ρ 0)) (pz_gN (ρ 0)) (pz_p (pz_cf (pz_gt (ρ 0)) (pz_gN (ρ 0)) (ρ 1 / 4))) ≤ pz_gN (ρ 0) := pz_wd_le F62.1
  have hln : pz_nx (pz_gt (ρ 0)) (pz_gN (ρ 0)) (pz_p (pz_cf (pz_gt (ρ 0)) (pz_gN (ρ 0)) (ρ 1 / 4))) - pz_at (pz_gt (ρ 0)) (pz_gN (ρ 0)) (pz_p (pz_cf (pz_gt (ρ 0)) (pz_gN (ρ 0)) (ρ 1 / 4))) = 8 := F62.2.1
  have hi1 : ρ 2 / 4 < 8 := by omega
  have ha1 : ρ 3 / 4 ≤ 800 := by omega
  have hq1 : ρ 4 / 4 = ρ 3 / 4 + ρ 2 / 4 := by omega
  have hb := F30.2.2 (ρ 4 / 4) (by have := hw.2; omega)
  rw [c_tape] at hb
  have hb := Option.some.inj hb
  rw [show ρ 4 / 4 = pz_at (pz_gt (ρ 0)) (pz_gN (ρ 0)) (pz_p (pz_cf (pz_gt (ρ 0)) (pz_gN (ρ 0)) (ρ 1 / 4))) + ρ 2 / 4 by omega] at hb
  refine pz_is_no (Or.inr (Or.inr ⟨ρ 2 / 4, show ρ 2 / 4 < 8 by omega, fun z => ?_⟩))
  have hb2 : pz_b (pz_gt (ρ 0)) (pz_at (pz_gt (ρ 0)) (pz_gN (ρ 0)) (pz_p (pz_cf (pz_gt (ρ 0)) (pz_gN (ρ 0)) (ρ 1 / 4))) + ρ 2 / 4) = ρ 5 / 4 := by omega
  have z2 := (hb2.symm.trans z).trans (pz_getD ch)
  rw [z2] at r1
  exact r1 rfl

theorem axq_iw6_0 : ax_RO ax_wC ax_XC axu_iw6_0 := by
  intro ρ hp hE hT
  have j0 : ρ 0 % 4 = 1 := pz_gj hE 0 (Nat.le_of_ble_eq_true rfl) rfl
  have j1 : ρ 1 % 4 = 1 := pz_gj hE 1 (Nat.le_of_ble_eq_true rfl) rfl
  obtain ⟨i2a, i2b, i2c, i2d⟩ := pz_gi hE 2 2147483656 2147483656 (Nat.le_of_ble_eq_true rfl) rfl
  obtain ⟨-, -, -, -, F50⟩ : ay_ex hp 8 ∧ ay_ex hp 10 ∧ ay_ex hp 11 ∧ ay_ex hp 12 ∧ pz_x50 (ρ 0) (ρ 1) (ay_at hp 8 5) (ay_at hp 8 6) (ay_at hp 8 7) (ay_at hp 8 8) (ay_at hp 10 0) (ay_at hp 10 1) (ay_at hp 10 2) (ay_at hp 10 3) (ay_at hp 10 4) (ay_at hp 8 9) (ay_at hp 8 11) (ay_at hp 8 10) (ay_at hp 8 3) (ay_at hp 8 4) (ay_at hp 11) (ay_at hp 12) := (ax_XF_lt (x := 50) (Nat.le_of_ble_eq_true rfl)).mp (ax_gx hE (50, [3, 7]) ax_m0)
  have F62 : pz_x62 (ρ 0) (ρ 1) (4002) (ρ 2) := (ax_XF_lt (x := 62) (Nat.le_of_ble_eq_true rfl)).mp (ax_gx hE (62, [3, 7, 4002, 11]) ax_m1)
  refine ⟨(fun y hy => by cases hy), _, List.mem_cons_self, ρ, fun _ _ => rfl, ax_px hE rfl (fun y hy => ?_)⟩
  cases List.mem_singleton.mp hy
  refine (ax_XF_lt (x := 60) (Nat.le_of_ble_eq_true rfl)).mpr ?_
  show pz60 (pz_gt (ρ 0)) (pz_gN (ρ 0)) ((ρ 1) / 4) ((4002) / 4 - 1000)
  exact pz_is_yes F62.1 F62.2.1 (fun i hi => F62.2.2 i (by have : i < 8 := hi; omega))

theorem axq_iw1a_1 : ax_RO ax_wC ax_XC axu_iw1a_1 := by
  intro ρ hp hE hT
  have j0 : ρ 0 % 4 = 1 := pz_gj hE 0 (Nat.le_of_ble_eq_true rfl) rfl
  have j1 : ρ 1 % 4 = 1 := pz_gj hE 1 (Nat.le_of_ble_eq_true rfl) rfl
  obtain ⟨i2a, i2b, i2c, i2d⟩ := pz_gi hE 2 0 2147483648 (Nat.le_of_ble_eq_true rfl) rfl
  have c_kind : ay_at hp 8 7 = some (ρ 2) := ay_gfj hE 42 28 11 8 7 ax_m1 (ax_vlq rfl rfl) (ax_vlj rfl rfl)
  obtain ⟨-, -, -, -, F50⟩ : ay_ex hp 8 ∧ ay_ex hp 10 ∧ ay_ex hp 11 ∧ ay_ex hp 12 ∧ pz_x50 (ρ 0) (ρ 1) (ay_at hp 8 5) (ay_at hp 8 6) (ay_at hp 8 7) (ay_at hp 8 8) (ay_at hp 10 0) (ay_at hp 10 1) (ay_at hp 10 2) (ay_at hp 10 3) (ay_at hp 10 4) (ay_at hp 8 9) (ay_at hp 8 11) (ay_at hp 8 10) (ay_at hp 8 3) (ay_at hp 8 4) (ay_at hp 11) (ay_at hp 12) := (ax_XF_lt (x := 50) (Nat.le_of_ble_eq_true rfl)).mp (ax_gx hE (50, [3, 7]) ax_m0)
  rw [c_kind] at F50
  refine ⟨(fun y hy => by cases hy), _, List.mem_cons_self, ρ, fun _ _ => rfl, ax_px hE rfl (fun y hy => ?_)⟩
  cases List.mem_singleton.mp hy
  refine (ax_XF_lt (x := 61) (Nat.le_of_ble_eq_true rfl)).mpr ?_
  show pz61 (pz_gt (ρ 0)) (pz_gN (ρ 0)) ((ρ 1) / 4) ((4006) / 4 - 1000)
  have kd : ρ 2 / 4 = pz_kd (pz_gt (ρ 0)) (pz_gN (ρ 0)) (pz_p (pz_cf (pz_gt (ρ 0)) (pz_gN (ρ 0)) (ρ 1 / 4))) := F50.2.2.1
  exact pz_is_no (Or.inl (by omega))

theorem axq_iw1b_1 : ax_RO ax_wC ax_XC axu_iw1b_1 := by
  intro ρ hp hE hT
  have j0 : ρ 0 % 4 = 1 := pz_gj hE 0 (Nat.le_of_ble_eq_true rfl) rfl
  have j1 : ρ 1 % 4 = 1 := pz_gj hE 1 (Nat.le_of_ble_eq_true rfl) rfl
  obtain ⟨i2a, i2b, i2c, i2d⟩ := pz_gi hE 2 2147483650 4294967295 (Nat.le_of_ble_eq_true rfl) rfl
  have c_kind : ay_at hp 8 7 = some (ρ 2) := ay_gfj hE 42 28 11 8 7 ax_m1 (ax_vlq rfl rfl) (ax_vlj rfl rfl)
  obtain ⟨-, -, -, -, F50⟩ : ay_ex hp 8 ∧ ay_ex hp 10 ∧ ay_ex hp 11 ∧ ay_ex hp 12 ∧ pz_x50 (ρ 0) (ρ 1) (ay_at hp 8 5) (ay_at hp 8 6) (ay_at hp 8 7) (ay_at hp 8 8) (ay_at hp 10 0) (ay_at hp 10 1) (ay_at hp 10 2) (ay_at hp 10 3) (ay_at hp 10 4) (ay_at hp 8 9) (ay_at hp 8 11) (ay_at hp 8 10) (ay_at hp 8 3) (ay_at hp 8 4) (ay_at hp 11) (ay_at hp 12) := (ax_XF_lt (x := 50) (Nat.le_of_ble_eq_true rfl)).mp (ax_gx hE (50, [3, 7]) ax_m0)
  rw [c_kind] at F50
  refine ⟨(fun y hy => by cases hy), _, List.mem_cons_self, ρ, fun _ _ => rfl, ax_px hE rfl (fun y hy => ?_)⟩
  cases List.mem_singleton.mp hy
  refine (ax_XF_lt (x := 61) (Nat.le_of_ble_eq_true rfl)).mpr ?_
  show pz61 (pz_gt (ρ 0)) (pz_gN (ρ 0)) ((ρ 1) / 4) ((4006) / 4 - 1000)
  have kd : ρ 2 / 4 = pz_kd (pz_gt (ρ 0)) (pz_gN (ρ 0)) (pz_p (pz_cf (pz_gt (ρ 0)) (pz_gN (ρ 0)) (ρ 1 / 4))) := F50.2.2.1
  exact pz_is_no (Or.inl (by omega))

theorem axq_iw2a_1 : ax_RO ax_wC ax_XC axu_iw2a_1 := by
  intro ρ hp hE hT
  have j0 : ρ 0 % 4 = 1 := pz_gj hE 0 (Nat.le_of_ble_eq_true rfl) rfl
  have j1 : ρ 1 % 4 = 1 := pz_gj hE 1 (Nat.le_of_ble_eq_true rfl) rfl
  obtain ⟨i2a, i2b, i2c, i2d⟩ := pz_gi hE 2 2147482848 2147483651 (Nat.le_of_ble_eq_true rfl) rfl
  obtain ⟨i3a, i3b, i3c, i3d⟩ := pz_gi hE 3 2147483648 2147484448 (Nat.le_of_ble_eq_true rfl) rfl
  obtain ⟨i4a, i4b, i4c, i4d⟩ := pz_gi hE 4 2147483648 2147484448 (Nat.le_of_ble_eq_true rfl) rfl
  have c_place : ay_at hp 8 6 = some (ρ 3) := ay_gfj hE 42 24 15 8 6 ax_m1 (ax_vlq rfl rfl) (ax_vlj rfl rfl)
  have c_ahead : ay_at hp 8 5 = some (ρ 4) := ay_gfj hE 42 20 19 8 5 ax_m2 (ax_vlq rfl rfl) (ax_vlj rfl rfl)
  have s1 : (ρ 2 / 4 + 2147483648) % 4294967296 + (ρ 3 / 4 + 2147483648) % 4294967296 = (ρ 4 / 4 + 2147483648) % 4294967296 + 2147483648 := pz_gs hE 11 15 19 ax_m3
  obtain ⟨-, -, -, -, F50⟩ : ay_ex hp 8 ∧ ay_ex hp 10 ∧ ay_ex hp 11 ∧ ay_ex hp 12 ∧ pz_x50 (ρ 0) (ρ 1) (ay_at hp 8 5) (ay_at hp 8 6) (ay_at hp 8 7) (ay_at hp 8 8) (ay_at hp 10 0) (ay_at hp 10 1) (ay_at hp 10 2) (ay_at hp 10 3) (ay_at hp 10 4) (ay_at hp 8 9) (ay_at hp 8 11) (ay_at hp 8 10) (ay_at hp 8 3) (ay_at hp 8 4) (ay_at hp 11) (ay_at hp 12) := (ax_XF_lt (x := 50) (Nat.le_of_ble_eq_true rfl)).mp (ax_gx hE (50, [3, 7]) ax_m0)
  rw [c_place] at F50
  rw [c_ahead] at F50
  refine ⟨(fun y hy => by cases hy), _, List.mem_cons_self, ρ, fun _ _ => rfl, ax_px hE rfl (fun y hy => ?_)⟩
  cases List.mem_singleton.mp hy
  refine (ax_XF_lt (x := 61) (Nat.le_of_ble_eq_true rfl)).mpr ?_
  show pz61 (pz_gt (ρ 0)) (pz_gN (ρ 0)) ((ρ 1) / 4) ((4006) / 4 - 1000)
  have e1 : ρ 4 / 4 = pz_nx (pz_gt (ρ 0)) (pz_gN (ρ 0)) (pz_p (pz_cf (pz_gt (ρ 0)) (pz_gN (ρ 0)) (ρ 1 / 4))) := F50.1
  have e2 : ρ 3 / 4 = pz_at (pz_gt (ρ 0)) (pz_gN (ρ 0)) (pz_p (pz_cf (pz_gt (ρ 0)) (pz_gN (ρ 0)) (ρ 1 / 4))) := F50.2.1
  refine pz_is_no (Or.inr (Or.inl ?_))
  show pz_nx (pz_gt (ρ 0)) (pz_gN (ρ 0)) (pz_p (pz_cf (pz_gt (ρ 0)) (pz_gN (ρ 0)) (ρ 1 / 4))) - pz_at (pz_gt (ρ 0)) (pz_gN (ρ 0)) (pz_p (pz_cf (pz_gt (ρ 0)) (pz_gN (ρ 0)) (ρ 1 / 4))) ≠ 4
  omega

theorem axq_iw2b_1 : ax_RO ax_wC ax_XC axu_iw2b_1 := by
  intro ρ hp hE hT
  have j0 : ρ 0 % 4 = 1 := pz_gj hE 0 (Nat.le_of_ble_eq_true rfl) rfl
  have j1 : ρ 1 % 4 = 1 := pz_gj hE 1 (Nat.le_of_ble_eq_true rfl) rfl
  obtain ⟨i2a, i2b, i2c, i2d⟩ := pz_gi hE 2 2147483653 2147484448 (Nat.le_of_ble_eq_true rfl) rfl
  obtain ⟨i3a, i3b, i3c, i3d⟩ := pz_gi hE 3 2147483648 2147484448 (Nat.le_of_ble_eq_true rfl) rfl
  obtain ⟨i4a, i4b, i4c, i4d⟩ := pz_gi hE 4 2147483648 2147484448 (Nat.le_of_ble_eq_true rfl) rfl
  have c_place : ay_at hp 8 6 = some (ρ 3) := ay_gfj hE 42 24 15 8 6 ax_m1 (ax_vlq rfl rfl) (ax_vlj rfl rfl)
  have c_ahead : ay_at hp 8 5 = some (ρ 4) := ay_gfj hE 42 20 19 8 5 ax_m2 (ax_vlq rfl rfl) (ax_vlj rfl rfl)
  have s1 : (ρ 2 / 4 + 2147483648) % 4294967296 + (ρ 3 / 4 + 2147483648) % 4294967296 = (ρ 4 / 4 + 2147483648) % 4294967296 + 2147483648 := pz_gs hE 11 15 19 ax_m3
  obtain ⟨-, -, -, -, F50⟩ : ay_ex hp 8 ∧ ay_ex hp 10 ∧ ay_ex hp 11 ∧ ay_ex hp 12 ∧ pz_x50 (ρ 0) (ρ 1) (ay_at hp 8 5) (ay_at hp 8 6) (ay_at hp 8 7) (ay_at hp 8 8) (ay_at hp 10 0) (ay_at hp 10 1) (ay_at hp 10 2) (ay_at hp 10 3) (ay_at hp 10 4) (ay_at hp 8 9) (ay_at hp 8 11) (ay_at hp 8 10) (ay_at hp 8 3) (ay_at hp 8 4) (ay_at hp 11) (ay_at hp 12) := (ax_XF_lt (x := 50) (Nat.le_of_ble_eq_true rfl)).mp (ax_gx hE (50, [3, 7]) ax_m0)
  rw [c_place] at F50
  rw [c_ahead] at F50
  refine ⟨(fun y hy => by cases hy), _, List.mem_cons_self, ρ, fun _ _ => rfl, ax_px hE rfl (fun y hy => ?_)⟩
  cases List.mem_singleton.mp hy
  refine (ax_XF_lt (x := 61) (Nat.le_of_ble_eq_true rfl)).mpr ?_
  show pz61 (pz_gt (ρ 0)) (pz_gN (ρ 0)) ((ρ 1) / 4) ((4006) / 4 - 1000)
  have e1 : ρ 4 / 4 = pz_nx (pz_gt (ρ 0)) (pz_gN (ρ 0)) (pz_p (pz_cf (pz_gt (ρ 0)) (pz_gN (ρ 0)) (ρ 1 / 4))) := F50.1
  have e2 : ρ 3 / 4 = pz_at (pz_gt (ρ 0)) (pz_gN (ρ 0)) (pz_p (pz_cf (pz_gt (ρ 0)) (pz_gN (ρ 0)) (ρ 1 / 4))) := F50.2.1
  refine pz_is_no (Or.inr (Or.inl ?_))
  show pz_nx (pz_gt (ρ 0)) (pz_gN (ρ 0)) (pz_p (pz_cf (pz_gt (ρ 0)) (pz_gN (ρ 0)) (ρ 1 / 4))) - pz_at (pz_gt (ρ 0)) (pz_gN (ρ 0)) (pz_p (pz_cf (pz_gt (ρ 0)) (pz_gN (ρ 0)) (ρ 1 / 4))) ≠ 4
  omega

theorem axq_iw3_1 : ax_RO ax_wC ax_XC axu_iw3_1 := by
  intro ρ hp hE hT
  have j0 : ρ 0 % 4 = 1 := pz_gj hE 0 (Nat.le_of_ble_eq_true rfl) rfl
  have j1 : ρ 1 % 4 = 1 := pz_gj hE 1 (Nat.le_of_ble_eq_true rfl) rfl
  obtain ⟨i2a, i2b, i2c, i2d⟩ := pz_gi hE 2 2147483649 2147483649 (Nat.le_of_ble_eq_true rfl) rfl
  obtain ⟨i3a, i3b, i3c, i3d⟩ := pz_gi hE 3 2147483652 2147483652 (Nat.le_of_ble_eq_true rfl) rfl
  obtain ⟨i4a, i4b, i4c, i4d⟩ := pz_gi hE 4 2147483648 2147484448 (Nat.le_of_ble_eq_true rfl) rfl
  obtain ⟨i5a, i5b, i5c, i5d⟩ := pz_gi hE 5 2147483648 2147484448 (Nat.le_of_ble_eq_true rfl) rfl
  have c_kind : ay_at hp 8 7 = some (ρ 2) := ay_gfj hE 42 28 11 8 7 ax_m1 (ax_vlq rfl rfl) (ax_vlj rfl rfl)
  have c_place : ay_at hp 8 6 = some (ρ 4) := ay_gfj hE 42 24 19 8 6 ax_m2 (ax_vlq rfl rfl) (ax_vlj rfl rfl)
  have c_ahead : ay_at hp 8 5 = some (ρ 5) := ay_gfj hE 42 20 23 8 5 ax_m3 (ax_vlq rfl rfl) (ax_vlj rfl rfl)
  have s1 : (ρ 3 / 4 + 2147483648) % 4294967296 + (ρ 4 / 4 + 2147483648) % 4294967296 = (ρ 5 / 4 + 2147483648) % 4294967296 + 2147483648 := pz_gs hE 15 19 23 ax_m4
  obtain ⟨-, -, -, -, F50⟩ : ay_ex hp 8 ∧ ay_ex hp 10 ∧ ay_ex hp 11 ∧ ay_ex hp 12 ∧ pz_x50 (ρ 0) (ρ 1) (ay_at hp 8 5) (ay_at hp 8 6) (ay_at hp 8 7) (ay_at hp 8 8) (ay_at hp 10 0) (ay_at hp 10 1) (ay_at hp 10 2) (ay_at hp 10 3) (ay_at hp 10 4) (ay_at hp 8 9) (ay_at hp 8 11) (ay_at hp 8 10) (ay_at hp 8 3) (ay_at hp 8 4) (ay_at hp 11) (ay_at hp 12) := (ax_XF_lt (x := 50) (Nat.le_of_ble_eq_true rfl)).mp (ax_gx hE (50, [3, 7]) ax_m0)
  rw [c_kind] at F50
  rw [c_place] at F50
  rw [c_ahead] at F50
  refine ⟨(fun y hy => by cases hy), _, List.mem_cons_self, ρ, fun _ _ => rfl, ax_px hE rfl (fun y hy => ?_)⟩
  cases List.mem_singleton.mp hy
  refine (ax_XF_lt (x := 62) (Nat.le_of_ble_eq_true rfl)).mpr ?_
  show pz_x62 (ρ 0) (ρ 1) (4006) (0)
  have kd : ρ 2 / 4 = pz_kd (pz_gt (ρ 0)) (pz_gN (ρ 0)) (pz_p (pz_cf (pz_gt (ρ 0)) (pz_gN (ρ 0)) (ρ 1 / 4))) := F50.2.2.1
  have e1 : ρ 5 / 4 = pz_nx (pz_gt (ρ 0)) (pz_gN (ρ 0)) (pz_p (pz_cf (pz_gt (ρ 0)) (pz_gN (ρ 0)) (ρ 1 / 4))) := F50.1
  have e2 : ρ 4 / 4 = pz_at (pz_gt (ρ 0)) (pz_gN (ρ 0)) (pz_p (pz_cf (pz_gt (ρ 0)) (pz_gN (ρ 0)) (ρ 1 / 4))) := F50.2.1
  refine ⟨kd.symm.trans (show ρ 2 / 4 = 1 by omega), ?_, fun j hj => absurd (show j < 0 from hj) (by omega)⟩
  show pz_nx (pz_gt (ρ 0)) (pz_gN (ρ 0)) (pz_p (pz_cf (pz_gt (ρ 0)) (pz_gN (ρ 0)) (ρ 1 / 4))) - pz_at (pz_gt (ρ 0)) (pz_gN (ρ 0)) (pz_p (pz_cf (pz_gt (ρ 0)) (pz_gN (ρ 0)) (ρ 1 / 4))) = 4
  omega

theorem axq_iw4_1 : ax_RO ax_wC ax_XC axu_iw4_1 := by
  intro ρ hp hE hT
  have j0 : ρ 0 % 4 = 1 := pz_gj hE 0 (Nat.le_of_ble_eq_true rfl) rfl
  have j1 : ρ 1 % 4 = 1 := pz_gj hE 1 (Nat.le_of_ble_eq_true rfl) rfl
  obtain ⟨i2a, i2b, i2c, i2d⟩ := pz_gi hE 2 2147483648 2147483651 (Nat.le_of_ble_eq_true rfl) rfl
  obtain ⟨i3a, i3b, i3c, i3d⟩ := pz_gi hE 3 0 4294967295 (Nat.le_of_ble_eq_true rfl) rfl
  obtain ⟨i4a, i4b, i4c, i4d⟩ := pz_gi hE 4 2147483648 2147484448 (Nat.le_of_ble_eq_true rfl) rfl
  obtain ⟨i5a, i5b, i5c, i5d⟩ := pz_gi hE 5 0 4294967295 (Nat.le_of_ble_eq_true rfl) rfl
  obtain ⟨i6a, i6b, i6c, i6d⟩ := pz_gi hE 6 2147483520 2147483775 (Nat.le_of_ble_eq_true rfl) rfl
  obtain ⟨i7a, i7b, i7c, i7d⟩ := pz_gi hE 7 2147483648 2147483903 (Nat.le_of_ble_eq_true rfl) rfl
  have s1 : (ρ 2 / 4 + 2147483648) % 4294967296 + (4 / 4 + 2147483648) % 4294967296 = (ρ 3 / 4 + 2147483648) % 4294967296 + 2147483648 := pz_gs hE 11 4 15 ax_m3
  have c_place : ay_at hp 8 6 = some (ρ 4) := ay_gfj hE 42 24 19 8 6 ax_m4 (ax_vlq rfl rfl) (ax_vlj rfl rfl)
  have s2 : (ρ 4 / 4 + 2147483648) % 4294967296 + (ρ 2 / 4 + 2147483648) % 4294967296 = (ρ 5 / 4 + 2147483648) % 4294967296 + 2147483648 := pz_gs hE 19 11 23 ax_m5
  have c_tape : ay_at hp 9 (ρ 5 / 4) = some (ρ 6) := ay_gf hE 46 23 27 9 ax_m6 (ax_vlq rfl rfl)
  have r1 : (ρ 6 / 4 + 2147483648) % 4294967296 = (ρ 7 / 4 + 2147483648) % 4294967296 := pz_gc hE 0 27 31 (Nat.le_of_ble_eq_true rfl) ax_m8
  obtain ⟨-, -, F30⟩ : ay_ex hp 8 ∧ ay_ex hp 9 ∧ pz_x30 (ρ 0) (ay_at hp 8 1) (ay_at hp 9) := (ax_XF_lt (x := 30) (Nat.le_of_ble_eq_true rfl)).mp (ax_gx hE (30, [3]) ax_m0)
  obtain ⟨-, -, -, -, F50⟩ : ay_ex hp 8 ∧ ay_ex hp 10 ∧ ay_ex hp 11 ∧ ay_ex hp 12 ∧ pz_x50 (ρ 0) (ρ 1) (ay_at hp 8 5) (ay_at hp 8 6) (ay_at hp 8 7) (ay_at hp 8 8) (ay_at hp 10 0) (ay_at hp 10 1) (ay_at hp 10 2) (ay_at hp 10 3) (ay_at hp 10 4) (ay_at hp 8 9) (ay_at hp 8 11) (ay_at hp 8 10) (ay_at hp 8 3) (ay_at hp 8 4) (ay_at hp 11) (ay_at hp 12) := (ax_XF_lt (x := 50) (Nat.le_of_ble_eq_true rfl)).mp (ax_gx hE (50, [3, 7]) ax_m1)
  rw [c_place] at F50
  have F62 : pz_x62 (ρ 0) (ρ 1) (4006) (ρ 2) := (ax_XF_lt (x := 62) (Nat.le_of_ble_eq_true rfl)).mp (ax_gx hE (62, [3, 7, 4006, 11]) ax_m2)
  refine ⟨(fun y hy => by cases hy), _, List.mem_cons_self, ρ, fun _ _ => rfl, ax_px hE rfl (fun y hy => ?_)⟩
  cases List.mem_singleton.mp hy
  refine (ax_XF_lt (x := 62) (Nat.le_of_ble_eq_true rfl)).mpr ?_
  show pz_x62 (ρ 0) (ρ 1) (4006) (ρ 3)
  have ch := pz_chr (v := 4006) (i := ρ 2) (z := ρ 7) (l := [108, 105, 110, 107]) (by decide +kernel) (pz_g42 hE 4006 11 31 (by decide))
  have ep : ρ 4 / 4 = pz_at (pz_gt (ρ 0)) (pz_gN (ρ 0)) (pz_p (pz_cf (pz_gt (ρ 0)) (pz_gN (ρ 0)) (ρ 1 / 4))) := F50.2.1
  have hw : pz_at (pz_gt (ρ 0)) (pz_gN (ρ 0)) (pz_p (pz_cf (pz_gt (ρ 0)) (pz_gN (ρ 0)) (ρ 1 / 4))) < pz_gN (ρ 0) ∧ pz_nx (pz_gt (ρ 0)) (pz_gN (ρ 0)) (pz_p (pz_cf (pz_gt (ρ 0)) (pz_gN (ρ 0)) (ρ 1 / 4))) ≤ pz_gN (ρ 0) := pz_wd_le F62.1
  have hln : pz_nx (pz_gt (ρ 0)) (pz_gN (ρ 0)) (pz_p (pz_cf (pz_gt (ρ 0)) (pz_gN (ρ 0)) (ρ 1 / 4))) - pz_at (pz_gt (ρ 0)) (pz_gN (ρ 0)) (pz_p (pz_cf (pz_gt (ρ 0)) (pz_gN (ρ 0)) (ρ 1 / 4))) = 4 := F62.2.1
  have hi1 : ρ 2 / 4 < 4 := by omega
  have ha1 : ρ 4 / 4 ≤ 800 := by omega
  have hq1 : ρ 5 / 4 = ρ 4 / 4 + ρ 2 / 4 := by omega
  have hb := F30.2.2 (ρ 5 / 4) (by have := hw.2; omega)
  rw [c_tape] at hb
  have hb := Option.some.inj hb
  rw [show ρ 5 / 4 = pz_at (pz_gt (ρ 0)) (pz_gN (ρ 0)) (pz_p (pz_cf (pz_gt (ρ 0)) (pz_gN (ρ 0)) (ρ 1 / 4))) + ρ 2 / 4 by omega] at hb
  refine ⟨F62.1, F62.2.1, fun j hj => ?_⟩
  by_cases h : j < ρ 2 / 4
  · exact F62.2.2 j h
  · have e : j = ρ 2 / 4 := by omega
    have hcc : ρ 6 / 4 = ρ 7 / 4 := by omega
    have hb2 : pz_b (pz_gt (ρ 0)) (pz_at (pz_gt (ρ 0)) (pz_gN (ρ 0)) (pz_p (pz_cf (pz_gt (ρ 0)) (pz_gN (ρ 0)) (ρ 1 / 4))) + ρ 2 / 4) = ρ 6 / 4 := by omega
    rw [e]
    refine Eq.trans ?_ (pz_getD ch).symm
    rw [← hcc]
    exact hb2

theorem axq_iw5_1 : ax_RO ax_wC ax_XC axu_iw5_1 := by
  intro ρ hp hE hT
  have j0 : ρ 0 % 4 = 1 := pz_gj hE 0 (Nat.le_of_ble_eq_true rfl) rfl
  have j1 : ρ 1 % 4 = 1 := pz_gj hE 1 (Nat.le_of_ble_eq_true rfl) rfl
  obtain ⟨i2a, i2b, i2c, i2d⟩ := pz_gi hE 2 2147483648 2147483651 (Nat.le_of_ble_eq_true rfl) rfl
  obtain ⟨i3a, i3b, i3c, i3d⟩ := pz_gi hE 3 2147483648 2147484448 (Nat.le_of_ble_eq_true rfl) rfl
  obtain ⟨i4a, i4b, i4c, i4d⟩ := pz_gi hE 4 0 4294967295 (Nat.le_of_ble_eq_true rfl) rfl
  obtain ⟨i5a, i5b, i5c, i5d⟩ := pz_gi hE 5 2147483520 2147483775 (Nat.le_of_ble_eq_true rfl) rfl
  obtain ⟨i6a, i6b, i6c, i6d⟩ := pz_gi hE 6 2147483648 2147483903 (Nat.le_of_ble_eq_true rfl) rfl
  have c_place : ay_at hp 8 6 = some (ρ 3) := ay_gfj hE 42 24 15 8 6 ax_m3 (ax_vlq rfl rfl) (ax_vlj rfl rfl)
  have s1 : (ρ 3 / 4 + 2147483648) % 4294967296 + (ρ 2 / 4 + 2147483648) % 4294967296 = (ρ 4 / 4 + 2147483648) % 4294967296 + 2147483648 := pz_gs hE 15 11 19 ax_m4
  have c_tape : ay_at hp 9 (ρ 4 / 4) = some (ρ 5) := ay_gf hE 46 19 23 9 ax_m5 (ax_vlq rfl rfl)
  have r1 : (ρ 5 / 4 + 2147483648) % 4294967296 ≠ (ρ 6 / 4 + 2147483648) % 4294967296 := pz_gc hE 1 23 27 (Nat.le_of_ble_eq_true rfl) ax_m7
  obtain ⟨-, -, F30⟩ : ay_ex hp 8 ∧ ay_ex hp 9 ∧ pz_x30 (ρ 0) (ay_at hp 8 1) (ay_at hp 9) := (ax_XF_lt (x := 30) (Nat.le_of_ble_eq_true rfl)).mp (ax_gx hE (30, [3]) ax_m0)
  obtain ⟨-, -, -, -, F50⟩ : ay_ex hp 8 ∧ ay_ex hp 10 ∧ ay_ex hp 11 ∧ ay_ex hp 12 ∧ pz_x50 (ρ 0) (ρ 1) (ay_at hp 8 5) (ay_at hp 8 6) (ay_at hp 8 7) (ay_at hp 8 8) (ay_at hp 10 0) (ay_at hp 10 1) (ay_at hp 10 2) (ay_at hp 10 3) (ay_at hp 10 4) (ay_at hp 8 9) (ay_at hp 8 11) (ay_at hp 8 10) (ay_at hp 8 3) (ay_at hp 8 4) (ay_at hp 11) (ay_at hp 12) := (ax_XF_lt (x := 50) (Nat.le_of_ble_eq_true rfl)).mp (ax_gx hE (50, [3, 7]) ax_m1)
  rw [c_place] at F50
  have F62 : pz_x62 (ρ 0) (ρ 1) (4006) (ρ 2) := (ax_XF_lt (x := 62) (Nat.le_of_ble_eq_true rfl)).mp (ax_gx hE (62, [3, 7, 4006, 11]) ax_m2)
  refine ⟨(fun y hy => by cases hy), _, List.mem_cons_self, ρ, fun _ _ => rfl, ax_px hE rfl (fun y hy => ?_)⟩
  cases List.mem_singleton.mp hy
  refine (ax_XF_lt (x := 61) (Nat.le_of_ble_eq_true rfl)).mpr ?_
  show pz61 (pz_gt (ρ 0)) (pz_gN (ρ 0)) ((ρ 1) / 4) ((4006) / 4 - 1000)
  have ch := pz_chr (v := 4006) (i := ρ 2) (z := ρ 6) (l := [108, 105, 110, 107]) (by decide +kernel) (pz_g42 hE 4006 11 27 (by decide))
  have ep : ρ 3 / 4 = pz_at (pz_gt (ρ 0)) (pz_gN (ρ 0)) (pz_p (pz_cf (pz_gt (ρ 0)) (pz_gN (ρ 0)) (ρ 1 / 4))) := F50.2.1
  have hw : pz_at (pz_gt (ρ 0)) (pz_gN (ρ 0)) (pz_p (pz_cf (pz_gt (ρ 0)) (pz_gN (ρ 0)) (ρ 1 / 4))) < pz_gN (ρ 0) ∧ pz_nx (pz_gt (ρ 0)) (pz_gN (ρ 0)) (pz_p (pz_cf (pz_gt (ρ 0)) (pz_gN (ρ 0)) (ρ 1 / 4))) ≤ pz_gN (ρ 0) := pz_wd_le F62.1
  have hln : pz_nx (pz_gt (ρ 0)) (pz_gN (ρ 0)) (pz_p (pz_cf (pz_gt (ρ 0)) (pz_gN (ρ 0)) (ρ 1 / 4))) - pz_at (pz_gt (ρ 0)) (pz_gN (ρ 0)) (pz_p (pz_cf (pz_gt (ρ 0)) (pz_gN (ρ 0)) (ρ 1 / 4))) = 4 := F62.2.1
  have hi1 : ρ 2 / 4 < 4 := by omega
  have ha1 : ρ 3 / 4 ≤ 800 := by omega
  have hq1 : ρ 4 / 4 = ρ 3 / 4 + ρ 2 / 4 := by omega
  have hb := F30.2.2 (ρ 4 / 4) (by have := hw.2; omega)
  rw [c_tape] at hb
  have hb := Option.some.inj hb
  rw [show ρ 4 / 4 = pz_at (pz_gt (ρ 0)) (pz_gN (ρ 0)) (pz_p (pz_cf (pz_gt (ρ 0)) (pz_gN (ρ 0)) (ρ 1 / 4))) + ρ 2 / 4 by omega] at hb
  refine pz_is_no (Or.inr (Or.inr ⟨ρ 2 / 4, show ρ 2 / 4 < 4 by omega, fun z => ?_⟩))
  have hb2 : pz_b (pz_gt (ρ 0)) (pz_at (pz_gt (ρ 0)) (pz_gN (ρ 0)) (pz_p (pz_cf (pz_gt (ρ 0)) (pz_gN (ρ 0)) (ρ 1 / 4))) + ρ 2 / 4) = ρ 5 / 4 := by omega
  have z2 := (hb2.symm.trans z).trans (pz_getD ch)
  rw [z2] at r1
  exact r1 rfl

theorem axq_iw6_1 : ax_RO ax_wC ax_XC axu_iw6_1 := by
  intro ρ hp hE hT
  have j0 : ρ 0 % 4 = 1 := pz_gj hE 0 (Nat.le_of_ble_eq_true rfl) rfl
  have j1 : ρ 1 % 4 = 1 := pz_gj hE 1 (Nat.le_of_ble_eq_true rfl) rfl
  obtain ⟨i2a, i2b, i2c, i2d⟩ := pz_gi hE 2 2147483652 2147483652 (Nat.le_of_ble_eq_true rfl) rfl
  obtain ⟨-, -, -, -, F50⟩ : ay_ex hp 8 ∧ ay_ex hp 10 ∧ ay_ex hp 11 ∧ ay_ex hp 12 ∧ pz_x50 (ρ 0) (ρ 1) (ay_at hp 8 5) (ay_at hp 8 6) (ay_at hp 8 7) (ay_at hp 8 8) (ay_at hp 10 0) (ay_at hp 10 1) (ay_at hp 10 2) (ay_at hp 10 3) (ay_at hp 10 4) (ay_at hp 8 9) (ay_at hp 8 11) (ay_at hp 8 10) (ay_at hp 8 3) (ay_at hp 8 4) (ay_at hp 11) (ay_at hp 12) := (ax_XF_lt (x := 50) (Nat.le_of_ble_eq_true rfl)).mp (ax_gx hE (50, [3, 7]) ax_m0)
  have F62 : pz_x62 (ρ 0) (ρ 1) (4006) (ρ 2) := (ax_XF_lt (x := 62) (Nat.le_of_ble_eq_true rfl)).mp (ax_gx hE (62, [3, 7, 4006, 11]) ax_m1)
  refine ⟨(fun y hy => by cases hy), _, List.mem_cons_self, ρ, fun _ _ => rfl, ax_px hE rfl (fun y hy => ?_)⟩
  cases List.mem_singleton.mp hy
  refine (ax_XF_lt (x := 60) (Nat.le_of_ble_eq_true rfl)).mpr ?_
  show pz60 (pz_gt (ρ 0)) (pz_gN (ρ 0)) ((ρ 1) / 4) ((4006) / 4 - 1000)
  exact pz_is_yes F62.1 F62.2.1 (fun i hi => F62.2.2 i (by have : i < 4 := hi; omega))

theorem axq_iw1a_2 : ax_RO ax_wC ax_XC axu_iw1a_2 := by
  intro ρ hp hE hT
  have j0 : ρ 0 % 4 = 1 := pz_gj hE 0 (Nat.le_of_ble_eq_true rfl) rfl
  have j1 : ρ 1 % 4 = 1 := pz_gj hE 1 (Nat.le_of_ble_eq_true rfl) rfl
  obtain ⟨i2a, i2b, i2c, i2d⟩ := pz_gi hE 2 0 2147483648 (Nat.le_of_ble_eq_true rfl) rfl
  have c_kind : ay_at hp 8 7 = some (ρ 2) := ay_gfj hE 42 28 11 8 7 ax_m1 (ax_vlq rfl rfl) (ax_vlj rfl rfl)
  obtain ⟨-, -, -, -, F50⟩ : ay_ex hp 8 ∧ ay_ex hp 10 ∧ ay_ex hp 11 ∧ ay_ex hp 12 ∧ pz_x50 (ρ 0) (ρ 1) (ay_at hp 8 5) (ay_at hp 8 6) (ay_at hp 8 7) (ay_at hp 8 8) (ay_at hp 10 0) (ay_at hp 10 1) (ay_at hp 10 2) (ay_at hp 10 3) (ay_at hp 10 4) (ay_at hp 8 9) (ay_at hp 8 11) (ay_at hp 8 10) (ay_at hp 8 3) (ay_at hp 8 4) (ay_at hp 11) (ay_at hp 12) := (ax_XF_lt (x := 50) (Nat.le_of_ble_eq_true rfl)).mp (ax_gx hE (50, [3, 7]) ax_m0)
  rw [c_kind] at F50
  refine ⟨(fun y hy => by cases hy), _, List.mem_cons_self, ρ, fun _ _ => rfl, ax_px hE rfl (fun y hy => ?_)⟩
  cases List.mem_singleton.mp hy
  refine (ax_XF_lt (x := 61) (Nat.le_of_ble_eq_true rfl)).mpr ?_
  show pz61 (pz_gt (ρ 0)) (pz_gN (ρ 0)) ((ρ 1) / 4) ((4010) / 4 - 1000)
  have kd : ρ 2 / 4 = pz_kd (pz_gt (ρ 0)) (pz_gN (ρ 0)) (pz_p (pz_cf (pz_gt (ρ 0)) (pz_gN (ρ 0)) (ρ 1 / 4))) := F50.2.2.1
  exact pz_is_no (Or.inl (by omega))

theorem axq_iw1b_2 : ax_RO ax_wC ax_XC axu_iw1b_2 := by
  intro ρ hp hE hT
  have j0 : ρ 0 % 4 = 1 := pz_gj hE 0 (Nat.le_of_ble_eq_true rfl) rfl
  have j1 : ρ 1 % 4 = 1 := pz_gj hE 1 (Nat.le_of_ble_eq_true rfl) rfl
  obtain ⟨i2a, i2b, i2c, i2d⟩ := pz_gi hE 2 2147483650 4294967295 (Nat.le_of_ble_eq_true rfl) rfl
  have c_kind : ay_at hp 8 7 = some (ρ 2) := ay_gfj hE 42 28 11 8 7 ax_m1 (ax_vlq rfl rfl) (ax_vlj rfl rfl)
  obtain ⟨-, -, -, -, F50⟩ : ay_ex hp 8 ∧ ay_ex hp 10 ∧ ay_ex hp 11 ∧ ay_ex hp 12 ∧ pz_x50 (ρ 0) (ρ 1) (ay_at hp 8 5) (ay_at hp 8 6) (ay_at hp 8 7) (ay_at hp 8 8) (ay_at hp 10 0) (ay_at hp 10 1) (ay_at hp 10 2) (ay_at hp 10 3) (ay_at hp 10 4) (ay_at hp 8 9) (ay_at hp 8 11) (ay_at hp 8 10) (ay_at hp 8 3) (ay_at hp 8 4) (ay_at hp 11) (ay_at hp 12) := (ax_XF_lt (x := 50) (Nat.le_of_ble_eq_true rfl)).mp (ax_gx hE (50, [3, 7]) ax_m0)
  rw [c_kind] at F50
  refine ⟨(fun y hy => by cases hy), _, List.mem_cons_self, ρ, fun _ _ => rfl, ax_px hE rfl (fun y hy => ?_)⟩
  cases List.mem_singleton.mp hy
  refine (ax_XF_lt (x := 61) (Nat.le_of_ble_eq_true rfl)).mpr ?_
  show pz61 (pz_gt (ρ 0)) (pz_gN (ρ 0)) ((ρ 1) / 4) ((4010) / 4 - 1000)
  have kd : ρ 2 / 4 = pz_kd (pz_gt (ρ 0)) (pz_gN (ρ 0)) (pz_p (pz_cf (pz_gt (ρ 0)) (pz_gN (ρ 0)) (ρ 1 / 4))) := F50.2.2.1
  exact pz_is_no (Or.inl (by omega))

theorem axq_iw2a_2 : ax_RO ax_wC ax_XC axu_iw2a_2 := by
  intro ρ hp hE hT
  have j0 : ρ 0 % 4 = 1 := pz_gj hE 0 (Nat.le_of_ble_eq_true rfl) rfl
  have j1 : ρ 1 % 4 = 1 := pz_gj hE 1 (Nat.le_of_ble_eq_true rfl) rfl
  obtain ⟨i2a, i2b, i2c, i2d⟩ := pz_gi hE 2 2147482848 2147483651 (Nat.le_of_ble_eq_true rfl) rfl
  obtain ⟨i3a, i3b, i3c, i3d⟩ := pz_gi hE 3 2147483648 2147484448 (Nat.le_of_ble_eq_true rfl) rfl
  obtain ⟨i4a, i4b, i4c, i4d⟩ := pz_gi hE 4 2147483648 2147484448 (Nat.le_of_ble_eq_true rfl) rfl
  have c_place : ay_at hp 8 6 = some (ρ 3) := ay_gfj hE 42 24 15 8 6 ax_m1 (ax_vlq rfl rfl) (ax_vlj rfl rfl)
  have c_ahead : ay_at hp 8 5 = some (ρ 4) := ay_gfj hE 42 20 19 8 5 ax_m2 (ax_vlq rfl rfl) (ax_vlj rfl rfl)
  have s1 : (ρ 2 / 4 + 2147483648) % 4294967296 + (ρ 3 / 4 + 2147483648) % 4294967296 = (ρ 4 / 4 + 2147483648) % 4294967296 + 2147483648 := pz_gs hE 11 15 19 ax_m3
  obtain ⟨-, -, -, -, F50⟩ : ay_ex hp 8 ∧ ay_ex hp 10 ∧ ay_ex hp 11 ∧ ay_ex hp 12 ∧ pz_x50 (ρ 0) (ρ 1) (ay_at hp 8 5) (ay_at hp 8 6) (ay_at hp 8 7) (ay_at hp 8 8) (ay_at hp 10 0) (ay_at hp 10 1) (ay_at hp 10 2) (ay_at hp 10 3) (ay_at hp 10 4) (ay_at hp 8 9) (ay_at hp 8 11) (ay_at hp 8 10) (ay_at hp 8 3) (ay_at hp 8 4) (ay_at hp 11) (ay_at hp 12) := (ax_XF_lt (x := 50) (Nat.le_of_ble_eq_true rfl)).mp (ax_gx hE (50, [3, 7]) ax_m0)
  rw [c_place] at F50
  rw [c_ahead] at F50
  refine ⟨(fun y hy => by cases hy), _, List.mem_cons_self, ρ, fun _ _ => rfl, ax_px hE rfl (fun y hy => ?_)⟩
  cases List.mem_singleton.mp hy
  refine (ax_XF_lt (x := 61) (Nat.le_of_ble_eq_true rfl)).mpr ?_
  show pz61 (pz_gt (ρ 0)) (pz_gN (ρ 0)) ((ρ 1) / 4) ((4010) / 4 - 1000)
  have e1 : ρ 4 / 4 = pz_nx (pz_gt (ρ 0)) (pz_gN (ρ 0)) (pz_p (pz_cf (pz_gt (ρ 0)) (pz_gN (ρ 0)) (ρ 1 / 4))) := F50.1
  have e2 : ρ 3 / 4 = pz_at (pz_gt (ρ 0)) (pz_gN (ρ 0)) (pz_p (pz_cf (pz_gt (ρ 0)) (pz_gN (ρ 0)) (ρ 1 / 4))) := F50.2.1
  refine pz_is_no (Or.inr (Or.inl ?_))
  show pz_nx (pz_gt (ρ 0)) (pz_gN (ρ 0)) (pz_p (pz_cf (pz_gt (ρ 0)) (pz_gN (ρ 0)) (ρ 1 / 4))) - pz_at (pz_gt (ρ 0)) (pz_gN (ρ 0)) (pz_p (pz_cf (pz_gt (ρ 0)) (pz_gN (ρ 0)) (ρ 1 / 4))) ≠ 4
  omega

theorem axq_iw2b_2 : ax_RO ax_wC ax_XC axu_iw2b_2 := by
  intro ρ hp hE hT
  have j0 : ρ 0 % 4 = 1 := pz_gj hE 0 (Nat.le_of_ble_eq_true rfl) rfl
  have j1 : ρ 1 % 4 = 1 := pz_gj hE 1 (Nat.le_of_ble_eq_true rfl) rfl
  obtain ⟨i2a, i2b, i2c, i2d⟩ := pz_gi hE 2 2147483653 2147484448 (Nat.le_of_ble_eq_true rfl) rfl
  obtain ⟨i3a, i3b, i3c, i3d⟩ := pz_gi hE 3 2147483648 2147484448 (Nat.le_of_ble_eq_true rfl) rfl
  obtain ⟨i4a, i4b, i4c, i4d⟩ := pz_gi hE 4 2147483648 2147484448 (Nat.le_of_ble_eq_true rfl) rfl
  have c_place : ay_at hp 8 6 = some (ρ 3) := ay_gfj hE 42 24 15 8 6 ax_m1 (ax_vlq rfl rfl) (ax_vlj rfl rfl)
  have c_ahead : ay_at hp 8 5 = some (ρ 4) := ay_gfj hE 42 20 19 8 5 ax_m2 (ax_vlq rfl rfl) (ax_vlj rfl rfl)
  have s1 : (ρ 2 / 4 + 2147483648) % 4294967296 + (ρ 3 / 4 + 2147483648) % 4294967296 = (ρ 4 / 4 + 2147483648) % 4294967296 + 2147483648 := pz_gs hE 11 15 19 ax_m3
  obtain ⟨-, -, -, -, F50⟩ : ay_ex hp 8 ∧ ay_ex hp 10 ∧ ay_ex hp 11 ∧ ay_ex hp 12 ∧ pz_x50 (ρ 0) (ρ 1) (ay_at hp 8 5) (ay_at hp 8 6) (ay_at hp 8 7) (ay_at hp 8 8) (ay_at hp 10 0) (ay_at hp 10 1) (ay_at hp 10 2) (ay_at hp 10 3) (ay_at hp 10 4) (ay_at hp 8 9) (ay_at hp 8 11) (ay_at hp 8 10) (ay_at hp 8 3) (ay_at hp 8 4) (ay_at hp 11) (ay_at hp 12) := (ax_XF_lt (x := 50) (Nat.le_of_ble_eq_true rfl)).mp (ax_gx hE (50, [3, 7]) ax_m0)
  rw [c_place] at F50
  rw [c_ahead] at F50
  refine ⟨(fun y hy => by cases hy), _, List.mem_cons_self, ρ, fun _ _ => rfl, ax_px hE rfl (fun y hy => ?_)⟩
  cases List.mem_singleton.mp hy
  refine (ax_XF_lt (x := 61) (Nat.le_of_ble_eq_true rfl)).mpr ?_
  show pz61 (pz_gt (ρ 0)) (pz_gN (ρ 0)) ((ρ 1) / 4) ((4010) / 4 - 1000)
  have e1 : ρ 4 / 4 = pz_nx (pz_gt (ρ 0)) (pz_gN (ρ 0)) (pz_p (pz_cf (pz_gt (ρ 0)) (pz_gN (ρ 0)) (ρ 1 / 4))) := F50.1
  have e2 : ρ 3 / 4 = pz_at (pz_gt (ρ 0)) (pz_gN (ρ 0)) (pz_p (pz_cf (pz_gt (ρ 0)) (pz_gN (ρ 0)) (ρ 1 / 4))) := F50.2.1
  refine pz_is_no (Or.inr (Or.inl ?_))
  show pz_nx (pz_gt (ρ 0)) (pz_gN (ρ 0)) (pz_p (pz_cf (pz_gt (ρ 0)) (pz_gN (ρ 0)) (ρ 1 / 4))) - pz_at (pz_gt (ρ 0)) (pz_gN (ρ 0)) (pz_p (pz_cf (pz_gt (ρ 0)) (pz_gN (ρ 0)) (ρ 1 / 4))) ≠ 4
  omega

theorem axq_iw3_2 : ax_RO ax_wC ax_XC axu_iw3_2 := by
  intro ρ hp hE hT
  have j0 : ρ 0 % 4 = 1 := pz_gj hE 0 (Nat.le_of_ble_eq_true rfl) rfl
  have j1 : ρ 1 % 4 = 1 := pz_gj hE 1 (Nat.le_of_ble_eq_true rfl) rfl
  obtain ⟨i2a, i2b, i2c, i2d⟩ := pz_gi hE 2 2147483649 2147483649 (Nat.le_of_ble_eq_true rfl) rfl
  obtain ⟨i3a, i3b, i3c, i3d⟩ := pz_gi hE 3 2147483652 2147483652 (Nat.le_of_ble_eq_true rfl) rfl
  obtain ⟨i4a, i4b, i4c, i4d⟩ := pz_gi hE 4 2147483648 2147484448 (Nat.le_of_ble_eq_true rfl) rfl
  obtain ⟨i5a, i5b, i5c, i5d⟩ := pz_gi hE 5 2147483648 2147484448 (Nat.le_of_ble_eq_true rfl) rfl
  have c_kind : ay_at hp 8 7 = some (ρ 2) := ay_gfj hE 42 28 11 8 7 ax_m1 (ax_vlq rfl rfl) (ax_vlj rfl rfl)
  have c_place : ay_at hp 8 6 = some (ρ 4) := ay_gfj hE 42 24 19 8 6 ax_m2 (ax_vlq rfl rfl) (ax_vlj rfl rfl)
  have c_ahead : ay_at hp 8 5 = some (ρ 5) := ay_gfj hE 42 20 23 8 5 ax_m3 (ax_vlq rfl rfl) (ax_vlj rfl rfl)
  have s1 : (ρ 3 / 4 + 2147483648) % 4294967296 + (ρ 4 / 4 + 2147483648) % 4294967296 = (ρ 5 / 4 + 2147483648) % 4294967296 + 2147483648 := pz_gs hE 15 19 23 ax_m4
  obtain ⟨-, -, -, -, F50⟩ : ay_ex hp 8 ∧ ay_ex hp 10 ∧ ay_ex hp 11 ∧ ay_ex hp 12 ∧ pz_x50 (ρ 0) (ρ 1) (ay_at hp 8 5) (ay_at hp 8 6) (ay_at hp 8 7) (ay_at hp 8 8) (ay_at hp 10 0) (ay_at hp 10 1) (ay_at hp 10 2) (ay_at hp 10 3) (ay_at hp 10 4) (ay_at hp 8 9) (ay_at hp 8 11) (ay_at hp 8 10) (ay_at hp 8 3) (ay_at hp 8 4) (ay_at hp 11) (ay_at hp 12) := (ax_XF_lt (x := 50) (Nat.le_of_ble_eq_true rfl)).mp (ax_gx hE (50, [3, 7]) ax_m0)
  rw [c_kind] at F50
  rw [c_place] at F50
  rw [c_ahead] at F50
  refine ⟨(fun y hy => by cases hy), _, List.mem_cons_self, ρ, fun _ _ => rfl, ax_px hE rfl (fun y hy => ?_)⟩
  cases List.mem_singleton.mp hy
  refine (ax_XF_lt (x := 62) (Nat.le_of_ble_eq_true rfl)).mpr ?_
  show pz_x62 (ρ 0) (ρ 1) (4010) (0)
  have kd : ρ 2 / 4 = pz_kd (pz_gt (ρ 0)) (pz_gN (ρ 0)) (pz_p (pz_cf (pz_gt (ρ 0)) (pz_gN (ρ 0)) (ρ 1 / 4))) := F50.2.2.1
  have e1 : ρ 5 / 4 = pz_nx (pz_gt (ρ 0)) (pz_gN (ρ 0)) (pz_p (pz_cf (pz_gt (ρ 0)) (pz_gN (ρ 0)) (ρ 1 / 4))) := F50.1
  have e2 : ρ 4 / 4 = pz_at (pz_gt (ρ 0)) (pz_gN (ρ 0)) (pz_p (pz_cf (pz_gt (ρ 0)) (pz_gN (ρ 0)) (ρ 1 / 4))) := F50.2.1
  refine ⟨kd.symm.trans (show ρ 2 / 4 = 1 by omega), ?_, fun j hj => absurd (show j < 0 from hj) (by omega)⟩
  show pz_nx (pz_gt (ρ 0)) (pz_gN (ρ 0)) (pz_p (pz_cf (pz_gt (ρ 0)) (pz_gN (ρ 0)) (ρ 1 / 4))) - pz_at (pz_gt (ρ 0)) (pz_gN (ρ 0)) (pz_p (pz_cf (pz_gt (ρ 0)) (pz_gN (ρ 0)) (ρ 1 / 4))) = 4
  omega

theorem axq_iw4_2 : ax_RO ax_wC ax_XC axu_iw4_2 := by
  intro ρ hp hE hT
  have j0 : ρ 0 % 4 = 1 := pz_gj hE 0 (Nat.le_of_ble_eq_true rfl) rfl
  have j1 : ρ 1 % 4 = 1 := pz_gj hE 1 (Nat.le_of_ble_eq_true rfl) rfl
  obtain ⟨i2a, i2b, i2c, i2d⟩ := pz_gi hE 2 2147483648 2147483651 (Nat.le_of_ble_eq_true rfl) rfl
  obtain ⟨i3a, i3b, i3c, i3d⟩ := pz_gi hE 3 0 4294967295 (Nat.le_of_ble_eq_true rfl) rfl
  obtain ⟨i4a, i4b, i4c, i4d⟩ := pz_gi hE 4 2147483648 2147484448 (Nat.le_of_ble_eq_true rfl) rfl
  obtain ⟨i5a, i5b, i5c, i5d⟩ := pz_gi hE 5 0 4294967295 (Nat.le_of_ble_eq_true rfl) rfl
  obtain ⟨i6a, i6b, i6c, i6d⟩ := pz_gi hE 6 2147483520 2147483775 (Nat.le_of_ble_eq_true rfl) rfl
  obtain ⟨i7a, i7b, i7c, i7d⟩ := pz_gi hE 7 2147483648 2147483903 (Nat.le_of_ble_eq_true rfl) rfl
  have s1 : (ρ 2 / 4 + 2147483648) % 4294967296 + (4 / 4 + 2147483648) % 4294967296 = (ρ 3 / 4 + 2147483648) % 4294967296 + 2147483648 := pz_gs hE 11 4 15 ax_m3
  have c_place : ay_at hp 8 6 = some (ρ 4) := ay_gfj hE 42 24 19 8 6 ax_m4 (ax_vlq rfl rfl) (ax_vlj rfl rfl)
  have s2 : (ρ 4 / 4 + 2147483648) % 4294967296 + (ρ 2 / 4 + 2147483648) % 4294967296 = (ρ 5 / 4 + 2147483648) % 4294967296 + 2147483648 := pz_gs hE 19 11 23 ax_m5
  have c_tape : ay_at hp 9 (ρ 5 / 4) = some (ρ 6) := ay_gf hE 46 23 27 9 ax_m6 (ax_vlq rfl rfl)
  have r1 : (ρ 6 / 4 + 2147483648) % 4294967296 = (ρ 7 / 4 + 2147483648) % 4294967296 := pz_gc hE 0 27 31 (Nat.le_of_ble_eq_true rfl) ax_m8
  obtain ⟨-, -, F30⟩ : ay_ex hp 8 ∧ ay_ex hp 9 ∧ pz_x30 (ρ 0) (ay_at hp 8 1) (ay_at hp 9) := (ax_XF_lt (x := 30) (Nat.le_of_ble_eq_true rfl)).mp (ax_gx hE (30, [3]) ax_m0)
  obtain ⟨-, -, -, -, F50⟩ : ay_ex hp 8 ∧ ay_ex hp 10 ∧ ay_ex hp 11 ∧ ay_ex hp 12 ∧ pz_x50 (ρ 0) (ρ 1) (ay_at hp 8 5) (ay_at hp 8 6) (ay_at hp 8 7) (ay_at hp 8 8) (ay_at hp 10 0) (ay_at hp 10 1) (ay_at hp 10 2) (ay_at hp 10 3) (ay_at hp 10 4) (ay_at hp 8 9) (ay_at hp 8 11) (ay_at hp 8 10) (ay_at hp 8 3) (ay_at hp 8 4) (ay_at hp 11) (ay_at hp 12) := (ax_XF_lt (x := 50) (Nat.le_of_ble_eq_true rfl)).mp (ax_gx hE (50, [3, 7]) ax_m1)
  rw [c_place] at F50
  have F62 : pz_x62 (ρ 0) (ρ 1) (4010) (ρ 2) := (ax_XF_lt (x := 62) (Nat.le_of_ble_eq_true rfl)).mp (ax_gx hE (62, [3, 7, 4010, 11]) ax_m2)
  refine ⟨(fun y hy => by cases hy), _, List.mem_cons_self, ρ, fun _ _ => rfl, ax_px hE rfl (fun y hy => ?_)⟩
  cases List.mem_singleton.mp hy
  refine (ax_XF_lt (x := 62) (Nat.le_of_ble_eq_true rfl)).mpr ?_
  show pz_x62 (ρ 0) (ρ 1) (4010) (ρ 3)
  have ch := pz_chr (v := 4010) (i := ρ 2) (z := ρ 7) (l := [114, 111, 111, 116]) (by decide +kernel) (pz_g42 hE 4010 11 31 (by decide))
  have ep : ρ 4 / 4 = pz_at (pz_gt (ρ 0)) (pz_gN (ρ 0)) (pz_p (pz_cf (pz_gt (ρ 0)) (pz_gN (ρ 0)) (ρ 1 / 4))) := F50.2.1
  have hw : pz_at (pz_gt (ρ 0)) (pz_gN (ρ 0)) (pz_p (pz_cf (pz_gt (ρ 0)) (pz_gN (ρ 0)) (ρ 1 / 4))) < pz_gN (ρ 0) ∧ pz_nx (pz_gt (ρ 0)) (pz_gN (ρ 0)) (pz_p (pz_cf (pz_gt (ρ 0)) (pz_gN (ρ 0)) (ρ 1 / 4))) ≤ pz_gN (ρ 0) := pz_wd_le F62.1
  have hln : pz_nx (pz_gt (ρ 0)) (pz_gN (ρ 0)) (pz_p (pz_cf (pz_gt (ρ 0)) (pz_gN (ρ 0)) (ρ 1 / 4))) - pz_at (pz_gt (ρ 0)) (pz_gN (ρ 0)) (pz_p (pz_cf (pz_gt (ρ 0)) (pz_gN (ρ 0)) (ρ 1 / 4))) = 4 := F62.2.1
  have hi1 : ρ 2 / 4 < 4 := by omega
  have ha1 : ρ 4 / 4 ≤ 800 := by omega
  have hq1 : ρ 5 / 4 = ρ 4 / 4 + ρ 2 / 4 := by omega
  have hb := F30.2.2 (ρ 5 / 4) (by have := hw.2; omega)
  rw [c_tape] at hb
  have hb := Option.some.inj hb
  rw [show ρ 5 / 4 = pz_at (pz_gt (ρ 0)) (pz_gN (ρ 0)) (pz_p (pz_cf (pz_gt (ρ 0)) (pz_gN (ρ 0)) (ρ 1 / 4))) + ρ 2 / 4 by omega] at hb
  refine ⟨F62.1, F62.2.1, fun j hj => ?_⟩
  by_cases h : j < ρ 2 / 4
  · exact F62.2.2 j h
  · have e : j = ρ 2 / 4 := by omega
    have hcc : ρ 6 / 4 = ρ 7 / 4 := by omega
    have hb2 : pz_b (pz_gt (ρ 0)) (pz_at (pz_gt (ρ 0)) (pz_gN (ρ 0)) (pz_p (pz_cf (pz_gt (ρ 0)) (pz_gN (ρ 0)) (ρ 1 / 4))) + ρ 2 / 4) = ρ 6 / 4 := by omega
    rw [e]
    refine Eq.trans ?_ (pz_getD ch).symm
    rw [← hcc]
    exact hb2

theorem axq_iw5_2 : ax_RO ax_wC ax_XC axu_iw5_2 := by
  intro ρ hp hE hT
  have j0 : ρ 0 % 4 = 1 := pz_gj hE 0 (Nat.le_of_ble_eq_true rfl) rfl
  have j1 : ρ 1 % 4 = 1 := pz_gj hE 1 (Nat.le_of_ble_eq_true rfl) rfl
  obtain ⟨i2a, i2b, i2c, i2d⟩ := pz_gi hE 2 2147483648 2147483651 (Nat.le_of_ble_eq_true rfl) rfl
  obtain ⟨i3a, i3b, i3c, i3d⟩ := pz_gi hE 3 2147483648 2147484448 (Nat.le_of_ble_eq_true rfl) rfl
  obtain ⟨i4a, i4b, i4c, i4d⟩ := pz_gi hE 4 0 4294967295 (Nat.le_of_ble_eq_true rfl) rfl
  obtain ⟨i5a, i5b, i5c, i5d⟩ := pz_gi hE 5 2147483520 2147483775 (Nat.le_of_ble_eq_true rfl) rfl
  obtain ⟨i6a, i6b, i6c, i6d⟩ := pz_gi hE 6 2147483648 2147483903 (Nat.le_of_ble_eq_true rfl) rfl
  have c_place : ay_at hp 8 6 = some (ρ 3) := ay_gfj hE 42 24 15 8 6 ax_m3 (ax_vlq rfl rfl) (ax_vlj rfl rfl)
  have s1 : (ρ 3 / 4 + 2147483648) % 4294967296 + (ρ 2 / 4 + 2147483648) % 4294967296 = (ρ 4 / 4 + 2147483648) % 4294967296 + 2147483648 := pz_gs hE 15 11 19 ax_m4
  have c_tape : ay_at hp 9 (ρ 4 / 4) = some (ρ 5) := ay_gf hE 46 19 23 9 ax_m5 (ax_vlq rfl rfl)
  have r1 : (ρ 5 / 4 + 2147483648) % 4294967296 ≠ (ρ 6 / 4 + 2147483648) % 4294967296 := pz_gc hE 1 23 27 (Nat.le_of_ble_eq_true rfl) ax_m7
  obtain ⟨-, -, F30⟩ : ay_ex hp 8 ∧ ay_ex hp 9 ∧ pz_x30 (ρ 0) (ay_at hp 8 1) (ay_at hp 9) := (ax_XF_lt (x := 30) (Nat.le_of_ble_eq_true rfl)).mp (ax_gx hE (30, [3]) ax_m0)
  obtain ⟨-, -, -, -, F50⟩ : ay_ex hp 8 ∧ ay_ex hp 10 ∧ ay_ex hp 11 ∧ ay_ex hp 12 ∧ pz_x50 (ρ 0) (ρ 1) (ay_at hp 8 5) (ay_at hp 8 6) (ay_at hp 8 7) (ay_at hp 8 8) (ay_at hp 10 0) (ay_at hp 10 1) (ay_at hp 10 2) (ay_at hp 10 3) (ay_at hp 10 4) (ay_at hp 8 9) (ay_at hp 8 11) (ay_at hp 8 10) (ay_at hp 8 3) (ay_at hp 8 4) (ay_at hp 11) (ay_at hp 12) := (ax_XF_lt (x := 50) (Nat.le_of_ble_eq_true rfl)).mp (ax_gx hE (50, [3, 7]) ax_m1)
  rw [c_place] at F50
  have F62 : pz_x62 (ρ 0) (ρ 1) (4010) (ρ 2) := (ax_XF_lt (x := 62) (Nat.le_of_ble_eq_true rfl)).mp (ax_gx hE (62, [3, 7, 4010, 11]) ax_m2)
  refine ⟨(fun y hy => by cases hy), _, List.mem_cons_self, ρ, fun _ _ => rfl, ax_px hE rfl (fun y hy => ?_)⟩
  cases List.mem_singleton.mp hy
  refine (ax_XF_lt (x := 61) (Nat.le_of_ble_eq_true rfl)).mpr ?_
  show pz61 (pz_gt (ρ 0)) (pz_gN (ρ 0)) ((ρ 1) / 4) ((4010) / 4 - 1000)
  have ch := pz_chr (v := 4010) (i := ρ 2) (z := ρ 6) (l := [114, 111, 111, 116]) (by decide +kernel) (pz_g42 hE 4010 11 27 (by decide))
  have ep : ρ 3 / 4 = pz_at (pz_gt (ρ 0)) (pz_gN (ρ 0)) (pz_p (pz_cf (pz_gt (ρ 0)) (pz_gN (ρ 0)) (ρ 1 / 4))) := F50.2.1
  have hw : pz_at (pz_gt (ρ 0)) (pz_gN (ρ 0)) (pz_p (pz_cf (pz_gt (ρ 0)) (pz_gN (ρ 0)) (ρ 1 / 4))) < pz_gN (ρ 0) ∧ pz_nx (pz_gt (ρ 0)) (pz_gN (ρ 0)) (pz_p (pz_cf (pz_gt (ρ 0)) (pz_gN (ρ 0)) (ρ 1 / 4))) ≤ pz_gN (ρ 0) := pz_wd_le F62.1
  have hln : pz_nx (pz_gt (ρ 0)) (pz_gN (ρ 0)) (pz_p (pz_cf (pz_gt (ρ 0)) (pz_gN (ρ 0)) (ρ 1 / 4))) - pz_at (pz_gt (ρ 0)) (pz_gN (ρ 0)) (pz_p (pz_cf (pz_gt (ρ 0)) (pz_gN (ρ 0)) (ρ 1 / 4))) = 4 := F62.2.1
  have hi1 : ρ 2 / 4 < 4 := by omega
  have ha1 : ρ 3 / 4 ≤ 800 := by omega
  have hq1 : ρ 4 / 4 = ρ 3 / 4 + ρ 2 / 4 := by omega
  have hb := F30.2.2 (ρ 4 / 4) (by have := hw.2; omega)
  rw [c_tape] at hb
  have hb := Option.some.inj hb
  rw [show ρ 4 / 4 = pz_at (pz_gt (ρ 0)) (pz_gN (ρ 0)) (pz_p (pz_cf (pz_gt (ρ 0)) (pz_gN (ρ 0)) (ρ 1 / 4))) + ρ 2 / 4 by omega] at hb
  refine pz_is_no (Or.inr (Or.inr ⟨ρ 2 / 4, show ρ 2 / 4 < 4 by omega, fun z => ?_⟩))
  have hb2 : pz_b (pz_gt (ρ 0)) (pz_at (pz_gt (ρ 0)) (pz_gN (ρ 0)) (pz_p (pz_cf (pz_gt (ρ 0)) (pz_gN (ρ 0)) (ρ 1 / 4))) + ρ 2 / 4) = ρ 5 / 4 := by omega
  have z2 := (hb2.symm.trans z).trans (pz_getD ch)
  rw [z2] at r1
  exact r1 rfl

theorem axq_iw6_2 : ax_RO ax_wC ax_XC axu_iw6_2 := by
  intro ρ hp hE hT
  have j0 : ρ 0 % 4 = 1 := pz_gj hE 0 (Nat.le_of_ble_eq_true rfl) rfl
  have j1 : ρ 1 % 4 = 1 := pz_gj hE 1 (Nat.le_of_ble_eq_true rfl) rfl
  obtain ⟨i2a, i2b, i2c, i2d⟩ := pz_gi hE 2 2147483652 2147483652 (Nat.le_of_ble_eq_true rfl) rfl
  obtain ⟨-, -, -, -, F50⟩ : ay_ex hp 8 ∧ ay_ex hp 10 ∧ ay_ex hp 11 ∧ ay_ex hp 12 ∧ pz_x50 (ρ 0) (ρ 1) (ay_at hp 8 5) (ay_at hp 8 6) (ay_at hp 8 7) (ay_at hp 8 8) (ay_at hp 10 0) (ay_at hp 10 1) (ay_at hp 10 2) (ay_at hp 10 3) (ay_at hp 10 4) (ay_at hp 8 9) (ay_at hp 8 11) (ay_at hp 8 10) (ay_at hp 8 3) (ay_at hp 8 4) (ay_at hp 11) (ay_at hp 12) := (ax_XF_lt (x := 50) (Nat.le_of_ble_eq_true rfl)).mp (ax_gx hE (50, [3, 7]) ax_m0)
  have F62 : pz_x62 (ρ 0) (ρ 1) (4010) (ρ 2) := (ax_XF_lt (x := 62) (Nat.le_of_ble_eq_true rfl)).mp (ax_gx hE (62, [3, 7, 4010, 11]) ax_m1)
  refine ⟨(fun y hy => by cases hy), _, List.mem_cons_self, ρ, fun _ _ => rfl, ax_px hE rfl (fun y hy => ?_)⟩
  cases List.mem_singleton.mp hy
  refine (ax_XF_lt (x := 60) (Nat.le_of_ble_eq_true rfl)).mpr ?_
  show pz60 (pz_gt (ρ 0)) (pz_gN (ρ 0)) ((ρ 1) / 4) ((4010) / 4 - 1000)
  exact pz_is_yes F62.1 F62.2.1 (fun i hi => F62.2.2 i (by have : i < 4 := hi; omega))

theorem axq_iw1a_3 : ax_RO ax_wC ax_XC axu_iw1a_3 := by
  intro ρ hp hE hT
  have j0 : ρ 0 % 4 = 1 := pz_gj hE 0 (Nat.le_of_ble_eq_true rfl) rfl
  have j1 : ρ 1 % 4 = 1 := pz_gj hE 1 (Nat.le_of_ble_eq_true rfl) rfl
  obtain ⟨i2a, i2b, i2c, i2d⟩ := pz_gi hE 2 0 2147483648 (Nat.le_of_ble_eq_true rfl) rfl
  have c_kind : ay_at hp 8 7 = some (ρ 2) := ay_gfj hE 42 28 11 8 7 ax_m1 (ax_vlq rfl rfl) (ax_vlj rfl rfl)
  obtain ⟨-, -, -, -, F50⟩ : ay_ex hp 8 ∧ ay_ex hp 10 ∧ ay_ex hp 11 ∧ ay_ex hp 12 ∧ pz_x50 (ρ 0) (ρ 1) (ay_at hp 8 5) (ay_at hp 8 6) (ay_at hp 8 7) (ay_at hp 8 8) (ay_at hp 10 0) (ay_at hp 10 1) (ay_at hp 10 2) (ay_at hp 10 3) (ay_at hp 10 4) (ay_at hp 8 9) (ay_at hp 8 11) (ay_at hp 8 10) (ay_at hp 8 3) (ay_at hp 8 4) (ay_at hp 11) (ay_at hp 12) := (ax_XF_lt (x := 50) (Nat.le_of_ble_eq_true rfl)).mp (ax_gx hE (50, [3, 7]) ax_m0)
  rw [c_kind] at F50
  refine ⟨(fun y hy => by cases hy), _, List.mem_cons_self, ρ, fun _ _ => rfl, ax_px hE rfl (fun y hy => ?_)⟩
  cases List.mem_singleton.mp hy
  refine (ax_XF_lt (x := 61) (Nat.le_of_ble_eq_true rfl)).mpr ?_
  show pz61 (pz_gt (ρ 0)) (pz_gN (ρ 0)) ((ρ 1) / 4) ((4014) / 4 - 1000)
  have kd : ρ 2 / 4 = pz_kd (pz_gt (ρ 0)) (pz_gN (ρ 0)) (pz_p (pz_cf (pz_gt (ρ 0)) (pz_gN (ρ 0)) (ρ 1 / 4))) := F50.2.2.1
  exact pz_is_no (Or.inl (by omega))

theorem axq_iw1b_3 : ax_RO ax_wC ax_XC axu_iw1b_3 := by
  intro ρ hp hE hT
  have j0 : ρ 0 % 4 = 1 := pz_gj hE 0 (Nat.le_of_ble_eq_true rfl) rfl
  have j1 : ρ 1 % 4 = 1 := pz_gj hE 1 (Nat.le_of_ble_eq_true rfl) rfl
  obtain ⟨i2a, i2b, i2c, i2d⟩ := pz_gi hE 2 2147483650 4294967295 (Nat.le_of_ble_eq_true rfl) rfl
  have c_kind : ay_at hp 8 7 = some (ρ 2) := ay_gfj hE 42 28 11 8 7 ax_m1 (ax_vlq rfl rfl) (ax_vlj rfl rfl)
  obtain ⟨-, -, -, -, F50⟩ : ay_ex hp 8 ∧ ay_ex hp 10 ∧ ay_ex hp 11 ∧ ay_ex hp 12 ∧ pz_x50 (ρ 0) (ρ 1) (ay_at hp 8 5) (ay_at hp 8 6) (ay_at hp 8 7) (ay_at hp 8 8) (ay_at hp 10 0) (ay_at hp 10 1) (ay_at hp 10 2) (ay_at hp 10 3) (ay_at hp 10 4) (ay_at hp 8 9) (ay_at hp 8 11) (ay_at hp 8 10) (ay_at hp 8 3) (ay_at hp 8 4) (ay_at hp 11) (ay_at hp 12) := (ax_XF_lt (x := 50) (Nat.le_of_ble_eq_true rfl)).mp (ax_gx hE (50, [3, 7]) ax_m0)
  rw [c_kind] at F50
  refine ⟨(fun y hy => by cases hy), _, List.mem_cons_self, ρ, fun _ _ => rfl, ax_px hE rfl (fun y hy => ?_)⟩
  cases List.mem_singleton.mp hy
  refine (ax_XF_lt (x := 61) (Nat.le_of_ble_eq_true rfl)).mpr ?_
  show pz61 (pz_gt (ρ 0)) (pz_gN (ρ 0)) ((ρ 1) / 4) ((4014) / 4 - 1000)
  have kd : ρ 2 / 4 = pz_kd (pz_gt (ρ 0)) (pz_gN (ρ 0)) (pz_p (pz_cf (pz_gt (ρ 0)) (pz_gN (ρ 0)) (ρ 1 / 4))) := F50.2.2.1
  exact pz_is_no (Or.inl (by omega))

theorem axq_iw2a_3 : ax_RO ax_wC ax_XC axu_iw2a_3 := by
  intro ρ hp hE hT
  have j0 : ρ 0 % 4 = 1 := pz_gj hE 0 (Nat.le_of_ble_eq_true rfl) rfl
  have j1 : ρ 1 % 4 = 1 := pz_gj hE 1 (Nat.le_of_ble_eq_true rfl) rfl
  obtain ⟨i2a, i2b, i2c, i2d⟩ := pz_gi hE 2 2147482848 2147483651 (Nat.le_of_ble_eq_true rfl) rfl
  obtain ⟨i3a, i3b, i3c, i3d⟩ := pz_gi hE 3 2147483648 2147484448 (Nat.le_of_ble_eq_true rfl) rfl
  obtain ⟨i4a, i4b, i4c, i4d⟩ := pz_gi hE 4 2147483648 2147484448 (Nat.le_of_ble_eq_true rfl) rfl
  have c_place : ay_at hp 8 6 = some (ρ 3) := ay_gfj hE 42 24 15 8 6 ax_m1 (ax_vlq rfl rfl) (ax_vlj rfl rfl)
  have c_ahead : ay_at hp 8 5 = some (ρ 4) := ay_gfj hE 42 20 19 8 5 ax_m2 (ax_vlq rfl rfl) (ax_vlj rfl rfl)
  have s1 : (ρ 2 / 4 + 2147483648) % 4294967296 + (ρ 3 / 4 + 2147483648) % 4294967296 = (ρ 4 / 4 + 2147483648) % 4294967296 + 2147483648 := pz_gs hE 11 15 19 ax_m3
  obtain ⟨-, -, -, -, F50⟩ : ay_ex hp 8 ∧ ay_ex hp 10 ∧ ay_ex hp 11 ∧ ay_ex hp 12 ∧ pz_x50 (ρ 0) (ρ 1) (ay_at hp 8 5) (ay_at hp 8 6) (ay_at hp 8 7) (ay_at hp 8 8) (ay_at hp 10 0) (ay_at hp 10 1) (ay_at hp 10 2) (ay_at hp 10 3) (ay_at hp 10 4) (ay_at hp 8 9) (ay_at hp 8 11) (ay_at hp 8 10) (ay_at hp 8 3) (ay_at hp 8 4) (ay_at hp 11) (ay_at hp 12) := (ax_XF_lt (x := 50) (Nat.le_of_ble_eq_true rfl)).mp (ax_gx hE (50, [3, 7]) ax_m0)
  rw [c_place] at F50
  rw [c_ahead] at F50
  refine ⟨(fun y hy => by cases hy), _, List.mem_cons_self, ρ, fun _ _ => rfl, ax_px hE rfl (fun y hy => ?_)⟩
  cases List.mem_singleton.mp hy
  refine (ax_XF_lt (x := 61) (Nat.le_of_ble_eq_true rfl)).mpr ?_
  show pz61 (pz_gt (ρ 0)) (pz_gN (ρ 0)) ((ρ 1) / 4) ((4014) / 4 - 1000)
  have e1 : ρ 4 / 4 = pz_nx (pz_gt (ρ 0)) (pz_gN (ρ 0)) (pz_p (pz_cf (pz_gt (ρ 0)) (pz_gN (ρ 0)) (ρ 1 / 4))) := F50.1
  have e2 : ρ 3 / 4 = pz_at (pz_gt (ρ 0)) (pz_gN (ρ 0)) (pz_p (pz_cf (pz_gt (ρ 0)) (pz_gN (ρ 0)) (ρ 1 / 4))) := F50.2.1
  refine pz_is_no (Or.inr (Or.inl ?_))
  show pz_nx (pz_gt (ρ 0)) (pz_gN (ρ 0)) (pz_p (pz_cf (pz_gt (ρ 0)) (pz_gN (ρ 0)) (ρ 1 / 4))) - pz_at (pz_gt (ρ 0)) (pz_gN (ρ 0)) (pz_p (pz_cf (pz_gt (ρ 0)) (pz_gN (ρ 0)) (ρ 1 / 4))) ≠ 4
  omega

theorem axq_iw2b_3 : ax_RO ax_wC ax_XC axu_iw2b_3 := by
  intro ρ hp hE hT
  have j0 : ρ 0 % 4 = 1 := pz_gj hE 0 (Nat.le_of_ble_eq_true rfl) rfl
  have j1 : ρ 1 % 4 = 1 := pz_gj hE 1 (Nat.le_of_ble_eq_true rfl) rfl
  obtain ⟨i2a, i2b, i2c, i2d⟩ := pz_gi hE 2 2147483653 2147484448 (Nat.le_of_ble_eq_true rfl) rfl
  obtain ⟨i3a, i3b, i3c, i3d⟩ := pz_gi hE 3 2147483648 2147484448 (Nat.le_of_ble_eq_true rfl) rfl
  obtain ⟨i4a, i4b, i4c, i4d⟩ := pz_gi hE 4 2147483648 2147484448 (Nat.le_of_ble_eq_true rfl) rfl
  have c_place : ay_at hp 8 6 = some (ρ 3) := ay_gfj hE 42 24 15 8 6 ax_m1 (ax_vlq rfl rfl) (ax_vlj rfl rfl)
  have c_ahead : ay_at hp 8 5 = some (ρ 4) := ay_gfj hE 42 20 19 8 5 ax_m2 (ax_vlq rfl rfl) (ax_vlj rfl rfl)
  have s1 : (ρ 2 / 4 + 2147483648) % 4294967296 + (ρ 3 / 4 + 2147483648) % 4294967296 = (ρ 4 / 4 + 2147483648) % 4294967296 + 2147483648 := pz_gs hE 11 15 19 ax_m3
  obtain ⟨-, -, -, -, F50⟩ : ay_ex hp 8 ∧ ay_ex hp 10 ∧ ay_ex hp 11 ∧ ay_ex hp 12 ∧ pz_x50 (ρ 0) (ρ 1) (ay_at hp 8 5) (ay_at hp 8 6) (ay_at hp 8 7) (ay_at hp 8 8) (ay_at hp 10 0) (ay_at hp 10 1) (ay_at hp 10 2) (ay_at hp 10 3) (ay_at hp 10 4) (ay_at hp 8 9) (ay_at hp 8 11) (ay_at hp 8 10) (ay_at hp 8 3) (ay_at hp 8 4) (ay_at hp 11) (ay_at hp 12) := (ax_XF_lt (x := 50) (Nat.le_of_ble_eq_true rfl)).mp (ax_gx hE (50, [3, 7]) ax_m0)
  rw [c_place] at F50
  rw [c_ahead] at F50
  refine ⟨(fun y hy => by cases hy), _, List.mem_cons_self, ρ, fun _ _ => rfl, ax_px hE rfl (fun y hy => ?_)⟩
  cases List.mem_singleton.mp hy
  refine (ax_XF_lt (x := 61) (Nat.le_of_ble_eq_true rfl)).mpr ?_
  show pz61 (pz_gt (ρ 0)) (pz_gN (ρ 0)) ((ρ 1) / 4) ((4014) / 4 - 1000)
  have e1 : ρ 4 / 4 = pz_nx (pz_gt (ρ 0)) (pz_gN (ρ 0)) (pz_p (pz_cf (pz_gt (ρ 0)) (pz_gN (ρ 0)) (ρ 1 / 4))) := F50.1
  have e2 : ρ 3 / 4 = pz_at (pz_gt (ρ 0)) (pz_gN (ρ 0)) (pz_p (pz_cf (pz_gt (ρ 0)) (pz_gN (ρ 0)) (ρ 1 / 4))) := F50.2.1
  refine pz_is_no (Or.inr (Or.inl ?_))
  show pz_nx (pz_gt (ρ 0)) (pz_gN (ρ 0)) (pz_p (pz_cf (pz_gt (ρ 0)) (pz_gN (ρ 0)) (ρ 1 / 4))) - pz_at (pz_gt (ρ 0)) (pz_gN (ρ 0)) (pz_p (pz_cf (pz_gt (ρ 0)) (pz_gN (ρ 0)) (ρ 1 / 4))) ≠ 4
  omega

theorem axq_iw3_3 : ax_RO ax_wC ax_XC axu_iw3_3 := by
  intro ρ hp hE hT
  have j0 : ρ 0 % 4 = 1 := pz_gj hE 0 (Nat.le_of_ble_eq_true rfl) rfl
  have j1 : ρ 1 % 4 = 1 := pz_gj hE 1 (Nat.le_of_ble_eq_true rfl) rfl
  obtain ⟨i2a, i2b, i2c, i2d⟩ := pz_gi hE 2 2147483649 2147483649 (Nat.le_of_ble_eq_true rfl) rfl
  obtain ⟨i3a, i3b, i3c, i3d⟩ := pz_gi hE 3 2147483652 2147483652 (Nat.le_of_ble_eq_true rfl) rfl
  obtain ⟨i4a, i4b, i4c, i4d⟩ := pz_gi hE 4 2147483648 2147484448 (Nat.le_of_ble_eq_true rfl) rfl
  obtain ⟨i5a, i5b, i5c, i5d⟩ := pz_gi hE 5 2147483648 2147484448 (Nat.le_of_ble_eq_true rfl) rfl
  have c_kind : ay_at hp 8 7 = some (ρ 2) := ay_gfj hE 42 28 11 8 7 ax_m1 (ax_vlq rfl rfl) (ax_vlj rfl rfl)
  have c_place : ay_at hp 8 6 = some (ρ 4) := ay_gfj hE 42 24 19 8 6 ax_m2 (ax_vlq rfl rfl) (ax_vlj rfl rfl)
  have c_ahead : ay_at hp 8 5 = some (ρ 5) := ay_gfj hE 42 20 23 8 5 ax_m3 (ax_vlq rfl rfl) (ax_vlj rfl rfl)
  have s1 : (ρ 3 / 4 + 2147483648) % 4294967296 + (ρ 4 / 4 + 2147483648) % 4294967296 = (ρ 5 / 4 + 2147483648) % 4294967296 + 2147483648 := pz_gs hE 15 19 23 ax_m4
  obtain ⟨-, -, -, -, F50⟩ : ay_ex hp 8 ∧ ay_ex hp 10 ∧ ay_ex hp 11 ∧ ay_ex hp 12 ∧ pz_x50 (ρ 0) (ρ 1) (ay_at hp 8 5) (ay_at hp 8 6) (ay_at hp 8 7) (ay_at hp 8 8) (ay_at hp 10 0) (ay_at hp 10 1) (ay_at hp 10 2) (ay_at hp 10 3) (ay_at hp 10 4) (ay_at hp 8 9) (ay_at hp 8 11) (ay_at hp 8 10) (ay_at hp 8 3) (ay_at hp 8 4) (ay_at hp 11) (ay_at hp 12) := (ax_XF_lt (x := 50) (Nat.le_of_ble_eq_true rfl)).mp (ax_gx hE (50, [3, 7]) ax_m0)
  rw [c_kind] at F50
  rw [c_place] at F50
  rw [c_ahead] at F50
  refine ⟨(fun y hy => by cases hy), _, List.mem_cons_self, ρ, fun _ _ => rfl, ax_px hE rfl (fun y hy => ?_)⟩
  cases List.mem_singleton.mp hy
  refine (ax_XF_lt (x := 62) (Nat.le_of_ble_eq_true rfl)).mpr ?_
  show pz_x62 (ρ 0) (ρ 1) (4014) (0)
  have kd : ρ 2 / 4 = pz_kd (pz_gt (ρ 0)) (pz_gN (ρ 0)) (pz_p (pz_cf (pz_gt (ρ 0)) (pz_gN (ρ 0)) (ρ 1 / 4))) := F50.2.2.1
  have e1 : ρ 5 / 4 = pz_nx (pz_gt (ρ 0)) (pz_gN (ρ 0)) (pz_p (pz_cf (pz_gt (ρ 0)) (pz_gN (ρ 0)) (ρ 1 / 4))) := F50.1
  have e2 : ρ 4 / 4 = pz_at (pz_gt (ρ 0)) (pz_gN (ρ 0)) (pz_p (pz_cf (pz_gt (ρ 0)) (pz_gN (ρ 0)) (ρ 1 / 4))) := F50.2.1
  refine ⟨kd.symm.trans (show ρ 2 / 4 = 1 by omega), ?_, fun j hj => absurd (show j < 0 from hj) (by omega)⟩
  show pz_nx (pz_gt (ρ 0)) (pz_gN (ρ 0)) (pz_p (pz_cf (pz_gt (ρ 0)) (pz_gN (ρ 0)) (ρ 1 / 4))) - pz_at (pz_gt (ρ 0)) (pz_gN (ρ 0)) (pz_p (pz_cf (pz_gt (ρ 0)) (pz_gN (ρ 0)) (ρ 1 / 4))) = 4
  omega

theorem axq_iw4_3 : ax_RO ax_wC ax_XC axu_iw4_3 := by
  intro ρ hp hE hT
  have j0 : ρ 0 % 4 = 1 := pz_gj hE 0 (Nat.le_of_ble_eq_true rfl) rfl
  have j1 : ρ 1 % 4 = 1 := pz_gj hE 1 (Nat.le_of_ble_eq_true rfl) rfl
  obtain ⟨i2a, i2b, i2c, i2d⟩ := pz_gi hE 2 2147483648 2147483651 (Nat.le_of_ble_eq_true rfl) rfl
  obtain ⟨i3a, i3b, i3c, i3d⟩ := pz_gi hE 3 0 4294967295 (Nat.le_of_ble_eq_true rfl) rfl
  obtain ⟨i4a, i4b, i4c, i4d⟩ := pz_gi hE 4 2147483648 2147484448 (Nat.le_of_ble_eq_true rfl) rfl
  obtain ⟨i5a, i5b, i5c, i5d⟩ := pz_gi hE 5 0 4294967295 (Nat.le_of_ble_eq_true rfl) rfl
  obtain ⟨i6a, i6b, i6c, i6d⟩ := pz_gi hE 6 2147483520 2147483775 (Nat.le_of_ble_eq_true rfl) rfl
  obtain ⟨i7a, i7b, i7c, i7d⟩ := pz_gi hE 7 2147483648 2147483903 (Nat.le_of_ble_eq_true rfl) rfl
  have s1 : (ρ 2 / 4 + 2147483648) % 4294967296 + (4 / 4 + 2147483648) % 4294967296 = (ρ 3 / 4 + 2147483648) % 4294967296 + 2147483648 := pz_gs hE 11 4 15 ax_m3
  have c_place : ay_at hp 8 6 = some (ρ 4) := ay_gfj hE 42 24 19 8 6 ax_m4 (ax_vlq rfl rfl) (ax_vlj rfl rfl)
  have s2 : (ρ 4 / 4 + 2147483648) % 4294967296 + (ρ 2 / 4 + 2147483648) % 4294967296 = (ρ 5 / 4 + 2147483648) % 4294967296 + 2147483648 := pz_gs hE 19 11 23 ax_m5
  have c_tape : ay_at hp 9 (ρ 5 / 4) = some (ρ 6) := ay_gf hE 46 23 27 9 ax_m6 (ax_vlq rfl rfl)
  have r1 : (ρ 6 / 4 + 2147483648) % 4294967296 = (ρ 7 / 4 + 2147483648) % 4294967296 := pz_gc hE 0 27 31 (Nat.le_of_ble_eq_true rfl) ax_m8
  obtain ⟨-, -, F30⟩ : ay_ex hp 8 ∧ ay_ex hp 9 ∧ pz_x30 (ρ 0) (ay_at hp 8 1) (ay_at hp 9) := (ax_XF_lt (x := 30) (Nat.le_of_ble_eq_true rfl)).mp (ax_gx hE (30, [3]) ax_m0)
  obtain ⟨-, -, -, -, F50⟩ : ay_ex hp 8 ∧ ay_ex hp 10 ∧ ay_ex hp 11 ∧ ay_ex hp 12 ∧ pz_x50 (ρ 0) (ρ 1) (ay_at hp 8 5) (ay_at hp 8 6) (ay_at hp 8 7) (ay_at hp 8 8) (ay_at hp 10 0) (ay_at hp 10 1) (ay_at hp 10 2) (ay_at hp 10 3) (ay_at hp 10 4) (ay_at hp 8 9) (ay_at hp 8 11) (ay_at hp 8 10) (ay_at hp 8 3) (ay_at hp 8 4) (ay_at hp 11) (ay_at hp 12) := (ax_XF_lt (x := 50) (Nat.le_of_ble_eq_true rfl)).mp (ax_gx hE (50, [3, 7]) ax_m1)
  rw [c_place] at F50
  have F62 : pz_x62 (ρ 0) (ρ 1) (4014) (ρ 2) := (ax_XF_lt (x := 62) (Nat.le_of_ble_eq_true rfl)).mp (ax_gx hE (62, [3, 7, 4014, 11]) ax_m2)
  refine ⟨(fun y hy => by cases hy), _, List.mem_cons_self, ρ, fun _ _ => rfl, ax_px hE rfl (fun y hy => ?_)⟩
  cases List.mem_singleton.mp hy
  refine (ax_XF_lt (x := 62) (Nat.le_of_ble_eq_true rfl)).mpr ?_
  show pz_x62 (ρ 0) (ρ 1) (4014) (ρ 3)
  have ch := pz_chr (v := 4014) (i := ρ 2) (z := ρ 7) (l := [114, 111, 111, 109]) (by decide +kernel) (pz_g42 hE 4014 11 31 (by decide))
  have ep : ρ 4 / 4 = pz_at (pz_gt (ρ 0)) (pz_gN (ρ 0)) (pz_p (pz_cf (pz_gt (ρ 0)) (pz_gN (ρ 0)) (ρ 1 / 4))) := F50.2.1
  have hw : pz_at (pz_gt (ρ 0)) (pz_gN (ρ 0)) (pz_p (pz_cf (pz_gt (ρ 0)) (pz_gN (ρ 0)) (ρ 1 / 4))) < pz_gN (ρ 0) ∧ pz_nx (pz_gt (ρ 0)) (pz_gN (ρ 0)) (pz_p (pz_cf (pz_gt (ρ 0)) (pz_gN (ρ 0)) (ρ 1 / 4))) ≤ pz_gN (ρ 0) := pz_wd_le F62.1
  have hln : pz_nx (pz_gt (ρ 0)) (pz_gN (ρ 0)) (pz_p (pz_cf (pz_gt (ρ 0)) (pz_gN (ρ 0)) (ρ 1 / 4))) - pz_at (pz_gt (ρ 0)) (pz_gN (ρ 0)) (pz_p (pz_cf (pz_gt (ρ 0)) (pz_gN (ρ 0)) (ρ 1 / 4))) = 4 := F62.2.1
  have hi1 : ρ 2 / 4 < 4 := by omega
  have ha1 : ρ 4 / 4 ≤ 800 := by omega
  have hq1 : ρ 5 / 4 = ρ 4 / 4 + ρ 2 / 4 := by omega
  have hb := F30.2.2 (ρ 5 / 4) (by have := hw.2; omega)
  rw [c_tape] at hb
  have hb := Option.some.inj hb
  rw [show ρ 5 / 4 = pz_at (pz_gt (ρ 0)) (pz_gN (ρ 0)) (pz_p (pz_cf (pz_gt (ρ 0)) (pz_gN (ρ 0)) (ρ 1 / 4))) + ρ 2 / 4 by omega] at hb
  refine ⟨F62.1, F62.2.1, fun j hj => ?_⟩
  by_cases h : j < ρ 2 / 4
  · exact F62.2.2 j h
  · have e : j = ρ 2 / 4 := by omega
    have hcc : ρ 6 / 4 = ρ 7 / 4 := by omega
    have hb2 : pz_b (pz_gt (ρ 0)) (pz_at (pz_gt (ρ 0)) (pz_gN (ρ 0)) (pz_p (pz_cf (pz_gt (ρ 0)) (pz_gN (ρ 0)) (ρ 1 / 4))) + ρ 2 / 4) = ρ 6 / 4 := by omega
    rw [e]
    refine Eq.trans ?_ (pz_getD ch).symm
    rw [← hcc]
    exact hb2

theorem axq_iw5_3 : ax_RO ax_wC ax_XC axu_iw5_3 := by
  intro ρ hp hE hT
  have j0 : ρ 0 % 4 = 1 := pz_gj hE 0 (Nat.le_of_ble_eq_true rfl) rfl
  have j1 : ρ 1 % 4 = 1 := pz_gj hE 1 (Nat.le_of_ble_eq_true rfl) rfl
  obtain ⟨i2a, i2b, i2c, i2d⟩ := pz_gi hE 2 2147483648 2147483651 (Nat.le_of_ble_eq_true rfl) rfl
  obtain ⟨i3a, i3b, i3c, i3d⟩ := pz_gi hE 3 2147483648 2147484448 (Nat.le_of_ble_eq_true rfl) rfl
  obtain ⟨i4a, i4b, i4c, i4d⟩ := pz_gi hE 4 0 4294967295 (Nat.le_of_ble_eq_true rfl) rfl
  obtain ⟨i5a, i5b, i5c, i5d⟩ := pz_gi hE 5 2147483520 2147483775 (Nat.le_of_ble_eq_true rfl) rfl
  obtain ⟨i6a, i6b, i6c, i6d⟩ := pz_gi hE 6 2147483648 2147483903 (Nat.le_of_ble_eq_true rfl) rfl
  have c_place : ay_at hp 8 6 = some (ρ 3) := ay_gfj hE 42 24 15 8 6 ax_m3 (ax_vlq rfl rfl) (ax_vlj rfl rfl)
  have s1 : (ρ 3 / 4 + 2147483648) % 4294967296 + (ρ 2 / 4 + 2147483648) % 4294967296 = (ρ 4 / 4 + 2147483648) % 4294967296 + 2147483648 := pz_gs hE 15 11 19 ax_m4
  have c_tape : ay_at hp 9 (ρ 4 / 4) = some (ρ 5) := ay_gf hE 46 19 23 9 ax_m5 (ax_vlq rfl rfl)
  have r1 : (ρ 5 / 4 + 2147483648) % 4294967296 ≠ (ρ 6 / 4 + 2147483648) % 4294967296 := pz_gc hE 1 23 27 (Nat.le_of_ble_eq_true rfl) ax_m7
  obtain ⟨-, -, F30⟩ : ay_ex hp 8 ∧ ay_ex hp 9 ∧ pz_x30 (ρ 0) (ay_at hp 8 1) (ay_at hp 9) := (ax_XF_lt (x := 30) (Nat.le_of_ble_eq_true rfl)).mp (ax_gx hE (30, [3]) ax_m0)
  obtain ⟨-, -, -, -, F50⟩ : ay_ex hp 8 ∧ ay_ex hp 10 ∧ ay_ex hp 11 ∧ ay_ex hp 12 ∧ pz_x50 (ρ 0) (ρ 1) (ay_at hp 8 5) (ay_at hp 8 6) (ay_at hp 8 7) (ay_at hp 8 8) (ay_at hp 10 0) (ay_at hp 10 1) (ay_at hp 10 2) (ay_at hp 10 3) (ay_at hp 10 4) (ay_at hp 8 9) (ay_at hp 8 11) (ay_at hp 8 10) (ay_at hp 8 3) (ay_at hp 8 4) (ay_at hp 11) (ay_at hp 12) := (ax_XF_lt (x := 50) (Nat.le_of_ble_eq_true rfl)).mp (ax_gx hE (50, [3, 7]) ax_m1)
  rw [c_place] at F50
  have F62 : pz_x62 (ρ 0) (ρ 1) (4014) (ρ 2) := (ax_XF_lt (x := 62) (Nat.le_of_ble_eq_true rfl)).mp (ax_gx hE (62, [3, 7, 4014, 11]) ax_m2)
  refine ⟨(fun y hy => by cases hy), _, List.mem_cons_self, ρ, fun _ _ => rfl, ax_px hE rfl (fun y hy => ?_)⟩
  cases List.mem_singleton.mp hy
  refine (ax_XF_lt (x := 61) (Nat.le_of_ble_eq_true rfl)).mpr ?_
  show pz61 (pz_gt (ρ 0)) (pz_gN (ρ 0)) ((ρ 1) / 4) ((4014) / 4 - 1000)
  have ch := pz_chr (v := 4014) (i := ρ 2) (z := ρ 6) (l := [114, 111, 111, 109]) (by decide +kernel) (pz_g42 hE 4014 11 27 (by decide))
  have ep : ρ 3 / 4 = pz_at (pz_gt (ρ 0)) (pz_gN (ρ 0)) (pz_p (pz_cf (pz_gt (ρ 0)) (pz_gN (ρ 0)) (ρ 1 / 4))) := F50.2.1
  have hw : pz_at (pz_gt (ρ 0)) (pz_gN (ρ 0)) (pz_p (pz_cf (pz_gt (ρ 0)) (pz_gN (ρ 0)) (ρ 1 / 4))) < pz_gN (ρ 0) ∧ pz_nx (pz_gt (ρ 0)) (pz_gN (ρ 0)) (pz_p (pz_cf (pz_gt (ρ 0)) (pz_gN (ρ 0)) (ρ 1 / 4))) ≤ pz_gN (ρ 0) := pz_wd_le F62.1
  have hln : pz_nx (pz_gt (ρ 0)) (pz_gN (ρ 0)) (pz_p (pz_cf (pz_gt (ρ 0)) (pz_gN (ρ 0)) (ρ 1 / 4))) - pz_at (pz_gt (ρ 0)) (pz_gN (ρ 0)) (pz_p (pz_cf (pz_gt (ρ 0)) (pz_gN (ρ 0)) (ρ 1 / 4))) = 4 := F62.2.1
  have hi1 : ρ 2 / 4 < 4 := by omega
  have ha1 : ρ 3 / 4 ≤ 800 := by omega
  have hq1 : ρ 4 / 4 = ρ 3 / 4 + ρ 2 / 4 := by omega
  have hb := F30.2.2 (ρ 4 / 4) (by have := hw.2; omega)
  rw [c_tape] at hb
  have hb := Option.some.inj hb
  rw [show ρ 4 / 4 = pz_at (pz_gt (ρ 0)) (pz_gN (ρ 0)) (pz_p (pz_cf (pz_gt (ρ 0)) (pz_gN (ρ 0)) (ρ 1 / 4))) + ρ 2 / 4 by omega] at hb
  refine pz_is_no (Or.inr (Or.inr ⟨ρ 2 / 4, show ρ 2 / 4 < 4 by omega, fun z => ?_⟩))
  have hb2 : pz_b (pz_gt (ρ 0)) (pz_at (pz_gt (ρ 0)) (pz_gN (ρ 0)) (pz_p (pz_cf (pz_gt (ρ 0)) (pz_gN (ρ 0)) (ρ 1 / 4))) + ρ 2 / 4) = ρ 5 / 4 := by omega
  have z2 := (hb2.symm.trans z).trans (pz_getD ch)
  rw [z2] at r1
  exact r1 rfl

theorem axq_iw6_3 : ax_RO ax_wC ax_XC axu_iw6_3 := by
  intro ρ hp hE hT
  have j0 : ρ 0 % 4 = 1 := pz_gj hE 0 (Nat.le_of_ble_eq_true rfl) rfl
  have j1 : ρ 1 % 4 = 1 := pz_gj hE 1 (Nat.le_of_ble_eq_true rfl) rfl
  obtain ⟨i2a, i2b, i2c, i2d⟩ := pz_gi hE 2 2147483652 2147483652 (Nat.le_of_ble_eq_true rfl) rfl
  obtain ⟨-, -, -, -, F50⟩ : ay_ex hp 8 ∧ ay_ex hp 10 ∧ ay_ex hp 11 ∧ ay_ex hp 12 ∧ pz_x50 (ρ 0) (ρ 1) (ay_at hp 8 5) (ay_at hp 8 6) (ay_at hp 8 7) (ay_at hp 8 8) (ay_at hp 10 0) (ay_at hp 10 1) (ay_at hp 10 2) (ay_at hp 10 3) (ay_at hp 10 4) (ay_at hp 8 9) (ay_at hp 8 11) (ay_at hp 8 10) (ay_at hp 8 3) (ay_at hp 8 4) (ay_at hp 11) (ay_at hp 12) := (ax_XF_lt (x := 50) (Nat.le_of_ble_eq_true rfl)).mp (ax_gx hE (50, [3, 7]) ax_m0)
  have F62 : pz_x62 (ρ 0) (ρ 1) (4014) (ρ 2) := (ax_XF_lt (x := 62) (Nat.le_of_ble_eq_true rfl)).mp (ax_gx hE (62, [3, 7, 4014, 11]) ax_m1)
  refine ⟨(fun y hy => by cases hy), _, List.mem_cons_self, ρ, fun _ _ => rfl, ax_px hE rfl (fun y hy => ?_)⟩
  cases List.mem_singleton.mp hy
  refine (ax_XF_lt (x := 60) (Nat.le_of_ble_eq_true rfl)).mpr ?_
  show pz60 (pz_gt (ρ 0)) (pz_gN (ρ 0)) ((ρ 1) / 4) ((4014) / 4 - 1000)
  exact pz_is_yes F62.1 F62.2.1 (fun i hi => F62.2.2 i (by have : i < 4 := hi; omega))

theorem axq_iw1a_4 : ax_RO ax_wC ax_XC axu_iw1a_4 := by
  intro ρ hp hE hT
  have j0 : ρ 0 % 4 = 1 := pz_gj hE 0 (Nat.le_of_ble_eq_true rfl) rfl
  have j1 : ρ 1 % 4 = 1 := pz_gj hE 1 (Nat.le_of_ble_eq_true rfl) rfl
  obtain ⟨i2a, i2b, i2c, i2d⟩ := pz_gi hE 2 0 2147483648 (Nat.le_of_ble_eq_true rfl) rfl
  have c_kind : ay_at hp 8 7 = some (ρ 2) := ay_gfj hE 42 28 11 8 7 ax_m1 (ax_vlq rfl rfl) (ax_vlj rfl rfl)
  obtain ⟨-, -, -, -, F50⟩ : ay_ex hp 8 ∧ ay_ex hp 10 ∧ ay_ex hp 11 ∧ ay_ex hp 12 ∧ pz_x50 (ρ 0) (ρ 1) (ay_at hp 8 5) (ay_at hp 8 6) (ay_at hp 8 7) (ay_at hp 8 8) (ay_at hp 10 0) (ay_at hp 10 1) (ay_at hp 10 2) (ay_at hp 10 3) (ay_at hp 10 4) (ay_at hp 8 9) (ay_at hp 8 11) (ay_at hp 8 10) (ay_at hp 8 3) (ay_at hp 8 4) (ay_at hp 11) (ay_at hp 12) := (ax_XF_lt (x := 50) (Nat.le_of_ble_eq_true rfl)).mp (ax_gx hE (50, [3, 7]) ax_m0)
  rw [c_kind] at F50
  refine ⟨(fun y hy => by cases hy), _, List.mem_cons_self, ρ, fun _ _ => rfl, ax_px hE rfl (fun y hy => ?_)⟩
  cases List.mem_singleton.mp hy
  refine (ax_XF_lt (x := 61) (Nat.le_of_ble_eq_true rfl)).mpr ?_
  show pz61 (pz_gt (ρ 0)) (pz_gN (ρ 0)) ((ρ 1) / 4) ((4018) / 4 - 1000)
  have kd : ρ 2 / 4 = pz_kd (pz_gt (ρ 0)) (pz_gN (ρ 0)) (pz_p (pz_cf (pz_gt (ρ 0)) (pz_gN (ρ 0)) (ρ 1 / 4))) := F50.2.2.1
  exact pz_is_no (Or.inl (by omega))

theorem axq_iw1b_4 : ax_RO ax_wC ax_XC axu_iw1b_4 := by
  intro ρ hp hE hT
  have j0 : ρ 0 % 4 = 1 := pz_gj hE 0 (Nat.le_of_ble_eq_true rfl) rfl
  have j1 : ρ 1 % 4 = 1 := pz_gj hE 1 (Nat.le_of_ble_eq_true rfl) rfl
  obtain ⟨i2a, i2b, i2c, i2d⟩ := pz_gi hE 2 2147483650 4294967295 (Nat.le_of_ble_eq_true rfl) rfl
  have c_kind : ay_at hp 8 7 = some (ρ 2) := ay_gfj hE 42 28 11 8 7 ax_m1 (ax_vlq rfl rfl) (ax_vlj rfl rfl)
  obtain ⟨-, -, -, -, F50⟩ : ay_ex hp 8 ∧ ay_ex hp 10 ∧ ay_ex hp 11 ∧ ay_ex hp 12 ∧ pz_x50 (ρ 0) (ρ 1) (ay_at hp 8 5) (ay_at hp 8 6) (ay_at hp 8 7) (ay_at hp 8 8) (ay_at hp 10 0) (ay_at hp 10 1) (ay_at hp 10 2) (ay_at hp 10 3) (ay_at hp 10 4) (ay_at hp 8 9) (ay_at hp 8 11) (ay_at hp 8 10) (ay_at hp 8 3) (ay_at hp 8 4) (ay_at hp 11) (ay_at hp 12) := (ax_XF_lt (x := 50) (Nat.le_of_ble_eq_true rfl)).mp (ax_gx hE (50, [3, 7]) ax_m0)
  rw [c_kind] at F50
  refine ⟨(fun y hy => by cases hy), _, List.mem_cons_self, ρ, fun _ _ => rfl, ax_px hE rfl (fun y hy => ?_)⟩
  cases List.mem_singleton.mp hy
  refine (ax_XF_lt (x := 61) (Nat.le_of_ble_eq_true rfl)).mpr ?_
  show pz61 (pz_gt (ρ 0)) (pz_gN (ρ 0)) ((ρ 1) / 4) ((4018) / 4 - 1000)
  have kd : ρ 2 / 4 = pz_kd (pz_gt (ρ 0)) (pz_gN (ρ 0)) (pz_p (pz_cf (pz_gt (ρ 0)) (pz_gN (ρ 0)) (ρ 1 / 4))) := F50.2.2.1
  exact pz_is_no (Or.inl (by omega))

theorem axq_iw2a_4 : ax_RO ax_wC ax_XC axu_iw2a_4 := by
  intro ρ hp hE hT
  have j0 : ρ 0 % 4 = 1 := pz_gj hE 0 (Nat.le_of_ble_eq_true rfl) rfl
  have j1 : ρ 1 % 4 = 1 := pz_gj hE 1 (Nat.le_of_ble_eq_true rfl) rfl
  obtain ⟨i2a, i2b, i2c, i2d⟩ := pz_gi hE 2 2147482848 2147483651 (Nat.le_of_ble_eq_true rfl) rfl
  obtain ⟨i3a, i3b, i3c, i3d⟩ := pz_gi hE 3 2147483648 2147484448 (Nat.le_of_ble_eq_true rfl) rfl
  obtain ⟨i4a, i4b, i4c, i4d⟩ := pz_gi hE 4 2147483648 2147484448 (Nat.le_of_ble_eq_true rfl) rfl
  have c_place : ay_at hp 8 6 = some (ρ 3) := ay_gfj hE 42 24 15 8 6 ax_m1 (ax_vlq rfl rfl) (ax_vlj rfl rfl)
  have c_ahead : ay_at hp 8 5 = some (ρ 4) := ay_gfj hE 42 20 19 8 5 ax_m2 (ax_vlq rfl rfl) (ax_vlj rfl rfl)
  have s1 : (ρ 2 / 4 + 2147483648) % 4294967296 + (ρ 3 / 4 + 2147483648) % 4294967296 = (ρ 4 / 4 + 2147483648) % 4294967296 + 2147483648 := pz_gs hE 11 15 19 ax_m3
  obtain ⟨-, -, -, -, F50⟩ : ay_ex hp 8 ∧ ay_ex hp 10 ∧ ay_ex hp 11 ∧ ay_ex hp 12 ∧ pz_x50 (ρ 0) (ρ 1) (ay_at hp 8 5) (ay_at hp 8 6) (ay_at hp 8 7) (ay_at hp 8 8) (ay_at hp 10 0) (ay_at hp 10 1) (ay_at hp 10 2) (ay_at hp 10 3) (ay_at hp 10 4) (ay_at hp 8 9) (ay_at hp 8 11) (ay_at hp 8 10) (ay_at hp 8 3) (ay_at hp 8 4) (ay_at hp 11) (ay_at hp 12) := (ax_XF_lt (x := 50) (Nat.le_of_ble_eq_true rfl)).mp (ax_gx hE (50, [3, 7]) ax_m0)
  rw [c_place] at F50
  rw [c_ahead] at F50
  refine ⟨(fun y hy => by cases hy), _, List.mem_cons_self, ρ, fun _ _ => rfl, ax_px hE rfl (fun y hy => ?_)⟩
  cases List.mem_singleton.mp hy
  refine (ax_XF_lt (x := 61) (Nat.le_of_ble_eq_true rfl)).mpr ?_
  show pz61 (pz_gt (ρ 0)) (pz_gN (ρ 0)) ((ρ 1) / 4) ((4018) / 4 - 1000)
  have e1 : ρ 4 / 4 = pz_nx (pz_gt (ρ 0)) (pz_gN (ρ 0)) (pz_p (pz_cf (pz_gt (ρ 0)) (pz_gN (ρ 0)) (ρ 1 / 4))) := F50.1
  have e2 : ρ 3 / 4 = pz_at (pz_gt (ρ 0)) (pz_gN (ρ 0)) (pz_p (pz_cf (pz_gt (ρ 0)) (pz_gN (ρ 0)) (ρ 1 / 4))) := F50.2.1
  refine pz_is_no (Or.inr (Or.inl ?_))
  show pz_nx (pz_gt (ρ 0)) (pz_gN (ρ 0)) (pz_p (pz_cf (pz_gt (ρ 0)) (pz_gN (ρ 0)) (ρ 1 / 4))) - pz_at (pz_gt (ρ 0)) (pz_gN (ρ 0)) (pz_p (pz_cf (pz_gt (ρ 0)) (pz_gN (ρ 0)) (ρ 1 / 4))) ≠ 4
  omega

theorem axq_iw2b_4 : ax_RO ax_wC ax_XC axu_iw2b_4 := by
  intro ρ hp hE hT
  have j0 : ρ 0 % 4 = 1 := pz_gj hE 0 (Nat.le_of_ble_eq_true rfl) rfl
  have j1 : ρ 1 % 4 = 1 := pz_gj hE 1 (Nat.le_of_ble_eq_true rfl) rfl
  obtain ⟨i2a, i2b, i2c, i2d⟩ := pz_gi hE 2 2147483653 2147484448 (Nat.le_of_ble_eq_true rfl) rfl
  obtain ⟨i3a, i3b, i3c, i3d⟩ := pz_gi hE 3 2147483648 2147484448 (Nat.le_of_ble_eq_true rfl) rfl
  obtain ⟨i4a, i4b, i4c, i4d⟩ := pz_gi hE 4 2147483648 2147484448 (Nat.le_of_ble_eq_true rfl) rfl
  have c_place : ay_at hp 8 6 = some (ρ 3) := ay_gfj hE 42 24 15 8 6 ax_m1 (ax_vlq rfl rfl) (ax_vlj rfl rfl)
  have c_ahead : ay_at hp 8 5 = some (ρ 4) := ay_gfj hE 42 20 19 8 5 ax_m2 (ax_vlq rfl rfl) (ax_vlj rfl rfl)
  have s1 : (ρ 2 / 4 + 2147483648) % 4294967296 + (ρ 3 / 4 + 2147483648) % 4294967296 = (ρ 4 / 4 + 2147483648) % 4294967296 + 2147483648 := pz_gs hE 11 15 19 ax_m3
  obtain ⟨-, -, -, -, F50⟩ : ay_ex hp 8 ∧ ay_ex hp 10 ∧ ay_ex hp 11 ∧ ay_ex hp 12 ∧ pz_x50 (ρ 0) (ρ 1) (ay_at hp 8 5) (ay_at hp 8 6) (ay_at hp 8 7) (ay_at hp 8 8) (ay_at hp 10 0) (ay_at hp 10 1) (ay_at hp 10 2) (ay_at hp 10 3) (ay_at hp 10 4) (ay_at hp 8 9) (ay_at hp 8 11) (ay_at hp 8 10) (ay_at hp 8 3) (ay_at hp 8 4) (ay_at hp 11) (ay_at hp 12) := (ax_XF_lt (x := 50) (Nat.le_of_ble_eq_true rfl)).mp (ax_gx hE (50, [3, 7]) ax_m0)
  rw [c_place] at F50
  rw [c_ahead] at F50
  refine ⟨(fun y hy => by cases hy), _, List.mem_cons_self, ρ, fun _ _ => rfl, ax_px hE rfl (fun y hy => ?_)⟩
  cases List.mem_singleton.mp hy
  refine (ax_XF_lt (x := 61) (Nat.le_of_ble_eq_true rfl)).mpr ?_
  show pz61 (pz_gt (ρ 0)) (pz_gN (ρ 0)) ((ρ 1) / 4) ((4018) / 4 - 1000)
  have e1 : ρ 4 / 4 = pz_nx (pz_gt (ρ 0)) (pz_gN (ρ 0)) (pz_p (pz_cf (pz_gt (ρ 0)) (pz_gN (ρ 0)) (ρ 1 / 4))) := F50.1
  have e2 : ρ 3 / 4 = pz_at (pz_gt (ρ 0)) (pz_gN (ρ 0)) (pz_p (pz_cf (pz_gt (ρ 0)) (pz_gN (ρ 0)) (ρ 1 / 4))) := F50.2.1
  refine pz_is_no (Or.inr (Or.inl ?_))
  show pz_nx (pz_gt (ρ 0)) (pz_gN (ρ 0)) (pz_p (pz_cf (pz_gt (ρ 0)) (pz_gN (ρ 0)) (ρ 1 / 4))) - pz_at (pz_gt (ρ 0)) (pz_gN (ρ 0)) (pz_p (pz_cf (pz_gt (ρ 0)) (pz_gN (ρ 0)) (ρ 1 / 4))) ≠ 4
  omega

theorem axq_iw3_4 : ax_RO ax_wC ax_XC axu_iw3_4 := by
  intro ρ hp hE hT
  have j0 : ρ 0 % 4 = 1 := pz_gj hE 0 (Nat.le_of_ble_eq_true rfl) rfl
  have j1 : ρ 1 % 4 = 1 := pz_gj hE 1 (Nat.le_of_ble_eq_true rfl) rfl
  obtain ⟨i2a, i2b, i2c, i2d⟩ := pz_gi hE 2 2147483649 2147483649 (Nat.le_of_ble_eq_true rfl) rfl
  obtain ⟨i3a, i3b, i3c, i3d⟩ := pz_gi hE 3 2147483652 2147483652 (Nat.le_of_ble_eq_true rfl) rfl
  obtain ⟨i4a, i4b, i4c, i4d⟩ := pz_gi hE 4 2147483648 2147484448 (Nat.le_of_ble_eq_true rfl) rfl
  obtain ⟨i5a, i5b, i5c, i5d⟩ := pz_gi hE 5 2147483648 2147484448 (Nat.le_of_ble_eq_true rfl) rfl
  have c_kind : ay_at hp 8 7 = some (ρ 2) := ay_gfj hE 42 28 11 8 7 ax_m1 (ax_vlq rfl rfl) (ax_vlj rfl rfl)
  have c_place : ay_at hp 8 6 = some (ρ 4) := ay_gfj hE 42 24 19 8 6 ax_m2 (ax_vlq rfl rfl) (ax_vlj rfl rfl)
  have c_ahead : ay_at hp 8 5 = some (ρ 5) := ay_gfj hE 42 20 23 8 5 ax_m3 (ax_vlq rfl rfl) (ax_vlj rfl rfl)
  have s1 : (ρ 3 / 4 + 2147483648) % 4294967296 + (ρ 4 / 4 + 2147483648) % 4294967296 = (ρ 5 / 4 + 2147483648) % 4294967296 + 2147483648 := pz_gs hE 15 19 23 ax_m4
  obtain ⟨-, -, -, -, F50⟩ : ay_ex hp 8 ∧ ay_ex hp 10 ∧ ay_ex hp 11 ∧ ay_ex hp 12 ∧ pz_x50 (ρ 0) (ρ 1) (ay_at hp 8 5) (ay_at hp 8 6) (ay_at hp 8 7) (ay_at hp 8 8) (ay_at hp 10 0) (ay_at hp 10 1) (ay_at hp 10 2) (ay_at hp 10 3) (ay_at hp 10 4) (ay_at hp 8 9) (ay_at hp 8 11) (ay_at hp 8 10) (ay_at hp 8 3) (ay_at hp 8 4) (ay_at hp 11) (ay_at hp 12) := (ax_XF_lt (x := 50) (Nat.le_of_ble_eq_true rfl)).mp (ax_gx hE (50, [3, 7]) ax_m0)
  rw [c_kind] at F50
  rw [c_place] at F50
  rw [c_ahead] at F50
  refine ⟨(fun y hy => by cases hy), _, List.mem_cons_self, ρ, fun _ _ => rfl, ax_px hE rfl (fun y hy => ?_)⟩
  cases List.mem_singleton.mp hy
  refine (ax_XF_lt (x := 62) (Nat.le_of_ble_eq_true rfl)).mpr ?_
  show pz_x62 (ρ 0) (ρ 1) (4018) (0)
  have kd : ρ 2 / 4 = pz_kd (pz_gt (ρ 0)) (pz_gN (ρ 0)) (pz_p (pz_cf (pz_gt (ρ 0)) (pz_gN (ρ 0)) (ρ 1 / 4))) := F50.2.2.1
  have e1 : ρ 5 / 4 = pz_nx (pz_gt (ρ 0)) (pz_gN (ρ 0)) (pz_p (pz_cf (pz_gt (ρ 0)) (pz_gN (ρ 0)) (ρ 1 / 4))) := F50.1
  have e2 : ρ 4 / 4 = pz_at (pz_gt (ρ 0)) (pz_gN (ρ 0)) (pz_p (pz_cf (pz_gt (ρ 0)) (pz_gN (ρ 0)) (ρ 1 / 4))) := F50.2.1
  refine ⟨kd.symm.trans (show ρ 2 / 4 = 1 by omega), ?_, fun j hj => absurd (show j < 0 from hj) (by omega)⟩
  show pz_nx (pz_gt (ρ 0)) (pz_gN (ρ 0)) (pz_p (pz_cf (pz_gt (ρ 0)) (pz_gN (ρ 0)) (ρ 1 / 4))) - pz_at (pz_gt (ρ 0)) (pz_gN (ρ 0)) (pz_p (pz_cf (pz_gt (ρ 0)) (pz_gN (ρ 0)) (ρ 1 / 4))) = 4
  omega

theorem axq_iw4_4 : ax_RO ax_wC ax_XC axu_iw4_4 := by
  intro ρ hp hE hT
  have j0 : ρ 0 % 4 = 1 := pz_gj hE 0 (Nat.le_of_ble_eq_true rfl) rfl
  have j1 : ρ 1 % 4 = 1 := pz_gj hE 1 (Nat.le_of_ble_eq_true rfl) rfl
  obtain ⟨i2a, i2b, i2c, i2d⟩ := pz_gi hE 2 2147483648 2147483651 (Nat.le_of_ble_eq_true rfl) rfl
  obtain ⟨i3a, i3b, i3c, i3d⟩ := pz_gi hE 3 0 4294967295 (Nat.le_of_ble_eq_true rfl) rfl
  obtain ⟨i4a, i4b, i4c, i4d⟩ := pz_gi hE 4 2147483648 2147484448 (Nat.le_of_ble_eq_true rfl) rfl
  obtain ⟨i5a, i5b, i5c, i5d⟩ := pz_gi hE 5 0 4294967295 (Nat.le_of_ble_eq_true rfl) rfl
  obtain ⟨i6a, i6b, i6c, i6d⟩ := pz_gi hE 6 2147483520 2147483775 (Nat.le_of_ble_eq_true rfl) rfl
  obtain ⟨i7a, i7b, i7c, i7d⟩ := pz_gi hE 7 2147483648 2147483903 (Nat.le_of_ble_eq_true rfl) rfl
  have s1 : (ρ 2 / 4 + 2147483648) % 4294967296 + (4 / 4 + 2147483648) % 4294967296 = (ρ 3 / 4 + 2147483648) % 4294967296 + 2147483648 := pz_gs hE 11 4 15 ax_m3
  have c_place : ay_at hp 8 6 = some (ρ 4) := ay_gfj hE 42 24 19 8 6 ax_m4 (ax_vlq rfl rfl) (ax_vlj rfl rfl)
  have s2 : (ρ 4 / 4 + 2147483648) % 4294967296 + (ρ 2 / 4 + 2147483648) % 4294967296 = (ρ 5 / 4 + 2147483648) % 4294967296 + 2147483648 := pz_gs hE 19 11 23 ax_m5
  have c_tape : ay_at hp 9 (ρ 5 / 4) = some (ρ 6) := ay_gf hE 46 23 27 9 ax_m6 (ax_vlq rfl rfl)
  have r1 : (ρ 6 / 4 + 2147483648) % 4294967296 = (ρ 7 / 4 + 2147483648) % 4294967296 := pz_gc hE 0 27 31 (Nat.le_of_ble_eq_true rfl) ax_m8
  obtain ⟨-, -, F30⟩ : ay_ex hp 8 ∧ ay_ex hp 9 ∧ pz_x30 (ρ 0) (ay_at hp 8 1) (ay_at hp 9) := (ax_XF_lt (x := 30) (Nat.le_of_ble_eq_true rfl)).mp (ax_gx hE (30, [3]) ax_m0)
  obtain ⟨-, -, -, -, F50⟩ : ay_ex hp 8 ∧ ay_ex hp 10 ∧ ay_ex hp 11 ∧ ay_ex hp 12 ∧ pz_x50 (ρ 0) (ρ 1) (ay_at hp 8 5) (ay_at hp 8 6) (ay_at hp 8 7) (ay_at hp 8 8) (ay_at hp 10 0) (ay_at hp 10 1) (ay_at hp 10 2) (ay_at hp 10 3) (ay_at hp 10 4) (ay_at hp 8 9) (ay_at hp 8 11) (ay_at hp 8 10) (ay_at hp 8 3) (ay_at hp 8 4) (ay_at hp 11) (ay_at hp 12) := (ax_XF_lt (x := 50) (Nat.le_of_ble_eq_true rfl)).mp (ax_gx hE (50, [3, 7]) ax_m1)
  rw [c_place] at F50
  have F62 : pz_x62 (ρ 0) (ρ 1) (4018) (ρ 2) := (ax_XF_lt (x := 62) (Nat.le_of_ble_eq_true rfl)).mp (ax_gx hE (62, [3, 7, 4018, 11]) ax_m2)
  refine ⟨(fun y hy => by cases hy), _, List.mem_cons_self, ρ, fun _ _ => rfl, ax_px hE rfl (fun y hy => ?_)⟩
  cases List.mem_singleton.mp hy
  refine (ax_XF_lt (x := 62) (Nat.le_of_ble_eq_true rfl)).mpr ?_
  show pz_x62 (ρ 0) (ρ 1) (4018) (ρ 3)
  have ch := pz_chr (v := 4018) (i := ρ 2) (z := ρ 7) (l := [114, 97, 110, 107]) (by decide +kernel) (pz_g42 hE 4018 11 31 (by decide))
  have ep : ρ 4 / 4 = pz_at (pz_gt (ρ 0)) (pz_gN (ρ 0)) (pz_p (pz_cf (pz_gt (ρ 0)) (pz_gN (ρ 0)) (ρ 1 / 4))) := F50.2.1
  have hw : pz_at (pz_gt (ρ 0)) (pz_gN (ρ 0)) (pz_p (pz_cf (pz_gt (ρ 0)) (pz_gN (ρ 0)) (ρ 1 / 4))) < pz_gN (ρ 0) ∧ pz_nx (pz_gt (ρ 0)) (pz_gN (ρ 0)) (pz_p (pz_cf (pz_gt (ρ 0)) (pz_gN (ρ 0)) (ρ 1 / 4))) ≤ pz_gN (ρ 0) := pz_wd_le F62.1
  have hln : pz_nx (pz_gt (ρ 0)) (pz_gN (ρ 0)) (pz_p (pz_cf (pz_gt (ρ 0)) (pz_gN (ρ 0)) (ρ 1 / 4))) - pz_at (pz_gt (ρ 0)) (pz_gN (ρ 0)) (pz_p (pz_cf (pz_gt (ρ 0)) (pz_gN (ρ 0)) (ρ 1 / 4))) = 4 := F62.2.1
  have hi1 : ρ 2 / 4 < 4 := by omega
  have ha1 : ρ 4 / 4 ≤ 800 := by omega
  have hq1 : ρ 5 / 4 = ρ 4 / 4 + ρ 2 / 4 := by omega
  have hb := F30.2.2 (ρ 5 / 4) (by have := hw.2; omega)
  rw [c_tape] at hb
  have hb := Option.some.inj hb
  rw [show ρ 5 / 4 = pz_at (pz_gt (ρ 0)) (pz_gN (ρ 0)) (pz_p (pz_cf (pz_gt (ρ 0)) (pz_gN (ρ 0)) (ρ 1 / 4))) + ρ 2 / 4 by omega] at hb
  refine ⟨F62.1, F62.2.1, fun j hj => ?_⟩
  by_cases h : j < ρ 2 / 4
  · exact F62.2.2 j h
  · have e : j = ρ 2 / 4 := by omega
    have hcc : ρ 6 / 4 = ρ 7 / 4 := by omega
    have hb2 : pz_b (pz_gt (ρ 0)) (pz_at (pz_gt (ρ 0)) (pz_gN (ρ 0)) (pz_p (pz_cf (pz_gt (ρ 0)) (pz_gN (ρ 0)) (ρ 1 / 4))) + ρ 2 / 4) = ρ 6 / 4 := by omega
    rw [e]
    refine Eq.trans ?_ (pz_getD ch).symm
    rw [← hcc]
    exact hb2

theorem axq_iw5_4 : ax_RO ax_wC ax_XC axu_iw5_4 := by
  intro ρ hp hE hT
  have j0 : ρ 0 % 4 = 1 := pz_gj hE 0 (Nat.le_of_ble_eq_true rfl) rfl
  have j1 : ρ 1 % 4 = 1 := pz_gj hE 1 (Nat.le_of_ble_eq_true rfl) rfl
  obtain ⟨i2a, i2b, i2c, i2d⟩ := pz_gi hE 2 2147483648 2147483651 (Nat.le_of_ble_eq_true rfl) rfl
  obtain ⟨i3a, i3b, i3c, i3d⟩ := pz_gi hE 3 2147483648 2147484448 (Nat.le_of_ble_eq_true rfl) rfl
  obtain ⟨i4a, i4b, i4c, i4d⟩ := pz_gi hE 4 0 4294967295 (Nat.le_of_ble_eq_true rfl) rfl
  obtain ⟨i5a, i5b, i5c, i5d⟩ := pz_gi hE 5 2147483520 2147483775 (Nat.le_of_ble_eq_true rfl) rfl
  obtain ⟨i6a, i6b, i6c, i6d⟩ := pz_gi hE 6 2147483648 2147483903 (Nat.le_of_ble_eq_true rfl) rfl
  have c_place : ay_at hp 8 6 = some (ρ 3) := ay_gfj hE 42 24 15 8 6 ax_m3 (ax_vlq rfl rfl) (ax_vlj rfl rfl)
  have s1 : (ρ 3 / 4 + 2147483648) % 4294967296 + (ρ 2 / 4 + 2147483648) % 4294967296 = (ρ 4 / 4 + 2147483648) % 4294967296 + 2147483648 := pz_gs hE 15 11 19 ax_m4
  have c_tape : ay_at hp 9 (ρ 4 / 4) = some (ρ 5) := ay_gf hE 46 19 23 9 ax_m5 (ax_vlq rfl rfl)
  have r1 : (ρ 5 / 4 + 2147483648) % 4294967296 ≠ (ρ 6 / 4 + 2147483648) % 4294967296 := pz_gc hE 1 23 27 (Nat.le_of_ble_eq_true rfl) ax_m7
  obtain ⟨-, -, F30⟩ : ay_ex hp 8 ∧ ay_ex hp 9 ∧ pz_x30 (ρ 0) (ay_at hp 8 1) (ay_at hp 9) := (ax_XF_lt (x := 30) (Nat.le_of_ble_eq_true rfl)).mp (ax_gx hE (30, [3]) ax_m0)
  obtain ⟨-, -, -, -, F50⟩ : ay_ex hp 8 ∧ ay_ex hp 10 ∧ ay_ex hp 11 ∧ ay_ex hp 12 ∧ pz_x50 (ρ 0) (ρ 1) (ay_at hp 8 5) (ay_at hp 8 6) (ay_at hp 8 7) (ay_at hp 8 8) (ay_at hp 10 0) (ay_at hp 10 1) (ay_at hp 10 2) (ay_at hp 10 3) (ay_at hp 10 4) (ay_at hp 8 9) (ay_at hp 8 11) (ay_at hp 8 10) (ay_at hp 8 3) (ay_at hp 8 4) (ay_at hp 11) (ay_at hp 12) := (ax_XF_lt (x := 50) (Nat.le_of_ble_eq_true rfl)).mp (ax_gx hE (50, [3, 7]) ax_m1)
  rw [c_place] at F50
  have F62 : pz_x62 (ρ 0) (ρ 1) (4018) (ρ 2) := (ax_XF_lt (x := 62) (Nat.le_of_ble_eq_true rfl)).mp (ax_gx hE (62, [3, 7, 4018, 11]) ax_m2)
  refine ⟨(fun y hy => by cases hy), _, List.mem_cons_self, ρ, fun _ _ => rfl, ax_px hE rfl (fun y hy => ?_)⟩
  cases List.mem_singleton.mp hy
  refine (ax_XF_lt (x := 61) (Nat.le_of_ble_eq_true rfl)).mpr ?_
  show pz61 (pz_gt (ρ 0)) (pz_gN (ρ 0)) ((ρ 1) / 4) ((4018) / 4 - 1000)
  have ch := pz_chr (v := 4018) (i := ρ 2) (z := ρ 6) (l := [114, 97, 110, 107]) (by decide +kernel) (pz_g42 hE 4018 11 27 (by decide))
  have ep : ρ 3 / 4 = pz_at (pz_gt (ρ 0)) (pz_gN (ρ 0)) (pz_p (pz_cf (pz_gt (ρ 0)) (pz_gN (ρ 0)) (ρ 1 / 4))) := F50.2.1
  have hw : pz_at (pz_gt (ρ 0)) (pz_gN (ρ 0)) (pz_p (pz_cf (pz_gt (ρ 0)) (pz_gN (ρ 0)) (ρ 1 / 4))) < pz_gN (ρ 0) ∧ pz_nx (pz_gt (ρ 0)) (pz_gN (ρ 0)) (pz_p (pz_cf (pz_gt (ρ 0)) (pz_gN (ρ 0)) (ρ 1 / 4))) ≤ pz_gN (ρ 0) := pz_wd_le F62.1
  have hln : pz_nx (pz_gt (ρ 0)) (pz_gN (ρ 0)) (pz_p (pz_cf (pz_gt (ρ 0)) (pz_gN (ρ 0)) (ρ 1 / 4))) - pz_at (pz_gt (ρ 0)) (pz_gN (ρ 0)) (pz_p (pz_cf (pz_gt (ρ 0)) (pz_gN (ρ 0)) (ρ 1 / 4))) = 4 := F62.2.1
  have hi1 : ρ 2 / 4 < 4 := by omega
  have ha1 : ρ 3 / 4 ≤ 800 := by omega
  have hq1 : ρ 4 / 4 = ρ 3 / 4 + ρ 2 / 4 := by omega
  have hb := F30.2.2 (ρ 4 / 4) (by have := hw.2; omega)
  rw [c_tape] at hb
  have hb := Option.some.inj hb
  rw [show ρ 4 / 4 = pz_at (pz_gt (ρ 0)) (pz_gN (ρ 0)) (pz_p (pz_cf (pz_gt (ρ 0)) (pz_gN (ρ 0)) (ρ 1 / 4))) + ρ 2 / 4 by omega] at hb
  refine pz_is_no (Or.inr (Or.inr ⟨ρ 2 / 4, show ρ 2 / 4 < 4 by omega, fun z => ?_⟩))
  have hb2 : pz_b (pz_gt (ρ 0)) (pz_at (pz_gt (ρ 0)) (pz_gN (ρ 0)) (pz_p (pz_cf (pz_gt (ρ 0)) (pz_gN (ρ 0)) (ρ 1 / 4))) + ρ 2 / 4) = ρ 5 / 4 := by omega
  have z2 := (hb2.symm.trans z).trans (pz_getD ch)
  rw [z2] at r1
  exact r1 rfl

theorem axq_iw6_4 : ax_RO ax_wC ax_XC axu_iw6_4 := by
  intro ρ hp hE hT
  have j0 : ρ 0 % 4 = 1 := pz_gj hE 0 (Nat.le_of_ble_eq_true rfl) rfl
  have j1 : ρ 1 % 4 = 1 := pz_gj hE 1 (Nat.le_of_ble_eq_true rfl) rfl
  obtain ⟨i2a, i2b, i2c, i2d⟩ := pz_gi hE 2 2147483652 2147483652 (Nat.le_of_ble_eq_true rfl) rfl
  obtain ⟨-, -, -, -, F50⟩ : ay_ex hp 8 ∧ ay_ex hp 10 ∧ ay_ex hp 11 ∧ ay_ex hp 12 ∧ pz_x50 (ρ 0) (ρ 1) (ay_at hp 8 5) (ay_at hp 8 6) (ay_at hp 8 7) (ay_at hp 8 8) (ay_at hp 10 0) (ay_at hp 10 1) (ay_at hp 10 2) (ay_at hp 10 3) (ay_at hp 10 4) (ay_at hp 8 9) (ay_at hp 8 11) (ay_at hp 8 10) (ay_at hp 8 3) (ay_at hp 8 4) (ay_at hp 11) (ay_at hp 12) := (ax_XF_lt (x := 50) (Nat.le_of_ble_eq_true rfl)).mp (ax_gx hE (50, [3, 7]) ax_m0)
  have F62 : pz_x62 (ρ 0) (ρ 1) (4018) (ρ 2) := (ax_XF_lt (x := 62) (Nat.le_of_ble_eq_true rfl)).mp (ax_gx hE (62, [3, 7, 4018, 11]) ax_m1)
  refine ⟨(fun y hy => by cases hy), _, List.mem_cons_self, ρ, fun _ _ => rfl, ax_px hE rfl (fun y hy => ?_)⟩
  cases List.mem_singleton.mp hy
  refine (ax_XF_lt (x := 60) (Nat.le_of_ble_eq_true rfl)).mpr ?_
  show pz60 (pz_gt (ρ 0)) (pz_gN (ρ 0)) ((ρ 1) / 4) ((4018) / 4 - 1000)
  exact pz_is_yes F62.1 F62.2.1 (fun i hi => F62.2.2 i (by have : i < 4 := hi; omega))

theorem axq_iw1a_5 : ax_RO ax_wC ax_XC axu_iw1a_5 := by
  intro ρ hp hE hT
  have j0 : ρ 0 % 4 = 1 := pz_gj hE 0 (Nat.le_of_ble_eq_true rfl) rfl
  have j1 : ρ 1 % 4 = 1 := pz_gj hE 1 (Nat.le_of_ble_eq_true rfl) rfl
  obtain ⟨i2a, i2b, i2c, i2d⟩ := pz_gi hE 2 0 2147483648 (Nat.le_of_ble_eq_true rfl) rfl
  have c_kind : ay_at hp 8 7 = some (ρ 2) := ay_gfj hE 42 28 11 8 7 ax_m1 (ax_vlq rfl rfl) (ax_vlj rfl rfl)
  obtain ⟨-, -, -, -, F50⟩ : ay_ex hp 8 ∧ ay_ex hp 10 ∧ ay_ex hp 11 ∧ ay_ex hp 12 ∧ pz_x50 (ρ 0) (ρ 1) (ay_at hp 8 5) (ay_at hp 8 6) (ay_at hp 8 7) (ay_at hp 8 8) (ay_at hp 10 0) (ay_at hp 10 1) (ay_at hp 10 2) (ay_at hp 10 3) (ay_at hp 10 4) (ay_at hp 8 9) (ay_at hp 8 11) (ay_at hp 8 10) (ay_at hp 8 3) (ay_at hp 8 4) (ay_at hp 11) (ay_at hp 12) := (ax_XF_lt (x := 50) (Nat.le_of_ble_eq_true rfl)).mp (ax_gx hE (50, [3, 7]) ax_m0)
  rw [c_kind] at F50
  refine ⟨(fun y hy => by cases hy), _, List.mem_cons_self, ρ, fun _ _ => rfl, ax_px hE rfl (fun y hy => ?_)⟩
  cases List.mem_singleton.mp hy
  refine (ax_XF_lt (x := 61) (Nat.le_of_ble_eq_true rfl)).mpr ?_
  show pz61 (pz_gt (ρ 0)) (pz_gN (ρ 0)) ((ρ 1) / 4) ((4022) / 4 - 1000)
  have kd : ρ 2 / 4 = pz_kd (pz_gt (ρ 0)) (pz_gN (ρ 0)) (pz_p (pz_cf (pz_gt (ρ 0)) (pz_gN (ρ 0)) (ρ 1 / 4))) := F50.2.2.1
  exact pz_is_no (Or.inl (by omega))

theorem axq_iw1b_5 : ax_RO ax_wC ax_XC axu_iw1b_5 := by
  intro ρ hp hE hT
  have j0 : ρ 0 % 4 = 1 := pz_gj hE 0 (Nat.le_of_ble_eq_true rfl) rfl
  have j1 : ρ 1 % 4 = 1 := pz_gj hE 1 (Nat.le_of_ble_eq_true rfl) rfl
  obtain ⟨i2a, i2b, i2c, i2d⟩ := pz_gi hE 2 2147483650 4294967295 (Nat.le_of_ble_eq_true rfl) rfl
  have c_kind : ay_at hp 8 7 = some (ρ 2) := ay_gfj hE 42 28 11 8 7 ax_m1 (ax_vlq rfl rfl) (ax_vlj rfl rfl)
  obtain ⟨-, -, -, -, F50⟩ : ay_ex hp 8 ∧ ay_ex hp 10 ∧ ay_ex hp 11 ∧ ay_ex hp 12 ∧ pz_x50 (ρ 0) (ρ 1) (ay_at hp 8 5) (ay_at hp 8 6) (ay_at hp 8 7) (ay_at hp 8 8) (ay_at hp 10 0) (ay_at hp 10 1) (ay_at hp 10 2) (ay_at hp 10 3) (ay_at hp 10 4) (ay_at hp 8 9) (ay_at hp 8 11) (ay_at hp 8 10) (ay_at hp 8 3) (ay_at hp 8 4) (ay_at hp 11) (ay_at hp 12) := (ax_XF_lt (x := 50) (Nat.le_of_ble_eq_true rfl)).mp (ax_gx hE (50, [3, 7]) ax_m0)
  rw [c_kind] at F50
  refine ⟨(fun y hy => by cases hy), _, List.mem_cons_self, ρ, fun _ _ => rfl, ax_px hE rfl (fun y hy => ?_)⟩
  cases List.mem_singleton.mp hy
  refine (ax_XF_lt (x := 61) (Nat.le_of_ble_eq_true rfl)).mpr ?_
  show pz61 (pz_gt (ρ 0)) (pz_gN (ρ 0)) ((ρ 1) / 4) ((4022) / 4 - 1000)
  have kd : ρ 2 / 4 = pz_kd (pz_gt (ρ 0)) (pz_gN (ρ 0)) (pz_p (pz_cf (pz_gt (ρ 0)) (pz_gN (ρ 0)) (ρ 1 / 4))) := F50.2.2.1
  exact pz_is_no (Or.inl (by omega))

theorem axq_iw2a_5 : ax_RO ax_wC ax_XC axu_iw2a_5 := by
  intro ρ hp hE hT
  have j0 : ρ 0 % 4 = 1 := pz_gj hE 0 (Nat.le_of_ble_eq_true rfl) rfl
  have j1 : ρ 1 % 4 = 1 := pz_gj hE 1 (Nat.le_of_ble_eq_true rfl) rfl
  obtain ⟨i2a, i2b, i2c, i2d⟩ := pz_gi hE 2 2147482848 2147483650 (Nat.le_of_ble_eq_true rfl) rfl
  obtain ⟨i3a, i3b, i3c, i3d⟩ := pz_gi hE 3 2147483648 2147484448 (Nat.le_of_ble_eq_true rfl) rfl
  obtain ⟨i4a, i4b, i4c, i4d⟩ := pz_gi hE 4 2147483648 2147484448 (Nat.le_of_ble_eq_true rfl) rfl
  have c_place : ay_at hp 8 6 = some (ρ 3) := ay_gfj hE 42 24 15 8 6 ax_m1 (ax_vlq rfl rfl) (ax_vlj rfl rfl)
  have c_ahead : ay_at hp 8 5 = some (ρ 4) := ay_gfj hE 42 20 19 8 5 ax_m2 (ax_vlq rfl rfl) (ax_vlj rfl rfl)
  have s1 : (ρ 2 / 4 + 2147483648) % 4294967296 + (ρ 3 / 4 + 2147483648) % 4294967296 = (ρ 4 / 4 + 2147483648) % 4294967296 + 2147483648 := pz_gs hE 11 15 19 ax_m3
  obtain ⟨-, -, -, -, F50⟩ : ay_ex hp 8 ∧ ay_ex hp 10 ∧ ay_ex hp 11 ∧ ay_ex hp 12 ∧ pz_x50 (ρ 0) (ρ 1) (ay_at hp 8 5) (ay_at hp 8 6) (ay_at hp 8 7) (ay_at hp 8 8) (ay_at hp 10 0) (ay_at hp 10 1) (ay_at hp 10 2) (ay_at hp 10 3) (ay_at hp 10 4) (ay_at hp 8 9) (ay_at hp 8 11) (ay_at hp 8 10) (ay_at hp 8 3) (ay_at hp 8 4) (ay_at hp 11) (ay_at hp 12) := (ax_XF_lt (x := 50) (Nat.le_of_ble_eq_true rfl)).mp (ax_gx hE (50, [3, 7]) ax_m0)
  rw [c_place] at F50
  rw [c_ahead] at F50
  refine ⟨(fun y hy => by cases hy), _, List.mem_cons_self, ρ, fun _ _ => rfl, ax_px hE rfl (fun y hy => ?_)⟩
  cases List.mem_singleton.mp hy
  refine (ax_XF_lt (x := 61) (Nat.le_of_ble_eq_true rfl)).mpr ?_
  show pz61 (pz_gt (ρ 0)) (pz_gN (ρ 0)) ((ρ 1) / 4) ((4022) / 4 - 1000)
  have e1 : ρ 4 / 4 = pz_nx (pz_gt (ρ 0)) (pz_gN (ρ 0)) (pz_p (pz_cf (pz_gt (ρ 0)) (pz_gN (ρ 0)) (ρ 1 / 4))) := F50.1
  have e2 : ρ 3 / 4 = pz_at (pz_gt (ρ 0)) (pz_gN (ρ 0)) (pz_p (pz_cf (pz_gt (ρ 0)) (pz_gN (ρ 0)) (ρ 1 / 4))) := F50.2.1
  refine pz_is_no (Or.inr (Or.inl ?_))
  show pz_nx (pz_gt (ρ 0)) (pz_gN (ρ 0)) (pz_p (pz_cf (pz_gt (ρ 0)) (pz_gN (ρ 0)) (ρ 1 / 4))) - pz_at (pz_gt (ρ 0)) (pz_gN (ρ 0)) (pz_p (pz_cf (pz_gt (ρ 0)) (pz_gN (ρ 0)) (ρ 1 / 4))) ≠ 3
  omega

theorem axq_iw2b_5 : ax_RO ax_wC ax_XC axu_iw2b_5 := by
  intro ρ hp hE hT
  have j0 : ρ 0 % 4 = 1 := pz_gj hE 0 (Nat.le_of_ble_eq_true rfl) rfl
  have j1 : ρ 1 % 4 = 1 := pz_gj hE 1 (Nat.le_of_ble_eq_true rfl) rfl
  obtain ⟨i2a, i2b, i2c, i2d⟩ := pz_gi hE 2 2147483652 2147484448 (Nat.le_of_ble_eq_true rfl) rfl
  obtain ⟨i3a, i3b, i3c, i3d⟩ := pz_gi hE 3 2147483648 2147484448 (Nat.le_of_ble_eq_true rfl) rfl
  obtain ⟨i4a, i4b, i4c, i4d⟩ := pz_gi hE 4 2147483648 2147484448 (Nat.le_of_ble_eq_true rfl) rfl
  have c_place : ay_at hp 8 6 = some (ρ 3) := ay_gfj hE 42 24 15 8 6 ax_m1 (ax_vlq rfl rfl) (ax_vlj rfl rfl)
  have c_ahead : ay_at hp 8 5 = some (ρ 4) := ay_gfj hE 42 20 19 8 5 ax_m2 (ax_vlq rfl rfl) (ax_vlj rfl rfl)
  have s1 : (ρ 2 / 4 + 2147483648) % 4294967296 + (ρ 3 / 4 + 2147483648) % 4294967296 = (ρ 4 / 4 + 2147483648) % 4294967296 + 2147483648 := pz_gs hE 11 15 19 ax_m3
  obtain ⟨-, -, -, -, F50⟩ : ay_ex hp 8 ∧ ay_ex hp 10 ∧ ay_ex hp 11 ∧ ay_ex hp 12 ∧ pz_x50 (ρ 0) (ρ 1) (ay_at hp 8 5) (ay_at hp 8 6) (ay_at hp 8 7) (ay_at hp 8 8) (ay_at hp 10 0) (ay_at hp 10 1) (ay_at hp 10 2) (ay_at hp 10 3) (ay_at hp 10 4) (ay_at hp 8 9) (ay_at hp 8 11) (ay_at hp 8 10) (ay_at hp 8 3) (ay_at hp 8 4) (ay_at hp 11) (ay_at hp 12) := (ax_XF_lt (x := 50) (Nat.le_of_ble_eq_true rfl)).mp (ax_gx hE (50, [3, 7]) ax_m0)
  rw [c_place] at F50
  rw [c_ahead] at F50
  refine ⟨(fun y hy => by cases hy), _, List.mem_cons_self, ρ, fun _ _ => rfl, ax_px hE rfl (fun y hy => ?_)⟩
  cases List.mem_singleton.mp hy
  refine (ax_XF_lt (x := 61) (Nat.le_of_ble_eq_true rfl)).mpr ?_
  show pz61 (pz_gt (ρ 0)) (pz_gN (ρ 0)) ((ρ 1) / 4) ((4022) / 4 - 1000)
  have e1 : ρ 4 / 4 = pz_nx (pz_gt (ρ 0)) (pz_gN (ρ 0)) (pz_p (pz_cf (pz_gt (ρ 0)) (pz_gN (ρ 0)) (ρ 1 / 4))) := F50.1
  have e2 : ρ 3 / 4 = pz_at (pz_gt (ρ 0)) (pz_gN (ρ 0)) (pz_p (pz_cf (pz_gt (ρ 0)) (pz_gN (ρ 0)) (ρ 1 / 4))) := F50.2.1
  refine pz_is_no (Or.inr (Or.inl ?_))
  show pz_nx (pz_gt (ρ 0)) (pz_gN (ρ 0)) (pz_p (pz_cf (pz_gt (ρ 0)) (pz_gN (ρ 0)) (ρ 1 / 4))) - pz_at (pz_gt (ρ 0)) (pz_gN (ρ 0)) (pz_p (pz_cf (pz_gt (ρ 0)) (pz_gN (ρ 0)) (ρ 1 / 4))) ≠ 3
  omega

theorem axq_iw3_5 : ax_RO ax_wC ax_XC axu_iw3_5 := by
  intro ρ hp hE hT
  have j0 : ρ 0 % 4 = 1 := pz_gj hE 0 (Nat.le_of_ble_eq_true rfl) rfl
  have j1 : ρ 1 % 4 = 1 := pz_gj hE 1 (Nat.le_of_ble_eq_true rfl) rfl
  obtain ⟨i2a, i2b, i2c, i2d⟩ := pz_gi hE 2 2147483649 2147483649 (Nat.le_of_ble_eq_true rfl) rfl
  obtain ⟨i3a, i3b, i3c, i3d⟩ := pz_gi hE 3 2147483651 2147483651 (Nat.le_of_ble_eq_true rfl) rfl
  obtain ⟨i4a, i4b, i4c, i4d⟩ := pz_gi hE 4 2147483648 2147484448 (Nat.le_of_ble_eq_true rfl) rfl
  obtain ⟨i5a, i5b, i5c, i5d⟩ := pz_gi hE 5 2147483648 2147484448 (Nat.le_of_ble_eq_true rfl) rfl
  have c_kind : ay_at hp 8 7 = some (ρ 2) := ay_gfj hE 42 28 11 8 7 ax_m1 (ax_vlq rfl rfl) (ax_vlj rfl rfl)
  have c_place : ay_at hp 8 6 = some (ρ 4) := ay_gfj hE 42 24 19 8 6 ax_m2 (ax_vlq rfl rfl) (ax_vlj rfl rfl)
  have c_ahead : ay_at hp 8 5 = some (ρ 5) := ay_gfj hE 42 20 23 8 5 ax_m3 (ax_vlq rfl rfl) (ax_vlj rfl rfl)
  have s1 : (ρ 3 / 4 + 2147483648) % 4294967296 + (ρ 4 / 4 + 2147483648) % 4294967296 = (ρ 5 / 4 + 2147483648) % 4294967296 + 2147483648 := pz_gs hE 15 19 23 ax_m4
  obtain ⟨-, -, -, -, F50⟩ : ay_ex hp 8 ∧ ay_ex hp 10 ∧ ay_ex hp 11 ∧ ay_ex hp 12 ∧ pz_x50 (ρ 0) (ρ 1) (ay_at hp 8 5) (ay_at hp 8 6) (ay_at hp 8 7) (ay_at hp 8 8) (ay_at hp 10 0) (ay_at hp 10 1) (ay_at hp 10 2) (ay_at hp 10 3) (ay_at hp 10 4) (ay_at hp 8 9) (ay_at hp 8 11) (ay_at hp 8 10) (ay_at hp 8 3) (ay_at hp 8 4) (ay_at hp 11) (ay_at hp 12) := (ax_XF_lt (x := 50) (Nat.le_of_ble_eq_true rfl)).mp (ax_gx hE (50, [3, 7]) ax_m0)
  rw [c_kind] at F50
  rw [c_place] at F50
  rw [c_ahead] at F50
  refine ⟨(fun y hy => by cases hy), _, List.mem_cons_self, ρ, fun _ _ => rfl, ax_px hE rfl (fun y hy => ?_)⟩
  cases List.mem_singleton.mp hy
  refine (ax_XF_lt (x := 62) (Nat.le_of_ble_eq_true rfl)).mpr ?_
  show pz_x62 (ρ 0) (ρ 1) (4022) (0)
  have kd : ρ 2 / 4 = pz_kd (pz_gt (ρ 0)) (pz_gN (ρ 0)) (pz_p (pz_cf (pz_gt (ρ 0)) (pz_gN (ρ 0)) (ρ 1 / 4))) := F50.2.2.1
  have e1 : ρ 5 / 4 = pz_nx (pz_gt (ρ 0)) (pz_gN (ρ 0)) (pz_p (pz_cf (pz_gt (ρ 0)) (pz_gN (ρ 0)) (ρ 1 / 4))) := F50.1
  have e2 : ρ 4 / 4 = pz_at (pz_gt (ρ 0)) (pz_gN (ρ 0)) (pz_p (pz_cf (pz_gt (ρ 0)) (pz_gN (ρ 0)) (ρ 1 / 4))) := F50.2.1
  refine ⟨kd.symm.trans (show ρ 2 / 4 = 1 by omega), ?_, fun j hj => absurd (show j < 0 from hj) (by omega)⟩
  show pz_nx (pz_gt (ρ 0)) (pz_gN (ρ 0)) (pz_p (pz_cf (pz_gt (ρ 0)) (pz_gN (ρ 0)) (ρ 1 / 4))) - pz_at (pz_gt (ρ 0)) (pz_gN (ρ 0)) (pz_p (pz_cf (pz_gt (ρ 0)) (pz_gN (ρ 0)) (ρ 1 / 4))) = 3
  omega

theorem axq_iw4_5 : ax_RO ax_wC ax_XC axu_iw4_5 := by
  intro ρ hp hE hT
  have j0 : ρ 0 % 4 = 1 := pz_gj hE 0 (Nat.le_of_ble_eq_true rfl) rfl
  have j1 : ρ 1 % 4 = 1 := pz_gj hE 1 (Nat.le_of_ble_eq_true rfl) rfl
  obtain ⟨i2a, i2b, i2c, i2d⟩ := pz_gi hE 2 2147483648 2147483650 (Nat.le_of_ble_eq_true rfl) rfl
  obtain ⟨i3a, i3b, i3c, i3d⟩ := pz_gi hE 3 0 4294967295 (Nat.le_of_ble_eq_true rfl) rfl
  obtain ⟨i4a, i4b, i4c, i4d⟩ := pz_gi hE 4 2147483648 2147484448 (Nat.le_of_ble_eq_true rfl) rfl
  obtain ⟨i5a, i5b, i5c, i5d⟩ := pz_gi hE 5 0 4294967295 (Nat.le_of_ble_eq_true rfl) rfl
  obtain ⟨i6a, i6b, i6c, i6d⟩ := pz_gi hE 6 2147483520 2147483775 (Nat.le_of_ble_eq_true rfl) rfl
  obtain ⟨i7a, i7b, i7c, i7d⟩ := pz_gi hE 7 2147483648 2147483903 (Nat.le_of_ble_eq_true rfl) rfl
  have s1 : (ρ 2 / 4 + 2147483648) % 4294967296 + (4 / 4 + 2147483648) % 4294967296 = (ρ 3 / 4 + 2147483648) % 4294967296 + 2147483648 := pz_gs hE 11 4 15 ax_m3
  have c_place : ay_at hp 8 6 = some (ρ 4) := ay_gfj hE 42 24 19 8 6 ax_m4 (ax_vlq rfl rfl) (ax_vlj rfl rfl)
  have s2 : (ρ 4 / 4 + 2147483648) % 4294967296 + (ρ 2 / 4 + 2147483648) % 4294967296 = (ρ 5 / 4 + 2147483648) % 4294967296 + 2147483648 := pz_gs hE 19 11 23 ax_m5
  have c_tape : ay_at hp 9 (ρ 5 / 4) = some (ρ 6) := ay_gf hE 46 23 27 9 ax_m6 (ax_vlq rfl rfl)
  have r1 : (ρ 6 / 4 + 2147483648) % 4294967296 = (ρ 7 / 4 + 2147483648) % 4294967296 := pz_gc hE 0 27 31 (Nat.le_of_ble_eq_true rfl) ax_m8
  obtain ⟨-, -, F30⟩ : ay_ex hp 8 ∧ ay_ex hp 9 ∧ pz_x30 (ρ 0) (ay_at hp 8 1) (ay_at hp 9) := (ax_XF_lt (x := 30) (Nat.le_of_ble_eq_true rfl)).mp (ax_gx hE (30, [3]) ax_m0)
  obtain ⟨-, -, -, -, F50⟩ : ay_ex hp 8 ∧ ay_ex hp 10 ∧ ay_ex hp 11 ∧ ay_ex hp 12 ∧ pz_x50 (ρ 0) (ρ 1) (ay_at hp 8 5) (ay_at hp 8 6) (ay_at hp 8 7) (ay_at hp 8 8) (ay_at hp 10 0) (ay_at hp 10 1) (ay_at hp 10 2) (ay_at hp 10 3) (ay_at hp 10 4) (ay_at hp 8 9) (ay_at hp 8 11) (ay_at hp 8 10) (ay_at hp 8 3) (ay_at hp 8 4) (ay_at hp 11) (ay_at hp 12) := (ax_XF_lt (x := 50) (Nat.le_of_ble_eq_true rfl)).mp (ax_gx hE (50, [3, 7]) ax_m1)
  rw [c_place] at F50
  have F62 : pz_x62 (ρ 0) (ρ 1) (4022) (ρ 2) := (ax_XF_lt (x := 62) (Nat.le_of_ble_eq_true rfl)).mp (ax_gx hE (62, [3, 7, 4022, 11]) ax_m2)
  refine ⟨(fun y hy => by cases hy), _, List.mem_cons_self, ρ, fun _ _ => rfl, ax_px hE rfl (fun y hy => ?_)⟩
  cases List.mem_singleton.mp hy
  refine (ax_XF_lt (x := 62) (Nat.le_of_ble_eq_true rfl)).mpr ?_
  show pz_x62 (ρ 0) (ρ 1) (4022) (ρ 3)
  have ch := pz_chr (v := 4022) (i := ρ 2) (z := ρ 7) (l := [102, 97, 114]) (by decide +kernel) (pz_g42 hE 4022 11 31 (by decide))
  have ep : ρ 4 / 4 = pz_at (pz_gt (ρ 0)) (pz_gN (ρ 0)) (pz_p (pz_cf (pz_gt (ρ 0)) (pz_gN (ρ 0)) (ρ 1 / 4))) := F50.2.1
  have hw : pz_at (pz_gt (ρ 0)) (pz_gN (ρ 0)) (pz_p (pz_cf (pz_gt (ρ 0)) (pz_gN (ρ 0)) (ρ 1 / 4))) < pz_gN (ρ 0) ∧ pz_nx (pz_gt (ρ 0)) (pz_gN (ρ 0)) (pz_p (pz_cf (pz_gt (ρ 0)) (pz_gN (ρ 0)) (ρ 1 / 4))) ≤ pz_gN (ρ 0) := pz_wd_le F62.1
  have hln : pz_nx (pz_gt (ρ 0)) (pz_gN (ρ 0)) (pz_p (pz_cf (pz_gt (ρ 0)) (pz_gN (ρ 0)) (ρ 1 / 4))) - pz_at (pz_gt (ρ 0)) (pz_gN (ρ 0)) (pz_p (pz_cf (pz_gt (ρ 0)) (pz_gN (ρ 0)) (ρ 1 / 4))) = 3 := F62.2.1
  have hi1 : ρ 2 / 4 < 3 := by omega
  have ha1 : ρ 4 / 4 ≤ 800 := by omega
  have hq1 : ρ 5 / 4 = ρ 4 / 4 + ρ 2 / 4 := by omega
  have hb := F30.2.2 (ρ 5 / 4) (by have := hw.2; omega)
  rw [c_tape] at hb
  have hb := Option.some.inj hb
  rw [show ρ 5 / 4 = pz_at (pz_gt (ρ 0)) (pz_gN (ρ 0)) (pz_p (pz_cf (pz_gt (ρ 0)) (pz_gN (ρ 0)) (ρ 1 / 4))) + ρ 2 / 4 by omega] at hb
  refine ⟨F62.1, F62.2.1, fun j hj => ?_⟩
  by_cases h : j < ρ 2 / 4
  · exact F62.2.2 j h
  · have e : j = ρ 2 / 4 := by omega
    have hcc : ρ 6 / 4 = ρ 7 / 4 := by omega
    have hb2 : pz_b (pz_gt (ρ 0)) (pz_at (pz_gt (ρ 0)) (pz_gN (ρ 0)) (pz_p (pz_cf (pz_gt (ρ 0)) (pz_gN (ρ 0)) (ρ 1 / 4))) + ρ 2 / 4) = ρ 6 / 4 := by omega
    rw [e]
    refine Eq.trans ?_ (pz_getD ch).symm
    rw [← hcc]
    exact hb2

theorem axq_iw5_5 : ax_RO ax_wC ax_XC axu_iw5_5 := by
  intro ρ hp hE hT
  have j0 : ρ 0 % 4 = 1 := pz_gj hE 0 (Nat.le_of_ble_eq_true rfl) rfl
  have j1 : ρ 1 % 4 = 1 := pz_gj hE 1 (Nat.le_of_ble_eq_true rfl) rfl
  obtain ⟨i2a, i2b, i2c, i2d⟩ := pz_gi hE 2 2147483648 2147483650 (Nat.le_of_ble_eq_true rfl) rfl
  obtain ⟨i3a, i3b, i3c, i3d⟩ := pz_gi hE 3 2147483648 2147484448 (Nat.le_of_ble_eq_true rfl) rfl
  obtain ⟨i4a, i4b, i4c, i4d⟩ := pz_gi hE 4 0 4294967295 (Nat.le_of_ble_eq_true rfl) rfl
  obtain ⟨i5a, i5b, i5c, i5d⟩ := pz_gi hE 5 2147483520 2147483775 (Nat.le_of_ble_eq_true rfl) rfl
  obtain ⟨i6a, i6b, i6c, i6d⟩ := pz_gi hE 6 2147483648 2147483903 (Nat.le_of_ble_eq_true rfl) rfl
  have c_place : ay_at hp 8 6 = some (ρ 3) := ay_gfj hE 42 24 15 8 6 ax_m3 (ax_vlq rfl rfl) (ax_vlj rfl rfl)
  have s1 : (ρ 3 / 4 + 2147483648) % 4294967296 + (ρ 2 / 4 + 2147483648) % 4294967296 = (ρ 4 / 4 + 2147483648) % 4294967296 + 2147483648 := pz_gs hE 15 11 19 ax_m4
  have c_tape : ay_at hp 9 (ρ 4 / 4) = some (ρ 5) := ay_gf hE 46 19 23 9 ax_m5 (ax_vlq rfl rfl)
  have r1 : (ρ 5 / 4 + 2147483648) % 4294967296 ≠ (ρ 6 / 4 + 2147483648) % 4294967296 := pz_gc hE 1 23 27 (Nat.le_of_ble_eq_true rfl) ax_m7
  obtain ⟨-, -, F30⟩ : ay_ex hp 8 ∧ ay_ex hp 9 ∧ pz_x30 (ρ 0) (ay_at hp 8 1) (ay_at hp 9) := (ax_XF_lt (x := 30) (Nat.le_of_ble_eq_true rfl)).mp (ax_gx hE (30, [3]) ax_m0)
  obtain ⟨-, -, -, -, F50⟩ : ay_ex hp 8 ∧ ay_ex hp 10 ∧ ay_ex hp 11 ∧ ay_ex hp 12 ∧ pz_x50 (ρ 0) (ρ 1) (ay_at hp 8 5) (ay_at hp 8 6) (ay_at hp 8 7) (ay_at hp 8 8) (ay_at hp 10 0) (ay_at hp 10 1) (ay_at hp 10 2) (ay_at hp 10 3) (ay_at hp 10 4) (ay_at hp 8 9) (ay_at hp 8 11) (ay_at hp 8 10) (ay_at hp 8 3) (ay_at hp 8 4) (ay_at hp 11) (ay_at hp 12) := (ax_XF_lt (x := 50) (Nat.le_of_ble_eq_true rfl)).mp (ax_gx hE (50, [3, 7]) ax_m1)
  rw [c_place] at F50
  have F62 : pz_x62 (ρ 0) (ρ 1) (4022) (ρ 2) := (ax_XF_lt (x := 62) (Nat.le_of_ble_eq_true rfl)).mp (ax_gx hE (62, [3, 7, 4022, 11]) ax_m2)
  refine ⟨(fun y hy => by cases hy), _, List.mem_cons_self, ρ, fun _ _ => rfl, ax_px hE rfl (fun y hy => ?_)⟩
  cases List.mem_singleton.mp hy
  refine (ax_XF_lt (x := 61) (Nat.le_of_ble_eq_true rfl)).mpr ?_
  show pz61 (pz_gt (ρ 0)) (pz_gN (ρ 0)) ((ρ 1) / 4) ((4022) / 4 - 1000)
  have ch := pz_chr (v := 4022) (i := ρ 2) (z := ρ 6) (l := [102, 97, 114]) (by decide +kernel) (pz_g42 hE 4022 11 27 (by decide))
  have ep : ρ 3 / 4 = pz_at (pz_gt (ρ 0)) (pz_gN (ρ 0)) (pz_p (pz_cf (pz_gt (ρ 0)) (pz_gN (ρ 0)) (ρ 1 / 4))) := F50.2.1
  have hw : pz_at (pz_gt (ρ 0)) (pz_gN (ρ 0)) (pz_p (pz_cf (pz_gt (ρ 0)) (pz_gN (ρ 0)) (ρ 1 / 4))) < pz_gN (ρ 0) ∧ pz_nx (pz_gt (ρ 0)) (pz_gN (ρ 0)) (pz_p (pz_cf (pz_gt (ρ 0)) (pz_gN (ρ 0)) (ρ 1 / 4))) ≤ pz_gN (ρ 0) := pz_wd_le F62.1
  have hln : pz_nx (pz_gt (ρ 0)) (pz_gN (ρ 0)) (pz_p (pz_cf (pz_gt (ρ 0)) (pz_gN (ρ 0)) (ρ 1 / 4))) - pz_at (pz_gt (ρ 0)) (pz_gN (ρ 0)) (pz_p (pz_cf (pz_gt (ρ 0)) (pz_gN (ρ 0)) (ρ 1 / 4))) = 3 := F62.2.1
  have hi1 : ρ 2 / 4 < 3 := by omega
  have ha1 : ρ 3 / 4 ≤ 800 := by omega
  have hq1 : ρ 4 / 4 = ρ 3 / 4 + ρ 2 / 4 := by omega
  have hb := F30.2.2 (ρ 4 / 4) (by have := hw.2; omega)
  rw [c_tape] at hb
  have hb := Option.some.inj hb
  rw [show ρ 4 / 4 = pz_at (pz_gt (ρ 0)) (pz_gN (ρ 0)) (pz_p (pz_cf (pz_gt (ρ 0)) (pz_gN (ρ 0)) (ρ 1 / 4))) + ρ 2 / 4 by omega] at hb
  refine pz_is_no (Or.inr (Or.inr ⟨ρ 2 / 4, show ρ 2 / 4 < 3 by omega, fun z => ?_⟩))
  have hb2 : pz_b (pz_gt (ρ 0)) (pz_at (pz_gt (ρ 0)) (pz_gN (ρ 0)) (pz_p (pz_cf (pz_gt (ρ 0)) (pz_gN (ρ 0)) (ρ 1 / 4))) + ρ 2 / 4) = ρ 5 / 4 := by omega
  have z2 := (hb2.symm.trans z).trans (pz_getD ch)
  rw [z2] at r1
  exact r1 rfl

theorem axq_iw6_5 : ax_RO ax_wC ax_XC axu_iw6_5 := by
  intro ρ hp hE hT
  have j0 : ρ 0 % 4 = 1 := pz_gj hE 0 (Nat.le_of_ble_eq_true rfl) rfl
  have j1 : ρ 1 % 4 = 1 := pz_gj hE 1 (Nat.le_of_ble_eq_true rfl) rfl
  obtain ⟨i2a, i2b, i2c, i2d⟩ := pz_gi hE 2 2147483651 2147483651 (Nat.le_of_ble_eq_true rfl) rfl
  obtain ⟨-, -, -, -, F50⟩ : ay_ex hp 8 ∧ ay_ex hp 10 ∧ ay_ex hp 11 ∧ ay_ex hp 12 ∧ pz_x50 (ρ 0) (ρ 1) (ay_at hp 8 5) (ay_at hp 8 6) (ay_at hp 8 7) (ay_at hp 8 8) (ay_at hp 10 0) (ay_at hp 10 1) (ay_at hp 10 2) (ay_at hp 10 3) (ay_at hp 10 4) (ay_at hp 8 9) (ay_at hp 8 11) (ay_at hp 8 10) (ay_at hp 8 3) (ay_at hp 8 4) (ay_at hp 11) (ay_at hp 12) := (ax_XF_lt (x := 50) (Nat.le_of_ble_eq_true rfl)).mp (ax_gx hE (50, [3, 7]) ax_m0)
  have F62 : pz_x62 (ρ 0) (ρ 1) (4022) (ρ 2) := (ax_XF_lt (x := 62) (Nat.le_of_ble_eq_true rfl)).mp (ax_gx hE (62, [3, 7, 4022, 11]) ax_m1)
  refine ⟨(fun y hy => by cases hy), _, List.mem_cons_self, ρ, fun _ _ => rfl, ax_px hE rfl (fun y hy => ?_)⟩
  cases List.mem_singleton.mp hy
  refine (ax_XF_lt (x := 60) (Nat.le_of_ble_eq_true rfl)).mpr ?_
  show pz60 (pz_gt (ρ 0)) (pz_gN (ρ 0)) ((ρ 1) / 4) ((4022) / 4 - 1000)
  exact pz_is_yes F62.1 F62.2.1 (fun i hi => F62.2.2 i (by have : i < 3 := hi; omega))

theorem axq_iw1a_6 : ax_RO ax_wC ax_XC axu_iw1a_6 := by
  intro ρ hp hE hT
  have j0 : ρ 0 % 4 = 1 := pz_gj hE 0 (Nat.le_of_ble_eq_true rfl) rfl
  have j1 : ρ 1 % 4 = 1 := pz_gj hE 1 (Nat.le_of_ble_eq_true rfl) rfl
  obtain ⟨i2a, i2b, i2c, i2d⟩ := pz_gi hE 2 0 2147483648 (Nat.le_of_ble_eq_true rfl) rfl
  have c_kind : ay_at hp 8 7 = some (ρ 2) := ay_gfj hE 42 28 11 8 7 ax_m1 (ax_vlq rfl rfl) (ax_vlj rfl rfl)
  obtain ⟨-, -, -, -, F50⟩ : ay_ex hp 8 ∧ ay_ex hp 10 ∧ ay_ex hp 11 ∧ ay_ex hp 12 ∧ pz_x50 (ρ 0) (ρ 1) (ay_at hp 8 5) (ay_at hp 8 6) (ay_at hp 8 7) (ay_at hp 8 8) (ay_at hp 10 0) (ay_at hp 10 1) (ay_at hp 10 2) (ay_at hp 10 3) (ay_at hp 10 4) (ay_at hp 8 9) (ay_at hp 8 11) (ay_at hp 8 10) (ay_at hp 8 3) (ay_at hp 8 4) (ay_at hp 11) (ay_at hp 12) := (ax_XF_lt (x := 50) (Nat.le_of_ble_eq_true rfl)).mp (ax_gx hE (50, [3, 7]) ax_m0)
  rw [c_kind] at F50
  refine ⟨(fun y hy => by cases hy), _, List.mem_cons_self, ρ, fun _ _ => rfl, ax_px hE rfl (fun y hy => ?_)⟩
  cases List.mem_singleton.mp hy
  refine (ax_XF_lt (x := 61) (Nat.le_of_ble_eq_true rfl)).mpr ?_
  show pz61 (pz_gt (ρ 0)) (pz_gN (ρ 0)) ((ρ 1) / 4) ((4026) / 4 - 1000)
  have kd : ρ 2 / 4 = pz_kd (pz_gt (ρ 0)) (pz_gN (ρ 0)) (pz_p (pz_cf (pz_gt (ρ 0)) (pz_gN (ρ 0)) (ρ 1 / 4))) := F50.2.2.1
  exact pz_is_no (Or.inl (by omega))

theorem axq_iw1b_6 : ax_RO ax_wC ax_XC axu_iw1b_6 := by
  intro ρ hp hE hT
  have j0 : ρ 0 % 4 = 1 := pz_gj hE 0 (Nat.le_of_ble_eq_true rfl) rfl
  have j1 : ρ 1 % 4 = 1 := pz_gj hE 1 (Nat.le_of_ble_eq_true rfl) rfl
  obtain ⟨i2a, i2b, i2c, i2d⟩ := pz_gi hE 2 2147483650 4294967295 (Nat.le_of_ble_eq_true rfl) rfl
  have c_kind : ay_at hp 8 7 = some (ρ 2) := ay_gfj hE 42 28 11 8 7 ax_m1 (ax_vlq rfl rfl) (ax_vlj rfl rfl)
  obtain ⟨-, -, -, -, F50⟩ : ay_ex hp 8 ∧ ay_ex hp 10 ∧ ay_ex hp 11 ∧ ay_ex hp 12 ∧ pz_x50 (ρ 0) (ρ 1) (ay_at hp 8 5) (ay_at hp 8 6) (ay_at hp 8 7) (ay_at hp 8 8) (ay_at hp 10 0) (ay_at hp 10 1) (ay_at hp 10 2) (ay_at hp 10 3) (ay_at hp 10 4) (ay_at hp 8 9) (ay_at hp 8 11) (ay_at hp 8 10) (ay_at hp 8 3) (ay_at hp 8 4) (ay_at hp 11) (ay_at hp 12) := (ax_XF_lt (x := 50) (Nat.le_of_ble_eq_true rfl)).mp (ax_gx hE (50, [3, 7]) ax_m0)
  rw [c_kind] at F50
  refine ⟨(fun y hy => by cases hy), _, List.mem_cons_self, ρ, fun _ _ => rfl, ax_px hE rfl (fun y hy => ?_)⟩
  cases List.mem_singleton.mp hy
  refine (ax_XF_lt (x := 61) (Nat.le_of_ble_eq_true rfl)).mpr ?_
  show pz61 (pz_gt (ρ 0)) (pz_gN (ρ 0)) ((ρ 1) / 4) ((4026) / 4 - 1000)
  have kd : ρ 2 / 4 = pz_kd (pz_gt (ρ 0)) (pz_gN (ρ 0)) (pz_p (pz_cf (pz_gt (ρ 0)) (pz_gN (ρ 0)) (ρ 1 / 4))) := F50.2.2.1
  exact pz_is_no (Or.inl (by omega))

theorem axq_iw2a_6 : ax_RO ax_wC ax_XC axu_iw2a_6 := by
  intro ρ hp hE hT
  have j0 : ρ 0 % 4 = 1 := pz_gj hE 0 (Nat.le_of_ble_eq_true rfl) rfl
  have j1 : ρ 1 % 4 = 1 := pz_gj hE 1 (Nat.le_of_ble_eq_true rfl) rfl
  obtain ⟨i2a, i2b, i2c, i2d⟩ := pz_gi hE 2 2147482848 2147483653 (Nat.le_of_ble_eq_true rfl) rfl
  obtain ⟨i3a, i3b, i3c, i3d⟩ := pz_gi hE 3 2147483648 2147484448 (Nat.le_of_ble_eq_true rfl) rfl
  obtain ⟨i4a, i4b, i4c, i4d⟩ := pz_gi hE 4 2147483648 2147484448 (Nat.le_of_ble_eq_true rfl) rfl
  have c_place : ay_at hp 8 6 = some (ρ 3) := ay_gfj hE 42 24 15 8 6 ax_m1 (ax_vlq rfl rfl) (ax_vlj rfl rfl)
  have c_ahead : ay_at hp 8 5 = some (ρ 4) := ay_gfj hE 42 20 19 8 5 ax_m2 (ax_vlq rfl rfl) (ax_vlj rfl rfl)
  have s1 : (ρ 2 / 4 + 2147483648) % 4294967296 + (ρ 3 / 4 + 2147483648) % 4294967296 = (ρ 4 / 4 + 2147483648) % 4294967296 + 2147483648 := pz_gs hE 11 15 19 ax_m3
  obtain ⟨-, -, -, -, F50⟩ : ay_ex hp 8 ∧ ay_ex hp 10 ∧ ay_ex hp 11 ∧ ay_ex hp 12 ∧ pz_x50 (ρ 0) (ρ 1) (ay_at hp 8 5) (ay_at hp 8 6) (ay_at hp 8 7) (ay_at hp 8 8) (ay_at hp 10 0) (ay_at hp 10 1) (ay_at hp 10 2) (ay_at hp 10 3) (ay_at hp 10 4) (ay_at hp 8 9) (ay_at hp 8 11) (ay_at hp 8 10) (ay_at hp 8 3) (ay_at hp 8 4) (ay_at hp 11) (ay_at hp 12) := (ax_XF_lt (x := 50) (Nat.le_of_ble_eq_true rfl)).mp (ax_gx hE (50, [3, 7]) ax_m0)
  rw [c_place] at F50
  rw [c_ahead] at F50
  refine ⟨(fun y hy => by cases hy), _, List.mem_cons_self, ρ, fun _ _ => rfl, ax_px hE rfl (fun y hy => ?_)⟩
  cases List.mem_singleton.mp hy
  refine (ax_XF_lt (x := 61) (Nat.le_of_ble_eq_true rfl)).mpr ?_
  show pz61 (pz_gt (ρ 0)) (pz_gN (ρ 0)) ((ρ 1) / 4) ((4026) / 4 - 1000)
  have e1 : ρ 4 / 4 = pz_nx (pz_gt (ρ 0)) (pz_gN (ρ 0)) (pz_p (pz_cf (pz_gt (ρ 0)) (pz_gN (ρ 0)) (ρ 1 / 4))) := F50.1
  have e2 : ρ 3 / 4 = pz_at (pz_gt (ρ 0)) (pz_gN (ρ 0)) (pz_p (pz_cf (pz_gt (ρ 0)) (pz_gN (ρ 0)) (ρ 1 / 4))) := F50.2.1
  refine pz_is_no (Or.inr (Or.inl ?_))
  show pz_nx (pz_gt (ρ 0)) (pz_gN (ρ 0)) (pz_p (pz_cf (pz_gt (ρ 0)) (pz_gN (ρ 0)) (ρ 1 / 4))) - pz_at (pz_gt (ρ 0)) (pz_gN (ρ 0)) (pz_p (pz_cf (pz_gt (ρ 0)) (pz_gN (ρ 0)) (ρ 1 / 4))) ≠ 6
  omega

theorem axq_iw2b_6 : ax_RO ax_wC ax_XC axu_iw2b_6 := by
  intro ρ hp hE hT
  have j0 : ρ 0 % 4 = 1 := pz_gj hE 0 (Nat.le_of_ble_eq_true rfl) rfl
  have j1 : ρ 1 % 4 = 1 := pz_gj hE 1 (Nat.le_of_ble_eq_true rfl) rfl
  obtain ⟨i2a, i2b, i2c, i2d⟩ := pz_gi hE 2 2147483655 2147484448 (Nat.le_of_ble_eq_true rfl) rfl
  obtain ⟨i3a, i3b, i3c, i3d⟩ := pz_gi hE 3 2147483648 2147484448 (Nat.le_of_ble_eq_true rfl) rfl
  obtain ⟨i4a, i4b, i4c, i4d⟩ := pz_gi hE 4 2147483648 2147484448 (Nat.le_of_ble_eq_true rfl) rfl
  have c_place : ay_at hp 8 6 = some (ρ 3) := ay_gfj hE 42 24 15 8 6 ax_m1 (ax_vlq rfl rfl) (ax_vlj rfl rfl)
  have c_ahead : ay_at hp 8 5 = some (ρ 4) := ay_gfj hE 42 20 19 8 5 ax_m2 (ax_vlq rfl rfl) (ax_vlj rfl rfl)
  have s1 : (ρ 2 / 4 + 2147483648) % 4294967296 + (ρ 3 / 4 + 2147483648) % 4294967296 = (ρ 4 / 4 + 2147483648) % 4294967296 + 2147483648 := pz_gs hE 11 15 19 ax_m3
  obtain ⟨-, -, -, -, F50⟩ : ay_ex hp 8 ∧ ay_ex hp 10 ∧ ay_ex hp 11 ∧ ay_ex hp 12 ∧ pz_x50 (ρ 0) (ρ 1) (ay_at hp 8 5) (ay_at hp 8 6) (ay_at hp 8 7) (ay_at hp 8 8) (ay_at hp 10 0) (ay_at hp 10 1) (ay_at hp 10 2) (ay_at hp 10 3) (ay_at hp 10 4) (ay_at hp 8 9) (ay_at hp 8 11) (ay_at hp 8 10) (ay_at hp 8 3) (ay_at hp 8 4) (ay_at hp 11) (ay_at hp 12) := (ax_XF_lt (x := 50) (Nat.le_of_ble_eq_true rfl)).mp (ax_gx hE (50, [3, 7]) ax_m0)
  rw [c_place] at F50
  rw [c_ahead] at F50
  refine ⟨(fun y hy => by cases hy), _, List.mem_cons_self, ρ, fun _ _ => rfl, ax_px hE rfl (fun y hy => ?_)⟩
  cases List.mem_singleton.mp hy
  refine (ax_XF_lt (x := 61) (Nat.le_of_ble_eq_true rfl)).mpr ?_
  show pz61 (pz_gt (ρ 0)) (pz_gN (ρ 0)) ((ρ 1) / 4) ((4026) / 4 - 1000)
  have e1 : ρ 4 / 4 = pz_nx (pz_gt (ρ 0)) (pz_gN (ρ 0)) (pz_p (pz_cf (pz_gt (ρ 0)) (pz_gN (ρ 0)) (ρ 1 / 4))) := F50.1
  have e2 : ρ 3 / 4 = pz_at (pz_gt (ρ 0)) (pz_gN (ρ 0)) (pz_p (pz_cf (pz_gt (ρ 0)) (pz_gN (ρ 0)) (ρ 1 / 4))) := F50.2.1
  refine pz_is_no (Or.inr (Or.inl ?_))
  show pz_nx (pz_gt (ρ 0)) (pz_gN (ρ 0)) (pz_p (pz_cf (pz_gt (ρ 0)) (pz_gN (ρ 0)) (ρ 1 / 4))) - pz_at (pz_gt (ρ 0)) (pz_gN (ρ 0)) (pz_p (pz_cf (pz_gt (ρ 0)) (pz_gN (ρ 0)) (ρ 1 / 4))) ≠ 6
  omega

theorem axq_iw3_6 : ax_RO ax_wC ax_XC axu_iw3_6 := by
  intro ρ hp hE hT
  have j0 : ρ 0 % 4 = 1 := pz_gj hE 0 (Nat.le_of_ble_eq_true rfl) rfl
  have j1 : ρ 1 % 4 = 1 := pz_gj hE 1 (Nat.le_of_ble_eq_true rfl) rfl
  obtain ⟨i2a, i2b, i2c, i2d⟩ := pz_gi hE 2 2147483649 2147483649 (Nat.le_of_ble_eq_true rfl) rfl
  obtain ⟨i3a, i3b, i3c, i3d⟩ := pz_gi hE 3 2147483654 2147483654 (Nat.le_of_ble_eq_true rfl) rfl
  obtain ⟨i4a, i4b, i4c, i4d⟩ := pz_gi hE 4 2147483648 2147484448 (Nat.le_of_ble_eq_true rfl) rfl
  obtain ⟨i5a, i5b, i5c, i5d⟩ := pz_gi hE 5 2147483648 2147484448 (Nat.le_of_ble_eq_true rfl) rfl
  have c_kind : ay_at hp 8 7 = some (ρ 2) := ay_gfj hE 42 28 11 8 7 ax_m1 (ax_vlq rfl rfl) (ax_vlj rfl rfl)
  have c_place : ay_at hp 8 6 = some (ρ 4) := ay_gfj hE 42 24 19 8 6 ax_m2 (ax_vlq rfl rfl) (ax_vlj rfl rfl)
  have c_ahead : ay_at hp 8 5 = some (ρ 5) := ay_gfj hE 42 20 23 8 5 ax_m3 (ax_vlq rfl rfl) (ax_vlj rfl rfl)
  have s1 : (ρ 3 / 4 + 2147483648) % 4294967296 + (ρ 4 / 4 + 2147483648) % 4294967296 = (ρ 5 / 4 + 2147483648) % 4294967296 + 2147483648 := pz_gs hE 15 19 23 ax_m4
  obtain ⟨-, -, -, -, F50⟩ : ay_ex hp 8 ∧ ay_ex hp 10 ∧ ay_ex hp 11 ∧ ay_ex hp 12 ∧ pz_x50 (ρ 0) (ρ 1) (ay_at hp 8 5) (ay_at hp 8 6) (ay_at hp 8 7) (ay_at hp 8 8) (ay_at hp 10 0) (ay_at hp 10 1) (ay_at hp 10 2) (ay_at hp 10 3) (ay_at hp 10 4) (ay_at hp 8 9) (ay_at hp 8 11) (ay_at hp 8 10) (ay_at hp 8 3) (ay_at hp 8 4) (ay_at hp 11) (ay_at hp 12) := (ax_XF_lt (x := 50) (Nat.le_of_ble_eq_true rfl)).mp (ax_gx hE (50, [3, 7]) ax_m0)
  rw [c_kind] at F50
  rw [c_place] at F50
  rw [c_ahead] at F50
  refine ⟨(fun y hy => by cases hy), _, List.mem_cons_self, ρ, fun _ _ => rfl, ax_px hE rfl (fun y hy => ?_)⟩
  cases List.mem_singleton.mp hy
  refine (ax_XF_lt (x := 62) (Nat.le_of_ble_eq_true rfl)).mpr ?_
  show pz_x62 (ρ 0) (ρ 1) (4026) (0)
  have kd : ρ 2 / 4 = pz_kd (pz_gt (ρ 0)) (pz_gN (ρ 0)) (pz_p (pz_cf (pz_gt (ρ 0)) (pz_gN (ρ 0)) (ρ 1 / 4))) := F50.2.2.1
  have e1 : ρ 5 / 4 = pz_nx (pz_gt (ρ 0)) (pz_gN (ρ 0)) (pz_p (pz_cf (pz_gt (ρ 0)) (pz_gN (ρ 0)) (ρ 1 / 4))) := F50.1
  have e2 : ρ 4 / 4 = pz_at (pz_gt (ρ 0)) (pz_gN (ρ 0)) (pz_p (pz_cf (pz_gt (ρ 0)) (pz_gN (ρ 0)) (ρ 1 / 4))) := F50.2.1
  refine ⟨kd.symm.trans (show ρ 2 / 4 = 1 by omega), ?_, fun j hj => absurd (show j < 0 from hj) (by omega)⟩
  show pz_nx (pz_gt (ρ 0)) (pz_gN (ρ 0)) (pz_p (pz_cf (pz_gt (ρ 0)) (pz_gN (ρ 0)) (ρ 1 / 4))) - pz_at (pz_gt (ρ 0)) (pz_gN (ρ 0)) (pz_p (pz_cf (pz_gt (ρ 0)) (pz_gN (ρ 0)) (ρ 1 / 4))) = 6
  omega

theorem axq_iw4_6 : ax_RO ax_wC ax_XC axu_iw4_6 := by
  intro ρ hp hE hT
  have j0 : ρ 0 % 4 = 1 := pz_gj hE 0 (Nat.le_of_ble_eq_true rfl) rfl
  have j1 : ρ 1 % 4 = 1 := pz_gj hE 1 (Nat.le_of_ble_eq_true rfl) rfl
  obtain ⟨i2a, i2b, i2c, i2d⟩ := pz_gi hE 2 2147483648 2147483653 (Nat.le_of_ble_eq_true rfl) rfl
  obtain ⟨i3a, i3b, i3c, i3d⟩ := pz_gi hE 3 0 4294967295 (Nat.le_of_ble_eq_true rfl) rfl
  obtain ⟨i4a, i4b, i4c, i4d⟩ := pz_gi hE 4 2147483648 2147484448 (Nat.le_of_ble_eq_true rfl) rfl
  obtain ⟨i5a, i5b, i5c, i5d⟩ := pz_gi hE 5 0 4294967295 (Nat.le_of_ble_eq_true rfl) rfl
  obtain ⟨i6a, i6b, i6c, i6d⟩ := pz_gi hE 6 2147483520 2147483775 (Nat.le_of_ble_eq_true rfl) rfl
  obtain ⟨i7a, i7b, i7c, i7d⟩ := pz_gi hE 7 2147483648 2147483903 (Nat.le_of_ble_eq_true rfl) rfl
  have s1 : (ρ 2 / 4 + 2147483648) % 4294967296 + (4 / 4 + 2147483648) % 4294967296 = (ρ 3 / 4 + 2147483648) % 4294967296 + 2147483648 := pz_gs hE 11 4 15 ax_m3
  have c_place : ay_at hp 8 6 = some (ρ 4) := ay_gfj hE 42 24 19 8 6 ax_m4 (ax_vlq rfl rfl) (ax_vlj rfl rfl)
  have s2 : (ρ 4 / 4 + 2147483648) % 4294967296 + (ρ 2 / 4 + 2147483648) % 4294967296 = (ρ 5 / 4 + 2147483648) % 4294967296 + 2147483648 := pz_gs hE 19 11 23 ax_m5
  have c_tape : ay_at hp 9 (ρ 5 / 4) = some (ρ 6) := ay_gf hE 46 23 27 9 ax_m6 (ax_vlq rfl rfl)
  have r1 : (ρ 6 / 4 + 2147483648) % 4294967296 = (ρ 7 / 4 + 2147483648) % 4294967296 := pz_gc hE 0 27 31 (Nat.le_of_ble_eq_true rfl) ax_m8
  obtain ⟨-, -, F30⟩ : ay_ex hp 8 ∧ ay_ex hp 9 ∧ pz_x30 (ρ 0) (ay_at hp 8 1) (ay_at hp 9) := (ax_XF_lt (x := 30) (Nat.le_of_ble_eq_true rfl)).mp (ax_gx hE (30, [3]) ax_m0)
  obtain ⟨-, -, -, -, F50⟩ : ay_ex hp 8 ∧ ay_ex hp 10 ∧ ay_ex hp 11 ∧ ay_ex hp 12 ∧ pz_x50 (ρ 0) (ρ 1) (ay_at hp 8 5) (ay_at hp 8 6) (ay_at hp 8 7) (ay_at hp 8 8) (ay_at hp 10 0) (ay_at hp 10 1) (ay_at hp 10 2) (ay_at hp 10 3) (ay_at hp 10 4) (ay_at hp 8 9) (ay_at hp 8 11) (ay_at hp 8 10) (ay_at hp 8 3) (ay_at hp 8 4) (ay_at hp 11) (ay_at hp 12) := (ax_XF_lt (x := 50) (Nat.le_of_ble_eq_true rfl)).mp (ax_gx hE (50, [3, 7]) ax_m1)
  rw [c_place] at F50
  have F62 : pz_x62 (ρ 0) (ρ 1) (4026) (ρ 2) := (ax_XF_lt (x := 62) (Nat.le_of_ble_eq_true rfl)).mp (ax_gx hE (62, [3, 7, 4026, 11]) ax_m2)
  refine ⟨(fun y hy => by cases hy), _, List.mem_cons_self, ρ, fun _ _ => rfl, ax_px hE rfl (fun y hy => ?_)⟩
  cases List.mem_singleton.mp hy
  refine (ax_XF_lt (x := 62) (Nat.le_of_ble_eq_true rfl)).mpr ?_
  show pz_x62 (ρ 0) (ρ 1) (4026) (ρ 3)
  have ch := pz_chr (v := 4026) (i := ρ 2) (z := ρ 7) (l := [110, 117, 109, 98, 101, 114]) (by decide +kernel) (pz_g42 hE 4026 11 31 (by decide))
  have ep : ρ 4 / 4 = pz_at (pz_gt (ρ 0)) (pz_gN (ρ 0)) (pz_p (pz_cf (pz_gt (ρ 0)) (pz_gN (ρ 0)) (ρ 1 / 4))) := F50.2.1
  have hw : pz_at (pz_gt (ρ 0)) (pz_gN (ρ 0)) (pz_p (pz_cf (pz_gt (ρ 0)) (pz_gN (ρ 0)) (ρ 1 / 4))) < pz_gN (ρ 0) ∧ pz_nx (pz_gt (ρ 0)) (pz_gN (ρ 0)) (pz_p (pz_cf (pz_gt (ρ 0)) (pz_gN (ρ 0)) (ρ 1 / 4))) ≤ pz_gN (ρ 0) := pz_wd_le F62.1
  have hln : pz_nx (pz_gt (ρ 0)) (pz_gN (ρ 0)) (pz_p (pz_cf (pz_gt (ρ 0)) (pz_gN (ρ 0)) (ρ 1 / 4))) - pz_at (pz_gt (ρ 0)) (pz_gN (ρ 0)) (pz_p (pz_cf (pz_gt (ρ 0)) (pz_gN (ρ 0)) (ρ 1 / 4))) = 6 := F62.2.1
  have hi1 : ρ 2 / 4 < 6 := by omega
  have ha1 : ρ 4 / 4 ≤ 800 := by omega
  have hq1 : ρ 5 / 4 = ρ 4 / 4 + ρ 2 / 4 := by omega
  have hb := F30.2.2 (ρ 5 / 4) (by have := hw.2; omega)
  rw [c_tape] at hb
  have hb := Option.some.inj hb
  rw [show ρ 5 / 4 = pz_at (pz_gt (ρ 0)) (pz_gN (ρ 0)) (pz_p (pz_cf (pz_gt (ρ 0)) (pz_gN (ρ 0)) (ρ 1 / 4))) + ρ 2 / 4 by omega] at hb
  refine ⟨F62.1, F62.2.1, fun j hj => ?_⟩
  by_cases h : j < ρ 2 / 4
  · exact F62.2.2 j h
  · have e : j = ρ 2 / 4 := by omega
    have hcc : ρ 6 / 4 = ρ 7 / 4 := by omega
    have hb2 : pz_b (pz_gt (ρ 0)) (pz_at (pz_gt (ρ 0)) (pz_gN (ρ 0)) (pz_p (pz_cf (pz_gt (ρ 0)) (pz_gN (ρ 0)) (ρ 1 / 4))) + ρ 2 / 4) = ρ 6 / 4 := by omega
    rw [e]
    refine Eq.trans ?_ (pz_getD ch).symm
    rw [← hcc]
    exact hb2

theorem axq_iw5_6 : ax_RO ax_wC ax_XC axu_iw5_6 := by
  intro ρ hp hE hT
  have j0 : ρ 0 % 4 = 1 := pz_gj hE 0 (Nat.le_of_ble_eq_true rfl) rfl
  have j1 : ρ 1 % 4 = 1 := pz_gj hE 1 (Nat.le_of_ble_eq_true rfl) rfl
  obtain ⟨i2a, i2b, i2c, i2d⟩ := pz_gi hE 2 2147483648 2147483653 (Nat.le_of_ble_eq_true rfl) rfl
  obtain ⟨i3a, i3b, i3c, i3d⟩ := pz_gi hE 3 2147483648 2147484448 (Nat.le_of_ble_eq_true rfl) rfl
  obtain ⟨i4a, i4b, i4c, i4d⟩ := pz_gi hE 4 0 4294967295 (Nat.le_of_ble_eq_true rfl) rfl
  obtain ⟨i5a, i5b, i5c, i5d⟩ := pz_gi hE 5 2147483520 2147483775 (Nat.le_of_ble_eq_true rfl) rfl
  obtain ⟨i6a, i6b, i6c, i6d⟩ := pz_gi hE 6 2147483648 2147483903 (Nat.le_of_ble_eq_true rfl) rfl
  have c_place : ay_at hp 8 6 = some (ρ 3) := ay_gfj hE 42 24 15 8 6 ax_m3 (ax_vlq rfl rfl) (ax_vlj rfl rfl)
  have s1 : (ρ 3 / 4 + 2147483648) % 4294967296 + (ρ 2 / 4 + 2147483648) % 4294967296 = (ρ 4 / 4 + 2147483648) % 4294967296 + 2147483648 := pz_gs hE 15 11 19 ax_m4
  have c_tape : ay_at hp 9 (ρ 4 / 4) = some (ρ 5) := ay_gf hE 46 19 23 9 ax_m5 (ax_vlq rfl rfl)
  have r1 : (ρ 5 / 4 + 2147483648) % 4294967296 ≠ (ρ 6 / 4 + 2147483648) % 4294967296 := pz_gc hE 1 23 27 (Nat.le_of_ble_eq_true rfl) ax_m7
  obtain ⟨-, -, F30⟩ : ay_ex hp 8 ∧ ay_ex hp 9 ∧ pz_x30 (ρ 0) (ay_at hp 8 1) (ay_at hp 9) := (ax_XF_lt (x := 30) (Nat.le_of_ble_eq_true rfl)).mp (ax_gx hE (30, [3]) ax_m0)
  obtain ⟨-, -, -, -, F50⟩ : ay_ex hp 8 ∧ ay_ex hp 10 ∧ ay_ex hp 11 ∧ ay_ex hp 12 ∧ pz_x50 (ρ 0) (ρ 1) (ay_at hp 8 5) (ay_at hp 8 6) (ay_at hp 8 7) (ay_at hp 8 8) (ay_at hp 10 0) (ay_at hp 10 1) (ay_at hp 10 2) (ay_at hp 10 3) (ay_at hp 10 4) (ay_at hp 8 9) (ay_at hp 8 11) (ay_at hp 8 10) (ay_at hp 8 3) (ay_at hp 8 4) (ay_at hp 11) (ay_at hp 12) := (ax_XF_lt (x := 50) (Nat.le_of_ble_eq_true rfl)).mp (ax_gx hE (50, [3, 7]) ax_m1)
  rw [c_place] at F50
  have F62 : pz_x62 (ρ 0) (ρ 1) (4026) (ρ 2) := (ax_XF_lt (x := 62) (Nat.le_of_ble_eq_true rfl)).mp (ax_gx hE (62, [3, 7, 4026, 11]) ax_m2)
  refine ⟨(fun y hy => by cases hy), _, List.mem_cons_self, ρ, fun _ _ => rfl, ax_px hE rfl (fun y hy => ?_)⟩
  cases List.mem_singleton.mp hy
  refine (ax_XF_lt (x := 61) (Nat.le_of_ble_eq_true rfl)).mpr ?_
  show pz61 (pz_gt (ρ 0)) (pz_gN (ρ 0)) ((ρ 1) / 4) ((4026) / 4 - 1000)
  have ch := pz_chr (v := 4026) (i := ρ 2) (z := ρ 6) (l := [110, 117, 109, 98, 101, 114]) (by decide +kernel) (pz_g42 hE 4026 11 27 (by decide))
  have ep : ρ 3 / 4 = pz_at (pz_gt (ρ 0)) (pz_gN (ρ 0)) (pz_p (pz_cf (pz_gt (ρ 0)) (pz_gN (ρ 0)) (ρ 1 / 4))) := F50.2.1
  have hw : pz_at (pz_gt (ρ 0)) (pz_gN (ρ 0)) (pz_p (pz_cf (pz_gt (ρ 0)) (pz_gN (ρ 0)) (ρ 1 / 4))) < pz_gN (ρ 0) ∧ pz_nx (pz_gt (ρ 0)) (pz_gN (ρ 0)) (pz_p (pz_cf (pz_gt (ρ 0)) (pz_gN (ρ 0)) (ρ 1 / 4))) ≤ pz_gN (ρ 0) := pz_wd_le F62.1
  have hln : pz_nx (pz_gt (ρ 0)) (pz_gN (ρ 0)) (pz_p (pz_cf (pz_gt (ρ 0)) (pz_gN (ρ 0)) (ρ 1 / 4))) - pz_at (pz_gt (ρ 0)) (pz_gN (ρ 0)) (pz_p (pz_cf (pz_gt (ρ 0)) (pz_gN (ρ 0)) (ρ 1 / 4))) = 6 := F62.2.1
  have hi1 : ρ 2 / 4 < 6 := by omega
  have ha1 : ρ 3 / 4 ≤ 800 := by omega
  have hq1 : ρ 4 / 4 = ρ 3 / 4 + ρ 2 / 4 := by omega
  have hb := F30.2.2 (ρ 4 / 4) (by have := hw.2; omega)
  rw [c_tape] at hb
  have hb := Option.some.inj hb
  rw [show ρ 4 / 4 = pz_at (pz_gt (ρ 0)) (pz_gN (ρ 0)) (pz_p (pz_cf (pz_gt (ρ 0)) (pz_gN (ρ 0)) (ρ 1 / 4))) + ρ 2 / 4 by omega] at hb
  refine pz_is_no (Or.inr (Or.inr ⟨ρ 2 / 4, show ρ 2 / 4 < 6 by omega, fun z => ?_⟩))
  have hb2 : pz_b (pz_gt (ρ 0)) (pz_at (pz_gt (ρ 0)) (pz_gN (ρ 0)) (pz_p (pz_cf (pz_gt (ρ 0)) (pz_gN (ρ 0)) (ρ 1 / 4))) + ρ 2 / 4) = ρ 5 / 4 := by omega
  have z2 := (hb2.symm.trans z).trans (pz_getD ch)
  rw [z2] at r1
  exact r1 rfl

