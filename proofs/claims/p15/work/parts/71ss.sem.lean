theorem ay_ty0 {w : ax_W} {hp : rx_H} {q g k n lo hi j v : Nat} {l : List (Nat × ax_Y)} (hT : ax_HT w hp) (hw : w.1[q]? = some g) (ht : w.2.1[g]? = some (k, n, l)) (hl : ax_at l j = some (0, lo, hi)) (hv : ay_at hp q j = some v) : v % 4 = 0 ∧ v / 4 < 4294967296 ∧ lo ≤ rx_bi (v / 4) ∧ rx_bi (v / 4) ≤ hi := by
  obtain ⟨k', n', tl, f', b1, b2, b3, b4⟩ := hT.2 q g hw
  rw [ay_eq b2] at hv
  rw [ht] at b1
  cases b1
  obtain ⟨t, t1, t2⟩ := b4 j v hv
  rw [hl] at t1
  cases t1
  rcases t2 with ⟨-, h⟩ | ⟨h, -⟩ | ⟨h, -⟩ | ⟨h, -⟩
  · exact h
  · cases h
  · cases h
  · cases h
theorem axq0_fa0 : ax_RO ax_wM0 (ax_XM 0) axu0_fa0 := by
  intro ρ hp hE hT
  obtain ⟨x, hx, x1, x2, x3⟩ := ax_gi hE 0 2147483649 2147483652 (by decide) rfl
  obtain ⟨x4, x5⟩ := ax_bi_pos x1 (by omega)
  obtain ⟨o0, ho0⟩ := ay_some hT (q := 173) (g := 11) (n := 58) ax_cg_173 ax_cn_11 (j := 72 / 4) (Nat.le_of_ble_eq_true rfl)
  refine ⟨(fun y hy => by cases hy), _, List.mem_cons_self, ρ, fun _ _ => rfl, ax_px hE rfl (fun y hy => ?_)⟩
  cases List.mem_singleton.mp hy
  show ax_XF (ax_XM 0) (500 + 50) [702, 72, ρ 0] hp
  refine (ax_XF_wr (x := 50) (Nat.le_of_ble_eq_true rfl)).mpr ⟨ay_ex_upd hT.1 (ax_cellT hT (q := 175) (g := 45) ax_cg_175), ay_ex_upd hT.1 (ax_cellT hT (q := 177) (g := 47) ax_cg_177), ay_ex_upd hT.1 (ax_cellT hT (q := 176) (g := 46) ax_cg_176), ay_ex_upd hT.1 (ax_cellT hT (q := 181) (g := 51) ax_cg_181), ay_ex_upd hT.1 (ax_cellT hT (q := 173) (g := 11) ax_cg_173), ?_⟩
  show ay_M50 1 (ay_at (ax_upd hp 702 (72) (ρ 0)) 175 1) (ay_at (ax_upd hp 702 (72) (ρ 0)) 177 1) (ay_at (ax_upd hp 702 (72) (ρ 0)) 176 1) (ay_at (ax_upd hp 702 (72) (ρ 0)) 181) (ay_at (ax_upd hp 702 (72) (ρ 0)) 173 18)
  have c0 : ay_at (ax_upd hp 702 (72) (ρ 0)) 175 1 = ay_at hp 175 1 := ay_upd_ne hT.1 (by decide) 1
  rw [c0]
  have c1 : ay_at (ax_upd hp 702 (72) (ρ 0)) 177 1 = ay_at hp 177 1 := ay_upd_ne hT.1 (by decide) 1
  rw [c1]
  have c2 : ay_at (ax_upd hp 702 (72) (ρ 0)) 176 1 = ay_at hp 176 1 := ay_upd_ne hT.1 (by decide) 1
  rw [c2]
  have c3 : ay_at (ax_upd hp 702 (72) (ρ 0)) 181 = ay_at hp 181 := funext (fun j => ay_upd_ne hT.1 (by decide) j)
  rw [c3]
  have c4 : ay_at (ax_upd hp 702 (72) (ρ 0)) 173 18 = some (ρ 0) := by rw [ay_upd_eq hT.1 rfl ho0, if_pos (by decide)]
  rw [c4]
  intro z
  have z := Option.some.inj z
  omega
theorem axq0_fa2 : ax_RO ax_wM0 (ax_XM 0) axu0_fa2 := by
  intro ρ hp hE hT
  obtain ⟨p1, p2, p3, p4, p5, p⟩ : ay_ex hp 182 ∧ ay_ex hp 180 ∧ ay_ex hp 179 ∧ ay_ex hp 173 ∧ ay_ex hp 173 ∧ ay_M52 1 (ay_at hp 182) (ay_at hp 180 1) (ay_at hp 179 1) (ay_at hp 173 18) (ay_at hp 173 24) := (ax_XF_lt (x := 52) (Nat.le_of_ble_eq_true rfl)).mp (ax_gx hE (52, []) ax_m0)
  obtain ⟨x, hx, x1, x2, x3⟩ := ax_gi hE 0 2147483649 2147483652 (by decide) rfl
  obtain ⟨x4, x5⟩ := ax_bi_pos x1 (by omega)
  obtain ⟨o0, ho0⟩ := ay_some hT (q := 173) (g := 11) (n := 58) ax_cg_173 ax_cn_11 (j := 72 / 4) (Nat.le_of_ble_eq_true rfl)
  refine ⟨(fun y hy => by cases hy), _, List.mem_cons_self, ρ, fun _ _ => rfl, ax_px hE rfl (fun y hy => ?_)⟩
  cases List.mem_singleton.mp hy
  show ax_XF (ax_XM 0) (500 + 52) [702, 72, ρ 0] hp
  refine (ax_XF_wr (x := 52) (Nat.le_of_ble_eq_true rfl)).mpr ⟨ay_ex_upd hT.1 (ax_cellT hT (q := 182) (g := 52) ax_cg_182), ay_ex_upd hT.1 (ax_cellT hT (q := 180) (g := 50) ax_cg_180), ay_ex_upd hT.1 (ax_cellT hT (q := 179) (g := 49) ax_cg_179), ay_ex_upd hT.1 (ax_cellT hT (q := 173) (g := 11) ax_cg_173), ay_ex_upd hT.1 (ax_cellT hT (q := 173) (g := 11) ax_cg_173), ?_⟩
  show ay_M52 1 (ay_at (ax_upd hp 702 (72) (ρ 0)) 182) (ay_at (ax_upd hp 702 (72) (ρ 0)) 180 1) (ay_at (ax_upd hp 702 (72) (ρ 0)) 179 1) (ay_at (ax_upd hp 702 (72) (ρ 0)) 173 18) (ay_at (ax_upd hp 702 (72) (ρ 0)) 173 24)
  have c0 : ay_at (ax_upd hp 702 (72) (ρ 0)) 182 = ay_at hp 182 := funext (fun j => ay_upd_ne hT.1 (by decide) j)
  rw [c0]
  have c1 : ay_at (ax_upd hp 702 (72) (ρ 0)) 180 1 = ay_at hp 180 1 := ay_upd_ne hT.1 (by decide) 1
  rw [c1]
  have c2 : ay_at (ax_upd hp 702 (72) (ρ 0)) 179 1 = ay_at hp 179 1 := ay_upd_ne hT.1 (by decide) 1
  rw [c2]
  have c3 : ay_at (ax_upd hp 702 (72) (ρ 0)) 173 18 = some (ρ 0) := by rw [ay_upd_eq hT.1 rfl ho0, if_pos (by decide)]
  rw [c3]
  have c4 : ay_at (ax_upd hp 702 (72) (ρ 0)) 173 24 = ay_at hp 173 24 := by rw [ay_upd_eq hT.1 rfl ho0, if_neg (by decide)]
  rw [c4]
  refine ⟨fun z => ?_, p.2⟩
  have z := Option.some.inj z
  omega
theorem axq0_ly0 : ax_RO ax_wM0 (ax_XM 0) axu0_ly0 := by
  intro ρ hp hE hT
  obtain ⟨p1, p2, p3, p4, p5, p6, p⟩ : ay_ex hp 185 ∧ ay_ex hp 173 ∧ ay_ex hp 182 ∧ ay_ex hp 180 ∧ ay_ex hp 179 ∧ ay_ex hp 173 ∧ ay_M40 1 (ρ 1) (ρ 2) (ρ 3) (ρ 4) (ρ 5) (ay_at hp 185) (ay_at hp 173 27) (ay_at hp 182) (ay_at hp 180 1) (ay_at hp 179 1) (ay_at hp 173 28) := (ax_XF_lt (x := 40) (Nat.le_of_ble_eq_true rfl)).mp (ax_gx hE (40, [7, 11, 15, 19, 23]) ax_m0)
  replace p : ay_pg 1 (ρ 1 / 4) (ρ 2 / 4) (ρ 3 / 4) (ρ 4 / 4) (ρ 5 / 4) (ay_at hp 185) (ay_ln (ay_at hp 173 27)) (ay_at hp 182) (ay_ln (ay_at hp 180 1)) (ay_ln (ay_at hp 179 1)) (ay_ln (ay_at hp 173 28)) := p
  obtain ⟨L, hL, L1, L2, L3⟩ := ax_gi hE 0 2147483648 2147483748 (by decide) rfl
  obtain ⟨L4, L5⟩ := ax_bi_pos L1 (by omega)
  have d4 : ∀ z : Nat, 4 * z / 4 = z := fun z => by omega
  have fL := ay_gfj hE 730 4 3 180 1 ax_m1 (ax_vlq rfl rfl) (ax_vlj rfl rfl)
  replace fL : ay_at hp 180 1 = some (ρ 0) := fL
  have lL : ay_ln (ay_at hp 180 1) = L := by rw [fL, hL]; show 4 * L / 4 = L; omega
  obtain ⟨u0, hu0⟩ := ay_some hT (q := 179) (g := 49) (n := 2) ax_cg_179 ax_cn_49 (j := 1) (by decide)
  obtain ⟨w1, w2, w3, w4⟩ := ay_int hT (q := 179) (g := 49) (n := 2) (lo := 2147483648) (hi := 2147483688) ax_cg_179 rfl hu0
  have hun : ay_ln (ay_at hp 179 1) ≤ 40 := by
    rw [hu0]
    show u0 / 4 ≤ 40
    obtain ⟨g1, g2⟩ := ax_bi_pos w2 w3
    omega
  have hb := (ay_pg_bound p).1
  rw [lL] at hb
  refine ⟨fun y hy => ?_, _, List.mem_cons_self, ρ, fun _ _ => rfl, ax_px hE rfl (fun y hy => by cases hy)⟩
  cases List.mem_singleton.mp hy
  show 2147483648 ≤ rx_bi (ρ 0 / 4) ∧ rx_bi (ρ 0 / 4) ≤ 2147483747
  rw [hL, d4, ax_bi_nat (by omega)]
  omega

theorem axq0_ly1 : ax_RO ax_wM0 (ax_XM 0) axu0_ly1 := by
  intro ρ hp hE hT
  obtain ⟨p1, p2, p3, p4, p5, p6, p⟩ : ay_ex hp 185 ∧ ay_ex hp 173 ∧ ay_ex hp 182 ∧ ay_ex hp 180 ∧ ay_ex hp 179 ∧ ay_ex hp 173 ∧ ay_M40 1 (ρ 3) (ρ 4) (ρ 5) (ρ 6) (ρ 7) (ay_at hp 185) (ay_at hp 173 27) (ay_at hp 182) (ay_at hp 180 1) (ay_at hp 179 1) (ay_at hp 173 28) := (ax_XF_lt (x := 40) (Nat.le_of_ble_eq_true rfl)).mp (ax_gx hE (40, [15, 19, 23, 27, 31]) ax_m0)
  replace p : ay_pg 1 (ρ 3 / 4) (ρ 4 / 4) (ρ 5 / 4) (ρ 6 / 4) (ρ 7 / 4) (ay_at hp 185) (ay_ln (ay_at hp 173 27)) (ay_at hp 182) (ay_ln (ay_at hp 180 1)) (ay_ln (ay_at hp 179 1)) (ay_ln (ay_at hp 173 28)) := p
  obtain ⟨j, hj, j1, j2, j3⟩ := ax_gi hE 1 2147483648 2147483847 (by decide) rfl
  obtain ⟨j4, j5⟩ := ax_bi_pos j1 (by omega)
  obtain ⟨L, hL, L1, L2, L3⟩ := ax_gi hE 2 2147483648 2147483747 (by decide) rfl
  obtain ⟨L4, L5⟩ := ax_bi_pos L1 (by omega)
  have d4 : ∀ z : Nat, 4 * z / 4 = z := fun z => by omega
  have fL := ay_gfj hE 730 4 11 180 1 ax_m1 (ax_vlq rfl rfl) (ax_vlj rfl rfl)
  replace fL : ay_at hp 180 1 = some (ρ 2) := fL
  have lL : ay_ln (ay_at hp 180 1) = L := by rw [fL, hL]; show 4 * L / 4 = L; omega
  have hj2 : ρ 1 = 4 * (100 + L) := ay_s hE 400 11 7 (a := 100) (by decide) (ax_vl_c (v := 400) (by decide)) hL (by decide) (by omega)
  obtain ⟨o0, ho0⟩ := ay_some hT (q := 182) (g := 52) (n := 200) ax_cg_182 ax_cn_52 (j := ρ 1 / 4) (by omega)
  refine ⟨(fun y hy => by cases hy), _, List.mem_cons_self, ρ, fun _ _ => rfl, ax_px hE rfl (fun y hy => ?_)⟩
  cases List.mem_singleton.mp hy
  show ax_XF (ax_XM 0) (500 + 40) [738, ρ 1, ρ 0, ρ 3, ρ 4, ρ 5, ρ 6, ρ 7] hp
  refine (ax_XF_wr (x := 40) (Nat.le_of_ble_eq_true rfl)).mpr ⟨ay_ex_upd hT.1 (ax_cellT hT (q := 185) (g := 55) ax_cg_185), ay_ex_upd hT.1 (ax_cellT hT (q := 173) (g := 11) ax_cg_173), ay_ex_upd hT.1 (ax_cellT hT (q := 182) (g := 52) ax_cg_182), ay_ex_upd hT.1 (ax_cellT hT (q := 180) (g := 50) ax_cg_180), ay_ex_upd hT.1 (ax_cellT hT (q := 179) (g := 49) ax_cg_179), ay_ex_upd hT.1 (ax_cellT hT (q := 173) (g := 11) ax_cg_173), ?_⟩
  show ay_M40 1 (ρ 3) (ρ 4) (ρ 5) (ρ 6) (ρ 7) (ay_at (ax_upd hp 738 (ρ 1) (ρ 0)) 185) (ay_at (ax_upd hp 738 (ρ 1) (ρ 0)) 173 27) (ay_at (ax_upd hp 738 (ρ 1) (ρ 0)) 182) (ay_at (ax_upd hp 738 (ρ 1) (ρ 0)) 180 1) (ay_at (ax_upd hp 738 (ρ 1) (ρ 0)) 179 1) (ay_at (ax_upd hp 738 (ρ 1) (ρ 0)) 173 28)
  have c0 : ay_at (ax_upd hp 738 (ρ 1) (ρ 0)) 185 = ay_at hp 185 := funext (fun j => ay_upd_ne hT.1 (by decide) j)
  rw [c0]
  have c1 : ay_at (ax_upd hp 738 (ρ 1) (ρ 0)) 173 27 = ay_at hp 173 27 := ay_upd_ne hT.1 (by decide) 27
  rw [c1]
  have c2 : ∀ j, ay_at (ax_upd hp 738 (ρ 1) (ρ 0)) 182 j = if j = (ρ 1) / 4 then some (ρ 0) else ay_at hp 182 j := fun j => ay_upd_eq hT.1 rfl ho0 j
  have c3 : ay_at (ax_upd hp 738 (ρ 1) (ρ 0)) 180 1 = ay_at hp 180 1 := ay_upd_ne hT.1 (by decide) 1
  rw [c3]
  have c4 : ay_at (ax_upd hp 738 (ρ 1) (ρ 0)) 179 1 = ay_at hp 179 1 := ay_upd_ne hT.1 (by decide) 1
  rw [c4]
  have c5 : ay_at (ax_upd hp 738 (ρ 1) (ρ 0)) 173 28 = ay_at hp 173 28 := ay_upd_ne hT.1 (by decide) 28
  rw [c5]
  refine ay_pg_far p (fun j hj => rfl) (fun j hj => ?_)
  rw [lL] at hj
  rw [c2, if_neg (by omega)]
theorem axq0_ly2 : ax_RO ax_wM0 (ax_XM 0) axu0_ly2 := by
  intro ρ hp hE hT
  obtain ⟨p1, p2, p⟩ : ay_ex hp 182 ∧ ay_ex hp 180 ∧ ay_M26 (0) (ay_at hp 182) (ay_at hp 180 0) := (ax_XF_lt (x := 26) (Nat.le_of_ble_eq_true rfl)).mp (ax_gx hE (26, []) ax_m0)
  obtain ⟨j, hj, j1, j2, j3⟩ := ax_gi hE 1 2147483748 2147483847 (by decide) rfl
  obtain ⟨j4, j5⟩ := ax_bi_pos j1 (by omega)
  obtain ⟨o0, ho0⟩ := ay_some hT (q := 182) (g := 52) (n := 200) ax_cg_182 ax_cn_52 (j := ρ 1 / 4) (by omega)
  obtain ⟨u0, hu0⟩ := ay_some hT (q := 180) (g := 50) (n := 2) ax_cg_180 ax_cn_50 (j := 0) (by decide)
  obtain ⟨w1, w2, w3, w4⟩ := ay_int hT (q := 180) (g := 50) (n := 2) (lo := 2147483648) (hi := 2147483748) ax_cg_180 rfl hu0
  have hrd : ay_ln (ay_at hp 180 0) ≤ 100 := by
    rw [hu0]
    show u0 / 4 ≤ 100
    obtain ⟨g1, g2⟩ := ax_bi_pos w2 w3
    omega
  refine ⟨(fun y hy => by cases hy), _, List.mem_cons_self, ρ, fun _ _ => rfl, ax_px hE rfl (fun y hy => ?_)⟩
  cases List.mem_singleton.mp hy
  show ax_XF (ax_XM 0) (500 + 26) [738, ρ 1, ρ 0] hp
  refine (ax_XF_wr (x := 26) (Nat.le_of_ble_eq_true rfl)).mpr ⟨ay_ex_upd hT.1 (ax_cellT hT (q := 182) (g := 52) ax_cg_182), ay_ex_upd hT.1 (ax_cellT hT (q := 180) (g := 50) ax_cg_180), ?_⟩
  show ay_M26 (0) (ay_at (ax_upd hp 738 (ρ 1) (ρ 0)) 182) (ay_at (ax_upd hp 738 (ρ 1) (ρ 0)) 180 0)
  have c0 : ∀ j, ay_at (ax_upd hp 738 (ρ 1) (ρ 0)) 182 j = if j = (ρ 1) / 4 then some (ρ 0) else ay_at hp 182 j := fun j => ay_upd_eq hT.1 rfl ho0 j
  have c1 : ay_at (ax_upd hp 738 (ρ 1) (ρ 0)) 180 0 = ay_at hp 180 0 := ay_upd_ne hT.1 (by decide) 0
  rw [c1]
  intro k hk
  rw [ay_ht_same (ru := ay_at hp 182) (fun j hj => by rw [c0, if_neg (by omega)])]
  exact p k hk
theorem axq0_lyO : ax_RO ax_wM0 (ax_XM 0) axu0_lyO := by
  intro ρ hp hE hT
  obtain ⟨p1, p2, p3, p4, p5, p6, p⟩ : ay_ex hp 185 ∧ ay_ex hp 173 ∧ ay_ex hp 182 ∧ ay_ex hp 180 ∧ ay_ex hp 179 ∧ ay_ex hp 173 ∧ ay_M40 1 (4) (0) (4) (8) (4) (ay_at hp 185) (ay_at hp 173 27) (ay_at hp 182) (ay_at hp 180 1) (ay_at hp 179 1) (ay_at hp 173 28) := (ax_XF_lt (x := 40) (Nat.le_of_ble_eq_true rfl)).mp (ax_gx hE (40, [4, 0, 4, 8, 4]) ax_m0)
  replace p : ay_pg 1 1 0 1 2 1 (ay_at hp 185) (ay_ln (ay_at hp 173 27)) (ay_at hp 182) (ay_ln (ay_at hp 180 1)) (ay_ln (ay_at hp 179 1)) (ay_ln (ay_at hp 173 28)) := p
  obtain ⟨L, hL, L1, L2, L3⟩ := ax_gi hE 1 2147483648 2147483747 (by decide) rfl
  obtain ⟨L4, L5⟩ := ax_bi_pos L1 (by omega)
  obtain ⟨c, hc, c1, c2, c3⟩ := ax_gi hE 2 2147483648 2147484650 (by decide) rfl
  obtain ⟨c4, c5⟩ := ax_bi_pos c1 (by omega)
  have d4 : ∀ z : Nat, 4 * z / 4 = z := fun z => by omega
  have fL := ay_gfj hE 730 4 7 180 1 ax_m1 (ax_vlq rfl rfl) (ax_vlj rfl rfl)
  replace fL : ay_at hp 180 1 = some (ρ 1) := fL
  have lL : ay_ln (ay_at hp 180 1) = L := by rw [fL, hL]; show 4 * L / 4 = L; omega
  have hL2 : ρ 0 = 4 * (L + 1) := ay_s hE 7 4 3 (b := 1) (by decide) hL (ax_vl_c (v := 4) (by decide)) (by omega) (by decide)
  have hj2 : ρ 3 = 4 * (100 + L) := ay_s hE 400 7 15 (a := 100) (by decide) (ax_vl_c (v := 400) (by decide)) hL (by decide) (by omega)
  have fr := ay_gf hE 738 15 11 182 ax_m4 (ax_vlq rfl rfl)
  replace fr : ay_at hp 182 (ρ 3 / 4) = some (ρ 2) := fr
  rw [hj2, d4, hc] at fr
  replace fr : ay_at hp 182 (100 * 1 + L) = some (4 * c) := fr
  rw [lL] at p
  obtain ⟨o0, ho0⟩ := ay_some hT (q := 180) (g := 50) (n := 2) ax_cg_180 ax_cn_50 (j := 4 / 4) (Nat.le_of_ble_eq_true rfl)
  refine ⟨(fun y hy => by cases hy), _, List.mem_cons_self, ρ, fun _ _ => rfl, ax_px hE rfl (fun y hy => ?_)⟩
  cases List.mem_singleton.mp hy
  show ax_XF (ax_XM 0) (500 + 40) [730, 4, ρ 0, 0, 0, 4, 0, 4] hp
  refine (ax_XF_wr (x := 40) (Nat.le_of_ble_eq_true rfl)).mpr ⟨ay_ex_upd hT.1 (ax_cellT hT (q := 185) (g := 55) ax_cg_185), ay_ex_upd hT.1 (ax_cellT hT (q := 173) (g := 11) ax_cg_173), ay_ex_upd hT.1 (ax_cellT hT (q := 182) (g := 52) ax_cg_182), ay_ex_upd hT.1 (ax_cellT hT (q := 180) (g := 50) ax_cg_180), ay_ex_upd hT.1 (ax_cellT hT (q := 179) (g := 49) ax_cg_179), ay_ex_upd hT.1 (ax_cellT hT (q := 173) (g := 11) ax_cg_173), ?_⟩
  show ay_M40 1 (0) (0) (4) (0) (4) (ay_at (ax_upd hp 730 (4) (ρ 0)) 185) (ay_at (ax_upd hp 730 (4) (ρ 0)) 173 27) (ay_at (ax_upd hp 730 (4) (ρ 0)) 182) (ay_at (ax_upd hp 730 (4) (ρ 0)) 180 1) (ay_at (ax_upd hp 730 (4) (ρ 0)) 179 1) (ay_at (ax_upd hp 730 (4) (ρ 0)) 173 28)
  have c0 : ay_at (ax_upd hp 730 (4) (ρ 0)) 185 = ay_at hp 185 := funext (fun j => ay_upd_ne hT.1 (by decide) j)
  rw [c0]
  have c1 : ay_at (ax_upd hp 730 (4) (ρ 0)) 173 27 = ay_at hp 173 27 := ay_upd_ne hT.1 (by decide) 27
  rw [c1]
  have c2 : ay_at (ax_upd hp 730 (4) (ρ 0)) 182 = ay_at hp 182 := funext (fun j => ay_upd_ne hT.1 (by decide) j)
  rw [c2]
  have c3 : ay_at (ax_upd hp 730 (4) (ρ 0)) 180 1 = some (ρ 0) := by rw [ay_upd_eq hT.1 rfl ho0, if_pos (by decide)]
  rw [c3]
  have c4 : ay_at (ax_upd hp 730 (4) (ρ 0)) 179 1 = ay_at hp 179 1 := ay_upd_ne hT.1 (by decide) 1
  rw [c4]
  have c5 : ay_at (ax_upd hp 730 (4) (ρ 0)) 173 28 = ay_at hp 173 28 := ay_upd_ne hT.1 (by decide) 28
  rw [c5]
  show ay_pg 1 0 0 1 0 1 (ay_at hp 185) (ay_ln (ay_at hp 173 27)) (ay_at hp 182) (ρ 0 / 4) (ay_ln (ay_at hp 179 1)) (ay_ln (ay_at hp 173 28))
  rw [hL2, d4]
  exact ay_pg_O p fr (by omega)
theorem axq0_lyB : ax_RO ax_wM0 (ax_XM 0) axu0_lyB := by
  intro ρ hp hE hT
  obtain ⟨p1, p2, p3, p4, p5, p6, p⟩ : ay_ex hp 185 ∧ ay_ex hp 173 ∧ ay_ex hp 182 ∧ ay_ex hp 180 ∧ ay_ex hp 179 ∧ ay_ex hp 173 ∧ ay_M40 1 (0) (4) (4) (4) (0) (ay_at hp 185) (ay_at hp 173 27) (ay_at hp 182) (ay_at hp 180 1) (ay_at hp 179 1) (ay_at hp 173 28) := (ax_XF_lt (x := 40) (Nat.le_of_ble_eq_true rfl)).mp (ax_gx hE (40, [0, 4, 4, 4, 0]) ax_m0)
  replace p : ay_pg 1 0 1 1 1 0 (ay_at hp 185) (ay_ln (ay_at hp 173 27)) (ay_at hp 182) (ay_ln (ay_at hp 180 1)) (ay_ln (ay_at hp 179 1)) (ay_ln (ay_at hp 173 28)) := p
  obtain ⟨L, hL, L1, L2, L3⟩ := ax_gi hE 1 2147483648 2147483747 (by decide) rfl
  obtain ⟨L4, L5⟩ := ax_bi_pos L1 (by omega)
  obtain ⟨c, hc, c1, c2, c3⟩ := ax_gi hE 2 2147484651 2147484655 (by decide) rfl
  obtain ⟨c4, c5⟩ := ax_bi_pos c1 (by omega)
  have d4 : ∀ z : Nat, 4 * z / 4 = z := fun z => by omega
  have fL := ay_gfj hE 730 4 7 180 1 ax_m1 (ax_vlq rfl rfl) (ax_vlj rfl rfl)
  replace fL : ay_at hp 180 1 = some (ρ 1) := fL
  have lL : ay_ln (ay_at hp 180 1) = L := by rw [fL, hL]; show 4 * L / 4 = L; omega
  have hL2 : ρ 0 = 4 * (L + 1) := ay_s hE 7 4 3 (b := 1) (by decide) hL (ax_vl_c (v := 4) (by decide)) (by omega) (by decide)
  have hj2 : ρ 3 = 4 * (100 + L) := ay_s hE 400 7 15 (a := 100) (by decide) (ax_vl_c (v := 400) (by decide)) hL (by decide) (by omega)
  have fr := ay_gf hE 738 15 11 182 ax_m4 (ax_vlq rfl rfl)
  replace fr : ay_at hp 182 (ρ 3 / 4) = some (ρ 2) := fr
  rw [hj2, d4, hc] at fr
  replace fr : ay_at hp 182 (100 * 1 + L) = some (4 * c) := fr
  rw [lL] at p
  obtain ⟨o0, ho0⟩ := ay_some hT (q := 180) (g := 50) (n := 2) ax_cg_180 ax_cn_50 (j := 4 / 4) (Nat.le_of_ble_eq_true rfl)
  refine ⟨(fun y hy => by cases hy), _, List.mem_cons_self, ρ, fun _ _ => rfl, ax_px hE rfl (fun y hy => ?_)⟩
  cases List.mem_singleton.mp hy
  show ax_XF (ax_XM 0) (500 + 40) [730, 4, ρ 0, 0, 0, 4, 0, 0] hp
  refine (ax_XF_wr (x := 40) (Nat.le_of_ble_eq_true rfl)).mpr ⟨ay_ex_upd hT.1 (ax_cellT hT (q := 185) (g := 55) ax_cg_185), ay_ex_upd hT.1 (ax_cellT hT (q := 173) (g := 11) ax_cg_173), ay_ex_upd hT.1 (ax_cellT hT (q := 182) (g := 52) ax_cg_182), ay_ex_upd hT.1 (ax_cellT hT (q := 180) (g := 50) ax_cg_180), ay_ex_upd hT.1 (ax_cellT hT (q := 179) (g := 49) ax_cg_179), ay_ex_upd hT.1 (ax_cellT hT (q := 173) (g := 11) ax_cg_173), ?_⟩
  show ay_M40 1 (0) (0) (4) (0) (0) (ay_at (ax_upd hp 730 (4) (ρ 0)) 185) (ay_at (ax_upd hp 730 (4) (ρ 0)) 173 27) (ay_at (ax_upd hp 730 (4) (ρ 0)) 182) (ay_at (ax_upd hp 730 (4) (ρ 0)) 180 1) (ay_at (ax_upd hp 730 (4) (ρ 0)) 179 1) (ay_at (ax_upd hp 730 (4) (ρ 0)) 173 28)
  have c0 : ay_at (ax_upd hp 730 (4) (ρ 0)) 185 = ay_at hp 185 := funext (fun j => ay_upd_ne hT.1 (by decide) j)
  rw [c0]
  have c1 : ay_at (ax_upd hp 730 (4) (ρ 0)) 173 27 = ay_at hp 173 27 := ay_upd_ne hT.1 (by decide) 27
  rw [c1]
  have c2 : ay_at (ax_upd hp 730 (4) (ρ 0)) 182 = ay_at hp 182 := funext (fun j => ay_upd_ne hT.1 (by decide) j)
  rw [c2]
  have c3 : ay_at (ax_upd hp 730 (4) (ρ 0)) 180 1 = some (ρ 0) := by rw [ay_upd_eq hT.1 rfl ho0, if_pos (by decide)]
  rw [c3]
  have c4 : ay_at (ax_upd hp 730 (4) (ρ 0)) 179 1 = ay_at hp 179 1 := ay_upd_ne hT.1 (by decide) 1
  rw [c4]
  have c5 : ay_at (ax_upd hp 730 (4) (ρ 0)) 173 28 = ay_at hp 173 28 := ay_upd_ne hT.1 (by decide) 28
  rw [c5]
  show ay_pg 1 0 0 1 0 0 (ay_at hp 185) (ay_ln (ay_at hp 173 27)) (ay_at hp 182) (ρ 0 / 4) (ay_ln (ay_at hp 179 1)) (ay_ln (ay_at hp 173 28))
  rw [hL2, d4]
  exact ay_pg_B p fr (by omega) (by omega)
theorem axq0_lyM : ax_RO ax_wM0 (ax_XM 0) axu0_lyM := by
  intro ρ hp hE hT
  obtain ⟨p1, p2, p3, p4, p5, p6, p⟩ : ay_ex hp 185 ∧ ay_ex hp 173 ∧ ay_ex hp 182 ∧ ay_ex hp 180 ∧ ay_ex hp 179 ∧ ay_ex hp 173 ∧ ay_M40 1 (0) (0) (8) (4) (4) (ay_at hp 185) (ay_at hp 173 27) (ay_at hp 182) (ay_at hp 180 1) (ay_at hp 179 1) (ay_at hp 173 28) := (ax_XF_lt (x := 40) (Nat.le_of_ble_eq_true rfl)).mp (ax_gx hE (40, [0, 0, 8, 4, 4]) ax_m0)
  replace p : ay_pg 1 0 0 2 1 1 (ay_at hp 185) (ay_ln (ay_at hp 173 27)) (ay_at hp 182) (ay_ln (ay_at hp 180 1)) (ay_ln (ay_at hp 179 1)) (ay_ln (ay_at hp 173 28)) := p
  obtain ⟨L, hL, L1, L2, L3⟩ := ax_gi hE 1 2147483648 2147483747 (by decide) rfl
  obtain ⟨L4, L5⟩ := ax_bi_pos L1 (by omega)
  obtain ⟨c, hc, c1, c2, c3⟩ := ax_gi hE 2 2147484656 2147484656 (by decide) rfl
  obtain ⟨c4, c5⟩ := ax_bi_pos c1 (by omega)
  have d4 : ∀ z : Nat, 4 * z / 4 = z := fun z => by omega
  have fL := ay_gfj hE 730 4 7 180 1 ax_m1 (ax_vlq rfl rfl) (ax_vlj rfl rfl)
  replace fL : ay_at hp 180 1 = some (ρ 1) := fL
  have lL : ay_ln (ay_at hp 180 1) = L := by rw [fL, hL]; show 4 * L / 4 = L; omega
  have hL2 : ρ 0 = 4 * (L + 1) := ay_s hE 7 4 3 (b := 1) (by decide) hL (ax_vl_c (v := 4) (by decide)) (by omega) (by decide)
  have hj2 : ρ 3 = 4 * (100 + L) := ay_s hE 400 7 15 (a := 100) (by decide) (ax_vl_c (v := 400) (by decide)) hL (by decide) (by omega)
  have fr := ay_gf hE 738 15 11 182 ax_m4 (ax_vlq rfl rfl)
  replace fr : ay_at hp 182 (ρ 3 / 4) = some (ρ 2) := fr
  rw [hj2, d4, hc] at fr
  replace fr : ay_at hp 182 (100 * 1 + L) = some (4 * c) := fr
  rw [lL] at p
  obtain ⟨o0, ho0⟩ := ay_some hT (q := 180) (g := 50) (n := 2) ax_cg_180 ax_cn_50 (j := 4 / 4) (Nat.le_of_ble_eq_true rfl)
  refine ⟨(fun y hy => by cases hy), _, List.mem_cons_self, ρ, fun _ _ => rfl, ax_px hE rfl (fun y hy => ?_)⟩
  cases List.mem_singleton.mp hy
  show ax_XF (ax_XM 0) (500 + 40) [730, 4, ρ 0, 0, 0, 8, 0, 4] hp
  refine (ax_XF_wr (x := 40) (Nat.le_of_ble_eq_true rfl)).mpr ⟨ay_ex_upd hT.1 (ax_cellT hT (q := 185) (g := 55) ax_cg_185), ay_ex_upd hT.1 (ax_cellT hT (q := 173) (g := 11) ax_cg_173), ay_ex_upd hT.1 (ax_cellT hT (q := 182) (g := 52) ax_cg_182), ay_ex_upd hT.1 (ax_cellT hT (q := 180) (g := 50) ax_cg_180), ay_ex_upd hT.1 (ax_cellT hT (q := 179) (g := 49) ax_cg_179), ay_ex_upd hT.1 (ax_cellT hT (q := 173) (g := 11) ax_cg_173), ?_⟩
  show ay_M40 1 (0) (0) (8) (0) (4) (ay_at (ax_upd hp 730 (4) (ρ 0)) 185) (ay_at (ax_upd hp 730 (4) (ρ 0)) 173 27) (ay_at (ax_upd hp 730 (4) (ρ 0)) 182) (ay_at (ax_upd hp 730 (4) (ρ 0)) 180 1) (ay_at (ax_upd hp 730 (4) (ρ 0)) 179 1) (ay_at (ax_upd hp 730 (4) (ρ 0)) 173 28)
  have c0 : ay_at (ax_upd hp 730 (4) (ρ 0)) 185 = ay_at hp 185 := funext (fun j => ay_upd_ne hT.1 (by decide) j)
  rw [c0]
  have c1 : ay_at (ax_upd hp 730 (4) (ρ 0)) 173 27 = ay_at hp 173 27 := ay_upd_ne hT.1 (by decide) 27
  rw [c1]
  have c2 : ay_at (ax_upd hp 730 (4) (ρ 0)) 182 = ay_at hp 182 := funext (fun j => ay_upd_ne hT.1 (by decide) j)
  rw [c2]
  have c3 : ay_at (ax_upd hp 730 (4) (ρ 0)) 180 1 = some (ρ 0) := by rw [ay_upd_eq hT.1 rfl ho0, if_pos (by decide)]
  rw [c3]
  have c4 : ay_at (ax_upd hp 730 (4) (ρ 0)) 179 1 = ay_at hp 179 1 := ay_upd_ne hT.1 (by decide) 1
  rw [c4]
  have c5 : ay_at (ax_upd hp 730 (4) (ρ 0)) 173 28 = ay_at hp 173 28 := ay_upd_ne hT.1 (by decide) 28
  rw [c5]
  show ay_pg 1 0 0 2 0 1 (ay_at hp 185) (ay_ln (ay_at hp 173 27)) (ay_at hp 182) (ρ 0 / 4) (ay_ln (ay_at hp 179 1)) (ay_ln (ay_at hp 173 28))
  rw [hL2, d4]
  exact ay_pg_M p (by rw [fr, show c = 1008 by omega])
theorem axq0_pu0 : ax_RO ax_wM0 (ax_XM 0) axu0_pu0 := by
  intro ρ hp hE hT
  obtain ⟨p1, p2, p3, p4, p5, p6, p⟩ : ay_ex hp 185 ∧ ay_ex hp 173 ∧ ay_ex hp 182 ∧ ay_ex hp 180 ∧ ay_ex hp 179 ∧ ay_ex hp 173 ∧ ay_M40 1 (ρ 1) (ρ 2) (ρ 3) (ρ 4) (ρ 5) (ay_at hp 185) (ay_at hp 173 27) (ay_at hp 182) (ay_at hp 180 1) (ay_at hp 179 1) (ay_at hp 173 28) := (ax_XF_lt (x := 40) (Nat.le_of_ble_eq_true rfl)).mp (ax_gx hE (40, [7, 11, 15, 19, 23]) ax_m0)
  replace p : ay_pg 1 (ρ 1 / 4) (ρ 2 / 4) (ρ 3 / 4) (ρ 4 / 4) (ρ 5 / 4) (ay_at hp 185) (ay_ln (ay_at hp 173 27)) (ay_at hp 182) (ay_ln (ay_at hp 180 1)) (ay_ln (ay_at hp 179 1)) (ay_ln (ay_at hp 173 28)) := p
  obtain ⟨o, ho, o1, o2, o3⟩ := ax_gi hE 0 2147483648 2147483748 (by decide) rfl
  obtain ⟨o4, o5⟩ := ax_bi_pos o1 (by omega)
  have d4 : ∀ z : Nat, 4 * z / 4 = z := fun z => by omega
  have fo := ay_gfj hE 702 108 3 173 27 ax_m1 (ax_vlq rfl rfl) (ax_vlj rfl rfl)
  replace fo : ay_at hp 173 27 = some (ρ 0) := fo
  have lo : ay_ln (ay_at hp 173 27) = o := by rw [fo, ho]; show 4 * o / 4 = o; omega
  obtain ⟨u0, hu0⟩ := ay_some hT (q := 179) (g := 49) (n := 2) ax_cg_179 ax_cn_49 (j := 1) (by decide)
  obtain ⟨w1, w2, w3, w4⟩ := ay_int hT (q := 179) (g := 49) (n := 2) (lo := 2147483648) (hi := 2147483688) ax_cg_179 rfl hu0
  have hun : ay_ln (ay_at hp 179 1) ≤ 40 := by
    rw [hu0]
    show u0 / 4 ≤ 40
    obtain ⟨g1, g2⟩ := ax_bi_pos w2 w3
    omega
  have hb := (ay_pg_bound p).2
  rw [lo] at hb
  refine ⟨fun y hy => ?_, _, List.mem_cons_self, ρ, fun _ _ => rfl, ax_px hE rfl (fun y hy => by cases hy)⟩
  cases List.mem_singleton.mp hy
  show 2147483648 ≤ rx_bi (ρ 0 / 4) ∧ rx_bi (ρ 0 / 4) ≤ 2147483747
  rw [ho, d4, ax_bi_nat (by omega)]
  omega

theorem axq0_pu1 : ax_RO ax_wM0 (ax_XM 0) axu0_pu1 := by
  intro ρ hp hE hT
  obtain ⟨p1, p2, p3, p4, p5, p6, p⟩ : ay_ex hp 185 ∧ ay_ex hp 173 ∧ ay_ex hp 182 ∧ ay_ex hp 180 ∧ ay_ex hp 179 ∧ ay_ex hp 173 ∧ ay_M40 1 (ρ 2) (ρ 3) (ρ 4) (ρ 5) (ρ 6) (ay_at hp 185) (ay_at hp 173 27) (ay_at hp 182) (ay_at hp 180 1) (ay_at hp 179 1) (ay_at hp 173 28) := (ax_XF_lt (x := 40) (Nat.le_of_ble_eq_true rfl)).mp (ax_gx hE (40, [11, 15, 19, 23, 27]) ax_m0)
  replace p : ay_pg 1 (ρ 2 / 4) (ρ 3 / 4) (ρ 4 / 4) (ρ 5 / 4) (ρ 6 / 4) (ay_at hp 185) (ay_ln (ay_at hp 173 27)) (ay_at hp 182) (ay_ln (ay_at hp 180 1)) (ay_ln (ay_at hp 179 1)) (ay_ln (ay_at hp 173 28)) := p
  obtain ⟨o, ho, o1, o2, o3⟩ := ax_gi hE 1 2147483648 2147483747 (by decide) rfl
  obtain ⟨o4, o5⟩ := ax_bi_pos o1 (by omega)
  have d4 : ∀ z : Nat, 4 * z / 4 = z := fun z => by omega
  have fo := ay_gfj hE 702 108 7 173 27 ax_m1 (ax_vlq rfl rfl) (ax_vlj rfl rfl)
  replace fo : ay_at hp 173 27 = some (ρ 1) := fo
  have lo : ay_ln (ay_at hp 173 27) = o := by rw [fo, ho]; show 4 * o / 4 = o; omega
  obtain ⟨o0, ho0⟩ := ay_some hT (q := 185) (g := 55) (n := 100) ax_cg_185 ax_cn_55 (j := ρ 1 / 4) (by omega)
  refine ⟨(fun y hy => by cases hy), _, List.mem_cons_self, ρ, fun _ _ => rfl, ax_px hE rfl (fun y hy => ?_)⟩
  cases List.mem_singleton.mp hy
  show ax_XF (ax_XM 0) (500 + 40) [750, ρ 1, ρ 0, ρ 2, ρ 3, ρ 4, ρ 5, ρ 6] hp
  refine (ax_XF_wr (x := 40) (Nat.le_of_ble_eq_true rfl)).mpr ⟨ay_ex_upd hT.1 (ax_cellT hT (q := 185) (g := 55) ax_cg_185), ay_ex_upd hT.1 (ax_cellT hT (q := 173) (g := 11) ax_cg_173), ay_ex_upd hT.1 (ax_cellT hT (q := 182) (g := 52) ax_cg_182), ay_ex_upd hT.1 (ax_cellT hT (q := 180) (g := 50) ax_cg_180), ay_ex_upd hT.1 (ax_cellT hT (q := 179) (g := 49) ax_cg_179), ay_ex_upd hT.1 (ax_cellT hT (q := 173) (g := 11) ax_cg_173), ?_⟩
  show ay_M40 1 (ρ 2) (ρ 3) (ρ 4) (ρ 5) (ρ 6) (ay_at (ax_upd hp 750 (ρ 1) (ρ 0)) 185) (ay_at (ax_upd hp 750 (ρ 1) (ρ 0)) 173 27) (ay_at (ax_upd hp 750 (ρ 1) (ρ 0)) 182) (ay_at (ax_upd hp 750 (ρ 1) (ρ 0)) 180 1) (ay_at (ax_upd hp 750 (ρ 1) (ρ 0)) 179 1) (ay_at (ax_upd hp 750 (ρ 1) (ρ 0)) 173 28)
  have c0 : ∀ j, ay_at (ax_upd hp 750 (ρ 1) (ρ 0)) 185 j = if j = (ρ 1) / 4 then some (ρ 0) else ay_at hp 185 j := fun j => ay_upd_eq hT.1 rfl ho0 j
  have c1 : ay_at (ax_upd hp 750 (ρ 1) (ρ 0)) 173 27 = ay_at hp 173 27 := ay_upd_ne hT.1 (by decide) 27
  rw [c1]
  have c2 : ay_at (ax_upd hp 750 (ρ 1) (ρ 0)) 182 = ay_at hp 182 := funext (fun j => ay_upd_ne hT.1 (by decide) j)
  rw [c2]
  have c3 : ay_at (ax_upd hp 750 (ρ 1) (ρ 0)) 180 1 = ay_at hp 180 1 := ay_upd_ne hT.1 (by decide) 1
  rw [c3]
  have c4 : ay_at (ax_upd hp 750 (ρ 1) (ρ 0)) 179 1 = ay_at hp 179 1 := ay_upd_ne hT.1 (by decide) 1
  rw [c4]
  have c5 : ay_at (ax_upd hp 750 (ρ 1) (ρ 0)) 173 28 = ay_at hp 173 28 := ay_upd_ne hT.1 (by decide) 28
  rw [c5]
  refine ay_pg_far p (fun j hj => ?_) (fun j hj => rfl)
  rw [lo] at hj
  rw [c0, if_neg (by omega)]
theorem axq0_puP : ax_RO ax_wM0 (ax_XM 0) axu0_puP := by
  intro ρ hp hE hT
  obtain ⟨p1, p2, p3, p4, p5, p6, p⟩ : ay_ex hp 185 ∧ ay_ex hp 173 ∧ ay_ex hp 182 ∧ ay_ex hp 180 ∧ ay_ex hp 179 ∧ ay_ex hp 173 ∧ ay_M40 1 (4) (0) (4) (8) (4) (ay_at hp 185) (ay_at hp 173 27) (ay_at hp 182) (ay_at hp 180 1) (ay_at hp 179 1) (ay_at hp 173 28) := (ax_XF_lt (x := 40) (Nat.le_of_ble_eq_true rfl)).mp (ax_gx hE (40, [4, 0, 4, 8, 4]) ax_m0)
  replace p : ay_pg 1 1 0 1 2 1 (ay_at hp 185) (ay_ln (ay_at hp 173 27)) (ay_at hp 182) (ay_ln (ay_at hp 180 1)) (ay_ln (ay_at hp 179 1)) (ay_ln (ay_at hp 173 28)) := p
  obtain ⟨o, ho, o1, o2, o3⟩ := ax_gi hE 1 2147483648 2147483747 (by decide) rfl
  obtain ⟨o4, o5⟩ := ax_bi_pos o1 (by omega)
  obtain ⟨c, hc, c1, c2, c3⟩ := ax_gi hE 2 2147484656 2147484657 (by decide) rfl
  obtain ⟨c4, c5⟩ := ax_bi_pos c1 (by omega)
  have d4 : ∀ z : Nat, 4 * z / 4 = z := fun z => by omega
  have fo := ay_gfj hE 702 108 7 173 27 ax_m1 (ax_vlq rfl rfl) (ax_vlj rfl rfl)
  replace fo : ay_at hp 173 27 = some (ρ 1) := fo
  have lo : ay_ln (ay_at hp 173 27) = o := by rw [fo, ho]; show 4 * o / 4 = o; omega
  have ho2 : ρ 0 = 4 * (o + 1) := ay_s hE 7 4 3 (b := 1) (by decide) ho (ax_vl_c (v := 4) (by decide)) (by omega) (by decide)
  have fr := ay_gf hE 750 7 11 185 ax_m3 (ax_vlq rfl rfl)
  replace fr : ay_at hp 185 (ρ 1 / 4) = some (ρ 2) := fr
  rw [ho, d4, hc] at fr
  rw [lo] at p
  obtain ⟨o0, ho0⟩ := ay_some hT (q := 173) (g := 11) (n := 58) ax_cg_173 ax_cn_11 (j := 108 / 4) (Nat.le_of_ble_eq_true rfl)
  refine ⟨(fun y hy => by cases hy), _, List.mem_cons_self, ρ, fun _ _ => rfl, ax_px hE rfl (fun y hy => ?_)⟩
  cases List.mem_singleton.mp hy
  show ax_XF (ax_XM 0) (500 + 40) [702, 108, ρ 0, 4, 0, 0, 4, 4] hp
  refine (ax_XF_wr (x := 40) (Nat.le_of_ble_eq_true rfl)).mpr ⟨ay_ex_upd hT.1 (ax_cellT hT (q := 185) (g := 55) ax_cg_185), ay_ex_upd hT.1 (ax_cellT hT (q := 173) (g := 11) ax_cg_173), ay_ex_upd hT.1 (ax_cellT hT (q := 182) (g := 52) ax_cg_182), ay_ex_upd hT.1 (ax_cellT hT (q := 180) (g := 50) ax_cg_180), ay_ex_upd hT.1 (ax_cellT hT (q := 179) (g := 49) ax_cg_179), ay_ex_upd hT.1 (ax_cellT hT (q := 173) (g := 11) ax_cg_173), ?_⟩
  show ay_M40 1 (4) (0) (0) (4) (4) (ay_at (ax_upd hp 702 (108) (ρ 0)) 185) (ay_at (ax_upd hp 702 (108) (ρ 0)) 173 27) (ay_at (ax_upd hp 702 (108) (ρ 0)) 182) (ay_at (ax_upd hp 702 (108) (ρ 0)) 180 1) (ay_at (ax_upd hp 702 (108) (ρ 0)) 179 1) (ay_at (ax_upd hp 702 (108) (ρ 0)) 173 28)
  have c0 : ay_at (ax_upd hp 702 (108) (ρ 0)) 185 = ay_at hp 185 := funext (fun j => ay_upd_ne hT.1 (by decide) j)
  rw [c0]
  have c1 : ay_at (ax_upd hp 702 (108) (ρ 0)) 173 27 = some (ρ 0) := by rw [ay_upd_eq hT.1 rfl ho0, if_pos (by decide)]
  rw [c1]
  have c2 : ay_at (ax_upd hp 702 (108) (ρ 0)) 182 = ay_at hp 182 := funext (fun j => ay_upd_ne hT.1 (by decide) j)
  rw [c2]
  have c3 : ay_at (ax_upd hp 702 (108) (ρ 0)) 180 1 = ay_at hp 180 1 := ay_upd_ne hT.1 (by decide) 1
  rw [c3]
  have c4 : ay_at (ax_upd hp 702 (108) (ρ 0)) 179 1 = ay_at hp 179 1 := ay_upd_ne hT.1 (by decide) 1
  rw [c4]
  have c5 : ay_at (ax_upd hp 702 (108) (ρ 0)) 173 28 = ay_at hp 173 28 := by rw [ay_upd_eq hT.1 rfl ho0, if_neg (by decide)]
  rw [c5]
  show ay_pg 1 1 0 0 1 1 (ay_at hp 185) (ρ 0 / 4) (ay_at hp 182) (ay_ln (ay_at hp 180 1)) (ay_ln (ay_at hp 179 1)) (ay_ln (ay_at hp 173 28))
  rw [ho2, d4]
  exact ay_pg_pP p fr (by omega)
theorem axq0_puB : ax_RO ax_wM0 (ax_XM 0) axu0_puB := by
  intro ρ hp hE hT
  obtain ⟨p1, p2, p3, p4, p5, p6, p⟩ : ay_ex hp 185 ∧ ay_ex hp 173 ∧ ay_ex hp 182 ∧ ay_ex hp 180 ∧ ay_ex hp 179 ∧ ay_ex hp 173 ∧ ay_M40 1 (0) (0) (4) (0) (0) (ay_at hp 185) (ay_at hp 173 27) (ay_at hp 182) (ay_at hp 180 1) (ay_at hp 179 1) (ay_at hp 173 28) := (ax_XF_lt (x := 40) (Nat.le_of_ble_eq_true rfl)).mp (ax_gx hE (40, [0, 0, 4, 0, 0]) ax_m0)
  replace p : ay_pg 1 0 0 1 0 0 (ay_at hp 185) (ay_ln (ay_at hp 173 27)) (ay_at hp 182) (ay_ln (ay_at hp 180 1)) (ay_ln (ay_at hp 179 1)) (ay_ln (ay_at hp 173 28)) := p
  obtain ⟨o, ho, o1, o2, o3⟩ := ax_gi hE 1 2147483648 2147483747 (by decide) rfl
  obtain ⟨o4, o5⟩ := ax_bi_pos o1 (by omega)
  obtain ⟨c, hc, c1, c2, c3⟩ := ax_gi hE 2 2147484651 2147484655 (by decide) rfl
  obtain ⟨c4, c5⟩ := ax_bi_pos c1 (by omega)
  have d4 : ∀ z : Nat, 4 * z / 4 = z := fun z => by omega
  have fo := ay_gfj hE 702 108 7 173 27 ax_m1 (ax_vlq rfl rfl) (ax_vlj rfl rfl)
  replace fo : ay_at hp 173 27 = some (ρ 1) := fo
  have lo : ay_ln (ay_at hp 173 27) = o := by rw [fo, ho]; show 4 * o / 4 = o; omega
  have ho2 : ρ 0 = 4 * (o + 1) := ay_s hE 7 4 3 (b := 1) (by decide) ho (ax_vl_c (v := 4) (by decide)) (by omega) (by decide)
  have fr := ay_gf hE 750 7 11 185 ax_m3 (ax_vlq rfl rfl)
  replace fr : ay_at hp 185 (ρ 1 / 4) = some (ρ 2) := fr
  rw [ho, d4, hc] at fr
  rw [lo] at p
  obtain ⟨o0, ho0⟩ := ay_some hT (q := 173) (g := 11) (n := 58) ax_cg_173 ax_cn_11 (j := 108 / 4) (Nat.le_of_ble_eq_true rfl)
  refine ⟨(fun y hy => by cases hy), _, List.mem_cons_self, ρ, fun _ _ => rfl, ax_px hE rfl (fun y hy => ?_)⟩
  cases List.mem_singleton.mp hy
  show ax_XF (ax_XM 0) (500 + 40) [702, 108, ρ 0, 4, 0, 4, 0, 4] hp
  refine (ax_XF_wr (x := 40) (Nat.le_of_ble_eq_true rfl)).mpr ⟨ay_ex_upd hT.1 (ax_cellT hT (q := 185) (g := 55) ax_cg_185), ay_ex_upd hT.1 (ax_cellT hT (q := 173) (g := 11) ax_cg_173), ay_ex_upd hT.1 (ax_cellT hT (q := 182) (g := 52) ax_cg_182), ay_ex_upd hT.1 (ax_cellT hT (q := 180) (g := 50) ax_cg_180), ay_ex_upd hT.1 (ax_cellT hT (q := 179) (g := 49) ax_cg_179), ay_ex_upd hT.1 (ax_cellT hT (q := 173) (g := 11) ax_cg_173), ?_⟩
  show ay_M40 1 (4) (0) (4) (0) (4) (ay_at (ax_upd hp 702 (108) (ρ 0)) 185) (ay_at (ax_upd hp 702 (108) (ρ 0)) 173 27) (ay_at (ax_upd hp 702 (108) (ρ 0)) 182) (ay_at (ax_upd hp 702 (108) (ρ 0)) 180 1) (ay_at (ax_upd hp 702 (108) (ρ 0)) 179 1) (ay_at (ax_upd hp 702 (108) (ρ 0)) 173 28)
  have c0 : ay_at (ax_upd hp 702 (108) (ρ 0)) 185 = ay_at hp 185 := funext (fun j => ay_upd_ne hT.1 (by decide) j)
  rw [c0]
  have c1 : ay_at (ax_upd hp 702 (108) (ρ 0)) 173 27 = some (ρ 0) := by rw [ay_upd_eq hT.1 rfl ho0, if_pos (by decide)]
  rw [c1]
  have c2 : ay_at (ax_upd hp 702 (108) (ρ 0)) 182 = ay_at hp 182 := funext (fun j => ay_upd_ne hT.1 (by decide) j)
  rw [c2]
  have c3 : ay_at (ax_upd hp 702 (108) (ρ 0)) 180 1 = ay_at hp 180 1 := ay_upd_ne hT.1 (by decide) 1
  rw [c3]
  have c4 : ay_at (ax_upd hp 702 (108) (ρ 0)) 179 1 = ay_at hp 179 1 := ay_upd_ne hT.1 (by decide) 1
  rw [c4]
  have c5 : ay_at (ax_upd hp 702 (108) (ρ 0)) 173 28 = ay_at hp 173 28 := by rw [ay_upd_eq hT.1 rfl ho0, if_neg (by decide)]
  rw [c5]
  show ay_pg 1 1 0 1 0 1 (ay_at hp 185) (ρ 0 / 4) (ay_at hp 182) (ay_ln (ay_at hp 180 1)) (ay_ln (ay_at hp 179 1)) (ay_ln (ay_at hp 173 28))
  rw [ho2, d4]
  exact ay_pg_pB p fr (by omega) (by omega)
theorem axq0_loB : ax_RO ax_wM0 (ax_XM 0) axu0_loB := by
  intro ρ hp hE hT
  obtain ⟨t1, t2, t⟩ : ay_ex hp 173 ∧ ay_ex hp 185 ∧ ay_M57 (ay_at hp 173 27) (ay_at hp 185) := (ax_XF_lt (x := 57) (Nat.le_of_ble_eq_true rfl)).mp (ax_gx hE (57, []) ax_m0)
  obtain ⟨p1, p2, p3, p4, p5, p6, p⟩ : ay_ex hp 185 ∧ ay_ex hp 173 ∧ ay_ex hp 182 ∧ ay_ex hp 180 ∧ ay_ex hp 179 ∧ ay_ex hp 173 ∧ ay_M40 1 (0) (0) (4) (0) (0) (ay_at hp 185) (ay_at hp 173 27) (ay_at hp 182) (ay_at hp 180 1) (ay_at hp 179 1) (ay_at hp 173 28) := (ax_XF_lt (x := 40) (Nat.le_of_ble_eq_true rfl)).mp (ax_gx hE (40, [0, 0, 4, 0, 0]) ax_m1)
  replace p : ay_pg 1 0 0 1 0 0 (ay_at hp 185) (ay_ln (ay_at hp 173 27)) (ay_at hp 182) (ay_ln (ay_at hp 180 1)) (ay_ln (ay_at hp 179 1)) (ay_ln (ay_at hp 173 28)) := p
  obtain ⟨k1, k⟩ : ay_ex hp 173 ∧ ay_M56 (ρ 2) (ay_at hp 173 27) := (ax_XF_lt (x := 56) (Nat.le_of_ble_eq_true rfl)).mp (ax_gx hE (56, [11]) ax_m4)
  obtain ⟨o, ho, o1, o2, o3⟩ := ax_gi hE 1 2147483648 2147483748 (by decide) rfl
  obtain ⟨o4, o5⟩ := ax_bi_pos o1 (by omega)
  obtain ⟨K, hK⟩ := ax_gj hE 2 (by decide) rfl
  have d4 : ∀ z : Nat, 4 * z / 4 = z := fun z => by omega
  have fo := ay_gfj hE 702 108 7 173 27 ax_m2 (ax_vlq rfl rfl) (ax_vlj rfl rfl)
  replace fo : ay_at hp 173 27 = some (ρ 1) := fo
  have lo : ay_ln (ay_at hp 173 27) = o := by rw [fo, ho]; show 4 * o / 4 = o; omega
  replace t : 1 ≤ ay_ln (ay_at hp 173 27) ∧ ay_isb (ay_at hp 185 (ay_ln (ay_at hp 173 27) - 1)) = true := t
  replace k : ay_ln (ay_at hp 173 27) ≤ ρ 2 / 4 := k
  rw [lo] at t p k
  obtain ⟨n, hn⟩ : ∃ n, o = n + 1 := ⟨o - 1, by omega⟩
  have hs : ρ 0 = 4 * (o - 1) := ay_d hE 3 4 7 (b := 1) (by decide) (ax_vl_c (v := 4) (by decide)) ho (by omega) (by omega)
  have h0 : ρ 0 = 4 * n := by omega
  rw [hn] at t p
  replace t := t.2
  replace t : ay_isb (ay_at hp 185 n) = true := t
  obtain ⟨o0, ho0⟩ := ay_some hT (q := 173) (g := 11) (n := 58) ax_cg_173 ax_cn_11 (j := 108 / 4) (Nat.le_of_ble_eq_true rfl)
  obtain ⟨ρ', h1, h2⟩ := ax_pn (K := n) (xf := [(540, [702, 108, 3, 0, 4, 4, 4, 0]), (559, [702, 108, 3]), (556, [702, 108, 3, 15]), (1030, [15, 11])]) hE (by decide) (fun ρ' h1 h2 x hx => by
    rcases List.mem_cons.mp hx with e | hx
    · subst e
      show ax_XF (ax_XM 0) (500 + 40) [702, 108, ρ' 0, 0, 4, 4, 4, 0] hp
      rw [h1 0 (by decide)]
      refine (ax_XF_wr (x := 40) (Nat.le_of_ble_eq_true rfl)).mpr ⟨ay_ex_upd hT.1 (ax_cellT hT (q := 185) (g := 55) ax_cg_185), ay_ex_upd hT.1 (ax_cellT hT (q := 173) (g := 11) ax_cg_173), ay_ex_upd hT.1 (ax_cellT hT (q := 182) (g := 52) ax_cg_182), ay_ex_upd hT.1 (ax_cellT hT (q := 180) (g := 50) ax_cg_180), ay_ex_upd hT.1 (ax_cellT hT (q := 179) (g := 49) ax_cg_179), ay_ex_upd hT.1 (ax_cellT hT (q := 173) (g := 11) ax_cg_173), ?_⟩
      show ay_M40 1 (0) (4) (4) (4) (0) (ay_at (ax_upd hp 702 (108) (ρ 0)) 185) (ay_at (ax_upd hp 702 (108) (ρ 0)) 173 27) (ay_at (ax_upd hp 702 (108) (ρ 0)) 182) (ay_at (ax_upd hp 702 (108) (ρ 0)) 180 1) (ay_at (ax_upd hp 702 (108) (ρ 0)) 179 1) (ay_at (ax_upd hp 702 (108) (ρ 0)) 173 28)
      have c0 : ay_at (ax_upd hp 702 (108) (ρ 0)) 185 = ay_at hp 185 := funext (fun j => ay_upd_ne hT.1 (by decide) j)
      rw [c0]
      have c1 : ay_at (ax_upd hp 702 (108) (ρ 0)) 173 27 = some (ρ 0) := by rw [ay_upd_eq hT.1 rfl ho0, if_pos (by decide)]
      rw [c1]
      have c2 : ay_at (ax_upd hp 702 (108) (ρ 0)) 182 = ay_at hp 182 := funext (fun j => ay_upd_ne hT.1 (by decide) j)
      rw [c2]
      have c3 : ay_at (ax_upd hp 702 (108) (ρ 0)) 180 1 = ay_at hp 180 1 := ay_upd_ne hT.1 (by decide) 1
      rw [c3]
      have c4 : ay_at (ax_upd hp 702 (108) (ρ 0)) 179 1 = ay_at hp 179 1 := ay_upd_ne hT.1 (by decide) 1
      rw [c4]
      have c5 : ay_at (ax_upd hp 702 (108) (ρ 0)) 173 28 = ay_at hp 173 28 := by rw [ay_upd_eq hT.1 rfl ho0, if_neg (by decide)]
      rw [c5]
      show ay_pg 1 0 1 1 1 0 (ay_at hp 185) (ρ 0 / 4) (ay_at hp 182) (ay_ln (ay_at hp 180 1)) (ay_ln (ay_at hp 179 1)) (ay_ln (ay_at hp 173 28))
      rw [h0, d4]
      exact ay_pg_qB p t
    rcases List.mem_cons.mp hx with e | hx
    · subst e
      show ax_XF (ax_XM 0) (500 + 59) [702, 108, ρ' 0] hp
      rw [h1 0 (by decide)]
      refine (ax_XF_wr (x := 59) (Nat.le_of_ble_eq_true rfl)).mpr ⟨ay_ex_upd hT.1 (ax_cellT hT (q := 173) (g := 11) ax_cg_173), ay_ex_upd hT.1 (ax_cellT hT (q := 185) (g := 55) ax_cg_185), ?_⟩
      show ay_M59 (ay_at (ax_upd hp 702 (108) (ρ 0)) 173 27) (ay_at (ax_upd hp 702 (108) (ρ 0)) 185)
      have c0 : ay_at (ax_upd hp 702 (108) (ρ 0)) 173 27 = some (ρ 0) := by rw [ay_upd_eq hT.1 rfl ho0, if_pos (by decide)]
      rw [c0]
      have c1 : ay_at (ax_upd hp 702 (108) (ρ 0)) 185 = ay_at hp 185 := funext (fun j => ay_upd_ne hT.1 (by decide) j)
      rw [c1]
      show ay_isb (ay_at hp 185 (ρ 0 / 4)) = true
      rw [h0, d4]
      exact t
    rcases List.mem_cons.mp hx with e | hx
    · subst e
      show ax_XF (ax_XM 0) (500 + 56) [702, 108, ρ' 0, ρ' 3] hp
      rw [h1 0 (by decide)]
      refine (ax_XF_wr (x := 56) (Nat.le_of_ble_eq_true rfl)).mpr ⟨ay_ex_upd hT.1 (ax_cellT hT (q := 173) (g := 11) ax_cg_173), ?_⟩
      show ay_M56 (ρ' 3) (ay_at (ax_upd hp 702 (108) (ρ 0)) 173 27)
      have c0 : ay_at (ax_upd hp 702 (108) (ρ 0)) 173 27 = some (ρ 0) := by rw [ay_upd_eq hT.1 rfl ho0, if_pos (by decide)]
      rw [c0]
      show ρ 0 / 4 ≤ ρ' 3 / 4
      rw [h2, h0]
      omega
    cases List.mem_singleton.mp hx
    refine (ax_XF_bi (o := 30) (by decide)).mpr (Or.inr ⟨rfl, ?_⟩)
    show ρ' 3 < ρ' 2
    rw [h2, h1 2 (by decide), hK]
    omega)
  refine ⟨fun y hy => ?_, _, List.mem_cons_self, ρ', h1, h2⟩
  cases List.mem_singleton.mp hy
  show 2147483648 ≤ rx_bi (ρ 0 / 4) ∧ rx_bi (ρ 0 / 4) ≤ 2147483747
  rw [h0, d4, ax_bi_nat (by omega)]
  omega
theorem axq0_lpB : ax_RO ax_wM0 (ax_XM 0) axu0_lpB := by
  intro ρ hp hE hT
  obtain ⟨t1, t2, t⟩ : ay_ex hp 173 ∧ ay_ex hp 185 ∧ ay_M59 (ay_at hp 173 27) (ay_at hp 185) := (ax_XF_lt (x := 59) (Nat.le_of_ble_eq_true rfl)).mp (ax_gx hE (59, []) ax_m0)
  obtain ⟨o, ho, o1, o2, o3⟩ := ax_gi hE 0 2147483648 2147483747 (by decide) rfl
  obtain ⟨o4, o5⟩ := ax_bi_pos o1 (by omega)
  have d4 : ∀ z : Nat, 4 * z / 4 = z := fun z => by omega
  have fo := ay_gfj hE 702 108 3 173 27 ax_m1 (ax_vlq rfl rfl) (ax_vlj rfl rfl)
  replace fo : ay_at hp 173 27 = some (ρ 0) := fo
  have lo : ay_ln (ay_at hp 173 27) = o := by rw [fo, ho]; show 4 * o / 4 = o; omega
  replace t : ay_isb (ay_at hp 185 (ay_ln (ay_at hp 173 27))) = true := t
  rw [lo] at t
  obtain ⟨kk, m, f, e1⟩ := t2
  obtain ⟨v, hv⟩ := ay_some hT (q := 185) (g := 55) (n := 100) ax_cg_185 ax_cn_55 (j := o) (by omega)
  obtain ⟨v1, v2, -, -⟩ := ay_int hT (q := 185) (g := 55) (n := 100) (lo := 0) (hi := 4294967295) ax_cg_185 rfl hv
  rw [hv] at t
  replace t : (decide (1003 ≤ v / 4) && decide (v / 4 ≤ 1007)) = true := t
  have t3 := of_decide_eq_true (rx_and2.mp t).1
  have t4 := of_decide_eq_true (rx_and2.mp t).2
  have hb : rx_bi (v / 4) = v / 4 + 2147483648 := ax_bi_nat (by omega)
  have hb1 : 2147484651 ≤ rx_bi (v / 4) := by omega
  have hb2 : rx_bi (v / 4) ≤ 2147484655 := by omega
  rw [ay_eq e1] at hv
  obtain ⟨ρ', h1, h2⟩ := ax_pf (q := 185) (j := o) (t := (0, 2147484651, 2147484655)) hE (a := 750) (i := 3) (by decide) (by decide) (ax_vl_c (by decide)) ho e1 hv (Or.inl ⟨rfl, v1, v2, hb1, hb2⟩)
  exact ⟨(fun x hx => by cases hx), _, List.mem_cons_self, ρ', h1, h2⟩
theorem axq0_loM : ax_RO ax_wM0 (ax_XM 0) axu0_loM := by
  intro ρ hp hE hT
  obtain ⟨t1, t2, t⟩ : ay_ex hp 173 ∧ ay_ex hp 185 ∧ ay_M58 (ay_at hp 173 27) (ay_at hp 185) := (ax_XF_lt (x := 58) (Nat.le_of_ble_eq_true rfl)).mp (ax_gx hE (58, []) ax_m0)
  obtain ⟨p1, p2, p3, p4, p5, p6, p⟩ : ay_ex hp 185 ∧ ay_ex hp 173 ∧ ay_ex hp 182 ∧ ay_ex hp 180 ∧ ay_ex hp 179 ∧ ay_ex hp 173 ∧ ay_M40 1 (0) (0) (4) (0) (4) (ay_at hp 185) (ay_at hp 173 27) (ay_at hp 182) (ay_at hp 180 1) (ay_at hp 179 1) (ay_at hp 173 28) := (ax_XF_lt (x := 40) (Nat.le_of_ble_eq_true rfl)).mp (ax_gx hE (40, [0, 0, 4, 0, 4]) ax_m1)
  replace p : ay_pg 1 0 0 1 0 1 (ay_at hp 185) (ay_ln (ay_at hp 173 27)) (ay_at hp 182) (ay_ln (ay_at hp 180 1)) (ay_ln (ay_at hp 179 1)) (ay_ln (ay_at hp 173 28)) := p
  obtain ⟨k1, k⟩ : ay_ex hp 173 ∧ ay_M56 (ρ 2) (ay_at hp 173 27) := (ax_XF_lt (x := 56) (Nat.le_of_ble_eq_true rfl)).mp (ax_gx hE (56, [11]) ax_m4)
  obtain ⟨o, ho, o1, o2, o3⟩ := ax_gi hE 1 2147483648 2147483748 (by decide) rfl
  obtain ⟨o4, o5⟩ := ax_bi_pos o1 (by omega)
  obtain ⟨K, hK⟩ := ax_gj hE 2 (by decide) rfl
  have d4 : ∀ z : Nat, 4 * z / 4 = z := fun z => by omega
  have fo := ay_gfj hE 702 108 7 173 27 ax_m2 (ax_vlq rfl rfl) (ax_vlj rfl rfl)
  replace fo : ay_at hp 173 27 = some (ρ 1) := fo
  have lo : ay_ln (ay_at hp 173 27) = o := by rw [fo, ho]; show 4 * o / 4 = o; omega
  replace t : 1 ≤ ay_ln (ay_at hp 173 27) ∧ ay_at hp 185 (ay_ln (ay_at hp 173 27) - 1) = some 4032 := t
  replace k : ay_ln (ay_at hp 173 27) ≤ ρ 2 / 4 := k
  rw [lo] at t p k
  obtain ⟨n, hn⟩ : ∃ n, o = n + 1 := ⟨o - 1, by omega⟩
  have hs : ρ 0 = 4 * (o - 1) := ay_d hE 3 4 7 (b := 1) (by decide) (ax_vl_c (v := 4) (by decide)) ho (by omega) (by omega)
  have h0 : ρ 0 = 4 * n := by omega
  rw [hn] at t p
  replace t := t.2
  replace t : ay_at hp 185 n = some 4032 := t
  obtain ⟨o0, ho0⟩ := ay_some hT (q := 173) (g := 11) (n := 58) ax_cg_173 ax_cn_11 (j := 108 / 4) (Nat.le_of_ble_eq_true rfl)
  obtain ⟨ρ', h1, h2⟩ := ax_pn (K := n) (xf := [(540, [702, 108, 3, 0, 0, 8, 4, 4]), (561, [702, 108, 3]), (556, [702, 108, 3, 15]), (1030, [15, 11])]) hE (by decide) (fun ρ' h1 h2 x hx => by
    rcases List.mem_cons.mp hx with e | hx
    · subst e
      show ax_XF (ax_XM 0) (500 + 40) [702, 108, ρ' 0, 0, 0, 8, 4, 4] hp
      rw [h1 0 (by decide)]
      refine (ax_XF_wr (x := 40) (Nat.le_of_ble_eq_true rfl)).mpr ⟨ay_ex_upd hT.1 (ax_cellT hT (q := 185) (g := 55) ax_cg_185), ay_ex_upd hT.1 (ax_cellT hT (q := 173) (g := 11) ax_cg_173), ay_ex_upd hT.1 (ax_cellT hT (q := 182) (g := 52) ax_cg_182), ay_ex_upd hT.1 (ax_cellT hT (q := 180) (g := 50) ax_cg_180), ay_ex_upd hT.1 (ax_cellT hT (q := 179) (g := 49) ax_cg_179), ay_ex_upd hT.1 (ax_cellT hT (q := 173) (g := 11) ax_cg_173), ?_⟩
      show ay_M40 1 (0) (0) (8) (4) (4) (ay_at (ax_upd hp 702 (108) (ρ 0)) 185) (ay_at (ax_upd hp 702 (108) (ρ 0)) 173 27) (ay_at (ax_upd hp 702 (108) (ρ 0)) 182) (ay_at (ax_upd hp 702 (108) (ρ 0)) 180 1) (ay_at (ax_upd hp 702 (108) (ρ 0)) 179 1) (ay_at (ax_upd hp 702 (108) (ρ 0)) 173 28)
      have c0 : ay_at (ax_upd hp 702 (108) (ρ 0)) 185 = ay_at hp 185 := funext (fun j => ay_upd_ne hT.1 (by decide) j)
      rw [c0]
      have c1 : ay_at (ax_upd hp 702 (108) (ρ 0)) 173 27 = some (ρ 0) := by rw [ay_upd_eq hT.1 rfl ho0, if_pos (by decide)]
      rw [c1]
      have c2 : ay_at (ax_upd hp 702 (108) (ρ 0)) 182 = ay_at hp 182 := funext (fun j => ay_upd_ne hT.1 (by decide) j)
      rw [c2]
      have c3 : ay_at (ax_upd hp 702 (108) (ρ 0)) 180 1 = ay_at hp 180 1 := ay_upd_ne hT.1 (by decide) 1
      rw [c3]
      have c4 : ay_at (ax_upd hp 702 (108) (ρ 0)) 179 1 = ay_at hp 179 1 := ay_upd_ne hT.1 (by decide) 1
      rw [c4]
      have c5 : ay_at (ax_upd hp 702 (108) (ρ 0)) 173 28 = ay_at hp 173 28 := by rw [ay_upd_eq hT.1 rfl ho0, if_neg (by decide)]
      rw [c5]
      show ay_pg 1 0 0 2 1 1 (ay_at hp 185) (ρ 0 / 4) (ay_at hp 182) (ay_ln (ay_at hp 180 1)) (ay_ln (ay_at hp 179 1)) (ay_ln (ay_at hp 173 28))
      rw [h0, d4]
      exact ay_pg_qM (c := 1008) p t (Or.inl rfl)
    rcases List.mem_cons.mp hx with e | hx
    · subst e
      show ax_XF (ax_XM 0) (500 + 61) [702, 108, ρ' 0] hp
      rw [h1 0 (by decide)]
      refine (ax_XF_wr (x := 61) (Nat.le_of_ble_eq_true rfl)).mpr ⟨ay_ex_upd hT.1 (ax_cellT hT (q := 173) (g := 11) ax_cg_173), ay_ex_upd hT.1 (ax_cellT hT (q := 185) (g := 55) ax_cg_185), ?_⟩
      show ay_M61 (ay_at (ax_upd hp 702 (108) (ρ 0)) 173 27) (ay_at (ax_upd hp 702 (108) (ρ 0)) 185)
      have c0 : ay_at (ax_upd hp 702 (108) (ρ 0)) 173 27 = some (ρ 0) := by rw [ay_upd_eq hT.1 rfl ho0, if_pos (by decide)]
      rw [c0]
      have c1 : ay_at (ax_upd hp 702 (108) (ρ 0)) 185 = ay_at hp 185 := funext (fun j => ay_upd_ne hT.1 (by decide) j)
      rw [c1]
      show ay_at hp 185 (ρ 0 / 4) = some 4032
      rw [h0, d4]
      exact t
    rcases List.mem_cons.mp hx with e | hx
    · subst e
      show ax_XF (ax_XM 0) (500 + 56) [702, 108, ρ' 0, ρ' 3] hp
      rw [h1 0 (by decide)]
      refine (ax_XF_wr (x := 56) (Nat.le_of_ble_eq_true rfl)).mpr ⟨ay_ex_upd hT.1 (ax_cellT hT (q := 173) (g := 11) ax_cg_173), ?_⟩
      show ay_M56 (ρ' 3) (ay_at (ax_upd hp 702 (108) (ρ 0)) 173 27)
      have c0 : ay_at (ax_upd hp 702 (108) (ρ 0)) 173 27 = some (ρ 0) := by rw [ay_upd_eq hT.1 rfl ho0, if_pos (by decide)]
      rw [c0]
      show ρ 0 / 4 ≤ ρ' 3 / 4
      rw [h2, h0]
      omega
    cases List.mem_singleton.mp hx
    refine (ax_XF_bi (o := 30) (by decide)).mpr (Or.inr ⟨rfl, ?_⟩)
    show ρ' 3 < ρ' 2
    rw [h2, h1 2 (by decide), hK]
    omega)
  refine ⟨fun y hy => ?_, _, List.mem_cons_self, ρ', h1, h2⟩
  cases List.mem_singleton.mp hy
  show 2147483648 ≤ rx_bi (ρ 0 / 4) ∧ rx_bi (ρ 0 / 4) ≤ 2147483747
  rw [h0, d4, ax_bi_nat (by omega)]
  omega
theorem axq0_lpM : ax_RO ax_wM0 (ax_XM 0) axu0_lpM := by
  intro ρ hp hE hT
  obtain ⟨t1, t2, t⟩ : ay_ex hp 173 ∧ ay_ex hp 185 ∧ ay_M61 (ay_at hp 173 27) (ay_at hp 185) := (ax_XF_lt (x := 61) (Nat.le_of_ble_eq_true rfl)).mp (ax_gx hE (61, []) ax_m0)
  obtain ⟨o, ho, o1, o2, o3⟩ := ax_gi hE 0 2147483648 2147483747 (by decide) rfl
  obtain ⟨o4, o5⟩ := ax_bi_pos o1 (by omega)
  have d4 : ∀ z : Nat, 4 * z / 4 = z := fun z => by omega
  have fo := ay_gfj hE 702 108 3 173 27 ax_m1 (ax_vlq rfl rfl) (ax_vlj rfl rfl)
  replace fo : ay_at hp 173 27 = some (ρ 0) := fo
  have lo : ay_ln (ay_at hp 173 27) = o := by rw [fo, ho]; show 4 * o / 4 = o; omega
  replace t : ay_at hp 185 (ay_ln (ay_at hp 173 27)) = some 4032 := t
  rw [lo] at t
  obtain ⟨kk, m, f, e1⟩ := t2
  obtain ⟨v, hv⟩ := ay_some hT (q := 185) (g := 55) (n := 100) ax_cg_185 ax_cn_55 (j := o) (by omega)
  obtain ⟨v1, v2, -, -⟩ := ay_int hT (q := 185) (g := 55) (n := 100) (lo := 0) (hi := 4294967295) ax_cg_185 rfl hv
  rw [hv] at t
  have t5 := Option.some.inj t
  have t3 : 1008 ≤ v / 4 := by omega
  have t4 : v / 4 ≤ 1008 := by omega
  have hb : rx_bi (v / 4) = v / 4 + 2147483648 := ax_bi_nat (by omega)
  have hb1 : 2147484656 ≤ rx_bi (v / 4) := by omega
  have hb2 : rx_bi (v / 4) ≤ 2147484656 := by omega
  rw [ay_eq e1] at hv
  obtain ⟨ρ', h1, h2⟩ := ax_pf (q := 185) (j := o) (t := (0, 2147484656, 2147484656)) hE (a := 750) (i := 3) (by decide) (by decide) (ax_vl_c (by decide)) ho e1 hv (Or.inl ⟨rfl, v1, v2, hb1, hb2⟩)
  exact ⟨(fun x hx => by cases hx), _, List.mem_cons_self, ρ', h1, h2⟩
theorem axqg_cm0 {w : ax_W} {b : Nat} (hw : ax_WW w) : ax_RO w (ax_XM b) axu0_cm0 := by
  intro ρ hp hE hT
  obtain ⟨z, hz⟩ : ∃ z, ay_ln (ay_at hp 173 27) = z := ⟨_, rfl⟩
  obtain ⟨ρ', h1, h2⟩ := ax_pn (K := z) (xf := [(56, [3])]) hE (by decide) (fun ρ' h1 h2 x hx => by
    cases List.mem_singleton.mp hx
    refine (ax_XF_lt (x := 56) (Nat.le_of_ble_eq_true rfl)).mpr ⟨(ax_cellT hT (q := 173) (g := 11) (ax_wc hw ax_cg_173)), ?_⟩
    show ay_ln (ay_at hp 173 27) ≤ ρ' 0 / 4
    rw [h2, hz]
    omega)
  exact ⟨(fun x hx => by cases hx), _, List.mem_cons_self, ρ', h1, h2⟩
theorem axq0_cm0 : ax_RO ax_wM0 (ax_XM 0) axu0_cm0 := axqg_cm0 ax_WW0
theorem axqg_rb0 {w : ax_W} {b : Nat} (hw : ax_WW w) : ax_RO w (ax_XM b) axu0_rb0 := by
  intro ρ hp hE hT
  obtain ⟨z, hz⟩ : ∃ z, ay_ln (ay_at hp 173 27) = z := ⟨_, rfl⟩
  obtain ⟨ρ', h1, h2⟩ := ax_pn (K := z) (xf := [(56, [3])]) hE (by decide) (fun ρ' h1 h2 x hx => by
    cases List.mem_singleton.mp hx
    refine (ax_XF_lt (x := 56) (Nat.le_of_ble_eq_true rfl)).mpr ⟨(ax_cellT hT (q := 173) (g := 11) (ax_wc hw ax_cg_173)), ?_⟩
    show ay_ln (ay_at hp 173 27) ≤ ρ' 0 / 4
    rw [h2, hz]
    omega)
  exact ⟨(fun x hx => by cases hx), _, List.mem_cons_self, ρ', h1, h2⟩
theorem axq0_rb0 : ax_RO ax_wM0 (ax_XM 0) axu0_rb0 := axqg_rb0 ax_WW0
theorem axqg_rr5 {w : ax_W} {b : Nat} (hw : ax_WW w) : ax_RO w (ax_XM b) axu0_rr5 := by
  intro ρ hp hE hT
  obtain ⟨z, hz⟩ : ∃ z, ay_ln (ay_at hp 173 27) = z := ⟨_, rfl⟩
  obtain ⟨ρ', h1, h2⟩ := ax_pn (K := z) (xf := [(56, [3])]) hE (by decide) (fun ρ' h1 h2 x hx => by
    cases List.mem_singleton.mp hx
    refine (ax_XF_lt (x := 56) (Nat.le_of_ble_eq_true rfl)).mpr ⟨(ax_cellT hT (q := 173) (g := 11) (ax_wc hw ax_cg_173)), ?_⟩
    show ay_ln (ay_at hp 173 27) ≤ ρ' 0 / 4
    rw [h2, hz]
    omega)
  exact ⟨(fun x hx => by cases hx), _, List.mem_cons_self, ρ', h1, h2⟩
theorem axq0_rr5 : ax_RO ax_wM0 (ax_XM 0) axu0_rr5 := axqg_rr5 ax_WW0
theorem axqg_rr6 {w : ax_W} {b : Nat} (hw : ax_WW w) : ax_RO w (ax_XM b) axu0_rr6 := by
  intro ρ hp hE hT
  obtain ⟨z, hz⟩ : ∃ z, ay_ln (ay_at hp 173 27) = z := ⟨_, rfl⟩
  obtain ⟨ρ', h1, h2⟩ := ax_pn (K := z) (xf := [(56, [3])]) hE (by decide) (fun ρ' h1 h2 x hx => by
    cases List.mem_singleton.mp hx
    refine (ax_XF_lt (x := 56) (Nat.le_of_ble_eq_true rfl)).mpr ⟨(ax_cellT hT (q := 173) (g := 11) (ax_wc hw ax_cg_173)), ?_⟩
    show ay_ln (ay_at hp 173 27) ≤ ρ' 0 / 4
    rw [h2, hz]
    omega)
  exact ⟨(fun x hx => by cases hx), _, List.mem_cons_self, ρ', h1, h2⟩
theorem axq0_rr6 : ax_RO ax_wM0 (ax_XM 0) axu0_rr6 := axqg_rr6 ax_WW0
theorem axqg_rr7 {w : ax_W} {b : Nat} (hw : ax_WW w) : ax_RO w (ax_XM b) axu0_rr7 := by
  intro ρ hp hE hT
  obtain ⟨z, hz⟩ : ∃ z, ay_ln (ay_at hp 173 27) = z := ⟨_, rfl⟩
  obtain ⟨ρ', h1, h2⟩ := ax_pn (K := z) (xf := [(56, [3])]) hE (by decide) (fun ρ' h1 h2 x hx => by
    cases List.mem_singleton.mp hx
    refine (ax_XF_lt (x := 56) (Nat.le_of_ble_eq_true rfl)).mpr ⟨(ax_cellT hT (q := 173) (g := 11) (ax_wc hw ax_cg_173)), ?_⟩
    show ay_ln (ay_at hp 173 27) ≤ ρ' 0 / 4
    rw [h2, hz]
    omega)
  exact ⟨(fun x hx => by cases hx), _, List.mem_cons_self, ρ', h1, h2⟩
theorem axq0_rr7 : ax_RO ax_wM0 (ax_XM 0) axu0_rr7 := axqg_rr7 ax_WW0
theorem axqg_cm1 {w : ax_W} {b : Nat} (hw : ax_WW w) : ax_RO w (ax_XM b) axu0_cm1 := by
  intro ρ hp hE hT
  obtain ⟨o, ho, o1, o2, o3⟩ := ax_gi hE 0 2147483649 2147483748 (by decide) rfl
  obtain ⟨o4, o5⟩ := ax_bi_pos o1 (by omega)
  have d4 : ∀ z : Nat, 4 * z / 4 = z := fun z => by omega
  have fo := ay_gfj hE 702 108 3 173 27 ax_m0 (ax_vlq rfl rfl) (ax_vlj rfl rfl)
  replace fo : ay_at hp 173 27 = some (ρ 0) := fo
  have lo : ay_ln (ay_at hp 173 27) = o := by rw [fo, ho]; show 4 * o / 4 = o; omega
  have hs : ρ 1 = 4 * (o - 1) := ay_d hE 7 4 3 (b := 1) (by decide) (ax_vl_c (v := 4) (by decide)) ho (by omega) (by omega)
  obtain ⟨c, hc, c1, c2, c3⟩ := ax_gi hE 2 2147484656 2147484656 (by decide) rfl
  rw [ax_bi_def] at c2 c3
  have fr := ay_gf hE 750 7 11 185 ax_m2 (ax_vlq rfl rfl)
  replace fr : ay_at hp 185 (ρ 1 / 4) = some (ρ 2) := fr
  obtain ⟨n, hn⟩ : ∃ n, o = n + 1 := ⟨o - 1, by omega⟩
  have h0 : ρ 1 = 4 * n := by omega
  rw [h0, d4, hc] at fr
  refine ⟨(fun y hy => by cases hy), _, List.mem_cons_self, ρ, fun _ _ => rfl, ax_px hE rfl (fun y hy => ?_)⟩
  cases List.mem_singleton.mp hy
  refine (ax_XF_lt (x := 58) (Nat.le_of_ble_eq_true rfl)).mpr ⟨(ax_cellT hT (q := 173) (g := 11) (ax_wc hw ax_cg_173)), (ax_cellT hT (q := 185) (g := 55) (ax_wc hw ax_cg_185)), ?_⟩
  show 1 ≤ ay_ln (ay_at hp 173 27) ∧ ay_at hp 185 (ay_ln (ay_at hp 173 27) - 1) = some 4032
  rw [lo, hn]
  refine ⟨by omega, ?_⟩
  show ay_at hp 185 n = some 4032
  rw [fr, show c = 1008 by omega]
theorem axq0_cm1 : ax_RO ax_wM0 (ax_XM 0) axu0_cm1 := axqg_cm1 ax_WW0
theorem axq0_cm2 : ax_RO ax_wM0 (ax_XM 0) axu0_cm2 := by
  intro ρ hp hE hT
  obtain ⟨p1, p2, p3, p4, p5, p6, p⟩ : ay_ex hp 185 ∧ ay_ex hp 173 ∧ ay_ex hp 182 ∧ ay_ex hp 180 ∧ ay_ex hp 179 ∧ ay_ex hp 173 ∧ ay_M40 1 (0) (0) (8) (0) (4) (ay_at hp 185) (ay_at hp 173 27) (ay_at hp 182) (ay_at hp 180 1) (ay_at hp 179 1) (ay_at hp 173 28) := (ax_XF_lt (x := 40) (Nat.le_of_ble_eq_true rfl)).mp (ax_gx hE (40, [0, 0, 8, 0, 4]) ax_m0)
  replace p : ay_pg 1 0 0 2 0 1 (ay_at hp 185) (ay_ln (ay_at hp 173 27)) (ay_at hp 182) (ay_ln (ay_at hp 180 1)) (ay_ln (ay_at hp 179 1)) (ay_ln (ay_at hp 173 28)) := p
  obtain ⟨d, hd, d1, d2, d3⟩ := ax_gi hE 1 2147483648 2147483654 (by decide) rfl
  obtain ⟨d4, d5⟩ := ax_bi_pos d1 (by omega)
  have d4 : ∀ z : Nat, 4 * z / 4 = z := fun z => by omega
  have fd := ay_gfj hE 702 112 7 173 28 ax_m1 (ax_vlq rfl rfl) (ax_vlj rfl rfl)
  replace fd : ay_at hp 173 28 = some (ρ 1) := fd
  have ld : ay_ln (ay_at hp 173 28) = d := by rw [fd, hd]; show 4 * d / 4 = d; omega
  rw [ld] at p
  have hd0 := ay_pg_d0 p
  obtain ⟨n, hn⟩ : ∃ n, d = n + 1 := ⟨d - 1, by omega⟩
  have hs : ρ 0 = 4 * (d - 1) := ay_d hE 3 4 7 (b := 1) (by decide) (ax_vl_c (v := 4) (by decide)) hd (by omega) (by omega)
  have h0 : ρ 0 = 4 * n := by omega
  rw [hn] at p ld
  obtain ⟨o0, ho0⟩ := ay_some hT (q := 173) (g := 11) (n := 58) ax_cg_173 ax_cn_11 (j := 112 / 4) (Nat.le_of_ble_eq_true rfl)
  refine ⟨fun y hy => ?_, _, List.mem_cons_self, ρ, fun _ _ => rfl, ax_px hE rfl (fun y hy => ?_)⟩
  · cases List.mem_singleton.mp hy
    show 2147483648 ≤ rx_bi (ρ 0 / 4) ∧ rx_bi (ρ 0 / 4) ≤ 2147483653
    rw [h0, d4, ax_bi_nat (by omega)]
    omega
  cases List.mem_singleton.mp hy
  show ax_XF (ax_XM 0) (500 + 40) [702, 112, ρ 0, 0, 0, 4, 0, 4] hp
  refine (ax_XF_wr (x := 40) (Nat.le_of_ble_eq_true rfl)).mpr ⟨ay_ex_upd hT.1 (ax_cellT hT (q := 185) (g := 55) ax_cg_185), ay_ex_upd hT.1 (ax_cellT hT (q := 173) (g := 11) ax_cg_173), ay_ex_upd hT.1 (ax_cellT hT (q := 182) (g := 52) ax_cg_182), ay_ex_upd hT.1 (ax_cellT hT (q := 180) (g := 50) ax_cg_180), ay_ex_upd hT.1 (ax_cellT hT (q := 179) (g := 49) ax_cg_179), ay_ex_upd hT.1 (ax_cellT hT (q := 173) (g := 11) ax_cg_173), ?_⟩
  show ay_M40 1 (0) (0) (4) (0) (4) (ay_at (ax_upd hp 702 (112) (ρ 0)) 185) (ay_at (ax_upd hp 702 (112) (ρ 0)) 173 27) (ay_at (ax_upd hp 702 (112) (ρ 0)) 182) (ay_at (ax_upd hp 702 (112) (ρ 0)) 180 1) (ay_at (ax_upd hp 702 (112) (ρ 0)) 179 1) (ay_at (ax_upd hp 702 (112) (ρ 0)) 173 28)
  have c0 : ay_at (ax_upd hp 702 (112) (ρ 0)) 185 = ay_at hp 185 := funext (fun j => ay_upd_ne hT.1 (by decide) j)
  rw [c0]
  have c1 : ay_at (ax_upd hp 702 (112) (ρ 0)) 173 27 = ay_at hp 173 27 := by rw [ay_upd_eq hT.1 rfl ho0, if_neg (by decide)]
  rw [c1]
  have c2 : ay_at (ax_upd hp 702 (112) (ρ 0)) 182 = ay_at hp 182 := funext (fun j => ay_upd_ne hT.1 (by decide) j)
  rw [c2]
  have c3 : ay_at (ax_upd hp 702 (112) (ρ 0)) 180 1 = ay_at hp 180 1 := ay_upd_ne hT.1 (by decide) 1
  rw [c3]
  have c4 : ay_at (ax_upd hp 702 (112) (ρ 0)) 179 1 = ay_at hp 179 1 := ay_upd_ne hT.1 (by decide) 1
  rw [c4]
  have c5 : ay_at (ax_upd hp 702 (112) (ρ 0)) 173 28 = some (ρ 0) := by rw [ay_upd_eq hT.1 rfl ho0, if_pos (by decide)]
  rw [c5]
  show ay_pg 1 0 0 1 0 1 (ay_at hp 185) (ay_ln (ay_at hp 173 27)) (ay_at hp 182) (ay_ln (ay_at hp 180 1)) (ay_ln (ay_at hp 179 1)) (ρ 0 / 4)
  rw [h0, d4]
  exact ay_pg_d1 p
theorem axq0_cm3 : ax_RO ax_wM0 (ax_XM 0) axu0_cm3 := by
  intro ρ hp hE hT
  obtain ⟨p1, p2, p3, p4, p5, p6, p⟩ : ay_ex hp 185 ∧ ay_ex hp 173 ∧ ay_ex hp 182 ∧ ay_ex hp 180 ∧ ay_ex hp 179 ∧ ay_ex hp 173 ∧ ay_M40 1 (0) (0) (8) (0) (4) (ay_at hp 185) (ay_at hp 173 27) (ay_at hp 182) (ay_at hp 180 1) (ay_at hp 179 1) (ay_at hp 173 28) := (ax_XF_lt (x := 40) (Nat.le_of_ble_eq_true rfl)).mp (ax_gx hE (40, [0, 0, 8, 0, 4]) ax_m0)
  replace p : ay_pg 1 0 0 2 0 1 (ay_at hp 185) (ay_ln (ay_at hp 173 27)) (ay_at hp 182) (ay_ln (ay_at hp 180 1)) (ay_ln (ay_at hp 179 1)) (ay_ln (ay_at hp 173 28)) := p
  obtain ⟨k1, k2, k⟩ : ay_ex hp 179 ∧ ay_ex hp 173 ∧ ay_M53 (ρ 2) (0) (ay_at hp 179 1) (ay_at hp 173 28) := (ax_XF_lt (x := 53) (Nat.le_of_ble_eq_true rfl)).mp (ax_gx hE (53, [11, 0]) ax_m3)
  replace k : 20 * (40 - ay_ln (ay_at hp 179 1)) + 2 * ay_ln (ay_at hp 173 28) + 1 ≤ ρ 2 / 4 := k
  obtain ⟨d, hd, d1, d2, d3⟩ := ax_gi hE 1 2147483648 2147483654 (by decide) rfl
  obtain ⟨d4, d5⟩ := ax_bi_pos d1 (by omega)
  have d4 : ∀ z : Nat, 4 * z / 4 = z := fun z => by omega
  have fd := ay_gfj hE 702 112 7 173 28 ax_m1 (ax_vlq rfl rfl) (ax_vlj rfl rfl)
  replace fd : ay_at hp 173 28 = some (ρ 1) := fd
  have ld : ay_ln (ay_at hp 173 28) = d := by rw [fd, hd]; show 4 * d / 4 = d; omega
  rw [ld] at p k
  have hd0 := ay_pg_d0 p
  obtain ⟨n, hn⟩ : ∃ n, d = n + 1 := ⟨d - 1, by omega⟩
  have hs : ρ 0 = 4 * (d - 1) := ay_d hE 3 4 7 (b := 1) (by decide) (ax_vl_c (v := 4) (by decide)) hd (by omega) (by omega)
  have h0 : ρ 0 = 4 * n := by omega
  rw [hn] at p ld
  rw [hn] at k
  obtain ⟨o0, ho0⟩ := ay_some hT (q := 173) (g := 11) (n := 58) ax_cg_173 ax_cn_11 (j := 112 / 4) (Nat.le_of_ble_eq_true rfl)
  refine ⟨(fun y hy => by cases hy), _, List.mem_cons_self, ρ, fun _ _ => rfl, ax_px hE rfl (fun y hy => ?_)⟩
  cases List.mem_singleton.mp hy
  show ax_XF (ax_XM 0) (500 + 53) [702, 112, ρ 0, ρ 2, 0] hp
  refine (ax_XF_wr (x := 53) (Nat.le_of_ble_eq_true rfl)).mpr ⟨ay_ex_upd hT.1 (ax_cellT hT (q := 179) (g := 49) ax_cg_179), ay_ex_upd hT.1 (ax_cellT hT (q := 173) (g := 11) ax_cg_173), ?_⟩
  show ay_M53 (ρ 2) (0) (ay_at (ax_upd hp 702 (112) (ρ 0)) 179 1) (ay_at (ax_upd hp 702 (112) (ρ 0)) 173 28)
  have c0 : ay_at (ax_upd hp 702 (112) (ρ 0)) 179 1 = ay_at hp 179 1 := ay_upd_ne hT.1 (by decide) 1
  rw [c0]
  have c1 : ay_at (ax_upd hp 702 (112) (ρ 0)) 173 28 = some (ρ 0) := by rw [ay_upd_eq hT.1 rfl ho0, if_pos (by decide)]
  rw [c1]
  show 20 * (40 - ay_ln (ay_at hp 179 1)) + 2 * (ρ 0 / 4) + 1 ≤ ρ 2 / 4
  rw [h0, d4]
  omega
theorem axq0_cmE : ax_RO ax_wM0 (ax_XM 0) axu0_cmE := by
  intro ρ hp hE hT
  obtain ⟨p1, p2, p3, p4, p5, p6, p⟩ : ay_ex hp 185 ∧ ay_ex hp 173 ∧ ay_ex hp 182 ∧ ay_ex hp 180 ∧ ay_ex hp 179 ∧ ay_ex hp 173 ∧ ay_M40 1 (0) (0) (4) (0) (4) (ay_at hp 185) (ay_at hp 173 27) (ay_at hp 182) (ay_at hp 180 1) (ay_at hp 179 1) (ay_at hp 173 28) := (ax_XF_lt (x := 40) (Nat.le_of_ble_eq_true rfl)).mp (ax_gx hE (40, [0, 0, 4, 0, 4]) ax_m0)
  replace p : ay_pg 1 0 0 1 0 1 (ay_at hp 185) (ay_ln (ay_at hp 173 27)) (ay_at hp 182) (ay_ln (ay_at hp 180 1)) (ay_ln (ay_at hp 179 1)) (ay_ln (ay_at hp 173 28)) := p
  obtain ⟨o, ho, o1, o2, o3⟩ := ax_gi hE 0 2147483648 2147483648 (by decide) rfl
  obtain ⟨o4, o5⟩ := ax_bi_pos o1 (by omega)
  have d4 : ∀ z : Nat, 4 * z / 4 = z := fun z => by omega
  have fo := ay_gfj hE 702 108 3 173 27 ax_m1 (ax_vlq rfl rfl) (ax_vlj rfl rfl)
  replace fo : ay_at hp 173 27 = some (ρ 0) := fo
  have lo : ay_ln (ay_at hp 173 27) = o := by rw [fo, ho]; show 4 * o / 4 = o; omega
  refine ⟨(fun y hy => by cases hy), _, List.mem_cons_self, ρ, fun _ _ => rfl, ax_px hE rfl (fun y hy => ?_)⟩
  cases List.mem_singleton.mp hy
  refine (ax_XF_lt (x := 40) (Nat.le_of_ble_eq_true rfl)).mpr ⟨(ax_cellT hT (q := 185) (g := 55) ax_cg_185), (ax_cellT hT (q := 173) (g := 11) ax_cg_173), (ax_cellT hT (q := 182) (g := 52) ax_cg_182), (ax_cellT hT (q := 180) (g := 50) ax_cg_180), (ax_cellT hT (q := 179) (g := 49) ax_cg_179), (ax_cellT hT (q := 173) (g := 11) ax_cg_173), ?_⟩
  show ay_M40 1 (0) (0) (4) (0) (0) (ay_at hp 185) (ay_at hp 173 27) (ay_at hp 182) (ay_at hp 180 1) (ay_at hp 179 1) (ay_at hp 173 28)
  show ay_pg 1 0 0 1 0 0 (ay_at hp 185) (ay_ln (ay_at hp 173 27)) (ay_at hp 182) (ay_ln (ay_at hp 180 1)) (ay_ln (ay_at hp 179 1)) (ay_ln (ay_at hp 173 28))
  exact ay_pg_m0 p (fun h => by rw [lo] at h; omega)

theorem axq0_cmF0 : ax_RO ax_wM0 (ax_XM 0) axu0_cmF0 := by
  intro ρ hp hE hT
  obtain ⟨p1, p2, p3, p4, p5, p6, p⟩ : ay_ex hp 185 ∧ ay_ex hp 173 ∧ ay_ex hp 182 ∧ ay_ex hp 180 ∧ ay_ex hp 179 ∧ ay_ex hp 173 ∧ ay_M40 1 (0) (0) (4) (0) (4) (ay_at hp 185) (ay_at hp 173 27) (ay_at hp 182) (ay_at hp 180 1) (ay_at hp 179 1) (ay_at hp 173 28) := (ax_XF_lt (x := 40) (Nat.le_of_ble_eq_true rfl)).mp (ax_gx hE (40, [0, 0, 4, 0, 4]) ax_m0)
  replace p : ay_pg 1 0 0 1 0 1 (ay_at hp 185) (ay_ln (ay_at hp 173 27)) (ay_at hp 182) (ay_ln (ay_at hp 180 1)) (ay_ln (ay_at hp 179 1)) (ay_ln (ay_at hp 173 28)) := p
  obtain ⟨o, ho, o1, o2, o3⟩ := ax_gi hE 0 2147483649 2147483748 (by decide) rfl
  obtain ⟨o4, o5⟩ := ax_bi_pos o1 (by omega)
  have d4 : ∀ z : Nat, 4 * z / 4 = z := fun z => by omega
  have fo := ay_gfj hE 702 108 3 173 27 ax_m1 (ax_vlq rfl rfl) (ax_vlj rfl rfl)
  replace fo : ay_at hp 173 27 = some (ρ 0) := fo
  have lo : ay_ln (ay_at hp 173 27) = o := by rw [fo, ho]; show 4 * o / 4 = o; omega
  have hs : ρ 1 = 4 * (o - 1) := ay_d hE 7 4 3 (b := 1) (by decide) (ax_vl_c (v := 4) (by decide)) ho (by omega) (by omega)
  obtain ⟨c, hc, c1, c2, c3⟩ := ax_gi hE 2 0 2147484655 (by decide) rfl
  rw [ax_bi_def] at c2 c3
  have fr := ay_gf hE 750 7 11 185 ax_m3 (ax_vlq rfl rfl)
  replace fr : ay_at hp 185 (ρ 1 / 4) = some (ρ 2) := fr
  obtain ⟨n, hn⟩ : ∃ n, o = n + 1 := ⟨o - 1, by omega⟩
  have h0 : ρ 1 = 4 * n := by omega
  rw [h0, d4, hc] at fr
  refine ⟨(fun y hy => by cases hy), _, List.mem_cons_self, ρ, fun _ _ => rfl, ax_px hE rfl (fun y hy => ?_)⟩
  cases List.mem_singleton.mp hy
  refine (ax_XF_lt (x := 40) (Nat.le_of_ble_eq_true rfl)).mpr ⟨(ax_cellT hT (q := 185) (g := 55) ax_cg_185), (ax_cellT hT (q := 173) (g := 11) ax_cg_173), (ax_cellT hT (q := 182) (g := 52) ax_cg_182), (ax_cellT hT (q := 180) (g := 50) ax_cg_180), (ax_cellT hT (q := 179) (g := 49) ax_cg_179), (ax_cellT hT (q := 173) (g := 11) ax_cg_173), ?_⟩
  show ay_M40 1 (0) (0) (4) (0) (0) (ay_at hp 185) (ay_at hp 173 27) (ay_at hp 182) (ay_at hp 180 1) (ay_at hp 179 1) (ay_at hp 173 28)
  show ay_pg 1 0 0 1 0 0 (ay_at hp 185) (ay_ln (ay_at hp 173 27)) (ay_at hp 182) (ay_ln (ay_at hp 180 1)) (ay_ln (ay_at hp 179 1)) (ay_ln (ay_at hp 173 28))
  refine ay_pg_m0 p (fun h z => ?_)
  rw [lo, hn] at z
  replace z : ay_at hp 185 n = some 4032 := z
  rw [fr] at z
  have z := Option.some.inj z
  omega

theorem axq0_cmF1 : ax_RO ax_wM0 (ax_XM 0) axu0_cmF1 := by
  intro ρ hp hE hT
  obtain ⟨p1, p2, p3, p4, p5, p6, p⟩ : ay_ex hp 185 ∧ ay_ex hp 173 ∧ ay_ex hp 182 ∧ ay_ex hp 180 ∧ ay_ex hp 179 ∧ ay_ex hp 173 ∧ ay_M40 1 (0) (0) (4) (0) (4) (ay_at hp 185) (ay_at hp 173 27) (ay_at hp 182) (ay_at hp 180 1) (ay_at hp 179 1) (ay_at hp 173 28) := (ax_XF_lt (x := 40) (Nat.le_of_ble_eq_true rfl)).mp (ax_gx hE (40, [0, 0, 4, 0, 4]) ax_m0)
  replace p : ay_pg 1 0 0 1 0 1 (ay_at hp 185) (ay_ln (ay_at hp 173 27)) (ay_at hp 182) (ay_ln (ay_at hp 180 1)) (ay_ln (ay_at hp 179 1)) (ay_ln (ay_at hp 173 28)) := p
  obtain ⟨o, ho, o1, o2, o3⟩ := ax_gi hE 0 2147483649 2147483748 (by decide) rfl
  obtain ⟨o4, o5⟩ := ax_bi_pos o1 (by omega)
  have d4 : ∀ z : Nat, 4 * z / 4 = z := fun z => by omega
  have fo := ay_gfj hE 702 108 3 173 27 ax_m1 (ax_vlq rfl rfl) (ax_vlj rfl rfl)
  replace fo : ay_at hp 173 27 = some (ρ 0) := fo
  have lo : ay_ln (ay_at hp 173 27) = o := by rw [fo, ho]; show 4 * o / 4 = o; omega
  have hs : ρ 1 = 4 * (o - 1) := ay_d hE 7 4 3 (b := 1) (by decide) (ax_vl_c (v := 4) (by decide)) ho (by omega) (by omega)
  obtain ⟨c, hc, c1, c2, c3⟩ := ax_gi hE 2 2147484657 4294967295 (by decide) rfl
  rw [ax_bi_def] at c2 c3
  have fr := ay_gf hE 750 7 11 185 ax_m3 (ax_vlq rfl rfl)
  replace fr : ay_at hp 185 (ρ 1 / 4) = some (ρ 2) := fr
  obtain ⟨n, hn⟩ : ∃ n, o = n + 1 := ⟨o - 1, by omega⟩
  have h0 : ρ 1 = 4 * n := by omega
  rw [h0, d4, hc] at fr
  refine ⟨(fun y hy => by cases hy), _, List.mem_cons_self, ρ, fun _ _ => rfl, ax_px hE rfl (fun y hy => ?_)⟩
  cases List.mem_singleton.mp hy
  refine (ax_XF_lt (x := 40) (Nat.le_of_ble_eq_true rfl)).mpr ⟨(ax_cellT hT (q := 185) (g := 55) ax_cg_185), (ax_cellT hT (q := 173) (g := 11) ax_cg_173), (ax_cellT hT (q := 182) (g := 52) ax_cg_182), (ax_cellT hT (q := 180) (g := 50) ax_cg_180), (ax_cellT hT (q := 179) (g := 49) ax_cg_179), (ax_cellT hT (q := 173) (g := 11) ax_cg_173), ?_⟩
  show ay_M40 1 (0) (0) (4) (0) (0) (ay_at hp 185) (ay_at hp 173 27) (ay_at hp 182) (ay_at hp 180 1) (ay_at hp 179 1) (ay_at hp 173 28)
  show ay_pg 1 0 0 1 0 0 (ay_at hp 185) (ay_ln (ay_at hp 173 27)) (ay_at hp 182) (ay_ln (ay_at hp 180 1)) (ay_ln (ay_at hp 179 1)) (ay_ln (ay_at hp 173 28))
  refine ay_pg_m0 p (fun h z => ?_)
  rw [lo, hn] at z
  replace z : ay_at hp 185 n = some 4032 := z
  rw [fr] at z
  have z := Option.some.inj z
  omega

theorem axq0_co0 : ax_RO ax_wM0 (ax_XM 0) axu0_co0 := by
  intro ρ hp hE hT
  obtain ⟨p1, p2, p3, p4, p5, p6, p⟩ : ay_ex hp 185 ∧ ay_ex hp 173 ∧ ay_ex hp 182 ∧ ay_ex hp 180 ∧ ay_ex hp 179 ∧ ay_ex hp 173 ∧ ay_M40 1 (0) (0) (4) (0) (0) (ay_at hp 185) (ay_at hp 173 27) (ay_at hp 182) (ay_at hp 180 1) (ay_at hp 179 1) (ay_at hp 173 28) := (ax_XF_lt (x := 40) (Nat.le_of_ble_eq_true rfl)).mp (ax_gx hE (40, [0, 0, 4, 0, 0]) ax_m0)
  replace p : ay_pg 1 0 0 1 0 0 (ay_at hp 185) (ay_ln (ay_at hp 173 27)) (ay_at hp 182) (ay_ln (ay_at hp 180 1)) (ay_ln (ay_at hp 179 1)) (ay_ln (ay_at hp 173 28)) := p
  obtain ⟨o, ho, o1, o2, o3⟩ := ax_gi hE 1 2147483648 2147483748 (by decide) rfl
  obtain ⟨o4, o5⟩ := ax_bi_pos o1 (by omega)
  obtain ⟨d, hd, d1, d2, d3⟩ := ax_gi hE 2 2147483649 2147483654 (by decide) rfl
  obtain ⟨d4, d5⟩ := ax_bi_pos d1 (by omega)
  have d4 : ∀ z : Nat, 4 * z / 4 = z := fun z => by omega
  have fd := ay_gfj hE 702 112 11 173 28 ax_m1 (ax_vlq rfl rfl) (ax_vlj rfl rfl)
  replace fd : ay_at hp 173 28 = some (ρ 2) := fd
  have ld : ay_ln (ay_at hp 173 28) = d := by rw [fd, hd]; show 4 * d / 4 = d; omega
  have fo := ay_gfj hE 702 108 7 173 27 ax_m2 (ax_vlq rfl rfl) (ax_vlj rfl rfl)
  replace fo : ay_at hp 173 27 = some (ρ 1) := fo
  have lo : ay_ln (ay_at hp 173 27) = o := by rw [fo, ho]; show 4 * o / 4 = o; omega
  rw [lo, ld] at p
  have hod := ay_pg_deep p (by omega)
  have hs : ρ 0 = 4 * (o - 1) := ay_d hE 3 4 7 (b := 1) (by decide) (ax_vl_c (v := 4) (by decide)) ho (by omega) (by omega)
  refine ⟨fun y hy => ?_, _, List.mem_cons_self, ρ, fun _ _ => rfl, ax_px hE rfl (fun y hy => by cases hy)⟩
  rcases List.mem_cons.mp hy with e | hy
  · subst e
    show 2147483648 ≤ rx_bi (ρ 0 / 4) ∧ rx_bi (ρ 0 / 4) ≤ 2147483747
    rw [hs, d4, ax_bi_nat (by omega)]
    omega
  cases List.mem_singleton.mp hy
  show 2147483649 ≤ rx_bi (ρ 1 / 4) ∧ rx_bi (ρ 1 / 4) ≤ 2147483748
  rw [ho, d4, ax_bi_nat (by omega)]
  omega

theorem axq0_co1 : ax_RO ax_wM0 (ax_XM 0) axu0_co1 := by
  intro ρ hp hE hT
  obtain ⟨p1, p2, p3, p4, p5, p6, p⟩ : ay_ex hp 185 ∧ ay_ex hp 173 ∧ ay_ex hp 182 ∧ ay_ex hp 180 ∧ ay_ex hp 179 ∧ ay_ex hp 173 ∧ ay_M40 1 (0) (0) (4) (0) (0) (ay_at hp 185) (ay_at hp 173 27) (ay_at hp 182) (ay_at hp 180 1) (ay_at hp 179 1) (ay_at hp 173 28) := (ax_XF_lt (x := 40) (Nat.le_of_ble_eq_true rfl)).mp (ax_gx hE (40, [0, 0, 4, 0, 0]) ax_m0)
  replace p : ay_pg 1 0 0 1 0 0 (ay_at hp 185) (ay_ln (ay_at hp 173 27)) (ay_at hp 182) (ay_ln (ay_at hp 180 1)) (ay_ln (ay_at hp 179 1)) (ay_ln (ay_at hp 173 28)) := p
  obtain ⟨o, ho, o1, o2, o3⟩ := ax_gi hE 1 2147483649 2147483748 (by decide) rfl
  obtain ⟨o4, o5⟩ := ax_bi_pos o1 (by omega)
  have d4 : ∀ z : Nat, 4 * z / 4 = z := fun z => by omega
  have fo := ay_gfj hE 702 108 7 173 27 ax_m1 (ax_vlq rfl rfl) (ax_vlj rfl rfl)
  replace fo : ay_at hp 173 27 = some (ρ 1) := fo
  have lo : ay_ln (ay_at hp 173 27) = o := by rw [fo, ho]; show 4 * o / 4 = o; omega
  have hs : ρ 0 = 4 * (o - 1) := ay_d hE 3 4 7 (b := 1) (by decide) (ax_vl_c (v := 4) (by decide)) ho (by omega) (by omega)
  obtain ⟨c, hc, c1, c2, c3⟩ := ax_gi hE 2 0 2147484656 (by decide) rfl
  rw [ax_bi_def] at c2 c3
  have fr := ay_gf hE 750 3 11 185 ax_m3 (ax_vlq rfl rfl)
  replace fr : ay_at hp 185 (ρ 0 / 4) = some (ρ 2) := fr
  obtain ⟨n, hn⟩ : ∃ n, o = n + 1 := ⟨o - 1, by omega⟩
  have h0 : ρ 0 = 4 * n := by omega
  rw [h0, d4, hc] at fr
  rw [lo, hn] at p
  have ht := ay_pg_top p fr
  refine ⟨(fun y hy => by cases hy), _, List.mem_cons_self, ρ, fun _ _ => rfl, ax_px hE rfl (fun y hy => ?_)⟩
  cases List.mem_singleton.mp hy
  refine (ax_XF_lt (x := 57) (Nat.le_of_ble_eq_true rfl)).mpr ⟨(ax_cellT hT (q := 173) (g := 11) ax_cg_173), (ax_cellT hT (q := 185) (g := 55) ax_cg_185), ?_⟩
  show 1 ≤ ay_ln (ay_at hp 173 27) ∧ ay_isb (ay_at hp 185 (ay_ln (ay_at hp 173 27) - 1)) = true
  rw [lo, hn]
  refine ⟨by omega, ?_⟩
  show ay_isb (ay_at hp 185 n) = true
  rw [fr]
  exact ay_isb_c (by omega) (by omega)

theorem axq0_co2 : ax_RO ax_wM0 (ax_XM 0) axu0_co2 := by
  intro ρ hp hE hT
  obtain ⟨p1, p2, p3, p4, p5, p6, p⟩ : ay_ex hp 185 ∧ ay_ex hp 173 ∧ ay_ex hp 182 ∧ ay_ex hp 180 ∧ ay_ex hp 179 ∧ ay_ex hp 173 ∧ ay_M40 1 (0) (0) (4) (0) (0) (ay_at hp 185) (ay_at hp 173 27) (ay_at hp 182) (ay_at hp 180 1) (ay_at hp 179 1) (ay_at hp 173 28) := (ax_XF_lt (x := 40) (Nat.le_of_ble_eq_true rfl)).mp (ax_gx hE (40, [0, 0, 4, 0, 0]) ax_m0)
  replace p : ay_pg 1 0 0 1 0 0 (ay_at hp 185) (ay_ln (ay_at hp 173 27)) (ay_at hp 182) (ay_ln (ay_at hp 180 1)) (ay_ln (ay_at hp 179 1)) (ay_ln (ay_at hp 173 28)) := p
  obtain ⟨o, ho, o1, o2, o3⟩ := ax_gi hE 1 2147483649 2147483748 (by decide) rfl
  obtain ⟨o4, o5⟩ := ax_bi_pos o1 (by omega)
  have d4 : ∀ z : Nat, 4 * z / 4 = z := fun z => by omega
  have fo := ay_gfj hE 702 108 7 173 27 ax_m1 (ax_vlq rfl rfl) (ax_vlj rfl rfl)
  replace fo : ay_at hp 173 27 = some (ρ 1) := fo
  have lo : ay_ln (ay_at hp 173 27) = o := by rw [fo, ho]; show 4 * o / 4 = o; omega
  have hs : ρ 0 = 4 * (o - 1) := ay_d hE 3 4 7 (b := 1) (by decide) (ax_vl_c (v := 4) (by decide)) ho (by omega) (by omega)
  obtain ⟨c, hc, c1, c2, c3⟩ := ax_gi hE 2 2147484658 4294967295 (by decide) rfl
  rw [ax_bi_def] at c2 c3
  have fr := ay_gf hE 750 3 11 185 ax_m3 (ax_vlq rfl rfl)
  replace fr : ay_at hp 185 (ρ 0 / 4) = some (ρ 2) := fr
  obtain ⟨n, hn⟩ : ∃ n, o = n + 1 := ⟨o - 1, by omega⟩
  have h0 : ρ 0 = 4 * n := by omega
  rw [h0, d4, hc] at fr
  rw [lo, hn] at p
  have ht := ay_pg_top p fr
  exfalso
  omega
theorem axq0_co3 : ax_RO ax_wM0 (ax_XM 0) axu0_co3 := by
  intro ρ hp hE hT
  obtain ⟨p1, p2, p3, p4, p5, p6, p⟩ : ay_ex hp 185 ∧ ay_ex hp 173 ∧ ay_ex hp 182 ∧ ay_ex hp 180 ∧ ay_ex hp 179 ∧ ay_ex hp 173 ∧ ay_M40 1 (0) (0) (4) (0) (0) (ay_at hp 185) (ay_at hp 173 27) (ay_at hp 182) (ay_at hp 180 1) (ay_at hp 179 1) (ay_at hp 173 28) := (ax_XF_lt (x := 40) (Nat.le_of_ble_eq_true rfl)).mp (ax_gx hE (40, [0, 0, 4, 0, 0]) ax_m0)
  replace p : ay_pg 1 0 0 1 0 0 (ay_at hp 185) (ay_ln (ay_at hp 173 27)) (ay_at hp 182) (ay_ln (ay_at hp 180 1)) (ay_ln (ay_at hp 179 1)) (ay_ln (ay_at hp 173 28)) := p
  obtain ⟨o, ho, o1, o2, o3⟩ := ax_gi hE 1 2147483649 2147483748 (by decide) rfl
  obtain ⟨o4, o5⟩ := ax_bi_pos o1 (by omega)
  have d4 : ∀ z : Nat, 4 * z / 4 = z := fun z => by omega
  have fo := ay_gfj hE 702 108 7 173 27 ax_m1 (ax_vlq rfl rfl) (ax_vlj rfl rfl)
  replace fo : ay_at hp 173 27 = some (ρ 1) := fo
  have lo : ay_ln (ay_at hp 173 27) = o := by rw [fo, ho]; show 4 * o / 4 = o; omega
  have hs : ρ 0 = 4 * (o - 1) := ay_d hE 3 4 7 (b := 1) (by decide) (ax_vl_c (v := 4) (by decide)) ho (by omega) (by omega)
  obtain ⟨c, hc, c1, c2, c3⟩ := ax_gi hE 2 2147484657 2147484657 (by decide) rfl
  rw [ax_bi_def] at c2 c3
  have fr := ay_gf hE 750 3 11 185 ax_m3 (ax_vlq rfl rfl)
  replace fr : ay_at hp 185 (ρ 0 / 4) = some (ρ 2) := fr
  obtain ⟨n, hn⟩ : ∃ n, o = n + 1 := ⟨o - 1, by omega⟩
  have h0 : ρ 0 = 4 * n := by omega
  rw [h0, d4, hc] at fr
  rw [lo, hn] at p
  obtain ⟨o0, ho0⟩ := ay_some hT (q := 173) (g := 11) (n := 58) ax_cg_173 ax_cn_11 (j := 108 / 4) (Nat.le_of_ble_eq_true rfl)
  refine ⟨(fun y hy => by cases hy), _, List.mem_cons_self, ρ, fun _ _ => rfl, ax_px hE rfl (fun y hy => ?_)⟩
  cases List.mem_singleton.mp hy
  show ax_XF (ax_XM 0) (500 + 40) [702, 108, ρ 0, 0, 0, 8, 4, 4] hp
  refine (ax_XF_wr (x := 40) (Nat.le_of_ble_eq_true rfl)).mpr ⟨ay_ex_upd hT.1 (ax_cellT hT (q := 185) (g := 55) ax_cg_185), ay_ex_upd hT.1 (ax_cellT hT (q := 173) (g := 11) ax_cg_173), ay_ex_upd hT.1 (ax_cellT hT (q := 182) (g := 52) ax_cg_182), ay_ex_upd hT.1 (ax_cellT hT (q := 180) (g := 50) ax_cg_180), ay_ex_upd hT.1 (ax_cellT hT (q := 179) (g := 49) ax_cg_179), ay_ex_upd hT.1 (ax_cellT hT (q := 173) (g := 11) ax_cg_173), ?_⟩
  show ay_M40 1 (0) (0) (8) (4) (4) (ay_at (ax_upd hp 702 (108) (ρ 0)) 185) (ay_at (ax_upd hp 702 (108) (ρ 0)) 173 27) (ay_at (ax_upd hp 702 (108) (ρ 0)) 182) (ay_at (ax_upd hp 702 (108) (ρ 0)) 180 1) (ay_at (ax_upd hp 702 (108) (ρ 0)) 179 1) (ay_at (ax_upd hp 702 (108) (ρ 0)) 173 28)
  have c0 : ay_at (ax_upd hp 702 (108) (ρ 0)) 185 = ay_at hp 185 := funext (fun j => ay_upd_ne hT.1 (by decide) j)
  rw [c0]
  have c1 : ay_at (ax_upd hp 702 (108) (ρ 0)) 173 27 = some (ρ 0) := by rw [ay_upd_eq hT.1 rfl ho0, if_pos (by decide)]
  rw [c1]
  have c2 : ay_at (ax_upd hp 702 (108) (ρ 0)) 182 = ay_at hp 182 := funext (fun j => ay_upd_ne hT.1 (by decide) j)
  rw [c2]
  have c3 : ay_at (ax_upd hp 702 (108) (ρ 0)) 180 1 = ay_at hp 180 1 := ay_upd_ne hT.1 (by decide) 1
  rw [c3]
  have c4 : ay_at (ax_upd hp 702 (108) (ρ 0)) 179 1 = ay_at hp 179 1 := ay_upd_ne hT.1 (by decide) 1
  rw [c4]
  have c5 : ay_at (ax_upd hp 702 (108) (ρ 0)) 173 28 = ay_at hp 173 28 := by rw [ay_upd_eq hT.1 rfl ho0, if_neg (by decide)]
  rw [c5]
  show ay_pg 1 0 0 2 1 1 (ay_at hp 185) (ρ 0 / 4) (ay_at hp 182) (ay_ln (ay_at hp 180 1)) (ay_ln (ay_at hp 179 1)) (ay_ln (ay_at hp 173 28))
  rw [h0, d4]
  exact ay_pg_qM p fr (by omega)
theorem axq0_co4 : ax_RO ax_wM0 (ax_XM 0) axu0_co4 := by
  intro ρ hp hE hT
  obtain ⟨p1, p2, p3, p4, p5, p6, p⟩ : ay_ex hp 185 ∧ ay_ex hp 173 ∧ ay_ex hp 182 ∧ ay_ex hp 180 ∧ ay_ex hp 179 ∧ ay_ex hp 173 ∧ ay_M40 1 (0) (0) (8) (4) (4) (ay_at hp 185) (ay_at hp 173 27) (ay_at hp 182) (ay_at hp 180 1) (ay_at hp 179 1) (ay_at hp 173 28) := (ax_XF_lt (x := 40) (Nat.le_of_ble_eq_true rfl)).mp (ax_gx hE (40, [0, 0, 8, 4, 4]) ax_m0)
  replace p : ay_pg 1 0 0 2 1 1 (ay_at hp 185) (ay_ln (ay_at hp 173 27)) (ay_at hp 182) (ay_ln (ay_at hp 180 1)) (ay_ln (ay_at hp 179 1)) (ay_ln (ay_at hp 173 28)) := p
  obtain ⟨k1, k2, k⟩ : ay_ex hp 179 ∧ ay_ex hp 173 ∧ ay_M53 (ρ 2) (0) (ay_at hp 179 1) (ay_at hp 173 28) := (ax_XF_lt (x := 53) (Nat.le_of_ble_eq_true rfl)).mp (ax_gx hE (53, [11, 0]) ax_m3)
  replace k : 20 * (40 - ay_ln (ay_at hp 179 1)) + 2 * ay_ln (ay_at hp 173 28) + 1 ≤ ρ 2 / 4 := k
  obtain ⟨K, hK⟩ := ax_gj hE 2 (by decide) rfl
  obtain ⟨d, hd, d1, d2, d3⟩ := ax_gi hE 1 2147483649 2147483654 (by decide) rfl
  obtain ⟨d4, d5⟩ := ax_bi_pos d1 (by omega)
  have d4 : ∀ z : Nat, 4 * z / 4 = z := fun z => by omega
  have fd := ay_gfj hE 702 112 7 173 28 ax_m1 (ax_vlq rfl rfl) (ax_vlj rfl rfl)
  replace fd : ay_at hp 173 28 = some (ρ 1) := fd
  have ld : ay_ln (ay_at hp 173 28) = d := by rw [fd, hd]; show 4 * d / 4 = d; omega
  rw [ld] at p k
  obtain ⟨n, hn⟩ : ∃ n, d = n + 1 := ⟨d - 1, by omega⟩
  have hs : ρ 0 = 4 * (d - 1) := ay_d hE 3 4 7 (b := 1) (by decide) (ax_vl_c (v := 4) (by decide)) hd (by omega) (by omega)
  have h0 : ρ 0 = 4 * n := by omega
  rw [hn] at p ld
  rw [hn] at k
  obtain ⟨z, hz⟩ : ∃ z, ay_ln (ay_at hp 179 1) = z := ⟨_, rfl⟩
  rw [hz] at k
  obtain ⟨o0, ho0⟩ := ay_some hT (q := 173) (g := 11) (n := 58) ax_cg_173 ax_cn_11 (j := 112 / 4) (Nat.le_of_ble_eq_true rfl)
  obtain ⟨ρ', h1, h2⟩ := ax_pn (K := 20 * (40 - z) + 2 * n + 1) (xf := [(540, [702, 112, 3, 0, 0, 4, 0, 4]), (553, [702, 112, 3, 15, 0]), (1030, [15, 11])]) hE (by decide) (fun ρ' h1 h2 x hx => by
    rcases List.mem_cons.mp hx with e | hx
    · subst e
      show ax_XF (ax_XM 0) (500 + 40) [702, 112, ρ' 0, 0, 0, 4, 0, 4] hp
      rw [h1 0 (by decide)]
      refine (ax_XF_wr (x := 40) (Nat.le_of_ble_eq_true rfl)).mpr ⟨ay_ex_upd hT.1 (ax_cellT hT (q := 185) (g := 55) ax_cg_185), ay_ex_upd hT.1 (ax_cellT hT (q := 173) (g := 11) ax_cg_173), ay_ex_upd hT.1 (ax_cellT hT (q := 182) (g := 52) ax_cg_182), ay_ex_upd hT.1 (ax_cellT hT (q := 180) (g := 50) ax_cg_180), ay_ex_upd hT.1 (ax_cellT hT (q := 179) (g := 49) ax_cg_179), ay_ex_upd hT.1 (ax_cellT hT (q := 173) (g := 11) ax_cg_173), ?_⟩
      show ay_M40 1 (0) (0) (4) (0) (4) (ay_at (ax_upd hp 702 (112) (ρ 0)) 185) (ay_at (ax_upd hp 702 (112) (ρ 0)) 173 27) (ay_at (ax_upd hp 702 (112) (ρ 0)) 182) (ay_at (ax_upd hp 702 (112) (ρ 0)) 180 1) (ay_at (ax_upd hp 702 (112) (ρ 0)) 179 1) (ay_at (ax_upd hp 702 (112) (ρ 0)) 173 28)
      have c0 : ay_at (ax_upd hp 702 (112) (ρ 0)) 185 = ay_at hp 185 := funext (fun j => ay_upd_ne hT.1 (by decide) j)
      rw [c0]
      have c1 : ay_at (ax_upd hp 702 (112) (ρ 0)) 173 27 = ay_at hp 173 27 := by rw [ay_upd_eq hT.1 rfl ho0, if_neg (by decide)]
      rw [c1]
      have c2 : ay_at (ax_upd hp 702 (112) (ρ 0)) 182 = ay_at hp 182 := funext (fun j => ay_upd_ne hT.1 (by decide) j)
      rw [c2]
      have c3 : ay_at (ax_upd hp 702 (112) (ρ 0)) 180 1 = ay_at hp 180 1 := ay_upd_ne hT.1 (by decide) 1
      rw [c3]
      have c4 : ay_at (ax_upd hp 702 (112) (ρ 0)) 179 1 = ay_at hp 179 1 := ay_upd_ne hT.1 (by decide) 1
      rw [c4]
      have c5 : ay_at (ax_upd hp 702 (112) (ρ 0)) 173 28 = some (ρ 0) := by rw [ay_upd_eq hT.1 rfl ho0, if_pos (by decide)]
      rw [c5]
      show ay_pg 1 0 0 1 0 1 (ay_at hp 185) (ay_ln (ay_at hp 173 27)) (ay_at hp 182) (ay_ln (ay_at hp 180 1)) (ay_ln (ay_at hp 179 1)) (ρ 0 / 4)
      rw [h0, d4]
      exact ay_pg_d1 p
    rcases List.mem_cons.mp hx with e | hx
    · subst e
      show ax_XF (ax_XM 0) (500 + 53) [702, 112, ρ' 0, ρ' 3, 0] hp
      rw [h1 0 (by decide)]
      refine (ax_XF_wr (x := 53) (Nat.le_of_ble_eq_true rfl)).mpr ⟨ay_ex_upd hT.1 (ax_cellT hT (q := 179) (g := 49) ax_cg_179), ay_ex_upd hT.1 (ax_cellT hT (q := 173) (g := 11) ax_cg_173), ?_⟩
      show ay_M53 (ρ' 3) (0) (ay_at (ax_upd hp 702 (112) (ρ 0)) 179 1) (ay_at (ax_upd hp 702 (112) (ρ 0)) 173 28)
      have c0 : ay_at (ax_upd hp 702 (112) (ρ 0)) 179 1 = ay_at hp 179 1 := ay_upd_ne hT.1 (by decide) 1
      rw [c0]
      have c1 : ay_at (ax_upd hp 702 (112) (ρ 0)) 173 28 = some (ρ 0) := by rw [ay_upd_eq hT.1 rfl ho0, if_pos (by decide)]
      rw [c1]
      show 20 * (40 - ay_ln (ay_at hp 179 1)) + 2 * (ρ 0 / 4) + 1 ≤ ρ' 3 / 4
      rw [h2, h0, hz, d4]
      omega
    cases List.mem_singleton.mp hx
    refine (ax_XF_bi (o := 30) (by decide)).mpr (Or.inr ⟨rfl, ?_⟩)
    show ρ' 3 < ρ' 2
    rw [h2, h1 2 (by decide), hK]
    omega)
  exact ⟨(fun x hx => by cases hx), _, List.mem_cons_self, ρ', h1, h2⟩
theorem axq0_ru0 : ax_RO ax_wM0 (ax_XM 0) axu0_ru0 := by
  intro ρ hp hE hT
  obtain ⟨p1, p2, p3, p4, p5, p6, p⟩ : ay_ex hp 185 ∧ ay_ex hp 173 ∧ ay_ex hp 182 ∧ ay_ex hp 180 ∧ ay_ex hp 179 ∧ ay_ex hp 173 ∧ ay_M40 1 (4) (0) (4) (0) (4) (ay_at hp 185) (ay_at hp 173 27) (ay_at hp 182) (ay_at hp 180 1) (ay_at hp 179 1) (ay_at hp 173 28) := (ax_XF_lt (x := 40) (Nat.le_of_ble_eq_true rfl)).mp (ax_gx hE (40, [4, 0, 4, 0, 4]) ax_m0)
  replace p : ay_pg 1 1 0 1 0 1 (ay_at hp 185) (ay_ln (ay_at hp 173 27)) (ay_at hp 182) (ay_ln (ay_at hp 180 1)) (ay_ln (ay_at hp 179 1)) (ay_ln (ay_at hp 173 28)) := p
  obtain ⟨k1, k2, k⟩ : ay_ex hp 179 ∧ ay_ex hp 173 ∧ ay_M53 (ρ 2) (4) (ay_at hp 179 1) (ay_at hp 173 28) := (ax_XF_lt (x := 53) (Nat.le_of_ble_eq_true rfl)).mp (ax_gx hE (53, [11, 4]) ax_m3)
  replace k : 20 * (40 - ay_ln (ay_at hp 179 1)) + 2 * ay_ln (ay_at hp 173 28) + 0 ≤ ρ 2 / 4 := k
  obtain ⟨K, hK⟩ := ax_gj hE 2 (by decide) rfl
  obtain ⟨u, hu, u1, u2, u3⟩ := ax_gi hE 1 2147483648 2147483687 (by decide) rfl
  obtain ⟨u4, u5⟩ := ax_bi_pos u1 (by omega)
  have d4 : ∀ z : Nat, 4 * z / 4 = z := fun z => by omega
  have fu := ay_gfj hE 726 4 7 179 1 ax_m1 (ax_vlq rfl rfl) (ax_vlj rfl rfl)
  replace fu : ay_at hp 179 1 = some (ρ 1) := fu
  have lu : ay_ln (ay_at hp 179 1) = u := by rw [fu, hu]; show 4 * u / 4 = u; omega
  rw [lu] at p k
  have h0 : ρ 0 = 4 * (u + 1) := ay_s hE 7 4 3 (b := 1) (by decide) hu (ax_vl_c (v := 4) (by decide)) (by omega) (by decide)
  obtain ⟨o0, ho0⟩ := ay_some hT (q := 179) (g := 49) (n := 2) ax_cg_179 ax_cn_49 (j := 4 / 4) (Nat.le_of_ble_eq_true rfl)
  obtain ⟨ρ', h1, h2⟩ := ax_pn (K := 20 * (40 - (u + 1)) + 13) (xf := [(540, [726, 4, 3, 4, 0, 4, 8, 4]), (555, [726, 4, 3, 15]), (1030, [15, 11])]) hE (by decide) (fun ρ' h1 h2 x hx => by
    rcases List.mem_cons.mp hx with e | hx
    · subst e
      show ax_XF (ax_XM 0) (500 + 40) [726, 4, ρ' 0, 4, 0, 4, 8, 4] hp
      rw [h1 0 (by decide)]
      refine (ax_XF_wr (x := 40) (Nat.le_of_ble_eq_true rfl)).mpr ⟨ay_ex_upd hT.1 (ax_cellT hT (q := 185) (g := 55) ax_cg_185), ay_ex_upd hT.1 (ax_cellT hT (q := 173) (g := 11) ax_cg_173), ay_ex_upd hT.1 (ax_cellT hT (q := 182) (g := 52) ax_cg_182), ay_ex_upd hT.1 (ax_cellT hT (q := 180) (g := 50) ax_cg_180), ay_ex_upd hT.1 (ax_cellT hT (q := 179) (g := 49) ax_cg_179), ay_ex_upd hT.1 (ax_cellT hT (q := 173) (g := 11) ax_cg_173), ?_⟩
      show ay_M40 1 (4) (0) (4) (8) (4) (ay_at (ax_upd hp 726 (4) (ρ 0)) 185) (ay_at (ax_upd hp 726 (4) (ρ 0)) 173 27) (ay_at (ax_upd hp 726 (4) (ρ 0)) 182) (ay_at (ax_upd hp 726 (4) (ρ 0)) 180 1) (ay_at (ax_upd hp 726 (4) (ρ 0)) 179 1) (ay_at (ax_upd hp 726 (4) (ρ 0)) 173 28)
      have c0 : ay_at (ax_upd hp 726 (4) (ρ 0)) 185 = ay_at hp 185 := funext (fun j => ay_upd_ne hT.1 (by decide) j)
      rw [c0]
      have c1 : ay_at (ax_upd hp 726 (4) (ρ 0)) 173 27 = ay_at hp 173 27 := ay_upd_ne hT.1 (by decide) 27
      rw [c1]
      have c2 : ay_at (ax_upd hp 726 (4) (ρ 0)) 182 = ay_at hp 182 := funext (fun j => ay_upd_ne hT.1 (by decide) j)
      rw [c2]
      have c3 : ay_at (ax_upd hp 726 (4) (ρ 0)) 180 1 = ay_at hp 180 1 := ay_upd_ne hT.1 (by decide) 1
      rw [c3]
      have c4 : ay_at (ax_upd hp 726 (4) (ρ 0)) 179 1 = some (ρ 0) := by rw [ay_upd_eq hT.1 rfl ho0, if_pos (by decide)]
      rw [c4]
      have c5 : ay_at (ax_upd hp 726 (4) (ρ 0)) 173 28 = ay_at hp 173 28 := ay_upd_ne hT.1 (by decide) 28
      rw [c5]
      show ay_pg 1 1 0 1 2 1 (ay_at hp 185) (ay_ln (ay_at hp 173 27)) (ay_at hp 182) (ay_ln (ay_at hp 180 1)) (ρ 0 / 4) (ay_ln (ay_at hp 173 28))
      rw [h0, d4]
      exact ay_pg_un p
    rcases List.mem_cons.mp hx with e | hx
    · subst e
      show ax_XF (ax_XM 0) (500 + 55) [726, 4, ρ' 0, ρ' 3] hp
      rw [h1 0 (by decide)]
      refine (ax_XF_wr (x := 55) (Nat.le_of_ble_eq_true rfl)).mpr ⟨ay_ex_upd hT.1 (ax_cellT hT (q := 179) (g := 49) ax_cg_179), ?_⟩
      show ay_M55 (ρ' 3) (ay_at (ax_upd hp 726 (4) (ρ 0)) 179 1)
      have c0 : ay_at (ax_upd hp 726 (4) (ρ 0)) 179 1 = some (ρ 0) := by rw [ay_upd_eq hT.1 rfl ho0, if_pos (by decide)]
      rw [c0]
      show 20 * (40 - ρ 0 / 4) + 13 ≤ ρ' 3 / 4
      rw [h2, h0, d4]
      omega
    cases List.mem_singleton.mp hx
    refine (ax_XF_bi (o := 30) (by decide)).mpr (Or.inr ⟨rfl, ?_⟩)
    show ρ' 3 < ρ' 2
    rw [h2, h1 2 (by decide), hK]
    omega)
  exact ⟨(fun x hx => by cases hx), _, List.mem_cons_self, ρ', h1, h2⟩
theorem axq0_ru1 : ax_RO ax_wM0 (ax_XM 0) axu0_ru1 := by
  intro ρ hp hE hT
  obtain ⟨p1, p2, p3, p4, p5, p6, p⟩ : ay_ex hp 185 ∧ ay_ex hp 173 ∧ ay_ex hp 182 ∧ ay_ex hp 180 ∧ ay_ex hp 179 ∧ ay_ex hp 173 ∧ ay_M40 1 (4) (0) (0) (4) (4) (ay_at hp 185) (ay_at hp 173 27) (ay_at hp 182) (ay_at hp 180 1) (ay_at hp 179 1) (ay_at hp 173 28) := (ax_XF_lt (x := 40) (Nat.le_of_ble_eq_true rfl)).mp (ax_gx hE (40, [4, 0, 0, 4, 4]) ax_m0)
  replace p : ay_pg 1 1 0 0 1 1 (ay_at hp 185) (ay_ln (ay_at hp 173 27)) (ay_at hp 182) (ay_ln (ay_at hp 180 1)) (ay_ln (ay_at hp 179 1)) (ay_ln (ay_at hp 173 28)) := p
  obtain ⟨d, hd, d1, d2, d3⟩ := ax_gi hE 1 2147483648 2147483653 (by decide) rfl
  obtain ⟨d4, d5⟩ := ax_bi_pos d1 (by omega)
  have d4 : ∀ z : Nat, 4 * z / 4 = z := fun z => by omega
  have fd := ay_gfj hE 702 112 7 173 28 ax_m1 (ax_vlq rfl rfl) (ax_vlj rfl rfl)
  replace fd : ay_at hp 173 28 = some (ρ 1) := fd
  have ld : ay_ln (ay_at hp 173 28) = d := by rw [fd, hd]; show 4 * d / 4 = d; omega
  rw [ld] at p
  have h0 : ρ 0 = 4 * (d + 1) := ay_s hE 7 4 3 (b := 1) (by decide) hd (ax_vl_c (v := 4) (by decide)) (by omega) (by decide)
  obtain ⟨o0, ho0⟩ := ay_some hT (q := 173) (g := 11) (n := 58) ax_cg_173 ax_cn_11 (j := 112 / 4) (Nat.le_of_ble_eq_true rfl)
  refine ⟨(fun y hy => by cases hy), _, List.mem_cons_self, ρ, fun _ _ => rfl, ax_px hE rfl (fun y hy => ?_)⟩
  cases List.mem_singleton.mp hy
  show ax_XF (ax_XM 0) (500 + 40) [702, 112, ρ 0, 4, 0, 4, 0, 4] hp
  refine (ax_XF_wr (x := 40) (Nat.le_of_ble_eq_true rfl)).mpr ⟨ay_ex_upd hT.1 (ax_cellT hT (q := 185) (g := 55) ax_cg_185), ay_ex_upd hT.1 (ax_cellT hT (q := 173) (g := 11) ax_cg_173), ay_ex_upd hT.1 (ax_cellT hT (q := 182) (g := 52) ax_cg_182), ay_ex_upd hT.1 (ax_cellT hT (q := 180) (g := 50) ax_cg_180), ay_ex_upd hT.1 (ax_cellT hT (q := 179) (g := 49) ax_cg_179), ay_ex_upd hT.1 (ax_cellT hT (q := 173) (g := 11) ax_cg_173), ?_⟩
  show ay_M40 1 (4) (0) (4) (0) (4) (ay_at (ax_upd hp 702 (112) (ρ 0)) 185) (ay_at (ax_upd hp 702 (112) (ρ 0)) 173 27) (ay_at (ax_upd hp 702 (112) (ρ 0)) 182) (ay_at (ax_upd hp 702 (112) (ρ 0)) 180 1) (ay_at (ax_upd hp 702 (112) (ρ 0)) 179 1) (ay_at (ax_upd hp 702 (112) (ρ 0)) 173 28)
  have c0 : ay_at (ax_upd hp 702 (112) (ρ 0)) 185 = ay_at hp 185 := funext (fun j => ay_upd_ne hT.1 (by decide) j)
  rw [c0]
  have c1 : ay_at (ax_upd hp 702 (112) (ρ 0)) 173 27 = ay_at hp 173 27 := by rw [ay_upd_eq hT.1 rfl ho0, if_neg (by decide)]
  rw [c1]
  have c2 : ay_at (ax_upd hp 702 (112) (ρ 0)) 182 = ay_at hp 182 := funext (fun j => ay_upd_ne hT.1 (by decide) j)
  rw [c2]
  have c3 : ay_at (ax_upd hp 702 (112) (ρ 0)) 180 1 = ay_at hp 180 1 := ay_upd_ne hT.1 (by decide) 1
  rw [c3]
  have c4 : ay_at (ax_upd hp 702 (112) (ρ 0)) 179 1 = ay_at hp 179 1 := ay_upd_ne hT.1 (by decide) 1
  rw [c4]
  have c5 : ay_at (ax_upd hp 702 (112) (ρ 0)) 173 28 = some (ρ 0) := by rw [ay_upd_eq hT.1 rfl ho0, if_pos (by decide)]
  rw [c5]
  show ay_pg 1 1 0 1 0 1 (ay_at hp 185) (ay_ln (ay_at hp 173 27)) (ay_at hp 182) (ay_ln (ay_at hp 180 1)) (ay_ln (ay_at hp 179 1)) (ρ 0 / 4)
  rw [h0, d4]
  exact ay_pg_du p
theorem axq0_ru2 : ax_RO ax_wM0 (ax_XM 0) axu0_ru2 := by
  intro ρ hp hE hT
  obtain ⟨k1, k⟩ : ay_ex hp 179 ∧ ay_M55 (ρ 0) (ay_at hp 179 1) := (ax_XF_lt (x := 55) (Nat.le_of_ble_eq_true rfl)).mp (ax_gx hE (55, [3]) ax_m0)
  replace k : 20 * (40 - ay_ln (ay_at hp 179 1)) + 13 ≤ ρ 0 / 4 := k
  obtain ⟨d0, hd0⟩ := ay_some hT (q := 173) (g := 11) (n := 58) ax_cg_173 ax_cn_11 (j := 28) (by decide)
  obtain ⟨w1, w2, w3, w4⟩ := ay_ty0 hT (q := 173) (g := 11) (lo := 2147483648) (hi := 2147483654) rfl rfl rfl hd0
  have hdp : ay_ln (ay_at hp 173 28) ≤ 6 := by
    rw [hd0]
    show d0 / 4 ≤ 6
    obtain ⟨g1, g2⟩ := ax_bi_pos w2 w3
    omega
  refine ⟨(fun y hy => by cases hy), _, List.mem_cons_self, ρ, fun _ _ => rfl, ax_px hE rfl (fun y hy => ?_)⟩
  cases List.mem_singleton.mp hy
  refine (ax_XF_lt (x := 53) (Nat.le_of_ble_eq_true rfl)).mpr ⟨(ax_cellT hT (q := 179) (g := 49) ax_cg_179), (ax_cellT hT (q := 173) (g := 11) ax_cg_173), ?_⟩
  show ay_M53 (ρ 0) (4) (ay_at hp 179 1) (ay_at hp 173 28)
  show 20 * (40 - ay_ln (ay_at hp 179 1)) + 2 * ay_ln (ay_at hp 173 28) + 0 ≤ ρ 0 / 4
  omega

theorem axq0_ru3 : ax_RO ax_wM0 (ax_XM 0) axu0_ru3 := by
  intro ρ hp hE hT
  obtain ⟨k1, k⟩ : ay_ex hp 179 ∧ ay_M55 (ρ 0) (ay_at hp 179 1) := (ax_XF_lt (x := 55) (Nat.le_of_ble_eq_true rfl)).mp (ax_gx hE (55, [3]) ax_m0)
  replace k : 20 * (40 - ay_ln (ay_at hp 179 1)) + 13 ≤ ρ 0 / 4 := k
  obtain ⟨d0, hd0⟩ := ay_some hT (q := 173) (g := 11) (n := 58) ax_cg_173 ax_cn_11 (j := 28) (by decide)
  obtain ⟨w1, w2, w3, w4⟩ := ay_ty0 hT (q := 173) (g := 11) (lo := 2147483648) (hi := 2147483654) rfl rfl rfl hd0
  have hdp : ay_ln (ay_at hp 173 28) ≤ 6 := by
    rw [hd0]
    show d0 / 4 ≤ 6
    obtain ⟨g1, g2⟩ := ax_bi_pos w2 w3
    omega
  refine ⟨(fun y hy => by cases hy), _, List.mem_cons_self, ρ, fun _ _ => rfl, ax_px hE rfl (fun y hy => ?_)⟩
  cases List.mem_singleton.mp hy
  refine (ax_XF_lt (x := 53) (Nat.le_of_ble_eq_true rfl)).mpr ⟨(ax_cellT hT (q := 179) (g := 49) ax_cg_179), (ax_cellT hT (q := 173) (g := 11) ax_cg_173), ?_⟩
  show ay_M53 (ρ 0) (0) (ay_at hp 179 1) (ay_at hp 173 28)
  show 20 * (40 - ay_ln (ay_at hp 179 1)) + 2 * ay_ln (ay_at hp 173 28) + 1 ≤ ρ 0 / 4
  omega

theorem axqg_rb10 {w : ax_W} {b : Nat} (hw : ax_WW w) : ax_RO w (ax_XM b) axu0_rb10 := by
  intro ρ hp hE hT
  obtain ⟨o, ho, o1, o2, o3⟩ := ax_gi hE 1 2147483649 2147483748 (by decide) rfl
  obtain ⟨o4, o5⟩ := ax_bi_pos o1 (by omega)
  have d4 : ∀ z : Nat, 4 * z / 4 = z := fun z => by omega
  have fo := ay_gfj hE 702 108 7 173 27 ax_m1 (ax_vlq rfl rfl) (ax_vlj rfl rfl)
  replace fo : ay_at hp 173 27 = some (ρ 1) := fo
  have lo : ay_ln (ay_at hp 173 27) = o := by rw [fo, ho]; show 4 * o / 4 = o; omega
  have hs : ρ 0 = 4 * (o - 1) := ay_d hE 3 4 7 (b := 1) (by decide) (ax_vl_c (v := 4) (by decide)) ho (by omega) (by omega)
  obtain ⟨c, hc, c1, c2, c3⟩ := ax_gi hE 2 2147484651 2147484655 (by decide) rfl
  rw [ax_bi_def] at c2 c3
  have fr := ay_gf hE 750 3 11 185 ax_m3 (ax_vlq rfl rfl)
  replace fr : ay_at hp 185 (ρ 0 / 4) = some (ρ 2) := fr
  obtain ⟨n, hn⟩ : ∃ n, o = n + 1 := ⟨o - 1, by omega⟩
  have h0 : ρ 0 = 4 * n := by omega
  rw [h0, d4, hc] at fr
  refine ⟨(fun y hy => by cases hy), _, List.mem_cons_self, ρ, fun _ _ => rfl, ax_px hE rfl (fun y hy => ?_)⟩
  cases List.mem_singleton.mp hy
  refine (ax_XF_lt (x := 57) (Nat.le_of_ble_eq_true rfl)).mpr ⟨(ax_cellT hT (q := 173) (g := 11) (ax_wc hw ax_cg_173)), (ax_cellT hT (q := 185) (g := 55) (ax_wc hw ax_cg_185)), ?_⟩
  show 1 ≤ ay_ln (ay_at hp 173 27) ∧ ay_isb (ay_at hp 185 (ay_ln (ay_at hp 173 27) - 1)) = true
  rw [lo, hn]
  refine ⟨by omega, ?_⟩
  show ay_isb (ay_at hp 185 n) = true
  rw [fr]
  exact ay_isb_c (by omega) (by omega)
theorem axq0_rb10 : ax_RO ax_wM0 (ax_XM 0) axu0_rb10 := axqg_rb10 ax_WW0
theorem axq0_rb11 : ax_RO ax_wM0 (ax_XM 0) axu0_rb11 := by
  intro ρ hp hE hT
  obtain ⟨p1, p2, p3, p4, p5, p6, p⟩ : ay_ex hp 185 ∧ ay_ex hp 173 ∧ ay_ex hp 182 ∧ ay_ex hp 180 ∧ ay_ex hp 179 ∧ ay_ex hp 173 ∧ ay_M40 1 (0) (0) (4) (0) (0) (ay_at hp 185) (ay_at hp 173 27) (ay_at hp 182) (ay_at hp 180 1) (ay_at hp 179 1) (ay_at hp 173 28) := (ax_XF_lt (x := 40) (Nat.le_of_ble_eq_true rfl)).mp (ax_gx hE (40, [0, 0, 4, 0, 0]) ax_m0)
  replace p : ay_pg 1 0 0 1 0 0 (ay_at hp 185) (ay_ln (ay_at hp 173 27)) (ay_at hp 182) (ay_ln (ay_at hp 180 1)) (ay_ln (ay_at hp 179 1)) (ay_ln (ay_at hp 173 28)) := p
  obtain ⟨o, ho, o1, o2, o3⟩ := ax_gi hE 1 2147483649 2147483748 (by decide) rfl
  obtain ⟨o4, o5⟩ := ax_bi_pos o1 (by omega)
  have d4 : ∀ z : Nat, 4 * z / 4 = z := fun z => by omega
  have fo := ay_gfj hE 702 108 7 173 27 ax_m1 (ax_vlq rfl rfl) (ax_vlj rfl rfl)
  replace fo : ay_at hp 173 27 = some (ρ 1) := fo
  have lo : ay_ln (ay_at hp 173 27) = o := by rw [fo, ho]; show 4 * o / 4 = o; omega
  have hs : ρ 0 = 4 * (o - 1) := ay_d hE 3 4 7 (b := 1) (by decide) (ax_vl_c (v := 4) (by decide)) ho (by omega) (by omega)
  obtain ⟨c, hc, c1, c2, c3⟩ := ax_gi hE 2 0 2147484650 (by decide) rfl
  rw [ax_bi_def] at c2 c3
  have fr := ay_gf hE 750 3 11 185 ax_m3 (ax_vlq rfl rfl)
  replace fr : ay_at hp 185 (ρ 0 / 4) = some (ρ 2) := fr
  obtain ⟨n, hn⟩ : ∃ n, o = n + 1 := ⟨o - 1, by omega⟩
  have h0 : ρ 0 = 4 * n := by omega
  rw [h0, d4, hc] at fr
  rw [lo, hn] at p
  have ht := ay_pg_top p fr
  exfalso
  omega
theorem axq0_rb12 : ax_RO ax_wM0 (ax_XM 0) axu0_rb12 := by
  intro ρ hp hE hT
  obtain ⟨p1, p2, p3, p4, p5, p6, p⟩ : ay_ex hp 185 ∧ ay_ex hp 173 ∧ ay_ex hp 182 ∧ ay_ex hp 180 ∧ ay_ex hp 179 ∧ ay_ex hp 173 ∧ ay_M40 1 (0) (0) (4) (0) (0) (ay_at hp 185) (ay_at hp 173 27) (ay_at hp 182) (ay_at hp 180 1) (ay_at hp 179 1) (ay_at hp 173 28) := (ax_XF_lt (x := 40) (Nat.le_of_ble_eq_true rfl)).mp (ax_gx hE (40, [0, 0, 4, 0, 0]) ax_m0)
  replace p : ay_pg 1 0 0 1 0 0 (ay_at hp 185) (ay_ln (ay_at hp 173 27)) (ay_at hp 182) (ay_ln (ay_at hp 180 1)) (ay_ln (ay_at hp 179 1)) (ay_ln (ay_at hp 173 28)) := p
  obtain ⟨o, ho, o1, o2, o3⟩ := ax_gi hE 1 2147483649 2147483748 (by decide) rfl
  obtain ⟨o4, o5⟩ := ax_bi_pos o1 (by omega)
  have d4 : ∀ z : Nat, 4 * z / 4 = z := fun z => by omega
  have fo := ay_gfj hE 702 108 7 173 27 ax_m1 (ax_vlq rfl rfl) (ax_vlj rfl rfl)
  replace fo : ay_at hp 173 27 = some (ρ 1) := fo
  have lo : ay_ln (ay_at hp 173 27) = o := by rw [fo, ho]; show 4 * o / 4 = o; omega
  have hs : ρ 0 = 4 * (o - 1) := ay_d hE 3 4 7 (b := 1) (by decide) (ax_vl_c (v := 4) (by decide)) ho (by omega) (by omega)
  obtain ⟨c, hc, c1, c2, c3⟩ := ax_gi hE 2 2147484658 4294967295 (by decide) rfl
  rw [ax_bi_def] at c2 c3
  have fr := ay_gf hE 750 3 11 185 ax_m3 (ax_vlq rfl rfl)
  replace fr : ay_at hp 185 (ρ 0 / 4) = some (ρ 2) := fr
  obtain ⟨n, hn⟩ : ∃ n, o = n + 1 := ⟨o - 1, by omega⟩
  have h0 : ρ 0 = 4 * n := by omega
  rw [h0, d4, hc] at fr
  rw [lo, hn] at p
  have ht := ay_pg_top p fr
  exfalso
  omega
theorem axq0_rb2 : ax_RO ax_wM0 (ax_XM 0) axu0_rb2 := by
  intro ρ hp hE hT
  obtain ⟨k1, k2, k⟩ : ay_ex hp 179 ∧ ay_ex hp 173 ∧ ay_M53 (ρ 0) (0) (ay_at hp 179 1) (ay_at hp 173 28) := (ax_XF_lt (x := 53) (Nat.le_of_ble_eq_true rfl)).mp (ax_gx hE (53, [3, 0]) ax_m0)
  replace k : 20 * (40 - ay_ln (ay_at hp 179 1)) + 2 * ay_ln (ay_at hp 173 28) + 1 ≤ ρ 0 / 4 := k
  obtain ⟨K, hK⟩ := ax_gj hE 0 (by decide) rfl
  obtain ⟨z, hz⟩ : ∃ z, ay_ln (ay_at hp 179 1) = z := ⟨_, rfl⟩
  obtain ⟨y, hy⟩ : ∃ z, ay_ln (ay_at hp 173 28) = z := ⟨_, rfl⟩
  rw [hz, hy] at k
  obtain ⟨ρ', h1, h2⟩ := ax_pn (K := 20 * (40 - z) + 2 * y) (xf := [(53, [7, 4]), (1030, [7, 3])]) hE (by decide) (fun ρ' h1 h2 x hx => by
    rcases List.mem_cons.mp hx with e | hx
    · subst e
      refine (ax_XF_lt (x := 53) (Nat.le_of_ble_eq_true rfl)).mpr ⟨(ax_cellT hT (q := 179) (g := 49) ax_cg_179), (ax_cellT hT (q := 173) (g := 11) ax_cg_173), ?_⟩
      show ay_M53 (ρ' 1) (4) (ay_at hp 179 1) (ay_at hp 173 28)
      show 20 * (40 - ay_ln (ay_at hp 179 1)) + 2 * ay_ln (ay_at hp 173 28) + 0 ≤ ρ' 1 / 4
      rw [h2, hz, hy]
      omega
    cases List.mem_singleton.mp hx
    refine (ax_XF_bi (o := 30) (by decide)).mpr (Or.inr ⟨rfl, ?_⟩)
    show ρ' 1 < ρ' 0
    rw [h2, h1 0 (by decide), hK]
    omega)
  exact ⟨(fun x hx => by cases hx), _, List.mem_cons_self, ρ', h1, h2⟩
theorem axq0_rr0 : ax_RO ax_wM0 (ax_XM 0) axu0_rr0 := by
  intro ρ hp hE hT
  obtain ⟨p1, p2, p⟩ : ay_ex hp 180 ∧ ay_ex hp 179 ∧ ay_M42 (ay_at hp 180 1) (ay_at hp 179 1) := (ax_XF_lt (x := 42) (Nat.le_of_ble_eq_true rfl)).mp (ax_gx hE (42, []) ax_m0)
  have fo := ay_gfj hE 702 108 0 173 27 ax_m1 (ax_vlq rfl rfl) (ax_vlj rfl rfl)
  replace fo : ay_at hp 173 27 = some (0) := fo
  have lo : ay_ln (ay_at hp 173 27) = 0 := by rw [fo]; rfl
  obtain ⟨o0, ho0⟩ := ay_some hT (q := 173) (g := 11) (n := 58) ax_cg_173 ax_cn_11 (j := 112 / 4) (Nat.le_of_ble_eq_true rfl)
  refine ⟨(fun y hy => by cases hy), _, List.mem_cons_self, ρ, fun _ _ => rfl, ax_px hE rfl (fun y hy => ?_)⟩
  cases List.mem_singleton.mp hy
  show ax_XF (ax_XM 0) (500 + 40) [702, 112, 0, 4, 0, 4, 0, 4] hp
  refine (ax_XF_wr (x := 40) (Nat.le_of_ble_eq_true rfl)).mpr ⟨ay_ex_upd hT.1 (ax_cellT hT (q := 185) (g := 55) ax_cg_185), ay_ex_upd hT.1 (ax_cellT hT (q := 173) (g := 11) ax_cg_173), ay_ex_upd hT.1 (ax_cellT hT (q := 182) (g := 52) ax_cg_182), ay_ex_upd hT.1 (ax_cellT hT (q := 180) (g := 50) ax_cg_180), ay_ex_upd hT.1 (ax_cellT hT (q := 179) (g := 49) ax_cg_179), ay_ex_upd hT.1 (ax_cellT hT (q := 173) (g := 11) ax_cg_173), ?_⟩
  show ay_M40 1 (4) (0) (4) (0) (4) (ay_at (ax_upd hp 702 (112) (0)) 185) (ay_at (ax_upd hp 702 (112) (0)) 173 27) (ay_at (ax_upd hp 702 (112) (0)) 182) (ay_at (ax_upd hp 702 (112) (0)) 180 1) (ay_at (ax_upd hp 702 (112) (0)) 179 1) (ay_at (ax_upd hp 702 (112) (0)) 173 28)
  have c0 : ay_at (ax_upd hp 702 (112) (0)) 185 = ay_at hp 185 := funext (fun j => ay_upd_ne hT.1 (by decide) j)
  rw [c0]
  have c1 : ay_at (ax_upd hp 702 (112) (0)) 173 27 = ay_at hp 173 27 := by rw [ay_upd_eq hT.1 rfl ho0, if_neg (by decide)]
  rw [c1]
  have c2 : ay_at (ax_upd hp 702 (112) (0)) 182 = ay_at hp 182 := funext (fun j => ay_upd_ne hT.1 (by decide) j)
  rw [c2]
  have c3 : ay_at (ax_upd hp 702 (112) (0)) 180 1 = ay_at hp 180 1 := ay_upd_ne hT.1 (by decide) 1
  rw [c3]
  have c4 : ay_at (ax_upd hp 702 (112) (0)) 179 1 = ay_at hp 179 1 := ay_upd_ne hT.1 (by decide) 1
  rw [c4]
  have c5 : ay_at (ax_upd hp 702 (112) (0)) 173 28 = some (0) := by rw [ay_upd_eq hT.1 rfl ho0, if_pos (by decide)]
  rw [c5]
  show ay_pg 1 1 0 1 0 1 (ay_at hp 185) (ay_ln (ay_at hp 173 27)) (ay_at hp 182) (ay_ln (ay_at hp 180 1)) (ay_ln (ay_at hp 179 1)) 0
  rw [lo, p.1, p.2]
  exact ay_pg_0
theorem axq0_rr1 : ax_RO ax_wM0 (ax_XM 0) axu0_rr1 := by
  intro ρ hp hE hT
  obtain ⟨z, hz⟩ : ∃ z, ay_ln (ay_at hp 179 1) = z := ⟨_, rfl⟩
  obtain ⟨y, hy⟩ : ∃ z, ay_ln (ay_at hp 173 28) = z := ⟨_, rfl⟩
  obtain ⟨ρ', h1, h2⟩ := ax_pn (K := 20 * (40 - z) + 2 * y) (xf := [(53, [3, 4])]) hE (by decide) (fun ρ' h1 h2 x hx => by
    cases List.mem_singleton.mp hx
    refine (ax_XF_lt (x := 53) (Nat.le_of_ble_eq_true rfl)).mpr ⟨(ax_cellT hT (q := 179) (g := 49) ax_cg_179), (ax_cellT hT (q := 173) (g := 11) ax_cg_173), ?_⟩
    show ay_M53 (ρ' 0) (4) (ay_at hp 179 1) (ay_at hp 173 28)
    show 20 * (40 - ay_ln (ay_at hp 179 1)) + 2 * ay_ln (ay_at hp 173 28) + 0 ≤ ρ' 0 / 4
    rw [h2, hz, hy]
    omega)
  exact ⟨(fun x hx => by cases hx), _, List.mem_cons_self, ρ', h1, h2⟩
theorem axq0_rr2 : ax_RO ax_wM0 (ax_XM 0) axu0_rr2 := by
  intro ρ hp hE hT
  obtain ⟨p1, p2, p3, p4, p5, p6, p⟩ : ay_ex hp 185 ∧ ay_ex hp 173 ∧ ay_ex hp 182 ∧ ay_ex hp 180 ∧ ay_ex hp 179 ∧ ay_ex hp 173 ∧ ay_M40 1 (0) (0) (4) (0) (0) (ay_at hp 185) (ay_at hp 173 27) (ay_at hp 182) (ay_at hp 180 1) (ay_at hp 179 1) (ay_at hp 173 28) := (ax_XF_lt (x := 40) (Nat.le_of_ble_eq_true rfl)).mp (ax_gx hE (40, [0, 0, 4, 0, 0]) ax_m0)
  replace p : ay_pg 1 0 0 1 0 0 (ay_at hp 185) (ay_ln (ay_at hp 173 27)) (ay_at hp 182) (ay_ln (ay_at hp 180 1)) (ay_ln (ay_at hp 179 1)) (ay_ln (ay_at hp 173 28)) := p
  obtain ⟨o, ho, o1, o2, o3⟩ := ax_gi hE 0 2147483649 2147483748 (by decide) rfl
  obtain ⟨o4, o5⟩ := ax_bi_pos o1 (by omega)
  obtain ⟨d, hd, d1, d2, d3⟩ := ax_gi hE 1 2147483648 2147483648 (by decide) rfl
  obtain ⟨d4, d5⟩ := ax_bi_pos d1 (by omega)
  have fo := ay_gfj hE 702 108 3 173 27 ax_m1 (ax_vlq rfl rfl) (ax_vlj rfl rfl)
  replace fo : ay_at hp 173 27 = some (ρ 0) := fo
  have lo : ay_ln (ay_at hp 173 27) = o := by rw [fo, ho]; show 4 * o / 4 = o; omega
  have fd := ay_gfj hE 702 112 7 173 28 ax_m2 (ax_vlq rfl rfl) (ax_vlj rfl rfl)
  replace fd : ay_at hp 173 28 = some (ρ 1) := fd
  have ld : ay_ln (ay_at hp 173 28) = d := by rw [fd, hd]; show 4 * d / 4 = d; omega
  obtain ⟨n, hn⟩ : ∃ n, o = n + 1 := ⟨o - 1, by omega⟩
  rw [lo, hn, ld, show d = 0 by omega] at p
  refine ⟨(fun y hy => by cases hy), _, List.mem_cons_self, ρ, fun _ _ => rfl, ax_px hE rfl (fun y hy => ?_)⟩
  cases List.mem_singleton.mp hy
  refine (ax_XF_lt (x := 57) (Nat.le_of_ble_eq_true rfl)).mpr ⟨(ax_cellT hT (q := 173) (g := 11) ax_cg_173), (ax_cellT hT (q := 185) (g := 55) ax_cg_185), ?_⟩
  show 1 ≤ ay_ln (ay_at hp 173 27) ∧ ay_isb (ay_at hp 185 (ay_ln (ay_at hp 173 27) - 1)) = true
  rw [lo, hn]
  refine ⟨by omega, ?_⟩
  show ay_isb (ay_at hp 185 n) = true
  exact ay_pg_flat p

theorem axq0_rr3 : ax_RO ax_wM0 (ax_XM 0) axu0_rr3 := by
  intro ρ hp hE hT
  obtain ⟨p1, p2, p3, p4, p5, p6, p⟩ : ay_ex hp 185 ∧ ay_ex hp 173 ∧ ay_ex hp 182 ∧ ay_ex hp 180 ∧ ay_ex hp 179 ∧ ay_ex hp 173 ∧ ay_M40 1 (0) (0) (4) (0) (0) (ay_at hp 185) (ay_at hp 173 27) (ay_at hp 182) (ay_at hp 180 1) (ay_at hp 179 1) (ay_at hp 173 28) := (ax_XF_lt (x := 40) (Nat.le_of_ble_eq_true rfl)).mp (ax_gx hE (40, [0, 0, 4, 0, 0]) ax_m0)
  replace p : ay_pg 1 0 0 1 0 0 (ay_at hp 185) (ay_ln (ay_at hp 173 27)) (ay_at hp 182) (ay_ln (ay_at hp 180 1)) (ay_ln (ay_at hp 179 1)) (ay_ln (ay_at hp 173 28)) := p
  obtain ⟨o, ho, o1, o2, o3⟩ := ax_gi hE 0 2147483648 2147483648 (by decide) rfl
  obtain ⟨o4, o5⟩ := ax_bi_pos o1 (by omega)
  obtain ⟨h, hh, h1, h2, h3⟩ := ax_gi hE 1 2147483649 2147483649 (by decide) rfl
  obtain ⟨h4, h5⟩ := ax_bi_pos h1 (by omega)
  have fh := ay_gfj hE 702 96 7 173 24 ax_m2 (ax_vlq rfl rfl) (ax_vlj rfl rfl)
  replace fh : ay_at hp 173 24 = some (ρ 1) := fh
  have fo := ay_gfj hE 702 108 3 173 27 ax_m1 (ax_vlq rfl rfl) (ax_vlj rfl rfl)
  replace fo : ay_at hp 173 27 = some (ρ 0) := fo
  have lo : ay_ln (ay_at hp 173 27) = o := by rw [fo, ho]; show 4 * o / 4 = o; omega
  rw [lo, show o = 0 by omega] at p
  refine ⟨(fun y hy => by cases hy), _, List.mem_cons_self, ρ, fun _ _ => rfl, ax_px hE rfl (fun y hy => ?_)⟩
  cases List.mem_singleton.mp hy
  refine (ax_XF_lt (x := 52) (Nat.le_of_ble_eq_true rfl)).mpr ⟨(ax_cellT hT (q := 182) (g := 52) ax_cg_182), (ax_cellT hT (q := 180) (g := 50) ax_cg_180), (ax_cellT hT (q := 179) (g := 49) ax_cg_179), (ax_cellT hT (q := 173) (g := 11) ax_cg_173), (ax_cellT hT (q := 173) (g := 11) ax_cg_173), ?_⟩
  refine ⟨fun _ => ay_pg_end p, fun e => ?_⟩
  replace e : ay_at hp 173 24 = some 0 := e
  rw [fh] at e
  have e := Option.some.inj e
  omega

theorem axqg_rr4 {w : ax_W} {b : Nat} (hw : ax_WW w) : ax_RO w (ax_XM b) axu0_rr4 := by
  intro ρ hp hE hT
  obtain ⟨z, hz, z1, z2, z3⟩ := ax_gi hE 0 2147483649 2147483652 (by decide) rfl
  obtain ⟨z4, z5⟩ := ax_bi_pos z1 (by omega)
  obtain ⟨h, hh, h1, h2, h3⟩ := ax_gi hE 1 2147483649 2147483649 (by decide) rfl
  obtain ⟨h4, h5⟩ := ax_bi_pos h1 (by omega)
  have fh := ay_gfj hE 702 96 7 173 24 ax_m1 (ax_vlq rfl rfl) (ax_vlj rfl rfl)
  replace fh : ay_at hp 173 24 = some (ρ 1) := fh
  have fz := ay_gfj hE 702 72 3 173 18 ax_m0 (ax_vlq rfl rfl) (ax_vlj rfl rfl)
  replace fz : ay_at hp 173 18 = some (ρ 0) := fz
  refine ⟨(fun y hy => by cases hy), _, List.mem_cons_self, ρ, fun _ _ => rfl, ax_px hE rfl (fun y hy => ?_)⟩
  cases List.mem_singleton.mp hy
  refine (ax_XF_lt (x := 52) (Nat.le_of_ble_eq_true rfl)).mpr ⟨(ax_cellT hT (q := 182) (g := 52) (ax_wc hw ax_cg_182)), (ax_cellT hT (q := 180) (g := 50) (ax_wc hw ax_cg_180)), (ax_cellT hT (q := 179) (g := 49) (ax_wc hw ax_cg_179)), (ax_cellT hT (q := 173) (g := 11) (ax_wc hw ax_cg_173)), (ax_cellT hT (q := 173) (g := 11) (ax_wc hw ax_cg_173)), ?_⟩
  refine ⟨fun e => ?_, fun e => ?_⟩
  · replace e : ay_at hp 173 18 = some 0 := e
    rw [fz] at e
    have e := Option.some.inj e
    omega
  · replace e : ay_at hp 173 24 = some 0 := e
    rw [fh] at e
    have e := Option.some.inj e
    omega
theorem axq0_rr4 : ax_RO ax_wM0 (ax_XM 0) axu0_rr4 := axqg_rr4 ax_WW0
theorem axq0_rr8 : ax_RO ax_wM0 (ax_XM 0) axu0_rr8 := by
  intro ρ hp hE hT
  obtain ⟨p1, p2, p3, p4, p5, p6, p⟩ : ay_ex hp 185 ∧ ay_ex hp 173 ∧ ay_ex hp 182 ∧ ay_ex hp 180 ∧ ay_ex hp 179 ∧ ay_ex hp 173 ∧ ay_M40 1 (ρ 0) (0) (4) (0) (ρ 0) (ay_at hp 185) (ay_at hp 173 27) (ay_at hp 182) (ay_at hp 180 1) (ay_at hp 179 1) (ay_at hp 173 28) := (ax_XF_lt (x := 40) (Nat.le_of_ble_eq_true rfl)).mp (ax_gx hE (40, [3, 0, 4, 0, 3]) ax_m0)
  obtain ⟨u, hu, u1, u2, u3⟩ := ax_gi hE 0 2147483649 2147483649 (by decide) rfl
  obtain ⟨u4, u5⟩ := ax_bi_pos u1 (by omega)
  have hu0 : ρ 0 = 4 := by omega
  rw [hu0] at p
  refine ⟨(fun y hy => by cases hy), _, List.mem_cons_self, ρ, fun _ _ => rfl, ax_px hE rfl (fun y hy => ?_)⟩
  cases List.mem_singleton.mp hy
  refine (ax_XF_lt (x := 40) (Nat.le_of_ble_eq_true rfl)).mpr ⟨(ax_cellT hT (q := 185) (g := 55) ax_cg_185), (ax_cellT hT (q := 173) (g := 11) ax_cg_173), (ax_cellT hT (q := 182) (g := 52) ax_cg_182), (ax_cellT hT (q := 180) (g := 50) ax_cg_180), (ax_cellT hT (q := 179) (g := 49) ax_cg_179), (ax_cellT hT (q := 173) (g := 11) ax_cg_173), ?_⟩
  show ay_M40 1 (4) (0) (4) (0) (4) (ay_at hp 185) (ay_at hp 173 27) (ay_at hp 182) (ay_at hp 180 1) (ay_at hp 179 1) (ay_at hp 173 28)
  exact p

theorem axq0_rr9 : ax_RO ax_wM0 (ax_XM 0) axu0_rr9 := by
  intro ρ hp hE hT
  obtain ⟨p1, p2, p⟩ : ay_ex hp 179 ∧ ay_ex hp 173 ∧ ay_M53 (ρ 1) (ρ 0) (ay_at hp 179 1) (ay_at hp 173 28) := (ax_XF_lt (x := 53) (Nat.le_of_ble_eq_true rfl)).mp (ax_gx hE (53, [7, 3]) ax_m0)
  obtain ⟨u, hu, u1, u2, u3⟩ := ax_gi hE 0 2147483649 2147483649 (by decide) rfl
  obtain ⟨u4, u5⟩ := ax_bi_pos u1 (by omega)
  have hu0 : ρ 0 = 4 := by omega
  rw [hu0] at p
  refine ⟨(fun y hy => by cases hy), _, List.mem_cons_self, ρ, fun _ _ => rfl, ax_px hE rfl (fun y hy => ?_)⟩
  cases List.mem_singleton.mp hy
  refine (ax_XF_lt (x := 53) (Nat.le_of_ble_eq_true rfl)).mpr ⟨(ax_cellT hT (q := 179) (g := 49) ax_cg_179), (ax_cellT hT (q := 173) (g := 11) ax_cg_173), ?_⟩
  show ay_M53 (ρ 1) (4) (ay_at hp 179 1) (ay_at hp 173 28)
  exact p

theorem axq0_rra : ax_RO ax_wM0 (ax_XM 0) axu0_rra := by
  intro ρ hp hE hT
  obtain ⟨p1, p2, p3, p4, p5, p6, p⟩ : ay_ex hp 185 ∧ ay_ex hp 173 ∧ ay_ex hp 182 ∧ ay_ex hp 180 ∧ ay_ex hp 179 ∧ ay_ex hp 173 ∧ ay_M40 1 (ρ 0) (0) (4) (0) (ρ 0) (ay_at hp 185) (ay_at hp 173 27) (ay_at hp 182) (ay_at hp 180 1) (ay_at hp 179 1) (ay_at hp 173 28) := (ax_XF_lt (x := 40) (Nat.le_of_ble_eq_true rfl)).mp (ax_gx hE (40, [3, 0, 4, 0, 3]) ax_m0)
  obtain ⟨u, hu, u1, u2, u3⟩ := ax_gi hE 0 2147483648 2147483648 (by decide) rfl
  obtain ⟨u4, u5⟩ := ax_bi_pos u1 (by omega)
  have hu0 : ρ 0 = 0 := by omega
  rw [hu0] at p
  refine ⟨(fun y hy => by cases hy), _, List.mem_cons_self, ρ, fun _ _ => rfl, ax_px hE rfl (fun y hy => ?_)⟩
  cases List.mem_singleton.mp hy
  refine (ax_XF_lt (x := 40) (Nat.le_of_ble_eq_true rfl)).mpr ⟨(ax_cellT hT (q := 185) (g := 55) ax_cg_185), (ax_cellT hT (q := 173) (g := 11) ax_cg_173), (ax_cellT hT (q := 182) (g := 52) ax_cg_182), (ax_cellT hT (q := 180) (g := 50) ax_cg_180), (ax_cellT hT (q := 179) (g := 49) ax_cg_179), (ax_cellT hT (q := 173) (g := 11) ax_cg_173), ?_⟩
  show ay_M40 1 (0) (0) (4) (0) (0) (ay_at hp 185) (ay_at hp 173 27) (ay_at hp 182) (ay_at hp 180 1) (ay_at hp 179 1) (ay_at hp 173 28)
  exact p

theorem axq0_rrb : ax_RO ax_wM0 (ax_XM 0) axu0_rrb := by
  intro ρ hp hE hT
  obtain ⟨p1, p2, p⟩ : ay_ex hp 179 ∧ ay_ex hp 173 ∧ ay_M53 (ρ 1) (ρ 0) (ay_at hp 179 1) (ay_at hp 173 28) := (ax_XF_lt (x := 53) (Nat.le_of_ble_eq_true rfl)).mp (ax_gx hE (53, [7, 3]) ax_m0)
  obtain ⟨u, hu, u1, u2, u3⟩ := ax_gi hE 0 2147483648 2147483648 (by decide) rfl
  obtain ⟨u4, u5⟩ := ax_bi_pos u1 (by omega)
  have hu0 : ρ 0 = 0 := by omega
  rw [hu0] at p
  refine ⟨(fun y hy => by cases hy), _, List.mem_cons_self, ρ, fun _ _ => rfl, ax_px hE rfl (fun y hy => ?_)⟩
  cases List.mem_singleton.mp hy
  refine (ax_XF_lt (x := 53) (Nat.le_of_ble_eq_true rfl)).mpr ⟨(ax_cellT hT (q := 179) (g := 49) ax_cg_179), (ax_cellT hT (q := 173) (g := 11) ax_cg_173), ?_⟩
  show ay_M53 (ρ 1) (0) (ay_at hp 179 1) (ay_at hp 173 28)
  exact p

theorem axq0_rrc : ax_RO ax_wM0 (ax_XM 0) axu0_rrc := by
  intro ρ hp hE hT
  obtain ⟨p1, p2, p3, p4, p5, p6, p⟩ : ay_ex hp 185 ∧ ay_ex hp 173 ∧ ay_ex hp 182 ∧ ay_ex hp 180 ∧ ay_ex hp 179 ∧ ay_ex hp 173 ∧ ay_M40 1 (0) (0) (4) (0) (0) (ay_at hp 185) (ay_at hp 173 27) (ay_at hp 182) (ay_at hp 180 1) (ay_at hp 179 1) (ay_at hp 173 28) := (ax_XF_lt (x := 40) (Nat.le_of_ble_eq_true rfl)).mp (ax_gx hE (40, [0, 0, 4, 0, 0]) ax_m0)
  obtain ⟨u, hu, u1, u2, u3⟩ := ax_gi hE 0 2147483648 2147483648 (by decide) rfl
  obtain ⟨u4, u5⟩ := ax_bi_pos u1 (by omega)
  have hu0 : ρ 0 = 0 := by omega
  refine ⟨(fun y hy => by cases hy), _, List.mem_cons_self, ρ, fun _ _ => rfl, ax_px hE rfl (fun y hy => ?_)⟩
  cases List.mem_singleton.mp hy
  refine (ax_XF_lt (x := 40) (Nat.le_of_ble_eq_true rfl)).mpr ⟨(ax_cellT hT (q := 185) (g := 55) ax_cg_185), (ax_cellT hT (q := 173) (g := 11) ax_cg_173), (ax_cellT hT (q := 182) (g := 52) ax_cg_182), (ax_cellT hT (q := 180) (g := 50) ax_cg_180), (ax_cellT hT (q := 179) (g := 49) ax_cg_179), (ax_cellT hT (q := 173) (g := 11) ax_cg_173), ?_⟩
  show ay_M40 1 (ρ 0) (0) (4) (0) (ρ 0) (ay_at hp 185) (ay_at hp 173 27) (ay_at hp 182) (ay_at hp 180 1) (ay_at hp 179 1) (ay_at hp 173 28)
  rw [hu0]
  exact p

theorem axq0_rrd : ax_RO ax_wM0 (ax_XM 0) axu0_rrd := by
  intro ρ hp hE hT
  obtain ⟨p1, p2, p⟩ : ay_ex hp 179 ∧ ay_ex hp 173 ∧ ay_M53 (ρ 1) (0) (ay_at hp 179 1) (ay_at hp 173 28) := (ax_XF_lt (x := 53) (Nat.le_of_ble_eq_true rfl)).mp (ax_gx hE (53, [7, 0]) ax_m0)
  obtain ⟨u, hu, u1, u2, u3⟩ := ax_gi hE 0 2147483648 2147483648 (by decide) rfl
  obtain ⟨u4, u5⟩ := ax_bi_pos u1 (by omega)
  have hu0 : ρ 0 = 0 := by omega
  refine ⟨(fun y hy => by cases hy), _, List.mem_cons_self, ρ, fun _ _ => rfl, ax_px hE rfl (fun y hy => ?_)⟩
  cases List.mem_singleton.mp hy
  refine (ax_XF_lt (x := 53) (Nat.le_of_ble_eq_true rfl)).mpr ⟨(ax_cellT hT (q := 179) (g := 49) ax_cg_179), (ax_cellT hT (q := 173) (g := 11) ax_cg_173), ?_⟩
  show ay_M53 (ρ 1) (ρ 0) (ay_at hp 179 1) (ay_at hp 173 28)
  rw [hu0]
  exact p

theorem axq0_rl0 : ax_RO ax_wM0 (ax_XM 0) axu0_rl0 := by
  intro ρ hp hE hT
  obtain ⟨x, hx, x1, x2, x3⟩ := ax_gi hE 0 2147483648 2147493647 (by decide) rfl
  obtain ⟨x4, x5⟩ := ax_bi_pos x1 (by omega)
  have d4 : ∀ z : Nat, 4 * z / 4 = z := fun z => by omega
  obtain ⟨z, hz, z1, z2, z3⟩ := ax_gi hE 2 2147483648 2147483648 (by decide) rfl
  obtain ⟨z4, z5⟩ := ax_bi_pos z1 (by omega)
  have fz := ay_gfj hE 702 72 11 173 18 ax_m0 (ax_vlq rfl rfl) (ax_vlj rfl rfl)
  replace fz : ay_at hp 173 18 = some (ρ 2) := fz
  obtain ⟨p1, p2, p3, p4, p5, p⟩ : ay_ex hp 175 ∧ ay_ex hp 177 ∧ ay_ex hp 176 ∧ ay_ex hp 181 ∧ ay_ex hp 173 ∧ ay_M50 1 (ay_at hp 175 1) (ay_at hp 177 1) (ay_at hp 176 1) (ay_at hp 181) (ay_at hp 173 18) := (ax_XF_lt (x := 50) (Nat.le_of_ble_eq_true rfl)).mp (ax_gx hE (50, []) ax_m1)
  have fn := ay_gfj hE 710 4 15 175 1 ax_m2 (ax_vlq rfl rfl) (ax_vlj rfl rfl)
  replace fn : ay_at hp 175 1 = some (ρ 3) := fn
  obtain ⟨pn, pr, pe⟩ := p (by rw [fz, hz, show z = 0 by omega])
  obtain ⟨a, b, c, ha, hb, hc, la, lb, lc, hs⟩ := ax_gs hE 19 4 15 (by decide)
  replace ha : ρ 4 = 4 * a := ha
  replace hc : ρ 3 = 4 * c := hc
  have hb' : b = 1 := by have : (4 : Nat) = 4 * b := hb; omega
  have ln : ay_ln (ay_at hp 175 1) = c := by rw [fn, hc]; show 4 * c / 4 = c; omega
  have hle : rx_bi (ρ 0 / 4) ≤ rx_bi (ρ 4 / 4) := ax_gc hE 5 3 19 (by decide) (by decide)
  rw [hx, ha, d4, d4] at hle
  rw [ln] at pn
  rw [hb', ax_bi_nat (c := c) (by omega), ax_bi_nat (c := 1) (by decide)] at hs
  have hxc : x < c := by omega
  obtain ⟨l, hl, l1, l2, l3⟩ := ax_gi hE 5 2147483648 2147483667 (by decide) rfl
  obtain ⟨l4, l5⟩ := ax_bi_pos l1 (by omega)
  have fl := ay_gfj hE 714 4 23 176 1 ax_m5 (ax_vlq rfl rfl) (ax_vlj rfl rfl)
  replace fl : ay_at hp 176 1 = some (ρ 5) := fl
  have ll : ay_ln (ay_at hp 176 1) = l := by rw [fl, hl]; show 4 * l / 4 = l; omega
  have hj2 : ρ 1 = 4 * (40 + 2 * l + 0) := ay_ix hE 160 23 27 31 0 7 (k := 40) (e := 0) (ax_vl_c (v := 160) (by decide)) (by decide) hl (by omega) (ax_vl_c (v := 0) (by decide)) (by decide) (by decide) (by decide) (by decide)
  obtain ⟨o0, ho0⟩ := ay_some hT (q := 181) (g := 51) (n := 80) ax_cg_181 ax_cn_51 (j := ρ 1 / 4) (by omega)
  refine ⟨fun y hy => ?_, _, List.mem_cons_self, ρ, fun _ _ => rfl, ax_px hE rfl (fun y hy => ?_)⟩
  · cases List.mem_singleton.mp hy
    show 2147483648 ≤ rx_bi (ρ 0 / 4) ∧ rx_bi (ρ 0 / 4) ≤ 2147483657
    rw [hx, d4, ax_bi_nat (by omega)]
    omega
  rcases List.mem_cons.mp hy with e | hy
  · subst e
    show ax_XF (ax_XM 0) (500 + 50) [734, ρ 1, ρ 0] hp
    refine (ax_XF_wr (x := 50) (Nat.le_of_ble_eq_true rfl)).mpr ⟨ay_ex_upd hT.1 (ax_cellT hT (q := 175) (g := 45) ax_cg_175), ay_ex_upd hT.1 (ax_cellT hT (q := 177) (g := 47) ax_cg_177), ay_ex_upd hT.1 (ax_cellT hT (q := 176) (g := 46) ax_cg_176), ay_ex_upd hT.1 (ax_cellT hT (q := 181) (g := 51) ax_cg_181), ay_ex_upd hT.1 (ax_cellT hT (q := 173) (g := 11) ax_cg_173), ?_⟩
    show ay_M50 1 (ay_at (ax_upd hp 734 (ρ 1) (ρ 0)) 175 1) (ay_at (ax_upd hp 734 (ρ 1) (ρ 0)) 177 1) (ay_at (ax_upd hp 734 (ρ 1) (ρ 0)) 176 1) (ay_at (ax_upd hp 734 (ρ 1) (ρ 0)) 181) (ay_at (ax_upd hp 734 (ρ 1) (ρ 0)) 173 18)
    have c0 : ay_at (ax_upd hp 734 (ρ 1) (ρ 0)) 175 1 = ay_at hp 175 1 := ay_upd_ne hT.1 (by decide) 1
    rw [c0]
    have c1 : ay_at (ax_upd hp 734 (ρ 1) (ρ 0)) 177 1 = ay_at hp 177 1 := ay_upd_ne hT.1 (by decide) 1
    rw [c1]
    have c2 : ay_at (ax_upd hp 734 (ρ 1) (ρ 0)) 176 1 = ay_at hp 176 1 := ay_upd_ne hT.1 (by decide) 1
    rw [c2]
    have c3 : ∀ j, ay_at (ax_upd hp 734 (ρ 1) (ρ 0)) 181 j = if j = (ρ 1) / 4 then some (ρ 0) else ay_at hp 181 j := fun j => ay_upd_eq hT.1 rfl ho0 j
    have c4 : ay_at (ax_upd hp 734 (ρ 1) (ρ 0)) 173 18 = ay_at hp 173 18 := ay_upd_ne hT.1 (by decide) 18
    rw [c4]
    intro _
    refine ⟨by rw [ln]; exact pn, pr, fun j hj => ?_⟩
    obtain ⟨t, t1, t2⟩ := pe j hj
    rw [ll] at hj
    refine ⟨t, ?_, t2⟩
    rw [c3, if_neg (by omega)]
    exact t1
  cases List.mem_singleton.mp hy
  show ax_XF (ax_XM 0) (500 + 64) [734, ρ 1, ρ 0] hp
  refine (ax_XF_wr (x := 64) (Nat.le_of_ble_eq_true rfl)).mpr ⟨ay_ex_upd hT.1 (ax_cellT hT (q := 181) (g := 51) ax_cg_181), ay_ex_upd hT.1 (ax_cellT hT (q := 176) (g := 46) ax_cg_176), ay_ex_upd hT.1 (ax_cellT hT (q := 175) (g := 45) ax_cg_175), ?_⟩
  show ay_M64 1 (ay_at (ax_upd hp 734 (ρ 1) (ρ 0)) 181) (ay_at (ax_upd hp 734 (ρ 1) (ρ 0)) 176 1) (ay_at (ax_upd hp 734 (ρ 1) (ρ 0)) 175 1)
  have c0 : ∀ j, ay_at (ax_upd hp 734 (ρ 1) (ρ 0)) 181 j = if j = (ρ 1) / 4 then some (ρ 0) else ay_at hp 181 j := fun j => ay_upd_eq hT.1 rfl ho0 j
  have c1 : ay_at (ax_upd hp 734 (ρ 1) (ρ 0)) 176 1 = ay_at hp 176 1 := ay_upd_ne hT.1 (by decide) 1
  rw [c1]
  have c2 : ay_at (ax_upd hp 734 (ρ 1) (ρ 0)) 175 1 = ay_at hp 175 1 := ay_upd_ne hT.1 (by decide) 1
  rw [c2]
  refine ⟨x, ?_, by rw [ln]; exact hxc⟩
  rw [c0, ll, if_pos (by omega), hx]

theorem axq0_rl1 : ax_RO ax_wM0 (ax_XM 0) axu0_rl1 := by
  intro ρ hp hE hT
  obtain ⟨x, hx, x1, x2, x3⟩ := ax_gi hE 0 2147483648 2147493647 (by decide) rfl
  obtain ⟨x4, x5⟩ := ax_bi_pos x1 (by omega)
  have d4 : ∀ z : Nat, 4 * z / 4 = z := fun z => by omega
  obtain ⟨z, hz, z1, z2, z3⟩ := ax_gi hE 2 2147483648 2147483648 (by decide) rfl
  obtain ⟨z4, z5⟩ := ax_bi_pos z1 (by omega)
  have fz := ay_gfj hE 702 72 11 173 18 ax_m0 (ax_vlq rfl rfl) (ax_vlj rfl rfl)
  replace fz : ay_at hp 173 18 = some (ρ 2) := fz
  obtain ⟨p1, p2, p3, p4, p5, p⟩ : ay_ex hp 175 ∧ ay_ex hp 177 ∧ ay_ex hp 176 ∧ ay_ex hp 181 ∧ ay_ex hp 173 ∧ ay_M50 1 (ay_at hp 175 1) (ay_at hp 177 1) (ay_at hp 176 1) (ay_at hp 181) (ay_at hp 173 18) := (ax_XF_lt (x := 50) (Nat.le_of_ble_eq_true rfl)).mp (ax_gx hE (50, []) ax_m1)
  have fn := ay_gfj hE 710 4 15 175 1 ax_m2 (ax_vlq rfl rfl) (ax_vlj rfl rfl)
  replace fn : ay_at hp 175 1 = some (ρ 3) := fn
  obtain ⟨pn, pr, pe⟩ := p (by rw [fz, hz, show z = 0 by omega])
  obtain ⟨a, b, c, ha, hb, hc, la, lb, lc, hs⟩ := ax_gs hE 19 4 15 (by decide)
  replace ha : ρ 4 = 4 * a := ha
  replace hc : ρ 3 = 4 * c := hc
  have hb' : b = 1 := by have : (4 : Nat) = 4 * b := hb; omega
  have ln : ay_ln (ay_at hp 175 1) = c := by rw [fn, hc]; show 4 * c / 4 = c; omega
  have hle : rx_bi (ρ 0 / 4) ≤ rx_bi (ρ 4 / 4) := ax_gc hE 5 3 19 (by decide) (by decide)
  rw [hx, ha, d4, d4] at hle
  rw [ln] at pn
  rw [hb', ax_bi_nat (c := c) (by omega), ax_bi_nat (c := 1) (by decide)] at hs
  have hxc : x < c := by omega
  obtain ⟨l, hl, l1, l2, l3⟩ := ax_gi hE 5 2147483648 2147483667 (by decide) rfl
  obtain ⟨l4, l5⟩ := ax_bi_pos l1 (by omega)
  have fl := ay_gfj hE 714 4 23 176 1 ax_m5 (ax_vlq rfl rfl) (ax_vlj rfl rfl)
  replace fl : ay_at hp 176 1 = some (ρ 5) := fl
  have ll : ay_ln (ay_at hp 176 1) = l := by rw [fl, hl]; show 4 * l / 4 = l; omega
  have hj2 : ρ 1 = 4 * (40 + 2 * l + 1) := ay_ix hE 160 23 27 31 4 7 (k := 40) (e := 1) (ax_vl_c (v := 160) (by decide)) (by decide) hl (by omega) (ax_vl_c (v := 4) (by decide)) (by decide) (by decide) (by decide) (by decide)
  obtain ⟨q1, q2, q3, q⟩ : ay_ex hp 181 ∧ ay_ex hp 176 ∧ ay_ex hp 175 ∧ ay_M64 1 (ay_at hp 181) (ay_at hp 176 1) (ay_at hp 175 1) := (ax_XF_lt (x := 64) (Nat.le_of_ble_eq_true rfl)).mp (ax_gx hE (64, []) ax_m9)
  obtain ⟨o0, ho0⟩ := ay_some hT (q := 181) (g := 51) (n := 80) ax_cg_181 ax_cn_51 (j := ρ 1 / 4) (by omega)
  refine ⟨fun y hy => ?_, _, List.mem_cons_self, ρ, fun _ _ => rfl, ax_px hE rfl (fun y hy => ?_)⟩
  · cases List.mem_singleton.mp hy
    show 2147483648 ≤ rx_bi (ρ 0 / 4) ∧ rx_bi (ρ 0 / 4) ≤ 2147483657
    rw [hx, d4, ax_bi_nat (by omega)]
    omega
  rcases List.mem_cons.mp hy with e | hy
  · subst e
    show ax_XF (ax_XM 0) (500 + 50) [734, ρ 1, ρ 0] hp
    refine (ax_XF_wr (x := 50) (Nat.le_of_ble_eq_true rfl)).mpr ⟨ay_ex_upd hT.1 (ax_cellT hT (q := 175) (g := 45) ax_cg_175), ay_ex_upd hT.1 (ax_cellT hT (q := 177) (g := 47) ax_cg_177), ay_ex_upd hT.1 (ax_cellT hT (q := 176) (g := 46) ax_cg_176), ay_ex_upd hT.1 (ax_cellT hT (q := 181) (g := 51) ax_cg_181), ay_ex_upd hT.1 (ax_cellT hT (q := 173) (g := 11) ax_cg_173), ?_⟩
    show ay_M50 1 (ay_at (ax_upd hp 734 (ρ 1) (ρ 0)) 175 1) (ay_at (ax_upd hp 734 (ρ 1) (ρ 0)) 177 1) (ay_at (ax_upd hp 734 (ρ 1) (ρ 0)) 176 1) (ay_at (ax_upd hp 734 (ρ 1) (ρ 0)) 181) (ay_at (ax_upd hp 734 (ρ 1) (ρ 0)) 173 18)
    have c0 : ay_at (ax_upd hp 734 (ρ 1) (ρ 0)) 175 1 = ay_at hp 175 1 := ay_upd_ne hT.1 (by decide) 1
    rw [c0]
    have c1 : ay_at (ax_upd hp 734 (ρ 1) (ρ 0)) 177 1 = ay_at hp 177 1 := ay_upd_ne hT.1 (by decide) 1
    rw [c1]
    have c2 : ay_at (ax_upd hp 734 (ρ 1) (ρ 0)) 176 1 = ay_at hp 176 1 := ay_upd_ne hT.1 (by decide) 1
    rw [c2]
    have c3 : ∀ j, ay_at (ax_upd hp 734 (ρ 1) (ρ 0)) 181 j = if j = (ρ 1) / 4 then some (ρ 0) else ay_at hp 181 j := fun j => ay_upd_eq hT.1 rfl ho0 j
    have c4 : ay_at (ax_upd hp 734 (ρ 1) (ρ 0)) 173 18 = ay_at hp 173 18 := ay_upd_ne hT.1 (by decide) 18
    rw [c4]
    intro _
    refine ⟨by rw [ln]; exact pn, pr, fun j hj => ?_⟩
    obtain ⟨t, t1, t2⟩ := pe j hj
    rw [ll] at hj
    refine ⟨t, ?_, t2⟩
    rw [c3, if_neg (by omega)]
    exact t1
  cases List.mem_singleton.mp hy
  show ax_XF (ax_XM 0) (500 + 65) [734, ρ 1, ρ 0] hp
  refine (ax_XF_wr (x := 65) (Nat.le_of_ble_eq_true rfl)).mpr ⟨ay_ex_upd hT.1 (ax_cellT hT (q := 181) (g := 51) ax_cg_181), ay_ex_upd hT.1 (ax_cellT hT (q := 176) (g := 46) ax_cg_176), ay_ex_upd hT.1 (ax_cellT hT (q := 175) (g := 45) ax_cg_175), ?_⟩
  show ay_M65 1 (ay_at (ax_upd hp 734 (ρ 1) (ρ 0)) 181) (ay_at (ax_upd hp 734 (ρ 1) (ρ 0)) 176 1) (ay_at (ax_upd hp 734 (ρ 1) (ρ 0)) 175 1)
  have c0 : ∀ j, ay_at (ax_upd hp 734 (ρ 1) (ρ 0)) 181 j = if j = (ρ 1) / 4 then some (ρ 0) else ay_at hp 181 j := fun j => ay_upd_eq hT.1 rfl ho0 j
  have c1 : ay_at (ax_upd hp 734 (ρ 1) (ρ 0)) 176 1 = ay_at hp 176 1 := ay_upd_ne hT.1 (by decide) 1
  rw [c1]
  have c2 : ay_at (ax_upd hp 734 (ρ 1) (ρ 0)) 175 1 = ay_at hp 175 1 := ay_upd_ne hT.1 (by decide) 1
  rw [c2]
  refine ⟨?_, ?_⟩
  · obtain ⟨t, t1, t2⟩ := q
    refine ⟨t, ?_, t2⟩
    rw [c0, if_neg (by rw [ll]; omega)]
    exact t1
  · refine ⟨x, ?_, by rw [ln]; exact hxc⟩
    rw [c0, ll, if_pos (by omega), hx]

theorem axq0_rl2143 : ax_RO ax_wM0 (ax_XM 0) axu0_rl2143 := by
  intro ρ hp hE hT
  obtain ⟨p1, p2, p3, p⟩ : ay_ex hp 181 ∧ ay_ex hp 175 ∧ ay_ex hp 176 ∧ ay_M25 (0) (ay_at hp 181) (ay_at hp 175 0) (ay_at hp 176 0) := (ax_XF_lt (x := 25) (Nat.le_of_ble_eq_true rfl)).mp (ax_gx hE (25, []) ax_m0)
  obtain ⟨j, hj, j1, j2, j3⟩ := ax_gi hE 1 2147483688 2147483727 (by decide) rfl
  obtain ⟨j4, j5⟩ := ax_bi_pos j1 (by omega)
  obtain ⟨u0, hu0⟩ := ay_some hT (q := 176) (g := 46) (n := 2) ax_cg_176 ax_cn_46 (j := 0) (by decide)
  obtain ⟨w1, w2, w3, w4⟩ := ay_int hT (q := 176) (g := 46) (n := 2) (lo := 2147483648) (hi := 2147483668) ax_cg_176 rfl hu0
  have hll : ay_ln (ay_at hp 176 0) ≤ 20 := by
    rw [hu0]
    show u0 / 4 ≤ 20
    obtain ⟨g1, g2⟩ := ax_bi_pos w2 w3
    omega
  obtain ⟨o0, ho0⟩ := ay_some hT (q := 181) (g := 51) (n := 80) ax_cg_181 ax_cn_51 (j := ρ 1 / 4) (by omega)
  refine ⟨(fun y hy => by cases hy), _, List.mem_cons_self, ρ, fun _ _ => rfl, ax_px hE rfl (fun y hy => ?_)⟩
  cases List.mem_singleton.mp hy
  show ax_XF (ax_XM 0) (500 + 25) [734, ρ 1, ρ 0] hp
  refine (ax_XF_wr (x := 25) (Nat.le_of_ble_eq_true rfl)).mpr ⟨ay_ex_upd hT.1 (ax_cellT hT (q := 181) (g := 51) ax_cg_181), ay_ex_upd hT.1 (ax_cellT hT (q := 175) (g := 45) ax_cg_175), ay_ex_upd hT.1 (ax_cellT hT (q := 176) (g := 46) ax_cg_176), ?_⟩
  show ay_M25 (0) (ay_at (ax_upd hp 734 (ρ 1) (ρ 0)) 181) (ay_at (ax_upd hp 734 (ρ 1) (ρ 0)) 175 0) (ay_at (ax_upd hp 734 (ρ 1) (ρ 0)) 176 0)
  have c0 : ∀ j, ay_at (ax_upd hp 734 (ρ 1) (ρ 0)) 181 j = if j = (ρ 1) / 4 then some (ρ 0) else ay_at hp 181 j := fun j => ay_upd_eq hT.1 rfl ho0 j
  have c1 : ay_at (ax_upd hp 734 (ρ 1) (ρ 0)) 175 0 = ay_at hp 175 0 := ay_upd_ne hT.1 (by decide) 0
  rw [c1]
  have c2 : ay_at (ax_upd hp 734 (ρ 1) (ρ 0)) 176 0 = ay_at hp 176 0 := ay_upd_ne hT.1 (by decide) 0
  rw [c2]
  intro i hi
  obtain ⟨t, t1, t2⟩ := p i hi
  refine ⟨t, ?_, t2⟩
  rw [c0, if_neg (by omega)]
  exact t1
theorem axq0_rl2163 : ax_RO ax_wM0 (ax_XM 0) axu0_rl2163 := by
  intro ρ hp hE hT
  obtain ⟨p1, p2, p3, p⟩ : ay_ex hp 181 ∧ ay_ex hp 175 ∧ ay_ex hp 176 ∧ ay_M25 (0) (ay_at hp 181) (ay_at hp 175 0) (ay_at hp 176 0) := (ax_XF_lt (x := 25) (Nat.le_of_ble_eq_true rfl)).mp (ax_gx hE (25, []) ax_m0)
  obtain ⟨j, hj, j1, j2, j3⟩ := ax_gi hE 1 2147483688 2147483727 (by decide) rfl
  obtain ⟨j4, j5⟩ := ax_bi_pos j1 (by omega)
  obtain ⟨u0, hu0⟩ := ay_some hT (q := 176) (g := 46) (n := 2) ax_cg_176 ax_cn_46 (j := 0) (by decide)
  obtain ⟨w1, w2, w3, w4⟩ := ay_int hT (q := 176) (g := 46) (n := 2) (lo := 2147483648) (hi := 2147483668) ax_cg_176 rfl hu0
  have hll : ay_ln (ay_at hp 176 0) ≤ 20 := by
    rw [hu0]
    show u0 / 4 ≤ 20
    obtain ⟨g1, g2⟩ := ax_bi_pos w2 w3
    omega
  obtain ⟨o0, ho0⟩ := ay_some hT (q := 181) (g := 51) (n := 80) ax_cg_181 ax_cn_51 (j := ρ 1 / 4) (by omega)
  refine ⟨(fun y hy => by cases hy), _, List.mem_cons_self, ρ, fun _ _ => rfl, ax_px hE rfl (fun y hy => ?_)⟩
  cases List.mem_singleton.mp hy
  show ax_XF (ax_XM 0) (500 + 25) [734, ρ 1, ρ 0] hp
  refine (ax_XF_wr (x := 25) (Nat.le_of_ble_eq_true rfl)).mpr ⟨ay_ex_upd hT.1 (ax_cellT hT (q := 181) (g := 51) ax_cg_181), ay_ex_upd hT.1 (ax_cellT hT (q := 175) (g := 45) ax_cg_175), ay_ex_upd hT.1 (ax_cellT hT (q := 176) (g := 46) ax_cg_176), ?_⟩
  show ay_M25 (0) (ay_at (ax_upd hp 734 (ρ 1) (ρ 0)) 181) (ay_at (ax_upd hp 734 (ρ 1) (ρ 0)) 175 0) (ay_at (ax_upd hp 734 (ρ 1) (ρ 0)) 176 0)
  have c0 : ∀ j, ay_at (ax_upd hp 734 (ρ 1) (ρ 0)) 181 j = if j = (ρ 1) / 4 then some (ρ 0) else ay_at hp 181 j := fun j => ay_upd_eq hT.1 rfl ho0 j
  have c1 : ay_at (ax_upd hp 734 (ρ 1) (ρ 0)) 175 0 = ay_at hp 175 0 := ay_upd_ne hT.1 (by decide) 0
  rw [c1]
  have c2 : ay_at (ax_upd hp 734 (ρ 1) (ρ 0)) 176 0 = ay_at hp 176 0 := ay_upd_ne hT.1 (by decide) 0
  rw [c2]
  intro i hi
  obtain ⟨t, t1, t2⟩ := p i hi
  refine ⟨t, ?_, t2⟩
  rw [c0, if_neg (by omega)]
  exact t1
theorem axq0_rl3 : ax_RO ax_wM0 (ax_XM 0) axu0_rl3 := by
  intro ρ hp hE hT
  obtain ⟨p1, p2, p3, p4, p5, p⟩ : ay_ex hp 175 ∧ ay_ex hp 177 ∧ ay_ex hp 176 ∧ ay_ex hp 181 ∧ ay_ex hp 173 ∧ ay_M50 1 (ay_at hp 175 1) (ay_at hp 177 1) (ay_at hp 176 1) (ay_at hp 181) (ay_at hp 173 18) := (ax_XF_lt (x := 50) (Nat.le_of_ble_eq_true rfl)).mp (ax_gx hE (50, []) ax_m2)
  obtain ⟨q1, q2, q3, q⟩ : ay_ex hp 181 ∧ ay_ex hp 176 ∧ ay_ex hp 175 ∧ ay_M65 1 (ay_at hp 181) (ay_at hp 176 1) (ay_at hp 175 1) := (ax_XF_lt (x := 65) (Nat.le_of_ble_eq_true rfl)).mp (ax_gx hE (65, []) ax_m3)
  obtain ⟨k1, k2, k3, k4, k⟩ : ay_ex hp 176 ∧ ay_ex hp 173 ∧ ay_ex hp 173 ∧ ay_ex hp 173 ∧ ay_M54 (ρ 2) (ay_at hp 176 1) (ay_at hp 173 23) (ay_at hp 173 24) (ay_at hp 173 25) := (ax_XF_lt (x := 54) (Nat.le_of_ble_eq_true rfl)).mp (ax_gx hE (54, [11]) ax_m4)
  replace k : (20 - ay_ln (ay_at hp 176 1)) + (1 - ay_ln (ay_at hp 173 23)) + (1 - ay_ln (ay_at hp 173 24)) + (1 - ay_ln (ay_at hp 173 25)) + 1 ≤ ρ 2 / 4 := k
  obtain ⟨K, hK⟩ := ax_gj hE 2 (by decide) rfl
  obtain ⟨l, hl, l1, l2, l3⟩ := ax_gi hE 1 2147483648 2147483667 (by decide) rfl
  obtain ⟨l4, l5⟩ := ax_bi_pos l1 (by omega)
  have d4 : ∀ z : Nat, 4 * z / 4 = z := fun z => by omega
  have fl := ay_gfj hE 714 4 7 176 1 ax_m0 (ax_vlq rfl rfl) (ax_vlj rfl rfl)
  replace fl : ay_at hp 176 1 = some (ρ 1) := fl
  have ll : ay_ln (ay_at hp 176 1) = l := by rw [fl, hl]; show 4 * l / 4 = l; omega
  obtain ⟨r, hr⟩ : ∃ z, ay_ln (ay_at hp 173 23) = z := ⟨_, rfl⟩
  obtain ⟨s, hs⟩ : ∃ z, ay_ln (ay_at hp 173 24) = z := ⟨_, rfl⟩
  obtain ⟨t, ht⟩ : ∃ z, ay_ln (ay_at hp 173 25) = z := ⟨_, rfl⟩
  rw [ll, hr, hs, ht] at k
  have h0 : ρ 0 = 4 * (l + 1) := ay_s hE 7 4 3 (b := 1) (by decide) hl (ax_vl_c (v := 4) (by decide)) (by omega) (by decide)
  obtain ⟨⟨e1, q7, q8⟩, e2, q9, q10⟩ := q
  rw [ll] at q7 q9
  obtain ⟨o0, ho0⟩ := ay_some hT (q := 176) (g := 46) (n := 2) ax_cg_176 ax_cn_46 (j := 4 / 4) (Nat.le_of_ble_eq_true rfl)
  obtain ⟨ρ', h1, h2⟩ := ax_pn (K := (20 - (l + 1)) + (1 - r) + (1 - s) + (1 - t) + 1) (xf := [(550, [714, 4, 3]), (554, [714, 4, 3, 15]), (1030, [15, 11])]) hE (by decide) (fun ρ' h1 h2 x hx => by
    rcases List.mem_cons.mp hx with e | hx
    · subst e
      show ax_XF (ax_XM 0) (500 + 50) [714, 4, ρ' 0] hp
      rw [h1 0 (by decide)]
      refine (ax_XF_wr (x := 50) (Nat.le_of_ble_eq_true rfl)).mpr ⟨ay_ex_upd hT.1 (ax_cellT hT (q := 175) (g := 45) ax_cg_175), ay_ex_upd hT.1 (ax_cellT hT (q := 177) (g := 47) ax_cg_177), ay_ex_upd hT.1 (ax_cellT hT (q := 176) (g := 46) ax_cg_176), ay_ex_upd hT.1 (ax_cellT hT (q := 181) (g := 51) ax_cg_181), ay_ex_upd hT.1 (ax_cellT hT (q := 173) (g := 11) ax_cg_173), ?_⟩
      show ay_M50 1 (ay_at (ax_upd hp 714 (4) (ρ 0)) 175 1) (ay_at (ax_upd hp 714 (4) (ρ 0)) 177 1) (ay_at (ax_upd hp 714 (4) (ρ 0)) 176 1) (ay_at (ax_upd hp 714 (4) (ρ 0)) 181) (ay_at (ax_upd hp 714 (4) (ρ 0)) 173 18)
      have c0 : ay_at (ax_upd hp 714 (4) (ρ 0)) 175 1 = ay_at hp 175 1 := ay_upd_ne hT.1 (by decide) 1
      rw [c0]
      have c1 : ay_at (ax_upd hp 714 (4) (ρ 0)) 177 1 = ay_at hp 177 1 := ay_upd_ne hT.1 (by decide) 1
      rw [c1]
      have c2 : ay_at (ax_upd hp 714 (4) (ρ 0)) 176 1 = some (ρ 0) := by rw [ay_upd_eq hT.1 rfl ho0, if_pos (by decide)]
      rw [c2]
      have c3 : ay_at (ax_upd hp 714 (4) (ρ 0)) 181 = ay_at hp 181 := funext (fun j => ay_upd_ne hT.1 (by decide) j)
      rw [c3]
      have c4 : ay_at (ax_upd hp 714 (4) (ρ 0)) 173 18 = ay_at hp 173 18 := ay_upd_ne hT.1 (by decide) 18
      rw [c4]
      intro hz
      obtain ⟨p7, p8, p9⟩ := p hz
      refine ⟨p7, p8, fun j hj => ?_⟩
      replace hj : j < 2 * (ρ 0 / 4) := hj
      rw [h0, d4] at hj
      by_cases z1 : j < 2 * l
      · exact p9 j (by rw [ll]; exact z1)
      · by_cases z2 : j = 2 * l
        · rw [z2]; exact ⟨e1, q7, q8⟩
        · rw [show j = 2 * l + 1 by omega]; exact ⟨e2, q9, q10⟩
    rcases List.mem_cons.mp hx with e | hx
    · subst e
      show ax_XF (ax_XM 0) (500 + 54) [714, 4, ρ' 0, ρ' 3] hp
      rw [h1 0 (by decide)]
      refine (ax_XF_wr (x := 54) (Nat.le_of_ble_eq_true rfl)).mpr ⟨ay_ex_upd hT.1 (ax_cellT hT (q := 176) (g := 46) ax_cg_176), ay_ex_upd hT.1 (ax_cellT hT (q := 173) (g := 11) ax_cg_173), ay_ex_upd hT.1 (ax_cellT hT (q := 173) (g := 11) ax_cg_173), ay_ex_upd hT.1 (ax_cellT hT (q := 173) (g := 11) ax_cg_173), ?_⟩
      show ay_M54 (ρ' 3) (ay_at (ax_upd hp 714 (4) (ρ 0)) 176 1) (ay_at (ax_upd hp 714 (4) (ρ 0)) 173 23) (ay_at (ax_upd hp 714 (4) (ρ 0)) 173 24) (ay_at (ax_upd hp 714 (4) (ρ 0)) 173 25)
      have c0 : ay_at (ax_upd hp 714 (4) (ρ 0)) 176 1 = some (ρ 0) := by rw [ay_upd_eq hT.1 rfl ho0, if_pos (by decide)]
      rw [c0]
      have c1 : ay_at (ax_upd hp 714 (4) (ρ 0)) 173 23 = ay_at hp 173 23 := ay_upd_ne hT.1 (by decide) 23
      rw [c1]
      have c2 : ay_at (ax_upd hp 714 (4) (ρ 0)) 173 24 = ay_at hp 173 24 := ay_upd_ne hT.1 (by decide) 24
      rw [c2]
      have c3 : ay_at (ax_upd hp 714 (4) (ρ 0)) 173 25 = ay_at hp 173 25 := ay_upd_ne hT.1 (by decide) 25
      rw [c3]
      show (20 - ρ 0 / 4) + (1 - ay_ln (ay_at hp 173 23)) + (1 - ay_ln (ay_at hp 173 24)) + (1 - ay_ln (ay_at hp 173 25)) + 1 ≤ ρ' 3 / 4
      rw [h2, h0, hr, hs, ht, d4]
      omega
    cases List.mem_singleton.mp hx
    refine (ax_XF_bi (o := 30) (by decide)).mpr (Or.inr ⟨rfl, ?_⟩)
    show ρ' 3 < ρ' 2
    rw [h2, h1 2 (by decide), hK]
    omega)
  exact ⟨(fun x hx => by cases hx), _, List.mem_cons_self, ρ', h1, h2⟩
theorem axq0_rno : ax_RO ax_wM0 (ax_XM 0) axu0_rno := by
  intro ρ hp hE hT
  obtain ⟨k1, k2, k3, k4, k⟩ : ay_ex hp 176 ∧ ay_ex hp 173 ∧ ay_ex hp 173 ∧ ay_ex hp 173 ∧ ay_M54 (ρ 1) (ay_at hp 176 1) (ay_at hp 173 23) (ay_at hp 173 24) (ay_at hp 173 25) := (ax_XF_lt (x := 54) (Nat.le_of_ble_eq_true rfl)).mp (ax_gx hE (54, [7]) ax_m1)
  replace k : (20 - ay_ln (ay_at hp 176 1)) + (1 - ay_ln (ay_at hp 173 23)) + (1 - ay_ln (ay_at hp 173 24)) + (1 - ay_ln (ay_at hp 173 25)) + 1 ≤ ρ 1 / 4 := k
  obtain ⟨K, hK⟩ := ax_gj hE 1 (by decide) rfl
  obtain ⟨h, hh, h1, h2, h3⟩ := ax_gi hE 0 2147483648 2147483648 (by decide) rfl
  obtain ⟨h4, h5⟩ := ax_bi_pos h1 (by omega)
  have d4 : ∀ z : Nat, 4 * z / 4 = z := fun z => by omega
  have fh := ay_gfj hE 702 92 3 173 23 ax_m0 (ax_vlq rfl rfl) (ax_vlj rfl rfl)
  replace fh : ay_at hp 173 23 = some (ρ 0) := fh
  have lh : ay_ln (ay_at hp 173 23) = h := by rw [fh, hh]; show 4 * h / 4 = h; omega
  obtain ⟨l, hl⟩ : ∃ z, ay_ln (ay_at hp 176 1) = z := ⟨_, rfl⟩
  obtain ⟨r, hr⟩ : ∃ z, ay_ln (ay_at hp 173 23) = z := ⟨_, rfl⟩
  obtain ⟨s, hs⟩ : ∃ z, ay_ln (ay_at hp 173 24) = z := ⟨_, rfl⟩
  obtain ⟨t, ht⟩ : ∃ z, ay_ln (ay_at hp 173 25) = z := ⟨_, rfl⟩
  have hv0 : r = 0 := by rw [← hr, lh]; omega
  rw [hl, hr, hs, ht] at k
  obtain ⟨o0, ho0⟩ := ay_some hT (q := 173) (g := 11) (n := 58) ax_cg_173 ax_cn_11 (j := 92 / 4) (Nat.le_of_ble_eq_true rfl)
  obtain ⟨ρ', h1, h2⟩ := ax_pn (K := (20 - l) + 0 + (1 - s) + (1 - t) + 1) (xf := [(554, [702, 92, 4, 11]), (1030, [11, 7])]) hE (by decide) (fun ρ' h1 h2 x hx => by
    rcases List.mem_cons.mp hx with e | hx
    · subst e
      show ax_XF (ax_XM 0) (500 + 54) [702, 92, 4, ρ' 2] hp
      refine (ax_XF_wr (x := 54) (Nat.le_of_ble_eq_true rfl)).mpr ⟨ay_ex_upd hT.1 (ax_cellT hT (q := 176) (g := 46) ax_cg_176), ay_ex_upd hT.1 (ax_cellT hT (q := 173) (g := 11) ax_cg_173), ay_ex_upd hT.1 (ax_cellT hT (q := 173) (g := 11) ax_cg_173), ay_ex_upd hT.1 (ax_cellT hT (q := 173) (g := 11) ax_cg_173), ?_⟩
      show ay_M54 (ρ' 2) (ay_at (ax_upd hp 702 (92) (4)) 176 1) (ay_at (ax_upd hp 702 (92) (4)) 173 23) (ay_at (ax_upd hp 702 (92) (4)) 173 24) (ay_at (ax_upd hp 702 (92) (4)) 173 25)
      have c0 : ay_at (ax_upd hp 702 (92) (4)) 176 1 = ay_at hp 176 1 := ay_upd_ne hT.1 (by decide) 1
      rw [c0]
      have c1 : ay_at (ax_upd hp 702 (92) (4)) 173 23 = some (4) := by rw [ay_upd_eq hT.1 rfl ho0, if_pos (by decide)]
      rw [c1]
      have c2 : ay_at (ax_upd hp 702 (92) (4)) 173 24 = ay_at hp 173 24 := by rw [ay_upd_eq hT.1 rfl ho0, if_neg (by decide)]
      rw [c2]
      have c3 : ay_at (ax_upd hp 702 (92) (4)) 173 25 = ay_at hp 173 25 := by rw [ay_upd_eq hT.1 rfl ho0, if_neg (by decide)]
      rw [c3]
      show (20 - ay_ln (ay_at hp 176 1)) + (1 - 1) + (1 - ay_ln (ay_at hp 173 24)) + (1 - ay_ln (ay_at hp 173 25)) + 1 ≤ ρ' 2 / 4
      rw [h2, hl, hs, ht]
      omega
    cases List.mem_singleton.mp hx
    refine (ax_XF_bi (o := 30) (by decide)).mpr (Or.inr ⟨rfl, ?_⟩)
    show ρ' 2 < ρ' 1
    rw [h2, h1 1 (by decide), hK]
    omega)
  exact ⟨(fun x hx => by cases hx), _, List.mem_cons_self, ρ', h1, h2⟩
theorem axq0_rnm : ax_RO ax_wM0 (ax_XM 0) axu0_rnm := by
  intro ρ hp hE hT
  obtain ⟨k1, k2, k3, k4, k⟩ : ay_ex hp 176 ∧ ay_ex hp 173 ∧ ay_ex hp 173 ∧ ay_ex hp 173 ∧ ay_M54 (ρ 1) (ay_at hp 176 1) (ay_at hp 173 23) (ay_at hp 173 24) (ay_at hp 173 25) := (ax_XF_lt (x := 54) (Nat.le_of_ble_eq_true rfl)).mp (ax_gx hE (54, [7]) ax_m1)
  replace k : (20 - ay_ln (ay_at hp 176 1)) + (1 - ay_ln (ay_at hp 173 23)) + (1 - ay_ln (ay_at hp 173 24)) + (1 - ay_ln (ay_at hp 173 25)) + 1 ≤ ρ 1 / 4 := k
  obtain ⟨K, hK⟩ := ax_gj hE 1 (by decide) rfl
  obtain ⟨h, hh, h1, h2, h3⟩ := ax_gi hE 0 2147483648 2147483648 (by decide) rfl
  obtain ⟨h4, h5⟩ := ax_bi_pos h1 (by omega)
  have d4 : ∀ z : Nat, 4 * z / 4 = z := fun z => by omega
  have fh := ay_gfj hE 702 100 3 173 25 ax_m0 (ax_vlq rfl rfl) (ax_vlj rfl rfl)
  replace fh : ay_at hp 173 25 = some (ρ 0) := fh
  have lh : ay_ln (ay_at hp 173 25) = h := by rw [fh, hh]; show 4 * h / 4 = h; omega
  obtain ⟨l, hl⟩ : ∃ z, ay_ln (ay_at hp 176 1) = z := ⟨_, rfl⟩
  obtain ⟨r, hr⟩ : ∃ z, ay_ln (ay_at hp 173 23) = z := ⟨_, rfl⟩
  obtain ⟨s, hs⟩ : ∃ z, ay_ln (ay_at hp 173 24) = z := ⟨_, rfl⟩
  obtain ⟨t, ht⟩ : ∃ z, ay_ln (ay_at hp 173 25) = z := ⟨_, rfl⟩
  have hv0 : t = 0 := by rw [← ht, lh]; omega
  rw [hl, hr, hs, ht] at k
  obtain ⟨o0, ho0⟩ := ay_some hT (q := 173) (g := 11) (n := 58) ax_cg_173 ax_cn_11 (j := 100 / 4) (Nat.le_of_ble_eq_true rfl)
  obtain ⟨ρ', h1, h2⟩ := ax_pn (K := (20 - l) + (1 - r) + (1 - s) + 0 + 1) (xf := [(554, [702, 100, 4, 11]), (1030, [11, 7])]) hE (by decide) (fun ρ' h1 h2 x hx => by
    rcases List.mem_cons.mp hx with e | hx
    · subst e
      show ax_XF (ax_XM 0) (500 + 54) [702, 100, 4, ρ' 2] hp
      refine (ax_XF_wr (x := 54) (Nat.le_of_ble_eq_true rfl)).mpr ⟨ay_ex_upd hT.1 (ax_cellT hT (q := 176) (g := 46) ax_cg_176), ay_ex_upd hT.1 (ax_cellT hT (q := 173) (g := 11) ax_cg_173), ay_ex_upd hT.1 (ax_cellT hT (q := 173) (g := 11) ax_cg_173), ay_ex_upd hT.1 (ax_cellT hT (q := 173) (g := 11) ax_cg_173), ?_⟩
      show ay_M54 (ρ' 2) (ay_at (ax_upd hp 702 (100) (4)) 176 1) (ay_at (ax_upd hp 702 (100) (4)) 173 23) (ay_at (ax_upd hp 702 (100) (4)) 173 24) (ay_at (ax_upd hp 702 (100) (4)) 173 25)
      have c0 : ay_at (ax_upd hp 702 (100) (4)) 176 1 = ay_at hp 176 1 := ay_upd_ne hT.1 (by decide) 1
      rw [c0]
      have c1 : ay_at (ax_upd hp 702 (100) (4)) 173 23 = ay_at hp 173 23 := by rw [ay_upd_eq hT.1 rfl ho0, if_neg (by decide)]
      rw [c1]
      have c2 : ay_at (ax_upd hp 702 (100) (4)) 173 24 = ay_at hp 173 24 := by rw [ay_upd_eq hT.1 rfl ho0, if_neg (by decide)]
      rw [c2]
      have c3 : ay_at (ax_upd hp 702 (100) (4)) 173 25 = some (4) := by rw [ay_upd_eq hT.1 rfl ho0, if_pos (by decide)]
      rw [c3]
      show (20 - ay_ln (ay_at hp 176 1)) + (1 - ay_ln (ay_at hp 173 23)) + (1 - ay_ln (ay_at hp 173 24)) + (1 - 1) + 1 ≤ ρ' 2 / 4
      rw [h2, hl, hr, hs]
      omega
    cases List.mem_singleton.mp hx
    refine (ax_XF_bi (o := 30) (by decide)).mpr (Or.inr ⟨rfl, ?_⟩)
    show ρ' 2 < ρ' 1
    rw [h2, h1 1 (by decide), hK]
    omega)
  exact ⟨(fun x hx => by cases hx), _, List.mem_cons_self, ρ', h1, h2⟩
theorem axq0_rnk : ax_RO ax_wM0 (ax_XM 0) axu0_rnk := by
  intro ρ hp hE hT
  obtain ⟨k1, k2, k3, k4, k⟩ : ay_ex hp 176 ∧ ay_ex hp 173 ∧ ay_ex hp 173 ∧ ay_ex hp 173 ∧ ay_M54 (ρ 1) (ay_at hp 176 1) (ay_at hp 173 23) (ay_at hp 173 24) (ay_at hp 173 25) := (ax_XF_lt (x := 54) (Nat.le_of_ble_eq_true rfl)).mp (ax_gx hE (54, [7]) ax_m1)
  replace k : (20 - ay_ln (ay_at hp 176 1)) + (1 - ay_ln (ay_at hp 173 23)) + (1 - ay_ln (ay_at hp 173 24)) + (1 - ay_ln (ay_at hp 173 25)) + 1 ≤ ρ 1 / 4 := k
  obtain ⟨K, hK⟩ := ax_gj hE 1 (by decide) rfl
  obtain ⟨h, hh, h1, h2, h3⟩ := ax_gi hE 0 2147483648 2147483648 (by decide) rfl
  obtain ⟨h4, h5⟩ := ax_bi_pos h1 (by omega)
  have d4 : ∀ z : Nat, 4 * z / 4 = z := fun z => by omega
  have fh := ay_gfj hE 702 96 3 173 24 ax_m0 (ax_vlq rfl rfl) (ax_vlj rfl rfl)
  replace fh : ay_at hp 173 24 = some (ρ 0) := fh
  have lh : ay_ln (ay_at hp 173 24) = h := by rw [fh, hh]; show 4 * h / 4 = h; omega
  obtain ⟨l, hl⟩ : ∃ z, ay_ln (ay_at hp 176 1) = z := ⟨_, rfl⟩
  obtain ⟨r, hr⟩ : ∃ z, ay_ln (ay_at hp 173 23) = z := ⟨_, rfl⟩
  obtain ⟨s, hs⟩ : ∃ z, ay_ln (ay_at hp 173 24) = z := ⟨_, rfl⟩
  obtain ⟨t, ht⟩ : ∃ z, ay_ln (ay_at hp 173 25) = z := ⟨_, rfl⟩
  have hv0 : s = 0 := by rw [← hs, lh]; omega
  rw [hl, hr, hs, ht] at k
  obtain ⟨o0, ho0⟩ := ay_some hT (q := 173) (g := 11) (n := 58) ax_cg_173 ax_cn_11 (j := 96 / 4) (Nat.le_of_ble_eq_true rfl)
  obtain ⟨ρ', h1, h2⟩ := ax_pn (K := (20 - l) + (1 - r) + 0 + (1 - t) + 1) (xf := [(554, [702, 96, 4, 11]), (1030, [11, 7])]) hE (by decide) (fun ρ' h1 h2 x hx => by
    rcases List.mem_cons.mp hx with e | hx
    · subst e
      show ax_XF (ax_XM 0) (500 + 54) [702, 96, 4, ρ' 2] hp
      refine (ax_XF_wr (x := 54) (Nat.le_of_ble_eq_true rfl)).mpr ⟨ay_ex_upd hT.1 (ax_cellT hT (q := 176) (g := 46) ax_cg_176), ay_ex_upd hT.1 (ax_cellT hT (q := 173) (g := 11) ax_cg_173), ay_ex_upd hT.1 (ax_cellT hT (q := 173) (g := 11) ax_cg_173), ay_ex_upd hT.1 (ax_cellT hT (q := 173) (g := 11) ax_cg_173), ?_⟩
      show ay_M54 (ρ' 2) (ay_at (ax_upd hp 702 (96) (4)) 176 1) (ay_at (ax_upd hp 702 (96) (4)) 173 23) (ay_at (ax_upd hp 702 (96) (4)) 173 24) (ay_at (ax_upd hp 702 (96) (4)) 173 25)
      have c0 : ay_at (ax_upd hp 702 (96) (4)) 176 1 = ay_at hp 176 1 := ay_upd_ne hT.1 (by decide) 1
      rw [c0]
      have c1 : ay_at (ax_upd hp 702 (96) (4)) 173 23 = ay_at hp 173 23 := by rw [ay_upd_eq hT.1 rfl ho0, if_neg (by decide)]
      rw [c1]
      have c2 : ay_at (ax_upd hp 702 (96) (4)) 173 24 = some (4) := by rw [ay_upd_eq hT.1 rfl ho0, if_pos (by decide)]
      rw [c2]
      have c3 : ay_at (ax_upd hp 702 (96) (4)) 173 25 = ay_at hp 173 25 := by rw [ay_upd_eq hT.1 rfl ho0, if_neg (by decide)]
      rw [c3]
      show (20 - ay_ln (ay_at hp 176 1)) + (1 - ay_ln (ay_at hp 173 23)) + (1 - 1) + (1 - ay_ln (ay_at hp 173 25)) + 1 ≤ ρ' 2 / 4
      rw [h2, hl, hr, ht]
      omega
    cases List.mem_singleton.mp hx
    refine (ax_XF_bi (o := 30) (by decide)).mpr (Or.inr ⟨rfl, ?_⟩)
    show ρ' 2 < ρ' 1
    rw [h2, h1 1 (by decide), hK]
    omega)
  exact ⟨(fun x hx => by cases hx), _, List.mem_cons_self, ρ', h1, h2⟩
theorem axq0_rn2 : ax_RO ax_wM0 (ax_XM 0) axu0_rn2 := by
  intro ρ hp hE hT
  obtain ⟨p1, p2, p3, p4, p5, p⟩ : ay_ex hp 182 ∧ ay_ex hp 180 ∧ ay_ex hp 179 ∧ ay_ex hp 173 ∧ ay_ex hp 173 ∧ ay_M52 1 (ay_at hp 182) (ay_at hp 180 1) (ay_at hp 179 1) (ay_at hp 173 18) (ay_at hp 173 24) := (ax_XF_lt (x := 52) (Nat.le_of_ble_eq_true rfl)).mp (ax_gx hE (52, []) ax_m1)
  obtain ⟨h, hh, h1, h2, h3⟩ := ax_gi hE 0 2147483648 2147483648 (by decide) rfl
  obtain ⟨h4, h5⟩ := ax_bi_pos h1 (by omega)
  have fh := ay_gfj hE 702 96 3 173 24 ax_m0 (ax_vlq rfl rfl) (ax_vlj rfl rfl)
  replace fh : ay_at hp 173 24 = some (ρ 0) := fh
  refine ⟨(fun y hy => by cases hy), _, List.mem_cons_self, ρ, fun _ _ => rfl, ax_px hE rfl (fun y hy => ?_)⟩
  cases List.mem_singleton.mp hy
  refine (ax_XF_lt (x := 42) (Nat.le_of_ble_eq_true rfl)).mpr ⟨(ax_cellT hT (q := 180) (g := 50) ax_cg_180), (ax_cellT hT (q := 179) (g := 49) ax_cg_179), ?_⟩
  exact p.2 (by rw [fh, hh, show h = 0 by omega])

theorem axq0_rn3 : ax_RO ax_wM0 (ax_XM 0) axu0_rn3 := by
  intro ρ hp hE hT
  obtain ⟨z, hz, z1, z2, z3⟩ := ax_gi hE 1 2147483649 2147483652 (by decide) rfl
  obtain ⟨z4, z5⟩ := ax_bi_pos z1 (by omega)
  have fz := ay_gfj hE 702 72 7 173 18 ax_m0 (ax_vlq rfl rfl) (ax_vlj rfl rfl)
  replace fz : ay_at hp 173 18 = some (ρ 1) := fz
  obtain ⟨o0, ho0⟩ := ay_some hT (q := 177) (g := 47) (n := 2) ax_cg_177 ax_cn_47 (j := 4 / 4) (Nat.le_of_ble_eq_true rfl)
  refine ⟨(fun y hy => by cases hy), _, List.mem_cons_self, ρ, fun _ _ => rfl, ax_px hE rfl (fun y hy => ?_)⟩
  cases List.mem_singleton.mp hy
  show ax_XF (ax_XM 0) (500 + 50) [718, 4, ρ 0] hp
  refine (ax_XF_wr (x := 50) (Nat.le_of_ble_eq_true rfl)).mpr ⟨ay_ex_upd hT.1 (ax_cellT hT (q := 175) (g := 45) ax_cg_175), ay_ex_upd hT.1 (ax_cellT hT (q := 177) (g := 47) ax_cg_177), ay_ex_upd hT.1 (ax_cellT hT (q := 176) (g := 46) ax_cg_176), ay_ex_upd hT.1 (ax_cellT hT (q := 181) (g := 51) ax_cg_181), ay_ex_upd hT.1 (ax_cellT hT (q := 173) (g := 11) ax_cg_173), ?_⟩
  show ay_M50 1 (ay_at (ax_upd hp 718 (4) (ρ 0)) 175 1) (ay_at (ax_upd hp 718 (4) (ρ 0)) 177 1) (ay_at (ax_upd hp 718 (4) (ρ 0)) 176 1) (ay_at (ax_upd hp 718 (4) (ρ 0)) 181) (ay_at (ax_upd hp 718 (4) (ρ 0)) 173 18)
  have c0 : ay_at (ax_upd hp 718 (4) (ρ 0)) 175 1 = ay_at hp 175 1 := ay_upd_ne hT.1 (by decide) 1
  rw [c0]
  have c1 : ay_at (ax_upd hp 718 (4) (ρ 0)) 177 1 = some (ρ 0) := by rw [ay_upd_eq hT.1 rfl ho0, if_pos (by decide)]
  rw [c1]
  have c2 : ay_at (ax_upd hp 718 (4) (ρ 0)) 176 1 = ay_at hp 176 1 := ay_upd_ne hT.1 (by decide) 1
  rw [c2]
  have c3 : ay_at (ax_upd hp 718 (4) (ρ 0)) 181 = ay_at hp 181 := funext (fun j => ay_upd_ne hT.1 (by decide) j)
  rw [c3]
  have c4 : ay_at (ax_upd hp 718 (4) (ρ 0)) 173 18 = ay_at hp 173 18 := ay_upd_ne hT.1 (by decide) 18
  rw [c4]
  intro e
  rw [fz] at e
  have e := Option.some.inj e
  omega
theorem axq0_rn4 : ax_RO ax_wM0 (ax_XM 0) axu0_rn4 := by
  intro ρ hp hE hT
  obtain ⟨x, hx, x1, x2, x3⟩ := ax_gi hE 0 2147483648 2147493647 (by decide) rfl
  obtain ⟨x4, x5⟩ := ax_bi_pos x1 (by omega)
  have d4 : ∀ z : Nat, 4 * z / 4 = z := fun z => by omega
  obtain ⟨z, hz, z1, z2, z3⟩ := ax_gi hE 1 2147483648 2147483648 (by decide) rfl
  obtain ⟨z4, z5⟩ := ax_bi_pos z1 (by omega)
  have fz := ay_gfj hE 702 72 7 173 18 ax_m0 (ax_vlq rfl rfl) (ax_vlj rfl rfl)
  replace fz : ay_at hp 173 18 = some (ρ 1) := fz
  obtain ⟨p1, p2, p3, p4, p5, p⟩ : ay_ex hp 175 ∧ ay_ex hp 177 ∧ ay_ex hp 176 ∧ ay_ex hp 181 ∧ ay_ex hp 173 ∧ ay_M50 1 (ay_at hp 175 1) (ay_at hp 177 1) (ay_at hp 176 1) (ay_at hp 181) (ay_at hp 173 18) := (ax_XF_lt (x := 50) (Nat.le_of_ble_eq_true rfl)).mp (ax_gx hE (50, []) ax_m1)
  have fn := ay_gfj hE 710 4 11 175 1 ax_m2 (ax_vlq rfl rfl) (ax_vlj rfl rfl)
  replace fn : ay_at hp 175 1 = some (ρ 2) := fn
  obtain ⟨pn, pr, pe⟩ := p (by rw [fz, hz, show z = 0 by omega])
  obtain ⟨a, b, c, ha, hb, hc, la, lb, lc, hs⟩ := ax_gs hE 15 4 11 (by decide)
  replace ha : ρ 3 = 4 * a := ha
  replace hc : ρ 2 = 4 * c := hc
  have hb' : b = 1 := by have : (4 : Nat) = 4 * b := hb; omega
  have ln : ay_ln (ay_at hp 175 1) = c := by rw [fn, hc]; show 4 * c / 4 = c; omega
  have hle : rx_bi (ρ 0 / 4) ≤ rx_bi (ρ 3 / 4) := ax_gc hE 5 3 15 (by decide) (by decide)
  rw [hx, ha, d4, d4] at hle
  rw [ln] at pn
  rw [hb', ax_bi_nat (c := c) (by omega), ax_bi_nat (c := 1) (by decide)] at hs
  have hxc : x < c := by omega
  obtain ⟨o0, ho0⟩ := ay_some hT (q := 177) (g := 47) (n := 2) ax_cg_177 ax_cn_47 (j := 4 / 4) (Nat.le_of_ble_eq_true rfl)
  refine ⟨(fun y hy => by cases hy), _, List.mem_cons_self, ρ, fun _ _ => rfl, ax_px hE rfl (fun y hy => ?_)⟩
  cases List.mem_singleton.mp hy
  show ax_XF (ax_XM 0) (500 + 50) [718, 4, ρ 0] hp
  refine (ax_XF_wr (x := 50) (Nat.le_of_ble_eq_true rfl)).mpr ⟨ay_ex_upd hT.1 (ax_cellT hT (q := 175) (g := 45) ax_cg_175), ay_ex_upd hT.1 (ax_cellT hT (q := 177) (g := 47) ax_cg_177), ay_ex_upd hT.1 (ax_cellT hT (q := 176) (g := 46) ax_cg_176), ay_ex_upd hT.1 (ax_cellT hT (q := 181) (g := 51) ax_cg_181), ay_ex_upd hT.1 (ax_cellT hT (q := 173) (g := 11) ax_cg_173), ?_⟩
  show ay_M50 1 (ay_at (ax_upd hp 718 (4) (ρ 0)) 175 1) (ay_at (ax_upd hp 718 (4) (ρ 0)) 177 1) (ay_at (ax_upd hp 718 (4) (ρ 0)) 176 1) (ay_at (ax_upd hp 718 (4) (ρ 0)) 181) (ay_at (ax_upd hp 718 (4) (ρ 0)) 173 18)
  have c0 : ay_at (ax_upd hp 718 (4) (ρ 0)) 175 1 = ay_at hp 175 1 := ay_upd_ne hT.1 (by decide) 1
  rw [c0]
  have c1 : ay_at (ax_upd hp 718 (4) (ρ 0)) 177 1 = some (ρ 0) := by rw [ay_upd_eq hT.1 rfl ho0, if_pos (by decide)]
  rw [c1]
  have c2 : ay_at (ax_upd hp 718 (4) (ρ 0)) 176 1 = ay_at hp 176 1 := ay_upd_ne hT.1 (by decide) 1
  rw [c2]
  have c3 : ay_at (ax_upd hp 718 (4) (ρ 0)) 181 = ay_at hp 181 := funext (fun j => ay_upd_ne hT.1 (by decide) j)
  rw [c3]
  have c4 : ay_at (ax_upd hp 718 (4) (ρ 0)) 173 18 = ay_at hp 173 18 := ay_upd_ne hT.1 (by decide) 18
  rw [c4]
  intro _
  refine ⟨by rw [ln]; exact pn, ?_, pe⟩
  show ρ 0 / 4 ≤ 9
  omega
theorem axq0_ra0 : ax_RO ax_wM0 (ax_XM 0) axu0_ra0 := by
  intro ρ hp hE hT
  obtain ⟨z, hz, z1, z2, z3⟩ := ax_gi hE 1 2147483649 2147483652 (by decide) rfl
  obtain ⟨z4, z5⟩ := ax_bi_pos z1 (by omega)
  have fz := ay_gfj hE 702 72 7 173 18 ax_m0 (ax_vlq rfl rfl) (ax_vlj rfl rfl)
  replace fz : ay_at hp 173 18 = some (ρ 1) := fz
  obtain ⟨o0, ho0⟩ := ay_some hT (q := 175) (g := 45) (n := 2) ax_cg_175 ax_cn_45 (j := 4 / 4) (Nat.le_of_ble_eq_true rfl)
  refine ⟨(fun y hy => by cases hy), _, List.mem_cons_self, ρ, fun _ _ => rfl, ax_px hE rfl (fun y hy => ?_)⟩
  cases List.mem_singleton.mp hy
  show ax_XF (ax_XM 0) (500 + 50) [710, 4, ρ 0] hp
  refine (ax_XF_wr (x := 50) (Nat.le_of_ble_eq_true rfl)).mpr ⟨ay_ex_upd hT.1 (ax_cellT hT (q := 175) (g := 45) ax_cg_175), ay_ex_upd hT.1 (ax_cellT hT (q := 177) (g := 47) ax_cg_177), ay_ex_upd hT.1 (ax_cellT hT (q := 176) (g := 46) ax_cg_176), ay_ex_upd hT.1 (ax_cellT hT (q := 181) (g := 51) ax_cg_181), ay_ex_upd hT.1 (ax_cellT hT (q := 173) (g := 11) ax_cg_173), ?_⟩
  show ay_M50 1 (ay_at (ax_upd hp 710 (4) (ρ 0)) 175 1) (ay_at (ax_upd hp 710 (4) (ρ 0)) 177 1) (ay_at (ax_upd hp 710 (4) (ρ 0)) 176 1) (ay_at (ax_upd hp 710 (4) (ρ 0)) 181) (ay_at (ax_upd hp 710 (4) (ρ 0)) 173 18)
  have c0 : ay_at (ax_upd hp 710 (4) (ρ 0)) 175 1 = some (ρ 0) := by rw [ay_upd_eq hT.1 rfl ho0, if_pos (by decide)]
  rw [c0]
  have c1 : ay_at (ax_upd hp 710 (4) (ρ 0)) 177 1 = ay_at hp 177 1 := ay_upd_ne hT.1 (by decide) 1
  rw [c1]
  have c2 : ay_at (ax_upd hp 710 (4) (ρ 0)) 176 1 = ay_at hp 176 1 := ay_upd_ne hT.1 (by decide) 1
  rw [c2]
  have c3 : ay_at (ax_upd hp 710 (4) (ρ 0)) 181 = ay_at hp 181 := funext (fun j => ay_upd_ne hT.1 (by decide) j)
  rw [c3]
  have c4 : ay_at (ax_upd hp 710 (4) (ρ 0)) 173 18 = ay_at hp 173 18 := ay_upd_ne hT.1 (by decide) 18
  rw [c4]
  intro e
  rw [fz] at e
  have e := Option.some.inj e
  omega
theorem axq0_ra1 : ax_RO ax_wM0 (ax_XM 0) axu0_ra1 := by
  intro ρ hp hE hT
  obtain ⟨p1, p2, p3, p4, p5, p⟩ : ay_ex hp 175 ∧ ay_ex hp 177 ∧ ay_ex hp 176 ∧ ay_ex hp 181 ∧ ay_ex hp 173 ∧ ay_M50 1 (ay_at hp 175 1) (ay_at hp 177 1) (ay_at hp 176 1) (ay_at hp 181) (ay_at hp 173 18) := (ax_XF_lt (x := 50) (Nat.le_of_ble_eq_true rfl)).mp (ax_gx hE (50, []) ax_m1)
  obtain ⟨x, hx, x1, x2, x3⟩ := ax_gi hE 0 2147483650 2147483658 (by decide) rfl
  obtain ⟨x4, x5⟩ := ax_bi_pos x1 (by omega)
  obtain ⟨l, hl, l1, l2, l3⟩ := ax_gi hE 2 2147483648 2147483648 (by decide) rfl
  obtain ⟨l4, l5⟩ := ax_bi_pos l1 (by omega)
  have fl := ay_gfj hE 714 4 11 176 1 ax_m2 (ax_vlq rfl rfl) (ax_vlj rfl rfl)
  replace fl : ay_at hp 176 1 = some (ρ 2) := fl
  have ll : ay_ln (ay_at hp 176 1) = l := by rw [fl, hl]; show 4 * l / 4 = l; omega
  obtain ⟨o0, ho0⟩ := ay_some hT (q := 175) (g := 45) (n := 2) ax_cg_175 ax_cn_45 (j := 4 / 4) (Nat.le_of_ble_eq_true rfl)
  refine ⟨(fun y hy => by cases hy), _, List.mem_cons_self, ρ, fun _ _ => rfl, ax_px hE rfl (fun y hy => ?_)⟩
  cases List.mem_singleton.mp hy
  show ax_XF (ax_XM 0) (500 + 50) [710, 4, ρ 0] hp
  refine (ax_XF_wr (x := 50) (Nat.le_of_ble_eq_true rfl)).mpr ⟨ay_ex_upd hT.1 (ax_cellT hT (q := 175) (g := 45) ax_cg_175), ay_ex_upd hT.1 (ax_cellT hT (q := 177) (g := 47) ax_cg_177), ay_ex_upd hT.1 (ax_cellT hT (q := 176) (g := 46) ax_cg_176), ay_ex_upd hT.1 (ax_cellT hT (q := 181) (g := 51) ax_cg_181), ay_ex_upd hT.1 (ax_cellT hT (q := 173) (g := 11) ax_cg_173), ?_⟩
  show ay_M50 1 (ay_at (ax_upd hp 710 (4) (ρ 0)) 175 1) (ay_at (ax_upd hp 710 (4) (ρ 0)) 177 1) (ay_at (ax_upd hp 710 (4) (ρ 0)) 176 1) (ay_at (ax_upd hp 710 (4) (ρ 0)) 181) (ay_at (ax_upd hp 710 (4) (ρ 0)) 173 18)
  have c0 : ay_at (ax_upd hp 710 (4) (ρ 0)) 175 1 = some (ρ 0) := by rw [ay_upd_eq hT.1 rfl ho0, if_pos (by decide)]
  rw [c0]
  have c1 : ay_at (ax_upd hp 710 (4) (ρ 0)) 177 1 = ay_at hp 177 1 := ay_upd_ne hT.1 (by decide) 1
  rw [c1]
  have c2 : ay_at (ax_upd hp 710 (4) (ρ 0)) 176 1 = ay_at hp 176 1 := ay_upd_ne hT.1 (by decide) 1
  rw [c2]
  have c3 : ay_at (ax_upd hp 710 (4) (ρ 0)) 181 = ay_at hp 181 := funext (fun j => ay_upd_ne hT.1 (by decide) j)
  rw [c3]
  have c4 : ay_at (ax_upd hp 710 (4) (ρ 0)) 173 18 = ay_at hp 173 18 := ay_upd_ne hT.1 (by decide) 18
  rw [c4]
  intro e
  obtain ⟨p7, p8, p9⟩ := p e
  refine ⟨?_, p8, fun j hj => ?_⟩
  · show ρ 0 / 4 ≤ 10
    omega
  · rw [ll] at hj
    omega
theorem axq0_ra2 : ax_RO ax_wM0 (ax_XM 0) axu0_ra2 := by
  intro ρ hp hE hT
  obtain ⟨l, hl⟩ : ∃ z, ay_ln (ay_at hp 176 1) = z := ⟨_, rfl⟩
  obtain ⟨r, hr⟩ : ∃ z, ay_ln (ay_at hp 173 23) = z := ⟨_, rfl⟩
  obtain ⟨s, hs⟩ : ∃ z, ay_ln (ay_at hp 173 24) = z := ⟨_, rfl⟩
  obtain ⟨t, ht⟩ : ∃ z, ay_ln (ay_at hp 173 25) = z := ⟨_, rfl⟩
  obtain ⟨ρ', h1, h2⟩ := ax_pn (K := (20 - l) + (1 - r) + (1 - s) + (1 - t) + 1) (xf := [(54, [3])]) hE (by decide) (fun ρ' h1 h2 x hx => by
    cases List.mem_singleton.mp hx
    refine (ax_XF_lt (x := 54) (Nat.le_of_ble_eq_true rfl)).mpr ⟨(ax_cellT hT (q := 176) (g := 46) ax_cg_176), (ax_cellT hT (q := 173) (g := 11) ax_cg_173), (ax_cellT hT (q := 173) (g := 11) ax_cg_173), (ax_cellT hT (q := 173) (g := 11) ax_cg_173), ?_⟩
    show (20 - ay_ln (ay_at hp 176 1)) + (1 - ay_ln (ay_at hp 173 23)) + (1 - ay_ln (ay_at hp 173 24)) + (1 - ay_ln (ay_at hp 173 25)) + 1 ≤ ρ' 0 / 4
    rw [h2, hl, hr, hs, ht]
    omega)
  exact ⟨(fun x hx => by cases hx), _, List.mem_cons_self, ρ', h1, h2⟩
theorem axq0_nt50 : ax_RO ax_wM0 (ax_XM 0) axu0_nt50 := by
  intro ρ hp hE hT
  have fn := ay_gfj hE 710 4 0 175 1 ax_m0 (ax_vlq rfl rfl) (ax_vlj rfl rfl)
  replace fn : ay_at hp 175 1 = some (0) := fn
  have ln : ay_ln (ay_at hp 175 1) = 0 := by rw [fn]; rfl
  have fr := ay_gfj hE 718 4 0 177 1 ax_m1 (ax_vlq rfl rfl) (ax_vlj rfl rfl)
  replace fr : ay_at hp 177 1 = some (0) := fr
  have lr : ay_ln (ay_at hp 177 1) = 0 := by rw [fr]; rfl
  have fl := ay_gfj hE 714 4 0 176 1 ax_m2 (ax_vlq rfl rfl) (ax_vlj rfl rfl)
  replace fl : ay_at hp 176 1 = some (0) := fl
  have ll : ay_ln (ay_at hp 176 1) = 0 := by rw [fl]; rfl
  refine ⟨(fun y hy => by cases hy), _, List.mem_cons_self, ρ, fun _ _ => rfl, ax_px hE rfl (fun y hy => ?_)⟩
  cases List.mem_singleton.mp hy
  refine (ax_XF_lt (x := 50) (Nat.le_of_ble_eq_true rfl)).mpr ⟨(ax_cellT hT (q := 175) (g := 45) ax_cg_175), (ax_cellT hT (q := 177) (g := 47) ax_cg_177), (ax_cellT hT (q := 176) (g := 46) ax_cg_176), (ax_cellT hT (q := 181) (g := 51) ax_cg_181), (ax_cellT hT (q := 173) (g := 11) ax_cg_173), ?_⟩
  intro _
  refine ⟨?_, ?_, fun j hj => ?_⟩
  · show ay_ln (ay_at hp 175 1) ≤ 10
    rw [ln]
    decide
  · show ay_ln (ay_at hp 177 1) ≤ 9
    rw [lr]
    decide
  · replace hj : j < 2 * ay_ln (ay_at hp 176 1) := hj
    rw [ll] at hj
    omega

theorem axq0_nt52 : ax_RO ax_wM0 (ax_XM 0) axu0_nt52 := by
  intro ρ hp hE hT
  have fr := ay_gfj hE 730 4 0 180 1 ax_m0 (ax_vlq rfl rfl) (ax_vlj rfl rfl)
  replace fr : ay_at hp 180 1 = some (0) := fr
  have lr : ay_ln (ay_at hp 180 1) = 0 := by rw [fr]; rfl
  have fu := ay_gfj hE 726 4 0 179 1 ax_m1 (ax_vlq rfl rfl) (ax_vlj rfl rfl)
  replace fu : ay_at hp 179 1 = some (0) := fu
  have lu : ay_ln (ay_at hp 179 1) = 0 := by rw [fu]; rfl
  refine ⟨(fun y hy => by cases hy), _, List.mem_cons_self, ρ, fun _ _ => rfl, ax_px hE rfl (fun y hy => ?_)⟩
  cases List.mem_singleton.mp hy
  refine (ax_XF_lt (x := 52) (Nat.le_of_ble_eq_true rfl)).mpr ⟨(ax_cellT hT (q := 182) (g := 52) ax_cg_182), (ax_cellT hT (q := 180) (g := 50) ax_cg_180), (ax_cellT hT (q := 179) (g := 49) ax_cg_179), (ax_cellT hT (q := 173) (g := 11) ax_cg_173), (ax_cellT hT (q := 173) (g := 11) ax_cg_173), ?_⟩
  refine ⟨fun _ k hk => ?_, fun _ => ⟨lr, lu⟩⟩
  replace hk : k ≤ ay_ln (ay_at hp 180 1) := hk
  rw [lr] at hk
  rw [show k = 0 by omega]
  exact fun z => by cases z

