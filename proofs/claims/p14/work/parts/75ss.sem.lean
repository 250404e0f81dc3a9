section
theorem ay_ty1 {w : ax_W} {hp : rx_H} {q g k n lo hi j v : Nat} {l : List (Nat × ax_Y)} (hT : ax_HT w hp) (hw : w.1[q]? = some g) (ht : w.2.1[g]? = some (k, n, l)) (hl : ax_at l j = some (0, lo, hi)) (hv : ay_at hp q j = some v) : v % 4 = 0 ∧ v / 4 < 4294967296 ∧ lo ≤ rx_bi (v / 4) ∧ rx_bi (v / 4) ≤ hi := by
  obtain ⟨k', n', tl, f', b1, b2, b3, b4⟩ := hT.2 q g hw
  rw [ay_eq b2] at hv
  rw [ht] at b1
  cases b1
  obtain ⟨t, t1, t2⟩ := b4 j v hv
  rw [hl] at t1
  cases t1
  rcases t2 with ⟨-, h⟩ | ⟨h, -⟩ | ⟨h, -⟩ | ⟨h, -⟩
  · exact h
  · cases h
  · cases h
  · cases h
theorem axq1_fa0 : ax_RO ax_wM1 (ax_XM 1) axu1_fa0 := by
  intro ρ hp hE hT
  obtain ⟨x, hx, x1, x2, x3⟩ := ax_gi hE 0 2147483649 2147483652 (by decide) rfl
  obtain ⟨x4, x5⟩ := ax_bi_pos x1 (by omega)
  obtain ⟨o0, ho0⟩ := ay_some hT (q := 173) (g := 11) (n := 58) (ax_wc ax_WW1 ax_cg_173) (ax_wn ax_WW1 ax_cn_11) (j := 72 / 4) (Nat.le_of_ble_eq_true rfl)
  refine ⟨(fun y hy => by cases hy), _, List.mem_cons_self, ρ, fun _ _ => rfl, ax_px hE rfl (fun y hy => ?_)⟩
  cases List.mem_singleton.mp hy
  show ax_XF (ax_XM 1) (500 + 50) [702, 72, ρ 0] hp
  refine (ax_XF_wr (x := 50) (Nat.le_of_ble_eq_true rfl)).mpr ⟨ay_ex_upd hT.1 (ax_cellT hT (q := 175) (g := 45) (ax_wc ax_WW1 ax_cg_175)), ay_ex_upd hT.1 (ax_cellT hT (q := 177) (g := 47) (ax_wc ax_WW1 ax_cg_177)), ay_ex_upd hT.1 (ax_cellT hT (q := 176) (g := 46) (ax_wc ax_WW1 ax_cg_176)), ay_ex_upd hT.1 (ax_cellT hT (q := 181) (g := 51) (ax_wc ax_WW1 ax_cg_181)), ay_ex_upd hT.1 (ax_cellT hT (q := 173) (g := 11) (ax_wc ax_WW1 ax_cg_173)), ?_⟩
  show ay_M50 0 (ay_at (ax_upd hp 702 (72) (ρ 0)) 175 0) (ay_at (ax_upd hp 702 (72) (ρ 0)) 177 0) (ay_at (ax_upd hp 702 (72) (ρ 0)) 176 0) (ay_at (ax_upd hp 702 (72) (ρ 0)) 181) (ay_at (ax_upd hp 702 (72) (ρ 0)) 173 18)
  have c0 : ay_at (ax_upd hp 702 (72) (ρ 0)) 175 0 = ay_at hp 175 0 := ay_upd_ne hT.1 (by decide) 0
  rw [c0]
  have c1 : ay_at (ax_upd hp 702 (72) (ρ 0)) 177 0 = ay_at hp 177 0 := ay_upd_ne hT.1 (by decide) 0
  rw [c1]
  have c2 : ay_at (ax_upd hp 702 (72) (ρ 0)) 176 0 = ay_at hp 176 0 := ay_upd_ne hT.1 (by decide) 0
  rw [c2]
  have c3 : ay_at (ax_upd hp 702 (72) (ρ 0)) 181 = ay_at hp 181 := funext (fun j => ay_upd_ne hT.1 (by decide) j)
  rw [c3]
  have c4 : ay_at (ax_upd hp 702 (72) (ρ 0)) 173 18 = some (ρ 0) := by rw [ay_upd_eq hT.1 rfl ho0, if_pos (by decide)]
  rw [c4]
  intro z
  have z := Option.some.inj z
  omega
theorem axq1_fa2 : ax_RO ax_wM1 (ax_XM 1) axu1_fa2 := by
  intro ρ hp hE hT
  obtain ⟨p1, p2, p3, p4, p5, p⟩ : ay_ex hp 182 ∧ ay_ex hp 180 ∧ ay_ex hp 179 ∧ ay_ex hp 173 ∧ ay_ex hp 173 ∧ ay_M52 0 (ay_at hp 182) (ay_at hp 180 0) (ay_at hp 179 0) (ay_at hp 173 18) (ay_at hp 173 24) := (ax_XF_lt (x := 52) (Nat.le_of_ble_eq_true rfl)).mp (ax_gx hE (52, []) (by decide))
  obtain ⟨x, hx, x1, x2, x3⟩ := ax_gi hE 0 2147483649 2147483652 (by decide) rfl
  obtain ⟨x4, x5⟩ := ax_bi_pos x1 (by omega)
  obtain ⟨o0, ho0⟩ := ay_some hT (q := 173) (g := 11) (n := 58) (ax_wc ax_WW1 ax_cg_173) (ax_wn ax_WW1 ax_cn_11) (j := 72 / 4) (Nat.le_of_ble_eq_true rfl)
  refine ⟨(fun y hy => by cases hy), _, List.mem_cons_self, ρ, fun _ _ => rfl, ax_px hE rfl (fun y hy => ?_)⟩
  cases List.mem_singleton.mp hy
  show ax_XF (ax_XM 1) (500 + 52) [702, 72, ρ 0] hp
  refine (ax_XF_wr (x := 52) (Nat.le_of_ble_eq_true rfl)).mpr ⟨ay_ex_upd hT.1 (ax_cellT hT (q := 182) (g := 52) (ax_wc ax_WW1 ax_cg_182)), ay_ex_upd hT.1 (ax_cellT hT (q := 180) (g := 50) (ax_wc ax_WW1 ax_cg_180)), ay_ex_upd hT.1 (ax_cellT hT (q := 179) (g := 49) (ax_wc ax_WW1 ax_cg_179)), ay_ex_upd hT.1 (ax_cellT hT (q := 173) (g := 11) (ax_wc ax_WW1 ax_cg_173)), ay_ex_upd hT.1 (ax_cellT hT (q := 173) (g := 11) (ax_wc ax_WW1 ax_cg_173)), ?_⟩
  show ay_M52 0 (ay_at (ax_upd hp 702 (72) (ρ 0)) 182) (ay_at (ax_upd hp 702 (72) (ρ 0)) 180 0) (ay_at (ax_upd hp 702 (72) (ρ 0)) 179 0) (ay_at (ax_upd hp 702 (72) (ρ 0)) 173 18) (ay_at (ax_upd hp 702 (72) (ρ 0)) 173 24)
  have c0 : ay_at (ax_upd hp 702 (72) (ρ 0)) 182 = ay_at hp 182 := funext (fun j => ay_upd_ne hT.1 (by decide) j)
  rw [c0]
  have c1 : ay_at (ax_upd hp 702 (72) (ρ 0)) 180 0 = ay_at hp 180 0 := ay_upd_ne hT.1 (by decide) 0
  rw [c1]
  have c2 : ay_at (ax_upd hp 702 (72) (ρ 0)) 179 0 = ay_at hp 179 0 := ay_upd_ne hT.1 (by decide) 0
  rw [c2]
  have c3 : ay_at (ax_upd hp 702 (72) (ρ 0)) 173 18 = some (ρ 0) := by rw [ay_upd_eq hT.1 rfl ho0, if_pos (by decide)]
  rw [c3]
  have c4 : ay_at (ax_upd hp 702 (72) (ρ 0)) 173 24 = ay_at hp 173 24 := by rw [ay_upd_eq hT.1 rfl ho0, if_neg (by decide)]
  rw [c4]
  refine ⟨fun z => ?_, p.2⟩
  have z := Option.some.inj z
  omega
theorem axq1_ly0 : ax_RO ax_wM1 (ax_XM 1) axu1_ly0 := by
  intro ρ hp hE hT
  obtain ⟨p1, p2, p3, p4, p5, p6, p⟩ : ay_ex hp 185 ∧ ay_ex hp 173 ∧ ay_ex hp 182 ∧ ay_ex hp 180 ∧ ay_ex hp 179 ∧ ay_ex hp 173 ∧ ay_M40 0 (ρ 1) (ρ 2) (ρ 3) (ρ 4) (ρ 5) (ay_at hp 185) (ay_at hp 173 27) (ay_at hp 182) (ay_at hp 180 0) (ay_at hp 179 0) (ay_at hp 173 28) := (ax_XF_lt (x := 40) (Nat.le_of_ble_eq_true rfl)).mp (ax_gx hE (40, [7, 11, 15, 19, 23]) ax_m0)
  replace p : ay_pg 0 (ρ 1 / 4) (ρ 2 / 4) (ρ 3 / 4) (ρ 4 / 4) (ρ 5 / 4) (ay_at hp 185) (ay_ln (ay_at hp 173 27)) (ay_at hp 182) (ay_ln (ay_at hp 180 0)) (ay_ln (ay_at hp 179 0)) (ay_ln (ay_at hp 173 28)) := p
  obtain ⟨L, hL, L1, L2, L3⟩ := ax_gi hE 0 2147483648 2147483748 (by decide) rfl
  obtain ⟨L4, L5⟩ := ax_bi_pos L1 (by omega)
  have d4 : ∀ z : Nat, 4 * z / 4 = z := fun z => by omega
  have fL := ay_gfj hE 730 0 3 180 0 ax_m1 (ax_vlq rfl rfl) (ax_vlj rfl rfl)
  replace fL : ay_at hp 180 0 = some (ρ 0) := fL
  have lL : ay_ln (ay_at hp 180 0) = L := by rw [fL, hL]; show 4 * L / 4 = L; omega
  obtain ⟨u0, hu0⟩ := ay_some hT (q := 179) (g := 49) (n := 2) (ax_wc ax_WW1 ax_cg_179) (ax_wn ax_WW1 ax_cn_49) (j := 0) (by decide)
  obtain ⟨w1, w2, w3, w4⟩ := ay_int hT (q := 179) (g := 49) (n := 2) (lo := 2147483648) (hi := 2147483688) (ax_wc ax_WW1 ax_cg_179) rfl hu0
  have hun : ay_ln (ay_at hp 179 0) ≤ 40 := by
    rw [hu0]
    show u0 / 4 ≤ 40
    obtain ⟨g1, g2⟩ := ax_bi_pos w2 w3
    omega
  have hb := (ay_pg_bound p).1
  rw [lL] at hb
  refine ⟨fun y hy => ?_, _, List.mem_cons_self, ρ, fun _ _ => rfl, ax_px hE rfl (fun y hy => by cases hy)⟩
  cases List.mem_singleton.mp hy
  show 2147483648 ≤ rx_bi (ρ 0 / 4) ∧ rx_bi (ρ 0 / 4) ≤ 2147483747
  rw [hL, d4, ax_bi_nat (by omega)]
  omega

theorem axq1_ly1 : ax_RO ax_wM1 (ax_XM 1) axu1_ly1 := by
  intro ρ hp hE hT
  obtain ⟨p1, p2, p3, p4, p5, p6, p⟩ : ay_ex hp 185 ∧ ay_ex hp 173 ∧ ay_ex hp 182 ∧ ay_ex hp 180 ∧ ay_ex hp 179 ∧ ay_ex hp 173 ∧ ay_M40 0 (ρ 3) (ρ 4) (ρ 5) (ρ 6) (ρ 7) (ay_at hp 185) (ay_at hp 173 27) (ay_at hp 182) (ay_at hp 180 0) (ay_at hp 179 0) (ay_at hp 173 28) := (ax_XF_lt (x := 40) (Nat.le_of_ble_eq_true rfl)).mp (ax_gx hE (40, [15, 19, 23, 27, 31]) ax_m0)
  replace p : ay_pg 0 (ρ 3 / 4) (ρ 4 / 4) (ρ 5 / 4) (ρ 6 / 4) (ρ 7 / 4) (ay_at hp 185) (ay_ln (ay_at hp 173 27)) (ay_at hp 182) (ay_ln (ay_at hp 180 0)) (ay_ln (ay_at hp 179 0)) (ay_ln (ay_at hp 173 28)) := p
  obtain ⟨j, hj, j1, j2, j3⟩ := ax_gi hE 1 2147483648 2147483847 (by decide) rfl
  obtain ⟨j4, j5⟩ := ax_bi_pos j1 (by omega)
  obtain ⟨L, hL, L1, L2, L3⟩ := ax_gi hE 2 2147483648 2147483747 (by decide) rfl
  obtain ⟨L4, L5⟩ := ax_bi_pos L1 (by omega)
  have d4 : ∀ z : Nat, 4 * z / 4 = z := fun z => by omega
  have fL := ay_gfj hE 730 0 11 180 0 ax_m1 (ax_vlq rfl rfl) (ax_vlj rfl rfl)
  replace fL : ay_at hp 180 0 = some (ρ 2) := fL
  have lL : ay_ln (ay_at hp 180 0) = L := by rw [fL, hL]; show 4 * L / 4 = L; omega
  have hj2 : ρ 1 = 4 * (0 + L) := ay_s hE 0 11 7 (a := 0) (by decide) (ax_vl_c (v := 0) (by decide)) hL (by decide) (by omega)
  obtain ⟨o0, ho0⟩ := ay_some hT (q := 182) (g := 52) (n := 200) (ax_wc ax_WW1 ax_cg_182) (ax_wn ax_WW1 ax_cn_52) (j := ρ 1 / 4) (by omega)
  refine ⟨(fun y hy => by cases hy), _, List.mem_cons_self, ρ, fun _ _ => rfl, ax_px hE rfl (fun y hy => ?_)⟩
  cases List.mem_singleton.mp hy
  show ax_XF (ax_XM 1) (500 + 40) [738, ρ 1, ρ 0, ρ 3, ρ 4, ρ 5, ρ 6, ρ 7] hp
  refine (ax_XF_wr (x := 40) (Nat.le_of_ble_eq_true rfl)).mpr ⟨ay_ex_upd hT.1 (ax_cellT hT (q := 185) (g := 55) (ax_wc ax_WW1 ax_cg_185)), ay_ex_upd hT.1 (ax_cellT hT (q := 173) (g := 11) (ax_wc ax_WW1 ax_cg_173)), ay_ex_upd hT.1 (ax_cellT hT (q := 182) (g := 52) (ax_wc ax_WW1 ax_cg_182)), ay_ex_upd hT.1 (ax_cellT hT (q := 180) (g := 50) (ax_wc ax_WW1 ax_cg_180)), ay_ex_upd hT.1 (ax_cellT hT (q := 179) (g := 49) (ax_wc ax_WW1 ax_cg_179)), ay_ex_upd hT.1 (ax_cellT hT (q := 173) (g := 11) (ax_wc ax_WW1 ax_cg_173)), ?_⟩
  show ay_M40 0 (ρ 3) (ρ 4) (ρ 5) (ρ 6) (ρ 7) (ay_at (ax_upd hp 738 (ρ 1) (ρ 0)) 185) (ay_at (ax_upd hp 738 (ρ 1) (ρ 0)) 173 27) (ay_at (ax_upd hp 738 (ρ 1) (ρ 0)) 182) (ay_at (ax_upd hp 738 (ρ 1) (ρ 0)) 180 0) (ay_at (ax_upd hp 738 (ρ 1) (ρ 0)) 179 0) (ay_at (ax_upd hp 738 (ρ 1) (ρ 0)) 173 28)
  have c0 : ay_at (ax_upd hp 738 (ρ 1) (ρ 0)) 185 = ay_at hp 185 := funext (fun j => ay_upd_ne hT.1 (by decide) j)
  rw [c0]
  have c1 : ay_at (ax_upd hp 738 (ρ 1) (ρ 0)) 173 27 = ay_at hp 173 27 := ay_upd_ne hT.1 (by decide) 27
  rw [c1]
  have c2 : ∀ j, ay_at (ax_upd hp 738 (ρ 1) (ρ 0)) 182 j = if j = (ρ 1) / 4 then some (ρ 0) else ay_at hp 182 j := fun j => ay_upd_eq hT.1 rfl ho0 j
  have c3 : ay_at (ax_upd hp 738 (ρ 1) (ρ 0)) 180 0 = ay_at hp 180 0 := ay_upd_ne hT.1 (by decide) 0
  rw [c3]
  have c4 : ay_at (ax_upd hp 738 (ρ 1) (ρ 0)) 179 0 = ay_at hp 179 0 := ay_upd_ne hT.1 (by decide) 0
  rw [c4]
  have c5 : ay_at (ax_upd hp 738 (ρ 1) (ρ 0)) 173 28 = ay_at hp 173 28 := ay_upd_ne hT.1 (by decide) 28
  rw [c5]
  refine ay_pg_far p (fun j hj => rfl) (fun j hj => ?_)
  rw [lL] at hj
  rw [c2, if_neg (by omega)]
theorem axq1_ly2 : ax_RO ax_wM1 (ax_XM 1) axu1_ly2 := by
  intro ρ hp hE hT
  obtain ⟨p1, p2, p⟩ : ay_ex hp 182 ∧ ay_ex hp 180 ∧ ay_M26 (1) (ay_at hp 182) (ay_at hp 180 1) := (ax_XF_lt (x := 26) (Nat.le_of_ble_eq_true rfl)).mp (ax_gx hE (26, []) ax_m0)
  obtain ⟨j, hj, j1, j2, j3⟩ := ax_gi hE 1 2147483648 2147483747 (by decide) rfl
  obtain ⟨j4, j5⟩ := ax_bi_pos j1 (by omega)
  obtain ⟨o0, ho0⟩ := ay_some hT (q := 182) (g := 52) (n := 200) (ax_wc ax_WW1 ax_cg_182) (ax_wn ax_WW1 ax_cn_52) (j := ρ 1 / 4) (by omega)
  obtain ⟨u0, hu0⟩ := ay_some hT (q := 180) (g := 50) (n := 2) (ax_wc ax_WW1 ax_cg_180) (ax_wn ax_WW1 ax_cn_50) (j := 1) (by decide)
  obtain ⟨w1, w2, w3, w4⟩ := ay_int hT (q := 180) (g := 50) (n := 2) (lo := 2147483648) (hi := 2147483748) (ax_wc ax_WW1 ax_cg_180) rfl hu0
  have hrd : ay_ln (ay_at hp 180 1) ≤ 100 := by
    rw [hu0]
    show u0 / 4 ≤ 100
    obtain ⟨g1, g2⟩ := ax_bi_pos w2 w3
    omega
  refine ⟨(fun y hy => by cases hy), _, List.mem_cons_self, ρ, fun _ _ => rfl, ax_px hE rfl (fun y hy => ?_)⟩
  cases List.mem_singleton.mp hy
  show ax_XF (ax_XM 1) (500 + 26) [738, ρ 1, ρ 0] hp
  refine (ax_XF_wr (x := 26) (Nat.le_of_ble_eq_true rfl)).mpr ⟨ay_ex_upd hT.1 (ax_cellT hT (q := 182) (g := 52) (ax_wc ax_WW1 ax_cg_182)), ay_ex_upd hT.1 (ax_cellT hT (q := 180) (g := 50) (ax_wc ax_WW1 ax_cg_180)), ?_⟩
  show ay_M26 (1) (ay_at (ax_upd hp 738 (ρ 1) (ρ 0)) 182) (ay_at (ax_upd hp 738 (ρ 1) (ρ 0)) 180 1)
  have c0 : ∀ j, ay_at (ax_upd hp 738 (ρ 1) (ρ 0)) 182 j = if j = (ρ 1) / 4 then some (ρ 0) else ay_at hp 182 j := fun j => ay_upd_eq hT.1 rfl ho0 j
  have c1 : ay_at (ax_upd hp 738 (ρ 1) (ρ 0)) 180 1 = ay_at hp 180 1 := ay_upd_ne hT.1 (by decide) 1
  rw [c1]
  intro k hk
  rw [ay_ht_same (ru := ay_at hp 182) (fun j hj => by rw [c0, if_neg (by omega)])]
  exact p k hk
theorem axq1_lyO : ax_RO ax_wM1 (ax_XM 1) axu1_lyO := by
  intro ρ hp hE hT
  obtain ⟨p1, p2, p3, p4, p5, p6, p⟩ : ay_ex hp 185 ∧ ay_ex hp 173 ∧ ay_ex hp 182 ∧ ay_ex hp 180 ∧ ay_ex hp 179 ∧ ay_ex hp 173 ∧ ay_M40 0 (4) (0) (4) (8) (4) (ay_at hp 185) (ay_at hp 173 27) (ay_at hp 182) (ay_at hp 180 0) (ay_at hp 179 0) (ay_at hp 173 28) := (ax_XF_lt (x := 40) (Nat.le_of_ble_eq_true rfl)).mp (ax_gx hE (40, [4, 0, 4, 8, 4]) ax_m0)
  replace p : ay_pg 0 1 0 1 2 1 (ay_at hp 185) (ay_ln (ay_at hp 173 27)) (ay_at hp 182) (ay_ln (ay_at hp 180 0)) (ay_ln (ay_at hp 179 0)) (ay_ln (ay_at hp 173 28)) := p
  obtain ⟨L, hL, L1, L2, L3⟩ := ax_gi hE 1 2147483648 2147483747 (by decide) rfl
  obtain ⟨L4, L5⟩ := ax_bi_pos L1 (by omega)
  obtain ⟨c, hc, c1, c2, c3⟩ := ax_gi hE 2 2147483648 2147484650 (by decide) rfl
  obtain ⟨c4, c5⟩ := ax_bi_pos c1 (by omega)
  have d4 : ∀ z : Nat, 4 * z / 4 = z := fun z => by omega
  have fL := ay_gfj hE 730 0 7 180 0 ax_m1 (ax_vlq rfl rfl) (ax_vlj rfl rfl)
  replace fL : ay_at hp 180 0 = some (ρ 1) := fL
  have lL : ay_ln (ay_at hp 180 0) = L := by rw [fL, hL]; show 4 * L / 4 = L; omega
  have hL2 : ρ 0 = 4 * (L + 1) := ay_s hE 7 4 3 (b := 1) (by decide) hL (ax_vl_c (v := 4) (by decide)) (by omega) (by decide)
  have hj2 : ρ 3 = 4 * (0 + L) := ay_s hE 0 7 15 (a := 0) (by decide) (ax_vl_c (v := 0) (by decide)) hL (by decide) (by omega)
  have fr := ay_gf hE 738 15 11 182 ax_m4 (ax_vlq rfl rfl)
  replace fr : ay_at hp 182 (ρ 3 / 4) = some (ρ 2) := fr
  rw [hj2, d4, hc] at fr
  replace fr : ay_at hp 182 (100 * 0 + L) = some (4 * c) := fr
  rw [lL] at p
  obtain ⟨o0, ho0⟩ := ay_some hT (q := 180) (g := 50) (n := 2) (ax_wc ax_WW1 ax_cg_180) (ax_wn ax_WW1 ax_cn_50) (j := 0 / 4) (Nat.le_of_ble_eq_true rfl)
  refine ⟨(fun y hy => by cases hy), _, List.mem_cons_self, ρ, fun _ _ => rfl, ax_px hE rfl (fun y hy => ?_)⟩
  cases List.mem_singleton.mp hy
  show ax_XF (ax_XM 1) (500 + 40) [730, 0, ρ 0, 0, 0, 4, 0, 4] hp
  refine (ax_XF_wr (x := 40) (Nat.le_of_ble_eq_true rfl)).mpr ⟨ay_ex_upd hT.1 (ax_cellT hT (q := 185) (g := 55) (ax_wc ax_WW1 ax_cg_185)), ay_ex_upd hT.1 (ax_cellT hT (q := 173) (g := 11) (ax_wc ax_WW1 ax_cg_173)), ay_ex_upd hT.1 (ax_cellT hT (q := 182) (g := 52) (ax_wc ax_WW1 ax_cg_182)), ay_ex_upd hT.1 (ax_cellT hT (q := 180) (g := 50) (ax_wc ax_WW1 ax_cg_180)), ay_ex_upd hT.1 (ax_cellT hT (q := 179) (g := 49) (ax_wc ax_WW1 ax_cg_179)), ay_ex_upd hT.1 (ax_cellT hT (q := 173) (g := 11) (ax_wc ax_WW1 ax_cg_173)), ?_⟩
  show ay_M40 0 (0) (0) (4) (0) (4) (ay_at (ax_upd hp 730 (0) (ρ 0)) 185) (ay_at (ax_upd hp 730 (0) (ρ 0)) 173 27) (ay_at (ax_upd hp 730 (0) (ρ 0)) 182) (ay_at (ax_upd hp 730 (0) (ρ 0)) 180 0) (ay_at (ax_upd hp 730 (0) (ρ 0)) 179 0) (ay_at (ax_upd hp 730 (0) (ρ 0)) 173 28)
  have c0 : ay_at (ax_upd hp 730 (0) (ρ 0)) 185 = ay_at hp 185 := funext (fun j => ay_upd_ne hT.1 (by decide) j)
  rw [c0]
  have c1 : ay_at (ax_upd hp 730 (0) (ρ 0)) 173 27 = ay_at hp 173 27 := ay_upd_ne hT.1 (by decide) 27
  rw [c1]
  have c2 : ay_at (ax_upd hp 730 (0) (ρ 0)) 182 = ay_at hp 182 := funext (fun j => ay_upd_ne hT.1 (by decide) j)
  rw [c2]
  have c3 : ay_at (ax_upd hp 730 (0) (ρ 0)) 180 0 = some (ρ 0) := by rw [ay_upd_eq hT.1 rfl ho0, if_pos (by decide)]
  rw [c3]
  have c4 : ay_at (ax_upd hp 730 (0) (ρ 0)) 179 0 = ay_at hp 179 0 := ay_upd_ne hT.1 (by decide) 0
  rw [c4]
  have c5 : ay_at (ax_upd hp 730 (0) (ρ 0)) 173 28 = ay_at hp 173 28 := ay_upd_ne hT.1 (by decide) 28
  rw [c5]
  show ay_pg 0 0 0 1 0 1 (ay_at hp 185) (ay_ln (ay_at hp 173 27)) (ay_at hp 182) (ρ 0 / 4) (ay_ln (ay_at hp 179 0)) (ay_ln (ay_at hp 173 28))
  rw [hL2, d4]
  exact ay_pg_O p fr (by omega)
theorem axq1_lyB : ax_RO ax_wM1 (ax_XM 1) axu1_lyB := by
  intro ρ hp hE hT
  obtain ⟨p1, p2, p3, p4, p5, p6, p⟩ : ay_ex hp 185 ∧ ay_ex hp 173 ∧ ay_ex hp 182 ∧ ay_ex hp 180 ∧ ay_ex hp 179 ∧ ay_ex hp 173 ∧ ay_M40 0 (0) (4) (4) (4) (0) (ay_at hp 185) (ay_at hp 173 27) (ay_at hp 182) (ay_at hp 180 0) (ay_at hp 179 0) (ay_at hp 173 28) := (ax_XF_lt (x := 40) (Nat.le_of_ble_eq_true rfl)).mp (ax_gx hE (40, [0, 4, 4, 4, 0]) ax_m0)
  replace p : ay_pg 0 0 1 1 1 0 (ay_at hp 185) (ay_ln (ay_at hp 173 27)) (ay_at hp 182) (ay_ln (ay_at hp 180 0)) (ay_ln (ay_at hp 179 0)) (ay_ln (ay_at hp 173 28)) := p
  obtain ⟨L, hL, L1, L2, L3⟩ := ax_gi hE 1 2147483648 2147483747 (by decide) rfl
  obtain ⟨L4, L5⟩ := ax_bi_pos L1 (by omega)
  obtain ⟨c, hc, c1, c2, c3⟩ := ax_gi hE 2 2147484651 2147484655 (by decide) rfl
  obtain ⟨c4, c5⟩ := ax_bi_pos c1 (by omega)
  have d4 : ∀ z : Nat, 4 * z / 4 = z := fun z => by omega
  have fL := ay_gfj hE 730 0 7 180 0 ax_m1 (ax_vlq rfl rfl) (ax_vlj rfl rfl)
  replace fL : ay_at hp 180 0 = some (ρ 1) := fL
  have lL : ay_ln (ay_at hp 180 0) = L := by rw [fL, hL]; show 4 * L / 4 = L; omega
  have hL2 : ρ 0 = 4 * (L + 1) := ay_s hE 7 4 3 (b := 1) (by decide) hL (ax_vl_c (v := 4) (by decide)) (by omega) (by decide)
  have hj2 : ρ 3 = 4 * (0 + L) := ay_s hE 0 7 15 (a := 0) (by decide) (ax_vl_c (v := 0) (by decide)) hL (by decide) (by omega)
  have fr := ay_gf hE 738 15 11 182 ax_m4 (ax_vlq rfl rfl)
  replace fr : ay_at hp 182 (ρ 3 / 4) = some (ρ 2) := fr
  rw [hj2, d4, hc] at fr
  replace fr : ay_at hp 182 (100 * 0 + L) = some (4 * c) := fr
  rw [lL] at p
  obtain ⟨o0, ho0⟩ := ay_some hT (q := 180) (g := 50) (n := 2) (ax_wc ax_WW1 ax_cg_180) (ax_wn ax_WW1 ax_cn_50) (j := 0 / 4) (Nat.le_of_ble_eq_true rfl)
  refine ⟨(fun y hy => by cases hy), _, List.mem_cons_self, ρ, fun _ _ => rfl, ax_px hE rfl (fun y hy => ?_)⟩
  cases List.mem_singleton.mp hy
  show ax_XF (ax_XM 1) (500 + 40) [730, 0, ρ 0, 0, 0, 4, 0, 0] hp
  refine (ax_XF_wr (x := 40) (Nat.le_of_ble_eq_true rfl)).mpr ⟨ay_ex_upd hT.1 (ax_cellT hT (q := 185) (g := 55) (ax_wc ax_WW1 ax_cg_185)), ay_ex_upd hT.1 (ax_cellT hT (q := 173) (g := 11) (ax_wc ax_WW1 ax_cg_173)), ay_ex_upd hT.1 (ax_cellT hT (q := 182) (g := 52) (ax_wc ax_WW1 ax_cg_182)), ay_ex_upd hT.1 (ax_cellT hT (q := 180) (g := 50) (ax_wc ax_WW1 ax_cg_180)), ay_ex_upd hT.1 (ax_cellT hT (q := 179) (g := 49) (ax_wc ax_WW1 ax_cg_179)), ay_ex_upd hT.1 (ax_cellT hT (q := 173) (g := 11) (ax_wc ax_WW1 ax_cg_173)), ?_⟩
  show ay_M40 0 (0) (0) (4) (0) (0) (ay_at (ax_upd hp 730 (0) (ρ 0)) 185) (ay_at (ax_upd hp 730 (0) (ρ 0)) 173 27) (ay_at (ax_upd hp 730 (0) (ρ 0)) 182) (ay_at (ax_upd hp 730 (0) (ρ 0)) 180 0) (ay_at (ax_upd hp 730 (0) (ρ 0)) 179 0) (ay_at (ax_upd hp 730 (0) (ρ 0)) 173 28)
  have c0 : ay_at (ax_upd hp 730 (0) (ρ 0)) 185 = ay_at hp 185 := funext (fun j => ay_upd_ne hT.1 (by decide) j)
  rw [c0]
  have c1 : ay_at (ax_upd hp 730 (0) (ρ 0)) 173 27 = ay_at hp 173 27 := ay_upd_ne hT.1 (by decide) 27
  rw [c1]
  have c2 : ay_at (ax_upd hp 730 (0) (ρ 0)) 182 = ay_at hp 182 := funext (fun j => ay_upd_ne hT.1 (by decide) j)
  rw [c2]
  have c3 : ay_at (ax_upd hp 730 (0) (ρ 0)) 180 0 = some (ρ 0) := by rw [ay_upd_eq hT.1 rfl ho0, if_pos (by decide)]
  rw [c3]
  have c4 : ay_at (ax_upd hp 730 (0) (ρ 0)) 179 0 = ay_at hp 179 0 := ay_upd_ne hT.1 (by decide) 0
  rw [c4]
  have c5 : ay_at (ax_upd hp 730 (0) (ρ 0)) 173 28 = ay_at hp 173 28 := ay_upd_ne hT.1 (by decide) 28
  rw [c5]
  show ay_pg 0 0 0 1 0 0 (ay_at hp 185) (ay_ln (ay_at hp 173 27)) (ay_at hp 182) (ρ 0 / 4) (ay_ln (ay_at hp 179 0)) (ay_ln (ay_at hp 173 28))
  rw [hL2, d4]
  exact ay_pg_B p fr (by omega) (by omega)
theorem axq1_lyM : ax_RO ax_wM1 (ax_XM 1) axu1_lyM := by
  intro ρ hp hE hT
  obtain ⟨p1, p2, p3, p4, p5, p6, p⟩ : ay_ex hp 185 ∧ ay_ex hp 173 ∧ ay_ex hp 182 ∧ ay_ex hp 180 ∧ ay_ex hp 179 ∧ ay_ex hp 173 ∧ ay_M40 0 (0) (0) (8) (4) (4) (ay_at hp 185) (ay_at hp 173 27) (ay_at hp 182) (ay_at hp 180 0) (ay_at hp 179 0) (ay_at hp 173 28) := (ax_XF_lt (x := 40) (Nat.le_of_ble_eq_true rfl)).mp (ax_gx hE (40, [0, 0, 8, 4, 4]) ax_m0)
  replace p : ay_pg 0 0 0 2 1 1 (ay_at hp 185) (ay_ln (ay_at hp 173 27)) (ay_at hp 182) (ay_ln (ay_at hp 180 0)) (ay_ln (ay_at hp 179 0)) (ay_ln (ay_at hp 173 28)) := p
  obtain ⟨L, hL, L1, L2, L3⟩ := ax_gi hE 1 2147483648 2147483747 (by decide) rfl
  obtain ⟨L4, L5⟩ := ax_bi_pos L1 (by omega)
  obtain ⟨c, hc, c1, c2, c3⟩ := ax_gi hE 2 2147484656 2147484656 (by decide) rfl
  obtain ⟨c4, c5⟩ := ax_bi_pos c1 (by omega)
  have d4 : ∀ z : Nat, 4 * z / 4 = z := fun z => by omega
  have fL := ay_gfj hE 730 0 7 180 0 ax_m1 (ax_vlq rfl rfl) (ax_vlj rfl rfl)
  replace fL : ay_at hp 180 0 = some (ρ 1) := fL
  have lL : ay_ln (ay_at hp 180 0) = L := by rw [fL, hL]; show 4 * L / 4 = L; omega
  have hL2 : ρ 0 = 4 * (L + 1) := ay_s hE 7 4 3 (b := 1) (by decide) hL (ax_vl_c (v := 4) (by decide)) (by omega) (by decide)
  have hj2 : ρ 3 = 4 * (0 + L) := ay_s hE 0 7 15 (a := 0) (by decide) (ax_vl_c (v := 0) (by decide)) hL (by decide) (by omega)
  have fr := ay_gf hE 738 15 11 182 ax_m4 (ax_vlq rfl rfl)
  replace fr : ay_at hp 182 (ρ 3 / 4) = some (ρ 2) := fr
  rw [hj2, d4, hc] at fr
  replace fr : ay_at hp 182 (100 * 0 + L) = some (4 * c) := fr
  rw [lL] at p
  obtain ⟨o0, ho0⟩ := ay_some hT (q := 180) (g := 50) (n := 2) (ax_wc ax_WW1 ax_cg_180) (ax_wn ax_WW1 ax_cn_50) (j := 0 / 4) (Nat.le_of_ble_eq_true rfl)
  refine ⟨(fun y hy => by cases hy), _, List.mem_cons_self, ρ, fun _ _ => rfl, ax_px hE rfl (fun y hy => ?_)⟩
  cases List.mem_singleton.mp hy
  show ax_XF (ax_XM 1) (500 + 40) [730, 0, ρ 0, 0, 0, 8, 0, 4] hp
  refine (ax_XF_wr (x := 40) (Nat.le_of_ble_eq_true rfl)).mpr ⟨ay_ex_upd hT.1 (ax_cellT hT (q := 185) (g := 55) (ax_wc ax_WW1 ax_cg_185)), ay_ex_upd hT.1 (ax_cellT hT (q := 173) (g := 11) (ax_wc ax_WW1 ax_cg_173)), ay_ex_upd hT.1 (ax_cellT hT (q := 182) (g := 52) (ax_wc ax_WW1 ax_cg_182)), ay_ex_upd hT.1 (ax_cellT hT (q := 180) (g := 50) (ax_wc ax_WW1 ax_cg_180)), ay_ex_upd hT.1 (ax_cellT hT (q := 179) (g := 49) (ax_wc ax_WW1 ax_cg_179)), ay_ex_upd hT.1 (ax_cellT hT (q := 173) (g := 11) (ax_wc ax_WW1 ax_cg_173)), ?_⟩
  show ay_M40 0 (0) (0) (8) (0) (4) (ay_at (ax_upd hp 730 (0) (ρ 0)) 185) (ay_at (ax_upd hp 730 (0) (ρ 0)) 173 27) (ay_at (ax_upd hp 730 (0) (ρ 0)) 182) (ay_at (ax_upd hp 730 (0) (ρ 0)) 180 0) (ay_at (ax_upd hp 730 (0) (ρ 0)) 179 0) (ay_at (ax_upd hp 730 (0) (ρ 0)) 173 28)
  have c0 : ay_at (ax_upd hp 730 (0) (ρ 0)) 185 = ay_at hp 185 := funext (fun j => ay_upd_ne hT.1 (by decide) j)
  rw [c0]
  have c1 : ay_at (ax_upd hp 730 (0) (ρ 0)) 173 27 = ay_at hp 173 27 := ay_upd_ne hT.1 (by decide) 27
  rw [c1]
  have c2 : ay_at (ax_upd hp 730 (0) (ρ 0)) 182 = ay_at hp 182 := funext (fun j => ay_upd_ne hT.1 (by decide) j)
  rw [c2]
  have c3 : ay_at (ax_upd hp 730 (0) (ρ 0)) 180 0 = some (ρ 0) := by rw [ay_upd_eq hT.1 rfl ho0, if_pos (by decide)]
  rw [c3]
  have c4 : ay_at (ax_upd hp 730 (0) (ρ 0)) 179 0 = ay_at hp 179 0 := ay_upd_ne hT.1 (by decide) 0
  rw [c4]
  have c5 : ay_at (ax_upd hp 730 (0) (ρ 0)) 173 28 = ay_at hp 173 28 := ay_upd_ne hT.1 (by decide) 28
  rw [c5]
  show ay_pg 0 0 0 2 0 1 (ay_at hp 185) (ay_ln (ay_at hp 173 27)) (ay_at hp 182) (ρ 0 / 4) (ay_ln (ay_at hp 179 0)) (ay_ln (ay_at hp 173 28))
  rw [hL2, d4]
  exact ay_pg_M p (by rw [fr, show c = 1008 by omega])
theorem axq1_pu0 : ax_RO ax_wM1 (ax_XM 1) axu1_pu0 := by
  intro ρ hp hE hT
  obtain ⟨p1, p2, p3, p4, p5, p6, p⟩ : ay_ex hp 185 ∧ ay_ex hp 173 ∧ ay_ex hp 182 ∧ ay_ex hp 180 ∧ ay_ex hp 179 ∧ ay_ex hp 173 ∧ ay_M40 0 (ρ 1) (ρ 2) (ρ 3) (ρ 4) (ρ 5) (ay_at hp 185) (ay_at hp 173 27) (ay_at hp 182) (ay_at hp 180 0) (ay_at hp 179 0) (ay_at hp 173 28) := (ax_XF_lt (x := 40) (Nat.le_of_ble_eq_true rfl)).mp (ax_gx hE (40, [7, 11, 15, 19, 23]) (by decide))
  replace p : ay_pg 0 (ρ 1 / 4) (ρ 2 / 4) (ρ 3 / 4) (ρ 4 / 4) (ρ 5 / 4) (ay_at hp 185) (ay_ln (ay_at hp 173 27)) (ay_at hp 182) (ay_ln (ay_at hp 180 0)) (ay_ln (ay_at hp 179 0)) (ay_ln (ay_at hp 173 28)) := p
  obtain ⟨o, ho, o1, o2, o3⟩ := ax_gi hE 0 2147483648 2147483748 (by decide) rfl
  obtain ⟨o4, o5⟩ := ax_bi_pos o1 (by omega)
  have d4 : ∀ z : Nat, 4 * z / 4 = z := fun z => by omega
  have fo := ay_gfj hE 702 108 3 173 27 (by decide) (ax_vlq rfl rfl) (ax_vlj rfl rfl)
  replace fo : ay_at hp 173 27 = some (ρ 0) := fo
  have lo : ay_ln (ay_at hp 173 27) = o := by rw [fo, ho]; show 4 * o / 4 = o; omega
  obtain ⟨u0, hu0⟩ := ay_some hT (q := 179) (g := 49) (n := 2) (ax_wc ax_WW1 ax_cg_179) (ax_wn ax_WW1 ax_cn_49) (j := 0) (by decide)
  obtain ⟨w1, w2, w3, w4⟩ := ay_int hT (q := 179) (g := 49) (n := 2) (lo := 2147483648) (hi := 2147483688) (ax_wc ax_WW1 ax_cg_179) rfl hu0
  have hun : ay_ln (ay_at hp 179 0) ≤ 40 := by
    rw [hu0]
    show u0 / 4 ≤ 40
    obtain ⟨g1, g2⟩ := ax_bi_pos w2 w3
    omega
  have hb := (ay_pg_bound p).2
  rw [lo] at hb
  refine ⟨fun y hy => ?_, _, List.mem_cons_self, ρ, fun _ _ => rfl, ax_px hE rfl (fun y hy => by cases hy)⟩
  cases List.mem_singleton.mp hy
  show 2147483648 ≤ rx_bi (ρ 0 / 4) ∧ rx_bi (ρ 0 / 4) ≤ 2147483747
  rw [ho, d4, ax_bi_nat (by omega)]
  omega

theorem axq1_pu1 : ax_RO ax_wM1 (ax_XM 1) axu1_pu1 := by
  intro ρ hp hE hT
  obtain ⟨p1, p2, p3, p4, p5, p6, p⟩ : ay_ex hp 185 ∧ ay_ex hp 173 ∧ ay_ex hp 182 ∧ ay_ex hp 180 ∧ ay_ex hp 179 ∧ ay_ex hp 173 ∧ ay_M40 0 (ρ 2) (ρ 3) (ρ 4) (ρ 5) (ρ 6) (ay_at hp 185) (ay_at hp 173 27) (ay_at hp 182) (ay_at hp 180 0) (ay_at hp 179 0) (ay_at hp 173 28) := (ax_XF_lt (x := 40) (Nat.le_of_ble_eq_true rfl)).mp (ax_gx hE (40, [11, 15, 19, 23, 27]) (by decide))
  replace p : ay_pg 0 (ρ 2 / 4) (ρ 3 / 4) (ρ 4 / 4) (ρ 5 / 4) (ρ 6 / 4) (ay_at hp 185) (ay_ln (ay_at hp 173 27)) (ay_at hp 182) (ay_ln (ay_at hp 180 0)) (ay_ln (ay_at hp 179 0)) (ay_ln (ay_at hp 173 28)) := p
  obtain ⟨o, ho, o1, o2, o3⟩ := ax_gi hE 1 2147483648 2147483747 (by decide) rfl
  obtain ⟨o4, o5⟩ := ax_bi_pos o1 (by omega)
  have d4 : ∀ z : Nat, 4 * z / 4 = z := fun z => by omega
  have fo := ay_gfj hE 702 108 7 173 27 (by decide) (ax_vlq rfl rfl) (ax_vlj rfl rfl)
  replace fo : ay_at hp 173 27 = some (ρ 1) := fo
  have lo : ay_ln (ay_at hp 173 27) = o := by rw [fo, ho]; show 4 * o / 4 = o; omega
  obtain ⟨o0, ho0⟩ := ay_some hT (q := 185) (g := 55) (n := 100) (ax_wc ax_WW1 ax_cg_185) (ax_wn ax_WW1 ax_cn_55) (j := ρ 1 / 4) (by omega)
  refine ⟨(fun y hy => by cases hy), _, List.mem_cons_self, ρ, fun _ _ => rfl, ax_px hE rfl (fun y hy => ?_)⟩
  cases List.mem_singleton.mp hy
  show ax_XF (ax_XM 1) (500 + 40) [750, ρ 1, ρ 0, ρ 2, ρ 3, ρ 4, ρ 5, ρ 6] hp
  refine (ax_XF_wr (x := 40) (Nat.le_of_ble_eq_true rfl)).mpr ⟨ay_ex_upd hT.1 (ax_cellT hT (q := 185) (g := 55) (ax_wc ax_WW1 ax_cg_185)), ay_ex_upd hT.1 (ax_cellT hT (q := 173) (g := 11) (ax_wc ax_WW1 ax_cg_173)), ay_ex_upd hT.1 (ax_cellT hT (q := 182) (g := 52) (ax_wc ax_WW1 ax_cg_182)), ay_ex_upd hT.1 (ax_cellT hT (q := 180) (g := 50) (ax_wc ax_WW1 ax_cg_180)), ay_ex_upd hT.1 (ax_cellT hT (q := 179) (g := 49) (ax_wc ax_WW1 ax_cg_179)), ay_ex_upd hT.1 (ax_cellT hT (q := 173) (g := 11) (ax_wc ax_WW1 ax_cg_173)), ?_⟩
  show ay_M40 0 (ρ 2) (ρ 3) (ρ 4) (ρ 5) (ρ 6) (ay_at (ax_upd hp 750 (ρ 1) (ρ 0)) 185) (ay_at (ax_upd hp 750 (ρ 1) (ρ 0)) 173 27) (ay_at (ax_upd hp 750 (ρ 1) (ρ 0)) 182) (ay_at (ax_upd hp 750 (ρ 1) (ρ 0)) 180 0) (ay_at (ax_upd hp 750 (ρ 1) (ρ 0)) 179 0) (ay_at (ax_upd hp 750 (ρ 1) (ρ 0)) 173 28)
  have c0 : ∀ j, ay_at (ax_upd hp 750 (ρ 1) (ρ 0)) 185 j = if j = (ρ 1) / 4 then some (ρ 0) else ay_at hp 185 j := fun j => ay_upd_eq hT.1 rfl ho0 j
  have c1 : ay_at (ax_upd hp 750 (ρ 1) (ρ 0)) 173 27 = ay_at hp 173 27 := ay_upd_ne hT.1 (by decide) 27
  rw [c1]
  have c2 : ay_at (ax_upd hp 750 (ρ 1) (ρ 0)) 182 = ay_at hp 182 := funext (fun j => ay_upd_ne hT.1 (by decide) j)
  rw [c2]
  have c3 : ay_at (ax_upd hp 750 (ρ 1) (ρ 0)) 180 0 = ay_at hp 180 0 := ay_upd_ne hT.1 (by decide) 0
  rw [c3]
  have c4 : ay_at (ax_upd hp 750 (ρ 1) (ρ 0)) 179 0 = ay_at hp 179 0 := ay_upd_ne hT.1 (by decide) 0
  rw [c4]
  have c5 : ay_at (ax_upd hp 750 (ρ 1) (ρ 0)) 173 28 = ay_at hp 173 28 := ay_upd_ne hT.1 (by decide) 28
  rw [c5]
  refine ay_pg_far p (fun j hj => ?_) (fun j hj => rfl)
  rw [lo] at hj
  rw [c0, if_neg (by omega)]
theorem axq1_puP : ax_RO ax_wM1 (ax_XM 1) axu1_puP := by
  intro ρ hp hE hT
  obtain ⟨p1, p2, p3, p4, p5, p6, p⟩ : ay_ex hp 185 ∧ ay_ex hp 173 ∧ ay_ex hp 182 ∧ ay_ex hp 180 ∧ ay_ex hp 179 ∧ ay_ex hp 173 ∧ ay_M40 0 (4) (0) (4) (8) (4) (ay_at hp 185) (ay_at hp 173 27) (ay_at hp 182) (ay_at hp 180 0) (ay_at hp 179 0) (ay_at hp 173 28) := (ax_XF_lt (x := 40) (Nat.le_of_ble_eq_true rfl)).mp (ax_gx hE (40, [4, 0, 4, 8, 4]) (by decide))
  replace p : ay_pg 0 1 0 1 2 1 (ay_at hp 185) (ay_ln (ay_at hp 173 27)) (ay_at hp 182) (ay_ln (ay_at hp 180 0)) (ay_ln (ay_at hp 179 0)) (ay_ln (ay_at hp 173 28)) := p
  obtain ⟨o, ho, o1, o2, o3⟩ := ax_gi hE 1 2147483648 2147483747 (by decide) rfl
  obtain ⟨o4, o5⟩ := ax_bi_pos o1 (by omega)
  obtain ⟨c, hc, c1, c2, c3⟩ := ax_gi hE 2 2147484656 2147484657 (by decide) rfl
  obtain ⟨c4, c5⟩ := ax_bi_pos c1 (by omega)
  have d4 : ∀ z : Nat, 4 * z / 4 = z := fun z => by omega
  have fo := ay_gfj hE 702 108 7 173 27 (by decide) (ax_vlq rfl rfl) (ax_vlj rfl rfl)
  replace fo : ay_at hp 173 27 = some (ρ 1) := fo
  have lo : ay_ln (ay_at hp 173 27) = o := by rw [fo, ho]; show 4 * o / 4 = o; omega
  have ho2 : ρ 0 = 4 * (o + 1) := ay_s hE 7 4 3 (b := 1) (by decide) ho (ax_vl_c (v := 4) (by decide)) (by omega) (by decide)
  have fr := ay_gf hE 750 7 11 185 (by decide) (ax_vlq rfl rfl)
  replace fr : ay_at hp 185 (ρ 1 / 4) = some (ρ 2) := fr
  rw [ho, d4, hc] at fr
  rw [lo] at p
  obtain ⟨o0, ho0⟩ := ay_some hT (q := 173) (g := 11) (n := 58) (ax_wc ax_WW1 ax_cg_173) (ax_wn ax_WW1 ax_cn_11) (j := 108 / 4) (Nat.le_of_ble_eq_true rfl)
  refine ⟨(fun y hy => by cases hy), _, List.mem_cons_self, ρ, fun _ _ => rfl, ax_px hE rfl (fun y hy => ?_)⟩
  cases List.mem_singleton.mp hy
  show ax_XF (ax_XM 1) (500 + 40) [702, 108, ρ 0, 4, 0, 0, 4, 4] hp
  refine (ax_XF_wr (x := 40) (Nat.le_of_ble_eq_true rfl)).mpr ⟨ay_ex_upd hT.1 (ax_cellT hT (q := 185) (g := 55) (ax_wc ax_WW1 ax_cg_185)), ay_ex_upd hT.1 (ax_cellT hT (q := 173) (g := 11) (ax_wc ax_WW1 ax_cg_173)), ay_ex_upd hT.1 (ax_cellT hT (q := 182) (g := 52) (ax_wc ax_WW1 ax_cg_182)), ay_ex_upd hT.1 (ax_cellT hT (q := 180) (g := 50) (ax_wc ax_WW1 ax_cg_180)), ay_ex_upd hT.1 (ax_cellT hT (q := 179) (g := 49) (ax_wc ax_WW1 ax_cg_179)), ay_ex_upd hT.1 (ax_cellT hT (q := 173) (g := 11) (ax_wc ax_WW1 ax_cg_173)), ?_⟩
  show ay_M40 0 (4) (0) (0) (4) (4) (ay_at (ax_upd hp 702 (108) (ρ 0)) 185) (ay_at (ax_upd hp 702 (108) (ρ 0)) 173 27) (ay_at (ax_upd hp 702 (108) (ρ 0)) 182) (ay_at (ax_upd hp 702 (108) (ρ 0)) 180 0) (ay_at (ax_upd hp 702 (108) (ρ 0)) 179 0) (ay_at (ax_upd hp 702 (108) (ρ 0)) 173 28)
  have c0 : ay_at (ax_upd hp 702 (108) (ρ 0)) 185 = ay_at hp 185 := funext (fun j => ay_upd_ne hT.1 (by decide) j)
  rw [c0]
  have c1 : ay_at (ax_upd hp 702 (108) (ρ 0)) 173 27 = some (ρ 0) := by rw [ay_upd_eq hT.1 rfl ho0, if_pos (by decide)]
  rw [c1]
  have c2 : ay_at (ax_upd hp 702 (108) (ρ 0)) 182 = ay_at hp 182 := funext (fun j => ay_upd_ne hT.1 (by decide) j)
  rw [c2]
  have c3 : ay_at (ax_upd hp 702 (108) (ρ 0)) 180 0 = ay_at hp 180 0 := ay_upd_ne hT.1 (by decide) 0
  rw [c3]
  have c4 : ay_at (ax_upd hp 702 (108) (ρ 0)) 179 0 = ay_at hp 179 0 := ay_upd_ne hT.1 (by decide) 0
  rw [c4]
  have c5 : ay_at (ax_upd hp 702 (108) (ρ 0)) 173 28 = ay_at hp 173 28 := by rw [ay_upd_eq hT.1 rfl ho0, if_neg (by decide)]
  rw [c5]
  show ay_pg 0 1 0 0 1 1 (ay_at hp 185) (ρ 0 / 4) (ay_at hp 182) (ay_ln (ay_at hp 180 0)) (ay_ln (ay_at hp 179 0)) (ay_ln (ay_at hp 173 28))
  rw [ho2, d4]
  exact ay_pg_pP p fr (by omega)
theorem axq1_puB : ax_RO ax_wM1 (ax_XM 1) axu1_puB := by
  intro ρ hp hE hT
  obtain ⟨p1, p2, p3, p4, p5, p6, p⟩ : ay_ex hp 185 ∧ ay_ex hp 173 ∧ ay_ex hp 182 ∧ ay_ex hp 180 ∧ ay_ex hp 179 ∧ ay_ex hp 173 ∧ ay_M40 0 (0) (0) (4) (0) (0) (ay_at hp 185) (ay_at hp 173 27) (ay_at hp 182) (ay_at hp 180 0) (ay_at hp 179 0) (ay_at hp 173 28) := (ax_XF_lt (x := 40) (Nat.le_of_ble_eq_true rfl)).mp (ax_gx hE (40, [0, 0, 4, 0, 0]) (by decide))
  replace p : ay_pg 0 0 0 1 0 0 (ay_at hp 185) (ay_ln (ay_at hp 173 27)) (ay_at hp 182) (ay_ln (ay_at hp 180 0)) (ay_ln (ay_at hp 179 0)) (ay_ln (ay_at hp 173 28)) := p
  obtain ⟨o, ho, o1, o2, o3⟩ := ax_gi hE 1 2147483648 2147483747 (by decide) rfl
  obtain ⟨o4, o5⟩ := ax_bi_pos o1 (by omega)
  obtain ⟨c, hc, c1, c2, c3⟩ := ax_gi hE 2 2147484651 2147484655 (by decide) rfl
  obtain ⟨c4, c5⟩ := ax_bi_pos c1 (by omega)
  have d4 : ∀ z : Nat, 4 * z / 4 = z := fun z => by omega
  have fo := ay_gfj hE 702 108 7 173 27 (by decide) (ax_vlq rfl rfl) (ax_vlj rfl rfl)
  replace fo : ay_at hp 173 27 = some (ρ 1) := fo
  have lo : ay_ln (ay_at hp 173 27) = o := by rw [fo, ho]; show 4 * o / 4 = o; omega
  have ho2 : ρ 0 = 4 * (o + 1) := ay_s hE 7 4 3 (b := 1) (by decide) ho (ax_vl_c (v := 4) (by decide)) (by omega) (by decide)
  have fr := ay_gf hE 750 7 11 185 (by decide) (ax_vlq rfl rfl)
  replace fr : ay_at hp 185 (ρ 1 / 4) = some (ρ 2) := fr
  rw [ho, d4, hc] at fr
  rw [lo] at p
  obtain ⟨o0, ho0⟩ := ay_some hT (q := 173) (g := 11) (n := 58) (ax_wc ax_WW1 ax_cg_173) (ax_wn ax_WW1 ax_cn_11) (j := 108 / 4) (Nat.le_of_ble_eq_true rfl)
  refine ⟨(fun y hy => by cases hy), _, List.mem_cons_self, ρ, fun _ _ => rfl, ax_px hE rfl (fun y hy => ?_)⟩
  cases List.mem_singleton.mp hy
  show ax_XF (ax_XM 1) (500 + 40) [702, 108, ρ 0, 4, 0, 4, 0, 4] hp
  refine (ax_XF_wr (x := 40) (Nat.le_of_ble_eq_true rfl)).mpr ⟨ay_ex_upd hT.1 (ax_cellT hT (q := 185) (g := 55) (ax_wc ax_WW1 ax_cg_185)), ay_ex_upd hT.1 (ax_cellT hT (q := 173) (g := 11) (ax_wc ax_WW1 ax_cg_173)), ay_ex_upd hT.1 (ax_cellT hT (q := 182) (g := 52) (ax_wc ax_WW1 ax_cg_182)), ay_ex_upd hT.1 (ax_cellT hT (q := 180) (g := 50) (ax_wc ax_WW1 ax_cg_180)), ay_ex_upd hT.1 (ax_cellT hT (q := 179) (g := 49) (ax_wc ax_WW1 ax_cg_179)), ay_ex_upd hT.1 (ax_cellT hT (q := 173) (g := 11) (ax_wc ax_WW1 ax_cg_173)), ?_⟩
  show ay_M40 0 (4) (0) (4) (0) (4) (ay_at (ax_upd hp 702 (108) (ρ 0)) 185) (ay_at (ax_upd hp 702 (108) (ρ 0)) 173 27) (ay_at (ax_upd hp 702 (108) (ρ 0)) 182) (ay_at (ax_upd hp 702 (108) (ρ 0)) 180 0) (ay_at (ax_upd hp 702 (108) (ρ 0)) 179 0) (ay_at (ax_upd hp 702 (108) (ρ 0)) 173 28)
  have c0 : ay_at (ax_upd hp 702 (108) (ρ 0)) 185 = ay_at hp 185 := funext (fun j => ay_upd_ne hT.1 (by decide) j)
  rw [c0]
  have c1 : ay_at (ax_upd hp 702 (108) (ρ 0)) 173 27 = some (ρ 0) := by rw [ay_upd_eq hT.1 rfl ho0, if_pos (by decide)]
  rw [c1]
  have c2 : ay_at (ax_upd hp 702 (108) (ρ 0)) 182 = ay_at hp 182 := funext (fun j => ay_upd_ne hT.1 (by decide) j)
  rw [c2]
  have c3 : ay_at (ax_upd hp 702 (108) (ρ 0)) 180 0 = ay_at hp 180 0 := ay_upd_ne hT.1 (by decide) 0
  rw [c3]
  have c4 : ay_at (ax_upd hp 702 (108) (ρ 0)) 179 0 = ay_at hp 179 0 := ay_upd_ne hT.1 (by decide) 0
  rw [c4]
  have c5 : ay_at (ax_upd hp 702 (108) (ρ 0)) 173 28 = ay_at hp 173 28 := by rw [ay_upd_eq hT.1 rfl ho0, if_neg (by decide)]
  rw [c5]
  show ay_pg 0 1 0 1 0 1 (ay_at hp 185) (ρ 0 / 4) (ay_at hp 182) (ay_ln (ay_at hp 180 0)) (ay_ln (ay_at hp 179 0)) (ay_ln (ay_at hp 173 28))
  rw [ho2, d4]
  exact ay_pg_pB p fr (by omega) (by omega)
theorem axq1_loB : ax_RO ax_wM1 (ax_XM 1) axu1_loB := by
  intro ρ hp hE hT
  obtain ⟨t1, t2, t⟩ : ay_ex hp 173 ∧ ay_ex hp 185 ∧ ay_M57 (ay_at hp 173 27) (ay_at hp 185) := (ax_XF_lt (x := 57) (Nat.le_of_ble_eq_true rfl)).mp (ax_gx hE (57, []) (by decide))
  obtain ⟨p1, p2, p3, p4, p5, p6, p⟩ : ay_ex hp 185 ∧ ay_ex hp 173 ∧ ay_ex hp 182 ∧ ay_ex hp 180 ∧ ay_ex hp 179 ∧ ay_ex hp 173 ∧ ay_M40 0 (0) (0) (4) (0) (0) (ay_at hp 185) (ay_at hp 173 27) (ay_at hp 182) (ay_at hp 180 0) (ay_at hp 179 0) (ay_at hp 173 28) := (ax_XF_lt (x := 40) (Nat.le_of_ble_eq_true rfl)).mp (ax_gx hE (40, [0, 0, 4, 0, 0]) (by decide))
  replace p : ay_pg 0 0 0 1 0 0 (ay_at hp 185) (ay_ln (ay_at hp 173 27)) (ay_at hp 182) (ay_ln (ay_at hp 180 0)) (ay_ln (ay_at hp 179 0)) (ay_ln (ay_at hp 173 28)) := p
  obtain ⟨k1, k⟩ : ay_ex hp 173 ∧ ay_M56 (ρ 2) (ay_at hp 173 27) := (ax_XF_lt (x := 56) (Nat.le_of_ble_eq_true rfl)).mp (ax_gx hE (56, [11]) (by decide))
  obtain ⟨o, ho, o1, o2, o3⟩ := ax_gi hE 1 2147483648 2147483748 (by decide) rfl
  obtain ⟨o4, o5⟩ := ax_bi_pos o1 (by omega)
  obtain ⟨K, hK⟩ := ax_gj hE 2 (by decide) rfl
  have d4 : ∀ z : Nat, 4 * z / 4 = z := fun z => by omega
  have fo := ay_gfj hE 702 108 7 173 27 (by decide) (ax_vlq rfl rfl) (ax_vlj rfl rfl)
  replace fo : ay_at hp 173 27 = some (ρ 1) := fo
  have lo : ay_ln (ay_at hp 173 27) = o := by rw [fo, ho]; show 4 * o / 4 = o; omega
  replace t : 1 ≤ ay_ln (ay_at hp 173 27) ∧ ay_isb (ay_at hp 185 (ay_ln (ay_at hp 173 27) - 1)) = true := t
  replace k : ay_ln (ay_at hp 173 27) ≤ ρ 2 / 4 := k
  rw [lo] at t p k
  obtain ⟨n, hn⟩ : ∃ n, o = n + 1 := ⟨o - 1, by omega⟩
  have hs : ρ 0 = 4 * (o - 1) := ay_d hE 3 4 7 (b := 1) (by decide) (ax_vl_c (v := 4) (by decide)) ho (by omega) (by omega)
  have h0 : ρ 0 = 4 * n := by omega
  rw [hn] at t p
  replace t := t.2
  replace t : ay_isb (ay_at hp 185 n) = true := t
  obtain ⟨o0, ho0⟩ := ay_some hT (q := 173) (g := 11) (n := 58) (ax_wc ax_WW1 ax_cg_173) (ax_wn ax_WW1 ax_cn_11) (j := 108 / 4) (Nat.le_of_ble_eq_true rfl)
  obtain ⟨ρ', h1, h2⟩ := ax_pn (K := n) (xf := [(540, [702, 108, 3, 0, 4, 4, 4, 0]), (559, [702, 108, 3]), (556, [702, 108, 3, 15]), (1030, [15, 11])]) hE (by decide) (fun ρ' h1 h2 x hx => by
    rcases List.mem_cons.mp hx with e | hx
    · subst e
      show ax_XF (ax_XM 1) (500 + 40) [702, 108, ρ' 0, 0, 4, 4, 4, 0] hp
      rw [h1 0 (by decide)]
      refine (ax_XF_wr (x := 40) (Nat.le_of_ble_eq_true rfl)).mpr ⟨ay_ex_upd hT.1 (ax_cellT hT (q := 185) (g := 55) (ax_wc ax_WW1 ax_cg_185)), ay_ex_upd hT.1 (ax_cellT hT (q := 173) (g := 11) (ax_wc ax_WW1 ax_cg_173)), ay_ex_upd hT.1 (ax_cellT hT (q := 182) (g := 52) (ax_wc ax_WW1 ax_cg_182)), ay_ex_upd hT.1 (ax_cellT hT (q := 180) (g := 50) (ax_wc ax_WW1 ax_cg_180)), ay_ex_upd hT.1 (ax_cellT hT (q := 179) (g := 49) (ax_wc ax_WW1 ax_cg_179)), ay_ex_upd hT.1 (ax_cellT hT (q := 173) (g := 11) (ax_wc ax_WW1 ax_cg_173)), ?_⟩
      show ay_M40 0 (0) (4) (4) (4) (0) (ay_at (ax_upd hp 702 (108) (ρ 0)) 185) (ay_at (ax_upd hp 702 (108) (ρ 0)) 173 27) (ay_at (ax_upd hp 702 (108) (ρ 0)) 182) (ay_at (ax_upd hp 702 (108) (ρ 0)) 180 0) (ay_at (ax_upd hp 702 (108) (ρ 0)) 179 0) (ay_at (ax_upd hp 702 (108) (ρ 0)) 173 28)
      have c0 : ay_at (ax_upd hp 702 (108) (ρ 0)) 185 = ay_at hp 185 := funext (fun j => ay_upd_ne hT.1 (by decide) j)
      rw [c0]
      have c1 : ay_at (ax_upd hp 702 (108) (ρ 0)) 173 27 = some (ρ 0) := by rw [ay_upd_eq hT.1 rfl ho0, if_pos (by decide)]
      rw [c1]
      have c2 : ay_at (ax_upd hp 702 (108) (ρ 0)) 182 = ay_at hp 182 := funext (fun j => ay_upd_ne hT.1 (by decide) j)
      rw [c2]
      have c3 : ay_at (ax_upd hp 702 (108) (ρ 0)) 180 0 = ay_at hp 180 0 := ay_upd_ne hT.1 (by decide) 0
      rw [c3]
      have c4 : ay_at (ax_upd hp 702 (108) (ρ 0)) 179 0 = ay_at hp 179 0 := ay_upd_ne hT.1 (by decide) 0
      rw [c4]
      have c5 : ay_at (ax_upd hp 702 (108) (ρ 0)) 173 28 = ay_at hp 173 28 := by rw [ay_upd_eq hT.1 rfl ho0, if_neg (by decide)]
      rw [c5]
      show ay_pg 0 0 1 1 1 0 (ay_at hp 185) (ρ 0 / 4) (ay_at hp 182) (ay_ln (ay_at hp 180 0)) (ay_ln (ay_at hp 179 0)) (ay_ln (ay_at hp 173 28))
      rw [h0, d4]
      exact ay_pg_qB p t
    rcases List.mem_cons.mp hx with e | hx
    · subst e
      show ax_XF (ax_XM 1) (500 + 59) [702, 108, ρ' 0] hp
      rw [h1 0 (by decide)]
      refine (ax_XF_wr (x := 59) (Nat.le_of_ble_eq_true rfl)).mpr ⟨ay_ex_upd hT.1 (ax_cellT hT (q := 173) (g := 11) (ax_wc ax_WW1 ax_cg_173)), ay_ex_upd hT.1 (ax_cellT hT (q := 185) (g := 55) (ax_wc ax_WW1 ax_cg_185)), ?_⟩
      show ay_M59 (ay_at (ax_upd hp 702 (108) (ρ 0)) 173 27) (ay_at (ax_upd hp 702 (108) (ρ 0)) 185)
      have c0 : ay_at (ax_upd hp 702 (108) (ρ 0)) 173 27 = some (ρ 0) := by rw [ay_upd_eq hT.1 rfl ho0, if_pos (by decide)]
      rw [c0]
      have c1 : ay_at (ax_upd hp 702 (108) (ρ 0)) 185 = ay_at hp 185 := funext (fun j => ay_upd_ne hT.1 (by decide) j)
      rw [c1]
      show ay_isb (ay_at hp 185 (ρ 0 / 4)) = true
      rw [h0, d4]
      exact t
    rcases List.mem_cons.mp hx with e | hx
    · subst e
      show ax_XF (ax_XM 1) (500 + 56) [702, 108, ρ' 0, ρ' 3] hp
      rw [h1 0 (by decide)]
      refine (ax_XF_wr (x := 56) (Nat.le_of_ble_eq_true rfl)).mpr ⟨ay_ex_upd hT.1 (ax_cellT hT (q := 173) (g := 11) (ax_wc ax_WW1 ax_cg_173)), ?_⟩
      show ay_M56 (ρ' 3) (ay_at (ax_upd hp 702 (108) (ρ 0)) 173 27)
      have c0 : ay_at (ax_upd hp 702 (108) (ρ 0)) 173 27 = some (ρ 0) := by rw [ay_upd_eq hT.1 rfl ho0, if_pos (by decide)]
      rw [c0]
      show ρ 0 / 4 ≤ ρ' 3 / 4
      rw [h2, h0]
      omega
    cases List.mem_singleton.mp hx
    refine (ax_XF_bi (o := 30) (by decide)).mpr (Or.inr ⟨rfl, ?_⟩)
    show ρ' 3 < ρ' 2
    rw [h2, h1 2 (by decide), hK]
    omega)
  refine ⟨fun y hy => ?_, _, List.mem_cons_self, ρ', h1, h2⟩
  cases List.mem_singleton.mp hy
  show 2147483648 ≤ rx_bi (ρ 0 / 4) ∧ rx_bi (ρ 0 / 4) ≤ 2147483747
  rw [h0, d4, ax_bi_nat (by omega)]
  omega
theorem axq1_lpB : ax_RO ax_wM1 (ax_XM 1) axu1_lpB := by
  intro ρ hp hE hT
  obtain ⟨t1, t2, t⟩ : ay_ex hp 173 ∧ ay_ex hp 185 ∧ ay_M59 (ay_at hp 173 27) (ay_at hp 185) := (ax_XF_lt (x := 59) (Nat.le_of_ble_eq_true rfl)).mp (ax_gx hE (59, []) (by decide))
  obtain ⟨o, ho, o1, o2, o3⟩ := ax_gi hE 0 2147483648 2147483747 (by decide) rfl
  obtain ⟨o4, o5⟩ := ax_bi_pos o1 (by omega)
  have d4 : ∀ z : Nat, 4 * z / 4 = z := fun z => by omega
  have fo := ay_gfj hE 702 108 3 173 27 (by decide) (ax_vlq rfl rfl) (ax_vlj rfl rfl)
  replace fo : ay_at hp 173 27 = some (ρ 0) := fo
  have lo : ay_ln (ay_at hp 173 27) = o := by rw [fo, ho]; show 4 * o / 4 = o; omega
  replace t : ay_isb (ay_at hp 185 (ay_ln (ay_at hp 173 27))) = true := t
  rw [lo] at t
  obtain ⟨kk, m, f, e1⟩ := t2
  obtain ⟨v, hv⟩ := ay_some hT (q := 185) (g := 55) (n := 100) (ax_wc ax_WW1 ax_cg_185) (ax_wn ax_WW1 ax_cn_55) (j := o) (by omega)
  obtain ⟨v1, v2, -, -⟩ := ay_int hT (q := 185) (g := 55) (n := 100) (lo := 0) (hi := 4294967295) (ax_wc ax_WW1 ax_cg_185) rfl hv
  rw [hv] at t
  replace t : (decide (1003 ≤ v / 4) && decide (v / 4 ≤ 1007)) = true := t
  have t3 := of_decide_eq_true (rx_and2.mp t).1
  have t4 := of_decide_eq_true (rx_and2.mp t).2
  have hb : rx_bi (v / 4) = v / 4 + 2147483648 := ax_bi_nat (by omega)
  have hb1 : 2147484651 ≤ rx_bi (v / 4) := by omega
  have hb2 : rx_bi (v / 4) ≤ 2147484655 := by omega
  rw [ay_eq e1] at hv
  obtain ⟨ρ', h1, h2⟩ := ax_pf (q := 185) (j := o) (t := (0, 2147484651, 2147484655)) hE (a := 750) (i := 3) (by decide) (by decide) (ax_vl_c (by decide)) ho e1 hv (Or.inl ⟨rfl, v1, v2, hb1, hb2⟩)
  exact ⟨(fun x hx => by cases hx), _, List.mem_cons_self, ρ', h1, h2⟩
theorem axq1_loM : ax_RO ax_wM1 (ax_XM 1) axu1_loM := by
  intro ρ hp hE hT
  obtain ⟨t1, t2, t⟩ : ay_ex hp 173 ∧ ay_ex hp 185 ∧ ay_M58 (ay_at hp 173 27) (ay_at hp 185) := (ax_XF_lt (x := 58) (Nat.le_of_ble_eq_true rfl)).mp (ax_gx hE (58, []) (by decide))
  obtain ⟨p1, p2, p3, p4, p5, p6, p⟩ : ay_ex hp 185 ∧ ay_ex hp 173 ∧ ay_ex hp 182 ∧ ay_ex hp 180 ∧ ay_ex hp 179 ∧ ay_ex hp 173 ∧ ay_M40 0 (0) (0) (4) (0) (4) (ay_at hp 185) (ay_at hp 173 27) (ay_at hp 182) (ay_at hp 180 0) (ay_at hp 179 0) (ay_at hp 173 28) := (ax_XF_lt (x := 40) (Nat.le_of_ble_eq_true rfl)).mp (ax_gx hE (40, [0, 0, 4, 0, 4]) (by decide))
  replace p : ay_pg 0 0 0 1 0 1 (ay_at hp 185) (ay_ln (ay_at hp 173 27)) (ay_at hp 182) (ay_ln (ay_at hp 180 0)) (ay_ln (ay_at hp 179 0)) (ay_ln (ay_at hp 173 28)) := p
  obtain ⟨k1, k⟩ : ay_ex hp 173 ∧ ay_M56 (ρ 2) (ay_at hp 173 27) := (ax_XF_lt (x := 56) (Nat.le_of_ble_eq_true rfl)).mp (ax_gx hE (56, [11]) (by decide))
  obtain ⟨o, ho, o1, o2, o3⟩ := ax_gi hE 1 2147483648 2147483748 (by decide) rfl
  obtain ⟨o4, o5⟩ := ax_bi_pos o1 (by omega)
  obtain ⟨K, hK⟩ := ax_gj hE 2 (by decide) rfl
  have d4 : ∀ z : Nat, 4 * z / 4 = z := fun z => by omega
  have fo := ay_gfj hE 702 108 7 173 27 (by decide) (ax_vlq rfl rfl) (ax_vlj rfl rfl)
  replace fo : ay_at hp 173 27 = some (ρ 1) := fo
  have lo : ay_ln (ay_at hp 173 27) = o := by rw [fo, ho]; show 4 * o / 4 = o; omega
  replace t : 1 ≤ ay_ln (ay_at hp 173 27) ∧ ay_at hp 185 (ay_ln (ay_at hp 173 27) - 1) = some 4032 := t
  replace k : ay_ln (ay_at hp 173 27) ≤ ρ 2 / 4 := k
  rw [lo] at t p k
  obtain ⟨n, hn⟩ : ∃ n, o = n + 1 := ⟨o - 1, by omega⟩
  have hs : ρ 0 = 4 * (o - 1) := ay_d hE 3 4 7 (b := 1) (by decide) (ax_vl_c (v := 4) (by decide)) ho (by omega) (by omega)
  have h0 : ρ 0 = 4 * n := by omega
  rw [hn] at t p
  replace t := t.2
  replace t : ay_at hp 185 n = some 4032 := t
  obtain ⟨o0, ho0⟩ := ay_some hT (q := 173) (g := 11) (n := 58) (ax_wc ax_WW1 ax_cg_173) (ax_wn ax_WW1 ax_cn_11) (j := 108 / 4) (Nat.le_of_ble_eq_true rfl)
  obtain ⟨ρ', h1, h2⟩ := ax_pn (K := n) (xf := [(540, [702, 108, 3, 0, 0, 8, 4, 4]), (561, [702, 108, 3]), (556, [702, 108, 3, 15]), (1030, [15, 11])]) hE (by decide) (fun ρ' h1 h2 x hx => by
    rcases List.mem_cons.mp hx with e | hx
    · subst e
      show ax_XF (ax_XM 1) (500 + 40) [702, 108, ρ' 0, 0, 0, 8, 4, 4] hp
      rw [h1 0 (by decide)]
      refine (ax_XF_wr (x := 40) (Nat.le_of_ble_eq_true rfl)).mpr ⟨ay_ex_upd hT.1 (ax_cellT hT (q := 185) (g := 55) (ax_wc ax_WW1 ax_cg_185)), ay_ex_upd hT.1 (ax_cellT hT (q := 173) (g := 11) (ax_wc ax_WW1 ax_cg_173)), ay_ex_upd hT.1 (ax_cellT hT (q := 182) (g := 52) (ax_wc ax_WW1 ax_cg_182)), ay_ex_upd hT.1 (ax_cellT hT (q := 180) (g := 50) (ax_wc ax_WW1 ax_cg_180)), ay_ex_upd hT.1 (ax_cellT hT (q := 179) (g := 49) (ax_wc ax_WW1 ax_cg_179)), ay_ex_upd hT.1 (ax_cellT hT (q := 173) (g := 11) (ax_wc ax_WW1 ax_cg_173)), ?_⟩
      show ay_M40 0 (0) (0) (8) (4) (4) (ay_at (ax_upd hp 702 (108) (ρ 0)) 185) (ay_at (ax_upd hp 702 (108) (ρ 0)) 173 27) (ay_at (ax_upd hp 702 (108) (ρ 0)) 182) (ay_at (ax_upd hp 702 (108) (ρ 0)) 180 0) (ay_at (ax_upd hp 702 (108) (ρ 0)) 179 0) (ay_at (ax_upd hp 702 (108) (ρ 0)) 173 28)
      have c0 : ay_at (ax_upd hp 702 (108) (ρ 0)) 185 = ay_at hp 185 := funext (fun j => ay_upd_ne hT.1 (by decide) j)
      rw [c0]
      have c1 : ay_at (ax_upd hp 702 (108) (ρ 0)) 173 27 = some (ρ 0) := by rw [ay_upd_eq hT.1 rfl ho0, if_pos (by decide)]
      rw [c1]
      have c2 : ay_at (ax_upd hp 702 (108) (ρ 0)) 182 = ay_at hp 182 := funext (fun j => ay_upd_ne hT.1 (by decide) j)
      rw [c2]
      have c3 : ay_at (ax_upd hp 702 (108) (ρ 0)) 180 0 = ay_at hp 180 0 := ay_upd_ne hT.1 (by decide) 0
      rw [c3]
      have c4 : ay_at (ax_upd hp 702 (108) (ρ 0)) 179 0 = ay_at hp 179 0 := ay_upd_ne hT.1 (by decide) 0
      rw [c4]
      have c5 : ay_at (ax_upd hp 702 (108) (ρ 0)) 173 28 = ay_at hp 173 28 := by rw [ay_upd_eq hT.1 rfl ho0, if_neg (by decide)]
      rw [c5]
      show ay_pg 0 0 0 2 1 1 (ay_at hp 185) (ρ 0 / 4) (ay_at hp 182) (ay_ln (ay_at hp 180 0)) (ay_ln (ay_at hp 179 0)) (ay_ln (ay_at hp 173 28))
      rw [h0, d4]
      exact ay_pg_qM (c := 1008) p t (Or.inl rfl)
    rcases List.mem_cons.mp hx with e | hx
    · subst e
      show ax_XF (ax_XM 1) (500 + 61) [702, 108, ρ' 0] hp
      rw [h1 0 (by decide)]
      refine (ax_XF_wr (x := 61) (Nat.le_of_ble_eq_true rfl)).mpr ⟨ay_ex_upd hT.1 (ax_cellT hT (q := 173) (g := 11) (ax_wc ax_WW1 ax_cg_173)), ay_ex_upd hT.1 (ax_cellT hT (q := 185) (g := 55) (ax_wc ax_WW1 ax_cg_185)), ?_⟩
      show ay_M61 (ay_at (ax_upd hp 702 (108) (ρ 0)) 173 27) (ay_at (ax_upd hp 702 (108) (ρ 0)) 185)
      have c0 : ay_at (ax_upd hp 702 (108) (ρ 0)) 173 27 = some (ρ 0) := by rw [ay_upd_eq hT.1 rfl ho0, if_pos (by decide)]
      rw [c0]
      have c1 : ay_at (ax_upd hp 702 (108) (ρ 0)) 185 = ay_at hp 185 := funext (fun j => ay_upd_ne hT.1 (by decide) j)
      rw [c1]
      show ay_at hp 185 (ρ 0 / 4) = some 4032
      rw [h0, d4]
      exact t
    rcases List.mem_cons.mp hx with e | hx
    · subst e
      show ax_XF (ax_XM 1) (500 + 56) [702, 108, ρ' 0, ρ' 3] hp
      rw [h1 0 (by decide)]
      refine (ax_XF_wr (x := 56) (Nat.le_of_ble_eq_true rfl)).mpr ⟨ay_ex_upd hT.1 (ax_cellT hT (q := 173) (g := 11) (ax_wc ax_WW1 ax_cg_173)), ?_⟩
      show ay_M56 (ρ' 3) (ay_at (ax_upd hp 702 (108) (ρ 0)) 173 27)
      have c0 : ay_at (ax_upd hp 702 (108) (ρ 0)) 173 27 = some (ρ 0) := by rw [ay_upd_eq hT.1 rfl ho0, if_pos (by decide)]
      rw [c0]
      show ρ 0 / 4 ≤ ρ' 3 / 4
      rw [h2, h0]
      omega
    cases List.mem_singleton.mp hx
    refine (ax_XF_bi (o := 30) (by decide)).mpr (Or.inr ⟨rfl, ?_⟩)
    show ρ' 3 < ρ' 2
    rw [h2, h1 2 (by decide), hK]
    omega)
  refine ⟨fun y hy => ?_, _, List.mem_cons_self, ρ', h1, h2⟩
  cases List.mem_singleton.mp hy
  show 2147483648 ≤ rx_bi (ρ 0 / 4) ∧ rx_bi (ρ 0 / 4) ≤ 2147483747
  rw [h0, d4, ax_bi_nat (by omega)]
  omega
theorem axq1_lpM : ax_RO ax_wM1 (ax_XM 1) axu1_lpM := by
  intro ρ hp hE hT
  obtain ⟨t1, t2, t⟩ : ay_ex hp 173 ∧ ay_ex hp 185 ∧ ay_M61 (ay_at hp 173 27) (ay_at hp 185) := (ax_XF_lt (x := 61) (Nat.le_of_ble_eq_true rfl)).mp (ax_gx hE (61, []) (by decide))
  obtain ⟨o, ho, o1, o2, o3⟩ := ax_gi hE 0 2147483648 2147483747 (by decide) rfl
  obtain ⟨o4, o5⟩ := ax_bi_pos o1 (by omega)
  have d4 : ∀ z : Nat, 4 * z / 4 = z := fun z => by omega
  have fo := ay_gfj hE 702 108 3 173 27 (by decide) (ax_vlq rfl rfl) (ax_vlj rfl rfl)
  replace fo : ay_at hp 173 27 = some (ρ 0) := fo
  have lo : ay_ln (ay_at hp 173 27) = o := by rw [fo, ho]; show 4 * o / 4 = o; omega
  replace t : ay_at hp 185 (ay_ln (ay_at hp 173 27)) = some 4032 := t
  rw [lo] at t
  obtain ⟨kk, m, f, e1⟩ := t2
  obtain ⟨v, hv⟩ := ay_some hT (q := 185) (g := 55) (n := 100) (ax_wc ax_WW1 ax_cg_185) (ax_wn ax_WW1 ax_cn_55) (j := o) (by omega)
  obtain ⟨v1, v2, -, -⟩ := ay_int hT (q := 185) (g := 55) (n := 100) (lo := 0) (hi := 4294967295) (ax_wc ax_WW1 ax_cg_185) rfl hv
  rw [hv] at t
  have t5 := Option.some.inj t
  have t3 : 1008 ≤ v / 4 := by omega
  have t4 : v / 4 ≤ 1008 := by omega
  have hb : rx_bi (v / 4) = v / 4 + 2147483648 := ax_bi_nat (by omega)
  have hb1 : 2147484656 ≤ rx_bi (v / 4) := by omega
  have hb2 : rx_bi (v / 4) ≤ 2147484656 := by omega
  rw [ay_eq e1] at hv
  obtain ⟨ρ', h1, h2⟩ := ax_pf (q := 185) (j := o) (t := (0, 2147484656, 2147484656)) hE (a := 750) (i := 3) (by decide) (by decide) (ax_vl_c (by decide)) ho e1 hv (Or.inl ⟨rfl, v1, v2, hb1, hb2⟩)
  exact ⟨(fun x hx => by cases hx), _, List.mem_cons_self, ρ', h1, h2⟩
theorem axq1_cm0 : ax_RO ax_wM1 (ax_XM 1) axu1_cm0 := axqg_cm0 ax_WW1
theorem axq1_rb0 : ax_RO ax_wM1 (ax_XM 1) axu1_rb0 := axqg_rb0 ax_WW1
theorem axq1_rr5 : ax_RO ax_wM1 (ax_XM 1) axu1_rr5 := axqg_rr5 ax_WW1
theorem axq1_rr6 : ax_RO ax_wM1 (ax_XM 1) axu1_rr6 := axqg_rr6 ax_WW1
theorem axq1_rr7 : ax_RO ax_wM1 (ax_XM 1) axu1_rr7 := axqg_rr7 ax_WW1
theorem axq1_cm1 : ax_RO ax_wM1 (ax_XM 1) axu1_cm1 := axqg_cm1 ax_WW1
theorem axq1_cm2 : ax_RO ax_wM1 (ax_XM 1) axu1_cm2 := by
  intro ρ hp hE hT
  obtain ⟨p1, p2, p3, p4, p5, p6, p⟩ : ay_ex hp 185 ∧ ay_ex hp 173 ∧ ay_ex hp 182 ∧ ay_ex hp 180 ∧ ay_ex hp 179 ∧ ay_ex hp 173 ∧ ay_M40 0 (0) (0) (8) (0) (4) (ay_at hp 185) (ay_at hp 173 27) (ay_at hp 182) (ay_at hp 180 0) (ay_at hp 179 0) (ay_at hp 173 28) := (ax_XF_lt (x := 40) (Nat.le_of_ble_eq_true rfl)).mp (ax_gx hE (40, [0, 0, 8, 0, 4]) (by decide))
  replace p : ay_pg 0 0 0 2 0 1 (ay_at hp 185) (ay_ln (ay_at hp 173 27)) (ay_at hp 182) (ay_ln (ay_at hp 180 0)) (ay_ln (ay_at hp 179 0)) (ay_ln (ay_at hp 173 28)) := p
  obtain ⟨d, hd, d1, d2, d3⟩ := ax_gi hE 1 2147483648 2147483654 (by decide) rfl
  obtain ⟨d4, d5⟩ := ax_bi_pos d1 (by omega)
  have d4 : ∀ z : Nat, 4 * z / 4 = z := fun z => by omega
  have fd := ay_gfj hE 702 112 7 173 28 (by decide) (ax_vlq rfl rfl) (ax_vlj rfl rfl)
  replace fd : ay_at hp 173 28 = some (ρ 1) := fd
  have ld : ay_ln (ay_at hp 173 28) = d := by rw [fd, hd]; show 4 * d / 4 = d; omega
  rw [ld] at p
  have hd0 := ay_pg_d0 p
  obtain ⟨n, hn⟩ : ∃ n, d = n + 1 := ⟨d - 1, by omega⟩
  have hs : ρ 0 = 4 * (d - 1) := ay_d hE 3 4 7 (b := 1) (by decide) (ax_vl_c (v := 4) (by decide)) hd (by omega) (by omega)
  have h0 : ρ 0 = 4 * n := by omega
  rw [hn] at p ld
  obtain ⟨o0, ho0⟩ := ay_some hT (q := 173) (g := 11) (n := 58) (ax_wc ax_WW1 ax_cg_173) (ax_wn ax_WW1 ax_cn_11) (j := 112 / 4) (Nat.le_of_ble_eq_true rfl)
  refine ⟨fun y hy => ?_, _, List.mem_cons_self, ρ, fun _ _ => rfl, ax_px hE rfl (fun y hy => ?_)⟩
  · cases List.mem_singleton.mp hy
    show 2147483648 ≤ rx_bi (ρ 0 / 4) ∧ rx_bi (ρ 0 / 4) ≤ 2147483653
    rw [h0, d4, ax_bi_nat (by omega)]
    omega
  cases List.mem_singleton.mp hy
  show ax_XF (ax_XM 1) (500 + 40) [702, 112, ρ 0, 0, 0, 4, 0, 4] hp
  refine (ax_XF_wr (x := 40) (Nat.le_of_ble_eq_true rfl)).mpr ⟨ay_ex_upd hT.1 (ax_cellT hT (q := 185) (g := 55) (ax_wc ax_WW1 ax_cg_185)), ay_ex_upd hT.1 (ax_cellT hT (q := 173) (g := 11) (ax_wc ax_WW1 ax_cg_173)), ay_ex_upd hT.1 (ax_cellT hT (q := 182) (g := 52) (ax_wc ax_WW1 ax_cg_182)), ay_ex_upd hT.1 (ax_cellT hT (q := 180) (g := 50) (ax_wc ax_WW1 ax_cg_180)), ay_ex_upd hT.1 (ax_cellT hT (q := 179) (g := 49) (ax_wc ax_WW1 ax_cg_179)), ay_ex_upd hT.1 (ax_cellT hT (q := 173) (g := 11) (ax_wc ax_WW1 ax_cg_173)), ?_⟩
  show ay_M40 0 (0) (0) (4) (0) (4) (ay_at (ax_upd hp 702 (112) (ρ 0)) 185) (ay_at (ax_upd hp 702 (112) (ρ 0)) 173 27) (ay_at (ax_upd hp 702 (112) (ρ 0)) 182) (ay_at (ax_upd hp 702 (112) (ρ 0)) 180 0) (ay_at (ax_upd hp 702 (112) (ρ 0)) 179 0) (ay_at (ax_upd hp 702 (112) (ρ 0)) 173 28)
  have c0 : ay_at (ax_upd hp 702 (112) (ρ 0)) 185 = ay_at hp 185 := funext (fun j => ay_upd_ne hT.1 (by decide) j)
  rw [c0]
  have c1 : ay_at (ax_upd hp 702 (112) (ρ 0)) 173 27 = ay_at hp 173 27 := by rw [ay_upd_eq hT.1 rfl ho0, if_neg (by decide)]
  rw [c1]
  have c2 : ay_at (ax_upd hp 702 (112) (ρ 0)) 182 = ay_at hp 182 := funext (fun j => ay_upd_ne hT.1 (by decide) j)
  rw [c2]
  have c3 : ay_at (ax_upd hp 702 (112) (ρ 0)) 180 0 = ay_at hp 180 0 := ay_upd_ne hT.1 (by decide) 0
  rw [c3]
  have c4 : ay_at (ax_upd hp 702 (112) (ρ 0)) 179 0 = ay_at hp 179 0 := ay_upd_ne hT.1 (by decide) 0
  rw [c4]
  have c5 : ay_at (ax_upd hp 702 (112) (ρ 0)) 173 28 = some (ρ 0) := by rw [ay_upd_eq hT.1 rfl ho0, if_pos (by decide)]
  rw [c5]
  show ay_pg 0 0 0 1 0 1 (ay_at hp 185) (ay_ln (ay_at hp 173 27)) (ay_at hp 182) (ay_ln (ay_at hp 180 0)) (ay_ln (ay_at hp 179 0)) (ρ 0 / 4)
  rw [h0, d4]
  exact ay_pg_d1 p
theorem axq1_cm3 : ax_RO ax_wM1 (ax_XM 1) axu1_cm3 := by
  intro ρ hp hE hT
  obtain ⟨p1, p2, p3, p4, p5, p6, p⟩ : ay_ex hp 185 ∧ ay_ex hp 173 ∧ ay_ex hp 182 ∧ ay_ex hp 180 ∧ ay_ex hp 179 ∧ ay_ex hp 173 ∧ ay_M40 0 (0) (0) (8) (0) (4) (ay_at hp 185) (ay_at hp 173 27) (ay_at hp 182) (ay_at hp 180 0) (ay_at hp 179 0) (ay_at hp 173 28) := (ax_XF_lt (x := 40) (Nat.le_of_ble_eq_true rfl)).mp (ax_gx hE (40, [0, 0, 8, 0, 4]) (by decide))
  replace p : ay_pg 0 0 0 2 0 1 (ay_at hp 185) (ay_ln (ay_at hp 173 27)) (ay_at hp 182) (ay_ln (ay_at hp 180 0)) (ay_ln (ay_at hp 179 0)) (ay_ln (ay_at hp 173 28)) := p
  obtain ⟨k1, k2, k⟩ : ay_ex hp 179 ∧ ay_ex hp 173 ∧ ay_M53 (ρ 2) (0) (ay_at hp 179 0) (ay_at hp 173 28) := (ax_XF_lt (x := 53) (Nat.le_of_ble_eq_true rfl)).mp (ax_gx hE (53, [11, 0]) (by decide))
  replace k : 20 * (40 - ay_ln (ay_at hp 179 0)) + 2 * ay_ln (ay_at hp 173 28) + 1 ≤ ρ 2 / 4 := k
  obtain ⟨d, hd, d1, d2, d3⟩ := ax_gi hE 1 2147483648 2147483654 (by decide) rfl
  obtain ⟨d4, d5⟩ := ax_bi_pos d1 (by omega)
  have d4 : ∀ z : Nat, 4 * z / 4 = z := fun z => by omega
  have fd := ay_gfj hE 702 112 7 173 28 (by decide) (ax_vlq rfl rfl) (ax_vlj rfl rfl)
  replace fd : ay_at hp 173 28 = some (ρ 1) := fd
  have ld : ay_ln (ay_at hp 173 28) = d := by rw [fd, hd]; show 4 * d / 4 = d; omega
  rw [ld] at p k
  have hd0 := ay_pg_d0 p
  obtain ⟨n, hn⟩ : ∃ n, d = n + 1 := ⟨d - 1, by omega⟩
  have hs : ρ 0 = 4 * (d - 1) := ay_d hE 3 4 7 (b := 1) (by decide) (ax_vl_c (v := 4) (by decide)) hd (by omega) (by omega)
  have h0 : ρ 0 = 4 * n := by omega
  rw [hn] at p ld
  rw [hn] at k
  obtain ⟨o0, ho0⟩ := ay_some hT (q := 173) (g := 11) (n := 58) (ax_wc ax_WW1 ax_cg_173) (ax_wn ax_WW1 ax_cn_11) (j := 112 / 4) (Nat.le_of_ble_eq_true rfl)
  refine ⟨(fun y hy => by cases hy), _, List.mem_cons_self, ρ, fun _ _ => rfl, ax_px hE rfl (fun y hy => ?_)⟩
  cases List.mem_singleton.mp hy
  show ax_XF (ax_XM 1) (500 + 53) [702, 112, ρ 0, ρ 2, 0] hp
  refine (ax_XF_wr (x := 53) (Nat.le_of_ble_eq_true rfl)).mpr ⟨ay_ex_upd hT.1 (ax_cellT hT (q := 179) (g := 49) (ax_wc ax_WW1 ax_cg_179)), ay_ex_upd hT.1 (ax_cellT hT (q := 173) (g := 11) (ax_wc ax_WW1 ax_cg_173)), ?_⟩
  show ay_M53 (ρ 2) (0) (ay_at (ax_upd hp 702 (112) (ρ 0)) 179 0) (ay_at (ax_upd hp 702 (112) (ρ 0)) 173 28)
  have c0 : ay_at (ax_upd hp 702 (112) (ρ 0)) 179 0 = ay_at hp 179 0 := ay_upd_ne hT.1 (by decide) 0
  rw [c0]
  have c1 : ay_at (ax_upd hp 702 (112) (ρ 0)) 173 28 = some (ρ 0) := by rw [ay_upd_eq hT.1 rfl ho0, if_pos (by decide)]
  rw [c1]
  show 20 * (40 - ay_ln (ay_at hp 179 0)) + 2 * (ρ 0 / 4) + 1 ≤ ρ 2 / 4
  rw [h0, d4]
  omega
theorem axq1_cmE : ax_RO ax_wM1 (ax_XM 1) axu1_cmE := by
  intro ρ hp hE hT
  obtain ⟨p1, p2, p3, p4, p5, p6, p⟩ : ay_ex hp 185 ∧ ay_ex hp 173 ∧ ay_ex hp 182 ∧ ay_ex hp 180 ∧ ay_ex hp 179 ∧ ay_ex hp 173 ∧ ay_M40 0 (0) (0) (4) (0) (4) (ay_at hp 185) (ay_at hp 173 27) (ay_at hp 182) (ay_at hp 180 0) (ay_at hp 179 0) (ay_at hp 173 28) := (ax_XF_lt (x := 40) (Nat.le_of_ble_eq_true rfl)).mp (ax_gx hE (40, [0, 0, 4, 0, 4]) (by decide))
  replace p : ay_pg 0 0 0 1 0 1 (ay_at hp 185) (ay_ln (ay_at hp 173 27)) (ay_at hp 182) (ay_ln (ay_at hp 180 0)) (ay_ln (ay_at hp 179 0)) (ay_ln (ay_at hp 173 28)) := p
  obtain ⟨o, ho, o1, o2, o3⟩ := ax_gi hE 0 2147483648 2147483648 (by decide) rfl
  obtain ⟨o4, o5⟩ := ax_bi_pos o1 (by omega)
  have d4 : ∀ z : Nat, 4 * z / 4 = z := fun z => by omega
  have fo := ay_gfj hE 702 108 3 173 27 (by decide) (ax_vlq rfl rfl) (ax_vlj rfl rfl)
  replace fo : ay_at hp 173 27 = some (ρ 0) := fo
  have lo : ay_ln (ay_at hp 173 27) = o := by rw [fo, ho]; show 4 * o / 4 = o; omega
  refine ⟨(fun y hy => by cases hy), _, List.mem_cons_self, ρ, fun _ _ => rfl, ax_px hE rfl (fun y hy => ?_)⟩
  cases List.mem_singleton.mp hy
  refine (ax_XF_lt (x := 40) (Nat.le_of_ble_eq_true rfl)).mpr ⟨(ax_cellT hT (q := 185) (g := 55) (ax_wc ax_WW1 ax_cg_185)), (ax_cellT hT (q := 173) (g := 11) (ax_wc ax_WW1 ax_cg_173)), (ax_cellT hT (q := 182) (g := 52) (ax_wc ax_WW1 ax_cg_182)), (ax_cellT hT (q := 180) (g := 50) (ax_wc ax_WW1 ax_cg_180)), (ax_cellT hT (q := 179) (g := 49) (ax_wc ax_WW1 ax_cg_179)), (ax_cellT hT (q := 173) (g := 11) (ax_wc ax_WW1 ax_cg_173)), ?_⟩
  show ay_M40 0 (0) (0) (4) (0) (0) (ay_at hp 185) (ay_at hp 173 27) (ay_at hp 182) (ay_at hp 180 0) (ay_at hp 179 0) (ay_at hp 173 28)
  show ay_pg 0 0 0 1 0 0 (ay_at hp 185) (ay_ln (ay_at hp 173 27)) (ay_at hp 182) (ay_ln (ay_at hp 180 0)) (ay_ln (ay_at hp 179 0)) (ay_ln (ay_at hp 173 28))
  exact ay_pg_m0 p (fun h => by rw [lo] at h; omega)

theorem axq1_cmF0 : ax_RO ax_wM1 (ax_XM 1) axu1_cmF0 := by
  intro ρ hp hE hT
  obtain ⟨p1, p2, p3, p4, p5, p6, p⟩ : ay_ex hp 185 ∧ ay_ex hp 173 ∧ ay_ex hp 182 ∧ ay_ex hp 180 ∧ ay_ex hp 179 ∧ ay_ex hp 173 ∧ ay_M40 0 (0) (0) (4) (0) (4) (ay_at hp 185) (ay_at hp 173 27) (ay_at hp 182) (ay_at hp 180 0) (ay_at hp 179 0) (ay_at hp 173 28) := (ax_XF_lt (x := 40) (Nat.le_of_ble_eq_true rfl)).mp (ax_gx hE (40, [0, 0, 4, 0, 4]) (by decide))
  replace p : ay_pg 0 0 0 1 0 1 (ay_at hp 185) (ay_ln (ay_at hp 173 27)) (ay_at hp 182) (ay_ln (ay_at hp 180 0)) (ay_ln (ay_at hp 179 0)) (ay_ln (ay_at hp 173 28)) := p
  obtain ⟨o, ho, o1, o2, o3⟩ := ax_gi hE 0 2147483649 2147483748 (by decide) rfl
  obtain ⟨o4, o5⟩ := ax_bi_pos o1 (by omega)
  have d4 : ∀ z : Nat, 4 * z / 4 = z := fun z => by omega
  have fo := ay_gfj hE 702 108 3 173 27 (by decide) (ax_vlq rfl rfl) (ax_vlj rfl rfl)
  replace fo : ay_at hp 173 27 = some (ρ 0) := fo
  have lo : ay_ln (ay_at hp 173 27) = o := by rw [fo, ho]; show 4 * o / 4 = o; omega
  have hs : ρ 1 = 4 * (o - 1) := ay_d hE 7 4 3 (b := 1) (by decide) (ax_vl_c (v := 4) (by decide)) ho (by omega) (by omega)
  obtain ⟨c, hc, c1, c2, c3⟩ := ax_gi hE 2 0 2147484655 (by decide) rfl
  rw [ax_bi_def] at c2 c3
  have fr := ay_gf hE 750 7 11 185 (by decide) (ax_vlq rfl rfl)
  replace fr : ay_at hp 185 (ρ 1 / 4) = some (ρ 2) := fr
  obtain ⟨n, hn⟩ : ∃ n, o = n + 1 := ⟨o - 1, by omega⟩
  have h0 : ρ 1 = 4 * n := by omega
  rw [h0, d4, hc] at fr
  refine ⟨(fun y hy => by cases hy), _, List.mem_cons_self, ρ, fun _ _ => rfl, ax_px hE rfl (fun y hy => ?_)⟩
  cases List.mem_singleton.mp hy
  refine (ax_XF_lt (x := 40) (Nat.le_of_ble_eq_true rfl)).mpr ⟨(ax_cellT hT (q := 185) (g := 55) (ax_wc ax_WW1 ax_cg_185)), (ax_cellT hT (q := 173) (g := 11) (ax_wc ax_WW1 ax_cg_173)), (ax_cellT hT (q := 182) (g := 52) (ax_wc ax_WW1 ax_cg_182)), (ax_cellT hT (q := 180) (g := 50) (ax_wc ax_WW1 ax_cg_180)), (ax_cellT hT (q := 179) (g := 49) (ax_wc ax_WW1 ax_cg_179)), (ax_cellT hT (q := 173) (g := 11) (ax_wc ax_WW1 ax_cg_173)), ?_⟩
  show ay_M40 0 (0) (0) (4) (0) (0) (ay_at hp 185) (ay_at hp 173 27) (ay_at hp 182) (ay_at hp 180 0) (ay_at hp 179 0) (ay_at hp 173 28)
  show ay_pg 0 0 0 1 0 0 (ay_at hp 185) (ay_ln (ay_at hp 173 27)) (ay_at hp 182) (ay_ln (ay_at hp 180 0)) (ay_ln (ay_at hp 179 0)) (ay_ln (ay_at hp 173 28))
  refine ay_pg_m0 p (fun h z => ?_)
  rw [lo, hn] at z
  replace z : ay_at hp 185 n = some 4032 := z
  rw [fr] at z
  have z := Option.some.inj z
  omega

theorem axq1_cmF1 : ax_RO ax_wM1 (ax_XM 1) axu1_cmF1 := by
  intro ρ hp hE hT
  obtain ⟨p1, p2, p3, p4, p5, p6, p⟩ : ay_ex hp 185 ∧ ay_ex hp 173 ∧ ay_ex hp 182 ∧ ay_ex hp 180 ∧ ay_ex hp 179 ∧ ay_ex hp 173 ∧ ay_M40 0 (0) (0) (4) (0) (4) (ay_at hp 185) (ay_at hp 173 27) (ay_at hp 182) (ay_at hp 180 0) (ay_at hp 179 0) (ay_at hp 173 28) := (ax_XF_lt (x := 40) (Nat.le_of_ble_eq_true rfl)).mp (ax_gx hE (40, [0, 0, 4, 0, 4]) (by decide))
  replace p : ay_pg 0 0 0 1 0 1 (ay_at hp 185) (ay_ln (ay_at hp 173 27)) (ay_at hp 182) (ay_ln (ay_at hp 180 0)) (ay_ln (ay_at hp 179 0)) (ay_ln (ay_at hp 173 28)) := p
  obtain ⟨o, ho, o1, o2, o3⟩ := ax_gi hE 0 2147483649 2147483748 (by decide) rfl
  obtain ⟨o4, o5⟩ := ax_bi_pos o1 (by omega)
  have d4 : ∀ z : Nat, 4 * z / 4 = z := fun z => by omega
  have fo := ay_gfj hE 702 108 3 173 27 (by decide) (ax_vlq rfl rfl) (ax_vlj rfl rfl)
  replace fo : ay_at hp 173 27 = some (ρ 0) := fo
  have lo : ay_ln (ay_at hp 173 27) = o := by rw [fo, ho]; show 4 * o / 4 = o; omega
  have hs : ρ 1 = 4 * (o - 1) := ay_d hE 7 4 3 (b := 1) (by decide) (ax_vl_c (v := 4) (by decide)) ho (by omega) (by omega)
  obtain ⟨c, hc, c1, c2, c3⟩ := ax_gi hE 2 2147484657 4294967295 (by decide) rfl
  rw [ax_bi_def] at c2 c3
  have fr := ay_gf hE 750 7 11 185 (by decide) (ax_vlq rfl rfl)
  replace fr : ay_at hp 185 (ρ 1 / 4) = some (ρ 2) := fr
  obtain ⟨n, hn⟩ : ∃ n, o = n + 1 := ⟨o - 1, by omega⟩
  have h0 : ρ 1 = 4 * n := by omega
  rw [h0, d4, hc] at fr
  refine ⟨(fun y hy => by cases hy), _, List.mem_cons_self, ρ, fun _ _ => rfl, ax_px hE rfl (fun y hy => ?_)⟩
  cases List.mem_singleton.mp hy
  refine (ax_XF_lt (x := 40) (Nat.le_of_ble_eq_true rfl)).mpr ⟨(ax_cellT hT (q := 185) (g := 55) (ax_wc ax_WW1 ax_cg_185)), (ax_cellT hT (q := 173) (g := 11) (ax_wc ax_WW1 ax_cg_173)), (ax_cellT hT (q := 182) (g := 52) (ax_wc ax_WW1 ax_cg_182)), (ax_cellT hT (q := 180) (g := 50) (ax_wc ax_WW1 ax_cg_180)), (ax_cellT hT (q := 179) (g := 49) (ax_wc ax_WW1 ax_cg_179)), (ax_cellT hT (q := 173) (g := 11) (ax_wc ax_WW1 ax_cg_173)), ?_⟩
  show ay_M40 0 (0) (0) (4) (0) (0) (ay_at hp 185) (ay_at hp 173 27) (ay_at hp 182) (ay_at hp 180 0) (ay_at hp 179 0) (ay_at hp 173 28)
  show ay_pg 0 0 0 1 0 0 (ay_at hp 185) (ay_ln (ay_at hp 173 27)) (ay_at hp 182) (ay_ln (ay_at hp 180 0)) (ay_ln (ay_at hp 179 0)) (ay_ln (ay_at hp 173 28))
  refine ay_pg_m0 p (fun h z => ?_)
  rw [lo, hn] at z
  replace z : ay_at hp 185 n = some 4032 := z
  rw [fr] at z
  have z := Option.some.inj z
  omega

theorem axq1_co0 : ax_RO ax_wM1 (ax_XM 1) axu1_co0 := by
  intro ρ hp hE hT
  obtain ⟨p1, p2, p3, p4, p5, p6, p⟩ : ay_ex hp 185 ∧ ay_ex hp 173 ∧ ay_ex hp 182 ∧ ay_ex hp 180 ∧ ay_ex hp 179 ∧ ay_ex hp 173 ∧ ay_M40 0 (0) (0) (4) (0) (0) (ay_at hp 185) (ay_at hp 173 27) (ay_at hp 182) (ay_at hp 180 0) (ay_at hp 179 0) (ay_at hp 173 28) := (ax_XF_lt (x := 40) (Nat.le_of_ble_eq_true rfl)).mp (ax_gx hE (40, [0, 0, 4, 0, 0]) (by decide))
  replace p : ay_pg 0 0 0 1 0 0 (ay_at hp 185) (ay_ln (ay_at hp 173 27)) (ay_at hp 182) (ay_ln (ay_at hp 180 0)) (ay_ln (ay_at hp 179 0)) (ay_ln (ay_at hp 173 28)) := p
  obtain ⟨o, ho, o1, o2, o3⟩ := ax_gi hE 1 2147483648 2147483748 (by decide) rfl
  obtain ⟨o4, o5⟩ := ax_bi_pos o1 (by omega)
  obtain ⟨d, hd, d1, d2, d3⟩ := ax_gi hE 2 2147483649 2147483654 (by decide) rfl
  obtain ⟨d4, d5⟩ := ax_bi_pos d1 (by omega)
  have d4 : ∀ z : Nat, 4 * z / 4 = z := fun z => by omega
  have fd := ay_gfj hE 702 112 11 173 28 (by decide) (ax_vlq rfl rfl) (ax_vlj rfl rfl)
  replace fd : ay_at hp 173 28 = some (ρ 2) := fd
  have ld : ay_ln (ay_at hp 173 28) = d := by rw [fd, hd]; show 4 * d / 4 = d; omega
  have fo := ay_gfj hE 702 108 7 173 27 (by decide) (ax_vlq rfl rfl) (ax_vlj rfl rfl)
  replace fo : ay_at hp 173 27 = some (ρ 1) := fo
  have lo : ay_ln (ay_at hp 173 27) = o := by rw [fo, ho]; show 4 * o / 4 = o; omega
  rw [lo, ld] at p
  have hod := ay_pg_deep p (by omega)
  have hs : ρ 0 = 4 * (o - 1) := ay_d hE 3 4 7 (b := 1) (by decide) (ax_vl_c (v := 4) (by decide)) ho (by omega) (by omega)
  refine ⟨fun y hy => ?_, _, List.mem_cons_self, ρ, fun _ _ => rfl, ax_px hE rfl (fun y hy => by cases hy)⟩
  rcases List.mem_cons.mp hy with e | hy
  · subst e
    show 2147483648 ≤ rx_bi (ρ 0 / 4) ∧ rx_bi (ρ 0 / 4) ≤ 2147483747
    rw [hs, d4, ax_bi_nat (by omega)]
    omega
  cases List.mem_singleton.mp hy
  show 2147483649 ≤ rx_bi (ρ 1 / 4) ∧ rx_bi (ρ 1 / 4) ≤ 2147483748
  rw [ho, d4, ax_bi_nat (by omega)]
  omega

theorem axq1_co1 : ax_RO ax_wM1 (ax_XM 1) axu1_co1 := by
  intro ρ hp hE hT
  obtain ⟨p1, p2, p3, p4, p5, p6, p⟩ : ay_ex hp 185 ∧ ay_ex hp 173 ∧ ay_ex hp 182 ∧ ay_ex hp 180 ∧ ay_ex hp 179 ∧ ay_ex hp 173 ∧ ay_M40 0 (0) (0) (4) (0) (0) (ay_at hp 185) (ay_at hp 173 27) (ay_at hp 182) (ay_at hp 180 0) (ay_at hp 179 0) (ay_at hp 173 28) := (ax_XF_lt (x := 40) (Nat.le_of_ble_eq_true rfl)).mp (ax_gx hE (40, [0, 0, 4, 0, 0]) (by decide))
  replace p : ay_pg 0 0 0 1 0 0 (ay_at hp 185) (ay_ln (ay_at hp 173 27)) (ay_at hp 182) (ay_ln (ay_at hp 180 0)) (ay_ln (ay_at hp 179 0)) (ay_ln (ay_at hp 173 28)) := p
  obtain ⟨o, ho, o1, o2, o3⟩ := ax_gi hE 1 2147483649 2147483748 (by decide) rfl
  obtain ⟨o4, o5⟩ := ax_bi_pos o1 (by omega)
  have d4 : ∀ z : Nat, 4 * z / 4 = z := fun z => by omega
  have fo := ay_gfj hE 702 108 7 173 27 (by decide) (ax_vlq rfl rfl) (ax_vlj rfl rfl)
  replace fo : ay_at hp 173 27 = some (ρ 1) := fo
  have lo : ay_ln (ay_at hp 173 27) = o := by rw [fo, ho]; show 4 * o / 4 = o; omega
  have hs : ρ 0 = 4 * (o - 1) := ay_d hE 3 4 7 (b := 1) (by decide) (ax_vl_c (v := 4) (by decide)) ho (by omega) (by omega)
  obtain ⟨c, hc, c1, c2, c3⟩ := ax_gi hE 2 0 2147484656 (by decide) rfl
  rw [ax_bi_def] at c2 c3
  have fr := ay_gf hE 750 3 11 185 (by decide) (ax_vlq rfl rfl)
  replace fr : ay_at hp 185 (ρ 0 / 4) = some (ρ 2) := fr
  obtain ⟨n, hn⟩ : ∃ n, o = n + 1 := ⟨o - 1, by omega⟩
  have h0 : ρ 0 = 4 * n := by omega
  rw [h0, d4, hc] at fr
  rw [lo, hn] at p
  have ht := ay_pg_top p fr
  refine ⟨(fun y hy => by cases hy), _, List.mem_cons_self, ρ, fun _ _ => rfl, ax_px hE rfl (fun y hy => ?_)⟩
  cases List.mem_singleton.mp hy
  refine (ax_XF_lt (x := 57) (Nat.le_of_ble_eq_true rfl)).mpr ⟨(ax_cellT hT (q := 173) (g := 11) (ax_wc ax_WW1 ax_cg_173)), (ax_cellT hT (q := 185) (g := 55) (ax_wc ax_WW1 ax_cg_185)), ?_⟩
  show 1 ≤ ay_ln (ay_at hp 173 27) ∧ ay_isb (ay_at hp 185 (ay_ln (ay_at hp 173 27) - 1)) = true
  rw [lo, hn]
  refine ⟨by omega, ?_⟩
  show ay_isb (ay_at hp 185 n) = true
  rw [fr]
  exact ay_isb_c (by omega) (by omega)

theorem axq1_co2 : ax_RO ax_wM1 (ax_XM 1) axu1_co2 := by
  intro ρ hp hE hT
  obtain ⟨p1, p2, p3, p4, p5, p6, p⟩ : ay_ex hp 185 ∧ ay_ex hp 173 ∧ ay_ex hp 182 ∧ ay_ex hp 180 ∧ ay_ex hp 179 ∧ ay_ex hp 173 ∧ ay_M40 0 (0) (0) (4) (0) (0) (ay_at hp 185) (ay_at hp 173 27) (ay_at hp 182) (ay_at hp 180 0) (ay_at hp 179 0) (ay_at hp 173 28) := (ax_XF_lt (x := 40) (Nat.le_of_ble_eq_true rfl)).mp (ax_gx hE (40, [0, 0, 4, 0, 0]) (by decide))
  replace p : ay_pg 0 0 0 1 0 0 (ay_at hp 185) (ay_ln (ay_at hp 173 27)) (ay_at hp 182) (ay_ln (ay_at hp 180 0)) (ay_ln (ay_at hp 179 0)) (ay_ln (ay_at hp 173 28)) := p
  obtain ⟨o, ho, o1, o2, o3⟩ := ax_gi hE 1 2147483649 2147483748 (by decide) rfl
  obtain ⟨o4, o5⟩ := ax_bi_pos o1 (by omega)
  have d4 : ∀ z : Nat, 4 * z / 4 = z := fun z => by omega
  have fo := ay_gfj hE 702 108 7 173 27 (by decide) (ax_vlq rfl rfl) (ax_vlj rfl rfl)
  replace fo : ay_at hp 173 27 = some (ρ 1) := fo
  have lo : ay_ln (ay_at hp 173 27) = o := by rw [fo, ho]; show 4 * o / 4 = o; omega
  have hs : ρ 0 = 4 * (o - 1) := ay_d hE 3 4 7 (b := 1) (by decide) (ax_vl_c (v := 4) (by decide)) ho (by omega) (by omega)
  obtain ⟨c, hc, c1, c2, c3⟩ := ax_gi hE 2 2147484658 4294967295 (by decide) rfl
  rw [ax_bi_def] at c2 c3
  have fr := ay_gf hE 750 3 11 185 (by decide) (ax_vlq rfl rfl)
  replace fr : ay_at hp 185 (ρ 0 / 4) = some (ρ 2) := fr
  obtain ⟨n, hn⟩ : ∃ n, o = n + 1 := ⟨o - 1, by omega⟩
  have h0 : ρ 0 = 4 * n := by omega
  rw [h0, d4, hc] at fr
  rw [lo, hn] at p
  have ht := ay_pg_top p fr
  exfalso
  omega
theorem axq1_co3 : ax_RO ax_wM1 (ax_XM 1) axu1_co3 := by
  intro ρ hp hE hT
  obtain ⟨p1, p2, p3, p4, p5, p6, p⟩ : ay_ex hp 185 ∧ ay_ex hp 173 ∧ ay_ex hp 182 ∧ ay_ex hp 180 ∧ ay_ex hp 179 ∧ ay_ex hp 173 ∧ ay_M40 0 (0) (0) (4) (0) (0) (ay_at hp 185) (ay_at hp 173 27) (ay_at hp 182) (ay_at hp 180 0) (ay_at hp 179 0) (ay_at hp 173 28) := (ax_XF_lt (x := 40) (Nat.le_of_ble_eq_true rfl)).mp (ax_gx hE (40, [0, 0, 4, 0, 0]) (by decide))
  replace p : ay_pg 0 0 0 1 0 0 (ay_at hp 185) (ay_ln (ay_at hp 173 27)) (ay_at hp 182) (ay_ln (ay_at hp 180 0)) (ay_ln (ay_at hp 179 0)) (ay_ln (ay_at hp 173 28)) := p
  obtain ⟨o, ho, o1, o2, o3⟩ := ax_gi hE 1 2147483649 2147483748 (by decide) rfl
  obtain ⟨o4, o5⟩ := ax_bi_pos o1 (by omega)
  have d4 : ∀ z : Nat, 4 * z / 4 = z := fun z => by omega
  have fo := ay_gfj hE 702 108 7 173 27 (by decide) (ax_vlq rfl rfl) (ax_vlj rfl rfl)
  replace fo : ay_at hp 173 27 = some (ρ 1) := fo
  have lo : ay_ln (ay_at hp 173 27) = o := by rw [fo, ho]; show 4 * o / 4 = o; omega
  have hs : ρ 0 = 4 * (o - 1) := ay_d hE 3 4 7 (b := 1) (by decide) (ax_vl_c (v := 4) (by decide)) ho (by omega) (by omega)
  obtain ⟨c, hc, c1, c2, c3⟩ := ax_gi hE 2 2147484657 2147484657 (by decide) rfl
  rw [ax_bi_def] at c2 c3
  have fr := ay_gf hE 750 3 11 185 (by decide) (ax_vlq rfl rfl)
  replace fr : ay_at hp 185 (ρ 0 / 4) = some (ρ 2) := fr
  obtain ⟨n, hn⟩ : ∃ n, o = n + 1 := ⟨o - 1, by omega⟩
  have h0 : ρ 0 = 4 * n := by omega
  rw [h0, d4, hc] at fr
  rw [lo, hn] at p
  obtain ⟨o0, ho0⟩ := ay_some hT (q := 173) (g := 11) (n := 58) (ax_wc ax_WW1 ax_cg_173) (ax_wn ax_WW1 ax_cn_11) (j := 108 / 4) (Nat.le_of_ble_eq_true rfl)
  refine ⟨(fun y hy => by cases hy), _, List.mem_cons_self, ρ, fun _ _ => rfl, ax_px hE rfl (fun y hy => ?_)⟩
  cases List.mem_singleton.mp hy
  show ax_XF (ax_XM 1) (500 + 40) [702, 108, ρ 0, 0, 0, 8, 4, 4] hp
  refine (ax_XF_wr (x := 40) (Nat.le_of_ble_eq_true rfl)).mpr ⟨ay_ex_upd hT.1 (ax_cellT hT (q := 185) (g := 55) (ax_wc ax_WW1 ax_cg_185)), ay_ex_upd hT.1 (ax_cellT hT (q := 173) (g := 11) (ax_wc ax_WW1 ax_cg_173)), ay_ex_upd hT.1 (ax_cellT hT (q := 182) (g := 52) (ax_wc ax_WW1 ax_cg_182)), ay_ex_upd hT.1 (ax_cellT hT (q := 180) (g := 50) (ax_wc ax_WW1 ax_cg_180)), ay_ex_upd hT.1 (ax_cellT hT (q := 179) (g := 49) (ax_wc ax_WW1 ax_cg_179)), ay_ex_upd hT.1 (ax_cellT hT (q := 173) (g := 11) (ax_wc ax_WW1 ax_cg_173)), ?_⟩
  show ay_M40 0 (0) (0) (8) (4) (4) (ay_at (ax_upd hp 702 (108) (ρ 0)) 185) (ay_at (ax_upd hp 702 (108) (ρ 0)) 173 27) (ay_at (ax_upd hp 702 (108) (ρ 0)) 182) (ay_at (ax_upd hp 702 (108) (ρ 0)) 180 0) (ay_at (ax_upd hp 702 (108) (ρ 0)) 179 0) (ay_at (ax_upd hp 702 (108) (ρ 0)) 173 28)
  have c0 : ay_at (ax_upd hp 702 (108) (ρ 0)) 185 = ay_at hp 185 := funext (fun j => ay_upd_ne hT.1 (by decide) j)
  rw [c0]
  have c1 : ay_at (ax_upd hp 702 (108) (ρ 0)) 173 27 = some (ρ 0) := by rw [ay_upd_eq hT.1 rfl ho0, if_pos (by decide)]
  rw [c1]
  have c2 : ay_at (ax_upd hp 702 (108) (ρ 0)) 182 = ay_at hp 182 := funext (fun j => ay_upd_ne hT.1 (by decide) j)
  rw [c2]
  have c3 : ay_at (ax_upd hp 702 (108) (ρ 0)) 180 0 = ay_at hp 180 0 := ay_upd_ne hT.1 (by decide) 0
  rw [c3]
  have c4 : ay_at (ax_upd hp 702 (108) (ρ 0)) 179 0 = ay_at hp 179 0 := ay_upd_ne hT.1 (by decide) 0
  rw [c4]
  have c5 : ay_at (ax_upd hp 702 (108) (ρ 0)) 173 28 = ay_at hp 173 28 := by rw [ay_upd_eq hT.1 rfl ho0, if_neg (by decide)]
  rw [c5]
  show ay_pg 0 0 0 2 1 1 (ay_at hp 185) (ρ 0 / 4) (ay_at hp 182) (ay_ln (ay_at hp 180 0)) (ay_ln (ay_at hp 179 0)) (ay_ln (ay_at hp 173 28))
  rw [h0, d4]
  exact ay_pg_qM p fr (by omega)
theorem axq1_co4 : ax_RO ax_wM1 (ax_XM 1) axu1_co4 := by
  intro ρ hp hE hT
  obtain ⟨p1, p2, p3, p4, p5, p6, p⟩ : ay_ex hp 185 ∧ ay_ex hp 173 ∧ ay_ex hp 182 ∧ ay_ex hp 180 ∧ ay_ex hp 179 ∧ ay_ex hp 173 ∧ ay_M40 0 (0) (0) (8) (4) (4) (ay_at hp 185) (ay_at hp 173 27) (ay_at hp 182) (ay_at hp 180 0) (ay_at hp 179 0) (ay_at hp 173 28) := (ax_XF_lt (x := 40) (Nat.le_of_ble_eq_true rfl)).mp (ax_gx hE (40, [0, 0, 8, 4, 4]) (by decide))
  replace p : ay_pg 0 0 0 2 1 1 (ay_at hp 185) (ay_ln (ay_at hp 173 27)) (ay_at hp 182) (ay_ln (ay_at hp 180 0)) (ay_ln (ay_at hp 179 0)) (ay_ln (ay_at hp 173 28)) := p
  obtain ⟨k1, k2, k⟩ : ay_ex hp 179 ∧ ay_ex hp 173 ∧ ay_M53 (ρ 2) (0) (ay_at hp 179 0) (ay_at hp 173 28) := (ax_XF_lt (x := 53) (Nat.le_of_ble_eq_true rfl)).mp (ax_gx hE (53, [11, 0]) (by decide))
  replace k : 20 * (40 - ay_ln (ay_at hp 179 0)) + 2 * ay_ln (ay_at hp 173 28) + 1 ≤ ρ 2 / 4 := k
  obtain ⟨K, hK⟩ := ax_gj hE 2 (by decide) rfl
  obtain ⟨d, hd, d1, d2, d3⟩ := ax_gi hE 1 2147483649 2147483654 (by decide) rfl
  obtain ⟨d4, d5⟩ := ax_bi_pos d1 (by omega)
  have d4 : ∀ z : Nat, 4 * z / 4 = z := fun z => by omega
  have fd := ay_gfj hE 702 112 7 173 28 (by decide) (ax_vlq rfl rfl) (ax_vlj rfl rfl)
  replace fd : ay_at hp 173 28 = some (ρ 1) := fd
  have ld : ay_ln (ay_at hp 173 28) = d := by rw [fd, hd]; show 4 * d / 4 = d; omega
  rw [ld] at p k
  obtain ⟨n, hn⟩ : ∃ n, d = n + 1 := ⟨d - 1, by omega⟩
  have hs : ρ 0 = 4 * (d - 1) := ay_d hE 3 4 7 (b := 1) (by decide) (ax_vl_c (v := 4) (by decide)) hd (by omega) (by omega)
  have h0 : ρ 0 = 4 * n := by omega
  rw [hn] at p ld
  rw [hn] at k
  obtain ⟨z, hz⟩ : ∃ z, ay_ln (ay_at hp 179 0) = z := ⟨_, rfl⟩
  rw [hz] at k
  obtain ⟨o0, ho0⟩ := ay_some hT (q := 173) (g := 11) (n := 58) (ax_wc ax_WW1 ax_cg_173) (ax_wn ax_WW1 ax_cn_11) (j := 112 / 4) (Nat.le_of_ble_eq_true rfl)
  obtain ⟨ρ', h1, h2⟩ := ax_pn (K := 20 * (40 - z) + 2 * n + 1) (xf := [(540, [702, 112, 3, 0, 0, 4, 0, 4]), (553, [702, 112, 3, 15, 0]), (1030, [15, 11])]) hE (by decide) (fun ρ' h1 h2 x hx => by
    rcases List.mem_cons.mp hx with e | hx
    · subst e
      show ax_XF (ax_XM 1) (500 + 40) [702, 112, ρ' 0, 0, 0, 4, 0, 4] hp
      rw [h1 0 (by decide)]
      refine (ax_XF_wr (x := 40) (Nat.le_of_ble_eq_true rfl)).mpr ⟨ay_ex_upd hT.1 (ax_cellT hT (q := 185) (g := 55) (ax_wc ax_WW1 ax_cg_185)), ay_ex_upd hT.1 (ax_cellT hT (q := 173) (g := 11) (ax_wc ax_WW1 ax_cg_173)), ay_ex_upd hT.1 (ax_cellT hT (q := 182) (g := 52) (ax_wc ax_WW1 ax_cg_182)), ay_ex_upd hT.1 (ax_cellT hT (q := 180) (g := 50) (ax_wc ax_WW1 ax_cg_180)), ay_ex_upd hT.1 (ax_cellT hT (q := 179) (g := 49) (ax_wc ax_WW1 ax_cg_179)), ay_ex_upd hT.1 (ax_cellT hT (q := 173) (g := 11) (ax_wc ax_WW1 ax_cg_173)), ?_⟩
      show ay_M40 0 (0) (0) (4) (0) (4) (ay_at (ax_upd hp 702 (112) (ρ 0)) 185) (ay_at (ax_upd hp 702 (112) (ρ 0)) 173 27) (ay_at (ax_upd hp 702 (112) (ρ 0)) 182) (ay_at (ax_upd hp 702 (112) (ρ 0)) 180 0) (ay_at (ax_upd hp 702 (112) (ρ 0)) 179 0) (ay_at (ax_upd hp 702 (112) (ρ 0)) 173 28)
      have c0 : ay_at (ax_upd hp 702 (112) (ρ 0)) 185 = ay_at hp 185 := funext (fun j => ay_upd_ne hT.1 (by decide) j)
      rw [c0]
      have c1 : ay_at (ax_upd hp 702 (112) (ρ 0)) 173 27 = ay_at hp 173 27 := by rw [ay_upd_eq hT.1 rfl ho0, if_neg (by decide)]
      rw [c1]
      have c2 : ay_at (ax_upd hp 702 (112) (ρ 0)) 182 = ay_at hp 182 := funext (fun j => ay_upd_ne hT.1 (by decide) j)
      rw [c2]
      have c3 : ay_at (ax_upd hp 702 (112) (ρ 0)) 180 0 = ay_at hp 180 0 := ay_upd_ne hT.1 (by decide) 0
      rw [c3]
      have c4 : ay_at (ax_upd hp 702 (112) (ρ 0)) 179 0 = ay_at hp 179 0 := ay_upd_ne hT.1 (by decide) 0
      rw [c4]
      have c5 : ay_at (ax_upd hp 702 (112) (ρ 0)) 173 28 = some (ρ 0) := by rw [ay_upd_eq hT.1 rfl ho0, if_pos (by decide)]
      rw [c5]
      show ay_pg 0 0 0 1 0 1 (ay_at hp 185) (ay_ln (ay_at hp 173 27)) (ay_at hp 182) (ay_ln (ay_at hp 180 0)) (ay_ln (ay_at hp 179 0)) (ρ 0 / 4)
      rw [h0, d4]
      exact ay_pg_d1 p
    rcases List.mem_cons.mp hx with e | hx
    · subst e
      show ax_XF (ax_XM 1) (500 + 53) [702, 112, ρ' 0, ρ' 3, 0] hp
      rw [h1 0 (by decide)]
      refine (ax_XF_wr (x := 53) (Nat.le_of_ble_eq_true rfl)).mpr ⟨ay_ex_upd hT.1 (ax_cellT hT (q := 179) (g := 49) (ax_wc ax_WW1 ax_cg_179)), ay_ex_upd hT.1 (ax_cellT hT (q := 173) (g := 11) (ax_wc ax_WW1 ax_cg_173)), ?_⟩
      show ay_M53 (ρ' 3) (0) (ay_at (ax_upd hp 702 (112) (ρ 0)) 179 0) (ay_at (ax_upd hp 702 (112) (ρ 0)) 173 28)
      have c0 : ay_at (ax_upd hp 702 (112) (ρ 0)) 179 0 = ay_at hp 179 0 := ay_upd_ne hT.1 (by decide) 0
      rw [c0]
      have c1 : ay_at (ax_upd hp 702 (112) (ρ 0)) 173 28 = some (ρ 0) := by rw [ay_upd_eq hT.1 rfl ho0, if_pos (by decide)]
      rw [c1]
      show 20 * (40 - ay_ln (ay_at hp 179 0)) + 2 * (ρ 0 / 4) + 1 ≤ ρ' 3 / 4
      rw [h2, h0, hz, d4]
      omega
    cases List.mem_singleton.mp hx
    refine (ax_XF_bi (o := 30) (by decide)).mpr (Or.inr ⟨rfl, ?_⟩)
    show ρ' 3 < ρ' 2
    rw [h2, h1 2 (by decide), hK]
    omega)
  exact ⟨(fun x hx => by cases hx), _, List.mem_cons_self, ρ', h1, h2⟩
theorem axq1_ru0 : ax_RO ax_wM1 (ax_XM 1) axu1_ru0 := by
  intro ρ hp hE hT
  obtain ⟨p1, p2, p3, p4, p5, p6, p⟩ : ay_ex hp 185 ∧ ay_ex hp 173 ∧ ay_ex hp 182 ∧ ay_ex hp 180 ∧ ay_ex hp 179 ∧ ay_ex hp 173 ∧ ay_M40 0 (4) (0) (4) (0) (4) (ay_at hp 185) (ay_at hp 173 27) (ay_at hp 182) (ay_at hp 180 0) (ay_at hp 179 0) (ay_at hp 173 28) := (ax_XF_lt (x := 40) (Nat.le_of_ble_eq_true rfl)).mp (ax_gx hE (40, [4, 0, 4, 0, 4]) ax_m0)
  replace p : ay_pg 0 1 0 1 0 1 (ay_at hp 185) (ay_ln (ay_at hp 173 27)) (ay_at hp 182) (ay_ln (ay_at hp 180 0)) (ay_ln (ay_at hp 179 0)) (ay_ln (ay_at hp 173 28)) := p
  obtain ⟨k1, k2, k⟩ : ay_ex hp 179 ∧ ay_ex hp 173 ∧ ay_M53 (ρ 2) (4) (ay_at hp 179 0) (ay_at hp 173 28) := (ax_XF_lt (x := 53) (Nat.le_of_ble_eq_true rfl)).mp (ax_gx hE (53, [11, 4]) ax_m3)
  replace k : 20 * (40 - ay_ln (ay_at hp 179 0)) + 2 * ay_ln (ay_at hp 173 28) + 0 ≤ ρ 2 / 4 := k
  obtain ⟨K, hK⟩ := ax_gj hE 2 (by decide) rfl
  obtain ⟨u, hu, u1, u2, u3⟩ := ax_gi hE 1 2147483648 2147483687 (by decide) rfl
  obtain ⟨u4, u5⟩ := ax_bi_pos u1 (by omega)
  have d4 : ∀ z : Nat, 4 * z / 4 = z := fun z => by omega
  have fu := ay_gfj hE 726 0 7 179 0 ax_m1 (ax_vlq rfl rfl) (ax_vlj rfl rfl)
  replace fu : ay_at hp 179 0 = some (ρ 1) := fu
  have lu : ay_ln (ay_at hp 179 0) = u := by rw [fu, hu]; show 4 * u / 4 = u; omega
  rw [lu] at p k
  have h0 : ρ 0 = 4 * (u + 1) := ay_s hE 7 4 3 (b := 1) (by decide) hu (ax_vl_c (v := 4) (by decide)) (by omega) (by decide)
  obtain ⟨o0, ho0⟩ := ay_some hT (q := 179) (g := 49) (n := 2) (ax_wc ax_WW1 ax_cg_179) (ax_wn ax_WW1 ax_cn_49) (j := 0 / 4) (Nat.le_of_ble_eq_true rfl)
  obtain ⟨ρ', h1, h2⟩ := ax_pn (K := 20 * (40 - (u + 1)) + 13) (xf := [(540, [726, 0, 3, 4, 0, 4, 8, 4]), (555, [726, 0, 3, 15]), (1030, [15, 11])]) hE (by decide) (fun ρ' h1 h2 x hx => by
    rcases List.mem_cons.mp hx with e | hx
    · subst e
      show ax_XF (ax_XM 1) (500 + 40) [726, 0, ρ' 0, 4, 0, 4, 8, 4] hp
      rw [h1 0 (by decide)]
      refine (ax_XF_wr (x := 40) (Nat.le_of_ble_eq_true rfl)).mpr ⟨ay_ex_upd hT.1 (ax_cellT hT (q := 185) (g := 55) (ax_wc ax_WW1 ax_cg_185)), ay_ex_upd hT.1 (ax_cellT hT (q := 173) (g := 11) (ax_wc ax_WW1 ax_cg_173)), ay_ex_upd hT.1 (ax_cellT hT (q := 182) (g := 52) (ax_wc ax_WW1 ax_cg_182)), ay_ex_upd hT.1 (ax_cellT hT (q := 180) (g := 50) (ax_wc ax_WW1 ax_cg_180)), ay_ex_upd hT.1 (ax_cellT hT (q := 179) (g := 49) (ax_wc ax_WW1 ax_cg_179)), ay_ex_upd hT.1 (ax_cellT hT (q := 173) (g := 11) (ax_wc ax_WW1 ax_cg_173)), ?_⟩
      show ay_M40 0 (4) (0) (4) (8) (4) (ay_at (ax_upd hp 726 (0) (ρ 0)) 185) (ay_at (ax_upd hp 726 (0) (ρ 0)) 173 27) (ay_at (ax_upd hp 726 (0) (ρ 0)) 182) (ay_at (ax_upd hp 726 (0) (ρ 0)) 180 0) (ay_at (ax_upd hp 726 (0) (ρ 0)) 179 0) (ay_at (ax_upd hp 726 (0) (ρ 0)) 173 28)
      have c0 : ay_at (ax_upd hp 726 (0) (ρ 0)) 185 = ay_at hp 185 := funext (fun j => ay_upd_ne hT.1 (by decide) j)
      rw [c0]
      have c1 : ay_at (ax_upd hp 726 (0) (ρ 0)) 173 27 = ay_at hp 173 27 := ay_upd_ne hT.1 (by decide) 27
      rw [c1]
      have c2 : ay_at (ax_upd hp 726 (0) (ρ 0)) 182 = ay_at hp 182 := funext (fun j => ay_upd_ne hT.1 (by decide) j)
      rw [c2]
      have c3 : ay_at (ax_upd hp 726 (0) (ρ 0)) 180 0 = ay_at hp 180 0 := ay_upd_ne hT.1 (by decide) 0
      rw [c3]
      have c4 : ay_at (ax_upd hp 726 (0) (ρ 0)) 179 0 = some (ρ 0) := by rw [ay_upd_eq hT.1 rfl ho0, if_pos (by decide)]
      rw [c4]
      have c5 : ay_at (ax_upd hp 726 (0) (ρ 0)) 173 28 = ay_at hp 173 28 := ay_upd_ne hT.1 (by decide) 28
      rw [c5]
      show ay_pg 0 1 0 1 2 1 (ay_at hp 185) (ay_ln (ay_at hp 173 27)) (ay_at hp 182) (ay_ln (ay_at hp 180 0)) (ρ 0 / 4) (ay_ln (ay_at hp 173 28))
      rw [h0, d4]
      exact ay_pg_un p
    rcases List.mem_cons.mp hx with e | hx
    · subst e
      show ax_XF (ax_XM 1) (500 + 55) [726, 0, ρ' 0, ρ' 3] hp
      rw [h1 0 (by decide)]
      refine (ax_XF_wr (x := 55) (Nat.le_of_ble_eq_true rfl)).mpr ⟨ay_ex_upd hT.1 (ax_cellT hT (q := 179) (g := 49) (ax_wc ax_WW1 ax_cg_179)), ?_⟩
      show ay_M55 (ρ' 3) (ay_at (ax_upd hp 726 (0) (ρ 0)) 179 0)
      have c0 : ay_at (ax_upd hp 726 (0) (ρ 0)) 179 0 = some (ρ 0) := by rw [ay_upd_eq hT.1 rfl ho0, if_pos (by decide)]
      rw [c0]
      show 20 * (40 - ρ 0 / 4) + 13 ≤ ρ' 3 / 4
      rw [h2, h0, d4]
      omega
    cases List.mem_singleton.mp hx
    refine (ax_XF_bi (o := 30) (by decide)).mpr (Or.inr ⟨rfl, ?_⟩)
    show ρ' 3 < ρ' 2
    rw [h2, h1 2 (by decide), hK]
    omega)
  exact ⟨(fun x hx => by cases hx), _, List.mem_cons_self, ρ', h1, h2⟩
theorem axq1_ru1 : ax_RO ax_wM1 (ax_XM 1) axu1_ru1 := by
  intro ρ hp hE hT
  obtain ⟨p1, p2, p3, p4, p5, p6, p⟩ : ay_ex hp 185 ∧ ay_ex hp 173 ∧ ay_ex hp 182 ∧ ay_ex hp 180 ∧ ay_ex hp 179 ∧ ay_ex hp 173 ∧ ay_M40 0 (4) (0) (0) (4) (4) (ay_at hp 185) (ay_at hp 173 27) (ay_at hp 182) (ay_at hp 180 0) (ay_at hp 179 0) (ay_at hp 173 28) := (ax_XF_lt (x := 40) (Nat.le_of_ble_eq_true rfl)).mp (ax_gx hE (40, [4, 0, 0, 4, 4]) (by decide))
  replace p : ay_pg 0 1 0 0 1 1 (ay_at hp 185) (ay_ln (ay_at hp 173 27)) (ay_at hp 182) (ay_ln (ay_at hp 180 0)) (ay_ln (ay_at hp 179 0)) (ay_ln (ay_at hp 173 28)) := p
  obtain ⟨d, hd, d1, d2, d3⟩ := ax_gi hE 1 2147483648 2147483653 (by decide) rfl
  obtain ⟨d4, d5⟩ := ax_bi_pos d1 (by omega)
  have d4 : ∀ z : Nat, 4 * z / 4 = z := fun z => by omega
  have fd := ay_gfj hE 702 112 7 173 28 (by decide) (ax_vlq rfl rfl) (ax_vlj rfl rfl)
  replace fd : ay_at hp 173 28 = some (ρ 1) := fd
  have ld : ay_ln (ay_at hp 173 28) = d := by rw [fd, hd]; show 4 * d / 4 = d; omega
  rw [ld] at p
  have h0 : ρ 0 = 4 * (d + 1) := ay_s hE 7 4 3 (b := 1) (by decide) hd (ax_vl_c (v := 4) (by decide)) (by omega) (by decide)
  obtain ⟨o0, ho0⟩ := ay_some hT (q := 173) (g := 11) (n := 58) (ax_wc ax_WW1 ax_cg_173) (ax_wn ax_WW1 ax_cn_11) (j := 112 / 4) (Nat.le_of_ble_eq_true rfl)
  refine ⟨(fun y hy => by cases hy), _, List.mem_cons_self, ρ, fun _ _ => rfl, ax_px hE rfl (fun y hy => ?_)⟩
  cases List.mem_singleton.mp hy
  show ax_XF (ax_XM 1) (500 + 40) [702, 112, ρ 0, 4, 0, 4, 0, 4] hp
  refine (ax_XF_wr (x := 40) (Nat.le_of_ble_eq_true rfl)).mpr ⟨ay_ex_upd hT.1 (ax_cellT hT (q := 185) (g := 55) (ax_wc ax_WW1 ax_cg_185)), ay_ex_upd hT.1 (ax_cellT hT (q := 173) (g := 11) (ax_wc ax_WW1 ax_cg_173)), ay_ex_upd hT.1 (ax_cellT hT (q := 182) (g := 52) (ax_wc ax_WW1 ax_cg_182)), ay_ex_upd hT.1 (ax_cellT hT (q := 180) (g := 50) (ax_wc ax_WW1 ax_cg_180)), ay_ex_upd hT.1 (ax_cellT hT (q := 179) (g := 49) (ax_wc ax_WW1 ax_cg_179)), ay_ex_upd hT.1 (ax_cellT hT (q := 173) (g := 11) (ax_wc ax_WW1 ax_cg_173)), ?_⟩
  show ay_M40 0 (4) (0) (4) (0) (4) (ay_at (ax_upd hp 702 (112) (ρ 0)) 185) (ay_at (ax_upd hp 702 (112) (ρ 0)) 173 27) (ay_at (ax_upd hp 702 (112) (ρ 0)) 182) (ay_at (ax_upd hp 702 (112) (ρ 0)) 180 0) (ay_at (ax_upd hp 702 (112) (ρ 0)) 179 0) (ay_at (ax_upd hp 702 (112) (ρ 0)) 173 28)
  have c0 : ay_at (ax_upd hp 702 (112) (ρ 0)) 185 = ay_at hp 185 := funext (fun j => ay_upd_ne hT.1 (by decide) j)
  rw [c0]
  have c1 : ay_at (ax_upd hp 702 (112) (ρ 0)) 173 27 = ay_at hp 173 27 := by rw [ay_upd_eq hT.1 rfl ho0, if_neg (by decide)]
  rw [c1]
  have c2 : ay_at (ax_upd hp 702 (112) (ρ 0)) 182 = ay_at hp 182 := funext (fun j => ay_upd_ne hT.1 (by decide) j)
  rw [c2]
  have c3 : ay_at (ax_upd hp 702 (112) (ρ 0)) 180 0 = ay_at hp 180 0 := ay_upd_ne hT.1 (by decide) 0
  rw [c3]
  have c4 : ay_at (ax_upd hp 702 (112) (ρ 0)) 179 0 = ay_at hp 179 0 := ay_upd_ne hT.1 (by decide) 0
  rw [c4]
  have c5 : ay_at (ax_upd hp 702 (112) (ρ 0)) 173 28 = some (ρ 0) := by rw [ay_upd_eq hT.1 rfl ho0, if_pos (by decide)]
  rw [c5]
  show ay_pg 0 1 0 1 0 1 (ay_at hp 185) (ay_ln (ay_at hp 173 27)) (ay_at hp 182) (ay_ln (ay_at hp 180 0)) (ay_ln (ay_at hp 179 0)) (ρ 0 / 4)
  rw [h0, d4]
  exact ay_pg_du p
theorem axq1_ru2 : ax_RO ax_wM1 (ax_XM 1) axu1_ru2 := by
  intro ρ hp hE hT
  obtain ⟨k1, k⟩ : ay_ex hp 179 ∧ ay_M55 (ρ 0) (ay_at hp 179 0) := (ax_XF_lt (x := 55) (Nat.le_of_ble_eq_true rfl)).mp (ax_gx hE (55, [3]) (by decide))
  replace k : 20 * (40 - ay_ln (ay_at hp 179 0)) + 13 ≤ ρ 0 / 4 := k
  obtain ⟨d0, hd0⟩ := ay_some hT (q := 173) (g := 11) (n := 58) (ax_wc ax_WW1 ax_cg_173) (ax_wn ax_WW1 ax_cn_11) (j := 28) (by decide)
  obtain ⟨w1, w2, w3, w4⟩ := ay_ty1 hT (q := 173) (g := 11) (lo := 2147483648) (hi := 2147483654) rfl rfl rfl hd0
  have hdp : ay_ln (ay_at hp 173 28) ≤ 6 := by
    rw [hd0]
    show d0 / 4 ≤ 6
    obtain ⟨g1, g2⟩ := ax_bi_pos w2 w3
    omega
  refine ⟨(fun y hy => by cases hy), _, List.mem_cons_self, ρ, fun _ _ => rfl, ax_px hE rfl (fun y hy => ?_)⟩
  cases List.mem_singleton.mp hy
  refine (ax_XF_lt (x := 53) (Nat.le_of_ble_eq_true rfl)).mpr ⟨(ax_cellT hT (q := 179) (g := 49) (ax_wc ax_WW1 ax_cg_179)), (ax_cellT hT (q := 173) (g := 11) (ax_wc ax_WW1 ax_cg_173)), ?_⟩
  show ay_M53 (ρ 0) (4) (ay_at hp 179 0) (ay_at hp 173 28)
  show 20 * (40 - ay_ln (ay_at hp 179 0)) + 2 * ay_ln (ay_at hp 173 28) + 0 ≤ ρ 0 / 4
  omega

theorem axq1_ru3 : ax_RO ax_wM1 (ax_XM 1) axu1_ru3 := by
  intro ρ hp hE hT
  obtain ⟨k1, k⟩ : ay_ex hp 179 ∧ ay_M55 (ρ 0) (ay_at hp 179 0) := (ax_XF_lt (x := 55) (Nat.le_of_ble_eq_true rfl)).mp (ax_gx hE (55, [3]) (by decide))
  replace k : 20 * (40 - ay_ln (ay_at hp 179 0)) + 13 ≤ ρ 0 / 4 := k
  obtain ⟨d0, hd0⟩ := ay_some hT (q := 173) (g := 11) (n := 58) (ax_wc ax_WW1 ax_cg_173) (ax_wn ax_WW1 ax_cn_11) (j := 28) (by decide)
  obtain ⟨w1, w2, w3, w4⟩ := ay_ty1 hT (q := 173) (g := 11) (lo := 2147483648) (hi := 2147483654) rfl rfl rfl hd0
  have hdp : ay_ln (ay_at hp 173 28) ≤ 6 := by
    rw [hd0]
    show d0 / 4 ≤ 6
    obtain ⟨g1, g2⟩ := ax_bi_pos w2 w3
    omega
  refine ⟨(fun y hy => by cases hy), _, List.mem_cons_self, ρ, fun _ _ => rfl, ax_px hE rfl (fun y hy => ?_)⟩
  cases List.mem_singleton.mp hy
  refine (ax_XF_lt (x := 53) (Nat.le_of_ble_eq_true rfl)).mpr ⟨(ax_cellT hT (q := 179) (g := 49) (ax_wc ax_WW1 ax_cg_179)), (ax_cellT hT (q := 173) (g := 11) (ax_wc ax_WW1 ax_cg_173)), ?_⟩
  show ay_M53 (ρ 0) (0) (ay_at hp 179 0) (ay_at hp 173 28)
  show 20 * (40 - ay_ln (ay_at hp 179 0)) + 2 * ay_ln (ay_at hp 173 28) + 1 ≤ ρ 0 / 4
  omega

theorem axq1_rb10 : ax_RO ax_wM1 (ax_XM 1) axu1_rb10 := axqg_rb10 ax_WW1
theorem axq1_rb11 : ax_RO ax_wM1 (ax_XM 1) axu1_rb11 := by
  intro ρ hp hE hT
  obtain ⟨p1, p2, p3, p4, p5, p6, p⟩ : ay_ex hp 185 ∧ ay_ex hp 173 ∧ ay_ex hp 182 ∧ ay_ex hp 180 ∧ ay_ex hp 179 ∧ ay_ex hp 173 ∧ ay_M40 0 (0) (0) (4) (0) (0) (ay_at hp 185) (ay_at hp 173 27) (ay_at hp 182) (ay_at hp 180 0) (ay_at hp 179 0) (ay_at hp 173 28) := (ax_XF_lt (x := 40) (Nat.le_of_ble_eq_true rfl)).mp (ax_gx hE (40, [0, 0, 4, 0, 0]) (by decide))
  replace p : ay_pg 0 0 0 1 0 0 (ay_at hp 185) (ay_ln (ay_at hp 173 27)) (ay_at hp 182) (ay_ln (ay_at hp 180 0)) (ay_ln (ay_at hp 179 0)) (ay_ln (ay_at hp 173 28)) := p
  obtain ⟨o, ho, o1, o2, o3⟩ := ax_gi hE 1 2147483649 2147483748 (by decide) rfl
  obtain ⟨o4, o5⟩ := ax_bi_pos o1 (by omega)
  have d4 : ∀ z : Nat, 4 * z / 4 = z := fun z => by omega
  have fo := ay_gfj hE 702 108 7 173 27 (by decide) (ax_vlq rfl rfl) (ax_vlj rfl rfl)
  replace fo : ay_at hp 173 27 = some (ρ 1) := fo
  have lo : ay_ln (ay_at hp 173 27) = o := by rw [fo, ho]; show 4 * o / 4 = o; omega
  have hs : ρ 0 = 4 * (o - 1) := ay_d hE 3 4 7 (b := 1) (by decide) (ax_vl_c (v := 4) (by decide)) ho (by omega) (by omega)
  obtain ⟨c, hc, c1, c2, c3⟩ := ax_gi hE 2 0 2147484650 (by decide) rfl
  rw [ax_bi_def] at c2 c3
  have fr := ay_gf hE 750 3 11 185 (by decide) (ax_vlq rfl rfl)
  replace fr : ay_at hp 185 (ρ 0 / 4) = some (ρ 2) := fr
  obtain ⟨n, hn⟩ : ∃ n, o = n + 1 := ⟨o - 1, by omega⟩
  have h0 : ρ 0 = 4 * n := by omega
  rw [h0, d4, hc] at fr
  rw [lo, hn] at p
  have ht := ay_pg_top p fr
  exfalso
  omega
theorem axq1_rb12 : ax_RO ax_wM1 (ax_XM 1) axu1_rb12 := by
  intro ρ hp hE hT
  obtain ⟨p1, p2, p3, p4, p5, p6, p⟩ : ay_ex hp 185 ∧ ay_ex hp 173 ∧ ay_ex hp 182 ∧ ay_ex hp 180 ∧ ay_ex hp 179 ∧ ay_ex hp 173 ∧ ay_M40 0 (0) (0) (4) (0) (0) (ay_at hp 185) (ay_at hp 173 27) (ay_at hp 182) (ay_at hp 180 0) (ay_at hp 179 0) (ay_at hp 173 28) := (ax_XF_lt (x := 40) (Nat.le_of_ble_eq_true rfl)).mp (ax_gx hE (40, [0, 0, 4, 0, 0]) (by decide))
  replace p : ay_pg 0 0 0 1 0 0 (ay_at hp 185) (ay_ln (ay_at hp 173 27)) (ay_at hp 182) (ay_ln (ay_at hp 180 0)) (ay_ln (ay_at hp 179 0)) (ay_ln (ay_at hp 173 28)) := p
  obtain ⟨o, ho, o1, o2, o3⟩ := ax_gi hE 1 2147483649 2147483748 (by decide) rfl
  obtain ⟨o4, o5⟩ := ax_bi_pos o1 (by omega)
  have d4 : ∀ z : Nat, 4 * z / 4 = z := fun z => by omega
  have fo := ay_gfj hE 702 108 7 173 27 (by decide) (ax_vlq rfl rfl) (ax_vlj rfl rfl)
  replace fo : ay_at hp 173 27 = some (ρ 1) := fo
  have lo : ay_ln (ay_at hp 173 27) = o := by rw [fo, ho]; show 4 * o / 4 = o; omega
  have hs : ρ 0 = 4 * (o - 1) := ay_d hE 3 4 7 (b := 1) (by decide) (ax_vl_c (v := 4) (by decide)) ho (by omega) (by omega)
  obtain ⟨c, hc, c1, c2, c3⟩ := ax_gi hE 2 2147484658 4294967295 (by decide) rfl
  rw [ax_bi_def] at c2 c3
  have fr := ay_gf hE 750 3 11 185 (by decide) (ax_vlq rfl rfl)
  replace fr : ay_at hp 185 (ρ 0 / 4) = some (ρ 2) := fr
  obtain ⟨n, hn⟩ : ∃ n, o = n + 1 := ⟨o - 1, by omega⟩
  have h0 : ρ 0 = 4 * n := by omega
  rw [h0, d4, hc] at fr
  rw [lo, hn] at p
  have ht := ay_pg_top p fr
  exfalso
  omega
theorem axq1_rb2 : ax_RO ax_wM1 (ax_XM 1) axu1_rb2 := by
  intro ρ hp hE hT
  obtain ⟨k1, k2, k⟩ : ay_ex hp 179 ∧ ay_ex hp 173 ∧ ay_M53 (ρ 0) (0) (ay_at hp 179 0) (ay_at hp 173 28) := (ax_XF_lt (x := 53) (Nat.le_of_ble_eq_true rfl)).mp (ax_gx hE (53, [3, 0]) (by decide))
  replace k : 20 * (40 - ay_ln (ay_at hp 179 0)) + 2 * ay_ln (ay_at hp 173 28) + 1 ≤ ρ 0 / 4 := k
  obtain ⟨K, hK⟩ := ax_gj hE 0 (by decide) rfl
  obtain ⟨z, hz⟩ : ∃ z, ay_ln (ay_at hp 179 0) = z := ⟨_, rfl⟩
  obtain ⟨y, hy⟩ : ∃ z, ay_ln (ay_at hp 173 28) = z := ⟨_, rfl⟩
  rw [hz, hy] at k
  obtain ⟨ρ', h1, h2⟩ := ax_pn (K := 20 * (40 - z) + 2 * y) (xf := [(53, [7, 4]), (1030, [7, 3])]) hE (by decide) (fun ρ' h1 h2 x hx => by
    rcases List.mem_cons.mp hx with e | hx
    · subst e
      refine (ax_XF_lt (x := 53) (Nat.le_of_ble_eq_true rfl)).mpr ⟨(ax_cellT hT (q := 179) (g := 49) (ax_wc ax_WW1 ax_cg_179)), (ax_cellT hT (q := 173) (g := 11) (ax_wc ax_WW1 ax_cg_173)), ?_⟩
      show ay_M53 (ρ' 1) (4) (ay_at hp 179 0) (ay_at hp 173 28)
      show 20 * (40 - ay_ln (ay_at hp 179 0)) + 2 * ay_ln (ay_at hp 173 28) + 0 ≤ ρ' 1 / 4
      rw [h2, hz, hy]
      omega
    cases List.mem_singleton.mp hx
    refine (ax_XF_bi (o := 30) (by decide)).mpr (Or.inr ⟨rfl, ?_⟩)
    show ρ' 1 < ρ' 0
    rw [h2, h1 0 (by decide), hK]
    omega)
  exact ⟨(fun x hx => by cases hx), _, List.mem_cons_self, ρ', h1, h2⟩
theorem axq1_rr0 : ax_RO ax_wM1 (ax_XM 1) axu1_rr0 := by
  intro ρ hp hE hT
  obtain ⟨p1, p2, p⟩ : ay_ex hp 180 ∧ ay_ex hp 179 ∧ ay_M42 (ay_at hp 180 0) (ay_at hp 179 0) := (ax_XF_lt (x := 42) (Nat.le_of_ble_eq_true rfl)).mp (ax_gx hE (42, []) (by decide))
  have fo := ay_gfj hE 702 108 0 173 27 (by decide) (ax_vlq rfl rfl) (ax_vlj rfl rfl)
  replace fo : ay_at hp 173 27 = some (0) := fo
  have lo : ay_ln (ay_at hp 173 27) = 0 := by rw [fo]; rfl
  obtain ⟨o0, ho0⟩ := ay_some hT (q := 173) (g := 11) (n := 58) (ax_wc ax_WW1 ax_cg_173) (ax_wn ax_WW1 ax_cn_11) (j := 112 / 4) (Nat.le_of_ble_eq_true rfl)
  refine ⟨(fun y hy => by cases hy), _, List.mem_cons_self, ρ, fun _ _ => rfl, ax_px hE rfl (fun y hy => ?_)⟩
  cases List.mem_singleton.mp hy
  show ax_XF (ax_XM 1) (500 + 40) [702, 112, 0, 4, 0, 4, 0, 4] hp
  refine (ax_XF_wr (x := 40) (Nat.le_of_ble_eq_true rfl)).mpr ⟨ay_ex_upd hT.1 (ax_cellT hT (q := 185) (g := 55) (ax_wc ax_WW1 ax_cg_185)), ay_ex_upd hT.1 (ax_cellT hT (q := 173) (g := 11) (ax_wc ax_WW1 ax_cg_173)), ay_ex_upd hT.1 (ax_cellT hT (q := 182) (g := 52) (ax_wc ax_WW1 ax_cg_182)), ay_ex_upd hT.1 (ax_cellT hT (q := 180) (g := 50) (ax_wc ax_WW1 ax_cg_180)), ay_ex_upd hT.1 (ax_cellT hT (q := 179) (g := 49) (ax_wc ax_WW1 ax_cg_179)), ay_ex_upd hT.1 (ax_cellT hT (q := 173) (g := 11) (ax_wc ax_WW1 ax_cg_173)), ?_⟩
  show ay_M40 0 (4) (0) (4) (0) (4) (ay_at (ax_upd hp 702 (112) (0)) 185) (ay_at (ax_upd hp 702 (112) (0)) 173 27) (ay_at (ax_upd hp 702 (112) (0)) 182) (ay_at (ax_upd hp 702 (112) (0)) 180 0) (ay_at (ax_upd hp 702 (112) (0)) 179 0) (ay_at (ax_upd hp 702 (112) (0)) 173 28)
  have c0 : ay_at (ax_upd hp 702 (112) (0)) 185 = ay_at hp 185 := funext (fun j => ay_upd_ne hT.1 (by decide) j)
  rw [c0]
  have c1 : ay_at (ax_upd hp 702 (112) (0)) 173 27 = ay_at hp 173 27 := by rw [ay_upd_eq hT.1 rfl ho0, if_neg (by decide)]
  rw [c1]
  have c2 : ay_at (ax_upd hp 702 (112) (0)) 182 = ay_at hp 182 := funext (fun j => ay_upd_ne hT.1 (by decide) j)
  rw [c2]
  have c3 : ay_at (ax_upd hp 702 (112) (0)) 180 0 = ay_at hp 180 0 := ay_upd_ne hT.1 (by decide) 0
  rw [c3]
  have c4 : ay_at (ax_upd hp 702 (112) (0)) 179 0 = ay_at hp 179 0 := ay_upd_ne hT.1 (by decide) 0
  rw [c4]
  have c5 : ay_at (ax_upd hp 702 (112) (0)) 173 28 = some (0) := by rw [ay_upd_eq hT.1 rfl ho0, if_pos (by decide)]
  rw [c5]
  show ay_pg 0 1 0 1 0 1 (ay_at hp 185) (ay_ln (ay_at hp 173 27)) (ay_at hp 182) (ay_ln (ay_at hp 180 0)) (ay_ln (ay_at hp 179 0)) 0
  rw [lo, p.1, p.2]
  exact ay_pg_0
theorem axq1_rr1 : ax_RO ax_wM1 (ax_XM 1) axu1_rr1 := by
  intro ρ hp hE hT
  obtain ⟨z, hz⟩ : ∃ z, ay_ln (ay_at hp 179 0) = z := ⟨_, rfl⟩
  obtain ⟨y, hy⟩ : ∃ z, ay_ln (ay_at hp 173 28) = z := ⟨_, rfl⟩
  obtain ⟨ρ', h1, h2⟩ := ax_pn (K := 20 * (40 - z) + 2 * y) (xf := [(53, [3, 4])]) hE (by decide) (fun ρ' h1 h2 x hx => by
    cases List.mem_singleton.mp hx
    refine (ax_XF_lt (x := 53) (Nat.le_of_ble_eq_true rfl)).mpr ⟨(ax_cellT hT (q := 179) (g := 49) (ax_wc ax_WW1 ax_cg_179)), (ax_cellT hT (q := 173) (g := 11) (ax_wc ax_WW1 ax_cg_173)), ?_⟩
    show ay_M53 (ρ' 0) (4) (ay_at hp 179 0) (ay_at hp 173 28)
    show 20 * (40 - ay_ln (ay_at hp 179 0)) + 2 * ay_ln (ay_at hp 173 28) + 0 ≤ ρ' 0 / 4
    rw [h2, hz, hy]
    omega)
  exact ⟨(fun x hx => by cases hx), _, List.mem_cons_self, ρ', h1, h2⟩
theorem axq1_rr2 : ax_RO ax_wM1 (ax_XM 1) axu1_rr2 := by
  intro ρ hp hE hT
  obtain ⟨p1, p2, p3, p4, p5, p6, p⟩ : ay_ex hp 185 ∧ ay_ex hp 173 ∧ ay_ex hp 182 ∧ ay_ex hp 180 ∧ ay_ex hp 179 ∧ ay_ex hp 173 ∧ ay_M40 0 (0) (0) (4) (0) (0) (ay_at hp 185) (ay_at hp 173 27) (ay_at hp 182) (ay_at hp 180 0) (ay_at hp 179 0) (ay_at hp 173 28) := (ax_XF_lt (x := 40) (Nat.le_of_ble_eq_true rfl)).mp (ax_gx hE (40, [0, 0, 4, 0, 0]) (by decide))
  replace p : ay_pg 0 0 0 1 0 0 (ay_at hp 185) (ay_ln (ay_at hp 173 27)) (ay_at hp 182) (ay_ln (ay_at hp 180 0)) (ay_ln (ay_at hp 179 0)) (ay_ln (ay_at hp 173 28)) := p
  obtain ⟨o, ho, o1, o2, o3⟩ := ax_gi hE 0 2147483649 2147483748 (by decide) rfl
  obtain ⟨o4, o5⟩ := ax_bi_pos o1 (by omega)
  obtain ⟨d, hd, d1, d2, d3⟩ := ax_gi hE 1 2147483648 2147483648 (by decide) rfl
  obtain ⟨d4, d5⟩ := ax_bi_pos d1 (by omega)
  have fo := ay_gfj hE 702 108 3 173 27 (by decide) (ax_vlq rfl rfl) (ax_vlj rfl rfl)
  replace fo : ay_at hp 173 27 = some (ρ 0) := fo
  have lo : ay_ln (ay_at hp 173 27) = o := by rw [fo, ho]; show 4 * o / 4 = o; omega
  have fd := ay_gfj hE 702 112 7 173 28 (by decide) (ax_vlq rfl rfl) (ax_vlj rfl rfl)
  replace fd : ay_at hp 173 28 = some (ρ 1) := fd
  have ld : ay_ln (ay_at hp 173 28) = d := by rw [fd, hd]; show 4 * d / 4 = d; omega
  obtain ⟨n, hn⟩ : ∃ n, o = n + 1 := ⟨o - 1, by omega⟩
  rw [lo, hn, ld, show d = 0 by omega] at p
  refine ⟨(fun y hy => by cases hy), _, List.mem_cons_self, ρ, fun _ _ => rfl, ax_px hE rfl (fun y hy => ?_)⟩
  cases List.mem_singleton.mp hy
  refine (ax_XF_lt (x := 57) (Nat.le_of_ble_eq_true rfl)).mpr ⟨(ax_cellT hT (q := 173) (g := 11) (ax_wc ax_WW1 ax_cg_173)), (ax_cellT hT (q := 185) (g := 55) (ax_wc ax_WW1 ax_cg_185)), ?_⟩
  show 1 ≤ ay_ln (ay_at hp 173 27) ∧ ay_isb (ay_at hp 185 (ay_ln (ay_at hp 173 27) - 1)) = true
  rw [lo, hn]
  refine ⟨by omega, ?_⟩
  show ay_isb (ay_at hp 185 n) = true
  exact ay_pg_flat p

theorem axq1_rr3 : ax_RO ax_wM1 (ax_XM 1) axu1_rr3 := by
  intro ρ hp hE hT
  obtain ⟨p1, p2, p3, p4, p5, p6, p⟩ : ay_ex hp 185 ∧ ay_ex hp 173 ∧ ay_ex hp 182 ∧ ay_ex hp 180 ∧ ay_ex hp 179 ∧ ay_ex hp 173 ∧ ay_M40 0 (0) (0) (4) (0) (0) (ay_at hp 185) (ay_at hp 173 27) (ay_at hp 182) (ay_at hp 180 0) (ay_at hp 179 0) (ay_at hp 173 28) := (ax_XF_lt (x := 40) (Nat.le_of_ble_eq_true rfl)).mp (ax_gx hE (40, [0, 0, 4, 0, 0]) (by decide))
  replace p : ay_pg 0 0 0 1 0 0 (ay_at hp 185) (ay_ln (ay_at hp 173 27)) (ay_at hp 182) (ay_ln (ay_at hp 180 0)) (ay_ln (ay_at hp 179 0)) (ay_ln (ay_at hp 173 28)) := p
  obtain ⟨o, ho, o1, o2, o3⟩ := ax_gi hE 0 2147483648 2147483648 (by decide) rfl
  obtain ⟨o4, o5⟩ := ax_bi_pos o1 (by omega)
  obtain ⟨h, hh, h1, h2, h3⟩ := ax_gi hE 1 2147483649 2147483649 (by decide) rfl
  obtain ⟨h4, h5⟩ := ax_bi_pos h1 (by omega)
  have fh := ay_gfj hE 702 96 7 173 24 (by decide) (ax_vlq rfl rfl) (ax_vlj rfl rfl)
  replace fh : ay_at hp 173 24 = some (ρ 1) := fh
  have fo := ay_gfj hE 702 108 3 173 27 (by decide) (ax_vlq rfl rfl) (ax_vlj rfl rfl)
  replace fo : ay_at hp 173 27 = some (ρ 0) := fo
  have lo : ay_ln (ay_at hp 173 27) = o := by rw [fo, ho]; show 4 * o / 4 = o; omega
  rw [lo, show o = 0 by omega] at p
  refine ⟨(fun y hy => by cases hy), _, List.mem_cons_self, ρ, fun _ _ => rfl, ax_px hE rfl (fun y hy => ?_)⟩
  cases List.mem_singleton.mp hy
  refine (ax_XF_lt (x := 52) (Nat.le_of_ble_eq_true rfl)).mpr ⟨(ax_cellT hT (q := 182) (g := 52) (ax_wc ax_WW1 ax_cg_182)), (ax_cellT hT (q := 180) (g := 50) (ax_wc ax_WW1 ax_cg_180)), (ax_cellT hT (q := 179) (g := 49) (ax_wc ax_WW1 ax_cg_179)), (ax_cellT hT (q := 173) (g := 11) (ax_wc ax_WW1 ax_cg_173)), (ax_cellT hT (q := 173) (g := 11) (ax_wc ax_WW1 ax_cg_173)), ?_⟩
  refine ⟨fun _ => ay_pg_end p, fun e => ?_⟩
  replace e : ay_at hp 173 24 = some 0 := e
  rw [fh] at e
  have e := Option.some.inj e
  omega

theorem axq1_rr4 : ax_RO ax_wM1 (ax_XM 1) axu1_rr4 := axqg_rr4 ax_WW1
theorem axq1_rr8 : ax_RO ax_wM1 (ax_XM 1) axu1_rr8 := by
  intro ρ hp hE hT
  obtain ⟨p1, p2, p3, p4, p5, p6, p⟩ : ay_ex hp 185 ∧ ay_ex hp 173 ∧ ay_ex hp 182 ∧ ay_ex hp 180 ∧ ay_ex hp 179 ∧ ay_ex hp 173 ∧ ay_M40 0 (ρ 0) (0) (4) (0) (ρ 0) (ay_at hp 185) (ay_at hp 173 27) (ay_at hp 182) (ay_at hp 180 0) (ay_at hp 179 0) (ay_at hp 173 28) := (ax_XF_lt (x := 40) (Nat.le_of_ble_eq_true rfl)).mp (ax_gx hE (40, [3, 0, 4, 0, 3]) (by decide))
  obtain ⟨u, hu, u1, u2, u3⟩ := ax_gi hE 0 2147483649 2147483649 (by decide) rfl
  obtain ⟨u4, u5⟩ := ax_bi_pos u1 (by omega)
  have hu0 : ρ 0 = 4 := by omega
  rw [hu0] at p
  refine ⟨(fun y hy => by cases hy), _, List.mem_cons_self, ρ, fun _ _ => rfl, ax_px hE rfl (fun y hy => ?_)⟩
  cases List.mem_singleton.mp hy
  refine (ax_XF_lt (x := 40) (Nat.le_of_ble_eq_true rfl)).mpr ⟨(ax_cellT hT (q := 185) (g := 55) (ax_wc ax_WW1 ax_cg_185)), (ax_cellT hT (q := 173) (g := 11) (ax_wc ax_WW1 ax_cg_173)), (ax_cellT hT (q := 182) (g := 52) (ax_wc ax_WW1 ax_cg_182)), (ax_cellT hT (q := 180) (g := 50) (ax_wc ax_WW1 ax_cg_180)), (ax_cellT hT (q := 179) (g := 49) (ax_wc ax_WW1 ax_cg_179)), (ax_cellT hT (q := 173) (g := 11) (ax_wc ax_WW1 ax_cg_173)), ?_⟩
  show ay_M40 0 (4) (0) (4) (0) (4) (ay_at hp 185) (ay_at hp 173 27) (ay_at hp 182) (ay_at hp 180 0) (ay_at hp 179 0) (ay_at hp 173 28)
  exact p

theorem axq1_rr9 : ax_RO ax_wM1 (ax_XM 1) axu1_rr9 := by
  intro ρ hp hE hT
  obtain ⟨p1, p2, p⟩ : ay_ex hp 179 ∧ ay_ex hp 173 ∧ ay_M53 (ρ 1) (ρ 0) (ay_at hp 179 0) (ay_at hp 173 28) := (ax_XF_lt (x := 53) (Nat.le_of_ble_eq_true rfl)).mp (ax_gx hE (53, [7, 3]) (by decide))
  obtain ⟨u, hu, u1, u2, u3⟩ := ax_gi hE 0 2147483649 2147483649 (by decide) rfl
  obtain ⟨u4, u5⟩ := ax_bi_pos u1 (by omega)
  have hu0 : ρ 0 = 4 := by omega
  rw [hu0] at p
  refine ⟨(fun y hy => by cases hy), _, List.mem_cons_self, ρ, fun _ _ => rfl, ax_px hE rfl (fun y hy => ?_)⟩
  cases List.mem_singleton.mp hy
  refine (ax_XF_lt (x := 53) (Nat.le_of_ble_eq_true rfl)).mpr ⟨(ax_cellT hT (q := 179) (g := 49) (ax_wc ax_WW1 ax_cg_179)), (ax_cellT hT (q := 173) (g := 11) (ax_wc ax_WW1 ax_cg_173)), ?_⟩
  show ay_M53 (ρ 1) (4) (ay_at hp 179 0) (ay_at hp 173 28)
  exact p

theorem axq1_rra : ax_RO ax_wM1 (ax_XM 1) axu1_rra := by
  intro ρ hp hE hT
  obtain ⟨p1, p2, p3, p4, p5, p6, p⟩ : ay_ex hp 185 ∧ ay_ex hp 173 ∧ ay_ex hp 182 ∧ ay_ex hp 180 ∧ ay_ex hp 179 ∧ ay_ex hp 173 ∧ ay_M40 0 (ρ 0) (0) (4) (0) (ρ 0) (ay_at hp 185) (ay_at hp 173 27) (ay_at hp 182) (ay_at hp 180 0) (ay_at hp 179 0) (ay_at hp 173 28) := (ax_XF_lt (x := 40) (Nat.le_of_ble_eq_true rfl)).mp (ax_gx hE (40, [3, 0, 4, 0, 3]) (by decide))
  obtain ⟨u, hu, u1, u2, u3⟩ := ax_gi hE 0 2147483648 2147483648 (by decide) rfl
  obtain ⟨u4, u5⟩ := ax_bi_pos u1 (by omega)
  have hu0 : ρ 0 = 0 := by omega
  rw [hu0] at p
  refine ⟨(fun y hy => by cases hy), _, List.mem_cons_self, ρ, fun _ _ => rfl, ax_px hE rfl (fun y hy => ?_)⟩
  cases List.mem_singleton.mp hy
  refine (ax_XF_lt (x := 40) (Nat.le_of_ble_eq_true rfl)).mpr ⟨(ax_cellT hT (q := 185) (g := 55) (ax_wc ax_WW1 ax_cg_185)), (ax_cellT hT (q := 173) (g := 11) (ax_wc ax_WW1 ax_cg_173)), (ax_cellT hT (q := 182) (g := 52) (ax_wc ax_WW1 ax_cg_182)), (ax_cellT hT (q := 180) (g := 50) (ax_wc ax_WW1 ax_cg_180)), (ax_cellT hT (q := 179) (g := 49) (ax_wc ax_WW1 ax_cg_179)), (ax_cellT hT (q := 173) (g := 11) (ax_wc ax_WW1 ax_cg_173)), ?_⟩
  show ay_M40 0 (0) (0) (4) (0) (0) (ay_at hp 185) (ay_at hp 173 27) (ay_at hp 182) (ay_at hp 180 0) (ay_at hp 179 0) (ay_at hp 173 28)
  exact p

theorem axq1_rrb : ax_RO ax_wM1 (ax_XM 1) axu1_rrb := by
  intro ρ hp hE hT
  obtain ⟨p1, p2, p⟩ : ay_ex hp 179 ∧ ay_ex hp 173 ∧ ay_M53 (ρ 1) (ρ 0) (ay_at hp 179 0) (ay_at hp 173 28) := (ax_XF_lt (x := 53) (Nat.le_of_ble_eq_true rfl)).mp (ax_gx hE (53, [7, 3]) (by decide))
  obtain ⟨u, hu, u1, u2, u3⟩ := ax_gi hE 0 2147483648 2147483648 (by decide) rfl
  obtain ⟨u4, u5⟩ := ax_bi_pos u1 (by omega)
  have hu0 : ρ 0 = 0 := by omega
  rw [hu0] at p
  refine ⟨(fun y hy => by cases hy), _, List.mem_cons_self, ρ, fun _ _ => rfl, ax_px hE rfl (fun y hy => ?_)⟩
  cases List.mem_singleton.mp hy
  refine (ax_XF_lt (x := 53) (Nat.le_of_ble_eq_true rfl)).mpr ⟨(ax_cellT hT (q := 179) (g := 49) (ax_wc ax_WW1 ax_cg_179)), (ax_cellT hT (q := 173) (g := 11) (ax_wc ax_WW1 ax_cg_173)), ?_⟩
  show ay_M53 (ρ 1) (0) (ay_at hp 179 0) (ay_at hp 173 28)
  exact p

theorem axq1_rrc : ax_RO ax_wM1 (ax_XM 1) axu1_rrc := by
  intro ρ hp hE hT
  obtain ⟨p1, p2, p3, p4, p5, p6, p⟩ : ay_ex hp 185 ∧ ay_ex hp 173 ∧ ay_ex hp 182 ∧ ay_ex hp 180 ∧ ay_ex hp 179 ∧ ay_ex hp 173 ∧ ay_M40 0 (0) (0) (4) (0) (0) (ay_at hp 185) (ay_at hp 173 27) (ay_at hp 182) (ay_at hp 180 0) (ay_at hp 179 0) (ay_at hp 173 28) := (ax_XF_lt (x := 40) (Nat.le_of_ble_eq_true rfl)).mp (ax_gx hE (40, [0, 0, 4, 0, 0]) (by decide))
  obtain ⟨u, hu, u1, u2, u3⟩ := ax_gi hE 0 2147483648 2147483648 (by decide) rfl
  obtain ⟨u4, u5⟩ := ax_bi_pos u1 (by omega)
  have hu0 : ρ 0 = 0 := by omega
  refine ⟨(fun y hy => by cases hy), _, List.mem_cons_self, ρ, fun _ _ => rfl, ax_px hE rfl (fun y hy => ?_)⟩
  cases List.mem_singleton.mp hy
  refine (ax_XF_lt (x := 40) (Nat.le_of_ble_eq_true rfl)).mpr ⟨(ax_cellT hT (q := 185) (g := 55) (ax_wc ax_WW1 ax_cg_185)), (ax_cellT hT (q := 173) (g := 11) (ax_wc ax_WW1 ax_cg_173)), (ax_cellT hT (q := 182) (g := 52) (ax_wc ax_WW1 ax_cg_182)), (ax_cellT hT (q := 180) (g := 50) (ax_wc ax_WW1 ax_cg_180)), (ax_cellT hT (q := 179) (g := 49) (ax_wc ax_WW1 ax_cg_179)), (ax_cellT hT (q := 173) (g := 11) (ax_wc ax_WW1 ax_cg_173)), ?_⟩
  show ay_M40 0 (ρ 0) (0) (4) (0) (ρ 0) (ay_at hp 185) (ay_at hp 173 27) (ay_at hp 182) (ay_at hp 180 0) (ay_at hp 179 0) (ay_at hp 173 28)
  rw [hu0]
  exact p

theorem axq1_rrd : ax_RO ax_wM1 (ax_XM 1) axu1_rrd := by
  intro ρ hp hE hT
  obtain ⟨p1, p2, p⟩ : ay_ex hp 179 ∧ ay_ex hp 173 ∧ ay_M53 (ρ 1) (0) (ay_at hp 179 0) (ay_at hp 173 28) := (ax_XF_lt (x := 53) (Nat.le_of_ble_eq_true rfl)).mp (ax_gx hE (53, [7, 0]) (by decide))
  obtain ⟨u, hu, u1, u2, u3⟩ := ax_gi hE 0 2147483648 2147483648 (by decide) rfl
  obtain ⟨u4, u5⟩ := ax_bi_pos u1 (by omega)
  have hu0 : ρ 0 = 0 := by omega
  refine ⟨(fun y hy => by cases hy), _, List.mem_cons_self, ρ, fun _ _ => rfl, ax_px hE rfl (fun y hy => ?_)⟩
  cases List.mem_singleton.mp hy
  refine (ax_XF_lt (x := 53) (Nat.le_of_ble_eq_true rfl)).mpr ⟨(ax_cellT hT (q := 179) (g := 49) (ax_wc ax_WW1 ax_cg_179)), (ax_cellT hT (q := 173) (g := 11) (ax_wc ax_WW1 ax_cg_173)), ?_⟩
  show ay_M53 (ρ 1) (ρ 0) (ay_at hp 179 0) (ay_at hp 173 28)
  rw [hu0]
  exact p

theorem axq1_rl0 : ax_RO ax_wM1 (ax_XM 1) axu1_rl0 := by
  intro ρ hp hE hT
  obtain ⟨x, hx, x1, x2, x3⟩ := ax_gi hE 0 2147483648 2147493647 (by decide) rfl
  obtain ⟨x4, x5⟩ := ax_bi_pos x1 (by omega)
  have d4 : ∀ z : Nat, 4 * z / 4 = z := fun z => by omega
  obtain ⟨z, hz, z1, z2, z3⟩ := ax_gi hE 2 2147483648 2147483648 (by decide) rfl
  obtain ⟨z4, z5⟩ := ax_bi_pos z1 (by omega)
  have fz := ay_gfj hE 702 72 11 173 18 ax_m0 (ax_vlq rfl rfl) (ax_vlj rfl rfl)
  replace fz : ay_at hp 173 18 = some (ρ 2) := fz
  obtain ⟨p1, p2, p3, p4, p5, p⟩ : ay_ex hp 175 ∧ ay_ex hp 177 ∧ ay_ex hp 176 ∧ ay_ex hp 181 ∧ ay_ex hp 173 ∧ ay_M50 0 (ay_at hp 175 0) (ay_at hp 177 0) (ay_at hp 176 0) (ay_at hp 181) (ay_at hp 173 18) := (ax_XF_lt (x := 50) (Nat.le_of_ble_eq_true rfl)).mp (ax_gx hE (50, []) ax_m1)
  have fn := ay_gfj hE 710 0 15 175 0 ax_m2 (ax_vlq rfl rfl) (ax_vlj rfl rfl)
  replace fn : ay_at hp 175 0 = some (ρ 3) := fn
  obtain ⟨pn, pr, pe⟩ := p (by rw [fz, hz, show z = 0 by omega])
  obtain ⟨a, b, c, ha, hb, hc, la, lb, lc, hs⟩ := ax_gs hE 19 4 15 (by decide)
  replace ha : ρ 4 = 4 * a := ha
  replace hc : ρ 3 = 4 * c := hc
  have hb' : b = 1 := by have : (4 : Nat) = 4 * b := hb; omega
  have ln : ay_ln (ay_at hp 175 0) = c := by rw [fn, hc]; show 4 * c / 4 = c; omega
  have hle : rx_bi (ρ 0 / 4) ≤ rx_bi (ρ 4 / 4) := ax_gc hE 5 3 19 (by decide) (by decide)
  rw [hx, ha, d4, d4] at hle
  rw [ln] at pn
  rw [hb', ax_bi_nat (c := c) (by omega), ax_bi_nat (c := 1) (by decide)] at hs
  have hxc : x < c := by omega
  obtain ⟨l, hl, l1, l2, l3⟩ := ax_gi hE 5 2147483648 2147483667 (by decide) rfl
  obtain ⟨l4, l5⟩ := ax_bi_pos l1 (by omega)
  have fl := ay_gfj hE 714 0 23 176 0 ax_m5 (ax_vlq rfl rfl) (ax_vlj rfl rfl)
  replace fl : ay_at hp 176 0 = some (ρ 5) := fl
  have ll : ay_ln (ay_at hp 176 0) = l := by rw [fl, hl]; show 4 * l / 4 = l; omega
  have hj2 : ρ 1 = 4 * (0 + 2 * l + 0) := ay_ix hE 0 23 27 31 0 7 (k := 0) (e := 0) (ax_vl_c (v := 0) (by decide)) (by decide) hl (by omega) (ax_vl_c (v := 0) (by decide)) (by decide) (by decide) (by decide) (by decide)
  obtain ⟨o0, ho0⟩ := ay_some hT (q := 181) (g := 51) (n := 80) (ax_wc ax_WW1 ax_cg_181) (ax_wn ax_WW1 ax_cn_51) (j := ρ 1 / 4) (by omega)
  refine ⟨fun y hy => ?_, _, List.mem_cons_self, ρ, fun _ _ => rfl, ax_px hE rfl (fun y hy => ?_)⟩
  · cases List.mem_singleton.mp hy
    show 2147483648 ≤ rx_bi (ρ 0 / 4) ∧ rx_bi (ρ 0 / 4) ≤ 2147483657
    rw [hx, d4, ax_bi_nat (by omega)]
    omega
  rcases List.mem_cons.mp hy with e | hy
  · subst e
    show ax_XF (ax_XM 1) (500 + 50) [734, ρ 1, ρ 0] hp
    refine (ax_XF_wr (x := 50) (Nat.le_of_ble_eq_true rfl)).mpr ⟨ay_ex_upd hT.1 (ax_cellT hT (q := 175) (g := 45) (ax_wc ax_WW1 ax_cg_175)), ay_ex_upd hT.1 (ax_cellT hT (q := 177) (g := 47) (ax_wc ax_WW1 ax_cg_177)), ay_ex_upd hT.1 (ax_cellT hT (q := 176) (g := 46) (ax_wc ax_WW1 ax_cg_176)), ay_ex_upd hT.1 (ax_cellT hT (q := 181) (g := 51) (ax_wc ax_WW1 ax_cg_181)), ay_ex_upd hT.1 (ax_cellT hT (q := 173) (g := 11) (ax_wc ax_WW1 ax_cg_173)), ?_⟩
    show ay_M50 0 (ay_at (ax_upd hp 734 (ρ 1) (ρ 0)) 175 0) (ay_at (ax_upd hp 734 (ρ 1) (ρ 0)) 177 0) (ay_at (ax_upd hp 734 (ρ 1) (ρ 0)) 176 0) (ay_at (ax_upd hp 734 (ρ 1) (ρ 0)) 181) (ay_at (ax_upd hp 734 (ρ 1) (ρ 0)) 173 18)
    have c0 : ay_at (ax_upd hp 734 (ρ 1) (ρ 0)) 175 0 = ay_at hp 175 0 := ay_upd_ne hT.1 (by decide) 0
    rw [c0]
    have c1 : ay_at (ax_upd hp 734 (ρ 1) (ρ 0)) 177 0 = ay_at hp 177 0 := ay_upd_ne hT.1 (by decide) 0
    rw [c1]
    have c2 : ay_at (ax_upd hp 734 (ρ 1) (ρ 0)) 176 0 = ay_at hp 176 0 := ay_upd_ne hT.1 (by decide) 0
    rw [c2]
    have c3 : ∀ j, ay_at (ax_upd hp 734 (ρ 1) (ρ 0)) 181 j = if j = (ρ 1) / 4 then some (ρ 0) else ay_at hp 181 j := fun j => ay_upd_eq hT.1 rfl ho0 j
    have c4 : ay_at (ax_upd hp 734 (ρ 1) (ρ 0)) 173 18 = ay_at hp 173 18 := ay_upd_ne hT.1 (by decide) 18
    rw [c4]
    intro _
    refine ⟨by rw [ln]; exact pn, pr, fun j hj => ?_⟩
    obtain ⟨t, t1, t2⟩ := pe j hj
    rw [ll] at hj
    refine ⟨t, ?_, t2⟩
    rw [c3, if_neg (by omega)]
    exact t1
  cases List.mem_singleton.mp hy
  show ax_XF (ax_XM 1) (500 + 64) [734, ρ 1, ρ 0] hp
  refine (ax_XF_wr (x := 64) (Nat.le_of_ble_eq_true rfl)).mpr ⟨ay_ex_upd hT.1 (ax_cellT hT (q := 181) (g := 51) (ax_wc ax_WW1 ax_cg_181)), ay_ex_upd hT.1 (ax_cellT hT (q := 176) (g := 46) (ax_wc ax_WW1 ax_cg_176)), ay_ex_upd hT.1 (ax_cellT hT (q := 175) (g := 45) (ax_wc ax_WW1 ax_cg_175)), ?_⟩
  show ay_M64 0 (ay_at (ax_upd hp 734 (ρ 1) (ρ 0)) 181) (ay_at (ax_upd hp 734 (ρ 1) (ρ 0)) 176 0) (ay_at (ax_upd hp 734 (ρ 1) (ρ 0)) 175 0)
  have c0 : ∀ j, ay_at (ax_upd hp 734 (ρ 1) (ρ 0)) 181 j = if j = (ρ 1) / 4 then some (ρ 0) else ay_at hp 181 j := fun j => ay_upd_eq hT.1 rfl ho0 j
  have c1 : ay_at (ax_upd hp 734 (ρ 1) (ρ 0)) 176 0 = ay_at hp 176 0 := ay_upd_ne hT.1 (by decide) 0
  rw [c1]
  have c2 : ay_at (ax_upd hp 734 (ρ 1) (ρ 0)) 175 0 = ay_at hp 175 0 := ay_upd_ne hT.1 (by decide) 0
  rw [c2]
  refine ⟨x, ?_, by rw [ln]; exact hxc⟩
  rw [c0, ll, if_pos (by omega), hx]

theorem axq1_rl1 : ax_RO ax_wM1 (ax_XM 1) axu1_rl1 := by
  intro ρ hp hE hT
  obtain ⟨x, hx, x1, x2, x3⟩ := ax_gi hE 0 2147483648 2147493647 (by decide) rfl
  obtain ⟨x4, x5⟩ := ax_bi_pos x1 (by omega)
  have d4 : ∀ z : Nat, 4 * z / 4 = z := fun z => by omega
  obtain ⟨z, hz, z1, z2, z3⟩ := ax_gi hE 2 2147483648 2147483648 (by decide) rfl
  obtain ⟨z4, z5⟩ := ax_bi_pos z1 (by omega)
  have fz := ay_gfj hE 702 72 11 173 18 ax_m0 (ax_vlq rfl rfl) (ax_vlj rfl rfl)
  replace fz : ay_at hp 173 18 = some (ρ 2) := fz
  obtain ⟨p1, p2, p3, p4, p5, p⟩ : ay_ex hp 175 ∧ ay_ex hp 177 ∧ ay_ex hp 176 ∧ ay_ex hp 181 ∧ ay_ex hp 173 ∧ ay_M50 0 (ay_at hp 175 0) (ay_at hp 177 0) (ay_at hp 176 0) (ay_at hp 181) (ay_at hp 173 18) := (ax_XF_lt (x := 50) (Nat.le_of_ble_eq_true rfl)).mp (ax_gx hE (50, []) ax_m1)
  have fn := ay_gfj hE 710 0 15 175 0 ax_m2 (ax_vlq rfl rfl) (ax_vlj rfl rfl)
  replace fn : ay_at hp 175 0 = some (ρ 3) := fn
  obtain ⟨pn, pr, pe⟩ := p (by rw [fz, hz, show z = 0 by omega])
  obtain ⟨a, b, c, ha, hb, hc, la, lb, lc, hs⟩ := ax_gs hE 19 4 15 (by decide)
  replace ha : ρ 4 = 4 * a := ha
  replace hc : ρ 3 = 4 * c := hc
  have hb' : b = 1 := by have : (4 : Nat) = 4 * b := hb; omega
  have ln : ay_ln (ay_at hp 175 0) = c := by rw [fn, hc]; show 4 * c / 4 = c; omega
  have hle : rx_bi (ρ 0 / 4) ≤ rx_bi (ρ 4 / 4) := ax_gc hE 5 3 19 (by decide) (by decide)
  rw [hx, ha, d4, d4] at hle
  rw [ln] at pn
  rw [hb', ax_bi_nat (c := c) (by omega), ax_bi_nat (c := 1) (by decide)] at hs
  have hxc : x < c := by omega
  obtain ⟨l, hl, l1, l2, l3⟩ := ax_gi hE 5 2147483648 2147483667 (by decide) rfl
  obtain ⟨l4, l5⟩ := ax_bi_pos l1 (by omega)
  have fl := ay_gfj hE 714 0 23 176 0 ax_m5 (ax_vlq rfl rfl) (ax_vlj rfl rfl)
  replace fl : ay_at hp 176 0 = some (ρ 5) := fl
  have ll : ay_ln (ay_at hp 176 0) = l := by rw [fl, hl]; show 4 * l / 4 = l; omega
  have hj2 : ρ 1 = 4 * (0 + 2 * l + 1) := ay_ix hE 0 23 27 31 4 7 (k := 0) (e := 1) (ax_vl_c (v := 0) (by decide)) (by decide) hl (by omega) (ax_vl_c (v := 4) (by decide)) (by decide) (by decide) (by decide) (by decide)
  obtain ⟨q1, q2, q3, q⟩ : ay_ex hp 181 ∧ ay_ex hp 176 ∧ ay_ex hp 175 ∧ ay_M64 0 (ay_at hp 181) (ay_at hp 176 0) (ay_at hp 175 0) := (ax_XF_lt (x := 64) (Nat.le_of_ble_eq_true rfl)).mp (ax_gx hE (64, []) ax_m9)
  obtain ⟨o0, ho0⟩ := ay_some hT (q := 181) (g := 51) (n := 80) (ax_wc ax_WW1 ax_cg_181) (ax_wn ax_WW1 ax_cn_51) (j := ρ 1 / 4) (by omega)
  refine ⟨fun y hy => ?_, _, List.mem_cons_self, ρ, fun _ _ => rfl, ax_px hE rfl (fun y hy => ?_)⟩
  · cases List.mem_singleton.mp hy
    show 2147483648 ≤ rx_bi (ρ 0 / 4) ∧ rx_bi (ρ 0 / 4) ≤ 2147483657
    rw [hx, d4, ax_bi_nat (by omega)]
    omega
  rcases List.mem_cons.mp hy with e | hy
  · subst e
    show ax_XF (ax_XM 1) (500 + 50) [734, ρ 1, ρ 0] hp
    refine (ax_XF_wr (x := 50) (Nat.le_of_ble_eq_true rfl)).mpr ⟨ay_ex_upd hT.1 (ax_cellT hT (q := 175) (g := 45) (ax_wc ax_WW1 ax_cg_175)), ay_ex_upd hT.1 (ax_cellT hT (q := 177) (g := 47) (ax_wc ax_WW1 ax_cg_177)), ay_ex_upd hT.1 (ax_cellT hT (q := 176) (g := 46) (ax_wc ax_WW1 ax_cg_176)), ay_ex_upd hT.1 (ax_cellT hT (q := 181) (g := 51) (ax_wc ax_WW1 ax_cg_181)), ay_ex_upd hT.1 (ax_cellT hT (q := 173) (g := 11) (ax_wc ax_WW1 ax_cg_173)), ?_⟩
    show ay_M50 0 (ay_at (ax_upd hp 734 (ρ 1) (ρ 0)) 175 0) (ay_at (ax_upd hp 734 (ρ 1) (ρ 0)) 177 0) (ay_at (ax_upd hp 734 (ρ 1) (ρ 0)) 176 0) (ay_at (ax_upd hp 734 (ρ 1) (ρ 0)) 181) (ay_at (ax_upd hp 734 (ρ 1) (ρ 0)) 173 18)
    have c0 : ay_at (ax_upd hp 734 (ρ 1) (ρ 0)) 175 0 = ay_at hp 175 0 := ay_upd_ne hT.1 (by decide) 0
    rw [c0]
    have c1 : ay_at (ax_upd hp 734 (ρ 1) (ρ 0)) 177 0 = ay_at hp 177 0 := ay_upd_ne hT.1 (by decide) 0
    rw [c1]
    have c2 : ay_at (ax_upd hp 734 (ρ 1) (ρ 0)) 176 0 = ay_at hp 176 0 := ay_upd_ne hT.1 (by decide) 0
    rw [c2]
    have c3 : ∀ j, ay_at (ax_upd hp 734 (ρ 1) (ρ 0)) 181 j = if j = (ρ 1) / 4 then some (ρ 0) else ay_at hp 181 j := fun j => ay_upd_eq hT.1 rfl ho0 j
    have c4 : ay_at (ax_upd hp 734 (ρ 1) (ρ 0)) 173 18 = ay_at hp 173 18 := ay_upd_ne hT.1 (by decide) 18
    rw [c4]
    intro _
    refine ⟨by rw [ln]; exact pn, pr, fun j hj => ?_⟩
    obtain ⟨t, t1, t2⟩ := pe j hj
    rw [ll] at hj
    refine ⟨t, ?_, t2⟩
    rw [c3, if_neg (by omega)]
    exact t1
  cases List.mem_singleton.mp hy
  show ax_XF (ax_XM 1) (500 + 65) [734, ρ 1, ρ 0] hp
  refine (ax_XF_wr (x := 65) (Nat.le_of_ble_eq_true rfl)).mpr ⟨ay_ex_upd hT.1 (ax_cellT hT (q := 181) (g := 51) (ax_wc ax_WW1 ax_cg_181)), ay_ex_upd hT.1 (ax_cellT hT (q := 176) (g := 46) (ax_wc ax_WW1 ax_cg_176)), ay_ex_upd hT.1 (ax_cellT hT (q := 175) (g := 45) (ax_wc ax_WW1 ax_cg_175)), ?_⟩
  show ay_M65 0 (ay_at (ax_upd hp 734 (ρ 1) (ρ 0)) 181) (ay_at (ax_upd hp 734 (ρ 1) (ρ 0)) 176 0) (ay_at (ax_upd hp 734 (ρ 1) (ρ 0)) 175 0)
  have c0 : ∀ j, ay_at (ax_upd hp 734 (ρ 1) (ρ 0)) 181 j = if j = (ρ 1) / 4 then some (ρ 0) else ay_at hp 181 j := fun j => ay_upd_eq hT.1 rfl ho0 j
  have c1 : ay_at (ax_upd hp 734 (ρ 1) (ρ 0)) 176 0 = ay_at hp 176 0 := ay_upd_ne hT.1 (by decide) 0
  rw [c1]
  have c2 : ay_at (ax_upd hp 734 (ρ 1) (ρ 0)) 175 0 = ay_at hp 175 0 := ay_upd_ne hT.1 (by decide) 0
  rw [c2]
  refine ⟨?_, ?_⟩
  · obtain ⟨t, t1, t2⟩ := q
    refine ⟨t, ?_, t2⟩
    rw [c0, if_neg (by rw [ll]; omega)]
    exact t1
  · refine ⟨x, ?_, by rw [ln]; exact hxc⟩
    rw [c0, ll, if_pos (by omega), hx]

theorem axq1_rl2143 : ax_RO ax_wM1 (ax_XM 1) axu1_rl2143 := by
  intro ρ hp hE hT
  obtain ⟨p1, p2, p3, p⟩ : ay_ex hp 181 ∧ ay_ex hp 175 ∧ ay_ex hp 176 ∧ ay_M25 (1) (ay_at hp 181) (ay_at hp 175 1) (ay_at hp 176 1) := (ax_XF_lt (x := 25) (Nat.le_of_ble_eq_true rfl)).mp (ax_gx hE (25, []) ax_m0)
  obtain ⟨j, hj, j1, j2, j3⟩ := ax_gi hE 1 2147483648 2147483687 (by decide) rfl
  obtain ⟨j4, j5⟩ := ax_bi_pos j1 (by omega)
  obtain ⟨u0, hu0⟩ := ay_some hT (q := 176) (g := 46) (n := 2) (ax_wc ax_WW1 ax_cg_176) (ax_wn ax_WW1 ax_cn_46) (j := 1) (by decide)
  obtain ⟨w1, w2, w3, w4⟩ := ay_int hT (q := 176) (g := 46) (n := 2) (lo := 2147483648) (hi := 2147483668) (ax_wc ax_WW1 ax_cg_176) rfl hu0
  have hll : ay_ln (ay_at hp 176 1) ≤ 20 := by
    rw [hu0]
    show u0 / 4 ≤ 20
    obtain ⟨g1, g2⟩ := ax_bi_pos w2 w3
    omega
  obtain ⟨o0, ho0⟩ := ay_some hT (q := 181) (g := 51) (n := 80) (ax_wc ax_WW1 ax_cg_181) (ax_wn ax_WW1 ax_cn_51) (j := ρ 1 / 4) (by omega)
  refine ⟨(fun y hy => by cases hy), _, List.mem_cons_self, ρ, fun _ _ => rfl, ax_px hE rfl (fun y hy => ?_)⟩
  cases List.mem_singleton.mp hy
  show ax_XF (ax_XM 1) (500 + 25) [734, ρ 1, ρ 0] hp
  refine (ax_XF_wr (x := 25) (Nat.le_of_ble_eq_true rfl)).mpr ⟨ay_ex_upd hT.1 (ax_cellT hT (q := 181) (g := 51) (ax_wc ax_WW1 ax_cg_181)), ay_ex_upd hT.1 (ax_cellT hT (q := 175) (g := 45) (ax_wc ax_WW1 ax_cg_175)), ay_ex_upd hT.1 (ax_cellT hT (q := 176) (g := 46) (ax_wc ax_WW1 ax_cg_176)), ?_⟩
  show ay_M25 (1) (ay_at (ax_upd hp 734 (ρ 1) (ρ 0)) 181) (ay_at (ax_upd hp 734 (ρ 1) (ρ 0)) 175 1) (ay_at (ax_upd hp 734 (ρ 1) (ρ 0)) 176 1)
  have c0 : ∀ j, ay_at (ax_upd hp 734 (ρ 1) (ρ 0)) 181 j = if j = (ρ 1) / 4 then some (ρ 0) else ay_at hp 181 j := fun j => ay_upd_eq hT.1 rfl ho0 j
  have c1 : ay_at (ax_upd hp 734 (ρ 1) (ρ 0)) 175 1 = ay_at hp 175 1 := ay_upd_ne hT.1 (by decide) 1
  rw [c1]
  have c2 : ay_at (ax_upd hp 734 (ρ 1) (ρ 0)) 176 1 = ay_at hp 176 1 := ay_upd_ne hT.1 (by decide) 1
  rw [c2]
  intro i hi
  obtain ⟨t, t1, t2⟩ := p i hi
  refine ⟨t, ?_, t2⟩
  rw [c0, if_neg (by omega)]
  exact t1
theorem axq1_rl2163 : ax_RO ax_wM1 (ax_XM 1) axu1_rl2163 := by
  intro ρ hp hE hT
  obtain ⟨p1, p2, p3, p⟩ : ay_ex hp 181 ∧ ay_ex hp 175 ∧ ay_ex hp 176 ∧ ay_M25 (1) (ay_at hp 181) (ay_at hp 175 1) (ay_at hp 176 1) := (ax_XF_lt (x := 25) (Nat.le_of_ble_eq_true rfl)).mp (ax_gx hE (25, []) ax_m0)
  obtain ⟨j, hj, j1, j2, j3⟩ := ax_gi hE 1 2147483648 2147483687 (by decide) rfl
  obtain ⟨j4, j5⟩ := ax_bi_pos j1 (by omega)
  obtain ⟨u0, hu0⟩ := ay_some hT (q := 176) (g := 46) (n := 2) (ax_wc ax_WW1 ax_cg_176) (ax_wn ax_WW1 ax_cn_46) (j := 1) (by decide)
  obtain ⟨w1, w2, w3, w4⟩ := ay_int hT (q := 176) (g := 46) (n := 2) (lo := 2147483648) (hi := 2147483668) (ax_wc ax_WW1 ax_cg_176) rfl hu0
  have hll : ay_ln (ay_at hp 176 1) ≤ 20 := by
    rw [hu0]
    show u0 / 4 ≤ 20
    obtain ⟨g1, g2⟩ := ax_bi_pos w2 w3
    omega
  obtain ⟨o0, ho0⟩ := ay_some hT (q := 181) (g := 51) (n := 80) (ax_wc ax_WW1 ax_cg_181) (ax_wn ax_WW1 ax_cn_51) (j := ρ 1 / 4) (by omega)
  refine ⟨(fun y hy => by cases hy), _, List.mem_cons_self, ρ, fun _ _ => rfl, ax_px hE rfl (fun y hy => ?_)⟩
  cases List.mem_singleton.mp hy
  show ax_XF (ax_XM 1) (500 + 25) [734, ρ 1, ρ 0] hp
  refine (ax_XF_wr (x := 25) (Nat.le_of_ble_eq_true rfl)).mpr ⟨ay_ex_upd hT.1 (ax_cellT hT (q := 181) (g := 51) (ax_wc ax_WW1 ax_cg_181)), ay_ex_upd hT.1 (ax_cellT hT (q := 175) (g := 45) (ax_wc ax_WW1 ax_cg_175)), ay_ex_upd hT.1 (ax_cellT hT (q := 176) (g := 46) (ax_wc ax_WW1 ax_cg_176)), ?_⟩
  show ay_M25 (1) (ay_at (ax_upd hp 734 (ρ 1) (ρ 0)) 181) (ay_at (ax_upd hp 734 (ρ 1) (ρ 0)) 175 1) (ay_at (ax_upd hp 734 (ρ 1) (ρ 0)) 176 1)
  have c0 : ∀ j, ay_at (ax_upd hp 734 (ρ 1) (ρ 0)) 181 j = if j = (ρ 1) / 4 then some (ρ 0) else ay_at hp 181 j := fun j => ay_upd_eq hT.1 rfl ho0 j
  have c1 : ay_at (ax_upd hp 734 (ρ 1) (ρ 0)) 175 1 = ay_at hp 175 1 := ay_upd_ne hT.1 (by decide) 1
  rw [c1]
  have c2 : ay_at (ax_upd hp 734 (ρ 1) (ρ 0)) 176 1 = ay_at hp 176 1 := ay_upd_ne hT.1 (by decide) 1
  rw [c2]
  intro i hi
  obtain ⟨t, t1, t2⟩ := p i hi
  refine ⟨t, ?_, t2⟩
  rw [c0, if_neg (by omega)]
  exact t1
theorem axq1_rl3 : ax_RO ax_wM1 (ax_XM 1) axu1_rl3 := by
  intro ρ hp hE hT
  obtain ⟨p1, p2, p3, p4, p5, p⟩ : ay_ex hp 175 ∧ ay_ex hp 177 ∧ ay_ex hp 176 ∧ ay_ex hp 181 ∧ ay_ex hp 173 ∧ ay_M50 0 (ay_at hp 175 0) (ay_at hp 177 0) (ay_at hp 176 0) (ay_at hp 181) (ay_at hp 173 18) := (ax_XF_lt (x := 50) (Nat.le_of_ble_eq_true rfl)).mp (ax_gx hE (50, []) ax_m2)
  obtain ⟨q1, q2, q3, q⟩ : ay_ex hp 181 ∧ ay_ex hp 176 ∧ ay_ex hp 175 ∧ ay_M65 0 (ay_at hp 181) (ay_at hp 176 0) (ay_at hp 175 0) := (ax_XF_lt (x := 65) (Nat.le_of_ble_eq_true rfl)).mp (ax_gx hE (65, []) ax_m3)
  obtain ⟨k1, k2, k3, k4, k⟩ : ay_ex hp 176 ∧ ay_ex hp 173 ∧ ay_ex hp 173 ∧ ay_ex hp 173 ∧ ay_M54 (ρ 2) (ay_at hp 176 0) (ay_at hp 173 23) (ay_at hp 173 24) (ay_at hp 173 25) := (ax_XF_lt (x := 54) (Nat.le_of_ble_eq_true rfl)).mp (ax_gx hE (54, [11]) ax_m4)
  replace k : (20 - ay_ln (ay_at hp 176 0)) + (1 - ay_ln (ay_at hp 173 23)) + (1 - ay_ln (ay_at hp 173 24)) + (1 - ay_ln (ay_at hp 173 25)) + 1 ≤ ρ 2 / 4 := k
  obtain ⟨K, hK⟩ := ax_gj hE 2 (by decide) rfl
  obtain ⟨l, hl, l1, l2, l3⟩ := ax_gi hE 1 2147483648 2147483667 (by decide) rfl
  obtain ⟨l4, l5⟩ := ax_bi_pos l1 (by omega)
  have d4 : ∀ z : Nat, 4 * z / 4 = z := fun z => by omega
  have fl := ay_gfj hE 714 0 7 176 0 ax_m0 (ax_vlq rfl rfl) (ax_vlj rfl rfl)
  replace fl : ay_at hp 176 0 = some (ρ 1) := fl
  have ll : ay_ln (ay_at hp 176 0) = l := by rw [fl, hl]; show 4 * l / 4 = l; omega
  obtain ⟨r, hr⟩ : ∃ z, ay_ln (ay_at hp 173 23) = z := ⟨_, rfl⟩
  obtain ⟨s, hs⟩ : ∃ z, ay_ln (ay_at hp 173 24) = z := ⟨_, rfl⟩
  obtain ⟨t, ht⟩ : ∃ z, ay_ln (ay_at hp 173 25) = z := ⟨_, rfl⟩
  rw [ll, hr, hs, ht] at k
  have h0 : ρ 0 = 4 * (l + 1) := ay_s hE 7 4 3 (b := 1) (by decide) hl (ax_vl_c (v := 4) (by decide)) (by omega) (by decide)
  obtain ⟨⟨e1, q7, q8⟩, e2, q9, q10⟩ := q
  rw [ll] at q7 q9
  obtain ⟨o0, ho0⟩ := ay_some hT (q := 176) (g := 46) (n := 2) (ax_wc ax_WW1 ax_cg_176) (ax_wn ax_WW1 ax_cn_46) (j := 0 / 4) (Nat.le_of_ble_eq_true rfl)
  obtain ⟨ρ', h1, h2⟩ := ax_pn (K := (20 - (l + 1)) + (1 - r) + (1 - s) + (1 - t) + 1) (xf := [(550, [714, 0, 3]), (554, [714, 0, 3, 15]), (1030, [15, 11])]) hE (by decide) (fun ρ' h1 h2 x hx => by
    rcases List.mem_cons.mp hx with e | hx
    · subst e
      show ax_XF (ax_XM 1) (500 + 50) [714, 0, ρ' 0] hp
      rw [h1 0 (by decide)]
      refine (ax_XF_wr (x := 50) (Nat.le_of_ble_eq_true rfl)).mpr ⟨ay_ex_upd hT.1 (ax_cellT hT (q := 175) (g := 45) (ax_wc ax_WW1 ax_cg_175)), ay_ex_upd hT.1 (ax_cellT hT (q := 177) (g := 47) (ax_wc ax_WW1 ax_cg_177)), ay_ex_upd hT.1 (ax_cellT hT (q := 176) (g := 46) (ax_wc ax_WW1 ax_cg_176)), ay_ex_upd hT.1 (ax_cellT hT (q := 181) (g := 51) (ax_wc ax_WW1 ax_cg_181)), ay_ex_upd hT.1 (ax_cellT hT (q := 173) (g := 11) (ax_wc ax_WW1 ax_cg_173)), ?_⟩
      show ay_M50 0 (ay_at (ax_upd hp 714 (0) (ρ 0)) 175 0) (ay_at (ax_upd hp 714 (0) (ρ 0)) 177 0) (ay_at (ax_upd hp 714 (0) (ρ 0)) 176 0) (ay_at (ax_upd hp 714 (0) (ρ 0)) 181) (ay_at (ax_upd hp 714 (0) (ρ 0)) 173 18)
      have c0 : ay_at (ax_upd hp 714 (0) (ρ 0)) 175 0 = ay_at hp 175 0 := ay_upd_ne hT.1 (by decide) 0
      rw [c0]
      have c1 : ay_at (ax_upd hp 714 (0) (ρ 0)) 177 0 = ay_at hp 177 0 := ay_upd_ne hT.1 (by decide) 0
      rw [c1]
      have c2 : ay_at (ax_upd hp 714 (0) (ρ 0)) 176 0 = some (ρ 0) := by rw [ay_upd_eq hT.1 rfl ho0, if_pos (by decide)]
      rw [c2]
      have c3 : ay_at (ax_upd hp 714 (0) (ρ 0)) 181 = ay_at hp 181 := funext (fun j => ay_upd_ne hT.1 (by decide) j)
      rw [c3]
      have c4 : ay_at (ax_upd hp 714 (0) (ρ 0)) 173 18 = ay_at hp 173 18 := ay_upd_ne hT.1 (by decide) 18
      rw [c4]
      intro hz
      obtain ⟨p7, p8, p9⟩ := p hz
      refine ⟨p7, p8, fun j hj => ?_⟩
      replace hj : j < 2 * (ρ 0 / 4) := hj
      rw [h0, d4] at hj
      by_cases z1 : j < 2 * l
      · exact p9 j (by rw [ll]; exact z1)
      · by_cases z2 : j = 2 * l
        · rw [z2]; exact ⟨e1, q7, q8⟩
        · rw [show j = 2 * l + 1 by omega]; exact ⟨e2, q9, q10⟩
    rcases List.mem_cons.mp hx with e | hx
    · subst e
      show ax_XF (ax_XM 1) (500 + 54) [714, 0, ρ' 0, ρ' 3] hp
      rw [h1 0 (by decide)]
      refine (ax_XF_wr (x := 54) (Nat.le_of_ble_eq_true rfl)).mpr ⟨ay_ex_upd hT.1 (ax_cellT hT (q := 176) (g := 46) (ax_wc ax_WW1 ax_cg_176)), ay_ex_upd hT.1 (ax_cellT hT (q := 173) (g := 11) (ax_wc ax_WW1 ax_cg_173)), ay_ex_upd hT.1 (ax_cellT hT (q := 173) (g := 11) (ax_wc ax_WW1 ax_cg_173)), ay_ex_upd hT.1 (ax_cellT hT (q := 173) (g := 11) (ax_wc ax_WW1 ax_cg_173)), ?_⟩
      show ay_M54 (ρ' 3) (ay_at (ax_upd hp 714 (0) (ρ 0)) 176 0) (ay_at (ax_upd hp 714 (0) (ρ 0)) 173 23) (ay_at (ax_upd hp 714 (0) (ρ 0)) 173 24) (ay_at (ax_upd hp 714 (0) (ρ 0)) 173 25)
      have c0 : ay_at (ax_upd hp 714 (0) (ρ 0)) 176 0 = some (ρ 0) := by rw [ay_upd_eq hT.1 rfl ho0, if_pos (by decide)]
      rw [c0]
      have c1 : ay_at (ax_upd hp 714 (0) (ρ 0)) 173 23 = ay_at hp 173 23 := ay_upd_ne hT.1 (by decide) 23
      rw [c1]
      have c2 : ay_at (ax_upd hp 714 (0) (ρ 0)) 173 24 = ay_at hp 173 24 := ay_upd_ne hT.1 (by decide) 24
      rw [c2]
      have c3 : ay_at (ax_upd hp 714 (0) (ρ 0)) 173 25 = ay_at hp 173 25 := ay_upd_ne hT.1 (by decide) 25
      rw [c3]
      show (20 - ρ 0 / 4) + (1 - ay_ln (ay_at hp 173 23)) + (1 - ay_ln (ay_at hp 173 24)) + (1 - ay_ln (ay_at hp 173 25)) + 1 ≤ ρ' 3 / 4
      rw [h2, h0, hr, hs, ht, d4]
      omega
    cases List.mem_singleton.mp hx
    refine (ax_XF_bi (o := 30) (by decide)).mpr (Or.inr ⟨rfl, ?_⟩)
    show ρ' 3 < ρ' 2
    rw [h2, h1 2 (by decide), hK]
    omega)
  exact ⟨(fun x hx => by cases hx), _, List.mem_cons_self, ρ', h1, h2⟩
theorem axq1_rno : ax_RO ax_wM1 (ax_XM 1) axu1_rno := by
  intro ρ hp hE hT
  obtain ⟨k1, k2, k3, k4, k⟩ : ay_ex hp 176 ∧ ay_ex hp 173 ∧ ay_ex hp 173 ∧ ay_ex hp 173 ∧ ay_M54 (ρ 1) (ay_at hp 176 0) (ay_at hp 173 23) (ay_at hp 173 24) (ay_at hp 173 25) := (ax_XF_lt (x := 54) (Nat.le_of_ble_eq_true rfl)).mp (ax_gx hE (54, [7]) (by decide))
  replace k : (20 - ay_ln (ay_at hp 176 0)) + (1 - ay_ln (ay_at hp 173 23)) + (1 - ay_ln (ay_at hp 173 24)) + (1 - ay_ln (ay_at hp 173 25)) + 1 ≤ ρ 1 / 4 := k
  obtain ⟨K, hK⟩ := ax_gj hE 1 (by decide) rfl
  obtain ⟨h, hh, h1, h2, h3⟩ := ax_gi hE 0 2147483648 2147483648 (by decide) rfl
  obtain ⟨h4, h5⟩ := ax_bi_pos h1 (by omega)
  have d4 : ∀ z : Nat, 4 * z / 4 = z := fun z => by omega
  have fh := ay_gfj hE 702 92 3 173 23 (by decide) (ax_vlq rfl rfl) (ax_vlj rfl rfl)
  replace fh : ay_at hp 173 23 = some (ρ 0) := fh
  have lh : ay_ln (ay_at hp 173 23) = h := by rw [fh, hh]; show 4 * h / 4 = h; omega
  obtain ⟨l, hl⟩ : ∃ z, ay_ln (ay_at hp 176 0) = z := ⟨_, rfl⟩
  obtain ⟨r, hr⟩ : ∃ z, ay_ln (ay_at hp 173 23) = z := ⟨_, rfl⟩
  obtain ⟨s, hs⟩ : ∃ z, ay_ln (ay_at hp 173 24) = z := ⟨_, rfl⟩
  obtain ⟨t, ht⟩ : ∃ z, ay_ln (ay_at hp 173 25) = z := ⟨_, rfl⟩
  have hv0 : r = 0 := by rw [← hr, lh]; omega
  rw [hl, hr, hs, ht] at k
  obtain ⟨o0, ho0⟩ := ay_some hT (q := 173) (g := 11) (n := 58) (ax_wc ax_WW1 ax_cg_173) (ax_wn ax_WW1 ax_cn_11) (j := 92 / 4) (Nat.le_of_ble_eq_true rfl)
  obtain ⟨ρ', h1, h2⟩ := ax_pn (K := (20 - l) + 0 + (1 - s) + (1 - t) + 1) (xf := [(554, [702, 92, 4, 11]), (1030, [11, 7])]) hE (by decide) (fun ρ' h1 h2 x hx => by
    rcases List.mem_cons.mp hx with e | hx
    · subst e
      show ax_XF (ax_XM 1) (500 + 54) [702, 92, 4, ρ' 2] hp
      refine (ax_XF_wr (x := 54) (Nat.le_of_ble_eq_true rfl)).mpr ⟨ay_ex_upd hT.1 (ax_cellT hT (q := 176) (g := 46) (ax_wc ax_WW1 ax_cg_176)), ay_ex_upd hT.1 (ax_cellT hT (q := 173) (g := 11) (ax_wc ax_WW1 ax_cg_173)), ay_ex_upd hT.1 (ax_cellT hT (q := 173) (g := 11) (ax_wc ax_WW1 ax_cg_173)), ay_ex_upd hT.1 (ax_cellT hT (q := 173) (g := 11) (ax_wc ax_WW1 ax_cg_173)), ?_⟩
      show ay_M54 (ρ' 2) (ay_at (ax_upd hp 702 (92) (4)) 176 0) (ay_at (ax_upd hp 702 (92) (4)) 173 23) (ay_at (ax_upd hp 702 (92) (4)) 173 24) (ay_at (ax_upd hp 702 (92) (4)) 173 25)
      have c0 : ay_at (ax_upd hp 702 (92) (4)) 176 0 = ay_at hp 176 0 := ay_upd_ne hT.1 (by decide) 0
      rw [c0]
      have c1 : ay_at (ax_upd hp 702 (92) (4)) 173 23 = some (4) := by rw [ay_upd_eq hT.1 rfl ho0, if_pos (by decide)]
      rw [c1]
      have c2 : ay_at (ax_upd hp 702 (92) (4)) 173 24 = ay_at hp 173 24 := by rw [ay_upd_eq hT.1 rfl ho0, if_neg (by decide)]
      rw [c2]
      have c3 : ay_at (ax_upd hp 702 (92) (4)) 173 25 = ay_at hp 173 25 := by rw [ay_upd_eq hT.1 rfl ho0, if_neg (by decide)]
      rw [c3]
      show (20 - ay_ln (ay_at hp 176 0)) + (1 - 1) + (1 - ay_ln (ay_at hp 173 24)) + (1 - ay_ln (ay_at hp 173 25)) + 1 ≤ ρ' 2 / 4
      rw [h2, hl, hs, ht]
      omega
    cases List.mem_singleton.mp hx
    refine (ax_XF_bi (o := 30) (by decide)).mpr (Or.inr ⟨rfl, ?_⟩)
    show ρ' 2 < ρ' 1
    rw [h2, h1 1 (by decide), hK]
    omega)
  exact ⟨(fun x hx => by cases hx), _, List.mem_cons_self, ρ', h1, h2⟩
theorem axq1_rnm : ax_RO ax_wM1 (ax_XM 1) axu1_rnm := by
  intro ρ hp hE hT
  obtain ⟨k1, k2, k3, k4, k⟩ : ay_ex hp 176 ∧ ay_ex hp 173 ∧ ay_ex hp 173 ∧ ay_ex hp 173 ∧ ay_M54 (ρ 1) (ay_at hp 176 0) (ay_at hp 173 23) (ay_at hp 173 24) (ay_at hp 173 25) := (ax_XF_lt (x := 54) (Nat.le_of_ble_eq_true rfl)).mp (ax_gx hE (54, [7]) (by decide))
  replace k : (20 - ay_ln (ay_at hp 176 0)) + (1 - ay_ln (ay_at hp 173 23)) + (1 - ay_ln (ay_at hp 173 24)) + (1 - ay_ln (ay_at hp 173 25)) + 1 ≤ ρ 1 / 4 := k
  obtain ⟨K, hK⟩ := ax_gj hE 1 (by decide) rfl
  obtain ⟨h, hh, h1, h2, h3⟩ := ax_gi hE 0 2147483648 2147483648 (by decide) rfl
  obtain ⟨h4, h5⟩ := ax_bi_pos h1 (by omega)
  have d4 : ∀ z : Nat, 4 * z / 4 = z := fun z => by omega
  have fh := ay_gfj hE 702 100 3 173 25 (by decide) (ax_vlq rfl rfl) (ax_vlj rfl rfl)
  replace fh : ay_at hp 173 25 = some (ρ 0) := fh
  have lh : ay_ln (ay_at hp 173 25) = h := by rw [fh, hh]; show 4 * h / 4 = h; omega
  obtain ⟨l, hl⟩ : ∃ z, ay_ln (ay_at hp 176 0) = z := ⟨_, rfl⟩
  obtain ⟨r, hr⟩ : ∃ z, ay_ln (ay_at hp 173 23) = z := ⟨_, rfl⟩
  obtain ⟨s, hs⟩ : ∃ z, ay_ln (ay_at hp 173 24) = z := ⟨_, rfl⟩
  obtain ⟨t, ht⟩ : ∃ z, ay_ln (ay_at hp 173 25) = z := ⟨_, rfl⟩
  have hv0 : t = 0 := by rw [← ht, lh]; omega
  rw [hl, hr, hs, ht] at k
  obtain ⟨o0, ho0⟩ := ay_some hT (q := 173) (g := 11) (n := 58) (ax_wc ax_WW1 ax_cg_173) (ax_wn ax_WW1 ax_cn_11) (j := 100 / 4) (Nat.le_of_ble_eq_true rfl)
  obtain ⟨ρ', h1, h2⟩ := ax_pn (K := (20 - l) + (1 - r) + (1 - s) + 0 + 1) (xf := [(554, [702, 100, 4, 11]), (1030, [11, 7])]) hE (by decide) (fun ρ' h1 h2 x hx => by
    rcases List.mem_cons.mp hx with e | hx
    · subst e
      show ax_XF (ax_XM 1) (500 + 54) [702, 100, 4, ρ' 2] hp
      refine (ax_XF_wr (x := 54) (Nat.le_of_ble_eq_true rfl)).mpr ⟨ay_ex_upd hT.1 (ax_cellT hT (q := 176) (g := 46) (ax_wc ax_WW1 ax_cg_176)), ay_ex_upd hT.1 (ax_cellT hT (q := 173) (g := 11) (ax_wc ax_WW1 ax_cg_173)), ay_ex_upd hT.1 (ax_cellT hT (q := 173) (g := 11) (ax_wc ax_WW1 ax_cg_173)), ay_ex_upd hT.1 (ax_cellT hT (q := 173) (g := 11) (ax_wc ax_WW1 ax_cg_173)), ?_⟩
      show ay_M54 (ρ' 2) (ay_at (ax_upd hp 702 (100) (4)) 176 0) (ay_at (ax_upd hp 702 (100) (4)) 173 23) (ay_at (ax_upd hp 702 (100) (4)) 173 24) (ay_at (ax_upd hp 702 (100) (4)) 173 25)
      have c0 : ay_at (ax_upd hp 702 (100) (4)) 176 0 = ay_at hp 176 0 := ay_upd_ne hT.1 (by decide) 0
      rw [c0]
      have c1 : ay_at (ax_upd hp 702 (100) (4)) 173 23 = ay_at hp 173 23 := by rw [ay_upd_eq hT.1 rfl ho0, if_neg (by decide)]
      rw [c1]
      have c2 : ay_at (ax_upd hp 702 (100) (4)) 173 24 = ay_at hp 173 24 := by rw [ay_upd_eq hT.1 rfl ho0, if_neg (by decide)]
      rw [c2]
      have c3 : ay_at (ax_upd hp 702 (100) (4)) 173 25 = some (4) := by rw [ay_upd_eq hT.1 rfl ho0, if_pos (by decide)]
      rw [c3]
      show (20 - ay_ln (ay_at hp 176 0)) + (1 - ay_ln (ay_at hp 173 23)) + (1 - ay_ln (ay_at hp 173 24)) + (1 - 1) + 1 ≤ ρ' 2 / 4
      rw [h2, hl, hr, hs]
      omega
    cases List.mem_singleton.mp hx
    refine (ax_XF_bi (o := 30) (by decide)).mpr (Or.inr ⟨rfl, ?_⟩)
    show ρ' 2 < ρ' 1
    rw [h2, h1 1 (by decide), hK]
    omega)
  exact ⟨(fun x hx => by cases hx), _, List.mem_cons_self, ρ', h1, h2⟩
theorem axq1_rnk : ax_RO ax_wM1 (ax_XM 1) axu1_rnk := by
  intro ρ hp hE hT
  obtain ⟨k1, k2, k3, k4, k⟩ : ay_ex hp 176 ∧ ay_ex hp 173 ∧ ay_ex hp 173 ∧ ay_ex hp 173 ∧ ay_M54 (ρ 1) (ay_at hp 176 0) (ay_at hp 173 23) (ay_at hp 173 24) (ay_at hp 173 25) := (ax_XF_lt (x := 54) (Nat.le_of_ble_eq_true rfl)).mp (ax_gx hE (54, [7]) (by decide))
  replace k : (20 - ay_ln (ay_at hp 176 0)) + (1 - ay_ln (ay_at hp 173 23)) + (1 - ay_ln (ay_at hp 173 24)) + (1 - ay_ln (ay_at hp 173 25)) + 1 ≤ ρ 1 / 4 := k
  obtain ⟨K, hK⟩ := ax_gj hE 1 (by decide) rfl
  obtain ⟨h, hh, h1, h2, h3⟩ := ax_gi hE 0 2147483648 2147483648 (by decide) rfl
  obtain ⟨h4, h5⟩ := ax_bi_pos h1 (by omega)
  have d4 : ∀ z : Nat, 4 * z / 4 = z := fun z => by omega
  have fh := ay_gfj hE 702 96 3 173 24 (by decide) (ax_vlq rfl rfl) (ax_vlj rfl rfl)
  replace fh : ay_at hp 173 24 = some (ρ 0) := fh
  have lh : ay_ln (ay_at hp 173 24) = h := by rw [fh, hh]; show 4 * h / 4 = h; omega
  obtain ⟨l, hl⟩ : ∃ z, ay_ln (ay_at hp 176 0) = z := ⟨_, rfl⟩
  obtain ⟨r, hr⟩ : ∃ z, ay_ln (ay_at hp 173 23) = z := ⟨_, rfl⟩
  obtain ⟨s, hs⟩ : ∃ z, ay_ln (ay_at hp 173 24) = z := ⟨_, rfl⟩
  obtain ⟨t, ht⟩ : ∃ z, ay_ln (ay_at hp 173 25) = z := ⟨_, rfl⟩
  have hv0 : s = 0 := by rw [← hs, lh]; omega
  rw [hl, hr, hs, ht] at k
  obtain ⟨o0, ho0⟩ := ay_some hT (q := 173) (g := 11) (n := 58) (ax_wc ax_WW1 ax_cg_173) (ax_wn ax_WW1 ax_cn_11) (j := 96 / 4) (Nat.le_of_ble_eq_true rfl)
  obtain ⟨ρ', h1, h2⟩ := ax_pn (K := (20 - l) + (1 - r) + 0 + (1 - t) + 1) (xf := [(554, [702, 96, 4, 11]), (1030, [11, 7])]) hE (by decide) (fun ρ' h1 h2 x hx => by
    rcases List.mem_cons.mp hx with e | hx
    · subst e
      show ax_XF (ax_XM 1) (500 + 54) [702, 96, 4, ρ' 2] hp
      refine (ax_XF_wr (x := 54) (Nat.le_of_ble_eq_true rfl)).mpr ⟨ay_ex_upd hT.1 (ax_cellT hT (q := 176) (g := 46) (ax_wc ax_WW1 ax_cg_176)), ay_ex_upd hT.1 (ax_cellT hT (q := 173) (g := 11) (ax_wc ax_WW1 ax_cg_173)), ay_ex_upd hT.1 (ax_cellT hT (q := 173) (g := 11) (ax_wc ax_WW1 ax_cg_173)), ay_ex_upd hT.1 (ax_cellT hT (q := 173) (g := 11) (ax_wc ax_WW1 ax_cg_173)), ?_⟩
      show ay_M54 (ρ' 2) (ay_at (ax_upd hp 702 (96) (4)) 176 0) (ay_at (ax_upd hp 702 (96) (4)) 173 23) (ay_at (ax_upd hp 702 (96) (4)) 173 24) (ay_at (ax_upd hp 702 (96) (4)) 173 25)
      have c0 : ay_at (ax_upd hp 702 (96) (4)) 176 0 = ay_at hp 176 0 := ay_upd_ne hT.1 (by decide) 0
      rw [c0]
      have c1 : ay_at (ax_upd hp 702 (96) (4)) 173 23 = ay_at hp 173 23 := by rw [ay_upd_eq hT.1 rfl ho0, if_neg (by decide)]
      rw [c1]
      have c2 : ay_at (ax_upd hp 702 (96) (4)) 173 24 = some (4) := by rw [ay_upd_eq hT.1 rfl ho0, if_pos (by decide)]
      rw [c2]
      have c3 : ay_at (ax_upd hp 702 (96) (4)) 173 25 = ay_at hp 173 25 := by rw [ay_upd_eq hT.1 rfl ho0, if_neg (by decide)]
      rw [c3]
      show (20 - ay_ln (ay_at hp 176 0)) + (1 - ay_ln (ay_at hp 173 23)) + (1 - 1) + (1 - ay_ln (ay_at hp 173 25)) + 1 ≤ ρ' 2 / 4
      rw [h2, hl, hr, ht]
      omega
    cases List.mem_singleton.mp hx
    refine (ax_XF_bi (o := 30) (by decide)).mpr (Or.inr ⟨rfl, ?_⟩)
    show ρ' 2 < ρ' 1
    rw [h2, h1 1 (by decide), hK]
    omega)
  exact ⟨(fun x hx => by cases hx), _, List.mem_cons_self, ρ', h1, h2⟩
theorem axq1_rn2 : ax_RO ax_wM1 (ax_XM 1) axu1_rn2 := by
  intro ρ hp hE hT
  obtain ⟨p1, p2, p3, p4, p5, p⟩ : ay_ex hp 182 ∧ ay_ex hp 180 ∧ ay_ex hp 179 ∧ ay_ex hp 173 ∧ ay_ex hp 173 ∧ ay_M52 0 (ay_at hp 182) (ay_at hp 180 0) (ay_at hp 179 0) (ay_at hp 173 18) (ay_at hp 173 24) := (ax_XF_lt (x := 52) (Nat.le_of_ble_eq_true rfl)).mp (ax_gx hE (52, []) (by decide))
  obtain ⟨h, hh, h1, h2, h3⟩ := ax_gi hE 0 2147483648 2147483648 (by decide) rfl
  obtain ⟨h4, h5⟩ := ax_bi_pos h1 (by omega)
  have fh := ay_gfj hE 702 96 3 173 24 (by decide) (ax_vlq rfl rfl) (ax_vlj rfl rfl)
  replace fh : ay_at hp 173 24 = some (ρ 0) := fh
  refine ⟨(fun y hy => by cases hy), _, List.mem_cons_self, ρ, fun _ _ => rfl, ax_px hE rfl (fun y hy => ?_)⟩
  cases List.mem_singleton.mp hy
  refine (ax_XF_lt (x := 42) (Nat.le_of_ble_eq_true rfl)).mpr ⟨(ax_cellT hT (q := 180) (g := 50) (ax_wc ax_WW1 ax_cg_180)), (ax_cellT hT (q := 179) (g := 49) (ax_wc ax_WW1 ax_cg_179)), ?_⟩
  exact p.2 (by rw [fh, hh, show h = 0 by omega])

theorem axq1_rn3 : ax_RO ax_wM1 (ax_XM 1) axu1_rn3 := by
  intro ρ hp hE hT
  obtain ⟨z, hz, z1, z2, z3⟩ := ax_gi hE 1 2147483649 2147483652 (by decide) rfl
  obtain ⟨z4, z5⟩ := ax_bi_pos z1 (by omega)
  have fz := ay_gfj hE 702 72 7 173 18 ax_m0 (ax_vlq rfl rfl) (ax_vlj rfl rfl)
  replace fz : ay_at hp 173 18 = some (ρ 1) := fz
  obtain ⟨o0, ho0⟩ := ay_some hT (q := 177) (g := 47) (n := 2) (ax_wc ax_WW1 ax_cg_177) (ax_wn ax_WW1 ax_cn_47) (j := 0 / 4) (Nat.le_of_ble_eq_true rfl)
  refine ⟨(fun y hy => by cases hy), _, List.mem_cons_self, ρ, fun _ _ => rfl, ax_px hE rfl (fun y hy => ?_)⟩
  cases List.mem_singleton.mp hy
  show ax_XF (ax_XM 1) (500 + 50) [718, 0, ρ 0] hp
  refine (ax_XF_wr (x := 50) (Nat.le_of_ble_eq_true rfl)).mpr ⟨ay_ex_upd hT.1 (ax_cellT hT (q := 175) (g := 45) (ax_wc ax_WW1 ax_cg_175)), ay_ex_upd hT.1 (ax_cellT hT (q := 177) (g := 47) (ax_wc ax_WW1 ax_cg_177)), ay_ex_upd hT.1 (ax_cellT hT (q := 176) (g := 46) (ax_wc ax_WW1 ax_cg_176)), ay_ex_upd hT.1 (ax_cellT hT (q := 181) (g := 51) (ax_wc ax_WW1 ax_cg_181)), ay_ex_upd hT.1 (ax_cellT hT (q := 173) (g := 11) (ax_wc ax_WW1 ax_cg_173)), ?_⟩
  show ay_M50 0 (ay_at (ax_upd hp 718 (0) (ρ 0)) 175 0) (ay_at (ax_upd hp 718 (0) (ρ 0)) 177 0) (ay_at (ax_upd hp 718 (0) (ρ 0)) 176 0) (ay_at (ax_upd hp 718 (0) (ρ 0)) 181) (ay_at (ax_upd hp 718 (0) (ρ 0)) 173 18)
  have c0 : ay_at (ax_upd hp 718 (0) (ρ 0)) 175 0 = ay_at hp 175 0 := ay_upd_ne hT.1 (by decide) 0
  rw [c0]
  have c1 : ay_at (ax_upd hp 718 (0) (ρ 0)) 177 0 = some (ρ 0) := by rw [ay_upd_eq hT.1 rfl ho0, if_pos (by decide)]
  rw [c1]
  have c2 : ay_at (ax_upd hp 718 (0) (ρ 0)) 176 0 = ay_at hp 176 0 := ay_upd_ne hT.1 (by decide) 0
  rw [c2]
  have c3 : ay_at (ax_upd hp 718 (0) (ρ 0)) 181 = ay_at hp 181 := funext (fun j => ay_upd_ne hT.1 (by decide) j)
  rw [c3]
  have c4 : ay_at (ax_upd hp 718 (0) (ρ 0)) 173 18 = ay_at hp 173 18 := ay_upd_ne hT.1 (by decide) 18
  rw [c4]
  intro e
  rw [fz] at e
  have e := Option.some.inj e
  omega
theorem axq1_rn4 : ax_RO ax_wM1 (ax_XM 1) axu1_rn4 := by
  intro ρ hp hE hT
  obtain ⟨x, hx, x1, x2, x3⟩ := ax_gi hE 0 2147483648 2147493647 (by decide) rfl
  obtain ⟨x4, x5⟩ := ax_bi_pos x1 (by omega)
  have d4 : ∀ z : Nat, 4 * z / 4 = z := fun z => by omega
  obtain ⟨z, hz, z1, z2, z3⟩ := ax_gi hE 1 2147483648 2147483648 (by decide) rfl
  obtain ⟨z4, z5⟩ := ax_bi_pos z1 (by omega)
  have fz := ay_gfj hE 702 72 7 173 18 ax_m0 (ax_vlq rfl rfl) (ax_vlj rfl rfl)
  replace fz : ay_at hp 173 18 = some (ρ 1) := fz
  obtain ⟨p1, p2, p3, p4, p5, p⟩ : ay_ex hp 175 ∧ ay_ex hp 177 ∧ ay_ex hp 176 ∧ ay_ex hp 181 ∧ ay_ex hp 173 ∧ ay_M50 0 (ay_at hp 175 0) (ay_at hp 177 0) (ay_at hp 176 0) (ay_at hp 181) (ay_at hp 173 18) := (ax_XF_lt (x := 50) (Nat.le_of_ble_eq_true rfl)).mp (ax_gx hE (50, []) ax_m1)
  have fn := ay_gfj hE 710 0 11 175 0 ax_m2 (ax_vlq rfl rfl) (ax_vlj rfl rfl)
  replace fn : ay_at hp 175 0 = some (ρ 2) := fn
  obtain ⟨pn, pr, pe⟩ := p (by rw [fz, hz, show z = 0 by omega])
  obtain ⟨a, b, c, ha, hb, hc, la, lb, lc, hs⟩ := ax_gs hE 15 4 11 (by decide)
  replace ha : ρ 3 = 4 * a := ha
  replace hc : ρ 2 = 4 * c := hc
  have hb' : b = 1 := by have : (4 : Nat) = 4 * b := hb; omega
  have ln : ay_ln (ay_at hp 175 0) = c := by rw [fn, hc]; show 4 * c / 4 = c; omega
  have hle : rx_bi (ρ 0 / 4) ≤ rx_bi (ρ 3 / 4) := ax_gc hE 5 3 15 (by decide) (by decide)
  rw [hx, ha, d4, d4] at hle
  rw [ln] at pn
  rw [hb', ax_bi_nat (c := c) (by omega), ax_bi_nat (c := 1) (by decide)] at hs
  have hxc : x < c := by omega
  obtain ⟨o0, ho0⟩ := ay_some hT (q := 177) (g := 47) (n := 2) (ax_wc ax_WW1 ax_cg_177) (ax_wn ax_WW1 ax_cn_47) (j := 0 / 4) (Nat.le_of_ble_eq_true rfl)
  refine ⟨(fun y hy => by cases hy), _, List.mem_cons_self, ρ, fun _ _ => rfl, ax_px hE rfl (fun y hy => ?_)⟩
  cases List.mem_singleton.mp hy
  show ax_XF (ax_XM 1) (500 + 50) [718, 0, ρ 0] hp
  refine (ax_XF_wr (x := 50) (Nat.le_of_ble_eq_true rfl)).mpr ⟨ay_ex_upd hT.1 (ax_cellT hT (q := 175) (g := 45) (ax_wc ax_WW1 ax_cg_175)), ay_ex_upd hT.1 (ax_cellT hT (q := 177) (g := 47) (ax_wc ax_WW1 ax_cg_177)), ay_ex_upd hT.1 (ax_cellT hT (q := 176) (g := 46) (ax_wc ax_WW1 ax_cg_176)), ay_ex_upd hT.1 (ax_cellT hT (q := 181) (g := 51) (ax_wc ax_WW1 ax_cg_181)), ay_ex_upd hT.1 (ax_cellT hT (q := 173) (g := 11) (ax_wc ax_WW1 ax_cg_173)), ?_⟩
  show ay_M50 0 (ay_at (ax_upd hp 718 (0) (ρ 0)) 175 0) (ay_at (ax_upd hp 718 (0) (ρ 0)) 177 0) (ay_at (ax_upd hp 718 (0) (ρ 0)) 176 0) (ay_at (ax_upd hp 718 (0) (ρ 0)) 181) (ay_at (ax_upd hp 718 (0) (ρ 0)) 173 18)
  have c0 : ay_at (ax_upd hp 718 (0) (ρ 0)) 175 0 = ay_at hp 175 0 := ay_upd_ne hT.1 (by decide) 0
  rw [c0]
  have c1 : ay_at (ax_upd hp 718 (0) (ρ 0)) 177 0 = some (ρ 0) := by rw [ay_upd_eq hT.1 rfl ho0, if_pos (by decide)]
  rw [c1]
  have c2 : ay_at (ax_upd hp 718 (0) (ρ 0)) 176 0 = ay_at hp 176 0 := ay_upd_ne hT.1 (by decide) 0
  rw [c2]
  have c3 : ay_at (ax_upd hp 718 (0) (ρ 0)) 181 = ay_at hp 181 := funext (fun j => ay_upd_ne hT.1 (by decide) j)
  rw [c3]
  have c4 : ay_at (ax_upd hp 718 (0) (ρ 0)) 173 18 = ay_at hp 173 18 := ay_upd_ne hT.1 (by decide) 18
  rw [c4]
  intro _
  refine ⟨by rw [ln]; exact pn, ?_, pe⟩
  show ρ 0 / 4 ≤ 9
  omega
theorem axq1_ra0 : ax_RO ax_wM1 (ax_XM 1) axu1_ra0 := by
  intro ρ hp hE hT
  obtain ⟨z, hz, z1, z2, z3⟩ := ax_gi hE 1 2147483649 2147483652 (by decide) rfl
  obtain ⟨z4, z5⟩ := ax_bi_pos z1 (by omega)
  have fz := ay_gfj hE 702 72 7 173 18 ax_m0 (ax_vlq rfl rfl) (ax_vlj rfl rfl)
  replace fz : ay_at hp 173 18 = some (ρ 1) := fz
  obtain ⟨o0, ho0⟩ := ay_some hT (q := 175) (g := 45) (n := 2) (ax_wc ax_WW1 ax_cg_175) (ax_wn ax_WW1 ax_cn_45) (j := 0 / 4) (Nat.le_of_ble_eq_true rfl)
  refine ⟨(fun y hy => by cases hy), _, List.mem_cons_self, ρ, fun _ _ => rfl, ax_px hE rfl (fun y hy => ?_)⟩
  cases List.mem_singleton.mp hy
  show ax_XF (ax_XM 1) (500 + 50) [710, 0, ρ 0] hp
  refine (ax_XF_wr (x := 50) (Nat.le_of_ble_eq_true rfl)).mpr ⟨ay_ex_upd hT.1 (ax_cellT hT (q := 175) (g := 45) (ax_wc ax_WW1 ax_cg_175)), ay_ex_upd hT.1 (ax_cellT hT (q := 177) (g := 47) (ax_wc ax_WW1 ax_cg_177)), ay_ex_upd hT.1 (ax_cellT hT (q := 176) (g := 46) (ax_wc ax_WW1 ax_cg_176)), ay_ex_upd hT.1 (ax_cellT hT (q := 181) (g := 51) (ax_wc ax_WW1 ax_cg_181)), ay_ex_upd hT.1 (ax_cellT hT (q := 173) (g := 11) (ax_wc ax_WW1 ax_cg_173)), ?_⟩
  show ay_M50 0 (ay_at (ax_upd hp 710 (0) (ρ 0)) 175 0) (ay_at (ax_upd hp 710 (0) (ρ 0)) 177 0) (ay_at (ax_upd hp 710 (0) (ρ 0)) 176 0) (ay_at (ax_upd hp 710 (0) (ρ 0)) 181) (ay_at (ax_upd hp 710 (0) (ρ 0)) 173 18)
  have c0 : ay_at (ax_upd hp 710 (0) (ρ 0)) 175 0 = some (ρ 0) := by rw [ay_upd_eq hT.1 rfl ho0, if_pos (by decide)]
  rw [c0]
  have c1 : ay_at (ax_upd hp 710 (0) (ρ 0)) 177 0 = ay_at hp 177 0 := ay_upd_ne hT.1 (by decide) 0
  rw [c1]
  have c2 : ay_at (ax_upd hp 710 (0) (ρ 0)) 176 0 = ay_at hp 176 0 := ay_upd_ne hT.1 (by decide) 0
  rw [c2]
  have c3 : ay_at (ax_upd hp 710 (0) (ρ 0)) 181 = ay_at hp 181 := funext (fun j => ay_upd_ne hT.1 (by decide) j)
  rw [c3]
  have c4 : ay_at (ax_upd hp 710 (0) (ρ 0)) 173 18 = ay_at hp 173 18 := ay_upd_ne hT.1 (by decide) 18
  rw [c4]
  intro e
  rw [fz] at e
  have e := Option.some.inj e
  omega
theorem axq1_ra1 : ax_RO ax_wM1 (ax_XM 1) axu1_ra1 := by
  intro ρ hp hE hT
  obtain ⟨p1, p2, p3, p4, p5, p⟩ : ay_ex hp 175 ∧ ay_ex hp 177 ∧ ay_ex hp 176 ∧ ay_ex hp 181 ∧ ay_ex hp 173 ∧ ay_M50 0 (ay_at hp 175 0) (ay_at hp 177 0) (ay_at hp 176 0) (ay_at hp 181) (ay_at hp 173 18) := (ax_XF_lt (x := 50) (Nat.le_of_ble_eq_true rfl)).mp (ax_gx hE (50, []) ax_m1)
  obtain ⟨x, hx, x1, x2, x3⟩ := ax_gi hE 0 2147483650 2147483658 (by decide) rfl
  obtain ⟨x4, x5⟩ := ax_bi_pos x1 (by omega)
  obtain ⟨l, hl, l1, l2, l3⟩ := ax_gi hE 2 2147483648 2147483648 (by decide) rfl
  obtain ⟨l4, l5⟩ := ax_bi_pos l1 (by omega)
  have fl := ay_gfj hE 714 0 11 176 0 ax_m2 (ax_vlq rfl rfl) (ax_vlj rfl rfl)
  replace fl : ay_at hp 176 0 = some (ρ 2) := fl
  have ll : ay_ln (ay_at hp 176 0) = l := by rw [fl, hl]; show 4 * l / 4 = l; omega
  obtain ⟨o0, ho0⟩ := ay_some hT (q := 175) (g := 45) (n := 2) (ax_wc ax_WW1 ax_cg_175) (ax_wn ax_WW1 ax_cn_45) (j := 0 / 4) (Nat.le_of_ble_eq_true rfl)
  refine ⟨(fun y hy => by cases hy), _, List.mem_cons_self, ρ, fun _ _ => rfl, ax_px hE rfl (fun y hy => ?_)⟩
  cases List.mem_singleton.mp hy
  show ax_XF (ax_XM 1) (500 + 50) [710, 0, ρ 0] hp
  refine (ax_XF_wr (x := 50) (Nat.le_of_ble_eq_true rfl)).mpr ⟨ay_ex_upd hT.1 (ax_cellT hT (q := 175) (g := 45) (ax_wc ax_WW1 ax_cg_175)), ay_ex_upd hT.1 (ax_cellT hT (q := 177) (g := 47) (ax_wc ax_WW1 ax_cg_177)), ay_ex_upd hT.1 (ax_cellT hT (q := 176) (g := 46) (ax_wc ax_WW1 ax_cg_176)), ay_ex_upd hT.1 (ax_cellT hT (q := 181) (g := 51) (ax_wc ax_WW1 ax_cg_181)), ay_ex_upd hT.1 (ax_cellT hT (q := 173) (g := 11) (ax_wc ax_WW1 ax_cg_173)), ?_⟩
  show ay_M50 0 (ay_at (ax_upd hp 710 (0) (ρ 0)) 175 0) (ay_at (ax_upd hp 710 (0) (ρ 0)) 177 0) (ay_at (ax_upd hp 710 (0) (ρ 0)) 176 0) (ay_at (ax_upd hp 710 (0) (ρ 0)) 181) (ay_at (ax_upd hp 710 (0) (ρ 0)) 173 18)
  have c0 : ay_at (ax_upd hp 710 (0) (ρ 0)) 175 0 = some (ρ 0) := by rw [ay_upd_eq hT.1 rfl ho0, if_pos (by decide)]
  rw [c0]
  have c1 : ay_at (ax_upd hp 710 (0) (ρ 0)) 177 0 = ay_at hp 177 0 := ay_upd_ne hT.1 (by decide) 0
  rw [c1]
  have c2 : ay_at (ax_upd hp 710 (0) (ρ 0)) 176 0 = ay_at hp 176 0 := ay_upd_ne hT.1 (by decide) 0
  rw [c2]
  have c3 : ay_at (ax_upd hp 710 (0) (ρ 0)) 181 = ay_at hp 181 := funext (fun j => ay_upd_ne hT.1 (by decide) j)
  rw [c3]
  have c4 : ay_at (ax_upd hp 710 (0) (ρ 0)) 173 18 = ay_at hp 173 18 := ay_upd_ne hT.1 (by decide) 18
  rw [c4]
  intro e
  obtain ⟨p7, p8, p9⟩ := p e
  refine ⟨?_, p8, fun j hj => ?_⟩
  · show ρ 0 / 4 ≤ 10
    omega
  · rw [ll] at hj
    omega
theorem axq1_ra2 : ax_RO ax_wM1 (ax_XM 1) axu1_ra2 := by
  intro ρ hp hE hT
  obtain ⟨l, hl⟩ : ∃ z, ay_ln (ay_at hp 176 0) = z := ⟨_, rfl⟩
  obtain ⟨r, hr⟩ : ∃ z, ay_ln (ay_at hp 173 23) = z := ⟨_, rfl⟩
  obtain ⟨s, hs⟩ : ∃ z, ay_ln (ay_at hp 173 24) = z := ⟨_, rfl⟩
  obtain ⟨t, ht⟩ : ∃ z, ay_ln (ay_at hp 173 25) = z := ⟨_, rfl⟩
  obtain ⟨ρ', h1, h2⟩ := ax_pn (K := (20 - l) + (1 - r) + (1 - s) + (1 - t) + 1) (xf := [(54, [3])]) hE (by decide) (fun ρ' h1 h2 x hx => by
    cases List.mem_singleton.mp hx
    refine (ax_XF_lt (x := 54) (Nat.le_of_ble_eq_true rfl)).mpr ⟨(ax_cellT hT (q := 176) (g := 46) (ax_wc ax_WW1 ax_cg_176)), (ax_cellT hT (q := 173) (g := 11) (ax_wc ax_WW1 ax_cg_173)), (ax_cellT hT (q := 173) (g := 11) (ax_wc ax_WW1 ax_cg_173)), (ax_cellT hT (q := 173) (g := 11) (ax_wc ax_WW1 ax_cg_173)), ?_⟩
    show (20 - ay_ln (ay_at hp 176 0)) + (1 - ay_ln (ay_at hp 173 23)) + (1 - ay_ln (ay_at hp 173 24)) + (1 - ay_ln (ay_at hp 173 25)) + 1 ≤ ρ' 0 / 4
    rw [h2, hl, hr, hs, ht]
    omega)
  exact ⟨(fun x hx => by cases hx), _, List.mem_cons_self, ρ', h1, h2⟩
theorem axq1_nt50 : ax_RO ax_wM1 (ax_XM 1) axu1_nt50 := by
  intro ρ hp hE hT
  have fn := ay_gfj hE 710 0 0 175 0 ax_m0 (ax_vlq rfl rfl) (ax_vlj rfl rfl)
  replace fn : ay_at hp 175 0 = some (0) := fn
  have ln : ay_ln (ay_at hp 175 0) = 0 := by rw [fn]; rfl
  have fr := ay_gfj hE 718 0 0 177 0 ax_m1 (ax_vlq rfl rfl) (ax_vlj rfl rfl)
  replace fr : ay_at hp 177 0 = some (0) := fr
  have lr : ay_ln (ay_at hp 177 0) = 0 := by rw [fr]; rfl
  have fl := ay_gfj hE 714 0 0 176 0 ax_m2 (ax_vlq rfl rfl) (ax_vlj rfl rfl)
  replace fl : ay_at hp 176 0 = some (0) := fl
  have ll : ay_ln (ay_at hp 176 0) = 0 := by rw [fl]; rfl
  refine ⟨(fun y hy => by cases hy), _, List.mem_cons_self, ρ, fun _ _ => rfl, ax_px hE rfl (fun y hy => ?_)⟩
  cases List.mem_singleton.mp hy
  refine (ax_XF_lt (x := 50) (Nat.le_of_ble_eq_true rfl)).mpr ⟨(ax_cellT hT (q := 175) (g := 45) (ax_wc ax_WW1 ax_cg_175)), (ax_cellT hT (q := 177) (g := 47) (ax_wc ax_WW1 ax_cg_177)), (ax_cellT hT (q := 176) (g := 46) (ax_wc ax_WW1 ax_cg_176)), (ax_cellT hT (q := 181) (g := 51) (ax_wc ax_WW1 ax_cg_181)), (ax_cellT hT (q := 173) (g := 11) (ax_wc ax_WW1 ax_cg_173)), ?_⟩
  intro _
  refine ⟨?_, ?_, fun j hj => ?_⟩
  · show ay_ln (ay_at hp 175 0) ≤ 10
    rw [ln]
    decide
  · show ay_ln (ay_at hp 177 0) ≤ 9
    rw [lr]
    decide
  · replace hj : j < 2 * ay_ln (ay_at hp 176 0) := hj
    rw [ll] at hj
    omega

theorem axq1_nt52 : ax_RO ax_wM1 (ax_XM 1) axu1_nt52 := by
  intro ρ hp hE hT
  have fr := ay_gfj hE 730 0 0 180 0 ax_m0 (ax_vlq rfl rfl) (ax_vlj rfl rfl)
  replace fr : ay_at hp 180 0 = some (0) := fr
  have lr : ay_ln (ay_at hp 180 0) = 0 := by rw [fr]; rfl
  have fu := ay_gfj hE 726 0 0 179 0 ax_m1 (ax_vlq rfl rfl) (ax_vlj rfl rfl)
  replace fu : ay_at hp 179 0 = some (0) := fu
  have lu : ay_ln (ay_at hp 179 0) = 0 := by rw [fu]; rfl
  refine ⟨(fun y hy => by cases hy), _, List.mem_cons_self, ρ, fun _ _ => rfl, ax_px hE rfl (fun y hy => ?_)⟩
  cases List.mem_singleton.mp hy
  refine (ax_XF_lt (x := 52) (Nat.le_of_ble_eq_true rfl)).mpr ⟨(ax_cellT hT (q := 182) (g := 52) (ax_wc ax_WW1 ax_cg_182)), (ax_cellT hT (q := 180) (g := 50) (ax_wc ax_WW1 ax_cg_180)), (ax_cellT hT (q := 179) (g := 49) (ax_wc ax_WW1 ax_cg_179)), (ax_cellT hT (q := 173) (g := 11) (ax_wc ax_WW1 ax_cg_173)), (ax_cellT hT (q := 173) (g := 11) (ax_wc ax_WW1 ax_cg_173)), ?_⟩
  refine ⟨fun _ k hk => ?_, fun _ => ⟨lr, lu⟩⟩
  replace hk : k ≤ ay_ln (ay_at hp 180 0) := hk
  rw [lr] at hk
  rw [show k = 0 by omega]
  exact fun z => by cases z
end
section
theorem axq1_fm1_1 : ax_RO ax_wM1 (ax_XM 1) axu1_fm1_1 := axqg_fm1_1 ax_WW1
theorem axq1_fm2_1 : ax_RO ax_wM1 (ax_XM 1) axu1_fm2_1 := axqg_fm2_1 ax_WW1
theorem axq1_fm1_2 : ax_RO ax_wM1 (ax_XM 1) axu1_fm1_2 := axqg_fm1_2 ax_WW1
theorem axq1_fm2_2 : ax_RO ax_wM1 (ax_XM 1) axu1_fm2_2 := axqg_fm2_2 ax_WW1
theorem axq1_fm1_3 : ax_RO ax_wM1 (ax_XM 1) axu1_fm1_3 := axqg_fm1_3 ax_WW1
theorem axq1_fm2_3 : ax_RO ax_wM1 (ax_XM 1) axu1_fm2_3 := axqg_fm2_3 ax_WW1
theorem axq1_fm1_4 : ax_RO ax_wM1 (ax_XM 1) axu1_fm1_4 := axqg_fm1_4 ax_WW1
theorem axq1_fm2_4 : ax_RO ax_wM1 (ax_XM 1) axu1_fm2_4 := axqg_fm2_4 ax_WW1
theorem axq1_co1y : ax_RO ax_wM1 (ax_XM 1) axu1_co1y := by
  intro ρ hp hE hT
  have j0 : ρ 0 % 4 = 1 := pz_gj hE 0 (Nat.le_of_ble_eq_true rfl) rfl
  obtain ⟨i1a, i1b, i1c, i1d⟩ := pz_gi hE 1 0 4294967295 (Nat.le_of_ble_eq_true rfl) rfl
  obtain ⟨i2a, i2b, i2c, i2d⟩ := pz_gi hE 2 2147483648 2147483847 (Nat.le_of_ble_eq_true rfl) rfl
  obtain ⟨i3a, i3b, i3c, i3d⟩ := pz_gi hE 3 2147483648 2147483747 (Nat.le_of_ble_eq_true rfl) rfl
  have c_ruled : ay_at hp 180 0 = some (ρ 3) := ay_gfj hE 730 0 15 180 0 ax_m1 (ax_vlq rfl rfl) (ax_vlj rfl rfl)
  have s1 : (0 / 4 + 2147483648) % 4294967296 + (ρ 3 / 4 + 2147483648) % 4294967296 = (ρ 2 / 4 + 2147483648) % 4294967296 + 2147483648 := pz_gs hE 0 15 11 ax_m2
  obtain ⟨-, -, F241⟩ : ay_ex hp 180 ∧ ay_ex hp 182 ∧ py_y241 0 (ρ 0) (ay_at hp 180 0) (ay_at hp 182) := (ax_XF_lt (x := 241) (Nat.le_of_ble_eq_true rfl)).mp (ax_gx hE (241, [3]) ax_m0)
  rw [c_ruled] at F241
  refine ⟨(fun y hy => by cases hy), _, List.mem_cons_self, ρ, fun _ _ => rfl, ax_px hE rfl (fun x hx => ?_)⟩
  cases List.mem_singleton.mp hx
  refine (ax_XF_wr (x := 243) (Nat.le_of_ble_eq_true rfl)).mpr ?_
  show ay_ex (ax_upd hp 738 (ρ 2) (ρ 1)) 180 ∧ ay_ex (ax_upd hp 738 (ρ 2) (ρ 1)) 182 ∧ py_y243 0 (ρ 0) (ρ 1) (ay_at (ax_upd hp 738 (ρ 2) (ρ 1)) 180 0) (ay_at (ax_upd hp 738 (ρ 2) (ρ 1)) 182)
  obtain ⟨o0, ho0⟩ := ay_some hT (q := 182) (g := 52) (n := 200) (ax_wc ax_WW1 ax_cg_182) (ax_wn ax_WW1 ax_cn_52) (j := ρ 2 / 4) (by omega)
  have u1 : ∀ q, q ≠ 182 → ay_at (ax_upd hp 738 (ρ 2) (ρ 1)) q = ay_at hp q := fun q hq => funext (fun j => ay_upd_ne hT.1 hq j)
  have u2 : ∀ j, ay_at (ax_upd hp 738 (ρ 2) (ρ 1)) 182 j = if j = ρ 2 / 4 then some (ρ 1) else ay_at hp 182 j := fun j => ay_upd_eq hT.1 rfl ho0 j
  refine ⟨ay_ex_upd hT.1 (ax_cellT hT (q := 180) (g := 50) (ax_wc ax_WW1 ax_cg_180)), ay_ex_upd hT.1 (ax_cellT hT (q := 182) (g := 52) (ax_wc ax_WW1 ax_cg_182)), ?_⟩
  rw [u1 180 (Nat.ne_of_beq_eq_false rfl)]
  rw [c_ruled]
  have ez : ρ 3 / 4 = (py_L (ρ 0 / 4)).length := F241.2.1
  refine ⟨⟨F241.1, F241.2.1, fun i c hc => ?_⟩, ?_⟩
  · have hi := (List.getElem?_eq_some_iff.mp hc).1
    rw [List.length_reverse] at hi
    rw [u2, if_neg (by omega)]
    exact F241.2.2 i c hc
  · rw [u2, if_pos (by omega)]

theorem axq1_co2y : ax_RO ax_wM1 (ax_XM 1) axu1_co2y := by
  intro ρ hp hE hT
  have j0 : ρ 0 % 4 = 1 := pz_gj hE 0 (Nat.le_of_ble_eq_true rfl) rfl
  obtain ⟨i1a, i1b, i1c, i1d⟩ := pz_gi hE 1 2147483648 2147484657 (Nat.le_of_ble_eq_true rfl) rfl
  obtain ⟨i2a, i2b, i2c, i2d⟩ := pz_gi hE 2 2147483648 2147483747 (Nat.le_of_ble_eq_true rfl) rfl
  obtain ⟨i3a, i3b, i3c, i3d⟩ := pz_gi hE 3 0 4294967295 (Nat.le_of_ble_eq_true rfl) rfl
  have c_ruled : ay_at hp 180 0 = some (ρ 2) := ay_gfj hE 730 0 11 180 0 ax_m1 (ax_vlq rfl rfl) (ax_vlj rfl rfl)
  have s1 : (ρ 2 / 4 + 2147483648) % 4294967296 + (4 / 4 + 2147483648) % 4294967296 = (ρ 3 / 4 + 2147483648) % 4294967296 + 2147483648 := pz_gs hE 11 4 15 ax_m2
  obtain ⟨-, -, F243⟩ : ay_ex hp 180 ∧ ay_ex hp 182 ∧ py_y243 0 (ρ 0) (ρ 1) (ay_at hp 180 0) (ay_at hp 182) := (ax_XF_lt (x := 243) (Nat.le_of_ble_eq_true rfl)).mp (ax_gx hE (243, [3, 7]) ax_m0)
  rw [c_ruled] at F243
  have hc4 : 4 * (ρ 1 / 4) = ρ 1 := by omega
  have h1L := F243.1.1
  have h3 : py_y243 0 (ρ 0) (4 * (ρ 1 / 4)) (some (ρ 2)) (ay_at hp 182) := by rw [hc4]; exact F243
  have hL : py_L (ρ 0 / 4 * 4096 + ρ 1 / 4) = ρ 1 / 4 :: py_L (ρ 0 / 4) := py_L_c h1L (by omega)
  obtain ⟨ρ', h1, h2⟩ := pz_pn1 (K := ρ 0 / 4 * 4096 + ρ 1 / 4) (xf := [(741, [730, 0, 15, 19]), (251, [19, 7, 3])]) hE (by decide) (fun ρ' h1 h2 x hx => by
    have q0 : ρ' 0 = ρ 0 := h1 0 (by decide)
    have q1 : ρ' 1 = ρ 1 := h1 1 (by decide)
    have q2 : ρ' 2 = ρ 2 := h1 2 (by decide)
    have q3 : ρ' 3 = ρ 3 := h1 3 (by decide)
    rcases List.mem_cons.mp hx with e | hx
    · subst e
      refine (ax_XF_wr (x := 241) (Nat.le_of_ble_eq_true rfl)).mpr ?_
      show ay_ex (ax_upd hp 730 (0) (ρ' 3)) 180 ∧ ay_ex (ax_upd hp 730 (0) (ρ' 3)) 182 ∧ py_y241 0 (ρ' 4) (ay_at (ax_upd hp 730 (0) (ρ' 3)) 180 0) (ay_at (ax_upd hp 730 (0) (ρ' 3)) 182)
      rw [q3, h2]
      obtain ⟨o0, ho0⟩ := ay_some hT (q := 180) (g := 50) (n := 2) (ax_wc ax_WW1 ax_cg_180) (ax_wn ax_WW1 ax_cn_50) (j := 0 / 4) (Nat.le_of_ble_eq_true rfl)
      have u1 : ∀ q, q ≠ 180 → ay_at (ax_upd hp 730 0 (ρ 3)) q = ay_at hp q := fun q hq => funext (fun j => ay_upd_ne hT.1 hq j)
      have u2 : ∀ j, ay_at (ax_upd hp 730 0 (ρ 3)) 180 j = if j = 0 then some (ρ 3) else ay_at hp 180 j := fun j => ay_upd_eq hT.1 rfl ho0 j
      refine ⟨ay_ex_upd hT.1 (ax_cellT hT (q := 180) (g := 50) (ax_wc ax_WW1 ax_cg_180)), ay_ex_upd hT.1 (ax_cellT hT (q := 182) (g := 52) (ax_wc ax_WW1 ax_cg_182)), ?_⟩
      rw [u2 0, if_pos rfl, u1 182 (Nat.ne_of_beq_eq_false rfl)]
      exact py_lay (c := ρ 1 / 4) h3 (by rw [pz_41]; exact hL) (by rw [pz_41]; omega) (show ρ 3 / 4 = ρ 2 / 4 + 1 by omega)
    cases List.mem_singleton.mp hx
    refine (ax_XF_lt (x := 251) (Nat.le_of_ble_eq_true rfl)).mpr ?_
    show py_251 (ρ' 4) (ρ' 1) (ρ' 0)
    rw [q0, q1, h2]
    unfold py_251
    rw [pz_41]
    exact hL)
  exact ⟨(fun y hy => by cases hy), _, List.mem_cons_self, ρ', h1, h2⟩

theorem axq1_pu4 : ax_RO ax_wM1 (ax_XM 1) axu1_pu4 := axqg_pu4 ax_WW1
theorem axq1_pu5O : ax_RO ax_wM1 (ax_XM 1) axu1_pu5O := axqg_pu5O ax_WW1
theorem axq1_pu5M : ax_RO ax_wM1 (ax_XM 1) axu1_pu5M := axqg_pu5M ax_WW1
theorem axq1_pu5B : ax_RO ax_wM1 (ax_XM 1) axu1_pu5B := axqg_pu5B ax_WW1
theorem axq1_pu6 : ax_RO ax_wM1 (ax_XM 1) axu1_pu6 := axqg_pu6 ax_WW1
theorem axq1_pu7 : ax_RO ax_wM1 (ax_XM 1) axu1_pu7 := axqg_pu7 ax_WW1
theorem axq1_lo4B : ax_RO ax_wM1 (ax_XM 1) axu1_lo4B := axqg_lo4B ax_WW1
theorem axq1_lo4M : ax_RO ax_wM1 (ax_XM 1) axu1_lo4M := axqg_lo4M ax_WW1
theorem axq1_lo6B : ax_RO ax_wM1 (ax_XM 1) axu1_lo6B := axqg_lo6B ax_WW1
theorem axq1_lp6B : ax_RO ax_wM1 (ax_XM 1) axu1_lp6B := axqg_lp6B ax_WW1
theorem axq1_lo6M : ax_RO ax_wM1 (ax_XM 1) axu1_lo6M := axqg_lo6M ax_WW1
theorem axq1_lp6M : ax_RO ax_wM1 (ax_XM 1) axu1_lp6M := axqg_lp6M ax_WW1
theorem axq1_cn2 : ax_RO ax_wM1 (ax_XM 1) axu1_cn2 := axqg_cn2 ax_WW1
theorem axq1_cn3 : ax_RO ax_wM1 (ax_XM 1) axu1_cn3 := axqg_cn3 ax_WW1
theorem axq1_cnE : ax_RO ax_wM1 (ax_XM 1) axu1_cnE := axqg_cnE ax_WW1
theorem axq1_cnF0 : ax_RO ax_wM1 (ax_XM 1) axu1_cnF0 := axqg_cnF0 ax_WW1
theorem axq1_cnF1 : ax_RO ax_wM1 (ax_XM 1) axu1_cnF1 := axqg_cnF1 ax_WW1
theorem axq1_cm6 : ax_RO ax_wM1 (ax_XM 1) axu1_cm6 := by
  intro ρ hp hE hT
  have j0 : ρ 0 % 4 = 1 := pz_gj hE 0 (Nat.le_of_ble_eq_true rfl) rfl
  have j1 : ρ 1 % 4 = 1 := pz_gj hE 1 (Nat.le_of_ble_eq_true rfl) rfl
  have j2 : ρ 2 % 4 = 1 := pz_gj hE 2 (Nat.le_of_ble_eq_true rfl) rfl
  have j3 : ρ 3 % 4 = 1 := pz_gj hE 3 (Nat.le_of_ble_eq_true rfl) rfl
  have j4 : ρ 4 % 4 = 1 := pz_gj hE 4 (Nat.le_of_ble_eq_true rfl) rfl
  have j5 : ρ 5 % 4 = 1 := pz_gj hE 5 (Nat.le_of_ble_eq_true rfl) rfl
  obtain ⟨i6a, i6b, i6c, i6d⟩ := pz_gi hE 6 2147484656 2147484656 (Nat.le_of_ble_eq_true rfl) rfl
  obtain ⟨-, -, F242⟩ : ay_ex hp 173 ∧ ay_ex hp 185 ∧ py_y242 (ρ 4) (ay_at hp 173 27) (ay_at hp 185) := (ax_XF_lt (x := 242) (Nat.le_of_ble_eq_true rfl)).mp (ax_gx hE (242, [19]) (by decide))
  obtain ⟨-, -, F241⟩ : ay_ex hp 180 ∧ ay_ex hp 182 ∧ py_y241 0 (ρ 5) (ay_at hp 180 0) (ay_at hp 182) := (ax_XF_lt (x := 241) (Nat.le_of_ble_eq_true rfl)).mp (ax_gx hE (241, [23]) (by decide))
  have F251 : py_251 (ρ 2) (ρ 6) (ρ 4) := (ax_XF_lt (x := 251) (Nat.le_of_ble_eq_true rfl)).mp (ax_gx hE (251, [11, 27, 19]) (by decide))
  have F251a : py_251 (ρ 5) (ρ 6) (ρ 3) := (ax_XF_lt (x := 251) (Nat.le_of_ble_eq_true rfl)).mp (ax_gx hE (251, [23, 27, 15]) (by decide))
  have F249 : py_249 (ρ 0) (ρ 1) (ρ 2) (ρ 3) := (ax_XF_lt (x := 249) (Nat.le_of_ble_eq_true rfl)).mp (ax_gx hE (249, [3, 7, 11, 15]) (by decide))
  refine ⟨(fun y hy => by cases hy), _, List.mem_cons_self, ρ, fun _ _ => rfl, ax_px hE rfl (fun x hx => ?_)⟩
  cases List.mem_singleton.mp hx
  refine (ax_XF_lt (x := 249) (Nat.le_of_ble_eq_true rfl)).mpr ?_
  show py_249 (ρ 0) (ρ 1) (ρ 4) (ρ 5)
  exact pm_cm6 F249 F251 F251a (by omega)

theorem axq1_cm7 : ax_RO ax_wM1 (ax_XM 1) axu1_cm7 := by
  intro ρ hp hE hT
  have j0 : ρ 0 % 4 = 1 := pz_gj hE 0 (Nat.le_of_ble_eq_true rfl) rfl
  have j1 : ρ 1 % 4 = 1 := pz_gj hE 1 (Nat.le_of_ble_eq_true rfl) rfl
  have j2 : ρ 2 % 4 = 1 := pz_gj hE 2 (Nat.le_of_ble_eq_true rfl) rfl
  have j3 : ρ 3 % 4 = 1 := pz_gj hE 3 (Nat.le_of_ble_eq_true rfl) rfl
  obtain ⟨i4a, i4b, i4c, i4d⟩ := pz_gi hE 4 2147483648 2147483648 (Nat.le_of_ble_eq_true rfl) rfl
  have c_opened : ay_at hp 173 27 = some (ρ 4) := ay_gfj hE 702 108 19 173 27 (by decide) (ax_vlq rfl rfl) (ax_vlj rfl rfl)
  obtain ⟨-, -, F242⟩ : ay_ex hp 173 ∧ ay_ex hp 185 ∧ py_y242 (ρ 2) (ay_at hp 173 27) (ay_at hp 185) := (ax_XF_lt (x := 242) (Nat.le_of_ble_eq_true rfl)).mp (ax_gx hE (242, [11]) (by decide))
  rw [c_opened] at F242
  obtain ⟨-, -, F241⟩ : ay_ex hp 180 ∧ ay_ex hp 182 ∧ py_y241 0 (ρ 3) (ay_at hp 180 0) (ay_at hp 182) := (ax_XF_lt (x := 241) (Nat.le_of_ble_eq_true rfl)).mp (ax_gx hE (241, [15]) (by decide))
  have F249 : py_249 (ρ 0) (ρ 1) (ρ 2) (ρ 3) := (ax_XF_lt (x := 249) (Nat.le_of_ble_eq_true rfl)).mp (ax_gx hE (249, [3, 7, 11, 15]) (by decide))
  refine ⟨(fun y hy => by cases hy), _, List.mem_cons_self, ρ, fun _ _ => rfl, ax_px hE rfl (fun x hx => ?_)⟩
  cases List.mem_singleton.mp hx
  refine (ax_XF_lt (x := 253) (Nat.le_of_ble_eq_true rfl)).mpr ?_
  show py_253 (ρ 0) (ρ 1) (ρ 2) (ρ 3)
  exact pm_cm7 F249 (by rw [py_none F242 (show ρ 4 / 4 = 0 by omega)]; decide)

theorem axq1_cm80 : ax_RO ax_wM1 (ax_XM 1) axu1_cm80 := by
  intro ρ hp hE hT
  have j0 : ρ 0 % 4 = 1 := pz_gj hE 0 (Nat.le_of_ble_eq_true rfl) rfl
  have j1 : ρ 1 % 4 = 1 := pz_gj hE 1 (Nat.le_of_ble_eq_true rfl) rfl
  have j2 : ρ 2 % 4 = 1 := pz_gj hE 2 (Nat.le_of_ble_eq_true rfl) rfl
  have j3 : ρ 3 % 4 = 1 := pz_gj hE 3 (Nat.le_of_ble_eq_true rfl) rfl
  obtain ⟨i4a, i4b, i4c, i4d⟩ := pz_gi hE 4 2147483649 2147483748 (Nat.le_of_ble_eq_true rfl) rfl
  obtain ⟨i5a, i5b, i5c, i5d⟩ := pz_gi hE 5 2147483648 2147483747 (Nat.le_of_ble_eq_true rfl) rfl
  obtain ⟨i6a, i6b, i6c, i6d⟩ := pz_gi hE 6 0 2147484655 (Nat.le_of_ble_eq_true rfl) rfl
  have c_opened : ay_at hp 173 27 = some (ρ 4) := ay_gfj hE 702 108 19 173 27 (by decide) (ax_vlq rfl rfl) (ax_vlj rfl rfl)
  have s1 : (ρ 5 / 4 + 2147483648) % 4294967296 + (4 / 4 + 2147483648) % 4294967296 = (ρ 4 / 4 + 2147483648) % 4294967296 + 2147483648 := pz_gs hE 23 4 19 (by decide)
  have c_open : ay_at hp 185 (ρ 5 / 4) = some (ρ 6) := ay_gf hE 750 23 27 185 (by decide) (ax_vlq rfl rfl)
  obtain ⟨-, -, F242⟩ : ay_ex hp 173 ∧ ay_ex hp 185 ∧ py_y242 (ρ 2) (ay_at hp 173 27) (ay_at hp 185) := (ax_XF_lt (x := 242) (Nat.le_of_ble_eq_true rfl)).mp (ax_gx hE (242, [11]) (by decide))
  rw [c_opened] at F242
  obtain ⟨-, -, F241⟩ : ay_ex hp 180 ∧ ay_ex hp 182 ∧ py_y241 0 (ρ 3) (ay_at hp 180 0) (ay_at hp 182) := (ax_XF_lt (x := 241) (Nat.le_of_ble_eq_true rfl)).mp (ax_gx hE (241, [15]) (by decide))
  have F249 : py_249 (ρ 0) (ρ 1) (ρ 2) (ρ 3) := (ax_XF_lt (x := 249) (Nat.le_of_ble_eq_true rfl)).mp (ax_gx hE (249, [3, 7, 11, 15]) (by decide))
  obtain ⟨c, T, t1, t2, t3, t4, t5, t6, t7⟩ := py_take (o := ρ 5 / 4) F242 (show ρ 4 / 4 = ρ 5 / 4 + 1 by omega)
  rw [c_open] at t3
  have te := Option.some.inj t3
  have tk : c = ρ 6 / 4 := by omega
  refine ⟨(fun y hy => by cases hy), _, List.mem_cons_self, ρ, fun _ _ => rfl, ax_px hE rfl (fun x hx => ?_)⟩
  cases List.mem_singleton.mp hx
  refine (ax_XF_lt (x := 253) (Nat.le_of_ble_eq_true rfl)).mpr ?_
  show py_253 (ρ 0) (ρ 1) (ρ 2) (ρ 3)
  exact pm_cm7 F249 (by rw [t1]; show c ≠ 1008; omega)

theorem axq1_cm81 : ax_RO ax_wM1 (ax_XM 1) axu1_cm81 := by
  intro ρ hp hE hT
  have j0 : ρ 0 % 4 = 1 := pz_gj hE 0 (Nat.le_of_ble_eq_true rfl) rfl
  have j1 : ρ 1 % 4 = 1 := pz_gj hE 1 (Nat.le_of_ble_eq_true rfl) rfl
  have j2 : ρ 2 % 4 = 1 := pz_gj hE 2 (Nat.le_of_ble_eq_true rfl) rfl
  have j3 : ρ 3 % 4 = 1 := pz_gj hE 3 (Nat.le_of_ble_eq_true rfl) rfl
  obtain ⟨i4a, i4b, i4c, i4d⟩ := pz_gi hE 4 2147483649 2147483748 (Nat.le_of_ble_eq_true rfl) rfl
  obtain ⟨i5a, i5b, i5c, i5d⟩ := pz_gi hE 5 2147483648 2147483747 (Nat.le_of_ble_eq_true rfl) rfl
  obtain ⟨i6a, i6b, i6c, i6d⟩ := pz_gi hE 6 2147484657 4294967295 (Nat.le_of_ble_eq_true rfl) rfl
  have c_opened : ay_at hp 173 27 = some (ρ 4) := ay_gfj hE 702 108 19 173 27 (by decide) (ax_vlq rfl rfl) (ax_vlj rfl rfl)
  have s1 : (ρ 5 / 4 + 2147483648) % 4294967296 + (4 / 4 + 2147483648) % 4294967296 = (ρ 4 / 4 + 2147483648) % 4294967296 + 2147483648 := pz_gs hE 23 4 19 (by decide)
  have c_open : ay_at hp 185 (ρ 5 / 4) = some (ρ 6) := ay_gf hE 750 23 27 185 (by decide) (ax_vlq rfl rfl)
  obtain ⟨-, -, F242⟩ : ay_ex hp 173 ∧ ay_ex hp 185 ∧ py_y242 (ρ 2) (ay_at hp 173 27) (ay_at hp 185) := (ax_XF_lt (x := 242) (Nat.le_of_ble_eq_true rfl)).mp (ax_gx hE (242, [11]) (by decide))
  rw [c_opened] at F242
  obtain ⟨-, -, F241⟩ : ay_ex hp 180 ∧ ay_ex hp 182 ∧ py_y241 0 (ρ 3) (ay_at hp 180 0) (ay_at hp 182) := (ax_XF_lt (x := 241) (Nat.le_of_ble_eq_true rfl)).mp (ax_gx hE (241, [15]) (by decide))
  have F249 : py_249 (ρ 0) (ρ 1) (ρ 2) (ρ 3) := (ax_XF_lt (x := 249) (Nat.le_of_ble_eq_true rfl)).mp (ax_gx hE (249, [3, 7, 11, 15]) (by decide))
  obtain ⟨c, T, t1, t2, t3, t4, t5, t6, t7⟩ := py_take (o := ρ 5 / 4) F242 (show ρ 4 / 4 = ρ 5 / 4 + 1 by omega)
  rw [c_open] at t3
  have te := Option.some.inj t3
  have tk : c = ρ 6 / 4 := by omega
  refine ⟨(fun y hy => by cases hy), _, List.mem_cons_self, ρ, fun _ _ => rfl, ax_px hE rfl (fun x hx => ?_)⟩
  cases List.mem_singleton.mp hx
  refine (ax_XF_lt (x := 253) (Nat.le_of_ble_eq_true rfl)).mpr ?_
  show py_253 (ρ 0) (ρ 1) (ρ 2) (ρ 3)
  exact pm_cm7 F249 (by rw [t1]; show c ≠ 1008; omega)

theorem axq1_cp3 : ax_RO ax_wM1 (ax_XM 1) axu1_cp3 := axqg_cp3 ax_WW1
theorem axq1_cp4 : ax_RO ax_wM1 (ax_XM 1) axu1_cp4 := axqg_cp4 ax_WW1
theorem axq1_cp5 : ax_RO ax_wM1 (ax_XM 1) axu1_cp5 := by
  intro ρ hp hE hT
  have j0 : ρ 0 % 4 = 1 := pz_gj hE 0 (Nat.le_of_ble_eq_true rfl) rfl
  have j1 : ρ 1 % 4 = 1 := pz_gj hE 1 (Nat.le_of_ble_eq_true rfl) rfl
  have j2 : ρ 2 % 4 = 1 := pz_gj hE 2 (Nat.le_of_ble_eq_true rfl) rfl
  have j3 : ρ 3 % 4 = 1 := pz_gj hE 3 (Nat.le_of_ble_eq_true rfl) rfl
  obtain ⟨-, -, -, -, -, F151⟩ : ay_ex hp 173 ∧ ay_ex hp 173 ∧ ay_ex hp 173 ∧ ay_ex hp 173 ∧ ay_ex hp 173 ∧ pz_y151 (ρ 0) (ρ 1) (ay_at hp 173 13) (ay_at hp 173 14) (ay_at hp 173 15) (ay_at hp 173 16) (ay_at hp 173 17) := (ax_XF_lt (x := 151) (Nat.le_of_ble_eq_true rfl)).mp (ax_gx hE (151, [3, 7]) (by decide))
  obtain ⟨-, -, -, -, -, -, -, -, -, -, -, F152⟩ : ay_ex hp 175 ∧ ay_ex hp 176 ∧ ay_ex hp 177 ∧ ay_ex hp 178 ∧ ay_ex hp 179 ∧ ay_ex hp 173 ∧ ay_ex hp 173 ∧ ay_ex hp 173 ∧ ay_ex hp 173 ∧ ay_ex hp 173 ∧ ay_ex hp 181 ∧ pz_y152 0 (ρ 0) (ρ 1) (ay_at hp 175 0) (ay_at hp 176 0) (ay_at hp 177 0) (ay_at hp 178 0) (ay_at hp 179 0) (ay_at hp 173 23) (ay_at hp 173 25) (ay_at hp 173 24) (ay_at hp 173 18) (ay_at hp 173 19) (ay_at hp 181) := (ax_XF_lt (x := 152) (Nat.le_of_ble_eq_true rfl)).mp (ax_gx hE (152, [3, 7]) (by decide))
  have F179 : pz7 (pz_gt (ρ 0)) (pz_gN (ρ 0)) ((ρ 1) / 4) 9 := (ax_XF_lt (x := 179) (Nat.le_of_ble_eq_true rfl)).mp (ax_gx hE (179, [3, 7]) (by decide))
  have F190 : (pz90 (pz_gt (ρ 0)) (pz_gN (ρ 0)) ((ρ 1) / 4) ((ρ 2) / 4) ∧ 1 ≤ (ρ 2) / 4) := (ax_XF_lt (x := 190) (Nat.le_of_ble_eq_true rfl)).mp (ax_gx hE (190, [3, 7, 11]) (by decide))
  have F193 : ((ρ 2) / 4 = 2 * ((ρ 3) / 4) ∧ 1 ≤ (ρ 3) / 4) := (ax_XF_lt (x := 193) (Nat.le_of_ble_eq_true rfl)).mp (ax_gx hE (193, [11, 15]) (by decide))
  have F168 : pz_kd (pz_gt (ρ 0)) (pz_gN (ρ 0)) (pz_p (pz_cF (ρ 0) (ρ 1))) = (164) / 4 := (ax_XF_lt (x := 168) (Nat.le_of_ble_eq_true rfl)).mp (ax_gx hE (168, [3, 7, 164]) (by decide))
  have st := pq_rs6 (pz_m50 F151 F152) F179 F190.1 F193.1 F193.2 (show _ = 41 from F168)
  obtain ⟨ρ', h1, h2⟩ := pz_pn1 (K := ρ 1 / 4 + 1) (xf := [(153, [3, 19]), (182, [7, 19]), (152, [3, 19]), (179, [3, 19]), (197, [3, 19, 15])]) hE (by decide) (fun ρ' h1 h2 x hx => by
    have q0 : ρ' 0 = ρ 0 := h1 0 (by decide)
    have q1 : ρ' 1 = ρ 1 := h1 1 (by decide)
    have q2 : ρ' 2 = ρ 2 := h1 2 (by decide)
    have q3 : ρ' 3 = ρ 3 := h1 3 (by decide)
    rcases List.mem_cons.mp hx with e | hx
    · subst e
      refine (ax_XF_lt (x := 153) (Nat.le_of_ble_eq_true rfl)).mpr ?_
      show ay_ex hp 173 ∧ pz_at (pz_gt (ρ' 0)) (pz_gN (ρ' 0)) (ay_ln (ay_at hp 173 13)) = pz_at (pz_gt (ρ' 0)) (pz_gN (ρ' 0)) (pz_p (pz_cF (ρ' 0) (ρ' 4)))
      rw [q0, h2]
      refine ⟨(ax_cellT hT (q := 173) (g := 11) (ax_wc ax_WW1 ax_cg_173)), ?_⟩
      exact pz_l153 (pz_41 _) st.1.1
    rcases List.mem_cons.mp hx with e | hx
    · subst e
      refine (ax_XF_lt (x := 182) (Nat.le_of_ble_eq_true rfl)).mpr ?_
      show (ρ' 4) / 4 = (ρ' 1) / 4 + 1
      rw [q1, h2]
      rw [pz_41]
    rcases List.mem_cons.mp hx with e | hx
    · subst e
      refine (ax_XF_lt (x := 152) (Nat.le_of_ble_eq_true rfl)).mpr ?_
      show ay_ex hp 175 ∧ ay_ex hp 176 ∧ ay_ex hp 177 ∧ ay_ex hp 178 ∧ ay_ex hp 179 ∧ ay_ex hp 173 ∧ ay_ex hp 173 ∧ ay_ex hp 173 ∧ ay_ex hp 173 ∧ ay_ex hp 173 ∧ ay_ex hp 181 ∧ pz_y152 0 (ρ' 0) (ρ' 4) (ay_at hp 175 0) (ay_at hp 176 0) (ay_at hp 177 0) (ay_at hp 178 0) (ay_at hp 179 0) (ay_at hp 173 23) (ay_at hp 173 25) (ay_at hp 173 24) (ay_at hp 173 18) (ay_at hp 173 19) (ay_at hp 181)
      rw [q0, h2]
      refine ⟨(ax_cellT hT (q := 175) (g := 45) (ax_wc ax_WW1 ax_cg_175)), (ax_cellT hT (q := 176) (g := 46) (ax_wc ax_WW1 ax_cg_176)), (ax_cellT hT (q := 177) (g := 47) (ax_wc ax_WW1 ax_cg_177)), (ax_cellT hT (q := 178) (g := 48) (ax_wc ax_WW1 ax_cg_178)), (ax_cellT hT (q := 179) (g := 49) (ax_wc ax_WW1 ax_cg_179)), (ax_cellT hT (q := 173) (g := 11) (ax_wc ax_WW1 ax_cg_173)), (ax_cellT hT (q := 173) (g := 11) (ax_wc ax_WW1 ax_cg_173)), (ax_cellT hT (q := 173) (g := 11) (ax_wc ax_WW1 ax_cg_173)), (ax_cellT hT (q := 173) (g := 11) (ax_wc ax_WW1 ax_cg_173)), (ax_cellT hT (q := 173) (g := 11) (ax_wc ax_WW1 ax_cg_173)), (ax_cellT hT (q := 181) (g := 51) (ax_wc ax_WW1 ax_cg_181)), ?_⟩
      exact pz_l152 (pz_41 _) st.1.2
    rcases List.mem_cons.mp hx with e | hx
    · subst e
      refine (ax_XF_lt (x := 179) (Nat.le_of_ble_eq_true rfl)).mpr ?_
      show pz7 (pz_gt (ρ' 0)) (pz_gN (ρ' 0)) ((ρ' 4) / 4) 9
      rw [q0, h2]
      rw [pz_41]
      exact st.2.1
    cases List.mem_singleton.mp hx
    refine (ax_XF_lt (x := 197) (Nat.le_of_ble_eq_true rfl)).mpr ?_
    show (pz90 (pz_gt (ρ' 0)) (pz_gN (ρ' 0)) ((ρ' 4) / 4) (pz_strip ((ρ' 3) / 4)) ∧ 1 ≤ (ρ' 3) / 4)
    rw [q0, q3, h2]
    exact ⟨pz_l197 (pz_41 _) st.2.2, F193.2⟩)
  exact ⟨(fun y hy => by cases hy), _, List.mem_cons_self, ρ', h1, h2⟩

theorem axq1_cp6 : ax_RO ax_wM1 (ax_XM 1) axu1_cp6 := axqg_cp6 ax_WW1
theorem axq1_cp7 : ax_RO ax_wM1 (ax_XM 1) axu1_cp7 := axqg_cp7 ax_WW1
theorem axq1_cq1 : ax_RO ax_wM1 (ax_XM 1) axu1_cq1 := by
  intro ρ hp hE hT
  have j0 : ρ 0 % 4 = 1 := pz_gj hE 0 (Nat.le_of_ble_eq_true rfl) rfl
  have j1 : ρ 1 % 4 = 1 := pz_gj hE 1 (Nat.le_of_ble_eq_true rfl) rfl
  have j2 : ρ 2 % 4 = 1 := pz_gj hE 2 (Nat.le_of_ble_eq_true rfl) rfl
  have j3 : ρ 3 % 4 = 1 := pz_gj hE 3 (Nat.le_of_ble_eq_true rfl) rfl
  have j4 : ρ 4 % 4 = 1 := pz_gj hE 4 (Nat.le_of_ble_eq_true rfl) rfl
  have j5 : ρ 5 % 4 = 1 := pz_gj hE 5 (Nat.le_of_ble_eq_true rfl) rfl
  obtain ⟨i6a, i6b, i6c, i6d⟩ := pz_gi hE 6 2147484651 2147484655 (Nat.le_of_ble_eq_true rfl) rfl
  obtain ⟨-, -, F242⟩ : ay_ex hp 173 ∧ ay_ex hp 185 ∧ py_y242 (ρ 4) (ay_at hp 173 27) (ay_at hp 185) := (ax_XF_lt (x := 242) (Nat.le_of_ble_eq_true rfl)).mp (ax_gx hE (242, [19]) (by decide))
  obtain ⟨-, -, F241⟩ : ay_ex hp 180 ∧ ay_ex hp 182 ∧ py_y241 0 (ρ 5) (ay_at hp 180 0) (ay_at hp 182) := (ax_XF_lt (x := 241) (Nat.le_of_ble_eq_true rfl)).mp (ax_gx hE (241, [23]) (by decide))
  have F251 : py_251 (ρ 2) (ρ 6) (ρ 4) := (ax_XF_lt (x := 251) (Nat.le_of_ble_eq_true rfl)).mp (ax_gx hE (251, [11, 27, 19]) (by decide))
  have F251a : py_251 (ρ 5) (ρ 6) (ρ 3) := (ax_XF_lt (x := 251) (Nat.le_of_ble_eq_true rfl)).mp (ax_gx hE (251, [23, 27, 15]) (by decide))
  have F250 : py_250 (4012) (ρ 0) (ρ 1) (ρ 2) (ρ 3) := (ax_XF_lt (x := 250) (Nat.le_of_ble_eq_true rfl)).mp (ax_gx hE (250, [4012, 3, 7, 11, 15]) (by decide))
  refine ⟨(fun y hy => by cases hy), _, List.mem_cons_self, ρ, fun _ _ => rfl, ax_px hE rfl (fun x hx => ?_)⟩
  cases List.mem_singleton.mp hx
  refine (ax_XF_lt (x := 250) (Nat.le_of_ble_eq_true rfl)).mpr ?_
  show py_250 (4012) (ρ 0) (ρ 1) (ρ 4) (ρ 5)
  exact pm_cq1 F250 F251 F251a (show 1 ≤ _ from py_bd_1 (by omega) (by omega))

theorem axq1_cq2 : ax_RO ax_wM1 (ax_XM 1) axu1_cq2 := axqg_cq2 ax_WW1
theorem axq1_cq3 : ax_RO ax_wM1 (ax_XM 1) axu1_cq3 := by
  intro ρ hp hE hT
  have j0 : ρ 0 % 4 = 1 := pz_gj hE 0 (Nat.le_of_ble_eq_true rfl) rfl
  have j1 : ρ 1 % 4 = 1 := pz_gj hE 1 (Nat.le_of_ble_eq_true rfl) rfl
  have j2 : ρ 2 % 4 = 1 := pz_gj hE 2 (Nat.le_of_ble_eq_true rfl) rfl
  have j3 : ρ 3 % 4 = 1 := pz_gj hE 3 (Nat.le_of_ble_eq_true rfl) rfl
  have j4 : ρ 4 % 4 = 1 := pz_gj hE 4 (Nat.le_of_ble_eq_true rfl) rfl
  have j5 : ρ 5 % 4 = 1 := pz_gj hE 5 (Nat.le_of_ble_eq_true rfl) rfl
  have j6 : ρ 6 % 4 = 1 := pz_gj hE 6 (Nat.le_of_ble_eq_true rfl) rfl
  have j7 : ρ 7 % 4 = 1 := pz_gj hE 7 (Nat.le_of_ble_eq_true rfl) rfl
  have j8 : ρ 8 % 4 = 1 := pz_gj hE 8 (Nat.le_of_ble_eq_true rfl) rfl
  have j9 : ρ 9 % 4 = 1 := pz_gj hE 9 (Nat.le_of_ble_eq_true rfl) rfl
  obtain ⟨-, -, -, -, -, F151⟩ : ay_ex hp 173 ∧ ay_ex hp 173 ∧ ay_ex hp 173 ∧ ay_ex hp 173 ∧ ay_ex hp 173 ∧ pz_y151 (ρ 0) (ρ 1) (ay_at hp 173 13) (ay_at hp 173 14) (ay_at hp 173 15) (ay_at hp 173 16) (ay_at hp 173 17) := (ax_XF_lt (x := 151) (Nat.le_of_ble_eq_true rfl)).mp (ax_gx hE (151, [3, 7]) (by decide))
  have F182 : (ρ 2) / 4 = (ρ 1) / 4 + 1 := (ax_XF_lt (x := 182) (Nat.le_of_ble_eq_true rfl)).mp (ax_gx hE (182, [7, 11]) (by decide))
  have F179 : pz7 (pz_gt (ρ 0)) (pz_gN (ρ 0)) ((ρ 1) / 4) 9 := (ax_XF_lt (x := 179) (Nat.le_of_ble_eq_true rfl)).mp (ax_gx hE (179, [3, 7]) (by decide))
  have F168 : pz_kd (pz_gt (ρ 0)) (pz_gN (ρ 0)) (pz_p (pz_cF (ρ 0) (ρ 1))) = (164) / 4 := (ax_XF_lt (x := 168) (Nat.le_of_ble_eq_true rfl)).mp (ax_gx hE (168, [3, 7, 164]) (by decide))
  have F190 : (pz90 (pz_gt (ρ 0)) (pz_gN (ρ 0)) ((ρ 1) / 4) ((ρ 3) / 4) ∧ 1 ≤ (ρ 3) / 4) := (ax_XF_lt (x := 190) (Nat.le_of_ble_eq_true rfl)).mp (ax_gx hE (190, [3, 7, 15]) (by decide))
  have F193 : ((ρ 3) / 4 = 2 * ((ρ 4) / 4) ∧ 1 ≤ (ρ 4) / 4) := (ax_XF_lt (x := 193) (Nat.le_of_ble_eq_true rfl)).mp (ax_gx hE (193, [15, 19]) (by decide))
  have F246 : py_y246 (pz_gt (ρ 0)) (pz_gN (ρ 0)) ((ρ 1) / 4) (ρ 5) (ρ 6) := (ax_XF_lt (x := 246) (Nat.le_of_ble_eq_true rfl)).mp (ax_gx hE (246, [3, 7, 23, 27]) (by decide))
  obtain ⟨-, -, F242⟩ : ay_ex hp 173 ∧ ay_ex hp 185 ∧ py_y242 (ρ 9) (ay_at hp 173 27) (ay_at hp 185) := (ax_XF_lt (x := 242) (Nat.le_of_ble_eq_true rfl)).mp (ax_gx hE (242, [39]) (by decide))
  obtain ⟨-, -, F241⟩ : ay_ex hp 180 ∧ ay_ex hp 182 ∧ py_y241 0 (ρ 8) (ay_at hp 180 0) (ay_at hp 182) := (ax_XF_lt (x := 241) (Nat.le_of_ble_eq_true rfl)).mp (ax_gx hE (241, [35]) (by decide))
  have F250 : py_250 (4012) (ρ 5) (ρ 6) (ρ 7) (ρ 8) := (ax_XF_lt (x := 250) (Nat.le_of_ble_eq_true rfl)).mp (ax_gx hE (250, [4012, 23, 27, 31, 35]) (by decide))
  have F251 : py_251 (ρ 7) (4036) (ρ 9) := (ax_XF_lt (x := 251) (Nat.le_of_ble_eq_true rfl)).mp (ax_gx hE (251, [31, 4036, 39]) (by decide))
  refine ⟨(fun y hy => by cases hy), _, List.mem_cons_self, ρ, fun _ _ => rfl, ax_px hE rfl (fun x hx => ?_)⟩
  cases List.mem_singleton.mp hx
  refine (ax_XF_lt (x := 247) (Nat.le_of_ble_eq_true rfl)).mpr ?_
  show py_247 (pz_gt (ρ 0)) (pz_gN (ρ 0)) ((ρ 2) / 4) (ρ 9) (ρ 8)
  exact pm_cq3 F179 (show _ = 41 from F168) F190.1 (by have h1 := F193.1; have h2 := F193.2; omega) F182 F246 F250 F251

theorem axq1_cq4 : ax_RO ax_wM1 (ax_XM 1) axu1_cq4 := by
  intro ρ hp hE hT
  have j0 : ρ 0 % 4 = 1 := pz_gj hE 0 (Nat.le_of_ble_eq_true rfl) rfl
  have j1 : ρ 1 % 4 = 1 := pz_gj hE 1 (Nat.le_of_ble_eq_true rfl) rfl
  obtain ⟨-, -, F242⟩ : ay_ex hp 173 ∧ ay_ex hp 185 ∧ py_y242 (ρ 0) (ay_at hp 173 27) (ay_at hp 185) := (ax_XF_lt (x := 242) (Nat.le_of_ble_eq_true rfl)).mp (ax_gx hE (242, [3]) (by decide))
  obtain ⟨-, -, F241⟩ : ay_ex hp 180 ∧ ay_ex hp 182 ∧ py_y241 0 (ρ 1) (ay_at hp 180 0) (ay_at hp 182) := (ax_XF_lt (x := 241) (Nat.le_of_ble_eq_true rfl)).mp (ax_gx hE (241, [7]) (by decide))
  refine ⟨(fun y hy => by cases hy), _, List.mem_cons_self, ρ, fun _ _ => rfl, ax_px hE rfl (fun x hx => ?_)⟩
  cases List.mem_singleton.mp hx
  refine (ax_XF_lt (x := 249) (Nat.le_of_ble_eq_true rfl)).mpr ?_
  show py_249 (ρ 0) (ρ 1) (ρ 0) (ρ 1)
  exact (rfl : py_neg _ _ = _)

theorem axq1_cq5 : ax_RO ax_wM1 (ax_XM 1) axu1_cq5 := by
  intro ρ hp hE hT
  have j0 : ρ 0 % 4 = 1 := pz_gj hE 0 (Nat.le_of_ble_eq_true rfl) rfl
  have j1 : ρ 1 % 4 = 1 := pz_gj hE 1 (Nat.le_of_ble_eq_true rfl) rfl
  have j2 : ρ 2 % 4 = 1 := pz_gj hE 2 (Nat.le_of_ble_eq_true rfl) rfl
  have j3 : ρ 3 % 4 = 1 := pz_gj hE 3 (Nat.le_of_ble_eq_true rfl) rfl
  have j4 : ρ 4 % 4 = 1 := pz_gj hE 4 (Nat.le_of_ble_eq_true rfl) rfl
  have j5 : ρ 5 % 4 = 1 := pz_gj hE 5 (Nat.le_of_ble_eq_true rfl) rfl
  obtain ⟨-, -, -, -, -, F151⟩ : ay_ex hp 173 ∧ ay_ex hp 173 ∧ ay_ex hp 173 ∧ ay_ex hp 173 ∧ ay_ex hp 173 ∧ pz_y151 (ρ 0) (ρ 1) (ay_at hp 173 13) (ay_at hp 173 14) (ay_at hp 173 15) (ay_at hp 173 16) (ay_at hp 173 17) := (ax_XF_lt (x := 151) (Nat.le_of_ble_eq_true rfl)).mp (ax_gx hE (151, [3, 7]) (by decide))
  have F247 : py_247 (pz_gt (ρ 0)) (pz_gN (ρ 0)) ((ρ 1) / 4) (ρ 2) (ρ 3) := (ax_XF_lt (x := 247) (Nat.le_of_ble_eq_true rfl)).mp (ax_gx hE (247, [3, 7, 11, 15]) (by decide))
  have F253 : py_253 (ρ 2) (ρ 3) (ρ 4) (ρ 5) := (ax_XF_lt (x := 253) (Nat.le_of_ble_eq_true rfl)).mp (ax_gx hE (253, [11, 15, 19, 23]) (by decide))
  obtain ⟨-, -, F242⟩ : ay_ex hp 173 ∧ ay_ex hp 185 ∧ py_y242 (ρ 4) (ay_at hp 173 27) (ay_at hp 185) := (ax_XF_lt (x := 242) (Nat.le_of_ble_eq_true rfl)).mp (ax_gx hE (242, [19]) (by decide))
  obtain ⟨-, -, F241⟩ : ay_ex hp 180 ∧ ay_ex hp 182 ∧ py_y241 0 (ρ 5) (ay_at hp 180 0) (ay_at hp 182) := (ax_XF_lt (x := 241) (Nat.le_of_ble_eq_true rfl)).mp (ax_gx hE (241, [23]) (by decide))
  refine ⟨(fun y hy => by cases hy), _, List.mem_cons_self, ρ, fun _ _ => rfl, ax_px hE rfl (fun x hx => ?_)⟩
  cases List.mem_singleton.mp hx
  refine (ax_XF_lt (x := 246) (Nat.le_of_ble_eq_true rfl)).mpr ?_
  show py_y246 (pz_gt (ρ 0)) (pz_gN (ρ 0)) ((ρ 1) / 4) (ρ 4) (ρ 5)
  exact pm_cq5 F247 F253

theorem axq1_mu0_5_40 : ax_RO ax_wM1 (ax_XM 1) axu1_mu0_5_40 := axqg_mu0_5_40 ax_WW1
theorem axq1_mu0_5_45 : ax_RO ax_wM1 (ax_XM 1) axu1_mu0_5_45 := axqg_mu0_5_45 ax_WW1
theorem axq1_mu0_6_40 : ax_RO ax_wM1 (ax_XM 1) axu1_mu0_6_40 := axqg_mu0_6_40 ax_WW1
theorem axq1_mu0_6_45 : ax_RO ax_wM1 (ax_XM 1) axu1_mu0_6_45 := axqg_mu0_6_45 ax_WW1
theorem axq1_mu0_7_40 : ax_RO ax_wM1 (ax_XM 1) axu1_mu0_7_40 := axqg_mu0_7_40 ax_WW1
theorem axq1_mu0_7_45 : ax_RO ax_wM1 (ax_XM 1) axu1_mu0_7_45 := axqg_mu0_7_45 ax_WW1
theorem axq1_mu1a : ax_RO ax_wM1 (ax_XM 1) axu1_mu1a := axqg_mu1a ax_WW1
theorem axq1_mu1b : ax_RO ax_wM1 (ax_XM 1) axu1_mu1b := axqg_mu1b ax_WW1
theorem axq1_mu2 : ax_RO ax_wM1 (ax_XM 1) axu1_mu2 := axqg_mu2 ax_WW1
theorem axq1_muD_40 : ax_RO ax_wM1 (ax_XM 1) axu1_muD_40 := axqg_muD_40 ax_WW1
theorem axq1_muD_5 : ax_RO ax_wM1 (ax_XM 1) axu1_muD_5 := axqg_muD_5 ax_WW1
theorem axq1_muD_2 : ax_RO ax_wM1 (ax_XM 1) axu1_muD_2 := axqg_muD_2 ax_WW1
theorem axq1_muD_3 : ax_RO ax_wM1 (ax_XM 1) axu1_muD_3 := axqg_muD_3 ax_WW1
theorem axq1_muD_4 : ax_RO ax_wM1 (ax_XM 1) axu1_muD_4 := axqg_muD_4 ax_WW1
theorem axq1_mu3_40 : ax_RO ax_wM1 (ax_XM 1) axu1_mu3_40 := axqg_mu3_40 ax_WW1
theorem axq1_mu3_5 : ax_RO ax_wM1 (ax_XM 1) axu1_mu3_5 := axqg_mu3_5 ax_WW1
theorem axq1_mu3_2 : ax_RO ax_wM1 (ax_XM 1) axu1_mu3_2 := axqg_mu3_2 ax_WW1
theorem axq1_mu3_3 : ax_RO ax_wM1 (ax_XM 1) axu1_mu3_3 := axqg_mu3_3 ax_WW1
theorem axq1_mu3_4 : ax_RO ax_wM1 (ax_XM 1) axu1_mu3_4 := axqg_mu3_4 ax_WW1
theorem axq1_mu3_1 : ax_RO ax_wM1 (ax_XM 1) axu1_mu3_1 := axqg_mu3_1 ax_WW1
theorem axq1_mu4 : ax_RO ax_wM1 (ax_XM 1) axu1_mu4 := by
  intro ρ hp hE hT
  have j0 : ρ 0 % 4 = 1 := pz_gj hE 0 (Nat.le_of_ble_eq_true rfl) rfl
  have j1 : ρ 1 % 4 = 1 := pz_gj hE 1 (Nat.le_of_ble_eq_true rfl) rfl
  obtain ⟨i2a, i2b, i2c, i2d⟩ := pz_gi hE 2 0 4294967295 (Nat.le_of_ble_eq_true rfl) rfl
  obtain ⟨i3a, i3b, i3c, i3d⟩ := pz_gi hE 3 2147483688 2147483688 (Nat.le_of_ble_eq_true rfl) rfl
  have c_units : ay_at hp 179 0 = some (ρ 3) := ay_gfj hE 726 0 15 179 0 ax_m4 (ax_vlq rfl rfl) (ax_vlj rfl rfl)
  obtain ⟨-, -, -, -, -, F151⟩ : ay_ex hp 173 ∧ ay_ex hp 173 ∧ ay_ex hp 173 ∧ ay_ex hp 173 ∧ ay_ex hp 173 ∧ pz_y151 (ρ 0) (ρ 1) (ay_at hp 173 13) (ay_at hp 173 14) (ay_at hp 173 15) (ay_at hp 173 16) (ay_at hp 173 17) := (ax_XF_lt (x := 151) (Nat.le_of_ble_eq_true rfl)).mp (ax_gx hE (151, [3, 7]) ax_m0)
  obtain ⟨-, -, -, -, -, -, -, -, -, -, -, F152⟩ : ay_ex hp 175 ∧ ay_ex hp 176 ∧ ay_ex hp 177 ∧ ay_ex hp 178 ∧ ay_ex hp 179 ∧ ay_ex hp 173 ∧ ay_ex hp 173 ∧ ay_ex hp 173 ∧ ay_ex hp 173 ∧ ay_ex hp 173 ∧ ay_ex hp 181 ∧ pz_y152 0 (ρ 0) (ρ 1) (ay_at hp 175 0) (ay_at hp 176 0) (ay_at hp 177 0) (ay_at hp 178 0) (ay_at hp 179 0) (ay_at hp 173 23) (ay_at hp 173 25) (ay_at hp 173 24) (ay_at hp 173 18) (ay_at hp 173 19) (ay_at hp 181) := (ax_XF_lt (x := 152) (Nat.le_of_ble_eq_true rfl)).mp (ax_gx hE (152, [3, 7]) ax_m1)
  rw [c_units] at F152
  have F178 : pz7 (pz_gt (ρ 0)) (pz_gN (ρ 0)) ((ρ 1) / 4) 8 := (ax_XF_lt (x := 178) (Nat.le_of_ble_eq_true rfl)).mp (ax_gx hE (178, [3, 7]) ax_m2)
  have F207 : pz107 (pz_gt (ρ 0)) (pz_gN (ρ 0)) ((ρ 1) / 4) ((ρ 2) / 4) := (ax_XF_lt (x := 207) (Nat.le_of_ble_eq_true rfl)).mp (ax_gx hE (207, [3, 7, 11]) ax_m3)
  refine ⟨(fun y hy => by cases hy), _, List.mem_cons_self, ρ, fun _ _ => rfl, ax_px hE rfl (fun x hx => ?_)⟩
  cases List.mem_singleton.mp hx
  refine (ax_XF_lt (x := 164) (Nat.le_of_ble_eq_true rfl)).mpr ?_
  show pz64 (pz_gt (ρ 0)) (pz_gN (ρ 0)) ((ρ 1) / 4) ((16) / 4)
  exact pq_ru4 (pz_m50 F151 F152) F178 F207 (show ρ 3 / 4 = 40 by omega)

theorem axq1_mu5 : ax_RO ax_wM1 (ax_XM 1) axu1_mu5 := axqg_mu5 ax_WW1
theorem axq1_mu6_40 : ax_RO ax_wM1 (ax_XM 1) axu1_mu6_40 := by
  intro ρ hp hE hT
  have j0 : ρ 0 % 4 = 1 := pz_gj hE 0 (Nat.le_of_ble_eq_true rfl) rfl
  have j1 : ρ 1 % 4 = 1 := pz_gj hE 1 (Nat.le_of_ble_eq_true rfl) rfl
  have j2 : ρ 2 % 4 = 1 := pz_gj hE 2 (Nat.le_of_ble_eq_true rfl) rfl
  obtain ⟨i3a, i3b, i3c, i3d⟩ := pz_gi hE 3 0 4294967295 (Nat.le_of_ble_eq_true rfl) rfl
  obtain ⟨i4a, i4b, i4c, i4d⟩ := pz_gi hE 4 2147483648 2147483687 (Nat.le_of_ble_eq_true rfl) rfl
  obtain ⟨i5a, i5b, i5c, i5d⟩ := pz_gi hE 5 2147483648 2147483653 (Nat.le_of_ble_eq_true rfl) rfl
  have c_deep : ay_at hp 173 28 = some (ρ 5) := ay_gfj hE 702 112 23 173 28 ax_m6 (ax_vlq rfl rfl) (ax_vlj rfl rfl)
  have c_units : ay_at hp 179 0 = some (ρ 4) := ay_gfj hE 726 0 19 179 0 ax_m7 (ax_vlq rfl rfl) (ax_vlj rfl rfl)
  have s1 : (ρ 4 / 4 + 2147483648) % 4294967296 + (4 / 4 + 2147483648) % 4294967296 = (ρ 3 / 4 + 2147483648) % 4294967296 + 2147483648 := pz_gs hE 19 4 15 ax_m8
  obtain ⟨-, -, -, -, -, F151⟩ : ay_ex hp 173 ∧ ay_ex hp 173 ∧ ay_ex hp 173 ∧ ay_ex hp 173 ∧ ay_ex hp 173 ∧ pz_y151 (ρ 0) (ρ 1) (ay_at hp 173 13) (ay_at hp 173 14) (ay_at hp 173 15) (ay_at hp 173 16) (ay_at hp 173 17) := (ax_XF_lt (x := 151) (Nat.le_of_ble_eq_true rfl)).mp (ax_gx hE (151, [3, 7]) ax_m0)
  obtain ⟨-, -, -, -, -, -, -, -, -, -, -, F152⟩ : ay_ex hp 175 ∧ ay_ex hp 176 ∧ ay_ex hp 177 ∧ ay_ex hp 178 ∧ ay_ex hp 179 ∧ ay_ex hp 173 ∧ ay_ex hp 173 ∧ ay_ex hp 173 ∧ ay_ex hp 173 ∧ ay_ex hp 173 ∧ ay_ex hp 181 ∧ pz_y152 0 (ρ 0) (ρ 1) (ay_at hp 175 0) (ay_at hp 176 0) (ay_at hp 177 0) (ay_at hp 178 0) (ay_at hp 179 0) (ay_at hp 173 23) (ay_at hp 173 25) (ay_at hp 173 24) (ay_at hp 173 18) (ay_at hp 173 19) (ay_at hp 181) := (ax_XF_lt (x := 152) (Nat.le_of_ble_eq_true rfl)).mp (ax_gx hE (152, [3, 7]) ax_m1)
  rw [c_units] at F152
  have F178 : pz7 (pz_gt (ρ 0)) (pz_gN (ρ 0)) ((ρ 1) / 4) 8 := (ax_XF_lt (x := 178) (Nat.le_of_ble_eq_true rfl)).mp (ax_gx hE (178, [3, 7]) ax_m2)
  have F207 : pz107 (pz_gt (ρ 0)) (pz_gN (ρ 0)) ((ρ 1) / 4) ((160) / 4) := (ax_XF_lt (x := 207) (Nat.le_of_ble_eq_true rfl)).mp (ax_gx hE (207, [3, 7, 160]) ax_m3)
  have F190 : (pz90 (pz_gt (ρ 0)) (pz_gN (ρ 0)) ((ρ 1) / 4) ((ρ 2) / 4) ∧ 1 ≤ (ρ 2) / 4) := (ax_XF_lt (x := 190) (Nat.le_of_ble_eq_true rfl)).mp (ax_gx hE (190, [3, 7, 11]) ax_m4)
  obtain ⟨-, F195⟩ : ay_ex hp 173 ∧ ay_ln (ay_at hp 173 28) = pz_dp ((ρ 2) / 4) := (ax_XF_lt (x := 195) (Nat.le_of_ble_eq_true rfl)).mp (ax_gx hE (195, [11]) ax_m5)
  rw [c_deep] at F195
  have hd : ρ 5 / 4 = pz_dp (ρ 2 / 4) := F195
  have st := pq_ru6o (pz_m50 F151 F152) F178 F207 F190.1 (by omega) (show ρ 4 / 4 ≤ 39 by omega)
  obtain ⟨ρ', h1, h2⟩ := pz_pn1 (K := ρ 1 / 4 + 1) (xf := [(652, [726, 0, 15, 3, 27]), (153, [3, 27]), (182, [7, 27]), (178, [3, 27]), (187, [3, 27, 11])]) hE (by decide) (fun ρ' h1 h2 x hx => by
    have q0 : ρ' 0 = ρ 0 := h1 0 (by decide)
    have q1 : ρ' 1 = ρ 1 := h1 1 (by decide)
    have q2 : ρ' 2 = ρ 2 := h1 2 (by decide)
    have q3 : ρ' 3 = ρ 3 := h1 3 (by decide)
    have q4 : ρ' 4 = ρ 4 := h1 4 (by decide)
    have q5 : ρ' 5 = ρ 5 := h1 5 (by decide)
    rcases List.mem_cons.mp hx with e | hx
    · subst e
      refine (ax_XF_wr (x := 152) (Nat.le_of_ble_eq_true rfl)).mpr ?_
      show ay_ex (ax_upd hp 726 (0) (ρ' 3)) 175 ∧ ay_ex (ax_upd hp 726 (0) (ρ' 3)) 176 ∧ ay_ex (ax_upd hp 726 (0) (ρ' 3)) 177 ∧ ay_ex (ax_upd hp 726 (0) (ρ' 3)) 178 ∧ ay_ex (ax_upd hp 726 (0) (ρ' 3)) 179 ∧ ay_ex (ax_upd hp 726 (0) (ρ' 3)) 173 ∧ ay_ex (ax_upd hp 726 (0) (ρ' 3)) 173 ∧ ay_ex (ax_upd hp 726 (0) (ρ' 3)) 173 ∧ ay_ex (ax_upd hp 726 (0) (ρ' 3)) 173 ∧ ay_ex (ax_upd hp 726 (0) (ρ' 3)) 173 ∧ ay_ex (ax_upd hp 726 (0) (ρ' 3)) 181 ∧ pz_y152 0 (ρ' 0) (ρ' 6) (ay_at (ax_upd hp 726 (0) (ρ' 3)) 175 0) (ay_at (ax_upd hp 726 (0) (ρ' 3)) 176 0) (ay_at (ax_upd hp 726 (0) (ρ' 3)) 177 0) (ay_at (ax_upd hp 726 (0) (ρ' 3)) 178 0) (ay_at (ax_upd hp 726 (0) (ρ' 3)) 179 0) (ay_at (ax_upd hp 726 (0) (ρ' 3)) 173 23) (ay_at (ax_upd hp 726 (0) (ρ' 3)) 173 25) (ay_at (ax_upd hp 726 (0) (ρ' 3)) 173 24) (ay_at (ax_upd hp 726 (0) (ρ' 3)) 173 18) (ay_at (ax_upd hp 726 (0) (ρ' 3)) 173 19) (ay_at (ax_upd hp 726 (0) (ρ' 3)) 181)
      rw [q0, q3, h2]
      obtain ⟨o0, ho0⟩ := ay_some hT (q := 179) (g := 49) (n := 2) (ax_wc ax_WW1 ax_cg_179) (ax_wn ax_WW1 ax_cn_49) (j := 0 / 4) (Nat.le_of_ble_eq_true rfl)
      have u1 : ∀ q, q ≠ 179 → ay_at (ax_upd hp 726 0 (ρ 3)) q = ay_at hp q := fun q hq => funext (fun j => ay_upd_ne hT.1 hq j)
      have u2 : ∀ j, ay_at (ax_upd hp 726 0 (ρ 3)) 179 j = if j = 0 then some (ρ 3) else ay_at hp 179 j := fun j => ay_upd_eq hT.1 rfl ho0 j
      refine ⟨ay_ex_upd hT.1 (ax_cellT hT (q := 175) (g := 45) (ax_wc ax_WW1 ax_cg_175)), ay_ex_upd hT.1 (ax_cellT hT (q := 176) (g := 46) (ax_wc ax_WW1 ax_cg_176)), ay_ex_upd hT.1 (ax_cellT hT (q := 177) (g := 47) (ax_wc ax_WW1 ax_cg_177)), ay_ex_upd hT.1 (ax_cellT hT (q := 178) (g := 48) (ax_wc ax_WW1 ax_cg_178)), ay_ex_upd hT.1 (ax_cellT hT (q := 179) (g := 49) (ax_wc ax_WW1 ax_cg_179)), ay_ex_upd hT.1 (ax_cellT hT (q := 173) (g := 11) (ax_wc ax_WW1 ax_cg_173)), ay_ex_upd hT.1 (ax_cellT hT (q := 173) (g := 11) (ax_wc ax_WW1 ax_cg_173)), ay_ex_upd hT.1 (ax_cellT hT (q := 173) (g := 11) (ax_wc ax_WW1 ax_cg_173)), ay_ex_upd hT.1 (ax_cellT hT (q := 173) (g := 11) (ax_wc ax_WW1 ax_cg_173)), ay_ex_upd hT.1 (ax_cellT hT (q := 173) (g := 11) (ax_wc ax_WW1 ax_cg_173)), ay_ex_upd hT.1 (ax_cellT hT (q := 181) (g := 51) (ax_wc ax_WW1 ax_cg_181)), ?_⟩
      rw [u1 175 (Nat.ne_of_beq_eq_false rfl), u1 176 (Nat.ne_of_beq_eq_false rfl), u1 177 (Nat.ne_of_beq_eq_false rfl), u1 178 (Nat.ne_of_beq_eq_false rfl), u2 0, if_pos rfl, u1 173 (Nat.ne_of_beq_eq_false rfl), u1 181 (Nat.ne_of_beq_eq_false rfl)]
      refine pz_l152 (pz_41 _) ?_
      show pz_dt _ _ _ _ _ (ρ 3 / 4) _ _ _ _ _ _ _
      rw [show ρ 3 / 4 = ρ 4 / 4 + 1 by omega]
      exact st.1.2
    rcases List.mem_cons.mp hx with e | hx
    · subst e
      refine (ax_XF_lt (x := 153) (Nat.le_of_ble_eq_true rfl)).mpr ?_
      show ay_ex hp 173 ∧ pz_at (pz_gt (ρ' 0)) (pz_gN (ρ' 0)) (ay_ln (ay_at hp 173 13)) = pz_at (pz_gt (ρ' 0)) (pz_gN (ρ' 0)) (pz_p (pz_cF (ρ' 0) (ρ' 6)))
      rw [q0, h2]
      refine ⟨(ax_cellT hT (q := 173) (g := 11) (ax_wc ax_WW1 ax_cg_173)), ?_⟩
      exact pz_l153 (pz_41 _) st.1.1
    rcases List.mem_cons.mp hx with e | hx
    · subst e
      refine (ax_XF_lt (x := 182) (Nat.le_of_ble_eq_true rfl)).mpr ?_
      show (ρ' 6) / 4 = (ρ' 1) / 4 + 1
      rw [q1, h2]
      rw [pz_41]
    rcases List.mem_cons.mp hx with e | hx
    · subst e
      refine (ax_XF_lt (x := 178) (Nat.le_of_ble_eq_true rfl)).mpr ?_
      show pz7 (pz_gt (ρ' 0)) (pz_gN (ρ' 0)) ((ρ' 6) / 4) 8
      rw [q0, h2]
      rw [pz_41]
      exact st.2.1
    cases List.mem_singleton.mp hx
    refine (ax_XF_lt (x := 187) (Nat.le_of_ble_eq_true rfl)).mpr ?_
    show (pz90 (pz_gt (ρ' 0)) (pz_gN (ρ' 0)) ((ρ' 6) / 4) (2 * ((ρ' 2) / 4)) ∧ 1 ≤ (ρ' 2) / 4)
    rw [q0, q2, h2]
    exact ⟨pz_l197 (pz_41 _) st.2.2, F190.2⟩)
  exact ⟨(fun y hy => by cases hy), _, List.mem_cons_self, ρ', h1, h2⟩

theorem axq1_mu6_5 : ax_RO ax_wM1 (ax_XM 1) axu1_mu6_5 := by
  intro ρ hp hE hT
  have j0 : ρ 0 % 4 = 1 := pz_gj hE 0 (Nat.le_of_ble_eq_true rfl) rfl
  have j1 : ρ 1 % 4 = 1 := pz_gj hE 1 (Nat.le_of_ble_eq_true rfl) rfl
  have j2 : ρ 2 % 4 = 1 := pz_gj hE 2 (Nat.le_of_ble_eq_true rfl) rfl
  obtain ⟨i3a, i3b, i3c, i3d⟩ := pz_gi hE 3 0 4294967295 (Nat.le_of_ble_eq_true rfl) rfl
  obtain ⟨i4a, i4b, i4c, i4d⟩ := pz_gi hE 4 2147483648 2147483687 (Nat.le_of_ble_eq_true rfl) rfl
  obtain ⟨i5a, i5b, i5c, i5d⟩ := pz_gi hE 5 2147483648 2147483653 (Nat.le_of_ble_eq_true rfl) rfl
  have c_deep : ay_at hp 173 28 = some (ρ 5) := ay_gfj hE 702 112 23 173 28 ax_m6 (ax_vlq rfl rfl) (ax_vlj rfl rfl)
  have c_units : ay_at hp 179 0 = some (ρ 4) := ay_gfj hE 726 0 19 179 0 ax_m7 (ax_vlq rfl rfl) (ax_vlj rfl rfl)
  have s1 : (ρ 4 / 4 + 2147483648) % 4294967296 + (4 / 4 + 2147483648) % 4294967296 = (ρ 3 / 4 + 2147483648) % 4294967296 + 2147483648 := pz_gs hE 19 4 15 ax_m8
  obtain ⟨-, -, -, -, -, F151⟩ : ay_ex hp 173 ∧ ay_ex hp 173 ∧ ay_ex hp 173 ∧ ay_ex hp 173 ∧ ay_ex hp 173 ∧ pz_y151 (ρ 0) (ρ 1) (ay_at hp 173 13) (ay_at hp 173 14) (ay_at hp 173 15) (ay_at hp 173 16) (ay_at hp 173 17) := (ax_XF_lt (x := 151) (Nat.le_of_ble_eq_true rfl)).mp (ax_gx hE (151, [3, 7]) ax_m0)
  obtain ⟨-, -, -, -, -, -, -, -, -, -, -, F152⟩ : ay_ex hp 175 ∧ ay_ex hp 176 ∧ ay_ex hp 177 ∧ ay_ex hp 178 ∧ ay_ex hp 179 ∧ ay_ex hp 173 ∧ ay_ex hp 173 ∧ ay_ex hp 173 ∧ ay_ex hp 173 ∧ ay_ex hp 173 ∧ ay_ex hp 181 ∧ pz_y152 0 (ρ 0) (ρ 1) (ay_at hp 175 0) (ay_at hp 176 0) (ay_at hp 177 0) (ay_at hp 178 0) (ay_at hp 179 0) (ay_at hp 173 23) (ay_at hp 173 25) (ay_at hp 173 24) (ay_at hp 173 18) (ay_at hp 173 19) (ay_at hp 181) := (ax_XF_lt (x := 152) (Nat.le_of_ble_eq_true rfl)).mp (ax_gx hE (152, [3, 7]) ax_m1)
  rw [c_units] at F152
  have F178 : pz7 (pz_gt (ρ 0)) (pz_gN (ρ 0)) ((ρ 1) / 4) 8 := (ax_XF_lt (x := 178) (Nat.le_of_ble_eq_true rfl)).mp (ax_gx hE (178, [3, 7]) ax_m2)
  have F207 : pz107 (pz_gt (ρ 0)) (pz_gN (ρ 0)) ((ρ 1) / 4) ((20) / 4) := (ax_XF_lt (x := 207) (Nat.le_of_ble_eq_true rfl)).mp (ax_gx hE (207, [3, 7, 20]) ax_m3)
  have F190 : (pz90 (pz_gt (ρ 0)) (pz_gN (ρ 0)) ((ρ 1) / 4) ((ρ 2) / 4) ∧ 1 ≤ (ρ 2) / 4) := (ax_XF_lt (x := 190) (Nat.le_of_ble_eq_true rfl)).mp (ax_gx hE (190, [3, 7, 11]) ax_m4)
  obtain ⟨-, F195⟩ : ay_ex hp 173 ∧ ay_ln (ay_at hp 173 28) = pz_dp ((ρ 2) / 4) := (ax_XF_lt (x := 195) (Nat.le_of_ble_eq_true rfl)).mp (ax_gx hE (195, [11]) ax_m5)
  rw [c_deep] at F195
  have hd : ρ 5 / 4 = pz_dp (ρ 2 / 4) := F195
  have st := pq_ru6m (pz_m50 F151 F152) F178 F207 F190.1 (by omega) (show ρ 4 / 4 ≤ 39 by omega)
  obtain ⟨ρ', h1, h2⟩ := pz_pn1 (K := ρ 1 / 4 + 1) (xf := [(652, [726, 0, 15, 3, 27]), (153, [3, 27]), (182, [7, 27]), (178, [3, 27]), (188, [3, 27, 11])]) hE (by decide) (fun ρ' h1 h2 x hx => by
    have q0 : ρ' 0 = ρ 0 := h1 0 (by decide)
    have q1 : ρ' 1 = ρ 1 := h1 1 (by decide)
    have q2 : ρ' 2 = ρ 2 := h1 2 (by decide)
    have q3 : ρ' 3 = ρ 3 := h1 3 (by decide)
    have q4 : ρ' 4 = ρ 4 := h1 4 (by decide)
    have q5 : ρ' 5 = ρ 5 := h1 5 (by decide)
    rcases List.mem_cons.mp hx with e | hx
    · subst e
      refine (ax_XF_wr (x := 152) (Nat.le_of_ble_eq_true rfl)).mpr ?_
      show ay_ex (ax_upd hp 726 (0) (ρ' 3)) 175 ∧ ay_ex (ax_upd hp 726 (0) (ρ' 3)) 176 ∧ ay_ex (ax_upd hp 726 (0) (ρ' 3)) 177 ∧ ay_ex (ax_upd hp 726 (0) (ρ' 3)) 178 ∧ ay_ex (ax_upd hp 726 (0) (ρ' 3)) 179 ∧ ay_ex (ax_upd hp 726 (0) (ρ' 3)) 173 ∧ ay_ex (ax_upd hp 726 (0) (ρ' 3)) 173 ∧ ay_ex (ax_upd hp 726 (0) (ρ' 3)) 173 ∧ ay_ex (ax_upd hp 726 (0) (ρ' 3)) 173 ∧ ay_ex (ax_upd hp 726 (0) (ρ' 3)) 173 ∧ ay_ex (ax_upd hp 726 (0) (ρ' 3)) 181 ∧ pz_y152 0 (ρ' 0) (ρ' 6) (ay_at (ax_upd hp 726 (0) (ρ' 3)) 175 0) (ay_at (ax_upd hp 726 (0) (ρ' 3)) 176 0) (ay_at (ax_upd hp 726 (0) (ρ' 3)) 177 0) (ay_at (ax_upd hp 726 (0) (ρ' 3)) 178 0) (ay_at (ax_upd hp 726 (0) (ρ' 3)) 179 0) (ay_at (ax_upd hp 726 (0) (ρ' 3)) 173 23) (ay_at (ax_upd hp 726 (0) (ρ' 3)) 173 25) (ay_at (ax_upd hp 726 (0) (ρ' 3)) 173 24) (ay_at (ax_upd hp 726 (0) (ρ' 3)) 173 18) (ay_at (ax_upd hp 726 (0) (ρ' 3)) 173 19) (ay_at (ax_upd hp 726 (0) (ρ' 3)) 181)
      rw [q0, q3, h2]
      obtain ⟨o0, ho0⟩ := ay_some hT (q := 179) (g := 49) (n := 2) (ax_wc ax_WW1 ax_cg_179) (ax_wn ax_WW1 ax_cn_49) (j := 0 / 4) (Nat.le_of_ble_eq_true rfl)
      have u1 : ∀ q, q ≠ 179 → ay_at (ax_upd hp 726 0 (ρ 3)) q = ay_at hp q := fun q hq => funext (fun j => ay_upd_ne hT.1 hq j)
      have u2 : ∀ j, ay_at (ax_upd hp 726 0 (ρ 3)) 179 j = if j = 0 then some (ρ 3) else ay_at hp 179 j := fun j => ay_upd_eq hT.1 rfl ho0 j
      refine ⟨ay_ex_upd hT.1 (ax_cellT hT (q := 175) (g := 45) (ax_wc ax_WW1 ax_cg_175)), ay_ex_upd hT.1 (ax_cellT hT (q := 176) (g := 46) (ax_wc ax_WW1 ax_cg_176)), ay_ex_upd hT.1 (ax_cellT hT (q := 177) (g := 47) (ax_wc ax_WW1 ax_cg_177)), ay_ex_upd hT.1 (ax_cellT hT (q := 178) (g := 48) (ax_wc ax_WW1 ax_cg_178)), ay_ex_upd hT.1 (ax_cellT hT (q := 179) (g := 49) (ax_wc ax_WW1 ax_cg_179)), ay_ex_upd hT.1 (ax_cellT hT (q := 173) (g := 11) (ax_wc ax_WW1 ax_cg_173)), ay_ex_upd hT.1 (ax_cellT hT (q := 173) (g := 11) (ax_wc ax_WW1 ax_cg_173)), ay_ex_upd hT.1 (ax_cellT hT (q := 173) (g := 11) (ax_wc ax_WW1 ax_cg_173)), ay_ex_upd hT.1 (ax_cellT hT (q := 173) (g := 11) (ax_wc ax_WW1 ax_cg_173)), ay_ex_upd hT.1 (ax_cellT hT (q := 173) (g := 11) (ax_wc ax_WW1 ax_cg_173)), ay_ex_upd hT.1 (ax_cellT hT (q := 181) (g := 51) (ax_wc ax_WW1 ax_cg_181)), ?_⟩
      rw [u1 175 (Nat.ne_of_beq_eq_false rfl), u1 176 (Nat.ne_of_beq_eq_false rfl), u1 177 (Nat.ne_of_beq_eq_false rfl), u1 178 (Nat.ne_of_beq_eq_false rfl), u2 0, if_pos rfl, u1 173 (Nat.ne_of_beq_eq_false rfl), u1 181 (Nat.ne_of_beq_eq_false rfl)]
      refine pz_l152 (pz_41 _) ?_
      show pz_dt _ _ _ _ _ (ρ 3 / 4) _ _ _ _ _ _ _
      rw [show ρ 3 / 4 = ρ 4 / 4 + 1 by omega]
      exact st.1.2
    rcases List.mem_cons.mp hx with e | hx
    · subst e
      refine (ax_XF_lt (x := 153) (Nat.le_of_ble_eq_true rfl)).mpr ?_
      show ay_ex hp 173 ∧ pz_at (pz_gt (ρ' 0)) (pz_gN (ρ' 0)) (ay_ln (ay_at hp 173 13)) = pz_at (pz_gt (ρ' 0)) (pz_gN (ρ' 0)) (pz_p (pz_cF (ρ' 0) (ρ' 6)))
      rw [q0, h2]
      refine ⟨(ax_cellT hT (q := 173) (g := 11) (ax_wc ax_WW1 ax_cg_173)), ?_⟩
      exact pz_l153 (pz_41 _) st.1.1
    rcases List.mem_cons.mp hx with e | hx
    · subst e
      refine (ax_XF_lt (x := 182) (Nat.le_of_ble_eq_true rfl)).mpr ?_
      show (ρ' 6) / 4 = (ρ' 1) / 4 + 1
      rw [q1, h2]
      rw [pz_41]
    rcases List.mem_cons.mp hx with e | hx
    · subst e
      refine (ax_XF_lt (x := 178) (Nat.le_of_ble_eq_true rfl)).mpr ?_
      show pz7 (pz_gt (ρ' 0)) (pz_gN (ρ' 0)) ((ρ' 6) / 4) 8
      rw [q0, h2]
      rw [pz_41]
      exact st.2.1
    cases List.mem_singleton.mp hx
    refine (ax_XF_lt (x := 188) (Nat.le_of_ble_eq_true rfl)).mpr ?_
    show (pz90 (pz_gt (ρ' 0)) (pz_gN (ρ' 0)) ((ρ' 6) / 4) (2 * ((ρ' 2) / 4) + 1) ∧ 1 ≤ (ρ' 2) / 4)
    rw [q0, q2, h2]
    exact ⟨pz_l197 (pz_41 _) st.2.2, F190.2⟩)
  exact ⟨(fun y hy => by cases hy), _, List.mem_cons_self, ρ', h1, h2⟩

theorem axq1_mu6_1 : ax_RO ax_wM1 (ax_XM 1) axu1_mu6_1 := by
  intro ρ hp hE hT
  have j0 : ρ 0 % 4 = 1 := pz_gj hE 0 (Nat.le_of_ble_eq_true rfl) rfl
  have j1 : ρ 1 % 4 = 1 := pz_gj hE 1 (Nat.le_of_ble_eq_true rfl) rfl
  have j2 : ρ 2 % 4 = 1 := pz_gj hE 2 (Nat.le_of_ble_eq_true rfl) rfl
  obtain ⟨i3a, i3b, i3c, i3d⟩ := pz_gi hE 3 0 4294967295 (Nat.le_of_ble_eq_true rfl) rfl
  obtain ⟨i4a, i4b, i4c, i4d⟩ := pz_gi hE 4 2147483648 2147483687 (Nat.le_of_ble_eq_true rfl) rfl
  obtain ⟨i5a, i5b, i5c, i5d⟩ := pz_gi hE 5 2147483648 2147483653 (Nat.le_of_ble_eq_true rfl) rfl
  have c_deep : ay_at hp 173 28 = some (ρ 5) := ay_gfj hE 702 112 23 173 28 ax_m6 (ax_vlq rfl rfl) (ax_vlj rfl rfl)
  have c_units : ay_at hp 179 0 = some (ρ 4) := ay_gfj hE 726 0 19 179 0 ax_m7 (ax_vlq rfl rfl) (ax_vlj rfl rfl)
  have s1 : (ρ 4 / 4 + 2147483648) % 4294967296 + (4 / 4 + 2147483648) % 4294967296 = (ρ 3 / 4 + 2147483648) % 4294967296 + 2147483648 := pz_gs hE 19 4 15 ax_m8
  obtain ⟨-, -, -, -, -, F151⟩ : ay_ex hp 173 ∧ ay_ex hp 173 ∧ ay_ex hp 173 ∧ ay_ex hp 173 ∧ ay_ex hp 173 ∧ pz_y151 (ρ 0) (ρ 1) (ay_at hp 173 13) (ay_at hp 173 14) (ay_at hp 173 15) (ay_at hp 173 16) (ay_at hp 173 17) := (ax_XF_lt (x := 151) (Nat.le_of_ble_eq_true rfl)).mp (ax_gx hE (151, [3, 7]) ax_m0)
  obtain ⟨-, -, -, -, -, -, -, -, -, -, -, F152⟩ : ay_ex hp 175 ∧ ay_ex hp 176 ∧ ay_ex hp 177 ∧ ay_ex hp 178 ∧ ay_ex hp 179 ∧ ay_ex hp 173 ∧ ay_ex hp 173 ∧ ay_ex hp 173 ∧ ay_ex hp 173 ∧ ay_ex hp 173 ∧ ay_ex hp 181 ∧ pz_y152 0 (ρ 0) (ρ 1) (ay_at hp 175 0) (ay_at hp 176 0) (ay_at hp 177 0) (ay_at hp 178 0) (ay_at hp 179 0) (ay_at hp 173 23) (ay_at hp 173 25) (ay_at hp 173 24) (ay_at hp 173 18) (ay_at hp 173 19) (ay_at hp 181) := (ax_XF_lt (x := 152) (Nat.le_of_ble_eq_true rfl)).mp (ax_gx hE (152, [3, 7]) ax_m1)
  rw [c_units] at F152
  have F178 : pz7 (pz_gt (ρ 0)) (pz_gN (ρ 0)) ((ρ 1) / 4) 8 := (ax_XF_lt (x := 178) (Nat.le_of_ble_eq_true rfl)).mp (ax_gx hE (178, [3, 7]) ax_m2)
  have F207 : pz107 (pz_gt (ρ 0)) (pz_gN (ρ 0)) ((ρ 1) / 4) ((4) / 4) := (ax_XF_lt (x := 207) (Nat.le_of_ble_eq_true rfl)).mp (ax_gx hE (207, [3, 7, 4]) ax_m3)
  have F190 : (pz90 (pz_gt (ρ 0)) (pz_gN (ρ 0)) ((ρ 1) / 4) ((ρ 2) / 4) ∧ 1 ≤ (ρ 2) / 4) := (ax_XF_lt (x := 190) (Nat.le_of_ble_eq_true rfl)).mp (ax_gx hE (190, [3, 7, 11]) ax_m4)
  obtain ⟨-, F195⟩ : ay_ex hp 173 ∧ ay_ln (ay_at hp 173 28) = pz_dp ((ρ 2) / 4) := (ax_XF_lt (x := 195) (Nat.le_of_ble_eq_true rfl)).mp (ax_gx hE (195, [11]) ax_m5)
  rw [c_deep] at F195
  have hd : ρ 5 / 4 = pz_dp (ρ 2 / 4) := F195
  have st := pq_ru6u (pz_m50 F151 F152) F178 F207 (by decide) (by decide) F190.1 (by omega) (show ρ 4 / 4 ≤ 39 by omega)
  obtain ⟨ρ', h1, h2⟩ := pz_pn1 (K := ρ 1 / 4 + 1) (xf := [(652, [726, 0, 15, 3, 27]), (153, [3, 27]), (182, [7, 27]), (179, [3, 27]), (197, [3, 27, 11])]) hE (by decide) (fun ρ' h1 h2 x hx => by
    have q0 : ρ' 0 = ρ 0 := h1 0 (by decide)
    have q1 : ρ' 1 = ρ 1 := h1 1 (by decide)
    have q2 : ρ' 2 = ρ 2 := h1 2 (by decide)
    have q3 : ρ' 3 = ρ 3 := h1 3 (by decide)
    have q4 : ρ' 4 = ρ 4 := h1 4 (by decide)
    have q5 : ρ' 5 = ρ 5 := h1 5 (by decide)
    rcases List.mem_cons.mp hx with e | hx
    · subst e
      refine (ax_XF_wr (x := 152) (Nat.le_of_ble_eq_true rfl)).mpr ?_
      show ay_ex (ax_upd hp 726 (0) (ρ' 3)) 175 ∧ ay_ex (ax_upd hp 726 (0) (ρ' 3)) 176 ∧ ay_ex (ax_upd hp 726 (0) (ρ' 3)) 177 ∧ ay_ex (ax_upd hp 726 (0) (ρ' 3)) 178 ∧ ay_ex (ax_upd hp 726 (0) (ρ' 3)) 179 ∧ ay_ex (ax_upd hp 726 (0) (ρ' 3)) 173 ∧ ay_ex (ax_upd hp 726 (0) (ρ' 3)) 173 ∧ ay_ex (ax_upd hp 726 (0) (ρ' 3)) 173 ∧ ay_ex (ax_upd hp 726 (0) (ρ' 3)) 173 ∧ ay_ex (ax_upd hp 726 (0) (ρ' 3)) 173 ∧ ay_ex (ax_upd hp 726 (0) (ρ' 3)) 181 ∧ pz_y152 0 (ρ' 0) (ρ' 6) (ay_at (ax_upd hp 726 (0) (ρ' 3)) 175 0) (ay_at (ax_upd hp 726 (0) (ρ' 3)) 176 0) (ay_at (ax_upd hp 726 (0) (ρ' 3)) 177 0) (ay_at (ax_upd hp 726 (0) (ρ' 3)) 178 0) (ay_at (ax_upd hp 726 (0) (ρ' 3)) 179 0) (ay_at (ax_upd hp 726 (0) (ρ' 3)) 173 23) (ay_at (ax_upd hp 726 (0) (ρ' 3)) 173 25) (ay_at (ax_upd hp 726 (0) (ρ' 3)) 173 24) (ay_at (ax_upd hp 726 (0) (ρ' 3)) 173 18) (ay_at (ax_upd hp 726 (0) (ρ' 3)) 173 19) (ay_at (ax_upd hp 726 (0) (ρ' 3)) 181)
      rw [q0, q3, h2]
      obtain ⟨o0, ho0⟩ := ay_some hT (q := 179) (g := 49) (n := 2) (ax_wc ax_WW1 ax_cg_179) (ax_wn ax_WW1 ax_cn_49) (j := 0 / 4) (Nat.le_of_ble_eq_true rfl)
      have u1 : ∀ q, q ≠ 179 → ay_at (ax_upd hp 726 0 (ρ 3)) q = ay_at hp q := fun q hq => funext (fun j => ay_upd_ne hT.1 hq j)
      have u2 : ∀ j, ay_at (ax_upd hp 726 0 (ρ 3)) 179 j = if j = 0 then some (ρ 3) else ay_at hp 179 j := fun j => ay_upd_eq hT.1 rfl ho0 j
      refine ⟨ay_ex_upd hT.1 (ax_cellT hT (q := 175) (g := 45) (ax_wc ax_WW1 ax_cg_175)), ay_ex_upd hT.1 (ax_cellT hT (q := 176) (g := 46) (ax_wc ax_WW1 ax_cg_176)), ay_ex_upd hT.1 (ax_cellT hT (q := 177) (g := 47) (ax_wc ax_WW1 ax_cg_177)), ay_ex_upd hT.1 (ax_cellT hT (q := 178) (g := 48) (ax_wc ax_WW1 ax_cg_178)), ay_ex_upd hT.1 (ax_cellT hT (q := 179) (g := 49) (ax_wc ax_WW1 ax_cg_179)), ay_ex_upd hT.1 (ax_cellT hT (q := 173) (g := 11) (ax_wc ax_WW1 ax_cg_173)), ay_ex_upd hT.1 (ax_cellT hT (q := 173) (g := 11) (ax_wc ax_WW1 ax_cg_173)), ay_ex_upd hT.1 (ax_cellT hT (q := 173) (g := 11) (ax_wc ax_WW1 ax_cg_173)), ay_ex_upd hT.1 (ax_cellT hT (q := 173) (g := 11) (ax_wc ax_WW1 ax_cg_173)), ay_ex_upd hT.1 (ax_cellT hT (q := 173) (g := 11) (ax_wc ax_WW1 ax_cg_173)), ay_ex_upd hT.1 (ax_cellT hT (q := 181) (g := 51) (ax_wc ax_WW1 ax_cg_181)), ?_⟩
      rw [u1 175 (Nat.ne_of_beq_eq_false rfl), u1 176 (Nat.ne_of_beq_eq_false rfl), u1 177 (Nat.ne_of_beq_eq_false rfl), u1 178 (Nat.ne_of_beq_eq_false rfl), u2 0, if_pos rfl, u1 173 (Nat.ne_of_beq_eq_false rfl), u1 181 (Nat.ne_of_beq_eq_false rfl)]
      refine pz_l152 (pz_41 _) ?_
      show pz_dt _ _ _ _ _ (ρ 3 / 4) _ _ _ _ _ _ _
      rw [show ρ 3 / 4 = ρ 4 / 4 + 1 by omega]
      exact st.1.2
    rcases List.mem_cons.mp hx with e | hx
    · subst e
      refine (ax_XF_lt (x := 153) (Nat.le_of_ble_eq_true rfl)).mpr ?_
      show ay_ex hp 173 ∧ pz_at (pz_gt (ρ' 0)) (pz_gN (ρ' 0)) (ay_ln (ay_at hp 173 13)) = pz_at (pz_gt (ρ' 0)) (pz_gN (ρ' 0)) (pz_p (pz_cF (ρ' 0) (ρ' 6)))
      rw [q0, h2]
      refine ⟨(ax_cellT hT (q := 173) (g := 11) (ax_wc ax_WW1 ax_cg_173)), ?_⟩
      exact pz_l153 (pz_41 _) st.1.1
    rcases List.mem_cons.mp hx with e | hx
    · subst e
      refine (ax_XF_lt (x := 182) (Nat.le_of_ble_eq_true rfl)).mpr ?_
      show (ρ' 6) / 4 = (ρ' 1) / 4 + 1
      rw [q1, h2]
      rw [pz_41]
    rcases List.mem_cons.mp hx with e | hx
    · subst e
      refine (ax_XF_lt (x := 179) (Nat.le_of_ble_eq_true rfl)).mpr ?_
      show pz7 (pz_gt (ρ' 0)) (pz_gN (ρ' 0)) ((ρ' 6) / 4) 9
      rw [q0, h2]
      rw [pz_41]
      exact st.2.1
    cases List.mem_singleton.mp hx
    refine (ax_XF_lt (x := 197) (Nat.le_of_ble_eq_true rfl)).mpr ?_
    show (pz90 (pz_gt (ρ' 0)) (pz_gN (ρ' 0)) ((ρ' 6) / 4) (pz_strip ((ρ' 2) / 4)) ∧ 1 ≤ (ρ' 2) / 4)
    rw [q0, q2, h2]
    exact ⟨pz_l197 (pz_41 _) st.2.2, F190.2⟩)
  exact ⟨(fun y hy => by cases hy), _, List.mem_cons_self, ρ', h1, h2⟩

theorem axq1_mu6_2 : ax_RO ax_wM1 (ax_XM 1) axu1_mu6_2 := by
  intro ρ hp hE hT
  have j0 : ρ 0 % 4 = 1 := pz_gj hE 0 (Nat.le_of_ble_eq_true rfl) rfl
  have j1 : ρ 1 % 4 = 1 := pz_gj hE 1 (Nat.le_of_ble_eq_true rfl) rfl
  have j2 : ρ 2 % 4 = 1 := pz_gj hE 2 (Nat.le_of_ble_eq_true rfl) rfl
  obtain ⟨i3a, i3b, i3c, i3d⟩ := pz_gi hE 3 0 4294967295 (Nat.le_of_ble_eq_true rfl) rfl
  obtain ⟨i4a, i4b, i4c, i4d⟩ := pz_gi hE 4 2147483648 2147483687 (Nat.le_of_ble_eq_true rfl) rfl
  obtain ⟨i5a, i5b, i5c, i5d⟩ := pz_gi hE 5 2147483648 2147483653 (Nat.le_of_ble_eq_true rfl) rfl
  have c_deep : ay_at hp 173 28 = some (ρ 5) := ay_gfj hE 702 112 23 173 28 ax_m6 (ax_vlq rfl rfl) (ax_vlj rfl rfl)
  have c_units : ay_at hp 179 0 = some (ρ 4) := ay_gfj hE 726 0 19 179 0 ax_m7 (ax_vlq rfl rfl) (ax_vlj rfl rfl)
  have s1 : (ρ 4 / 4 + 2147483648) % 4294967296 + (4 / 4 + 2147483648) % 4294967296 = (ρ 3 / 4 + 2147483648) % 4294967296 + 2147483648 := pz_gs hE 19 4 15 ax_m8
  obtain ⟨-, -, -, -, -, F151⟩ : ay_ex hp 173 ∧ ay_ex hp 173 ∧ ay_ex hp 173 ∧ ay_ex hp 173 ∧ ay_ex hp 173 ∧ pz_y151 (ρ 0) (ρ 1) (ay_at hp 173 13) (ay_at hp 173 14) (ay_at hp 173 15) (ay_at hp 173 16) (ay_at hp 173 17) := (ax_XF_lt (x := 151) (Nat.le_of_ble_eq_true rfl)).mp (ax_gx hE (151, [3, 7]) ax_m0)
  obtain ⟨-, -, -, -, -, -, -, -, -, -, -, F152⟩ : ay_ex hp 175 ∧ ay_ex hp 176 ∧ ay_ex hp 177 ∧ ay_ex hp 178 ∧ ay_ex hp 179 ∧ ay_ex hp 173 ∧ ay_ex hp 173 ∧ ay_ex hp 173 ∧ ay_ex hp 173 ∧ ay_ex hp 173 ∧ ay_ex hp 181 ∧ pz_y152 0 (ρ 0) (ρ 1) (ay_at hp 175 0) (ay_at hp 176 0) (ay_at hp 177 0) (ay_at hp 178 0) (ay_at hp 179 0) (ay_at hp 173 23) (ay_at hp 173 25) (ay_at hp 173 24) (ay_at hp 173 18) (ay_at hp 173 19) (ay_at hp 181) := (ax_XF_lt (x := 152) (Nat.le_of_ble_eq_true rfl)).mp (ax_gx hE (152, [3, 7]) ax_m1)
  rw [c_units] at F152
  have F178 : pz7 (pz_gt (ρ 0)) (pz_gN (ρ 0)) ((ρ 1) / 4) 8 := (ax_XF_lt (x := 178) (Nat.le_of_ble_eq_true rfl)).mp (ax_gx hE (178, [3, 7]) ax_m2)
  have F207 : pz107 (pz_gt (ρ 0)) (pz_gN (ρ 0)) ((ρ 1) / 4) ((8) / 4) := (ax_XF_lt (x := 207) (Nat.le_of_ble_eq_true rfl)).mp (ax_gx hE (207, [3, 7, 8]) ax_m3)
  have F190 : (pz90 (pz_gt (ρ 0)) (pz_gN (ρ 0)) ((ρ 1) / 4) ((ρ 2) / 4) ∧ 1 ≤ (ρ 2) / 4) := (ax_XF_lt (x := 190) (Nat.le_of_ble_eq_true rfl)).mp (ax_gx hE (190, [3, 7, 11]) ax_m4)
  obtain ⟨-, F195⟩ : ay_ex hp 173 ∧ ay_ln (ay_at hp 173 28) = pz_dp ((ρ 2) / 4) := (ax_XF_lt (x := 195) (Nat.le_of_ble_eq_true rfl)).mp (ax_gx hE (195, [11]) ax_m5)
  rw [c_deep] at F195
  have hd : ρ 5 / 4 = pz_dp (ρ 2 / 4) := F195
  have st := pq_ru6u (pz_m50 F151 F152) F178 F207 (by decide) (by decide) F190.1 (by omega) (show ρ 4 / 4 ≤ 39 by omega)
  obtain ⟨ρ', h1, h2⟩ := pz_pn1 (K := ρ 1 / 4 + 1) (xf := [(652, [726, 0, 15, 3, 27]), (153, [3, 27]), (182, [7, 27]), (179, [3, 27]), (197, [3, 27, 11])]) hE (by decide) (fun ρ' h1 h2 x hx => by
    have q0 : ρ' 0 = ρ 0 := h1 0 (by decide)
    have q1 : ρ' 1 = ρ 1 := h1 1 (by decide)
    have q2 : ρ' 2 = ρ 2 := h1 2 (by decide)
    have q3 : ρ' 3 = ρ 3 := h1 3 (by decide)
    have q4 : ρ' 4 = ρ 4 := h1 4 (by decide)
    have q5 : ρ' 5 = ρ 5 := h1 5 (by decide)
    rcases List.mem_cons.mp hx with e | hx
    · subst e
      refine (ax_XF_wr (x := 152) (Nat.le_of_ble_eq_true rfl)).mpr ?_
      show ay_ex (ax_upd hp 726 (0) (ρ' 3)) 175 ∧ ay_ex (ax_upd hp 726 (0) (ρ' 3)) 176 ∧ ay_ex (ax_upd hp 726 (0) (ρ' 3)) 177 ∧ ay_ex (ax_upd hp 726 (0) (ρ' 3)) 178 ∧ ay_ex (ax_upd hp 726 (0) (ρ' 3)) 179 ∧ ay_ex (ax_upd hp 726 (0) (ρ' 3)) 173 ∧ ay_ex (ax_upd hp 726 (0) (ρ' 3)) 173 ∧ ay_ex (ax_upd hp 726 (0) (ρ' 3)) 173 ∧ ay_ex (ax_upd hp 726 (0) (ρ' 3)) 173 ∧ ay_ex (ax_upd hp 726 (0) (ρ' 3)) 173 ∧ ay_ex (ax_upd hp 726 (0) (ρ' 3)) 181 ∧ pz_y152 0 (ρ' 0) (ρ' 6) (ay_at (ax_upd hp 726 (0) (ρ' 3)) 175 0) (ay_at (ax_upd hp 726 (0) (ρ' 3)) 176 0) (ay_at (ax_upd hp 726 (0) (ρ' 3)) 177 0) (ay_at (ax_upd hp 726 (0) (ρ' 3)) 178 0) (ay_at (ax_upd hp 726 (0) (ρ' 3)) 179 0) (ay_at (ax_upd hp 726 (0) (ρ' 3)) 173 23) (ay_at (ax_upd hp 726 (0) (ρ' 3)) 173 25) (ay_at (ax_upd hp 726 (0) (ρ' 3)) 173 24) (ay_at (ax_upd hp 726 (0) (ρ' 3)) 173 18) (ay_at (ax_upd hp 726 (0) (ρ' 3)) 173 19) (ay_at (ax_upd hp 726 (0) (ρ' 3)) 181)
      rw [q0, q3, h2]
      obtain ⟨o0, ho0⟩ := ay_some hT (q := 179) (g := 49) (n := 2) (ax_wc ax_WW1 ax_cg_179) (ax_wn ax_WW1 ax_cn_49) (j := 0 / 4) (Nat.le_of_ble_eq_true rfl)
      have u1 : ∀ q, q ≠ 179 → ay_at (ax_upd hp 726 0 (ρ 3)) q = ay_at hp q := fun q hq => funext (fun j => ay_upd_ne hT.1 hq j)
      have u2 : ∀ j, ay_at (ax_upd hp 726 0 (ρ 3)) 179 j = if j = 0 then some (ρ 3) else ay_at hp 179 j := fun j => ay_upd_eq hT.1 rfl ho0 j
      refine ⟨ay_ex_upd hT.1 (ax_cellT hT (q := 175) (g := 45) (ax_wc ax_WW1 ax_cg_175)), ay_ex_upd hT.1 (ax_cellT hT (q := 176) (g := 46) (ax_wc ax_WW1 ax_cg_176)), ay_ex_upd hT.1 (ax_cellT hT (q := 177) (g := 47) (ax_wc ax_WW1 ax_cg_177)), ay_ex_upd hT.1 (ax_cellT hT (q := 178) (g := 48) (ax_wc ax_WW1 ax_cg_178)), ay_ex_upd hT.1 (ax_cellT hT (q := 179) (g := 49) (ax_wc ax_WW1 ax_cg_179)), ay_ex_upd hT.1 (ax_cellT hT (q := 173) (g := 11) (ax_wc ax_WW1 ax_cg_173)), ay_ex_upd hT.1 (ax_cellT hT (q := 173) (g := 11) (ax_wc ax_WW1 ax_cg_173)), ay_ex_upd hT.1 (ax_cellT hT (q := 173) (g := 11) (ax_wc ax_WW1 ax_cg_173)), ay_ex_upd hT.1 (ax_cellT hT (q := 173) (g := 11) (ax_wc ax_WW1 ax_cg_173)), ay_ex_upd hT.1 (ax_cellT hT (q := 173) (g := 11) (ax_wc ax_WW1 ax_cg_173)), ay_ex_upd hT.1 (ax_cellT hT (q := 181) (g := 51) (ax_wc ax_WW1 ax_cg_181)), ?_⟩
      rw [u1 175 (Nat.ne_of_beq_eq_false rfl), u1 176 (Nat.ne_of_beq_eq_false rfl), u1 177 (Nat.ne_of_beq_eq_false rfl), u1 178 (Nat.ne_of_beq_eq_false rfl), u2 0, if_pos rfl, u1 173 (Nat.ne_of_beq_eq_false rfl), u1 181 (Nat.ne_of_beq_eq_false rfl)]
      refine pz_l152 (pz_41 _) ?_
      show pz_dt _ _ _ _ _ (ρ 3 / 4) _ _ _ _ _ _ _
      rw [show ρ 3 / 4 = ρ 4 / 4 + 1 by omega]
      exact st.1.2
    rcases List.mem_cons.mp hx with e | hx
    · subst e
      refine (ax_XF_lt (x := 153) (Nat.le_of_ble_eq_true rfl)).mpr ?_
      show ay_ex hp 173 ∧ pz_at (pz_gt (ρ' 0)) (pz_gN (ρ' 0)) (ay_ln (ay_at hp 173 13)) = pz_at (pz_gt (ρ' 0)) (pz_gN (ρ' 0)) (pz_p (pz_cF (ρ' 0) (ρ' 6)))
      rw [q0, h2]
      refine ⟨(ax_cellT hT (q := 173) (g := 11) (ax_wc ax_WW1 ax_cg_173)), ?_⟩
      exact pz_l153 (pz_41 _) st.1.1
    rcases List.mem_cons.mp hx with e | hx
    · subst e
      refine (ax_XF_lt (x := 182) (Nat.le_of_ble_eq_true rfl)).mpr ?_
      show (ρ' 6) / 4 = (ρ' 1) / 4 + 1
      rw [q1, h2]
      rw [pz_41]
    rcases List.mem_cons.mp hx with e | hx
    · subst e
      refine (ax_XF_lt (x := 179) (Nat.le_of_ble_eq_true rfl)).mpr ?_
      show pz7 (pz_gt (ρ' 0)) (pz_gN (ρ' 0)) ((ρ' 6) / 4) 9
      rw [q0, h2]
      rw [pz_41]
      exact st.2.1
    cases List.mem_singleton.mp hx
    refine (ax_XF_lt (x := 197) (Nat.le_of_ble_eq_true rfl)).mpr ?_
    show (pz90 (pz_gt (ρ' 0)) (pz_gN (ρ' 0)) ((ρ' 6) / 4) (pz_strip ((ρ' 2) / 4)) ∧ 1 ≤ (ρ' 2) / 4)
    rw [q0, q2, h2]
    exact ⟨pz_l197 (pz_41 _) st.2.2, F190.2⟩)
  exact ⟨(fun y hy => by cases hy), _, List.mem_cons_self, ρ', h1, h2⟩

theorem axq1_mu6_3 : ax_RO ax_wM1 (ax_XM 1) axu1_mu6_3 := by
  intro ρ hp hE hT
  have j0 : ρ 0 % 4 = 1 := pz_gj hE 0 (Nat.le_of_ble_eq_true rfl) rfl
  have j1 : ρ 1 % 4 = 1 := pz_gj hE 1 (Nat.le_of_ble_eq_true rfl) rfl
  have j2 : ρ 2 % 4 = 1 := pz_gj hE 2 (Nat.le_of_ble_eq_true rfl) rfl
  obtain ⟨i3a, i3b, i3c, i3d⟩ := pz_gi hE 3 0 4294967295 (Nat.le_of_ble_eq_true rfl) rfl
  obtain ⟨i4a, i4b, i4c, i4d⟩ := pz_gi hE 4 2147483648 2147483687 (Nat.le_of_ble_eq_true rfl) rfl
  obtain ⟨i5a, i5b, i5c, i5d⟩ := pz_gi hE 5 2147483648 2147483653 (Nat.le_of_ble_eq_true rfl) rfl
  have c_deep : ay_at hp 173 28 = some (ρ 5) := ay_gfj hE 702 112 23 173 28 ax_m6 (ax_vlq rfl rfl) (ax_vlj rfl rfl)
  have c_units : ay_at hp 179 0 = some (ρ 4) := ay_gfj hE 726 0 19 179 0 ax_m7 (ax_vlq rfl rfl) (ax_vlj rfl rfl)
  have s1 : (ρ 4 / 4 + 2147483648) % 4294967296 + (4 / 4 + 2147483648) % 4294967296 = (ρ 3 / 4 + 2147483648) % 4294967296 + 2147483648 := pz_gs hE 19 4 15 ax_m8
  obtain ⟨-, -, -, -, -, F151⟩ : ay_ex hp 173 ∧ ay_ex hp 173 ∧ ay_ex hp 173 ∧ ay_ex hp 173 ∧ ay_ex hp 173 ∧ pz_y151 (ρ 0) (ρ 1) (ay_at hp 173 13) (ay_at hp 173 14) (ay_at hp 173 15) (ay_at hp 173 16) (ay_at hp 173 17) := (ax_XF_lt (x := 151) (Nat.le_of_ble_eq_true rfl)).mp (ax_gx hE (151, [3, 7]) ax_m0)
  obtain ⟨-, -, -, -, -, -, -, -, -, -, -, F152⟩ : ay_ex hp 175 ∧ ay_ex hp 176 ∧ ay_ex hp 177 ∧ ay_ex hp 178 ∧ ay_ex hp 179 ∧ ay_ex hp 173 ∧ ay_ex hp 173 ∧ ay_ex hp 173 ∧ ay_ex hp 173 ∧ ay_ex hp 173 ∧ ay_ex hp 181 ∧ pz_y152 0 (ρ 0) (ρ 1) (ay_at hp 175 0) (ay_at hp 176 0) (ay_at hp 177 0) (ay_at hp 178 0) (ay_at hp 179 0) (ay_at hp 173 23) (ay_at hp 173 25) (ay_at hp 173 24) (ay_at hp 173 18) (ay_at hp 173 19) (ay_at hp 181) := (ax_XF_lt (x := 152) (Nat.le_of_ble_eq_true rfl)).mp (ax_gx hE (152, [3, 7]) ax_m1)
  rw [c_units] at F152
  have F178 : pz7 (pz_gt (ρ 0)) (pz_gN (ρ 0)) ((ρ 1) / 4) 8 := (ax_XF_lt (x := 178) (Nat.le_of_ble_eq_true rfl)).mp (ax_gx hE (178, [3, 7]) ax_m2)
  have F207 : pz107 (pz_gt (ρ 0)) (pz_gN (ρ 0)) ((ρ 1) / 4) ((12) / 4) := (ax_XF_lt (x := 207) (Nat.le_of_ble_eq_true rfl)).mp (ax_gx hE (207, [3, 7, 12]) ax_m3)
  have F190 : (pz90 (pz_gt (ρ 0)) (pz_gN (ρ 0)) ((ρ 1) / 4) ((ρ 2) / 4) ∧ 1 ≤ (ρ 2) / 4) := (ax_XF_lt (x := 190) (Nat.le_of_ble_eq_true rfl)).mp (ax_gx hE (190, [3, 7, 11]) ax_m4)
  obtain ⟨-, F195⟩ : ay_ex hp 173 ∧ ay_ln (ay_at hp 173 28) = pz_dp ((ρ 2) / 4) := (ax_XF_lt (x := 195) (Nat.le_of_ble_eq_true rfl)).mp (ax_gx hE (195, [11]) ax_m5)
  rw [c_deep] at F195
  have hd : ρ 5 / 4 = pz_dp (ρ 2 / 4) := F195
  have st := pq_ru6u (pz_m50 F151 F152) F178 F207 (by decide) (by decide) F190.1 (by omega) (show ρ 4 / 4 ≤ 39 by omega)
  obtain ⟨ρ', h1, h2⟩ := pz_pn1 (K := ρ 1 / 4 + 1) (xf := [(652, [726, 0, 15, 3, 27]), (153, [3, 27]), (182, [7, 27]), (179, [3, 27]), (197, [3, 27, 11])]) hE (by decide) (fun ρ' h1 h2 x hx => by
    have q0 : ρ' 0 = ρ 0 := h1 0 (by decide)
    have q1 : ρ' 1 = ρ 1 := h1 1 (by decide)
    have q2 : ρ' 2 = ρ 2 := h1 2 (by decide)
    have q3 : ρ' 3 = ρ 3 := h1 3 (by decide)
    have q4 : ρ' 4 = ρ 4 := h1 4 (by decide)
    have q5 : ρ' 5 = ρ 5 := h1 5 (by decide)
    rcases List.mem_cons.mp hx with e | hx
    · subst e
      refine (ax_XF_wr (x := 152) (Nat.le_of_ble_eq_true rfl)).mpr ?_
      show ay_ex (ax_upd hp 726 (0) (ρ' 3)) 175 ∧ ay_ex (ax_upd hp 726 (0) (ρ' 3)) 176 ∧ ay_ex (ax_upd hp 726 (0) (ρ' 3)) 177 ∧ ay_ex (ax_upd hp 726 (0) (ρ' 3)) 178 ∧ ay_ex (ax_upd hp 726 (0) (ρ' 3)) 179 ∧ ay_ex (ax_upd hp 726 (0) (ρ' 3)) 173 ∧ ay_ex (ax_upd hp 726 (0) (ρ' 3)) 173 ∧ ay_ex (ax_upd hp 726 (0) (ρ' 3)) 173 ∧ ay_ex (ax_upd hp 726 (0) (ρ' 3)) 173 ∧ ay_ex (ax_upd hp 726 (0) (ρ' 3)) 173 ∧ ay_ex (ax_upd hp 726 (0) (ρ' 3)) 181 ∧ pz_y152 0 (ρ' 0) (ρ' 6) (ay_at (ax_upd hp 726 (0) (ρ' 3)) 175 0) (ay_at (ax_upd hp 726 (0) (ρ' 3)) 176 0) (ay_at (ax_upd hp 726 (0) (ρ' 3)) 177 0) (ay_at (ax_upd hp 726 (0) (ρ' 3)) 178 0) (ay_at (ax_upd hp 726 (0) (ρ' 3)) 179 0) (ay_at (ax_upd hp 726 (0) (ρ' 3)) 173 23) (ay_at (ax_upd hp 726 (0) (ρ' 3)) 173 25) (ay_at (ax_upd hp 726 (0) (ρ' 3)) 173 24) (ay_at (ax_upd hp 726 (0) (ρ' 3)) 173 18) (ay_at (ax_upd hp 726 (0) (ρ' 3)) 173 19) (ay_at (ax_upd hp 726 (0) (ρ' 3)) 181)
      rw [q0, q3, h2]
      obtain ⟨o0, ho0⟩ := ay_some hT (q := 179) (g := 49) (n := 2) (ax_wc ax_WW1 ax_cg_179) (ax_wn ax_WW1 ax_cn_49) (j := 0 / 4) (Nat.le_of_ble_eq_true rfl)
      have u1 : ∀ q, q ≠ 179 → ay_at (ax_upd hp 726 0 (ρ 3)) q = ay_at hp q := fun q hq => funext (fun j => ay_upd_ne hT.1 hq j)
      have u2 : ∀ j, ay_at (ax_upd hp 726 0 (ρ 3)) 179 j = if j = 0 then some (ρ 3) else ay_at hp 179 j := fun j => ay_upd_eq hT.1 rfl ho0 j
      refine ⟨ay_ex_upd hT.1 (ax_cellT hT (q := 175) (g := 45) (ax_wc ax_WW1 ax_cg_175)), ay_ex_upd hT.1 (ax_cellT hT (q := 176) (g := 46) (ax_wc ax_WW1 ax_cg_176)), ay_ex_upd hT.1 (ax_cellT hT (q := 177) (g := 47) (ax_wc ax_WW1 ax_cg_177)), ay_ex_upd hT.1 (ax_cellT hT (q := 178) (g := 48) (ax_wc ax_WW1 ax_cg_178)), ay_ex_upd hT.1 (ax_cellT hT (q := 179) (g := 49) (ax_wc ax_WW1 ax_cg_179)), ay_ex_upd hT.1 (ax_cellT hT (q := 173) (g := 11) (ax_wc ax_WW1 ax_cg_173)), ay_ex_upd hT.1 (ax_cellT hT (q := 173) (g := 11) (ax_wc ax_WW1 ax_cg_173)), ay_ex_upd hT.1 (ax_cellT hT (q := 173) (g := 11) (ax_wc ax_WW1 ax_cg_173)), ay_ex_upd hT.1 (ax_cellT hT (q := 173) (g := 11) (ax_wc ax_WW1 ax_cg_173)), ay_ex_upd hT.1 (ax_cellT hT (q := 173) (g := 11) (ax_wc ax_WW1 ax_cg_173)), ay_ex_upd hT.1 (ax_cellT hT (q := 181) (g := 51) (ax_wc ax_WW1 ax_cg_181)), ?_⟩
      rw [u1 175 (Nat.ne_of_beq_eq_false rfl), u1 176 (Nat.ne_of_beq_eq_false rfl), u1 177 (Nat.ne_of_beq_eq_false rfl), u1 178 (Nat.ne_of_beq_eq_false rfl), u2 0, if_pos rfl, u1 173 (Nat.ne_of_beq_eq_false rfl), u1 181 (Nat.ne_of_beq_eq_false rfl)]
      refine pz_l152 (pz_41 _) ?_
      show pz_dt _ _ _ _ _ (ρ 3 / 4) _ _ _ _ _ _ _
      rw [show ρ 3 / 4 = ρ 4 / 4 + 1 by omega]
      exact st.1.2
    rcases List.mem_cons.mp hx with e | hx
    · subst e
      refine (ax_XF_lt (x := 153) (Nat.le_of_ble_eq_true rfl)).mpr ?_
      show ay_ex hp 173 ∧ pz_at (pz_gt (ρ' 0)) (pz_gN (ρ' 0)) (ay_ln (ay_at hp 173 13)) = pz_at (pz_gt (ρ' 0)) (pz_gN (ρ' 0)) (pz_p (pz_cF (ρ' 0) (ρ' 6)))
      rw [q0, h2]
      refine ⟨(ax_cellT hT (q := 173) (g := 11) (ax_wc ax_WW1 ax_cg_173)), ?_⟩
      exact pz_l153 (pz_41 _) st.1.1
    rcases List.mem_cons.mp hx with e | hx
    · subst e
      refine (ax_XF_lt (x := 182) (Nat.le_of_ble_eq_true rfl)).mpr ?_
      show (ρ' 6) / 4 = (ρ' 1) / 4 + 1
      rw [q1, h2]
      rw [pz_41]
    rcases List.mem_cons.mp hx with e | hx
    · subst e
      refine (ax_XF_lt (x := 179) (Nat.le_of_ble_eq_true rfl)).mpr ?_
      show pz7 (pz_gt (ρ' 0)) (pz_gN (ρ' 0)) ((ρ' 6) / 4) 9
      rw [q0, h2]
      rw [pz_41]
      exact st.2.1
    cases List.mem_singleton.mp hx
    refine (ax_XF_lt (x := 197) (Nat.le_of_ble_eq_true rfl)).mpr ?_
    show (pz90 (pz_gt (ρ' 0)) (pz_gN (ρ' 0)) ((ρ' 6) / 4) (pz_strip ((ρ' 2) / 4)) ∧ 1 ≤ (ρ' 2) / 4)
    rw [q0, q2, h2]
    exact ⟨pz_l197 (pz_41 _) st.2.2, F190.2⟩)
  exact ⟨(fun y hy => by cases hy), _, List.mem_cons_self, ρ', h1, h2⟩

theorem axq1_mu6_4 : ax_RO ax_wM1 (ax_XM 1) axu1_mu6_4 := by
  intro ρ hp hE hT
  have j0 : ρ 0 % 4 = 1 := pz_gj hE 0 (Nat.le_of_ble_eq_true rfl) rfl
  have j1 : ρ 1 % 4 = 1 := pz_gj hE 1 (Nat.le_of_ble_eq_true rfl) rfl
  have j2 : ρ 2 % 4 = 1 := pz_gj hE 2 (Nat.le_of_ble_eq_true rfl) rfl
  obtain ⟨i3a, i3b, i3c, i3d⟩ := pz_gi hE 3 0 4294967295 (Nat.le_of_ble_eq_true rfl) rfl
  obtain ⟨i4a, i4b, i4c, i4d⟩ := pz_gi hE 4 2147483648 2147483687 (Nat.le_of_ble_eq_true rfl) rfl
  obtain ⟨i5a, i5b, i5c, i5d⟩ := pz_gi hE 5 2147483648 2147483653 (Nat.le_of_ble_eq_true rfl) rfl
  have c_deep : ay_at hp 173 28 = some (ρ 5) := ay_gfj hE 702 112 23 173 28 ax_m6 (ax_vlq rfl rfl) (ax_vlj rfl rfl)
  have c_units : ay_at hp 179 0 = some (ρ 4) := ay_gfj hE 726 0 19 179 0 ax_m7 (ax_vlq rfl rfl) (ax_vlj rfl rfl)
  have s1 : (ρ 4 / 4 + 2147483648) % 4294967296 + (4 / 4 + 2147483648) % 4294967296 = (ρ 3 / 4 + 2147483648) % 4294967296 + 2147483648 := pz_gs hE 19 4 15 ax_m8
  obtain ⟨-, -, -, -, -, F151⟩ : ay_ex hp 173 ∧ ay_ex hp 173 ∧ ay_ex hp 173 ∧ ay_ex hp 173 ∧ ay_ex hp 173 ∧ pz_y151 (ρ 0) (ρ 1) (ay_at hp 173 13) (ay_at hp 173 14) (ay_at hp 173 15) (ay_at hp 173 16) (ay_at hp 173 17) := (ax_XF_lt (x := 151) (Nat.le_of_ble_eq_true rfl)).mp (ax_gx hE (151, [3, 7]) ax_m0)
  obtain ⟨-, -, -, -, -, -, -, -, -, -, -, F152⟩ : ay_ex hp 175 ∧ ay_ex hp 176 ∧ ay_ex hp 177 ∧ ay_ex hp 178 ∧ ay_ex hp 179 ∧ ay_ex hp 173 ∧ ay_ex hp 173 ∧ ay_ex hp 173 ∧ ay_ex hp 173 ∧ ay_ex hp 173 ∧ ay_ex hp 181 ∧ pz_y152 0 (ρ 0) (ρ 1) (ay_at hp 175 0) (ay_at hp 176 0) (ay_at hp 177 0) (ay_at hp 178 0) (ay_at hp 179 0) (ay_at hp 173 23) (ay_at hp 173 25) (ay_at hp 173 24) (ay_at hp 173 18) (ay_at hp 173 19) (ay_at hp 181) := (ax_XF_lt (x := 152) (Nat.le_of_ble_eq_true rfl)).mp (ax_gx hE (152, [3, 7]) ax_m1)
  rw [c_units] at F152
  have F178 : pz7 (pz_gt (ρ 0)) (pz_gN (ρ 0)) ((ρ 1) / 4) 8 := (ax_XF_lt (x := 178) (Nat.le_of_ble_eq_true rfl)).mp (ax_gx hE (178, [3, 7]) ax_m2)
  have F207 : pz107 (pz_gt (ρ 0)) (pz_gN (ρ 0)) ((ρ 1) / 4) ((16) / 4) := (ax_XF_lt (x := 207) (Nat.le_of_ble_eq_true rfl)).mp (ax_gx hE (207, [3, 7, 16]) ax_m3)
  have F190 : (pz90 (pz_gt (ρ 0)) (pz_gN (ρ 0)) ((ρ 1) / 4) ((ρ 2) / 4) ∧ 1 ≤ (ρ 2) / 4) := (ax_XF_lt (x := 190) (Nat.le_of_ble_eq_true rfl)).mp (ax_gx hE (190, [3, 7, 11]) ax_m4)
  obtain ⟨-, F195⟩ : ay_ex hp 173 ∧ ay_ln (ay_at hp 173 28) = pz_dp ((ρ 2) / 4) := (ax_XF_lt (x := 195) (Nat.le_of_ble_eq_true rfl)).mp (ax_gx hE (195, [11]) ax_m5)
  rw [c_deep] at F195
  have hd : ρ 5 / 4 = pz_dp (ρ 2 / 4) := F195
  have st := pq_ru6u (pz_m50 F151 F152) F178 F207 (by decide) (by decide) F190.1 (by omega) (show ρ 4 / 4 ≤ 39 by omega)
  obtain ⟨ρ', h1, h2⟩ := pz_pn1 (K := ρ 1 / 4 + 1) (xf := [(652, [726, 0, 15, 3, 27]), (153, [3, 27]), (182, [7, 27]), (179, [3, 27]), (197, [3, 27, 11])]) hE (by decide) (fun ρ' h1 h2 x hx => by
    have q0 : ρ' 0 = ρ 0 := h1 0 (by decide)
    have q1 : ρ' 1 = ρ 1 := h1 1 (by decide)
    have q2 : ρ' 2 = ρ 2 := h1 2 (by decide)
    have q3 : ρ' 3 = ρ 3 := h1 3 (by decide)
    have q4 : ρ' 4 = ρ 4 := h1 4 (by decide)
    have q5 : ρ' 5 = ρ 5 := h1 5 (by decide)
    rcases List.mem_cons.mp hx with e | hx
    · subst e
      refine (ax_XF_wr (x := 152) (Nat.le_of_ble_eq_true rfl)).mpr ?_
      show ay_ex (ax_upd hp 726 (0) (ρ' 3)) 175 ∧ ay_ex (ax_upd hp 726 (0) (ρ' 3)) 176 ∧ ay_ex (ax_upd hp 726 (0) (ρ' 3)) 177 ∧ ay_ex (ax_upd hp 726 (0) (ρ' 3)) 178 ∧ ay_ex (ax_upd hp 726 (0) (ρ' 3)) 179 ∧ ay_ex (ax_upd hp 726 (0) (ρ' 3)) 173 ∧ ay_ex (ax_upd hp 726 (0) (ρ' 3)) 173 ∧ ay_ex (ax_upd hp 726 (0) (ρ' 3)) 173 ∧ ay_ex (ax_upd hp 726 (0) (ρ' 3)) 173 ∧ ay_ex (ax_upd hp 726 (0) (ρ' 3)) 173 ∧ ay_ex (ax_upd hp 726 (0) (ρ' 3)) 181 ∧ pz_y152 0 (ρ' 0) (ρ' 6) (ay_at (ax_upd hp 726 (0) (ρ' 3)) 175 0) (ay_at (ax_upd hp 726 (0) (ρ' 3)) 176 0) (ay_at (ax_upd hp 726 (0) (ρ' 3)) 177 0) (ay_at (ax_upd hp 726 (0) (ρ' 3)) 178 0) (ay_at (ax_upd hp 726 (0) (ρ' 3)) 179 0) (ay_at (ax_upd hp 726 (0) (ρ' 3)) 173 23) (ay_at (ax_upd hp 726 (0) (ρ' 3)) 173 25) (ay_at (ax_upd hp 726 (0) (ρ' 3)) 173 24) (ay_at (ax_upd hp 726 (0) (ρ' 3)) 173 18) (ay_at (ax_upd hp 726 (0) (ρ' 3)) 173 19) (ay_at (ax_upd hp 726 (0) (ρ' 3)) 181)
      rw [q0, q3, h2]
      obtain ⟨o0, ho0⟩ := ay_some hT (q := 179) (g := 49) (n := 2) (ax_wc ax_WW1 ax_cg_179) (ax_wn ax_WW1 ax_cn_49) (j := 0 / 4) (Nat.le_of_ble_eq_true rfl)
      have u1 : ∀ q, q ≠ 179 → ay_at (ax_upd hp 726 0 (ρ 3)) q = ay_at hp q := fun q hq => funext (fun j => ay_upd_ne hT.1 hq j)
      have u2 : ∀ j, ay_at (ax_upd hp 726 0 (ρ 3)) 179 j = if j = 0 then some (ρ 3) else ay_at hp 179 j := fun j => ay_upd_eq hT.1 rfl ho0 j
      refine ⟨ay_ex_upd hT.1 (ax_cellT hT (q := 175) (g := 45) (ax_wc ax_WW1 ax_cg_175)), ay_ex_upd hT.1 (ax_cellT hT (q := 176) (g := 46) (ax_wc ax_WW1 ax_cg_176)), ay_ex_upd hT.1 (ax_cellT hT (q := 177) (g := 47) (ax_wc ax_WW1 ax_cg_177)), ay_ex_upd hT.1 (ax_cellT hT (q := 178) (g := 48) (ax_wc ax_WW1 ax_cg_178)), ay_ex_upd hT.1 (ax_cellT hT (q := 179) (g := 49) (ax_wc ax_WW1 ax_cg_179)), ay_ex_upd hT.1 (ax_cellT hT (q := 173) (g := 11) (ax_wc ax_WW1 ax_cg_173)), ay_ex_upd hT.1 (ax_cellT hT (q := 173) (g := 11) (ax_wc ax_WW1 ax_cg_173)), ay_ex_upd hT.1 (ax_cellT hT (q := 173) (g := 11) (ax_wc ax_WW1 ax_cg_173)), ay_ex_upd hT.1 (ax_cellT hT (q := 173) (g := 11) (ax_wc ax_WW1 ax_cg_173)), ay_ex_upd hT.1 (ax_cellT hT (q := 173) (g := 11) (ax_wc ax_WW1 ax_cg_173)), ay_ex_upd hT.1 (ax_cellT hT (q := 181) (g := 51) (ax_wc ax_WW1 ax_cg_181)), ?_⟩
      rw [u1 175 (Nat.ne_of_beq_eq_false rfl), u1 176 (Nat.ne_of_beq_eq_false rfl), u1 177 (Nat.ne_of_beq_eq_false rfl), u1 178 (Nat.ne_of_beq_eq_false rfl), u2 0, if_pos rfl, u1 173 (Nat.ne_of_beq_eq_false rfl), u1 181 (Nat.ne_of_beq_eq_false rfl)]
      refine pz_l152 (pz_41 _) ?_
      show pz_dt _ _ _ _ _ (ρ 3 / 4) _ _ _ _ _ _ _
      rw [show ρ 3 / 4 = ρ 4 / 4 + 1 by omega]
      exact st.1.2
    rcases List.mem_cons.mp hx with e | hx
    · subst e
      refine (ax_XF_lt (x := 153) (Nat.le_of_ble_eq_true rfl)).mpr ?_
      show ay_ex hp 173 ∧ pz_at (pz_gt (ρ' 0)) (pz_gN (ρ' 0)) (ay_ln (ay_at hp 173 13)) = pz_at (pz_gt (ρ' 0)) (pz_gN (ρ' 0)) (pz_p (pz_cF (ρ' 0) (ρ' 6)))
      rw [q0, h2]
      refine ⟨(ax_cellT hT (q := 173) (g := 11) (ax_wc ax_WW1 ax_cg_173)), ?_⟩
      exact pz_l153 (pz_41 _) st.1.1
    rcases List.mem_cons.mp hx with e | hx
    · subst e
      refine (ax_XF_lt (x := 182) (Nat.le_of_ble_eq_true rfl)).mpr ?_
      show (ρ' 6) / 4 = (ρ' 1) / 4 + 1
      rw [q1, h2]
      rw [pz_41]
    rcases List.mem_cons.mp hx with e | hx
    · subst e
      refine (ax_XF_lt (x := 179) (Nat.le_of_ble_eq_true rfl)).mpr ?_
      show pz7 (pz_gt (ρ' 0)) (pz_gN (ρ' 0)) ((ρ' 6) / 4) 9
      rw [q0, h2]
      rw [pz_41]
      exact st.2.1
    cases List.mem_singleton.mp hx
    refine (ax_XF_lt (x := 197) (Nat.le_of_ble_eq_true rfl)).mpr ?_
    show (pz90 (pz_gt (ρ' 0)) (pz_gN (ρ' 0)) ((ρ' 6) / 4) (pz_strip ((ρ' 2) / 4)) ∧ 1 ≤ (ρ' 2) / 4)
    rw [q0, q2, h2]
    exact ⟨pz_l197 (pz_41 _) st.2.2, F190.2⟩)
  exact ⟨(fun y hy => by cases hy), _, List.mem_cons_self, ρ', h1, h2⟩

theorem axq1_mu7a : ax_RO ax_wM1 (ax_XM 1) axu1_mu7a := axqg_mu7a ax_WW1
theorem axq1_mu7b : ax_RO ax_wM1 (ax_XM 1) axu1_mu7b := axqg_mu7b ax_WW1
theorem axq1_mu8O : ax_RO ax_wM1 (ax_XM 1) axu1_mu8O := axqg_mu8O ax_WW1
theorem axq1_mu9O : ax_RO ax_wM1 (ax_XM 1) axu1_mu9O := axqg_mu9O ax_WW1
theorem axq1_mu8M : ax_RO ax_wM1 (ax_XM 1) axu1_mu8M := axqg_mu8M ax_WW1
theorem axq1_mu9M : ax_RO ax_wM1 (ax_XM 1) axu1_mu9M := axqg_mu9M ax_WW1
end
section
theorem axq1_muA : ax_RO ax_wM1 (ax_XM 1) axu1_muA := axqg_muA ax_WW1
theorem axq1_muB : ax_RO ax_wM1 (ax_XM 1) axu1_muB := axqg_muB ax_WW1
theorem axq1_mv1_1 : ax_RO ax_wM1 (ax_XM 1) axu1_mv1_1 := axqg_mv1_1 ax_WW1
theorem axq1_mv2_1 : ax_RO ax_wM1 (ax_XM 1) axu1_mv2_1 := by
  intro ρ hp hE hT
  have j0 : ρ 0 % 4 = 1 := pz_gj hE 0 (Nat.le_of_ble_eq_true rfl) rfl
  have j1 : ρ 1 % 4 = 1 := pz_gj hE 1 (Nat.le_of_ble_eq_true rfl) rfl
  have j2 : ρ 2 % 4 = 1 := pz_gj hE 2 (Nat.le_of_ble_eq_true rfl) rfl
  have j3 : ρ 3 % 4 = 1 := pz_gj hE 3 (Nat.le_of_ble_eq_true rfl) rfl
  have j4 : ρ 4 % 4 = 1 := pz_gj hE 4 (Nat.le_of_ble_eq_true rfl) rfl
  obtain ⟨i5a, i5b, i5c, i5d⟩ := pz_gi hE 5 2147483648 2147484647 (Nat.le_of_ble_eq_true rfl) rfl
  obtain ⟨-, -, -, -, -, F151⟩ : ay_ex hp 173 ∧ ay_ex hp 173 ∧ ay_ex hp 173 ∧ ay_ex hp 173 ∧ ay_ex hp 173 ∧ pz_y151 (ρ 0) (ρ 1) (ay_at hp 173 13) (ay_at hp 173 14) (ay_at hp 173 15) (ay_at hp 173 16) (ay_at hp 173 17) := (ax_XF_lt (x := 151) (Nat.le_of_ble_eq_true rfl)).mp (ax_gx hE (151, [3, 7]) (by decide))
  have F257 : py_257 (pz_gt (ρ 0)) (pz_gN (ρ 0)) ((ρ 1) / 4) (ρ 2) (ρ 3) (ρ 5) := (ax_XF_lt (x := 257) (Nat.le_of_ble_eq_true rfl)).mp (ax_gx hE (257, [3, 7, 11, 15, 23]) (by decide))
  obtain ⟨-, -, F242⟩ : ay_ex hp 173 ∧ ay_ex hp 185 ∧ py_y242 (ρ 2) (ay_at hp 173 27) (ay_at hp 185) := (ax_XF_lt (x := 242) (Nat.le_of_ble_eq_true rfl)).mp (ax_gx hE (242, [11]) (by decide))
  obtain ⟨-, -, F241⟩ : ay_ex hp 180 ∧ ay_ex hp 182 ∧ py_y241 0 (ρ 4) (ay_at hp 180 0) (ay_at hp 182) := (ax_XF_lt (x := 241) (Nat.le_of_ble_eq_true rfl)).mp (ax_gx hE (241, [19]) (by decide))
  have F251 : py_251 (ρ 4) (ρ 5) (ρ 3) := (ax_XF_lt (x := 251) (Nat.le_of_ble_eq_true rfl)).mp (ax_gx hE (251, [19, 23, 15]) (by decide))
  refine ⟨(fun y hy => by cases hy), _, List.mem_cons_self, ρ, fun _ _ => rfl, ax_px hE rfl (fun x hx => ?_)⟩
  rcases List.mem_cons.mp hx with e | hx
  · subst e
    refine (ax_XF_lt (x := 247) (Nat.le_of_ble_eq_true rfl)).mpr ?_
    show py_247 (pz_gt (ρ 0)) (pz_gN (ρ 0)) ((ρ 1) / 4) (ρ 2) (ρ 4)
    exact pm_mv2 F257 F251
  cases List.mem_singleton.mp hx
  refine (ax_XF_lt (x := 249) (Nat.le_of_ble_eq_true rfl)).mpr ?_
  show py_249 (ρ 2) (ρ 4) (ρ 2) (ρ 4)
  exact (rfl : py_neg _ _ = _)

theorem axq1_mv1_2 : ax_RO ax_wM1 (ax_XM 1) axu1_mv1_2 := axqg_mv1_2 ax_WW1
theorem axq1_mv2_2 : ax_RO ax_wM1 (ax_XM 1) axu1_mv2_2 := by
  intro ρ hp hE hT
  have j0 : ρ 0 % 4 = 1 := pz_gj hE 0 (Nat.le_of_ble_eq_true rfl) rfl
  have j1 : ρ 1 % 4 = 1 := pz_gj hE 1 (Nat.le_of_ble_eq_true rfl) rfl
  have j2 : ρ 2 % 4 = 1 := pz_gj hE 2 (Nat.le_of_ble_eq_true rfl) rfl
  have j3 : ρ 3 % 4 = 1 := pz_gj hE 3 (Nat.le_of_ble_eq_true rfl) rfl
  have j4 : ρ 4 % 4 = 1 := pz_gj hE 4 (Nat.le_of_ble_eq_true rfl) rfl
  obtain ⟨-, -, -, -, -, F151⟩ : ay_ex hp 173 ∧ ay_ex hp 173 ∧ ay_ex hp 173 ∧ ay_ex hp 173 ∧ ay_ex hp 173 ∧ pz_y151 (ρ 0) (ρ 1) (ay_at hp 173 13) (ay_at hp 173 14) (ay_at hp 173 15) (ay_at hp 173 16) (ay_at hp 173 17) := (ax_XF_lt (x := 151) (Nat.le_of_ble_eq_true rfl)).mp (ax_gx hE (151, [3, 7]) (by decide))
  have F257 : py_257 (pz_gt (ρ 0)) (pz_gN (ρ 0)) ((ρ 1) / 4) (ρ 2) (ρ 3) (4000) := (ax_XF_lt (x := 257) (Nat.le_of_ble_eq_true rfl)).mp (ax_gx hE (257, [3, 7, 11, 15, 4000]) (by decide))
  obtain ⟨-, -, F242⟩ : ay_ex hp 173 ∧ ay_ex hp 185 ∧ py_y242 (ρ 2) (ay_at hp 173 27) (ay_at hp 185) := (ax_XF_lt (x := 242) (Nat.le_of_ble_eq_true rfl)).mp (ax_gx hE (242, [11]) (by decide))
  obtain ⟨-, -, F241⟩ : ay_ex hp 180 ∧ ay_ex hp 182 ∧ py_y241 0 (ρ 4) (ay_at hp 180 0) (ay_at hp 182) := (ax_XF_lt (x := 241) (Nat.le_of_ble_eq_true rfl)).mp (ax_gx hE (241, [19]) (by decide))
  have F251 : py_251 (ρ 4) (4000) (ρ 3) := (ax_XF_lt (x := 251) (Nat.le_of_ble_eq_true rfl)).mp (ax_gx hE (251, [19, 4000, 15]) (by decide))
  refine ⟨(fun y hy => by cases hy), _, List.mem_cons_self, ρ, fun _ _ => rfl, ax_px hE rfl (fun x hx => ?_)⟩
  rcases List.mem_cons.mp hx with e | hx
  · subst e
    refine (ax_XF_lt (x := 247) (Nat.le_of_ble_eq_true rfl)).mpr ?_
    show py_247 (pz_gt (ρ 0)) (pz_gN (ρ 0)) ((ρ 1) / 4) (ρ 2) (ρ 4)
    exact pm_mv2 F257 F251
  cases List.mem_singleton.mp hx
  refine (ax_XF_lt (x := 249) (Nat.le_of_ble_eq_true rfl)).mpr ?_
  show py_249 (ρ 2) (ρ 4) (ρ 2) (ρ 4)
  exact (rfl : py_neg _ _ = _)

theorem axq1_mv1_3 : ax_RO ax_wM1 (ax_XM 1) axu1_mv1_3 := axqg_mv1_3 ax_WW1
theorem axq1_mv2_3 : ax_RO ax_wM1 (ax_XM 1) axu1_mv2_3 := by
  intro ρ hp hE hT
  have j0 : ρ 0 % 4 = 1 := pz_gj hE 0 (Nat.le_of_ble_eq_true rfl) rfl
  have j1 : ρ 1 % 4 = 1 := pz_gj hE 1 (Nat.le_of_ble_eq_true rfl) rfl
  have j2 : ρ 2 % 4 = 1 := pz_gj hE 2 (Nat.le_of_ble_eq_true rfl) rfl
  have j3 : ρ 3 % 4 = 1 := pz_gj hE 3 (Nat.le_of_ble_eq_true rfl) rfl
  have j4 : ρ 4 % 4 = 1 := pz_gj hE 4 (Nat.le_of_ble_eq_true rfl) rfl
  obtain ⟨-, -, -, -, -, F151⟩ : ay_ex hp 173 ∧ ay_ex hp 173 ∧ ay_ex hp 173 ∧ ay_ex hp 173 ∧ ay_ex hp 173 ∧ pz_y151 (ρ 0) (ρ 1) (ay_at hp 173 13) (ay_at hp 173 14) (ay_at hp 173 15) (ay_at hp 173 16) (ay_at hp 173 17) := (ax_XF_lt (x := 151) (Nat.le_of_ble_eq_true rfl)).mp (ax_gx hE (151, [3, 7]) (by decide))
  have F257 : py_257 (pz_gt (ρ 0)) (pz_gN (ρ 0)) ((ρ 1) / 4) (ρ 2) (ρ 3) (4004) := (ax_XF_lt (x := 257) (Nat.le_of_ble_eq_true rfl)).mp (ax_gx hE (257, [3, 7, 11, 15, 4004]) (by decide))
  obtain ⟨-, -, F242⟩ : ay_ex hp 173 ∧ ay_ex hp 185 ∧ py_y242 (ρ 2) (ay_at hp 173 27) (ay_at hp 185) := (ax_XF_lt (x := 242) (Nat.le_of_ble_eq_true rfl)).mp (ax_gx hE (242, [11]) (by decide))
  obtain ⟨-, -, F241⟩ : ay_ex hp 180 ∧ ay_ex hp 182 ∧ py_y241 0 (ρ 4) (ay_at hp 180 0) (ay_at hp 182) := (ax_XF_lt (x := 241) (Nat.le_of_ble_eq_true rfl)).mp (ax_gx hE (241, [19]) (by decide))
  have F251 : py_251 (ρ 4) (4004) (ρ 3) := (ax_XF_lt (x := 251) (Nat.le_of_ble_eq_true rfl)).mp (ax_gx hE (251, [19, 4004, 15]) (by decide))
  refine ⟨(fun y hy => by cases hy), _, List.mem_cons_self, ρ, fun _ _ => rfl, ax_px hE rfl (fun x hx => ?_)⟩
  rcases List.mem_cons.mp hx with e | hx
  · subst e
    refine (ax_XF_lt (x := 247) (Nat.le_of_ble_eq_true rfl)).mpr ?_
    show py_247 (pz_gt (ρ 0)) (pz_gN (ρ 0)) ((ρ 1) / 4) (ρ 2) (ρ 4)
    exact pm_mv2 F257 F251
  cases List.mem_singleton.mp hx
  refine (ax_XF_lt (x := 249) (Nat.le_of_ble_eq_true rfl)).mpr ?_
  show py_249 (ρ 2) (ρ 4) (ρ 2) (ρ 4)
  exact (rfl : py_neg _ _ = _)

theorem axq1_mv1_4 : ax_RO ax_wM1 (ax_XM 1) axu1_mv1_4 := axqg_mv1_4 ax_WW1
theorem axq1_mv2_4 : ax_RO ax_wM1 (ax_XM 1) axu1_mv2_4 := by
  intro ρ hp hE hT
  have j0 : ρ 0 % 4 = 1 := pz_gj hE 0 (Nat.le_of_ble_eq_true rfl) rfl
  have j1 : ρ 1 % 4 = 1 := pz_gj hE 1 (Nat.le_of_ble_eq_true rfl) rfl
  have j2 : ρ 2 % 4 = 1 := pz_gj hE 2 (Nat.le_of_ble_eq_true rfl) rfl
  have j3 : ρ 3 % 4 = 1 := pz_gj hE 3 (Nat.le_of_ble_eq_true rfl) rfl
  have j4 : ρ 4 % 4 = 1 := pz_gj hE 4 (Nat.le_of_ble_eq_true rfl) rfl
  obtain ⟨-, -, -, -, -, F151⟩ : ay_ex hp 173 ∧ ay_ex hp 173 ∧ ay_ex hp 173 ∧ ay_ex hp 173 ∧ ay_ex hp 173 ∧ pz_y151 (ρ 0) (ρ 1) (ay_at hp 173 13) (ay_at hp 173 14) (ay_at hp 173 15) (ay_at hp 173 16) (ay_at hp 173 17) := (ax_XF_lt (x := 151) (Nat.le_of_ble_eq_true rfl)).mp (ax_gx hE (151, [3, 7]) (by decide))
  have F257 : py_257 (pz_gt (ρ 0)) (pz_gN (ρ 0)) ((ρ 1) / 4) (ρ 2) (ρ 3) (4008) := (ax_XF_lt (x := 257) (Nat.le_of_ble_eq_true rfl)).mp (ax_gx hE (257, [3, 7, 11, 15, 4008]) (by decide))
  obtain ⟨-, -, F242⟩ : ay_ex hp 173 ∧ ay_ex hp 185 ∧ py_y242 (ρ 2) (ay_at hp 173 27) (ay_at hp 185) := (ax_XF_lt (x := 242) (Nat.le_of_ble_eq_true rfl)).mp (ax_gx hE (242, [11]) (by decide))
  obtain ⟨-, -, F241⟩ : ay_ex hp 180 ∧ ay_ex hp 182 ∧ py_y241 0 (ρ 4) (ay_at hp 180 0) (ay_at hp 182) := (ax_XF_lt (x := 241) (Nat.le_of_ble_eq_true rfl)).mp (ax_gx hE (241, [19]) (by decide))
  have F251 : py_251 (ρ 4) (4008) (ρ 3) := (ax_XF_lt (x := 251) (Nat.le_of_ble_eq_true rfl)).mp (ax_gx hE (251, [19, 4008, 15]) (by decide))
  refine ⟨(fun y hy => by cases hy), _, List.mem_cons_self, ρ, fun _ _ => rfl, ax_px hE rfl (fun x hx => ?_)⟩
  rcases List.mem_cons.mp hx with e | hx
  · subst e
    refine (ax_XF_lt (x := 247) (Nat.le_of_ble_eq_true rfl)).mpr ?_
    show py_247 (pz_gt (ρ 0)) (pz_gN (ρ 0)) ((ρ 1) / 4) (ρ 2) (ρ 4)
    exact pm_mv2 F257 F251
  cases List.mem_singleton.mp hx
  refine (ax_XF_lt (x := 249) (Nat.le_of_ble_eq_true rfl)).mpr ?_
  show py_249 (ρ 2) (ρ 4) (ρ 2) (ρ 4)
  exact (rfl : py_neg _ _ = _)

theorem axq1_md1_5 : ax_RO ax_wM1 (ax_XM 1) axu1_md1_5 := axqg_md1_5 ax_WW1
theorem axq1_md1_6 : ax_RO ax_wM1 (ax_XM 1) axu1_md1_6 := axqg_md1_6 ax_WW1
theorem axq1_md1_7 : ax_RO ax_wM1 (ax_XM 1) axu1_md1_7 := axqg_md1_7 ax_WW1
theorem axq1_md2a : ax_RO ax_wM1 (ax_XM 1) axu1_md2a := axqg_md2a ax_WW1
theorem axq1_md2b : ax_RO ax_wM1 (ax_XM 1) axu1_md2b := axqg_md2b ax_WW1
theorem axq1_md3_5_6 : ax_RO ax_wM1 (ax_XM 1) axu1_md3_5_6 := axqg_md3_5_6 ax_WW1
theorem axq1_md3_5_7 : ax_RO ax_wM1 (ax_XM 1) axu1_md3_5_7 := axqg_md3_5_7 ax_WW1
theorem axq1_md3_6_7 : ax_RO ax_wM1 (ax_XM 1) axu1_md3_6_7 := axqg_md3_6_7 ax_WW1
theorem axq1_md3_6_5 : ax_RO ax_wM1 (ax_XM 1) axu1_md3_6_5 := axqg_md3_6_5 ax_WW1
theorem axq1_md4a_222_5 : ax_RO ax_wM1 (ax_XM 1) axu1_md4a_222_5 := axqg_md4a_222_5 ax_WW1
theorem axq1_md4b_222_5 : ax_RO ax_wM1 (ax_XM 1) axu1_md4b_222_5 := axqg_md4b_222_5 ax_WW1
theorem axq1_md4a_237_6 : ax_RO ax_wM1 (ax_XM 1) axu1_md4a_237_6 := axqg_md4a_237_6 ax_WW1
theorem axq1_md4b_237_6 : ax_RO ax_wM1 (ax_XM 1) axu1_md4b_237_6 := axqg_md4b_237_6 ax_WW1
theorem axq1_md4a_237_5 : ax_RO ax_wM1 (ax_XM 1) axu1_md4a_237_5 := axqg_md4a_237_5 ax_WW1
theorem axq1_md4b_237_5 : ax_RO ax_wM1 (ax_XM 1) axu1_md4b_237_5 := axqg_md4b_237_5 ax_WW1
theorem axq1_mv3 : ax_RO ax_wM1 (ax_XM 1) axu1_mv3 := by
  intro ρ hp hE hT
  have j0 : ρ 0 % 4 = 1 := pz_gj hE 0 (Nat.le_of_ble_eq_true rfl) rfl
  have j1 : ρ 1 % 4 = 1 := pz_gj hE 1 (Nat.le_of_ble_eq_true rfl) rfl
  have j2 : ρ 2 % 4 = 1 := pz_gj hE 2 (Nat.le_of_ble_eq_true rfl) rfl
  have j3 : ρ 3 % 4 = 1 := pz_gj hE 3 (Nat.le_of_ble_eq_true rfl) rfl
  have j4 : ρ 4 % 4 = 1 := pz_gj hE 4 (Nat.le_of_ble_eq_true rfl) rfl
  have j5 : ρ 5 % 4 = 1 := pz_gj hE 5 (Nat.le_of_ble_eq_true rfl) rfl
  obtain ⟨-, -, -, -, -, F151⟩ : ay_ex hp 173 ∧ ay_ex hp 173 ∧ ay_ex hp 173 ∧ ay_ex hp 173 ∧ ay_ex hp 173 ∧ pz_y151 (ρ 0) (ρ 1) (ay_at hp 173 13) (ay_at hp 173 14) (ay_at hp 173 15) (ay_at hp 173 16) (ay_at hp 173 17) := (ax_XF_lt (x := 151) (Nat.le_of_ble_eq_true rfl)).mp (ax_gx hE (151, [3, 7]) (by decide))
  have F247 : py_247 (pz_gt (ρ 0)) (pz_gN (ρ 0)) ((ρ 1) / 4) (ρ 2) (ρ 3) := (ax_XF_lt (x := 247) (Nat.le_of_ble_eq_true rfl)).mp (ax_gx hE (247, [3, 7, 11, 15]) (by decide))
  have F253 : py_253 (ρ 2) (ρ 3) (ρ 4) (ρ 5) := (ax_XF_lt (x := 253) (Nat.le_of_ble_eq_true rfl)).mp (ax_gx hE (253, [11, 15, 19, 23]) (by decide))
  obtain ⟨-, -, F242⟩ : ay_ex hp 173 ∧ ay_ex hp 185 ∧ py_y242 (ρ 4) (ay_at hp 173 27) (ay_at hp 185) := (ax_XF_lt (x := 242) (Nat.le_of_ble_eq_true rfl)).mp (ax_gx hE (242, [19]) (by decide))
  obtain ⟨-, -, F241⟩ : ay_ex hp 180 ∧ ay_ex hp 182 ∧ py_y241 0 (ρ 5) (ay_at hp 180 0) (ay_at hp 182) := (ax_XF_lt (x := 241) (Nat.le_of_ble_eq_true rfl)).mp (ax_gx hE (241, [23]) (by decide))
  refine ⟨(fun y hy => by cases hy), _, List.mem_cons_self, ρ, fun _ _ => rfl, ax_px hE rfl (fun x hx => ?_)⟩
  cases List.mem_singleton.mp hx
  refine (ax_XF_lt (x := 246) (Nat.le_of_ble_eq_true rfl)).mpr ?_
  show py_y246 (pz_gt (ρ 0)) (pz_gN (ρ 0)) ((ρ 1) / 4) (ρ 4) (ρ 5)
  exact pm_cq5 F247 F253

theorem axq1_mv4_40 : ax_RO ax_wM1 (ax_XM 1) axu1_mv4_40 := axqg_mv4_40 ax_WW1
theorem axq1_mv5_40 : ax_RO ax_wM1 (ax_XM 1) axu1_mv5_40 := axqg_mv5_40 ax_WW1
theorem axq1_mv4_5 : ax_RO ax_wM1 (ax_XM 1) axu1_mv4_5 := axqg_mv4_5 ax_WW1
theorem axq1_mv5_5 : ax_RO ax_wM1 (ax_XM 1) axu1_mv5_5 := axqg_mv5_5 ax_WW1
theorem axq1_bn_43 : ax_RO ax_wM1 (ax_XM 1) axu1_bn_43 := axqg_bn_43 ax_WW1
theorem axq1_bn_45 : ax_RO ax_wM1 (ax_XM 1) axu1_bn_45 := axqg_bn_45 ax_WW1
theorem axq1_bn_42 : ax_RO ax_wM1 (ax_XM 1) axu1_bn_42 := axqg_bn_42 ax_WW1
theorem axq1_bn_47 : ax_RO ax_wM1 (ax_XM 1) axu1_bn_47 := axqg_bn_47 ax_WW1
theorem axq1_bn_37 : ax_RO ax_wM1 (ax_XM 1) axu1_bn_37 := axqg_bn_37 ax_WW1
theorem axq1_bnD : ax_RO ax_wM1 (ax_XM 1) axu1_bnD := axqg_bnD ax_WW1
theorem axq1_bnN : ax_RO ax_wM1 (ax_XM 1) axu1_bnN := axqg_bnN ax_WW1
theorem axq1_bm_43 : ax_RO ax_wM1 (ax_XM 1) axu1_bm_43 := axqg_bm_43 ax_WW1
theorem axq1_bm_45 : ax_RO ax_wM1 (ax_XM 1) axu1_bm_45 := axqg_bm_45 ax_WW1
theorem axq1_bm_42 : ax_RO ax_wM1 (ax_XM 1) axu1_bm_42 := axqg_bm_42 ax_WW1
theorem axq1_bm_47 : ax_RO ax_wM1 (ax_XM 1) axu1_bm_47 := axqg_bm_47 ax_WW1
theorem axq1_bm_37 : ax_RO ax_wM1 (ax_XM 1) axu1_bm_37 := axqg_bm_37 ax_WW1
theorem axq1_mb1 : ax_RO ax_wM1 (ax_XM 1) axu1_mb1 := by
  intro ρ hp hE hT
  have j0 : ρ 0 % 4 = 1 := pz_gj hE 0 (Nat.le_of_ble_eq_true rfl) rfl
  have j1 : ρ 1 % 4 = 1 := pz_gj hE 1 (Nat.le_of_ble_eq_true rfl) rfl
  have j2 : ρ 2 % 4 = 1 := pz_gj hE 2 (Nat.le_of_ble_eq_true rfl) rfl
  obtain ⟨-, -, -, -, -, F151⟩ : ay_ex hp 173 ∧ ay_ex hp 173 ∧ ay_ex hp 173 ∧ ay_ex hp 173 ∧ ay_ex hp 173 ∧ pz_y151 (ρ 0) (ρ 1) (ay_at hp 173 13) (ay_at hp 173 14) (ay_at hp 173 15) (ay_at hp 173 16) (ay_at hp 173 17) := (ax_XF_lt (x := 151) (Nat.le_of_ble_eq_true rfl)).mp (ax_gx hE (151, [3, 7]) (by decide))
  obtain ⟨-, -, -, -, -, -, -, -, -, -, -, F152⟩ : ay_ex hp 175 ∧ ay_ex hp 176 ∧ ay_ex hp 177 ∧ ay_ex hp 178 ∧ ay_ex hp 179 ∧ ay_ex hp 173 ∧ ay_ex hp 173 ∧ ay_ex hp 173 ∧ ay_ex hp 173 ∧ ay_ex hp 173 ∧ ay_ex hp 181 ∧ pz_y152 0 (ρ 0) (ρ 1) (ay_at hp 175 0) (ay_at hp 176 0) (ay_at hp 177 0) (ay_at hp 178 0) (ay_at hp 179 0) (ay_at hp 173 23) (ay_at hp 173 25) (ay_at hp 173 24) (ay_at hp 173 18) (ay_at hp 173 19) (ay_at hp 181) := (ax_XF_lt (x := 152) (Nat.le_of_ble_eq_true rfl)).mp (ax_gx hE (152, [3, 7]) (by decide))
  have F179 : pz7 (pz_gt (ρ 0)) (pz_gN (ρ 0)) ((ρ 1) / 4) 9 := (ax_XF_lt (x := 179) (Nat.le_of_ble_eq_true rfl)).mp (ax_gx hE (179, [3, 7]) (by decide))
  have F190 : (pz90 (pz_gt (ρ 0)) (pz_gN (ρ 0)) ((ρ 1) / 4) ((ρ 2) / 4) ∧ 1 ≤ (ρ 2) / 4) := (ax_XF_lt (x := 190) (Nat.le_of_ble_eq_true rfl)).mp (ax_gx hE (190, [3, 7, 11]) (by decide))
  have F198 : pz_op (pz_kd (pz_gt (ρ 0)) (pz_gN (ρ 0)) (pz_p (pz_cF (ρ 0) (ρ 1)))) = true := (ax_XF_lt (x := 198) (Nat.le_of_ble_eq_true rfl)).mp (ax_gx hE (198, [3, 7]) (by decide))
  have st := pq_op (pz_m50 F151 F152) F179 F190.1 F198
  obtain ⟨ρ', h1, h2⟩ := pz_pn1 (K := ρ 1 / 4 + 1) (xf := [(153, [3, 15]), (182, [7, 15]), (152, [3, 15]), (178, [3, 15]), (190, [3, 15, 11])]) hE (by decide) (fun ρ' h1 h2 x hx => by
    have q0 : ρ' 0 = ρ 0 := h1 0 (by decide)
    have q1 : ρ' 1 = ρ 1 := h1 1 (by decide)
    have q2 : ρ' 2 = ρ 2 := h1 2 (by decide)
    rcases List.mem_cons.mp hx with e | hx
    · subst e
      refine (ax_XF_lt (x := 153) (Nat.le_of_ble_eq_true rfl)).mpr ?_
      show ay_ex hp 173 ∧ pz_at (pz_gt (ρ' 0)) (pz_gN (ρ' 0)) (ay_ln (ay_at hp 173 13)) = pz_at (pz_gt (ρ' 0)) (pz_gN (ρ' 0)) (pz_p (pz_cF (ρ' 0) (ρ' 3)))
      rw [q0, h2]
      refine ⟨(ax_cellT hT (q := 173) (g := 11) (ax_wc ax_WW1 ax_cg_173)), ?_⟩
      exact pz_l153 (pz_41 _) st.1.1
    rcases List.mem_cons.mp hx with e | hx
    · subst e
      refine (ax_XF_lt (x := 182) (Nat.le_of_ble_eq_true rfl)).mpr ?_
      show (ρ' 3) / 4 = (ρ' 1) / 4 + 1
      rw [q1, h2]
      rw [pz_41]
    rcases List.mem_cons.mp hx with e | hx
    · subst e
      refine (ax_XF_lt (x := 152) (Nat.le_of_ble_eq_true rfl)).mpr ?_
      show ay_ex hp 175 ∧ ay_ex hp 176 ∧ ay_ex hp 177 ∧ ay_ex hp 178 ∧ ay_ex hp 179 ∧ ay_ex hp 173 ∧ ay_ex hp 173 ∧ ay_ex hp 173 ∧ ay_ex hp 173 ∧ ay_ex hp 173 ∧ ay_ex hp 181 ∧ pz_y152 0 (ρ' 0) (ρ' 3) (ay_at hp 175 0) (ay_at hp 176 0) (ay_at hp 177 0) (ay_at hp 178 0) (ay_at hp 179 0) (ay_at hp 173 23) (ay_at hp 173 25) (ay_at hp 173 24) (ay_at hp 173 18) (ay_at hp 173 19) (ay_at hp 181)
      rw [q0, h2]
      refine ⟨(ax_cellT hT (q := 175) (g := 45) (ax_wc ax_WW1 ax_cg_175)), (ax_cellT hT (q := 176) (g := 46) (ax_wc ax_WW1 ax_cg_176)), (ax_cellT hT (q := 177) (g := 47) (ax_wc ax_WW1 ax_cg_177)), (ax_cellT hT (q := 178) (g := 48) (ax_wc ax_WW1 ax_cg_178)), (ax_cellT hT (q := 179) (g := 49) (ax_wc ax_WW1 ax_cg_179)), (ax_cellT hT (q := 173) (g := 11) (ax_wc ax_WW1 ax_cg_173)), (ax_cellT hT (q := 173) (g := 11) (ax_wc ax_WW1 ax_cg_173)), (ax_cellT hT (q := 173) (g := 11) (ax_wc ax_WW1 ax_cg_173)), (ax_cellT hT (q := 173) (g := 11) (ax_wc ax_WW1 ax_cg_173)), (ax_cellT hT (q := 173) (g := 11) (ax_wc ax_WW1 ax_cg_173)), (ax_cellT hT (q := 181) (g := 51) (ax_wc ax_WW1 ax_cg_181)), ?_⟩
      exact pz_l152 (pz_41 _) st.1.2
    rcases List.mem_cons.mp hx with e | hx
    · subst e
      refine (ax_XF_lt (x := 178) (Nat.le_of_ble_eq_true rfl)).mpr ?_
      show pz7 (pz_gt (ρ' 0)) (pz_gN (ρ' 0)) ((ρ' 3) / 4) 8
      rw [q0, h2]
      rw [pz_41]
      exact st.2.1
    cases List.mem_singleton.mp hx
    refine (ax_XF_lt (x := 190) (Nat.le_of_ble_eq_true rfl)).mpr ?_
    show (pz90 (pz_gt (ρ' 0)) (pz_gN (ρ' 0)) ((ρ' 3) / 4) ((ρ' 2) / 4) ∧ 1 ≤ (ρ' 2) / 4)
    rw [q0, q2, h2]
    exact ⟨pz_l197 (pz_41 _) st.2.2, F190.2⟩)
  exact ⟨(fun y hy => by cases hy), _, List.mem_cons_self, ρ', h1, h2⟩

theorem axq1_mc0 : ax_RO ax_wM1 (ax_XM 1) axu1_mc0 := by
  intro ρ hp hE hT
  have j0 : ρ 0 % 4 = 1 := pz_gj hE 0 (Nat.le_of_ble_eq_true rfl) rfl
  have j1 : ρ 1 % 4 = 1 := pz_gj hE 1 (Nat.le_of_ble_eq_true rfl) rfl
  obtain ⟨i2a, i2b, i2c, i2d⟩ := pz_gi hE 2 2147484651 2147484655 (Nat.le_of_ble_eq_true rfl) rfl
  obtain ⟨-, -, F242⟩ : ay_ex hp 173 ∧ ay_ex hp 185 ∧ py_y242 (ρ 0) (ay_at hp 173 27) (ay_at hp 185) := (ax_XF_lt (x := 242) (Nat.le_of_ble_eq_true rfl)).mp (ax_gx hE (242, [3]) (by decide))
  obtain ⟨-, -, F241⟩ : ay_ex hp 180 ∧ ay_ex hp 182 ∧ py_y241 0 (ρ 1) (ay_at hp 180 0) (ay_at hp 182) := (ax_XF_lt (x := 241) (Nat.le_of_ble_eq_true rfl)).mp (ax_gx hE (241, [7]) (by decide))
  refine ⟨(fun y hy => by cases hy), _, List.mem_cons_self, ρ, fun _ _ => rfl, ax_px hE rfl (fun x hx => ?_)⟩
  cases List.mem_singleton.mp hx
  refine (ax_XF_lt (x := 250) (Nat.le_of_ble_eq_true rfl)).mpr ?_
  show py_250 (ρ 2) (ρ 0) (ρ 1) (ρ 0) (ρ 1)
  exact (rfl : py_pop _ _ _ = _)

theorem axq1_mc1 : ax_RO ax_wM1 (ax_XM 1) axu1_mc1 := axqg_mc1 ax_WW1
theorem axq1_mc2a : ax_RO ax_wM1 (ax_XM 1) axu1_mc2a := by
  intro ρ hp hE hT
  have j0 : ρ 0 % 4 = 1 := pz_gj hE 0 (Nat.le_of_ble_eq_true rfl) rfl
  have j1 : ρ 1 % 4 = 1 := pz_gj hE 1 (Nat.le_of_ble_eq_true rfl) rfl
  have j2 : ρ 2 % 4 = 1 := pz_gj hE 2 (Nat.le_of_ble_eq_true rfl) rfl
  have j3 : ρ 3 % 4 = 1 := pz_gj hE 3 (Nat.le_of_ble_eq_true rfl) rfl
  have j4 : ρ 4 % 4 = 1 := pz_gj hE 4 (Nat.le_of_ble_eq_true rfl) rfl
  have j5 : ρ 5 % 4 = 1 := pz_gj hE 5 (Nat.le_of_ble_eq_true rfl) rfl
  obtain ⟨i6a, i6b, i6c, i6d⟩ := pz_gi hE 6 2147484651 2147484652 (Nat.le_of_ble_eq_true rfl) rfl
  obtain ⟨i7a, i7b, i7c, i7d⟩ := pz_gi hE 7 2147484651 2147484655 (Nat.le_of_ble_eq_true rfl) rfl
  obtain ⟨i8a, i8b, i8c, i8d⟩ := pz_gi hE 8 2147484651 2147484655 (Nat.le_of_ble_eq_true rfl) rfl
  obtain ⟨-, -, F242⟩ : ay_ex hp 173 ∧ ay_ex hp 185 ∧ py_y242 (ρ 4) (ay_at hp 173 27) (ay_at hp 185) := (ax_XF_lt (x := 242) (Nat.le_of_ble_eq_true rfl)).mp (ax_gx hE (242, [19]) (by decide))
  obtain ⟨-, -, F241⟩ : ay_ex hp 180 ∧ ay_ex hp 182 ∧ py_y241 0 (ρ 5) (ay_at hp 180 0) (ay_at hp 182) := (ax_XF_lt (x := 241) (Nat.le_of_ble_eq_true rfl)).mp (ax_gx hE (241, [23]) (by decide))
  have F251 : py_251 (ρ 2) (ρ 7) (ρ 4) := (ax_XF_lt (x := 251) (Nat.le_of_ble_eq_true rfl)).mp (ax_gx hE (251, [11, 31, 19]) (by decide))
  have F251a : py_251 (ρ 5) (ρ 7) (ρ 3) := (ax_XF_lt (x := 251) (Nat.le_of_ble_eq_true rfl)).mp (ax_gx hE (251, [23, 31, 15]) (by decide))
  have F256 : py_256 (ρ 2) (ρ 8) := (ax_XF_lt (x := 256) (Nat.le_of_ble_eq_true rfl)).mp (ax_gx hE (256, [11, 35]) (by decide))
  have F250 : py_250 (ρ 6) (ρ 0) (ρ 1) (ρ 2) (ρ 3) := (ax_XF_lt (x := 250) (Nat.le_of_ble_eq_true rfl)).mp (ax_gx hE (250, [27, 3, 7, 11, 15]) (by decide))
  refine ⟨(fun y hy => by cases hy), _, List.mem_cons_self, ρ, fun _ _ => rfl, ax_px hE rfl (fun x hx => ?_)⟩
  cases List.mem_singleton.mp hx
  refine (ax_XF_lt (x := 250) (Nat.le_of_ble_eq_true rfl)).mpr ?_
  show py_250 (ρ 6) (ρ 0) (ρ 1) (ρ 4) (ρ 5)
  exact pm_cq1 F250 F251 F251a (by rw [py_bd_a (c := ρ 6 / 4) (by omega) (by omega)]; exact py_bd_1 (by omega) (by omega))

theorem axq1_mc2b : ax_RO ax_wM1 (ax_XM 1) axu1_mc2b := by
  intro ρ hp hE hT
  have j0 : ρ 0 % 4 = 1 := pz_gj hE 0 (Nat.le_of_ble_eq_true rfl) rfl
  have j1 : ρ 1 % 4 = 1 := pz_gj hE 1 (Nat.le_of_ble_eq_true rfl) rfl
  have j2 : ρ 2 % 4 = 1 := pz_gj hE 2 (Nat.le_of_ble_eq_true rfl) rfl
  have j3 : ρ 3 % 4 = 1 := pz_gj hE 3 (Nat.le_of_ble_eq_true rfl) rfl
  have j4 : ρ 4 % 4 = 1 := pz_gj hE 4 (Nat.le_of_ble_eq_true rfl) rfl
  have j5 : ρ 5 % 4 = 1 := pz_gj hE 5 (Nat.le_of_ble_eq_true rfl) rfl
  obtain ⟨i6a, i6b, i6c, i6d⟩ := pz_gi hE 6 2147484653 2147484655 (Nat.le_of_ble_eq_true rfl) rfl
  obtain ⟨i7a, i7b, i7c, i7d⟩ := pz_gi hE 7 2147484651 2147484655 (Nat.le_of_ble_eq_true rfl) rfl
  obtain ⟨i8a, i8b, i8c, i8d⟩ := pz_gi hE 8 2147484653 2147484655 (Nat.le_of_ble_eq_true rfl) rfl
  obtain ⟨-, -, F242⟩ : ay_ex hp 173 ∧ ay_ex hp 185 ∧ py_y242 (ρ 4) (ay_at hp 173 27) (ay_at hp 185) := (ax_XF_lt (x := 242) (Nat.le_of_ble_eq_true rfl)).mp (ax_gx hE (242, [19]) (by decide))
  obtain ⟨-, -, F241⟩ : ay_ex hp 180 ∧ ay_ex hp 182 ∧ py_y241 0 (ρ 5) (ay_at hp 180 0) (ay_at hp 182) := (ax_XF_lt (x := 241) (Nat.le_of_ble_eq_true rfl)).mp (ax_gx hE (241, [23]) (by decide))
  have F251 : py_251 (ρ 2) (ρ 7) (ρ 4) := (ax_XF_lt (x := 251) (Nat.le_of_ble_eq_true rfl)).mp (ax_gx hE (251, [11, 31, 19]) (by decide))
  have F251a : py_251 (ρ 5) (ρ 7) (ρ 3) := (ax_XF_lt (x := 251) (Nat.le_of_ble_eq_true rfl)).mp (ax_gx hE (251, [23, 31, 15]) (by decide))
  have F256 : py_256 (ρ 2) (ρ 8) := (ax_XF_lt (x := 256) (Nat.le_of_ble_eq_true rfl)).mp (ax_gx hE (256, [11, 35]) (by decide))
  have F250 : py_250 (ρ 6) (ρ 0) (ρ 1) (ρ 2) (ρ 3) := (ax_XF_lt (x := 250) (Nat.le_of_ble_eq_true rfl)).mp (ax_gx hE (250, [27, 3, 7, 11, 15]) (by decide))
  have e := pm_mc2 F251 F256
  refine ⟨(fun y hy => by cases hy), _, List.mem_cons_self, ρ, fun _ _ => rfl, ax_px hE rfl (fun x hx => ?_)⟩
  cases List.mem_singleton.mp hx
  refine (ax_XF_lt (x := 250) (Nat.le_of_ble_eq_true rfl)).mpr ?_
  show py_250 (ρ 6) (ρ 0) (ρ 1) (ρ 4) (ρ 5)
  exact pm_cq1 F250 F251 F251a (by rw [py_bd_b (c := ρ 6 / 4) (by omega) (by omega), py_bd_b (c := ρ 7 / 4) (by omega) (by omega)]; exact Nat.le_refl 2)

theorem axq1_mc3 : ax_RO ax_wM1 (ax_XM 1) axu1_mc3 := by
  intro ρ hp hE hT
  have j0 : ρ 0 % 4 = 1 := pz_gj hE 0 (Nat.le_of_ble_eq_true rfl) rfl
  have j1 : ρ 1 % 4 = 1 := pz_gj hE 1 (Nat.le_of_ble_eq_true rfl) rfl
  have j2 : ρ 2 % 4 = 1 := pz_gj hE 2 (Nat.le_of_ble_eq_true rfl) rfl
  have j3 : ρ 3 % 4 = 1 := pz_gj hE 3 (Nat.le_of_ble_eq_true rfl) rfl
  obtain ⟨i4a, i4b, i4c, i4d⟩ := pz_gi hE 4 2147483648 2147483648 (Nat.le_of_ble_eq_true rfl) rfl
  obtain ⟨i5a, i5b, i5c, i5d⟩ := pz_gi hE 5 2147484651 2147484655 (Nat.le_of_ble_eq_true rfl) rfl
  have c_opened : ay_at hp 173 27 = some (ρ 4) := ay_gfj hE 702 108 19 173 27 (by decide) (ax_vlq rfl rfl) (ax_vlj rfl rfl)
  obtain ⟨-, -, F242⟩ : ay_ex hp 173 ∧ ay_ex hp 185 ∧ py_y242 (ρ 2) (ay_at hp 173 27) (ay_at hp 185) := (ax_XF_lt (x := 242) (Nat.le_of_ble_eq_true rfl)).mp (ax_gx hE (242, [11]) (by decide))
  rw [c_opened] at F242
  obtain ⟨-, -, F241⟩ : ay_ex hp 180 ∧ ay_ex hp 182 ∧ py_y241 0 (ρ 3) (ay_at hp 180 0) (ay_at hp 182) := (ax_XF_lt (x := 241) (Nat.le_of_ble_eq_true rfl)).mp (ax_gx hE (241, [15]) (by decide))
  have F250 : py_250 (ρ 5) (ρ 0) (ρ 1) (ρ 2) (ρ 3) := (ax_XF_lt (x := 250) (Nat.le_of_ble_eq_true rfl)).mp (ax_gx hE (250, [23, 3, 7, 11, 15]) (by decide))
  refine ⟨(fun y hy => by cases hy), _, List.mem_cons_self, ρ, fun _ _ => rfl, ax_px hE rfl (fun x hx => ?_)⟩
  cases List.mem_singleton.mp hx
  refine (ax_XF_lt (x := 260) (Nat.le_of_ble_eq_true rfl)).mpr ?_
  show py_260 (ρ 5) (ρ 0) (ρ 1) (ρ 2) (ρ 3)
  exact pm_mc4 F250 (by rw [py_none F242 (show ρ 4 / 4 = 0 by omega)]; exact (show 0 < _ from py_bd_1 (by omega) (by omega)))

theorem axq1_mc4a : ax_RO ax_wM1 (ax_XM 1) axu1_mc4a := by
  intro ρ hp hE hT
  have j0 : ρ 0 % 4 = 1 := pz_gj hE 0 (Nat.le_of_ble_eq_true rfl) rfl
  have j1 : ρ 1 % 4 = 1 := pz_gj hE 1 (Nat.le_of_ble_eq_true rfl) rfl
  have j2 : ρ 2 % 4 = 1 := pz_gj hE 2 (Nat.le_of_ble_eq_true rfl) rfl
  have j3 : ρ 3 % 4 = 1 := pz_gj hE 3 (Nat.le_of_ble_eq_true rfl) rfl
  obtain ⟨i4a, i4b, i4c, i4d⟩ := pz_gi hE 4 2147483649 2147483748 (Nat.le_of_ble_eq_true rfl) rfl
  obtain ⟨i5a, i5b, i5c, i5d⟩ := pz_gi hE 5 2147483648 2147483747 (Nat.le_of_ble_eq_true rfl) rfl
  obtain ⟨i6a, i6b, i6c, i6d⟩ := pz_gi hE 6 2147484651 2147484652 (Nat.le_of_ble_eq_true rfl) rfl
  obtain ⟨i7a, i7b, i7c, i7d⟩ := pz_gi hE 7 2147484656 2147484657 (Nat.le_of_ble_eq_true rfl) rfl
  have c_opened : ay_at hp 173 27 = some (ρ 4) := ay_gfj hE 702 108 19 173 27 (by decide) (ax_vlq rfl rfl) (ax_vlj rfl rfl)
  have s1 : (ρ 5 / 4 + 2147483648) % 4294967296 + (4 / 4 + 2147483648) % 4294967296 = (ρ 4 / 4 + 2147483648) % 4294967296 + 2147483648 := pz_gs hE 23 4 19 (by decide)
  have c_open : ay_at hp 185 (ρ 5 / 4) = some (ρ 7) := ay_gf hE 750 23 31 185 (by decide) (ax_vlq rfl rfl)
  obtain ⟨-, -, F242⟩ : ay_ex hp 173 ∧ ay_ex hp 185 ∧ py_y242 (ρ 2) (ay_at hp 173 27) (ay_at hp 185) := (ax_XF_lt (x := 242) (Nat.le_of_ble_eq_true rfl)).mp (ax_gx hE (242, [11]) (by decide))
  rw [c_opened] at F242
  obtain ⟨-, -, F241⟩ : ay_ex hp 180 ∧ ay_ex hp 182 ∧ py_y241 0 (ρ 3) (ay_at hp 180 0) (ay_at hp 182) := (ax_XF_lt (x := 241) (Nat.le_of_ble_eq_true rfl)).mp (ax_gx hE (241, [15]) (by decide))
  have F250 : py_250 (ρ 6) (ρ 0) (ρ 1) (ρ 2) (ρ 3) := (ax_XF_lt (x := 250) (Nat.le_of_ble_eq_true rfl)).mp (ax_gx hE (250, [27, 3, 7, 11, 15]) (by decide))
  obtain ⟨c, T, t1, t2, t3, t4, t5, t6, t7⟩ := py_take (o := ρ 5 / 4) F242 (show ρ 4 / 4 = ρ 5 / 4 + 1 by omega)
  rw [c_open] at t3
  have te := Option.some.inj t3
  have tk : c = ρ 7 / 4 := by omega
  refine ⟨(fun y hy => by cases hy), _, List.mem_cons_self, ρ, fun _ _ => rfl, ax_px hE rfl (fun x hx => ?_)⟩
  cases List.mem_singleton.mp hx
  refine (ax_XF_lt (x := 260) (Nat.le_of_ble_eq_true rfl)).mpr ?_
  show py_260 (ρ 6) (ρ 0) (ρ 1) (ρ 2) (ρ 3)
  exact pm_mc4 F250 (by rw [t1]; show py_bd c < _; rw [tk, py_bd_c (by omega) (by omega)]; exact py_bd_1 (by omega) (by omega))

theorem axq1_mc4b : ax_RO ax_wM1 (ax_XM 1) axu1_mc4b := by
  intro ρ hp hE hT
  have j0 : ρ 0 % 4 = 1 := pz_gj hE 0 (Nat.le_of_ble_eq_true rfl) rfl
  have j1 : ρ 1 % 4 = 1 := pz_gj hE 1 (Nat.le_of_ble_eq_true rfl) rfl
  have j2 : ρ 2 % 4 = 1 := pz_gj hE 2 (Nat.le_of_ble_eq_true rfl) rfl
  have j3 : ρ 3 % 4 = 1 := pz_gj hE 3 (Nat.le_of_ble_eq_true rfl) rfl
  obtain ⟨i4a, i4b, i4c, i4d⟩ := pz_gi hE 4 2147483649 2147483748 (Nat.le_of_ble_eq_true rfl) rfl
  obtain ⟨i5a, i5b, i5c, i5d⟩ := pz_gi hE 5 2147483648 2147483747 (Nat.le_of_ble_eq_true rfl) rfl
  obtain ⟨i6a, i6b, i6c, i6d⟩ := pz_gi hE 6 2147484653 2147484655 (Nat.le_of_ble_eq_true rfl) rfl
  obtain ⟨i7a, i7b, i7c, i7d⟩ := pz_gi hE 7 2147484651 2147484652 (Nat.le_of_ble_eq_true rfl) rfl
  have c_opened : ay_at hp 173 27 = some (ρ 4) := ay_gfj hE 702 108 19 173 27 (by decide) (ax_vlq rfl rfl) (ax_vlj rfl rfl)
  have s1 : (ρ 5 / 4 + 2147483648) % 4294967296 + (4 / 4 + 2147483648) % 4294967296 = (ρ 4 / 4 + 2147483648) % 4294967296 + 2147483648 := pz_gs hE 23 4 19 (by decide)
  have c_open : ay_at hp 185 (ρ 5 / 4) = some (ρ 7) := ay_gf hE 750 23 31 185 (by decide) (ax_vlq rfl rfl)
  obtain ⟨-, -, F242⟩ : ay_ex hp 173 ∧ ay_ex hp 185 ∧ py_y242 (ρ 2) (ay_at hp 173 27) (ay_at hp 185) := (ax_XF_lt (x := 242) (Nat.le_of_ble_eq_true rfl)).mp (ax_gx hE (242, [11]) (by decide))
  rw [c_opened] at F242
  obtain ⟨-, -, F241⟩ : ay_ex hp 180 ∧ ay_ex hp 182 ∧ py_y241 0 (ρ 3) (ay_at hp 180 0) (ay_at hp 182) := (ax_XF_lt (x := 241) (Nat.le_of_ble_eq_true rfl)).mp (ax_gx hE (241, [15]) (by decide))
  have F250 : py_250 (ρ 6) (ρ 0) (ρ 1) (ρ 2) (ρ 3) := (ax_XF_lt (x := 250) (Nat.le_of_ble_eq_true rfl)).mp (ax_gx hE (250, [27, 3, 7, 11, 15]) (by decide))
  obtain ⟨c, T, t1, t2, t3, t4, t5, t6, t7⟩ := py_take (o := ρ 5 / 4) F242 (show ρ 4 / 4 = ρ 5 / 4 + 1 by omega)
  rw [c_open] at t3
  have te := Option.some.inj t3
  have tk : c = ρ 7 / 4 := by omega
  refine ⟨(fun y hy => by cases hy), _, List.mem_cons_self, ρ, fun _ _ => rfl, ax_px hE rfl (fun x hx => ?_)⟩
  cases List.mem_singleton.mp hx
  refine (ax_XF_lt (x := 260) (Nat.le_of_ble_eq_true rfl)).mpr ?_
  show py_260 (ρ 6) (ρ 0) (ρ 1) (ρ 2) (ρ 3)
  exact pm_mc4 F250 (by rw [t1]; show py_bd c < _; rw [tk, py_bd_a (by omega) (by omega), py_bd_b (by omega) (by omega)]; decide)

theorem axq1_mc4c : ax_RO ax_wM1 (ax_XM 1) axu1_mc4c := by
  intro ρ hp hE hT
  have j0 : ρ 0 % 4 = 1 := pz_gj hE 0 (Nat.le_of_ble_eq_true rfl) rfl
  have j1 : ρ 1 % 4 = 1 := pz_gj hE 1 (Nat.le_of_ble_eq_true rfl) rfl
  have j2 : ρ 2 % 4 = 1 := pz_gj hE 2 (Nat.le_of_ble_eq_true rfl) rfl
  have j3 : ρ 3 % 4 = 1 := pz_gj hE 3 (Nat.le_of_ble_eq_true rfl) rfl
  obtain ⟨i4a, i4b, i4c, i4d⟩ := pz_gi hE 4 2147483649 2147483748 (Nat.le_of_ble_eq_true rfl) rfl
  obtain ⟨i5a, i5b, i5c, i5d⟩ := pz_gi hE 5 2147483648 2147483747 (Nat.le_of_ble_eq_true rfl) rfl
  obtain ⟨i6a, i6b, i6c, i6d⟩ := pz_gi hE 6 2147484653 2147484655 (Nat.le_of_ble_eq_true rfl) rfl
  obtain ⟨i7a, i7b, i7c, i7d⟩ := pz_gi hE 7 2147484656 2147484657 (Nat.le_of_ble_eq_true rfl) rfl
  have c_opened : ay_at hp 173 27 = some (ρ 4) := ay_gfj hE 702 108 19 173 27 (by decide) (ax_vlq rfl rfl) (ax_vlj rfl rfl)
  have s1 : (ρ 5 / 4 + 2147483648) % 4294967296 + (4 / 4 + 2147483648) % 4294967296 = (ρ 4 / 4 + 2147483648) % 4294967296 + 2147483648 := pz_gs hE 23 4 19 (by decide)
  have c_open : ay_at hp 185 (ρ 5 / 4) = some (ρ 7) := ay_gf hE 750 23 31 185 (by decide) (ax_vlq rfl rfl)
  obtain ⟨-, -, F242⟩ : ay_ex hp 173 ∧ ay_ex hp 185 ∧ py_y242 (ρ 2) (ay_at hp 173 27) (ay_at hp 185) := (ax_XF_lt (x := 242) (Nat.le_of_ble_eq_true rfl)).mp (ax_gx hE (242, [11]) (by decide))
  rw [c_opened] at F242
  obtain ⟨-, -, F241⟩ : ay_ex hp 180 ∧ ay_ex hp 182 ∧ py_y241 0 (ρ 3) (ay_at hp 180 0) (ay_at hp 182) := (ax_XF_lt (x := 241) (Nat.le_of_ble_eq_true rfl)).mp (ax_gx hE (241, [15]) (by decide))
  have F250 : py_250 (ρ 6) (ρ 0) (ρ 1) (ρ 2) (ρ 3) := (ax_XF_lt (x := 250) (Nat.le_of_ble_eq_true rfl)).mp (ax_gx hE (250, [27, 3, 7, 11, 15]) (by decide))
  obtain ⟨c, T, t1, t2, t3, t4, t5, t6, t7⟩ := py_take (o := ρ 5 / 4) F242 (show ρ 4 / 4 = ρ 5 / 4 + 1 by omega)
  rw [c_open] at t3
  have te := Option.some.inj t3
  have tk : c = ρ 7 / 4 := by omega
  refine ⟨(fun y hy => by cases hy), _, List.mem_cons_self, ρ, fun _ _ => rfl, ax_px hE rfl (fun x hx => ?_)⟩
  cases List.mem_singleton.mp hx
  refine (ax_XF_lt (x := 260) (Nat.le_of_ble_eq_true rfl)).mpr ?_
  show py_260 (ρ 6) (ρ 0) (ρ 1) (ρ 2) (ρ 3)
  exact pm_mc4 F250 (by rw [t1]; show py_bd c < _; rw [tk, py_bd_c (by omega) (by omega)]; exact py_bd_1 (by omega) (by omega))

theorem axq1_mc5 : ax_RO ax_wM1 (ax_XM 1) axu1_mc5 := by
  intro ρ hp hE hT
  have j0 : ρ 0 % 4 = 1 := pz_gj hE 0 (Nat.le_of_ble_eq_true rfl) rfl
  have j1 : ρ 1 % 4 = 1 := pz_gj hE 1 (Nat.le_of_ble_eq_true rfl) rfl
  have j2 : ρ 2 % 4 = 1 := pz_gj hE 2 (Nat.le_of_ble_eq_true rfl) rfl
  have j3 : ρ 3 % 4 = 1 := pz_gj hE 3 (Nat.le_of_ble_eq_true rfl) rfl
  have j4 : ρ 4 % 4 = 1 := pz_gj hE 4 (Nat.le_of_ble_eq_true rfl) rfl
  have j5 : ρ 5 % 4 = 1 := pz_gj hE 5 (Nat.le_of_ble_eq_true rfl) rfl
  have j6 : ρ 6 % 4 = 1 := pz_gj hE 6 (Nat.le_of_ble_eq_true rfl) rfl
  have j7 : ρ 7 % 4 = 1 := pz_gj hE 7 (Nat.le_of_ble_eq_true rfl) rfl
  obtain ⟨i8a, i8b, i8c, i8d⟩ := pz_gi hE 8 2147484651 2147484655 (Nat.le_of_ble_eq_true rfl) rfl
  obtain ⟨-, -, -, -, -, F151⟩ : ay_ex hp 173 ∧ ay_ex hp 173 ∧ ay_ex hp 173 ∧ ay_ex hp 173 ∧ ay_ex hp 173 ∧ pz_y151 (ρ 0) (ρ 1) (ay_at hp 173 13) (ay_at hp 173 14) (ay_at hp 173 15) (ay_at hp 173 16) (ay_at hp 173 17) := (ax_XF_lt (x := 151) (Nat.le_of_ble_eq_true rfl)).mp (ax_gx hE (151, [3, 7]) (by decide))
  have F182 : (ρ 2) / 4 = (ρ 1) / 4 + 1 := (ax_XF_lt (x := 182) (Nat.le_of_ble_eq_true rfl)).mp (ax_gx hE (182, [7, 11]) (by decide))
  have F179 : pz7 (pz_gt (ρ 0)) (pz_gN (ρ 0)) ((ρ 1) / 4) 9 := (ax_XF_lt (x := 179) (Nat.le_of_ble_eq_true rfl)).mp (ax_gx hE (179, [3, 7]) (by decide))
  have F198 : pz_op (pz_kd (pz_gt (ρ 0)) (pz_gN (ρ 0)) (pz_p (pz_cF (ρ 0) (ρ 1)))) = true := (ax_XF_lt (x := 198) (Nat.le_of_ble_eq_true rfl)).mp (ax_gx hE (198, [3, 7]) (by decide))
  have F259 : (ρ 8) / 4 = py_op (pz_kd (pz_gt (ρ 0)) (pz_gN (ρ 0)) (pz_p (pz_cF (ρ 0) (ρ 1)))) := (ax_XF_lt (x := 259) (Nat.le_of_ble_eq_true rfl)).mp (ax_gx hE (259, [3, 7, 35]) (by decide))
  have F246 : py_y246 (pz_gt (ρ 0)) (pz_gN (ρ 0)) ((ρ 1) / 4) (ρ 3) (ρ 4) := (ax_XF_lt (x := 246) (Nat.le_of_ble_eq_true rfl)).mp (ax_gx hE (246, [3, 7, 15, 19]) (by decide))
  have F260 : py_260 (ρ 8) (ρ 3) (ρ 4) (ρ 5) (ρ 6) := (ax_XF_lt (x := 260) (Nat.le_of_ble_eq_true rfl)).mp (ax_gx hE (260, [35, 15, 19, 23, 27]) (by decide))
  obtain ⟨-, -, F242⟩ : ay_ex hp 173 ∧ ay_ex hp 185 ∧ py_y242 (ρ 7) (ay_at hp 173 27) (ay_at hp 185) := (ax_XF_lt (x := 242) (Nat.le_of_ble_eq_true rfl)).mp (ax_gx hE (242, [31]) (by decide))
  obtain ⟨-, -, F241⟩ : ay_ex hp 180 ∧ ay_ex hp 182 ∧ py_y241 0 (ρ 6) (ay_at hp 180 0) (ay_at hp 182) := (ax_XF_lt (x := 241) (Nat.le_of_ble_eq_true rfl)).mp (ax_gx hE (241, [27]) (by decide))
  have F251 : py_251 (ρ 7) (ρ 8) (ρ 5) := (ax_XF_lt (x := 251) (Nat.le_of_ble_eq_true rfl)).mp (ax_gx hE (251, [31, 35, 23]) (by decide))
  refine ⟨(fun y hy => by cases hy), _, List.mem_cons_self, ρ, fun _ _ => rfl, ax_px hE rfl (fun x hx => ?_)⟩
  cases List.mem_singleton.mp hx
  refine (ax_XF_lt (x := 246) (Nat.le_of_ble_eq_true rfl)).mpr ?_
  show py_y246 (pz_gt (ρ 0)) (pz_gN (ρ 0)) ((ρ 2) / 4) (ρ 7) (ρ 6)
  exact pm_mc5 F179 F198 F259 F182 F246 F260 F251

theorem axq1_mx0 : ax_RO ax_wM1 (ax_XM 1) axu1_mx0 := axqg_mx0 ax_WW1
theorem axq1_mx1 : ax_RO ax_wM1 (ax_XM 1) axu1_mx1 := axqg_mx1 ax_WW1
theorem axq1_mx2 : ax_RO ax_wM1 (ax_XM 1) axu1_mx2 := axqg_mx2 ax_WW1
theorem axq1_mx3 : ax_RO ax_wM1 (ax_XM 1) axu1_mx3 := axqg_mx3 ax_WW1
theorem axq1_mx4 : ax_RO ax_wM1 (ax_XM 1) axu1_mx4 := axqg_mx4 ax_WW1
theorem axq1_mx5_35 : ax_RO ax_wM1 (ax_XM 1) axu1_mx5_35 := axqg_mx5_35 ax_WW1
theorem axq1_mx6_35 : ax_RO ax_wM1 (ax_XM 1) axu1_mx6_35 := axqg_mx6_35 ax_WW1
theorem axq1_mx6_59 : ax_RO ax_wM1 (ax_XM 1) axu1_mx6_59 := axqg_mx6_59 ax_WW1
theorem axq1_mx5_76 : ax_RO ax_wM1 (ax_XM 1) axu1_mx5_76 := axqg_mx5_76 ax_WW1
theorem axq1_mx7 : ax_RO ax_wM1 (ax_XM 1) axu1_mx7 := axqg_mx7 ax_WW1
theorem axq1_mx8a : ax_RO ax_wM1 (ax_XM 1) axu1_mx8a := axqg_mx8a ax_WW1
theorem axq1_mx8b : ax_RO ax_wM1 (ax_XM 1) axu1_mx8b := axqg_mx8b ax_WW1
theorem axq1_mx9 : ax_RO ax_wM1 (ax_XM 1) axu1_mx9 := axqg_mx9 ax_WW1
theorem axq1_mxb : ax_RO ax_wM1 (ax_XM 1) axu1_mxb := axqg_mxb ax_WW1
theorem axq1_mw0 : ax_RO ax_wM1 (ax_XM 1) axu1_mw0 := by
  intro ρ hp hE hT
  obtain ⟨-, -, F42⟩ : ay_ex hp 180 ∧ ay_ex hp 179 ∧ ay_M42 (ay_at hp 180 0) (ay_at hp 179 0) := (ax_XF_lt (x := 42) (Nat.le_of_ble_eq_true rfl)).mp (ax_gx hE (42, []) (by decide))
  refine ⟨(fun y hy => by cases hy), _, List.mem_cons_self, ρ, fun _ _ => rfl, ax_px hE rfl (fun x hx => ?_)⟩
  cases List.mem_singleton.mp hx
  refine (ax_XF_wr (x := 242) (Nat.le_of_ble_eq_true rfl)).mpr ?_
  show ay_ex (ax_upd hp 702 (108) (0)) 173 ∧ ay_ex (ax_upd hp 702 (108) (0)) 185 ∧ py_y242 (5) (ay_at (ax_upd hp 702 (108) (0)) 173 27) (ay_at (ax_upd hp 702 (108) (0)) 185)
  obtain ⟨o0, ho0⟩ := ay_some hT (q := 173) (g := 11) (n := 58) (ax_wc ax_WW1 ax_cg_173) (ax_wn ax_WW1 ax_cn_11) (j := 108 / 4) (Nat.le_of_ble_eq_true rfl)
  have u1 : ∀ q, q ≠ 173 → ay_at (ax_upd hp 702 108 (0)) q = ay_at hp q := fun q hq => funext (fun j => ay_upd_ne hT.1 hq j)
  have u2 : ∀ j, ay_at (ax_upd hp 702 108 (0)) 173 j = if j = 27 then some (0) else ay_at hp 173 j := fun j => ay_upd_eq hT.1 rfl ho0 j
  refine ⟨ay_ex_upd hT.1 (ax_cellT hT (q := 173) (g := 11) (ax_wc ax_WW1 ax_cg_173)), ay_ex_upd hT.1 (ax_cellT hT (q := 185) (g := 55) (ax_wc ax_WW1 ax_cg_185)), ?_⟩
  rw [u2 27, if_pos rfl, u1 185 (Nat.ne_of_beq_eq_false rfl)]
  exact pm_242_0

theorem axq1_mw1 : ax_RO ax_wM1 (ax_XM 1) axu1_mw1 := by
  intro ρ hp hE hT
  obtain ⟨-, -, F42⟩ : ay_ex hp 180 ∧ ay_ex hp 179 ∧ ay_M42 (ay_at hp 180 0) (ay_at hp 179 0) := (ax_XF_lt (x := 42) (Nat.le_of_ble_eq_true rfl)).mp (ax_gx hE (42, []) (by decide))
  refine ⟨(fun y hy => by cases hy), _, List.mem_cons_self, ρ, fun _ _ => rfl, ax_px hE rfl (fun x hx => ?_)⟩
  cases List.mem_singleton.mp hx
  refine (ax_XF_lt (x := 241) (Nat.le_of_ble_eq_true rfl)).mpr ?_
  show ay_ex hp 180 ∧ ay_ex hp 182 ∧ py_y241 0 (5) (ay_at hp 180 0) (ay_at hp 182)
  refine ⟨(ax_cellT hT (q := 180) (g := 50) (ax_wc ax_WW1 ax_cg_180)), (ax_cellT hT (q := 182) (g := 52) (ax_wc ax_WW1 ax_cg_182)), ?_⟩
  exact pm_241_0 F42.1

theorem axq1_mw5 : ax_RO ax_wM1 (ax_XM 1) axu1_mw5 := by
  intro ρ hp hE hT
  have j0 : ρ 0 % 4 = 1 := pz_gj hE 0 (Nat.le_of_ble_eq_true rfl) rfl
  have j1 : ρ 1 % 4 = 1 := pz_gj hE 1 (Nat.le_of_ble_eq_true rfl) rfl
  obtain ⟨-, -, F242⟩ : ay_ex hp 173 ∧ ay_ex hp 185 ∧ py_y242 (ρ 0) (ay_at hp 173 27) (ay_at hp 185) := (ax_XF_lt (x := 242) (Nat.le_of_ble_eq_true rfl)).mp (ax_gx hE (242, [3]) (by decide))
  obtain ⟨-, -, F241⟩ : ay_ex hp 180 ∧ ay_ex hp 182 ∧ py_y241 0 (ρ 1) (ay_at hp 180 0) (ay_at hp 182) := (ax_XF_lt (x := 241) (Nat.le_of_ble_eq_true rfl)).mp (ax_gx hE (241, [7]) (by decide))
  refine ⟨(fun y hy => by cases hy), _, List.mem_cons_self, ρ, fun _ _ => rfl, ax_px hE rfl (fun x hx => ?_)⟩
  cases List.mem_singleton.mp hx
  refine (ax_XF_lt (x := 250) (Nat.le_of_ble_eq_true rfl)).mpr ?_
  show py_250 (4012) (ρ 0) (ρ 1) (ρ 0) (ρ 1)
  exact (rfl : py_pop _ _ _ = _)

theorem axq1_mw2 : ax_RO ax_wM1 (ax_XM 1) axu1_mw2 := by
  intro ρ hp hE hT
  have j0 : ρ 0 % 4 = 1 := pz_gj hE 0 (Nat.le_of_ble_eq_true rfl) rfl
  have j1 : ρ 1 % 4 = 1 := pz_gj hE 1 (Nat.le_of_ble_eq_true rfl) rfl
  have j2 : ρ 2 % 4 = 1 := pz_gj hE 2 (Nat.le_of_ble_eq_true rfl) rfl
  have j3 : ρ 3 % 4 = 1 := pz_gj hE 3 (Nat.le_of_ble_eq_true rfl) rfl
  obtain ⟨-, -, -, -, -, F151⟩ : ay_ex hp 173 ∧ ay_ex hp 173 ∧ ay_ex hp 173 ∧ ay_ex hp 173 ∧ ay_ex hp 173 ∧ pz_y151 (ρ 0) (ρ 1) (ay_at hp 173 13) (ay_at hp 173 14) (ay_at hp 173 15) (ay_at hp 173 16) (ay_at hp 173 17) := (ax_XF_lt (x := 151) (Nat.le_of_ble_eq_true rfl)).mp (ax_gx hE (151, [3, 7]) (by decide))
  have F246 : py_y246 (pz_gt (ρ 0)) (pz_gN (ρ 0)) ((ρ 1) / 4) (ρ 2) (ρ 3) := (ax_XF_lt (x := 246) (Nat.le_of_ble_eq_true rfl)).mp (ax_gx hE (246, [3, 7, 11, 15]) (by decide))
  obtain ⟨-, -, F242⟩ : ay_ex hp 173 ∧ ay_ex hp 185 ∧ py_y242 (ρ 2) (ay_at hp 173 27) (ay_at hp 185) := (ax_XF_lt (x := 242) (Nat.le_of_ble_eq_true rfl)).mp (ax_gx hE (242, [11]) (by decide))
  obtain ⟨-, -, F241⟩ : ay_ex hp 180 ∧ ay_ex hp 182 ∧ py_y241 0 (ρ 3) (ay_at hp 180 0) (ay_at hp 182) := (ax_XF_lt (x := 241) (Nat.le_of_ble_eq_true rfl)).mp (ax_gx hE (241, [15]) (by decide))
  refine ⟨(fun y hy => by cases hy), _, List.mem_cons_self, ρ, fun _ _ => rfl, ax_px hE rfl (fun x hx => ?_)⟩
  cases List.mem_singleton.mp hx
  refine (ax_XF_lt (x := 250) (Nat.le_of_ble_eq_true rfl)).mpr ?_
  show py_250 (4012) (ρ 2) (ρ 3) (ρ 2) (ρ 3)
  exact (rfl : py_pop _ _ _ = _)

theorem axq1_mw3 : ax_RO ax_wM1 (ax_XM 1) axu1_mw3 := by
  intro ρ hp hE hT
  have j0 : ρ 0 % 4 = 1 := pz_gj hE 0 (Nat.le_of_ble_eq_true rfl) rfl
  have j1 : ρ 1 % 4 = 1 := pz_gj hE 1 (Nat.le_of_ble_eq_true rfl) rfl
  have j2 : ρ 2 % 4 = 1 := pz_gj hE 2 (Nat.le_of_ble_eq_true rfl) rfl
  have j3 : ρ 3 % 4 = 1 := pz_gj hE 3 (Nat.le_of_ble_eq_true rfl) rfl
  have j4 : ρ 4 % 4 = 1 := pz_gj hE 4 (Nat.le_of_ble_eq_true rfl) rfl
  have j5 : ρ 5 % 4 = 1 := pz_gj hE 5 (Nat.le_of_ble_eq_true rfl) rfl
  obtain ⟨i6a, i6b, i6c, i6d⟩ := pz_gi hE 6 2147484651 2147484655 (Nat.le_of_ble_eq_true rfl) rfl
  obtain ⟨-, -, F242⟩ : ay_ex hp 173 ∧ ay_ex hp 185 ∧ py_y242 (ρ 4) (ay_at hp 173 27) (ay_at hp 185) := (ax_XF_lt (x := 242) (Nat.le_of_ble_eq_true rfl)).mp (ax_gx hE (242, [19]) (by decide))
  obtain ⟨-, -, F241⟩ : ay_ex hp 180 ∧ ay_ex hp 182 ∧ py_y241 0 (ρ 5) (ay_at hp 180 0) (ay_at hp 182) := (ax_XF_lt (x := 241) (Nat.le_of_ble_eq_true rfl)).mp (ax_gx hE (241, [23]) (by decide))
  have F251 : py_251 (ρ 2) (ρ 6) (ρ 4) := (ax_XF_lt (x := 251) (Nat.le_of_ble_eq_true rfl)).mp (ax_gx hE (251, [11, 27, 19]) (by decide))
  have F251a : py_251 (ρ 5) (ρ 6) (ρ 3) := (ax_XF_lt (x := 251) (Nat.le_of_ble_eq_true rfl)).mp (ax_gx hE (251, [23, 27, 15]) (by decide))
  have F250 : py_250 (4012) (ρ 0) (ρ 1) (ρ 2) (ρ 3) := (ax_XF_lt (x := 250) (Nat.le_of_ble_eq_true rfl)).mp (ax_gx hE (250, [4012, 3, 7, 11, 15]) (by decide))
  refine ⟨(fun y hy => by cases hy), _, List.mem_cons_self, ρ, fun _ _ => rfl, ax_px hE rfl (fun x hx => ?_)⟩
  cases List.mem_singleton.mp hx
  refine (ax_XF_lt (x := 250) (Nat.le_of_ble_eq_true rfl)).mpr ?_
  show py_250 (4012) (ρ 0) (ρ 1) (ρ 4) (ρ 5)
  exact pm_cq1 F250 F251 F251a (show 1 ≤ _ from py_bd_1 (by omega) (by omega))

theorem axq1_mw4 : ax_RO ax_wM1 (ax_XM 1) axu1_mw4 := by
  intro ρ hp hE hT
  have j0 : ρ 0 % 4 = 1 := pz_gj hE 0 (Nat.le_of_ble_eq_true rfl) rfl
  have j1 : ρ 1 % 4 = 1 := pz_gj hE 1 (Nat.le_of_ble_eq_true rfl) rfl
  have j2 : ρ 2 % 4 = 1 := pz_gj hE 2 (Nat.le_of_ble_eq_true rfl) rfl
  have j3 : ρ 3 % 4 = 1 := pz_gj hE 3 (Nat.le_of_ble_eq_true rfl) rfl
  have j4 : ρ 4 % 4 = 1 := pz_gj hE 4 (Nat.le_of_ble_eq_true rfl) rfl
  have j5 : ρ 5 % 4 = 1 := pz_gj hE 5 (Nat.le_of_ble_eq_true rfl) rfl
  obtain ⟨i6a, i6b, i6c, i6d⟩ := pz_gi hE 6 2147483648 2147483648 (Nat.le_of_ble_eq_true rfl) rfl
  have c_opened : ay_at hp 173 27 = some (ρ 6) := ay_gfj hE 702 108 27 173 27 (by decide) (ax_vlq rfl rfl) (ax_vlj rfl rfl)
  obtain ⟨-, -, -, -, -, F151⟩ : ay_ex hp 173 ∧ ay_ex hp 173 ∧ ay_ex hp 173 ∧ ay_ex hp 173 ∧ ay_ex hp 173 ∧ pz_y151 (ρ 0) (ρ 1) (ay_at hp 173 13) (ay_at hp 173 14) (ay_at hp 173 15) (ay_at hp 173 16) (ay_at hp 173 17) := (ax_XF_lt (x := 151) (Nat.le_of_ble_eq_true rfl)).mp (ax_gx hE (151, [3, 7]) (by decide))
  have F246 : py_y246 (pz_gt (ρ 0)) (pz_gN (ρ 0)) ((ρ 1) / 4) (ρ 2) (ρ 3) := (ax_XF_lt (x := 246) (Nat.le_of_ble_eq_true rfl)).mp (ax_gx hE (246, [3, 7, 11, 15]) (by decide))
  obtain ⟨-, -, F242⟩ : ay_ex hp 173 ∧ ay_ex hp 185 ∧ py_y242 (ρ 4) (ay_at hp 173 27) (ay_at hp 185) := (ax_XF_lt (x := 242) (Nat.le_of_ble_eq_true rfl)).mp (ax_gx hE (242, [19]) (by decide))
  rw [c_opened] at F242
  obtain ⟨-, -, F241⟩ : ay_ex hp 180 ∧ ay_ex hp 182 ∧ py_y241 0 (ρ 5) (ay_at hp 180 0) (ay_at hp 182) := (ax_XF_lt (x := 241) (Nat.le_of_ble_eq_true rfl)).mp (ax_gx hE (241, [23]) (by decide))
  have F250 : py_250 (4012) (ρ 2) (ρ 3) (ρ 4) (ρ 5) := (ax_XF_lt (x := 250) (Nat.le_of_ble_eq_true rfl)).mp (ax_gx hE (250, [4012, 11, 15, 19, 23]) (by decide))
  refine ⟨(fun y hy => by cases hy), _, List.mem_cons_self, ρ, fun _ _ => rfl, ax_px hE rfl (fun x hx => ?_)⟩
  cases List.mem_singleton.mp hx
  refine (ax_XF_lt (x := 248) (Nat.le_of_ble_eq_true rfl)).mpr ?_
  show py_248 (pz_gt (ρ 0)) (pz_gN (ρ 0)) ((ρ 1) / 4) (ρ 5)
  exact pm_mw4 F246 F250 (py_none F242 (show ρ 6 / 4 = 0 by omega))

theorem axq1_ml1 : ax_RO ax_wM1 (ax_XM 1) axu1_ml1 := by
  intro ρ hp hE hT
  have j0 : ρ 0 % 4 = 1 := pz_gj hE 0 (Nat.le_of_ble_eq_true rfl) rfl
  have j1 : ρ 1 % 4 = 1 := pz_gj hE 1 (Nat.le_of_ble_eq_true rfl) rfl
  obtain ⟨i2a, i2b, i2c, i2d⟩ := pz_gi hE 2 2147483668 2147483668 (Nat.le_of_ble_eq_true rfl) rfl
  have c_links : ay_at hp 176 0 = some (ρ 2) := ay_gfj hE 714 0 11 176 0 ax_m4 (ax_vlq rfl rfl) (ax_vlj rfl rfl)
  obtain ⟨-, -, -, -, -, F151⟩ : ay_ex hp 173 ∧ ay_ex hp 173 ∧ ay_ex hp 173 ∧ ay_ex hp 173 ∧ ay_ex hp 173 ∧ pz_y151 (ρ 0) (ρ 1) (ay_at hp 173 13) (ay_at hp 173 14) (ay_at hp 173 15) (ay_at hp 173 16) (ay_at hp 173 17) := (ax_XF_lt (x := 151) (Nat.le_of_ble_eq_true rfl)).mp (ax_gx hE (151, [3, 7]) ax_m0)
  obtain ⟨-, -, -, -, -, -, -, -, -, -, -, F152⟩ : ay_ex hp 175 ∧ ay_ex hp 176 ∧ ay_ex hp 177 ∧ ay_ex hp 178 ∧ ay_ex hp 179 ∧ ay_ex hp 173 ∧ ay_ex hp 173 ∧ ay_ex hp 173 ∧ ay_ex hp 173 ∧ ay_ex hp 173 ∧ ay_ex hp 181 ∧ pz_y152 0 (ρ 0) (ρ 1) (ay_at hp 175 0) (ay_at hp 176 0) (ay_at hp 177 0) (ay_at hp 178 0) (ay_at hp 179 0) (ay_at hp 173 23) (ay_at hp 173 25) (ay_at hp 173 24) (ay_at hp 173 18) (ay_at hp 173 19) (ay_at hp 181) := (ax_XF_lt (x := 152) (Nat.le_of_ble_eq_true rfl)).mp (ax_gx hE (152, [3, 7]) ax_m1)
  rw [c_links] at F152
  have F173 : pz7 (pz_gt (ρ 0)) (pz_gN (ρ 0)) ((ρ 1) / 4) 3 := (ax_XF_lt (x := 173) (Nat.le_of_ble_eq_true rfl)).mp (ax_gx hE (173, [3, 7]) ax_m2)
  have F160 : pz60 (pz_gt (ρ 0)) (pz_gN (ρ 0)) ((ρ 1) / 4) ((4) / 4) := (ax_XF_lt (x := 160) (Nat.le_of_ble_eq_true rfl)).mp (ax_gx hE (160, [3, 7, 4]) ax_m3)
  refine ⟨(fun y hy => by cases hy), _, List.mem_cons_self, ρ, fun _ _ => rfl, ax_px hE rfl (fun x hx => ?_)⟩
  cases List.mem_singleton.mp hx
  refine (ax_XF_lt (x := 164) (Nat.le_of_ble_eq_true rfl)).mpr ?_
  show pz64 (pz_gt (ρ 0)) (pz_gN (ρ 0)) ((ρ 1) / 4) ((16) / 4)
  exact pq_lk1 (pz_m50 F151 F152) F173 F160 (show ρ 2 / 4 = 20 by omega)

theorem axq1_ml2 : ax_RO ax_wM1 (ax_XM 1) axu1_ml2 := by
  intro ρ hp hE hT
  have j0 : ρ 0 % 4 = 1 := pz_gj hE 0 (Nat.le_of_ble_eq_true rfl) rfl
  have j1 : ρ 1 % 4 = 1 := pz_gj hE 1 (Nat.le_of_ble_eq_true rfl) rfl
  obtain ⟨i2a, i2b, i2c, i2d⟩ := pz_gi hE 2 2147483648 2147483667 (Nat.le_of_ble_eq_true rfl) rfl
  have c_links : ay_at hp 176 0 = some (ρ 2) := ay_gfj hE 714 0 11 176 0 ax_m4 (ax_vlq rfl rfl) (ax_vlj rfl rfl)
  obtain ⟨-, -, -, -, -, F151⟩ : ay_ex hp 173 ∧ ay_ex hp 173 ∧ ay_ex hp 173 ∧ ay_ex hp 173 ∧ ay_ex hp 173 ∧ pz_y151 (ρ 0) (ρ 1) (ay_at hp 173 13) (ay_at hp 173 14) (ay_at hp 173 15) (ay_at hp 173 16) (ay_at hp 173 17) := (ax_XF_lt (x := 151) (Nat.le_of_ble_eq_true rfl)).mp (ax_gx hE (151, [3, 7]) ax_m0)
  obtain ⟨-, -, -, -, -, -, -, -, -, -, -, F152⟩ : ay_ex hp 175 ∧ ay_ex hp 176 ∧ ay_ex hp 177 ∧ ay_ex hp 178 ∧ ay_ex hp 179 ∧ ay_ex hp 173 ∧ ay_ex hp 173 ∧ ay_ex hp 173 ∧ ay_ex hp 173 ∧ ay_ex hp 173 ∧ ay_ex hp 181 ∧ pz_y152 0 (ρ 0) (ρ 1) (ay_at hp 175 0) (ay_at hp 176 0) (ay_at hp 177 0) (ay_at hp 178 0) (ay_at hp 179 0) (ay_at hp 173 23) (ay_at hp 173 25) (ay_at hp 173 24) (ay_at hp 173 18) (ay_at hp 173 19) (ay_at hp 181) := (ax_XF_lt (x := 152) (Nat.le_of_ble_eq_true rfl)).mp (ax_gx hE (152, [3, 7]) ax_m1)
  rw [c_links] at F152
  have F173 : pz7 (pz_gt (ρ 0)) (pz_gN (ρ 0)) ((ρ 1) / 4) 3 := (ax_XF_lt (x := 173) (Nat.le_of_ble_eq_true rfl)).mp (ax_gx hE (173, [3, 7]) ax_m2)
  have F160 : pz60 (pz_gt (ρ 0)) (pz_gN (ρ 0)) ((ρ 1) / 4) ((4) / 4) := (ax_XF_lt (x := 160) (Nat.le_of_ble_eq_true rfl)).mp (ax_gx hE (160, [3, 7, 4]) ax_m3)
  have st := pq_lk2 (pz_m50 F151 F152) F173 F160 (show ρ 2 / 4 ≤ 19 by omega)
  obtain ⟨ρ', h1, h2⟩ := pz_pn1 (K := ρ 1 / 4 + 1) (xf := [(153, [3, 15]), (182, [7, 15]), (152, [3, 15]), (174, [3, 15])]) hE (by decide) (fun ρ' h1 h2 x hx => by
    have q0 : ρ' 0 = ρ 0 := h1 0 (by decide)
    have q1 : ρ' 1 = ρ 1 := h1 1 (by decide)
    have q2 : ρ' 2 = ρ 2 := h1 2 (by decide)
    rcases List.mem_cons.mp hx with e | hx
    · subst e
      refine (ax_XF_lt (x := 153) (Nat.le_of_ble_eq_true rfl)).mpr ?_
      show ay_ex hp 173 ∧ pz_at (pz_gt (ρ' 0)) (pz_gN (ρ' 0)) (ay_ln (ay_at hp 173 13)) = pz_at (pz_gt (ρ' 0)) (pz_gN (ρ' 0)) (pz_p (pz_cF (ρ' 0) (ρ' 3)))
      rw [q0, h2]
      refine ⟨(ax_cellT hT (q := 173) (g := 11) (ax_wc ax_WW1 ax_cg_173)), ?_⟩
      exact pz_l153 (pz_41 _) st.1.1
    rcases List.mem_cons.mp hx with e | hx
    · subst e
      refine (ax_XF_lt (x := 182) (Nat.le_of_ble_eq_true rfl)).mpr ?_
      show (ρ' 3) / 4 = (ρ' 1) / 4 + 1
      rw [q1, h2]
      rw [pz_41]
    rcases List.mem_cons.mp hx with e | hx
    · subst e
      refine (ax_XF_lt (x := 152) (Nat.le_of_ble_eq_true rfl)).mpr ?_
      show ay_ex hp 175 ∧ ay_ex hp 176 ∧ ay_ex hp 177 ∧ ay_ex hp 178 ∧ ay_ex hp 179 ∧ ay_ex hp 173 ∧ ay_ex hp 173 ∧ ay_ex hp 173 ∧ ay_ex hp 173 ∧ ay_ex hp 173 ∧ ay_ex hp 181 ∧ pz_y152 0 (ρ' 0) (ρ' 3) (ay_at hp 175 0) (ay_at hp 176 0) (ay_at hp 177 0) (ay_at hp 178 0) (ay_at hp 179 0) (ay_at hp 173 23) (ay_at hp 173 25) (ay_at hp 173 24) (ay_at hp 173 18) (ay_at hp 173 19) (ay_at hp 181)
      rw [q0, h2]
      refine ⟨(ax_cellT hT (q := 175) (g := 45) (ax_wc ax_WW1 ax_cg_175)), (ax_cellT hT (q := 176) (g := 46) (ax_wc ax_WW1 ax_cg_176)), (ax_cellT hT (q := 177) (g := 47) (ax_wc ax_WW1 ax_cg_177)), (ax_cellT hT (q := 178) (g := 48) (ax_wc ax_WW1 ax_cg_178)), (ax_cellT hT (q := 179) (g := 49) (ax_wc ax_WW1 ax_cg_179)), (ax_cellT hT (q := 173) (g := 11) (ax_wc ax_WW1 ax_cg_173)), (ax_cellT hT (q := 173) (g := 11) (ax_wc ax_WW1 ax_cg_173)), (ax_cellT hT (q := 173) (g := 11) (ax_wc ax_WW1 ax_cg_173)), (ax_cellT hT (q := 173) (g := 11) (ax_wc ax_WW1 ax_cg_173)), (ax_cellT hT (q := 173) (g := 11) (ax_wc ax_WW1 ax_cg_173)), (ax_cellT hT (q := 181) (g := 51) (ax_wc ax_WW1 ax_cg_181)), ?_⟩
      rw [c_links]
      exact pz_l152 (pz_41 _) st.1.2
    cases List.mem_singleton.mp hx
    refine (ax_XF_lt (x := 174) (Nat.le_of_ble_eq_true rfl)).mpr ?_
    show pz7 (pz_gt (ρ' 0)) (pz_gN (ρ' 0)) ((ρ' 3) / 4) 4
    rw [q0, h2]
    rw [pz_41]
    exact st.2)
  exact ⟨(fun y hy => by cases hy), _, List.mem_cons_self, ρ', h1, h2⟩

theorem axq1_ml3_38 : ax_RO ax_wM1 (ax_XM 1) axu1_ml3_38 := by
  intro ρ hp hE hT
  have j0 : ρ 0 % 4 = 1 := pz_gj hE 0 (Nat.le_of_ble_eq_true rfl) rfl
  have j1 : ρ 1 % 4 = 1 := pz_gj hE 1 (Nat.le_of_ble_eq_true rfl) rfl
  obtain ⟨i2a, i2b, i2c, i2d⟩ := pz_gi hE 2 0 4294967295 (Nat.le_of_ble_eq_true rfl) rfl
  obtain ⟨i3a, i3b, i3c, i3d⟩ := pz_gi hE 3 2147483648 2147493647 (Nat.le_of_ble_eq_true rfl) rfl
  have c_nodes : ay_at hp 175 0 = some (ρ 3) := ay_gfj hE 710 0 15 175 0 ax_m1 (ax_vlq rfl rfl) (ax_vlj rfl rfl)
  have s1 : (ρ 2 / 4 + 2147483648) % 4294967296 + (4 / 4 + 2147483648) % 4294967296 = (ρ 3 / 4 + 2147483648) % 4294967296 + 2147483648 := pz_gs hE 11 4 15 ax_m2
  obtain ⟨-, -, -, -, -, -, -, -, -, -, -, F152⟩ : ay_ex hp 175 ∧ ay_ex hp 176 ∧ ay_ex hp 177 ∧ ay_ex hp 178 ∧ ay_ex hp 179 ∧ ay_ex hp 173 ∧ ay_ex hp 173 ∧ ay_ex hp 173 ∧ ay_ex hp 173 ∧ ay_ex hp 173 ∧ ay_ex hp 181 ∧ pz_y152 0 (ρ 0) (ρ 1) (ay_at hp 175 0) (ay_at hp 176 0) (ay_at hp 177 0) (ay_at hp 178 0) (ay_at hp 179 0) (ay_at hp 173 23) (ay_at hp 173 25) (ay_at hp 173 24) (ay_at hp 173 18) (ay_at hp 173 19) (ay_at hp 181) := (ax_XF_lt (x := 152) (Nat.le_of_ble_eq_true rfl)).mp (ax_gx hE (152, [3, 7]) ax_m0)
  rw [c_nodes] at F152
  have e : ρ 3 / 4 = pz_no (pz_cf (pz_gt (ρ 0)) (pz_gN (ρ 0)) (ρ 1 / 4)) := F152.1
  refine ⟨(fun y hy => by cases hy), _, List.mem_cons_self, ρ, fun _ _ => rfl, ax_px hE rfl (fun x hx => ?_)⟩
  cases List.mem_singleton.mp hx
  refine (ax_XF_lt (x := 203) (Nat.le_of_ble_eq_true rfl)).mpr ?_
  show pz_x103 (ρ 0) (ρ 1) (ρ 2)
  show (ρ 2 / 4 + 2147483648) % 4294967296 + 1 = pz_no (pz_cf (pz_gt (ρ 0)) (pz_gN (ρ 0)) (ρ 1 / 4)) + 2147483648
  omega
end
