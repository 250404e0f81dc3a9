theorem axq0_fa0 : ax_RO ax_wM0 (ax_XM 0) axu0_fa0 := by
  intro ρ hp hE hT
  obtain ⟨x, hx, x1, x2, x3⟩ := ax_gi hE 0 2147483649 2147483652 (by decide) rfl
  obtain ⟨x4, x5⟩ := ax_bi_pos x1 (by omega)
  obtain ⟨o0, ho0⟩ := ay_some hT (q := 173) (g := 11) (n := 58) rfl rfl (j := 72 / 4) (by decide)
  refine ⟨(fun y hy => by cases hy), _, List.mem_cons_self, ρ, fun _ _ => rfl, ax_px hE (by decide) (fun y hy => ?_)⟩
  cases List.mem_singleton.mp hy
  show ax_XF (ax_XM 0) (500 + 50) [702, 72, ρ 0] hp
  refine (ax_XF_wr (x := 50) (by decide)).mpr ⟨ay_ex_upd hT.1 (ax_cellT hT (q := 175) (g := 45) rfl), ay_ex_upd hT.1 (ax_cellT hT (q := 177) (g := 47) rfl), ay_ex_upd hT.1 (ax_cellT hT (q := 176) (g := 46) rfl), ay_ex_upd hT.1 (ax_cellT hT (q := 181) (g := 51) rfl), ay_ex_upd hT.1 (ax_cellT hT (q := 173) (g := 11) rfl), ?_⟩
  show ay_M50 1 (ay_at (ax_upd hp 702 (72) (ρ 0)) 175 1) (ay_at (ax_upd hp 702 (72) (ρ 0)) 177 1) (ay_at (ax_upd hp 702 (72) (ρ 0)) 176 1) (ay_at (ax_upd hp 702 (72) (ρ 0)) 181) (ay_at (ax_upd hp 702 (72) (ρ 0)) 173 18)
  have c0 : ay_at (ax_upd hp 702 (72) (ρ 0)) 175 1 = ay_at hp 175 1 := ay_upd_ne hT.1 (by decide) 1
  rw [c0]
  have c1 : ay_at (ax_upd hp 702 (72) (ρ 0)) 177 1 = ay_at hp 177 1 := ay_upd_ne hT.1 (by decide) 1
  rw [c1]
  have c2 : ay_at (ax_upd hp 702 (72) (ρ 0)) 176 1 = ay_at hp 176 1 := ay_upd_ne hT.1 (by decide) 1
  rw [c2]
  have c3 : ay_at (ax_upd hp 702 (72) (ρ 0)) 181 = ay_at hp 181 := funext (fun j => ay_upd_ne hT.1 (by decide) j)
  rw [c3]
  have c4 : ay_at (ax_upd hp 702 (72) (ρ 0)) 173 18 = some (ρ 0) := by rw [ay_upd_eq hT.1 rfl ho0, if_pos (by decide)]
  rw [c4]
  intro z
  have z := Option.some.inj z
  omega
theorem axq0_fa2 : ax_RO ax_wM0 (ax_XM 0) axu0_fa2 := by
  intro ρ hp hE hT
  obtain ⟨p1, p2, p3, p4, p5, p⟩ : ay_ex hp 182 ∧ ay_ex hp 180 ∧ ay_ex hp 179 ∧ ay_ex hp 173 ∧ ay_ex hp 173 ∧ ay_M52 1 (ay_at hp 182) (ay_at hp 180 1) (ay_at hp 179 1) (ay_at hp 173 18) (ay_at hp 173 24) := (ax_XF_lt (by decide)).mp (ax_gx hE (52, []) (by decide))
  obtain ⟨x, hx, x1, x2, x3⟩ := ax_gi hE 0 2147483649 2147483652 (by decide) rfl
  obtain ⟨x4, x5⟩ := ax_bi_pos x1 (by omega)
  obtain ⟨o0, ho0⟩ := ay_some hT (q := 173) (g := 11) (n := 58) rfl rfl (j := 72 / 4) (by decide)
  refine ⟨(fun y hy => by cases hy), _, List.mem_cons_self, ρ, fun _ _ => rfl, ax_px hE (by decide) (fun y hy => ?_)⟩
  cases List.mem_singleton.mp hy
  show ax_XF (ax_XM 0) (500 + 52) [702, 72, ρ 0] hp
  refine (ax_XF_wr (x := 52) (by decide)).mpr ⟨ay_ex_upd hT.1 (ax_cellT hT (q := 182) (g := 52) rfl), ay_ex_upd hT.1 (ax_cellT hT (q := 180) (g := 50) rfl), ay_ex_upd hT.1 (ax_cellT hT (q := 179) (g := 49) rfl), ay_ex_upd hT.1 (ax_cellT hT (q := 173) (g := 11) rfl), ay_ex_upd hT.1 (ax_cellT hT (q := 173) (g := 11) rfl), ?_⟩
  show ay_M52 1 (ay_at (ax_upd hp 702 (72) (ρ 0)) 182) (ay_at (ax_upd hp 702 (72) (ρ 0)) 180 1) (ay_at (ax_upd hp 702 (72) (ρ 0)) 179 1) (ay_at (ax_upd hp 702 (72) (ρ 0)) 173 18) (ay_at (ax_upd hp 702 (72) (ρ 0)) 173 24)
  have c0 : ay_at (ax_upd hp 702 (72) (ρ 0)) 182 = ay_at hp 182 := funext (fun j => ay_upd_ne hT.1 (by decide) j)
  rw [c0]
  have c1 : ay_at (ax_upd hp 702 (72) (ρ 0)) 180 1 = ay_at hp 180 1 := ay_upd_ne hT.1 (by decide) 1
  rw [c1]
  have c2 : ay_at (ax_upd hp 702 (72) (ρ 0)) 179 1 = ay_at hp 179 1 := ay_upd_ne hT.1 (by decide) 1
  rw [c2]
  have c3 : ay_at (ax_upd hp 702 (72) (ρ 0)) 173 18 = some (ρ 0) := by rw [ay_upd_eq hT.1 rfl ho0, if_pos (by decide)]
  rw [c3]
  have c4 : ay_at (ax_upd hp 702 (72) (ρ 0)) 173 24 = ay_at hp 173 24 := by rw [ay_upd_eq hT.1 rfl ho0, if_neg (by decide)]
  rw [c4]
  refine ⟨fun z => ?_, p.2⟩
  have z := Option.some.inj z
  omega
theorem axq0_ly0 : ax_RO ax_wM0 (ax_XM 0) axu0_ly0 := by
  intro ρ hp hE hT
  obtain ⟨p1, p2, p3, p4, p5, p6, p⟩ : ay_ex hp 185 ∧ ay_ex hp 173 ∧ ay_ex hp 182 ∧ ay_ex hp 180 ∧ ay_ex hp 179 ∧ ay_ex hp 173 ∧ ay_M40 1 (ρ 1) (ρ 2) (ρ 3) (ρ 4) (ρ 5) (ay_at hp 185) (ay_at hp 173 27) (ay_at hp 182) (ay_at hp 180 1) (ay_at hp 179 1) (ay_at hp 173 28) := (ax_XF_lt (by decide)).mp (ax_gx hE (40, [7, 11, 15, 19, 23]) (by decide))
  replace p : ay_pg 1 (ρ 1 / 4) (ρ 2 / 4) (ρ 3 / 4) (ρ 4 / 4) (ρ 5 / 4) (ay_at hp 185) (ay_ln (ay_at hp 173 27)) (ay_at hp 182) (ay_ln (ay_at hp 180 1)) (ay_ln (ay_at hp 179 1)) (ay_ln (ay_at hp 173 28)) := p
  obtain ⟨L, hL, L1, L2, L3⟩ := ax_gi hE 0 2147483648 2147483748 (by decide) rfl
  obtain ⟨L4, L5⟩ := ax_bi_pos L1 (by omega)
  have d4 : ∀ z : Nat, 4 * z / 4 = z := fun z => by omega
  have fL := ay_gfj hE 730 4 3 180 1 (by decide) (by rw [ax_vl_c (by decide)]) (by rw [ax_vl_c (by decide)])
  replace fL : ay_at hp 180 1 = some (ρ 0) := fL
  have lL : ay_ln (ay_at hp 180 1) = L := by rw [fL, hL]; show 4 * L / 4 = L; omega
  obtain ⟨u0, hu0⟩ := ay_some hT (q := 179) (g := 49) (n := 2) rfl rfl (j := 1) (by decide)
  obtain ⟨w1, w2, w3, w4⟩ := ay_int hT (q := 179) (g := 49) (n := 2) (lo := 2147483648) (hi := 2147483688) rfl rfl hu0
  have hun : ay_ln (ay_at hp 179 1) ≤ 40 := by
    rw [hu0]
    show u0 / 4 ≤ 40
    obtain ⟨g1, g2⟩ := ax_bi_pos w2 w3
    omega
  have hb := (ay_pg_bound p).1
  rw [lL] at hb
  refine ⟨fun y hy => ?_, _, List.mem_cons_self, ρ, fun _ _ => rfl, ax_px hE (by decide) (fun y hy => by cases hy)⟩
  cases List.mem_singleton.mp hy
  show 2147483648 ≤ rx_bi (ρ 0 / 4) ∧ rx_bi (ρ 0 / 4) ≤ 2147483747
  rw [hL, d4, ax_bi_nat (by omega)]
  omega

theorem axq0_ly1 : ax_RO ax_wM0 (ax_XM 0) axu0_ly1 := by
  intro ρ hp hE hT
  obtain ⟨p1, p2, p3, p4, p5, p6, p⟩ : ay_ex hp 185 ∧ ay_ex hp 173 ∧ ay_ex hp 182 ∧ ay_ex hp 180 ∧ ay_ex hp 179 ∧ ay_ex hp 173 ∧ ay_M40 1 (ρ 3) (ρ 4) (ρ 5) (ρ 6) (ρ 7) (ay_at hp 185) (ay_at hp 173 27) (ay_at hp 182) (ay_at hp 180 1) (ay_at hp 179 1) (ay_at hp 173 28) := (ax_XF_lt (by decide)).mp (ax_gx hE (40, [15, 19, 23, 27, 31]) (by decide))
  replace p : ay_pg 1 (ρ 3 / 4) (ρ 4 / 4) (ρ 5 / 4) (ρ 6 / 4) (ρ 7 / 4) (ay_at hp 185) (ay_ln (ay_at hp 173 27)) (ay_at hp 182) (ay_ln (ay_at hp 180 1)) (ay_ln (ay_at hp 179 1)) (ay_ln (ay_at hp 173 28)) := p
  obtain ⟨j, hj, j1, j2, j3⟩ := ax_gi hE 1 2147483648 2147483847 (by decide) rfl
  obtain ⟨j4, j5⟩ := ax_bi_pos j1 (by omega)
  obtain ⟨L, hL, L1, L2, L3⟩ := ax_gi hE 2 2147483648 2147483747 (by decide) rfl
  obtain ⟨L4, L5⟩ := ax_bi_pos L1 (by omega)
  have d4 : ∀ z : Nat, 4 * z / 4 = z := fun z => by omega
  have fL := ay_gfj hE 730 4 11 180 1 (by decide) (by rw [ax_vl_c (by decide)]) (by rw [ax_vl_c (by decide)])
  replace fL : ay_at hp 180 1 = some (ρ 2) := fL
  have lL : ay_ln (ay_at hp 180 1) = L := by rw [fL, hL]; show 4 * L / 4 = L; omega
  have hj2 : ρ 1 = 4 * (100 + L) := ay_s hE 400 11 7 (a := 100) (by decide) (ax_vl_c (v := 400) (by decide)) hL (by decide) (by omega)
  obtain ⟨o0, ho0⟩ := ay_some hT (q := 182) (g := 52) (n := 200) rfl rfl (j := ρ 1 / 4) (by omega)
  refine ⟨(fun y hy => by cases hy), _, List.mem_cons_self, ρ, fun _ _ => rfl, ax_px hE (by decide) (fun y hy => ?_)⟩
  cases List.mem_singleton.mp hy
  show ax_XF (ax_XM 0) (500 + 40) [738, ρ 1, ρ 0, ρ 3, ρ 4, ρ 5, ρ 6, ρ 7] hp
  refine (ax_XF_wr (x := 40) (by decide)).mpr ⟨ay_ex_upd hT.1 (ax_cellT hT (q := 185) (g := 55) rfl), ay_ex_upd hT.1 (ax_cellT hT (q := 173) (g := 11) rfl), ay_ex_upd hT.1 (ax_cellT hT (q := 182) (g := 52) rfl), ay_ex_upd hT.1 (ax_cellT hT (q := 180) (g := 50) rfl), ay_ex_upd hT.1 (ax_cellT hT (q := 179) (g := 49) rfl), ay_ex_upd hT.1 (ax_cellT hT (q := 173) (g := 11) rfl), ?_⟩
  show ay_M40 1 (ρ 3) (ρ 4) (ρ 5) (ρ 6) (ρ 7) (ay_at (ax_upd hp 738 (ρ 1) (ρ 0)) 185) (ay_at (ax_upd hp 738 (ρ 1) (ρ 0)) 173 27) (ay_at (ax_upd hp 738 (ρ 1) (ρ 0)) 182) (ay_at (ax_upd hp 738 (ρ 1) (ρ 0)) 180 1) (ay_at (ax_upd hp 738 (ρ 1) (ρ 0)) 179 1) (ay_at (ax_upd hp 738 (ρ 1) (ρ 0)) 173 28)
  have c0 : ay_at (ax_upd hp 738 (ρ 1) (ρ 0)) 185 = ay_at hp 185 := funext (fun j => ay_upd_ne hT.1 (by decide) j)
  rw [c0]
  have c1 : ay_at (ax_upd hp 738 (ρ 1) (ρ 0)) 173 27 = ay_at hp 173 27 := ay_upd_ne hT.1 (by decide) 27
  rw [c1]
  have c2 : ∀ j, ay_at (ax_upd hp 738 (ρ 1) (ρ 0)) 182 j = if j = (ρ 1) / 4 then some (ρ 0) else ay_at hp 182 j := fun j => ay_upd_eq hT.1 rfl ho0 j
  have c3 : ay_at (ax_upd hp 738 (ρ 1) (ρ 0)) 180 1 = ay_at hp 180 1 := ay_upd_ne hT.1 (by decide) 1
  rw [c3]
  have c4 : ay_at (ax_upd hp 738 (ρ 1) (ρ 0)) 179 1 = ay_at hp 179 1 := ay_upd_ne hT.1 (by decide) 1
  rw [c4]
  have c5 : ay_at (ax_upd hp 738 (ρ 1) (ρ 0)) 173 28 = ay_at hp 173 28 := ay_upd_ne hT.1 (by decide) 28
  rw [c5]
  refine ay_pg_far p (fun j hj => rfl) (fun j hj => ?_)
  rw [lL] at hj
  rw [c2, if_neg (by omega)]
theorem axq0_ly2 : ax_RO ax_wM0 (ax_XM 0) axu0_ly2 := by
  intro ρ hp hE hT
  obtain ⟨p1, p2, p⟩ : ay_ex hp 182 ∧ ay_ex hp 180 ∧ ay_M26 (0) (ay_at hp 182) (ay_at hp 180 0) := (ax_XF_lt (by decide)).mp (ax_gx hE (26, []) (by decide))
  obtain ⟨j, hj, j1, j2, j3⟩ := ax_gi hE 1 2147483748 2147483847 (by decide) rfl
  obtain ⟨j4, j5⟩ := ax_bi_pos j1 (by omega)
  obtain ⟨o0, ho0⟩ := ay_some hT (q := 182) (g := 52) (n := 200) rfl rfl (j := ρ 1 / 4) (by omega)
  obtain ⟨u0, hu0⟩ := ay_some hT (q := 180) (g := 50) (n := 2) rfl rfl (j := 0) (by decide)
  obtain ⟨w1, w2, w3, w4⟩ := ay_int hT (q := 180) (g := 50) (n := 2) (lo := 2147483648) (hi := 2147483748) rfl rfl hu0
  have hrd : ay_ln (ay_at hp 180 0) ≤ 100 := by
    rw [hu0]
    show u0 / 4 ≤ 100
    obtain ⟨g1, g2⟩ := ax_bi_pos w2 w3
    omega
  refine ⟨(fun y hy => by cases hy), _, List.mem_cons_self, ρ, fun _ _ => rfl, ax_px hE (by decide) (fun y hy => ?_)⟩
  cases List.mem_singleton.mp hy
  show ax_XF (ax_XM 0) (500 + 26) [738, ρ 1, ρ 0] hp
  refine (ax_XF_wr (x := 26) (by decide)).mpr ⟨ay_ex_upd hT.1 (ax_cellT hT (q := 182) (g := 52) rfl), ay_ex_upd hT.1 (ax_cellT hT (q := 180) (g := 50) rfl), ?_⟩
  show ay_M26 (0) (ay_at (ax_upd hp 738 (ρ 1) (ρ 0)) 182) (ay_at (ax_upd hp 738 (ρ 1) (ρ 0)) 180 0)
  have c0 : ∀ j, ay_at (ax_upd hp 738 (ρ 1) (ρ 0)) 182 j = if j = (ρ 1) / 4 then some (ρ 0) else ay_at hp 182 j := fun j => ay_upd_eq hT.1 rfl ho0 j
  have c1 : ay_at (ax_upd hp 738 (ρ 1) (ρ 0)) 180 0 = ay_at hp 180 0 := ay_upd_ne hT.1 (by decide) 0
  rw [c1]
  intro k hk
  rw [ay_ht_same (ru := ay_at hp 182) (fun j hj => by rw [c0, if_neg (by omega)])]
  exact p k hk
theorem axq0_lyO : ax_RO ax_wM0 (ax_XM 0) axu0_lyO := by
  intro ρ hp hE hT
  obtain ⟨p1, p2, p3, p4, p5, p6, p⟩ : ay_ex hp 185 ∧ ay_ex hp 173 ∧ ay_ex hp 182 ∧ ay_ex hp 180 ∧ ay_ex hp 179 ∧ ay_ex hp 173 ∧ ay_M40 1 (4) (0) (4) (8) (4) (ay_at hp 185) (ay_at hp 173 27) (ay_at hp 182) (ay_at hp 180 1) (ay_at hp 179 1) (ay_at hp 173 28) := (ax_XF_lt (by decide)).mp (ax_gx hE (40, [4, 0, 4, 8, 4]) (by decide))
  replace p : ay_pg 1 1 0 1 2 1 (ay_at hp 185) (ay_ln (ay_at hp 173 27)) (ay_at hp 182) (ay_ln (ay_at hp 180 1)) (ay_ln (ay_at hp 179 1)) (ay_ln (ay_at hp 173 28)) := p
  obtain ⟨L, hL, L1, L2, L3⟩ := ax_gi hE 1 2147483648 2147483747 (by decide) rfl
  obtain ⟨L4, L5⟩ := ax_bi_pos L1 (by omega)
  obtain ⟨c, hc, c1, c2, c3⟩ := ax_gi hE 2 2147483648 2147484650 (by decide) rfl
  obtain ⟨c4, c5⟩ := ax_bi_pos c1 (by omega)
  have d4 : ∀ z : Nat, 4 * z / 4 = z := fun z => by omega
  have fL := ay_gfj hE 730 4 7 180 1 (by decide) (by rw [ax_vl_c (by decide)]) (by rw [ax_vl_c (by decide)])
  replace fL : ay_at hp 180 1 = some (ρ 1) := fL
  have lL : ay_ln (ay_at hp 180 1) = L := by rw [fL, hL]; show 4 * L / 4 = L; omega
  have hL2 : ρ 0 = 4 * (L + 1) := ay_s hE 7 4 3 (b := 1) (by decide) hL (ax_vl_c (v := 4) (by decide)) (by omega) (by decide)
  have hj2 : ρ 3 = 4 * (100 + L) := ay_s hE 400 7 15 (a := 100) (by decide) (ax_vl_c (v := 400) (by decide)) hL (by decide) (by omega)
  have fr := ay_gf hE 738 15 11 182 (by decide) (by rw [ax_vl_c (by decide)])
  replace fr : ay_at hp 182 (ρ 3 / 4) = some (ρ 2) := fr
  rw [hj2, d4, hc] at fr
  replace fr : ay_at hp 182 (100 * 1 + L) = some (4 * c) := fr
  rw [lL] at p
  obtain ⟨o0, ho0⟩ := ay_some hT (q := 180) (g := 50) (n := 2) rfl rfl (j := 4 / 4) (by decide)
  refine ⟨(fun y hy => by cases hy), _, List.mem_cons_self, ρ, fun _ _ => rfl, ax_px hE (by decide) (fun y hy => ?_)⟩
  cases List.mem_singleton.mp hy
  show ax_XF (ax_XM 0) (500 + 40) [730, 4, ρ 0, 0, 0, 4, 0, 4] hp
  refine (ax_XF_wr (x := 40) (by decide)).mpr ⟨ay_ex_upd hT.1 (ax_cellT hT (q := 185) (g := 55) rfl), ay_ex_upd hT.1 (ax_cellT hT (q := 173) (g := 11) rfl), ay_ex_upd hT.1 (ax_cellT hT (q := 182) (g := 52) rfl), ay_ex_upd hT.1 (ax_cellT hT (q := 180) (g := 50) rfl), ay_ex_upd hT.1 (ax_cellT hT (q := 179) (g := 49) rfl), ay_ex_upd hT.1 (ax_cellT hT (q := 173) (g := 11) rfl), ?_⟩
  show ay_M40 1 (0) (0) (4) (0) (4) (ay_at (ax_upd hp 730 (4) (ρ 0)) 185) (ay_at (ax_upd hp 730 (4) (ρ 0)) 173 27) (ay_at (ax_upd hp 730 (4) (ρ 0)) 182) (ay_at (ax_upd hp 730 (4) (ρ 0)) 180 1) (ay_at (ax_upd hp 730 (4) (ρ 0)) 179 1) (ay_at (ax_upd hp 730 (4) (ρ 0)) 173 28)
  have c0 : ay_at (ax_upd hp 730 (4) (ρ 0)) 185 = ay_at hp 185 := funext (fun j => ay_upd_ne hT.1 (by decide) j)
  rw [c0]
  have c1 : ay_at (ax_upd hp 730 (4) (ρ 0)) 173 27 = ay_at hp 173 27 := ay_upd_ne hT.1 (by decide) 27
  rw [c1]
  have c2 : ay_at (ax_upd hp 730 (4) (ρ 0)) 182 = ay_at hp 182 := funext (fun j => ay_upd_ne hT.1 (by decide) j)
  rw [c2]
  have c3 : ay_at (ax_upd hp 730 (4) (ρ 0)) 180 1 = some (ρ 0) := by rw [ay_upd_eq hT.1 rfl ho0, if_pos (by decide)]
  rw [c3]
  have c4 : ay_at (ax_upd hp 730 (4) (ρ 0)) 179 1 = ay_at hp 179 1 := ay_upd_ne hT.1 (by decide) 1
  rw [c4]
  have c5 : ay_at (ax_upd hp 730 (4) (ρ 0)) 173 28 = ay_at hp 173 28 := ay_upd_ne hT.1 (by decide) 28
  rw [c5]
  show ay_pg 1 0 0 1 0 1 (ay_at hp 185) (ay_ln (ay_at hp 173 27)) (ay_at hp 182) (ρ 0 / 4) (ay_ln (ay_at hp 179 1)) (ay_ln (ay_at hp 173 28))
  rw [hL2, d4]
  exact ay_pg_O p fr (by omega)
theorem axq0_lyB : ax_RO ax_wM0 (ax_XM 0) axu0_lyB := by
  intro ρ hp hE hT
  obtain ⟨p1, p2, p3, p4, p5, p6, p⟩ : ay_ex hp 185 ∧ ay_ex hp 173 ∧ ay_ex hp 182 ∧ ay_ex hp 180 ∧ ay_ex hp 179 ∧ ay_ex hp 173 ∧ ay_M40 1 (0) (4) (4) (4) (0) (ay_at hp 185) (ay_at hp 173 27) (ay_at hp 182) (ay_at hp 180 1) (ay_at hp 179 1) (ay_at hp 173 28) := (ax_XF_lt (by decide)).mp (ax_gx hE (40, [0, 4, 4, 4, 0]) (by decide))
  replace p : ay_pg 1 0 1 1 1 0 (ay_at hp 185) (ay_ln (ay_at hp 173 27)) (ay_at hp 182) (ay_ln (ay_at hp 180 1)) (ay_ln (ay_at hp 179 1)) (ay_ln (ay_at hp 173 28)) := p
  obtain ⟨L, hL, L1, L2, L3⟩ := ax_gi hE 1 2147483648 2147483747 (by decide) rfl
  obtain ⟨L4, L5⟩ := ax_bi_pos L1 (by omega)
  obtain ⟨c, hc, c1, c2, c3⟩ := ax_gi hE 2 2147484651 2147484655 (by decide) rfl
  obtain ⟨c4, c5⟩ := ax_bi_pos c1 (by omega)
  have d4 : ∀ z : Nat, 4 * z / 4 = z := fun z => by omega
  have fL := ay_gfj hE 730 4 7 180 1 (by decide) (by rw [ax_vl_c (by decide)]) (by rw [ax_vl_c (by decide)])
  replace fL : ay_at hp 180 1 = some (ρ 1) := fL
  have lL : ay_ln (ay_at hp 180 1) = L := by rw [fL, hL]; show 4 * L / 4 = L; omega
  have hL2 : ρ 0 = 4 * (L + 1) := ay_s hE 7 4 3 (b := 1) (by decide) hL (ax_vl_c (v := 4) (by decide)) (by omega) (by decide)
  have hj2 : ρ 3 = 4 * (100 + L) := ay_s hE 400 7 15 (a := 100) (by decide) (ax_vl_c (v := 400) (by decide)) hL (by decide) (by omega)
  have fr := ay_gf hE 738 15 11 182 (by decide) (by rw [ax_vl_c (by decide)])
  replace fr : ay_at hp 182 (ρ 3 / 4) = some (ρ 2) := fr
  rw [hj2, d4, hc] at fr
  replace fr : ay_at hp 182 (100 * 1 + L) = some (4 * c) := fr
  rw [lL] at p
  obtain ⟨o0, ho0⟩ := ay_some hT (q := 180) (g := 50) (n := 2) rfl rfl (j := 4 / 4) (by decide)
  refine ⟨(fun y hy => by cases hy), _, List.mem_cons_self, ρ, fun _ _ => rfl, ax_px hE (by decide) (fun y hy => ?_)⟩
  cases List.mem_singleton.mp hy
  show ax_XF (ax_XM 0) (500 + 40) [730, 4, ρ 0, 0, 0, 4, 0, 0] hp
  refine (ax_XF_wr (x := 40) (by decide)).mpr ⟨ay_ex_upd hT.1 (ax_cellT hT (q := 185) (g := 55) rfl), ay_ex_upd hT.1 (ax_cellT hT (q := 173) (g := 11) rfl), ay_ex_upd hT.1 (ax_cellT hT (q := 182) (g := 52) rfl), ay_ex_upd hT.1 (ax_cellT hT (q := 180) (g := 50) rfl), ay_ex_upd hT.1 (ax_cellT hT (q := 179) (g := 49) rfl), ay_ex_upd hT.1 (ax_cellT hT (q := 173) (g := 11) rfl), ?_⟩
  show ay_M40 1 (0) (0) (4) (0) (0) (ay_at (ax_upd hp 730 (4) (ρ 0)) 185) (ay_at (ax_upd hp 730 (4) (ρ 0)) 173 27) (ay_at (ax_upd hp 730 (4) (ρ 0)) 182) (ay_at (ax_upd hp 730 (4) (ρ 0)) 180 1) (ay_at (ax_upd hp 730 (4) (ρ 0)) 179 1) (ay_at (ax_upd hp 730 (4) (ρ 0)) 173 28)
  have c0 : ay_at (ax_upd hp 730 (4) (ρ 0)) 185 = ay_at hp 185 := funext (fun j => ay_upd_ne hT.1 (by decide) j)
  rw [c0]
  have c1 : ay_at (ax_upd hp 730 (4) (ρ 0)) 173 27 = ay_at hp 173 27 := ay_upd_ne hT.1 (by decide) 27
  rw [c1]
  have c2 : ay_at (ax_upd hp 730 (4) (ρ 0)) 182 = ay_at hp 182 := funext (fun j => ay_upd_ne hT.1 (by decide) j)
  rw [c2]
  have c3 : ay_at (ax_upd hp 730 (4) (ρ 0)) 180 1 = some (ρ 0) := by rw [ay_upd_eq hT.1 rfl ho0, if_pos (by decide)]
  rw [c3]
  have c4 : ay_at (ax_upd hp 730 (4) (ρ 0)) 179 1 = ay_at hp 179 1 := ay_upd_ne hT.1 (by decide) 1
  rw [c4]
  have c5 : ay_at (ax_upd hp 730 (4) (ρ 0)) 173 28 = ay_at hp 173 28 := ay_upd_ne hT.1 (by decide) 28
  rw [c5]
  show ay_pg 1 0 0 1 0 0 (ay_at hp 185) (ay_ln (ay_at hp 173 27)) (ay_at hp 182) (ρ 0 / 4) (ay_ln (ay_at hp 179 1)) (ay_ln (ay_at hp 173 28))
  rw [hL2, d4]
  exact ay_pg_B p fr (by omega) (by omega)
theorem axq0_lyM : ax_RO ax_wM0 (ax_XM 0) axu0_lyM := by
  intro ρ hp hE hT
  obtain ⟨p1, p2, p3, p4, p5, p6, p⟩ : ay_ex hp 185 ∧ ay_ex hp 173 ∧ ay_ex hp 182 ∧ ay_ex hp 180 ∧ ay_ex hp 179 ∧ ay_ex hp 173 ∧ ay_M40 1 (0) (0) (8) (4) (4) (ay_at hp 185) (ay_at hp 173 27) (ay_at hp 182) (ay_at hp 180 1) (ay_at hp 179 1) (ay_at hp 173 28) := (ax_XF_lt (by decide)).mp (ax_gx hE (40, [0, 0, 8, 4, 4]) (by decide))
  replace p : ay_pg 1 0 0 2 1 1 (ay_at hp 185) (ay_ln (ay_at hp 173 27)) (ay_at hp 182) (ay_ln (ay_at hp 180 1)) (ay_ln (ay_at hp 179 1)) (ay_ln (ay_at hp 173 28)) := p
  obtain ⟨L, hL, L1, L2, L3⟩ := ax_gi hE 1 2147483648 2147483747 (by decide) rfl
  obtain ⟨L4, L5⟩ := ax_bi_pos L1 (by omega)
  obtain ⟨c, hc, c1, c2, c3⟩ := ax_gi hE 2 2147484656 2147484656 (by decide) rfl
  obtain ⟨c4, c5⟩ := ax_bi_pos c1 (by omega)
  have d4 : ∀ z : Nat, 4 * z / 4 = z := fun z => by omega
  have fL := ay_gfj hE 730 4 7 180 1 (by decide) (by rw [ax_vl_c (by decide)]) (by rw [ax_vl_c (by decide)])
  replace fL : ay_at hp 180 1 = some (ρ 1) := fL
  have lL : ay_ln (ay_at hp 180 1) = L := by rw [fL, hL]; show 4 * L / 4 = L; omega
  have hL2 : ρ 0 = 4 * (L + 1) := ay_s hE 7 4 3 (b := 1) (by decide) hL (ax_vl_c (v := 4) (by decide)) (by omega) (by decide)
  have hj2 : ρ 3 = 4 * (100 + L) := ay_s hE 400 7 15 (a := 100) (by decide) (ax_vl_c (v := 400) (by decide)) hL (by decide) (by omega)
  have fr := ay_gf hE 738 15 11 182 (by decide) (by rw [ax_vl_c (by decide)])
  replace fr : ay_at hp 182 (ρ 3 / 4) = some (ρ 2) := fr
  rw [hj2, d4, hc] at fr
  replace fr : ay_at hp 182 (100 * 1 + L) = some (4 * c) := fr
  rw [lL] at p
  obtain ⟨o0, ho0⟩ := ay_some hT (q := 180) (g := 50) (n := 2) rfl rfl (j := 4 / 4) (by decide)
  refine ⟨(fun y hy => by cases hy), _, List.mem_cons_self, ρ, fun _ _ => rfl, ax_px hE (by decide) (fun y hy => ?_)⟩
  cases List.mem_singleton.mp hy
  show ax_XF (ax_XM 0) (500 + 40) [730, 4, ρ 0, 0, 0, 8, 0, 4] hp
  refine (ax_XF_wr (x := 40) (by decide)).mpr ⟨ay_ex_upd hT.1 (ax_cellT hT (q := 185) (g := 55) rfl), ay_ex_upd hT.1 (ax_cellT hT (q := 173) (g := 11) rfl), ay_ex_upd hT.1 (ax_cellT hT (q := 182) (g := 52) rfl), ay_ex_upd hT.1 (ax_cellT hT (q := 180) (g := 50) rfl), ay_ex_upd hT.1 (ax_cellT hT (q := 179) (g := 49) rfl), ay_ex_upd hT.1 (ax_cellT hT (q := 173) (g := 11) rfl), ?_⟩
  show ay_M40 1 (0) (0) (8) (0) (4) (ay_at (ax_upd hp 730 (4) (ρ 0)) 185) (ay_at (ax_upd hp 730 (4) (ρ 0)) 173 27) (ay_at (ax_upd hp 730 (4) (ρ 0)) 182) (ay_at (ax_upd hp 730 (4) (ρ 0)) 180 1) (ay_at (ax_upd hp 730 (4) (ρ 0)) 179 1) (ay_at (ax_upd hp 730 (4) (ρ 0)) 173 28)
  have c0 : ay_at (ax_upd hp 730 (4) (ρ 0)) 185 = ay_at hp 185 := funext (fun j => ay_upd_ne hT.1 (by decide) j)
  rw [c0]
  have c1 : ay_at (ax_upd hp 730 (4) (ρ 0)) 173 27 = ay_at hp 173 27 := ay_upd_ne hT.1 (by decide) 27
  rw [c1]
  have c2 : ay_at (ax_upd hp 730 (4) (ρ 0)) 182 = ay_at hp 182 := funext (fun j => ay_upd_ne hT.1 (by decide) j)
  rw [c2]
  have c3 : ay_at (ax_upd hp 730 (4) (ρ 0)) 180 1 = some (ρ 0) := by rw [ay_upd_eq hT.1 rfl ho0, if_pos (by decide)]
  rw [c3]
  have c4 : ay_at (ax_upd hp 730 (4) (ρ 0)) 179 1 = ay_at hp 179 1 := ay_upd_ne hT.1 (by decide) 1
  rw [c4]
  have c5 : ay_at (ax_upd hp 730 (4) (ρ 0)) 173 28 = ay_at hp 173 28 := ay_upd_ne hT.1 (by decide) 28
  rw [c5]
  show ay_pg 1 0 0 2 0 1 (ay_at hp 185) (ay_ln (ay_at hp 173 27)) (ay_at hp 182) (ρ 0 / 4) (ay_ln (ay_at hp 179 1)) (ay_ln (ay_at hp 173 28))
  rw [hL2, d4]
  exact ay_pg_M p (by rw [fr, show c = 1008 by omega])
theorem axq0_pu0 : ax_RO ax_wM0 (ax_XM 0) axu0_pu0 := by
  intro ρ hp hE hT
  obtain ⟨p1, p2, p3, p4, p5, p6, p⟩ : ay_ex hp 185 ∧ ay_ex hp 173 ∧ ay_ex hp 182 ∧ ay_ex hp 180 ∧ ay_ex hp 179 ∧ ay_ex hp 173 ∧ ay_M40 1 (ρ 1) (ρ 2) (ρ 3) (ρ 4) (ρ 5) (ay_at hp 185) (ay_at hp 173 27) (ay_at hp 182) (ay_at hp 180 1) (ay_at hp 179 1) (ay_at hp 173 28) := (ax_XF_lt (by decide)).mp (ax_gx hE (40, [7, 11, 15, 19, 23]) (by decide))
  replace p : ay_pg 1 (ρ 1 / 4) (ρ 2 / 4) (ρ 3 / 4) (ρ 4 / 4) (ρ 5 / 4) (ay_at hp 185) (ay_ln (ay_at hp 173 27)) (ay_at hp 182) (ay_ln (ay_at hp 180 1)) (ay_ln (ay_at hp 179 1)) (ay_ln (ay_at hp 173 28)) := p
  obtain ⟨o, ho, o1, o2, o3⟩ := ax_gi hE 0 2147483648 2147483748 (by decide) rfl
  obtain ⟨o4, o5⟩ := ax_bi_pos o1 (by omega)
  have d4 : ∀ z : Nat, 4 * z / 4 = z := fun z => by omega
  have fo := ay_gfj hE 702 108 3 173 27 (by decide) (by rw [ax_vl_c (by decide)]) (by rw [ax_vl_c (by decide)])
  replace fo : ay_at hp 173 27 = some (ρ 0) := fo
  have lo : ay_ln (ay_at hp 173 27) = o := by rw [fo, ho]; show 4 * o / 4 = o; omega
  obtain ⟨u0, hu0⟩ := ay_some hT (q := 179) (g := 49) (n := 2) rfl rfl (j := 1) (by decide)
  obtain ⟨w1, w2, w3, w4⟩ := ay_int hT (q := 179) (g := 49) (n := 2) (lo := 2147483648) (hi := 2147483688) rfl rfl hu0
  have hun : ay_ln (ay_at hp 179 1) ≤ 40 := by
    rw [hu0]
    show u0 / 4 ≤ 40
    obtain ⟨g1, g2⟩ := ax_bi_pos w2 w3
    omega
  have hb := (ay_pg_bound p).2
  rw [lo] at hb
  refine ⟨fun y hy => ?_, _, List.mem_cons_self, ρ, fun _ _ => rfl, ax_px hE (by decide) (fun y hy => by cases hy)⟩
  cases List.mem_singleton.mp hy
  show 2147483648 ≤ rx_bi (ρ 0 / 4) ∧ rx_bi (ρ 0 / 4) ≤ 2147483747
  rw [ho, d4, ax_bi_nat (by omega)]
  omega

theorem axq0_pu1 : ax_RO ax_wM0 (ax_XM 0) axu0_pu1 := by
  intro ρ hp hE hT
  obtain ⟨p1, p2, p3, p4, p5, p6, p⟩ : ay_ex hp 185 ∧ ay_ex hp 173 ∧ ay_ex hp 182 ∧ ay_ex hp 180 ∧ ay_ex hp 179 ∧ ay_ex hp 173 ∧ ay_M40 1 (ρ 2) (ρ 3) (ρ 4) (ρ 5) (ρ 6) (ay_at hp 185) (ay_at hp 173 27) (ay_at hp 182) (ay_at hp 180 1) (ay_at hp 179 1) (ay_at hp 173 28) := (ax_XF_lt (by decide)).mp (ax_gx hE (40, [11, 15, 19, 23, 27]) (by decide))
  replace p : ay_pg 1 (ρ 2 / 4) (ρ 3 / 4) (ρ 4 / 4) (ρ 5 / 4) (ρ 6 / 4) (ay_at hp 185) (ay_ln (ay_at hp 173 27)) (ay_at hp 182) (ay_ln (ay_at hp 180 1)) (ay_ln (ay_at hp 179 1)) (ay_ln (ay_at hp 173 28)) := p
  obtain ⟨o, ho, o1, o2, o3⟩ := ax_gi hE 1 2147483648 2147483747 (by decide) rfl
  obtain ⟨o4, o5⟩ := ax_bi_pos o1 (by omega)
  have d4 : ∀ z : Nat, 4 * z / 4 = z := fun z => by omega
  have fo := ay_gfj hE 702 108 7 173 27 (by decide) (by rw [ax_vl_c (by decide)]) (by rw [ax_vl_c (by decide)])
  replace fo : ay_at hp 173 27 = some (ρ 1) := fo
  have lo : ay_ln (ay_at hp 173 27) = o := by rw [fo, ho]; show 4 * o / 4 = o; omega
  obtain ⟨o0, ho0⟩ := ay_some hT (q := 185) (g := 55) (n := 100) rfl rfl (j := ρ 1 / 4) (by omega)
  refine ⟨(fun y hy => by cases hy), _, List.mem_cons_self, ρ, fun _ _ => rfl, ax_px hE (by decide) (fun y hy => ?_)⟩
  cases List.mem_singleton.mp hy
  show ax_XF (ax_XM 0) (500 + 40) [750, ρ 1, ρ 0, ρ 2, ρ 3, ρ 4, ρ 5, ρ 6] hp
  refine (ax_XF_wr (x := 40) (by decide)).mpr ⟨ay_ex_upd hT.1 (ax_cellT hT (q := 185) (g := 55) rfl), ay_ex_upd hT.1 (ax_cellT hT (q := 173) (g := 11) rfl), ay_ex_upd hT.1 (ax_cellT hT (q := 182) (g := 52) rfl), ay_ex_upd hT.1 (ax_cellT hT (q := 180) (g := 50) rfl), ay_ex_upd hT.1 (ax_cellT hT (q := 179) (g := 49) rfl), ay_ex_upd hT.1 (ax_cellT hT (q := 173) (g := 11) rfl), ?_⟩
  show ay_M40 1 (ρ 2) (ρ 3) (ρ 4) (ρ 5) (ρ 6) (ay_at (ax_upd hp 750 (ρ 1) (ρ 0)) 185) (ay_at (ax_upd hp 750 (ρ 1) (ρ 0)) 173 27) (ay_at (ax_upd hp 750 (ρ 1) (ρ 0)) 182) (ay_at (ax_upd hp 750 (ρ 1) (ρ 0)) 180 1) (ay_at (ax_upd hp 750 (ρ 1) (ρ 0)) 179 1) (ay_at (ax_upd hp 750 (ρ 1) (ρ 0)) 173 28)
  have c0 : ∀ j, ay_at (ax_upd hp 750 (ρ 1) (ρ 0)) 185 j = if j = (ρ 1) / 4 then some (ρ 0) else ay_at hp 185 j := fun j => ay_upd_eq hT.1 rfl ho0 j
  have c1 : ay_at (ax_upd hp 750 (ρ 1) (ρ 0)) 173 27 = ay_at hp 173 27 := ay_upd_ne hT.1 (by decide) 27
  rw [c1]
  have c2 : ay_at (ax_upd hp 750 (ρ 1) (ρ 0)) 182 = ay_at hp 182 := funext (fun j => ay_upd_ne hT.1 (by decide) j)
  rw [c2]
  have c3 : ay_at (ax_upd hp 750 (ρ 1) (ρ 0)) 180 1 = ay_at hp 180 1 := ay_upd_ne hT.1 (by decide) 1
  rw [c3]
  have c4 : ay_at (ax_upd hp 750 (ρ 1) (ρ 0)) 179 1 = ay_at hp 179 1 := ay_upd_ne hT.1 (by decide) 1
  rw [c4]
  have c5 : ay_at (ax_upd hp 750 (ρ 1) (ρ 0)) 173 28 = ay_at hp 173 28 := ay_upd_ne hT.1 (by decide) 28
  rw [c5]
  refine ay_pg_far p (fun j hj => ?_) (fun j hj => rfl)
  rw [lo] at hj
  rw [c0, if_neg (by omega)]
theorem axq0_puP : ax_RO ax_wM0 (ax_XM 0) axu0_puP := by
  intro ρ hp hE hT
  obtain ⟨p1, p2, p3, p4, p5, p6, p⟩ : ay_ex hp 185 ∧ ay_ex hp 173 ∧ ay_ex hp 182 ∧ ay_ex hp 180 ∧ ay_ex hp 179 ∧ ay_ex hp 173 ∧ ay_M40 1 (4) (0) (4) (8) (4) (ay_at hp 185) (ay_at hp 173 27) (ay_at hp 182) (ay_at hp 180 1) (ay_at hp 179 1) (ay_at hp 173 28) := (ax_XF_lt (by decide)).mp (ax_gx hE (40, [4, 0, 4, 8, 4]) (by decide))
  replace p : ay_pg 1 1 0 1 2 1 (ay_at hp 185) (ay_ln (ay_at hp 173 27)) (ay_at hp 182) (ay_ln (ay_at hp 180 1)) (ay_ln (ay_at hp 179 1)) (ay_ln (ay_at hp 173 28)) := p
  obtain ⟨o, ho, o1, o2, o3⟩ := ax_gi hE 1 2147483648 2147483747 (by decide) rfl
  obtain ⟨o4, o5⟩ := ax_bi_pos o1 (by omega)
  obtain ⟨c, hc, c1, c2, c3⟩ := ax_gi hE 2 2147484656 2147484657 (by decide) rfl
  obtain ⟨c4, c5⟩ := ax_bi_pos c1 (by omega)
  have d4 : ∀ z : Nat, 4 * z / 4 = z := fun z => by omega
  have fo := ay_gfj hE 702 108 7 173 27 (by decide) (by rw [ax_vl_c (by decide)]) (by rw [ax_vl_c (by decide)])
  replace fo : ay_at hp 173 27 = some (ρ 1) := fo
  have lo : ay_ln (ay_at hp 173 27) = o := by rw [fo, ho]; show 4 * o / 4 = o; omega
  have ho2 : ρ 0 = 4 * (o + 1) := ay_s hE 7 4 3 (b := 1) (by decide) ho (ax_vl_c (v := 4) (by decide)) (by omega) (by decide)
  have fr := ay_gf hE 750 7 11 185 (by decide) (by rw [ax_vl_c (by decide)])
  replace fr : ay_at hp 185 (ρ 1 / 4) = some (ρ 2) := fr
  rw [ho, d4, hc] at fr
  rw [lo] at p
  obtain ⟨o0, ho0⟩ := ay_some hT (q := 173) (g := 11) (n := 58) rfl rfl (j := 108 / 4) (by decide)
  refine ⟨(fun y hy => by cases hy), _, List.mem_cons_self, ρ, fun _ _ => rfl, ax_px hE (by decide) (fun y hy => ?_)⟩
  cases List.mem_singleton.mp hy
  show ax_XF (ax_XM 0) (500 + 40) [702, 108, ρ 0, 4, 0, 0, 4, 4] hp
  refine (ax_XF_wr (x := 40) (by decide)).mpr ⟨ay_ex_upd hT.1 (ax_cellT hT (q := 185) (g := 55) rfl), ay_ex_upd hT.1 (ax_cellT hT (q := 173) (g := 11) rfl), ay_ex_upd hT.1 (ax_cellT hT (q := 182) (g := 52) rfl), ay_ex_upd hT.1 (ax_cellT hT (q := 180) (g := 50) rfl), ay_ex_upd hT.1 (ax_cellT hT (q := 179) (g := 49) rfl), ay_ex_upd hT.1 (ax_cellT hT (q := 173) (g := 11) rfl), ?_⟩
  show ay_M40 1 (4) (0) (0) (4) (4) (ay_at (ax_upd hp 702 (108) (ρ 0)) 185) (ay_at (ax_upd hp 702 (108) (ρ 0)) 173 27) (ay_at (ax_upd hp 702 (108) (ρ 0)) 182) (ay_at (ax_upd hp 702 (108) (ρ 0)) 180 1) (ay_at (ax_upd hp 702 (108) (ρ 0)) 179 1) (ay_at (ax_upd hp 702 (108) (ρ 0)) 173 28)
  have c0 : ay_at (ax_upd hp 702 (108) (ρ 0)) 185 = ay_at hp 185 := funext (fun j => ay_upd_ne hT.1 (by decide) j)
  rw [c0]
  have c1 : ay_at (ax_upd hp 702 (108) (ρ 0)) 173 27 = some (ρ 0) := by rw [ay_upd_eq hT.1 rfl ho0, if_pos (by decide)]
  rw [c1]
  have c2 : ay_at (ax_upd hp 702 (108) (ρ 0)) 182 = ay_at hp 182 := funext (fun j => ay_upd_ne hT.1 (by decide) j)
  rw [c2]
  have c3 : ay_at (ax_upd hp 702 (108) (ρ 0)) 180 1 = ay_at hp 180 1 := ay_upd_ne hT.1 (by decide) 1
  rw [c3]
  have c4 : ay_at (ax_upd hp 702 (108) (ρ 0)) 179 1 = ay_at hp 179 1 := ay_upd_ne hT.1 (by decide) 1
  rw [c4]
  have c5 : ay_at (ax_upd hp 702 (108) (ρ 0)) 173 28 = ay_at hp 173 28 := by rw [ay_upd_eq hT.1 rfl ho0, if_neg (by decide)]
  rw [c5]
  show ay_pg 1 1 0 0 1 1 (ay_at hp 185) (ρ 0 / 4) (ay_at hp 182) (ay_ln (ay_at hp 180 1)) (ay_ln (ay_at hp 179 1)) (ay_ln (ay_at hp 173 28))
  rw [ho2, d4]
  exact ay_pg_pP p fr (by omega)
theorem axq0_puB : ax_RO ax_wM0 (ax_XM 0) axu0_puB := by
  intro ρ hp hE hT
  obtain ⟨p1, p2, p3, p4, p5, p6, p⟩ : ay_ex hp 185 ∧ ay_ex hp 173 ∧ ay_ex hp 182 ∧ ay_ex hp 180 ∧ ay_ex hp 179 ∧ ay_ex hp 173 ∧ ay_M40 1 (0) (0) (4) (0) (0) (ay_at hp 185) (ay_at hp 173 27) (ay_at hp 182) (ay_at hp 180 1) (ay_at hp 179 1) (ay_at hp 173 28) := (ax_XF_lt (by decide)).mp (ax_gx hE (40, [0, 0, 4, 0, 0]) (by decide))
  replace p : ay_pg 1 0 0 1 0 0 (ay_at hp 185) (ay_ln (ay_at hp 173 27)) (ay_at hp 182) (ay_ln (ay_at hp 180 1)) (ay_ln (ay_at hp 179 1)) (ay_ln (ay_at hp 173 28)) := p
  obtain ⟨o, ho, o1, o2, o3⟩ := ax_gi hE 1 2147483648 2147483747 (by decide) rfl
  obtain ⟨o4, o5⟩ := ax_bi_pos o1 (by omega)
  obtain ⟨c, hc, c1, c2, c3⟩ := ax_gi hE 2 2147484651 2147484655 (by decide) rfl
  obtain ⟨c4, c5⟩ := ax_bi_pos c1 (by omega)
  have d4 : ∀ z : Nat, 4 * z / 4 = z := fun z => by omega
  have fo := ay_gfj hE 702 108 7 173 27 (by decide) (by rw [ax_vl_c (by decide)]) (by rw [ax_vl_c (by decide)])
  replace fo : ay_at hp 173 27 = some (ρ 1) := fo
  have lo : ay_ln (ay_at hp 173 27) = o := by rw [fo, ho]; show 4 * o / 4 = o; omega
  have ho2 : ρ 0 = 4 * (o + 1) := ay_s hE 7 4 3 (b := 1) (by decide) ho (ax_vl_c (v := 4) (by decide)) (by omega) (by decide)
  have fr := ay_gf hE 750 7 11 185 (by decide) (by rw [ax_vl_c (by decide)])
  replace fr : ay_at hp 185 (ρ 1 / 4) = some (ρ 2) := fr
  rw [ho, d4, hc] at fr
  rw [lo] at p
  obtain ⟨o0, ho0⟩ := ay_some hT (q := 173) (g := 11) (n := 58) rfl rfl (j := 108 / 4) (by decide)
  refine ⟨(fun y hy => by cases hy), _, List.mem_cons_self, ρ, fun _ _ => rfl, ax_px hE (by decide) (fun y hy => ?_)⟩
  cases List.mem_singleton.mp hy
  show ax_XF (ax_XM 0) (500 + 40) [702, 108, ρ 0, 4, 0, 4, 0, 4] hp
  refine (ax_XF_wr (x := 40) (by decide)).mpr ⟨ay_ex_upd hT.1 (ax_cellT hT (q := 185) (g := 55) rfl), ay_ex_upd hT.1 (ax_cellT hT (q := 173) (g := 11) rfl), ay_ex_upd hT.1 (ax_cellT hT (q := 182) (g := 52) rfl), ay_ex_upd hT.1 (ax_cellT hT (q := 180) (g := 50) rfl), ay_ex_upd hT.1 (ax_cellT hT (q := 179) (g := 49) rfl), ay_ex_upd hT.1 (ax_cellT hT (q := 173) (g := 11) rfl), ?_⟩
  show ay_M40 1 (4) (0) (4) (0) (4) (ay_at (ax_upd hp 702 (108) (ρ 0)) 185) (ay_at (ax_upd hp 702 (108) (ρ 0)) 173 27) (ay_at (ax_upd hp 702 (108) (ρ 0)) 182) (ay_at (ax_upd hp 702 (108) (ρ 0)) 180 1) (ay_at (ax_upd hp 702 (108) (ρ 0)) 179 1) (ay_at (ax_upd hp 702 (108) (ρ 0)) 173 28)
  have c0 : ay_at (ax_upd hp 702 (108) (ρ 0)) 185 = ay_at hp 185 := funext (fun j => ay_upd_ne hT.1 (by decide) j)
  rw [c0]
  have c1 : ay_at (ax_upd hp 702 (108) (ρ 0)) 173 27 = some (ρ 0) := by rw [ay_upd_eq hT.1 rfl ho0, if_pos (by decide)]
  rw [c1]
  have c2 : ay_at (ax_upd hp 702 (108) (ρ 0)) 182 = ay_at hp 182 := funext (fun j => ay_upd_ne hT.1 (by decide) j)
  rw [c2]
  have c3 : ay_at (ax_upd hp 702 (108) (ρ 0)) 180 1 = ay_at hp 180 1 := ay_upd_ne hT.1 (by decide) 1
  rw [c3]
  have c4 : ay_at (ax_upd hp 702 (108) (ρ 0)) 179 1 = ay_at hp 179 1 := ay_upd_ne hT.1 (by decide) 1
  rw [c4]
  have c5 : ay_at (ax_upd hp 702 (108) (ρ 0)) 173 28 = ay_at hp 173 28 := by rw [ay_upd_eq hT.1 rfl ho0, if_neg (by decide)]
  rw [c5]
  show ay_pg 1 1 0 1 0 1 (ay_at hp 185) (ρ 0 / 4) (ay_at hp 182) (ay_ln (ay_at hp 180 1)) (ay_ln (ay_at hp 179 1)) (ay_ln (ay_at hp 173 28))
  rw [ho2, d4]
  exact ay_pg_pB p fr (by omega) (by omega)
