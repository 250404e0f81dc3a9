theorem axq1_rk0 : ax_RO ax_wM1 (ax_XM 1) axu1_rk0 := axqg_rk0 ax_WW1
theorem axq1_rkM : ax_RO ax_wM1 (ax_XM 1) axu1_rkM := by
  intro ρ hp hE hT
  obtain ⟨x1, x2, x3⟩ : ay_ex hp 182 ∧ ay_ex hp 180 ∧ ay_M26 1 (ay_at hp 182) (ay_at hp 180 1) := (ax_XF_lt (by decide)).mp (ax_gx hE (26, []) (by decide))
  obtain ⟨y1, y2, y3⟩ : ay_ex hp 182 ∧ ay_ex hp 180 ∧ ay_M36 1 (ρ 0) (ρ 1) (ay_at hp 182) := (ax_XF_lt (by decide)).mp (ax_gx hE (36, [3, 7]) (by decide))
  obtain ⟨n, hn, n1, n2, n3⟩ := ax_gi hE 0 2147483648 2147483748 (by decide) rfl
  obtain ⟨n4, n5⟩ := ax_bi_pos n1 (by omega)
  obtain ⟨k, hk, k1, k2, k3⟩ := ax_gi hE 1 2147483648 2147483747 (by decide) rfl
  obtain ⟨k4, k5⟩ := ax_bi_pos k1 (by omega)
  obtain ⟨L, hL, L1, L2, L3⟩ := ax_gi hE 4 2147483648 2147483748 (by decide) rfl
  obtain ⟨L4, L5⟩ := ax_bi_pos L1 (by omega)
  have d4 : ∀ z : Nat, 4 * z / 4 = z := fun z => by omega
  obtain ⟨c, hc, c1, c2, c3⟩ := ax_gi hE 2 2147484656 2147484656 (by decide) rfl
  have hj : ρ 3 = 4 * (100 + k) := ay_s hE 400 7 15 (a := 100) (by decide) (ax_vl_c (v := 400) (by decide)) hk (by decide) (by omega)
  have f1 := ay_gf hE 738 15 11 182 (by decide) (by rw [ax_vl_c (by decide)])
  have f2 := ay_gfj hE 730 4 19 180 1 (by decide) (by rw [ax_vl_c (by decide)]) (by rw [ax_vl_c (by decide)])
  replace f1 : ay_at hp 182 (ρ 3 / 4) = some (ρ 2) := f1
  replace f2 : ay_at hp 180 1 = some (ρ 4) := f2
  have hlt : rx_bi (ρ 1 / 4) < rx_bi (ρ 4 / 4) := ax_gc hE 2 7 19 (by decide) (by decide)
  rw [hk, hL, d4, d4] at hlt
  rw [hj, d4, hc] at f1
  replace y3 : ay_ht (ay_at hp 182) (100 * 1) (ρ 1 / 4) = some (ρ 0 / 4) := y3
  rw [hk, hn, d4, d4] at y3
  have hs : ay_ht (ay_at hp 182) (100 * 1) (k + 1) = ay_stp n (4 * c) := ay_ht_s y3 (by rw [show 100 * 1 + k = 100 + k from rfl]; exact f1)
  have hgood : ay_stp n (4 * c) ≠ none := by
    rw [← hs]
    exact x3 (k + 1) (by rw [f2, hL]; show k + 1 ≤ 4 * L / 4; omega)
  unfold ay_stp at hgood hs
  rw [d4] at hgood hs
  rw [ax_bi_def] at c2 c3
  rw [if_neg (by omega), if_pos (by omega)] at hgood hs
  have hn1 : 1 ≤ n := Decidable.byContradiction (fun z => hgood (by rw [if_neg z]))
  refine ⟨fun y hy => ?_, _, List.mem_cons_self, ρ, fun _ _ => rfl, ax_px hE (by decide) (fun y hy => by cases hy)⟩
  cases List.mem_singleton.mp hy
  show 2147483649 ≤ rx_bi (ρ 0 / 4) ∧ rx_bi (ρ 0 / 4) ≤ 2147483748
  rw [hn, d4]
  omega
theorem axq1_rkB : ax_RO ax_wM1 (ax_XM 1) axu1_rkB := by
  intro ρ hp hE hT
  obtain ⟨x1, x2, x3⟩ : ay_ex hp 182 ∧ ay_ex hp 180 ∧ ay_M26 1 (ay_at hp 182) (ay_at hp 180 1) := (ax_XF_lt (by decide)).mp (ax_gx hE (26, []) (by decide))
  obtain ⟨y1, y2, y3⟩ : ay_ex hp 182 ∧ ay_ex hp 180 ∧ ay_M36 1 (ρ 0) (ρ 1) (ay_at hp 182) := (ax_XF_lt (by decide)).mp (ax_gx hE (36, [3, 7]) (by decide))
  obtain ⟨n, hn, n1, n2, n3⟩ := ax_gi hE 0 2147483648 2147483748 (by decide) rfl
  obtain ⟨n4, n5⟩ := ax_bi_pos n1 (by omega)
  obtain ⟨k, hk, k1, k2, k3⟩ := ax_gi hE 1 2147483648 2147483747 (by decide) rfl
  obtain ⟨k4, k5⟩ := ax_bi_pos k1 (by omega)
  obtain ⟨L, hL, L1, L2, L3⟩ := ax_gi hE 4 2147483648 2147483748 (by decide) rfl
  obtain ⟨L4, L5⟩ := ax_bi_pos L1 (by omega)
  have d4 : ∀ z : Nat, 4 * z / 4 = z := fun z => by omega
  obtain ⟨c, hc, c1, c2, c3⟩ := ax_gi hE 2 2147484651 2147484655 (by decide) rfl
  have hj : ρ 3 = 4 * (100 + k) := ay_s hE 400 7 15 (a := 100) (by decide) (ax_vl_c (v := 400) (by decide)) hk (by decide) (by omega)
  have f1 := ay_gf hE 738 15 11 182 (by decide) (by rw [ax_vl_c (by decide)])
  have f2 := ay_gfj hE 730 4 19 180 1 (by decide) (by rw [ax_vl_c (by decide)]) (by rw [ax_vl_c (by decide)])
  replace f1 : ay_at hp 182 (ρ 3 / 4) = some (ρ 2) := f1
  replace f2 : ay_at hp 180 1 = some (ρ 4) := f2
  have hlt : rx_bi (ρ 1 / 4) < rx_bi (ρ 4 / 4) := ax_gc hE 2 7 19 (by decide) (by decide)
  rw [hk, hL, d4, d4] at hlt
  rw [hj, d4, hc] at f1
  replace y3 : ay_ht (ay_at hp 182) (100 * 1) (ρ 1 / 4) = some (ρ 0 / 4) := y3
  rw [hk, hn, d4, d4] at y3
  have hs : ay_ht (ay_at hp 182) (100 * 1) (k + 1) = ay_stp n (4 * c) := ay_ht_s y3 (by rw [show 100 * 1 + k = 100 + k from rfl]; exact f1)
  have hgood : ay_stp n (4 * c) ≠ none := by
    rw [← hs]
    exact x3 (k + 1) (by rw [f2, hL]; show k + 1 ≤ 4 * L / 4; omega)
  unfold ay_stp at hgood hs
  rw [d4] at hgood hs
  rw [ax_bi_def] at c2 c3
  rw [if_neg (by omega), if_neg (by omega), if_pos (by omega)] at hgood hs
  have hn2 : 2 ≤ n := Decidable.byContradiction (fun z => hgood (by rw [if_neg z]))
  refine ⟨fun y hy => ?_, _, List.mem_cons_self, ρ, fun _ _ => rfl, ax_px hE (by decide) (fun y hy => by cases hy)⟩
  cases List.mem_singleton.mp hy
  show 2147483650 ≤ rx_bi (ρ 0 / 4) ∧ rx_bi (ρ 0 / 4) ≤ 2147483748
  rw [hn, d4]
  omega
theorem axq1_rkX : ax_RO ax_wM1 (ax_XM 1) axu1_rkX := by
  intro ρ hp hE hT
  obtain ⟨x1, x2, x3⟩ : ay_ex hp 182 ∧ ay_ex hp 180 ∧ ay_M26 1 (ay_at hp 182) (ay_at hp 180 1) := (ax_XF_lt (by decide)).mp (ax_gx hE (26, []) (by decide))
  obtain ⟨y1, y2, y3⟩ : ay_ex hp 182 ∧ ay_ex hp 180 ∧ ay_M36 1 (ρ 0) (ρ 1) (ay_at hp 182) := (ax_XF_lt (by decide)).mp (ax_gx hE (36, [3, 7]) (by decide))
  obtain ⟨n, hn, n1, n2, n3⟩ := ax_gi hE 0 2147483648 2147483748 (by decide) rfl
  obtain ⟨n4, n5⟩ := ax_bi_pos n1 (by omega)
  obtain ⟨k, hk, k1, k2, k3⟩ := ax_gi hE 1 2147483648 2147483747 (by decide) rfl
  obtain ⟨k4, k5⟩ := ax_bi_pos k1 (by omega)
  obtain ⟨L, hL, L1, L2, L3⟩ := ax_gi hE 4 2147483648 2147483748 (by decide) rfl
  obtain ⟨L4, L5⟩ := ax_bi_pos L1 (by omega)
  have d4 : ∀ z : Nat, 4 * z / 4 = z := fun z => by omega
  obtain ⟨c, hc, c1, c2, c3⟩ := ax_gi hE 2 2147484657 4294967295 (by decide) rfl
  have hj : ρ 3 = 4 * (100 + k) := ay_s hE 400 7 15 (a := 100) (by decide) (ax_vl_c (v := 400) (by decide)) hk (by decide) (by omega)
  have f1 := ay_gf hE 738 15 11 182 (by decide) (by rw [ax_vl_c (by decide)])
  have f2 := ay_gfj hE 730 4 19 180 1 (by decide) (by rw [ax_vl_c (by decide)]) (by rw [ax_vl_c (by decide)])
  replace f1 : ay_at hp 182 (ρ 3 / 4) = some (ρ 2) := f1
  replace f2 : ay_at hp 180 1 = some (ρ 4) := f2
  have hlt : rx_bi (ρ 1 / 4) < rx_bi (ρ 4 / 4) := ax_gc hE 2 7 19 (by decide) (by decide)
  rw [hk, hL, d4, d4] at hlt
  rw [hj, d4, hc] at f1
  replace y3 : ay_ht (ay_at hp 182) (100 * 1) (ρ 1 / 4) = some (ρ 0 / 4) := y3
  rw [hk, hn, d4, d4] at y3
  have hs : ay_ht (ay_at hp 182) (100 * 1) (k + 1) = ay_stp n (4 * c) := ay_ht_s y3 (by rw [show 100 * 1 + k = 100 + k from rfl]; exact f1)
  have hgood : ay_stp n (4 * c) ≠ none := by
    rw [← hs]
    exact x3 (k + 1) (by rw [f2, hL]; show k + 1 ≤ 4 * L / 4; omega)
  unfold ay_stp at hgood hs
  rw [d4] at hgood hs
  rw [ax_bi_def] at c2 c3
  exfalso
  exact hgood (by rw [if_neg (by omega), if_neg (by omega), if_neg (by omega)])
theorem axq1_rkO : ax_RO ax_wM1 (ax_XM 1) axu1_rkO := by
  intro ρ hp hE hT
  obtain ⟨x1, x2, x3⟩ : ay_ex hp 182 ∧ ay_ex hp 180 ∧ ay_M26 1 (ay_at hp 182) (ay_at hp 180 1) := (ax_XF_lt (by decide)).mp (ax_gx hE (26, []) (by decide))
  obtain ⟨y1, y2, y3⟩ : ay_ex hp 182 ∧ ay_ex hp 180 ∧ ay_M36 1 (ρ 0) (ρ 1) (ay_at hp 182) := (ax_XF_lt (by decide)).mp (ax_gx hE (36, [3, 7]) (by decide))
  obtain ⟨n, hn, n1, n2, n3⟩ := ax_gi hE 0 2147483648 2147483748 (by decide) rfl
  obtain ⟨n4, n5⟩ := ax_bi_pos n1 (by omega)
  obtain ⟨k, hk, k1, k2, k3⟩ := ax_gi hE 1 2147483648 2147483747 (by decide) rfl
  obtain ⟨k4, k5⟩ := ax_bi_pos k1 (by omega)
  obtain ⟨L, hL, L1, L2, L3⟩ := ax_gi hE 4 2147483648 2147483748 (by decide) rfl
  obtain ⟨L4, L5⟩ := ax_bi_pos L1 (by omega)
  have d4 : ∀ z : Nat, 4 * z / 4 = z := fun z => by omega
  obtain ⟨c, hc, c1, c2, c3⟩ := ax_gi hE 2 0 2147484650 (by decide) rfl
  have hj : ρ 3 = 4 * (100 + k) := ay_s hE 400 7 15 (a := 100) (by decide) (ax_vl_c (v := 400) (by decide)) hk (by decide) (by omega)
  have f1 := ay_gf hE 738 15 11 182 (by decide) (by rw [ax_vl_c (by decide)])
  have f2 := ay_gfj hE 730 4 19 180 1 (by decide) (by rw [ax_vl_c (by decide)]) (by rw [ax_vl_c (by decide)])
  replace f1 : ay_at hp 182 (ρ 3 / 4) = some (ρ 2) := f1
  replace f2 : ay_at hp 180 1 = some (ρ 4) := f2
  have hlt : rx_bi (ρ 1 / 4) < rx_bi (ρ 4 / 4) := ax_gc hE 2 7 19 (by decide) (by decide)
  rw [hk, hL, d4, d4] at hlt
  rw [hj, d4, hc] at f1
  replace y3 : ay_ht (ay_at hp 182) (100 * 1) (ρ 1 / 4) = some (ρ 0 / 4) := y3
  rw [hk, hn, d4, d4] at y3
  have hs : ay_ht (ay_at hp 182) (100 * 1) (k + 1) = ay_stp n (4 * c) := ay_ht_s y3 (by rw [show 100 * 1 + k = 100 + k from rfl]; exact f1)
  have hgood : ay_stp n (4 * c) ≠ none := by
    rw [← hs]
    exact x3 (k + 1) (by rw [f2, hL]; show k + 1 ≤ 4 * L / 4; omega)
  unfold ay_stp at hgood hs
  rw [d4] at hgood hs
  rw [ax_bi_def] at c2 c3
  have hc2 : c ≤ 1002 := Decidable.byContradiction (fun z => hgood (by rw [if_neg z, if_neg (by omega), if_neg (by omega)]))
  rw [if_pos hc2] at hs
  have hnk := ay_ht_le y3
  refine ⟨fun y hy => ?_, _, List.mem_cons_self, ρ, fun _ _ => rfl, ax_px hE (by decide) (fun y hy => by cases hy)⟩
  cases List.mem_singleton.mp hy
  show 2147483648 ≤ rx_bi (ρ 0 / 4) ∧ rx_bi (ρ 0 / 4) ≤ 2147483747
  rw [hn, d4]
  omega
theorem axq1_rlM : ax_RO ax_wM1 (ax_XM 1) axu1_rlM := by
  intro ρ hp hE hT
  obtain ⟨x1, x2, x3⟩ : ay_ex hp 182 ∧ ay_ex hp 180 ∧ ay_M26 1 (ay_at hp 182) (ay_at hp 180 1) := (ax_XF_lt (by decide)).mp (ax_gx hE (26, []) (by decide))
  obtain ⟨y1, y2, y3⟩ : ay_ex hp 182 ∧ ay_ex hp 180 ∧ ay_M36 1 (ρ 0) (ρ 1) (ay_at hp 182) := (ax_XF_lt (by decide)).mp (ax_gx hE (36, [3, 7]) (by decide))
  obtain ⟨n, hn, n1, n2, n3⟩ := ax_gi hE 0 2147483648 2147483748 (by decide) rfl
  obtain ⟨n4, n5⟩ := ax_bi_pos n1 (by omega)
  obtain ⟨k, hk, k1, k2, k3⟩ := ax_gi hE 1 2147483648 2147483747 (by decide) rfl
  obtain ⟨k4, k5⟩ := ax_bi_pos k1 (by omega)
  obtain ⟨L, hL, L1, L2, L3⟩ := ax_gi hE 4 2147483648 2147483748 (by decide) rfl
  obtain ⟨L4, L5⟩ := ax_bi_pos L1 (by omega)
  have d4 : ∀ z : Nat, 4 * z / 4 = z := fun z => by omega
  obtain ⟨c, hc, c1, c2, c3⟩ := ax_gi hE 2 2147484656 2147484656 (by decide) rfl
  have hj : ρ 3 = 4 * (100 + k) := ay_s hE 400 7 15 (a := 100) (by decide) (ax_vl_c (v := 400) (by decide)) hk (by decide) (by omega)
  have f1 := ay_gf hE 738 15 11 182 (by decide) (by rw [ax_vl_c (by decide)])
  have f2 := ay_gfj hE 730 4 19 180 1 (by decide) (by rw [ax_vl_c (by decide)]) (by rw [ax_vl_c (by decide)])
  replace f1 : ay_at hp 182 (ρ 3 / 4) = some (ρ 2) := f1
  replace f2 : ay_at hp 180 1 = some (ρ 4) := f2
  have hlt : rx_bi (ρ 1 / 4) < rx_bi (ρ 4 / 4) := ax_gc hE 2 7 19 (by decide) (by decide)
  rw [hk, hL, d4, d4] at hlt
  rw [hj, d4, hc] at f1
  replace y3 : ay_ht (ay_at hp 182) (100 * 1) (ρ 1 / 4) = some (ρ 0 / 4) := y3
  rw [hk, hn, d4, d4] at y3
  have hs : ay_ht (ay_at hp 182) (100 * 1) (k + 1) = ay_stp n (4 * c) := ay_ht_s y3 (by rw [show 100 * 1 + k = 100 + k from rfl]; exact f1)
  have hgood : ay_stp n (4 * c) ≠ none := by
    rw [← hs]
    exact x3 (k + 1) (by rw [f2, hL]; show k + 1 ≤ 4 * L / 4; omega)
  unfold ay_stp at hgood hs
  rw [d4] at hgood hs
  rw [ax_bi_def] at c2 c3
  rw [if_neg (by omega), if_pos (by omega)] at hgood hs
  have hn1 : 1 ≤ n := Decidable.byContradiction (fun z => hgood (by rw [if_neg z]))
  have hk2 : ρ 5 = 4 * (k + 1) := ay_s hE 7 4 23 (b := 1) (by decide) hk (ax_vl_c (v := 4) (by decide)) (by omega) (by decide)
  rw [if_pos hn1] at hs
  refine ⟨(fun y hy => by cases hy), _, List.mem_cons_self, ρ, fun _ _ => rfl, ax_px hE (by decide) (fun y hy => ?_)⟩
  cases List.mem_singleton.mp hy
  refine (ax_XF_lt (x := 36) (by decide)).mpr ⟨y1, y2, ?_⟩
  show ay_ht (ay_at hp 182) (100 * 1) (ρ 5 / 4) = some (ρ 0 / 4)
  rw [hk2, d4, hs, hn, d4]
theorem axq1_rlB : ax_RO ax_wM1 (ax_XM 1) axu1_rlB := by
  intro ρ hp hE hT
  obtain ⟨x1, x2, x3⟩ : ay_ex hp 182 ∧ ay_ex hp 180 ∧ ay_M26 1 (ay_at hp 182) (ay_at hp 180 1) := (ax_XF_lt (by decide)).mp (ax_gx hE (26, []) (by decide))
  obtain ⟨y1, y2, y3⟩ : ay_ex hp 182 ∧ ay_ex hp 180 ∧ ay_M36 1 (ρ 0) (ρ 1) (ay_at hp 182) := (ax_XF_lt (by decide)).mp (ax_gx hE (36, [3, 7]) (by decide))
  obtain ⟨n, hn, n1, n2, n3⟩ := ax_gi hE 0 2147483648 2147483748 (by decide) rfl
  obtain ⟨n4, n5⟩ := ax_bi_pos n1 (by omega)
  obtain ⟨k, hk, k1, k2, k3⟩ := ax_gi hE 1 2147483648 2147483747 (by decide) rfl
  obtain ⟨k4, k5⟩ := ax_bi_pos k1 (by omega)
  obtain ⟨L, hL, L1, L2, L3⟩ := ax_gi hE 4 2147483648 2147483748 (by decide) rfl
  obtain ⟨L4, L5⟩ := ax_bi_pos L1 (by omega)
  have d4 : ∀ z : Nat, 4 * z / 4 = z := fun z => by omega
  obtain ⟨c, hc, c1, c2, c3⟩ := ax_gi hE 2 2147484651 2147484655 (by decide) rfl
  have hj : ρ 3 = 4 * (100 + k) := ay_s hE 400 7 15 (a := 100) (by decide) (ax_vl_c (v := 400) (by decide)) hk (by decide) (by omega)
  have f1 := ay_gf hE 738 15 11 182 (by decide) (by rw [ax_vl_c (by decide)])
  have f2 := ay_gfj hE 730 4 19 180 1 (by decide) (by rw [ax_vl_c (by decide)]) (by rw [ax_vl_c (by decide)])
  replace f1 : ay_at hp 182 (ρ 3 / 4) = some (ρ 2) := f1
  replace f2 : ay_at hp 180 1 = some (ρ 4) := f2
  have hlt : rx_bi (ρ 1 / 4) < rx_bi (ρ 4 / 4) := ax_gc hE 2 7 19 (by decide) (by decide)
  rw [hk, hL, d4, d4] at hlt
  rw [hj, d4, hc] at f1
  replace y3 : ay_ht (ay_at hp 182) (100 * 1) (ρ 1 / 4) = some (ρ 0 / 4) := y3
  rw [hk, hn, d4, d4] at y3
  have hs : ay_ht (ay_at hp 182) (100 * 1) (k + 1) = ay_stp n (4 * c) := ay_ht_s y3 (by rw [show 100 * 1 + k = 100 + k from rfl]; exact f1)
  have hgood : ay_stp n (4 * c) ≠ none := by
    rw [← hs]
    exact x3 (k + 1) (by rw [f2, hL]; show k + 1 ≤ 4 * L / 4; omega)
  unfold ay_stp at hgood hs
  rw [d4] at hgood hs
  rw [ax_bi_def] at c2 c3
  rw [if_neg (by omega), if_neg (by omega), if_pos (by omega)] at hgood hs
  have hn2 : 2 ≤ n := Decidable.byContradiction (fun z => hgood (by rw [if_neg z]))
  have hk2 : ρ 5 = 4 * (k + 1) := ay_s hE 7 4 23 (b := 1) (by decide) hk (ax_vl_c (v := 4) (by decide)) (by omega) (by decide)
  rw [if_pos hn2] at hs
  have hn3 : ρ 6 = 4 * (n - 1) := by
    obtain ⟨a', b', c', e1, e2, e3, l1, l2, l3, hs'⟩ := ax_gs hE 3 17179869180 27 (by decide)
    have ea : a' = n := by replace e1 : ρ 0 = 4 * a' := e1; omega
    have eb : b' = 4294967295 := by rw [ax_vl_c (by decide)] at e2; omega
    subst ea eb
    replace e3 : ρ 6 = 4 * c' := e3
    rw [ax_bi_def, ax_bi_def, ax_bi_def] at hs'
    omega
  refine ⟨(fun y hy => by cases hy), _, List.mem_cons_self, ρ, fun _ _ => rfl, ax_px hE (by decide) (fun y hy => ?_)⟩
  cases List.mem_singleton.mp hy
  refine (ax_XF_lt (x := 36) (by decide)).mpr ⟨y1, y2, ?_⟩
  show ay_ht (ay_at hp 182) (100 * 1) (ρ 5 / 4) = some (ρ 6 / 4)
  rw [hk2, d4, hs, hn3, d4]
theorem axq1_rlO : ax_RO ax_wM1 (ax_XM 1) axu1_rlO := by
  intro ρ hp hE hT
  obtain ⟨x1, x2, x3⟩ : ay_ex hp 182 ∧ ay_ex hp 180 ∧ ay_M26 1 (ay_at hp 182) (ay_at hp 180 1) := (ax_XF_lt (by decide)).mp (ax_gx hE (26, []) (by decide))
  obtain ⟨y1, y2, y3⟩ : ay_ex hp 182 ∧ ay_ex hp 180 ∧ ay_M36 1 (ρ 0) (ρ 1) (ay_at hp 182) := (ax_XF_lt (by decide)).mp (ax_gx hE (36, [3, 7]) (by decide))
  obtain ⟨n, hn, n1, n2, n3⟩ := ax_gi hE 0 2147483648 2147483748 (by decide) rfl
  obtain ⟨n4, n5⟩ := ax_bi_pos n1 (by omega)
  obtain ⟨k, hk, k1, k2, k3⟩ := ax_gi hE 1 2147483648 2147483747 (by decide) rfl
  obtain ⟨k4, k5⟩ := ax_bi_pos k1 (by omega)
  obtain ⟨L, hL, L1, L2, L3⟩ := ax_gi hE 4 2147483648 2147483748 (by decide) rfl
  obtain ⟨L4, L5⟩ := ax_bi_pos L1 (by omega)
  have d4 : ∀ z : Nat, 4 * z / 4 = z := fun z => by omega
  obtain ⟨c, hc, c1, c2, c3⟩ := ax_gi hE 2 0 2147484650 (by decide) rfl
  have hj : ρ 3 = 4 * (100 + k) := ay_s hE 400 7 15 (a := 100) (by decide) (ax_vl_c (v := 400) (by decide)) hk (by decide) (by omega)
  have f1 := ay_gf hE 738 15 11 182 (by decide) (by rw [ax_vl_c (by decide)])
  have f2 := ay_gfj hE 730 4 19 180 1 (by decide) (by rw [ax_vl_c (by decide)]) (by rw [ax_vl_c (by decide)])
  replace f1 : ay_at hp 182 (ρ 3 / 4) = some (ρ 2) := f1
  replace f2 : ay_at hp 180 1 = some (ρ 4) := f2
  have hlt : rx_bi (ρ 1 / 4) < rx_bi (ρ 4 / 4) := ax_gc hE 2 7 19 (by decide) (by decide)
  rw [hk, hL, d4, d4] at hlt
  rw [hj, d4, hc] at f1
  replace y3 : ay_ht (ay_at hp 182) (100 * 1) (ρ 1 / 4) = some (ρ 0 / 4) := y3
  rw [hk, hn, d4, d4] at y3
  have hs : ay_ht (ay_at hp 182) (100 * 1) (k + 1) = ay_stp n (4 * c) := ay_ht_s y3 (by rw [show 100 * 1 + k = 100 + k from rfl]; exact f1)
  have hgood : ay_stp n (4 * c) ≠ none := by
    rw [← hs]
    exact x3 (k + 1) (by rw [f2, hL]; show k + 1 ≤ 4 * L / 4; omega)
  unfold ay_stp at hgood hs
  rw [d4] at hgood hs
  rw [ax_bi_def] at c2 c3
  have hc2 : c ≤ 1002 := Decidable.byContradiction (fun z => hgood (by rw [if_neg z, if_neg (by omega), if_neg (by omega)]))
  rw [if_pos hc2] at hs
  have hnk := ay_ht_le y3
  have hk2 : ρ 5 = 4 * (k + 1) := ay_s hE 7 4 23 (b := 1) (by decide) hk (ax_vl_c (v := 4) (by decide)) (by omega) (by decide)
  have hn3 : ρ 6 = 4 * (n + 1) := ay_s hE 3 4 27 (b := 1) (by decide) hn (ax_vl_c (v := 4) (by decide)) (by omega) (by decide)
  refine ⟨(fun y hy => by cases hy), _, List.mem_cons_self, ρ, fun _ _ => rfl, ax_px hE (by decide) (fun y hy => ?_)⟩
  cases List.mem_singleton.mp hy
  refine (ax_XF_lt (x := 36) (by decide)).mpr ⟨y1, y2, ?_⟩
  show ay_ht (ay_at hp 182) (100 * 1) (ρ 5 / 4) = some (ρ 6 / 4)
  rw [hk2, d4, hs, hn3, d4]
