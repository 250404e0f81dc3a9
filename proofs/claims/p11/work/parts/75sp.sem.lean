theorem axq1_gp0 : ax_RO ax_wM1 (ax_XM 1) axu1_gp0 := by
  intro ρ hp hE hT
  obtain ⟨z, hz⟩ : ∃ z, ay_cnt (ay_fp (ay_at hp 188) (ay_at hp 174) (ay_at hp 176 1)) 20 = z := ⟨_, rfl⟩
  obtain ⟨ρ', h1, h2⟩ := ax_pn (K := z + 1) (xf := [(17, [3])]) hE (by decide) (fun ρ' h1 h2 x hx => by
    cases List.mem_singleton.mp hx
    refine (ax_XF_lt (x := 17) (by decide)).mpr ⟨(ax_cellT hT (q := 188) (g := 58) (ax_wc ax_WW1 ax_cg_188)), (ax_cellT hT (q := 174) (g := 44) (ax_wc ax_WW1 ax_cg_174)), (ax_cellT hT (q := 176) (g := 46) (ax_wc ax_WW1 ax_cg_176)), ?_⟩
    show ay_cnt (ay_fp (ay_at hp 188) (ay_at hp 174) (ay_at hp 176 1)) 20 < ρ' 0 / 4
    rw [h2, hz]
    omega)
  exact ⟨(fun x hx => by cases hx), _, List.mem_cons_self, ρ', h1, h2⟩
theorem axq1_gpT : ax_RO ax_wM1 (ax_XM 1) axu1_gpT := by
  intro ρ hp hE hT
  obtain ⟨x1, x2, x3, x4, x5⟩ : ay_ex hp 188 ∧ ay_ex hp 174 ∧ ay_ex hp 176 ∧ ay_ex hp 200 ∧ ay_M19 (ρ 0) (ay_at hp 188) (ay_at hp 174) (ay_at hp 200) (ay_at hp 176 1) := (ax_XF_lt (by decide)).mp (ax_gx hE (19, [3]) (by decide))
  obtain ⟨n, hn, n1, n2, n3⟩ := ax_gi hE 0 2147483649 2147483668 (by decide) rfl
  obtain ⟨n4, n5⟩ := ax_bi_pos n1 (by omega)
  replace x5 : ρ 0 / 4 ≤ ay_cnt (ay_tk (ay_at hp 188) (ay_at hp 174) (ay_at hp 200) (ay_at hp 176 1)) 20 := x5
  obtain ⟨j, j1, j2⟩ := ay_cnt_pos 20 (show 1 ≤ ay_cnt (ay_tk (ay_at hp 188) (ay_at hp 174) (ay_at hp 200) (ay_at hp 176 1)) 20 by omega)
  refine ⟨(fun y hy => by cases hy), _, List.mem_cons_self, ρ, fun _ _ => rfl, ax_px hE (by decide) (fun y hy => ?_)⟩
  cases List.mem_singleton.mp hy
  exact (ax_XF_lt (x := 22) (by decide)).mpr ⟨x1, x2, x3, x4, j, j1, j2⟩
theorem axq1_tp0 : ax_RO ax_wM1 (ax_XM 1) axu1_tp0 := axqg_tp0 ax_WW1
theorem axq1_tpA : ax_RO ax_wM1 (ax_XM 1) axu1_tpA := by
  intro ρ hp hE hT
  obtain ⟨x1, x2, x3, x4, x5⟩ : ay_ex hp 188 ∧ ay_ex hp 174 ∧ ay_ex hp 176 ∧ ay_ex hp 200 ∧ ay_M18 (ρ 1) (ρ 0) (ay_at hp 188) (ay_at hp 174) (ay_at hp 200) (ay_at hp 176 1) := (ax_XF_lt (by decide)).mp (ax_gx hE (18, [7, 3]) (by decide))
  obtain ⟨l, hl, l1, l2, l3⟩ := ax_gi hE 0 2147483648 2147483667 (by decide) rfl
  obtain ⟨l4, l5⟩ := ax_bi_pos l1 (by omega)
  obtain ⟨o, ho⟩ := ay_some hT (q := 200) (g := 70) (n := 20) (ax_wc ax_WW1 ax_cg_200) (ax_wn ax_WW1 ax_cn_70) (j := ρ 0 / 4) (by omega)
  have hup := ay_upd_eq (a := 810) (i := ρ 0) (v := 4) hT.1 (show 810 / 4 - 2 = 200 from rfl) ho
  have e1 : ay_at (ax_upd hp 810 (ρ 0) 4) 188 = ay_at hp 188 := funext (fun j => ay_upd_ne hT.1 (by decide) j)
  have e2 : ay_at (ax_upd hp 810 (ρ 0) 4) 174 = ay_at hp 174 := funext (fun j => ay_upd_ne hT.1 (by decide) j)
  have e3 : ay_at (ax_upd hp 810 (ρ 0) 4) 176 = ay_at hp 176 := funext (fun j => ay_upd_ne hT.1 (by decide) j)
  refine ⟨(fun y hy => by cases hy), _, List.mem_cons_self, ρ, fun _ _ => rfl, ax_px hE (by decide) (fun y hy => ?_)⟩
  cases List.mem_singleton.mp hy
  show ax_XF (ax_XM 1) (500 + 18) [810, ρ 0, 4, ρ 1, ρ 0] hp
  refine (ax_XF_wr (x := 18) (by decide)).mpr ⟨ay_ex_upd hT.1 x1, ay_ex_upd hT.1 x2, ay_ex_upd hT.1 x3, ay_ex_upd hT.1 x4, ?_⟩
  rw [e1, e2, e3]
  unfold ay_M18 at x5 ⊢
  rw [ay_cnt_same (p := ay_tk (ay_at hp 188) (ay_at hp 174) (ay_at hp 200) (ay_at hp 176 1)) (n := ρ 0 / 4) (fun j hj => by
    unfold ay_tk
    rw [hup, if_neg (by omega)])]
  exact x5
theorem axq1_tpB : ax_RO ax_wM1 (ax_XM 1) axu1_tpB := by
  intro ρ hp hE hT
  obtain ⟨x1, x2, x3, x4, x5⟩ : ay_ex hp 188 ∧ ay_ex hp 174 ∧ ay_ex hp 176 ∧ ay_ex hp 200 ∧ ay_M18 (ρ 1) (ρ 0) (ay_at hp 188) (ay_at hp 174) (ay_at hp 200) (ay_at hp 176 1) := (ax_XF_lt (by decide)).mp (ax_gx hE (18, [7, 3]) (by decide))
  obtain ⟨l, hl, l1, l2, l3⟩ := ax_gi hE 0 2147483648 2147483667 (by decide) rfl
  obtain ⟨l4, l5⟩ := ax_bi_pos l1 (by omega)
  obtain ⟨o, ho⟩ := ay_some hT (q := 200) (g := 70) (n := 20) (ax_wc ax_WW1 ax_cg_200) (ax_wn ax_WW1 ax_cn_70) (j := ρ 0 / 4) (by omega)
  have hup := ay_upd_eq (a := 810) (i := ρ 0) (v := 0) hT.1 (show 810 / 4 - 2 = 200 from rfl) ho
  have e1 : ay_at (ax_upd hp 810 (ρ 0) 0) 188 = ay_at hp 188 := funext (fun j => ay_upd_ne hT.1 (by decide) j)
  have e2 : ay_at (ax_upd hp 810 (ρ 0) 0) 174 = ay_at hp 174 := funext (fun j => ay_upd_ne hT.1 (by decide) j)
  have e3 : ay_at (ax_upd hp 810 (ρ 0) 0) 176 = ay_at hp 176 := funext (fun j => ay_upd_ne hT.1 (by decide) j)
  refine ⟨(fun y hy => by cases hy), _, List.mem_cons_self, ρ, fun _ _ => rfl, ax_px hE (by decide) (fun y hy => ?_)⟩
  cases List.mem_singleton.mp hy
  show ax_XF (ax_XM 1) (500 + 18) [810, ρ 0, 0, ρ 1, ρ 0] hp
  refine (ax_XF_wr (x := 18) (by decide)).mpr ⟨ay_ex_upd hT.1 x1, ay_ex_upd hT.1 x2, ay_ex_upd hT.1 x3, ay_ex_upd hT.1 x4, ?_⟩
  rw [e1, e2, e3]
  unfold ay_M18 at x5 ⊢
  rw [ay_cnt_same (p := ay_tk (ay_at hp 188) (ay_at hp 174) (ay_at hp 200) (ay_at hp 176 1)) (n := ρ 0 / 4) (fun j hj => by
    unfold ay_tk
    rw [hup, if_neg (by omega)])]
  exact x5
theorem axq1_tpN : ax_RO ax_wM1 (ax_XM 1) axu1_tpN := by
  intro ρ hp hE hT
  obtain ⟨x1, x2, x3, x4, x5⟩ : ay_ex hp 188 ∧ ay_ex hp 174 ∧ ay_ex hp 176 ∧ ay_ex hp 200 ∧ ay_M18 (ρ 2) (ρ 0) (ay_at hp 188) (ay_at hp 174) (ay_at hp 200) (ay_at hp 176 1) := (ax_XF_lt (by decide)).mp (ax_gx hE (18, [11, 3]) (by decide))
  obtain ⟨l, hl, l1, l2, l3⟩ := ax_gi hE 0 2147483648 2147483667 (by decide) rfl
  obtain ⟨l4, l5⟩ := ax_bi_pos l1 (by omega)
  have h2 : ρ 1 = 4 * (l + 1) := ay_s hE 3 4 7 (b := 1) (by decide) hl (ax_vl_c (v := 4) (by decide)) (by omega) (by decide)
  refine ⟨(fun y hy => by cases hy), _, List.mem_cons_self, ρ, fun _ _ => rfl, ax_px hE (by decide) (fun y hy => ?_)⟩
  cases List.mem_singleton.mp hy
  refine (ax_XF_lt (x := 18) (by decide)).mpr ⟨x1, x2, x3, x4, ?_⟩
  show ρ 2 / 4 ≤ ay_cnt _ (ρ 1 / 4)
  exact Nat.le_trans x5 (ay_cnt_mono (by omega))
theorem axq1_tpE : ax_RO ax_wM1 (ax_XM 1) axu1_tpE := by
  intro ρ hp hE hT
  obtain ⟨x1, x2, x3, x4, x5⟩ : ay_ex hp 188 ∧ ay_ex hp 174 ∧ ay_ex hp 176 ∧ ay_ex hp 200 ∧ ay_M18 (ρ 2) (ρ 0) (ay_at hp 188) (ay_at hp 174) (ay_at hp 200) (ay_at hp 176 1) := (ax_XF_lt (by decide)).mp (ax_gx hE (18, [11, 3]) (by decide))
  obtain ⟨l, hl, l1, l2, l3⟩ := ax_gi hE 0 2147483648 2147483667 (by decide) rfl
  obtain ⟨l4, l5⟩ := ax_bi_pos l1 (by omega)
  obtain ⟨n, hn, n1, n2, n3⟩ := ax_gi hE 2 2147483648 2147483668 (by decide) rfl
  obtain ⟨n4, n5⟩ := ax_bi_pos n1 (by omega)
  obtain ⟨L, hL, L1, L2, L3⟩ := ax_gi hE 7 2147483648 2147483668 (by decide) rfl
  obtain ⟨L4, L5⟩ := ax_bi_pos L1 (by omega)
  have d4 : ∀ z : Nat, 4 * z / 4 = z := fun z => by omega
  have h2 : ρ 1 = 4 * (l + 1) := ay_s hE 3 4 7 (b := 1) (by decide) hl (ax_vl_c (v := 4) (by decide)) (by omega) (by decide)
  have h3 : ρ 3 = 4 * (n + 1) := ay_s hE 11 4 15 (b := 1) (by decide) hn (ax_vl_c (v := 4) (by decide)) (by omega) (by decide)
  have h4 : ρ 6 = 4 * (20 + l) := ay_s hE 80 3 27 (a := 20) (by decide) (ax_vl_c (v := 80) (by decide)) hl (by decide) (by omega)
  have f1 := ay_gf hE 762 3 19 188 (by decide) (by rw [ax_vl_c (by decide)])
  have f2 := ay_gf hE 706 27 23 174 (by decide) (by rw [ax_vl_c (by decide)])
  have f3 := ay_gf hE 810 3 4 200 (by decide) (by rw [ax_vl_c (by decide)])
  have f4 := ay_gfj hE 714 4 31 176 1 (by decide) (by rw [ax_vl_c (by decide)]) (by rw [ax_vl_c (by decide)])
  have hne : rx_bi (ρ 4 / 4) ≠ rx_bi (ρ 5 / 4) := ax_gc hE 1 19 23 (by decide) (by decide)
  have hlt : rx_bi (ρ 0 / 4) < rx_bi (ρ 7 / 4) := ax_gc hE 2 3 31 (by decide) (by decide)
  replace f1 : ay_at hp 188 (ρ 0 / 4) = some (ρ 4) := f1
  replace f2 : ay_at hp 174 (ρ 6 / 4) = some (ρ 5) := f2
  replace f3 : ay_at hp 200 (ρ 0 / 4) = some 4 := f3
  replace f4 : ay_at hp 176 1 = some (ρ 7) := f4
  rw [hl, d4] at f1 f3
  rw [h4, d4] at f2
  rw [hl, hL, d4, d4] at hlt
  have ht : ay_tk (ay_at hp 188) (ay_at hp 174) (ay_at hp 200) (ay_at hp 176 1) l = true := by
    unfold ay_tk ay_fp
    rw [f1, f2, f3, f4]
    refine rx_and2.mpr ⟨decide_eq_true rfl, rx_and2.mpr ⟨decide_eq_true (fun z => ?_), decide_eq_true ?_⟩⟩
    · rw [Option.some.inj z] at hne
      exact hne rfl
    · show l < ρ 7 / 4
      omega
  replace x5 : ρ 2 / 4 ≤ ay_cnt (ay_tk (ay_at hp 188) (ay_at hp 174) (ay_at hp 200) (ay_at hp 176 1)) (ρ 0 / 4) := x5
  rw [hl, d4] at x5
  refine ⟨(fun y hy => by cases hy), _, List.mem_cons_self, ρ, fun _ _ => rfl, ax_px hE (by decide) (fun y hy => ?_)⟩
  cases List.mem_singleton.mp hy
  refine (ax_XF_lt (x := 18) (by decide)).mpr ⟨x1, x2, x3, x4, ?_⟩
  show ρ 3 / 4 ≤ ay_cnt _ (ρ 1 / 4)
  rw [h2, d4, h3, d4]
  show n + 1 ≤ (if ay_tk (ay_at hp 188) (ay_at hp 174) (ay_at hp 200) (ay_at hp 176 1) l = true then 1 else 0) + ay_cnt (ay_tk (ay_at hp 188) (ay_at hp 174) (ay_at hp 200) (ay_at hp 176 1)) l
  rw [if_pos ht]
  omega
theorem axq1_tpR : ax_RO ax_wM1 (ax_XM 1) axu1_tpR := by
  intro ρ hp hE hT
  obtain ⟨x1, x2, x3, x4, x5⟩ : ay_ex hp 188 ∧ ay_ex hp 174 ∧ ay_ex hp 176 ∧ ay_ex hp 200 ∧ ay_M18 (ρ 0) (ρ 1) (ay_at hp 188) (ay_at hp 174) (ay_at hp 200) (ay_at hp 176 1) := (ax_XF_lt (by decide)).mp (ax_gx hE (18, [3, 7]) (by decide))
  obtain ⟨v, hv⟩ := ay_some hT (q := 176) (g := 46) (n := 2) (ax_wc ax_WW1 ax_cg_176) (ax_wn ax_WW1 ax_cn_46) (j := 1) (by decide)
  obtain ⟨v1, v2, v3, v4⟩ := ay_int hT (q := 176) (g := 46) (n := 2) (lo := 2147483648) (hi := 2147483668) (ax_wc ax_WW1 ax_cg_176) rfl hv
  obtain ⟨v5, v6⟩ := ax_bi_pos v2 v3
  refine ⟨(fun y hy => by cases hy), _, List.mem_cons_self, ρ, fun _ _ => rfl, ax_px hE (by decide) (fun y hy => ?_)⟩
  cases List.mem_singleton.mp hy
  refine (ax_XF_lt (x := 19) (by decide)).mpr ⟨x1, x2, x3, x4, ?_⟩
  refine Nat.le_trans x5 (ay_cnt_out (fun j hj => ?_) _)
  unfold ay_tk ay_fp
  rw [hv]
  have : decide (j < ay_ln (some v)) = false := decide_eq_false (fun z => by replace z : j < v / 4 := z; omega)
  rw [this, Bool.and_false, Bool.and_false]
theorem axq1_tpC : ax_RO ax_wM1 (ax_XM 1) axu1_tpC := by
  intro ρ hp hE hT
  obtain ⟨x1, x2, x3, x4, x5⟩ : ay_ex hp 188 ∧ ay_ex hp 174 ∧ ay_ex hp 176 ∧ ay_ex hp 200 ∧ ay_M18 (ρ 0) (ρ 1) (ay_at hp 188) (ay_at hp 174) (ay_at hp 200) (ay_at hp 176 1) := (ax_XF_lt (by decide)).mp (ax_gx hE (18, [3, 7]) (by decide))
  obtain ⟨n, hn, n1, n2, n3⟩ := ax_gi hE 0 2147483648 2147483668 (by decide) rfl
  obtain ⟨n4, n5⟩ := ax_bi_pos n1 (by omega)
  obtain ⟨l, hl, l1, l2, l3⟩ := ax_gi hE 1 2147483648 2147483667 (by decide) rfl
  obtain ⟨l4, l5⟩ := ax_bi_pos l1 (by omega)
  have d4 : ∀ z : Nat, 4 * z / 4 = z := fun z => by omega
  replace x5 : ρ 0 / 4 ≤ ay_cnt (ay_tk (ay_at hp 188) (ay_at hp 174) (ay_at hp 200) (ay_at hp 176 1)) (ρ 1 / 4) := x5
  have := ay_cnt_n (p := ay_tk (ay_at hp 188) (ay_at hp 174) (ay_at hp 200) (ay_at hp 176 1)) (ρ 1 / 4)
  refine ⟨fun y hy => ?_, _, List.mem_cons_self, ρ, fun _ _ => rfl, ax_px hE (by decide) (fun y hy => by cases hy)⟩
  cases List.mem_singleton.mp hy
  show 2147483648 ≤ rx_bi (ρ 0 / 4) ∧ rx_bi (ρ 0 / 4) ≤ 2147483667
  rw [hn, d4] at x5 ⊢
  omega
theorem axq1_tt0 : ax_RO ax_wM1 (ax_XM 1) axu1_tt0 := by
  intro ρ hp hE hT
  obtain ⟨x1, x2, x3, x5⟩ : ay_ex hp 188 ∧ ay_ex hp 174 ∧ ay_ex hp 176 ∧ ay_M17 (ρ 0) (ay_at hp 188) (ay_at hp 174) (ay_at hp 176 1) := (ax_XF_lt (by decide)).mp (ax_gx hE (17, [3]) (by decide))
  obtain ⟨y1, y2, y3, y4, j, y5, y6⟩ : ay_ex hp 188 ∧ ay_ex hp 174 ∧ ay_ex hp 176 ∧ ay_ex hp 200 ∧ ay_M22 (ay_at hp 188) (ay_at hp 174) (ay_at hp 200) (ay_at hp 176 1) := (ax_XF_lt (by decide)).mp (ax_gx hE (22, []) (by decide))
  refine ⟨(fun y hy => by cases hy), _, List.mem_cons_self, ρ, fun _ _ => rfl, ax_px hE (by decide) (fun y hy => ?_)⟩
  cases List.mem_singleton.mp hy
  refine (ax_XF_lt (x := 20) (by decide)).mpr ⟨x1, x2, x3, y4, x5, Or.inl ⟨j, y5, ?_, y6⟩⟩
  show 0 / 4 ≤ j
  omega
theorem axq1_ttS : ax_RO ax_wM1 (ax_XM 1) axu1_ttS := by
  intro ρ hp hE hT
  obtain ⟨x1, x2, x3, x4, x5, x6⟩ : ay_ex hp 188 ∧ ay_ex hp 174 ∧ ay_ex hp 176 ∧ ay_ex hp 200 ∧ ay_M20 (ρ 0) (ρ 1) (ay_at hp 188) (ay_at hp 174) (ay_at hp 200) (ay_at hp 176 1) := (ax_XF_lt (by decide)).mp (ax_gx hE (20, [3, 7]) (by decide))
  obtain ⟨l, hl, l1, l2, l3⟩ := ax_gi hE 1 2147483648 2147483667 (by decide) rfl
  obtain ⟨l4, l5⟩ := ax_bi_pos l1 (by omega)
  have d4 : ∀ z : Nat, 4 * z / 4 = z := fun z => by omega
  have h4 : ρ 3 = 4 * (20 + l) := ay_s hE 80 7 15 (a := 20) (by decide) (ax_vl_c (v := 80) (by decide)) hl (by decide) (by omega)
  have f1 := ay_gf hE 762 7 11 188 (by decide) (by rw [ax_vl_c (by decide)])
  replace f1 : ay_at hp 188 (ρ 1 / 4) = some (ρ 2) := f1
  rw [hl, d4] at f1
  obtain ⟨o, ho⟩ := ay_some hT (q := 174) (g := 44) (n := 103) (ax_wc ax_WW1 ax_cg_174) (ax_wn ax_WW1 ax_cn_44) (j := ρ 3 / 4) (by omega)
  have hup : ∀ j, ay_at (ax_upd hp 706 (ρ 3) (ρ 2)) 174 j = if j = 20 + l then some (ρ 2) else ay_at hp 174 j := fun j => by
    rw [ay_upd_eq hT.1 rfl ho, h4, d4]
  have e1 : ay_at (ax_upd hp 706 (ρ 3) (ρ 2)) 188 = ay_at hp 188 := funext (fun j => ay_upd_ne hT.1 (by decide) j)
  have e2 : ay_at (ax_upd hp 706 (ρ 3) (ρ 2)) 200 = ay_at hp 200 := funext (fun j => ay_upd_ne hT.1 (by decide) j)
  have e3 : ay_at (ax_upd hp 706 (ρ 3) (ρ 2)) 176 = ay_at hp 176 := funext (fun j => ay_upd_ne hT.1 (by decide) j)
  obtain ⟨p1, p2⟩ := ay_fp_up (ln := ay_at hp 176 1) f1 hup
  have hle : ay_cnt (ay_fp (ay_at hp 188) (ay_at (ax_upd hp 706 (ρ 3) (ρ 2)) 174) (ay_at hp 176 1)) 20 ≤ ay_cnt (ay_fp (ay_at hp 188) (ay_at hp 174) (ay_at hp 176 1)) 20 := ay_cnt_le (fun j _ hj => by
    by_cases ej : j = l
    · rw [ej, p1] at hj
      cases hj
    · rw [p2 j ej] at hj
      exact hj)
  have hl4 : ρ 1 / 4 = l := by omega
  refine ⟨(fun y hy => by cases hy), _, List.mem_cons_self, ρ, fun _ _ => rfl, ax_px hE (by decide) (fun y hy => ?_)⟩
  cases List.mem_singleton.mp hy
  show ax_XF (ax_XM 1) (500 + 21) [706, ρ 3, ρ 2, ρ 0, ρ 1] hp
  refine (ax_XF_wr (x := 21) (by decide)).mpr ⟨ay_ex_upd hT.1 x1, ay_ex_upd hT.1 x2, ay_ex_upd hT.1 x3, ay_ex_upd hT.1 x4, ?_⟩
  rw [e1, e2, e3]
  unfold ay_M21
  refine ⟨by omega, ?_⟩
  rcases x6 with ⟨j, j1, j2, j3⟩ | x6
  · by_cases ej : j = l
    · refine Or.inr ?_
      rw [ej] at j3
      have hf : ay_fp (ay_at hp 188) (ay_at hp 174) (ay_at hp 176 1) l = true := (rx_and2.mp j3).2
      have := ay_cnt_lt (p := ay_fp (ay_at hp 188) (ay_at hp 174) (ay_at hp 176 1)) (p' := ay_fp (ay_at hp 188) (ay_at (ax_upd hp 706 (ρ 3) (ρ 2)) 174) (ay_at hp 176 1)) (t := l) hf p1 (n := 20) (by omega) (fun j _ hj => by
        by_cases ej : j = l
        · rw [ej, p1] at hj
          cases hj
        · rw [p2 j ej] at hj
          exact hj)
      omega
    · refine Or.inl ⟨j, j1, by omega, ?_⟩
      unfold ay_tk at j3 ⊢
      rw [p2 j ej]
      exact j3
  · exact Or.inr (by omega)
theorem axq1_ttN : ax_RO ax_wM1 (ax_XM 1) axu1_ttN := by
  intro ρ hp hE hT
  obtain ⟨x1, x2, x3, x4, x5, x6⟩ : ay_ex hp 188 ∧ ay_ex hp 174 ∧ ay_ex hp 176 ∧ ay_ex hp 200 ∧ ay_M21 (ρ 0) (ρ 1) (ay_at hp 188) (ay_at hp 174) (ay_at hp 200) (ay_at hp 176 1) := (ax_XF_lt (by decide)).mp (ax_gx hE (21, [3, 7]) (by decide))
  obtain ⟨l, hl, l1, l2, l3⟩ := ax_gi hE 1 2147483648 2147483667 (by decide) rfl
  obtain ⟨l4, l5⟩ := ax_bi_pos l1 (by omega)
  have h2 : ρ 2 = 4 * (l + 1) := ay_s hE 7 4 11 (b := 1) (by decide) hl (ax_vl_c (v := 4) (by decide)) (by omega) (by decide)
  refine ⟨(fun y hy => by cases hy), _, List.mem_cons_self, ρ, fun _ _ => rfl, ax_px hE (by decide) (fun y hy => ?_)⟩
  cases List.mem_singleton.mp hy
  refine (ax_XF_lt (x := 20) (by decide)).mpr ⟨x1, x2, x3, x4, x5, ?_⟩
  rcases x6 with ⟨j, j1, j2, j3⟩ | x6
  · refine Or.inl ⟨j, j1, ?_, j3⟩
    show ρ 2 / 4 ≤ j
    omega
  · exact Or.inr x6
theorem axq1_ttZ : ax_RO ax_wM1 (ax_XM 1) axu1_ttZ := by
  intro ρ hp hE hT
  obtain ⟨x1, x2, x3, x4, x5, x6⟩ : ay_ex hp 188 ∧ ay_ex hp 174 ∧ ay_ex hp 176 ∧ ay_ex hp 200 ∧ ay_M20 (ρ 0) (ρ 1) (ay_at hp 188) (ay_at hp 174) (ay_at hp 200) (ay_at hp 176 1) := (ax_XF_lt (by decide)).mp (ax_gx hE (20, [3, 7]) (by decide))
  obtain ⟨l, hl, l1, l2, l3⟩ := ax_gi hE 1 2147483648 2147483667 (by decide) rfl
  obtain ⟨l4, l5⟩ := ax_bi_pos l1 (by omega)
  obtain ⟨z, hz, z1, z2, z3⟩ := ax_gi hE 3 2147483648 2147483648 (by decide) rfl
  obtain ⟨z4, z5⟩ := ax_bi_pos z1 (by omega)
  have d4 : ∀ z : Nat, 4 * z / 4 = z := fun z => by omega
  have h2 : ρ 2 = 4 * (l + 1) := ay_s hE 7 4 11 (b := 1) (by decide) hl (ax_vl_c (v := 4) (by decide)) (by omega) (by decide)
  have f1 := ay_gf hE 810 7 15 200 (by decide) (by rw [ax_vl_c (by decide)])
  replace f1 : ay_at hp 200 (ρ 1 / 4) = some (ρ 3) := f1
  rw [hl, d4, hz, show z = 0 by omega] at f1
  refine ⟨(fun y hy => by cases hy), _, List.mem_cons_self, ρ, fun _ _ => rfl, ax_px hE (by decide) (fun y hy => ?_)⟩
  cases List.mem_singleton.mp hy
  refine (ax_XF_lt (x := 20) (by decide)).mpr ⟨x1, x2, x3, x4, x5, ?_⟩
  rcases x6 with ⟨j, j1, j2, j3⟩ | x6
  · have hj : j ≠ l := fun e => by
      rw [e] at j3
      have j4 := of_decide_eq_true (rx_and2.mp j3).1
      rw [f1] at j4
      cases j4
    refine Or.inl ⟨j, j1, ?_, j3⟩
    show ρ 2 / 4 ≤ j
    omega
  · exact Or.inr x6
theorem axq1_ttR : ax_RO ax_wM1 (ax_XM 1) axu1_ttR := by
  intro ρ hp hE hT
  obtain ⟨x1, x2, x3, x4, x5, x6⟩ : ay_ex hp 188 ∧ ay_ex hp 174 ∧ ay_ex hp 176 ∧ ay_ex hp 200 ∧ ay_M20 (ρ 0) (ρ 1) (ay_at hp 188) (ay_at hp 174) (ay_at hp 200) (ay_at hp 176 1) := (ax_XF_lt (by decide)).mp (ax_gx hE (20, [3, 7]) (by decide))
  obtain ⟨kk, hkk⟩ := ax_gj hE 0 (by decide) rfl
  obtain ⟨L, hL, L1, L2, L3⟩ := ax_gi hE 2 2147483648 2147483668 (by decide) rfl
  obtain ⟨L4, L5⟩ := ax_bi_pos L1 (by omega)
  have f1 := ay_gfj hE 714 4 11 176 1 (by decide) (by rw [ax_vl_c (by decide)]) (by rw [ax_vl_c (by decide)])
  replace f1 : ay_at hp 176 1 = some (ρ 2) := f1
  have hge : rx_bi (ρ 2 / 4) ≤ rx_bi (ρ 1 / 4) := ax_gc hE 3 7 11 (by decide) (by decide)
  have hx : ay_cnt (ay_fp (ay_at hp 188) (ay_at hp 174) (ay_at hp 176 1)) 20 + 1 < ρ 0 / 4 := by
    rcases x6 with ⟨j, j1, j2, j3⟩ | x6
    · exfalso
      have j4 := of_decide_eq_true (rx_and2.mp (rx_and2.mp j3).2).2
      rw [f1] at j4
      replace j4 : j < ρ 2 / 4 := j4
      obtain ⟨l, hl, l1, l2, l3⟩ := ax_gi hE 1 0 4294967295 (by decide) rfl
      rw [hL, Nat.mul_div_cancel_left L (by decide), L5, hl, Nat.mul_div_cancel_left l (by decide), ax_bi_def] at hge
      omega
    · exact x6
  obtain ⟨z, hz⟩ : ∃ z, ay_cnt (ay_fp (ay_at hp 188) (ay_at hp 174) (ay_at hp 176 1)) 20 = z := ⟨_, rfl⟩
  rw [hz] at hx
  obtain ⟨ρ', h1, h2⟩ := ax_pn (K := kk - 1) (xf := [(17, [15]), (1030, [15, 3])]) hE (by decide) (fun ρ' h1 h2 x hx => by
    rcases List.mem_cons.mp hx with e | e
    · subst e
      refine (ax_XF_lt (x := 17) (by decide)).mpr ⟨x1, x2, x3, ?_⟩
      show ay_cnt (ay_fp (ay_at hp 188) (ay_at hp 174) (ay_at hp 176 1)) 20 < ρ' 3 / 4
      rw [h2, hz]
      omega
    · cases List.mem_singleton.mp e
      refine (ax_XF_bi (o := 30) (by decide)).mpr (Or.inr ⟨rfl, ?_⟩)
      show ρ' 3 < ρ' 0
      rw [h2, h1 0 (by decide), hkk]
      omega)
  exact ⟨(fun x hx => by cases hx), _, List.mem_cons_self, ρ', h1, h2⟩
theorem axq1_gs14 : ax_RO ax_wM1 (ax_XM 1) axu1_gs14 := by
  intro ρ hp hE hT
  obtain ⟨x1, x2, x3, x5⟩ : ay_ex hp 188 ∧ ay_ex hp 174 ∧ ay_ex hp 176 ∧ ay_M17 (ρ 2) (ay_at hp 188) (ay_at hp 174) (ay_at hp 176 1) := (ax_XF_lt (by decide)).mp (ax_gx hE (17, [11]) (by decide))
  obtain ⟨j, hj, j1, j2, j3⟩ := ax_gi hE 1 2147483689 2147483750 (by decide) rfl
  obtain ⟨j4, j5⟩ := ax_bi_pos j1 (by omega)
  have d4 : ∀ z : Nat, 4 * z / 4 = z := fun z => by omega
  obtain ⟨o, ho⟩ := ay_some hT (q := 174) (g := 44) (n := 103) (ax_wc ax_WW1 ax_cg_174) (ax_wn ax_WW1 ax_cn_44) (j := ρ 1 / 4) (by omega)
  have hup := ay_upd_eq (a := 706) (i := ρ 1) (v := ρ 0) hT.1 (show 706 / 4 - 2 = 174 from rfl) ho
  have e1 : ay_at (ax_upd hp 706 (ρ 1) (ρ 0)) 188 = ay_at hp 188 := funext (fun j => ay_upd_ne hT.1 (by decide) j)
  have e3 : ay_at (ax_upd hp 706 (ρ 1) (ρ 0)) 176 = ay_at hp 176 := funext (fun j => ay_upd_ne hT.1 (by decide) j)
  refine ⟨(fun y hy => by cases hy), _, List.mem_cons_self, ρ, fun _ _ => rfl, ax_px hE (by decide) (fun y hy => ?_)⟩
  cases List.mem_singleton.mp hy
  show ax_XF (ax_XM 1) (500 + 17) [706, ρ 1, ρ 0, ρ 2] hp
  refine (ax_XF_wr (x := 17) (by decide)).mpr ⟨ay_ex_upd hT.1 x1, ay_ex_upd hT.1 x2, ay_ex_upd hT.1 x3, ?_⟩
  rw [e1, e3]
  unfold ay_M17 at x5 ⊢
  rw [ay_cnt_same (p := ay_fp (ay_at hp 188) (ay_at hp 174) (ay_at hp 176 1)) (n := 20) (fun i hi => by
    unfold ay_fp
    rw [hup, if_neg (by omega)])]
  exact x5
theorem axq1_gs66 : ax_RO ax_wM1 (ax_XM 1) axu1_gs66 := by
  intro ρ hp hE hT
  obtain ⟨x1, x2, x3, x5⟩ : ay_ex hp 188 ∧ ay_ex hp 174 ∧ ay_ex hp 176 ∧ ay_M17 (ρ 2) (ay_at hp 188) (ay_at hp 174) (ay_at hp 176 1) := (ax_XF_lt (by decide)).mp (ax_gx hE (17, [11]) (by decide))
  obtain ⟨j, hj, j1, j2, j3⟩ := ax_gi hE 1 2147483689 2147483750 (by decide) rfl
  obtain ⟨j4, j5⟩ := ax_bi_pos j1 (by omega)
  have d4 : ∀ z : Nat, 4 * z / 4 = z := fun z => by omega
  obtain ⟨o, ho⟩ := ay_some hT (q := 174) (g := 44) (n := 103) (ax_wc ax_WW1 ax_cg_174) (ax_wn ax_WW1 ax_cn_44) (j := ρ 1 / 4) (by omega)
  have hup := ay_upd_eq (a := 706) (i := ρ 1) (v := ρ 0) hT.1 (show 706 / 4 - 2 = 174 from rfl) ho
  have e1 : ay_at (ax_upd hp 706 (ρ 1) (ρ 0)) 188 = ay_at hp 188 := funext (fun j => ay_upd_ne hT.1 (by decide) j)
  have e3 : ay_at (ax_upd hp 706 (ρ 1) (ρ 0)) 176 = ay_at hp 176 := funext (fun j => ay_upd_ne hT.1 (by decide) j)
  refine ⟨(fun y hy => by cases hy), _, List.mem_cons_self, ρ, fun _ _ => rfl, ax_px hE (by decide) (fun y hy => ?_)⟩
  cases List.mem_singleton.mp hy
  show ax_XF (ax_XM 1) (500 + 17) [706, ρ 1, ρ 0, ρ 2] hp
  refine (ax_XF_wr (x := 17) (by decide)).mpr ⟨ay_ex_upd hT.1 x1, ay_ex_upd hT.1 x2, ay_ex_upd hT.1 x3, ?_⟩
  rw [e1, e3]
  unfold ay_M17 at x5 ⊢
  rw [ay_cnt_same (p := ay_fp (ay_at hp 188) (ay_at hp 174) (ay_at hp 176 1)) (n := 20) (fun i hi => by
    unfold ay_fp
    rw [hup, if_neg (by omega)])]
  exact x5
theorem axq1_gs30 : ax_RO ax_wM1 (ax_XM 1) axu1_gs30 := by
  intro ρ hp hE hT
  obtain ⟨x1, x2, x3, x5⟩ : ay_ex hp 188 ∧ ay_ex hp 174 ∧ ay_ex hp 176 ∧ ay_M17 (ρ 2) (ay_at hp 188) (ay_at hp 174) (ay_at hp 176 1) := (ax_XF_lt (by decide)).mp (ax_gx hE (17, [11]) (by decide))
  obtain ⟨j, hj, j1, j2, j3⟩ := ax_gi hE 1 2147483689 2147483750 (by decide) rfl
  obtain ⟨j4, j5⟩ := ax_bi_pos j1 (by omega)
  have d4 : ∀ z : Nat, 4 * z / 4 = z := fun z => by omega
  obtain ⟨o, ho⟩ := ay_some hT (q := 174) (g := 44) (n := 103) (ax_wc ax_WW1 ax_cg_174) (ax_wn ax_WW1 ax_cn_44) (j := ρ 1 / 4) (by omega)
  have hup := ay_upd_eq (a := 706) (i := ρ 1) (v := ρ 0) hT.1 (show 706 / 4 - 2 = 174 from rfl) ho
  have e1 : ay_at (ax_upd hp 706 (ρ 1) (ρ 0)) 188 = ay_at hp 188 := funext (fun j => ay_upd_ne hT.1 (by decide) j)
  have e3 : ay_at (ax_upd hp 706 (ρ 1) (ρ 0)) 176 = ay_at hp 176 := funext (fun j => ay_upd_ne hT.1 (by decide) j)
  refine ⟨(fun y hy => by cases hy), _, List.mem_cons_self, ρ, fun _ _ => rfl, ax_px hE (by decide) (fun y hy => ?_)⟩
  cases List.mem_singleton.mp hy
  show ax_XF (ax_XM 1) (500 + 17) [706, ρ 1, ρ 0, ρ 2] hp
  refine (ax_XF_wr (x := 17) (by decide)).mpr ⟨ay_ex_upd hT.1 x1, ay_ex_upd hT.1 x2, ay_ex_upd hT.1 x3, ?_⟩
  rw [e1, e3]
  unfold ay_M17 at x5 ⊢
  rw [ay_cnt_same (p := ay_fp (ay_at hp 188) (ay_at hp 174) (ay_at hp 176 1)) (n := 20) (fun i hi => by
    unfold ay_fp
    rw [hup, if_neg (by omega)])]
  exact x5
theorem axq1_gs41 : ax_RO ax_wM1 (ax_XM 1) axu1_gs41 := by
  intro ρ hp hE hT
  obtain ⟨x1, x2, x3, x5⟩ : ay_ex hp 188 ∧ ay_ex hp 174 ∧ ay_ex hp 176 ∧ ay_M17 (ρ 2) (ay_at hp 188) (ay_at hp 174) (ay_at hp 176 1) := (ax_XF_lt (by decide)).mp (ax_gx hE (17, [11]) (by decide))
  obtain ⟨j, hj, j1, j2, j3⟩ := ax_gi hE 1 2147483689 2147483750 (by decide) rfl
  obtain ⟨j4, j5⟩ := ax_bi_pos j1 (by omega)
  have d4 : ∀ z : Nat, 4 * z / 4 = z := fun z => by omega
  obtain ⟨o, ho⟩ := ay_some hT (q := 174) (g := 44) (n := 103) (ax_wc ax_WW1 ax_cg_174) (ax_wn ax_WW1 ax_cn_44) (j := ρ 1 / 4) (by omega)
  have hup := ay_upd_eq (a := 706) (i := ρ 1) (v := ρ 0) hT.1 (show 706 / 4 - 2 = 174 from rfl) ho
  have e1 : ay_at (ax_upd hp 706 (ρ 1) (ρ 0)) 188 = ay_at hp 188 := funext (fun j => ay_upd_ne hT.1 (by decide) j)
  have e3 : ay_at (ax_upd hp 706 (ρ 1) (ρ 0)) 176 = ay_at hp 176 := funext (fun j => ay_upd_ne hT.1 (by decide) j)
  refine ⟨(fun y hy => by cases hy), _, List.mem_cons_self, ρ, fun _ _ => rfl, ax_px hE (by decide) (fun y hy => ?_)⟩
  cases List.mem_singleton.mp hy
  show ax_XF (ax_XM 1) (500 + 17) [706, ρ 1, ρ 0, ρ 2] hp
  refine (ax_XF_wr (x := 17) (by decide)).mpr ⟨ay_ex_upd hT.1 x1, ay_ex_upd hT.1 x2, ay_ex_upd hT.1 x3, ?_⟩
  rw [e1, e3]
  unfold ay_M17 at x5 ⊢
  rw [ay_cnt_same (p := ay_fp (ay_at hp 188) (ay_at hp 174) (ay_at hp 176 1)) (n := 20) (fun i hi => by
    unfold ay_fp
    rw [hup, if_neg (by omega)])]
  exact x5
theorem axq1_gs86 : ax_RO ax_wM1 (ax_XM 1) axu1_gs86 := by
  intro ρ hp hE hT
  obtain ⟨x1, x2, x3, x5⟩ : ay_ex hp 188 ∧ ay_ex hp 174 ∧ ay_ex hp 176 ∧ ay_M17 (ρ 2) (ay_at hp 188) (ay_at hp 174) (ay_at hp 176 1) := (ax_XF_lt (by decide)).mp (ax_gx hE (17, [11]) (by decide))
  obtain ⟨j, hj, j1, j2, j3⟩ := ax_gi hE 1 2147483689 2147483750 (by decide) rfl
  obtain ⟨j4, j5⟩ := ax_bi_pos j1 (by omega)
  have d4 : ∀ z : Nat, 4 * z / 4 = z := fun z => by omega
  obtain ⟨o, ho⟩ := ay_some hT (q := 174) (g := 44) (n := 103) (ax_wc ax_WW1 ax_cg_174) (ax_wn ax_WW1 ax_cn_44) (j := ρ 1 / 4) (by omega)
  have hup := ay_upd_eq (a := 706) (i := ρ 1) (v := ρ 0) hT.1 (show 706 / 4 - 2 = 174 from rfl) ho
  have e1 : ay_at (ax_upd hp 706 (ρ 1) (ρ 0)) 188 = ay_at hp 188 := funext (fun j => ay_upd_ne hT.1 (by decide) j)
  have e3 : ay_at (ax_upd hp 706 (ρ 1) (ρ 0)) 176 = ay_at hp 176 := funext (fun j => ay_upd_ne hT.1 (by decide) j)
  refine ⟨(fun y hy => by cases hy), _, List.mem_cons_self, ρ, fun _ _ => rfl, ax_px hE (by decide) (fun y hy => ?_)⟩
  cases List.mem_singleton.mp hy
  show ax_XF (ax_XM 1) (500 + 17) [706, ρ 1, ρ 0, ρ 2] hp
  refine (ax_XF_wr (x := 17) (by decide)).mpr ⟨ay_ex_upd hT.1 x1, ay_ex_upd hT.1 x2, ay_ex_upd hT.1 x3, ?_⟩
  rw [e1, e3]
  unfold ay_M17 at x5 ⊢
  rw [ay_cnt_same (p := ay_fp (ay_at hp 188) (ay_at hp 174) (ay_at hp 176 1)) (n := 20) (fun i hi => by
    unfold ay_fp
    rw [hup, if_neg (by omega)])]
  exact x5
theorem axq1_gs96 : ax_RO ax_wM1 (ax_XM 1) axu1_gs96 := by
  intro ρ hp hE hT
  obtain ⟨x1, x2, x3, x5⟩ : ay_ex hp 188 ∧ ay_ex hp 174 ∧ ay_ex hp 176 ∧ ay_M17 (ρ 2) (ay_at hp 188) (ay_at hp 174) (ay_at hp 176 1) := (ax_XF_lt (by decide)).mp (ax_gx hE (17, [11]) (by decide))
  obtain ⟨j, hj, j1, j2, j3⟩ := ax_gi hE 1 2147483689 2147483750 (by decide) rfl
  obtain ⟨j4, j5⟩ := ax_bi_pos j1 (by omega)
  have d4 : ∀ z : Nat, 4 * z / 4 = z := fun z => by omega
  obtain ⟨o, ho⟩ := ay_some hT (q := 174) (g := 44) (n := 103) (ax_wc ax_WW1 ax_cg_174) (ax_wn ax_WW1 ax_cn_44) (j := ρ 1 / 4) (by omega)
  have hup := ay_upd_eq (a := 706) (i := ρ 1) (v := ρ 0) hT.1 (show 706 / 4 - 2 = 174 from rfl) ho
  have e1 : ay_at (ax_upd hp 706 (ρ 1) (ρ 0)) 188 = ay_at hp 188 := funext (fun j => ay_upd_ne hT.1 (by decide) j)
  have e3 : ay_at (ax_upd hp 706 (ρ 1) (ρ 0)) 176 = ay_at hp 176 := funext (fun j => ay_upd_ne hT.1 (by decide) j)
  refine ⟨(fun y hy => by cases hy), _, List.mem_cons_self, ρ, fun _ _ => rfl, ax_px hE (by decide) (fun y hy => ?_)⟩
  cases List.mem_singleton.mp hy
  show ax_XF (ax_XM 1) (500 + 17) [706, ρ 1, ρ 0, ρ 2] hp
  refine (ax_XF_wr (x := 17) (by decide)).mpr ⟨ay_ex_upd hT.1 x1, ay_ex_upd hT.1 x2, ay_ex_upd hT.1 x3, ?_⟩
  rw [e1, e3]
  unfold ay_M17 at x5 ⊢
  rw [ay_cnt_same (p := ay_fp (ay_at hp 188) (ay_at hp 174) (ay_at hp 176 1)) (n := 20) (fun i hi => by
    unfold ay_fp
    rw [hup, if_neg (by omega)])]
  exact x5
