theorem axq1_om0 : ax_RO ax_wM1 (ax_XM 1) axu1_om0 := axqg_om0 ax_WW1
theorem axq1_om1e : ax_RO ax_wM1 (ax_XM 1) axu1_om1e := axqg_om1e ax_WW1
theorem axq1_om1n : ax_RO ax_wM1 (ax_XM 1) axu1_om1n := axqg_om1n ax_WW1
theorem axq1_om2 : ax_RO ax_wM1 (ax_XM 1) axu1_om2 := axqg_om2 ax_WW1
theorem axq1_om3 : ax_RO ax_wM1 (ax_XM 1) axu1_om3 := by
  intro ρ hp hE hT
  obtain ⟨x1, x2⟩ : ay_ex hp 199 ∧ ay_M9 (ρ 0) (ρ 1) (ay_at hp 199) := (ax_XF_lt (by decide)).mp (ax_gx hE (9, [3, 7]) (by decide))
  obtain ⟨f, hf, f1, f2, f3⟩ := ax_gi hE 0 2147483648 2147483657 (by decide) rfl
  obtain ⟨f4, f5⟩ := ax_bi_pos f1 (by omega)
  obtain ⟨i, hi, i1, i2, i3⟩ := ax_gi hE 1 2147483658 4294967295 (by decide) rfl
  obtain ⟨i4, i5⟩ := ax_bi_pos i1 (by omega)
  have hini : ∀ u, u < 10 → ay_at hp 199 u = some (ay_ini (ρ 0 / 4) u) := fun u hu => x2 u hu (by omega)
  obtain ⟨ρ', h1, h2⟩ := ax_pn (K := ay_cnt (fun u => ay_lt0 (ay_at hp 199 u)) 10 + 1) (xf := [(11, [3]), (8, [11, 4])]) hE (by decide) (fun ρ' h1 h2 x hx => by
    rcases List.mem_cons.mp hx with e | e
    · subst e
      refine (ax_XF_lt (x := 11) (by decide)).mpr ⟨x1, (ax_cellT hT (q := 198) (g := 68) (ax_wc ax_WW1 ax_cg_198)), (ax_cellT hT (q := 181) (g := 51) (ax_wc ax_WW1 ax_cg_181)), ?_⟩
      show ay_M11 1 (ρ' 0) (ay_at hp 199) (ay_at hp 198) (ay_at hp 181)
      rw [h1 0 (by decide)]
      refine ⟨?_, fun _ => 0, ?_, ?_⟩
      · rw [hini _ (by omega)]
        unfold ay_ini
        rw [if_pos rfl]
      · intro v c hv hvf hvc hc
        rw [hini v hv] at hvc
        unfold ay_ini at hvc
        rw [if_neg hvf] at hvc
        have := Option.some.inj hvc
        omega
      · intro v c hv hvf _ hvc hc
        rw [hini v hv] at hvc
        unfold ay_ini at hvc
        rw [if_neg hvf] at hvc
        have := Option.some.inj hvc
        omega
    · cases List.mem_singleton.mp e
      refine (ax_XF_lt (x := 8) (by decide)).mpr ⟨x1, ?_⟩
      show ay_cnt (fun u => ay_lt0 (ay_at hp 199 u)) 10 + 4 / 4 ≤ ρ' 2 / 4
      rw [h2]
      omega)
  exact ⟨(fun x hx => by cases hx), _, List.mem_cons_self, ρ', h1, h2⟩
theorem axq1_om4 : ax_RO ax_wM1 (ax_XM 1) axu1_om4 := axqg_om4 ax_WW1
theorem axq1_om5 : ax_RO ax_wM1 (ax_XM 1) axu1_om5 := by
  intro ρ hp hE hT
  obtain ⟨x1, x2⟩ : ay_ex hp 199 ∧ ay_M8 (ρ 2) (ρ 3) (ay_at hp 199) := (ax_XF_lt (by decide)).mp (ax_gx hE (8, [11, 15]) (by decide))
  obtain ⟨y1, y2, y3, y4, y5⟩ : ay_ex hp 199 ∧ ay_ex hp 198 ∧ ay_ex hp 181 ∧ ay_M11 1 (ρ 4) (ay_at hp 199) (ay_at hp 198) (ay_at hp 181) := (ax_XF_lt (by decide)).mp (ax_gx hE (11, [19]) (by decide))
  obtain ⟨c, hc, c1, c2, c3⟩ := ax_gi hE 0 2147483648 2147483687 (by decide) rfl
  obtain ⟨c4, c5⟩ := ax_bi_pos c1 (by omega)
  obtain ⟨t, ht, t1, t2, t3⟩ := ax_gi hE 1 2147483648 2147483657 (by decide) rfl
  obtain ⟨t4, t5⟩ := ax_bi_pos t1 (by omega)
  obtain ⟨u, hu, u1, u2, u3⟩ := ax_gi hE 5 2147483648 2147483657 (by decide) rfl
  obtain ⟨u4, u5⟩ := ax_bi_pos u1 (by omega)
  obtain ⟨d, hd, d1, d2, d3⟩ := ax_gi hE 7 2147483648 2147483688 (by decide) rfl
  obtain ⟨d4, d5⟩ := ax_bi_pos d1 (by omega)
  obtain ⟨n, hn, n1, n2, n3⟩ := ax_gi hE 6 2147483647 2147483647 (by decide) rfl
  have hq := ay_q hE 3 43 hc (by omega) (by decide)
  have hr := ay_r hE 3 47 hc (by omega) (by decide)
  have hj1 := ay_ix hE 160 43 51 55 47 59 (k := 40) (ax_vl_c (v := 160) (by decide)) (by decide) hq (by omega) hr (by omega) (by decide) (by decide) (by decide)
  have hr2 := ay_d hE 63 47 4 (c := 1) (by decide) hr (ax_vl_c (v := 4) (by decide)) (by omega) (by decide)
  have hj2 := ay_ix hE 160 43 51 55 63 67 (k := 40) (ax_vl_c (v := 160) (by decide)) (by decide) hq (by omega) hr2 (by omega) (by decide) (by decide) (by decide)
  have hs2 := ay_s hE 4 47 39 (a := 1) (by decide) (ax_vl_c (v := 4) (by decide)) hr (by decide) (by omega)
  have f1 := ay_gf hE 734 59 23 181 (by decide) (by rw [ax_vl_c (by decide)])
  have f2 := ay_gf hE 806 23 31 199 (by decide) (by rw [ax_vl_c (by decide)])
  have f3 := ay_gf hE 734 67 7 181 (by decide) (by rw [ax_vl_c (by decide)])
  have f4 := ay_gf hE 806 7 27 199 (by decide) (by rw [ax_vl_c (by decide)])
  have f5 := ay_gf hE 802 43 35 198 (by decide) (by rw [ax_vl_c (by decide)])
  have hne : rx_bi (ρ 8 / 4) ≠ rx_bi (ρ 9 / 4) := ax_gc hE 1 35 39 (by decide) (by decide)
  replace f1 : ay_at hp 181 (ax_vl ρ 59 / 4) = some (ρ 5) := f1
  replace f2 : ay_at hp 199 (ρ 5 / 4) = some (ρ 7) := f2
  replace f3 : ay_at hp 181 (ax_vl ρ 67 / 4) = some (ρ 1) := f3
  replace f4 : ay_at hp 199 (ρ 1 / 4) = some (ρ 6) := f4
  replace f5 : ay_at hp 198 (ax_vl ρ 43 / 4) = some (ρ 8) := f5
  replace hs2 : ρ 9 = 4 * (1 + c % 2) := hs2
  have d4 : ∀ z : Nat, 4 * z / 4 = z := fun z => by omega
  rw [hj1, d4, hu] at f1
  rw [hu, d4, hd] at f2
  rw [hj2, d4, ht] at f3
  rw [ht, d4, hn] at f4
  rw [hq, d4] at f5
  have hup : ∀ j, ay_at (ax_upd hp 806 (ρ 1) (ρ 0)) 199 j = if j = t then some (4 * c) else ay_at hp 199 j := fun j => by
    rw [ay_upd_eq hT.1 rfl (by rw [ht, d4]; exact f4), ht, d4, hc]
  have hcar : ay_at (ax_upd hp 806 (ρ 1) (ρ 0)) 198 = ay_at hp 198 := funext (fun j => ay_upd_ne hT.1 (by decide) j)
  have hen : ay_at (ax_upd hp 806 (ρ 1) (ρ 0)) 181 = ay_at hp 181 := funext (fun j => ay_upd_ne hT.1 (by decide) j)
  have hneg : ¬ n < 2147483648 := by
    intro z
    rw [ax_bi_nat z] at n3
    omega
  have hfree : ay_at hp 198 (c / 2) ≠ some (4 * (1 + c % 2)) := by
    rw [f5]
    intro z
    rw [Option.some.inj z, hs2] at hne
    exact hne rfl
  have hg := ay_grow (b := 1) (car := ay_at hp 198) (en := ay_at hp 181) (by omega) (by omega) (by omega) (by show ay_at hp 181 (40 * 1 + 2 * (c / 2) + (1 - c % 2)) = _; exact f3) (by show ay_at hp 181 (40 * 1 + 2 * (c / 2) + c % 2) = _; exact f1) f2 (by omega) ⟨n, f4, hneg⟩ hfree hup y4 y5
  refine ⟨(fun y hy => by cases hy), _, List.mem_cons_self, ρ, fun _ _ => rfl, ax_px hE (by decide) (fun y hy => ?_)⟩
  rcases List.mem_cons.mp hy with e | e
  · subst e
    show ax_XF (ax_XM 1) (500 + 11) [806, ρ 1, ρ 0, ρ 4] hp
    refine (ax_XF_wr (x := 11) (by decide)).mpr ⟨ay_ex_upd hT.1 y1, ay_ex_upd hT.1 y2, ay_ex_upd hT.1 y3, ?_⟩
    rw [hcar, hen]
    exact hg
  · cases List.mem_singleton.mp e
    show ax_XF (ax_XM 1) (500 + 8) [806, ρ 1, ρ 0, ρ 2, 4] hp
    refine (ax_XF_wr (x := 8) (by decide)).mpr ⟨ay_ex_upd hT.1 x1, ?_⟩
    have hlt := ay_cnt_lt (p := fun u => ay_lt0 (ay_at hp 199 u)) (p' := fun u => ay_lt0 (ay_at (ax_upd hp 806 (ρ 1) (ρ 0)) 199 u)) (t := t) (n := 10) (by
      show ay_lt0 (ay_at hp 199 t) = true
      rw [f4]
      exact rx_ble.mpr (by rw [d4]; omega)) (by
      show ay_lt0 (ay_at (ax_upd hp 806 (ρ 1) (ρ 0)) 199 t) = false
      rw [hup, if_pos rfl]
      exact Bool.eq_false_iff.mpr (fun z => by have z := rx_ble.mp z; rw [d4] at z; omega)) (by omega) (fun j hj hp' => by
      show ay_lt0 (ay_at hp 199 j) = true
      replace hp' : ay_lt0 (ay_at (ax_upd hp 806 (ρ 1) (ρ 0)) 199 j) = true := hp'
      rw [hup] at hp'
      by_cases ej : j = t
      · rw [if_pos ej] at hp'
        have z := rx_ble.mp hp'
        rw [d4] at z
        omega
      · rw [if_neg ej] at hp'
        exact hp')
    replace x2 : ay_cnt (fun u => ay_lt0 (ay_at hp 199 u)) 10 + ρ 3 / 4 ≤ ρ 2 / 4 := x2
    show ay_cnt (fun u => ay_lt0 (ay_at (ax_upd hp 806 (ρ 1) (ρ 0)) 199 u)) 10 + 4 / 4 ≤ ρ 2 / 4
    omega
theorem axq1_om6 : ax_RO ax_wM1 (ax_XM 1) axu1_om6 := by
  intro ρ hp hE hT
  obtain ⟨y1, y2, y3, y4, r, y5, y6⟩ : ay_ex hp 199 ∧ ay_ex hp 198 ∧ ay_ex hp 181 ∧ ay_M11 1 (ρ 0) (ay_at hp 199) (ay_at hp 198) (ay_at hp 181) := (ax_XF_lt (by decide)).mp (ax_gx hE (11, [3]) (by decide))
  obtain ⟨z1, z2, z3⟩ : ay_ex hp 198 ∧ ay_ex hp 181 ∧ ay_M14 1 (ρ 3) (ρ 0) (ay_at hp 198) (ay_at hp 181) := (ax_XF_lt (by decide)).mp (ax_gx hE (14, [15, 3]) (by decide))
  obtain ⟨f, hf, f1, f2, f3⟩ := ax_gi hE 0 2147483648 2147483657 (by decide) rfl
  obtain ⟨f4, f5⟩ := ax_bi_pos f1 (by omega)
  obtain ⟨t, ht, t1, t2, t3⟩ := ax_gi hE 1 2147483648 2147483657 (by decide) rfl
  obtain ⟨t4, t5⟩ := ax_bi_pos t1 (by omega)
  obtain ⟨d, hd, d1, d2, d3⟩ := ax_gi hE 2 2147483648 2147483688 (by decide) rfl
  obtain ⟨d4, d5⟩ := ax_bi_pos d1 (by omega)
  have d4 : ∀ z : Nat, 4 * z / 4 = z := fun z => by omega
  have hne : rx_bi (ρ 0 / 4) ≠ rx_bi (ρ 1 / 4) := ax_gc hE 1 3 7 (by decide) (by decide)
  rw [hf, ht, d4, d4] at hne
  have f1 := ay_gf hE 806 7 11 199 (by decide) (by rw [ax_vl_c (by decide)])
  replace f1 : ay_at hp 199 (ρ 1 / 4) = some (ρ 2) := f1
  rw [hd] at f1
  obtain ⟨ρ', h1, h2⟩ := ax_pn (K := r (ρ 1 / 4) + 1) (xf := [(12, [19, 3, 7]), (15, [15, 3, 7])]) hE (by decide) (fun ρ' h1 h2 x hx => by
    rcases List.mem_cons.mp hx with e | e
    · subst e
      refine (ax_XF_lt (x := 12) (by decide)).mpr ⟨y1, y2, y3, ?_⟩
      show ay_M12 1 (ρ' 4) (ρ' 0) (ρ' 1) (ay_at hp 199) (ay_at hp 198) (ay_at hp 181)
      rw [h1 0 (by decide), h1 1 (by decide), h2]
      exact ⟨y4, r, y5, fun v c a1 a2 _ a4 a5 => y6 v c a1 a2 trivial a4 a5, ⟨d, f1, by omega⟩, by omega⟩
    · cases List.mem_singleton.mp e
      refine (ax_XF_lt (x := 15) (by decide)).mpr ⟨z1, z2, ?_⟩
      show ay_M15 1 (ρ' 3) (ρ' 0) (ρ' 1) (ay_at hp 198) (ay_at hp 181)
      rw [h1 0 (by decide), h1 1 (by decide), h1 3 (by decide)]
      unfold ay_M15
      rw [if_neg (by omega)]
      exact z3)
  exact ⟨(fun x hx => by cases hx), _, List.mem_cons_self, ρ', h1, h2⟩
theorem axq1_om7 : ax_RO ax_wM1 (ax_XM 1) axu1_om7 := by
  intro ρ hp hE hT
  obtain ⟨y1, y2, y3, y4, r, y5, y6, ⟨c0, y7, y8⟩, y9⟩ : ay_ex hp 199 ∧ ay_ex hp 198 ∧ ay_ex hp 181 ∧ ay_M12 1 (ρ 3) (ρ 0) (ρ 1) (ay_at hp 199) (ay_at hp 198) (ay_at hp 181) := (ax_XF_lt (by decide)).mp (ax_gx hE (12, [15, 3, 7]) (by decide))
  obtain ⟨f, hf, f1, f2, f3⟩ := ax_gi hE 0 2147483648 2147483657 (by decide) rfl
  obtain ⟨f4, f5⟩ := ax_bi_pos f1 (by omega)
  obtain ⟨u, hu, u1, u2, u3⟩ := ax_gi hE 1 2147483648 2147483657 (by decide) rfl
  obtain ⟨u4, u5⟩ := ax_bi_pos u1 (by omega)
  have d4 : ∀ z : Nat, 4 * z / 4 = z := fun z => by omega
  have hne : rx_bi (ρ 1 / 4) ≠ rx_bi (ρ 0 / 4) := ax_gc hE 1 7 3 (by decide) (by decide)
  rw [hf, hu, d4, d4] at hne
  have f1 := ay_gf hE 806 7 11 199 (by decide) (by rw [ax_vl_c (by decide)])
  replace f1 : ay_at hp 199 (ρ 1 / 4) = some (ρ 2) := f1
  rw [y7] at f1
  have hc : ρ 2 = 4 * c0 := (Option.some.inj f1).symm
  obtain ⟨g1, -⟩ := y5 (ρ 1 / 4) c0 (by omega) (by omega) y7 y8
  refine ⟨fun y hy => ?_, _, List.mem_cons_self, ρ, fun _ _ => rfl, ax_px hE (by decide) (fun y hy => by cases hy)⟩
  cases List.mem_singleton.mp hy
  show 2147483648 ≤ rx_bi (ρ 2 / 4) ∧ rx_bi (ρ 2 / 4) ≤ 2147483687
  rw [hc, d4, ax_bi_nat y8]
  omega
theorem axq1_om8a : ax_RO ax_wM1 (ax_XM 1) axu1_om8a := by
  intro ρ hp hE hT
  obtain ⟨y1, y2, y3, y4, r, y5, y6, ⟨c0, y7, y8⟩, y9⟩ : ay_ex hp 199 ∧ ay_ex hp 198 ∧ ay_ex hp 181 ∧ ay_M12 1 (ρ 5) (ρ 2) (ρ 3) (ay_at hp 199) (ay_at hp 198) (ay_at hp 181) := (ax_XF_lt (by decide)).mp (ax_gx hE (12, [23, 11, 15]) (by decide))
  obtain ⟨z1, z2, z3⟩ : ay_ex hp 198 ∧ ay_ex hp 181 ∧ ay_M15 1 (ρ 6) (ρ 2) (ρ 3) (ay_at hp 198) (ay_at hp 181) := (ax_XF_lt (by decide)).mp (ax_gx hE (15, [27, 11, 15]) (by decide))
  obtain ⟨f, hf, f1, f2, f3⟩ := ax_gi hE 2 2147483648 2147483657 (by decide) rfl
  obtain ⟨f4, f5⟩ := ax_bi_pos f1 (by omega)
  obtain ⟨u, hu, u1, u2, u3⟩ := ax_gi hE 3 2147483648 2147483657 (by decide) rfl
  obtain ⟨u4, u5⟩ := ax_bi_pos u1 (by omega)
  obtain ⟨c, hc, c1, c2, c3⟩ := ax_gi hE 4 2147483648 2147483687 (by decide) rfl
  obtain ⟨c4, c5⟩ := ax_bi_pos c1 (by omega)
  have d4 : ∀ z : Nat, 4 * z / 4 = z := fun z => by omega
  have hne : rx_bi (ρ 3 / 4) ≠ rx_bi (ρ 2 / 4) := ax_gc hE 1 15 11 (by decide) (by decide)
  rw [hf, hu, d4, d4] at hne
  have hq : ρ 1 = 4 * (c / 2) := ay_q hE 19 7 hc (by omega) (by decide)
  have f1 := ay_gf hE 806 15 19 199 (by decide) (by rw [ax_vl_c (by decide)])
  replace f1 : ay_at hp 199 (ρ 3 / 4) = some (ρ 4) := f1
  rw [hc] at f1
  have f5 := ay_gf hE 802 7 35 198 (by decide) (by rw [ax_vl_c (by decide)])
  replace f5 : ay_at hp 198 (ρ 1 / 4) = some (ρ 8) := f5
  have hu4 : ρ 3 / 4 = u := by omega
  have hf4 : ρ 2 / 4 = f := by omega
  have hq4 : ρ 1 / 4 = c / 2 := by omega
  rw [hu4] at f1 y6 y7 y9
  rw [hf4] at y4 y5 y6
  rw [hq4] at f5
  obtain ⟨g1, g2, w, d, g3, g4, g5, g6, g7⟩ := y5 u c (by omega) (by omega) f1 (by omega)
  have hfr := y6 u c (by omega) (by omega) (Nat.le_refl _) f1 (by omega)
  have hr : ρ 7 = 4 * (c % 2) := ay_r hE 19 31 hc (by omega) (by decide)
  have hx : ρ 0 = 4 * (1 + c % 2) := ay_s hE 4 31 3 (a := 1) (by decide) (ax_vl_c (v := 4) (by decide)) hr (by decide) (by omega)
  obtain ⟨y0, hy0, yy1, yy2, yy3⟩ := ax_gi hE 8 2147483648 2147483648 (by decide) rfl
  have hyz : ρ 8 = 0 := by rw [ax_bi_def] at yy2 yy3; omega
  have hxy : (ρ 8 = 0 ∧ ρ 0 = 4 * (1 + c % 2)) ∨ ((ρ 8 = 4 ∨ ρ 8 = 8) ∧ ρ 8 ≠ 4 * (1 + c % 2) ∧ ρ 0 = 0) := Or.inl ⟨hyz, hx⟩
  have hup : ∀ j, ay_at (ax_upd hp 802 (ρ 1) (ρ 0)) 198 j = if j = c / 2 then some (ρ 0) else ay_at hp 198 j := fun j => by
    rw [ay_upd_eq hT.1 rfl (by rw [hq4]; exact f5), hq4]
  have hcam : ay_at (ax_upd hp 802 (ρ 1) (ρ 0)) 199 = ay_at hp 199 := funext (fun j => ay_upd_ne hT.1 (by decide) j)
  have hen : ay_at (ax_upd hp 802 (ρ 1) (ρ 0)) 181 = ay_at hp 181 := funext (fun j => ay_upd_ne hT.1 (by decide) j)
  have hfl := ay_flow (b := 1) (f := f) (x := ρ 0) (y := ρ 8) (car := ay_at hp 198) (car' := ay_at (ax_upd hp 802 (ρ 1) (ρ 0)) 198) (en := ay_at hp 181) (by omega) g2 g3 (by omega) f5 hxy hup
  have hle : ay_F 1 f (ay_at (ax_upd hp 802 (ρ 1) (ρ 0)) 198) (ay_at hp 181) ≤ 20 := ay_F_le
  unfold ay_M15 at z3
  rw [hu4, hf4, if_neg (by omega)] at z3
  refine ⟨(fun y hy => by cases hy), _, List.mem_cons_self, ρ, fun _ _ => rfl, ax_px hE (by decide) (fun y hy => ?_)⟩
  rcases List.mem_cons.mp hy with e | e
  · subst e
    show ax_XF (ax_XM 1) (500 + 13) [802, ρ 1, ρ 0, ρ 5, ρ 2, ρ 3] hp
    refine (ax_XF_wr (x := 13) (by decide)).mpr ⟨ay_ex_upd hT.1 y1, ay_ex_upd hT.1 y2, ay_ex_upd hT.1 y3, ?_⟩
    rw [hcam, hen]
    unfold ay_M13
    rw [hu4, hf4]
    exact ⟨y4, r, y5, ay_take (by omega) (by omega) f1 (by omega) y5 y6 hup, ⟨c, f1, by omega⟩, y9⟩
  · cases List.mem_singleton.mp e
    show ax_XF (ax_XM 1) (500 + 16) [802, ρ 1, ρ 0, ρ 6, ρ 2, ρ 3] hp
    refine (ax_XF_wr (x := 16) (by decide)).mpr ⟨ay_ex_upd hT.1 y2, ay_ex_upd hT.1 y3, ay_ex_upd hT.1 y1, ?_⟩
    rw [hcam, hen]
    intro c' w' k1 k2
    rw [hu4, f1] at k1
    have ec : c' = c := by have := Option.some.inj k1; omega
    rw [ec, g3] at k2
    have ew : w' = w := by have := Option.some.inj k2; omega
    rw [hf4, ew, hfl]
    rw [hfl] at hle
    by_cases hw : w = f
    · rw [if_pos hw] at hle ⊢
      rw [if_pos hw]
      omega
    · rw [if_neg hw] at hle ⊢
      rw [if_neg hw]
      omega
theorem axq1_om8b : ax_RO ax_wM1 (ax_XM 1) axu1_om8b := by
  intro ρ hp hE hT
  obtain ⟨y1, y2, y3, y4, r, y5, y6, ⟨c0, y7, y8⟩, y9⟩ : ay_ex hp 199 ∧ ay_ex hp 198 ∧ ay_ex hp 181 ∧ ay_M12 1 (ρ 4) (ρ 1) (ρ 2) (ay_at hp 199) (ay_at hp 198) (ay_at hp 181) := (ax_XF_lt (by decide)).mp (ax_gx hE (12, [19, 7, 11]) (by decide))
  obtain ⟨z1, z2, z3⟩ : ay_ex hp 198 ∧ ay_ex hp 181 ∧ ay_M15 1 (ρ 5) (ρ 1) (ρ 2) (ay_at hp 198) (ay_at hp 181) := (ax_XF_lt (by decide)).mp (ax_gx hE (15, [23, 7, 11]) (by decide))
  obtain ⟨f, hf, f1, f2, f3⟩ := ax_gi hE 1 2147483648 2147483657 (by decide) rfl
  obtain ⟨f4, f5⟩ := ax_bi_pos f1 (by omega)
  obtain ⟨u, hu, u1, u2, u3⟩ := ax_gi hE 2 2147483648 2147483657 (by decide) rfl
  obtain ⟨u4, u5⟩ := ax_bi_pos u1 (by omega)
  obtain ⟨c, hc, c1, c2, c3⟩ := ax_gi hE 3 2147483648 2147483687 (by decide) rfl
  obtain ⟨c4, c5⟩ := ax_bi_pos c1 (by omega)
  have d4 : ∀ z : Nat, 4 * z / 4 = z := fun z => by omega
  have hne : rx_bi (ρ 2 / 4) ≠ rx_bi (ρ 1 / 4) := ax_gc hE 1 11 7 (by decide) (by decide)
  rw [hf, hu, d4, d4] at hne
  have hq : ρ 0 = 4 * (c / 2) := ay_q hE 15 3 hc (by omega) (by decide)
  have f1 := ay_gf hE 806 11 15 199 (by decide) (by rw [ax_vl_c (by decide)])
  replace f1 : ay_at hp 199 (ρ 2 / 4) = some (ρ 3) := f1
  rw [hc] at f1
  have f5 := ay_gf hE 802 3 27 198 (by decide) (by rw [ax_vl_c (by decide)])
  replace f5 : ay_at hp 198 (ρ 0 / 4) = some (ρ 6) := f5
  have hu4 : ρ 2 / 4 = u := by omega
  have hf4 : ρ 1 / 4 = f := by omega
  have hq4 : ρ 0 / 4 = c / 2 := by omega
  rw [hu4] at f1 y6 y7 y9
  rw [hf4] at y4 y5 y6
  rw [hq4] at f5
  obtain ⟨g1, g2, w, d, g3, g4, g5, g6, g7⟩ := y5 u c (by omega) (by omega) f1 (by omega)
  have hfr := y6 u c (by omega) (by omega) (Nat.le_refl _) f1 (by omega)
  obtain ⟨y0, hy0, yy1, yy2, yy3⟩ := ax_gi hE 6 2147483649 2147483650 (by decide) rfl
  have hyz : ρ 6 = 4 ∨ ρ 6 = 8 := by rw [ax_bi_def] at yy2 yy3; omega
  have hxy : (ρ 6 = 0 ∧ 0 = 4 * (1 + c % 2)) ∨ ((ρ 6 = 4 ∨ ρ 6 = 8) ∧ ρ 6 ≠ 4 * (1 + c % 2) ∧ 0 = 0) := Or.inr ⟨hyz, fun z => hfr (by rw [f5, z]), rfl⟩
  have hup : ∀ j, ay_at (ax_upd hp 802 (ρ 0) (0)) 198 j = if j = c / 2 then some (0) else ay_at hp 198 j := fun j => by
    rw [ay_upd_eq hT.1 rfl (by rw [hq4]; exact f5), hq4]
  have hcam : ay_at (ax_upd hp 802 (ρ 0) (0)) 199 = ay_at hp 199 := funext (fun j => ay_upd_ne hT.1 (by decide) j)
  have hen : ay_at (ax_upd hp 802 (ρ 0) (0)) 181 = ay_at hp 181 := funext (fun j => ay_upd_ne hT.1 (by decide) j)
  have hfl := ay_flow (b := 1) (f := f) (x := 0) (y := ρ 6) (car := ay_at hp 198) (car' := ay_at (ax_upd hp 802 (ρ 0) (0)) 198) (en := ay_at hp 181) (by omega) g2 g3 (by omega) f5 hxy hup
  have hle : ay_F 1 f (ay_at (ax_upd hp 802 (ρ 0) (0)) 198) (ay_at hp 181) ≤ 20 := ay_F_le
  unfold ay_M15 at z3
  rw [hu4, hf4, if_neg (by omega)] at z3
  refine ⟨(fun y hy => by cases hy), _, List.mem_cons_self, ρ, fun _ _ => rfl, ax_px hE (by decide) (fun y hy => ?_)⟩
  rcases List.mem_cons.mp hy with e | e
  · subst e
    show ax_XF (ax_XM 1) (500 + 13) [802, ρ 0, 0, ρ 4, ρ 1, ρ 2] hp
    refine (ax_XF_wr (x := 13) (by decide)).mpr ⟨ay_ex_upd hT.1 y1, ay_ex_upd hT.1 y2, ay_ex_upd hT.1 y3, ?_⟩
    rw [hcam, hen]
    unfold ay_M13
    rw [hu4, hf4]
    exact ⟨y4, r, y5, ay_take (by omega) (by omega) f1 (by omega) y5 y6 hup, ⟨c, f1, by omega⟩, y9⟩
  · cases List.mem_singleton.mp e
    show ax_XF (ax_XM 1) (500 + 16) [802, ρ 0, 0, ρ 5, ρ 1, ρ 2] hp
    refine (ax_XF_wr (x := 16) (by decide)).mpr ⟨ay_ex_upd hT.1 y2, ay_ex_upd hT.1 y3, ay_ex_upd hT.1 y1, ?_⟩
    rw [hcam, hen]
    intro c' w' k1 k2
    rw [hu4, f1] at k1
    have ec : c' = c := by have := Option.some.inj k1; omega
    rw [ec, g3] at k2
    have ew : w' = w := by have := Option.some.inj k2; omega
    rw [hf4, ew, hfl]
    rw [hfl] at hle
    by_cases hw : w = f
    · rw [if_pos hw] at hle ⊢
      rw [if_pos hw]
      omega
    · rw [if_neg hw] at hle ⊢
      rw [if_neg hw]
      omega
theorem axq1_om9 : ax_RO ax_wM1 (ax_XM 1) axu1_om9 := by
  intro ρ hp hE hT
  obtain ⟨y1, y2, y3, y4, r, y5, y6, ⟨c0, y7, y8⟩, y9⟩ : ay_ex hp 199 ∧ ay_ex hp 198 ∧ ay_ex hp 181 ∧ ay_M13 1 (ρ 4) (ρ 1) (ρ 2) (ay_at hp 199) (ay_at hp 198) (ay_at hp 181) := (ax_XF_lt (by decide)).mp (ax_gx hE (13, [19, 7, 11]) (by decide))
  obtain ⟨z1, z2, z0, z3⟩ : ay_ex hp 198 ∧ ay_ex hp 181 ∧ ay_ex hp 199 ∧ ay_M16 1 (ρ 5) (ρ 1) (ρ 2) (ay_at hp 199) (ay_at hp 198) (ay_at hp 181) := (ax_XF_lt (by decide)).mp (ax_gx hE (16, [23, 7, 11]) (by decide))
  obtain ⟨kk, hkk⟩ := ax_gj hE 4 (by decide) rfl
  obtain ⟨w, hw, w1, w2, w3⟩ := ax_gi hE 0 2147483648 2147483657 (by decide) rfl
  obtain ⟨w4, w5⟩ := ax_bi_pos w1 (by omega)
  obtain ⟨f, hf, f1, f2, f3⟩ := ax_gi hE 1 2147483648 2147483657 (by decide) rfl
  obtain ⟨f4, f5⟩ := ax_bi_pos f1 (by omega)
  obtain ⟨u, hu, u1, u2, u3⟩ := ax_gi hE 2 2147483648 2147483657 (by decide) rfl
  obtain ⟨u4, u5⟩ := ax_bi_pos u1 (by omega)
  obtain ⟨c, hc, c1, c2, c3⟩ := ax_gi hE 3 2147483648 2147483687 (by decide) rfl
  obtain ⟨c4, c5⟩ := ax_bi_pos c1 (by omega)
  have d4 : ∀ z : Nat, 4 * z / 4 = z := fun z => by omega
  have hne : rx_bi (ρ 2 / 4) ≠ rx_bi (ρ 1 / 4) := ax_gc hE 1 11 7 (by decide) (by decide)
  rw [hf, hu, d4, d4] at hne
  have hq := ay_q hE 15 27 hc (by omega) (by decide)
  have hr := ay_r hE 15 31 hc (by omega) (by decide)
  have hj := ay_ix hE 160 27 35 39 31 43 (k := 40) (ax_vl_c (v := 160) (by decide)) (by decide) hq (by omega) hr (by omega) (by decide) (by decide) (by decide)
  have f1 := ay_gf hE 806 11 15 199 (by decide) (by rw [ax_vl_c (by decide)])
  have f2 := ay_gf hE 734 43 3 181 (by decide) (by rw [ax_vl_c (by decide)])
  replace f1 : ay_at hp 199 (ρ 2 / 4) = some (ρ 3) := f1
  replace f2 : ay_at hp 181 (ax_vl ρ 43 / 4) = some (ρ 0) := f2
  rw [hj, d4, hw] at f2
  rw [hc] at f1
  have hu4 : ρ 2 / 4 = u := by omega
  have hf4 : ρ 1 / 4 = f := by omega
  have hw4 : ρ 0 / 4 = w := by omega
  rw [hu4] at f1 y6 y7 y9
  rw [hf4] at y4 y5 y6
  obtain ⟨g1, g2, w', d, g3, g4, g5, g6, g7⟩ := y5 u c (by omega) (by omega) f1 (by omega)
  have hfr : ay_at hp 181 (ay_fr 1 c) = some (4 * w) := by
    unfold ay_fr
    exact f2
  have hww : w' = w := by
    rw [hfr] at g3
    have := Option.some.inj g3
    omega
  subst hww
  have hz := z3 c w' (by rw [hu4]; exact f1) hfr
  rw [hf4] at hz
  obtain ⟨ρ', h1, h2⟩ := ax_pn (K := kk - 1) (xf := [(12, [47, 7, 3]), (1030, [47, 19]), (15, [23, 7, 3])]) hE (by decide) (fun ρ' h1 h2 x hx => by
    rcases List.mem_cons.mp hx with e | e
    · subst e
      refine (ax_XF_lt (x := 12) (by decide)).mpr ⟨y1, y2, y3, ?_⟩
      show ay_M12 1 (ρ' 11) (ρ' 1) (ρ' 0) (ay_at hp 199) (ay_at hp 198) (ay_at hp 181)
      rw [h1 0 (by decide), h1 1 (by decide), h2]
      unfold ay_M12
      rw [hf4, hw4]
      exact ⟨y4, r, y5, fun v c' a1 a2 a3 a4 a5 => y6 v c' a1 a2 (Nat.lt_of_le_of_lt a3 g7) a4 a5, ⟨d, g5, g6⟩, by omega⟩
    · rcases List.mem_cons.mp e with e | e
      · subst e
        refine (ax_XF_bi (o := 30) (by decide)).mpr (Or.inr ⟨rfl, ?_⟩)
        show ρ' 11 < ρ' 4
        rw [h2, h1 4 (by decide), hkk]
        omega
      · cases List.mem_singleton.mp e
        refine (ax_XF_lt (x := 15) (by decide)).mpr ⟨z1, z2, ?_⟩
        show ay_M15 1 (ρ' 5) (ρ' 1) (ρ' 0) (ay_at hp 198) (ay_at hp 181)
        rw [h1 0 (by decide), h1 1 (by decide), h1 5 (by decide)]
        unfold ay_M15
        rw [hf4, hw4]
        exact hz)
  exact ⟨(fun x hx => by cases hx), _, List.mem_cons_self, ρ', h1, h2⟩
theorem axq1_om10 : ax_RO ax_wM1 (ax_XM 1) axu1_om10 := by
  intro ρ hp hE hT
  obtain ⟨z1, z2, z3⟩ : ay_ex hp 198 ∧ ay_ex hp 181 ∧ ay_M15 1 (ρ 2) (ρ 0) (ρ 1) (ay_at hp 198) (ay_at hp 181) := (ax_XF_lt (by decide)).mp (ax_gx hE (15, [11, 3, 7]) (by decide))
  obtain ⟨kk, hkk⟩ := ax_gj hE 2 (by decide) rfl
  obtain ⟨f, hf, f1, f2, f3⟩ := ax_gi hE 0 2147483648 2147483657 (by decide) rfl
  obtain ⟨f4, f5⟩ := ax_bi_pos f1 (by omega)
  obtain ⟨u, hu, u1, u2, u3⟩ := ax_gi hE 1 2147483648 2147483657 (by decide) rfl
  obtain ⟨u4, u5⟩ := ax_bi_pos u1 (by omega)
  have d4 : ∀ z : Nat, 4 * z / 4 = z := fun z => by omega
  have hne : rx_bi (ρ 1 / 4) = rx_bi (ρ 0 / 4) := ax_gc hE 0 7 3 (by decide) (by decide)
  rw [hf, hu, d4, d4] at hne
  unfold ay_M15 at z3
  rw [if_pos (by omega)] at z3
  obtain ⟨ρ', h1, h2⟩ := ax_pn (K := kk - 1) (xf := [(14, [15, 3]), (1030, [15, 11])]) hE (by decide) (fun ρ' h1 h2 x hx => by
    rcases List.mem_cons.mp hx with e | e
    · subst e
      refine (ax_XF_lt (x := 14) (by decide)).mpr ⟨z1, z2, ?_⟩
      show (20 - ay_F 1 (ρ' 0 / 4) (ay_at hp 198) (ay_at hp 181)).toNat < ρ' 3 / 4
      rw [h1 0 (by decide), h2]
      omega
    · cases List.mem_singleton.mp e
      refine (ax_XF_bi (o := 30) (by decide)).mpr (Or.inr ⟨rfl, ?_⟩)
      show ρ' 3 < ρ' 2
      rw [h2, h1 2 (by decide), hkk]
      omega)
  exact ⟨(fun x hx => by cases hx), _, List.mem_cons_self, ρ', h1, h2⟩
theorem axq1_am0 : ax_RO ax_wM1 (ax_XM 1) axu1_am0 := by
  intro ρ hp hE hT
  obtain ⟨ρ', h1, h2⟩ := ax_pn (K := (20 - ay_F 1 (ρ 0 / 4) (ay_at hp 198) (ay_at hp 181)).toNat + 1) (xf := [(14, [7, 3])]) hE (by decide) (fun ρ' h1 h2 x hx => by
    cases List.mem_singleton.mp hx
    refine (ax_XF_lt (x := 14) (by decide)).mpr ⟨(ax_cellT hT (q := 198) (g := 68) (ax_wc ax_WW1 ax_cg_198)), (ax_cellT hT (q := 181) (g := 51) (ax_wc ax_WW1 ax_cg_181)), ?_⟩
    show (20 - ay_F 1 (ρ' 0 / 4) (ay_at hp 198) (ay_at hp 181)).toNat < ρ' 1 / 4
    rw [h1 0 (by decide), h2]
    omega)
  exact ⟨(fun x hx => by cases hx), _, List.mem_cons_self, ρ', h1, h2⟩
