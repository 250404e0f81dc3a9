theorem axqg_lu0 {w : ax_W} {b : Nat} (hw : ax_WW w) : ax_RO w (ax_XM b) axu0_lu0 := by
  intro ρ hp hE hT
  refine ⟨(fun y hy => by cases hy), _, List.mem_cons_self, ρ, fun _ _ => rfl, ax_px hE (by decide) (fun y hy => ?_)⟩
  cases List.mem_singleton.mp hy
  refine (ax_XF_lt (x := 28) (by decide)).mpr ⟨(ax_cellT hT (q := 191) (g := 61) (ax_wc hw ax_cg_191)), (ax_cellT hT (q := 181) (g := 51) (ax_wc hw ax_cg_181)), (ax_cellT hT (q := 174) (g := 44) (ax_wc hw ax_cg_174)), (ax_cellT hT (q := 176) (g := 46) (ax_wc hw ax_cg_176)), Or.inl ?_⟩
  show 2147483648 ≤ 17179869180 / 4
  decide
theorem axq0_lu0 : ax_RO ax_wM0 (ax_XM 0) axu0_lu0 := axqg_lu0 ax_WW0
theorem axq0_lu00 : ax_RO ax_wM0 (ax_XM 0) axu0_lu00 := by
  intro ρ hp hE hT
  obtain ⟨c, hc, c1, c2, c3⟩ := ax_gi hE 0 2147483648 2147483687 (by decide) rfl
  obtain ⟨c4, c5⟩ := ax_bi_pos c1 (by omega)
  obtain ⟨g, hg, g1, g2, g3⟩ := ax_gi hE 1 2147483648 2147483657 (by decide) rfl
  obtain ⟨g4, g5⟩ := ax_bi_pos g1 (by omega)
  obtain ⟨v, hv, v1, v2, v3⟩ := ax_gi hE 2 2147483648 2147483657 (by decide) rfl
  obtain ⟨v4, v5⟩ := ax_bi_pos v1 (by omega)
  obtain ⟨u, hu, u1, u2, u3⟩ := ax_gi hE 3 2147483648 2147483657 (by decide) rfl
  obtain ⟨u4, u5⟩ := ax_bi_pos u1 (by omega)
  obtain ⟨t, ht, t1, t2, t3⟩ := ax_gi hE 4 2147483648 2147483657 (by decide) rfl
  obtain ⟨t4, t5⟩ := ax_bi_pos t1 (by omega)
  obtain ⟨h, hh, h1, h2, h3⟩ := ax_gi hE 6 2147483648 2147583647 (by decide) rfl
  obtain ⟨h4, h5⟩ := ax_bi_pos h1 (by omega)
  obtain ⟨a, ha, a1, a2, a3⟩ := ax_gi hE 7 2147483648 2147583648 (by decide) rfl
  obtain ⟨a4, a5⟩ := ax_bi_pos a1 (by omega)
  obtain ⟨L, hL, L1, L2, L3⟩ := ax_gi hE 9 2147483648 2147483668 (by decide) rfl
  obtain ⟨L4, L5⟩ := ax_bi_pos L1 (by omega)
  obtain ⟨s, hs, s1, s2, s3⟩ := ax_gi hE 11 2147483648 2147483648 (by decide) rfl
  obtain ⟨s4, s5⟩ := ax_bi_pos s1 (by omega)
  have d4 : ∀ z : Nat, 4 * z / 4 = z := fun z => by omega
  obtain ⟨x, hx, xx1, xx2, xx3⟩ := ax_gi hE 5 0 4294967295 (by decide) rfl
  have hs0 : s = 0 := by omega
  have hq : ρ 12 = 4 * (c / 2) := ay_q hE 3 51 hc (by omega) (by decide)
  have hr := ay_r hE 3 55 hc (by omega) (by decide)
  have hj1 := ay_ix hE 0 51 59 63 55 67 (k := 0) (ax_vl_c (v := 0) (by decide)) (by decide) hq (by omega) hr (by omega) (by decide) (by decide) (by decide)
  have hr2 := ay_d hE 71 55 4 (c := 1) (by decide) hr (ax_vl_c (v := 4) (by decide)) (by omega) (by decide)
  have hj2 := ay_ix hE 0 51 59 63 71 75 (k := 0) (ax_vl_c (v := 0) (by decide)) (by decide) hq (by omega) hr2 (by omega) (by decide) (by decide) (by decide)
  have hjq : ρ 19 = 4 * (20 + c / 2) := ay_s hE 80 51 79 (a := 20) (by decide) (ax_vl_c (v := 80) (by decide)) hq (by decide) (by omega)
  have hk1 := ay_stt hE 7 83 15 87 91 47 95 hg (by omega) hu (by omega) hs (by omega) (by decide) (by decide) (by decide) (by decide)
  have hk2 := ay_stt hE 7 99 19 103 107 4 111 (S := 1) hg (by omega) ht (by omega) (ax_vl_c (by decide)) (by decide) (by decide) (by decide) (by decide) (by decide)
  have hsm : ρ 8 = 4 * (1 + a) := ay_s hE 4 31 35 (a := 1) (by decide) (ax_vl_c (v := 4) (by decide)) ha (by decide) (by omega)
  have f1 := ay_gf hE 734 75 19 181 (by decide) (by rw [ax_vl_c (by decide)])
  have f2 := ay_gf hE 706 79 23 174 (by decide) (by rw [ax_vl_c (by decide)])
  have f3 := ay_gf hE 774 95 27 191 (by decide) (by rw [ax_vl_c (by decide)])
  have f4 := ay_gf hE 774 111 31 191 (by decide) (by rw [ax_vl_c (by decide)])
  have f5 := ay_gfj hE 714 0 39 176 0 (by decide) (by rw [ax_vl_c (by decide)]) (by rw [ax_vl_c (by decide)])
  replace f1 : ay_at hp 181 (ax_vl ρ 75 / 4) = some (ρ 4) := f1
  replace f2 : ay_at hp 174 (ρ 19 / 4) = some (ρ 5) := f2
  replace f3 : ay_at hp 191 (ax_vl ρ 95 / 4) = some (ρ 6) := f3
  replace f4 : ay_at hp 191 (ax_vl ρ 111 / 4) = some (ρ 7) := f4
  replace f5 : ay_at hp 176 0 = some (ρ 9) := f5
  have huv : rx_bi (ρ 3 / 4) = rx_bi (ρ 2 / 4) := ax_gc hE 0 15 11 (by decide) (by decide)
  have htx : rx_bi (ρ 4 / 4) ≠ rx_bi (ρ 5 / 4) := ax_gc hE 1 19 23 (by decide) (by decide)
  have hhs : rx_bi (ρ 6 / 4) = rx_bi (ρ 8 / 4) := ax_gc hE 0 27 35 (by decide) (by decide)
  have hcm : rx_bi (ρ 0 / 4) < rx_bi (ρ 10 / 4) := ax_gc hE 2 3 43 (by decide) (by decide)
  obtain ⟨m, m1, m2, m3⟩ := ay_mk hE 2 8 39 43 (by decide) (by decide)
  rw [show ax_vl ρ 39 = ρ 9 from rfl, hL, d4, ax_vl_c (by decide)] at m1
  replace m1 : some (8 / 4 * L % 4294967296) = some m := m1
  have m1 := Option.some.inj m1
  replace m3 : ρ 10 = 4 * m := m3
  rw [hu, hv, d4, d4] at huv
  rw [hh, hsm, d4, d4, ax_bi_nat (c := 1 + a) (by omega)] at hhs
  rw [hc, m3, d4, d4, ax_bi_nat (c := m) (by omega)] at hcm
  rw [ht, hx, d4, d4] at htx
  rw [hj2, d4, ht] at f1
  rw [hjq, d4, hx] at f2
  rw [hk1, d4, hh] at f3
  rw [hk2, d4, ha] at f4
  have huve : u = v := by omega
  subst huve
  have hto : ay_at hp 181 (ay_to 0 c) = some (4 * t) := by
    unfold ay_to
    exact f1
  have hup : ay_up 0 (ay_at hp 181) (ay_at hp 174) c = false := by
    unfold ay_up
    rw [hto, f2]
    exact decide_eq_false (fun z => htx (by have := Option.some.inj z; rw [show t = x by omega]))
  have hbh : ay_bh s (ay_up 0 (ay_at hp 181) (ay_at hp 174) c) = 1 := by
    unfold ay_bh
    rw [hup, hs0]
    rfl
  have hc4 : ρ 0 / 4 = c := by omega
  have hg4 : ρ 1 / 4 = g := by omega
  have hv4 : ρ 2 / 4 = u := by omega
  have hs4 : ρ 11 / 4 = s := by omega
  refine ⟨(fun y hy => by cases hy), _, List.mem_cons_self, ρ, fun _ _ => rfl, ax_px hE (by decide) (fun y hy => ?_)⟩
  cases List.mem_singleton.mp hy
  refine (ax_XF_lt (x := 28) (by decide)).mpr ⟨(ax_cellT hT (q := 191) (g := 61) ax_cg_191), (ax_cellT hT (q := 181) (g := 51) ax_cg_181), (ax_cellT hT (q := 174) (g := 44) ax_cg_174), (ax_cellT hT (q := 176) (g := 46) ax_cg_176), Or.inr ?_⟩
  show ay_led 0 (ay_at hp 191) (ay_at hp 181) (ay_at hp 174) (ay_at hp 176 0) (ρ 1 / 4) (ρ 2 / 4) (ρ 11 / 4) (ρ 0 / 4)
  rw [hc4, hg4, hv4, hs4]
  refine ⟨by omega, ?_, t, a, h, hto, by omega, ?_, f3, by omega, by omega⟩
  · rw [f5]
    show c < 2 * (ρ 9 / 4)
    omega
  · rw [hbh]
    exact f4
theorem axq0_lu01 : ax_RO ax_wM0 (ax_XM 0) axu0_lu01 := by
  intro ρ hp hE hT
  obtain ⟨c, hc, c1, c2, c3⟩ := ax_gi hE 0 2147483648 2147483687 (by decide) rfl
  obtain ⟨c4, c5⟩ := ax_bi_pos c1 (by omega)
  obtain ⟨g, hg, g1, g2, g3⟩ := ax_gi hE 1 2147483648 2147483657 (by decide) rfl
  obtain ⟨g4, g5⟩ := ax_bi_pos g1 (by omega)
  obtain ⟨v, hv, v1, v2, v3⟩ := ax_gi hE 2 2147483648 2147483657 (by decide) rfl
  obtain ⟨v4, v5⟩ := ax_bi_pos v1 (by omega)
  obtain ⟨u, hu, u1, u2, u3⟩ := ax_gi hE 3 2147483648 2147483657 (by decide) rfl
  obtain ⟨u4, u5⟩ := ax_bi_pos u1 (by omega)
  obtain ⟨t, ht, t1, t2, t3⟩ := ax_gi hE 4 2147483648 2147483657 (by decide) rfl
  obtain ⟨t4, t5⟩ := ax_bi_pos t1 (by omega)
  obtain ⟨h, hh, h1, h2, h3⟩ := ax_gi hE 6 2147483648 2147583647 (by decide) rfl
  obtain ⟨h4, h5⟩ := ax_bi_pos h1 (by omega)
  obtain ⟨a, ha, a1, a2, a3⟩ := ax_gi hE 7 2147483648 2147583648 (by decide) rfl
  obtain ⟨a4, a5⟩ := ax_bi_pos a1 (by omega)
  obtain ⟨L, hL, L1, L2, L3⟩ := ax_gi hE 9 2147483648 2147483668 (by decide) rfl
  obtain ⟨L4, L5⟩ := ax_bi_pos L1 (by omega)
  obtain ⟨s, hs, s1, s2, s3⟩ := ax_gi hE 11 2147483649 2147483649 (by decide) rfl
  obtain ⟨s4, s5⟩ := ax_bi_pos s1 (by omega)
  have d4 : ∀ z : Nat, 4 * z / 4 = z := fun z => by omega
  obtain ⟨x, hx, xx1, xx2, xx3⟩ := ax_gi hE 5 0 4294967295 (by decide) rfl
  have hs1 : s = 1 := by omega
  have hq : ρ 12 = 4 * (c / 2) := ay_q hE 3 51 hc (by omega) (by decide)
  have hr := ay_r hE 3 55 hc (by omega) (by decide)
  have hj1 := ay_ix hE 0 51 59 63 55 67 (k := 0) (ax_vl_c (v := 0) (by decide)) (by decide) hq (by omega) hr (by omega) (by decide) (by decide) (by decide)
  have hr2 := ay_d hE 71 55 4 (c := 1) (by decide) hr (ax_vl_c (v := 4) (by decide)) (by omega) (by decide)
  have hj2 := ay_ix hE 0 51 59 63 71 75 (k := 0) (ax_vl_c (v := 0) (by decide)) (by decide) hq (by omega) hr2 (by omega) (by decide) (by decide) (by decide)
  have hjq : ρ 19 = 4 * (20 + c / 2) := ay_s hE 80 51 79 (a := 20) (by decide) (ax_vl_c (v := 80) (by decide)) hq (by decide) (by omega)
  have hk1 := ay_stt hE 7 83 15 87 91 47 95 hg (by omega) hu (by omega) hs (by omega) (by decide) (by decide) (by decide) (by decide)
  have hk2 := ay_stt hE 7 99 19 103 107 4 111 (S := 1) hg (by omega) ht (by omega) (ax_vl_c (by decide)) (by decide) (by decide) (by decide) (by decide) (by decide)
  have hsm : ρ 8 = 4 * (1 + a) := ay_s hE 4 31 35 (a := 1) (by decide) (ax_vl_c (v := 4) (by decide)) ha (by decide) (by omega)
  have f1 := ay_gf hE 734 75 19 181 (by decide) (by rw [ax_vl_c (by decide)])
  have f2 := ay_gf hE 706 79 23 174 (by decide) (by rw [ax_vl_c (by decide)])
  have f3 := ay_gf hE 774 95 27 191 (by decide) (by rw [ax_vl_c (by decide)])
  have f4 := ay_gf hE 774 111 31 191 (by decide) (by rw [ax_vl_c (by decide)])
  have f5 := ay_gfj hE 714 0 39 176 0 (by decide) (by rw [ax_vl_c (by decide)]) (by rw [ax_vl_c (by decide)])
  replace f1 : ay_at hp 181 (ax_vl ρ 75 / 4) = some (ρ 4) := f1
  replace f2 : ay_at hp 174 (ρ 19 / 4) = some (ρ 5) := f2
  replace f3 : ay_at hp 191 (ax_vl ρ 95 / 4) = some (ρ 6) := f3
  replace f4 : ay_at hp 191 (ax_vl ρ 111 / 4) = some (ρ 7) := f4
  replace f5 : ay_at hp 176 0 = some (ρ 9) := f5
  have huv : rx_bi (ρ 3 / 4) = rx_bi (ρ 2 / 4) := ax_gc hE 0 15 11 (by decide) (by decide)
  have htx : rx_bi (ρ 4 / 4) ≠ rx_bi (ρ 5 / 4) := ax_gc hE 1 19 23 (by decide) (by decide)
  have hhs : rx_bi (ρ 6 / 4) = rx_bi (ρ 8 / 4) := ax_gc hE 0 27 35 (by decide) (by decide)
  have hcm : rx_bi (ρ 0 / 4) < rx_bi (ρ 10 / 4) := ax_gc hE 2 3 43 (by decide) (by decide)
  obtain ⟨m, m1, m2, m3⟩ := ay_mk hE 2 8 39 43 (by decide) (by decide)
  rw [show ax_vl ρ 39 = ρ 9 from rfl, hL, d4, ax_vl_c (by decide)] at m1
  replace m1 : some (8 / 4 * L % 4294967296) = some m := m1
  have m1 := Option.some.inj m1
  replace m3 : ρ 10 = 4 * m := m3
  rw [hu, hv, d4, d4] at huv
  rw [hh, hsm, d4, d4, ax_bi_nat (c := 1 + a) (by omega)] at hhs
  rw [hc, m3, d4, d4, ax_bi_nat (c := m) (by omega)] at hcm
  rw [ht, hx, d4, d4] at htx
  rw [hj2, d4, ht] at f1
  rw [hjq, d4, hx] at f2
  rw [hk1, d4, hh] at f3
  rw [hk2, d4, ha] at f4
  have huve : u = v := by omega
  subst huve
  have hto : ay_at hp 181 (ay_to 0 c) = some (4 * t) := by
    unfold ay_to
    exact f1
  have hup : ay_up 0 (ay_at hp 181) (ay_at hp 174) c = false := by
    unfold ay_up
    rw [hto, f2]
    exact decide_eq_false (fun z => htx (by have := Option.some.inj z; rw [show t = x by omega]))
  have hbh : ay_bh s (ay_up 0 (ay_at hp 181) (ay_at hp 174) c) = 1 := by
    unfold ay_bh
    rw [hup, hs1]
    rfl
  have hc4 : ρ 0 / 4 = c := by omega
  have hg4 : ρ 1 / 4 = g := by omega
  have hv4 : ρ 2 / 4 = u := by omega
  have hs4 : ρ 11 / 4 = s := by omega
  refine ⟨(fun y hy => by cases hy), _, List.mem_cons_self, ρ, fun _ _ => rfl, ax_px hE (by decide) (fun y hy => ?_)⟩
  cases List.mem_singleton.mp hy
  refine (ax_XF_lt (x := 28) (by decide)).mpr ⟨(ax_cellT hT (q := 191) (g := 61) ax_cg_191), (ax_cellT hT (q := 181) (g := 51) ax_cg_181), (ax_cellT hT (q := 174) (g := 44) ax_cg_174), (ax_cellT hT (q := 176) (g := 46) ax_cg_176), Or.inr ?_⟩
  show ay_led 0 (ay_at hp 191) (ay_at hp 181) (ay_at hp 174) (ay_at hp 176 0) (ρ 1 / 4) (ρ 2 / 4) (ρ 11 / 4) (ρ 0 / 4)
  rw [hc4, hg4, hv4, hs4]
  refine ⟨by omega, ?_, t, a, h, hto, by omega, ?_, f3, by omega, by omega⟩
  · rw [f5]
    show c < 2 * (ρ 9 / 4)
    omega
  · rw [hbh]
    exact f4
theorem axq0_lu10 : ax_RO ax_wM0 (ax_XM 0) axu0_lu10 := by
  intro ρ hp hE hT
  obtain ⟨c, hc, c1, c2, c3⟩ := ax_gi hE 0 2147483648 2147483687 (by decide) rfl
  obtain ⟨c4, c5⟩ := ax_bi_pos c1 (by omega)
  obtain ⟨g, hg, g1, g2, g3⟩ := ax_gi hE 1 2147483648 2147483657 (by decide) rfl
  obtain ⟨g4, g5⟩ := ax_bi_pos g1 (by omega)
  obtain ⟨v, hv, v1, v2, v3⟩ := ax_gi hE 2 2147483648 2147483657 (by decide) rfl
  obtain ⟨v4, v5⟩ := ax_bi_pos v1 (by omega)
  obtain ⟨u, hu, u1, u2, u3⟩ := ax_gi hE 3 2147483648 2147483657 (by decide) rfl
  obtain ⟨u4, u5⟩ := ax_bi_pos u1 (by omega)
  obtain ⟨t, ht, t1, t2, t3⟩ := ax_gi hE 4 2147483648 2147483657 (by decide) rfl
  obtain ⟨t4, t5⟩ := ax_bi_pos t1 (by omega)
  obtain ⟨h, hh, h1, h2, h3⟩ := ax_gi hE 6 2147483648 2147583647 (by decide) rfl
  obtain ⟨h4, h5⟩ := ax_bi_pos h1 (by omega)
  obtain ⟨a, ha, a1, a2, a3⟩ := ax_gi hE 7 2147483648 2147583648 (by decide) rfl
  obtain ⟨a4, a5⟩ := ax_bi_pos a1 (by omega)
  obtain ⟨L, hL, L1, L2, L3⟩ := ax_gi hE 9 2147483648 2147483668 (by decide) rfl
  obtain ⟨L4, L5⟩ := ax_bi_pos L1 (by omega)
  obtain ⟨s, hs, s1, s2, s3⟩ := ax_gi hE 11 2147483648 2147483648 (by decide) rfl
  obtain ⟨s4, s5⟩ := ax_bi_pos s1 (by omega)
  have d4 : ∀ z : Nat, 4 * z / 4 = z := fun z => by omega
  obtain ⟨x, hx, xx1, xx2, xx3⟩ := ax_gi hE 5 0 4294967295 (by decide) rfl
  have hs0 : s = 0 := by omega
  have hq : ρ 12 = 4 * (c / 2) := ay_q hE 3 51 hc (by omega) (by decide)
  have hr := ay_r hE 3 55 hc (by omega) (by decide)
  have hj1 := ay_ix hE 0 51 59 63 55 67 (k := 0) (ax_vl_c (v := 0) (by decide)) (by decide) hq (by omega) hr (by omega) (by decide) (by decide) (by decide)
  have hr2 := ay_d hE 71 55 4 (c := 1) (by decide) hr (ax_vl_c (v := 4) (by decide)) (by omega) (by decide)
  have hj2 := ay_ix hE 0 51 59 63 71 75 (k := 0) (ax_vl_c (v := 0) (by decide)) (by decide) hq (by omega) hr2 (by omega) (by decide) (by decide) (by decide)
  have hjq : ρ 19 = 4 * (20 + c / 2) := ay_s hE 80 51 79 (a := 20) (by decide) (ax_vl_c (v := 80) (by decide)) hq (by decide) (by omega)
  have hk1 := ay_stt hE 7 83 15 87 91 47 95 hg (by omega) hu (by omega) hs (by omega) (by decide) (by decide) (by decide) (by decide)
  have hk2 := ay_stt hE 7 99 19 103 107 0 111 (S := 0) hg (by omega) ht (by omega) (ax_vl_c (by decide)) (by decide) (by decide) (by decide) (by decide) (by decide)
  have hsm : ρ 8 = 4 * (1 + a) := ay_s hE 4 31 35 (a := 1) (by decide) (ax_vl_c (v := 4) (by decide)) ha (by decide) (by omega)
  have f1 := ay_gf hE 734 75 19 181 (by decide) (by rw [ax_vl_c (by decide)])
  have f2 := ay_gf hE 706 79 23 174 (by decide) (by rw [ax_vl_c (by decide)])
  have f3 := ay_gf hE 774 95 27 191 (by decide) (by rw [ax_vl_c (by decide)])
  have f4 := ay_gf hE 774 111 31 191 (by decide) (by rw [ax_vl_c (by decide)])
  have f5 := ay_gfj hE 714 0 39 176 0 (by decide) (by rw [ax_vl_c (by decide)]) (by rw [ax_vl_c (by decide)])
  replace f1 : ay_at hp 181 (ax_vl ρ 75 / 4) = some (ρ 4) := f1
  replace f2 : ay_at hp 174 (ρ 19 / 4) = some (ρ 5) := f2
  replace f3 : ay_at hp 191 (ax_vl ρ 95 / 4) = some (ρ 6) := f3
  replace f4 : ay_at hp 191 (ax_vl ρ 111 / 4) = some (ρ 7) := f4
  replace f5 : ay_at hp 176 0 = some (ρ 9) := f5
  have huv : rx_bi (ρ 3 / 4) = rx_bi (ρ 2 / 4) := ax_gc hE 0 15 11 (by decide) (by decide)
  have htx : rx_bi (ρ 4 / 4) = rx_bi (ρ 5 / 4) := ax_gc hE 0 19 23 (by decide) (by decide)
  have hhs : rx_bi (ρ 6 / 4) = rx_bi (ρ 8 / 4) := ax_gc hE 0 27 35 (by decide) (by decide)
  have hcm : rx_bi (ρ 0 / 4) < rx_bi (ρ 10 / 4) := ax_gc hE 2 3 43 (by decide) (by decide)
  obtain ⟨m, m1, m2, m3⟩ := ay_mk hE 2 8 39 43 (by decide) (by decide)
  rw [show ax_vl ρ 39 = ρ 9 from rfl, hL, d4, ax_vl_c (by decide)] at m1
  replace m1 : some (8 / 4 * L % 4294967296) = some m := m1
  have m1 := Option.some.inj m1
  replace m3 : ρ 10 = 4 * m := m3
  rw [hu, hv, d4, d4] at huv
  rw [hh, hsm, d4, d4, ax_bi_nat (c := 1 + a) (by omega)] at hhs
  rw [hc, m3, d4, d4, ax_bi_nat (c := m) (by omega)] at hcm
  rw [ht, hx, d4, d4] at htx
  rw [hj2, d4, ht] at f1
  rw [hjq, d4, hx] at f2
  rw [hk1, d4, hh] at f3
  rw [hk2, d4, ha] at f4
  have huve : u = v := by omega
  subst huve
  have hto : ay_at hp 181 (ay_to 0 c) = some (4 * t) := by
    unfold ay_to
    exact f1
  have hup : ay_up 0 (ay_at hp 181) (ay_at hp 174) c = true := by
    unfold ay_up
    rw [hto, f2]
    exact decide_eq_true (by rw [ax_bi_def, ax_bi_def] at htx; rw [show t = x by omega])
  have hbh : ay_bh s (ay_up 0 (ay_at hp 181) (ay_at hp 174) c) = 0 := by
    unfold ay_bh
    rw [hup, hs0]
    rfl
  have hc4 : ρ 0 / 4 = c := by omega
  have hg4 : ρ 1 / 4 = g := by omega
  have hv4 : ρ 2 / 4 = u := by omega
  have hs4 : ρ 11 / 4 = s := by omega
  refine ⟨(fun y hy => by cases hy), _, List.mem_cons_self, ρ, fun _ _ => rfl, ax_px hE (by decide) (fun y hy => ?_)⟩
  cases List.mem_singleton.mp hy
  refine (ax_XF_lt (x := 28) (by decide)).mpr ⟨(ax_cellT hT (q := 191) (g := 61) ax_cg_191), (ax_cellT hT (q := 181) (g := 51) ax_cg_181), (ax_cellT hT (q := 174) (g := 44) ax_cg_174), (ax_cellT hT (q := 176) (g := 46) ax_cg_176), Or.inr ?_⟩
  show ay_led 0 (ay_at hp 191) (ay_at hp 181) (ay_at hp 174) (ay_at hp 176 0) (ρ 1 / 4) (ρ 2 / 4) (ρ 11 / 4) (ρ 0 / 4)
  rw [hc4, hg4, hv4, hs4]
  refine ⟨by omega, ?_, t, a, h, hto, by omega, ?_, f3, by omega, by omega⟩
  · rw [f5]
    show c < 2 * (ρ 9 / 4)
    omega
  · rw [hbh]
    exact f4
theorem axq0_lu11 : ax_RO ax_wM0 (ax_XM 0) axu0_lu11 := by
  intro ρ hp hE hT
  obtain ⟨c, hc, c1, c2, c3⟩ := ax_gi hE 0 2147483648 2147483687 (by decide) rfl
  obtain ⟨c4, c5⟩ := ax_bi_pos c1 (by omega)
  obtain ⟨g, hg, g1, g2, g3⟩ := ax_gi hE 1 2147483648 2147483657 (by decide) rfl
  obtain ⟨g4, g5⟩ := ax_bi_pos g1 (by omega)
  obtain ⟨v, hv, v1, v2, v3⟩ := ax_gi hE 2 2147483648 2147483657 (by decide) rfl
  obtain ⟨v4, v5⟩ := ax_bi_pos v1 (by omega)
  obtain ⟨u, hu, u1, u2, u3⟩ := ax_gi hE 3 2147483648 2147483657 (by decide) rfl
  obtain ⟨u4, u5⟩ := ax_bi_pos u1 (by omega)
  obtain ⟨t, ht, t1, t2, t3⟩ := ax_gi hE 4 2147483648 2147483657 (by decide) rfl
  obtain ⟨t4, t5⟩ := ax_bi_pos t1 (by omega)
  obtain ⟨h, hh, h1, h2, h3⟩ := ax_gi hE 6 2147483648 2147583647 (by decide) rfl
  obtain ⟨h4, h5⟩ := ax_bi_pos h1 (by omega)
  obtain ⟨a, ha, a1, a2, a3⟩ := ax_gi hE 7 2147483648 2147583648 (by decide) rfl
  obtain ⟨a4, a5⟩ := ax_bi_pos a1 (by omega)
  obtain ⟨L, hL, L1, L2, L3⟩ := ax_gi hE 9 2147483648 2147483668 (by decide) rfl
  obtain ⟨L4, L5⟩ := ax_bi_pos L1 (by omega)
  obtain ⟨s, hs, s1, s2, s3⟩ := ax_gi hE 11 2147483649 2147483649 (by decide) rfl
  obtain ⟨s4, s5⟩ := ax_bi_pos s1 (by omega)
  have d4 : ∀ z : Nat, 4 * z / 4 = z := fun z => by omega
  obtain ⟨x, hx, xx1, xx2, xx3⟩ := ax_gi hE 5 0 4294967295 (by decide) rfl
  have hs1 : s = 1 := by omega
  have hq : ρ 12 = 4 * (c / 2) := ay_q hE 3 51 hc (by omega) (by decide)
  have hr := ay_r hE 3 55 hc (by omega) (by decide)
  have hj1 := ay_ix hE 0 51 59 63 55 67 (k := 0) (ax_vl_c (v := 0) (by decide)) (by decide) hq (by omega) hr (by omega) (by decide) (by decide) (by decide)
  have hr2 := ay_d hE 71 55 4 (c := 1) (by decide) hr (ax_vl_c (v := 4) (by decide)) (by omega) (by decide)
  have hj2 := ay_ix hE 0 51 59 63 71 75 (k := 0) (ax_vl_c (v := 0) (by decide)) (by decide) hq (by omega) hr2 (by omega) (by decide) (by decide) (by decide)
  have hjq : ρ 19 = 4 * (20 + c / 2) := ay_s hE 80 51 79 (a := 20) (by decide) (ax_vl_c (v := 80) (by decide)) hq (by decide) (by omega)
  have hk1 := ay_stt hE 7 83 15 87 91 47 95 hg (by omega) hu (by omega) hs (by omega) (by decide) (by decide) (by decide) (by decide)
  have hk2 := ay_stt hE 7 99 19 103 107 4 111 (S := 1) hg (by omega) ht (by omega) (ax_vl_c (by decide)) (by decide) (by decide) (by decide) (by decide) (by decide)
  have hsm : ρ 8 = 4 * (1 + a) := ay_s hE 4 31 35 (a := 1) (by decide) (ax_vl_c (v := 4) (by decide)) ha (by decide) (by omega)
  have f1 := ay_gf hE 734 75 19 181 (by decide) (by rw [ax_vl_c (by decide)])
  have f2 := ay_gf hE 706 79 23 174 (by decide) (by rw [ax_vl_c (by decide)])
  have f3 := ay_gf hE 774 95 27 191 (by decide) (by rw [ax_vl_c (by decide)])
  have f4 := ay_gf hE 774 111 31 191 (by decide) (by rw [ax_vl_c (by decide)])
  have f5 := ay_gfj hE 714 0 39 176 0 (by decide) (by rw [ax_vl_c (by decide)]) (by rw [ax_vl_c (by decide)])
  replace f1 : ay_at hp 181 (ax_vl ρ 75 / 4) = some (ρ 4) := f1
  replace f2 : ay_at hp 174 (ρ 19 / 4) = some (ρ 5) := f2
  replace f3 : ay_at hp 191 (ax_vl ρ 95 / 4) = some (ρ 6) := f3
  replace f4 : ay_at hp 191 (ax_vl ρ 111 / 4) = some (ρ 7) := f4
  replace f5 : ay_at hp 176 0 = some (ρ 9) := f5
  have huv : rx_bi (ρ 3 / 4) = rx_bi (ρ 2 / 4) := ax_gc hE 0 15 11 (by decide) (by decide)
  have htx : rx_bi (ρ 4 / 4) = rx_bi (ρ 5 / 4) := ax_gc hE 0 19 23 (by decide) (by decide)
  have hhs : rx_bi (ρ 6 / 4) = rx_bi (ρ 8 / 4) := ax_gc hE 0 27 35 (by decide) (by decide)
  have hcm : rx_bi (ρ 0 / 4) < rx_bi (ρ 10 / 4) := ax_gc hE 2 3 43 (by decide) (by decide)
  obtain ⟨m, m1, m2, m3⟩ := ay_mk hE 2 8 39 43 (by decide) (by decide)
  rw [show ax_vl ρ 39 = ρ 9 from rfl, hL, d4, ax_vl_c (by decide)] at m1
  replace m1 : some (8 / 4 * L % 4294967296) = some m := m1
  have m1 := Option.some.inj m1
  replace m3 : ρ 10 = 4 * m := m3
  rw [hu, hv, d4, d4] at huv
  rw [hh, hsm, d4, d4, ax_bi_nat (c := 1 + a) (by omega)] at hhs
  rw [hc, m3, d4, d4, ax_bi_nat (c := m) (by omega)] at hcm
  rw [ht, hx, d4, d4] at htx
  rw [hj2, d4, ht] at f1
  rw [hjq, d4, hx] at f2
  rw [hk1, d4, hh] at f3
  rw [hk2, d4, ha] at f4
  have huve : u = v := by omega
  subst huve
  have hto : ay_at hp 181 (ay_to 0 c) = some (4 * t) := by
    unfold ay_to
    exact f1
  have hup : ay_up 0 (ay_at hp 181) (ay_at hp 174) c = true := by
    unfold ay_up
    rw [hto, f2]
    exact decide_eq_true (by rw [ax_bi_def, ax_bi_def] at htx; rw [show t = x by omega])
  have hbh : ay_bh s (ay_up 0 (ay_at hp 181) (ay_at hp 174) c) = 1 := by
    unfold ay_bh
    rw [hup, hs1]
    rfl
  have hc4 : ρ 0 / 4 = c := by omega
  have hg4 : ρ 1 / 4 = g := by omega
  have hv4 : ρ 2 / 4 = u := by omega
  have hs4 : ρ 11 / 4 = s := by omega
  refine ⟨(fun y hy => by cases hy), _, List.mem_cons_self, ρ, fun _ _ => rfl, ax_px hE (by decide) (fun y hy => ?_)⟩
  cases List.mem_singleton.mp hy
  refine (ax_XF_lt (x := 28) (by decide)).mpr ⟨(ax_cellT hT (q := 191) (g := 61) ax_cg_191), (ax_cellT hT (q := 181) (g := 51) ax_cg_181), (ax_cellT hT (q := 174) (g := 44) ax_cg_174), (ax_cellT hT (q := 176) (g := 46) ax_cg_176), Or.inr ?_⟩
  show ay_led 0 (ay_at hp 191) (ay_at hp 181) (ay_at hp 174) (ay_at hp 176 0) (ρ 1 / 4) (ρ 2 / 4) (ρ 11 / 4) (ρ 0 / 4)
  rw [hc4, hg4, hv4, hs4]
  refine ⟨by omega, ?_, t, a, h, hto, by omega, ?_, f3, by omega, by omega⟩
  · rw [f5]
    show c < 2 * (ρ 9 / 4)
    omega
  · rw [hbh]
    exact f4
theorem axqg_lt0 {w : ax_W} {b : Nat} (hw : ax_WW w) : ax_RO w (ax_XM b) axu0_lt0 := by
  intro ρ hp hE hT
  refine ⟨(fun y hy => by cases hy), _, List.mem_cons_self, ρ, fun _ _ => rfl, ax_px hE (by decide) (fun y hy => ?_)⟩
  cases List.mem_singleton.mp hy
  refine (ax_XF_lt (x := 29) (by decide)).mpr ⟨(ax_cellT hT (q := 194) (g := 64) (ax_wc hw ax_cg_194)), (ax_cellT hT (q := 191) (g := 61) (ax_wc hw ax_cg_191)), (ax_cellT hT (q := 181) (g := 51) (ax_wc hw ax_cg_181)), (ax_cellT hT (q := 174) (g := 44) (ax_wc hw ax_cg_174)), (ax_cellT hT (q := 175) (g := 45) (ax_wc hw ax_cg_175)), (ax_cellT hT (q := 176) (g := 46) (ax_wc hw ax_cg_176)), fun g' v' s' h => ?_⟩
  rw [show ax_vl ρ 0 = 0 from rfl] at h
  unfold ay_lx at h
  omega
theorem axq0_lt0 : ax_RO ax_wM0 (ax_XM 0) axu0_lt0 := axqg_lt0 ax_WW0
noncomputable def ay_no0 (hp : rx_H) : Nat := ay_ln (ay_at hp 175 0)
theorem ay_no0_le {hp : rx_H} (hT : ax_HT ax_wM0 hp) : ay_ln (ay_at hp 175 0) ≤ 10 := by
  obtain ⟨k', n', tl, f', b1, b2, b3, b4⟩ := hT.2 175 45 rfl
  rw [ay_eq b2]
  cases e : f'[0]? with
  | none => exact Nat.zero_le _
  | some v =>
    obtain ⟨t, t1, t2⟩ := b4 0 v e
    have hb : (ax_wM0.2.1[45]?).map (fun z => ax_at z.2.2 0) = some (some (0, 2147483648, 2147483658)) := rfl
    rw [show ax_wM0.2.1[45]? = some (k', n', tl) from b1] at hb
    have hb := Option.some.inj hb
    replace hb : ax_at tl 0 = some (0, 2147483648, 2147483658) := hb
    rw [t1] at hb
    have hb := Option.some.inj hb
    subst hb
    rcases t2 with ⟨-, q1, q2, q3, q4⟩ | ⟨q, -⟩ | ⟨q, -⟩ | ⟨q, -⟩
    · obtain ⟨r1, r2⟩ := ax_bi_pos q2 q3
      show v / 4 ≤ 10
      replace q4 : rx_bi (v / 4) ≤ 2147483658 := q4
      omega
    · cases q
    · cases q
    · cases q
theorem axq0_ltS : ax_RO ax_wM0 (ax_XM 0) axu0_ltS := by
  intro ρ hp hE hT
  obtain ⟨x1, x2, x3, x4, x5, x6, x7⟩ : ay_ex hp 194 ∧ ay_ex hp 191 ∧ ay_ex hp 181 ∧ ay_ex hp 174 ∧ ay_ex hp 175 ∧ ay_ex hp 176 ∧ ay_M29 0 (ρ 2) (ρ 3) (ρ 4) (ay_at hp 194) (ay_at hp 191) (ay_at hp 181) (ay_at hp 174) (ay_at hp 175 0) (ay_at hp 176 0) := (ax_XF_lt (by decide)).mp (ax_gx hE (29, [11, 15, 19]) (by decide))
  obtain ⟨g, hg, g1, g2, g3⟩ := ax_gi hE 2 2147483648 2147483657 (by decide) rfl
  obtain ⟨g4, g5⟩ := ax_bi_pos g1 (by omega)
  obtain ⟨v, hv, v1, v2, v3⟩ := ax_gi hE 3 2147483648 2147483657 (by decide) rfl
  obtain ⟨v4, v5⟩ := ax_bi_pos v1 (by omega)
  obtain ⟨s, hs, s1, s2, s3⟩ := ax_gi hE 4 2147483648 2147483649 (by decide) rfl
  obtain ⟨s4, s5⟩ := ax_bi_pos s1 (by omega)
  have d4 : ∀ z : Nat, 4 * z / 4 = z := fun z => by omega
  obtain ⟨-, -, -, -, y5⟩ : ay_ex hp 191 ∧ ay_ex hp 181 ∧ ay_ex hp 174 ∧ ay_ex hp 176 ∧ ay_M28 0 (ρ 2) (ρ 3) (ρ 4) (ρ 0) (ay_at hp 191) (ay_at hp 181) (ay_at hp 174) (ay_at hp 176 0) := (ax_XF_lt (by decide)).mp (ax_gx hE (28, [11, 15, 19, 3]) (by decide))
  have hc28 : ρ 0 / 4 < 2147483648 → ρ 0 % 4 = 0 → ay_led 0 (ay_at hp 191) (ay_at hp 181) (ay_at hp 174) (ay_at hp 176 0) g v s (ρ 0 / 4) := by
    intro h1 _
    rcases y5 with y5 | y5
    · omega
    · rw [hg, hv, hs, d4, d4, d4] at y5
      exact y5
  have hk : ρ 1 = 4 * ay_k g v s := ay_stt hE 11 23 15 27 31 19 7 hg (by omega) hv (by omega) hs (by omega) (by decide) (by decide) (by decide) (by decide)
  obtain ⟨nv, hnv⟩ := ay_some hT (q := 175) (g := 45) (n := 2) ax_cg_175 ax_cn_45 (j := 0) (by decide)
  have hno : ay_ln (ay_at hp 175 0) ≤ 10 := by
    obtain ⟨nn, hnn⟩ : ∃ nn, ay_no0 hp = nn := ⟨_, rfl⟩
    exact ay_no0_le hT
  obtain ⟨o, ho⟩ := ay_some hT (q := 194) (g := 64) (n := 200) ax_cg_194 ax_cn_64 (j := ρ 1 / 4) (by rw [hk, d4]; unfold ay_k; omega)
  have hup : ∀ j, ay_at (ax_upd hp 786 (ρ 1) (ρ 0)) 194 j = if j = ay_k g v s then some (ρ 0) else ay_at hp 194 j := fun j => by
    rw [ay_upd_eq hT.1 rfl ho, hk, d4]
  have e1 : ay_at (ax_upd hp 786 (ρ 1) (ρ 0)) 191 = ay_at hp 191 := funext (fun j => ay_upd_ne hT.1 (by decide) j)
  have e2 : ay_at (ax_upd hp 786 (ρ 1) (ρ 0)) 181 = ay_at hp 181 := funext (fun j => ay_upd_ne hT.1 (by decide) j)
  have e3 : ay_at (ax_upd hp 786 (ρ 1) (ρ 0)) 174 = ay_at hp 174 := funext (fun j => ay_upd_ne hT.1 (by decide) j)
  have e4 : ay_at (ax_upd hp 786 (ρ 1) (ρ 0)) 175 = ay_at hp 175 := funext (fun j => ay_upd_ne hT.1 (by decide) j)
  have e5 : ay_at (ax_upd hp 786 (ρ 1) (ρ 0)) 176 = ay_at hp 176 := funext (fun j => ay_upd_ne hT.1 (by decide) j)
  rw [hg, hv, hs] at x7
  refine ⟨(fun y hy => by cases hy), _, List.mem_cons_self, ρ, fun _ _ => rfl, ax_px hE (by decide) (fun y hy => ?_)⟩
  cases List.mem_singleton.mp hy
  show ax_XF (ax_XM 0) (500 + 30) [786, ρ 1, ρ 0, ρ 2, ρ 3, ρ 4] hp
  refine (ax_XF_wr (x := 30) (by decide)).mpr ⟨ay_ex_upd hT.1 x1, ay_ex_upd hT.1 x2, ay_ex_upd hT.1 x3, ay_ex_upd hT.1 x4, ay_ex_upd hT.1 x5, ay_ex_upd hT.1 x6, ?_⟩
  rw [e1, e2, e3, e4, e5, hg, hv, hs]
  exact ay_ent (by omega) (by omega) (by omega) hno hup x7 hc28
theorem axq0_ltM : ax_RO ax_wM0 (ax_XM 0) axu0_ltM := by
  intro ρ hp hE hT
  obtain ⟨x1, x2, x3, x4, x5, x6, x7⟩ : ay_ex hp 194 ∧ ay_ex hp 191 ∧ ay_ex hp 181 ∧ ay_ex hp 174 ∧ ay_ex hp 175 ∧ ay_ex hp 176 ∧ ay_M29 0 (ρ 1) (ρ 2) (ρ 3) (ay_at hp 194) (ay_at hp 191) (ay_at hp 181) (ay_at hp 174) (ay_at hp 175 0) (ay_at hp 176 0) := (ax_XF_lt (by decide)).mp (ax_gx hE (29, [7, 11, 15]) (by decide))
  obtain ⟨g, hg, g1, g2, g3⟩ := ax_gi hE 1 2147483648 2147483657 (by decide) rfl
  obtain ⟨g4, g5⟩ := ax_bi_pos g1 (by omega)
  obtain ⟨v, hv, v1, v2, v3⟩ := ax_gi hE 2 2147483648 2147483657 (by decide) rfl
  obtain ⟨v4, v5⟩ := ax_bi_pos v1 (by omega)
  obtain ⟨s, hs, s1, s2, s3⟩ := ax_gi hE 3 2147483648 2147483649 (by decide) rfl
  obtain ⟨s4, s5⟩ := ax_bi_pos s1 (by omega)
  have d4 : ∀ z : Nat, 4 * z / 4 = z := fun z => by omega
  have hc28 : 17179869180 / 4 < 2147483648 → 17179869180 % 4 = 0 → ay_led 0 (ay_at hp 191) (ay_at hp 181) (ay_at hp 174) (ay_at hp 176 0) g v s (17179869180 / 4) := by
    intro h1 _
    exact absurd h1 (by decide)
  have hk : ρ 0 = 4 * ay_k g v s := ay_stt hE 7 19 11 23 27 15 3 hg (by omega) hv (by omega) hs (by omega) (by decide) (by decide) (by decide) (by decide)
  obtain ⟨nv, hnv⟩ := ay_some hT (q := 175) (g := 45) (n := 2) ax_cg_175 ax_cn_45 (j := 0) (by decide)
  have hno : ay_ln (ay_at hp 175 0) ≤ 10 := by
    obtain ⟨nn, hnn⟩ : ∃ nn, ay_no0 hp = nn := ⟨_, rfl⟩
    exact ay_no0_le hT
  obtain ⟨o, ho⟩ := ay_some hT (q := 194) (g := 64) (n := 200) ax_cg_194 ax_cn_64 (j := ρ 0 / 4) (by rw [hk, d4]; unfold ay_k; omega)
  have hup : ∀ j, ay_at (ax_upd hp 786 (ρ 0) (17179869180)) 194 j = if j = ay_k g v s then some (17179869180) else ay_at hp 194 j := fun j => by
    rw [ay_upd_eq hT.1 rfl ho, hk, d4]
  have e1 : ay_at (ax_upd hp 786 (ρ 0) (17179869180)) 191 = ay_at hp 191 := funext (fun j => ay_upd_ne hT.1 (by decide) j)
  have e2 : ay_at (ax_upd hp 786 (ρ 0) (17179869180)) 181 = ay_at hp 181 := funext (fun j => ay_upd_ne hT.1 (by decide) j)
  have e3 : ay_at (ax_upd hp 786 (ρ 0) (17179869180)) 174 = ay_at hp 174 := funext (fun j => ay_upd_ne hT.1 (by decide) j)
  have e4 : ay_at (ax_upd hp 786 (ρ 0) (17179869180)) 175 = ay_at hp 175 := funext (fun j => ay_upd_ne hT.1 (by decide) j)
  have e5 : ay_at (ax_upd hp 786 (ρ 0) (17179869180)) 176 = ay_at hp 176 := funext (fun j => ay_upd_ne hT.1 (by decide) j)
  rw [hg, hv, hs] at x7
  refine ⟨(fun y hy => by cases hy), _, List.mem_cons_self, ρ, fun _ _ => rfl, ax_px hE (by decide) (fun y hy => ?_)⟩
  cases List.mem_singleton.mp hy
  show ax_XF (ax_XM 0) (500 + 30) [786, ρ 0, 17179869180, ρ 1, ρ 2, ρ 3] hp
  refine (ax_XF_wr (x := 30) (by decide)).mpr ⟨ay_ex_upd hT.1 x1, ay_ex_upd hT.1 x2, ay_ex_upd hT.1 x3, ay_ex_upd hT.1 x4, ay_ex_upd hT.1 x5, ay_ex_upd hT.1 x6, ?_⟩
  rw [e1, e2, e3, e4, e5, hg, hv, hs]
  exact ay_ent (by omega) (by omega) (by omega) hno hup x7 hc28
theorem axq0_ltA : ax_RO ax_wM0 (ax_XM 0) axu0_ltA := by
  intro ρ hp hE hT
  obtain ⟨x1, x2, x3, x4, x5, x6, x7⟩ : ay_ex hp 194 ∧ ay_ex hp 191 ∧ ay_ex hp 181 ∧ ay_ex hp 174 ∧ ay_ex hp 175 ∧ ay_ex hp 176 ∧ ay_M30 0 (ρ 0) (ρ 1) (ρ 2) (ay_at hp 194) (ay_at hp 191) (ay_at hp 181) (ay_at hp 174) (ay_at hp 175 0) (ay_at hp 176 0) := (ax_XF_lt (by decide)).mp (ax_gx hE (30, [3, 7, 11]) (by decide))
  obtain ⟨s, hs, s1, s2, s3⟩ := ax_gi hE 2 2147483648 2147483649 (by decide) rfl
  obtain ⟨s4, s5⟩ := ax_bi_pos s1 (by omega)
  have h2 : ρ 3 = 4 * (s + 1) := ay_s hE 11 4 15 (b := 1) (by decide) hs (ax_vl_c (v := 4) (by decide)) (by omega) (by decide)
  refine ⟨(fun y hy => by cases hy), _, List.mem_cons_self, ρ, fun _ _ => rfl, ax_px hE (by decide) (fun y hy => ?_)⟩
  cases List.mem_singleton.mp hy
  refine (ax_XF_lt (x := 29) (by decide)).mpr ⟨x1, x2, x3, x4, x5, x6, fun g' v' s' h => ?_⟩
  replace h : ay_lx g' v' s' (ρ 0 / 4) (ρ 1 / 4) (ρ 3 / 4) := h
  rw [show ρ 3 / 4 = ρ 2 / 4 + 1 by omega] at h
  exact x7 g' v' s' h
theorem axq0_ltB : ax_RO ax_wM0 (ax_XM 0) axu0_ltB := by
  intro ρ hp hE hT
  obtain ⟨x1, x2, x3, x4, x5, x6, x7⟩ : ay_ex hp 194 ∧ ay_ex hp 191 ∧ ay_ex hp 181 ∧ ay_ex hp 174 ∧ ay_ex hp 175 ∧ ay_ex hp 176 ∧ ay_M29 0 (ρ 0) (ρ 1) (ρ 2) (ay_at hp 194) (ay_at hp 191) (ay_at hp 181) (ay_at hp 174) (ay_at hp 175 0) (ay_at hp 176 0) := (ax_XF_lt (by decide)).mp (ax_gx hE (29, [3, 7, 11]) (by decide))
  obtain ⟨v, hv, v1, v2, v3⟩ := ax_gi hE 1 2147483648 2147483657 (by decide) rfl
  obtain ⟨v4, v5⟩ := ax_bi_pos v1 (by omega)
  obtain ⟨s, hs, s1, s2, s3⟩ := ax_gi hE 2 2147483650 4294967295 (by decide) rfl
  obtain ⟨s4, s5⟩ := ax_bi_pos s1 (by omega)
  have h2 : ρ 3 = 4 * (v + 1) := ay_s hE 7 4 15 (b := 1) (by decide) hv (ax_vl_c (v := 4) (by decide)) (by omega) (by decide)
  refine ⟨(fun y hy => by cases hy), _, List.mem_cons_self, ρ, fun _ _ => rfl, ax_px hE (by decide) (fun y hy => ?_)⟩
  cases List.mem_singleton.mp hy
  refine (ax_XF_lt (x := 29) (by decide)).mpr ⟨x1, x2, x3, x4, x5, x6, fun g' v' s' h h' h'' => ?_⟩
  replace h : ay_lx g' v' s' (ρ 0 / 4) (ρ 3 / 4) (0 / 4) := h
  refine x7 g' v' s' ?_ h' h''
  unfold ay_lx at h ⊢
  omega
theorem axq0_ltC : ax_RO ax_wM0 (ax_XM 0) axu0_ltC := by
  intro ρ hp hE hT
  obtain ⟨x1, x2, x3, x4, x5, x6, x7⟩ : ay_ex hp 194 ∧ ay_ex hp 191 ∧ ay_ex hp 181 ∧ ay_ex hp 174 ∧ ay_ex hp 175 ∧ ay_ex hp 176 ∧ ay_M29 0 (ρ 0) (ρ 1) 0 (ay_at hp 194) (ay_at hp 191) (ay_at hp 181) (ay_at hp 174) (ay_at hp 175 0) (ay_at hp 176 0) := (ax_XF_lt (by decide)).mp (ax_gx hE (29, [3, 7, 0]) (by decide))
  obtain ⟨g, hg, g1, g2, g3⟩ := ax_gi hE 0 2147483648 2147483657 (by decide) rfl
  obtain ⟨g4, g5⟩ := ax_bi_pos g1 (by omega)
  obtain ⟨v, hv, v1, v2, v3⟩ := ax_gi hE 1 2147483648 2147483658 (by decide) rfl
  obtain ⟨v4, v5⟩ := ax_bi_pos v1 (by omega)
  obtain ⟨n, hn, n1, n2, n3⟩ := ax_gi hE 3 2147483648 2147483658 (by decide) rfl
  obtain ⟨n4, n5⟩ := ax_bi_pos n1 (by omega)
  have d4 : ∀ z : Nat, 4 * z / 4 = z := fun z => by omega
  have h2 : ρ 2 = 4 * (g + 1) := ay_s hE 3 4 11 (b := 1) (by decide) hg (ax_vl_c (v := 4) (by decide)) (by omega) (by decide)
  have f1 := ay_gfj hE 710 0 15 175 0 (by decide) (by rw [ax_vl_c (by decide)]) (by rw [ax_vl_c (by decide)])
  replace f1 : ay_at hp 175 0 = some (ρ 3) := f1
  have hge : rx_bi (ρ 3 / 4) ≤ rx_bi (ρ 1 / 4) := ax_gc hE 3 7 15 (by decide) (by decide)
  rw [hn, hv, d4, d4] at hge
  refine ⟨(fun y hy => by cases hy), _, List.mem_cons_self, ρ, fun _ _ => rfl, ax_px hE (by decide) (fun y hy => ?_)⟩
  cases List.mem_singleton.mp hy
  refine (ax_XF_lt (x := 29) (by decide)).mpr ⟨x1, x2, x3, x4, x5, x6, fun g' v' s' h h' h'' => ?_⟩
  replace h : ay_lx g' v' s' (ρ 2 / 4) (0 / 4) (0 / 4) := h
  refine x7 g' v' s' ?_ h' h''
  rw [f1] at h'
  replace h' : v' < ρ 3 / 4 := h'
  unfold ay_lx at h ⊢
  omega
theorem axq0_ltR : ax_RO ax_wM0 (ax_XM 0) axu0_ltR := by
  intro ρ hp hE hT
  obtain ⟨x1, x2, x3, x4, x5, x6, x7⟩ : ay_ex hp 194 ∧ ay_ex hp 191 ∧ ay_ex hp 181 ∧ ay_ex hp 174 ∧ ay_ex hp 175 ∧ ay_ex hp 176 ∧ ay_M29 0 (ρ 0) 0 0 (ay_at hp 194) (ay_at hp 191) (ay_at hp 181) (ay_at hp 174) (ay_at hp 175 0) (ay_at hp 176 0) := (ax_XF_lt (by decide)).mp (ax_gx hE (29, [3, 0, 0]) (by decide))
  obtain ⟨g, hg, g1, g2, g3⟩ := ax_gi hE 0 2147483648 2147483658 (by decide) rfl
  obtain ⟨g4, g5⟩ := ax_bi_pos g1 (by omega)
  obtain ⟨n, hn, n1, n2, n3⟩ := ax_gi hE 1 2147483648 2147483658 (by decide) rfl
  obtain ⟨n4, n5⟩ := ax_bi_pos n1 (by omega)
  have d4 : ∀ z : Nat, 4 * z / 4 = z := fun z => by omega
  have f1 := ay_gfj hE 710 0 7 175 0 (by decide) (by rw [ax_vl_c (by decide)]) (by rw [ax_vl_c (by decide)])
  replace f1 : ay_at hp 175 0 = some (ρ 1) := f1
  have hge : rx_bi (ρ 1 / 4) ≤ rx_bi (ρ 0 / 4) := ax_gc hE 3 3 7 (by decide) (by decide)
  rw [hn, hg, d4, d4] at hge
  refine ⟨(fun y hy => by cases hy), _, List.mem_cons_self, ρ, fun _ _ => rfl, ax_px hE (by decide) (fun y hy => ?_)⟩
  cases List.mem_singleton.mp hy
  refine (ax_XF_lt (x := 24) (by decide)).mpr ⟨x1, x2, x3, x4, x5, x6, fun g' v' s' h1 h2 h3 => ?_⟩
  refine x7 g' v' s' ?_ h2 h3
  rw [f1] at h1
  replace h1 : g' < ρ 1 / 4 := h1
  unfold ay_lx
  omega
theorem axq0_pa0 : ax_RO ax_wM0 (ax_XM 0) axu0_pa0 := by
  intro ρ hp hE hT
  obtain ⟨f, hf, f1, f2, f3⟩ := ax_gi hE 0 2147483648 2147483657 (by decide) rfl
  obtain ⟨f4, f5⟩ := ax_bi_pos f1 (by omega)
  obtain ⟨t, ht, t1, t2, t3⟩ := ax_gi hE 1 2147483648 2147483657 (by decide) rfl
  obtain ⟨t4, t5⟩ := ax_bi_pos t1 (by omega)
  have d4 : ∀ z : Nat, 4 * z / 4 = z := fun z => by omega
  have hk := ay_stt hE 7 19 3 23 27 0 31 (S := 0) ht (by omega) hf (by omega) (ax_vl_c (by decide)) (by decide) (by decide) (by decide) (by decide) (by decide)
  have f1 := ay_gf hE 786 31 11 194 (by decide) (by rw [ax_vl_c (by decide)])
  replace f1 : ay_at hp 194 (ax_vl ρ 31 / 4) = some (ρ 2) := f1
  rw [hk, d4] at f1
  refine ⟨(fun y hy => by cases hy), _, List.mem_cons_self, ρ, fun _ _ => rfl, ax_px hE (by decide) (fun y hy => ?_)⟩
  cases List.mem_singleton.mp hy
  refine (ax_XF_lt (x := 31) (by decide)).mpr ⟨(ax_cellT hT (q := 194) (g := 64) ax_cg_194), (ax_cellT hT (q := 181) (g := 51) ax_cg_181), (ax_cellT hT (q := 174) (g := 44) ax_cg_174), ?_⟩
  show ay_M31 0 (ρ 0) (ρ 1) (ρ 3) 0 (ρ 0) 0 (ρ 2) (ay_at hp 194) (ay_at hp 181) (ay_at hp 174)
  refine ⟨fun _ => Nat.zero_le _, ?_⟩
  show (ρ 0 / 4, 0, ay_at hp 194 (ay_k (ρ 1 / 4) (ρ 0 / 4) 0)) = (ρ 0 / 4, 0, some (ρ 2))
  rw [show ρ 1 / 4 = t by omega, show ρ 0 / 4 = f by omega, f1]
theorem axq0_pb00 : ax_RO ax_wM0 (ax_XM 0) axu0_pb00 := by
  intro ρ hp hE hT
  obtain ⟨x1, x2, x3, x4, x5⟩ : ay_ex hp 194 ∧ ay_ex hp 181 ∧ ay_ex hp 174 ∧ ay_M31 0 (ρ 0) (ρ 1) (ρ 8) (ρ 2) (ρ 3) (ρ 4) (ρ 5) (ay_at hp 194) (ay_at hp 181) (ay_at hp 174) := (ax_XF_lt (by decide)).mp (ax_gx hE (31, [3, 7, 35, 11, 15, 19, 23]) (by decide))
  obtain ⟨n, hn, n1, n2, n3⟩ := ax_gi hE 2 2147483648 4294967295 (by decide) rfl
  obtain ⟨n4, n5⟩ := ax_bi_pos n1 (by omega)
  obtain ⟨s, hs, s1, s2, s3⟩ := ax_gi hE 4 2147483648 2147483648 (by decide) rfl
  obtain ⟨s4, s5⟩ := ax_bi_pos s1 (by omega)
  obtain ⟨c, hc, c1, c2, c3⟩ := ax_gi hE 5 2147483648 2147483687 (by decide) rfl
  obtain ⟨c4, c5⟩ := ax_bi_pos c1 (by omega)
  obtain ⟨t, ht, t1, t2, t3⟩ := ax_gi hE 6 2147483648 2147483657 (by decide) rfl
  obtain ⟨t4, t5⟩ := ax_bi_pos t1 (by omega)
  have d4 : ∀ z : Nat, 4 * z / 4 = z := fun z => by omega
  obtain ⟨x, hx, xx1, xx2, xx3⟩ := ax_gi hE 7 0 4294967295 (by decide) rfl
  obtain ⟨i, hi, i1, i2, i3⟩ := ax_gi hE 8 0 4294967295 (by decide) rfl
  have hlt : rx_bi (ρ 2 / 4) < rx_bi (ρ 8 / 4) := ax_gc hE 2 11 35 (by decide) (by decide)
  rw [hn, hi, d4, d4, n5, ax_bi_def] at hlt
  have hs0 : s = 0 := by omega
  have hq : ρ 9 = 4 * (c / 2) := ay_q hE 23 39 hc (by omega) (by decide)
  have hr := ay_r hE 23 43 hc (by omega) (by decide)
  have hr2 := ay_d hE 59 43 4 (c := 1) (by decide) hr (ax_vl_c (v := 4) (by decide)) (by omega) (by decide)
  have hj2 := ay_ix hE 0 39 47 51 59 55 (k := 0) (ax_vl_c (v := 0) (by decide)) (by decide) hq (by omega) hr2 (by omega) (by decide) (by decide) (by decide)
  have hjq : ρ 15 = 4 * (20 + c / 2) := ay_s hE 80 39 63 (a := 20) (by decide) (ax_vl_c (v := 80) (by decide)) hq (by decide) (by omega)
  have f1 := ay_gf hE 734 55 27 181 (by decide) (by rw [ax_vl_c (by decide)])
  have f2 := ay_gf hE 706 63 31 174 (by decide) (by rw [ax_vl_c (by decide)])
  replace f1 : ay_at hp 181 (ax_vl ρ 55 / 4) = some (ρ 6) := f1
  replace f2 : ay_at hp 174 (ρ 15 / 4) = some (ρ 7) := f2
  have htx : rx_bi (ρ 6 / 4) ≠ rx_bi (ρ 7 / 4) := ax_gc hE 1 27 31 (by decide) (by decide)
  rw [ht, hx, d4, d4] at htx
  rw [hj2, d4, ht] at f1
  rw [hjq, d4, hx] at f2
  have hto : ay_at hp 181 (ay_to 0 c) = some (4 * t) := by
    unfold ay_to
    exact f1
  have hup : ay_up 0 (ay_at hp 181) (ay_at hp 174) c = false := by
    unfold ay_up
    rw [hto, f2]
    exact decide_eq_false (fun z => htx (by have := Option.some.inj z; rw [show t = x by omega]))
  have hbh : ay_bh s (ay_up 0 (ay_at hp 181) (ay_at hp 174) c) = 1 := by
    unfold ay_bh
    rw [hup, hs0]
    rfl
  refine ⟨(fun y hy => by cases hy), _, List.mem_cons_self, ρ, fun _ _ => rfl, ax_px hE (by decide) (fun y hy => ?_)⟩
  cases List.mem_singleton.mp hy
  refine (ax_XF_lt (x := 33) (by decide)).mpr ⟨x1, x2, x3, ?_⟩
  show ay_M33 0 (ρ 0) (ρ 1) (ρ 8) (ρ 2) (ρ 6) 4 (ay_at hp 194) (ay_at hp 181) (ay_at hp 174)
  refine ⟨fun _ => by omega, ?_⟩
  show ay_nx 0 (ρ 1 / 4) (ay_at hp 194) (ay_at hp 181) (ay_at hp 174) (ay_pt 0 (ρ 0 / 4) (ρ 1 / 4) (ay_at hp 194) (ay_at hp 181) (ay_at hp 174) (ρ 2 / 4)) = _
  rw [x5]
  unfold ay_nx
  dsimp only
  rw [show ρ 5 / 4 = c by omega, if_pos (by omega), hto, show ρ 4 / 4 = s by omega, hbh, show ρ 6 / 4 = t by omega]
  show (4 * t / 4, 1, if 4 * t / 4 = ρ 1 / 4 then some 17179869180 else ay_at hp 194 (ay_k (ρ 1 / 4) (4 * t / 4) 1)) = _
  rw [d4]
theorem axq0_pb01 : ax_RO ax_wM0 (ax_XM 0) axu0_pb01 := by
  intro ρ hp hE hT
  obtain ⟨x1, x2, x3, x4, x5⟩ : ay_ex hp 194 ∧ ay_ex hp 181 ∧ ay_ex hp 174 ∧ ay_M31 0 (ρ 0) (ρ 1) (ρ 8) (ρ 2) (ρ 3) (ρ 4) (ρ 5) (ay_at hp 194) (ay_at hp 181) (ay_at hp 174) := (ax_XF_lt (by decide)).mp (ax_gx hE (31, [3, 7, 35, 11, 15, 19, 23]) (by decide))
  obtain ⟨n, hn, n1, n2, n3⟩ := ax_gi hE 2 2147483648 4294967295 (by decide) rfl
  obtain ⟨n4, n5⟩ := ax_bi_pos n1 (by omega)
  obtain ⟨s, hs, s1, s2, s3⟩ := ax_gi hE 4 2147483649 2147483649 (by decide) rfl
  obtain ⟨s4, s5⟩ := ax_bi_pos s1 (by omega)
  obtain ⟨c, hc, c1, c2, c3⟩ := ax_gi hE 5 2147483648 2147483687 (by decide) rfl
  obtain ⟨c4, c5⟩ := ax_bi_pos c1 (by omega)
  obtain ⟨t, ht, t1, t2, t3⟩ := ax_gi hE 6 2147483648 2147483657 (by decide) rfl
  obtain ⟨t4, t5⟩ := ax_bi_pos t1 (by omega)
  have d4 : ∀ z : Nat, 4 * z / 4 = z := fun z => by omega
  obtain ⟨x, hx, xx1, xx2, xx3⟩ := ax_gi hE 7 0 4294967295 (by decide) rfl
  obtain ⟨i, hi, i1, i2, i3⟩ := ax_gi hE 8 0 4294967295 (by decide) rfl
  have hlt : rx_bi (ρ 2 / 4) < rx_bi (ρ 8 / 4) := ax_gc hE 2 11 35 (by decide) (by decide)
  rw [hn, hi, d4, d4, n5, ax_bi_def] at hlt
  have hs1 : s = 1 := by omega
  have hq : ρ 9 = 4 * (c / 2) := ay_q hE 23 39 hc (by omega) (by decide)
  have hr := ay_r hE 23 43 hc (by omega) (by decide)
  have hr2 := ay_d hE 59 43 4 (c := 1) (by decide) hr (ax_vl_c (v := 4) (by decide)) (by omega) (by decide)
  have hj2 := ay_ix hE 0 39 47 51 59 55 (k := 0) (ax_vl_c (v := 0) (by decide)) (by decide) hq (by omega) hr2 (by omega) (by decide) (by decide) (by decide)
  have hjq : ρ 15 = 4 * (20 + c / 2) := ay_s hE 80 39 63 (a := 20) (by decide) (ax_vl_c (v := 80) (by decide)) hq (by decide) (by omega)
  have f1 := ay_gf hE 734 55 27 181 (by decide) (by rw [ax_vl_c (by decide)])
  have f2 := ay_gf hE 706 63 31 174 (by decide) (by rw [ax_vl_c (by decide)])
  replace f1 : ay_at hp 181 (ax_vl ρ 55 / 4) = some (ρ 6) := f1
  replace f2 : ay_at hp 174 (ρ 15 / 4) = some (ρ 7) := f2
  have htx : rx_bi (ρ 6 / 4) ≠ rx_bi (ρ 7 / 4) := ax_gc hE 1 27 31 (by decide) (by decide)
  rw [ht, hx, d4, d4] at htx
  rw [hj2, d4, ht] at f1
  rw [hjq, d4, hx] at f2
  have hto : ay_at hp 181 (ay_to 0 c) = some (4 * t) := by
    unfold ay_to
    exact f1
  have hup : ay_up 0 (ay_at hp 181) (ay_at hp 174) c = false := by
    unfold ay_up
    rw [hto, f2]
    exact decide_eq_false (fun z => htx (by have := Option.some.inj z; rw [show t = x by omega]))
  have hbh : ay_bh s (ay_up 0 (ay_at hp 181) (ay_at hp 174) c) = 1 := by
    unfold ay_bh
    rw [hup, hs1]
    rfl
  refine ⟨(fun y hy => by cases hy), _, List.mem_cons_self, ρ, fun _ _ => rfl, ax_px hE (by decide) (fun y hy => ?_)⟩
  cases List.mem_singleton.mp hy
  refine (ax_XF_lt (x := 33) (by decide)).mpr ⟨x1, x2, x3, ?_⟩
  show ay_M33 0 (ρ 0) (ρ 1) (ρ 8) (ρ 2) (ρ 6) 4 (ay_at hp 194) (ay_at hp 181) (ay_at hp 174)
  refine ⟨fun _ => by omega, ?_⟩
  show ay_nx 0 (ρ 1 / 4) (ay_at hp 194) (ay_at hp 181) (ay_at hp 174) (ay_pt 0 (ρ 0 / 4) (ρ 1 / 4) (ay_at hp 194) (ay_at hp 181) (ay_at hp 174) (ρ 2 / 4)) = _
  rw [x5]
  unfold ay_nx
  dsimp only
  rw [show ρ 5 / 4 = c by omega, if_pos (by omega), hto, show ρ 4 / 4 = s by omega, hbh, show ρ 6 / 4 = t by omega]
  show (4 * t / 4, 1, if 4 * t / 4 = ρ 1 / 4 then some 17179869180 else ay_at hp 194 (ay_k (ρ 1 / 4) (4 * t / 4) 1)) = _
  rw [d4]
theorem axq0_pb10 : ax_RO ax_wM0 (ax_XM 0) axu0_pb10 := by
  intro ρ hp hE hT
  obtain ⟨x1, x2, x3, x4, x5⟩ : ay_ex hp 194 ∧ ay_ex hp 181 ∧ ay_ex hp 174 ∧ ay_M31 0 (ρ 0) (ρ 1) (ρ 8) (ρ 2) (ρ 3) (ρ 4) (ρ 5) (ay_at hp 194) (ay_at hp 181) (ay_at hp 174) := (ax_XF_lt (by decide)).mp (ax_gx hE (31, [3, 7, 35, 11, 15, 19, 23]) (by decide))
  obtain ⟨n, hn, n1, n2, n3⟩ := ax_gi hE 2 2147483648 4294967295 (by decide) rfl
  obtain ⟨n4, n5⟩ := ax_bi_pos n1 (by omega)
  obtain ⟨s, hs, s1, s2, s3⟩ := ax_gi hE 4 2147483648 2147483648 (by decide) rfl
  obtain ⟨s4, s5⟩ := ax_bi_pos s1 (by omega)
  obtain ⟨c, hc, c1, c2, c3⟩ := ax_gi hE 5 2147483648 2147483687 (by decide) rfl
  obtain ⟨c4, c5⟩ := ax_bi_pos c1 (by omega)
  obtain ⟨t, ht, t1, t2, t3⟩ := ax_gi hE 6 2147483648 2147483657 (by decide) rfl
  obtain ⟨t4, t5⟩ := ax_bi_pos t1 (by omega)
  have d4 : ∀ z : Nat, 4 * z / 4 = z := fun z => by omega
  obtain ⟨x, hx, xx1, xx2, xx3⟩ := ax_gi hE 7 0 4294967295 (by decide) rfl
  obtain ⟨i, hi, i1, i2, i3⟩ := ax_gi hE 8 0 4294967295 (by decide) rfl
  have hlt : rx_bi (ρ 2 / 4) < rx_bi (ρ 8 / 4) := ax_gc hE 2 11 35 (by decide) (by decide)
  rw [hn, hi, d4, d4, n5, ax_bi_def] at hlt
  have hs0 : s = 0 := by omega
  have hq : ρ 9 = 4 * (c / 2) := ay_q hE 23 39 hc (by omega) (by decide)
  have hr := ay_r hE 23 43 hc (by omega) (by decide)
  have hr2 := ay_d hE 59 43 4 (c := 1) (by decide) hr (ax_vl_c (v := 4) (by decide)) (by omega) (by decide)
  have hj2 := ay_ix hE 0 39 47 51 59 55 (k := 0) (ax_vl_c (v := 0) (by decide)) (by decide) hq (by omega) hr2 (by omega) (by decide) (by decide) (by decide)
  have hjq : ρ 15 = 4 * (20 + c / 2) := ay_s hE 80 39 63 (a := 20) (by decide) (ax_vl_c (v := 80) (by decide)) hq (by decide) (by omega)
  have f1 := ay_gf hE 734 55 27 181 (by decide) (by rw [ax_vl_c (by decide)])
  have f2 := ay_gf hE 706 63 31 174 (by decide) (by rw [ax_vl_c (by decide)])
  replace f1 : ay_at hp 181 (ax_vl ρ 55 / 4) = some (ρ 6) := f1
  replace f2 : ay_at hp 174 (ρ 15 / 4) = some (ρ 7) := f2
  have htx : rx_bi (ρ 6 / 4) = rx_bi (ρ 7 / 4) := ax_gc hE 0 27 31 (by decide) (by decide)
  rw [ht, hx, d4, d4] at htx
  rw [hj2, d4, ht] at f1
  rw [hjq, d4, hx] at f2
  have hto : ay_at hp 181 (ay_to 0 c) = some (4 * t) := by
    unfold ay_to
    exact f1
  have hup : ay_up 0 (ay_at hp 181) (ay_at hp 174) c = true := by
    unfold ay_up
    rw [hto, f2]
    exact decide_eq_true (by rw [ax_bi_def, ax_bi_def] at htx; rw [show t = x by omega])
  have hbh : ay_bh s (ay_up 0 (ay_at hp 181) (ay_at hp 174) c) = 0 := by
    unfold ay_bh
    rw [hup, hs0]
    rfl
  refine ⟨(fun y hy => by cases hy), _, List.mem_cons_self, ρ, fun _ _ => rfl, ax_px hE (by decide) (fun y hy => ?_)⟩
  cases List.mem_singleton.mp hy
  refine (ax_XF_lt (x := 33) (by decide)).mpr ⟨x1, x2, x3, ?_⟩
  show ay_M33 0 (ρ 0) (ρ 1) (ρ 8) (ρ 2) (ρ 6) 0 (ay_at hp 194) (ay_at hp 181) (ay_at hp 174)
  refine ⟨fun _ => by omega, ?_⟩
  show ay_nx 0 (ρ 1 / 4) (ay_at hp 194) (ay_at hp 181) (ay_at hp 174) (ay_pt 0 (ρ 0 / 4) (ρ 1 / 4) (ay_at hp 194) (ay_at hp 181) (ay_at hp 174) (ρ 2 / 4)) = _
  rw [x5]
  unfold ay_nx
  dsimp only
  rw [show ρ 5 / 4 = c by omega, if_pos (by omega), hto, show ρ 4 / 4 = s by omega, hbh, show ρ 6 / 4 = t by omega]
  show (4 * t / 4, 0, if 4 * t / 4 = ρ 1 / 4 then some 17179869180 else ay_at hp 194 (ay_k (ρ 1 / 4) (4 * t / 4) 0)) = _
  rw [d4]
theorem axq0_pb11 : ax_RO ax_wM0 (ax_XM 0) axu0_pb11 := by
  intro ρ hp hE hT
  obtain ⟨x1, x2, x3, x4, x5⟩ : ay_ex hp 194 ∧ ay_ex hp 181 ∧ ay_ex hp 174 ∧ ay_M31 0 (ρ 0) (ρ 1) (ρ 8) (ρ 2) (ρ 3) (ρ 4) (ρ 5) (ay_at hp 194) (ay_at hp 181) (ay_at hp 174) := (ax_XF_lt (by decide)).mp (ax_gx hE (31, [3, 7, 35, 11, 15, 19, 23]) (by decide))
  obtain ⟨n, hn, n1, n2, n3⟩ := ax_gi hE 2 2147483648 4294967295 (by decide) rfl
  obtain ⟨n4, n5⟩ := ax_bi_pos n1 (by omega)
  obtain ⟨s, hs, s1, s2, s3⟩ := ax_gi hE 4 2147483649 2147483649 (by decide) rfl
  obtain ⟨s4, s5⟩ := ax_bi_pos s1 (by omega)
  obtain ⟨c, hc, c1, c2, c3⟩ := ax_gi hE 5 2147483648 2147483687 (by decide) rfl
  obtain ⟨c4, c5⟩ := ax_bi_pos c1 (by omega)
  obtain ⟨t, ht, t1, t2, t3⟩ := ax_gi hE 6 2147483648 2147483657 (by decide) rfl
  obtain ⟨t4, t5⟩ := ax_bi_pos t1 (by omega)
  have d4 : ∀ z : Nat, 4 * z / 4 = z := fun z => by omega
  obtain ⟨x, hx, xx1, xx2, xx3⟩ := ax_gi hE 7 0 4294967295 (by decide) rfl
  obtain ⟨i, hi, i1, i2, i3⟩ := ax_gi hE 8 0 4294967295 (by decide) rfl
  have hlt : rx_bi (ρ 2 / 4) < rx_bi (ρ 8 / 4) := ax_gc hE 2 11 35 (by decide) (by decide)
  rw [hn, hi, d4, d4, n5, ax_bi_def] at hlt
  have hs1 : s = 1 := by omega
  have hq : ρ 9 = 4 * (c / 2) := ay_q hE 23 39 hc (by omega) (by decide)
  have hr := ay_r hE 23 43 hc (by omega) (by decide)
  have hr2 := ay_d hE 59 43 4 (c := 1) (by decide) hr (ax_vl_c (v := 4) (by decide)) (by omega) (by decide)
  have hj2 := ay_ix hE 0 39 47 51 59 55 (k := 0) (ax_vl_c (v := 0) (by decide)) (by decide) hq (by omega) hr2 (by omega) (by decide) (by decide) (by decide)
  have hjq : ρ 15 = 4 * (20 + c / 2) := ay_s hE 80 39 63 (a := 20) (by decide) (ax_vl_c (v := 80) (by decide)) hq (by decide) (by omega)
  have f1 := ay_gf hE 734 55 27 181 (by decide) (by rw [ax_vl_c (by decide)])
  have f2 := ay_gf hE 706 63 31 174 (by decide) (by rw [ax_vl_c (by decide)])
  replace f1 : ay_at hp 181 (ax_vl ρ 55 / 4) = some (ρ 6) := f1
  replace f2 : ay_at hp 174 (ρ 15 / 4) = some (ρ 7) := f2
  have htx : rx_bi (ρ 6 / 4) = rx_bi (ρ 7 / 4) := ax_gc hE 0 27 31 (by decide) (by decide)
  rw [ht, hx, d4, d4] at htx
  rw [hj2, d4, ht] at f1
  rw [hjq, d4, hx] at f2
  have hto : ay_at hp 181 (ay_to 0 c) = some (4 * t) := by
    unfold ay_to
    exact f1
  have hup : ay_up 0 (ay_at hp 181) (ay_at hp 174) c = true := by
    unfold ay_up
    rw [hto, f2]
    exact decide_eq_true (by rw [ax_bi_def, ax_bi_def] at htx; rw [show t = x by omega])
  have hbh : ay_bh s (ay_up 0 (ay_at hp 181) (ay_at hp 174) c) = 1 := by
    unfold ay_bh
    rw [hup, hs1]
    rfl
  refine ⟨(fun y hy => by cases hy), _, List.mem_cons_self, ρ, fun _ _ => rfl, ax_px hE (by decide) (fun y hy => ?_)⟩
  cases List.mem_singleton.mp hy
  refine (ax_XF_lt (x := 33) (by decide)).mpr ⟨x1, x2, x3, ?_⟩
  show ay_M33 0 (ρ 0) (ρ 1) (ρ 8) (ρ 2) (ρ 6) 4 (ay_at hp 194) (ay_at hp 181) (ay_at hp 174)
  refine ⟨fun _ => by omega, ?_⟩
  show ay_nx 0 (ρ 1 / 4) (ay_at hp 194) (ay_at hp 181) (ay_at hp 174) (ay_pt 0 (ρ 0 / 4) (ρ 1 / 4) (ay_at hp 194) (ay_at hp 181) (ay_at hp 174) (ρ 2 / 4)) = _
  rw [x5]
  unfold ay_nx
  dsimp only
  rw [show ρ 5 / 4 = c by omega, if_pos (by omega), hto, show ρ 4 / 4 = s by omega, hbh, show ρ 6 / 4 = t by omega]
  show (4 * t / 4, 1, if 4 * t / 4 = ρ 1 / 4 then some 17179869180 else ay_at hp 194 (ay_k (ρ 1 / 4) (4 * t / 4) 1)) = _
  rw [d4]
theorem axq0_pcE : ax_RO ax_wM0 (ax_XM 0) axu0_pcE := by
  intro ρ hp hE hT
  obtain ⟨x1, x2, x3, x4, x5⟩ : ay_ex hp 194 ∧ ay_ex hp 181 ∧ ay_ex hp 174 ∧ ay_M33 0 (ρ 0) (ρ 1) (ρ 5) (ρ 2) (ρ 4) (ρ 6) (ay_at hp 194) (ay_at hp 181) (ay_at hp 174) := (ax_XF_lt (by decide)).mp (ax_gx hE (33, [3, 7, 23, 11, 19, 27]) (by decide))
  obtain ⟨t, ht, t1, t2, t3⟩ := ax_gi hE 1 2147483648 2147483657 (by decide) rfl
  obtain ⟨t4, t5⟩ := ax_bi_pos t1 (by omega)
  obtain ⟨n, hn, n1, n2, n3⟩ := ax_gi hE 2 2147483648 4294967295 (by decide) rfl
  obtain ⟨n4, n5⟩ := ax_bi_pos n1 (by omega)
  obtain ⟨u, hu, u1, u2, u3⟩ := ax_gi hE 4 2147483648 2147483657 (by decide) rfl
  obtain ⟨u4, u5⟩ := ax_bi_pos u1 (by omega)
  obtain ⟨s, hs, s1, s2, s3⟩ := ax_gi hE 6 2147483648 2147483649 (by decide) rfl
  obtain ⟨s4, s5⟩ := ax_bi_pos s1 (by omega)
  have d4 : ∀ z : Nat, 4 * z / 4 = z := fun z => by omega
  have hn2 : ρ 3 = 4 * (n + 1) := ay_s hE 11 4 15 (b := 1) (by decide) hn (ax_vl_c (v := 4) (by decide)) n4 (by decide)
  have hut : rx_bi (ρ 4 / 4) = rx_bi (ρ 1 / 4) := ax_gc hE 0 19 7 (by decide) (by decide)
  rw [hu, ht, d4, d4] at hut
  refine ⟨(fun y hy => by cases hy), _, List.mem_cons_self, ρ, fun _ _ => rfl, ax_px hE (by decide) (fun y hy => ?_)⟩
  cases List.mem_singleton.mp hy
  refine (ax_XF_lt (x := 31) (by decide)).mpr ⟨x1, x2, x3, ?_⟩
  show ay_M31 0 (ρ 0) (ρ 1) (ρ 5) (ρ 3) (ρ 4) (ρ 6) (17179869180) (ay_at hp 194) (ay_at hp 181) (ay_at hp 174)
  have e3 : ρ 3 / 4 = ρ 2 / 4 + 1 := by omega
  unfold ay_M31
  rw [e3]
  refine ⟨x4, ?_⟩
  rw [x5, if_pos (by omega)]
theorem axq0_pcN : ax_RO ax_wM0 (ax_XM 0) axu0_pcN := by
  intro ρ hp hE hT
  obtain ⟨x1, x2, x3, x4, x5⟩ : ay_ex hp 194 ∧ ay_ex hp 181 ∧ ay_ex hp 174 ∧ ay_M33 0 (ρ 0) (ρ 1) (ρ 6) (ρ 2) (ρ 4) (ρ 7) (ay_at hp 194) (ay_at hp 181) (ay_at hp 174) := (ax_XF_lt (by decide)).mp (ax_gx hE (33, [3, 7, 27, 11, 19, 31]) (by decide))
  obtain ⟨t, ht, t1, t2, t3⟩ := ax_gi hE 1 2147483648 2147483657 (by decide) rfl
  obtain ⟨t4, t5⟩ := ax_bi_pos t1 (by omega)
  obtain ⟨n, hn, n1, n2, n3⟩ := ax_gi hE 2 2147483648 4294967295 (by decide) rfl
  obtain ⟨n4, n5⟩ := ax_bi_pos n1 (by omega)
  obtain ⟨u, hu, u1, u2, u3⟩ := ax_gi hE 4 2147483648 2147483657 (by decide) rfl
  obtain ⟨u4, u5⟩ := ax_bi_pos u1 (by omega)
  obtain ⟨s, hs, s1, s2, s3⟩ := ax_gi hE 7 2147483648 2147483649 (by decide) rfl
  obtain ⟨s4, s5⟩ := ax_bi_pos s1 (by omega)
  have d4 : ∀ z : Nat, 4 * z / 4 = z := fun z => by omega
  have hn2 : ρ 3 = 4 * (n + 1) := ay_s hE 11 4 15 (b := 1) (by decide) hn (ax_vl_c (v := 4) (by decide)) n4 (by decide)
  have hut : rx_bi (ρ 4 / 4) ≠ rx_bi (ρ 1 / 4) := ax_gc hE 1 19 7 (by decide) (by decide)
  rw [hu, ht, d4, d4] at hut
  have hk := ay_stt hE 7 35 19 39 43 31 47 ht (by omega) hu (by omega) hs (by omega) (by decide) (by decide) (by decide) (by decide)
  have f1 := ay_gf hE 786 47 23 194 (by decide) (by rw [ax_vl_c (by decide)])
  replace f1 : ay_at hp 194 (ax_vl ρ 47 / 4) = some (ρ 5) := f1
  rw [hk, d4] at f1
  refine ⟨(fun y hy => by cases hy), _, List.mem_cons_self, ρ, fun _ _ => rfl, ax_px hE (by decide) (fun y hy => ?_)⟩
  cases List.mem_singleton.mp hy
  refine (ax_XF_lt (x := 31) (by decide)).mpr ⟨x1, x2, x3, ?_⟩
  show ay_M31 0 (ρ 0) (ρ 1) (ρ 6) (ρ 3) (ρ 4) (ρ 7) (ρ 5) (ay_at hp 194) (ay_at hp 181) (ay_at hp 174)
  have e3 : ρ 3 / 4 = ρ 2 / 4 + 1 := by omega
  unfold ay_M31
  rw [e3]
  refine ⟨x4, ?_⟩
  rw [x5, if_neg (by omega), show ρ 1 / 4 = t by omega, show ρ 4 / 4 = u by omega, show ρ 7 / 4 = s by omega, f1]
theorem axq0_paA : ax_RO ax_wM0 (ax_XM 0) axu0_paA := by
  intro ρ hp hE hT
  obtain ⟨x1, x2, x3, x4, x5⟩ : ay_ex hp 194 ∧ ay_ex hp 181 ∧ ay_ex hp 174 ∧ ay_M31 0 (ρ 0) (ρ 1) (ρ 2) (ρ 3) (ρ 4) (ρ 5) (ρ 6) (ay_at hp 194) (ay_at hp 181) (ay_at hp 174) := (ax_XF_lt (by decide)).mp (ax_gx hE (31, [3, 7, 11, 15, 19, 23, 27]) (by decide))
  obtain ⟨c, hc, c1, c2, c3⟩ := ax_gi hE 6 2147483647 2147483647 (by decide) rfl
  have hneg : ¬ ρ 6 / 4 < 2147483648 := by
    intro z
    have hcz : c < 2147483648 := by omega
    rw [ax_bi_nat hcz] at c3
    omega
  refine ⟨(fun y hy => by cases hy), _, List.mem_cons_self, ρ, fun _ _ => rfl, ax_px hE (by decide) (fun y hy => ?_)⟩
  cases List.mem_singleton.mp hy
  refine (ax_XF_lt (x := 32) (by decide)).mpr ⟨x1, x2, x3, fun hi => ?_⟩
  show (ay_pt 0 (ρ 0 / 4) (ρ 1 / 4) (ay_at hp 194) (ay_at hp 181) (ay_at hp 174) (ρ 2 / 4)).2.2 = some (ρ 6)
  exact ay_pt_end hneg (by rw [x5]) _ (x4 hi)
theorem axq0_paB : ax_RO ax_wM0 (ax_XM 0) axu0_paB := by
  intro ρ hp hE hT
  obtain ⟨x1, x2, x3, x4, x5⟩ : ay_ex hp 194 ∧ ay_ex hp 181 ∧ ay_ex hp 174 ∧ ay_M31 0 (ρ 0) (ρ 1) (ρ 2) (ρ 3) (ρ 4) (ρ 5) (ρ 6) (ay_at hp 194) (ay_at hp 181) (ay_at hp 174) := (ax_XF_lt (by decide)).mp (ax_gx hE (31, [3, 7, 11, 15, 19, 23, 27]) (by decide))
  obtain ⟨n, hn, n1, n2, n3⟩ := ax_gi hE 3 2147483648 4294967295 (by decide) rfl
  obtain ⟨n4, n5⟩ := ax_bi_pos n1 (by omega)
  have d4 : ∀ z : Nat, 4 * z / 4 = z := fun z => by omega
  obtain ⟨i, hi, i1, i2, i3⟩ := ax_gi hE 2 0 4294967295 (by decide) rfl
  have hge : rx_bi (ρ 2 / 4) ≤ rx_bi (ρ 3 / 4) := ax_gc hE 3 15 11 (by decide) (by decide)
  rw [hn, hi, d4, d4, n5, ax_bi_def] at hge
  refine ⟨(fun y hy => by cases hy), _, List.mem_cons_self, ρ, fun _ _ => rfl, ax_px hE (by decide) (fun y hy => ?_)⟩
  cases List.mem_singleton.mp hy
  refine (ax_XF_lt (x := 32) (by decide)).mpr ⟨x1, x2, x3, fun h => ?_⟩
  replace h : ρ 2 / 4 < 2147483648 := h
  have h3 := x4 h
  show (ay_pt 0 (ρ 0 / 4) (ρ 1 / 4) (ay_at hp 194) (ay_at hp 181) (ay_at hp 174) (ρ 2 / 4)).2.2 = some (ρ 6)
  rw [show ρ 2 / 4 = ρ 3 / 4 by omega, x5]
theorem axq0_ll1 : ax_RO ax_wM0 (ax_XM 0) axu0_ll1 := by
  intro ρ hp hE hT
  obtain ⟨x1, x2, x3, x4⟩ : ay_ex hp 194 ∧ ay_ex hp 181 ∧ ay_ex hp 174 ∧ ay_M32 0 (ρ 0) (ρ 1) (ρ 2) (ρ 3) (ay_at hp 194) (ay_at hp 181) (ay_at hp 174) := (ax_XF_lt (by decide)).mp (ax_gx hE (32, [3, 7, 11, 15]) (by decide))
  obtain ⟨c, hc, c1, c2, c3⟩ := ax_gi hE 3 2147483648 2147483687 (by decide) rfl
  obtain ⟨c4, c5⟩ := ax_bi_pos c1 (by omega)
  refine ⟨(fun y hy => by cases hy), _, List.mem_cons_self, ρ, fun _ _ => rfl, ax_px hE (by decide) (fun y hy => ?_)⟩
  cases List.mem_singleton.mp hy
  refine (ax_XF_lt (x := 34) (by decide)).mpr ⟨x1, x2, x3, fun h => ⟨ρ 3, x4 h, by omega⟩⟩
theorem axq0_ll2 : ax_RO ax_wM0 (ax_XM 0) axu0_ll2 := by
  intro ρ hp hE hT
  obtain ⟨-, -, -, y4⟩ : ay_ex hp 194 ∧ ay_ex hp 181 ∧ ay_ex hp 174 ∧ ay_M34 0 (ρ 0) (ρ 1) (ρ 2) (ay_at hp 194) (ay_at hp 181) (ay_at hp 174) := (ax_XF_lt (by decide)).mp (ax_gx hE (34, [3, 7, 11]) (by decide))
  obtain ⟨x1, x2, x3, x4⟩ : ay_ex hp 194 ∧ ay_ex hp 181 ∧ ay_ex hp 174 ∧ ay_M32 0 (ρ 0) (ρ 1) (ρ 2) (ρ 3) (ay_at hp 194) (ay_at hp 181) (ay_at hp 174) := (ax_XF_lt (by decide)).mp (ax_gx hE (32, [3, 7, 11, 15]) (by decide))
  obtain ⟨i, hi, i1, i2, i3⟩ := ax_gi hE 2 2147483648 4294967295 (by decide) rfl
  obtain ⟨i4, i5⟩ := ax_bi_pos i1 (by omega)
  obtain ⟨c, h1, h2⟩ := y4 (by omega)
  have h3 := x4 (by omega)
  rw [h1] at h3
  have h3 := Option.some.inj h3
  obtain ⟨d, hd, d1, d2, d3⟩ := ax_gi hE 3 2147483647 2147483687 (by decide) rfl
  refine ⟨fun y hy => ?_, _, List.mem_cons_self, ρ, fun _ _ => rfl, ax_px hE (by decide) (fun y hy => by cases hy)⟩
  cases List.mem_singleton.mp hy
  show 2147483648 ≤ rx_bi (ρ 3 / 4) ∧ rx_bi (ρ 3 / 4) ≤ 2147483687
  have e : ρ 3 / 4 = d := by omega
  rw [e]
  rw [ax_bi_nat (c := d) (by omega)] at d3 ⊢
  omega
theorem axq0_ll3 : ax_RO ax_wM0 (ax_XM 0) axu0_ll3 := by
  intro ρ hp hE hT
  obtain ⟨-, -, -, y4⟩ : ay_ex hp 194 ∧ ay_ex hp 181 ∧ ay_ex hp 174 ∧ ay_M34 0 (ρ 0) (ρ 1) (ρ 2) (ay_at hp 194) (ay_at hp 181) (ay_at hp 174) := (ax_XF_lt (by decide)).mp (ax_gx hE (34, [3, 7, 11]) (by decide))
  obtain ⟨-, -, -, -, -, -, h24⟩ : ay_ex hp 194 ∧ ay_ex hp 191 ∧ ay_ex hp 181 ∧ ay_ex hp 174 ∧ ay_ex hp 175 ∧ ay_ex hp 176 ∧ ay_M24 0 (ay_at hp 194) (ay_at hp 191) (ay_at hp 181) (ay_at hp 174) (ay_at hp 175 0) (ay_at hp 176 0) := (ax_XF_lt (by decide)).mp (ax_gx hE (24, []) (by decide))
  obtain ⟨-, -, -, h25⟩ : ay_ex hp 181 ∧ ay_ex hp 175 ∧ ay_ex hp 176 ∧ ay_M25 0 (ay_at hp 181) (ay_at hp 175 0) (ay_at hp 176 0) := (ax_XF_lt (by decide)).mp (ax_gx hE (25, []) (by decide))
  obtain ⟨f, hf, f1, f2, f3⟩ := ax_gi hE 0 2147483648 2147483657 (by decide) rfl
  obtain ⟨f4, f5⟩ := ax_bi_pos f1 (by omega)
  obtain ⟨t, ht, t1, t2, t3⟩ := ax_gi hE 1 2147483648 2147483657 (by decide) rfl
  obtain ⟨t4, t5⟩ := ax_bi_pos t1 (by omega)
  obtain ⟨i, hi, i1, i2, i3⟩ := ax_gi hE 2 2147483648 4294967295 (by decide) rfl
  obtain ⟨i4, i5⟩ := ax_bi_pos i1 (by omega)
  obtain ⟨n, hn, n1, n2, n3⟩ := ax_gi hE 3 2147483648 2147483658 (by decide) rfl
  obtain ⟨n4, n5⟩ := ax_bi_pos n1 (by omega)
  have d4 : ∀ z : Nat, 4 * z / 4 = z := fun z => by omega
  have f1 := ay_gfj hE 710 0 15 175 0 (by decide) (by rw [ax_vl_c (by decide)]) (by rw [ax_vl_c (by decide)])
  replace f1 : ay_at hp 175 0 = some (ρ 3) := f1
  have hf1 : rx_bi (ρ 0 / 4) < rx_bi (ρ 3 / 4) := ax_gc hE 2 3 15 (by decide) (by decide)
  have ht1 : rx_bi (ρ 1 / 4) < rx_bi (ρ 3 / 4) := ax_gc hE 2 7 15 (by decide) (by decide)
  rw [hf, hn, d4, d4] at hf1
  rw [ht, hn, d4, d4] at ht1
  have hln : ay_ln (ay_at hp 175 0) = n := by rw [f1, hn]; show 4 * n / 4 = n; omega
  obtain ⟨c, h1, h2⟩ := y4 (by omega)
  have hint : ∀ j v, ay_at hp 194 j = some v → v % 4 = 0 := fun j v hv => (ay_int hT (q := 194) (g := 64) (n := 200) (lo := 2147483647) (hi := 2147483687) ax_cg_194 rfl hv).1
  obtain ⟨-, -, -, d, -, hd⟩ := ay_short hint h24 h25 (by rw [hln]; omega) (by rw [hln]; omega) (ρ 2 / 4) c h1 h2
  refine ⟨fun y hy => ?_, _, List.mem_cons_self, ρ, fun _ _ => rfl, ax_px hE (by decide) (fun y hy => by cases hy)⟩
  cases List.mem_singleton.mp hy
  show 2147483648 ≤ rx_bi (ρ 2 / 4) ∧ rx_bi (ρ 2 / 4) ≤ 2147583648
  rw [hi, d4]
  omega
