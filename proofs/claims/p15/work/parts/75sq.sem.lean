section
theorem axq1_lu0 : ax_RO ax_wM1 (ax_XM 1) axu1_lu0 := axqg_lu0 ax_WW1
theorem axq1_lu00 : ax_RO ax_wM1 (ax_XM 1) axu1_lu00 := by
  intro ρ hp hE hT
  obtain ⟨c, hc, c1, c2, c3⟩ := ax_gi hE 0 2147483648 2147483687 (by decide) rfl
  obtain ⟨c4, c5⟩ := ax_bi_pos c1 (by omega)
  obtain ⟨g, hg, g1, g2, g3⟩ := ax_gi hE 1 2147483648 2147483657 (by decide) rfl
  obtain ⟨g4, g5⟩ := ax_bi_pos g1 (by omega)
  obtain ⟨v, hv, v1, v2, v3⟩ := ax_gi hE 2 2147483648 2147483657 (by decide) rfl
  obtain ⟨v4, v5⟩ := ax_bi_pos v1 (by omega)
  obtain ⟨u, hu, u1, u2, u3⟩ := ax_gi hE 3 2147483648 2147483657 (by decide) rfl
  obtain ⟨u4, u5⟩ := ax_bi_pos u1 (by omega)
  obtain ⟨t, ht, t1, t2, t3⟩ := ax_gi hE 4 2147483648 2147483657 (by decide) rfl
  obtain ⟨t4, t5⟩ := ax_bi_pos t1 (by omega)
  obtain ⟨h, hh, h1, h2, h3⟩ := ax_gi hE 6 2147483648 2147583647 (by decide) rfl
  obtain ⟨h4, h5⟩ := ax_bi_pos h1 (by omega)
  obtain ⟨a, ha, a1, a2, a3⟩ := ax_gi hE 7 2147483648 2147583648 (by decide) rfl
  obtain ⟨a4, a5⟩ := ax_bi_pos a1 (by omega)
  obtain ⟨L, hL, L1, L2, L3⟩ := ax_gi hE 9 2147483648 2147483668 (by decide) rfl
  obtain ⟨L4, L5⟩ := ax_bi_pos L1 (by omega)
  obtain ⟨s, hs, s1, s2, s3⟩ := ax_gi hE 11 2147483648 2147483648 (by decide) rfl
  obtain ⟨s4, s5⟩ := ax_bi_pos s1 (by omega)
  have d4 : ∀ z : Nat, 4 * z / 4 = z := fun z => by omega
  obtain ⟨x, hx, xx1, xx2, xx3⟩ := ax_gi hE 5 0 4294967295 (by decide) rfl
  have hs0 : s = 0 := by omega
  have hq : ρ 12 = 4 * (c / 2) := ay_q hE 3 51 hc (by omega) (by decide)
  have hr := ay_r hE 3 55 hc (by omega) (by decide)
  have hj1 := ay_ix hE 160 51 59 63 55 67 (k := 40) (ax_vl_c (v := 160) (by decide)) (by decide) hq (by omega) hr (by omega) (by decide) (by decide) (by decide)
  have hr2 := ay_d hE 71 55 4 (c := 1) (by decide) hr (ax_vl_c (v := 4) (by decide)) (by omega) (by decide)
  have hj2 := ay_ix hE 160 51 59 63 71 75 (k := 40) (ax_vl_c (v := 160) (by decide)) (by decide) hq (by omega) hr2 (by omega) (by decide) (by decide) (by decide)
  have hjq : ρ 19 = 4 * (20 + c / 2) := ay_s hE 80 51 79 (a := 20) (by decide) (ax_vl_c (v := 80) (by decide)) hq (by decide) (by omega)
  have hk1 := ay_stt hE 7 83 15 87 91 47 95 hg (by omega) hu (by omega) hs (by omega) (by decide) (by decide) (by decide) (by decide)
  have hk2 := ay_stt hE 7 99 19 103 107 4 111 (S := 1) hg (by omega) ht (by omega) (ax_vl_c (by decide)) (by decide) (by decide) (by decide) (by decide) (by decide)
  have hsm : ρ 8 = 4 * (1 + a) := ay_s hE 4 31 35 (a := 1) (by decide) (ax_vl_c (v := 4) (by decide)) ha (by decide) (by omega)
  have f1 := ay_gf hE 734 75 19 181 ax_m9 (ax_vlq rfl rfl)
  have f2 := ay_gf hE 706 79 23 174 ax_m11 (ax_vlq rfl rfl)
  have f3 := ay_gf hE 774 95 27 191 ax_m17 (ax_vlq rfl rfl)
  have f4 := ay_gf hE 774 111 31 191 ax_m22 (ax_vlq rfl rfl)
  have f5 := ay_gfj hE 714 4 39 176 1 ax_m25 (ax_vlq rfl rfl) (ax_vlj rfl rfl)
  replace f1 : ay_at hp 181 (ax_vl ρ 75 / 4) = some (ρ 4) := f1
  replace f2 : ay_at hp 174 (ρ 19 / 4) = some (ρ 5) := f2
  replace f3 : ay_at hp 191 (ax_vl ρ 95 / 4) = some (ρ 6) := f3
  replace f4 : ay_at hp 191 (ax_vl ρ 111 / 4) = some (ρ 7) := f4
  replace f5 : ay_at hp 176 1 = some (ρ 9) := f5
  have huv : rx_bi (ρ 3 / 4) = rx_bi (ρ 2 / 4) := ax_gc hE 0 15 11 (by decide) (by decide)
  have htx : rx_bi (ρ 4 / 4) ≠ rx_bi (ρ 5 / 4) := ax_gc hE 1 19 23 (by decide) (by decide)
  have hhs : rx_bi (ρ 6 / 4) = rx_bi (ρ 8 / 4) := ax_gc hE 0 27 35 (by decide) (by decide)
  have hcm : rx_bi (ρ 0 / 4) < rx_bi (ρ 10 / 4) := ax_gc hE 2 3 43 (by decide) (by decide)
  obtain ⟨m, m1, m2, m3⟩ := ay_mk hE 2 8 39 43 (by decide) (by decide)
  rw [show ax_vl ρ 39 = ρ 9 from rfl, hL, d4, ax_vl_c (by decide)] at m1
  replace m1 : some (8 / 4 * L % 4294967296) = some m := m1
  have m1 := Option.some.inj m1
  replace m3 : ρ 10 = 4 * m := m3
  rw [hu, hv, d4, d4] at huv
  rw [hh, hsm, d4, d4, ax_bi_nat (c := 1 + a) (by omega)] at hhs
  rw [hc, m3, d4, d4, ax_bi_nat (c := m) (by omega)] at hcm
  rw [ht, hx, d4, d4] at htx
  rw [hj2, d4, ht] at f1
  rw [hjq, d4, hx] at f2
  rw [hk1, d4, hh] at f3
  rw [hk2, d4, ha] at f4
  have huve : u = v := by omega
  subst huve
  have hto : ay_at hp 181 (ay_to 1 c) = some (4 * t) := by
    unfold ay_to
    exact f1
  have hup : ay_up 1 (ay_at hp 181) (ay_at hp 174) c = false := by
    unfold ay_up
    rw [hto, f2]
    exact decide_eq_false (fun z => htx (by have := Option.some.inj z; rw [show t = x by omega]))
  have hbh : ay_bh s (ay_up 1 (ay_at hp 181) (ay_at hp 174) c) = 1 := by
    unfold ay_bh
    rw [hup, hs0]
    rfl
  have hc4 : ρ 0 / 4 = c := by omega
  have hg4 : ρ 1 / 4 = g := by omega
  have hv4 : ρ 2 / 4 = u := by omega
  have hs4 : ρ 11 / 4 = s := by omega
  refine ⟨(fun y hy => by cases hy), _, List.mem_cons_self, ρ, fun _ _ => rfl, ax_px hE rfl (fun y hy => ?_)⟩
  cases List.mem_singleton.mp hy
  refine (ax_XF_lt (x := 28) (Nat.le_of_ble_eq_true rfl)).mpr ⟨(ax_cellT hT (q := 191) (g := 61) (ax_wc ax_WW1 ax_cg_191)), (ax_cellT hT (q := 181) (g := 51) (ax_wc ax_WW1 ax_cg_181)), (ax_cellT hT (q := 174) (g := 44) (ax_wc ax_WW1 ax_cg_174)), (ax_cellT hT (q := 176) (g := 46) (ax_wc ax_WW1 ax_cg_176)), Or.inr ?_⟩
  show ay_led 1 (ay_at hp 191) (ay_at hp 181) (ay_at hp 174) (ay_at hp 176 1) (ρ 1 / 4) (ρ 2 / 4) (ρ 11 / 4) (ρ 0 / 4)
  rw [hc4, hg4, hv4, hs4]
  refine ⟨by omega, ?_, t, a, h, hto, by omega, ?_, f3, by omega, by omega⟩
  · rw [f5]
    show c < 2 * (ρ 9 / 4)
    omega
  · rw [hbh]
    exact f4
theorem axq1_lu01 : ax_RO ax_wM1 (ax_XM 1) axu1_lu01 := by
  intro ρ hp hE hT
  obtain ⟨c, hc, c1, c2, c3⟩ := ax_gi hE 0 2147483648 2147483687 (by decide) rfl
  obtain ⟨c4, c5⟩ := ax_bi_pos c1 (by omega)
  obtain ⟨g, hg, g1, g2, g3⟩ := ax_gi hE 1 2147483648 2147483657 (by decide) rfl
  obtain ⟨g4, g5⟩ := ax_bi_pos g1 (by omega)
  obtain ⟨v, hv, v1, v2, v3⟩ := ax_gi hE 2 2147483648 2147483657 (by decide) rfl
  obtain ⟨v4, v5⟩ := ax_bi_pos v1 (by omega)
  obtain ⟨u, hu, u1, u2, u3⟩ := ax_gi hE 3 2147483648 2147483657 (by decide) rfl
  obtain ⟨u4, u5⟩ := ax_bi_pos u1 (by omega)
  obtain ⟨t, ht, t1, t2, t3⟩ := ax_gi hE 4 2147483648 2147483657 (by decide) rfl
  obtain ⟨t4, t5⟩ := ax_bi_pos t1 (by omega)
  obtain ⟨h, hh, h1, h2, h3⟩ := ax_gi hE 6 2147483648 2147583647 (by decide) rfl
  obtain ⟨h4, h5⟩ := ax_bi_pos h1 (by omega)
  obtain ⟨a, ha, a1, a2, a3⟩ := ax_gi hE 7 2147483648 2147583648 (by decide) rfl
  obtain ⟨a4, a5⟩ := ax_bi_pos a1 (by omega)
  obtain ⟨L, hL, L1, L2, L3⟩ := ax_gi hE 9 2147483648 2147483668 (by decide) rfl
  obtain ⟨L4, L5⟩ := ax_bi_pos L1 (by omega)
  obtain ⟨s, hs, s1, s2, s3⟩ := ax_gi hE 11 2147483649 2147483649 (by decide) rfl
  obtain ⟨s4, s5⟩ := ax_bi_pos s1 (by omega)
  have d4 : ∀ z : Nat, 4 * z / 4 = z := fun z => by omega
  obtain ⟨x, hx, xx1, xx2, xx3⟩ := ax_gi hE 5 0 4294967295 (by decide) rfl
  have hs1 : s = 1 := by omega
  have hq : ρ 12 = 4 * (c / 2) := ay_q hE 3 51 hc (by omega) (by decide)
  have hr := ay_r hE 3 55 hc (by omega) (by decide)
  have hj1 := ay_ix hE 160 51 59 63 55 67 (k := 40) (ax_vl_c (v := 160) (by decide)) (by decide) hq (by omega) hr (by omega) (by decide) (by decide) (by decide)
  have hr2 := ay_d hE 71 55 4 (c := 1) (by decide) hr (ax_vl_c (v := 4) (by decide)) (by omega) (by decide)
  have hj2 := ay_ix hE 160 51 59 63 71 75 (k := 40) (ax_vl_c (v := 160) (by decide)) (by decide) hq (by omega) hr2 (by omega) (by decide) (by decide) (by decide)
  have hjq : ρ 19 = 4 * (20 + c / 2) := ay_s hE 80 51 79 (a := 20) (by decide) (ax_vl_c (v := 80) (by decide)) hq (by decide) (by omega)
  have hk1 := ay_stt hE 7 83 15 87 91 47 95 hg (by omega) hu (by omega) hs (by omega) (by decide) (by decide) (by decide) (by decide)
  have hk2 := ay_stt hE 7 99 19 103 107 4 111 (S := 1) hg (by omega) ht (by omega) (ax_vl_c (by decide)) (by decide) (by decide) (by decide) (by decide) (by decide)
  have hsm : ρ 8 = 4 * (1 + a) := ay_s hE 4 31 35 (a := 1) (by decide) (ax_vl_c (v := 4) (by decide)) ha (by decide) (by omega)
  have f1 := ay_gf hE 734 75 19 181 ax_m9 (ax_vlq rfl rfl)
  have f2 := ay_gf hE 706 79 23 174 ax_m11 (ax_vlq rfl rfl)
  have f3 := ay_gf hE 774 95 27 191 ax_m17 (ax_vlq rfl rfl)
  have f4 := ay_gf hE 774 111 31 191 ax_m22 (ax_vlq rfl rfl)
  have f5 := ay_gfj hE 714 4 39 176 1 ax_m25 (ax_vlq rfl rfl) (ax_vlj rfl rfl)
  replace f1 : ay_at hp 181 (ax_vl ρ 75 / 4) = some (ρ 4) := f1
  replace f2 : ay_at hp 174 (ρ 19 / 4) = some (ρ 5) := f2
  replace f3 : ay_at hp 191 (ax_vl ρ 95 / 4) = some (ρ 6) := f3
  replace f4 : ay_at hp 191 (ax_vl ρ 111 / 4) = some (ρ 7) := f4
  replace f5 : ay_at hp 176 1 = some (ρ 9) := f5
  have huv : rx_bi (ρ 3 / 4) = rx_bi (ρ 2 / 4) := ax_gc hE 0 15 11 (by decide) (by decide)
  have htx : rx_bi (ρ 4 / 4) ≠ rx_bi (ρ 5 / 4) := ax_gc hE 1 19 23 (by decide) (by decide)
  have hhs : rx_bi (ρ 6 / 4) = rx_bi (ρ 8 / 4) := ax_gc hE 0 27 35 (by decide) (by decide)
  have hcm : rx_bi (ρ 0 / 4) < rx_bi (ρ 10 / 4) := ax_gc hE 2 3 43 (by decide) (by decide)
  obtain ⟨m, m1, m2, m3⟩ := ay_mk hE 2 8 39 43 (by decide) (by decide)
  rw [show ax_vl ρ 39 = ρ 9 from rfl, hL, d4, ax_vl_c (by decide)] at m1
  replace m1 : some (8 / 4 * L % 4294967296) = some m := m1
  have m1 := Option.some.inj m1
  replace m3 : ρ 10 = 4 * m := m3
  rw [hu, hv, d4, d4] at huv
  rw [hh, hsm, d4, d4, ax_bi_nat (c := 1 + a) (by omega)] at hhs
  rw [hc, m3, d4, d4, ax_bi_nat (c := m) (by omega)] at hcm
  rw [ht, hx, d4, d4] at htx
  rw [hj2, d4, ht] at f1
  rw [hjq, d4, hx] at f2
  rw [hk1, d4, hh] at f3
  rw [hk2, d4, ha] at f4
  have huve : u = v := by omega
  subst huve
  have hto : ay_at hp 181 (ay_to 1 c) = some (4 * t) := by
    unfold ay_to
    exact f1
  have hup : ay_up 1 (ay_at hp 181) (ay_at hp 174) c = false := by
    unfold ay_up
    rw [hto, f2]
    exact decide_eq_false (fun z => htx (by have := Option.some.inj z; rw [show t = x by omega]))
  have hbh : ay_bh s (ay_up 1 (ay_at hp 181) (ay_at hp 174) c) = 1 := by
    unfold ay_bh
    rw [hup, hs1]
    rfl
  have hc4 : ρ 0 / 4 = c := by omega
  have hg4 : ρ 1 / 4 = g := by omega
  have hv4 : ρ 2 / 4 = u := by omega
  have hs4 : ρ 11 / 4 = s := by omega
  refine ⟨(fun y hy => by cases hy), _, List.mem_cons_self, ρ, fun _ _ => rfl, ax_px hE rfl (fun y hy => ?_)⟩
  cases List.mem_singleton.mp hy
  refine (ax_XF_lt (x := 28) (Nat.le_of_ble_eq_true rfl)).mpr ⟨(ax_cellT hT (q := 191) (g := 61) (ax_wc ax_WW1 ax_cg_191)), (ax_cellT hT (q := 181) (g := 51) (ax_wc ax_WW1 ax_cg_181)), (ax_cellT hT (q := 174) (g := 44) (ax_wc ax_WW1 ax_cg_174)), (ax_cellT hT (q := 176) (g := 46) (ax_wc ax_WW1 ax_cg_176)), Or.inr ?_⟩
  show ay_led 1 (ay_at hp 191) (ay_at hp 181) (ay_at hp 174) (ay_at hp 176 1) (ρ 1 / 4) (ρ 2 / 4) (ρ 11 / 4) (ρ 0 / 4)
  rw [hc4, hg4, hv4, hs4]
  refine ⟨by omega, ?_, t, a, h, hto, by omega, ?_, f3, by omega, by omega⟩
  · rw [f5]
    show c < 2 * (ρ 9 / 4)
    omega
  · rw [hbh]
    exact f4
theorem axq1_lu10 : ax_RO ax_wM1 (ax_XM 1) axu1_lu10 := by
  intro ρ hp hE hT
  obtain ⟨c, hc, c1, c2, c3⟩ := ax_gi hE 0 2147483648 2147483687 (by decide) rfl
  obtain ⟨c4, c5⟩ := ax_bi_pos c1 (by omega)
  obtain ⟨g, hg, g1, g2, g3⟩ := ax_gi hE 1 2147483648 2147483657 (by decide) rfl
  obtain ⟨g4, g5⟩ := ax_bi_pos g1 (by omega)
  obtain ⟨v, hv, v1, v2, v3⟩ := ax_gi hE 2 2147483648 2147483657 (by decide) rfl
  obtain ⟨v4, v5⟩ := ax_bi_pos v1 (by omega)
  obtain ⟨u, hu, u1, u2, u3⟩ := ax_gi hE 3 2147483648 2147483657 (by decide) rfl
  obtain ⟨u4, u5⟩ := ax_bi_pos u1 (by omega)
  obtain ⟨t, ht, t1, t2, t3⟩ := ax_gi hE 4 2147483648 2147483657 (by decide) rfl
  obtain ⟨t4, t5⟩ := ax_bi_pos t1 (by omega)
  obtain ⟨h, hh, h1, h2, h3⟩ := ax_gi hE 6 2147483648 2147583647 (by decide) rfl
  obtain ⟨h4, h5⟩ := ax_bi_pos h1 (by omega)
  obtain ⟨a, ha, a1, a2, a3⟩ := ax_gi hE 7 2147483648 2147583648 (by decide) rfl
  obtain ⟨a4, a5⟩ := ax_bi_pos a1 (by omega)
  obtain ⟨L, hL, L1, L2, L3⟩ := ax_gi hE 9 2147483648 2147483668 (by decide) rfl
  obtain ⟨L4, L5⟩ := ax_bi_pos L1 (by omega)
  obtain ⟨s, hs, s1, s2, s3⟩ := ax_gi hE 11 2147483648 2147483648 (by decide) rfl
  obtain ⟨s4, s5⟩ := ax_bi_pos s1 (by omega)
  have d4 : ∀ z : Nat, 4 * z / 4 = z := fun z => by omega
  obtain ⟨x, hx, xx1, xx2, xx3⟩ := ax_gi hE 5 0 4294967295 (by decide) rfl
  have hs0 : s = 0 := by omega
  have hq : ρ 12 = 4 * (c / 2) := ay_q hE 3 51 hc (by omega) (by decide)
  have hr := ay_r hE 3 55 hc (by omega) (by decide)
  have hj1 := ay_ix hE 160 51 59 63 55 67 (k := 40) (ax_vl_c (v := 160) (by decide)) (by decide) hq (by omega) hr (by omega) (by decide) (by decide) (by decide)
  have hr2 := ay_d hE 71 55 4 (c := 1) (by decide) hr (ax_vl_c (v := 4) (by decide)) (by omega) (by decide)
  have hj2 := ay_ix hE 160 51 59 63 71 75 (k := 40) (ax_vl_c (v := 160) (by decide)) (by decide) hq (by omega) hr2 (by omega) (by decide) (by decide) (by decide)
  have hjq : ρ 19 = 4 * (20 + c / 2) := ay_s hE 80 51 79 (a := 20) (by decide) (ax_vl_c (v := 80) (by decide)) hq (by decide) (by omega)
  have hk1 := ay_stt hE 7 83 15 87 91 47 95 hg (by omega) hu (by omega) hs (by omega) (by decide) (by decide) (by decide) (by decide)
  have hk2 := ay_stt hE 7 99 19 103 107 0 111 (S := 0) hg (by omega) ht (by omega) (ax_vl_c (by decide)) (by decide) (by decide) (by decide) (by decide) (by decide)
  have hsm : ρ 8 = 4 * (1 + a) := ay_s hE 4 31 35 (a := 1) (by decide) (ax_vl_c (v := 4) (by decide)) ha (by decide) (by omega)
  have f1 := ay_gf hE 734 75 19 181 ax_m9 (ax_vlq rfl rfl)
  have f2 := ay_gf hE 706 79 23 174 ax_m11 (ax_vlq rfl rfl)
  have f3 := ay_gf hE 774 95 27 191 ax_m17 (ax_vlq rfl rfl)
  have f4 := ay_gf hE 774 111 31 191 ax_m22 (ax_vlq rfl rfl)
  have f5 := ay_gfj hE 714 4 39 176 1 ax_m25 (ax_vlq rfl rfl) (ax_vlj rfl rfl)
  replace f1 : ay_at hp 181 (ax_vl ρ 75 / 4) = some (ρ 4) := f1
  replace f2 : ay_at hp 174 (ρ 19 / 4) = some (ρ 5) := f2
  replace f3 : ay_at hp 191 (ax_vl ρ 95 / 4) = some (ρ 6) := f3
  replace f4 : ay_at hp 191 (ax_vl ρ 111 / 4) = some (ρ 7) := f4
  replace f5 : ay_at hp 176 1 = some (ρ 9) := f5
  have huv : rx_bi (ρ 3 / 4) = rx_bi (ρ 2 / 4) := ax_gc hE 0 15 11 (by decide) (by decide)
  have htx : rx_bi (ρ 4 / 4) = rx_bi (ρ 5 / 4) := ax_gc hE 0 19 23 (by decide) (by decide)
  have hhs : rx_bi (ρ 6 / 4) = rx_bi (ρ 8 / 4) := ax_gc hE 0 27 35 (by decide) (by decide)
  have hcm : rx_bi (ρ 0 / 4) < rx_bi (ρ 10 / 4) := ax_gc hE 2 3 43 (by decide) (by decide)
  obtain ⟨m, m1, m2, m3⟩ := ay_mk hE 2 8 39 43 (by decide) (by decide)
  rw [show ax_vl ρ 39 = ρ 9 from rfl, hL, d4, ax_vl_c (by decide)] at m1
  replace m1 : some (8 / 4 * L % 4294967296) = some m := m1
  have m1 := Option.some.inj m1
  replace m3 : ρ 10 = 4 * m := m3
  rw [hu, hv, d4, d4] at huv
  rw [hh, hsm, d4, d4, ax_bi_nat (c := 1 + a) (by omega)] at hhs
  rw [hc, m3, d4, d4, ax_bi_nat (c := m) (by omega)] at hcm
  rw [ht, hx, d4, d4] at htx
  rw [hj2, d4, ht] at f1
  rw [hjq, d4, hx] at f2
  rw [hk1, d4, hh] at f3
  rw [hk2, d4, ha] at f4
  have huve : u = v := by omega
  subst huve
  have hto : ay_at hp 181 (ay_to 1 c) = some (4 * t) := by
    unfold ay_to
    exact f1
  have hup : ay_up 1 (ay_at hp 181) (ay_at hp 174) c = true := by
    unfold ay_up
    rw [hto, f2]
    exact decide_eq_true (by rw [ax_bi_def, ax_bi_def] at htx; rw [show t = x by omega])
  have hbh : ay_bh s (ay_up 1 (ay_at hp 181) (ay_at hp 174) c) = 0 := by
    unfold ay_bh
    rw [hup, hs0]
    rfl
  have hc4 : ρ 0 / 4 = c := by omega
  have hg4 : ρ 1 / 4 = g := by omega
  have hv4 : ρ 2 / 4 = u := by omega
  have hs4 : ρ 11 / 4 = s := by omega
  refine ⟨(fun y hy => by cases hy), _, List.mem_cons_self, ρ, fun _ _ => rfl, ax_px hE rfl (fun y hy => ?_)⟩
  cases List.mem_singleton.mp hy
  refine (ax_XF_lt (x := 28) (Nat.le_of_ble_eq_true rfl)).mpr ⟨(ax_cellT hT (q := 191) (g := 61) (ax_wc ax_WW1 ax_cg_191)), (ax_cellT hT (q := 181) (g := 51) (ax_wc ax_WW1 ax_cg_181)), (ax_cellT hT (q := 174) (g := 44) (ax_wc ax_WW1 ax_cg_174)), (ax_cellT hT (q := 176) (g := 46) (ax_wc ax_WW1 ax_cg_176)), Or.inr ?_⟩
  show ay_led 1 (ay_at hp 191) (ay_at hp 181) (ay_at hp 174) (ay_at hp 176 1) (ρ 1 / 4) (ρ 2 / 4) (ρ 11 / 4) (ρ 0 / 4)
  rw [hc4, hg4, hv4, hs4]
  refine ⟨by omega, ?_, t, a, h, hto, by omega, ?_, f3, by omega, by omega⟩
  · rw [f5]
    show c < 2 * (ρ 9 / 4)
    omega
  · rw [hbh]
    exact f4
theorem axq1_lu11 : ax_RO ax_wM1 (ax_XM 1) axu1_lu11 := by
  intro ρ hp hE hT
  obtain ⟨c, hc, c1, c2, c3⟩ := ax_gi hE 0 2147483648 2147483687 (by decide) rfl
  obtain ⟨c4, c5⟩ := ax_bi_pos c1 (by omega)
  obtain ⟨g, hg, g1, g2, g3⟩ := ax_gi hE 1 2147483648 2147483657 (by decide) rfl
  obtain ⟨g4, g5⟩ := ax_bi_pos g1 (by omega)
  obtain ⟨v, hv, v1, v2, v3⟩ := ax_gi hE 2 2147483648 2147483657 (by decide) rfl
  obtain ⟨v4, v5⟩ := ax_bi_pos v1 (by omega)
  obtain ⟨u, hu, u1, u2, u3⟩ := ax_gi hE 3 2147483648 2147483657 (by decide) rfl
  obtain ⟨u4, u5⟩ := ax_bi_pos u1 (by omega)
  obtain ⟨t, ht, t1, t2, t3⟩ := ax_gi hE 4 2147483648 2147483657 (by decide) rfl
  obtain ⟨t4, t5⟩ := ax_bi_pos t1 (by omega)
  obtain ⟨h, hh, h1, h2, h3⟩ := ax_gi hE 6 2147483648 2147583647 (by decide) rfl
  obtain ⟨h4, h5⟩ := ax_bi_pos h1 (by omega)
  obtain ⟨a, ha, a1, a2, a3⟩ := ax_gi hE 7 2147483648 2147583648 (by decide) rfl
  obtain ⟨a4, a5⟩ := ax_bi_pos a1 (by omega)
  obtain ⟨L, hL, L1, L2, L3⟩ := ax_gi hE 9 2147483648 2147483668 (by decide) rfl
  obtain ⟨L4, L5⟩ := ax_bi_pos L1 (by omega)
  obtain ⟨s, hs, s1, s2, s3⟩ := ax_gi hE 11 2147483649 2147483649 (by decide) rfl
  obtain ⟨s4, s5⟩ := ax_bi_pos s1 (by omega)
  have d4 : ∀ z : Nat, 4 * z / 4 = z := fun z => by omega
  obtain ⟨x, hx, xx1, xx2, xx3⟩ := ax_gi hE 5 0 4294967295 (by decide) rfl
  have hs1 : s = 1 := by omega
  have hq : ρ 12 = 4 * (c / 2) := ay_q hE 3 51 hc (by omega) (by decide)
  have hr := ay_r hE 3 55 hc (by omega) (by decide)
  have hj1 := ay_ix hE 160 51 59 63 55 67 (k := 40) (ax_vl_c (v := 160) (by decide)) (by decide) hq (by omega) hr (by omega) (by decide) (by decide) (by decide)
  have hr2 := ay_d hE 71 55 4 (c := 1) (by decide) hr (ax_vl_c (v := 4) (by decide)) (by omega) (by decide)
  have hj2 := ay_ix hE 160 51 59 63 71 75 (k := 40) (ax_vl_c (v := 160) (by decide)) (by decide) hq (by omega) hr2 (by omega) (by decide) (by decide) (by decide)
  have hjq : ρ 19 = 4 * (20 + c / 2) := ay_s hE 80 51 79 (a := 20) (by decide) (ax_vl_c (v := 80) (by decide)) hq (by decide) (by omega)
  have hk1 := ay_stt hE 7 83 15 87 91 47 95 hg (by omega) hu (by omega) hs (by omega) (by decide) (by decide) (by decide) (by decide)
  have hk2 := ay_stt hE 7 99 19 103 107 4 111 (S := 1) hg (by omega) ht (by omega) (ax_vl_c (by decide)) (by decide) (by decide) (by decide) (by decide) (by decide)
  have hsm : ρ 8 = 4 * (1 + a) := ay_s hE 4 31 35 (a := 1) (by decide) (ax_vl_c (v := 4) (by decide)) ha (by decide) (by omega)
  have f1 := ay_gf hE 734 75 19 181 ax_m9 (ax_vlq rfl rfl)
  have f2 := ay_gf hE 706 79 23 174 ax_m11 (ax_vlq rfl rfl)
  have f3 := ay_gf hE 774 95 27 191 ax_m17 (ax_vlq rfl rfl)
  have f4 := ay_gf hE 774 111 31 191 ax_m22 (ax_vlq rfl rfl)
  have f5 := ay_gfj hE 714 4 39 176 1 ax_m25 (ax_vlq rfl rfl) (ax_vlj rfl rfl)
  replace f1 : ay_at hp 181 (ax_vl ρ 75 / 4) = some (ρ 4) := f1
  replace f2 : ay_at hp 174 (ρ 19 / 4) = some (ρ 5) := f2
  replace f3 : ay_at hp 191 (ax_vl ρ 95 / 4) = some (ρ 6) := f3
  replace f4 : ay_at hp 191 (ax_vl ρ 111 / 4) = some (ρ 7) := f4
  replace f5 : ay_at hp 176 1 = some (ρ 9) := f5
  have huv : rx_bi (ρ 3 / 4) = rx_bi (ρ 2 / 4) := ax_gc hE 0 15 11 (by decide) (by decide)
  have htx : rx_bi (ρ 4 / 4) = rx_bi (ρ 5 / 4) := ax_gc hE 0 19 23 (by decide) (by decide)
  have hhs : rx_bi (ρ 6 / 4) = rx_bi (ρ 8 / 4) := ax_gc hE 0 27 35 (by decide) (by decide)
  have hcm : rx_bi (ρ 0 / 4) < rx_bi (ρ 10 / 4) := ax_gc hE 2 3 43 (by decide) (by decide)
  obtain ⟨m, m1, m2, m3⟩ := ay_mk hE 2 8 39 43 (by decide) (by decide)
  rw [show ax_vl ρ 39 = ρ 9 from rfl, hL, d4, ax_vl_c (by decide)] at m1
  replace m1 : some (8 / 4 * L % 4294967296) = some m := m1
  have m1 := Option.some.inj m1
  replace m3 : ρ 10 = 4 * m := m3
  rw [hu, hv, d4, d4] at huv
  rw [hh, hsm, d4, d4, ax_bi_nat (c := 1 + a) (by omega)] at hhs
  rw [hc, m3, d4, d4, ax_bi_nat (c := m) (by omega)] at hcm
  rw [ht, hx, d4, d4] at htx
  rw [hj2, d4, ht] at f1
  rw [hjq, d4, hx] at f2
  rw [hk1, d4, hh] at f3
  rw [hk2, d4, ha] at f4
  have huve : u = v := by omega
  subst huve
  have hto : ay_at hp 181 (ay_to 1 c) = some (4 * t) := by
    unfold ay_to
    exact f1
  have hup : ay_up 1 (ay_at hp 181) (ay_at hp 174) c = true := by
    unfold ay_up
    rw [hto, f2]
    exact decide_eq_true (by rw [ax_bi_def, ax_bi_def] at htx; rw [show t = x by omega])
  have hbh : ay_bh s (ay_up 1 (ay_at hp 181) (ay_at hp 174) c) = 1 := by
    unfold ay_bh
    rw [hup, hs1]
    rfl
  have hc4 : ρ 0 / 4 = c := by omega
  have hg4 : ρ 1 / 4 = g := by omega
  have hv4 : ρ 2 / 4 = u := by omega
  have hs4 : ρ 11 / 4 = s := by omega
  refine ⟨(fun y hy => by cases hy), _, List.mem_cons_self, ρ, fun _ _ => rfl, ax_px hE rfl (fun y hy => ?_)⟩
  cases List.mem_singleton.mp hy
  refine (ax_XF_lt (x := 28) (Nat.le_of_ble_eq_true rfl)).mpr ⟨(ax_cellT hT (q := 191) (g := 61) (ax_wc ax_WW1 ax_cg_191)), (ax_cellT hT (q := 181) (g := 51) (ax_wc ax_WW1 ax_cg_181)), (ax_cellT hT (q := 174) (g := 44) (ax_wc ax_WW1 ax_cg_174)), (ax_cellT hT (q := 176) (g := 46) (ax_wc ax_WW1 ax_cg_176)), Or.inr ?_⟩
  show ay_led 1 (ay_at hp 191) (ay_at hp 181) (ay_at hp 174) (ay_at hp 176 1) (ρ 1 / 4) (ρ 2 / 4) (ρ 11 / 4) (ρ 0 / 4)
  rw [hc4, hg4, hv4, hs4]
  refine ⟨by omega, ?_, t, a, h, hto, by omega, ?_, f3, by omega, by omega⟩
  · rw [f5]
    show c < 2 * (ρ 9 / 4)
    omega
  · rw [hbh]
    exact f4
theorem axq1_lt0 : ax_RO ax_wM1 (ax_XM 1) axu1_lt0 := axqg_lt0 ax_WW1
noncomputable def ay_no1 (hp : rx_H) : Nat := ay_ln (ay_at hp 175 1)
theorem ay_no1_le {hp : rx_H} (hT : ax_HT ax_wM1 hp) : ay_ln (ay_at hp 175 1) ≤ 10 := by
  obtain ⟨k', n', tl, f', b1, b2, b3, b4⟩ := hT.2 175 45 rfl
  rw [ay_eq b2]
  cases e : f'[1]? with
  | none => exact Nat.zero_le _
  | some v =>
    obtain ⟨t, t1, t2⟩ := b4 1 v e
    have hb : (ax_wM1.2.1[45]?).map (fun z => ax_at z.2.2 1) = some (some (0, 2147483648, 2147483658)) := rfl
    rw [show ax_wM1.2.1[45]? = some (k', n', tl) from b1] at hb
    have hb := Option.some.inj hb
    replace hb : ax_at tl 1 = some (0, 2147483648, 2147483658) := hb
    rw [t1] at hb
    have hb := Option.some.inj hb
    subst hb
    rcases t2 with ⟨-, q1, q2, q3, q4⟩ | ⟨q, -⟩ | ⟨q, -⟩ | ⟨q, -⟩
    · obtain ⟨r1, r2⟩ := ax_bi_pos q2 q3
      show v / 4 ≤ 10
      replace q4 : rx_bi (v / 4) ≤ 2147483658 := q4
      omega
    · cases q
    · cases q
    · cases q
theorem axq1_ltS : ax_RO ax_wM1 (ax_XM 1) axu1_ltS := by
  intro ρ hp hE hT
  obtain ⟨x1, x2, x3, x4, x5, x6, x7⟩ : ay_ex hp 194 ∧ ay_ex hp 191 ∧ ay_ex hp 181 ∧ ay_ex hp 174 ∧ ay_ex hp 175 ∧ ay_ex hp 176 ∧ ay_M29 1 (ρ 2) (ρ 3) (ρ 4) (ay_at hp 194) (ay_at hp 191) (ay_at hp 181) (ay_at hp 174) (ay_at hp 175 1) (ay_at hp 176 1) := (ax_XF_lt (x := 29) (Nat.le_of_ble_eq_true rfl)).mp (ax_gx hE (29, [11, 15, 19]) (by decide))
  obtain ⟨g, hg, g1, g2, g3⟩ := ax_gi hE 2 2147483648 2147483657 (by decide) rfl
  obtain ⟨g4, g5⟩ := ax_bi_pos g1 (by omega)
  obtain ⟨v, hv, v1, v2, v3⟩ := ax_gi hE 3 2147483648 2147483657 (by decide) rfl
  obtain ⟨v4, v5⟩ := ax_bi_pos v1 (by omega)
  obtain ⟨s, hs, s1, s2, s3⟩ := ax_gi hE 4 2147483648 2147483649 (by decide) rfl
  obtain ⟨s4, s5⟩ := ax_bi_pos s1 (by omega)
  have d4 : ∀ z : Nat, 4 * z / 4 = z := fun z => by omega
  obtain ⟨-, -, -, -, y5⟩ : ay_ex hp 191 ∧ ay_ex hp 181 ∧ ay_ex hp 174 ∧ ay_ex hp 176 ∧ ay_M28 1 (ρ 2) (ρ 3) (ρ 4) (ρ 0) (ay_at hp 191) (ay_at hp 181) (ay_at hp 174) (ay_at hp 176 1) := (ax_XF_lt (x := 28) (Nat.le_of_ble_eq_true rfl)).mp (ax_gx hE (28, [11, 15, 19, 3]) (by decide))
  have hc28 : ρ 0 / 4 < 2147483648 → ρ 0 % 4 = 0 → ay_led 1 (ay_at hp 191) (ay_at hp 181) (ay_at hp 174) (ay_at hp 176 1) g v s (ρ 0 / 4) := by
    intro h1 _
    rcases y5 with y5 | y5
    · omega
    · rw [hg, hv, hs, d4, d4, d4] at y5
      exact y5
  have hk : ρ 1 = 4 * ay_k g v s := ay_stt hE 11 23 15 27 31 19 7 hg (by omega) hv (by omega) hs (by omega) (by decide) (by decide) (by decide) (by decide)
  obtain ⟨nv, hnv⟩ := ay_some hT (q := 175) (g := 45) (n := 2) (ax_wc ax_WW1 ax_cg_175) (ax_wn ax_WW1 ax_cn_45) (j := 1) (by decide)
  have hno : ay_ln (ay_at hp 175 1) ≤ 10 := by
    obtain ⟨nn, hnn⟩ : ∃ nn, ay_no1 hp = nn := ⟨_, rfl⟩
    exact ay_no1_le hT
  obtain ⟨o, ho⟩ := ay_some hT (q := 194) (g := 64) (n := 200) (ax_wc ax_WW1 ax_cg_194) (ax_wn ax_WW1 ax_cn_64) (j := ρ 1 / 4) (by rw [hk, d4]; unfold ay_k; omega)
  have hup : ∀ j, ay_at (ax_upd hp 786 (ρ 1) (ρ 0)) 194 j = if j = ay_k g v s then some (ρ 0) else ay_at hp 194 j := fun j => by
    rw [ay_upd_eq hT.1 rfl ho, hk, d4]
  have e1 : ay_at (ax_upd hp 786 (ρ 1) (ρ 0)) 191 = ay_at hp 191 := funext (fun j => ay_upd_ne hT.1 (by decide) j)
  have e2 : ay_at (ax_upd hp 786 (ρ 1) (ρ 0)) 181 = ay_at hp 181 := funext (fun j => ay_upd_ne hT.1 (by decide) j)
  have e3 : ay_at (ax_upd hp 786 (ρ 1) (ρ 0)) 174 = ay_at hp 174 := funext (fun j => ay_upd_ne hT.1 (by decide) j)
  have e4 : ay_at (ax_upd hp 786 (ρ 1) (ρ 0)) 175 = ay_at hp 175 := funext (fun j => ay_upd_ne hT.1 (by decide) j)
  have e5 : ay_at (ax_upd hp 786 (ρ 1) (ρ 0)) 176 = ay_at hp 176 := funext (fun j => ay_upd_ne hT.1 (by decide) j)
  rw [hg, hv, hs] at x7
  refine ⟨(fun y hy => by cases hy), _, List.mem_cons_self, ρ, fun _ _ => rfl, ax_px hE rfl (fun y hy => ?_)⟩
  cases List.mem_singleton.mp hy
  show ax_XF (ax_XM 1) (500 + 30) [786, ρ 1, ρ 0, ρ 2, ρ 3, ρ 4] hp
  refine (ax_XF_wr (x := 30) (Nat.le_of_ble_eq_true rfl)).mpr ⟨ay_ex_upd hT.1 x1, ay_ex_upd hT.1 x2, ay_ex_upd hT.1 x3, ay_ex_upd hT.1 x4, ay_ex_upd hT.1 x5, ay_ex_upd hT.1 x6, ?_⟩
  rw [e1, e2, e3, e4, e5, hg, hv, hs]
  exact ay_ent (by omega) (by omega) (by omega) hno hup x7 hc28
theorem axq1_ltM : ax_RO ax_wM1 (ax_XM 1) axu1_ltM := by
  intro ρ hp hE hT
  obtain ⟨x1, x2, x3, x4, x5, x6, x7⟩ : ay_ex hp 194 ∧ ay_ex hp 191 ∧ ay_ex hp 181 ∧ ay_ex hp 174 ∧ ay_ex hp 175 ∧ ay_ex hp 176 ∧ ay_M29 1 (ρ 1) (ρ 2) (ρ 3) (ay_at hp 194) (ay_at hp 191) (ay_at hp 181) (ay_at hp 174) (ay_at hp 175 1) (ay_at hp 176 1) := (ax_XF_lt (x := 29) (Nat.le_of_ble_eq_true rfl)).mp (ax_gx hE (29, [7, 11, 15]) (by decide))
  obtain ⟨g, hg, g1, g2, g3⟩ := ax_gi hE 1 2147483648 2147483657 (by decide) rfl
  obtain ⟨g4, g5⟩ := ax_bi_pos g1 (by omega)
  obtain ⟨v, hv, v1, v2, v3⟩ := ax_gi hE 2 2147483648 2147483657 (by decide) rfl
  obtain ⟨v4, v5⟩ := ax_bi_pos v1 (by omega)
  obtain ⟨s, hs, s1, s2, s3⟩ := ax_gi hE 3 2147483648 2147483649 (by decide) rfl
  obtain ⟨s4, s5⟩ := ax_bi_pos s1 (by omega)
  have d4 : ∀ z : Nat, 4 * z / 4 = z := fun z => by omega
  have hc28 : 17179869180 / 4 < 2147483648 → 17179869180 % 4 = 0 → ay_led 1 (ay_at hp 191) (ay_at hp 181) (ay_at hp 174) (ay_at hp 176 1) g v s (17179869180 / 4) := by
    intro h1 _
    exact absurd h1 (by decide)
  have hk : ρ 0 = 4 * ay_k g v s := ay_stt hE 7 19 11 23 27 15 3 hg (by omega) hv (by omega) hs (by omega) (by decide) (by decide) (by decide) (by decide)
  obtain ⟨nv, hnv⟩ := ay_some hT (q := 175) (g := 45) (n := 2) (ax_wc ax_WW1 ax_cg_175) (ax_wn ax_WW1 ax_cn_45) (j := 1) (by decide)
  have hno : ay_ln (ay_at hp 175 1) ≤ 10 := by
    obtain ⟨nn, hnn⟩ : ∃ nn, ay_no1 hp = nn := ⟨_, rfl⟩
    exact ay_no1_le hT
  obtain ⟨o, ho⟩ := ay_some hT (q := 194) (g := 64) (n := 200) (ax_wc ax_WW1 ax_cg_194) (ax_wn ax_WW1 ax_cn_64) (j := ρ 0 / 4) (by rw [hk, d4]; unfold ay_k; omega)
  have hup : ∀ j, ay_at (ax_upd hp 786 (ρ 0) (17179869180)) 194 j = if j = ay_k g v s then some (17179869180) else ay_at hp 194 j := fun j => by
    rw [ay_upd_eq hT.1 rfl ho, hk, d4]
  have e1 : ay_at (ax_upd hp 786 (ρ 0) (17179869180)) 191 = ay_at hp 191 := funext (fun j => ay_upd_ne hT.1 (by decide) j)
  have e2 : ay_at (ax_upd hp 786 (ρ 0) (17179869180)) 181 = ay_at hp 181 := funext (fun j => ay_upd_ne hT.1 (by decide) j)
  have e3 : ay_at (ax_upd hp 786 (ρ 0) (17179869180)) 174 = ay_at hp 174 := funext (fun j => ay_upd_ne hT.1 (by decide) j)
  have e4 : ay_at (ax_upd hp 786 (ρ 0) (17179869180)) 175 = ay_at hp 175 := funext (fun j => ay_upd_ne hT.1 (by decide) j)
  have e5 : ay_at (ax_upd hp 786 (ρ 0) (17179869180)) 176 = ay_at hp 176 := funext (fun j => ay_upd_ne hT.1 (by decide) j)
  rw [hg, hv, hs] at x7
  refine ⟨(fun y hy => by cases hy), _, List.mem_cons_self, ρ, fun _ _ => rfl, ax_px hE rfl (fun y hy => ?_)⟩
  cases List.mem_singleton.mp hy
  show ax_XF (ax_XM 1) (500 + 30) [786, ρ 0, 17179869180, ρ 1, ρ 2, ρ 3] hp
  refine (ax_XF_wr (x := 30) (Nat.le_of_ble_eq_true rfl)).mpr ⟨ay_ex_upd hT.1 x1, ay_ex_upd hT.1 x2, ay_ex_upd hT.1 x3, ay_ex_upd hT.1 x4, ay_ex_upd hT.1 x5, ay_ex_upd hT.1 x6, ?_⟩
  rw [e1, e2, e3, e4, e5, hg, hv, hs]
  exact ay_ent (by omega) (by omega) (by omega) hno hup x7 hc28
theorem axq1_ltA : ax_RO ax_wM1 (ax_XM 1) axu1_ltA := by
  intro ρ hp hE hT
  obtain ⟨x1, x2, x3, x4, x5, x6, x7⟩ : ay_ex hp 194 ∧ ay_ex hp 191 ∧ ay_ex hp 181 ∧ ay_ex hp 174 ∧ ay_ex hp 175 ∧ ay_ex hp 176 ∧ ay_M30 1 (ρ 0) (ρ 1) (ρ 2) (ay_at hp 194) (ay_at hp 191) (ay_at hp 181) (ay_at hp 174) (ay_at hp 175 1) (ay_at hp 176 1) := (ax_XF_lt (x := 30) (Nat.le_of_ble_eq_true rfl)).mp (ax_gx hE (30, [3, 7, 11]) (by decide))
  obtain ⟨s, hs, s1, s2, s3⟩ := ax_gi hE 2 2147483648 2147483649 (by decide) rfl
  obtain ⟨s4, s5⟩ := ax_bi_pos s1 (by omega)
  have h2 : ρ 3 = 4 * (s + 1) := ay_s hE 11 4 15 (b := 1) (by decide) hs (ax_vl_c (v := 4) (by decide)) (by omega) (by decide)
  refine ⟨(fun y hy => by cases hy), _, List.mem_cons_self, ρ, fun _ _ => rfl, ax_px hE rfl (fun y hy => ?_)⟩
  cases List.mem_singleton.mp hy
  refine (ax_XF_lt (x := 29) (Nat.le_of_ble_eq_true rfl)).mpr ⟨x1, x2, x3, x4, x5, x6, fun g' v' s' h => ?_⟩
  replace h : ay_lx g' v' s' (ρ 0 / 4) (ρ 1 / 4) (ρ 3 / 4) := h
  rw [show ρ 3 / 4 = ρ 2 / 4 + 1 by omega] at h
  exact x7 g' v' s' h
theorem axq1_ltB : ax_RO ax_wM1 (ax_XM 1) axu1_ltB := by
  intro ρ hp hE hT
  obtain ⟨x1, x2, x3, x4, x5, x6, x7⟩ : ay_ex hp 194 ∧ ay_ex hp 191 ∧ ay_ex hp 181 ∧ ay_ex hp 174 ∧ ay_ex hp 175 ∧ ay_ex hp 176 ∧ ay_M29 1 (ρ 0) (ρ 1) (ρ 2) (ay_at hp 194) (ay_at hp 191) (ay_at hp 181) (ay_at hp 174) (ay_at hp 175 1) (ay_at hp 176 1) := (ax_XF_lt (x := 29) (Nat.le_of_ble_eq_true rfl)).mp (ax_gx hE (29, [3, 7, 11]) (by decide))
  obtain ⟨v, hv, v1, v2, v3⟩ := ax_gi hE 1 2147483648 2147483657 (by decide) rfl
  obtain ⟨v4, v5⟩ := ax_bi_pos v1 (by omega)
  obtain ⟨s, hs, s1, s2, s3⟩ := ax_gi hE 2 2147483650 4294967295 (by decide) rfl
  obtain ⟨s4, s5⟩ := ax_bi_pos s1 (by omega)
  have h2 : ρ 3 = 4 * (v + 1) := ay_s hE 7 4 15 (b := 1) (by decide) hv (ax_vl_c (v := 4) (by decide)) (by omega) (by decide)
  refine ⟨(fun y hy => by cases hy), _, List.mem_cons_self, ρ, fun _ _ => rfl, ax_px hE rfl (fun y hy => ?_)⟩
  cases List.mem_singleton.mp hy
  refine (ax_XF_lt (x := 29) (Nat.le_of_ble_eq_true rfl)).mpr ⟨x1, x2, x3, x4, x5, x6, fun g' v' s' h h' h'' => ?_⟩
  replace h : ay_lx g' v' s' (ρ 0 / 4) (ρ 3 / 4) (0 / 4) := h
  refine x7 g' v' s' ?_ h' h''
  unfold ay_lx at h ⊢
  omega
theorem axq1_ltC : ax_RO ax_wM1 (ax_XM 1) axu1_ltC := by
  intro ρ hp hE hT
  obtain ⟨x1, x2, x3, x4, x5, x6, x7⟩ : ay_ex hp 194 ∧ ay_ex hp 191 ∧ ay_ex hp 181 ∧ ay_ex hp 174 ∧ ay_ex hp 175 ∧ ay_ex hp 176 ∧ ay_M29 1 (ρ 0) (ρ 1) 0 (ay_at hp 194) (ay_at hp 191) (ay_at hp 181) (ay_at hp 174) (ay_at hp 175 1) (ay_at hp 176 1) := (ax_XF_lt (x := 29) (Nat.le_of_ble_eq_true rfl)).mp (ax_gx hE (29, [3, 7, 0]) ax_m0)
  obtain ⟨g, hg, g1, g2, g3⟩ := ax_gi hE 0 2147483648 2147483657 (by decide) rfl
  obtain ⟨g4, g5⟩ := ax_bi_pos g1 (by omega)
  obtain ⟨v, hv, v1, v2, v3⟩ := ax_gi hE 1 2147483648 2147483658 (by decide) rfl
  obtain ⟨v4, v5⟩ := ax_bi_pos v1 (by omega)
  obtain ⟨n, hn, n1, n2, n3⟩ := ax_gi hE 3 2147483648 2147483658 (by decide) rfl
  obtain ⟨n4, n5⟩ := ax_bi_pos n1 (by omega)
  have d4 : ∀ z : Nat, 4 * z / 4 = z := fun z => by omega
  have h2 : ρ 2 = 4 * (g + 1) := ay_s hE 3 4 11 (b := 1) (by decide) hg (ax_vl_c (v := 4) (by decide)) (by omega) (by decide)
  have f1 := ay_gfj hE 710 4 15 175 1 ax_m1 (ax_vlq rfl rfl) (ax_vlj rfl rfl)
  replace f1 : ay_at hp 175 1 = some (ρ 3) := f1
  have hge : rx_bi (ρ 3 / 4) ≤ rx_bi (ρ 1 / 4) := ax_gc hE 3 7 15 (by decide) (by decide)
  rw [hn, hv, d4, d4] at hge
  refine ⟨(fun y hy => by cases hy), _, List.mem_cons_self, ρ, fun _ _ => rfl, ax_px hE rfl (fun y hy => ?_)⟩
  cases List.mem_singleton.mp hy
  refine (ax_XF_lt (x := 29) (Nat.le_of_ble_eq_true rfl)).mpr ⟨x1, x2, x3, x4, x5, x6, fun g' v' s' h h' h'' => ?_⟩
  replace h : ay_lx g' v' s' (ρ 2 / 4) (0 / 4) (0 / 4) := h
  refine x7 g' v' s' ?_ h' h''
  rw [f1] at h'
  replace h' : v' < ρ 3 / 4 := h'
  unfold ay_lx at h ⊢
  omega
theorem axq1_ltR : ax_RO ax_wM1 (ax_XM 1) axu1_ltR := by
  intro ρ hp hE hT
  obtain ⟨x1, x2, x3, x4, x5, x6, x7⟩ : ay_ex hp 194 ∧ ay_ex hp 191 ∧ ay_ex hp 181 ∧ ay_ex hp 174 ∧ ay_ex hp 175 ∧ ay_ex hp 176 ∧ ay_M29 1 (ρ 0) 0 0 (ay_at hp 194) (ay_at hp 191) (ay_at hp 181) (ay_at hp 174) (ay_at hp 175 1) (ay_at hp 176 1) := (ax_XF_lt (x := 29) (Nat.le_of_ble_eq_true rfl)).mp (ax_gx hE (29, [3, 0, 0]) ax_m0)
  obtain ⟨g, hg, g1, g2, g3⟩ := ax_gi hE 0 2147483648 2147483658 (by decide) rfl
  obtain ⟨g4, g5⟩ := ax_bi_pos g1 (by omega)
  obtain ⟨n, hn, n1, n2, n3⟩ := ax_gi hE 1 2147483648 2147483658 (by decide) rfl
  obtain ⟨n4, n5⟩ := ax_bi_pos n1 (by omega)
  have d4 : ∀ z : Nat, 4 * z / 4 = z := fun z => by omega
  have f1 := ay_gfj hE 710 4 7 175 1 ax_m1 (ax_vlq rfl rfl) (ax_vlj rfl rfl)
  replace f1 : ay_at hp 175 1 = some (ρ 1) := f1
  have hge : rx_bi (ρ 1 / 4) ≤ rx_bi (ρ 0 / 4) := ax_gc hE 3 3 7 (by decide) (by decide)
  rw [hn, hg, d4, d4] at hge
  refine ⟨(fun y hy => by cases hy), _, List.mem_cons_self, ρ, fun _ _ => rfl, ax_px hE rfl (fun y hy => ?_)⟩
  cases List.mem_singleton.mp hy
  refine (ax_XF_lt (x := 24) (Nat.le_of_ble_eq_true rfl)).mpr ⟨x1, x2, x3, x4, x5, x6, fun g' v' s' h1 h2 h3 => ?_⟩
  refine x7 g' v' s' ?_ h2 h3
  rw [f1] at h1
  replace h1 : g' < ρ 1 / 4 := h1
  unfold ay_lx
  omega
theorem axq1_pa0 : ax_RO ax_wM1 (ax_XM 1) axu1_pa0 := by
  intro ρ hp hE hT
  obtain ⟨f, hf, f1, f2, f3⟩ := ax_gi hE 0 2147483648 2147483657 (by decide) rfl
  obtain ⟨f4, f5⟩ := ax_bi_pos f1 (by omega)
  obtain ⟨t, ht, t1, t2, t3⟩ := ax_gi hE 1 2147483648 2147483657 (by decide) rfl
  obtain ⟨t4, t5⟩ := ax_bi_pos t1 (by omega)
  have d4 : ∀ z : Nat, 4 * z / 4 = z := fun z => by omega
  have hk := ay_stt hE 7 19 3 23 27 0 31 (S := 0) ht (by omega) hf (by omega) (ax_vl_c (by decide)) (by decide) (by decide) (by decide) (by decide) (by decide)
  have f1 := ay_gf hE 786 31 11 194 (by decide) (ax_vlq rfl rfl)
  replace f1 : ay_at hp 194 (ax_vl ρ 31 / 4) = some (ρ 2) := f1
  rw [hk, d4] at f1
  refine ⟨(fun y hy => by cases hy), _, List.mem_cons_self, ρ, fun _ _ => rfl, ax_px hE rfl (fun y hy => ?_)⟩
  cases List.mem_singleton.mp hy
  refine (ax_XF_lt (x := 31) (Nat.le_of_ble_eq_true rfl)).mpr ⟨(ax_cellT hT (q := 194) (g := 64) (ax_wc ax_WW1 ax_cg_194)), (ax_cellT hT (q := 181) (g := 51) (ax_wc ax_WW1 ax_cg_181)), (ax_cellT hT (q := 174) (g := 44) (ax_wc ax_WW1 ax_cg_174)), ?_⟩
  show ay_M31 1 (ρ 0) (ρ 1) (ρ 3) 0 (ρ 0) 0 (ρ 2) (ay_at hp 194) (ay_at hp 181) (ay_at hp 174)
  refine ⟨fun _ => Nat.zero_le _, ?_⟩
  show (ρ 0 / 4, 0, ay_at hp 194 (ay_k (ρ 1 / 4) (ρ 0 / 4) 0)) = (ρ 0 / 4, 0, some (ρ 2))
  rw [show ρ 1 / 4 = t by omega, show ρ 0 / 4 = f by omega, f1]
theorem axq1_pb00 : ax_RO ax_wM1 (ax_XM 1) axu1_pb00 := by
  intro ρ hp hE hT
  obtain ⟨x1, x2, x3, x4, x5⟩ : ay_ex hp 194 ∧ ay_ex hp 181 ∧ ay_ex hp 174 ∧ ay_M31 1 (ρ 0) (ρ 1) (ρ 8) (ρ 2) (ρ 3) (ρ 4) (ρ 5) (ay_at hp 194) (ay_at hp 181) (ay_at hp 174) := (ax_XF_lt (x := 31) (Nat.le_of_ble_eq_true rfl)).mp (ax_gx hE (31, [3, 7, 35, 11, 15, 19, 23]) ax_m0)
  obtain ⟨n, hn, n1, n2, n3⟩ := ax_gi hE 2 2147483648 4294967295 (by decide) rfl
  obtain ⟨n4, n5⟩ := ax_bi_pos n1 (by omega)
  obtain ⟨s, hs, s1, s2, s3⟩ := ax_gi hE 4 2147483648 2147483648 (by decide) rfl
  obtain ⟨s4, s5⟩ := ax_bi_pos s1 (by omega)
  obtain ⟨c, hc, c1, c2, c3⟩ := ax_gi hE 5 2147483648 2147483687 (by decide) rfl
  obtain ⟨c4, c5⟩ := ax_bi_pos c1 (by omega)
  obtain ⟨t, ht, t1, t2, t3⟩ := ax_gi hE 6 2147483648 2147483657 (by decide) rfl
  obtain ⟨t4, t5⟩ := ax_bi_pos t1 (by omega)
  have d4 : ∀ z : Nat, 4 * z / 4 = z := fun z => by omega
  obtain ⟨x, hx, xx1, xx2, xx3⟩ := ax_gi hE 7 0 4294967295 (by decide) rfl
  obtain ⟨i, hi, i1, i2, i3⟩ := ax_gi hE 8 0 4294967295 (by decide) rfl
  have hlt : rx_bi (ρ 2 / 4) < rx_bi (ρ 8 / 4) := ax_gc hE 2 11 35 (by decide) (by decide)
  rw [hn, hi, d4, d4, n5, ax_bi_def] at hlt
  have hs0 : s = 0 := by omega
  have hq : ρ 9 = 4 * (c / 2) := ay_q hE 23 39 hc (by omega) (by decide)
  have hr := ay_r hE 23 43 hc (by omega) (by decide)
  have hr2 := ay_d hE 59 43 4 (c := 1) (by decide) hr (ax_vl_c (v := 4) (by decide)) (by omega) (by decide)
  have hj2 := ay_ix hE 160 39 47 51 59 55 (k := 40) (ax_vl_c (v := 160) (by decide)) (by decide) hq (by omega) hr2 (by omega) (by decide) (by decide) (by decide)
  have hjq : ρ 15 = 4 * (20 + c / 2) := ay_s hE 80 39 63 (a := 20) (by decide) (ax_vl_c (v := 80) (by decide)) hq (by decide) (by omega)
  have f1 := ay_gf hE 734 55 27 181 ax_m8 (ax_vlq rfl rfl)
  have f2 := ay_gf hE 706 63 31 174 ax_m10 (ax_vlq rfl rfl)
  replace f1 : ay_at hp 181 (ax_vl ρ 55 / 4) = some (ρ 6) := f1
  replace f2 : ay_at hp 174 (ρ 15 / 4) = some (ρ 7) := f2
  have htx : rx_bi (ρ 6 / 4) ≠ rx_bi (ρ 7 / 4) := ax_gc hE 1 27 31 (by decide) (by decide)
  rw [ht, hx, d4, d4] at htx
  rw [hj2, d4, ht] at f1
  rw [hjq, d4, hx] at f2
  have hto : ay_at hp 181 (ay_to 1 c) = some (4 * t) := by
    unfold ay_to
    exact f1
  have hup : ay_up 1 (ay_at hp 181) (ay_at hp 174) c = false := by
    unfold ay_up
    rw [hto, f2]
    exact decide_eq_false (fun z => htx (by have := Option.some.inj z; rw [show t = x by omega]))
  have hbh : ay_bh s (ay_up 1 (ay_at hp 181) (ay_at hp 174) c) = 1 := by
    unfold ay_bh
    rw [hup, hs0]
    rfl
  refine ⟨(fun y hy => by cases hy), _, List.mem_cons_self, ρ, fun _ _ => rfl, ax_px hE rfl (fun y hy => ?_)⟩
  cases List.mem_singleton.mp hy
  refine (ax_XF_lt (x := 33) (Nat.le_of_ble_eq_true rfl)).mpr ⟨x1, x2, x3, ?_⟩
  show ay_M33 1 (ρ 0) (ρ 1) (ρ 8) (ρ 2) (ρ 6) 4 (ay_at hp 194) (ay_at hp 181) (ay_at hp 174)
  refine ⟨fun _ => by omega, ?_⟩
  show ay_nx 1 (ρ 1 / 4) (ay_at hp 194) (ay_at hp 181) (ay_at hp 174) (ay_pt 1 (ρ 0 / 4) (ρ 1 / 4) (ay_at hp 194) (ay_at hp 181) (ay_at hp 174) (ρ 2 / 4)) = _
  rw [x5]
  unfold ay_nx
  dsimp only
  rw [show ρ 5 / 4 = c by omega, if_pos (by omega), hto, show ρ 4 / 4 = s by omega, hbh, show ρ 6 / 4 = t by omega]
  show (4 * t / 4, 1, if 4 * t / 4 = ρ 1 / 4 then some 17179869180 else ay_at hp 194 (ay_k (ρ 1 / 4) (4 * t / 4) 1)) = _
  rw [d4]
theorem axq1_pb01 : ax_RO ax_wM1 (ax_XM 1) axu1_pb01 := by
  intro ρ hp hE hT
  obtain ⟨x1, x2, x3, x4, x5⟩ : ay_ex hp 194 ∧ ay_ex hp 181 ∧ ay_ex hp 174 ∧ ay_M31 1 (ρ 0) (ρ 1) (ρ 8) (ρ 2) (ρ 3) (ρ 4) (ρ 5) (ay_at hp 194) (ay_at hp 181) (ay_at hp 174) := (ax_XF_lt (x := 31) (Nat.le_of_ble_eq_true rfl)).mp (ax_gx hE (31, [3, 7, 35, 11, 15, 19, 23]) ax_m0)
  obtain ⟨n, hn, n1, n2, n3⟩ := ax_gi hE 2 2147483648 4294967295 (by decide) rfl
  obtain ⟨n4, n5⟩ := ax_bi_pos n1 (by omega)
  obtain ⟨s, hs, s1, s2, s3⟩ := ax_gi hE 4 2147483649 2147483649 (by decide) rfl
  obtain ⟨s4, s5⟩ := ax_bi_pos s1 (by omega)
  obtain ⟨c, hc, c1, c2, c3⟩ := ax_gi hE 5 2147483648 2147483687 (by decide) rfl
  obtain ⟨c4, c5⟩ := ax_bi_pos c1 (by omega)
  obtain ⟨t, ht, t1, t2, t3⟩ := ax_gi hE 6 2147483648 2147483657 (by decide) rfl
  obtain ⟨t4, t5⟩ := ax_bi_pos t1 (by omega)
  have d4 : ∀ z : Nat, 4 * z / 4 = z := fun z => by omega
  obtain ⟨x, hx, xx1, xx2, xx3⟩ := ax_gi hE 7 0 4294967295 (by decide) rfl
  obtain ⟨i, hi, i1, i2, i3⟩ := ax_gi hE 8 0 4294967295 (by decide) rfl
  have hlt : rx_bi (ρ 2 / 4) < rx_bi (ρ 8 / 4) := ax_gc hE 2 11 35 (by decide) (by decide)
  rw [hn, hi, d4, d4, n5, ax_bi_def] at hlt
  have hs1 : s = 1 := by omega
  have hq : ρ 9 = 4 * (c / 2) := ay_q hE 23 39 hc (by omega) (by decide)
  have hr := ay_r hE 23 43 hc (by omega) (by decide)
  have hr2 := ay_d hE 59 43 4 (c := 1) (by decide) hr (ax_vl_c (v := 4) (by decide)) (by omega) (by decide)
  have hj2 := ay_ix hE 160 39 47 51 59 55 (k := 40) (ax_vl_c (v := 160) (by decide)) (by decide) hq (by omega) hr2 (by omega) (by decide) (by decide) (by decide)
  have hjq : ρ 15 = 4 * (20 + c / 2) := ay_s hE 80 39 63 (a := 20) (by decide) (ax_vl_c (v := 80) (by decide)) hq (by decide) (by omega)
  have f1 := ay_gf hE 734 55 27 181 ax_m8 (ax_vlq rfl rfl)
  have f2 := ay_gf hE 706 63 31 174 ax_m10 (ax_vlq rfl rfl)
  replace f1 : ay_at hp 181 (ax_vl ρ 55 / 4) = some (ρ 6) := f1
  replace f2 : ay_at hp 174 (ρ 15 / 4) = some (ρ 7) := f2
  have htx : rx_bi (ρ 6 / 4) ≠ rx_bi (ρ 7 / 4) := ax_gc hE 1 27 31 (by decide) (by decide)
  rw [ht, hx, d4, d4] at htx
  rw [hj2, d4, ht] at f1
  rw [hjq, d4, hx] at f2
  have hto : ay_at hp 181 (ay_to 1 c) = some (4 * t) := by
    unfold ay_to
    exact f1
  have hup : ay_up 1 (ay_at hp 181) (ay_at hp 174) c = false := by
    unfold ay_up
    rw [hto, f2]
    exact decide_eq_false (fun z => htx (by have := Option.some.inj z; rw [show t = x by omega]))
  have hbh : ay_bh s (ay_up 1 (ay_at hp 181) (ay_at hp 174) c) = 1 := by
    unfold ay_bh
    rw [hup, hs1]
    rfl
  refine ⟨(fun y hy => by cases hy), _, List.mem_cons_self, ρ, fun _ _ => rfl, ax_px hE rfl (fun y hy => ?_)⟩
  cases List.mem_singleton.mp hy
  refine (ax_XF_lt (x := 33) (Nat.le_of_ble_eq_true rfl)).mpr ⟨x1, x2, x3, ?_⟩
  show ay_M33 1 (ρ 0) (ρ 1) (ρ 8) (ρ 2) (ρ 6) 4 (ay_at hp 194) (ay_at hp 181) (ay_at hp 174)
  refine ⟨fun _ => by omega, ?_⟩
  show ay_nx 1 (ρ 1 / 4) (ay_at hp 194) (ay_at hp 181) (ay_at hp 174) (ay_pt 1 (ρ 0 / 4) (ρ 1 / 4) (ay_at hp 194) (ay_at hp 181) (ay_at hp 174) (ρ 2 / 4)) = _
  rw [x5]
  unfold ay_nx
  dsimp only
  rw [show ρ 5 / 4 = c by omega, if_pos (by omega), hto, show ρ 4 / 4 = s by omega, hbh, show ρ 6 / 4 = t by omega]
  show (4 * t / 4, 1, if 4 * t / 4 = ρ 1 / 4 then some 17179869180 else ay_at hp 194 (ay_k (ρ 1 / 4) (4 * t / 4) 1)) = _
  rw [d4]
theorem axq1_pb10 : ax_RO ax_wM1 (ax_XM 1) axu1_pb10 := by
  intro ρ hp hE hT
  obtain ⟨x1, x2, x3, x4, x5⟩ : ay_ex hp 194 ∧ ay_ex hp 181 ∧ ay_ex hp 174 ∧ ay_M31 1 (ρ 0) (ρ 1) (ρ 8) (ρ 2) (ρ 3) (ρ 4) (ρ 5) (ay_at hp 194) (ay_at hp 181) (ay_at hp 174) := (ax_XF_lt (x := 31) (Nat.le_of_ble_eq_true rfl)).mp (ax_gx hE (31, [3, 7, 35, 11, 15, 19, 23]) ax_m0)
  obtain ⟨n, hn, n1, n2, n3⟩ := ax_gi hE 2 2147483648 4294967295 (by decide) rfl
  obtain ⟨n4, n5⟩ := ax_bi_pos n1 (by omega)
  obtain ⟨s, hs, s1, s2, s3⟩ := ax_gi hE 4 2147483648 2147483648 (by decide) rfl
  obtain ⟨s4, s5⟩ := ax_bi_pos s1 (by omega)
  obtain ⟨c, hc, c1, c2, c3⟩ := ax_gi hE 5 2147483648 2147483687 (by decide) rfl
  obtain ⟨c4, c5⟩ := ax_bi_pos c1 (by omega)
  obtain ⟨t, ht, t1, t2, t3⟩ := ax_gi hE 6 2147483648 2147483657 (by decide) rfl
  obtain ⟨t4, t5⟩ := ax_bi_pos t1 (by omega)
  have d4 : ∀ z : Nat, 4 * z / 4 = z := fun z => by omega
  obtain ⟨x, hx, xx1, xx2, xx3⟩ := ax_gi hE 7 0 4294967295 (by decide) rfl
  obtain ⟨i, hi, i1, i2, i3⟩ := ax_gi hE 8 0 4294967295 (by decide) rfl
  have hlt : rx_bi (ρ 2 / 4) < rx_bi (ρ 8 / 4) := ax_gc hE 2 11 35 (by decide) (by decide)
  rw [hn, hi, d4, d4, n5, ax_bi_def] at hlt
  have hs0 : s = 0 := by omega
  have hq : ρ 9 = 4 * (c / 2) := ay_q hE 23 39 hc (by omega) (by decide)
  have hr := ay_r hE 23 43 hc (by omega) (by decide)
  have hr2 := ay_d hE 59 43 4 (c := 1) (by decide) hr (ax_vl_c (v := 4) (by decide)) (by omega) (by decide)
  have hj2 := ay_ix hE 160 39 47 51 59 55 (k := 40) (ax_vl_c (v := 160) (by decide)) (by decide) hq (by omega) hr2 (by omega) (by decide) (by decide) (by decide)
  have hjq : ρ 15 = 4 * (20 + c / 2) := ay_s hE 80 39 63 (a := 20) (by decide) (ax_vl_c (v := 80) (by decide)) hq (by decide) (by omega)
  have f1 := ay_gf hE 734 55 27 181 ax_m8 (ax_vlq rfl rfl)
  have f2 := ay_gf hE 706 63 31 174 ax_m10 (ax_vlq rfl rfl)
  replace f1 : ay_at hp 181 (ax_vl ρ 55 / 4) = some (ρ 6) := f1
  replace f2 : ay_at hp 174 (ρ 15 / 4) = some (ρ 7) := f2
  have htx : rx_bi (ρ 6 / 4) = rx_bi (ρ 7 / 4) := ax_gc hE 0 27 31 (by decide) (by decide)
  rw [ht, hx, d4, d4] at htx
  rw [hj2, d4, ht] at f1
  rw [hjq, d4, hx] at f2
  have hto : ay_at hp 181 (ay_to 1 c) = some (4 * t) := by
    unfold ay_to
    exact f1
  have hup : ay_up 1 (ay_at hp 181) (ay_at hp 174) c = true := by
    unfold ay_up
    rw [hto, f2]
    exact decide_eq_true (by rw [ax_bi_def, ax_bi_def] at htx; rw [show t = x by omega])
  have hbh : ay_bh s (ay_up 1 (ay_at hp 181) (ay_at hp 174) c) = 0 := by
    unfold ay_bh
    rw [hup, hs0]
    rfl
  refine ⟨(fun y hy => by cases hy), _, List.mem_cons_self, ρ, fun _ _ => rfl, ax_px hE rfl (fun y hy => ?_)⟩
  cases List.mem_singleton.mp hy
  refine (ax_XF_lt (x := 33) (Nat.le_of_ble_eq_true rfl)).mpr ⟨x1, x2, x3, ?_⟩
  show ay_M33 1 (ρ 0) (ρ 1) (ρ 8) (ρ 2) (ρ 6) 0 (ay_at hp 194) (ay_at hp 181) (ay_at hp 174)
  refine ⟨fun _ => by omega, ?_⟩
  show ay_nx 1 (ρ 1 / 4) (ay_at hp 194) (ay_at hp 181) (ay_at hp 174) (ay_pt 1 (ρ 0 / 4) (ρ 1 / 4) (ay_at hp 194) (ay_at hp 181) (ay_at hp 174) (ρ 2 / 4)) = _
  rw [x5]
  unfold ay_nx
  dsimp only
  rw [show ρ 5 / 4 = c by omega, if_pos (by omega), hto, show ρ 4 / 4 = s by omega, hbh, show ρ 6 / 4 = t by omega]
  show (4 * t / 4, 0, if 4 * t / 4 = ρ 1 / 4 then some 17179869180 else ay_at hp 194 (ay_k (ρ 1 / 4) (4 * t / 4) 0)) = _
  rw [d4]
theorem axq1_pb11 : ax_RO ax_wM1 (ax_XM 1) axu1_pb11 := by
  intro ρ hp hE hT
  obtain ⟨x1, x2, x3, x4, x5⟩ : ay_ex hp 194 ∧ ay_ex hp 181 ∧ ay_ex hp 174 ∧ ay_M31 1 (ρ 0) (ρ 1) (ρ 8) (ρ 2) (ρ 3) (ρ 4) (ρ 5) (ay_at hp 194) (ay_at hp 181) (ay_at hp 174) := (ax_XF_lt (x := 31) (Nat.le_of_ble_eq_true rfl)).mp (ax_gx hE (31, [3, 7, 35, 11, 15, 19, 23]) ax_m0)
  obtain ⟨n, hn, n1, n2, n3⟩ := ax_gi hE 2 2147483648 4294967295 (by decide) rfl
  obtain ⟨n4, n5⟩ := ax_bi_pos n1 (by omega)
  obtain ⟨s, hs, s1, s2, s3⟩ := ax_gi hE 4 2147483649 2147483649 (by decide) rfl
  obtain ⟨s4, s5⟩ := ax_bi_pos s1 (by omega)
  obtain ⟨c, hc, c1, c2, c3⟩ := ax_gi hE 5 2147483648 2147483687 (by decide) rfl
  obtain ⟨c4, c5⟩ := ax_bi_pos c1 (by omega)
  obtain ⟨t, ht, t1, t2, t3⟩ := ax_gi hE 6 2147483648 2147483657 (by decide) rfl
  obtain ⟨t4, t5⟩ := ax_bi_pos t1 (by omega)
  have d4 : ∀ z : Nat, 4 * z / 4 = z := fun z => by omega
  obtain ⟨x, hx, xx1, xx2, xx3⟩ := ax_gi hE 7 0 4294967295 (by decide) rfl
  obtain ⟨i, hi, i1, i2, i3⟩ := ax_gi hE 8 0 4294967295 (by decide) rfl
  have hlt : rx_bi (ρ 2 / 4) < rx_bi (ρ 8 / 4) := ax_gc hE 2 11 35 (by decide) (by decide)
  rw [hn, hi, d4, d4, n5, ax_bi_def] at hlt
  have hs1 : s = 1 := by omega
  have hq : ρ 9 = 4 * (c / 2) := ay_q hE 23 39 hc (by omega) (by decide)
  have hr := ay_r hE 23 43 hc (by omega) (by decide)
  have hr2 := ay_d hE 59 43 4 (c := 1) (by decide) hr (ax_vl_c (v := 4) (by decide)) (by omega) (by decide)
  have hj2 := ay_ix hE 160 39 47 51 59 55 (k := 40) (ax_vl_c (v := 160) (by decide)) (by decide) hq (by omega) hr2 (by omega) (by decide) (by decide) (by decide)
  have hjq : ρ 15 = 4 * (20 + c / 2) := ay_s hE 80 39 63 (a := 20) (by decide) (ax_vl_c (v := 80) (by decide)) hq (by decide) (by omega)
  have f1 := ay_gf hE 734 55 27 181 ax_m8 (ax_vlq rfl rfl)
  have f2 := ay_gf hE 706 63 31 174 ax_m10 (ax_vlq rfl rfl)
  replace f1 : ay_at hp 181 (ax_vl ρ 55 / 4) = some (ρ 6) := f1
  replace f2 : ay_at hp 174 (ρ 15 / 4) = some (ρ 7) := f2
  have htx : rx_bi (ρ 6 / 4) = rx_bi (ρ 7 / 4) := ax_gc hE 0 27 31 (by decide) (by decide)
  rw [ht, hx, d4, d4] at htx
  rw [hj2, d4, ht] at f1
  rw [hjq, d4, hx] at f2
  have hto : ay_at hp 181 (ay_to 1 c) = some (4 * t) := by
    unfold ay_to
    exact f1
  have hup : ay_up 1 (ay_at hp 181) (ay_at hp 174) c = true := by
    unfold ay_up
    rw [hto, f2]
    exact decide_eq_true (by rw [ax_bi_def, ax_bi_def] at htx; rw [show t = x by omega])
  have hbh : ay_bh s (ay_up 1 (ay_at hp 181) (ay_at hp 174) c) = 1 := by
    unfold ay_bh
    rw [hup, hs1]
    rfl
  refine ⟨(fun y hy => by cases hy), _, List.mem_cons_self, ρ, fun _ _ => rfl, ax_px hE rfl (fun y hy => ?_)⟩
  cases List.mem_singleton.mp hy
  refine (ax_XF_lt (x := 33) (Nat.le_of_ble_eq_true rfl)).mpr ⟨x1, x2, x3, ?_⟩
  show ay_M33 1 (ρ 0) (ρ 1) (ρ 8) (ρ 2) (ρ 6) 4 (ay_at hp 194) (ay_at hp 181) (ay_at hp 174)
  refine ⟨fun _ => by omega, ?_⟩
  show ay_nx 1 (ρ 1 / 4) (ay_at hp 194) (ay_at hp 181) (ay_at hp 174) (ay_pt 1 (ρ 0 / 4) (ρ 1 / 4) (ay_at hp 194) (ay_at hp 181) (ay_at hp 174) (ρ 2 / 4)) = _
  rw [x5]
  unfold ay_nx
  dsimp only
  rw [show ρ 5 / 4 = c by omega, if_pos (by omega), hto, show ρ 4 / 4 = s by omega, hbh, show ρ 6 / 4 = t by omega]
  show (4 * t / 4, 1, if 4 * t / 4 = ρ 1 / 4 then some 17179869180 else ay_at hp 194 (ay_k (ρ 1 / 4) (4 * t / 4) 1)) = _
  rw [d4]
theorem axq1_pcE : ax_RO ax_wM1 (ax_XM 1) axu1_pcE := by
  intro ρ hp hE hT
  obtain ⟨x1, x2, x3, x4, x5⟩ : ay_ex hp 194 ∧ ay_ex hp 181 ∧ ay_ex hp 174 ∧ ay_M33 1 (ρ 0) (ρ 1) (ρ 5) (ρ 2) (ρ 4) (ρ 6) (ay_at hp 194) (ay_at hp 181) (ay_at hp 174) := (ax_XF_lt (x := 33) (Nat.le_of_ble_eq_true rfl)).mp (ax_gx hE (33, [3, 7, 23, 11, 19, 27]) (by decide))
  obtain ⟨t, ht, t1, t2, t3⟩ := ax_gi hE 1 2147483648 2147483657 (by decide) rfl
  obtain ⟨t4, t5⟩ := ax_bi_pos t1 (by omega)
  obtain ⟨n, hn, n1, n2, n3⟩ := ax_gi hE 2 2147483648 4294967295 (by decide) rfl
  obtain ⟨n4, n5⟩ := ax_bi_pos n1 (by omega)
  obtain ⟨u, hu, u1, u2, u3⟩ := ax_gi hE 4 2147483648 2147483657 (by decide) rfl
  obtain ⟨u4, u5⟩ := ax_bi_pos u1 (by omega)
  obtain ⟨s, hs, s1, s2, s3⟩ := ax_gi hE 6 2147483648 2147483649 (by decide) rfl
  obtain ⟨s4, s5⟩ := ax_bi_pos s1 (by omega)
  have d4 : ∀ z : Nat, 4 * z / 4 = z := fun z => by omega
  have hn2 : ρ 3 = 4 * (n + 1) := ay_s hE 11 4 15 (b := 1) (by decide) hn (ax_vl_c (v := 4) (by decide)) n4 (by decide)
  have hut : rx_bi (ρ 4 / 4) = rx_bi (ρ 1 / 4) := ax_gc hE 0 19 7 (by decide) (by decide)
  rw [hu, ht, d4, d4] at hut
  refine ⟨(fun y hy => by cases hy), _, List.mem_cons_self, ρ, fun _ _ => rfl, ax_px hE rfl (fun y hy => ?_)⟩
  cases List.mem_singleton.mp hy
  refine (ax_XF_lt (x := 31) (Nat.le_of_ble_eq_true rfl)).mpr ⟨x1, x2, x3, ?_⟩
  show ay_M31 1 (ρ 0) (ρ 1) (ρ 5) (ρ 3) (ρ 4) (ρ 6) (17179869180) (ay_at hp 194) (ay_at hp 181) (ay_at hp 174)
  have e3 : ρ 3 / 4 = ρ 2 / 4 + 1 := by omega
  unfold ay_M31
  rw [e3]
  refine ⟨x4, ?_⟩
  rw [x5, if_pos (by omega)]
theorem axq1_pcN : ax_RO ax_wM1 (ax_XM 1) axu1_pcN := by
  intro ρ hp hE hT
  obtain ⟨x1, x2, x3, x4, x5⟩ : ay_ex hp 194 ∧ ay_ex hp 181 ∧ ay_ex hp 174 ∧ ay_M33 1 (ρ 0) (ρ 1) (ρ 6) (ρ 2) (ρ 4) (ρ 7) (ay_at hp 194) (ay_at hp 181) (ay_at hp 174) := (ax_XF_lt (x := 33) (Nat.le_of_ble_eq_true rfl)).mp (ax_gx hE (33, [3, 7, 27, 11, 19, 31]) (by decide))
  obtain ⟨t, ht, t1, t2, t3⟩ := ax_gi hE 1 2147483648 2147483657 (by decide) rfl
  obtain ⟨t4, t5⟩ := ax_bi_pos t1 (by omega)
  obtain ⟨n, hn, n1, n2, n3⟩ := ax_gi hE 2 2147483648 4294967295 (by decide) rfl
  obtain ⟨n4, n5⟩ := ax_bi_pos n1 (by omega)
  obtain ⟨u, hu, u1, u2, u3⟩ := ax_gi hE 4 2147483648 2147483657 (by decide) rfl
  obtain ⟨u4, u5⟩ := ax_bi_pos u1 (by omega)
  obtain ⟨s, hs, s1, s2, s3⟩ := ax_gi hE 7 2147483648 2147483649 (by decide) rfl
  obtain ⟨s4, s5⟩ := ax_bi_pos s1 (by omega)
  have d4 : ∀ z : Nat, 4 * z / 4 = z := fun z => by omega
  have hn2 : ρ 3 = 4 * (n + 1) := ay_s hE 11 4 15 (b := 1) (by decide) hn (ax_vl_c (v := 4) (by decide)) n4 (by decide)
  have hut : rx_bi (ρ 4 / 4) ≠ rx_bi (ρ 1 / 4) := ax_gc hE 1 19 7 (by decide) (by decide)
  rw [hu, ht, d4, d4] at hut
  have hk := ay_stt hE 7 35 19 39 43 31 47 ht (by omega) hu (by omega) hs (by omega) (by decide) (by decide) (by decide) (by decide)
  have f1 := ay_gf hE 786 47 23 194 (by decide) (ax_vlq rfl rfl)
  replace f1 : ay_at hp 194 (ax_vl ρ 47 / 4) = some (ρ 5) := f1
  rw [hk, d4] at f1
  refine ⟨(fun y hy => by cases hy), _, List.mem_cons_self, ρ, fun _ _ => rfl, ax_px hE rfl (fun y hy => ?_)⟩
  cases List.mem_singleton.mp hy
  refine (ax_XF_lt (x := 31) (Nat.le_of_ble_eq_true rfl)).mpr ⟨x1, x2, x3, ?_⟩
  show ay_M31 1 (ρ 0) (ρ 1) (ρ 6) (ρ 3) (ρ 4) (ρ 7) (ρ 5) (ay_at hp 194) (ay_at hp 181) (ay_at hp 174)
  have e3 : ρ 3 / 4 = ρ 2 / 4 + 1 := by omega
  unfold ay_M31
  rw [e3]
  refine ⟨x4, ?_⟩
  rw [x5, if_neg (by omega), show ρ 1 / 4 = t by omega, show ρ 4 / 4 = u by omega, show ρ 7 / 4 = s by omega, f1]
theorem axq1_paA : ax_RO ax_wM1 (ax_XM 1) axu1_paA := by
  intro ρ hp hE hT
  obtain ⟨x1, x2, x3, x4, x5⟩ : ay_ex hp 194 ∧ ay_ex hp 181 ∧ ay_ex hp 174 ∧ ay_M31 1 (ρ 0) (ρ 1) (ρ 2) (ρ 3) (ρ 4) (ρ 5) (ρ 6) (ay_at hp 194) (ay_at hp 181) (ay_at hp 174) := (ax_XF_lt (x := 31) (Nat.le_of_ble_eq_true rfl)).mp (ax_gx hE (31, [3, 7, 11, 15, 19, 23, 27]) (by decide))
  obtain ⟨c, hc, c1, c2, c3⟩ := ax_gi hE 6 2147483647 2147483647 (by decide) rfl
  have hneg : ¬ ρ 6 / 4 < 2147483648 := by
    intro z
    have hcz : c < 2147483648 := by omega
    rw [ax_bi_nat hcz] at c3
    omega
  refine ⟨(fun y hy => by cases hy), _, List.mem_cons_self, ρ, fun _ _ => rfl, ax_px hE rfl (fun y hy => ?_)⟩
  cases List.mem_singleton.mp hy
  refine (ax_XF_lt (x := 32) (Nat.le_of_ble_eq_true rfl)).mpr ⟨x1, x2, x3, fun hi => ?_⟩
  show (ay_pt 1 (ρ 0 / 4) (ρ 1 / 4) (ay_at hp 194) (ay_at hp 181) (ay_at hp 174) (ρ 2 / 4)).2.2 = some (ρ 6)
  exact ay_pt_end hneg (by rw [x5]) _ (x4 hi)
theorem axq1_paB : ax_RO ax_wM1 (ax_XM 1) axu1_paB := by
  intro ρ hp hE hT
  obtain ⟨x1, x2, x3, x4, x5⟩ : ay_ex hp 194 ∧ ay_ex hp 181 ∧ ay_ex hp 174 ∧ ay_M31 1 (ρ 0) (ρ 1) (ρ 2) (ρ 3) (ρ 4) (ρ 5) (ρ 6) (ay_at hp 194) (ay_at hp 181) (ay_at hp 174) := (ax_XF_lt (x := 31) (Nat.le_of_ble_eq_true rfl)).mp (ax_gx hE (31, [3, 7, 11, 15, 19, 23, 27]) (by decide))
  obtain ⟨n, hn, n1, n2, n3⟩ := ax_gi hE 3 2147483648 4294967295 (by decide) rfl
  obtain ⟨n4, n5⟩ := ax_bi_pos n1 (by omega)
  have d4 : ∀ z : Nat, 4 * z / 4 = z := fun z => by omega
  obtain ⟨i, hi, i1, i2, i3⟩ := ax_gi hE 2 0 4294967295 (by decide) rfl
  have hge : rx_bi (ρ 2 / 4) ≤ rx_bi (ρ 3 / 4) := ax_gc hE 3 15 11 (by decide) (by decide)
  rw [hn, hi, d4, d4, n5, ax_bi_def] at hge
  refine ⟨(fun y hy => by cases hy), _, List.mem_cons_self, ρ, fun _ _ => rfl, ax_px hE rfl (fun y hy => ?_)⟩
  cases List.mem_singleton.mp hy
  refine (ax_XF_lt (x := 32) (Nat.le_of_ble_eq_true rfl)).mpr ⟨x1, x2, x3, fun h => ?_⟩
  replace h : ρ 2 / 4 < 2147483648 := h
  have h3 := x4 h
  show (ay_pt 1 (ρ 0 / 4) (ρ 1 / 4) (ay_at hp 194) (ay_at hp 181) (ay_at hp 174) (ρ 2 / 4)).2.2 = some (ρ 6)
  rw [show ρ 2 / 4 = ρ 3 / 4 by omega, x5]
theorem axq1_ll1 : ax_RO ax_wM1 (ax_XM 1) axu1_ll1 := by
  intro ρ hp hE hT
  obtain ⟨x1, x2, x3, x4⟩ : ay_ex hp 194 ∧ ay_ex hp 181 ∧ ay_ex hp 174 ∧ ay_M32 1 (ρ 0) (ρ 1) (ρ 2) (ρ 3) (ay_at hp 194) (ay_at hp 181) (ay_at hp 174) := (ax_XF_lt (x := 32) (Nat.le_of_ble_eq_true rfl)).mp (ax_gx hE (32, [3, 7, 11, 15]) (by decide))
  obtain ⟨c, hc, c1, c2, c3⟩ := ax_gi hE 3 2147483648 2147483687 (by decide) rfl
  obtain ⟨c4, c5⟩ := ax_bi_pos c1 (by omega)
  refine ⟨(fun y hy => by cases hy), _, List.mem_cons_self, ρ, fun _ _ => rfl, ax_px hE rfl (fun y hy => ?_)⟩
  cases List.mem_singleton.mp hy
  refine (ax_XF_lt (x := 34) (Nat.le_of_ble_eq_true rfl)).mpr ⟨x1, x2, x3, fun h => ⟨ρ 3, x4 h, by omega⟩⟩
theorem axq1_ll2 : ax_RO ax_wM1 (ax_XM 1) axu1_ll2 := by
  intro ρ hp hE hT
  obtain ⟨-, -, -, y4⟩ : ay_ex hp 194 ∧ ay_ex hp 181 ∧ ay_ex hp 174 ∧ ay_M34 1 (ρ 0) (ρ 1) (ρ 2) (ay_at hp 194) (ay_at hp 181) (ay_at hp 174) := (ax_XF_lt (x := 34) (Nat.le_of_ble_eq_true rfl)).mp (ax_gx hE (34, [3, 7, 11]) (by decide))
  obtain ⟨x1, x2, x3, x4⟩ : ay_ex hp 194 ∧ ay_ex hp 181 ∧ ay_ex hp 174 ∧ ay_M32 1 (ρ 0) (ρ 1) (ρ 2) (ρ 3) (ay_at hp 194) (ay_at hp 181) (ay_at hp 174) := (ax_XF_lt (x := 32) (Nat.le_of_ble_eq_true rfl)).mp (ax_gx hE (32, [3, 7, 11, 15]) (by decide))
  obtain ⟨i, hi, i1, i2, i3⟩ := ax_gi hE 2 2147483648 4294967295 (by decide) rfl
  obtain ⟨i4, i5⟩ := ax_bi_pos i1 (by omega)
  obtain ⟨c, h1, h2⟩ := y4 (by omega)
  have h3 := x4 (by omega)
  rw [h1] at h3
  have h3 := Option.some.inj h3
  obtain ⟨d, hd, d1, d2, d3⟩ := ax_gi hE 3 2147483647 2147483687 (by decide) rfl
  refine ⟨fun y hy => ?_, _, List.mem_cons_self, ρ, fun _ _ => rfl, ax_px hE rfl (fun y hy => by cases hy)⟩
  cases List.mem_singleton.mp hy
  show 2147483648 ≤ rx_bi (ρ 3 / 4) ∧ rx_bi (ρ 3 / 4) ≤ 2147483687
  have e : ρ 3 / 4 = d := by omega
  rw [e]
  rw [ax_bi_nat (c := d) (by omega)] at d3 ⊢
  omega
theorem axq1_ll3 : ax_RO ax_wM1 (ax_XM 1) axu1_ll3 := by
  intro ρ hp hE hT
  obtain ⟨-, -, -, y4⟩ : ay_ex hp 194 ∧ ay_ex hp 181 ∧ ay_ex hp 174 ∧ ay_M34 1 (ρ 0) (ρ 1) (ρ 2) (ay_at hp 194) (ay_at hp 181) (ay_at hp 174) := (ax_XF_lt (x := 34) (Nat.le_of_ble_eq_true rfl)).mp (ax_gx hE (34, [3, 7, 11]) ax_m0)
  obtain ⟨-, -, -, -, -, -, h24⟩ : ay_ex hp 194 ∧ ay_ex hp 191 ∧ ay_ex hp 181 ∧ ay_ex hp 174 ∧ ay_ex hp 175 ∧ ay_ex hp 176 ∧ ay_M24 1 (ay_at hp 194) (ay_at hp 191) (ay_at hp 181) (ay_at hp 174) (ay_at hp 175 1) (ay_at hp 176 1) := (ax_XF_lt (x := 24) (Nat.le_of_ble_eq_true rfl)).mp (ax_gx hE (24, []) ax_m1)
  obtain ⟨-, -, -, h25⟩ : ay_ex hp 181 ∧ ay_ex hp 175 ∧ ay_ex hp 176 ∧ ay_M25 1 (ay_at hp 181) (ay_at hp 175 1) (ay_at hp 176 1) := (ax_XF_lt (x := 25) (Nat.le_of_ble_eq_true rfl)).mp (ax_gx hE (25, []) ax_m2)
  obtain ⟨f, hf, f1, f2, f3⟩ := ax_gi hE 0 2147483648 2147483657 (by decide) rfl
  obtain ⟨f4, f5⟩ := ax_bi_pos f1 (by omega)
  obtain ⟨t, ht, t1, t2, t3⟩ := ax_gi hE 1 2147483648 2147483657 (by decide) rfl
  obtain ⟨t4, t5⟩ := ax_bi_pos t1 (by omega)
  obtain ⟨i, hi, i1, i2, i3⟩ := ax_gi hE 2 2147483648 4294967295 (by decide) rfl
  obtain ⟨i4, i5⟩ := ax_bi_pos i1 (by omega)
  obtain ⟨n, hn, n1, n2, n3⟩ := ax_gi hE 3 2147483648 2147483658 (by decide) rfl
  obtain ⟨n4, n5⟩ := ax_bi_pos n1 (by omega)
  have d4 : ∀ z : Nat, 4 * z / 4 = z := fun z => by omega
  have f1 := ay_gfj hE 710 4 15 175 1 ax_m3 (ax_vlq rfl rfl) (ax_vlj rfl rfl)
  replace f1 : ay_at hp 175 1 = some (ρ 3) := f1
  have hf1 : rx_bi (ρ 0 / 4) < rx_bi (ρ 3 / 4) := ax_gc hE 2 3 15 (by decide) (by decide)
  have ht1 : rx_bi (ρ 1 / 4) < rx_bi (ρ 3 / 4) := ax_gc hE 2 7 15 (by decide) (by decide)
  rw [hf, hn, d4, d4] at hf1
  rw [ht, hn, d4, d4] at ht1
  have hln : ay_ln (ay_at hp 175 1) = n := by rw [f1, hn]; show 4 * n / 4 = n; omega
  obtain ⟨c, h1, h2⟩ := y4 (by omega)
  have hint : ∀ j v, ay_at hp 194 j = some v → v % 4 = 0 := fun j v hv => (ay_int hT (q := 194) (g := 64) (n := 200) (lo := 2147483647) (hi := 2147483687) (ax_wc ax_WW1 ax_cg_194) rfl hv).1
  obtain ⟨-, -, -, d, -, hd⟩ := ay_short hint h24 h25 (by rw [hln]; omega) (by rw [hln]; omega) (ρ 2 / 4) c h1 h2
  refine ⟨fun y hy => ?_, _, List.mem_cons_self, ρ, fun _ _ => rfl, ax_px hE rfl (fun y hy => by cases hy)⟩
  cases List.mem_singleton.mp hy
  show 2147483648 ≤ rx_bi (ρ 2 / 4) ∧ rx_bi (ρ 2 / 4) ≤ 2147583648
  rw [hi, d4]
  omega
end
section
theorem axq1_rk0 : ax_RO ax_wM1 (ax_XM 1) axu1_rk0 := axqg_rk0 ax_WW1
theorem axq1_rkM : ax_RO ax_wM1 (ax_XM 1) axu1_rkM := by
  intro ρ hp hE hT
  obtain ⟨x1, x2, x3⟩ : ay_ex hp 182 ∧ ay_ex hp 180 ∧ ay_M26 1 (ay_at hp 182) (ay_at hp 180 1) := (ax_XF_lt (x := 26) (Nat.le_of_ble_eq_true rfl)).mp (ax_gx hE (26, []) ax_m0)
  obtain ⟨y1, y2, y3⟩ : ay_ex hp 182 ∧ ay_ex hp 180 ∧ ay_M36 1 (ρ 0) (ρ 1) (ay_at hp 182) := (ax_XF_lt (x := 36) (Nat.le_of_ble_eq_true rfl)).mp (ax_gx hE (36, [3, 7]) ax_m1)
  obtain ⟨n, hn, n1, n2, n3⟩ := ax_gi hE 0 2147483648 2147483748 (by decide) rfl
  obtain ⟨n4, n5⟩ := ax_bi_pos n1 (by omega)
  obtain ⟨k, hk, k1, k2, k3⟩ := ax_gi hE 1 2147483648 2147483747 (by decide) rfl
  obtain ⟨k4, k5⟩ := ax_bi_pos k1 (by omega)
  obtain ⟨L, hL, L1, L2, L3⟩ := ax_gi hE 4 2147483648 2147483748 (by decide) rfl
  obtain ⟨L4, L5⟩ := ax_bi_pos L1 (by omega)
  have d4 : ∀ z : Nat, 4 * z / 4 = z := fun z => by omega
  obtain ⟨c, hc, c1, c2, c3⟩ := ax_gi hE 2 2147484656 2147484656 (by decide) rfl
  have hj : ρ 3 = 4 * (100 + k) := ay_s hE 400 7 15 (a := 100) (by decide) (ax_vl_c (v := 400) (by decide)) hk (by decide) (by omega)
  have f1 := ay_gf hE 738 15 11 182 ax_m3 (ax_vlq rfl rfl)
  have f2 := ay_gfj hE 730 4 19 180 1 ax_m4 (ax_vlq rfl rfl) (ax_vlj rfl rfl)
  replace f1 : ay_at hp 182 (ρ 3 / 4) = some (ρ 2) := f1
  replace f2 : ay_at hp 180 1 = some (ρ 4) := f2
  have hlt : rx_bi (ρ 1 / 4) < rx_bi (ρ 4 / 4) := ax_gc hE 2 7 19 (by decide) (by decide)
  rw [hk, hL, d4, d4] at hlt
  rw [hj, d4, hc] at f1
  replace y3 : ay_ht (ay_at hp 182) (100 * 1) (ρ 1 / 4) = some (ρ 0 / 4) := y3
  rw [hk, hn, d4, d4] at y3
  have hs : ay_ht (ay_at hp 182) (100 * 1) (k + 1) = ay_stp n (4 * c) := ay_ht_s y3 (by rw [show 100 * 1 + k = 100 + k from rfl]; exact f1)
  have hgood : ay_stp n (4 * c) ≠ none := by
    rw [← hs]
    exact x3 (k + 1) (by rw [f2, hL]; show k + 1 ≤ 4 * L / 4; omega)
  unfold ay_stp at hgood hs
  rw [d4] at hgood hs
  rw [ax_bi_def] at c2 c3
  rw [if_neg (by omega), if_pos (by omega)] at hgood hs
  have hn1 : 1 ≤ n := Decidable.byContradiction (fun z => hgood (by rw [if_neg z]))
  refine ⟨fun y hy => ?_, _, List.mem_cons_self, ρ, fun _ _ => rfl, ax_px hE rfl (fun y hy => by cases hy)⟩
  cases List.mem_singleton.mp hy
  show 2147483649 ≤ rx_bi (ρ 0 / 4) ∧ rx_bi (ρ 0 / 4) ≤ 2147483748
  rw [hn, d4]
  omega
theorem axq1_rkB : ax_RO ax_wM1 (ax_XM 1) axu1_rkB := by
  intro ρ hp hE hT
  obtain ⟨x1, x2, x3⟩ : ay_ex hp 182 ∧ ay_ex hp 180 ∧ ay_M26 1 (ay_at hp 182) (ay_at hp 180 1) := (ax_XF_lt (x := 26) (Nat.le_of_ble_eq_true rfl)).mp (ax_gx hE (26, []) ax_m0)
  obtain ⟨y1, y2, y3⟩ : ay_ex hp 182 ∧ ay_ex hp 180 ∧ ay_M36 1 (ρ 0) (ρ 1) (ay_at hp 182) := (ax_XF_lt (x := 36) (Nat.le_of_ble_eq_true rfl)).mp (ax_gx hE (36, [3, 7]) ax_m1)
  obtain ⟨n, hn, n1, n2, n3⟩ := ax_gi hE 0 2147483648 2147483748 (by decide) rfl
  obtain ⟨n4, n5⟩ := ax_bi_pos n1 (by omega)
  obtain ⟨k, hk, k1, k2, k3⟩ := ax_gi hE 1 2147483648 2147483747 (by decide) rfl
  obtain ⟨k4, k5⟩ := ax_bi_pos k1 (by omega)
  obtain ⟨L, hL, L1, L2, L3⟩ := ax_gi hE 4 2147483648 2147483748 (by decide) rfl
  obtain ⟨L4, L5⟩ := ax_bi_pos L1 (by omega)
  have d4 : ∀ z : Nat, 4 * z / 4 = z := fun z => by omega
  obtain ⟨c, hc, c1, c2, c3⟩ := ax_gi hE 2 2147484651 2147484655 (by decide) rfl
  have hj : ρ 3 = 4 * (100 + k) := ay_s hE 400 7 15 (a := 100) (by decide) (ax_vl_c (v := 400) (by decide)) hk (by decide) (by omega)
  have f1 := ay_gf hE 738 15 11 182 ax_m3 (ax_vlq rfl rfl)
  have f2 := ay_gfj hE 730 4 19 180 1 ax_m4 (ax_vlq rfl rfl) (ax_vlj rfl rfl)
  replace f1 : ay_at hp 182 (ρ 3 / 4) = some (ρ 2) := f1
  replace f2 : ay_at hp 180 1 = some (ρ 4) := f2
  have hlt : rx_bi (ρ 1 / 4) < rx_bi (ρ 4 / 4) := ax_gc hE 2 7 19 (by decide) (by decide)
  rw [hk, hL, d4, d4] at hlt
  rw [hj, d4, hc] at f1
  replace y3 : ay_ht (ay_at hp 182) (100 * 1) (ρ 1 / 4) = some (ρ 0 / 4) := y3
  rw [hk, hn, d4, d4] at y3
  have hs : ay_ht (ay_at hp 182) (100 * 1) (k + 1) = ay_stp n (4 * c) := ay_ht_s y3 (by rw [show 100 * 1 + k = 100 + k from rfl]; exact f1)
  have hgood : ay_stp n (4 * c) ≠ none := by
    rw [← hs]
    exact x3 (k + 1) (by rw [f2, hL]; show k + 1 ≤ 4 * L / 4; omega)
  unfold ay_stp at hgood hs
  rw [d4] at hgood hs
  rw [ax_bi_def] at c2 c3
  rw [if_neg (by omega), if_neg (by omega), if_pos (by omega)] at hgood hs
  have hn2 : 2 ≤ n := Decidable.byContradiction (fun z => hgood (by rw [if_neg z]))
  refine ⟨fun y hy => ?_, _, List.mem_cons_self, ρ, fun _ _ => rfl, ax_px hE rfl (fun y hy => by cases hy)⟩
  cases List.mem_singleton.mp hy
  show 2147483650 ≤ rx_bi (ρ 0 / 4) ∧ rx_bi (ρ 0 / 4) ≤ 2147483748
  rw [hn, d4]
  omega
theorem axq1_rkX : ax_RO ax_wM1 (ax_XM 1) axu1_rkX := by
  intro ρ hp hE hT
  obtain ⟨x1, x2, x3⟩ : ay_ex hp 182 ∧ ay_ex hp 180 ∧ ay_M26 1 (ay_at hp 182) (ay_at hp 180 1) := (ax_XF_lt (x := 26) (Nat.le_of_ble_eq_true rfl)).mp (ax_gx hE (26, []) ax_m0)
  obtain ⟨y1, y2, y3⟩ : ay_ex hp 182 ∧ ay_ex hp 180 ∧ ay_M36 1 (ρ 0) (ρ 1) (ay_at hp 182) := (ax_XF_lt (x := 36) (Nat.le_of_ble_eq_true rfl)).mp (ax_gx hE (36, [3, 7]) ax_m1)
  obtain ⟨n, hn, n1, n2, n3⟩ := ax_gi hE 0 2147483648 2147483748 (by decide) rfl
  obtain ⟨n4, n5⟩ := ax_bi_pos n1 (by omega)
  obtain ⟨k, hk, k1, k2, k3⟩ := ax_gi hE 1 2147483648 2147483747 (by decide) rfl
  obtain ⟨k4, k5⟩ := ax_bi_pos k1 (by omega)
  obtain ⟨L, hL, L1, L2, L3⟩ := ax_gi hE 4 2147483648 2147483748 (by decide) rfl
  obtain ⟨L4, L5⟩ := ax_bi_pos L1 (by omega)
  have d4 : ∀ z : Nat, 4 * z / 4 = z := fun z => by omega
  obtain ⟨c, hc, c1, c2, c3⟩ := ax_gi hE 2 2147484657 4294967295 (by decide) rfl
  have hj : ρ 3 = 4 * (100 + k) := ay_s hE 400 7 15 (a := 100) (by decide) (ax_vl_c (v := 400) (by decide)) hk (by decide) (by omega)
  have f1 := ay_gf hE 738 15 11 182 ax_m3 (ax_vlq rfl rfl)
  have f2 := ay_gfj hE 730 4 19 180 1 ax_m4 (ax_vlq rfl rfl) (ax_vlj rfl rfl)
  replace f1 : ay_at hp 182 (ρ 3 / 4) = some (ρ 2) := f1
  replace f2 : ay_at hp 180 1 = some (ρ 4) := f2
  have hlt : rx_bi (ρ 1 / 4) < rx_bi (ρ 4 / 4) := ax_gc hE 2 7 19 (by decide) (by decide)
  rw [hk, hL, d4, d4] at hlt
  rw [hj, d4, hc] at f1
  replace y3 : ay_ht (ay_at hp 182) (100 * 1) (ρ 1 / 4) = some (ρ 0 / 4) := y3
  rw [hk, hn, d4, d4] at y3
  have hs : ay_ht (ay_at hp 182) (100 * 1) (k + 1) = ay_stp n (4 * c) := ay_ht_s y3 (by rw [show 100 * 1 + k = 100 + k from rfl]; exact f1)
  have hgood : ay_stp n (4 * c) ≠ none := by
    rw [← hs]
    exact x3 (k + 1) (by rw [f2, hL]; show k + 1 ≤ 4 * L / 4; omega)
  unfold ay_stp at hgood hs
  rw [d4] at hgood hs
  rw [ax_bi_def] at c2 c3
  exfalso
  exact hgood (by rw [if_neg (by omega), if_neg (by omega), if_neg (by omega)])
theorem axq1_rkO : ax_RO ax_wM1 (ax_XM 1) axu1_rkO := by
  intro ρ hp hE hT
  obtain ⟨x1, x2, x3⟩ : ay_ex hp 182 ∧ ay_ex hp 180 ∧ ay_M26 1 (ay_at hp 182) (ay_at hp 180 1) := (ax_XF_lt (x := 26) (Nat.le_of_ble_eq_true rfl)).mp (ax_gx hE (26, []) ax_m0)
  obtain ⟨y1, y2, y3⟩ : ay_ex hp 182 ∧ ay_ex hp 180 ∧ ay_M36 1 (ρ 0) (ρ 1) (ay_at hp 182) := (ax_XF_lt (x := 36) (Nat.le_of_ble_eq_true rfl)).mp (ax_gx hE (36, [3, 7]) ax_m1)
  obtain ⟨n, hn, n1, n2, n3⟩ := ax_gi hE 0 2147483648 2147483748 (by decide) rfl
  obtain ⟨n4, n5⟩ := ax_bi_pos n1 (by omega)
  obtain ⟨k, hk, k1, k2, k3⟩ := ax_gi hE 1 2147483648 2147483747 (by decide) rfl
  obtain ⟨k4, k5⟩ := ax_bi_pos k1 (by omega)
  obtain ⟨L, hL, L1, L2, L3⟩ := ax_gi hE 4 2147483648 2147483748 (by decide) rfl
  obtain ⟨L4, L5⟩ := ax_bi_pos L1 (by omega)
  have d4 : ∀ z : Nat, 4 * z / 4 = z := fun z => by omega
  obtain ⟨c, hc, c1, c2, c3⟩ := ax_gi hE 2 0 2147484650 (by decide) rfl
  have hj : ρ 3 = 4 * (100 + k) := ay_s hE 400 7 15 (a := 100) (by decide) (ax_vl_c (v := 400) (by decide)) hk (by decide) (by omega)
  have f1 := ay_gf hE 738 15 11 182 ax_m3 (ax_vlq rfl rfl)
  have f2 := ay_gfj hE 730 4 19 180 1 ax_m4 (ax_vlq rfl rfl) (ax_vlj rfl rfl)
  replace f1 : ay_at hp 182 (ρ 3 / 4) = some (ρ 2) := f1
  replace f2 : ay_at hp 180 1 = some (ρ 4) := f2
  have hlt : rx_bi (ρ 1 / 4) < rx_bi (ρ 4 / 4) := ax_gc hE 2 7 19 (by decide) (by decide)
  rw [hk, hL, d4, d4] at hlt
  rw [hj, d4, hc] at f1
  replace y3 : ay_ht (ay_at hp 182) (100 * 1) (ρ 1 / 4) = some (ρ 0 / 4) := y3
  rw [hk, hn, d4, d4] at y3
  have hs : ay_ht (ay_at hp 182) (100 * 1) (k + 1) = ay_stp n (4 * c) := ay_ht_s y3 (by rw [show 100 * 1 + k = 100 + k from rfl]; exact f1)
  have hgood : ay_stp n (4 * c) ≠ none := by
    rw [← hs]
    exact x3 (k + 1) (by rw [f2, hL]; show k + 1 ≤ 4 * L / 4; omega)
  unfold ay_stp at hgood hs
  rw [d4] at hgood hs
  rw [ax_bi_def] at c2 c3
  have hc2 : c ≤ 1002 := Decidable.byContradiction (fun z => hgood (by rw [if_neg z, if_neg (by omega), if_neg (by omega)]))
  rw [if_pos hc2] at hs
  have hnk := ay_ht_le y3
  refine ⟨fun y hy => ?_, _, List.mem_cons_self, ρ, fun _ _ => rfl, ax_px hE rfl (fun y hy => by cases hy)⟩
  cases List.mem_singleton.mp hy
  show 2147483648 ≤ rx_bi (ρ 0 / 4) ∧ rx_bi (ρ 0 / 4) ≤ 2147483747
  rw [hn, d4]
  omega
theorem axq1_rlM : ax_RO ax_wM1 (ax_XM 1) axu1_rlM := by
  intro ρ hp hE hT
  obtain ⟨x1, x2, x3⟩ : ay_ex hp 182 ∧ ay_ex hp 180 ∧ ay_M26 1 (ay_at hp 182) (ay_at hp 180 1) := (ax_XF_lt (x := 26) (Nat.le_of_ble_eq_true rfl)).mp (ax_gx hE (26, []) ax_m0)
  obtain ⟨y1, y2, y3⟩ : ay_ex hp 182 ∧ ay_ex hp 180 ∧ ay_M36 1 (ρ 0) (ρ 1) (ay_at hp 182) := (ax_XF_lt (x := 36) (Nat.le_of_ble_eq_true rfl)).mp (ax_gx hE (36, [3, 7]) ax_m1)
  obtain ⟨n, hn, n1, n2, n3⟩ := ax_gi hE 0 2147483648 2147483748 (by decide) rfl
  obtain ⟨n4, n5⟩ := ax_bi_pos n1 (by omega)
  obtain ⟨k, hk, k1, k2, k3⟩ := ax_gi hE 1 2147483648 2147483747 (by decide) rfl
  obtain ⟨k4, k5⟩ := ax_bi_pos k1 (by omega)
  obtain ⟨L, hL, L1, L2, L3⟩ := ax_gi hE 4 2147483648 2147483748 (by decide) rfl
  obtain ⟨L4, L5⟩ := ax_bi_pos L1 (by omega)
  have d4 : ∀ z : Nat, 4 * z / 4 = z := fun z => by omega
  obtain ⟨c, hc, c1, c2, c3⟩ := ax_gi hE 2 2147484656 2147484656 (by decide) rfl
  have hj : ρ 3 = 4 * (100 + k) := ay_s hE 400 7 15 (a := 100) (by decide) (ax_vl_c (v := 400) (by decide)) hk (by decide) (by omega)
  have f1 := ay_gf hE 738 15 11 182 ax_m4 (ax_vlq rfl rfl)
  have f2 := ay_gfj hE 730 4 19 180 1 ax_m5 (ax_vlq rfl rfl) (ax_vlj rfl rfl)
  replace f1 : ay_at hp 182 (ρ 3 / 4) = some (ρ 2) := f1
  replace f2 : ay_at hp 180 1 = some (ρ 4) := f2
  have hlt : rx_bi (ρ 1 / 4) < rx_bi (ρ 4 / 4) := ax_gc hE 2 7 19 (by decide) (by decide)
  rw [hk, hL, d4, d4] at hlt
  rw [hj, d4, hc] at f1
  replace y3 : ay_ht (ay_at hp 182) (100 * 1) (ρ 1 / 4) = some (ρ 0 / 4) := y3
  rw [hk, hn, d4, d4] at y3
  have hs : ay_ht (ay_at hp 182) (100 * 1) (k + 1) = ay_stp n (4 * c) := ay_ht_s y3 (by rw [show 100 * 1 + k = 100 + k from rfl]; exact f1)
  have hgood : ay_stp n (4 * c) ≠ none := by
    rw [← hs]
    exact x3 (k + 1) (by rw [f2, hL]; show k + 1 ≤ 4 * L / 4; omega)
  unfold ay_stp at hgood hs
  rw [d4] at hgood hs
  rw [ax_bi_def] at c2 c3
  rw [if_neg (by omega), if_pos (by omega)] at hgood hs
  have hn1 : 1 ≤ n := Decidable.byContradiction (fun z => hgood (by rw [if_neg z]))
  have hk2 : ρ 5 = 4 * (k + 1) := ay_s hE 7 4 23 (b := 1) (by decide) hk (ax_vl_c (v := 4) (by decide)) (by omega) (by decide)
  rw [if_pos hn1] at hs
  refine ⟨(fun y hy => by cases hy), _, List.mem_cons_self, ρ, fun _ _ => rfl, ax_px hE rfl (fun y hy => ?_)⟩
  cases List.mem_singleton.mp hy
  refine (ax_XF_lt (x := 36) (Nat.le_of_ble_eq_true rfl)).mpr ⟨y1, y2, ?_⟩
  show ay_ht (ay_at hp 182) (100 * 1) (ρ 5 / 4) = some (ρ 0 / 4)
  rw [hk2, d4, hs, hn, d4]
theorem axq1_rlB : ax_RO ax_wM1 (ax_XM 1) axu1_rlB := by
  intro ρ hp hE hT
  obtain ⟨x1, x2, x3⟩ : ay_ex hp 182 ∧ ay_ex hp 180 ∧ ay_M26 1 (ay_at hp 182) (ay_at hp 180 1) := (ax_XF_lt (x := 26) (Nat.le_of_ble_eq_true rfl)).mp (ax_gx hE (26, []) ax_m0)
  obtain ⟨y1, y2, y3⟩ : ay_ex hp 182 ∧ ay_ex hp 180 ∧ ay_M36 1 (ρ 0) (ρ 1) (ay_at hp 182) := (ax_XF_lt (x := 36) (Nat.le_of_ble_eq_true rfl)).mp (ax_gx hE (36, [3, 7]) ax_m1)
  obtain ⟨n, hn, n1, n2, n3⟩ := ax_gi hE 0 2147483648 2147483748 (by decide) rfl
  obtain ⟨n4, n5⟩ := ax_bi_pos n1 (by omega)
  obtain ⟨k, hk, k1, k2, k3⟩ := ax_gi hE 1 2147483648 2147483747 (by decide) rfl
  obtain ⟨k4, k5⟩ := ax_bi_pos k1 (by omega)
  obtain ⟨L, hL, L1, L2, L3⟩ := ax_gi hE 4 2147483648 2147483748 (by decide) rfl
  obtain ⟨L4, L5⟩ := ax_bi_pos L1 (by omega)
  have d4 : ∀ z : Nat, 4 * z / 4 = z := fun z => by omega
  obtain ⟨c, hc, c1, c2, c3⟩ := ax_gi hE 2 2147484651 2147484655 (by decide) rfl
  have hj : ρ 3 = 4 * (100 + k) := ay_s hE 400 7 15 (a := 100) (by decide) (ax_vl_c (v := 400) (by decide)) hk (by decide) (by omega)
  have f1 := ay_gf hE 738 15 11 182 ax_m4 (ax_vlq rfl rfl)
  have f2 := ay_gfj hE 730 4 19 180 1 ax_m5 (ax_vlq rfl rfl) (ax_vlj rfl rfl)
  replace f1 : ay_at hp 182 (ρ 3 / 4) = some (ρ 2) := f1
  replace f2 : ay_at hp 180 1 = some (ρ 4) := f2
  have hlt : rx_bi (ρ 1 / 4) < rx_bi (ρ 4 / 4) := ax_gc hE 2 7 19 (by decide) (by decide)
  rw [hk, hL, d4, d4] at hlt
  rw [hj, d4, hc] at f1
  replace y3 : ay_ht (ay_at hp 182) (100 * 1) (ρ 1 / 4) = some (ρ 0 / 4) := y3
  rw [hk, hn, d4, d4] at y3
  have hs : ay_ht (ay_at hp 182) (100 * 1) (k + 1) = ay_stp n (4 * c) := ay_ht_s y3 (by rw [show 100 * 1 + k = 100 + k from rfl]; exact f1)
  have hgood : ay_stp n (4 * c) ≠ none := by
    rw [← hs]
    exact x3 (k + 1) (by rw [f2, hL]; show k + 1 ≤ 4 * L / 4; omega)
  unfold ay_stp at hgood hs
  rw [d4] at hgood hs
  rw [ax_bi_def] at c2 c3
  rw [if_neg (by omega), if_neg (by omega), if_pos (by omega)] at hgood hs
  have hn2 : 2 ≤ n := Decidable.byContradiction (fun z => hgood (by rw [if_neg z]))
  have hk2 : ρ 5 = 4 * (k + 1) := ay_s hE 7 4 23 (b := 1) (by decide) hk (ax_vl_c (v := 4) (by decide)) (by omega) (by decide)
  rw [if_pos hn2] at hs
  have hn3 : ρ 6 = 4 * (n - 1) := by
    obtain ⟨a', b', c', e1, e2, e3, l1, l2, l3, hs'⟩ := ax_gs hE 3 17179869180 27 (by decide)
    have ea : a' = n := by replace e1 : ρ 0 = 4 * a' := e1; omega
    have eb : b' = 4294967295 := by rw [ax_vl_c (by decide)] at e2; omega
    subst ea eb
    replace e3 : ρ 6 = 4 * c' := e3
    rw [ax_bi_def, ax_bi_def, ax_bi_def] at hs'
    omega
  refine ⟨(fun y hy => by cases hy), _, List.mem_cons_self, ρ, fun _ _ => rfl, ax_px hE rfl (fun y hy => ?_)⟩
  cases List.mem_singleton.mp hy
  refine (ax_XF_lt (x := 36) (Nat.le_of_ble_eq_true rfl)).mpr ⟨y1, y2, ?_⟩
  show ay_ht (ay_at hp 182) (100 * 1) (ρ 5 / 4) = some (ρ 6 / 4)
  rw [hk2, d4, hs, hn3, d4]
theorem axq1_rlO : ax_RO ax_wM1 (ax_XM 1) axu1_rlO := by
  intro ρ hp hE hT
  obtain ⟨x1, x2, x3⟩ : ay_ex hp 182 ∧ ay_ex hp 180 ∧ ay_M26 1 (ay_at hp 182) (ay_at hp 180 1) := (ax_XF_lt (x := 26) (Nat.le_of_ble_eq_true rfl)).mp (ax_gx hE (26, []) ax_m0)
  obtain ⟨y1, y2, y3⟩ : ay_ex hp 182 ∧ ay_ex hp 180 ∧ ay_M36 1 (ρ 0) (ρ 1) (ay_at hp 182) := (ax_XF_lt (x := 36) (Nat.le_of_ble_eq_true rfl)).mp (ax_gx hE (36, [3, 7]) ax_m1)
  obtain ⟨n, hn, n1, n2, n3⟩ := ax_gi hE 0 2147483648 2147483748 (by decide) rfl
  obtain ⟨n4, n5⟩ := ax_bi_pos n1 (by omega)
  obtain ⟨k, hk, k1, k2, k3⟩ := ax_gi hE 1 2147483648 2147483747 (by decide) rfl
  obtain ⟨k4, k5⟩ := ax_bi_pos k1 (by omega)
  obtain ⟨L, hL, L1, L2, L3⟩ := ax_gi hE 4 2147483648 2147483748 (by decide) rfl
  obtain ⟨L4, L5⟩ := ax_bi_pos L1 (by omega)
  have d4 : ∀ z : Nat, 4 * z / 4 = z := fun z => by omega
  obtain ⟨c, hc, c1, c2, c3⟩ := ax_gi hE 2 0 2147484650 (by decide) rfl
  have hj : ρ 3 = 4 * (100 + k) := ay_s hE 400 7 15 (a := 100) (by decide) (ax_vl_c (v := 400) (by decide)) hk (by decide) (by omega)
  have f1 := ay_gf hE 738 15 11 182 ax_m4 (ax_vlq rfl rfl)
  have f2 := ay_gfj hE 730 4 19 180 1 ax_m5 (ax_vlq rfl rfl) (ax_vlj rfl rfl)
  replace f1 : ay_at hp 182 (ρ 3 / 4) = some (ρ 2) := f1
  replace f2 : ay_at hp 180 1 = some (ρ 4) := f2
  have hlt : rx_bi (ρ 1 / 4) < rx_bi (ρ 4 / 4) := ax_gc hE 2 7 19 (by decide) (by decide)
  rw [hk, hL, d4, d4] at hlt
  rw [hj, d4, hc] at f1
  replace y3 : ay_ht (ay_at hp 182) (100 * 1) (ρ 1 / 4) = some (ρ 0 / 4) := y3
  rw [hk, hn, d4, d4] at y3
  have hs : ay_ht (ay_at hp 182) (100 * 1) (k + 1) = ay_stp n (4 * c) := ay_ht_s y3 (by rw [show 100 * 1 + k = 100 + k from rfl]; exact f1)
  have hgood : ay_stp n (4 * c) ≠ none := by
    rw [← hs]
    exact x3 (k + 1) (by rw [f2, hL]; show k + 1 ≤ 4 * L / 4; omega)
  unfold ay_stp at hgood hs
  rw [d4] at hgood hs
  rw [ax_bi_def] at c2 c3
  have hc2 : c ≤ 1002 := Decidable.byContradiction (fun z => hgood (by rw [if_neg z, if_neg (by omega), if_neg (by omega)]))
  rw [if_pos hc2] at hs
  have hnk := ay_ht_le y3
  have hk2 : ρ 5 = 4 * (k + 1) := ay_s hE 7 4 23 (b := 1) (by decide) hk (ax_vl_c (v := 4) (by decide)) (by omega) (by decide)
  have hn3 : ρ 6 = 4 * (n + 1) := ay_s hE 3 4 27 (b := 1) (by decide) hn (ax_vl_c (v := 4) (by decide)) (by omega) (by decide)
  refine ⟨(fun y hy => by cases hy), _, List.mem_cons_self, ρ, fun _ _ => rfl, ax_px hE rfl (fun y hy => ?_)⟩
  cases List.mem_singleton.mp hy
  refine (ax_XF_lt (x := 36) (Nat.le_of_ble_eq_true rfl)).mpr ⟨y1, y2, ?_⟩
  show ay_ht (ay_at hp 182) (100 * 1) (ρ 5 / 4) = some (ρ 6 / 4)
  rw [hk2, d4, hs, hn3, d4]
end
section
theorem ay_ty1 {w : ax_W} {hp : rx_H} {q g k n lo hi j v : Nat} {l : List (Nat × ax_Y)} (hT : ax_HT w hp) (hw : w.1[q]? = some g) (ht : w.2.1[g]? = some (k, n, l)) (hl : ax_at l j = some (0, lo, hi)) (hv : ay_at hp q j = some v) : v % 4 = 0 ∧ v / 4 < 4294967296 ∧ lo ≤ rx_bi (v / 4) ∧ rx_bi (v / 4) ≤ hi := by
  obtain ⟨k', n', tl, f', b1, b2, b3, b4⟩ := hT.2 q g hw
  rw [ay_eq b2] at hv
  rw [ht] at b1
  cases b1
  obtain ⟨t, t1, t2⟩ := b4 j v hv
  rw [hl] at t1
  cases t1
  rcases t2 with ⟨-, h⟩ | ⟨h, -⟩ | ⟨h, -⟩ | ⟨h, -⟩
  · exact h
  · cases h
  · cases h
  · cases h
theorem axq1_fa0 : ax_RO ax_wM1 (ax_XM 1) axu1_fa0 := by
  intro ρ hp hE hT
  obtain ⟨x, hx, x1, x2, x3⟩ := ax_gi hE 0 2147483649 2147483652 (by decide) rfl
  obtain ⟨x4, x5⟩ := ax_bi_pos x1 (by omega)
  obtain ⟨o0, ho0⟩ := ay_some hT (q := 173) (g := 11) (n := 58) (ax_wc ax_WW1 ax_cg_173) (ax_wn ax_WW1 ax_cn_11) (j := 72 / 4) (Nat.le_of_ble_eq_true rfl)
  refine ⟨(fun y hy => by cases hy), _, List.mem_cons_self, ρ, fun _ _ => rfl, ax_px hE rfl (fun y hy => ?_)⟩
  cases List.mem_singleton.mp hy
  show ax_XF (ax_XM 1) (500 + 50) [702, 72, ρ 0] hp
  refine (ax_XF_wr (x := 50) (Nat.le_of_ble_eq_true rfl)).mpr ⟨ay_ex_upd hT.1 (ax_cellT hT (q := 175) (g := 45) (ax_wc ax_WW1 ax_cg_175)), ay_ex_upd hT.1 (ax_cellT hT (q := 177) (g := 47) (ax_wc ax_WW1 ax_cg_177)), ay_ex_upd hT.1 (ax_cellT hT (q := 176) (g := 46) (ax_wc ax_WW1 ax_cg_176)), ay_ex_upd hT.1 (ax_cellT hT (q := 181) (g := 51) (ax_wc ax_WW1 ax_cg_181)), ay_ex_upd hT.1 (ax_cellT hT (q := 173) (g := 11) (ax_wc ax_WW1 ax_cg_173)), ?_⟩
  show ay_M50 0 (ay_at (ax_upd hp 702 (72) (ρ 0)) 175 0) (ay_at (ax_upd hp 702 (72) (ρ 0)) 177 0) (ay_at (ax_upd hp 702 (72) (ρ 0)) 176 0) (ay_at (ax_upd hp 702 (72) (ρ 0)) 181) (ay_at (ax_upd hp 702 (72) (ρ 0)) 173 18)
  have c0 : ay_at (ax_upd hp 702 (72) (ρ 0)) 175 0 = ay_at hp 175 0 := ay_upd_ne hT.1 (by decide) 0
  rw [c0]
  have c1 : ay_at (ax_upd hp 702 (72) (ρ 0)) 177 0 = ay_at hp 177 0 := ay_upd_ne hT.1 (by decide) 0
  rw [c1]
  have c2 : ay_at (ax_upd hp 702 (72) (ρ 0)) 176 0 = ay_at hp 176 0 := ay_upd_ne hT.1 (by decide) 0
  rw [c2]
  have c3 : ay_at (ax_upd hp 702 (72) (ρ 0)) 181 = ay_at hp 181 := funext (fun j => ay_upd_ne hT.1 (by decide) j)
  rw [c3]
  have c4 : ay_at (ax_upd hp 702 (72) (ρ 0)) 173 18 = some (ρ 0) := by rw [ay_upd_eq hT.1 rfl ho0, if_pos (by decide)]
  rw [c4]
  intro z
  have z := Option.some.inj z
  omega
theorem axq1_fa2 : ax_RO ax_wM1 (ax_XM 1) axu1_fa2 := by
  intro ρ hp hE hT
  obtain ⟨p1, p2, p3, p4, p5, p⟩ : ay_ex hp 182 ∧ ay_ex hp 180 ∧ ay_ex hp 179 ∧ ay_ex hp 173 ∧ ay_ex hp 173 ∧ ay_M52 0 (ay_at hp 182) (ay_at hp 180 0) (ay_at hp 179 0) (ay_at hp 173 18) (ay_at hp 173 24) := (ax_XF_lt (x := 52) (Nat.le_of_ble_eq_true rfl)).mp (ax_gx hE (52, []) (by decide))
  obtain ⟨x, hx, x1, x2, x3⟩ := ax_gi hE 0 2147483649 2147483652 (by decide) rfl
  obtain ⟨x4, x5⟩ := ax_bi_pos x1 (by omega)
  obtain ⟨o0, ho0⟩ := ay_some hT (q := 173) (g := 11) (n := 58) (ax_wc ax_WW1 ax_cg_173) (ax_wn ax_WW1 ax_cn_11) (j := 72 / 4) (Nat.le_of_ble_eq_true rfl)
  refine ⟨(fun y hy => by cases hy), _, List.mem_cons_self, ρ, fun _ _ => rfl, ax_px hE rfl (fun y hy => ?_)⟩
  cases List.mem_singleton.mp hy
  show ax_XF (ax_XM 1) (500 + 52) [702, 72, ρ 0] hp
  refine (ax_XF_wr (x := 52) (Nat.le_of_ble_eq_true rfl)).mpr ⟨ay_ex_upd hT.1 (ax_cellT hT (q := 182) (g := 52) (ax_wc ax_WW1 ax_cg_182)), ay_ex_upd hT.1 (ax_cellT hT (q := 180) (g := 50) (ax_wc ax_WW1 ax_cg_180)), ay_ex_upd hT.1 (ax_cellT hT (q := 179) (g := 49) (ax_wc ax_WW1 ax_cg_179)), ay_ex_upd hT.1 (ax_cellT hT (q := 173) (g := 11) (ax_wc ax_WW1 ax_cg_173)), ay_ex_upd hT.1 (ax_cellT hT (q := 173) (g := 11) (ax_wc ax_WW1 ax_cg_173)), ?_⟩
  show ay_M52 0 (ay_at (ax_upd hp 702 (72) (ρ 0)) 182) (ay_at (ax_upd hp 702 (72) (ρ 0)) 180 0) (ay_at (ax_upd hp 702 (72) (ρ 0)) 179 0) (ay_at (ax_upd hp 702 (72) (ρ 0)) 173 18) (ay_at (ax_upd hp 702 (72) (ρ 0)) 173 24)
  have c0 : ay_at (ax_upd hp 702 (72) (ρ 0)) 182 = ay_at hp 182 := funext (fun j => ay_upd_ne hT.1 (by decide) j)
  rw [c0]
  have c1 : ay_at (ax_upd hp 702 (72) (ρ 0)) 180 0 = ay_at hp 180 0 := ay_upd_ne hT.1 (by decide) 0
  rw [c1]
  have c2 : ay_at (ax_upd hp 702 (72) (ρ 0)) 179 0 = ay_at hp 179 0 := ay_upd_ne hT.1 (by decide) 0
  rw [c2]
  have c3 : ay_at (ax_upd hp 702 (72) (ρ 0)) 173 18 = some (ρ 0) := by rw [ay_upd_eq hT.1 rfl ho0, if_pos (by decide)]
  rw [c3]
  have c4 : ay_at (ax_upd hp 702 (72) (ρ 0)) 173 24 = ay_at hp 173 24 := by rw [ay_upd_eq hT.1 rfl ho0, if_neg (by decide)]
  rw [c4]
  refine ⟨fun z => ?_, p.2⟩
  have z := Option.some.inj z
  omega
theorem axq1_ly0 : ax_RO ax_wM1 (ax_XM 1) axu1_ly0 := by
  intro ρ hp hE hT
  obtain ⟨p1, p2, p3, p4, p5, p6, p⟩ : ay_ex hp 185 ∧ ay_ex hp 173 ∧ ay_ex hp 182 ∧ ay_ex hp 180 ∧ ay_ex hp 179 ∧ ay_ex hp 173 ∧ ay_M40 0 (ρ 1) (ρ 2) (ρ 3) (ρ 4) (ρ 5) (ay_at hp 185) (ay_at hp 173 27) (ay_at hp 182) (ay_at hp 180 0) (ay_at hp 179 0) (ay_at hp 173 28) := (ax_XF_lt (x := 40) (Nat.le_of_ble_eq_true rfl)).mp (ax_gx hE (40, [7, 11, 15, 19, 23]) ax_m0)
  replace p : ay_pg 0 (ρ 1 / 4) (ρ 2 / 4) (ρ 3 / 4) (ρ 4 / 4) (ρ 5 / 4) (ay_at hp 185) (ay_ln (ay_at hp 173 27)) (ay_at hp 182) (ay_ln (ay_at hp 180 0)) (ay_ln (ay_at hp 179 0)) (ay_ln (ay_at hp 173 28)) := p
  obtain ⟨L, hL, L1, L2, L3⟩ := ax_gi hE 0 2147483648 2147483748 (by decide) rfl
  obtain ⟨L4, L5⟩ := ax_bi_pos L1 (by omega)
  have d4 : ∀ z : Nat, 4 * z / 4 = z := fun z => by omega
  have fL := ay_gfj hE 730 0 3 180 0 ax_m1 (ax_vlq rfl rfl) (ax_vlj rfl rfl)
  replace fL : ay_at hp 180 0 = some (ρ 0) := fL
  have lL : ay_ln (ay_at hp 180 0) = L := by rw [fL, hL]; show 4 * L / 4 = L; omega
  obtain ⟨u0, hu0⟩ := ay_some hT (q := 179) (g := 49) (n := 2) (ax_wc ax_WW1 ax_cg_179) (ax_wn ax_WW1 ax_cn_49) (j := 0) (by decide)
  obtain ⟨w1, w2, w3, w4⟩ := ay_int hT (q := 179) (g := 49) (n := 2) (lo := 2147483648) (hi := 2147483688) (ax_wc ax_WW1 ax_cg_179) rfl hu0
  have hun : ay_ln (ay_at hp 179 0) ≤ 40 := by
    rw [hu0]
    show u0 / 4 ≤ 40
    obtain ⟨g1, g2⟩ := ax_bi_pos w2 w3
    omega
  have hb := (ay_pg_bound p).1
  rw [lL] at hb
  refine ⟨fun y hy => ?_, _, List.mem_cons_self, ρ, fun _ _ => rfl, ax_px hE rfl (fun y hy => by cases hy)⟩
  cases List.mem_singleton.mp hy
  show 2147483648 ≤ rx_bi (ρ 0 / 4) ∧ rx_bi (ρ 0 / 4) ≤ 2147483747
  rw [hL, d4, ax_bi_nat (by omega)]
  omega

theorem axq1_ly1 : ax_RO ax_wM1 (ax_XM 1) axu1_ly1 := by
  intro ρ hp hE hT
  obtain ⟨p1, p2, p3, p4, p5, p6, p⟩ : ay_ex hp 185 ∧ ay_ex hp 173 ∧ ay_ex hp 182 ∧ ay_ex hp 180 ∧ ay_ex hp 179 ∧ ay_ex hp 173 ∧ ay_M40 0 (ρ 3) (ρ 4) (ρ 5) (ρ 6) (ρ 7) (ay_at hp 185) (ay_at hp 173 27) (ay_at hp 182) (ay_at hp 180 0) (ay_at hp 179 0) (ay_at hp 173 28) := (ax_XF_lt (x := 40) (Nat.le_of_ble_eq_true rfl)).mp (ax_gx hE (40, [15, 19, 23, 27, 31]) ax_m0)
  replace p : ay_pg 0 (ρ 3 / 4) (ρ 4 / 4) (ρ 5 / 4) (ρ 6 / 4) (ρ 7 / 4) (ay_at hp 185) (ay_ln (ay_at hp 173 27)) (ay_at hp 182) (ay_ln (ay_at hp 180 0)) (ay_ln (ay_at hp 179 0)) (ay_ln (ay_at hp 173 28)) := p
  obtain ⟨j, hj, j1, j2, j3⟩ := ax_gi hE 1 2147483648 2147483847 (by decide) rfl
  obtain ⟨j4, j5⟩ := ax_bi_pos j1 (by omega)
  obtain ⟨L, hL, L1, L2, L3⟩ := ax_gi hE 2 2147483648 2147483747 (by decide) rfl
  obtain ⟨L4, L5⟩ := ax_bi_pos L1 (by omega)
  have d4 : ∀ z : Nat, 4 * z / 4 = z := fun z => by omega
  have fL := ay_gfj hE 730 0 11 180 0 ax_m1 (ax_vlq rfl rfl) (ax_vlj rfl rfl)
  replace fL : ay_at hp 180 0 = some (ρ 2) := fL
  have lL : ay_ln (ay_at hp 180 0) = L := by rw [fL, hL]; show 4 * L / 4 = L; omega
  have hj2 : ρ 1 = 4 * (0 + L) := ay_s hE 0 11 7 (a := 0) (by decide) (ax_vl_c (v := 0) (by decide)) hL (by decide) (by omega)
  obtain ⟨o0, ho0⟩ := ay_some hT (q := 182) (g := 52) (n := 200) (ax_wc ax_WW1 ax_cg_182) (ax_wn ax_WW1 ax_cn_52) (j := ρ 1 / 4) (by omega)
  refine ⟨(fun y hy => by cases hy), _, List.mem_cons_self, ρ, fun _ _ => rfl, ax_px hE rfl (fun y hy => ?_)⟩
  cases List.mem_singleton.mp hy
  show ax_XF (ax_XM 1) (500 + 40) [738, ρ 1, ρ 0, ρ 3, ρ 4, ρ 5, ρ 6, ρ 7] hp
  refine (ax_XF_wr (x := 40) (Nat.le_of_ble_eq_true rfl)).mpr ⟨ay_ex_upd hT.1 (ax_cellT hT (q := 185) (g := 55) (ax_wc ax_WW1 ax_cg_185)), ay_ex_upd hT.1 (ax_cellT hT (q := 173) (g := 11) (ax_wc ax_WW1 ax_cg_173)), ay_ex_upd hT.1 (ax_cellT hT (q := 182) (g := 52) (ax_wc ax_WW1 ax_cg_182)), ay_ex_upd hT.1 (ax_cellT hT (q := 180) (g := 50) (ax_wc ax_WW1 ax_cg_180)), ay_ex_upd hT.1 (ax_cellT hT (q := 179) (g := 49) (ax_wc ax_WW1 ax_cg_179)), ay_ex_upd hT.1 (ax_cellT hT (q := 173) (g := 11) (ax_wc ax_WW1 ax_cg_173)), ?_⟩
  show ay_M40 0 (ρ 3) (ρ 4) (ρ 5) (ρ 6) (ρ 7) (ay_at (ax_upd hp 738 (ρ 1) (ρ 0)) 185) (ay_at (ax_upd hp 738 (ρ 1) (ρ 0)) 173 27) (ay_at (ax_upd hp 738 (ρ 1) (ρ 0)) 182) (ay_at (ax_upd hp 738 (ρ 1) (ρ 0)) 180 0) (ay_at (ax_upd hp 738 (ρ 1) (ρ 0)) 179 0) (ay_at (ax_upd hp 738 (ρ 1) (ρ 0)) 173 28)
  have c0 : ay_at (ax_upd hp 738 (ρ 1) (ρ 0)) 185 = ay_at hp 185 := funext (fun j => ay_upd_ne hT.1 (by decide) j)
  rw [c0]
  have c1 : ay_at (ax_upd hp 738 (ρ 1) (ρ 0)) 173 27 = ay_at hp 173 27 := ay_upd_ne hT.1 (by decide) 27
  rw [c1]
  have c2 : ∀ j, ay_at (ax_upd hp 738 (ρ 1) (ρ 0)) 182 j = if j = (ρ 1) / 4 then some (ρ 0) else ay_at hp 182 j := fun j => ay_upd_eq hT.1 rfl ho0 j
  have c3 : ay_at (ax_upd hp 738 (ρ 1) (ρ 0)) 180 0 = ay_at hp 180 0 := ay_upd_ne hT.1 (by decide) 0
  rw [c3]
  have c4 : ay_at (ax_upd hp 738 (ρ 1) (ρ 0)) 179 0 = ay_at hp 179 0 := ay_upd_ne hT.1 (by decide) 0
  rw [c4]
  have c5 : ay_at (ax_upd hp 738 (ρ 1) (ρ 0)) 173 28 = ay_at hp 173 28 := ay_upd_ne hT.1 (by decide) 28
  rw [c5]
  refine ay_pg_far p (fun j hj => rfl) (fun j hj => ?_)
  rw [lL] at hj
  rw [c2, if_neg (by omega)]
theorem axq1_ly2 : ax_RO ax_wM1 (ax_XM 1) axu1_ly2 := by
  intro ρ hp hE hT
  obtain ⟨p1, p2, p⟩ : ay_ex hp 182 ∧ ay_ex hp 180 ∧ ay_M26 (1) (ay_at hp 182) (ay_at hp 180 1) := (ax_XF_lt (x := 26) (Nat.le_of_ble_eq_true rfl)).mp (ax_gx hE (26, []) ax_m0)
  obtain ⟨j, hj, j1, j2, j3⟩ := ax_gi hE 1 2147483648 2147483747 (by decide) rfl
  obtain ⟨j4, j5⟩ := ax_bi_pos j1 (by omega)
  obtain ⟨o0, ho0⟩ := ay_some hT (q := 182) (g := 52) (n := 200) (ax_wc ax_WW1 ax_cg_182) (ax_wn ax_WW1 ax_cn_52) (j := ρ 1 / 4) (by omega)
  obtain ⟨u0, hu0⟩ := ay_some hT (q := 180) (g := 50) (n := 2) (ax_wc ax_WW1 ax_cg_180) (ax_wn ax_WW1 ax_cn_50) (j := 1) (by decide)
  obtain ⟨w1, w2, w3, w4⟩ := ay_int hT (q := 180) (g := 50) (n := 2) (lo := 2147483648) (hi := 2147483748) (ax_wc ax_WW1 ax_cg_180) rfl hu0
  have hrd : ay_ln (ay_at hp 180 1) ≤ 100 := by
    rw [hu0]
    show u0 / 4 ≤ 100
    obtain ⟨g1, g2⟩ := ax_bi_pos w2 w3
    omega
  refine ⟨(fun y hy => by cases hy), _, List.mem_cons_self, ρ, fun _ _ => rfl, ax_px hE rfl (fun y hy => ?_)⟩
  cases List.mem_singleton.mp hy
  show ax_XF (ax_XM 1) (500 + 26) [738, ρ 1, ρ 0] hp
  refine (ax_XF_wr (x := 26) (Nat.le_of_ble_eq_true rfl)).mpr ⟨ay_ex_upd hT.1 (ax_cellT hT (q := 182) (g := 52) (ax_wc ax_WW1 ax_cg_182)), ay_ex_upd hT.1 (ax_cellT hT (q := 180) (g := 50) (ax_wc ax_WW1 ax_cg_180)), ?_⟩
  show ay_M26 (1) (ay_at (ax_upd hp 738 (ρ 1) (ρ 0)) 182) (ay_at (ax_upd hp 738 (ρ 1) (ρ 0)) 180 1)
  have c0 : ∀ j, ay_at (ax_upd hp 738 (ρ 1) (ρ 0)) 182 j = if j = (ρ 1) / 4 then some (ρ 0) else ay_at hp 182 j := fun j => ay_upd_eq hT.1 rfl ho0 j
  have c1 : ay_at (ax_upd hp 738 (ρ 1) (ρ 0)) 180 1 = ay_at hp 180 1 := ay_upd_ne hT.1 (by decide) 1
  rw [c1]
  intro k hk
  rw [ay_ht_same (ru := ay_at hp 182) (fun j hj => by rw [c0, if_neg (by omega)])]
  exact p k hk
theorem axq1_lyO : ax_RO ax_wM1 (ax_XM 1) axu1_lyO := by
  intro ρ hp hE hT
  obtain ⟨p1, p2, p3, p4, p5, p6, p⟩ : ay_ex hp 185 ∧ ay_ex hp 173 ∧ ay_ex hp 182 ∧ ay_ex hp 180 ∧ ay_ex hp 179 ∧ ay_ex hp 173 ∧ ay_M40 0 (4) (0) (4) (8) (4) (ay_at hp 185) (ay_at hp 173 27) (ay_at hp 182) (ay_at hp 180 0) (ay_at hp 179 0) (ay_at hp 173 28) := (ax_XF_lt (x := 40) (Nat.le_of_ble_eq_true rfl)).mp (ax_gx hE (40, [4, 0, 4, 8, 4]) ax_m0)
  replace p : ay_pg 0 1 0 1 2 1 (ay_at hp 185) (ay_ln (ay_at hp 173 27)) (ay_at hp 182) (ay_ln (ay_at hp 180 0)) (ay_ln (ay_at hp 179 0)) (ay_ln (ay_at hp 173 28)) := p
  obtain ⟨L, hL, L1, L2, L3⟩ := ax_gi hE 1 2147483648 2147483747 (by decide) rfl
  obtain ⟨L4, L5⟩ := ax_bi_pos L1 (by omega)
  obtain ⟨c, hc, c1, c2, c3⟩ := ax_gi hE 2 2147483648 2147484650 (by decide) rfl
  obtain ⟨c4, c5⟩ := ax_bi_pos c1 (by omega)
  have d4 : ∀ z : Nat, 4 * z / 4 = z := fun z => by omega
  have fL := ay_gfj hE 730 0 7 180 0 ax_m1 (ax_vlq rfl rfl) (ax_vlj rfl rfl)
  replace fL : ay_at hp 180 0 = some (ρ 1) := fL
  have lL : ay_ln (ay_at hp 180 0) = L := by rw [fL, hL]; show 4 * L / 4 = L; omega
  have hL2 : ρ 0 = 4 * (L + 1) := ay_s hE 7 4 3 (b := 1) (by decide) hL (ax_vl_c (v := 4) (by decide)) (by omega) (by decide)
  have hj2 : ρ 3 = 4 * (0 + L) := ay_s hE 0 7 15 (a := 0) (by decide) (ax_vl_c (v := 0) (by decide)) hL (by decide) (by omega)
  have fr := ay_gf hE 738 15 11 182 ax_m4 (ax_vlq rfl rfl)
  replace fr : ay_at hp 182 (ρ 3 / 4) = some (ρ 2) := fr
  rw [hj2, d4, hc] at fr
  replace fr : ay_at hp 182 (100 * 0 + L) = some (4 * c) := fr
  rw [lL] at p
  obtain ⟨o0, ho0⟩ := ay_some hT (q := 180) (g := 50) (n := 2) (ax_wc ax_WW1 ax_cg_180) (ax_wn ax_WW1 ax_cn_50) (j := 0 / 4) (Nat.le_of_ble_eq_true rfl)
  refine ⟨(fun y hy => by cases hy), _, List.mem_cons_self, ρ, fun _ _ => rfl, ax_px hE rfl (fun y hy => ?_)⟩
  cases List.mem_singleton.mp hy
  show ax_XF (ax_XM 1) (500 + 40) [730, 0, ρ 0, 0, 0, 4, 0, 4] hp
  refine (ax_XF_wr (x := 40) (Nat.le_of_ble_eq_true rfl)).mpr ⟨ay_ex_upd hT.1 (ax_cellT hT (q := 185) (g := 55) (ax_wc ax_WW1 ax_cg_185)), ay_ex_upd hT.1 (ax_cellT hT (q := 173) (g := 11) (ax_wc ax_WW1 ax_cg_173)), ay_ex_upd hT.1 (ax_cellT hT (q := 182) (g := 52) (ax_wc ax_WW1 ax_cg_182)), ay_ex_upd hT.1 (ax_cellT hT (q := 180) (g := 50) (ax_wc ax_WW1 ax_cg_180)), ay_ex_upd hT.1 (ax_cellT hT (q := 179) (g := 49) (ax_wc ax_WW1 ax_cg_179)), ay_ex_upd hT.1 (ax_cellT hT (q := 173) (g := 11) (ax_wc ax_WW1 ax_cg_173)), ?_⟩
  show ay_M40 0 (0) (0) (4) (0) (4) (ay_at (ax_upd hp 730 (0) (ρ 0)) 185) (ay_at (ax_upd hp 730 (0) (ρ 0)) 173 27) (ay_at (ax_upd hp 730 (0) (ρ 0)) 182) (ay_at (ax_upd hp 730 (0) (ρ 0)) 180 0) (ay_at (ax_upd hp 730 (0) (ρ 0)) 179 0) (ay_at (ax_upd hp 730 (0) (ρ 0)) 173 28)
  have c0 : ay_at (ax_upd hp 730 (0) (ρ 0)) 185 = ay_at hp 185 := funext (fun j => ay_upd_ne hT.1 (by decide) j)
  rw [c0]
  have c1 : ay_at (ax_upd hp 730 (0) (ρ 0)) 173 27 = ay_at hp 173 27 := ay_upd_ne hT.1 (by decide) 27
  rw [c1]
  have c2 : ay_at (ax_upd hp 730 (0) (ρ 0)) 182 = ay_at hp 182 := funext (fun j => ay_upd_ne hT.1 (by decide) j)
  rw [c2]
  have c3 : ay_at (ax_upd hp 730 (0) (ρ 0)) 180 0 = some (ρ 0) := by rw [ay_upd_eq hT.1 rfl ho0, if_pos (by decide)]
  rw [c3]
  have c4 : ay_at (ax_upd hp 730 (0) (ρ 0)) 179 0 = ay_at hp 179 0 := ay_upd_ne hT.1 (by decide) 0
  rw [c4]
  have c5 : ay_at (ax_upd hp 730 (0) (ρ 0)) 173 28 = ay_at hp 173 28 := ay_upd_ne hT.1 (by decide) 28
  rw [c5]
  show ay_pg 0 0 0 1 0 1 (ay_at hp 185) (ay_ln (ay_at hp 173 27)) (ay_at hp 182) (ρ 0 / 4) (ay_ln (ay_at hp 179 0)) (ay_ln (ay_at hp 173 28))
  rw [hL2, d4]
  exact ay_pg_O p fr (by omega)
theorem axq1_lyB : ax_RO ax_wM1 (ax_XM 1) axu1_lyB := by
  intro ρ hp hE hT
  obtain ⟨p1, p2, p3, p4, p5, p6, p⟩ : ay_ex hp 185 ∧ ay_ex hp 173 ∧ ay_ex hp 182 ∧ ay_ex hp 180 ∧ ay_ex hp 179 ∧ ay_ex hp 173 ∧ ay_M40 0 (0) (4) (4) (4) (0) (ay_at hp 185) (ay_at hp 173 27) (ay_at hp 182) (ay_at hp 180 0) (ay_at hp 179 0) (ay_at hp 173 28) := (ax_XF_lt (x := 40) (Nat.le_of_ble_eq_true rfl)).mp (ax_gx hE (40, [0, 4, 4, 4, 0]) ax_m0)
  replace p : ay_pg 0 0 1 1 1 0 (ay_at hp 185) (ay_ln (ay_at hp 173 27)) (ay_at hp 182) (ay_ln (ay_at hp 180 0)) (ay_ln (ay_at hp 179 0)) (ay_ln (ay_at hp 173 28)) := p
  obtain ⟨L, hL, L1, L2, L3⟩ := ax_gi hE 1 2147483648 2147483747 (by decide) rfl
  obtain ⟨L4, L5⟩ := ax_bi_pos L1 (by omega)
  obtain ⟨c, hc, c1, c2, c3⟩ := ax_gi hE 2 2147484651 2147484655 (by decide) rfl
  obtain ⟨c4, c5⟩ := ax_bi_pos c1 (by omega)
  have d4 : ∀ z : Nat, 4 * z / 4 = z := fun z => by omega
  have fL := ay_gfj hE 730 0 7 180 0 ax_m1 (ax_vlq rfl rfl) (ax_vlj rfl rfl)
  replace fL : ay_at hp 180 0 = some (ρ 1) := fL
  have lL : ay_ln (ay_at hp 180 0) = L := by rw [fL, hL]; show 4 * L / 4 = L; omega
  have hL2 : ρ 0 = 4 * (L + 1) := ay_s hE 7 4 3 (b := 1) (by decide) hL (ax_vl_c (v := 4) (by decide)) (by omega) (by decide)
  have hj2 : ρ 3 = 4 * (0 + L) := ay_s hE 0 7 15 (a := 0) (by decide) (ax_vl_c (v := 0) (by decide)) hL (by decide) (by omega)
  have fr := ay_gf hE 738 15 11 182 ax_m4 (ax_vlq rfl rfl)
  replace fr : ay_at hp 182 (ρ 3 / 4) = some (ρ 2) := fr
  rw [hj2, d4, hc] at fr
  replace fr : ay_at hp 182 (100 * 0 + L) = some (4 * c) := fr
  rw [lL] at p
  obtain ⟨o0, ho0⟩ := ay_some hT (q := 180) (g := 50) (n := 2) (ax_wc ax_WW1 ax_cg_180) (ax_wn ax_WW1 ax_cn_50) (j := 0 / 4) (Nat.le_of_ble_eq_true rfl)
  refine ⟨(fun y hy => by cases hy), _, List.mem_cons_self, ρ, fun _ _ => rfl, ax_px hE rfl (fun y hy => ?_)⟩
  cases List.mem_singleton.mp hy
  show ax_XF (ax_XM 1) (500 + 40) [730, 0, ρ 0, 0, 0, 4, 0, 0] hp
  refine (ax_XF_wr (x := 40) (Nat.le_of_ble_eq_true rfl)).mpr ⟨ay_ex_upd hT.1 (ax_cellT hT (q := 185) (g := 55) (ax_wc ax_WW1 ax_cg_185)), ay_ex_upd hT.1 (ax_cellT hT (q := 173) (g := 11) (ax_wc ax_WW1 ax_cg_173)), ay_ex_upd hT.1 (ax_cellT hT (q := 182) (g := 52) (ax_wc ax_WW1 ax_cg_182)), ay_ex_upd hT.1 (ax_cellT hT (q := 180) (g := 50) (ax_wc ax_WW1 ax_cg_180)), ay_ex_upd hT.1 (ax_cellT hT (q := 179) (g := 49) (ax_wc ax_WW1 ax_cg_179)), ay_ex_upd hT.1 (ax_cellT hT (q := 173) (g := 11) (ax_wc ax_WW1 ax_cg_173)), ?_⟩
  show ay_M40 0 (0) (0) (4) (0) (0) (ay_at (ax_upd hp 730 (0) (ρ 0)) 185) (ay_at (ax_upd hp 730 (0) (ρ 0)) 173 27) (ay_at (ax_upd hp 730 (0) (ρ 0)) 182) (ay_at (ax_upd hp 730 (0) (ρ 0)) 180 0) (ay_at (ax_upd hp 730 (0) (ρ 0)) 179 0) (ay_at (ax_upd hp 730 (0) (ρ 0)) 173 28)
  have c0 : ay_at (ax_upd hp 730 (0) (ρ 0)) 185 = ay_at hp 185 := funext (fun j => ay_upd_ne hT.1 (by decide) j)
  rw [c0]
  have c1 : ay_at (ax_upd hp 730 (0) (ρ 0)) 173 27 = ay_at hp 173 27 := ay_upd_ne hT.1 (by decide) 27
  rw [c1]
  have c2 : ay_at (ax_upd hp 730 (0) (ρ 0)) 182 = ay_at hp 182 := funext (fun j => ay_upd_ne hT.1 (by decide) j)
  rw [c2]
  have c3 : ay_at (ax_upd hp 730 (0) (ρ 0)) 180 0 = some (ρ 0) := by rw [ay_upd_eq hT.1 rfl ho0, if_pos (by decide)]
  rw [c3]
  have c4 : ay_at (ax_upd hp 730 (0) (ρ 0)) 179 0 = ay_at hp 179 0 := ay_upd_ne hT.1 (by decide) 0
  rw [c4]
  have c5 : ay_at (ax_upd hp 730 (0) (ρ 0)) 173 28 = ay_at hp 173 28 := ay_upd_ne hT.1 (by decide) 28
  rw [c5]
  show ay_pg 0 0 0 1 0 0 (ay_at hp 185) (ay_ln (ay_at hp 173 27)) (ay_at hp 182) (ρ 0 / 4) (ay_ln (ay_at hp 179 0)) (ay_ln (ay_at hp 173 28))
  rw [hL2, d4]
  exact ay_pg_B p fr (by omega) (by omega)
theorem axq1_lyM : ax_RO ax_wM1 (ax_XM 1) axu1_lyM := by
  intro ρ hp hE hT
  obtain ⟨p1, p2, p3, p4, p5, p6, p⟩ : ay_ex hp 185 ∧ ay_ex hp 173 ∧ ay_ex hp 182 ∧ ay_ex hp 180 ∧ ay_ex hp 179 ∧ ay_ex hp 173 ∧ ay_M40 0 (0) (0) (8) (4) (4) (ay_at hp 185) (ay_at hp 173 27) (ay_at hp 182) (ay_at hp 180 0) (ay_at hp 179 0) (ay_at hp 173 28) := (ax_XF_lt (x := 40) (Nat.le_of_ble_eq_true rfl)).mp (ax_gx hE (40, [0, 0, 8, 4, 4]) ax_m0)
  replace p : ay_pg 0 0 0 2 1 1 (ay_at hp 185) (ay_ln (ay_at hp 173 27)) (ay_at hp 182) (ay_ln (ay_at hp 180 0)) (ay_ln (ay_at hp 179 0)) (ay_ln (ay_at hp 173 28)) := p
  obtain ⟨L, hL, L1, L2, L3⟩ := ax_gi hE 1 2147483648 2147483747 (by decide) rfl
  obtain ⟨L4, L5⟩ := ax_bi_pos L1 (by omega)
  obtain ⟨c, hc, c1, c2, c3⟩ := ax_gi hE 2 2147484656 2147484656 (by decide) rfl
  obtain ⟨c4, c5⟩ := ax_bi_pos c1 (by omega)
  have d4 : ∀ z : Nat, 4 * z / 4 = z := fun z => by omega
  have fL := ay_gfj hE 730 0 7 180 0 ax_m1 (ax_vlq rfl rfl) (ax_vlj rfl rfl)
  replace fL : ay_at hp 180 0 = some (ρ 1) := fL
  have lL : ay_ln (ay_at hp 180 0) = L := by rw [fL, hL]; show 4 * L / 4 = L; omega
  have hL2 : ρ 0 = 4 * (L + 1) := ay_s hE 7 4 3 (b := 1) (by decide) hL (ax_vl_c (v := 4) (by decide)) (by omega) (by decide)
  have hj2 : ρ 3 = 4 * (0 + L) := ay_s hE 0 7 15 (a := 0) (by decide) (ax_vl_c (v := 0) (by decide)) hL (by decide) (by omega)
  have fr := ay_gf hE 738 15 11 182 ax_m4 (ax_vlq rfl rfl)
  replace fr : ay_at hp 182 (ρ 3 / 4) = some (ρ 2) := fr
  rw [hj2, d4, hc] at fr
  replace fr : ay_at hp 182 (100 * 0 + L) = some (4 * c) := fr
  rw [lL] at p
  obtain ⟨o0, ho0⟩ := ay_some hT (q := 180) (g := 50) (n := 2) (ax_wc ax_WW1 ax_cg_180) (ax_wn ax_WW1 ax_cn_50) (j := 0 / 4) (Nat.le_of_ble_eq_true rfl)
  refine ⟨(fun y hy => by cases hy), _, List.mem_cons_self, ρ, fun _ _ => rfl, ax_px hE rfl (fun y hy => ?_)⟩
  cases List.mem_singleton.mp hy
  show ax_XF (ax_XM 1) (500 + 40) [730, 0, ρ 0, 0, 0, 8, 0, 4] hp
  refine (ax_XF_wr (x := 40) (Nat.le_of_ble_eq_true rfl)).mpr ⟨ay_ex_upd hT.1 (ax_cellT hT (q := 185) (g := 55) (ax_wc ax_WW1 ax_cg_185)), ay_ex_upd hT.1 (ax_cellT hT (q := 173) (g := 11) (ax_wc ax_WW1 ax_cg_173)), ay_ex_upd hT.1 (ax_cellT hT (q := 182) (g := 52) (ax_wc ax_WW1 ax_cg_182)), ay_ex_upd hT.1 (ax_cellT hT (q := 180) (g := 50) (ax_wc ax_WW1 ax_cg_180)), ay_ex_upd hT.1 (ax_cellT hT (q := 179) (g := 49) (ax_wc ax_WW1 ax_cg_179)), ay_ex_upd hT.1 (ax_cellT hT (q := 173) (g := 11) (ax_wc ax_WW1 ax_cg_173)), ?_⟩
  show ay_M40 0 (0) (0) (8) (0) (4) (ay_at (ax_upd hp 730 (0) (ρ 0)) 185) (ay_at (ax_upd hp 730 (0) (ρ 0)) 173 27) (ay_at (ax_upd hp 730 (0) (ρ 0)) 182) (ay_at (ax_upd hp 730 (0) (ρ 0)) 180 0) (ay_at (ax_upd hp 730 (0) (ρ 0)) 179 0) (ay_at (ax_upd hp 730 (0) (ρ 0)) 173 28)
  have c0 : ay_at (ax_upd hp 730 (0) (ρ 0)) 185 = ay_at hp 185 := funext (fun j => ay_upd_ne hT.1 (by decide) j)
  rw [c0]
  have c1 : ay_at (ax_upd hp 730 (0) (ρ 0)) 173 27 = ay_at hp 173 27 := ay_upd_ne hT.1 (by decide) 27
  rw [c1]
  have c2 : ay_at (ax_upd hp 730 (0) (ρ 0)) 182 = ay_at hp 182 := funext (fun j => ay_upd_ne hT.1 (by decide) j)
  rw [c2]
  have c3 : ay_at (ax_upd hp 730 (0) (ρ 0)) 180 0 = some (ρ 0) := by rw [ay_upd_eq hT.1 rfl ho0, if_pos (by decide)]
  rw [c3]
  have c4 : ay_at (ax_upd hp 730 (0) (ρ 0)) 179 0 = ay_at hp 179 0 := ay_upd_ne hT.1 (by decide) 0
  rw [c4]
  have c5 : ay_at (ax_upd hp 730 (0) (ρ 0)) 173 28 = ay_at hp 173 28 := ay_upd_ne hT.1 (by decide) 28
  rw [c5]
  show ay_pg 0 0 0 2 0 1 (ay_at hp 185) (ay_ln (ay_at hp 173 27)) (ay_at hp 182) (ρ 0 / 4) (ay_ln (ay_at hp 179 0)) (ay_ln (ay_at hp 173 28))
  rw [hL2, d4]
  exact ay_pg_M p (by rw [fr, show c = 1008 by omega])
theorem axq1_pu0 : ax_RO ax_wM1 (ax_XM 1) axu1_pu0 := by
  intro ρ hp hE hT
  obtain ⟨p1, p2, p3, p4, p5, p6, p⟩ : ay_ex hp 185 ∧ ay_ex hp 173 ∧ ay_ex hp 182 ∧ ay_ex hp 180 ∧ ay_ex hp 179 ∧ ay_ex hp 173 ∧ ay_M40 0 (ρ 1) (ρ 2) (ρ 3) (ρ 4) (ρ 5) (ay_at hp 185) (ay_at hp 173 27) (ay_at hp 182) (ay_at hp 180 0) (ay_at hp 179 0) (ay_at hp 173 28) := (ax_XF_lt (x := 40) (Nat.le_of_ble_eq_true rfl)).mp (ax_gx hE (40, [7, 11, 15, 19, 23]) (by decide))
  replace p : ay_pg 0 (ρ 1 / 4) (ρ 2 / 4) (ρ 3 / 4) (ρ 4 / 4) (ρ 5 / 4) (ay_at hp 185) (ay_ln (ay_at hp 173 27)) (ay_at hp 182) (ay_ln (ay_at hp 180 0)) (ay_ln (ay_at hp 179 0)) (ay_ln (ay_at hp 173 28)) := p
  obtain ⟨o, ho, o1, o2, o3⟩ := ax_gi hE 0 2147483648 2147483748 (by decide) rfl
  obtain ⟨o4, o5⟩ := ax_bi_pos o1 (by omega)
  have d4 : ∀ z : Nat, 4 * z / 4 = z := fun z => by omega
  have fo := ay_gfj hE 702 108 3 173 27 (by decide) (ax_vlq rfl rfl) (ax_vlj rfl rfl)
  replace fo : ay_at hp 173 27 = some (ρ 0) := fo
  have lo : ay_ln (ay_at hp 173 27) = o := by rw [fo, ho]; show 4 * o / 4 = o; omega
  obtain ⟨u0, hu0⟩ := ay_some hT (q := 179) (g := 49) (n := 2) (ax_wc ax_WW1 ax_cg_179) (ax_wn ax_WW1 ax_cn_49) (j := 0) (by decide)
  obtain ⟨w1, w2, w3, w4⟩ := ay_int hT (q := 179) (g := 49) (n := 2) (lo := 2147483648) (hi := 2147483688) (ax_wc ax_WW1 ax_cg_179) rfl hu0
  have hun : ay_ln (ay_at hp 179 0) ≤ 40 := by
    rw [hu0]
    show u0 / 4 ≤ 40
    obtain ⟨g1, g2⟩ := ax_bi_pos w2 w3
    omega
  have hb := (ay_pg_bound p).2
  rw [lo] at hb
  refine ⟨fun y hy => ?_, _, List.mem_cons_self, ρ, fun _ _ => rfl, ax_px hE rfl (fun y hy => by cases hy)⟩
  cases List.mem_singleton.mp hy
  show 2147483648 ≤ rx_bi (ρ 0 / 4) ∧ rx_bi (ρ 0 / 4) ≤ 2147483747
  rw [ho, d4, ax_bi_nat (by omega)]
  omega

theorem axq1_pu1 : ax_RO ax_wM1 (ax_XM 1) axu1_pu1 := by
  intro ρ hp hE hT
  obtain ⟨p1, p2, p3, p4, p5, p6, p⟩ : ay_ex hp 185 ∧ ay_ex hp 173 ∧ ay_ex hp 182 ∧ ay_ex hp 180 ∧ ay_ex hp 179 ∧ ay_ex hp 173 ∧ ay_M40 0 (ρ 2) (ρ 3) (ρ 4) (ρ 5) (ρ 6) (ay_at hp 185) (ay_at hp 173 27) (ay_at hp 182) (ay_at hp 180 0) (ay_at hp 179 0) (ay_at hp 173 28) := (ax_XF_lt (x := 40) (Nat.le_of_ble_eq_true rfl)).mp (ax_gx hE (40, [11, 15, 19, 23, 27]) (by decide))
  replace p : ay_pg 0 (ρ 2 / 4) (ρ 3 / 4) (ρ 4 / 4) (ρ 5 / 4) (ρ 6 / 4) (ay_at hp 185) (ay_ln (ay_at hp 173 27)) (ay_at hp 182) (ay_ln (ay_at hp 180 0)) (ay_ln (ay_at hp 179 0)) (ay_ln (ay_at hp 173 28)) := p
  obtain ⟨o, ho, o1, o2, o3⟩ := ax_gi hE 1 2147483648 2147483747 (by decide) rfl
  obtain ⟨o4, o5⟩ := ax_bi_pos o1 (by omega)
  have d4 : ∀ z : Nat, 4 * z / 4 = z := fun z => by omega
  have fo := ay_gfj hE 702 108 7 173 27 (by decide) (ax_vlq rfl rfl) (ax_vlj rfl rfl)
  replace fo : ay_at hp 173 27 = some (ρ 1) := fo
  have lo : ay_ln (ay_at hp 173 27) = o := by rw [fo, ho]; show 4 * o / 4 = o; omega
  obtain ⟨o0, ho0⟩ := ay_some hT (q := 185) (g := 55) (n := 100) (ax_wc ax_WW1 ax_cg_185) (ax_wn ax_WW1 ax_cn_55) (j := ρ 1 / 4) (by omega)
  refine ⟨(fun y hy => by cases hy), _, List.mem_cons_self, ρ, fun _ _ => rfl, ax_px hE rfl (fun y hy => ?_)⟩
  cases List.mem_singleton.mp hy
  show ax_XF (ax_XM 1) (500 + 40) [750, ρ 1, ρ 0, ρ 2, ρ 3, ρ 4, ρ 5, ρ 6] hp
  refine (ax_XF_wr (x := 40) (Nat.le_of_ble_eq_true rfl)).mpr ⟨ay_ex_upd hT.1 (ax_cellT hT (q := 185) (g := 55) (ax_wc ax_WW1 ax_cg_185)), ay_ex_upd hT.1 (ax_cellT hT (q := 173) (g := 11) (ax_wc ax_WW1 ax_cg_173)), ay_ex_upd hT.1 (ax_cellT hT (q := 182) (g := 52) (ax_wc ax_WW1 ax_cg_182)), ay_ex_upd hT.1 (ax_cellT hT (q := 180) (g := 50) (ax_wc ax_WW1 ax_cg_180)), ay_ex_upd hT.1 (ax_cellT hT (q := 179) (g := 49) (ax_wc ax_WW1 ax_cg_179)), ay_ex_upd hT.1 (ax_cellT hT (q := 173) (g := 11) (ax_wc ax_WW1 ax_cg_173)), ?_⟩
  show ay_M40 0 (ρ 2) (ρ 3) (ρ 4) (ρ 5) (ρ 6) (ay_at (ax_upd hp 750 (ρ 1) (ρ 0)) 185) (ay_at (ax_upd hp 750 (ρ 1) (ρ 0)) 173 27) (ay_at (ax_upd hp 750 (ρ 1) (ρ 0)) 182) (ay_at (ax_upd hp 750 (ρ 1) (ρ 0)) 180 0) (ay_at (ax_upd hp 750 (ρ 1) (ρ 0)) 179 0) (ay_at (ax_upd hp 750 (ρ 1) (ρ 0)) 173 28)
  have c0 : ∀ j, ay_at (ax_upd hp 750 (ρ 1) (ρ 0)) 185 j = if j = (ρ 1) / 4 then some (ρ 0) else ay_at hp 185 j := fun j => ay_upd_eq hT.1 rfl ho0 j
  have c1 : ay_at (ax_upd hp 750 (ρ 1) (ρ 0)) 173 27 = ay_at hp 173 27 := ay_upd_ne hT.1 (by decide) 27
  rw [c1]
  have c2 : ay_at (ax_upd hp 750 (ρ 1) (ρ 0)) 182 = ay_at hp 182 := funext (fun j => ay_upd_ne hT.1 (by decide) j)
  rw [c2]
  have c3 : ay_at (ax_upd hp 750 (ρ 1) (ρ 0)) 180 0 = ay_at hp 180 0 := ay_upd_ne hT.1 (by decide) 0
  rw [c3]
  have c4 : ay_at (ax_upd hp 750 (ρ 1) (ρ 0)) 179 0 = ay_at hp 179 0 := ay_upd_ne hT.1 (by decide) 0
  rw [c4]
  have c5 : ay_at (ax_upd hp 750 (ρ 1) (ρ 0)) 173 28 = ay_at hp 173 28 := ay_upd_ne hT.1 (by decide) 28
  rw [c5]
  refine ay_pg_far p (fun j hj => ?_) (fun j hj => rfl)
  rw [lo] at hj
  rw [c0, if_neg (by omega)]
theorem axq1_puP : ax_RO ax_wM1 (ax_XM 1) axu1_puP := by
  intro ρ hp hE hT
  obtain ⟨p1, p2, p3, p4, p5, p6, p⟩ : ay_ex hp 185 ∧ ay_ex hp 173 ∧ ay_ex hp 182 ∧ ay_ex hp 180 ∧ ay_ex hp 179 ∧ ay_ex hp 173 ∧ ay_M40 0 (4) (0) (4) (8) (4) (ay_at hp 185) (ay_at hp 173 27) (ay_at hp 182) (ay_at hp 180 0) (ay_at hp 179 0) (ay_at hp 173 28) := (ax_XF_lt (x := 40) (Nat.le_of_ble_eq_true rfl)).mp (ax_gx hE (40, [4, 0, 4, 8, 4]) (by decide))
  replace p : ay_pg 0 1 0 1 2 1 (ay_at hp 185) (ay_ln (ay_at hp 173 27)) (ay_at hp 182) (ay_ln (ay_at hp 180 0)) (ay_ln (ay_at hp 179 0)) (ay_ln (ay_at hp 173 28)) := p
  obtain ⟨o, ho, o1, o2, o3⟩ := ax_gi hE 1 2147483648 2147483747 (by decide) rfl
  obtain ⟨o4, o5⟩ := ax_bi_pos o1 (by omega)
  obtain ⟨c, hc, c1, c2, c3⟩ := ax_gi hE 2 2147484656 2147484657 (by decide) rfl
  obtain ⟨c4, c5⟩ := ax_bi_pos c1 (by omega)
  have d4 : ∀ z : Nat, 4 * z / 4 = z := fun z => by omega
  have fo := ay_gfj hE 702 108 7 173 27 (by decide) (ax_vlq rfl rfl) (ax_vlj rfl rfl)
  replace fo : ay_at hp 173 27 = some (ρ 1) := fo
  have lo : ay_ln (ay_at hp 173 27) = o := by rw [fo, ho]; show 4 * o / 4 = o; omega
  have ho2 : ρ 0 = 4 * (o + 1) := ay_s hE 7 4 3 (b := 1) (by decide) ho (ax_vl_c (v := 4) (by decide)) (by omega) (by decide)
  have fr := ay_gf hE 750 7 11 185 (by decide) (ax_vlq rfl rfl)
  replace fr : ay_at hp 185 (ρ 1 / 4) = some (ρ 2) := fr
  rw [ho, d4, hc] at fr
  rw [lo] at p
  obtain ⟨o0, ho0⟩ := ay_some hT (q := 173) (g := 11) (n := 58) (ax_wc ax_WW1 ax_cg_173) (ax_wn ax_WW1 ax_cn_11) (j := 108 / 4) (Nat.le_of_ble_eq_true rfl)
  refine ⟨(fun y hy => by cases hy), _, List.mem_cons_self, ρ, fun _ _ => rfl, ax_px hE rfl (fun y hy => ?_)⟩
  cases List.mem_singleton.mp hy
  show ax_XF (ax_XM 1) (500 + 40) [702, 108, ρ 0, 4, 0, 0, 4, 4] hp
  refine (ax_XF_wr (x := 40) (Nat.le_of_ble_eq_true rfl)).mpr ⟨ay_ex_upd hT.1 (ax_cellT hT (q := 185) (g := 55) (ax_wc ax_WW1 ax_cg_185)), ay_ex_upd hT.1 (ax_cellT hT (q := 173) (g := 11) (ax_wc ax_WW1 ax_cg_173)), ay_ex_upd hT.1 (ax_cellT hT (q := 182) (g := 52) (ax_wc ax_WW1 ax_cg_182)), ay_ex_upd hT.1 (ax_cellT hT (q := 180) (g := 50) (ax_wc ax_WW1 ax_cg_180)), ay_ex_upd hT.1 (ax_cellT hT (q := 179) (g := 49) (ax_wc ax_WW1 ax_cg_179)), ay_ex_upd hT.1 (ax_cellT hT (q := 173) (g := 11) (ax_wc ax_WW1 ax_cg_173)), ?_⟩
  show ay_M40 0 (4) (0) (0) (4) (4) (ay_at (ax_upd hp 702 (108) (ρ 0)) 185) (ay_at (ax_upd hp 702 (108) (ρ 0)) 173 27) (ay_at (ax_upd hp 702 (108) (ρ 0)) 182) (ay_at (ax_upd hp 702 (108) (ρ 0)) 180 0) (ay_at (ax_upd hp 702 (108) (ρ 0)) 179 0) (ay_at (ax_upd hp 702 (108) (ρ 0)) 173 28)
  have c0 : ay_at (ax_upd hp 702 (108) (ρ 0)) 185 = ay_at hp 185 := funext (fun j => ay_upd_ne hT.1 (by decide) j)
  rw [c0]
  have c1 : ay_at (ax_upd hp 702 (108) (ρ 0)) 173 27 = some (ρ 0) := by rw [ay_upd_eq hT.1 rfl ho0, if_pos (by decide)]
  rw [c1]
  have c2 : ay_at (ax_upd hp 702 (108) (ρ 0)) 182 = ay_at hp 182 := funext (fun j => ay_upd_ne hT.1 (by decide) j)
  rw [c2]
  have c3 : ay_at (ax_upd hp 702 (108) (ρ 0)) 180 0 = ay_at hp 180 0 := ay_upd_ne hT.1 (by decide) 0
  rw [c3]
  have c4 : ay_at (ax_upd hp 702 (108) (ρ 0)) 179 0 = ay_at hp 179 0 := ay_upd_ne hT.1 (by decide) 0
  rw [c4]
  have c5 : ay_at (ax_upd hp 702 (108) (ρ 0)) 173 28 = ay_at hp 173 28 := by rw [ay_upd_eq hT.1 rfl ho0, if_neg (by decide)]
  rw [c5]
  show ay_pg 0 1 0 0 1 1 (ay_at hp 185) (ρ 0 / 4) (ay_at hp 182) (ay_ln (ay_at hp 180 0)) (ay_ln (ay_at hp 179 0)) (ay_ln (ay_at hp 173 28))
  rw [ho2, d4]
  exact ay_pg_pP p fr (by omega)
theorem axq1_puB : ax_RO ax_wM1 (ax_XM 1) axu1_puB := by
  intro ρ hp hE hT
  obtain ⟨p1, p2, p3, p4, p5, p6, p⟩ : ay_ex hp 185 ∧ ay_ex hp 173 ∧ ay_ex hp 182 ∧ ay_ex hp 180 ∧ ay_ex hp 179 ∧ ay_ex hp 173 ∧ ay_M40 0 (0) (0) (4) (0) (0) (ay_at hp 185) (ay_at hp 173 27) (ay_at hp 182) (ay_at hp 180 0) (ay_at hp 179 0) (ay_at hp 173 28) := (ax_XF_lt (x := 40) (Nat.le_of_ble_eq_true rfl)).mp (ax_gx hE (40, [0, 0, 4, 0, 0]) (by decide))
  replace p : ay_pg 0 0 0 1 0 0 (ay_at hp 185) (ay_ln (ay_at hp 173 27)) (ay_at hp 182) (ay_ln (ay_at hp 180 0)) (ay_ln (ay_at hp 179 0)) (ay_ln (ay_at hp 173 28)) := p
  obtain ⟨o, ho, o1, o2, o3⟩ := ax_gi hE 1 2147483648 2147483747 (by decide) rfl
  obtain ⟨o4, o5⟩ := ax_bi_pos o1 (by omega)
  obtain ⟨c, hc, c1, c2, c3⟩ := ax_gi hE 2 2147484651 2147484655 (by decide) rfl
  obtain ⟨c4, c5⟩ := ax_bi_pos c1 (by omega)
  have d4 : ∀ z : Nat, 4 * z / 4 = z := fun z => by omega
  have fo := ay_gfj hE 702 108 7 173 27 (by decide) (ax_vlq rfl rfl) (ax_vlj rfl rfl)
  replace fo : ay_at hp 173 27 = some (ρ 1) := fo
  have lo : ay_ln (ay_at hp 173 27) = o := by rw [fo, ho]; show 4 * o / 4 = o; omega
  have ho2 : ρ 0 = 4 * (o + 1) := ay_s hE 7 4 3 (b := 1) (by decide) ho (ax_vl_c (v := 4) (by decide)) (by omega) (by decide)
  have fr := ay_gf hE 750 7 11 185 (by decide) (ax_vlq rfl rfl)
  replace fr : ay_at hp 185 (ρ 1 / 4) = some (ρ 2) := fr
  rw [ho, d4, hc] at fr
  rw [lo] at p
  obtain ⟨o0, ho0⟩ := ay_some hT (q := 173) (g := 11) (n := 58) (ax_wc ax_WW1 ax_cg_173) (ax_wn ax_WW1 ax_cn_11) (j := 108 / 4) (Nat.le_of_ble_eq_true rfl)
  refine ⟨(fun y hy => by cases hy), _, List.mem_cons_self, ρ, fun _ _ => rfl, ax_px hE rfl (fun y hy => ?_)⟩
  cases List.mem_singleton.mp hy
  show ax_XF (ax_XM 1) (500 + 40) [702, 108, ρ 0, 4, 0, 4, 0, 4] hp
  refine (ax_XF_wr (x := 40) (Nat.le_of_ble_eq_true rfl)).mpr ⟨ay_ex_upd hT.1 (ax_cellT hT (q := 185) (g := 55) (ax_wc ax_WW1 ax_cg_185)), ay_ex_upd hT.1 (ax_cellT hT (q := 173) (g := 11) (ax_wc ax_WW1 ax_cg_173)), ay_ex_upd hT.1 (ax_cellT hT (q := 182) (g := 52) (ax_wc ax_WW1 ax_cg_182)), ay_ex_upd hT.1 (ax_cellT hT (q := 180) (g := 50) (ax_wc ax_WW1 ax_cg_180)), ay_ex_upd hT.1 (ax_cellT hT (q := 179) (g := 49) (ax_wc ax_WW1 ax_cg_179)), ay_ex_upd hT.1 (ax_cellT hT (q := 173) (g := 11) (ax_wc ax_WW1 ax_cg_173)), ?_⟩
  show ay_M40 0 (4) (0) (4) (0) (4) (ay_at (ax_upd hp 702 (108) (ρ 0)) 185) (ay_at (ax_upd hp 702 (108) (ρ 0)) 173 27) (ay_at (ax_upd hp 702 (108) (ρ 0)) 182) (ay_at (ax_upd hp 702 (108) (ρ 0)) 180 0) (ay_at (ax_upd hp 702 (108) (ρ 0)) 179 0) (ay_at (ax_upd hp 702 (108) (ρ 0)) 173 28)
  have c0 : ay_at (ax_upd hp 702 (108) (ρ 0)) 185 = ay_at hp 185 := funext (fun j => ay_upd_ne hT.1 (by decide) j)
  rw [c0]
  have c1 : ay_at (ax_upd hp 702 (108) (ρ 0)) 173 27 = some (ρ 0) := by rw [ay_upd_eq hT.1 rfl ho0, if_pos (by decide)]
  rw [c1]
  have c2 : ay_at (ax_upd hp 702 (108) (ρ 0)) 182 = ay_at hp 182 := funext (fun j => ay_upd_ne hT.1 (by decide) j)
  rw [c2]
  have c3 : ay_at (ax_upd hp 702 (108) (ρ 0)) 180 0 = ay_at hp 180 0 := ay_upd_ne hT.1 (by decide) 0
  rw [c3]
  have c4 : ay_at (ax_upd hp 702 (108) (ρ 0)) 179 0 = ay_at hp 179 0 := ay_upd_ne hT.1 (by decide) 0
  rw [c4]
  have c5 : ay_at (ax_upd hp 702 (108) (ρ 0)) 173 28 = ay_at hp 173 28 := by rw [ay_upd_eq hT.1 rfl ho0, if_neg (by decide)]
  rw [c5]
  show ay_pg 0 1 0 1 0 1 (ay_at hp 185) (ρ 0 / 4) (ay_at hp 182) (ay_ln (ay_at hp 180 0)) (ay_ln (ay_at hp 179 0)) (ay_ln (ay_at hp 173 28))
  rw [ho2, d4]
  exact ay_pg_pB p fr (by omega) (by omega)
theorem axq1_loB : ax_RO ax_wM1 (ax_XM 1) axu1_loB := by
  intro ρ hp hE hT
  obtain ⟨t1, t2, t⟩ : ay_ex hp 173 ∧ ay_ex hp 185 ∧ ay_M57 (ay_at hp 173 27) (ay_at hp 185) := (ax_XF_lt (x := 57) (Nat.le_of_ble_eq_true rfl)).mp (ax_gx hE (57, []) (by decide))
  obtain ⟨p1, p2, p3, p4, p5, p6, p⟩ : ay_ex hp 185 ∧ ay_ex hp 173 ∧ ay_ex hp 182 ∧ ay_ex hp 180 ∧ ay_ex hp 179 ∧ ay_ex hp 173 ∧ ay_M40 0 (0) (0) (4) (0) (0) (ay_at hp 185) (ay_at hp 173 27) (ay_at hp 182) (ay_at hp 180 0) (ay_at hp 179 0) (ay_at hp 173 28) := (ax_XF_lt (x := 40) (Nat.le_of_ble_eq_true rfl)).mp (ax_gx hE (40, [0, 0, 4, 0, 0]) (by decide))
  replace p : ay_pg 0 0 0 1 0 0 (ay_at hp 185) (ay_ln (ay_at hp 173 27)) (ay_at hp 182) (ay_ln (ay_at hp 180 0)) (ay_ln (ay_at hp 179 0)) (ay_ln (ay_at hp 173 28)) := p
  obtain ⟨k1, k⟩ : ay_ex hp 173 ∧ ay_M56 (ρ 2) (ay_at hp 173 27) := (ax_XF_lt (x := 56) (Nat.le_of_ble_eq_true rfl)).mp (ax_gx hE (56, [11]) (by decide))
  obtain ⟨o, ho, o1, o2, o3⟩ := ax_gi hE 1 2147483648 2147483748 (by decide) rfl
  obtain ⟨o4, o5⟩ := ax_bi_pos o1 (by omega)
  obtain ⟨K, hK⟩ := ax_gj hE 2 (by decide) rfl
  have d4 : ∀ z : Nat, 4 * z / 4 = z := fun z => by omega
  have fo := ay_gfj hE 702 108 7 173 27 (by decide) (ax_vlq rfl rfl) (ax_vlj rfl rfl)
  replace fo : ay_at hp 173 27 = some (ρ 1) := fo
  have lo : ay_ln (ay_at hp 173 27) = o := by rw [fo, ho]; show 4 * o / 4 = o; omega
  replace t : 1 ≤ ay_ln (ay_at hp 173 27) ∧ ay_isb (ay_at hp 185 (ay_ln (ay_at hp 173 27) - 1)) = true := t
  replace k : ay_ln (ay_at hp 173 27) ≤ ρ 2 / 4 := k
  rw [lo] at t p k
  obtain ⟨n, hn⟩ : ∃ n, o = n + 1 := ⟨o - 1, by omega⟩
  have hs : ρ 0 = 4 * (o - 1) := ay_d hE 3 4 7 (b := 1) (by decide) (ax_vl_c (v := 4) (by decide)) ho (by omega) (by omega)
  have h0 : ρ 0 = 4 * n := by omega
  rw [hn] at t p
  replace t := t.2
  replace t : ay_isb (ay_at hp 185 n) = true := t
  obtain ⟨o0, ho0⟩ := ay_some hT (q := 173) (g := 11) (n := 58) (ax_wc ax_WW1 ax_cg_173) (ax_wn ax_WW1 ax_cn_11) (j := 108 / 4) (Nat.le_of_ble_eq_true rfl)
  obtain ⟨ρ', h1, h2⟩ := ax_pn (K := n) (xf := [(540, [702, 108, 3, 0, 4, 4, 4, 0]), (559, [702, 108, 3]), (556, [702, 108, 3, 15]), (1030, [15, 11])]) hE (by decide) (fun ρ' h1 h2 x hx => by
    rcases List.mem_cons.mp hx with e | hx
    · subst e
      show ax_XF (ax_XM 1) (500 + 40) [702, 108, ρ' 0, 0, 4, 4, 4, 0] hp
      rw [h1 0 (by decide)]
      refine (ax_XF_wr (x := 40) (Nat.le_of_ble_eq_true rfl)).mpr ⟨ay_ex_upd hT.1 (ax_cellT hT (q := 185) (g := 55) (ax_wc ax_WW1 ax_cg_185)), ay_ex_upd hT.1 (ax_cellT hT (q := 173) (g := 11) (ax_wc ax_WW1 ax_cg_173)), ay_ex_upd hT.1 (ax_cellT hT (q := 182) (g := 52) (ax_wc ax_WW1 ax_cg_182)), ay_ex_upd hT.1 (ax_cellT hT (q := 180) (g := 50) (ax_wc ax_WW1 ax_cg_180)), ay_ex_upd hT.1 (ax_cellT hT (q := 179) (g := 49) (ax_wc ax_WW1 ax_cg_179)), ay_ex_upd hT.1 (ax_cellT hT (q := 173) (g := 11) (ax_wc ax_WW1 ax_cg_173)), ?_⟩
      show ay_M40 0 (0) (4) (4) (4) (0) (ay_at (ax_upd hp 702 (108) (ρ 0)) 185) (ay_at (ax_upd hp 702 (108) (ρ 0)) 173 27) (ay_at (ax_upd hp 702 (108) (ρ 0)) 182) (ay_at (ax_upd hp 702 (108) (ρ 0)) 180 0) (ay_at (ax_upd hp 702 (108) (ρ 0)) 179 0) (ay_at (ax_upd hp 702 (108) (ρ 0)) 173 28)
      have c0 : ay_at (ax_upd hp 702 (108) (ρ 0)) 185 = ay_at hp 185 := funext (fun j => ay_upd_ne hT.1 (by decide) j)
      rw [c0]
      have c1 : ay_at (ax_upd hp 702 (108) (ρ 0)) 173 27 = some (ρ 0) := by rw [ay_upd_eq hT.1 rfl ho0, if_pos (by decide)]
      rw [c1]
      have c2 : ay_at (ax_upd hp 702 (108) (ρ 0)) 182 = ay_at hp 182 := funext (fun j => ay_upd_ne hT.1 (by decide) j)
      rw [c2]
      have c3 : ay_at (ax_upd hp 702 (108) (ρ 0)) 180 0 = ay_at hp 180 0 := ay_upd_ne hT.1 (by decide) 0
      rw [c3]
      have c4 : ay_at (ax_upd hp 702 (108) (ρ 0)) 179 0 = ay_at hp 179 0 := ay_upd_ne hT.1 (by decide) 0
      rw [c4]
      have c5 : ay_at (ax_upd hp 702 (108) (ρ 0)) 173 28 = ay_at hp 173 28 := by rw [ay_upd_eq hT.1 rfl ho0, if_neg (by decide)]
      rw [c5]
      show ay_pg 0 0 1 1 1 0 (ay_at hp 185) (ρ 0 / 4) (ay_at hp 182) (ay_ln (ay_at hp 180 0)) (ay_ln (ay_at hp 179 0)) (ay_ln (ay_at hp 173 28))
      rw [h0, d4]
      exact ay_pg_qB p t
    rcases List.mem_cons.mp hx with e | hx
    · subst e
      show ax_XF (ax_XM 1) (500 + 59) [702, 108, ρ' 0] hp
      rw [h1 0 (by decide)]
      refine (ax_XF_wr (x := 59) (Nat.le_of_ble_eq_true rfl)).mpr ⟨ay_ex_upd hT.1 (ax_cellT hT (q := 173) (g := 11) (ax_wc ax_WW1 ax_cg_173)), ay_ex_upd hT.1 (ax_cellT hT (q := 185) (g := 55) (ax_wc ax_WW1 ax_cg_185)), ?_⟩
      show ay_M59 (ay_at (ax_upd hp 702 (108) (ρ 0)) 173 27) (ay_at (ax_upd hp 702 (108) (ρ 0)) 185)
      have c0 : ay_at (ax_upd hp 702 (108) (ρ 0)) 173 27 = some (ρ 0) := by rw [ay_upd_eq hT.1 rfl ho0, if_pos (by decide)]
      rw [c0]
      have c1 : ay_at (ax_upd hp 702 (108) (ρ 0)) 185 = ay_at hp 185 := funext (fun j => ay_upd_ne hT.1 (by decide) j)
      rw [c1]
      show ay_isb (ay_at hp 185 (ρ 0 / 4)) = true
      rw [h0, d4]
      exact t
    rcases List.mem_cons.mp hx with e | hx
    · subst e
      show ax_XF (ax_XM 1) (500 + 56) [702, 108, ρ' 0, ρ' 3] hp
      rw [h1 0 (by decide)]
      refine (ax_XF_wr (x := 56) (Nat.le_of_ble_eq_true rfl)).mpr ⟨ay_ex_upd hT.1 (ax_cellT hT (q := 173) (g := 11) (ax_wc ax_WW1 ax_cg_173)), ?_⟩
      show ay_M56 (ρ' 3) (ay_at (ax_upd hp 702 (108) (ρ 0)) 173 27)
      have c0 : ay_at (ax_upd hp 702 (108) (ρ 0)) 173 27 = some (ρ 0) := by rw [ay_upd_eq hT.1 rfl ho0, if_pos (by decide)]
      rw [c0]
      show ρ 0 / 4 ≤ ρ' 3 / 4
      rw [h2, h0]
      omega
    cases List.mem_singleton.mp hx
    refine (ax_XF_bi (o := 30) (by decide)).mpr (Or.inr ⟨rfl, ?_⟩)
    show ρ' 3 < ρ' 2
    rw [h2, h1 2 (by decide), hK]
    omega)
  refine ⟨fun y hy => ?_, _, List.mem_cons_self, ρ', h1, h2⟩
  cases List.mem_singleton.mp hy
  show 2147483648 ≤ rx_bi (ρ 0 / 4) ∧ rx_bi (ρ 0 / 4) ≤ 2147483747
  rw [h0, d4, ax_bi_nat (by omega)]
  omega
theorem axq1_lpB : ax_RO ax_wM1 (ax_XM 1) axu1_lpB := by
  intro ρ hp hE hT
  obtain ⟨t1, t2, t⟩ : ay_ex hp 173 ∧ ay_ex hp 185 ∧ ay_M59 (ay_at hp 173 27) (ay_at hp 185) := (ax_XF_lt (x := 59) (Nat.le_of_ble_eq_true rfl)).mp (ax_gx hE (59, []) (by decide))
  obtain ⟨o, ho, o1, o2, o3⟩ := ax_gi hE 0 2147483648 2147483747 (by decide) rfl
  obtain ⟨o4, o5⟩ := ax_bi_pos o1 (by omega)
  have d4 : ∀ z : Nat, 4 * z / 4 = z := fun z => by omega
  have fo := ay_gfj hE 702 108 3 173 27 (by decide) (ax_vlq rfl rfl) (ax_vlj rfl rfl)
  replace fo : ay_at hp 173 27 = some (ρ 0) := fo
  have lo : ay_ln (ay_at hp 173 27) = o := by rw [fo, ho]; show 4 * o / 4 = o; omega
  replace t : ay_isb (ay_at hp 185 (ay_ln (ay_at hp 173 27))) = true := t
  rw [lo] at t
  obtain ⟨kk, m, f, e1⟩ := t2
  obtain ⟨v, hv⟩ := ay_some hT (q := 185) (g := 55) (n := 100) (ax_wc ax_WW1 ax_cg_185) (ax_wn ax_WW1 ax_cn_55) (j := o) (by omega)
  obtain ⟨v1, v2, -, -⟩ := ay_int hT (q := 185) (g := 55) (n := 100) (lo := 0) (hi := 4294967295) (ax_wc ax_WW1 ax_cg_185) rfl hv
  rw [hv] at t
  replace t : (decide (1003 ≤ v / 4) && decide (v / 4 ≤ 1007)) = true := t
  have t3 := of_decide_eq_true (rx_and2.mp t).1
  have t4 := of_decide_eq_true (rx_and2.mp t).2
  have hb : rx_bi (v / 4) = v / 4 + 2147483648 := ax_bi_nat (by omega)
  have hb1 : 2147484651 ≤ rx_bi (v / 4) := by omega
  have hb2 : rx_bi (v / 4) ≤ 2147484655 := by omega
  rw [ay_eq e1] at hv
  obtain ⟨ρ', h1, h2⟩ := ax_pf (q := 185) (j := o) (t := (0, 2147484651, 2147484655)) hE (a := 750) (i := 3) (by decide) (by decide) (ax_vl_c (by decide)) ho e1 hv (Or.inl ⟨rfl, v1, v2, hb1, hb2⟩)
  exact ⟨(fun x hx => by cases hx), _, List.mem_cons_self, ρ', h1, h2⟩
theorem axq1_loM : ax_RO ax_wM1 (ax_XM 1) axu1_loM := by
  intro ρ hp hE hT
  obtain ⟨t1, t2, t⟩ : ay_ex hp 173 ∧ ay_ex hp 185 ∧ ay_M58 (ay_at hp 173 27) (ay_at hp 185) := (ax_XF_lt (x := 58) (Nat.le_of_ble_eq_true rfl)).mp (ax_gx hE (58, []) (by decide))
  obtain ⟨p1, p2, p3, p4, p5, p6, p⟩ : ay_ex hp 185 ∧ ay_ex hp 173 ∧ ay_ex hp 182 ∧ ay_ex hp 180 ∧ ay_ex hp 179 ∧ ay_ex hp 173 ∧ ay_M40 0 (0) (0) (4) (0) (4) (ay_at hp 185) (ay_at hp 173 27) (ay_at hp 182) (ay_at hp 180 0) (ay_at hp 179 0) (ay_at hp 173 28) := (ax_XF_lt (x := 40) (Nat.le_of_ble_eq_true rfl)).mp (ax_gx hE (40, [0, 0, 4, 0, 4]) (by decide))
  replace p : ay_pg 0 0 0 1 0 1 (ay_at hp 185) (ay_ln (ay_at hp 173 27)) (ay_at hp 182) (ay_ln (ay_at hp 180 0)) (ay_ln (ay_at hp 179 0)) (ay_ln (ay_at hp 173 28)) := p
  obtain ⟨k1, k⟩ : ay_ex hp 173 ∧ ay_M56 (ρ 2) (ay_at hp 173 27) := (ax_XF_lt (x := 56) (Nat.le_of_ble_eq_true rfl)).mp (ax_gx hE (56, [11]) (by decide))
  obtain ⟨o, ho, o1, o2, o3⟩ := ax_gi hE 1 2147483648 2147483748 (by decide) rfl
  obtain ⟨o4, o5⟩ := ax_bi_pos o1 (by omega)
  obtain ⟨K, hK⟩ := ax_gj hE 2 (by decide) rfl
  have d4 : ∀ z : Nat, 4 * z / 4 = z := fun z => by omega
  have fo := ay_gfj hE 702 108 7 173 27 (by decide) (ax_vlq rfl rfl) (ax_vlj rfl rfl)
  replace fo : ay_at hp 173 27 = some (ρ 1) := fo
  have lo : ay_ln (ay_at hp 173 27) = o := by rw [fo, ho]; show 4 * o / 4 = o; omega
  replace t : 1 ≤ ay_ln (ay_at hp 173 27) ∧ ay_at hp 185 (ay_ln (ay_at hp 173 27) - 1) = some 4032 := t
  replace k : ay_ln (ay_at hp 173 27) ≤ ρ 2 / 4 := k
  rw [lo] at t p k
  obtain ⟨n, hn⟩ : ∃ n, o = n + 1 := ⟨o - 1, by omega⟩
  have hs : ρ 0 = 4 * (o - 1) := ay_d hE 3 4 7 (b := 1) (by decide) (ax_vl_c (v := 4) (by decide)) ho (by omega) (by omega)
  have h0 : ρ 0 = 4 * n := by omega
  rw [hn] at t p
  replace t := t.2
  replace t : ay_at hp 185 n = some 4032 := t
  obtain ⟨o0, ho0⟩ := ay_some hT (q := 173) (g := 11) (n := 58) (ax_wc ax_WW1 ax_cg_173) (ax_wn ax_WW1 ax_cn_11) (j := 108 / 4) (Nat.le_of_ble_eq_true rfl)
  obtain ⟨ρ', h1, h2⟩ := ax_pn (K := n) (xf := [(540, [702, 108, 3, 0, 0, 8, 4, 4]), (561, [702, 108, 3]), (556, [702, 108, 3, 15]), (1030, [15, 11])]) hE (by decide) (fun ρ' h1 h2 x hx => by
    rcases List.mem_cons.mp hx with e | hx
    · subst e
      show ax_XF (ax_XM 1) (500 + 40) [702, 108, ρ' 0, 0, 0, 8, 4, 4] hp
      rw [h1 0 (by decide)]
      refine (ax_XF_wr (x := 40) (Nat.le_of_ble_eq_true rfl)).mpr ⟨ay_ex_upd hT.1 (ax_cellT hT (q := 185) (g := 55) (ax_wc ax_WW1 ax_cg_185)), ay_ex_upd hT.1 (ax_cellT hT (q := 173) (g := 11) (ax_wc ax_WW1 ax_cg_173)), ay_ex_upd hT.1 (ax_cellT hT (q := 182) (g := 52) (ax_wc ax_WW1 ax_cg_182)), ay_ex_upd hT.1 (ax_cellT hT (q := 180) (g := 50) (ax_wc ax_WW1 ax_cg_180)), ay_ex_upd hT.1 (ax_cellT hT (q := 179) (g := 49) (ax_wc ax_WW1 ax_cg_179)), ay_ex_upd hT.1 (ax_cellT hT (q := 173) (g := 11) (ax_wc ax_WW1 ax_cg_173)), ?_⟩
      show ay_M40 0 (0) (0) (8) (4) (4) (ay_at (ax_upd hp 702 (108) (ρ 0)) 185) (ay_at (ax_upd hp 702 (108) (ρ 0)) 173 27) (ay_at (ax_upd hp 702 (108) (ρ 0)) 182) (ay_at (ax_upd hp 702 (108) (ρ 0)) 180 0) (ay_at (ax_upd hp 702 (108) (ρ 0)) 179 0) (ay_at (ax_upd hp 702 (108) (ρ 0)) 173 28)
      have c0 : ay_at (ax_upd hp 702 (108) (ρ 0)) 185 = ay_at hp 185 := funext (fun j => ay_upd_ne hT.1 (by decide) j)
      rw [c0]
      have c1 : ay_at (ax_upd hp 702 (108) (ρ 0)) 173 27 = some (ρ 0) := by rw [ay_upd_eq hT.1 rfl ho0, if_pos (by decide)]
      rw [c1]
      have c2 : ay_at (ax_upd hp 702 (108) (ρ 0)) 182 = ay_at hp 182 := funext (fun j => ay_upd_ne hT.1 (by decide) j)
      rw [c2]
      have c3 : ay_at (ax_upd hp 702 (108) (ρ 0)) 180 0 = ay_at hp 180 0 := ay_upd_ne hT.1 (by decide) 0
      rw [c3]
      have c4 : ay_at (ax_upd hp 702 (108) (ρ 0)) 179 0 = ay_at hp 179 0 := ay_upd_ne hT.1 (by decide) 0
      rw [c4]
      have c5 : ay_at (ax_upd hp 702 (108) (ρ 0)) 173 28 = ay_at hp 173 28 := by rw [ay_upd_eq hT.1 rfl ho0, if_neg (by decide)]
      rw [c5]
      show ay_pg 0 0 0 2 1 1 (ay_at hp 185) (ρ 0 / 4) (ay_at hp 182) (ay_ln (ay_at hp 180 0)) (ay_ln (ay_at hp 179 0)) (ay_ln (ay_at hp 173 28))
      rw [h0, d4]
      exact ay_pg_qM (c := 1008) p t (Or.inl rfl)
    rcases List.mem_cons.mp hx with e | hx
    · subst e
      show ax_XF (ax_XM 1) (500 + 61) [702, 108, ρ' 0] hp
      rw [h1 0 (by decide)]
      refine (ax_XF_wr (x := 61) (Nat.le_of_ble_eq_true rfl)).mpr ⟨ay_ex_upd hT.1 (ax_cellT hT (q := 173) (g := 11) (ax_wc ax_WW1 ax_cg_173)), ay_ex_upd hT.1 (ax_cellT hT (q := 185) (g := 55) (ax_wc ax_WW1 ax_cg_185)), ?_⟩
      show ay_M61 (ay_at (ax_upd hp 702 (108) (ρ 0)) 173 27) (ay_at (ax_upd hp 702 (108) (ρ 0)) 185)
      have c0 : ay_at (ax_upd hp 702 (108) (ρ 0)) 173 27 = some (ρ 0) := by rw [ay_upd_eq hT.1 rfl ho0, if_pos (by decide)]
      rw [c0]
      have c1 : ay_at (ax_upd hp 702 (108) (ρ 0)) 185 = ay_at hp 185 := funext (fun j => ay_upd_ne hT.1 (by decide) j)
      rw [c1]
      show ay_at hp 185 (ρ 0 / 4) = some 4032
      rw [h0, d4]
      exact t
    rcases List.mem_cons.mp hx with e | hx
    · subst e
      show ax_XF (ax_XM 1) (500 + 56) [702, 108, ρ' 0, ρ' 3] hp
      rw [h1 0 (by decide)]
      refine (ax_XF_wr (x := 56) (Nat.le_of_ble_eq_true rfl)).mpr ⟨ay_ex_upd hT.1 (ax_cellT hT (q := 173) (g := 11) (ax_wc ax_WW1 ax_cg_173)), ?_⟩
      show ay_M56 (ρ' 3) (ay_at (ax_upd hp 702 (108) (ρ 0)) 173 27)
      have c0 : ay_at (ax_upd hp 702 (108) (ρ 0)) 173 27 = some (ρ 0) := by rw [ay_upd_eq hT.1 rfl ho0, if_pos (by decide)]
      rw [c0]
      show ρ 0 / 4 ≤ ρ' 3 / 4
      rw [h2, h0]
      omega
    cases List.mem_singleton.mp hx
    refine (ax_XF_bi (o := 30) (by decide)).mpr (Or.inr ⟨rfl, ?_⟩)
    show ρ' 3 < ρ' 2
    rw [h2, h1 2 (by decide), hK]
    omega)
  refine ⟨fun y hy => ?_, _, List.mem_cons_self, ρ', h1, h2⟩
  cases List.mem_singleton.mp hy
  show 2147483648 ≤ rx_bi (ρ 0 / 4) ∧ rx_bi (ρ 0 / 4) ≤ 2147483747
  rw [h0, d4, ax_bi_nat (by omega)]
  omega
theorem axq1_lpM : ax_RO ax_wM1 (ax_XM 1) axu1_lpM := by
  intro ρ hp hE hT
  obtain ⟨t1, t2, t⟩ : ay_ex hp 173 ∧ ay_ex hp 185 ∧ ay_M61 (ay_at hp 173 27) (ay_at hp 185) := (ax_XF_lt (x := 61) (Nat.le_of_ble_eq_true rfl)).mp (ax_gx hE (61, []) (by decide))
  obtain ⟨o, ho, o1, o2, o3⟩ := ax_gi hE 0 2147483648 2147483747 (by decide) rfl
  obtain ⟨o4, o5⟩ := ax_bi_pos o1 (by omega)
  have d4 : ∀ z : Nat, 4 * z / 4 = z := fun z => by omega
  have fo := ay_gfj hE 702 108 3 173 27 (by decide) (ax_vlq rfl rfl) (ax_vlj rfl rfl)
  replace fo : ay_at hp 173 27 = some (ρ 0) := fo
  have lo : ay_ln (ay_at hp 173 27) = o := by rw [fo, ho]; show 4 * o / 4 = o; omega
  replace t : ay_at hp 185 (ay_ln (ay_at hp 173 27)) = some 4032 := t
  rw [lo] at t
  obtain ⟨kk, m, f, e1⟩ := t2
  obtain ⟨v, hv⟩ := ay_some hT (q := 185) (g := 55) (n := 100) (ax_wc ax_WW1 ax_cg_185) (ax_wn ax_WW1 ax_cn_55) (j := o) (by omega)
  obtain ⟨v1, v2, -, -⟩ := ay_int hT (q := 185) (g := 55) (n := 100) (lo := 0) (hi := 4294967295) (ax_wc ax_WW1 ax_cg_185) rfl hv
  rw [hv] at t
  have t5 := Option.some.inj t
  have t3 : 1008 ≤ v / 4 := by omega
  have t4 : v / 4 ≤ 1008 := by omega
  have hb : rx_bi (v / 4) = v / 4 + 2147483648 := ax_bi_nat (by omega)
  have hb1 : 2147484656 ≤ rx_bi (v / 4) := by omega
  have hb2 : rx_bi (v / 4) ≤ 2147484656 := by omega
  rw [ay_eq e1] at hv
  obtain ⟨ρ', h1, h2⟩ := ax_pf (q := 185) (j := o) (t := (0, 2147484656, 2147484656)) hE (a := 750) (i := 3) (by decide) (by decide) (ax_vl_c (by decide)) ho e1 hv (Or.inl ⟨rfl, v1, v2, hb1, hb2⟩)
  exact ⟨(fun x hx => by cases hx), _, List.mem_cons_self, ρ', h1, h2⟩
theorem axq1_cm0 : ax_RO ax_wM1 (ax_XM 1) axu1_cm0 := axqg_cm0 ax_WW1
theorem axq1_rb0 : ax_RO ax_wM1 (ax_XM 1) axu1_rb0 := axqg_rb0 ax_WW1
theorem axq1_rr5 : ax_RO ax_wM1 (ax_XM 1) axu1_rr5 := axqg_rr5 ax_WW1
theorem axq1_rr6 : ax_RO ax_wM1 (ax_XM 1) axu1_rr6 := axqg_rr6 ax_WW1
theorem axq1_rr7 : ax_RO ax_wM1 (ax_XM 1) axu1_rr7 := axqg_rr7 ax_WW1
theorem axq1_cm1 : ax_RO ax_wM1 (ax_XM 1) axu1_cm1 := axqg_cm1 ax_WW1
theorem axq1_cm2 : ax_RO ax_wM1 (ax_XM 1) axu1_cm2 := by
  intro ρ hp hE hT
  obtain ⟨p1, p2, p3, p4, p5, p6, p⟩ : ay_ex hp 185 ∧ ay_ex hp 173 ∧ ay_ex hp 182 ∧ ay_ex hp 180 ∧ ay_ex hp 179 ∧ ay_ex hp 173 ∧ ay_M40 0 (0) (0) (8) (0) (4) (ay_at hp 185) (ay_at hp 173 27) (ay_at hp 182) (ay_at hp 180 0) (ay_at hp 179 0) (ay_at hp 173 28) := (ax_XF_lt (x := 40) (Nat.le_of_ble_eq_true rfl)).mp (ax_gx hE (40, [0, 0, 8, 0, 4]) (by decide))
  replace p : ay_pg 0 0 0 2 0 1 (ay_at hp 185) (ay_ln (ay_at hp 173 27)) (ay_at hp 182) (ay_ln (ay_at hp 180 0)) (ay_ln (ay_at hp 179 0)) (ay_ln (ay_at hp 173 28)) := p
  obtain ⟨d, hd, d1, d2, d3⟩ := ax_gi hE 1 2147483648 2147483654 (by decide) rfl
  obtain ⟨d4, d5⟩ := ax_bi_pos d1 (by omega)
  have d4 : ∀ z : Nat, 4 * z / 4 = z := fun z => by omega
  have fd := ay_gfj hE 702 112 7 173 28 (by decide) (ax_vlq rfl rfl) (ax_vlj rfl rfl)
  replace fd : ay_at hp 173 28 = some (ρ 1) := fd
  have ld : ay_ln (ay_at hp 173 28) = d := by rw [fd, hd]; show 4 * d / 4 = d; omega
  rw [ld] at p
  have hd0 := ay_pg_d0 p
  obtain ⟨n, hn⟩ : ∃ n, d = n + 1 := ⟨d - 1, by omega⟩
  have hs : ρ 0 = 4 * (d - 1) := ay_d hE 3 4 7 (b := 1) (by decide) (ax_vl_c (v := 4) (by decide)) hd (by omega) (by omega)
  have h0 : ρ 0 = 4 * n := by omega
  rw [hn] at p ld
  obtain ⟨o0, ho0⟩ := ay_some hT (q := 173) (g := 11) (n := 58) (ax_wc ax_WW1 ax_cg_173) (ax_wn ax_WW1 ax_cn_11) (j := 112 / 4) (Nat.le_of_ble_eq_true rfl)
  refine ⟨fun y hy => ?_, _, List.mem_cons_self, ρ, fun _ _ => rfl, ax_px hE rfl (fun y hy => ?_)⟩
  · cases List.mem_singleton.mp hy
    show 2147483648 ≤ rx_bi (ρ 0 / 4) ∧ rx_bi (ρ 0 / 4) ≤ 2147483653
    rw [h0, d4, ax_bi_nat (by omega)]
    omega
  cases List.mem_singleton.mp hy
  show ax_XF (ax_XM 1) (500 + 40) [702, 112, ρ 0, 0, 0, 4, 0, 4] hp
  refine (ax_XF_wr (x := 40) (Nat.le_of_ble_eq_true rfl)).mpr ⟨ay_ex_upd hT.1 (ax_cellT hT (q := 185) (g := 55) (ax_wc ax_WW1 ax_cg_185)), ay_ex_upd hT.1 (ax_cellT hT (q := 173) (g := 11) (ax_wc ax_WW1 ax_cg_173)), ay_ex_upd hT.1 (ax_cellT hT (q := 182) (g := 52) (ax_wc ax_WW1 ax_cg_182)), ay_ex_upd hT.1 (ax_cellT hT (q := 180) (g := 50) (ax_wc ax_WW1 ax_cg_180)), ay_ex_upd hT.1 (ax_cellT hT (q := 179) (g := 49) (ax_wc ax_WW1 ax_cg_179)), ay_ex_upd hT.1 (ax_cellT hT (q := 173) (g := 11) (ax_wc ax_WW1 ax_cg_173)), ?_⟩
  show ay_M40 0 (0) (0) (4) (0) (4) (ay_at (ax_upd hp 702 (112) (ρ 0)) 185) (ay_at (ax_upd hp 702 (112) (ρ 0)) 173 27) (ay_at (ax_upd hp 702 (112) (ρ 0)) 182) (ay_at (ax_upd hp 702 (112) (ρ 0)) 180 0) (ay_at (ax_upd hp 702 (112) (ρ 0)) 179 0) (ay_at (ax_upd hp 702 (112) (ρ 0)) 173 28)
  have c0 : ay_at (ax_upd hp 702 (112) (ρ 0)) 185 = ay_at hp 185 := funext (fun j => ay_upd_ne hT.1 (by decide) j)
  rw [c0]
  have c1 : ay_at (ax_upd hp 702 (112) (ρ 0)) 173 27 = ay_at hp 173 27 := by rw [ay_upd_eq hT.1 rfl ho0, if_neg (by decide)]
  rw [c1]
  have c2 : ay_at (ax_upd hp 702 (112) (ρ 0)) 182 = ay_at hp 182 := funext (fun j => ay_upd_ne hT.1 (by decide) j)
  rw [c2]
  have c3 : ay_at (ax_upd hp 702 (112) (ρ 0)) 180 0 = ay_at hp 180 0 := ay_upd_ne hT.1 (by decide) 0
  rw [c3]
  have c4 : ay_at (ax_upd hp 702 (112) (ρ 0)) 179 0 = ay_at hp 179 0 := ay_upd_ne hT.1 (by decide) 0
  rw [c4]
  have c5 : ay_at (ax_upd hp 702 (112) (ρ 0)) 173 28 = some (ρ 0) := by rw [ay_upd_eq hT.1 rfl ho0, if_pos (by decide)]
  rw [c5]
  show ay_pg 0 0 0 1 0 1 (ay_at hp 185) (ay_ln (ay_at hp 173 27)) (ay_at hp 182) (ay_ln (ay_at hp 180 0)) (ay_ln (ay_at hp 179 0)) (ρ 0 / 4)
  rw [h0, d4]
  exact ay_pg_d1 p
theorem axq1_cm3 : ax_RO ax_wM1 (ax_XM 1) axu1_cm3 := by
  intro ρ hp hE hT
  obtain ⟨p1, p2, p3, p4, p5, p6, p⟩ : ay_ex hp 185 ∧ ay_ex hp 173 ∧ ay_ex hp 182 ∧ ay_ex hp 180 ∧ ay_ex hp 179 ∧ ay_ex hp 173 ∧ ay_M40 0 (0) (0) (8) (0) (4) (ay_at hp 185) (ay_at hp 173 27) (ay_at hp 182) (ay_at hp 180 0) (ay_at hp 179 0) (ay_at hp 173 28) := (ax_XF_lt (x := 40) (Nat.le_of_ble_eq_true rfl)).mp (ax_gx hE (40, [0, 0, 8, 0, 4]) (by decide))
  replace p : ay_pg 0 0 0 2 0 1 (ay_at hp 185) (ay_ln (ay_at hp 173 27)) (ay_at hp 182) (ay_ln (ay_at hp 180 0)) (ay_ln (ay_at hp 179 0)) (ay_ln (ay_at hp 173 28)) := p
  obtain ⟨k1, k2, k⟩ : ay_ex hp 179 ∧ ay_ex hp 173 ∧ ay_M53 (ρ 2) (0) (ay_at hp 179 0) (ay_at hp 173 28) := (ax_XF_lt (x := 53) (Nat.le_of_ble_eq_true rfl)).mp (ax_gx hE (53, [11, 0]) (by decide))
  replace k : 20 * (40 - ay_ln (ay_at hp 179 0)) + 2 * ay_ln (ay_at hp 173 28) + 1 ≤ ρ 2 / 4 := k
  obtain ⟨d, hd, d1, d2, d3⟩ := ax_gi hE 1 2147483648 2147483654 (by decide) rfl
  obtain ⟨d4, d5⟩ := ax_bi_pos d1 (by omega)
  have d4 : ∀ z : Nat, 4 * z / 4 = z := fun z => by omega
  have fd := ay_gfj hE 702 112 7 173 28 (by decide) (ax_vlq rfl rfl) (ax_vlj rfl rfl)
  replace fd : ay_at hp 173 28 = some (ρ 1) := fd
  have ld : ay_ln (ay_at hp 173 28) = d := by rw [fd, hd]; show 4 * d / 4 = d; omega
  rw [ld] at p k
  have hd0 := ay_pg_d0 p
  obtain ⟨n, hn⟩ : ∃ n, d = n + 1 := ⟨d - 1, by omega⟩
  have hs : ρ 0 = 4 * (d - 1) := ay_d hE 3 4 7 (b := 1) (by decide) (ax_vl_c (v := 4) (by decide)) hd (by omega) (by omega)
  have h0 : ρ 0 = 4 * n := by omega
  rw [hn] at p ld
  rw [hn] at k
  obtain ⟨o0, ho0⟩ := ay_some hT (q := 173) (g := 11) (n := 58) (ax_wc ax_WW1 ax_cg_173) (ax_wn ax_WW1 ax_cn_11) (j := 112 / 4) (Nat.le_of_ble_eq_true rfl)
  refine ⟨(fun y hy => by cases hy), _, List.mem_cons_self, ρ, fun _ _ => rfl, ax_px hE rfl (fun y hy => ?_)⟩
  cases List.mem_singleton.mp hy
  show ax_XF (ax_XM 1) (500 + 53) [702, 112, ρ 0, ρ 2, 0] hp
  refine (ax_XF_wr (x := 53) (Nat.le_of_ble_eq_true rfl)).mpr ⟨ay_ex_upd hT.1 (ax_cellT hT (q := 179) (g := 49) (ax_wc ax_WW1 ax_cg_179)), ay_ex_upd hT.1 (ax_cellT hT (q := 173) (g := 11) (ax_wc ax_WW1 ax_cg_173)), ?_⟩
  show ay_M53 (ρ 2) (0) (ay_at (ax_upd hp 702 (112) (ρ 0)) 179 0) (ay_at (ax_upd hp 702 (112) (ρ 0)) 173 28)
  have c0 : ay_at (ax_upd hp 702 (112) (ρ 0)) 179 0 = ay_at hp 179 0 := ay_upd_ne hT.1 (by decide) 0
  rw [c0]
  have c1 : ay_at (ax_upd hp 702 (112) (ρ 0)) 173 28 = some (ρ 0) := by rw [ay_upd_eq hT.1 rfl ho0, if_pos (by decide)]
  rw [c1]
  show 20 * (40 - ay_ln (ay_at hp 179 0)) + 2 * (ρ 0 / 4) + 1 ≤ ρ 2 / 4
  rw [h0, d4]
  omega
theorem axq1_cmE : ax_RO ax_wM1 (ax_XM 1) axu1_cmE := by
  intro ρ hp hE hT
  obtain ⟨p1, p2, p3, p4, p5, p6, p⟩ : ay_ex hp 185 ∧ ay_ex hp 173 ∧ ay_ex hp 182 ∧ ay_ex hp 180 ∧ ay_ex hp 179 ∧ ay_ex hp 173 ∧ ay_M40 0 (0) (0) (4) (0) (4) (ay_at hp 185) (ay_at hp 173 27) (ay_at hp 182) (ay_at hp 180 0) (ay_at hp 179 0) (ay_at hp 173 28) := (ax_XF_lt (x := 40) (Nat.le_of_ble_eq_true rfl)).mp (ax_gx hE (40, [0, 0, 4, 0, 4]) (by decide))
  replace p : ay_pg 0 0 0 1 0 1 (ay_at hp 185) (ay_ln (ay_at hp 173 27)) (ay_at hp 182) (ay_ln (ay_at hp 180 0)) (ay_ln (ay_at hp 179 0)) (ay_ln (ay_at hp 173 28)) := p
  obtain ⟨o, ho, o1, o2, o3⟩ := ax_gi hE 0 2147483648 2147483648 (by decide) rfl
  obtain ⟨o4, o5⟩ := ax_bi_pos o1 (by omega)
  have d4 : ∀ z : Nat, 4 * z / 4 = z := fun z => by omega
  have fo := ay_gfj hE 702 108 3 173 27 (by decide) (ax_vlq rfl rfl) (ax_vlj rfl rfl)
  replace fo : ay_at hp 173 27 = some (ρ 0) := fo
  have lo : ay_ln (ay_at hp 173 27) = o := by rw [fo, ho]; show 4 * o / 4 = o; omega
  refine ⟨(fun y hy => by cases hy), _, List.mem_cons_self, ρ, fun _ _ => rfl, ax_px hE rfl (fun y hy => ?_)⟩
  cases List.mem_singleton.mp hy
  refine (ax_XF_lt (x := 40) (Nat.le_of_ble_eq_true rfl)).mpr ⟨(ax_cellT hT (q := 185) (g := 55) (ax_wc ax_WW1 ax_cg_185)), (ax_cellT hT (q := 173) (g := 11) (ax_wc ax_WW1 ax_cg_173)), (ax_cellT hT (q := 182) (g := 52) (ax_wc ax_WW1 ax_cg_182)), (ax_cellT hT (q := 180) (g := 50) (ax_wc ax_WW1 ax_cg_180)), (ax_cellT hT (q := 179) (g := 49) (ax_wc ax_WW1 ax_cg_179)), (ax_cellT hT (q := 173) (g := 11) (ax_wc ax_WW1 ax_cg_173)), ?_⟩
  show ay_M40 0 (0) (0) (4) (0) (0) (ay_at hp 185) (ay_at hp 173 27) (ay_at hp 182) (ay_at hp 180 0) (ay_at hp 179 0) (ay_at hp 173 28)
  show ay_pg 0 0 0 1 0 0 (ay_at hp 185) (ay_ln (ay_at hp 173 27)) (ay_at hp 182) (ay_ln (ay_at hp 180 0)) (ay_ln (ay_at hp 179 0)) (ay_ln (ay_at hp 173 28))
  exact ay_pg_m0 p (fun h => by rw [lo] at h; omega)

theorem axq1_cmF0 : ax_RO ax_wM1 (ax_XM 1) axu1_cmF0 := by
  intro ρ hp hE hT
  obtain ⟨p1, p2, p3, p4, p5, p6, p⟩ : ay_ex hp 185 ∧ ay_ex hp 173 ∧ ay_ex hp 182 ∧ ay_ex hp 180 ∧ ay_ex hp 179 ∧ ay_ex hp 173 ∧ ay_M40 0 (0) (0) (4) (0) (4) (ay_at hp 185) (ay_at hp 173 27) (ay_at hp 182) (ay_at hp 180 0) (ay_at hp 179 0) (ay_at hp 173 28) := (ax_XF_lt (x := 40) (Nat.le_of_ble_eq_true rfl)).mp (ax_gx hE (40, [0, 0, 4, 0, 4]) (by decide))
  replace p : ay_pg 0 0 0 1 0 1 (ay_at hp 185) (ay_ln (ay_at hp 173 27)) (ay_at hp 182) (ay_ln (ay_at hp 180 0)) (ay_ln (ay_at hp 179 0)) (ay_ln (ay_at hp 173 28)) := p
  obtain ⟨o, ho, o1, o2, o3⟩ := ax_gi hE 0 2147483649 2147483748 (by decide) rfl
  obtain ⟨o4, o5⟩ := ax_bi_pos o1 (by omega)
  have d4 : ∀ z : Nat, 4 * z / 4 = z := fun z => by omega
  have fo := ay_gfj hE 702 108 3 173 27 (by decide) (ax_vlq rfl rfl) (ax_vlj rfl rfl)
  replace fo : ay_at hp 173 27 = some (ρ 0) := fo
  have lo : ay_ln (ay_at hp 173 27) = o := by rw [fo, ho]; show 4 * o / 4 = o; omega
  have hs : ρ 1 = 4 * (o - 1) := ay_d hE 7 4 3 (b := 1) (by decide) (ax_vl_c (v := 4) (by decide)) ho (by omega) (by omega)
  obtain ⟨c, hc, c1, c2, c3⟩ := ax_gi hE 2 0 2147484655 (by decide) rfl
  rw [ax_bi_def] at c2 c3
  have fr := ay_gf hE 750 7 11 185 (by decide) (ax_vlq rfl rfl)
  replace fr : ay_at hp 185 (ρ 1 / 4) = some (ρ 2) := fr
  obtain ⟨n, hn⟩ : ∃ n, o = n + 1 := ⟨o - 1, by omega⟩
  have h0 : ρ 1 = 4 * n := by omega
  rw [h0, d4, hc] at fr
  refine ⟨(fun y hy => by cases hy), _, List.mem_cons_self, ρ, fun _ _ => rfl, ax_px hE rfl (fun y hy => ?_)⟩
  cases List.mem_singleton.mp hy
  refine (ax_XF_lt (x := 40) (Nat.le_of_ble_eq_true rfl)).mpr ⟨(ax_cellT hT (q := 185) (g := 55) (ax_wc ax_WW1 ax_cg_185)), (ax_cellT hT (q := 173) (g := 11) (ax_wc ax_WW1 ax_cg_173)), (ax_cellT hT (q := 182) (g := 52) (ax_wc ax_WW1 ax_cg_182)), (ax_cellT hT (q := 180) (g := 50) (ax_wc ax_WW1 ax_cg_180)), (ax_cellT hT (q := 179) (g := 49) (ax_wc ax_WW1 ax_cg_179)), (ax_cellT hT (q := 173) (g := 11) (ax_wc ax_WW1 ax_cg_173)), ?_⟩
  show ay_M40 0 (0) (0) (4) (0) (0) (ay_at hp 185) (ay_at hp 173 27) (ay_at hp 182) (ay_at hp 180 0) (ay_at hp 179 0) (ay_at hp 173 28)
  show ay_pg 0 0 0 1 0 0 (ay_at hp 185) (ay_ln (ay_at hp 173 27)) (ay_at hp 182) (ay_ln (ay_at hp 180 0)) (ay_ln (ay_at hp 179 0)) (ay_ln (ay_at hp 173 28))
  refine ay_pg_m0 p (fun h z => ?_)
  rw [lo, hn] at z
  replace z : ay_at hp 185 n = some 4032 := z
  rw [fr] at z
  have z := Option.some.inj z
  omega

theorem axq1_cmF1 : ax_RO ax_wM1 (ax_XM 1) axu1_cmF1 := by
  intro ρ hp hE hT
  obtain ⟨p1, p2, p3, p4, p5, p6, p⟩ : ay_ex hp 185 ∧ ay_ex hp 173 ∧ ay_ex hp 182 ∧ ay_ex hp 180 ∧ ay_ex hp 179 ∧ ay_ex hp 173 ∧ ay_M40 0 (0) (0) (4) (0) (4) (ay_at hp 185) (ay_at hp 173 27) (ay_at hp 182) (ay_at hp 180 0) (ay_at hp 179 0) (ay_at hp 173 28) := (ax_XF_lt (x := 40) (Nat.le_of_ble_eq_true rfl)).mp (ax_gx hE (40, [0, 0, 4, 0, 4]) (by decide))
  replace p : ay_pg 0 0 0 1 0 1 (ay_at hp 185) (ay_ln (ay_at hp 173 27)) (ay_at hp 182) (ay_ln (ay_at hp 180 0)) (ay_ln (ay_at hp 179 0)) (ay_ln (ay_at hp 173 28)) := p
  obtain ⟨o, ho, o1, o2, o3⟩ := ax_gi hE 0 2147483649 2147483748 (by decide) rfl
  obtain ⟨o4, o5⟩ := ax_bi_pos o1 (by omega)
  have d4 : ∀ z : Nat, 4 * z / 4 = z := fun z => by omega
  have fo := ay_gfj hE 702 108 3 173 27 (by decide) (ax_vlq rfl rfl) (ax_vlj rfl rfl)
  replace fo : ay_at hp 173 27 = some (ρ 0) := fo
  have lo : ay_ln (ay_at hp 173 27) = o := by rw [fo, ho]; show 4 * o / 4 = o; omega
  have hs : ρ 1 = 4 * (o - 1) := ay_d hE 7 4 3 (b := 1) (by decide) (ax_vl_c (v := 4) (by decide)) ho (by omega) (by omega)
  obtain ⟨c, hc, c1, c2, c3⟩ := ax_gi hE 2 2147484657 4294967295 (by decide) rfl
  rw [ax_bi_def] at c2 c3
  have fr := ay_gf hE 750 7 11 185 (by decide) (ax_vlq rfl rfl)
  replace fr : ay_at hp 185 (ρ 1 / 4) = some (ρ 2) := fr
  obtain ⟨n, hn⟩ : ∃ n, o = n + 1 := ⟨o - 1, by omega⟩
  have h0 : ρ 1 = 4 * n := by omega
  rw [h0, d4, hc] at fr
  refine ⟨(fun y hy => by cases hy), _, List.mem_cons_self, ρ, fun _ _ => rfl, ax_px hE rfl (fun y hy => ?_)⟩
  cases List.mem_singleton.mp hy
  refine (ax_XF_lt (x := 40) (Nat.le_of_ble_eq_true rfl)).mpr ⟨(ax_cellT hT (q := 185) (g := 55) (ax_wc ax_WW1 ax_cg_185)), (ax_cellT hT (q := 173) (g := 11) (ax_wc ax_WW1 ax_cg_173)), (ax_cellT hT (q := 182) (g := 52) (ax_wc ax_WW1 ax_cg_182)), (ax_cellT hT (q := 180) (g := 50) (ax_wc ax_WW1 ax_cg_180)), (ax_cellT hT (q := 179) (g := 49) (ax_wc ax_WW1 ax_cg_179)), (ax_cellT hT (q := 173) (g := 11) (ax_wc ax_WW1 ax_cg_173)), ?_⟩
  show ay_M40 0 (0) (0) (4) (0) (0) (ay_at hp 185) (ay_at hp 173 27) (ay_at hp 182) (ay_at hp 180 0) (ay_at hp 179 0) (ay_at hp 173 28)
  show ay_pg 0 0 0 1 0 0 (ay_at hp 185) (ay_ln (ay_at hp 173 27)) (ay_at hp 182) (ay_ln (ay_at hp 180 0)) (ay_ln (ay_at hp 179 0)) (ay_ln (ay_at hp 173 28))
  refine ay_pg_m0 p (fun h z => ?_)
  rw [lo, hn] at z
  replace z : ay_at hp 185 n = some 4032 := z
  rw [fr] at z
  have z := Option.some.inj z
  omega

theorem axq1_co0 : ax_RO ax_wM1 (ax_XM 1) axu1_co0 := by
  intro ρ hp hE hT
  obtain ⟨p1, p2, p3, p4, p5, p6, p⟩ : ay_ex hp 185 ∧ ay_ex hp 173 ∧ ay_ex hp 182 ∧ ay_ex hp 180 ∧ ay_ex hp 179 ∧ ay_ex hp 173 ∧ ay_M40 0 (0) (0) (4) (0) (0) (ay_at hp 185) (ay_at hp 173 27) (ay_at hp 182) (ay_at hp 180 0) (ay_at hp 179 0) (ay_at hp 173 28) := (ax_XF_lt (x := 40) (Nat.le_of_ble_eq_true rfl)).mp (ax_gx hE (40, [0, 0, 4, 0, 0]) (by decide))
  replace p : ay_pg 0 0 0 1 0 0 (ay_at hp 185) (ay_ln (ay_at hp 173 27)) (ay_at hp 182) (ay_ln (ay_at hp 180 0)) (ay_ln (ay_at hp 179 0)) (ay_ln (ay_at hp 173 28)) := p
  obtain ⟨o, ho, o1, o2, o3⟩ := ax_gi hE 1 2147483648 2147483748 (by decide) rfl
  obtain ⟨o4, o5⟩ := ax_bi_pos o1 (by omega)
  obtain ⟨d, hd, d1, d2, d3⟩ := ax_gi hE 2 2147483649 2147483654 (by decide) rfl
  obtain ⟨d4, d5⟩ := ax_bi_pos d1 (by omega)
  have d4 : ∀ z : Nat, 4 * z / 4 = z := fun z => by omega
  have fd := ay_gfj hE 702 112 11 173 28 (by decide) (ax_vlq rfl rfl) (ax_vlj rfl rfl)
  replace fd : ay_at hp 173 28 = some (ρ 2) := fd
  have ld : ay_ln (ay_at hp 173 28) = d := by rw [fd, hd]; show 4 * d / 4 = d; omega
  have fo := ay_gfj hE 702 108 7 173 27 (by decide) (ax_vlq rfl rfl) (ax_vlj rfl rfl)
  replace fo : ay_at hp 173 27 = some (ρ 1) := fo
  have lo : ay_ln (ay_at hp 173 27) = o := by rw [fo, ho]; show 4 * o / 4 = o; omega
  rw [lo, ld] at p
  have hod := ay_pg_deep p (by omega)
  have hs : ρ 0 = 4 * (o - 1) := ay_d hE 3 4 7 (b := 1) (by decide) (ax_vl_c (v := 4) (by decide)) ho (by omega) (by omega)
  refine ⟨fun y hy => ?_, _, List.mem_cons_self, ρ, fun _ _ => rfl, ax_px hE rfl (fun y hy => by cases hy)⟩
  rcases List.mem_cons.mp hy with e | hy
  · subst e
    show 2147483648 ≤ rx_bi (ρ 0 / 4) ∧ rx_bi (ρ 0 / 4) ≤ 2147483747
    rw [hs, d4, ax_bi_nat (by omega)]
    omega
  cases List.mem_singleton.mp hy
  show 2147483649 ≤ rx_bi (ρ 1 / 4) ∧ rx_bi (ρ 1 / 4) ≤ 2147483748
  rw [ho, d4, ax_bi_nat (by omega)]
  omega

theorem axq1_co1 : ax_RO ax_wM1 (ax_XM 1) axu1_co1 := by
  intro ρ hp hE hT
  obtain ⟨p1, p2, p3, p4, p5, p6, p⟩ : ay_ex hp 185 ∧ ay_ex hp 173 ∧ ay_ex hp 182 ∧ ay_ex hp 180 ∧ ay_ex hp 179 ∧ ay_ex hp 173 ∧ ay_M40 0 (0) (0) (4) (0) (0) (ay_at hp 185) (ay_at hp 173 27) (ay_at hp 182) (ay_at hp 180 0) (ay_at hp 179 0) (ay_at hp 173 28) := (ax_XF_lt (x := 40) (Nat.le_of_ble_eq_true rfl)).mp (ax_gx hE (40, [0, 0, 4, 0, 0]) (by decide))
  replace p : ay_pg 0 0 0 1 0 0 (ay_at hp 185) (ay_ln (ay_at hp 173 27)) (ay_at hp 182) (ay_ln (ay_at hp 180 0)) (ay_ln (ay_at hp 179 0)) (ay_ln (ay_at hp 173 28)) := p
  obtain ⟨o, ho, o1, o2, o3⟩ := ax_gi hE 1 2147483649 2147483748 (by decide) rfl
  obtain ⟨o4, o5⟩ := ax_bi_pos o1 (by omega)
  have d4 : ∀ z : Nat, 4 * z / 4 = z := fun z => by omega
  have fo := ay_gfj hE 702 108 7 173 27 (by decide) (ax_vlq rfl rfl) (ax_vlj rfl rfl)
  replace fo : ay_at hp 173 27 = some (ρ 1) := fo
  have lo : ay_ln (ay_at hp 173 27) = o := by rw [fo, ho]; show 4 * o / 4 = o; omega
  have hs : ρ 0 = 4 * (o - 1) := ay_d hE 3 4 7 (b := 1) (by decide) (ax_vl_c (v := 4) (by decide)) ho (by omega) (by omega)
  obtain ⟨c, hc, c1, c2, c3⟩ := ax_gi hE 2 0 2147484656 (by decide) rfl
  rw [ax_bi_def] at c2 c3
  have fr := ay_gf hE 750 3 11 185 (by decide) (ax_vlq rfl rfl)
  replace fr : ay_at hp 185 (ρ 0 / 4) = some (ρ 2) := fr
  obtain ⟨n, hn⟩ : ∃ n, o = n + 1 := ⟨o - 1, by omega⟩
  have h0 : ρ 0 = 4 * n := by omega
  rw [h0, d4, hc] at fr
  rw [lo, hn] at p
  have ht := ay_pg_top p fr
  refine ⟨(fun y hy => by cases hy), _, List.mem_cons_self, ρ, fun _ _ => rfl, ax_px hE rfl (fun y hy => ?_)⟩
  cases List.mem_singleton.mp hy
  refine (ax_XF_lt (x := 57) (Nat.le_of_ble_eq_true rfl)).mpr ⟨(ax_cellT hT (q := 173) (g := 11) (ax_wc ax_WW1 ax_cg_173)), (ax_cellT hT (q := 185) (g := 55) (ax_wc ax_WW1 ax_cg_185)), ?_⟩
  show 1 ≤ ay_ln (ay_at hp 173 27) ∧ ay_isb (ay_at hp 185 (ay_ln (ay_at hp 173 27) - 1)) = true
  rw [lo, hn]
  refine ⟨by omega, ?_⟩
  show ay_isb (ay_at hp 185 n) = true
  rw [fr]
  exact ay_isb_c (by omega) (by omega)

theorem axq1_co2 : ax_RO ax_wM1 (ax_XM 1) axu1_co2 := by
  intro ρ hp hE hT
  obtain ⟨p1, p2, p3, p4, p5, p6, p⟩ : ay_ex hp 185 ∧ ay_ex hp 173 ∧ ay_ex hp 182 ∧ ay_ex hp 180 ∧ ay_ex hp 179 ∧ ay_ex hp 173 ∧ ay_M40 0 (0) (0) (4) (0) (0) (ay_at hp 185) (ay_at hp 173 27) (ay_at hp 182) (ay_at hp 180 0) (ay_at hp 179 0) (ay_at hp 173 28) := (ax_XF_lt (x := 40) (Nat.le_of_ble_eq_true rfl)).mp (ax_gx hE (40, [0, 0, 4, 0, 0]) (by decide))
  replace p : ay_pg 0 0 0 1 0 0 (ay_at hp 185) (ay_ln (ay_at hp 173 27)) (ay_at hp 182) (ay_ln (ay_at hp 180 0)) (ay_ln (ay_at hp 179 0)) (ay_ln (ay_at hp 173 28)) := p
  obtain ⟨o, ho, o1, o2, o3⟩ := ax_gi hE 1 2147483649 2147483748 (by decide) rfl
  obtain ⟨o4, o5⟩ := ax_bi_pos o1 (by omega)
  have d4 : ∀ z : Nat, 4 * z / 4 = z := fun z => by omega
  have fo := ay_gfj hE 702 108 7 173 27 (by decide) (ax_vlq rfl rfl) (ax_vlj rfl rfl)
  replace fo : ay_at hp 173 27 = some (ρ 1) := fo
  have lo : ay_ln (ay_at hp 173 27) = o := by rw [fo, ho]; show 4 * o / 4 = o; omega
  have hs : ρ 0 = 4 * (o - 1) := ay_d hE 3 4 7 (b := 1) (by decide) (ax_vl_c (v := 4) (by decide)) ho (by omega) (by omega)
  obtain ⟨c, hc, c1, c2, c3⟩ := ax_gi hE 2 2147484658 4294967295 (by decide) rfl
  rw [ax_bi_def] at c2 c3
  have fr := ay_gf hE 750 3 11 185 (by decide) (ax_vlq rfl rfl)
  replace fr : ay_at hp 185 (ρ 0 / 4) = some (ρ 2) := fr
  obtain ⟨n, hn⟩ : ∃ n, o = n + 1 := ⟨o - 1, by omega⟩
  have h0 : ρ 0 = 4 * n := by omega
  rw [h0, d4, hc] at fr
  rw [lo, hn] at p
  have ht := ay_pg_top p fr
  exfalso
  omega
theorem axq1_co3 : ax_RO ax_wM1 (ax_XM 1) axu1_co3 := by
  intro ρ hp hE hT
  obtain ⟨p1, p2, p3, p4, p5, p6, p⟩ : ay_ex hp 185 ∧ ay_ex hp 173 ∧ ay_ex hp 182 ∧ ay_ex hp 180 ∧ ay_ex hp 179 ∧ ay_ex hp 173 ∧ ay_M40 0 (0) (0) (4) (0) (0) (ay_at hp 185) (ay_at hp 173 27) (ay_at hp 182) (ay_at hp 180 0) (ay_at hp 179 0) (ay_at hp 173 28) := (ax_XF_lt (x := 40) (Nat.le_of_ble_eq_true rfl)).mp (ax_gx hE (40, [0, 0, 4, 0, 0]) (by decide))
  replace p : ay_pg 0 0 0 1 0 0 (ay_at hp 185) (ay_ln (ay_at hp 173 27)) (ay_at hp 182) (ay_ln (ay_at hp 180 0)) (ay_ln (ay_at hp 179 0)) (ay_ln (ay_at hp 173 28)) := p
  obtain ⟨o, ho, o1, o2, o3⟩ := ax_gi hE 1 2147483649 2147483748 (by decide) rfl
  obtain ⟨o4, o5⟩ := ax_bi_pos o1 (by omega)
  have d4 : ∀ z : Nat, 4 * z / 4 = z := fun z => by omega
  have fo := ay_gfj hE 702 108 7 173 27 (by decide) (ax_vlq rfl rfl) (ax_vlj rfl rfl)
  replace fo : ay_at hp 173 27 = some (ρ 1) := fo
  have lo : ay_ln (ay_at hp 173 27) = o := by rw [fo, ho]; show 4 * o / 4 = o; omega
  have hs : ρ 0 = 4 * (o - 1) := ay_d hE 3 4 7 (b := 1) (by decide) (ax_vl_c (v := 4) (by decide)) ho (by omega) (by omega)
  obtain ⟨c, hc, c1, c2, c3⟩ := ax_gi hE 2 2147484657 2147484657 (by decide) rfl
  rw [ax_bi_def] at c2 c3
  have fr := ay_gf hE 750 3 11 185 (by decide) (ax_vlq rfl rfl)
  replace fr : ay_at hp 185 (ρ 0 / 4) = some (ρ 2) := fr
  obtain ⟨n, hn⟩ : ∃ n, o = n + 1 := ⟨o - 1, by omega⟩
  have h0 : ρ 0 = 4 * n := by omega
  rw [h0, d4, hc] at fr
  rw [lo, hn] at p
  obtain ⟨o0, ho0⟩ := ay_some hT (q := 173) (g := 11) (n := 58) (ax_wc ax_WW1 ax_cg_173) (ax_wn ax_WW1 ax_cn_11) (j := 108 / 4) (Nat.le_of_ble_eq_true rfl)
  refine ⟨(fun y hy => by cases hy), _, List.mem_cons_self, ρ, fun _ _ => rfl, ax_px hE rfl (fun y hy => ?_)⟩
  cases List.mem_singleton.mp hy
  show ax_XF (ax_XM 1) (500 + 40) [702, 108, ρ 0, 0, 0, 8, 4, 4] hp
  refine (ax_XF_wr (x := 40) (Nat.le_of_ble_eq_true rfl)).mpr ⟨ay_ex_upd hT.1 (ax_cellT hT (q := 185) (g := 55) (ax_wc ax_WW1 ax_cg_185)), ay_ex_upd hT.1 (ax_cellT hT (q := 173) (g := 11) (ax_wc ax_WW1 ax_cg_173)), ay_ex_upd hT.1 (ax_cellT hT (q := 182) (g := 52) (ax_wc ax_WW1 ax_cg_182)), ay_ex_upd hT.1 (ax_cellT hT (q := 180) (g := 50) (ax_wc ax_WW1 ax_cg_180)), ay_ex_upd hT.1 (ax_cellT hT (q := 179) (g := 49) (ax_wc ax_WW1 ax_cg_179)), ay_ex_upd hT.1 (ax_cellT hT (q := 173) (g := 11) (ax_wc ax_WW1 ax_cg_173)), ?_⟩
  show ay_M40 0 (0) (0) (8) (4) (4) (ay_at (ax_upd hp 702 (108) (ρ 0)) 185) (ay_at (ax_upd hp 702 (108) (ρ 0)) 173 27) (ay_at (ax_upd hp 702 (108) (ρ 0)) 182) (ay_at (ax_upd hp 702 (108) (ρ 0)) 180 0) (ay_at (ax_upd hp 702 (108) (ρ 0)) 179 0) (ay_at (ax_upd hp 702 (108) (ρ 0)) 173 28)
  have c0 : ay_at (ax_upd hp 702 (108) (ρ 0)) 185 = ay_at hp 185 := funext (fun j => ay_upd_ne hT.1 (by decide) j)
  rw [c0]
  have c1 : ay_at (ax_upd hp 702 (108) (ρ 0)) 173 27 = some (ρ 0) := by rw [ay_upd_eq hT.1 rfl ho0, if_pos (by decide)]
  rw [c1]
  have c2 : ay_at (ax_upd hp 702 (108) (ρ 0)) 182 = ay_at hp 182 := funext (fun j => ay_upd_ne hT.1 (by decide) j)
  rw [c2]
  have c3 : ay_at (ax_upd hp 702 (108) (ρ 0)) 180 0 = ay_at hp 180 0 := ay_upd_ne hT.1 (by decide) 0
  rw [c3]
  have c4 : ay_at (ax_upd hp 702 (108) (ρ 0)) 179 0 = ay_at hp 179 0 := ay_upd_ne hT.1 (by decide) 0
  rw [c4]
  have c5 : ay_at (ax_upd hp 702 (108) (ρ 0)) 173 28 = ay_at hp 173 28 := by rw [ay_upd_eq hT.1 rfl ho0, if_neg (by decide)]
  rw [c5]
  show ay_pg 0 0 0 2 1 1 (ay_at hp 185) (ρ 0 / 4) (ay_at hp 182) (ay_ln (ay_at hp 180 0)) (ay_ln (ay_at hp 179 0)) (ay_ln (ay_at hp 173 28))
  rw [h0, d4]
  exact ay_pg_qM p fr (by omega)
theorem axq1_co4 : ax_RO ax_wM1 (ax_XM 1) axu1_co4 := by
  intro ρ hp hE hT
  obtain ⟨p1, p2, p3, p4, p5, p6, p⟩ : ay_ex hp 185 ∧ ay_ex hp 173 ∧ ay_ex hp 182 ∧ ay_ex hp 180 ∧ ay_ex hp 179 ∧ ay_ex hp 173 ∧ ay_M40 0 (0) (0) (8) (4) (4) (ay_at hp 185) (ay_at hp 173 27) (ay_at hp 182) (ay_at hp 180 0) (ay_at hp 179 0) (ay_at hp 173 28) := (ax_XF_lt (x := 40) (Nat.le_of_ble_eq_true rfl)).mp (ax_gx hE (40, [0, 0, 8, 4, 4]) (by decide))
  replace p : ay_pg 0 0 0 2 1 1 (ay_at hp 185) (ay_ln (ay_at hp 173 27)) (ay_at hp 182) (ay_ln (ay_at hp 180 0)) (ay_ln (ay_at hp 179 0)) (ay_ln (ay_at hp 173 28)) := p
  obtain ⟨k1, k2, k⟩ : ay_ex hp 179 ∧ ay_ex hp 173 ∧ ay_M53 (ρ 2) (0) (ay_at hp 179 0) (ay_at hp 173 28) := (ax_XF_lt (x := 53) (Nat.le_of_ble_eq_true rfl)).mp (ax_gx hE (53, [11, 0]) (by decide))
  replace k : 20 * (40 - ay_ln (ay_at hp 179 0)) + 2 * ay_ln (ay_at hp 173 28) + 1 ≤ ρ 2 / 4 := k
  obtain ⟨K, hK⟩ := ax_gj hE 2 (by decide) rfl
  obtain ⟨d, hd, d1, d2, d3⟩ := ax_gi hE 1 2147483649 2147483654 (by decide) rfl
  obtain ⟨d4, d5⟩ := ax_bi_pos d1 (by omega)
  have d4 : ∀ z : Nat, 4 * z / 4 = z := fun z => by omega
  have fd := ay_gfj hE 702 112 7 173 28 (by decide) (ax_vlq rfl rfl) (ax_vlj rfl rfl)
  replace fd : ay_at hp 173 28 = some (ρ 1) := fd
  have ld : ay_ln (ay_at hp 173 28) = d := by rw [fd, hd]; show 4 * d / 4 = d; omega
  rw [ld] at p k
  obtain ⟨n, hn⟩ : ∃ n, d = n + 1 := ⟨d - 1, by omega⟩
  have hs : ρ 0 = 4 * (d - 1) := ay_d hE 3 4 7 (b := 1) (by decide) (ax_vl_c (v := 4) (by decide)) hd (by omega) (by omega)
  have h0 : ρ 0 = 4 * n := by omega
  rw [hn] at p ld
  rw [hn] at k
  obtain ⟨z, hz⟩ : ∃ z, ay_ln (ay_at hp 179 0) = z := ⟨_, rfl⟩
  rw [hz] at k
  obtain ⟨o0, ho0⟩ := ay_some hT (q := 173) (g := 11) (n := 58) (ax_wc ax_WW1 ax_cg_173) (ax_wn ax_WW1 ax_cn_11) (j := 112 / 4) (Nat.le_of_ble_eq_true rfl)
  obtain ⟨ρ', h1, h2⟩ := ax_pn (K := 20 * (40 - z) + 2 * n + 1) (xf := [(540, [702, 112, 3, 0, 0, 4, 0, 4]), (553, [702, 112, 3, 15, 0]), (1030, [15, 11])]) hE (by decide) (fun ρ' h1 h2 x hx => by
    rcases List.mem_cons.mp hx with e | hx
    · subst e
      show ax_XF (ax_XM 1) (500 + 40) [702, 112, ρ' 0, 0, 0, 4, 0, 4] hp
      rw [h1 0 (by decide)]
      refine (ax_XF_wr (x := 40) (Nat.le_of_ble_eq_true rfl)).mpr ⟨ay_ex_upd hT.1 (ax_cellT hT (q := 185) (g := 55) (ax_wc ax_WW1 ax_cg_185)), ay_ex_upd hT.1 (ax_cellT hT (q := 173) (g := 11) (ax_wc ax_WW1 ax_cg_173)), ay_ex_upd hT.1 (ax_cellT hT (q := 182) (g := 52) (ax_wc ax_WW1 ax_cg_182)), ay_ex_upd hT.1 (ax_cellT hT (q := 180) (g := 50) (ax_wc ax_WW1 ax_cg_180)), ay_ex_upd hT.1 (ax_cellT hT (q := 179) (g := 49) (ax_wc ax_WW1 ax_cg_179)), ay_ex_upd hT.1 (ax_cellT hT (q := 173) (g := 11) (ax_wc ax_WW1 ax_cg_173)), ?_⟩
      show ay_M40 0 (0) (0) (4) (0) (4) (ay_at (ax_upd hp 702 (112) (ρ 0)) 185) (ay_at (ax_upd hp 702 (112) (ρ 0)) 173 27) (ay_at (ax_upd hp 702 (112) (ρ 0)) 182) (ay_at (ax_upd hp 702 (112) (ρ 0)) 180 0) (ay_at (ax_upd hp 702 (112) (ρ 0)) 179 0) (ay_at (ax_upd hp 702 (112) (ρ 0)) 173 28)
      have c0 : ay_at (ax_upd hp 702 (112) (ρ 0)) 185 = ay_at hp 185 := funext (fun j => ay_upd_ne hT.1 (by decide) j)
      rw [c0]
      have c1 : ay_at (ax_upd hp 702 (112) (ρ 0)) 173 27 = ay_at hp 173 27 := by rw [ay_upd_eq hT.1 rfl ho0, if_neg (by decide)]
      rw [c1]
      have c2 : ay_at (ax_upd hp 702 (112) (ρ 0)) 182 = ay_at hp 182 := funext (fun j => ay_upd_ne hT.1 (by decide) j)
      rw [c2]
      have c3 : ay_at (ax_upd hp 702 (112) (ρ 0)) 180 0 = ay_at hp 180 0 := ay_upd_ne hT.1 (by decide) 0
      rw [c3]
      have c4 : ay_at (ax_upd hp 702 (112) (ρ 0)) 179 0 = ay_at hp 179 0 := ay_upd_ne hT.1 (by decide) 0
      rw [c4]
      have c5 : ay_at (ax_upd hp 702 (112) (ρ 0)) 173 28 = some (ρ 0) := by rw [ay_upd_eq hT.1 rfl ho0, if_pos (by decide)]
      rw [c5]
      show ay_pg 0 0 0 1 0 1 (ay_at hp 185) (ay_ln (ay_at hp 173 27)) (ay_at hp 182) (ay_ln (ay_at hp 180 0)) (ay_ln (ay_at hp 179 0)) (ρ 0 / 4)
      rw [h0, d4]
      exact ay_pg_d1 p
    rcases List.mem_cons.mp hx with e | hx
    · subst e
      show ax_XF (ax_XM 1) (500 + 53) [702, 112, ρ' 0, ρ' 3, 0] hp
      rw [h1 0 (by decide)]
      refine (ax_XF_wr (x := 53) (Nat.le_of_ble_eq_true rfl)).mpr ⟨ay_ex_upd hT.1 (ax_cellT hT (q := 179) (g := 49) (ax_wc ax_WW1 ax_cg_179)), ay_ex_upd hT.1 (ax_cellT hT (q := 173) (g := 11) (ax_wc ax_WW1 ax_cg_173)), ?_⟩
      show ay_M53 (ρ' 3) (0) (ay_at (ax_upd hp 702 (112) (ρ 0)) 179 0) (ay_at (ax_upd hp 702 (112) (ρ 0)) 173 28)
      have c0 : ay_at (ax_upd hp 702 (112) (ρ 0)) 179 0 = ay_at hp 179 0 := ay_upd_ne hT.1 (by decide) 0
      rw [c0]
      have c1 : ay_at (ax_upd hp 702 (112) (ρ 0)) 173 28 = some (ρ 0) := by rw [ay_upd_eq hT.1 rfl ho0, if_pos (by decide)]
      rw [c1]
      show 20 * (40 - ay_ln (ay_at hp 179 0)) + 2 * (ρ 0 / 4) + 1 ≤ ρ' 3 / 4
      rw [h2, h0, hz, d4]
      omega
    cases List.mem_singleton.mp hx
    refine (ax_XF_bi (o := 30) (by decide)).mpr (Or.inr ⟨rfl, ?_⟩)
    show ρ' 3 < ρ' 2
    rw [h2, h1 2 (by decide), hK]
    omega)
  exact ⟨(fun x hx => by cases hx), _, List.mem_cons_self, ρ', h1, h2⟩
theorem axq1_ru0 : ax_RO ax_wM1 (ax_XM 1) axu1_ru0 := by
  intro ρ hp hE hT
  obtain ⟨p1, p2, p3, p4, p5, p6, p⟩ : ay_ex hp 185 ∧ ay_ex hp 173 ∧ ay_ex hp 182 ∧ ay_ex hp 180 ∧ ay_ex hp 179 ∧ ay_ex hp 173 ∧ ay_M40 0 (4) (0) (4) (0) (4) (ay_at hp 185) (ay_at hp 173 27) (ay_at hp 182) (ay_at hp 180 0) (ay_at hp 179 0) (ay_at hp 173 28) := (ax_XF_lt (x := 40) (Nat.le_of_ble_eq_true rfl)).mp (ax_gx hE (40, [4, 0, 4, 0, 4]) ax_m0)
  replace p : ay_pg 0 1 0 1 0 1 (ay_at hp 185) (ay_ln (ay_at hp 173 27)) (ay_at hp 182) (ay_ln (ay_at hp 180 0)) (ay_ln (ay_at hp 179 0)) (ay_ln (ay_at hp 173 28)) := p
  obtain ⟨k1, k2, k⟩ : ay_ex hp 179 ∧ ay_ex hp 173 ∧ ay_M53 (ρ 2) (4) (ay_at hp 179 0) (ay_at hp 173 28) := (ax_XF_lt (x := 53) (Nat.le_of_ble_eq_true rfl)).mp (ax_gx hE (53, [11, 4]) ax_m3)
  replace k : 20 * (40 - ay_ln (ay_at hp 179 0)) + 2 * ay_ln (ay_at hp 173 28) + 0 ≤ ρ 2 / 4 := k
  obtain ⟨K, hK⟩ := ax_gj hE 2 (by decide) rfl
  obtain ⟨u, hu, u1, u2, u3⟩ := ax_gi hE 1 2147483648 2147483687 (by decide) rfl
  obtain ⟨u4, u5⟩ := ax_bi_pos u1 (by omega)
  have d4 : ∀ z : Nat, 4 * z / 4 = z := fun z => by omega
  have fu := ay_gfj hE 726 0 7 179 0 ax_m1 (ax_vlq rfl rfl) (ax_vlj rfl rfl)
  replace fu : ay_at hp 179 0 = some (ρ 1) := fu
  have lu : ay_ln (ay_at hp 179 0) = u := by rw [fu, hu]; show 4 * u / 4 = u; omega
  rw [lu] at p k
  have h0 : ρ 0 = 4 * (u + 1) := ay_s hE 7 4 3 (b := 1) (by decide) hu (ax_vl_c (v := 4) (by decide)) (by omega) (by decide)
  obtain ⟨o0, ho0⟩ := ay_some hT (q := 179) (g := 49) (n := 2) (ax_wc ax_WW1 ax_cg_179) (ax_wn ax_WW1 ax_cn_49) (j := 0 / 4) (Nat.le_of_ble_eq_true rfl)
  obtain ⟨ρ', h1, h2⟩ := ax_pn (K := 20 * (40 - (u + 1)) + 13) (xf := [(540, [726, 0, 3, 4, 0, 4, 8, 4]), (555, [726, 0, 3, 15]), (1030, [15, 11])]) hE (by decide) (fun ρ' h1 h2 x hx => by
    rcases List.mem_cons.mp hx with e | hx
    · subst e
      show ax_XF (ax_XM 1) (500 + 40) [726, 0, ρ' 0, 4, 0, 4, 8, 4] hp
      rw [h1 0 (by decide)]
      refine (ax_XF_wr (x := 40) (Nat.le_of_ble_eq_true rfl)).mpr ⟨ay_ex_upd hT.1 (ax_cellT hT (q := 185) (g := 55) (ax_wc ax_WW1 ax_cg_185)), ay_ex_upd hT.1 (ax_cellT hT (q := 173) (g := 11) (ax_wc ax_WW1 ax_cg_173)), ay_ex_upd hT.1 (ax_cellT hT (q := 182) (g := 52) (ax_wc ax_WW1 ax_cg_182)), ay_ex_upd hT.1 (ax_cellT hT (q := 180) (g := 50) (ax_wc ax_WW1 ax_cg_180)), ay_ex_upd hT.1 (ax_cellT hT (q := 179) (g := 49) (ax_wc ax_WW1 ax_cg_179)), ay_ex_upd hT.1 (ax_cellT hT (q := 173) (g := 11) (ax_wc ax_WW1 ax_cg_173)), ?_⟩
      show ay_M40 0 (4) (0) (4) (8) (4) (ay_at (ax_upd hp 726 (0) (ρ 0)) 185) (ay_at (ax_upd hp 726 (0) (ρ 0)) 173 27) (ay_at (ax_upd hp 726 (0) (ρ 0)) 182) (ay_at (ax_upd hp 726 (0) (ρ 0)) 180 0) (ay_at (ax_upd hp 726 (0) (ρ 0)) 179 0) (ay_at (ax_upd hp 726 (0) (ρ 0)) 173 28)
      have c0 : ay_at (ax_upd hp 726 (0) (ρ 0)) 185 = ay_at hp 185 := funext (fun j => ay_upd_ne hT.1 (by decide) j)
      rw [c0]
      have c1 : ay_at (ax_upd hp 726 (0) (ρ 0)) 173 27 = ay_at hp 173 27 := ay_upd_ne hT.1 (by decide) 27
      rw [c1]
      have c2 : ay_at (ax_upd hp 726 (0) (ρ 0)) 182 = ay_at hp 182 := funext (fun j => ay_upd_ne hT.1 (by decide) j)
      rw [c2]
      have c3 : ay_at (ax_upd hp 726 (0) (ρ 0)) 180 0 = ay_at hp 180 0 := ay_upd_ne hT.1 (by decide) 0
      rw [c3]
      have c4 : ay_at (ax_upd hp 726 (0) (ρ 0)) 179 0 = some (ρ 0) := by rw [ay_upd_eq hT.1 rfl ho0, if_pos (by decide)]
      rw [c4]
      have c5 : ay_at (ax_upd hp 726 (0) (ρ 0)) 173 28 = ay_at hp 173 28 := ay_upd_ne hT.1 (by decide) 28
      rw [c5]
      show ay_pg 0 1 0 1 2 1 (ay_at hp 185) (ay_ln (ay_at hp 173 27)) (ay_at hp 182) (ay_ln (ay_at hp 180 0)) (ρ 0 / 4) (ay_ln (ay_at hp 173 28))
      rw [h0, d4]
      exact ay_pg_un p
    rcases List.mem_cons.mp hx with e | hx
    · subst e
      show ax_XF (ax_XM 1) (500 + 55) [726, 0, ρ' 0, ρ' 3] hp
      rw [h1 0 (by decide)]
      refine (ax_XF_wr (x := 55) (Nat.le_of_ble_eq_true rfl)).mpr ⟨ay_ex_upd hT.1 (ax_cellT hT (q := 179) (g := 49) (ax_wc ax_WW1 ax_cg_179)), ?_⟩
      show ay_M55 (ρ' 3) (ay_at (ax_upd hp 726 (0) (ρ 0)) 179 0)
      have c0 : ay_at (ax_upd hp 726 (0) (ρ 0)) 179 0 = some (ρ 0) := by rw [ay_upd_eq hT.1 rfl ho0, if_pos (by decide)]
      rw [c0]
      show 20 * (40 - ρ 0 / 4) + 13 ≤ ρ' 3 / 4
      rw [h2, h0, d4]
      omega
    cases List.mem_singleton.mp hx
    refine (ax_XF_bi (o := 30) (by decide)).mpr (Or.inr ⟨rfl, ?_⟩)
    show ρ' 3 < ρ' 2
    rw [h2, h1 2 (by decide), hK]
    omega)
  exact ⟨(fun x hx => by cases hx), _, List.mem_cons_self, ρ', h1, h2⟩
theorem axq1_ru1 : ax_RO ax_wM1 (ax_XM 1) axu1_ru1 := by
  intro ρ hp hE hT
  obtain ⟨p1, p2, p3, p4, p5, p6, p⟩ : ay_ex hp 185 ∧ ay_ex hp 173 ∧ ay_ex hp 182 ∧ ay_ex hp 180 ∧ ay_ex hp 179 ∧ ay_ex hp 173 ∧ ay_M40 0 (4) (0) (0) (4) (4) (ay_at hp 185) (ay_at hp 173 27) (ay_at hp 182) (ay_at hp 180 0) (ay_at hp 179 0) (ay_at hp 173 28) := (ax_XF_lt (x := 40) (Nat.le_of_ble_eq_true rfl)).mp (ax_gx hE (40, [4, 0, 0, 4, 4]) (by decide))
  replace p : ay_pg 0 1 0 0 1 1 (ay_at hp 185) (ay_ln (ay_at hp 173 27)) (ay_at hp 182) (ay_ln (ay_at hp 180 0)) (ay_ln (ay_at hp 179 0)) (ay_ln (ay_at hp 173 28)) := p
  obtain ⟨d, hd, d1, d2, d3⟩ := ax_gi hE 1 2147483648 2147483653 (by decide) rfl
  obtain ⟨d4, d5⟩ := ax_bi_pos d1 (by omega)
  have d4 : ∀ z : Nat, 4 * z / 4 = z := fun z => by omega
  have fd := ay_gfj hE 702 112 7 173 28 (by decide) (ax_vlq rfl rfl) (ax_vlj rfl rfl)
  replace fd : ay_at hp 173 28 = some (ρ 1) := fd
  have ld : ay_ln (ay_at hp 173 28) = d := by rw [fd, hd]; show 4 * d / 4 = d; omega
  rw [ld] at p
  have h0 : ρ 0 = 4 * (d + 1) := ay_s hE 7 4 3 (b := 1) (by decide) hd (ax_vl_c (v := 4) (by decide)) (by omega) (by decide)
  obtain ⟨o0, ho0⟩ := ay_some hT (q := 173) (g := 11) (n := 58) (ax_wc ax_WW1 ax_cg_173) (ax_wn ax_WW1 ax_cn_11) (j := 112 / 4) (Nat.le_of_ble_eq_true rfl)
  refine ⟨(fun y hy => by cases hy), _, List.mem_cons_self, ρ, fun _ _ => rfl, ax_px hE rfl (fun y hy => ?_)⟩
  cases List.mem_singleton.mp hy
  show ax_XF (ax_XM 1) (500 + 40) [702, 112, ρ 0, 4, 0, 4, 0, 4] hp
  refine (ax_XF_wr (x := 40) (Nat.le_of_ble_eq_true rfl)).mpr ⟨ay_ex_upd hT.1 (ax_cellT hT (q := 185) (g := 55) (ax_wc ax_WW1 ax_cg_185)), ay_ex_upd hT.1 (ax_cellT hT (q := 173) (g := 11) (ax_wc ax_WW1 ax_cg_173)), ay_ex_upd hT.1 (ax_cellT hT (q := 182) (g := 52) (ax_wc ax_WW1 ax_cg_182)), ay_ex_upd hT.1 (ax_cellT hT (q := 180) (g := 50) (ax_wc ax_WW1 ax_cg_180)), ay_ex_upd hT.1 (ax_cellT hT (q := 179) (g := 49) (ax_wc ax_WW1 ax_cg_179)), ay_ex_upd hT.1 (ax_cellT hT (q := 173) (g := 11) (ax_wc ax_WW1 ax_cg_173)), ?_⟩
  show ay_M40 0 (4) (0) (4) (0) (4) (ay_at (ax_upd hp 702 (112) (ρ 0)) 185) (ay_at (ax_upd hp 702 (112) (ρ 0)) 173 27) (ay_at (ax_upd hp 702 (112) (ρ 0)) 182) (ay_at (ax_upd hp 702 (112) (ρ 0)) 180 0) (ay_at (ax_upd hp 702 (112) (ρ 0)) 179 0) (ay_at (ax_upd hp 702 (112) (ρ 0)) 173 28)
  have c0 : ay_at (ax_upd hp 702 (112) (ρ 0)) 185 = ay_at hp 185 := funext (fun j => ay_upd_ne hT.1 (by decide) j)
  rw [c0]
  have c1 : ay_at (ax_upd hp 702 (112) (ρ 0)) 173 27 = ay_at hp 173 27 := by rw [ay_upd_eq hT.1 rfl ho0, if_neg (by decide)]
  rw [c1]
  have c2 : ay_at (ax_upd hp 702 (112) (ρ 0)) 182 = ay_at hp 182 := funext (fun j => ay_upd_ne hT.1 (by decide) j)
  rw [c2]
  have c3 : ay_at (ax_upd hp 702 (112) (ρ 0)) 180 0 = ay_at hp 180 0 := ay_upd_ne hT.1 (by decide) 0
  rw [c3]
  have c4 : ay_at (ax_upd hp 702 (112) (ρ 0)) 179 0 = ay_at hp 179 0 := ay_upd_ne hT.1 (by decide) 0
  rw [c4]
  have c5 : ay_at (ax_upd hp 702 (112) (ρ 0)) 173 28 = some (ρ 0) := by rw [ay_upd_eq hT.1 rfl ho0, if_pos (by decide)]
  rw [c5]
  show ay_pg 0 1 0 1 0 1 (ay_at hp 185) (ay_ln (ay_at hp 173 27)) (ay_at hp 182) (ay_ln (ay_at hp 180 0)) (ay_ln (ay_at hp 179 0)) (ρ 0 / 4)
  rw [h0, d4]
  exact ay_pg_du p
theorem axq1_ru2 : ax_RO ax_wM1 (ax_XM 1) axu1_ru2 := by
  intro ρ hp hE hT
  obtain ⟨k1, k⟩ : ay_ex hp 179 ∧ ay_M55 (ρ 0) (ay_at hp 179 0) := (ax_XF_lt (x := 55) (Nat.le_of_ble_eq_true rfl)).mp (ax_gx hE (55, [3]) (by decide))
  replace k : 20 * (40 - ay_ln (ay_at hp 179 0)) + 13 ≤ ρ 0 / 4 := k
  obtain ⟨d0, hd0⟩ := ay_some hT (q := 173) (g := 11) (n := 58) (ax_wc ax_WW1 ax_cg_173) (ax_wn ax_WW1 ax_cn_11) (j := 28) (by decide)
  obtain ⟨w1, w2, w3, w4⟩ := ay_ty1 hT (q := 173) (g := 11) (lo := 2147483648) (hi := 2147483654) rfl rfl rfl hd0
  have hdp : ay_ln (ay_at hp 173 28) ≤ 6 := by
    rw [hd0]
    show d0 / 4 ≤ 6
    obtain ⟨g1, g2⟩ := ax_bi_pos w2 w3
    omega
  refine ⟨(fun y hy => by cases hy), _, List.mem_cons_self, ρ, fun _ _ => rfl, ax_px hE rfl (fun y hy => ?_)⟩
  cases List.mem_singleton.mp hy
  refine (ax_XF_lt (x := 53) (Nat.le_of_ble_eq_true rfl)).mpr ⟨(ax_cellT hT (q := 179) (g := 49) (ax_wc ax_WW1 ax_cg_179)), (ax_cellT hT (q := 173) (g := 11) (ax_wc ax_WW1 ax_cg_173)), ?_⟩
  show ay_M53 (ρ 0) (4) (ay_at hp 179 0) (ay_at hp 173 28)
  show 20 * (40 - ay_ln (ay_at hp 179 0)) + 2 * ay_ln (ay_at hp 173 28) + 0 ≤ ρ 0 / 4
  omega

theorem axq1_ru3 : ax_RO ax_wM1 (ax_XM 1) axu1_ru3 := by
  intro ρ hp hE hT
  obtain ⟨k1, k⟩ : ay_ex hp 179 ∧ ay_M55 (ρ 0) (ay_at hp 179 0) := (ax_XF_lt (x := 55) (Nat.le_of_ble_eq_true rfl)).mp (ax_gx hE (55, [3]) (by decide))
  replace k : 20 * (40 - ay_ln (ay_at hp 179 0)) + 13 ≤ ρ 0 / 4 := k
  obtain ⟨d0, hd0⟩ := ay_some hT (q := 173) (g := 11) (n := 58) (ax_wc ax_WW1 ax_cg_173) (ax_wn ax_WW1 ax_cn_11) (j := 28) (by decide)
  obtain ⟨w1, w2, w3, w4⟩ := ay_ty1 hT (q := 173) (g := 11) (lo := 2147483648) (hi := 2147483654) rfl rfl rfl hd0
  have hdp : ay_ln (ay_at hp 173 28) ≤ 6 := by
    rw [hd0]
    show d0 / 4 ≤ 6
    obtain ⟨g1, g2⟩ := ax_bi_pos w2 w3
    omega
  refine ⟨(fun y hy => by cases hy), _, List.mem_cons_self, ρ, fun _ _ => rfl, ax_px hE rfl (fun y hy => ?_)⟩
  cases List.mem_singleton.mp hy
  refine (ax_XF_lt (x := 53) (Nat.le_of_ble_eq_true rfl)).mpr ⟨(ax_cellT hT (q := 179) (g := 49) (ax_wc ax_WW1 ax_cg_179)), (ax_cellT hT (q := 173) (g := 11) (ax_wc ax_WW1 ax_cg_173)), ?_⟩
  show ay_M53 (ρ 0) (0) (ay_at hp 179 0) (ay_at hp 173 28)
  show 20 * (40 - ay_ln (ay_at hp 179 0)) + 2 * ay_ln (ay_at hp 173 28) + 1 ≤ ρ 0 / 4
  omega

theorem axq1_rb10 : ax_RO ax_wM1 (ax_XM 1) axu1_rb10 := axqg_rb10 ax_WW1
theorem axq1_rb11 : ax_RO ax_wM1 (ax_XM 1) axu1_rb11 := by
  intro ρ hp hE hT
  obtain ⟨p1, p2, p3, p4, p5, p6, p⟩ : ay_ex hp 185 ∧ ay_ex hp 173 ∧ ay_ex hp 182 ∧ ay_ex hp 180 ∧ ay_ex hp 179 ∧ ay_ex hp 173 ∧ ay_M40 0 (0) (0) (4) (0) (0) (ay_at hp 185) (ay_at hp 173 27) (ay_at hp 182) (ay_at hp 180 0) (ay_at hp 179 0) (ay_at hp 173 28) := (ax_XF_lt (x := 40) (Nat.le_of_ble_eq_true rfl)).mp (ax_gx hE (40, [0, 0, 4, 0, 0]) (by decide))
  replace p : ay_pg 0 0 0 1 0 0 (ay_at hp 185) (ay_ln (ay_at hp 173 27)) (ay_at hp 182) (ay_ln (ay_at hp 180 0)) (ay_ln (ay_at hp 179 0)) (ay_ln (ay_at hp 173 28)) := p
  obtain ⟨o, ho, o1, o2, o3⟩ := ax_gi hE 1 2147483649 2147483748 (by decide) rfl
  obtain ⟨o4, o5⟩ := ax_bi_pos o1 (by omega)
  have d4 : ∀ z : Nat, 4 * z / 4 = z := fun z => by omega
  have fo := ay_gfj hE 702 108 7 173 27 (by decide) (ax_vlq rfl rfl) (ax_vlj rfl rfl)
  replace fo : ay_at hp 173 27 = some (ρ 1) := fo
  have lo : ay_ln (ay_at hp 173 27) = o := by rw [fo, ho]; show 4 * o / 4 = o; omega
  have hs : ρ 0 = 4 * (o - 1) := ay_d hE 3 4 7 (b := 1) (by decide) (ax_vl_c (v := 4) (by decide)) ho (by omega) (by omega)
  obtain ⟨c, hc, c1, c2, c3⟩ := ax_gi hE 2 0 2147484650 (by decide) rfl
  rw [ax_bi_def] at c2 c3
  have fr := ay_gf hE 750 3 11 185 (by decide) (ax_vlq rfl rfl)
  replace fr : ay_at hp 185 (ρ 0 / 4) = some (ρ 2) := fr
  obtain ⟨n, hn⟩ : ∃ n, o = n + 1 := ⟨o - 1, by omega⟩
  have h0 : ρ 0 = 4 * n := by omega
  rw [h0, d4, hc] at fr
  rw [lo, hn] at p
  have ht := ay_pg_top p fr
  exfalso
  omega
theorem axq1_rb12 : ax_RO ax_wM1 (ax_XM 1) axu1_rb12 := by
  intro ρ hp hE hT
  obtain ⟨p1, p2, p3, p4, p5, p6, p⟩ : ay_ex hp 185 ∧ ay_ex hp 173 ∧ ay_ex hp 182 ∧ ay_ex hp 180 ∧ ay_ex hp 179 ∧ ay_ex hp 173 ∧ ay_M40 0 (0) (0) (4) (0) (0) (ay_at hp 185) (ay_at hp 173 27) (ay_at hp 182) (ay_at hp 180 0) (ay_at hp 179 0) (ay_at hp 173 28) := (ax_XF_lt (x := 40) (Nat.le_of_ble_eq_true rfl)).mp (ax_gx hE (40, [0, 0, 4, 0, 0]) (by decide))
  replace p : ay_pg 0 0 0 1 0 0 (ay_at hp 185) (ay_ln (ay_at hp 173 27)) (ay_at hp 182) (ay_ln (ay_at hp 180 0)) (ay_ln (ay_at hp 179 0)) (ay_ln (ay_at hp 173 28)) := p
  obtain ⟨o, ho, o1, o2, o3⟩ := ax_gi hE 1 2147483649 2147483748 (by decide) rfl
  obtain ⟨o4, o5⟩ := ax_bi_pos o1 (by omega)
  have d4 : ∀ z : Nat, 4 * z / 4 = z := fun z => by omega
  have fo := ay_gfj hE 702 108 7 173 27 (by decide) (ax_vlq rfl rfl) (ax_vlj rfl rfl)
  replace fo : ay_at hp 173 27 = some (ρ 1) := fo
  have lo : ay_ln (ay_at hp 173 27) = o := by rw [fo, ho]; show 4 * o / 4 = o; omega
  have hs : ρ 0 = 4 * (o - 1) := ay_d hE 3 4 7 (b := 1) (by decide) (ax_vl_c (v := 4) (by decide)) ho (by omega) (by omega)
  obtain ⟨c, hc, c1, c2, c3⟩ := ax_gi hE 2 2147484658 4294967295 (by decide) rfl
  rw [ax_bi_def] at c2 c3
  have fr := ay_gf hE 750 3 11 185 (by decide) (ax_vlq rfl rfl)
  replace fr : ay_at hp 185 (ρ 0 / 4) = some (ρ 2) := fr
  obtain ⟨n, hn⟩ : ∃ n, o = n + 1 := ⟨o - 1, by omega⟩
  have h0 : ρ 0 = 4 * n := by omega
  rw [h0, d4, hc] at fr
  rw [lo, hn] at p
  have ht := ay_pg_top p fr
  exfalso
  omega
theorem axq1_rb2 : ax_RO ax_wM1 (ax_XM 1) axu1_rb2 := by
  intro ρ hp hE hT
  obtain ⟨k1, k2, k⟩ : ay_ex hp 179 ∧ ay_ex hp 173 ∧ ay_M53 (ρ 0) (0) (ay_at hp 179 0) (ay_at hp 173 28) := (ax_XF_lt (x := 53) (Nat.le_of_ble_eq_true rfl)).mp (ax_gx hE (53, [3, 0]) (by decide))
  replace k : 20 * (40 - ay_ln (ay_at hp 179 0)) + 2 * ay_ln (ay_at hp 173 28) + 1 ≤ ρ 0 / 4 := k
  obtain ⟨K, hK⟩ := ax_gj hE 0 (by decide) rfl
  obtain ⟨z, hz⟩ : ∃ z, ay_ln (ay_at hp 179 0) = z := ⟨_, rfl⟩
  obtain ⟨y, hy⟩ : ∃ z, ay_ln (ay_at hp 173 28) = z := ⟨_, rfl⟩
  rw [hz, hy] at k
  obtain ⟨ρ', h1, h2⟩ := ax_pn (K := 20 * (40 - z) + 2 * y) (xf := [(53, [7, 4]), (1030, [7, 3])]) hE (by decide) (fun ρ' h1 h2 x hx => by
    rcases List.mem_cons.mp hx with e | hx
    · subst e
      refine (ax_XF_lt (x := 53) (Nat.le_of_ble_eq_true rfl)).mpr ⟨(ax_cellT hT (q := 179) (g := 49) (ax_wc ax_WW1 ax_cg_179)), (ax_cellT hT (q := 173) (g := 11) (ax_wc ax_WW1 ax_cg_173)), ?_⟩
      show ay_M53 (ρ' 1) (4) (ay_at hp 179 0) (ay_at hp 173 28)
      show 20 * (40 - ay_ln (ay_at hp 179 0)) + 2 * ay_ln (ay_at hp 173 28) + 0 ≤ ρ' 1 / 4
      rw [h2, hz, hy]
      omega
    cases List.mem_singleton.mp hx
    refine (ax_XF_bi (o := 30) (by decide)).mpr (Or.inr ⟨rfl, ?_⟩)
    show ρ' 1 < ρ' 0
    rw [h2, h1 0 (by decide), hK]
    omega)
  exact ⟨(fun x hx => by cases hx), _, List.mem_cons_self, ρ', h1, h2⟩
theorem axq1_rr0 : ax_RO ax_wM1 (ax_XM 1) axu1_rr0 := by
  intro ρ hp hE hT
  obtain ⟨p1, p2, p⟩ : ay_ex hp 180 ∧ ay_ex hp 179 ∧ ay_M42 (ay_at hp 180 0) (ay_at hp 179 0) := (ax_XF_lt (x := 42) (Nat.le_of_ble_eq_true rfl)).mp (ax_gx hE (42, []) (by decide))
  have fo := ay_gfj hE 702 108 0 173 27 (by decide) (ax_vlq rfl rfl) (ax_vlj rfl rfl)
  replace fo : ay_at hp 173 27 = some (0) := fo
  have lo : ay_ln (ay_at hp 173 27) = 0 := by rw [fo]; rfl
  obtain ⟨o0, ho0⟩ := ay_some hT (q := 173) (g := 11) (n := 58) (ax_wc ax_WW1 ax_cg_173) (ax_wn ax_WW1 ax_cn_11) (j := 112 / 4) (Nat.le_of_ble_eq_true rfl)
  refine ⟨(fun y hy => by cases hy), _, List.mem_cons_self, ρ, fun _ _ => rfl, ax_px hE rfl (fun y hy => ?_)⟩
  cases List.mem_singleton.mp hy
  show ax_XF (ax_XM 1) (500 + 40) [702, 112, 0, 4, 0, 4, 0, 4] hp
  refine (ax_XF_wr (x := 40) (Nat.le_of_ble_eq_true rfl)).mpr ⟨ay_ex_upd hT.1 (ax_cellT hT (q := 185) (g := 55) (ax_wc ax_WW1 ax_cg_185)), ay_ex_upd hT.1 (ax_cellT hT (q := 173) (g := 11) (ax_wc ax_WW1 ax_cg_173)), ay_ex_upd hT.1 (ax_cellT hT (q := 182) (g := 52) (ax_wc ax_WW1 ax_cg_182)), ay_ex_upd hT.1 (ax_cellT hT (q := 180) (g := 50) (ax_wc ax_WW1 ax_cg_180)), ay_ex_upd hT.1 (ax_cellT hT (q := 179) (g := 49) (ax_wc ax_WW1 ax_cg_179)), ay_ex_upd hT.1 (ax_cellT hT (q := 173) (g := 11) (ax_wc ax_WW1 ax_cg_173)), ?_⟩
  show ay_M40 0 (4) (0) (4) (0) (4) (ay_at (ax_upd hp 702 (112) (0)) 185) (ay_at (ax_upd hp 702 (112) (0)) 173 27) (ay_at (ax_upd hp 702 (112) (0)) 182) (ay_at (ax_upd hp 702 (112) (0)) 180 0) (ay_at (ax_upd hp 702 (112) (0)) 179 0) (ay_at (ax_upd hp 702 (112) (0)) 173 28)
  have c0 : ay_at (ax_upd hp 702 (112) (0)) 185 = ay_at hp 185 := funext (fun j => ay_upd_ne hT.1 (by decide) j)
  rw [c0]
  have c1 : ay_at (ax_upd hp 702 (112) (0)) 173 27 = ay_at hp 173 27 := by rw [ay_upd_eq hT.1 rfl ho0, if_neg (by decide)]
  rw [c1]
  have c2 : ay_at (ax_upd hp 702 (112) (0)) 182 = ay_at hp 182 := funext (fun j => ay_upd_ne hT.1 (by decide) j)
  rw [c2]
  have c3 : ay_at (ax_upd hp 702 (112) (0)) 180 0 = ay_at hp 180 0 := ay_upd_ne hT.1 (by decide) 0
  rw [c3]
  have c4 : ay_at (ax_upd hp 702 (112) (0)) 179 0 = ay_at hp 179 0 := ay_upd_ne hT.1 (by decide) 0
  rw [c4]
  have c5 : ay_at (ax_upd hp 702 (112) (0)) 173 28 = some (0) := by rw [ay_upd_eq hT.1 rfl ho0, if_pos (by decide)]
  rw [c5]
  show ay_pg 0 1 0 1 0 1 (ay_at hp 185) (ay_ln (ay_at hp 173 27)) (ay_at hp 182) (ay_ln (ay_at hp 180 0)) (ay_ln (ay_at hp 179 0)) 0
  rw [lo, p.1, p.2]
  exact ay_pg_0
theorem axq1_rr1 : ax_RO ax_wM1 (ax_XM 1) axu1_rr1 := by
  intro ρ hp hE hT
  obtain ⟨z, hz⟩ : ∃ z, ay_ln (ay_at hp 179 0) = z := ⟨_, rfl⟩
  obtain ⟨y, hy⟩ : ∃ z, ay_ln (ay_at hp 173 28) = z := ⟨_, rfl⟩
  obtain ⟨ρ', h1, h2⟩ := ax_pn (K := 20 * (40 - z) + 2 * y) (xf := [(53, [3, 4])]) hE (by decide) (fun ρ' h1 h2 x hx => by
    cases List.mem_singleton.mp hx
    refine (ax_XF_lt (x := 53) (Nat.le_of_ble_eq_true rfl)).mpr ⟨(ax_cellT hT (q := 179) (g := 49) (ax_wc ax_WW1 ax_cg_179)), (ax_cellT hT (q := 173) (g := 11) (ax_wc ax_WW1 ax_cg_173)), ?_⟩
    show ay_M53 (ρ' 0) (4) (ay_at hp 179 0) (ay_at hp 173 28)
    show 20 * (40 - ay_ln (ay_at hp 179 0)) + 2 * ay_ln (ay_at hp 173 28) + 0 ≤ ρ' 0 / 4
    rw [h2, hz, hy]
    omega)
  exact ⟨(fun x hx => by cases hx), _, List.mem_cons_self, ρ', h1, h2⟩
theorem axq1_rr2 : ax_RO ax_wM1 (ax_XM 1) axu1_rr2 := by
  intro ρ hp hE hT
  obtain ⟨p1, p2, p3, p4, p5, p6, p⟩ : ay_ex hp 185 ∧ ay_ex hp 173 ∧ ay_ex hp 182 ∧ ay_ex hp 180 ∧ ay_ex hp 179 ∧ ay_ex hp 173 ∧ ay_M40 0 (0) (0) (4) (0) (0) (ay_at hp 185) (ay_at hp 173 27) (ay_at hp 182) (ay_at hp 180 0) (ay_at hp 179 0) (ay_at hp 173 28) := (ax_XF_lt (x := 40) (Nat.le_of_ble_eq_true rfl)).mp (ax_gx hE (40, [0, 0, 4, 0, 0]) (by decide))
  replace p : ay_pg 0 0 0 1 0 0 (ay_at hp 185) (ay_ln (ay_at hp 173 27)) (ay_at hp 182) (ay_ln (ay_at hp 180 0)) (ay_ln (ay_at hp 179 0)) (ay_ln (ay_at hp 173 28)) := p
  obtain ⟨o, ho, o1, o2, o3⟩ := ax_gi hE 0 2147483649 2147483748 (by decide) rfl
  obtain ⟨o4, o5⟩ := ax_bi_pos o1 (by omega)
  obtain ⟨d, hd, d1, d2, d3⟩ := ax_gi hE 1 2147483648 2147483648 (by decide) rfl
  obtain ⟨d4, d5⟩ := ax_bi_pos d1 (by omega)
  have fo := ay_gfj hE 702 108 3 173 27 (by decide) (ax_vlq rfl rfl) (ax_vlj rfl rfl)
  replace fo : ay_at hp 173 27 = some (ρ 0) := fo
  have lo : ay_ln (ay_at hp 173 27) = o := by rw [fo, ho]; show 4 * o / 4 = o; omega
  have fd := ay_gfj hE 702 112 7 173 28 (by decide) (ax_vlq rfl rfl) (ax_vlj rfl rfl)
  replace fd : ay_at hp 173 28 = some (ρ 1) := fd
  have ld : ay_ln (ay_at hp 173 28) = d := by rw [fd, hd]; show 4 * d / 4 = d; omega
  obtain ⟨n, hn⟩ : ∃ n, o = n + 1 := ⟨o - 1, by omega⟩
  rw [lo, hn, ld, show d = 0 by omega] at p
  refine ⟨(fun y hy => by cases hy), _, List.mem_cons_self, ρ, fun _ _ => rfl, ax_px hE rfl (fun y hy => ?_)⟩
  cases List.mem_singleton.mp hy
  refine (ax_XF_lt (x := 57) (Nat.le_of_ble_eq_true rfl)).mpr ⟨(ax_cellT hT (q := 173) (g := 11) (ax_wc ax_WW1 ax_cg_173)), (ax_cellT hT (q := 185) (g := 55) (ax_wc ax_WW1 ax_cg_185)), ?_⟩
  show 1 ≤ ay_ln (ay_at hp 173 27) ∧ ay_isb (ay_at hp 185 (ay_ln (ay_at hp 173 27) - 1)) = true
  rw [lo, hn]
  refine ⟨by omega, ?_⟩
  show ay_isb (ay_at hp 185 n) = true
  exact ay_pg_flat p

theorem axq1_rr3 : ax_RO ax_wM1 (ax_XM 1) axu1_rr3 := by
  intro ρ hp hE hT
  obtain ⟨p1, p2, p3, p4, p5, p6, p⟩ : ay_ex hp 185 ∧ ay_ex hp 173 ∧ ay_ex hp 182 ∧ ay_ex hp 180 ∧ ay_ex hp 179 ∧ ay_ex hp 173 ∧ ay_M40 0 (0) (0) (4) (0) (0) (ay_at hp 185) (ay_at hp 173 27) (ay_at hp 182) (ay_at hp 180 0) (ay_at hp 179 0) (ay_at hp 173 28) := (ax_XF_lt (x := 40) (Nat.le_of_ble_eq_true rfl)).mp (ax_gx hE (40, [0, 0, 4, 0, 0]) (by decide))
  replace p : ay_pg 0 0 0 1 0 0 (ay_at hp 185) (ay_ln (ay_at hp 173 27)) (ay_at hp 182) (ay_ln (ay_at hp 180 0)) (ay_ln (ay_at hp 179 0)) (ay_ln (ay_at hp 173 28)) := p
  obtain ⟨o, ho, o1, o2, o3⟩ := ax_gi hE 0 2147483648 2147483648 (by decide) rfl
  obtain ⟨o4, o5⟩ := ax_bi_pos o1 (by omega)
  obtain ⟨h, hh, h1, h2, h3⟩ := ax_gi hE 1 2147483649 2147483649 (by decide) rfl
  obtain ⟨h4, h5⟩ := ax_bi_pos h1 (by omega)
  have fh := ay_gfj hE 702 96 7 173 24 (by decide) (ax_vlq rfl rfl) (ax_vlj rfl rfl)
  replace fh : ay_at hp 173 24 = some (ρ 1) := fh
  have fo := ay_gfj hE 702 108 3 173 27 (by decide) (ax_vlq rfl rfl) (ax_vlj rfl rfl)
  replace fo : ay_at hp 173 27 = some (ρ 0) := fo
  have lo : ay_ln (ay_at hp 173 27) = o := by rw [fo, ho]; show 4 * o / 4 = o; omega
  rw [lo, show o = 0 by omega] at p
  refine ⟨(fun y hy => by cases hy), _, List.mem_cons_self, ρ, fun _ _ => rfl, ax_px hE rfl (fun y hy => ?_)⟩
  cases List.mem_singleton.mp hy
  refine (ax_XF_lt (x := 52) (Nat.le_of_ble_eq_true rfl)).mpr ⟨(ax_cellT hT (q := 182) (g := 52) (ax_wc ax_WW1 ax_cg_182)), (ax_cellT hT (q := 180) (g := 50) (ax_wc ax_WW1 ax_cg_180)), (ax_cellT hT (q := 179) (g := 49) (ax_wc ax_WW1 ax_cg_179)), (ax_cellT hT (q := 173) (g := 11) (ax_wc ax_WW1 ax_cg_173)), (ax_cellT hT (q := 173) (g := 11) (ax_wc ax_WW1 ax_cg_173)), ?_⟩
  refine ⟨fun _ => ay_pg_end p, fun e => ?_⟩
  replace e : ay_at hp 173 24 = some 0 := e
  rw [fh] at e
  have e := Option.some.inj e
  omega

theorem axq1_rr4 : ax_RO ax_wM1 (ax_XM 1) axu1_rr4 := axqg_rr4 ax_WW1
theorem axq1_rr8 : ax_RO ax_wM1 (ax_XM 1) axu1_rr8 := by
  intro ρ hp hE hT
  obtain ⟨p1, p2, p3, p4, p5, p6, p⟩ : ay_ex hp 185 ∧ ay_ex hp 173 ∧ ay_ex hp 182 ∧ ay_ex hp 180 ∧ ay_ex hp 179 ∧ ay_ex hp 173 ∧ ay_M40 0 (ρ 0) (0) (4) (0) (ρ 0) (ay_at hp 185) (ay_at hp 173 27) (ay_at hp 182) (ay_at hp 180 0) (ay_at hp 179 0) (ay_at hp 173 28) := (ax_XF_lt (x := 40) (Nat.le_of_ble_eq_true rfl)).mp (ax_gx hE (40, [3, 0, 4, 0, 3]) (by decide))
  obtain ⟨u, hu, u1, u2, u3⟩ := ax_gi hE 0 2147483649 2147483649 (by decide) rfl
  obtain ⟨u4, u5⟩ := ax_bi_pos u1 (by omega)
  have hu0 : ρ 0 = 4 := by omega
  rw [hu0] at p
  refine ⟨(fun y hy => by cases hy), _, List.mem_cons_self, ρ, fun _ _ => rfl, ax_px hE rfl (fun y hy => ?_)⟩
  cases List.mem_singleton.mp hy
  refine (ax_XF_lt (x := 40) (Nat.le_of_ble_eq_true rfl)).mpr ⟨(ax_cellT hT (q := 185) (g := 55) (ax_wc ax_WW1 ax_cg_185)), (ax_cellT hT (q := 173) (g := 11) (ax_wc ax_WW1 ax_cg_173)), (ax_cellT hT (q := 182) (g := 52) (ax_wc ax_WW1 ax_cg_182)), (ax_cellT hT (q := 180) (g := 50) (ax_wc ax_WW1 ax_cg_180)), (ax_cellT hT (q := 179) (g := 49) (ax_wc ax_WW1 ax_cg_179)), (ax_cellT hT (q := 173) (g := 11) (ax_wc ax_WW1 ax_cg_173)), ?_⟩
  show ay_M40 0 (4) (0) (4) (0) (4) (ay_at hp 185) (ay_at hp 173 27) (ay_at hp 182) (ay_at hp 180 0) (ay_at hp 179 0) (ay_at hp 173 28)
  exact p

theorem axq1_rr9 : ax_RO ax_wM1 (ax_XM 1) axu1_rr9 := by
  intro ρ hp hE hT
  obtain ⟨p1, p2, p⟩ : ay_ex hp 179 ∧ ay_ex hp 173 ∧ ay_M53 (ρ 1) (ρ 0) (ay_at hp 179 0) (ay_at hp 173 28) := (ax_XF_lt (x := 53) (Nat.le_of_ble_eq_true rfl)).mp (ax_gx hE (53, [7, 3]) (by decide))
  obtain ⟨u, hu, u1, u2, u3⟩ := ax_gi hE 0 2147483649 2147483649 (by decide) rfl
  obtain ⟨u4, u5⟩ := ax_bi_pos u1 (by omega)
  have hu0 : ρ 0 = 4 := by omega
  rw [hu0] at p
  refine ⟨(fun y hy => by cases hy), _, List.mem_cons_self, ρ, fun _ _ => rfl, ax_px hE rfl (fun y hy => ?_)⟩
  cases List.mem_singleton.mp hy
  refine (ax_XF_lt (x := 53) (Nat.le_of_ble_eq_true rfl)).mpr ⟨(ax_cellT hT (q := 179) (g := 49) (ax_wc ax_WW1 ax_cg_179)), (ax_cellT hT (q := 173) (g := 11) (ax_wc ax_WW1 ax_cg_173)), ?_⟩
  show ay_M53 (ρ 1) (4) (ay_at hp 179 0) (ay_at hp 173 28)
  exact p

theorem axq1_rra : ax_RO ax_wM1 (ax_XM 1) axu1_rra := by
  intro ρ hp hE hT
  obtain ⟨p1, p2, p3, p4, p5, p6, p⟩ : ay_ex hp 185 ∧ ay_ex hp 173 ∧ ay_ex hp 182 ∧ ay_ex hp 180 ∧ ay_ex hp 179 ∧ ay_ex hp 173 ∧ ay_M40 0 (ρ 0) (0) (4) (0) (ρ 0) (ay_at hp 185) (ay_at hp 173 27) (ay_at hp 182) (ay_at hp 180 0) (ay_at hp 179 0) (ay_at hp 173 28) := (ax_XF_lt (x := 40) (Nat.le_of_ble_eq_true rfl)).mp (ax_gx hE (40, [3, 0, 4, 0, 3]) (by decide))
  obtain ⟨u, hu, u1, u2, u3⟩ := ax_gi hE 0 2147483648 2147483648 (by decide) rfl
  obtain ⟨u4, u5⟩ := ax_bi_pos u1 (by omega)
  have hu0 : ρ 0 = 0 := by omega
  rw [hu0] at p
  refine ⟨(fun y hy => by cases hy), _, List.mem_cons_self, ρ, fun _ _ => rfl, ax_px hE rfl (fun y hy => ?_)⟩
  cases List.mem_singleton.mp hy
  refine (ax_XF_lt (x := 40) (Nat.le_of_ble_eq_true rfl)).mpr ⟨(ax_cellT hT (q := 185) (g := 55) (ax_wc ax_WW1 ax_cg_185)), (ax_cellT hT (q := 173) (g := 11) (ax_wc ax_WW1 ax_cg_173)), (ax_cellT hT (q := 182) (g := 52) (ax_wc ax_WW1 ax_cg_182)), (ax_cellT hT (q := 180) (g := 50) (ax_wc ax_WW1 ax_cg_180)), (ax_cellT hT (q := 179) (g := 49) (ax_wc ax_WW1 ax_cg_179)), (ax_cellT hT (q := 173) (g := 11) (ax_wc ax_WW1 ax_cg_173)), ?_⟩
  show ay_M40 0 (0) (0) (4) (0) (0) (ay_at hp 185) (ay_at hp 173 27) (ay_at hp 182) (ay_at hp 180 0) (ay_at hp 179 0) (ay_at hp 173 28)
  exact p

theorem axq1_rrb : ax_RO ax_wM1 (ax_XM 1) axu1_rrb := by
  intro ρ hp hE hT
  obtain ⟨p1, p2, p⟩ : ay_ex hp 179 ∧ ay_ex hp 173 ∧ ay_M53 (ρ 1) (ρ 0) (ay_at hp 179 0) (ay_at hp 173 28) := (ax_XF_lt (x := 53) (Nat.le_of_ble_eq_true rfl)).mp (ax_gx hE (53, [7, 3]) (by decide))
  obtain ⟨u, hu, u1, u2, u3⟩ := ax_gi hE 0 2147483648 2147483648 (by decide) rfl
  obtain ⟨u4, u5⟩ := ax_bi_pos u1 (by omega)
  have hu0 : ρ 0 = 0 := by omega
  rw [hu0] at p
  refine ⟨(fun y hy => by cases hy), _, List.mem_cons_self, ρ, fun _ _ => rfl, ax_px hE rfl (fun y hy => ?_)⟩
  cases List.mem_singleton.mp hy
  refine (ax_XF_lt (x := 53) (Nat.le_of_ble_eq_true rfl)).mpr ⟨(ax_cellT hT (q := 179) (g := 49) (ax_wc ax_WW1 ax_cg_179)), (ax_cellT hT (q := 173) (g := 11) (ax_wc ax_WW1 ax_cg_173)), ?_⟩
  show ay_M53 (ρ 1) (0) (ay_at hp 179 0) (ay_at hp 173 28)
  exact p

theorem axq1_rrc : ax_RO ax_wM1 (ax_XM 1) axu1_rrc := by
  intro ρ hp hE hT
  obtain ⟨p1, p2, p3, p4, p5, p6, p⟩ : ay_ex hp 185 ∧ ay_ex hp 173 ∧ ay_ex hp 182 ∧ ay_ex hp 180 ∧ ay_ex hp 179 ∧ ay_ex hp 173 ∧ ay_M40 0 (0) (0) (4) (0) (0) (ay_at hp 185) (ay_at hp 173 27) (ay_at hp 182) (ay_at hp 180 0) (ay_at hp 179 0) (ay_at hp 173 28) := (ax_XF_lt (x := 40) (Nat.le_of_ble_eq_true rfl)).mp (ax_gx hE (40, [0, 0, 4, 0, 0]) (by decide))
  obtain ⟨u, hu, u1, u2, u3⟩ := ax_gi hE 0 2147483648 2147483648 (by decide) rfl
  obtain ⟨u4, u5⟩ := ax_bi_pos u1 (by omega)
  have hu0 : ρ 0 = 0 := by omega
  refine ⟨(fun y hy => by cases hy), _, List.mem_cons_self, ρ, fun _ _ => rfl, ax_px hE rfl (fun y hy => ?_)⟩
  cases List.mem_singleton.mp hy
  refine (ax_XF_lt (x := 40) (Nat.le_of_ble_eq_true rfl)).mpr ⟨(ax_cellT hT (q := 185) (g := 55) (ax_wc ax_WW1 ax_cg_185)), (ax_cellT hT (q := 173) (g := 11) (ax_wc ax_WW1 ax_cg_173)), (ax_cellT hT (q := 182) (g := 52) (ax_wc ax_WW1 ax_cg_182)), (ax_cellT hT (q := 180) (g := 50) (ax_wc ax_WW1 ax_cg_180)), (ax_cellT hT (q := 179) (g := 49) (ax_wc ax_WW1 ax_cg_179)), (ax_cellT hT (q := 173) (g := 11) (ax_wc ax_WW1 ax_cg_173)), ?_⟩
  show ay_M40 0 (ρ 0) (0) (4) (0) (ρ 0) (ay_at hp 185) (ay_at hp 173 27) (ay_at hp 182) (ay_at hp 180 0) (ay_at hp 179 0) (ay_at hp 173 28)
  rw [hu0]
  exact p

theorem axq1_rrd : ax_RO ax_wM1 (ax_XM 1) axu1_rrd := by
  intro ρ hp hE hT
  obtain ⟨p1, p2, p⟩ : ay_ex hp 179 ∧ ay_ex hp 173 ∧ ay_M53 (ρ 1) (0) (ay_at hp 179 0) (ay_at hp 173 28) := (ax_XF_lt (x := 53) (Nat.le_of_ble_eq_true rfl)).mp (ax_gx hE (53, [7, 0]) (by decide))
  obtain ⟨u, hu, u1, u2, u3⟩ := ax_gi hE 0 2147483648 2147483648 (by decide) rfl
  obtain ⟨u4, u5⟩ := ax_bi_pos u1 (by omega)
  have hu0 : ρ 0 = 0 := by omega
  refine ⟨(fun y hy => by cases hy), _, List.mem_cons_self, ρ, fun _ _ => rfl, ax_px hE rfl (fun y hy => ?_)⟩
  cases List.mem_singleton.mp hy
  refine (ax_XF_lt (x := 53) (Nat.le_of_ble_eq_true rfl)).mpr ⟨(ax_cellT hT (q := 179) (g := 49) (ax_wc ax_WW1 ax_cg_179)), (ax_cellT hT (q := 173) (g := 11) (ax_wc ax_WW1 ax_cg_173)), ?_⟩
  show ay_M53 (ρ 1) (ρ 0) (ay_at hp 179 0) (ay_at hp 173 28)
  rw [hu0]
  exact p

theorem axq1_rl0 : ax_RO ax_wM1 (ax_XM 1) axu1_rl0 := by
  intro ρ hp hE hT
  obtain ⟨x, hx, x1, x2, x3⟩ := ax_gi hE 0 2147483648 2147493647 (by decide) rfl
  obtain ⟨x4, x5⟩ := ax_bi_pos x1 (by omega)
  have d4 : ∀ z : Nat, 4 * z / 4 = z := fun z => by omega
  obtain ⟨z, hz, z1, z2, z3⟩ := ax_gi hE 2 2147483648 2147483648 (by decide) rfl
  obtain ⟨z4, z5⟩ := ax_bi_pos z1 (by omega)
  have fz := ay_gfj hE 702 72 11 173 18 ax_m0 (ax_vlq rfl rfl) (ax_vlj rfl rfl)
  replace fz : ay_at hp 173 18 = some (ρ 2) := fz
  obtain ⟨p1, p2, p3, p4, p5, p⟩ : ay_ex hp 175 ∧ ay_ex hp 177 ∧ ay_ex hp 176 ∧ ay_ex hp 181 ∧ ay_ex hp 173 ∧ ay_M50 0 (ay_at hp 175 0) (ay_at hp 177 0) (ay_at hp 176 0) (ay_at hp 181) (ay_at hp 173 18) := (ax_XF_lt (x := 50) (Nat.le_of_ble_eq_true rfl)).mp (ax_gx hE (50, []) ax_m1)
  have fn := ay_gfj hE 710 0 15 175 0 ax_m2 (ax_vlq rfl rfl) (ax_vlj rfl rfl)
  replace fn : ay_at hp 175 0 = some (ρ 3) := fn
  obtain ⟨pn, pr, pe⟩ := p (by rw [fz, hz, show z = 0 by omega])
  obtain ⟨a, b, c, ha, hb, hc, la, lb, lc, hs⟩ := ax_gs hE 19 4 15 (by decide)
  replace ha : ρ 4 = 4 * a := ha
  replace hc : ρ 3 = 4 * c := hc
  have hb' : b = 1 := by have : (4 : Nat) = 4 * b := hb; omega
  have ln : ay_ln (ay_at hp 175 0) = c := by rw [fn, hc]; show 4 * c / 4 = c; omega
  have hle : rx_bi (ρ 0 / 4) ≤ rx_bi (ρ 4 / 4) := ax_gc hE 5 3 19 (by decide) (by decide)
  rw [hx, ha, d4, d4] at hle
  rw [ln] at pn
  rw [hb', ax_bi_nat (c := c) (by omega), ax_bi_nat (c := 1) (by decide)] at hs
  have hxc : x < c := by omega
  obtain ⟨l, hl, l1, l2, l3⟩ := ax_gi hE 5 2147483648 2147483667 (by decide) rfl
  obtain ⟨l4, l5⟩ := ax_bi_pos l1 (by omega)
  have fl := ay_gfj hE 714 0 23 176 0 ax_m5 (ax_vlq rfl rfl) (ax_vlj rfl rfl)
  replace fl : ay_at hp 176 0 = some (ρ 5) := fl
  have ll : ay_ln (ay_at hp 176 0) = l := by rw [fl, hl]; show 4 * l / 4 = l; omega
  have hj2 : ρ 1 = 4 * (0 + 2 * l + 0) := ay_ix hE 0 23 27 31 0 7 (k := 0) (e := 0) (ax_vl_c (v := 0) (by decide)) (by decide) hl (by omega) (ax_vl_c (v := 0) (by decide)) (by decide) (by decide) (by decide) (by decide)
  obtain ⟨o0, ho0⟩ := ay_some hT (q := 181) (g := 51) (n := 80) (ax_wc ax_WW1 ax_cg_181) (ax_wn ax_WW1 ax_cn_51) (j := ρ 1 / 4) (by omega)
  refine ⟨fun y hy => ?_, _, List.mem_cons_self, ρ, fun _ _ => rfl, ax_px hE rfl (fun y hy => ?_)⟩
  · cases List.mem_singleton.mp hy
    show 2147483648 ≤ rx_bi (ρ 0 / 4) ∧ rx_bi (ρ 0 / 4) ≤ 2147483657
    rw [hx, d4, ax_bi_nat (by omega)]
    omega
  rcases List.mem_cons.mp hy with e | hy
  · subst e
    show ax_XF (ax_XM 1) (500 + 50) [734, ρ 1, ρ 0] hp
    refine (ax_XF_wr (x := 50) (Nat.le_of_ble_eq_true rfl)).mpr ⟨ay_ex_upd hT.1 (ax_cellT hT (q := 175) (g := 45) (ax_wc ax_WW1 ax_cg_175)), ay_ex_upd hT.1 (ax_cellT hT (q := 177) (g := 47) (ax_wc ax_WW1 ax_cg_177)), ay_ex_upd hT.1 (ax_cellT hT (q := 176) (g := 46) (ax_wc ax_WW1 ax_cg_176)), ay_ex_upd hT.1 (ax_cellT hT (q := 181) (g := 51) (ax_wc ax_WW1 ax_cg_181)), ay_ex_upd hT.1 (ax_cellT hT (q := 173) (g := 11) (ax_wc ax_WW1 ax_cg_173)), ?_⟩
    show ay_M50 0 (ay_at (ax_upd hp 734 (ρ 1) (ρ 0)) 175 0) (ay_at (ax_upd hp 734 (ρ 1) (ρ 0)) 177 0) (ay_at (ax_upd hp 734 (ρ 1) (ρ 0)) 176 0) (ay_at (ax_upd hp 734 (ρ 1) (ρ 0)) 181) (ay_at (ax_upd hp 734 (ρ 1) (ρ 0)) 173 18)
    have c0 : ay_at (ax_upd hp 734 (ρ 1) (ρ 0)) 175 0 = ay_at hp 175 0 := ay_upd_ne hT.1 (by decide) 0
    rw [c0]
    have c1 : ay_at (ax_upd hp 734 (ρ 1) (ρ 0)) 177 0 = ay_at hp 177 0 := ay_upd_ne hT.1 (by decide) 0
    rw [c1]
    have c2 : ay_at (ax_upd hp 734 (ρ 1) (ρ 0)) 176 0 = ay_at hp 176 0 := ay_upd_ne hT.1 (by decide) 0
    rw [c2]
    have c3 : ∀ j, ay_at (ax_upd hp 734 (ρ 1) (ρ 0)) 181 j = if j = (ρ 1) / 4 then some (ρ 0) else ay_at hp 181 j := fun j => ay_upd_eq hT.1 rfl ho0 j
    have c4 : ay_at (ax_upd hp 734 (ρ 1) (ρ 0)) 173 18 = ay_at hp 173 18 := ay_upd_ne hT.1 (by decide) 18
    rw [c4]
    intro _
    refine ⟨by rw [ln]; exact pn, pr, fun j hj => ?_⟩
    obtain ⟨t, t1, t2⟩ := pe j hj
    rw [ll] at hj
    refine ⟨t, ?_, t2⟩
    rw [c3, if_neg (by omega)]
    exact t1
  cases List.mem_singleton.mp hy
  show ax_XF (ax_XM 1) (500 + 64) [734, ρ 1, ρ 0] hp
  refine (ax_XF_wr (x := 64) (Nat.le_of_ble_eq_true rfl)).mpr ⟨ay_ex_upd hT.1 (ax_cellT hT (q := 181) (g := 51) (ax_wc ax_WW1 ax_cg_181)), ay_ex_upd hT.1 (ax_cellT hT (q := 176) (g := 46) (ax_wc ax_WW1 ax_cg_176)), ay_ex_upd hT.1 (ax_cellT hT (q := 175) (g := 45) (ax_wc ax_WW1 ax_cg_175)), ?_⟩
  show ay_M64 0 (ay_at (ax_upd hp 734 (ρ 1) (ρ 0)) 181) (ay_at (ax_upd hp 734 (ρ 1) (ρ 0)) 176 0) (ay_at (ax_upd hp 734 (ρ 1) (ρ 0)) 175 0)
  have c0 : ∀ j, ay_at (ax_upd hp 734 (ρ 1) (ρ 0)) 181 j = if j = (ρ 1) / 4 then some (ρ 0) else ay_at hp 181 j := fun j => ay_upd_eq hT.1 rfl ho0 j
  have c1 : ay_at (ax_upd hp 734 (ρ 1) (ρ 0)) 176 0 = ay_at hp 176 0 := ay_upd_ne hT.1 (by decide) 0
  rw [c1]
  have c2 : ay_at (ax_upd hp 734 (ρ 1) (ρ 0)) 175 0 = ay_at hp 175 0 := ay_upd_ne hT.1 (by decide) 0
  rw [c2]
  refine ⟨x, ?_, by rw [ln]; exact hxc⟩
  rw [c0, ll, if_pos (by omega), hx]

theorem axq1_rl1 : ax_RO ax_wM1 (ax_XM 1) axu1_rl1 := by
  intro ρ hp hE hT
  obtain ⟨x, hx, x1, x2, x3⟩ := ax_gi hE 0 2147483648 2147493647 (by decide) rfl
  obtain ⟨x4, x5⟩ := ax_bi_pos x1 (by omega)
  have d4 : ∀ z : Nat, 4 * z / 4 = z := fun z => by omega
  obtain ⟨z, hz, z1, z2, z3⟩ := ax_gi hE 2 2147483648 2147483648 (by decide) rfl
  obtain ⟨z4, z5⟩ := ax_bi_pos z1 (by omega)
  have fz := ay_gfj hE 702 72 11 173 18 ax_m0 (ax_vlq rfl rfl) (ax_vlj rfl rfl)
  replace fz : ay_at hp 173 18 = some (ρ 2) := fz
  obtain ⟨p1, p2, p3, p4, p5, p⟩ : ay_ex hp 175 ∧ ay_ex hp 177 ∧ ay_ex hp 176 ∧ ay_ex hp 181 ∧ ay_ex hp 173 ∧ ay_M50 0 (ay_at hp 175 0) (ay_at hp 177 0) (ay_at hp 176 0) (ay_at hp 181) (ay_at hp 173 18) := (ax_XF_lt (x := 50) (Nat.le_of_ble_eq_true rfl)).mp (ax_gx hE (50, []) ax_m1)
  have fn := ay_gfj hE 710 0 15 175 0 ax_m2 (ax_vlq rfl rfl) (ax_vlj rfl rfl)
  replace fn : ay_at hp 175 0 = some (ρ 3) := fn
  obtain ⟨pn, pr, pe⟩ := p (by rw [fz, hz, show z = 0 by omega])
  obtain ⟨a, b, c, ha, hb, hc, la, lb, lc, hs⟩ := ax_gs hE 19 4 15 (by decide)
  replace ha : ρ 4 = 4 * a := ha
  replace hc : ρ 3 = 4 * c := hc
  have hb' : b = 1 := by have : (4 : Nat) = 4 * b := hb; omega
  have ln : ay_ln (ay_at hp 175 0) = c := by rw [fn, hc]; show 4 * c / 4 = c; omega
  have hle : rx_bi (ρ 0 / 4) ≤ rx_bi (ρ 4 / 4) := ax_gc hE 5 3 19 (by decide) (by decide)
  rw [hx, ha, d4, d4] at hle
  rw [ln] at pn
  rw [hb', ax_bi_nat (c := c) (by omega), ax_bi_nat (c := 1) (by decide)] at hs
  have hxc : x < c := by omega
  obtain ⟨l, hl, l1, l2, l3⟩ := ax_gi hE 5 2147483648 2147483667 (by decide) rfl
  obtain ⟨l4, l5⟩ := ax_bi_pos l1 (by omega)
  have fl := ay_gfj hE 714 0 23 176 0 ax_m5 (ax_vlq rfl rfl) (ax_vlj rfl rfl)
  replace fl : ay_at hp 176 0 = some (ρ 5) := fl
  have ll : ay_ln (ay_at hp 176 0) = l := by rw [fl, hl]; show 4 * l / 4 = l; omega
  have hj2 : ρ 1 = 4 * (0 + 2 * l + 1) := ay_ix hE 0 23 27 31 4 7 (k := 0) (e := 1) (ax_vl_c (v := 0) (by decide)) (by decide) hl (by omega) (ax_vl_c (v := 4) (by decide)) (by decide) (by decide) (by decide) (by decide)
  obtain ⟨q1, q2, q3, q⟩ : ay_ex hp 181 ∧ ay_ex hp 176 ∧ ay_ex hp 175 ∧ ay_M64 0 (ay_at hp 181) (ay_at hp 176 0) (ay_at hp 175 0) := (ax_XF_lt (x := 64) (Nat.le_of_ble_eq_true rfl)).mp (ax_gx hE (64, []) ax_m9)
  obtain ⟨o0, ho0⟩ := ay_some hT (q := 181) (g := 51) (n := 80) (ax_wc ax_WW1 ax_cg_181) (ax_wn ax_WW1 ax_cn_51) (j := ρ 1 / 4) (by omega)
  refine ⟨fun y hy => ?_, _, List.mem_cons_self, ρ, fun _ _ => rfl, ax_px hE rfl (fun y hy => ?_)⟩
  · cases List.mem_singleton.mp hy
    show 2147483648 ≤ rx_bi (ρ 0 / 4) ∧ rx_bi (ρ 0 / 4) ≤ 2147483657
    rw [hx, d4, ax_bi_nat (by omega)]
    omega
  rcases List.mem_cons.mp hy with e | hy
  · subst e
    show ax_XF (ax_XM 1) (500 + 50) [734, ρ 1, ρ 0] hp
    refine (ax_XF_wr (x := 50) (Nat.le_of_ble_eq_true rfl)).mpr ⟨ay_ex_upd hT.1 (ax_cellT hT (q := 175) (g := 45) (ax_wc ax_WW1 ax_cg_175)), ay_ex_upd hT.1 (ax_cellT hT (q := 177) (g := 47) (ax_wc ax_WW1 ax_cg_177)), ay_ex_upd hT.1 (ax_cellT hT (q := 176) (g := 46) (ax_wc ax_WW1 ax_cg_176)), ay_ex_upd hT.1 (ax_cellT hT (q := 181) (g := 51) (ax_wc ax_WW1 ax_cg_181)), ay_ex_upd hT.1 (ax_cellT hT (q := 173) (g := 11) (ax_wc ax_WW1 ax_cg_173)), ?_⟩
    show ay_M50 0 (ay_at (ax_upd hp 734 (ρ 1) (ρ 0)) 175 0) (ay_at (ax_upd hp 734 (ρ 1) (ρ 0)) 177 0) (ay_at (ax_upd hp 734 (ρ 1) (ρ 0)) 176 0) (ay_at (ax_upd hp 734 (ρ 1) (ρ 0)) 181) (ay_at (ax_upd hp 734 (ρ 1) (ρ 0)) 173 18)
    have c0 : ay_at (ax_upd hp 734 (ρ 1) (ρ 0)) 175 0 = ay_at hp 175 0 := ay_upd_ne hT.1 (by decide) 0
    rw [c0]
    have c1 : ay_at (ax_upd hp 734 (ρ 1) (ρ 0)) 177 0 = ay_at hp 177 0 := ay_upd_ne hT.1 (by decide) 0
    rw [c1]
    have c2 : ay_at (ax_upd hp 734 (ρ 1) (ρ 0)) 176 0 = ay_at hp 176 0 := ay_upd_ne hT.1 (by decide) 0
    rw [c2]
    have c3 : ∀ j, ay_at (ax_upd hp 734 (ρ 1) (ρ 0)) 181 j = if j = (ρ 1) / 4 then some (ρ 0) else ay_at hp 181 j := fun j => ay_upd_eq hT.1 rfl ho0 j
    have c4 : ay_at (ax_upd hp 734 (ρ 1) (ρ 0)) 173 18 = ay_at hp 173 18 := ay_upd_ne hT.1 (by decide) 18
    rw [c4]
    intro _
    refine ⟨by rw [ln]; exact pn, pr, fun j hj => ?_⟩
    obtain ⟨t, t1, t2⟩ := pe j hj
    rw [ll] at hj
    refine ⟨t, ?_, t2⟩
    rw [c3, if_neg (by omega)]
    exact t1
  cases List.mem_singleton.mp hy
  show ax_XF (ax_XM 1) (500 + 65) [734, ρ 1, ρ 0] hp
  refine (ax_XF_wr (x := 65) (Nat.le_of_ble_eq_true rfl)).mpr ⟨ay_ex_upd hT.1 (ax_cellT hT (q := 181) (g := 51) (ax_wc ax_WW1 ax_cg_181)), ay_ex_upd hT.1 (ax_cellT hT (q := 176) (g := 46) (ax_wc ax_WW1 ax_cg_176)), ay_ex_upd hT.1 (ax_cellT hT (q := 175) (g := 45) (ax_wc ax_WW1 ax_cg_175)), ?_⟩
  show ay_M65 0 (ay_at (ax_upd hp 734 (ρ 1) (ρ 0)) 181) (ay_at (ax_upd hp 734 (ρ 1) (ρ 0)) 176 0) (ay_at (ax_upd hp 734 (ρ 1) (ρ 0)) 175 0)
  have c0 : ∀ j, ay_at (ax_upd hp 734 (ρ 1) (ρ 0)) 181 j = if j = (ρ 1) / 4 then some (ρ 0) else ay_at hp 181 j := fun j => ay_upd_eq hT.1 rfl ho0 j
  have c1 : ay_at (ax_upd hp 734 (ρ 1) (ρ 0)) 176 0 = ay_at hp 176 0 := ay_upd_ne hT.1 (by decide) 0
  rw [c1]
  have c2 : ay_at (ax_upd hp 734 (ρ 1) (ρ 0)) 175 0 = ay_at hp 175 0 := ay_upd_ne hT.1 (by decide) 0
  rw [c2]
  refine ⟨?_, ?_⟩
  · obtain ⟨t, t1, t2⟩ := q
    refine ⟨t, ?_, t2⟩
    rw [c0, if_neg (by rw [ll]; omega)]
    exact t1
  · refine ⟨x, ?_, by rw [ln]; exact hxc⟩
    rw [c0, ll, if_pos (by omega), hx]

theorem axq1_rl2143 : ax_RO ax_wM1 (ax_XM 1) axu1_rl2143 := by
  intro ρ hp hE hT
  obtain ⟨p1, p2, p3, p⟩ : ay_ex hp 181 ∧ ay_ex hp 175 ∧ ay_ex hp 176 ∧ ay_M25 (1) (ay_at hp 181) (ay_at hp 175 1) (ay_at hp 176 1) := (ax_XF_lt (x := 25) (Nat.le_of_ble_eq_true rfl)).mp (ax_gx hE (25, []) ax_m0)
  obtain ⟨j, hj, j1, j2, j3⟩ := ax_gi hE 1 2147483648 2147483687 (by decide) rfl
  obtain ⟨j4, j5⟩ := ax_bi_pos j1 (by omega)
  obtain ⟨u0, hu0⟩ := ay_some hT (q := 176) (g := 46) (n := 2) (ax_wc ax_WW1 ax_cg_176) (ax_wn ax_WW1 ax_cn_46) (j := 1) (by decide)
  obtain ⟨w1, w2, w3, w4⟩ := ay_int hT (q := 176) (g := 46) (n := 2) (lo := 2147483648) (hi := 2147483668) (ax_wc ax_WW1 ax_cg_176) rfl hu0
  have hll : ay_ln (ay_at hp 176 1) ≤ 20 := by
    rw [hu0]
    show u0 / 4 ≤ 20
    obtain ⟨g1, g2⟩ := ax_bi_pos w2 w3
    omega
  obtain ⟨o0, ho0⟩ := ay_some hT (q := 181) (g := 51) (n := 80) (ax_wc ax_WW1 ax_cg_181) (ax_wn ax_WW1 ax_cn_51) (j := ρ 1 / 4) (by omega)
  refine ⟨(fun y hy => by cases hy), _, List.mem_cons_self, ρ, fun _ _ => rfl, ax_px hE rfl (fun y hy => ?_)⟩
  cases List.mem_singleton.mp hy
  show ax_XF (ax_XM 1) (500 + 25) [734, ρ 1, ρ 0] hp
  refine (ax_XF_wr (x := 25) (Nat.le_of_ble_eq_true rfl)).mpr ⟨ay_ex_upd hT.1 (ax_cellT hT (q := 181) (g := 51) (ax_wc ax_WW1 ax_cg_181)), ay_ex_upd hT.1 (ax_cellT hT (q := 175) (g := 45) (ax_wc ax_WW1 ax_cg_175)), ay_ex_upd hT.1 (ax_cellT hT (q := 176) (g := 46) (ax_wc ax_WW1 ax_cg_176)), ?_⟩
  show ay_M25 (1) (ay_at (ax_upd hp 734 (ρ 1) (ρ 0)) 181) (ay_at (ax_upd hp 734 (ρ 1) (ρ 0)) 175 1) (ay_at (ax_upd hp 734 (ρ 1) (ρ 0)) 176 1)
  have c0 : ∀ j, ay_at (ax_upd hp 734 (ρ 1) (ρ 0)) 181 j = if j = (ρ 1) / 4 then some (ρ 0) else ay_at hp 181 j := fun j => ay_upd_eq hT.1 rfl ho0 j
  have c1 : ay_at (ax_upd hp 734 (ρ 1) (ρ 0)) 175 1 = ay_at hp 175 1 := ay_upd_ne hT.1 (by decide) 1
  rw [c1]
  have c2 : ay_at (ax_upd hp 734 (ρ 1) (ρ 0)) 176 1 = ay_at hp 176 1 := ay_upd_ne hT.1 (by decide) 1
  rw [c2]
  intro i hi
  obtain ⟨t, t1, t2⟩ := p i hi
  refine ⟨t, ?_, t2⟩
  rw [c0, if_neg (by omega)]
  exact t1
theorem axq1_rl2163 : ax_RO ax_wM1 (ax_XM 1) axu1_rl2163 := by
  intro ρ hp hE hT
  obtain ⟨p1, p2, p3, p⟩ : ay_ex hp 181 ∧ ay_ex hp 175 ∧ ay_ex hp 176 ∧ ay_M25 (1) (ay_at hp 181) (ay_at hp 175 1) (ay_at hp 176 1) := (ax_XF_lt (x := 25) (Nat.le_of_ble_eq_true rfl)).mp (ax_gx hE (25, []) ax_m0)
  obtain ⟨j, hj, j1, j2, j3⟩ := ax_gi hE 1 2147483648 2147483687 (by decide) rfl
  obtain ⟨j4, j5⟩ := ax_bi_pos j1 (by omega)
  obtain ⟨u0, hu0⟩ := ay_some hT (q := 176) (g := 46) (n := 2) (ax_wc ax_WW1 ax_cg_176) (ax_wn ax_WW1 ax_cn_46) (j := 1) (by decide)
  obtain ⟨w1, w2, w3, w4⟩ := ay_int hT (q := 176) (g := 46) (n := 2) (lo := 2147483648) (hi := 2147483668) (ax_wc ax_WW1 ax_cg_176) rfl hu0
  have hll : ay_ln (ay_at hp 176 1) ≤ 20 := by
    rw [hu0]
    show u0 / 4 ≤ 20
    obtain ⟨g1, g2⟩ := ax_bi_pos w2 w3
    omega
  obtain ⟨o0, ho0⟩ := ay_some hT (q := 181) (g := 51) (n := 80) (ax_wc ax_WW1 ax_cg_181) (ax_wn ax_WW1 ax_cn_51) (j := ρ 1 / 4) (by omega)
  refine ⟨(fun y hy => by cases hy), _, List.mem_cons_self, ρ, fun _ _ => rfl, ax_px hE rfl (fun y hy => ?_)⟩
  cases List.mem_singleton.mp hy
  show ax_XF (ax_XM 1) (500 + 25) [734, ρ 1, ρ 0] hp
  refine (ax_XF_wr (x := 25) (Nat.le_of_ble_eq_true rfl)).mpr ⟨ay_ex_upd hT.1 (ax_cellT hT (q := 181) (g := 51) (ax_wc ax_WW1 ax_cg_181)), ay_ex_upd hT.1 (ax_cellT hT (q := 175) (g := 45) (ax_wc ax_WW1 ax_cg_175)), ay_ex_upd hT.1 (ax_cellT hT (q := 176) (g := 46) (ax_wc ax_WW1 ax_cg_176)), ?_⟩
  show ay_M25 (1) (ay_at (ax_upd hp 734 (ρ 1) (ρ 0)) 181) (ay_at (ax_upd hp 734 (ρ 1) (ρ 0)) 175 1) (ay_at (ax_upd hp 734 (ρ 1) (ρ 0)) 176 1)
  have c0 : ∀ j, ay_at (ax_upd hp 734 (ρ 1) (ρ 0)) 181 j = if j = (ρ 1) / 4 then some (ρ 0) else ay_at hp 181 j := fun j => ay_upd_eq hT.1 rfl ho0 j
  have c1 : ay_at (ax_upd hp 734 (ρ 1) (ρ 0)) 175 1 = ay_at hp 175 1 := ay_upd_ne hT.1 (by decide) 1
  rw [c1]
  have c2 : ay_at (ax_upd hp 734 (ρ 1) (ρ 0)) 176 1 = ay_at hp 176 1 := ay_upd_ne hT.1 (by decide) 1
  rw [c2]
  intro i hi
  obtain ⟨t, t1, t2⟩ := p i hi
  refine ⟨t, ?_, t2⟩
  rw [c0, if_neg (by omega)]
  exact t1
theorem axq1_rl3 : ax_RO ax_wM1 (ax_XM 1) axu1_rl3 := by
  intro ρ hp hE hT
  obtain ⟨p1, p2, p3, p4, p5, p⟩ : ay_ex hp 175 ∧ ay_ex hp 177 ∧ ay_ex hp 176 ∧ ay_ex hp 181 ∧ ay_ex hp 173 ∧ ay_M50 0 (ay_at hp 175 0) (ay_at hp 177 0) (ay_at hp 176 0) (ay_at hp 181) (ay_at hp 173 18) := (ax_XF_lt (x := 50) (Nat.le_of_ble_eq_true rfl)).mp (ax_gx hE (50, []) ax_m2)
  obtain ⟨q1, q2, q3, q⟩ : ay_ex hp 181 ∧ ay_ex hp 176 ∧ ay_ex hp 175 ∧ ay_M65 0 (ay_at hp 181) (ay_at hp 176 0) (ay_at hp 175 0) := (ax_XF_lt (x := 65) (Nat.le_of_ble_eq_true rfl)).mp (ax_gx hE (65, []) ax_m3)
  obtain ⟨k1, k2, k3, k4, k⟩ : ay_ex hp 176 ∧ ay_ex hp 173 ∧ ay_ex hp 173 ∧ ay_ex hp 173 ∧ ay_M54 (ρ 2) (ay_at hp 176 0) (ay_at hp 173 23) (ay_at hp 173 24) (ay_at hp 173 25) := (ax_XF_lt (x := 54) (Nat.le_of_ble_eq_true rfl)).mp (ax_gx hE (54, [11]) ax_m4)
  replace k : (20 - ay_ln (ay_at hp 176 0)) + (1 - ay_ln (ay_at hp 173 23)) + (1 - ay_ln (ay_at hp 173 24)) + (1 - ay_ln (ay_at hp 173 25)) + 1 ≤ ρ 2 / 4 := k
  obtain ⟨K, hK⟩ := ax_gj hE 2 (by decide) rfl
  obtain ⟨l, hl, l1, l2, l3⟩ := ax_gi hE 1 2147483648 2147483667 (by decide) rfl
  obtain ⟨l4, l5⟩ := ax_bi_pos l1 (by omega)
  have d4 : ∀ z : Nat, 4 * z / 4 = z := fun z => by omega
  have fl := ay_gfj hE 714 0 7 176 0 ax_m0 (ax_vlq rfl rfl) (ax_vlj rfl rfl)
  replace fl : ay_at hp 176 0 = some (ρ 1) := fl
  have ll : ay_ln (ay_at hp 176 0) = l := by rw [fl, hl]; show 4 * l / 4 = l; omega
  obtain ⟨r, hr⟩ : ∃ z, ay_ln (ay_at hp 173 23) = z := ⟨_, rfl⟩
  obtain ⟨s, hs⟩ : ∃ z, ay_ln (ay_at hp 173 24) = z := ⟨_, rfl⟩
  obtain ⟨t, ht⟩ : ∃ z, ay_ln (ay_at hp 173 25) = z := ⟨_, rfl⟩
  rw [ll, hr, hs, ht] at k
  have h0 : ρ 0 = 4 * (l + 1) := ay_s hE 7 4 3 (b := 1) (by decide) hl (ax_vl_c (v := 4) (by decide)) (by omega) (by decide)
  obtain ⟨⟨e1, q7, q8⟩, e2, q9, q10⟩ := q
  rw [ll] at q7 q9
  obtain ⟨o0, ho0⟩ := ay_some hT (q := 176) (g := 46) (n := 2) (ax_wc ax_WW1 ax_cg_176) (ax_wn ax_WW1 ax_cn_46) (j := 0 / 4) (Nat.le_of_ble_eq_true rfl)
  obtain ⟨ρ', h1, h2⟩ := ax_pn (K := (20 - (l + 1)) + (1 - r) + (1 - s) + (1 - t) + 1) (xf := [(550, [714, 0, 3]), (554, [714, 0, 3, 15]), (1030, [15, 11])]) hE (by decide) (fun ρ' h1 h2 x hx => by
    rcases List.mem_cons.mp hx with e | hx
    · subst e
      show ax_XF (ax_XM 1) (500 + 50) [714, 0, ρ' 0] hp
      rw [h1 0 (by decide)]
      refine (ax_XF_wr (x := 50) (Nat.le_of_ble_eq_true rfl)).mpr ⟨ay_ex_upd hT.1 (ax_cellT hT (q := 175) (g := 45) (ax_wc ax_WW1 ax_cg_175)), ay_ex_upd hT.1 (ax_cellT hT (q := 177) (g := 47) (ax_wc ax_WW1 ax_cg_177)), ay_ex_upd hT.1 (ax_cellT hT (q := 176) (g := 46) (ax_wc ax_WW1 ax_cg_176)), ay_ex_upd hT.1 (ax_cellT hT (q := 181) (g := 51) (ax_wc ax_WW1 ax_cg_181)), ay_ex_upd hT.1 (ax_cellT hT (q := 173) (g := 11) (ax_wc ax_WW1 ax_cg_173)), ?_⟩
      show ay_M50 0 (ay_at (ax_upd hp 714 (0) (ρ 0)) 175 0) (ay_at (ax_upd hp 714 (0) (ρ 0)) 177 0) (ay_at (ax_upd hp 714 (0) (ρ 0)) 176 0) (ay_at (ax_upd hp 714 (0) (ρ 0)) 181) (ay_at (ax_upd hp 714 (0) (ρ 0)) 173 18)
      have c0 : ay_at (ax_upd hp 714 (0) (ρ 0)) 175 0 = ay_at hp 175 0 := ay_upd_ne hT.1 (by decide) 0
      rw [c0]
      have c1 : ay_at (ax_upd hp 714 (0) (ρ 0)) 177 0 = ay_at hp 177 0 := ay_upd_ne hT.1 (by decide) 0
      rw [c1]
      have c2 : ay_at (ax_upd hp 714 (0) (ρ 0)) 176 0 = some (ρ 0) := by rw [ay_upd_eq hT.1 rfl ho0, if_pos (by decide)]
      rw [c2]
      have c3 : ay_at (ax_upd hp 714 (0) (ρ 0)) 181 = ay_at hp 181 := funext (fun j => ay_upd_ne hT.1 (by decide) j)
      rw [c3]
      have c4 : ay_at (ax_upd hp 714 (0) (ρ 0)) 173 18 = ay_at hp 173 18 := ay_upd_ne hT.1 (by decide) 18
      rw [c4]
      intro hz
      obtain ⟨p7, p8, p9⟩ := p hz
      refine ⟨p7, p8, fun j hj => ?_⟩
      replace hj : j < 2 * (ρ 0 / 4) := hj
      rw [h0, d4] at hj
      by_cases z1 : j < 2 * l
      · exact p9 j (by rw [ll]; exact z1)
      · by_cases z2 : j = 2 * l
        · rw [z2]; exact ⟨e1, q7, q8⟩
        · rw [show j = 2 * l + 1 by omega]; exact ⟨e2, q9, q10⟩
    rcases List.mem_cons.mp hx with e | hx
    · subst e
      show ax_XF (ax_XM 1) (500 + 54) [714, 0, ρ' 0, ρ' 3] hp
      rw [h1 0 (by decide)]
      refine (ax_XF_wr (x := 54) (Nat.le_of_ble_eq_true rfl)).mpr ⟨ay_ex_upd hT.1 (ax_cellT hT (q := 176) (g := 46) (ax_wc ax_WW1 ax_cg_176)), ay_ex_upd hT.1 (ax_cellT hT (q := 173) (g := 11) (ax_wc ax_WW1 ax_cg_173)), ay_ex_upd hT.1 (ax_cellT hT (q := 173) (g := 11) (ax_wc ax_WW1 ax_cg_173)), ay_ex_upd hT.1 (ax_cellT hT (q := 173) (g := 11) (ax_wc ax_WW1 ax_cg_173)), ?_⟩
      show ay_M54 (ρ' 3) (ay_at (ax_upd hp 714 (0) (ρ 0)) 176 0) (ay_at (ax_upd hp 714 (0) (ρ 0)) 173 23) (ay_at (ax_upd hp 714 (0) (ρ 0)) 173 24) (ay_at (ax_upd hp 714 (0) (ρ 0)) 173 25)
      have c0 : ay_at (ax_upd hp 714 (0) (ρ 0)) 176 0 = some (ρ 0) := by rw [ay_upd_eq hT.1 rfl ho0, if_pos (by decide)]
      rw [c0]
      have c1 : ay_at (ax_upd hp 714 (0) (ρ 0)) 173 23 = ay_at hp 173 23 := ay_upd_ne hT.1 (by decide) 23
      rw [c1]
      have c2 : ay_at (ax_upd hp 714 (0) (ρ 0)) 173 24 = ay_at hp 173 24 := ay_upd_ne hT.1 (by decide) 24
      rw [c2]
      have c3 : ay_at (ax_upd hp 714 (0) (ρ 0)) 173 25 = ay_at hp 173 25 := ay_upd_ne hT.1 (by decide) 25
      rw [c3]
      show (20 - ρ 0 / 4) + (1 - ay_ln (ay_at hp 173 23)) + (1 - ay_ln (ay_at hp 173 24)) + (1 - ay_ln (ay_at hp 173 25)) + 1 ≤ ρ' 3 / 4
      rw [h2, h0, hr, hs, ht, d4]
      omega
    cases List.mem_singleton.mp hx
    refine (ax_XF_bi (o := 30) (by decide)).mpr (Or.inr ⟨rfl, ?_⟩)
    show ρ' 3 < ρ' 2
    rw [h2, h1 2 (by decide), hK]
    omega)
  exact ⟨(fun x hx => by cases hx), _, List.mem_cons_self, ρ', h1, h2⟩
theorem axq1_rno : ax_RO ax_wM1 (ax_XM 1) axu1_rno := by
  intro ρ hp hE hT
  obtain ⟨k1, k2, k3, k4, k⟩ : ay_ex hp 176 ∧ ay_ex hp 173 ∧ ay_ex hp 173 ∧ ay_ex hp 173 ∧ ay_M54 (ρ 1) (ay_at hp 176 0) (ay_at hp 173 23) (ay_at hp 173 24) (ay_at hp 173 25) := (ax_XF_lt (x := 54) (Nat.le_of_ble_eq_true rfl)).mp (ax_gx hE (54, [7]) (by decide))
  replace k : (20 - ay_ln (ay_at hp 176 0)) + (1 - ay_ln (ay_at hp 173 23)) + (1 - ay_ln (ay_at hp 173 24)) + (1 - ay_ln (ay_at hp 173 25)) + 1 ≤ ρ 1 / 4 := k
  obtain ⟨K, hK⟩ := ax_gj hE 1 (by decide) rfl
  obtain ⟨h, hh, h1, h2, h3⟩ := ax_gi hE 0 2147483648 2147483648 (by decide) rfl
  obtain ⟨h4, h5⟩ := ax_bi_pos h1 (by omega)
  have d4 : ∀ z : Nat, 4 * z / 4 = z := fun z => by omega
  have fh := ay_gfj hE 702 92 3 173 23 (by decide) (ax_vlq rfl rfl) (ax_vlj rfl rfl)
  replace fh : ay_at hp 173 23 = some (ρ 0) := fh
  have lh : ay_ln (ay_at hp 173 23) = h := by rw [fh, hh]; show 4 * h / 4 = h; omega
  obtain ⟨l, hl⟩ : ∃ z, ay_ln (ay_at hp 176 0) = z := ⟨_, rfl⟩
  obtain ⟨r, hr⟩ : ∃ z, ay_ln (ay_at hp 173 23) = z := ⟨_, rfl⟩
  obtain ⟨s, hs⟩ : ∃ z, ay_ln (ay_at hp 173 24) = z := ⟨_, rfl⟩
  obtain ⟨t, ht⟩ : ∃ z, ay_ln (ay_at hp 173 25) = z := ⟨_, rfl⟩
  have hv0 : r = 0 := by rw [← hr, lh]; omega
  rw [hl, hr, hs, ht] at k
  obtain ⟨o0, ho0⟩ := ay_some hT (q := 173) (g := 11) (n := 58) (ax_wc ax_WW1 ax_cg_173) (ax_wn ax_WW1 ax_cn_11) (j := 92 / 4) (Nat.le_of_ble_eq_true rfl)
  obtain ⟨ρ', h1, h2⟩ := ax_pn (K := (20 - l) + 0 + (1 - s) + (1 - t) + 1) (xf := [(554, [702, 92, 4, 11]), (1030, [11, 7])]) hE (by decide) (fun ρ' h1 h2 x hx => by
    rcases List.mem_cons.mp hx with e | hx
    · subst e
      show ax_XF (ax_XM 1) (500 + 54) [702, 92, 4, ρ' 2] hp
      refine (ax_XF_wr (x := 54) (Nat.le_of_ble_eq_true rfl)).mpr ⟨ay_ex_upd hT.1 (ax_cellT hT (q := 176) (g := 46) (ax_wc ax_WW1 ax_cg_176)), ay_ex_upd hT.1 (ax_cellT hT (q := 173) (g := 11) (ax_wc ax_WW1 ax_cg_173)), ay_ex_upd hT.1 (ax_cellT hT (q := 173) (g := 11) (ax_wc ax_WW1 ax_cg_173)), ay_ex_upd hT.1 (ax_cellT hT (q := 173) (g := 11) (ax_wc ax_WW1 ax_cg_173)), ?_⟩
      show ay_M54 (ρ' 2) (ay_at (ax_upd hp 702 (92) (4)) 176 0) (ay_at (ax_upd hp 702 (92) (4)) 173 23) (ay_at (ax_upd hp 702 (92) (4)) 173 24) (ay_at (ax_upd hp 702 (92) (4)) 173 25)
      have c0 : ay_at (ax_upd hp 702 (92) (4)) 176 0 = ay_at hp 176 0 := ay_upd_ne hT.1 (by decide) 0
      rw [c0]
      have c1 : ay_at (ax_upd hp 702 (92) (4)) 173 23 = some (4) := by rw [ay_upd_eq hT.1 rfl ho0, if_pos (by decide)]
      rw [c1]
      have c2 : ay_at (ax_upd hp 702 (92) (4)) 173 24 = ay_at hp 173 24 := by rw [ay_upd_eq hT.1 rfl ho0, if_neg (by decide)]
      rw [c2]
      have c3 : ay_at (ax_upd hp 702 (92) (4)) 173 25 = ay_at hp 173 25 := by rw [ay_upd_eq hT.1 rfl ho0, if_neg (by decide)]
      rw [c3]
      show (20 - ay_ln (ay_at hp 176 0)) + (1 - 1) + (1 - ay_ln (ay_at hp 173 24)) + (1 - ay_ln (ay_at hp 173 25)) + 1 ≤ ρ' 2 / 4
      rw [h2, hl, hs, ht]
      omega
    cases List.mem_singleton.mp hx
    refine (ax_XF_bi (o := 30) (by decide)).mpr (Or.inr ⟨rfl, ?_⟩)
    show ρ' 2 < ρ' 1
    rw [h2, h1 1 (by decide), hK]
    omega)
  exact ⟨(fun x hx => by cases hx), _, List.mem_cons_self, ρ', h1, h2⟩
theorem axq1_rnm : ax_RO ax_wM1 (ax_XM 1) axu1_rnm := by
  intro ρ hp hE hT
  obtain ⟨k1, k2, k3, k4, k⟩ : ay_ex hp 176 ∧ ay_ex hp 173 ∧ ay_ex hp 173 ∧ ay_ex hp 173 ∧ ay_M54 (ρ 1) (ay_at hp 176 0) (ay_at hp 173 23) (ay_at hp 173 24) (ay_at hp 173 25) := (ax_XF_lt (x := 54) (Nat.le_of_ble_eq_true rfl)).mp (ax_gx hE (54, [7]) (by decide))
  replace k : (20 - ay_ln (ay_at hp 176 0)) + (1 - ay_ln (ay_at hp 173 23)) + (1 - ay_ln (ay_at hp 173 24)) + (1 - ay_ln (ay_at hp 173 25)) + 1 ≤ ρ 1 / 4 := k
  obtain ⟨K, hK⟩ := ax_gj hE 1 (by decide) rfl
  obtain ⟨h, hh, h1, h2, h3⟩ := ax_gi hE 0 2147483648 2147483648 (by decide) rfl
  obtain ⟨h4, h5⟩ := ax_bi_pos h1 (by omega)
  have d4 : ∀ z : Nat, 4 * z / 4 = z := fun z => by omega
  have fh := ay_gfj hE 702 100 3 173 25 (by decide) (ax_vlq rfl rfl) (ax_vlj rfl rfl)
  replace fh : ay_at hp 173 25 = some (ρ 0) := fh
  have lh : ay_ln (ay_at hp 173 25) = h := by rw [fh, hh]; show 4 * h / 4 = h; omega
  obtain ⟨l, hl⟩ : ∃ z, ay_ln (ay_at hp 176 0) = z := ⟨_, rfl⟩
  obtain ⟨r, hr⟩ : ∃ z, ay_ln (ay_at hp 173 23) = z := ⟨_, rfl⟩
  obtain ⟨s, hs⟩ : ∃ z, ay_ln (ay_at hp 173 24) = z := ⟨_, rfl⟩
  obtain ⟨t, ht⟩ : ∃ z, ay_ln (ay_at hp 173 25) = z := ⟨_, rfl⟩
  have hv0 : t = 0 := by rw [← ht, lh]; omega
  rw [hl, hr, hs, ht] at k
  obtain ⟨o0, ho0⟩ := ay_some hT (q := 173) (g := 11) (n := 58) (ax_wc ax_WW1 ax_cg_173) (ax_wn ax_WW1 ax_cn_11) (j := 100 / 4) (Nat.le_of_ble_eq_true rfl)
  obtain ⟨ρ', h1, h2⟩ := ax_pn (K := (20 - l) + (1 - r) + (1 - s) + 0 + 1) (xf := [(554, [702, 100, 4, 11]), (1030, [11, 7])]) hE (by decide) (fun ρ' h1 h2 x hx => by
    rcases List.mem_cons.mp hx with e | hx
    · subst e
      show ax_XF (ax_XM 1) (500 + 54) [702, 100, 4, ρ' 2] hp
      refine (ax_XF_wr (x := 54) (Nat.le_of_ble_eq_true rfl)).mpr ⟨ay_ex_upd hT.1 (ax_cellT hT (q := 176) (g := 46) (ax_wc ax_WW1 ax_cg_176)), ay_ex_upd hT.1 (ax_cellT hT (q := 173) (g := 11) (ax_wc ax_WW1 ax_cg_173)), ay_ex_upd hT.1 (ax_cellT hT (q := 173) (g := 11) (ax_wc ax_WW1 ax_cg_173)), ay_ex_upd hT.1 (ax_cellT hT (q := 173) (g := 11) (ax_wc ax_WW1 ax_cg_173)), ?_⟩
      show ay_M54 (ρ' 2) (ay_at (ax_upd hp 702 (100) (4)) 176 0) (ay_at (ax_upd hp 702 (100) (4)) 173 23) (ay_at (ax_upd hp 702 (100) (4)) 173 24) (ay_at (ax_upd hp 702 (100) (4)) 173 25)
      have c0 : ay_at (ax_upd hp 702 (100) (4)) 176 0 = ay_at hp 176 0 := ay_upd_ne hT.1 (by decide) 0
      rw [c0]
      have c1 : ay_at (ax_upd hp 702 (100) (4)) 173 23 = ay_at hp 173 23 := by rw [ay_upd_eq hT.1 rfl ho0, if_neg (by decide)]
      rw [c1]
      have c2 : ay_at (ax_upd hp 702 (100) (4)) 173 24 = ay_at hp 173 24 := by rw [ay_upd_eq hT.1 rfl ho0, if_neg (by decide)]
      rw [c2]
      have c3 : ay_at (ax_upd hp 702 (100) (4)) 173 25 = some (4) := by rw [ay_upd_eq hT.1 rfl ho0, if_pos (by decide)]
      rw [c3]
      show (20 - ay_ln (ay_at hp 176 0)) + (1 - ay_ln (ay_at hp 173 23)) + (1 - ay_ln (ay_at hp 173 24)) + (1 - 1) + 1 ≤ ρ' 2 / 4
      rw [h2, hl, hr, hs]
      omega
    cases List.mem_singleton.mp hx
    refine (ax_XF_bi (o := 30) (by decide)).mpr (Or.inr ⟨rfl, ?_⟩)
    show ρ' 2 < ρ' 1
    rw [h2, h1 1 (by decide), hK]
    omega)
  exact ⟨(fun x hx => by cases hx), _, List.mem_cons_self, ρ', h1, h2⟩
theorem axq1_rnk : ax_RO ax_wM1 (ax_XM 1) axu1_rnk := by
  intro ρ hp hE hT
  obtain ⟨k1, k2, k3, k4, k⟩ : ay_ex hp 176 ∧ ay_ex hp 173 ∧ ay_ex hp 173 ∧ ay_ex hp 173 ∧ ay_M54 (ρ 1) (ay_at hp 176 0) (ay_at hp 173 23) (ay_at hp 173 24) (ay_at hp 173 25) := (ax_XF_lt (x := 54) (Nat.le_of_ble_eq_true rfl)).mp (ax_gx hE (54, [7]) (by decide))
  replace k : (20 - ay_ln (ay_at hp 176 0)) + (1 - ay_ln (ay_at hp 173 23)) + (1 - ay_ln (ay_at hp 173 24)) + (1 - ay_ln (ay_at hp 173 25)) + 1 ≤ ρ 1 / 4 := k
  obtain ⟨K, hK⟩ := ax_gj hE 1 (by decide) rfl
  obtain ⟨h, hh, h1, h2, h3⟩ := ax_gi hE 0 2147483648 2147483648 (by decide) rfl
  obtain ⟨h4, h5⟩ := ax_bi_pos h1 (by omega)
  have d4 : ∀ z : Nat, 4 * z / 4 = z := fun z => by omega
  have fh := ay_gfj hE 702 96 3 173 24 (by decide) (ax_vlq rfl rfl) (ax_vlj rfl rfl)
  replace fh : ay_at hp 173 24 = some (ρ 0) := fh
  have lh : ay_ln (ay_at hp 173 24) = h := by rw [fh, hh]; show 4 * h / 4 = h; omega
  obtain ⟨l, hl⟩ : ∃ z, ay_ln (ay_at hp 176 0) = z := ⟨_, rfl⟩
  obtain ⟨r, hr⟩ : ∃ z, ay_ln (ay_at hp 173 23) = z := ⟨_, rfl⟩
  obtain ⟨s, hs⟩ : ∃ z, ay_ln (ay_at hp 173 24) = z := ⟨_, rfl⟩
  obtain ⟨t, ht⟩ : ∃ z, ay_ln (ay_at hp 173 25) = z := ⟨_, rfl⟩
  have hv0 : s = 0 := by rw [← hs, lh]; omega
  rw [hl, hr, hs, ht] at k
  obtain ⟨o0, ho0⟩ := ay_some hT (q := 173) (g := 11) (n := 58) (ax_wc ax_WW1 ax_cg_173) (ax_wn ax_WW1 ax_cn_11) (j := 96 / 4) (Nat.le_of_ble_eq_true rfl)
  obtain ⟨ρ', h1, h2⟩ := ax_pn (K := (20 - l) + (1 - r) + 0 + (1 - t) + 1) (xf := [(554, [702, 96, 4, 11]), (1030, [11, 7])]) hE (by decide) (fun ρ' h1 h2 x hx => by
    rcases List.mem_cons.mp hx with e | hx
    · subst e
      show ax_XF (ax_XM 1) (500 + 54) [702, 96, 4, ρ' 2] hp
      refine (ax_XF_wr (x := 54) (Nat.le_of_ble_eq_true rfl)).mpr ⟨ay_ex_upd hT.1 (ax_cellT hT (q := 176) (g := 46) (ax_wc ax_WW1 ax_cg_176)), ay_ex_upd hT.1 (ax_cellT hT (q := 173) (g := 11) (ax_wc ax_WW1 ax_cg_173)), ay_ex_upd hT.1 (ax_cellT hT (q := 173) (g := 11) (ax_wc ax_WW1 ax_cg_173)), ay_ex_upd hT.1 (ax_cellT hT (q := 173) (g := 11) (ax_wc ax_WW1 ax_cg_173)), ?_⟩
      show ay_M54 (ρ' 2) (ay_at (ax_upd hp 702 (96) (4)) 176 0) (ay_at (ax_upd hp 702 (96) (4)) 173 23) (ay_at (ax_upd hp 702 (96) (4)) 173 24) (ay_at (ax_upd hp 702 (96) (4)) 173 25)
      have c0 : ay_at (ax_upd hp 702 (96) (4)) 176 0 = ay_at hp 176 0 := ay_upd_ne hT.1 (by decide) 0
      rw [c0]
      have c1 : ay_at (ax_upd hp 702 (96) (4)) 173 23 = ay_at hp 173 23 := by rw [ay_upd_eq hT.1 rfl ho0, if_neg (by decide)]
      rw [c1]
      have c2 : ay_at (ax_upd hp 702 (96) (4)) 173 24 = some (4) := by rw [ay_upd_eq hT.1 rfl ho0, if_pos (by decide)]
      rw [c2]
      have c3 : ay_at (ax_upd hp 702 (96) (4)) 173 25 = ay_at hp 173 25 := by rw [ay_upd_eq hT.1 rfl ho0, if_neg (by decide)]
      rw [c3]
      show (20 - ay_ln (ay_at hp 176 0)) + (1 - ay_ln (ay_at hp 173 23)) + (1 - 1) + (1 - ay_ln (ay_at hp 173 25)) + 1 ≤ ρ' 2 / 4
      rw [h2, hl, hr, ht]
      omega
    cases List.mem_singleton.mp hx
    refine (ax_XF_bi (o := 30) (by decide)).mpr (Or.inr ⟨rfl, ?_⟩)
    show ρ' 2 < ρ' 1
    rw [h2, h1 1 (by decide), hK]
    omega)
  exact ⟨(fun x hx => by cases hx), _, List.mem_cons_self, ρ', h1, h2⟩
theorem axq1_rn2 : ax_RO ax_wM1 (ax_XM 1) axu1_rn2 := by
  intro ρ hp hE hT
  obtain ⟨p1, p2, p3, p4, p5, p⟩ : ay_ex hp 182 ∧ ay_ex hp 180 ∧ ay_ex hp 179 ∧ ay_ex hp 173 ∧ ay_ex hp 173 ∧ ay_M52 0 (ay_at hp 182) (ay_at hp 180 0) (ay_at hp 179 0) (ay_at hp 173 18) (ay_at hp 173 24) := (ax_XF_lt (x := 52) (Nat.le_of_ble_eq_true rfl)).mp (ax_gx hE (52, []) (by decide))
  obtain ⟨h, hh, h1, h2, h3⟩ := ax_gi hE 0 2147483648 2147483648 (by decide) rfl
  obtain ⟨h4, h5⟩ := ax_bi_pos h1 (by omega)
  have fh := ay_gfj hE 702 96 3 173 24 (by decide) (ax_vlq rfl rfl) (ax_vlj rfl rfl)
  replace fh : ay_at hp 173 24 = some (ρ 0) := fh
  refine ⟨(fun y hy => by cases hy), _, List.mem_cons_self, ρ, fun _ _ => rfl, ax_px hE rfl (fun y hy => ?_)⟩
  cases List.mem_singleton.mp hy
  refine (ax_XF_lt (x := 42) (Nat.le_of_ble_eq_true rfl)).mpr ⟨(ax_cellT hT (q := 180) (g := 50) (ax_wc ax_WW1 ax_cg_180)), (ax_cellT hT (q := 179) (g := 49) (ax_wc ax_WW1 ax_cg_179)), ?_⟩
  exact p.2 (by rw [fh, hh, show h = 0 by omega])

theorem axq1_rn3 : ax_RO ax_wM1 (ax_XM 1) axu1_rn3 := by
  intro ρ hp hE hT
  obtain ⟨z, hz, z1, z2, z3⟩ := ax_gi hE 1 2147483649 2147483652 (by decide) rfl
  obtain ⟨z4, z5⟩ := ax_bi_pos z1 (by omega)
  have fz := ay_gfj hE 702 72 7 173 18 ax_m0 (ax_vlq rfl rfl) (ax_vlj rfl rfl)
  replace fz : ay_at hp 173 18 = some (ρ 1) := fz
  obtain ⟨o0, ho0⟩ := ay_some hT (q := 177) (g := 47) (n := 2) (ax_wc ax_WW1 ax_cg_177) (ax_wn ax_WW1 ax_cn_47) (j := 0 / 4) (Nat.le_of_ble_eq_true rfl)
  refine ⟨(fun y hy => by cases hy), _, List.mem_cons_self, ρ, fun _ _ => rfl, ax_px hE rfl (fun y hy => ?_)⟩
  cases List.mem_singleton.mp hy
  show ax_XF (ax_XM 1) (500 + 50) [718, 0, ρ 0] hp
  refine (ax_XF_wr (x := 50) (Nat.le_of_ble_eq_true rfl)).mpr ⟨ay_ex_upd hT.1 (ax_cellT hT (q := 175) (g := 45) (ax_wc ax_WW1 ax_cg_175)), ay_ex_upd hT.1 (ax_cellT hT (q := 177) (g := 47) (ax_wc ax_WW1 ax_cg_177)), ay_ex_upd hT.1 (ax_cellT hT (q := 176) (g := 46) (ax_wc ax_WW1 ax_cg_176)), ay_ex_upd hT.1 (ax_cellT hT (q := 181) (g := 51) (ax_wc ax_WW1 ax_cg_181)), ay_ex_upd hT.1 (ax_cellT hT (q := 173) (g := 11) (ax_wc ax_WW1 ax_cg_173)), ?_⟩
  show ay_M50 0 (ay_at (ax_upd hp 718 (0) (ρ 0)) 175 0) (ay_at (ax_upd hp 718 (0) (ρ 0)) 177 0) (ay_at (ax_upd hp 718 (0) (ρ 0)) 176 0) (ay_at (ax_upd hp 718 (0) (ρ 0)) 181) (ay_at (ax_upd hp 718 (0) (ρ 0)) 173 18)
  have c0 : ay_at (ax_upd hp 718 (0) (ρ 0)) 175 0 = ay_at hp 175 0 := ay_upd_ne hT.1 (by decide) 0
  rw [c0]
  have c1 : ay_at (ax_upd hp 718 (0) (ρ 0)) 177 0 = some (ρ 0) := by rw [ay_upd_eq hT.1 rfl ho0, if_pos (by decide)]
  rw [c1]
  have c2 : ay_at (ax_upd hp 718 (0) (ρ 0)) 176 0 = ay_at hp 176 0 := ay_upd_ne hT.1 (by decide) 0
  rw [c2]
  have c3 : ay_at (ax_upd hp 718 (0) (ρ 0)) 181 = ay_at hp 181 := funext (fun j => ay_upd_ne hT.1 (by decide) j)
  rw [c3]
  have c4 : ay_at (ax_upd hp 718 (0) (ρ 0)) 173 18 = ay_at hp 173 18 := ay_upd_ne hT.1 (by decide) 18
  rw [c4]
  intro e
  rw [fz] at e
  have e := Option.some.inj e
  omega
theorem axq1_rn4 : ax_RO ax_wM1 (ax_XM 1) axu1_rn4 := by
  intro ρ hp hE hT
  obtain ⟨x, hx, x1, x2, x3⟩ := ax_gi hE 0 2147483648 2147493647 (by decide) rfl
  obtain ⟨x4, x5⟩ := ax_bi_pos x1 (by omega)
  have d4 : ∀ z : Nat, 4 * z / 4 = z := fun z => by omega
  obtain ⟨z, hz, z1, z2, z3⟩ := ax_gi hE 1 2147483648 2147483648 (by decide) rfl
  obtain ⟨z4, z5⟩ := ax_bi_pos z1 (by omega)
  have fz := ay_gfj hE 702 72 7 173 18 ax_m0 (ax_vlq rfl rfl) (ax_vlj rfl rfl)
  replace fz : ay_at hp 173 18 = some (ρ 1) := fz
  obtain ⟨p1, p2, p3, p4, p5, p⟩ : ay_ex hp 175 ∧ ay_ex hp 177 ∧ ay_ex hp 176 ∧ ay_ex hp 181 ∧ ay_ex hp 173 ∧ ay_M50 0 (ay_at hp 175 0) (ay_at hp 177 0) (ay_at hp 176 0) (ay_at hp 181) (ay_at hp 173 18) := (ax_XF_lt (x := 50) (Nat.le_of_ble_eq_true rfl)).mp (ax_gx hE (50, []) ax_m1)
  have fn := ay_gfj hE 710 0 11 175 0 ax_m2 (ax_vlq rfl rfl) (ax_vlj rfl rfl)
  replace fn : ay_at hp 175 0 = some (ρ 2) := fn
  obtain ⟨pn, pr, pe⟩ := p (by rw [fz, hz, show z = 0 by omega])
  obtain ⟨a, b, c, ha, hb, hc, la, lb, lc, hs⟩ := ax_gs hE 15 4 11 (by decide)
  replace ha : ρ 3 = 4 * a := ha
  replace hc : ρ 2 = 4 * c := hc
  have hb' : b = 1 := by have : (4 : Nat) = 4 * b := hb; omega
  have ln : ay_ln (ay_at hp 175 0) = c := by rw [fn, hc]; show 4 * c / 4 = c; omega
  have hle : rx_bi (ρ 0 / 4) ≤ rx_bi (ρ 3 / 4) := ax_gc hE 5 3 15 (by decide) (by decide)
  rw [hx, ha, d4, d4] at hle
  rw [ln] at pn
  rw [hb', ax_bi_nat (c := c) (by omega), ax_bi_nat (c := 1) (by decide)] at hs
  have hxc : x < c := by omega
  obtain ⟨o0, ho0⟩ := ay_some hT (q := 177) (g := 47) (n := 2) (ax_wc ax_WW1 ax_cg_177) (ax_wn ax_WW1 ax_cn_47) (j := 0 / 4) (Nat.le_of_ble_eq_true rfl)
  refine ⟨(fun y hy => by cases hy), _, List.mem_cons_self, ρ, fun _ _ => rfl, ax_px hE rfl (fun y hy => ?_)⟩
  cases List.mem_singleton.mp hy
  show ax_XF (ax_XM 1) (500 + 50) [718, 0, ρ 0] hp
  refine (ax_XF_wr (x := 50) (Nat.le_of_ble_eq_true rfl)).mpr ⟨ay_ex_upd hT.1 (ax_cellT hT (q := 175) (g := 45) (ax_wc ax_WW1 ax_cg_175)), ay_ex_upd hT.1 (ax_cellT hT (q := 177) (g := 47) (ax_wc ax_WW1 ax_cg_177)), ay_ex_upd hT.1 (ax_cellT hT (q := 176) (g := 46) (ax_wc ax_WW1 ax_cg_176)), ay_ex_upd hT.1 (ax_cellT hT (q := 181) (g := 51) (ax_wc ax_WW1 ax_cg_181)), ay_ex_upd hT.1 (ax_cellT hT (q := 173) (g := 11) (ax_wc ax_WW1 ax_cg_173)), ?_⟩
  show ay_M50 0 (ay_at (ax_upd hp 718 (0) (ρ 0)) 175 0) (ay_at (ax_upd hp 718 (0) (ρ 0)) 177 0) (ay_at (ax_upd hp 718 (0) (ρ 0)) 176 0) (ay_at (ax_upd hp 718 (0) (ρ 0)) 181) (ay_at (ax_upd hp 718 (0) (ρ 0)) 173 18)
  have c0 : ay_at (ax_upd hp 718 (0) (ρ 0)) 175 0 = ay_at hp 175 0 := ay_upd_ne hT.1 (by decide) 0
  rw [c0]
  have c1 : ay_at (ax_upd hp 718 (0) (ρ 0)) 177 0 = some (ρ 0) := by rw [ay_upd_eq hT.1 rfl ho0, if_pos (by decide)]
  rw [c1]
  have c2 : ay_at (ax_upd hp 718 (0) (ρ 0)) 176 0 = ay_at hp 176 0 := ay_upd_ne hT.1 (by decide) 0
  rw [c2]
  have c3 : ay_at (ax_upd hp 718 (0) (ρ 0)) 181 = ay_at hp 181 := funext (fun j => ay_upd_ne hT.1 (by decide) j)
  rw [c3]
  have c4 : ay_at (ax_upd hp 718 (0) (ρ 0)) 173 18 = ay_at hp 173 18 := ay_upd_ne hT.1 (by decide) 18
  rw [c4]
  intro _
  refine ⟨by rw [ln]; exact pn, ?_, pe⟩
  show ρ 0 / 4 ≤ 9
  omega
theorem axq1_ra0 : ax_RO ax_wM1 (ax_XM 1) axu1_ra0 := by
  intro ρ hp hE hT
  obtain ⟨z, hz, z1, z2, z3⟩ := ax_gi hE 1 2147483649 2147483652 (by decide) rfl
  obtain ⟨z4, z5⟩ := ax_bi_pos z1 (by omega)
  have fz := ay_gfj hE 702 72 7 173 18 ax_m0 (ax_vlq rfl rfl) (ax_vlj rfl rfl)
  replace fz : ay_at hp 173 18 = some (ρ 1) := fz
  obtain ⟨o0, ho0⟩ := ay_some hT (q := 175) (g := 45) (n := 2) (ax_wc ax_WW1 ax_cg_175) (ax_wn ax_WW1 ax_cn_45) (j := 0 / 4) (Nat.le_of_ble_eq_true rfl)
  refine ⟨(fun y hy => by cases hy), _, List.mem_cons_self, ρ, fun _ _ => rfl, ax_px hE rfl (fun y hy => ?_)⟩
  cases List.mem_singleton.mp hy
  show ax_XF (ax_XM 1) (500 + 50) [710, 0, ρ 0] hp
  refine (ax_XF_wr (x := 50) (Nat.le_of_ble_eq_true rfl)).mpr ⟨ay_ex_upd hT.1 (ax_cellT hT (q := 175) (g := 45) (ax_wc ax_WW1 ax_cg_175)), ay_ex_upd hT.1 (ax_cellT hT (q := 177) (g := 47) (ax_wc ax_WW1 ax_cg_177)), ay_ex_upd hT.1 (ax_cellT hT (q := 176) (g := 46) (ax_wc ax_WW1 ax_cg_176)), ay_ex_upd hT.1 (ax_cellT hT (q := 181) (g := 51) (ax_wc ax_WW1 ax_cg_181)), ay_ex_upd hT.1 (ax_cellT hT (q := 173) (g := 11) (ax_wc ax_WW1 ax_cg_173)), ?_⟩
  show ay_M50 0 (ay_at (ax_upd hp 710 (0) (ρ 0)) 175 0) (ay_at (ax_upd hp 710 (0) (ρ 0)) 177 0) (ay_at (ax_upd hp 710 (0) (ρ 0)) 176 0) (ay_at (ax_upd hp 710 (0) (ρ 0)) 181) (ay_at (ax_upd hp 710 (0) (ρ 0)) 173 18)
  have c0 : ay_at (ax_upd hp 710 (0) (ρ 0)) 175 0 = some (ρ 0) := by rw [ay_upd_eq hT.1 rfl ho0, if_pos (by decide)]
  rw [c0]
  have c1 : ay_at (ax_upd hp 710 (0) (ρ 0)) 177 0 = ay_at hp 177 0 := ay_upd_ne hT.1 (by decide) 0
  rw [c1]
  have c2 : ay_at (ax_upd hp 710 (0) (ρ 0)) 176 0 = ay_at hp 176 0 := ay_upd_ne hT.1 (by decide) 0
  rw [c2]
  have c3 : ay_at (ax_upd hp 710 (0) (ρ 0)) 181 = ay_at hp 181 := funext (fun j => ay_upd_ne hT.1 (by decide) j)
  rw [c3]
  have c4 : ay_at (ax_upd hp 710 (0) (ρ 0)) 173 18 = ay_at hp 173 18 := ay_upd_ne hT.1 (by decide) 18
  rw [c4]
  intro e
  rw [fz] at e
  have e := Option.some.inj e
  omega
theorem axq1_ra1 : ax_RO ax_wM1 (ax_XM 1) axu1_ra1 := by
  intro ρ hp hE hT
  obtain ⟨p1, p2, p3, p4, p5, p⟩ : ay_ex hp 175 ∧ ay_ex hp 177 ∧ ay_ex hp 176 ∧ ay_ex hp 181 ∧ ay_ex hp 173 ∧ ay_M50 0 (ay_at hp 175 0) (ay_at hp 177 0) (ay_at hp 176 0) (ay_at hp 181) (ay_at hp 173 18) := (ax_XF_lt (x := 50) (Nat.le_of_ble_eq_true rfl)).mp (ax_gx hE (50, []) ax_m1)
  obtain ⟨x, hx, x1, x2, x3⟩ := ax_gi hE 0 2147483650 2147483658 (by decide) rfl
  obtain ⟨x4, x5⟩ := ax_bi_pos x1 (by omega)
  obtain ⟨l, hl, l1, l2, l3⟩ := ax_gi hE 2 2147483648 2147483648 (by decide) rfl
  obtain ⟨l4, l5⟩ := ax_bi_pos l1 (by omega)
  have fl := ay_gfj hE 714 0 11 176 0 ax_m2 (ax_vlq rfl rfl) (ax_vlj rfl rfl)
  replace fl : ay_at hp 176 0 = some (ρ 2) := fl
  have ll : ay_ln (ay_at hp 176 0) = l := by rw [fl, hl]; show 4 * l / 4 = l; omega
  obtain ⟨o0, ho0⟩ := ay_some hT (q := 175) (g := 45) (n := 2) (ax_wc ax_WW1 ax_cg_175) (ax_wn ax_WW1 ax_cn_45) (j := 0 / 4) (Nat.le_of_ble_eq_true rfl)
  refine ⟨(fun y hy => by cases hy), _, List.mem_cons_self, ρ, fun _ _ => rfl, ax_px hE rfl (fun y hy => ?_)⟩
  cases List.mem_singleton.mp hy
  show ax_XF (ax_XM 1) (500 + 50) [710, 0, ρ 0] hp
  refine (ax_XF_wr (x := 50) (Nat.le_of_ble_eq_true rfl)).mpr ⟨ay_ex_upd hT.1 (ax_cellT hT (q := 175) (g := 45) (ax_wc ax_WW1 ax_cg_175)), ay_ex_upd hT.1 (ax_cellT hT (q := 177) (g := 47) (ax_wc ax_WW1 ax_cg_177)), ay_ex_upd hT.1 (ax_cellT hT (q := 176) (g := 46) (ax_wc ax_WW1 ax_cg_176)), ay_ex_upd hT.1 (ax_cellT hT (q := 181) (g := 51) (ax_wc ax_WW1 ax_cg_181)), ay_ex_upd hT.1 (ax_cellT hT (q := 173) (g := 11) (ax_wc ax_WW1 ax_cg_173)), ?_⟩
  show ay_M50 0 (ay_at (ax_upd hp 710 (0) (ρ 0)) 175 0) (ay_at (ax_upd hp 710 (0) (ρ 0)) 177 0) (ay_at (ax_upd hp 710 (0) (ρ 0)) 176 0) (ay_at (ax_upd hp 710 (0) (ρ 0)) 181) (ay_at (ax_upd hp 710 (0) (ρ 0)) 173 18)
  have c0 : ay_at (ax_upd hp 710 (0) (ρ 0)) 175 0 = some (ρ 0) := by rw [ay_upd_eq hT.1 rfl ho0, if_pos (by decide)]
  rw [c0]
  have c1 : ay_at (ax_upd hp 710 (0) (ρ 0)) 177 0 = ay_at hp 177 0 := ay_upd_ne hT.1 (by decide) 0
  rw [c1]
  have c2 : ay_at (ax_upd hp 710 (0) (ρ 0)) 176 0 = ay_at hp 176 0 := ay_upd_ne hT.1 (by decide) 0
  rw [c2]
  have c3 : ay_at (ax_upd hp 710 (0) (ρ 0)) 181 = ay_at hp 181 := funext (fun j => ay_upd_ne hT.1 (by decide) j)
  rw [c3]
  have c4 : ay_at (ax_upd hp 710 (0) (ρ 0)) 173 18 = ay_at hp 173 18 := ay_upd_ne hT.1 (by decide) 18
  rw [c4]
  intro e
  obtain ⟨p7, p8, p9⟩ := p e
  refine ⟨?_, p8, fun j hj => ?_⟩
  · show ρ 0 / 4 ≤ 10
    omega
  · rw [ll] at hj
    omega
theorem axq1_ra2 : ax_RO ax_wM1 (ax_XM 1) axu1_ra2 := by
  intro ρ hp hE hT
  obtain ⟨l, hl⟩ : ∃ z, ay_ln (ay_at hp 176 0) = z := ⟨_, rfl⟩
  obtain ⟨r, hr⟩ : ∃ z, ay_ln (ay_at hp 173 23) = z := ⟨_, rfl⟩
  obtain ⟨s, hs⟩ : ∃ z, ay_ln (ay_at hp 173 24) = z := ⟨_, rfl⟩
  obtain ⟨t, ht⟩ : ∃ z, ay_ln (ay_at hp 173 25) = z := ⟨_, rfl⟩
  obtain ⟨ρ', h1, h2⟩ := ax_pn (K := (20 - l) + (1 - r) + (1 - s) + (1 - t) + 1) (xf := [(54, [3])]) hE (by decide) (fun ρ' h1 h2 x hx => by
    cases List.mem_singleton.mp hx
    refine (ax_XF_lt (x := 54) (Nat.le_of_ble_eq_true rfl)).mpr ⟨(ax_cellT hT (q := 176) (g := 46) (ax_wc ax_WW1 ax_cg_176)), (ax_cellT hT (q := 173) (g := 11) (ax_wc ax_WW1 ax_cg_173)), (ax_cellT hT (q := 173) (g := 11) (ax_wc ax_WW1 ax_cg_173)), (ax_cellT hT (q := 173) (g := 11) (ax_wc ax_WW1 ax_cg_173)), ?_⟩
    show (20 - ay_ln (ay_at hp 176 0)) + (1 - ay_ln (ay_at hp 173 23)) + (1 - ay_ln (ay_at hp 173 24)) + (1 - ay_ln (ay_at hp 173 25)) + 1 ≤ ρ' 0 / 4
    rw [h2, hl, hr, hs, ht]
    omega)
  exact ⟨(fun x hx => by cases hx), _, List.mem_cons_self, ρ', h1, h2⟩
theorem axq1_nt50 : ax_RO ax_wM1 (ax_XM 1) axu1_nt50 := by
  intro ρ hp hE hT
  have fn := ay_gfj hE 710 0 0 175 0 ax_m0 (ax_vlq rfl rfl) (ax_vlj rfl rfl)
  replace fn : ay_at hp 175 0 = some (0) := fn
  have ln : ay_ln (ay_at hp 175 0) = 0 := by rw [fn]; rfl
  have fr := ay_gfj hE 718 0 0 177 0 ax_m1 (ax_vlq rfl rfl) (ax_vlj rfl rfl)
  replace fr : ay_at hp 177 0 = some (0) := fr
  have lr : ay_ln (ay_at hp 177 0) = 0 := by rw [fr]; rfl
  have fl := ay_gfj hE 714 0 0 176 0 ax_m2 (ax_vlq rfl rfl) (ax_vlj rfl rfl)
  replace fl : ay_at hp 176 0 = some (0) := fl
  have ll : ay_ln (ay_at hp 176 0) = 0 := by rw [fl]; rfl
  refine ⟨(fun y hy => by cases hy), _, List.mem_cons_self, ρ, fun _ _ => rfl, ax_px hE rfl (fun y hy => ?_)⟩
  cases List.mem_singleton.mp hy
  refine (ax_XF_lt (x := 50) (Nat.le_of_ble_eq_true rfl)).mpr ⟨(ax_cellT hT (q := 175) (g := 45) (ax_wc ax_WW1 ax_cg_175)), (ax_cellT hT (q := 177) (g := 47) (ax_wc ax_WW1 ax_cg_177)), (ax_cellT hT (q := 176) (g := 46) (ax_wc ax_WW1 ax_cg_176)), (ax_cellT hT (q := 181) (g := 51) (ax_wc ax_WW1 ax_cg_181)), (ax_cellT hT (q := 173) (g := 11) (ax_wc ax_WW1 ax_cg_173)), ?_⟩
  intro _
  refine ⟨?_, ?_, fun j hj => ?_⟩
  · show ay_ln (ay_at hp 175 0) ≤ 10
    rw [ln]
    decide
  · show ay_ln (ay_at hp 177 0) ≤ 9
    rw [lr]
    decide
  · replace hj : j < 2 * ay_ln (ay_at hp 176 0) := hj
    rw [ll] at hj
    omega

theorem axq1_nt52 : ax_RO ax_wM1 (ax_XM 1) axu1_nt52 := by
  intro ρ hp hE hT
  have fr := ay_gfj hE 730 0 0 180 0 ax_m0 (ax_vlq rfl rfl) (ax_vlj rfl rfl)
  replace fr : ay_at hp 180 0 = some (0) := fr
  have lr : ay_ln (ay_at hp 180 0) = 0 := by rw [fr]; rfl
  have fu := ay_gfj hE 726 0 0 179 0 ax_m1 (ax_vlq rfl rfl) (ax_vlj rfl rfl)
  replace fu : ay_at hp 179 0 = some (0) := fu
  have lu : ay_ln (ay_at hp 179 0) = 0 := by rw [fu]; rfl
  refine ⟨(fun y hy => by cases hy), _, List.mem_cons_self, ρ, fun _ _ => rfl, ax_px hE rfl (fun y hy => ?_)⟩
  cases List.mem_singleton.mp hy
  refine (ax_XF_lt (x := 52) (Nat.le_of_ble_eq_true rfl)).mpr ⟨(ax_cellT hT (q := 182) (g := 52) (ax_wc ax_WW1 ax_cg_182)), (ax_cellT hT (q := 180) (g := 50) (ax_wc ax_WW1 ax_cg_180)), (ax_cellT hT (q := 179) (g := 49) (ax_wc ax_WW1 ax_cg_179)), (ax_cellT hT (q := 173) (g := 11) (ax_wc ax_WW1 ax_cg_173)), (ax_cellT hT (q := 173) (g := 11) (ax_wc ax_WW1 ax_cg_173)), ?_⟩
  refine ⟨fun _ k hk => ?_, fun _ => ⟨lr, lu⟩⟩
  replace hk : k ≤ ay_ln (ay_at hp 180 0) := hk
  rw [lr] at hk
  rw [show k = 0 by omega]
  exact fun z => by cases z
end
