section
theorem axqg_om0 {w : ax_W} {b : Nat} (hw : ax_WW w) : ax_RO w (ax_XM b) axu0_om0 := by
  intro ρ hp hE hT
  refine ⟨(fun y hy => by cases hy), _, List.mem_cons_self, ρ, fun _ _ => rfl, ax_px hE rfl (fun y hy => ?_)⟩
  cases List.mem_singleton.mp hy
  refine (ax_XF_lt (x := 9) (Nat.le_of_ble_eq_true rfl)).mpr ⟨(ax_cellT hT (q := 199) (g := 69) (ax_wc hw ax_cg_199)), fun u _ h => ?_⟩
  rw [show ax_vl ρ 0 = 0 from rfl] at h
  omega
theorem axq0_om0 : ax_RO ax_wM0 (ax_XM 0) axu0_om0 := axqg_om0 ax_WW0
theorem axqg_om1e {w : ax_W} {b : Nat} (hw : ax_WW w) : ax_RO w (ax_XM b) axu0_om1e := by
  intro ρ hp hE hT
  obtain ⟨x1, x2⟩ : ay_ex hp 199 ∧ ay_M9 (ρ 0) (ρ 1) (ay_at hp 199) := (ax_XF_lt (x := 9) (Nat.le_of_ble_eq_true rfl)).mp (ax_gx hE (9, [3, 7]) ax_m0)
  obtain ⟨f, hf, f1, f2, f3⟩ := ax_gi hE 0 2147483648 2147483657 (by decide) rfl
  obtain ⟨f4, f5⟩ := ax_bi_pos f1 (by omega)
  obtain ⟨i, hi, i1, i2, i3⟩ := ax_gi hE 1 2147483648 2147483657 (by decide) rfl
  obtain ⟨i4, i5⟩ := ax_bi_pos i1 (by omega)
  have hq : rx_bi (ρ 1 / 4) = rx_bi (ρ 0 / 4) := ax_gc hE 0 7 3 (by decide) (by decide)
  rw [hi, hf, Nat.mul_div_cancel_left i (by decide), Nat.mul_div_cancel_left f (by decide)] at hq
  obtain ⟨o, ho⟩ := ay_some hT (q := 199) (g := 69) (n := 10) (ax_wc hw ax_cg_199) (ax_wn hw ax_cn_69) (j := ρ 1 / 4) (by omega)
  refine ⟨(fun y hy => by cases hy), _, List.mem_cons_self, ρ, fun _ _ => rfl, ax_px hE rfl (fun y hy => ?_)⟩
  cases List.mem_singleton.mp hy
  show ax_XF (ax_XM b) (500 + 10) [806, ρ 1, 160, ρ 0, ρ 1] hp
  refine (ax_XF_wr (x := 10) (Nat.le_of_ble_eq_true rfl)).mpr ⟨ay_ex_upd hT.1 x1, fun u h1 h2 => ?_⟩
  rw [ay_upd_eq hT.1 rfl ho]
  by_cases e : u = ρ 1 / 4
  · rw [if_pos e]
    have : ay_ini (ρ 0 / 4) u = 160 := by
      unfold ay_ini
      rw [if_pos (by omega)]
    rw [this]
  · rw [if_neg e]
    exact x2 u h1 (by omega)
theorem axq0_om1e : ax_RO ax_wM0 (ax_XM 0) axu0_om1e := axqg_om1e ax_WW0
theorem axqg_om1n {w : ax_W} {b : Nat} (hw : ax_WW w) : ax_RO w (ax_XM b) axu0_om1n := by
  intro ρ hp hE hT
  obtain ⟨x1, x2⟩ : ay_ex hp 199 ∧ ay_M9 (ρ 0) (ρ 1) (ay_at hp 199) := (ax_XF_lt (x := 9) (Nat.le_of_ble_eq_true rfl)).mp (ax_gx hE (9, [3, 7]) ax_m0)
  obtain ⟨f, hf, f1, f2, f3⟩ := ax_gi hE 0 2147483648 2147483657 (by decide) rfl
  obtain ⟨f4, f5⟩ := ax_bi_pos f1 (by omega)
  obtain ⟨i, hi, i1, i2, i3⟩ := ax_gi hE 1 2147483648 2147483657 (by decide) rfl
  obtain ⟨i4, i5⟩ := ax_bi_pos i1 (by omega)
  have hq : rx_bi (ρ 1 / 4) ≠ rx_bi (ρ 0 / 4) := ax_gc hE 1 7 3 (by decide) (by decide)
  rw [hi, hf, Nat.mul_div_cancel_left i (by decide), Nat.mul_div_cancel_left f (by decide)] at hq
  obtain ⟨o, ho⟩ := ay_some hT (q := 199) (g := 69) (n := 10) (ax_wc hw ax_cg_199) (ax_wn hw ax_cn_69) (j := ρ 1 / 4) (by omega)
  refine ⟨(fun y hy => by cases hy), _, List.mem_cons_self, ρ, fun _ _ => rfl, ax_px hE rfl (fun y hy => ?_)⟩
  cases List.mem_singleton.mp hy
  show ax_XF (ax_XM b) (500 + 10) [806, ρ 1, 17179869180, ρ 0, ρ 1] hp
  refine (ax_XF_wr (x := 10) (Nat.le_of_ble_eq_true rfl)).mpr ⟨ay_ex_upd hT.1 x1, fun u h1 h2 => ?_⟩
  rw [ay_upd_eq hT.1 rfl ho]
  by_cases e : u = ρ 1 / 4
  · rw [if_pos e]
    have : ay_ini (ρ 0 / 4) u = 17179869180 := by
      unfold ay_ini
      rw [if_neg (by omega)]
    rw [this]
  · rw [if_neg e]
    exact x2 u h1 (by omega)
theorem axq0_om1n : ax_RO ax_wM0 (ax_XM 0) axu0_om1n := axqg_om1n ax_WW0
theorem axqg_om2 {w : ax_W} {b : Nat} (hw : ax_WW w) : ax_RO w (ax_XM b) axu0_om2 := by
  intro ρ hp hE hT
  obtain ⟨x1, x2⟩ : ay_ex hp 199 ∧ ay_M10 (ρ 0) (ρ 1) (ay_at hp 199) := (ax_XF_lt (x := 10) (Nat.le_of_ble_eq_true rfl)).mp (ax_gx hE (10, [3, 7]) ax_m0)
  obtain ⟨i, hi, i1, i2, i3⟩ := ax_gi hE 1 2147483648 2147483657 (by decide) rfl
  obtain ⟨i4, i5⟩ := ax_bi_pos i1 (by omega)
  have h2 : ρ 2 = 4 * (i + 1) := ay_s hE 7 4 11 (by decide) hi (ax_vl_c (v := 4) (by decide)) (by omega) (by decide)
  refine ⟨(fun y hy => by cases hy), _, List.mem_cons_self, ρ, fun _ _ => rfl, ax_px hE rfl (fun y hy => ?_)⟩
  cases List.mem_singleton.mp hy
  refine (ax_XF_lt (x := 9) (Nat.le_of_ble_eq_true rfl)).mpr ⟨x1, fun u g1 g2 => ?_⟩
  replace g2 : u < ρ 2 / 4 := g2
  exact x2 u g1 (by omega)
theorem axq0_om2 : ax_RO ax_wM0 (ax_XM 0) axu0_om2 := axqg_om2 ax_WW0
theorem axq0_om3 : ax_RO ax_wM0 (ax_XM 0) axu0_om3 := by
  intro ρ hp hE hT
  obtain ⟨x1, x2⟩ : ay_ex hp 199 ∧ ay_M9 (ρ 0) (ρ 1) (ay_at hp 199) := (ax_XF_lt (x := 9) (Nat.le_of_ble_eq_true rfl)).mp (ax_gx hE (9, [3, 7]) ax_m0)
  obtain ⟨f, hf, f1, f2, f3⟩ := ax_gi hE 0 2147483648 2147483657 (by decide) rfl
  obtain ⟨f4, f5⟩ := ax_bi_pos f1 (by omega)
  obtain ⟨i, hi, i1, i2, i3⟩ := ax_gi hE 1 2147483658 4294967295 (by decide) rfl
  obtain ⟨i4, i5⟩ := ax_bi_pos i1 (by omega)
  have hini : ∀ u, u < 10 → ay_at hp 199 u = some (ay_ini (ρ 0 / 4) u) := fun u hu => x2 u hu (by omega)
  obtain ⟨ρ', h1, h2⟩ := ax_pn (K := ay_cnt (fun u => ay_lt0 (ay_at hp 199 u)) 10 + 1) (xf := [(11, [3]), (8, [11, 4])]) hE (by decide) (fun ρ' h1 h2 x hx => by
    rcases List.mem_cons.mp hx with e | e
    · subst e
      refine (ax_XF_lt (x := 11) (Nat.le_of_ble_eq_true rfl)).mpr ⟨x1, (ax_cellT hT (q := 198) (g := 68) ax_cg_198), (ax_cellT hT (q := 181) (g := 51) ax_cg_181), ?_⟩
      show ay_M11 0 (ρ' 0) (ay_at hp 199) (ay_at hp 198) (ay_at hp 181)
      rw [h1 0 (by decide)]
      refine ⟨?_, fun _ => 0, ?_, ?_⟩
      · rw [hini _ (by omega)]
        unfold ay_ini
        rw [if_pos rfl]
      · intro v c hv hvf hvc hc
        rw [hini v hv] at hvc
        unfold ay_ini at hvc
        rw [if_neg hvf] at hvc
        have := Option.some.inj hvc
        omega
      · intro v c hv hvf _ hvc hc
        rw [hini v hv] at hvc
        unfold ay_ini at hvc
        rw [if_neg hvf] at hvc
        have := Option.some.inj hvc
        omega
    · cases List.mem_singleton.mp e
      refine (ax_XF_lt (x := 8) (Nat.le_of_ble_eq_true rfl)).mpr ⟨x1, ?_⟩
      show ay_cnt (fun u => ay_lt0 (ay_at hp 199 u)) 10 + 4 / 4 ≤ ρ' 2 / 4
      rw [h2]
      omega)
  exact ⟨(fun x hx => by cases hx), _, List.mem_cons_self, ρ', h1, h2⟩
theorem axqg_om4 {w : ax_W} {b : Nat} (hw : ax_WW w) : ax_RO w (ax_XM b) axu0_om4 := by
  intro ρ hp hE hT
  obtain ⟨x1, x2⟩ : ay_ex hp 199 ∧ ay_M8 (ρ 0) (ρ 1) (ay_at hp 199) := (ax_XF_lt (x := 8) (Nat.le_of_ble_eq_true rfl)).mp (ax_gx hE (8, [3, 7]) ax_m0)
  obtain ⟨s, hs⟩ := ax_gj hE 0 (by decide) rfl
  obtain ⟨c, hc, c1, c2, c3⟩ := ax_gi hE 1 2147483649 2147483649 (by decide) rfl
  obtain ⟨c4, c5⟩ := ax_bi_pos c1 (by omega)
  obtain ⟨z, hz⟩ : ∃ z, ay_cnt (fun u => ay_lt0 (ay_at hp 199 u)) 10 = z := ⟨_, rfl⟩
  replace x2 : ay_cnt (fun u => ay_lt0 (ay_at hp 199 u)) 10 + ρ 1 / 4 ≤ ρ 0 / 4 := x2
  rw [hz] at x2
  obtain ⟨ρ', h1, h2⟩ := ax_pn (K := z) (xf := [(8, [11, 0]), (1030, [11, 3])]) hE (by decide) (fun ρ' h1 h2 x hx => by
    rcases List.mem_cons.mp hx with e | e
    · subst e
      refine (ax_XF_lt (x := 8) (Nat.le_of_ble_eq_true rfl)).mpr ⟨x1, ?_⟩
      show ay_cnt (fun u => ay_lt0 (ay_at hp 199 u)) 10 + 0 / 4 ≤ ρ' 2 / 4
      rw [h2, hz]
      omega
    · cases List.mem_singleton.mp e
      refine (ax_XF_bi (o := 30) (by decide)).mpr (Or.inr ⟨rfl, ?_⟩)
      show ρ' 2 < ρ' 0
      rw [h2, h1 0 (by decide), hs]
      omega)
  exact ⟨(fun x hx => by cases hx), _, List.mem_cons_self, ρ', h1, h2⟩
theorem axq0_om4 : ax_RO ax_wM0 (ax_XM 0) axu0_om4 := axqg_om4 ax_WW0
theorem axq0_om5 : ax_RO ax_wM0 (ax_XM 0) axu0_om5 := by
  intro ρ hp hE hT
  obtain ⟨x1, x2⟩ : ay_ex hp 199 ∧ ay_M8 (ρ 2) (ρ 3) (ay_at hp 199) := (ax_XF_lt (x := 8) (Nat.le_of_ble_eq_true rfl)).mp (ax_gx hE (8, [11, 15]) ax_m0)
  obtain ⟨y1, y2, y3, y4, y5⟩ : ay_ex hp 199 ∧ ay_ex hp 198 ∧ ay_ex hp 181 ∧ ay_M11 0 (ρ 4) (ay_at hp 199) (ay_at hp 198) (ay_at hp 181) := (ax_XF_lt (x := 11) (Nat.le_of_ble_eq_true rfl)).mp (ax_gx hE (11, [19]) ax_m1)
  obtain ⟨c, hc, c1, c2, c3⟩ := ax_gi hE 0 2147483648 2147483687 (by decide) rfl
  obtain ⟨c4, c5⟩ := ax_bi_pos c1 (by omega)
  obtain ⟨t, ht, t1, t2, t3⟩ := ax_gi hE 1 2147483648 2147483657 (by decide) rfl
  obtain ⟨t4, t5⟩ := ax_bi_pos t1 (by omega)
  obtain ⟨u, hu, u1, u2, u3⟩ := ax_gi hE 5 2147483648 2147483657 (by decide) rfl
  obtain ⟨u4, u5⟩ := ax_bi_pos u1 (by omega)
  obtain ⟨d, hd, d1, d2, d3⟩ := ax_gi hE 7 2147483648 2147483688 (by decide) rfl
  obtain ⟨d4, d5⟩ := ax_bi_pos d1 (by omega)
  obtain ⟨n, hn, n1, n2, n3⟩ := ax_gi hE 6 2147483647 2147483647 (by decide) rfl
  have hq := ay_q hE 3 43 hc (by omega) (by decide)
  have hr := ay_r hE 3 47 hc (by omega) (by decide)
  have hj1 := ay_ix hE 0 43 51 55 47 59 (k := 0) (ax_vl_c (v := 0) (by decide)) (by decide) hq (by omega) hr (by omega) (by decide) (by decide) (by decide)
  have hr2 := ay_d hE 63 47 4 (c := 1) (by decide) hr (ax_vl_c (v := 4) (by decide)) (by omega) (by decide)
  have hj2 := ay_ix hE 0 43 51 55 63 67 (k := 0) (ax_vl_c (v := 0) (by decide)) (by decide) hq (by omega) hr2 (by omega) (by decide) (by decide) (by decide)
  have hs2 := ay_s hE 4 47 39 (a := 1) (by decide) (ax_vl_c (v := 4) (by decide)) hr (by decide) (by omega)
  have f1 := ay_gf hE 734 59 23 181 ax_m7 (ax_vlq rfl rfl)
  have f2 := ay_gf hE 806 23 31 199 ax_m8 (ax_vlq rfl rfl)
  have f3 := ay_gf hE 734 67 7 181 ax_m11 (ax_vlq rfl rfl)
  have f4 := ay_gf hE 806 7 27 199 ax_m12 (ax_vlq rfl rfl)
  have f5 := ay_gf hE 802 43 35 198 ax_m13 (ax_vlq rfl rfl)
  have hne : rx_bi (ρ 8 / 4) ≠ rx_bi (ρ 9 / 4) := ax_gc hE 1 35 39 (by decide) (by decide)
  replace f1 : ay_at hp 181 (ax_vl ρ 59 / 4) = some (ρ 5) := f1
  replace f2 : ay_at hp 199 (ρ 5 / 4) = some (ρ 7) := f2
  replace f3 : ay_at hp 181 (ax_vl ρ 67 / 4) = some (ρ 1) := f3
  replace f4 : ay_at hp 199 (ρ 1 / 4) = some (ρ 6) := f4
  replace f5 : ay_at hp 198 (ax_vl ρ 43 / 4) = some (ρ 8) := f5
  replace hs2 : ρ 9 = 4 * (1 + c % 2) := hs2
  have d4 : ∀ z : Nat, 4 * z / 4 = z := fun z => by omega
  rw [hj1, d4, hu] at f1
  rw [hu, d4, hd] at f2
  rw [hj2, d4, ht] at f3
  rw [ht, d4, hn] at f4
  rw [hq, d4] at f5
  have hup : ∀ j, ay_at (ax_upd hp 806 (ρ 1) (ρ 0)) 199 j = if j = t then some (4 * c) else ay_at hp 199 j := fun j => by
    rw [ay_upd_eq hT.1 rfl (by rw [ht, d4]; exact f4), ht, d4, hc]
  have hcar : ay_at (ax_upd hp 806 (ρ 1) (ρ 0)) 198 = ay_at hp 198 := funext (fun j => ay_upd_ne hT.1 (by decide) j)
  have hen : ay_at (ax_upd hp 806 (ρ 1) (ρ 0)) 181 = ay_at hp 181 := funext (fun j => ay_upd_ne hT.1 (by decide) j)
  have hneg : ¬ n < 2147483648 := by
    intro z
    rw [ax_bi_nat z] at n3
    omega
  have hfree : ay_at hp 198 (c / 2) ≠ some (4 * (1 + c % 2)) := by
    rw [f5]
    intro z
    rw [Option.some.inj z, hs2] at hne
    exact hne rfl
  have hg := ay_grow (b := 0) (car := ay_at hp 198) (en := ay_at hp 181) (by omega) (by omega) (by omega) (by show ay_at hp 181 (40 * 0 + 2 * (c / 2) + (1 - c % 2)) = _; exact f3) (by show ay_at hp 181 (40 * 0 + 2 * (c / 2) + c % 2) = _; exact f1) f2 (by omega) ⟨n, f4, hneg⟩ hfree hup y4 y5
  refine ⟨(fun y hy => by cases hy), _, List.mem_cons_self, ρ, fun _ _ => rfl, ax_px hE rfl (fun y hy => ?_)⟩
  rcases List.mem_cons.mp hy with e | e
  · subst e
    show ax_XF (ax_XM 0) (500 + 11) [806, ρ 1, ρ 0, ρ 4] hp
    refine (ax_XF_wr (x := 11) (Nat.le_of_ble_eq_true rfl)).mpr ⟨ay_ex_upd hT.1 y1, ay_ex_upd hT.1 y2, ay_ex_upd hT.1 y3, ?_⟩
    rw [hcar, hen]
    exact hg
  · cases List.mem_singleton.mp e
    show ax_XF (ax_XM 0) (500 + 8) [806, ρ 1, ρ 0, ρ 2, 4] hp
    refine (ax_XF_wr (x := 8) (Nat.le_of_ble_eq_true rfl)).mpr ⟨ay_ex_upd hT.1 x1, ?_⟩
    have hlt := ay_cnt_lt (p := fun u => ay_lt0 (ay_at hp 199 u)) (p' := fun u => ay_lt0 (ay_at (ax_upd hp 806 (ρ 1) (ρ 0)) 199 u)) (t := t) (n := 10) (by
      show ay_lt0 (ay_at hp 199 t) = true
      rw [f4]
      exact rx_ble.mpr (by rw [d4]; omega)) (by
      show ay_lt0 (ay_at (ax_upd hp 806 (ρ 1) (ρ 0)) 199 t) = false
      rw [hup, if_pos rfl]
      exact Bool.eq_false_iff.mpr (fun z => by have z := rx_ble.mp z; rw [d4] at z; omega)) (by omega) (fun j hj hp' => by
      show ay_lt0 (ay_at hp 199 j) = true
      replace hp' : ay_lt0 (ay_at (ax_upd hp 806 (ρ 1) (ρ 0)) 199 j) = true := hp'
      rw [hup] at hp'
      by_cases ej : j = t
      · rw [if_pos ej] at hp'
        have z := rx_ble.mp hp'
        rw [d4] at z
        omega
      · rw [if_neg ej] at hp'
        exact hp')
    replace x2 : ay_cnt (fun u => ay_lt0 (ay_at hp 199 u)) 10 + ρ 3 / 4 ≤ ρ 2 / 4 := x2
    show ay_cnt (fun u => ay_lt0 (ay_at (ax_upd hp 806 (ρ 1) (ρ 0)) 199 u)) 10 + 4 / 4 ≤ ρ 2 / 4
    omega
theorem axq0_om6 : ax_RO ax_wM0 (ax_XM 0) axu0_om6 := by
  intro ρ hp hE hT
  obtain ⟨y1, y2, y3, y4, r, y5, y6⟩ : ay_ex hp 199 ∧ ay_ex hp 198 ∧ ay_ex hp 181 ∧ ay_M11 0 (ρ 0) (ay_at hp 199) (ay_at hp 198) (ay_at hp 181) := (ax_XF_lt (x := 11) (Nat.le_of_ble_eq_true rfl)).mp (ax_gx hE (11, [3]) ax_m0)
  obtain ⟨z1, z2, z3⟩ : ay_ex hp 198 ∧ ay_ex hp 181 ∧ ay_M14 0 (ρ 3) (ρ 0) (ay_at hp 198) (ay_at hp 181) := (ax_XF_lt (x := 14) (Nat.le_of_ble_eq_true rfl)).mp (ax_gx hE (14, [15, 3]) ax_m1)
  obtain ⟨f, hf, f1, f2, f3⟩ := ax_gi hE 0 2147483648 2147483657 (by decide) rfl
  obtain ⟨f4, f5⟩ := ax_bi_pos f1 (by omega)
  obtain ⟨t, ht, t1, t2, t3⟩ := ax_gi hE 1 2147483648 2147483657 (by decide) rfl
  obtain ⟨t4, t5⟩ := ax_bi_pos t1 (by omega)
  obtain ⟨d, hd, d1, d2, d3⟩ := ax_gi hE 2 2147483648 2147483688 (by decide) rfl
  obtain ⟨d4, d5⟩ := ax_bi_pos d1 (by omega)
  have d4 : ∀ z : Nat, 4 * z / 4 = z := fun z => by omega
  have hne : rx_bi (ρ 0 / 4) ≠ rx_bi (ρ 1 / 4) := ax_gc hE 1 3 7 (by decide) (by decide)
  rw [hf, ht, d4, d4] at hne
  have f1 := ay_gf hE 806 7 11 199 ax_m3 (ax_vlq rfl rfl)
  replace f1 : ay_at hp 199 (ρ 1 / 4) = some (ρ 2) := f1
  rw [hd] at f1
  obtain ⟨ρ', h1, h2⟩ := ax_pn (K := r (ρ 1 / 4) + 1) (xf := [(12, [19, 3, 7]), (15, [15, 3, 7])]) hE (by decide) (fun ρ' h1 h2 x hx => by
    rcases List.mem_cons.mp hx with e | e
    · subst e
      refine (ax_XF_lt (x := 12) (Nat.le_of_ble_eq_true rfl)).mpr ⟨y1, y2, y3, ?_⟩
      show ay_M12 0 (ρ' 4) (ρ' 0) (ρ' 1) (ay_at hp 199) (ay_at hp 198) (ay_at hp 181)
      rw [h1 0 (by decide), h1 1 (by decide), h2]
      exact ⟨y4, r, y5, fun v c a1 a2 _ a4 a5 => y6 v c a1 a2 trivial a4 a5, ⟨d, f1, by omega⟩, by omega⟩
    · cases List.mem_singleton.mp e
      refine (ax_XF_lt (x := 15) (Nat.le_of_ble_eq_true rfl)).mpr ⟨z1, z2, ?_⟩
      show ay_M15 0 (ρ' 3) (ρ' 0) (ρ' 1) (ay_at hp 198) (ay_at hp 181)
      rw [h1 0 (by decide), h1 1 (by decide), h1 3 (by decide)]
      unfold ay_M15
      rw [if_neg (by omega)]
      exact z3)
  exact ⟨(fun x hx => by cases hx), _, List.mem_cons_self, ρ', h1, h2⟩
theorem axq0_om7 : ax_RO ax_wM0 (ax_XM 0) axu0_om7 := by
  intro ρ hp hE hT
  obtain ⟨y1, y2, y3, y4, r, y5, y6, ⟨c0, y7, y8⟩, y9⟩ : ay_ex hp 199 ∧ ay_ex hp 198 ∧ ay_ex hp 181 ∧ ay_M12 0 (ρ 3) (ρ 0) (ρ 1) (ay_at hp 199) (ay_at hp 198) (ay_at hp 181) := (ax_XF_lt (x := 12) (Nat.le_of_ble_eq_true rfl)).mp (ax_gx hE (12, [15, 3, 7]) ax_m0)
  obtain ⟨f, hf, f1, f2, f3⟩ := ax_gi hE 0 2147483648 2147483657 (by decide) rfl
  obtain ⟨f4, f5⟩ := ax_bi_pos f1 (by omega)
  obtain ⟨u, hu, u1, u2, u3⟩ := ax_gi hE 1 2147483648 2147483657 (by decide) rfl
  obtain ⟨u4, u5⟩ := ax_bi_pos u1 (by omega)
  have d4 : ∀ z : Nat, 4 * z / 4 = z := fun z => by omega
  have hne : rx_bi (ρ 1 / 4) ≠ rx_bi (ρ 0 / 4) := ax_gc hE 1 7 3 (by decide) (by decide)
  rw [hf, hu, d4, d4] at hne
  have f1 := ay_gf hE 806 7 11 199 ax_m1 (ax_vlq rfl rfl)
  replace f1 : ay_at hp 199 (ρ 1 / 4) = some (ρ 2) := f1
  rw [y7] at f1
  have hc : ρ 2 = 4 * c0 := (Option.some.inj f1).symm
  obtain ⟨g1, -⟩ := y5 (ρ 1 / 4) c0 (by omega) (by omega) y7 y8
  refine ⟨fun y hy => ?_, _, List.mem_cons_self, ρ, fun _ _ => rfl, ax_px hE rfl (fun y hy => by cases hy)⟩
  cases List.mem_singleton.mp hy
  show 2147483648 ≤ rx_bi (ρ 2 / 4) ∧ rx_bi (ρ 2 / 4) ≤ 2147483687
  rw [hc, d4, ax_bi_nat y8]
  omega
theorem axq0_om8a : ax_RO ax_wM0 (ax_XM 0) axu0_om8a := by
  intro ρ hp hE hT
  obtain ⟨y1, y2, y3, y4, r, y5, y6, ⟨c0, y7, y8⟩, y9⟩ : ay_ex hp 199 ∧ ay_ex hp 198 ∧ ay_ex hp 181 ∧ ay_M12 0 (ρ 5) (ρ 2) (ρ 3) (ay_at hp 199) (ay_at hp 198) (ay_at hp 181) := (ax_XF_lt (x := 12) (Nat.le_of_ble_eq_true rfl)).mp (ax_gx hE (12, [23, 11, 15]) ax_m0)
  obtain ⟨z1, z2, z3⟩ : ay_ex hp 198 ∧ ay_ex hp 181 ∧ ay_M15 0 (ρ 6) (ρ 2) (ρ 3) (ay_at hp 198) (ay_at hp 181) := (ax_XF_lt (x := 15) (Nat.le_of_ble_eq_true rfl)).mp (ax_gx hE (15, [27, 11, 15]) ax_m1)
  obtain ⟨f, hf, f1, f2, f3⟩ := ax_gi hE 2 2147483648 2147483657 (by decide) rfl
  obtain ⟨f4, f5⟩ := ax_bi_pos f1 (by omega)
  obtain ⟨u, hu, u1, u2, u3⟩ := ax_gi hE 3 2147483648 2147483657 (by decide) rfl
  obtain ⟨u4, u5⟩ := ax_bi_pos u1 (by omega)
  obtain ⟨c, hc, c1, c2, c3⟩ := ax_gi hE 4 2147483648 2147483687 (by decide) rfl
  obtain ⟨c4, c5⟩ := ax_bi_pos c1 (by omega)
  have d4 : ∀ z : Nat, 4 * z / 4 = z := fun z => by omega
  have hne : rx_bi (ρ 3 / 4) ≠ rx_bi (ρ 2 / 4) := ax_gc hE 1 15 11 (by decide) (by decide)
  rw [hf, hu, d4, d4] at hne
  have hq : ρ 1 = 4 * (c / 2) := ay_q hE 19 7 hc (by omega) (by decide)
  have f1 := ay_gf hE 806 15 19 199 ax_m2 (ax_vlq rfl rfl)
  replace f1 : ay_at hp 199 (ρ 3 / 4) = some (ρ 4) := f1
  rw [hc] at f1
  have f5 := ay_gf hE 802 7 35 198 ax_m7 (ax_vlq rfl rfl)
  replace f5 : ay_at hp 198 (ρ 1 / 4) = some (ρ 8) := f5
  have hu4 : ρ 3 / 4 = u := by omega
  have hf4 : ρ 2 / 4 = f := by omega
  have hq4 : ρ 1 / 4 = c / 2 := by omega
  rw [hu4] at f1 y6 y7 y9
  rw [hf4] at y4 y5 y6
  rw [hq4] at f5
  obtain ⟨g1, g2, w, d, g3, g4, g5, g6, g7⟩ := y5 u c (by omega) (by omega) f1 (by omega)
  have hfr := y6 u c (by omega) (by omega) (Nat.le_refl _) f1 (by omega)
  have hr : ρ 7 = 4 * (c % 2) := ay_r hE 19 31 hc (by omega) (by decide)
  have hx : ρ 0 = 4 * (1 + c % 2) := ay_s hE 4 31 3 (a := 1) (by decide) (ax_vl_c (v := 4) (by decide)) hr (by decide) (by omega)
  obtain ⟨y0, hy0, yy1, yy2, yy3⟩ := ax_gi hE 8 2147483648 2147483648 (by decide) rfl
  have hyz : ρ 8 = 0 := by rw [ax_bi_def] at yy2 yy3; omega
  have hxy : (ρ 8 = 0 ∧ ρ 0 = 4 * (1 + c % 2)) ∨ ((ρ 8 = 4 ∨ ρ 8 = 8) ∧ ρ 8 ≠ 4 * (1 + c % 2) ∧ ρ 0 = 0) := Or.inl ⟨hyz, hx⟩
  have hup : ∀ j, ay_at (ax_upd hp 802 (ρ 1) (ρ 0)) 198 j = if j = c / 2 then some (ρ 0) else ay_at hp 198 j := fun j => by
    rw [ay_upd_eq hT.1 rfl (by rw [hq4]; exact f5), hq4]
  have hcam : ay_at (ax_upd hp 802 (ρ 1) (ρ 0)) 199 = ay_at hp 199 := funext (fun j => ay_upd_ne hT.1 (by decide) j)
  have hen : ay_at (ax_upd hp 802 (ρ 1) (ρ 0)) 181 = ay_at hp 181 := funext (fun j => ay_upd_ne hT.1 (by decide) j)
  have hfl := ay_flow (b := 0) (f := f) (x := ρ 0) (y := ρ 8) (car := ay_at hp 198) (car' := ay_at (ax_upd hp 802 (ρ 1) (ρ 0)) 198) (en := ay_at hp 181) (by omega) g2 g3 (by omega) f5 hxy hup
  have hle : ay_F 0 f (ay_at (ax_upd hp 802 (ρ 1) (ρ 0)) 198) (ay_at hp 181) ≤ 20 := ay_F_le
  unfold ay_M15 at z3
  rw [hu4, hf4, if_neg (by omega)] at z3
  refine ⟨(fun y hy => by cases hy), _, List.mem_cons_self, ρ, fun _ _ => rfl, ax_px hE rfl (fun y hy => ?_)⟩
  rcases List.mem_cons.mp hy with e | e
  · subst e
    show ax_XF (ax_XM 0) (500 + 13) [802, ρ 1, ρ 0, ρ 5, ρ 2, ρ 3] hp
    refine (ax_XF_wr (x := 13) (Nat.le_of_ble_eq_true rfl)).mpr ⟨ay_ex_upd hT.1 y1, ay_ex_upd hT.1 y2, ay_ex_upd hT.1 y3, ?_⟩
    rw [hcam, hen]
    unfold ay_M13
    rw [hu4, hf4]
    exact ⟨y4, r, y5, ay_take (by omega) (by omega) f1 (by omega) y5 y6 hup, ⟨c, f1, by omega⟩, y9⟩
  · cases List.mem_singleton.mp e
    show ax_XF (ax_XM 0) (500 + 16) [802, ρ 1, ρ 0, ρ 6, ρ 2, ρ 3] hp
    refine (ax_XF_wr (x := 16) (Nat.le_of_ble_eq_true rfl)).mpr ⟨ay_ex_upd hT.1 y2, ay_ex_upd hT.1 y3, ay_ex_upd hT.1 y1, ?_⟩
    rw [hcam, hen]
    intro c' w' k1 k2
    rw [hu4, f1] at k1
    have ec : c' = c := by have := Option.some.inj k1; omega
    rw [ec, g3] at k2
    have ew : w' = w := by have := Option.some.inj k2; omega
    rw [hf4, ew, hfl]
    rw [hfl] at hle
    by_cases hw : w = f
    · rw [if_pos hw] at hle ⊢
      rw [if_pos hw]
      omega
    · rw [if_neg hw] at hle ⊢
      rw [if_neg hw]
      omega
theorem axq0_om8b : ax_RO ax_wM0 (ax_XM 0) axu0_om8b := by
  intro ρ hp hE hT
  obtain ⟨y1, y2, y3, y4, r, y5, y6, ⟨c0, y7, y8⟩, y9⟩ : ay_ex hp 199 ∧ ay_ex hp 198 ∧ ay_ex hp 181 ∧ ay_M12 0 (ρ 4) (ρ 1) (ρ 2) (ay_at hp 199) (ay_at hp 198) (ay_at hp 181) := (ax_XF_lt (x := 12) (Nat.le_of_ble_eq_true rfl)).mp (ax_gx hE (12, [19, 7, 11]) ax_m0)
  obtain ⟨z1, z2, z3⟩ : ay_ex hp 198 ∧ ay_ex hp 181 ∧ ay_M15 0 (ρ 5) (ρ 1) (ρ 2) (ay_at hp 198) (ay_at hp 181) := (ax_XF_lt (x := 15) (Nat.le_of_ble_eq_true rfl)).mp (ax_gx hE (15, [23, 7, 11]) ax_m1)
  obtain ⟨f, hf, f1, f2, f3⟩ := ax_gi hE 1 2147483648 2147483657 (by decide) rfl
  obtain ⟨f4, f5⟩ := ax_bi_pos f1 (by omega)
  obtain ⟨u, hu, u1, u2, u3⟩ := ax_gi hE 2 2147483648 2147483657 (by decide) rfl
  obtain ⟨u4, u5⟩ := ax_bi_pos u1 (by omega)
  obtain ⟨c, hc, c1, c2, c3⟩ := ax_gi hE 3 2147483648 2147483687 (by decide) rfl
  obtain ⟨c4, c5⟩ := ax_bi_pos c1 (by omega)
  have d4 : ∀ z : Nat, 4 * z / 4 = z := fun z => by omega
  have hne : rx_bi (ρ 2 / 4) ≠ rx_bi (ρ 1 / 4) := ax_gc hE 1 11 7 (by decide) (by decide)
  rw [hf, hu, d4, d4] at hne
  have hq : ρ 0 = 4 * (c / 2) := ay_q hE 15 3 hc (by omega) (by decide)
  have f1 := ay_gf hE 806 11 15 199 ax_m2 (ax_vlq rfl rfl)
  replace f1 : ay_at hp 199 (ρ 2 / 4) = some (ρ 3) := f1
  rw [hc] at f1
  have f5 := ay_gf hE 802 3 27 198 ax_m5 (ax_vlq rfl rfl)
  replace f5 : ay_at hp 198 (ρ 0 / 4) = some (ρ 6) := f5
  have hu4 : ρ 2 / 4 = u := by omega
  have hf4 : ρ 1 / 4 = f := by omega
  have hq4 : ρ 0 / 4 = c / 2 := by omega
  rw [hu4] at f1 y6 y7 y9
  rw [hf4] at y4 y5 y6
  rw [hq4] at f5
  obtain ⟨g1, g2, w, d, g3, g4, g5, g6, g7⟩ := y5 u c (by omega) (by omega) f1 (by omega)
  have hfr := y6 u c (by omega) (by omega) (Nat.le_refl _) f1 (by omega)
  obtain ⟨y0, hy0, yy1, yy2, yy3⟩ := ax_gi hE 6 2147483649 2147483650 (by decide) rfl
  have hyz : ρ 6 = 4 ∨ ρ 6 = 8 := by rw [ax_bi_def] at yy2 yy3; omega
  have hxy : (ρ 6 = 0 ∧ 0 = 4 * (1 + c % 2)) ∨ ((ρ 6 = 4 ∨ ρ 6 = 8) ∧ ρ 6 ≠ 4 * (1 + c % 2) ∧ 0 = 0) := Or.inr ⟨hyz, fun z => hfr (by rw [f5, z]), rfl⟩
  have hup : ∀ j, ay_at (ax_upd hp 802 (ρ 0) (0)) 198 j = if j = c / 2 then some (0) else ay_at hp 198 j := fun j => by
    rw [ay_upd_eq hT.1 rfl (by rw [hq4]; exact f5), hq4]
  have hcam : ay_at (ax_upd hp 802 (ρ 0) (0)) 199 = ay_at hp 199 := funext (fun j => ay_upd_ne hT.1 (by decide) j)
  have hen : ay_at (ax_upd hp 802 (ρ 0) (0)) 181 = ay_at hp 181 := funext (fun j => ay_upd_ne hT.1 (by decide) j)
  have hfl := ay_flow (b := 0) (f := f) (x := 0) (y := ρ 6) (car := ay_at hp 198) (car' := ay_at (ax_upd hp 802 (ρ 0) (0)) 198) (en := ay_at hp 181) (by omega) g2 g3 (by omega) f5 hxy hup
  have hle : ay_F 0 f (ay_at (ax_upd hp 802 (ρ 0) (0)) 198) (ay_at hp 181) ≤ 20 := ay_F_le
  unfold ay_M15 at z3
  rw [hu4, hf4, if_neg (by omega)] at z3
  refine ⟨(fun y hy => by cases hy), _, List.mem_cons_self, ρ, fun _ _ => rfl, ax_px hE rfl (fun y hy => ?_)⟩
  rcases List.mem_cons.mp hy with e | e
  · subst e
    show ax_XF (ax_XM 0) (500 + 13) [802, ρ 0, 0, ρ 4, ρ 1, ρ 2] hp
    refine (ax_XF_wr (x := 13) (Nat.le_of_ble_eq_true rfl)).mpr ⟨ay_ex_upd hT.1 y1, ay_ex_upd hT.1 y2, ay_ex_upd hT.1 y3, ?_⟩
    rw [hcam, hen]
    unfold ay_M13
    rw [hu4, hf4]
    exact ⟨y4, r, y5, ay_take (by omega) (by omega) f1 (by omega) y5 y6 hup, ⟨c, f1, by omega⟩, y9⟩
  · cases List.mem_singleton.mp e
    show ax_XF (ax_XM 0) (500 + 16) [802, ρ 0, 0, ρ 5, ρ 1, ρ 2] hp
    refine (ax_XF_wr (x := 16) (Nat.le_of_ble_eq_true rfl)).mpr ⟨ay_ex_upd hT.1 y2, ay_ex_upd hT.1 y3, ay_ex_upd hT.1 y1, ?_⟩
    rw [hcam, hen]
    intro c' w' k1 k2
    rw [hu4, f1] at k1
    have ec : c' = c := by have := Option.some.inj k1; omega
    rw [ec, g3] at k2
    have ew : w' = w := by have := Option.some.inj k2; omega
    rw [hf4, ew, hfl]
    rw [hfl] at hle
    by_cases hw : w = f
    · rw [if_pos hw] at hle ⊢
      rw [if_pos hw]
      omega
    · rw [if_neg hw] at hle ⊢
      rw [if_neg hw]
      omega
theorem axq0_om9 : ax_RO ax_wM0 (ax_XM 0) axu0_om9 := by
  intro ρ hp hE hT
  obtain ⟨y1, y2, y3, y4, r, y5, y6, ⟨c0, y7, y8⟩, y9⟩ : ay_ex hp 199 ∧ ay_ex hp 198 ∧ ay_ex hp 181 ∧ ay_M13 0 (ρ 4) (ρ 1) (ρ 2) (ay_at hp 199) (ay_at hp 198) (ay_at hp 181) := (ax_XF_lt (x := 13) (Nat.le_of_ble_eq_true rfl)).mp (ax_gx hE (13, [19, 7, 11]) ax_m0)
  obtain ⟨z1, z2, z0, z3⟩ : ay_ex hp 198 ∧ ay_ex hp 181 ∧ ay_ex hp 199 ∧ ay_M16 0 (ρ 5) (ρ 1) (ρ 2) (ay_at hp 199) (ay_at hp 198) (ay_at hp 181) := (ax_XF_lt (x := 16) (Nat.le_of_ble_eq_true rfl)).mp (ax_gx hE (16, [23, 7, 11]) ax_m1)
  obtain ⟨kk, hkk⟩ := ax_gj hE 4 (by decide) rfl
  obtain ⟨w, hw, w1, w2, w3⟩ := ax_gi hE 0 2147483648 2147483657 (by decide) rfl
  obtain ⟨w4, w5⟩ := ax_bi_pos w1 (by omega)
  obtain ⟨f, hf, f1, f2, f3⟩ := ax_gi hE 1 2147483648 2147483657 (by decide) rfl
  obtain ⟨f4, f5⟩ := ax_bi_pos f1 (by omega)
  obtain ⟨u, hu, u1, u2, u3⟩ := ax_gi hE 2 2147483648 2147483657 (by decide) rfl
  obtain ⟨u4, u5⟩ := ax_bi_pos u1 (by omega)
  obtain ⟨c, hc, c1, c2, c3⟩ := ax_gi hE 3 2147483648 2147483687 (by decide) rfl
  obtain ⟨c4, c5⟩ := ax_bi_pos c1 (by omega)
  have d4 : ∀ z : Nat, 4 * z / 4 = z := fun z => by omega
  have hne : rx_bi (ρ 2 / 4) ≠ rx_bi (ρ 1 / 4) := ax_gc hE 1 11 7 (by decide) (by decide)
  rw [hf, hu, d4, d4] at hne
  have hq := ay_q hE 15 27 hc (by omega) (by decide)
  have hr := ay_r hE 15 31 hc (by omega) (by decide)
  have hj := ay_ix hE 0 27 35 39 31 43 (k := 0) (ax_vl_c (v := 0) (by decide)) (by decide) hq (by omega) hr (by omega) (by decide) (by decide) (by decide)
  have f1 := ay_gf hE 806 11 15 199 ax_m2 (ax_vlq rfl rfl)
  have f2 := ay_gf hE 734 43 3 181 ax_m9 (ax_vlq rfl rfl)
  replace f1 : ay_at hp 199 (ρ 2 / 4) = some (ρ 3) := f1
  replace f2 : ay_at hp 181 (ax_vl ρ 43 / 4) = some (ρ 0) := f2
  rw [hj, d4, hw] at f2
  rw [hc] at f1
  have hu4 : ρ 2 / 4 = u := by omega
  have hf4 : ρ 1 / 4 = f := by omega
  have hw4 : ρ 0 / 4 = w := by omega
  rw [hu4] at f1 y6 y7 y9
  rw [hf4] at y4 y5 y6
  obtain ⟨g1, g2, w', d, g3, g4, g5, g6, g7⟩ := y5 u c (by omega) (by omega) f1 (by omega)
  have hfr : ay_at hp 181 (ay_fr 0 c) = some (4 * w) := by
    unfold ay_fr
    exact f2
  have hww : w' = w := by
    rw [hfr] at g3
    have := Option.some.inj g3
    omega
  subst hww
  have hz := z3 c w' (by rw [hu4]; exact f1) hfr
  rw [hf4] at hz
  obtain ⟨ρ', h1, h2⟩ := ax_pn (K := kk - 1) (xf := [(12, [47, 7, 3]), (1030, [47, 19]), (15, [23, 7, 3])]) hE (by decide) (fun ρ' h1 h2 x hx => by
    rcases List.mem_cons.mp hx with e | e
    · subst e
      refine (ax_XF_lt (x := 12) (Nat.le_of_ble_eq_true rfl)).mpr ⟨y1, y2, y3, ?_⟩
      show ay_M12 0 (ρ' 11) (ρ' 1) (ρ' 0) (ay_at hp 199) (ay_at hp 198) (ay_at hp 181)
      rw [h1 0 (by decide), h1 1 (by decide), h2]
      unfold ay_M12
      rw [hf4, hw4]
      exact ⟨y4, r, y5, fun v c' a1 a2 a3 a4 a5 => y6 v c' a1 a2 (Nat.lt_of_le_of_lt a3 g7) a4 a5, ⟨d, g5, g6⟩, by omega⟩
    · rcases List.mem_cons.mp e with e | e
      · subst e
        refine (ax_XF_bi (o := 30) (by decide)).mpr (Or.inr ⟨rfl, ?_⟩)
        show ρ' 11 < ρ' 4
        rw [h2, h1 4 (by decide), hkk]
        omega
      · cases List.mem_singleton.mp e
        refine (ax_XF_lt (x := 15) (Nat.le_of_ble_eq_true rfl)).mpr ⟨z1, z2, ?_⟩
        show ay_M15 0 (ρ' 5) (ρ' 1) (ρ' 0) (ay_at hp 198) (ay_at hp 181)
        rw [h1 0 (by decide), h1 1 (by decide), h1 5 (by decide)]
        unfold ay_M15
        rw [hf4, hw4]
        exact hz)
  exact ⟨(fun x hx => by cases hx), _, List.mem_cons_self, ρ', h1, h2⟩
theorem axq0_om10 : ax_RO ax_wM0 (ax_XM 0) axu0_om10 := by
  intro ρ hp hE hT
  obtain ⟨z1, z2, z3⟩ : ay_ex hp 198 ∧ ay_ex hp 181 ∧ ay_M15 0 (ρ 2) (ρ 0) (ρ 1) (ay_at hp 198) (ay_at hp 181) := (ax_XF_lt (x := 15) (Nat.le_of_ble_eq_true rfl)).mp (ax_gx hE (15, [11, 3, 7]) ax_m0)
  obtain ⟨kk, hkk⟩ := ax_gj hE 2 (by decide) rfl
  obtain ⟨f, hf, f1, f2, f3⟩ := ax_gi hE 0 2147483648 2147483657 (by decide) rfl
  obtain ⟨f4, f5⟩ := ax_bi_pos f1 (by omega)
  obtain ⟨u, hu, u1, u2, u3⟩ := ax_gi hE 1 2147483648 2147483657 (by decide) rfl
  obtain ⟨u4, u5⟩ := ax_bi_pos u1 (by omega)
  have d4 : ∀ z : Nat, 4 * z / 4 = z := fun z => by omega
  have hne : rx_bi (ρ 1 / 4) = rx_bi (ρ 0 / 4) := ax_gc hE 0 7 3 (by decide) (by decide)
  rw [hf, hu, d4, d4] at hne
  unfold ay_M15 at z3
  rw [if_pos (by omega)] at z3
  obtain ⟨ρ', h1, h2⟩ := ax_pn (K := kk - 1) (xf := [(14, [15, 3]), (1030, [15, 11])]) hE (by decide) (fun ρ' h1 h2 x hx => by
    rcases List.mem_cons.mp hx with e | e
    · subst e
      refine (ax_XF_lt (x := 14) (Nat.le_of_ble_eq_true rfl)).mpr ⟨z1, z2, ?_⟩
      show (20 - ay_F 0 (ρ' 0 / 4) (ay_at hp 198) (ay_at hp 181)).toNat < ρ' 3 / 4
      rw [h1 0 (by decide), h2]
      omega
    · cases List.mem_singleton.mp e
      refine (ax_XF_bi (o := 30) (by decide)).mpr (Or.inr ⟨rfl, ?_⟩)
      show ρ' 3 < ρ' 2
      rw [h2, h1 2 (by decide), hkk]
      omega)
  exact ⟨(fun x hx => by cases hx), _, List.mem_cons_self, ρ', h1, h2⟩
theorem axq0_am0 : ax_RO ax_wM0 (ax_XM 0) axu0_am0 := by
  intro ρ hp hE hT
  obtain ⟨ρ', h1, h2⟩ := ax_pn (K := (20 - ay_F 0 (ρ 0 / 4) (ay_at hp 198) (ay_at hp 181)).toNat + 1) (xf := [(14, [7, 3])]) hE (by decide) (fun ρ' h1 h2 x hx => by
    cases List.mem_singleton.mp hx
    refine (ax_XF_lt (x := 14) (Nat.le_of_ble_eq_true rfl)).mpr ⟨(ax_cellT hT (q := 198) (g := 68) ax_cg_198), (ax_cellT hT (q := 181) (g := 51) ax_cg_181), ?_⟩
    show (20 - ay_F 0 (ρ' 0 / 4) (ay_at hp 198) (ay_at hp 181)).toNat < ρ' 1 / 4
    rw [h1 0 (by decide), h2]
    omega)
  exact ⟨(fun x hx => by cases hx), _, List.mem_cons_self, ρ', h1, h2⟩
end
section
theorem axq0_gp0 : ax_RO ax_wM0 (ax_XM 0) axu0_gp0 := by
  intro ρ hp hE hT
  obtain ⟨z, hz⟩ : ∃ z, ay_cnt (ay_fp (ay_at hp 188) (ay_at hp 174) (ay_at hp 176 0)) 20 = z := ⟨_, rfl⟩
  obtain ⟨ρ', h1, h2⟩ := ax_pn (K := z + 1) (xf := [(17, [3])]) hE (by decide) (fun ρ' h1 h2 x hx => by
    cases List.mem_singleton.mp hx
    refine (ax_XF_lt (x := 17) (Nat.le_of_ble_eq_true rfl)).mpr ⟨(ax_cellT hT (q := 188) (g := 58) ax_cg_188), (ax_cellT hT (q := 174) (g := 44) ax_cg_174), (ax_cellT hT (q := 176) (g := 46) ax_cg_176), ?_⟩
    show ay_cnt (ay_fp (ay_at hp 188) (ay_at hp 174) (ay_at hp 176 0)) 20 < ρ' 0 / 4
    rw [h2, hz]
    omega)
  exact ⟨(fun x hx => by cases hx), _, List.mem_cons_self, ρ', h1, h2⟩
theorem axq0_gpT : ax_RO ax_wM0 (ax_XM 0) axu0_gpT := by
  intro ρ hp hE hT
  obtain ⟨x1, x2, x3, x4, x5⟩ : ay_ex hp 188 ∧ ay_ex hp 174 ∧ ay_ex hp 176 ∧ ay_ex hp 200 ∧ ay_M19 (ρ 0) (ay_at hp 188) (ay_at hp 174) (ay_at hp 200) (ay_at hp 176 0) := (ax_XF_lt (x := 19) (Nat.le_of_ble_eq_true rfl)).mp (ax_gx hE (19, [3]) ax_m0)
  obtain ⟨n, hn, n1, n2, n3⟩ := ax_gi hE 0 2147483649 2147483668 (by decide) rfl
  obtain ⟨n4, n5⟩ := ax_bi_pos n1 (by omega)
  replace x5 : ρ 0 / 4 ≤ ay_cnt (ay_tk (ay_at hp 188) (ay_at hp 174) (ay_at hp 200) (ay_at hp 176 0)) 20 := x5
  obtain ⟨j, j1, j2⟩ := ay_cnt_pos 20 (show 1 ≤ ay_cnt (ay_tk (ay_at hp 188) (ay_at hp 174) (ay_at hp 200) (ay_at hp 176 0)) 20 by omega)
  refine ⟨(fun y hy => by cases hy), _, List.mem_cons_self, ρ, fun _ _ => rfl, ax_px hE rfl (fun y hy => ?_)⟩
  cases List.mem_singleton.mp hy
  exact (ax_XF_lt (x := 22) (Nat.le_of_ble_eq_true rfl)).mpr ⟨x1, x2, x3, x4, j, j1, j2⟩
theorem axqg_tp0 {w : ax_W} {b : Nat} (hw : ax_WW w) : ax_RO w (ax_XM b) axu0_tp0 := by
  intro ρ hp hE hT
  refine ⟨(fun y hy => by cases hy), _, List.mem_cons_self, ρ, fun _ _ => rfl, ax_px hE rfl (fun y hy => ?_)⟩
  cases List.mem_singleton.mp hy
  refine (ax_XF_lt (x := 18) (Nat.le_of_ble_eq_true rfl)).mpr ⟨(ax_cellT hT (q := 188) (g := 58) (ax_wc hw ax_cg_188)), (ax_cellT hT (q := 174) (g := 44) (ax_wc hw ax_cg_174)), (ax_cellT hT (q := 176) (g := 46) (ax_wc hw ax_cg_176)), (ax_cellT hT (q := 200) (g := 70) (ax_wc hw ax_cg_200)), ?_⟩
  show ax_vl ρ 0 / 4 ≤ _
  rw [show ax_vl ρ 0 = 0 from rfl]
  exact Nat.zero_le _
theorem axq0_tp0 : ax_RO ax_wM0 (ax_XM 0) axu0_tp0 := axqg_tp0 ax_WW0
theorem axq0_tpA : ax_RO ax_wM0 (ax_XM 0) axu0_tpA := by
  intro ρ hp hE hT
  obtain ⟨x1, x2, x3, x4, x5⟩ : ay_ex hp 188 ∧ ay_ex hp 174 ∧ ay_ex hp 176 ∧ ay_ex hp 200 ∧ ay_M18 (ρ 1) (ρ 0) (ay_at hp 188) (ay_at hp 174) (ay_at hp 200) (ay_at hp 176 0) := (ax_XF_lt (x := 18) (Nat.le_of_ble_eq_true rfl)).mp (ax_gx hE (18, [7, 3]) ax_m0)
  obtain ⟨l, hl, l1, l2, l3⟩ := ax_gi hE 0 2147483648 2147483667 (by decide) rfl
  obtain ⟨l4, l5⟩ := ax_bi_pos l1 (by omega)
  obtain ⟨o, ho⟩ := ay_some hT (q := 200) (g := 70) (n := 20) ax_cg_200 ax_cn_70 (j := ρ 0 / 4) (by omega)
  have hup := ay_upd_eq (a := 810) (i := ρ 0) (v := 4) hT.1 (show 810 / 4 - 2 = 200 from rfl) ho
  have e1 : ay_at (ax_upd hp 810 (ρ 0) 4) 188 = ay_at hp 188 := funext (fun j => ay_upd_ne hT.1 (by decide) j)
  have e2 : ay_at (ax_upd hp 810 (ρ 0) 4) 174 = ay_at hp 174 := funext (fun j => ay_upd_ne hT.1 (by decide) j)
  have e3 : ay_at (ax_upd hp 810 (ρ 0) 4) 176 = ay_at hp 176 := funext (fun j => ay_upd_ne hT.1 (by decide) j)
  refine ⟨(fun y hy => by cases hy), _, List.mem_cons_self, ρ, fun _ _ => rfl, ax_px hE rfl (fun y hy => ?_)⟩
  cases List.mem_singleton.mp hy
  show ax_XF (ax_XM 0) (500 + 18) [810, ρ 0, 4, ρ 1, ρ 0] hp
  refine (ax_XF_wr (x := 18) (Nat.le_of_ble_eq_true rfl)).mpr ⟨ay_ex_upd hT.1 x1, ay_ex_upd hT.1 x2, ay_ex_upd hT.1 x3, ay_ex_upd hT.1 x4, ?_⟩
  rw [e1, e2, e3]
  unfold ay_M18 at x5 ⊢
  rw [ay_cnt_same (p := ay_tk (ay_at hp 188) (ay_at hp 174) (ay_at hp 200) (ay_at hp 176 0)) (n := ρ 0 / 4) (fun j hj => by
    unfold ay_tk
    rw [hup, if_neg (by omega)])]
  exact x5
theorem axq0_tpB : ax_RO ax_wM0 (ax_XM 0) axu0_tpB := by
  intro ρ hp hE hT
  obtain ⟨x1, x2, x3, x4, x5⟩ : ay_ex hp 188 ∧ ay_ex hp 174 ∧ ay_ex hp 176 ∧ ay_ex hp 200 ∧ ay_M18 (ρ 1) (ρ 0) (ay_at hp 188) (ay_at hp 174) (ay_at hp 200) (ay_at hp 176 0) := (ax_XF_lt (x := 18) (Nat.le_of_ble_eq_true rfl)).mp (ax_gx hE (18, [7, 3]) ax_m0)
  obtain ⟨l, hl, l1, l2, l3⟩ := ax_gi hE 0 2147483648 2147483667 (by decide) rfl
  obtain ⟨l4, l5⟩ := ax_bi_pos l1 (by omega)
  obtain ⟨o, ho⟩ := ay_some hT (q := 200) (g := 70) (n := 20) ax_cg_200 ax_cn_70 (j := ρ 0 / 4) (by omega)
  have hup := ay_upd_eq (a := 810) (i := ρ 0) (v := 0) hT.1 (show 810 / 4 - 2 = 200 from rfl) ho
  have e1 : ay_at (ax_upd hp 810 (ρ 0) 0) 188 = ay_at hp 188 := funext (fun j => ay_upd_ne hT.1 (by decide) j)
  have e2 : ay_at (ax_upd hp 810 (ρ 0) 0) 174 = ay_at hp 174 := funext (fun j => ay_upd_ne hT.1 (by decide) j)
  have e3 : ay_at (ax_upd hp 810 (ρ 0) 0) 176 = ay_at hp 176 := funext (fun j => ay_upd_ne hT.1 (by decide) j)
  refine ⟨(fun y hy => by cases hy), _, List.mem_cons_self, ρ, fun _ _ => rfl, ax_px hE rfl (fun y hy => ?_)⟩
  cases List.mem_singleton.mp hy
  show ax_XF (ax_XM 0) (500 + 18) [810, ρ 0, 0, ρ 1, ρ 0] hp
  refine (ax_XF_wr (x := 18) (Nat.le_of_ble_eq_true rfl)).mpr ⟨ay_ex_upd hT.1 x1, ay_ex_upd hT.1 x2, ay_ex_upd hT.1 x3, ay_ex_upd hT.1 x4, ?_⟩
  rw [e1, e2, e3]
  unfold ay_M18 at x5 ⊢
  rw [ay_cnt_same (p := ay_tk (ay_at hp 188) (ay_at hp 174) (ay_at hp 200) (ay_at hp 176 0)) (n := ρ 0 / 4) (fun j hj => by
    unfold ay_tk
    rw [hup, if_neg (by omega)])]
  exact x5
theorem axq0_tpN : ax_RO ax_wM0 (ax_XM 0) axu0_tpN := by
  intro ρ hp hE hT
  obtain ⟨x1, x2, x3, x4, x5⟩ : ay_ex hp 188 ∧ ay_ex hp 174 ∧ ay_ex hp 176 ∧ ay_ex hp 200 ∧ ay_M18 (ρ 2) (ρ 0) (ay_at hp 188) (ay_at hp 174) (ay_at hp 200) (ay_at hp 176 0) := (ax_XF_lt (x := 18) (Nat.le_of_ble_eq_true rfl)).mp (ax_gx hE (18, [11, 3]) ax_m0)
  obtain ⟨l, hl, l1, l2, l3⟩ := ax_gi hE 0 2147483648 2147483667 (by decide) rfl
  obtain ⟨l4, l5⟩ := ax_bi_pos l1 (by omega)
  have h2 : ρ 1 = 4 * (l + 1) := ay_s hE 3 4 7 (b := 1) (by decide) hl (ax_vl_c (v := 4) (by decide)) (by omega) (by decide)
  refine ⟨(fun y hy => by cases hy), _, List.mem_cons_self, ρ, fun _ _ => rfl, ax_px hE rfl (fun y hy => ?_)⟩
  cases List.mem_singleton.mp hy
  refine (ax_XF_lt (x := 18) (Nat.le_of_ble_eq_true rfl)).mpr ⟨x1, x2, x3, x4, ?_⟩
  show ρ 2 / 4 ≤ ay_cnt _ (ρ 1 / 4)
  exact Nat.le_trans x5 (ay_cnt_mono (by omega))
theorem axq0_tpE : ax_RO ax_wM0 (ax_XM 0) axu0_tpE := by
  intro ρ hp hE hT
  obtain ⟨x1, x2, x3, x4, x5⟩ : ay_ex hp 188 ∧ ay_ex hp 174 ∧ ay_ex hp 176 ∧ ay_ex hp 200 ∧ ay_M18 (ρ 2) (ρ 0) (ay_at hp 188) (ay_at hp 174) (ay_at hp 200) (ay_at hp 176 0) := (ax_XF_lt (x := 18) (Nat.le_of_ble_eq_true rfl)).mp (ax_gx hE (18, [11, 3]) ax_m0)
  obtain ⟨l, hl, l1, l2, l3⟩ := ax_gi hE 0 2147483648 2147483667 (by decide) rfl
  obtain ⟨l4, l5⟩ := ax_bi_pos l1 (by omega)
  obtain ⟨n, hn, n1, n2, n3⟩ := ax_gi hE 2 2147483648 2147483668 (by decide) rfl
  obtain ⟨n4, n5⟩ := ax_bi_pos n1 (by omega)
  obtain ⟨L, hL, L1, L2, L3⟩ := ax_gi hE 7 2147483648 2147483668 (by decide) rfl
  obtain ⟨L4, L5⟩ := ax_bi_pos L1 (by omega)
  have d4 : ∀ z : Nat, 4 * z / 4 = z := fun z => by omega
  have h2 : ρ 1 = 4 * (l + 1) := ay_s hE 3 4 7 (b := 1) (by decide) hl (ax_vl_c (v := 4) (by decide)) (by omega) (by decide)
  have h3 : ρ 3 = 4 * (n + 1) := ay_s hE 11 4 15 (b := 1) (by decide) hn (ax_vl_c (v := 4) (by decide)) (by omega) (by decide)
  have h4 : ρ 6 = 4 * (20 + l) := ay_s hE 80 3 27 (a := 20) (by decide) (ax_vl_c (v := 80) (by decide)) hl (by decide) (by omega)
  have f1 := ay_gf hE 762 3 19 188 ax_m4 (ax_vlq rfl rfl)
  have f2 := ay_gf hE 706 27 23 174 ax_m5 (ax_vlq rfl rfl)
  have f3 := ay_gf hE 810 3 4 200 ax_m7 (ax_vlq rfl rfl)
  have f4 := ay_gfj hE 714 0 31 176 0 ax_m8 (ax_vlq rfl rfl) (ax_vlj rfl rfl)
  have hne : rx_bi (ρ 4 / 4) ≠ rx_bi (ρ 5 / 4) := ax_gc hE 1 19 23 (by decide) (by decide)
  have hlt : rx_bi (ρ 0 / 4) < rx_bi (ρ 7 / 4) := ax_gc hE 2 3 31 (by decide) (by decide)
  replace f1 : ay_at hp 188 (ρ 0 / 4) = some (ρ 4) := f1
  replace f2 : ay_at hp 174 (ρ 6 / 4) = some (ρ 5) := f2
  replace f3 : ay_at hp 200 (ρ 0 / 4) = some 4 := f3
  replace f4 : ay_at hp 176 0 = some (ρ 7) := f4
  rw [hl, d4] at f1 f3
  rw [h4, d4] at f2
  rw [hl, hL, d4, d4] at hlt
  have ht : ay_tk (ay_at hp 188) (ay_at hp 174) (ay_at hp 200) (ay_at hp 176 0) l = true := by
    unfold ay_tk ay_fp
    rw [f1, f2, f3, f4]
    refine rx_and2.mpr ⟨decide_eq_true rfl, rx_and2.mpr ⟨decide_eq_true (fun z => ?_), decide_eq_true ?_⟩⟩
    · rw [Option.some.inj z] at hne
      exact hne rfl
    · show l < ρ 7 / 4
      omega
  replace x5 : ρ 2 / 4 ≤ ay_cnt (ay_tk (ay_at hp 188) (ay_at hp 174) (ay_at hp 200) (ay_at hp 176 0)) (ρ 0 / 4) := x5
  rw [hl, d4] at x5
  refine ⟨(fun y hy => by cases hy), _, List.mem_cons_self, ρ, fun _ _ => rfl, ax_px hE rfl (fun y hy => ?_)⟩
  cases List.mem_singleton.mp hy
  refine (ax_XF_lt (x := 18) (Nat.le_of_ble_eq_true rfl)).mpr ⟨x1, x2, x3, x4, ?_⟩
  show ρ 3 / 4 ≤ ay_cnt _ (ρ 1 / 4)
  rw [h2, d4, h3, d4]
  show n + 1 ≤ (if ay_tk (ay_at hp 188) (ay_at hp 174) (ay_at hp 200) (ay_at hp 176 0) l = true then 1 else 0) + ay_cnt (ay_tk (ay_at hp 188) (ay_at hp 174) (ay_at hp 200) (ay_at hp 176 0)) l
  rw [if_pos ht]
  omega
theorem axq0_tpR : ax_RO ax_wM0 (ax_XM 0) axu0_tpR := by
  intro ρ hp hE hT
  obtain ⟨x1, x2, x3, x4, x5⟩ : ay_ex hp 188 ∧ ay_ex hp 174 ∧ ay_ex hp 176 ∧ ay_ex hp 200 ∧ ay_M18 (ρ 0) (ρ 1) (ay_at hp 188) (ay_at hp 174) (ay_at hp 200) (ay_at hp 176 0) := (ax_XF_lt (x := 18) (Nat.le_of_ble_eq_true rfl)).mp (ax_gx hE (18, [3, 7]) ax_m0)
  obtain ⟨v, hv⟩ := ay_some hT (q := 176) (g := 46) (n := 2) ax_cg_176 ax_cn_46 (j := 0) (by decide)
  obtain ⟨v1, v2, v3, v4⟩ := ay_int hT (q := 176) (g := 46) (n := 2) (lo := 2147483648) (hi := 2147483668) ax_cg_176 rfl hv
  obtain ⟨v5, v6⟩ := ax_bi_pos v2 v3
  refine ⟨(fun y hy => by cases hy), _, List.mem_cons_self, ρ, fun _ _ => rfl, ax_px hE rfl (fun y hy => ?_)⟩
  cases List.mem_singleton.mp hy
  refine (ax_XF_lt (x := 19) (Nat.le_of_ble_eq_true rfl)).mpr ⟨x1, x2, x3, x4, ?_⟩
  refine Nat.le_trans x5 (ay_cnt_out (fun j hj => ?_) _)
  unfold ay_tk ay_fp
  rw [hv]
  have : decide (j < ay_ln (some v)) = false := decide_eq_false (fun z => by replace z : j < v / 4 := z; omega)
  rw [this, Bool.and_false, Bool.and_false]
theorem axq0_tpC : ax_RO ax_wM0 (ax_XM 0) axu0_tpC := by
  intro ρ hp hE hT
  obtain ⟨x1, x2, x3, x4, x5⟩ : ay_ex hp 188 ∧ ay_ex hp 174 ∧ ay_ex hp 176 ∧ ay_ex hp 200 ∧ ay_M18 (ρ 0) (ρ 1) (ay_at hp 188) (ay_at hp 174) (ay_at hp 200) (ay_at hp 176 0) := (ax_XF_lt (x := 18) (Nat.le_of_ble_eq_true rfl)).mp (ax_gx hE (18, [3, 7]) ax_m0)
  obtain ⟨n, hn, n1, n2, n3⟩ := ax_gi hE 0 2147483648 2147483668 (by decide) rfl
  obtain ⟨n4, n5⟩ := ax_bi_pos n1 (by omega)
  obtain ⟨l, hl, l1, l2, l3⟩ := ax_gi hE 1 2147483648 2147483667 (by decide) rfl
  obtain ⟨l4, l5⟩ := ax_bi_pos l1 (by omega)
  have d4 : ∀ z : Nat, 4 * z / 4 = z := fun z => by omega
  replace x5 : ρ 0 / 4 ≤ ay_cnt (ay_tk (ay_at hp 188) (ay_at hp 174) (ay_at hp 200) (ay_at hp 176 0)) (ρ 1 / 4) := x5
  have := ay_cnt_n (p := ay_tk (ay_at hp 188) (ay_at hp 174) (ay_at hp 200) (ay_at hp 176 0)) (ρ 1 / 4)
  refine ⟨fun y hy => ?_, _, List.mem_cons_self, ρ, fun _ _ => rfl, ax_px hE rfl (fun y hy => by cases hy)⟩
  cases List.mem_singleton.mp hy
  show 2147483648 ≤ rx_bi (ρ 0 / 4) ∧ rx_bi (ρ 0 / 4) ≤ 2147483667
  rw [hn, d4] at x5 ⊢
  omega
theorem axq0_tt0 : ax_RO ax_wM0 (ax_XM 0) axu0_tt0 := by
  intro ρ hp hE hT
  obtain ⟨x1, x2, x3, x5⟩ : ay_ex hp 188 ∧ ay_ex hp 174 ∧ ay_ex hp 176 ∧ ay_M17 (ρ 0) (ay_at hp 188) (ay_at hp 174) (ay_at hp 176 0) := (ax_XF_lt (x := 17) (Nat.le_of_ble_eq_true rfl)).mp (ax_gx hE (17, [3]) ax_m0)
  obtain ⟨y1, y2, y3, y4, j, y5, y6⟩ : ay_ex hp 188 ∧ ay_ex hp 174 ∧ ay_ex hp 176 ∧ ay_ex hp 200 ∧ ay_M22 (ay_at hp 188) (ay_at hp 174) (ay_at hp 200) (ay_at hp 176 0) := (ax_XF_lt (x := 22) (Nat.le_of_ble_eq_true rfl)).mp (ax_gx hE (22, []) ax_m1)
  refine ⟨(fun y hy => by cases hy), _, List.mem_cons_self, ρ, fun _ _ => rfl, ax_px hE rfl (fun y hy => ?_)⟩
  cases List.mem_singleton.mp hy
  refine (ax_XF_lt (x := 20) (Nat.le_of_ble_eq_true rfl)).mpr ⟨x1, x2, x3, y4, x5, Or.inl ⟨j, y5, ?_, y6⟩⟩
  show 0 / 4 ≤ j
  omega
theorem axq0_ttS : ax_RO ax_wM0 (ax_XM 0) axu0_ttS := by
  intro ρ hp hE hT
  obtain ⟨x1, x2, x3, x4, x5, x6⟩ : ay_ex hp 188 ∧ ay_ex hp 174 ∧ ay_ex hp 176 ∧ ay_ex hp 200 ∧ ay_M20 (ρ 0) (ρ 1) (ay_at hp 188) (ay_at hp 174) (ay_at hp 200) (ay_at hp 176 0) := (ax_XF_lt (x := 20) (Nat.le_of_ble_eq_true rfl)).mp (ax_gx hE (20, [3, 7]) ax_m0)
  obtain ⟨l, hl, l1, l2, l3⟩ := ax_gi hE 1 2147483648 2147483667 (by decide) rfl
  obtain ⟨l4, l5⟩ := ax_bi_pos l1 (by omega)
  have d4 : ∀ z : Nat, 4 * z / 4 = z := fun z => by omega
  have h4 : ρ 3 = 4 * (20 + l) := ay_s hE 80 7 15 (a := 20) (by decide) (ax_vl_c (v := 80) (by decide)) hl (by decide) (by omega)
  have f1 := ay_gf hE 762 7 11 188 ax_m2 (ax_vlq rfl rfl)
  replace f1 : ay_at hp 188 (ρ 1 / 4) = some (ρ 2) := f1
  rw [hl, d4] at f1
  obtain ⟨o, ho⟩ := ay_some hT (q := 174) (g := 44) (n := 103) ax_cg_174 ax_cn_44 (j := ρ 3 / 4) (by omega)
  have hup : ∀ j, ay_at (ax_upd hp 706 (ρ 3) (ρ 2)) 174 j = if j = 20 + l then some (ρ 2) else ay_at hp 174 j := fun j => by
    rw [ay_upd_eq hT.1 rfl ho, h4, d4]
  have e1 : ay_at (ax_upd hp 706 (ρ 3) (ρ 2)) 188 = ay_at hp 188 := funext (fun j => ay_upd_ne hT.1 (by decide) j)
  have e2 : ay_at (ax_upd hp 706 (ρ 3) (ρ 2)) 200 = ay_at hp 200 := funext (fun j => ay_upd_ne hT.1 (by decide) j)
  have e3 : ay_at (ax_upd hp 706 (ρ 3) (ρ 2)) 176 = ay_at hp 176 := funext (fun j => ay_upd_ne hT.1 (by decide) j)
  obtain ⟨p1, p2⟩ := ay_fp_up (ln := ay_at hp 176 0) f1 hup
  have hle : ay_cnt (ay_fp (ay_at hp 188) (ay_at (ax_upd hp 706 (ρ 3) (ρ 2)) 174) (ay_at hp 176 0)) 20 ≤ ay_cnt (ay_fp (ay_at hp 188) (ay_at hp 174) (ay_at hp 176 0)) 20 := ay_cnt_le (fun j _ hj => by
    by_cases ej : j = l
    · rw [ej, p1] at hj
      cases hj
    · rw [p2 j ej] at hj
      exact hj)
  have hl4 : ρ 1 / 4 = l := by omega
  refine ⟨(fun y hy => by cases hy), _, List.mem_cons_self, ρ, fun _ _ => rfl, ax_px hE rfl (fun y hy => ?_)⟩
  cases List.mem_singleton.mp hy
  show ax_XF (ax_XM 0) (500 + 21) [706, ρ 3, ρ 2, ρ 0, ρ 1] hp
  refine (ax_XF_wr (x := 21) (Nat.le_of_ble_eq_true rfl)).mpr ⟨ay_ex_upd hT.1 x1, ay_ex_upd hT.1 x2, ay_ex_upd hT.1 x3, ay_ex_upd hT.1 x4, ?_⟩
  rw [e1, e2, e3]
  unfold ay_M21
  refine ⟨by omega, ?_⟩
  rcases x6 with ⟨j, j1, j2, j3⟩ | x6
  · by_cases ej : j = l
    · refine Or.inr ?_
      rw [ej] at j3
      have hf : ay_fp (ay_at hp 188) (ay_at hp 174) (ay_at hp 176 0) l = true := (rx_and2.mp j3).2
      have := ay_cnt_lt (p := ay_fp (ay_at hp 188) (ay_at hp 174) (ay_at hp 176 0)) (p' := ay_fp (ay_at hp 188) (ay_at (ax_upd hp 706 (ρ 3) (ρ 2)) 174) (ay_at hp 176 0)) (t := l) hf p1 (n := 20) (by omega) (fun j _ hj => by
        by_cases ej : j = l
        · rw [ej, p1] at hj
          cases hj
        · rw [p2 j ej] at hj
          exact hj)
      omega
    · refine Or.inl ⟨j, j1, by omega, ?_⟩
      unfold ay_tk at j3 ⊢
      rw [p2 j ej]
      exact j3
  · exact Or.inr (by omega)
theorem axq0_ttN : ax_RO ax_wM0 (ax_XM 0) axu0_ttN := by
  intro ρ hp hE hT
  obtain ⟨x1, x2, x3, x4, x5, x6⟩ : ay_ex hp 188 ∧ ay_ex hp 174 ∧ ay_ex hp 176 ∧ ay_ex hp 200 ∧ ay_M21 (ρ 0) (ρ 1) (ay_at hp 188) (ay_at hp 174) (ay_at hp 200) (ay_at hp 176 0) := (ax_XF_lt (x := 21) (Nat.le_of_ble_eq_true rfl)).mp (ax_gx hE (21, [3, 7]) ax_m0)
  obtain ⟨l, hl, l1, l2, l3⟩ := ax_gi hE 1 2147483648 2147483667 (by decide) rfl
  obtain ⟨l4, l5⟩ := ax_bi_pos l1 (by omega)
  have h2 : ρ 2 = 4 * (l + 1) := ay_s hE 7 4 11 (b := 1) (by decide) hl (ax_vl_c (v := 4) (by decide)) (by omega) (by decide)
  refine ⟨(fun y hy => by cases hy), _, List.mem_cons_self, ρ, fun _ _ => rfl, ax_px hE rfl (fun y hy => ?_)⟩
  cases List.mem_singleton.mp hy
  refine (ax_XF_lt (x := 20) (Nat.le_of_ble_eq_true rfl)).mpr ⟨x1, x2, x3, x4, x5, ?_⟩
  rcases x6 with ⟨j, j1, j2, j3⟩ | x6
  · refine Or.inl ⟨j, j1, ?_, j3⟩
    show ρ 2 / 4 ≤ j
    omega
  · exact Or.inr x6
theorem axq0_ttZ : ax_RO ax_wM0 (ax_XM 0) axu0_ttZ := by
  intro ρ hp hE hT
  obtain ⟨x1, x2, x3, x4, x5, x6⟩ : ay_ex hp 188 ∧ ay_ex hp 174 ∧ ay_ex hp 176 ∧ ay_ex hp 200 ∧ ay_M20 (ρ 0) (ρ 1) (ay_at hp 188) (ay_at hp 174) (ay_at hp 200) (ay_at hp 176 0) := (ax_XF_lt (x := 20) (Nat.le_of_ble_eq_true rfl)).mp (ax_gx hE (20, [3, 7]) ax_m0)
  obtain ⟨l, hl, l1, l2, l3⟩ := ax_gi hE 1 2147483648 2147483667 (by decide) rfl
  obtain ⟨l4, l5⟩ := ax_bi_pos l1 (by omega)
  obtain ⟨z, hz, z1, z2, z3⟩ := ax_gi hE 3 2147483648 2147483648 (by decide) rfl
  obtain ⟨z4, z5⟩ := ax_bi_pos z1 (by omega)
  have d4 : ∀ z : Nat, 4 * z / 4 = z := fun z => by omega
  have h2 : ρ 2 = 4 * (l + 1) := ay_s hE 7 4 11 (b := 1) (by decide) hl (ax_vl_c (v := 4) (by decide)) (by omega) (by decide)
  have f1 := ay_gf hE 810 7 15 200 ax_m1 (ax_vlq rfl rfl)
  replace f1 : ay_at hp 200 (ρ 1 / 4) = some (ρ 3) := f1
  rw [hl, d4, hz, show z = 0 by omega] at f1
  refine ⟨(fun y hy => by cases hy), _, List.mem_cons_self, ρ, fun _ _ => rfl, ax_px hE rfl (fun y hy => ?_)⟩
  cases List.mem_singleton.mp hy
  refine (ax_XF_lt (x := 20) (Nat.le_of_ble_eq_true rfl)).mpr ⟨x1, x2, x3, x4, x5, ?_⟩
  rcases x6 with ⟨j, j1, j2, j3⟩ | x6
  · have hj : j ≠ l := fun e => by
      rw [e] at j3
      have j4 := of_decide_eq_true (rx_and2.mp j3).1
      rw [f1] at j4
      cases j4
    refine Or.inl ⟨j, j1, ?_, j3⟩
    show ρ 2 / 4 ≤ j
    omega
  · exact Or.inr x6
theorem axq0_ttR : ax_RO ax_wM0 (ax_XM 0) axu0_ttR := by
  intro ρ hp hE hT
  obtain ⟨x1, x2, x3, x4, x5, x6⟩ : ay_ex hp 188 ∧ ay_ex hp 174 ∧ ay_ex hp 176 ∧ ay_ex hp 200 ∧ ay_M20 (ρ 0) (ρ 1) (ay_at hp 188) (ay_at hp 174) (ay_at hp 200) (ay_at hp 176 0) := (ax_XF_lt (x := 20) (Nat.le_of_ble_eq_true rfl)).mp (ax_gx hE (20, [3, 7]) ax_m0)
  obtain ⟨kk, hkk⟩ := ax_gj hE 0 (by decide) rfl
  obtain ⟨L, hL, L1, L2, L3⟩ := ax_gi hE 2 2147483648 2147483668 (by decide) rfl
  obtain ⟨L4, L5⟩ := ax_bi_pos L1 (by omega)
  have f1 := ay_gfj hE 714 0 11 176 0 ax_m1 (ax_vlq rfl rfl) (ax_vlj rfl rfl)
  replace f1 : ay_at hp 176 0 = some (ρ 2) := f1
  have hge : rx_bi (ρ 2 / 4) ≤ rx_bi (ρ 1 / 4) := ax_gc hE 3 7 11 (by decide) (by decide)
  have hx : ay_cnt (ay_fp (ay_at hp 188) (ay_at hp 174) (ay_at hp 176 0)) 20 + 1 < ρ 0 / 4 := by
    rcases x6 with ⟨j, j1, j2, j3⟩ | x6
    · exfalso
      have j4 := of_decide_eq_true (rx_and2.mp (rx_and2.mp j3).2).2
      rw [f1] at j4
      replace j4 : j < ρ 2 / 4 := j4
      obtain ⟨l, hl, l1, l2, l3⟩ := ax_gi hE 1 0 4294967295 (by decide) rfl
      rw [hL, Nat.mul_div_cancel_left L (by decide), L5, hl, Nat.mul_div_cancel_left l (by decide), ax_bi_def] at hge
      omega
    · exact x6
  obtain ⟨z, hz⟩ : ∃ z, ay_cnt (ay_fp (ay_at hp 188) (ay_at hp 174) (ay_at hp 176 0)) 20 = z := ⟨_, rfl⟩
  rw [hz] at hx
  obtain ⟨ρ', h1, h2⟩ := ax_pn (K := kk - 1) (xf := [(17, [15]), (1030, [15, 3])]) hE (by decide) (fun ρ' h1 h2 x hx => by
    rcases List.mem_cons.mp hx with e | e
    · subst e
      refine (ax_XF_lt (x := 17) (Nat.le_of_ble_eq_true rfl)).mpr ⟨x1, x2, x3, ?_⟩
      show ay_cnt (ay_fp (ay_at hp 188) (ay_at hp 174) (ay_at hp 176 0)) 20 < ρ' 3 / 4
      rw [h2, hz]
      omega
    · cases List.mem_singleton.mp e
      refine (ax_XF_bi (o := 30) (by decide)).mpr (Or.inr ⟨rfl, ?_⟩)
      show ρ' 3 < ρ' 0
      rw [h2, h1 0 (by decide), hkk]
      omega)
  exact ⟨(fun x hx => by cases hx), _, List.mem_cons_self, ρ', h1, h2⟩
theorem axq0_gs14 : ax_RO ax_wM0 (ax_XM 0) axu0_gs14 := by
  intro ρ hp hE hT
  obtain ⟨x1, x2, x3, x5⟩ : ay_ex hp 188 ∧ ay_ex hp 174 ∧ ay_ex hp 176 ∧ ay_M17 (ρ 2) (ay_at hp 188) (ay_at hp 174) (ay_at hp 176 0) := (ax_XF_lt (x := 17) (Nat.le_of_ble_eq_true rfl)).mp (ax_gx hE (17, [11]) ax_m0)
  obtain ⟨j, hj, j1, j2, j3⟩ := ax_gi hE 1 2147483689 2147483750 (by decide) rfl
  obtain ⟨j4, j5⟩ := ax_bi_pos j1 (by omega)
  have d4 : ∀ z : Nat, 4 * z / 4 = z := fun z => by omega
  obtain ⟨o, ho⟩ := ay_some hT (q := 174) (g := 44) (n := 103) ax_cg_174 ax_cn_44 (j := ρ 1 / 4) (by omega)
  have hup := ay_upd_eq (a := 706) (i := ρ 1) (v := ρ 0) hT.1 (show 706 / 4 - 2 = 174 from rfl) ho
  have e1 : ay_at (ax_upd hp 706 (ρ 1) (ρ 0)) 188 = ay_at hp 188 := funext (fun j => ay_upd_ne hT.1 (by decide) j)
  have e3 : ay_at (ax_upd hp 706 (ρ 1) (ρ 0)) 176 = ay_at hp 176 := funext (fun j => ay_upd_ne hT.1 (by decide) j)
  refine ⟨(fun y hy => by cases hy), _, List.mem_cons_self, ρ, fun _ _ => rfl, ax_px hE rfl (fun y hy => ?_)⟩
  cases List.mem_singleton.mp hy
  show ax_XF (ax_XM 0) (500 + 17) [706, ρ 1, ρ 0, ρ 2] hp
  refine (ax_XF_wr (x := 17) (Nat.le_of_ble_eq_true rfl)).mpr ⟨ay_ex_upd hT.1 x1, ay_ex_upd hT.1 x2, ay_ex_upd hT.1 x3, ?_⟩
  rw [e1, e3]
  unfold ay_M17 at x5 ⊢
  rw [ay_cnt_same (p := ay_fp (ay_at hp 188) (ay_at hp 174) (ay_at hp 176 0)) (n := 20) (fun i hi => by
    unfold ay_fp
    rw [hup, if_neg (by omega)])]
  exact x5
theorem axq0_gs66 : ax_RO ax_wM0 (ax_XM 0) axu0_gs66 := by
  intro ρ hp hE hT
  obtain ⟨x1, x2, x3, x5⟩ : ay_ex hp 188 ∧ ay_ex hp 174 ∧ ay_ex hp 176 ∧ ay_M17 (ρ 2) (ay_at hp 188) (ay_at hp 174) (ay_at hp 176 0) := (ax_XF_lt (x := 17) (Nat.le_of_ble_eq_true rfl)).mp (ax_gx hE (17, [11]) ax_m0)
  obtain ⟨j, hj, j1, j2, j3⟩ := ax_gi hE 1 2147483689 2147483750 (by decide) rfl
  obtain ⟨j4, j5⟩ := ax_bi_pos j1 (by omega)
  have d4 : ∀ z : Nat, 4 * z / 4 = z := fun z => by omega
  obtain ⟨o, ho⟩ := ay_some hT (q := 174) (g := 44) (n := 103) ax_cg_174 ax_cn_44 (j := ρ 1 / 4) (by omega)
  have hup := ay_upd_eq (a := 706) (i := ρ 1) (v := ρ 0) hT.1 (show 706 / 4 - 2 = 174 from rfl) ho
  have e1 : ay_at (ax_upd hp 706 (ρ 1) (ρ 0)) 188 = ay_at hp 188 := funext (fun j => ay_upd_ne hT.1 (by decide) j)
  have e3 : ay_at (ax_upd hp 706 (ρ 1) (ρ 0)) 176 = ay_at hp 176 := funext (fun j => ay_upd_ne hT.1 (by decide) j)
  refine ⟨(fun y hy => by cases hy), _, List.mem_cons_self, ρ, fun _ _ => rfl, ax_px hE rfl (fun y hy => ?_)⟩
  cases List.mem_singleton.mp hy
  show ax_XF (ax_XM 0) (500 + 17) [706, ρ 1, ρ 0, ρ 2] hp
  refine (ax_XF_wr (x := 17) (Nat.le_of_ble_eq_true rfl)).mpr ⟨ay_ex_upd hT.1 x1, ay_ex_upd hT.1 x2, ay_ex_upd hT.1 x3, ?_⟩
  rw [e1, e3]
  unfold ay_M17 at x5 ⊢
  rw [ay_cnt_same (p := ay_fp (ay_at hp 188) (ay_at hp 174) (ay_at hp 176 0)) (n := 20) (fun i hi => by
    unfold ay_fp
    rw [hup, if_neg (by omega)])]
  exact x5
theorem axq0_gs30 : ax_RO ax_wM0 (ax_XM 0) axu0_gs30 := by
  intro ρ hp hE hT
  obtain ⟨x1, x2, x3, x5⟩ : ay_ex hp 188 ∧ ay_ex hp 174 ∧ ay_ex hp 176 ∧ ay_M17 (ρ 2) (ay_at hp 188) (ay_at hp 174) (ay_at hp 176 0) := (ax_XF_lt (x := 17) (Nat.le_of_ble_eq_true rfl)).mp (ax_gx hE (17, [11]) ax_m0)
  obtain ⟨j, hj, j1, j2, j3⟩ := ax_gi hE 1 2147483689 2147483750 (by decide) rfl
  obtain ⟨j4, j5⟩ := ax_bi_pos j1 (by omega)
  have d4 : ∀ z : Nat, 4 * z / 4 = z := fun z => by omega
  obtain ⟨o, ho⟩ := ay_some hT (q := 174) (g := 44) (n := 103) ax_cg_174 ax_cn_44 (j := ρ 1 / 4) (by omega)
  have hup := ay_upd_eq (a := 706) (i := ρ 1) (v := ρ 0) hT.1 (show 706 / 4 - 2 = 174 from rfl) ho
  have e1 : ay_at (ax_upd hp 706 (ρ 1) (ρ 0)) 188 = ay_at hp 188 := funext (fun j => ay_upd_ne hT.1 (by decide) j)
  have e3 : ay_at (ax_upd hp 706 (ρ 1) (ρ 0)) 176 = ay_at hp 176 := funext (fun j => ay_upd_ne hT.1 (by decide) j)
  refine ⟨(fun y hy => by cases hy), _, List.mem_cons_self, ρ, fun _ _ => rfl, ax_px hE rfl (fun y hy => ?_)⟩
  cases List.mem_singleton.mp hy
  show ax_XF (ax_XM 0) (500 + 17) [706, ρ 1, ρ 0, ρ 2] hp
  refine (ax_XF_wr (x := 17) (Nat.le_of_ble_eq_true rfl)).mpr ⟨ay_ex_upd hT.1 x1, ay_ex_upd hT.1 x2, ay_ex_upd hT.1 x3, ?_⟩
  rw [e1, e3]
  unfold ay_M17 at x5 ⊢
  rw [ay_cnt_same (p := ay_fp (ay_at hp 188) (ay_at hp 174) (ay_at hp 176 0)) (n := 20) (fun i hi => by
    unfold ay_fp
    rw [hup, if_neg (by omega)])]
  exact x5
theorem axq0_gs41 : ax_RO ax_wM0 (ax_XM 0) axu0_gs41 := by
  intro ρ hp hE hT
  obtain ⟨x1, x2, x3, x5⟩ : ay_ex hp 188 ∧ ay_ex hp 174 ∧ ay_ex hp 176 ∧ ay_M17 (ρ 2) (ay_at hp 188) (ay_at hp 174) (ay_at hp 176 0) := (ax_XF_lt (x := 17) (Nat.le_of_ble_eq_true rfl)).mp (ax_gx hE (17, [11]) ax_m0)
  obtain ⟨j, hj, j1, j2, j3⟩ := ax_gi hE 1 2147483689 2147483750 (by decide) rfl
  obtain ⟨j4, j5⟩ := ax_bi_pos j1 (by omega)
  have d4 : ∀ z : Nat, 4 * z / 4 = z := fun z => by omega
  obtain ⟨o, ho⟩ := ay_some hT (q := 174) (g := 44) (n := 103) ax_cg_174 ax_cn_44 (j := ρ 1 / 4) (by omega)
  have hup := ay_upd_eq (a := 706) (i := ρ 1) (v := ρ 0) hT.1 (show 706 / 4 - 2 = 174 from rfl) ho
  have e1 : ay_at (ax_upd hp 706 (ρ 1) (ρ 0)) 188 = ay_at hp 188 := funext (fun j => ay_upd_ne hT.1 (by decide) j)
  have e3 : ay_at (ax_upd hp 706 (ρ 1) (ρ 0)) 176 = ay_at hp 176 := funext (fun j => ay_upd_ne hT.1 (by decide) j)
  refine ⟨(fun y hy => by cases hy), _, List.mem_cons_self, ρ, fun _ _ => rfl, ax_px hE rfl (fun y hy => ?_)⟩
  cases List.mem_singleton.mp hy
  show ax_XF (ax_XM 0) (500 + 17) [706, ρ 1, ρ 0, ρ 2] hp
  refine (ax_XF_wr (x := 17) (Nat.le_of_ble_eq_true rfl)).mpr ⟨ay_ex_upd hT.1 x1, ay_ex_upd hT.1 x2, ay_ex_upd hT.1 x3, ?_⟩
  rw [e1, e3]
  unfold ay_M17 at x5 ⊢
  rw [ay_cnt_same (p := ay_fp (ay_at hp 188) (ay_at hp 174) (ay_at hp 176 0)) (n := 20) (fun i hi => by
    unfold ay_fp
    rw [hup, if_neg (by omega)])]
  exact x5
theorem axq0_gs86 : ax_RO ax_wM0 (ax_XM 0) axu0_gs86 := by
  intro ρ hp hE hT
  obtain ⟨x1, x2, x3, x5⟩ : ay_ex hp 188 ∧ ay_ex hp 174 ∧ ay_ex hp 176 ∧ ay_M17 (ρ 2) (ay_at hp 188) (ay_at hp 174) (ay_at hp 176 0) := (ax_XF_lt (x := 17) (Nat.le_of_ble_eq_true rfl)).mp (ax_gx hE (17, [11]) ax_m0)
  obtain ⟨j, hj, j1, j2, j3⟩ := ax_gi hE 1 2147483689 2147483750 (by decide) rfl
  obtain ⟨j4, j5⟩ := ax_bi_pos j1 (by omega)
  have d4 : ∀ z : Nat, 4 * z / 4 = z := fun z => by omega
  obtain ⟨o, ho⟩ := ay_some hT (q := 174) (g := 44) (n := 103) ax_cg_174 ax_cn_44 (j := ρ 1 / 4) (by omega)
  have hup := ay_upd_eq (a := 706) (i := ρ 1) (v := ρ 0) hT.1 (show 706 / 4 - 2 = 174 from rfl) ho
  have e1 : ay_at (ax_upd hp 706 (ρ 1) (ρ 0)) 188 = ay_at hp 188 := funext (fun j => ay_upd_ne hT.1 (by decide) j)
  have e3 : ay_at (ax_upd hp 706 (ρ 1) (ρ 0)) 176 = ay_at hp 176 := funext (fun j => ay_upd_ne hT.1 (by decide) j)
  refine ⟨(fun y hy => by cases hy), _, List.mem_cons_self, ρ, fun _ _ => rfl, ax_px hE rfl (fun y hy => ?_)⟩
  cases List.mem_singleton.mp hy
  show ax_XF (ax_XM 0) (500 + 17) [706, ρ 1, ρ 0, ρ 2] hp
  refine (ax_XF_wr (x := 17) (Nat.le_of_ble_eq_true rfl)).mpr ⟨ay_ex_upd hT.1 x1, ay_ex_upd hT.1 x2, ay_ex_upd hT.1 x3, ?_⟩
  rw [e1, e3]
  unfold ay_M17 at x5 ⊢
  rw [ay_cnt_same (p := ay_fp (ay_at hp 188) (ay_at hp 174) (ay_at hp 176 0)) (n := 20) (fun i hi => by
    unfold ay_fp
    rw [hup, if_neg (by omega)])]
  exact x5
theorem axq0_gs96 : ax_RO ax_wM0 (ax_XM 0) axu0_gs96 := by
  intro ρ hp hE hT
  obtain ⟨x1, x2, x3, x5⟩ : ay_ex hp 188 ∧ ay_ex hp 174 ∧ ay_ex hp 176 ∧ ay_M17 (ρ 2) (ay_at hp 188) (ay_at hp 174) (ay_at hp 176 0) := (ax_XF_lt (x := 17) (Nat.le_of_ble_eq_true rfl)).mp (ax_gx hE (17, [11]) ax_m0)
  obtain ⟨j, hj, j1, j2, j3⟩ := ax_gi hE 1 2147483689 2147483750 (by decide) rfl
  obtain ⟨j4, j5⟩ := ax_bi_pos j1 (by omega)
  have d4 : ∀ z : Nat, 4 * z / 4 = z := fun z => by omega
  obtain ⟨o, ho⟩ := ay_some hT (q := 174) (g := 44) (n := 103) ax_cg_174 ax_cn_44 (j := ρ 1 / 4) (by omega)
  have hup := ay_upd_eq (a := 706) (i := ρ 1) (v := ρ 0) hT.1 (show 706 / 4 - 2 = 174 from rfl) ho
  have e1 : ay_at (ax_upd hp 706 (ρ 1) (ρ 0)) 188 = ay_at hp 188 := funext (fun j => ay_upd_ne hT.1 (by decide) j)
  have e3 : ay_at (ax_upd hp 706 (ρ 1) (ρ 0)) 176 = ay_at hp 176 := funext (fun j => ay_upd_ne hT.1 (by decide) j)
  refine ⟨(fun y hy => by cases hy), _, List.mem_cons_self, ρ, fun _ _ => rfl, ax_px hE rfl (fun y hy => ?_)⟩
  cases List.mem_singleton.mp hy
  show ax_XF (ax_XM 0) (500 + 17) [706, ρ 1, ρ 0, ρ 2] hp
  refine (ax_XF_wr (x := 17) (Nat.le_of_ble_eq_true rfl)).mpr ⟨ay_ex_upd hT.1 x1, ay_ex_upd hT.1 x2, ay_ex_upd hT.1 x3, ?_⟩
  rw [e1, e3]
  unfold ay_M17 at x5 ⊢
  rw [ay_cnt_same (p := ay_fp (ay_at hp 188) (ay_at hp 174) (ay_at hp 176 0)) (n := 20) (fun i hi => by
    unfold ay_fp
    rw [hup, if_neg (by omega)])]
  exact x5
end
section
theorem axqg_lu0 {w : ax_W} {b : Nat} (hw : ax_WW w) : ax_RO w (ax_XM b) axu0_lu0 := by
  intro ρ hp hE hT
  refine ⟨(fun y hy => by cases hy), _, List.mem_cons_self, ρ, fun _ _ => rfl, ax_px hE rfl (fun y hy => ?_)⟩
  cases List.mem_singleton.mp hy
  refine (ax_XF_lt (x := 28) (Nat.le_of_ble_eq_true rfl)).mpr ⟨(ax_cellT hT (q := 191) (g := 61) (ax_wc hw ax_cg_191)), (ax_cellT hT (q := 181) (g := 51) (ax_wc hw ax_cg_181)), (ax_cellT hT (q := 174) (g := 44) (ax_wc hw ax_cg_174)), (ax_cellT hT (q := 176) (g := 46) (ax_wc hw ax_cg_176)), Or.inl ?_⟩
  show 2147483648 ≤ 17179869180 / 4
  decide
theorem axq0_lu0 : ax_RO ax_wM0 (ax_XM 0) axu0_lu0 := axqg_lu0 ax_WW0
theorem axq0_lu00 : ax_RO ax_wM0 (ax_XM 0) axu0_lu00 := by
  intro ρ hp hE hT
  obtain ⟨c, hc, c1, c2, c3⟩ := ax_gi hE 0 2147483648 2147483687 (by decide) rfl
  obtain ⟨c4, c5⟩ := ax_bi_pos c1 (by omega)
  obtain ⟨g, hg, g1, g2, g3⟩ := ax_gi hE 1 2147483648 2147483657 (by decide) rfl
  obtain ⟨g4, g5⟩ := ax_bi_pos g1 (by omega)
  obtain ⟨v, hv, v1, v2, v3⟩ := ax_gi hE 2 2147483648 2147483657 (by decide) rfl
  obtain ⟨v4, v5⟩ := ax_bi_pos v1 (by omega)
  obtain ⟨u, hu, u1, u2, u3⟩ := ax_gi hE 3 2147483648 2147483657 (by decide) rfl
  obtain ⟨u4, u5⟩ := ax_bi_pos u1 (by omega)
  obtain ⟨t, ht, t1, t2, t3⟩ := ax_gi hE 4 2147483648 2147483657 (by decide) rfl
  obtain ⟨t4, t5⟩ := ax_bi_pos t1 (by omega)
  obtain ⟨h, hh, h1, h2, h3⟩ := ax_gi hE 6 2147483648 2147583647 (by decide) rfl
  obtain ⟨h4, h5⟩ := ax_bi_pos h1 (by omega)
  obtain ⟨a, ha, a1, a2, a3⟩ := ax_gi hE 7 2147483648 2147583648 (by decide) rfl
  obtain ⟨a4, a5⟩ := ax_bi_pos a1 (by omega)
  obtain ⟨L, hL, L1, L2, L3⟩ := ax_gi hE 9 2147483648 2147483668 (by decide) rfl
  obtain ⟨L4, L5⟩ := ax_bi_pos L1 (by omega)
  obtain ⟨s, hs, s1, s2, s3⟩ := ax_gi hE 11 2147483648 2147483648 (by decide) rfl
  obtain ⟨s4, s5⟩ := ax_bi_pos s1 (by omega)
  have d4 : ∀ z : Nat, 4 * z / 4 = z := fun z => by omega
  obtain ⟨x, hx, xx1, xx2, xx3⟩ := ax_gi hE 5 0 4294967295 (by decide) rfl
  have hs0 : s = 0 := by omega
  have hq : ρ 12 = 4 * (c / 2) := ay_q hE 3 51 hc (by omega) (by decide)
  have hr := ay_r hE 3 55 hc (by omega) (by decide)
  have hj1 := ay_ix hE 0 51 59 63 55 67 (k := 0) (ax_vl_c (v := 0) (by decide)) (by decide) hq (by omega) hr (by omega) (by decide) (by decide) (by decide)
  have hr2 := ay_d hE 71 55 4 (c := 1) (by decide) hr (ax_vl_c (v := 4) (by decide)) (by omega) (by decide)
  have hj2 := ay_ix hE 0 51 59 63 71 75 (k := 0) (ax_vl_c (v := 0) (by decide)) (by decide) hq (by omega) hr2 (by omega) (by decide) (by decide) (by decide)
  have hjq : ρ 19 = 4 * (20 + c / 2) := ay_s hE 80 51 79 (a := 20) (by decide) (ax_vl_c (v := 80) (by decide)) hq (by decide) (by omega)
  have hk1 := ay_stt hE 7 83 15 87 91 47 95 hg (by omega) hu (by omega) hs (by omega) (by decide) (by decide) (by decide) (by decide)
  have hk2 := ay_stt hE 7 99 19 103 107 4 111 (S := 1) hg (by omega) ht (by omega) (ax_vl_c (by decide)) (by decide) (by decide) (by decide) (by decide) (by decide)
  have hsm : ρ 8 = 4 * (1 + a) := ay_s hE 4 31 35 (a := 1) (by decide) (ax_vl_c (v := 4) (by decide)) ha (by decide) (by omega)
  have f1 := ay_gf hE 734 75 19 181 ax_m9 (ax_vlq rfl rfl)
  have f2 := ay_gf hE 706 79 23 174 ax_m11 (ax_vlq rfl rfl)
  have f3 := ay_gf hE 774 95 27 191 ax_m17 (ax_vlq rfl rfl)
  have f4 := ay_gf hE 774 111 31 191 ax_m22 (ax_vlq rfl rfl)
  have f5 := ay_gfj hE 714 0 39 176 0 ax_m25 (ax_vlq rfl rfl) (ax_vlj rfl rfl)
  replace f1 : ay_at hp 181 (ax_vl ρ 75 / 4) = some (ρ 4) := f1
  replace f2 : ay_at hp 174 (ρ 19 / 4) = some (ρ 5) := f2
  replace f3 : ay_at hp 191 (ax_vl ρ 95 / 4) = some (ρ 6) := f3
  replace f4 : ay_at hp 191 (ax_vl ρ 111 / 4) = some (ρ 7) := f4
  replace f5 : ay_at hp 176 0 = some (ρ 9) := f5
  have huv : rx_bi (ρ 3 / 4) = rx_bi (ρ 2 / 4) := ax_gc hE 0 15 11 (by decide) (by decide)
  have htx : rx_bi (ρ 4 / 4) ≠ rx_bi (ρ 5 / 4) := ax_gc hE 1 19 23 (by decide) (by decide)
  have hhs : rx_bi (ρ 6 / 4) = rx_bi (ρ 8 / 4) := ax_gc hE 0 27 35 (by decide) (by decide)
  have hcm : rx_bi (ρ 0 / 4) < rx_bi (ρ 10 / 4) := ax_gc hE 2 3 43 (by decide) (by decide)
  obtain ⟨m, m1, m2, m3⟩ := ay_mk hE 2 8 39 43 (by decide) (by decide)
  rw [show ax_vl ρ 39 = ρ 9 from rfl, hL, d4, ax_vl_c (by decide)] at m1
  replace m1 : some (8 / 4 * L % 4294967296) = some m := m1
  have m1 := Option.some.inj m1
  replace m3 : ρ 10 = 4 * m := m3
  rw [hu, hv, d4, d4] at huv
  rw [hh, hsm, d4, d4, ax_bi_nat (c := 1 + a) (by omega)] at hhs
  rw [hc, m3, d4, d4, ax_bi_nat (c := m) (by omega)] at hcm
  rw [ht, hx, d4, d4] at htx
  rw [hj2, d4, ht] at f1
  rw [hjq, d4, hx] at f2
  rw [hk1, d4, hh] at f3
  rw [hk2, d4, ha] at f4
  have huve : u = v := by omega
  subst huve
  have hto : ay_at hp 181 (ay_to 0 c) = some (4 * t) := by
    unfold ay_to
    exact f1
  have hup : ay_up 0 (ay_at hp 181) (ay_at hp 174) c = false := by
    unfold ay_up
    rw [hto, f2]
    exact decide_eq_false (fun z => htx (by have := Option.some.inj z; rw [show t = x by omega]))
  have hbh : ay_bh s (ay_up 0 (ay_at hp 181) (ay_at hp 174) c) = 1 := by
    unfold ay_bh
    rw [hup, hs0]
    rfl
  have hc4 : ρ 0 / 4 = c := by omega
  have hg4 : ρ 1 / 4 = g := by omega
  have hv4 : ρ 2 / 4 = u := by omega
  have hs4 : ρ 11 / 4 = s := by omega
  refine ⟨(fun y hy => by cases hy), _, List.mem_cons_self, ρ, fun _ _ => rfl, ax_px hE rfl (fun y hy => ?_)⟩
  cases List.mem_singleton.mp hy
  refine (ax_XF_lt (x := 28) (Nat.le_of_ble_eq_true rfl)).mpr ⟨(ax_cellT hT (q := 191) (g := 61) ax_cg_191), (ax_cellT hT (q := 181) (g := 51) ax_cg_181), (ax_cellT hT (q := 174) (g := 44) ax_cg_174), (ax_cellT hT (q := 176) (g := 46) ax_cg_176), Or.inr ?_⟩
  show ay_led 0 (ay_at hp 191) (ay_at hp 181) (ay_at hp 174) (ay_at hp 176 0) (ρ 1 / 4) (ρ 2 / 4) (ρ 11 / 4) (ρ 0 / 4)
  rw [hc4, hg4, hv4, hs4]
  refine ⟨by omega, ?_, t, a, h, hto, by omega, ?_, f3, by omega, by omega⟩
  · rw [f5]
    show c < 2 * (ρ 9 / 4)
    omega
  · rw [hbh]
    exact f4
theorem axq0_lu01 : ax_RO ax_wM0 (ax_XM 0) axu0_lu01 := by
  intro ρ hp hE hT
  obtain ⟨c, hc, c1, c2, c3⟩ := ax_gi hE 0 2147483648 2147483687 (by decide) rfl
  obtain ⟨c4, c5⟩ := ax_bi_pos c1 (by omega)
  obtain ⟨g, hg, g1, g2, g3⟩ := ax_gi hE 1 2147483648 2147483657 (by decide) rfl
  obtain ⟨g4, g5⟩ := ax_bi_pos g1 (by omega)
  obtain ⟨v, hv, v1, v2, v3⟩ := ax_gi hE 2 2147483648 2147483657 (by decide) rfl
  obtain ⟨v4, v5⟩ := ax_bi_pos v1 (by omega)
  obtain ⟨u, hu, u1, u2, u3⟩ := ax_gi hE 3 2147483648 2147483657 (by decide) rfl
  obtain ⟨u4, u5⟩ := ax_bi_pos u1 (by omega)
  obtain ⟨t, ht, t1, t2, t3⟩ := ax_gi hE 4 2147483648 2147483657 (by decide) rfl
  obtain ⟨t4, t5⟩ := ax_bi_pos t1 (by omega)
  obtain ⟨h, hh, h1, h2, h3⟩ := ax_gi hE 6 2147483648 2147583647 (by decide) rfl
  obtain ⟨h4, h5⟩ := ax_bi_pos h1 (by omega)
  obtain ⟨a, ha, a1, a2, a3⟩ := ax_gi hE 7 2147483648 2147583648 (by decide) rfl
  obtain ⟨a4, a5⟩ := ax_bi_pos a1 (by omega)
  obtain ⟨L, hL, L1, L2, L3⟩ := ax_gi hE 9 2147483648 2147483668 (by decide) rfl
  obtain ⟨L4, L5⟩ := ax_bi_pos L1 (by omega)
  obtain ⟨s, hs, s1, s2, s3⟩ := ax_gi hE 11 2147483649 2147483649 (by decide) rfl
  obtain ⟨s4, s5⟩ := ax_bi_pos s1 (by omega)
  have d4 : ∀ z : Nat, 4 * z / 4 = z := fun z => by omega
  obtain ⟨x, hx, xx1, xx2, xx3⟩ := ax_gi hE 5 0 4294967295 (by decide) rfl
  have hs1 : s = 1 := by omega
  have hq : ρ 12 = 4 * (c / 2) := ay_q hE 3 51 hc (by omega) (by decide)
  have hr := ay_r hE 3 55 hc (by omega) (by decide)
  have hj1 := ay_ix hE 0 51 59 63 55 67 (k := 0) (ax_vl_c (v := 0) (by decide)) (by decide) hq (by omega) hr (by omega) (by decide) (by decide) (by decide)
  have hr2 := ay_d hE 71 55 4 (c := 1) (by decide) hr (ax_vl_c (v := 4) (by decide)) (by omega) (by decide)
  have hj2 := ay_ix hE 0 51 59 63 71 75 (k := 0) (ax_vl_c (v := 0) (by decide)) (by decide) hq (by omega) hr2 (by omega) (by decide) (by decide) (by decide)
  have hjq : ρ 19 = 4 * (20 + c / 2) := ay_s hE 80 51 79 (a := 20) (by decide) (ax_vl_c (v := 80) (by decide)) hq (by decide) (by omega)
  have hk1 := ay_stt hE 7 83 15 87 91 47 95 hg (by omega) hu (by omega) hs (by omega) (by decide) (by decide) (by decide) (by decide)
  have hk2 := ay_stt hE 7 99 19 103 107 4 111 (S := 1) hg (by omega) ht (by omega) (ax_vl_c (by decide)) (by decide) (by decide) (by decide) (by decide) (by decide)
  have hsm : ρ 8 = 4 * (1 + a) := ay_s hE 4 31 35 (a := 1) (by decide) (ax_vl_c (v := 4) (by decide)) ha (by decide) (by omega)
  have f1 := ay_gf hE 734 75 19 181 ax_m9 (ax_vlq rfl rfl)
  have f2 := ay_gf hE 706 79 23 174 ax_m11 (ax_vlq rfl rfl)
  have f3 := ay_gf hE 774 95 27 191 ax_m17 (ax_vlq rfl rfl)
  have f4 := ay_gf hE 774 111 31 191 ax_m22 (ax_vlq rfl rfl)
  have f5 := ay_gfj hE 714 0 39 176 0 ax_m25 (ax_vlq rfl rfl) (ax_vlj rfl rfl)
  replace f1 : ay_at hp 181 (ax_vl ρ 75 / 4) = some (ρ 4) := f1
  replace f2 : ay_at hp 174 (ρ 19 / 4) = some (ρ 5) := f2
  replace f3 : ay_at hp 191 (ax_vl ρ 95 / 4) = some (ρ 6) := f3
  replace f4 : ay_at hp 191 (ax_vl ρ 111 / 4) = some (ρ 7) := f4
  replace f5 : ay_at hp 176 0 = some (ρ 9) := f5
  have huv : rx_bi (ρ 3 / 4) = rx_bi (ρ 2 / 4) := ax_gc hE 0 15 11 (by decide) (by decide)
  have htx : rx_bi (ρ 4 / 4) ≠ rx_bi (ρ 5 / 4) := ax_gc hE 1 19 23 (by decide) (by decide)
  have hhs : rx_bi (ρ 6 / 4) = rx_bi (ρ 8 / 4) := ax_gc hE 0 27 35 (by decide) (by decide)
  have hcm : rx_bi (ρ 0 / 4) < rx_bi (ρ 10 / 4) := ax_gc hE 2 3 43 (by decide) (by decide)
  obtain ⟨m, m1, m2, m3⟩ := ay_mk hE 2 8 39 43 (by decide) (by decide)
  rw [show ax_vl ρ 39 = ρ 9 from rfl, hL, d4, ax_vl_c (by decide)] at m1
  replace m1 : some (8 / 4 * L % 4294967296) = some m := m1
  have m1 := Option.some.inj m1
  replace m3 : ρ 10 = 4 * m := m3
  rw [hu, hv, d4, d4] at huv
  rw [hh, hsm, d4, d4, ax_bi_nat (c := 1 + a) (by omega)] at hhs
  rw [hc, m3, d4, d4, ax_bi_nat (c := m) (by omega)] at hcm
  rw [ht, hx, d4, d4] at htx
  rw [hj2, d4, ht] at f1
  rw [hjq, d4, hx] at f2
  rw [hk1, d4, hh] at f3
  rw [hk2, d4, ha] at f4
  have huve : u = v := by omega
  subst huve
  have hto : ay_at hp 181 (ay_to 0 c) = some (4 * t) := by
    unfold ay_to
    exact f1
  have hup : ay_up 0 (ay_at hp 181) (ay_at hp 174) c = false := by
    unfold ay_up
    rw [hto, f2]
    exact decide_eq_false (fun z => htx (by have := Option.some.inj z; rw [show t = x by omega]))
  have hbh : ay_bh s (ay_up 0 (ay_at hp 181) (ay_at hp 174) c) = 1 := by
    unfold ay_bh
    rw [hup, hs1]
    rfl
  have hc4 : ρ 0 / 4 = c := by omega
  have hg4 : ρ 1 / 4 = g := by omega
  have hv4 : ρ 2 / 4 = u := by omega
  have hs4 : ρ 11 / 4 = s := by omega
  refine ⟨(fun y hy => by cases hy), _, List.mem_cons_self, ρ, fun _ _ => rfl, ax_px hE rfl (fun y hy => ?_)⟩
  cases List.mem_singleton.mp hy
  refine (ax_XF_lt (x := 28) (Nat.le_of_ble_eq_true rfl)).mpr ⟨(ax_cellT hT (q := 191) (g := 61) ax_cg_191), (ax_cellT hT (q := 181) (g := 51) ax_cg_181), (ax_cellT hT (q := 174) (g := 44) ax_cg_174), (ax_cellT hT (q := 176) (g := 46) ax_cg_176), Or.inr ?_⟩
  show ay_led 0 (ay_at hp 191) (ay_at hp 181) (ay_at hp 174) (ay_at hp 176 0) (ρ 1 / 4) (ρ 2 / 4) (ρ 11 / 4) (ρ 0 / 4)
  rw [hc4, hg4, hv4, hs4]
  refine ⟨by omega, ?_, t, a, h, hto, by omega, ?_, f3, by omega, by omega⟩
  · rw [f5]
    show c < 2 * (ρ 9 / 4)
    omega
  · rw [hbh]
    exact f4
theorem axq0_lu10 : ax_RO ax_wM0 (ax_XM 0) axu0_lu10 := by
  intro ρ hp hE hT
  obtain ⟨c, hc, c1, c2, c3⟩ := ax_gi hE 0 2147483648 2147483687 (by decide) rfl
  obtain ⟨c4, c5⟩ := ax_bi_pos c1 (by omega)
  obtain ⟨g, hg, g1, g2, g3⟩ := ax_gi hE 1 2147483648 2147483657 (by decide) rfl
  obtain ⟨g4, g5⟩ := ax_bi_pos g1 (by omega)
  obtain ⟨v, hv, v1, v2, v3⟩ := ax_gi hE 2 2147483648 2147483657 (by decide) rfl
  obtain ⟨v4, v5⟩ := ax_bi_pos v1 (by omega)
  obtain ⟨u, hu, u1, u2, u3⟩ := ax_gi hE 3 2147483648 2147483657 (by decide) rfl
  obtain ⟨u4, u5⟩ := ax_bi_pos u1 (by omega)
  obtain ⟨t, ht, t1, t2, t3⟩ := ax_gi hE 4 2147483648 2147483657 (by decide) rfl
  obtain ⟨t4, t5⟩ := ax_bi_pos t1 (by omega)
  obtain ⟨h, hh, h1, h2, h3⟩ := ax_gi hE 6 2147483648 2147583647 (by decide) rfl
  obtain ⟨h4, h5⟩ := ax_bi_pos h1 (by omega)
  obtain ⟨a, ha, a1, a2, a3⟩ := ax_gi hE 7 2147483648 2147583648 (by decide) rfl
  obtain ⟨a4, a5⟩ := ax_bi_pos a1 (by omega)
  obtain ⟨L, hL, L1, L2, L3⟩ := ax_gi hE 9 2147483648 2147483668 (by decide) rfl
  obtain ⟨L4, L5⟩ := ax_bi_pos L1 (by omega)
  obtain ⟨s, hs, s1, s2, s3⟩ := ax_gi hE 11 2147483648 2147483648 (by decide) rfl
  obtain ⟨s4, s5⟩ := ax_bi_pos s1 (by omega)
  have d4 : ∀ z : Nat, 4 * z / 4 = z := fun z => by omega
  obtain ⟨x, hx, xx1, xx2, xx3⟩ := ax_gi hE 5 0 4294967295 (by decide) rfl
  have hs0 : s = 0 := by omega
  have hq : ρ 12 = 4 * (c / 2) := ay_q hE 3 51 hc (by omega) (by decide)
  have hr := ay_r hE 3 55 hc (by omega) (by decide)
  have hj1 := ay_ix hE 0 51 59 63 55 67 (k := 0) (ax_vl_c (v := 0) (by decide)) (by decide) hq (by omega) hr (by omega) (by decide) (by decide) (by decide)
  have hr2 := ay_d hE 71 55 4 (c := 1) (by decide) hr (ax_vl_c (v := 4) (by decide)) (by omega) (by decide)
  have hj2 := ay_ix hE 0 51 59 63 71 75 (k := 0) (ax_vl_c (v := 0) (by decide)) (by decide) hq (by omega) hr2 (by omega) (by decide) (by decide) (by decide)
  have hjq : ρ 19 = 4 * (20 + c / 2) := ay_s hE 80 51 79 (a := 20) (by decide) (ax_vl_c (v := 80) (by decide)) hq (by decide) (by omega)
  have hk1 := ay_stt hE 7 83 15 87 91 47 95 hg (by omega) hu (by omega) hs (by omega) (by decide) (by decide) (by decide) (by decide)
  have hk2 := ay_stt hE 7 99 19 103 107 0 111 (S := 0) hg (by omega) ht (by omega) (ax_vl_c (by decide)) (by decide) (by decide) (by decide) (by decide) (by decide)
  have hsm : ρ 8 = 4 * (1 + a) := ay_s hE 4 31 35 (a := 1) (by decide) (ax_vl_c (v := 4) (by decide)) ha (by decide) (by omega)
  have f1 := ay_gf hE 734 75 19 181 ax_m9 (ax_vlq rfl rfl)
  have f2 := ay_gf hE 706 79 23 174 ax_m11 (ax_vlq rfl rfl)
  have f3 := ay_gf hE 774 95 27 191 ax_m17 (ax_vlq rfl rfl)
  have f4 := ay_gf hE 774 111 31 191 ax_m22 (ax_vlq rfl rfl)
  have f5 := ay_gfj hE 714 0 39 176 0 ax_m25 (ax_vlq rfl rfl) (ax_vlj rfl rfl)
  replace f1 : ay_at hp 181 (ax_vl ρ 75 / 4) = some (ρ 4) := f1
  replace f2 : ay_at hp 174 (ρ 19 / 4) = some (ρ 5) := f2
  replace f3 : ay_at hp 191 (ax_vl ρ 95 / 4) = some (ρ 6) := f3
  replace f4 : ay_at hp 191 (ax_vl ρ 111 / 4) = some (ρ 7) := f4
  replace f5 : ay_at hp 176 0 = some (ρ 9) := f5
  have huv : rx_bi (ρ 3 / 4) = rx_bi (ρ 2 / 4) := ax_gc hE 0 15 11 (by decide) (by decide)
  have htx : rx_bi (ρ 4 / 4) = rx_bi (ρ 5 / 4) := ax_gc hE 0 19 23 (by decide) (by decide)
  have hhs : rx_bi (ρ 6 / 4) = rx_bi (ρ 8 / 4) := ax_gc hE 0 27 35 (by decide) (by decide)
  have hcm : rx_bi (ρ 0 / 4) < rx_bi (ρ 10 / 4) := ax_gc hE 2 3 43 (by decide) (by decide)
  obtain ⟨m, m1, m2, m3⟩ := ay_mk hE 2 8 39 43 (by decide) (by decide)
  rw [show ax_vl ρ 39 = ρ 9 from rfl, hL, d4, ax_vl_c (by decide)] at m1
  replace m1 : some (8 / 4 * L % 4294967296) = some m := m1
  have m1 := Option.some.inj m1
  replace m3 : ρ 10 = 4 * m := m3
  rw [hu, hv, d4, d4] at huv
  rw [hh, hsm, d4, d4, ax_bi_nat (c := 1 + a) (by omega)] at hhs
  rw [hc, m3, d4, d4, ax_bi_nat (c := m) (by omega)] at hcm
  rw [ht, hx, d4, d4] at htx
  rw [hj2, d4, ht] at f1
  rw [hjq, d4, hx] at f2
  rw [hk1, d4, hh] at f3
  rw [hk2, d4, ha] at f4
  have huve : u = v := by omega
  subst huve
  have hto : ay_at hp 181 (ay_to 0 c) = some (4 * t) := by
    unfold ay_to
    exact f1
  have hup : ay_up 0 (ay_at hp 181) (ay_at hp 174) c = true := by
    unfold ay_up
    rw [hto, f2]
    exact decide_eq_true (by rw [ax_bi_def, ax_bi_def] at htx; rw [show t = x by omega])
  have hbh : ay_bh s (ay_up 0 (ay_at hp 181) (ay_at hp 174) c) = 0 := by
    unfold ay_bh
    rw [hup, hs0]
    rfl
  have hc4 : ρ 0 / 4 = c := by omega
  have hg4 : ρ 1 / 4 = g := by omega
  have hv4 : ρ 2 / 4 = u := by omega
  have hs4 : ρ 11 / 4 = s := by omega
  refine ⟨(fun y hy => by cases hy), _, List.mem_cons_self, ρ, fun _ _ => rfl, ax_px hE rfl (fun y hy => ?_)⟩
  cases List.mem_singleton.mp hy
  refine (ax_XF_lt (x := 28) (Nat.le_of_ble_eq_true rfl)).mpr ⟨(ax_cellT hT (q := 191) (g := 61) ax_cg_191), (ax_cellT hT (q := 181) (g := 51) ax_cg_181), (ax_cellT hT (q := 174) (g := 44) ax_cg_174), (ax_cellT hT (q := 176) (g := 46) ax_cg_176), Or.inr ?_⟩
  show ay_led 0 (ay_at hp 191) (ay_at hp 181) (ay_at hp 174) (ay_at hp 176 0) (ρ 1 / 4) (ρ 2 / 4) (ρ 11 / 4) (ρ 0 / 4)
  rw [hc4, hg4, hv4, hs4]
  refine ⟨by omega, ?_, t, a, h, hto, by omega, ?_, f3, by omega, by omega⟩
  · rw [f5]
    show c < 2 * (ρ 9 / 4)
    omega
  · rw [hbh]
    exact f4
theorem axq0_lu11 : ax_RO ax_wM0 (ax_XM 0) axu0_lu11 := by
  intro ρ hp hE hT
  obtain ⟨c, hc, c1, c2, c3⟩ := ax_gi hE 0 2147483648 2147483687 (by decide) rfl
  obtain ⟨c4, c5⟩ := ax_bi_pos c1 (by omega)
  obtain ⟨g, hg, g1, g2, g3⟩ := ax_gi hE 1 2147483648 2147483657 (by decide) rfl
  obtain ⟨g4, g5⟩ := ax_bi_pos g1 (by omega)
  obtain ⟨v, hv, v1, v2, v3⟩ := ax_gi hE 2 2147483648 2147483657 (by decide) rfl
  obtain ⟨v4, v5⟩ := ax_bi_pos v1 (by omega)
  obtain ⟨u, hu, u1, u2, u3⟩ := ax_gi hE 3 2147483648 2147483657 (by decide) rfl
  obtain ⟨u4, u5⟩ := ax_bi_pos u1 (by omega)
  obtain ⟨t, ht, t1, t2, t3⟩ := ax_gi hE 4 2147483648 2147483657 (by decide) rfl
  obtain ⟨t4, t5⟩ := ax_bi_pos t1 (by omega)
  obtain ⟨h, hh, h1, h2, h3⟩ := ax_gi hE 6 2147483648 2147583647 (by decide) rfl
  obtain ⟨h4, h5⟩ := ax_bi_pos h1 (by omega)
  obtain ⟨a, ha, a1, a2, a3⟩ := ax_gi hE 7 2147483648 2147583648 (by decide) rfl
  obtain ⟨a4, a5⟩ := ax_bi_pos a1 (by omega)
  obtain ⟨L, hL, L1, L2, L3⟩ := ax_gi hE 9 2147483648 2147483668 (by decide) rfl
  obtain ⟨L4, L5⟩ := ax_bi_pos L1 (by omega)
  obtain ⟨s, hs, s1, s2, s3⟩ := ax_gi hE 11 2147483649 2147483649 (by decide) rfl
  obtain ⟨s4, s5⟩ := ax_bi_pos s1 (by omega)
  have d4 : ∀ z : Nat, 4 * z / 4 = z := fun z => by omega
  obtain ⟨x, hx, xx1, xx2, xx3⟩ := ax_gi hE 5 0 4294967295 (by decide) rfl
  have hs1 : s = 1 := by omega
  have hq : ρ 12 = 4 * (c / 2) := ay_q hE 3 51 hc (by omega) (by decide)
  have hr := ay_r hE 3 55 hc (by omega) (by decide)
  have hj1 := ay_ix hE 0 51 59 63 55 67 (k := 0) (ax_vl_c (v := 0) (by decide)) (by decide) hq (by omega) hr (by omega) (by decide) (by decide) (by decide)
  have hr2 := ay_d hE 71 55 4 (c := 1) (by decide) hr (ax_vl_c (v := 4) (by decide)) (by omega) (by decide)
  have hj2 := ay_ix hE 0 51 59 63 71 75 (k := 0) (ax_vl_c (v := 0) (by decide)) (by decide) hq (by omega) hr2 (by omega) (by decide) (by decide) (by decide)
  have hjq : ρ 19 = 4 * (20 + c / 2) := ay_s hE 80 51 79 (a := 20) (by decide) (ax_vl_c (v := 80) (by decide)) hq (by decide) (by omega)
  have hk1 := ay_stt hE 7 83 15 87 91 47 95 hg (by omega) hu (by omega) hs (by omega) (by decide) (by decide) (by decide) (by decide)
  have hk2 := ay_stt hE 7 99 19 103 107 4 111 (S := 1) hg (by omega) ht (by omega) (ax_vl_c (by decide)) (by decide) (by decide) (by decide) (by decide) (by decide)
  have hsm : ρ 8 = 4 * (1 + a) := ay_s hE 4 31 35 (a := 1) (by decide) (ax_vl_c (v := 4) (by decide)) ha (by decide) (by omega)
  have f1 := ay_gf hE 734 75 19 181 ax_m9 (ax_vlq rfl rfl)
  have f2 := ay_gf hE 706 79 23 174 ax_m11 (ax_vlq rfl rfl)
  have f3 := ay_gf hE 774 95 27 191 ax_m17 (ax_vlq rfl rfl)
  have f4 := ay_gf hE 774 111 31 191 ax_m22 (ax_vlq rfl rfl)
  have f5 := ay_gfj hE 714 0 39 176 0 ax_m25 (ax_vlq rfl rfl) (ax_vlj rfl rfl)
  replace f1 : ay_at hp 181 (ax_vl ρ 75 / 4) = some (ρ 4) := f1
  replace f2 : ay_at hp 174 (ρ 19 / 4) = some (ρ 5) := f2
  replace f3 : ay_at hp 191 (ax_vl ρ 95 / 4) = some (ρ 6) := f3
  replace f4 : ay_at hp 191 (ax_vl ρ 111 / 4) = some (ρ 7) := f4
  replace f5 : ay_at hp 176 0 = some (ρ 9) := f5
  have huv : rx_bi (ρ 3 / 4) = rx_bi (ρ 2 / 4) := ax_gc hE 0 15 11 (by decide) (by decide)
  have htx : rx_bi (ρ 4 / 4) = rx_bi (ρ 5 / 4) := ax_gc hE 0 19 23 (by decide) (by decide)
  have hhs : rx_bi (ρ 6 / 4) = rx_bi (ρ 8 / 4) := ax_gc hE 0 27 35 (by decide) (by decide)
  have hcm : rx_bi (ρ 0 / 4) < rx_bi (ρ 10 / 4) := ax_gc hE 2 3 43 (by decide) (by decide)
  obtain ⟨m, m1, m2, m3⟩ := ay_mk hE 2 8 39 43 (by decide) (by decide)
  rw [show ax_vl ρ 39 = ρ 9 from rfl, hL, d4, ax_vl_c (by decide)] at m1
  replace m1 : some (8 / 4 * L % 4294967296) = some m := m1
  have m1 := Option.some.inj m1
  replace m3 : ρ 10 = 4 * m := m3
  rw [hu, hv, d4, d4] at huv
  rw [hh, hsm, d4, d4, ax_bi_nat (c := 1 + a) (by omega)] at hhs
  rw [hc, m3, d4, d4, ax_bi_nat (c := m) (by omega)] at hcm
  rw [ht, hx, d4, d4] at htx
  rw [hj2, d4, ht] at f1
  rw [hjq, d4, hx] at f2
  rw [hk1, d4, hh] at f3
  rw [hk2, d4, ha] at f4
  have huve : u = v := by omega
  subst huve
  have hto : ay_at hp 181 (ay_to 0 c) = some (4 * t) := by
    unfold ay_to
    exact f1
  have hup : ay_up 0 (ay_at hp 181) (ay_at hp 174) c = true := by
    unfold ay_up
    rw [hto, f2]
    exact decide_eq_true (by rw [ax_bi_def, ax_bi_def] at htx; rw [show t = x by omega])
  have hbh : ay_bh s (ay_up 0 (ay_at hp 181) (ay_at hp 174) c) = 1 := by
    unfold ay_bh
    rw [hup, hs1]
    rfl
  have hc4 : ρ 0 / 4 = c := by omega
  have hg4 : ρ 1 / 4 = g := by omega
  have hv4 : ρ 2 / 4 = u := by omega
  have hs4 : ρ 11 / 4 = s := by omega
  refine ⟨(fun y hy => by cases hy), _, List.mem_cons_self, ρ, fun _ _ => rfl, ax_px hE rfl (fun y hy => ?_)⟩
  cases List.mem_singleton.mp hy
  refine (ax_XF_lt (x := 28) (Nat.le_of_ble_eq_true rfl)).mpr ⟨(ax_cellT hT (q := 191) (g := 61) ax_cg_191), (ax_cellT hT (q := 181) (g := 51) ax_cg_181), (ax_cellT hT (q := 174) (g := 44) ax_cg_174), (ax_cellT hT (q := 176) (g := 46) ax_cg_176), Or.inr ?_⟩
  show ay_led 0 (ay_at hp 191) (ay_at hp 181) (ay_at hp 174) (ay_at hp 176 0) (ρ 1 / 4) (ρ 2 / 4) (ρ 11 / 4) (ρ 0 / 4)
  rw [hc4, hg4, hv4, hs4]
  refine ⟨by omega, ?_, t, a, h, hto, by omega, ?_, f3, by omega, by omega⟩
  · rw [f5]
    show c < 2 * (ρ 9 / 4)
    omega
  · rw [hbh]
    exact f4
theorem axqg_lt0 {w : ax_W} {b : Nat} (hw : ax_WW w) : ax_RO w (ax_XM b) axu0_lt0 := by
  intro ρ hp hE hT
  refine ⟨(fun y hy => by cases hy), _, List.mem_cons_self, ρ, fun _ _ => rfl, ax_px hE rfl (fun y hy => ?_)⟩
  cases List.mem_singleton.mp hy
  refine (ax_XF_lt (x := 29) (Nat.le_of_ble_eq_true rfl)).mpr ⟨(ax_cellT hT (q := 194) (g := 64) (ax_wc hw ax_cg_194)), (ax_cellT hT (q := 191) (g := 61) (ax_wc hw ax_cg_191)), (ax_cellT hT (q := 181) (g := 51) (ax_wc hw ax_cg_181)), (ax_cellT hT (q := 174) (g := 44) (ax_wc hw ax_cg_174)), (ax_cellT hT (q := 175) (g := 45) (ax_wc hw ax_cg_175)), (ax_cellT hT (q := 176) (g := 46) (ax_wc hw ax_cg_176)), fun g' v' s' h => ?_⟩
  rw [show ax_vl ρ 0 = 0 from rfl] at h
  unfold ay_lx at h
  omega
theorem axq0_lt0 : ax_RO ax_wM0 (ax_XM 0) axu0_lt0 := axqg_lt0 ax_WW0
noncomputable def ay_no0 (hp : rx_H) : Nat := ay_ln (ay_at hp 175 0)
theorem ay_no0_le {hp : rx_H} (hT : ax_HT ax_wM0 hp) : ay_ln (ay_at hp 175 0) ≤ 10 := by
  obtain ⟨k', n', tl, f', b1, b2, b3, b4⟩ := hT.2 175 45 rfl
  rw [ay_eq b2]
  cases e : f'[0]? with
  | none => exact Nat.zero_le _
  | some v =>
    obtain ⟨t, t1, t2⟩ := b4 0 v e
    have hb : (ax_wM0.2.1[45]?).map (fun z => ax_at z.2.2 0) = some (some (0, 2147483648, 2147483658)) := rfl
    rw [show ax_wM0.2.1[45]? = some (k', n', tl) from b1] at hb
    have hb := Option.some.inj hb
    replace hb : ax_at tl 0 = some (0, 2147483648, 2147483658) := hb
    rw [t1] at hb
    have hb := Option.some.inj hb
    subst hb
    rcases t2 with ⟨-, q1, q2, q3, q4⟩ | ⟨q, -⟩ | ⟨q, -⟩ | ⟨q, -⟩
    · obtain ⟨r1, r2⟩ := ax_bi_pos q2 q3
      show v / 4 ≤ 10
      replace q4 : rx_bi (v / 4) ≤ 2147483658 := q4
      omega
    · cases q
    · cases q
    · cases q
theorem axq0_ltS : ax_RO ax_wM0 (ax_XM 0) axu0_ltS := by
  intro ρ hp hE hT
  obtain ⟨x1, x2, x3, x4, x5, x6, x7⟩ : ay_ex hp 194 ∧ ay_ex hp 191 ∧ ay_ex hp 181 ∧ ay_ex hp 174 ∧ ay_ex hp 175 ∧ ay_ex hp 176 ∧ ay_M29 0 (ρ 2) (ρ 3) (ρ 4) (ay_at hp 194) (ay_at hp 191) (ay_at hp 181) (ay_at hp 174) (ay_at hp 175 0) (ay_at hp 176 0) := (ax_XF_lt (x := 29) (Nat.le_of_ble_eq_true rfl)).mp (ax_gx hE (29, [11, 15, 19]) ax_m0)
  obtain ⟨g, hg, g1, g2, g3⟩ := ax_gi hE 2 2147483648 2147483657 (by decide) rfl
  obtain ⟨g4, g5⟩ := ax_bi_pos g1 (by omega)
  obtain ⟨v, hv, v1, v2, v3⟩ := ax_gi hE 3 2147483648 2147483657 (by decide) rfl
  obtain ⟨v4, v5⟩ := ax_bi_pos v1 (by omega)
  obtain ⟨s, hs, s1, s2, s3⟩ := ax_gi hE 4 2147483648 2147483649 (by decide) rfl
  obtain ⟨s4, s5⟩ := ax_bi_pos s1 (by omega)
  have d4 : ∀ z : Nat, 4 * z / 4 = z := fun z => by omega
  obtain ⟨-, -, -, -, y5⟩ : ay_ex hp 191 ∧ ay_ex hp 181 ∧ ay_ex hp 174 ∧ ay_ex hp 176 ∧ ay_M28 0 (ρ 2) (ρ 3) (ρ 4) (ρ 0) (ay_at hp 191) (ay_at hp 181) (ay_at hp 174) (ay_at hp 176 0) := (ax_XF_lt (x := 28) (Nat.le_of_ble_eq_true rfl)).mp (ax_gx hE (28, [11, 15, 19, 3]) ax_m1)
  have hc28 : ρ 0 / 4 < 2147483648 → ρ 0 % 4 = 0 → ay_led 0 (ay_at hp 191) (ay_at hp 181) (ay_at hp 174) (ay_at hp 176 0) g v s (ρ 0 / 4) := by
    intro h1 _
    rcases y5 with y5 | y5
    · omega
    · rw [hg, hv, hs, d4, d4, d4] at y5
      exact y5
  have hk : ρ 1 = 4 * ay_k g v s := ay_stt hE 11 23 15 27 31 19 7 hg (by omega) hv (by omega) hs (by omega) (by decide) (by decide) (by decide) (by decide)
  obtain ⟨nv, hnv⟩ := ay_some hT (q := 175) (g := 45) (n := 2) ax_cg_175 ax_cn_45 (j := 0) (by decide)
  have hno : ay_ln (ay_at hp 175 0) ≤ 10 := by
    obtain ⟨nn, hnn⟩ : ∃ nn, ay_no0 hp = nn := ⟨_, rfl⟩
    exact ay_no0_le hT
  obtain ⟨o, ho⟩ := ay_some hT (q := 194) (g := 64) (n := 200) ax_cg_194 ax_cn_64 (j := ρ 1 / 4) (by rw [hk, d4]; unfold ay_k; omega)
  have hup : ∀ j, ay_at (ax_upd hp 786 (ρ 1) (ρ 0)) 194 j = if j = ay_k g v s then some (ρ 0) else ay_at hp 194 j := fun j => by
    rw [ay_upd_eq hT.1 rfl ho, hk, d4]
  have e1 : ay_at (ax_upd hp 786 (ρ 1) (ρ 0)) 191 = ay_at hp 191 := funext (fun j => ay_upd_ne hT.1 (by decide) j)
  have e2 : ay_at (ax_upd hp 786 (ρ 1) (ρ 0)) 181 = ay_at hp 181 := funext (fun j => ay_upd_ne hT.1 (by decide) j)
  have e3 : ay_at (ax_upd hp 786 (ρ 1) (ρ 0)) 174 = ay_at hp 174 := funext (fun j => ay_upd_ne hT.1 (by decide) j)
  have e4 : ay_at (ax_upd hp 786 (ρ 1) (ρ 0)) 175 = ay_at hp 175 := funext (fun j => ay_upd_ne hT.1 (by decide) j)
  have e5 : ay_at (ax_upd hp 786 (ρ 1) (ρ 0)) 176 = ay_at hp 176 := funext (fun j => ay_upd_ne hT.1 (by decide) j)
  rw [hg, hv, hs] at x7
  refine ⟨(fun y hy => by cases hy), _, List.mem_cons_self, ρ, fun _ _ => rfl, ax_px hE rfl (fun y hy => ?_)⟩
  cases List.mem_singleton.mp hy
  show ax_XF (ax_XM 0) (500 + 30) [786, ρ 1, ρ 0, ρ 2, ρ 3, ρ 4] hp
  refine (ax_XF_wr (x := 30) (Nat.le_of_ble_eq_true rfl)).mpr ⟨ay_ex_upd hT.1 x1, ay_ex_upd hT.1 x2, ay_ex_upd hT.1 x3, ay_ex_upd hT.1 x4, ay_ex_upd hT.1 x5, ay_ex_upd hT.1 x6, ?_⟩
  rw [e1, e2, e3, e4, e5, hg, hv, hs]
  exact ay_ent (by omega) (by omega) (by omega) hno hup x7 hc28
theorem axq0_ltM : ax_RO ax_wM0 (ax_XM 0) axu0_ltM := by
  intro ρ hp hE hT
  obtain ⟨x1, x2, x3, x4, x5, x6, x7⟩ : ay_ex hp 194 ∧ ay_ex hp 191 ∧ ay_ex hp 181 ∧ ay_ex hp 174 ∧ ay_ex hp 175 ∧ ay_ex hp 176 ∧ ay_M29 0 (ρ 1) (ρ 2) (ρ 3) (ay_at hp 194) (ay_at hp 191) (ay_at hp 181) (ay_at hp 174) (ay_at hp 175 0) (ay_at hp 176 0) := (ax_XF_lt (x := 29) (Nat.le_of_ble_eq_true rfl)).mp (ax_gx hE (29, [7, 11, 15]) ax_m0)
  obtain ⟨g, hg, g1, g2, g3⟩ := ax_gi hE 1 2147483648 2147483657 (by decide) rfl
  obtain ⟨g4, g5⟩ := ax_bi_pos g1 (by omega)
  obtain ⟨v, hv, v1, v2, v3⟩ := ax_gi hE 2 2147483648 2147483657 (by decide) rfl
  obtain ⟨v4, v5⟩ := ax_bi_pos v1 (by omega)
  obtain ⟨s, hs, s1, s2, s3⟩ := ax_gi hE 3 2147483648 2147483649 (by decide) rfl
  obtain ⟨s4, s5⟩ := ax_bi_pos s1 (by omega)
  have d4 : ∀ z : Nat, 4 * z / 4 = z := fun z => by omega
  have hc28 : 17179869180 / 4 < 2147483648 → 17179869180 % 4 = 0 → ay_led 0 (ay_at hp 191) (ay_at hp 181) (ay_at hp 174) (ay_at hp 176 0) g v s (17179869180 / 4) := by
    intro h1 _
    exact absurd h1 (by decide)
  have hk : ρ 0 = 4 * ay_k g v s := ay_stt hE 7 19 11 23 27 15 3 hg (by omega) hv (by omega) hs (by omega) (by decide) (by decide) (by decide) (by decide)
  obtain ⟨nv, hnv⟩ := ay_some hT (q := 175) (g := 45) (n := 2) ax_cg_175 ax_cn_45 (j := 0) (by decide)
  have hno : ay_ln (ay_at hp 175 0) ≤ 10 := by
    obtain ⟨nn, hnn⟩ : ∃ nn, ay_no0 hp = nn := ⟨_, rfl⟩
    exact ay_no0_le hT
  obtain ⟨o, ho⟩ := ay_some hT (q := 194) (g := 64) (n := 200) ax_cg_194 ax_cn_64 (j := ρ 0 / 4) (by rw [hk, d4]; unfold ay_k; omega)
  have hup : ∀ j, ay_at (ax_upd hp 786 (ρ 0) (17179869180)) 194 j = if j = ay_k g v s then some (17179869180) else ay_at hp 194 j := fun j => by
    rw [ay_upd_eq hT.1 rfl ho, hk, d4]
  have e1 : ay_at (ax_upd hp 786 (ρ 0) (17179869180)) 191 = ay_at hp 191 := funext (fun j => ay_upd_ne hT.1 (by decide) j)
  have e2 : ay_at (ax_upd hp 786 (ρ 0) (17179869180)) 181 = ay_at hp 181 := funext (fun j => ay_upd_ne hT.1 (by decide) j)
  have e3 : ay_at (ax_upd hp 786 (ρ 0) (17179869180)) 174 = ay_at hp 174 := funext (fun j => ay_upd_ne hT.1 (by decide) j)
  have e4 : ay_at (ax_upd hp 786 (ρ 0) (17179869180)) 175 = ay_at hp 175 := funext (fun j => ay_upd_ne hT.1 (by decide) j)
  have e5 : ay_at (ax_upd hp 786 (ρ 0) (17179869180)) 176 = ay_at hp 176 := funext (fun j => ay_upd_ne hT.1 (by decide) j)
  rw [hg, hv, hs] at x7
  refine ⟨(fun y hy => by cases hy), _, List.mem_cons_self, ρ, fun _ _ => rfl, ax_px hE rfl (fun y hy => ?_)⟩
  cases List.mem_singleton.mp hy
  show ax_XF (ax_XM 0) (500 + 30) [786, ρ 0, 17179869180, ρ 1, ρ 2, ρ 3] hp
  refine (ax_XF_wr (x := 30) (Nat.le_of_ble_eq_true rfl)).mpr ⟨ay_ex_upd hT.1 x1, ay_ex_upd hT.1 x2, ay_ex_upd hT.1 x3, ay_ex_upd hT.1 x4, ay_ex_upd hT.1 x5, ay_ex_upd hT.1 x6, ?_⟩
  rw [e1, e2, e3, e4, e5, hg, hv, hs]
  exact ay_ent (by omega) (by omega) (by omega) hno hup x7 hc28
theorem axq0_ltA : ax_RO ax_wM0 (ax_XM 0) axu0_ltA := by
  intro ρ hp hE hT
  obtain ⟨x1, x2, x3, x4, x5, x6, x7⟩ : ay_ex hp 194 ∧ ay_ex hp 191 ∧ ay_ex hp 181 ∧ ay_ex hp 174 ∧ ay_ex hp 175 ∧ ay_ex hp 176 ∧ ay_M30 0 (ρ 0) (ρ 1) (ρ 2) (ay_at hp 194) (ay_at hp 191) (ay_at hp 181) (ay_at hp 174) (ay_at hp 175 0) (ay_at hp 176 0) := (ax_XF_lt (x := 30) (Nat.le_of_ble_eq_true rfl)).mp (ax_gx hE (30, [3, 7, 11]) ax_m0)
  obtain ⟨s, hs, s1, s2, s3⟩ := ax_gi hE 2 2147483648 2147483649 (by decide) rfl
  obtain ⟨s4, s5⟩ := ax_bi_pos s1 (by omega)
  have h2 : ρ 3 = 4 * (s + 1) := ay_s hE 11 4 15 (b := 1) (by decide) hs (ax_vl_c (v := 4) (by decide)) (by omega) (by decide)
  refine ⟨(fun y hy => by cases hy), _, List.mem_cons_self, ρ, fun _ _ => rfl, ax_px hE rfl (fun y hy => ?_)⟩
  cases List.mem_singleton.mp hy
  refine (ax_XF_lt (x := 29) (Nat.le_of_ble_eq_true rfl)).mpr ⟨x1, x2, x3, x4, x5, x6, fun g' v' s' h => ?_⟩
  replace h : ay_lx g' v' s' (ρ 0 / 4) (ρ 1 / 4) (ρ 3 / 4) := h
  rw [show ρ 3 / 4 = ρ 2 / 4 + 1 by omega] at h
  exact x7 g' v' s' h
theorem axq0_ltB : ax_RO ax_wM0 (ax_XM 0) axu0_ltB := by
  intro ρ hp hE hT
  obtain ⟨x1, x2, x3, x4, x5, x6, x7⟩ : ay_ex hp 194 ∧ ay_ex hp 191 ∧ ay_ex hp 181 ∧ ay_ex hp 174 ∧ ay_ex hp 175 ∧ ay_ex hp 176 ∧ ay_M29 0 (ρ 0) (ρ 1) (ρ 2) (ay_at hp 194) (ay_at hp 191) (ay_at hp 181) (ay_at hp 174) (ay_at hp 175 0) (ay_at hp 176 0) := (ax_XF_lt (x := 29) (Nat.le_of_ble_eq_true rfl)).mp (ax_gx hE (29, [3, 7, 11]) ax_m0)
  obtain ⟨v, hv, v1, v2, v3⟩ := ax_gi hE 1 2147483648 2147483657 (by decide) rfl
  obtain ⟨v4, v5⟩ := ax_bi_pos v1 (by omega)
  obtain ⟨s, hs, s1, s2, s3⟩ := ax_gi hE 2 2147483650 4294967295 (by decide) rfl
  obtain ⟨s4, s5⟩ := ax_bi_pos s1 (by omega)
  have h2 : ρ 3 = 4 * (v + 1) := ay_s hE 7 4 15 (b := 1) (by decide) hv (ax_vl_c (v := 4) (by decide)) (by omega) (by decide)
  refine ⟨(fun y hy => by cases hy), _, List.mem_cons_self, ρ, fun _ _ => rfl, ax_px hE rfl (fun y hy => ?_)⟩
  cases List.mem_singleton.mp hy
  refine (ax_XF_lt (x := 29) (Nat.le_of_ble_eq_true rfl)).mpr ⟨x1, x2, x3, x4, x5, x6, fun g' v' s' h h' h'' => ?_⟩
  replace h : ay_lx g' v' s' (ρ 0 / 4) (ρ 3 / 4) (0 / 4) := h
  refine x7 g' v' s' ?_ h' h''
  unfold ay_lx at h ⊢
  omega
theorem axq0_ltC : ax_RO ax_wM0 (ax_XM 0) axu0_ltC := by
  intro ρ hp hE hT
  obtain ⟨x1, x2, x3, x4, x5, x6, x7⟩ : ay_ex hp 194 ∧ ay_ex hp 191 ∧ ay_ex hp 181 ∧ ay_ex hp 174 ∧ ay_ex hp 175 ∧ ay_ex hp 176 ∧ ay_M29 0 (ρ 0) (ρ 1) 0 (ay_at hp 194) (ay_at hp 191) (ay_at hp 181) (ay_at hp 174) (ay_at hp 175 0) (ay_at hp 176 0) := (ax_XF_lt (x := 29) (Nat.le_of_ble_eq_true rfl)).mp (ax_gx hE (29, [3, 7, 0]) ax_m0)
  obtain ⟨g, hg, g1, g2, g3⟩ := ax_gi hE 0 2147483648 2147483657 (by decide) rfl
  obtain ⟨g4, g5⟩ := ax_bi_pos g1 (by omega)
  obtain ⟨v, hv, v1, v2, v3⟩ := ax_gi hE 1 2147483648 2147483658 (by decide) rfl
  obtain ⟨v4, v5⟩ := ax_bi_pos v1 (by omega)
  obtain ⟨n, hn, n1, n2, n3⟩ := ax_gi hE 3 2147483648 2147483658 (by decide) rfl
  obtain ⟨n4, n5⟩ := ax_bi_pos n1 (by omega)
  have d4 : ∀ z : Nat, 4 * z / 4 = z := fun z => by omega
  have h2 : ρ 2 = 4 * (g + 1) := ay_s hE 3 4 11 (b := 1) (by decide) hg (ax_vl_c (v := 4) (by decide)) (by omega) (by decide)
  have f1 := ay_gfj hE 710 0 15 175 0 ax_m1 (ax_vlq rfl rfl) (ax_vlj rfl rfl)
  replace f1 : ay_at hp 175 0 = some (ρ 3) := f1
  have hge : rx_bi (ρ 3 / 4) ≤ rx_bi (ρ 1 / 4) := ax_gc hE 3 7 15 (by decide) (by decide)
  rw [hn, hv, d4, d4] at hge
  refine ⟨(fun y hy => by cases hy), _, List.mem_cons_self, ρ, fun _ _ => rfl, ax_px hE rfl (fun y hy => ?_)⟩
  cases List.mem_singleton.mp hy
  refine (ax_XF_lt (x := 29) (Nat.le_of_ble_eq_true rfl)).mpr ⟨x1, x2, x3, x4, x5, x6, fun g' v' s' h h' h'' => ?_⟩
  replace h : ay_lx g' v' s' (ρ 2 / 4) (0 / 4) (0 / 4) := h
  refine x7 g' v' s' ?_ h' h''
  rw [f1] at h'
  replace h' : v' < ρ 3 / 4 := h'
  unfold ay_lx at h ⊢
  omega
theorem axq0_ltR : ax_RO ax_wM0 (ax_XM 0) axu0_ltR := by
  intro ρ hp hE hT
  obtain ⟨x1, x2, x3, x4, x5, x6, x7⟩ : ay_ex hp 194 ∧ ay_ex hp 191 ∧ ay_ex hp 181 ∧ ay_ex hp 174 ∧ ay_ex hp 175 ∧ ay_ex hp 176 ∧ ay_M29 0 (ρ 0) 0 0 (ay_at hp 194) (ay_at hp 191) (ay_at hp 181) (ay_at hp 174) (ay_at hp 175 0) (ay_at hp 176 0) := (ax_XF_lt (x := 29) (Nat.le_of_ble_eq_true rfl)).mp (ax_gx hE (29, [3, 0, 0]) ax_m0)
  obtain ⟨g, hg, g1, g2, g3⟩ := ax_gi hE 0 2147483648 2147483658 (by decide) rfl
  obtain ⟨g4, g5⟩ := ax_bi_pos g1 (by omega)
  obtain ⟨n, hn, n1, n2, n3⟩ := ax_gi hE 1 2147483648 2147483658 (by decide) rfl
  obtain ⟨n4, n5⟩ := ax_bi_pos n1 (by omega)
  have d4 : ∀ z : Nat, 4 * z / 4 = z := fun z => by omega
  have f1 := ay_gfj hE 710 0 7 175 0 ax_m1 (ax_vlq rfl rfl) (ax_vlj rfl rfl)
  replace f1 : ay_at hp 175 0 = some (ρ 1) := f1
  have hge : rx_bi (ρ 1 / 4) ≤ rx_bi (ρ 0 / 4) := ax_gc hE 3 3 7 (by decide) (by decide)
  rw [hn, hg, d4, d4] at hge
  refine ⟨(fun y hy => by cases hy), _, List.mem_cons_self, ρ, fun _ _ => rfl, ax_px hE rfl (fun y hy => ?_)⟩
  cases List.mem_singleton.mp hy
  refine (ax_XF_lt (x := 24) (Nat.le_of_ble_eq_true rfl)).mpr ⟨x1, x2, x3, x4, x5, x6, fun g' v' s' h1 h2 h3 => ?_⟩
  refine x7 g' v' s' ?_ h2 h3
  rw [f1] at h1
  replace h1 : g' < ρ 1 / 4 := h1
  unfold ay_lx
  omega
theorem axq0_pa0 : ax_RO ax_wM0 (ax_XM 0) axu0_pa0 := by
  intro ρ hp hE hT
  obtain ⟨f, hf, f1, f2, f3⟩ := ax_gi hE 0 2147483648 2147483657 (by decide) rfl
  obtain ⟨f4, f5⟩ := ax_bi_pos f1 (by omega)
  obtain ⟨t, ht, t1, t2, t3⟩ := ax_gi hE 1 2147483648 2147483657 (by decide) rfl
  obtain ⟨t4, t5⟩ := ax_bi_pos t1 (by omega)
  have d4 : ∀ z : Nat, 4 * z / 4 = z := fun z => by omega
  have hk := ay_stt hE 7 19 3 23 27 0 31 (S := 0) ht (by omega) hf (by omega) (ax_vl_c (by decide)) (by decide) (by decide) (by decide) (by decide) (by decide)
  have f1 := ay_gf hE 786 31 11 194 ax_m4 (ax_vlq rfl rfl)
  replace f1 : ay_at hp 194 (ax_vl ρ 31 / 4) = some (ρ 2) := f1
  rw [hk, d4] at f1
  refine ⟨(fun y hy => by cases hy), _, List.mem_cons_self, ρ, fun _ _ => rfl, ax_px hE rfl (fun y hy => ?_)⟩
  cases List.mem_singleton.mp hy
  refine (ax_XF_lt (x := 31) (Nat.le_of_ble_eq_true rfl)).mpr ⟨(ax_cellT hT (q := 194) (g := 64) ax_cg_194), (ax_cellT hT (q := 181) (g := 51) ax_cg_181), (ax_cellT hT (q := 174) (g := 44) ax_cg_174), ?_⟩
  show ay_M31 0 (ρ 0) (ρ 1) (ρ 3) 0 (ρ 0) 0 (ρ 2) (ay_at hp 194) (ay_at hp 181) (ay_at hp 174)
  refine ⟨fun _ => Nat.zero_le _, ?_⟩
  show (ρ 0 / 4, 0, ay_at hp 194 (ay_k (ρ 1 / 4) (ρ 0 / 4) 0)) = (ρ 0 / 4, 0, some (ρ 2))
  rw [show ρ 1 / 4 = t by omega, show ρ 0 / 4 = f by omega, f1]
theorem axq0_pb00 : ax_RO ax_wM0 (ax_XM 0) axu0_pb00 := by
  intro ρ hp hE hT
  obtain ⟨x1, x2, x3, x4, x5⟩ : ay_ex hp 194 ∧ ay_ex hp 181 ∧ ay_ex hp 174 ∧ ay_M31 0 (ρ 0) (ρ 1) (ρ 8) (ρ 2) (ρ 3) (ρ 4) (ρ 5) (ay_at hp 194) (ay_at hp 181) (ay_at hp 174) := (ax_XF_lt (x := 31) (Nat.le_of_ble_eq_true rfl)).mp (ax_gx hE (31, [3, 7, 35, 11, 15, 19, 23]) ax_m0)
  obtain ⟨n, hn, n1, n2, n3⟩ := ax_gi hE 2 2147483648 4294967295 (by decide) rfl
  obtain ⟨n4, n5⟩ := ax_bi_pos n1 (by omega)
  obtain ⟨s, hs, s1, s2, s3⟩ := ax_gi hE 4 2147483648 2147483648 (by decide) rfl
  obtain ⟨s4, s5⟩ := ax_bi_pos s1 (by omega)
  obtain ⟨c, hc, c1, c2, c3⟩ := ax_gi hE 5 2147483648 2147483687 (by decide) rfl
  obtain ⟨c4, c5⟩ := ax_bi_pos c1 (by omega)
  obtain ⟨t, ht, t1, t2, t3⟩ := ax_gi hE 6 2147483648 2147483657 (by decide) rfl
  obtain ⟨t4, t5⟩ := ax_bi_pos t1 (by omega)
  have d4 : ∀ z : Nat, 4 * z / 4 = z := fun z => by omega
  obtain ⟨x, hx, xx1, xx2, xx3⟩ := ax_gi hE 7 0 4294967295 (by decide) rfl
  obtain ⟨i, hi, i1, i2, i3⟩ := ax_gi hE 8 0 4294967295 (by decide) rfl
  have hlt : rx_bi (ρ 2 / 4) < rx_bi (ρ 8 / 4) := ax_gc hE 2 11 35 (by decide) (by decide)
  rw [hn, hi, d4, d4, n5, ax_bi_def] at hlt
  have hs0 : s = 0 := by omega
  have hq : ρ 9 = 4 * (c / 2) := ay_q hE 23 39 hc (by omega) (by decide)
  have hr := ay_r hE 23 43 hc (by omega) (by decide)
  have hr2 := ay_d hE 59 43 4 (c := 1) (by decide) hr (ax_vl_c (v := 4) (by decide)) (by omega) (by decide)
  have hj2 := ay_ix hE 0 39 47 51 59 55 (k := 0) (ax_vl_c (v := 0) (by decide)) (by decide) hq (by omega) hr2 (by omega) (by decide) (by decide) (by decide)
  have hjq : ρ 15 = 4 * (20 + c / 2) := ay_s hE 80 39 63 (a := 20) (by decide) (ax_vl_c (v := 80) (by decide)) hq (by decide) (by omega)
  have f1 := ay_gf hE 734 55 27 181 ax_m8 (ax_vlq rfl rfl)
  have f2 := ay_gf hE 706 63 31 174 ax_m10 (ax_vlq rfl rfl)
  replace f1 : ay_at hp 181 (ax_vl ρ 55 / 4) = some (ρ 6) := f1
  replace f2 : ay_at hp 174 (ρ 15 / 4) = some (ρ 7) := f2
  have htx : rx_bi (ρ 6 / 4) ≠ rx_bi (ρ 7 / 4) := ax_gc hE 1 27 31 (by decide) (by decide)
  rw [ht, hx, d4, d4] at htx
  rw [hj2, d4, ht] at f1
  rw [hjq, d4, hx] at f2
  have hto : ay_at hp 181 (ay_to 0 c) = some (4 * t) := by
    unfold ay_to
    exact f1
  have hup : ay_up 0 (ay_at hp 181) (ay_at hp 174) c = false := by
    unfold ay_up
    rw [hto, f2]
    exact decide_eq_false (fun z => htx (by have := Option.some.inj z; rw [show t = x by omega]))
  have hbh : ay_bh s (ay_up 0 (ay_at hp 181) (ay_at hp 174) c) = 1 := by
    unfold ay_bh
    rw [hup, hs0]
    rfl
  refine ⟨(fun y hy => by cases hy), _, List.mem_cons_self, ρ, fun _ _ => rfl, ax_px hE rfl (fun y hy => ?_)⟩
  cases List.mem_singleton.mp hy
  refine (ax_XF_lt (x := 33) (Nat.le_of_ble_eq_true rfl)).mpr ⟨x1, x2, x3, ?_⟩
  show ay_M33 0 (ρ 0) (ρ 1) (ρ 8) (ρ 2) (ρ 6) 4 (ay_at hp 194) (ay_at hp 181) (ay_at hp 174)
  refine ⟨fun _ => by omega, ?_⟩
  show ay_nx 0 (ρ 1 / 4) (ay_at hp 194) (ay_at hp 181) (ay_at hp 174) (ay_pt 0 (ρ 0 / 4) (ρ 1 / 4) (ay_at hp 194) (ay_at hp 181) (ay_at hp 174) (ρ 2 / 4)) = _
  rw [x5]
  unfold ay_nx
  dsimp only
  rw [show ρ 5 / 4 = c by omega, if_pos (by omega), hto, show ρ 4 / 4 = s by omega, hbh, show ρ 6 / 4 = t by omega]
  show (4 * t / 4, 1, if 4 * t / 4 = ρ 1 / 4 then some 17179869180 else ay_at hp 194 (ay_k (ρ 1 / 4) (4 * t / 4) 1)) = _
  rw [d4]
theorem axq0_pb01 : ax_RO ax_wM0 (ax_XM 0) axu0_pb01 := by
  intro ρ hp hE hT
  obtain ⟨x1, x2, x3, x4, x5⟩ : ay_ex hp 194 ∧ ay_ex hp 181 ∧ ay_ex hp 174 ∧ ay_M31 0 (ρ 0) (ρ 1) (ρ 8) (ρ 2) (ρ 3) (ρ 4) (ρ 5) (ay_at hp 194) (ay_at hp 181) (ay_at hp 174) := (ax_XF_lt (x := 31) (Nat.le_of_ble_eq_true rfl)).mp (ax_gx hE (31, [3, 7, 35, 11, 15, 19, 23]) ax_m0)
  obtain ⟨n, hn, n1, n2, n3⟩ := ax_gi hE 2 2147483648 4294967295 (by decide) rfl
  obtain ⟨n4, n5⟩ := ax_bi_pos n1 (by omega)
  obtain ⟨s, hs, s1, s2, s3⟩ := ax_gi hE 4 2147483649 2147483649 (by decide) rfl
  obtain ⟨s4, s5⟩ := ax_bi_pos s1 (by omega)
  obtain ⟨c, hc, c1, c2, c3⟩ := ax_gi hE 5 2147483648 2147483687 (by decide) rfl
  obtain ⟨c4, c5⟩ := ax_bi_pos c1 (by omega)
  obtain ⟨t, ht, t1, t2, t3⟩ := ax_gi hE 6 2147483648 2147483657 (by decide) rfl
  obtain ⟨t4, t5⟩ := ax_bi_pos t1 (by omega)
  have d4 : ∀ z : Nat, 4 * z / 4 = z := fun z => by omega
  obtain ⟨x, hx, xx1, xx2, xx3⟩ := ax_gi hE 7 0 4294967295 (by decide) rfl
  obtain ⟨i, hi, i1, i2, i3⟩ := ax_gi hE 8 0 4294967295 (by decide) rfl
  have hlt : rx_bi (ρ 2 / 4) < rx_bi (ρ 8 / 4) := ax_gc hE 2 11 35 (by decide) (by decide)
  rw [hn, hi, d4, d4, n5, ax_bi_def] at hlt
  have hs1 : s = 1 := by omega
  have hq : ρ 9 = 4 * (c / 2) := ay_q hE 23 39 hc (by omega) (by decide)
  have hr := ay_r hE 23 43 hc (by omega) (by decide)
  have hr2 := ay_d hE 59 43 4 (c := 1) (by decide) hr (ax_vl_c (v := 4) (by decide)) (by omega) (by decide)
  have hj2 := ay_ix hE 0 39 47 51 59 55 (k := 0) (ax_vl_c (v := 0) (by decide)) (by decide) hq (by omega) hr2 (by omega) (by decide) (by decide) (by decide)
  have hjq : ρ 15 = 4 * (20 + c / 2) := ay_s hE 80 39 63 (a := 20) (by decide) (ax_vl_c (v := 80) (by decide)) hq (by decide) (by omega)
  have f1 := ay_gf hE 734 55 27 181 ax_m8 (ax_vlq rfl rfl)
  have f2 := ay_gf hE 706 63 31 174 ax_m10 (ax_vlq rfl rfl)
  replace f1 : ay_at hp 181 (ax_vl ρ 55 / 4) = some (ρ 6) := f1
  replace f2 : ay_at hp 174 (ρ 15 / 4) = some (ρ 7) := f2
  have htx : rx_bi (ρ 6 / 4) ≠ rx_bi (ρ 7 / 4) := ax_gc hE 1 27 31 (by decide) (by decide)
  rw [ht, hx, d4, d4] at htx
  rw [hj2, d4, ht] at f1
  rw [hjq, d4, hx] at f2
  have hto : ay_at hp 181 (ay_to 0 c) = some (4 * t) := by
    unfold ay_to
    exact f1
  have hup : ay_up 0 (ay_at hp 181) (ay_at hp 174) c = false := by
    unfold ay_up
    rw [hto, f2]
    exact decide_eq_false (fun z => htx (by have := Option.some.inj z; rw [show t = x by omega]))
  have hbh : ay_bh s (ay_up 0 (ay_at hp 181) (ay_at hp 174) c) = 1 := by
    unfold ay_bh
    rw [hup, hs1]
    rfl
  refine ⟨(fun y hy => by cases hy), _, List.mem_cons_self, ρ, fun _ _ => rfl, ax_px hE rfl (fun y hy => ?_)⟩
  cases List.mem_singleton.mp hy
  refine (ax_XF_lt (x := 33) (Nat.le_of_ble_eq_true rfl)).mpr ⟨x1, x2, x3, ?_⟩
  show ay_M33 0 (ρ 0) (ρ 1) (ρ 8) (ρ 2) (ρ 6) 4 (ay_at hp 194) (ay_at hp 181) (ay_at hp 174)
  refine ⟨fun _ => by omega, ?_⟩
  show ay_nx 0 (ρ 1 / 4) (ay_at hp 194) (ay_at hp 181) (ay_at hp 174) (ay_pt 0 (ρ 0 / 4) (ρ 1 / 4) (ay_at hp 194) (ay_at hp 181) (ay_at hp 174) (ρ 2 / 4)) = _
  rw [x5]
  unfold ay_nx
  dsimp only
  rw [show ρ 5 / 4 = c by omega, if_pos (by omega), hto, show ρ 4 / 4 = s by omega, hbh, show ρ 6 / 4 = t by omega]
  show (4 * t / 4, 1, if 4 * t / 4 = ρ 1 / 4 then some 17179869180 else ay_at hp 194 (ay_k (ρ 1 / 4) (4 * t / 4) 1)) = _
  rw [d4]
theorem axq0_pb10 : ax_RO ax_wM0 (ax_XM 0) axu0_pb10 := by
  intro ρ hp hE hT
  obtain ⟨x1, x2, x3, x4, x5⟩ : ay_ex hp 194 ∧ ay_ex hp 181 ∧ ay_ex hp 174 ∧ ay_M31 0 (ρ 0) (ρ 1) (ρ 8) (ρ 2) (ρ 3) (ρ 4) (ρ 5) (ay_at hp 194) (ay_at hp 181) (ay_at hp 174) := (ax_XF_lt (x := 31) (Nat.le_of_ble_eq_true rfl)).mp (ax_gx hE (31, [3, 7, 35, 11, 15, 19, 23]) ax_m0)
  obtain ⟨n, hn, n1, n2, n3⟩ := ax_gi hE 2 2147483648 4294967295 (by decide) rfl
  obtain ⟨n4, n5⟩ := ax_bi_pos n1 (by omega)
  obtain ⟨s, hs, s1, s2, s3⟩ := ax_gi hE 4 2147483648 2147483648 (by decide) rfl
  obtain ⟨s4, s5⟩ := ax_bi_pos s1 (by omega)
  obtain ⟨c, hc, c1, c2, c3⟩ := ax_gi hE 5 2147483648 2147483687 (by decide) rfl
  obtain ⟨c4, c5⟩ := ax_bi_pos c1 (by omega)
  obtain ⟨t, ht, t1, t2, t3⟩ := ax_gi hE 6 2147483648 2147483657 (by decide) rfl
  obtain ⟨t4, t5⟩ := ax_bi_pos t1 (by omega)
  have d4 : ∀ z : Nat, 4 * z / 4 = z := fun z => by omega
  obtain ⟨x, hx, xx1, xx2, xx3⟩ := ax_gi hE 7 0 4294967295 (by decide) rfl
  obtain ⟨i, hi, i1, i2, i3⟩ := ax_gi hE 8 0 4294967295 (by decide) rfl
  have hlt : rx_bi (ρ 2 / 4) < rx_bi (ρ 8 / 4) := ax_gc hE 2 11 35 (by decide) (by decide)
  rw [hn, hi, d4, d4, n5, ax_bi_def] at hlt
  have hs0 : s = 0 := by omega
  have hq : ρ 9 = 4 * (c / 2) := ay_q hE 23 39 hc (by omega) (by decide)
  have hr := ay_r hE 23 43 hc (by omega) (by decide)
  have hr2 := ay_d hE 59 43 4 (c := 1) (by decide) hr (ax_vl_c (v := 4) (by decide)) (by omega) (by decide)
  have hj2 := ay_ix hE 0 39 47 51 59 55 (k := 0) (ax_vl_c (v := 0) (by decide)) (by decide) hq (by omega) hr2 (by omega) (by decide) (by decide) (by decide)
  have hjq : ρ 15 = 4 * (20 + c / 2) := ay_s hE 80 39 63 (a := 20) (by decide) (ax_vl_c (v := 80) (by decide)) hq (by decide) (by omega)
  have f1 := ay_gf hE 734 55 27 181 ax_m8 (ax_vlq rfl rfl)
  have f2 := ay_gf hE 706 63 31 174 ax_m10 (ax_vlq rfl rfl)
  replace f1 : ay_at hp 181 (ax_vl ρ 55 / 4) = some (ρ 6) := f1
  replace f2 : ay_at hp 174 (ρ 15 / 4) = some (ρ 7) := f2
  have htx : rx_bi (ρ 6 / 4) = rx_bi (ρ 7 / 4) := ax_gc hE 0 27 31 (by decide) (by decide)
  rw [ht, hx, d4, d4] at htx
  rw [hj2, d4, ht] at f1
  rw [hjq, d4, hx] at f2
  have hto : ay_at hp 181 (ay_to 0 c) = some (4 * t) := by
    unfold ay_to
    exact f1
  have hup : ay_up 0 (ay_at hp 181) (ay_at hp 174) c = true := by
    unfold ay_up
    rw [hto, f2]
    exact decide_eq_true (by rw [ax_bi_def, ax_bi_def] at htx; rw [show t = x by omega])
  have hbh : ay_bh s (ay_up 0 (ay_at hp 181) (ay_at hp 174) c) = 0 := by
    unfold ay_bh
    rw [hup, hs0]
    rfl
  refine ⟨(fun y hy => by cases hy), _, List.mem_cons_self, ρ, fun _ _ => rfl, ax_px hE rfl (fun y hy => ?_)⟩
  cases List.mem_singleton.mp hy
  refine (ax_XF_lt (x := 33) (Nat.le_of_ble_eq_true rfl)).mpr ⟨x1, x2, x3, ?_⟩
  show ay_M33 0 (ρ 0) (ρ 1) (ρ 8) (ρ 2) (ρ 6) 0 (ay_at hp 194) (ay_at hp 181) (ay_at hp 174)
  refine ⟨fun _ => by omega, ?_⟩
  show ay_nx 0 (ρ 1 / 4) (ay_at hp 194) (ay_at hp 181) (ay_at hp 174) (ay_pt 0 (ρ 0 / 4) (ρ 1 / 4) (ay_at hp 194) (ay_at hp 181) (ay_at hp 174) (ρ 2 / 4)) = _
  rw [x5]
  unfold ay_nx
  dsimp only
  rw [show ρ 5 / 4 = c by omega, if_pos (by omega), hto, show ρ 4 / 4 = s by omega, hbh, show ρ 6 / 4 = t by omega]
  show (4 * t / 4, 0, if 4 * t / 4 = ρ 1 / 4 then some 17179869180 else ay_at hp 194 (ay_k (ρ 1 / 4) (4 * t / 4) 0)) = _
  rw [d4]
theorem axq0_pb11 : ax_RO ax_wM0 (ax_XM 0) axu0_pb11 := by
  intro ρ hp hE hT
  obtain ⟨x1, x2, x3, x4, x5⟩ : ay_ex hp 194 ∧ ay_ex hp 181 ∧ ay_ex hp 174 ∧ ay_M31 0 (ρ 0) (ρ 1) (ρ 8) (ρ 2) (ρ 3) (ρ 4) (ρ 5) (ay_at hp 194) (ay_at hp 181) (ay_at hp 174) := (ax_XF_lt (x := 31) (Nat.le_of_ble_eq_true rfl)).mp (ax_gx hE (31, [3, 7, 35, 11, 15, 19, 23]) ax_m0)
  obtain ⟨n, hn, n1, n2, n3⟩ := ax_gi hE 2 2147483648 4294967295 (by decide) rfl
  obtain ⟨n4, n5⟩ := ax_bi_pos n1 (by omega)
  obtain ⟨s, hs, s1, s2, s3⟩ := ax_gi hE 4 2147483649 2147483649 (by decide) rfl
  obtain ⟨s4, s5⟩ := ax_bi_pos s1 (by omega)
  obtain ⟨c, hc, c1, c2, c3⟩ := ax_gi hE 5 2147483648 2147483687 (by decide) rfl
  obtain ⟨c4, c5⟩ := ax_bi_pos c1 (by omega)
  obtain ⟨t, ht, t1, t2, t3⟩ := ax_gi hE 6 2147483648 2147483657 (by decide) rfl
  obtain ⟨t4, t5⟩ := ax_bi_pos t1 (by omega)
  have d4 : ∀ z : Nat, 4 * z / 4 = z := fun z => by omega
  obtain ⟨x, hx, xx1, xx2, xx3⟩ := ax_gi hE 7 0 4294967295 (by decide) rfl
  obtain ⟨i, hi, i1, i2, i3⟩ := ax_gi hE 8 0 4294967295 (by decide) rfl
  have hlt : rx_bi (ρ 2 / 4) < rx_bi (ρ 8 / 4) := ax_gc hE 2 11 35 (by decide) (by decide)
  rw [hn, hi, d4, d4, n5, ax_bi_def] at hlt
  have hs1 : s = 1 := by omega
  have hq : ρ 9 = 4 * (c / 2) := ay_q hE 23 39 hc (by omega) (by decide)
  have hr := ay_r hE 23 43 hc (by omega) (by decide)
  have hr2 := ay_d hE 59 43 4 (c := 1) (by decide) hr (ax_vl_c (v := 4) (by decide)) (by omega) (by decide)
  have hj2 := ay_ix hE 0 39 47 51 59 55 (k := 0) (ax_vl_c (v := 0) (by decide)) (by decide) hq (by omega) hr2 (by omega) (by decide) (by decide) (by decide)
  have hjq : ρ 15 = 4 * (20 + c / 2) := ay_s hE 80 39 63 (a := 20) (by decide) (ax_vl_c (v := 80) (by decide)) hq (by decide) (by omega)
  have f1 := ay_gf hE 734 55 27 181 ax_m8 (ax_vlq rfl rfl)
  have f2 := ay_gf hE 706 63 31 174 ax_m10 (ax_vlq rfl rfl)
  replace f1 : ay_at hp 181 (ax_vl ρ 55 / 4) = some (ρ 6) := f1
  replace f2 : ay_at hp 174 (ρ 15 / 4) = some (ρ 7) := f2
  have htx : rx_bi (ρ 6 / 4) = rx_bi (ρ 7 / 4) := ax_gc hE 0 27 31 (by decide) (by decide)
  rw [ht, hx, d4, d4] at htx
  rw [hj2, d4, ht] at f1
  rw [hjq, d4, hx] at f2
  have hto : ay_at hp 181 (ay_to 0 c) = some (4 * t) := by
    unfold ay_to
    exact f1
  have hup : ay_up 0 (ay_at hp 181) (ay_at hp 174) c = true := by
    unfold ay_up
    rw [hto, f2]
    exact decide_eq_true (by rw [ax_bi_def, ax_bi_def] at htx; rw [show t = x by omega])
  have hbh : ay_bh s (ay_up 0 (ay_at hp 181) (ay_at hp 174) c) = 1 := by
    unfold ay_bh
    rw [hup, hs1]
    rfl
  refine ⟨(fun y hy => by cases hy), _, List.mem_cons_self, ρ, fun _ _ => rfl, ax_px hE rfl (fun y hy => ?_)⟩
  cases List.mem_singleton.mp hy
  refine (ax_XF_lt (x := 33) (Nat.le_of_ble_eq_true rfl)).mpr ⟨x1, x2, x3, ?_⟩
  show ay_M33 0 (ρ 0) (ρ 1) (ρ 8) (ρ 2) (ρ 6) 4 (ay_at hp 194) (ay_at hp 181) (ay_at hp 174)
  refine ⟨fun _ => by omega, ?_⟩
  show ay_nx 0 (ρ 1 / 4) (ay_at hp 194) (ay_at hp 181) (ay_at hp 174) (ay_pt 0 (ρ 0 / 4) (ρ 1 / 4) (ay_at hp 194) (ay_at hp 181) (ay_at hp 174) (ρ 2 / 4)) = _
  rw [x5]
  unfold ay_nx
  dsimp only
  rw [show ρ 5 / 4 = c by omega, if_pos (by omega), hto, show ρ 4 / 4 = s by omega, hbh, show ρ 6 / 4 = t by omega]
  show (4 * t / 4, 1, if 4 * t / 4 = ρ 1 / 4 then some 17179869180 else ay_at hp 194 (ay_k (ρ 1 / 4) (4 * t / 4) 1)) = _
  rw [d4]
theorem axq0_pcE : ax_RO ax_wM0 (ax_XM 0) axu0_pcE := by
  intro ρ hp hE hT
  obtain ⟨x1, x2, x3, x4, x5⟩ : ay_ex hp 194 ∧ ay_ex hp 181 ∧ ay_ex hp 174 ∧ ay_M33 0 (ρ 0) (ρ 1) (ρ 5) (ρ 2) (ρ 4) (ρ 6) (ay_at hp 194) (ay_at hp 181) (ay_at hp 174) := (ax_XF_lt (x := 33) (Nat.le_of_ble_eq_true rfl)).mp (ax_gx hE (33, [3, 7, 23, 11, 19, 27]) ax_m0)
  obtain ⟨t, ht, t1, t2, t3⟩ := ax_gi hE 1 2147483648 2147483657 (by decide) rfl
  obtain ⟨t4, t5⟩ := ax_bi_pos t1 (by omega)
  obtain ⟨n, hn, n1, n2, n3⟩ := ax_gi hE 2 2147483648 4294967295 (by decide) rfl
  obtain ⟨n4, n5⟩ := ax_bi_pos n1 (by omega)
  obtain ⟨u, hu, u1, u2, u3⟩ := ax_gi hE 4 2147483648 2147483657 (by decide) rfl
  obtain ⟨u4, u5⟩ := ax_bi_pos u1 (by omega)
  obtain ⟨s, hs, s1, s2, s3⟩ := ax_gi hE 6 2147483648 2147483649 (by decide) rfl
  obtain ⟨s4, s5⟩ := ax_bi_pos s1 (by omega)
  have d4 : ∀ z : Nat, 4 * z / 4 = z := fun z => by omega
  have hn2 : ρ 3 = 4 * (n + 1) := ay_s hE 11 4 15 (b := 1) (by decide) hn (ax_vl_c (v := 4) (by decide)) n4 (by decide)
  have hut : rx_bi (ρ 4 / 4) = rx_bi (ρ 1 / 4) := ax_gc hE 0 19 7 (by decide) (by decide)
  rw [hu, ht, d4, d4] at hut
  refine ⟨(fun y hy => by cases hy), _, List.mem_cons_self, ρ, fun _ _ => rfl, ax_px hE rfl (fun y hy => ?_)⟩
  cases List.mem_singleton.mp hy
  refine (ax_XF_lt (x := 31) (Nat.le_of_ble_eq_true rfl)).mpr ⟨x1, x2, x3, ?_⟩
  show ay_M31 0 (ρ 0) (ρ 1) (ρ 5) (ρ 3) (ρ 4) (ρ 6) (17179869180) (ay_at hp 194) (ay_at hp 181) (ay_at hp 174)
  have e3 : ρ 3 / 4 = ρ 2 / 4 + 1 := by omega
  unfold ay_M31
  rw [e3]
  refine ⟨x4, ?_⟩
  rw [x5, if_pos (by omega)]
theorem axq0_pcN : ax_RO ax_wM0 (ax_XM 0) axu0_pcN := by
  intro ρ hp hE hT
  obtain ⟨x1, x2, x3, x4, x5⟩ : ay_ex hp 194 ∧ ay_ex hp 181 ∧ ay_ex hp 174 ∧ ay_M33 0 (ρ 0) (ρ 1) (ρ 6) (ρ 2) (ρ 4) (ρ 7) (ay_at hp 194) (ay_at hp 181) (ay_at hp 174) := (ax_XF_lt (x := 33) (Nat.le_of_ble_eq_true rfl)).mp (ax_gx hE (33, [3, 7, 27, 11, 19, 31]) ax_m0)
  obtain ⟨t, ht, t1, t2, t3⟩ := ax_gi hE 1 2147483648 2147483657 (by decide) rfl
  obtain ⟨t4, t5⟩ := ax_bi_pos t1 (by omega)
  obtain ⟨n, hn, n1, n2, n3⟩ := ax_gi hE 2 2147483648 4294967295 (by decide) rfl
  obtain ⟨n4, n5⟩ := ax_bi_pos n1 (by omega)
  obtain ⟨u, hu, u1, u2, u3⟩ := ax_gi hE 4 2147483648 2147483657 (by decide) rfl
  obtain ⟨u4, u5⟩ := ax_bi_pos u1 (by omega)
  obtain ⟨s, hs, s1, s2, s3⟩ := ax_gi hE 7 2147483648 2147483649 (by decide) rfl
  obtain ⟨s4, s5⟩ := ax_bi_pos s1 (by omega)
  have d4 : ∀ z : Nat, 4 * z / 4 = z := fun z => by omega
  have hn2 : ρ 3 = 4 * (n + 1) := ay_s hE 11 4 15 (b := 1) (by decide) hn (ax_vl_c (v := 4) (by decide)) n4 (by decide)
  have hut : rx_bi (ρ 4 / 4) ≠ rx_bi (ρ 1 / 4) := ax_gc hE 1 19 7 (by decide) (by decide)
  rw [hu, ht, d4, d4] at hut
  have hk := ay_stt hE 7 35 19 39 43 31 47 ht (by omega) hu (by omega) hs (by omega) (by decide) (by decide) (by decide) (by decide)
  have f1 := ay_gf hE 786 47 23 194 ax_m7 (ax_vlq rfl rfl)
  replace f1 : ay_at hp 194 (ax_vl ρ 47 / 4) = some (ρ 5) := f1
  rw [hk, d4] at f1
  refine ⟨(fun y hy => by cases hy), _, List.mem_cons_self, ρ, fun _ _ => rfl, ax_px hE rfl (fun y hy => ?_)⟩
  cases List.mem_singleton.mp hy
  refine (ax_XF_lt (x := 31) (Nat.le_of_ble_eq_true rfl)).mpr ⟨x1, x2, x3, ?_⟩
  show ay_M31 0 (ρ 0) (ρ 1) (ρ 6) (ρ 3) (ρ 4) (ρ 7) (ρ 5) (ay_at hp 194) (ay_at hp 181) (ay_at hp 174)
  have e3 : ρ 3 / 4 = ρ 2 / 4 + 1 := by omega
  unfold ay_M31
  rw [e3]
  refine ⟨x4, ?_⟩
  rw [x5, if_neg (by omega), show ρ 1 / 4 = t by omega, show ρ 4 / 4 = u by omega, show ρ 7 / 4 = s by omega, f1]
theorem axq0_paA : ax_RO ax_wM0 (ax_XM 0) axu0_paA := by
  intro ρ hp hE hT
  obtain ⟨x1, x2, x3, x4, x5⟩ : ay_ex hp 194 ∧ ay_ex hp 181 ∧ ay_ex hp 174 ∧ ay_M31 0 (ρ 0) (ρ 1) (ρ 2) (ρ 3) (ρ 4) (ρ 5) (ρ 6) (ay_at hp 194) (ay_at hp 181) (ay_at hp 174) := (ax_XF_lt (x := 31) (Nat.le_of_ble_eq_true rfl)).mp (ax_gx hE (31, [3, 7, 11, 15, 19, 23, 27]) ax_m0)
  obtain ⟨c, hc, c1, c2, c3⟩ := ax_gi hE 6 2147483647 2147483647 (by decide) rfl
  have hneg : ¬ ρ 6 / 4 < 2147483648 := by
    intro z
    have hcz : c < 2147483648 := by omega
    rw [ax_bi_nat hcz] at c3
    omega
  refine ⟨(fun y hy => by cases hy), _, List.mem_cons_self, ρ, fun _ _ => rfl, ax_px hE rfl (fun y hy => ?_)⟩
  cases List.mem_singleton.mp hy
  refine (ax_XF_lt (x := 32) (Nat.le_of_ble_eq_true rfl)).mpr ⟨x1, x2, x3, fun hi => ?_⟩
  show (ay_pt 0 (ρ 0 / 4) (ρ 1 / 4) (ay_at hp 194) (ay_at hp 181) (ay_at hp 174) (ρ 2 / 4)).2.2 = some (ρ 6)
  exact ay_pt_end hneg (by rw [x5]) _ (x4 hi)
theorem axq0_paB : ax_RO ax_wM0 (ax_XM 0) axu0_paB := by
  intro ρ hp hE hT
  obtain ⟨x1, x2, x3, x4, x5⟩ : ay_ex hp 194 ∧ ay_ex hp 181 ∧ ay_ex hp 174 ∧ ay_M31 0 (ρ 0) (ρ 1) (ρ 2) (ρ 3) (ρ 4) (ρ 5) (ρ 6) (ay_at hp 194) (ay_at hp 181) (ay_at hp 174) := (ax_XF_lt (x := 31) (Nat.le_of_ble_eq_true rfl)).mp (ax_gx hE (31, [3, 7, 11, 15, 19, 23, 27]) ax_m0)
  obtain ⟨n, hn, n1, n2, n3⟩ := ax_gi hE 3 2147483648 4294967295 (by decide) rfl
  obtain ⟨n4, n5⟩ := ax_bi_pos n1 (by omega)
  have d4 : ∀ z : Nat, 4 * z / 4 = z := fun z => by omega
  obtain ⟨i, hi, i1, i2, i3⟩ := ax_gi hE 2 0 4294967295 (by decide) rfl
  have hge : rx_bi (ρ 2 / 4) ≤ rx_bi (ρ 3 / 4) := ax_gc hE 3 15 11 (by decide) (by decide)
  rw [hn, hi, d4, d4, n5, ax_bi_def] at hge
  refine ⟨(fun y hy => by cases hy), _, List.mem_cons_self, ρ, fun _ _ => rfl, ax_px hE rfl (fun y hy => ?_)⟩
  cases List.mem_singleton.mp hy
  refine (ax_XF_lt (x := 32) (Nat.le_of_ble_eq_true rfl)).mpr ⟨x1, x2, x3, fun h => ?_⟩
  replace h : ρ 2 / 4 < 2147483648 := h
  have h3 := x4 h
  show (ay_pt 0 (ρ 0 / 4) (ρ 1 / 4) (ay_at hp 194) (ay_at hp 181) (ay_at hp 174) (ρ 2 / 4)).2.2 = some (ρ 6)
  rw [show ρ 2 / 4 = ρ 3 / 4 by omega, x5]
theorem axq0_ll1 : ax_RO ax_wM0 (ax_XM 0) axu0_ll1 := by
  intro ρ hp hE hT
  obtain ⟨x1, x2, x3, x4⟩ : ay_ex hp 194 ∧ ay_ex hp 181 ∧ ay_ex hp 174 ∧ ay_M32 0 (ρ 0) (ρ 1) (ρ 2) (ρ 3) (ay_at hp 194) (ay_at hp 181) (ay_at hp 174) := (ax_XF_lt (x := 32) (Nat.le_of_ble_eq_true rfl)).mp (ax_gx hE (32, [3, 7, 11, 15]) ax_m0)
  obtain ⟨c, hc, c1, c2, c3⟩ := ax_gi hE 3 2147483648 2147483687 (by decide) rfl
  obtain ⟨c4, c5⟩ := ax_bi_pos c1 (by omega)
  refine ⟨(fun y hy => by cases hy), _, List.mem_cons_self, ρ, fun _ _ => rfl, ax_px hE rfl (fun y hy => ?_)⟩
  cases List.mem_singleton.mp hy
  refine (ax_XF_lt (x := 34) (Nat.le_of_ble_eq_true rfl)).mpr ⟨x1, x2, x3, fun h => ⟨ρ 3, x4 h, by omega⟩⟩
theorem axq0_ll2 : ax_RO ax_wM0 (ax_XM 0) axu0_ll2 := by
  intro ρ hp hE hT
  obtain ⟨-, -, -, y4⟩ : ay_ex hp 194 ∧ ay_ex hp 181 ∧ ay_ex hp 174 ∧ ay_M34 0 (ρ 0) (ρ 1) (ρ 2) (ay_at hp 194) (ay_at hp 181) (ay_at hp 174) := (ax_XF_lt (x := 34) (Nat.le_of_ble_eq_true rfl)).mp (ax_gx hE (34, [3, 7, 11]) ax_m0)
  obtain ⟨x1, x2, x3, x4⟩ : ay_ex hp 194 ∧ ay_ex hp 181 ∧ ay_ex hp 174 ∧ ay_M32 0 (ρ 0) (ρ 1) (ρ 2) (ρ 3) (ay_at hp 194) (ay_at hp 181) (ay_at hp 174) := (ax_XF_lt (x := 32) (Nat.le_of_ble_eq_true rfl)).mp (ax_gx hE (32, [3, 7, 11, 15]) ax_m1)
  obtain ⟨i, hi, i1, i2, i3⟩ := ax_gi hE 2 2147483648 4294967295 (by decide) rfl
  obtain ⟨i4, i5⟩ := ax_bi_pos i1 (by omega)
  obtain ⟨c, h1, h2⟩ := y4 (by omega)
  have h3 := x4 (by omega)
  rw [h1] at h3
  have h3 := Option.some.inj h3
  obtain ⟨d, hd, d1, d2, d3⟩ := ax_gi hE 3 2147483647 2147483687 (by decide) rfl
  refine ⟨fun y hy => ?_, _, List.mem_cons_self, ρ, fun _ _ => rfl, ax_px hE rfl (fun y hy => by cases hy)⟩
  cases List.mem_singleton.mp hy
  show 2147483648 ≤ rx_bi (ρ 3 / 4) ∧ rx_bi (ρ 3 / 4) ≤ 2147483687
  have e : ρ 3 / 4 = d := by omega
  rw [e]
  rw [ax_bi_nat (c := d) (by omega)] at d3 ⊢
  omega
theorem axq0_ll3 : ax_RO ax_wM0 (ax_XM 0) axu0_ll3 := by
  intro ρ hp hE hT
  obtain ⟨-, -, -, y4⟩ : ay_ex hp 194 ∧ ay_ex hp 181 ∧ ay_ex hp 174 ∧ ay_M34 0 (ρ 0) (ρ 1) (ρ 2) (ay_at hp 194) (ay_at hp 181) (ay_at hp 174) := (ax_XF_lt (x := 34) (Nat.le_of_ble_eq_true rfl)).mp (ax_gx hE (34, [3, 7, 11]) ax_m0)
  obtain ⟨-, -, -, -, -, -, h24⟩ : ay_ex hp 194 ∧ ay_ex hp 191 ∧ ay_ex hp 181 ∧ ay_ex hp 174 ∧ ay_ex hp 175 ∧ ay_ex hp 176 ∧ ay_M24 0 (ay_at hp 194) (ay_at hp 191) (ay_at hp 181) (ay_at hp 174) (ay_at hp 175 0) (ay_at hp 176 0) := (ax_XF_lt (x := 24) (Nat.le_of_ble_eq_true rfl)).mp (ax_gx hE (24, []) ax_m1)
  obtain ⟨-, -, -, h25⟩ : ay_ex hp 181 ∧ ay_ex hp 175 ∧ ay_ex hp 176 ∧ ay_M25 0 (ay_at hp 181) (ay_at hp 175 0) (ay_at hp 176 0) := (ax_XF_lt (x := 25) (Nat.le_of_ble_eq_true rfl)).mp (ax_gx hE (25, []) ax_m2)
  obtain ⟨f, hf, f1, f2, f3⟩ := ax_gi hE 0 2147483648 2147483657 (by decide) rfl
  obtain ⟨f4, f5⟩ := ax_bi_pos f1 (by omega)
  obtain ⟨t, ht, t1, t2, t3⟩ := ax_gi hE 1 2147483648 2147483657 (by decide) rfl
  obtain ⟨t4, t5⟩ := ax_bi_pos t1 (by omega)
  obtain ⟨i, hi, i1, i2, i3⟩ := ax_gi hE 2 2147483648 4294967295 (by decide) rfl
  obtain ⟨i4, i5⟩ := ax_bi_pos i1 (by omega)
  obtain ⟨n, hn, n1, n2, n3⟩ := ax_gi hE 3 2147483648 2147483658 (by decide) rfl
  obtain ⟨n4, n5⟩ := ax_bi_pos n1 (by omega)
  have d4 : ∀ z : Nat, 4 * z / 4 = z := fun z => by omega
  have f1 := ay_gfj hE 710 0 15 175 0 ax_m3 (ax_vlq rfl rfl) (ax_vlj rfl rfl)
  replace f1 : ay_at hp 175 0 = some (ρ 3) := f1
  have hf1 : rx_bi (ρ 0 / 4) < rx_bi (ρ 3 / 4) := ax_gc hE 2 3 15 (by decide) (by decide)
  have ht1 : rx_bi (ρ 1 / 4) < rx_bi (ρ 3 / 4) := ax_gc hE 2 7 15 (by decide) (by decide)
  rw [hf, hn, d4, d4] at hf1
  rw [ht, hn, d4, d4] at ht1
  have hln : ay_ln (ay_at hp 175 0) = n := by rw [f1, hn]; show 4 * n / 4 = n; omega
  obtain ⟨c, h1, h2⟩ := y4 (by omega)
  have hint : ∀ j v, ay_at hp 194 j = some v → v % 4 = 0 := fun j v hv => (ay_int hT (q := 194) (g := 64) (n := 200) (lo := 2147483647) (hi := 2147483687) ax_cg_194 rfl hv).1
  obtain ⟨-, -, -, d, -, hd⟩ := ay_short hint h24 h25 (by rw [hln]; omega) (by rw [hln]; omega) (ρ 2 / 4) c h1 h2
  refine ⟨fun y hy => ?_, _, List.mem_cons_self, ρ, fun _ _ => rfl, ax_px hE rfl (fun y hy => by cases hy)⟩
  cases List.mem_singleton.mp hy
  show 2147483648 ≤ rx_bi (ρ 2 / 4) ∧ rx_bi (ρ 2 / 4) ≤ 2147583648
  rw [hi, d4]
  omega
end
section
theorem axqg_rk0 {w : ax_W} {b : Nat} (hw : ax_WW w) : ax_RO w (ax_XM b) axu0_rk0 := by
  intro ρ hp hE hT
  refine ⟨(fun y hy => by cases hy), _, List.mem_cons_self, ρ, fun _ _ => rfl, ax_px hE rfl (fun y hy => ?_)⟩
  cases List.mem_singleton.mp hy
  exact (ax_XF_lt (x := 36) (Nat.le_of_ble_eq_true rfl)).mpr ⟨(ax_cellT hT (q := 182) (g := 52) (ax_wc hw ax_cg_182)), (ax_cellT hT (q := 180) (g := 50) (ax_wc hw ax_cg_180)), (by rw [show ax_vl ρ 0 = 0 from rfl]; rfl)⟩
theorem axq0_rk0 : ax_RO ax_wM0 (ax_XM 0) axu0_rk0 := axqg_rk0 ax_WW0
theorem axq0_rkM : ax_RO ax_wM0 (ax_XM 0) axu0_rkM := by
  intro ρ hp hE hT
  obtain ⟨x1, x2, x3⟩ : ay_ex hp 182 ∧ ay_ex hp 180 ∧ ay_M26 0 (ay_at hp 182) (ay_at hp 180 0) := (ax_XF_lt (x := 26) (Nat.le_of_ble_eq_true rfl)).mp (ax_gx hE (26, []) ax_m0)
  obtain ⟨y1, y2, y3⟩ : ay_ex hp 182 ∧ ay_ex hp 180 ∧ ay_M36 0 (ρ 0) (ρ 1) (ay_at hp 182) := (ax_XF_lt (x := 36) (Nat.le_of_ble_eq_true rfl)).mp (ax_gx hE (36, [3, 7]) ax_m1)
  obtain ⟨n, hn, n1, n2, n3⟩ := ax_gi hE 0 2147483648 2147483748 (by decide) rfl
  obtain ⟨n4, n5⟩ := ax_bi_pos n1 (by omega)
  obtain ⟨k, hk, k1, k2, k3⟩ := ax_gi hE 1 2147483648 2147483747 (by decide) rfl
  obtain ⟨k4, k5⟩ := ax_bi_pos k1 (by omega)
  obtain ⟨L, hL, L1, L2, L3⟩ := ax_gi hE 4 2147483648 2147483748 (by decide) rfl
  obtain ⟨L4, L5⟩ := ax_bi_pos L1 (by omega)
  have d4 : ∀ z : Nat, 4 * z / 4 = z := fun z => by omega
  obtain ⟨c, hc, c1, c2, c3⟩ := ax_gi hE 2 2147484656 2147484656 (by decide) rfl
  have hj : ρ 3 = 4 * (0 + k) := ay_s hE 0 7 15 (a := 0) (by decide) (ax_vl_c (v := 0) (by decide)) hk (by decide) (by omega)
  have f1 := ay_gf hE 738 15 11 182 ax_m3 (ax_vlq rfl rfl)
  have f2 := ay_gfj hE 730 0 19 180 0 ax_m4 (ax_vlq rfl rfl) (ax_vlj rfl rfl)
  replace f1 : ay_at hp 182 (ρ 3 / 4) = some (ρ 2) := f1
  replace f2 : ay_at hp 180 0 = some (ρ 4) := f2
  have hlt : rx_bi (ρ 1 / 4) < rx_bi (ρ 4 / 4) := ax_gc hE 2 7 19 (by decide) (by decide)
  rw [hk, hL, d4, d4] at hlt
  rw [hj, d4, hc] at f1
  replace y3 : ay_ht (ay_at hp 182) (100 * 0) (ρ 1 / 4) = some (ρ 0 / 4) := y3
  rw [hk, hn, d4, d4] at y3
  have hs : ay_ht (ay_at hp 182) (100 * 0) (k + 1) = ay_stp n (4 * c) := ay_ht_s y3 (by rw [show 100 * 0 + k = 0 + k from rfl]; exact f1)
  have hgood : ay_stp n (4 * c) ≠ none := by
    rw [← hs]
    exact x3 (k + 1) (by rw [f2, hL]; show k + 1 ≤ 4 * L / 4; omega)
  unfold ay_stp at hgood hs
  rw [d4] at hgood hs
  rw [ax_bi_def] at c2 c3
  rw [if_neg (by omega), if_pos (by omega)] at hgood hs
  have hn1 : 1 ≤ n := Decidable.byContradiction (fun z => hgood (by rw [if_neg z]))
  refine ⟨fun y hy => ?_, _, List.mem_cons_self, ρ, fun _ _ => rfl, ax_px hE rfl (fun y hy => by cases hy)⟩
  cases List.mem_singleton.mp hy
  show 2147483649 ≤ rx_bi (ρ 0 / 4) ∧ rx_bi (ρ 0 / 4) ≤ 2147483748
  rw [hn, d4]
  omega
theorem axq0_rkB : ax_RO ax_wM0 (ax_XM 0) axu0_rkB := by
  intro ρ hp hE hT
  obtain ⟨x1, x2, x3⟩ : ay_ex hp 182 ∧ ay_ex hp 180 ∧ ay_M26 0 (ay_at hp 182) (ay_at hp 180 0) := (ax_XF_lt (x := 26) (Nat.le_of_ble_eq_true rfl)).mp (ax_gx hE (26, []) ax_m0)
  obtain ⟨y1, y2, y3⟩ : ay_ex hp 182 ∧ ay_ex hp 180 ∧ ay_M36 0 (ρ 0) (ρ 1) (ay_at hp 182) := (ax_XF_lt (x := 36) (Nat.le_of_ble_eq_true rfl)).mp (ax_gx hE (36, [3, 7]) ax_m1)
  obtain ⟨n, hn, n1, n2, n3⟩ := ax_gi hE 0 2147483648 2147483748 (by decide) rfl
  obtain ⟨n4, n5⟩ := ax_bi_pos n1 (by omega)
  obtain ⟨k, hk, k1, k2, k3⟩ := ax_gi hE 1 2147483648 2147483747 (by decide) rfl
  obtain ⟨k4, k5⟩ := ax_bi_pos k1 (by omega)
  obtain ⟨L, hL, L1, L2, L3⟩ := ax_gi hE 4 2147483648 2147483748 (by decide) rfl
  obtain ⟨L4, L5⟩ := ax_bi_pos L1 (by omega)
  have d4 : ∀ z : Nat, 4 * z / 4 = z := fun z => by omega
  obtain ⟨c, hc, c1, c2, c3⟩ := ax_gi hE 2 2147484651 2147484655 (by decide) rfl
  have hj : ρ 3 = 4 * (0 + k) := ay_s hE 0 7 15 (a := 0) (by decide) (ax_vl_c (v := 0) (by decide)) hk (by decide) (by omega)
  have f1 := ay_gf hE 738 15 11 182 ax_m3 (ax_vlq rfl rfl)
  have f2 := ay_gfj hE 730 0 19 180 0 ax_m4 (ax_vlq rfl rfl) (ax_vlj rfl rfl)
  replace f1 : ay_at hp 182 (ρ 3 / 4) = some (ρ 2) := f1
  replace f2 : ay_at hp 180 0 = some (ρ 4) := f2
  have hlt : rx_bi (ρ 1 / 4) < rx_bi (ρ 4 / 4) := ax_gc hE 2 7 19 (by decide) (by decide)
  rw [hk, hL, d4, d4] at hlt
  rw [hj, d4, hc] at f1
  replace y3 : ay_ht (ay_at hp 182) (100 * 0) (ρ 1 / 4) = some (ρ 0 / 4) := y3
  rw [hk, hn, d4, d4] at y3
  have hs : ay_ht (ay_at hp 182) (100 * 0) (k + 1) = ay_stp n (4 * c) := ay_ht_s y3 (by rw [show 100 * 0 + k = 0 + k from rfl]; exact f1)
  have hgood : ay_stp n (4 * c) ≠ none := by
    rw [← hs]
    exact x3 (k + 1) (by rw [f2, hL]; show k + 1 ≤ 4 * L / 4; omega)
  unfold ay_stp at hgood hs
  rw [d4] at hgood hs
  rw [ax_bi_def] at c2 c3
  rw [if_neg (by omega), if_neg (by omega), if_pos (by omega)] at hgood hs
  have hn2 : 2 ≤ n := Decidable.byContradiction (fun z => hgood (by rw [if_neg z]))
  refine ⟨fun y hy => ?_, _, List.mem_cons_self, ρ, fun _ _ => rfl, ax_px hE rfl (fun y hy => by cases hy)⟩
  cases List.mem_singleton.mp hy
  show 2147483650 ≤ rx_bi (ρ 0 / 4) ∧ rx_bi (ρ 0 / 4) ≤ 2147483748
  rw [hn, d4]
  omega
theorem axq0_rkX : ax_RO ax_wM0 (ax_XM 0) axu0_rkX := by
  intro ρ hp hE hT
  obtain ⟨x1, x2, x3⟩ : ay_ex hp 182 ∧ ay_ex hp 180 ∧ ay_M26 0 (ay_at hp 182) (ay_at hp 180 0) := (ax_XF_lt (x := 26) (Nat.le_of_ble_eq_true rfl)).mp (ax_gx hE (26, []) ax_m0)
  obtain ⟨y1, y2, y3⟩ : ay_ex hp 182 ∧ ay_ex hp 180 ∧ ay_M36 0 (ρ 0) (ρ 1) (ay_at hp 182) := (ax_XF_lt (x := 36) (Nat.le_of_ble_eq_true rfl)).mp (ax_gx hE (36, [3, 7]) ax_m1)
  obtain ⟨n, hn, n1, n2, n3⟩ := ax_gi hE 0 2147483648 2147483748 (by decide) rfl
  obtain ⟨n4, n5⟩ := ax_bi_pos n1 (by omega)
  obtain ⟨k, hk, k1, k2, k3⟩ := ax_gi hE 1 2147483648 2147483747 (by decide) rfl
  obtain ⟨k4, k5⟩ := ax_bi_pos k1 (by omega)
  obtain ⟨L, hL, L1, L2, L3⟩ := ax_gi hE 4 2147483648 2147483748 (by decide) rfl
  obtain ⟨L4, L5⟩ := ax_bi_pos L1 (by omega)
  have d4 : ∀ z : Nat, 4 * z / 4 = z := fun z => by omega
  obtain ⟨c, hc, c1, c2, c3⟩ := ax_gi hE 2 2147484657 4294967295 (by decide) rfl
  have hj : ρ 3 = 4 * (0 + k) := ay_s hE 0 7 15 (a := 0) (by decide) (ax_vl_c (v := 0) (by decide)) hk (by decide) (by omega)
  have f1 := ay_gf hE 738 15 11 182 ax_m3 (ax_vlq rfl rfl)
  have f2 := ay_gfj hE 730 0 19 180 0 ax_m4 (ax_vlq rfl rfl) (ax_vlj rfl rfl)
  replace f1 : ay_at hp 182 (ρ 3 / 4) = some (ρ 2) := f1
  replace f2 : ay_at hp 180 0 = some (ρ 4) := f2
  have hlt : rx_bi (ρ 1 / 4) < rx_bi (ρ 4 / 4) := ax_gc hE 2 7 19 (by decide) (by decide)
  rw [hk, hL, d4, d4] at hlt
  rw [hj, d4, hc] at f1
  replace y3 : ay_ht (ay_at hp 182) (100 * 0) (ρ 1 / 4) = some (ρ 0 / 4) := y3
  rw [hk, hn, d4, d4] at y3
  have hs : ay_ht (ay_at hp 182) (100 * 0) (k + 1) = ay_stp n (4 * c) := ay_ht_s y3 (by rw [show 100 * 0 + k = 0 + k from rfl]; exact f1)
  have hgood : ay_stp n (4 * c) ≠ none := by
    rw [← hs]
    exact x3 (k + 1) (by rw [f2, hL]; show k + 1 ≤ 4 * L / 4; omega)
  unfold ay_stp at hgood hs
  rw [d4] at hgood hs
  rw [ax_bi_def] at c2 c3
  exfalso
  exact hgood (by rw [if_neg (by omega), if_neg (by omega), if_neg (by omega)])
theorem axq0_rkO : ax_RO ax_wM0 (ax_XM 0) axu0_rkO := by
  intro ρ hp hE hT
  obtain ⟨x1, x2, x3⟩ : ay_ex hp 182 ∧ ay_ex hp 180 ∧ ay_M26 0 (ay_at hp 182) (ay_at hp 180 0) := (ax_XF_lt (x := 26) (Nat.le_of_ble_eq_true rfl)).mp (ax_gx hE (26, []) ax_m0)
  obtain ⟨y1, y2, y3⟩ : ay_ex hp 182 ∧ ay_ex hp 180 ∧ ay_M36 0 (ρ 0) (ρ 1) (ay_at hp 182) := (ax_XF_lt (x := 36) (Nat.le_of_ble_eq_true rfl)).mp (ax_gx hE (36, [3, 7]) ax_m1)
  obtain ⟨n, hn, n1, n2, n3⟩ := ax_gi hE 0 2147483648 2147483748 (by decide) rfl
  obtain ⟨n4, n5⟩ := ax_bi_pos n1 (by omega)
  obtain ⟨k, hk, k1, k2, k3⟩ := ax_gi hE 1 2147483648 2147483747 (by decide) rfl
  obtain ⟨k4, k5⟩ := ax_bi_pos k1 (by omega)
  obtain ⟨L, hL, L1, L2, L3⟩ := ax_gi hE 4 2147483648 2147483748 (by decide) rfl
  obtain ⟨L4, L5⟩ := ax_bi_pos L1 (by omega)
  have d4 : ∀ z : Nat, 4 * z / 4 = z := fun z => by omega
  obtain ⟨c, hc, c1, c2, c3⟩ := ax_gi hE 2 0 2147484650 (by decide) rfl
  have hj : ρ 3 = 4 * (0 + k) := ay_s hE 0 7 15 (a := 0) (by decide) (ax_vl_c (v := 0) (by decide)) hk (by decide) (by omega)
  have f1 := ay_gf hE 738 15 11 182 ax_m3 (ax_vlq rfl rfl)
  have f2 := ay_gfj hE 730 0 19 180 0 ax_m4 (ax_vlq rfl rfl) (ax_vlj rfl rfl)
  replace f1 : ay_at hp 182 (ρ 3 / 4) = some (ρ 2) := f1
  replace f2 : ay_at hp 180 0 = some (ρ 4) := f2
  have hlt : rx_bi (ρ 1 / 4) < rx_bi (ρ 4 / 4) := ax_gc hE 2 7 19 (by decide) (by decide)
  rw [hk, hL, d4, d4] at hlt
  rw [hj, d4, hc] at f1
  replace y3 : ay_ht (ay_at hp 182) (100 * 0) (ρ 1 / 4) = some (ρ 0 / 4) := y3
  rw [hk, hn, d4, d4] at y3
  have hs : ay_ht (ay_at hp 182) (100 * 0) (k + 1) = ay_stp n (4 * c) := ay_ht_s y3 (by rw [show 100 * 0 + k = 0 + k from rfl]; exact f1)
  have hgood : ay_stp n (4 * c) ≠ none := by
    rw [← hs]
    exact x3 (k + 1) (by rw [f2, hL]; show k + 1 ≤ 4 * L / 4; omega)
  unfold ay_stp at hgood hs
  rw [d4] at hgood hs
  rw [ax_bi_def] at c2 c3
  have hc2 : c ≤ 1002 := Decidable.byContradiction (fun z => hgood (by rw [if_neg z, if_neg (by omega), if_neg (by omega)]))
  rw [if_pos hc2] at hs
  have hnk := ay_ht_le y3
  refine ⟨fun y hy => ?_, _, List.mem_cons_self, ρ, fun _ _ => rfl, ax_px hE rfl (fun y hy => by cases hy)⟩
  cases List.mem_singleton.mp hy
  show 2147483648 ≤ rx_bi (ρ 0 / 4) ∧ rx_bi (ρ 0 / 4) ≤ 2147483747
  rw [hn, d4]
  omega
theorem axq0_rlM : ax_RO ax_wM0 (ax_XM 0) axu0_rlM := by
  intro ρ hp hE hT
  obtain ⟨x1, x2, x3⟩ : ay_ex hp 182 ∧ ay_ex hp 180 ∧ ay_M26 0 (ay_at hp 182) (ay_at hp 180 0) := (ax_XF_lt (x := 26) (Nat.le_of_ble_eq_true rfl)).mp (ax_gx hE (26, []) ax_m0)
  obtain ⟨y1, y2, y3⟩ : ay_ex hp 182 ∧ ay_ex hp 180 ∧ ay_M36 0 (ρ 0) (ρ 1) (ay_at hp 182) := (ax_XF_lt (x := 36) (Nat.le_of_ble_eq_true rfl)).mp (ax_gx hE (36, [3, 7]) ax_m1)
  obtain ⟨n, hn, n1, n2, n3⟩ := ax_gi hE 0 2147483648 2147483748 (by decide) rfl
  obtain ⟨n4, n5⟩ := ax_bi_pos n1 (by omega)
  obtain ⟨k, hk, k1, k2, k3⟩ := ax_gi hE 1 2147483648 2147483747 (by decide) rfl
  obtain ⟨k4, k5⟩ := ax_bi_pos k1 (by omega)
  obtain ⟨L, hL, L1, L2, L3⟩ := ax_gi hE 4 2147483648 2147483748 (by decide) rfl
  obtain ⟨L4, L5⟩ := ax_bi_pos L1 (by omega)
  have d4 : ∀ z : Nat, 4 * z / 4 = z := fun z => by omega
  obtain ⟨c, hc, c1, c2, c3⟩ := ax_gi hE 2 2147484656 2147484656 (by decide) rfl
  have hj : ρ 3 = 4 * (0 + k) := ay_s hE 0 7 15 (a := 0) (by decide) (ax_vl_c (v := 0) (by decide)) hk (by decide) (by omega)
  have f1 := ay_gf hE 738 15 11 182 ax_m4 (ax_vlq rfl rfl)
  have f2 := ay_gfj hE 730 0 19 180 0 ax_m5 (ax_vlq rfl rfl) (ax_vlj rfl rfl)
  replace f1 : ay_at hp 182 (ρ 3 / 4) = some (ρ 2) := f1
  replace f2 : ay_at hp 180 0 = some (ρ 4) := f2
  have hlt : rx_bi (ρ 1 / 4) < rx_bi (ρ 4 / 4) := ax_gc hE 2 7 19 (by decide) (by decide)
  rw [hk, hL, d4, d4] at hlt
  rw [hj, d4, hc] at f1
  replace y3 : ay_ht (ay_at hp 182) (100 * 0) (ρ 1 / 4) = some (ρ 0 / 4) := y3
  rw [hk, hn, d4, d4] at y3
  have hs : ay_ht (ay_at hp 182) (100 * 0) (k + 1) = ay_stp n (4 * c) := ay_ht_s y3 (by rw [show 100 * 0 + k = 0 + k from rfl]; exact f1)
  have hgood : ay_stp n (4 * c) ≠ none := by
    rw [← hs]
    exact x3 (k + 1) (by rw [f2, hL]; show k + 1 ≤ 4 * L / 4; omega)
  unfold ay_stp at hgood hs
  rw [d4] at hgood hs
  rw [ax_bi_def] at c2 c3
  rw [if_neg (by omega), if_pos (by omega)] at hgood hs
  have hn1 : 1 ≤ n := Decidable.byContradiction (fun z => hgood (by rw [if_neg z]))
  have hk2 : ρ 5 = 4 * (k + 1) := ay_s hE 7 4 23 (b := 1) (by decide) hk (ax_vl_c (v := 4) (by decide)) (by omega) (by decide)
  rw [if_pos hn1] at hs
  refine ⟨(fun y hy => by cases hy), _, List.mem_cons_self, ρ, fun _ _ => rfl, ax_px hE rfl (fun y hy => ?_)⟩
  cases List.mem_singleton.mp hy
  refine (ax_XF_lt (x := 36) (Nat.le_of_ble_eq_true rfl)).mpr ⟨y1, y2, ?_⟩
  show ay_ht (ay_at hp 182) (100 * 0) (ρ 5 / 4) = some (ρ 0 / 4)
  rw [hk2, d4, hs, hn, d4]
theorem axq0_rlB : ax_RO ax_wM0 (ax_XM 0) axu0_rlB := by
  intro ρ hp hE hT
  obtain ⟨x1, x2, x3⟩ : ay_ex hp 182 ∧ ay_ex hp 180 ∧ ay_M26 0 (ay_at hp 182) (ay_at hp 180 0) := (ax_XF_lt (x := 26) (Nat.le_of_ble_eq_true rfl)).mp (ax_gx hE (26, []) ax_m0)
  obtain ⟨y1, y2, y3⟩ : ay_ex hp 182 ∧ ay_ex hp 180 ∧ ay_M36 0 (ρ 0) (ρ 1) (ay_at hp 182) := (ax_XF_lt (x := 36) (Nat.le_of_ble_eq_true rfl)).mp (ax_gx hE (36, [3, 7]) ax_m1)
  obtain ⟨n, hn, n1, n2, n3⟩ := ax_gi hE 0 2147483648 2147483748 (by decide) rfl
  obtain ⟨n4, n5⟩ := ax_bi_pos n1 (by omega)
  obtain ⟨k, hk, k1, k2, k3⟩ := ax_gi hE 1 2147483648 2147483747 (by decide) rfl
  obtain ⟨k4, k5⟩ := ax_bi_pos k1 (by omega)
  obtain ⟨L, hL, L1, L2, L3⟩ := ax_gi hE 4 2147483648 2147483748 (by decide) rfl
  obtain ⟨L4, L5⟩ := ax_bi_pos L1 (by omega)
  have d4 : ∀ z : Nat, 4 * z / 4 = z := fun z => by omega
  obtain ⟨c, hc, c1, c2, c3⟩ := ax_gi hE 2 2147484651 2147484655 (by decide) rfl
  have hj : ρ 3 = 4 * (0 + k) := ay_s hE 0 7 15 (a := 0) (by decide) (ax_vl_c (v := 0) (by decide)) hk (by decide) (by omega)
  have f1 := ay_gf hE 738 15 11 182 ax_m4 (ax_vlq rfl rfl)
  have f2 := ay_gfj hE 730 0 19 180 0 ax_m5 (ax_vlq rfl rfl) (ax_vlj rfl rfl)
  replace f1 : ay_at hp 182 (ρ 3 / 4) = some (ρ 2) := f1
  replace f2 : ay_at hp 180 0 = some (ρ 4) := f2
  have hlt : rx_bi (ρ 1 / 4) < rx_bi (ρ 4 / 4) := ax_gc hE 2 7 19 (by decide) (by decide)
  rw [hk, hL, d4, d4] at hlt
  rw [hj, d4, hc] at f1
  replace y3 : ay_ht (ay_at hp 182) (100 * 0) (ρ 1 / 4) = some (ρ 0 / 4) := y3
  rw [hk, hn, d4, d4] at y3
  have hs : ay_ht (ay_at hp 182) (100 * 0) (k + 1) = ay_stp n (4 * c) := ay_ht_s y3 (by rw [show 100 * 0 + k = 0 + k from rfl]; exact f1)
  have hgood : ay_stp n (4 * c) ≠ none := by
    rw [← hs]
    exact x3 (k + 1) (by rw [f2, hL]; show k + 1 ≤ 4 * L / 4; omega)
  unfold ay_stp at hgood hs
  rw [d4] at hgood hs
  rw [ax_bi_def] at c2 c3
  rw [if_neg (by omega), if_neg (by omega), if_pos (by omega)] at hgood hs
  have hn2 : 2 ≤ n := Decidable.byContradiction (fun z => hgood (by rw [if_neg z]))
  have hk2 : ρ 5 = 4 * (k + 1) := ay_s hE 7 4 23 (b := 1) (by decide) hk (ax_vl_c (v := 4) (by decide)) (by omega) (by decide)
  rw [if_pos hn2] at hs
  have hn3 : ρ 6 = 4 * (n - 1) := by
    obtain ⟨a', b', c', e1, e2, e3, l1, l2, l3, hs'⟩ := ax_gs hE 3 17179869180 27 (by decide)
    have ea : a' = n := by replace e1 : ρ 0 = 4 * a' := e1; omega
    have eb : b' = 4294967295 := by rw [ax_vl_c (by decide)] at e2; omega
    subst ea eb
    replace e3 : ρ 6 = 4 * c' := e3
    rw [ax_bi_def, ax_bi_def, ax_bi_def] at hs'
    omega
  refine ⟨(fun y hy => by cases hy), _, List.mem_cons_self, ρ, fun _ _ => rfl, ax_px hE rfl (fun y hy => ?_)⟩
  cases List.mem_singleton.mp hy
  refine (ax_XF_lt (x := 36) (Nat.le_of_ble_eq_true rfl)).mpr ⟨y1, y2, ?_⟩
  show ay_ht (ay_at hp 182) (100 * 0) (ρ 5 / 4) = some (ρ 6 / 4)
  rw [hk2, d4, hs, hn3, d4]
theorem axq0_rlO : ax_RO ax_wM0 (ax_XM 0) axu0_rlO := by
  intro ρ hp hE hT
  obtain ⟨x1, x2, x3⟩ : ay_ex hp 182 ∧ ay_ex hp 180 ∧ ay_M26 0 (ay_at hp 182) (ay_at hp 180 0) := (ax_XF_lt (x := 26) (Nat.le_of_ble_eq_true rfl)).mp (ax_gx hE (26, []) ax_m0)
  obtain ⟨y1, y2, y3⟩ : ay_ex hp 182 ∧ ay_ex hp 180 ∧ ay_M36 0 (ρ 0) (ρ 1) (ay_at hp 182) := (ax_XF_lt (x := 36) (Nat.le_of_ble_eq_true rfl)).mp (ax_gx hE (36, [3, 7]) ax_m1)
  obtain ⟨n, hn, n1, n2, n3⟩ := ax_gi hE 0 2147483648 2147483748 (by decide) rfl
  obtain ⟨n4, n5⟩ := ax_bi_pos n1 (by omega)
  obtain ⟨k, hk, k1, k2, k3⟩ := ax_gi hE 1 2147483648 2147483747 (by decide) rfl
  obtain ⟨k4, k5⟩ := ax_bi_pos k1 (by omega)
  obtain ⟨L, hL, L1, L2, L3⟩ := ax_gi hE 4 2147483648 2147483748 (by decide) rfl
  obtain ⟨L4, L5⟩ := ax_bi_pos L1 (by omega)
  have d4 : ∀ z : Nat, 4 * z / 4 = z := fun z => by omega
  obtain ⟨c, hc, c1, c2, c3⟩ := ax_gi hE 2 0 2147484650 (by decide) rfl
  have hj : ρ 3 = 4 * (0 + k) := ay_s hE 0 7 15 (a := 0) (by decide) (ax_vl_c (v := 0) (by decide)) hk (by decide) (by omega)
  have f1 := ay_gf hE 738 15 11 182 ax_m4 (ax_vlq rfl rfl)
  have f2 := ay_gfj hE 730 0 19 180 0 ax_m5 (ax_vlq rfl rfl) (ax_vlj rfl rfl)
  replace f1 : ay_at hp 182 (ρ 3 / 4) = some (ρ 2) := f1
  replace f2 : ay_at hp 180 0 = some (ρ 4) := f2
  have hlt : rx_bi (ρ 1 / 4) < rx_bi (ρ 4 / 4) := ax_gc hE 2 7 19 (by decide) (by decide)
  rw [hk, hL, d4, d4] at hlt
  rw [hj, d4, hc] at f1
  replace y3 : ay_ht (ay_at hp 182) (100 * 0) (ρ 1 / 4) = some (ρ 0 / 4) := y3
  rw [hk, hn, d4, d4] at y3
  have hs : ay_ht (ay_at hp 182) (100 * 0) (k + 1) = ay_stp n (4 * c) := ay_ht_s y3 (by rw [show 100 * 0 + k = 0 + k from rfl]; exact f1)
  have hgood : ay_stp n (4 * c) ≠ none := by
    rw [← hs]
    exact x3 (k + 1) (by rw [f2, hL]; show k + 1 ≤ 4 * L / 4; omega)
  unfold ay_stp at hgood hs
  rw [d4] at hgood hs
  rw [ax_bi_def] at c2 c3
  have hc2 : c ≤ 1002 := Decidable.byContradiction (fun z => hgood (by rw [if_neg z, if_neg (by omega), if_neg (by omega)]))
  rw [if_pos hc2] at hs
  have hnk := ay_ht_le y3
  have hk2 : ρ 5 = 4 * (k + 1) := ay_s hE 7 4 23 (b := 1) (by decide) hk (ax_vl_c (v := 4) (by decide)) (by omega) (by decide)
  have hn3 : ρ 6 = 4 * (n + 1) := ay_s hE 3 4 27 (b := 1) (by decide) hn (ax_vl_c (v := 4) (by decide)) (by omega) (by decide)
  refine ⟨(fun y hy => by cases hy), _, List.mem_cons_self, ρ, fun _ _ => rfl, ax_px hE rfl (fun y hy => ?_)⟩
  cases List.mem_singleton.mp hy
  refine (ax_XF_lt (x := 36) (Nat.le_of_ble_eq_true rfl)).mpr ⟨y1, y2, ?_⟩
  show ay_ht (ay_at hp 182) (100 * 0) (ρ 5 / 4) = some (ρ 6 / 4)
  rw [hk2, d4, hs, hn3, d4]
end
