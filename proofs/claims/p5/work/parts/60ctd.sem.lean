theorem axq_lk2 : ax_RO ax_wC ax_XC axu_lk2 := by
  intro ρ hp hE hT
  have j0 : ρ 0 % 4 = 1 := pz_gj hE 0 (by decide) rfl
  have j1 : ρ 1 % 4 = 1 := pz_gj hE 1 (by decide) rfl
  obtain ⟨i2a, i2b, i2c, i2d⟩ := pz_gi hE 2 2147483648 2147483667 (by decide) rfl
  have c_links : ay_at hp 10 1 = some (ρ 2) := ay_gfj hE 50 4 11 10 1 (by decide) (by rw [ax_vl_c (by decide)]) (by rw [ax_vl_c (by decide)])
  obtain ⟨-, -, -, -, F50⟩ : ay_ex hp 8 ∧ ay_ex hp 10 ∧ ay_ex hp 11 ∧ ay_ex hp 12 ∧ pz_x50 (ρ 0) (ρ 1) (ay_at hp 8 5) (ay_at hp 8 6) (ay_at hp 8 7) (ay_at hp 8 8) (ay_at hp 10 0) (ay_at hp 10 1) (ay_at hp 10 2) (ay_at hp 10 3) (ay_at hp 10 4) (ay_at hp 8 9) (ay_at hp 8 11) (ay_at hp 8 10) (ay_at hp 8 3) (ay_at hp 8 4) (ay_at hp 11) (ay_at hp 12) := (ax_XF_lt (by decide)).mp (ax_gx hE (50, [3, 7]) (by decide))
  rw [c_links] at F50
  have F73 : pz7 (pz_gt (ρ 0)) (pz_gN (ρ 0)) ((ρ 1) / 4) 3 := (ax_XF_lt (by decide)).mp (ax_gx hE (73, [3, 7]) (by decide))
  have F60 : pz60 (pz_gt (ρ 0)) (pz_gN (ρ 0)) ((ρ 1) / 4) ((4006) / 4 - 1000) := (ax_XF_lt (by decide)).mp (ax_gx hE (60, [3, 7, 4006]) (by decide))
  have st := pq_lk2 F50 F73 F60 (show ρ 2 / 4 ≤ 19 by omega)
  obtain ⟨ρ', h1, h2⟩ := pz_pn1 (K := ρ 1 / 4 + 1) (xf := [(53, [3, 15]), (74, [3, 15]), (1030, [7, 15])]) hE (by decide) (fun ρ' h1 h2 x hx => by
    have q0 : ρ' 0 = ρ 0 := h1 0 (by decide)
    have q1 : ρ' 1 = ρ 1 := h1 1 (by decide)
    have q2 : ρ' 2 = ρ 2 := h1 2 (by decide)
    rcases List.mem_cons.mp hx with e | hx
    · subst e
      refine (ax_XF_lt (x := 53) (by decide)).mpr ?_
      show ay_ex hp 8 ∧ ay_ex hp 10 ∧ ay_ex hp 11 ∧ ay_ex hp 12 ∧ pz_x53 (ρ' 0) (ρ' 3) (ay_at hp 8 5) (ay_at hp 10 0) (ay_at hp 10 1) (ay_at hp 10 2) (ay_at hp 10 3) (ay_at hp 10 4) (ay_at hp 8 9) (ay_at hp 8 11) (ay_at hp 8 10) (ay_at hp 8 3) (ay_at hp 8 4) (ay_at hp 11) (ay_at hp 12)
      rw [q0, h2]
      rw [c_links]
      exact ⟨(ax_cellT hT (q := 8) (g := 2) rfl), (ax_cellT hT (q := 10) (g := 1) rfl), (ax_cellT hT (q := 11) (g := 14) rfl), (ax_cellT hT (q := 12) (g := 15) rfl), pz_53 (pz_41 _) rfl st.1⟩
    rcases List.mem_cons.mp hx with e | hx
    · subst e
      refine (ax_XF_lt (x := 74) (by decide)).mpr ?_
      show pz7 (pz_gt (ρ' 0)) (pz_gN (ρ' 0)) ((ρ' 3) / 4) 4
      rw [q0, h2]
      rw [pz_41]
      exact st.2
    cases List.mem_singleton.mp hx
    refine (ax_XF_bi (o := 30) (by decide)).mpr (Or.inr ⟨rfl, ?_⟩)
    show ρ' 1 < ρ' 3
    rw [q1, h2]
    omega)
  exact ⟨(fun y hy => by cases hy), _, List.mem_cons_self, ρ', h1, h2⟩

theorem axq_lk4 : ax_RO ax_wC ax_XC axu_lk4 := by
  intro ρ hp hE hT
  have j0 : ρ 0 % 4 = 1 := pz_gj hE 0 (by decide) rfl
  have j1 : ρ 1 % 4 = 1 := pz_gj hE 1 (by decide) rfl
  obtain ⟨i2a, i2b, i2c, i2d⟩ := pz_gi hE 2 2147483648 2147483657 (by decide) rfl
  have j3 : ρ 3 % 4 = 1 := pz_gj hE 3 (by decide) rfl
  have o1 : ρ 3 < ρ 1 := pz_go hE 15 7 (by decide)
  obtain ⟨-, -, -, -, F50⟩ : ay_ex hp 8 ∧ ay_ex hp 10 ∧ ay_ex hp 11 ∧ ay_ex hp 12 ∧ pz_x50 (ρ 0) (ρ 1) (ay_at hp 8 5) (ay_at hp 8 6) (ay_at hp 8 7) (ay_at hp 8 8) (ay_at hp 10 0) (ay_at hp 10 1) (ay_at hp 10 2) (ay_at hp 10 3) (ay_at hp 10 4) (ay_at hp 8 9) (ay_at hp 8 11) (ay_at hp 8 10) (ay_at hp 8 3) (ay_at hp 8 4) (ay_at hp 11) (ay_at hp 12) := (ax_XF_lt (by decide)).mp (ax_gx hE (50, [3, 7]) (by decide))
  have F74 : pz7 (pz_gt (ρ 0)) (pz_gN (ρ 0)) ((ρ 1) / 4) 4 := (ax_XF_lt (by decide)).mp (ax_gx hE (74, [3, 7]) (by decide))
  have F104 : pz104 (pz_gt (ρ 0)) (pz_gN (ρ 0)) ((ρ 1) / 4) ((ρ 2) / 4) := (ax_XF_lt (by decide)).mp (ax_gx hE (104, [3, 7, 11]) (by decide))
  have st := pq_lk4 F50 F74 F104
  obtain ⟨ρ', h1, h2⟩ := pz_pn1 (K := ρ 1 / 4 + 1) (xf := [(53, [3, 19]), (75, [3, 19]), (67, [3, 19, 11]), (1030, [15, 19])]) hE (by decide) (fun ρ' h1 h2 x hx => by
    have q0 : ρ' 0 = ρ 0 := h1 0 (by decide)
    have q1 : ρ' 1 = ρ 1 := h1 1 (by decide)
    have q2 : ρ' 2 = ρ 2 := h1 2 (by decide)
    have q3 : ρ' 3 = ρ 3 := h1 3 (by decide)
    rcases List.mem_cons.mp hx with e | hx
    · subst e
      refine (ax_XF_lt (x := 53) (by decide)).mpr ?_
      show ay_ex hp 8 ∧ ay_ex hp 10 ∧ ay_ex hp 11 ∧ ay_ex hp 12 ∧ pz_x53 (ρ' 0) (ρ' 4) (ay_at hp 8 5) (ay_at hp 10 0) (ay_at hp 10 1) (ay_at hp 10 2) (ay_at hp 10 3) (ay_at hp 10 4) (ay_at hp 8 9) (ay_at hp 8 11) (ay_at hp 8 10) (ay_at hp 8 3) (ay_at hp 8 4) (ay_at hp 11) (ay_at hp 12)
      rw [q0, h2]
      exact ⟨(ax_cellT hT (q := 8) (g := 2) rfl), (ax_cellT hT (q := 10) (g := 1) rfl), (ax_cellT hT (q := 11) (g := 14) rfl), (ax_cellT hT (q := 12) (g := 15) rfl), pz_53 (pz_41 _) rfl st.1⟩
    rcases List.mem_cons.mp hx with e | hx
    · subst e
      refine (ax_XF_lt (x := 75) (by decide)).mpr ?_
      show pz7 (pz_gt (ρ' 0)) (pz_gN (ρ' 0)) ((ρ' 4) / 4) 5
      rw [q0, h2]
      rw [pz_41]
      exact st.2.1
    rcases List.mem_cons.mp hx with e | hx
    · subst e
      refine (ax_XF_lt (x := 67) (by decide)).mpr ?_
      show pz67 (pz_gt (ρ' 0)) (pz_gN (ρ' 0)) ((ρ' 4) / 4) ((ρ' 2) / 4)
      rw [q0, q2, h2]
      rw [pz_41]
      exact st.2.2
    cases List.mem_singleton.mp hx
    refine (ax_XF_bi (o := 30) (by decide)).mpr (Or.inr ⟨rfl, ?_⟩)
    show ρ' 3 < ρ' 4
    rw [q3, h2]
    omega)
  exact ⟨(fun y hy => by cases hy), _, List.mem_cons_self, ρ', h1, h2⟩

theorem axq_rs6 : ax_RO ax_wC ax_XC axu_rs6 := by
  intro ρ hp hE hT
  have j0 : ρ 0 % 4 = 1 := pz_gj hE 0 (by decide) rfl
  have j1 : ρ 1 % 4 = 1 := pz_gj hE 1 (by decide) rfl
  have j2 : ρ 2 % 4 = 1 := pz_gj hE 2 (by decide) rfl
  have j3 : ρ 3 % 4 = 1 := pz_gj hE 3 (by decide) rfl
  obtain ⟨i4a, i4b, i4c, i4d⟩ := pz_gi hE 4 2147483689 2147483689 (by decide) rfl
  have c_kind : ay_at hp 8 7 = some (ρ 4) := ay_gfj hE 42 28 19 8 7 (by decide) (by rw [ax_vl_c (by decide)]) (by rw [ax_vl_c (by decide)])
  obtain ⟨-, -, -, -, F50⟩ : ay_ex hp 8 ∧ ay_ex hp 10 ∧ ay_ex hp 11 ∧ ay_ex hp 12 ∧ pz_x50 (ρ 0) (ρ 1) (ay_at hp 8 5) (ay_at hp 8 6) (ay_at hp 8 7) (ay_at hp 8 8) (ay_at hp 10 0) (ay_at hp 10 1) (ay_at hp 10 2) (ay_at hp 10 3) (ay_at hp 10 4) (ay_at hp 8 9) (ay_at hp 8 11) (ay_at hp 8 10) (ay_at hp 8 3) (ay_at hp 8 4) (ay_at hp 11) (ay_at hp 12) := (ax_XF_lt (by decide)).mp (ax_gx hE (50, [3, 7]) (by decide))
  rw [c_kind] at F50
  have F79 : pz7 (pz_gt (ρ 0)) (pz_gN (ρ 0)) ((ρ 1) / 4) 9 := (ax_XF_lt (by decide)).mp (ax_gx hE (79, [3, 7]) (by decide))
  have F90 : (pz90 (pz_gt (ρ 0)) (pz_gN (ρ 0)) ((ρ 1) / 4) ((ρ 2) / 4) ∧ 1 ≤ (ρ 2) / 4) := (ax_XF_lt (by decide)).mp (ax_gx hE (90, [3, 7, 11]) (by decide))
  have F93 : (ρ 2) / 4 = 2 * ((ρ 3) / 4) := (ax_XF_lt (by decide)).mp (ax_gx hE (93, [11, 15]) (by decide))
  have st := pq_rs6 F50 F79 F90.1 F93 (by have := F90.2; omega) (show ρ 4 / 4 = 41 by omega)
  obtain ⟨ρ', h1, h2⟩ := pz_pn2 (K := ρ 1 / 4 + 1) (L := pz_strip (ρ 3 / 4)) (xf := [(53, [3, 23]), (79, [3, 23]), (90, [3, 23, 27]), (92, [15, 27]), (1030, [7, 23])]) hE (by decide) (fun ρ' h1 h2 h3 x hx => by
    have q0 : ρ' 0 = ρ 0 := h1 0 (by decide)
    have q1 : ρ' 1 = ρ 1 := h1 1 (by decide)
    have q2 : ρ' 2 = ρ 2 := h1 2 (by decide)
    have q3 : ρ' 3 = ρ 3 := h1 3 (by decide)
    have q4 : ρ' 4 = ρ 4 := h1 4 (by decide)
    rcases List.mem_cons.mp hx with e | hx
    · subst e
      refine (ax_XF_lt (x := 53) (by decide)).mpr ?_
      show ay_ex hp 8 ∧ ay_ex hp 10 ∧ ay_ex hp 11 ∧ ay_ex hp 12 ∧ pz_x53 (ρ' 0) (ρ' 5) (ay_at hp 8 5) (ay_at hp 10 0) (ay_at hp 10 1) (ay_at hp 10 2) (ay_at hp 10 3) (ay_at hp 10 4) (ay_at hp 8 9) (ay_at hp 8 11) (ay_at hp 8 10) (ay_at hp 8 3) (ay_at hp 8 4) (ay_at hp 11) (ay_at hp 12)
      rw [q0, h2]
      exact ⟨(ax_cellT hT (q := 8) (g := 2) rfl), (ax_cellT hT (q := 10) (g := 1) rfl), (ax_cellT hT (q := 11) (g := 14) rfl), (ax_cellT hT (q := 12) (g := 15) rfl), pz_53 (pz_41 _) rfl st.1⟩
    rcases List.mem_cons.mp hx with e | hx
    · subst e
      refine (ax_XF_lt (x := 79) (by decide)).mpr ?_
      show pz7 (pz_gt (ρ' 0)) (pz_gN (ρ' 0)) ((ρ' 5) / 4) 9
      rw [q0, h2]
      rw [pz_41]
      exact st.2.1
    rcases List.mem_cons.mp hx with e | hx
    · subst e
      refine (ax_XF_lt (x := 90) (by decide)).mpr ?_
      show (pz90 (pz_gt (ρ' 0)) (pz_gN (ρ' 0)) ((ρ' 5) / 4) ((ρ' 6) / 4) ∧ 1 ≤ (ρ' 6) / 4)
      rw [q0, h2, h3]
      rw [pz_41, pz_41]
      exact ⟨st.2.2, pz_strip_1 (by have := F90.2; omega)⟩
    rcases List.mem_cons.mp hx with e | hx
    · subst e
      refine (ax_XF_lt (x := 92) (by decide)).mpr ?_
      show pz_strip ((ρ' 3) / 4) = (ρ' 6) / 4
      rw [q3, h3]
      rw [pz_41]
    cases List.mem_singleton.mp hx
    refine (ax_XF_bi (o := 30) (by decide)).mpr (Or.inr ⟨rfl, ?_⟩)
    show ρ' 1 < ρ' 5
    rw [q1, h2]
    omega)
  exact ⟨(fun y hy => by cases hy), _, List.mem_cons_self, ρ', h1, h2⟩

theorem axq_rp3c42_0 : ax_RO ax_wC ax_XC axu_rp3c42_0 := by
  intro ρ hp hE hT
  have j0 : ρ 0 % 4 = 1 := pz_gj hE 0 (by decide) rfl
  have j1 : ρ 1 % 4 = 1 := pz_gj hE 1 (by decide) rfl
  have j2 : ρ 2 % 4 = 1 := pz_gj hE 2 (by decide) rfl
  obtain ⟨i3a, i3b, i3c, i3d⟩ := pz_gi hE 3 2147483690 2147483690 (by decide) rfl
  have j4 : ρ 4 % 4 = 1 := pz_gj hE 4 (by decide) rfl
  have c_kind : ay_at hp 8 7 = some (ρ 3) := ay_gfj hE 42 28 15 8 7 (by decide) (by rw [ax_vl_c (by decide)]) (by rw [ax_vl_c (by decide)])
  have o1 : ρ 4 < ρ 1 := pz_go hE 19 7 (by decide)
  obtain ⟨-, -, -, -, F50⟩ : ay_ex hp 8 ∧ ay_ex hp 10 ∧ ay_ex hp 11 ∧ ay_ex hp 12 ∧ pz_x50 (ρ 0) (ρ 1) (ay_at hp 8 5) (ay_at hp 8 6) (ay_at hp 8 7) (ay_at hp 8 8) (ay_at hp 10 0) (ay_at hp 10 1) (ay_at hp 10 2) (ay_at hp 10 3) (ay_at hp 10 4) (ay_at hp 8 9) (ay_at hp 8 11) (ay_at hp 8 10) (ay_at hp 8 3) (ay_at hp 8 4) (ay_at hp 11) (ay_at hp 12) := (ax_XF_lt (by decide)).mp (ax_gx hE (50, [3, 7]) (by decide))
  rw [c_kind] at F50
  have F79 : pz7 (pz_gt (ρ 0)) (pz_gN (ρ 0)) ((ρ 1) / 4) 9 := (ax_XF_lt (by decide)).mp (ax_gx hE (79, [3, 7]) (by decide))
  have F90 : (pz90 (pz_gt (ρ 0)) (pz_gN (ρ 0)) ((ρ 1) / 4) ((ρ 2) / 4) ∧ 1 ≤ (ρ 2) / 4) := (ax_XF_lt (by decide)).mp (ax_gx hE (90, [3, 7, 11]) (by decide))
  have st := pq_op F50 F79 F90.1 (show pz_op (ρ 3 / 4) = true by rw [show ρ 3 / 4 = 42 by omega]; rfl)
  obtain ⟨ρ', h1, h2⟩ := pz_pn1 (K := ρ 1 / 4 + 1) (xf := [(53, [3, 23]), (78, [3, 23]), (90, [3, 23, 11]), (1030, [7, 23]), (1030, [19, 23])]) hE (by decide) (fun ρ' h1 h2 x hx => by
    have q0 : ρ' 0 = ρ 0 := h1 0 (by decide)
    have q1 : ρ' 1 = ρ 1 := h1 1 (by decide)
    have q2 : ρ' 2 = ρ 2 := h1 2 (by decide)
    have q3 : ρ' 3 = ρ 3 := h1 3 (by decide)
    have q4 : ρ' 4 = ρ 4 := h1 4 (by decide)
    rcases List.mem_cons.mp hx with e | hx
    · subst e
      refine (ax_XF_lt (x := 53) (by decide)).mpr ?_
      show ay_ex hp 8 ∧ ay_ex hp 10 ∧ ay_ex hp 11 ∧ ay_ex hp 12 ∧ pz_x53 (ρ' 0) (ρ' 5) (ay_at hp 8 5) (ay_at hp 10 0) (ay_at hp 10 1) (ay_at hp 10 2) (ay_at hp 10 3) (ay_at hp 10 4) (ay_at hp 8 9) (ay_at hp 8 11) (ay_at hp 8 10) (ay_at hp 8 3) (ay_at hp 8 4) (ay_at hp 11) (ay_at hp 12)
      rw [q0, h2]
      exact ⟨(ax_cellT hT (q := 8) (g := 2) rfl), (ax_cellT hT (q := 10) (g := 1) rfl), (ax_cellT hT (q := 11) (g := 14) rfl), (ax_cellT hT (q := 12) (g := 15) rfl), pz_53 (pz_41 _) rfl st.1⟩
    rcases List.mem_cons.mp hx with e | hx
    · subst e
      refine (ax_XF_lt (x := 78) (by decide)).mpr ?_
      show pz7 (pz_gt (ρ' 0)) (pz_gN (ρ' 0)) ((ρ' 5) / 4) 8
      rw [q0, h2]
      rw [pz_41]
      exact st.2.1
    rcases List.mem_cons.mp hx with e | hx
    · subst e
      refine (ax_XF_lt (x := 90) (by decide)).mpr ?_
      show (pz90 (pz_gt (ρ' 0)) (pz_gN (ρ' 0)) ((ρ' 5) / 4) ((ρ' 2) / 4) ∧ 1 ≤ (ρ' 2) / 4)
      rw [q0, q2, h2]
      rw [pz_41]
      exact ⟨st.2.2, F90.2⟩
    rcases List.mem_cons.mp hx with e | hx
    · subst e
      refine (ax_XF_bi (o := 30) (by decide)).mpr (Or.inr ⟨rfl, ?_⟩)
      show ρ' 1 < ρ' 5
      rw [q1, h2]
      omega
    cases List.mem_singleton.mp hx
    refine (ax_XF_bi (o := 30) (by decide)).mpr (Or.inr ⟨rfl, ?_⟩)
    show ρ' 4 < ρ' 5
    rw [q4, h2]
    omega)
  exact ⟨(fun y hy => by cases hy), _, List.mem_cons_self, ρ', h1, h2⟩

theorem axq_rp3c47_0 : ax_RO ax_wC ax_XC axu_rp3c47_0 := by
  intro ρ hp hE hT
  have j0 : ρ 0 % 4 = 1 := pz_gj hE 0 (by decide) rfl
  have j1 : ρ 1 % 4 = 1 := pz_gj hE 1 (by decide) rfl
  have j2 : ρ 2 % 4 = 1 := pz_gj hE 2 (by decide) rfl
  obtain ⟨i3a, i3b, i3c, i3d⟩ := pz_gi hE 3 2147483695 2147483695 (by decide) rfl
  have j4 : ρ 4 % 4 = 1 := pz_gj hE 4 (by decide) rfl
  have c_kind : ay_at hp 8 7 = some (ρ 3) := ay_gfj hE 42 28 15 8 7 (by decide) (by rw [ax_vl_c (by decide)]) (by rw [ax_vl_c (by decide)])
  have o1 : ρ 4 < ρ 1 := pz_go hE 19 7 (by decide)
  obtain ⟨-, -, -, -, F50⟩ : ay_ex hp 8 ∧ ay_ex hp 10 ∧ ay_ex hp 11 ∧ ay_ex hp 12 ∧ pz_x50 (ρ 0) (ρ 1) (ay_at hp 8 5) (ay_at hp 8 6) (ay_at hp 8 7) (ay_at hp 8 8) (ay_at hp 10 0) (ay_at hp 10 1) (ay_at hp 10 2) (ay_at hp 10 3) (ay_at hp 10 4) (ay_at hp 8 9) (ay_at hp 8 11) (ay_at hp 8 10) (ay_at hp 8 3) (ay_at hp 8 4) (ay_at hp 11) (ay_at hp 12) := (ax_XF_lt (by decide)).mp (ax_gx hE (50, [3, 7]) (by decide))
  rw [c_kind] at F50
  have F79 : pz7 (pz_gt (ρ 0)) (pz_gN (ρ 0)) ((ρ 1) / 4) 9 := (ax_XF_lt (by decide)).mp (ax_gx hE (79, [3, 7]) (by decide))
  have F90 : (pz90 (pz_gt (ρ 0)) (pz_gN (ρ 0)) ((ρ 1) / 4) ((ρ 2) / 4) ∧ 1 ≤ (ρ 2) / 4) := (ax_XF_lt (by decide)).mp (ax_gx hE (90, [3, 7, 11]) (by decide))
  have st := pq_op F50 F79 F90.1 (show pz_op (ρ 3 / 4) = true by rw [show ρ 3 / 4 = 47 by omega]; rfl)
  obtain ⟨ρ', h1, h2⟩ := pz_pn1 (K := ρ 1 / 4 + 1) (xf := [(53, [3, 23]), (78, [3, 23]), (90, [3, 23, 11]), (1030, [7, 23]), (1030, [19, 23])]) hE (by decide) (fun ρ' h1 h2 x hx => by
    have q0 : ρ' 0 = ρ 0 := h1 0 (by decide)
    have q1 : ρ' 1 = ρ 1 := h1 1 (by decide)
    have q2 : ρ' 2 = ρ 2 := h1 2 (by decide)
    have q3 : ρ' 3 = ρ 3 := h1 3 (by decide)
    have q4 : ρ' 4 = ρ 4 := h1 4 (by decide)
    rcases List.mem_cons.mp hx with e | hx
    · subst e
      refine (ax_XF_lt (x := 53) (by decide)).mpr ?_
      show ay_ex hp 8 ∧ ay_ex hp 10 ∧ ay_ex hp 11 ∧ ay_ex hp 12 ∧ pz_x53 (ρ' 0) (ρ' 5) (ay_at hp 8 5) (ay_at hp 10 0) (ay_at hp 10 1) (ay_at hp 10 2) (ay_at hp 10 3) (ay_at hp 10 4) (ay_at hp 8 9) (ay_at hp 8 11) (ay_at hp 8 10) (ay_at hp 8 3) (ay_at hp 8 4) (ay_at hp 11) (ay_at hp 12)
      rw [q0, h2]
      exact ⟨(ax_cellT hT (q := 8) (g := 2) rfl), (ax_cellT hT (q := 10) (g := 1) rfl), (ax_cellT hT (q := 11) (g := 14) rfl), (ax_cellT hT (q := 12) (g := 15) rfl), pz_53 (pz_41 _) rfl st.1⟩
    rcases List.mem_cons.mp hx with e | hx
    · subst e
      refine (ax_XF_lt (x := 78) (by decide)).mpr ?_
      show pz7 (pz_gt (ρ' 0)) (pz_gN (ρ' 0)) ((ρ' 5) / 4) 8
      rw [q0, h2]
      rw [pz_41]
      exact st.2.1
    rcases List.mem_cons.mp hx with e | hx
    · subst e
      refine (ax_XF_lt (x := 90) (by decide)).mpr ?_
      show (pz90 (pz_gt (ρ' 0)) (pz_gN (ρ' 0)) ((ρ' 5) / 4) ((ρ' 2) / 4) ∧ 1 ≤ (ρ' 2) / 4)
      rw [q0, q2, h2]
      rw [pz_41]
      exact ⟨st.2.2, F90.2⟩
    rcases List.mem_cons.mp hx with e | hx
    · subst e
      refine (ax_XF_bi (o := 30) (by decide)).mpr (Or.inr ⟨rfl, ?_⟩)
      show ρ' 1 < ρ' 5
      rw [q1, h2]
      omega
    cases List.mem_singleton.mp hx
    refine (ax_XF_bi (o := 30) (by decide)).mpr (Or.inr ⟨rfl, ?_⟩)
    show ρ' 4 < ρ' 5
    rw [q4, h2]
    omega)
  exact ⟨(fun y hy => by cases hy), _, List.mem_cons_self, ρ', h1, h2⟩

theorem axq_rp3c37_0 : ax_RO ax_wC ax_XC axu_rp3c37_0 := by
  intro ρ hp hE hT
  have j0 : ρ 0 % 4 = 1 := pz_gj hE 0 (by decide) rfl
  have j1 : ρ 1 % 4 = 1 := pz_gj hE 1 (by decide) rfl
  have j2 : ρ 2 % 4 = 1 := pz_gj hE 2 (by decide) rfl
  obtain ⟨i3a, i3b, i3c, i3d⟩ := pz_gi hE 3 2147483685 2147483685 (by decide) rfl
  have j4 : ρ 4 % 4 = 1 := pz_gj hE 4 (by decide) rfl
  have c_kind : ay_at hp 8 7 = some (ρ 3) := ay_gfj hE 42 28 15 8 7 (by decide) (by rw [ax_vl_c (by decide)]) (by rw [ax_vl_c (by decide)])
  have o1 : ρ 4 < ρ 1 := pz_go hE 19 7 (by decide)
  obtain ⟨-, -, -, -, F50⟩ : ay_ex hp 8 ∧ ay_ex hp 10 ∧ ay_ex hp 11 ∧ ay_ex hp 12 ∧ pz_x50 (ρ 0) (ρ 1) (ay_at hp 8 5) (ay_at hp 8 6) (ay_at hp 8 7) (ay_at hp 8 8) (ay_at hp 10 0) (ay_at hp 10 1) (ay_at hp 10 2) (ay_at hp 10 3) (ay_at hp 10 4) (ay_at hp 8 9) (ay_at hp 8 11) (ay_at hp 8 10) (ay_at hp 8 3) (ay_at hp 8 4) (ay_at hp 11) (ay_at hp 12) := (ax_XF_lt (by decide)).mp (ax_gx hE (50, [3, 7]) (by decide))
  rw [c_kind] at F50
  have F79 : pz7 (pz_gt (ρ 0)) (pz_gN (ρ 0)) ((ρ 1) / 4) 9 := (ax_XF_lt (by decide)).mp (ax_gx hE (79, [3, 7]) (by decide))
  have F90 : (pz90 (pz_gt (ρ 0)) (pz_gN (ρ 0)) ((ρ 1) / 4) ((ρ 2) / 4) ∧ 1 ≤ (ρ 2) / 4) := (ax_XF_lt (by decide)).mp (ax_gx hE (90, [3, 7, 11]) (by decide))
  have st := pq_op F50 F79 F90.1 (show pz_op (ρ 3 / 4) = true by rw [show ρ 3 / 4 = 37 by omega]; rfl)
  obtain ⟨ρ', h1, h2⟩ := pz_pn1 (K := ρ 1 / 4 + 1) (xf := [(53, [3, 23]), (78, [3, 23]), (90, [3, 23, 11]), (1030, [7, 23]), (1030, [19, 23])]) hE (by decide) (fun ρ' h1 h2 x hx => by
    have q0 : ρ' 0 = ρ 0 := h1 0 (by decide)
    have q1 : ρ' 1 = ρ 1 := h1 1 (by decide)
    have q2 : ρ' 2 = ρ 2 := h1 2 (by decide)
    have q3 : ρ' 3 = ρ 3 := h1 3 (by decide)
    have q4 : ρ' 4 = ρ 4 := h1 4 (by decide)
    rcases List.mem_cons.mp hx with e | hx
    · subst e
      refine (ax_XF_lt (x := 53) (by decide)).mpr ?_
      show ay_ex hp 8 ∧ ay_ex hp 10 ∧ ay_ex hp 11 ∧ ay_ex hp 12 ∧ pz_x53 (ρ' 0) (ρ' 5) (ay_at hp 8 5) (ay_at hp 10 0) (ay_at hp 10 1) (ay_at hp 10 2) (ay_at hp 10 3) (ay_at hp 10 4) (ay_at hp 8 9) (ay_at hp 8 11) (ay_at hp 8 10) (ay_at hp 8 3) (ay_at hp 8 4) (ay_at hp 11) (ay_at hp 12)
      rw [q0, h2]
      exact ⟨(ax_cellT hT (q := 8) (g := 2) rfl), (ax_cellT hT (q := 10) (g := 1) rfl), (ax_cellT hT (q := 11) (g := 14) rfl), (ax_cellT hT (q := 12) (g := 15) rfl), pz_53 (pz_41 _) rfl st.1⟩
    rcases List.mem_cons.mp hx with e | hx
    · subst e
      refine (ax_XF_lt (x := 78) (by decide)).mpr ?_
      show pz7 (pz_gt (ρ' 0)) (pz_gN (ρ' 0)) ((ρ' 5) / 4) 8
      rw [q0, h2]
      rw [pz_41]
      exact st.2.1
    rcases List.mem_cons.mp hx with e | hx
    · subst e
      refine (ax_XF_lt (x := 90) (by decide)).mpr ?_
      show (pz90 (pz_gt (ρ' 0)) (pz_gN (ρ' 0)) ((ρ' 5) / 4) ((ρ' 2) / 4) ∧ 1 ≤ (ρ' 2) / 4)
      rw [q0, q2, h2]
      rw [pz_41]
      exact ⟨st.2.2, F90.2⟩
    rcases List.mem_cons.mp hx with e | hx
    · subst e
      refine (ax_XF_bi (o := 30) (by decide)).mpr (Or.inr ⟨rfl, ?_⟩)
      show ρ' 1 < ρ' 5
      rw [q1, h2]
      omega
    cases List.mem_singleton.mp hx
    refine (ax_XF_bi (o := 30) (by decide)).mpr (Or.inr ⟨rfl, ?_⟩)
    show ρ' 4 < ρ' 5
    rw [q4, h2]
    omega)
  exact ⟨(fun y hy => by cases hy), _, List.mem_cons_self, ρ', h1, h2⟩

theorem axq_rp3c42_1 : ax_RO ax_wC ax_XC axu_rp3c42_1 := by
  intro ρ hp hE hT
  have j0 : ρ 0 % 4 = 1 := pz_gj hE 0 (by decide) rfl
  have j1 : ρ 1 % 4 = 1 := pz_gj hE 1 (by decide) rfl
  have j2 : ρ 2 % 4 = 1 := pz_gj hE 2 (by decide) rfl
  obtain ⟨i3a, i3b, i3c, i3d⟩ := pz_gi hE 3 2147483690 2147483690 (by decide) rfl
  have j4 : ρ 4 % 4 = 1 := pz_gj hE 4 (by decide) rfl
  have c_kind : ay_at hp 8 7 = some (ρ 3) := ay_gfj hE 42 28 15 8 7 (by decide) (by rw [ax_vl_c (by decide)]) (by rw [ax_vl_c (by decide)])
  have o1 : ρ 4 < ρ 1 := pz_go hE 19 7 (by decide)
  obtain ⟨-, -, -, -, F50⟩ : ay_ex hp 8 ∧ ay_ex hp 10 ∧ ay_ex hp 11 ∧ ay_ex hp 12 ∧ pz_x50 (ρ 0) (ρ 1) (ay_at hp 8 5) (ay_at hp 8 6) (ay_at hp 8 7) (ay_at hp 8 8) (ay_at hp 10 0) (ay_at hp 10 1) (ay_at hp 10 2) (ay_at hp 10 3) (ay_at hp 10 4) (ay_at hp 8 9) (ay_at hp 8 11) (ay_at hp 8 10) (ay_at hp 8 3) (ay_at hp 8 4) (ay_at hp 11) (ay_at hp 12) := (ax_XF_lt (by decide)).mp (ax_gx hE (50, [3, 7]) (by decide))
  rw [c_kind] at F50
  have F79 : pz7 (pz_gt (ρ 0)) (pz_gN (ρ 0)) ((ρ 1) / 4) 9 := (ax_XF_lt (by decide)).mp (ax_gx hE (79, [3, 7]) (by decide))
  have F90 : (pz90 (pz_gt (ρ 0)) (pz_gN (ρ 0)) ((ρ 1) / 4) ((ρ 2) / 4) ∧ 1 ≤ (ρ 2) / 4) := (ax_XF_lt (by decide)).mp (ax_gx hE (90, [3, 7, 11]) (by decide))
  have st := pq_op F50 F79 F90.1 (show pz_op (ρ 3 / 4) = true by rw [show ρ 3 / 4 = 42 by omega]; rfl)
  obtain ⟨ρ', h1, h2⟩ := pz_pn1 (K := ρ 1 / 4 + 1) (xf := [(53, [3, 23]), (78, [3, 23]), (90, [3, 23, 11]), (1030, [7, 23]), (1030, [19, 23])]) hE (by decide) (fun ρ' h1 h2 x hx => by
    have q0 : ρ' 0 = ρ 0 := h1 0 (by decide)
    have q1 : ρ' 1 = ρ 1 := h1 1 (by decide)
    have q2 : ρ' 2 = ρ 2 := h1 2 (by decide)
    have q3 : ρ' 3 = ρ 3 := h1 3 (by decide)
    have q4 : ρ' 4 = ρ 4 := h1 4 (by decide)
    rcases List.mem_cons.mp hx with e | hx
    · subst e
      refine (ax_XF_lt (x := 53) (by decide)).mpr ?_
      show ay_ex hp 8 ∧ ay_ex hp 10 ∧ ay_ex hp 11 ∧ ay_ex hp 12 ∧ pz_x53 (ρ' 0) (ρ' 5) (ay_at hp 8 5) (ay_at hp 10 0) (ay_at hp 10 1) (ay_at hp 10 2) (ay_at hp 10 3) (ay_at hp 10 4) (ay_at hp 8 9) (ay_at hp 8 11) (ay_at hp 8 10) (ay_at hp 8 3) (ay_at hp 8 4) (ay_at hp 11) (ay_at hp 12)
      rw [q0, h2]
      exact ⟨(ax_cellT hT (q := 8) (g := 2) rfl), (ax_cellT hT (q := 10) (g := 1) rfl), (ax_cellT hT (q := 11) (g := 14) rfl), (ax_cellT hT (q := 12) (g := 15) rfl), pz_53 (pz_41 _) rfl st.1⟩
    rcases List.mem_cons.mp hx with e | hx
    · subst e
      refine (ax_XF_lt (x := 78) (by decide)).mpr ?_
      show pz7 (pz_gt (ρ' 0)) (pz_gN (ρ' 0)) ((ρ' 5) / 4) 8
      rw [q0, h2]
      rw [pz_41]
      exact st.2.1
    rcases List.mem_cons.mp hx with e | hx
    · subst e
      refine (ax_XF_lt (x := 90) (by decide)).mpr ?_
      show (pz90 (pz_gt (ρ' 0)) (pz_gN (ρ' 0)) ((ρ' 5) / 4) ((ρ' 2) / 4) ∧ 1 ≤ (ρ' 2) / 4)
      rw [q0, q2, h2]
      rw [pz_41]
      exact ⟨st.2.2, F90.2⟩
    rcases List.mem_cons.mp hx with e | hx
    · subst e
      refine (ax_XF_bi (o := 30) (by decide)).mpr (Or.inr ⟨rfl, ?_⟩)
      show ρ' 1 < ρ' 5
      rw [q1, h2]
      omega
    cases List.mem_singleton.mp hx
    refine (ax_XF_bi (o := 30) (by decide)).mpr (Or.inr ⟨rfl, ?_⟩)
    show ρ' 4 < ρ' 5
    rw [q4, h2]
    omega)
  exact ⟨(fun y hy => by cases hy), _, List.mem_cons_self, ρ', h1, h2⟩

theorem axq_rp3c47_1 : ax_RO ax_wC ax_XC axu_rp3c47_1 := by
  intro ρ hp hE hT
  have j0 : ρ 0 % 4 = 1 := pz_gj hE 0 (by decide) rfl
  have j1 : ρ 1 % 4 = 1 := pz_gj hE 1 (by decide) rfl
  have j2 : ρ 2 % 4 = 1 := pz_gj hE 2 (by decide) rfl
  obtain ⟨i3a, i3b, i3c, i3d⟩ := pz_gi hE 3 2147483695 2147483695 (by decide) rfl
  have j4 : ρ 4 % 4 = 1 := pz_gj hE 4 (by decide) rfl
  have c_kind : ay_at hp 8 7 = some (ρ 3) := ay_gfj hE 42 28 15 8 7 (by decide) (by rw [ax_vl_c (by decide)]) (by rw [ax_vl_c (by decide)])
  have o1 : ρ 4 < ρ 1 := pz_go hE 19 7 (by decide)
  obtain ⟨-, -, -, -, F50⟩ : ay_ex hp 8 ∧ ay_ex hp 10 ∧ ay_ex hp 11 ∧ ay_ex hp 12 ∧ pz_x50 (ρ 0) (ρ 1) (ay_at hp 8 5) (ay_at hp 8 6) (ay_at hp 8 7) (ay_at hp 8 8) (ay_at hp 10 0) (ay_at hp 10 1) (ay_at hp 10 2) (ay_at hp 10 3) (ay_at hp 10 4) (ay_at hp 8 9) (ay_at hp 8 11) (ay_at hp 8 10) (ay_at hp 8 3) (ay_at hp 8 4) (ay_at hp 11) (ay_at hp 12) := (ax_XF_lt (by decide)).mp (ax_gx hE (50, [3, 7]) (by decide))
  rw [c_kind] at F50
  have F79 : pz7 (pz_gt (ρ 0)) (pz_gN (ρ 0)) ((ρ 1) / 4) 9 := (ax_XF_lt (by decide)).mp (ax_gx hE (79, [3, 7]) (by decide))
  have F90 : (pz90 (pz_gt (ρ 0)) (pz_gN (ρ 0)) ((ρ 1) / 4) ((ρ 2) / 4) ∧ 1 ≤ (ρ 2) / 4) := (ax_XF_lt (by decide)).mp (ax_gx hE (90, [3, 7, 11]) (by decide))
  have st := pq_op F50 F79 F90.1 (show pz_op (ρ 3 / 4) = true by rw [show ρ 3 / 4 = 47 by omega]; rfl)
  obtain ⟨ρ', h1, h2⟩ := pz_pn1 (K := ρ 1 / 4 + 1) (xf := [(53, [3, 23]), (78, [3, 23]), (90, [3, 23, 11]), (1030, [7, 23]), (1030, [19, 23])]) hE (by decide) (fun ρ' h1 h2 x hx => by
    have q0 : ρ' 0 = ρ 0 := h1 0 (by decide)
    have q1 : ρ' 1 = ρ 1 := h1 1 (by decide)
    have q2 : ρ' 2 = ρ 2 := h1 2 (by decide)
    have q3 : ρ' 3 = ρ 3 := h1 3 (by decide)
    have q4 : ρ' 4 = ρ 4 := h1 4 (by decide)
    rcases List.mem_cons.mp hx with e | hx
    · subst e
      refine (ax_XF_lt (x := 53) (by decide)).mpr ?_
      show ay_ex hp 8 ∧ ay_ex hp 10 ∧ ay_ex hp 11 ∧ ay_ex hp 12 ∧ pz_x53 (ρ' 0) (ρ' 5) (ay_at hp 8 5) (ay_at hp 10 0) (ay_at hp 10 1) (ay_at hp 10 2) (ay_at hp 10 3) (ay_at hp 10 4) (ay_at hp 8 9) (ay_at hp 8 11) (ay_at hp 8 10) (ay_at hp 8 3) (ay_at hp 8 4) (ay_at hp 11) (ay_at hp 12)
      rw [q0, h2]
      exact ⟨(ax_cellT hT (q := 8) (g := 2) rfl), (ax_cellT hT (q := 10) (g := 1) rfl), (ax_cellT hT (q := 11) (g := 14) rfl), (ax_cellT hT (q := 12) (g := 15) rfl), pz_53 (pz_41 _) rfl st.1⟩
    rcases List.mem_cons.mp hx with e | hx
    · subst e
      refine (ax_XF_lt (x := 78) (by decide)).mpr ?_
      show pz7 (pz_gt (ρ' 0)) (pz_gN (ρ' 0)) ((ρ' 5) / 4) 8
      rw [q0, h2]
      rw [pz_41]
      exact st.2.1
    rcases List.mem_cons.mp hx with e | hx
    · subst e
      refine (ax_XF_lt (x := 90) (by decide)).mpr ?_
      show (pz90 (pz_gt (ρ' 0)) (pz_gN (ρ' 0)) ((ρ' 5) / 4) ((ρ' 2) / 4) ∧ 1 ≤ (ρ' 2) / 4)
      rw [q0, q2, h2]
      rw [pz_41]
      exact ⟨st.2.2, F90.2⟩
    rcases List.mem_cons.mp hx with e | hx
    · subst e
      refine (ax_XF_bi (o := 30) (by decide)).mpr (Or.inr ⟨rfl, ?_⟩)
      show ρ' 1 < ρ' 5
      rw [q1, h2]
      omega
    cases List.mem_singleton.mp hx
    refine (ax_XF_bi (o := 30) (by decide)).mpr (Or.inr ⟨rfl, ?_⟩)
    show ρ' 4 < ρ' 5
    rw [q4, h2]
    omega)
  exact ⟨(fun y hy => by cases hy), _, List.mem_cons_self, ρ', h1, h2⟩

theorem axq_rp3c37_1 : ax_RO ax_wC ax_XC axu_rp3c37_1 := by
  intro ρ hp hE hT
  have j0 : ρ 0 % 4 = 1 := pz_gj hE 0 (by decide) rfl
  have j1 : ρ 1 % 4 = 1 := pz_gj hE 1 (by decide) rfl
  have j2 : ρ 2 % 4 = 1 := pz_gj hE 2 (by decide) rfl
  obtain ⟨i3a, i3b, i3c, i3d⟩ := pz_gi hE 3 2147483685 2147483685 (by decide) rfl
  have j4 : ρ 4 % 4 = 1 := pz_gj hE 4 (by decide) rfl
  have c_kind : ay_at hp 8 7 = some (ρ 3) := ay_gfj hE 42 28 15 8 7 (by decide) (by rw [ax_vl_c (by decide)]) (by rw [ax_vl_c (by decide)])
  have o1 : ρ 4 < ρ 1 := pz_go hE 19 7 (by decide)
  obtain ⟨-, -, -, -, F50⟩ : ay_ex hp 8 ∧ ay_ex hp 10 ∧ ay_ex hp 11 ∧ ay_ex hp 12 ∧ pz_x50 (ρ 0) (ρ 1) (ay_at hp 8 5) (ay_at hp 8 6) (ay_at hp 8 7) (ay_at hp 8 8) (ay_at hp 10 0) (ay_at hp 10 1) (ay_at hp 10 2) (ay_at hp 10 3) (ay_at hp 10 4) (ay_at hp 8 9) (ay_at hp 8 11) (ay_at hp 8 10) (ay_at hp 8 3) (ay_at hp 8 4) (ay_at hp 11) (ay_at hp 12) := (ax_XF_lt (by decide)).mp (ax_gx hE (50, [3, 7]) (by decide))
  rw [c_kind] at F50
  have F79 : pz7 (pz_gt (ρ 0)) (pz_gN (ρ 0)) ((ρ 1) / 4) 9 := (ax_XF_lt (by decide)).mp (ax_gx hE (79, [3, 7]) (by decide))
  have F90 : (pz90 (pz_gt (ρ 0)) (pz_gN (ρ 0)) ((ρ 1) / 4) ((ρ 2) / 4) ∧ 1 ≤ (ρ 2) / 4) := (ax_XF_lt (by decide)).mp (ax_gx hE (90, [3, 7, 11]) (by decide))
  have st := pq_op F50 F79 F90.1 (show pz_op (ρ 3 / 4) = true by rw [show ρ 3 / 4 = 37 by omega]; rfl)
  obtain ⟨ρ', h1, h2⟩ := pz_pn1 (K := ρ 1 / 4 + 1) (xf := [(53, [3, 23]), (78, [3, 23]), (90, [3, 23, 11]), (1030, [7, 23]), (1030, [19, 23])]) hE (by decide) (fun ρ' h1 h2 x hx => by
    have q0 : ρ' 0 = ρ 0 := h1 0 (by decide)
    have q1 : ρ' 1 = ρ 1 := h1 1 (by decide)
    have q2 : ρ' 2 = ρ 2 := h1 2 (by decide)
    have q3 : ρ' 3 = ρ 3 := h1 3 (by decide)
    have q4 : ρ' 4 = ρ 4 := h1 4 (by decide)
    rcases List.mem_cons.mp hx with e | hx
    · subst e
      refine (ax_XF_lt (x := 53) (by decide)).mpr ?_
      show ay_ex hp 8 ∧ ay_ex hp 10 ∧ ay_ex hp 11 ∧ ay_ex hp 12 ∧ pz_x53 (ρ' 0) (ρ' 5) (ay_at hp 8 5) (ay_at hp 10 0) (ay_at hp 10 1) (ay_at hp 10 2) (ay_at hp 10 3) (ay_at hp 10 4) (ay_at hp 8 9) (ay_at hp 8 11) (ay_at hp 8 10) (ay_at hp 8 3) (ay_at hp 8 4) (ay_at hp 11) (ay_at hp 12)
      rw [q0, h2]
      exact ⟨(ax_cellT hT (q := 8) (g := 2) rfl), (ax_cellT hT (q := 10) (g := 1) rfl), (ax_cellT hT (q := 11) (g := 14) rfl), (ax_cellT hT (q := 12) (g := 15) rfl), pz_53 (pz_41 _) rfl st.1⟩
    rcases List.mem_cons.mp hx with e | hx
    · subst e
      refine (ax_XF_lt (x := 78) (by decide)).mpr ?_
      show pz7 (pz_gt (ρ' 0)) (pz_gN (ρ' 0)) ((ρ' 5) / 4) 8
      rw [q0, h2]
      rw [pz_41]
      exact st.2.1
    rcases List.mem_cons.mp hx with e | hx
    · subst e
      refine (ax_XF_lt (x := 90) (by decide)).mpr ?_
      show (pz90 (pz_gt (ρ' 0)) (pz_gN (ρ' 0)) ((ρ' 5) / 4) ((ρ' 2) / 4) ∧ 1 ≤ (ρ' 2) / 4)
      rw [q0, q2, h2]
      rw [pz_41]
      exact ⟨st.2.2, F90.2⟩
    rcases List.mem_cons.mp hx with e | hx
    · subst e
      refine (ax_XF_bi (o := 30) (by decide)).mpr (Or.inr ⟨rfl, ?_⟩)
      show ρ' 1 < ρ' 5
      rw [q1, h2]
      omega
    cases List.mem_singleton.mp hx
    refine (ax_XF_bi (o := 30) (by decide)).mpr (Or.inr ⟨rfl, ?_⟩)
    show ρ' 4 < ρ' 5
    rw [q4, h2]
    omega)
  exact ⟨(fun y hy => by cases hy), _, List.mem_cons_self, ρ', h1, h2⟩

theorem axq_rp3c42_2 : ax_RO ax_wC ax_XC axu_rp3c42_2 := by
  intro ρ hp hE hT
  have j0 : ρ 0 % 4 = 1 := pz_gj hE 0 (by decide) rfl
  have j1 : ρ 1 % 4 = 1 := pz_gj hE 1 (by decide) rfl
  have j2 : ρ 2 % 4 = 1 := pz_gj hE 2 (by decide) rfl
  obtain ⟨i3a, i3b, i3c, i3d⟩ := pz_gi hE 3 2147483690 2147483690 (by decide) rfl
  have j4 : ρ 4 % 4 = 1 := pz_gj hE 4 (by decide) rfl
  have c_kind : ay_at hp 8 7 = some (ρ 3) := ay_gfj hE 42 28 15 8 7 (by decide) (by rw [ax_vl_c (by decide)]) (by rw [ax_vl_c (by decide)])
  have o1 : ρ 4 < ρ 1 := pz_go hE 19 7 (by decide)
  obtain ⟨-, -, -, -, F50⟩ : ay_ex hp 8 ∧ ay_ex hp 10 ∧ ay_ex hp 11 ∧ ay_ex hp 12 ∧ pz_x50 (ρ 0) (ρ 1) (ay_at hp 8 5) (ay_at hp 8 6) (ay_at hp 8 7) (ay_at hp 8 8) (ay_at hp 10 0) (ay_at hp 10 1) (ay_at hp 10 2) (ay_at hp 10 3) (ay_at hp 10 4) (ay_at hp 8 9) (ay_at hp 8 11) (ay_at hp 8 10) (ay_at hp 8 3) (ay_at hp 8 4) (ay_at hp 11) (ay_at hp 12) := (ax_XF_lt (by decide)).mp (ax_gx hE (50, [3, 7]) (by decide))
  rw [c_kind] at F50
  have F79 : pz7 (pz_gt (ρ 0)) (pz_gN (ρ 0)) ((ρ 1) / 4) 9 := (ax_XF_lt (by decide)).mp (ax_gx hE (79, [3, 7]) (by decide))
  have F90 : (pz90 (pz_gt (ρ 0)) (pz_gN (ρ 0)) ((ρ 1) / 4) ((ρ 2) / 4) ∧ 1 ≤ (ρ 2) / 4) := (ax_XF_lt (by decide)).mp (ax_gx hE (90, [3, 7, 11]) (by decide))
  have st := pq_op F50 F79 F90.1 (show pz_op (ρ 3 / 4) = true by rw [show ρ 3 / 4 = 42 by omega]; rfl)
  obtain ⟨ρ', h1, h2⟩ := pz_pn1 (K := ρ 1 / 4 + 1) (xf := [(53, [3, 23]), (78, [3, 23]), (90, [3, 23, 11]), (1030, [7, 23]), (1030, [19, 23])]) hE (by decide) (fun ρ' h1 h2 x hx => by
    have q0 : ρ' 0 = ρ 0 := h1 0 (by decide)
    have q1 : ρ' 1 = ρ 1 := h1 1 (by decide)
    have q2 : ρ' 2 = ρ 2 := h1 2 (by decide)
    have q3 : ρ' 3 = ρ 3 := h1 3 (by decide)
    have q4 : ρ' 4 = ρ 4 := h1 4 (by decide)
    rcases List.mem_cons.mp hx with e | hx
    · subst e
      refine (ax_XF_lt (x := 53) (by decide)).mpr ?_
      show ay_ex hp 8 ∧ ay_ex hp 10 ∧ ay_ex hp 11 ∧ ay_ex hp 12 ∧ pz_x53 (ρ' 0) (ρ' 5) (ay_at hp 8 5) (ay_at hp 10 0) (ay_at hp 10 1) (ay_at hp 10 2) (ay_at hp 10 3) (ay_at hp 10 4) (ay_at hp 8 9) (ay_at hp 8 11) (ay_at hp 8 10) (ay_at hp 8 3) (ay_at hp 8 4) (ay_at hp 11) (ay_at hp 12)
      rw [q0, h2]
      exact ⟨(ax_cellT hT (q := 8) (g := 2) rfl), (ax_cellT hT (q := 10) (g := 1) rfl), (ax_cellT hT (q := 11) (g := 14) rfl), (ax_cellT hT (q := 12) (g := 15) rfl), pz_53 (pz_41 _) rfl st.1⟩
    rcases List.mem_cons.mp hx with e | hx
    · subst e
      refine (ax_XF_lt (x := 78) (by decide)).mpr ?_
      show pz7 (pz_gt (ρ' 0)) (pz_gN (ρ' 0)) ((ρ' 5) / 4) 8
      rw [q0, h2]
      rw [pz_41]
      exact st.2.1
    rcases List.mem_cons.mp hx with e | hx
    · subst e
      refine (ax_XF_lt (x := 90) (by decide)).mpr ?_
      show (pz90 (pz_gt (ρ' 0)) (pz_gN (ρ' 0)) ((ρ' 5) / 4) ((ρ' 2) / 4) ∧ 1 ≤ (ρ' 2) / 4)
      rw [q0, q2, h2]
      rw [pz_41]
      exact ⟨st.2.2, F90.2⟩
    rcases List.mem_cons.mp hx with e | hx
    · subst e
      refine (ax_XF_bi (o := 30) (by decide)).mpr (Or.inr ⟨rfl, ?_⟩)
      show ρ' 1 < ρ' 5
      rw [q1, h2]
      omega
    cases List.mem_singleton.mp hx
    refine (ax_XF_bi (o := 30) (by decide)).mpr (Or.inr ⟨rfl, ?_⟩)
    show ρ' 4 < ρ' 5
    rw [q4, h2]
    omega)
  exact ⟨(fun y hy => by cases hy), _, List.mem_cons_self, ρ', h1, h2⟩

theorem axq_rp3c47_2 : ax_RO ax_wC ax_XC axu_rp3c47_2 := by
  intro ρ hp hE hT
  have j0 : ρ 0 % 4 = 1 := pz_gj hE 0 (by decide) rfl
  have j1 : ρ 1 % 4 = 1 := pz_gj hE 1 (by decide) rfl
  have j2 : ρ 2 % 4 = 1 := pz_gj hE 2 (by decide) rfl
  obtain ⟨i3a, i3b, i3c, i3d⟩ := pz_gi hE 3 2147483695 2147483695 (by decide) rfl
  have j4 : ρ 4 % 4 = 1 := pz_gj hE 4 (by decide) rfl
  have c_kind : ay_at hp 8 7 = some (ρ 3) := ay_gfj hE 42 28 15 8 7 (by decide) (by rw [ax_vl_c (by decide)]) (by rw [ax_vl_c (by decide)])
  have o1 : ρ 4 < ρ 1 := pz_go hE 19 7 (by decide)
  obtain ⟨-, -, -, -, F50⟩ : ay_ex hp 8 ∧ ay_ex hp 10 ∧ ay_ex hp 11 ∧ ay_ex hp 12 ∧ pz_x50 (ρ 0) (ρ 1) (ay_at hp 8 5) (ay_at hp 8 6) (ay_at hp 8 7) (ay_at hp 8 8) (ay_at hp 10 0) (ay_at hp 10 1) (ay_at hp 10 2) (ay_at hp 10 3) (ay_at hp 10 4) (ay_at hp 8 9) (ay_at hp 8 11) (ay_at hp 8 10) (ay_at hp 8 3) (ay_at hp 8 4) (ay_at hp 11) (ay_at hp 12) := (ax_XF_lt (by decide)).mp (ax_gx hE (50, [3, 7]) (by decide))
  rw [c_kind] at F50
  have F79 : pz7 (pz_gt (ρ 0)) (pz_gN (ρ 0)) ((ρ 1) / 4) 9 := (ax_XF_lt (by decide)).mp (ax_gx hE (79, [3, 7]) (by decide))
  have F90 : (pz90 (pz_gt (ρ 0)) (pz_gN (ρ 0)) ((ρ 1) / 4) ((ρ 2) / 4) ∧ 1 ≤ (ρ 2) / 4) := (ax_XF_lt (by decide)).mp (ax_gx hE (90, [3, 7, 11]) (by decide))
  have st := pq_op F50 F79 F90.1 (show pz_op (ρ 3 / 4) = true by rw [show ρ 3 / 4 = 47 by omega]; rfl)
  obtain ⟨ρ', h1, h2⟩ := pz_pn1 (K := ρ 1 / 4 + 1) (xf := [(53, [3, 23]), (78, [3, 23]), (90, [3, 23, 11]), (1030, [7, 23]), (1030, [19, 23])]) hE (by decide) (fun ρ' h1 h2 x hx => by
    have q0 : ρ' 0 = ρ 0 := h1 0 (by decide)
    have q1 : ρ' 1 = ρ 1 := h1 1 (by decide)
    have q2 : ρ' 2 = ρ 2 := h1 2 (by decide)
    have q3 : ρ' 3 = ρ 3 := h1 3 (by decide)
    have q4 : ρ' 4 = ρ 4 := h1 4 (by decide)
    rcases List.mem_cons.mp hx with e | hx
    · subst e
      refine (ax_XF_lt (x := 53) (by decide)).mpr ?_
      show ay_ex hp 8 ∧ ay_ex hp 10 ∧ ay_ex hp 11 ∧ ay_ex hp 12 ∧ pz_x53 (ρ' 0) (ρ' 5) (ay_at hp 8 5) (ay_at hp 10 0) (ay_at hp 10 1) (ay_at hp 10 2) (ay_at hp 10 3) (ay_at hp 10 4) (ay_at hp 8 9) (ay_at hp 8 11) (ay_at hp 8 10) (ay_at hp 8 3) (ay_at hp 8 4) (ay_at hp 11) (ay_at hp 12)
      rw [q0, h2]
      exact ⟨(ax_cellT hT (q := 8) (g := 2) rfl), (ax_cellT hT (q := 10) (g := 1) rfl), (ax_cellT hT (q := 11) (g := 14) rfl), (ax_cellT hT (q := 12) (g := 15) rfl), pz_53 (pz_41 _) rfl st.1⟩
    rcases List.mem_cons.mp hx with e | hx
    · subst e
      refine (ax_XF_lt (x := 78) (by decide)).mpr ?_
      show pz7 (pz_gt (ρ' 0)) (pz_gN (ρ' 0)) ((ρ' 5) / 4) 8
      rw [q0, h2]
      rw [pz_41]
      exact st.2.1
    rcases List.mem_cons.mp hx with e | hx
    · subst e
      refine (ax_XF_lt (x := 90) (by decide)).mpr ?_
      show (pz90 (pz_gt (ρ' 0)) (pz_gN (ρ' 0)) ((ρ' 5) / 4) ((ρ' 2) / 4) ∧ 1 ≤ (ρ' 2) / 4)
      rw [q0, q2, h2]
      rw [pz_41]
      exact ⟨st.2.2, F90.2⟩
    rcases List.mem_cons.mp hx with e | hx
    · subst e
      refine (ax_XF_bi (o := 30) (by decide)).mpr (Or.inr ⟨rfl, ?_⟩)
      show ρ' 1 < ρ' 5
      rw [q1, h2]
      omega
    cases List.mem_singleton.mp hx
    refine (ax_XF_bi (o := 30) (by decide)).mpr (Or.inr ⟨rfl, ?_⟩)
    show ρ' 4 < ρ' 5
    rw [q4, h2]
    omega)
  exact ⟨(fun y hy => by cases hy), _, List.mem_cons_self, ρ', h1, h2⟩

theorem axq_rp3c37_2 : ax_RO ax_wC ax_XC axu_rp3c37_2 := by
  intro ρ hp hE hT
  have j0 : ρ 0 % 4 = 1 := pz_gj hE 0 (by decide) rfl
  have j1 : ρ 1 % 4 = 1 := pz_gj hE 1 (by decide) rfl
  have j2 : ρ 2 % 4 = 1 := pz_gj hE 2 (by decide) rfl
  obtain ⟨i3a, i3b, i3c, i3d⟩ := pz_gi hE 3 2147483685 2147483685 (by decide) rfl
  have j4 : ρ 4 % 4 = 1 := pz_gj hE 4 (by decide) rfl
  have c_kind : ay_at hp 8 7 = some (ρ 3) := ay_gfj hE 42 28 15 8 7 (by decide) (by rw [ax_vl_c (by decide)]) (by rw [ax_vl_c (by decide)])
  have o1 : ρ 4 < ρ 1 := pz_go hE 19 7 (by decide)
  obtain ⟨-, -, -, -, F50⟩ : ay_ex hp 8 ∧ ay_ex hp 10 ∧ ay_ex hp 11 ∧ ay_ex hp 12 ∧ pz_x50 (ρ 0) (ρ 1) (ay_at hp 8 5) (ay_at hp 8 6) (ay_at hp 8 7) (ay_at hp 8 8) (ay_at hp 10 0) (ay_at hp 10 1) (ay_at hp 10 2) (ay_at hp 10 3) (ay_at hp 10 4) (ay_at hp 8 9) (ay_at hp 8 11) (ay_at hp 8 10) (ay_at hp 8 3) (ay_at hp 8 4) (ay_at hp 11) (ay_at hp 12) := (ax_XF_lt (by decide)).mp (ax_gx hE (50, [3, 7]) (by decide))
  rw [c_kind] at F50
  have F79 : pz7 (pz_gt (ρ 0)) (pz_gN (ρ 0)) ((ρ 1) / 4) 9 := (ax_XF_lt (by decide)).mp (ax_gx hE (79, [3, 7]) (by decide))
  have F90 : (pz90 (pz_gt (ρ 0)) (pz_gN (ρ 0)) ((ρ 1) / 4) ((ρ 2) / 4) ∧ 1 ≤ (ρ 2) / 4) := (ax_XF_lt (by decide)).mp (ax_gx hE (90, [3, 7, 11]) (by decide))
  have st := pq_op F50 F79 F90.1 (show pz_op (ρ 3 / 4) = true by rw [show ρ 3 / 4 = 37 by omega]; rfl)
  obtain ⟨ρ', h1, h2⟩ := pz_pn1 (K := ρ 1 / 4 + 1) (xf := [(53, [3, 23]), (78, [3, 23]), (90, [3, 23, 11]), (1030, [7, 23]), (1030, [19, 23])]) hE (by decide) (fun ρ' h1 h2 x hx => by
    have q0 : ρ' 0 = ρ 0 := h1 0 (by decide)
    have q1 : ρ' 1 = ρ 1 := h1 1 (by decide)
    have q2 : ρ' 2 = ρ 2 := h1 2 (by decide)
    have q3 : ρ' 3 = ρ 3 := h1 3 (by decide)
    have q4 : ρ' 4 = ρ 4 := h1 4 (by decide)
    rcases List.mem_cons.mp hx with e | hx
    · subst e
      refine (ax_XF_lt (x := 53) (by decide)).mpr ?_
      show ay_ex hp 8 ∧ ay_ex hp 10 ∧ ay_ex hp 11 ∧ ay_ex hp 12 ∧ pz_x53 (ρ' 0) (ρ' 5) (ay_at hp 8 5) (ay_at hp 10 0) (ay_at hp 10 1) (ay_at hp 10 2) (ay_at hp 10 3) (ay_at hp 10 4) (ay_at hp 8 9) (ay_at hp 8 11) (ay_at hp 8 10) (ay_at hp 8 3) (ay_at hp 8 4) (ay_at hp 11) (ay_at hp 12)
      rw [q0, h2]
      exact ⟨(ax_cellT hT (q := 8) (g := 2) rfl), (ax_cellT hT (q := 10) (g := 1) rfl), (ax_cellT hT (q := 11) (g := 14) rfl), (ax_cellT hT (q := 12) (g := 15) rfl), pz_53 (pz_41 _) rfl st.1⟩
    rcases List.mem_cons.mp hx with e | hx
    · subst e
      refine (ax_XF_lt (x := 78) (by decide)).mpr ?_
      show pz7 (pz_gt (ρ' 0)) (pz_gN (ρ' 0)) ((ρ' 5) / 4) 8
      rw [q0, h2]
      rw [pz_41]
      exact st.2.1
    rcases List.mem_cons.mp hx with e | hx
    · subst e
      refine (ax_XF_lt (x := 90) (by decide)).mpr ?_
      show (pz90 (pz_gt (ρ' 0)) (pz_gN (ρ' 0)) ((ρ' 5) / 4) ((ρ' 2) / 4) ∧ 1 ≤ (ρ' 2) / 4)
      rw [q0, q2, h2]
      rw [pz_41]
      exact ⟨st.2.2, F90.2⟩
    rcases List.mem_cons.mp hx with e | hx
    · subst e
      refine (ax_XF_bi (o := 30) (by decide)).mpr (Or.inr ⟨rfl, ?_⟩)
      show ρ' 1 < ρ' 5
      rw [q1, h2]
      omega
    cases List.mem_singleton.mp hx
    refine (ax_XF_bi (o := 30) (by decide)).mpr (Or.inr ⟨rfl, ?_⟩)
    show ρ' 4 < ρ' 5
    rw [q4, h2]
    omega)
  exact ⟨(fun y hy => by cases hy), _, List.mem_cons_self, ρ', h1, h2⟩

theorem axq_rp3c42_3 : ax_RO ax_wC ax_XC axu_rp3c42_3 := by
  intro ρ hp hE hT
  have j0 : ρ 0 % 4 = 1 := pz_gj hE 0 (by decide) rfl
  have j1 : ρ 1 % 4 = 1 := pz_gj hE 1 (by decide) rfl
  have j2 : ρ 2 % 4 = 1 := pz_gj hE 2 (by decide) rfl
  obtain ⟨i3a, i3b, i3c, i3d⟩ := pz_gi hE 3 2147483690 2147483690 (by decide) rfl
  have j4 : ρ 4 % 4 = 1 := pz_gj hE 4 (by decide) rfl
  have c_kind : ay_at hp 8 7 = some (ρ 3) := ay_gfj hE 42 28 15 8 7 (by decide) (by rw [ax_vl_c (by decide)]) (by rw [ax_vl_c (by decide)])
  have o1 : ρ 4 < ρ 1 := pz_go hE 19 7 (by decide)
  obtain ⟨-, -, -, -, F50⟩ : ay_ex hp 8 ∧ ay_ex hp 10 ∧ ay_ex hp 11 ∧ ay_ex hp 12 ∧ pz_x50 (ρ 0) (ρ 1) (ay_at hp 8 5) (ay_at hp 8 6) (ay_at hp 8 7) (ay_at hp 8 8) (ay_at hp 10 0) (ay_at hp 10 1) (ay_at hp 10 2) (ay_at hp 10 3) (ay_at hp 10 4) (ay_at hp 8 9) (ay_at hp 8 11) (ay_at hp 8 10) (ay_at hp 8 3) (ay_at hp 8 4) (ay_at hp 11) (ay_at hp 12) := (ax_XF_lt (by decide)).mp (ax_gx hE (50, [3, 7]) (by decide))
  rw [c_kind] at F50
  have F79 : pz7 (pz_gt (ρ 0)) (pz_gN (ρ 0)) ((ρ 1) / 4) 9 := (ax_XF_lt (by decide)).mp (ax_gx hE (79, [3, 7]) (by decide))
  have F90 : (pz90 (pz_gt (ρ 0)) (pz_gN (ρ 0)) ((ρ 1) / 4) ((ρ 2) / 4) ∧ 1 ≤ (ρ 2) / 4) := (ax_XF_lt (by decide)).mp (ax_gx hE (90, [3, 7, 11]) (by decide))
  have st := pq_op F50 F79 F90.1 (show pz_op (ρ 3 / 4) = true by rw [show ρ 3 / 4 = 42 by omega]; rfl)
  obtain ⟨ρ', h1, h2⟩ := pz_pn1 (K := ρ 1 / 4 + 1) (xf := [(53, [3, 23]), (78, [3, 23]), (90, [3, 23, 11]), (1030, [7, 23]), (1030, [19, 23])]) hE (by decide) (fun ρ' h1 h2 x hx => by
    have q0 : ρ' 0 = ρ 0 := h1 0 (by decide)
    have q1 : ρ' 1 = ρ 1 := h1 1 (by decide)
    have q2 : ρ' 2 = ρ 2 := h1 2 (by decide)
    have q3 : ρ' 3 = ρ 3 := h1 3 (by decide)
    have q4 : ρ' 4 = ρ 4 := h1 4 (by decide)
    rcases List.mem_cons.mp hx with e | hx
    · subst e
      refine (ax_XF_lt (x := 53) (by decide)).mpr ?_
      show ay_ex hp 8 ∧ ay_ex hp 10 ∧ ay_ex hp 11 ∧ ay_ex hp 12 ∧ pz_x53 (ρ' 0) (ρ' 5) (ay_at hp 8 5) (ay_at hp 10 0) (ay_at hp 10 1) (ay_at hp 10 2) (ay_at hp 10 3) (ay_at hp 10 4) (ay_at hp 8 9) (ay_at hp 8 11) (ay_at hp 8 10) (ay_at hp 8 3) (ay_at hp 8 4) (ay_at hp 11) (ay_at hp 12)
      rw [q0, h2]
      exact ⟨(ax_cellT hT (q := 8) (g := 2) rfl), (ax_cellT hT (q := 10) (g := 1) rfl), (ax_cellT hT (q := 11) (g := 14) rfl), (ax_cellT hT (q := 12) (g := 15) rfl), pz_53 (pz_41 _) rfl st.1⟩
    rcases List.mem_cons.mp hx with e | hx
    · subst e
      refine (ax_XF_lt (x := 78) (by decide)).mpr ?_
      show pz7 (pz_gt (ρ' 0)) (pz_gN (ρ' 0)) ((ρ' 5) / 4) 8
      rw [q0, h2]
      rw [pz_41]
      exact st.2.1
    rcases List.mem_cons.mp hx with e | hx
    · subst e
      refine (ax_XF_lt (x := 90) (by decide)).mpr ?_
      show (pz90 (pz_gt (ρ' 0)) (pz_gN (ρ' 0)) ((ρ' 5) / 4) ((ρ' 2) / 4) ∧ 1 ≤ (ρ' 2) / 4)
      rw [q0, q2, h2]
      rw [pz_41]
      exact ⟨st.2.2, F90.2⟩
    rcases List.mem_cons.mp hx with e | hx
    · subst e
      refine (ax_XF_bi (o := 30) (by decide)).mpr (Or.inr ⟨rfl, ?_⟩)
      show ρ' 1 < ρ' 5
      rw [q1, h2]
      omega
    cases List.mem_singleton.mp hx
    refine (ax_XF_bi (o := 30) (by decide)).mpr (Or.inr ⟨rfl, ?_⟩)
    show ρ' 4 < ρ' 5
    rw [q4, h2]
    omega)
  exact ⟨(fun y hy => by cases hy), _, List.mem_cons_self, ρ', h1, h2⟩

theorem axq_rp3c47_3 : ax_RO ax_wC ax_XC axu_rp3c47_3 := by
  intro ρ hp hE hT
  have j0 : ρ 0 % 4 = 1 := pz_gj hE 0 (by decide) rfl
  have j1 : ρ 1 % 4 = 1 := pz_gj hE 1 (by decide) rfl
  have j2 : ρ 2 % 4 = 1 := pz_gj hE 2 (by decide) rfl
  obtain ⟨i3a, i3b, i3c, i3d⟩ := pz_gi hE 3 2147483695 2147483695 (by decide) rfl
  have j4 : ρ 4 % 4 = 1 := pz_gj hE 4 (by decide) rfl
  have c_kind : ay_at hp 8 7 = some (ρ 3) := ay_gfj hE 42 28 15 8 7 (by decide) (by rw [ax_vl_c (by decide)]) (by rw [ax_vl_c (by decide)])
  have o1 : ρ 4 < ρ 1 := pz_go hE 19 7 (by decide)
  obtain ⟨-, -, -, -, F50⟩ : ay_ex hp 8 ∧ ay_ex hp 10 ∧ ay_ex hp 11 ∧ ay_ex hp 12 ∧ pz_x50 (ρ 0) (ρ 1) (ay_at hp 8 5) (ay_at hp 8 6) (ay_at hp 8 7) (ay_at hp 8 8) (ay_at hp 10 0) (ay_at hp 10 1) (ay_at hp 10 2) (ay_at hp 10 3) (ay_at hp 10 4) (ay_at hp 8 9) (ay_at hp 8 11) (ay_at hp 8 10) (ay_at hp 8 3) (ay_at hp 8 4) (ay_at hp 11) (ay_at hp 12) := (ax_XF_lt (by decide)).mp (ax_gx hE (50, [3, 7]) (by decide))
  rw [c_kind] at F50
  have F79 : pz7 (pz_gt (ρ 0)) (pz_gN (ρ 0)) ((ρ 1) / 4) 9 := (ax_XF_lt (by decide)).mp (ax_gx hE (79, [3, 7]) (by decide))
  have F90 : (pz90 (pz_gt (ρ 0)) (pz_gN (ρ 0)) ((ρ 1) / 4) ((ρ 2) / 4) ∧ 1 ≤ (ρ 2) / 4) := (ax_XF_lt (by decide)).mp (ax_gx hE (90, [3, 7, 11]) (by decide))
  have st := pq_op F50 F79 F90.1 (show pz_op (ρ 3 / 4) = true by rw [show ρ 3 / 4 = 47 by omega]; rfl)
  obtain ⟨ρ', h1, h2⟩ := pz_pn1 (K := ρ 1 / 4 + 1) (xf := [(53, [3, 23]), (78, [3, 23]), (90, [3, 23, 11]), (1030, [7, 23]), (1030, [19, 23])]) hE (by decide) (fun ρ' h1 h2 x hx => by
    have q0 : ρ' 0 = ρ 0 := h1 0 (by decide)
    have q1 : ρ' 1 = ρ 1 := h1 1 (by decide)
    have q2 : ρ' 2 = ρ 2 := h1 2 (by decide)
    have q3 : ρ' 3 = ρ 3 := h1 3 (by decide)
    have q4 : ρ' 4 = ρ 4 := h1 4 (by decide)
    rcases List.mem_cons.mp hx with e | hx
    · subst e
      refine (ax_XF_lt (x := 53) (by decide)).mpr ?_
      show ay_ex hp 8 ∧ ay_ex hp 10 ∧ ay_ex hp 11 ∧ ay_ex hp 12 ∧ pz_x53 (ρ' 0) (ρ' 5) (ay_at hp 8 5) (ay_at hp 10 0) (ay_at hp 10 1) (ay_at hp 10 2) (ay_at hp 10 3) (ay_at hp 10 4) (ay_at hp 8 9) (ay_at hp 8 11) (ay_at hp 8 10) (ay_at hp 8 3) (ay_at hp 8 4) (ay_at hp 11) (ay_at hp 12)
      rw [q0, h2]
      exact ⟨(ax_cellT hT (q := 8) (g := 2) rfl), (ax_cellT hT (q := 10) (g := 1) rfl), (ax_cellT hT (q := 11) (g := 14) rfl), (ax_cellT hT (q := 12) (g := 15) rfl), pz_53 (pz_41 _) rfl st.1⟩
    rcases List.mem_cons.mp hx with e | hx
    · subst e
      refine (ax_XF_lt (x := 78) (by decide)).mpr ?_
      show pz7 (pz_gt (ρ' 0)) (pz_gN (ρ' 0)) ((ρ' 5) / 4) 8
      rw [q0, h2]
      rw [pz_41]
      exact st.2.1
    rcases List.mem_cons.mp hx with e | hx
    · subst e
      refine (ax_XF_lt (x := 90) (by decide)).mpr ?_
      show (pz90 (pz_gt (ρ' 0)) (pz_gN (ρ' 0)) ((ρ' 5) / 4) ((ρ' 2) / 4) ∧ 1 ≤ (ρ' 2) / 4)
      rw [q0, q2, h2]
      rw [pz_41]
      exact ⟨st.2.2, F90.2⟩
    rcases List.mem_cons.mp hx with e | hx
    · subst e
      refine (ax_XF_bi (o := 30) (by decide)).mpr (Or.inr ⟨rfl, ?_⟩)
      show ρ' 1 < ρ' 5
      rw [q1, h2]
      omega
    cases List.mem_singleton.mp hx
    refine (ax_XF_bi (o := 30) (by decide)).mpr (Or.inr ⟨rfl, ?_⟩)
    show ρ' 4 < ρ' 5
    rw [q4, h2]
    omega)
  exact ⟨(fun y hy => by cases hy), _, List.mem_cons_self, ρ', h1, h2⟩

theorem axq_rp3c37_3 : ax_RO ax_wC ax_XC axu_rp3c37_3 := by
  intro ρ hp hE hT
  have j0 : ρ 0 % 4 = 1 := pz_gj hE 0 (by decide) rfl
  have j1 : ρ 1 % 4 = 1 := pz_gj hE 1 (by decide) rfl
  have j2 : ρ 2 % 4 = 1 := pz_gj hE 2 (by decide) rfl
  obtain ⟨i3a, i3b, i3c, i3d⟩ := pz_gi hE 3 2147483685 2147483685 (by decide) rfl
  have j4 : ρ 4 % 4 = 1 := pz_gj hE 4 (by decide) rfl
  have c_kind : ay_at hp 8 7 = some (ρ 3) := ay_gfj hE 42 28 15 8 7 (by decide) (by rw [ax_vl_c (by decide)]) (by rw [ax_vl_c (by decide)])
  have o1 : ρ 4 < ρ 1 := pz_go hE 19 7 (by decide)
  obtain ⟨-, -, -, -, F50⟩ : ay_ex hp 8 ∧ ay_ex hp 10 ∧ ay_ex hp 11 ∧ ay_ex hp 12 ∧ pz_x50 (ρ 0) (ρ 1) (ay_at hp 8 5) (ay_at hp 8 6) (ay_at hp 8 7) (ay_at hp 8 8) (ay_at hp 10 0) (ay_at hp 10 1) (ay_at hp 10 2) (ay_at hp 10 3) (ay_at hp 10 4) (ay_at hp 8 9) (ay_at hp 8 11) (ay_at hp 8 10) (ay_at hp 8 3) (ay_at hp 8 4) (ay_at hp 11) (ay_at hp 12) := (ax_XF_lt (by decide)).mp (ax_gx hE (50, [3, 7]) (by decide))
  rw [c_kind] at F50
  have F79 : pz7 (pz_gt (ρ 0)) (pz_gN (ρ 0)) ((ρ 1) / 4) 9 := (ax_XF_lt (by decide)).mp (ax_gx hE (79, [3, 7]) (by decide))
  have F90 : (pz90 (pz_gt (ρ 0)) (pz_gN (ρ 0)) ((ρ 1) / 4) ((ρ 2) / 4) ∧ 1 ≤ (ρ 2) / 4) := (ax_XF_lt (by decide)).mp (ax_gx hE (90, [3, 7, 11]) (by decide))
  have st := pq_op F50 F79 F90.1 (show pz_op (ρ 3 / 4) = true by rw [show ρ 3 / 4 = 37 by omega]; rfl)
  obtain ⟨ρ', h1, h2⟩ := pz_pn1 (K := ρ 1 / 4 + 1) (xf := [(53, [3, 23]), (78, [3, 23]), (90, [3, 23, 11]), (1030, [7, 23]), (1030, [19, 23])]) hE (by decide) (fun ρ' h1 h2 x hx => by
    have q0 : ρ' 0 = ρ 0 := h1 0 (by decide)
    have q1 : ρ' 1 = ρ 1 := h1 1 (by decide)
    have q2 : ρ' 2 = ρ 2 := h1 2 (by decide)
    have q3 : ρ' 3 = ρ 3 := h1 3 (by decide)
    have q4 : ρ' 4 = ρ 4 := h1 4 (by decide)
    rcases List.mem_cons.mp hx with e | hx
    · subst e
      refine (ax_XF_lt (x := 53) (by decide)).mpr ?_
      show ay_ex hp 8 ∧ ay_ex hp 10 ∧ ay_ex hp 11 ∧ ay_ex hp 12 ∧ pz_x53 (ρ' 0) (ρ' 5) (ay_at hp 8 5) (ay_at hp 10 0) (ay_at hp 10 1) (ay_at hp 10 2) (ay_at hp 10 3) (ay_at hp 10 4) (ay_at hp 8 9) (ay_at hp 8 11) (ay_at hp 8 10) (ay_at hp 8 3) (ay_at hp 8 4) (ay_at hp 11) (ay_at hp 12)
      rw [q0, h2]
      exact ⟨(ax_cellT hT (q := 8) (g := 2) rfl), (ax_cellT hT (q := 10) (g := 1) rfl), (ax_cellT hT (q := 11) (g := 14) rfl), (ax_cellT hT (q := 12) (g := 15) rfl), pz_53 (pz_41 _) rfl st.1⟩
    rcases List.mem_cons.mp hx with e | hx
    · subst e
      refine (ax_XF_lt (x := 78) (by decide)).mpr ?_
      show pz7 (pz_gt (ρ' 0)) (pz_gN (ρ' 0)) ((ρ' 5) / 4) 8
      rw [q0, h2]
      rw [pz_41]
      exact st.2.1
    rcases List.mem_cons.mp hx with e | hx
    · subst e
      refine (ax_XF_lt (x := 90) (by decide)).mpr ?_
      show (pz90 (pz_gt (ρ' 0)) (pz_gN (ρ' 0)) ((ρ' 5) / 4) ((ρ' 2) / 4) ∧ 1 ≤ (ρ' 2) / 4)
      rw [q0, q2, h2]
      rw [pz_41]
      exact ⟨st.2.2, F90.2⟩
    rcases List.mem_cons.mp hx with e | hx
    · subst e
      refine (ax_XF_bi (o := 30) (by decide)).mpr (Or.inr ⟨rfl, ?_⟩)
      show ρ' 1 < ρ' 5
      rw [q1, h2]
      omega
    cases List.mem_singleton.mp hx
    refine (ax_XF_bi (o := 30) (by decide)).mpr (Or.inr ⟨rfl, ?_⟩)
    show ρ' 4 < ρ' 5
    rw [q4, h2]
    omega)
  exact ⟨(fun y hy => by cases hy), _, List.mem_cons_self, ρ', h1, h2⟩

theorem axq_rp3c42_4 : ax_RO ax_wC ax_XC axu_rp3c42_4 := by
  intro ρ hp hE hT
  have j0 : ρ 0 % 4 = 1 := pz_gj hE 0 (by decide) rfl
  have j1 : ρ 1 % 4 = 1 := pz_gj hE 1 (by decide) rfl
  have j2 : ρ 2 % 4 = 1 := pz_gj hE 2 (by decide) rfl
  obtain ⟨i3a, i3b, i3c, i3d⟩ := pz_gi hE 3 2147483690 2147483690 (by decide) rfl
  have j4 : ρ 4 % 4 = 1 := pz_gj hE 4 (by decide) rfl
  have c_kind : ay_at hp 8 7 = some (ρ 3) := ay_gfj hE 42 28 15 8 7 (by decide) (by rw [ax_vl_c (by decide)]) (by rw [ax_vl_c (by decide)])
  have o1 : ρ 4 < ρ 1 := pz_go hE 19 7 (by decide)
  obtain ⟨-, -, -, -, F50⟩ : ay_ex hp 8 ∧ ay_ex hp 10 ∧ ay_ex hp 11 ∧ ay_ex hp 12 ∧ pz_x50 (ρ 0) (ρ 1) (ay_at hp 8 5) (ay_at hp 8 6) (ay_at hp 8 7) (ay_at hp 8 8) (ay_at hp 10 0) (ay_at hp 10 1) (ay_at hp 10 2) (ay_at hp 10 3) (ay_at hp 10 4) (ay_at hp 8 9) (ay_at hp 8 11) (ay_at hp 8 10) (ay_at hp 8 3) (ay_at hp 8 4) (ay_at hp 11) (ay_at hp 12) := (ax_XF_lt (by decide)).mp (ax_gx hE (50, [3, 7]) (by decide))
  rw [c_kind] at F50
  have F79 : pz7 (pz_gt (ρ 0)) (pz_gN (ρ 0)) ((ρ 1) / 4) 9 := (ax_XF_lt (by decide)).mp (ax_gx hE (79, [3, 7]) (by decide))
  have F90 : (pz90 (pz_gt (ρ 0)) (pz_gN (ρ 0)) ((ρ 1) / 4) ((ρ 2) / 4) ∧ 1 ≤ (ρ 2) / 4) := (ax_XF_lt (by decide)).mp (ax_gx hE (90, [3, 7, 11]) (by decide))
  have st := pq_op F50 F79 F90.1 (show pz_op (ρ 3 / 4) = true by rw [show ρ 3 / 4 = 42 by omega]; rfl)
  obtain ⟨ρ', h1, h2⟩ := pz_pn1 (K := ρ 1 / 4 + 1) (xf := [(53, [3, 23]), (78, [3, 23]), (90, [3, 23, 11]), (1030, [7, 23]), (1030, [19, 23])]) hE (by decide) (fun ρ' h1 h2 x hx => by
    have q0 : ρ' 0 = ρ 0 := h1 0 (by decide)
    have q1 : ρ' 1 = ρ 1 := h1 1 (by decide)
    have q2 : ρ' 2 = ρ 2 := h1 2 (by decide)
    have q3 : ρ' 3 = ρ 3 := h1 3 (by decide)
    have q4 : ρ' 4 = ρ 4 := h1 4 (by decide)
    rcases List.mem_cons.mp hx with e | hx
    · subst e
      refine (ax_XF_lt (x := 53) (by decide)).mpr ?_
      show ay_ex hp 8 ∧ ay_ex hp 10 ∧ ay_ex hp 11 ∧ ay_ex hp 12 ∧ pz_x53 (ρ' 0) (ρ' 5) (ay_at hp 8 5) (ay_at hp 10 0) (ay_at hp 10 1) (ay_at hp 10 2) (ay_at hp 10 3) (ay_at hp 10 4) (ay_at hp 8 9) (ay_at hp 8 11) (ay_at hp 8 10) (ay_at hp 8 3) (ay_at hp 8 4) (ay_at hp 11) (ay_at hp 12)
      rw [q0, h2]
      exact ⟨(ax_cellT hT (q := 8) (g := 2) rfl), (ax_cellT hT (q := 10) (g := 1) rfl), (ax_cellT hT (q := 11) (g := 14) rfl), (ax_cellT hT (q := 12) (g := 15) rfl), pz_53 (pz_41 _) rfl st.1⟩
    rcases List.mem_cons.mp hx with e | hx
    · subst e
      refine (ax_XF_lt (x := 78) (by decide)).mpr ?_
      show pz7 (pz_gt (ρ' 0)) (pz_gN (ρ' 0)) ((ρ' 5) / 4) 8
      rw [q0, h2]
      rw [pz_41]
      exact st.2.1
    rcases List.mem_cons.mp hx with e | hx
    · subst e
      refine (ax_XF_lt (x := 90) (by decide)).mpr ?_
      show (pz90 (pz_gt (ρ' 0)) (pz_gN (ρ' 0)) ((ρ' 5) / 4) ((ρ' 2) / 4) ∧ 1 ≤ (ρ' 2) / 4)
      rw [q0, q2, h2]
      rw [pz_41]
      exact ⟨st.2.2, F90.2⟩
    rcases List.mem_cons.mp hx with e | hx
    · subst e
      refine (ax_XF_bi (o := 30) (by decide)).mpr (Or.inr ⟨rfl, ?_⟩)
      show ρ' 1 < ρ' 5
      rw [q1, h2]
      omega
    cases List.mem_singleton.mp hx
    refine (ax_XF_bi (o := 30) (by decide)).mpr (Or.inr ⟨rfl, ?_⟩)
    show ρ' 4 < ρ' 5
    rw [q4, h2]
    omega)
  exact ⟨(fun y hy => by cases hy), _, List.mem_cons_self, ρ', h1, h2⟩

theorem axq_rp3c47_4 : ax_RO ax_wC ax_XC axu_rp3c47_4 := by
  intro ρ hp hE hT
  have j0 : ρ 0 % 4 = 1 := pz_gj hE 0 (by decide) rfl
  have j1 : ρ 1 % 4 = 1 := pz_gj hE 1 (by decide) rfl
  have j2 : ρ 2 % 4 = 1 := pz_gj hE 2 (by decide) rfl
  obtain ⟨i3a, i3b, i3c, i3d⟩ := pz_gi hE 3 2147483695 2147483695 (by decide) rfl
  have j4 : ρ 4 % 4 = 1 := pz_gj hE 4 (by decide) rfl
  have c_kind : ay_at hp 8 7 = some (ρ 3) := ay_gfj hE 42 28 15 8 7 (by decide) (by rw [ax_vl_c (by decide)]) (by rw [ax_vl_c (by decide)])
  have o1 : ρ 4 < ρ 1 := pz_go hE 19 7 (by decide)
  obtain ⟨-, -, -, -, F50⟩ : ay_ex hp 8 ∧ ay_ex hp 10 ∧ ay_ex hp 11 ∧ ay_ex hp 12 ∧ pz_x50 (ρ 0) (ρ 1) (ay_at hp 8 5) (ay_at hp 8 6) (ay_at hp 8 7) (ay_at hp 8 8) (ay_at hp 10 0) (ay_at hp 10 1) (ay_at hp 10 2) (ay_at hp 10 3) (ay_at hp 10 4) (ay_at hp 8 9) (ay_at hp 8 11) (ay_at hp 8 10) (ay_at hp 8 3) (ay_at hp 8 4) (ay_at hp 11) (ay_at hp 12) := (ax_XF_lt (by decide)).mp (ax_gx hE (50, [3, 7]) (by decide))
  rw [c_kind] at F50
  have F79 : pz7 (pz_gt (ρ 0)) (pz_gN (ρ 0)) ((ρ 1) / 4) 9 := (ax_XF_lt (by decide)).mp (ax_gx hE (79, [3, 7]) (by decide))
  have F90 : (pz90 (pz_gt (ρ 0)) (pz_gN (ρ 0)) ((ρ 1) / 4) ((ρ 2) / 4) ∧ 1 ≤ (ρ 2) / 4) := (ax_XF_lt (by decide)).mp (ax_gx hE (90, [3, 7, 11]) (by decide))
  have st := pq_op F50 F79 F90.1 (show pz_op (ρ 3 / 4) = true by rw [show ρ 3 / 4 = 47 by omega]; rfl)
  obtain ⟨ρ', h1, h2⟩ := pz_pn1 (K := ρ 1 / 4 + 1) (xf := [(53, [3, 23]), (78, [3, 23]), (90, [3, 23, 11]), (1030, [7, 23]), (1030, [19, 23])]) hE (by decide) (fun ρ' h1 h2 x hx => by
    have q0 : ρ' 0 = ρ 0 := h1 0 (by decide)
    have q1 : ρ' 1 = ρ 1 := h1 1 (by decide)
    have q2 : ρ' 2 = ρ 2 := h1 2 (by decide)
    have q3 : ρ' 3 = ρ 3 := h1 3 (by decide)
    have q4 : ρ' 4 = ρ 4 := h1 4 (by decide)
    rcases List.mem_cons.mp hx with e | hx
    · subst e
      refine (ax_XF_lt (x := 53) (by decide)).mpr ?_
      show ay_ex hp 8 ∧ ay_ex hp 10 ∧ ay_ex hp 11 ∧ ay_ex hp 12 ∧ pz_x53 (ρ' 0) (ρ' 5) (ay_at hp 8 5) (ay_at hp 10 0) (ay_at hp 10 1) (ay_at hp 10 2) (ay_at hp 10 3) (ay_at hp 10 4) (ay_at hp 8 9) (ay_at hp 8 11) (ay_at hp 8 10) (ay_at hp 8 3) (ay_at hp 8 4) (ay_at hp 11) (ay_at hp 12)
      rw [q0, h2]
      exact ⟨(ax_cellT hT (q := 8) (g := 2) rfl), (ax_cellT hT (q := 10) (g := 1) rfl), (ax_cellT hT (q := 11) (g := 14) rfl), (ax_cellT hT (q := 12) (g := 15) rfl), pz_53 (pz_41 _) rfl st.1⟩
    rcases List.mem_cons.mp hx with e | hx
    · subst e
      refine (ax_XF_lt (x := 78) (by decide)).mpr ?_
      show pz7 (pz_gt (ρ' 0)) (pz_gN (ρ' 0)) ((ρ' 5) / 4) 8
      rw [q0, h2]
      rw [pz_41]
      exact st.2.1
    rcases List.mem_cons.mp hx with e | hx
    · subst e
      refine (ax_XF_lt (x := 90) (by decide)).mpr ?_
      show (pz90 (pz_gt (ρ' 0)) (pz_gN (ρ' 0)) ((ρ' 5) / 4) ((ρ' 2) / 4) ∧ 1 ≤ (ρ' 2) / 4)
      rw [q0, q2, h2]
      rw [pz_41]
      exact ⟨st.2.2, F90.2⟩
    rcases List.mem_cons.mp hx with e | hx
    · subst e
      refine (ax_XF_bi (o := 30) (by decide)).mpr (Or.inr ⟨rfl, ?_⟩)
      show ρ' 1 < ρ' 5
      rw [q1, h2]
      omega
    cases List.mem_singleton.mp hx
    refine (ax_XF_bi (o := 30) (by decide)).mpr (Or.inr ⟨rfl, ?_⟩)
    show ρ' 4 < ρ' 5
    rw [q4, h2]
    omega)
  exact ⟨(fun y hy => by cases hy), _, List.mem_cons_self, ρ', h1, h2⟩

theorem axq_rp3c37_4 : ax_RO ax_wC ax_XC axu_rp3c37_4 := by
  intro ρ hp hE hT
  have j0 : ρ 0 % 4 = 1 := pz_gj hE 0 (by decide) rfl
  have j1 : ρ 1 % 4 = 1 := pz_gj hE 1 (by decide) rfl
  have j2 : ρ 2 % 4 = 1 := pz_gj hE 2 (by decide) rfl
  obtain ⟨i3a, i3b, i3c, i3d⟩ := pz_gi hE 3 2147483685 2147483685 (by decide) rfl
  have j4 : ρ 4 % 4 = 1 := pz_gj hE 4 (by decide) rfl
  have c_kind : ay_at hp 8 7 = some (ρ 3) := ay_gfj hE 42 28 15 8 7 (by decide) (by rw [ax_vl_c (by decide)]) (by rw [ax_vl_c (by decide)])
  have o1 : ρ 4 < ρ 1 := pz_go hE 19 7 (by decide)
  obtain ⟨-, -, -, -, F50⟩ : ay_ex hp 8 ∧ ay_ex hp 10 ∧ ay_ex hp 11 ∧ ay_ex hp 12 ∧ pz_x50 (ρ 0) (ρ 1) (ay_at hp 8 5) (ay_at hp 8 6) (ay_at hp 8 7) (ay_at hp 8 8) (ay_at hp 10 0) (ay_at hp 10 1) (ay_at hp 10 2) (ay_at hp 10 3) (ay_at hp 10 4) (ay_at hp 8 9) (ay_at hp 8 11) (ay_at hp 8 10) (ay_at hp 8 3) (ay_at hp 8 4) (ay_at hp 11) (ay_at hp 12) := (ax_XF_lt (by decide)).mp (ax_gx hE (50, [3, 7]) (by decide))
  rw [c_kind] at F50
  have F79 : pz7 (pz_gt (ρ 0)) (pz_gN (ρ 0)) ((ρ 1) / 4) 9 := (ax_XF_lt (by decide)).mp (ax_gx hE (79, [3, 7]) (by decide))
  have F90 : (pz90 (pz_gt (ρ 0)) (pz_gN (ρ 0)) ((ρ 1) / 4) ((ρ 2) / 4) ∧ 1 ≤ (ρ 2) / 4) := (ax_XF_lt (by decide)).mp (ax_gx hE (90, [3, 7, 11]) (by decide))
  have st := pq_op F50 F79 F90.1 (show pz_op (ρ 3 / 4) = true by rw [show ρ 3 / 4 = 37 by omega]; rfl)
  obtain ⟨ρ', h1, h2⟩ := pz_pn1 (K := ρ 1 / 4 + 1) (xf := [(53, [3, 23]), (78, [3, 23]), (90, [3, 23, 11]), (1030, [7, 23]), (1030, [19, 23])]) hE (by decide) (fun ρ' h1 h2 x hx => by
    have q0 : ρ' 0 = ρ 0 := h1 0 (by decide)
    have q1 : ρ' 1 = ρ 1 := h1 1 (by decide)
    have q2 : ρ' 2 = ρ 2 := h1 2 (by decide)
    have q3 : ρ' 3 = ρ 3 := h1 3 (by decide)
    have q4 : ρ' 4 = ρ 4 := h1 4 (by decide)
    rcases List.mem_cons.mp hx with e | hx
    · subst e
      refine (ax_XF_lt (x := 53) (by decide)).mpr ?_
      show ay_ex hp 8 ∧ ay_ex hp 10 ∧ ay_ex hp 11 ∧ ay_ex hp 12 ∧ pz_x53 (ρ' 0) (ρ' 5) (ay_at hp 8 5) (ay_at hp 10 0) (ay_at hp 10 1) (ay_at hp 10 2) (ay_at hp 10 3) (ay_at hp 10 4) (ay_at hp 8 9) (ay_at hp 8 11) (ay_at hp 8 10) (ay_at hp 8 3) (ay_at hp 8 4) (ay_at hp 11) (ay_at hp 12)
      rw [q0, h2]
      exact ⟨(ax_cellT hT (q := 8) (g := 2) rfl), (ax_cellT hT (q := 10) (g := 1) rfl), (ax_cellT hT (q := 11) (g := 14) rfl), (ax_cellT hT (q := 12) (g := 15) rfl), pz_53 (pz_41 _) rfl st.1⟩
    rcases List.mem_cons.mp hx with e | hx
    · subst e
      refine (ax_XF_lt (x := 78) (by decide)).mpr ?_
      show pz7 (pz_gt (ρ' 0)) (pz_gN (ρ' 0)) ((ρ' 5) / 4) 8
      rw [q0, h2]
      rw [pz_41]
      exact st.2.1
    rcases List.mem_cons.mp hx with e | hx
    · subst e
      refine (ax_XF_lt (x := 90) (by decide)).mpr ?_
      show (pz90 (pz_gt (ρ' 0)) (pz_gN (ρ' 0)) ((ρ' 5) / 4) ((ρ' 2) / 4) ∧ 1 ≤ (ρ' 2) / 4)
      rw [q0, q2, h2]
      rw [pz_41]
      exact ⟨st.2.2, F90.2⟩
    rcases List.mem_cons.mp hx with e | hx
    · subst e
      refine (ax_XF_bi (o := 30) (by decide)).mpr (Or.inr ⟨rfl, ?_⟩)
      show ρ' 1 < ρ' 5
      rw [q1, h2]
      omega
    cases List.mem_singleton.mp hx
    refine (ax_XF_bi (o := 30) (by decide)).mpr (Or.inr ⟨rfl, ?_⟩)
    show ρ' 4 < ρ' 5
    rw [q4, h2]
    omega)
  exact ⟨(fun y hy => by cases hy), _, List.mem_cons_self, ρ', h1, h2⟩

theorem axq_rp3c42_5 : ax_RO ax_wC ax_XC axu_rp3c42_5 := by
  intro ρ hp hE hT
  have j0 : ρ 0 % 4 = 1 := pz_gj hE 0 (by decide) rfl
  have j1 : ρ 1 % 4 = 1 := pz_gj hE 1 (by decide) rfl
  have j2 : ρ 2 % 4 = 1 := pz_gj hE 2 (by decide) rfl
  obtain ⟨i3a, i3b, i3c, i3d⟩ := pz_gi hE 3 2147483690 2147483690 (by decide) rfl
  have j4 : ρ 4 % 4 = 1 := pz_gj hE 4 (by decide) rfl
  have c_kind : ay_at hp 8 7 = some (ρ 3) := ay_gfj hE 42 28 15 8 7 (by decide) (by rw [ax_vl_c (by decide)]) (by rw [ax_vl_c (by decide)])
  have o1 : ρ 4 < ρ 1 := pz_go hE 19 7 (by decide)
  obtain ⟨-, -, -, -, F50⟩ : ay_ex hp 8 ∧ ay_ex hp 10 ∧ ay_ex hp 11 ∧ ay_ex hp 12 ∧ pz_x50 (ρ 0) (ρ 1) (ay_at hp 8 5) (ay_at hp 8 6) (ay_at hp 8 7) (ay_at hp 8 8) (ay_at hp 10 0) (ay_at hp 10 1) (ay_at hp 10 2) (ay_at hp 10 3) (ay_at hp 10 4) (ay_at hp 8 9) (ay_at hp 8 11) (ay_at hp 8 10) (ay_at hp 8 3) (ay_at hp 8 4) (ay_at hp 11) (ay_at hp 12) := (ax_XF_lt (by decide)).mp (ax_gx hE (50, [3, 7]) (by decide))
  rw [c_kind] at F50
  have F79 : pz7 (pz_gt (ρ 0)) (pz_gN (ρ 0)) ((ρ 1) / 4) 9 := (ax_XF_lt (by decide)).mp (ax_gx hE (79, [3, 7]) (by decide))
  have F90 : (pz90 (pz_gt (ρ 0)) (pz_gN (ρ 0)) ((ρ 1) / 4) ((ρ 2) / 4) ∧ 1 ≤ (ρ 2) / 4) := (ax_XF_lt (by decide)).mp (ax_gx hE (90, [3, 7, 11]) (by decide))
  have st := pq_op F50 F79 F90.1 (show pz_op (ρ 3 / 4) = true by rw [show ρ 3 / 4 = 42 by omega]; rfl)
  obtain ⟨ρ', h1, h2⟩ := pz_pn1 (K := ρ 1 / 4 + 1) (xf := [(53, [3, 23]), (78, [3, 23]), (90, [3, 23, 11]), (1030, [7, 23]), (1030, [19, 23])]) hE (by decide) (fun ρ' h1 h2 x hx => by
    have q0 : ρ' 0 = ρ 0 := h1 0 (by decide)
    have q1 : ρ' 1 = ρ 1 := h1 1 (by decide)
    have q2 : ρ' 2 = ρ 2 := h1 2 (by decide)
    have q3 : ρ' 3 = ρ 3 := h1 3 (by decide)
    have q4 : ρ' 4 = ρ 4 := h1 4 (by decide)
    rcases List.mem_cons.mp hx with e | hx
    · subst e
      refine (ax_XF_lt (x := 53) (by decide)).mpr ?_
      show ay_ex hp 8 ∧ ay_ex hp 10 ∧ ay_ex hp 11 ∧ ay_ex hp 12 ∧ pz_x53 (ρ' 0) (ρ' 5) (ay_at hp 8 5) (ay_at hp 10 0) (ay_at hp 10 1) (ay_at hp 10 2) (ay_at hp 10 3) (ay_at hp 10 4) (ay_at hp 8 9) (ay_at hp 8 11) (ay_at hp 8 10) (ay_at hp 8 3) (ay_at hp 8 4) (ay_at hp 11) (ay_at hp 12)
      rw [q0, h2]
      exact ⟨(ax_cellT hT (q := 8) (g := 2) rfl), (ax_cellT hT (q := 10) (g := 1) rfl), (ax_cellT hT (q := 11) (g := 14) rfl), (ax_cellT hT (q := 12) (g := 15) rfl), pz_53 (pz_41 _) rfl st.1⟩
    rcases List.mem_cons.mp hx with e | hx
    · subst e
      refine (ax_XF_lt (x := 78) (by decide)).mpr ?_
      show pz7 (pz_gt (ρ' 0)) (pz_gN (ρ' 0)) ((ρ' 5) / 4) 8
      rw [q0, h2]
      rw [pz_41]
      exact st.2.1
    rcases List.mem_cons.mp hx with e | hx
    · subst e
      refine (ax_XF_lt (x := 90) (by decide)).mpr ?_
      show (pz90 (pz_gt (ρ' 0)) (pz_gN (ρ' 0)) ((ρ' 5) / 4) ((ρ' 2) / 4) ∧ 1 ≤ (ρ' 2) / 4)
      rw [q0, q2, h2]
      rw [pz_41]
      exact ⟨st.2.2, F90.2⟩
    rcases List.mem_cons.mp hx with e | hx
    · subst e
      refine (ax_XF_bi (o := 30) (by decide)).mpr (Or.inr ⟨rfl, ?_⟩)
      show ρ' 1 < ρ' 5
      rw [q1, h2]
      omega
    cases List.mem_singleton.mp hx
    refine (ax_XF_bi (o := 30) (by decide)).mpr (Or.inr ⟨rfl, ?_⟩)
    show ρ' 4 < ρ' 5
    rw [q4, h2]
    omega)
  exact ⟨(fun y hy => by cases hy), _, List.mem_cons_self, ρ', h1, h2⟩

theorem axq_rp3c47_5 : ax_RO ax_wC ax_XC axu_rp3c47_5 := by
  intro ρ hp hE hT
  have j0 : ρ 0 % 4 = 1 := pz_gj hE 0 (by decide) rfl
  have j1 : ρ 1 % 4 = 1 := pz_gj hE 1 (by decide) rfl
  have j2 : ρ 2 % 4 = 1 := pz_gj hE 2 (by decide) rfl
  obtain ⟨i3a, i3b, i3c, i3d⟩ := pz_gi hE 3 2147483695 2147483695 (by decide) rfl
  have j4 : ρ 4 % 4 = 1 := pz_gj hE 4 (by decide) rfl
  have c_kind : ay_at hp 8 7 = some (ρ 3) := ay_gfj hE 42 28 15 8 7 (by decide) (by rw [ax_vl_c (by decide)]) (by rw [ax_vl_c (by decide)])
  have o1 : ρ 4 < ρ 1 := pz_go hE 19 7 (by decide)
  obtain ⟨-, -, -, -, F50⟩ : ay_ex hp 8 ∧ ay_ex hp 10 ∧ ay_ex hp 11 ∧ ay_ex hp 12 ∧ pz_x50 (ρ 0) (ρ 1) (ay_at hp 8 5) (ay_at hp 8 6) (ay_at hp 8 7) (ay_at hp 8 8) (ay_at hp 10 0) (ay_at hp 10 1) (ay_at hp 10 2) (ay_at hp 10 3) (ay_at hp 10 4) (ay_at hp 8 9) (ay_at hp 8 11) (ay_at hp 8 10) (ay_at hp 8 3) (ay_at hp 8 4) (ay_at hp 11) (ay_at hp 12) := (ax_XF_lt (by decide)).mp (ax_gx hE (50, [3, 7]) (by decide))
  rw [c_kind] at F50
  have F79 : pz7 (pz_gt (ρ 0)) (pz_gN (ρ 0)) ((ρ 1) / 4) 9 := (ax_XF_lt (by decide)).mp (ax_gx hE (79, [3, 7]) (by decide))
  have F90 : (pz90 (pz_gt (ρ 0)) (pz_gN (ρ 0)) ((ρ 1) / 4) ((ρ 2) / 4) ∧ 1 ≤ (ρ 2) / 4) := (ax_XF_lt (by decide)).mp (ax_gx hE (90, [3, 7, 11]) (by decide))
  have st := pq_op F50 F79 F90.1 (show pz_op (ρ 3 / 4) = true by rw [show ρ 3 / 4 = 47 by omega]; rfl)
  obtain ⟨ρ', h1, h2⟩ := pz_pn1 (K := ρ 1 / 4 + 1) (xf := [(53, [3, 23]), (78, [3, 23]), (90, [3, 23, 11]), (1030, [7, 23]), (1030, [19, 23])]) hE (by decide) (fun ρ' h1 h2 x hx => by
    have q0 : ρ' 0 = ρ 0 := h1 0 (by decide)
    have q1 : ρ' 1 = ρ 1 := h1 1 (by decide)
    have q2 : ρ' 2 = ρ 2 := h1 2 (by decide)
    have q3 : ρ' 3 = ρ 3 := h1 3 (by decide)
    have q4 : ρ' 4 = ρ 4 := h1 4 (by decide)
    rcases List.mem_cons.mp hx with e | hx
    · subst e
      refine (ax_XF_lt (x := 53) (by decide)).mpr ?_
      show ay_ex hp 8 ∧ ay_ex hp 10 ∧ ay_ex hp 11 ∧ ay_ex hp 12 ∧ pz_x53 (ρ' 0) (ρ' 5) (ay_at hp 8 5) (ay_at hp 10 0) (ay_at hp 10 1) (ay_at hp 10 2) (ay_at hp 10 3) (ay_at hp 10 4) (ay_at hp 8 9) (ay_at hp 8 11) (ay_at hp 8 10) (ay_at hp 8 3) (ay_at hp 8 4) (ay_at hp 11) (ay_at hp 12)
      rw [q0, h2]
      exact ⟨(ax_cellT hT (q := 8) (g := 2) rfl), (ax_cellT hT (q := 10) (g := 1) rfl), (ax_cellT hT (q := 11) (g := 14) rfl), (ax_cellT hT (q := 12) (g := 15) rfl), pz_53 (pz_41 _) rfl st.1⟩
    rcases List.mem_cons.mp hx with e | hx
    · subst e
      refine (ax_XF_lt (x := 78) (by decide)).mpr ?_
      show pz7 (pz_gt (ρ' 0)) (pz_gN (ρ' 0)) ((ρ' 5) / 4) 8
      rw [q0, h2]
      rw [pz_41]
      exact st.2.1
    rcases List.mem_cons.mp hx with e | hx
    · subst e
      refine (ax_XF_lt (x := 90) (by decide)).mpr ?_
      show (pz90 (pz_gt (ρ' 0)) (pz_gN (ρ' 0)) ((ρ' 5) / 4) ((ρ' 2) / 4) ∧ 1 ≤ (ρ' 2) / 4)
      rw [q0, q2, h2]
      rw [pz_41]
      exact ⟨st.2.2, F90.2⟩
    rcases List.mem_cons.mp hx with e | hx
    · subst e
      refine (ax_XF_bi (o := 30) (by decide)).mpr (Or.inr ⟨rfl, ?_⟩)
      show ρ' 1 < ρ' 5
      rw [q1, h2]
      omega
    cases List.mem_singleton.mp hx
    refine (ax_XF_bi (o := 30) (by decide)).mpr (Or.inr ⟨rfl, ?_⟩)
    show ρ' 4 < ρ' 5
    rw [q4, h2]
    omega)
  exact ⟨(fun y hy => by cases hy), _, List.mem_cons_self, ρ', h1, h2⟩

theorem axq_rp3c37_5 : ax_RO ax_wC ax_XC axu_rp3c37_5 := by
  intro ρ hp hE hT
  have j0 : ρ 0 % 4 = 1 := pz_gj hE 0 (by decide) rfl
  have j1 : ρ 1 % 4 = 1 := pz_gj hE 1 (by decide) rfl
  have j2 : ρ 2 % 4 = 1 := pz_gj hE 2 (by decide) rfl
  obtain ⟨i3a, i3b, i3c, i3d⟩ := pz_gi hE 3 2147483685 2147483685 (by decide) rfl
  have j4 : ρ 4 % 4 = 1 := pz_gj hE 4 (by decide) rfl
  have c_kind : ay_at hp 8 7 = some (ρ 3) := ay_gfj hE 42 28 15 8 7 (by decide) (by rw [ax_vl_c (by decide)]) (by rw [ax_vl_c (by decide)])
  have o1 : ρ 4 < ρ 1 := pz_go hE 19 7 (by decide)
  obtain ⟨-, -, -, -, F50⟩ : ay_ex hp 8 ∧ ay_ex hp 10 ∧ ay_ex hp 11 ∧ ay_ex hp 12 ∧ pz_x50 (ρ 0) (ρ 1) (ay_at hp 8 5) (ay_at hp 8 6) (ay_at hp 8 7) (ay_at hp 8 8) (ay_at hp 10 0) (ay_at hp 10 1) (ay_at hp 10 2) (ay_at hp 10 3) (ay_at hp 10 4) (ay_at hp 8 9) (ay_at hp 8 11) (ay_at hp 8 10) (ay_at hp 8 3) (ay_at hp 8 4) (ay_at hp 11) (ay_at hp 12) := (ax_XF_lt (by decide)).mp (ax_gx hE (50, [3, 7]) (by decide))
  rw [c_kind] at F50
  have F79 : pz7 (pz_gt (ρ 0)) (pz_gN (ρ 0)) ((ρ 1) / 4) 9 := (ax_XF_lt (by decide)).mp (ax_gx hE (79, [3, 7]) (by decide))
  have F90 : (pz90 (pz_gt (ρ 0)) (pz_gN (ρ 0)) ((ρ 1) / 4) ((ρ 2) / 4) ∧ 1 ≤ (ρ 2) / 4) := (ax_XF_lt (by decide)).mp (ax_gx hE (90, [3, 7, 11]) (by decide))
  have st := pq_op F50 F79 F90.1 (show pz_op (ρ 3 / 4) = true by rw [show ρ 3 / 4 = 37 by omega]; rfl)
  obtain ⟨ρ', h1, h2⟩ := pz_pn1 (K := ρ 1 / 4 + 1) (xf := [(53, [3, 23]), (78, [3, 23]), (90, [3, 23, 11]), (1030, [7, 23]), (1030, [19, 23])]) hE (by decide) (fun ρ' h1 h2 x hx => by
    have q0 : ρ' 0 = ρ 0 := h1 0 (by decide)
    have q1 : ρ' 1 = ρ 1 := h1 1 (by decide)
    have q2 : ρ' 2 = ρ 2 := h1 2 (by decide)
    have q3 : ρ' 3 = ρ 3 := h1 3 (by decide)
    have q4 : ρ' 4 = ρ 4 := h1 4 (by decide)
    rcases List.mem_cons.mp hx with e | hx
    · subst e
      refine (ax_XF_lt (x := 53) (by decide)).mpr ?_
      show ay_ex hp 8 ∧ ay_ex hp 10 ∧ ay_ex hp 11 ∧ ay_ex hp 12 ∧ pz_x53 (ρ' 0) (ρ' 5) (ay_at hp 8 5) (ay_at hp 10 0) (ay_at hp 10 1) (ay_at hp 10 2) (ay_at hp 10 3) (ay_at hp 10 4) (ay_at hp 8 9) (ay_at hp 8 11) (ay_at hp 8 10) (ay_at hp 8 3) (ay_at hp 8 4) (ay_at hp 11) (ay_at hp 12)
      rw [q0, h2]
      exact ⟨(ax_cellT hT (q := 8) (g := 2) rfl), (ax_cellT hT (q := 10) (g := 1) rfl), (ax_cellT hT (q := 11) (g := 14) rfl), (ax_cellT hT (q := 12) (g := 15) rfl), pz_53 (pz_41 _) rfl st.1⟩
    rcases List.mem_cons.mp hx with e | hx
    · subst e
      refine (ax_XF_lt (x := 78) (by decide)).mpr ?_
      show pz7 (pz_gt (ρ' 0)) (pz_gN (ρ' 0)) ((ρ' 5) / 4) 8
      rw [q0, h2]
      rw [pz_41]
      exact st.2.1
    rcases List.mem_cons.mp hx with e | hx
    · subst e
      refine (ax_XF_lt (x := 90) (by decide)).mpr ?_
      show (pz90 (pz_gt (ρ' 0)) (pz_gN (ρ' 0)) ((ρ' 5) / 4) ((ρ' 2) / 4) ∧ 1 ≤ (ρ' 2) / 4)
      rw [q0, q2, h2]
      rw [pz_41]
      exact ⟨st.2.2, F90.2⟩
    rcases List.mem_cons.mp hx with e | hx
    · subst e
      refine (ax_XF_bi (o := 30) (by decide)).mpr (Or.inr ⟨rfl, ?_⟩)
      show ρ' 1 < ρ' 5
      rw [q1, h2]
      omega
    cases List.mem_singleton.mp hx
    refine (ax_XF_bi (o := 30) (by decide)).mpr (Or.inr ⟨rfl, ?_⟩)
    show ρ' 4 < ρ' 5
    rw [q4, h2]
    omega)
  exact ⟨(fun y hy => by cases hy), _, List.mem_cons_self, ρ', h1, h2⟩

theorem axq_rp3c42_6 : ax_RO ax_wC ax_XC axu_rp3c42_6 := by
  intro ρ hp hE hT
  have j0 : ρ 0 % 4 = 1 := pz_gj hE 0 (by decide) rfl
  have j1 : ρ 1 % 4 = 1 := pz_gj hE 1 (by decide) rfl
  have j2 : ρ 2 % 4 = 1 := pz_gj hE 2 (by decide) rfl
  obtain ⟨i3a, i3b, i3c, i3d⟩ := pz_gi hE 3 2147483690 2147483690 (by decide) rfl
  have j4 : ρ 4 % 4 = 1 := pz_gj hE 4 (by decide) rfl
  have c_kind : ay_at hp 8 7 = some (ρ 3) := ay_gfj hE 42 28 15 8 7 (by decide) (by rw [ax_vl_c (by decide)]) (by rw [ax_vl_c (by decide)])
  have o1 : ρ 4 < ρ 1 := pz_go hE 19 7 (by decide)
  obtain ⟨-, -, -, -, F50⟩ : ay_ex hp 8 ∧ ay_ex hp 10 ∧ ay_ex hp 11 ∧ ay_ex hp 12 ∧ pz_x50 (ρ 0) (ρ 1) (ay_at hp 8 5) (ay_at hp 8 6) (ay_at hp 8 7) (ay_at hp 8 8) (ay_at hp 10 0) (ay_at hp 10 1) (ay_at hp 10 2) (ay_at hp 10 3) (ay_at hp 10 4) (ay_at hp 8 9) (ay_at hp 8 11) (ay_at hp 8 10) (ay_at hp 8 3) (ay_at hp 8 4) (ay_at hp 11) (ay_at hp 12) := (ax_XF_lt (by decide)).mp (ax_gx hE (50, [3, 7]) (by decide))
  rw [c_kind] at F50
  have F79 : pz7 (pz_gt (ρ 0)) (pz_gN (ρ 0)) ((ρ 1) / 4) 9 := (ax_XF_lt (by decide)).mp (ax_gx hE (79, [3, 7]) (by decide))
  have F90 : (pz90 (pz_gt (ρ 0)) (pz_gN (ρ 0)) ((ρ 1) / 4) ((ρ 2) / 4) ∧ 1 ≤ (ρ 2) / 4) := (ax_XF_lt (by decide)).mp (ax_gx hE (90, [3, 7, 11]) (by decide))
  have st := pq_op F50 F79 F90.1 (show pz_op (ρ 3 / 4) = true by rw [show ρ 3 / 4 = 42 by omega]; rfl)
  obtain ⟨ρ', h1, h2⟩ := pz_pn1 (K := ρ 1 / 4 + 1) (xf := [(53, [3, 23]), (78, [3, 23]), (90, [3, 23, 11]), (1030, [7, 23]), (1030, [19, 23])]) hE (by decide) (fun ρ' h1 h2 x hx => by
    have q0 : ρ' 0 = ρ 0 := h1 0 (by decide)
    have q1 : ρ' 1 = ρ 1 := h1 1 (by decide)
    have q2 : ρ' 2 = ρ 2 := h1 2 (by decide)
    have q3 : ρ' 3 = ρ 3 := h1 3 (by decide)
    have q4 : ρ' 4 = ρ 4 := h1 4 (by decide)
    rcases List.mem_cons.mp hx with e | hx
    · subst e
      refine (ax_XF_lt (x := 53) (by decide)).mpr ?_
      show ay_ex hp 8 ∧ ay_ex hp 10 ∧ ay_ex hp 11 ∧ ay_ex hp 12 ∧ pz_x53 (ρ' 0) (ρ' 5) (ay_at hp 8 5) (ay_at hp 10 0) (ay_at hp 10 1) (ay_at hp 10 2) (ay_at hp 10 3) (ay_at hp 10 4) (ay_at hp 8 9) (ay_at hp 8 11) (ay_at hp 8 10) (ay_at hp 8 3) (ay_at hp 8 4) (ay_at hp 11) (ay_at hp 12)
      rw [q0, h2]
      exact ⟨(ax_cellT hT (q := 8) (g := 2) rfl), (ax_cellT hT (q := 10) (g := 1) rfl), (ax_cellT hT (q := 11) (g := 14) rfl), (ax_cellT hT (q := 12) (g := 15) rfl), pz_53 (pz_41 _) rfl st.1⟩
    rcases List.mem_cons.mp hx with e | hx
    · subst e
      refine (ax_XF_lt (x := 78) (by decide)).mpr ?_
      show pz7 (pz_gt (ρ' 0)) (pz_gN (ρ' 0)) ((ρ' 5) / 4) 8
      rw [q0, h2]
      rw [pz_41]
      exact st.2.1
    rcases List.mem_cons.mp hx with e | hx
    · subst e
      refine (ax_XF_lt (x := 90) (by decide)).mpr ?_
      show (pz90 (pz_gt (ρ' 0)) (pz_gN (ρ' 0)) ((ρ' 5) / 4) ((ρ' 2) / 4) ∧ 1 ≤ (ρ' 2) / 4)
      rw [q0, q2, h2]
      rw [pz_41]
      exact ⟨st.2.2, F90.2⟩
    rcases List.mem_cons.mp hx with e | hx
    · subst e
      refine (ax_XF_bi (o := 30) (by decide)).mpr (Or.inr ⟨rfl, ?_⟩)
      show ρ' 1 < ρ' 5
      rw [q1, h2]
      omega
    cases List.mem_singleton.mp hx
    refine (ax_XF_bi (o := 30) (by decide)).mpr (Or.inr ⟨rfl, ?_⟩)
    show ρ' 4 < ρ' 5
    rw [q4, h2]
    omega)
  exact ⟨(fun y hy => by cases hy), _, List.mem_cons_self, ρ', h1, h2⟩

theorem axq_rp3c47_6 : ax_RO ax_wC ax_XC axu_rp3c47_6 := by
  intro ρ hp hE hT
  have j0 : ρ 0 % 4 = 1 := pz_gj hE 0 (by decide) rfl
  have j1 : ρ 1 % 4 = 1 := pz_gj hE 1 (by decide) rfl
  have j2 : ρ 2 % 4 = 1 := pz_gj hE 2 (by decide) rfl
  obtain ⟨i3a, i3b, i3c, i3d⟩ := pz_gi hE 3 2147483695 2147483695 (by decide) rfl
  have j4 : ρ 4 % 4 = 1 := pz_gj hE 4 (by decide) rfl
  have c_kind : ay_at hp 8 7 = some (ρ 3) := ay_gfj hE 42 28 15 8 7 (by decide) (by rw [ax_vl_c (by decide)]) (by rw [ax_vl_c (by decide)])
  have o1 : ρ 4 < ρ 1 := pz_go hE 19 7 (by decide)
  obtain ⟨-, -, -, -, F50⟩ : ay_ex hp 8 ∧ ay_ex hp 10 ∧ ay_ex hp 11 ∧ ay_ex hp 12 ∧ pz_x50 (ρ 0) (ρ 1) (ay_at hp 8 5) (ay_at hp 8 6) (ay_at hp 8 7) (ay_at hp 8 8) (ay_at hp 10 0) (ay_at hp 10 1) (ay_at hp 10 2) (ay_at hp 10 3) (ay_at hp 10 4) (ay_at hp 8 9) (ay_at hp 8 11) (ay_at hp 8 10) (ay_at hp 8 3) (ay_at hp 8 4) (ay_at hp 11) (ay_at hp 12) := (ax_XF_lt (by decide)).mp (ax_gx hE (50, [3, 7]) (by decide))
  rw [c_kind] at F50
  have F79 : pz7 (pz_gt (ρ 0)) (pz_gN (ρ 0)) ((ρ 1) / 4) 9 := (ax_XF_lt (by decide)).mp (ax_gx hE (79, [3, 7]) (by decide))
  have F90 : (pz90 (pz_gt (ρ 0)) (pz_gN (ρ 0)) ((ρ 1) / 4) ((ρ 2) / 4) ∧ 1 ≤ (ρ 2) / 4) := (ax_XF_lt (by decide)).mp (ax_gx hE (90, [3, 7, 11]) (by decide))
  have st := pq_op F50 F79 F90.1 (show pz_op (ρ 3 / 4) = true by rw [show ρ 3 / 4 = 47 by omega]; rfl)
  obtain ⟨ρ', h1, h2⟩ := pz_pn1 (K := ρ 1 / 4 + 1) (xf := [(53, [3, 23]), (78, [3, 23]), (90, [3, 23, 11]), (1030, [7, 23]), (1030, [19, 23])]) hE (by decide) (fun ρ' h1 h2 x hx => by
    have q0 : ρ' 0 = ρ 0 := h1 0 (by decide)
    have q1 : ρ' 1 = ρ 1 := h1 1 (by decide)
    have q2 : ρ' 2 = ρ 2 := h1 2 (by decide)
    have q3 : ρ' 3 = ρ 3 := h1 3 (by decide)
    have q4 : ρ' 4 = ρ 4 := h1 4 (by decide)
    rcases List.mem_cons.mp hx with e | hx
    · subst e
      refine (ax_XF_lt (x := 53) (by decide)).mpr ?_
      show ay_ex hp 8 ∧ ay_ex hp 10 ∧ ay_ex hp 11 ∧ ay_ex hp 12 ∧ pz_x53 (ρ' 0) (ρ' 5) (ay_at hp 8 5) (ay_at hp 10 0) (ay_at hp 10 1) (ay_at hp 10 2) (ay_at hp 10 3) (ay_at hp 10 4) (ay_at hp 8 9) (ay_at hp 8 11) (ay_at hp 8 10) (ay_at hp 8 3) (ay_at hp 8 4) (ay_at hp 11) (ay_at hp 12)
      rw [q0, h2]
      exact ⟨(ax_cellT hT (q := 8) (g := 2) rfl), (ax_cellT hT (q := 10) (g := 1) rfl), (ax_cellT hT (q := 11) (g := 14) rfl), (ax_cellT hT (q := 12) (g := 15) rfl), pz_53 (pz_41 _) rfl st.1⟩
    rcases List.mem_cons.mp hx with e | hx
    · subst e
      refine (ax_XF_lt (x := 78) (by decide)).mpr ?_
      show pz7 (pz_gt (ρ' 0)) (pz_gN (ρ' 0)) ((ρ' 5) / 4) 8
      rw [q0, h2]
      rw [pz_41]
      exact st.2.1
    rcases List.mem_cons.mp hx with e | hx
    · subst e
      refine (ax_XF_lt (x := 90) (by decide)).mpr ?_
      show (pz90 (pz_gt (ρ' 0)) (pz_gN (ρ' 0)) ((ρ' 5) / 4) ((ρ' 2) / 4) ∧ 1 ≤ (ρ' 2) / 4)
      rw [q0, q2, h2]
      rw [pz_41]
      exact ⟨st.2.2, F90.2⟩
    rcases List.mem_cons.mp hx with e | hx
    · subst e
      refine (ax_XF_bi (o := 30) (by decide)).mpr (Or.inr ⟨rfl, ?_⟩)
      show ρ' 1 < ρ' 5
      rw [q1, h2]
      omega
    cases List.mem_singleton.mp hx
    refine (ax_XF_bi (o := 30) (by decide)).mpr (Or.inr ⟨rfl, ?_⟩)
    show ρ' 4 < ρ' 5
    rw [q4, h2]
    omega)
  exact ⟨(fun y hy => by cases hy), _, List.mem_cons_self, ρ', h1, h2⟩

theorem axq_rp3c37_6 : ax_RO ax_wC ax_XC axu_rp3c37_6 := by
  intro ρ hp hE hT
  have j0 : ρ 0 % 4 = 1 := pz_gj hE 0 (by decide) rfl
  have j1 : ρ 1 % 4 = 1 := pz_gj hE 1 (by decide) rfl
  have j2 : ρ 2 % 4 = 1 := pz_gj hE 2 (by decide) rfl
  obtain ⟨i3a, i3b, i3c, i3d⟩ := pz_gi hE 3 2147483685 2147483685 (by decide) rfl
  have j4 : ρ 4 % 4 = 1 := pz_gj hE 4 (by decide) rfl
  have c_kind : ay_at hp 8 7 = some (ρ 3) := ay_gfj hE 42 28 15 8 7 (by decide) (by rw [ax_vl_c (by decide)]) (by rw [ax_vl_c (by decide)])
  have o1 : ρ 4 < ρ 1 := pz_go hE 19 7 (by decide)
  obtain ⟨-, -, -, -, F50⟩ : ay_ex hp 8 ∧ ay_ex hp 10 ∧ ay_ex hp 11 ∧ ay_ex hp 12 ∧ pz_x50 (ρ 0) (ρ 1) (ay_at hp 8 5) (ay_at hp 8 6) (ay_at hp 8 7) (ay_at hp 8 8) (ay_at hp 10 0) (ay_at hp 10 1) (ay_at hp 10 2) (ay_at hp 10 3) (ay_at hp 10 4) (ay_at hp 8 9) (ay_at hp 8 11) (ay_at hp 8 10) (ay_at hp 8 3) (ay_at hp 8 4) (ay_at hp 11) (ay_at hp 12) := (ax_XF_lt (by decide)).mp (ax_gx hE (50, [3, 7]) (by decide))
  rw [c_kind] at F50
  have F79 : pz7 (pz_gt (ρ 0)) (pz_gN (ρ 0)) ((ρ 1) / 4) 9 := (ax_XF_lt (by decide)).mp (ax_gx hE (79, [3, 7]) (by decide))
  have F90 : (pz90 (pz_gt (ρ 0)) (pz_gN (ρ 0)) ((ρ 1) / 4) ((ρ 2) / 4) ∧ 1 ≤ (ρ 2) / 4) := (ax_XF_lt (by decide)).mp (ax_gx hE (90, [3, 7, 11]) (by decide))
  have st := pq_op F50 F79 F90.1 (show pz_op (ρ 3 / 4) = true by rw [show ρ 3 / 4 = 37 by omega]; rfl)
  obtain ⟨ρ', h1, h2⟩ := pz_pn1 (K := ρ 1 / 4 + 1) (xf := [(53, [3, 23]), (78, [3, 23]), (90, [3, 23, 11]), (1030, [7, 23]), (1030, [19, 23])]) hE (by decide) (fun ρ' h1 h2 x hx => by
    have q0 : ρ' 0 = ρ 0 := h1 0 (by decide)
    have q1 : ρ' 1 = ρ 1 := h1 1 (by decide)
    have q2 : ρ' 2 = ρ 2 := h1 2 (by decide)
    have q3 : ρ' 3 = ρ 3 := h1 3 (by decide)
    have q4 : ρ' 4 = ρ 4 := h1 4 (by decide)
    rcases List.mem_cons.mp hx with e | hx
    · subst e
      refine (ax_XF_lt (x := 53) (by decide)).mpr ?_
      show ay_ex hp 8 ∧ ay_ex hp 10 ∧ ay_ex hp 11 ∧ ay_ex hp 12 ∧ pz_x53 (ρ' 0) (ρ' 5) (ay_at hp 8 5) (ay_at hp 10 0) (ay_at hp 10 1) (ay_at hp 10 2) (ay_at hp 10 3) (ay_at hp 10 4) (ay_at hp 8 9) (ay_at hp 8 11) (ay_at hp 8 10) (ay_at hp 8 3) (ay_at hp 8 4) (ay_at hp 11) (ay_at hp 12)
      rw [q0, h2]
      exact ⟨(ax_cellT hT (q := 8) (g := 2) rfl), (ax_cellT hT (q := 10) (g := 1) rfl), (ax_cellT hT (q := 11) (g := 14) rfl), (ax_cellT hT (q := 12) (g := 15) rfl), pz_53 (pz_41 _) rfl st.1⟩
    rcases List.mem_cons.mp hx with e | hx
    · subst e
      refine (ax_XF_lt (x := 78) (by decide)).mpr ?_
      show pz7 (pz_gt (ρ' 0)) (pz_gN (ρ' 0)) ((ρ' 5) / 4) 8
      rw [q0, h2]
      rw [pz_41]
      exact st.2.1
    rcases List.mem_cons.mp hx with e | hx
    · subst e
      refine (ax_XF_lt (x := 90) (by decide)).mpr ?_
      show (pz90 (pz_gt (ρ' 0)) (pz_gN (ρ' 0)) ((ρ' 5) / 4) ((ρ' 2) / 4) ∧ 1 ≤ (ρ' 2) / 4)
      rw [q0, q2, h2]
      rw [pz_41]
      exact ⟨st.2.2, F90.2⟩
    rcases List.mem_cons.mp hx with e | hx
    · subst e
      refine (ax_XF_bi (o := 30) (by decide)).mpr (Or.inr ⟨rfl, ?_⟩)
      show ρ' 1 < ρ' 5
      rw [q1, h2]
      omega
    cases List.mem_singleton.mp hx
    refine (ax_XF_bi (o := 30) (by decide)).mpr (Or.inr ⟨rfl, ?_⟩)
    show ρ' 4 < ρ' 5
    rw [q4, h2]
    omega)
  exact ⟨(fun y hy => by cases hy), _, List.mem_cons_self, ρ', h1, h2⟩

theorem axq_rq3c43_0 : ax_RO ax_wC ax_XC axu_rq3c43_0 := by
  intro ρ hp hE hT
  have j0 : ρ 0 % 4 = 1 := pz_gj hE 0 (by decide) rfl
  have j1 : ρ 1 % 4 = 1 := pz_gj hE 1 (by decide) rfl
  have j2 : ρ 2 % 4 = 1 := pz_gj hE 2 (by decide) rfl
  obtain ⟨i3a, i3b, i3c, i3d⟩ := pz_gi hE 3 2147483691 2147483691 (by decide) rfl
  have j4 : ρ 4 % 4 = 1 := pz_gj hE 4 (by decide) rfl
  have c_kind : ay_at hp 8 7 = some (ρ 3) := ay_gfj hE 42 28 15 8 7 (by decide) (by rw [ax_vl_c (by decide)]) (by rw [ax_vl_c (by decide)])
  have o1 : ρ 4 < ρ 1 := pz_go hE 19 7 (by decide)
  obtain ⟨-, -, -, -, F50⟩ : ay_ex hp 8 ∧ ay_ex hp 10 ∧ ay_ex hp 11 ∧ ay_ex hp 12 ∧ pz_x50 (ρ 0) (ρ 1) (ay_at hp 8 5) (ay_at hp 8 6) (ay_at hp 8 7) (ay_at hp 8 8) (ay_at hp 10 0) (ay_at hp 10 1) (ay_at hp 10 2) (ay_at hp 10 3) (ay_at hp 10 4) (ay_at hp 8 9) (ay_at hp 8 11) (ay_at hp 8 10) (ay_at hp 8 3) (ay_at hp 8 4) (ay_at hp 11) (ay_at hp 12) := (ax_XF_lt (by decide)).mp (ax_gx hE (50, [3, 7]) (by decide))
  rw [c_kind] at F50
  have F79 : pz7 (pz_gt (ρ 0)) (pz_gN (ρ 0)) ((ρ 1) / 4) 9 := (ax_XF_lt (by decide)).mp (ax_gx hE (79, [3, 7]) (by decide))
  have F90 : (pz90 (pz_gt (ρ 0)) (pz_gN (ρ 0)) ((ρ 1) / 4) ((ρ 2) / 4) ∧ 1 ≤ (ρ 2) / 4) := (ax_XF_lt (by decide)).mp (ax_gx hE (90, [3, 7, 11]) (by decide))
  have st := pq_op F50 F79 F90.1 (show pz_op (ρ 3 / 4) = true by rw [show ρ 3 / 4 = 43 by omega]; rfl)
  obtain ⟨ρ', h1, h2⟩ := pz_pn1 (K := ρ 1 / 4 + 1) (xf := [(53, [3, 23]), (78, [3, 23]), (90, [3, 23, 11]), (1030, [7, 23]), (1030, [19, 23])]) hE (by decide) (fun ρ' h1 h2 x hx => by
    have q0 : ρ' 0 = ρ 0 := h1 0 (by decide)
    have q1 : ρ' 1 = ρ 1 := h1 1 (by decide)
    have q2 : ρ' 2 = ρ 2 := h1 2 (by decide)
    have q3 : ρ' 3 = ρ 3 := h1 3 (by decide)
    have q4 : ρ' 4 = ρ 4 := h1 4 (by decide)
    rcases List.mem_cons.mp hx with e | hx
    · subst e
      refine (ax_XF_lt (x := 53) (by decide)).mpr ?_
      show ay_ex hp 8 ∧ ay_ex hp 10 ∧ ay_ex hp 11 ∧ ay_ex hp 12 ∧ pz_x53 (ρ' 0) (ρ' 5) (ay_at hp 8 5) (ay_at hp 10 0) (ay_at hp 10 1) (ay_at hp 10 2) (ay_at hp 10 3) (ay_at hp 10 4) (ay_at hp 8 9) (ay_at hp 8 11) (ay_at hp 8 10) (ay_at hp 8 3) (ay_at hp 8 4) (ay_at hp 11) (ay_at hp 12)
      rw [q0, h2]
      exact ⟨(ax_cellT hT (q := 8) (g := 2) rfl), (ax_cellT hT (q := 10) (g := 1) rfl), (ax_cellT hT (q := 11) (g := 14) rfl), (ax_cellT hT (q := 12) (g := 15) rfl), pz_53 (pz_41 _) rfl st.1⟩
    rcases List.mem_cons.mp hx with e | hx
    · subst e
      refine (ax_XF_lt (x := 78) (by decide)).mpr ?_
      show pz7 (pz_gt (ρ' 0)) (pz_gN (ρ' 0)) ((ρ' 5) / 4) 8
      rw [q0, h2]
      rw [pz_41]
      exact st.2.1
    rcases List.mem_cons.mp hx with e | hx
    · subst e
      refine (ax_XF_lt (x := 90) (by decide)).mpr ?_
      show (pz90 (pz_gt (ρ' 0)) (pz_gN (ρ' 0)) ((ρ' 5) / 4) ((ρ' 2) / 4) ∧ 1 ≤ (ρ' 2) / 4)
      rw [q0, q2, h2]
      rw [pz_41]
      exact ⟨st.2.2, F90.2⟩
    rcases List.mem_cons.mp hx with e | hx
    · subst e
      refine (ax_XF_bi (o := 30) (by decide)).mpr (Or.inr ⟨rfl, ?_⟩)
      show ρ' 1 < ρ' 5
      rw [q1, h2]
      omega
    cases List.mem_singleton.mp hx
    refine (ax_XF_bi (o := 30) (by decide)).mpr (Or.inr ⟨rfl, ?_⟩)
    show ρ' 4 < ρ' 5
    rw [q4, h2]
    omega)
  exact ⟨(fun y hy => by cases hy), _, List.mem_cons_self, ρ', h1, h2⟩

theorem axq_rq3c45_0 : ax_RO ax_wC ax_XC axu_rq3c45_0 := by
  intro ρ hp hE hT
  have j0 : ρ 0 % 4 = 1 := pz_gj hE 0 (by decide) rfl
  have j1 : ρ 1 % 4 = 1 := pz_gj hE 1 (by decide) rfl
  have j2 : ρ 2 % 4 = 1 := pz_gj hE 2 (by decide) rfl
  obtain ⟨i3a, i3b, i3c, i3d⟩ := pz_gi hE 3 2147483693 2147483693 (by decide) rfl
  have j4 : ρ 4 % 4 = 1 := pz_gj hE 4 (by decide) rfl
  have c_kind : ay_at hp 8 7 = some (ρ 3) := ay_gfj hE 42 28 15 8 7 (by decide) (by rw [ax_vl_c (by decide)]) (by rw [ax_vl_c (by decide)])
  have o1 : ρ 4 < ρ 1 := pz_go hE 19 7 (by decide)
  obtain ⟨-, -, -, -, F50⟩ : ay_ex hp 8 ∧ ay_ex hp 10 ∧ ay_ex hp 11 ∧ ay_ex hp 12 ∧ pz_x50 (ρ 0) (ρ 1) (ay_at hp 8 5) (ay_at hp 8 6) (ay_at hp 8 7) (ay_at hp 8 8) (ay_at hp 10 0) (ay_at hp 10 1) (ay_at hp 10 2) (ay_at hp 10 3) (ay_at hp 10 4) (ay_at hp 8 9) (ay_at hp 8 11) (ay_at hp 8 10) (ay_at hp 8 3) (ay_at hp 8 4) (ay_at hp 11) (ay_at hp 12) := (ax_XF_lt (by decide)).mp (ax_gx hE (50, [3, 7]) (by decide))
  rw [c_kind] at F50
  have F79 : pz7 (pz_gt (ρ 0)) (pz_gN (ρ 0)) ((ρ 1) / 4) 9 := (ax_XF_lt (by decide)).mp (ax_gx hE (79, [3, 7]) (by decide))
  have F90 : (pz90 (pz_gt (ρ 0)) (pz_gN (ρ 0)) ((ρ 1) / 4) ((ρ 2) / 4) ∧ 1 ≤ (ρ 2) / 4) := (ax_XF_lt (by decide)).mp (ax_gx hE (90, [3, 7, 11]) (by decide))
  have st := pq_op F50 F79 F90.1 (show pz_op (ρ 3 / 4) = true by rw [show ρ 3 / 4 = 45 by omega]; rfl)
  obtain ⟨ρ', h1, h2⟩ := pz_pn1 (K := ρ 1 / 4 + 1) (xf := [(53, [3, 23]), (78, [3, 23]), (90, [3, 23, 11]), (1030, [7, 23]), (1030, [19, 23])]) hE (by decide) (fun ρ' h1 h2 x hx => by
    have q0 : ρ' 0 = ρ 0 := h1 0 (by decide)
    have q1 : ρ' 1 = ρ 1 := h1 1 (by decide)
    have q2 : ρ' 2 = ρ 2 := h1 2 (by decide)
    have q3 : ρ' 3 = ρ 3 := h1 3 (by decide)
    have q4 : ρ' 4 = ρ 4 := h1 4 (by decide)
    rcases List.mem_cons.mp hx with e | hx
    · subst e
      refine (ax_XF_lt (x := 53) (by decide)).mpr ?_
      show ay_ex hp 8 ∧ ay_ex hp 10 ∧ ay_ex hp 11 ∧ ay_ex hp 12 ∧ pz_x53 (ρ' 0) (ρ' 5) (ay_at hp 8 5) (ay_at hp 10 0) (ay_at hp 10 1) (ay_at hp 10 2) (ay_at hp 10 3) (ay_at hp 10 4) (ay_at hp 8 9) (ay_at hp 8 11) (ay_at hp 8 10) (ay_at hp 8 3) (ay_at hp 8 4) (ay_at hp 11) (ay_at hp 12)
      rw [q0, h2]
      exact ⟨(ax_cellT hT (q := 8) (g := 2) rfl), (ax_cellT hT (q := 10) (g := 1) rfl), (ax_cellT hT (q := 11) (g := 14) rfl), (ax_cellT hT (q := 12) (g := 15) rfl), pz_53 (pz_41 _) rfl st.1⟩
    rcases List.mem_cons.mp hx with e | hx
    · subst e
      refine (ax_XF_lt (x := 78) (by decide)).mpr ?_
      show pz7 (pz_gt (ρ' 0)) (pz_gN (ρ' 0)) ((ρ' 5) / 4) 8
      rw [q0, h2]
      rw [pz_41]
      exact st.2.1
    rcases List.mem_cons.mp hx with e | hx
    · subst e
      refine (ax_XF_lt (x := 90) (by decide)).mpr ?_
      show (pz90 (pz_gt (ρ' 0)) (pz_gN (ρ' 0)) ((ρ' 5) / 4) ((ρ' 2) / 4) ∧ 1 ≤ (ρ' 2) / 4)
      rw [q0, q2, h2]
      rw [pz_41]
      exact ⟨st.2.2, F90.2⟩
    rcases List.mem_cons.mp hx with e | hx
    · subst e
      refine (ax_XF_bi (o := 30) (by decide)).mpr (Or.inr ⟨rfl, ?_⟩)
      show ρ' 1 < ρ' 5
      rw [q1, h2]
      omega
    cases List.mem_singleton.mp hx
    refine (ax_XF_bi (o := 30) (by decide)).mpr (Or.inr ⟨rfl, ?_⟩)
    show ρ' 4 < ρ' 5
    rw [q4, h2]
    omega)
  exact ⟨(fun y hy => by cases hy), _, List.mem_cons_self, ρ', h1, h2⟩

theorem axq_rq3c43_1 : ax_RO ax_wC ax_XC axu_rq3c43_1 := by
  intro ρ hp hE hT
  have j0 : ρ 0 % 4 = 1 := pz_gj hE 0 (by decide) rfl
  have j1 : ρ 1 % 4 = 1 := pz_gj hE 1 (by decide) rfl
  have j2 : ρ 2 % 4 = 1 := pz_gj hE 2 (by decide) rfl
  obtain ⟨i3a, i3b, i3c, i3d⟩ := pz_gi hE 3 2147483691 2147483691 (by decide) rfl
  have j4 : ρ 4 % 4 = 1 := pz_gj hE 4 (by decide) rfl
  have c_kind : ay_at hp 8 7 = some (ρ 3) := ay_gfj hE 42 28 15 8 7 (by decide) (by rw [ax_vl_c (by decide)]) (by rw [ax_vl_c (by decide)])
  have o1 : ρ 4 < ρ 1 := pz_go hE 19 7 (by decide)
  obtain ⟨-, -, -, -, F50⟩ : ay_ex hp 8 ∧ ay_ex hp 10 ∧ ay_ex hp 11 ∧ ay_ex hp 12 ∧ pz_x50 (ρ 0) (ρ 1) (ay_at hp 8 5) (ay_at hp 8 6) (ay_at hp 8 7) (ay_at hp 8 8) (ay_at hp 10 0) (ay_at hp 10 1) (ay_at hp 10 2) (ay_at hp 10 3) (ay_at hp 10 4) (ay_at hp 8 9) (ay_at hp 8 11) (ay_at hp 8 10) (ay_at hp 8 3) (ay_at hp 8 4) (ay_at hp 11) (ay_at hp 12) := (ax_XF_lt (by decide)).mp (ax_gx hE (50, [3, 7]) (by decide))
  rw [c_kind] at F50
  have F79 : pz7 (pz_gt (ρ 0)) (pz_gN (ρ 0)) ((ρ 1) / 4) 9 := (ax_XF_lt (by decide)).mp (ax_gx hE (79, [3, 7]) (by decide))
  have F90 : (pz90 (pz_gt (ρ 0)) (pz_gN (ρ 0)) ((ρ 1) / 4) ((ρ 2) / 4) ∧ 1 ≤ (ρ 2) / 4) := (ax_XF_lt (by decide)).mp (ax_gx hE (90, [3, 7, 11]) (by decide))
  have st := pq_op F50 F79 F90.1 (show pz_op (ρ 3 / 4) = true by rw [show ρ 3 / 4 = 43 by omega]; rfl)
  obtain ⟨ρ', h1, h2⟩ := pz_pn1 (K := ρ 1 / 4 + 1) (xf := [(53, [3, 23]), (78, [3, 23]), (90, [3, 23, 11]), (1030, [7, 23]), (1030, [19, 23])]) hE (by decide) (fun ρ' h1 h2 x hx => by
    have q0 : ρ' 0 = ρ 0 := h1 0 (by decide)
    have q1 : ρ' 1 = ρ 1 := h1 1 (by decide)
    have q2 : ρ' 2 = ρ 2 := h1 2 (by decide)
    have q3 : ρ' 3 = ρ 3 := h1 3 (by decide)
    have q4 : ρ' 4 = ρ 4 := h1 4 (by decide)
    rcases List.mem_cons.mp hx with e | hx
    · subst e
      refine (ax_XF_lt (x := 53) (by decide)).mpr ?_
      show ay_ex hp 8 ∧ ay_ex hp 10 ∧ ay_ex hp 11 ∧ ay_ex hp 12 ∧ pz_x53 (ρ' 0) (ρ' 5) (ay_at hp 8 5) (ay_at hp 10 0) (ay_at hp 10 1) (ay_at hp 10 2) (ay_at hp 10 3) (ay_at hp 10 4) (ay_at hp 8 9) (ay_at hp 8 11) (ay_at hp 8 10) (ay_at hp 8 3) (ay_at hp 8 4) (ay_at hp 11) (ay_at hp 12)
      rw [q0, h2]
      exact ⟨(ax_cellT hT (q := 8) (g := 2) rfl), (ax_cellT hT (q := 10) (g := 1) rfl), (ax_cellT hT (q := 11) (g := 14) rfl), (ax_cellT hT (q := 12) (g := 15) rfl), pz_53 (pz_41 _) rfl st.1⟩
    rcases List.mem_cons.mp hx with e | hx
    · subst e
      refine (ax_XF_lt (x := 78) (by decide)).mpr ?_
      show pz7 (pz_gt (ρ' 0)) (pz_gN (ρ' 0)) ((ρ' 5) / 4) 8
      rw [q0, h2]
      rw [pz_41]
      exact st.2.1
    rcases List.mem_cons.mp hx with e | hx
    · subst e
      refine (ax_XF_lt (x := 90) (by decide)).mpr ?_
      show (pz90 (pz_gt (ρ' 0)) (pz_gN (ρ' 0)) ((ρ' 5) / 4) ((ρ' 2) / 4) ∧ 1 ≤ (ρ' 2) / 4)
      rw [q0, q2, h2]
      rw [pz_41]
      exact ⟨st.2.2, F90.2⟩
    rcases List.mem_cons.mp hx with e | hx
    · subst e
      refine (ax_XF_bi (o := 30) (by decide)).mpr (Or.inr ⟨rfl, ?_⟩)
      show ρ' 1 < ρ' 5
      rw [q1, h2]
      omega
    cases List.mem_singleton.mp hx
    refine (ax_XF_bi (o := 30) (by decide)).mpr (Or.inr ⟨rfl, ?_⟩)
    show ρ' 4 < ρ' 5
    rw [q4, h2]
    omega)
  exact ⟨(fun y hy => by cases hy), _, List.mem_cons_self, ρ', h1, h2⟩

theorem axq_rq3c45_1 : ax_RO ax_wC ax_XC axu_rq3c45_1 := by
  intro ρ hp hE hT
  have j0 : ρ 0 % 4 = 1 := pz_gj hE 0 (by decide) rfl
  have j1 : ρ 1 % 4 = 1 := pz_gj hE 1 (by decide) rfl
  have j2 : ρ 2 % 4 = 1 := pz_gj hE 2 (by decide) rfl
  obtain ⟨i3a, i3b, i3c, i3d⟩ := pz_gi hE 3 2147483693 2147483693 (by decide) rfl
  have j4 : ρ 4 % 4 = 1 := pz_gj hE 4 (by decide) rfl
  have c_kind : ay_at hp 8 7 = some (ρ 3) := ay_gfj hE 42 28 15 8 7 (by decide) (by rw [ax_vl_c (by decide)]) (by rw [ax_vl_c (by decide)])
  have o1 : ρ 4 < ρ 1 := pz_go hE 19 7 (by decide)
  obtain ⟨-, -, -, -, F50⟩ : ay_ex hp 8 ∧ ay_ex hp 10 ∧ ay_ex hp 11 ∧ ay_ex hp 12 ∧ pz_x50 (ρ 0) (ρ 1) (ay_at hp 8 5) (ay_at hp 8 6) (ay_at hp 8 7) (ay_at hp 8 8) (ay_at hp 10 0) (ay_at hp 10 1) (ay_at hp 10 2) (ay_at hp 10 3) (ay_at hp 10 4) (ay_at hp 8 9) (ay_at hp 8 11) (ay_at hp 8 10) (ay_at hp 8 3) (ay_at hp 8 4) (ay_at hp 11) (ay_at hp 12) := (ax_XF_lt (by decide)).mp (ax_gx hE (50, [3, 7]) (by decide))
  rw [c_kind] at F50
  have F79 : pz7 (pz_gt (ρ 0)) (pz_gN (ρ 0)) ((ρ 1) / 4) 9 := (ax_XF_lt (by decide)).mp (ax_gx hE (79, [3, 7]) (by decide))
  have F90 : (pz90 (pz_gt (ρ 0)) (pz_gN (ρ 0)) ((ρ 1) / 4) ((ρ 2) / 4) ∧ 1 ≤ (ρ 2) / 4) := (ax_XF_lt (by decide)).mp (ax_gx hE (90, [3, 7, 11]) (by decide))
  have st := pq_op F50 F79 F90.1 (show pz_op (ρ 3 / 4) = true by rw [show ρ 3 / 4 = 45 by omega]; rfl)
  obtain ⟨ρ', h1, h2⟩ := pz_pn1 (K := ρ 1 / 4 + 1) (xf := [(53, [3, 23]), (78, [3, 23]), (90, [3, 23, 11]), (1030, [7, 23]), (1030, [19, 23])]) hE (by decide) (fun ρ' h1 h2 x hx => by
    have q0 : ρ' 0 = ρ 0 := h1 0 (by decide)
    have q1 : ρ' 1 = ρ 1 := h1 1 (by decide)
    have q2 : ρ' 2 = ρ 2 := h1 2 (by decide)
    have q3 : ρ' 3 = ρ 3 := h1 3 (by decide)
    have q4 : ρ' 4 = ρ 4 := h1 4 (by decide)
    rcases List.mem_cons.mp hx with e | hx
    · subst e
      refine (ax_XF_lt (x := 53) (by decide)).mpr ?_
      show ay_ex hp 8 ∧ ay_ex hp 10 ∧ ay_ex hp 11 ∧ ay_ex hp 12 ∧ pz_x53 (ρ' 0) (ρ' 5) (ay_at hp 8 5) (ay_at hp 10 0) (ay_at hp 10 1) (ay_at hp 10 2) (ay_at hp 10 3) (ay_at hp 10 4) (ay_at hp 8 9) (ay_at hp 8 11) (ay_at hp 8 10) (ay_at hp 8 3) (ay_at hp 8 4) (ay_at hp 11) (ay_at hp 12)
      rw [q0, h2]
      exact ⟨(ax_cellT hT (q := 8) (g := 2) rfl), (ax_cellT hT (q := 10) (g := 1) rfl), (ax_cellT hT (q := 11) (g := 14) rfl), (ax_cellT hT (q := 12) (g := 15) rfl), pz_53 (pz_41 _) rfl st.1⟩
    rcases List.mem_cons.mp hx with e | hx
    · subst e
      refine (ax_XF_lt (x := 78) (by decide)).mpr ?_
      show pz7 (pz_gt (ρ' 0)) (pz_gN (ρ' 0)) ((ρ' 5) / 4) 8
      rw [q0, h2]
      rw [pz_41]
      exact st.2.1
    rcases List.mem_cons.mp hx with e | hx
    · subst e
      refine (ax_XF_lt (x := 90) (by decide)).mpr ?_
      show (pz90 (pz_gt (ρ' 0)) (pz_gN (ρ' 0)) ((ρ' 5) / 4) ((ρ' 2) / 4) ∧ 1 ≤ (ρ' 2) / 4)
      rw [q0, q2, h2]
      rw [pz_41]
      exact ⟨st.2.2, F90.2⟩
    rcases List.mem_cons.mp hx with e | hx
    · subst e
      refine (ax_XF_bi (o := 30) (by decide)).mpr (Or.inr ⟨rfl, ?_⟩)
      show ρ' 1 < ρ' 5
      rw [q1, h2]
      omega
    cases List.mem_singleton.mp hx
    refine (ax_XF_bi (o := 30) (by decide)).mpr (Or.inr ⟨rfl, ?_⟩)
    show ρ' 4 < ρ' 5
    rw [q4, h2]
    omega)
  exact ⟨(fun y hy => by cases hy), _, List.mem_cons_self, ρ', h1, h2⟩

theorem axq_rq3c43_2 : ax_RO ax_wC ax_XC axu_rq3c43_2 := by
  intro ρ hp hE hT
  have j0 : ρ 0 % 4 = 1 := pz_gj hE 0 (by decide) rfl
  have j1 : ρ 1 % 4 = 1 := pz_gj hE 1 (by decide) rfl
  have j2 : ρ 2 % 4 = 1 := pz_gj hE 2 (by decide) rfl
  obtain ⟨i3a, i3b, i3c, i3d⟩ := pz_gi hE 3 2147483691 2147483691 (by decide) rfl
  have j4 : ρ 4 % 4 = 1 := pz_gj hE 4 (by decide) rfl
  have c_kind : ay_at hp 8 7 = some (ρ 3) := ay_gfj hE 42 28 15 8 7 (by decide) (by rw [ax_vl_c (by decide)]) (by rw [ax_vl_c (by decide)])
  have o1 : ρ 4 < ρ 1 := pz_go hE 19 7 (by decide)
  obtain ⟨-, -, -, -, F50⟩ : ay_ex hp 8 ∧ ay_ex hp 10 ∧ ay_ex hp 11 ∧ ay_ex hp 12 ∧ pz_x50 (ρ 0) (ρ 1) (ay_at hp 8 5) (ay_at hp 8 6) (ay_at hp 8 7) (ay_at hp 8 8) (ay_at hp 10 0) (ay_at hp 10 1) (ay_at hp 10 2) (ay_at hp 10 3) (ay_at hp 10 4) (ay_at hp 8 9) (ay_at hp 8 11) (ay_at hp 8 10) (ay_at hp 8 3) (ay_at hp 8 4) (ay_at hp 11) (ay_at hp 12) := (ax_XF_lt (by decide)).mp (ax_gx hE (50, [3, 7]) (by decide))
  rw [c_kind] at F50
  have F79 : pz7 (pz_gt (ρ 0)) (pz_gN (ρ 0)) ((ρ 1) / 4) 9 := (ax_XF_lt (by decide)).mp (ax_gx hE (79, [3, 7]) (by decide))
  have F90 : (pz90 (pz_gt (ρ 0)) (pz_gN (ρ 0)) ((ρ 1) / 4) ((ρ 2) / 4) ∧ 1 ≤ (ρ 2) / 4) := (ax_XF_lt (by decide)).mp (ax_gx hE (90, [3, 7, 11]) (by decide))
  have st := pq_op F50 F79 F90.1 (show pz_op (ρ 3 / 4) = true by rw [show ρ 3 / 4 = 43 by omega]; rfl)
  obtain ⟨ρ', h1, h2⟩ := pz_pn1 (K := ρ 1 / 4 + 1) (xf := [(53, [3, 23]), (78, [3, 23]), (90, [3, 23, 11]), (1030, [7, 23]), (1030, [19, 23])]) hE (by decide) (fun ρ' h1 h2 x hx => by
    have q0 : ρ' 0 = ρ 0 := h1 0 (by decide)
    have q1 : ρ' 1 = ρ 1 := h1 1 (by decide)
    have q2 : ρ' 2 = ρ 2 := h1 2 (by decide)
    have q3 : ρ' 3 = ρ 3 := h1 3 (by decide)
    have q4 : ρ' 4 = ρ 4 := h1 4 (by decide)
    rcases List.mem_cons.mp hx with e | hx
    · subst e
      refine (ax_XF_lt (x := 53) (by decide)).mpr ?_
      show ay_ex hp 8 ∧ ay_ex hp 10 ∧ ay_ex hp 11 ∧ ay_ex hp 12 ∧ pz_x53 (ρ' 0) (ρ' 5) (ay_at hp 8 5) (ay_at hp 10 0) (ay_at hp 10 1) (ay_at hp 10 2) (ay_at hp 10 3) (ay_at hp 10 4) (ay_at hp 8 9) (ay_at hp 8 11) (ay_at hp 8 10) (ay_at hp 8 3) (ay_at hp 8 4) (ay_at hp 11) (ay_at hp 12)
      rw [q0, h2]
      exact ⟨(ax_cellT hT (q := 8) (g := 2) rfl), (ax_cellT hT (q := 10) (g := 1) rfl), (ax_cellT hT (q := 11) (g := 14) rfl), (ax_cellT hT (q := 12) (g := 15) rfl), pz_53 (pz_41 _) rfl st.1⟩
    rcases List.mem_cons.mp hx with e | hx
    · subst e
      refine (ax_XF_lt (x := 78) (by decide)).mpr ?_
      show pz7 (pz_gt (ρ' 0)) (pz_gN (ρ' 0)) ((ρ' 5) / 4) 8
      rw [q0, h2]
      rw [pz_41]
      exact st.2.1
    rcases List.mem_cons.mp hx with e | hx
    · subst e
      refine (ax_XF_lt (x := 90) (by decide)).mpr ?_
      show (pz90 (pz_gt (ρ' 0)) (pz_gN (ρ' 0)) ((ρ' 5) / 4) ((ρ' 2) / 4) ∧ 1 ≤ (ρ' 2) / 4)
      rw [q0, q2, h2]
      rw [pz_41]
      exact ⟨st.2.2, F90.2⟩
    rcases List.mem_cons.mp hx with e | hx
    · subst e
      refine (ax_XF_bi (o := 30) (by decide)).mpr (Or.inr ⟨rfl, ?_⟩)
      show ρ' 1 < ρ' 5
      rw [q1, h2]
      omega
    cases List.mem_singleton.mp hx
    refine (ax_XF_bi (o := 30) (by decide)).mpr (Or.inr ⟨rfl, ?_⟩)
    show ρ' 4 < ρ' 5
    rw [q4, h2]
    omega)
  exact ⟨(fun y hy => by cases hy), _, List.mem_cons_self, ρ', h1, h2⟩

theorem axq_rq3c45_2 : ax_RO ax_wC ax_XC axu_rq3c45_2 := by
  intro ρ hp hE hT
  have j0 : ρ 0 % 4 = 1 := pz_gj hE 0 (by decide) rfl
  have j1 : ρ 1 % 4 = 1 := pz_gj hE 1 (by decide) rfl
  have j2 : ρ 2 % 4 = 1 := pz_gj hE 2 (by decide) rfl
  obtain ⟨i3a, i3b, i3c, i3d⟩ := pz_gi hE 3 2147483693 2147483693 (by decide) rfl
  have j4 : ρ 4 % 4 = 1 := pz_gj hE 4 (by decide) rfl
  have c_kind : ay_at hp 8 7 = some (ρ 3) := ay_gfj hE 42 28 15 8 7 (by decide) (by rw [ax_vl_c (by decide)]) (by rw [ax_vl_c (by decide)])
  have o1 : ρ 4 < ρ 1 := pz_go hE 19 7 (by decide)
  obtain ⟨-, -, -, -, F50⟩ : ay_ex hp 8 ∧ ay_ex hp 10 ∧ ay_ex hp 11 ∧ ay_ex hp 12 ∧ pz_x50 (ρ 0) (ρ 1) (ay_at hp 8 5) (ay_at hp 8 6) (ay_at hp 8 7) (ay_at hp 8 8) (ay_at hp 10 0) (ay_at hp 10 1) (ay_at hp 10 2) (ay_at hp 10 3) (ay_at hp 10 4) (ay_at hp 8 9) (ay_at hp 8 11) (ay_at hp 8 10) (ay_at hp 8 3) (ay_at hp 8 4) (ay_at hp 11) (ay_at hp 12) := (ax_XF_lt (by decide)).mp (ax_gx hE (50, [3, 7]) (by decide))
  rw [c_kind] at F50
  have F79 : pz7 (pz_gt (ρ 0)) (pz_gN (ρ 0)) ((ρ 1) / 4) 9 := (ax_XF_lt (by decide)).mp (ax_gx hE (79, [3, 7]) (by decide))
  have F90 : (pz90 (pz_gt (ρ 0)) (pz_gN (ρ 0)) ((ρ 1) / 4) ((ρ 2) / 4) ∧ 1 ≤ (ρ 2) / 4) := (ax_XF_lt (by decide)).mp (ax_gx hE (90, [3, 7, 11]) (by decide))
  have st := pq_op F50 F79 F90.1 (show pz_op (ρ 3 / 4) = true by rw [show ρ 3 / 4 = 45 by omega]; rfl)
  obtain ⟨ρ', h1, h2⟩ := pz_pn1 (K := ρ 1 / 4 + 1) (xf := [(53, [3, 23]), (78, [3, 23]), (90, [3, 23, 11]), (1030, [7, 23]), (1030, [19, 23])]) hE (by decide) (fun ρ' h1 h2 x hx => by
    have q0 : ρ' 0 = ρ 0 := h1 0 (by decide)
    have q1 : ρ' 1 = ρ 1 := h1 1 (by decide)
    have q2 : ρ' 2 = ρ 2 := h1 2 (by decide)
    have q3 : ρ' 3 = ρ 3 := h1 3 (by decide)
    have q4 : ρ' 4 = ρ 4 := h1 4 (by decide)
    rcases List.mem_cons.mp hx with e | hx
    · subst e
      refine (ax_XF_lt (x := 53) (by decide)).mpr ?_
      show ay_ex hp 8 ∧ ay_ex hp 10 ∧ ay_ex hp 11 ∧ ay_ex hp 12 ∧ pz_x53 (ρ' 0) (ρ' 5) (ay_at hp 8 5) (ay_at hp 10 0) (ay_at hp 10 1) (ay_at hp 10 2) (ay_at hp 10 3) (ay_at hp 10 4) (ay_at hp 8 9) (ay_at hp 8 11) (ay_at hp 8 10) (ay_at hp 8 3) (ay_at hp 8 4) (ay_at hp 11) (ay_at hp 12)
      rw [q0, h2]
      exact ⟨(ax_cellT hT (q := 8) (g := 2) rfl), (ax_cellT hT (q := 10) (g := 1) rfl), (ax_cellT hT (q := 11) (g := 14) rfl), (ax_cellT hT (q := 12) (g := 15) rfl), pz_53 (pz_41 _) rfl st.1⟩
    rcases List.mem_cons.mp hx with e | hx
    · subst e
      refine (ax_XF_lt (x := 78) (by decide)).mpr ?_
      show pz7 (pz_gt (ρ' 0)) (pz_gN (ρ' 0)) ((ρ' 5) / 4) 8
      rw [q0, h2]
      rw [pz_41]
      exact st.2.1
    rcases List.mem_cons.mp hx with e | hx
    · subst e
      refine (ax_XF_lt (x := 90) (by decide)).mpr ?_
      show (pz90 (pz_gt (ρ' 0)) (pz_gN (ρ' 0)) ((ρ' 5) / 4) ((ρ' 2) / 4) ∧ 1 ≤ (ρ' 2) / 4)
      rw [q0, q2, h2]
      rw [pz_41]
      exact ⟨st.2.2, F90.2⟩
    rcases List.mem_cons.mp hx with e | hx
    · subst e
      refine (ax_XF_bi (o := 30) (by decide)).mpr (Or.inr ⟨rfl, ?_⟩)
      show ρ' 1 < ρ' 5
      rw [q1, h2]
      omega
    cases List.mem_singleton.mp hx
    refine (ax_XF_bi (o := 30) (by decide)).mpr (Or.inr ⟨rfl, ?_⟩)
    show ρ' 4 < ρ' 5
    rw [q4, h2]
    omega)
  exact ⟨(fun y hy => by cases hy), _, List.mem_cons_self, ρ', h1, h2⟩

theorem axq_rq3c43_3 : ax_RO ax_wC ax_XC axu_rq3c43_3 := by
  intro ρ hp hE hT
  have j0 : ρ 0 % 4 = 1 := pz_gj hE 0 (by decide) rfl
  have j1 : ρ 1 % 4 = 1 := pz_gj hE 1 (by decide) rfl
  have j2 : ρ 2 % 4 = 1 := pz_gj hE 2 (by decide) rfl
  obtain ⟨i3a, i3b, i3c, i3d⟩ := pz_gi hE 3 2147483691 2147483691 (by decide) rfl
  have j4 : ρ 4 % 4 = 1 := pz_gj hE 4 (by decide) rfl
  have c_kind : ay_at hp 8 7 = some (ρ 3) := ay_gfj hE 42 28 15 8 7 (by decide) (by rw [ax_vl_c (by decide)]) (by rw [ax_vl_c (by decide)])
  have o1 : ρ 4 < ρ 1 := pz_go hE 19 7 (by decide)
  obtain ⟨-, -, -, -, F50⟩ : ay_ex hp 8 ∧ ay_ex hp 10 ∧ ay_ex hp 11 ∧ ay_ex hp 12 ∧ pz_x50 (ρ 0) (ρ 1) (ay_at hp 8 5) (ay_at hp 8 6) (ay_at hp 8 7) (ay_at hp 8 8) (ay_at hp 10 0) (ay_at hp 10 1) (ay_at hp 10 2) (ay_at hp 10 3) (ay_at hp 10 4) (ay_at hp 8 9) (ay_at hp 8 11) (ay_at hp 8 10) (ay_at hp 8 3) (ay_at hp 8 4) (ay_at hp 11) (ay_at hp 12) := (ax_XF_lt (by decide)).mp (ax_gx hE (50, [3, 7]) (by decide))
  rw [c_kind] at F50
  have F79 : pz7 (pz_gt (ρ 0)) (pz_gN (ρ 0)) ((ρ 1) / 4) 9 := (ax_XF_lt (by decide)).mp (ax_gx hE (79, [3, 7]) (by decide))
  have F90 : (pz90 (pz_gt (ρ 0)) (pz_gN (ρ 0)) ((ρ 1) / 4) ((ρ 2) / 4) ∧ 1 ≤ (ρ 2) / 4) := (ax_XF_lt (by decide)).mp (ax_gx hE (90, [3, 7, 11]) (by decide))
  have st := pq_op F50 F79 F90.1 (show pz_op (ρ 3 / 4) = true by rw [show ρ 3 / 4 = 43 by omega]; rfl)
  obtain ⟨ρ', h1, h2⟩ := pz_pn1 (K := ρ 1 / 4 + 1) (xf := [(53, [3, 23]), (78, [3, 23]), (90, [3, 23, 11]), (1030, [7, 23]), (1030, [19, 23])]) hE (by decide) (fun ρ' h1 h2 x hx => by
    have q0 : ρ' 0 = ρ 0 := h1 0 (by decide)
    have q1 : ρ' 1 = ρ 1 := h1 1 (by decide)
    have q2 : ρ' 2 = ρ 2 := h1 2 (by decide)
    have q3 : ρ' 3 = ρ 3 := h1 3 (by decide)
    have q4 : ρ' 4 = ρ 4 := h1 4 (by decide)
    rcases List.mem_cons.mp hx with e | hx
    · subst e
      refine (ax_XF_lt (x := 53) (by decide)).mpr ?_
      show ay_ex hp 8 ∧ ay_ex hp 10 ∧ ay_ex hp 11 ∧ ay_ex hp 12 ∧ pz_x53 (ρ' 0) (ρ' 5) (ay_at hp 8 5) (ay_at hp 10 0) (ay_at hp 10 1) (ay_at hp 10 2) (ay_at hp 10 3) (ay_at hp 10 4) (ay_at hp 8 9) (ay_at hp 8 11) (ay_at hp 8 10) (ay_at hp 8 3) (ay_at hp 8 4) (ay_at hp 11) (ay_at hp 12)
      rw [q0, h2]
      exact ⟨(ax_cellT hT (q := 8) (g := 2) rfl), (ax_cellT hT (q := 10) (g := 1) rfl), (ax_cellT hT (q := 11) (g := 14) rfl), (ax_cellT hT (q := 12) (g := 15) rfl), pz_53 (pz_41 _) rfl st.1⟩
    rcases List.mem_cons.mp hx with e | hx
    · subst e
      refine (ax_XF_lt (x := 78) (by decide)).mpr ?_
      show pz7 (pz_gt (ρ' 0)) (pz_gN (ρ' 0)) ((ρ' 5) / 4) 8
      rw [q0, h2]
      rw [pz_41]
      exact st.2.1
    rcases List.mem_cons.mp hx with e | hx
    · subst e
      refine (ax_XF_lt (x := 90) (by decide)).mpr ?_
      show (pz90 (pz_gt (ρ' 0)) (pz_gN (ρ' 0)) ((ρ' 5) / 4) ((ρ' 2) / 4) ∧ 1 ≤ (ρ' 2) / 4)
      rw [q0, q2, h2]
      rw [pz_41]
      exact ⟨st.2.2, F90.2⟩
    rcases List.mem_cons.mp hx with e | hx
    · subst e
      refine (ax_XF_bi (o := 30) (by decide)).mpr (Or.inr ⟨rfl, ?_⟩)
      show ρ' 1 < ρ' 5
      rw [q1, h2]
      omega
    cases List.mem_singleton.mp hx
    refine (ax_XF_bi (o := 30) (by decide)).mpr (Or.inr ⟨rfl, ?_⟩)
    show ρ' 4 < ρ' 5
    rw [q4, h2]
    omega)
  exact ⟨(fun y hy => by cases hy), _, List.mem_cons_self, ρ', h1, h2⟩

theorem axq_rq3c45_3 : ax_RO ax_wC ax_XC axu_rq3c45_3 := by
  intro ρ hp hE hT
  have j0 : ρ 0 % 4 = 1 := pz_gj hE 0 (by decide) rfl
  have j1 : ρ 1 % 4 = 1 := pz_gj hE 1 (by decide) rfl
  have j2 : ρ 2 % 4 = 1 := pz_gj hE 2 (by decide) rfl
  obtain ⟨i3a, i3b, i3c, i3d⟩ := pz_gi hE 3 2147483693 2147483693 (by decide) rfl
  have j4 : ρ 4 % 4 = 1 := pz_gj hE 4 (by decide) rfl
  have c_kind : ay_at hp 8 7 = some (ρ 3) := ay_gfj hE 42 28 15 8 7 (by decide) (by rw [ax_vl_c (by decide)]) (by rw [ax_vl_c (by decide)])
  have o1 : ρ 4 < ρ 1 := pz_go hE 19 7 (by decide)
  obtain ⟨-, -, -, -, F50⟩ : ay_ex hp 8 ∧ ay_ex hp 10 ∧ ay_ex hp 11 ∧ ay_ex hp 12 ∧ pz_x50 (ρ 0) (ρ 1) (ay_at hp 8 5) (ay_at hp 8 6) (ay_at hp 8 7) (ay_at hp 8 8) (ay_at hp 10 0) (ay_at hp 10 1) (ay_at hp 10 2) (ay_at hp 10 3) (ay_at hp 10 4) (ay_at hp 8 9) (ay_at hp 8 11) (ay_at hp 8 10) (ay_at hp 8 3) (ay_at hp 8 4) (ay_at hp 11) (ay_at hp 12) := (ax_XF_lt (by decide)).mp (ax_gx hE (50, [3, 7]) (by decide))
  rw [c_kind] at F50
  have F79 : pz7 (pz_gt (ρ 0)) (pz_gN (ρ 0)) ((ρ 1) / 4) 9 := (ax_XF_lt (by decide)).mp (ax_gx hE (79, [3, 7]) (by decide))
  have F90 : (pz90 (pz_gt (ρ 0)) (pz_gN (ρ 0)) ((ρ 1) / 4) ((ρ 2) / 4) ∧ 1 ≤ (ρ 2) / 4) := (ax_XF_lt (by decide)).mp (ax_gx hE (90, [3, 7, 11]) (by decide))
  have st := pq_op F50 F79 F90.1 (show pz_op (ρ 3 / 4) = true by rw [show ρ 3 / 4 = 45 by omega]; rfl)
  obtain ⟨ρ', h1, h2⟩ := pz_pn1 (K := ρ 1 / 4 + 1) (xf := [(53, [3, 23]), (78, [3, 23]), (90, [3, 23, 11]), (1030, [7, 23]), (1030, [19, 23])]) hE (by decide) (fun ρ' h1 h2 x hx => by
    have q0 : ρ' 0 = ρ 0 := h1 0 (by decide)
    have q1 : ρ' 1 = ρ 1 := h1 1 (by decide)
    have q2 : ρ' 2 = ρ 2 := h1 2 (by decide)
    have q3 : ρ' 3 = ρ 3 := h1 3 (by decide)
    have q4 : ρ' 4 = ρ 4 := h1 4 (by decide)
    rcases List.mem_cons.mp hx with e | hx
    · subst e
      refine (ax_XF_lt (x := 53) (by decide)).mpr ?_
      show ay_ex hp 8 ∧ ay_ex hp 10 ∧ ay_ex hp 11 ∧ ay_ex hp 12 ∧ pz_x53 (ρ' 0) (ρ' 5) (ay_at hp 8 5) (ay_at hp 10 0) (ay_at hp 10 1) (ay_at hp 10 2) (ay_at hp 10 3) (ay_at hp 10 4) (ay_at hp 8 9) (ay_at hp 8 11) (ay_at hp 8 10) (ay_at hp 8 3) (ay_at hp 8 4) (ay_at hp 11) (ay_at hp 12)
      rw [q0, h2]
      exact ⟨(ax_cellT hT (q := 8) (g := 2) rfl), (ax_cellT hT (q := 10) (g := 1) rfl), (ax_cellT hT (q := 11) (g := 14) rfl), (ax_cellT hT (q := 12) (g := 15) rfl), pz_53 (pz_41 _) rfl st.1⟩
    rcases List.mem_cons.mp hx with e | hx
    · subst e
      refine (ax_XF_lt (x := 78) (by decide)).mpr ?_
      show pz7 (pz_gt (ρ' 0)) (pz_gN (ρ' 0)) ((ρ' 5) / 4) 8
      rw [q0, h2]
      rw [pz_41]
      exact st.2.1
    rcases List.mem_cons.mp hx with e | hx
    · subst e
      refine (ax_XF_lt (x := 90) (by decide)).mpr ?_
      show (pz90 (pz_gt (ρ' 0)) (pz_gN (ρ' 0)) ((ρ' 5) / 4) ((ρ' 2) / 4) ∧ 1 ≤ (ρ' 2) / 4)
      rw [q0, q2, h2]
      rw [pz_41]
      exact ⟨st.2.2, F90.2⟩
    rcases List.mem_cons.mp hx with e | hx
    · subst e
      refine (ax_XF_bi (o := 30) (by decide)).mpr (Or.inr ⟨rfl, ?_⟩)
      show ρ' 1 < ρ' 5
      rw [q1, h2]
      omega
    cases List.mem_singleton.mp hx
    refine (ax_XF_bi (o := 30) (by decide)).mpr (Or.inr ⟨rfl, ?_⟩)
    show ρ' 4 < ρ' 5
    rw [q4, h2]
    omega)
  exact ⟨(fun y hy => by cases hy), _, List.mem_cons_self, ρ', h1, h2⟩

theorem axq_rq3c43_4 : ax_RO ax_wC ax_XC axu_rq3c43_4 := by
  intro ρ hp hE hT
  have j0 : ρ 0 % 4 = 1 := pz_gj hE 0 (by decide) rfl
  have j1 : ρ 1 % 4 = 1 := pz_gj hE 1 (by decide) rfl
  have j2 : ρ 2 % 4 = 1 := pz_gj hE 2 (by decide) rfl
  obtain ⟨i3a, i3b, i3c, i3d⟩ := pz_gi hE 3 2147483691 2147483691 (by decide) rfl
  have j4 : ρ 4 % 4 = 1 := pz_gj hE 4 (by decide) rfl
  have c_kind : ay_at hp 8 7 = some (ρ 3) := ay_gfj hE 42 28 15 8 7 (by decide) (by rw [ax_vl_c (by decide)]) (by rw [ax_vl_c (by decide)])
  have o1 : ρ 4 < ρ 1 := pz_go hE 19 7 (by decide)
  obtain ⟨-, -, -, -, F50⟩ : ay_ex hp 8 ∧ ay_ex hp 10 ∧ ay_ex hp 11 ∧ ay_ex hp 12 ∧ pz_x50 (ρ 0) (ρ 1) (ay_at hp 8 5) (ay_at hp 8 6) (ay_at hp 8 7) (ay_at hp 8 8) (ay_at hp 10 0) (ay_at hp 10 1) (ay_at hp 10 2) (ay_at hp 10 3) (ay_at hp 10 4) (ay_at hp 8 9) (ay_at hp 8 11) (ay_at hp 8 10) (ay_at hp 8 3) (ay_at hp 8 4) (ay_at hp 11) (ay_at hp 12) := (ax_XF_lt (by decide)).mp (ax_gx hE (50, [3, 7]) (by decide))
  rw [c_kind] at F50
  have F79 : pz7 (pz_gt (ρ 0)) (pz_gN (ρ 0)) ((ρ 1) / 4) 9 := (ax_XF_lt (by decide)).mp (ax_gx hE (79, [3, 7]) (by decide))
  have F90 : (pz90 (pz_gt (ρ 0)) (pz_gN (ρ 0)) ((ρ 1) / 4) ((ρ 2) / 4) ∧ 1 ≤ (ρ 2) / 4) := (ax_XF_lt (by decide)).mp (ax_gx hE (90, [3, 7, 11]) (by decide))
  have st := pq_op F50 F79 F90.1 (show pz_op (ρ 3 / 4) = true by rw [show ρ 3 / 4 = 43 by omega]; rfl)
  obtain ⟨ρ', h1, h2⟩ := pz_pn1 (K := ρ 1 / 4 + 1) (xf := [(53, [3, 23]), (78, [3, 23]), (90, [3, 23, 11]), (1030, [7, 23]), (1030, [19, 23])]) hE (by decide) (fun ρ' h1 h2 x hx => by
    have q0 : ρ' 0 = ρ 0 := h1 0 (by decide)
    have q1 : ρ' 1 = ρ 1 := h1 1 (by decide)
    have q2 : ρ' 2 = ρ 2 := h1 2 (by decide)
    have q3 : ρ' 3 = ρ 3 := h1 3 (by decide)
    have q4 : ρ' 4 = ρ 4 := h1 4 (by decide)
    rcases List.mem_cons.mp hx with e | hx
    · subst e
      refine (ax_XF_lt (x := 53) (by decide)).mpr ?_
      show ay_ex hp 8 ∧ ay_ex hp 10 ∧ ay_ex hp 11 ∧ ay_ex hp 12 ∧ pz_x53 (ρ' 0) (ρ' 5) (ay_at hp 8 5) (ay_at hp 10 0) (ay_at hp 10 1) (ay_at hp 10 2) (ay_at hp 10 3) (ay_at hp 10 4) (ay_at hp 8 9) (ay_at hp 8 11) (ay_at hp 8 10) (ay_at hp 8 3) (ay_at hp 8 4) (ay_at hp 11) (ay_at hp 12)
      rw [q0, h2]
      exact ⟨(ax_cellT hT (q := 8) (g := 2) rfl), (ax_cellT hT (q := 10) (g := 1) rfl), (ax_cellT hT (q := 11) (g := 14) rfl), (ax_cellT hT (q := 12) (g := 15) rfl), pz_53 (pz_41 _) rfl st.1⟩
    rcases List.mem_cons.mp hx with e | hx
    · subst e
      refine (ax_XF_lt (x := 78) (by decide)).mpr ?_
      show pz7 (pz_gt (ρ' 0)) (pz_gN (ρ' 0)) ((ρ' 5) / 4) 8
      rw [q0, h2]
      rw [pz_41]
      exact st.2.1
    rcases List.mem_cons.mp hx with e | hx
    · subst e
      refine (ax_XF_lt (x := 90) (by decide)).mpr ?_
      show (pz90 (pz_gt (ρ' 0)) (pz_gN (ρ' 0)) ((ρ' 5) / 4) ((ρ' 2) / 4) ∧ 1 ≤ (ρ' 2) / 4)
      rw [q0, q2, h2]
      rw [pz_41]
      exact ⟨st.2.2, F90.2⟩
    rcases List.mem_cons.mp hx with e | hx
    · subst e
      refine (ax_XF_bi (o := 30) (by decide)).mpr (Or.inr ⟨rfl, ?_⟩)
      show ρ' 1 < ρ' 5
      rw [q1, h2]
      omega
    cases List.mem_singleton.mp hx
    refine (ax_XF_bi (o := 30) (by decide)).mpr (Or.inr ⟨rfl, ?_⟩)
    show ρ' 4 < ρ' 5
    rw [q4, h2]
    omega)
  exact ⟨(fun y hy => by cases hy), _, List.mem_cons_self, ρ', h1, h2⟩

theorem axq_rq3c45_4 : ax_RO ax_wC ax_XC axu_rq3c45_4 := by
  intro ρ hp hE hT
  have j0 : ρ 0 % 4 = 1 := pz_gj hE 0 (by decide) rfl
  have j1 : ρ 1 % 4 = 1 := pz_gj hE 1 (by decide) rfl
  have j2 : ρ 2 % 4 = 1 := pz_gj hE 2 (by decide) rfl
  obtain ⟨i3a, i3b, i3c, i3d⟩ := pz_gi hE 3 2147483693 2147483693 (by decide) rfl
  have j4 : ρ 4 % 4 = 1 := pz_gj hE 4 (by decide) rfl
  have c_kind : ay_at hp 8 7 = some (ρ 3) := ay_gfj hE 42 28 15 8 7 (by decide) (by rw [ax_vl_c (by decide)]) (by rw [ax_vl_c (by decide)])
  have o1 : ρ 4 < ρ 1 := pz_go hE 19 7 (by decide)
  obtain ⟨-, -, -, -, F50⟩ : ay_ex hp 8 ∧ ay_ex hp 10 ∧ ay_ex hp 11 ∧ ay_ex hp 12 ∧ pz_x50 (ρ 0) (ρ 1) (ay_at hp 8 5) (ay_at hp 8 6) (ay_at hp 8 7) (ay_at hp 8 8) (ay_at hp 10 0) (ay_at hp 10 1) (ay_at hp 10 2) (ay_at hp 10 3) (ay_at hp 10 4) (ay_at hp 8 9) (ay_at hp 8 11) (ay_at hp 8 10) (ay_at hp 8 3) (ay_at hp 8 4) (ay_at hp 11) (ay_at hp 12) := (ax_XF_lt (by decide)).mp (ax_gx hE (50, [3, 7]) (by decide))
  rw [c_kind] at F50
  have F79 : pz7 (pz_gt (ρ 0)) (pz_gN (ρ 0)) ((ρ 1) / 4) 9 := (ax_XF_lt (by decide)).mp (ax_gx hE (79, [3, 7]) (by decide))
  have F90 : (pz90 (pz_gt (ρ 0)) (pz_gN (ρ 0)) ((ρ 1) / 4) ((ρ 2) / 4) ∧ 1 ≤ (ρ 2) / 4) := (ax_XF_lt (by decide)).mp (ax_gx hE (90, [3, 7, 11]) (by decide))
  have st := pq_op F50 F79 F90.1 (show pz_op (ρ 3 / 4) = true by rw [show ρ 3 / 4 = 45 by omega]; rfl)
  obtain ⟨ρ', h1, h2⟩ := pz_pn1 (K := ρ 1 / 4 + 1) (xf := [(53, [3, 23]), (78, [3, 23]), (90, [3, 23, 11]), (1030, [7, 23]), (1030, [19, 23])]) hE (by decide) (fun ρ' h1 h2 x hx => by
    have q0 : ρ' 0 = ρ 0 := h1 0 (by decide)
    have q1 : ρ' 1 = ρ 1 := h1 1 (by decide)
    have q2 : ρ' 2 = ρ 2 := h1 2 (by decide)
    have q3 : ρ' 3 = ρ 3 := h1 3 (by decide)
    have q4 : ρ' 4 = ρ 4 := h1 4 (by decide)
    rcases List.mem_cons.mp hx with e | hx
    · subst e
      refine (ax_XF_lt (x := 53) (by decide)).mpr ?_
      show ay_ex hp 8 ∧ ay_ex hp 10 ∧ ay_ex hp 11 ∧ ay_ex hp 12 ∧ pz_x53 (ρ' 0) (ρ' 5) (ay_at hp 8 5) (ay_at hp 10 0) (ay_at hp 10 1) (ay_at hp 10 2) (ay_at hp 10 3) (ay_at hp 10 4) (ay_at hp 8 9) (ay_at hp 8 11) (ay_at hp 8 10) (ay_at hp 8 3) (ay_at hp 8 4) (ay_at hp 11) (ay_at hp 12)
      rw [q0, h2]
      exact ⟨(ax_cellT hT (q := 8) (g := 2) rfl), (ax_cellT hT (q := 10) (g := 1) rfl), (ax_cellT hT (q := 11) (g := 14) rfl), (ax_cellT hT (q := 12) (g := 15) rfl), pz_53 (pz_41 _) rfl st.1⟩
    rcases List.mem_cons.mp hx with e | hx
    · subst e
      refine (ax_XF_lt (x := 78) (by decide)).mpr ?_
      show pz7 (pz_gt (ρ' 0)) (pz_gN (ρ' 0)) ((ρ' 5) / 4) 8
      rw [q0, h2]
      rw [pz_41]
      exact st.2.1
    rcases List.mem_cons.mp hx with e | hx
    · subst e
      refine (ax_XF_lt (x := 90) (by decide)).mpr ?_
      show (pz90 (pz_gt (ρ' 0)) (pz_gN (ρ' 0)) ((ρ' 5) / 4) ((ρ' 2) / 4) ∧ 1 ≤ (ρ' 2) / 4)
      rw [q0, q2, h2]
      rw [pz_41]
      exact ⟨st.2.2, F90.2⟩
    rcases List.mem_cons.mp hx with e | hx
    · subst e
      refine (ax_XF_bi (o := 30) (by decide)).mpr (Or.inr ⟨rfl, ?_⟩)
      show ρ' 1 < ρ' 5
      rw [q1, h2]
      omega
    cases List.mem_singleton.mp hx
    refine (ax_XF_bi (o := 30) (by decide)).mpr (Or.inr ⟨rfl, ?_⟩)
    show ρ' 4 < ρ' 5
    rw [q4, h2]
    omega)
  exact ⟨(fun y hy => by cases hy), _, List.mem_cons_self, ρ', h1, h2⟩

theorem axq_rq3c43_5 : ax_RO ax_wC ax_XC axu_rq3c43_5 := by
  intro ρ hp hE hT
  have j0 : ρ 0 % 4 = 1 := pz_gj hE 0 (by decide) rfl
  have j1 : ρ 1 % 4 = 1 := pz_gj hE 1 (by decide) rfl
  have j2 : ρ 2 % 4 = 1 := pz_gj hE 2 (by decide) rfl
  obtain ⟨i3a, i3b, i3c, i3d⟩ := pz_gi hE 3 2147483691 2147483691 (by decide) rfl
  have j4 : ρ 4 % 4 = 1 := pz_gj hE 4 (by decide) rfl
  have c_kind : ay_at hp 8 7 = some (ρ 3) := ay_gfj hE 42 28 15 8 7 (by decide) (by rw [ax_vl_c (by decide)]) (by rw [ax_vl_c (by decide)])
  have o1 : ρ 4 < ρ 1 := pz_go hE 19 7 (by decide)
  obtain ⟨-, -, -, -, F50⟩ : ay_ex hp 8 ∧ ay_ex hp 10 ∧ ay_ex hp 11 ∧ ay_ex hp 12 ∧ pz_x50 (ρ 0) (ρ 1) (ay_at hp 8 5) (ay_at hp 8 6) (ay_at hp 8 7) (ay_at hp 8 8) (ay_at hp 10 0) (ay_at hp 10 1) (ay_at hp 10 2) (ay_at hp 10 3) (ay_at hp 10 4) (ay_at hp 8 9) (ay_at hp 8 11) (ay_at hp 8 10) (ay_at hp 8 3) (ay_at hp 8 4) (ay_at hp 11) (ay_at hp 12) := (ax_XF_lt (by decide)).mp (ax_gx hE (50, [3, 7]) (by decide))
  rw [c_kind] at F50
  have F79 : pz7 (pz_gt (ρ 0)) (pz_gN (ρ 0)) ((ρ 1) / 4) 9 := (ax_XF_lt (by decide)).mp (ax_gx hE (79, [3, 7]) (by decide))
  have F90 : (pz90 (pz_gt (ρ 0)) (pz_gN (ρ 0)) ((ρ 1) / 4) ((ρ 2) / 4) ∧ 1 ≤ (ρ 2) / 4) := (ax_XF_lt (by decide)).mp (ax_gx hE (90, [3, 7, 11]) (by decide))
  have st := pq_op F50 F79 F90.1 (show pz_op (ρ 3 / 4) = true by rw [show ρ 3 / 4 = 43 by omega]; rfl)
  obtain ⟨ρ', h1, h2⟩ := pz_pn1 (K := ρ 1 / 4 + 1) (xf := [(53, [3, 23]), (78, [3, 23]), (90, [3, 23, 11]), (1030, [7, 23]), (1030, [19, 23])]) hE (by decide) (fun ρ' h1 h2 x hx => by
    have q0 : ρ' 0 = ρ 0 := h1 0 (by decide)
    have q1 : ρ' 1 = ρ 1 := h1 1 (by decide)
    have q2 : ρ' 2 = ρ 2 := h1 2 (by decide)
    have q3 : ρ' 3 = ρ 3 := h1 3 (by decide)
    have q4 : ρ' 4 = ρ 4 := h1 4 (by decide)
    rcases List.mem_cons.mp hx with e | hx
    · subst e
      refine (ax_XF_lt (x := 53) (by decide)).mpr ?_
      show ay_ex hp 8 ∧ ay_ex hp 10 ∧ ay_ex hp 11 ∧ ay_ex hp 12 ∧ pz_x53 (ρ' 0) (ρ' 5) (ay_at hp 8 5) (ay_at hp 10 0) (ay_at hp 10 1) (ay_at hp 10 2) (ay_at hp 10 3) (ay_at hp 10 4) (ay_at hp 8 9) (ay_at hp 8 11) (ay_at hp 8 10) (ay_at hp 8 3) (ay_at hp 8 4) (ay_at hp 11) (ay_at hp 12)
      rw [q0, h2]
      exact ⟨(ax_cellT hT (q := 8) (g := 2) rfl), (ax_cellT hT (q := 10) (g := 1) rfl), (ax_cellT hT (q := 11) (g := 14) rfl), (ax_cellT hT (q := 12) (g := 15) rfl), pz_53 (pz_41 _) rfl st.1⟩
    rcases List.mem_cons.mp hx with e | hx
    · subst e
      refine (ax_XF_lt (x := 78) (by decide)).mpr ?_
      show pz7 (pz_gt (ρ' 0)) (pz_gN (ρ' 0)) ((ρ' 5) / 4) 8
      rw [q0, h2]
      rw [pz_41]
      exact st.2.1
    rcases List.mem_cons.mp hx with e | hx
    · subst e
      refine (ax_XF_lt (x := 90) (by decide)).mpr ?_
      show (pz90 (pz_gt (ρ' 0)) (pz_gN (ρ' 0)) ((ρ' 5) / 4) ((ρ' 2) / 4) ∧ 1 ≤ (ρ' 2) / 4)
      rw [q0, q2, h2]
      rw [pz_41]
      exact ⟨st.2.2, F90.2⟩
    rcases List.mem_cons.mp hx with e | hx
    · subst e
      refine (ax_XF_bi (o := 30) (by decide)).mpr (Or.inr ⟨rfl, ?_⟩)
      show ρ' 1 < ρ' 5
      rw [q1, h2]
      omega
    cases List.mem_singleton.mp hx
    refine (ax_XF_bi (o := 30) (by decide)).mpr (Or.inr ⟨rfl, ?_⟩)
    show ρ' 4 < ρ' 5
    rw [q4, h2]
    omega)
  exact ⟨(fun y hy => by cases hy), _, List.mem_cons_self, ρ', h1, h2⟩

theorem axq_rq3c45_5 : ax_RO ax_wC ax_XC axu_rq3c45_5 := by
  intro ρ hp hE hT
  have j0 : ρ 0 % 4 = 1 := pz_gj hE 0 (by decide) rfl
  have j1 : ρ 1 % 4 = 1 := pz_gj hE 1 (by decide) rfl
  have j2 : ρ 2 % 4 = 1 := pz_gj hE 2 (by decide) rfl
  obtain ⟨i3a, i3b, i3c, i3d⟩ := pz_gi hE 3 2147483693 2147483693 (by decide) rfl
  have j4 : ρ 4 % 4 = 1 := pz_gj hE 4 (by decide) rfl
  have c_kind : ay_at hp 8 7 = some (ρ 3) := ay_gfj hE 42 28 15 8 7 (by decide) (by rw [ax_vl_c (by decide)]) (by rw [ax_vl_c (by decide)])
  have o1 : ρ 4 < ρ 1 := pz_go hE 19 7 (by decide)
  obtain ⟨-, -, -, -, F50⟩ : ay_ex hp 8 ∧ ay_ex hp 10 ∧ ay_ex hp 11 ∧ ay_ex hp 12 ∧ pz_x50 (ρ 0) (ρ 1) (ay_at hp 8 5) (ay_at hp 8 6) (ay_at hp 8 7) (ay_at hp 8 8) (ay_at hp 10 0) (ay_at hp 10 1) (ay_at hp 10 2) (ay_at hp 10 3) (ay_at hp 10 4) (ay_at hp 8 9) (ay_at hp 8 11) (ay_at hp 8 10) (ay_at hp 8 3) (ay_at hp 8 4) (ay_at hp 11) (ay_at hp 12) := (ax_XF_lt (by decide)).mp (ax_gx hE (50, [3, 7]) (by decide))
  rw [c_kind] at F50
  have F79 : pz7 (pz_gt (ρ 0)) (pz_gN (ρ 0)) ((ρ 1) / 4) 9 := (ax_XF_lt (by decide)).mp (ax_gx hE (79, [3, 7]) (by decide))
  have F90 : (pz90 (pz_gt (ρ 0)) (pz_gN (ρ 0)) ((ρ 1) / 4) ((ρ 2) / 4) ∧ 1 ≤ (ρ 2) / 4) := (ax_XF_lt (by decide)).mp (ax_gx hE (90, [3, 7, 11]) (by decide))
  have st := pq_op F50 F79 F90.1 (show pz_op (ρ 3 / 4) = true by rw [show ρ 3 / 4 = 45 by omega]; rfl)
  obtain ⟨ρ', h1, h2⟩ := pz_pn1 (K := ρ 1 / 4 + 1) (xf := [(53, [3, 23]), (78, [3, 23]), (90, [3, 23, 11]), (1030, [7, 23]), (1030, [19, 23])]) hE (by decide) (fun ρ' h1 h2 x hx => by
    have q0 : ρ' 0 = ρ 0 := h1 0 (by decide)
    have q1 : ρ' 1 = ρ 1 := h1 1 (by decide)
    have q2 : ρ' 2 = ρ 2 := h1 2 (by decide)
    have q3 : ρ' 3 = ρ 3 := h1 3 (by decide)
    have q4 : ρ' 4 = ρ 4 := h1 4 (by decide)
    rcases List.mem_cons.mp hx with e | hx
    · subst e
      refine (ax_XF_lt (x := 53) (by decide)).mpr ?_
      show ay_ex hp 8 ∧ ay_ex hp 10 ∧ ay_ex hp 11 ∧ ay_ex hp 12 ∧ pz_x53 (ρ' 0) (ρ' 5) (ay_at hp 8 5) (ay_at hp 10 0) (ay_at hp 10 1) (ay_at hp 10 2) (ay_at hp 10 3) (ay_at hp 10 4) (ay_at hp 8 9) (ay_at hp 8 11) (ay_at hp 8 10) (ay_at hp 8 3) (ay_at hp 8 4) (ay_at hp 11) (ay_at hp 12)
      rw [q0, h2]
      exact ⟨(ax_cellT hT (q := 8) (g := 2) rfl), (ax_cellT hT (q := 10) (g := 1) rfl), (ax_cellT hT (q := 11) (g := 14) rfl), (ax_cellT hT (q := 12) (g := 15) rfl), pz_53 (pz_41 _) rfl st.1⟩
    rcases List.mem_cons.mp hx with e | hx
    · subst e
      refine (ax_XF_lt (x := 78) (by decide)).mpr ?_
      show pz7 (pz_gt (ρ' 0)) (pz_gN (ρ' 0)) ((ρ' 5) / 4) 8
      rw [q0, h2]
      rw [pz_41]
      exact st.2.1
    rcases List.mem_cons.mp hx with e | hx
    · subst e
      refine (ax_XF_lt (x := 90) (by decide)).mpr ?_
      show (pz90 (pz_gt (ρ' 0)) (pz_gN (ρ' 0)) ((ρ' 5) / 4) ((ρ' 2) / 4) ∧ 1 ≤ (ρ' 2) / 4)
      rw [q0, q2, h2]
      rw [pz_41]
      exact ⟨st.2.2, F90.2⟩
    rcases List.mem_cons.mp hx with e | hx
    · subst e
      refine (ax_XF_bi (o := 30) (by decide)).mpr (Or.inr ⟨rfl, ?_⟩)
      show ρ' 1 < ρ' 5
      rw [q1, h2]
      omega
    cases List.mem_singleton.mp hx
    refine (ax_XF_bi (o := 30) (by decide)).mpr (Or.inr ⟨rfl, ?_⟩)
    show ρ' 4 < ρ' 5
    rw [q4, h2]
    omega)
  exact ⟨(fun y hy => by cases hy), _, List.mem_cons_self, ρ', h1, h2⟩

theorem axq_rq3c43_6 : ax_RO ax_wC ax_XC axu_rq3c43_6 := by
  intro ρ hp hE hT
  have j0 : ρ 0 % 4 = 1 := pz_gj hE 0 (by decide) rfl
  have j1 : ρ 1 % 4 = 1 := pz_gj hE 1 (by decide) rfl
  have j2 : ρ 2 % 4 = 1 := pz_gj hE 2 (by decide) rfl
  obtain ⟨i3a, i3b, i3c, i3d⟩ := pz_gi hE 3 2147483691 2147483691 (by decide) rfl
  have j4 : ρ 4 % 4 = 1 := pz_gj hE 4 (by decide) rfl
  have c_kind : ay_at hp 8 7 = some (ρ 3) := ay_gfj hE 42 28 15 8 7 (by decide) (by rw [ax_vl_c (by decide)]) (by rw [ax_vl_c (by decide)])
  have o1 : ρ 4 < ρ 1 := pz_go hE 19 7 (by decide)
  obtain ⟨-, -, -, -, F50⟩ : ay_ex hp 8 ∧ ay_ex hp 10 ∧ ay_ex hp 11 ∧ ay_ex hp 12 ∧ pz_x50 (ρ 0) (ρ 1) (ay_at hp 8 5) (ay_at hp 8 6) (ay_at hp 8 7) (ay_at hp 8 8) (ay_at hp 10 0) (ay_at hp 10 1) (ay_at hp 10 2) (ay_at hp 10 3) (ay_at hp 10 4) (ay_at hp 8 9) (ay_at hp 8 11) (ay_at hp 8 10) (ay_at hp 8 3) (ay_at hp 8 4) (ay_at hp 11) (ay_at hp 12) := (ax_XF_lt (by decide)).mp (ax_gx hE (50, [3, 7]) (by decide))
  rw [c_kind] at F50
  have F79 : pz7 (pz_gt (ρ 0)) (pz_gN (ρ 0)) ((ρ 1) / 4) 9 := (ax_XF_lt (by decide)).mp (ax_gx hE (79, [3, 7]) (by decide))
  have F90 : (pz90 (pz_gt (ρ 0)) (pz_gN (ρ 0)) ((ρ 1) / 4) ((ρ 2) / 4) ∧ 1 ≤ (ρ 2) / 4) := (ax_XF_lt (by decide)).mp (ax_gx hE (90, [3, 7, 11]) (by decide))
  have st := pq_op F50 F79 F90.1 (show pz_op (ρ 3 / 4) = true by rw [show ρ 3 / 4 = 43 by omega]; rfl)
  obtain ⟨ρ', h1, h2⟩ := pz_pn1 (K := ρ 1 / 4 + 1) (xf := [(53, [3, 23]), (78, [3, 23]), (90, [3, 23, 11]), (1030, [7, 23]), (1030, [19, 23])]) hE (by decide) (fun ρ' h1 h2 x hx => by
    have q0 : ρ' 0 = ρ 0 := h1 0 (by decide)
    have q1 : ρ' 1 = ρ 1 := h1 1 (by decide)
    have q2 : ρ' 2 = ρ 2 := h1 2 (by decide)
    have q3 : ρ' 3 = ρ 3 := h1 3 (by decide)
    have q4 : ρ' 4 = ρ 4 := h1 4 (by decide)
    rcases List.mem_cons.mp hx with e | hx
    · subst e
      refine (ax_XF_lt (x := 53) (by decide)).mpr ?_
      show ay_ex hp 8 ∧ ay_ex hp 10 ∧ ay_ex hp 11 ∧ ay_ex hp 12 ∧ pz_x53 (ρ' 0) (ρ' 5) (ay_at hp 8 5) (ay_at hp 10 0) (ay_at hp 10 1) (ay_at hp 10 2) (ay_at hp 10 3) (ay_at hp 10 4) (ay_at hp 8 9) (ay_at hp 8 11) (ay_at hp 8 10) (ay_at hp 8 3) (ay_at hp 8 4) (ay_at hp 11) (ay_at hp 12)
      rw [q0, h2]
      exact ⟨(ax_cellT hT (q := 8) (g := 2) rfl), (ax_cellT hT (q := 10) (g := 1) rfl), (ax_cellT hT (q := 11) (g := 14) rfl), (ax_cellT hT (q := 12) (g := 15) rfl), pz_53 (pz_41 _) rfl st.1⟩
    rcases List.mem_cons.mp hx with e | hx
    · subst e
      refine (ax_XF_lt (x := 78) (by decide)).mpr ?_
      show pz7 (pz_gt (ρ' 0)) (pz_gN (ρ' 0)) ((ρ' 5) / 4) 8
      rw [q0, h2]
      rw [pz_41]
      exact st.2.1
    rcases List.mem_cons.mp hx with e | hx
    · subst e
      refine (ax_XF_lt (x := 90) (by decide)).mpr ?_
      show (pz90 (pz_gt (ρ' 0)) (pz_gN (ρ' 0)) ((ρ' 5) / 4) ((ρ' 2) / 4) ∧ 1 ≤ (ρ' 2) / 4)
      rw [q0, q2, h2]
      rw [pz_41]
      exact ⟨st.2.2, F90.2⟩
    rcases List.mem_cons.mp hx with e | hx
    · subst e
      refine (ax_XF_bi (o := 30) (by decide)).mpr (Or.inr ⟨rfl, ?_⟩)
      show ρ' 1 < ρ' 5
      rw [q1, h2]
      omega
    cases List.mem_singleton.mp hx
    refine (ax_XF_bi (o := 30) (by decide)).mpr (Or.inr ⟨rfl, ?_⟩)
    show ρ' 4 < ρ' 5
    rw [q4, h2]
    omega)
  exact ⟨(fun y hy => by cases hy), _, List.mem_cons_self, ρ', h1, h2⟩

theorem axq_rq3c45_6 : ax_RO ax_wC ax_XC axu_rq3c45_6 := by
  intro ρ hp hE hT
  have j0 : ρ 0 % 4 = 1 := pz_gj hE 0 (by decide) rfl
  have j1 : ρ 1 % 4 = 1 := pz_gj hE 1 (by decide) rfl
  have j2 : ρ 2 % 4 = 1 := pz_gj hE 2 (by decide) rfl
  obtain ⟨i3a, i3b, i3c, i3d⟩ := pz_gi hE 3 2147483693 2147483693 (by decide) rfl
  have j4 : ρ 4 % 4 = 1 := pz_gj hE 4 (by decide) rfl
  have c_kind : ay_at hp 8 7 = some (ρ 3) := ay_gfj hE 42 28 15 8 7 (by decide) (by rw [ax_vl_c (by decide)]) (by rw [ax_vl_c (by decide)])
  have o1 : ρ 4 < ρ 1 := pz_go hE 19 7 (by decide)
  obtain ⟨-, -, -, -, F50⟩ : ay_ex hp 8 ∧ ay_ex hp 10 ∧ ay_ex hp 11 ∧ ay_ex hp 12 ∧ pz_x50 (ρ 0) (ρ 1) (ay_at hp 8 5) (ay_at hp 8 6) (ay_at hp 8 7) (ay_at hp 8 8) (ay_at hp 10 0) (ay_at hp 10 1) (ay_at hp 10 2) (ay_at hp 10 3) (ay_at hp 10 4) (ay_at hp 8 9) (ay_at hp 8 11) (ay_at hp 8 10) (ay_at hp 8 3) (ay_at hp 8 4) (ay_at hp 11) (ay_at hp 12) := (ax_XF_lt (by decide)).mp (ax_gx hE (50, [3, 7]) (by decide))
  rw [c_kind] at F50
  have F79 : pz7 (pz_gt (ρ 0)) (pz_gN (ρ 0)) ((ρ 1) / 4) 9 := (ax_XF_lt (by decide)).mp (ax_gx hE (79, [3, 7]) (by decide))
  have F90 : (pz90 (pz_gt (ρ 0)) (pz_gN (ρ 0)) ((ρ 1) / 4) ((ρ 2) / 4) ∧ 1 ≤ (ρ 2) / 4) := (ax_XF_lt (by decide)).mp (ax_gx hE (90, [3, 7, 11]) (by decide))
  have st := pq_op F50 F79 F90.1 (show pz_op (ρ 3 / 4) = true by rw [show ρ 3 / 4 = 45 by omega]; rfl)
  obtain ⟨ρ', h1, h2⟩ := pz_pn1 (K := ρ 1 / 4 + 1) (xf := [(53, [3, 23]), (78, [3, 23]), (90, [3, 23, 11]), (1030, [7, 23]), (1030, [19, 23])]) hE (by decide) (fun ρ' h1 h2 x hx => by
    have q0 : ρ' 0 = ρ 0 := h1 0 (by decide)
    have q1 : ρ' 1 = ρ 1 := h1 1 (by decide)
    have q2 : ρ' 2 = ρ 2 := h1 2 (by decide)
    have q3 : ρ' 3 = ρ 3 := h1 3 (by decide)
    have q4 : ρ' 4 = ρ 4 := h1 4 (by decide)
    rcases List.mem_cons.mp hx with e | hx
    · subst e
      refine (ax_XF_lt (x := 53) (by decide)).mpr ?_
      show ay_ex hp 8 ∧ ay_ex hp 10 ∧ ay_ex hp 11 ∧ ay_ex hp 12 ∧ pz_x53 (ρ' 0) (ρ' 5) (ay_at hp 8 5) (ay_at hp 10 0) (ay_at hp 10 1) (ay_at hp 10 2) (ay_at hp 10 3) (ay_at hp 10 4) (ay_at hp 8 9) (ay_at hp 8 11) (ay_at hp 8 10) (ay_at hp 8 3) (ay_at hp 8 4) (ay_at hp 11) (ay_at hp 12)
      rw [q0, h2]
      exact ⟨(ax_cellT hT (q := 8) (g := 2) rfl), (ax_cellT hT (q := 10) (g := 1) rfl), (ax_cellT hT (q := 11) (g := 14) rfl), (ax_cellT hT (q := 12) (g := 15) rfl), pz_53 (pz_41 _) rfl st.1⟩
    rcases List.mem_cons.mp hx with e | hx
    · subst e
      refine (ax_XF_lt (x := 78) (by decide)).mpr ?_
      show pz7 (pz_gt (ρ' 0)) (pz_gN (ρ' 0)) ((ρ' 5) / 4) 8
      rw [q0, h2]
      rw [pz_41]
      exact st.2.1
    rcases List.mem_cons.mp hx with e | hx
    · subst e
      refine (ax_XF_lt (x := 90) (by decide)).mpr ?_
      show (pz90 (pz_gt (ρ' 0)) (pz_gN (ρ' 0)) ((ρ' 5) / 4) ((ρ' 2) / 4) ∧ 1 ≤ (ρ' 2) / 4)
      rw [q0, q2, h2]
      rw [pz_41]
      exact ⟨st.2.2, F90.2⟩
    rcases List.mem_cons.mp hx with e | hx
    · subst e
      refine (ax_XF_bi (o := 30) (by decide)).mpr (Or.inr ⟨rfl, ?_⟩)
      show ρ' 1 < ρ' 5
      rw [q1, h2]
      omega
    cases List.mem_singleton.mp hx
    refine (ax_XF_bi (o := 30) (by decide)).mpr (Or.inr ⟨rfl, ?_⟩)
    show ρ' 4 < ρ' 5
    rw [q4, h2]
    omega)
  exact ⟨(fun y hy => by cases hy), _, List.mem_cons_self, ρ', h1, h2⟩

theorem axq_sw3 : ax_RO ax_wC ax_XC axu_sw3 := by
  intro ρ hp hE hT
  have j0 : ρ 0 % 4 = 1 := pz_gj hE 0 (by decide) rfl
  have j1 : ρ 1 % 4 = 1 := pz_gj hE 1 (by decide) rfl
  obtain ⟨i2a, i2b, i2c, i2d⟩ := pz_gi hE 2 2147483650 2147483658 (by decide) rfl
  have j3 : ρ 3 % 4 = 1 := pz_gj hE 3 (by decide) rfl
  have o1 : ρ 3 < ρ 1 := pz_go hE 15 7 (by decide)
  obtain ⟨-, -, -, -, F50⟩ : ay_ex hp 8 ∧ ay_ex hp 10 ∧ ay_ex hp 11 ∧ ay_ex hp 12 ∧ pz_x50 (ρ 0) (ρ 1) (ay_at hp 8 5) (ay_at hp 8 6) (ay_at hp 8 7) (ay_at hp 8 8) (ay_at hp 10 0) (ay_at hp 10 1) (ay_at hp 10 2) (ay_at hp 10 3) (ay_at hp 10 4) (ay_at hp 8 9) (ay_at hp 8 11) (ay_at hp 8 10) (ay_at hp 8 3) (ay_at hp 8 4) (ay_at hp 11) (ay_at hp 12) := (ax_XF_lt (by decide)).mp (ax_gx hE (50, [3, 7]) (by decide))
  have F71 : pz7 (pz_gt (ρ 0)) (pz_gN (ρ 0)) ((ρ 1) / 4) 1 := (ax_XF_lt (by decide)).mp (ax_gx hE (71, [3, 7]) (by decide))
  have F66 : pz66 (pz_gt (ρ 0)) (pz_gN (ρ 0)) ((ρ 1) / 4) ((ρ 2) / 4) := (ax_XF_lt (by decide)).mp (ax_gx hE (66, [3, 7, 11]) (by decide))
  have st := pq_sw3 F50 F71 F66 (by omega) (by omega)
  obtain ⟨ρ', h1, h2⟩ := pz_pn1 (K := ρ 1 / 4 + 1) (xf := [(553, [50, 0, 11, 3, 19]), (72, [3, 19]), (1030, [15, 19])]) hE (by decide) (fun ρ' h1 h2 x hx => by
    have q0 : ρ' 0 = ρ 0 := h1 0 (by decide)
    have q1 : ρ' 1 = ρ 1 := h1 1 (by decide)
    have q2 : ρ' 2 = ρ 2 := h1 2 (by decide)
    have q3 : ρ' 3 = ρ 3 := h1 3 (by decide)
    rcases List.mem_cons.mp hx with e | hx
    · subst e
      refine (ax_XF_wr (x := 53) (by decide)).mpr ?_
      show ay_ex (ax_upd hp 50 (0) (ρ' 2)) 8 ∧ ay_ex (ax_upd hp 50 (0) (ρ' 2)) 10 ∧ ay_ex (ax_upd hp 50 (0) (ρ' 2)) 11 ∧ ay_ex (ax_upd hp 50 (0) (ρ' 2)) 12 ∧ pz_x53 (ρ' 0) (ρ' 4) (ay_at (ax_upd hp 50 (0) (ρ' 2)) 8 5) (ay_at (ax_upd hp 50 (0) (ρ' 2)) 10 0) (ay_at (ax_upd hp 50 (0) (ρ' 2)) 10 1) (ay_at (ax_upd hp 50 (0) (ρ' 2)) 10 2) (ay_at (ax_upd hp 50 (0) (ρ' 2)) 10 3) (ay_at (ax_upd hp 50 (0) (ρ' 2)) 10 4) (ay_at (ax_upd hp 50 (0) (ρ' 2)) 8 9) (ay_at (ax_upd hp 50 (0) (ρ' 2)) 8 11) (ay_at (ax_upd hp 50 (0) (ρ' 2)) 8 10) (ay_at (ax_upd hp 50 (0) (ρ' 2)) 8 3) (ay_at (ax_upd hp 50 (0) (ρ' 2)) 8 4) (ay_at (ax_upd hp 50 (0) (ρ' 2)) 11) (ay_at (ax_upd hp 50 (0) (ρ' 2)) 12)
      rw [q0, q2, h2]
      obtain ⟨o0, ho0⟩ := ay_some hT (q := 10) (g := 1) (n := 12) rfl rfl (j := 0 / 4) (by decide)
      have u1 : ∀ q, q ≠ 10 → ay_at (ax_upd hp 50 0 (ρ 2)) q = ay_at hp q := fun q hq => funext (fun j => ay_upd_ne hT.1 hq j)
      have u2 : ∀ j, ay_at (ax_upd hp 50 0 (ρ 2)) 10 j = if j = 0 then some (ρ 2) else ay_at hp 10 j := fun j => ay_upd_eq hT.1 rfl ho0 j
      refine ⟨ay_ex_upd hT.1 (ax_cellT hT (q := 8) (g := 2) rfl), ay_ex_upd hT.1 (ax_cellT hT (q := 10) (g := 1) rfl), ay_ex_upd hT.1 (ax_cellT hT (q := 11) (g := 14) rfl), ay_ex_upd hT.1 (ax_cellT hT (q := 12) (g := 15) rfl), ?_⟩
      rw [u1 8 (by decide), u2 0, if_pos rfl, u2 1, if_neg (show ¬ 1 = 0 by decide), u2 2, if_neg (show ¬ 2 = 0 by decide), u2 3, if_neg (show ¬ 3 = 0 by decide), u2 4, if_neg (show ¬ 4 = 0 by decide), u1 11 (by decide), u1 12 (by decide)]
      exact pz_53 (pz_41 _) rfl st.1
    rcases List.mem_cons.mp hx with e | hx
    · subst e
      refine (ax_XF_lt (x := 72) (by decide)).mpr ?_
      show pz7 (pz_gt (ρ' 0)) (pz_gN (ρ' 0)) ((ρ' 4) / 4) 2
      rw [q0, h2]
      rw [pz_41]
      exact st.2
    cases List.mem_singleton.mp hx
    refine (ax_XF_bi (o := 30) (by decide)).mpr (Or.inr ⟨rfl, ?_⟩)
    show ρ' 3 < ρ' 4
    rw [q3, h2]
    omega)
  exact ⟨(fun y hy => by cases hy), _, List.mem_cons_self, ρ', h1, h2⟩

theorem axq_rl_ro2 : ax_RO ax_wC ax_XC axu_rl_ro2 := by
  intro ρ hp hE hT
  have j0 : ρ 0 % 4 = 1 := pz_gj hE 0 (by decide) rfl
  have j1 : ρ 1 % 4 = 1 := pz_gj hE 1 (by decide) rfl
  obtain ⟨i2a, i2b, i2c, i2d⟩ := pz_gi hE 2 2147483648 2147483657 (by decide) rfl
  have j3 : ρ 3 % 4 = 1 := pz_gj hE 3 (by decide) rfl
  have o1 : ρ 3 < ρ 1 := pz_go hE 15 7 (by decide)
  obtain ⟨-, -, -, -, F50⟩ : ay_ex hp 8 ∧ ay_ex hp 10 ∧ ay_ex hp 11 ∧ ay_ex hp 12 ∧ pz_x50 (ρ 0) (ρ 1) (ay_at hp 8 5) (ay_at hp 8 6) (ay_at hp 8 7) (ay_at hp 8 8) (ay_at hp 10 0) (ay_at hp 10 1) (ay_at hp 10 2) (ay_at hp 10 3) (ay_at hp 10 4) (ay_at hp 8 9) (ay_at hp 8 11) (ay_at hp 8 10) (ay_at hp 8 3) (ay_at hp 8 4) (ay_at hp 11) (ay_at hp 12) := (ax_XF_lt (by decide)).mp (ax_gx hE (50, [3, 7]) (by decide))
  have F76 : pz7 (pz_gt (ρ 0)) (pz_gN (ρ 0)) ((ρ 1) / 4) 6 := (ax_XF_lt (by decide)).mp (ax_gx hE (76, [3, 7]) (by decide))
  have F104 : pz104 (pz_gt (ρ 0)) (pz_gN (ρ 0)) ((ρ 1) / 4) ((ρ 2) / 4) := (ax_XF_lt (by decide)).mp (ax_gx hE (104, [3, 7, 11]) (by decide))
  have st := pq_rl_ro2 F50 F76 F104
  obtain ⟨ρ', h1, h2⟩ := pz_pn1 (K := ρ 1 / 4 + 1) (xf := [(553, [50, 8, 11, 3, 19]), (72, [3, 19]), (1030, [15, 19])]) hE (by decide) (fun ρ' h1 h2 x hx => by
    have q0 : ρ' 0 = ρ 0 := h1 0 (by decide)
    have q1 : ρ' 1 = ρ 1 := h1 1 (by decide)
    have q2 : ρ' 2 = ρ 2 := h1 2 (by decide)
    have q3 : ρ' 3 = ρ 3 := h1 3 (by decide)
    rcases List.mem_cons.mp hx with e | hx
    · subst e
      refine (ax_XF_wr (x := 53) (by decide)).mpr ?_
      show ay_ex (ax_upd hp 50 (8) (ρ' 2)) 8 ∧ ay_ex (ax_upd hp 50 (8) (ρ' 2)) 10 ∧ ay_ex (ax_upd hp 50 (8) (ρ' 2)) 11 ∧ ay_ex (ax_upd hp 50 (8) (ρ' 2)) 12 ∧ pz_x53 (ρ' 0) (ρ' 4) (ay_at (ax_upd hp 50 (8) (ρ' 2)) 8 5) (ay_at (ax_upd hp 50 (8) (ρ' 2)) 10 0) (ay_at (ax_upd hp 50 (8) (ρ' 2)) 10 1) (ay_at (ax_upd hp 50 (8) (ρ' 2)) 10 2) (ay_at (ax_upd hp 50 (8) (ρ' 2)) 10 3) (ay_at (ax_upd hp 50 (8) (ρ' 2)) 10 4) (ay_at (ax_upd hp 50 (8) (ρ' 2)) 8 9) (ay_at (ax_upd hp 50 (8) (ρ' 2)) 8 11) (ay_at (ax_upd hp 50 (8) (ρ' 2)) 8 10) (ay_at (ax_upd hp 50 (8) (ρ' 2)) 8 3) (ay_at (ax_upd hp 50 (8) (ρ' 2)) 8 4) (ay_at (ax_upd hp 50 (8) (ρ' 2)) 11) (ay_at (ax_upd hp 50 (8) (ρ' 2)) 12)
      rw [q0, q2, h2]
      obtain ⟨o0, ho0⟩ := ay_some hT (q := 10) (g := 1) (n := 12) rfl rfl (j := 8 / 4) (by decide)
      have u1 : ∀ q, q ≠ 10 → ay_at (ax_upd hp 50 8 (ρ 2)) q = ay_at hp q := fun q hq => funext (fun j => ay_upd_ne hT.1 hq j)
      have u2 : ∀ j, ay_at (ax_upd hp 50 8 (ρ 2)) 10 j = if j = 2 then some (ρ 2) else ay_at hp 10 j := fun j => ay_upd_eq hT.1 rfl ho0 j
      refine ⟨ay_ex_upd hT.1 (ax_cellT hT (q := 8) (g := 2) rfl), ay_ex_upd hT.1 (ax_cellT hT (q := 10) (g := 1) rfl), ay_ex_upd hT.1 (ax_cellT hT (q := 11) (g := 14) rfl), ay_ex_upd hT.1 (ax_cellT hT (q := 12) (g := 15) rfl), ?_⟩
      rw [u1 8 (by decide), u2 0, if_neg (show ¬ 0 = 2 by decide), u2 1, if_neg (show ¬ 1 = 2 by decide), u2 2, if_pos rfl, u2 3, if_neg (show ¬ 3 = 2 by decide), u2 4, if_neg (show ¬ 4 = 2 by decide), u1 11 (by decide), u1 12 (by decide)]
      exact pz_53 (pz_41 _) rfl st.1
    rcases List.mem_cons.mp hx with e | hx
    · subst e
      refine (ax_XF_lt (x := 72) (by decide)).mpr ?_
      show pz7 (pz_gt (ρ' 0)) (pz_gN (ρ' 0)) ((ρ' 4) / 4) 2
      rw [q0, h2]
      rw [pz_41]
      exact st.2
    cases List.mem_singleton.mp hx
    refine (ax_XF_bi (o := 30) (by decide)).mpr (Or.inr ⟨rfl, ?_⟩)
    show ρ' 3 < ρ' 4
    rw [q3, h2]
    omega)
  exact ⟨(fun y hy => by cases hy), _, List.mem_cons_self, ρ', h1, h2⟩

theorem axq_rl_rm2 : ax_RO ax_wC ax_XC axu_rl_rm2 := by
  intro ρ hp hE hT
  have j0 : ρ 0 % 4 = 1 := pz_gj hE 0 (by decide) rfl
  have j1 : ρ 1 % 4 = 1 := pz_gj hE 1 (by decide) rfl
  obtain ⟨i2a, i2b, i2c, i2d⟩ := pz_gi hE 2 2147483649 2147483651 (by decide) rfl
  have j3 : ρ 3 % 4 = 1 := pz_gj hE 3 (by decide) rfl
  have o1 : ρ 3 < ρ 1 := pz_go hE 15 7 (by decide)
  obtain ⟨-, -, -, -, F50⟩ : ay_ex hp 8 ∧ ay_ex hp 10 ∧ ay_ex hp 11 ∧ ay_ex hp 12 ∧ pz_x50 (ρ 0) (ρ 1) (ay_at hp 8 5) (ay_at hp 8 6) (ay_at hp 8 7) (ay_at hp 8 8) (ay_at hp 10 0) (ay_at hp 10 1) (ay_at hp 10 2) (ay_at hp 10 3) (ay_at hp 10 4) (ay_at hp 8 9) (ay_at hp 8 11) (ay_at hp 8 10) (ay_at hp 8 3) (ay_at hp 8 4) (ay_at hp 11) (ay_at hp 12) := (ax_XF_lt (by decide)).mp (ax_gx hE (50, [3, 7]) (by decide))
  have F77 : pz7 (pz_gt (ρ 0)) (pz_gN (ρ 0)) ((ρ 1) / 4) 7 := (ax_XF_lt (by decide)).mp (ax_gx hE (77, [3, 7]) (by decide))
  have F66 : pz66 (pz_gt (ρ 0)) (pz_gN (ρ 0)) ((ρ 1) / 4) ((ρ 2) / 4) := (ax_XF_lt (by decide)).mp (ax_gx hE (66, [3, 7, 11]) (by decide))
  have st := pq_rl_rm2 F50 F77 F66 (by omega) (by omega)
  obtain ⟨ρ', h1, h2⟩ := pz_pn1 (K := ρ 1 / 4 + 1) (xf := [(553, [50, 12, 11, 3, 19]), (72, [3, 19]), (1030, [15, 19])]) hE (by decide) (fun ρ' h1 h2 x hx => by
    have q0 : ρ' 0 = ρ 0 := h1 0 (by decide)
    have q1 : ρ' 1 = ρ 1 := h1 1 (by decide)
    have q2 : ρ' 2 = ρ 2 := h1 2 (by decide)
    have q3 : ρ' 3 = ρ 3 := h1 3 (by decide)
    rcases List.mem_cons.mp hx with e | hx
    · subst e
      refine (ax_XF_wr (x := 53) (by decide)).mpr ?_
      show ay_ex (ax_upd hp 50 (12) (ρ' 2)) 8 ∧ ay_ex (ax_upd hp 50 (12) (ρ' 2)) 10 ∧ ay_ex (ax_upd hp 50 (12) (ρ' 2)) 11 ∧ ay_ex (ax_upd hp 50 (12) (ρ' 2)) 12 ∧ pz_x53 (ρ' 0) (ρ' 4) (ay_at (ax_upd hp 50 (12) (ρ' 2)) 8 5) (ay_at (ax_upd hp 50 (12) (ρ' 2)) 10 0) (ay_at (ax_upd hp 50 (12) (ρ' 2)) 10 1) (ay_at (ax_upd hp 50 (12) (ρ' 2)) 10 2) (ay_at (ax_upd hp 50 (12) (ρ' 2)) 10 3) (ay_at (ax_upd hp 50 (12) (ρ' 2)) 10 4) (ay_at (ax_upd hp 50 (12) (ρ' 2)) 8 9) (ay_at (ax_upd hp 50 (12) (ρ' 2)) 8 11) (ay_at (ax_upd hp 50 (12) (ρ' 2)) 8 10) (ay_at (ax_upd hp 50 (12) (ρ' 2)) 8 3) (ay_at (ax_upd hp 50 (12) (ρ' 2)) 8 4) (ay_at (ax_upd hp 50 (12) (ρ' 2)) 11) (ay_at (ax_upd hp 50 (12) (ρ' 2)) 12)
      rw [q0, q2, h2]
      obtain ⟨o0, ho0⟩ := ay_some hT (q := 10) (g := 1) (n := 12) rfl rfl (j := 12 / 4) (by decide)
      have u1 : ∀ q, q ≠ 10 → ay_at (ax_upd hp 50 12 (ρ 2)) q = ay_at hp q := fun q hq => funext (fun j => ay_upd_ne hT.1 hq j)
      have u2 : ∀ j, ay_at (ax_upd hp 50 12 (ρ 2)) 10 j = if j = 3 then some (ρ 2) else ay_at hp 10 j := fun j => ay_upd_eq hT.1 rfl ho0 j
      refine ⟨ay_ex_upd hT.1 (ax_cellT hT (q := 8) (g := 2) rfl), ay_ex_upd hT.1 (ax_cellT hT (q := 10) (g := 1) rfl), ay_ex_upd hT.1 (ax_cellT hT (q := 11) (g := 14) rfl), ay_ex_upd hT.1 (ax_cellT hT (q := 12) (g := 15) rfl), ?_⟩
      rw [u1 8 (by decide), u2 0, if_neg (show ¬ 0 = 3 by decide), u2 1, if_neg (show ¬ 1 = 3 by decide), u2 2, if_neg (show ¬ 2 = 3 by decide), u2 3, if_pos rfl, u2 4, if_neg (show ¬ 4 = 3 by decide), u1 11 (by decide), u1 12 (by decide)]
      exact pz_53 (pz_41 _) rfl st.1
    rcases List.mem_cons.mp hx with e | hx
    · subst e
      refine (ax_XF_lt (x := 72) (by decide)).mpr ?_
      show pz7 (pz_gt (ρ' 0)) (pz_gN (ρ' 0)) ((ρ' 4) / 4) 2
      rw [q0, h2]
      rw [pz_41]
      exact st.2
    cases List.mem_singleton.mp hx
    refine (ax_XF_bi (o := 30) (by decide)).mpr (Or.inr ⟨rfl, ?_⟩)
    show ρ' 3 < ρ' 4
    rw [q3, h2]
    omega)
  exact ⟨(fun y hy => by cases hy), _, List.mem_cons_self, ρ', h1, h2⟩

theorem axq_rl_ro : ax_RO ax_wC ax_XC axu_rl_ro := by
  intro ρ hp hE hT
  have j0 : ρ 0 % 4 = 1 := pz_gj hE 0 (by decide) rfl
  have j1 : ρ 1 % 4 = 1 := pz_gj hE 1 (by decide) rfl
  obtain ⟨i2a, i2b, i2c, i2d⟩ := pz_gi hE 2 2147483648 2147483648 (by decide) rfl
  have c_rootTold : ay_at hp 8 9 = some (ρ 2) := ay_gfj hE 42 36 11 8 9 (by decide) (by rw [ax_vl_c (by decide)]) (by rw [ax_vl_c (by decide)])
  obtain ⟨-, -, -, -, F50⟩ : ay_ex hp 8 ∧ ay_ex hp 10 ∧ ay_ex hp 11 ∧ ay_ex hp 12 ∧ pz_x50 (ρ 0) (ρ 1) (ay_at hp 8 5) (ay_at hp 8 6) (ay_at hp 8 7) (ay_at hp 8 8) (ay_at hp 10 0) (ay_at hp 10 1) (ay_at hp 10 2) (ay_at hp 10 3) (ay_at hp 10 4) (ay_at hp 8 9) (ay_at hp 8 11) (ay_at hp 8 10) (ay_at hp 8 3) (ay_at hp 8 4) (ay_at hp 11) (ay_at hp 12) := (ax_XF_lt (by decide)).mp (ax_gx hE (50, [3, 7]) (by decide))
  rw [c_rootTold] at F50
  have F73 : pz7 (pz_gt (ρ 0)) (pz_gN (ρ 0)) ((ρ 1) / 4) 3 := (ax_XF_lt (by decide)).mp (ax_gx hE (73, [3, 7]) (by decide))
  have F60 : pz60 (pz_gt (ρ 0)) (pz_gN (ρ 0)) ((ρ 1) / 4) ((4010) / 4 - 1000) := (ax_XF_lt (by decide)).mp (ax_gx hE (60, [3, 7, 4010]) (by decide))
  have F61 : pz61 (pz_gt (ρ 0)) (pz_gN (ρ 0)) ((ρ 1) / 4) ((4006) / 4 - 1000) := (ax_XF_lt (by decide)).mp (ax_gx hE (61, [3, 7, 4006]) (by decide))
  have st := pq_rl_ro F50 F73 F61 F60 (show ρ 2 / 4 = 0 by omega)
  obtain ⟨ρ', h1, h2⟩ := pz_pn1 (K := ρ 1 / 4 + 1) (xf := [(553, [42, 36, 4, 3, 15]), (76, [3, 15]), (1030, [7, 15])]) hE (by decide) (fun ρ' h1 h2 x hx => by
    have q0 : ρ' 0 = ρ 0 := h1 0 (by decide)
    have q1 : ρ' 1 = ρ 1 := h1 1 (by decide)
    have q2 : ρ' 2 = ρ 2 := h1 2 (by decide)
    rcases List.mem_cons.mp hx with e | hx
    · subst e
      refine (ax_XF_wr (x := 53) (by decide)).mpr ?_
      show ay_ex (ax_upd hp 42 (36) (4)) 8 ∧ ay_ex (ax_upd hp 42 (36) (4)) 10 ∧ ay_ex (ax_upd hp 42 (36) (4)) 11 ∧ ay_ex (ax_upd hp 42 (36) (4)) 12 ∧ pz_x53 (ρ' 0) (ρ' 3) (ay_at (ax_upd hp 42 (36) (4)) 8 5) (ay_at (ax_upd hp 42 (36) (4)) 10 0) (ay_at (ax_upd hp 42 (36) (4)) 10 1) (ay_at (ax_upd hp 42 (36) (4)) 10 2) (ay_at (ax_upd hp 42 (36) (4)) 10 3) (ay_at (ax_upd hp 42 (36) (4)) 10 4) (ay_at (ax_upd hp 42 (36) (4)) 8 9) (ay_at (ax_upd hp 42 (36) (4)) 8 11) (ay_at (ax_upd hp 42 (36) (4)) 8 10) (ay_at (ax_upd hp 42 (36) (4)) 8 3) (ay_at (ax_upd hp 42 (36) (4)) 8 4) (ay_at (ax_upd hp 42 (36) (4)) 11) (ay_at (ax_upd hp 42 (36) (4)) 12)
      rw [q0, h2]
      obtain ⟨o0, ho0⟩ := ay_some hT (q := 8) (g := 2) (n := 12) rfl rfl (j := 36 / 4) (by decide)
      have u1 : ∀ q, q ≠ 8 → ay_at (ax_upd hp 42 36 (4)) q = ay_at hp q := fun q hq => funext (fun j => ay_upd_ne hT.1 hq j)
      have u2 : ∀ j, ay_at (ax_upd hp 42 36 (4)) 8 j = if j = 9 then some (4) else ay_at hp 8 j := fun j => ay_upd_eq hT.1 rfl ho0 j
      refine ⟨ay_ex_upd hT.1 (ax_cellT hT (q := 8) (g := 2) rfl), ay_ex_upd hT.1 (ax_cellT hT (q := 10) (g := 1) rfl), ay_ex_upd hT.1 (ax_cellT hT (q := 11) (g := 14) rfl), ay_ex_upd hT.1 (ax_cellT hT (q := 12) (g := 15) rfl), ?_⟩
      rw [u2 5, if_neg (show ¬ 5 = 9 by decide), u1 10 (by decide), u2 9, if_pos rfl, u2 11, if_neg (show ¬ 11 = 9 by decide), u2 10, if_neg (show ¬ 10 = 9 by decide), u2 3, if_neg (show ¬ 3 = 9 by decide), u2 4, if_neg (show ¬ 4 = 9 by decide), u1 11 (by decide), u1 12 (by decide)]
      exact pz_53 (pz_41 _) rfl st.1
    rcases List.mem_cons.mp hx with e | hx
    · subst e
      refine (ax_XF_lt (x := 76) (by decide)).mpr ?_
      show pz7 (pz_gt (ρ' 0)) (pz_gN (ρ' 0)) ((ρ' 3) / 4) 6
      rw [q0, h2]
      rw [pz_41]
      exact st.2
    cases List.mem_singleton.mp hx
    refine (ax_XF_bi (o := 30) (by decide)).mpr (Or.inr ⟨rfl, ?_⟩)
    show ρ' 1 < ρ' 3
    rw [q1, h2]
    omega)
  exact ⟨(fun y hy => by cases hy), _, List.mem_cons_self, ρ', h1, h2⟩

theorem axq_rl_rm : ax_RO ax_wC ax_XC axu_rl_rm := by
  intro ρ hp hE hT
  have j0 : ρ 0 % 4 = 1 := pz_gj hE 0 (by decide) rfl
  have j1 : ρ 1 % 4 = 1 := pz_gj hE 1 (by decide) rfl
  obtain ⟨i2a, i2b, i2c, i2d⟩ := pz_gi hE 2 2147483648 2147483648 (by decide) rfl
  have c_roomTold : ay_at hp 8 11 = some (ρ 2) := ay_gfj hE 42 44 11 8 11 (by decide) (by rw [ax_vl_c (by decide)]) (by rw [ax_vl_c (by decide)])
  obtain ⟨-, -, -, -, F50⟩ : ay_ex hp 8 ∧ ay_ex hp 10 ∧ ay_ex hp 11 ∧ ay_ex hp 12 ∧ pz_x50 (ρ 0) (ρ 1) (ay_at hp 8 5) (ay_at hp 8 6) (ay_at hp 8 7) (ay_at hp 8 8) (ay_at hp 10 0) (ay_at hp 10 1) (ay_at hp 10 2) (ay_at hp 10 3) (ay_at hp 10 4) (ay_at hp 8 9) (ay_at hp 8 11) (ay_at hp 8 10) (ay_at hp 8 3) (ay_at hp 8 4) (ay_at hp 11) (ay_at hp 12) := (ax_XF_lt (by decide)).mp (ax_gx hE (50, [3, 7]) (by decide))
  rw [c_roomTold] at F50
  have F73 : pz7 (pz_gt (ρ 0)) (pz_gN (ρ 0)) ((ρ 1) / 4) 3 := (ax_XF_lt (by decide)).mp (ax_gx hE (73, [3, 7]) (by decide))
  have F60 : pz60 (pz_gt (ρ 0)) (pz_gN (ρ 0)) ((ρ 1) / 4) ((4014) / 4 - 1000) := (ax_XF_lt (by decide)).mp (ax_gx hE (60, [3, 7, 4014]) (by decide))
  have F61 : pz61 (pz_gt (ρ 0)) (pz_gN (ρ 0)) ((ρ 1) / 4) ((4006) / 4 - 1000) := (ax_XF_lt (by decide)).mp (ax_gx hE (61, [3, 7, 4006]) (by decide))
  have st := pq_rl_rm F50 F73 F61 F60 (show ρ 2 / 4 = 0 by omega)
  obtain ⟨ρ', h1, h2⟩ := pz_pn1 (K := ρ 1 / 4 + 1) (xf := [(553, [42, 44, 4, 3, 15]), (77, [3, 15]), (1030, [7, 15])]) hE (by decide) (fun ρ' h1 h2 x hx => by
    have q0 : ρ' 0 = ρ 0 := h1 0 (by decide)
    have q1 : ρ' 1 = ρ 1 := h1 1 (by decide)
    have q2 : ρ' 2 = ρ 2 := h1 2 (by decide)
    rcases List.mem_cons.mp hx with e | hx
    · subst e
      refine (ax_XF_wr (x := 53) (by decide)).mpr ?_
      show ay_ex (ax_upd hp 42 (44) (4)) 8 ∧ ay_ex (ax_upd hp 42 (44) (4)) 10 ∧ ay_ex (ax_upd hp 42 (44) (4)) 11 ∧ ay_ex (ax_upd hp 42 (44) (4)) 12 ∧ pz_x53 (ρ' 0) (ρ' 3) (ay_at (ax_upd hp 42 (44) (4)) 8 5) (ay_at (ax_upd hp 42 (44) (4)) 10 0) (ay_at (ax_upd hp 42 (44) (4)) 10 1) (ay_at (ax_upd hp 42 (44) (4)) 10 2) (ay_at (ax_upd hp 42 (44) (4)) 10 3) (ay_at (ax_upd hp 42 (44) (4)) 10 4) (ay_at (ax_upd hp 42 (44) (4)) 8 9) (ay_at (ax_upd hp 42 (44) (4)) 8 11) (ay_at (ax_upd hp 42 (44) (4)) 8 10) (ay_at (ax_upd hp 42 (44) (4)) 8 3) (ay_at (ax_upd hp 42 (44) (4)) 8 4) (ay_at (ax_upd hp 42 (44) (4)) 11) (ay_at (ax_upd hp 42 (44) (4)) 12)
      rw [q0, h2]
      obtain ⟨o0, ho0⟩ := ay_some hT (q := 8) (g := 2) (n := 12) rfl rfl (j := 44 / 4) (by decide)
      have u1 : ∀ q, q ≠ 8 → ay_at (ax_upd hp 42 44 (4)) q = ay_at hp q := fun q hq => funext (fun j => ay_upd_ne hT.1 hq j)
      have u2 : ∀ j, ay_at (ax_upd hp 42 44 (4)) 8 j = if j = 11 then some (4) else ay_at hp 8 j := fun j => ay_upd_eq hT.1 rfl ho0 j
      refine ⟨ay_ex_upd hT.1 (ax_cellT hT (q := 8) (g := 2) rfl), ay_ex_upd hT.1 (ax_cellT hT (q := 10) (g := 1) rfl), ay_ex_upd hT.1 (ax_cellT hT (q := 11) (g := 14) rfl), ay_ex_upd hT.1 (ax_cellT hT (q := 12) (g := 15) rfl), ?_⟩
      rw [u2 5, if_neg (show ¬ 5 = 11 by decide), u1 10 (by decide), u2 9, if_neg (show ¬ 9 = 11 by decide), u2 11, if_pos rfl, u2 10, if_neg (show ¬ 10 = 11 by decide), u2 3, if_neg (show ¬ 3 = 11 by decide), u2 4, if_neg (show ¬ 4 = 11 by decide), u1 11 (by decide), u1 12 (by decide)]
      exact pz_53 (pz_41 _) rfl st.1
    rcases List.mem_cons.mp hx with e | hx
    · subst e
      refine (ax_XF_lt (x := 77) (by decide)).mpr ?_
      show pz7 (pz_gt (ρ' 0)) (pz_gN (ρ' 0)) ((ρ' 3) / 4) 7
      rw [q0, h2]
      rw [pz_41]
      exact st.2
    cases List.mem_singleton.mp hx
    refine (ax_XF_bi (o := 30) (by decide)).mpr (Or.inr ⟨rfl, ?_⟩)
    show ρ' 1 < ρ' 3
    rw [q1, h2]
    omega)
  exact ⟨(fun y hy => by cases hy), _, List.mem_cons_self, ρ', h1, h2⟩

theorem axq_rl_rk : ax_RO ax_wC ax_XC axu_rl_rk := by
  intro ρ hp hE hT
  have j0 : ρ 0 % 4 = 1 := pz_gj hE 0 (by decide) rfl
  have j1 : ρ 1 % 4 = 1 := pz_gj hE 1 (by decide) rfl
  obtain ⟨i2a, i2b, i2c, i2d⟩ := pz_gi hE 2 2147483648 2147483648 (by decide) rfl
  have c_rankTold : ay_at hp 8 10 = some (ρ 2) := ay_gfj hE 42 40 11 8 10 (by decide) (by rw [ax_vl_c (by decide)]) (by rw [ax_vl_c (by decide)])
  obtain ⟨-, -, -, -, F50⟩ : ay_ex hp 8 ∧ ay_ex hp 10 ∧ ay_ex hp 11 ∧ ay_ex hp 12 ∧ pz_x50 (ρ 0) (ρ 1) (ay_at hp 8 5) (ay_at hp 8 6) (ay_at hp 8 7) (ay_at hp 8 8) (ay_at hp 10 0) (ay_at hp 10 1) (ay_at hp 10 2) (ay_at hp 10 3) (ay_at hp 10 4) (ay_at hp 8 9) (ay_at hp 8 11) (ay_at hp 8 10) (ay_at hp 8 3) (ay_at hp 8 4) (ay_at hp 11) (ay_at hp 12) := (ax_XF_lt (by decide)).mp (ax_gx hE (50, [3, 7]) (by decide))
  rw [c_rankTold] at F50
  have F73 : pz7 (pz_gt (ρ 0)) (pz_gN (ρ 0)) ((ρ 1) / 4) 3 := (ax_XF_lt (by decide)).mp (ax_gx hE (73, [3, 7]) (by decide))
  have F60 : pz60 (pz_gt (ρ 0)) (pz_gN (ρ 0)) ((ρ 1) / 4) ((4018) / 4 - 1000) := (ax_XF_lt (by decide)).mp (ax_gx hE (60, [3, 7, 4018]) (by decide))
  have F61 : pz61 (pz_gt (ρ 0)) (pz_gN (ρ 0)) ((ρ 1) / 4) ((4006) / 4 - 1000) := (ax_XF_lt (by decide)).mp (ax_gx hE (61, [3, 7, 4006]) (by decide))
  have st := pq_rl_rk F50 F73 F61 F60 (show ρ 2 / 4 = 0 by omega)
  obtain ⟨ρ', h1, h2⟩ := pz_pn1 (K := ρ 1 / 4 + 1) (xf := [(553, [42, 40, 4, 3, 15]), (78, [3, 15]), (90, [3, 15, 5]), (91, [5, 0]), (92, [5, 5]), (1030, [7, 15])]) hE (by decide) (fun ρ' h1 h2 x hx => by
    have q0 : ρ' 0 = ρ 0 := h1 0 (by decide)
    have q1 : ρ' 1 = ρ 1 := h1 1 (by decide)
    have q2 : ρ' 2 = ρ 2 := h1 2 (by decide)
    rcases List.mem_cons.mp hx with e | hx
    · subst e
      refine (ax_XF_wr (x := 53) (by decide)).mpr ?_
      show ay_ex (ax_upd hp 42 (40) (4)) 8 ∧ ay_ex (ax_upd hp 42 (40) (4)) 10 ∧ ay_ex (ax_upd hp 42 (40) (4)) 11 ∧ ay_ex (ax_upd hp 42 (40) (4)) 12 ∧ pz_x53 (ρ' 0) (ρ' 3) (ay_at (ax_upd hp 42 (40) (4)) 8 5) (ay_at (ax_upd hp 42 (40) (4)) 10 0) (ay_at (ax_upd hp 42 (40) (4)) 10 1) (ay_at (ax_upd hp 42 (40) (4)) 10 2) (ay_at (ax_upd hp 42 (40) (4)) 10 3) (ay_at (ax_upd hp 42 (40) (4)) 10 4) (ay_at (ax_upd hp 42 (40) (4)) 8 9) (ay_at (ax_upd hp 42 (40) (4)) 8 11) (ay_at (ax_upd hp 42 (40) (4)) 8 10) (ay_at (ax_upd hp 42 (40) (4)) 8 3) (ay_at (ax_upd hp 42 (40) (4)) 8 4) (ay_at (ax_upd hp 42 (40) (4)) 11) (ay_at (ax_upd hp 42 (40) (4)) 12)
      rw [q0, h2]
      obtain ⟨o0, ho0⟩ := ay_some hT (q := 8) (g := 2) (n := 12) rfl rfl (j := 40 / 4) (by decide)
      have u1 : ∀ q, q ≠ 8 → ay_at (ax_upd hp 42 40 (4)) q = ay_at hp q := fun q hq => funext (fun j => ay_upd_ne hT.1 hq j)
      have u2 : ∀ j, ay_at (ax_upd hp 42 40 (4)) 8 j = if j = 10 then some (4) else ay_at hp 8 j := fun j => ay_upd_eq hT.1 rfl ho0 j
      refine ⟨ay_ex_upd hT.1 (ax_cellT hT (q := 8) (g := 2) rfl), ay_ex_upd hT.1 (ax_cellT hT (q := 10) (g := 1) rfl), ay_ex_upd hT.1 (ax_cellT hT (q := 11) (g := 14) rfl), ay_ex_upd hT.1 (ax_cellT hT (q := 12) (g := 15) rfl), ?_⟩
      rw [u2 5, if_neg (show ¬ 5 = 10 by decide), u1 10 (by decide), u2 9, if_neg (show ¬ 9 = 10 by decide), u2 11, if_neg (show ¬ 11 = 10 by decide), u2 10, if_pos rfl, u2 3, if_neg (show ¬ 3 = 10 by decide), u2 4, if_neg (show ¬ 4 = 10 by decide), u1 11 (by decide), u1 12 (by decide)]
      exact pz_53 (pz_41 _) rfl st.1
    rcases List.mem_cons.mp hx with e | hx
    · subst e
      refine (ax_XF_lt (x := 78) (by decide)).mpr ?_
      show pz7 (pz_gt (ρ' 0)) (pz_gN (ρ' 0)) ((ρ' 3) / 4) 8
      rw [q0, h2]
      rw [pz_41]
      exact st.2.1
    rcases List.mem_cons.mp hx with e | hx
    · subst e
      refine (ax_XF_lt (x := 90) (by decide)).mpr ?_
      show (pz90 (pz_gt (ρ' 0)) (pz_gN (ρ' 0)) ((ρ' 3) / 4) ((5) / 4) ∧ 1 ≤ (5) / 4)
      rw [q0, h2]
      rw [pz_41]
      exact ⟨st.2.2, by decide⟩
    rcases List.mem_cons.mp hx with e | hx
    · subst e
      refine (ax_XF_lt (x := 91) (by decide)).mpr ?_
      show pz_dp ((5) / 4) = (0) / 4
      rw []
      decide
    rcases List.mem_cons.mp hx with e | hx
    · subst e
      refine (ax_XF_lt (x := 92) (by decide)).mpr ?_
      show pz_strip ((5) / 4) = (5) / 4
      rw []
      decide
    cases List.mem_singleton.mp hx
    refine (ax_XF_bi (o := 30) (by decide)).mpr (Or.inr ⟨rfl, ?_⟩)
    show ρ' 1 < ρ' 3
    rw [q1, h2]
    omega)
  exact ⟨(fun y hy => by cases hy), _, List.mem_cons_self, ρ', h1, h2⟩

theorem axq_ru6c1_0 : ax_RO ax_wC ax_XC axu_ru6c1_0 := by
  intro ρ hp hE hT
  have j0 : ρ 0 % 4 = 1 := pz_gj hE 0 (by decide) rfl
  have j1 : ρ 1 % 4 = 1 := pz_gj hE 1 (by decide) rfl
  have j2 : ρ 2 % 4 = 1 := pz_gj hE 2 (by decide) rfl
  obtain ⟨i3a, i3b, i3c, i3d⟩ := pz_gi hE 3 2147483648 2147483687 (by decide) rfl
  obtain ⟨i4a, i4b, i4c, i4d⟩ := pz_gi hE 4 0 4294967295 (by decide) rfl
  have c_units : ay_at hp 10 4 = some (ρ 3) := ay_gfj hE 50 16 15 10 4 (by decide) (by rw [ax_vl_c (by decide)]) (by rw [ax_vl_c (by decide)])
  have s1 : (ρ 3 / 4 + 2147483648) % 4294967296 + (4 / 4 + 2147483648) % 4294967296 = (ρ 4 / 4 + 2147483648) % 4294967296 + 2147483648 := pz_gs hE 15 4 19 (by decide)
  obtain ⟨-, -, -, -, F50⟩ : ay_ex hp 8 ∧ ay_ex hp 10 ∧ ay_ex hp 11 ∧ ay_ex hp 12 ∧ pz_x50 (ρ 0) (ρ 1) (ay_at hp 8 5) (ay_at hp 8 6) (ay_at hp 8 7) (ay_at hp 8 8) (ay_at hp 10 0) (ay_at hp 10 1) (ay_at hp 10 2) (ay_at hp 10 3) (ay_at hp 10 4) (ay_at hp 8 9) (ay_at hp 8 11) (ay_at hp 8 10) (ay_at hp 8 3) (ay_at hp 8 4) (ay_at hp 11) (ay_at hp 12) := (ax_XF_lt (by decide)).mp (ax_gx hE (50, [3, 7]) (by decide))
  rw [c_units] at F50
  have F78 : pz7 (pz_gt (ρ 0)) (pz_gN (ρ 0)) ((ρ 1) / 4) 8 := (ax_XF_lt (by decide)).mp (ax_gx hE (78, [3, 7]) (by decide))
  have F107 : pz107 (pz_gt (ρ 0)) (pz_gN (ρ 0)) ((ρ 1) / 4) ((4) / 4) := (ax_XF_lt (by decide)).mp (ax_gx hE (107, [3, 7, 4]) (by decide))
  have F90 : (pz90 (pz_gt (ρ 0)) (pz_gN (ρ 0)) ((ρ 1) / 4) ((ρ 2) / 4) ∧ 1 ≤ (ρ 2) / 4) := (ax_XF_lt (by decide)).mp (ax_gx hE (90, [3, 7, 11]) (by decide))
  have F91 : pz_dp ((ρ 2) / 4) = (0) / 4 := (ax_XF_lt (by decide)).mp (ax_gx hE (91, [11, 0]) (by decide))
  have st := pq_ru6u F50 F78 F107 (by decide) (by decide) F90.1 (by rw [F91]; decide) (show ρ 3 / 4 ≤ 39 by omega)
  obtain ⟨ρ', h1, h2⟩ := pz_pn2 (K := ρ 1 / 4 + 1) (L := pz_strip (ρ 2 / 4)) (xf := [(553, [50, 16, 19, 3, 23]), (79, [3, 23]), (90, [3, 23, 27]), (92, [11, 27]), (1030, [7, 23])]) hE (by decide) (fun ρ' h1 h2 h3 x hx => by
    have q0 : ρ' 0 = ρ 0 := h1 0 (by decide)
    have q1 : ρ' 1 = ρ 1 := h1 1 (by decide)
    have q2 : ρ' 2 = ρ 2 := h1 2 (by decide)
    have q3 : ρ' 3 = ρ 3 := h1 3 (by decide)
    have q4 : ρ' 4 = ρ 4 := h1 4 (by decide)
    rcases List.mem_cons.mp hx with e | hx
    · subst e
      refine (ax_XF_wr (x := 53) (by decide)).mpr ?_
      show ay_ex (ax_upd hp 50 (16) (ρ' 4)) 8 ∧ ay_ex (ax_upd hp 50 (16) (ρ' 4)) 10 ∧ ay_ex (ax_upd hp 50 (16) (ρ' 4)) 11 ∧ ay_ex (ax_upd hp 50 (16) (ρ' 4)) 12 ∧ pz_x53 (ρ' 0) (ρ' 5) (ay_at (ax_upd hp 50 (16) (ρ' 4)) 8 5) (ay_at (ax_upd hp 50 (16) (ρ' 4)) 10 0) (ay_at (ax_upd hp 50 (16) (ρ' 4)) 10 1) (ay_at (ax_upd hp 50 (16) (ρ' 4)) 10 2) (ay_at (ax_upd hp 50 (16) (ρ' 4)) 10 3) (ay_at (ax_upd hp 50 (16) (ρ' 4)) 10 4) (ay_at (ax_upd hp 50 (16) (ρ' 4)) 8 9) (ay_at (ax_upd hp 50 (16) (ρ' 4)) 8 11) (ay_at (ax_upd hp 50 (16) (ρ' 4)) 8 10) (ay_at (ax_upd hp 50 (16) (ρ' 4)) 8 3) (ay_at (ax_upd hp 50 (16) (ρ' 4)) 8 4) (ay_at (ax_upd hp 50 (16) (ρ' 4)) 11) (ay_at (ax_upd hp 50 (16) (ρ' 4)) 12)
      rw [q0, q4, h2]
      obtain ⟨o0, ho0⟩ := ay_some hT (q := 10) (g := 1) (n := 12) rfl rfl (j := 16 / 4) (by decide)
      have u1 : ∀ q, q ≠ 10 → ay_at (ax_upd hp 50 16 (ρ 4)) q = ay_at hp q := fun q hq => funext (fun j => ay_upd_ne hT.1 hq j)
      have u2 : ∀ j, ay_at (ax_upd hp 50 16 (ρ 4)) 10 j = if j = 4 then some (ρ 4) else ay_at hp 10 j := fun j => ay_upd_eq hT.1 rfl ho0 j
      refine ⟨ay_ex_upd hT.1 (ax_cellT hT (q := 8) (g := 2) rfl), ay_ex_upd hT.1 (ax_cellT hT (q := 10) (g := 1) rfl), ay_ex_upd hT.1 (ax_cellT hT (q := 11) (g := 14) rfl), ay_ex_upd hT.1 (ax_cellT hT (q := 12) (g := 15) rfl), ?_⟩
      rw [u1 8 (by decide), u2 0, if_neg (show ¬ 0 = 4 by decide), u2 1, if_neg (show ¬ 1 = 4 by decide), u2 2, if_neg (show ¬ 2 = 4 by decide), u2 3, if_neg (show ¬ 3 = 4 by decide), u2 4, if_pos rfl, u1 11 (by decide), u1 12 (by decide)]
      have eu : ρ 4 / 4 = ρ 3 / 4 + 1 := by omega
      refine pz_53 (pz_41 _) rfl ?_
      show pz53 _ _ _ _ _ _ _ _ (ρ 4 / 4) _ _ _ _ _ _ _
      rw [eu]
      exact st.1
    rcases List.mem_cons.mp hx with e | hx
    · subst e
      refine (ax_XF_lt (x := 79) (by decide)).mpr ?_
      show pz7 (pz_gt (ρ' 0)) (pz_gN (ρ' 0)) ((ρ' 5) / 4) 9
      rw [q0, h2]
      rw [pz_41]
      exact st.2.1
    rcases List.mem_cons.mp hx with e | hx
    · subst e
      refine (ax_XF_lt (x := 90) (by decide)).mpr ?_
      show (pz90 (pz_gt (ρ' 0)) (pz_gN (ρ' 0)) ((ρ' 5) / 4) ((ρ' 6) / 4) ∧ 1 ≤ (ρ' 6) / 4)
      rw [q0, h2, h3]
      rw [pz_41, pz_41]
      exact ⟨st.2.2, pz_strip_1 F90.2⟩
    rcases List.mem_cons.mp hx with e | hx
    · subst e
      refine (ax_XF_lt (x := 92) (by decide)).mpr ?_
      show pz_strip ((ρ' 2) / 4) = (ρ' 6) / 4
      rw [q2, h3]
      rw [pz_41]
    cases List.mem_singleton.mp hx
    refine (ax_XF_bi (o := 30) (by decide)).mpr (Or.inr ⟨rfl, ?_⟩)
    show ρ' 1 < ρ' 5
    rw [q1, h2]
    omega)
  exact ⟨(fun y hy => by cases hy), _, List.mem_cons_self, ρ', h1, h2⟩

theorem axq_ru6c2_0 : ax_RO ax_wC ax_XC axu_ru6c2_0 := by
  intro ρ hp hE hT
  have j0 : ρ 0 % 4 = 1 := pz_gj hE 0 (by decide) rfl
  have j1 : ρ 1 % 4 = 1 := pz_gj hE 1 (by decide) rfl
  have j2 : ρ 2 % 4 = 1 := pz_gj hE 2 (by decide) rfl
  obtain ⟨i3a, i3b, i3c, i3d⟩ := pz_gi hE 3 2147483648 2147483687 (by decide) rfl
  obtain ⟨i4a, i4b, i4c, i4d⟩ := pz_gi hE 4 0 4294967295 (by decide) rfl
  have c_units : ay_at hp 10 4 = some (ρ 3) := ay_gfj hE 50 16 15 10 4 (by decide) (by rw [ax_vl_c (by decide)]) (by rw [ax_vl_c (by decide)])
  have s1 : (ρ 3 / 4 + 2147483648) % 4294967296 + (4 / 4 + 2147483648) % 4294967296 = (ρ 4 / 4 + 2147483648) % 4294967296 + 2147483648 := pz_gs hE 15 4 19 (by decide)
  obtain ⟨-, -, -, -, F50⟩ : ay_ex hp 8 ∧ ay_ex hp 10 ∧ ay_ex hp 11 ∧ ay_ex hp 12 ∧ pz_x50 (ρ 0) (ρ 1) (ay_at hp 8 5) (ay_at hp 8 6) (ay_at hp 8 7) (ay_at hp 8 8) (ay_at hp 10 0) (ay_at hp 10 1) (ay_at hp 10 2) (ay_at hp 10 3) (ay_at hp 10 4) (ay_at hp 8 9) (ay_at hp 8 11) (ay_at hp 8 10) (ay_at hp 8 3) (ay_at hp 8 4) (ay_at hp 11) (ay_at hp 12) := (ax_XF_lt (by decide)).mp (ax_gx hE (50, [3, 7]) (by decide))
  rw [c_units] at F50
  have F78 : pz7 (pz_gt (ρ 0)) (pz_gN (ρ 0)) ((ρ 1) / 4) 8 := (ax_XF_lt (by decide)).mp (ax_gx hE (78, [3, 7]) (by decide))
  have F107 : pz107 (pz_gt (ρ 0)) (pz_gN (ρ 0)) ((ρ 1) / 4) ((8) / 4) := (ax_XF_lt (by decide)).mp (ax_gx hE (107, [3, 7, 8]) (by decide))
  have F90 : (pz90 (pz_gt (ρ 0)) (pz_gN (ρ 0)) ((ρ 1) / 4) ((ρ 2) / 4) ∧ 1 ≤ (ρ 2) / 4) := (ax_XF_lt (by decide)).mp (ax_gx hE (90, [3, 7, 11]) (by decide))
  have F91 : pz_dp ((ρ 2) / 4) = (0) / 4 := (ax_XF_lt (by decide)).mp (ax_gx hE (91, [11, 0]) (by decide))
  have st := pq_ru6u F50 F78 F107 (by decide) (by decide) F90.1 (by rw [F91]; decide) (show ρ 3 / 4 ≤ 39 by omega)
  obtain ⟨ρ', h1, h2⟩ := pz_pn2 (K := ρ 1 / 4 + 1) (L := pz_strip (ρ 2 / 4)) (xf := [(553, [50, 16, 19, 3, 23]), (79, [3, 23]), (90, [3, 23, 27]), (92, [11, 27]), (1030, [7, 23])]) hE (by decide) (fun ρ' h1 h2 h3 x hx => by
    have q0 : ρ' 0 = ρ 0 := h1 0 (by decide)
    have q1 : ρ' 1 = ρ 1 := h1 1 (by decide)
    have q2 : ρ' 2 = ρ 2 := h1 2 (by decide)
    have q3 : ρ' 3 = ρ 3 := h1 3 (by decide)
    have q4 : ρ' 4 = ρ 4 := h1 4 (by decide)
    rcases List.mem_cons.mp hx with e | hx
    · subst e
      refine (ax_XF_wr (x := 53) (by decide)).mpr ?_
      show ay_ex (ax_upd hp 50 (16) (ρ' 4)) 8 ∧ ay_ex (ax_upd hp 50 (16) (ρ' 4)) 10 ∧ ay_ex (ax_upd hp 50 (16) (ρ' 4)) 11 ∧ ay_ex (ax_upd hp 50 (16) (ρ' 4)) 12 ∧ pz_x53 (ρ' 0) (ρ' 5) (ay_at (ax_upd hp 50 (16) (ρ' 4)) 8 5) (ay_at (ax_upd hp 50 (16) (ρ' 4)) 10 0) (ay_at (ax_upd hp 50 (16) (ρ' 4)) 10 1) (ay_at (ax_upd hp 50 (16) (ρ' 4)) 10 2) (ay_at (ax_upd hp 50 (16) (ρ' 4)) 10 3) (ay_at (ax_upd hp 50 (16) (ρ' 4)) 10 4) (ay_at (ax_upd hp 50 (16) (ρ' 4)) 8 9) (ay_at (ax_upd hp 50 (16) (ρ' 4)) 8 11) (ay_at (ax_upd hp 50 (16) (ρ' 4)) 8 10) (ay_at (ax_upd hp 50 (16) (ρ' 4)) 8 3) (ay_at (ax_upd hp 50 (16) (ρ' 4)) 8 4) (ay_at (ax_upd hp 50 (16) (ρ' 4)) 11) (ay_at (ax_upd hp 50 (16) (ρ' 4)) 12)
      rw [q0, q4, h2]
      obtain ⟨o0, ho0⟩ := ay_some hT (q := 10) (g := 1) (n := 12) rfl rfl (j := 16 / 4) (by decide)
      have u1 : ∀ q, q ≠ 10 → ay_at (ax_upd hp 50 16 (ρ 4)) q = ay_at hp q := fun q hq => funext (fun j => ay_upd_ne hT.1 hq j)
      have u2 : ∀ j, ay_at (ax_upd hp 50 16 (ρ 4)) 10 j = if j = 4 then some (ρ 4) else ay_at hp 10 j := fun j => ay_upd_eq hT.1 rfl ho0 j
      refine ⟨ay_ex_upd hT.1 (ax_cellT hT (q := 8) (g := 2) rfl), ay_ex_upd hT.1 (ax_cellT hT (q := 10) (g := 1) rfl), ay_ex_upd hT.1 (ax_cellT hT (q := 11) (g := 14) rfl), ay_ex_upd hT.1 (ax_cellT hT (q := 12) (g := 15) rfl), ?_⟩
      rw [u1 8 (by decide), u2 0, if_neg (show ¬ 0 = 4 by decide), u2 1, if_neg (show ¬ 1 = 4 by decide), u2 2, if_neg (show ¬ 2 = 4 by decide), u2 3, if_neg (show ¬ 3 = 4 by decide), u2 4, if_pos rfl, u1 11 (by decide), u1 12 (by decide)]
      have eu : ρ 4 / 4 = ρ 3 / 4 + 1 := by omega
      refine pz_53 (pz_41 _) rfl ?_
      show pz53 _ _ _ _ _ _ _ _ (ρ 4 / 4) _ _ _ _ _ _ _
      rw [eu]
      exact st.1
    rcases List.mem_cons.mp hx with e | hx
    · subst e
      refine (ax_XF_lt (x := 79) (by decide)).mpr ?_
      show pz7 (pz_gt (ρ' 0)) (pz_gN (ρ' 0)) ((ρ' 5) / 4) 9
      rw [q0, h2]
      rw [pz_41]
      exact st.2.1
    rcases List.mem_cons.mp hx with e | hx
    · subst e
      refine (ax_XF_lt (x := 90) (by decide)).mpr ?_
      show (pz90 (pz_gt (ρ' 0)) (pz_gN (ρ' 0)) ((ρ' 5) / 4) ((ρ' 6) / 4) ∧ 1 ≤ (ρ' 6) / 4)
      rw [q0, h2, h3]
      rw [pz_41, pz_41]
      exact ⟨st.2.2, pz_strip_1 F90.2⟩
    rcases List.mem_cons.mp hx with e | hx
    · subst e
      refine (ax_XF_lt (x := 92) (by decide)).mpr ?_
      show pz_strip ((ρ' 2) / 4) = (ρ' 6) / 4
      rw [q2, h3]
      rw [pz_41]
    cases List.mem_singleton.mp hx
    refine (ax_XF_bi (o := 30) (by decide)).mpr (Or.inr ⟨rfl, ?_⟩)
    show ρ' 1 < ρ' 5
    rw [q1, h2]
    omega)
  exact ⟨(fun y hy => by cases hy), _, List.mem_cons_self, ρ', h1, h2⟩

theorem axq_ru6c3_0 : ax_RO ax_wC ax_XC axu_ru6c3_0 := by
  intro ρ hp hE hT
  have j0 : ρ 0 % 4 = 1 := pz_gj hE 0 (by decide) rfl
  have j1 : ρ 1 % 4 = 1 := pz_gj hE 1 (by decide) rfl
  have j2 : ρ 2 % 4 = 1 := pz_gj hE 2 (by decide) rfl
  obtain ⟨i3a, i3b, i3c, i3d⟩ := pz_gi hE 3 2147483648 2147483687 (by decide) rfl
  obtain ⟨i4a, i4b, i4c, i4d⟩ := pz_gi hE 4 0 4294967295 (by decide) rfl
  have c_units : ay_at hp 10 4 = some (ρ 3) := ay_gfj hE 50 16 15 10 4 (by decide) (by rw [ax_vl_c (by decide)]) (by rw [ax_vl_c (by decide)])
  have s1 : (ρ 3 / 4 + 2147483648) % 4294967296 + (4 / 4 + 2147483648) % 4294967296 = (ρ 4 / 4 + 2147483648) % 4294967296 + 2147483648 := pz_gs hE 15 4 19 (by decide)
  obtain ⟨-, -, -, -, F50⟩ : ay_ex hp 8 ∧ ay_ex hp 10 ∧ ay_ex hp 11 ∧ ay_ex hp 12 ∧ pz_x50 (ρ 0) (ρ 1) (ay_at hp 8 5) (ay_at hp 8 6) (ay_at hp 8 7) (ay_at hp 8 8) (ay_at hp 10 0) (ay_at hp 10 1) (ay_at hp 10 2) (ay_at hp 10 3) (ay_at hp 10 4) (ay_at hp 8 9) (ay_at hp 8 11) (ay_at hp 8 10) (ay_at hp 8 3) (ay_at hp 8 4) (ay_at hp 11) (ay_at hp 12) := (ax_XF_lt (by decide)).mp (ax_gx hE (50, [3, 7]) (by decide))
  rw [c_units] at F50
  have F78 : pz7 (pz_gt (ρ 0)) (pz_gN (ρ 0)) ((ρ 1) / 4) 8 := (ax_XF_lt (by decide)).mp (ax_gx hE (78, [3, 7]) (by decide))
  have F107 : pz107 (pz_gt (ρ 0)) (pz_gN (ρ 0)) ((ρ 1) / 4) ((12) / 4) := (ax_XF_lt (by decide)).mp (ax_gx hE (107, [3, 7, 12]) (by decide))
  have F90 : (pz90 (pz_gt (ρ 0)) (pz_gN (ρ 0)) ((ρ 1) / 4) ((ρ 2) / 4) ∧ 1 ≤ (ρ 2) / 4) := (ax_XF_lt (by decide)).mp (ax_gx hE (90, [3, 7, 11]) (by decide))
  have F91 : pz_dp ((ρ 2) / 4) = (0) / 4 := (ax_XF_lt (by decide)).mp (ax_gx hE (91, [11, 0]) (by decide))
  have st := pq_ru6u F50 F78 F107 (by decide) (by decide) F90.1 (by rw [F91]; decide) (show ρ 3 / 4 ≤ 39 by omega)
  obtain ⟨ρ', h1, h2⟩ := pz_pn2 (K := ρ 1 / 4 + 1) (L := pz_strip (ρ 2 / 4)) (xf := [(553, [50, 16, 19, 3, 23]), (79, [3, 23]), (90, [3, 23, 27]), (92, [11, 27]), (1030, [7, 23])]) hE (by decide) (fun ρ' h1 h2 h3 x hx => by
    have q0 : ρ' 0 = ρ 0 := h1 0 (by decide)
    have q1 : ρ' 1 = ρ 1 := h1 1 (by decide)
    have q2 : ρ' 2 = ρ 2 := h1 2 (by decide)
    have q3 : ρ' 3 = ρ 3 := h1 3 (by decide)
    have q4 : ρ' 4 = ρ 4 := h1 4 (by decide)
    rcases List.mem_cons.mp hx with e | hx
    · subst e
      refine (ax_XF_wr (x := 53) (by decide)).mpr ?_
      show ay_ex (ax_upd hp 50 (16) (ρ' 4)) 8 ∧ ay_ex (ax_upd hp 50 (16) (ρ' 4)) 10 ∧ ay_ex (ax_upd hp 50 (16) (ρ' 4)) 11 ∧ ay_ex (ax_upd hp 50 (16) (ρ' 4)) 12 ∧ pz_x53 (ρ' 0) (ρ' 5) (ay_at (ax_upd hp 50 (16) (ρ' 4)) 8 5) (ay_at (ax_upd hp 50 (16) (ρ' 4)) 10 0) (ay_at (ax_upd hp 50 (16) (ρ' 4)) 10 1) (ay_at (ax_upd hp 50 (16) (ρ' 4)) 10 2) (ay_at (ax_upd hp 50 (16) (ρ' 4)) 10 3) (ay_at (ax_upd hp 50 (16) (ρ' 4)) 10 4) (ay_at (ax_upd hp 50 (16) (ρ' 4)) 8 9) (ay_at (ax_upd hp 50 (16) (ρ' 4)) 8 11) (ay_at (ax_upd hp 50 (16) (ρ' 4)) 8 10) (ay_at (ax_upd hp 50 (16) (ρ' 4)) 8 3) (ay_at (ax_upd hp 50 (16) (ρ' 4)) 8 4) (ay_at (ax_upd hp 50 (16) (ρ' 4)) 11) (ay_at (ax_upd hp 50 (16) (ρ' 4)) 12)
      rw [q0, q4, h2]
      obtain ⟨o0, ho0⟩ := ay_some hT (q := 10) (g := 1) (n := 12) rfl rfl (j := 16 / 4) (by decide)
      have u1 : ∀ q, q ≠ 10 → ay_at (ax_upd hp 50 16 (ρ 4)) q = ay_at hp q := fun q hq => funext (fun j => ay_upd_ne hT.1 hq j)
      have u2 : ∀ j, ay_at (ax_upd hp 50 16 (ρ 4)) 10 j = if j = 4 then some (ρ 4) else ay_at hp 10 j := fun j => ay_upd_eq hT.1 rfl ho0 j
      refine ⟨ay_ex_upd hT.1 (ax_cellT hT (q := 8) (g := 2) rfl), ay_ex_upd hT.1 (ax_cellT hT (q := 10) (g := 1) rfl), ay_ex_upd hT.1 (ax_cellT hT (q := 11) (g := 14) rfl), ay_ex_upd hT.1 (ax_cellT hT (q := 12) (g := 15) rfl), ?_⟩
      rw [u1 8 (by decide), u2 0, if_neg (show ¬ 0 = 4 by decide), u2 1, if_neg (show ¬ 1 = 4 by decide), u2 2, if_neg (show ¬ 2 = 4 by decide), u2 3, if_neg (show ¬ 3 = 4 by decide), u2 4, if_pos rfl, u1 11 (by decide), u1 12 (by decide)]
      have eu : ρ 4 / 4 = ρ 3 / 4 + 1 := by omega
      refine pz_53 (pz_41 _) rfl ?_
      show pz53 _ _ _ _ _ _ _ _ (ρ 4 / 4) _ _ _ _ _ _ _
      rw [eu]
      exact st.1
    rcases List.mem_cons.mp hx with e | hx
    · subst e
      refine (ax_XF_lt (x := 79) (by decide)).mpr ?_
      show pz7 (pz_gt (ρ' 0)) (pz_gN (ρ' 0)) ((ρ' 5) / 4) 9
      rw [q0, h2]
      rw [pz_41]
      exact st.2.1
    rcases List.mem_cons.mp hx with e | hx
    · subst e
      refine (ax_XF_lt (x := 90) (by decide)).mpr ?_
      show (pz90 (pz_gt (ρ' 0)) (pz_gN (ρ' 0)) ((ρ' 5) / 4) ((ρ' 6) / 4) ∧ 1 ≤ (ρ' 6) / 4)
      rw [q0, h2, h3]
      rw [pz_41, pz_41]
      exact ⟨st.2.2, pz_strip_1 F90.2⟩
    rcases List.mem_cons.mp hx with e | hx
    · subst e
      refine (ax_XF_lt (x := 92) (by decide)).mpr ?_
      show pz_strip ((ρ' 2) / 4) = (ρ' 6) / 4
      rw [q2, h3]
      rw [pz_41]
    cases List.mem_singleton.mp hx
    refine (ax_XF_bi (o := 30) (by decide)).mpr (Or.inr ⟨rfl, ?_⟩)
    show ρ' 1 < ρ' 5
    rw [q1, h2]
    omega)
  exact ⟨(fun y hy => by cases hy), _, List.mem_cons_self, ρ', h1, h2⟩

theorem axq_ru6c4_0 : ax_RO ax_wC ax_XC axu_ru6c4_0 := by
  intro ρ hp hE hT
  have j0 : ρ 0 % 4 = 1 := pz_gj hE 0 (by decide) rfl
  have j1 : ρ 1 % 4 = 1 := pz_gj hE 1 (by decide) rfl
  have j2 : ρ 2 % 4 = 1 := pz_gj hE 2 (by decide) rfl
  obtain ⟨i3a, i3b, i3c, i3d⟩ := pz_gi hE 3 2147483648 2147483687 (by decide) rfl
  obtain ⟨i4a, i4b, i4c, i4d⟩ := pz_gi hE 4 0 4294967295 (by decide) rfl
  have c_units : ay_at hp 10 4 = some (ρ 3) := ay_gfj hE 50 16 15 10 4 (by decide) (by rw [ax_vl_c (by decide)]) (by rw [ax_vl_c (by decide)])
  have s1 : (ρ 3 / 4 + 2147483648) % 4294967296 + (4 / 4 + 2147483648) % 4294967296 = (ρ 4 / 4 + 2147483648) % 4294967296 + 2147483648 := pz_gs hE 15 4 19 (by decide)
  obtain ⟨-, -, -, -, F50⟩ : ay_ex hp 8 ∧ ay_ex hp 10 ∧ ay_ex hp 11 ∧ ay_ex hp 12 ∧ pz_x50 (ρ 0) (ρ 1) (ay_at hp 8 5) (ay_at hp 8 6) (ay_at hp 8 7) (ay_at hp 8 8) (ay_at hp 10 0) (ay_at hp 10 1) (ay_at hp 10 2) (ay_at hp 10 3) (ay_at hp 10 4) (ay_at hp 8 9) (ay_at hp 8 11) (ay_at hp 8 10) (ay_at hp 8 3) (ay_at hp 8 4) (ay_at hp 11) (ay_at hp 12) := (ax_XF_lt (by decide)).mp (ax_gx hE (50, [3, 7]) (by decide))
  rw [c_units] at F50
  have F78 : pz7 (pz_gt (ρ 0)) (pz_gN (ρ 0)) ((ρ 1) / 4) 8 := (ax_XF_lt (by decide)).mp (ax_gx hE (78, [3, 7]) (by decide))
  have F107 : pz107 (pz_gt (ρ 0)) (pz_gN (ρ 0)) ((ρ 1) / 4) ((16) / 4) := (ax_XF_lt (by decide)).mp (ax_gx hE (107, [3, 7, 16]) (by decide))
  have F90 : (pz90 (pz_gt (ρ 0)) (pz_gN (ρ 0)) ((ρ 1) / 4) ((ρ 2) / 4) ∧ 1 ≤ (ρ 2) / 4) := (ax_XF_lt (by decide)).mp (ax_gx hE (90, [3, 7, 11]) (by decide))
  have F91 : pz_dp ((ρ 2) / 4) = (0) / 4 := (ax_XF_lt (by decide)).mp (ax_gx hE (91, [11, 0]) (by decide))
  have st := pq_ru6u F50 F78 F107 (by decide) (by decide) F90.1 (by rw [F91]; decide) (show ρ 3 / 4 ≤ 39 by omega)
  obtain ⟨ρ', h1, h2⟩ := pz_pn2 (K := ρ 1 / 4 + 1) (L := pz_strip (ρ 2 / 4)) (xf := [(553, [50, 16, 19, 3, 23]), (79, [3, 23]), (90, [3, 23, 27]), (92, [11, 27]), (1030, [7, 23])]) hE (by decide) (fun ρ' h1 h2 h3 x hx => by
    have q0 : ρ' 0 = ρ 0 := h1 0 (by decide)
    have q1 : ρ' 1 = ρ 1 := h1 1 (by decide)
    have q2 : ρ' 2 = ρ 2 := h1 2 (by decide)
    have q3 : ρ' 3 = ρ 3 := h1 3 (by decide)
    have q4 : ρ' 4 = ρ 4 := h1 4 (by decide)
    rcases List.mem_cons.mp hx with e | hx
    · subst e
      refine (ax_XF_wr (x := 53) (by decide)).mpr ?_
      show ay_ex (ax_upd hp 50 (16) (ρ' 4)) 8 ∧ ay_ex (ax_upd hp 50 (16) (ρ' 4)) 10 ∧ ay_ex (ax_upd hp 50 (16) (ρ' 4)) 11 ∧ ay_ex (ax_upd hp 50 (16) (ρ' 4)) 12 ∧ pz_x53 (ρ' 0) (ρ' 5) (ay_at (ax_upd hp 50 (16) (ρ' 4)) 8 5) (ay_at (ax_upd hp 50 (16) (ρ' 4)) 10 0) (ay_at (ax_upd hp 50 (16) (ρ' 4)) 10 1) (ay_at (ax_upd hp 50 (16) (ρ' 4)) 10 2) (ay_at (ax_upd hp 50 (16) (ρ' 4)) 10 3) (ay_at (ax_upd hp 50 (16) (ρ' 4)) 10 4) (ay_at (ax_upd hp 50 (16) (ρ' 4)) 8 9) (ay_at (ax_upd hp 50 (16) (ρ' 4)) 8 11) (ay_at (ax_upd hp 50 (16) (ρ' 4)) 8 10) (ay_at (ax_upd hp 50 (16) (ρ' 4)) 8 3) (ay_at (ax_upd hp 50 (16) (ρ' 4)) 8 4) (ay_at (ax_upd hp 50 (16) (ρ' 4)) 11) (ay_at (ax_upd hp 50 (16) (ρ' 4)) 12)
      rw [q0, q4, h2]
      obtain ⟨o0, ho0⟩ := ay_some hT (q := 10) (g := 1) (n := 12) rfl rfl (j := 16 / 4) (by decide)
      have u1 : ∀ q, q ≠ 10 → ay_at (ax_upd hp 50 16 (ρ 4)) q = ay_at hp q := fun q hq => funext (fun j => ay_upd_ne hT.1 hq j)
      have u2 : ∀ j, ay_at (ax_upd hp 50 16 (ρ 4)) 10 j = if j = 4 then some (ρ 4) else ay_at hp 10 j := fun j => ay_upd_eq hT.1 rfl ho0 j
      refine ⟨ay_ex_upd hT.1 (ax_cellT hT (q := 8) (g := 2) rfl), ay_ex_upd hT.1 (ax_cellT hT (q := 10) (g := 1) rfl), ay_ex_upd hT.1 (ax_cellT hT (q := 11) (g := 14) rfl), ay_ex_upd hT.1 (ax_cellT hT (q := 12) (g := 15) rfl), ?_⟩
      rw [u1 8 (by decide), u2 0, if_neg (show ¬ 0 = 4 by decide), u2 1, if_neg (show ¬ 1 = 4 by decide), u2 2, if_neg (show ¬ 2 = 4 by decide), u2 3, if_neg (show ¬ 3 = 4 by decide), u2 4, if_pos rfl, u1 11 (by decide), u1 12 (by decide)]
      have eu : ρ 4 / 4 = ρ 3 / 4 + 1 := by omega
      refine pz_53 (pz_41 _) rfl ?_
      show pz53 _ _ _ _ _ _ _ _ (ρ 4 / 4) _ _ _ _ _ _ _
      rw [eu]
      exact st.1
    rcases List.mem_cons.mp hx with e | hx
    · subst e
      refine (ax_XF_lt (x := 79) (by decide)).mpr ?_
      show pz7 (pz_gt (ρ' 0)) (pz_gN (ρ' 0)) ((ρ' 5) / 4) 9
      rw [q0, h2]
      rw [pz_41]
      exact st.2.1
    rcases List.mem_cons.mp hx with e | hx
    · subst e
      refine (ax_XF_lt (x := 90) (by decide)).mpr ?_
      show (pz90 (pz_gt (ρ' 0)) (pz_gN (ρ' 0)) ((ρ' 5) / 4) ((ρ' 6) / 4) ∧ 1 ≤ (ρ' 6) / 4)
      rw [q0, h2, h3]
      rw [pz_41, pz_41]
      exact ⟨st.2.2, pz_strip_1 F90.2⟩
    rcases List.mem_cons.mp hx with e | hx
    · subst e
      refine (ax_XF_lt (x := 92) (by decide)).mpr ?_
      show pz_strip ((ρ' 2) / 4) = (ρ' 6) / 4
      rw [q2, h3]
      rw [pz_41]
    cases List.mem_singleton.mp hx
    refine (ax_XF_bi (o := 30) (by decide)).mpr (Or.inr ⟨rfl, ?_⟩)
    show ρ' 1 < ρ' 5
    rw [q1, h2]
    omega)
  exact ⟨(fun y hy => by cases hy), _, List.mem_cons_self, ρ', h1, h2⟩

theorem axq_ru6c5_0 : ax_RO ax_wC ax_XC axu_ru6c5_0 := by
  intro ρ hp hE hT
  have j0 : ρ 0 % 4 = 1 := pz_gj hE 0 (by decide) rfl
  have j1 : ρ 1 % 4 = 1 := pz_gj hE 1 (by decide) rfl
  have j2 : ρ 2 % 4 = 1 := pz_gj hE 2 (by decide) rfl
  obtain ⟨i3a, i3b, i3c, i3d⟩ := pz_gi hE 3 2147483648 2147483687 (by decide) rfl
  obtain ⟨i4a, i4b, i4c, i4d⟩ := pz_gi hE 4 0 4294967295 (by decide) rfl
  have c_units : ay_at hp 10 4 = some (ρ 3) := ay_gfj hE 50 16 15 10 4 (by decide) (by rw [ax_vl_c (by decide)]) (by rw [ax_vl_c (by decide)])
  have s1 : (ρ 3 / 4 + 2147483648) % 4294967296 + (4 / 4 + 2147483648) % 4294967296 = (ρ 4 / 4 + 2147483648) % 4294967296 + 2147483648 := pz_gs hE 15 4 19 (by decide)
  obtain ⟨-, -, -, -, F50⟩ : ay_ex hp 8 ∧ ay_ex hp 10 ∧ ay_ex hp 11 ∧ ay_ex hp 12 ∧ pz_x50 (ρ 0) (ρ 1) (ay_at hp 8 5) (ay_at hp 8 6) (ay_at hp 8 7) (ay_at hp 8 8) (ay_at hp 10 0) (ay_at hp 10 1) (ay_at hp 10 2) (ay_at hp 10 3) (ay_at hp 10 4) (ay_at hp 8 9) (ay_at hp 8 11) (ay_at hp 8 10) (ay_at hp 8 3) (ay_at hp 8 4) (ay_at hp 11) (ay_at hp 12) := (ax_XF_lt (by decide)).mp (ax_gx hE (50, [3, 7]) (by decide))
  rw [c_units] at F50
  have F78 : pz7 (pz_gt (ρ 0)) (pz_gN (ρ 0)) ((ρ 1) / 4) 8 := (ax_XF_lt (by decide)).mp (ax_gx hE (78, [3, 7]) (by decide))
  have F107 : pz107 (pz_gt (ρ 0)) (pz_gN (ρ 0)) ((ρ 1) / 4) ((20) / 4) := (ax_XF_lt (by decide)).mp (ax_gx hE (107, [3, 7, 20]) (by decide))
  have F90 : (pz90 (pz_gt (ρ 0)) (pz_gN (ρ 0)) ((ρ 1) / 4) ((ρ 2) / 4) ∧ 1 ≤ (ρ 2) / 4) := (ax_XF_lt (by decide)).mp (ax_gx hE (90, [3, 7, 11]) (by decide))
  have F91 : pz_dp ((ρ 2) / 4) = (0) / 4 := (ax_XF_lt (by decide)).mp (ax_gx hE (91, [11, 0]) (by decide))
  have st := pq_ru6m F50 F78 F107 F90.1 (by rw [F91]; decide) (show ρ 3 / 4 ≤ 39 by omega)
  obtain ⟨ρ', h1, h2⟩ := pz_pn2 (K := ρ 1 / 4 + 1) (L := 2 * (ρ 2 / 4) + 1) (xf := [(553, [50, 16, 19, 3, 23]), (78, [3, 23]), (90, [3, 23, 27]), (108, [11, 27]), (91, [27, 4]), (1030, [7, 23])]) hE (by decide) (fun ρ' h1 h2 h3 x hx => by
    have q0 : ρ' 0 = ρ 0 := h1 0 (by decide)
    have q1 : ρ' 1 = ρ 1 := h1 1 (by decide)
    have q2 : ρ' 2 = ρ 2 := h1 2 (by decide)
    have q3 : ρ' 3 = ρ 3 := h1 3 (by decide)
    have q4 : ρ' 4 = ρ 4 := h1 4 (by decide)
    rcases List.mem_cons.mp hx with e | hx
    · subst e
      refine (ax_XF_wr (x := 53) (by decide)).mpr ?_
      show ay_ex (ax_upd hp 50 (16) (ρ' 4)) 8 ∧ ay_ex (ax_upd hp 50 (16) (ρ' 4)) 10 ∧ ay_ex (ax_upd hp 50 (16) (ρ' 4)) 11 ∧ ay_ex (ax_upd hp 50 (16) (ρ' 4)) 12 ∧ pz_x53 (ρ' 0) (ρ' 5) (ay_at (ax_upd hp 50 (16) (ρ' 4)) 8 5) (ay_at (ax_upd hp 50 (16) (ρ' 4)) 10 0) (ay_at (ax_upd hp 50 (16) (ρ' 4)) 10 1) (ay_at (ax_upd hp 50 (16) (ρ' 4)) 10 2) (ay_at (ax_upd hp 50 (16) (ρ' 4)) 10 3) (ay_at (ax_upd hp 50 (16) (ρ' 4)) 10 4) (ay_at (ax_upd hp 50 (16) (ρ' 4)) 8 9) (ay_at (ax_upd hp 50 (16) (ρ' 4)) 8 11) (ay_at (ax_upd hp 50 (16) (ρ' 4)) 8 10) (ay_at (ax_upd hp 50 (16) (ρ' 4)) 8 3) (ay_at (ax_upd hp 50 (16) (ρ' 4)) 8 4) (ay_at (ax_upd hp 50 (16) (ρ' 4)) 11) (ay_at (ax_upd hp 50 (16) (ρ' 4)) 12)
      rw [q0, q4, h2]
      obtain ⟨o0, ho0⟩ := ay_some hT (q := 10) (g := 1) (n := 12) rfl rfl (j := 16 / 4) (by decide)
      have u1 : ∀ q, q ≠ 10 → ay_at (ax_upd hp 50 16 (ρ 4)) q = ay_at hp q := fun q hq => funext (fun j => ay_upd_ne hT.1 hq j)
      have u2 : ∀ j, ay_at (ax_upd hp 50 16 (ρ 4)) 10 j = if j = 4 then some (ρ 4) else ay_at hp 10 j := fun j => ay_upd_eq hT.1 rfl ho0 j
      refine ⟨ay_ex_upd hT.1 (ax_cellT hT (q := 8) (g := 2) rfl), ay_ex_upd hT.1 (ax_cellT hT (q := 10) (g := 1) rfl), ay_ex_upd hT.1 (ax_cellT hT (q := 11) (g := 14) rfl), ay_ex_upd hT.1 (ax_cellT hT (q := 12) (g := 15) rfl), ?_⟩
      rw [u1 8 (by decide), u2 0, if_neg (show ¬ 0 = 4 by decide), u2 1, if_neg (show ¬ 1 = 4 by decide), u2 2, if_neg (show ¬ 2 = 4 by decide), u2 3, if_neg (show ¬ 3 = 4 by decide), u2 4, if_pos rfl, u1 11 (by decide), u1 12 (by decide)]
      have eu : ρ 4 / 4 = ρ 3 / 4 + 1 := by omega
      refine pz_53 (pz_41 _) rfl ?_
      show pz53 _ _ _ _ _ _ _ _ (ρ 4 / 4) _ _ _ _ _ _ _
      rw [eu]
      exact st.1
    rcases List.mem_cons.mp hx with e | hx
    · subst e
      refine (ax_XF_lt (x := 78) (by decide)).mpr ?_
      show pz7 (pz_gt (ρ' 0)) (pz_gN (ρ' 0)) ((ρ' 5) / 4) 8
      rw [q0, h2]
      rw [pz_41]
      exact st.2.1
    rcases List.mem_cons.mp hx with e | hx
    · subst e
      refine (ax_XF_lt (x := 90) (by decide)).mpr ?_
      show (pz90 (pz_gt (ρ' 0)) (pz_gN (ρ' 0)) ((ρ' 5) / 4) ((ρ' 6) / 4) ∧ 1 ≤ (ρ' 6) / 4)
      rw [q0, h2, h3]
      rw [pz_41, pz_41]
      exact ⟨st.2.2, by omega⟩
    rcases List.mem_cons.mp hx with e | hx
    · subst e
      refine (ax_XF_lt (x := 108) (by decide)).mpr ?_
      show ((ρ' 6) / 4 = 2 * ((ρ' 2) / 4) + 1 ∧ 1 ≤ (ρ' 2) / 4)
      rw [q2, h3]
      rw [pz_41]
      exact ⟨rfl, F90.2⟩
    rcases List.mem_cons.mp hx with e | hx
    · subst e
      refine (ax_XF_lt (x := 91) (by decide)).mpr ?_
      show pz_dp ((ρ' 6) / 4) = (4) / 4
      rw [h3]
      rw [pz_41, pz_dp_push F90.2 (Or.inr rfl), F91]
    cases List.mem_singleton.mp hx
    refine (ax_XF_bi (o := 30) (by decide)).mpr (Or.inr ⟨rfl, ?_⟩)
    show ρ' 1 < ρ' 5
    rw [q1, h2]
    omega)
  exact ⟨(fun y hy => by cases hy), _, List.mem_cons_self, ρ', h1, h2⟩

theorem axq_ru6c40_0 : ax_RO ax_wC ax_XC axu_ru6c40_0 := by
  intro ρ hp hE hT
  have j0 : ρ 0 % 4 = 1 := pz_gj hE 0 (by decide) rfl
  have j1 : ρ 1 % 4 = 1 := pz_gj hE 1 (by decide) rfl
  have j2 : ρ 2 % 4 = 1 := pz_gj hE 2 (by decide) rfl
  obtain ⟨i3a, i3b, i3c, i3d⟩ := pz_gi hE 3 2147483648 2147483687 (by decide) rfl
  obtain ⟨i4a, i4b, i4c, i4d⟩ := pz_gi hE 4 0 4294967295 (by decide) rfl
  have c_units : ay_at hp 10 4 = some (ρ 3) := ay_gfj hE 50 16 15 10 4 (by decide) (by rw [ax_vl_c (by decide)]) (by rw [ax_vl_c (by decide)])
  have s1 : (ρ 3 / 4 + 2147483648) % 4294967296 + (4 / 4 + 2147483648) % 4294967296 = (ρ 4 / 4 + 2147483648) % 4294967296 + 2147483648 := pz_gs hE 15 4 19 (by decide)
  obtain ⟨-, -, -, -, F50⟩ : ay_ex hp 8 ∧ ay_ex hp 10 ∧ ay_ex hp 11 ∧ ay_ex hp 12 ∧ pz_x50 (ρ 0) (ρ 1) (ay_at hp 8 5) (ay_at hp 8 6) (ay_at hp 8 7) (ay_at hp 8 8) (ay_at hp 10 0) (ay_at hp 10 1) (ay_at hp 10 2) (ay_at hp 10 3) (ay_at hp 10 4) (ay_at hp 8 9) (ay_at hp 8 11) (ay_at hp 8 10) (ay_at hp 8 3) (ay_at hp 8 4) (ay_at hp 11) (ay_at hp 12) := (ax_XF_lt (by decide)).mp (ax_gx hE (50, [3, 7]) (by decide))
  rw [c_units] at F50
  have F78 : pz7 (pz_gt (ρ 0)) (pz_gN (ρ 0)) ((ρ 1) / 4) 8 := (ax_XF_lt (by decide)).mp (ax_gx hE (78, [3, 7]) (by decide))
  have F107 : pz107 (pz_gt (ρ 0)) (pz_gN (ρ 0)) ((ρ 1) / 4) ((160) / 4) := (ax_XF_lt (by decide)).mp (ax_gx hE (107, [3, 7, 160]) (by decide))
  have F90 : (pz90 (pz_gt (ρ 0)) (pz_gN (ρ 0)) ((ρ 1) / 4) ((ρ 2) / 4) ∧ 1 ≤ (ρ 2) / 4) := (ax_XF_lt (by decide)).mp (ax_gx hE (90, [3, 7, 11]) (by decide))
  have F91 : pz_dp ((ρ 2) / 4) = (0) / 4 := (ax_XF_lt (by decide)).mp (ax_gx hE (91, [11, 0]) (by decide))
  have st := pq_ru6o F50 F78 F107 F90.1 (by rw [F91]; decide) (show ρ 3 / 4 ≤ 39 by omega)
  obtain ⟨ρ', h1, h2⟩ := pz_pn2 (K := ρ 1 / 4 + 1) (L := 2 * (ρ 2 / 4)) (xf := [(553, [50, 16, 19, 3, 23]), (78, [3, 23]), (90, [3, 23, 27]), (93, [27, 11]), (91, [27, 4]), (92, [27, 27]), (1030, [7, 23])]) hE (by decide) (fun ρ' h1 h2 h3 x hx => by
    have q0 : ρ' 0 = ρ 0 := h1 0 (by decide)
    have q1 : ρ' 1 = ρ 1 := h1 1 (by decide)
    have q2 : ρ' 2 = ρ 2 := h1 2 (by decide)
    have q3 : ρ' 3 = ρ 3 := h1 3 (by decide)
    have q4 : ρ' 4 = ρ 4 := h1 4 (by decide)
    rcases List.mem_cons.mp hx with e | hx
    · subst e
      refine (ax_XF_wr (x := 53) (by decide)).mpr ?_
      show ay_ex (ax_upd hp 50 (16) (ρ' 4)) 8 ∧ ay_ex (ax_upd hp 50 (16) (ρ' 4)) 10 ∧ ay_ex (ax_upd hp 50 (16) (ρ' 4)) 11 ∧ ay_ex (ax_upd hp 50 (16) (ρ' 4)) 12 ∧ pz_x53 (ρ' 0) (ρ' 5) (ay_at (ax_upd hp 50 (16) (ρ' 4)) 8 5) (ay_at (ax_upd hp 50 (16) (ρ' 4)) 10 0) (ay_at (ax_upd hp 50 (16) (ρ' 4)) 10 1) (ay_at (ax_upd hp 50 (16) (ρ' 4)) 10 2) (ay_at (ax_upd hp 50 (16) (ρ' 4)) 10 3) (ay_at (ax_upd hp 50 (16) (ρ' 4)) 10 4) (ay_at (ax_upd hp 50 (16) (ρ' 4)) 8 9) (ay_at (ax_upd hp 50 (16) (ρ' 4)) 8 11) (ay_at (ax_upd hp 50 (16) (ρ' 4)) 8 10) (ay_at (ax_upd hp 50 (16) (ρ' 4)) 8 3) (ay_at (ax_upd hp 50 (16) (ρ' 4)) 8 4) (ay_at (ax_upd hp 50 (16) (ρ' 4)) 11) (ay_at (ax_upd hp 50 (16) (ρ' 4)) 12)
      rw [q0, q4, h2]
      obtain ⟨o0, ho0⟩ := ay_some hT (q := 10) (g := 1) (n := 12) rfl rfl (j := 16 / 4) (by decide)
      have u1 : ∀ q, q ≠ 10 → ay_at (ax_upd hp 50 16 (ρ 4)) q = ay_at hp q := fun q hq => funext (fun j => ay_upd_ne hT.1 hq j)
      have u2 : ∀ j, ay_at (ax_upd hp 50 16 (ρ 4)) 10 j = if j = 4 then some (ρ 4) else ay_at hp 10 j := fun j => ay_upd_eq hT.1 rfl ho0 j
      refine ⟨ay_ex_upd hT.1 (ax_cellT hT (q := 8) (g := 2) rfl), ay_ex_upd hT.1 (ax_cellT hT (q := 10) (g := 1) rfl), ay_ex_upd hT.1 (ax_cellT hT (q := 11) (g := 14) rfl), ay_ex_upd hT.1 (ax_cellT hT (q := 12) (g := 15) rfl), ?_⟩
      rw [u1 8 (by decide), u2 0, if_neg (show ¬ 0 = 4 by decide), u2 1, if_neg (show ¬ 1 = 4 by decide), u2 2, if_neg (show ¬ 2 = 4 by decide), u2 3, if_neg (show ¬ 3 = 4 by decide), u2 4, if_pos rfl, u1 11 (by decide), u1 12 (by decide)]
      have eu : ρ 4 / 4 = ρ 3 / 4 + 1 := by omega
      refine pz_53 (pz_41 _) rfl ?_
      show pz53 _ _ _ _ _ _ _ _ (ρ 4 / 4) _ _ _ _ _ _ _
      rw [eu]
      exact st.1
    rcases List.mem_cons.mp hx with e | hx
    · subst e
      refine (ax_XF_lt (x := 78) (by decide)).mpr ?_
      show pz7 (pz_gt (ρ' 0)) (pz_gN (ρ' 0)) ((ρ' 5) / 4) 8
      rw [q0, h2]
      rw [pz_41]
      exact st.2.1
    rcases List.mem_cons.mp hx with e | hx
    · subst e
      refine (ax_XF_lt (x := 90) (by decide)).mpr ?_
      show (pz90 (pz_gt (ρ' 0)) (pz_gN (ρ' 0)) ((ρ' 5) / 4) ((ρ' 6) / 4) ∧ 1 ≤ (ρ' 6) / 4)
      rw [q0, h2, h3]
      rw [pz_41, pz_41]
      exact ⟨st.2.2, by have := F90.2; omega⟩
    rcases List.mem_cons.mp hx with e | hx
    · subst e
      refine (ax_XF_lt (x := 93) (by decide)).mpr ?_
      show (ρ' 6) / 4 = 2 * ((ρ' 2) / 4)
      rw [q2, h3]
      rw [pz_41]
    rcases List.mem_cons.mp hx with e | hx
    · subst e
      refine (ax_XF_lt (x := 91) (by decide)).mpr ?_
      show pz_dp ((ρ' 6) / 4) = (4) / 4
      rw [h3]
      rw [pz_41, pz_dp_push F90.2 (Or.inl rfl), F91]
    rcases List.mem_cons.mp hx with e | hx
    · subst e
      refine (ax_XF_lt (x := 92) (by decide)).mpr ?_
      show pz_strip ((ρ' 6) / 4) = (ρ' 6) / 4
      rw [h3]
      rw [pz_41]
      exact pz_strip_even (Or.inl (by omega))
    cases List.mem_singleton.mp hx
    refine (ax_XF_bi (o := 30) (by decide)).mpr (Or.inr ⟨rfl, ?_⟩)
    show ρ' 1 < ρ' 5
    rw [q1, h2]
    omega)
  exact ⟨(fun y hy => by cases hy), _, List.mem_cons_self, ρ', h1, h2⟩

theorem axq_ru6c1_1 : ax_RO ax_wC ax_XC axu_ru6c1_1 := by
  intro ρ hp hE hT
  have j0 : ρ 0 % 4 = 1 := pz_gj hE 0 (by decide) rfl
  have j1 : ρ 1 % 4 = 1 := pz_gj hE 1 (by decide) rfl
  have j2 : ρ 2 % 4 = 1 := pz_gj hE 2 (by decide) rfl
  obtain ⟨i3a, i3b, i3c, i3d⟩ := pz_gi hE 3 2147483648 2147483687 (by decide) rfl
  obtain ⟨i4a, i4b, i4c, i4d⟩ := pz_gi hE 4 0 4294967295 (by decide) rfl
  have c_units : ay_at hp 10 4 = some (ρ 3) := ay_gfj hE 50 16 15 10 4 (by decide) (by rw [ax_vl_c (by decide)]) (by rw [ax_vl_c (by decide)])
  have s1 : (ρ 3 / 4 + 2147483648) % 4294967296 + (4 / 4 + 2147483648) % 4294967296 = (ρ 4 / 4 + 2147483648) % 4294967296 + 2147483648 := pz_gs hE 15 4 19 (by decide)
  obtain ⟨-, -, -, -, F50⟩ : ay_ex hp 8 ∧ ay_ex hp 10 ∧ ay_ex hp 11 ∧ ay_ex hp 12 ∧ pz_x50 (ρ 0) (ρ 1) (ay_at hp 8 5) (ay_at hp 8 6) (ay_at hp 8 7) (ay_at hp 8 8) (ay_at hp 10 0) (ay_at hp 10 1) (ay_at hp 10 2) (ay_at hp 10 3) (ay_at hp 10 4) (ay_at hp 8 9) (ay_at hp 8 11) (ay_at hp 8 10) (ay_at hp 8 3) (ay_at hp 8 4) (ay_at hp 11) (ay_at hp 12) := (ax_XF_lt (by decide)).mp (ax_gx hE (50, [3, 7]) (by decide))
  rw [c_units] at F50
  have F78 : pz7 (pz_gt (ρ 0)) (pz_gN (ρ 0)) ((ρ 1) / 4) 8 := (ax_XF_lt (by decide)).mp (ax_gx hE (78, [3, 7]) (by decide))
  have F107 : pz107 (pz_gt (ρ 0)) (pz_gN (ρ 0)) ((ρ 1) / 4) ((4) / 4) := (ax_XF_lt (by decide)).mp (ax_gx hE (107, [3, 7, 4]) (by decide))
  have F90 : (pz90 (pz_gt (ρ 0)) (pz_gN (ρ 0)) ((ρ 1) / 4) ((ρ 2) / 4) ∧ 1 ≤ (ρ 2) / 4) := (ax_XF_lt (by decide)).mp (ax_gx hE (90, [3, 7, 11]) (by decide))
  have F91 : pz_dp ((ρ 2) / 4) = (4) / 4 := (ax_XF_lt (by decide)).mp (ax_gx hE (91, [11, 4]) (by decide))
  have st := pq_ru6u F50 F78 F107 (by decide) (by decide) F90.1 (by rw [F91]; decide) (show ρ 3 / 4 ≤ 39 by omega)
  obtain ⟨ρ', h1, h2⟩ := pz_pn2 (K := ρ 1 / 4 + 1) (L := pz_strip (ρ 2 / 4)) (xf := [(553, [50, 16, 19, 3, 23]), (79, [3, 23]), (90, [3, 23, 27]), (92, [11, 27]), (1030, [7, 23])]) hE (by decide) (fun ρ' h1 h2 h3 x hx => by
    have q0 : ρ' 0 = ρ 0 := h1 0 (by decide)
    have q1 : ρ' 1 = ρ 1 := h1 1 (by decide)
    have q2 : ρ' 2 = ρ 2 := h1 2 (by decide)
    have q3 : ρ' 3 = ρ 3 := h1 3 (by decide)
    have q4 : ρ' 4 = ρ 4 := h1 4 (by decide)
    rcases List.mem_cons.mp hx with e | hx
    · subst e
      refine (ax_XF_wr (x := 53) (by decide)).mpr ?_
      show ay_ex (ax_upd hp 50 (16) (ρ' 4)) 8 ∧ ay_ex (ax_upd hp 50 (16) (ρ' 4)) 10 ∧ ay_ex (ax_upd hp 50 (16) (ρ' 4)) 11 ∧ ay_ex (ax_upd hp 50 (16) (ρ' 4)) 12 ∧ pz_x53 (ρ' 0) (ρ' 5) (ay_at (ax_upd hp 50 (16) (ρ' 4)) 8 5) (ay_at (ax_upd hp 50 (16) (ρ' 4)) 10 0) (ay_at (ax_upd hp 50 (16) (ρ' 4)) 10 1) (ay_at (ax_upd hp 50 (16) (ρ' 4)) 10 2) (ay_at (ax_upd hp 50 (16) (ρ' 4)) 10 3) (ay_at (ax_upd hp 50 (16) (ρ' 4)) 10 4) (ay_at (ax_upd hp 50 (16) (ρ' 4)) 8 9) (ay_at (ax_upd hp 50 (16) (ρ' 4)) 8 11) (ay_at (ax_upd hp 50 (16) (ρ' 4)) 8 10) (ay_at (ax_upd hp 50 (16) (ρ' 4)) 8 3) (ay_at (ax_upd hp 50 (16) (ρ' 4)) 8 4) (ay_at (ax_upd hp 50 (16) (ρ' 4)) 11) (ay_at (ax_upd hp 50 (16) (ρ' 4)) 12)
      rw [q0, q4, h2]
      obtain ⟨o0, ho0⟩ := ay_some hT (q := 10) (g := 1) (n := 12) rfl rfl (j := 16 / 4) (by decide)
      have u1 : ∀ q, q ≠ 10 → ay_at (ax_upd hp 50 16 (ρ 4)) q = ay_at hp q := fun q hq => funext (fun j => ay_upd_ne hT.1 hq j)
      have u2 : ∀ j, ay_at (ax_upd hp 50 16 (ρ 4)) 10 j = if j = 4 then some (ρ 4) else ay_at hp 10 j := fun j => ay_upd_eq hT.1 rfl ho0 j
      refine ⟨ay_ex_upd hT.1 (ax_cellT hT (q := 8) (g := 2) rfl), ay_ex_upd hT.1 (ax_cellT hT (q := 10) (g := 1) rfl), ay_ex_upd hT.1 (ax_cellT hT (q := 11) (g := 14) rfl), ay_ex_upd hT.1 (ax_cellT hT (q := 12) (g := 15) rfl), ?_⟩
      rw [u1 8 (by decide), u2 0, if_neg (show ¬ 0 = 4 by decide), u2 1, if_neg (show ¬ 1 = 4 by decide), u2 2, if_neg (show ¬ 2 = 4 by decide), u2 3, if_neg (show ¬ 3 = 4 by decide), u2 4, if_pos rfl, u1 11 (by decide), u1 12 (by decide)]
      have eu : ρ 4 / 4 = ρ 3 / 4 + 1 := by omega
      refine pz_53 (pz_41 _) rfl ?_
      show pz53 _ _ _ _ _ _ _ _ (ρ 4 / 4) _ _ _ _ _ _ _
      rw [eu]
      exact st.1
    rcases List.mem_cons.mp hx with e | hx
    · subst e
      refine (ax_XF_lt (x := 79) (by decide)).mpr ?_
      show pz7 (pz_gt (ρ' 0)) (pz_gN (ρ' 0)) ((ρ' 5) / 4) 9
      rw [q0, h2]
      rw [pz_41]
      exact st.2.1
    rcases List.mem_cons.mp hx with e | hx
    · subst e
      refine (ax_XF_lt (x := 90) (by decide)).mpr ?_
      show (pz90 (pz_gt (ρ' 0)) (pz_gN (ρ' 0)) ((ρ' 5) / 4) ((ρ' 6) / 4) ∧ 1 ≤ (ρ' 6) / 4)
      rw [q0, h2, h3]
      rw [pz_41, pz_41]
      exact ⟨st.2.2, pz_strip_1 F90.2⟩
    rcases List.mem_cons.mp hx with e | hx
    · subst e
      refine (ax_XF_lt (x := 92) (by decide)).mpr ?_
      show pz_strip ((ρ' 2) / 4) = (ρ' 6) / 4
      rw [q2, h3]
      rw [pz_41]
    cases List.mem_singleton.mp hx
    refine (ax_XF_bi (o := 30) (by decide)).mpr (Or.inr ⟨rfl, ?_⟩)
    show ρ' 1 < ρ' 5
    rw [q1, h2]
    omega)
  exact ⟨(fun y hy => by cases hy), _, List.mem_cons_self, ρ', h1, h2⟩

theorem axq_ru6c2_1 : ax_RO ax_wC ax_XC axu_ru6c2_1 := by
  intro ρ hp hE hT
  have j0 : ρ 0 % 4 = 1 := pz_gj hE 0 (by decide) rfl
  have j1 : ρ 1 % 4 = 1 := pz_gj hE 1 (by decide) rfl
  have j2 : ρ 2 % 4 = 1 := pz_gj hE 2 (by decide) rfl
  obtain ⟨i3a, i3b, i3c, i3d⟩ := pz_gi hE 3 2147483648 2147483687 (by decide) rfl
  obtain ⟨i4a, i4b, i4c, i4d⟩ := pz_gi hE 4 0 4294967295 (by decide) rfl
  have c_units : ay_at hp 10 4 = some (ρ 3) := ay_gfj hE 50 16 15 10 4 (by decide) (by rw [ax_vl_c (by decide)]) (by rw [ax_vl_c (by decide)])
  have s1 : (ρ 3 / 4 + 2147483648) % 4294967296 + (4 / 4 + 2147483648) % 4294967296 = (ρ 4 / 4 + 2147483648) % 4294967296 + 2147483648 := pz_gs hE 15 4 19 (by decide)
  obtain ⟨-, -, -, -, F50⟩ : ay_ex hp 8 ∧ ay_ex hp 10 ∧ ay_ex hp 11 ∧ ay_ex hp 12 ∧ pz_x50 (ρ 0) (ρ 1) (ay_at hp 8 5) (ay_at hp 8 6) (ay_at hp 8 7) (ay_at hp 8 8) (ay_at hp 10 0) (ay_at hp 10 1) (ay_at hp 10 2) (ay_at hp 10 3) (ay_at hp 10 4) (ay_at hp 8 9) (ay_at hp 8 11) (ay_at hp 8 10) (ay_at hp 8 3) (ay_at hp 8 4) (ay_at hp 11) (ay_at hp 12) := (ax_XF_lt (by decide)).mp (ax_gx hE (50, [3, 7]) (by decide))
  rw [c_units] at F50
  have F78 : pz7 (pz_gt (ρ 0)) (pz_gN (ρ 0)) ((ρ 1) / 4) 8 := (ax_XF_lt (by decide)).mp (ax_gx hE (78, [3, 7]) (by decide))
  have F107 : pz107 (pz_gt (ρ 0)) (pz_gN (ρ 0)) ((ρ 1) / 4) ((8) / 4) := (ax_XF_lt (by decide)).mp (ax_gx hE (107, [3, 7, 8]) (by decide))
  have F90 : (pz90 (pz_gt (ρ 0)) (pz_gN (ρ 0)) ((ρ 1) / 4) ((ρ 2) / 4) ∧ 1 ≤ (ρ 2) / 4) := (ax_XF_lt (by decide)).mp (ax_gx hE (90, [3, 7, 11]) (by decide))
  have F91 : pz_dp ((ρ 2) / 4) = (4) / 4 := (ax_XF_lt (by decide)).mp (ax_gx hE (91, [11, 4]) (by decide))
  have st := pq_ru6u F50 F78 F107 (by decide) (by decide) F90.1 (by rw [F91]; decide) (show ρ 3 / 4 ≤ 39 by omega)
  obtain ⟨ρ', h1, h2⟩ := pz_pn2 (K := ρ 1 / 4 + 1) (L := pz_strip (ρ 2 / 4)) (xf := [(553, [50, 16, 19, 3, 23]), (79, [3, 23]), (90, [3, 23, 27]), (92, [11, 27]), (1030, [7, 23])]) hE (by decide) (fun ρ' h1 h2 h3 x hx => by
    have q0 : ρ' 0 = ρ 0 := h1 0 (by decide)
    have q1 : ρ' 1 = ρ 1 := h1 1 (by decide)
    have q2 : ρ' 2 = ρ 2 := h1 2 (by decide)
    have q3 : ρ' 3 = ρ 3 := h1 3 (by decide)
    have q4 : ρ' 4 = ρ 4 := h1 4 (by decide)
    rcases List.mem_cons.mp hx with e | hx
    · subst e
      refine (ax_XF_wr (x := 53) (by decide)).mpr ?_
      show ay_ex (ax_upd hp 50 (16) (ρ' 4)) 8 ∧ ay_ex (ax_upd hp 50 (16) (ρ' 4)) 10 ∧ ay_ex (ax_upd hp 50 (16) (ρ' 4)) 11 ∧ ay_ex (ax_upd hp 50 (16) (ρ' 4)) 12 ∧ pz_x53 (ρ' 0) (ρ' 5) (ay_at (ax_upd hp 50 (16) (ρ' 4)) 8 5) (ay_at (ax_upd hp 50 (16) (ρ' 4)) 10 0) (ay_at (ax_upd hp 50 (16) (ρ' 4)) 10 1) (ay_at (ax_upd hp 50 (16) (ρ' 4)) 10 2) (ay_at (ax_upd hp 50 (16) (ρ' 4)) 10 3) (ay_at (ax_upd hp 50 (16) (ρ' 4)) 10 4) (ay_at (ax_upd hp 50 (16) (ρ' 4)) 8 9) (ay_at (ax_upd hp 50 (16) (ρ' 4)) 8 11) (ay_at (ax_upd hp 50 (16) (ρ' 4)) 8 10) (ay_at (ax_upd hp 50 (16) (ρ' 4)) 8 3) (ay_at (ax_upd hp 50 (16) (ρ' 4)) 8 4) (ay_at (ax_upd hp 50 (16) (ρ' 4)) 11) (ay_at (ax_upd hp 50 (16) (ρ' 4)) 12)
      rw [q0, q4, h2]
      obtain ⟨o0, ho0⟩ := ay_some hT (q := 10) (g := 1) (n := 12) rfl rfl (j := 16 / 4) (by decide)
      have u1 : ∀ q, q ≠ 10 → ay_at (ax_upd hp 50 16 (ρ 4)) q = ay_at hp q := fun q hq => funext (fun j => ay_upd_ne hT.1 hq j)
      have u2 : ∀ j, ay_at (ax_upd hp 50 16 (ρ 4)) 10 j = if j = 4 then some (ρ 4) else ay_at hp 10 j := fun j => ay_upd_eq hT.1 rfl ho0 j
      refine ⟨ay_ex_upd hT.1 (ax_cellT hT (q := 8) (g := 2) rfl), ay_ex_upd hT.1 (ax_cellT hT (q := 10) (g := 1) rfl), ay_ex_upd hT.1 (ax_cellT hT (q := 11) (g := 14) rfl), ay_ex_upd hT.1 (ax_cellT hT (q := 12) (g := 15) rfl), ?_⟩
      rw [u1 8 (by decide), u2 0, if_neg (show ¬ 0 = 4 by decide), u2 1, if_neg (show ¬ 1 = 4 by decide), u2 2, if_neg (show ¬ 2 = 4 by decide), u2 3, if_neg (show ¬ 3 = 4 by decide), u2 4, if_pos rfl, u1 11 (by decide), u1 12 (by decide)]
      have eu : ρ 4 / 4 = ρ 3 / 4 + 1 := by omega
      refine pz_53 (pz_41 _) rfl ?_
      show pz53 _ _ _ _ _ _ _ _ (ρ 4 / 4) _ _ _ _ _ _ _
      rw [eu]
      exact st.1
    rcases List.mem_cons.mp hx with e | hx
    · subst e
      refine (ax_XF_lt (x := 79) (by decide)).mpr ?_
      show pz7 (pz_gt (ρ' 0)) (pz_gN (ρ' 0)) ((ρ' 5) / 4) 9
      rw [q0, h2]
      rw [pz_41]
      exact st.2.1
    rcases List.mem_cons.mp hx with e | hx
    · subst e
      refine (ax_XF_lt (x := 90) (by decide)).mpr ?_
      show (pz90 (pz_gt (ρ' 0)) (pz_gN (ρ' 0)) ((ρ' 5) / 4) ((ρ' 6) / 4) ∧ 1 ≤ (ρ' 6) / 4)
      rw [q0, h2, h3]
      rw [pz_41, pz_41]
      exact ⟨st.2.2, pz_strip_1 F90.2⟩
    rcases List.mem_cons.mp hx with e | hx
    · subst e
      refine (ax_XF_lt (x := 92) (by decide)).mpr ?_
      show pz_strip ((ρ' 2) / 4) = (ρ' 6) / 4
      rw [q2, h3]
      rw [pz_41]
    cases List.mem_singleton.mp hx
    refine (ax_XF_bi (o := 30) (by decide)).mpr (Or.inr ⟨rfl, ?_⟩)
    show ρ' 1 < ρ' 5
    rw [q1, h2]
    omega)
  exact ⟨(fun y hy => by cases hy), _, List.mem_cons_self, ρ', h1, h2⟩

theorem axq_ru6c3_1 : ax_RO ax_wC ax_XC axu_ru6c3_1 := by
  intro ρ hp hE hT
  have j0 : ρ 0 % 4 = 1 := pz_gj hE 0 (by decide) rfl
  have j1 : ρ 1 % 4 = 1 := pz_gj hE 1 (by decide) rfl
  have j2 : ρ 2 % 4 = 1 := pz_gj hE 2 (by decide) rfl
  obtain ⟨i3a, i3b, i3c, i3d⟩ := pz_gi hE 3 2147483648 2147483687 (by decide) rfl
  obtain ⟨i4a, i4b, i4c, i4d⟩ := pz_gi hE 4 0 4294967295 (by decide) rfl
  have c_units : ay_at hp 10 4 = some (ρ 3) := ay_gfj hE 50 16 15 10 4 (by decide) (by rw [ax_vl_c (by decide)]) (by rw [ax_vl_c (by decide)])
  have s1 : (ρ 3 / 4 + 2147483648) % 4294967296 + (4 / 4 + 2147483648) % 4294967296 = (ρ 4 / 4 + 2147483648) % 4294967296 + 2147483648 := pz_gs hE 15 4 19 (by decide)
  obtain ⟨-, -, -, -, F50⟩ : ay_ex hp 8 ∧ ay_ex hp 10 ∧ ay_ex hp 11 ∧ ay_ex hp 12 ∧ pz_x50 (ρ 0) (ρ 1) (ay_at hp 8 5) (ay_at hp 8 6) (ay_at hp 8 7) (ay_at hp 8 8) (ay_at hp 10 0) (ay_at hp 10 1) (ay_at hp 10 2) (ay_at hp 10 3) (ay_at hp 10 4) (ay_at hp 8 9) (ay_at hp 8 11) (ay_at hp 8 10) (ay_at hp 8 3) (ay_at hp 8 4) (ay_at hp 11) (ay_at hp 12) := (ax_XF_lt (by decide)).mp (ax_gx hE (50, [3, 7]) (by decide))
  rw [c_units] at F50
  have F78 : pz7 (pz_gt (ρ 0)) (pz_gN (ρ 0)) ((ρ 1) / 4) 8 := (ax_XF_lt (by decide)).mp (ax_gx hE (78, [3, 7]) (by decide))
  have F107 : pz107 (pz_gt (ρ 0)) (pz_gN (ρ 0)) ((ρ 1) / 4) ((12) / 4) := (ax_XF_lt (by decide)).mp (ax_gx hE (107, [3, 7, 12]) (by decide))
  have F90 : (pz90 (pz_gt (ρ 0)) (pz_gN (ρ 0)) ((ρ 1) / 4) ((ρ 2) / 4) ∧ 1 ≤ (ρ 2) / 4) := (ax_XF_lt (by decide)).mp (ax_gx hE (90, [3, 7, 11]) (by decide))
  have F91 : pz_dp ((ρ 2) / 4) = (4) / 4 := (ax_XF_lt (by decide)).mp (ax_gx hE (91, [11, 4]) (by decide))
  have st := pq_ru6u F50 F78 F107 (by decide) (by decide) F90.1 (by rw [F91]; decide) (show ρ 3 / 4 ≤ 39 by omega)
  obtain ⟨ρ', h1, h2⟩ := pz_pn2 (K := ρ 1 / 4 + 1) (L := pz_strip (ρ 2 / 4)) (xf := [(553, [50, 16, 19, 3, 23]), (79, [3, 23]), (90, [3, 23, 27]), (92, [11, 27]), (1030, [7, 23])]) hE (by decide) (fun ρ' h1 h2 h3 x hx => by
    have q0 : ρ' 0 = ρ 0 := h1 0 (by decide)
    have q1 : ρ' 1 = ρ 1 := h1 1 (by decide)
    have q2 : ρ' 2 = ρ 2 := h1 2 (by decide)
    have q3 : ρ' 3 = ρ 3 := h1 3 (by decide)
    have q4 : ρ' 4 = ρ 4 := h1 4 (by decide)
    rcases List.mem_cons.mp hx with e | hx
    · subst e
      refine (ax_XF_wr (x := 53) (by decide)).mpr ?_
      show ay_ex (ax_upd hp 50 (16) (ρ' 4)) 8 ∧ ay_ex (ax_upd hp 50 (16) (ρ' 4)) 10 ∧ ay_ex (ax_upd hp 50 (16) (ρ' 4)) 11 ∧ ay_ex (ax_upd hp 50 (16) (ρ' 4)) 12 ∧ pz_x53 (ρ' 0) (ρ' 5) (ay_at (ax_upd hp 50 (16) (ρ' 4)) 8 5) (ay_at (ax_upd hp 50 (16) (ρ' 4)) 10 0) (ay_at (ax_upd hp 50 (16) (ρ' 4)) 10 1) (ay_at (ax_upd hp 50 (16) (ρ' 4)) 10 2) (ay_at (ax_upd hp 50 (16) (ρ' 4)) 10 3) (ay_at (ax_upd hp 50 (16) (ρ' 4)) 10 4) (ay_at (ax_upd hp 50 (16) (ρ' 4)) 8 9) (ay_at (ax_upd hp 50 (16) (ρ' 4)) 8 11) (ay_at (ax_upd hp 50 (16) (ρ' 4)) 8 10) (ay_at (ax_upd hp 50 (16) (ρ' 4)) 8 3) (ay_at (ax_upd hp 50 (16) (ρ' 4)) 8 4) (ay_at (ax_upd hp 50 (16) (ρ' 4)) 11) (ay_at (ax_upd hp 50 (16) (ρ' 4)) 12)
      rw [q0, q4, h2]
      obtain ⟨o0, ho0⟩ := ay_some hT (q := 10) (g := 1) (n := 12) rfl rfl (j := 16 / 4) (by decide)
      have u1 : ∀ q, q ≠ 10 → ay_at (ax_upd hp 50 16 (ρ 4)) q = ay_at hp q := fun q hq => funext (fun j => ay_upd_ne hT.1 hq j)
      have u2 : ∀ j, ay_at (ax_upd hp 50 16 (ρ 4)) 10 j = if j = 4 then some (ρ 4) else ay_at hp 10 j := fun j => ay_upd_eq hT.1 rfl ho0 j
      refine ⟨ay_ex_upd hT.1 (ax_cellT hT (q := 8) (g := 2) rfl), ay_ex_upd hT.1 (ax_cellT hT (q := 10) (g := 1) rfl), ay_ex_upd hT.1 (ax_cellT hT (q := 11) (g := 14) rfl), ay_ex_upd hT.1 (ax_cellT hT (q := 12) (g := 15) rfl), ?_⟩
      rw [u1 8 (by decide), u2 0, if_neg (show ¬ 0 = 4 by decide), u2 1, if_neg (show ¬ 1 = 4 by decide), u2 2, if_neg (show ¬ 2 = 4 by decide), u2 3, if_neg (show ¬ 3 = 4 by decide), u2 4, if_pos rfl, u1 11 (by decide), u1 12 (by decide)]
      have eu : ρ 4 / 4 = ρ 3 / 4 + 1 := by omega
      refine pz_53 (pz_41 _) rfl ?_
      show pz53 _ _ _ _ _ _ _ _ (ρ 4 / 4) _ _ _ _ _ _ _
      rw [eu]
      exact st.1
    rcases List.mem_cons.mp hx with e | hx
    · subst e
      refine (ax_XF_lt (x := 79) (by decide)).mpr ?_
      show pz7 (pz_gt (ρ' 0)) (pz_gN (ρ' 0)) ((ρ' 5) / 4) 9
      rw [q0, h2]
      rw [pz_41]
      exact st.2.1
    rcases List.mem_cons.mp hx with e | hx
    · subst e
      refine (ax_XF_lt (x := 90) (by decide)).mpr ?_
      show (pz90 (pz_gt (ρ' 0)) (pz_gN (ρ' 0)) ((ρ' 5) / 4) ((ρ' 6) / 4) ∧ 1 ≤ (ρ' 6) / 4)
      rw [q0, h2, h3]
      rw [pz_41, pz_41]
      exact ⟨st.2.2, pz_strip_1 F90.2⟩
    rcases List.mem_cons.mp hx with e | hx
    · subst e
      refine (ax_XF_lt (x := 92) (by decide)).mpr ?_
      show pz_strip ((ρ' 2) / 4) = (ρ' 6) / 4
      rw [q2, h3]
      rw [pz_41]
    cases List.mem_singleton.mp hx
    refine (ax_XF_bi (o := 30) (by decide)).mpr (Or.inr ⟨rfl, ?_⟩)
    show ρ' 1 < ρ' 5
    rw [q1, h2]
    omega)
  exact ⟨(fun y hy => by cases hy), _, List.mem_cons_self, ρ', h1, h2⟩

theorem axq_ru6c4_1 : ax_RO ax_wC ax_XC axu_ru6c4_1 := by
  intro ρ hp hE hT
  have j0 : ρ 0 % 4 = 1 := pz_gj hE 0 (by decide) rfl
  have j1 : ρ 1 % 4 = 1 := pz_gj hE 1 (by decide) rfl
  have j2 : ρ 2 % 4 = 1 := pz_gj hE 2 (by decide) rfl
  obtain ⟨i3a, i3b, i3c, i3d⟩ := pz_gi hE 3 2147483648 2147483687 (by decide) rfl
  obtain ⟨i4a, i4b, i4c, i4d⟩ := pz_gi hE 4 0 4294967295 (by decide) rfl
  have c_units : ay_at hp 10 4 = some (ρ 3) := ay_gfj hE 50 16 15 10 4 (by decide) (by rw [ax_vl_c (by decide)]) (by rw [ax_vl_c (by decide)])
  have s1 : (ρ 3 / 4 + 2147483648) % 4294967296 + (4 / 4 + 2147483648) % 4294967296 = (ρ 4 / 4 + 2147483648) % 4294967296 + 2147483648 := pz_gs hE 15 4 19 (by decide)
  obtain ⟨-, -, -, -, F50⟩ : ay_ex hp 8 ∧ ay_ex hp 10 ∧ ay_ex hp 11 ∧ ay_ex hp 12 ∧ pz_x50 (ρ 0) (ρ 1) (ay_at hp 8 5) (ay_at hp 8 6) (ay_at hp 8 7) (ay_at hp 8 8) (ay_at hp 10 0) (ay_at hp 10 1) (ay_at hp 10 2) (ay_at hp 10 3) (ay_at hp 10 4) (ay_at hp 8 9) (ay_at hp 8 11) (ay_at hp 8 10) (ay_at hp 8 3) (ay_at hp 8 4) (ay_at hp 11) (ay_at hp 12) := (ax_XF_lt (by decide)).mp (ax_gx hE (50, [3, 7]) (by decide))
  rw [c_units] at F50
  have F78 : pz7 (pz_gt (ρ 0)) (pz_gN (ρ 0)) ((ρ 1) / 4) 8 := (ax_XF_lt (by decide)).mp (ax_gx hE (78, [3, 7]) (by decide))
  have F107 : pz107 (pz_gt (ρ 0)) (pz_gN (ρ 0)) ((ρ 1) / 4) ((16) / 4) := (ax_XF_lt (by decide)).mp (ax_gx hE (107, [3, 7, 16]) (by decide))
  have F90 : (pz90 (pz_gt (ρ 0)) (pz_gN (ρ 0)) ((ρ 1) / 4) ((ρ 2) / 4) ∧ 1 ≤ (ρ 2) / 4) := (ax_XF_lt (by decide)).mp (ax_gx hE (90, [3, 7, 11]) (by decide))
  have F91 : pz_dp ((ρ 2) / 4) = (4) / 4 := (ax_XF_lt (by decide)).mp (ax_gx hE (91, [11, 4]) (by decide))
  have st := pq_ru6u F50 F78 F107 (by decide) (by decide) F90.1 (by rw [F91]; decide) (show ρ 3 / 4 ≤ 39 by omega)
  obtain ⟨ρ', h1, h2⟩ := pz_pn2 (K := ρ 1 / 4 + 1) (L := pz_strip (ρ 2 / 4)) (xf := [(553, [50, 16, 19, 3, 23]), (79, [3, 23]), (90, [3, 23, 27]), (92, [11, 27]), (1030, [7, 23])]) hE (by decide) (fun ρ' h1 h2 h3 x hx => by
    have q0 : ρ' 0 = ρ 0 := h1 0 (by decide)
    have q1 : ρ' 1 = ρ 1 := h1 1 (by decide)
    have q2 : ρ' 2 = ρ 2 := h1 2 (by decide)
    have q3 : ρ' 3 = ρ 3 := h1 3 (by decide)
    have q4 : ρ' 4 = ρ 4 := h1 4 (by decide)
    rcases List.mem_cons.mp hx with e | hx
    · subst e
      refine (ax_XF_wr (x := 53) (by decide)).mpr ?_
      show ay_ex (ax_upd hp 50 (16) (ρ' 4)) 8 ∧ ay_ex (ax_upd hp 50 (16) (ρ' 4)) 10 ∧ ay_ex (ax_upd hp 50 (16) (ρ' 4)) 11 ∧ ay_ex (ax_upd hp 50 (16) (ρ' 4)) 12 ∧ pz_x53 (ρ' 0) (ρ' 5) (ay_at (ax_upd hp 50 (16) (ρ' 4)) 8 5) (ay_at (ax_upd hp 50 (16) (ρ' 4)) 10 0) (ay_at (ax_upd hp 50 (16) (ρ' 4)) 10 1) (ay_at (ax_upd hp 50 (16) (ρ' 4)) 10 2) (ay_at (ax_upd hp 50 (16) (ρ' 4)) 10 3) (ay_at (ax_upd hp 50 (16) (ρ' 4)) 10 4) (ay_at (ax_upd hp 50 (16) (ρ' 4)) 8 9) (ay_at (ax_upd hp 50 (16) (ρ' 4)) 8 11) (ay_at (ax_upd hp 50 (16) (ρ' 4)) 8 10) (ay_at (ax_upd hp 50 (16) (ρ' 4)) 8 3) (ay_at (ax_upd hp 50 (16) (ρ' 4)) 8 4) (ay_at (ax_upd hp 50 (16) (ρ' 4)) 11) (ay_at (ax_upd hp 50 (16) (ρ' 4)) 12)
      rw [q0, q4, h2]
      obtain ⟨o0, ho0⟩ := ay_some hT (q := 10) (g := 1) (n := 12) rfl rfl (j := 16 / 4) (by decide)
      have u1 : ∀ q, q ≠ 10 → ay_at (ax_upd hp 50 16 (ρ 4)) q = ay_at hp q := fun q hq => funext (fun j => ay_upd_ne hT.1 hq j)
      have u2 : ∀ j, ay_at (ax_upd hp 50 16 (ρ 4)) 10 j = if j = 4 then some (ρ 4) else ay_at hp 10 j := fun j => ay_upd_eq hT.1 rfl ho0 j
      refine ⟨ay_ex_upd hT.1 (ax_cellT hT (q := 8) (g := 2) rfl), ay_ex_upd hT.1 (ax_cellT hT (q := 10) (g := 1) rfl), ay_ex_upd hT.1 (ax_cellT hT (q := 11) (g := 14) rfl), ay_ex_upd hT.1 (ax_cellT hT (q := 12) (g := 15) rfl), ?_⟩
      rw [u1 8 (by decide), u2 0, if_neg (show ¬ 0 = 4 by decide), u2 1, if_neg (show ¬ 1 = 4 by decide), u2 2, if_neg (show ¬ 2 = 4 by decide), u2 3, if_neg (show ¬ 3 = 4 by decide), u2 4, if_pos rfl, u1 11 (by decide), u1 12 (by decide)]
      have eu : ρ 4 / 4 = ρ 3 / 4 + 1 := by omega
      refine pz_53 (pz_41 _) rfl ?_
      show pz53 _ _ _ _ _ _ _ _ (ρ 4 / 4) _ _ _ _ _ _ _
      rw [eu]
      exact st.1
    rcases List.mem_cons.mp hx with e | hx
    · subst e
      refine (ax_XF_lt (x := 79) (by decide)).mpr ?_
      show pz7 (pz_gt (ρ' 0)) (pz_gN (ρ' 0)) ((ρ' 5) / 4) 9
      rw [q0, h2]
      rw [pz_41]
      exact st.2.1
    rcases List.mem_cons.mp hx with e | hx
    · subst e
      refine (ax_XF_lt (x := 90) (by decide)).mpr ?_
      show (pz90 (pz_gt (ρ' 0)) (pz_gN (ρ' 0)) ((ρ' 5) / 4) ((ρ' 6) / 4) ∧ 1 ≤ (ρ' 6) / 4)
      rw [q0, h2, h3]
      rw [pz_41, pz_41]
      exact ⟨st.2.2, pz_strip_1 F90.2⟩
    rcases List.mem_cons.mp hx with e | hx
    · subst e
      refine (ax_XF_lt (x := 92) (by decide)).mpr ?_
      show pz_strip ((ρ' 2) / 4) = (ρ' 6) / 4
      rw [q2, h3]
      rw [pz_41]
    cases List.mem_singleton.mp hx
    refine (ax_XF_bi (o := 30) (by decide)).mpr (Or.inr ⟨rfl, ?_⟩)
    show ρ' 1 < ρ' 5
    rw [q1, h2]
    omega)
  exact ⟨(fun y hy => by cases hy), _, List.mem_cons_self, ρ', h1, h2⟩

theorem axq_ru6c5_1 : ax_RO ax_wC ax_XC axu_ru6c5_1 := by
  intro ρ hp hE hT
  have j0 : ρ 0 % 4 = 1 := pz_gj hE 0 (by decide) rfl
  have j1 : ρ 1 % 4 = 1 := pz_gj hE 1 (by decide) rfl
  have j2 : ρ 2 % 4 = 1 := pz_gj hE 2 (by decide) rfl
  obtain ⟨i3a, i3b, i3c, i3d⟩ := pz_gi hE 3 2147483648 2147483687 (by decide) rfl
  obtain ⟨i4a, i4b, i4c, i4d⟩ := pz_gi hE 4 0 4294967295 (by decide) rfl
  have c_units : ay_at hp 10 4 = some (ρ 3) := ay_gfj hE 50 16 15 10 4 (by decide) (by rw [ax_vl_c (by decide)]) (by rw [ax_vl_c (by decide)])
  have s1 : (ρ 3 / 4 + 2147483648) % 4294967296 + (4 / 4 + 2147483648) % 4294967296 = (ρ 4 / 4 + 2147483648) % 4294967296 + 2147483648 := pz_gs hE 15 4 19 (by decide)
  obtain ⟨-, -, -, -, F50⟩ : ay_ex hp 8 ∧ ay_ex hp 10 ∧ ay_ex hp 11 ∧ ay_ex hp 12 ∧ pz_x50 (ρ 0) (ρ 1) (ay_at hp 8 5) (ay_at hp 8 6) (ay_at hp 8 7) (ay_at hp 8 8) (ay_at hp 10 0) (ay_at hp 10 1) (ay_at hp 10 2) (ay_at hp 10 3) (ay_at hp 10 4) (ay_at hp 8 9) (ay_at hp 8 11) (ay_at hp 8 10) (ay_at hp 8 3) (ay_at hp 8 4) (ay_at hp 11) (ay_at hp 12) := (ax_XF_lt (by decide)).mp (ax_gx hE (50, [3, 7]) (by decide))
  rw [c_units] at F50
  have F78 : pz7 (pz_gt (ρ 0)) (pz_gN (ρ 0)) ((ρ 1) / 4) 8 := (ax_XF_lt (by decide)).mp (ax_gx hE (78, [3, 7]) (by decide))
  have F107 : pz107 (pz_gt (ρ 0)) (pz_gN (ρ 0)) ((ρ 1) / 4) ((20) / 4) := (ax_XF_lt (by decide)).mp (ax_gx hE (107, [3, 7, 20]) (by decide))
  have F90 : (pz90 (pz_gt (ρ 0)) (pz_gN (ρ 0)) ((ρ 1) / 4) ((ρ 2) / 4) ∧ 1 ≤ (ρ 2) / 4) := (ax_XF_lt (by decide)).mp (ax_gx hE (90, [3, 7, 11]) (by decide))
  have F91 : pz_dp ((ρ 2) / 4) = (4) / 4 := (ax_XF_lt (by decide)).mp (ax_gx hE (91, [11, 4]) (by decide))
  have st := pq_ru6m F50 F78 F107 F90.1 (by rw [F91]; decide) (show ρ 3 / 4 ≤ 39 by omega)
  obtain ⟨ρ', h1, h2⟩ := pz_pn2 (K := ρ 1 / 4 + 1) (L := 2 * (ρ 2 / 4) + 1) (xf := [(553, [50, 16, 19, 3, 23]), (78, [3, 23]), (90, [3, 23, 27]), (108, [11, 27]), (91, [27, 8]), (1030, [7, 23])]) hE (by decide) (fun ρ' h1 h2 h3 x hx => by
    have q0 : ρ' 0 = ρ 0 := h1 0 (by decide)
    have q1 : ρ' 1 = ρ 1 := h1 1 (by decide)
    have q2 : ρ' 2 = ρ 2 := h1 2 (by decide)
    have q3 : ρ' 3 = ρ 3 := h1 3 (by decide)
    have q4 : ρ' 4 = ρ 4 := h1 4 (by decide)
    rcases List.mem_cons.mp hx with e | hx
    · subst e
      refine (ax_XF_wr (x := 53) (by decide)).mpr ?_
      show ay_ex (ax_upd hp 50 (16) (ρ' 4)) 8 ∧ ay_ex (ax_upd hp 50 (16) (ρ' 4)) 10 ∧ ay_ex (ax_upd hp 50 (16) (ρ' 4)) 11 ∧ ay_ex (ax_upd hp 50 (16) (ρ' 4)) 12 ∧ pz_x53 (ρ' 0) (ρ' 5) (ay_at (ax_upd hp 50 (16) (ρ' 4)) 8 5) (ay_at (ax_upd hp 50 (16) (ρ' 4)) 10 0) (ay_at (ax_upd hp 50 (16) (ρ' 4)) 10 1) (ay_at (ax_upd hp 50 (16) (ρ' 4)) 10 2) (ay_at (ax_upd hp 50 (16) (ρ' 4)) 10 3) (ay_at (ax_upd hp 50 (16) (ρ' 4)) 10 4) (ay_at (ax_upd hp 50 (16) (ρ' 4)) 8 9) (ay_at (ax_upd hp 50 (16) (ρ' 4)) 8 11) (ay_at (ax_upd hp 50 (16) (ρ' 4)) 8 10) (ay_at (ax_upd hp 50 (16) (ρ' 4)) 8 3) (ay_at (ax_upd hp 50 (16) (ρ' 4)) 8 4) (ay_at (ax_upd hp 50 (16) (ρ' 4)) 11) (ay_at (ax_upd hp 50 (16) (ρ' 4)) 12)
      rw [q0, q4, h2]
      obtain ⟨o0, ho0⟩ := ay_some hT (q := 10) (g := 1) (n := 12) rfl rfl (j := 16 / 4) (by decide)
      have u1 : ∀ q, q ≠ 10 → ay_at (ax_upd hp 50 16 (ρ 4)) q = ay_at hp q := fun q hq => funext (fun j => ay_upd_ne hT.1 hq j)
      have u2 : ∀ j, ay_at (ax_upd hp 50 16 (ρ 4)) 10 j = if j = 4 then some (ρ 4) else ay_at hp 10 j := fun j => ay_upd_eq hT.1 rfl ho0 j
      refine ⟨ay_ex_upd hT.1 (ax_cellT hT (q := 8) (g := 2) rfl), ay_ex_upd hT.1 (ax_cellT hT (q := 10) (g := 1) rfl), ay_ex_upd hT.1 (ax_cellT hT (q := 11) (g := 14) rfl), ay_ex_upd hT.1 (ax_cellT hT (q := 12) (g := 15) rfl), ?_⟩
      rw [u1 8 (by decide), u2 0, if_neg (show ¬ 0 = 4 by decide), u2 1, if_neg (show ¬ 1 = 4 by decide), u2 2, if_neg (show ¬ 2 = 4 by decide), u2 3, if_neg (show ¬ 3 = 4 by decide), u2 4, if_pos rfl, u1 11 (by decide), u1 12 (by decide)]
      have eu : ρ 4 / 4 = ρ 3 / 4 + 1 := by omega
      refine pz_53 (pz_41 _) rfl ?_
      show pz53 _ _ _ _ _ _ _ _ (ρ 4 / 4) _ _ _ _ _ _ _
      rw [eu]
      exact st.1
    rcases List.mem_cons.mp hx with e | hx
    · subst e
      refine (ax_XF_lt (x := 78) (by decide)).mpr ?_
      show pz7 (pz_gt (ρ' 0)) (pz_gN (ρ' 0)) ((ρ' 5) / 4) 8
      rw [q0, h2]
      rw [pz_41]
      exact st.2.1
    rcases List.mem_cons.mp hx with e | hx
    · subst e
      refine (ax_XF_lt (x := 90) (by decide)).mpr ?_
      show (pz90 (pz_gt (ρ' 0)) (pz_gN (ρ' 0)) ((ρ' 5) / 4) ((ρ' 6) / 4) ∧ 1 ≤ (ρ' 6) / 4)
      rw [q0, h2, h3]
      rw [pz_41, pz_41]
      exact ⟨st.2.2, by omega⟩
    rcases List.mem_cons.mp hx with e | hx
    · subst e
      refine (ax_XF_lt (x := 108) (by decide)).mpr ?_
      show ((ρ' 6) / 4 = 2 * ((ρ' 2) / 4) + 1 ∧ 1 ≤ (ρ' 2) / 4)
      rw [q2, h3]
      rw [pz_41]
      exact ⟨rfl, F90.2⟩
    rcases List.mem_cons.mp hx with e | hx
    · subst e
      refine (ax_XF_lt (x := 91) (by decide)).mpr ?_
      show pz_dp ((ρ' 6) / 4) = (8) / 4
      rw [h3]
      rw [pz_41, pz_dp_push F90.2 (Or.inr rfl), F91]
    cases List.mem_singleton.mp hx
    refine (ax_XF_bi (o := 30) (by decide)).mpr (Or.inr ⟨rfl, ?_⟩)
    show ρ' 1 < ρ' 5
    rw [q1, h2]
    omega)
  exact ⟨(fun y hy => by cases hy), _, List.mem_cons_self, ρ', h1, h2⟩

theorem axq_ru6c40_1 : ax_RO ax_wC ax_XC axu_ru6c40_1 := by
  intro ρ hp hE hT
  have j0 : ρ 0 % 4 = 1 := pz_gj hE 0 (by decide) rfl
  have j1 : ρ 1 % 4 = 1 := pz_gj hE 1 (by decide) rfl
  have j2 : ρ 2 % 4 = 1 := pz_gj hE 2 (by decide) rfl
  obtain ⟨i3a, i3b, i3c, i3d⟩ := pz_gi hE 3 2147483648 2147483687 (by decide) rfl
  obtain ⟨i4a, i4b, i4c, i4d⟩ := pz_gi hE 4 0 4294967295 (by decide) rfl
  have c_units : ay_at hp 10 4 = some (ρ 3) := ay_gfj hE 50 16 15 10 4 (by decide) (by rw [ax_vl_c (by decide)]) (by rw [ax_vl_c (by decide)])
  have s1 : (ρ 3 / 4 + 2147483648) % 4294967296 + (4 / 4 + 2147483648) % 4294967296 = (ρ 4 / 4 + 2147483648) % 4294967296 + 2147483648 := pz_gs hE 15 4 19 (by decide)
  obtain ⟨-, -, -, -, F50⟩ : ay_ex hp 8 ∧ ay_ex hp 10 ∧ ay_ex hp 11 ∧ ay_ex hp 12 ∧ pz_x50 (ρ 0) (ρ 1) (ay_at hp 8 5) (ay_at hp 8 6) (ay_at hp 8 7) (ay_at hp 8 8) (ay_at hp 10 0) (ay_at hp 10 1) (ay_at hp 10 2) (ay_at hp 10 3) (ay_at hp 10 4) (ay_at hp 8 9) (ay_at hp 8 11) (ay_at hp 8 10) (ay_at hp 8 3) (ay_at hp 8 4) (ay_at hp 11) (ay_at hp 12) := (ax_XF_lt (by decide)).mp (ax_gx hE (50, [3, 7]) (by decide))
  rw [c_units] at F50
  have F78 : pz7 (pz_gt (ρ 0)) (pz_gN (ρ 0)) ((ρ 1) / 4) 8 := (ax_XF_lt (by decide)).mp (ax_gx hE (78, [3, 7]) (by decide))
  have F107 : pz107 (pz_gt (ρ 0)) (pz_gN (ρ 0)) ((ρ 1) / 4) ((160) / 4) := (ax_XF_lt (by decide)).mp (ax_gx hE (107, [3, 7, 160]) (by decide))
  have F90 : (pz90 (pz_gt (ρ 0)) (pz_gN (ρ 0)) ((ρ 1) / 4) ((ρ 2) / 4) ∧ 1 ≤ (ρ 2) / 4) := (ax_XF_lt (by decide)).mp (ax_gx hE (90, [3, 7, 11]) (by decide))
  have F91 : pz_dp ((ρ 2) / 4) = (4) / 4 := (ax_XF_lt (by decide)).mp (ax_gx hE (91, [11, 4]) (by decide))
  have st := pq_ru6o F50 F78 F107 F90.1 (by rw [F91]; decide) (show ρ 3 / 4 ≤ 39 by omega)
  obtain ⟨ρ', h1, h2⟩ := pz_pn2 (K := ρ 1 / 4 + 1) (L := 2 * (ρ 2 / 4)) (xf := [(553, [50, 16, 19, 3, 23]), (78, [3, 23]), (90, [3, 23, 27]), (93, [27, 11]), (91, [27, 8]), (92, [27, 27]), (1030, [7, 23])]) hE (by decide) (fun ρ' h1 h2 h3 x hx => by
    have q0 : ρ' 0 = ρ 0 := h1 0 (by decide)
    have q1 : ρ' 1 = ρ 1 := h1 1 (by decide)
    have q2 : ρ' 2 = ρ 2 := h1 2 (by decide)
    have q3 : ρ' 3 = ρ 3 := h1 3 (by decide)
    have q4 : ρ' 4 = ρ 4 := h1 4 (by decide)
    rcases List.mem_cons.mp hx with e | hx
    · subst e
      refine (ax_XF_wr (x := 53) (by decide)).mpr ?_
      show ay_ex (ax_upd hp 50 (16) (ρ' 4)) 8 ∧ ay_ex (ax_upd hp 50 (16) (ρ' 4)) 10 ∧ ay_ex (ax_upd hp 50 (16) (ρ' 4)) 11 ∧ ay_ex (ax_upd hp 50 (16) (ρ' 4)) 12 ∧ pz_x53 (ρ' 0) (ρ' 5) (ay_at (ax_upd hp 50 (16) (ρ' 4)) 8 5) (ay_at (ax_upd hp 50 (16) (ρ' 4)) 10 0) (ay_at (ax_upd hp 50 (16) (ρ' 4)) 10 1) (ay_at (ax_upd hp 50 (16) (ρ' 4)) 10 2) (ay_at (ax_upd hp 50 (16) (ρ' 4)) 10 3) (ay_at (ax_upd hp 50 (16) (ρ' 4)) 10 4) (ay_at (ax_upd hp 50 (16) (ρ' 4)) 8 9) (ay_at (ax_upd hp 50 (16) (ρ' 4)) 8 11) (ay_at (ax_upd hp 50 (16) (ρ' 4)) 8 10) (ay_at (ax_upd hp 50 (16) (ρ' 4)) 8 3) (ay_at (ax_upd hp 50 (16) (ρ' 4)) 8 4) (ay_at (ax_upd hp 50 (16) (ρ' 4)) 11) (ay_at (ax_upd hp 50 (16) (ρ' 4)) 12)
      rw [q0, q4, h2]
      obtain ⟨o0, ho0⟩ := ay_some hT (q := 10) (g := 1) (n := 12) rfl rfl (j := 16 / 4) (by decide)
      have u1 : ∀ q, q ≠ 10 → ay_at (ax_upd hp 50 16 (ρ 4)) q = ay_at hp q := fun q hq => funext (fun j => ay_upd_ne hT.1 hq j)
      have u2 : ∀ j, ay_at (ax_upd hp 50 16 (ρ 4)) 10 j = if j = 4 then some (ρ 4) else ay_at hp 10 j := fun j => ay_upd_eq hT.1 rfl ho0 j
      refine ⟨ay_ex_upd hT.1 (ax_cellT hT (q := 8) (g := 2) rfl), ay_ex_upd hT.1 (ax_cellT hT (q := 10) (g := 1) rfl), ay_ex_upd hT.1 (ax_cellT hT (q := 11) (g := 14) rfl), ay_ex_upd hT.1 (ax_cellT hT (q := 12) (g := 15) rfl), ?_⟩
      rw [u1 8 (by decide), u2 0, if_neg (show ¬ 0 = 4 by decide), u2 1, if_neg (show ¬ 1 = 4 by decide), u2 2, if_neg (show ¬ 2 = 4 by decide), u2 3, if_neg (show ¬ 3 = 4 by decide), u2 4, if_pos rfl, u1 11 (by decide), u1 12 (by decide)]
      have eu : ρ 4 / 4 = ρ 3 / 4 + 1 := by omega
      refine pz_53 (pz_41 _) rfl ?_
      show pz53 _ _ _ _ _ _ _ _ (ρ 4 / 4) _ _ _ _ _ _ _
      rw [eu]
      exact st.1
    rcases List.mem_cons.mp hx with e | hx
    · subst e
      refine (ax_XF_lt (x := 78) (by decide)).mpr ?_
      show pz7 (pz_gt (ρ' 0)) (pz_gN (ρ' 0)) ((ρ' 5) / 4) 8
      rw [q0, h2]
      rw [pz_41]
      exact st.2.1
    rcases List.mem_cons.mp hx with e | hx
    · subst e
      refine (ax_XF_lt (x := 90) (by decide)).mpr ?_
      show (pz90 (pz_gt (ρ' 0)) (pz_gN (ρ' 0)) ((ρ' 5) / 4) ((ρ' 6) / 4) ∧ 1 ≤ (ρ' 6) / 4)
      rw [q0, h2, h3]
      rw [pz_41, pz_41]
      exact ⟨st.2.2, by have := F90.2; omega⟩
    rcases List.mem_cons.mp hx with e | hx
    · subst e
      refine (ax_XF_lt (x := 93) (by decide)).mpr ?_
      show (ρ' 6) / 4 = 2 * ((ρ' 2) / 4)
      rw [q2, h3]
      rw [pz_41]
    rcases List.mem_cons.mp hx with e | hx
    · subst e
      refine (ax_XF_lt (x := 91) (by decide)).mpr ?_
      show pz_dp ((ρ' 6) / 4) = (8) / 4
      rw [h3]
      rw [pz_41, pz_dp_push F90.2 (Or.inl rfl), F91]
    rcases List.mem_cons.mp hx with e | hx
    · subst e
      refine (ax_XF_lt (x := 92) (by decide)).mpr ?_
      show pz_strip ((ρ' 6) / 4) = (ρ' 6) / 4
      rw [h3]
      rw [pz_41]
      exact pz_strip_even (Or.inl (by omega))
    cases List.mem_singleton.mp hx
    refine (ax_XF_bi (o := 30) (by decide)).mpr (Or.inr ⟨rfl, ?_⟩)
    show ρ' 1 < ρ' 5
    rw [q1, h2]
    omega)
  exact ⟨(fun y hy => by cases hy), _, List.mem_cons_self, ρ', h1, h2⟩

theorem axq_ru6c1_2 : ax_RO ax_wC ax_XC axu_ru6c1_2 := by
  intro ρ hp hE hT
  have j0 : ρ 0 % 4 = 1 := pz_gj hE 0 (by decide) rfl
  have j1 : ρ 1 % 4 = 1 := pz_gj hE 1 (by decide) rfl
  have j2 : ρ 2 % 4 = 1 := pz_gj hE 2 (by decide) rfl
  obtain ⟨i3a, i3b, i3c, i3d⟩ := pz_gi hE 3 2147483648 2147483687 (by decide) rfl
  obtain ⟨i4a, i4b, i4c, i4d⟩ := pz_gi hE 4 0 4294967295 (by decide) rfl
  have c_units : ay_at hp 10 4 = some (ρ 3) := ay_gfj hE 50 16 15 10 4 (by decide) (by rw [ax_vl_c (by decide)]) (by rw [ax_vl_c (by decide)])
  have s1 : (ρ 3 / 4 + 2147483648) % 4294967296 + (4 / 4 + 2147483648) % 4294967296 = (ρ 4 / 4 + 2147483648) % 4294967296 + 2147483648 := pz_gs hE 15 4 19 (by decide)
  obtain ⟨-, -, -, -, F50⟩ : ay_ex hp 8 ∧ ay_ex hp 10 ∧ ay_ex hp 11 ∧ ay_ex hp 12 ∧ pz_x50 (ρ 0) (ρ 1) (ay_at hp 8 5) (ay_at hp 8 6) (ay_at hp 8 7) (ay_at hp 8 8) (ay_at hp 10 0) (ay_at hp 10 1) (ay_at hp 10 2) (ay_at hp 10 3) (ay_at hp 10 4) (ay_at hp 8 9) (ay_at hp 8 11) (ay_at hp 8 10) (ay_at hp 8 3) (ay_at hp 8 4) (ay_at hp 11) (ay_at hp 12) := (ax_XF_lt (by decide)).mp (ax_gx hE (50, [3, 7]) (by decide))
  rw [c_units] at F50
  have F78 : pz7 (pz_gt (ρ 0)) (pz_gN (ρ 0)) ((ρ 1) / 4) 8 := (ax_XF_lt (by decide)).mp (ax_gx hE (78, [3, 7]) (by decide))
  have F107 : pz107 (pz_gt (ρ 0)) (pz_gN (ρ 0)) ((ρ 1) / 4) ((4) / 4) := (ax_XF_lt (by decide)).mp (ax_gx hE (107, [3, 7, 4]) (by decide))
  have F90 : (pz90 (pz_gt (ρ 0)) (pz_gN (ρ 0)) ((ρ 1) / 4) ((ρ 2) / 4) ∧ 1 ≤ (ρ 2) / 4) := (ax_XF_lt (by decide)).mp (ax_gx hE (90, [3, 7, 11]) (by decide))
  have F91 : pz_dp ((ρ 2) / 4) = (8) / 4 := (ax_XF_lt (by decide)).mp (ax_gx hE (91, [11, 8]) (by decide))
  have st := pq_ru6u F50 F78 F107 (by decide) (by decide) F90.1 (by rw [F91]; decide) (show ρ 3 / 4 ≤ 39 by omega)
  obtain ⟨ρ', h1, h2⟩ := pz_pn2 (K := ρ 1 / 4 + 1) (L := pz_strip (ρ 2 / 4)) (xf := [(553, [50, 16, 19, 3, 23]), (79, [3, 23]), (90, [3, 23, 27]), (92, [11, 27]), (1030, [7, 23])]) hE (by decide) (fun ρ' h1 h2 h3 x hx => by
    have q0 : ρ' 0 = ρ 0 := h1 0 (by decide)
    have q1 : ρ' 1 = ρ 1 := h1 1 (by decide)
    have q2 : ρ' 2 = ρ 2 := h1 2 (by decide)
    have q3 : ρ' 3 = ρ 3 := h1 3 (by decide)
    have q4 : ρ' 4 = ρ 4 := h1 4 (by decide)
    rcases List.mem_cons.mp hx with e | hx
    · subst e
      refine (ax_XF_wr (x := 53) (by decide)).mpr ?_
      show ay_ex (ax_upd hp 50 (16) (ρ' 4)) 8 ∧ ay_ex (ax_upd hp 50 (16) (ρ' 4)) 10 ∧ ay_ex (ax_upd hp 50 (16) (ρ' 4)) 11 ∧ ay_ex (ax_upd hp 50 (16) (ρ' 4)) 12 ∧ pz_x53 (ρ' 0) (ρ' 5) (ay_at (ax_upd hp 50 (16) (ρ' 4)) 8 5) (ay_at (ax_upd hp 50 (16) (ρ' 4)) 10 0) (ay_at (ax_upd hp 50 (16) (ρ' 4)) 10 1) (ay_at (ax_upd hp 50 (16) (ρ' 4)) 10 2) (ay_at (ax_upd hp 50 (16) (ρ' 4)) 10 3) (ay_at (ax_upd hp 50 (16) (ρ' 4)) 10 4) (ay_at (ax_upd hp 50 (16) (ρ' 4)) 8 9) (ay_at (ax_upd hp 50 (16) (ρ' 4)) 8 11) (ay_at (ax_upd hp 50 (16) (ρ' 4)) 8 10) (ay_at (ax_upd hp 50 (16) (ρ' 4)) 8 3) (ay_at (ax_upd hp 50 (16) (ρ' 4)) 8 4) (ay_at (ax_upd hp 50 (16) (ρ' 4)) 11) (ay_at (ax_upd hp 50 (16) (ρ' 4)) 12)
      rw [q0, q4, h2]
      obtain ⟨o0, ho0⟩ := ay_some hT (q := 10) (g := 1) (n := 12) rfl rfl (j := 16 / 4) (by decide)
      have u1 : ∀ q, q ≠ 10 → ay_at (ax_upd hp 50 16 (ρ 4)) q = ay_at hp q := fun q hq => funext (fun j => ay_upd_ne hT.1 hq j)
      have u2 : ∀ j, ay_at (ax_upd hp 50 16 (ρ 4)) 10 j = if j = 4 then some (ρ 4) else ay_at hp 10 j := fun j => ay_upd_eq hT.1 rfl ho0 j
      refine ⟨ay_ex_upd hT.1 (ax_cellT hT (q := 8) (g := 2) rfl), ay_ex_upd hT.1 (ax_cellT hT (q := 10) (g := 1) rfl), ay_ex_upd hT.1 (ax_cellT hT (q := 11) (g := 14) rfl), ay_ex_upd hT.1 (ax_cellT hT (q := 12) (g := 15) rfl), ?_⟩
      rw [u1 8 (by decide), u2 0, if_neg (show ¬ 0 = 4 by decide), u2 1, if_neg (show ¬ 1 = 4 by decide), u2 2, if_neg (show ¬ 2 = 4 by decide), u2 3, if_neg (show ¬ 3 = 4 by decide), u2 4, if_pos rfl, u1 11 (by decide), u1 12 (by decide)]
      have eu : ρ 4 / 4 = ρ 3 / 4 + 1 := by omega
      refine pz_53 (pz_41 _) rfl ?_
      show pz53 _ _ _ _ _ _ _ _ (ρ 4 / 4) _ _ _ _ _ _ _
      rw [eu]
      exact st.1
    rcases List.mem_cons.mp hx with e | hx
    · subst e
      refine (ax_XF_lt (x := 79) (by decide)).mpr ?_
      show pz7 (pz_gt (ρ' 0)) (pz_gN (ρ' 0)) ((ρ' 5) / 4) 9
      rw [q0, h2]
      rw [pz_41]
      exact st.2.1
    rcases List.mem_cons.mp hx with e | hx
    · subst e
      refine (ax_XF_lt (x := 90) (by decide)).mpr ?_
      show (pz90 (pz_gt (ρ' 0)) (pz_gN (ρ' 0)) ((ρ' 5) / 4) ((ρ' 6) / 4) ∧ 1 ≤ (ρ' 6) / 4)
      rw [q0, h2, h3]
      rw [pz_41, pz_41]
      exact ⟨st.2.2, pz_strip_1 F90.2⟩
    rcases List.mem_cons.mp hx with e | hx
    · subst e
      refine (ax_XF_lt (x := 92) (by decide)).mpr ?_
      show pz_strip ((ρ' 2) / 4) = (ρ' 6) / 4
      rw [q2, h3]
      rw [pz_41]
    cases List.mem_singleton.mp hx
    refine (ax_XF_bi (o := 30) (by decide)).mpr (Or.inr ⟨rfl, ?_⟩)
    show ρ' 1 < ρ' 5
    rw [q1, h2]
    omega)
  exact ⟨(fun y hy => by cases hy), _, List.mem_cons_self, ρ', h1, h2⟩

theorem axq_ru6c2_2 : ax_RO ax_wC ax_XC axu_ru6c2_2 := by
  intro ρ hp hE hT
  have j0 : ρ 0 % 4 = 1 := pz_gj hE 0 (by decide) rfl
  have j1 : ρ 1 % 4 = 1 := pz_gj hE 1 (by decide) rfl
  have j2 : ρ 2 % 4 = 1 := pz_gj hE 2 (by decide) rfl
  obtain ⟨i3a, i3b, i3c, i3d⟩ := pz_gi hE 3 2147483648 2147483687 (by decide) rfl
  obtain ⟨i4a, i4b, i4c, i4d⟩ := pz_gi hE 4 0 4294967295 (by decide) rfl
  have c_units : ay_at hp 10 4 = some (ρ 3) := ay_gfj hE 50 16 15 10 4 (by decide) (by rw [ax_vl_c (by decide)]) (by rw [ax_vl_c (by decide)])
  have s1 : (ρ 3 / 4 + 2147483648) % 4294967296 + (4 / 4 + 2147483648) % 4294967296 = (ρ 4 / 4 + 2147483648) % 4294967296 + 2147483648 := pz_gs hE 15 4 19 (by decide)
  obtain ⟨-, -, -, -, F50⟩ : ay_ex hp 8 ∧ ay_ex hp 10 ∧ ay_ex hp 11 ∧ ay_ex hp 12 ∧ pz_x50 (ρ 0) (ρ 1) (ay_at hp 8 5) (ay_at hp 8 6) (ay_at hp 8 7) (ay_at hp 8 8) (ay_at hp 10 0) (ay_at hp 10 1) (ay_at hp 10 2) (ay_at hp 10 3) (ay_at hp 10 4) (ay_at hp 8 9) (ay_at hp 8 11) (ay_at hp 8 10) (ay_at hp 8 3) (ay_at hp 8 4) (ay_at hp 11) (ay_at hp 12) := (ax_XF_lt (by decide)).mp (ax_gx hE (50, [3, 7]) (by decide))
  rw [c_units] at F50
  have F78 : pz7 (pz_gt (ρ 0)) (pz_gN (ρ 0)) ((ρ 1) / 4) 8 := (ax_XF_lt (by decide)).mp (ax_gx hE (78, [3, 7]) (by decide))
  have F107 : pz107 (pz_gt (ρ 0)) (pz_gN (ρ 0)) ((ρ 1) / 4) ((8) / 4) := (ax_XF_lt (by decide)).mp (ax_gx hE (107, [3, 7, 8]) (by decide))
  have F90 : (pz90 (pz_gt (ρ 0)) (pz_gN (ρ 0)) ((ρ 1) / 4) ((ρ 2) / 4) ∧ 1 ≤ (ρ 2) / 4) := (ax_XF_lt (by decide)).mp (ax_gx hE (90, [3, 7, 11]) (by decide))
  have F91 : pz_dp ((ρ 2) / 4) = (8) / 4 := (ax_XF_lt (by decide)).mp (ax_gx hE (91, [11, 8]) (by decide))
  have st := pq_ru6u F50 F78 F107 (by decide) (by decide) F90.1 (by rw [F91]; decide) (show ρ 3 / 4 ≤ 39 by omega)
  obtain ⟨ρ', h1, h2⟩ := pz_pn2 (K := ρ 1 / 4 + 1) (L := pz_strip (ρ 2 / 4)) (xf := [(553, [50, 16, 19, 3, 23]), (79, [3, 23]), (90, [3, 23, 27]), (92, [11, 27]), (1030, [7, 23])]) hE (by decide) (fun ρ' h1 h2 h3 x hx => by
    have q0 : ρ' 0 = ρ 0 := h1 0 (by decide)
    have q1 : ρ' 1 = ρ 1 := h1 1 (by decide)
    have q2 : ρ' 2 = ρ 2 := h1 2 (by decide)
    have q3 : ρ' 3 = ρ 3 := h1 3 (by decide)
    have q4 : ρ' 4 = ρ 4 := h1 4 (by decide)
    rcases List.mem_cons.mp hx with e | hx
    · subst e
      refine (ax_XF_wr (x := 53) (by decide)).mpr ?_
      show ay_ex (ax_upd hp 50 (16) (ρ' 4)) 8 ∧ ay_ex (ax_upd hp 50 (16) (ρ' 4)) 10 ∧ ay_ex (ax_upd hp 50 (16) (ρ' 4)) 11 ∧ ay_ex (ax_upd hp 50 (16) (ρ' 4)) 12 ∧ pz_x53 (ρ' 0) (ρ' 5) (ay_at (ax_upd hp 50 (16) (ρ' 4)) 8 5) (ay_at (ax_upd hp 50 (16) (ρ' 4)) 10 0) (ay_at (ax_upd hp 50 (16) (ρ' 4)) 10 1) (ay_at (ax_upd hp 50 (16) (ρ' 4)) 10 2) (ay_at (ax_upd hp 50 (16) (ρ' 4)) 10 3) (ay_at (ax_upd hp 50 (16) (ρ' 4)) 10 4) (ay_at (ax_upd hp 50 (16) (ρ' 4)) 8 9) (ay_at (ax_upd hp 50 (16) (ρ' 4)) 8 11) (ay_at (ax_upd hp 50 (16) (ρ' 4)) 8 10) (ay_at (ax_upd hp 50 (16) (ρ' 4)) 8 3) (ay_at (ax_upd hp 50 (16) (ρ' 4)) 8 4) (ay_at (ax_upd hp 50 (16) (ρ' 4)) 11) (ay_at (ax_upd hp 50 (16) (ρ' 4)) 12)
      rw [q0, q4, h2]
      obtain ⟨o0, ho0⟩ := ay_some hT (q := 10) (g := 1) (n := 12) rfl rfl (j := 16 / 4) (by decide)
      have u1 : ∀ q, q ≠ 10 → ay_at (ax_upd hp 50 16 (ρ 4)) q = ay_at hp q := fun q hq => funext (fun j => ay_upd_ne hT.1 hq j)
      have u2 : ∀ j, ay_at (ax_upd hp 50 16 (ρ 4)) 10 j = if j = 4 then some (ρ 4) else ay_at hp 10 j := fun j => ay_upd_eq hT.1 rfl ho0 j
      refine ⟨ay_ex_upd hT.1 (ax_cellT hT (q := 8) (g := 2) rfl), ay_ex_upd hT.1 (ax_cellT hT (q := 10) (g := 1) rfl), ay_ex_upd hT.1 (ax_cellT hT (q := 11) (g := 14) rfl), ay_ex_upd hT.1 (ax_cellT hT (q := 12) (g := 15) rfl), ?_⟩
      rw [u1 8 (by decide), u2 0, if_neg (show ¬ 0 = 4 by decide), u2 1, if_neg (show ¬ 1 = 4 by decide), u2 2, if_neg (show ¬ 2 = 4 by decide), u2 3, if_neg (show ¬ 3 = 4 by decide), u2 4, if_pos rfl, u1 11 (by decide), u1 12 (by decide)]
      have eu : ρ 4 / 4 = ρ 3 / 4 + 1 := by omega
      refine pz_53 (pz_41 _) rfl ?_
      show pz53 _ _ _ _ _ _ _ _ (ρ 4 / 4) _ _ _ _ _ _ _
      rw [eu]
      exact st.1
    rcases List.mem_cons.mp hx with e | hx
    · subst e
      refine (ax_XF_lt (x := 79) (by decide)).mpr ?_
      show pz7 (pz_gt (ρ' 0)) (pz_gN (ρ' 0)) ((ρ' 5) / 4) 9
      rw [q0, h2]
      rw [pz_41]
      exact st.2.1
    rcases List.mem_cons.mp hx with e | hx
    · subst e
      refine (ax_XF_lt (x := 90) (by decide)).mpr ?_
      show (pz90 (pz_gt (ρ' 0)) (pz_gN (ρ' 0)) ((ρ' 5) / 4) ((ρ' 6) / 4) ∧ 1 ≤ (ρ' 6) / 4)
      rw [q0, h2, h3]
      rw [pz_41, pz_41]
      exact ⟨st.2.2, pz_strip_1 F90.2⟩
    rcases List.mem_cons.mp hx with e | hx
    · subst e
      refine (ax_XF_lt (x := 92) (by decide)).mpr ?_
      show pz_strip ((ρ' 2) / 4) = (ρ' 6) / 4
      rw [q2, h3]
      rw [pz_41]
    cases List.mem_singleton.mp hx
    refine (ax_XF_bi (o := 30) (by decide)).mpr (Or.inr ⟨rfl, ?_⟩)
    show ρ' 1 < ρ' 5
    rw [q1, h2]
    omega)
  exact ⟨(fun y hy => by cases hy), _, List.mem_cons_self, ρ', h1, h2⟩

theorem axq_ru6c3_2 : ax_RO ax_wC ax_XC axu_ru6c3_2 := by
  intro ρ hp hE hT
  have j0 : ρ 0 % 4 = 1 := pz_gj hE 0 (by decide) rfl
  have j1 : ρ 1 % 4 = 1 := pz_gj hE 1 (by decide) rfl
  have j2 : ρ 2 % 4 = 1 := pz_gj hE 2 (by decide) rfl
  obtain ⟨i3a, i3b, i3c, i3d⟩ := pz_gi hE 3 2147483648 2147483687 (by decide) rfl
  obtain ⟨i4a, i4b, i4c, i4d⟩ := pz_gi hE 4 0 4294967295 (by decide) rfl
  have c_units : ay_at hp 10 4 = some (ρ 3) := ay_gfj hE 50 16 15 10 4 (by decide) (by rw [ax_vl_c (by decide)]) (by rw [ax_vl_c (by decide)])
  have s1 : (ρ 3 / 4 + 2147483648) % 4294967296 + (4 / 4 + 2147483648) % 4294967296 = (ρ 4 / 4 + 2147483648) % 4294967296 + 2147483648 := pz_gs hE 15 4 19 (by decide)
  obtain ⟨-, -, -, -, F50⟩ : ay_ex hp 8 ∧ ay_ex hp 10 ∧ ay_ex hp 11 ∧ ay_ex hp 12 ∧ pz_x50 (ρ 0) (ρ 1) (ay_at hp 8 5) (ay_at hp 8 6) (ay_at hp 8 7) (ay_at hp 8 8) (ay_at hp 10 0) (ay_at hp 10 1) (ay_at hp 10 2) (ay_at hp 10 3) (ay_at hp 10 4) (ay_at hp 8 9) (ay_at hp 8 11) (ay_at hp 8 10) (ay_at hp 8 3) (ay_at hp 8 4) (ay_at hp 11) (ay_at hp 12) := (ax_XF_lt (by decide)).mp (ax_gx hE (50, [3, 7]) (by decide))
  rw [c_units] at F50
  have F78 : pz7 (pz_gt (ρ 0)) (pz_gN (ρ 0)) ((ρ 1) / 4) 8 := (ax_XF_lt (by decide)).mp (ax_gx hE (78, [3, 7]) (by decide))
  have F107 : pz107 (pz_gt (ρ 0)) (pz_gN (ρ 0)) ((ρ 1) / 4) ((12) / 4) := (ax_XF_lt (by decide)).mp (ax_gx hE (107, [3, 7, 12]) (by decide))
  have F90 : (pz90 (pz_gt (ρ 0)) (pz_gN (ρ 0)) ((ρ 1) / 4) ((ρ 2) / 4) ∧ 1 ≤ (ρ 2) / 4) := (ax_XF_lt (by decide)).mp (ax_gx hE (90, [3, 7, 11]) (by decide))
  have F91 : pz_dp ((ρ 2) / 4) = (8) / 4 := (ax_XF_lt (by decide)).mp (ax_gx hE (91, [11, 8]) (by decide))
  have st := pq_ru6u F50 F78 F107 (by decide) (by decide) F90.1 (by rw [F91]; decide) (show ρ 3 / 4 ≤ 39 by omega)
  obtain ⟨ρ', h1, h2⟩ := pz_pn2 (K := ρ 1 / 4 + 1) (L := pz_strip (ρ 2 / 4)) (xf := [(553, [50, 16, 19, 3, 23]), (79, [3, 23]), (90, [3, 23, 27]), (92, [11, 27]), (1030, [7, 23])]) hE (by decide) (fun ρ' h1 h2 h3 x hx => by
    have q0 : ρ' 0 = ρ 0 := h1 0 (by decide)
    have q1 : ρ' 1 = ρ 1 := h1 1 (by decide)
    have q2 : ρ' 2 = ρ 2 := h1 2 (by decide)
    have q3 : ρ' 3 = ρ 3 := h1 3 (by decide)
    have q4 : ρ' 4 = ρ 4 := h1 4 (by decide)
    rcases List.mem_cons.mp hx with e | hx
    · subst e
      refine (ax_XF_wr (x := 53) (by decide)).mpr ?_
      show ay_ex (ax_upd hp 50 (16) (ρ' 4)) 8 ∧ ay_ex (ax_upd hp 50 (16) (ρ' 4)) 10 ∧ ay_ex (ax_upd hp 50 (16) (ρ' 4)) 11 ∧ ay_ex (ax_upd hp 50 (16) (ρ' 4)) 12 ∧ pz_x53 (ρ' 0) (ρ' 5) (ay_at (ax_upd hp 50 (16) (ρ' 4)) 8 5) (ay_at (ax_upd hp 50 (16) (ρ' 4)) 10 0) (ay_at (ax_upd hp 50 (16) (ρ' 4)) 10 1) (ay_at (ax_upd hp 50 (16) (ρ' 4)) 10 2) (ay_at (ax_upd hp 50 (16) (ρ' 4)) 10 3) (ay_at (ax_upd hp 50 (16) (ρ' 4)) 10 4) (ay_at (ax_upd hp 50 (16) (ρ' 4)) 8 9) (ay_at (ax_upd hp 50 (16) (ρ' 4)) 8 11) (ay_at (ax_upd hp 50 (16) (ρ' 4)) 8 10) (ay_at (ax_upd hp 50 (16) (ρ' 4)) 8 3) (ay_at (ax_upd hp 50 (16) (ρ' 4)) 8 4) (ay_at (ax_upd hp 50 (16) (ρ' 4)) 11) (ay_at (ax_upd hp 50 (16) (ρ' 4)) 12)
      rw [q0, q4, h2]
      obtain ⟨o0, ho0⟩ := ay_some hT (q := 10) (g := 1) (n := 12) rfl rfl (j := 16 / 4) (by decide)
      have u1 : ∀ q, q ≠ 10 → ay_at (ax_upd hp 50 16 (ρ 4)) q = ay_at hp q := fun q hq => funext (fun j => ay_upd_ne hT.1 hq j)
      have u2 : ∀ j, ay_at (ax_upd hp 50 16 (ρ 4)) 10 j = if j = 4 then some (ρ 4) else ay_at hp 10 j := fun j => ay_upd_eq hT.1 rfl ho0 j
      refine ⟨ay_ex_upd hT.1 (ax_cellT hT (q := 8) (g := 2) rfl), ay_ex_upd hT.1 (ax_cellT hT (q := 10) (g := 1) rfl), ay_ex_upd hT.1 (ax_cellT hT (q := 11) (g := 14) rfl), ay_ex_upd hT.1 (ax_cellT hT (q := 12) (g := 15) rfl), ?_⟩
      rw [u1 8 (by decide), u2 0, if_neg (show ¬ 0 = 4 by decide), u2 1, if_neg (show ¬ 1 = 4 by decide), u2 2, if_neg (show ¬ 2 = 4 by decide), u2 3, if_neg (show ¬ 3 = 4 by decide), u2 4, if_pos rfl, u1 11 (by decide), u1 12 (by decide)]
      have eu : ρ 4 / 4 = ρ 3 / 4 + 1 := by omega
      refine pz_53 (pz_41 _) rfl ?_
      show pz53 _ _ _ _ _ _ _ _ (ρ 4 / 4) _ _ _ _ _ _ _
      rw [eu]
      exact st.1
    rcases List.mem_cons.mp hx with e | hx
    · subst e
      refine (ax_XF_lt (x := 79) (by decide)).mpr ?_
      show pz7 (pz_gt (ρ' 0)) (pz_gN (ρ' 0)) ((ρ' 5) / 4) 9
      rw [q0, h2]
      rw [pz_41]
      exact st.2.1
    rcases List.mem_cons.mp hx with e | hx
    · subst e
      refine (ax_XF_lt (x := 90) (by decide)).mpr ?_
      show (pz90 (pz_gt (ρ' 0)) (pz_gN (ρ' 0)) ((ρ' 5) / 4) ((ρ' 6) / 4) ∧ 1 ≤ (ρ' 6) / 4)
      rw [q0, h2, h3]
      rw [pz_41, pz_41]
      exact ⟨st.2.2, pz_strip_1 F90.2⟩
    rcases List.mem_cons.mp hx with e | hx
    · subst e
      refine (ax_XF_lt (x := 92) (by decide)).mpr ?_
      show pz_strip ((ρ' 2) / 4) = (ρ' 6) / 4
      rw [q2, h3]
      rw [pz_41]
    cases List.mem_singleton.mp hx
    refine (ax_XF_bi (o := 30) (by decide)).mpr (Or.inr ⟨rfl, ?_⟩)
    show ρ' 1 < ρ' 5
    rw [q1, h2]
    omega)
  exact ⟨(fun y hy => by cases hy), _, List.mem_cons_self, ρ', h1, h2⟩

theorem axq_ru6c4_2 : ax_RO ax_wC ax_XC axu_ru6c4_2 := by
  intro ρ hp hE hT
  have j0 : ρ 0 % 4 = 1 := pz_gj hE 0 (by decide) rfl
  have j1 : ρ 1 % 4 = 1 := pz_gj hE 1 (by decide) rfl
  have j2 : ρ 2 % 4 = 1 := pz_gj hE 2 (by decide) rfl
  obtain ⟨i3a, i3b, i3c, i3d⟩ := pz_gi hE 3 2147483648 2147483687 (by decide) rfl
  obtain ⟨i4a, i4b, i4c, i4d⟩ := pz_gi hE 4 0 4294967295 (by decide) rfl
  have c_units : ay_at hp 10 4 = some (ρ 3) := ay_gfj hE 50 16 15 10 4 (by decide) (by rw [ax_vl_c (by decide)]) (by rw [ax_vl_c (by decide)])
  have s1 : (ρ 3 / 4 + 2147483648) % 4294967296 + (4 / 4 + 2147483648) % 4294967296 = (ρ 4 / 4 + 2147483648) % 4294967296 + 2147483648 := pz_gs hE 15 4 19 (by decide)
  obtain ⟨-, -, -, -, F50⟩ : ay_ex hp 8 ∧ ay_ex hp 10 ∧ ay_ex hp 11 ∧ ay_ex hp 12 ∧ pz_x50 (ρ 0) (ρ 1) (ay_at hp 8 5) (ay_at hp 8 6) (ay_at hp 8 7) (ay_at hp 8 8) (ay_at hp 10 0) (ay_at hp 10 1) (ay_at hp 10 2) (ay_at hp 10 3) (ay_at hp 10 4) (ay_at hp 8 9) (ay_at hp 8 11) (ay_at hp 8 10) (ay_at hp 8 3) (ay_at hp 8 4) (ay_at hp 11) (ay_at hp 12) := (ax_XF_lt (by decide)).mp (ax_gx hE (50, [3, 7]) (by decide))
  rw [c_units] at F50
  have F78 : pz7 (pz_gt (ρ 0)) (pz_gN (ρ 0)) ((ρ 1) / 4) 8 := (ax_XF_lt (by decide)).mp (ax_gx hE (78, [3, 7]) (by decide))
  have F107 : pz107 (pz_gt (ρ 0)) (pz_gN (ρ 0)) ((ρ 1) / 4) ((16) / 4) := (ax_XF_lt (by decide)).mp (ax_gx hE (107, [3, 7, 16]) (by decide))
  have F90 : (pz90 (pz_gt (ρ 0)) (pz_gN (ρ 0)) ((ρ 1) / 4) ((ρ 2) / 4) ∧ 1 ≤ (ρ 2) / 4) := (ax_XF_lt (by decide)).mp (ax_gx hE (90, [3, 7, 11]) (by decide))
  have F91 : pz_dp ((ρ 2) / 4) = (8) / 4 := (ax_XF_lt (by decide)).mp (ax_gx hE (91, [11, 8]) (by decide))
  have st := pq_ru6u F50 F78 F107 (by decide) (by decide) F90.1 (by rw [F91]; decide) (show ρ 3 / 4 ≤ 39 by omega)
  obtain ⟨ρ', h1, h2⟩ := pz_pn2 (K := ρ 1 / 4 + 1) (L := pz_strip (ρ 2 / 4)) (xf := [(553, [50, 16, 19, 3, 23]), (79, [3, 23]), (90, [3, 23, 27]), (92, [11, 27]), (1030, [7, 23])]) hE (by decide) (fun ρ' h1 h2 h3 x hx => by
    have q0 : ρ' 0 = ρ 0 := h1 0 (by decide)
    have q1 : ρ' 1 = ρ 1 := h1 1 (by decide)
    have q2 : ρ' 2 = ρ 2 := h1 2 (by decide)
    have q3 : ρ' 3 = ρ 3 := h1 3 (by decide)
    have q4 : ρ' 4 = ρ 4 := h1 4 (by decide)
    rcases List.mem_cons.mp hx with e | hx
    · subst e
      refine (ax_XF_wr (x := 53) (by decide)).mpr ?_
      show ay_ex (ax_upd hp 50 (16) (ρ' 4)) 8 ∧ ay_ex (ax_upd hp 50 (16) (ρ' 4)) 10 ∧ ay_ex (ax_upd hp 50 (16) (ρ' 4)) 11 ∧ ay_ex (ax_upd hp 50 (16) (ρ' 4)) 12 ∧ pz_x53 (ρ' 0) (ρ' 5) (ay_at (ax_upd hp 50 (16) (ρ' 4)) 8 5) (ay_at (ax_upd hp 50 (16) (ρ' 4)) 10 0) (ay_at (ax_upd hp 50 (16) (ρ' 4)) 10 1) (ay_at (ax_upd hp 50 (16) (ρ' 4)) 10 2) (ay_at (ax_upd hp 50 (16) (ρ' 4)) 10 3) (ay_at (ax_upd hp 50 (16) (ρ' 4)) 10 4) (ay_at (ax_upd hp 50 (16) (ρ' 4)) 8 9) (ay_at (ax_upd hp 50 (16) (ρ' 4)) 8 11) (ay_at (ax_upd hp 50 (16) (ρ' 4)) 8 10) (ay_at (ax_upd hp 50 (16) (ρ' 4)) 8 3) (ay_at (ax_upd hp 50 (16) (ρ' 4)) 8 4) (ay_at (ax_upd hp 50 (16) (ρ' 4)) 11) (ay_at (ax_upd hp 50 (16) (ρ' 4)) 12)
      rw [q0, q4, h2]
      obtain ⟨o0, ho0⟩ := ay_some hT (q := 10) (g := 1) (n := 12) rfl rfl (j := 16 / 4) (by decide)
      have u1 : ∀ q, q ≠ 10 → ay_at (ax_upd hp 50 16 (ρ 4)) q = ay_at hp q := fun q hq => funext (fun j => ay_upd_ne hT.1 hq j)
      have u2 : ∀ j, ay_at (ax_upd hp 50 16 (ρ 4)) 10 j = if j = 4 then some (ρ 4) else ay_at hp 10 j := fun j => ay_upd_eq hT.1 rfl ho0 j
      refine ⟨ay_ex_upd hT.1 (ax_cellT hT (q := 8) (g := 2) rfl), ay_ex_upd hT.1 (ax_cellT hT (q := 10) (g := 1) rfl), ay_ex_upd hT.1 (ax_cellT hT (q := 11) (g := 14) rfl), ay_ex_upd hT.1 (ax_cellT hT (q := 12) (g := 15) rfl), ?_⟩
      rw [u1 8 (by decide), u2 0, if_neg (show ¬ 0 = 4 by decide), u2 1, if_neg (show ¬ 1 = 4 by decide), u2 2, if_neg (show ¬ 2 = 4 by decide), u2 3, if_neg (show ¬ 3 = 4 by decide), u2 4, if_pos rfl, u1 11 (by decide), u1 12 (by decide)]
      have eu : ρ 4 / 4 = ρ 3 / 4 + 1 := by omega
      refine pz_53 (pz_41 _) rfl ?_
      show pz53 _ _ _ _ _ _ _ _ (ρ 4 / 4) _ _ _ _ _ _ _
      rw [eu]
      exact st.1
    rcases List.mem_cons.mp hx with e | hx
    · subst e
      refine (ax_XF_lt (x := 79) (by decide)).mpr ?_
      show pz7 (pz_gt (ρ' 0)) (pz_gN (ρ' 0)) ((ρ' 5) / 4) 9
      rw [q0, h2]
      rw [pz_41]
      exact st.2.1
    rcases List.mem_cons.mp hx with e | hx
    · subst e
      refine (ax_XF_lt (x := 90) (by decide)).mpr ?_
      show (pz90 (pz_gt (ρ' 0)) (pz_gN (ρ' 0)) ((ρ' 5) / 4) ((ρ' 6) / 4) ∧ 1 ≤ (ρ' 6) / 4)
      rw [q0, h2, h3]
      rw [pz_41, pz_41]
      exact ⟨st.2.2, pz_strip_1 F90.2⟩
    rcases List.mem_cons.mp hx with e | hx
    · subst e
      refine (ax_XF_lt (x := 92) (by decide)).mpr ?_
      show pz_strip ((ρ' 2) / 4) = (ρ' 6) / 4
      rw [q2, h3]
      rw [pz_41]
    cases List.mem_singleton.mp hx
    refine (ax_XF_bi (o := 30) (by decide)).mpr (Or.inr ⟨rfl, ?_⟩)
    show ρ' 1 < ρ' 5
    rw [q1, h2]
    omega)
  exact ⟨(fun y hy => by cases hy), _, List.mem_cons_self, ρ', h1, h2⟩

theorem axq_ru6c5_2 : ax_RO ax_wC ax_XC axu_ru6c5_2 := by
  intro ρ hp hE hT
  have j0 : ρ 0 % 4 = 1 := pz_gj hE 0 (by decide) rfl
  have j1 : ρ 1 % 4 = 1 := pz_gj hE 1 (by decide) rfl
  have j2 : ρ 2 % 4 = 1 := pz_gj hE 2 (by decide) rfl
  obtain ⟨i3a, i3b, i3c, i3d⟩ := pz_gi hE 3 2147483648 2147483687 (by decide) rfl
  obtain ⟨i4a, i4b, i4c, i4d⟩ := pz_gi hE 4 0 4294967295 (by decide) rfl
  have c_units : ay_at hp 10 4 = some (ρ 3) := ay_gfj hE 50 16 15 10 4 (by decide) (by rw [ax_vl_c (by decide)]) (by rw [ax_vl_c (by decide)])
  have s1 : (ρ 3 / 4 + 2147483648) % 4294967296 + (4 / 4 + 2147483648) % 4294967296 = (ρ 4 / 4 + 2147483648) % 4294967296 + 2147483648 := pz_gs hE 15 4 19 (by decide)
  obtain ⟨-, -, -, -, F50⟩ : ay_ex hp 8 ∧ ay_ex hp 10 ∧ ay_ex hp 11 ∧ ay_ex hp 12 ∧ pz_x50 (ρ 0) (ρ 1) (ay_at hp 8 5) (ay_at hp 8 6) (ay_at hp 8 7) (ay_at hp 8 8) (ay_at hp 10 0) (ay_at hp 10 1) (ay_at hp 10 2) (ay_at hp 10 3) (ay_at hp 10 4) (ay_at hp 8 9) (ay_at hp 8 11) (ay_at hp 8 10) (ay_at hp 8 3) (ay_at hp 8 4) (ay_at hp 11) (ay_at hp 12) := (ax_XF_lt (by decide)).mp (ax_gx hE (50, [3, 7]) (by decide))
  rw [c_units] at F50
  have F78 : pz7 (pz_gt (ρ 0)) (pz_gN (ρ 0)) ((ρ 1) / 4) 8 := (ax_XF_lt (by decide)).mp (ax_gx hE (78, [3, 7]) (by decide))
  have F107 : pz107 (pz_gt (ρ 0)) (pz_gN (ρ 0)) ((ρ 1) / 4) ((20) / 4) := (ax_XF_lt (by decide)).mp (ax_gx hE (107, [3, 7, 20]) (by decide))
  have F90 : (pz90 (pz_gt (ρ 0)) (pz_gN (ρ 0)) ((ρ 1) / 4) ((ρ 2) / 4) ∧ 1 ≤ (ρ 2) / 4) := (ax_XF_lt (by decide)).mp (ax_gx hE (90, [3, 7, 11]) (by decide))
  have F91 : pz_dp ((ρ 2) / 4) = (8) / 4 := (ax_XF_lt (by decide)).mp (ax_gx hE (91, [11, 8]) (by decide))
  have st := pq_ru6m F50 F78 F107 F90.1 (by rw [F91]; decide) (show ρ 3 / 4 ≤ 39 by omega)
  obtain ⟨ρ', h1, h2⟩ := pz_pn2 (K := ρ 1 / 4 + 1) (L := 2 * (ρ 2 / 4) + 1) (xf := [(553, [50, 16, 19, 3, 23]), (78, [3, 23]), (90, [3, 23, 27]), (108, [11, 27]), (91, [27, 12]), (1030, [7, 23])]) hE (by decide) (fun ρ' h1 h2 h3 x hx => by
    have q0 : ρ' 0 = ρ 0 := h1 0 (by decide)
    have q1 : ρ' 1 = ρ 1 := h1 1 (by decide)
    have q2 : ρ' 2 = ρ 2 := h1 2 (by decide)
    have q3 : ρ' 3 = ρ 3 := h1 3 (by decide)
    have q4 : ρ' 4 = ρ 4 := h1 4 (by decide)
    rcases List.mem_cons.mp hx with e | hx
    · subst e
      refine (ax_XF_wr (x := 53) (by decide)).mpr ?_
      show ay_ex (ax_upd hp 50 (16) (ρ' 4)) 8 ∧ ay_ex (ax_upd hp 50 (16) (ρ' 4)) 10 ∧ ay_ex (ax_upd hp 50 (16) (ρ' 4)) 11 ∧ ay_ex (ax_upd hp 50 (16) (ρ' 4)) 12 ∧ pz_x53 (ρ' 0) (ρ' 5) (ay_at (ax_upd hp 50 (16) (ρ' 4)) 8 5) (ay_at (ax_upd hp 50 (16) (ρ' 4)) 10 0) (ay_at (ax_upd hp 50 (16) (ρ' 4)) 10 1) (ay_at (ax_upd hp 50 (16) (ρ' 4)) 10 2) (ay_at (ax_upd hp 50 (16) (ρ' 4)) 10 3) (ay_at (ax_upd hp 50 (16) (ρ' 4)) 10 4) (ay_at (ax_upd hp 50 (16) (ρ' 4)) 8 9) (ay_at (ax_upd hp 50 (16) (ρ' 4)) 8 11) (ay_at (ax_upd hp 50 (16) (ρ' 4)) 8 10) (ay_at (ax_upd hp 50 (16) (ρ' 4)) 8 3) (ay_at (ax_upd hp 50 (16) (ρ' 4)) 8 4) (ay_at (ax_upd hp 50 (16) (ρ' 4)) 11) (ay_at (ax_upd hp 50 (16) (ρ' 4)) 12)
      rw [q0, q4, h2]
      obtain ⟨o0, ho0⟩ := ay_some hT (q := 10) (g := 1) (n := 12) rfl rfl (j := 16 / 4) (by decide)
      have u1 : ∀ q, q ≠ 10 → ay_at (ax_upd hp 50 16 (ρ 4)) q = ay_at hp q := fun q hq => funext (fun j => ay_upd_ne hT.1 hq j)
      have u2 : ∀ j, ay_at (ax_upd hp 50 16 (ρ 4)) 10 j = if j = 4 then some (ρ 4) else ay_at hp 10 j := fun j => ay_upd_eq hT.1 rfl ho0 j
      refine ⟨ay_ex_upd hT.1 (ax_cellT hT (q := 8) (g := 2) rfl), ay_ex_upd hT.1 (ax_cellT hT (q := 10) (g := 1) rfl), ay_ex_upd hT.1 (ax_cellT hT (q := 11) (g := 14) rfl), ay_ex_upd hT.1 (ax_cellT hT (q := 12) (g := 15) rfl), ?_⟩
      rw [u1 8 (by decide), u2 0, if_neg (show ¬ 0 = 4 by decide), u2 1, if_neg (show ¬ 1 = 4 by decide), u2 2, if_neg (show ¬ 2 = 4 by decide), u2 3, if_neg (show ¬ 3 = 4 by decide), u2 4, if_pos rfl, u1 11 (by decide), u1 12 (by decide)]
      have eu : ρ 4 / 4 = ρ 3 / 4 + 1 := by omega
      refine pz_53 (pz_41 _) rfl ?_
      show pz53 _ _ _ _ _ _ _ _ (ρ 4 / 4) _ _ _ _ _ _ _
      rw [eu]
      exact st.1
    rcases List.mem_cons.mp hx with e | hx
    · subst e
      refine (ax_XF_lt (x := 78) (by decide)).mpr ?_
      show pz7 (pz_gt (ρ' 0)) (pz_gN (ρ' 0)) ((ρ' 5) / 4) 8
      rw [q0, h2]
      rw [pz_41]
      exact st.2.1
    rcases List.mem_cons.mp hx with e | hx
    · subst e
      refine (ax_XF_lt (x := 90) (by decide)).mpr ?_
      show (pz90 (pz_gt (ρ' 0)) (pz_gN (ρ' 0)) ((ρ' 5) / 4) ((ρ' 6) / 4) ∧ 1 ≤ (ρ' 6) / 4)
      rw [q0, h2, h3]
      rw [pz_41, pz_41]
      exact ⟨st.2.2, by omega⟩
    rcases List.mem_cons.mp hx with e | hx
    · subst e
      refine (ax_XF_lt (x := 108) (by decide)).mpr ?_
      show ((ρ' 6) / 4 = 2 * ((ρ' 2) / 4) + 1 ∧ 1 ≤ (ρ' 2) / 4)
      rw [q2, h3]
      rw [pz_41]
      exact ⟨rfl, F90.2⟩
    rcases List.mem_cons.mp hx with e | hx
    · subst e
      refine (ax_XF_lt (x := 91) (by decide)).mpr ?_
      show pz_dp ((ρ' 6) / 4) = (12) / 4
      rw [h3]
      rw [pz_41, pz_dp_push F90.2 (Or.inr rfl), F91]
    cases List.mem_singleton.mp hx
    refine (ax_XF_bi (o := 30) (by decide)).mpr (Or.inr ⟨rfl, ?_⟩)
    show ρ' 1 < ρ' 5
    rw [q1, h2]
    omega)
  exact ⟨(fun y hy => by cases hy), _, List.mem_cons_self, ρ', h1, h2⟩

theorem axq_ru6c40_2 : ax_RO ax_wC ax_XC axu_ru6c40_2 := by
  intro ρ hp hE hT
  have j0 : ρ 0 % 4 = 1 := pz_gj hE 0 (by decide) rfl
  have j1 : ρ 1 % 4 = 1 := pz_gj hE 1 (by decide) rfl
  have j2 : ρ 2 % 4 = 1 := pz_gj hE 2 (by decide) rfl
  obtain ⟨i3a, i3b, i3c, i3d⟩ := pz_gi hE 3 2147483648 2147483687 (by decide) rfl
  obtain ⟨i4a, i4b, i4c, i4d⟩ := pz_gi hE 4 0 4294967295 (by decide) rfl
  have c_units : ay_at hp 10 4 = some (ρ 3) := ay_gfj hE 50 16 15 10 4 (by decide) (by rw [ax_vl_c (by decide)]) (by rw [ax_vl_c (by decide)])
  have s1 : (ρ 3 / 4 + 2147483648) % 4294967296 + (4 / 4 + 2147483648) % 4294967296 = (ρ 4 / 4 + 2147483648) % 4294967296 + 2147483648 := pz_gs hE 15 4 19 (by decide)
  obtain ⟨-, -, -, -, F50⟩ : ay_ex hp 8 ∧ ay_ex hp 10 ∧ ay_ex hp 11 ∧ ay_ex hp 12 ∧ pz_x50 (ρ 0) (ρ 1) (ay_at hp 8 5) (ay_at hp 8 6) (ay_at hp 8 7) (ay_at hp 8 8) (ay_at hp 10 0) (ay_at hp 10 1) (ay_at hp 10 2) (ay_at hp 10 3) (ay_at hp 10 4) (ay_at hp 8 9) (ay_at hp 8 11) (ay_at hp 8 10) (ay_at hp 8 3) (ay_at hp 8 4) (ay_at hp 11) (ay_at hp 12) := (ax_XF_lt (by decide)).mp (ax_gx hE (50, [3, 7]) (by decide))
  rw [c_units] at F50
  have F78 : pz7 (pz_gt (ρ 0)) (pz_gN (ρ 0)) ((ρ 1) / 4) 8 := (ax_XF_lt (by decide)).mp (ax_gx hE (78, [3, 7]) (by decide))
  have F107 : pz107 (pz_gt (ρ 0)) (pz_gN (ρ 0)) ((ρ 1) / 4) ((160) / 4) := (ax_XF_lt (by decide)).mp (ax_gx hE (107, [3, 7, 160]) (by decide))
  have F90 : (pz90 (pz_gt (ρ 0)) (pz_gN (ρ 0)) ((ρ 1) / 4) ((ρ 2) / 4) ∧ 1 ≤ (ρ 2) / 4) := (ax_XF_lt (by decide)).mp (ax_gx hE (90, [3, 7, 11]) (by decide))
  have F91 : pz_dp ((ρ 2) / 4) = (8) / 4 := (ax_XF_lt (by decide)).mp (ax_gx hE (91, [11, 8]) (by decide))
  have st := pq_ru6o F50 F78 F107 F90.1 (by rw [F91]; decide) (show ρ 3 / 4 ≤ 39 by omega)
  obtain ⟨ρ', h1, h2⟩ := pz_pn2 (K := ρ 1 / 4 + 1) (L := 2 * (ρ 2 / 4)) (xf := [(553, [50, 16, 19, 3, 23]), (78, [3, 23]), (90, [3, 23, 27]), (93, [27, 11]), (91, [27, 12]), (92, [27, 27]), (1030, [7, 23])]) hE (by decide) (fun ρ' h1 h2 h3 x hx => by
    have q0 : ρ' 0 = ρ 0 := h1 0 (by decide)
    have q1 : ρ' 1 = ρ 1 := h1 1 (by decide)
    have q2 : ρ' 2 = ρ 2 := h1 2 (by decide)
    have q3 : ρ' 3 = ρ 3 := h1 3 (by decide)
    have q4 : ρ' 4 = ρ 4 := h1 4 (by decide)
    rcases List.mem_cons.mp hx with e | hx
    · subst e
      refine (ax_XF_wr (x := 53) (by decide)).mpr ?_
      show ay_ex (ax_upd hp 50 (16) (ρ' 4)) 8 ∧ ay_ex (ax_upd hp 50 (16) (ρ' 4)) 10 ∧ ay_ex (ax_upd hp 50 (16) (ρ' 4)) 11 ∧ ay_ex (ax_upd hp 50 (16) (ρ' 4)) 12 ∧ pz_x53 (ρ' 0) (ρ' 5) (ay_at (ax_upd hp 50 (16) (ρ' 4)) 8 5) (ay_at (ax_upd hp 50 (16) (ρ' 4)) 10 0) (ay_at (ax_upd hp 50 (16) (ρ' 4)) 10 1) (ay_at (ax_upd hp 50 (16) (ρ' 4)) 10 2) (ay_at (ax_upd hp 50 (16) (ρ' 4)) 10 3) (ay_at (ax_upd hp 50 (16) (ρ' 4)) 10 4) (ay_at (ax_upd hp 50 (16) (ρ' 4)) 8 9) (ay_at (ax_upd hp 50 (16) (ρ' 4)) 8 11) (ay_at (ax_upd hp 50 (16) (ρ' 4)) 8 10) (ay_at (ax_upd hp 50 (16) (ρ' 4)) 8 3) (ay_at (ax_upd hp 50 (16) (ρ' 4)) 8 4) (ay_at (ax_upd hp 50 (16) (ρ' 4)) 11) (ay_at (ax_upd hp 50 (16) (ρ' 4)) 12)
      rw [q0, q4, h2]
      obtain ⟨o0, ho0⟩ := ay_some hT (q := 10) (g := 1) (n := 12) rfl rfl (j := 16 / 4) (by decide)
      have u1 : ∀ q, q ≠ 10 → ay_at (ax_upd hp 50 16 (ρ 4)) q = ay_at hp q := fun q hq => funext (fun j => ay_upd_ne hT.1 hq j)
      have u2 : ∀ j, ay_at (ax_upd hp 50 16 (ρ 4)) 10 j = if j = 4 then some (ρ 4) else ay_at hp 10 j := fun j => ay_upd_eq hT.1 rfl ho0 j
      refine ⟨ay_ex_upd hT.1 (ax_cellT hT (q := 8) (g := 2) rfl), ay_ex_upd hT.1 (ax_cellT hT (q := 10) (g := 1) rfl), ay_ex_upd hT.1 (ax_cellT hT (q := 11) (g := 14) rfl), ay_ex_upd hT.1 (ax_cellT hT (q := 12) (g := 15) rfl), ?_⟩
      rw [u1 8 (by decide), u2 0, if_neg (show ¬ 0 = 4 by decide), u2 1, if_neg (show ¬ 1 = 4 by decide), u2 2, if_neg (show ¬ 2 = 4 by decide), u2 3, if_neg (show ¬ 3 = 4 by decide), u2 4, if_pos rfl, u1 11 (by decide), u1 12 (by decide)]
      have eu : ρ 4 / 4 = ρ 3 / 4 + 1 := by omega
      refine pz_53 (pz_41 _) rfl ?_
      show pz53 _ _ _ _ _ _ _ _ (ρ 4 / 4) _ _ _ _ _ _ _
      rw [eu]
      exact st.1
    rcases List.mem_cons.mp hx with e | hx
    · subst e
      refine (ax_XF_lt (x := 78) (by decide)).mpr ?_
      show pz7 (pz_gt (ρ' 0)) (pz_gN (ρ' 0)) ((ρ' 5) / 4) 8
      rw [q0, h2]
      rw [pz_41]
      exact st.2.1
    rcases List.mem_cons.mp hx with e | hx
    · subst e
      refine (ax_XF_lt (x := 90) (by decide)).mpr ?_
      show (pz90 (pz_gt (ρ' 0)) (pz_gN (ρ' 0)) ((ρ' 5) / 4) ((ρ' 6) / 4) ∧ 1 ≤ (ρ' 6) / 4)
      rw [q0, h2, h3]
      rw [pz_41, pz_41]
      exact ⟨st.2.2, by have := F90.2; omega⟩
    rcases List.mem_cons.mp hx with e | hx
    · subst e
      refine (ax_XF_lt (x := 93) (by decide)).mpr ?_
      show (ρ' 6) / 4 = 2 * ((ρ' 2) / 4)
      rw [q2, h3]
      rw [pz_41]
    rcases List.mem_cons.mp hx with e | hx
    · subst e
      refine (ax_XF_lt (x := 91) (by decide)).mpr ?_
      show pz_dp ((ρ' 6) / 4) = (12) / 4
      rw [h3]
      rw [pz_41, pz_dp_push F90.2 (Or.inl rfl), F91]
    rcases List.mem_cons.mp hx with e | hx
    · subst e
      refine (ax_XF_lt (x := 92) (by decide)).mpr ?_
      show pz_strip ((ρ' 6) / 4) = (ρ' 6) / 4
      rw [h3]
      rw [pz_41]
      exact pz_strip_even (Or.inl (by omega))
    cases List.mem_singleton.mp hx
    refine (ax_XF_bi (o := 30) (by decide)).mpr (Or.inr ⟨rfl, ?_⟩)
    show ρ' 1 < ρ' 5
    rw [q1, h2]
    omega)
  exact ⟨(fun y hy => by cases hy), _, List.mem_cons_self, ρ', h1, h2⟩

theorem axq_ru6c1_3 : ax_RO ax_wC ax_XC axu_ru6c1_3 := by
  intro ρ hp hE hT
  have j0 : ρ 0 % 4 = 1 := pz_gj hE 0 (by decide) rfl
  have j1 : ρ 1 % 4 = 1 := pz_gj hE 1 (by decide) rfl
  have j2 : ρ 2 % 4 = 1 := pz_gj hE 2 (by decide) rfl
  obtain ⟨i3a, i3b, i3c, i3d⟩ := pz_gi hE 3 2147483648 2147483687 (by decide) rfl
  obtain ⟨i4a, i4b, i4c, i4d⟩ := pz_gi hE 4 0 4294967295 (by decide) rfl
  have c_units : ay_at hp 10 4 = some (ρ 3) := ay_gfj hE 50 16 15 10 4 (by decide) (by rw [ax_vl_c (by decide)]) (by rw [ax_vl_c (by decide)])
  have s1 : (ρ 3 / 4 + 2147483648) % 4294967296 + (4 / 4 + 2147483648) % 4294967296 = (ρ 4 / 4 + 2147483648) % 4294967296 + 2147483648 := pz_gs hE 15 4 19 (by decide)
  obtain ⟨-, -, -, -, F50⟩ : ay_ex hp 8 ∧ ay_ex hp 10 ∧ ay_ex hp 11 ∧ ay_ex hp 12 ∧ pz_x50 (ρ 0) (ρ 1) (ay_at hp 8 5) (ay_at hp 8 6) (ay_at hp 8 7) (ay_at hp 8 8) (ay_at hp 10 0) (ay_at hp 10 1) (ay_at hp 10 2) (ay_at hp 10 3) (ay_at hp 10 4) (ay_at hp 8 9) (ay_at hp 8 11) (ay_at hp 8 10) (ay_at hp 8 3) (ay_at hp 8 4) (ay_at hp 11) (ay_at hp 12) := (ax_XF_lt (by decide)).mp (ax_gx hE (50, [3, 7]) (by decide))
  rw [c_units] at F50
  have F78 : pz7 (pz_gt (ρ 0)) (pz_gN (ρ 0)) ((ρ 1) / 4) 8 := (ax_XF_lt (by decide)).mp (ax_gx hE (78, [3, 7]) (by decide))
  have F107 : pz107 (pz_gt (ρ 0)) (pz_gN (ρ 0)) ((ρ 1) / 4) ((4) / 4) := (ax_XF_lt (by decide)).mp (ax_gx hE (107, [3, 7, 4]) (by decide))
  have F90 : (pz90 (pz_gt (ρ 0)) (pz_gN (ρ 0)) ((ρ 1) / 4) ((ρ 2) / 4) ∧ 1 ≤ (ρ 2) / 4) := (ax_XF_lt (by decide)).mp (ax_gx hE (90, [3, 7, 11]) (by decide))
  have F91 : pz_dp ((ρ 2) / 4) = (12) / 4 := (ax_XF_lt (by decide)).mp (ax_gx hE (91, [11, 12]) (by decide))
  have st := pq_ru6u F50 F78 F107 (by decide) (by decide) F90.1 (by rw [F91]; decide) (show ρ 3 / 4 ≤ 39 by omega)
  obtain ⟨ρ', h1, h2⟩ := pz_pn2 (K := ρ 1 / 4 + 1) (L := pz_strip (ρ 2 / 4)) (xf := [(553, [50, 16, 19, 3, 23]), (79, [3, 23]), (90, [3, 23, 27]), (92, [11, 27]), (1030, [7, 23])]) hE (by decide) (fun ρ' h1 h2 h3 x hx => by
    have q0 : ρ' 0 = ρ 0 := h1 0 (by decide)
    have q1 : ρ' 1 = ρ 1 := h1 1 (by decide)
    have q2 : ρ' 2 = ρ 2 := h1 2 (by decide)
    have q3 : ρ' 3 = ρ 3 := h1 3 (by decide)
    have q4 : ρ' 4 = ρ 4 := h1 4 (by decide)
    rcases List.mem_cons.mp hx with e | hx
    · subst e
      refine (ax_XF_wr (x := 53) (by decide)).mpr ?_
      show ay_ex (ax_upd hp 50 (16) (ρ' 4)) 8 ∧ ay_ex (ax_upd hp 50 (16) (ρ' 4)) 10 ∧ ay_ex (ax_upd hp 50 (16) (ρ' 4)) 11 ∧ ay_ex (ax_upd hp 50 (16) (ρ' 4)) 12 ∧ pz_x53 (ρ' 0) (ρ' 5) (ay_at (ax_upd hp 50 (16) (ρ' 4)) 8 5) (ay_at (ax_upd hp 50 (16) (ρ' 4)) 10 0) (ay_at (ax_upd hp 50 (16) (ρ' 4)) 10 1) (ay_at (ax_upd hp 50 (16) (ρ' 4)) 10 2) (ay_at (ax_upd hp 50 (16) (ρ' 4)) 10 3) (ay_at (ax_upd hp 50 (16) (ρ' 4)) 10 4) (ay_at (ax_upd hp 50 (16) (ρ' 4)) 8 9) (ay_at (ax_upd hp 50 (16) (ρ' 4)) 8 11) (ay_at (ax_upd hp 50 (16) (ρ' 4)) 8 10) (ay_at (ax_upd hp 50 (16) (ρ' 4)) 8 3) (ay_at (ax_upd hp 50 (16) (ρ' 4)) 8 4) (ay_at (ax_upd hp 50 (16) (ρ' 4)) 11) (ay_at (ax_upd hp 50 (16) (ρ' 4)) 12)
      rw [q0, q4, h2]
      obtain ⟨o0, ho0⟩ := ay_some hT (q := 10) (g := 1) (n := 12) rfl rfl (j := 16 / 4) (by decide)
      have u1 : ∀ q, q ≠ 10 → ay_at (ax_upd hp 50 16 (ρ 4)) q = ay_at hp q := fun q hq => funext (fun j => ay_upd_ne hT.1 hq j)
      have u2 : ∀ j, ay_at (ax_upd hp 50 16 (ρ 4)) 10 j = if j = 4 then some (ρ 4) else ay_at hp 10 j := fun j => ay_upd_eq hT.1 rfl ho0 j
      refine ⟨ay_ex_upd hT.1 (ax_cellT hT (q := 8) (g := 2) rfl), ay_ex_upd hT.1 (ax_cellT hT (q := 10) (g := 1) rfl), ay_ex_upd hT.1 (ax_cellT hT (q := 11) (g := 14) rfl), ay_ex_upd hT.1 (ax_cellT hT (q := 12) (g := 15) rfl), ?_⟩
      rw [u1 8 (by decide), u2 0, if_neg (show ¬ 0 = 4 by decide), u2 1, if_neg (show ¬ 1 = 4 by decide), u2 2, if_neg (show ¬ 2 = 4 by decide), u2 3, if_neg (show ¬ 3 = 4 by decide), u2 4, if_pos rfl, u1 11 (by decide), u1 12 (by decide)]
      have eu : ρ 4 / 4 = ρ 3 / 4 + 1 := by omega
      refine pz_53 (pz_41 _) rfl ?_
      show pz53 _ _ _ _ _ _ _ _ (ρ 4 / 4) _ _ _ _ _ _ _
      rw [eu]
      exact st.1
    rcases List.mem_cons.mp hx with e | hx
    · subst e
      refine (ax_XF_lt (x := 79) (by decide)).mpr ?_
      show pz7 (pz_gt (ρ' 0)) (pz_gN (ρ' 0)) ((ρ' 5) / 4) 9
      rw [q0, h2]
      rw [pz_41]
      exact st.2.1
    rcases List.mem_cons.mp hx with e | hx
    · subst e
      refine (ax_XF_lt (x := 90) (by decide)).mpr ?_
      show (pz90 (pz_gt (ρ' 0)) (pz_gN (ρ' 0)) ((ρ' 5) / 4) ((ρ' 6) / 4) ∧ 1 ≤ (ρ' 6) / 4)
      rw [q0, h2, h3]
      rw [pz_41, pz_41]
      exact ⟨st.2.2, pz_strip_1 F90.2⟩
    rcases List.mem_cons.mp hx with e | hx
    · subst e
      refine (ax_XF_lt (x := 92) (by decide)).mpr ?_
      show pz_strip ((ρ' 2) / 4) = (ρ' 6) / 4
      rw [q2, h3]
      rw [pz_41]
    cases List.mem_singleton.mp hx
    refine (ax_XF_bi (o := 30) (by decide)).mpr (Or.inr ⟨rfl, ?_⟩)
    show ρ' 1 < ρ' 5
    rw [q1, h2]
    omega)
  exact ⟨(fun y hy => by cases hy), _, List.mem_cons_self, ρ', h1, h2⟩

theorem axq_ru6c2_3 : ax_RO ax_wC ax_XC axu_ru6c2_3 := by
  intro ρ hp hE hT
  have j0 : ρ 0 % 4 = 1 := pz_gj hE 0 (by decide) rfl
  have j1 : ρ 1 % 4 = 1 := pz_gj hE 1 (by decide) rfl
  have j2 : ρ 2 % 4 = 1 := pz_gj hE 2 (by decide) rfl
  obtain ⟨i3a, i3b, i3c, i3d⟩ := pz_gi hE 3 2147483648 2147483687 (by decide) rfl
  obtain ⟨i4a, i4b, i4c, i4d⟩ := pz_gi hE 4 0 4294967295 (by decide) rfl
  have c_units : ay_at hp 10 4 = some (ρ 3) := ay_gfj hE 50 16 15 10 4 (by decide) (by rw [ax_vl_c (by decide)]) (by rw [ax_vl_c (by decide)])
  have s1 : (ρ 3 / 4 + 2147483648) % 4294967296 + (4 / 4 + 2147483648) % 4294967296 = (ρ 4 / 4 + 2147483648) % 4294967296 + 2147483648 := pz_gs hE 15 4 19 (by decide)
  obtain ⟨-, -, -, -, F50⟩ : ay_ex hp 8 ∧ ay_ex hp 10 ∧ ay_ex hp 11 ∧ ay_ex hp 12 ∧ pz_x50 (ρ 0) (ρ 1) (ay_at hp 8 5) (ay_at hp 8 6) (ay_at hp 8 7) (ay_at hp 8 8) (ay_at hp 10 0) (ay_at hp 10 1) (ay_at hp 10 2) (ay_at hp 10 3) (ay_at hp 10 4) (ay_at hp 8 9) (ay_at hp 8 11) (ay_at hp 8 10) (ay_at hp 8 3) (ay_at hp 8 4) (ay_at hp 11) (ay_at hp 12) := (ax_XF_lt (by decide)).mp (ax_gx hE (50, [3, 7]) (by decide))
  rw [c_units] at F50
  have F78 : pz7 (pz_gt (ρ 0)) (pz_gN (ρ 0)) ((ρ 1) / 4) 8 := (ax_XF_lt (by decide)).mp (ax_gx hE (78, [3, 7]) (by decide))
  have F107 : pz107 (pz_gt (ρ 0)) (pz_gN (ρ 0)) ((ρ 1) / 4) ((8) / 4) := (ax_XF_lt (by decide)).mp (ax_gx hE (107, [3, 7, 8]) (by decide))
  have F90 : (pz90 (pz_gt (ρ 0)) (pz_gN (ρ 0)) ((ρ 1) / 4) ((ρ 2) / 4) ∧ 1 ≤ (ρ 2) / 4) := (ax_XF_lt (by decide)).mp (ax_gx hE (90, [3, 7, 11]) (by decide))
  have F91 : pz_dp ((ρ 2) / 4) = (12) / 4 := (ax_XF_lt (by decide)).mp (ax_gx hE (91, [11, 12]) (by decide))
  have st := pq_ru6u F50 F78 F107 (by decide) (by decide) F90.1 (by rw [F91]; decide) (show ρ 3 / 4 ≤ 39 by omega)
  obtain ⟨ρ', h1, h2⟩ := pz_pn2 (K := ρ 1 / 4 + 1) (L := pz_strip (ρ 2 / 4)) (xf := [(553, [50, 16, 19, 3, 23]), (79, [3, 23]), (90, [3, 23, 27]), (92, [11, 27]), (1030, [7, 23])]) hE (by decide) (fun ρ' h1 h2 h3 x hx => by
    have q0 : ρ' 0 = ρ 0 := h1 0 (by decide)
    have q1 : ρ' 1 = ρ 1 := h1 1 (by decide)
    have q2 : ρ' 2 = ρ 2 := h1 2 (by decide)
    have q3 : ρ' 3 = ρ 3 := h1 3 (by decide)
    have q4 : ρ' 4 = ρ 4 := h1 4 (by decide)
    rcases List.mem_cons.mp hx with e | hx
    · subst e
      refine (ax_XF_wr (x := 53) (by decide)).mpr ?_
      show ay_ex (ax_upd hp 50 (16) (ρ' 4)) 8 ∧ ay_ex (ax_upd hp 50 (16) (ρ' 4)) 10 ∧ ay_ex (ax_upd hp 50 (16) (ρ' 4)) 11 ∧ ay_ex (ax_upd hp 50 (16) (ρ' 4)) 12 ∧ pz_x53 (ρ' 0) (ρ' 5) (ay_at (ax_upd hp 50 (16) (ρ' 4)) 8 5) (ay_at (ax_upd hp 50 (16) (ρ' 4)) 10 0) (ay_at (ax_upd hp 50 (16) (ρ' 4)) 10 1) (ay_at (ax_upd hp 50 (16) (ρ' 4)) 10 2) (ay_at (ax_upd hp 50 (16) (ρ' 4)) 10 3) (ay_at (ax_upd hp 50 (16) (ρ' 4)) 10 4) (ay_at (ax_upd hp 50 (16) (ρ' 4)) 8 9) (ay_at (ax_upd hp 50 (16) (ρ' 4)) 8 11) (ay_at (ax_upd hp 50 (16) (ρ' 4)) 8 10) (ay_at (ax_upd hp 50 (16) (ρ' 4)) 8 3) (ay_at (ax_upd hp 50 (16) (ρ' 4)) 8 4) (ay_at (ax_upd hp 50 (16) (ρ' 4)) 11) (ay_at (ax_upd hp 50 (16) (ρ' 4)) 12)
      rw [q0, q4, h2]
      obtain ⟨o0, ho0⟩ := ay_some hT (q := 10) (g := 1) (n := 12) rfl rfl (j := 16 / 4) (by decide)
      have u1 : ∀ q, q ≠ 10 → ay_at (ax_upd hp 50 16 (ρ 4)) q = ay_at hp q := fun q hq => funext (fun j => ay_upd_ne hT.1 hq j)
      have u2 : ∀ j, ay_at (ax_upd hp 50 16 (ρ 4)) 10 j = if j = 4 then some (ρ 4) else ay_at hp 10 j := fun j => ay_upd_eq hT.1 rfl ho0 j
      refine ⟨ay_ex_upd hT.1 (ax_cellT hT (q := 8) (g := 2) rfl), ay_ex_upd hT.1 (ax_cellT hT (q := 10) (g := 1) rfl), ay_ex_upd hT.1 (ax_cellT hT (q := 11) (g := 14) rfl), ay_ex_upd hT.1 (ax_cellT hT (q := 12) (g := 15) rfl), ?_⟩
      rw [u1 8 (by decide), u2 0, if_neg (show ¬ 0 = 4 by decide), u2 1, if_neg (show ¬ 1 = 4 by decide), u2 2, if_neg (show ¬ 2 = 4 by decide), u2 3, if_neg (show ¬ 3 = 4 by decide), u2 4, if_pos rfl, u1 11 (by decide), u1 12 (by decide)]
      have eu : ρ 4 / 4 = ρ 3 / 4 + 1 := by omega
      refine pz_53 (pz_41 _) rfl ?_
      show pz53 _ _ _ _ _ _ _ _ (ρ 4 / 4) _ _ _ _ _ _ _
      rw [eu]
      exact st.1
    rcases List.mem_cons.mp hx with e | hx
    · subst e
      refine (ax_XF_lt (x := 79) (by decide)).mpr ?_
      show pz7 (pz_gt (ρ' 0)) (pz_gN (ρ' 0)) ((ρ' 5) / 4) 9
      rw [q0, h2]
      rw [pz_41]
      exact st.2.1
    rcases List.mem_cons.mp hx with e | hx
    · subst e
      refine (ax_XF_lt (x := 90) (by decide)).mpr ?_
      show (pz90 (pz_gt (ρ' 0)) (pz_gN (ρ' 0)) ((ρ' 5) / 4) ((ρ' 6) / 4) ∧ 1 ≤ (ρ' 6) / 4)
      rw [q0, h2, h3]
      rw [pz_41, pz_41]
      exact ⟨st.2.2, pz_strip_1 F90.2⟩
    rcases List.mem_cons.mp hx with e | hx
    · subst e
      refine (ax_XF_lt (x := 92) (by decide)).mpr ?_
      show pz_strip ((ρ' 2) / 4) = (ρ' 6) / 4
      rw [q2, h3]
      rw [pz_41]
    cases List.mem_singleton.mp hx
    refine (ax_XF_bi (o := 30) (by decide)).mpr (Or.inr ⟨rfl, ?_⟩)
    show ρ' 1 < ρ' 5
    rw [q1, h2]
    omega)
  exact ⟨(fun y hy => by cases hy), _, List.mem_cons_self, ρ', h1, h2⟩

theorem axq_ru6c3_3 : ax_RO ax_wC ax_XC axu_ru6c3_3 := by
  intro ρ hp hE hT
  have j0 : ρ 0 % 4 = 1 := pz_gj hE 0 (by decide) rfl
  have j1 : ρ 1 % 4 = 1 := pz_gj hE 1 (by decide) rfl
  have j2 : ρ 2 % 4 = 1 := pz_gj hE 2 (by decide) rfl
  obtain ⟨i3a, i3b, i3c, i3d⟩ := pz_gi hE 3 2147483648 2147483687 (by decide) rfl
  obtain ⟨i4a, i4b, i4c, i4d⟩ := pz_gi hE 4 0 4294967295 (by decide) rfl
  have c_units : ay_at hp 10 4 = some (ρ 3) := ay_gfj hE 50 16 15 10 4 (by decide) (by rw [ax_vl_c (by decide)]) (by rw [ax_vl_c (by decide)])
  have s1 : (ρ 3 / 4 + 2147483648) % 4294967296 + (4 / 4 + 2147483648) % 4294967296 = (ρ 4 / 4 + 2147483648) % 4294967296 + 2147483648 := pz_gs hE 15 4 19 (by decide)
  obtain ⟨-, -, -, -, F50⟩ : ay_ex hp 8 ∧ ay_ex hp 10 ∧ ay_ex hp 11 ∧ ay_ex hp 12 ∧ pz_x50 (ρ 0) (ρ 1) (ay_at hp 8 5) (ay_at hp 8 6) (ay_at hp 8 7) (ay_at hp 8 8) (ay_at hp 10 0) (ay_at hp 10 1) (ay_at hp 10 2) (ay_at hp 10 3) (ay_at hp 10 4) (ay_at hp 8 9) (ay_at hp 8 11) (ay_at hp 8 10) (ay_at hp 8 3) (ay_at hp 8 4) (ay_at hp 11) (ay_at hp 12) := (ax_XF_lt (by decide)).mp (ax_gx hE (50, [3, 7]) (by decide))
  rw [c_units] at F50
  have F78 : pz7 (pz_gt (ρ 0)) (pz_gN (ρ 0)) ((ρ 1) / 4) 8 := (ax_XF_lt (by decide)).mp (ax_gx hE (78, [3, 7]) (by decide))
  have F107 : pz107 (pz_gt (ρ 0)) (pz_gN (ρ 0)) ((ρ 1) / 4) ((12) / 4) := (ax_XF_lt (by decide)).mp (ax_gx hE (107, [3, 7, 12]) (by decide))
  have F90 : (pz90 (pz_gt (ρ 0)) (pz_gN (ρ 0)) ((ρ 1) / 4) ((ρ 2) / 4) ∧ 1 ≤ (ρ 2) / 4) := (ax_XF_lt (by decide)).mp (ax_gx hE (90, [3, 7, 11]) (by decide))
  have F91 : pz_dp ((ρ 2) / 4) = (12) / 4 := (ax_XF_lt (by decide)).mp (ax_gx hE (91, [11, 12]) (by decide))
  have st := pq_ru6u F50 F78 F107 (by decide) (by decide) F90.1 (by rw [F91]; decide) (show ρ 3 / 4 ≤ 39 by omega)
  obtain ⟨ρ', h1, h2⟩ := pz_pn2 (K := ρ 1 / 4 + 1) (L := pz_strip (ρ 2 / 4)) (xf := [(553, [50, 16, 19, 3, 23]), (79, [3, 23]), (90, [3, 23, 27]), (92, [11, 27]), (1030, [7, 23])]) hE (by decide) (fun ρ' h1 h2 h3 x hx => by
    have q0 : ρ' 0 = ρ 0 := h1 0 (by decide)
    have q1 : ρ' 1 = ρ 1 := h1 1 (by decide)
    have q2 : ρ' 2 = ρ 2 := h1 2 (by decide)
    have q3 : ρ' 3 = ρ 3 := h1 3 (by decide)
    have q4 : ρ' 4 = ρ 4 := h1 4 (by decide)
    rcases List.mem_cons.mp hx with e | hx
    · subst e
      refine (ax_XF_wr (x := 53) (by decide)).mpr ?_
      show ay_ex (ax_upd hp 50 (16) (ρ' 4)) 8 ∧ ay_ex (ax_upd hp 50 (16) (ρ' 4)) 10 ∧ ay_ex (ax_upd hp 50 (16) (ρ' 4)) 11 ∧ ay_ex (ax_upd hp 50 (16) (ρ' 4)) 12 ∧ pz_x53 (ρ' 0) (ρ' 5) (ay_at (ax_upd hp 50 (16) (ρ' 4)) 8 5) (ay_at (ax_upd hp 50 (16) (ρ' 4)) 10 0) (ay_at (ax_upd hp 50 (16) (ρ' 4)) 10 1) (ay_at (ax_upd hp 50 (16) (ρ' 4)) 10 2) (ay_at (ax_upd hp 50 (16) (ρ' 4)) 10 3) (ay_at (ax_upd hp 50 (16) (ρ' 4)) 10 4) (ay_at (ax_upd hp 50 (16) (ρ' 4)) 8 9) (ay_at (ax_upd hp 50 (16) (ρ' 4)) 8 11) (ay_at (ax_upd hp 50 (16) (ρ' 4)) 8 10) (ay_at (ax_upd hp 50 (16) (ρ' 4)) 8 3) (ay_at (ax_upd hp 50 (16) (ρ' 4)) 8 4) (ay_at (ax_upd hp 50 (16) (ρ' 4)) 11) (ay_at (ax_upd hp 50 (16) (ρ' 4)) 12)
      rw [q0, q4, h2]
      obtain ⟨o0, ho0⟩ := ay_some hT (q := 10) (g := 1) (n := 12) rfl rfl (j := 16 / 4) (by decide)
      have u1 : ∀ q, q ≠ 10 → ay_at (ax_upd hp 50 16 (ρ 4)) q = ay_at hp q := fun q hq => funext (fun j => ay_upd_ne hT.1 hq j)
      have u2 : ∀ j, ay_at (ax_upd hp 50 16 (ρ 4)) 10 j = if j = 4 then some (ρ 4) else ay_at hp 10 j := fun j => ay_upd_eq hT.1 rfl ho0 j
      refine ⟨ay_ex_upd hT.1 (ax_cellT hT (q := 8) (g := 2) rfl), ay_ex_upd hT.1 (ax_cellT hT (q := 10) (g := 1) rfl), ay_ex_upd hT.1 (ax_cellT hT (q := 11) (g := 14) rfl), ay_ex_upd hT.1 (ax_cellT hT (q := 12) (g := 15) rfl), ?_⟩
      rw [u1 8 (by decide), u2 0, if_neg (show ¬ 0 = 4 by decide), u2 1, if_neg (show ¬ 1 = 4 by decide), u2 2, if_neg (show ¬ 2 = 4 by decide), u2 3, if_neg (show ¬ 3 = 4 by decide), u2 4, if_pos rfl, u1 11 (by decide), u1 12 (by decide)]
      have eu : ρ 4 / 4 = ρ 3 / 4 + 1 := by omega
      refine pz_53 (pz_41 _) rfl ?_
      show pz53 _ _ _ _ _ _ _ _ (ρ 4 / 4) _ _ _ _ _ _ _
      rw [eu]
      exact st.1
    rcases List.mem_cons.mp hx with e | hx
    · subst e
      refine (ax_XF_lt (x := 79) (by decide)).mpr ?_
      show pz7 (pz_gt (ρ' 0)) (pz_gN (ρ' 0)) ((ρ' 5) / 4) 9
      rw [q0, h2]
      rw [pz_41]
      exact st.2.1
    rcases List.mem_cons.mp hx with e | hx
    · subst e
      refine (ax_XF_lt (x := 90) (by decide)).mpr ?_
      show (pz90 (pz_gt (ρ' 0)) (pz_gN (ρ' 0)) ((ρ' 5) / 4) ((ρ' 6) / 4) ∧ 1 ≤ (ρ' 6) / 4)
      rw [q0, h2, h3]
      rw [pz_41, pz_41]
      exact ⟨st.2.2, pz_strip_1 F90.2⟩
    rcases List.mem_cons.mp hx with e | hx
    · subst e
      refine (ax_XF_lt (x := 92) (by decide)).mpr ?_
      show pz_strip ((ρ' 2) / 4) = (ρ' 6) / 4
      rw [q2, h3]
      rw [pz_41]
    cases List.mem_singleton.mp hx
    refine (ax_XF_bi (o := 30) (by decide)).mpr (Or.inr ⟨rfl, ?_⟩)
    show ρ' 1 < ρ' 5
    rw [q1, h2]
    omega)
  exact ⟨(fun y hy => by cases hy), _, List.mem_cons_self, ρ', h1, h2⟩

theorem axq_ru6c4_3 : ax_RO ax_wC ax_XC axu_ru6c4_3 := by
  intro ρ hp hE hT
  have j0 : ρ 0 % 4 = 1 := pz_gj hE 0 (by decide) rfl
  have j1 : ρ 1 % 4 = 1 := pz_gj hE 1 (by decide) rfl
  have j2 : ρ 2 % 4 = 1 := pz_gj hE 2 (by decide) rfl
  obtain ⟨i3a, i3b, i3c, i3d⟩ := pz_gi hE 3 2147483648 2147483687 (by decide) rfl
  obtain ⟨i4a, i4b, i4c, i4d⟩ := pz_gi hE 4 0 4294967295 (by decide) rfl
  have c_units : ay_at hp 10 4 = some (ρ 3) := ay_gfj hE 50 16 15 10 4 (by decide) (by rw [ax_vl_c (by decide)]) (by rw [ax_vl_c (by decide)])
  have s1 : (ρ 3 / 4 + 2147483648) % 4294967296 + (4 / 4 + 2147483648) % 4294967296 = (ρ 4 / 4 + 2147483648) % 4294967296 + 2147483648 := pz_gs hE 15 4 19 (by decide)
  obtain ⟨-, -, -, -, F50⟩ : ay_ex hp 8 ∧ ay_ex hp 10 ∧ ay_ex hp 11 ∧ ay_ex hp 12 ∧ pz_x50 (ρ 0) (ρ 1) (ay_at hp 8 5) (ay_at hp 8 6) (ay_at hp 8 7) (ay_at hp 8 8) (ay_at hp 10 0) (ay_at hp 10 1) (ay_at hp 10 2) (ay_at hp 10 3) (ay_at hp 10 4) (ay_at hp 8 9) (ay_at hp 8 11) (ay_at hp 8 10) (ay_at hp 8 3) (ay_at hp 8 4) (ay_at hp 11) (ay_at hp 12) := (ax_XF_lt (by decide)).mp (ax_gx hE (50, [3, 7]) (by decide))
  rw [c_units] at F50
  have F78 : pz7 (pz_gt (ρ 0)) (pz_gN (ρ 0)) ((ρ 1) / 4) 8 := (ax_XF_lt (by decide)).mp (ax_gx hE (78, [3, 7]) (by decide))
  have F107 : pz107 (pz_gt (ρ 0)) (pz_gN (ρ 0)) ((ρ 1) / 4) ((16) / 4) := (ax_XF_lt (by decide)).mp (ax_gx hE (107, [3, 7, 16]) (by decide))
  have F90 : (pz90 (pz_gt (ρ 0)) (pz_gN (ρ 0)) ((ρ 1) / 4) ((ρ 2) / 4) ∧ 1 ≤ (ρ 2) / 4) := (ax_XF_lt (by decide)).mp (ax_gx hE (90, [3, 7, 11]) (by decide))
  have F91 : pz_dp ((ρ 2) / 4) = (12) / 4 := (ax_XF_lt (by decide)).mp (ax_gx hE (91, [11, 12]) (by decide))
  have st := pq_ru6u F50 F78 F107 (by decide) (by decide) F90.1 (by rw [F91]; decide) (show ρ 3 / 4 ≤ 39 by omega)
  obtain ⟨ρ', h1, h2⟩ := pz_pn2 (K := ρ 1 / 4 + 1) (L := pz_strip (ρ 2 / 4)) (xf := [(553, [50, 16, 19, 3, 23]), (79, [3, 23]), (90, [3, 23, 27]), (92, [11, 27]), (1030, [7, 23])]) hE (by decide) (fun ρ' h1 h2 h3 x hx => by
    have q0 : ρ' 0 = ρ 0 := h1 0 (by decide)
    have q1 : ρ' 1 = ρ 1 := h1 1 (by decide)
    have q2 : ρ' 2 = ρ 2 := h1 2 (by decide)
    have q3 : ρ' 3 = ρ 3 := h1 3 (by decide)
    have q4 : ρ' 4 = ρ 4 := h1 4 (by decide)
    rcases List.mem_cons.mp hx with e | hx
    · subst e
      refine (ax_XF_wr (x := 53) (by decide)).mpr ?_
      show ay_ex (ax_upd hp 50 (16) (ρ' 4)) 8 ∧ ay_ex (ax_upd hp 50 (16) (ρ' 4)) 10 ∧ ay_ex (ax_upd hp 50 (16) (ρ' 4)) 11 ∧ ay_ex (ax_upd hp 50 (16) (ρ' 4)) 12 ∧ pz_x53 (ρ' 0) (ρ' 5) (ay_at (ax_upd hp 50 (16) (ρ' 4)) 8 5) (ay_at (ax_upd hp 50 (16) (ρ' 4)) 10 0) (ay_at (ax_upd hp 50 (16) (ρ' 4)) 10 1) (ay_at (ax_upd hp 50 (16) (ρ' 4)) 10 2) (ay_at (ax_upd hp 50 (16) (ρ' 4)) 10 3) (ay_at (ax_upd hp 50 (16) (ρ' 4)) 10 4) (ay_at (ax_upd hp 50 (16) (ρ' 4)) 8 9) (ay_at (ax_upd hp 50 (16) (ρ' 4)) 8 11) (ay_at (ax_upd hp 50 (16) (ρ' 4)) 8 10) (ay_at (ax_upd hp 50 (16) (ρ' 4)) 8 3) (ay_at (ax_upd hp 50 (16) (ρ' 4)) 8 4) (ay_at (ax_upd hp 50 (16) (ρ' 4)) 11) (ay_at (ax_upd hp 50 (16) (ρ' 4)) 12)
      rw [q0, q4, h2]
      obtain ⟨o0, ho0⟩ := ay_some hT (q := 10) (g := 1) (n := 12) rfl rfl (j := 16 / 4) (by decide)
      have u1 : ∀ q, q ≠ 10 → ay_at (ax_upd hp 50 16 (ρ 4)) q = ay_at hp q := fun q hq => funext (fun j => ay_upd_ne hT.1 hq j)
      have u2 : ∀ j, ay_at (ax_upd hp 50 16 (ρ 4)) 10 j = if j = 4 then some (ρ 4) else ay_at hp 10 j := fun j => ay_upd_eq hT.1 rfl ho0 j
      refine ⟨ay_ex_upd hT.1 (ax_cellT hT (q := 8) (g := 2) rfl), ay_ex_upd hT.1 (ax_cellT hT (q := 10) (g := 1) rfl), ay_ex_upd hT.1 (ax_cellT hT (q := 11) (g := 14) rfl), ay_ex_upd hT.1 (ax_cellT hT (q := 12) (g := 15) rfl), ?_⟩
      rw [u1 8 (by decide), u2 0, if_neg (show ¬ 0 = 4 by decide), u2 1, if_neg (show ¬ 1 = 4 by decide), u2 2, if_neg (show ¬ 2 = 4 by decide), u2 3, if_neg (show ¬ 3 = 4 by decide), u2 4, if_pos rfl, u1 11 (by decide), u1 12 (by decide)]
      have eu : ρ 4 / 4 = ρ 3 / 4 + 1 := by omega
      refine pz_53 (pz_41 _) rfl ?_
      show pz53 _ _ _ _ _ _ _ _ (ρ 4 / 4) _ _ _ _ _ _ _
      rw [eu]
      exact st.1
    rcases List.mem_cons.mp hx with e | hx
    · subst e
      refine (ax_XF_lt (x := 79) (by decide)).mpr ?_
      show pz7 (pz_gt (ρ' 0)) (pz_gN (ρ' 0)) ((ρ' 5) / 4) 9
      rw [q0, h2]
      rw [pz_41]
      exact st.2.1
    rcases List.mem_cons.mp hx with e | hx
    · subst e
      refine (ax_XF_lt (x := 90) (by decide)).mpr ?_
      show (pz90 (pz_gt (ρ' 0)) (pz_gN (ρ' 0)) ((ρ' 5) / 4) ((ρ' 6) / 4) ∧ 1 ≤ (ρ' 6) / 4)
      rw [q0, h2, h3]
      rw [pz_41, pz_41]
      exact ⟨st.2.2, pz_strip_1 F90.2⟩
    rcases List.mem_cons.mp hx with e | hx
    · subst e
      refine (ax_XF_lt (x := 92) (by decide)).mpr ?_
      show pz_strip ((ρ' 2) / 4) = (ρ' 6) / 4
      rw [q2, h3]
      rw [pz_41]
    cases List.mem_singleton.mp hx
    refine (ax_XF_bi (o := 30) (by decide)).mpr (Or.inr ⟨rfl, ?_⟩)
    show ρ' 1 < ρ' 5
    rw [q1, h2]
    omega)
  exact ⟨(fun y hy => by cases hy), _, List.mem_cons_self, ρ', h1, h2⟩

theorem axq_ru6c5_3 : ax_RO ax_wC ax_XC axu_ru6c5_3 := by
  intro ρ hp hE hT
  have j0 : ρ 0 % 4 = 1 := pz_gj hE 0 (by decide) rfl
  have j1 : ρ 1 % 4 = 1 := pz_gj hE 1 (by decide) rfl
  have j2 : ρ 2 % 4 = 1 := pz_gj hE 2 (by decide) rfl
  obtain ⟨i3a, i3b, i3c, i3d⟩ := pz_gi hE 3 2147483648 2147483687 (by decide) rfl
  obtain ⟨i4a, i4b, i4c, i4d⟩ := pz_gi hE 4 0 4294967295 (by decide) rfl
  have c_units : ay_at hp 10 4 = some (ρ 3) := ay_gfj hE 50 16 15 10 4 (by decide) (by rw [ax_vl_c (by decide)]) (by rw [ax_vl_c (by decide)])
  have s1 : (ρ 3 / 4 + 2147483648) % 4294967296 + (4 / 4 + 2147483648) % 4294967296 = (ρ 4 / 4 + 2147483648) % 4294967296 + 2147483648 := pz_gs hE 15 4 19 (by decide)
  obtain ⟨-, -, -, -, F50⟩ : ay_ex hp 8 ∧ ay_ex hp 10 ∧ ay_ex hp 11 ∧ ay_ex hp 12 ∧ pz_x50 (ρ 0) (ρ 1) (ay_at hp 8 5) (ay_at hp 8 6) (ay_at hp 8 7) (ay_at hp 8 8) (ay_at hp 10 0) (ay_at hp 10 1) (ay_at hp 10 2) (ay_at hp 10 3) (ay_at hp 10 4) (ay_at hp 8 9) (ay_at hp 8 11) (ay_at hp 8 10) (ay_at hp 8 3) (ay_at hp 8 4) (ay_at hp 11) (ay_at hp 12) := (ax_XF_lt (by decide)).mp (ax_gx hE (50, [3, 7]) (by decide))
  rw [c_units] at F50
  have F78 : pz7 (pz_gt (ρ 0)) (pz_gN (ρ 0)) ((ρ 1) / 4) 8 := (ax_XF_lt (by decide)).mp (ax_gx hE (78, [3, 7]) (by decide))
  have F107 : pz107 (pz_gt (ρ 0)) (pz_gN (ρ 0)) ((ρ 1) / 4) ((20) / 4) := (ax_XF_lt (by decide)).mp (ax_gx hE (107, [3, 7, 20]) (by decide))
  have F90 : (pz90 (pz_gt (ρ 0)) (pz_gN (ρ 0)) ((ρ 1) / 4) ((ρ 2) / 4) ∧ 1 ≤ (ρ 2) / 4) := (ax_XF_lt (by decide)).mp (ax_gx hE (90, [3, 7, 11]) (by decide))
  have F91 : pz_dp ((ρ 2) / 4) = (12) / 4 := (ax_XF_lt (by decide)).mp (ax_gx hE (91, [11, 12]) (by decide))
  have st := pq_ru6m F50 F78 F107 F90.1 (by rw [F91]; decide) (show ρ 3 / 4 ≤ 39 by omega)
  obtain ⟨ρ', h1, h2⟩ := pz_pn2 (K := ρ 1 / 4 + 1) (L := 2 * (ρ 2 / 4) + 1) (xf := [(553, [50, 16, 19, 3, 23]), (78, [3, 23]), (90, [3, 23, 27]), (108, [11, 27]), (91, [27, 16]), (1030, [7, 23])]) hE (by decide) (fun ρ' h1 h2 h3 x hx => by
    have q0 : ρ' 0 = ρ 0 := h1 0 (by decide)
    have q1 : ρ' 1 = ρ 1 := h1 1 (by decide)
    have q2 : ρ' 2 = ρ 2 := h1 2 (by decide)
    have q3 : ρ' 3 = ρ 3 := h1 3 (by decide)
    have q4 : ρ' 4 = ρ 4 := h1 4 (by decide)
    rcases List.mem_cons.mp hx with e | hx
    · subst e
      refine (ax_XF_wr (x := 53) (by decide)).mpr ?_
      show ay_ex (ax_upd hp 50 (16) (ρ' 4)) 8 ∧ ay_ex (ax_upd hp 50 (16) (ρ' 4)) 10 ∧ ay_ex (ax_upd hp 50 (16) (ρ' 4)) 11 ∧ ay_ex (ax_upd hp 50 (16) (ρ' 4)) 12 ∧ pz_x53 (ρ' 0) (ρ' 5) (ay_at (ax_upd hp 50 (16) (ρ' 4)) 8 5) (ay_at (ax_upd hp 50 (16) (ρ' 4)) 10 0) (ay_at (ax_upd hp 50 (16) (ρ' 4)) 10 1) (ay_at (ax_upd hp 50 (16) (ρ' 4)) 10 2) (ay_at (ax_upd hp 50 (16) (ρ' 4)) 10 3) (ay_at (ax_upd hp 50 (16) (ρ' 4)) 10 4) (ay_at (ax_upd hp 50 (16) (ρ' 4)) 8 9) (ay_at (ax_upd hp 50 (16) (ρ' 4)) 8 11) (ay_at (ax_upd hp 50 (16) (ρ' 4)) 8 10) (ay_at (ax_upd hp 50 (16) (ρ' 4)) 8 3) (ay_at (ax_upd hp 50 (16) (ρ' 4)) 8 4) (ay_at (ax_upd hp 50 (16) (ρ' 4)) 11) (ay_at (ax_upd hp 50 (16) (ρ' 4)) 12)
      rw [q0, q4, h2]
      obtain ⟨o0, ho0⟩ := ay_some hT (q := 10) (g := 1) (n := 12) rfl rfl (j := 16 / 4) (by decide)
      have u1 : ∀ q, q ≠ 10 → ay_at (ax_upd hp 50 16 (ρ 4)) q = ay_at hp q := fun q hq => funext (fun j => ay_upd_ne hT.1 hq j)
      have u2 : ∀ j, ay_at (ax_upd hp 50 16 (ρ 4)) 10 j = if j = 4 then some (ρ 4) else ay_at hp 10 j := fun j => ay_upd_eq hT.1 rfl ho0 j
      refine ⟨ay_ex_upd hT.1 (ax_cellT hT (q := 8) (g := 2) rfl), ay_ex_upd hT.1 (ax_cellT hT (q := 10) (g := 1) rfl), ay_ex_upd hT.1 (ax_cellT hT (q := 11) (g := 14) rfl), ay_ex_upd hT.1 (ax_cellT hT (q := 12) (g := 15) rfl), ?_⟩
      rw [u1 8 (by decide), u2 0, if_neg (show ¬ 0 = 4 by decide), u2 1, if_neg (show ¬ 1 = 4 by decide), u2 2, if_neg (show ¬ 2 = 4 by decide), u2 3, if_neg (show ¬ 3 = 4 by decide), u2 4, if_pos rfl, u1 11 (by decide), u1 12 (by decide)]
      have eu : ρ 4 / 4 = ρ 3 / 4 + 1 := by omega
      refine pz_53 (pz_41 _) rfl ?_
      show pz53 _ _ _ _ _ _ _ _ (ρ 4 / 4) _ _ _ _ _ _ _
      rw [eu]
      exact st.1
    rcases List.mem_cons.mp hx with e | hx
    · subst e
      refine (ax_XF_lt (x := 78) (by decide)).mpr ?_
      show pz7 (pz_gt (ρ' 0)) (pz_gN (ρ' 0)) ((ρ' 5) / 4) 8
      rw [q0, h2]
      rw [pz_41]
      exact st.2.1
    rcases List.mem_cons.mp hx with e | hx
    · subst e
      refine (ax_XF_lt (x := 90) (by decide)).mpr ?_
      show (pz90 (pz_gt (ρ' 0)) (pz_gN (ρ' 0)) ((ρ' 5) / 4) ((ρ' 6) / 4) ∧ 1 ≤ (ρ' 6) / 4)
      rw [q0, h2, h3]
      rw [pz_41, pz_41]
      exact ⟨st.2.2, by omega⟩
    rcases List.mem_cons.mp hx with e | hx
    · subst e
      refine (ax_XF_lt (x := 108) (by decide)).mpr ?_
      show ((ρ' 6) / 4 = 2 * ((ρ' 2) / 4) + 1 ∧ 1 ≤ (ρ' 2) / 4)
      rw [q2, h3]
      rw [pz_41]
      exact ⟨rfl, F90.2⟩
    rcases List.mem_cons.mp hx with e | hx
    · subst e
      refine (ax_XF_lt (x := 91) (by decide)).mpr ?_
      show pz_dp ((ρ' 6) / 4) = (16) / 4
      rw [h3]
      rw [pz_41, pz_dp_push F90.2 (Or.inr rfl), F91]
    cases List.mem_singleton.mp hx
    refine (ax_XF_bi (o := 30) (by decide)).mpr (Or.inr ⟨rfl, ?_⟩)
    show ρ' 1 < ρ' 5
    rw [q1, h2]
    omega)
  exact ⟨(fun y hy => by cases hy), _, List.mem_cons_self, ρ', h1, h2⟩

theorem axq_ru6c40_3 : ax_RO ax_wC ax_XC axu_ru6c40_3 := by
  intro ρ hp hE hT
  have j0 : ρ 0 % 4 = 1 := pz_gj hE 0 (by decide) rfl
  have j1 : ρ 1 % 4 = 1 := pz_gj hE 1 (by decide) rfl
  have j2 : ρ 2 % 4 = 1 := pz_gj hE 2 (by decide) rfl
  obtain ⟨i3a, i3b, i3c, i3d⟩ := pz_gi hE 3 2147483648 2147483687 (by decide) rfl
  obtain ⟨i4a, i4b, i4c, i4d⟩ := pz_gi hE 4 0 4294967295 (by decide) rfl
  have c_units : ay_at hp 10 4 = some (ρ 3) := ay_gfj hE 50 16 15 10 4 (by decide) (by rw [ax_vl_c (by decide)]) (by rw [ax_vl_c (by decide)])
  have s1 : (ρ 3 / 4 + 2147483648) % 4294967296 + (4 / 4 + 2147483648) % 4294967296 = (ρ 4 / 4 + 2147483648) % 4294967296 + 2147483648 := pz_gs hE 15 4 19 (by decide)
  obtain ⟨-, -, -, -, F50⟩ : ay_ex hp 8 ∧ ay_ex hp 10 ∧ ay_ex hp 11 ∧ ay_ex hp 12 ∧ pz_x50 (ρ 0) (ρ 1) (ay_at hp 8 5) (ay_at hp 8 6) (ay_at hp 8 7) (ay_at hp 8 8) (ay_at hp 10 0) (ay_at hp 10 1) (ay_at hp 10 2) (ay_at hp 10 3) (ay_at hp 10 4) (ay_at hp 8 9) (ay_at hp 8 11) (ay_at hp 8 10) (ay_at hp 8 3) (ay_at hp 8 4) (ay_at hp 11) (ay_at hp 12) := (ax_XF_lt (by decide)).mp (ax_gx hE (50, [3, 7]) (by decide))
  rw [c_units] at F50
  have F78 : pz7 (pz_gt (ρ 0)) (pz_gN (ρ 0)) ((ρ 1) / 4) 8 := (ax_XF_lt (by decide)).mp (ax_gx hE (78, [3, 7]) (by decide))
  have F107 : pz107 (pz_gt (ρ 0)) (pz_gN (ρ 0)) ((ρ 1) / 4) ((160) / 4) := (ax_XF_lt (by decide)).mp (ax_gx hE (107, [3, 7, 160]) (by decide))
  have F90 : (pz90 (pz_gt (ρ 0)) (pz_gN (ρ 0)) ((ρ 1) / 4) ((ρ 2) / 4) ∧ 1 ≤ (ρ 2) / 4) := (ax_XF_lt (by decide)).mp (ax_gx hE (90, [3, 7, 11]) (by decide))
  have F91 : pz_dp ((ρ 2) / 4) = (12) / 4 := (ax_XF_lt (by decide)).mp (ax_gx hE (91, [11, 12]) (by decide))
  have st := pq_ru6o F50 F78 F107 F90.1 (by rw [F91]; decide) (show ρ 3 / 4 ≤ 39 by omega)
  obtain ⟨ρ', h1, h2⟩ := pz_pn2 (K := ρ 1 / 4 + 1) (L := 2 * (ρ 2 / 4)) (xf := [(553, [50, 16, 19, 3, 23]), (78, [3, 23]), (90, [3, 23, 27]), (93, [27, 11]), (91, [27, 16]), (92, [27, 27]), (1030, [7, 23])]) hE (by decide) (fun ρ' h1 h2 h3 x hx => by
    have q0 : ρ' 0 = ρ 0 := h1 0 (by decide)
    have q1 : ρ' 1 = ρ 1 := h1 1 (by decide)
    have q2 : ρ' 2 = ρ 2 := h1 2 (by decide)
    have q3 : ρ' 3 = ρ 3 := h1 3 (by decide)
    have q4 : ρ' 4 = ρ 4 := h1 4 (by decide)
    rcases List.mem_cons.mp hx with e | hx
    · subst e
      refine (ax_XF_wr (x := 53) (by decide)).mpr ?_
      show ay_ex (ax_upd hp 50 (16) (ρ' 4)) 8 ∧ ay_ex (ax_upd hp 50 (16) (ρ' 4)) 10 ∧ ay_ex (ax_upd hp 50 (16) (ρ' 4)) 11 ∧ ay_ex (ax_upd hp 50 (16) (ρ' 4)) 12 ∧ pz_x53 (ρ' 0) (ρ' 5) (ay_at (ax_upd hp 50 (16) (ρ' 4)) 8 5) (ay_at (ax_upd hp 50 (16) (ρ' 4)) 10 0) (ay_at (ax_upd hp 50 (16) (ρ' 4)) 10 1) (ay_at (ax_upd hp 50 (16) (ρ' 4)) 10 2) (ay_at (ax_upd hp 50 (16) (ρ' 4)) 10 3) (ay_at (ax_upd hp 50 (16) (ρ' 4)) 10 4) (ay_at (ax_upd hp 50 (16) (ρ' 4)) 8 9) (ay_at (ax_upd hp 50 (16) (ρ' 4)) 8 11) (ay_at (ax_upd hp 50 (16) (ρ' 4)) 8 10) (ay_at (ax_upd hp 50 (16) (ρ' 4)) 8 3) (ay_at (ax_upd hp 50 (16) (ρ' 4)) 8 4) (ay_at (ax_upd hp 50 (16) (ρ' 4)) 11) (ay_at (ax_upd hp 50 (16) (ρ' 4)) 12)
      rw [q0, q4, h2]
      obtain ⟨o0, ho0⟩ := ay_some hT (q := 10) (g := 1) (n := 12) rfl rfl (j := 16 / 4) (by decide)
      have u1 : ∀ q, q ≠ 10 → ay_at (ax_upd hp 50 16 (ρ 4)) q = ay_at hp q := fun q hq => funext (fun j => ay_upd_ne hT.1 hq j)
      have u2 : ∀ j, ay_at (ax_upd hp 50 16 (ρ 4)) 10 j = if j = 4 then some (ρ 4) else ay_at hp 10 j := fun j => ay_upd_eq hT.1 rfl ho0 j
      refine ⟨ay_ex_upd hT.1 (ax_cellT hT (q := 8) (g := 2) rfl), ay_ex_upd hT.1 (ax_cellT hT (q := 10) (g := 1) rfl), ay_ex_upd hT.1 (ax_cellT hT (q := 11) (g := 14) rfl), ay_ex_upd hT.1 (ax_cellT hT (q := 12) (g := 15) rfl), ?_⟩
      rw [u1 8 (by decide), u2 0, if_neg (show ¬ 0 = 4 by decide), u2 1, if_neg (show ¬ 1 = 4 by decide), u2 2, if_neg (show ¬ 2 = 4 by decide), u2 3, if_neg (show ¬ 3 = 4 by decide), u2 4, if_pos rfl, u1 11 (by decide), u1 12 (by decide)]
      have eu : ρ 4 / 4 = ρ 3 / 4 + 1 := by omega
      refine pz_53 (pz_41 _) rfl ?_
      show pz53 _ _ _ _ _ _ _ _ (ρ 4 / 4) _ _ _ _ _ _ _
      rw [eu]
      exact st.1
    rcases List.mem_cons.mp hx with e | hx
    · subst e
      refine (ax_XF_lt (x := 78) (by decide)).mpr ?_
      show pz7 (pz_gt (ρ' 0)) (pz_gN (ρ' 0)) ((ρ' 5) / 4) 8
      rw [q0, h2]
      rw [pz_41]
      exact st.2.1
    rcases List.mem_cons.mp hx with e | hx
    · subst e
      refine (ax_XF_lt (x := 90) (by decide)).mpr ?_
      show (pz90 (pz_gt (ρ' 0)) (pz_gN (ρ' 0)) ((ρ' 5) / 4) ((ρ' 6) / 4) ∧ 1 ≤ (ρ' 6) / 4)
      rw [q0, h2, h3]
      rw [pz_41, pz_41]
      exact ⟨st.2.2, by have := F90.2; omega⟩
    rcases List.mem_cons.mp hx with e | hx
    · subst e
      refine (ax_XF_lt (x := 93) (by decide)).mpr ?_
      show (ρ' 6) / 4 = 2 * ((ρ' 2) / 4)
      rw [q2, h3]
      rw [pz_41]
    rcases List.mem_cons.mp hx with e | hx
    · subst e
      refine (ax_XF_lt (x := 91) (by decide)).mpr ?_
      show pz_dp ((ρ' 6) / 4) = (16) / 4
      rw [h3]
      rw [pz_41, pz_dp_push F90.2 (Or.inl rfl), F91]
    rcases List.mem_cons.mp hx with e | hx
    · subst e
      refine (ax_XF_lt (x := 92) (by decide)).mpr ?_
      show pz_strip ((ρ' 6) / 4) = (ρ' 6) / 4
      rw [h3]
      rw [pz_41]
      exact pz_strip_even (Or.inl (by omega))
    cases List.mem_singleton.mp hx
    refine (ax_XF_bi (o := 30) (by decide)).mpr (Or.inr ⟨rfl, ?_⟩)
    show ρ' 1 < ρ' 5
    rw [q1, h2]
    omega)
  exact ⟨(fun y hy => by cases hy), _, List.mem_cons_self, ρ', h1, h2⟩

theorem axq_ru6c1_4 : ax_RO ax_wC ax_XC axu_ru6c1_4 := by
  intro ρ hp hE hT
  have j0 : ρ 0 % 4 = 1 := pz_gj hE 0 (by decide) rfl
  have j1 : ρ 1 % 4 = 1 := pz_gj hE 1 (by decide) rfl
  have j2 : ρ 2 % 4 = 1 := pz_gj hE 2 (by decide) rfl
  obtain ⟨i3a, i3b, i3c, i3d⟩ := pz_gi hE 3 2147483648 2147483687 (by decide) rfl
  obtain ⟨i4a, i4b, i4c, i4d⟩ := pz_gi hE 4 0 4294967295 (by decide) rfl
  have c_units : ay_at hp 10 4 = some (ρ 3) := ay_gfj hE 50 16 15 10 4 (by decide) (by rw [ax_vl_c (by decide)]) (by rw [ax_vl_c (by decide)])
  have s1 : (ρ 3 / 4 + 2147483648) % 4294967296 + (4 / 4 + 2147483648) % 4294967296 = (ρ 4 / 4 + 2147483648) % 4294967296 + 2147483648 := pz_gs hE 15 4 19 (by decide)
  obtain ⟨-, -, -, -, F50⟩ : ay_ex hp 8 ∧ ay_ex hp 10 ∧ ay_ex hp 11 ∧ ay_ex hp 12 ∧ pz_x50 (ρ 0) (ρ 1) (ay_at hp 8 5) (ay_at hp 8 6) (ay_at hp 8 7) (ay_at hp 8 8) (ay_at hp 10 0) (ay_at hp 10 1) (ay_at hp 10 2) (ay_at hp 10 3) (ay_at hp 10 4) (ay_at hp 8 9) (ay_at hp 8 11) (ay_at hp 8 10) (ay_at hp 8 3) (ay_at hp 8 4) (ay_at hp 11) (ay_at hp 12) := (ax_XF_lt (by decide)).mp (ax_gx hE (50, [3, 7]) (by decide))
  rw [c_units] at F50
  have F78 : pz7 (pz_gt (ρ 0)) (pz_gN (ρ 0)) ((ρ 1) / 4) 8 := (ax_XF_lt (by decide)).mp (ax_gx hE (78, [3, 7]) (by decide))
  have F107 : pz107 (pz_gt (ρ 0)) (pz_gN (ρ 0)) ((ρ 1) / 4) ((4) / 4) := (ax_XF_lt (by decide)).mp (ax_gx hE (107, [3, 7, 4]) (by decide))
  have F90 : (pz90 (pz_gt (ρ 0)) (pz_gN (ρ 0)) ((ρ 1) / 4) ((ρ 2) / 4) ∧ 1 ≤ (ρ 2) / 4) := (ax_XF_lt (by decide)).mp (ax_gx hE (90, [3, 7, 11]) (by decide))
  have F91 : pz_dp ((ρ 2) / 4) = (16) / 4 := (ax_XF_lt (by decide)).mp (ax_gx hE (91, [11, 16]) (by decide))
  have st := pq_ru6u F50 F78 F107 (by decide) (by decide) F90.1 (by rw [F91]; decide) (show ρ 3 / 4 ≤ 39 by omega)
  obtain ⟨ρ', h1, h2⟩ := pz_pn2 (K := ρ 1 / 4 + 1) (L := pz_strip (ρ 2 / 4)) (xf := [(553, [50, 16, 19, 3, 23]), (79, [3, 23]), (90, [3, 23, 27]), (92, [11, 27]), (1030, [7, 23])]) hE (by decide) (fun ρ' h1 h2 h3 x hx => by
    have q0 : ρ' 0 = ρ 0 := h1 0 (by decide)
    have q1 : ρ' 1 = ρ 1 := h1 1 (by decide)
    have q2 : ρ' 2 = ρ 2 := h1 2 (by decide)
    have q3 : ρ' 3 = ρ 3 := h1 3 (by decide)
    have q4 : ρ' 4 = ρ 4 := h1 4 (by decide)
    rcases List.mem_cons.mp hx with e | hx
    · subst e
      refine (ax_XF_wr (x := 53) (by decide)).mpr ?_
      show ay_ex (ax_upd hp 50 (16) (ρ' 4)) 8 ∧ ay_ex (ax_upd hp 50 (16) (ρ' 4)) 10 ∧ ay_ex (ax_upd hp 50 (16) (ρ' 4)) 11 ∧ ay_ex (ax_upd hp 50 (16) (ρ' 4)) 12 ∧ pz_x53 (ρ' 0) (ρ' 5) (ay_at (ax_upd hp 50 (16) (ρ' 4)) 8 5) (ay_at (ax_upd hp 50 (16) (ρ' 4)) 10 0) (ay_at (ax_upd hp 50 (16) (ρ' 4)) 10 1) (ay_at (ax_upd hp 50 (16) (ρ' 4)) 10 2) (ay_at (ax_upd hp 50 (16) (ρ' 4)) 10 3) (ay_at (ax_upd hp 50 (16) (ρ' 4)) 10 4) (ay_at (ax_upd hp 50 (16) (ρ' 4)) 8 9) (ay_at (ax_upd hp 50 (16) (ρ' 4)) 8 11) (ay_at (ax_upd hp 50 (16) (ρ' 4)) 8 10) (ay_at (ax_upd hp 50 (16) (ρ' 4)) 8 3) (ay_at (ax_upd hp 50 (16) (ρ' 4)) 8 4) (ay_at (ax_upd hp 50 (16) (ρ' 4)) 11) (ay_at (ax_upd hp 50 (16) (ρ' 4)) 12)
      rw [q0, q4, h2]
      obtain ⟨o0, ho0⟩ := ay_some hT (q := 10) (g := 1) (n := 12) rfl rfl (j := 16 / 4) (by decide)
      have u1 : ∀ q, q ≠ 10 → ay_at (ax_upd hp 50 16 (ρ 4)) q = ay_at hp q := fun q hq => funext (fun j => ay_upd_ne hT.1 hq j)
      have u2 : ∀ j, ay_at (ax_upd hp 50 16 (ρ 4)) 10 j = if j = 4 then some (ρ 4) else ay_at hp 10 j := fun j => ay_upd_eq hT.1 rfl ho0 j
      refine ⟨ay_ex_upd hT.1 (ax_cellT hT (q := 8) (g := 2) rfl), ay_ex_upd hT.1 (ax_cellT hT (q := 10) (g := 1) rfl), ay_ex_upd hT.1 (ax_cellT hT (q := 11) (g := 14) rfl), ay_ex_upd hT.1 (ax_cellT hT (q := 12) (g := 15) rfl), ?_⟩
      rw [u1 8 (by decide), u2 0, if_neg (show ¬ 0 = 4 by decide), u2 1, if_neg (show ¬ 1 = 4 by decide), u2 2, if_neg (show ¬ 2 = 4 by decide), u2 3, if_neg (show ¬ 3 = 4 by decide), u2 4, if_pos rfl, u1 11 (by decide), u1 12 (by decide)]
      have eu : ρ 4 / 4 = ρ 3 / 4 + 1 := by omega
      refine pz_53 (pz_41 _) rfl ?_
      show pz53 _ _ _ _ _ _ _ _ (ρ 4 / 4) _ _ _ _ _ _ _
      rw [eu]
      exact st.1
    rcases List.mem_cons.mp hx with e | hx
    · subst e
      refine (ax_XF_lt (x := 79) (by decide)).mpr ?_
      show pz7 (pz_gt (ρ' 0)) (pz_gN (ρ' 0)) ((ρ' 5) / 4) 9
      rw [q0, h2]
      rw [pz_41]
      exact st.2.1
    rcases List.mem_cons.mp hx with e | hx
    · subst e
      refine (ax_XF_lt (x := 90) (by decide)).mpr ?_
      show (pz90 (pz_gt (ρ' 0)) (pz_gN (ρ' 0)) ((ρ' 5) / 4) ((ρ' 6) / 4) ∧ 1 ≤ (ρ' 6) / 4)
      rw [q0, h2, h3]
      rw [pz_41, pz_41]
      exact ⟨st.2.2, pz_strip_1 F90.2⟩
    rcases List.mem_cons.mp hx with e | hx
    · subst e
      refine (ax_XF_lt (x := 92) (by decide)).mpr ?_
      show pz_strip ((ρ' 2) / 4) = (ρ' 6) / 4
      rw [q2, h3]
      rw [pz_41]
    cases List.mem_singleton.mp hx
    refine (ax_XF_bi (o := 30) (by decide)).mpr (Or.inr ⟨rfl, ?_⟩)
    show ρ' 1 < ρ' 5
    rw [q1, h2]
    omega)
  exact ⟨(fun y hy => by cases hy), _, List.mem_cons_self, ρ', h1, h2⟩

theorem axq_ru6c2_4 : ax_RO ax_wC ax_XC axu_ru6c2_4 := by
  intro ρ hp hE hT
  have j0 : ρ 0 % 4 = 1 := pz_gj hE 0 (by decide) rfl
  have j1 : ρ 1 % 4 = 1 := pz_gj hE 1 (by decide) rfl
  have j2 : ρ 2 % 4 = 1 := pz_gj hE 2 (by decide) rfl
  obtain ⟨i3a, i3b, i3c, i3d⟩ := pz_gi hE 3 2147483648 2147483687 (by decide) rfl
  obtain ⟨i4a, i4b, i4c, i4d⟩ := pz_gi hE 4 0 4294967295 (by decide) rfl
  have c_units : ay_at hp 10 4 = some (ρ 3) := ay_gfj hE 50 16 15 10 4 (by decide) (by rw [ax_vl_c (by decide)]) (by rw [ax_vl_c (by decide)])
  have s1 : (ρ 3 / 4 + 2147483648) % 4294967296 + (4 / 4 + 2147483648) % 4294967296 = (ρ 4 / 4 + 2147483648) % 4294967296 + 2147483648 := pz_gs hE 15 4 19 (by decide)
  obtain ⟨-, -, -, -, F50⟩ : ay_ex hp 8 ∧ ay_ex hp 10 ∧ ay_ex hp 11 ∧ ay_ex hp 12 ∧ pz_x50 (ρ 0) (ρ 1) (ay_at hp 8 5) (ay_at hp 8 6) (ay_at hp 8 7) (ay_at hp 8 8) (ay_at hp 10 0) (ay_at hp 10 1) (ay_at hp 10 2) (ay_at hp 10 3) (ay_at hp 10 4) (ay_at hp 8 9) (ay_at hp 8 11) (ay_at hp 8 10) (ay_at hp 8 3) (ay_at hp 8 4) (ay_at hp 11) (ay_at hp 12) := (ax_XF_lt (by decide)).mp (ax_gx hE (50, [3, 7]) (by decide))
  rw [c_units] at F50
  have F78 : pz7 (pz_gt (ρ 0)) (pz_gN (ρ 0)) ((ρ 1) / 4) 8 := (ax_XF_lt (by decide)).mp (ax_gx hE (78, [3, 7]) (by decide))
  have F107 : pz107 (pz_gt (ρ 0)) (pz_gN (ρ 0)) ((ρ 1) / 4) ((8) / 4) := (ax_XF_lt (by decide)).mp (ax_gx hE (107, [3, 7, 8]) (by decide))
  have F90 : (pz90 (pz_gt (ρ 0)) (pz_gN (ρ 0)) ((ρ 1) / 4) ((ρ 2) / 4) ∧ 1 ≤ (ρ 2) / 4) := (ax_XF_lt (by decide)).mp (ax_gx hE (90, [3, 7, 11]) (by decide))
  have F91 : pz_dp ((ρ 2) / 4) = (16) / 4 := (ax_XF_lt (by decide)).mp (ax_gx hE (91, [11, 16]) (by decide))
  have st := pq_ru6u F50 F78 F107 (by decide) (by decide) F90.1 (by rw [F91]; decide) (show ρ 3 / 4 ≤ 39 by omega)
  obtain ⟨ρ', h1, h2⟩ := pz_pn2 (K := ρ 1 / 4 + 1) (L := pz_strip (ρ 2 / 4)) (xf := [(553, [50, 16, 19, 3, 23]), (79, [3, 23]), (90, [3, 23, 27]), (92, [11, 27]), (1030, [7, 23])]) hE (by decide) (fun ρ' h1 h2 h3 x hx => by
    have q0 : ρ' 0 = ρ 0 := h1 0 (by decide)
    have q1 : ρ' 1 = ρ 1 := h1 1 (by decide)
    have q2 : ρ' 2 = ρ 2 := h1 2 (by decide)
    have q3 : ρ' 3 = ρ 3 := h1 3 (by decide)
    have q4 : ρ' 4 = ρ 4 := h1 4 (by decide)
    rcases List.mem_cons.mp hx with e | hx
    · subst e
      refine (ax_XF_wr (x := 53) (by decide)).mpr ?_
      show ay_ex (ax_upd hp 50 (16) (ρ' 4)) 8 ∧ ay_ex (ax_upd hp 50 (16) (ρ' 4)) 10 ∧ ay_ex (ax_upd hp 50 (16) (ρ' 4)) 11 ∧ ay_ex (ax_upd hp 50 (16) (ρ' 4)) 12 ∧ pz_x53 (ρ' 0) (ρ' 5) (ay_at (ax_upd hp 50 (16) (ρ' 4)) 8 5) (ay_at (ax_upd hp 50 (16) (ρ' 4)) 10 0) (ay_at (ax_upd hp 50 (16) (ρ' 4)) 10 1) (ay_at (ax_upd hp 50 (16) (ρ' 4)) 10 2) (ay_at (ax_upd hp 50 (16) (ρ' 4)) 10 3) (ay_at (ax_upd hp 50 (16) (ρ' 4)) 10 4) (ay_at (ax_upd hp 50 (16) (ρ' 4)) 8 9) (ay_at (ax_upd hp 50 (16) (ρ' 4)) 8 11) (ay_at (ax_upd hp 50 (16) (ρ' 4)) 8 10) (ay_at (ax_upd hp 50 (16) (ρ' 4)) 8 3) (ay_at (ax_upd hp 50 (16) (ρ' 4)) 8 4) (ay_at (ax_upd hp 50 (16) (ρ' 4)) 11) (ay_at (ax_upd hp 50 (16) (ρ' 4)) 12)
      rw [q0, q4, h2]
      obtain ⟨o0, ho0⟩ := ay_some hT (q := 10) (g := 1) (n := 12) rfl rfl (j := 16 / 4) (by decide)
      have u1 : ∀ q, q ≠ 10 → ay_at (ax_upd hp 50 16 (ρ 4)) q = ay_at hp q := fun q hq => funext (fun j => ay_upd_ne hT.1 hq j)
      have u2 : ∀ j, ay_at (ax_upd hp 50 16 (ρ 4)) 10 j = if j = 4 then some (ρ 4) else ay_at hp 10 j := fun j => ay_upd_eq hT.1 rfl ho0 j
      refine ⟨ay_ex_upd hT.1 (ax_cellT hT (q := 8) (g := 2) rfl), ay_ex_upd hT.1 (ax_cellT hT (q := 10) (g := 1) rfl), ay_ex_upd hT.1 (ax_cellT hT (q := 11) (g := 14) rfl), ay_ex_upd hT.1 (ax_cellT hT (q := 12) (g := 15) rfl), ?_⟩
      rw [u1 8 (by decide), u2 0, if_neg (show ¬ 0 = 4 by decide), u2 1, if_neg (show ¬ 1 = 4 by decide), u2 2, if_neg (show ¬ 2 = 4 by decide), u2 3, if_neg (show ¬ 3 = 4 by decide), u2 4, if_pos rfl, u1 11 (by decide), u1 12 (by decide)]
      have eu : ρ 4 / 4 = ρ 3 / 4 + 1 := by omega
      refine pz_53 (pz_41 _) rfl ?_
      show pz53 _ _ _ _ _ _ _ _ (ρ 4 / 4) _ _ _ _ _ _ _
      rw [eu]
      exact st.1
    rcases List.mem_cons.mp hx with e | hx
    · subst e
      refine (ax_XF_lt (x := 79) (by decide)).mpr ?_
      show pz7 (pz_gt (ρ' 0)) (pz_gN (ρ' 0)) ((ρ' 5) / 4) 9
      rw [q0, h2]
      rw [pz_41]
      exact st.2.1
    rcases List.mem_cons.mp hx with e | hx
    · subst e
      refine (ax_XF_lt (x := 90) (by decide)).mpr ?_
      show (pz90 (pz_gt (ρ' 0)) (pz_gN (ρ' 0)) ((ρ' 5) / 4) ((ρ' 6) / 4) ∧ 1 ≤ (ρ' 6) / 4)
      rw [q0, h2, h3]
      rw [pz_41, pz_41]
      exact ⟨st.2.2, pz_strip_1 F90.2⟩
    rcases List.mem_cons.mp hx with e | hx
    · subst e
      refine (ax_XF_lt (x := 92) (by decide)).mpr ?_
      show pz_strip ((ρ' 2) / 4) = (ρ' 6) / 4
      rw [q2, h3]
      rw [pz_41]
    cases List.mem_singleton.mp hx
    refine (ax_XF_bi (o := 30) (by decide)).mpr (Or.inr ⟨rfl, ?_⟩)
    show ρ' 1 < ρ' 5
    rw [q1, h2]
    omega)
  exact ⟨(fun y hy => by cases hy), _, List.mem_cons_self, ρ', h1, h2⟩

theorem axq_ru6c3_4 : ax_RO ax_wC ax_XC axu_ru6c3_4 := by
  intro ρ hp hE hT
  have j0 : ρ 0 % 4 = 1 := pz_gj hE 0 (by decide) rfl
  have j1 : ρ 1 % 4 = 1 := pz_gj hE 1 (by decide) rfl
  have j2 : ρ 2 % 4 = 1 := pz_gj hE 2 (by decide) rfl
  obtain ⟨i3a, i3b, i3c, i3d⟩ := pz_gi hE 3 2147483648 2147483687 (by decide) rfl
  obtain ⟨i4a, i4b, i4c, i4d⟩ := pz_gi hE 4 0 4294967295 (by decide) rfl
  have c_units : ay_at hp 10 4 = some (ρ 3) := ay_gfj hE 50 16 15 10 4 (by decide) (by rw [ax_vl_c (by decide)]) (by rw [ax_vl_c (by decide)])
  have s1 : (ρ 3 / 4 + 2147483648) % 4294967296 + (4 / 4 + 2147483648) % 4294967296 = (ρ 4 / 4 + 2147483648) % 4294967296 + 2147483648 := pz_gs hE 15 4 19 (by decide)
  obtain ⟨-, -, -, -, F50⟩ : ay_ex hp 8 ∧ ay_ex hp 10 ∧ ay_ex hp 11 ∧ ay_ex hp 12 ∧ pz_x50 (ρ 0) (ρ 1) (ay_at hp 8 5) (ay_at hp 8 6) (ay_at hp 8 7) (ay_at hp 8 8) (ay_at hp 10 0) (ay_at hp 10 1) (ay_at hp 10 2) (ay_at hp 10 3) (ay_at hp 10 4) (ay_at hp 8 9) (ay_at hp 8 11) (ay_at hp 8 10) (ay_at hp 8 3) (ay_at hp 8 4) (ay_at hp 11) (ay_at hp 12) := (ax_XF_lt (by decide)).mp (ax_gx hE (50, [3, 7]) (by decide))
  rw [c_units] at F50
  have F78 : pz7 (pz_gt (ρ 0)) (pz_gN (ρ 0)) ((ρ 1) / 4) 8 := (ax_XF_lt (by decide)).mp (ax_gx hE (78, [3, 7]) (by decide))
  have F107 : pz107 (pz_gt (ρ 0)) (pz_gN (ρ 0)) ((ρ 1) / 4) ((12) / 4) := (ax_XF_lt (by decide)).mp (ax_gx hE (107, [3, 7, 12]) (by decide))
  have F90 : (pz90 (pz_gt (ρ 0)) (pz_gN (ρ 0)) ((ρ 1) / 4) ((ρ 2) / 4) ∧ 1 ≤ (ρ 2) / 4) := (ax_XF_lt (by decide)).mp (ax_gx hE (90, [3, 7, 11]) (by decide))
  have F91 : pz_dp ((ρ 2) / 4) = (16) / 4 := (ax_XF_lt (by decide)).mp (ax_gx hE (91, [11, 16]) (by decide))
  have st := pq_ru6u F50 F78 F107 (by decide) (by decide) F90.1 (by rw [F91]; decide) (show ρ 3 / 4 ≤ 39 by omega)
  obtain ⟨ρ', h1, h2⟩ := pz_pn2 (K := ρ 1 / 4 + 1) (L := pz_strip (ρ 2 / 4)) (xf := [(553, [50, 16, 19, 3, 23]), (79, [3, 23]), (90, [3, 23, 27]), (92, [11, 27]), (1030, [7, 23])]) hE (by decide) (fun ρ' h1 h2 h3 x hx => by
    have q0 : ρ' 0 = ρ 0 := h1 0 (by decide)
    have q1 : ρ' 1 = ρ 1 := h1 1 (by decide)
    have q2 : ρ' 2 = ρ 2 := h1 2 (by decide)
    have q3 : ρ' 3 = ρ 3 := h1 3 (by decide)
    have q4 : ρ' 4 = ρ 4 := h1 4 (by decide)
    rcases List.mem_cons.mp hx with e | hx
    · subst e
      refine (ax_XF_wr (x := 53) (by decide)).mpr ?_
      show ay_ex (ax_upd hp 50 (16) (ρ' 4)) 8 ∧ ay_ex (ax_upd hp 50 (16) (ρ' 4)) 10 ∧ ay_ex (ax_upd hp 50 (16) (ρ' 4)) 11 ∧ ay_ex (ax_upd hp 50 (16) (ρ' 4)) 12 ∧ pz_x53 (ρ' 0) (ρ' 5) (ay_at (ax_upd hp 50 (16) (ρ' 4)) 8 5) (ay_at (ax_upd hp 50 (16) (ρ' 4)) 10 0) (ay_at (ax_upd hp 50 (16) (ρ' 4)) 10 1) (ay_at (ax_upd hp 50 (16) (ρ' 4)) 10 2) (ay_at (ax_upd hp 50 (16) (ρ' 4)) 10 3) (ay_at (ax_upd hp 50 (16) (ρ' 4)) 10 4) (ay_at (ax_upd hp 50 (16) (ρ' 4)) 8 9) (ay_at (ax_upd hp 50 (16) (ρ' 4)) 8 11) (ay_at (ax_upd hp 50 (16) (ρ' 4)) 8 10) (ay_at (ax_upd hp 50 (16) (ρ' 4)) 8 3) (ay_at (ax_upd hp 50 (16) (ρ' 4)) 8 4) (ay_at (ax_upd hp 50 (16) (ρ' 4)) 11) (ay_at (ax_upd hp 50 (16) (ρ' 4)) 12)
      rw [q0, q4, h2]
      obtain ⟨o0, ho0⟩ := ay_some hT (q := 10) (g := 1) (n := 12) rfl rfl (j := 16 / 4) (by decide)
      have u1 : ∀ q, q ≠ 10 → ay_at (ax_upd hp 50 16 (ρ 4)) q = ay_at hp q := fun q hq => funext (fun j => ay_upd_ne hT.1 hq j)
      have u2 : ∀ j, ay_at (ax_upd hp 50 16 (ρ 4)) 10 j = if j = 4 then some (ρ 4) else ay_at hp 10 j := fun j => ay_upd_eq hT.1 rfl ho0 j
      refine ⟨ay_ex_upd hT.1 (ax_cellT hT (q := 8) (g := 2) rfl), ay_ex_upd hT.1 (ax_cellT hT (q := 10) (g := 1) rfl), ay_ex_upd hT.1 (ax_cellT hT (q := 11) (g := 14) rfl), ay_ex_upd hT.1 (ax_cellT hT (q := 12) (g := 15) rfl), ?_⟩
      rw [u1 8 (by decide), u2 0, if_neg (show ¬ 0 = 4 by decide), u2 1, if_neg (show ¬ 1 = 4 by decide), u2 2, if_neg (show ¬ 2 = 4 by decide), u2 3, if_neg (show ¬ 3 = 4 by decide), u2 4, if_pos rfl, u1 11 (by decide), u1 12 (by decide)]
      have eu : ρ 4 / 4 = ρ 3 / 4 + 1 := by omega
      refine pz_53 (pz_41 _) rfl ?_
      show pz53 _ _ _ _ _ _ _ _ (ρ 4 / 4) _ _ _ _ _ _ _
      rw [eu]
      exact st.1
    rcases List.mem_cons.mp hx with e | hx
    · subst e
      refine (ax_XF_lt (x := 79) (by decide)).mpr ?_
      show pz7 (pz_gt (ρ' 0)) (pz_gN (ρ' 0)) ((ρ' 5) / 4) 9
      rw [q0, h2]
      rw [pz_41]
      exact st.2.1
    rcases List.mem_cons.mp hx with e | hx
    · subst e
      refine (ax_XF_lt (x := 90) (by decide)).mpr ?_
      show (pz90 (pz_gt (ρ' 0)) (pz_gN (ρ' 0)) ((ρ' 5) / 4) ((ρ' 6) / 4) ∧ 1 ≤ (ρ' 6) / 4)
      rw [q0, h2, h3]
      rw [pz_41, pz_41]
      exact ⟨st.2.2, pz_strip_1 F90.2⟩
    rcases List.mem_cons.mp hx with e | hx
    · subst e
      refine (ax_XF_lt (x := 92) (by decide)).mpr ?_
      show pz_strip ((ρ' 2) / 4) = (ρ' 6) / 4
      rw [q2, h3]
      rw [pz_41]
    cases List.mem_singleton.mp hx
    refine (ax_XF_bi (o := 30) (by decide)).mpr (Or.inr ⟨rfl, ?_⟩)
    show ρ' 1 < ρ' 5
    rw [q1, h2]
    omega)
  exact ⟨(fun y hy => by cases hy), _, List.mem_cons_self, ρ', h1, h2⟩

theorem axq_ru6c4_4 : ax_RO ax_wC ax_XC axu_ru6c4_4 := by
  intro ρ hp hE hT
  have j0 : ρ 0 % 4 = 1 := pz_gj hE 0 (by decide) rfl
  have j1 : ρ 1 % 4 = 1 := pz_gj hE 1 (by decide) rfl
  have j2 : ρ 2 % 4 = 1 := pz_gj hE 2 (by decide) rfl
  obtain ⟨i3a, i3b, i3c, i3d⟩ := pz_gi hE 3 2147483648 2147483687 (by decide) rfl
  obtain ⟨i4a, i4b, i4c, i4d⟩ := pz_gi hE 4 0 4294967295 (by decide) rfl
  have c_units : ay_at hp 10 4 = some (ρ 3) := ay_gfj hE 50 16 15 10 4 (by decide) (by rw [ax_vl_c (by decide)]) (by rw [ax_vl_c (by decide)])
  have s1 : (ρ 3 / 4 + 2147483648) % 4294967296 + (4 / 4 + 2147483648) % 4294967296 = (ρ 4 / 4 + 2147483648) % 4294967296 + 2147483648 := pz_gs hE 15 4 19 (by decide)
  obtain ⟨-, -, -, -, F50⟩ : ay_ex hp 8 ∧ ay_ex hp 10 ∧ ay_ex hp 11 ∧ ay_ex hp 12 ∧ pz_x50 (ρ 0) (ρ 1) (ay_at hp 8 5) (ay_at hp 8 6) (ay_at hp 8 7) (ay_at hp 8 8) (ay_at hp 10 0) (ay_at hp 10 1) (ay_at hp 10 2) (ay_at hp 10 3) (ay_at hp 10 4) (ay_at hp 8 9) (ay_at hp 8 11) (ay_at hp 8 10) (ay_at hp 8 3) (ay_at hp 8 4) (ay_at hp 11) (ay_at hp 12) := (ax_XF_lt (by decide)).mp (ax_gx hE (50, [3, 7]) (by decide))
  rw [c_units] at F50
  have F78 : pz7 (pz_gt (ρ 0)) (pz_gN (ρ 0)) ((ρ 1) / 4) 8 := (ax_XF_lt (by decide)).mp (ax_gx hE (78, [3, 7]) (by decide))
  have F107 : pz107 (pz_gt (ρ 0)) (pz_gN (ρ 0)) ((ρ 1) / 4) ((16) / 4) := (ax_XF_lt (by decide)).mp (ax_gx hE (107, [3, 7, 16]) (by decide))
  have F90 : (pz90 (pz_gt (ρ 0)) (pz_gN (ρ 0)) ((ρ 1) / 4) ((ρ 2) / 4) ∧ 1 ≤ (ρ 2) / 4) := (ax_XF_lt (by decide)).mp (ax_gx hE (90, [3, 7, 11]) (by decide))
  have F91 : pz_dp ((ρ 2) / 4) = (16) / 4 := (ax_XF_lt (by decide)).mp (ax_gx hE (91, [11, 16]) (by decide))
  have st := pq_ru6u F50 F78 F107 (by decide) (by decide) F90.1 (by rw [F91]; decide) (show ρ 3 / 4 ≤ 39 by omega)
  obtain ⟨ρ', h1, h2⟩ := pz_pn2 (K := ρ 1 / 4 + 1) (L := pz_strip (ρ 2 / 4)) (xf := [(553, [50, 16, 19, 3, 23]), (79, [3, 23]), (90, [3, 23, 27]), (92, [11, 27]), (1030, [7, 23])]) hE (by decide) (fun ρ' h1 h2 h3 x hx => by
    have q0 : ρ' 0 = ρ 0 := h1 0 (by decide)
    have q1 : ρ' 1 = ρ 1 := h1 1 (by decide)
    have q2 : ρ' 2 = ρ 2 := h1 2 (by decide)
    have q3 : ρ' 3 = ρ 3 := h1 3 (by decide)
    have q4 : ρ' 4 = ρ 4 := h1 4 (by decide)
    rcases List.mem_cons.mp hx with e | hx
    · subst e
      refine (ax_XF_wr (x := 53) (by decide)).mpr ?_
      show ay_ex (ax_upd hp 50 (16) (ρ' 4)) 8 ∧ ay_ex (ax_upd hp 50 (16) (ρ' 4)) 10 ∧ ay_ex (ax_upd hp 50 (16) (ρ' 4)) 11 ∧ ay_ex (ax_upd hp 50 (16) (ρ' 4)) 12 ∧ pz_x53 (ρ' 0) (ρ' 5) (ay_at (ax_upd hp 50 (16) (ρ' 4)) 8 5) (ay_at (ax_upd hp 50 (16) (ρ' 4)) 10 0) (ay_at (ax_upd hp 50 (16) (ρ' 4)) 10 1) (ay_at (ax_upd hp 50 (16) (ρ' 4)) 10 2) (ay_at (ax_upd hp 50 (16) (ρ' 4)) 10 3) (ay_at (ax_upd hp 50 (16) (ρ' 4)) 10 4) (ay_at (ax_upd hp 50 (16) (ρ' 4)) 8 9) (ay_at (ax_upd hp 50 (16) (ρ' 4)) 8 11) (ay_at (ax_upd hp 50 (16) (ρ' 4)) 8 10) (ay_at (ax_upd hp 50 (16) (ρ' 4)) 8 3) (ay_at (ax_upd hp 50 (16) (ρ' 4)) 8 4) (ay_at (ax_upd hp 50 (16) (ρ' 4)) 11) (ay_at (ax_upd hp 50 (16) (ρ' 4)) 12)
      rw [q0, q4, h2]
      obtain ⟨o0, ho0⟩ := ay_some hT (q := 10) (g := 1) (n := 12) rfl rfl (j := 16 / 4) (by decide)
      have u1 : ∀ q, q ≠ 10 → ay_at (ax_upd hp 50 16 (ρ 4)) q = ay_at hp q := fun q hq => funext (fun j => ay_upd_ne hT.1 hq j)
      have u2 : ∀ j, ay_at (ax_upd hp 50 16 (ρ 4)) 10 j = if j = 4 then some (ρ 4) else ay_at hp 10 j := fun j => ay_upd_eq hT.1 rfl ho0 j
      refine ⟨ay_ex_upd hT.1 (ax_cellT hT (q := 8) (g := 2) rfl), ay_ex_upd hT.1 (ax_cellT hT (q := 10) (g := 1) rfl), ay_ex_upd hT.1 (ax_cellT hT (q := 11) (g := 14) rfl), ay_ex_upd hT.1 (ax_cellT hT (q := 12) (g := 15) rfl), ?_⟩
      rw [u1 8 (by decide), u2 0, if_neg (show ¬ 0 = 4 by decide), u2 1, if_neg (show ¬ 1 = 4 by decide), u2 2, if_neg (show ¬ 2 = 4 by decide), u2 3, if_neg (show ¬ 3 = 4 by decide), u2 4, if_pos rfl, u1 11 (by decide), u1 12 (by decide)]
      have eu : ρ 4 / 4 = ρ 3 / 4 + 1 := by omega
      refine pz_53 (pz_41 _) rfl ?_
      show pz53 _ _ _ _ _ _ _ _ (ρ 4 / 4) _ _ _ _ _ _ _
      rw [eu]
      exact st.1
    rcases List.mem_cons.mp hx with e | hx
    · subst e
      refine (ax_XF_lt (x := 79) (by decide)).mpr ?_
      show pz7 (pz_gt (ρ' 0)) (pz_gN (ρ' 0)) ((ρ' 5) / 4) 9
      rw [q0, h2]
      rw [pz_41]
      exact st.2.1
    rcases List.mem_cons.mp hx with e | hx
    · subst e
      refine (ax_XF_lt (x := 90) (by decide)).mpr ?_
      show (pz90 (pz_gt (ρ' 0)) (pz_gN (ρ' 0)) ((ρ' 5) / 4) ((ρ' 6) / 4) ∧ 1 ≤ (ρ' 6) / 4)
      rw [q0, h2, h3]
      rw [pz_41, pz_41]
      exact ⟨st.2.2, pz_strip_1 F90.2⟩
    rcases List.mem_cons.mp hx with e | hx
    · subst e
      refine (ax_XF_lt (x := 92) (by decide)).mpr ?_
      show pz_strip ((ρ' 2) / 4) = (ρ' 6) / 4
      rw [q2, h3]
      rw [pz_41]
    cases List.mem_singleton.mp hx
    refine (ax_XF_bi (o := 30) (by decide)).mpr (Or.inr ⟨rfl, ?_⟩)
    show ρ' 1 < ρ' 5
    rw [q1, h2]
    omega)
  exact ⟨(fun y hy => by cases hy), _, List.mem_cons_self, ρ', h1, h2⟩

theorem axq_ru6c5_4 : ax_RO ax_wC ax_XC axu_ru6c5_4 := by
  intro ρ hp hE hT
  have j0 : ρ 0 % 4 = 1 := pz_gj hE 0 (by decide) rfl
  have j1 : ρ 1 % 4 = 1 := pz_gj hE 1 (by decide) rfl
  have j2 : ρ 2 % 4 = 1 := pz_gj hE 2 (by decide) rfl
  obtain ⟨i3a, i3b, i3c, i3d⟩ := pz_gi hE 3 2147483648 2147483687 (by decide) rfl
  obtain ⟨i4a, i4b, i4c, i4d⟩ := pz_gi hE 4 0 4294967295 (by decide) rfl
  have c_units : ay_at hp 10 4 = some (ρ 3) := ay_gfj hE 50 16 15 10 4 (by decide) (by rw [ax_vl_c (by decide)]) (by rw [ax_vl_c (by decide)])
  have s1 : (ρ 3 / 4 + 2147483648) % 4294967296 + (4 / 4 + 2147483648) % 4294967296 = (ρ 4 / 4 + 2147483648) % 4294967296 + 2147483648 := pz_gs hE 15 4 19 (by decide)
  obtain ⟨-, -, -, -, F50⟩ : ay_ex hp 8 ∧ ay_ex hp 10 ∧ ay_ex hp 11 ∧ ay_ex hp 12 ∧ pz_x50 (ρ 0) (ρ 1) (ay_at hp 8 5) (ay_at hp 8 6) (ay_at hp 8 7) (ay_at hp 8 8) (ay_at hp 10 0) (ay_at hp 10 1) (ay_at hp 10 2) (ay_at hp 10 3) (ay_at hp 10 4) (ay_at hp 8 9) (ay_at hp 8 11) (ay_at hp 8 10) (ay_at hp 8 3) (ay_at hp 8 4) (ay_at hp 11) (ay_at hp 12) := (ax_XF_lt (by decide)).mp (ax_gx hE (50, [3, 7]) (by decide))
  rw [c_units] at F50
  have F78 : pz7 (pz_gt (ρ 0)) (pz_gN (ρ 0)) ((ρ 1) / 4) 8 := (ax_XF_lt (by decide)).mp (ax_gx hE (78, [3, 7]) (by decide))
  have F107 : pz107 (pz_gt (ρ 0)) (pz_gN (ρ 0)) ((ρ 1) / 4) ((20) / 4) := (ax_XF_lt (by decide)).mp (ax_gx hE (107, [3, 7, 20]) (by decide))
  have F90 : (pz90 (pz_gt (ρ 0)) (pz_gN (ρ 0)) ((ρ 1) / 4) ((ρ 2) / 4) ∧ 1 ≤ (ρ 2) / 4) := (ax_XF_lt (by decide)).mp (ax_gx hE (90, [3, 7, 11]) (by decide))
  have F91 : pz_dp ((ρ 2) / 4) = (16) / 4 := (ax_XF_lt (by decide)).mp (ax_gx hE (91, [11, 16]) (by decide))
  have st := pq_ru6m F50 F78 F107 F90.1 (by rw [F91]; decide) (show ρ 3 / 4 ≤ 39 by omega)
  obtain ⟨ρ', h1, h2⟩ := pz_pn2 (K := ρ 1 / 4 + 1) (L := 2 * (ρ 2 / 4) + 1) (xf := [(553, [50, 16, 19, 3, 23]), (78, [3, 23]), (90, [3, 23, 27]), (108, [11, 27]), (91, [27, 20]), (1030, [7, 23])]) hE (by decide) (fun ρ' h1 h2 h3 x hx => by
    have q0 : ρ' 0 = ρ 0 := h1 0 (by decide)
    have q1 : ρ' 1 = ρ 1 := h1 1 (by decide)
    have q2 : ρ' 2 = ρ 2 := h1 2 (by decide)
    have q3 : ρ' 3 = ρ 3 := h1 3 (by decide)
    have q4 : ρ' 4 = ρ 4 := h1 4 (by decide)
    rcases List.mem_cons.mp hx with e | hx
    · subst e
      refine (ax_XF_wr (x := 53) (by decide)).mpr ?_
      show ay_ex (ax_upd hp 50 (16) (ρ' 4)) 8 ∧ ay_ex (ax_upd hp 50 (16) (ρ' 4)) 10 ∧ ay_ex (ax_upd hp 50 (16) (ρ' 4)) 11 ∧ ay_ex (ax_upd hp 50 (16) (ρ' 4)) 12 ∧ pz_x53 (ρ' 0) (ρ' 5) (ay_at (ax_upd hp 50 (16) (ρ' 4)) 8 5) (ay_at (ax_upd hp 50 (16) (ρ' 4)) 10 0) (ay_at (ax_upd hp 50 (16) (ρ' 4)) 10 1) (ay_at (ax_upd hp 50 (16) (ρ' 4)) 10 2) (ay_at (ax_upd hp 50 (16) (ρ' 4)) 10 3) (ay_at (ax_upd hp 50 (16) (ρ' 4)) 10 4) (ay_at (ax_upd hp 50 (16) (ρ' 4)) 8 9) (ay_at (ax_upd hp 50 (16) (ρ' 4)) 8 11) (ay_at (ax_upd hp 50 (16) (ρ' 4)) 8 10) (ay_at (ax_upd hp 50 (16) (ρ' 4)) 8 3) (ay_at (ax_upd hp 50 (16) (ρ' 4)) 8 4) (ay_at (ax_upd hp 50 (16) (ρ' 4)) 11) (ay_at (ax_upd hp 50 (16) (ρ' 4)) 12)
      rw [q0, q4, h2]
      obtain ⟨o0, ho0⟩ := ay_some hT (q := 10) (g := 1) (n := 12) rfl rfl (j := 16 / 4) (by decide)
      have u1 : ∀ q, q ≠ 10 → ay_at (ax_upd hp 50 16 (ρ 4)) q = ay_at hp q := fun q hq => funext (fun j => ay_upd_ne hT.1 hq j)
      have u2 : ∀ j, ay_at (ax_upd hp 50 16 (ρ 4)) 10 j = if j = 4 then some (ρ 4) else ay_at hp 10 j := fun j => ay_upd_eq hT.1 rfl ho0 j
      refine ⟨ay_ex_upd hT.1 (ax_cellT hT (q := 8) (g := 2) rfl), ay_ex_upd hT.1 (ax_cellT hT (q := 10) (g := 1) rfl), ay_ex_upd hT.1 (ax_cellT hT (q := 11) (g := 14) rfl), ay_ex_upd hT.1 (ax_cellT hT (q := 12) (g := 15) rfl), ?_⟩
      rw [u1 8 (by decide), u2 0, if_neg (show ¬ 0 = 4 by decide), u2 1, if_neg (show ¬ 1 = 4 by decide), u2 2, if_neg (show ¬ 2 = 4 by decide), u2 3, if_neg (show ¬ 3 = 4 by decide), u2 4, if_pos rfl, u1 11 (by decide), u1 12 (by decide)]
      have eu : ρ 4 / 4 = ρ 3 / 4 + 1 := by omega
      refine pz_53 (pz_41 _) rfl ?_
      show pz53 _ _ _ _ _ _ _ _ (ρ 4 / 4) _ _ _ _ _ _ _
      rw [eu]
      exact st.1
    rcases List.mem_cons.mp hx with e | hx
    · subst e
      refine (ax_XF_lt (x := 78) (by decide)).mpr ?_
      show pz7 (pz_gt (ρ' 0)) (pz_gN (ρ' 0)) ((ρ' 5) / 4) 8
      rw [q0, h2]
      rw [pz_41]
      exact st.2.1
    rcases List.mem_cons.mp hx with e | hx
    · subst e
      refine (ax_XF_lt (x := 90) (by decide)).mpr ?_
      show (pz90 (pz_gt (ρ' 0)) (pz_gN (ρ' 0)) ((ρ' 5) / 4) ((ρ' 6) / 4) ∧ 1 ≤ (ρ' 6) / 4)
      rw [q0, h2, h3]
      rw [pz_41, pz_41]
      exact ⟨st.2.2, by omega⟩
    rcases List.mem_cons.mp hx with e | hx
    · subst e
      refine (ax_XF_lt (x := 108) (by decide)).mpr ?_
      show ((ρ' 6) / 4 = 2 * ((ρ' 2) / 4) + 1 ∧ 1 ≤ (ρ' 2) / 4)
      rw [q2, h3]
      rw [pz_41]
      exact ⟨rfl, F90.2⟩
    rcases List.mem_cons.mp hx with e | hx
    · subst e
      refine (ax_XF_lt (x := 91) (by decide)).mpr ?_
      show pz_dp ((ρ' 6) / 4) = (20) / 4
      rw [h3]
      rw [pz_41, pz_dp_push F90.2 (Or.inr rfl), F91]
    cases List.mem_singleton.mp hx
    refine (ax_XF_bi (o := 30) (by decide)).mpr (Or.inr ⟨rfl, ?_⟩)
    show ρ' 1 < ρ' 5
    rw [q1, h2]
    omega)
  exact ⟨(fun y hy => by cases hy), _, List.mem_cons_self, ρ', h1, h2⟩

theorem axq_ru6c40_4 : ax_RO ax_wC ax_XC axu_ru6c40_4 := by
  intro ρ hp hE hT
  have j0 : ρ 0 % 4 = 1 := pz_gj hE 0 (by decide) rfl
  have j1 : ρ 1 % 4 = 1 := pz_gj hE 1 (by decide) rfl
  have j2 : ρ 2 % 4 = 1 := pz_gj hE 2 (by decide) rfl
  obtain ⟨i3a, i3b, i3c, i3d⟩ := pz_gi hE 3 2147483648 2147483687 (by decide) rfl
  obtain ⟨i4a, i4b, i4c, i4d⟩ := pz_gi hE 4 0 4294967295 (by decide) rfl
  have c_units : ay_at hp 10 4 = some (ρ 3) := ay_gfj hE 50 16 15 10 4 (by decide) (by rw [ax_vl_c (by decide)]) (by rw [ax_vl_c (by decide)])
  have s1 : (ρ 3 / 4 + 2147483648) % 4294967296 + (4 / 4 + 2147483648) % 4294967296 = (ρ 4 / 4 + 2147483648) % 4294967296 + 2147483648 := pz_gs hE 15 4 19 (by decide)
  obtain ⟨-, -, -, -, F50⟩ : ay_ex hp 8 ∧ ay_ex hp 10 ∧ ay_ex hp 11 ∧ ay_ex hp 12 ∧ pz_x50 (ρ 0) (ρ 1) (ay_at hp 8 5) (ay_at hp 8 6) (ay_at hp 8 7) (ay_at hp 8 8) (ay_at hp 10 0) (ay_at hp 10 1) (ay_at hp 10 2) (ay_at hp 10 3) (ay_at hp 10 4) (ay_at hp 8 9) (ay_at hp 8 11) (ay_at hp 8 10) (ay_at hp 8 3) (ay_at hp 8 4) (ay_at hp 11) (ay_at hp 12) := (ax_XF_lt (by decide)).mp (ax_gx hE (50, [3, 7]) (by decide))
  rw [c_units] at F50
  have F78 : pz7 (pz_gt (ρ 0)) (pz_gN (ρ 0)) ((ρ 1) / 4) 8 := (ax_XF_lt (by decide)).mp (ax_gx hE (78, [3, 7]) (by decide))
  have F107 : pz107 (pz_gt (ρ 0)) (pz_gN (ρ 0)) ((ρ 1) / 4) ((160) / 4) := (ax_XF_lt (by decide)).mp (ax_gx hE (107, [3, 7, 160]) (by decide))
  have F90 : (pz90 (pz_gt (ρ 0)) (pz_gN (ρ 0)) ((ρ 1) / 4) ((ρ 2) / 4) ∧ 1 ≤ (ρ 2) / 4) := (ax_XF_lt (by decide)).mp (ax_gx hE (90, [3, 7, 11]) (by decide))
  have F91 : pz_dp ((ρ 2) / 4) = (16) / 4 := (ax_XF_lt (by decide)).mp (ax_gx hE (91, [11, 16]) (by decide))
  have st := pq_ru6o F50 F78 F107 F90.1 (by rw [F91]; decide) (show ρ 3 / 4 ≤ 39 by omega)
  obtain ⟨ρ', h1, h2⟩ := pz_pn2 (K := ρ 1 / 4 + 1) (L := 2 * (ρ 2 / 4)) (xf := [(553, [50, 16, 19, 3, 23]), (78, [3, 23]), (90, [3, 23, 27]), (93, [27, 11]), (91, [27, 20]), (92, [27, 27]), (1030, [7, 23])]) hE (by decide) (fun ρ' h1 h2 h3 x hx => by
    have q0 : ρ' 0 = ρ 0 := h1 0 (by decide)
    have q1 : ρ' 1 = ρ 1 := h1 1 (by decide)
    have q2 : ρ' 2 = ρ 2 := h1 2 (by decide)
    have q3 : ρ' 3 = ρ 3 := h1 3 (by decide)
    have q4 : ρ' 4 = ρ 4 := h1 4 (by decide)
    rcases List.mem_cons.mp hx with e | hx
    · subst e
      refine (ax_XF_wr (x := 53) (by decide)).mpr ?_
      show ay_ex (ax_upd hp 50 (16) (ρ' 4)) 8 ∧ ay_ex (ax_upd hp 50 (16) (ρ' 4)) 10 ∧ ay_ex (ax_upd hp 50 (16) (ρ' 4)) 11 ∧ ay_ex (ax_upd hp 50 (16) (ρ' 4)) 12 ∧ pz_x53 (ρ' 0) (ρ' 5) (ay_at (ax_upd hp 50 (16) (ρ' 4)) 8 5) (ay_at (ax_upd hp 50 (16) (ρ' 4)) 10 0) (ay_at (ax_upd hp 50 (16) (ρ' 4)) 10 1) (ay_at (ax_upd hp 50 (16) (ρ' 4)) 10 2) (ay_at (ax_upd hp 50 (16) (ρ' 4)) 10 3) (ay_at (ax_upd hp 50 (16) (ρ' 4)) 10 4) (ay_at (ax_upd hp 50 (16) (ρ' 4)) 8 9) (ay_at (ax_upd hp 50 (16) (ρ' 4)) 8 11) (ay_at (ax_upd hp 50 (16) (ρ' 4)) 8 10) (ay_at (ax_upd hp 50 (16) (ρ' 4)) 8 3) (ay_at (ax_upd hp 50 (16) (ρ' 4)) 8 4) (ay_at (ax_upd hp 50 (16) (ρ' 4)) 11) (ay_at (ax_upd hp 50 (16) (ρ' 4)) 12)
      rw [q0, q4, h2]
      obtain ⟨o0, ho0⟩ := ay_some hT (q := 10) (g := 1) (n := 12) rfl rfl (j := 16 / 4) (by decide)
      have u1 : ∀ q, q ≠ 10 → ay_at (ax_upd hp 50 16 (ρ 4)) q = ay_at hp q := fun q hq => funext (fun j => ay_upd_ne hT.1 hq j)
      have u2 : ∀ j, ay_at (ax_upd hp 50 16 (ρ 4)) 10 j = if j = 4 then some (ρ 4) else ay_at hp 10 j := fun j => ay_upd_eq hT.1 rfl ho0 j
      refine ⟨ay_ex_upd hT.1 (ax_cellT hT (q := 8) (g := 2) rfl), ay_ex_upd hT.1 (ax_cellT hT (q := 10) (g := 1) rfl), ay_ex_upd hT.1 (ax_cellT hT (q := 11) (g := 14) rfl), ay_ex_upd hT.1 (ax_cellT hT (q := 12) (g := 15) rfl), ?_⟩
      rw [u1 8 (by decide), u2 0, if_neg (show ¬ 0 = 4 by decide), u2 1, if_neg (show ¬ 1 = 4 by decide), u2 2, if_neg (show ¬ 2 = 4 by decide), u2 3, if_neg (show ¬ 3 = 4 by decide), u2 4, if_pos rfl, u1 11 (by decide), u1 12 (by decide)]
      have eu : ρ 4 / 4 = ρ 3 / 4 + 1 := by omega
      refine pz_53 (pz_41 _) rfl ?_
      show pz53 _ _ _ _ _ _ _ _ (ρ 4 / 4) _ _ _ _ _ _ _
      rw [eu]
      exact st.1
    rcases List.mem_cons.mp hx with e | hx
    · subst e
      refine (ax_XF_lt (x := 78) (by decide)).mpr ?_
      show pz7 (pz_gt (ρ' 0)) (pz_gN (ρ' 0)) ((ρ' 5) / 4) 8
      rw [q0, h2]
      rw [pz_41]
      exact st.2.1
    rcases List.mem_cons.mp hx with e | hx
    · subst e
      refine (ax_XF_lt (x := 90) (by decide)).mpr ?_
      show (pz90 (pz_gt (ρ' 0)) (pz_gN (ρ' 0)) ((ρ' 5) / 4) ((ρ' 6) / 4) ∧ 1 ≤ (ρ' 6) / 4)
      rw [q0, h2, h3]
      rw [pz_41, pz_41]
      exact ⟨st.2.2, by have := F90.2; omega⟩
    rcases List.mem_cons.mp hx with e | hx
    · subst e
      refine (ax_XF_lt (x := 93) (by decide)).mpr ?_
      show (ρ' 6) / 4 = 2 * ((ρ' 2) / 4)
      rw [q2, h3]
      rw [pz_41]
    rcases List.mem_cons.mp hx with e | hx
    · subst e
      refine (ax_XF_lt (x := 91) (by decide)).mpr ?_
      show pz_dp ((ρ' 6) / 4) = (20) / 4
      rw [h3]
      rw [pz_41, pz_dp_push F90.2 (Or.inl rfl), F91]
    rcases List.mem_cons.mp hx with e | hx
    · subst e
      refine (ax_XF_lt (x := 92) (by decide)).mpr ?_
      show pz_strip ((ρ' 6) / 4) = (ρ' 6) / 4
      rw [h3]
      rw [pz_41]
      exact pz_strip_even (Or.inl (by omega))
    cases List.mem_singleton.mp hx
    refine (ax_XF_bi (o := 30) (by decide)).mpr (Or.inr ⟨rfl, ?_⟩)
    show ρ' 1 < ρ' 5
    rw [q1, h2]
    omega)
  exact ⟨(fun y hy => by cases hy), _, List.mem_cons_self, ρ', h1, h2⟩

theorem axq_ru6c1_5 : ax_RO ax_wC ax_XC axu_ru6c1_5 := by
  intro ρ hp hE hT
  have j0 : ρ 0 % 4 = 1 := pz_gj hE 0 (by decide) rfl
  have j1 : ρ 1 % 4 = 1 := pz_gj hE 1 (by decide) rfl
  have j2 : ρ 2 % 4 = 1 := pz_gj hE 2 (by decide) rfl
  obtain ⟨i3a, i3b, i3c, i3d⟩ := pz_gi hE 3 2147483648 2147483687 (by decide) rfl
  obtain ⟨i4a, i4b, i4c, i4d⟩ := pz_gi hE 4 0 4294967295 (by decide) rfl
  have c_units : ay_at hp 10 4 = some (ρ 3) := ay_gfj hE 50 16 15 10 4 (by decide) (by rw [ax_vl_c (by decide)]) (by rw [ax_vl_c (by decide)])
  have s1 : (ρ 3 / 4 + 2147483648) % 4294967296 + (4 / 4 + 2147483648) % 4294967296 = (ρ 4 / 4 + 2147483648) % 4294967296 + 2147483648 := pz_gs hE 15 4 19 (by decide)
  obtain ⟨-, -, -, -, F50⟩ : ay_ex hp 8 ∧ ay_ex hp 10 ∧ ay_ex hp 11 ∧ ay_ex hp 12 ∧ pz_x50 (ρ 0) (ρ 1) (ay_at hp 8 5) (ay_at hp 8 6) (ay_at hp 8 7) (ay_at hp 8 8) (ay_at hp 10 0) (ay_at hp 10 1) (ay_at hp 10 2) (ay_at hp 10 3) (ay_at hp 10 4) (ay_at hp 8 9) (ay_at hp 8 11) (ay_at hp 8 10) (ay_at hp 8 3) (ay_at hp 8 4) (ay_at hp 11) (ay_at hp 12) := (ax_XF_lt (by decide)).mp (ax_gx hE (50, [3, 7]) (by decide))
  rw [c_units] at F50
  have F78 : pz7 (pz_gt (ρ 0)) (pz_gN (ρ 0)) ((ρ 1) / 4) 8 := (ax_XF_lt (by decide)).mp (ax_gx hE (78, [3, 7]) (by decide))
  have F107 : pz107 (pz_gt (ρ 0)) (pz_gN (ρ 0)) ((ρ 1) / 4) ((4) / 4) := (ax_XF_lt (by decide)).mp (ax_gx hE (107, [3, 7, 4]) (by decide))
  have F90 : (pz90 (pz_gt (ρ 0)) (pz_gN (ρ 0)) ((ρ 1) / 4) ((ρ 2) / 4) ∧ 1 ≤ (ρ 2) / 4) := (ax_XF_lt (by decide)).mp (ax_gx hE (90, [3, 7, 11]) (by decide))
  have F91 : pz_dp ((ρ 2) / 4) = (20) / 4 := (ax_XF_lt (by decide)).mp (ax_gx hE (91, [11, 20]) (by decide))
  have st := pq_ru6u F50 F78 F107 (by decide) (by decide) F90.1 (by rw [F91]; decide) (show ρ 3 / 4 ≤ 39 by omega)
  obtain ⟨ρ', h1, h2⟩ := pz_pn2 (K := ρ 1 / 4 + 1) (L := pz_strip (ρ 2 / 4)) (xf := [(553, [50, 16, 19, 3, 23]), (79, [3, 23]), (90, [3, 23, 27]), (92, [11, 27]), (1030, [7, 23])]) hE (by decide) (fun ρ' h1 h2 h3 x hx => by
    have q0 : ρ' 0 = ρ 0 := h1 0 (by decide)
    have q1 : ρ' 1 = ρ 1 := h1 1 (by decide)
    have q2 : ρ' 2 = ρ 2 := h1 2 (by decide)
    have q3 : ρ' 3 = ρ 3 := h1 3 (by decide)
    have q4 : ρ' 4 = ρ 4 := h1 4 (by decide)
    rcases List.mem_cons.mp hx with e | hx
    · subst e
      refine (ax_XF_wr (x := 53) (by decide)).mpr ?_
      show ay_ex (ax_upd hp 50 (16) (ρ' 4)) 8 ∧ ay_ex (ax_upd hp 50 (16) (ρ' 4)) 10 ∧ ay_ex (ax_upd hp 50 (16) (ρ' 4)) 11 ∧ ay_ex (ax_upd hp 50 (16) (ρ' 4)) 12 ∧ pz_x53 (ρ' 0) (ρ' 5) (ay_at (ax_upd hp 50 (16) (ρ' 4)) 8 5) (ay_at (ax_upd hp 50 (16) (ρ' 4)) 10 0) (ay_at (ax_upd hp 50 (16) (ρ' 4)) 10 1) (ay_at (ax_upd hp 50 (16) (ρ' 4)) 10 2) (ay_at (ax_upd hp 50 (16) (ρ' 4)) 10 3) (ay_at (ax_upd hp 50 (16) (ρ' 4)) 10 4) (ay_at (ax_upd hp 50 (16) (ρ' 4)) 8 9) (ay_at (ax_upd hp 50 (16) (ρ' 4)) 8 11) (ay_at (ax_upd hp 50 (16) (ρ' 4)) 8 10) (ay_at (ax_upd hp 50 (16) (ρ' 4)) 8 3) (ay_at (ax_upd hp 50 (16) (ρ' 4)) 8 4) (ay_at (ax_upd hp 50 (16) (ρ' 4)) 11) (ay_at (ax_upd hp 50 (16) (ρ' 4)) 12)
      rw [q0, q4, h2]
      obtain ⟨o0, ho0⟩ := ay_some hT (q := 10) (g := 1) (n := 12) rfl rfl (j := 16 / 4) (by decide)
      have u1 : ∀ q, q ≠ 10 → ay_at (ax_upd hp 50 16 (ρ 4)) q = ay_at hp q := fun q hq => funext (fun j => ay_upd_ne hT.1 hq j)
      have u2 : ∀ j, ay_at (ax_upd hp 50 16 (ρ 4)) 10 j = if j = 4 then some (ρ 4) else ay_at hp 10 j := fun j => ay_upd_eq hT.1 rfl ho0 j
      refine ⟨ay_ex_upd hT.1 (ax_cellT hT (q := 8) (g := 2) rfl), ay_ex_upd hT.1 (ax_cellT hT (q := 10) (g := 1) rfl), ay_ex_upd hT.1 (ax_cellT hT (q := 11) (g := 14) rfl), ay_ex_upd hT.1 (ax_cellT hT (q := 12) (g := 15) rfl), ?_⟩
      rw [u1 8 (by decide), u2 0, if_neg (show ¬ 0 = 4 by decide), u2 1, if_neg (show ¬ 1 = 4 by decide), u2 2, if_neg (show ¬ 2 = 4 by decide), u2 3, if_neg (show ¬ 3 = 4 by decide), u2 4, if_pos rfl, u1 11 (by decide), u1 12 (by decide)]
      have eu : ρ 4 / 4 = ρ 3 / 4 + 1 := by omega
      refine pz_53 (pz_41 _) rfl ?_
      show pz53 _ _ _ _ _ _ _ _ (ρ 4 / 4) _ _ _ _ _ _ _
      rw [eu]
      exact st.1
    rcases List.mem_cons.mp hx with e | hx
    · subst e
      refine (ax_XF_lt (x := 79) (by decide)).mpr ?_
      show pz7 (pz_gt (ρ' 0)) (pz_gN (ρ' 0)) ((ρ' 5) / 4) 9
      rw [q0, h2]
      rw [pz_41]
      exact st.2.1
    rcases List.mem_cons.mp hx with e | hx
    · subst e
      refine (ax_XF_lt (x := 90) (by decide)).mpr ?_
      show (pz90 (pz_gt (ρ' 0)) (pz_gN (ρ' 0)) ((ρ' 5) / 4) ((ρ' 6) / 4) ∧ 1 ≤ (ρ' 6) / 4)
      rw [q0, h2, h3]
      rw [pz_41, pz_41]
      exact ⟨st.2.2, pz_strip_1 F90.2⟩
    rcases List.mem_cons.mp hx with e | hx
    · subst e
      refine (ax_XF_lt (x := 92) (by decide)).mpr ?_
      show pz_strip ((ρ' 2) / 4) = (ρ' 6) / 4
      rw [q2, h3]
      rw [pz_41]
    cases List.mem_singleton.mp hx
    refine (ax_XF_bi (o := 30) (by decide)).mpr (Or.inr ⟨rfl, ?_⟩)
    show ρ' 1 < ρ' 5
    rw [q1, h2]
    omega)
  exact ⟨(fun y hy => by cases hy), _, List.mem_cons_self, ρ', h1, h2⟩

theorem axq_ru6c2_5 : ax_RO ax_wC ax_XC axu_ru6c2_5 := by
  intro ρ hp hE hT
  have j0 : ρ 0 % 4 = 1 := pz_gj hE 0 (by decide) rfl
  have j1 : ρ 1 % 4 = 1 := pz_gj hE 1 (by decide) rfl
  have j2 : ρ 2 % 4 = 1 := pz_gj hE 2 (by decide) rfl
  obtain ⟨i3a, i3b, i3c, i3d⟩ := pz_gi hE 3 2147483648 2147483687 (by decide) rfl
  obtain ⟨i4a, i4b, i4c, i4d⟩ := pz_gi hE 4 0 4294967295 (by decide) rfl
  have c_units : ay_at hp 10 4 = some (ρ 3) := ay_gfj hE 50 16 15 10 4 (by decide) (by rw [ax_vl_c (by decide)]) (by rw [ax_vl_c (by decide)])
  have s1 : (ρ 3 / 4 + 2147483648) % 4294967296 + (4 / 4 + 2147483648) % 4294967296 = (ρ 4 / 4 + 2147483648) % 4294967296 + 2147483648 := pz_gs hE 15 4 19 (by decide)
  obtain ⟨-, -, -, -, F50⟩ : ay_ex hp 8 ∧ ay_ex hp 10 ∧ ay_ex hp 11 ∧ ay_ex hp 12 ∧ pz_x50 (ρ 0) (ρ 1) (ay_at hp 8 5) (ay_at hp 8 6) (ay_at hp 8 7) (ay_at hp 8 8) (ay_at hp 10 0) (ay_at hp 10 1) (ay_at hp 10 2) (ay_at hp 10 3) (ay_at hp 10 4) (ay_at hp 8 9) (ay_at hp 8 11) (ay_at hp 8 10) (ay_at hp 8 3) (ay_at hp 8 4) (ay_at hp 11) (ay_at hp 12) := (ax_XF_lt (by decide)).mp (ax_gx hE (50, [3, 7]) (by decide))
  rw [c_units] at F50
  have F78 : pz7 (pz_gt (ρ 0)) (pz_gN (ρ 0)) ((ρ 1) / 4) 8 := (ax_XF_lt (by decide)).mp (ax_gx hE (78, [3, 7]) (by decide))
  have F107 : pz107 (pz_gt (ρ 0)) (pz_gN (ρ 0)) ((ρ 1) / 4) ((8) / 4) := (ax_XF_lt (by decide)).mp (ax_gx hE (107, [3, 7, 8]) (by decide))
  have F90 : (pz90 (pz_gt (ρ 0)) (pz_gN (ρ 0)) ((ρ 1) / 4) ((ρ 2) / 4) ∧ 1 ≤ (ρ 2) / 4) := (ax_XF_lt (by decide)).mp (ax_gx hE (90, [3, 7, 11]) (by decide))
  have F91 : pz_dp ((ρ 2) / 4) = (20) / 4 := (ax_XF_lt (by decide)).mp (ax_gx hE (91, [11, 20]) (by decide))
  have st := pq_ru6u F50 F78 F107 (by decide) (by decide) F90.1 (by rw [F91]; decide) (show ρ 3 / 4 ≤ 39 by omega)
  obtain ⟨ρ', h1, h2⟩ := pz_pn2 (K := ρ 1 / 4 + 1) (L := pz_strip (ρ 2 / 4)) (xf := [(553, [50, 16, 19, 3, 23]), (79, [3, 23]), (90, [3, 23, 27]), (92, [11, 27]), (1030, [7, 23])]) hE (by decide) (fun ρ' h1 h2 h3 x hx => by
    have q0 : ρ' 0 = ρ 0 := h1 0 (by decide)
    have q1 : ρ' 1 = ρ 1 := h1 1 (by decide)
    have q2 : ρ' 2 = ρ 2 := h1 2 (by decide)
    have q3 : ρ' 3 = ρ 3 := h1 3 (by decide)
    have q4 : ρ' 4 = ρ 4 := h1 4 (by decide)
    rcases List.mem_cons.mp hx with e | hx
    · subst e
      refine (ax_XF_wr (x := 53) (by decide)).mpr ?_
      show ay_ex (ax_upd hp 50 (16) (ρ' 4)) 8 ∧ ay_ex (ax_upd hp 50 (16) (ρ' 4)) 10 ∧ ay_ex (ax_upd hp 50 (16) (ρ' 4)) 11 ∧ ay_ex (ax_upd hp 50 (16) (ρ' 4)) 12 ∧ pz_x53 (ρ' 0) (ρ' 5) (ay_at (ax_upd hp 50 (16) (ρ' 4)) 8 5) (ay_at (ax_upd hp 50 (16) (ρ' 4)) 10 0) (ay_at (ax_upd hp 50 (16) (ρ' 4)) 10 1) (ay_at (ax_upd hp 50 (16) (ρ' 4)) 10 2) (ay_at (ax_upd hp 50 (16) (ρ' 4)) 10 3) (ay_at (ax_upd hp 50 (16) (ρ' 4)) 10 4) (ay_at (ax_upd hp 50 (16) (ρ' 4)) 8 9) (ay_at (ax_upd hp 50 (16) (ρ' 4)) 8 11) (ay_at (ax_upd hp 50 (16) (ρ' 4)) 8 10) (ay_at (ax_upd hp 50 (16) (ρ' 4)) 8 3) (ay_at (ax_upd hp 50 (16) (ρ' 4)) 8 4) (ay_at (ax_upd hp 50 (16) (ρ' 4)) 11) (ay_at (ax_upd hp 50 (16) (ρ' 4)) 12)
      rw [q0, q4, h2]
      obtain ⟨o0, ho0⟩ := ay_some hT (q := 10) (g := 1) (n := 12) rfl rfl (j := 16 / 4) (by decide)
      have u1 : ∀ q, q ≠ 10 → ay_at (ax_upd hp 50 16 (ρ 4)) q = ay_at hp q := fun q hq => funext (fun j => ay_upd_ne hT.1 hq j)
      have u2 : ∀ j, ay_at (ax_upd hp 50 16 (ρ 4)) 10 j = if j = 4 then some (ρ 4) else ay_at hp 10 j := fun j => ay_upd_eq hT.1 rfl ho0 j
      refine ⟨ay_ex_upd hT.1 (ax_cellT hT (q := 8) (g := 2) rfl), ay_ex_upd hT.1 (ax_cellT hT (q := 10) (g := 1) rfl), ay_ex_upd hT.1 (ax_cellT hT (q := 11) (g := 14) rfl), ay_ex_upd hT.1 (ax_cellT hT (q := 12) (g := 15) rfl), ?_⟩
      rw [u1 8 (by decide), u2 0, if_neg (show ¬ 0 = 4 by decide), u2 1, if_neg (show ¬ 1 = 4 by decide), u2 2, if_neg (show ¬ 2 = 4 by decide), u2 3, if_neg (show ¬ 3 = 4 by decide), u2 4, if_pos rfl, u1 11 (by decide), u1 12 (by decide)]
      have eu : ρ 4 / 4 = ρ 3 / 4 + 1 := by omega
      refine pz_53 (pz_41 _) rfl ?_
      show pz53 _ _ _ _ _ _ _ _ (ρ 4 / 4) _ _ _ _ _ _ _
      rw [eu]
      exact st.1
    rcases List.mem_cons.mp hx with e | hx
    · subst e
      refine (ax_XF_lt (x := 79) (by decide)).mpr ?_
      show pz7 (pz_gt (ρ' 0)) (pz_gN (ρ' 0)) ((ρ' 5) / 4) 9
      rw [q0, h2]
      rw [pz_41]
      exact st.2.1
    rcases List.mem_cons.mp hx with e | hx
    · subst e
      refine (ax_XF_lt (x := 90) (by decide)).mpr ?_
      show (pz90 (pz_gt (ρ' 0)) (pz_gN (ρ' 0)) ((ρ' 5) / 4) ((ρ' 6) / 4) ∧ 1 ≤ (ρ' 6) / 4)
      rw [q0, h2, h3]
      rw [pz_41, pz_41]
      exact ⟨st.2.2, pz_strip_1 F90.2⟩
    rcases List.mem_cons.mp hx with e | hx
    · subst e
      refine (ax_XF_lt (x := 92) (by decide)).mpr ?_
      show pz_strip ((ρ' 2) / 4) = (ρ' 6) / 4
      rw [q2, h3]
      rw [pz_41]
    cases List.mem_singleton.mp hx
    refine (ax_XF_bi (o := 30) (by decide)).mpr (Or.inr ⟨rfl, ?_⟩)
    show ρ' 1 < ρ' 5
    rw [q1, h2]
    omega)
  exact ⟨(fun y hy => by cases hy), _, List.mem_cons_self, ρ', h1, h2⟩

theorem axq_ru6c3_5 : ax_RO ax_wC ax_XC axu_ru6c3_5 := by
  intro ρ hp hE hT
  have j0 : ρ 0 % 4 = 1 := pz_gj hE 0 (by decide) rfl
  have j1 : ρ 1 % 4 = 1 := pz_gj hE 1 (by decide) rfl
  have j2 : ρ 2 % 4 = 1 := pz_gj hE 2 (by decide) rfl
  obtain ⟨i3a, i3b, i3c, i3d⟩ := pz_gi hE 3 2147483648 2147483687 (by decide) rfl
  obtain ⟨i4a, i4b, i4c, i4d⟩ := pz_gi hE 4 0 4294967295 (by decide) rfl
  have c_units : ay_at hp 10 4 = some (ρ 3) := ay_gfj hE 50 16 15 10 4 (by decide) (by rw [ax_vl_c (by decide)]) (by rw [ax_vl_c (by decide)])
  have s1 : (ρ 3 / 4 + 2147483648) % 4294967296 + (4 / 4 + 2147483648) % 4294967296 = (ρ 4 / 4 + 2147483648) % 4294967296 + 2147483648 := pz_gs hE 15 4 19 (by decide)
  obtain ⟨-, -, -, -, F50⟩ : ay_ex hp 8 ∧ ay_ex hp 10 ∧ ay_ex hp 11 ∧ ay_ex hp 12 ∧ pz_x50 (ρ 0) (ρ 1) (ay_at hp 8 5) (ay_at hp 8 6) (ay_at hp 8 7) (ay_at hp 8 8) (ay_at hp 10 0) (ay_at hp 10 1) (ay_at hp 10 2) (ay_at hp 10 3) (ay_at hp 10 4) (ay_at hp 8 9) (ay_at hp 8 11) (ay_at hp 8 10) (ay_at hp 8 3) (ay_at hp 8 4) (ay_at hp 11) (ay_at hp 12) := (ax_XF_lt (by decide)).mp (ax_gx hE (50, [3, 7]) (by decide))
  rw [c_units] at F50
  have F78 : pz7 (pz_gt (ρ 0)) (pz_gN (ρ 0)) ((ρ 1) / 4) 8 := (ax_XF_lt (by decide)).mp (ax_gx hE (78, [3, 7]) (by decide))
  have F107 : pz107 (pz_gt (ρ 0)) (pz_gN (ρ 0)) ((ρ 1) / 4) ((12) / 4) := (ax_XF_lt (by decide)).mp (ax_gx hE (107, [3, 7, 12]) (by decide))
  have F90 : (pz90 (pz_gt (ρ 0)) (pz_gN (ρ 0)) ((ρ 1) / 4) ((ρ 2) / 4) ∧ 1 ≤ (ρ 2) / 4) := (ax_XF_lt (by decide)).mp (ax_gx hE (90, [3, 7, 11]) (by decide))
  have F91 : pz_dp ((ρ 2) / 4) = (20) / 4 := (ax_XF_lt (by decide)).mp (ax_gx hE (91, [11, 20]) (by decide))
  have st := pq_ru6u F50 F78 F107 (by decide) (by decide) F90.1 (by rw [F91]; decide) (show ρ 3 / 4 ≤ 39 by omega)
  obtain ⟨ρ', h1, h2⟩ := pz_pn2 (K := ρ 1 / 4 + 1) (L := pz_strip (ρ 2 / 4)) (xf := [(553, [50, 16, 19, 3, 23]), (79, [3, 23]), (90, [3, 23, 27]), (92, [11, 27]), (1030, [7, 23])]) hE (by decide) (fun ρ' h1 h2 h3 x hx => by
    have q0 : ρ' 0 = ρ 0 := h1 0 (by decide)
    have q1 : ρ' 1 = ρ 1 := h1 1 (by decide)
    have q2 : ρ' 2 = ρ 2 := h1 2 (by decide)
    have q3 : ρ' 3 = ρ 3 := h1 3 (by decide)
    have q4 : ρ' 4 = ρ 4 := h1 4 (by decide)
    rcases List.mem_cons.mp hx with e | hx
    · subst e
      refine (ax_XF_wr (x := 53) (by decide)).mpr ?_
      show ay_ex (ax_upd hp 50 (16) (ρ' 4)) 8 ∧ ay_ex (ax_upd hp 50 (16) (ρ' 4)) 10 ∧ ay_ex (ax_upd hp 50 (16) (ρ' 4)) 11 ∧ ay_ex (ax_upd hp 50 (16) (ρ' 4)) 12 ∧ pz_x53 (ρ' 0) (ρ' 5) (ay_at (ax_upd hp 50 (16) (ρ' 4)) 8 5) (ay_at (ax_upd hp 50 (16) (ρ' 4)) 10 0) (ay_at (ax_upd hp 50 (16) (ρ' 4)) 10 1) (ay_at (ax_upd hp 50 (16) (ρ' 4)) 10 2) (ay_at (ax_upd hp 50 (16) (ρ' 4)) 10 3) (ay_at (ax_upd hp 50 (16) (ρ' 4)) 10 4) (ay_at (ax_upd hp 50 (16) (ρ' 4)) 8 9) (ay_at (ax_upd hp 50 (16) (ρ' 4)) 8 11) (ay_at (ax_upd hp 50 (16) (ρ' 4)) 8 10) (ay_at (ax_upd hp 50 (16) (ρ' 4)) 8 3) (ay_at (ax_upd hp 50 (16) (ρ' 4)) 8 4) (ay_at (ax_upd hp 50 (16) (ρ' 4)) 11) (ay_at (ax_upd hp 50 (16) (ρ' 4)) 12)
      rw [q0, q4, h2]
      obtain ⟨o0, ho0⟩ := ay_some hT (q := 10) (g := 1) (n := 12) rfl rfl (j := 16 / 4) (by decide)
      have u1 : ∀ q, q ≠ 10 → ay_at (ax_upd hp 50 16 (ρ 4)) q = ay_at hp q := fun q hq => funext (fun j => ay_upd_ne hT.1 hq j)
      have u2 : ∀ j, ay_at (ax_upd hp 50 16 (ρ 4)) 10 j = if j = 4 then some (ρ 4) else ay_at hp 10 j := fun j => ay_upd_eq hT.1 rfl ho0 j
      refine ⟨ay_ex_upd hT.1 (ax_cellT hT (q := 8) (g := 2) rfl), ay_ex_upd hT.1 (ax_cellT hT (q := 10) (g := 1) rfl), ay_ex_upd hT.1 (ax_cellT hT (q := 11) (g := 14) rfl), ay_ex_upd hT.1 (ax_cellT hT (q := 12) (g := 15) rfl), ?_⟩
      rw [u1 8 (by decide), u2 0, if_neg (show ¬ 0 = 4 by decide), u2 1, if_neg (show ¬ 1 = 4 by decide), u2 2, if_neg (show ¬ 2 = 4 by decide), u2 3, if_neg (show ¬ 3 = 4 by decide), u2 4, if_pos rfl, u1 11 (by decide), u1 12 (by decide)]
      have eu : ρ 4 / 4 = ρ 3 / 4 + 1 := by omega
      refine pz_53 (pz_41 _) rfl ?_
      show pz53 _ _ _ _ _ _ _ _ (ρ 4 / 4) _ _ _ _ _ _ _
      rw [eu]
      exact st.1
    rcases List.mem_cons.mp hx with e | hx
    · subst e
      refine (ax_XF_lt (x := 79) (by decide)).mpr ?_
      show pz7 (pz_gt (ρ' 0)) (pz_gN (ρ' 0)) ((ρ' 5) / 4) 9
      rw [q0, h2]
      rw [pz_41]
      exact st.2.1
    rcases List.mem_cons.mp hx with e | hx
    · subst e
      refine (ax_XF_lt (x := 90) (by decide)).mpr ?_
      show (pz90 (pz_gt (ρ' 0)) (pz_gN (ρ' 0)) ((ρ' 5) / 4) ((ρ' 6) / 4) ∧ 1 ≤ (ρ' 6) / 4)
      rw [q0, h2, h3]
      rw [pz_41, pz_41]
      exact ⟨st.2.2, pz_strip_1 F90.2⟩
    rcases List.mem_cons.mp hx with e | hx
    · subst e
      refine (ax_XF_lt (x := 92) (by decide)).mpr ?_
      show pz_strip ((ρ' 2) / 4) = (ρ' 6) / 4
      rw [q2, h3]
      rw [pz_41]
    cases List.mem_singleton.mp hx
    refine (ax_XF_bi (o := 30) (by decide)).mpr (Or.inr ⟨rfl, ?_⟩)
    show ρ' 1 < ρ' 5
    rw [q1, h2]
    omega)
  exact ⟨(fun y hy => by cases hy), _, List.mem_cons_self, ρ', h1, h2⟩

theorem axq_ru6c4_5 : ax_RO ax_wC ax_XC axu_ru6c4_5 := by
  intro ρ hp hE hT
  have j0 : ρ 0 % 4 = 1 := pz_gj hE 0 (by decide) rfl
  have j1 : ρ 1 % 4 = 1 := pz_gj hE 1 (by decide) rfl
  have j2 : ρ 2 % 4 = 1 := pz_gj hE 2 (by decide) rfl
  obtain ⟨i3a, i3b, i3c, i3d⟩ := pz_gi hE 3 2147483648 2147483687 (by decide) rfl
  obtain ⟨i4a, i4b, i4c, i4d⟩ := pz_gi hE 4 0 4294967295 (by decide) rfl
  have c_units : ay_at hp 10 4 = some (ρ 3) := ay_gfj hE 50 16 15 10 4 (by decide) (by rw [ax_vl_c (by decide)]) (by rw [ax_vl_c (by decide)])
  have s1 : (ρ 3 / 4 + 2147483648) % 4294967296 + (4 / 4 + 2147483648) % 4294967296 = (ρ 4 / 4 + 2147483648) % 4294967296 + 2147483648 := pz_gs hE 15 4 19 (by decide)
  obtain ⟨-, -, -, -, F50⟩ : ay_ex hp 8 ∧ ay_ex hp 10 ∧ ay_ex hp 11 ∧ ay_ex hp 12 ∧ pz_x50 (ρ 0) (ρ 1) (ay_at hp 8 5) (ay_at hp 8 6) (ay_at hp 8 7) (ay_at hp 8 8) (ay_at hp 10 0) (ay_at hp 10 1) (ay_at hp 10 2) (ay_at hp 10 3) (ay_at hp 10 4) (ay_at hp 8 9) (ay_at hp 8 11) (ay_at hp 8 10) (ay_at hp 8 3) (ay_at hp 8 4) (ay_at hp 11) (ay_at hp 12) := (ax_XF_lt (by decide)).mp (ax_gx hE (50, [3, 7]) (by decide))
  rw [c_units] at F50
  have F78 : pz7 (pz_gt (ρ 0)) (pz_gN (ρ 0)) ((ρ 1) / 4) 8 := (ax_XF_lt (by decide)).mp (ax_gx hE (78, [3, 7]) (by decide))
  have F107 : pz107 (pz_gt (ρ 0)) (pz_gN (ρ 0)) ((ρ 1) / 4) ((16) / 4) := (ax_XF_lt (by decide)).mp (ax_gx hE (107, [3, 7, 16]) (by decide))
  have F90 : (pz90 (pz_gt (ρ 0)) (pz_gN (ρ 0)) ((ρ 1) / 4) ((ρ 2) / 4) ∧ 1 ≤ (ρ 2) / 4) := (ax_XF_lt (by decide)).mp (ax_gx hE (90, [3, 7, 11]) (by decide))
  have F91 : pz_dp ((ρ 2) / 4) = (20) / 4 := (ax_XF_lt (by decide)).mp (ax_gx hE (91, [11, 20]) (by decide))
  have st := pq_ru6u F50 F78 F107 (by decide) (by decide) F90.1 (by rw [F91]; decide) (show ρ 3 / 4 ≤ 39 by omega)
  obtain ⟨ρ', h1, h2⟩ := pz_pn2 (K := ρ 1 / 4 + 1) (L := pz_strip (ρ 2 / 4)) (xf := [(553, [50, 16, 19, 3, 23]), (79, [3, 23]), (90, [3, 23, 27]), (92, [11, 27]), (1030, [7, 23])]) hE (by decide) (fun ρ' h1 h2 h3 x hx => by
    have q0 : ρ' 0 = ρ 0 := h1 0 (by decide)
    have q1 : ρ' 1 = ρ 1 := h1 1 (by decide)
    have q2 : ρ' 2 = ρ 2 := h1 2 (by decide)
    have q3 : ρ' 3 = ρ 3 := h1 3 (by decide)
    have q4 : ρ' 4 = ρ 4 := h1 4 (by decide)
    rcases List.mem_cons.mp hx with e | hx
    · subst e
      refine (ax_XF_wr (x := 53) (by decide)).mpr ?_
      show ay_ex (ax_upd hp 50 (16) (ρ' 4)) 8 ∧ ay_ex (ax_upd hp 50 (16) (ρ' 4)) 10 ∧ ay_ex (ax_upd hp 50 (16) (ρ' 4)) 11 ∧ ay_ex (ax_upd hp 50 (16) (ρ' 4)) 12 ∧ pz_x53 (ρ' 0) (ρ' 5) (ay_at (ax_upd hp 50 (16) (ρ' 4)) 8 5) (ay_at (ax_upd hp 50 (16) (ρ' 4)) 10 0) (ay_at (ax_upd hp 50 (16) (ρ' 4)) 10 1) (ay_at (ax_upd hp 50 (16) (ρ' 4)) 10 2) (ay_at (ax_upd hp 50 (16) (ρ' 4)) 10 3) (ay_at (ax_upd hp 50 (16) (ρ' 4)) 10 4) (ay_at (ax_upd hp 50 (16) (ρ' 4)) 8 9) (ay_at (ax_upd hp 50 (16) (ρ' 4)) 8 11) (ay_at (ax_upd hp 50 (16) (ρ' 4)) 8 10) (ay_at (ax_upd hp 50 (16) (ρ' 4)) 8 3) (ay_at (ax_upd hp 50 (16) (ρ' 4)) 8 4) (ay_at (ax_upd hp 50 (16) (ρ' 4)) 11) (ay_at (ax_upd hp 50 (16) (ρ' 4)) 12)
      rw [q0, q4, h2]
      obtain ⟨o0, ho0⟩ := ay_some hT (q := 10) (g := 1) (n := 12) rfl rfl (j := 16 / 4) (by decide)
      have u1 : ∀ q, q ≠ 10 → ay_at (ax_upd hp 50 16 (ρ 4)) q = ay_at hp q := fun q hq => funext (fun j => ay_upd_ne hT.1 hq j)
      have u2 : ∀ j, ay_at (ax_upd hp 50 16 (ρ 4)) 10 j = if j = 4 then some (ρ 4) else ay_at hp 10 j := fun j => ay_upd_eq hT.1 rfl ho0 j
      refine ⟨ay_ex_upd hT.1 (ax_cellT hT (q := 8) (g := 2) rfl), ay_ex_upd hT.1 (ax_cellT hT (q := 10) (g := 1) rfl), ay_ex_upd hT.1 (ax_cellT hT (q := 11) (g := 14) rfl), ay_ex_upd hT.1 (ax_cellT hT (q := 12) (g := 15) rfl), ?_⟩
      rw [u1 8 (by decide), u2 0, if_neg (show ¬ 0 = 4 by decide), u2 1, if_neg (show ¬ 1 = 4 by decide), u2 2, if_neg (show ¬ 2 = 4 by decide), u2 3, if_neg (show ¬ 3 = 4 by decide), u2 4, if_pos rfl, u1 11 (by decide), u1 12 (by decide)]
      have eu : ρ 4 / 4 = ρ 3 / 4 + 1 := by omega
      refine pz_53 (pz_41 _) rfl ?_
      show pz53 _ _ _ _ _ _ _ _ (ρ 4 / 4) _ _ _ _ _ _ _
      rw [eu]
      exact st.1
    rcases List.mem_cons.mp hx with e | hx
    · subst e
      refine (ax_XF_lt (x := 79) (by decide)).mpr ?_
      show pz7 (pz_gt (ρ' 0)) (pz_gN (ρ' 0)) ((ρ' 5) / 4) 9
      rw [q0, h2]
      rw [pz_41]
      exact st.2.1
    rcases List.mem_cons.mp hx with e | hx
    · subst e
      refine (ax_XF_lt (x := 90) (by decide)).mpr ?_
      show (pz90 (pz_gt (ρ' 0)) (pz_gN (ρ' 0)) ((ρ' 5) / 4) ((ρ' 6) / 4) ∧ 1 ≤ (ρ' 6) / 4)
      rw [q0, h2, h3]
      rw [pz_41, pz_41]
      exact ⟨st.2.2, pz_strip_1 F90.2⟩
    rcases List.mem_cons.mp hx with e | hx
    · subst e
      refine (ax_XF_lt (x := 92) (by decide)).mpr ?_
      show pz_strip ((ρ' 2) / 4) = (ρ' 6) / 4
      rw [q2, h3]
      rw [pz_41]
    cases List.mem_singleton.mp hx
    refine (ax_XF_bi (o := 30) (by decide)).mpr (Or.inr ⟨rfl, ?_⟩)
    show ρ' 1 < ρ' 5
    rw [q1, h2]
    omega)
  exact ⟨(fun y hy => by cases hy), _, List.mem_cons_self, ρ', h1, h2⟩

theorem axq_ru6c5_5 : ax_RO ax_wC ax_XC axu_ru6c5_5 := by
  intro ρ hp hE hT
  have j0 : ρ 0 % 4 = 1 := pz_gj hE 0 (by decide) rfl
  have j1 : ρ 1 % 4 = 1 := pz_gj hE 1 (by decide) rfl
  have j2 : ρ 2 % 4 = 1 := pz_gj hE 2 (by decide) rfl
  obtain ⟨i3a, i3b, i3c, i3d⟩ := pz_gi hE 3 2147483648 2147483687 (by decide) rfl
  obtain ⟨i4a, i4b, i4c, i4d⟩ := pz_gi hE 4 0 4294967295 (by decide) rfl
  have c_units : ay_at hp 10 4 = some (ρ 3) := ay_gfj hE 50 16 15 10 4 (by decide) (by rw [ax_vl_c (by decide)]) (by rw [ax_vl_c (by decide)])
  have s1 : (ρ 3 / 4 + 2147483648) % 4294967296 + (4 / 4 + 2147483648) % 4294967296 = (ρ 4 / 4 + 2147483648) % 4294967296 + 2147483648 := pz_gs hE 15 4 19 (by decide)
  obtain ⟨-, -, -, -, F50⟩ : ay_ex hp 8 ∧ ay_ex hp 10 ∧ ay_ex hp 11 ∧ ay_ex hp 12 ∧ pz_x50 (ρ 0) (ρ 1) (ay_at hp 8 5) (ay_at hp 8 6) (ay_at hp 8 7) (ay_at hp 8 8) (ay_at hp 10 0) (ay_at hp 10 1) (ay_at hp 10 2) (ay_at hp 10 3) (ay_at hp 10 4) (ay_at hp 8 9) (ay_at hp 8 11) (ay_at hp 8 10) (ay_at hp 8 3) (ay_at hp 8 4) (ay_at hp 11) (ay_at hp 12) := (ax_XF_lt (by decide)).mp (ax_gx hE (50, [3, 7]) (by decide))
  rw [c_units] at F50
  have F78 : pz7 (pz_gt (ρ 0)) (pz_gN (ρ 0)) ((ρ 1) / 4) 8 := (ax_XF_lt (by decide)).mp (ax_gx hE (78, [3, 7]) (by decide))
  have F107 : pz107 (pz_gt (ρ 0)) (pz_gN (ρ 0)) ((ρ 1) / 4) ((20) / 4) := (ax_XF_lt (by decide)).mp (ax_gx hE (107, [3, 7, 20]) (by decide))
  have F90 : (pz90 (pz_gt (ρ 0)) (pz_gN (ρ 0)) ((ρ 1) / 4) ((ρ 2) / 4) ∧ 1 ≤ (ρ 2) / 4) := (ax_XF_lt (by decide)).mp (ax_gx hE (90, [3, 7, 11]) (by decide))
  have F91 : pz_dp ((ρ 2) / 4) = (20) / 4 := (ax_XF_lt (by decide)).mp (ax_gx hE (91, [11, 20]) (by decide))
  have st := pq_ru6m F50 F78 F107 F90.1 (by rw [F91]; decide) (show ρ 3 / 4 ≤ 39 by omega)
  obtain ⟨ρ', h1, h2⟩ := pz_pn2 (K := ρ 1 / 4 + 1) (L := 2 * (ρ 2 / 4) + 1) (xf := [(553, [50, 16, 19, 3, 23]), (78, [3, 23]), (90, [3, 23, 27]), (108, [11, 27]), (91, [27, 24]), (1030, [7, 23])]) hE (by decide) (fun ρ' h1 h2 h3 x hx => by
    have q0 : ρ' 0 = ρ 0 := h1 0 (by decide)
    have q1 : ρ' 1 = ρ 1 := h1 1 (by decide)
    have q2 : ρ' 2 = ρ 2 := h1 2 (by decide)
    have q3 : ρ' 3 = ρ 3 := h1 3 (by decide)
    have q4 : ρ' 4 = ρ 4 := h1 4 (by decide)
    rcases List.mem_cons.mp hx with e | hx
    · subst e
      refine (ax_XF_wr (x := 53) (by decide)).mpr ?_
      show ay_ex (ax_upd hp 50 (16) (ρ' 4)) 8 ∧ ay_ex (ax_upd hp 50 (16) (ρ' 4)) 10 ∧ ay_ex (ax_upd hp 50 (16) (ρ' 4)) 11 ∧ ay_ex (ax_upd hp 50 (16) (ρ' 4)) 12 ∧ pz_x53 (ρ' 0) (ρ' 5) (ay_at (ax_upd hp 50 (16) (ρ' 4)) 8 5) (ay_at (ax_upd hp 50 (16) (ρ' 4)) 10 0) (ay_at (ax_upd hp 50 (16) (ρ' 4)) 10 1) (ay_at (ax_upd hp 50 (16) (ρ' 4)) 10 2) (ay_at (ax_upd hp 50 (16) (ρ' 4)) 10 3) (ay_at (ax_upd hp 50 (16) (ρ' 4)) 10 4) (ay_at (ax_upd hp 50 (16) (ρ' 4)) 8 9) (ay_at (ax_upd hp 50 (16) (ρ' 4)) 8 11) (ay_at (ax_upd hp 50 (16) (ρ' 4)) 8 10) (ay_at (ax_upd hp 50 (16) (ρ' 4)) 8 3) (ay_at (ax_upd hp 50 (16) (ρ' 4)) 8 4) (ay_at (ax_upd hp 50 (16) (ρ' 4)) 11) (ay_at (ax_upd hp 50 (16) (ρ' 4)) 12)
      rw [q0, q4, h2]
      obtain ⟨o0, ho0⟩ := ay_some hT (q := 10) (g := 1) (n := 12) rfl rfl (j := 16 / 4) (by decide)
      have u1 : ∀ q, q ≠ 10 → ay_at (ax_upd hp 50 16 (ρ 4)) q = ay_at hp q := fun q hq => funext (fun j => ay_upd_ne hT.1 hq j)
      have u2 : ∀ j, ay_at (ax_upd hp 50 16 (ρ 4)) 10 j = if j = 4 then some (ρ 4) else ay_at hp 10 j := fun j => ay_upd_eq hT.1 rfl ho0 j
      refine ⟨ay_ex_upd hT.1 (ax_cellT hT (q := 8) (g := 2) rfl), ay_ex_upd hT.1 (ax_cellT hT (q := 10) (g := 1) rfl), ay_ex_upd hT.1 (ax_cellT hT (q := 11) (g := 14) rfl), ay_ex_upd hT.1 (ax_cellT hT (q := 12) (g := 15) rfl), ?_⟩
      rw [u1 8 (by decide), u2 0, if_neg (show ¬ 0 = 4 by decide), u2 1, if_neg (show ¬ 1 = 4 by decide), u2 2, if_neg (show ¬ 2 = 4 by decide), u2 3, if_neg (show ¬ 3 = 4 by decide), u2 4, if_pos rfl, u1 11 (by decide), u1 12 (by decide)]
      have eu : ρ 4 / 4 = ρ 3 / 4 + 1 := by omega
      refine pz_53 (pz_41 _) rfl ?_
      show pz53 _ _ _ _ _ _ _ _ (ρ 4 / 4) _ _ _ _ _ _ _
      rw [eu]
      exact st.1
    rcases List.mem_cons.mp hx with e | hx
    · subst e
      refine (ax_XF_lt (x := 78) (by decide)).mpr ?_
      show pz7 (pz_gt (ρ' 0)) (pz_gN (ρ' 0)) ((ρ' 5) / 4) 8
      rw [q0, h2]
      rw [pz_41]
      exact st.2.1
    rcases List.mem_cons.mp hx with e | hx
    · subst e
      refine (ax_XF_lt (x := 90) (by decide)).mpr ?_
      show (pz90 (pz_gt (ρ' 0)) (pz_gN (ρ' 0)) ((ρ' 5) / 4) ((ρ' 6) / 4) ∧ 1 ≤ (ρ' 6) / 4)
      rw [q0, h2, h3]
      rw [pz_41, pz_41]
      exact ⟨st.2.2, by omega⟩
    rcases List.mem_cons.mp hx with e | hx
    · subst e
      refine (ax_XF_lt (x := 108) (by decide)).mpr ?_
      show ((ρ' 6) / 4 = 2 * ((ρ' 2) / 4) + 1 ∧ 1 ≤ (ρ' 2) / 4)
      rw [q2, h3]
      rw [pz_41]
      exact ⟨rfl, F90.2⟩
    rcases List.mem_cons.mp hx with e | hx
    · subst e
      refine (ax_XF_lt (x := 91) (by decide)).mpr ?_
      show pz_dp ((ρ' 6) / 4) = (24) / 4
      rw [h3]
      rw [pz_41, pz_dp_push F90.2 (Or.inr rfl), F91]
    cases List.mem_singleton.mp hx
    refine (ax_XF_bi (o := 30) (by decide)).mpr (Or.inr ⟨rfl, ?_⟩)
    show ρ' 1 < ρ' 5
    rw [q1, h2]
    omega)
  exact ⟨(fun y hy => by cases hy), _, List.mem_cons_self, ρ', h1, h2⟩

theorem axq_ru6c40_5 : ax_RO ax_wC ax_XC axu_ru6c40_5 := by
  intro ρ hp hE hT
  have j0 : ρ 0 % 4 = 1 := pz_gj hE 0 (by decide) rfl
  have j1 : ρ 1 % 4 = 1 := pz_gj hE 1 (by decide) rfl
  have j2 : ρ 2 % 4 = 1 := pz_gj hE 2 (by decide) rfl
  obtain ⟨i3a, i3b, i3c, i3d⟩ := pz_gi hE 3 2147483648 2147483687 (by decide) rfl
  obtain ⟨i4a, i4b, i4c, i4d⟩ := pz_gi hE 4 0 4294967295 (by decide) rfl
  have c_units : ay_at hp 10 4 = some (ρ 3) := ay_gfj hE 50 16 15 10 4 (by decide) (by rw [ax_vl_c (by decide)]) (by rw [ax_vl_c (by decide)])
  have s1 : (ρ 3 / 4 + 2147483648) % 4294967296 + (4 / 4 + 2147483648) % 4294967296 = (ρ 4 / 4 + 2147483648) % 4294967296 + 2147483648 := pz_gs hE 15 4 19 (by decide)
  obtain ⟨-, -, -, -, F50⟩ : ay_ex hp 8 ∧ ay_ex hp 10 ∧ ay_ex hp 11 ∧ ay_ex hp 12 ∧ pz_x50 (ρ 0) (ρ 1) (ay_at hp 8 5) (ay_at hp 8 6) (ay_at hp 8 7) (ay_at hp 8 8) (ay_at hp 10 0) (ay_at hp 10 1) (ay_at hp 10 2) (ay_at hp 10 3) (ay_at hp 10 4) (ay_at hp 8 9) (ay_at hp 8 11) (ay_at hp 8 10) (ay_at hp 8 3) (ay_at hp 8 4) (ay_at hp 11) (ay_at hp 12) := (ax_XF_lt (by decide)).mp (ax_gx hE (50, [3, 7]) (by decide))
  rw [c_units] at F50
  have F78 : pz7 (pz_gt (ρ 0)) (pz_gN (ρ 0)) ((ρ 1) / 4) 8 := (ax_XF_lt (by decide)).mp (ax_gx hE (78, [3, 7]) (by decide))
  have F107 : pz107 (pz_gt (ρ 0)) (pz_gN (ρ 0)) ((ρ 1) / 4) ((160) / 4) := (ax_XF_lt (by decide)).mp (ax_gx hE (107, [3, 7, 160]) (by decide))
  have F90 : (pz90 (pz_gt (ρ 0)) (pz_gN (ρ 0)) ((ρ 1) / 4) ((ρ 2) / 4) ∧ 1 ≤ (ρ 2) / 4) := (ax_XF_lt (by decide)).mp (ax_gx hE (90, [3, 7, 11]) (by decide))
  have F91 : pz_dp ((ρ 2) / 4) = (20) / 4 := (ax_XF_lt (by decide)).mp (ax_gx hE (91, [11, 20]) (by decide))
  have st := pq_ru6o F50 F78 F107 F90.1 (by rw [F91]; decide) (show ρ 3 / 4 ≤ 39 by omega)
  obtain ⟨ρ', h1, h2⟩ := pz_pn2 (K := ρ 1 / 4 + 1) (L := 2 * (ρ 2 / 4)) (xf := [(553, [50, 16, 19, 3, 23]), (78, [3, 23]), (90, [3, 23, 27]), (93, [27, 11]), (91, [27, 24]), (92, [27, 27]), (1030, [7, 23])]) hE (by decide) (fun ρ' h1 h2 h3 x hx => by
    have q0 : ρ' 0 = ρ 0 := h1 0 (by decide)
    have q1 : ρ' 1 = ρ 1 := h1 1 (by decide)
    have q2 : ρ' 2 = ρ 2 := h1 2 (by decide)
    have q3 : ρ' 3 = ρ 3 := h1 3 (by decide)
    have q4 : ρ' 4 = ρ 4 := h1 4 (by decide)
    rcases List.mem_cons.mp hx with e | hx
    · subst e
      refine (ax_XF_wr (x := 53) (by decide)).mpr ?_
      show ay_ex (ax_upd hp 50 (16) (ρ' 4)) 8 ∧ ay_ex (ax_upd hp 50 (16) (ρ' 4)) 10 ∧ ay_ex (ax_upd hp 50 (16) (ρ' 4)) 11 ∧ ay_ex (ax_upd hp 50 (16) (ρ' 4)) 12 ∧ pz_x53 (ρ' 0) (ρ' 5) (ay_at (ax_upd hp 50 (16) (ρ' 4)) 8 5) (ay_at (ax_upd hp 50 (16) (ρ' 4)) 10 0) (ay_at (ax_upd hp 50 (16) (ρ' 4)) 10 1) (ay_at (ax_upd hp 50 (16) (ρ' 4)) 10 2) (ay_at (ax_upd hp 50 (16) (ρ' 4)) 10 3) (ay_at (ax_upd hp 50 (16) (ρ' 4)) 10 4) (ay_at (ax_upd hp 50 (16) (ρ' 4)) 8 9) (ay_at (ax_upd hp 50 (16) (ρ' 4)) 8 11) (ay_at (ax_upd hp 50 (16) (ρ' 4)) 8 10) (ay_at (ax_upd hp 50 (16) (ρ' 4)) 8 3) (ay_at (ax_upd hp 50 (16) (ρ' 4)) 8 4) (ay_at (ax_upd hp 50 (16) (ρ' 4)) 11) (ay_at (ax_upd hp 50 (16) (ρ' 4)) 12)
      rw [q0, q4, h2]
      obtain ⟨o0, ho0⟩ := ay_some hT (q := 10) (g := 1) (n := 12) rfl rfl (j := 16 / 4) (by decide)
      have u1 : ∀ q, q ≠ 10 → ay_at (ax_upd hp 50 16 (ρ 4)) q = ay_at hp q := fun q hq => funext (fun j => ay_upd_ne hT.1 hq j)
      have u2 : ∀ j, ay_at (ax_upd hp 50 16 (ρ 4)) 10 j = if j = 4 then some (ρ 4) else ay_at hp 10 j := fun j => ay_upd_eq hT.1 rfl ho0 j
      refine ⟨ay_ex_upd hT.1 (ax_cellT hT (q := 8) (g := 2) rfl), ay_ex_upd hT.1 (ax_cellT hT (q := 10) (g := 1) rfl), ay_ex_upd hT.1 (ax_cellT hT (q := 11) (g := 14) rfl), ay_ex_upd hT.1 (ax_cellT hT (q := 12) (g := 15) rfl), ?_⟩
      rw [u1 8 (by decide), u2 0, if_neg (show ¬ 0 = 4 by decide), u2 1, if_neg (show ¬ 1 = 4 by decide), u2 2, if_neg (show ¬ 2 = 4 by decide), u2 3, if_neg (show ¬ 3 = 4 by decide), u2 4, if_pos rfl, u1 11 (by decide), u1 12 (by decide)]
      have eu : ρ 4 / 4 = ρ 3 / 4 + 1 := by omega
      refine pz_53 (pz_41 _) rfl ?_
      show pz53 _ _ _ _ _ _ _ _ (ρ 4 / 4) _ _ _ _ _ _ _
      rw [eu]
      exact st.1
    rcases List.mem_cons.mp hx with e | hx
    · subst e
      refine (ax_XF_lt (x := 78) (by decide)).mpr ?_
      show pz7 (pz_gt (ρ' 0)) (pz_gN (ρ' 0)) ((ρ' 5) / 4) 8
      rw [q0, h2]
      rw [pz_41]
      exact st.2.1
    rcases List.mem_cons.mp hx with e | hx
    · subst e
      refine (ax_XF_lt (x := 90) (by decide)).mpr ?_
      show (pz90 (pz_gt (ρ' 0)) (pz_gN (ρ' 0)) ((ρ' 5) / 4) ((ρ' 6) / 4) ∧ 1 ≤ (ρ' 6) / 4)
      rw [q0, h2, h3]
      rw [pz_41, pz_41]
      exact ⟨st.2.2, by have := F90.2; omega⟩
    rcases List.mem_cons.mp hx with e | hx
    · subst e
      refine (ax_XF_lt (x := 93) (by decide)).mpr ?_
      show (ρ' 6) / 4 = 2 * ((ρ' 2) / 4)
      rw [q2, h3]
      rw [pz_41]
    rcases List.mem_cons.mp hx with e | hx
    · subst e
      refine (ax_XF_lt (x := 91) (by decide)).mpr ?_
      show pz_dp ((ρ' 6) / 4) = (24) / 4
      rw [h3]
      rw [pz_41, pz_dp_push F90.2 (Or.inl rfl), F91]
    rcases List.mem_cons.mp hx with e | hx
    · subst e
      refine (ax_XF_lt (x := 92) (by decide)).mpr ?_
      show pz_strip ((ρ' 6) / 4) = (ρ' 6) / 4
      rw [h3]
      rw [pz_41]
      exact pz_strip_even (Or.inl (by omega))
    cases List.mem_singleton.mp hx
    refine (ax_XF_bi (o := 30) (by decide)).mpr (Or.inr ⟨rfl, ?_⟩)
    show ρ' 1 < ρ' 5
    rw [q1, h2]
    omega)
  exact ⟨(fun y hy => by cases hy), _, List.mem_cons_self, ρ', h1, h2⟩

theorem axq_rut1_0 : ax_RO ax_wC ax_XC axu_rut1_0 := by
  intro ρ hp hE hT
  have j0 : ρ 0 % 4 = 1 := pz_gj hE 0 (by decide) rfl
  have j1 : ρ 1 % 4 = 1 := pz_gj hE 1 (by decide) rfl
  have j2 : ρ 2 % 4 = 1 := pz_gj hE 2 (by decide) rfl
  have j3 : ρ 3 % 4 = 1 := pz_gj hE 3 (by decide) rfl
  have o1 : ρ 2 < ρ 3 := pz_go hE 11 15 (by decide)
  have o2 : ρ 1 < ρ 2 := pz_go hE 7 11 (by decide)
  obtain ⟨-, -, -, -, F50⟩ : ay_ex hp 8 ∧ ay_ex hp 10 ∧ ay_ex hp 11 ∧ ay_ex hp 12 ∧ pz_x50 (ρ 0) (ρ 3) (ay_at hp 8 5) (ay_at hp 8 6) (ay_at hp 8 7) (ay_at hp 8 8) (ay_at hp 10 0) (ay_at hp 10 1) (ay_at hp 10 2) (ay_at hp 10 3) (ay_at hp 10 4) (ay_at hp 8 9) (ay_at hp 8 11) (ay_at hp 8 10) (ay_at hp 8 3) (ay_at hp 8 4) (ay_at hp 11) (ay_at hp 12) := (ax_XF_lt (by decide)).mp (ax_gx hE (50, [3, 15]) (by decide))
  refine ⟨(fun y hy => by cases hy), _, List.mem_cons_self, ρ, fun _ _ => rfl, ax_px hE (by decide) (fun y hy => ?_)⟩
  cases List.mem_singleton.mp hy
  refine (ax_XF_bi (o := 30) (by decide)).mpr (Or.inr ⟨rfl, ?_⟩)
  show ρ 1 < ρ 3
  omega

theorem axq_rut2_0 : ax_RO ax_wC ax_XC axu_rut2_0 := by
  intro ρ hp hE hT
  have j0 : ρ 0 % 4 = 1 := pz_gj hE 0 (by decide) rfl
  have j1 : ρ 1 % 4 = 1 := pz_gj hE 1 (by decide) rfl
  have j2 : ρ 2 % 4 = 1 := pz_gj hE 2 (by decide) rfl
  have j3 : ρ 3 % 4 = 1 := pz_gj hE 3 (by decide) rfl
  have o1 : ρ 2 < ρ 3 := pz_go hE 11 15 (by decide)
  have o2 : ρ 1 < ρ 2 := pz_go hE 7 11 (by decide)
  obtain ⟨-, -, -, -, F50⟩ : ay_ex hp 8 ∧ ay_ex hp 10 ∧ ay_ex hp 11 ∧ ay_ex hp 12 ∧ pz_x50 (ρ 0) (ρ 3) (ay_at hp 8 5) (ay_at hp 8 6) (ay_at hp 8 7) (ay_at hp 8 8) (ay_at hp 10 0) (ay_at hp 10 1) (ay_at hp 10 2) (ay_at hp 10 3) (ay_at hp 10 4) (ay_at hp 8 9) (ay_at hp 8 11) (ay_at hp 8 10) (ay_at hp 8 3) (ay_at hp 8 4) (ay_at hp 11) (ay_at hp 12) := (ax_XF_lt (by decide)).mp (ax_gx hE (50, [3, 15]) (by decide))
  refine ⟨(fun y hy => by cases hy), _, List.mem_cons_self, ρ, fun _ _ => rfl, ax_px hE (by decide) (fun y hy => ?_)⟩
  cases List.mem_singleton.mp hy
  refine (ax_XF_bi (o := 30) (by decide)).mpr (Or.inr ⟨rfl, ?_⟩)
  show ρ 1 < ρ 3
  omega

theorem axq_rut3_0 : ax_RO ax_wC ax_XC axu_rut3_0 := by
  intro ρ hp hE hT
  have j0 : ρ 0 % 4 = 1 := pz_gj hE 0 (by decide) rfl
  have j1 : ρ 1 % 4 = 1 := pz_gj hE 1 (by decide) rfl
  have j2 : ρ 2 % 4 = 1 := pz_gj hE 2 (by decide) rfl
  have j3 : ρ 3 % 4 = 1 := pz_gj hE 3 (by decide) rfl
  have o1 : ρ 2 < ρ 3 := pz_go hE 11 15 (by decide)
  have o2 : ρ 1 < ρ 2 := pz_go hE 7 11 (by decide)
  obtain ⟨-, -, -, -, F50⟩ : ay_ex hp 8 ∧ ay_ex hp 10 ∧ ay_ex hp 11 ∧ ay_ex hp 12 ∧ pz_x50 (ρ 0) (ρ 3) (ay_at hp 8 5) (ay_at hp 8 6) (ay_at hp 8 7) (ay_at hp 8 8) (ay_at hp 10 0) (ay_at hp 10 1) (ay_at hp 10 2) (ay_at hp 10 3) (ay_at hp 10 4) (ay_at hp 8 9) (ay_at hp 8 11) (ay_at hp 8 10) (ay_at hp 8 3) (ay_at hp 8 4) (ay_at hp 11) (ay_at hp 12) := (ax_XF_lt (by decide)).mp (ax_gx hE (50, [3, 15]) (by decide))
  refine ⟨(fun y hy => by cases hy), _, List.mem_cons_self, ρ, fun _ _ => rfl, ax_px hE (by decide) (fun y hy => ?_)⟩
  cases List.mem_singleton.mp hy
  refine (ax_XF_bi (o := 30) (by decide)).mpr (Or.inr ⟨rfl, ?_⟩)
  show ρ 1 < ρ 3
  omega

theorem axq_rp5_0 : ax_RO ax_wC ax_XC axu_rp5_0 := by
  intro ρ hp hE hT
  have j0 : ρ 0 % 4 = 1 := pz_gj hE 0 (by decide) rfl
  have j1 : ρ 1 % 4 = 1 := pz_gj hE 1 (by decide) rfl
  have j2 : ρ 2 % 4 = 1 := pz_gj hE 2 (by decide) rfl
  have j3 : ρ 3 % 4 = 1 := pz_gj hE 3 (by decide) rfl
  have j4 : ρ 4 % 4 = 1 := pz_gj hE 4 (by decide) rfl
  have o1 : ρ 2 < ρ 1 := pz_go hE 11 7 (by decide)
  have o2 : ρ 3 < ρ 2 := pz_go hE 15 11 (by decide)
  have o3 : ρ 4 < ρ 3 := pz_go hE 19 15 (by decide)
  obtain ⟨-, -, -, -, F50⟩ : ay_ex hp 8 ∧ ay_ex hp 10 ∧ ay_ex hp 11 ∧ ay_ex hp 12 ∧ pz_x50 (ρ 0) (ρ 1) (ay_at hp 8 5) (ay_at hp 8 6) (ay_at hp 8 7) (ay_at hp 8 8) (ay_at hp 10 0) (ay_at hp 10 1) (ay_at hp 10 2) (ay_at hp 10 3) (ay_at hp 10 4) (ay_at hp 8 9) (ay_at hp 8 11) (ay_at hp 8 10) (ay_at hp 8 3) (ay_at hp 8 4) (ay_at hp 11) (ay_at hp 12) := (ax_XF_lt (by decide)).mp (ax_gx hE (50, [3, 7]) (by decide))
  refine ⟨(fun y hy => by cases hy), _, List.mem_cons_self, ρ, fun _ _ => rfl, ax_px hE (by decide) (fun y hy => ?_)⟩
  rcases List.mem_cons.mp hy with e | hy
  · subst e
    refine (ax_XF_bi (o := 30) (by decide)).mpr (Or.inr ⟨rfl, ?_⟩)
    show ρ 4 < ρ 1
    omega
  cases List.mem_singleton.mp hy
  refine (ax_XF_bi (o := 30) (by decide)).mpr (Or.inr ⟨rfl, ?_⟩)
  show ρ 3 < ρ 1
  omega

theorem axq_rq5_0 : ax_RO ax_wC ax_XC axu_rq5_0 := by
  intro ρ hp hE hT
  have j0 : ρ 0 % 4 = 1 := pz_gj hE 0 (by decide) rfl
  have j1 : ρ 1 % 4 = 1 := pz_gj hE 1 (by decide) rfl
  have j2 : ρ 2 % 4 = 1 := pz_gj hE 2 (by decide) rfl
  have j3 : ρ 3 % 4 = 1 := pz_gj hE 3 (by decide) rfl
  have j4 : ρ 4 % 4 = 1 := pz_gj hE 4 (by decide) rfl
  have o1 : ρ 2 < ρ 1 := pz_go hE 11 7 (by decide)
  have o2 : ρ 3 < ρ 2 := pz_go hE 15 11 (by decide)
  have o3 : ρ 4 < ρ 3 := pz_go hE 19 15 (by decide)
  obtain ⟨-, -, -, -, F50⟩ : ay_ex hp 8 ∧ ay_ex hp 10 ∧ ay_ex hp 11 ∧ ay_ex hp 12 ∧ pz_x50 (ρ 0) (ρ 1) (ay_at hp 8 5) (ay_at hp 8 6) (ay_at hp 8 7) (ay_at hp 8 8) (ay_at hp 10 0) (ay_at hp 10 1) (ay_at hp 10 2) (ay_at hp 10 3) (ay_at hp 10 4) (ay_at hp 8 9) (ay_at hp 8 11) (ay_at hp 8 10) (ay_at hp 8 3) (ay_at hp 8 4) (ay_at hp 11) (ay_at hp 12) := (ax_XF_lt (by decide)).mp (ax_gx hE (50, [3, 7]) (by decide))
  refine ⟨(fun y hy => by cases hy), _, List.mem_cons_self, ρ, fun _ _ => rfl, ax_px hE (by decide) (fun y hy => ?_)⟩
  rcases List.mem_cons.mp hy with e | hy
  · subst e
    refine (ax_XF_bi (o := 30) (by decide)).mpr (Or.inr ⟨rfl, ?_⟩)
    show ρ 4 < ρ 1
    omega
  cases List.mem_singleton.mp hy
  refine (ax_XF_bi (o := 30) (by decide)).mpr (Or.inr ⟨rfl, ?_⟩)
  show ρ 3 < ρ 1
  omega

theorem axq_rut1_1 : ax_RO ax_wC ax_XC axu_rut1_1 := by
  intro ρ hp hE hT
  have j0 : ρ 0 % 4 = 1 := pz_gj hE 0 (by decide) rfl
  have j1 : ρ 1 % 4 = 1 := pz_gj hE 1 (by decide) rfl
  have j2 : ρ 2 % 4 = 1 := pz_gj hE 2 (by decide) rfl
  have j3 : ρ 3 % 4 = 1 := pz_gj hE 3 (by decide) rfl
  have o1 : ρ 2 < ρ 3 := pz_go hE 11 15 (by decide)
  have o2 : ρ 1 < ρ 2 := pz_go hE 7 11 (by decide)
  obtain ⟨-, -, -, -, F50⟩ : ay_ex hp 8 ∧ ay_ex hp 10 ∧ ay_ex hp 11 ∧ ay_ex hp 12 ∧ pz_x50 (ρ 0) (ρ 3) (ay_at hp 8 5) (ay_at hp 8 6) (ay_at hp 8 7) (ay_at hp 8 8) (ay_at hp 10 0) (ay_at hp 10 1) (ay_at hp 10 2) (ay_at hp 10 3) (ay_at hp 10 4) (ay_at hp 8 9) (ay_at hp 8 11) (ay_at hp 8 10) (ay_at hp 8 3) (ay_at hp 8 4) (ay_at hp 11) (ay_at hp 12) := (ax_XF_lt (by decide)).mp (ax_gx hE (50, [3, 15]) (by decide))
  refine ⟨(fun y hy => by cases hy), _, List.mem_cons_self, ρ, fun _ _ => rfl, ax_px hE (by decide) (fun y hy => ?_)⟩
  cases List.mem_singleton.mp hy
  refine (ax_XF_bi (o := 30) (by decide)).mpr (Or.inr ⟨rfl, ?_⟩)
  show ρ 1 < ρ 3
  omega

theorem axq_rut2_1 : ax_RO ax_wC ax_XC axu_rut2_1 := by
  intro ρ hp hE hT
  have j0 : ρ 0 % 4 = 1 := pz_gj hE 0 (by decide) rfl
  have j1 : ρ 1 % 4 = 1 := pz_gj hE 1 (by decide) rfl
  have j2 : ρ 2 % 4 = 1 := pz_gj hE 2 (by decide) rfl
  have j3 : ρ 3 % 4 = 1 := pz_gj hE 3 (by decide) rfl
  have o1 : ρ 2 < ρ 3 := pz_go hE 11 15 (by decide)
  have o2 : ρ 1 < ρ 2 := pz_go hE 7 11 (by decide)
  obtain ⟨-, -, -, -, F50⟩ : ay_ex hp 8 ∧ ay_ex hp 10 ∧ ay_ex hp 11 ∧ ay_ex hp 12 ∧ pz_x50 (ρ 0) (ρ 3) (ay_at hp 8 5) (ay_at hp 8 6) (ay_at hp 8 7) (ay_at hp 8 8) (ay_at hp 10 0) (ay_at hp 10 1) (ay_at hp 10 2) (ay_at hp 10 3) (ay_at hp 10 4) (ay_at hp 8 9) (ay_at hp 8 11) (ay_at hp 8 10) (ay_at hp 8 3) (ay_at hp 8 4) (ay_at hp 11) (ay_at hp 12) := (ax_XF_lt (by decide)).mp (ax_gx hE (50, [3, 15]) (by decide))
  refine ⟨(fun y hy => by cases hy), _, List.mem_cons_self, ρ, fun _ _ => rfl, ax_px hE (by decide) (fun y hy => ?_)⟩
  cases List.mem_singleton.mp hy
  refine (ax_XF_bi (o := 30) (by decide)).mpr (Or.inr ⟨rfl, ?_⟩)
  show ρ 1 < ρ 3
  omega

theorem axq_rut3_1 : ax_RO ax_wC ax_XC axu_rut3_1 := by
  intro ρ hp hE hT
  have j0 : ρ 0 % 4 = 1 := pz_gj hE 0 (by decide) rfl
  have j1 : ρ 1 % 4 = 1 := pz_gj hE 1 (by decide) rfl
  have j2 : ρ 2 % 4 = 1 := pz_gj hE 2 (by decide) rfl
  have j3 : ρ 3 % 4 = 1 := pz_gj hE 3 (by decide) rfl
  have o1 : ρ 2 < ρ 3 := pz_go hE 11 15 (by decide)
  have o2 : ρ 1 < ρ 2 := pz_go hE 7 11 (by decide)
  obtain ⟨-, -, -, -, F50⟩ : ay_ex hp 8 ∧ ay_ex hp 10 ∧ ay_ex hp 11 ∧ ay_ex hp 12 ∧ pz_x50 (ρ 0) (ρ 3) (ay_at hp 8 5) (ay_at hp 8 6) (ay_at hp 8 7) (ay_at hp 8 8) (ay_at hp 10 0) (ay_at hp 10 1) (ay_at hp 10 2) (ay_at hp 10 3) (ay_at hp 10 4) (ay_at hp 8 9) (ay_at hp 8 11) (ay_at hp 8 10) (ay_at hp 8 3) (ay_at hp 8 4) (ay_at hp 11) (ay_at hp 12) := (ax_XF_lt (by decide)).mp (ax_gx hE (50, [3, 15]) (by decide))
  refine ⟨(fun y hy => by cases hy), _, List.mem_cons_self, ρ, fun _ _ => rfl, ax_px hE (by decide) (fun y hy => ?_)⟩
  cases List.mem_singleton.mp hy
  refine (ax_XF_bi (o := 30) (by decide)).mpr (Or.inr ⟨rfl, ?_⟩)
  show ρ 1 < ρ 3
  omega

theorem axq_rp5_1 : ax_RO ax_wC ax_XC axu_rp5_1 := by
  intro ρ hp hE hT
  have j0 : ρ 0 % 4 = 1 := pz_gj hE 0 (by decide) rfl
  have j1 : ρ 1 % 4 = 1 := pz_gj hE 1 (by decide) rfl
  have j2 : ρ 2 % 4 = 1 := pz_gj hE 2 (by decide) rfl
  have j3 : ρ 3 % 4 = 1 := pz_gj hE 3 (by decide) rfl
  have j4 : ρ 4 % 4 = 1 := pz_gj hE 4 (by decide) rfl
  have o1 : ρ 2 < ρ 1 := pz_go hE 11 7 (by decide)
  have o2 : ρ 3 < ρ 2 := pz_go hE 15 11 (by decide)
  have o3 : ρ 4 < ρ 3 := pz_go hE 19 15 (by decide)
  obtain ⟨-, -, -, -, F50⟩ : ay_ex hp 8 ∧ ay_ex hp 10 ∧ ay_ex hp 11 ∧ ay_ex hp 12 ∧ pz_x50 (ρ 0) (ρ 1) (ay_at hp 8 5) (ay_at hp 8 6) (ay_at hp 8 7) (ay_at hp 8 8) (ay_at hp 10 0) (ay_at hp 10 1) (ay_at hp 10 2) (ay_at hp 10 3) (ay_at hp 10 4) (ay_at hp 8 9) (ay_at hp 8 11) (ay_at hp 8 10) (ay_at hp 8 3) (ay_at hp 8 4) (ay_at hp 11) (ay_at hp 12) := (ax_XF_lt (by decide)).mp (ax_gx hE (50, [3, 7]) (by decide))
  refine ⟨(fun y hy => by cases hy), _, List.mem_cons_self, ρ, fun _ _ => rfl, ax_px hE (by decide) (fun y hy => ?_)⟩
  rcases List.mem_cons.mp hy with e | hy
  · subst e
    refine (ax_XF_bi (o := 30) (by decide)).mpr (Or.inr ⟨rfl, ?_⟩)
    show ρ 4 < ρ 1
    omega
  cases List.mem_singleton.mp hy
  refine (ax_XF_bi (o := 30) (by decide)).mpr (Or.inr ⟨rfl, ?_⟩)
  show ρ 3 < ρ 1
  omega

theorem axq_rq5_1 : ax_RO ax_wC ax_XC axu_rq5_1 := by
  intro ρ hp hE hT
  have j0 : ρ 0 % 4 = 1 := pz_gj hE 0 (by decide) rfl
  have j1 : ρ 1 % 4 = 1 := pz_gj hE 1 (by decide) rfl
  have j2 : ρ 2 % 4 = 1 := pz_gj hE 2 (by decide) rfl
  have j3 : ρ 3 % 4 = 1 := pz_gj hE 3 (by decide) rfl
  have j4 : ρ 4 % 4 = 1 := pz_gj hE 4 (by decide) rfl
  have o1 : ρ 2 < ρ 1 := pz_go hE 11 7 (by decide)
  have o2 : ρ 3 < ρ 2 := pz_go hE 15 11 (by decide)
  have o3 : ρ 4 < ρ 3 := pz_go hE 19 15 (by decide)
  obtain ⟨-, -, -, -, F50⟩ : ay_ex hp 8 ∧ ay_ex hp 10 ∧ ay_ex hp 11 ∧ ay_ex hp 12 ∧ pz_x50 (ρ 0) (ρ 1) (ay_at hp 8 5) (ay_at hp 8 6) (ay_at hp 8 7) (ay_at hp 8 8) (ay_at hp 10 0) (ay_at hp 10 1) (ay_at hp 10 2) (ay_at hp 10 3) (ay_at hp 10 4) (ay_at hp 8 9) (ay_at hp 8 11) (ay_at hp 8 10) (ay_at hp 8 3) (ay_at hp 8 4) (ay_at hp 11) (ay_at hp 12) := (ax_XF_lt (by decide)).mp (ax_gx hE (50, [3, 7]) (by decide))
  refine ⟨(fun y hy => by cases hy), _, List.mem_cons_self, ρ, fun _ _ => rfl, ax_px hE (by decide) (fun y hy => ?_)⟩
  rcases List.mem_cons.mp hy with e | hy
  · subst e
    refine (ax_XF_bi (o := 30) (by decide)).mpr (Or.inr ⟨rfl, ?_⟩)
    show ρ 4 < ρ 1
    omega
  cases List.mem_singleton.mp hy
  refine (ax_XF_bi (o := 30) (by decide)).mpr (Or.inr ⟨rfl, ?_⟩)
  show ρ 3 < ρ 1
  omega

