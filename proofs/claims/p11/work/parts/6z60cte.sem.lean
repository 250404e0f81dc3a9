theorem axq_rp8a_3 : ax_RO ax_wC ax_XC axu_rp8a_3 := by
  intro ρ hp hE hT
  have j0 : ρ 0 % 4 = 1 := pz_gj hE 0 (by decide) rfl
  have j1 : ρ 1 % 4 = 1 := pz_gj hE 1 (by decide) rfl
  obtain ⟨i2a, i2b, i2c, i2d⟩ := pz_gi hE 2 0 2147483684 (by decide) rfl
  have c_kind : ay_at hp 8 7 = some (ρ 2) := ay_gfj hE 42 28 11 8 7 (by decide) (by rw [ax_vl_c (by decide)]) (by rw [ax_vl_c (by decide)])
  obtain ⟨-, -, -, -, F50⟩ : ay_ex hp 8 ∧ ay_ex hp 10 ∧ ay_ex hp 11 ∧ ay_ex hp 12 ∧ pz_x50 (ρ 0) (ρ 1) (ay_at hp 8 5) (ay_at hp 8 6) (ay_at hp 8 7) (ay_at hp 8 8) (ay_at hp 10 0) (ay_at hp 10 1) (ay_at hp 10 2) (ay_at hp 10 3) (ay_at hp 10 4) (ay_at hp 8 9) (ay_at hp 8 11) (ay_at hp 8 10) (ay_at hp 8 3) (ay_at hp 8 4) (ay_at hp 11) (ay_at hp 12) := (ax_XF_lt (by decide)).mp (ax_gx hE (50, [3, 7]) (by decide))
  rw [c_kind] at F50
  refine ⟨(fun y hy => by cases hy), _, List.mem_cons_self, ρ, fun _ _ => rfl, ax_px hE (by decide) (fun y hy => ?_)⟩
  cases List.mem_singleton.mp hy
  refine (ax_XF_lt (x := 95) (by decide)).mpr ?_
  show pz95 (pz_gt (ρ 0)) (pz_gN (ρ 0)) ((ρ 1) / 4)
  have kd : ρ 2 / 4 = pz_kd (pz_gt (ρ 0)) (pz_gN (ρ 0)) (pz_p (pz_cf (pz_gt (ρ 0)) (pz_gN (ρ 0)) (ρ 1 / 4))) := F50.2.2.1
  exact ⟨by omega, by omega, by omega⟩

theorem axq_rp8b_3 : ax_RO ax_wC ax_XC axu_rp8b_3 := by
  intro ρ hp hE hT
  have j0 : ρ 0 % 4 = 1 := pz_gj hE 0 (by decide) rfl
  have j1 : ρ 1 % 4 = 1 := pz_gj hE 1 (by decide) rfl
  obtain ⟨i2a, i2b, i2c, i2d⟩ := pz_gi hE 2 2147483686 2147483689 (by decide) rfl
  have c_kind : ay_at hp 8 7 = some (ρ 2) := ay_gfj hE 42 28 11 8 7 (by decide) (by rw [ax_vl_c (by decide)]) (by rw [ax_vl_c (by decide)])
  obtain ⟨-, -, -, -, F50⟩ : ay_ex hp 8 ∧ ay_ex hp 10 ∧ ay_ex hp 11 ∧ ay_ex hp 12 ∧ pz_x50 (ρ 0) (ρ 1) (ay_at hp 8 5) (ay_at hp 8 6) (ay_at hp 8 7) (ay_at hp 8 8) (ay_at hp 10 0) (ay_at hp 10 1) (ay_at hp 10 2) (ay_at hp 10 3) (ay_at hp 10 4) (ay_at hp 8 9) (ay_at hp 8 11) (ay_at hp 8 10) (ay_at hp 8 3) (ay_at hp 8 4) (ay_at hp 11) (ay_at hp 12) := (ax_XF_lt (by decide)).mp (ax_gx hE (50, [3, 7]) (by decide))
  rw [c_kind] at F50
  refine ⟨(fun y hy => by cases hy), _, List.mem_cons_self, ρ, fun _ _ => rfl, ax_px hE (by decide) (fun y hy => ?_)⟩
  cases List.mem_singleton.mp hy
  refine (ax_XF_lt (x := 95) (by decide)).mpr ?_
  show pz95 (pz_gt (ρ 0)) (pz_gN (ρ 0)) ((ρ 1) / 4)
  have kd : ρ 2 / 4 = pz_kd (pz_gt (ρ 0)) (pz_gN (ρ 0)) (pz_p (pz_cf (pz_gt (ρ 0)) (pz_gN (ρ 0)) (ρ 1 / 4))) := F50.2.2.1
  exact ⟨by omega, by omega, by omega⟩

theorem axq_rp8c_3 : ax_RO ax_wC ax_XC axu_rp8c_3 := by
  intro ρ hp hE hT
  have j0 : ρ 0 % 4 = 1 := pz_gj hE 0 (by decide) rfl
  have j1 : ρ 1 % 4 = 1 := pz_gj hE 1 (by decide) rfl
  obtain ⟨i2a, i2b, i2c, i2d⟩ := pz_gi hE 2 2147483691 2147483694 (by decide) rfl
  have c_kind : ay_at hp 8 7 = some (ρ 2) := ay_gfj hE 42 28 11 8 7 (by decide) (by rw [ax_vl_c (by decide)]) (by rw [ax_vl_c (by decide)])
  obtain ⟨-, -, -, -, F50⟩ : ay_ex hp 8 ∧ ay_ex hp 10 ∧ ay_ex hp 11 ∧ ay_ex hp 12 ∧ pz_x50 (ρ 0) (ρ 1) (ay_at hp 8 5) (ay_at hp 8 6) (ay_at hp 8 7) (ay_at hp 8 8) (ay_at hp 10 0) (ay_at hp 10 1) (ay_at hp 10 2) (ay_at hp 10 3) (ay_at hp 10 4) (ay_at hp 8 9) (ay_at hp 8 11) (ay_at hp 8 10) (ay_at hp 8 3) (ay_at hp 8 4) (ay_at hp 11) (ay_at hp 12) := (ax_XF_lt (by decide)).mp (ax_gx hE (50, [3, 7]) (by decide))
  rw [c_kind] at F50
  refine ⟨(fun y hy => by cases hy), _, List.mem_cons_self, ρ, fun _ _ => rfl, ax_px hE (by decide) (fun y hy => ?_)⟩
  cases List.mem_singleton.mp hy
  refine (ax_XF_lt (x := 95) (by decide)).mpr ?_
  show pz95 (pz_gt (ρ 0)) (pz_gN (ρ 0)) ((ρ 1) / 4)
  have kd : ρ 2 / 4 = pz_kd (pz_gt (ρ 0)) (pz_gN (ρ 0)) (pz_p (pz_cf (pz_gt (ρ 0)) (pz_gN (ρ 0)) (ρ 1 / 4))) := F50.2.2.1
  exact ⟨by omega, by omega, by omega⟩

theorem axq_rp8d_3 : ax_RO ax_wC ax_XC axu_rp8d_3 := by
  intro ρ hp hE hT
  have j0 : ρ 0 % 4 = 1 := pz_gj hE 0 (by decide) rfl
  have j1 : ρ 1 % 4 = 1 := pz_gj hE 1 (by decide) rfl
  obtain ⟨i2a, i2b, i2c, i2d⟩ := pz_gi hE 2 2147483696 4294967295 (by decide) rfl
  have c_kind : ay_at hp 8 7 = some (ρ 2) := ay_gfj hE 42 28 11 8 7 (by decide) (by rw [ax_vl_c (by decide)]) (by rw [ax_vl_c (by decide)])
  obtain ⟨-, -, -, -, F50⟩ : ay_ex hp 8 ∧ ay_ex hp 10 ∧ ay_ex hp 11 ∧ ay_ex hp 12 ∧ pz_x50 (ρ 0) (ρ 1) (ay_at hp 8 5) (ay_at hp 8 6) (ay_at hp 8 7) (ay_at hp 8 8) (ay_at hp 10 0) (ay_at hp 10 1) (ay_at hp 10 2) (ay_at hp 10 3) (ay_at hp 10 4) (ay_at hp 8 9) (ay_at hp 8 11) (ay_at hp 8 10) (ay_at hp 8 3) (ay_at hp 8 4) (ay_at hp 11) (ay_at hp 12) := (ax_XF_lt (by decide)).mp (ax_gx hE (50, [3, 7]) (by decide))
  rw [c_kind] at F50
  refine ⟨(fun y hy => by cases hy), _, List.mem_cons_self, ρ, fun _ _ => rfl, ax_px hE (by decide) (fun y hy => ?_)⟩
  cases List.mem_singleton.mp hy
  refine (ax_XF_lt (x := 95) (by decide)).mpr ?_
  show pz95 (pz_gt (ρ 0)) (pz_gN (ρ 0)) ((ρ 1) / 4)
  have kd : ρ 2 / 4 = pz_kd (pz_gt (ρ 0)) (pz_gN (ρ 0)) (pz_p (pz_cf (pz_gt (ρ 0)) (pz_gN (ρ 0)) (ρ 1 / 4))) := F50.2.2.1
  exact ⟨by omega, by omega, by omega⟩

theorem axq_rp1_4 : ax_RO ax_wC ax_XC axu_rp1_4 := by
  intro ρ hp hE hT
  have j0 : ρ 0 % 4 = 1 := pz_gj hE 0 (by decide) rfl
  have j1 : ρ 1 % 4 = 1 := pz_gj hE 1 (by decide) rfl
  have j2 : ρ 2 % 4 = 1 := pz_gj hE 2 (by decide) rfl
  have j3 : ρ 3 % 4 = 1 := pz_gj hE 3 (by decide) rfl
  obtain ⟨-, -, -, -, F50⟩ : ay_ex hp 8 ∧ ay_ex hp 10 ∧ ay_ex hp 11 ∧ ay_ex hp 12 ∧ pz_x50 (ρ 0) (ρ 1) (ay_at hp 8 5) (ay_at hp 8 6) (ay_at hp 8 7) (ay_at hp 8 8) (ay_at hp 10 0) (ay_at hp 10 1) (ay_at hp 10 2) (ay_at hp 10 3) (ay_at hp 10 4) (ay_at hp 8 9) (ay_at hp 8 11) (ay_at hp 8 10) (ay_at hp 8 3) (ay_at hp 8 4) (ay_at hp 11) (ay_at hp 12) := (ax_XF_lt (by decide)).mp (ax_gx hE (50, [3, 7]) (by decide))
  have F90 : (pz90 (pz_gt (ρ 0)) (pz_gN (ρ 0)) ((ρ 1) / 4) ((ρ 3) / 4) ∧ 1 ≤ (ρ 3) / 4) := (ax_XF_lt (by decide)).mp (ax_gx hE (90, [3, 7, 15]) (by decide))
  have F92 : pz_strip ((ρ 2) / 4) = (ρ 3) / 4 := (ax_XF_lt (by decide)).mp (ax_gx hE (92, [11, 15]) (by decide))
  have F92a : pz_strip ((ρ 2) / 4) = (ρ 2) / 4 := (ax_XF_lt (by decide)).mp (ax_gx hE (92, [11, 11]) (by decide))
  refine ⟨(fun y hy => by cases hy), _, List.mem_cons_self, ρ, fun _ _ => rfl, ax_px hE (by decide) (fun y hy => ?_)⟩
  cases List.mem_singleton.mp hy
  refine (ax_XF_lt (x := 90) (by decide)).mpr ?_
  show (pz90 (pz_gt (ρ 0)) (pz_gN (ρ 0)) ((ρ 1) / 4) ((ρ 2) / 4) ∧ 1 ≤ (ρ 2) / 4)
  have e : ρ 3 / 4 = ρ 2 / 4 := by omega
  rw [← e]
  exact F90

theorem axq_rp2_4 : ax_RO ax_wC ax_XC axu_rp2_4 := by
  intro ρ hp hE hT
  have j0 : ρ 0 % 4 = 1 := pz_gj hE 0 (by decide) rfl
  have j1 : ρ 1 % 4 = 1 := pz_gj hE 1 (by decide) rfl
  obtain ⟨-, -, -, -, F50⟩ : ay_ex hp 8 ∧ ay_ex hp 10 ∧ ay_ex hp 11 ∧ ay_ex hp 12 ∧ pz_x50 (ρ 0) (ρ 1) (ay_at hp 8 5) (ay_at hp 8 6) (ay_at hp 8 7) (ay_at hp 8 8) (ay_at hp 10 0) (ay_at hp 10 1) (ay_at hp 10 2) (ay_at hp 10 3) (ay_at hp 10 4) (ay_at hp 8 9) (ay_at hp 8 11) (ay_at hp 8 10) (ay_at hp 8 3) (ay_at hp 8 4) (ay_at hp 11) (ay_at hp 12) := (ax_XF_lt (by decide)).mp (ax_gx hE (50, [3, 7]) (by decide))
  refine ⟨(fun y hy => by cases hy), _, List.mem_cons_self, ρ, fun _ _ => rfl, ax_px hE (by decide) (fun y hy => ?_)⟩
  cases List.mem_singleton.mp hy
  refine (ax_XF_lt (x := 97) (by decide)).mpr ?_
  show (0) / 4 ≤ (ρ 1) / 4
  exact Nat.zero_le _

theorem axq_rp3c42_4 : ax_RO ax_wC ax_XC axu_rp3c42_4 := by
  intro ρ hp hE hT
  have j0 : ρ 0 % 4 = 1 := pz_gj hE 0 (by decide) rfl
  have j1 : ρ 1 % 4 = 1 := pz_gj hE 1 (by decide) rfl
  have j2 : ρ 2 % 4 = 1 := pz_gj hE 2 (by decide) rfl
  obtain ⟨i3a, i3b, i3c, i3d⟩ := pz_gi hE 3 2147483690 2147483690 (by decide) rfl
  have j4 : ρ 4 % 4 = 1 := pz_gj hE 4 (by decide) rfl
  have c_kind : ay_at hp 8 7 = some (ρ 3) := ay_gfj hE 42 28 15 8 7 (by decide) (by rw [ax_vl_c (by decide)]) (by rw [ax_vl_c (by decide)])
  have o1 : ρ 4 < ρ 1 := pz_go hE 19 7 (by decide)
  obtain ⟨-, -, -, -, F50⟩ : ay_ex hp 8 ∧ ay_ex hp 10 ∧ ay_ex hp 11 ∧ ay_ex hp 12 ∧ pz_x50 (ρ 0) (ρ 1) (ay_at hp 8 5) (ay_at hp 8 6) (ay_at hp 8 7) (ay_at hp 8 8) (ay_at hp 10 0) (ay_at hp 10 1) (ay_at hp 10 2) (ay_at hp 10 3) (ay_at hp 10 4) (ay_at hp 8 9) (ay_at hp 8 11) (ay_at hp 8 10) (ay_at hp 8 3) (ay_at hp 8 4) (ay_at hp 11) (ay_at hp 12) := (ax_XF_lt (by decide)).mp (ax_gx hE (50, [3, 7]) (by decide))
  rw [c_kind] at F50
  have F79 : pz7 (pz_gt (ρ 0)) (pz_gN (ρ 0)) ((ρ 1) / 4) 9 := (ax_XF_lt (by decide)).mp (ax_gx hE (79, [3, 7]) (by decide))
  have F90 : (pz90 (pz_gt (ρ 0)) (pz_gN (ρ 0)) ((ρ 1) / 4) ((ρ 2) / 4) ∧ 1 ≤ (ρ 2) / 4) := (ax_XF_lt (by decide)).mp (ax_gx hE (90, [3, 7, 11]) (by decide))
  have st := pq_op F50 F79 F90.1 (show pz_op (ρ 3 / 4) = true by rw [show ρ 3 / 4 = 42 by omega]; rfl)
  obtain ⟨ρ', h1, h2⟩ := pz_pn1 (K := ρ 1 / 4 + 1) (xf := [(53, [3, 23]), (78, [3, 23]), (90, [3, 23, 11]), (1030, [7, 23]), (98, [7, 23]), (1030, [19, 23])]) hE (by decide) (fun ρ' h1 h2 x hx => by
    have q0 : ρ' 0 = ρ 0 := h1 0 (by decide)
    have q1 : ρ' 1 = ρ 1 := h1 1 (by decide)
    have q2 : ρ' 2 = ρ 2 := h1 2 (by decide)
    have q3 : ρ' 3 = ρ 3 := h1 3 (by decide)
    have q4 : ρ' 4 = ρ 4 := h1 4 (by decide)
    rcases List.mem_cons.mp hx with e | hx
    · subst e
      refine (ax_XF_lt (x := 53) (by decide)).mpr ?_
      show ay_ex hp 8 ∧ ay_ex hp 10 ∧ ay_ex hp 11 ∧ ay_ex hp 12 ∧ pz_x53 (ρ' 0) (ρ' 5) (ay_at hp 8 5) (ay_at hp 10 0) (ay_at hp 10 1) (ay_at hp 10 2) (ay_at hp 10 3) (ay_at hp 10 4) (ay_at hp 8 9) (ay_at hp 8 11) (ay_at hp 8 10) (ay_at hp 8 3) (ay_at hp 8 4) (ay_at hp 11) (ay_at hp 12)
      rw [q0, h2]
      exact ⟨(ax_cellT hT (q := 8) (g := 2) rfl), (ax_cellT hT (q := 10) (g := 1) rfl), (ax_cellT hT (q := 11) (g := 14) rfl), (ax_cellT hT (q := 12) (g := 15) rfl), pz_53 (pz_41 _) rfl st.1⟩
    rcases List.mem_cons.mp hx with e | hx
    · subst e
      refine (ax_XF_lt (x := 78) (by decide)).mpr ?_
      show pz7 (pz_gt (ρ' 0)) (pz_gN (ρ' 0)) ((ρ' 5) / 4) 8
      rw [q0, h2]
      rw [pz_41]
      exact st.2.1
    rcases List.mem_cons.mp hx with e | hx
    · subst e
      refine (ax_XF_lt (x := 90) (by decide)).mpr ?_
      show (pz90 (pz_gt (ρ' 0)) (pz_gN (ρ' 0)) ((ρ' 5) / 4) ((ρ' 2) / 4) ∧ 1 ≤ (ρ' 2) / 4)
      rw [q0, q2, h2]
      rw [pz_41]
      exact ⟨st.2.2, F90.2⟩
    rcases List.mem_cons.mp hx with e | hx
    · subst e
      refine (ax_XF_bi (o := 30) (by decide)).mpr (Or.inr ⟨rfl, ?_⟩)
      show ρ' 1 < ρ' 5
      rw [q1, h2]
      omega
    rcases List.mem_cons.mp hx with e | hx
    · subst e
      refine (ax_XF_lt (x := 98) (by decide)).mpr ?_
      show (ρ' 5) / 4 = (ρ' 1) / 4 + 1
      rw [q1, h2]
      rw [pz_41]
    cases List.mem_singleton.mp hx
    refine (ax_XF_bi (o := 30) (by decide)).mpr (Or.inr ⟨rfl, ?_⟩)
    show ρ' 4 < ρ' 5
    rw [q4, h2]
    omega)
  exact ⟨(fun y hy => by cases hy), _, List.mem_cons_self, ρ', h1, h2⟩

theorem axq_rp3c47_4 : ax_RO ax_wC ax_XC axu_rp3c47_4 := by
  intro ρ hp hE hT
  have j0 : ρ 0 % 4 = 1 := pz_gj hE 0 (by decide) rfl
  have j1 : ρ 1 % 4 = 1 := pz_gj hE 1 (by decide) rfl
  have j2 : ρ 2 % 4 = 1 := pz_gj hE 2 (by decide) rfl
  obtain ⟨i3a, i3b, i3c, i3d⟩ := pz_gi hE 3 2147483695 2147483695 (by decide) rfl
  have j4 : ρ 4 % 4 = 1 := pz_gj hE 4 (by decide) rfl
  have c_kind : ay_at hp 8 7 = some (ρ 3) := ay_gfj hE 42 28 15 8 7 (by decide) (by rw [ax_vl_c (by decide)]) (by rw [ax_vl_c (by decide)])
  have o1 : ρ 4 < ρ 1 := pz_go hE 19 7 (by decide)
  obtain ⟨-, -, -, -, F50⟩ : ay_ex hp 8 ∧ ay_ex hp 10 ∧ ay_ex hp 11 ∧ ay_ex hp 12 ∧ pz_x50 (ρ 0) (ρ 1) (ay_at hp 8 5) (ay_at hp 8 6) (ay_at hp 8 7) (ay_at hp 8 8) (ay_at hp 10 0) (ay_at hp 10 1) (ay_at hp 10 2) (ay_at hp 10 3) (ay_at hp 10 4) (ay_at hp 8 9) (ay_at hp 8 11) (ay_at hp 8 10) (ay_at hp 8 3) (ay_at hp 8 4) (ay_at hp 11) (ay_at hp 12) := (ax_XF_lt (by decide)).mp (ax_gx hE (50, [3, 7]) (by decide))
  rw [c_kind] at F50
  have F79 : pz7 (pz_gt (ρ 0)) (pz_gN (ρ 0)) ((ρ 1) / 4) 9 := (ax_XF_lt (by decide)).mp (ax_gx hE (79, [3, 7]) (by decide))
  have F90 : (pz90 (pz_gt (ρ 0)) (pz_gN (ρ 0)) ((ρ 1) / 4) ((ρ 2) / 4) ∧ 1 ≤ (ρ 2) / 4) := (ax_XF_lt (by decide)).mp (ax_gx hE (90, [3, 7, 11]) (by decide))
  have st := pq_op F50 F79 F90.1 (show pz_op (ρ 3 / 4) = true by rw [show ρ 3 / 4 = 47 by omega]; rfl)
  obtain ⟨ρ', h1, h2⟩ := pz_pn1 (K := ρ 1 / 4 + 1) (xf := [(53, [3, 23]), (78, [3, 23]), (90, [3, 23, 11]), (1030, [7, 23]), (98, [7, 23]), (1030, [19, 23])]) hE (by decide) (fun ρ' h1 h2 x hx => by
    have q0 : ρ' 0 = ρ 0 := h1 0 (by decide)
    have q1 : ρ' 1 = ρ 1 := h1 1 (by decide)
    have q2 : ρ' 2 = ρ 2 := h1 2 (by decide)
    have q3 : ρ' 3 = ρ 3 := h1 3 (by decide)
    have q4 : ρ' 4 = ρ 4 := h1 4 (by decide)
    rcases List.mem_cons.mp hx with e | hx
    · subst e
      refine (ax_XF_lt (x := 53) (by decide)).mpr ?_
      show ay_ex hp 8 ∧ ay_ex hp 10 ∧ ay_ex hp 11 ∧ ay_ex hp 12 ∧ pz_x53 (ρ' 0) (ρ' 5) (ay_at hp 8 5) (ay_at hp 10 0) (ay_at hp 10 1) (ay_at hp 10 2) (ay_at hp 10 3) (ay_at hp 10 4) (ay_at hp 8 9) (ay_at hp 8 11) (ay_at hp 8 10) (ay_at hp 8 3) (ay_at hp 8 4) (ay_at hp 11) (ay_at hp 12)
      rw [q0, h2]
      exact ⟨(ax_cellT hT (q := 8) (g := 2) rfl), (ax_cellT hT (q := 10) (g := 1) rfl), (ax_cellT hT (q := 11) (g := 14) rfl), (ax_cellT hT (q := 12) (g := 15) rfl), pz_53 (pz_41 _) rfl st.1⟩
    rcases List.mem_cons.mp hx with e | hx
    · subst e
      refine (ax_XF_lt (x := 78) (by decide)).mpr ?_
      show pz7 (pz_gt (ρ' 0)) (pz_gN (ρ' 0)) ((ρ' 5) / 4) 8
      rw [q0, h2]
      rw [pz_41]
      exact st.2.1
    rcases List.mem_cons.mp hx with e | hx
    · subst e
      refine (ax_XF_lt (x := 90) (by decide)).mpr ?_
      show (pz90 (pz_gt (ρ' 0)) (pz_gN (ρ' 0)) ((ρ' 5) / 4) ((ρ' 2) / 4) ∧ 1 ≤ (ρ' 2) / 4)
      rw [q0, q2, h2]
      rw [pz_41]
      exact ⟨st.2.2, F90.2⟩
    rcases List.mem_cons.mp hx with e | hx
    · subst e
      refine (ax_XF_bi (o := 30) (by decide)).mpr (Or.inr ⟨rfl, ?_⟩)
      show ρ' 1 < ρ' 5
      rw [q1, h2]
      omega
    rcases List.mem_cons.mp hx with e | hx
    · subst e
      refine (ax_XF_lt (x := 98) (by decide)).mpr ?_
      show (ρ' 5) / 4 = (ρ' 1) / 4 + 1
      rw [q1, h2]
      rw [pz_41]
    cases List.mem_singleton.mp hx
    refine (ax_XF_bi (o := 30) (by decide)).mpr (Or.inr ⟨rfl, ?_⟩)
    show ρ' 4 < ρ' 5
    rw [q4, h2]
    omega)
  exact ⟨(fun y hy => by cases hy), _, List.mem_cons_self, ρ', h1, h2⟩

theorem axq_rp3c37_4 : ax_RO ax_wC ax_XC axu_rp3c37_4 := by
  intro ρ hp hE hT
  have j0 : ρ 0 % 4 = 1 := pz_gj hE 0 (by decide) rfl
  have j1 : ρ 1 % 4 = 1 := pz_gj hE 1 (by decide) rfl
  have j2 : ρ 2 % 4 = 1 := pz_gj hE 2 (by decide) rfl
  obtain ⟨i3a, i3b, i3c, i3d⟩ := pz_gi hE 3 2147483685 2147483685 (by decide) rfl
  have j4 : ρ 4 % 4 = 1 := pz_gj hE 4 (by decide) rfl
  have c_kind : ay_at hp 8 7 = some (ρ 3) := ay_gfj hE 42 28 15 8 7 (by decide) (by rw [ax_vl_c (by decide)]) (by rw [ax_vl_c (by decide)])
  have o1 : ρ 4 < ρ 1 := pz_go hE 19 7 (by decide)
  obtain ⟨-, -, -, -, F50⟩ : ay_ex hp 8 ∧ ay_ex hp 10 ∧ ay_ex hp 11 ∧ ay_ex hp 12 ∧ pz_x50 (ρ 0) (ρ 1) (ay_at hp 8 5) (ay_at hp 8 6) (ay_at hp 8 7) (ay_at hp 8 8) (ay_at hp 10 0) (ay_at hp 10 1) (ay_at hp 10 2) (ay_at hp 10 3) (ay_at hp 10 4) (ay_at hp 8 9) (ay_at hp 8 11) (ay_at hp 8 10) (ay_at hp 8 3) (ay_at hp 8 4) (ay_at hp 11) (ay_at hp 12) := (ax_XF_lt (by decide)).mp (ax_gx hE (50, [3, 7]) (by decide))
  rw [c_kind] at F50
  have F79 : pz7 (pz_gt (ρ 0)) (pz_gN (ρ 0)) ((ρ 1) / 4) 9 := (ax_XF_lt (by decide)).mp (ax_gx hE (79, [3, 7]) (by decide))
  have F90 : (pz90 (pz_gt (ρ 0)) (pz_gN (ρ 0)) ((ρ 1) / 4) ((ρ 2) / 4) ∧ 1 ≤ (ρ 2) / 4) := (ax_XF_lt (by decide)).mp (ax_gx hE (90, [3, 7, 11]) (by decide))
  have st := pq_op F50 F79 F90.1 (show pz_op (ρ 3 / 4) = true by rw [show ρ 3 / 4 = 37 by omega]; rfl)
  obtain ⟨ρ', h1, h2⟩ := pz_pn1 (K := ρ 1 / 4 + 1) (xf := [(53, [3, 23]), (78, [3, 23]), (90, [3, 23, 11]), (1030, [7, 23]), (98, [7, 23]), (1030, [19, 23])]) hE (by decide) (fun ρ' h1 h2 x hx => by
    have q0 : ρ' 0 = ρ 0 := h1 0 (by decide)
    have q1 : ρ' 1 = ρ 1 := h1 1 (by decide)
    have q2 : ρ' 2 = ρ 2 := h1 2 (by decide)
    have q3 : ρ' 3 = ρ 3 := h1 3 (by decide)
    have q4 : ρ' 4 = ρ 4 := h1 4 (by decide)
    rcases List.mem_cons.mp hx with e | hx
    · subst e
      refine (ax_XF_lt (x := 53) (by decide)).mpr ?_
      show ay_ex hp 8 ∧ ay_ex hp 10 ∧ ay_ex hp 11 ∧ ay_ex hp 12 ∧ pz_x53 (ρ' 0) (ρ' 5) (ay_at hp 8 5) (ay_at hp 10 0) (ay_at hp 10 1) (ay_at hp 10 2) (ay_at hp 10 3) (ay_at hp 10 4) (ay_at hp 8 9) (ay_at hp 8 11) (ay_at hp 8 10) (ay_at hp 8 3) (ay_at hp 8 4) (ay_at hp 11) (ay_at hp 12)
      rw [q0, h2]
      exact ⟨(ax_cellT hT (q := 8) (g := 2) rfl), (ax_cellT hT (q := 10) (g := 1) rfl), (ax_cellT hT (q := 11) (g := 14) rfl), (ax_cellT hT (q := 12) (g := 15) rfl), pz_53 (pz_41 _) rfl st.1⟩
    rcases List.mem_cons.mp hx with e | hx
    · subst e
      refine (ax_XF_lt (x := 78) (by decide)).mpr ?_
      show pz7 (pz_gt (ρ' 0)) (pz_gN (ρ' 0)) ((ρ' 5) / 4) 8
      rw [q0, h2]
      rw [pz_41]
      exact st.2.1
    rcases List.mem_cons.mp hx with e | hx
    · subst e
      refine (ax_XF_lt (x := 90) (by decide)).mpr ?_
      show (pz90 (pz_gt (ρ' 0)) (pz_gN (ρ' 0)) ((ρ' 5) / 4) ((ρ' 2) / 4) ∧ 1 ≤ (ρ' 2) / 4)
      rw [q0, q2, h2]
      rw [pz_41]
      exact ⟨st.2.2, F90.2⟩
    rcases List.mem_cons.mp hx with e | hx
    · subst e
      refine (ax_XF_bi (o := 30) (by decide)).mpr (Or.inr ⟨rfl, ?_⟩)
      show ρ' 1 < ρ' 5
      rw [q1, h2]
      omega
    rcases List.mem_cons.mp hx with e | hx
    · subst e
      refine (ax_XF_lt (x := 98) (by decide)).mpr ?_
      show (ρ' 5) / 4 = (ρ' 1) / 4 + 1
      rw [q1, h2]
      rw [pz_41]
    cases List.mem_singleton.mp hx
    refine (ax_XF_bi (o := 30) (by decide)).mpr (Or.inr ⟨rfl, ?_⟩)
    show ρ' 4 < ρ' 5
    rw [q4, h2]
    omega)
  exact ⟨(fun y hy => by cases hy), _, List.mem_cons_self, ρ', h1, h2⟩

theorem axq_rp4_4 : ax_RO ax_wC ax_XC axu_rp4_4 := by
  intro ρ hp hE hT
  have j0 : ρ 0 % 4 = 1 := pz_gj hE 0 (by decide) rfl
  have j1 : ρ 1 % 4 = 1 := pz_gj hE 1 (by decide) rfl
  have j2 : ρ 2 % 4 = 1 := pz_gj hE 2 (by decide) rfl
  have j3 : ρ 3 % 4 = 1 := pz_gj hE 3 (by decide) rfl
  obtain ⟨-, -, -, -, F50⟩ : ay_ex hp 8 ∧ ay_ex hp 10 ∧ ay_ex hp 11 ∧ ay_ex hp 12 ∧ pz_x50 (ρ 0) (ρ 1) (ay_at hp 8 5) (ay_at hp 8 6) (ay_at hp 8 7) (ay_at hp 8 8) (ay_at hp 10 0) (ay_at hp 10 1) (ay_at hp 10 2) (ay_at hp 10 3) (ay_at hp 10 4) (ay_at hp 8 9) (ay_at hp 8 11) (ay_at hp 8 10) (ay_at hp 8 3) (ay_at hp 8 4) (ay_at hp 11) (ay_at hp 12) := (ax_XF_lt (by decide)).mp (ax_gx hE (50, [3, 7]) (by decide))
  have F90 : (pz90 (pz_gt (ρ 0)) (pz_gN (ρ 0)) ((ρ 1) / 4) ((ρ 3) / 4) ∧ 1 ≤ (ρ 3) / 4) := (ax_XF_lt (by decide)).mp (ax_gx hE (90, [3, 7, 15]) (by decide))
  have F92 : pz_strip ((ρ 2) / 4) = (ρ 3) / 4 := (ax_XF_lt (by decide)).mp (ax_gx hE (92, [11, 15]) (by decide))
  have F92a : pz_strip ((ρ 2) / 4) = (ρ 2) / 4 := (ax_XF_lt (by decide)).mp (ax_gx hE (92, [11, 11]) (by decide))
  refine ⟨(fun y hy => by cases hy), _, List.mem_cons_self, ρ, fun _ _ => rfl, ax_px hE (by decide) (fun y hy => ?_)⟩
  cases List.mem_singleton.mp hy
  refine (ax_XF_lt (x := 90) (by decide)).mpr ?_
  show (pz90 (pz_gt (ρ 0)) (pz_gN (ρ 0)) ((ρ 1) / 4) ((ρ 2) / 4) ∧ 1 ≤ (ρ 2) / 4)
  have e : ρ 3 / 4 = ρ 2 / 4 := by omega
  rw [← e]
  exact F90

theorem axq_rp5_4 : ax_RO ax_wC ax_XC axu_rp5_4 := by
  intro ρ hp hE hT
  have j0 : ρ 0 % 4 = 1 := pz_gj hE 0 (by decide) rfl
  have j1 : ρ 1 % 4 = 1 := pz_gj hE 1 (by decide) rfl
  have j2 : ρ 2 % 4 = 1 := pz_gj hE 2 (by decide) rfl
  have j3 : ρ 3 % 4 = 1 := pz_gj hE 3 (by decide) rfl
  have j4 : ρ 4 % 4 = 1 := pz_gj hE 4 (by decide) rfl
  have o1 : ρ 2 < ρ 1 := pz_go hE 11 7 (by decide)
  have o2 : ρ 3 < ρ 2 := pz_go hE 15 11 (by decide)
  have o3 : ρ 4 < ρ 3 := pz_go hE 19 15 (by decide)
  obtain ⟨-, -, -, -, F50⟩ : ay_ex hp 8 ∧ ay_ex hp 10 ∧ ay_ex hp 11 ∧ ay_ex hp 12 ∧ pz_x50 (ρ 0) (ρ 1) (ay_at hp 8 5) (ay_at hp 8 6) (ay_at hp 8 7) (ay_at hp 8 8) (ay_at hp 10 0) (ay_at hp 10 1) (ay_at hp 10 2) (ay_at hp 10 3) (ay_at hp 10 4) (ay_at hp 8 9) (ay_at hp 8 11) (ay_at hp 8 10) (ay_at hp 8 3) (ay_at hp 8 4) (ay_at hp 11) (ay_at hp 12) := (ax_XF_lt (by decide)).mp (ax_gx hE (50, [3, 7]) (by decide))
  refine ⟨(fun y hy => by cases hy), _, List.mem_cons_self, ρ, fun _ _ => rfl, ax_px hE (by decide) (fun y hy => ?_)⟩
  rcases List.mem_cons.mp hy with e | hy
  · subst e
    refine (ax_XF_bi (o := 30) (by decide)).mpr (Or.inr ⟨rfl, ?_⟩)
    show ρ 4 < ρ 1
    omega
  cases List.mem_singleton.mp hy
  refine (ax_XF_bi (o := 30) (by decide)).mpr (Or.inr ⟨rfl, ?_⟩)
  show ρ 3 < ρ 1
  omega

theorem axq_rp6_4 : ax_RO ax_wC ax_XC axu_rp6_4 := by
  intro ρ hp hE hT
  have j0 : ρ 0 % 4 = 1 := pz_gj hE 0 (by decide) rfl
  have j1 : ρ 1 % 4 = 1 := pz_gj hE 1 (by decide) rfl
  have j2 : ρ 2 % 4 = 1 := pz_gj hE 2 (by decide) rfl
  obtain ⟨i3a, i3b, i3c, i3d⟩ := pz_gi hE 3 2147483648 2147484447 (by decide) rfl
  obtain ⟨i4a, i4b, i4c, i4d⟩ := pz_gi hE 4 0 4294967295 (by decide) rfl
  have s1 : (ρ 3 / 4 + 2147483648) % 4294967296 + (4 / 4 + 2147483648) % 4294967296 = (ρ 4 / 4 + 2147483648) % 4294967296 + 2147483648 := pz_gs hE 15 4 19 (by decide)
  have o1 : ρ 2 < ρ 1 := pz_go hE 11 7 (by decide)
  obtain ⟨-, -, -, -, F50⟩ : ay_ex hp 8 ∧ ay_ex hp 10 ∧ ay_ex hp 11 ∧ ay_ex hp 12 ∧ pz_x50 (ρ 0) (ρ 1) (ay_at hp 8 5) (ay_at hp 8 6) (ay_at hp 8 7) (ay_at hp 8 8) (ay_at hp 10 0) (ay_at hp 10 1) (ay_at hp 10 2) (ay_at hp 10 3) (ay_at hp 10 4) (ay_at hp 8 9) (ay_at hp 8 11) (ay_at hp 8 10) (ay_at hp 8 3) (ay_at hp 8 4) (ay_at hp 11) (ay_at hp 12) := (ax_XF_lt (by decide)).mp (ax_gx hE (50, [3, 7]) (by decide))
  have F97 : (ρ 3) / 4 ≤ (ρ 2) / 4 := (ax_XF_lt (by decide)).mp (ax_gx hE (97, [11, 15]) (by decide))
  refine ⟨(fun y hy => by cases hy), _, List.mem_cons_self, ρ, fun _ _ => rfl, ax_px hE (by decide) (fun y hy => ?_)⟩
  cases List.mem_singleton.mp hy
  refine (ax_XF_lt (x := 97) (by decide)).mpr ?_
  show (ρ 4) / 4 ≤ (ρ 1) / 4
  omega

theorem axq_rp7_4 : ax_RO ax_wC ax_XC axu_rp7_4 := by
  intro ρ hp hE hT
  have j0 : ρ 0 % 4 = 1 := pz_gj hE 0 (by decide) rfl
  have j1 : ρ 1 % 4 = 1 := pz_gj hE 1 (by decide) rfl
  obtain ⟨i2a, i2b, i2c, i2d⟩ := pz_gi hE 2 2147484448 2147484448 (by decide) rfl
  obtain ⟨-, -, F30⟩ : ay_ex hp 8 ∧ ay_ex hp 9 ∧ pz_x30 (ρ 0) (ay_at hp 8 1) (ay_at hp 9) := (ax_XF_lt (by decide)).mp (ax_gx hE (30, [3]) (by decide))
  obtain ⟨-, -, -, -, F50⟩ : ay_ex hp 8 ∧ ay_ex hp 10 ∧ ay_ex hp 11 ∧ ay_ex hp 12 ∧ pz_x50 (ρ 0) (ρ 1) (ay_at hp 8 5) (ay_at hp 8 6) (ay_at hp 8 7) (ay_at hp 8 8) (ay_at hp 10 0) (ay_at hp 10 1) (ay_at hp 10 2) (ay_at hp 10 3) (ay_at hp 10 4) (ay_at hp 8 9) (ay_at hp 8 11) (ay_at hp 8 10) (ay_at hp 8 3) (ay_at hp 8 4) (ay_at hp 11) (ay_at hp 12) := (ax_XF_lt (by decide)).mp (ax_gx hE (50, [3, 7]) (by decide))
  have F79 : pz7 (pz_gt (ρ 0)) (pz_gN (ρ 0)) ((ρ 1) / 4) 9 := (ax_XF_lt (by decide)).mp (ax_gx hE (79, [3, 7]) (by decide))
  have F97 : (ρ 2) / 4 ≤ (ρ 1) / 4 := (ax_XF_lt (by decide)).mp (ax_gx hE (97, [7, 11]) (by decide))
  refine ⟨(fun y hy => by cases hy), _, List.mem_cons_self, ρ, fun _ _ => rfl, ax_px hE (by decide) (fun y hy => ?_)⟩
  cases List.mem_singleton.mp hy
  refine (ax_XF_lt (x := 95) (by decide)).mpr ?_
  show pz95 (pz_gt (ρ 0)) (pz_gN (ρ 0)) ((ρ 1) / 4)
  have kd := pq_far (n := ρ 1 / 4) F79 (by decide) (show pz_gN (ρ 0) ≤ 800 from F30.2.1) (by omega)
  exact ⟨by omega, by omega, by omega⟩

theorem axq_rp8a_4 : ax_RO ax_wC ax_XC axu_rp8a_4 := by
  intro ρ hp hE hT
  have j0 : ρ 0 % 4 = 1 := pz_gj hE 0 (by decide) rfl
  have j1 : ρ 1 % 4 = 1 := pz_gj hE 1 (by decide) rfl
  obtain ⟨i2a, i2b, i2c, i2d⟩ := pz_gi hE 2 0 2147483684 (by decide) rfl
  have c_kind : ay_at hp 8 7 = some (ρ 2) := ay_gfj hE 42 28 11 8 7 (by decide) (by rw [ax_vl_c (by decide)]) (by rw [ax_vl_c (by decide)])
  obtain ⟨-, -, -, -, F50⟩ : ay_ex hp 8 ∧ ay_ex hp 10 ∧ ay_ex hp 11 ∧ ay_ex hp 12 ∧ pz_x50 (ρ 0) (ρ 1) (ay_at hp 8 5) (ay_at hp 8 6) (ay_at hp 8 7) (ay_at hp 8 8) (ay_at hp 10 0) (ay_at hp 10 1) (ay_at hp 10 2) (ay_at hp 10 3) (ay_at hp 10 4) (ay_at hp 8 9) (ay_at hp 8 11) (ay_at hp 8 10) (ay_at hp 8 3) (ay_at hp 8 4) (ay_at hp 11) (ay_at hp 12) := (ax_XF_lt (by decide)).mp (ax_gx hE (50, [3, 7]) (by decide))
  rw [c_kind] at F50
  refine ⟨(fun y hy => by cases hy), _, List.mem_cons_self, ρ, fun _ _ => rfl, ax_px hE (by decide) (fun y hy => ?_)⟩
  cases List.mem_singleton.mp hy
  refine (ax_XF_lt (x := 95) (by decide)).mpr ?_
  show pz95 (pz_gt (ρ 0)) (pz_gN (ρ 0)) ((ρ 1) / 4)
  have kd : ρ 2 / 4 = pz_kd (pz_gt (ρ 0)) (pz_gN (ρ 0)) (pz_p (pz_cf (pz_gt (ρ 0)) (pz_gN (ρ 0)) (ρ 1 / 4))) := F50.2.2.1
  exact ⟨by omega, by omega, by omega⟩

theorem axq_rp8b_4 : ax_RO ax_wC ax_XC axu_rp8b_4 := by
  intro ρ hp hE hT
  have j0 : ρ 0 % 4 = 1 := pz_gj hE 0 (by decide) rfl
  have j1 : ρ 1 % 4 = 1 := pz_gj hE 1 (by decide) rfl
  obtain ⟨i2a, i2b, i2c, i2d⟩ := pz_gi hE 2 2147483686 2147483689 (by decide) rfl
  have c_kind : ay_at hp 8 7 = some (ρ 2) := ay_gfj hE 42 28 11 8 7 (by decide) (by rw [ax_vl_c (by decide)]) (by rw [ax_vl_c (by decide)])
  obtain ⟨-, -, -, -, F50⟩ : ay_ex hp 8 ∧ ay_ex hp 10 ∧ ay_ex hp 11 ∧ ay_ex hp 12 ∧ pz_x50 (ρ 0) (ρ 1) (ay_at hp 8 5) (ay_at hp 8 6) (ay_at hp 8 7) (ay_at hp 8 8) (ay_at hp 10 0) (ay_at hp 10 1) (ay_at hp 10 2) (ay_at hp 10 3) (ay_at hp 10 4) (ay_at hp 8 9) (ay_at hp 8 11) (ay_at hp 8 10) (ay_at hp 8 3) (ay_at hp 8 4) (ay_at hp 11) (ay_at hp 12) := (ax_XF_lt (by decide)).mp (ax_gx hE (50, [3, 7]) (by decide))
  rw [c_kind] at F50
  refine ⟨(fun y hy => by cases hy), _, List.mem_cons_self, ρ, fun _ _ => rfl, ax_px hE (by decide) (fun y hy => ?_)⟩
  cases List.mem_singleton.mp hy
  refine (ax_XF_lt (x := 95) (by decide)).mpr ?_
  show pz95 (pz_gt (ρ 0)) (pz_gN (ρ 0)) ((ρ 1) / 4)
  have kd : ρ 2 / 4 = pz_kd (pz_gt (ρ 0)) (pz_gN (ρ 0)) (pz_p (pz_cf (pz_gt (ρ 0)) (pz_gN (ρ 0)) (ρ 1 / 4))) := F50.2.2.1
  exact ⟨by omega, by omega, by omega⟩

theorem axq_rp8c_4 : ax_RO ax_wC ax_XC axu_rp8c_4 := by
  intro ρ hp hE hT
  have j0 : ρ 0 % 4 = 1 := pz_gj hE 0 (by decide) rfl
  have j1 : ρ 1 % 4 = 1 := pz_gj hE 1 (by decide) rfl
  obtain ⟨i2a, i2b, i2c, i2d⟩ := pz_gi hE 2 2147483691 2147483694 (by decide) rfl
  have c_kind : ay_at hp 8 7 = some (ρ 2) := ay_gfj hE 42 28 11 8 7 (by decide) (by rw [ax_vl_c (by decide)]) (by rw [ax_vl_c (by decide)])
  obtain ⟨-, -, -, -, F50⟩ : ay_ex hp 8 ∧ ay_ex hp 10 ∧ ay_ex hp 11 ∧ ay_ex hp 12 ∧ pz_x50 (ρ 0) (ρ 1) (ay_at hp 8 5) (ay_at hp 8 6) (ay_at hp 8 7) (ay_at hp 8 8) (ay_at hp 10 0) (ay_at hp 10 1) (ay_at hp 10 2) (ay_at hp 10 3) (ay_at hp 10 4) (ay_at hp 8 9) (ay_at hp 8 11) (ay_at hp 8 10) (ay_at hp 8 3) (ay_at hp 8 4) (ay_at hp 11) (ay_at hp 12) := (ax_XF_lt (by decide)).mp (ax_gx hE (50, [3, 7]) (by decide))
  rw [c_kind] at F50
  refine ⟨(fun y hy => by cases hy), _, List.mem_cons_self, ρ, fun _ _ => rfl, ax_px hE (by decide) (fun y hy => ?_)⟩
  cases List.mem_singleton.mp hy
  refine (ax_XF_lt (x := 95) (by decide)).mpr ?_
  show pz95 (pz_gt (ρ 0)) (pz_gN (ρ 0)) ((ρ 1) / 4)
  have kd : ρ 2 / 4 = pz_kd (pz_gt (ρ 0)) (pz_gN (ρ 0)) (pz_p (pz_cf (pz_gt (ρ 0)) (pz_gN (ρ 0)) (ρ 1 / 4))) := F50.2.2.1
  exact ⟨by omega, by omega, by omega⟩

theorem axq_rp8d_4 : ax_RO ax_wC ax_XC axu_rp8d_4 := by
  intro ρ hp hE hT
  have j0 : ρ 0 % 4 = 1 := pz_gj hE 0 (by decide) rfl
  have j1 : ρ 1 % 4 = 1 := pz_gj hE 1 (by decide) rfl
  obtain ⟨i2a, i2b, i2c, i2d⟩ := pz_gi hE 2 2147483696 4294967295 (by decide) rfl
  have c_kind : ay_at hp 8 7 = some (ρ 2) := ay_gfj hE 42 28 11 8 7 (by decide) (by rw [ax_vl_c (by decide)]) (by rw [ax_vl_c (by decide)])
  obtain ⟨-, -, -, -, F50⟩ : ay_ex hp 8 ∧ ay_ex hp 10 ∧ ay_ex hp 11 ∧ ay_ex hp 12 ∧ pz_x50 (ρ 0) (ρ 1) (ay_at hp 8 5) (ay_at hp 8 6) (ay_at hp 8 7) (ay_at hp 8 8) (ay_at hp 10 0) (ay_at hp 10 1) (ay_at hp 10 2) (ay_at hp 10 3) (ay_at hp 10 4) (ay_at hp 8 9) (ay_at hp 8 11) (ay_at hp 8 10) (ay_at hp 8 3) (ay_at hp 8 4) (ay_at hp 11) (ay_at hp 12) := (ax_XF_lt (by decide)).mp (ax_gx hE (50, [3, 7]) (by decide))
  rw [c_kind] at F50
  refine ⟨(fun y hy => by cases hy), _, List.mem_cons_self, ρ, fun _ _ => rfl, ax_px hE (by decide) (fun y hy => ?_)⟩
  cases List.mem_singleton.mp hy
  refine (ax_XF_lt (x := 95) (by decide)).mpr ?_
  show pz95 (pz_gt (ρ 0)) (pz_gN (ρ 0)) ((ρ 1) / 4)
  have kd : ρ 2 / 4 = pz_kd (pz_gt (ρ 0)) (pz_gN (ρ 0)) (pz_p (pz_cf (pz_gt (ρ 0)) (pz_gN (ρ 0)) (ρ 1 / 4))) := F50.2.2.1
  exact ⟨by omega, by omega, by omega⟩

theorem axq_rp1_5 : ax_RO ax_wC ax_XC axu_rp1_5 := by
  intro ρ hp hE hT
  have j0 : ρ 0 % 4 = 1 := pz_gj hE 0 (by decide) rfl
  have j1 : ρ 1 % 4 = 1 := pz_gj hE 1 (by decide) rfl
  have j2 : ρ 2 % 4 = 1 := pz_gj hE 2 (by decide) rfl
  have j3 : ρ 3 % 4 = 1 := pz_gj hE 3 (by decide) rfl
  obtain ⟨-, -, -, -, F50⟩ : ay_ex hp 8 ∧ ay_ex hp 10 ∧ ay_ex hp 11 ∧ ay_ex hp 12 ∧ pz_x50 (ρ 0) (ρ 1) (ay_at hp 8 5) (ay_at hp 8 6) (ay_at hp 8 7) (ay_at hp 8 8) (ay_at hp 10 0) (ay_at hp 10 1) (ay_at hp 10 2) (ay_at hp 10 3) (ay_at hp 10 4) (ay_at hp 8 9) (ay_at hp 8 11) (ay_at hp 8 10) (ay_at hp 8 3) (ay_at hp 8 4) (ay_at hp 11) (ay_at hp 12) := (ax_XF_lt (by decide)).mp (ax_gx hE (50, [3, 7]) (by decide))
  have F90 : (pz90 (pz_gt (ρ 0)) (pz_gN (ρ 0)) ((ρ 1) / 4) ((ρ 3) / 4) ∧ 1 ≤ (ρ 3) / 4) := (ax_XF_lt (by decide)).mp (ax_gx hE (90, [3, 7, 15]) (by decide))
  have F92 : pz_strip ((ρ 2) / 4) = (ρ 3) / 4 := (ax_XF_lt (by decide)).mp (ax_gx hE (92, [11, 15]) (by decide))
  have F92a : pz_strip ((ρ 2) / 4) = (ρ 2) / 4 := (ax_XF_lt (by decide)).mp (ax_gx hE (92, [11, 11]) (by decide))
  refine ⟨(fun y hy => by cases hy), _, List.mem_cons_self, ρ, fun _ _ => rfl, ax_px hE (by decide) (fun y hy => ?_)⟩
  cases List.mem_singleton.mp hy
  refine (ax_XF_lt (x := 90) (by decide)).mpr ?_
  show (pz90 (pz_gt (ρ 0)) (pz_gN (ρ 0)) ((ρ 1) / 4) ((ρ 2) / 4) ∧ 1 ≤ (ρ 2) / 4)
  have e : ρ 3 / 4 = ρ 2 / 4 := by omega
  rw [← e]
  exact F90

theorem axq_rp2_5 : ax_RO ax_wC ax_XC axu_rp2_5 := by
  intro ρ hp hE hT
  have j0 : ρ 0 % 4 = 1 := pz_gj hE 0 (by decide) rfl
  have j1 : ρ 1 % 4 = 1 := pz_gj hE 1 (by decide) rfl
  obtain ⟨-, -, -, -, F50⟩ : ay_ex hp 8 ∧ ay_ex hp 10 ∧ ay_ex hp 11 ∧ ay_ex hp 12 ∧ pz_x50 (ρ 0) (ρ 1) (ay_at hp 8 5) (ay_at hp 8 6) (ay_at hp 8 7) (ay_at hp 8 8) (ay_at hp 10 0) (ay_at hp 10 1) (ay_at hp 10 2) (ay_at hp 10 3) (ay_at hp 10 4) (ay_at hp 8 9) (ay_at hp 8 11) (ay_at hp 8 10) (ay_at hp 8 3) (ay_at hp 8 4) (ay_at hp 11) (ay_at hp 12) := (ax_XF_lt (by decide)).mp (ax_gx hE (50, [3, 7]) (by decide))
  refine ⟨(fun y hy => by cases hy), _, List.mem_cons_self, ρ, fun _ _ => rfl, ax_px hE (by decide) (fun y hy => ?_)⟩
  cases List.mem_singleton.mp hy
  refine (ax_XF_lt (x := 97) (by decide)).mpr ?_
  show (0) / 4 ≤ (ρ 1) / 4
  exact Nat.zero_le _

theorem axq_rp3c42_5 : ax_RO ax_wC ax_XC axu_rp3c42_5 := by
  intro ρ hp hE hT
  have j0 : ρ 0 % 4 = 1 := pz_gj hE 0 (by decide) rfl
  have j1 : ρ 1 % 4 = 1 := pz_gj hE 1 (by decide) rfl
  have j2 : ρ 2 % 4 = 1 := pz_gj hE 2 (by decide) rfl
  obtain ⟨i3a, i3b, i3c, i3d⟩ := pz_gi hE 3 2147483690 2147483690 (by decide) rfl
  have j4 : ρ 4 % 4 = 1 := pz_gj hE 4 (by decide) rfl
  have c_kind : ay_at hp 8 7 = some (ρ 3) := ay_gfj hE 42 28 15 8 7 (by decide) (by rw [ax_vl_c (by decide)]) (by rw [ax_vl_c (by decide)])
  have o1 : ρ 4 < ρ 1 := pz_go hE 19 7 (by decide)
  obtain ⟨-, -, -, -, F50⟩ : ay_ex hp 8 ∧ ay_ex hp 10 ∧ ay_ex hp 11 ∧ ay_ex hp 12 ∧ pz_x50 (ρ 0) (ρ 1) (ay_at hp 8 5) (ay_at hp 8 6) (ay_at hp 8 7) (ay_at hp 8 8) (ay_at hp 10 0) (ay_at hp 10 1) (ay_at hp 10 2) (ay_at hp 10 3) (ay_at hp 10 4) (ay_at hp 8 9) (ay_at hp 8 11) (ay_at hp 8 10) (ay_at hp 8 3) (ay_at hp 8 4) (ay_at hp 11) (ay_at hp 12) := (ax_XF_lt (by decide)).mp (ax_gx hE (50, [3, 7]) (by decide))
  rw [c_kind] at F50
  have F79 : pz7 (pz_gt (ρ 0)) (pz_gN (ρ 0)) ((ρ 1) / 4) 9 := (ax_XF_lt (by decide)).mp (ax_gx hE (79, [3, 7]) (by decide))
  have F90 : (pz90 (pz_gt (ρ 0)) (pz_gN (ρ 0)) ((ρ 1) / 4) ((ρ 2) / 4) ∧ 1 ≤ (ρ 2) / 4) := (ax_XF_lt (by decide)).mp (ax_gx hE (90, [3, 7, 11]) (by decide))
  have st := pq_op F50 F79 F90.1 (show pz_op (ρ 3 / 4) = true by rw [show ρ 3 / 4 = 42 by omega]; rfl)
  obtain ⟨ρ', h1, h2⟩ := pz_pn1 (K := ρ 1 / 4 + 1) (xf := [(53, [3, 23]), (78, [3, 23]), (90, [3, 23, 11]), (1030, [7, 23]), (98, [7, 23]), (1030, [19, 23])]) hE (by decide) (fun ρ' h1 h2 x hx => by
    have q0 : ρ' 0 = ρ 0 := h1 0 (by decide)
    have q1 : ρ' 1 = ρ 1 := h1 1 (by decide)
    have q2 : ρ' 2 = ρ 2 := h1 2 (by decide)
    have q3 : ρ' 3 = ρ 3 := h1 3 (by decide)
    have q4 : ρ' 4 = ρ 4 := h1 4 (by decide)
    rcases List.mem_cons.mp hx with e | hx
    · subst e
      refine (ax_XF_lt (x := 53) (by decide)).mpr ?_
      show ay_ex hp 8 ∧ ay_ex hp 10 ∧ ay_ex hp 11 ∧ ay_ex hp 12 ∧ pz_x53 (ρ' 0) (ρ' 5) (ay_at hp 8 5) (ay_at hp 10 0) (ay_at hp 10 1) (ay_at hp 10 2) (ay_at hp 10 3) (ay_at hp 10 4) (ay_at hp 8 9) (ay_at hp 8 11) (ay_at hp 8 10) (ay_at hp 8 3) (ay_at hp 8 4) (ay_at hp 11) (ay_at hp 12)
      rw [q0, h2]
      exact ⟨(ax_cellT hT (q := 8) (g := 2) rfl), (ax_cellT hT (q := 10) (g := 1) rfl), (ax_cellT hT (q := 11) (g := 14) rfl), (ax_cellT hT (q := 12) (g := 15) rfl), pz_53 (pz_41 _) rfl st.1⟩
    rcases List.mem_cons.mp hx with e | hx
    · subst e
      refine (ax_XF_lt (x := 78) (by decide)).mpr ?_
      show pz7 (pz_gt (ρ' 0)) (pz_gN (ρ' 0)) ((ρ' 5) / 4) 8
      rw [q0, h2]
      rw [pz_41]
      exact st.2.1
    rcases List.mem_cons.mp hx with e | hx
    · subst e
      refine (ax_XF_lt (x := 90) (by decide)).mpr ?_
      show (pz90 (pz_gt (ρ' 0)) (pz_gN (ρ' 0)) ((ρ' 5) / 4) ((ρ' 2) / 4) ∧ 1 ≤ (ρ' 2) / 4)
      rw [q0, q2, h2]
      rw [pz_41]
      exact ⟨st.2.2, F90.2⟩
    rcases List.mem_cons.mp hx with e | hx
    · subst e
      refine (ax_XF_bi (o := 30) (by decide)).mpr (Or.inr ⟨rfl, ?_⟩)
      show ρ' 1 < ρ' 5
      rw [q1, h2]
      omega
    rcases List.mem_cons.mp hx with e | hx
    · subst e
      refine (ax_XF_lt (x := 98) (by decide)).mpr ?_
      show (ρ' 5) / 4 = (ρ' 1) / 4 + 1
      rw [q1, h2]
      rw [pz_41]
    cases List.mem_singleton.mp hx
    refine (ax_XF_bi (o := 30) (by decide)).mpr (Or.inr ⟨rfl, ?_⟩)
    show ρ' 4 < ρ' 5
    rw [q4, h2]
    omega)
  exact ⟨(fun y hy => by cases hy), _, List.mem_cons_self, ρ', h1, h2⟩

theorem axq_rp3c47_5 : ax_RO ax_wC ax_XC axu_rp3c47_5 := by
  intro ρ hp hE hT
  have j0 : ρ 0 % 4 = 1 := pz_gj hE 0 (by decide) rfl
  have j1 : ρ 1 % 4 = 1 := pz_gj hE 1 (by decide) rfl
  have j2 : ρ 2 % 4 = 1 := pz_gj hE 2 (by decide) rfl
  obtain ⟨i3a, i3b, i3c, i3d⟩ := pz_gi hE 3 2147483695 2147483695 (by decide) rfl
  have j4 : ρ 4 % 4 = 1 := pz_gj hE 4 (by decide) rfl
  have c_kind : ay_at hp 8 7 = some (ρ 3) := ay_gfj hE 42 28 15 8 7 (by decide) (by rw [ax_vl_c (by decide)]) (by rw [ax_vl_c (by decide)])
  have o1 : ρ 4 < ρ 1 := pz_go hE 19 7 (by decide)
  obtain ⟨-, -, -, -, F50⟩ : ay_ex hp 8 ∧ ay_ex hp 10 ∧ ay_ex hp 11 ∧ ay_ex hp 12 ∧ pz_x50 (ρ 0) (ρ 1) (ay_at hp 8 5) (ay_at hp 8 6) (ay_at hp 8 7) (ay_at hp 8 8) (ay_at hp 10 0) (ay_at hp 10 1) (ay_at hp 10 2) (ay_at hp 10 3) (ay_at hp 10 4) (ay_at hp 8 9) (ay_at hp 8 11) (ay_at hp 8 10) (ay_at hp 8 3) (ay_at hp 8 4) (ay_at hp 11) (ay_at hp 12) := (ax_XF_lt (by decide)).mp (ax_gx hE (50, [3, 7]) (by decide))
  rw [c_kind] at F50
  have F79 : pz7 (pz_gt (ρ 0)) (pz_gN (ρ 0)) ((ρ 1) / 4) 9 := (ax_XF_lt (by decide)).mp (ax_gx hE (79, [3, 7]) (by decide))
  have F90 : (pz90 (pz_gt (ρ 0)) (pz_gN (ρ 0)) ((ρ 1) / 4) ((ρ 2) / 4) ∧ 1 ≤ (ρ 2) / 4) := (ax_XF_lt (by decide)).mp (ax_gx hE (90, [3, 7, 11]) (by decide))
  have st := pq_op F50 F79 F90.1 (show pz_op (ρ 3 / 4) = true by rw [show ρ 3 / 4 = 47 by omega]; rfl)
  obtain ⟨ρ', h1, h2⟩ := pz_pn1 (K := ρ 1 / 4 + 1) (xf := [(53, [3, 23]), (78, [3, 23]), (90, [3, 23, 11]), (1030, [7, 23]), (98, [7, 23]), (1030, [19, 23])]) hE (by decide) (fun ρ' h1 h2 x hx => by
    have q0 : ρ' 0 = ρ 0 := h1 0 (by decide)
    have q1 : ρ' 1 = ρ 1 := h1 1 (by decide)
    have q2 : ρ' 2 = ρ 2 := h1 2 (by decide)
    have q3 : ρ' 3 = ρ 3 := h1 3 (by decide)
    have q4 : ρ' 4 = ρ 4 := h1 4 (by decide)
    rcases List.mem_cons.mp hx with e | hx
    · subst e
      refine (ax_XF_lt (x := 53) (by decide)).mpr ?_
      show ay_ex hp 8 ∧ ay_ex hp 10 ∧ ay_ex hp 11 ∧ ay_ex hp 12 ∧ pz_x53 (ρ' 0) (ρ' 5) (ay_at hp 8 5) (ay_at hp 10 0) (ay_at hp 10 1) (ay_at hp 10 2) (ay_at hp 10 3) (ay_at hp 10 4) (ay_at hp 8 9) (ay_at hp 8 11) (ay_at hp 8 10) (ay_at hp 8 3) (ay_at hp 8 4) (ay_at hp 11) (ay_at hp 12)
      rw [q0, h2]
      exact ⟨(ax_cellT hT (q := 8) (g := 2) rfl), (ax_cellT hT (q := 10) (g := 1) rfl), (ax_cellT hT (q := 11) (g := 14) rfl), (ax_cellT hT (q := 12) (g := 15) rfl), pz_53 (pz_41 _) rfl st.1⟩
    rcases List.mem_cons.mp hx with e | hx
    · subst e
      refine (ax_XF_lt (x := 78) (by decide)).mpr ?_
      show pz7 (pz_gt (ρ' 0)) (pz_gN (ρ' 0)) ((ρ' 5) / 4) 8
      rw [q0, h2]
      rw [pz_41]
      exact st.2.1
    rcases List.mem_cons.mp hx with e | hx
    · subst e
      refine (ax_XF_lt (x := 90) (by decide)).mpr ?_
      show (pz90 (pz_gt (ρ' 0)) (pz_gN (ρ' 0)) ((ρ' 5) / 4) ((ρ' 2) / 4) ∧ 1 ≤ (ρ' 2) / 4)
      rw [q0, q2, h2]
      rw [pz_41]
      exact ⟨st.2.2, F90.2⟩
    rcases List.mem_cons.mp hx with e | hx
    · subst e
      refine (ax_XF_bi (o := 30) (by decide)).mpr (Or.inr ⟨rfl, ?_⟩)
      show ρ' 1 < ρ' 5
      rw [q1, h2]
      omega
    rcases List.mem_cons.mp hx with e | hx
    · subst e
      refine (ax_XF_lt (x := 98) (by decide)).mpr ?_
      show (ρ' 5) / 4 = (ρ' 1) / 4 + 1
      rw [q1, h2]
      rw [pz_41]
    cases List.mem_singleton.mp hx
    refine (ax_XF_bi (o := 30) (by decide)).mpr (Or.inr ⟨rfl, ?_⟩)
    show ρ' 4 < ρ' 5
    rw [q4, h2]
    omega)
  exact ⟨(fun y hy => by cases hy), _, List.mem_cons_self, ρ', h1, h2⟩

theorem axq_rp3c37_5 : ax_RO ax_wC ax_XC axu_rp3c37_5 := by
  intro ρ hp hE hT
  have j0 : ρ 0 % 4 = 1 := pz_gj hE 0 (by decide) rfl
  have j1 : ρ 1 % 4 = 1 := pz_gj hE 1 (by decide) rfl
  have j2 : ρ 2 % 4 = 1 := pz_gj hE 2 (by decide) rfl
  obtain ⟨i3a, i3b, i3c, i3d⟩ := pz_gi hE 3 2147483685 2147483685 (by decide) rfl
  have j4 : ρ 4 % 4 = 1 := pz_gj hE 4 (by decide) rfl
  have c_kind : ay_at hp 8 7 = some (ρ 3) := ay_gfj hE 42 28 15 8 7 (by decide) (by rw [ax_vl_c (by decide)]) (by rw [ax_vl_c (by decide)])
  have o1 : ρ 4 < ρ 1 := pz_go hE 19 7 (by decide)
  obtain ⟨-, -, -, -, F50⟩ : ay_ex hp 8 ∧ ay_ex hp 10 ∧ ay_ex hp 11 ∧ ay_ex hp 12 ∧ pz_x50 (ρ 0) (ρ 1) (ay_at hp 8 5) (ay_at hp 8 6) (ay_at hp 8 7) (ay_at hp 8 8) (ay_at hp 10 0) (ay_at hp 10 1) (ay_at hp 10 2) (ay_at hp 10 3) (ay_at hp 10 4) (ay_at hp 8 9) (ay_at hp 8 11) (ay_at hp 8 10) (ay_at hp 8 3) (ay_at hp 8 4) (ay_at hp 11) (ay_at hp 12) := (ax_XF_lt (by decide)).mp (ax_gx hE (50, [3, 7]) (by decide))
  rw [c_kind] at F50
  have F79 : pz7 (pz_gt (ρ 0)) (pz_gN (ρ 0)) ((ρ 1) / 4) 9 := (ax_XF_lt (by decide)).mp (ax_gx hE (79, [3, 7]) (by decide))
  have F90 : (pz90 (pz_gt (ρ 0)) (pz_gN (ρ 0)) ((ρ 1) / 4) ((ρ 2) / 4) ∧ 1 ≤ (ρ 2) / 4) := (ax_XF_lt (by decide)).mp (ax_gx hE (90, [3, 7, 11]) (by decide))
  have st := pq_op F50 F79 F90.1 (show pz_op (ρ 3 / 4) = true by rw [show ρ 3 / 4 = 37 by omega]; rfl)
  obtain ⟨ρ', h1, h2⟩ := pz_pn1 (K := ρ 1 / 4 + 1) (xf := [(53, [3, 23]), (78, [3, 23]), (90, [3, 23, 11]), (1030, [7, 23]), (98, [7, 23]), (1030, [19, 23])]) hE (by decide) (fun ρ' h1 h2 x hx => by
    have q0 : ρ' 0 = ρ 0 := h1 0 (by decide)
    have q1 : ρ' 1 = ρ 1 := h1 1 (by decide)
    have q2 : ρ' 2 = ρ 2 := h1 2 (by decide)
    have q3 : ρ' 3 = ρ 3 := h1 3 (by decide)
    have q4 : ρ' 4 = ρ 4 := h1 4 (by decide)
    rcases List.mem_cons.mp hx with e | hx
    · subst e
      refine (ax_XF_lt (x := 53) (by decide)).mpr ?_
      show ay_ex hp 8 ∧ ay_ex hp 10 ∧ ay_ex hp 11 ∧ ay_ex hp 12 ∧ pz_x53 (ρ' 0) (ρ' 5) (ay_at hp 8 5) (ay_at hp 10 0) (ay_at hp 10 1) (ay_at hp 10 2) (ay_at hp 10 3) (ay_at hp 10 4) (ay_at hp 8 9) (ay_at hp 8 11) (ay_at hp 8 10) (ay_at hp 8 3) (ay_at hp 8 4) (ay_at hp 11) (ay_at hp 12)
      rw [q0, h2]
      exact ⟨(ax_cellT hT (q := 8) (g := 2) rfl), (ax_cellT hT (q := 10) (g := 1) rfl), (ax_cellT hT (q := 11) (g := 14) rfl), (ax_cellT hT (q := 12) (g := 15) rfl), pz_53 (pz_41 _) rfl st.1⟩
    rcases List.mem_cons.mp hx with e | hx
    · subst e
      refine (ax_XF_lt (x := 78) (by decide)).mpr ?_
      show pz7 (pz_gt (ρ' 0)) (pz_gN (ρ' 0)) ((ρ' 5) / 4) 8
      rw [q0, h2]
      rw [pz_41]
      exact st.2.1
    rcases List.mem_cons.mp hx with e | hx
    · subst e
      refine (ax_XF_lt (x := 90) (by decide)).mpr ?_
      show (pz90 (pz_gt (ρ' 0)) (pz_gN (ρ' 0)) ((ρ' 5) / 4) ((ρ' 2) / 4) ∧ 1 ≤ (ρ' 2) / 4)
      rw [q0, q2, h2]
      rw [pz_41]
      exact ⟨st.2.2, F90.2⟩
    rcases List.mem_cons.mp hx with e | hx
    · subst e
      refine (ax_XF_bi (o := 30) (by decide)).mpr (Or.inr ⟨rfl, ?_⟩)
      show ρ' 1 < ρ' 5
      rw [q1, h2]
      omega
    rcases List.mem_cons.mp hx with e | hx
    · subst e
      refine (ax_XF_lt (x := 98) (by decide)).mpr ?_
      show (ρ' 5) / 4 = (ρ' 1) / 4 + 1
      rw [q1, h2]
      rw [pz_41]
    cases List.mem_singleton.mp hx
    refine (ax_XF_bi (o := 30) (by decide)).mpr (Or.inr ⟨rfl, ?_⟩)
    show ρ' 4 < ρ' 5
    rw [q4, h2]
    omega)
  exact ⟨(fun y hy => by cases hy), _, List.mem_cons_self, ρ', h1, h2⟩

theorem axq_rp4_5 : ax_RO ax_wC ax_XC axu_rp4_5 := by
  intro ρ hp hE hT
  have j0 : ρ 0 % 4 = 1 := pz_gj hE 0 (by decide) rfl
  have j1 : ρ 1 % 4 = 1 := pz_gj hE 1 (by decide) rfl
  have j2 : ρ 2 % 4 = 1 := pz_gj hE 2 (by decide) rfl
  have j3 : ρ 3 % 4 = 1 := pz_gj hE 3 (by decide) rfl
  obtain ⟨-, -, -, -, F50⟩ : ay_ex hp 8 ∧ ay_ex hp 10 ∧ ay_ex hp 11 ∧ ay_ex hp 12 ∧ pz_x50 (ρ 0) (ρ 1) (ay_at hp 8 5) (ay_at hp 8 6) (ay_at hp 8 7) (ay_at hp 8 8) (ay_at hp 10 0) (ay_at hp 10 1) (ay_at hp 10 2) (ay_at hp 10 3) (ay_at hp 10 4) (ay_at hp 8 9) (ay_at hp 8 11) (ay_at hp 8 10) (ay_at hp 8 3) (ay_at hp 8 4) (ay_at hp 11) (ay_at hp 12) := (ax_XF_lt (by decide)).mp (ax_gx hE (50, [3, 7]) (by decide))
  have F90 : (pz90 (pz_gt (ρ 0)) (pz_gN (ρ 0)) ((ρ 1) / 4) ((ρ 3) / 4) ∧ 1 ≤ (ρ 3) / 4) := (ax_XF_lt (by decide)).mp (ax_gx hE (90, [3, 7, 15]) (by decide))
  have F92 : pz_strip ((ρ 2) / 4) = (ρ 3) / 4 := (ax_XF_lt (by decide)).mp (ax_gx hE (92, [11, 15]) (by decide))
  have F92a : pz_strip ((ρ 2) / 4) = (ρ 2) / 4 := (ax_XF_lt (by decide)).mp (ax_gx hE (92, [11, 11]) (by decide))
  refine ⟨(fun y hy => by cases hy), _, List.mem_cons_self, ρ, fun _ _ => rfl, ax_px hE (by decide) (fun y hy => ?_)⟩
  cases List.mem_singleton.mp hy
  refine (ax_XF_lt (x := 90) (by decide)).mpr ?_
  show (pz90 (pz_gt (ρ 0)) (pz_gN (ρ 0)) ((ρ 1) / 4) ((ρ 2) / 4) ∧ 1 ≤ (ρ 2) / 4)
  have e : ρ 3 / 4 = ρ 2 / 4 := by omega
  rw [← e]
  exact F90

theorem axq_rp5_5 : ax_RO ax_wC ax_XC axu_rp5_5 := by
  intro ρ hp hE hT
  have j0 : ρ 0 % 4 = 1 := pz_gj hE 0 (by decide) rfl
  have j1 : ρ 1 % 4 = 1 := pz_gj hE 1 (by decide) rfl
  have j2 : ρ 2 % 4 = 1 := pz_gj hE 2 (by decide) rfl
  have j3 : ρ 3 % 4 = 1 := pz_gj hE 3 (by decide) rfl
  have j4 : ρ 4 % 4 = 1 := pz_gj hE 4 (by decide) rfl
  have o1 : ρ 2 < ρ 1 := pz_go hE 11 7 (by decide)
  have o2 : ρ 3 < ρ 2 := pz_go hE 15 11 (by decide)
  have o3 : ρ 4 < ρ 3 := pz_go hE 19 15 (by decide)
  obtain ⟨-, -, -, -, F50⟩ : ay_ex hp 8 ∧ ay_ex hp 10 ∧ ay_ex hp 11 ∧ ay_ex hp 12 ∧ pz_x50 (ρ 0) (ρ 1) (ay_at hp 8 5) (ay_at hp 8 6) (ay_at hp 8 7) (ay_at hp 8 8) (ay_at hp 10 0) (ay_at hp 10 1) (ay_at hp 10 2) (ay_at hp 10 3) (ay_at hp 10 4) (ay_at hp 8 9) (ay_at hp 8 11) (ay_at hp 8 10) (ay_at hp 8 3) (ay_at hp 8 4) (ay_at hp 11) (ay_at hp 12) := (ax_XF_lt (by decide)).mp (ax_gx hE (50, [3, 7]) (by decide))
  refine ⟨(fun y hy => by cases hy), _, List.mem_cons_self, ρ, fun _ _ => rfl, ax_px hE (by decide) (fun y hy => ?_)⟩
  rcases List.mem_cons.mp hy with e | hy
  · subst e
    refine (ax_XF_bi (o := 30) (by decide)).mpr (Or.inr ⟨rfl, ?_⟩)
    show ρ 4 < ρ 1
    omega
  cases List.mem_singleton.mp hy
  refine (ax_XF_bi (o := 30) (by decide)).mpr (Or.inr ⟨rfl, ?_⟩)
  show ρ 3 < ρ 1
  omega

theorem axq_rp6_5 : ax_RO ax_wC ax_XC axu_rp6_5 := by
  intro ρ hp hE hT
  have j0 : ρ 0 % 4 = 1 := pz_gj hE 0 (by decide) rfl
  have j1 : ρ 1 % 4 = 1 := pz_gj hE 1 (by decide) rfl
  have j2 : ρ 2 % 4 = 1 := pz_gj hE 2 (by decide) rfl
  obtain ⟨i3a, i3b, i3c, i3d⟩ := pz_gi hE 3 2147483648 2147484447 (by decide) rfl
  obtain ⟨i4a, i4b, i4c, i4d⟩ := pz_gi hE 4 0 4294967295 (by decide) rfl
  have s1 : (ρ 3 / 4 + 2147483648) % 4294967296 + (4 / 4 + 2147483648) % 4294967296 = (ρ 4 / 4 + 2147483648) % 4294967296 + 2147483648 := pz_gs hE 15 4 19 (by decide)
  have o1 : ρ 2 < ρ 1 := pz_go hE 11 7 (by decide)
  obtain ⟨-, -, -, -, F50⟩ : ay_ex hp 8 ∧ ay_ex hp 10 ∧ ay_ex hp 11 ∧ ay_ex hp 12 ∧ pz_x50 (ρ 0) (ρ 1) (ay_at hp 8 5) (ay_at hp 8 6) (ay_at hp 8 7) (ay_at hp 8 8) (ay_at hp 10 0) (ay_at hp 10 1) (ay_at hp 10 2) (ay_at hp 10 3) (ay_at hp 10 4) (ay_at hp 8 9) (ay_at hp 8 11) (ay_at hp 8 10) (ay_at hp 8 3) (ay_at hp 8 4) (ay_at hp 11) (ay_at hp 12) := (ax_XF_lt (by decide)).mp (ax_gx hE (50, [3, 7]) (by decide))
  have F97 : (ρ 3) / 4 ≤ (ρ 2) / 4 := (ax_XF_lt (by decide)).mp (ax_gx hE (97, [11, 15]) (by decide))
  refine ⟨(fun y hy => by cases hy), _, List.mem_cons_self, ρ, fun _ _ => rfl, ax_px hE (by decide) (fun y hy => ?_)⟩
  cases List.mem_singleton.mp hy
  refine (ax_XF_lt (x := 97) (by decide)).mpr ?_
  show (ρ 4) / 4 ≤ (ρ 1) / 4
  omega

theorem axq_rp7_5 : ax_RO ax_wC ax_XC axu_rp7_5 := by
  intro ρ hp hE hT
  have j0 : ρ 0 % 4 = 1 := pz_gj hE 0 (by decide) rfl
  have j1 : ρ 1 % 4 = 1 := pz_gj hE 1 (by decide) rfl
  obtain ⟨i2a, i2b, i2c, i2d⟩ := pz_gi hE 2 2147484448 2147484448 (by decide) rfl
  obtain ⟨-, -, F30⟩ : ay_ex hp 8 ∧ ay_ex hp 9 ∧ pz_x30 (ρ 0) (ay_at hp 8 1) (ay_at hp 9) := (ax_XF_lt (by decide)).mp (ax_gx hE (30, [3]) (by decide))
  obtain ⟨-, -, -, -, F50⟩ : ay_ex hp 8 ∧ ay_ex hp 10 ∧ ay_ex hp 11 ∧ ay_ex hp 12 ∧ pz_x50 (ρ 0) (ρ 1) (ay_at hp 8 5) (ay_at hp 8 6) (ay_at hp 8 7) (ay_at hp 8 8) (ay_at hp 10 0) (ay_at hp 10 1) (ay_at hp 10 2) (ay_at hp 10 3) (ay_at hp 10 4) (ay_at hp 8 9) (ay_at hp 8 11) (ay_at hp 8 10) (ay_at hp 8 3) (ay_at hp 8 4) (ay_at hp 11) (ay_at hp 12) := (ax_XF_lt (by decide)).mp (ax_gx hE (50, [3, 7]) (by decide))
  have F79 : pz7 (pz_gt (ρ 0)) (pz_gN (ρ 0)) ((ρ 1) / 4) 9 := (ax_XF_lt (by decide)).mp (ax_gx hE (79, [3, 7]) (by decide))
  have F97 : (ρ 2) / 4 ≤ (ρ 1) / 4 := (ax_XF_lt (by decide)).mp (ax_gx hE (97, [7, 11]) (by decide))
  refine ⟨(fun y hy => by cases hy), _, List.mem_cons_self, ρ, fun _ _ => rfl, ax_px hE (by decide) (fun y hy => ?_)⟩
  cases List.mem_singleton.mp hy
  refine (ax_XF_lt (x := 95) (by decide)).mpr ?_
  show pz95 (pz_gt (ρ 0)) (pz_gN (ρ 0)) ((ρ 1) / 4)
  have kd := pq_far (n := ρ 1 / 4) F79 (by decide) (show pz_gN (ρ 0) ≤ 800 from F30.2.1) (by omega)
  exact ⟨by omega, by omega, by omega⟩

theorem axq_rp8a_5 : ax_RO ax_wC ax_XC axu_rp8a_5 := by
  intro ρ hp hE hT
  have j0 : ρ 0 % 4 = 1 := pz_gj hE 0 (by decide) rfl
  have j1 : ρ 1 % 4 = 1 := pz_gj hE 1 (by decide) rfl
  obtain ⟨i2a, i2b, i2c, i2d⟩ := pz_gi hE 2 0 2147483684 (by decide) rfl
  have c_kind : ay_at hp 8 7 = some (ρ 2) := ay_gfj hE 42 28 11 8 7 (by decide) (by rw [ax_vl_c (by decide)]) (by rw [ax_vl_c (by decide)])
  obtain ⟨-, -, -, -, F50⟩ : ay_ex hp 8 ∧ ay_ex hp 10 ∧ ay_ex hp 11 ∧ ay_ex hp 12 ∧ pz_x50 (ρ 0) (ρ 1) (ay_at hp 8 5) (ay_at hp 8 6) (ay_at hp 8 7) (ay_at hp 8 8) (ay_at hp 10 0) (ay_at hp 10 1) (ay_at hp 10 2) (ay_at hp 10 3) (ay_at hp 10 4) (ay_at hp 8 9) (ay_at hp 8 11) (ay_at hp 8 10) (ay_at hp 8 3) (ay_at hp 8 4) (ay_at hp 11) (ay_at hp 12) := (ax_XF_lt (by decide)).mp (ax_gx hE (50, [3, 7]) (by decide))
  rw [c_kind] at F50
  refine ⟨(fun y hy => by cases hy), _, List.mem_cons_self, ρ, fun _ _ => rfl, ax_px hE (by decide) (fun y hy => ?_)⟩
  cases List.mem_singleton.mp hy
  refine (ax_XF_lt (x := 95) (by decide)).mpr ?_
  show pz95 (pz_gt (ρ 0)) (pz_gN (ρ 0)) ((ρ 1) / 4)
  have kd : ρ 2 / 4 = pz_kd (pz_gt (ρ 0)) (pz_gN (ρ 0)) (pz_p (pz_cf (pz_gt (ρ 0)) (pz_gN (ρ 0)) (ρ 1 / 4))) := F50.2.2.1
  exact ⟨by omega, by omega, by omega⟩

theorem axq_rp8b_5 : ax_RO ax_wC ax_XC axu_rp8b_5 := by
  intro ρ hp hE hT
  have j0 : ρ 0 % 4 = 1 := pz_gj hE 0 (by decide) rfl
  have j1 : ρ 1 % 4 = 1 := pz_gj hE 1 (by decide) rfl
  obtain ⟨i2a, i2b, i2c, i2d⟩ := pz_gi hE 2 2147483686 2147483689 (by decide) rfl
  have c_kind : ay_at hp 8 7 = some (ρ 2) := ay_gfj hE 42 28 11 8 7 (by decide) (by rw [ax_vl_c (by decide)]) (by rw [ax_vl_c (by decide)])
  obtain ⟨-, -, -, -, F50⟩ : ay_ex hp 8 ∧ ay_ex hp 10 ∧ ay_ex hp 11 ∧ ay_ex hp 12 ∧ pz_x50 (ρ 0) (ρ 1) (ay_at hp 8 5) (ay_at hp 8 6) (ay_at hp 8 7) (ay_at hp 8 8) (ay_at hp 10 0) (ay_at hp 10 1) (ay_at hp 10 2) (ay_at hp 10 3) (ay_at hp 10 4) (ay_at hp 8 9) (ay_at hp 8 11) (ay_at hp 8 10) (ay_at hp 8 3) (ay_at hp 8 4) (ay_at hp 11) (ay_at hp 12) := (ax_XF_lt (by decide)).mp (ax_gx hE (50, [3, 7]) (by decide))
  rw [c_kind] at F50
  refine ⟨(fun y hy => by cases hy), _, List.mem_cons_self, ρ, fun _ _ => rfl, ax_px hE (by decide) (fun y hy => ?_)⟩
  cases List.mem_singleton.mp hy
  refine (ax_XF_lt (x := 95) (by decide)).mpr ?_
  show pz95 (pz_gt (ρ 0)) (pz_gN (ρ 0)) ((ρ 1) / 4)
  have kd : ρ 2 / 4 = pz_kd (pz_gt (ρ 0)) (pz_gN (ρ 0)) (pz_p (pz_cf (pz_gt (ρ 0)) (pz_gN (ρ 0)) (ρ 1 / 4))) := F50.2.2.1
  exact ⟨by omega, by omega, by omega⟩

theorem axq_rp8c_5 : ax_RO ax_wC ax_XC axu_rp8c_5 := by
  intro ρ hp hE hT
  have j0 : ρ 0 % 4 = 1 := pz_gj hE 0 (by decide) rfl
  have j1 : ρ 1 % 4 = 1 := pz_gj hE 1 (by decide) rfl
  obtain ⟨i2a, i2b, i2c, i2d⟩ := pz_gi hE 2 2147483691 2147483694 (by decide) rfl
  have c_kind : ay_at hp 8 7 = some (ρ 2) := ay_gfj hE 42 28 11 8 7 (by decide) (by rw [ax_vl_c (by decide)]) (by rw [ax_vl_c (by decide)])
  obtain ⟨-, -, -, -, F50⟩ : ay_ex hp 8 ∧ ay_ex hp 10 ∧ ay_ex hp 11 ∧ ay_ex hp 12 ∧ pz_x50 (ρ 0) (ρ 1) (ay_at hp 8 5) (ay_at hp 8 6) (ay_at hp 8 7) (ay_at hp 8 8) (ay_at hp 10 0) (ay_at hp 10 1) (ay_at hp 10 2) (ay_at hp 10 3) (ay_at hp 10 4) (ay_at hp 8 9) (ay_at hp 8 11) (ay_at hp 8 10) (ay_at hp 8 3) (ay_at hp 8 4) (ay_at hp 11) (ay_at hp 12) := (ax_XF_lt (by decide)).mp (ax_gx hE (50, [3, 7]) (by decide))
  rw [c_kind] at F50
  refine ⟨(fun y hy => by cases hy), _, List.mem_cons_self, ρ, fun _ _ => rfl, ax_px hE (by decide) (fun y hy => ?_)⟩
  cases List.mem_singleton.mp hy
  refine (ax_XF_lt (x := 95) (by decide)).mpr ?_
  show pz95 (pz_gt (ρ 0)) (pz_gN (ρ 0)) ((ρ 1) / 4)
  have kd : ρ 2 / 4 = pz_kd (pz_gt (ρ 0)) (pz_gN (ρ 0)) (pz_p (pz_cf (pz_gt (ρ 0)) (pz_gN (ρ 0)) (ρ 1 / 4))) := F50.2.2.1
  exact ⟨by omega, by omega, by omega⟩

theorem axq_rp8d_5 : ax_RO ax_wC ax_XC axu_rp8d_5 := by
  intro ρ hp hE hT
  have j0 : ρ 0 % 4 = 1 := pz_gj hE 0 (by decide) rfl
  have j1 : ρ 1 % 4 = 1 := pz_gj hE 1 (by decide) rfl
  obtain ⟨i2a, i2b, i2c, i2d⟩ := pz_gi hE 2 2147483696 4294967295 (by decide) rfl
  have c_kind : ay_at hp 8 7 = some (ρ 2) := ay_gfj hE 42 28 11 8 7 (by decide) (by rw [ax_vl_c (by decide)]) (by rw [ax_vl_c (by decide)])
  obtain ⟨-, -, -, -, F50⟩ : ay_ex hp 8 ∧ ay_ex hp 10 ∧ ay_ex hp 11 ∧ ay_ex hp 12 ∧ pz_x50 (ρ 0) (ρ 1) (ay_at hp 8 5) (ay_at hp 8 6) (ay_at hp 8 7) (ay_at hp 8 8) (ay_at hp 10 0) (ay_at hp 10 1) (ay_at hp 10 2) (ay_at hp 10 3) (ay_at hp 10 4) (ay_at hp 8 9) (ay_at hp 8 11) (ay_at hp 8 10) (ay_at hp 8 3) (ay_at hp 8 4) (ay_at hp 11) (ay_at hp 12) := (ax_XF_lt (by decide)).mp (ax_gx hE (50, [3, 7]) (by decide))
  rw [c_kind] at F50
  refine ⟨(fun y hy => by cases hy), _, List.mem_cons_self, ρ, fun _ _ => rfl, ax_px hE (by decide) (fun y hy => ?_)⟩
  cases List.mem_singleton.mp hy
  refine (ax_XF_lt (x := 95) (by decide)).mpr ?_
  show pz95 (pz_gt (ρ 0)) (pz_gN (ρ 0)) ((ρ 1) / 4)
  have kd : ρ 2 / 4 = pz_kd (pz_gt (ρ 0)) (pz_gN (ρ 0)) (pz_p (pz_cf (pz_gt (ρ 0)) (pz_gN (ρ 0)) (ρ 1 / 4))) := F50.2.2.1
  exact ⟨by omega, by omega, by omega⟩

theorem axq_rp1_6 : ax_RO ax_wC ax_XC axu_rp1_6 := by
  intro ρ hp hE hT
  have j0 : ρ 0 % 4 = 1 := pz_gj hE 0 (by decide) rfl
  have j1 : ρ 1 % 4 = 1 := pz_gj hE 1 (by decide) rfl
  have j2 : ρ 2 % 4 = 1 := pz_gj hE 2 (by decide) rfl
  have j3 : ρ 3 % 4 = 1 := pz_gj hE 3 (by decide) rfl
  obtain ⟨-, -, -, -, F50⟩ : ay_ex hp 8 ∧ ay_ex hp 10 ∧ ay_ex hp 11 ∧ ay_ex hp 12 ∧ pz_x50 (ρ 0) (ρ 1) (ay_at hp 8 5) (ay_at hp 8 6) (ay_at hp 8 7) (ay_at hp 8 8) (ay_at hp 10 0) (ay_at hp 10 1) (ay_at hp 10 2) (ay_at hp 10 3) (ay_at hp 10 4) (ay_at hp 8 9) (ay_at hp 8 11) (ay_at hp 8 10) (ay_at hp 8 3) (ay_at hp 8 4) (ay_at hp 11) (ay_at hp 12) := (ax_XF_lt (by decide)).mp (ax_gx hE (50, [3, 7]) (by decide))
  have F90 : (pz90 (pz_gt (ρ 0)) (pz_gN (ρ 0)) ((ρ 1) / 4) ((ρ 3) / 4) ∧ 1 ≤ (ρ 3) / 4) := (ax_XF_lt (by decide)).mp (ax_gx hE (90, [3, 7, 15]) (by decide))
  have F92 : pz_strip ((ρ 2) / 4) = (ρ 3) / 4 := (ax_XF_lt (by decide)).mp (ax_gx hE (92, [11, 15]) (by decide))
  have F92a : pz_strip ((ρ 2) / 4) = (ρ 2) / 4 := (ax_XF_lt (by decide)).mp (ax_gx hE (92, [11, 11]) (by decide))
  refine ⟨(fun y hy => by cases hy), _, List.mem_cons_self, ρ, fun _ _ => rfl, ax_px hE (by decide) (fun y hy => ?_)⟩
  cases List.mem_singleton.mp hy
  refine (ax_XF_lt (x := 90) (by decide)).mpr ?_
  show (pz90 (pz_gt (ρ 0)) (pz_gN (ρ 0)) ((ρ 1) / 4) ((ρ 2) / 4) ∧ 1 ≤ (ρ 2) / 4)
  have e : ρ 3 / 4 = ρ 2 / 4 := by omega
  rw [← e]
  exact F90

theorem axq_rp2_6 : ax_RO ax_wC ax_XC axu_rp2_6 := by
  intro ρ hp hE hT
  have j0 : ρ 0 % 4 = 1 := pz_gj hE 0 (by decide) rfl
  have j1 : ρ 1 % 4 = 1 := pz_gj hE 1 (by decide) rfl
  obtain ⟨-, -, -, -, F50⟩ : ay_ex hp 8 ∧ ay_ex hp 10 ∧ ay_ex hp 11 ∧ ay_ex hp 12 ∧ pz_x50 (ρ 0) (ρ 1) (ay_at hp 8 5) (ay_at hp 8 6) (ay_at hp 8 7) (ay_at hp 8 8) (ay_at hp 10 0) (ay_at hp 10 1) (ay_at hp 10 2) (ay_at hp 10 3) (ay_at hp 10 4) (ay_at hp 8 9) (ay_at hp 8 11) (ay_at hp 8 10) (ay_at hp 8 3) (ay_at hp 8 4) (ay_at hp 11) (ay_at hp 12) := (ax_XF_lt (by decide)).mp (ax_gx hE (50, [3, 7]) (by decide))
  refine ⟨(fun y hy => by cases hy), _, List.mem_cons_self, ρ, fun _ _ => rfl, ax_px hE (by decide) (fun y hy => ?_)⟩
  cases List.mem_singleton.mp hy
  refine (ax_XF_lt (x := 97) (by decide)).mpr ?_
  show (0) / 4 ≤ (ρ 1) / 4
  exact Nat.zero_le _

theorem axq_rp3c42_6 : ax_RO ax_wC ax_XC axu_rp3c42_6 := by
  intro ρ hp hE hT
  have j0 : ρ 0 % 4 = 1 := pz_gj hE 0 (by decide) rfl
  have j1 : ρ 1 % 4 = 1 := pz_gj hE 1 (by decide) rfl
  have j2 : ρ 2 % 4 = 1 := pz_gj hE 2 (by decide) rfl
  obtain ⟨i3a, i3b, i3c, i3d⟩ := pz_gi hE 3 2147483690 2147483690 (by decide) rfl
  have j4 : ρ 4 % 4 = 1 := pz_gj hE 4 (by decide) rfl
  have c_kind : ay_at hp 8 7 = some (ρ 3) := ay_gfj hE 42 28 15 8 7 (by decide) (by rw [ax_vl_c (by decide)]) (by rw [ax_vl_c (by decide)])
  have o1 : ρ 4 < ρ 1 := pz_go hE 19 7 (by decide)
  obtain ⟨-, -, -, -, F50⟩ : ay_ex hp 8 ∧ ay_ex hp 10 ∧ ay_ex hp 11 ∧ ay_ex hp 12 ∧ pz_x50 (ρ 0) (ρ 1) (ay_at hp 8 5) (ay_at hp 8 6) (ay_at hp 8 7) (ay_at hp 8 8) (ay_at hp 10 0) (ay_at hp 10 1) (ay_at hp 10 2) (ay_at hp 10 3) (ay_at hp 10 4) (ay_at hp 8 9) (ay_at hp 8 11) (ay_at hp 8 10) (ay_at hp 8 3) (ay_at hp 8 4) (ay_at hp 11) (ay_at hp 12) := (ax_XF_lt (by decide)).mp (ax_gx hE (50, [3, 7]) (by decide))
  rw [c_kind] at F50
  have F79 : pz7 (pz_gt (ρ 0)) (pz_gN (ρ 0)) ((ρ 1) / 4) 9 := (ax_XF_lt (by decide)).mp (ax_gx hE (79, [3, 7]) (by decide))
  have F90 : (pz90 (pz_gt (ρ 0)) (pz_gN (ρ 0)) ((ρ 1) / 4) ((ρ 2) / 4) ∧ 1 ≤ (ρ 2) / 4) := (ax_XF_lt (by decide)).mp (ax_gx hE (90, [3, 7, 11]) (by decide))
  have st := pq_op F50 F79 F90.1 (show pz_op (ρ 3 / 4) = true by rw [show ρ 3 / 4 = 42 by omega]; rfl)
  obtain ⟨ρ', h1, h2⟩ := pz_pn1 (K := ρ 1 / 4 + 1) (xf := [(53, [3, 23]), (78, [3, 23]), (90, [3, 23, 11]), (1030, [7, 23]), (98, [7, 23]), (1030, [19, 23])]) hE (by decide) (fun ρ' h1 h2 x hx => by
    have q0 : ρ' 0 = ρ 0 := h1 0 (by decide)
    have q1 : ρ' 1 = ρ 1 := h1 1 (by decide)
    have q2 : ρ' 2 = ρ 2 := h1 2 (by decide)
    have q3 : ρ' 3 = ρ 3 := h1 3 (by decide)
    have q4 : ρ' 4 = ρ 4 := h1 4 (by decide)
    rcases List.mem_cons.mp hx with e | hx
    · subst e
      refine (ax_XF_lt (x := 53) (by decide)).mpr ?_
      show ay_ex hp 8 ∧ ay_ex hp 10 ∧ ay_ex hp 11 ∧ ay_ex hp 12 ∧ pz_x53 (ρ' 0) (ρ' 5) (ay_at hp 8 5) (ay_at hp 10 0) (ay_at hp 10 1) (ay_at hp 10 2) (ay_at hp 10 3) (ay_at hp 10 4) (ay_at hp 8 9) (ay_at hp 8 11) (ay_at hp 8 10) (ay_at hp 8 3) (ay_at hp 8 4) (ay_at hp 11) (ay_at hp 12)
      rw [q0, h2]
      exact ⟨(ax_cellT hT (q := 8) (g := 2) rfl), (ax_cellT hT (q := 10) (g := 1) rfl), (ax_cellT hT (q := 11) (g := 14) rfl), (ax_cellT hT (q := 12) (g := 15) rfl), pz_53 (pz_41 _) rfl st.1⟩
    rcases List.mem_cons.mp hx with e | hx
    · subst e
      refine (ax_XF_lt (x := 78) (by decide)).mpr ?_
      show pz7 (pz_gt (ρ' 0)) (pz_gN (ρ' 0)) ((ρ' 5) / 4) 8
      rw [q0, h2]
      rw [pz_41]
      exact st.2.1
    rcases List.mem_cons.mp hx with e | hx
    · subst e
      refine (ax_XF_lt (x := 90) (by decide)).mpr ?_
      show (pz90 (pz_gt (ρ' 0)) (pz_gN (ρ' 0)) ((ρ' 5) / 4) ((ρ' 2) / 4) ∧ 1 ≤ (ρ' 2) / 4)
      rw [q0, q2, h2]
      rw [pz_41]
      exact ⟨st.2.2, F90.2⟩
    rcases List.mem_cons.mp hx with e | hx
    · subst e
      refine (ax_XF_bi (o := 30) (by decide)).mpr (Or.inr ⟨rfl, ?_⟩)
      show ρ' 1 < ρ' 5
      rw [q1, h2]
      omega
    rcases List.mem_cons.mp hx with e | hx
    · subst e
      refine (ax_XF_lt (x := 98) (by decide)).mpr ?_
      show (ρ' 5) / 4 = (ρ' 1) / 4 + 1
      rw [q1, h2]
      rw [pz_41]
    cases List.mem_singleton.mp hx
    refine (ax_XF_bi (o := 30) (by decide)).mpr (Or.inr ⟨rfl, ?_⟩)
    show ρ' 4 < ρ' 5
    rw [q4, h2]
    omega)
  exact ⟨(fun y hy => by cases hy), _, List.mem_cons_self, ρ', h1, h2⟩

theorem axq_rp3c47_6 : ax_RO ax_wC ax_XC axu_rp3c47_6 := by
  intro ρ hp hE hT
  have j0 : ρ 0 % 4 = 1 := pz_gj hE 0 (by decide) rfl
  have j1 : ρ 1 % 4 = 1 := pz_gj hE 1 (by decide) rfl
  have j2 : ρ 2 % 4 = 1 := pz_gj hE 2 (by decide) rfl
  obtain ⟨i3a, i3b, i3c, i3d⟩ := pz_gi hE 3 2147483695 2147483695 (by decide) rfl
  have j4 : ρ 4 % 4 = 1 := pz_gj hE 4 (by decide) rfl
  have c_kind : ay_at hp 8 7 = some (ρ 3) := ay_gfj hE 42 28 15 8 7 (by decide) (by rw [ax_vl_c (by decide)]) (by rw [ax_vl_c (by decide)])
  have o1 : ρ 4 < ρ 1 := pz_go hE 19 7 (by decide)
  obtain ⟨-, -, -, -, F50⟩ : ay_ex hp 8 ∧ ay_ex hp 10 ∧ ay_ex hp 11 ∧ ay_ex hp 12 ∧ pz_x50 (ρ 0) (ρ 1) (ay_at hp 8 5) (ay_at hp 8 6) (ay_at hp 8 7) (ay_at hp 8 8) (ay_at hp 10 0) (ay_at hp 10 1) (ay_at hp 10 2) (ay_at hp 10 3) (ay_at hp 10 4) (ay_at hp 8 9) (ay_at hp 8 11) (ay_at hp 8 10) (ay_at hp 8 3) (ay_at hp 8 4) (ay_at hp 11) (ay_at hp 12) := (ax_XF_lt (by decide)).mp (ax_gx hE (50, [3, 7]) (by decide))
  rw [c_kind] at F50
  have F79 : pz7 (pz_gt (ρ 0)) (pz_gN (ρ 0)) ((ρ 1) / 4) 9 := (ax_XF_lt (by decide)).mp (ax_gx hE (79, [3, 7]) (by decide))
  have F90 : (pz90 (pz_gt (ρ 0)) (pz_gN (ρ 0)) ((ρ 1) / 4) ((ρ 2) / 4) ∧ 1 ≤ (ρ 2) / 4) := (ax_XF_lt (by decide)).mp (ax_gx hE (90, [3, 7, 11]) (by decide))
  have st := pq_op F50 F79 F90.1 (show pz_op (ρ 3 / 4) = true by rw [show ρ 3 / 4 = 47 by omega]; rfl)
  obtain ⟨ρ', h1, h2⟩ := pz_pn1 (K := ρ 1 / 4 + 1) (xf := [(53, [3, 23]), (78, [3, 23]), (90, [3, 23, 11]), (1030, [7, 23]), (98, [7, 23]), (1030, [19, 23])]) hE (by decide) (fun ρ' h1 h2 x hx => by
    have q0 : ρ' 0 = ρ 0 := h1 0 (by decide)
    have q1 : ρ' 1 = ρ 1 := h1 1 (by decide)
    have q2 : ρ' 2 = ρ 2 := h1 2 (by decide)
    have q3 : ρ' 3 = ρ 3 := h1 3 (by decide)
    have q4 : ρ' 4 = ρ 4 := h1 4 (by decide)
    rcases List.mem_cons.mp hx with e | hx
    · subst e
      refine (ax_XF_lt (x := 53) (by decide)).mpr ?_
      show ay_ex hp 8 ∧ ay_ex hp 10 ∧ ay_ex hp 11 ∧ ay_ex hp 12 ∧ pz_x53 (ρ' 0) (ρ' 5) (ay_at hp 8 5) (ay_at hp 10 0) (ay_at hp 10 1) (ay_at hp 10 2) (ay_at hp 10 3) (ay_at hp 10 4) (ay_at hp 8 9) (ay_at hp 8 11) (ay_at hp 8 10) (ay_at hp 8 3) (ay_at hp 8 4) (ay_at hp 11) (ay_at hp 12)
      rw [q0, h2]
      exact ⟨(ax_cellT hT (q := 8) (g := 2) rfl), (ax_cellT hT (q := 10) (g := 1) rfl), (ax_cellT hT (q := 11) (g := 14) rfl), (ax_cellT hT (q := 12) (g := 15) rfl), pz_53 (pz_41 _) rfl st.1⟩
    rcases List.mem_cons.mp hx with e | hx
    · subst e
      refine (ax_XF_lt (x := 78) (by decide)).mpr ?_
      show pz7 (pz_gt (ρ' 0)) (pz_gN (ρ' 0)) ((ρ' 5) / 4) 8
      rw [q0, h2]
      rw [pz_41]
      exact st.2.1
    rcases List.mem_cons.mp hx with e | hx
    · subst e
      refine (ax_XF_lt (x := 90) (by decide)).mpr ?_
      show (pz90 (pz_gt (ρ' 0)) (pz_gN (ρ' 0)) ((ρ' 5) / 4) ((ρ' 2) / 4) ∧ 1 ≤ (ρ' 2) / 4)
      rw [q0, q2, h2]
      rw [pz_41]
      exact ⟨st.2.2, F90.2⟩
    rcases List.mem_cons.mp hx with e | hx
    · subst e
      refine (ax_XF_bi (o := 30) (by decide)).mpr (Or.inr ⟨rfl, ?_⟩)
      show ρ' 1 < ρ' 5
      rw [q1, h2]
      omega
    rcases List.mem_cons.mp hx with e | hx
    · subst e
      refine (ax_XF_lt (x := 98) (by decide)).mpr ?_
      show (ρ' 5) / 4 = (ρ' 1) / 4 + 1
      rw [q1, h2]
      rw [pz_41]
    cases List.mem_singleton.mp hx
    refine (ax_XF_bi (o := 30) (by decide)).mpr (Or.inr ⟨rfl, ?_⟩)
    show ρ' 4 < ρ' 5
    rw [q4, h2]
    omega)
  exact ⟨(fun y hy => by cases hy), _, List.mem_cons_self, ρ', h1, h2⟩

theorem axq_rp3c37_6 : ax_RO ax_wC ax_XC axu_rp3c37_6 := by
  intro ρ hp hE hT
  have j0 : ρ 0 % 4 = 1 := pz_gj hE 0 (by decide) rfl
  have j1 : ρ 1 % 4 = 1 := pz_gj hE 1 (by decide) rfl
  have j2 : ρ 2 % 4 = 1 := pz_gj hE 2 (by decide) rfl
  obtain ⟨i3a, i3b, i3c, i3d⟩ := pz_gi hE 3 2147483685 2147483685 (by decide) rfl
  have j4 : ρ 4 % 4 = 1 := pz_gj hE 4 (by decide) rfl
  have c_kind : ay_at hp 8 7 = some (ρ 3) := ay_gfj hE 42 28 15 8 7 (by decide) (by rw [ax_vl_c (by decide)]) (by rw [ax_vl_c (by decide)])
  have o1 : ρ 4 < ρ 1 := pz_go hE 19 7 (by decide)
  obtain ⟨-, -, -, -, F50⟩ : ay_ex hp 8 ∧ ay_ex hp 10 ∧ ay_ex hp 11 ∧ ay_ex hp 12 ∧ pz_x50 (ρ 0) (ρ 1) (ay_at hp 8 5) (ay_at hp 8 6) (ay_at hp 8 7) (ay_at hp 8 8) (ay_at hp 10 0) (ay_at hp 10 1) (ay_at hp 10 2) (ay_at hp 10 3) (ay_at hp 10 4) (ay_at hp 8 9) (ay_at hp 8 11) (ay_at hp 8 10) (ay_at hp 8 3) (ay_at hp 8 4) (ay_at hp 11) (ay_at hp 12) := (ax_XF_lt (by decide)).mp (ax_gx hE (50, [3, 7]) (by decide))
  rw [c_kind] at F50
  have F79 : pz7 (pz_gt (ρ 0)) (pz_gN (ρ 0)) ((ρ 1) / 4) 9 := (ax_XF_lt (by decide)).mp (ax_gx hE (79, [3, 7]) (by decide))
  have F90 : (pz90 (pz_gt (ρ 0)) (pz_gN (ρ 0)) ((ρ 1) / 4) ((ρ 2) / 4) ∧ 1 ≤ (ρ 2) / 4) := (ax_XF_lt (by decide)).mp (ax_gx hE (90, [3, 7, 11]) (by decide))
  have st := pq_op F50 F79 F90.1 (show pz_op (ρ 3 / 4) = true by rw [show ρ 3 / 4 = 37 by omega]; rfl)
  obtain ⟨ρ', h1, h2⟩ := pz_pn1 (K := ρ 1 / 4 + 1) (xf := [(53, [3, 23]), (78, [3, 23]), (90, [3, 23, 11]), (1030, [7, 23]), (98, [7, 23]), (1030, [19, 23])]) hE (by decide) (fun ρ' h1 h2 x hx => by
    have q0 : ρ' 0 = ρ 0 := h1 0 (by decide)
    have q1 : ρ' 1 = ρ 1 := h1 1 (by decide)
    have q2 : ρ' 2 = ρ 2 := h1 2 (by decide)
    have q3 : ρ' 3 = ρ 3 := h1 3 (by decide)
    have q4 : ρ' 4 = ρ 4 := h1 4 (by decide)
    rcases List.mem_cons.mp hx with e | hx
    · subst e
      refine (ax_XF_lt (x := 53) (by decide)).mpr ?_
      show ay_ex hp 8 ∧ ay_ex hp 10 ∧ ay_ex hp 11 ∧ ay_ex hp 12 ∧ pz_x53 (ρ' 0) (ρ' 5) (ay_at hp 8 5) (ay_at hp 10 0) (ay_at hp 10 1) (ay_at hp 10 2) (ay_at hp 10 3) (ay_at hp 10 4) (ay_at hp 8 9) (ay_at hp 8 11) (ay_at hp 8 10) (ay_at hp 8 3) (ay_at hp 8 4) (ay_at hp 11) (ay_at hp 12)
      rw [q0, h2]
      exact ⟨(ax_cellT hT (q := 8) (g := 2) rfl), (ax_cellT hT (q := 10) (g := 1) rfl), (ax_cellT hT (q := 11) (g := 14) rfl), (ax_cellT hT (q := 12) (g := 15) rfl), pz_53 (pz_41 _) rfl st.1⟩
    rcases List.mem_cons.mp hx with e | hx
    · subst e
      refine (ax_XF_lt (x := 78) (by decide)).mpr ?_
      show pz7 (pz_gt (ρ' 0)) (pz_gN (ρ' 0)) ((ρ' 5) / 4) 8
      rw [q0, h2]
      rw [pz_41]
      exact st.2.1
    rcases List.mem_cons.mp hx with e | hx
    · subst e
      refine (ax_XF_lt (x := 90) (by decide)).mpr ?_
      show (pz90 (pz_gt (ρ' 0)) (pz_gN (ρ' 0)) ((ρ' 5) / 4) ((ρ' 2) / 4) ∧ 1 ≤ (ρ' 2) / 4)
      rw [q0, q2, h2]
      rw [pz_41]
      exact ⟨st.2.2, F90.2⟩
    rcases List.mem_cons.mp hx with e | hx
    · subst e
      refine (ax_XF_bi (o := 30) (by decide)).mpr (Or.inr ⟨rfl, ?_⟩)
      show ρ' 1 < ρ' 5
      rw [q1, h2]
      omega
    rcases List.mem_cons.mp hx with e | hx
    · subst e
      refine (ax_XF_lt (x := 98) (by decide)).mpr ?_
      show (ρ' 5) / 4 = (ρ' 1) / 4 + 1
      rw [q1, h2]
      rw [pz_41]
    cases List.mem_singleton.mp hx
    refine (ax_XF_bi (o := 30) (by decide)).mpr (Or.inr ⟨rfl, ?_⟩)
    show ρ' 4 < ρ' 5
    rw [q4, h2]
    omega)
  exact ⟨(fun y hy => by cases hy), _, List.mem_cons_self, ρ', h1, h2⟩

theorem axq_rp4_6 : ax_RO ax_wC ax_XC axu_rp4_6 := by
  intro ρ hp hE hT
  have j0 : ρ 0 % 4 = 1 := pz_gj hE 0 (by decide) rfl
  have j1 : ρ 1 % 4 = 1 := pz_gj hE 1 (by decide) rfl
  have j2 : ρ 2 % 4 = 1 := pz_gj hE 2 (by decide) rfl
  have j3 : ρ 3 % 4 = 1 := pz_gj hE 3 (by decide) rfl
  obtain ⟨-, -, -, -, F50⟩ : ay_ex hp 8 ∧ ay_ex hp 10 ∧ ay_ex hp 11 ∧ ay_ex hp 12 ∧ pz_x50 (ρ 0) (ρ 1) (ay_at hp 8 5) (ay_at hp 8 6) (ay_at hp 8 7) (ay_at hp 8 8) (ay_at hp 10 0) (ay_at hp 10 1) (ay_at hp 10 2) (ay_at hp 10 3) (ay_at hp 10 4) (ay_at hp 8 9) (ay_at hp 8 11) (ay_at hp 8 10) (ay_at hp 8 3) (ay_at hp 8 4) (ay_at hp 11) (ay_at hp 12) := (ax_XF_lt (by decide)).mp (ax_gx hE (50, [3, 7]) (by decide))
  have F90 : (pz90 (pz_gt (ρ 0)) (pz_gN (ρ 0)) ((ρ 1) / 4) ((ρ 3) / 4) ∧ 1 ≤ (ρ 3) / 4) := (ax_XF_lt (by decide)).mp (ax_gx hE (90, [3, 7, 15]) (by decide))
  have F92 : pz_strip ((ρ 2) / 4) = (ρ 3) / 4 := (ax_XF_lt (by decide)).mp (ax_gx hE (92, [11, 15]) (by decide))
  have F92a : pz_strip ((ρ 2) / 4) = (ρ 2) / 4 := (ax_XF_lt (by decide)).mp (ax_gx hE (92, [11, 11]) (by decide))
  refine ⟨(fun y hy => by cases hy), _, List.mem_cons_self, ρ, fun _ _ => rfl, ax_px hE (by decide) (fun y hy => ?_)⟩
  cases List.mem_singleton.mp hy
  refine (ax_XF_lt (x := 90) (by decide)).mpr ?_
  show (pz90 (pz_gt (ρ 0)) (pz_gN (ρ 0)) ((ρ 1) / 4) ((ρ 2) / 4) ∧ 1 ≤ (ρ 2) / 4)
  have e : ρ 3 / 4 = ρ 2 / 4 := by omega
  rw [← e]
  exact F90

theorem axq_rp5_6 : ax_RO ax_wC ax_XC axu_rp5_6 := by
  intro ρ hp hE hT
  have j0 : ρ 0 % 4 = 1 := pz_gj hE 0 (by decide) rfl
  have j1 : ρ 1 % 4 = 1 := pz_gj hE 1 (by decide) rfl
  have j2 : ρ 2 % 4 = 1 := pz_gj hE 2 (by decide) rfl
  have j3 : ρ 3 % 4 = 1 := pz_gj hE 3 (by decide) rfl
  have j4 : ρ 4 % 4 = 1 := pz_gj hE 4 (by decide) rfl
  have o1 : ρ 2 < ρ 1 := pz_go hE 11 7 (by decide)
  have o2 : ρ 3 < ρ 2 := pz_go hE 15 11 (by decide)
  have o3 : ρ 4 < ρ 3 := pz_go hE 19 15 (by decide)
  obtain ⟨-, -, -, -, F50⟩ : ay_ex hp 8 ∧ ay_ex hp 10 ∧ ay_ex hp 11 ∧ ay_ex hp 12 ∧ pz_x50 (ρ 0) (ρ 1) (ay_at hp 8 5) (ay_at hp 8 6) (ay_at hp 8 7) (ay_at hp 8 8) (ay_at hp 10 0) (ay_at hp 10 1) (ay_at hp 10 2) (ay_at hp 10 3) (ay_at hp 10 4) (ay_at hp 8 9) (ay_at hp 8 11) (ay_at hp 8 10) (ay_at hp 8 3) (ay_at hp 8 4) (ay_at hp 11) (ay_at hp 12) := (ax_XF_lt (by decide)).mp (ax_gx hE (50, [3, 7]) (by decide))
  refine ⟨(fun y hy => by cases hy), _, List.mem_cons_self, ρ, fun _ _ => rfl, ax_px hE (by decide) (fun y hy => ?_)⟩
  rcases List.mem_cons.mp hy with e | hy
  · subst e
    refine (ax_XF_bi (o := 30) (by decide)).mpr (Or.inr ⟨rfl, ?_⟩)
    show ρ 4 < ρ 1
    omega
  cases List.mem_singleton.mp hy
  refine (ax_XF_bi (o := 30) (by decide)).mpr (Or.inr ⟨rfl, ?_⟩)
  show ρ 3 < ρ 1
  omega

theorem axq_rp6_6 : ax_RO ax_wC ax_XC axu_rp6_6 := by
  intro ρ hp hE hT
  have j0 : ρ 0 % 4 = 1 := pz_gj hE 0 (by decide) rfl
  have j1 : ρ 1 % 4 = 1 := pz_gj hE 1 (by decide) rfl
  have j2 : ρ 2 % 4 = 1 := pz_gj hE 2 (by decide) rfl
  obtain ⟨i3a, i3b, i3c, i3d⟩ := pz_gi hE 3 2147483648 2147484447 (by decide) rfl
  obtain ⟨i4a, i4b, i4c, i4d⟩ := pz_gi hE 4 0 4294967295 (by decide) rfl
  have s1 : (ρ 3 / 4 + 2147483648) % 4294967296 + (4 / 4 + 2147483648) % 4294967296 = (ρ 4 / 4 + 2147483648) % 4294967296 + 2147483648 := pz_gs hE 15 4 19 (by decide)
  have o1 : ρ 2 < ρ 1 := pz_go hE 11 7 (by decide)
  obtain ⟨-, -, -, -, F50⟩ : ay_ex hp 8 ∧ ay_ex hp 10 ∧ ay_ex hp 11 ∧ ay_ex hp 12 ∧ pz_x50 (ρ 0) (ρ 1) (ay_at hp 8 5) (ay_at hp 8 6) (ay_at hp 8 7) (ay_at hp 8 8) (ay_at hp 10 0) (ay_at hp 10 1) (ay_at hp 10 2) (ay_at hp 10 3) (ay_at hp 10 4) (ay_at hp 8 9) (ay_at hp 8 11) (ay_at hp 8 10) (ay_at hp 8 3) (ay_at hp 8 4) (ay_at hp 11) (ay_at hp 12) := (ax_XF_lt (by decide)).mp (ax_gx hE (50, [3, 7]) (by decide))
  have F97 : (ρ 3) / 4 ≤ (ρ 2) / 4 := (ax_XF_lt (by decide)).mp (ax_gx hE (97, [11, 15]) (by decide))
  refine ⟨(fun y hy => by cases hy), _, List.mem_cons_self, ρ, fun _ _ => rfl, ax_px hE (by decide) (fun y hy => ?_)⟩
  cases List.mem_singleton.mp hy
  refine (ax_XF_lt (x := 97) (by decide)).mpr ?_
  show (ρ 4) / 4 ≤ (ρ 1) / 4
  omega

theorem axq_rp7_6 : ax_RO ax_wC ax_XC axu_rp7_6 := by
  intro ρ hp hE hT
  have j0 : ρ 0 % 4 = 1 := pz_gj hE 0 (by decide) rfl
  have j1 : ρ 1 % 4 = 1 := pz_gj hE 1 (by decide) rfl
  obtain ⟨i2a, i2b, i2c, i2d⟩ := pz_gi hE 2 2147484448 2147484448 (by decide) rfl
  obtain ⟨-, -, F30⟩ : ay_ex hp 8 ∧ ay_ex hp 9 ∧ pz_x30 (ρ 0) (ay_at hp 8 1) (ay_at hp 9) := (ax_XF_lt (by decide)).mp (ax_gx hE (30, [3]) (by decide))
  obtain ⟨-, -, -, -, F50⟩ : ay_ex hp 8 ∧ ay_ex hp 10 ∧ ay_ex hp 11 ∧ ay_ex hp 12 ∧ pz_x50 (ρ 0) (ρ 1) (ay_at hp 8 5) (ay_at hp 8 6) (ay_at hp 8 7) (ay_at hp 8 8) (ay_at hp 10 0) (ay_at hp 10 1) (ay_at hp 10 2) (ay_at hp 10 3) (ay_at hp 10 4) (ay_at hp 8 9) (ay_at hp 8 11) (ay_at hp 8 10) (ay_at hp 8 3) (ay_at hp 8 4) (ay_at hp 11) (ay_at hp 12) := (ax_XF_lt (by decide)).mp (ax_gx hE (50, [3, 7]) (by decide))
  have F79 : pz7 (pz_gt (ρ 0)) (pz_gN (ρ 0)) ((ρ 1) / 4) 9 := (ax_XF_lt (by decide)).mp (ax_gx hE (79, [3, 7]) (by decide))
  have F97 : (ρ 2) / 4 ≤ (ρ 1) / 4 := (ax_XF_lt (by decide)).mp (ax_gx hE (97, [7, 11]) (by decide))
  refine ⟨(fun y hy => by cases hy), _, List.mem_cons_self, ρ, fun _ _ => rfl, ax_px hE (by decide) (fun y hy => ?_)⟩
  cases List.mem_singleton.mp hy
  refine (ax_XF_lt (x := 95) (by decide)).mpr ?_
  show pz95 (pz_gt (ρ 0)) (pz_gN (ρ 0)) ((ρ 1) / 4)
  have kd := pq_far (n := ρ 1 / 4) F79 (by decide) (show pz_gN (ρ 0) ≤ 800 from F30.2.1) (by omega)
  exact ⟨by omega, by omega, by omega⟩

theorem axq_rp8a_6 : ax_RO ax_wC ax_XC axu_rp8a_6 := by
  intro ρ hp hE hT
  have j0 : ρ 0 % 4 = 1 := pz_gj hE 0 (by decide) rfl
  have j1 : ρ 1 % 4 = 1 := pz_gj hE 1 (by decide) rfl
  obtain ⟨i2a, i2b, i2c, i2d⟩ := pz_gi hE 2 0 2147483684 (by decide) rfl
  have c_kind : ay_at hp 8 7 = some (ρ 2) := ay_gfj hE 42 28 11 8 7 (by decide) (by rw [ax_vl_c (by decide)]) (by rw [ax_vl_c (by decide)])
  obtain ⟨-, -, -, -, F50⟩ : ay_ex hp 8 ∧ ay_ex hp 10 ∧ ay_ex hp 11 ∧ ay_ex hp 12 ∧ pz_x50 (ρ 0) (ρ 1) (ay_at hp 8 5) (ay_at hp 8 6) (ay_at hp 8 7) (ay_at hp 8 8) (ay_at hp 10 0) (ay_at hp 10 1) (ay_at hp 10 2) (ay_at hp 10 3) (ay_at hp 10 4) (ay_at hp 8 9) (ay_at hp 8 11) (ay_at hp 8 10) (ay_at hp 8 3) (ay_at hp 8 4) (ay_at hp 11) (ay_at hp 12) := (ax_XF_lt (by decide)).mp (ax_gx hE (50, [3, 7]) (by decide))
  rw [c_kind] at F50
  refine ⟨(fun y hy => by cases hy), _, List.mem_cons_self, ρ, fun _ _ => rfl, ax_px hE (by decide) (fun y hy => ?_)⟩
  cases List.mem_singleton.mp hy
  refine (ax_XF_lt (x := 95) (by decide)).mpr ?_
  show pz95 (pz_gt (ρ 0)) (pz_gN (ρ 0)) ((ρ 1) / 4)
  have kd : ρ 2 / 4 = pz_kd (pz_gt (ρ 0)) (pz_gN (ρ 0)) (pz_p (pz_cf (pz_gt (ρ 0)) (pz_gN (ρ 0)) (ρ 1 / 4))) := F50.2.2.1
  exact ⟨by omega, by omega, by omega⟩

theorem axq_rp8b_6 : ax_RO ax_wC ax_XC axu_rp8b_6 := by
  intro ρ hp hE hT
  have j0 : ρ 0 % 4 = 1 := pz_gj hE 0 (by decide) rfl
  have j1 : ρ 1 % 4 = 1 := pz_gj hE 1 (by decide) rfl
  obtain ⟨i2a, i2b, i2c, i2d⟩ := pz_gi hE 2 2147483686 2147483689 (by decide) rfl
  have c_kind : ay_at hp 8 7 = some (ρ 2) := ay_gfj hE 42 28 11 8 7 (by decide) (by rw [ax_vl_c (by decide)]) (by rw [ax_vl_c (by decide)])
  obtain ⟨-, -, -, -, F50⟩ : ay_ex hp 8 ∧ ay_ex hp 10 ∧ ay_ex hp 11 ∧ ay_ex hp 12 ∧ pz_x50 (ρ 0) (ρ 1) (ay_at hp 8 5) (ay_at hp 8 6) (ay_at hp 8 7) (ay_at hp 8 8) (ay_at hp 10 0) (ay_at hp 10 1) (ay_at hp 10 2) (ay_at hp 10 3) (ay_at hp 10 4) (ay_at hp 8 9) (ay_at hp 8 11) (ay_at hp 8 10) (ay_at hp 8 3) (ay_at hp 8 4) (ay_at hp 11) (ay_at hp 12) := (ax_XF_lt (by decide)).mp (ax_gx hE (50, [3, 7]) (by decide))
  rw [c_kind] at F50
  refine ⟨(fun y hy => by cases hy), _, List.mem_cons_self, ρ, fun _ _ => rfl, ax_px hE (by decide) (fun y hy => ?_)⟩
  cases List.mem_singleton.mp hy
  refine (ax_XF_lt (x := 95) (by decide)).mpr ?_
  show pz95 (pz_gt (ρ 0)) (pz_gN (ρ 0)) ((ρ 1) / 4)
  have kd : ρ 2 / 4 = pz_kd (pz_gt (ρ 0)) (pz_gN (ρ 0)) (pz_p (pz_cf (pz_gt (ρ 0)) (pz_gN (ρ 0)) (ρ 1 / 4))) := F50.2.2.1
  exact ⟨by omega, by omega, by omega⟩

theorem axq_rp8c_6 : ax_RO ax_wC ax_XC axu_rp8c_6 := by
  intro ρ hp hE hT
  have j0 : ρ 0 % 4 = 1 := pz_gj hE 0 (by decide) rfl
  have j1 : ρ 1 % 4 = 1 := pz_gj hE 1 (by decide) rfl
  obtain ⟨i2a, i2b, i2c, i2d⟩ := pz_gi hE 2 2147483691 2147483694 (by decide) rfl
  have c_kind : ay_at hp 8 7 = some (ρ 2) := ay_gfj hE 42 28 11 8 7 (by decide) (by rw [ax_vl_c (by decide)]) (by rw [ax_vl_c (by decide)])
  obtain ⟨-, -, -, -, F50⟩ : ay_ex hp 8 ∧ ay_ex hp 10 ∧ ay_ex hp 11 ∧ ay_ex hp 12 ∧ pz_x50 (ρ 0) (ρ 1) (ay_at hp 8 5) (ay_at hp 8 6) (ay_at hp 8 7) (ay_at hp 8 8) (ay_at hp 10 0) (ay_at hp 10 1) (ay_at hp 10 2) (ay_at hp 10 3) (ay_at hp 10 4) (ay_at hp 8 9) (ay_at hp 8 11) (ay_at hp 8 10) (ay_at hp 8 3) (ay_at hp 8 4) (ay_at hp 11) (ay_at hp 12) := (ax_XF_lt (by decide)).mp (ax_gx hE (50, [3, 7]) (by decide))
  rw [c_kind] at F50
  refine ⟨(fun y hy => by cases hy), _, List.mem_cons_self, ρ, fun _ _ => rfl, ax_px hE (by decide) (fun y hy => ?_)⟩
  cases List.mem_singleton.mp hy
  refine (ax_XF_lt (x := 95) (by decide)).mpr ?_
  show pz95 (pz_gt (ρ 0)) (pz_gN (ρ 0)) ((ρ 1) / 4)
  have kd : ρ 2 / 4 = pz_kd (pz_gt (ρ 0)) (pz_gN (ρ 0)) (pz_p (pz_cf (pz_gt (ρ 0)) (pz_gN (ρ 0)) (ρ 1 / 4))) := F50.2.2.1
  exact ⟨by omega, by omega, by omega⟩

theorem axq_rp8d_6 : ax_RO ax_wC ax_XC axu_rp8d_6 := by
  intro ρ hp hE hT
  have j0 : ρ 0 % 4 = 1 := pz_gj hE 0 (by decide) rfl
  have j1 : ρ 1 % 4 = 1 := pz_gj hE 1 (by decide) rfl
  obtain ⟨i2a, i2b, i2c, i2d⟩ := pz_gi hE 2 2147483696 4294967295 (by decide) rfl
  have c_kind : ay_at hp 8 7 = some (ρ 2) := ay_gfj hE 42 28 11 8 7 (by decide) (by rw [ax_vl_c (by decide)]) (by rw [ax_vl_c (by decide)])
  obtain ⟨-, -, -, -, F50⟩ : ay_ex hp 8 ∧ ay_ex hp 10 ∧ ay_ex hp 11 ∧ ay_ex hp 12 ∧ pz_x50 (ρ 0) (ρ 1) (ay_at hp 8 5) (ay_at hp 8 6) (ay_at hp 8 7) (ay_at hp 8 8) (ay_at hp 10 0) (ay_at hp 10 1) (ay_at hp 10 2) (ay_at hp 10 3) (ay_at hp 10 4) (ay_at hp 8 9) (ay_at hp 8 11) (ay_at hp 8 10) (ay_at hp 8 3) (ay_at hp 8 4) (ay_at hp 11) (ay_at hp 12) := (ax_XF_lt (by decide)).mp (ax_gx hE (50, [3, 7]) (by decide))
  rw [c_kind] at F50
  refine ⟨(fun y hy => by cases hy), _, List.mem_cons_self, ρ, fun _ _ => rfl, ax_px hE (by decide) (fun y hy => ?_)⟩
  cases List.mem_singleton.mp hy
  refine (ax_XF_lt (x := 95) (by decide)).mpr ?_
  show pz95 (pz_gt (ρ 0)) (pz_gN (ρ 0)) ((ρ 1) / 4)
  have kd : ρ 2 / 4 = pz_kd (pz_gt (ρ 0)) (pz_gN (ρ 0)) (pz_p (pz_cf (pz_gt (ρ 0)) (pz_gN (ρ 0)) (ρ 1 / 4))) := F50.2.2.1
  exact ⟨by omega, by omega, by omega⟩

theorem axq_rq2_0 : ax_RO ax_wC ax_XC axu_rq2_0 := by
  intro ρ hp hE hT
  have j0 : ρ 0 % 4 = 1 := pz_gj hE 0 (by decide) rfl
  have j1 : ρ 1 % 4 = 1 := pz_gj hE 1 (by decide) rfl
  obtain ⟨-, -, -, -, F50⟩ : ay_ex hp 8 ∧ ay_ex hp 10 ∧ ay_ex hp 11 ∧ ay_ex hp 12 ∧ pz_x50 (ρ 0) (ρ 1) (ay_at hp 8 5) (ay_at hp 8 6) (ay_at hp 8 7) (ay_at hp 8 8) (ay_at hp 10 0) (ay_at hp 10 1) (ay_at hp 10 2) (ay_at hp 10 3) (ay_at hp 10 4) (ay_at hp 8 9) (ay_at hp 8 11) (ay_at hp 8 10) (ay_at hp 8 3) (ay_at hp 8 4) (ay_at hp 11) (ay_at hp 12) := (ax_XF_lt (by decide)).mp (ax_gx hE (50, [3, 7]) (by decide))
  refine ⟨(fun y hy => by cases hy), _, List.mem_cons_self, ρ, fun _ _ => rfl, ax_px hE (by decide) (fun y hy => ?_)⟩
  cases List.mem_singleton.mp hy
  refine (ax_XF_lt (x := 97) (by decide)).mpr ?_
  show (0) / 4 ≤ (ρ 1) / 4
  exact Nat.zero_le _

theorem axq_rq3c43_0 : ax_RO ax_wC ax_XC axu_rq3c43_0 := by
  intro ρ hp hE hT
  have j0 : ρ 0 % 4 = 1 := pz_gj hE 0 (by decide) rfl
  have j1 : ρ 1 % 4 = 1 := pz_gj hE 1 (by decide) rfl
  have j2 : ρ 2 % 4 = 1 := pz_gj hE 2 (by decide) rfl
  obtain ⟨i3a, i3b, i3c, i3d⟩ := pz_gi hE 3 2147483691 2147483691 (by decide) rfl
  have j4 : ρ 4 % 4 = 1 := pz_gj hE 4 (by decide) rfl
  have c_kind : ay_at hp 8 7 = some (ρ 3) := ay_gfj hE 42 28 15 8 7 (by decide) (by rw [ax_vl_c (by decide)]) (by rw [ax_vl_c (by decide)])
  have o1 : ρ 4 < ρ 1 := pz_go hE 19 7 (by decide)
  obtain ⟨-, -, -, -, F50⟩ : ay_ex hp 8 ∧ ay_ex hp 10 ∧ ay_ex hp 11 ∧ ay_ex hp 12 ∧ pz_x50 (ρ 0) (ρ 1) (ay_at hp 8 5) (ay_at hp 8 6) (ay_at hp 8 7) (ay_at hp 8 8) (ay_at hp 10 0) (ay_at hp 10 1) (ay_at hp 10 2) (ay_at hp 10 3) (ay_at hp 10 4) (ay_at hp 8 9) (ay_at hp 8 11) (ay_at hp 8 10) (ay_at hp 8 3) (ay_at hp 8 4) (ay_at hp 11) (ay_at hp 12) := (ax_XF_lt (by decide)).mp (ax_gx hE (50, [3, 7]) (by decide))
  rw [c_kind] at F50
  have F79 : pz7 (pz_gt (ρ 0)) (pz_gN (ρ 0)) ((ρ 1) / 4) 9 := (ax_XF_lt (by decide)).mp (ax_gx hE (79, [3, 7]) (by decide))
  have F90 : (pz90 (pz_gt (ρ 0)) (pz_gN (ρ 0)) ((ρ 1) / 4) ((ρ 2) / 4) ∧ 1 ≤ (ρ 2) / 4) := (ax_XF_lt (by decide)).mp (ax_gx hE (90, [3, 7, 11]) (by decide))
  have st := pq_op F50 F79 F90.1 (show pz_op (ρ 3 / 4) = true by rw [show ρ 3 / 4 = 43 by omega]; rfl)
  obtain ⟨ρ', h1, h2⟩ := pz_pn1 (K := ρ 1 / 4 + 1) (xf := [(53, [3, 23]), (78, [3, 23]), (90, [3, 23, 11]), (1030, [7, 23]), (98, [7, 23]), (1030, [19, 23])]) hE (by decide) (fun ρ' h1 h2 x hx => by
    have q0 : ρ' 0 = ρ 0 := h1 0 (by decide)
    have q1 : ρ' 1 = ρ 1 := h1 1 (by decide)
    have q2 : ρ' 2 = ρ 2 := h1 2 (by decide)
    have q3 : ρ' 3 = ρ 3 := h1 3 (by decide)
    have q4 : ρ' 4 = ρ 4 := h1 4 (by decide)
    rcases List.mem_cons.mp hx with e | hx
    · subst e
      refine (ax_XF_lt (x := 53) (by decide)).mpr ?_
      show ay_ex hp 8 ∧ ay_ex hp 10 ∧ ay_ex hp 11 ∧ ay_ex hp 12 ∧ pz_x53 (ρ' 0) (ρ' 5) (ay_at hp 8 5) (ay_at hp 10 0) (ay_at hp 10 1) (ay_at hp 10 2) (ay_at hp 10 3) (ay_at hp 10 4) (ay_at hp 8 9) (ay_at hp 8 11) (ay_at hp 8 10) (ay_at hp 8 3) (ay_at hp 8 4) (ay_at hp 11) (ay_at hp 12)
      rw [q0, h2]
      exact ⟨(ax_cellT hT (q := 8) (g := 2) rfl), (ax_cellT hT (q := 10) (g := 1) rfl), (ax_cellT hT (q := 11) (g := 14) rfl), (ax_cellT hT (q := 12) (g := 15) rfl), pz_53 (pz_41 _) rfl st.1⟩
    rcases List.mem_cons.mp hx with e | hx
    · subst e
      refine (ax_XF_lt (x := 78) (by decide)).mpr ?_
      show pz7 (pz_gt (ρ' 0)) (pz_gN (ρ' 0)) ((ρ' 5) / 4) 8
      rw [q0, h2]
      rw [pz_41]
      exact st.2.1
    rcases List.mem_cons.mp hx with e | hx
    · subst e
      refine (ax_XF_lt (x := 90) (by decide)).mpr ?_
      show (pz90 (pz_gt (ρ' 0)) (pz_gN (ρ' 0)) ((ρ' 5) / 4) ((ρ' 2) / 4) ∧ 1 ≤ (ρ' 2) / 4)
      rw [q0, q2, h2]
      rw [pz_41]
      exact ⟨st.2.2, F90.2⟩
    rcases List.mem_cons.mp hx with e | hx
    · subst e
      refine (ax_XF_bi (o := 30) (by decide)).mpr (Or.inr ⟨rfl, ?_⟩)
      show ρ' 1 < ρ' 5
      rw [q1, h2]
      omega
    rcases List.mem_cons.mp hx with e | hx
    · subst e
      refine (ax_XF_lt (x := 98) (by decide)).mpr ?_
      show (ρ' 5) / 4 = (ρ' 1) / 4 + 1
      rw [q1, h2]
      rw [pz_41]
    cases List.mem_singleton.mp hx
    refine (ax_XF_bi (o := 30) (by decide)).mpr (Or.inr ⟨rfl, ?_⟩)
    show ρ' 4 < ρ' 5
    rw [q4, h2]
    omega)
  exact ⟨(fun y hy => by cases hy), _, List.mem_cons_self, ρ', h1, h2⟩

theorem axq_rq3c45_0 : ax_RO ax_wC ax_XC axu_rq3c45_0 := by
  intro ρ hp hE hT
  have j0 : ρ 0 % 4 = 1 := pz_gj hE 0 (by decide) rfl
  have j1 : ρ 1 % 4 = 1 := pz_gj hE 1 (by decide) rfl
  have j2 : ρ 2 % 4 = 1 := pz_gj hE 2 (by decide) rfl
  obtain ⟨i3a, i3b, i3c, i3d⟩ := pz_gi hE 3 2147483693 2147483693 (by decide) rfl
  have j4 : ρ 4 % 4 = 1 := pz_gj hE 4 (by decide) rfl
  have c_kind : ay_at hp 8 7 = some (ρ 3) := ay_gfj hE 42 28 15 8 7 (by decide) (by rw [ax_vl_c (by decide)]) (by rw [ax_vl_c (by decide)])
  have o1 : ρ 4 < ρ 1 := pz_go hE 19 7 (by decide)
  obtain ⟨-, -, -, -, F50⟩ : ay_ex hp 8 ∧ ay_ex hp 10 ∧ ay_ex hp 11 ∧ ay_ex hp 12 ∧ pz_x50 (ρ 0) (ρ 1) (ay_at hp 8 5) (ay_at hp 8 6) (ay_at hp 8 7) (ay_at hp 8 8) (ay_at hp 10 0) (ay_at hp 10 1) (ay_at hp 10 2) (ay_at hp 10 3) (ay_at hp 10 4) (ay_at hp 8 9) (ay_at hp 8 11) (ay_at hp 8 10) (ay_at hp 8 3) (ay_at hp 8 4) (ay_at hp 11) (ay_at hp 12) := (ax_XF_lt (by decide)).mp (ax_gx hE (50, [3, 7]) (by decide))
  rw [c_kind] at F50
  have F79 : pz7 (pz_gt (ρ 0)) (pz_gN (ρ 0)) ((ρ 1) / 4) 9 := (ax_XF_lt (by decide)).mp (ax_gx hE (79, [3, 7]) (by decide))
  have F90 : (pz90 (pz_gt (ρ 0)) (pz_gN (ρ 0)) ((ρ 1) / 4) ((ρ 2) / 4) ∧ 1 ≤ (ρ 2) / 4) := (ax_XF_lt (by decide)).mp (ax_gx hE (90, [3, 7, 11]) (by decide))
  have st := pq_op F50 F79 F90.1 (show pz_op (ρ 3 / 4) = true by rw [show ρ 3 / 4 = 45 by omega]; rfl)
  obtain ⟨ρ', h1, h2⟩ := pz_pn1 (K := ρ 1 / 4 + 1) (xf := [(53, [3, 23]), (78, [3, 23]), (90, [3, 23, 11]), (1030, [7, 23]), (98, [7, 23]), (1030, [19, 23])]) hE (by decide) (fun ρ' h1 h2 x hx => by
    have q0 : ρ' 0 = ρ 0 := h1 0 (by decide)
    have q1 : ρ' 1 = ρ 1 := h1 1 (by decide)
    have q2 : ρ' 2 = ρ 2 := h1 2 (by decide)
    have q3 : ρ' 3 = ρ 3 := h1 3 (by decide)
    have q4 : ρ' 4 = ρ 4 := h1 4 (by decide)
    rcases List.mem_cons.mp hx with e | hx
    · subst e
      refine (ax_XF_lt (x := 53) (by decide)).mpr ?_
      show ay_ex hp 8 ∧ ay_ex hp 10 ∧ ay_ex hp 11 ∧ ay_ex hp 12 ∧ pz_x53 (ρ' 0) (ρ' 5) (ay_at hp 8 5) (ay_at hp 10 0) (ay_at hp 10 1) (ay_at hp 10 2) (ay_at hp 10 3) (ay_at hp 10 4) (ay_at hp 8 9) (ay_at hp 8 11) (ay_at hp 8 10) (ay_at hp 8 3) (ay_at hp 8 4) (ay_at hp 11) (ay_at hp 12)
      rw [q0, h2]
      exact ⟨(ax_cellT hT (q := 8) (g := 2) rfl), (ax_cellT hT (q := 10) (g := 1) rfl), (ax_cellT hT (q := 11) (g := 14) rfl), (ax_cellT hT (q := 12) (g := 15) rfl), pz_53 (pz_41 _) rfl st.1⟩
    rcases List.mem_cons.mp hx with e | hx
    · subst e
      refine (ax_XF_lt (x := 78) (by decide)).mpr ?_
      show pz7 (pz_gt (ρ' 0)) (pz_gN (ρ' 0)) ((ρ' 5) / 4) 8
      rw [q0, h2]
      rw [pz_41]
      exact st.2.1
    rcases List.mem_cons.mp hx with e | hx
    · subst e
      refine (ax_XF_lt (x := 90) (by decide)).mpr ?_
      show (pz90 (pz_gt (ρ' 0)) (pz_gN (ρ' 0)) ((ρ' 5) / 4) ((ρ' 2) / 4) ∧ 1 ≤ (ρ' 2) / 4)
      rw [q0, q2, h2]
      rw [pz_41]
      exact ⟨st.2.2, F90.2⟩
    rcases List.mem_cons.mp hx with e | hx
    · subst e
      refine (ax_XF_bi (o := 30) (by decide)).mpr (Or.inr ⟨rfl, ?_⟩)
      show ρ' 1 < ρ' 5
      rw [q1, h2]
      omega
    rcases List.mem_cons.mp hx with e | hx
    · subst e
      refine (ax_XF_lt (x := 98) (by decide)).mpr ?_
      show (ρ' 5) / 4 = (ρ' 1) / 4 + 1
      rw [q1, h2]
      rw [pz_41]
    cases List.mem_singleton.mp hx
    refine (ax_XF_bi (o := 30) (by decide)).mpr (Or.inr ⟨rfl, ?_⟩)
    show ρ' 4 < ρ' 5
    rw [q4, h2]
    omega)
  exact ⟨(fun y hy => by cases hy), _, List.mem_cons_self, ρ', h1, h2⟩

theorem axq_rq5_0 : ax_RO ax_wC ax_XC axu_rq5_0 := by
  intro ρ hp hE hT
  have j0 : ρ 0 % 4 = 1 := pz_gj hE 0 (by decide) rfl
  have j1 : ρ 1 % 4 = 1 := pz_gj hE 1 (by decide) rfl
  have j2 : ρ 2 % 4 = 1 := pz_gj hE 2 (by decide) rfl
  have j3 : ρ 3 % 4 = 1 := pz_gj hE 3 (by decide) rfl
  have j4 : ρ 4 % 4 = 1 := pz_gj hE 4 (by decide) rfl
  have o1 : ρ 2 < ρ 1 := pz_go hE 11 7 (by decide)
  have o2 : ρ 3 < ρ 2 := pz_go hE 15 11 (by decide)
  have o3 : ρ 4 < ρ 3 := pz_go hE 19 15 (by decide)
  obtain ⟨-, -, -, -, F50⟩ : ay_ex hp 8 ∧ ay_ex hp 10 ∧ ay_ex hp 11 ∧ ay_ex hp 12 ∧ pz_x50 (ρ 0) (ρ 1) (ay_at hp 8 5) (ay_at hp 8 6) (ay_at hp 8 7) (ay_at hp 8 8) (ay_at hp 10 0) (ay_at hp 10 1) (ay_at hp 10 2) (ay_at hp 10 3) (ay_at hp 10 4) (ay_at hp 8 9) (ay_at hp 8 11) (ay_at hp 8 10) (ay_at hp 8 3) (ay_at hp 8 4) (ay_at hp 11) (ay_at hp 12) := (ax_XF_lt (by decide)).mp (ax_gx hE (50, [3, 7]) (by decide))
  refine ⟨(fun y hy => by cases hy), _, List.mem_cons_self, ρ, fun _ _ => rfl, ax_px hE (by decide) (fun y hy => ?_)⟩
  rcases List.mem_cons.mp hy with e | hy
  · subst e
    refine (ax_XF_bi (o := 30) (by decide)).mpr (Or.inr ⟨rfl, ?_⟩)
    show ρ 4 < ρ 1
    omega
  cases List.mem_singleton.mp hy
  refine (ax_XF_bi (o := 30) (by decide)).mpr (Or.inr ⟨rfl, ?_⟩)
  show ρ 3 < ρ 1
  omega

theorem axq_rq6_0 : ax_RO ax_wC ax_XC axu_rq6_0 := by
  intro ρ hp hE hT
  have j0 : ρ 0 % 4 = 1 := pz_gj hE 0 (by decide) rfl
  have j1 : ρ 1 % 4 = 1 := pz_gj hE 1 (by decide) rfl
  have j2 : ρ 2 % 4 = 1 := pz_gj hE 2 (by decide) rfl
  obtain ⟨i3a, i3b, i3c, i3d⟩ := pz_gi hE 3 2147483648 2147484447 (by decide) rfl
  obtain ⟨i4a, i4b, i4c, i4d⟩ := pz_gi hE 4 0 4294967295 (by decide) rfl
  have s1 : (ρ 3 / 4 + 2147483648) % 4294967296 + (4 / 4 + 2147483648) % 4294967296 = (ρ 4 / 4 + 2147483648) % 4294967296 + 2147483648 := pz_gs hE 15 4 19 (by decide)
  have o1 : ρ 2 < ρ 1 := pz_go hE 11 7 (by decide)
  obtain ⟨-, -, -, -, F50⟩ : ay_ex hp 8 ∧ ay_ex hp 10 ∧ ay_ex hp 11 ∧ ay_ex hp 12 ∧ pz_x50 (ρ 0) (ρ 1) (ay_at hp 8 5) (ay_at hp 8 6) (ay_at hp 8 7) (ay_at hp 8 8) (ay_at hp 10 0) (ay_at hp 10 1) (ay_at hp 10 2) (ay_at hp 10 3) (ay_at hp 10 4) (ay_at hp 8 9) (ay_at hp 8 11) (ay_at hp 8 10) (ay_at hp 8 3) (ay_at hp 8 4) (ay_at hp 11) (ay_at hp 12) := (ax_XF_lt (by decide)).mp (ax_gx hE (50, [3, 7]) (by decide))
  have F97 : (ρ 3) / 4 ≤ (ρ 2) / 4 := (ax_XF_lt (by decide)).mp (ax_gx hE (97, [11, 15]) (by decide))
  refine ⟨(fun y hy => by cases hy), _, List.mem_cons_self, ρ, fun _ _ => rfl, ax_px hE (by decide) (fun y hy => ?_)⟩
  cases List.mem_singleton.mp hy
  refine (ax_XF_lt (x := 97) (by decide)).mpr ?_
  show (ρ 4) / 4 ≤ (ρ 1) / 4
  omega

theorem axq_rq7_0 : ax_RO ax_wC ax_XC axu_rq7_0 := by
  intro ρ hp hE hT
  have j0 : ρ 0 % 4 = 1 := pz_gj hE 0 (by decide) rfl
  have j1 : ρ 1 % 4 = 1 := pz_gj hE 1 (by decide) rfl
  obtain ⟨i2a, i2b, i2c, i2d⟩ := pz_gi hE 2 2147484448 2147484448 (by decide) rfl
  obtain ⟨-, -, F30⟩ : ay_ex hp 8 ∧ ay_ex hp 9 ∧ pz_x30 (ρ 0) (ay_at hp 8 1) (ay_at hp 9) := (ax_XF_lt (by decide)).mp (ax_gx hE (30, [3]) (by decide))
  obtain ⟨-, -, -, -, F50⟩ : ay_ex hp 8 ∧ ay_ex hp 10 ∧ ay_ex hp 11 ∧ ay_ex hp 12 ∧ pz_x50 (ρ 0) (ρ 1) (ay_at hp 8 5) (ay_at hp 8 6) (ay_at hp 8 7) (ay_at hp 8 8) (ay_at hp 10 0) (ay_at hp 10 1) (ay_at hp 10 2) (ay_at hp 10 3) (ay_at hp 10 4) (ay_at hp 8 9) (ay_at hp 8 11) (ay_at hp 8 10) (ay_at hp 8 3) (ay_at hp 8 4) (ay_at hp 11) (ay_at hp 12) := (ax_XF_lt (by decide)).mp (ax_gx hE (50, [3, 7]) (by decide))
  have F79 : pz7 (pz_gt (ρ 0)) (pz_gN (ρ 0)) ((ρ 1) / 4) 9 := (ax_XF_lt (by decide)).mp (ax_gx hE (79, [3, 7]) (by decide))
  have F97 : (ρ 2) / 4 ≤ (ρ 1) / 4 := (ax_XF_lt (by decide)).mp (ax_gx hE (97, [7, 11]) (by decide))
  refine ⟨(fun y hy => by cases hy), _, List.mem_cons_self, ρ, fun _ _ => rfl, ax_px hE (by decide) (fun y hy => ?_)⟩
  cases List.mem_singleton.mp hy
  refine (ax_XF_lt (x := 94) (by decide)).mpr ?_
  show pz94 (pz_gt (ρ 0)) (pz_gN (ρ 0)) ((ρ 1) / 4)
  have kd := pq_far (n := ρ 1 / 4) F79 (by decide) (show pz_gN (ρ 0) ≤ 800 from F30.2.1) (by omega)
  show pz_op (pz_kd (pz_gt (ρ 0)) (pz_gN (ρ 0)) (pz_p (pz_cf (pz_gt (ρ 0)) (pz_gN (ρ 0)) (ρ 1 / 4)))) = false
  rw [kd]
  rfl

theorem axq_rq8a_0 : ax_RO ax_wC ax_XC axu_rq8a_0 := by
  intro ρ hp hE hT
  have j0 : ρ 0 % 4 = 1 := pz_gj hE 0 (by decide) rfl
  have j1 : ρ 1 % 4 = 1 := pz_gj hE 1 (by decide) rfl
  obtain ⟨i2a, i2b, i2c, i2d⟩ := pz_gi hE 2 0 2147483690 (by decide) rfl
  have c_kind : ay_at hp 8 7 = some (ρ 2) := ay_gfj hE 42 28 11 8 7 (by decide) (by rw [ax_vl_c (by decide)]) (by rw [ax_vl_c (by decide)])
  obtain ⟨-, -, -, -, F50⟩ : ay_ex hp 8 ∧ ay_ex hp 10 ∧ ay_ex hp 11 ∧ ay_ex hp 12 ∧ pz_x50 (ρ 0) (ρ 1) (ay_at hp 8 5) (ay_at hp 8 6) (ay_at hp 8 7) (ay_at hp 8 8) (ay_at hp 10 0) (ay_at hp 10 1) (ay_at hp 10 2) (ay_at hp 10 3) (ay_at hp 10 4) (ay_at hp 8 9) (ay_at hp 8 11) (ay_at hp 8 10) (ay_at hp 8 3) (ay_at hp 8 4) (ay_at hp 11) (ay_at hp 12) := (ax_XF_lt (by decide)).mp (ax_gx hE (50, [3, 7]) (by decide))
  rw [c_kind] at F50
  have F95 : pz95 (pz_gt (ρ 0)) (pz_gN (ρ 0)) ((ρ 1) / 4) := (ax_XF_lt (by decide)).mp (ax_gx hE (95, [3, 7]) (by decide))
  refine ⟨(fun y hy => by cases hy), _, List.mem_cons_self, ρ, fun _ _ => rfl, ax_px hE (by decide) (fun y hy => ?_)⟩
  cases List.mem_singleton.mp hy
  refine (ax_XF_lt (x := 94) (by decide)).mpr ?_
  show pz94 (pz_gt (ρ 0)) (pz_gN (ρ 0)) ((ρ 1) / 4)
  have kd : ρ 2 / 4 = pz_kd (pz_gt (ρ 0)) (pz_gN (ρ 0)) (pz_p (pz_cf (pz_gt (ρ 0)) (pz_gN (ρ 0)) (ρ 1 / 4))) := F50.2.2.1
  exact pz_op_no (by omega) (by omega) F95

theorem axq_rq8b_0 : ax_RO ax_wC ax_XC axu_rq8b_0 := by
  intro ρ hp hE hT
  have j0 : ρ 0 % 4 = 1 := pz_gj hE 0 (by decide) rfl
  have j1 : ρ 1 % 4 = 1 := pz_gj hE 1 (by decide) rfl
  obtain ⟨i2a, i2b, i2c, i2d⟩ := pz_gi hE 2 2147483692 2147483692 (by decide) rfl
  have c_kind : ay_at hp 8 7 = some (ρ 2) := ay_gfj hE 42 28 11 8 7 (by decide) (by rw [ax_vl_c (by decide)]) (by rw [ax_vl_c (by decide)])
  obtain ⟨-, -, -, -, F50⟩ : ay_ex hp 8 ∧ ay_ex hp 10 ∧ ay_ex hp 11 ∧ ay_ex hp 12 ∧ pz_x50 (ρ 0) (ρ 1) (ay_at hp 8 5) (ay_at hp 8 6) (ay_at hp 8 7) (ay_at hp 8 8) (ay_at hp 10 0) (ay_at hp 10 1) (ay_at hp 10 2) (ay_at hp 10 3) (ay_at hp 10 4) (ay_at hp 8 9) (ay_at hp 8 11) (ay_at hp 8 10) (ay_at hp 8 3) (ay_at hp 8 4) (ay_at hp 11) (ay_at hp 12) := (ax_XF_lt (by decide)).mp (ax_gx hE (50, [3, 7]) (by decide))
  rw [c_kind] at F50
  have F95 : pz95 (pz_gt (ρ 0)) (pz_gN (ρ 0)) ((ρ 1) / 4) := (ax_XF_lt (by decide)).mp (ax_gx hE (95, [3, 7]) (by decide))
  refine ⟨(fun y hy => by cases hy), _, List.mem_cons_self, ρ, fun _ _ => rfl, ax_px hE (by decide) (fun y hy => ?_)⟩
  cases List.mem_singleton.mp hy
  refine (ax_XF_lt (x := 94) (by decide)).mpr ?_
  show pz94 (pz_gt (ρ 0)) (pz_gN (ρ 0)) ((ρ 1) / 4)
  have kd : ρ 2 / 4 = pz_kd (pz_gt (ρ 0)) (pz_gN (ρ 0)) (pz_p (pz_cf (pz_gt (ρ 0)) (pz_gN (ρ 0)) (ρ 1 / 4))) := F50.2.2.1
  exact pz_op_no (by omega) (by omega) F95

theorem axq_rq8c_0 : ax_RO ax_wC ax_XC axu_rq8c_0 := by
  intro ρ hp hE hT
  have j0 : ρ 0 % 4 = 1 := pz_gj hE 0 (by decide) rfl
  have j1 : ρ 1 % 4 = 1 := pz_gj hE 1 (by decide) rfl
  obtain ⟨i2a, i2b, i2c, i2d⟩ := pz_gi hE 2 2147483694 4294967295 (by decide) rfl
  have c_kind : ay_at hp 8 7 = some (ρ 2) := ay_gfj hE 42 28 11 8 7 (by decide) (by rw [ax_vl_c (by decide)]) (by rw [ax_vl_c (by decide)])
  obtain ⟨-, -, -, -, F50⟩ : ay_ex hp 8 ∧ ay_ex hp 10 ∧ ay_ex hp 11 ∧ ay_ex hp 12 ∧ pz_x50 (ρ 0) (ρ 1) (ay_at hp 8 5) (ay_at hp 8 6) (ay_at hp 8 7) (ay_at hp 8 8) (ay_at hp 10 0) (ay_at hp 10 1) (ay_at hp 10 2) (ay_at hp 10 3) (ay_at hp 10 4) (ay_at hp 8 9) (ay_at hp 8 11) (ay_at hp 8 10) (ay_at hp 8 3) (ay_at hp 8 4) (ay_at hp 11) (ay_at hp 12) := (ax_XF_lt (by decide)).mp (ax_gx hE (50, [3, 7]) (by decide))
  rw [c_kind] at F50
  have F95 : pz95 (pz_gt (ρ 0)) (pz_gN (ρ 0)) ((ρ 1) / 4) := (ax_XF_lt (by decide)).mp (ax_gx hE (95, [3, 7]) (by decide))
  refine ⟨(fun y hy => by cases hy), _, List.mem_cons_self, ρ, fun _ _ => rfl, ax_px hE (by decide) (fun y hy => ?_)⟩
  cases List.mem_singleton.mp hy
  refine (ax_XF_lt (x := 94) (by decide)).mpr ?_
  show pz94 (pz_gt (ρ 0)) (pz_gN (ρ 0)) ((ρ 1) / 4)
  have kd : ρ 2 / 4 = pz_kd (pz_gt (ρ 0)) (pz_gN (ρ 0)) (pz_p (pz_cf (pz_gt (ρ 0)) (pz_gN (ρ 0)) (ρ 1 / 4))) := F50.2.2.1
  exact pz_op_no (by omega) (by omega) F95

theorem axq_rq2_1 : ax_RO ax_wC ax_XC axu_rq2_1 := by
  intro ρ hp hE hT
  have j0 : ρ 0 % 4 = 1 := pz_gj hE 0 (by decide) rfl
  have j1 : ρ 1 % 4 = 1 := pz_gj hE 1 (by decide) rfl
  obtain ⟨-, -, -, -, F50⟩ : ay_ex hp 8 ∧ ay_ex hp 10 ∧ ay_ex hp 11 ∧ ay_ex hp 12 ∧ pz_x50 (ρ 0) (ρ 1) (ay_at hp 8 5) (ay_at hp 8 6) (ay_at hp 8 7) (ay_at hp 8 8) (ay_at hp 10 0) (ay_at hp 10 1) (ay_at hp 10 2) (ay_at hp 10 3) (ay_at hp 10 4) (ay_at hp 8 9) (ay_at hp 8 11) (ay_at hp 8 10) (ay_at hp 8 3) (ay_at hp 8 4) (ay_at hp 11) (ay_at hp 12) := (ax_XF_lt (by decide)).mp (ax_gx hE (50, [3, 7]) (by decide))
  refine ⟨(fun y hy => by cases hy), _, List.mem_cons_self, ρ, fun _ _ => rfl, ax_px hE (by decide) (fun y hy => ?_)⟩
  cases List.mem_singleton.mp hy
  refine (ax_XF_lt (x := 97) (by decide)).mpr ?_
  show (0) / 4 ≤ (ρ 1) / 4
  exact Nat.zero_le _

theorem axq_rq3c43_1 : ax_RO ax_wC ax_XC axu_rq3c43_1 := by
  intro ρ hp hE hT
  have j0 : ρ 0 % 4 = 1 := pz_gj hE 0 (by decide) rfl
  have j1 : ρ 1 % 4 = 1 := pz_gj hE 1 (by decide) rfl
  have j2 : ρ 2 % 4 = 1 := pz_gj hE 2 (by decide) rfl
  obtain ⟨i3a, i3b, i3c, i3d⟩ := pz_gi hE 3 2147483691 2147483691 (by decide) rfl
  have j4 : ρ 4 % 4 = 1 := pz_gj hE 4 (by decide) rfl
  have c_kind : ay_at hp 8 7 = some (ρ 3) := ay_gfj hE 42 28 15 8 7 (by decide) (by rw [ax_vl_c (by decide)]) (by rw [ax_vl_c (by decide)])
  have o1 : ρ 4 < ρ 1 := pz_go hE 19 7 (by decide)
  obtain ⟨-, -, -, -, F50⟩ : ay_ex hp 8 ∧ ay_ex hp 10 ∧ ay_ex hp 11 ∧ ay_ex hp 12 ∧ pz_x50 (ρ 0) (ρ 1) (ay_at hp 8 5) (ay_at hp 8 6) (ay_at hp 8 7) (ay_at hp 8 8) (ay_at hp 10 0) (ay_at hp 10 1) (ay_at hp 10 2) (ay_at hp 10 3) (ay_at hp 10 4) (ay_at hp 8 9) (ay_at hp 8 11) (ay_at hp 8 10) (ay_at hp 8 3) (ay_at hp 8 4) (ay_at hp 11) (ay_at hp 12) := (ax_XF_lt (by decide)).mp (ax_gx hE (50, [3, 7]) (by decide))
  rw [c_kind] at F50
  have F79 : pz7 (pz_gt (ρ 0)) (pz_gN (ρ 0)) ((ρ 1) / 4) 9 := (ax_XF_lt (by decide)).mp (ax_gx hE (79, [3, 7]) (by decide))
  have F90 : (pz90 (pz_gt (ρ 0)) (pz_gN (ρ 0)) ((ρ 1) / 4) ((ρ 2) / 4) ∧ 1 ≤ (ρ 2) / 4) := (ax_XF_lt (by decide)).mp (ax_gx hE (90, [3, 7, 11]) (by decide))
  have st := pq_op F50 F79 F90.1 (show pz_op (ρ 3 / 4) = true by rw [show ρ 3 / 4 = 43 by omega]; rfl)
  obtain ⟨ρ', h1, h2⟩ := pz_pn1 (K := ρ 1 / 4 + 1) (xf := [(53, [3, 23]), (78, [3, 23]), (90, [3, 23, 11]), (1030, [7, 23]), (98, [7, 23]), (1030, [19, 23])]) hE (by decide) (fun ρ' h1 h2 x hx => by
    have q0 : ρ' 0 = ρ 0 := h1 0 (by decide)
    have q1 : ρ' 1 = ρ 1 := h1 1 (by decide)
    have q2 : ρ' 2 = ρ 2 := h1 2 (by decide)
    have q3 : ρ' 3 = ρ 3 := h1 3 (by decide)
    have q4 : ρ' 4 = ρ 4 := h1 4 (by decide)
    rcases List.mem_cons.mp hx with e | hx
    · subst e
      refine (ax_XF_lt (x := 53) (by decide)).mpr ?_
      show ay_ex hp 8 ∧ ay_ex hp 10 ∧ ay_ex hp 11 ∧ ay_ex hp 12 ∧ pz_x53 (ρ' 0) (ρ' 5) (ay_at hp 8 5) (ay_at hp 10 0) (ay_at hp 10 1) (ay_at hp 10 2) (ay_at hp 10 3) (ay_at hp 10 4) (ay_at hp 8 9) (ay_at hp 8 11) (ay_at hp 8 10) (ay_at hp 8 3) (ay_at hp 8 4) (ay_at hp 11) (ay_at hp 12)
      rw [q0, h2]
      exact ⟨(ax_cellT hT (q := 8) (g := 2) rfl), (ax_cellT hT (q := 10) (g := 1) rfl), (ax_cellT hT (q := 11) (g := 14) rfl), (ax_cellT hT (q := 12) (g := 15) rfl), pz_53 (pz_41 _) rfl st.1⟩
    rcases List.mem_cons.mp hx with e | hx
    · subst e
      refine (ax_XF_lt (x := 78) (by decide)).mpr ?_
      show pz7 (pz_gt (ρ' 0)) (pz_gN (ρ' 0)) ((ρ' 5) / 4) 8
      rw [q0, h2]
      rw [pz_41]
      exact st.2.1
    rcases List.mem_cons.mp hx with e | hx
    · subst e
      refine (ax_XF_lt (x := 90) (by decide)).mpr ?_
      show (pz90 (pz_gt (ρ' 0)) (pz_gN (ρ' 0)) ((ρ' 5) / 4) ((ρ' 2) / 4) ∧ 1 ≤ (ρ' 2) / 4)
      rw [q0, q2, h2]
      rw [pz_41]
      exact ⟨st.2.2, F90.2⟩
    rcases List.mem_cons.mp hx with e | hx
    · subst e
      refine (ax_XF_bi (o := 30) (by decide)).mpr (Or.inr ⟨rfl, ?_⟩)
      show ρ' 1 < ρ' 5
      rw [q1, h2]
      omega
    rcases List.mem_cons.mp hx with e | hx
    · subst e
      refine (ax_XF_lt (x := 98) (by decide)).mpr ?_
      show (ρ' 5) / 4 = (ρ' 1) / 4 + 1
      rw [q1, h2]
      rw [pz_41]
    cases List.mem_singleton.mp hx
    refine (ax_XF_bi (o := 30) (by decide)).mpr (Or.inr ⟨rfl, ?_⟩)
    show ρ' 4 < ρ' 5
    rw [q4, h2]
    omega)
  exact ⟨(fun y hy => by cases hy), _, List.mem_cons_self, ρ', h1, h2⟩

theorem axq_rq3c45_1 : ax_RO ax_wC ax_XC axu_rq3c45_1 := by
  intro ρ hp hE hT
  have j0 : ρ 0 % 4 = 1 := pz_gj hE 0 (by decide) rfl
  have j1 : ρ 1 % 4 = 1 := pz_gj hE 1 (by decide) rfl
  have j2 : ρ 2 % 4 = 1 := pz_gj hE 2 (by decide) rfl
  obtain ⟨i3a, i3b, i3c, i3d⟩ := pz_gi hE 3 2147483693 2147483693 (by decide) rfl
  have j4 : ρ 4 % 4 = 1 := pz_gj hE 4 (by decide) rfl
  have c_kind : ay_at hp 8 7 = some (ρ 3) := ay_gfj hE 42 28 15 8 7 (by decide) (by rw [ax_vl_c (by decide)]) (by rw [ax_vl_c (by decide)])
  have o1 : ρ 4 < ρ 1 := pz_go hE 19 7 (by decide)
  obtain ⟨-, -, -, -, F50⟩ : ay_ex hp 8 ∧ ay_ex hp 10 ∧ ay_ex hp 11 ∧ ay_ex hp 12 ∧ pz_x50 (ρ 0) (ρ 1) (ay_at hp 8 5) (ay_at hp 8 6) (ay_at hp 8 7) (ay_at hp 8 8) (ay_at hp 10 0) (ay_at hp 10 1) (ay_at hp 10 2) (ay_at hp 10 3) (ay_at hp 10 4) (ay_at hp 8 9) (ay_at hp 8 11) (ay_at hp 8 10) (ay_at hp 8 3) (ay_at hp 8 4) (ay_at hp 11) (ay_at hp 12) := (ax_XF_lt (by decide)).mp (ax_gx hE (50, [3, 7]) (by decide))
  rw [c_kind] at F50
  have F79 : pz7 (pz_gt (ρ 0)) (pz_gN (ρ 0)) ((ρ 1) / 4) 9 := (ax_XF_lt (by decide)).mp (ax_gx hE (79, [3, 7]) (by decide))
  have F90 : (pz90 (pz_gt (ρ 0)) (pz_gN (ρ 0)) ((ρ 1) / 4) ((ρ 2) / 4) ∧ 1 ≤ (ρ 2) / 4) := (ax_XF_lt (by decide)).mp (ax_gx hE (90, [3, 7, 11]) (by decide))
  have st := pq_op F50 F79 F90.1 (show pz_op (ρ 3 / 4) = true by rw [show ρ 3 / 4 = 45 by omega]; rfl)
  obtain ⟨ρ', h1, h2⟩ := pz_pn1 (K := ρ 1 / 4 + 1) (xf := [(53, [3, 23]), (78, [3, 23]), (90, [3, 23, 11]), (1030, [7, 23]), (98, [7, 23]), (1030, [19, 23])]) hE (by decide) (fun ρ' h1 h2 x hx => by
    have q0 : ρ' 0 = ρ 0 := h1 0 (by decide)
    have q1 : ρ' 1 = ρ 1 := h1 1 (by decide)
    have q2 : ρ' 2 = ρ 2 := h1 2 (by decide)
    have q3 : ρ' 3 = ρ 3 := h1 3 (by decide)
    have q4 : ρ' 4 = ρ 4 := h1 4 (by decide)
    rcases List.mem_cons.mp hx with e | hx
    · subst e
      refine (ax_XF_lt (x := 53) (by decide)).mpr ?_
      show ay_ex hp 8 ∧ ay_ex hp 10 ∧ ay_ex hp 11 ∧ ay_ex hp 12 ∧ pz_x53 (ρ' 0) (ρ' 5) (ay_at hp 8 5) (ay_at hp 10 0) (ay_at hp 10 1) (ay_at hp 10 2) (ay_at hp 10 3) (ay_at hp 10 4) (ay_at hp 8 9) (ay_at hp 8 11) (ay_at hp 8 10) (ay_at hp 8 3) (ay_at hp 8 4) (ay_at hp 11) (ay_at hp 12)
      rw [q0, h2]
      exact ⟨(ax_cellT hT (q := 8) (g := 2) rfl), (ax_cellT hT (q := 10) (g := 1) rfl), (ax_cellT hT (q := 11) (g := 14) rfl), (ax_cellT hT (q := 12) (g := 15) rfl), pz_53 (pz_41 _) rfl st.1⟩
    rcases List.mem_cons.mp hx with e | hx
    · subst e
      refine (ax_XF_lt (x := 78) (by decide)).mpr ?_
      show pz7 (pz_gt (ρ' 0)) (pz_gN (ρ' 0)) ((ρ' 5) / 4) 8
      rw [q0, h2]
      rw [pz_41]
      exact st.2.1
    rcases List.mem_cons.mp hx with e | hx
    · subst e
      refine (ax_XF_lt (x := 90) (by decide)).mpr ?_
      show (pz90 (pz_gt (ρ' 0)) (pz_gN (ρ' 0)) ((ρ' 5) / 4) ((ρ' 2) / 4) ∧ 1 ≤ (ρ' 2) / 4)
      rw [q0, q2, h2]
      rw [pz_41]
      exact ⟨st.2.2, F90.2⟩
    rcases List.mem_cons.mp hx with e | hx
    · subst e
      refine (ax_XF_bi (o := 30) (by decide)).mpr (Or.inr ⟨rfl, ?_⟩)
      show ρ' 1 < ρ' 5
      rw [q1, h2]
      omega
    rcases List.mem_cons.mp hx with e | hx
    · subst e
      refine (ax_XF_lt (x := 98) (by decide)).mpr ?_
      show (ρ' 5) / 4 = (ρ' 1) / 4 + 1
      rw [q1, h2]
      rw [pz_41]
    cases List.mem_singleton.mp hx
    refine (ax_XF_bi (o := 30) (by decide)).mpr (Or.inr ⟨rfl, ?_⟩)
    show ρ' 4 < ρ' 5
    rw [q4, h2]
    omega)
  exact ⟨(fun y hy => by cases hy), _, List.mem_cons_self, ρ', h1, h2⟩

theorem axq_rq5_1 : ax_RO ax_wC ax_XC axu_rq5_1 := by
  intro ρ hp hE hT
  have j0 : ρ 0 % 4 = 1 := pz_gj hE 0 (by decide) rfl
  have j1 : ρ 1 % 4 = 1 := pz_gj hE 1 (by decide) rfl
  have j2 : ρ 2 % 4 = 1 := pz_gj hE 2 (by decide) rfl
  have j3 : ρ 3 % 4 = 1 := pz_gj hE 3 (by decide) rfl
  have j4 : ρ 4 % 4 = 1 := pz_gj hE 4 (by decide) rfl
  have o1 : ρ 2 < ρ 1 := pz_go hE 11 7 (by decide)
  have o2 : ρ 3 < ρ 2 := pz_go hE 15 11 (by decide)
  have o3 : ρ 4 < ρ 3 := pz_go hE 19 15 (by decide)
  obtain ⟨-, -, -, -, F50⟩ : ay_ex hp 8 ∧ ay_ex hp 10 ∧ ay_ex hp 11 ∧ ay_ex hp 12 ∧ pz_x50 (ρ 0) (ρ 1) (ay_at hp 8 5) (ay_at hp 8 6) (ay_at hp 8 7) (ay_at hp 8 8) (ay_at hp 10 0) (ay_at hp 10 1) (ay_at hp 10 2) (ay_at hp 10 3) (ay_at hp 10 4) (ay_at hp 8 9) (ay_at hp 8 11) (ay_at hp 8 10) (ay_at hp 8 3) (ay_at hp 8 4) (ay_at hp 11) (ay_at hp 12) := (ax_XF_lt (by decide)).mp (ax_gx hE (50, [3, 7]) (by decide))
  refine ⟨(fun y hy => by cases hy), _, List.mem_cons_self, ρ, fun _ _ => rfl, ax_px hE (by decide) (fun y hy => ?_)⟩
  rcases List.mem_cons.mp hy with e | hy
  · subst e
    refine (ax_XF_bi (o := 30) (by decide)).mpr (Or.inr ⟨rfl, ?_⟩)
    show ρ 4 < ρ 1
    omega
  cases List.mem_singleton.mp hy
  refine (ax_XF_bi (o := 30) (by decide)).mpr (Or.inr ⟨rfl, ?_⟩)
  show ρ 3 < ρ 1
  omega

theorem axq_rq6_1 : ax_RO ax_wC ax_XC axu_rq6_1 := by
  intro ρ hp hE hT
  have j0 : ρ 0 % 4 = 1 := pz_gj hE 0 (by decide) rfl
  have j1 : ρ 1 % 4 = 1 := pz_gj hE 1 (by decide) rfl
  have j2 : ρ 2 % 4 = 1 := pz_gj hE 2 (by decide) rfl
  obtain ⟨i3a, i3b, i3c, i3d⟩ := pz_gi hE 3 2147483648 2147484447 (by decide) rfl
  obtain ⟨i4a, i4b, i4c, i4d⟩ := pz_gi hE 4 0 4294967295 (by decide) rfl
  have s1 : (ρ 3 / 4 + 2147483648) % 4294967296 + (4 / 4 + 2147483648) % 4294967296 = (ρ 4 / 4 + 2147483648) % 4294967296 + 2147483648 := pz_gs hE 15 4 19 (by decide)
  have o1 : ρ 2 < ρ 1 := pz_go hE 11 7 (by decide)
  obtain ⟨-, -, -, -, F50⟩ : ay_ex hp 8 ∧ ay_ex hp 10 ∧ ay_ex hp 11 ∧ ay_ex hp 12 ∧ pz_x50 (ρ 0) (ρ 1) (ay_at hp 8 5) (ay_at hp 8 6) (ay_at hp 8 7) (ay_at hp 8 8) (ay_at hp 10 0) (ay_at hp 10 1) (ay_at hp 10 2) (ay_at hp 10 3) (ay_at hp 10 4) (ay_at hp 8 9) (ay_at hp 8 11) (ay_at hp 8 10) (ay_at hp 8 3) (ay_at hp 8 4) (ay_at hp 11) (ay_at hp 12) := (ax_XF_lt (by decide)).mp (ax_gx hE (50, [3, 7]) (by decide))
  have F97 : (ρ 3) / 4 ≤ (ρ 2) / 4 := (ax_XF_lt (by decide)).mp (ax_gx hE (97, [11, 15]) (by decide))
  refine ⟨(fun y hy => by cases hy), _, List.mem_cons_self, ρ, fun _ _ => rfl, ax_px hE (by decide) (fun y hy => ?_)⟩
  cases List.mem_singleton.mp hy
  refine (ax_XF_lt (x := 97) (by decide)).mpr ?_
  show (ρ 4) / 4 ≤ (ρ 1) / 4
  omega

theorem axq_rq7_1 : ax_RO ax_wC ax_XC axu_rq7_1 := by
  intro ρ hp hE hT
  have j0 : ρ 0 % 4 = 1 := pz_gj hE 0 (by decide) rfl
  have j1 : ρ 1 % 4 = 1 := pz_gj hE 1 (by decide) rfl
  obtain ⟨i2a, i2b, i2c, i2d⟩ := pz_gi hE 2 2147484448 2147484448 (by decide) rfl
  obtain ⟨-, -, F30⟩ : ay_ex hp 8 ∧ ay_ex hp 9 ∧ pz_x30 (ρ 0) (ay_at hp 8 1) (ay_at hp 9) := (ax_XF_lt (by decide)).mp (ax_gx hE (30, [3]) (by decide))
  obtain ⟨-, -, -, -, F50⟩ : ay_ex hp 8 ∧ ay_ex hp 10 ∧ ay_ex hp 11 ∧ ay_ex hp 12 ∧ pz_x50 (ρ 0) (ρ 1) (ay_at hp 8 5) (ay_at hp 8 6) (ay_at hp 8 7) (ay_at hp 8 8) (ay_at hp 10 0) (ay_at hp 10 1) (ay_at hp 10 2) (ay_at hp 10 3) (ay_at hp 10 4) (ay_at hp 8 9) (ay_at hp 8 11) (ay_at hp 8 10) (ay_at hp 8 3) (ay_at hp 8 4) (ay_at hp 11) (ay_at hp 12) := (ax_XF_lt (by decide)).mp (ax_gx hE (50, [3, 7]) (by decide))
  have F79 : pz7 (pz_gt (ρ 0)) (pz_gN (ρ 0)) ((ρ 1) / 4) 9 := (ax_XF_lt (by decide)).mp (ax_gx hE (79, [3, 7]) (by decide))
  have F97 : (ρ 2) / 4 ≤ (ρ 1) / 4 := (ax_XF_lt (by decide)).mp (ax_gx hE (97, [7, 11]) (by decide))
  refine ⟨(fun y hy => by cases hy), _, List.mem_cons_self, ρ, fun _ _ => rfl, ax_px hE (by decide) (fun y hy => ?_)⟩
  cases List.mem_singleton.mp hy
  refine (ax_XF_lt (x := 94) (by decide)).mpr ?_
  show pz94 (pz_gt (ρ 0)) (pz_gN (ρ 0)) ((ρ 1) / 4)
  have kd := pq_far (n := ρ 1 / 4) F79 (by decide) (show pz_gN (ρ 0) ≤ 800 from F30.2.1) (by omega)
  show pz_op (pz_kd (pz_gt (ρ 0)) (pz_gN (ρ 0)) (pz_p (pz_cf (pz_gt (ρ 0)) (pz_gN (ρ 0)) (ρ 1 / 4)))) = false
  rw [kd]
  rfl

theorem axq_rq8a_1 : ax_RO ax_wC ax_XC axu_rq8a_1 := by
  intro ρ hp hE hT
  have j0 : ρ 0 % 4 = 1 := pz_gj hE 0 (by decide) rfl
  have j1 : ρ 1 % 4 = 1 := pz_gj hE 1 (by decide) rfl
  obtain ⟨i2a, i2b, i2c, i2d⟩ := pz_gi hE 2 0 2147483690 (by decide) rfl
  have c_kind : ay_at hp 8 7 = some (ρ 2) := ay_gfj hE 42 28 11 8 7 (by decide) (by rw [ax_vl_c (by decide)]) (by rw [ax_vl_c (by decide)])
  obtain ⟨-, -, -, -, F50⟩ : ay_ex hp 8 ∧ ay_ex hp 10 ∧ ay_ex hp 11 ∧ ay_ex hp 12 ∧ pz_x50 (ρ 0) (ρ 1) (ay_at hp 8 5) (ay_at hp 8 6) (ay_at hp 8 7) (ay_at hp 8 8) (ay_at hp 10 0) (ay_at hp 10 1) (ay_at hp 10 2) (ay_at hp 10 3) (ay_at hp 10 4) (ay_at hp 8 9) (ay_at hp 8 11) (ay_at hp 8 10) (ay_at hp 8 3) (ay_at hp 8 4) (ay_at hp 11) (ay_at hp 12) := (ax_XF_lt (by decide)).mp (ax_gx hE (50, [3, 7]) (by decide))
  rw [c_kind] at F50
  have F95 : pz95 (pz_gt (ρ 0)) (pz_gN (ρ 0)) ((ρ 1) / 4) := (ax_XF_lt (by decide)).mp (ax_gx hE (95, [3, 7]) (by decide))
  refine ⟨(fun y hy => by cases hy), _, List.mem_cons_self, ρ, fun _ _ => rfl, ax_px hE (by decide) (fun y hy => ?_)⟩
  cases List.mem_singleton.mp hy
  refine (ax_XF_lt (x := 94) (by decide)).mpr ?_
  show pz94 (pz_gt (ρ 0)) (pz_gN (ρ 0)) ((ρ 1) / 4)
  have kd : ρ 2 / 4 = pz_kd (pz_gt (ρ 0)) (pz_gN (ρ 0)) (pz_p (pz_cf (pz_gt (ρ 0)) (pz_gN (ρ 0)) (ρ 1 / 4))) := F50.2.2.1
  exact pz_op_no (by omega) (by omega) F95

theorem axq_rq8b_1 : ax_RO ax_wC ax_XC axu_rq8b_1 := by
  intro ρ hp hE hT
  have j0 : ρ 0 % 4 = 1 := pz_gj hE 0 (by decide) rfl
  have j1 : ρ 1 % 4 = 1 := pz_gj hE 1 (by decide) rfl
  obtain ⟨i2a, i2b, i2c, i2d⟩ := pz_gi hE 2 2147483692 2147483692 (by decide) rfl
  have c_kind : ay_at hp 8 7 = some (ρ 2) := ay_gfj hE 42 28 11 8 7 (by decide) (by rw [ax_vl_c (by decide)]) (by rw [ax_vl_c (by decide)])
  obtain ⟨-, -, -, -, F50⟩ : ay_ex hp 8 ∧ ay_ex hp 10 ∧ ay_ex hp 11 ∧ ay_ex hp 12 ∧ pz_x50 (ρ 0) (ρ 1) (ay_at hp 8 5) (ay_at hp 8 6) (ay_at hp 8 7) (ay_at hp 8 8) (ay_at hp 10 0) (ay_at hp 10 1) (ay_at hp 10 2) (ay_at hp 10 3) (ay_at hp 10 4) (ay_at hp 8 9) (ay_at hp 8 11) (ay_at hp 8 10) (ay_at hp 8 3) (ay_at hp 8 4) (ay_at hp 11) (ay_at hp 12) := (ax_XF_lt (by decide)).mp (ax_gx hE (50, [3, 7]) (by decide))
  rw [c_kind] at F50
  have F95 : pz95 (pz_gt (ρ 0)) (pz_gN (ρ 0)) ((ρ 1) / 4) := (ax_XF_lt (by decide)).mp (ax_gx hE (95, [3, 7]) (by decide))
  refine ⟨(fun y hy => by cases hy), _, List.mem_cons_self, ρ, fun _ _ => rfl, ax_px hE (by decide) (fun y hy => ?_)⟩
  cases List.mem_singleton.mp hy
  refine (ax_XF_lt (x := 94) (by decide)).mpr ?_
  show pz94 (pz_gt (ρ 0)) (pz_gN (ρ 0)) ((ρ 1) / 4)
  have kd : ρ 2 / 4 = pz_kd (pz_gt (ρ 0)) (pz_gN (ρ 0)) (pz_p (pz_cf (pz_gt (ρ 0)) (pz_gN (ρ 0)) (ρ 1 / 4))) := F50.2.2.1
  exact pz_op_no (by omega) (by omega) F95

theorem axq_rq8c_1 : ax_RO ax_wC ax_XC axu_rq8c_1 := by
  intro ρ hp hE hT
  have j0 : ρ 0 % 4 = 1 := pz_gj hE 0 (by decide) rfl
  have j1 : ρ 1 % 4 = 1 := pz_gj hE 1 (by decide) rfl
  obtain ⟨i2a, i2b, i2c, i2d⟩ := pz_gi hE 2 2147483694 4294967295 (by decide) rfl
  have c_kind : ay_at hp 8 7 = some (ρ 2) := ay_gfj hE 42 28 11 8 7 (by decide) (by rw [ax_vl_c (by decide)]) (by rw [ax_vl_c (by decide)])
  obtain ⟨-, -, -, -, F50⟩ : ay_ex hp 8 ∧ ay_ex hp 10 ∧ ay_ex hp 11 ∧ ay_ex hp 12 ∧ pz_x50 (ρ 0) (ρ 1) (ay_at hp 8 5) (ay_at hp 8 6) (ay_at hp 8 7) (ay_at hp 8 8) (ay_at hp 10 0) (ay_at hp 10 1) (ay_at hp 10 2) (ay_at hp 10 3) (ay_at hp 10 4) (ay_at hp 8 9) (ay_at hp 8 11) (ay_at hp 8 10) (ay_at hp 8 3) (ay_at hp 8 4) (ay_at hp 11) (ay_at hp 12) := (ax_XF_lt (by decide)).mp (ax_gx hE (50, [3, 7]) (by decide))
  rw [c_kind] at F50
  have F95 : pz95 (pz_gt (ρ 0)) (pz_gN (ρ 0)) ((ρ 1) / 4) := (ax_XF_lt (by decide)).mp (ax_gx hE (95, [3, 7]) (by decide))
  refine ⟨(fun y hy => by cases hy), _, List.mem_cons_self, ρ, fun _ _ => rfl, ax_px hE (by decide) (fun y hy => ?_)⟩
  cases List.mem_singleton.mp hy
  refine (ax_XF_lt (x := 94) (by decide)).mpr ?_
  show pz94 (pz_gt (ρ 0)) (pz_gN (ρ 0)) ((ρ 1) / 4)
  have kd : ρ 2 / 4 = pz_kd (pz_gt (ρ 0)) (pz_gN (ρ 0)) (pz_p (pz_cf (pz_gt (ρ 0)) (pz_gN (ρ 0)) (ρ 1 / 4))) := F50.2.2.1
  exact pz_op_no (by omega) (by omega) F95

theorem axq_rq2_2 : ax_RO ax_wC ax_XC axu_rq2_2 := by
  intro ρ hp hE hT
  have j0 : ρ 0 % 4 = 1 := pz_gj hE 0 (by decide) rfl
  have j1 : ρ 1 % 4 = 1 := pz_gj hE 1 (by decide) rfl
  obtain ⟨-, -, -, -, F50⟩ : ay_ex hp 8 ∧ ay_ex hp 10 ∧ ay_ex hp 11 ∧ ay_ex hp 12 ∧ pz_x50 (ρ 0) (ρ 1) (ay_at hp 8 5) (ay_at hp 8 6) (ay_at hp 8 7) (ay_at hp 8 8) (ay_at hp 10 0) (ay_at hp 10 1) (ay_at hp 10 2) (ay_at hp 10 3) (ay_at hp 10 4) (ay_at hp 8 9) (ay_at hp 8 11) (ay_at hp 8 10) (ay_at hp 8 3) (ay_at hp 8 4) (ay_at hp 11) (ay_at hp 12) := (ax_XF_lt (by decide)).mp (ax_gx hE (50, [3, 7]) (by decide))
  refine ⟨(fun y hy => by cases hy), _, List.mem_cons_self, ρ, fun _ _ => rfl, ax_px hE (by decide) (fun y hy => ?_)⟩
  cases List.mem_singleton.mp hy
  refine (ax_XF_lt (x := 97) (by decide)).mpr ?_
  show (0) / 4 ≤ (ρ 1) / 4
  exact Nat.zero_le _

theorem axq_rq3c43_2 : ax_RO ax_wC ax_XC axu_rq3c43_2 := by
  intro ρ hp hE hT
  have j0 : ρ 0 % 4 = 1 := pz_gj hE 0 (by decide) rfl
  have j1 : ρ 1 % 4 = 1 := pz_gj hE 1 (by decide) rfl
  have j2 : ρ 2 % 4 = 1 := pz_gj hE 2 (by decide) rfl
  obtain ⟨i3a, i3b, i3c, i3d⟩ := pz_gi hE 3 2147483691 2147483691 (by decide) rfl
  have j4 : ρ 4 % 4 = 1 := pz_gj hE 4 (by decide) rfl
  have c_kind : ay_at hp 8 7 = some (ρ 3) := ay_gfj hE 42 28 15 8 7 (by decide) (by rw [ax_vl_c (by decide)]) (by rw [ax_vl_c (by decide)])
  have o1 : ρ 4 < ρ 1 := pz_go hE 19 7 (by decide)
  obtain ⟨-, -, -, -, F50⟩ : ay_ex hp 8 ∧ ay_ex hp 10 ∧ ay_ex hp 11 ∧ ay_ex hp 12 ∧ pz_x50 (ρ 0) (ρ 1) (ay_at hp 8 5) (ay_at hp 8 6) (ay_at hp 8 7) (ay_at hp 8 8) (ay_at hp 10 0) (ay_at hp 10 1) (ay_at hp 10 2) (ay_at hp 10 3) (ay_at hp 10 4) (ay_at hp 8 9) (ay_at hp 8 11) (ay_at hp 8 10) (ay_at hp 8 3) (ay_at hp 8 4) (ay_at hp 11) (ay_at hp 12) := (ax_XF_lt (by decide)).mp (ax_gx hE (50, [3, 7]) (by decide))
  rw [c_kind] at F50
  have F79 : pz7 (pz_gt (ρ 0)) (pz_gN (ρ 0)) ((ρ 1) / 4) 9 := (ax_XF_lt (by decide)).mp (ax_gx hE (79, [3, 7]) (by decide))
  have F90 : (pz90 (pz_gt (ρ 0)) (pz_gN (ρ 0)) ((ρ 1) / 4) ((ρ 2) / 4) ∧ 1 ≤ (ρ 2) / 4) := (ax_XF_lt (by decide)).mp (ax_gx hE (90, [3, 7, 11]) (by decide))
  have st := pq_op F50 F79 F90.1 (show pz_op (ρ 3 / 4) = true by rw [show ρ 3 / 4 = 43 by omega]; rfl)
  obtain ⟨ρ', h1, h2⟩ := pz_pn1 (K := ρ 1 / 4 + 1) (xf := [(53, [3, 23]), (78, [3, 23]), (90, [3, 23, 11]), (1030, [7, 23]), (98, [7, 23]), (1030, [19, 23])]) hE (by decide) (fun ρ' h1 h2 x hx => by
    have q0 : ρ' 0 = ρ 0 := h1 0 (by decide)
    have q1 : ρ' 1 = ρ 1 := h1 1 (by decide)
    have q2 : ρ' 2 = ρ 2 := h1 2 (by decide)
    have q3 : ρ' 3 = ρ 3 := h1 3 (by decide)
    have q4 : ρ' 4 = ρ 4 := h1 4 (by decide)
    rcases List.mem_cons.mp hx with e | hx
    · subst e
      refine (ax_XF_lt (x := 53) (by decide)).mpr ?_
      show ay_ex hp 8 ∧ ay_ex hp 10 ∧ ay_ex hp 11 ∧ ay_ex hp 12 ∧ pz_x53 (ρ' 0) (ρ' 5) (ay_at hp 8 5) (ay_at hp 10 0) (ay_at hp 10 1) (ay_at hp 10 2) (ay_at hp 10 3) (ay_at hp 10 4) (ay_at hp 8 9) (ay_at hp 8 11) (ay_at hp 8 10) (ay_at hp 8 3) (ay_at hp 8 4) (ay_at hp 11) (ay_at hp 12)
      rw [q0, h2]
      exact ⟨(ax_cellT hT (q := 8) (g := 2) rfl), (ax_cellT hT (q := 10) (g := 1) rfl), (ax_cellT hT (q := 11) (g := 14) rfl), (ax_cellT hT (q := 12) (g := 15) rfl), pz_53 (pz_41 _) rfl st.1⟩
    rcases List.mem_cons.mp hx with e | hx
    · subst e
      refine (ax_XF_lt (x := 78) (by decide)).mpr ?_
      show pz7 (pz_gt (ρ' 0)) (pz_gN (ρ' 0)) ((ρ' 5) / 4) 8
      rw [q0, h2]
      rw [pz_41]
      exact st.2.1
    rcases List.mem_cons.mp hx with e | hx
    · subst e
      refine (ax_XF_lt (x := 90) (by decide)).mpr ?_
      show (pz90 (pz_gt (ρ' 0)) (pz_gN (ρ' 0)) ((ρ' 5) / 4) ((ρ' 2) / 4) ∧ 1 ≤ (ρ' 2) / 4)
      rw [q0, q2, h2]
      rw [pz_41]
      exact ⟨st.2.2, F90.2⟩
    rcases List.mem_cons.mp hx with e | hx
    · subst e
      refine (ax_XF_bi (o := 30) (by decide)).mpr (Or.inr ⟨rfl, ?_⟩)
      show ρ' 1 < ρ' 5
      rw [q1, h2]
      omega
    rcases List.mem_cons.mp hx with e | hx
    · subst e
      refine (ax_XF_lt (x := 98) (by decide)).mpr ?_
      show (ρ' 5) / 4 = (ρ' 1) / 4 + 1
      rw [q1, h2]
      rw [pz_41]
    cases List.mem_singleton.mp hx
    refine (ax_XF_bi (o := 30) (by decide)).mpr (Or.inr ⟨rfl, ?_⟩)
    show ρ' 4 < ρ' 5
    rw [q4, h2]
    omega)
  exact ⟨(fun y hy => by cases hy), _, List.mem_cons_self, ρ', h1, h2⟩

theorem axq_rq3c45_2 : ax_RO ax_wC ax_XC axu_rq3c45_2 := by
  intro ρ hp hE hT
  have j0 : ρ 0 % 4 = 1 := pz_gj hE 0 (by decide) rfl
  have j1 : ρ 1 % 4 = 1 := pz_gj hE 1 (by decide) rfl
  have j2 : ρ 2 % 4 = 1 := pz_gj hE 2 (by decide) rfl
  obtain ⟨i3a, i3b, i3c, i3d⟩ := pz_gi hE 3 2147483693 2147483693 (by decide) rfl
  have j4 : ρ 4 % 4 = 1 := pz_gj hE 4 (by decide) rfl
  have c_kind : ay_at hp 8 7 = some (ρ 3) := ay_gfj hE 42 28 15 8 7 (by decide) (by rw [ax_vl_c (by decide)]) (by rw [ax_vl_c (by decide)])
  have o1 : ρ 4 < ρ 1 := pz_go hE 19 7 (by decide)
  obtain ⟨-, -, -, -, F50⟩ : ay_ex hp 8 ∧ ay_ex hp 10 ∧ ay_ex hp 11 ∧ ay_ex hp 12 ∧ pz_x50 (ρ 0) (ρ 1) (ay_at hp 8 5) (ay_at hp 8 6) (ay_at hp 8 7) (ay_at hp 8 8) (ay_at hp 10 0) (ay_at hp 10 1) (ay_at hp 10 2) (ay_at hp 10 3) (ay_at hp 10 4) (ay_at hp 8 9) (ay_at hp 8 11) (ay_at hp 8 10) (ay_at hp 8 3) (ay_at hp 8 4) (ay_at hp 11) (ay_at hp 12) := (ax_XF_lt (by decide)).mp (ax_gx hE (50, [3, 7]) (by decide))
  rw [c_kind] at F50
  have F79 : pz7 (pz_gt (ρ 0)) (pz_gN (ρ 0)) ((ρ 1) / 4) 9 := (ax_XF_lt (by decide)).mp (ax_gx hE (79, [3, 7]) (by decide))
  have F90 : (pz90 (pz_gt (ρ 0)) (pz_gN (ρ 0)) ((ρ 1) / 4) ((ρ 2) / 4) ∧ 1 ≤ (ρ 2) / 4) := (ax_XF_lt (by decide)).mp (ax_gx hE (90, [3, 7, 11]) (by decide))
  have st := pq_op F50 F79 F90.1 (show pz_op (ρ 3 / 4) = true by rw [show ρ 3 / 4 = 45 by omega]; rfl)
  obtain ⟨ρ', h1, h2⟩ := pz_pn1 (K := ρ 1 / 4 + 1) (xf := [(53, [3, 23]), (78, [3, 23]), (90, [3, 23, 11]), (1030, [7, 23]), (98, [7, 23]), (1030, [19, 23])]) hE (by decide) (fun ρ' h1 h2 x hx => by
    have q0 : ρ' 0 = ρ 0 := h1 0 (by decide)
    have q1 : ρ' 1 = ρ 1 := h1 1 (by decide)
    have q2 : ρ' 2 = ρ 2 := h1 2 (by decide)
    have q3 : ρ' 3 = ρ 3 := h1 3 (by decide)
    have q4 : ρ' 4 = ρ 4 := h1 4 (by decide)
    rcases List.mem_cons.mp hx with e | hx
    · subst e
      refine (ax_XF_lt (x := 53) (by decide)).mpr ?_
      show ay_ex hp 8 ∧ ay_ex hp 10 ∧ ay_ex hp 11 ∧ ay_ex hp 12 ∧ pz_x53 (ρ' 0) (ρ' 5) (ay_at hp 8 5) (ay_at hp 10 0) (ay_at hp 10 1) (ay_at hp 10 2) (ay_at hp 10 3) (ay_at hp 10 4) (ay_at hp 8 9) (ay_at hp 8 11) (ay_at hp 8 10) (ay_at hp 8 3) (ay_at hp 8 4) (ay_at hp 11) (ay_at hp 12)
      rw [q0, h2]
      exact ⟨(ax_cellT hT (q := 8) (g := 2) rfl), (ax_cellT hT (q := 10) (g := 1) rfl), (ax_cellT hT (q := 11) (g := 14) rfl), (ax_cellT hT (q := 12) (g := 15) rfl), pz_53 (pz_41 _) rfl st.1⟩
    rcases List.mem_cons.mp hx with e | hx
    · subst e
      refine (ax_XF_lt (x := 78) (by decide)).mpr ?_
      show pz7 (pz_gt (ρ' 0)) (pz_gN (ρ' 0)) ((ρ' 5) / 4) 8
      rw [q0, h2]
      rw [pz_41]
      exact st.2.1
    rcases List.mem_cons.mp hx with e | hx
    · subst e
      refine (ax_XF_lt (x := 90) (by decide)).mpr ?_
      show (pz90 (pz_gt (ρ' 0)) (pz_gN (ρ' 0)) ((ρ' 5) / 4) ((ρ' 2) / 4) ∧ 1 ≤ (ρ' 2) / 4)
      rw [q0, q2, h2]
      rw [pz_41]
      exact ⟨st.2.2, F90.2⟩
    rcases List.mem_cons.mp hx with e | hx
    · subst e
      refine (ax_XF_bi (o := 30) (by decide)).mpr (Or.inr ⟨rfl, ?_⟩)
      show ρ' 1 < ρ' 5
      rw [q1, h2]
      omega
    rcases List.mem_cons.mp hx with e | hx
    · subst e
      refine (ax_XF_lt (x := 98) (by decide)).mpr ?_
      show (ρ' 5) / 4 = (ρ' 1) / 4 + 1
      rw [q1, h2]
      rw [pz_41]
    cases List.mem_singleton.mp hx
    refine (ax_XF_bi (o := 30) (by decide)).mpr (Or.inr ⟨rfl, ?_⟩)
    show ρ' 4 < ρ' 5
    rw [q4, h2]
    omega)
  exact ⟨(fun y hy => by cases hy), _, List.mem_cons_self, ρ', h1, h2⟩

theorem axq_rq5_2 : ax_RO ax_wC ax_XC axu_rq5_2 := by
  intro ρ hp hE hT
  have j0 : ρ 0 % 4 = 1 := pz_gj hE 0 (by decide) rfl
  have j1 : ρ 1 % 4 = 1 := pz_gj hE 1 (by decide) rfl
  have j2 : ρ 2 % 4 = 1 := pz_gj hE 2 (by decide) rfl
  have j3 : ρ 3 % 4 = 1 := pz_gj hE 3 (by decide) rfl
  have j4 : ρ 4 % 4 = 1 := pz_gj hE 4 (by decide) rfl
  have o1 : ρ 2 < ρ 1 := pz_go hE 11 7 (by decide)
  have o2 : ρ 3 < ρ 2 := pz_go hE 15 11 (by decide)
  have o3 : ρ 4 < ρ 3 := pz_go hE 19 15 (by decide)
  obtain ⟨-, -, -, -, F50⟩ : ay_ex hp 8 ∧ ay_ex hp 10 ∧ ay_ex hp 11 ∧ ay_ex hp 12 ∧ pz_x50 (ρ 0) (ρ 1) (ay_at hp 8 5) (ay_at hp 8 6) (ay_at hp 8 7) (ay_at hp 8 8) (ay_at hp 10 0) (ay_at hp 10 1) (ay_at hp 10 2) (ay_at hp 10 3) (ay_at hp 10 4) (ay_at hp 8 9) (ay_at hp 8 11) (ay_at hp 8 10) (ay_at hp 8 3) (ay_at hp 8 4) (ay_at hp 11) (ay_at hp 12) := (ax_XF_lt (by decide)).mp (ax_gx hE (50, [3, 7]) (by decide))
  refine ⟨(fun y hy => by cases hy), _, List.mem_cons_self, ρ, fun _ _ => rfl, ax_px hE (by decide) (fun y hy => ?_)⟩
  rcases List.mem_cons.mp hy with e | hy
  · subst e
    refine (ax_XF_bi (o := 30) (by decide)).mpr (Or.inr ⟨rfl, ?_⟩)
    show ρ 4 < ρ 1
    omega
  cases List.mem_singleton.mp hy
  refine (ax_XF_bi (o := 30) (by decide)).mpr (Or.inr ⟨rfl, ?_⟩)
  show ρ 3 < ρ 1
  omega

theorem axq_rq6_2 : ax_RO ax_wC ax_XC axu_rq6_2 := by
  intro ρ hp hE hT
  have j0 : ρ 0 % 4 = 1 := pz_gj hE 0 (by decide) rfl
  have j1 : ρ 1 % 4 = 1 := pz_gj hE 1 (by decide) rfl
  have j2 : ρ 2 % 4 = 1 := pz_gj hE 2 (by decide) rfl
  obtain ⟨i3a, i3b, i3c, i3d⟩ := pz_gi hE 3 2147483648 2147484447 (by decide) rfl
  obtain ⟨i4a, i4b, i4c, i4d⟩ := pz_gi hE 4 0 4294967295 (by decide) rfl
  have s1 : (ρ 3 / 4 + 2147483648) % 4294967296 + (4 / 4 + 2147483648) % 4294967296 = (ρ 4 / 4 + 2147483648) % 4294967296 + 2147483648 := pz_gs hE 15 4 19 (by decide)
  have o1 : ρ 2 < ρ 1 := pz_go hE 11 7 (by decide)
  obtain ⟨-, -, -, -, F50⟩ : ay_ex hp 8 ∧ ay_ex hp 10 ∧ ay_ex hp 11 ∧ ay_ex hp 12 ∧ pz_x50 (ρ 0) (ρ 1) (ay_at hp 8 5) (ay_at hp 8 6) (ay_at hp 8 7) (ay_at hp 8 8) (ay_at hp 10 0) (ay_at hp 10 1) (ay_at hp 10 2) (ay_at hp 10 3) (ay_at hp 10 4) (ay_at hp 8 9) (ay_at hp 8 11) (ay_at hp 8 10) (ay_at hp 8 3) (ay_at hp 8 4) (ay_at hp 11) (ay_at hp 12) := (ax_XF_lt (by decide)).mp (ax_gx hE (50, [3, 7]) (by decide))
  have F97 : (ρ 3) / 4 ≤ (ρ 2) / 4 := (ax_XF_lt (by decide)).mp (ax_gx hE (97, [11, 15]) (by decide))
  refine ⟨(fun y hy => by cases hy), _, List.mem_cons_self, ρ, fun _ _ => rfl, ax_px hE (by decide) (fun y hy => ?_)⟩
  cases List.mem_singleton.mp hy
  refine (ax_XF_lt (x := 97) (by decide)).mpr ?_
  show (ρ 4) / 4 ≤ (ρ 1) / 4
  omega

theorem axq_rq7_2 : ax_RO ax_wC ax_XC axu_rq7_2 := by
  intro ρ hp hE hT
  have j0 : ρ 0 % 4 = 1 := pz_gj hE 0 (by decide) rfl
  have j1 : ρ 1 % 4 = 1 := pz_gj hE 1 (by decide) rfl
  obtain ⟨i2a, i2b, i2c, i2d⟩ := pz_gi hE 2 2147484448 2147484448 (by decide) rfl
  obtain ⟨-, -, F30⟩ : ay_ex hp 8 ∧ ay_ex hp 9 ∧ pz_x30 (ρ 0) (ay_at hp 8 1) (ay_at hp 9) := (ax_XF_lt (by decide)).mp (ax_gx hE (30, [3]) (by decide))
  obtain ⟨-, -, -, -, F50⟩ : ay_ex hp 8 ∧ ay_ex hp 10 ∧ ay_ex hp 11 ∧ ay_ex hp 12 ∧ pz_x50 (ρ 0) (ρ 1) (ay_at hp 8 5) (ay_at hp 8 6) (ay_at hp 8 7) (ay_at hp 8 8) (ay_at hp 10 0) (ay_at hp 10 1) (ay_at hp 10 2) (ay_at hp 10 3) (ay_at hp 10 4) (ay_at hp 8 9) (ay_at hp 8 11) (ay_at hp 8 10) (ay_at hp 8 3) (ay_at hp 8 4) (ay_at hp 11) (ay_at hp 12) := (ax_XF_lt (by decide)).mp (ax_gx hE (50, [3, 7]) (by decide))
  have F79 : pz7 (pz_gt (ρ 0)) (pz_gN (ρ 0)) ((ρ 1) / 4) 9 := (ax_XF_lt (by decide)).mp (ax_gx hE (79, [3, 7]) (by decide))
  have F97 : (ρ 2) / 4 ≤ (ρ 1) / 4 := (ax_XF_lt (by decide)).mp (ax_gx hE (97, [7, 11]) (by decide))
  refine ⟨(fun y hy => by cases hy), _, List.mem_cons_self, ρ, fun _ _ => rfl, ax_px hE (by decide) (fun y hy => ?_)⟩
  cases List.mem_singleton.mp hy
  refine (ax_XF_lt (x := 94) (by decide)).mpr ?_
  show pz94 (pz_gt (ρ 0)) (pz_gN (ρ 0)) ((ρ 1) / 4)
  have kd := pq_far (n := ρ 1 / 4) F79 (by decide) (show pz_gN (ρ 0) ≤ 800 from F30.2.1) (by omega)
  show pz_op (pz_kd (pz_gt (ρ 0)) (pz_gN (ρ 0)) (pz_p (pz_cf (pz_gt (ρ 0)) (pz_gN (ρ 0)) (ρ 1 / 4)))) = false
  rw [kd]
  rfl

theorem axq_rq8a_2 : ax_RO ax_wC ax_XC axu_rq8a_2 := by
  intro ρ hp hE hT
  have j0 : ρ 0 % 4 = 1 := pz_gj hE 0 (by decide) rfl
  have j1 : ρ 1 % 4 = 1 := pz_gj hE 1 (by decide) rfl
  obtain ⟨i2a, i2b, i2c, i2d⟩ := pz_gi hE 2 0 2147483690 (by decide) rfl
  have c_kind : ay_at hp 8 7 = some (ρ 2) := ay_gfj hE 42 28 11 8 7 (by decide) (by rw [ax_vl_c (by decide)]) (by rw [ax_vl_c (by decide)])
  obtain ⟨-, -, -, -, F50⟩ : ay_ex hp 8 ∧ ay_ex hp 10 ∧ ay_ex hp 11 ∧ ay_ex hp 12 ∧ pz_x50 (ρ 0) (ρ 1) (ay_at hp 8 5) (ay_at hp 8 6) (ay_at hp 8 7) (ay_at hp 8 8) (ay_at hp 10 0) (ay_at hp 10 1) (ay_at hp 10 2) (ay_at hp 10 3) (ay_at hp 10 4) (ay_at hp 8 9) (ay_at hp 8 11) (ay_at hp 8 10) (ay_at hp 8 3) (ay_at hp 8 4) (ay_at hp 11) (ay_at hp 12) := (ax_XF_lt (by decide)).mp (ax_gx hE (50, [3, 7]) (by decide))
  rw [c_kind] at F50
  have F95 : pz95 (pz_gt (ρ 0)) (pz_gN (ρ 0)) ((ρ 1) / 4) := (ax_XF_lt (by decide)).mp (ax_gx hE (95, [3, 7]) (by decide))
  refine ⟨(fun y hy => by cases hy), _, List.mem_cons_self, ρ, fun _ _ => rfl, ax_px hE (by decide) (fun y hy => ?_)⟩
  cases List.mem_singleton.mp hy
  refine (ax_XF_lt (x := 94) (by decide)).mpr ?_
  show pz94 (pz_gt (ρ 0)) (pz_gN (ρ 0)) ((ρ 1) / 4)
  have kd : ρ 2 / 4 = pz_kd (pz_gt (ρ 0)) (pz_gN (ρ 0)) (pz_p (pz_cf (pz_gt (ρ 0)) (pz_gN (ρ 0)) (ρ 1 / 4))) := F50.2.2.1
  exact pz_op_no (by omega) (by omega) F95

theorem axq_rq8b_2 : ax_RO ax_wC ax_XC axu_rq8b_2 := by
  intro ρ hp hE hT
  have j0 : ρ 0 % 4 = 1 := pz_gj hE 0 (by decide) rfl
  have j1 : ρ 1 % 4 = 1 := pz_gj hE 1 (by decide) rfl
  obtain ⟨i2a, i2b, i2c, i2d⟩ := pz_gi hE 2 2147483692 2147483692 (by decide) rfl
  have c_kind : ay_at hp 8 7 = some (ρ 2) := ay_gfj hE 42 28 11 8 7 (by decide) (by rw [ax_vl_c (by decide)]) (by rw [ax_vl_c (by decide)])
  obtain ⟨-, -, -, -, F50⟩ : ay_ex hp 8 ∧ ay_ex hp 10 ∧ ay_ex hp 11 ∧ ay_ex hp 12 ∧ pz_x50 (ρ 0) (ρ 1) (ay_at hp 8 5) (ay_at hp 8 6) (ay_at hp 8 7) (ay_at hp 8 8) (ay_at hp 10 0) (ay_at hp 10 1) (ay_at hp 10 2) (ay_at hp 10 3) (ay_at hp 10 4) (ay_at hp 8 9) (ay_at hp 8 11) (ay_at hp 8 10) (ay_at hp 8 3) (ay_at hp 8 4) (ay_at hp 11) (ay_at hp 12) := (ax_XF_lt (by decide)).mp (ax_gx hE (50, [3, 7]) (by decide))
  rw [c_kind] at F50
  have F95 : pz95 (pz_gt (ρ 0)) (pz_gN (ρ 0)) ((ρ 1) / 4) := (ax_XF_lt (by decide)).mp (ax_gx hE (95, [3, 7]) (by decide))
  refine ⟨(fun y hy => by cases hy), _, List.mem_cons_self, ρ, fun _ _ => rfl, ax_px hE (by decide) (fun y hy => ?_)⟩
  cases List.mem_singleton.mp hy
  refine (ax_XF_lt (x := 94) (by decide)).mpr ?_
  show pz94 (pz_gt (ρ 0)) (pz_gN (ρ 0)) ((ρ 1) / 4)
  have kd : ρ 2 / 4 = pz_kd (pz_gt (ρ 0)) (pz_gN (ρ 0)) (pz_p (pz_cf (pz_gt (ρ 0)) (pz_gN (ρ 0)) (ρ 1 / 4))) := F50.2.2.1
  exact pz_op_no (by omega) (by omega) F95

theorem axq_rq8c_2 : ax_RO ax_wC ax_XC axu_rq8c_2 := by
  intro ρ hp hE hT
  have j0 : ρ 0 % 4 = 1 := pz_gj hE 0 (by decide) rfl
  have j1 : ρ 1 % 4 = 1 := pz_gj hE 1 (by decide) rfl
  obtain ⟨i2a, i2b, i2c, i2d⟩ := pz_gi hE 2 2147483694 4294967295 (by decide) rfl
  have c_kind : ay_at hp 8 7 = some (ρ 2) := ay_gfj hE 42 28 11 8 7 (by decide) (by rw [ax_vl_c (by decide)]) (by rw [ax_vl_c (by decide)])
  obtain ⟨-, -, -, -, F50⟩ : ay_ex hp 8 ∧ ay_ex hp 10 ∧ ay_ex hp 11 ∧ ay_ex hp 12 ∧ pz_x50 (ρ 0) (ρ 1) (ay_at hp 8 5) (ay_at hp 8 6) (ay_at hp 8 7) (ay_at hp 8 8) (ay_at hp 10 0) (ay_at hp 10 1) (ay_at hp 10 2) (ay_at hp 10 3) (ay_at hp 10 4) (ay_at hp 8 9) (ay_at hp 8 11) (ay_at hp 8 10) (ay_at hp 8 3) (ay_at hp 8 4) (ay_at hp 11) (ay_at hp 12) := (ax_XF_lt (by decide)).mp (ax_gx hE (50, [3, 7]) (by decide))
  rw [c_kind] at F50
  have F95 : pz95 (pz_gt (ρ 0)) (pz_gN (ρ 0)) ((ρ 1) / 4) := (ax_XF_lt (by decide)).mp (ax_gx hE (95, [3, 7]) (by decide))
  refine ⟨(fun y hy => by cases hy), _, List.mem_cons_self, ρ, fun _ _ => rfl, ax_px hE (by decide) (fun y hy => ?_)⟩
  cases List.mem_singleton.mp hy
  refine (ax_XF_lt (x := 94) (by decide)).mpr ?_
  show pz94 (pz_gt (ρ 0)) (pz_gN (ρ 0)) ((ρ 1) / 4)
  have kd : ρ 2 / 4 = pz_kd (pz_gt (ρ 0)) (pz_gN (ρ 0)) (pz_p (pz_cf (pz_gt (ρ 0)) (pz_gN (ρ 0)) (ρ 1 / 4))) := F50.2.2.1
  exact pz_op_no (by omega) (by omega) F95

theorem axq_rq2_3 : ax_RO ax_wC ax_XC axu_rq2_3 := by
  intro ρ hp hE hT
  have j0 : ρ 0 % 4 = 1 := pz_gj hE 0 (by decide) rfl
  have j1 : ρ 1 % 4 = 1 := pz_gj hE 1 (by decide) rfl
  obtain ⟨-, -, -, -, F50⟩ : ay_ex hp 8 ∧ ay_ex hp 10 ∧ ay_ex hp 11 ∧ ay_ex hp 12 ∧ pz_x50 (ρ 0) (ρ 1) (ay_at hp 8 5) (ay_at hp 8 6) (ay_at hp 8 7) (ay_at hp 8 8) (ay_at hp 10 0) (ay_at hp 10 1) (ay_at hp 10 2) (ay_at hp 10 3) (ay_at hp 10 4) (ay_at hp 8 9) (ay_at hp 8 11) (ay_at hp 8 10) (ay_at hp 8 3) (ay_at hp 8 4) (ay_at hp 11) (ay_at hp 12) := (ax_XF_lt (by decide)).mp (ax_gx hE (50, [3, 7]) (by decide))
  refine ⟨(fun y hy => by cases hy), _, List.mem_cons_self, ρ, fun _ _ => rfl, ax_px hE (by decide) (fun y hy => ?_)⟩
  cases List.mem_singleton.mp hy
  refine (ax_XF_lt (x := 97) (by decide)).mpr ?_
  show (0) / 4 ≤ (ρ 1) / 4
  exact Nat.zero_le _

theorem axq_rq3c43_3 : ax_RO ax_wC ax_XC axu_rq3c43_3 := by
  intro ρ hp hE hT
  have j0 : ρ 0 % 4 = 1 := pz_gj hE 0 (by decide) rfl
  have j1 : ρ 1 % 4 = 1 := pz_gj hE 1 (by decide) rfl
  have j2 : ρ 2 % 4 = 1 := pz_gj hE 2 (by decide) rfl
  obtain ⟨i3a, i3b, i3c, i3d⟩ := pz_gi hE 3 2147483691 2147483691 (by decide) rfl
  have j4 : ρ 4 % 4 = 1 := pz_gj hE 4 (by decide) rfl
  have c_kind : ay_at hp 8 7 = some (ρ 3) := ay_gfj hE 42 28 15 8 7 (by decide) (by rw [ax_vl_c (by decide)]) (by rw [ax_vl_c (by decide)])
  have o1 : ρ 4 < ρ 1 := pz_go hE 19 7 (by decide)
  obtain ⟨-, -, -, -, F50⟩ : ay_ex hp 8 ∧ ay_ex hp 10 ∧ ay_ex hp 11 ∧ ay_ex hp 12 ∧ pz_x50 (ρ 0) (ρ 1) (ay_at hp 8 5) (ay_at hp 8 6) (ay_at hp 8 7) (ay_at hp 8 8) (ay_at hp 10 0) (ay_at hp 10 1) (ay_at hp 10 2) (ay_at hp 10 3) (ay_at hp 10 4) (ay_at hp 8 9) (ay_at hp 8 11) (ay_at hp 8 10) (ay_at hp 8 3) (ay_at hp 8 4) (ay_at hp 11) (ay_at hp 12) := (ax_XF_lt (by decide)).mp (ax_gx hE (50, [3, 7]) (by decide))
  rw [c_kind] at F50
  have F79 : pz7 (pz_gt (ρ 0)) (pz_gN (ρ 0)) ((ρ 1) / 4) 9 := (ax_XF_lt (by decide)).mp (ax_gx hE (79, [3, 7]) (by decide))
  have F90 : (pz90 (pz_gt (ρ 0)) (pz_gN (ρ 0)) ((ρ 1) / 4) ((ρ 2) / 4) ∧ 1 ≤ (ρ 2) / 4) := (ax_XF_lt (by decide)).mp (ax_gx hE (90, [3, 7, 11]) (by decide))
  have st := pq_op F50 F79 F90.1 (show pz_op (ρ 3 / 4) = true by rw [show ρ 3 / 4 = 43 by omega]; rfl)
  obtain ⟨ρ', h1, h2⟩ := pz_pn1 (K := ρ 1 / 4 + 1) (xf := [(53, [3, 23]), (78, [3, 23]), (90, [3, 23, 11]), (1030, [7, 23]), (98, [7, 23]), (1030, [19, 23])]) hE (by decide) (fun ρ' h1 h2 x hx => by
    have q0 : ρ' 0 = ρ 0 := h1 0 (by decide)
    have q1 : ρ' 1 = ρ 1 := h1 1 (by decide)
    have q2 : ρ' 2 = ρ 2 := h1 2 (by decide)
    have q3 : ρ' 3 = ρ 3 := h1 3 (by decide)
    have q4 : ρ' 4 = ρ 4 := h1 4 (by decide)
    rcases List.mem_cons.mp hx with e | hx
    · subst e
      refine (ax_XF_lt (x := 53) (by decide)).mpr ?_
      show ay_ex hp 8 ∧ ay_ex hp 10 ∧ ay_ex hp 11 ∧ ay_ex hp 12 ∧ pz_x53 (ρ' 0) (ρ' 5) (ay_at hp 8 5) (ay_at hp 10 0) (ay_at hp 10 1) (ay_at hp 10 2) (ay_at hp 10 3) (ay_at hp 10 4) (ay_at hp 8 9) (ay_at hp 8 11) (ay_at hp 8 10) (ay_at hp 8 3) (ay_at hp 8 4) (ay_at hp 11) (ay_at hp 12)
      rw [q0, h2]
      exact ⟨(ax_cellT hT (q := 8) (g := 2) rfl), (ax_cellT hT (q := 10) (g := 1) rfl), (ax_cellT hT (q := 11) (g := 14) rfl), (ax_cellT hT (q := 12) (g := 15) rfl), pz_53 (pz_41 _) rfl st.1⟩
    rcases List.mem_cons.mp hx with e | hx
    · subst e
      refine (ax_XF_lt (x := 78) (by decide)).mpr ?_
      show pz7 (pz_gt (ρ' 0)) (pz_gN (ρ' 0)) ((ρ' 5) / 4) 8
      rw [q0, h2]
      rw [pz_41]
      exact st.2.1
    rcases List.mem_cons.mp hx with e | hx
    · subst e
      refine (ax_XF_lt (x := 90) (by decide)).mpr ?_
      show (pz90 (pz_gt (ρ' 0)) (pz_gN (ρ' 0)) ((ρ' 5) / 4) ((ρ' 2) / 4) ∧ 1 ≤ (ρ' 2) / 4)
      rw [q0, q2, h2]
      rw [pz_41]
      exact ⟨st.2.2, F90.2⟩
    rcases List.mem_cons.mp hx with e | hx
    · subst e
      refine (ax_XF_bi (o := 30) (by decide)).mpr (Or.inr ⟨rfl, ?_⟩)
      show ρ' 1 < ρ' 5
      rw [q1, h2]
      omega
    rcases List.mem_cons.mp hx with e | hx
    · subst e
      refine (ax_XF_lt (x := 98) (by decide)).mpr ?_
      show (ρ' 5) / 4 = (ρ' 1) / 4 + 1
      rw [q1, h2]
      rw [pz_41]
    cases List.mem_singleton.mp hx
    refine (ax_XF_bi (o := 30) (by decide)).mpr (Or.inr ⟨rfl, ?_⟩)
    show ρ' 4 < ρ' 5
    rw [q4, h2]
    omega)
  exact ⟨(fun y hy => by cases hy), _, List.mem_cons_self, ρ', h1, h2⟩

theorem axq_rq3c45_3 : ax_RO ax_wC ax_XC axu_rq3c45_3 := by
  intro ρ hp hE hT
  have j0 : ρ 0 % 4 = 1 := pz_gj hE 0 (by decide) rfl
  have j1 : ρ 1 % 4 = 1 := pz_gj hE 1 (by decide) rfl
  have j2 : ρ 2 % 4 = 1 := pz_gj hE 2 (by decide) rfl
  obtain ⟨i3a, i3b, i3c, i3d⟩ := pz_gi hE 3 2147483693 2147483693 (by decide) rfl
  have j4 : ρ 4 % 4 = 1 := pz_gj hE 4 (by decide) rfl
  have c_kind : ay_at hp 8 7 = some (ρ 3) := ay_gfj hE 42 28 15 8 7 (by decide) (by rw [ax_vl_c (by decide)]) (by rw [ax_vl_c (by decide)])
  have o1 : ρ 4 < ρ 1 := pz_go hE 19 7 (by decide)
  obtain ⟨-, -, -, -, F50⟩ : ay_ex hp 8 ∧ ay_ex hp 10 ∧ ay_ex hp 11 ∧ ay_ex hp 12 ∧ pz_x50 (ρ 0) (ρ 1) (ay_at hp 8 5) (ay_at hp 8 6) (ay_at hp 8 7) (ay_at hp 8 8) (ay_at hp 10 0) (ay_at hp 10 1) (ay_at hp 10 2) (ay_at hp 10 3) (ay_at hp 10 4) (ay_at hp 8 9) (ay_at hp 8 11) (ay_at hp 8 10) (ay_at hp 8 3) (ay_at hp 8 4) (ay_at hp 11) (ay_at hp 12) := (ax_XF_lt (by decide)).mp (ax_gx hE (50, [3, 7]) (by decide))
  rw [c_kind] at F50
  have F79 : pz7 (pz_gt (ρ 0)) (pz_gN (ρ 0)) ((ρ 1) / 4) 9 := (ax_XF_lt (by decide)).mp (ax_gx hE (79, [3, 7]) (by decide))
  have F90 : (pz90 (pz_gt (ρ 0)) (pz_gN (ρ 0)) ((ρ 1) / 4) ((ρ 2) / 4) ∧ 1 ≤ (ρ 2) / 4) := (ax_XF_lt (by decide)).mp (ax_gx hE (90, [3, 7, 11]) (by decide))
  have st := pq_op F50 F79 F90.1 (show pz_op (ρ 3 / 4) = true by rw [show ρ 3 / 4 = 45 by omega]; rfl)
  obtain ⟨ρ', h1, h2⟩ := pz_pn1 (K := ρ 1 / 4 + 1) (xf := [(53, [3, 23]), (78, [3, 23]), (90, [3, 23, 11]), (1030, [7, 23]), (98, [7, 23]), (1030, [19, 23])]) hE (by decide) (fun ρ' h1 h2 x hx => by
    have q0 : ρ' 0 = ρ 0 := h1 0 (by decide)
    have q1 : ρ' 1 = ρ 1 := h1 1 (by decide)
    have q2 : ρ' 2 = ρ 2 := h1 2 (by decide)
    have q3 : ρ' 3 = ρ 3 := h1 3 (by decide)
    have q4 : ρ' 4 = ρ 4 := h1 4 (by decide)
    rcases List.mem_cons.mp hx with e | hx
    · subst e
      refine (ax_XF_lt (x := 53) (by decide)).mpr ?_
      show ay_ex hp 8 ∧ ay_ex hp 10 ∧ ay_ex hp 11 ∧ ay_ex hp 12 ∧ pz_x53 (ρ' 0) (ρ' 5) (ay_at hp 8 5) (ay_at hp 10 0) (ay_at hp 10 1) (ay_at hp 10 2) (ay_at hp 10 3) (ay_at hp 10 4) (ay_at hp 8 9) (ay_at hp 8 11) (ay_at hp 8 10) (ay_at hp 8 3) (ay_at hp 8 4) (ay_at hp 11) (ay_at hp 12)
      rw [q0, h2]
      exact ⟨(ax_cellT hT (q := 8) (g := 2) rfl), (ax_cellT hT (q := 10) (g := 1) rfl), (ax_cellT hT (q := 11) (g := 14) rfl), (ax_cellT hT (q := 12) (g := 15) rfl), pz_53 (pz_41 _) rfl st.1⟩
    rcases List.mem_cons.mp hx with e | hx
    · subst e
      refine (ax_XF_lt (x := 78) (by decide)).mpr ?_
      show pz7 (pz_gt (ρ' 0)) (pz_gN (ρ' 0)) ((ρ' 5) / 4) 8
      rw [q0, h2]
      rw [pz_41]
      exact st.2.1
    rcases List.mem_cons.mp hx with e | hx
    · subst e
      refine (ax_XF_lt (x := 90) (by decide)).mpr ?_
      show (pz90 (pz_gt (ρ' 0)) (pz_gN (ρ' 0)) ((ρ' 5) / 4) ((ρ' 2) / 4) ∧ 1 ≤ (ρ' 2) / 4)
      rw [q0, q2, h2]
      rw [pz_41]
      exact ⟨st.2.2, F90.2⟩
    rcases List.mem_cons.mp hx with e | hx
    · subst e
      refine (ax_XF_bi (o := 30) (by decide)).mpr (Or.inr ⟨rfl, ?_⟩)
      show ρ' 1 < ρ' 5
      rw [q1, h2]
      omega
    rcases List.mem_cons.mp hx with e | hx
    · subst e
      refine (ax_XF_lt (x := 98) (by decide)).mpr ?_
      show (ρ' 5) / 4 = (ρ' 1) / 4 + 1
      rw [q1, h2]
      rw [pz_41]
    cases List.mem_singleton.mp hx
    refine (ax_XF_bi (o := 30) (by decide)).mpr (Or.inr ⟨rfl, ?_⟩)
    show ρ' 4 < ρ' 5
    rw [q4, h2]
    omega)
  exact ⟨(fun y hy => by cases hy), _, List.mem_cons_self, ρ', h1, h2⟩

theorem axq_rq5_3 : ax_RO ax_wC ax_XC axu_rq5_3 := by
  intro ρ hp hE hT
  have j0 : ρ 0 % 4 = 1 := pz_gj hE 0 (by decide) rfl
  have j1 : ρ 1 % 4 = 1 := pz_gj hE 1 (by decide) rfl
  have j2 : ρ 2 % 4 = 1 := pz_gj hE 2 (by decide) rfl
  have j3 : ρ 3 % 4 = 1 := pz_gj hE 3 (by decide) rfl
  have j4 : ρ 4 % 4 = 1 := pz_gj hE 4 (by decide) rfl
  have o1 : ρ 2 < ρ 1 := pz_go hE 11 7 (by decide)
  have o2 : ρ 3 < ρ 2 := pz_go hE 15 11 (by decide)
  have o3 : ρ 4 < ρ 3 := pz_go hE 19 15 (by decide)
  obtain ⟨-, -, -, -, F50⟩ : ay_ex hp 8 ∧ ay_ex hp 10 ∧ ay_ex hp 11 ∧ ay_ex hp 12 ∧ pz_x50 (ρ 0) (ρ 1) (ay_at hp 8 5) (ay_at hp 8 6) (ay_at hp 8 7) (ay_at hp 8 8) (ay_at hp 10 0) (ay_at hp 10 1) (ay_at hp 10 2) (ay_at hp 10 3) (ay_at hp 10 4) (ay_at hp 8 9) (ay_at hp 8 11) (ay_at hp 8 10) (ay_at hp 8 3) (ay_at hp 8 4) (ay_at hp 11) (ay_at hp 12) := (ax_XF_lt (by decide)).mp (ax_gx hE (50, [3, 7]) (by decide))
  refine ⟨(fun y hy => by cases hy), _, List.mem_cons_self, ρ, fun _ _ => rfl, ax_px hE (by decide) (fun y hy => ?_)⟩
  rcases List.mem_cons.mp hy with e | hy
  · subst e
    refine (ax_XF_bi (o := 30) (by decide)).mpr (Or.inr ⟨rfl, ?_⟩)
    show ρ 4 < ρ 1
    omega
  cases List.mem_singleton.mp hy
  refine (ax_XF_bi (o := 30) (by decide)).mpr (Or.inr ⟨rfl, ?_⟩)
  show ρ 3 < ρ 1
  omega

theorem axq_rq6_3 : ax_RO ax_wC ax_XC axu_rq6_3 := by
  intro ρ hp hE hT
  have j0 : ρ 0 % 4 = 1 := pz_gj hE 0 (by decide) rfl
  have j1 : ρ 1 % 4 = 1 := pz_gj hE 1 (by decide) rfl
  have j2 : ρ 2 % 4 = 1 := pz_gj hE 2 (by decide) rfl
  obtain ⟨i3a, i3b, i3c, i3d⟩ := pz_gi hE 3 2147483648 2147484447 (by decide) rfl
  obtain ⟨i4a, i4b, i4c, i4d⟩ := pz_gi hE 4 0 4294967295 (by decide) rfl
  have s1 : (ρ 3 / 4 + 2147483648) % 4294967296 + (4 / 4 + 2147483648) % 4294967296 = (ρ 4 / 4 + 2147483648) % 4294967296 + 2147483648 := pz_gs hE 15 4 19 (by decide)
  have o1 : ρ 2 < ρ 1 := pz_go hE 11 7 (by decide)
  obtain ⟨-, -, -, -, F50⟩ : ay_ex hp 8 ∧ ay_ex hp 10 ∧ ay_ex hp 11 ∧ ay_ex hp 12 ∧ pz_x50 (ρ 0) (ρ 1) (ay_at hp 8 5) (ay_at hp 8 6) (ay_at hp 8 7) (ay_at hp 8 8) (ay_at hp 10 0) (ay_at hp 10 1) (ay_at hp 10 2) (ay_at hp 10 3) (ay_at hp 10 4) (ay_at hp 8 9) (ay_at hp 8 11) (ay_at hp 8 10) (ay_at hp 8 3) (ay_at hp 8 4) (ay_at hp 11) (ay_at hp 12) := (ax_XF_lt (by decide)).mp (ax_gx hE (50, [3, 7]) (by decide))
  have F97 : (ρ 3) / 4 ≤ (ρ 2) / 4 := (ax_XF_lt (by decide)).mp (ax_gx hE (97, [11, 15]) (by decide))
  refine ⟨(fun y hy => by cases hy), _, List.mem_cons_self, ρ, fun _ _ => rfl, ax_px hE (by decide) (fun y hy => ?_)⟩
  cases List.mem_singleton.mp hy
  refine (ax_XF_lt (x := 97) (by decide)).mpr ?_
  show (ρ 4) / 4 ≤ (ρ 1) / 4
  omega

theorem axq_rq7_3 : ax_RO ax_wC ax_XC axu_rq7_3 := by
  intro ρ hp hE hT
  have j0 : ρ 0 % 4 = 1 := pz_gj hE 0 (by decide) rfl
  have j1 : ρ 1 % 4 = 1 := pz_gj hE 1 (by decide) rfl
  obtain ⟨i2a, i2b, i2c, i2d⟩ := pz_gi hE 2 2147484448 2147484448 (by decide) rfl
  obtain ⟨-, -, F30⟩ : ay_ex hp 8 ∧ ay_ex hp 9 ∧ pz_x30 (ρ 0) (ay_at hp 8 1) (ay_at hp 9) := (ax_XF_lt (by decide)).mp (ax_gx hE (30, [3]) (by decide))
  obtain ⟨-, -, -, -, F50⟩ : ay_ex hp 8 ∧ ay_ex hp 10 ∧ ay_ex hp 11 ∧ ay_ex hp 12 ∧ pz_x50 (ρ 0) (ρ 1) (ay_at hp 8 5) (ay_at hp 8 6) (ay_at hp 8 7) (ay_at hp 8 8) (ay_at hp 10 0) (ay_at hp 10 1) (ay_at hp 10 2) (ay_at hp 10 3) (ay_at hp 10 4) (ay_at hp 8 9) (ay_at hp 8 11) (ay_at hp 8 10) (ay_at hp 8 3) (ay_at hp 8 4) (ay_at hp 11) (ay_at hp 12) := (ax_XF_lt (by decide)).mp (ax_gx hE (50, [3, 7]) (by decide))
  have F79 : pz7 (pz_gt (ρ 0)) (pz_gN (ρ 0)) ((ρ 1) / 4) 9 := (ax_XF_lt (by decide)).mp (ax_gx hE (79, [3, 7]) (by decide))
  have F97 : (ρ 2) / 4 ≤ (ρ 1) / 4 := (ax_XF_lt (by decide)).mp (ax_gx hE (97, [7, 11]) (by decide))
  refine ⟨(fun y hy => by cases hy), _, List.mem_cons_self, ρ, fun _ _ => rfl, ax_px hE (by decide) (fun y hy => ?_)⟩
  cases List.mem_singleton.mp hy
  refine (ax_XF_lt (x := 94) (by decide)).mpr ?_
  show pz94 (pz_gt (ρ 0)) (pz_gN (ρ 0)) ((ρ 1) / 4)
  have kd := pq_far (n := ρ 1 / 4) F79 (by decide) (show pz_gN (ρ 0) ≤ 800 from F30.2.1) (by omega)
  show pz_op (pz_kd (pz_gt (ρ 0)) (pz_gN (ρ 0)) (pz_p (pz_cf (pz_gt (ρ 0)) (pz_gN (ρ 0)) (ρ 1 / 4)))) = false
  rw [kd]
  rfl

theorem axq_rq8a_3 : ax_RO ax_wC ax_XC axu_rq8a_3 := by
  intro ρ hp hE hT
  have j0 : ρ 0 % 4 = 1 := pz_gj hE 0 (by decide) rfl
  have j1 : ρ 1 % 4 = 1 := pz_gj hE 1 (by decide) rfl
  obtain ⟨i2a, i2b, i2c, i2d⟩ := pz_gi hE 2 0 2147483690 (by decide) rfl
  have c_kind : ay_at hp 8 7 = some (ρ 2) := ay_gfj hE 42 28 11 8 7 (by decide) (by rw [ax_vl_c (by decide)]) (by rw [ax_vl_c (by decide)])
  obtain ⟨-, -, -, -, F50⟩ : ay_ex hp 8 ∧ ay_ex hp 10 ∧ ay_ex hp 11 ∧ ay_ex hp 12 ∧ pz_x50 (ρ 0) (ρ 1) (ay_at hp 8 5) (ay_at hp 8 6) (ay_at hp 8 7) (ay_at hp 8 8) (ay_at hp 10 0) (ay_at hp 10 1) (ay_at hp 10 2) (ay_at hp 10 3) (ay_at hp 10 4) (ay_at hp 8 9) (ay_at hp 8 11) (ay_at hp 8 10) (ay_at hp 8 3) (ay_at hp 8 4) (ay_at hp 11) (ay_at hp 12) := (ax_XF_lt (by decide)).mp (ax_gx hE (50, [3, 7]) (by decide))
  rw [c_kind] at F50
  have F95 : pz95 (pz_gt (ρ 0)) (pz_gN (ρ 0)) ((ρ 1) / 4) := (ax_XF_lt (by decide)).mp (ax_gx hE (95, [3, 7]) (by decide))
  refine ⟨(fun y hy => by cases hy), _, List.mem_cons_self, ρ, fun _ _ => rfl, ax_px hE (by decide) (fun y hy => ?_)⟩
  cases List.mem_singleton.mp hy
  refine (ax_XF_lt (x := 94) (by decide)).mpr ?_
  show pz94 (pz_gt (ρ 0)) (pz_gN (ρ 0)) ((ρ 1) / 4)
  have kd : ρ 2 / 4 = pz_kd (pz_gt (ρ 0)) (pz_gN (ρ 0)) (pz_p (pz_cf (pz_gt (ρ 0)) (pz_gN (ρ 0)) (ρ 1 / 4))) := F50.2.2.1
  exact pz_op_no (by omega) (by omega) F95

theorem axq_rq8b_3 : ax_RO ax_wC ax_XC axu_rq8b_3 := by
  intro ρ hp hE hT
  have j0 : ρ 0 % 4 = 1 := pz_gj hE 0 (by decide) rfl
  have j1 : ρ 1 % 4 = 1 := pz_gj hE 1 (by decide) rfl
  obtain ⟨i2a, i2b, i2c, i2d⟩ := pz_gi hE 2 2147483692 2147483692 (by decide) rfl
  have c_kind : ay_at hp 8 7 = some (ρ 2) := ay_gfj hE 42 28 11 8 7 (by decide) (by rw [ax_vl_c (by decide)]) (by rw [ax_vl_c (by decide)])
  obtain ⟨-, -, -, -, F50⟩ : ay_ex hp 8 ∧ ay_ex hp 10 ∧ ay_ex hp 11 ∧ ay_ex hp 12 ∧ pz_x50 (ρ 0) (ρ 1) (ay_at hp 8 5) (ay_at hp 8 6) (ay_at hp 8 7) (ay_at hp 8 8) (ay_at hp 10 0) (ay_at hp 10 1) (ay_at hp 10 2) (ay_at hp 10 3) (ay_at hp 10 4) (ay_at hp 8 9) (ay_at hp 8 11) (ay_at hp 8 10) (ay_at hp 8 3) (ay_at hp 8 4) (ay_at hp 11) (ay_at hp 12) := (ax_XF_lt (by decide)).mp (ax_gx hE (50, [3, 7]) (by decide))
  rw [c_kind] at F50
  have F95 : pz95 (pz_gt (ρ 0)) (pz_gN (ρ 0)) ((ρ 1) / 4) := (ax_XF_lt (by decide)).mp (ax_gx hE (95, [3, 7]) (by decide))
  refine ⟨(fun y hy => by cases hy), _, List.mem_cons_self, ρ, fun _ _ => rfl, ax_px hE (by decide) (fun y hy => ?_)⟩
  cases List.mem_singleton.mp hy
  refine (ax_XF_lt (x := 94) (by decide)).mpr ?_
  show pz94 (pz_gt (ρ 0)) (pz_gN (ρ 0)) ((ρ 1) / 4)
  have kd : ρ 2 / 4 = pz_kd (pz_gt (ρ 0)) (pz_gN (ρ 0)) (pz_p (pz_cf (pz_gt (ρ 0)) (pz_gN (ρ 0)) (ρ 1 / 4))) := F50.2.2.1
  exact pz_op_no (by omega) (by omega) F95

theorem axq_rq8c_3 : ax_RO ax_wC ax_XC axu_rq8c_3 := by
  intro ρ hp hE hT
  have j0 : ρ 0 % 4 = 1 := pz_gj hE 0 (by decide) rfl
  have j1 : ρ 1 % 4 = 1 := pz_gj hE 1 (by decide) rfl
  obtain ⟨i2a, i2b, i2c, i2d⟩ := pz_gi hE 2 2147483694 4294967295 (by decide) rfl
  have c_kind : ay_at hp 8 7 = some (ρ 2) := ay_gfj hE 42 28 11 8 7 (by decide) (by rw [ax_vl_c (by decide)]) (by rw [ax_vl_c (by decide)])
  obtain ⟨-, -, -, -, F50⟩ : ay_ex hp 8 ∧ ay_ex hp 10 ∧ ay_ex hp 11 ∧ ay_ex hp 12 ∧ pz_x50 (ρ 0) (ρ 1) (ay_at hp 8 5) (ay_at hp 8 6) (ay_at hp 8 7) (ay_at hp 8 8) (ay_at hp 10 0) (ay_at hp 10 1) (ay_at hp 10 2) (ay_at hp 10 3) (ay_at hp 10 4) (ay_at hp 8 9) (ay_at hp 8 11) (ay_at hp 8 10) (ay_at hp 8 3) (ay_at hp 8 4) (ay_at hp 11) (ay_at hp 12) := (ax_XF_lt (by decide)).mp (ax_gx hE (50, [3, 7]) (by decide))
  rw [c_kind] at F50
  have F95 : pz95 (pz_gt (ρ 0)) (pz_gN (ρ 0)) ((ρ 1) / 4) := (ax_XF_lt (by decide)).mp (ax_gx hE (95, [3, 7]) (by decide))
  refine ⟨(fun y hy => by cases hy), _, List.mem_cons_self, ρ, fun _ _ => rfl, ax_px hE (by decide) (fun y hy => ?_)⟩
  cases List.mem_singleton.mp hy
  refine (ax_XF_lt (x := 94) (by decide)).mpr ?_
  show pz94 (pz_gt (ρ 0)) (pz_gN (ρ 0)) ((ρ 1) / 4)
  have kd : ρ 2 / 4 = pz_kd (pz_gt (ρ 0)) (pz_gN (ρ 0)) (pz_p (pz_cf (pz_gt (ρ 0)) (pz_gN (ρ 0)) (ρ 1 / 4))) := F50.2.2.1
  exact pz_op_no (by omega) (by omega) F95

theorem axq_rq2_4 : ax_RO ax_wC ax_XC axu_rq2_4 := by
  intro ρ hp hE hT
  have j0 : ρ 0 % 4 = 1 := pz_gj hE 0 (by decide) rfl
  have j1 : ρ 1 % 4 = 1 := pz_gj hE 1 (by decide) rfl
  obtain ⟨-, -, -, -, F50⟩ : ay_ex hp 8 ∧ ay_ex hp 10 ∧ ay_ex hp 11 ∧ ay_ex hp 12 ∧ pz_x50 (ρ 0) (ρ 1) (ay_at hp 8 5) (ay_at hp 8 6) (ay_at hp 8 7) (ay_at hp 8 8) (ay_at hp 10 0) (ay_at hp 10 1) (ay_at hp 10 2) (ay_at hp 10 3) (ay_at hp 10 4) (ay_at hp 8 9) (ay_at hp 8 11) (ay_at hp 8 10) (ay_at hp 8 3) (ay_at hp 8 4) (ay_at hp 11) (ay_at hp 12) := (ax_XF_lt (by decide)).mp (ax_gx hE (50, [3, 7]) (by decide))
  refine ⟨(fun y hy => by cases hy), _, List.mem_cons_self, ρ, fun _ _ => rfl, ax_px hE (by decide) (fun y hy => ?_)⟩
  cases List.mem_singleton.mp hy
  refine (ax_XF_lt (x := 97) (by decide)).mpr ?_
  show (0) / 4 ≤ (ρ 1) / 4
  exact Nat.zero_le _

theorem axq_rq3c43_4 : ax_RO ax_wC ax_XC axu_rq3c43_4 := by
  intro ρ hp hE hT
  have j0 : ρ 0 % 4 = 1 := pz_gj hE 0 (by decide) rfl
  have j1 : ρ 1 % 4 = 1 := pz_gj hE 1 (by decide) rfl
  have j2 : ρ 2 % 4 = 1 := pz_gj hE 2 (by decide) rfl
  obtain ⟨i3a, i3b, i3c, i3d⟩ := pz_gi hE 3 2147483691 2147483691 (by decide) rfl
  have j4 : ρ 4 % 4 = 1 := pz_gj hE 4 (by decide) rfl
  have c_kind : ay_at hp 8 7 = some (ρ 3) := ay_gfj hE 42 28 15 8 7 (by decide) (by rw [ax_vl_c (by decide)]) (by rw [ax_vl_c (by decide)])
  have o1 : ρ 4 < ρ 1 := pz_go hE 19 7 (by decide)
  obtain ⟨-, -, -, -, F50⟩ : ay_ex hp 8 ∧ ay_ex hp 10 ∧ ay_ex hp 11 ∧ ay_ex hp 12 ∧ pz_x50 (ρ 0) (ρ 1) (ay_at hp 8 5) (ay_at hp 8 6) (ay_at hp 8 7) (ay_at hp 8 8) (ay_at hp 10 0) (ay_at hp 10 1) (ay_at hp 10 2) (ay_at hp 10 3) (ay_at hp 10 4) (ay_at hp 8 9) (ay_at hp 8 11) (ay_at hp 8 10) (ay_at hp 8 3) (ay_at hp 8 4) (ay_at hp 11) (ay_at hp 12) := (ax_XF_lt (by decide)).mp (ax_gx hE (50, [3, 7]) (by decide))
  rw [c_kind] at F50
  have F79 : pz7 (pz_gt (ρ 0)) (pz_gN (ρ 0)) ((ρ 1) / 4) 9 := (ax_XF_lt (by decide)).mp (ax_gx hE (79, [3, 7]) (by decide))
  have F90 : (pz90 (pz_gt (ρ 0)) (pz_gN (ρ 0)) ((ρ 1) / 4) ((ρ 2) / 4) ∧ 1 ≤ (ρ 2) / 4) := (ax_XF_lt (by decide)).mp (ax_gx hE (90, [3, 7, 11]) (by decide))
  have st := pq_op F50 F79 F90.1 (show pz_op (ρ 3 / 4) = true by rw [show ρ 3 / 4 = 43 by omega]; rfl)
  obtain ⟨ρ', h1, h2⟩ := pz_pn1 (K := ρ 1 / 4 + 1) (xf := [(53, [3, 23]), (78, [3, 23]), (90, [3, 23, 11]), (1030, [7, 23]), (98, [7, 23]), (1030, [19, 23])]) hE (by decide) (fun ρ' h1 h2 x hx => by
    have q0 : ρ' 0 = ρ 0 := h1 0 (by decide)
    have q1 : ρ' 1 = ρ 1 := h1 1 (by decide)
    have q2 : ρ' 2 = ρ 2 := h1 2 (by decide)
    have q3 : ρ' 3 = ρ 3 := h1 3 (by decide)
    have q4 : ρ' 4 = ρ 4 := h1 4 (by decide)
    rcases List.mem_cons.mp hx with e | hx
    · subst e
      refine (ax_XF_lt (x := 53) (by decide)).mpr ?_
      show ay_ex hp 8 ∧ ay_ex hp 10 ∧ ay_ex hp 11 ∧ ay_ex hp 12 ∧ pz_x53 (ρ' 0) (ρ' 5) (ay_at hp 8 5) (ay_at hp 10 0) (ay_at hp 10 1) (ay_at hp 10 2) (ay_at hp 10 3) (ay_at hp 10 4) (ay_at hp 8 9) (ay_at hp 8 11) (ay_at hp 8 10) (ay_at hp 8 3) (ay_at hp 8 4) (ay_at hp 11) (ay_at hp 12)
      rw [q0, h2]
      exact ⟨(ax_cellT hT (q := 8) (g := 2) rfl), (ax_cellT hT (q := 10) (g := 1) rfl), (ax_cellT hT (q := 11) (g := 14) rfl), (ax_cellT hT (q := 12) (g := 15) rfl), pz_53 (pz_41 _) rfl st.1⟩
    rcases List.mem_cons.mp hx with e | hx
    · subst e
      refine (ax_XF_lt (x := 78) (by decide)).mpr ?_
      show pz7 (pz_gt (ρ' 0)) (pz_gN (ρ' 0)) ((ρ' 5) / 4) 8
      rw [q0, h2]
      rw [pz_41]
      exact st.2.1
    rcases List.mem_cons.mp hx with e | hx
    · subst e
      refine (ax_XF_lt (x := 90) (by decide)).mpr ?_
      show (pz90 (pz_gt (ρ' 0)) (pz_gN (ρ' 0)) ((ρ' 5) / 4) ((ρ' 2) / 4) ∧ 1 ≤ (ρ' 2) / 4)
      rw [q0, q2, h2]
      rw [pz_41]
      exact ⟨st.2.2, F90.2⟩
    rcases List.mem_cons.mp hx with e | hx
    · subst e
      refine (ax_XF_bi (o := 30) (by decide)).mpr (Or.inr ⟨rfl, ?_⟩)
      show ρ' 1 < ρ' 5
      rw [q1, h2]
      omega
    rcases List.mem_cons.mp hx with e | hx
    · subst e
      refine (ax_XF_lt (x := 98) (by decide)).mpr ?_
      show (ρ' 5) / 4 = (ρ' 1) / 4 + 1
      rw [q1, h2]
      rw [pz_41]
    cases List.mem_singleton.mp hx
    refine (ax_XF_bi (o := 30) (by decide)).mpr (Or.inr ⟨rfl, ?_⟩)
    show ρ' 4 < ρ' 5
    rw [q4, h2]
    omega)
  exact ⟨(fun y hy => by cases hy), _, List.mem_cons_self, ρ', h1, h2⟩

theorem axq_rq3c45_4 : ax_RO ax_wC ax_XC axu_rq3c45_4 := by
  intro ρ hp hE hT
  have j0 : ρ 0 % 4 = 1 := pz_gj hE 0 (by decide) rfl
  have j1 : ρ 1 % 4 = 1 := pz_gj hE 1 (by decide) rfl
  have j2 : ρ 2 % 4 = 1 := pz_gj hE 2 (by decide) rfl
  obtain ⟨i3a, i3b, i3c, i3d⟩ := pz_gi hE 3 2147483693 2147483693 (by decide) rfl
  have j4 : ρ 4 % 4 = 1 := pz_gj hE 4 (by decide) rfl
  have c_kind : ay_at hp 8 7 = some (ρ 3) := ay_gfj hE 42 28 15 8 7 (by decide) (by rw [ax_vl_c (by decide)]) (by rw [ax_vl_c (by decide)])
  have o1 : ρ 4 < ρ 1 := pz_go hE 19 7 (by decide)
  obtain ⟨-, -, -, -, F50⟩ : ay_ex hp 8 ∧ ay_ex hp 10 ∧ ay_ex hp 11 ∧ ay_ex hp 12 ∧ pz_x50 (ρ 0) (ρ 1) (ay_at hp 8 5) (ay_at hp 8 6) (ay_at hp 8 7) (ay_at hp 8 8) (ay_at hp 10 0) (ay_at hp 10 1) (ay_at hp 10 2) (ay_at hp 10 3) (ay_at hp 10 4) (ay_at hp 8 9) (ay_at hp 8 11) (ay_at hp 8 10) (ay_at hp 8 3) (ay_at hp 8 4) (ay_at hp 11) (ay_at hp 12) := (ax_XF_lt (by decide)).mp (ax_gx hE (50, [3, 7]) (by decide))
  rw [c_kind] at F50
  have F79 : pz7 (pz_gt (ρ 0)) (pz_gN (ρ 0)) ((ρ 1) / 4) 9 := (ax_XF_lt (by decide)).mp (ax_gx hE (79, [3, 7]) (by decide))
  have F90 : (pz90 (pz_gt (ρ 0)) (pz_gN (ρ 0)) ((ρ 1) / 4) ((ρ 2) / 4) ∧ 1 ≤ (ρ 2) / 4) := (ax_XF_lt (by decide)).mp (ax_gx hE (90, [3, 7, 11]) (by decide))
  have st := pq_op F50 F79 F90.1 (show pz_op (ρ 3 / 4) = true by rw [show ρ 3 / 4 = 45 by omega]; rfl)
  obtain ⟨ρ', h1, h2⟩ := pz_pn1 (K := ρ 1 / 4 + 1) (xf := [(53, [3, 23]), (78, [3, 23]), (90, [3, 23, 11]), (1030, [7, 23]), (98, [7, 23]), (1030, [19, 23])]) hE (by decide) (fun ρ' h1 h2 x hx => by
    have q0 : ρ' 0 = ρ 0 := h1 0 (by decide)
    have q1 : ρ' 1 = ρ 1 := h1 1 (by decide)
    have q2 : ρ' 2 = ρ 2 := h1 2 (by decide)
    have q3 : ρ' 3 = ρ 3 := h1 3 (by decide)
    have q4 : ρ' 4 = ρ 4 := h1 4 (by decide)
    rcases List.mem_cons.mp hx with e | hx
    · subst e
      refine (ax_XF_lt (x := 53) (by decide)).mpr ?_
      show ay_ex hp 8 ∧ ay_ex hp 10 ∧ ay_ex hp 11 ∧ ay_ex hp 12 ∧ pz_x53 (ρ' 0) (ρ' 5) (ay_at hp 8 5) (ay_at hp 10 0) (ay_at hp 10 1) (ay_at hp 10 2) (ay_at hp 10 3) (ay_at hp 10 4) (ay_at hp 8 9) (ay_at hp 8 11) (ay_at hp 8 10) (ay_at hp 8 3) (ay_at hp 8 4) (ay_at hp 11) (ay_at hp 12)
      rw [q0, h2]
      exact ⟨(ax_cellT hT (q := 8) (g := 2) rfl), (ax_cellT hT (q := 10) (g := 1) rfl), (ax_cellT hT (q := 11) (g := 14) rfl), (ax_cellT hT (q := 12) (g := 15) rfl), pz_53 (pz_41 _) rfl st.1⟩
    rcases List.mem_cons.mp hx with e | hx
    · subst e
      refine (ax_XF_lt (x := 78) (by decide)).mpr ?_
      show pz7 (pz_gt (ρ' 0)) (pz_gN (ρ' 0)) ((ρ' 5) / 4) 8
      rw [q0, h2]
      rw [pz_41]
      exact st.2.1
    rcases List.mem_cons.mp hx with e | hx
    · subst e
      refine (ax_XF_lt (x := 90) (by decide)).mpr ?_
      show (pz90 (pz_gt (ρ' 0)) (pz_gN (ρ' 0)) ((ρ' 5) / 4) ((ρ' 2) / 4) ∧ 1 ≤ (ρ' 2) / 4)
      rw [q0, q2, h2]
      rw [pz_41]
      exact ⟨st.2.2, F90.2⟩
    rcases List.mem_cons.mp hx with e | hx
    · subst e
      refine (ax_XF_bi (o := 30) (by decide)).mpr (Or.inr ⟨rfl, ?_⟩)
      show ρ' 1 < ρ' 5
      rw [q1, h2]
      omega
    rcases List.mem_cons.mp hx with e | hx
    · subst e
      refine (ax_XF_lt (x := 98) (by decide)).mpr ?_
      show (ρ' 5) / 4 = (ρ' 1) / 4 + 1
      rw [q1, h2]
      rw [pz_41]
    cases List.mem_singleton.mp hx
    refine (ax_XF_bi (o := 30) (by decide)).mpr (Or.inr ⟨rfl, ?_⟩)
    show ρ' 4 < ρ' 5
    rw [q4, h2]
    omega)
  exact ⟨(fun y hy => by cases hy), _, List.mem_cons_self, ρ', h1, h2⟩

theorem axq_rq5_4 : ax_RO ax_wC ax_XC axu_rq5_4 := by
  intro ρ hp hE hT
  have j0 : ρ 0 % 4 = 1 := pz_gj hE 0 (by decide) rfl
  have j1 : ρ 1 % 4 = 1 := pz_gj hE 1 (by decide) rfl
  have j2 : ρ 2 % 4 = 1 := pz_gj hE 2 (by decide) rfl
  have j3 : ρ 3 % 4 = 1 := pz_gj hE 3 (by decide) rfl
  have j4 : ρ 4 % 4 = 1 := pz_gj hE 4 (by decide) rfl
  have o1 : ρ 2 < ρ 1 := pz_go hE 11 7 (by decide)
  have o2 : ρ 3 < ρ 2 := pz_go hE 15 11 (by decide)
  have o3 : ρ 4 < ρ 3 := pz_go hE 19 15 (by decide)
  obtain ⟨-, -, -, -, F50⟩ : ay_ex hp 8 ∧ ay_ex hp 10 ∧ ay_ex hp 11 ∧ ay_ex hp 12 ∧ pz_x50 (ρ 0) (ρ 1) (ay_at hp 8 5) (ay_at hp 8 6) (ay_at hp 8 7) (ay_at hp 8 8) (ay_at hp 10 0) (ay_at hp 10 1) (ay_at hp 10 2) (ay_at hp 10 3) (ay_at hp 10 4) (ay_at hp 8 9) (ay_at hp 8 11) (ay_at hp 8 10) (ay_at hp 8 3) (ay_at hp 8 4) (ay_at hp 11) (ay_at hp 12) := (ax_XF_lt (by decide)).mp (ax_gx hE (50, [3, 7]) (by decide))
  refine ⟨(fun y hy => by cases hy), _, List.mem_cons_self, ρ, fun _ _ => rfl, ax_px hE (by decide) (fun y hy => ?_)⟩
  rcases List.mem_cons.mp hy with e | hy
  · subst e
    refine (ax_XF_bi (o := 30) (by decide)).mpr (Or.inr ⟨rfl, ?_⟩)
    show ρ 4 < ρ 1
    omega
  cases List.mem_singleton.mp hy
  refine (ax_XF_bi (o := 30) (by decide)).mpr (Or.inr ⟨rfl, ?_⟩)
  show ρ 3 < ρ 1
  omega

theorem axq_rq6_4 : ax_RO ax_wC ax_XC axu_rq6_4 := by
  intro ρ hp hE hT
  have j0 : ρ 0 % 4 = 1 := pz_gj hE 0 (by decide) rfl
  have j1 : ρ 1 % 4 = 1 := pz_gj hE 1 (by decide) rfl
  have j2 : ρ 2 % 4 = 1 := pz_gj hE 2 (by decide) rfl
  obtain ⟨i3a, i3b, i3c, i3d⟩ := pz_gi hE 3 2147483648 2147484447 (by decide) rfl
  obtain ⟨i4a, i4b, i4c, i4d⟩ := pz_gi hE 4 0 4294967295 (by decide) rfl
  have s1 : (ρ 3 / 4 + 2147483648) % 4294967296 + (4 / 4 + 2147483648) % 4294967296 = (ρ 4 / 4 + 2147483648) % 4294967296 + 2147483648 := pz_gs hE 15 4 19 (by decide)
  have o1 : ρ 2 < ρ 1 := pz_go hE 11 7 (by decide)
  obtain ⟨-, -, -, -, F50⟩ : ay_ex hp 8 ∧ ay_ex hp 10 ∧ ay_ex hp 11 ∧ ay_ex hp 12 ∧ pz_x50 (ρ 0) (ρ 1) (ay_at hp 8 5) (ay_at hp 8 6) (ay_at hp 8 7) (ay_at hp 8 8) (ay_at hp 10 0) (ay_at hp 10 1) (ay_at hp 10 2) (ay_at hp 10 3) (ay_at hp 10 4) (ay_at hp 8 9) (ay_at hp 8 11) (ay_at hp 8 10) (ay_at hp 8 3) (ay_at hp 8 4) (ay_at hp 11) (ay_at hp 12) := (ax_XF_lt (by decide)).mp (ax_gx hE (50, [3, 7]) (by decide))
  have F97 : (ρ 3) / 4 ≤ (ρ 2) / 4 := (ax_XF_lt (by decide)).mp (ax_gx hE (97, [11, 15]) (by decide))
  refine ⟨(fun y hy => by cases hy), _, List.mem_cons_self, ρ, fun _ _ => rfl, ax_px hE (by decide) (fun y hy => ?_)⟩
  cases List.mem_singleton.mp hy
  refine (ax_XF_lt (x := 97) (by decide)).mpr ?_
  show (ρ 4) / 4 ≤ (ρ 1) / 4
  omega

theorem axq_rq7_4 : ax_RO ax_wC ax_XC axu_rq7_4 := by
  intro ρ hp hE hT
  have j0 : ρ 0 % 4 = 1 := pz_gj hE 0 (by decide) rfl
  have j1 : ρ 1 % 4 = 1 := pz_gj hE 1 (by decide) rfl
  obtain ⟨i2a, i2b, i2c, i2d⟩ := pz_gi hE 2 2147484448 2147484448 (by decide) rfl
  obtain ⟨-, -, F30⟩ : ay_ex hp 8 ∧ ay_ex hp 9 ∧ pz_x30 (ρ 0) (ay_at hp 8 1) (ay_at hp 9) := (ax_XF_lt (by decide)).mp (ax_gx hE (30, [3]) (by decide))
  obtain ⟨-, -, -, -, F50⟩ : ay_ex hp 8 ∧ ay_ex hp 10 ∧ ay_ex hp 11 ∧ ay_ex hp 12 ∧ pz_x50 (ρ 0) (ρ 1) (ay_at hp 8 5) (ay_at hp 8 6) (ay_at hp 8 7) (ay_at hp 8 8) (ay_at hp 10 0) (ay_at hp 10 1) (ay_at hp 10 2) (ay_at hp 10 3) (ay_at hp 10 4) (ay_at hp 8 9) (ay_at hp 8 11) (ay_at hp 8 10) (ay_at hp 8 3) (ay_at hp 8 4) (ay_at hp 11) (ay_at hp 12) := (ax_XF_lt (by decide)).mp (ax_gx hE (50, [3, 7]) (by decide))
  have F79 : pz7 (pz_gt (ρ 0)) (pz_gN (ρ 0)) ((ρ 1) / 4) 9 := (ax_XF_lt (by decide)).mp (ax_gx hE (79, [3, 7]) (by decide))
  have F97 : (ρ 2) / 4 ≤ (ρ 1) / 4 := (ax_XF_lt (by decide)).mp (ax_gx hE (97, [7, 11]) (by decide))
  refine ⟨(fun y hy => by cases hy), _, List.mem_cons_self, ρ, fun _ _ => rfl, ax_px hE (by decide) (fun y hy => ?_)⟩
  cases List.mem_singleton.mp hy
  refine (ax_XF_lt (x := 94) (by decide)).mpr ?_
  show pz94 (pz_gt (ρ 0)) (pz_gN (ρ 0)) ((ρ 1) / 4)
  have kd := pq_far (n := ρ 1 / 4) F79 (by decide) (show pz_gN (ρ 0) ≤ 800 from F30.2.1) (by omega)
  show pz_op (pz_kd (pz_gt (ρ 0)) (pz_gN (ρ 0)) (pz_p (pz_cf (pz_gt (ρ 0)) (pz_gN (ρ 0)) (ρ 1 / 4)))) = false
  rw [kd]
  rfl

theorem axq_rq8a_4 : ax_RO ax_wC ax_XC axu_rq8a_4 := by
  intro ρ hp hE hT
  have j0 : ρ 0 % 4 = 1 := pz_gj hE 0 (by decide) rfl
  have j1 : ρ 1 % 4 = 1 := pz_gj hE 1 (by decide) rfl
  obtain ⟨i2a, i2b, i2c, i2d⟩ := pz_gi hE 2 0 2147483690 (by decide) rfl
  have c_kind : ay_at hp 8 7 = some (ρ 2) := ay_gfj hE 42 28 11 8 7 (by decide) (by rw [ax_vl_c (by decide)]) (by rw [ax_vl_c (by decide)])
  obtain ⟨-, -, -, -, F50⟩ : ay_ex hp 8 ∧ ay_ex hp 10 ∧ ay_ex hp 11 ∧ ay_ex hp 12 ∧ pz_x50 (ρ 0) (ρ 1) (ay_at hp 8 5) (ay_at hp 8 6) (ay_at hp 8 7) (ay_at hp 8 8) (ay_at hp 10 0) (ay_at hp 10 1) (ay_at hp 10 2) (ay_at hp 10 3) (ay_at hp 10 4) (ay_at hp 8 9) (ay_at hp 8 11) (ay_at hp 8 10) (ay_at hp 8 3) (ay_at hp 8 4) (ay_at hp 11) (ay_at hp 12) := (ax_XF_lt (by decide)).mp (ax_gx hE (50, [3, 7]) (by decide))
  rw [c_kind] at F50
  have F95 : pz95 (pz_gt (ρ 0)) (pz_gN (ρ 0)) ((ρ 1) / 4) := (ax_XF_lt (by decide)).mp (ax_gx hE (95, [3, 7]) (by decide))
  refine ⟨(fun y hy => by cases hy), _, List.mem_cons_self, ρ, fun _ _ => rfl, ax_px hE (by decide) (fun y hy => ?_)⟩
  cases List.mem_singleton.mp hy
  refine (ax_XF_lt (x := 94) (by decide)).mpr ?_
  show pz94 (pz_gt (ρ 0)) (pz_gN (ρ 0)) ((ρ 1) / 4)
  have kd : ρ 2 / 4 = pz_kd (pz_gt (ρ 0)) (pz_gN (ρ 0)) (pz_p (pz_cf (pz_gt (ρ 0)) (pz_gN (ρ 0)) (ρ 1 / 4))) := F50.2.2.1
  exact pz_op_no (by omega) (by omega) F95

theorem axq_rq8b_4 : ax_RO ax_wC ax_XC axu_rq8b_4 := by
  intro ρ hp hE hT
  have j0 : ρ 0 % 4 = 1 := pz_gj hE 0 (by decide) rfl
  have j1 : ρ 1 % 4 = 1 := pz_gj hE 1 (by decide) rfl
  obtain ⟨i2a, i2b, i2c, i2d⟩ := pz_gi hE 2 2147483692 2147483692 (by decide) rfl
  have c_kind : ay_at hp 8 7 = some (ρ 2) := ay_gfj hE 42 28 11 8 7 (by decide) (by rw [ax_vl_c (by decide)]) (by rw [ax_vl_c (by decide)])
  obtain ⟨-, -, -, -, F50⟩ : ay_ex hp 8 ∧ ay_ex hp 10 ∧ ay_ex hp 11 ∧ ay_ex hp 12 ∧ pz_x50 (ρ 0) (ρ 1) (ay_at hp 8 5) (ay_at hp 8 6) (ay_at hp 8 7) (ay_at hp 8 8) (ay_at hp 10 0) (ay_at hp 10 1) (ay_at hp 10 2) (ay_at hp 10 3) (ay_at hp 10 4) (ay_at hp 8 9) (ay_at hp 8 11) (ay_at hp 8 10) (ay_at hp 8 3) (ay_at hp 8 4) (ay_at hp 11) (ay_at hp 12) := (ax_XF_lt (by decide)).mp (ax_gx hE (50, [3, 7]) (by decide))
  rw [c_kind] at F50
  have F95 : pz95 (pz_gt (ρ 0)) (pz_gN (ρ 0)) ((ρ 1) / 4) := (ax_XF_lt (by decide)).mp (ax_gx hE (95, [3, 7]) (by decide))
  refine ⟨(fun y hy => by cases hy), _, List.mem_cons_self, ρ, fun _ _ => rfl, ax_px hE (by decide) (fun y hy => ?_)⟩
  cases List.mem_singleton.mp hy
  refine (ax_XF_lt (x := 94) (by decide)).mpr ?_
  show pz94 (pz_gt (ρ 0)) (pz_gN (ρ 0)) ((ρ 1) / 4)
  have kd : ρ 2 / 4 = pz_kd (pz_gt (ρ 0)) (pz_gN (ρ 0)) (pz_p (pz_cf (pz_gt (ρ 0)) (pz_gN (ρ 0)) (ρ 1 / 4))) := F50.2.2.1
  exact pz_op_no (by omega) (by omega) F95

theorem axq_rq8c_4 : ax_RO ax_wC ax_XC axu_rq8c_4 := by
  intro ρ hp hE hT
  have j0 : ρ 0 % 4 = 1 := pz_gj hE 0 (by decide) rfl
  have j1 : ρ 1 % 4 = 1 := pz_gj hE 1 (by decide) rfl
  obtain ⟨i2a, i2b, i2c, i2d⟩ := pz_gi hE 2 2147483694 4294967295 (by decide) rfl
  have c_kind : ay_at hp 8 7 = some (ρ 2) := ay_gfj hE 42 28 11 8 7 (by decide) (by rw [ax_vl_c (by decide)]) (by rw [ax_vl_c (by decide)])
  obtain ⟨-, -, -, -, F50⟩ : ay_ex hp 8 ∧ ay_ex hp 10 ∧ ay_ex hp 11 ∧ ay_ex hp 12 ∧ pz_x50 (ρ 0) (ρ 1) (ay_at hp 8 5) (ay_at hp 8 6) (ay_at hp 8 7) (ay_at hp 8 8) (ay_at hp 10 0) (ay_at hp 10 1) (ay_at hp 10 2) (ay_at hp 10 3) (ay_at hp 10 4) (ay_at hp 8 9) (ay_at hp 8 11) (ay_at hp 8 10) (ay_at hp 8 3) (ay_at hp 8 4) (ay_at hp 11) (ay_at hp 12) := (ax_XF_lt (by decide)).mp (ax_gx hE (50, [3, 7]) (by decide))
  rw [c_kind] at F50
  have F95 : pz95 (pz_gt (ρ 0)) (pz_gN (ρ 0)) ((ρ 1) / 4) := (ax_XF_lt (by decide)).mp (ax_gx hE (95, [3, 7]) (by decide))
  refine ⟨(fun y hy => by cases hy), _, List.mem_cons_self, ρ, fun _ _ => rfl, ax_px hE (by decide) (fun y hy => ?_)⟩
  cases List.mem_singleton.mp hy
  refine (ax_XF_lt (x := 94) (by decide)).mpr ?_
  show pz94 (pz_gt (ρ 0)) (pz_gN (ρ 0)) ((ρ 1) / 4)
  have kd : ρ 2 / 4 = pz_kd (pz_gt (ρ 0)) (pz_gN (ρ 0)) (pz_p (pz_cf (pz_gt (ρ 0)) (pz_gN (ρ 0)) (ρ 1 / 4))) := F50.2.2.1
  exact pz_op_no (by omega) (by omega) F95

theorem axq_rq2_5 : ax_RO ax_wC ax_XC axu_rq2_5 := by
  intro ρ hp hE hT
  have j0 : ρ 0 % 4 = 1 := pz_gj hE 0 (by decide) rfl
  have j1 : ρ 1 % 4 = 1 := pz_gj hE 1 (by decide) rfl
  obtain ⟨-, -, -, -, F50⟩ : ay_ex hp 8 ∧ ay_ex hp 10 ∧ ay_ex hp 11 ∧ ay_ex hp 12 ∧ pz_x50 (ρ 0) (ρ 1) (ay_at hp 8 5) (ay_at hp 8 6) (ay_at hp 8 7) (ay_at hp 8 8) (ay_at hp 10 0) (ay_at hp 10 1) (ay_at hp 10 2) (ay_at hp 10 3) (ay_at hp 10 4) (ay_at hp 8 9) (ay_at hp 8 11) (ay_at hp 8 10) (ay_at hp 8 3) (ay_at hp 8 4) (ay_at hp 11) (ay_at hp 12) := (ax_XF_lt (by decide)).mp (ax_gx hE (50, [3, 7]) (by decide))
  refine ⟨(fun y hy => by cases hy), _, List.mem_cons_self, ρ, fun _ _ => rfl, ax_px hE (by decide) (fun y hy => ?_)⟩
  cases List.mem_singleton.mp hy
  refine (ax_XF_lt (x := 97) (by decide)).mpr ?_
  show (0) / 4 ≤ (ρ 1) / 4
  exact Nat.zero_le _

theorem axq_rq3c43_5 : ax_RO ax_wC ax_XC axu_rq3c43_5 := by
  intro ρ hp hE hT
  have j0 : ρ 0 % 4 = 1 := pz_gj hE 0 (by decide) rfl
  have j1 : ρ 1 % 4 = 1 := pz_gj hE 1 (by decide) rfl
  have j2 : ρ 2 % 4 = 1 := pz_gj hE 2 (by decide) rfl
  obtain ⟨i3a, i3b, i3c, i3d⟩ := pz_gi hE 3 2147483691 2147483691 (by decide) rfl
  have j4 : ρ 4 % 4 = 1 := pz_gj hE 4 (by decide) rfl
  have c_kind : ay_at hp 8 7 = some (ρ 3) := ay_gfj hE 42 28 15 8 7 (by decide) (by rw [ax_vl_c (by decide)]) (by rw [ax_vl_c (by decide)])
  have o1 : ρ 4 < ρ 1 := pz_go hE 19 7 (by decide)
  obtain ⟨-, -, -, -, F50⟩ : ay_ex hp 8 ∧ ay_ex hp 10 ∧ ay_ex hp 11 ∧ ay_ex hp 12 ∧ pz_x50 (ρ 0) (ρ 1) (ay_at hp 8 5) (ay_at hp 8 6) (ay_at hp 8 7) (ay_at hp 8 8) (ay_at hp 10 0) (ay_at hp 10 1) (ay_at hp 10 2) (ay_at hp 10 3) (ay_at hp 10 4) (ay_at hp 8 9) (ay_at hp 8 11) (ay_at hp 8 10) (ay_at hp 8 3) (ay_at hp 8 4) (ay_at hp 11) (ay_at hp 12) := (ax_XF_lt (by decide)).mp (ax_gx hE (50, [3, 7]) (by decide))
  rw [c_kind] at F50
  have F79 : pz7 (pz_gt (ρ 0)) (pz_gN (ρ 0)) ((ρ 1) / 4) 9 := (ax_XF_lt (by decide)).mp (ax_gx hE (79, [3, 7]) (by decide))
  have F90 : (pz90 (pz_gt (ρ 0)) (pz_gN (ρ 0)) ((ρ 1) / 4) ((ρ 2) / 4) ∧ 1 ≤ (ρ 2) / 4) := (ax_XF_lt (by decide)).mp (ax_gx hE (90, [3, 7, 11]) (by decide))
  have st := pq_op F50 F79 F90.1 (show pz_op (ρ 3 / 4) = true by rw [show ρ 3 / 4 = 43 by omega]; rfl)
  obtain ⟨ρ', h1, h2⟩ := pz_pn1 (K := ρ 1 / 4 + 1) (xf := [(53, [3, 23]), (78, [3, 23]), (90, [3, 23, 11]), (1030, [7, 23]), (98, [7, 23]), (1030, [19, 23])]) hE (by decide) (fun ρ' h1 h2 x hx => by
    have q0 : ρ' 0 = ρ 0 := h1 0 (by decide)
    have q1 : ρ' 1 = ρ 1 := h1 1 (by decide)
    have q2 : ρ' 2 = ρ 2 := h1 2 (by decide)
    have q3 : ρ' 3 = ρ 3 := h1 3 (by decide)
    have q4 : ρ' 4 = ρ 4 := h1 4 (by decide)
    rcases List.mem_cons.mp hx with e | hx
    · subst e
      refine (ax_XF_lt (x := 53) (by decide)).mpr ?_
      show ay_ex hp 8 ∧ ay_ex hp 10 ∧ ay_ex hp 11 ∧ ay_ex hp 12 ∧ pz_x53 (ρ' 0) (ρ' 5) (ay_at hp 8 5) (ay_at hp 10 0) (ay_at hp 10 1) (ay_at hp 10 2) (ay_at hp 10 3) (ay_at hp 10 4) (ay_at hp 8 9) (ay_at hp 8 11) (ay_at hp 8 10) (ay_at hp 8 3) (ay_at hp 8 4) (ay_at hp 11) (ay_at hp 12)
      rw [q0, h2]
      exact ⟨(ax_cellT hT (q := 8) (g := 2) rfl), (ax_cellT hT (q := 10) (g := 1) rfl), (ax_cellT hT (q := 11) (g := 14) rfl), (ax_cellT hT (q := 12) (g := 15) rfl), pz_53 (pz_41 _) rfl st.1⟩
    rcases List.mem_cons.mp hx with e | hx
    · subst e
      refine (ax_XF_lt (x := 78) (by decide)).mpr ?_
      show pz7 (pz_gt (ρ' 0)) (pz_gN (ρ' 0)) ((ρ' 5) / 4) 8
      rw [q0, h2]
      rw [pz_41]
      exact st.2.1
    rcases List.mem_cons.mp hx with e | hx
    · subst e
      refine (ax_XF_lt (x := 90) (by decide)).mpr ?_
      show (pz90 (pz_gt (ρ' 0)) (pz_gN (ρ' 0)) ((ρ' 5) / 4) ((ρ' 2) / 4) ∧ 1 ≤ (ρ' 2) / 4)
      rw [q0, q2, h2]
      rw [pz_41]
      exact ⟨st.2.2, F90.2⟩
    rcases List.mem_cons.mp hx with e | hx
    · subst e
      refine (ax_XF_bi (o := 30) (by decide)).mpr (Or.inr ⟨rfl, ?_⟩)
      show ρ' 1 < ρ' 5
      rw [q1, h2]
      omega
    rcases List.mem_cons.mp hx with e | hx
    · subst e
      refine (ax_XF_lt (x := 98) (by decide)).mpr ?_
      show (ρ' 5) / 4 = (ρ' 1) / 4 + 1
      rw [q1, h2]
      rw [pz_41]
    cases List.mem_singleton.mp hx
    refine (ax_XF_bi (o := 30) (by decide)).mpr (Or.inr ⟨rfl, ?_⟩)
    show ρ' 4 < ρ' 5
    rw [q4, h2]
    omega)
  exact ⟨(fun y hy => by cases hy), _, List.mem_cons_self, ρ', h1, h2⟩

