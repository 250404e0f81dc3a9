theorem axq_rut1_2 : ax_RO ax_wC ax_XC axu_rut1_2 := by
  intro ρ hp hE hT
  have j0 : ρ 0 % 4 = 1 := pz_gj hE 0 (by decide) rfl
  have j1 : ρ 1 % 4 = 1 := pz_gj hE 1 (by decide) rfl
  have j2 : ρ 2 % 4 = 1 := pz_gj hE 2 (by decide) rfl
  have j3 : ρ 3 % 4 = 1 := pz_gj hE 3 (by decide) rfl
  have o1 : ρ 2 < ρ 3 := pz_go hE 11 15 (by decide)
  have o2 : ρ 1 < ρ 2 := pz_go hE 7 11 (by decide)
  obtain ⟨-, -, -, -, F50⟩ : ay_ex hp 8 ∧ ay_ex hp 10 ∧ ay_ex hp 11 ∧ ay_ex hp 12 ∧ pz_x50 (ρ 0) (ρ 3) (ay_at hp 8 5) (ay_at hp 8 6) (ay_at hp 8 7) (ay_at hp 8 8) (ay_at hp 10 0) (ay_at hp 10 1) (ay_at hp 10 2) (ay_at hp 10 3) (ay_at hp 10 4) (ay_at hp 8 9) (ay_at hp 8 11) (ay_at hp 8 10) (ay_at hp 8 3) (ay_at hp 8 4) (ay_at hp 11) (ay_at hp 12) := (ax_XF_lt (by decide)).mp (ax_gx hE (50, [3, 15]) (by decide))
  refine ⟨(fun y hy => by cases hy), _, List.mem_cons_self, ρ, fun _ _ => rfl, ax_px hE (by decide) (fun y hy => ?_)⟩
  cases List.mem_singleton.mp hy
  refine (ax_XF_bi (o := 30) (by decide)).mpr (Or.inr ⟨rfl, ?_⟩)
  show ρ 1 < ρ 3
  omega

theorem axq_rut2_2 : ax_RO ax_wC ax_XC axu_rut2_2 := by
  intro ρ hp hE hT
  have j0 : ρ 0 % 4 = 1 := pz_gj hE 0 (by decide) rfl
  have j1 : ρ 1 % 4 = 1 := pz_gj hE 1 (by decide) rfl
  have j2 : ρ 2 % 4 = 1 := pz_gj hE 2 (by decide) rfl
  have j3 : ρ 3 % 4 = 1 := pz_gj hE 3 (by decide) rfl
  have o1 : ρ 2 < ρ 3 := pz_go hE 11 15 (by decide)
  have o2 : ρ 1 < ρ 2 := pz_go hE 7 11 (by decide)
  obtain ⟨-, -, -, -, F50⟩ : ay_ex hp 8 ∧ ay_ex hp 10 ∧ ay_ex hp 11 ∧ ay_ex hp 12 ∧ pz_x50 (ρ 0) (ρ 3) (ay_at hp 8 5) (ay_at hp 8 6) (ay_at hp 8 7) (ay_at hp 8 8) (ay_at hp 10 0) (ay_at hp 10 1) (ay_at hp 10 2) (ay_at hp 10 3) (ay_at hp 10 4) (ay_at hp 8 9) (ay_at hp 8 11) (ay_at hp 8 10) (ay_at hp 8 3) (ay_at hp 8 4) (ay_at hp 11) (ay_at hp 12) := (ax_XF_lt (by decide)).mp (ax_gx hE (50, [3, 15]) (by decide))
  refine ⟨(fun y hy => by cases hy), _, List.mem_cons_self, ρ, fun _ _ => rfl, ax_px hE (by decide) (fun y hy => ?_)⟩
  cases List.mem_singleton.mp hy
  refine (ax_XF_bi (o := 30) (by decide)).mpr (Or.inr ⟨rfl, ?_⟩)
  show ρ 1 < ρ 3
  omega

theorem axq_rut3_2 : ax_RO ax_wC ax_XC axu_rut3_2 := by
  intro ρ hp hE hT
  have j0 : ρ 0 % 4 = 1 := pz_gj hE 0 (by decide) rfl
  have j1 : ρ 1 % 4 = 1 := pz_gj hE 1 (by decide) rfl
  have j2 : ρ 2 % 4 = 1 := pz_gj hE 2 (by decide) rfl
  have j3 : ρ 3 % 4 = 1 := pz_gj hE 3 (by decide) rfl
  have o1 : ρ 2 < ρ 3 := pz_go hE 11 15 (by decide)
  have o2 : ρ 1 < ρ 2 := pz_go hE 7 11 (by decide)
  obtain ⟨-, -, -, -, F50⟩ : ay_ex hp 8 ∧ ay_ex hp 10 ∧ ay_ex hp 11 ∧ ay_ex hp 12 ∧ pz_x50 (ρ 0) (ρ 3) (ay_at hp 8 5) (ay_at hp 8 6) (ay_at hp 8 7) (ay_at hp 8 8) (ay_at hp 10 0) (ay_at hp 10 1) (ay_at hp 10 2) (ay_at hp 10 3) (ay_at hp 10 4) (ay_at hp 8 9) (ay_at hp 8 11) (ay_at hp 8 10) (ay_at hp 8 3) (ay_at hp 8 4) (ay_at hp 11) (ay_at hp 12) := (ax_XF_lt (by decide)).mp (ax_gx hE (50, [3, 15]) (by decide))
  refine ⟨(fun y hy => by cases hy), _, List.mem_cons_self, ρ, fun _ _ => rfl, ax_px hE (by decide) (fun y hy => ?_)⟩
  cases List.mem_singleton.mp hy
  refine (ax_XF_bi (o := 30) (by decide)).mpr (Or.inr ⟨rfl, ?_⟩)
  show ρ 1 < ρ 3
  omega

theorem axq_rp5_2 : ax_RO ax_wC ax_XC axu_rp5_2 := by
  intro ρ hp hE hT
  have j0 : ρ 0 % 4 = 1 := pz_gj hE 0 (by decide) rfl
  have j1 : ρ 1 % 4 = 1 := pz_gj hE 1 (by decide) rfl
  have j2 : ρ 2 % 4 = 1 := pz_gj hE 2 (by decide) rfl
  have j3 : ρ 3 % 4 = 1 := pz_gj hE 3 (by decide) rfl
  have j4 : ρ 4 % 4 = 1 := pz_gj hE 4 (by decide) rfl
  have o1 : ρ 2 < ρ 1 := pz_go hE 11 7 (by decide)
  have o2 : ρ 3 < ρ 2 := pz_go hE 15 11 (by decide)
  have o3 : ρ 4 < ρ 3 := pz_go hE 19 15 (by decide)
  obtain ⟨-, -, -, -, F50⟩ : ay_ex hp 8 ∧ ay_ex hp 10 ∧ ay_ex hp 11 ∧ ay_ex hp 12 ∧ pz_x50 (ρ 0) (ρ 1) (ay_at hp 8 5) (ay_at hp 8 6) (ay_at hp 8 7) (ay_at hp 8 8) (ay_at hp 10 0) (ay_at hp 10 1) (ay_at hp 10 2) (ay_at hp 10 3) (ay_at hp 10 4) (ay_at hp 8 9) (ay_at hp 8 11) (ay_at hp 8 10) (ay_at hp 8 3) (ay_at hp 8 4) (ay_at hp 11) (ay_at hp 12) := (ax_XF_lt (by decide)).mp (ax_gx hE (50, [3, 7]) (by decide))
  refine ⟨(fun y hy => by cases hy), _, List.mem_cons_self, ρ, fun _ _ => rfl, ax_px hE (by decide) (fun y hy => ?_)⟩
  rcases List.mem_cons.mp hy with e | hy
  · subst e
    refine (ax_XF_bi (o := 30) (by decide)).mpr (Or.inr ⟨rfl, ?_⟩)
    show ρ 4 < ρ 1
    omega
  cases List.mem_singleton.mp hy
  refine (ax_XF_bi (o := 30) (by decide)).mpr (Or.inr ⟨rfl, ?_⟩)
  show ρ 3 < ρ 1
  omega

theorem axq_rq5_2 : ax_RO ax_wC ax_XC axu_rq5_2 := by
  intro ρ hp hE hT
  have j0 : ρ 0 % 4 = 1 := pz_gj hE 0 (by decide) rfl
  have j1 : ρ 1 % 4 = 1 := pz_gj hE 1 (by decide) rfl
  have j2 : ρ 2 % 4 = 1 := pz_gj hE 2 (by decide) rfl
  have j3 : ρ 3 % 4 = 1 := pz_gj hE 3 (by decide) rfl
  have j4 : ρ 4 % 4 = 1 := pz_gj hE 4 (by decide) rfl
  have o1 : ρ 2 < ρ 1 := pz_go hE 11 7 (by decide)
  have o2 : ρ 3 < ρ 2 := pz_go hE 15 11 (by decide)
  have o3 : ρ 4 < ρ 3 := pz_go hE 19 15 (by decide)
  obtain ⟨-, -, -, -, F50⟩ : ay_ex hp 8 ∧ ay_ex hp 10 ∧ ay_ex hp 11 ∧ ay_ex hp 12 ∧ pz_x50 (ρ 0) (ρ 1) (ay_at hp 8 5) (ay_at hp 8 6) (ay_at hp 8 7) (ay_at hp 8 8) (ay_at hp 10 0) (ay_at hp 10 1) (ay_at hp 10 2) (ay_at hp 10 3) (ay_at hp 10 4) (ay_at hp 8 9) (ay_at hp 8 11) (ay_at hp 8 10) (ay_at hp 8 3) (ay_at hp 8 4) (ay_at hp 11) (ay_at hp 12) := (ax_XF_lt (by decide)).mp (ax_gx hE (50, [3, 7]) (by decide))
  refine ⟨(fun y hy => by cases hy), _, List.mem_cons_self, ρ, fun _ _ => rfl, ax_px hE (by decide) (fun y hy => ?_)⟩
  rcases List.mem_cons.mp hy with e | hy
  · subst e
    refine (ax_XF_bi (o := 30) (by decide)).mpr (Or.inr ⟨rfl, ?_⟩)
    show ρ 4 < ρ 1
    omega
  cases List.mem_singleton.mp hy
  refine (ax_XF_bi (o := 30) (by decide)).mpr (Or.inr ⟨rfl, ?_⟩)
  show ρ 3 < ρ 1
  omega

theorem axq_rut1_3 : ax_RO ax_wC ax_XC axu_rut1_3 := by
  intro ρ hp hE hT
  have j0 : ρ 0 % 4 = 1 := pz_gj hE 0 (by decide) rfl
  have j1 : ρ 1 % 4 = 1 := pz_gj hE 1 (by decide) rfl
  have j2 : ρ 2 % 4 = 1 := pz_gj hE 2 (by decide) rfl
  have j3 : ρ 3 % 4 = 1 := pz_gj hE 3 (by decide) rfl
  have o1 : ρ 2 < ρ 3 := pz_go hE 11 15 (by decide)
  have o2 : ρ 1 < ρ 2 := pz_go hE 7 11 (by decide)
  obtain ⟨-, -, -, -, F50⟩ : ay_ex hp 8 ∧ ay_ex hp 10 ∧ ay_ex hp 11 ∧ ay_ex hp 12 ∧ pz_x50 (ρ 0) (ρ 3) (ay_at hp 8 5) (ay_at hp 8 6) (ay_at hp 8 7) (ay_at hp 8 8) (ay_at hp 10 0) (ay_at hp 10 1) (ay_at hp 10 2) (ay_at hp 10 3) (ay_at hp 10 4) (ay_at hp 8 9) (ay_at hp 8 11) (ay_at hp 8 10) (ay_at hp 8 3) (ay_at hp 8 4) (ay_at hp 11) (ay_at hp 12) := (ax_XF_lt (by decide)).mp (ax_gx hE (50, [3, 15]) (by decide))
  refine ⟨(fun y hy => by cases hy), _, List.mem_cons_self, ρ, fun _ _ => rfl, ax_px hE (by decide) (fun y hy => ?_)⟩
  cases List.mem_singleton.mp hy
  refine (ax_XF_bi (o := 30) (by decide)).mpr (Or.inr ⟨rfl, ?_⟩)
  show ρ 1 < ρ 3
  omega

theorem axq_rut2_3 : ax_RO ax_wC ax_XC axu_rut2_3 := by
  intro ρ hp hE hT
  have j0 : ρ 0 % 4 = 1 := pz_gj hE 0 (by decide) rfl
  have j1 : ρ 1 % 4 = 1 := pz_gj hE 1 (by decide) rfl
  have j2 : ρ 2 % 4 = 1 := pz_gj hE 2 (by decide) rfl
  have j3 : ρ 3 % 4 = 1 := pz_gj hE 3 (by decide) rfl
  have o1 : ρ 2 < ρ 3 := pz_go hE 11 15 (by decide)
  have o2 : ρ 1 < ρ 2 := pz_go hE 7 11 (by decide)
  obtain ⟨-, -, -, -, F50⟩ : ay_ex hp 8 ∧ ay_ex hp 10 ∧ ay_ex hp 11 ∧ ay_ex hp 12 ∧ pz_x50 (ρ 0) (ρ 3) (ay_at hp 8 5) (ay_at hp 8 6) (ay_at hp 8 7) (ay_at hp 8 8) (ay_at hp 10 0) (ay_at hp 10 1) (ay_at hp 10 2) (ay_at hp 10 3) (ay_at hp 10 4) (ay_at hp 8 9) (ay_at hp 8 11) (ay_at hp 8 10) (ay_at hp 8 3) (ay_at hp 8 4) (ay_at hp 11) (ay_at hp 12) := (ax_XF_lt (by decide)).mp (ax_gx hE (50, [3, 15]) (by decide))
  refine ⟨(fun y hy => by cases hy), _, List.mem_cons_self, ρ, fun _ _ => rfl, ax_px hE (by decide) (fun y hy => ?_)⟩
  cases List.mem_singleton.mp hy
  refine (ax_XF_bi (o := 30) (by decide)).mpr (Or.inr ⟨rfl, ?_⟩)
  show ρ 1 < ρ 3
  omega

theorem axq_rut3_3 : ax_RO ax_wC ax_XC axu_rut3_3 := by
  intro ρ hp hE hT
  have j0 : ρ 0 % 4 = 1 := pz_gj hE 0 (by decide) rfl
  have j1 : ρ 1 % 4 = 1 := pz_gj hE 1 (by decide) rfl
  have j2 : ρ 2 % 4 = 1 := pz_gj hE 2 (by decide) rfl
  have j3 : ρ 3 % 4 = 1 := pz_gj hE 3 (by decide) rfl
  have o1 : ρ 2 < ρ 3 := pz_go hE 11 15 (by decide)
  have o2 : ρ 1 < ρ 2 := pz_go hE 7 11 (by decide)
  obtain ⟨-, -, -, -, F50⟩ : ay_ex hp 8 ∧ ay_ex hp 10 ∧ ay_ex hp 11 ∧ ay_ex hp 12 ∧ pz_x50 (ρ 0) (ρ 3) (ay_at hp 8 5) (ay_at hp 8 6) (ay_at hp 8 7) (ay_at hp 8 8) (ay_at hp 10 0) (ay_at hp 10 1) (ay_at hp 10 2) (ay_at hp 10 3) (ay_at hp 10 4) (ay_at hp 8 9) (ay_at hp 8 11) (ay_at hp 8 10) (ay_at hp 8 3) (ay_at hp 8 4) (ay_at hp 11) (ay_at hp 12) := (ax_XF_lt (by decide)).mp (ax_gx hE (50, [3, 15]) (by decide))
  refine ⟨(fun y hy => by cases hy), _, List.mem_cons_self, ρ, fun _ _ => rfl, ax_px hE (by decide) (fun y hy => ?_)⟩
  cases List.mem_singleton.mp hy
  refine (ax_XF_bi (o := 30) (by decide)).mpr (Or.inr ⟨rfl, ?_⟩)
  show ρ 1 < ρ 3
  omega

theorem axq_rp5_3 : ax_RO ax_wC ax_XC axu_rp5_3 := by
  intro ρ hp hE hT
  have j0 : ρ 0 % 4 = 1 := pz_gj hE 0 (by decide) rfl
  have j1 : ρ 1 % 4 = 1 := pz_gj hE 1 (by decide) rfl
  have j2 : ρ 2 % 4 = 1 := pz_gj hE 2 (by decide) rfl
  have j3 : ρ 3 % 4 = 1 := pz_gj hE 3 (by decide) rfl
  have j4 : ρ 4 % 4 = 1 := pz_gj hE 4 (by decide) rfl
  have o1 : ρ 2 < ρ 1 := pz_go hE 11 7 (by decide)
  have o2 : ρ 3 < ρ 2 := pz_go hE 15 11 (by decide)
  have o3 : ρ 4 < ρ 3 := pz_go hE 19 15 (by decide)
  obtain ⟨-, -, -, -, F50⟩ : ay_ex hp 8 ∧ ay_ex hp 10 ∧ ay_ex hp 11 ∧ ay_ex hp 12 ∧ pz_x50 (ρ 0) (ρ 1) (ay_at hp 8 5) (ay_at hp 8 6) (ay_at hp 8 7) (ay_at hp 8 8) (ay_at hp 10 0) (ay_at hp 10 1) (ay_at hp 10 2) (ay_at hp 10 3) (ay_at hp 10 4) (ay_at hp 8 9) (ay_at hp 8 11) (ay_at hp 8 10) (ay_at hp 8 3) (ay_at hp 8 4) (ay_at hp 11) (ay_at hp 12) := (ax_XF_lt (by decide)).mp (ax_gx hE (50, [3, 7]) (by decide))
  refine ⟨(fun y hy => by cases hy), _, List.mem_cons_self, ρ, fun _ _ => rfl, ax_px hE (by decide) (fun y hy => ?_)⟩
  rcases List.mem_cons.mp hy with e | hy
  · subst e
    refine (ax_XF_bi (o := 30) (by decide)).mpr (Or.inr ⟨rfl, ?_⟩)
    show ρ 4 < ρ 1
    omega
  cases List.mem_singleton.mp hy
  refine (ax_XF_bi (o := 30) (by decide)).mpr (Or.inr ⟨rfl, ?_⟩)
  show ρ 3 < ρ 1
  omega

theorem axq_rq5_3 : ax_RO ax_wC ax_XC axu_rq5_3 := by
  intro ρ hp hE hT
  have j0 : ρ 0 % 4 = 1 := pz_gj hE 0 (by decide) rfl
  have j1 : ρ 1 % 4 = 1 := pz_gj hE 1 (by decide) rfl
  have j2 : ρ 2 % 4 = 1 := pz_gj hE 2 (by decide) rfl
  have j3 : ρ 3 % 4 = 1 := pz_gj hE 3 (by decide) rfl
  have j4 : ρ 4 % 4 = 1 := pz_gj hE 4 (by decide) rfl
  have o1 : ρ 2 < ρ 1 := pz_go hE 11 7 (by decide)
  have o2 : ρ 3 < ρ 2 := pz_go hE 15 11 (by decide)
  have o3 : ρ 4 < ρ 3 := pz_go hE 19 15 (by decide)
  obtain ⟨-, -, -, -, F50⟩ : ay_ex hp 8 ∧ ay_ex hp 10 ∧ ay_ex hp 11 ∧ ay_ex hp 12 ∧ pz_x50 (ρ 0) (ρ 1) (ay_at hp 8 5) (ay_at hp 8 6) (ay_at hp 8 7) (ay_at hp 8 8) (ay_at hp 10 0) (ay_at hp 10 1) (ay_at hp 10 2) (ay_at hp 10 3) (ay_at hp 10 4) (ay_at hp 8 9) (ay_at hp 8 11) (ay_at hp 8 10) (ay_at hp 8 3) (ay_at hp 8 4) (ay_at hp 11) (ay_at hp 12) := (ax_XF_lt (by decide)).mp (ax_gx hE (50, [3, 7]) (by decide))
  refine ⟨(fun y hy => by cases hy), _, List.mem_cons_self, ρ, fun _ _ => rfl, ax_px hE (by decide) (fun y hy => ?_)⟩
  rcases List.mem_cons.mp hy with e | hy
  · subst e
    refine (ax_XF_bi (o := 30) (by decide)).mpr (Or.inr ⟨rfl, ?_⟩)
    show ρ 4 < ρ 1
    omega
  cases List.mem_singleton.mp hy
  refine (ax_XF_bi (o := 30) (by decide)).mpr (Or.inr ⟨rfl, ?_⟩)
  show ρ 3 < ρ 1
  omega

theorem axq_rut1_4 : ax_RO ax_wC ax_XC axu_rut1_4 := by
  intro ρ hp hE hT
  have j0 : ρ 0 % 4 = 1 := pz_gj hE 0 (by decide) rfl
  have j1 : ρ 1 % 4 = 1 := pz_gj hE 1 (by decide) rfl
  have j2 : ρ 2 % 4 = 1 := pz_gj hE 2 (by decide) rfl
  have j3 : ρ 3 % 4 = 1 := pz_gj hE 3 (by decide) rfl
  have o1 : ρ 2 < ρ 3 := pz_go hE 11 15 (by decide)
  have o2 : ρ 1 < ρ 2 := pz_go hE 7 11 (by decide)
  obtain ⟨-, -, -, -, F50⟩ : ay_ex hp 8 ∧ ay_ex hp 10 ∧ ay_ex hp 11 ∧ ay_ex hp 12 ∧ pz_x50 (ρ 0) (ρ 3) (ay_at hp 8 5) (ay_at hp 8 6) (ay_at hp 8 7) (ay_at hp 8 8) (ay_at hp 10 0) (ay_at hp 10 1) (ay_at hp 10 2) (ay_at hp 10 3) (ay_at hp 10 4) (ay_at hp 8 9) (ay_at hp 8 11) (ay_at hp 8 10) (ay_at hp 8 3) (ay_at hp 8 4) (ay_at hp 11) (ay_at hp 12) := (ax_XF_lt (by decide)).mp (ax_gx hE (50, [3, 15]) (by decide))
  refine ⟨(fun y hy => by cases hy), _, List.mem_cons_self, ρ, fun _ _ => rfl, ax_px hE (by decide) (fun y hy => ?_)⟩
  cases List.mem_singleton.mp hy
  refine (ax_XF_bi (o := 30) (by decide)).mpr (Or.inr ⟨rfl, ?_⟩)
  show ρ 1 < ρ 3
  omega

theorem axq_rut2_4 : ax_RO ax_wC ax_XC axu_rut2_4 := by
  intro ρ hp hE hT
  have j0 : ρ 0 % 4 = 1 := pz_gj hE 0 (by decide) rfl
  have j1 : ρ 1 % 4 = 1 := pz_gj hE 1 (by decide) rfl
  have j2 : ρ 2 % 4 = 1 := pz_gj hE 2 (by decide) rfl
  have j3 : ρ 3 % 4 = 1 := pz_gj hE 3 (by decide) rfl
  have o1 : ρ 2 < ρ 3 := pz_go hE 11 15 (by decide)
  have o2 : ρ 1 < ρ 2 := pz_go hE 7 11 (by decide)
  obtain ⟨-, -, -, -, F50⟩ : ay_ex hp 8 ∧ ay_ex hp 10 ∧ ay_ex hp 11 ∧ ay_ex hp 12 ∧ pz_x50 (ρ 0) (ρ 3) (ay_at hp 8 5) (ay_at hp 8 6) (ay_at hp 8 7) (ay_at hp 8 8) (ay_at hp 10 0) (ay_at hp 10 1) (ay_at hp 10 2) (ay_at hp 10 3) (ay_at hp 10 4) (ay_at hp 8 9) (ay_at hp 8 11) (ay_at hp 8 10) (ay_at hp 8 3) (ay_at hp 8 4) (ay_at hp 11) (ay_at hp 12) := (ax_XF_lt (by decide)).mp (ax_gx hE (50, [3, 15]) (by decide))
  refine ⟨(fun y hy => by cases hy), _, List.mem_cons_self, ρ, fun _ _ => rfl, ax_px hE (by decide) (fun y hy => ?_)⟩
  cases List.mem_singleton.mp hy
  refine (ax_XF_bi (o := 30) (by decide)).mpr (Or.inr ⟨rfl, ?_⟩)
  show ρ 1 < ρ 3
  omega

theorem axq_rut3_4 : ax_RO ax_wC ax_XC axu_rut3_4 := by
  intro ρ hp hE hT
  have j0 : ρ 0 % 4 = 1 := pz_gj hE 0 (by decide) rfl
  have j1 : ρ 1 % 4 = 1 := pz_gj hE 1 (by decide) rfl
  have j2 : ρ 2 % 4 = 1 := pz_gj hE 2 (by decide) rfl
  have j3 : ρ 3 % 4 = 1 := pz_gj hE 3 (by decide) rfl
  have o1 : ρ 2 < ρ 3 := pz_go hE 11 15 (by decide)
  have o2 : ρ 1 < ρ 2 := pz_go hE 7 11 (by decide)
  obtain ⟨-, -, -, -, F50⟩ : ay_ex hp 8 ∧ ay_ex hp 10 ∧ ay_ex hp 11 ∧ ay_ex hp 12 ∧ pz_x50 (ρ 0) (ρ 3) (ay_at hp 8 5) (ay_at hp 8 6) (ay_at hp 8 7) (ay_at hp 8 8) (ay_at hp 10 0) (ay_at hp 10 1) (ay_at hp 10 2) (ay_at hp 10 3) (ay_at hp 10 4) (ay_at hp 8 9) (ay_at hp 8 11) (ay_at hp 8 10) (ay_at hp 8 3) (ay_at hp 8 4) (ay_at hp 11) (ay_at hp 12) := (ax_XF_lt (by decide)).mp (ax_gx hE (50, [3, 15]) (by decide))
  refine ⟨(fun y hy => by cases hy), _, List.mem_cons_self, ρ, fun _ _ => rfl, ax_px hE (by decide) (fun y hy => ?_)⟩
  cases List.mem_singleton.mp hy
  refine (ax_XF_bi (o := 30) (by decide)).mpr (Or.inr ⟨rfl, ?_⟩)
  show ρ 1 < ρ 3
  omega

theorem axq_rp5_4 : ax_RO ax_wC ax_XC axu_rp5_4 := by
  intro ρ hp hE hT
  have j0 : ρ 0 % 4 = 1 := pz_gj hE 0 (by decide) rfl
  have j1 : ρ 1 % 4 = 1 := pz_gj hE 1 (by decide) rfl
  have j2 : ρ 2 % 4 = 1 := pz_gj hE 2 (by decide) rfl
  have j3 : ρ 3 % 4 = 1 := pz_gj hE 3 (by decide) rfl
  have j4 : ρ 4 % 4 = 1 := pz_gj hE 4 (by decide) rfl
  have o1 : ρ 2 < ρ 1 := pz_go hE 11 7 (by decide)
  have o2 : ρ 3 < ρ 2 := pz_go hE 15 11 (by decide)
  have o3 : ρ 4 < ρ 3 := pz_go hE 19 15 (by decide)
  obtain ⟨-, -, -, -, F50⟩ : ay_ex hp 8 ∧ ay_ex hp 10 ∧ ay_ex hp 11 ∧ ay_ex hp 12 ∧ pz_x50 (ρ 0) (ρ 1) (ay_at hp 8 5) (ay_at hp 8 6) (ay_at hp 8 7) (ay_at hp 8 8) (ay_at hp 10 0) (ay_at hp 10 1) (ay_at hp 10 2) (ay_at hp 10 3) (ay_at hp 10 4) (ay_at hp 8 9) (ay_at hp 8 11) (ay_at hp 8 10) (ay_at hp 8 3) (ay_at hp 8 4) (ay_at hp 11) (ay_at hp 12) := (ax_XF_lt (by decide)).mp (ax_gx hE (50, [3, 7]) (by decide))
  refine ⟨(fun y hy => by cases hy), _, List.mem_cons_self, ρ, fun _ _ => rfl, ax_px hE (by decide) (fun y hy => ?_)⟩
  rcases List.mem_cons.mp hy with e | hy
  · subst e
    refine (ax_XF_bi (o := 30) (by decide)).mpr (Or.inr ⟨rfl, ?_⟩)
    show ρ 4 < ρ 1
    omega
  cases List.mem_singleton.mp hy
  refine (ax_XF_bi (o := 30) (by decide)).mpr (Or.inr ⟨rfl, ?_⟩)
  show ρ 3 < ρ 1
  omega

theorem axq_rq5_4 : ax_RO ax_wC ax_XC axu_rq5_4 := by
  intro ρ hp hE hT
  have j0 : ρ 0 % 4 = 1 := pz_gj hE 0 (by decide) rfl
  have j1 : ρ 1 % 4 = 1 := pz_gj hE 1 (by decide) rfl
  have j2 : ρ 2 % 4 = 1 := pz_gj hE 2 (by decide) rfl
  have j3 : ρ 3 % 4 = 1 := pz_gj hE 3 (by decide) rfl
  have j4 : ρ 4 % 4 = 1 := pz_gj hE 4 (by decide) rfl
  have o1 : ρ 2 < ρ 1 := pz_go hE 11 7 (by decide)
  have o2 : ρ 3 < ρ 2 := pz_go hE 15 11 (by decide)
  have o3 : ρ 4 < ρ 3 := pz_go hE 19 15 (by decide)
  obtain ⟨-, -, -, -, F50⟩ : ay_ex hp 8 ∧ ay_ex hp 10 ∧ ay_ex hp 11 ∧ ay_ex hp 12 ∧ pz_x50 (ρ 0) (ρ 1) (ay_at hp 8 5) (ay_at hp 8 6) (ay_at hp 8 7) (ay_at hp 8 8) (ay_at hp 10 0) (ay_at hp 10 1) (ay_at hp 10 2) (ay_at hp 10 3) (ay_at hp 10 4) (ay_at hp 8 9) (ay_at hp 8 11) (ay_at hp 8 10) (ay_at hp 8 3) (ay_at hp 8 4) (ay_at hp 11) (ay_at hp 12) := (ax_XF_lt (by decide)).mp (ax_gx hE (50, [3, 7]) (by decide))
  refine ⟨(fun y hy => by cases hy), _, List.mem_cons_self, ρ, fun _ _ => rfl, ax_px hE (by decide) (fun y hy => ?_)⟩
  rcases List.mem_cons.mp hy with e | hy
  · subst e
    refine (ax_XF_bi (o := 30) (by decide)).mpr (Or.inr ⟨rfl, ?_⟩)
    show ρ 4 < ρ 1
    omega
  cases List.mem_singleton.mp hy
  refine (ax_XF_bi (o := 30) (by decide)).mpr (Or.inr ⟨rfl, ?_⟩)
  show ρ 3 < ρ 1
  omega

theorem axq_rut1_5 : ax_RO ax_wC ax_XC axu_rut1_5 := by
  intro ρ hp hE hT
  have j0 : ρ 0 % 4 = 1 := pz_gj hE 0 (by decide) rfl
  have j1 : ρ 1 % 4 = 1 := pz_gj hE 1 (by decide) rfl
  have j2 : ρ 2 % 4 = 1 := pz_gj hE 2 (by decide) rfl
  have j3 : ρ 3 % 4 = 1 := pz_gj hE 3 (by decide) rfl
  have o1 : ρ 2 < ρ 3 := pz_go hE 11 15 (by decide)
  have o2 : ρ 1 < ρ 2 := pz_go hE 7 11 (by decide)
  obtain ⟨-, -, -, -, F50⟩ : ay_ex hp 8 ∧ ay_ex hp 10 ∧ ay_ex hp 11 ∧ ay_ex hp 12 ∧ pz_x50 (ρ 0) (ρ 3) (ay_at hp 8 5) (ay_at hp 8 6) (ay_at hp 8 7) (ay_at hp 8 8) (ay_at hp 10 0) (ay_at hp 10 1) (ay_at hp 10 2) (ay_at hp 10 3) (ay_at hp 10 4) (ay_at hp 8 9) (ay_at hp 8 11) (ay_at hp 8 10) (ay_at hp 8 3) (ay_at hp 8 4) (ay_at hp 11) (ay_at hp 12) := (ax_XF_lt (by decide)).mp (ax_gx hE (50, [3, 15]) (by decide))
  refine ⟨(fun y hy => by cases hy), _, List.mem_cons_self, ρ, fun _ _ => rfl, ax_px hE (by decide) (fun y hy => ?_)⟩
  cases List.mem_singleton.mp hy
  refine (ax_XF_bi (o := 30) (by decide)).mpr (Or.inr ⟨rfl, ?_⟩)
  show ρ 1 < ρ 3
  omega

theorem axq_rut2_5 : ax_RO ax_wC ax_XC axu_rut2_5 := by
  intro ρ hp hE hT
  have j0 : ρ 0 % 4 = 1 := pz_gj hE 0 (by decide) rfl
  have j1 : ρ 1 % 4 = 1 := pz_gj hE 1 (by decide) rfl
  have j2 : ρ 2 % 4 = 1 := pz_gj hE 2 (by decide) rfl
  have j3 : ρ 3 % 4 = 1 := pz_gj hE 3 (by decide) rfl
  have o1 : ρ 2 < ρ 3 := pz_go hE 11 15 (by decide)
  have o2 : ρ 1 < ρ 2 := pz_go hE 7 11 (by decide)
  obtain ⟨-, -, -, -, F50⟩ : ay_ex hp 8 ∧ ay_ex hp 10 ∧ ay_ex hp 11 ∧ ay_ex hp 12 ∧ pz_x50 (ρ 0) (ρ 3) (ay_at hp 8 5) (ay_at hp 8 6) (ay_at hp 8 7) (ay_at hp 8 8) (ay_at hp 10 0) (ay_at hp 10 1) (ay_at hp 10 2) (ay_at hp 10 3) (ay_at hp 10 4) (ay_at hp 8 9) (ay_at hp 8 11) (ay_at hp 8 10) (ay_at hp 8 3) (ay_at hp 8 4) (ay_at hp 11) (ay_at hp 12) := (ax_XF_lt (by decide)).mp (ax_gx hE (50, [3, 15]) (by decide))
  refine ⟨(fun y hy => by cases hy), _, List.mem_cons_self, ρ, fun _ _ => rfl, ax_px hE (by decide) (fun y hy => ?_)⟩
  cases List.mem_singleton.mp hy
  refine (ax_XF_bi (o := 30) (by decide)).mpr (Or.inr ⟨rfl, ?_⟩)
  show ρ 1 < ρ 3
  omega

theorem axq_rut3_5 : ax_RO ax_wC ax_XC axu_rut3_5 := by
  intro ρ hp hE hT
  have j0 : ρ 0 % 4 = 1 := pz_gj hE 0 (by decide) rfl
  have j1 : ρ 1 % 4 = 1 := pz_gj hE 1 (by decide) rfl
  have j2 : ρ 2 % 4 = 1 := pz_gj hE 2 (by decide) rfl
  have j3 : ρ 3 % 4 = 1 := pz_gj hE 3 (by decide) rfl
  have o1 : ρ 2 < ρ 3 := pz_go hE 11 15 (by decide)
  have o2 : ρ 1 < ρ 2 := pz_go hE 7 11 (by decide)
  obtain ⟨-, -, -, -, F50⟩ : ay_ex hp 8 ∧ ay_ex hp 10 ∧ ay_ex hp 11 ∧ ay_ex hp 12 ∧ pz_x50 (ρ 0) (ρ 3) (ay_at hp 8 5) (ay_at hp 8 6) (ay_at hp 8 7) (ay_at hp 8 8) (ay_at hp 10 0) (ay_at hp 10 1) (ay_at hp 10 2) (ay_at hp 10 3) (ay_at hp 10 4) (ay_at hp 8 9) (ay_at hp 8 11) (ay_at hp 8 10) (ay_at hp 8 3) (ay_at hp 8 4) (ay_at hp 11) (ay_at hp 12) := (ax_XF_lt (by decide)).mp (ax_gx hE (50, [3, 15]) (by decide))
  refine ⟨(fun y hy => by cases hy), _, List.mem_cons_self, ρ, fun _ _ => rfl, ax_px hE (by decide) (fun y hy => ?_)⟩
  cases List.mem_singleton.mp hy
  refine (ax_XF_bi (o := 30) (by decide)).mpr (Or.inr ⟨rfl, ?_⟩)
  show ρ 1 < ρ 3
  omega

theorem axq_rp5_5 : ax_RO ax_wC ax_XC axu_rp5_5 := by
  intro ρ hp hE hT
  have j0 : ρ 0 % 4 = 1 := pz_gj hE 0 (by decide) rfl
  have j1 : ρ 1 % 4 = 1 := pz_gj hE 1 (by decide) rfl
  have j2 : ρ 2 % 4 = 1 := pz_gj hE 2 (by decide) rfl
  have j3 : ρ 3 % 4 = 1 := pz_gj hE 3 (by decide) rfl
  have j4 : ρ 4 % 4 = 1 := pz_gj hE 4 (by decide) rfl
  have o1 : ρ 2 < ρ 1 := pz_go hE 11 7 (by decide)
  have o2 : ρ 3 < ρ 2 := pz_go hE 15 11 (by decide)
  have o3 : ρ 4 < ρ 3 := pz_go hE 19 15 (by decide)
  obtain ⟨-, -, -, -, F50⟩ : ay_ex hp 8 ∧ ay_ex hp 10 ∧ ay_ex hp 11 ∧ ay_ex hp 12 ∧ pz_x50 (ρ 0) (ρ 1) (ay_at hp 8 5) (ay_at hp 8 6) (ay_at hp 8 7) (ay_at hp 8 8) (ay_at hp 10 0) (ay_at hp 10 1) (ay_at hp 10 2) (ay_at hp 10 3) (ay_at hp 10 4) (ay_at hp 8 9) (ay_at hp 8 11) (ay_at hp 8 10) (ay_at hp 8 3) (ay_at hp 8 4) (ay_at hp 11) (ay_at hp 12) := (ax_XF_lt (by decide)).mp (ax_gx hE (50, [3, 7]) (by decide))
  refine ⟨(fun y hy => by cases hy), _, List.mem_cons_self, ρ, fun _ _ => rfl, ax_px hE (by decide) (fun y hy => ?_)⟩
  rcases List.mem_cons.mp hy with e | hy
  · subst e
    refine (ax_XF_bi (o := 30) (by decide)).mpr (Or.inr ⟨rfl, ?_⟩)
    show ρ 4 < ρ 1
    omega
  cases List.mem_singleton.mp hy
  refine (ax_XF_bi (o := 30) (by decide)).mpr (Or.inr ⟨rfl, ?_⟩)
  show ρ 3 < ρ 1
  omega

theorem axq_rq5_5 : ax_RO ax_wC ax_XC axu_rq5_5 := by
  intro ρ hp hE hT
  have j0 : ρ 0 % 4 = 1 := pz_gj hE 0 (by decide) rfl
  have j1 : ρ 1 % 4 = 1 := pz_gj hE 1 (by decide) rfl
  have j2 : ρ 2 % 4 = 1 := pz_gj hE 2 (by decide) rfl
  have j3 : ρ 3 % 4 = 1 := pz_gj hE 3 (by decide) rfl
  have j4 : ρ 4 % 4 = 1 := pz_gj hE 4 (by decide) rfl
  have o1 : ρ 2 < ρ 1 := pz_go hE 11 7 (by decide)
  have o2 : ρ 3 < ρ 2 := pz_go hE 15 11 (by decide)
  have o3 : ρ 4 < ρ 3 := pz_go hE 19 15 (by decide)
  obtain ⟨-, -, -, -, F50⟩ : ay_ex hp 8 ∧ ay_ex hp 10 ∧ ay_ex hp 11 ∧ ay_ex hp 12 ∧ pz_x50 (ρ 0) (ρ 1) (ay_at hp 8 5) (ay_at hp 8 6) (ay_at hp 8 7) (ay_at hp 8 8) (ay_at hp 10 0) (ay_at hp 10 1) (ay_at hp 10 2) (ay_at hp 10 3) (ay_at hp 10 4) (ay_at hp 8 9) (ay_at hp 8 11) (ay_at hp 8 10) (ay_at hp 8 3) (ay_at hp 8 4) (ay_at hp 11) (ay_at hp 12) := (ax_XF_lt (by decide)).mp (ax_gx hE (50, [3, 7]) (by decide))
  refine ⟨(fun y hy => by cases hy), _, List.mem_cons_self, ρ, fun _ _ => rfl, ax_px hE (by decide) (fun y hy => ?_)⟩
  rcases List.mem_cons.mp hy with e | hy
  · subst e
    refine (ax_XF_bi (o := 30) (by decide)).mpr (Or.inr ⟨rfl, ?_⟩)
    show ρ 4 < ρ 1
    omega
  cases List.mem_singleton.mp hy
  refine (ax_XF_bi (o := 30) (by decide)).mpr (Or.inr ⟨rfl, ?_⟩)
  show ρ 3 < ρ 1
  omega

theorem axq_rp5_6 : ax_RO ax_wC ax_XC axu_rp5_6 := by
  intro ρ hp hE hT
  have j0 : ρ 0 % 4 = 1 := pz_gj hE 0 (by decide) rfl
  have j1 : ρ 1 % 4 = 1 := pz_gj hE 1 (by decide) rfl
  have j2 : ρ 2 % 4 = 1 := pz_gj hE 2 (by decide) rfl
  have j3 : ρ 3 % 4 = 1 := pz_gj hE 3 (by decide) rfl
  have j4 : ρ 4 % 4 = 1 := pz_gj hE 4 (by decide) rfl
  have o1 : ρ 2 < ρ 1 := pz_go hE 11 7 (by decide)
  have o2 : ρ 3 < ρ 2 := pz_go hE 15 11 (by decide)
  have o3 : ρ 4 < ρ 3 := pz_go hE 19 15 (by decide)
  obtain ⟨-, -, -, -, F50⟩ : ay_ex hp 8 ∧ ay_ex hp 10 ∧ ay_ex hp 11 ∧ ay_ex hp 12 ∧ pz_x50 (ρ 0) (ρ 1) (ay_at hp 8 5) (ay_at hp 8 6) (ay_at hp 8 7) (ay_at hp 8 8) (ay_at hp 10 0) (ay_at hp 10 1) (ay_at hp 10 2) (ay_at hp 10 3) (ay_at hp 10 4) (ay_at hp 8 9) (ay_at hp 8 11) (ay_at hp 8 10) (ay_at hp 8 3) (ay_at hp 8 4) (ay_at hp 11) (ay_at hp 12) := (ax_XF_lt (by decide)).mp (ax_gx hE (50, [3, 7]) (by decide))
  refine ⟨(fun y hy => by cases hy), _, List.mem_cons_self, ρ, fun _ _ => rfl, ax_px hE (by decide) (fun y hy => ?_)⟩
  rcases List.mem_cons.mp hy with e | hy
  · subst e
    refine (ax_XF_bi (o := 30) (by decide)).mpr (Or.inr ⟨rfl, ?_⟩)
    show ρ 4 < ρ 1
    omega
  cases List.mem_singleton.mp hy
  refine (ax_XF_bi (o := 30) (by decide)).mpr (Or.inr ⟨rfl, ?_⟩)
  show ρ 3 < ρ 1
  omega

theorem axq_rq5_6 : ax_RO ax_wC ax_XC axu_rq5_6 := by
  intro ρ hp hE hT
  have j0 : ρ 0 % 4 = 1 := pz_gj hE 0 (by decide) rfl
  have j1 : ρ 1 % 4 = 1 := pz_gj hE 1 (by decide) rfl
  have j2 : ρ 2 % 4 = 1 := pz_gj hE 2 (by decide) rfl
  have j3 : ρ 3 % 4 = 1 := pz_gj hE 3 (by decide) rfl
  have j4 : ρ 4 % 4 = 1 := pz_gj hE 4 (by decide) rfl
  have o1 : ρ 2 < ρ 1 := pz_go hE 11 7 (by decide)
  have o2 : ρ 3 < ρ 2 := pz_go hE 15 11 (by decide)
  have o3 : ρ 4 < ρ 3 := pz_go hE 19 15 (by decide)
  obtain ⟨-, -, -, -, F50⟩ : ay_ex hp 8 ∧ ay_ex hp 10 ∧ ay_ex hp 11 ∧ ay_ex hp 12 ∧ pz_x50 (ρ 0) (ρ 1) (ay_at hp 8 5) (ay_at hp 8 6) (ay_at hp 8 7) (ay_at hp 8 8) (ay_at hp 10 0) (ay_at hp 10 1) (ay_at hp 10 2) (ay_at hp 10 3) (ay_at hp 10 4) (ay_at hp 8 9) (ay_at hp 8 11) (ay_at hp 8 10) (ay_at hp 8 3) (ay_at hp 8 4) (ay_at hp 11) (ay_at hp 12) := (ax_XF_lt (by decide)).mp (ax_gx hE (50, [3, 7]) (by decide))
  refine ⟨(fun y hy => by cases hy), _, List.mem_cons_self, ρ, fun _ _ => rfl, ax_px hE (by decide) (fun y hy => ?_)⟩
  rcases List.mem_cons.mp hy with e | hy
  · subst e
    refine (ax_XF_bi (o := 30) (by decide)).mpr (Or.inr ⟨rfl, ?_⟩)
    show ρ 4 < ρ 1
    omega
  cases List.mem_singleton.mp hy
  refine (ax_XF_bi (o := 30) (by decide)).mpr (Or.inr ⟨rfl, ?_⟩)
  show ρ 3 < ρ 1
  omega

theorem axq_sw4 : ax_RO ax_wC ax_XC axu_sw4 := by
  intro ρ hp hE hT
  have j0 : ρ 0 % 4 = 1 := pz_gj hE 0 (by decide) rfl
  have j1 : ρ 1 % 4 = 1 := pz_gj hE 1 (by decide) rfl
  have j2 : ρ 2 % 4 = 1 := pz_gj hE 2 (by decide) rfl
  have j3 : ρ 3 % 4 = 1 := pz_gj hE 3 (by decide) rfl
  have o1 : ρ 2 < ρ 3 := pz_go hE 11 15 (by decide)
  have o2 : ρ 1 < ρ 2 := pz_go hE 7 11 (by decide)
  obtain ⟨-, -, -, -, F50⟩ : ay_ex hp 8 ∧ ay_ex hp 10 ∧ ay_ex hp 11 ∧ ay_ex hp 12 ∧ pz_x50 (ρ 0) (ρ 3) (ay_at hp 8 5) (ay_at hp 8 6) (ay_at hp 8 7) (ay_at hp 8 8) (ay_at hp 10 0) (ay_at hp 10 1) (ay_at hp 10 2) (ay_at hp 10 3) (ay_at hp 10 4) (ay_at hp 8 9) (ay_at hp 8 11) (ay_at hp 8 10) (ay_at hp 8 3) (ay_at hp 8 4) (ay_at hp 11) (ay_at hp 12) := (ax_XF_lt (by decide)).mp (ax_gx hE (50, [3, 15]) (by decide))
  refine ⟨(fun y hy => by cases hy), _, List.mem_cons_self, ρ, fun _ _ => rfl, ax_px hE (by decide) (fun y hy => ?_)⟩
  cases List.mem_singleton.mp hy
  refine (ax_XF_bi (o := 30) (by decide)).mpr (Or.inr ⟨rfl, ?_⟩)
  show ρ 1 < ρ 3
  omega

theorem axq_rl_tr1 : ax_RO ax_wC ax_XC axu_rl_tr1 := by
  intro ρ hp hE hT
  have j0 : ρ 0 % 4 = 1 := pz_gj hE 0 (by decide) rfl
  have j1 : ρ 1 % 4 = 1 := pz_gj hE 1 (by decide) rfl
  have j2 : ρ 2 % 4 = 1 := pz_gj hE 2 (by decide) rfl
  have j3 : ρ 3 % 4 = 1 := pz_gj hE 3 (by decide) rfl
  have o1 : ρ 2 < ρ 3 := pz_go hE 11 15 (by decide)
  have o2 : ρ 1 < ρ 2 := pz_go hE 7 11 (by decide)
  obtain ⟨-, -, -, -, F50⟩ : ay_ex hp 8 ∧ ay_ex hp 10 ∧ ay_ex hp 11 ∧ ay_ex hp 12 ∧ pz_x50 (ρ 0) (ρ 3) (ay_at hp 8 5) (ay_at hp 8 6) (ay_at hp 8 7) (ay_at hp 8 8) (ay_at hp 10 0) (ay_at hp 10 1) (ay_at hp 10 2) (ay_at hp 10 3) (ay_at hp 10 4) (ay_at hp 8 9) (ay_at hp 8 11) (ay_at hp 8 10) (ay_at hp 8 3) (ay_at hp 8 4) (ay_at hp 11) (ay_at hp 12) := (ax_XF_lt (by decide)).mp (ax_gx hE (50, [3, 15]) (by decide))
  refine ⟨(fun y hy => by cases hy), _, List.mem_cons_self, ρ, fun _ _ => rfl, ax_px hE (by decide) (fun y hy => ?_)⟩
  cases List.mem_singleton.mp hy
  refine (ax_XF_bi (o := 30) (by decide)).mpr (Or.inr ⟨rfl, ?_⟩)
  show ρ 1 < ρ 3
  omega

theorem axq_rl_tr2 : ax_RO ax_wC ax_XC axu_rl_tr2 := by
  intro ρ hp hE hT
  have j0 : ρ 0 % 4 = 1 := pz_gj hE 0 (by decide) rfl
  have j1 : ρ 1 % 4 = 1 := pz_gj hE 1 (by decide) rfl
  have j2 : ρ 2 % 4 = 1 := pz_gj hE 2 (by decide) rfl
  have j3 : ρ 3 % 4 = 1 := pz_gj hE 3 (by decide) rfl
  have o1 : ρ 2 < ρ 3 := pz_go hE 11 15 (by decide)
  have o2 : ρ 1 < ρ 2 := pz_go hE 7 11 (by decide)
  obtain ⟨-, -, -, -, F50⟩ : ay_ex hp 8 ∧ ay_ex hp 10 ∧ ay_ex hp 11 ∧ ay_ex hp 12 ∧ pz_x50 (ρ 0) (ρ 3) (ay_at hp 8 5) (ay_at hp 8 6) (ay_at hp 8 7) (ay_at hp 8 8) (ay_at hp 10 0) (ay_at hp 10 1) (ay_at hp 10 2) (ay_at hp 10 3) (ay_at hp 10 4) (ay_at hp 8 9) (ay_at hp 8 11) (ay_at hp 8 10) (ay_at hp 8 3) (ay_at hp 8 4) (ay_at hp 11) (ay_at hp 12) := (ax_XF_lt (by decide)).mp (ax_gx hE (50, [3, 15]) (by decide))
  refine ⟨(fun y hy => by cases hy), _, List.mem_cons_self, ρ, fun _ _ => rfl, ax_px hE (by decide) (fun y hy => ?_)⟩
  cases List.mem_singleton.mp hy
  refine (ax_XF_bi (o := 30) (by decide)).mpr (Or.inr ⟨rfl, ?_⟩)
  show ρ 1 < ρ 3
  omega

theorem axq_rl_tr3 : ax_RO ax_wC ax_XC axu_rl_tr3 := by
  intro ρ hp hE hT
  have j0 : ρ 0 % 4 = 1 := pz_gj hE 0 (by decide) rfl
  have j1 : ρ 1 % 4 = 1 := pz_gj hE 1 (by decide) rfl
  have j2 : ρ 2 % 4 = 1 := pz_gj hE 2 (by decide) rfl
  have j3 : ρ 3 % 4 = 1 := pz_gj hE 3 (by decide) rfl
  have o1 : ρ 2 < ρ 3 := pz_go hE 11 15 (by decide)
  have o2 : ρ 1 < ρ 2 := pz_go hE 7 11 (by decide)
  obtain ⟨-, -, -, -, F50⟩ : ay_ex hp 8 ∧ ay_ex hp 10 ∧ ay_ex hp 11 ∧ ay_ex hp 12 ∧ pz_x50 (ρ 0) (ρ 3) (ay_at hp 8 5) (ay_at hp 8 6) (ay_at hp 8 7) (ay_at hp 8 8) (ay_at hp 10 0) (ay_at hp 10 1) (ay_at hp 10 2) (ay_at hp 10 3) (ay_at hp 10 4) (ay_at hp 8 9) (ay_at hp 8 11) (ay_at hp 8 10) (ay_at hp 8 3) (ay_at hp 8 4) (ay_at hp 11) (ay_at hp 12) := (ax_XF_lt (by decide)).mp (ax_gx hE (50, [3, 15]) (by decide))
  refine ⟨(fun y hy => by cases hy), _, List.mem_cons_self, ρ, fun _ _ => rfl, ax_px hE (by decide) (fun y hy => ?_)⟩
  cases List.mem_singleton.mp hy
  refine (ax_XF_bi (o := 30) (by decide)).mpr (Or.inr ⟨rfl, ?_⟩)
  show ρ 1 < ρ 3
  omega

theorem axq_rl_tr4 : ax_RO ax_wC ax_XC axu_rl_tr4 := by
  intro ρ hp hE hT
  have j0 : ρ 0 % 4 = 1 := pz_gj hE 0 (by decide) rfl
  have j1 : ρ 1 % 4 = 1 := pz_gj hE 1 (by decide) rfl
  have j2 : ρ 2 % 4 = 1 := pz_gj hE 2 (by decide) rfl
  have j3 : ρ 3 % 4 = 1 := pz_gj hE 3 (by decide) rfl
  have o1 : ρ 2 < ρ 3 := pz_go hE 11 15 (by decide)
  have o2 : ρ 1 < ρ 2 := pz_go hE 7 11 (by decide)
  obtain ⟨-, -, -, -, F50⟩ : ay_ex hp 8 ∧ ay_ex hp 10 ∧ ay_ex hp 11 ∧ ay_ex hp 12 ∧ pz_x50 (ρ 0) (ρ 3) (ay_at hp 8 5) (ay_at hp 8 6) (ay_at hp 8 7) (ay_at hp 8 8) (ay_at hp 10 0) (ay_at hp 10 1) (ay_at hp 10 2) (ay_at hp 10 3) (ay_at hp 10 4) (ay_at hp 8 9) (ay_at hp 8 11) (ay_at hp 8 10) (ay_at hp 8 3) (ay_at hp 8 4) (ay_at hp 11) (ay_at hp 12) := (ax_XF_lt (by decide)).mp (ax_gx hE (50, [3, 15]) (by decide))
  refine ⟨(fun y hy => by cases hy), _, List.mem_cons_self, ρ, fun _ _ => rfl, ax_px hE (by decide) (fun y hy => ?_)⟩
  cases List.mem_singleton.mp hy
  refine (ax_XF_bi (o := 30) (by decide)).mpr (Or.inr ⟨rfl, ?_⟩)
  show ρ 1 < ρ 3
  omega

theorem axq_lk7 : ax_RO ax_wC ax_XC axu_lk7 := by
  intro ρ hp hE hT
  have j0 : ρ 0 % 4 = 1 := pz_gj hE 0 (by decide) rfl
  have j1 : ρ 1 % 4 = 1 := pz_gj hE 1 (by decide) rfl
  have j2 : ρ 2 % 4 = 1 := pz_gj hE 2 (by decide) rfl
  have j3 : ρ 3 % 4 = 1 := pz_gj hE 3 (by decide) rfl
  have o1 : ρ 2 < ρ 3 := pz_go hE 11 15 (by decide)
  have o2 : ρ 1 < ρ 2 := pz_go hE 7 11 (by decide)
  obtain ⟨-, -, -, -, F53⟩ : ay_ex hp 8 ∧ ay_ex hp 10 ∧ ay_ex hp 11 ∧ ay_ex hp 12 ∧ pz_x53 (ρ 0) (ρ 3) (ay_at hp 8 5) (ay_at hp 10 0) (ay_at hp 10 1) (ay_at hp 10 2) (ay_at hp 10 3) (ay_at hp 10 4) (ay_at hp 8 9) (ay_at hp 8 11) (ay_at hp 8 10) (ay_at hp 8 3) (ay_at hp 8 4) (ay_at hp 11) (ay_at hp 12) := (ax_XF_lt (by decide)).mp (ax_gx hE (53, [3, 15]) (by decide))
  refine ⟨(fun y hy => by cases hy), _, List.mem_cons_self, ρ, fun _ _ => rfl, ax_px hE (by decide) (fun y hy => ?_)⟩
  cases List.mem_singleton.mp hy
  refine (ax_XF_bi (o := 30) (by decide)).mpr (Or.inr ⟨rfl, ?_⟩)
  show ρ 1 < ρ 3
  omega

theorem axq_lk8 : ax_RO ax_wC ax_XC axu_lk8 := by
  intro ρ hp hE hT
  have j0 : ρ 0 % 4 = 1 := pz_gj hE 0 (by decide) rfl
  have j1 : ρ 1 % 4 = 1 := pz_gj hE 1 (by decide) rfl
  have j2 : ρ 2 % 4 = 1 := pz_gj hE 2 (by decide) rfl
  have j3 : ρ 3 % 4 = 1 := pz_gj hE 3 (by decide) rfl
  have o1 : ρ 2 < ρ 3 := pz_go hE 11 15 (by decide)
  have o2 : ρ 1 < ρ 2 := pz_go hE 7 11 (by decide)
  obtain ⟨-, -, -, -, F50⟩ : ay_ex hp 8 ∧ ay_ex hp 10 ∧ ay_ex hp 11 ∧ ay_ex hp 12 ∧ pz_x50 (ρ 0) (ρ 3) (ay_at hp 8 5) (ay_at hp 8 6) (ay_at hp 8 7) (ay_at hp 8 8) (ay_at hp 10 0) (ay_at hp 10 1) (ay_at hp 10 2) (ay_at hp 10 3) (ay_at hp 10 4) (ay_at hp 8 9) (ay_at hp 8 11) (ay_at hp 8 10) (ay_at hp 8 3) (ay_at hp 8 4) (ay_at hp 11) (ay_at hp 12) := (ax_XF_lt (by decide)).mp (ax_gx hE (50, [3, 15]) (by decide))
  refine ⟨(fun y hy => by cases hy), _, List.mem_cons_self, ρ, fun _ _ => rfl, ax_px hE (by decide) (fun y hy => ?_)⟩
  cases List.mem_singleton.mp hy
  refine (ax_XF_bi (o := 30) (by decide)).mpr (Or.inr ⟨rfl, ?_⟩)
  show ρ 1 < ρ 3
  omega

theorem axq_rl_n2 : ax_RO ax_wC ax_XC axu_rl_n2 := by
  intro ρ hp hE hT
  have j0 : ρ 0 % 4 = 1 := pz_gj hE 0 (by decide) rfl
  have j1 : ρ 1 % 4 = 1 := pz_gj hE 1 (by decide) rfl
  obtain ⟨-, -, -, -, F50⟩ : ay_ex hp 8 ∧ ay_ex hp 10 ∧ ay_ex hp 11 ∧ ay_ex hp 12 ∧ pz_x50 (ρ 0) (ρ 1) (ay_at hp 8 5) (ay_at hp 8 6) (ay_at hp 8 7) (ay_at hp 8 8) (ay_at hp 10 0) (ay_at hp 10 1) (ay_at hp 10 2) (ay_at hp 10 3) (ay_at hp 10 4) (ay_at hp 8 9) (ay_at hp 8 11) (ay_at hp 8 10) (ay_at hp 8 3) (ay_at hp 8 4) (ay_at hp 11) (ay_at hp 12) := (ax_XF_lt (by decide)).mp (ax_gx hE (50, [3, 7]) (by decide))
  have F61 : pz61 (pz_gt (ρ 0)) (pz_gN (ρ 0)) ((ρ 1) / 4) ((4010) / 4 - 1000) := (ax_XF_lt (by decide)).mp (ax_gx hE (61, [3, 7, 4010]) (by decide))
  refine ⟨(fun y hy => by cases hy), _, List.mem_cons_self, ρ, fun _ _ => rfl, ax_px hE (by decide) (fun y hy => ?_)⟩
  cases List.mem_singleton.mp hy
  refine (ax_XF_lt (x := 122) (by decide)).mpr ?_
  show ay_ex hp 8 ∧ (pz61 (pz_gt (ρ 0)) (pz_gN (ρ 0)) ((ρ 1) / 4) 2 ∨ ay_ln (ay_at hp 8 9) = 1)
  refine ⟨(ax_cellT hT (q := 8) (g := 2) rfl), ?_⟩
  exact Or.inl F61

theorem axq_rl_t2 : ax_RO ax_wC ax_XC axu_rl_t2 := by
  intro ρ hp hE hT
  have j0 : ρ 0 % 4 = 1 := pz_gj hE 0 (by decide) rfl
  have j1 : ρ 1 % 4 = 1 := pz_gj hE 1 (by decide) rfl
  obtain ⟨i2a, i2b, i2c, i2d⟩ := pz_gi hE 2 2147483649 2147483649 (by decide) rfl
  have c_rootTold : ay_at hp 8 9 = some (ρ 2) := ay_gfj hE 42 36 11 8 9 (by decide) (by rw [ax_vl_c (by decide)]) (by rw [ax_vl_c (by decide)])
  obtain ⟨-, -, -, -, F50⟩ : ay_ex hp 8 ∧ ay_ex hp 10 ∧ ay_ex hp 11 ∧ ay_ex hp 12 ∧ pz_x50 (ρ 0) (ρ 1) (ay_at hp 8 5) (ay_at hp 8 6) (ay_at hp 8 7) (ay_at hp 8 8) (ay_at hp 10 0) (ay_at hp 10 1) (ay_at hp 10 2) (ay_at hp 10 3) (ay_at hp 10 4) (ay_at hp 8 9) (ay_at hp 8 11) (ay_at hp 8 10) (ay_at hp 8 3) (ay_at hp 8 4) (ay_at hp 11) (ay_at hp 12) := (ax_XF_lt (by decide)).mp (ax_gx hE (50, [3, 7]) (by decide))
  rw [c_rootTold] at F50
  refine ⟨(fun y hy => by cases hy), _, List.mem_cons_self, ρ, fun _ _ => rfl, ax_px hE (by decide) (fun y hy => ?_)⟩
  cases List.mem_singleton.mp hy
  refine (ax_XF_lt (x := 122) (by decide)).mpr ?_
  show ay_ex hp 8 ∧ (pz61 (pz_gt (ρ 0)) (pz_gN (ρ 0)) ((ρ 1) / 4) 2 ∨ ay_ln (ay_at hp 8 9) = 1)
  refine ⟨(ax_cellT hT (q := 8) (g := 2) rfl), ?_⟩
  rw [c_rootTold]
  exact Or.inr (show ρ 2 / 4 = 1 by omega)

theorem axq_rl_n3 : ax_RO ax_wC ax_XC axu_rl_n3 := by
  intro ρ hp hE hT
  have j0 : ρ 0 % 4 = 1 := pz_gj hE 0 (by decide) rfl
  have j1 : ρ 1 % 4 = 1 := pz_gj hE 1 (by decide) rfl
  obtain ⟨-, -, -, -, F50⟩ : ay_ex hp 8 ∧ ay_ex hp 10 ∧ ay_ex hp 11 ∧ ay_ex hp 12 ∧ pz_x50 (ρ 0) (ρ 1) (ay_at hp 8 5) (ay_at hp 8 6) (ay_at hp 8 7) (ay_at hp 8 8) (ay_at hp 10 0) (ay_at hp 10 1) (ay_at hp 10 2) (ay_at hp 10 3) (ay_at hp 10 4) (ay_at hp 8 9) (ay_at hp 8 11) (ay_at hp 8 10) (ay_at hp 8 3) (ay_at hp 8 4) (ay_at hp 11) (ay_at hp 12) := (ax_XF_lt (by decide)).mp (ax_gx hE (50, [3, 7]) (by decide))
  have F61 : pz61 (pz_gt (ρ 0)) (pz_gN (ρ 0)) ((ρ 1) / 4) ((4014) / 4 - 1000) := (ax_XF_lt (by decide)).mp (ax_gx hE (61, [3, 7, 4014]) (by decide))
  refine ⟨(fun y hy => by cases hy), _, List.mem_cons_self, ρ, fun _ _ => rfl, ax_px hE (by decide) (fun y hy => ?_)⟩
  cases List.mem_singleton.mp hy
  refine (ax_XF_lt (x := 123) (by decide)).mpr ?_
  show ay_ex hp 8 ∧ (pz61 (pz_gt (ρ 0)) (pz_gN (ρ 0)) ((ρ 1) / 4) 3 ∨ ay_ln (ay_at hp 8 11) = 1)
  refine ⟨(ax_cellT hT (q := 8) (g := 2) rfl), ?_⟩
  exact Or.inl F61

theorem axq_rl_t3 : ax_RO ax_wC ax_XC axu_rl_t3 := by
  intro ρ hp hE hT
  have j0 : ρ 0 % 4 = 1 := pz_gj hE 0 (by decide) rfl
  have j1 : ρ 1 % 4 = 1 := pz_gj hE 1 (by decide) rfl
  obtain ⟨i2a, i2b, i2c, i2d⟩ := pz_gi hE 2 2147483649 2147483649 (by decide) rfl
  have c_roomTold : ay_at hp 8 11 = some (ρ 2) := ay_gfj hE 42 44 11 8 11 (by decide) (by rw [ax_vl_c (by decide)]) (by rw [ax_vl_c (by decide)])
  obtain ⟨-, -, -, -, F50⟩ : ay_ex hp 8 ∧ ay_ex hp 10 ∧ ay_ex hp 11 ∧ ay_ex hp 12 ∧ pz_x50 (ρ 0) (ρ 1) (ay_at hp 8 5) (ay_at hp 8 6) (ay_at hp 8 7) (ay_at hp 8 8) (ay_at hp 10 0) (ay_at hp 10 1) (ay_at hp 10 2) (ay_at hp 10 3) (ay_at hp 10 4) (ay_at hp 8 9) (ay_at hp 8 11) (ay_at hp 8 10) (ay_at hp 8 3) (ay_at hp 8 4) (ay_at hp 11) (ay_at hp 12) := (ax_XF_lt (by decide)).mp (ax_gx hE (50, [3, 7]) (by decide))
  rw [c_roomTold] at F50
  refine ⟨(fun y hy => by cases hy), _, List.mem_cons_self, ρ, fun _ _ => rfl, ax_px hE (by decide) (fun y hy => ?_)⟩
  cases List.mem_singleton.mp hy
  refine (ax_XF_lt (x := 123) (by decide)).mpr ?_
  show ay_ex hp 8 ∧ (pz61 (pz_gt (ρ 0)) (pz_gN (ρ 0)) ((ρ 1) / 4) 3 ∨ ay_ln (ay_at hp 8 11) = 1)
  refine ⟨(ax_cellT hT (q := 8) (g := 2) rfl), ?_⟩
  rw [c_roomTold]
  exact Or.inr (show ρ 2 / 4 = 1 by omega)

theorem axq_rl_n4 : ax_RO ax_wC ax_XC axu_rl_n4 := by
  intro ρ hp hE hT
  have j0 : ρ 0 % 4 = 1 := pz_gj hE 0 (by decide) rfl
  have j1 : ρ 1 % 4 = 1 := pz_gj hE 1 (by decide) rfl
  obtain ⟨-, -, -, -, F50⟩ : ay_ex hp 8 ∧ ay_ex hp 10 ∧ ay_ex hp 11 ∧ ay_ex hp 12 ∧ pz_x50 (ρ 0) (ρ 1) (ay_at hp 8 5) (ay_at hp 8 6) (ay_at hp 8 7) (ay_at hp 8 8) (ay_at hp 10 0) (ay_at hp 10 1) (ay_at hp 10 2) (ay_at hp 10 3) (ay_at hp 10 4) (ay_at hp 8 9) (ay_at hp 8 11) (ay_at hp 8 10) (ay_at hp 8 3) (ay_at hp 8 4) (ay_at hp 11) (ay_at hp 12) := (ax_XF_lt (by decide)).mp (ax_gx hE (50, [3, 7]) (by decide))
  have F61 : pz61 (pz_gt (ρ 0)) (pz_gN (ρ 0)) ((ρ 1) / 4) ((4018) / 4 - 1000) := (ax_XF_lt (by decide)).mp (ax_gx hE (61, [3, 7, 4018]) (by decide))
  refine ⟨(fun y hy => by cases hy), _, List.mem_cons_self, ρ, fun _ _ => rfl, ax_px hE (by decide) (fun y hy => ?_)⟩
  cases List.mem_singleton.mp hy
  refine (ax_XF_lt (x := 124) (by decide)).mpr ?_
  show ay_ex hp 8 ∧ (pz61 (pz_gt (ρ 0)) (pz_gN (ρ 0)) ((ρ 1) / 4) 4 ∨ ay_ln (ay_at hp 8 10) = 1)
  refine ⟨(ax_cellT hT (q := 8) (g := 2) rfl), ?_⟩
  exact Or.inl F61

theorem axq_rl_t4 : ax_RO ax_wC ax_XC axu_rl_t4 := by
  intro ρ hp hE hT
  have j0 : ρ 0 % 4 = 1 := pz_gj hE 0 (by decide) rfl
  have j1 : ρ 1 % 4 = 1 := pz_gj hE 1 (by decide) rfl
  obtain ⟨i2a, i2b, i2c, i2d⟩ := pz_gi hE 2 2147483649 2147483649 (by decide) rfl
  have c_rankTold : ay_at hp 8 10 = some (ρ 2) := ay_gfj hE 42 40 11 8 10 (by decide) (by rw [ax_vl_c (by decide)]) (by rw [ax_vl_c (by decide)])
  obtain ⟨-, -, -, -, F50⟩ : ay_ex hp 8 ∧ ay_ex hp 10 ∧ ay_ex hp 11 ∧ ay_ex hp 12 ∧ pz_x50 (ρ 0) (ρ 1) (ay_at hp 8 5) (ay_at hp 8 6) (ay_at hp 8 7) (ay_at hp 8 8) (ay_at hp 10 0) (ay_at hp 10 1) (ay_at hp 10 2) (ay_at hp 10 3) (ay_at hp 10 4) (ay_at hp 8 9) (ay_at hp 8 11) (ay_at hp 8 10) (ay_at hp 8 3) (ay_at hp 8 4) (ay_at hp 11) (ay_at hp 12) := (ax_XF_lt (by decide)).mp (ax_gx hE (50, [3, 7]) (by decide))
  rw [c_rankTold] at F50
  refine ⟨(fun y hy => by cases hy), _, List.mem_cons_self, ρ, fun _ _ => rfl, ax_px hE (by decide) (fun y hy => ?_)⟩
  cases List.mem_singleton.mp hy
  refine (ax_XF_lt (x := 124) (by decide)).mpr ?_
  show ay_ex hp 8 ∧ (pz61 (pz_gt (ρ 0)) (pz_gN (ρ 0)) ((ρ 1) / 4) 4 ∨ ay_ln (ay_at hp 8 10) = 1)
  refine ⟨(ax_cellT hT (q := 8) (g := 2) rfl), ?_⟩
  rw [c_rankTold]
  exact Or.inr (show ρ 2 / 4 = 1 by omega)

theorem axq_rt2 : ax_RO ax_wC ax_XC axu_rt2 := by
  intro ρ hp hE hT
  have j0 : ρ 0 % 4 = 1 := pz_gj hE 0 (by decide) rfl
  have j1 : ρ 1 % 4 = 1 := pz_gj hE 1 (by decide) rfl
  obtain ⟨i2a, i2b, i2c, i2d⟩ := pz_gi hE 2 2147483648 2147483648 (by decide) rfl
  have c_kind : ay_at hp 8 7 = some (ρ 2) := ay_gfj hE 42 28 11 8 7 (by decide) (by rw [ax_vl_c (by decide)]) (by rw [ax_vl_c (by decide)])
  obtain ⟨-, -, -, -, F50⟩ : ay_ex hp 8 ∧ ay_ex hp 10 ∧ ay_ex hp 11 ∧ ay_ex hp 12 ∧ pz_x50 (ρ 0) (ρ 1) (ay_at hp 8 5) (ay_at hp 8 6) (ay_at hp 8 7) (ay_at hp 8 8) (ay_at hp 10 0) (ay_at hp 10 1) (ay_at hp 10 2) (ay_at hp 10 3) (ay_at hp 10 4) (ay_at hp 8 9) (ay_at hp 8 11) (ay_at hp 8 10) (ay_at hp 8 3) (ay_at hp 8 4) (ay_at hp 11) (ay_at hp 12) := (ax_XF_lt (by decide)).mp (ax_gx hE (50, [3, 7]) (by decide))
  rw [c_kind] at F50
  have F70 : pz7 (pz_gt (ρ 0)) (pz_gN (ρ 0)) ((ρ 1) / 4) 0 := (ax_XF_lt (by decide)).mp (ax_gx hE (70, [3, 7]) (by decide))
  refine ⟨(fun y hy => by cases hy), _, List.mem_cons_self, ρ, fun _ _ => rfl, ax_px hE (by decide) (fun y hy => ?_)⟩
  cases List.mem_singleton.mp hy
  refine (ax_XF_lt (x := 110) (by decide)).mpr ?_
  show ay_ex hp 10 ∧ ay_ex hp 8 ∧ ay_ex hp 11 ∧ ay_ex hp 12 ∧ pz110 (pz_gt (ρ 0)) (pz_gN (ρ 0)) (ay_ln (ay_at hp 10 0)) (ay_ln (ay_at hp 10 1)) (ay_ln (ay_at hp 10 2)) (ay_ln (ay_at hp 10 3)) (ay_ln (ay_at hp 10 4)) (ay_ln (ay_at hp 8 9)) (ay_ln (ay_at hp 8 11)) (ay_ln (ay_at hp 8 10)) (ay_ln (ay_at hp 8 3)) (ay_ln (ay_at hp 8 4)) (ay_at hp 11) (ay_at hp 12)
  refine ⟨(ax_cellT hT (q := 10) (g := 1) rfl), (ax_cellT hT (q := 8) (g := 2) rfl), (ax_cellT hT (q := 11) (g := 14) rfl), (ax_cellT hT (q := 12) (g := 15) rfl), ?_⟩
  exact pq_rt2 F50 F70 (show ρ 2 / 4 = 0 by omega)

theorem axq_rt8 : ax_RO ax_wC ax_XC axu_rt8 := by
  intro ρ hp hE hT
  have j0 : ρ 0 % 4 = 1 := pz_gj hE 0 (by decide) rfl
  have j1 : ρ 1 % 4 = 1 := pz_gj hE 1 (by decide) rfl
  obtain ⟨i2a, i2b, i2c, i2d⟩ := pz_gi hE 2 2147483648 2147483648 (by decide) rfl
  have c_kind : ay_at hp 8 7 = some (ρ 2) := ay_gfj hE 42 28 11 8 7 (by decide) (by rw [ax_vl_c (by decide)]) (by rw [ax_vl_c (by decide)])
  obtain ⟨-, -, -, -, F50⟩ : ay_ex hp 8 ∧ ay_ex hp 10 ∧ ay_ex hp 11 ∧ ay_ex hp 12 ∧ pz_x50 (ρ 0) (ρ 1) (ay_at hp 8 5) (ay_at hp 8 6) (ay_at hp 8 7) (ay_at hp 8 8) (ay_at hp 10 0) (ay_at hp 10 1) (ay_at hp 10 2) (ay_at hp 10 3) (ay_at hp 10 4) (ay_at hp 8 9) (ay_at hp 8 11) (ay_at hp 8 10) (ay_at hp 8 3) (ay_at hp 8 4) (ay_at hp 11) (ay_at hp 12) := (ax_XF_lt (by decide)).mp (ax_gx hE (50, [3, 7]) (by decide))
  rw [c_kind] at F50
  have F73 : pz7 (pz_gt (ρ 0)) (pz_gN (ρ 0)) ((ρ 1) / 4) 3 := (ax_XF_lt (by decide)).mp (ax_gx hE (73, [3, 7]) (by decide))
  refine ⟨(fun y hy => by cases hy), _, List.mem_cons_self, ρ, fun _ _ => rfl, ax_px hE (by decide) (fun y hy => ?_)⟩
  cases List.mem_singleton.mp hy
  refine (ax_XF_lt (x := 110) (by decide)).mpr ?_
  show ay_ex hp 10 ∧ ay_ex hp 8 ∧ ay_ex hp 11 ∧ ay_ex hp 12 ∧ pz110 (pz_gt (ρ 0)) (pz_gN (ρ 0)) (ay_ln (ay_at hp 10 0)) (ay_ln (ay_at hp 10 1)) (ay_ln (ay_at hp 10 2)) (ay_ln (ay_at hp 10 3)) (ay_ln (ay_at hp 10 4)) (ay_ln (ay_at hp 8 9)) (ay_ln (ay_at hp 8 11)) (ay_ln (ay_at hp 8 10)) (ay_ln (ay_at hp 8 3)) (ay_ln (ay_at hp 8 4)) (ay_at hp 11) (ay_at hp 12)
  refine ⟨(ax_cellT hT (q := 10) (g := 1) rfl), (ax_cellT hT (q := 8) (g := 2) rfl), (ax_cellT hT (q := 11) (g := 14) rfl), (ax_cellT hT (q := 12) (g := 15) rfl), ?_⟩
  exact pq_rt8 F50 F73 (show ρ 2 / 4 = 0 by omega)

theorem axq_rt7 : ax_RO ax_wC ax_XC axu_rt7 := by
  intro ρ hp hE hT
  have j0 : ρ 0 % 4 = 1 := pz_gj hE 0 (by decide) rfl
  have j1 : ρ 1 % 4 = 1 := pz_gj hE 1 (by decide) rfl
  obtain ⟨i2a, i2b, i2c, i2d⟩ := pz_gi hE 2 2147484448 2147484448 (by decide) rfl
  obtain ⟨-, -, F30⟩ : ay_ex hp 8 ∧ ay_ex hp 9 ∧ pz_x30 (ρ 0) (ay_at hp 8 1) (ay_at hp 9) := (ax_XF_lt (by decide)).mp (ax_gx hE (30, [3]) (by decide))
  obtain ⟨-, -, -, -, F50⟩ : ay_ex hp 8 ∧ ay_ex hp 10 ∧ ay_ex hp 11 ∧ ay_ex hp 12 ∧ pz_x50 (ρ 0) (ρ 1) (ay_at hp 8 5) (ay_at hp 8 6) (ay_at hp 8 7) (ay_at hp 8 8) (ay_at hp 10 0) (ay_at hp 10 1) (ay_at hp 10 2) (ay_at hp 10 3) (ay_at hp 10 4) (ay_at hp 8 9) (ay_at hp 8 11) (ay_at hp 8 10) (ay_at hp 8 3) (ay_at hp 8 4) (ay_at hp 11) (ay_at hp 12) := (ax_XF_lt (by decide)).mp (ax_gx hE (50, [3, 7]) (by decide))
  have F73 : pz7 (pz_gt (ρ 0)) (pz_gN (ρ 0)) ((ρ 1) / 4) 3 := (ax_XF_lt (by decide)).mp (ax_gx hE (73, [3, 7]) (by decide))
  have F97 : (ρ 2) / 4 ≤ (ρ 1) / 4 := (ax_XF_lt (by decide)).mp (ax_gx hE (97, [7, 11]) (by decide))
  refine ⟨(fun y hy => by cases hy), _, List.mem_cons_self, ρ, fun _ _ => rfl, ax_px hE (by decide) (fun y hy => ?_)⟩
  cases List.mem_singleton.mp hy
  refine (ax_XF_lt (x := 110) (by decide)).mpr ?_
  show ay_ex hp 10 ∧ ay_ex hp 8 ∧ ay_ex hp 11 ∧ ay_ex hp 12 ∧ pz110 (pz_gt (ρ 0)) (pz_gN (ρ 0)) (ay_ln (ay_at hp 10 0)) (ay_ln (ay_at hp 10 1)) (ay_ln (ay_at hp 10 2)) (ay_ln (ay_at hp 10 3)) (ay_ln (ay_at hp 10 4)) (ay_ln (ay_at hp 8 9)) (ay_ln (ay_at hp 8 11)) (ay_ln (ay_at hp 8 10)) (ay_ln (ay_at hp 8 3)) (ay_ln (ay_at hp 8 4)) (ay_at hp 11) (ay_at hp 12)
  refine ⟨(ax_cellT hT (q := 10) (g := 1) rfl), (ax_cellT hT (q := 8) (g := 2) rfl), (ax_cellT hT (q := 11) (g := 14) rfl), (ax_cellT hT (q := 12) (g := 15) rfl), ?_⟩
  have kd := pq_far (n := ρ 1 / 4) F73 (by decide) (show pz_gN (ρ 0) ≤ 800 from F30.2.1) (by omega)
  exact pq_rt8 F50 F73 (F50.2.2.1.trans kd)

theorem axq_fl1_1 : ax_RO ax_wC ax_XC axu_fl1_1 := by
  intro ρ hp hE hT
  have j0 : ρ 0 % 4 = 1 := pz_gj hE 0 (by decide) rfl
  have j1 : ρ 1 % 4 = 1 := pz_gj hE 1 (by decide) rfl
  obtain ⟨-, -, -, -, F50⟩ : ay_ex hp 8 ∧ ay_ex hp 10 ∧ ay_ex hp 11 ∧ ay_ex hp 12 ∧ pz_x50 (ρ 0) (ρ 1) (ay_at hp 8 5) (ay_at hp 8 6) (ay_at hp 8 7) (ay_at hp 8 8) (ay_at hp 10 0) (ay_at hp 10 1) (ay_at hp 10 2) (ay_at hp 10 3) (ay_at hp 10 4) (ay_at hp 8 9) (ay_at hp 8 11) (ay_at hp 8 10) (ay_at hp 8 3) (ay_at hp 8 4) (ay_at hp 11) (ay_at hp 12) := (ax_XF_lt (by decide)).mp (ax_gx hE (50, [3, 7]) (by decide))
  have F64 : pz64 (pz_gt (ρ 0)) (pz_gN (ρ 0)) ((ρ 1) / 4) ((4) / 4) := (ax_XF_lt (by decide)).mp (ax_gx hE (64, [3, 7, 4]) (by decide))
  refine ⟨(fun y hy => by cases hy), _, List.mem_cons_self, ρ, fun _ _ => rfl, ax_px hE (by decide) (fun y hy => ?_)⟩
  cases List.mem_singleton.mp hy
  refine (ax_XF_wr (x := 65) (by decide)).mpr ?_
  show ay_ex (ax_upd hp 42 12 (4)) 8 ∧ pz_x65 (ρ 0) (ρ 1) (4) (ay_at (ax_upd hp 42 12 (4)) 8 6) (ay_at (ax_upd hp 42 12 (4)) 8 3)
  obtain ⟨o0, ho0⟩ := ay_some hT (q := 8) (g := 2) (n := 12) rfl rfl (j := 12 / 4) (by decide)
  have u1 : ∀ q, q ≠ 8 → ay_at (ax_upd hp 42 12 (4)) q = ay_at hp q := fun q hq => funext (fun j => ay_upd_ne hT.1 hq j)
  have u2 : ∀ j, ay_at (ax_upd hp 42 12 (4)) 8 j = if j = 3 then some (4) else ay_at hp 8 j := fun j => ay_upd_eq hT.1 rfl ho0 j
  refine ⟨ay_ex_upd hT.1 (ax_cellT hT (q := 8) (g := 2) rfl), ?_⟩
  rw [u2 6, if_neg (show ¬ 6 = 3 by decide), u2 3, if_pos rfl]
  exact ⟨F64, rfl, F50.2.1⟩

theorem axq_fl2_1 : ax_RO ax_wC ax_XC axu_fl2_1 := by
  intro ρ hp hE hT
  have j0 : ρ 0 % 4 = 1 := pz_gj hE 0 (by decide) rfl
  have j1 : ρ 1 % 4 = 1 := pz_gj hE 1 (by decide) rfl
  obtain ⟨i2a, i2b, i2c, i2d⟩ := pz_gi hE 2 2147483648 2147484448 (by decide) rfl
  have c_place : ay_at hp 8 6 = some (ρ 2) := ay_gfj hE 42 24 11 8 6 (by decide) (by rw [ax_vl_c (by decide)]) (by rw [ax_vl_c (by decide)])
  obtain ⟨-, F65⟩ : ay_ex hp 8 ∧ pz_x65 (ρ 0) (ρ 1) (4) (ay_at hp 8 6) (ay_at hp 8 3) := (ax_XF_lt (by decide)).mp (ax_gx hE (65, [3, 7, 4]) (by decide))
  rw [c_place] at F65
  refine ⟨(fun y hy => by cases hy), _, List.mem_cons_self, ρ, fun _ _ => rfl, ax_px hE (by decide) (fun y hy => ?_)⟩
  cases List.mem_singleton.mp hy
  refine (ax_XF_wr (x := 63) (by decide)).mpr ?_
  show ay_ex (ax_upd hp 42 16 (ρ 2)) 8 ∧ pz63 (pz_gt (ρ 0)) (pz_gN (ρ 0)) (ay_ln (ay_at (ax_upd hp 42 16 (ρ 2)) 8 3)) (ay_ln (ay_at (ax_upd hp 42 16 (ρ 2)) 8 4))
  obtain ⟨o0, ho0⟩ := ay_some hT (q := 8) (g := 2) (n := 12) rfl rfl (j := 16 / 4) (by decide)
  have u1 : ∀ q, q ≠ 8 → ay_at (ax_upd hp 42 16 (ρ 2)) q = ay_at hp q := fun q hq => funext (fun j => ay_upd_ne hT.1 hq j)
  have u2 : ∀ j, ay_at (ax_upd hp 42 16 (ρ 2)) 8 j = if j = 4 then some (ρ 2) else ay_at hp 8 j := fun j => ay_upd_eq hT.1 rfl ho0 j
  refine ⟨ay_ex_upd hT.1 (ax_cellT hT (q := 8) (g := 2) rfl), ?_⟩
  rw [u2 3, if_neg (show ¬ 3 = 4 by decide), u2 4, if_pos rfl]
  have e := pq_fl2 F65.1
  have e2 : ρ 2 / 4 = pz_at (pz_gt (ρ 0)) (pz_gN (ρ 0)) (pz_p (pz_cf (pz_gt (ρ 0)) (pz_gN (ρ 0)) (ρ 1 / 4))) := F65.2.2
  have e3 : ay_ln (ay_at hp 8 3) = 1 := F65.2.1
  show pz63 _ _ (ay_ln (ay_at hp 8 3)) (ρ 2 / 4)
  rw [e3, e2]
  exact e

theorem axq_fl1_2 : ax_RO ax_wC ax_XC axu_fl1_2 := by
  intro ρ hp hE hT
  have j0 : ρ 0 % 4 = 1 := pz_gj hE 0 (by decide) rfl
  have j1 : ρ 1 % 4 = 1 := pz_gj hE 1 (by decide) rfl
  obtain ⟨-, -, -, -, F50⟩ : ay_ex hp 8 ∧ ay_ex hp 10 ∧ ay_ex hp 11 ∧ ay_ex hp 12 ∧ pz_x50 (ρ 0) (ρ 1) (ay_at hp 8 5) (ay_at hp 8 6) (ay_at hp 8 7) (ay_at hp 8 8) (ay_at hp 10 0) (ay_at hp 10 1) (ay_at hp 10 2) (ay_at hp 10 3) (ay_at hp 10 4) (ay_at hp 8 9) (ay_at hp 8 11) (ay_at hp 8 10) (ay_at hp 8 3) (ay_at hp 8 4) (ay_at hp 11) (ay_at hp 12) := (ax_XF_lt (by decide)).mp (ax_gx hE (50, [3, 7]) (by decide))
  have F64 : pz64 (pz_gt (ρ 0)) (pz_gN (ρ 0)) ((ρ 1) / 4) ((8) / 4) := (ax_XF_lt (by decide)).mp (ax_gx hE (64, [3, 7, 8]) (by decide))
  refine ⟨(fun y hy => by cases hy), _, List.mem_cons_self, ρ, fun _ _ => rfl, ax_px hE (by decide) (fun y hy => ?_)⟩
  cases List.mem_singleton.mp hy
  refine (ax_XF_wr (x := 65) (by decide)).mpr ?_
  show ay_ex (ax_upd hp 42 12 (8)) 8 ∧ pz_x65 (ρ 0) (ρ 1) (8) (ay_at (ax_upd hp 42 12 (8)) 8 6) (ay_at (ax_upd hp 42 12 (8)) 8 3)
  obtain ⟨o0, ho0⟩ := ay_some hT (q := 8) (g := 2) (n := 12) rfl rfl (j := 12 / 4) (by decide)
  have u1 : ∀ q, q ≠ 8 → ay_at (ax_upd hp 42 12 (8)) q = ay_at hp q := fun q hq => funext (fun j => ay_upd_ne hT.1 hq j)
  have u2 : ∀ j, ay_at (ax_upd hp 42 12 (8)) 8 j = if j = 3 then some (8) else ay_at hp 8 j := fun j => ay_upd_eq hT.1 rfl ho0 j
  refine ⟨ay_ex_upd hT.1 (ax_cellT hT (q := 8) (g := 2) rfl), ?_⟩
  rw [u2 6, if_neg (show ¬ 6 = 3 by decide), u2 3, if_pos rfl]
  exact ⟨F64, rfl, F50.2.1⟩

theorem axq_fl2_2 : ax_RO ax_wC ax_XC axu_fl2_2 := by
  intro ρ hp hE hT
  have j0 : ρ 0 % 4 = 1 := pz_gj hE 0 (by decide) rfl
  have j1 : ρ 1 % 4 = 1 := pz_gj hE 1 (by decide) rfl
  obtain ⟨i2a, i2b, i2c, i2d⟩ := pz_gi hE 2 2147483648 2147484448 (by decide) rfl
  have c_place : ay_at hp 8 6 = some (ρ 2) := ay_gfj hE 42 24 11 8 6 (by decide) (by rw [ax_vl_c (by decide)]) (by rw [ax_vl_c (by decide)])
  obtain ⟨-, F65⟩ : ay_ex hp 8 ∧ pz_x65 (ρ 0) (ρ 1) (8) (ay_at hp 8 6) (ay_at hp 8 3) := (ax_XF_lt (by decide)).mp (ax_gx hE (65, [3, 7, 8]) (by decide))
  rw [c_place] at F65
  refine ⟨(fun y hy => by cases hy), _, List.mem_cons_self, ρ, fun _ _ => rfl, ax_px hE (by decide) (fun y hy => ?_)⟩
  cases List.mem_singleton.mp hy
  refine (ax_XF_wr (x := 63) (by decide)).mpr ?_
  show ay_ex (ax_upd hp 42 16 (ρ 2)) 8 ∧ pz63 (pz_gt (ρ 0)) (pz_gN (ρ 0)) (ay_ln (ay_at (ax_upd hp 42 16 (ρ 2)) 8 3)) (ay_ln (ay_at (ax_upd hp 42 16 (ρ 2)) 8 4))
  obtain ⟨o0, ho0⟩ := ay_some hT (q := 8) (g := 2) (n := 12) rfl rfl (j := 16 / 4) (by decide)
  have u1 : ∀ q, q ≠ 8 → ay_at (ax_upd hp 42 16 (ρ 2)) q = ay_at hp q := fun q hq => funext (fun j => ay_upd_ne hT.1 hq j)
  have u2 : ∀ j, ay_at (ax_upd hp 42 16 (ρ 2)) 8 j = if j = 4 then some (ρ 2) else ay_at hp 8 j := fun j => ay_upd_eq hT.1 rfl ho0 j
  refine ⟨ay_ex_upd hT.1 (ax_cellT hT (q := 8) (g := 2) rfl), ?_⟩
  rw [u2 3, if_neg (show ¬ 3 = 4 by decide), u2 4, if_pos rfl]
  have e := pq_fl2 F65.1
  have e2 : ρ 2 / 4 = pz_at (pz_gt (ρ 0)) (pz_gN (ρ 0)) (pz_p (pz_cf (pz_gt (ρ 0)) (pz_gN (ρ 0)) (ρ 1 / 4))) := F65.2.2
  have e3 : ay_ln (ay_at hp 8 3) = 2 := F65.2.1
  show pz63 _ _ (ay_ln (ay_at hp 8 3)) (ρ 2 / 4)
  rw [e3, e2]
  exact e

theorem axq_fl1_3 : ax_RO ax_wC ax_XC axu_fl1_3 := by
  intro ρ hp hE hT
  have j0 : ρ 0 % 4 = 1 := pz_gj hE 0 (by decide) rfl
  have j1 : ρ 1 % 4 = 1 := pz_gj hE 1 (by decide) rfl
  obtain ⟨-, -, -, -, F50⟩ : ay_ex hp 8 ∧ ay_ex hp 10 ∧ ay_ex hp 11 ∧ ay_ex hp 12 ∧ pz_x50 (ρ 0) (ρ 1) (ay_at hp 8 5) (ay_at hp 8 6) (ay_at hp 8 7) (ay_at hp 8 8) (ay_at hp 10 0) (ay_at hp 10 1) (ay_at hp 10 2) (ay_at hp 10 3) (ay_at hp 10 4) (ay_at hp 8 9) (ay_at hp 8 11) (ay_at hp 8 10) (ay_at hp 8 3) (ay_at hp 8 4) (ay_at hp 11) (ay_at hp 12) := (ax_XF_lt (by decide)).mp (ax_gx hE (50, [3, 7]) (by decide))
  have F64 : pz64 (pz_gt (ρ 0)) (pz_gN (ρ 0)) ((ρ 1) / 4) ((12) / 4) := (ax_XF_lt (by decide)).mp (ax_gx hE (64, [3, 7, 12]) (by decide))
  refine ⟨(fun y hy => by cases hy), _, List.mem_cons_self, ρ, fun _ _ => rfl, ax_px hE (by decide) (fun y hy => ?_)⟩
  cases List.mem_singleton.mp hy
  refine (ax_XF_wr (x := 65) (by decide)).mpr ?_
  show ay_ex (ax_upd hp 42 12 (12)) 8 ∧ pz_x65 (ρ 0) (ρ 1) (12) (ay_at (ax_upd hp 42 12 (12)) 8 6) (ay_at (ax_upd hp 42 12 (12)) 8 3)
  obtain ⟨o0, ho0⟩ := ay_some hT (q := 8) (g := 2) (n := 12) rfl rfl (j := 12 / 4) (by decide)
  have u1 : ∀ q, q ≠ 8 → ay_at (ax_upd hp 42 12 (12)) q = ay_at hp q := fun q hq => funext (fun j => ay_upd_ne hT.1 hq j)
  have u2 : ∀ j, ay_at (ax_upd hp 42 12 (12)) 8 j = if j = 3 then some (12) else ay_at hp 8 j := fun j => ay_upd_eq hT.1 rfl ho0 j
  refine ⟨ay_ex_upd hT.1 (ax_cellT hT (q := 8) (g := 2) rfl), ?_⟩
  rw [u2 6, if_neg (show ¬ 6 = 3 by decide), u2 3, if_pos rfl]
  exact ⟨F64, rfl, F50.2.1⟩

theorem axq_fl2_3 : ax_RO ax_wC ax_XC axu_fl2_3 := by
  intro ρ hp hE hT
  have j0 : ρ 0 % 4 = 1 := pz_gj hE 0 (by decide) rfl
  have j1 : ρ 1 % 4 = 1 := pz_gj hE 1 (by decide) rfl
  obtain ⟨i2a, i2b, i2c, i2d⟩ := pz_gi hE 2 2147483648 2147484448 (by decide) rfl
  have c_place : ay_at hp 8 6 = some (ρ 2) := ay_gfj hE 42 24 11 8 6 (by decide) (by rw [ax_vl_c (by decide)]) (by rw [ax_vl_c (by decide)])
  obtain ⟨-, F65⟩ : ay_ex hp 8 ∧ pz_x65 (ρ 0) (ρ 1) (12) (ay_at hp 8 6) (ay_at hp 8 3) := (ax_XF_lt (by decide)).mp (ax_gx hE (65, [3, 7, 12]) (by decide))
  rw [c_place] at F65
  refine ⟨(fun y hy => by cases hy), _, List.mem_cons_self, ρ, fun _ _ => rfl, ax_px hE (by decide) (fun y hy => ?_)⟩
  cases List.mem_singleton.mp hy
  refine (ax_XF_wr (x := 63) (by decide)).mpr ?_
  show ay_ex (ax_upd hp 42 16 (ρ 2)) 8 ∧ pz63 (pz_gt (ρ 0)) (pz_gN (ρ 0)) (ay_ln (ay_at (ax_upd hp 42 16 (ρ 2)) 8 3)) (ay_ln (ay_at (ax_upd hp 42 16 (ρ 2)) 8 4))
  obtain ⟨o0, ho0⟩ := ay_some hT (q := 8) (g := 2) (n := 12) rfl rfl (j := 16 / 4) (by decide)
  have u1 : ∀ q, q ≠ 8 → ay_at (ax_upd hp 42 16 (ρ 2)) q = ay_at hp q := fun q hq => funext (fun j => ay_upd_ne hT.1 hq j)
  have u2 : ∀ j, ay_at (ax_upd hp 42 16 (ρ 2)) 8 j = if j = 4 then some (ρ 2) else ay_at hp 8 j := fun j => ay_upd_eq hT.1 rfl ho0 j
  refine ⟨ay_ex_upd hT.1 (ax_cellT hT (q := 8) (g := 2) rfl), ?_⟩
  rw [u2 3, if_neg (show ¬ 3 = 4 by decide), u2 4, if_pos rfl]
  have e := pq_fl2 F65.1
  have e2 : ρ 2 / 4 = pz_at (pz_gt (ρ 0)) (pz_gN (ρ 0)) (pz_p (pz_cf (pz_gt (ρ 0)) (pz_gN (ρ 0)) (ρ 1 / 4))) := F65.2.2
  have e3 : ay_ln (ay_at hp 8 3) = 3 := F65.2.1
  show pz63 _ _ (ay_ln (ay_at hp 8 3)) (ρ 2 / 4)
  rw [e3, e2]
  exact e

theorem axq_fl1_4 : ax_RO ax_wC ax_XC axu_fl1_4 := by
  intro ρ hp hE hT
  have j0 : ρ 0 % 4 = 1 := pz_gj hE 0 (by decide) rfl
  have j1 : ρ 1 % 4 = 1 := pz_gj hE 1 (by decide) rfl
  obtain ⟨-, -, -, -, F50⟩ : ay_ex hp 8 ∧ ay_ex hp 10 ∧ ay_ex hp 11 ∧ ay_ex hp 12 ∧ pz_x50 (ρ 0) (ρ 1) (ay_at hp 8 5) (ay_at hp 8 6) (ay_at hp 8 7) (ay_at hp 8 8) (ay_at hp 10 0) (ay_at hp 10 1) (ay_at hp 10 2) (ay_at hp 10 3) (ay_at hp 10 4) (ay_at hp 8 9) (ay_at hp 8 11) (ay_at hp 8 10) (ay_at hp 8 3) (ay_at hp 8 4) (ay_at hp 11) (ay_at hp 12) := (ax_XF_lt (by decide)).mp (ax_gx hE (50, [3, 7]) (by decide))
  have F64 : pz64 (pz_gt (ρ 0)) (pz_gN (ρ 0)) ((ρ 1) / 4) ((16) / 4) := (ax_XF_lt (by decide)).mp (ax_gx hE (64, [3, 7, 16]) (by decide))
  refine ⟨(fun y hy => by cases hy), _, List.mem_cons_self, ρ, fun _ _ => rfl, ax_px hE (by decide) (fun y hy => ?_)⟩
  cases List.mem_singleton.mp hy
  refine (ax_XF_wr (x := 65) (by decide)).mpr ?_
  show ay_ex (ax_upd hp 42 12 (16)) 8 ∧ pz_x65 (ρ 0) (ρ 1) (16) (ay_at (ax_upd hp 42 12 (16)) 8 6) (ay_at (ax_upd hp 42 12 (16)) 8 3)
  obtain ⟨o0, ho0⟩ := ay_some hT (q := 8) (g := 2) (n := 12) rfl rfl (j := 12 / 4) (by decide)
  have u1 : ∀ q, q ≠ 8 → ay_at (ax_upd hp 42 12 (16)) q = ay_at hp q := fun q hq => funext (fun j => ay_upd_ne hT.1 hq j)
  have u2 : ∀ j, ay_at (ax_upd hp 42 12 (16)) 8 j = if j = 3 then some (16) else ay_at hp 8 j := fun j => ay_upd_eq hT.1 rfl ho0 j
  refine ⟨ay_ex_upd hT.1 (ax_cellT hT (q := 8) (g := 2) rfl), ?_⟩
  rw [u2 6, if_neg (show ¬ 6 = 3 by decide), u2 3, if_pos rfl]
  exact ⟨F64, rfl, F50.2.1⟩

theorem axq_fl2_4 : ax_RO ax_wC ax_XC axu_fl2_4 := by
  intro ρ hp hE hT
  have j0 : ρ 0 % 4 = 1 := pz_gj hE 0 (by decide) rfl
  have j1 : ρ 1 % 4 = 1 := pz_gj hE 1 (by decide) rfl
  obtain ⟨i2a, i2b, i2c, i2d⟩ := pz_gi hE 2 2147483648 2147484448 (by decide) rfl
  have c_place : ay_at hp 8 6 = some (ρ 2) := ay_gfj hE 42 24 11 8 6 (by decide) (by rw [ax_vl_c (by decide)]) (by rw [ax_vl_c (by decide)])
  obtain ⟨-, F65⟩ : ay_ex hp 8 ∧ pz_x65 (ρ 0) (ρ 1) (16) (ay_at hp 8 6) (ay_at hp 8 3) := (ax_XF_lt (by decide)).mp (ax_gx hE (65, [3, 7, 16]) (by decide))
  rw [c_place] at F65
  refine ⟨(fun y hy => by cases hy), _, List.mem_cons_self, ρ, fun _ _ => rfl, ax_px hE (by decide) (fun y hy => ?_)⟩
  cases List.mem_singleton.mp hy
  refine (ax_XF_wr (x := 63) (by decide)).mpr ?_
  show ay_ex (ax_upd hp 42 16 (ρ 2)) 8 ∧ pz63 (pz_gt (ρ 0)) (pz_gN (ρ 0)) (ay_ln (ay_at (ax_upd hp 42 16 (ρ 2)) 8 3)) (ay_ln (ay_at (ax_upd hp 42 16 (ρ 2)) 8 4))
  obtain ⟨o0, ho0⟩ := ay_some hT (q := 8) (g := 2) (n := 12) rfl rfl (j := 16 / 4) (by decide)
  have u1 : ∀ q, q ≠ 8 → ay_at (ax_upd hp 42 16 (ρ 2)) q = ay_at hp q := fun q hq => funext (fun j => ay_upd_ne hT.1 hq j)
  have u2 : ∀ j, ay_at (ax_upd hp 42 16 (ρ 2)) 8 j = if j = 4 then some (ρ 2) else ay_at hp 8 j := fun j => ay_upd_eq hT.1 rfl ho0 j
  refine ⟨ay_ex_upd hT.1 (ax_cellT hT (q := 8) (g := 2) rfl), ?_⟩
  rw [u2 3, if_neg (show ¬ 3 = 4 by decide), u2 4, if_pos rfl]
  have e := pq_fl2 F65.1
  have e2 : ρ 2 / 4 = pz_at (pz_gt (ρ 0)) (pz_gN (ρ 0)) (pz_p (pz_cf (pz_gt (ρ 0)) (pz_gN (ρ 0)) (ρ 1 / 4))) := F65.2.2
  have e3 : ay_ln (ay_at hp 8 3) = 4 := F65.2.1
  show pz63 _ _ (ay_ln (ay_at hp 8 3)) (ρ 2 / 4)
  rw [e3, e2]
  exact e

theorem axq_ad1_32 : ax_RO ax_wC ax_XC axu_ad1_32 := by
  intro ρ hp hE hT
  have j0 : ρ 0 % 4 = 1 := pz_gj hE 0 (by decide) rfl
  have j1 : ρ 1 % 4 = 1 := pz_gj hE 1 (by decide) rfl
  obtain ⟨i2a, i2b, i2c, i2d⟩ := pz_gi hE 2 2147483648 2147484448 (by decide) rfl
  obtain ⟨i3a, i3b, i3c, i3d⟩ := pz_gi hE 3 0 4294967295 (by decide) rfl
  obtain ⟨i4a, i4b, i4c, i4d⟩ := pz_gi hE 4 2147483648 2147484448 (by decide) rfl
  obtain ⟨i5a, i5b, i5c, i5d⟩ := pz_gi hE 5 2147483680 2147483680 (by decide) rfl
  have c_ahead : ay_at hp 8 5 = some (ρ 2) := ay_gfj hE 42 20 11 8 5 (by decide) (by rw [ax_vl_c (by decide)]) (by rw [ax_vl_c (by decide)])
  have c_size : ay_at hp 8 1 = some (ρ 4) := ay_gfj hE 42 4 19 8 1 (by decide) (by rw [ax_vl_c (by decide)]) (by rw [ax_vl_c (by decide)])
  have c_tape : ay_at hp 9 (ρ 2 / 4) = some (ρ 5) := ay_gf hE 46 11 23 9 (by decide) (by rw [ax_vl_c (by decide)])
  have r1 : (ρ 2 / 4 + 2147483648) % 4294967296 < (ρ 4 / 4 + 2147483648) % 4294967296 := pz_gc hE 2 11 19 (by decide) (by decide)
  have s1 : (ρ 2 / 4 + 2147483648) % 4294967296 + (4 / 4 + 2147483648) % 4294967296 = (ρ 3 / 4 + 2147483648) % 4294967296 + 2147483648 := pz_gs hE 11 4 15 (by decide)
  obtain ⟨-, -, F30⟩ : ay_ex hp 8 ∧ ay_ex hp 9 ∧ pz_x30 (ρ 0) (ay_at hp 8 1) (ay_at hp 9) := (ax_XF_lt (by decide)).mp (ax_gx hE (30, [3]) (by decide))
  rw [c_size] at F30
  obtain ⟨-, -, -, -, F53⟩ : ay_ex hp 8 ∧ ay_ex hp 10 ∧ ay_ex hp 11 ∧ ay_ex hp 12 ∧ pz_x53 (ρ 0) (ρ 1) (ay_at hp 8 5) (ay_at hp 10 0) (ay_at hp 10 1) (ay_at hp 10 2) (ay_at hp 10 3) (ay_at hp 10 4) (ay_at hp 8 9) (ay_at hp 8 11) (ay_at hp 8 10) (ay_at hp 8 3) (ay_at hp 8 4) (ay_at hp 11) (ay_at hp 12) := (ax_XF_lt (by decide)).mp (ax_gx hE (53, [3, 7]) (by decide))
  rw [c_ahead] at F53
  refine ⟨(fun y hy => by cases hy), _, List.mem_cons_self, ρ, fun _ _ => rfl, ax_px hE (by decide) (fun y hy => ?_)⟩
  cases List.mem_singleton.mp hy
  refine (ax_XF_wr (x := 53) (by decide)).mpr ?_
  show ay_ex (ax_upd hp 42 20 (ρ 3)) 8 ∧ ay_ex (ax_upd hp 42 20 (ρ 3)) 10 ∧ ay_ex (ax_upd hp 42 20 (ρ 3)) 11 ∧ ay_ex (ax_upd hp 42 20 (ρ 3)) 12 ∧ pz_x53 (ρ 0) (ρ 1) (ay_at (ax_upd hp 42 20 (ρ 3)) 8 5) (ay_at (ax_upd hp 42 20 (ρ 3)) 10 0) (ay_at (ax_upd hp 42 20 (ρ 3)) 10 1) (ay_at (ax_upd hp 42 20 (ρ 3)) 10 2) (ay_at (ax_upd hp 42 20 (ρ 3)) 10 3) (ay_at (ax_upd hp 42 20 (ρ 3)) 10 4) (ay_at (ax_upd hp 42 20 (ρ 3)) 8 9) (ay_at (ax_upd hp 42 20 (ρ 3)) 8 11) (ay_at (ax_upd hp 42 20 (ρ 3)) 8 10) (ay_at (ax_upd hp 42 20 (ρ 3)) 8 3) (ay_at (ax_upd hp 42 20 (ρ 3)) 8 4) (ay_at (ax_upd hp 42 20 (ρ 3)) 11) (ay_at (ax_upd hp 42 20 (ρ 3)) 12)
  obtain ⟨o0, ho0⟩ := ay_some hT (q := 8) (g := 2) (n := 12) rfl rfl (j := 20 / 4) (by decide)
  have u1 : ∀ q, q ≠ 8 → ay_at (ax_upd hp 42 20 (ρ 3)) q = ay_at hp q := fun q hq => funext (fun j => ay_upd_ne hT.1 hq j)
  have u2 : ∀ j, ay_at (ax_upd hp 42 20 (ρ 3)) 8 j = if j = 5 then some (ρ 3) else ay_at hp 8 j := fun j => ay_upd_eq hT.1 rfl ho0 j
  refine ⟨ay_ex_upd hT.1 (ax_cellT hT (q := 8) (g := 2) rfl), ay_ex_upd hT.1 (ax_cellT hT (q := 10) (g := 1) rfl), ay_ex_upd hT.1 (ax_cellT hT (q := 11) (g := 14) rfl), ay_ex_upd hT.1 (ax_cellT hT (q := 12) (g := 15) rfl), ?_⟩
  rw [u2 5, if_pos rfl, u1 10 (by decide), u2 9, if_neg (show ¬ 9 = 5 by decide), u2 11, if_neg (show ¬ 11 = 5 by decide), u2 10, if_neg (show ¬ 10 = 5 by decide), u2 3, if_neg (show ¬ 3 = 5 by decide), u2 4, if_neg (show ¬ 4 = 5 by decide), u1 11 (by decide), u1 12 (by decide)]
  have hb : ρ 2 / 4 < pz_gN (ρ 0) → pz_b (pz_gt (ρ 0)) (ρ 2 / 4) = ρ 5 / 4 := fun hl => by
    have e := F30.2.2 (ρ 2 / 4) hl
    rw [c_tape] at e
    have e := Option.some.inj e
    omega
  have hN : ρ 4 / 4 = pz_gN (ρ 0) := F30.1
  refine ⟨?_, F53.2⟩
  show pz_at (pz_gt (ρ 0)) (pz_gN (ρ 0)) (ρ 3 / 4) = _
  rw [show ρ 3 / 4 = ρ 2 / 4 + 1 by omega, ← F53.1]
  exact (pz_e_on (by omega) (by rw [hb (by omega), show ρ 5 / 4 = 32 by omega]; rfl)).symm

theorem axq_ad1_10 : ax_RO ax_wC ax_XC axu_ad1_10 := by
  intro ρ hp hE hT
  have j0 : ρ 0 % 4 = 1 := pz_gj hE 0 (by decide) rfl
  have j1 : ρ 1 % 4 = 1 := pz_gj hE 1 (by decide) rfl
  obtain ⟨i2a, i2b, i2c, i2d⟩ := pz_gi hE 2 2147483648 2147484448 (by decide) rfl
  obtain ⟨i3a, i3b, i3c, i3d⟩ := pz_gi hE 3 0 4294967295 (by decide) rfl
  obtain ⟨i4a, i4b, i4c, i4d⟩ := pz_gi hE 4 2147483648 2147484448 (by decide) rfl
  obtain ⟨i5a, i5b, i5c, i5d⟩ := pz_gi hE 5 2147483658 2147483658 (by decide) rfl
  have c_ahead : ay_at hp 8 5 = some (ρ 2) := ay_gfj hE 42 20 11 8 5 (by decide) (by rw [ax_vl_c (by decide)]) (by rw [ax_vl_c (by decide)])
  have c_size : ay_at hp 8 1 = some (ρ 4) := ay_gfj hE 42 4 19 8 1 (by decide) (by rw [ax_vl_c (by decide)]) (by rw [ax_vl_c (by decide)])
  have c_tape : ay_at hp 9 (ρ 2 / 4) = some (ρ 5) := ay_gf hE 46 11 23 9 (by decide) (by rw [ax_vl_c (by decide)])
  have r1 : (ρ 2 / 4 + 2147483648) % 4294967296 < (ρ 4 / 4 + 2147483648) % 4294967296 := pz_gc hE 2 11 19 (by decide) (by decide)
  have s1 : (ρ 2 / 4 + 2147483648) % 4294967296 + (4 / 4 + 2147483648) % 4294967296 = (ρ 3 / 4 + 2147483648) % 4294967296 + 2147483648 := pz_gs hE 11 4 15 (by decide)
  obtain ⟨-, -, F30⟩ : ay_ex hp 8 ∧ ay_ex hp 9 ∧ pz_x30 (ρ 0) (ay_at hp 8 1) (ay_at hp 9) := (ax_XF_lt (by decide)).mp (ax_gx hE (30, [3]) (by decide))
  rw [c_size] at F30
  obtain ⟨-, -, -, -, F53⟩ : ay_ex hp 8 ∧ ay_ex hp 10 ∧ ay_ex hp 11 ∧ ay_ex hp 12 ∧ pz_x53 (ρ 0) (ρ 1) (ay_at hp 8 5) (ay_at hp 10 0) (ay_at hp 10 1) (ay_at hp 10 2) (ay_at hp 10 3) (ay_at hp 10 4) (ay_at hp 8 9) (ay_at hp 8 11) (ay_at hp 8 10) (ay_at hp 8 3) (ay_at hp 8 4) (ay_at hp 11) (ay_at hp 12) := (ax_XF_lt (by decide)).mp (ax_gx hE (53, [3, 7]) (by decide))
  rw [c_ahead] at F53
  refine ⟨(fun y hy => by cases hy), _, List.mem_cons_self, ρ, fun _ _ => rfl, ax_px hE (by decide) (fun y hy => ?_)⟩
  cases List.mem_singleton.mp hy
  refine (ax_XF_wr (x := 53) (by decide)).mpr ?_
  show ay_ex (ax_upd hp 42 20 (ρ 3)) 8 ∧ ay_ex (ax_upd hp 42 20 (ρ 3)) 10 ∧ ay_ex (ax_upd hp 42 20 (ρ 3)) 11 ∧ ay_ex (ax_upd hp 42 20 (ρ 3)) 12 ∧ pz_x53 (ρ 0) (ρ 1) (ay_at (ax_upd hp 42 20 (ρ 3)) 8 5) (ay_at (ax_upd hp 42 20 (ρ 3)) 10 0) (ay_at (ax_upd hp 42 20 (ρ 3)) 10 1) (ay_at (ax_upd hp 42 20 (ρ 3)) 10 2) (ay_at (ax_upd hp 42 20 (ρ 3)) 10 3) (ay_at (ax_upd hp 42 20 (ρ 3)) 10 4) (ay_at (ax_upd hp 42 20 (ρ 3)) 8 9) (ay_at (ax_upd hp 42 20 (ρ 3)) 8 11) (ay_at (ax_upd hp 42 20 (ρ 3)) 8 10) (ay_at (ax_upd hp 42 20 (ρ 3)) 8 3) (ay_at (ax_upd hp 42 20 (ρ 3)) 8 4) (ay_at (ax_upd hp 42 20 (ρ 3)) 11) (ay_at (ax_upd hp 42 20 (ρ 3)) 12)
  obtain ⟨o0, ho0⟩ := ay_some hT (q := 8) (g := 2) (n := 12) rfl rfl (j := 20 / 4) (by decide)
  have u1 : ∀ q, q ≠ 8 → ay_at (ax_upd hp 42 20 (ρ 3)) q = ay_at hp q := fun q hq => funext (fun j => ay_upd_ne hT.1 hq j)
  have u2 : ∀ j, ay_at (ax_upd hp 42 20 (ρ 3)) 8 j = if j = 5 then some (ρ 3) else ay_at hp 8 j := fun j => ay_upd_eq hT.1 rfl ho0 j
  refine ⟨ay_ex_upd hT.1 (ax_cellT hT (q := 8) (g := 2) rfl), ay_ex_upd hT.1 (ax_cellT hT (q := 10) (g := 1) rfl), ay_ex_upd hT.1 (ax_cellT hT (q := 11) (g := 14) rfl), ay_ex_upd hT.1 (ax_cellT hT (q := 12) (g := 15) rfl), ?_⟩
  rw [u2 5, if_pos rfl, u1 10 (by decide), u2 9, if_neg (show ¬ 9 = 5 by decide), u2 11, if_neg (show ¬ 11 = 5 by decide), u2 10, if_neg (show ¬ 10 = 5 by decide), u2 3, if_neg (show ¬ 3 = 5 by decide), u2 4, if_neg (show ¬ 4 = 5 by decide), u1 11 (by decide), u1 12 (by decide)]
  have hb : ρ 2 / 4 < pz_gN (ρ 0) → pz_b (pz_gt (ρ 0)) (ρ 2 / 4) = ρ 5 / 4 := fun hl => by
    have e := F30.2.2 (ρ 2 / 4) hl
    rw [c_tape] at e
    have e := Option.some.inj e
    omega
  have hN : ρ 4 / 4 = pz_gN (ρ 0) := F30.1
  refine ⟨?_, F53.2⟩
  show pz_at (pz_gt (ρ 0)) (pz_gN (ρ 0)) (ρ 3 / 4) = _
  rw [show ρ 3 / 4 = ρ 2 / 4 + 1 by omega, ← F53.1]
  exact (pz_e_on (by omega) (by rw [hb (by omega), show ρ 5 / 4 = 10 by omega]; rfl)).symm

theorem axq_ad2_e : ax_RO ax_wC ax_XC axu_ad2_e := by
  intro ρ hp hE hT
  have j0 : ρ 0 % 4 = 1 := pz_gj hE 0 (by decide) rfl
  have j1 : ρ 1 % 4 = 1 := pz_gj hE 1 (by decide) rfl
  obtain ⟨i2a, i2b, i2c, i2d⟩ := pz_gi hE 2 2147483648 2147484448 (by decide) rfl
  obtain ⟨i3a, i3b, i3c, i3d⟩ := pz_gi hE 3 2147483648 2147484448 (by decide) rfl
  have c_ahead : ay_at hp 8 5 = some (ρ 2) := ay_gfj hE 42 20 11 8 5 (by decide) (by rw [ax_vl_c (by decide)]) (by rw [ax_vl_c (by decide)])
  have c_size : ay_at hp 8 1 = some (ρ 3) := ay_gfj hE 42 4 15 8 1 (by decide) (by rw [ax_vl_c (by decide)]) (by rw [ax_vl_c (by decide)])
  have r1 : (ρ 3 / 4 + 2147483648) % 4294967296 ≤ (ρ 2 / 4 + 2147483648) % 4294967296 := pz_gc hE 3 11 15 (by decide) (by decide)
  obtain ⟨-, -, F30⟩ : ay_ex hp 8 ∧ ay_ex hp 9 ∧ pz_x30 (ρ 0) (ay_at hp 8 1) (ay_at hp 9) := (ax_XF_lt (by decide)).mp (ax_gx hE (30, [3]) (by decide))
  rw [c_size] at F30
  obtain ⟨-, -, -, -, F53⟩ : ay_ex hp 8 ∧ ay_ex hp 10 ∧ ay_ex hp 11 ∧ ay_ex hp 12 ∧ pz_x53 (ρ 0) (ρ 1) (ay_at hp 8 5) (ay_at hp 10 0) (ay_at hp 10 1) (ay_at hp 10 2) (ay_at hp 10 3) (ay_at hp 10 4) (ay_at hp 8 9) (ay_at hp 8 11) (ay_at hp 8 10) (ay_at hp 8 3) (ay_at hp 8 4) (ay_at hp 11) (ay_at hp 12) := (ax_XF_lt (by decide)).mp (ax_gx hE (53, [3, 7]) (by decide))
  rw [c_ahead] at F53
  refine ⟨(fun y hy => by cases hy), _, List.mem_cons_self, ρ, fun _ _ => rfl, ax_px hE (by decide) (fun y hy => ?_)⟩
  cases List.mem_singleton.mp hy
  refine (ax_XF_wr (x := 54) (by decide)).mpr ?_
  show ay_ex (ax_upd hp 42 24 (ρ 2)) 8 ∧ ay_ex (ax_upd hp 42 24 (ρ 2)) 10 ∧ ay_ex (ax_upd hp 42 24 (ρ 2)) 11 ∧ ay_ex (ax_upd hp 42 24 (ρ 2)) 12 ∧ pz_x54 (ρ 0) (ρ 1) (ay_at (ax_upd hp 42 24 (ρ 2)) 8 5) (ay_at (ax_upd hp 42 24 (ρ 2)) 8 6) (ay_at (ax_upd hp 42 24 (ρ 2)) 10 0) (ay_at (ax_upd hp 42 24 (ρ 2)) 10 1) (ay_at (ax_upd hp 42 24 (ρ 2)) 10 2) (ay_at (ax_upd hp 42 24 (ρ 2)) 10 3) (ay_at (ax_upd hp 42 24 (ρ 2)) 10 4) (ay_at (ax_upd hp 42 24 (ρ 2)) 8 9) (ay_at (ax_upd hp 42 24 (ρ 2)) 8 11) (ay_at (ax_upd hp 42 24 (ρ 2)) 8 10) (ay_at (ax_upd hp 42 24 (ρ 2)) 8 3) (ay_at (ax_upd hp 42 24 (ρ 2)) 8 4) (ay_at (ax_upd hp 42 24 (ρ 2)) 11) (ay_at (ax_upd hp 42 24 (ρ 2)) 12)
  obtain ⟨o0, ho0⟩ := ay_some hT (q := 8) (g := 2) (n := 12) rfl rfl (j := 24 / 4) (by decide)
  have u1 : ∀ q, q ≠ 8 → ay_at (ax_upd hp 42 24 (ρ 2)) q = ay_at hp q := fun q hq => funext (fun j => ay_upd_ne hT.1 hq j)
  have u2 : ∀ j, ay_at (ax_upd hp 42 24 (ρ 2)) 8 j = if j = 6 then some (ρ 2) else ay_at hp 8 j := fun j => ay_upd_eq hT.1 rfl ho0 j
  refine ⟨ay_ex_upd hT.1 (ax_cellT hT (q := 8) (g := 2) rfl), ay_ex_upd hT.1 (ax_cellT hT (q := 10) (g := 1) rfl), ay_ex_upd hT.1 (ax_cellT hT (q := 11) (g := 14) rfl), ay_ex_upd hT.1 (ax_cellT hT (q := 12) (g := 15) rfl), ?_⟩
  rw [u2 5, if_neg (show ¬ 5 = 6 by decide), u2 6, if_pos rfl, u1 10 (by decide), u2 9, if_neg (show ¬ 9 = 6 by decide), u2 11, if_neg (show ¬ 11 = 6 by decide), u2 10, if_neg (show ¬ 10 = 6 by decide), u2 3, if_neg (show ¬ 3 = 6 by decide), u2 4, if_neg (show ¬ 4 = 6 by decide), u1 11 (by decide), u1 12 (by decide)]
  rw [c_ahead]
  have hN : ρ 3 / 4 = pz_gN (ρ 0) := F30.1
  have e : pz_at (pz_gt (ρ 0)) (pz_gN (ρ 0)) (ρ 2 / 4) = ρ 2 / 4 := pz_e_off (Or.inl (by omega))
  have e2 : pz_at (pz_gt (ρ 0)) (pz_gN (ρ 0)) (ρ 2 / 4) = pz_at (pz_gt (ρ 0)) (pz_gN (ρ 0)) (pz_p (pz_cf (pz_gt (ρ 0)) (pz_gN (ρ 0)) (ρ 1 / 4))) := F53.1
  exact ⟨by show ρ 2 / 4 = pz_at (pz_gt (ρ 0)) (pz_gN (ρ 0)) (pz_p (pz_cf (pz_gt (ρ 0)) (pz_gN (ρ 0)) (ρ 1 / 4))); omega, rfl, F53.2⟩

theorem axq_ad2_a : ax_RO ax_wC ax_XC axu_ad2_a := by
  intro ρ hp hE hT
  have j0 : ρ 0 % 4 = 1 := pz_gj hE 0 (by decide) rfl
  have j1 : ρ 1 % 4 = 1 := pz_gj hE 1 (by decide) rfl
  obtain ⟨i2a, i2b, i2c, i2d⟩ := pz_gi hE 2 2147483648 2147484448 (by decide) rfl
  obtain ⟨i3a, i3b, i3c, i3d⟩ := pz_gi hE 3 2147483520 2147483657 (by decide) rfl
  have c_ahead : ay_at hp 8 5 = some (ρ 2) := ay_gfj hE 42 20 11 8 5 (by decide) (by rw [ax_vl_c (by decide)]) (by rw [ax_vl_c (by decide)])
  have c_tape : ay_at hp 9 (ρ 2 / 4) = some (ρ 3) := ay_gf hE 46 11 15 9 (by decide) (by rw [ax_vl_c (by decide)])
  obtain ⟨-, -, F30⟩ : ay_ex hp 8 ∧ ay_ex hp 9 ∧ pz_x30 (ρ 0) (ay_at hp 8 1) (ay_at hp 9) := (ax_XF_lt (by decide)).mp (ax_gx hE (30, [3]) (by decide))
  obtain ⟨-, -, -, -, F53⟩ : ay_ex hp 8 ∧ ay_ex hp 10 ∧ ay_ex hp 11 ∧ ay_ex hp 12 ∧ pz_x53 (ρ 0) (ρ 1) (ay_at hp 8 5) (ay_at hp 10 0) (ay_at hp 10 1) (ay_at hp 10 2) (ay_at hp 10 3) (ay_at hp 10 4) (ay_at hp 8 9) (ay_at hp 8 11) (ay_at hp 8 10) (ay_at hp 8 3) (ay_at hp 8 4) (ay_at hp 11) (ay_at hp 12) := (ax_XF_lt (by decide)).mp (ax_gx hE (53, [3, 7]) (by decide))
  rw [c_ahead] at F53
  refine ⟨(fun y hy => by cases hy), _, List.mem_cons_self, ρ, fun _ _ => rfl, ax_px hE (by decide) (fun y hy => ?_)⟩
  cases List.mem_singleton.mp hy
  refine (ax_XF_wr (x := 54) (by decide)).mpr ?_
  show ay_ex (ax_upd hp 42 24 (ρ 2)) 8 ∧ ay_ex (ax_upd hp 42 24 (ρ 2)) 10 ∧ ay_ex (ax_upd hp 42 24 (ρ 2)) 11 ∧ ay_ex (ax_upd hp 42 24 (ρ 2)) 12 ∧ pz_x54 (ρ 0) (ρ 1) (ay_at (ax_upd hp 42 24 (ρ 2)) 8 5) (ay_at (ax_upd hp 42 24 (ρ 2)) 8 6) (ay_at (ax_upd hp 42 24 (ρ 2)) 10 0) (ay_at (ax_upd hp 42 24 (ρ 2)) 10 1) (ay_at (ax_upd hp 42 24 (ρ 2)) 10 2) (ay_at (ax_upd hp 42 24 (ρ 2)) 10 3) (ay_at (ax_upd hp 42 24 (ρ 2)) 10 4) (ay_at (ax_upd hp 42 24 (ρ 2)) 8 9) (ay_at (ax_upd hp 42 24 (ρ 2)) 8 11) (ay_at (ax_upd hp 42 24 (ρ 2)) 8 10) (ay_at (ax_upd hp 42 24 (ρ 2)) 8 3) (ay_at (ax_upd hp 42 24 (ρ 2)) 8 4) (ay_at (ax_upd hp 42 24 (ρ 2)) 11) (ay_at (ax_upd hp 42 24 (ρ 2)) 12)
  obtain ⟨o0, ho0⟩ := ay_some hT (q := 8) (g := 2) (n := 12) rfl rfl (j := 24 / 4) (by decide)
  have u1 : ∀ q, q ≠ 8 → ay_at (ax_upd hp 42 24 (ρ 2)) q = ay_at hp q := fun q hq => funext (fun j => ay_upd_ne hT.1 hq j)
  have u2 : ∀ j, ay_at (ax_upd hp 42 24 (ρ 2)) 8 j = if j = 6 then some (ρ 2) else ay_at hp 8 j := fun j => ay_upd_eq hT.1 rfl ho0 j
  refine ⟨ay_ex_upd hT.1 (ax_cellT hT (q := 8) (g := 2) rfl), ay_ex_upd hT.1 (ax_cellT hT (q := 10) (g := 1) rfl), ay_ex_upd hT.1 (ax_cellT hT (q := 11) (g := 14) rfl), ay_ex_upd hT.1 (ax_cellT hT (q := 12) (g := 15) rfl), ?_⟩
  rw [u2 5, if_neg (show ¬ 5 = 6 by decide), u2 6, if_pos rfl, u1 10 (by decide), u2 9, if_neg (show ¬ 9 = 6 by decide), u2 11, if_neg (show ¬ 11 = 6 by decide), u2 10, if_neg (show ¬ 10 = 6 by decide), u2 3, if_neg (show ¬ 3 = 6 by decide), u2 4, if_neg (show ¬ 4 = 6 by decide), u1 11 (by decide), u1 12 (by decide)]
  rw [c_ahead]
  have hb : ρ 2 / 4 < pz_gN (ρ 0) → pz_b (pz_gt (ρ 0)) (ρ 2 / 4) = ρ 3 / 4 := fun hl => by
    have e := F30.2.2 (ρ 2 / 4) hl
    rw [c_tape] at e
    have e := Option.some.inj e
    omega
  have e : pz_at (pz_gt (ρ 0)) (pz_gN (ρ 0)) (ρ 2 / 4) = ρ 2 / 4 := pz_e_off (by
    by_cases hl : ρ 2 / 4 < pz_gN (ρ 0)
    · exact Or.inr (by rw [hb hl]; exact pz_bl_no (by omega) (by omega))
    · exact Or.inl (by omega))
  have e2 : pz_at (pz_gt (ρ 0)) (pz_gN (ρ 0)) (ρ 2 / 4) = pz_at (pz_gt (ρ 0)) (pz_gN (ρ 0)) (pz_p (pz_cf (pz_gt (ρ 0)) (pz_gN (ρ 0)) (ρ 1 / 4))) := F53.1
  exact ⟨by show ρ 2 / 4 = pz_at (pz_gt (ρ 0)) (pz_gN (ρ 0)) (pz_p (pz_cf (pz_gt (ρ 0)) (pz_gN (ρ 0)) (ρ 1 / 4))); omega, rfl, F53.2⟩

theorem axq_ad2_b : ax_RO ax_wC ax_XC axu_ad2_b := by
  intro ρ hp hE hT
  have j0 : ρ 0 % 4 = 1 := pz_gj hE 0 (by decide) rfl
  have j1 : ρ 1 % 4 = 1 := pz_gj hE 1 (by decide) rfl
  obtain ⟨i2a, i2b, i2c, i2d⟩ := pz_gi hE 2 2147483648 2147484448 (by decide) rfl
  obtain ⟨i3a, i3b, i3c, i3d⟩ := pz_gi hE 3 2147483659 2147483679 (by decide) rfl
  have c_ahead : ay_at hp 8 5 = some (ρ 2) := ay_gfj hE 42 20 11 8 5 (by decide) (by rw [ax_vl_c (by decide)]) (by rw [ax_vl_c (by decide)])
  have c_tape : ay_at hp 9 (ρ 2 / 4) = some (ρ 3) := ay_gf hE 46 11 15 9 (by decide) (by rw [ax_vl_c (by decide)])
  obtain ⟨-, -, F30⟩ : ay_ex hp 8 ∧ ay_ex hp 9 ∧ pz_x30 (ρ 0) (ay_at hp 8 1) (ay_at hp 9) := (ax_XF_lt (by decide)).mp (ax_gx hE (30, [3]) (by decide))
  obtain ⟨-, -, -, -, F53⟩ : ay_ex hp 8 ∧ ay_ex hp 10 ∧ ay_ex hp 11 ∧ ay_ex hp 12 ∧ pz_x53 (ρ 0) (ρ 1) (ay_at hp 8 5) (ay_at hp 10 0) (ay_at hp 10 1) (ay_at hp 10 2) (ay_at hp 10 3) (ay_at hp 10 4) (ay_at hp 8 9) (ay_at hp 8 11) (ay_at hp 8 10) (ay_at hp 8 3) (ay_at hp 8 4) (ay_at hp 11) (ay_at hp 12) := (ax_XF_lt (by decide)).mp (ax_gx hE (53, [3, 7]) (by decide))
  rw [c_ahead] at F53
  refine ⟨(fun y hy => by cases hy), _, List.mem_cons_self, ρ, fun _ _ => rfl, ax_px hE (by decide) (fun y hy => ?_)⟩
  cases List.mem_singleton.mp hy
  refine (ax_XF_wr (x := 54) (by decide)).mpr ?_
  show ay_ex (ax_upd hp 42 24 (ρ 2)) 8 ∧ ay_ex (ax_upd hp 42 24 (ρ 2)) 10 ∧ ay_ex (ax_upd hp 42 24 (ρ 2)) 11 ∧ ay_ex (ax_upd hp 42 24 (ρ 2)) 12 ∧ pz_x54 (ρ 0) (ρ 1) (ay_at (ax_upd hp 42 24 (ρ 2)) 8 5) (ay_at (ax_upd hp 42 24 (ρ 2)) 8 6) (ay_at (ax_upd hp 42 24 (ρ 2)) 10 0) (ay_at (ax_upd hp 42 24 (ρ 2)) 10 1) (ay_at (ax_upd hp 42 24 (ρ 2)) 10 2) (ay_at (ax_upd hp 42 24 (ρ 2)) 10 3) (ay_at (ax_upd hp 42 24 (ρ 2)) 10 4) (ay_at (ax_upd hp 42 24 (ρ 2)) 8 9) (ay_at (ax_upd hp 42 24 (ρ 2)) 8 11) (ay_at (ax_upd hp 42 24 (ρ 2)) 8 10) (ay_at (ax_upd hp 42 24 (ρ 2)) 8 3) (ay_at (ax_upd hp 42 24 (ρ 2)) 8 4) (ay_at (ax_upd hp 42 24 (ρ 2)) 11) (ay_at (ax_upd hp 42 24 (ρ 2)) 12)
  obtain ⟨o0, ho0⟩ := ay_some hT (q := 8) (g := 2) (n := 12) rfl rfl (j := 24 / 4) (by decide)
  have u1 : ∀ q, q ≠ 8 → ay_at (ax_upd hp 42 24 (ρ 2)) q = ay_at hp q := fun q hq => funext (fun j => ay_upd_ne hT.1 hq j)
  have u2 : ∀ j, ay_at (ax_upd hp 42 24 (ρ 2)) 8 j = if j = 6 then some (ρ 2) else ay_at hp 8 j := fun j => ay_upd_eq hT.1 rfl ho0 j
  refine ⟨ay_ex_upd hT.1 (ax_cellT hT (q := 8) (g := 2) rfl), ay_ex_upd hT.1 (ax_cellT hT (q := 10) (g := 1) rfl), ay_ex_upd hT.1 (ax_cellT hT (q := 11) (g := 14) rfl), ay_ex_upd hT.1 (ax_cellT hT (q := 12) (g := 15) rfl), ?_⟩
  rw [u2 5, if_neg (show ¬ 5 = 6 by decide), u2 6, if_pos rfl, u1 10 (by decide), u2 9, if_neg (show ¬ 9 = 6 by decide), u2 11, if_neg (show ¬ 11 = 6 by decide), u2 10, if_neg (show ¬ 10 = 6 by decide), u2 3, if_neg (show ¬ 3 = 6 by decide), u2 4, if_neg (show ¬ 4 = 6 by decide), u1 11 (by decide), u1 12 (by decide)]
  rw [c_ahead]
  have hb : ρ 2 / 4 < pz_gN (ρ 0) → pz_b (pz_gt (ρ 0)) (ρ 2 / 4) = ρ 3 / 4 := fun hl => by
    have e := F30.2.2 (ρ 2 / 4) hl
    rw [c_tape] at e
    have e := Option.some.inj e
    omega
  have e : pz_at (pz_gt (ρ 0)) (pz_gN (ρ 0)) (ρ 2 / 4) = ρ 2 / 4 := pz_e_off (by
    by_cases hl : ρ 2 / 4 < pz_gN (ρ 0)
    · exact Or.inr (by rw [hb hl]; exact pz_bl_no (by omega) (by omega))
    · exact Or.inl (by omega))
  have e2 : pz_at (pz_gt (ρ 0)) (pz_gN (ρ 0)) (ρ 2 / 4) = pz_at (pz_gt (ρ 0)) (pz_gN (ρ 0)) (pz_p (pz_cf (pz_gt (ρ 0)) (pz_gN (ρ 0)) (ρ 1 / 4))) := F53.1
  exact ⟨by show ρ 2 / 4 = pz_at (pz_gt (ρ 0)) (pz_gN (ρ 0)) (pz_p (pz_cf (pz_gt (ρ 0)) (pz_gN (ρ 0)) (ρ 1 / 4))); omega, rfl, F53.2⟩

theorem axq_ad2_c : ax_RO ax_wC ax_XC axu_ad2_c := by
  intro ρ hp hE hT
  have j0 : ρ 0 % 4 = 1 := pz_gj hE 0 (by decide) rfl
  have j1 : ρ 1 % 4 = 1 := pz_gj hE 1 (by decide) rfl
  obtain ⟨i2a, i2b, i2c, i2d⟩ := pz_gi hE 2 2147483648 2147484448 (by decide) rfl
  obtain ⟨i3a, i3b, i3c, i3d⟩ := pz_gi hE 3 2147483681 2147483775 (by decide) rfl
  have c_ahead : ay_at hp 8 5 = some (ρ 2) := ay_gfj hE 42 20 11 8 5 (by decide) (by rw [ax_vl_c (by decide)]) (by rw [ax_vl_c (by decide)])
  have c_tape : ay_at hp 9 (ρ 2 / 4) = some (ρ 3) := ay_gf hE 46 11 15 9 (by decide) (by rw [ax_vl_c (by decide)])
  obtain ⟨-, -, F30⟩ : ay_ex hp 8 ∧ ay_ex hp 9 ∧ pz_x30 (ρ 0) (ay_at hp 8 1) (ay_at hp 9) := (ax_XF_lt (by decide)).mp (ax_gx hE (30, [3]) (by decide))
  obtain ⟨-, -, -, -, F53⟩ : ay_ex hp 8 ∧ ay_ex hp 10 ∧ ay_ex hp 11 ∧ ay_ex hp 12 ∧ pz_x53 (ρ 0) (ρ 1) (ay_at hp 8 5) (ay_at hp 10 0) (ay_at hp 10 1) (ay_at hp 10 2) (ay_at hp 10 3) (ay_at hp 10 4) (ay_at hp 8 9) (ay_at hp 8 11) (ay_at hp 8 10) (ay_at hp 8 3) (ay_at hp 8 4) (ay_at hp 11) (ay_at hp 12) := (ax_XF_lt (by decide)).mp (ax_gx hE (53, [3, 7]) (by decide))
  rw [c_ahead] at F53
  refine ⟨(fun y hy => by cases hy), _, List.mem_cons_self, ρ, fun _ _ => rfl, ax_px hE (by decide) (fun y hy => ?_)⟩
  cases List.mem_singleton.mp hy
  refine (ax_XF_wr (x := 54) (by decide)).mpr ?_
  show ay_ex (ax_upd hp 42 24 (ρ 2)) 8 ∧ ay_ex (ax_upd hp 42 24 (ρ 2)) 10 ∧ ay_ex (ax_upd hp 42 24 (ρ 2)) 11 ∧ ay_ex (ax_upd hp 42 24 (ρ 2)) 12 ∧ pz_x54 (ρ 0) (ρ 1) (ay_at (ax_upd hp 42 24 (ρ 2)) 8 5) (ay_at (ax_upd hp 42 24 (ρ 2)) 8 6) (ay_at (ax_upd hp 42 24 (ρ 2)) 10 0) (ay_at (ax_upd hp 42 24 (ρ 2)) 10 1) (ay_at (ax_upd hp 42 24 (ρ 2)) 10 2) (ay_at (ax_upd hp 42 24 (ρ 2)) 10 3) (ay_at (ax_upd hp 42 24 (ρ 2)) 10 4) (ay_at (ax_upd hp 42 24 (ρ 2)) 8 9) (ay_at (ax_upd hp 42 24 (ρ 2)) 8 11) (ay_at (ax_upd hp 42 24 (ρ 2)) 8 10) (ay_at (ax_upd hp 42 24 (ρ 2)) 8 3) (ay_at (ax_upd hp 42 24 (ρ 2)) 8 4) (ay_at (ax_upd hp 42 24 (ρ 2)) 11) (ay_at (ax_upd hp 42 24 (ρ 2)) 12)
  obtain ⟨o0, ho0⟩ := ay_some hT (q := 8) (g := 2) (n := 12) rfl rfl (j := 24 / 4) (by decide)
  have u1 : ∀ q, q ≠ 8 → ay_at (ax_upd hp 42 24 (ρ 2)) q = ay_at hp q := fun q hq => funext (fun j => ay_upd_ne hT.1 hq j)
  have u2 : ∀ j, ay_at (ax_upd hp 42 24 (ρ 2)) 8 j = if j = 6 then some (ρ 2) else ay_at hp 8 j := fun j => ay_upd_eq hT.1 rfl ho0 j
  refine ⟨ay_ex_upd hT.1 (ax_cellT hT (q := 8) (g := 2) rfl), ay_ex_upd hT.1 (ax_cellT hT (q := 10) (g := 1) rfl), ay_ex_upd hT.1 (ax_cellT hT (q := 11) (g := 14) rfl), ay_ex_upd hT.1 (ax_cellT hT (q := 12) (g := 15) rfl), ?_⟩
  rw [u2 5, if_neg (show ¬ 5 = 6 by decide), u2 6, if_pos rfl, u1 10 (by decide), u2 9, if_neg (show ¬ 9 = 6 by decide), u2 11, if_neg (show ¬ 11 = 6 by decide), u2 10, if_neg (show ¬ 10 = 6 by decide), u2 3, if_neg (show ¬ 3 = 6 by decide), u2 4, if_neg (show ¬ 4 = 6 by decide), u1 11 (by decide), u1 12 (by decide)]
  rw [c_ahead]
  have hb : ρ 2 / 4 < pz_gN (ρ 0) → pz_b (pz_gt (ρ 0)) (ρ 2 / 4) = ρ 3 / 4 := fun hl => by
    have e := F30.2.2 (ρ 2 / 4) hl
    rw [c_tape] at e
    have e := Option.some.inj e
    omega
  have e : pz_at (pz_gt (ρ 0)) (pz_gN (ρ 0)) (ρ 2 / 4) = ρ 2 / 4 := pz_e_off (by
    by_cases hl : ρ 2 / 4 < pz_gN (ρ 0)
    · exact Or.inr (by rw [hb hl]; exact pz_bl_no (by omega) (by omega))
    · exact Or.inl (by omega))
  have e2 : pz_at (pz_gt (ρ 0)) (pz_gN (ρ 0)) (ρ 2 / 4) = pz_at (pz_gt (ρ 0)) (pz_gN (ρ 0)) (pz_p (pz_cf (pz_gt (ρ 0)) (pz_gN (ρ 0)) (ρ 1 / 4))) := F53.1
  exact ⟨by show ρ 2 / 4 = pz_at (pz_gt (ρ 0)) (pz_gN (ρ 0)) (pz_p (pz_cf (pz_gt (ρ 0)) (pz_gN (ρ 0)) (ρ 1 / 4))); omega, rfl, F53.2⟩

theorem axq_ad3 : ax_RO ax_wC ax_XC axu_ad3 := by
  intro ρ hp hE hT
  have j0 : ρ 0 % 4 = 1 := pz_gj hE 0 (by decide) rfl
  have j1 : ρ 1 % 4 = 1 := pz_gj hE 1 (by decide) rfl
  obtain ⟨i2a, i2b, i2c, i2d⟩ := pz_gi hE 2 2147483648 2147484448 (by decide) rfl
  obtain ⟨i3a, i3b, i3c, i3d⟩ := pz_gi hE 3 2147483648 2147484448 (by decide) rfl
  have c_ahead : ay_at hp 8 5 = some (ρ 2) := ay_gfj hE 42 20 11 8 5 (by decide) (by rw [ax_vl_c (by decide)]) (by rw [ax_vl_c (by decide)])
  have c_size : ay_at hp 8 1 = some (ρ 3) := ay_gfj hE 42 4 15 8 1 (by decide) (by rw [ax_vl_c (by decide)]) (by rw [ax_vl_c (by decide)])
  have r1 : (ρ 3 / 4 + 2147483648) % 4294967296 ≤ (ρ 2 / 4 + 2147483648) % 4294967296 := pz_gc hE 3 11 15 (by decide) (by decide)
  obtain ⟨-, -, F30⟩ : ay_ex hp 8 ∧ ay_ex hp 9 ∧ pz_x30 (ρ 0) (ay_at hp 8 1) (ay_at hp 9) := (ax_XF_lt (by decide)).mp (ax_gx hE (30, [3]) (by decide))
  rw [c_size] at F30
  obtain ⟨-, -, -, -, F54⟩ : ay_ex hp 8 ∧ ay_ex hp 10 ∧ ay_ex hp 11 ∧ ay_ex hp 12 ∧ pz_x54 (ρ 0) (ρ 1) (ay_at hp 8 5) (ay_at hp 8 6) (ay_at hp 10 0) (ay_at hp 10 1) (ay_at hp 10 2) (ay_at hp 10 3) (ay_at hp 10 4) (ay_at hp 8 9) (ay_at hp 8 11) (ay_at hp 8 10) (ay_at hp 8 3) (ay_at hp 8 4) (ay_at hp 11) (ay_at hp 12) := (ax_XF_lt (by decide)).mp (ax_gx hE (54, [3, 7]) (by decide))
  rw [c_ahead] at F54
  refine ⟨(fun y hy => by cases hy), _, List.mem_cons_self, ρ, fun _ _ => rfl, ax_px hE (by decide) (fun y hy => ?_)⟩
  cases List.mem_singleton.mp hy
  refine (ax_XF_wr (x := 50) (by decide)).mpr ?_
  show ay_ex (ax_upd hp 42 28 (0)) 8 ∧ ay_ex (ax_upd hp 42 28 (0)) 10 ∧ ay_ex (ax_upd hp 42 28 (0)) 11 ∧ ay_ex (ax_upd hp 42 28 (0)) 12 ∧ pz_x50 (ρ 0) (ρ 1) (ay_at (ax_upd hp 42 28 (0)) 8 5) (ay_at (ax_upd hp 42 28 (0)) 8 6) (ay_at (ax_upd hp 42 28 (0)) 8 7) (ay_at (ax_upd hp 42 28 (0)) 8 8) (ay_at (ax_upd hp 42 28 (0)) 10 0) (ay_at (ax_upd hp 42 28 (0)) 10 1) (ay_at (ax_upd hp 42 28 (0)) 10 2) (ay_at (ax_upd hp 42 28 (0)) 10 3) (ay_at (ax_upd hp 42 28 (0)) 10 4) (ay_at (ax_upd hp 42 28 (0)) 8 9) (ay_at (ax_upd hp 42 28 (0)) 8 11) (ay_at (ax_upd hp 42 28 (0)) 8 10) (ay_at (ax_upd hp 42 28 (0)) 8 3) (ay_at (ax_upd hp 42 28 (0)) 8 4) (ay_at (ax_upd hp 42 28 (0)) 11) (ay_at (ax_upd hp 42 28 (0)) 12)
  obtain ⟨o0, ho0⟩ := ay_some hT (q := 8) (g := 2) (n := 12) rfl rfl (j := 28 / 4) (by decide)
  have u1 : ∀ q, q ≠ 8 → ay_at (ax_upd hp 42 28 (0)) q = ay_at hp q := fun q hq => funext (fun j => ay_upd_ne hT.1 hq j)
  have u2 : ∀ j, ay_at (ax_upd hp 42 28 (0)) 8 j = if j = 7 then some (0) else ay_at hp 8 j := fun j => ay_upd_eq hT.1 rfl ho0 j
  refine ⟨ay_ex_upd hT.1 (ax_cellT hT (q := 8) (g := 2) rfl), ay_ex_upd hT.1 (ax_cellT hT (q := 10) (g := 1) rfl), ay_ex_upd hT.1 (ax_cellT hT (q := 11) (g := 14) rfl), ay_ex_upd hT.1 (ax_cellT hT (q := 12) (g := 15) rfl), ?_⟩
  rw [u2 5, if_neg (show ¬ 5 = 7 by decide), u2 6, if_neg (show ¬ 6 = 7 by decide), u2 7, if_pos rfl, u2 8, if_neg (show ¬ 8 = 7 by decide), u1 10 (by decide), u2 9, if_neg (show ¬ 9 = 7 by decide), u2 11, if_neg (show ¬ 11 = 7 by decide), u2 10, if_neg (show ¬ 10 = 7 by decide), u2 3, if_neg (show ¬ 3 = 7 by decide), u2 4, if_neg (show ¬ 4 = 7 by decide), u1 11 (by decide), u1 12 (by decide)]
  rw [c_ahead]
  have hN : ρ 3 / 4 = pz_gN (ρ 0) := F30.1
  have e1 : ay_ln (ay_at hp 8 6) = pz_at (pz_gt (ρ 0)) (pz_gN (ρ 0)) (pz_p (pz_cf (pz_gt (ρ 0)) (pz_gN (ρ 0)) (ρ 1 / 4))) := F54.1
  have e2 : ρ 2 / 4 = ay_ln (ay_at hp 8 6) := F54.2.1
  obtain ⟨k1, k2⟩ := pz_kd_end (t := pz_gt (ρ 0)) (N := pz_gN (ρ 0)) (p := pz_p (pz_cf (pz_gt (ρ 0)) (pz_gN (ρ 0)) (ρ 1 / 4))) (by omega)
  exact ⟨by show ρ 2 / 4 = _; omega, e1, by show 0 = _; omega, fun z => (by cases z), F54.2.2⟩

theorem axq_ad4 : ax_RO ax_wC ax_XC axu_ad4 := by
  intro ρ hp hE hT
  have j0 : ρ 0 % 4 = 1 := pz_gj hE 0 (by decide) rfl
  have j1 : ρ 1 % 4 = 1 := pz_gj hE 1 (by decide) rfl
  obtain ⟨i2a, i2b, i2c, i2d⟩ := pz_gi hE 2 2147483648 2147484448 (by decide) rfl
  obtain ⟨i3a, i3b, i3c, i3d⟩ := pz_gi hE 3 0 4294967295 (by decide) rfl
  obtain ⟨i4a, i4b, i4c, i4d⟩ := pz_gi hE 4 2147483648 2147484448 (by decide) rfl
  have c_ahead : ay_at hp 8 5 = some (ρ 2) := ay_gfj hE 42 20 11 8 5 (by decide) (by rw [ax_vl_c (by decide)]) (by rw [ax_vl_c (by decide)])
  have c_size : ay_at hp 8 1 = some (ρ 4) := ay_gfj hE 42 4 19 8 1 (by decide) (by rw [ax_vl_c (by decide)]) (by rw [ax_vl_c (by decide)])
  have r1 : (ρ 2 / 4 + 2147483648) % 4294967296 < (ρ 4 / 4 + 2147483648) % 4294967296 := pz_gc hE 2 11 19 (by decide) (by decide)
  have s1 : (ρ 2 / 4 + 2147483648) % 4294967296 + (4 / 4 + 2147483648) % 4294967296 = (ρ 3 / 4 + 2147483648) % 4294967296 + 2147483648 := pz_gs hE 11 4 15 (by decide)
  obtain ⟨-, -, F30⟩ : ay_ex hp 8 ∧ ay_ex hp 9 ∧ pz_x30 (ρ 0) (ay_at hp 8 1) (ay_at hp 9) := (ax_XF_lt (by decide)).mp (ax_gx hE (30, [3]) (by decide))
  rw [c_size] at F30
  obtain ⟨-, -, -, -, F54⟩ : ay_ex hp 8 ∧ ay_ex hp 10 ∧ ay_ex hp 11 ∧ ay_ex hp 12 ∧ pz_x54 (ρ 0) (ρ 1) (ay_at hp 8 5) (ay_at hp 8 6) (ay_at hp 10 0) (ay_at hp 10 1) (ay_at hp 10 2) (ay_at hp 10 3) (ay_at hp 10 4) (ay_at hp 8 9) (ay_at hp 8 11) (ay_at hp 8 10) (ay_at hp 8 3) (ay_at hp 8 4) (ay_at hp 11) (ay_at hp 12) := (ax_XF_lt (by decide)).mp (ax_gx hE (54, [3, 7]) (by decide))
  rw [c_ahead] at F54
  refine ⟨(fun y hy => by cases hy), _, List.mem_cons_self, ρ, fun _ _ => rfl, ax_px hE (by decide) (fun y hy => ?_)⟩
  cases List.mem_singleton.mp hy
  refine (ax_XF_wr (x := 55) (by decide)).mpr ?_
  show ay_ex (ax_upd hp 42 20 (ρ 3)) 8 ∧ ay_ex (ax_upd hp 42 20 (ρ 3)) 10 ∧ ay_ex (ax_upd hp 42 20 (ρ 3)) 11 ∧ ay_ex (ax_upd hp 42 20 (ρ 3)) 12 ∧ pz_x55 (ρ 0) (ρ 1) (ay_at (ax_upd hp 42 20 (ρ 3)) 8 5) (ay_at (ax_upd hp 42 20 (ρ 3)) 8 6) (ay_at (ax_upd hp 42 20 (ρ 3)) 10 0) (ay_at (ax_upd hp 42 20 (ρ 3)) 10 1) (ay_at (ax_upd hp 42 20 (ρ 3)) 10 2) (ay_at (ax_upd hp 42 20 (ρ 3)) 10 3) (ay_at (ax_upd hp 42 20 (ρ 3)) 10 4) (ay_at (ax_upd hp 42 20 (ρ 3)) 8 9) (ay_at (ax_upd hp 42 20 (ρ 3)) 8 11) (ay_at (ax_upd hp 42 20 (ρ 3)) 8 10) (ay_at (ax_upd hp 42 20 (ρ 3)) 8 3) (ay_at (ax_upd hp 42 20 (ρ 3)) 8 4) (ay_at (ax_upd hp 42 20 (ρ 3)) 11) (ay_at (ax_upd hp 42 20 (ρ 3)) 12)
  obtain ⟨o0, ho0⟩ := ay_some hT (q := 8) (g := 2) (n := 12) rfl rfl (j := 20 / 4) (by decide)
  have u1 : ∀ q, q ≠ 8 → ay_at (ax_upd hp 42 20 (ρ 3)) q = ay_at hp q := fun q hq => funext (fun j => ay_upd_ne hT.1 hq j)
  have u2 : ∀ j, ay_at (ax_upd hp 42 20 (ρ 3)) 8 j = if j = 5 then some (ρ 3) else ay_at hp 8 j := fun j => ay_upd_eq hT.1 rfl ho0 j
  refine ⟨ay_ex_upd hT.1 (ax_cellT hT (q := 8) (g := 2) rfl), ay_ex_upd hT.1 (ax_cellT hT (q := 10) (g := 1) rfl), ay_ex_upd hT.1 (ax_cellT hT (q := 11) (g := 14) rfl), ay_ex_upd hT.1 (ax_cellT hT (q := 12) (g := 15) rfl), ?_⟩
  rw [u2 5, if_pos rfl, u2 6, if_neg (show ¬ 6 = 5 by decide), u1 10 (by decide), u2 9, if_neg (show ¬ 9 = 5 by decide), u2 11, if_neg (show ¬ 11 = 5 by decide), u2 10, if_neg (show ¬ 10 = 5 by decide), u2 3, if_neg (show ¬ 3 = 5 by decide), u2 4, if_neg (show ¬ 4 = 5 by decide), u1 11 (by decide), u1 12 (by decide)]
  have hN : ρ 4 / 4 = pz_gN (ρ 0) := F30.1
  have e2 : ρ 2 / 4 = ay_ln (ay_at hp 8 6) := F54.2.1
  exact ⟨F54.1, by show ρ 3 / 4 = _; omega, by omega, F54.2.2⟩

theorem axq_ad5 : ax_RO ax_wC ax_XC axu_ad5 := by
  intro ρ hp hE hT
  have j0 : ρ 0 % 4 = 1 := pz_gj hE 0 (by decide) rfl
  have j1 : ρ 1 % 4 = 1 := pz_gj hE 1 (by decide) rfl
  obtain ⟨i2a, i2b, i2c, i2d⟩ := pz_gi hE 2 2147483648 2147484448 (by decide) rfl
  obtain ⟨i3a, i3b, i3c, i3d⟩ := pz_gi hE 3 2147483745 2147483770 (by decide) rfl
  have c_place : ay_at hp 8 6 = some (ρ 2) := ay_gfj hE 42 24 11 8 6 (by decide) (by rw [ax_vl_c (by decide)]) (by rw [ax_vl_c (by decide)])
  have c_tape : ay_at hp 9 (ρ 2 / 4) = some (ρ 3) := ay_gf hE 46 11 15 9 (by decide) (by rw [ax_vl_c (by decide)])
  obtain ⟨-, -, F30⟩ : ay_ex hp 8 ∧ ay_ex hp 9 ∧ pz_x30 (ρ 0) (ay_at hp 8 1) (ay_at hp 9) := (ax_XF_lt (by decide)).mp (ax_gx hE (30, [3]) (by decide))
  obtain ⟨-, -, -, -, F55⟩ : ay_ex hp 8 ∧ ay_ex hp 10 ∧ ay_ex hp 11 ∧ ay_ex hp 12 ∧ pz_x55 (ρ 0) (ρ 1) (ay_at hp 8 5) (ay_at hp 8 6) (ay_at hp 10 0) (ay_at hp 10 1) (ay_at hp 10 2) (ay_at hp 10 3) (ay_at hp 10 4) (ay_at hp 8 9) (ay_at hp 8 11) (ay_at hp 8 10) (ay_at hp 8 3) (ay_at hp 8 4) (ay_at hp 11) (ay_at hp 12) := (ax_XF_lt (by decide)).mp (ax_gx hE (55, [3, 7]) (by decide))
  rw [c_place] at F55
  refine ⟨(fun y hy => by cases hy), _, List.mem_cons_self, ρ, fun _ _ => rfl, ax_px hE (by decide) (fun y hy => ?_)⟩
  cases List.mem_singleton.mp hy
  refine (ax_XF_wr (x := 56) (by decide)).mpr ?_
  show ay_ex (ax_upd hp 42 28 (4)) 8 ∧ ay_ex (ax_upd hp 42 28 (4)) 10 ∧ ay_ex (ax_upd hp 42 28 (4)) 11 ∧ ay_ex (ax_upd hp 42 28 (4)) 12 ∧ pz_x56 (ρ 0) (ρ 1) (ay_at (ax_upd hp 42 28 (4)) 8 5) (ay_at (ax_upd hp 42 28 (4)) 8 6) (ay_at (ax_upd hp 42 28 (4)) 8 7) (ay_at (ax_upd hp 42 28 (4)) 10 0) (ay_at (ax_upd hp 42 28 (4)) 10 1) (ay_at (ax_upd hp 42 28 (4)) 10 2) (ay_at (ax_upd hp 42 28 (4)) 10 3) (ay_at (ax_upd hp 42 28 (4)) 10 4) (ay_at (ax_upd hp 42 28 (4)) 8 9) (ay_at (ax_upd hp 42 28 (4)) 8 11) (ay_at (ax_upd hp 42 28 (4)) 8 10) (ay_at (ax_upd hp 42 28 (4)) 8 3) (ay_at (ax_upd hp 42 28 (4)) 8 4) (ay_at (ax_upd hp 42 28 (4)) 11) (ay_at (ax_upd hp 42 28 (4)) 12)
  obtain ⟨o0, ho0⟩ := ay_some hT (q := 8) (g := 2) (n := 12) rfl rfl (j := 28 / 4) (by decide)
  have u1 : ∀ q, q ≠ 8 → ay_at (ax_upd hp 42 28 (4)) q = ay_at hp q := fun q hq => funext (fun j => ay_upd_ne hT.1 hq j)
  have u2 : ∀ j, ay_at (ax_upd hp 42 28 (4)) 8 j = if j = 7 then some (4) else ay_at hp 8 j := fun j => ay_upd_eq hT.1 rfl ho0 j
  refine ⟨ay_ex_upd hT.1 (ax_cellT hT (q := 8) (g := 2) rfl), ay_ex_upd hT.1 (ax_cellT hT (q := 10) (g := 1) rfl), ay_ex_upd hT.1 (ax_cellT hT (q := 11) (g := 14) rfl), ay_ex_upd hT.1 (ax_cellT hT (q := 12) (g := 15) rfl), ?_⟩
  rw [u2 5, if_neg (show ¬ 5 = 7 by decide), u2 6, if_neg (show ¬ 6 = 7 by decide), u2 7, if_pos rfl, u1 10 (by decide), u2 9, if_neg (show ¬ 9 = 7 by decide), u2 11, if_neg (show ¬ 11 = 7 by decide), u2 10, if_neg (show ¬ 10 = 7 by decide), u2 3, if_neg (show ¬ 3 = 7 by decide), u2 4, if_neg (show ¬ 4 = 7 by decide), u1 11 (by decide), u1 12 (by decide)]
  rw [c_place]
  have hb : ρ 2 / 4 < pz_gN (ρ 0) → pz_b (pz_gt (ρ 0)) (ρ 2 / 4) = ρ 3 / 4 := fun hl => by
    have e := F30.2.2 (ρ 2 / 4) hl
    rw [c_tape] at e
    have e := Option.some.inj e
    omega
  have e1 : ρ 2 / 4 = pz_at (pz_gt (ρ 0)) (pz_gN (ρ 0)) (pz_p (pz_cf (pz_gt (ρ 0)) (pz_gN (ρ 0)) (ρ 1 / 4))) := F55.1
  have e2 : ay_ln (ay_at hp 8 5) = ρ 2 / 4 + 1 := F55.2.1
  have e3 : ρ 2 / 4 < pz_gN (ρ 0) := F55.2.2.1
  have hb1 := hb e3
  rw [e1] at hb1 e2 e3
  obtain ⟨k1, k2⟩ := pz_kd_wd e3 (by rw [hb1]; exact pz_lt_yes (by omega) (by omega))
  exact ⟨e1, rfl, k1, by rw [e2, k2], F55.2.2.2⟩

theorem axq_ad8 : ax_RO ax_wC ax_XC axu_ad8 := by
  intro ρ hp hE hT
  have j0 : ρ 0 % 4 = 1 := pz_gj hE 0 (by decide) rfl
  have j1 : ρ 1 % 4 = 1 := pz_gj hE 1 (by decide) rfl
  obtain ⟨i2a, i2b, i2c, i2d⟩ := pz_gi hE 2 2147483648 2147484448 (by decide) rfl
  obtain ⟨i3a, i3b, i3c, i3d⟩ := pz_gi hE 3 2147483696 2147483705 (by decide) rfl
  have c_place : ay_at hp 8 6 = some (ρ 2) := ay_gfj hE 42 24 11 8 6 (by decide) (by rw [ax_vl_c (by decide)]) (by rw [ax_vl_c (by decide)])
  have c_tape : ay_at hp 9 (ρ 2 / 4) = some (ρ 3) := ay_gf hE 46 11 15 9 (by decide) (by rw [ax_vl_c (by decide)])
  obtain ⟨-, -, F30⟩ : ay_ex hp 8 ∧ ay_ex hp 9 ∧ pz_x30 (ρ 0) (ay_at hp 8 1) (ay_at hp 9) := (ax_XF_lt (by decide)).mp (ax_gx hE (30, [3]) (by decide))
  obtain ⟨-, -, -, -, F55⟩ : ay_ex hp 8 ∧ ay_ex hp 10 ∧ ay_ex hp 11 ∧ ay_ex hp 12 ∧ pz_x55 (ρ 0) (ρ 1) (ay_at hp 8 5) (ay_at hp 8 6) (ay_at hp 10 0) (ay_at hp 10 1) (ay_at hp 10 2) (ay_at hp 10 3) (ay_at hp 10 4) (ay_at hp 8 9) (ay_at hp 8 11) (ay_at hp 8 10) (ay_at hp 8 3) (ay_at hp 8 4) (ay_at hp 11) (ay_at hp 12) := (ax_XF_lt (by decide)).mp (ax_gx hE (55, [3, 7]) (by decide))
  rw [c_place] at F55
  refine ⟨(fun y hy => by cases hy), _, List.mem_cons_self, ρ, fun _ _ => rfl, ax_px hE (by decide) (fun y hy => ?_)⟩
  cases List.mem_singleton.mp hy
  refine (ax_XF_wr (x := 57) (by decide)).mpr ?_
  show ay_ex (ax_upd hp 42 28 (8)) 8 ∧ ay_ex (ax_upd hp 42 28 (8)) 10 ∧ ay_ex (ax_upd hp 42 28 (8)) 11 ∧ ay_ex (ax_upd hp 42 28 (8)) 12 ∧ pz_x57 (ρ 0) (ρ 1) (ay_at (ax_upd hp 42 28 (8)) 8 5) (ay_at (ax_upd hp 42 28 (8)) 8 6) (ay_at (ax_upd hp 42 28 (8)) 8 7) (ay_at (ax_upd hp 42 28 (8)) 10 0) (ay_at (ax_upd hp 42 28 (8)) 10 1) (ay_at (ax_upd hp 42 28 (8)) 10 2) (ay_at (ax_upd hp 42 28 (8)) 10 3) (ay_at (ax_upd hp 42 28 (8)) 10 4) (ay_at (ax_upd hp 42 28 (8)) 8 9) (ay_at (ax_upd hp 42 28 (8)) 8 11) (ay_at (ax_upd hp 42 28 (8)) 8 10) (ay_at (ax_upd hp 42 28 (8)) 8 3) (ay_at (ax_upd hp 42 28 (8)) 8 4) (ay_at (ax_upd hp 42 28 (8)) 11) (ay_at (ax_upd hp 42 28 (8)) 12)
  obtain ⟨o0, ho0⟩ := ay_some hT (q := 8) (g := 2) (n := 12) rfl rfl (j := 28 / 4) (by decide)
  have u1 : ∀ q, q ≠ 8 → ay_at (ax_upd hp 42 28 (8)) q = ay_at hp q := fun q hq => funext (fun j => ay_upd_ne hT.1 hq j)
  have u2 : ∀ j, ay_at (ax_upd hp 42 28 (8)) 8 j = if j = 7 then some (8) else ay_at hp 8 j := fun j => ay_upd_eq hT.1 rfl ho0 j
  refine ⟨ay_ex_upd hT.1 (ax_cellT hT (q := 8) (g := 2) rfl), ay_ex_upd hT.1 (ax_cellT hT (q := 10) (g := 1) rfl), ay_ex_upd hT.1 (ax_cellT hT (q := 11) (g := 14) rfl), ay_ex_upd hT.1 (ax_cellT hT (q := 12) (g := 15) rfl), ?_⟩
  rw [u2 5, if_neg (show ¬ 5 = 7 by decide), u2 6, if_neg (show ¬ 6 = 7 by decide), u2 7, if_pos rfl, u1 10 (by decide), u2 9, if_neg (show ¬ 9 = 7 by decide), u2 11, if_neg (show ¬ 11 = 7 by decide), u2 10, if_neg (show ¬ 10 = 7 by decide), u2 3, if_neg (show ¬ 3 = 7 by decide), u2 4, if_neg (show ¬ 4 = 7 by decide), u1 11 (by decide), u1 12 (by decide)]
  rw [c_place]
  have hb : ρ 2 / 4 < pz_gN (ρ 0) → pz_b (pz_gt (ρ 0)) (ρ 2 / 4) = ρ 3 / 4 := fun hl => by
    have e := F30.2.2 (ρ 2 / 4) hl
    rw [c_tape] at e
    have e := Option.some.inj e
    omega
  have e1 : ρ 2 / 4 = pz_at (pz_gt (ρ 0)) (pz_gN (ρ 0)) (pz_p (pz_cf (pz_gt (ρ 0)) (pz_gN (ρ 0)) (ρ 1 / 4))) := F55.1
  have e2 : ay_ln (ay_at hp 8 5) = ρ 2 / 4 + 1 := F55.2.1
  have e3 : ρ 2 / 4 < pz_gN (ρ 0) := F55.2.2.1
  have hb1 := hb e3
  rw [e1] at hb1 e2 e3
  obtain ⟨k1, k2⟩ := pz_kd_nm e3 (by rw [hb1]; exact pz_dg_yes (by omega) (by omega))
  exact ⟨e1, by rw [e2, ← e1]; rfl, by rw [← e1] at e3; exact e3, rfl, k1, F55.2.2.2⟩

theorem axq_ad6 : ax_RO ax_wC ax_XC axu_ad6 := by
  intro ρ hp hE hT
  have j0 : ρ 0 % 4 = 1 := pz_gj hE 0 (by decide) rfl
  have j1 : ρ 1 % 4 = 1 := pz_gj hE 1 (by decide) rfl
  obtain ⟨i2a, i2b, i2c, i2d⟩ := pz_gi hE 2 2147483648 2147484448 (by decide) rfl
  obtain ⟨i3a, i3b, i3c, i3d⟩ := pz_gi hE 3 0 4294967295 (by decide) rfl
  obtain ⟨i4a, i4b, i4c, i4d⟩ := pz_gi hE 4 2147483648 2147484448 (by decide) rfl
  obtain ⟨i5a, i5b, i5c, i5d⟩ := pz_gi hE 5 2147483745 2147483770 (by decide) rfl
  have c_ahead : ay_at hp 8 5 = some (ρ 2) := ay_gfj hE 42 20 11 8 5 (by decide) (by rw [ax_vl_c (by decide)]) (by rw [ax_vl_c (by decide)])
  have c_size : ay_at hp 8 1 = some (ρ 4) := ay_gfj hE 42 4 19 8 1 (by decide) (by rw [ax_vl_c (by decide)]) (by rw [ax_vl_c (by decide)])
  have c_tape : ay_at hp 9 (ρ 2 / 4) = some (ρ 5) := ay_gf hE 46 11 23 9 (by decide) (by rw [ax_vl_c (by decide)])
  have r1 : (ρ 2 / 4 + 2147483648) % 4294967296 < (ρ 4 / 4 + 2147483648) % 4294967296 := pz_gc hE 2 11 19 (by decide) (by decide)
  have s1 : (ρ 2 / 4 + 2147483648) % 4294967296 + (4 / 4 + 2147483648) % 4294967296 = (ρ 3 / 4 + 2147483648) % 4294967296 + 2147483648 := pz_gs hE 11 4 15 (by decide)
  obtain ⟨-, -, F30⟩ : ay_ex hp 8 ∧ ay_ex hp 9 ∧ pz_x30 (ρ 0) (ay_at hp 8 1) (ay_at hp 9) := (ax_XF_lt (by decide)).mp (ax_gx hE (30, [3]) (by decide))
  rw [c_size] at F30
  obtain ⟨-, -, -, -, F56⟩ : ay_ex hp 8 ∧ ay_ex hp 10 ∧ ay_ex hp 11 ∧ ay_ex hp 12 ∧ pz_x56 (ρ 0) (ρ 1) (ay_at hp 8 5) (ay_at hp 8 6) (ay_at hp 8 7) (ay_at hp 10 0) (ay_at hp 10 1) (ay_at hp 10 2) (ay_at hp 10 3) (ay_at hp 10 4) (ay_at hp 8 9) (ay_at hp 8 11) (ay_at hp 8 10) (ay_at hp 8 3) (ay_at hp 8 4) (ay_at hp 11) (ay_at hp 12) := (ax_XF_lt (by decide)).mp (ax_gx hE (56, [3, 7]) (by decide))
  rw [c_ahead] at F56
  refine ⟨(fun y hy => by cases hy), _, List.mem_cons_self, ρ, fun _ _ => rfl, ax_px hE (by decide) (fun y hy => ?_)⟩
  cases List.mem_singleton.mp hy
  refine (ax_XF_wr (x := 56) (by decide)).mpr ?_
  show ay_ex (ax_upd hp 42 20 (ρ 3)) 8 ∧ ay_ex (ax_upd hp 42 20 (ρ 3)) 10 ∧ ay_ex (ax_upd hp 42 20 (ρ 3)) 11 ∧ ay_ex (ax_upd hp 42 20 (ρ 3)) 12 ∧ pz_x56 (ρ 0) (ρ 1) (ay_at (ax_upd hp 42 20 (ρ 3)) 8 5) (ay_at (ax_upd hp 42 20 (ρ 3)) 8 6) (ay_at (ax_upd hp 42 20 (ρ 3)) 8 7) (ay_at (ax_upd hp 42 20 (ρ 3)) 10 0) (ay_at (ax_upd hp 42 20 (ρ 3)) 10 1) (ay_at (ax_upd hp 42 20 (ρ 3)) 10 2) (ay_at (ax_upd hp 42 20 (ρ 3)) 10 3) (ay_at (ax_upd hp 42 20 (ρ 3)) 10 4) (ay_at (ax_upd hp 42 20 (ρ 3)) 8 9) (ay_at (ax_upd hp 42 20 (ρ 3)) 8 11) (ay_at (ax_upd hp 42 20 (ρ 3)) 8 10) (ay_at (ax_upd hp 42 20 (ρ 3)) 8 3) (ay_at (ax_upd hp 42 20 (ρ 3)) 8 4) (ay_at (ax_upd hp 42 20 (ρ 3)) 11) (ay_at (ax_upd hp 42 20 (ρ 3)) 12)
  obtain ⟨o0, ho0⟩ := ay_some hT (q := 8) (g := 2) (n := 12) rfl rfl (j := 20 / 4) (by decide)
  have u1 : ∀ q, q ≠ 8 → ay_at (ax_upd hp 42 20 (ρ 3)) q = ay_at hp q := fun q hq => funext (fun j => ay_upd_ne hT.1 hq j)
  have u2 : ∀ j, ay_at (ax_upd hp 42 20 (ρ 3)) 8 j = if j = 5 then some (ρ 3) else ay_at hp 8 j := fun j => ay_upd_eq hT.1 rfl ho0 j
  refine ⟨ay_ex_upd hT.1 (ax_cellT hT (q := 8) (g := 2) rfl), ay_ex_upd hT.1 (ax_cellT hT (q := 10) (g := 1) rfl), ay_ex_upd hT.1 (ax_cellT hT (q := 11) (g := 14) rfl), ay_ex_upd hT.1 (ax_cellT hT (q := 12) (g := 15) rfl), ?_⟩
  rw [u2 5, if_pos rfl, u2 6, if_neg (show ¬ 6 = 5 by decide), u2 7, if_neg (show ¬ 7 = 5 by decide), u1 10 (by decide), u2 9, if_neg (show ¬ 9 = 5 by decide), u2 11, if_neg (show ¬ 11 = 5 by decide), u2 10, if_neg (show ¬ 10 = 5 by decide), u2 3, if_neg (show ¬ 3 = 5 by decide), u2 4, if_neg (show ¬ 4 = 5 by decide), u1 11 (by decide), u1 12 (by decide)]
  have hb : ρ 2 / 4 < pz_gN (ρ 0) → pz_b (pz_gt (ρ 0)) (ρ 2 / 4) = ρ 5 / 4 := fun hl => by
    have e := F30.2.2 (ρ 2 / 4) hl
    rw [c_tape] at e
    have e := Option.some.inj e
    omega
  have hN : ρ 4 / 4 = pz_gN (ρ 0) := F30.1
  refine ⟨F56.1, F56.2.1, F56.2.2.1, ?_, F56.2.2.2.2⟩
  have e : pz_e pz_lt (pz_gt (ρ 0)) (pz_gN (ρ 0)) (ρ 2 / 4) = pz_nx (pz_gt (ρ 0)) (pz_gN (ρ 0)) (pz_p (pz_cf (pz_gt (ρ 0)) (pz_gN (ρ 0)) (ρ 1 / 4))) := F56.2.2.2.1
  show pz_e pz_lt (pz_gt (ρ 0)) (pz_gN (ρ 0)) (ρ 3 / 4) = _
  rw [show ρ 3 / 4 = ρ 2 / 4 + 1 by omega, ← e]
  exact (pz_e_on (by omega) (by rw [hb (by omega)]; exact pz_lt_yes (by omega) (by omega))).symm

theorem axq_ad7_e : ax_RO ax_wC ax_XC axu_ad7_e := by
  intro ρ hp hE hT
  have j0 : ρ 0 % 4 = 1 := pz_gj hE 0 (by decide) rfl
  have j1 : ρ 1 % 4 = 1 := pz_gj hE 1 (by decide) rfl
  obtain ⟨i2a, i2b, i2c, i2d⟩ := pz_gi hE 2 2147483648 2147484448 (by decide) rfl
  obtain ⟨i3a, i3b, i3c, i3d⟩ := pz_gi hE 3 2147483648 2147484448 (by decide) rfl
  have c_ahead : ay_at hp 8 5 = some (ρ 2) := ay_gfj hE 42 20 11 8 5 (by decide) (by rw [ax_vl_c (by decide)]) (by rw [ax_vl_c (by decide)])
  have c_size : ay_at hp 8 1 = some (ρ 3) := ay_gfj hE 42 4 15 8 1 (by decide) (by rw [ax_vl_c (by decide)]) (by rw [ax_vl_c (by decide)])
  have r1 : (ρ 3 / 4 + 2147483648) % 4294967296 ≤ (ρ 2 / 4 + 2147483648) % 4294967296 := pz_gc hE 3 11 15 (by decide) (by decide)
  obtain ⟨-, -, F30⟩ : ay_ex hp 8 ∧ ay_ex hp 9 ∧ pz_x30 (ρ 0) (ay_at hp 8 1) (ay_at hp 9) := (ax_XF_lt (by decide)).mp (ax_gx hE (30, [3]) (by decide))
  rw [c_size] at F30
  obtain ⟨-, -, -, -, F56⟩ : ay_ex hp 8 ∧ ay_ex hp 10 ∧ ay_ex hp 11 ∧ ay_ex hp 12 ∧ pz_x56 (ρ 0) (ρ 1) (ay_at hp 8 5) (ay_at hp 8 6) (ay_at hp 8 7) (ay_at hp 10 0) (ay_at hp 10 1) (ay_at hp 10 2) (ay_at hp 10 3) (ay_at hp 10 4) (ay_at hp 8 9) (ay_at hp 8 11) (ay_at hp 8 10) (ay_at hp 8 3) (ay_at hp 8 4) (ay_at hp 11) (ay_at hp 12) := (ax_XF_lt (by decide)).mp (ax_gx hE (56, [3, 7]) (by decide))
  rw [c_ahead] at F56
  refine ⟨(fun y hy => by cases hy), _, List.mem_cons_self, ρ, fun _ _ => rfl, ax_px hE (by decide) (fun y hy => ?_)⟩
  cases List.mem_singleton.mp hy
  refine (ax_XF_lt (x := 50) (by decide)).mpr ?_
  show ay_ex hp 8 ∧ ay_ex hp 10 ∧ ay_ex hp 11 ∧ ay_ex hp 12 ∧ pz_x50 (ρ 0) (ρ 1) (ay_at hp 8 5) (ay_at hp 8 6) (ay_at hp 8 7) (ay_at hp 8 8) (ay_at hp 10 0) (ay_at hp 10 1) (ay_at hp 10 2) (ay_at hp 10 3) (ay_at hp 10 4) (ay_at hp 8 9) (ay_at hp 8 11) (ay_at hp 8 10) (ay_at hp 8 3) (ay_at hp 8 4) (ay_at hp 11) (ay_at hp 12)
  refine ⟨(ax_cellT hT (q := 8) (g := 2) rfl), (ax_cellT hT (q := 10) (g := 1) rfl), (ax_cellT hT (q := 11) (g := 14) rfl), (ax_cellT hT (q := 12) (g := 15) rfl), ?_⟩
  rw [c_ahead]
  have hN : ρ 3 / 4 = pz_gN (ρ 0) := F30.1
  have e : pz_e pz_lt (pz_gt (ρ 0)) (pz_gN (ρ 0)) (ρ 2 / 4) = pz_nx (pz_gt (ρ 0)) (pz_gN (ρ 0)) (pz_p (pz_cf (pz_gt (ρ 0)) (pz_gN (ρ 0)) (ρ 1 / 4))) := F56.2.2.2.1
  have e2 : pz_e pz_lt (pz_gt (ρ 0)) (pz_gN (ρ 0)) (ρ 2 / 4) = ρ 2 / 4 := pz_e_off (Or.inl (by omega))
  exact ⟨e2.symm.trans e, F56.1, F56.2.1.trans F56.2.2.1.symm, fun z => absurd (F56.2.1.symm.trans z) (by decide), F56.2.2.2.2⟩

theorem axq_ad7_a : ax_RO ax_wC ax_XC axu_ad7_a := by
  intro ρ hp hE hT
  have j0 : ρ 0 % 4 = 1 := pz_gj hE 0 (by decide) rfl
  have j1 : ρ 1 % 4 = 1 := pz_gj hE 1 (by decide) rfl
  obtain ⟨i2a, i2b, i2c, i2d⟩ := pz_gi hE 2 2147483648 2147484448 (by decide) rfl
  obtain ⟨i3a, i3b, i3c, i3d⟩ := pz_gi hE 3 2147483520 2147483744 (by decide) rfl
  have c_ahead : ay_at hp 8 5 = some (ρ 2) := ay_gfj hE 42 20 11 8 5 (by decide) (by rw [ax_vl_c (by decide)]) (by rw [ax_vl_c (by decide)])
  have c_tape : ay_at hp 9 (ρ 2 / 4) = some (ρ 3) := ay_gf hE 46 11 15 9 (by decide) (by rw [ax_vl_c (by decide)])
  obtain ⟨-, -, F30⟩ : ay_ex hp 8 ∧ ay_ex hp 9 ∧ pz_x30 (ρ 0) (ay_at hp 8 1) (ay_at hp 9) := (ax_XF_lt (by decide)).mp (ax_gx hE (30, [3]) (by decide))
  obtain ⟨-, -, -, -, F56⟩ : ay_ex hp 8 ∧ ay_ex hp 10 ∧ ay_ex hp 11 ∧ ay_ex hp 12 ∧ pz_x56 (ρ 0) (ρ 1) (ay_at hp 8 5) (ay_at hp 8 6) (ay_at hp 8 7) (ay_at hp 10 0) (ay_at hp 10 1) (ay_at hp 10 2) (ay_at hp 10 3) (ay_at hp 10 4) (ay_at hp 8 9) (ay_at hp 8 11) (ay_at hp 8 10) (ay_at hp 8 3) (ay_at hp 8 4) (ay_at hp 11) (ay_at hp 12) := (ax_XF_lt (by decide)).mp (ax_gx hE (56, [3, 7]) (by decide))
  rw [c_ahead] at F56
  refine ⟨(fun y hy => by cases hy), _, List.mem_cons_self, ρ, fun _ _ => rfl, ax_px hE (by decide) (fun y hy => ?_)⟩
  cases List.mem_singleton.mp hy
  refine (ax_XF_lt (x := 50) (by decide)).mpr ?_
  show ay_ex hp 8 ∧ ay_ex hp 10 ∧ ay_ex hp 11 ∧ ay_ex hp 12 ∧ pz_x50 (ρ 0) (ρ 1) (ay_at hp 8 5) (ay_at hp 8 6) (ay_at hp 8 7) (ay_at hp 8 8) (ay_at hp 10 0) (ay_at hp 10 1) (ay_at hp 10 2) (ay_at hp 10 3) (ay_at hp 10 4) (ay_at hp 8 9) (ay_at hp 8 11) (ay_at hp 8 10) (ay_at hp 8 3) (ay_at hp 8 4) (ay_at hp 11) (ay_at hp 12)
  refine ⟨(ax_cellT hT (q := 8) (g := 2) rfl), (ax_cellT hT (q := 10) (g := 1) rfl), (ax_cellT hT (q := 11) (g := 14) rfl), (ax_cellT hT (q := 12) (g := 15) rfl), ?_⟩
  rw [c_ahead]
  have hb : ρ 2 / 4 < pz_gN (ρ 0) → pz_b (pz_gt (ρ 0)) (ρ 2 / 4) = ρ 3 / 4 := fun hl => by
    have e := F30.2.2 (ρ 2 / 4) hl
    rw [c_tape] at e
    have e := Option.some.inj e
    omega
  have e : pz_e pz_lt (pz_gt (ρ 0)) (pz_gN (ρ 0)) (ρ 2 / 4) = pz_nx (pz_gt (ρ 0)) (pz_gN (ρ 0)) (pz_p (pz_cf (pz_gt (ρ 0)) (pz_gN (ρ 0)) (ρ 1 / 4))) := F56.2.2.2.1
  have e2 : pz_e pz_lt (pz_gt (ρ 0)) (pz_gN (ρ 0)) (ρ 2 / 4) = ρ 2 / 4 := pz_e_off (by
    by_cases hl : ρ 2 / 4 < pz_gN (ρ 0)
    · exact Or.inr (by rw [hb hl]; exact pz_lt_no (by omega))
    · exact Or.inl (by omega))
  exact ⟨e2.symm.trans e, F56.1, F56.2.1.trans F56.2.2.1.symm, fun z => absurd (F56.2.1.symm.trans z) (by decide), F56.2.2.2.2⟩

theorem axq_ad7_b : ax_RO ax_wC ax_XC axu_ad7_b := by
  intro ρ hp hE hT
  have j0 : ρ 0 % 4 = 1 := pz_gj hE 0 (by decide) rfl
  have j1 : ρ 1 % 4 = 1 := pz_gj hE 1 (by decide) rfl
  obtain ⟨i2a, i2b, i2c, i2d⟩ := pz_gi hE 2 2147483648 2147484448 (by decide) rfl
  obtain ⟨i3a, i3b, i3c, i3d⟩ := pz_gi hE 3 2147483771 2147483775 (by decide) rfl
  have c_ahead : ay_at hp 8 5 = some (ρ 2) := ay_gfj hE 42 20 11 8 5 (by decide) (by rw [ax_vl_c (by decide)]) (by rw [ax_vl_c (by decide)])
  have c_tape : ay_at hp 9 (ρ 2 / 4) = some (ρ 3) := ay_gf hE 46 11 15 9 (by decide) (by rw [ax_vl_c (by decide)])
  obtain ⟨-, -, F30⟩ : ay_ex hp 8 ∧ ay_ex hp 9 ∧ pz_x30 (ρ 0) (ay_at hp 8 1) (ay_at hp 9) := (ax_XF_lt (by decide)).mp (ax_gx hE (30, [3]) (by decide))
  obtain ⟨-, -, -, -, F56⟩ : ay_ex hp 8 ∧ ay_ex hp 10 ∧ ay_ex hp 11 ∧ ay_ex hp 12 ∧ pz_x56 (ρ 0) (ρ 1) (ay_at hp 8 5) (ay_at hp 8 6) (ay_at hp 8 7) (ay_at hp 10 0) (ay_at hp 10 1) (ay_at hp 10 2) (ay_at hp 10 3) (ay_at hp 10 4) (ay_at hp 8 9) (ay_at hp 8 11) (ay_at hp 8 10) (ay_at hp 8 3) (ay_at hp 8 4) (ay_at hp 11) (ay_at hp 12) := (ax_XF_lt (by decide)).mp (ax_gx hE (56, [3, 7]) (by decide))
  rw [c_ahead] at F56
  refine ⟨(fun y hy => by cases hy), _, List.mem_cons_self, ρ, fun _ _ => rfl, ax_px hE (by decide) (fun y hy => ?_)⟩
  cases List.mem_singleton.mp hy
  refine (ax_XF_lt (x := 50) (by decide)).mpr ?_
  show ay_ex hp 8 ∧ ay_ex hp 10 ∧ ay_ex hp 11 ∧ ay_ex hp 12 ∧ pz_x50 (ρ 0) (ρ 1) (ay_at hp 8 5) (ay_at hp 8 6) (ay_at hp 8 7) (ay_at hp 8 8) (ay_at hp 10 0) (ay_at hp 10 1) (ay_at hp 10 2) (ay_at hp 10 3) (ay_at hp 10 4) (ay_at hp 8 9) (ay_at hp 8 11) (ay_at hp 8 10) (ay_at hp 8 3) (ay_at hp 8 4) (ay_at hp 11) (ay_at hp 12)
  refine ⟨(ax_cellT hT (q := 8) (g := 2) rfl), (ax_cellT hT (q := 10) (g := 1) rfl), (ax_cellT hT (q := 11) (g := 14) rfl), (ax_cellT hT (q := 12) (g := 15) rfl), ?_⟩
  rw [c_ahead]
  have hb : ρ 2 / 4 < pz_gN (ρ 0) → pz_b (pz_gt (ρ 0)) (ρ 2 / 4) = ρ 3 / 4 := fun hl => by
    have e := F30.2.2 (ρ 2 / 4) hl
    rw [c_tape] at e
    have e := Option.some.inj e
    omega
  have e : pz_e pz_lt (pz_gt (ρ 0)) (pz_gN (ρ 0)) (ρ 2 / 4) = pz_nx (pz_gt (ρ 0)) (pz_gN (ρ 0)) (pz_p (pz_cf (pz_gt (ρ 0)) (pz_gN (ρ 0)) (ρ 1 / 4))) := F56.2.2.2.1
  have e2 : pz_e pz_lt (pz_gt (ρ 0)) (pz_gN (ρ 0)) (ρ 2 / 4) = ρ 2 / 4 := pz_e_off (by
    by_cases hl : ρ 2 / 4 < pz_gN (ρ 0)
    · exact Or.inr (by rw [hb hl]; exact pz_lt_no (by omega))
    · exact Or.inl (by omega))
  exact ⟨e2.symm.trans e, F56.1, F56.2.1.trans F56.2.2.1.symm, fun z => absurd (F56.2.1.symm.trans z) (by decide), F56.2.2.2.2⟩

theorem axq_ad9 : ax_RO ax_wC ax_XC axu_ad9 := by
  intro ρ hp hE hT
  have j0 : ρ 0 % 4 = 1 := pz_gj hE 0 (by decide) rfl
  have j1 : ρ 1 % 4 = 1 := pz_gj hE 1 (by decide) rfl
  obtain ⟨i2a, i2b, i2c, i2d⟩ := pz_gi hE 2 2147483648 2147484448 (by decide) rfl
  obtain ⟨i3a, i3b, i3c, i3d⟩ := pz_gi hE 3 2147483696 2147483705 (by decide) rfl
  obtain ⟨i4a, i4b, i4c, i4d⟩ := pz_gi hE 4 0 4294967295 (by decide) rfl
  have c_place : ay_at hp 8 6 = some (ρ 2) := ay_gfj hE 42 24 11 8 6 (by decide) (by rw [ax_vl_c (by decide)]) (by rw [ax_vl_c (by decide)])
  have c_tape : ay_at hp 9 (ρ 2 / 4) = some (ρ 3) := ay_gf hE 46 11 15 9 (by decide) (by rw [ax_vl_c (by decide)])
  have s1 : (ρ 4 / 4 + 2147483648) % 4294967296 + (192 / 4 + 2147483648) % 4294967296 = (ρ 3 / 4 + 2147483648) % 4294967296 + 2147483648 := pz_gs hE 19 192 15 (by decide)
  obtain ⟨-, -, F30⟩ : ay_ex hp 8 ∧ ay_ex hp 9 ∧ pz_x30 (ρ 0) (ay_at hp 8 1) (ay_at hp 9) := (ax_XF_lt (by decide)).mp (ax_gx hE (30, [3]) (by decide))
  obtain ⟨-, -, -, -, F57⟩ : ay_ex hp 8 ∧ ay_ex hp 10 ∧ ay_ex hp 11 ∧ ay_ex hp 12 ∧ pz_x57 (ρ 0) (ρ 1) (ay_at hp 8 5) (ay_at hp 8 6) (ay_at hp 8 7) (ay_at hp 10 0) (ay_at hp 10 1) (ay_at hp 10 2) (ay_at hp 10 3) (ay_at hp 10 4) (ay_at hp 8 9) (ay_at hp 8 11) (ay_at hp 8 10) (ay_at hp 8 3) (ay_at hp 8 4) (ay_at hp 11) (ay_at hp 12) := (ax_XF_lt (by decide)).mp (ax_gx hE (57, [3, 7]) (by decide))
  rw [c_place] at F57
  refine ⟨(fun y hy => by cases hy), _, List.mem_cons_self, ρ, fun _ _ => rfl, ax_px hE (by decide) (fun y hy => ?_)⟩
  cases List.mem_singleton.mp hy
  refine (ax_XF_wr (x := 58) (by decide)).mpr ?_
  show ay_ex (ax_upd hp 42 32 (ρ 4)) 8 ∧ ay_ex (ax_upd hp 42 32 (ρ 4)) 10 ∧ ay_ex (ax_upd hp 42 32 (ρ 4)) 11 ∧ ay_ex (ax_upd hp 42 32 (ρ 4)) 12 ∧ pz_x58 (ρ 0) (ρ 1) (ay_at (ax_upd hp 42 32 (ρ 4)) 8 5) (ay_at (ax_upd hp 42 32 (ρ 4)) 8 6) (ay_at (ax_upd hp 42 32 (ρ 4)) 8 7) (ay_at (ax_upd hp 42 32 (ρ 4)) 8 8) (ay_at (ax_upd hp 42 32 (ρ 4)) 10 0) (ay_at (ax_upd hp 42 32 (ρ 4)) 10 1) (ay_at (ax_upd hp 42 32 (ρ 4)) 10 2) (ay_at (ax_upd hp 42 32 (ρ 4)) 10 3) (ay_at (ax_upd hp 42 32 (ρ 4)) 10 4) (ay_at (ax_upd hp 42 32 (ρ 4)) 8 9) (ay_at (ax_upd hp 42 32 (ρ 4)) 8 11) (ay_at (ax_upd hp 42 32 (ρ 4)) 8 10) (ay_at (ax_upd hp 42 32 (ρ 4)) 8 3) (ay_at (ax_upd hp 42 32 (ρ 4)) 8 4) (ay_at (ax_upd hp 42 32 (ρ 4)) 11) (ay_at (ax_upd hp 42 32 (ρ 4)) 12)
  obtain ⟨o0, ho0⟩ := ay_some hT (q := 8) (g := 2) (n := 12) rfl rfl (j := 32 / 4) (by decide)
  have u1 : ∀ q, q ≠ 8 → ay_at (ax_upd hp 42 32 (ρ 4)) q = ay_at hp q := fun q hq => funext (fun j => ay_upd_ne hT.1 hq j)
  have u2 : ∀ j, ay_at (ax_upd hp 42 32 (ρ 4)) 8 j = if j = 8 then some (ρ 4) else ay_at hp 8 j := fun j => ay_upd_eq hT.1 rfl ho0 j
  refine ⟨ay_ex_upd hT.1 (ax_cellT hT (q := 8) (g := 2) rfl), ay_ex_upd hT.1 (ax_cellT hT (q := 10) (g := 1) rfl), ay_ex_upd hT.1 (ax_cellT hT (q := 11) (g := 14) rfl), ay_ex_upd hT.1 (ax_cellT hT (q := 12) (g := 15) rfl), ?_⟩
  rw [u2 5, if_neg (show ¬ 5 = 8 by decide), u2 6, if_neg (show ¬ 6 = 8 by decide), u2 7, if_neg (show ¬ 7 = 8 by decide), u2 8, if_pos rfl, u1 10 (by decide), u2 9, if_neg (show ¬ 9 = 8 by decide), u2 11, if_neg (show ¬ 11 = 8 by decide), u2 10, if_neg (show ¬ 10 = 8 by decide), u2 3, if_neg (show ¬ 3 = 8 by decide), u2 4, if_neg (show ¬ 4 = 8 by decide), u1 11 (by decide), u1 12 (by decide)]
  rw [c_place]
  have hb : ρ 2 / 4 < pz_gN (ρ 0) → pz_b (pz_gt (ρ 0)) (ρ 2 / 4) = ρ 3 / 4 := fun hl => by
    have e := F30.2.2 (ρ 2 / 4) hl
    rw [c_tape] at e
    have e := Option.some.inj e
    omega
  have e1 : ρ 2 / 4 = pz_at (pz_gt (ρ 0)) (pz_gN (ρ 0)) (pz_p (pz_cf (pz_gt (ρ 0)) (pz_gN (ρ 0)) (ρ 1 / 4))) := F57.1
  have e2 : ay_ln (ay_at hp 8 5) = ρ 2 / 4 + 1 := F57.2.1
  have e3 : ρ 2 / 4 < pz_gN (ρ 0) := F57.2.2.1
  have hb1 := hb e3
  rw [e1] at hb1 e2 e3
  obtain ⟨k1, k2, k3⟩ := pz_kd_nm e3 (by rw [hb1]; exact pz_dg_yes (by omega) (by omega))
  refine ⟨e1, F57.2.2.2.1, k1, by rw [e2, k2], ?_, F57.2.2.2.2.2⟩
  show pz_n (pz_gt (ρ 0)) (pz_gN (ρ 0)) (ay_ln (ay_at hp 8 5)) (pz_m (ρ 4 / 4)) = _
  rw [e2, k3, hb1, show ρ 4 / 4 = ρ 3 / 4 - 48 by omega]

theorem axq_ad11 : ax_RO ax_wC ax_XC axu_ad11 := by
  intro ρ hp hE hT
  have j0 : ρ 0 % 4 = 1 := pz_gj hE 0 (by decide) rfl
  have j1 : ρ 1 % 4 = 1 := pz_gj hE 1 (by decide) rfl
  obtain ⟨i2a, i2b, i2c, i2d⟩ := pz_gi hE 2 2147483648 2147484448 (by decide) rfl
  obtain ⟨i3a, i3b, i3c, i3d⟩ := pz_gi hE 3 0 4294967295 (by decide) rfl
  have c_ahead : ay_at hp 8 5 = some (ρ 2) := ay_gfj hE 42 20 11 8 5 (by decide) (by rw [ax_vl_c (by decide)]) (by rw [ax_vl_c (by decide)])
  have s1 : (ρ 2 / 4 + 2147483648) % 4294967296 + (4 / 4 + 2147483648) % 4294967296 = (ρ 3 / 4 + 2147483648) % 4294967296 + 2147483648 := pz_gs hE 11 4 15 (by decide)
  obtain ⟨-, -, F30⟩ : ay_ex hp 8 ∧ ay_ex hp 9 ∧ pz_x30 (ρ 0) (ay_at hp 8 1) (ay_at hp 9) := (ax_XF_lt (by decide)).mp (ax_gx hE (30, [3]) (by decide))
  obtain ⟨-, -, -, -, F59⟩ : ay_ex hp 8 ∧ ay_ex hp 10 ∧ ay_ex hp 11 ∧ ay_ex hp 12 ∧ pz_x59 (ρ 0) (ρ 1) (ay_at hp 8 5) (ay_at hp 8 6) (ay_at hp 8 7) (ay_at hp 8 8) (ay_at hp 10 0) (ay_at hp 10 1) (ay_at hp 10 2) (ay_at hp 10 3) (ay_at hp 10 4) (ay_at hp 8 9) (ay_at hp 8 11) (ay_at hp 8 10) (ay_at hp 8 3) (ay_at hp 8 4) (ay_at hp 11) (ay_at hp 12) := (ax_XF_lt (by decide)).mp (ax_gx hE (59, [3, 7]) (by decide))
  rw [c_ahead] at F59
  refine ⟨(fun y hy => by cases hy), _, List.mem_cons_self, ρ, fun _ _ => rfl, ax_px hE (by decide) (fun y hy => ?_)⟩
  cases List.mem_singleton.mp hy
  refine (ax_XF_wr (x := 58) (by decide)).mpr ?_
  show ay_ex (ax_upd hp 42 20 (ρ 3)) 8 ∧ ay_ex (ax_upd hp 42 20 (ρ 3)) 10 ∧ ay_ex (ax_upd hp 42 20 (ρ 3)) 11 ∧ ay_ex (ax_upd hp 42 20 (ρ 3)) 12 ∧ pz_x58 (ρ 0) (ρ 1) (ay_at (ax_upd hp 42 20 (ρ 3)) 8 5) (ay_at (ax_upd hp 42 20 (ρ 3)) 8 6) (ay_at (ax_upd hp 42 20 (ρ 3)) 8 7) (ay_at (ax_upd hp 42 20 (ρ 3)) 8 8) (ay_at (ax_upd hp 42 20 (ρ 3)) 10 0) (ay_at (ax_upd hp 42 20 (ρ 3)) 10 1) (ay_at (ax_upd hp 42 20 (ρ 3)) 10 2) (ay_at (ax_upd hp 42 20 (ρ 3)) 10 3) (ay_at (ax_upd hp 42 20 (ρ 3)) 10 4) (ay_at (ax_upd hp 42 20 (ρ 3)) 8 9) (ay_at (ax_upd hp 42 20 (ρ 3)) 8 11) (ay_at (ax_upd hp 42 20 (ρ 3)) 8 10) (ay_at (ax_upd hp 42 20 (ρ 3)) 8 3) (ay_at (ax_upd hp 42 20 (ρ 3)) 8 4) (ay_at (ax_upd hp 42 20 (ρ 3)) 11) (ay_at (ax_upd hp 42 20 (ρ 3)) 12)
  obtain ⟨o0, ho0⟩ := ay_some hT (q := 8) (g := 2) (n := 12) rfl rfl (j := 20 / 4) (by decide)
  have u1 : ∀ q, q ≠ 8 → ay_at (ax_upd hp 42 20 (ρ 3)) q = ay_at hp q := fun q hq => funext (fun j => ay_upd_ne hT.1 hq j)
  have u2 : ∀ j, ay_at (ax_upd hp 42 20 (ρ 3)) 8 j = if j = 5 then some (ρ 3) else ay_at hp 8 j := fun j => ay_upd_eq hT.1 rfl ho0 j
  refine ⟨ay_ex_upd hT.1 (ax_cellT hT (q := 8) (g := 2) rfl), ay_ex_upd hT.1 (ax_cellT hT (q := 10) (g := 1) rfl), ay_ex_upd hT.1 (ax_cellT hT (q := 11) (g := 14) rfl), ay_ex_upd hT.1 (ax_cellT hT (q := 12) (g := 15) rfl), ?_⟩
  rw [u2 5, if_pos rfl, u2 6, if_neg (show ¬ 6 = 5 by decide), u2 7, if_neg (show ¬ 7 = 5 by decide), u2 8, if_neg (show ¬ 8 = 5 by decide), u1 10 (by decide), u2 9, if_neg (show ¬ 9 = 5 by decide), u2 11, if_neg (show ¬ 11 = 5 by decide), u2 10, if_neg (show ¬ 10 = 5 by decide), u2 3, if_neg (show ¬ 3 = 5 by decide), u2 4, if_neg (show ¬ 4 = 5 by decide), u1 11 (by decide), u1 12 (by decide)]
  refine ⟨F59.1, F59.2.1, F59.2.2.1, ?_, ?_, F59.2.2.2.2.2⟩
  · show pz_e pz_dg (pz_gt (ρ 0)) (pz_gN (ρ 0)) (ρ 3 / 4) = _
    rw [show ρ 3 / 4 = ρ 2 / 4 + 1 by omega]
    exact F59.2.2.2.1
  · show pz_n (pz_gt (ρ 0)) (pz_gN (ρ 0)) (ρ 3 / 4) _ = _
    rw [show ρ 3 / 4 = ρ 2 / 4 + 1 by omega]
    exact F59.2.2.2.2.1

theorem axq_ad12_e : ax_RO ax_wC ax_XC axu_ad12_e := by
  intro ρ hp hE hT
  have j0 : ρ 0 % 4 = 1 := pz_gj hE 0 (by decide) rfl
  have j1 : ρ 1 % 4 = 1 := pz_gj hE 1 (by decide) rfl
  obtain ⟨i2a, i2b, i2c, i2d⟩ := pz_gi hE 2 2147483648 2147484448 (by decide) rfl
  obtain ⟨i3a, i3b, i3c, i3d⟩ := pz_gi hE 3 2147483648 2147484448 (by decide) rfl
  have c_ahead : ay_at hp 8 5 = some (ρ 2) := ay_gfj hE 42 20 11 8 5 (by decide) (by rw [ax_vl_c (by decide)]) (by rw [ax_vl_c (by decide)])
  have c_size : ay_at hp 8 1 = some (ρ 3) := ay_gfj hE 42 4 15 8 1 (by decide) (by rw [ax_vl_c (by decide)]) (by rw [ax_vl_c (by decide)])
  have r1 : (ρ 3 / 4 + 2147483648) % 4294967296 ≤ (ρ 2 / 4 + 2147483648) % 4294967296 := pz_gc hE 3 11 15 (by decide) (by decide)
  obtain ⟨-, -, F30⟩ : ay_ex hp 8 ∧ ay_ex hp 9 ∧ pz_x30 (ρ 0) (ay_at hp 8 1) (ay_at hp 9) := (ax_XF_lt (by decide)).mp (ax_gx hE (30, [3]) (by decide))
  rw [c_size] at F30
  obtain ⟨-, -, -, -, F58⟩ : ay_ex hp 8 ∧ ay_ex hp 10 ∧ ay_ex hp 11 ∧ ay_ex hp 12 ∧ pz_x58 (ρ 0) (ρ 1) (ay_at hp 8 5) (ay_at hp 8 6) (ay_at hp 8 7) (ay_at hp 8 8) (ay_at hp 10 0) (ay_at hp 10 1) (ay_at hp 10 2) (ay_at hp 10 3) (ay_at hp 10 4) (ay_at hp 8 9) (ay_at hp 8 11) (ay_at hp 8 10) (ay_at hp 8 3) (ay_at hp 8 4) (ay_at hp 11) (ay_at hp 12) := (ax_XF_lt (by decide)).mp (ax_gx hE (58, [3, 7]) (by decide))
  rw [c_ahead] at F58
  refine ⟨(fun y hy => by cases hy), _, List.mem_cons_self, ρ, fun _ _ => rfl, ax_px hE (by decide) (fun y hy => ?_)⟩
  cases List.mem_singleton.mp hy
  refine (ax_XF_lt (x := 50) (by decide)).mpr ?_
  show ay_ex hp 8 ∧ ay_ex hp 10 ∧ ay_ex hp 11 ∧ ay_ex hp 12 ∧ pz_x50 (ρ 0) (ρ 1) (ay_at hp 8 5) (ay_at hp 8 6) (ay_at hp 8 7) (ay_at hp 8 8) (ay_at hp 10 0) (ay_at hp 10 1) (ay_at hp 10 2) (ay_at hp 10 3) (ay_at hp 10 4) (ay_at hp 8 9) (ay_at hp 8 11) (ay_at hp 8 10) (ay_at hp 8 3) (ay_at hp 8 4) (ay_at hp 11) (ay_at hp 12)
  refine ⟨(ax_cellT hT (q := 8) (g := 2) rfl), (ax_cellT hT (q := 10) (g := 1) rfl), (ax_cellT hT (q := 11) (g := 14) rfl), (ax_cellT hT (q := 12) (g := 15) rfl), ?_⟩
  rw [c_ahead]
  have hN : ρ 3 / 4 = pz_gN (ρ 0) := F30.1
  have e : pz_e pz_dg (pz_gt (ρ 0)) (pz_gN (ρ 0)) (ρ 2 / 4) = pz_nx (pz_gt (ρ 0)) (pz_gN (ρ 0)) (pz_p (pz_cf (pz_gt (ρ 0)) (pz_gN (ρ 0)) (ρ 1 / 4))) := F58.2.2.2.1
  have e2 : pz_e pz_dg (pz_gt (ρ 0)) (pz_gN (ρ 0)) (ρ 2 / 4) = ρ 2 / 4 := pz_e_off (Or.inl (by omega))
  have e3 : pz_n (pz_gt (ρ 0)) (pz_gN (ρ 0)) (ρ 2 / 4) _ = _ := F58.2.2.2.2.1
  rw [pz_n_off (Or.inl (by omega))] at e3
  exact ⟨e2.symm.trans e, F58.1, F58.2.1.trans F58.2.2.1.symm, fun _ => e3, F58.2.2.2.2.2⟩

theorem axq_ad12_a : ax_RO ax_wC ax_XC axu_ad12_a := by
  intro ρ hp hE hT
  have j0 : ρ 0 % 4 = 1 := pz_gj hE 0 (by decide) rfl
  have j1 : ρ 1 % 4 = 1 := pz_gj hE 1 (by decide) rfl
  obtain ⟨i2a, i2b, i2c, i2d⟩ := pz_gi hE 2 2147483648 2147484448 (by decide) rfl
  obtain ⟨i3a, i3b, i3c, i3d⟩ := pz_gi hE 3 2147483520 2147483695 (by decide) rfl
  have c_ahead : ay_at hp 8 5 = some (ρ 2) := ay_gfj hE 42 20 11 8 5 (by decide) (by rw [ax_vl_c (by decide)]) (by rw [ax_vl_c (by decide)])
  have c_tape : ay_at hp 9 (ρ 2 / 4) = some (ρ 3) := ay_gf hE 46 11 15 9 (by decide) (by rw [ax_vl_c (by decide)])
  obtain ⟨-, -, F30⟩ : ay_ex hp 8 ∧ ay_ex hp 9 ∧ pz_x30 (ρ 0) (ay_at hp 8 1) (ay_at hp 9) := (ax_XF_lt (by decide)).mp (ax_gx hE (30, [3]) (by decide))
  obtain ⟨-, -, -, -, F58⟩ : ay_ex hp 8 ∧ ay_ex hp 10 ∧ ay_ex hp 11 ∧ ay_ex hp 12 ∧ pz_x58 (ρ 0) (ρ 1) (ay_at hp 8 5) (ay_at hp 8 6) (ay_at hp 8 7) (ay_at hp 8 8) (ay_at hp 10 0) (ay_at hp 10 1) (ay_at hp 10 2) (ay_at hp 10 3) (ay_at hp 10 4) (ay_at hp 8 9) (ay_at hp 8 11) (ay_at hp 8 10) (ay_at hp 8 3) (ay_at hp 8 4) (ay_at hp 11) (ay_at hp 12) := (ax_XF_lt (by decide)).mp (ax_gx hE (58, [3, 7]) (by decide))
  rw [c_ahead] at F58
  refine ⟨(fun y hy => by cases hy), _, List.mem_cons_self, ρ, fun _ _ => rfl, ax_px hE (by decide) (fun y hy => ?_)⟩
  cases List.mem_singleton.mp hy
  refine (ax_XF_lt (x := 50) (by decide)).mpr ?_
  show ay_ex hp 8 ∧ ay_ex hp 10 ∧ ay_ex hp 11 ∧ ay_ex hp 12 ∧ pz_x50 (ρ 0) (ρ 1) (ay_at hp 8 5) (ay_at hp 8 6) (ay_at hp 8 7) (ay_at hp 8 8) (ay_at hp 10 0) (ay_at hp 10 1) (ay_at hp 10 2) (ay_at hp 10 3) (ay_at hp 10 4) (ay_at hp 8 9) (ay_at hp 8 11) (ay_at hp 8 10) (ay_at hp 8 3) (ay_at hp 8 4) (ay_at hp 11) (ay_at hp 12)
  refine ⟨(ax_cellT hT (q := 8) (g := 2) rfl), (ax_cellT hT (q := 10) (g := 1) rfl), (ax_cellT hT (q := 11) (g := 14) rfl), (ax_cellT hT (q := 12) (g := 15) rfl), ?_⟩
  rw [c_ahead]
  have hb : ρ 2 / 4 < pz_gN (ρ 0) → pz_b (pz_gt (ρ 0)) (ρ 2 / 4) = ρ 3 / 4 := fun hl => by
    have e := F30.2.2 (ρ 2 / 4) hl
    rw [c_tape] at e
    have e := Option.some.inj e
    omega
  have e : pz_e pz_dg (pz_gt (ρ 0)) (pz_gN (ρ 0)) (ρ 2 / 4) = pz_nx (pz_gt (ρ 0)) (pz_gN (ρ 0)) (pz_p (pz_cf (pz_gt (ρ 0)) (pz_gN (ρ 0)) (ρ 1 / 4))) := F58.2.2.2.1
  have e2 : pz_e pz_dg (pz_gt (ρ 0)) (pz_gN (ρ 0)) (ρ 2 / 4) = ρ 2 / 4 := pz_e_off (by
    by_cases hl : ρ 2 / 4 < pz_gN (ρ 0)
    · exact Or.inr (by rw [hb hl]; exact pz_dg_no (by omega))
    · exact Or.inl (by omega))
  have e3 : pz_n (pz_gt (ρ 0)) (pz_gN (ρ 0)) (ρ 2 / 4) _ = _ := F58.2.2.2.2.1
  rw [pz_n_off (by
    by_cases hl : ρ 2 / 4 < pz_gN (ρ 0)
    · exact Or.inr (by rw [hb hl]; exact pz_dg_no (by omega))
    · exact Or.inl (by omega))] at e3
  exact ⟨e2.symm.trans e, F58.1, F58.2.1.trans F58.2.2.1.symm, fun _ => e3, F58.2.2.2.2.2⟩

theorem axq_ad12_b : ax_RO ax_wC ax_XC axu_ad12_b := by
  intro ρ hp hE hT
  have j0 : ρ 0 % 4 = 1 := pz_gj hE 0 (by decide) rfl
  have j1 : ρ 1 % 4 = 1 := pz_gj hE 1 (by decide) rfl
  obtain ⟨i2a, i2b, i2c, i2d⟩ := pz_gi hE 2 2147483648 2147484448 (by decide) rfl
  obtain ⟨i3a, i3b, i3c, i3d⟩ := pz_gi hE 3 2147483706 2147483775 (by decide) rfl
  have c_ahead : ay_at hp 8 5 = some (ρ 2) := ay_gfj hE 42 20 11 8 5 (by decide) (by rw [ax_vl_c (by decide)]) (by rw [ax_vl_c (by decide)])
  have c_tape : ay_at hp 9 (ρ 2 / 4) = some (ρ 3) := ay_gf hE 46 11 15 9 (by decide) (by rw [ax_vl_c (by decide)])
  obtain ⟨-, -, F30⟩ : ay_ex hp 8 ∧ ay_ex hp 9 ∧ pz_x30 (ρ 0) (ay_at hp 8 1) (ay_at hp 9) := (ax_XF_lt (by decide)).mp (ax_gx hE (30, [3]) (by decide))
  obtain ⟨-, -, -, -, F58⟩ : ay_ex hp 8 ∧ ay_ex hp 10 ∧ ay_ex hp 11 ∧ ay_ex hp 12 ∧ pz_x58 (ρ 0) (ρ 1) (ay_at hp 8 5) (ay_at hp 8 6) (ay_at hp 8 7) (ay_at hp 8 8) (ay_at hp 10 0) (ay_at hp 10 1) (ay_at hp 10 2) (ay_at hp 10 3) (ay_at hp 10 4) (ay_at hp 8 9) (ay_at hp 8 11) (ay_at hp 8 10) (ay_at hp 8 3) (ay_at hp 8 4) (ay_at hp 11) (ay_at hp 12) := (ax_XF_lt (by decide)).mp (ax_gx hE (58, [3, 7]) (by decide))
  rw [c_ahead] at F58
  refine ⟨(fun y hy => by cases hy), _, List.mem_cons_self, ρ, fun _ _ => rfl, ax_px hE (by decide) (fun y hy => ?_)⟩
  cases List.mem_singleton.mp hy
  refine (ax_XF_lt (x := 50) (by decide)).mpr ?_
  show ay_ex hp 8 ∧ ay_ex hp 10 ∧ ay_ex hp 11 ∧ ay_ex hp 12 ∧ pz_x50 (ρ 0) (ρ 1) (ay_at hp 8 5) (ay_at hp 8 6) (ay_at hp 8 7) (ay_at hp 8 8) (ay_at hp 10 0) (ay_at hp 10 1) (ay_at hp 10 2) (ay_at hp 10 3) (ay_at hp 10 4) (ay_at hp 8 9) (ay_at hp 8 11) (ay_at hp 8 10) (ay_at hp 8 3) (ay_at hp 8 4) (ay_at hp 11) (ay_at hp 12)
  refine ⟨(ax_cellT hT (q := 8) (g := 2) rfl), (ax_cellT hT (q := 10) (g := 1) rfl), (ax_cellT hT (q := 11) (g := 14) rfl), (ax_cellT hT (q := 12) (g := 15) rfl), ?_⟩
  rw [c_ahead]
  have hb : ρ 2 / 4 < pz_gN (ρ 0) → pz_b (pz_gt (ρ 0)) (ρ 2 / 4) = ρ 3 / 4 := fun hl => by
    have e := F30.2.2 (ρ 2 / 4) hl
    rw [c_tape] at e
    have e := Option.some.inj e
    omega
  have e : pz_e pz_dg (pz_gt (ρ 0)) (pz_gN (ρ 0)) (ρ 2 / 4) = pz_nx (pz_gt (ρ 0)) (pz_gN (ρ 0)) (pz_p (pz_cf (pz_gt (ρ 0)) (pz_gN (ρ 0)) (ρ 1 / 4))) := F58.2.2.2.1
  have e2 : pz_e pz_dg (pz_gt (ρ 0)) (pz_gN (ρ 0)) (ρ 2 / 4) = ρ 2 / 4 := pz_e_off (by
    by_cases hl : ρ 2 / 4 < pz_gN (ρ 0)
    · exact Or.inr (by rw [hb hl]; exact pz_dg_no (by omega))
    · exact Or.inl (by omega))
  have e3 : pz_n (pz_gt (ρ 0)) (pz_gN (ρ 0)) (ρ 2 / 4) _ = _ := F58.2.2.2.2.1
  rw [pz_n_off (by
    by_cases hl : ρ 2 / 4 < pz_gN (ρ 0)
    · exact Or.inr (by rw [hb hl]; exact pz_dg_no (by omega))
    · exact Or.inl (by omega))] at e3
  exact ⟨e2.symm.trans e, F58.1, F58.2.1.trans F58.2.2.1.symm, fun _ => e3, F58.2.2.2.2.2⟩

theorem axq_ad13_59 : ax_RO ax_wC ax_XC axu_ad13_59 := by
  intro ρ hp hE hT
  have j0 : ρ 0 % 4 = 1 := pz_gj hE 0 (by decide) rfl
  have j1 : ρ 1 % 4 = 1 := pz_gj hE 1 (by decide) rfl
  obtain ⟨i2a, i2b, i2c, i2d⟩ := pz_gi hE 2 2147483648 2147484448 (by decide) rfl
  obtain ⟨i3a, i3b, i3c, i3d⟩ := pz_gi hE 3 2147483707 2147483707 (by decide) rfl
  have c_place : ay_at hp 8 6 = some (ρ 2) := ay_gfj hE 42 24 11 8 6 (by decide) (by rw [ax_vl_c (by decide)]) (by rw [ax_vl_c (by decide)])
  have c_tape : ay_at hp 9 (ρ 2 / 4) = some (ρ 3) := ay_gf hE 46 11 15 9 (by decide) (by rw [ax_vl_c (by decide)])
  obtain ⟨-, -, F30⟩ : ay_ex hp 8 ∧ ay_ex hp 9 ∧ pz_x30 (ρ 0) (ay_at hp 8 1) (ay_at hp 9) := (ax_XF_lt (by decide)).mp (ax_gx hE (30, [3]) (by decide))
  obtain ⟨-, -, -, -, F55⟩ : ay_ex hp 8 ∧ ay_ex hp 10 ∧ ay_ex hp 11 ∧ ay_ex hp 12 ∧ pz_x55 (ρ 0) (ρ 1) (ay_at hp 8 5) (ay_at hp 8 6) (ay_at hp 10 0) (ay_at hp 10 1) (ay_at hp 10 2) (ay_at hp 10 3) (ay_at hp 10 4) (ay_at hp 8 9) (ay_at hp 8 11) (ay_at hp 8 10) (ay_at hp 8 3) (ay_at hp 8 4) (ay_at hp 11) (ay_at hp 12) := (ax_XF_lt (by decide)).mp (ax_gx hE (55, [3, 7]) (by decide))
  rw [c_place] at F55
  refine ⟨(fun y hy => by cases hy), _, List.mem_cons_self, ρ, fun _ _ => rfl, ax_px hE (by decide) (fun y hy => ?_)⟩
  cases List.mem_singleton.mp hy
  refine (ax_XF_wr (x := 50) (by decide)).mpr ?_
  show ay_ex (ax_upd hp 42 28 (ρ 3)) 8 ∧ ay_ex (ax_upd hp 42 28 (ρ 3)) 10 ∧ ay_ex (ax_upd hp 42 28 (ρ 3)) 11 ∧ ay_ex (ax_upd hp 42 28 (ρ 3)) 12 ∧ pz_x50 (ρ 0) (ρ 1) (ay_at (ax_upd hp 42 28 (ρ 3)) 8 5) (ay_at (ax_upd hp 42 28 (ρ 3)) 8 6) (ay_at (ax_upd hp 42 28 (ρ 3)) 8 7) (ay_at (ax_upd hp 42 28 (ρ 3)) 8 8) (ay_at (ax_upd hp 42 28 (ρ 3)) 10 0) (ay_at (ax_upd hp 42 28 (ρ 3)) 10 1) (ay_at (ax_upd hp 42 28 (ρ 3)) 10 2) (ay_at (ax_upd hp 42 28 (ρ 3)) 10 3) (ay_at (ax_upd hp 42 28 (ρ 3)) 10 4) (ay_at (ax_upd hp 42 28 (ρ 3)) 8 9) (ay_at (ax_upd hp 42 28 (ρ 3)) 8 11) (ay_at (ax_upd hp 42 28 (ρ 3)) 8 10) (ay_at (ax_upd hp 42 28 (ρ 3)) 8 3) (ay_at (ax_upd hp 42 28 (ρ 3)) 8 4) (ay_at (ax_upd hp 42 28 (ρ 3)) 11) (ay_at (ax_upd hp 42 28 (ρ 3)) 12)
  obtain ⟨o0, ho0⟩ := ay_some hT (q := 8) (g := 2) (n := 12) rfl rfl (j := 28 / 4) (by decide)
  have u1 : ∀ q, q ≠ 8 → ay_at (ax_upd hp 42 28 (ρ 3)) q = ay_at hp q := fun q hq => funext (fun j => ay_upd_ne hT.1 hq j)
  have u2 : ∀ j, ay_at (ax_upd hp 42 28 (ρ 3)) 8 j = if j = 7 then some (ρ 3) else ay_at hp 8 j := fun j => ay_upd_eq hT.1 rfl ho0 j
  refine ⟨ay_ex_upd hT.1 (ax_cellT hT (q := 8) (g := 2) rfl), ay_ex_upd hT.1 (ax_cellT hT (q := 10) (g := 1) rfl), ay_ex_upd hT.1 (ax_cellT hT (q := 11) (g := 14) rfl), ay_ex_upd hT.1 (ax_cellT hT (q := 12) (g := 15) rfl), ?_⟩
  rw [u2 5, if_neg (show ¬ 5 = 7 by decide), u2 6, if_neg (show ¬ 6 = 7 by decide), u2 7, if_pos rfl, u2 8, if_neg (show ¬ 8 = 7 by decide), u1 10 (by decide), u2 9, if_neg (show ¬ 9 = 7 by decide), u2 11, if_neg (show ¬ 11 = 7 by decide), u2 10, if_neg (show ¬ 10 = 7 by decide), u2 3, if_neg (show ¬ 3 = 7 by decide), u2 4, if_neg (show ¬ 4 = 7 by decide), u1 11 (by decide), u1 12 (by decide)]
  rw [c_place]
  have hb : ρ 2 / 4 < pz_gN (ρ 0) → pz_b (pz_gt (ρ 0)) (ρ 2 / 4) = ρ 3 / 4 := fun hl => by
    have e := F30.2.2 (ρ 2 / 4) hl
    rw [c_tape] at e
    have e := Option.some.inj e
    omega
  have e1 : ρ 2 / 4 = pz_at (pz_gt (ρ 0)) (pz_gN (ρ 0)) (pz_p (pz_cf (pz_gt (ρ 0)) (pz_gN (ρ 0)) (ρ 1 / 4))) := F55.1
  have e2 : ay_ln (ay_at hp 8 5) = ρ 2 / 4 + 1 := F55.2.1
  have e3 : ρ 2 / 4 < pz_gN (ρ 0) := F55.2.2.1
  have hb1 := hb e3
  rw [e1] at hb1 e2 e3
  obtain ⟨k1, k2⟩ := pz_kd_sg e3 (by rw [hb1]; exact pz_lt_no (by omega)) (by rw [hb1]; exact pz_dg_no (by omega))
  rw [hb1] at k1
  have ec : ρ 3 / 4 = 59 := by omega
  rw [ec] at k1
  replace k1 : pz_kd (pz_gt (ρ 0)) (pz_gN (ρ 0)) (pz_p (pz_cf (pz_gt (ρ 0)) (pz_gN (ρ 0)) (ρ 1 / 4))) = 59 := k1
  exact ⟨by rw [e2, k2], e1, by show ρ 3 / 4 = _; rw [ec, k1], fun z => absurd (show 59 = 2 from ec.symm.trans z) (by decide), F55.2.2.2⟩

theorem axq_ad13_40 : ax_RO ax_wC ax_XC axu_ad13_40 := by
  intro ρ hp hE hT
  have j0 : ρ 0 % 4 = 1 := pz_gj hE 0 (by decide) rfl
  have j1 : ρ 1 % 4 = 1 := pz_gj hE 1 (by decide) rfl
  obtain ⟨i2a, i2b, i2c, i2d⟩ := pz_gi hE 2 2147483648 2147484448 (by decide) rfl
  obtain ⟨i3a, i3b, i3c, i3d⟩ := pz_gi hE 3 2147483688 2147483688 (by decide) rfl
  have c_place : ay_at hp 8 6 = some (ρ 2) := ay_gfj hE 42 24 11 8 6 (by decide) (by rw [ax_vl_c (by decide)]) (by rw [ax_vl_c (by decide)])
  have c_tape : ay_at hp 9 (ρ 2 / 4) = some (ρ 3) := ay_gf hE 46 11 15 9 (by decide) (by rw [ax_vl_c (by decide)])
  obtain ⟨-, -, F30⟩ : ay_ex hp 8 ∧ ay_ex hp 9 ∧ pz_x30 (ρ 0) (ay_at hp 8 1) (ay_at hp 9) := (ax_XF_lt (by decide)).mp (ax_gx hE (30, [3]) (by decide))
  obtain ⟨-, -, -, -, F55⟩ : ay_ex hp 8 ∧ ay_ex hp 10 ∧ ay_ex hp 11 ∧ ay_ex hp 12 ∧ pz_x55 (ρ 0) (ρ 1) (ay_at hp 8 5) (ay_at hp 8 6) (ay_at hp 10 0) (ay_at hp 10 1) (ay_at hp 10 2) (ay_at hp 10 3) (ay_at hp 10 4) (ay_at hp 8 9) (ay_at hp 8 11) (ay_at hp 8 10) (ay_at hp 8 3) (ay_at hp 8 4) (ay_at hp 11) (ay_at hp 12) := (ax_XF_lt (by decide)).mp (ax_gx hE (55, [3, 7]) (by decide))
  rw [c_place] at F55
  refine ⟨(fun y hy => by cases hy), _, List.mem_cons_self, ρ, fun _ _ => rfl, ax_px hE (by decide) (fun y hy => ?_)⟩
  cases List.mem_singleton.mp hy
  refine (ax_XF_wr (x := 50) (by decide)).mpr ?_
  show ay_ex (ax_upd hp 42 28 (ρ 3)) 8 ∧ ay_ex (ax_upd hp 42 28 (ρ 3)) 10 ∧ ay_ex (ax_upd hp 42 28 (ρ 3)) 11 ∧ ay_ex (ax_upd hp 42 28 (ρ 3)) 12 ∧ pz_x50 (ρ 0) (ρ 1) (ay_at (ax_upd hp 42 28 (ρ 3)) 8 5) (ay_at (ax_upd hp 42 28 (ρ 3)) 8 6) (ay_at (ax_upd hp 42 28 (ρ 3)) 8 7) (ay_at (ax_upd hp 42 28 (ρ 3)) 8 8) (ay_at (ax_upd hp 42 28 (ρ 3)) 10 0) (ay_at (ax_upd hp 42 28 (ρ 3)) 10 1) (ay_at (ax_upd hp 42 28 (ρ 3)) 10 2) (ay_at (ax_upd hp 42 28 (ρ 3)) 10 3) (ay_at (ax_upd hp 42 28 (ρ 3)) 10 4) (ay_at (ax_upd hp 42 28 (ρ 3)) 8 9) (ay_at (ax_upd hp 42 28 (ρ 3)) 8 11) (ay_at (ax_upd hp 42 28 (ρ 3)) 8 10) (ay_at (ax_upd hp 42 28 (ρ 3)) 8 3) (ay_at (ax_upd hp 42 28 (ρ 3)) 8 4) (ay_at (ax_upd hp 42 28 (ρ 3)) 11) (ay_at (ax_upd hp 42 28 (ρ 3)) 12)
  obtain ⟨o0, ho0⟩ := ay_some hT (q := 8) (g := 2) (n := 12) rfl rfl (j := 28 / 4) (by decide)
  have u1 : ∀ q, q ≠ 8 → ay_at (ax_upd hp 42 28 (ρ 3)) q = ay_at hp q := fun q hq => funext (fun j => ay_upd_ne hT.1 hq j)
  have u2 : ∀ j, ay_at (ax_upd hp 42 28 (ρ 3)) 8 j = if j = 7 then some (ρ 3) else ay_at hp 8 j := fun j => ay_upd_eq hT.1 rfl ho0 j
  refine ⟨ay_ex_upd hT.1 (ax_cellT hT (q := 8) (g := 2) rfl), ay_ex_upd hT.1 (ax_cellT hT (q := 10) (g := 1) rfl), ay_ex_upd hT.1 (ax_cellT hT (q := 11) (g := 14) rfl), ay_ex_upd hT.1 (ax_cellT hT (q := 12) (g := 15) rfl), ?_⟩
  rw [u2 5, if_neg (show ¬ 5 = 7 by decide), u2 6, if_neg (show ¬ 6 = 7 by decide), u2 7, if_pos rfl, u2 8, if_neg (show ¬ 8 = 7 by decide), u1 10 (by decide), u2 9, if_neg (show ¬ 9 = 7 by decide), u2 11, if_neg (show ¬ 11 = 7 by decide), u2 10, if_neg (show ¬ 10 = 7 by decide), u2 3, if_neg (show ¬ 3 = 7 by decide), u2 4, if_neg (show ¬ 4 = 7 by decide), u1 11 (by decide), u1 12 (by decide)]
  rw [c_place]
  have hb : ρ 2 / 4 < pz_gN (ρ 0) → pz_b (pz_gt (ρ 0)) (ρ 2 / 4) = ρ 3 / 4 := fun hl => by
    have e := F30.2.2 (ρ 2 / 4) hl
    rw [c_tape] at e
    have e := Option.some.inj e
    omega
  have e1 : ρ 2 / 4 = pz_at (pz_gt (ρ 0)) (pz_gN (ρ 0)) (pz_p (pz_cf (pz_gt (ρ 0)) (pz_gN (ρ 0)) (ρ 1 / 4))) := F55.1
  have e2 : ay_ln (ay_at hp 8 5) = ρ 2 / 4 + 1 := F55.2.1
  have e3 : ρ 2 / 4 < pz_gN (ρ 0) := F55.2.2.1
  have hb1 := hb e3
  rw [e1] at hb1 e2 e3
  obtain ⟨k1, k2⟩ := pz_kd_sg e3 (by rw [hb1]; exact pz_lt_no (by omega)) (by rw [hb1]; exact pz_dg_no (by omega))
  rw [hb1] at k1
  have ec : ρ 3 / 4 = 40 := by omega
  rw [ec] at k1
  replace k1 : pz_kd (pz_gt (ρ 0)) (pz_gN (ρ 0)) (pz_p (pz_cf (pz_gt (ρ 0)) (pz_gN (ρ 0)) (ρ 1 / 4))) = 40 := k1
  exact ⟨by rw [e2, k2], e1, by show ρ 3 / 4 = _; rw [ec, k1], fun z => absurd (show 40 = 2 from ec.symm.trans z) (by decide), F55.2.2.2⟩

theorem axq_ad13_41 : ax_RO ax_wC ax_XC axu_ad13_41 := by
  intro ρ hp hE hT
  have j0 : ρ 0 % 4 = 1 := pz_gj hE 0 (by decide) rfl
  have j1 : ρ 1 % 4 = 1 := pz_gj hE 1 (by decide) rfl
  obtain ⟨i2a, i2b, i2c, i2d⟩ := pz_gi hE 2 2147483648 2147484448 (by decide) rfl
  obtain ⟨i3a, i3b, i3c, i3d⟩ := pz_gi hE 3 2147483689 2147483689 (by decide) rfl
  have c_place : ay_at hp 8 6 = some (ρ 2) := ay_gfj hE 42 24 11 8 6 (by decide) (by rw [ax_vl_c (by decide)]) (by rw [ax_vl_c (by decide)])
  have c_tape : ay_at hp 9 (ρ 2 / 4) = some (ρ 3) := ay_gf hE 46 11 15 9 (by decide) (by rw [ax_vl_c (by decide)])
  obtain ⟨-, -, F30⟩ : ay_ex hp 8 ∧ ay_ex hp 9 ∧ pz_x30 (ρ 0) (ay_at hp 8 1) (ay_at hp 9) := (ax_XF_lt (by decide)).mp (ax_gx hE (30, [3]) (by decide))
  obtain ⟨-, -, -, -, F55⟩ : ay_ex hp 8 ∧ ay_ex hp 10 ∧ ay_ex hp 11 ∧ ay_ex hp 12 ∧ pz_x55 (ρ 0) (ρ 1) (ay_at hp 8 5) (ay_at hp 8 6) (ay_at hp 10 0) (ay_at hp 10 1) (ay_at hp 10 2) (ay_at hp 10 3) (ay_at hp 10 4) (ay_at hp 8 9) (ay_at hp 8 11) (ay_at hp 8 10) (ay_at hp 8 3) (ay_at hp 8 4) (ay_at hp 11) (ay_at hp 12) := (ax_XF_lt (by decide)).mp (ax_gx hE (55, [3, 7]) (by decide))
  rw [c_place] at F55
  refine ⟨(fun y hy => by cases hy), _, List.mem_cons_self, ρ, fun _ _ => rfl, ax_px hE (by decide) (fun y hy => ?_)⟩
  cases List.mem_singleton.mp hy
  refine (ax_XF_wr (x := 50) (by decide)).mpr ?_
  show ay_ex (ax_upd hp 42 28 (ρ 3)) 8 ∧ ay_ex (ax_upd hp 42 28 (ρ 3)) 10 ∧ ay_ex (ax_upd hp 42 28 (ρ 3)) 11 ∧ ay_ex (ax_upd hp 42 28 (ρ 3)) 12 ∧ pz_x50 (ρ 0) (ρ 1) (ay_at (ax_upd hp 42 28 (ρ 3)) 8 5) (ay_at (ax_upd hp 42 28 (ρ 3)) 8 6) (ay_at (ax_upd hp 42 28 (ρ 3)) 8 7) (ay_at (ax_upd hp 42 28 (ρ 3)) 8 8) (ay_at (ax_upd hp 42 28 (ρ 3)) 10 0) (ay_at (ax_upd hp 42 28 (ρ 3)) 10 1) (ay_at (ax_upd hp 42 28 (ρ 3)) 10 2) (ay_at (ax_upd hp 42 28 (ρ 3)) 10 3) (ay_at (ax_upd hp 42 28 (ρ 3)) 10 4) (ay_at (ax_upd hp 42 28 (ρ 3)) 8 9) (ay_at (ax_upd hp 42 28 (ρ 3)) 8 11) (ay_at (ax_upd hp 42 28 (ρ 3)) 8 10) (ay_at (ax_upd hp 42 28 (ρ 3)) 8 3) (ay_at (ax_upd hp 42 28 (ρ 3)) 8 4) (ay_at (ax_upd hp 42 28 (ρ 3)) 11) (ay_at (ax_upd hp 42 28 (ρ 3)) 12)
  obtain ⟨o0, ho0⟩ := ay_some hT (q := 8) (g := 2) (n := 12) rfl rfl (j := 28 / 4) (by decide)
  have u1 : ∀ q, q ≠ 8 → ay_at (ax_upd hp 42 28 (ρ 3)) q = ay_at hp q := fun q hq => funext (fun j => ay_upd_ne hT.1 hq j)
  have u2 : ∀ j, ay_at (ax_upd hp 42 28 (ρ 3)) 8 j = if j = 7 then some (ρ 3) else ay_at hp 8 j := fun j => ay_upd_eq hT.1 rfl ho0 j
  refine ⟨ay_ex_upd hT.1 (ax_cellT hT (q := 8) (g := 2) rfl), ay_ex_upd hT.1 (ax_cellT hT (q := 10) (g := 1) rfl), ay_ex_upd hT.1 (ax_cellT hT (q := 11) (g := 14) rfl), ay_ex_upd hT.1 (ax_cellT hT (q := 12) (g := 15) rfl), ?_⟩
  rw [u2 5, if_neg (show ¬ 5 = 7 by decide), u2 6, if_neg (show ¬ 6 = 7 by decide), u2 7, if_pos rfl, u2 8, if_neg (show ¬ 8 = 7 by decide), u1 10 (by decide), u2 9, if_neg (show ¬ 9 = 7 by decide), u2 11, if_neg (show ¬ 11 = 7 by decide), u2 10, if_neg (show ¬ 10 = 7 by decide), u2 3, if_neg (show ¬ 3 = 7 by decide), u2 4, if_neg (show ¬ 4 = 7 by decide), u1 11 (by decide), u1 12 (by decide)]
  rw [c_place]
  have hb : ρ 2 / 4 < pz_gN (ρ 0) → pz_b (pz_gt (ρ 0)) (ρ 2 / 4) = ρ 3 / 4 := fun hl => by
    have e := F30.2.2 (ρ 2 / 4) hl
    rw [c_tape] at e
    have e := Option.some.inj e
    omega
  have e1 : ρ 2 / 4 = pz_at (pz_gt (ρ 0)) (pz_gN (ρ 0)) (pz_p (pz_cf (pz_gt (ρ 0)) (pz_gN (ρ 0)) (ρ 1 / 4))) := F55.1
  have e2 : ay_ln (ay_at hp 8 5) = ρ 2 / 4 + 1 := F55.2.1
  have e3 : ρ 2 / 4 < pz_gN (ρ 0) := F55.2.2.1
  have hb1 := hb e3
  rw [e1] at hb1 e2 e3
  obtain ⟨k1, k2⟩ := pz_kd_sg e3 (by rw [hb1]; exact pz_lt_no (by omega)) (by rw [hb1]; exact pz_dg_no (by omega))
  rw [hb1] at k1
  have ec : ρ 3 / 4 = 41 := by omega
  rw [ec] at k1
  replace k1 : pz_kd (pz_gt (ρ 0)) (pz_gN (ρ 0)) (pz_p (pz_cf (pz_gt (ρ 0)) (pz_gN (ρ 0)) (ρ 1 / 4))) = 41 := k1
  exact ⟨by rw [e2, k2], e1, by show ρ 3 / 4 = _; rw [ec, k1], fun z => absurd (show 41 = 2 from ec.symm.trans z) (by decide), F55.2.2.2⟩

theorem axq_ad13_43 : ax_RO ax_wC ax_XC axu_ad13_43 := by
  intro ρ hp hE hT
  have j0 : ρ 0 % 4 = 1 := pz_gj hE 0 (by decide) rfl
  have j1 : ρ 1 % 4 = 1 := pz_gj hE 1 (by decide) rfl
  obtain ⟨i2a, i2b, i2c, i2d⟩ := pz_gi hE 2 2147483648 2147484448 (by decide) rfl
  obtain ⟨i3a, i3b, i3c, i3d⟩ := pz_gi hE 3 2147483691 2147483691 (by decide) rfl
  have c_place : ay_at hp 8 6 = some (ρ 2) := ay_gfj hE 42 24 11 8 6 (by decide) (by rw [ax_vl_c (by decide)]) (by rw [ax_vl_c (by decide)])
  have c_tape : ay_at hp 9 (ρ 2 / 4) = some (ρ 3) := ay_gf hE 46 11 15 9 (by decide) (by rw [ax_vl_c (by decide)])
  obtain ⟨-, -, F30⟩ : ay_ex hp 8 ∧ ay_ex hp 9 ∧ pz_x30 (ρ 0) (ay_at hp 8 1) (ay_at hp 9) := (ax_XF_lt (by decide)).mp (ax_gx hE (30, [3]) (by decide))
  obtain ⟨-, -, -, -, F55⟩ : ay_ex hp 8 ∧ ay_ex hp 10 ∧ ay_ex hp 11 ∧ ay_ex hp 12 ∧ pz_x55 (ρ 0) (ρ 1) (ay_at hp 8 5) (ay_at hp 8 6) (ay_at hp 10 0) (ay_at hp 10 1) (ay_at hp 10 2) (ay_at hp 10 3) (ay_at hp 10 4) (ay_at hp 8 9) (ay_at hp 8 11) (ay_at hp 8 10) (ay_at hp 8 3) (ay_at hp 8 4) (ay_at hp 11) (ay_at hp 12) := (ax_XF_lt (by decide)).mp (ax_gx hE (55, [3, 7]) (by decide))
  rw [c_place] at F55
  refine ⟨(fun y hy => by cases hy), _, List.mem_cons_self, ρ, fun _ _ => rfl, ax_px hE (by decide) (fun y hy => ?_)⟩
  cases List.mem_singleton.mp hy
  refine (ax_XF_wr (x := 50) (by decide)).mpr ?_
  show ay_ex (ax_upd hp 42 28 (ρ 3)) 8 ∧ ay_ex (ax_upd hp 42 28 (ρ 3)) 10 ∧ ay_ex (ax_upd hp 42 28 (ρ 3)) 11 ∧ ay_ex (ax_upd hp 42 28 (ρ 3)) 12 ∧ pz_x50 (ρ 0) (ρ 1) (ay_at (ax_upd hp 42 28 (ρ 3)) 8 5) (ay_at (ax_upd hp 42 28 (ρ 3)) 8 6) (ay_at (ax_upd hp 42 28 (ρ 3)) 8 7) (ay_at (ax_upd hp 42 28 (ρ 3)) 8 8) (ay_at (ax_upd hp 42 28 (ρ 3)) 10 0) (ay_at (ax_upd hp 42 28 (ρ 3)) 10 1) (ay_at (ax_upd hp 42 28 (ρ 3)) 10 2) (ay_at (ax_upd hp 42 28 (ρ 3)) 10 3) (ay_at (ax_upd hp 42 28 (ρ 3)) 10 4) (ay_at (ax_upd hp 42 28 (ρ 3)) 8 9) (ay_at (ax_upd hp 42 28 (ρ 3)) 8 11) (ay_at (ax_upd hp 42 28 (ρ 3)) 8 10) (ay_at (ax_upd hp 42 28 (ρ 3)) 8 3) (ay_at (ax_upd hp 42 28 (ρ 3)) 8 4) (ay_at (ax_upd hp 42 28 (ρ 3)) 11) (ay_at (ax_upd hp 42 28 (ρ 3)) 12)
  obtain ⟨o0, ho0⟩ := ay_some hT (q := 8) (g := 2) (n := 12) rfl rfl (j := 28 / 4) (by decide)
  have u1 : ∀ q, q ≠ 8 → ay_at (ax_upd hp 42 28 (ρ 3)) q = ay_at hp q := fun q hq => funext (fun j => ay_upd_ne hT.1 hq j)
  have u2 : ∀ j, ay_at (ax_upd hp 42 28 (ρ 3)) 8 j = if j = 7 then some (ρ 3) else ay_at hp 8 j := fun j => ay_upd_eq hT.1 rfl ho0 j
  refine ⟨ay_ex_upd hT.1 (ax_cellT hT (q := 8) (g := 2) rfl), ay_ex_upd hT.1 (ax_cellT hT (q := 10) (g := 1) rfl), ay_ex_upd hT.1 (ax_cellT hT (q := 11) (g := 14) rfl), ay_ex_upd hT.1 (ax_cellT hT (q := 12) (g := 15) rfl), ?_⟩
  rw [u2 5, if_neg (show ¬ 5 = 7 by decide), u2 6, if_neg (show ¬ 6 = 7 by decide), u2 7, if_pos rfl, u2 8, if_neg (show ¬ 8 = 7 by decide), u1 10 (by decide), u2 9, if_neg (show ¬ 9 = 7 by decide), u2 11, if_neg (show ¬ 11 = 7 by decide), u2 10, if_neg (show ¬ 10 = 7 by decide), u2 3, if_neg (show ¬ 3 = 7 by decide), u2 4, if_neg (show ¬ 4 = 7 by decide), u1 11 (by decide), u1 12 (by decide)]
  rw [c_place]
  have hb : ρ 2 / 4 < pz_gN (ρ 0) → pz_b (pz_gt (ρ 0)) (ρ 2 / 4) = ρ 3 / 4 := fun hl => by
    have e := F30.2.2 (ρ 2 / 4) hl
    rw [c_tape] at e
    have e := Option.some.inj e
    omega
  have e1 : ρ 2 / 4 = pz_at (pz_gt (ρ 0)) (pz_gN (ρ 0)) (pz_p (pz_cf (pz_gt (ρ 0)) (pz_gN (ρ 0)) (ρ 1 / 4))) := F55.1
  have e2 : ay_ln (ay_at hp 8 5) = ρ 2 / 4 + 1 := F55.2.1
  have e3 : ρ 2 / 4 < pz_gN (ρ 0) := F55.2.2.1
  have hb1 := hb e3
  rw [e1] at hb1 e2 e3
  obtain ⟨k1, k2⟩ := pz_kd_sg e3 (by rw [hb1]; exact pz_lt_no (by omega)) (by rw [hb1]; exact pz_dg_no (by omega))
  rw [hb1] at k1
  have ec : ρ 3 / 4 = 43 := by omega
  rw [ec] at k1
  replace k1 : pz_kd (pz_gt (ρ 0)) (pz_gN (ρ 0)) (pz_p (pz_cf (pz_gt (ρ 0)) (pz_gN (ρ 0)) (ρ 1 / 4))) = 43 := k1
  exact ⟨by rw [e2, k2], e1, by show ρ 3 / 4 = _; rw [ec, k1], fun z => absurd (show 43 = 2 from ec.symm.trans z) (by decide), F55.2.2.2⟩

theorem axq_ad13_45 : ax_RO ax_wC ax_XC axu_ad13_45 := by
  intro ρ hp hE hT
  have j0 : ρ 0 % 4 = 1 := pz_gj hE 0 (by decide) rfl
  have j1 : ρ 1 % 4 = 1 := pz_gj hE 1 (by decide) rfl
  obtain ⟨i2a, i2b, i2c, i2d⟩ := pz_gi hE 2 2147483648 2147484448 (by decide) rfl
  obtain ⟨i3a, i3b, i3c, i3d⟩ := pz_gi hE 3 2147483693 2147483693 (by decide) rfl
  have c_place : ay_at hp 8 6 = some (ρ 2) := ay_gfj hE 42 24 11 8 6 (by decide) (by rw [ax_vl_c (by decide)]) (by rw [ax_vl_c (by decide)])
  have c_tape : ay_at hp 9 (ρ 2 / 4) = some (ρ 3) := ay_gf hE 46 11 15 9 (by decide) (by rw [ax_vl_c (by decide)])
  obtain ⟨-, -, F30⟩ : ay_ex hp 8 ∧ ay_ex hp 9 ∧ pz_x30 (ρ 0) (ay_at hp 8 1) (ay_at hp 9) := (ax_XF_lt (by decide)).mp (ax_gx hE (30, [3]) (by decide))
  obtain ⟨-, -, -, -, F55⟩ : ay_ex hp 8 ∧ ay_ex hp 10 ∧ ay_ex hp 11 ∧ ay_ex hp 12 ∧ pz_x55 (ρ 0) (ρ 1) (ay_at hp 8 5) (ay_at hp 8 6) (ay_at hp 10 0) (ay_at hp 10 1) (ay_at hp 10 2) (ay_at hp 10 3) (ay_at hp 10 4) (ay_at hp 8 9) (ay_at hp 8 11) (ay_at hp 8 10) (ay_at hp 8 3) (ay_at hp 8 4) (ay_at hp 11) (ay_at hp 12) := (ax_XF_lt (by decide)).mp (ax_gx hE (55, [3, 7]) (by decide))
  rw [c_place] at F55
  refine ⟨(fun y hy => by cases hy), _, List.mem_cons_self, ρ, fun _ _ => rfl, ax_px hE (by decide) (fun y hy => ?_)⟩
  cases List.mem_singleton.mp hy
  refine (ax_XF_wr (x := 50) (by decide)).mpr ?_
  show ay_ex (ax_upd hp 42 28 (ρ 3)) 8 ∧ ay_ex (ax_upd hp 42 28 (ρ 3)) 10 ∧ ay_ex (ax_upd hp 42 28 (ρ 3)) 11 ∧ ay_ex (ax_upd hp 42 28 (ρ 3)) 12 ∧ pz_x50 (ρ 0) (ρ 1) (ay_at (ax_upd hp 42 28 (ρ 3)) 8 5) (ay_at (ax_upd hp 42 28 (ρ 3)) 8 6) (ay_at (ax_upd hp 42 28 (ρ 3)) 8 7) (ay_at (ax_upd hp 42 28 (ρ 3)) 8 8) (ay_at (ax_upd hp 42 28 (ρ 3)) 10 0) (ay_at (ax_upd hp 42 28 (ρ 3)) 10 1) (ay_at (ax_upd hp 42 28 (ρ 3)) 10 2) (ay_at (ax_upd hp 42 28 (ρ 3)) 10 3) (ay_at (ax_upd hp 42 28 (ρ 3)) 10 4) (ay_at (ax_upd hp 42 28 (ρ 3)) 8 9) (ay_at (ax_upd hp 42 28 (ρ 3)) 8 11) (ay_at (ax_upd hp 42 28 (ρ 3)) 8 10) (ay_at (ax_upd hp 42 28 (ρ 3)) 8 3) (ay_at (ax_upd hp 42 28 (ρ 3)) 8 4) (ay_at (ax_upd hp 42 28 (ρ 3)) 11) (ay_at (ax_upd hp 42 28 (ρ 3)) 12)
  obtain ⟨o0, ho0⟩ := ay_some hT (q := 8) (g := 2) (n := 12) rfl rfl (j := 28 / 4) (by decide)
  have u1 : ∀ q, q ≠ 8 → ay_at (ax_upd hp 42 28 (ρ 3)) q = ay_at hp q := fun q hq => funext (fun j => ay_upd_ne hT.1 hq j)
  have u2 : ∀ j, ay_at (ax_upd hp 42 28 (ρ 3)) 8 j = if j = 7 then some (ρ 3) else ay_at hp 8 j := fun j => ay_upd_eq hT.1 rfl ho0 j
  refine ⟨ay_ex_upd hT.1 (ax_cellT hT (q := 8) (g := 2) rfl), ay_ex_upd hT.1 (ax_cellT hT (q := 10) (g := 1) rfl), ay_ex_upd hT.1 (ax_cellT hT (q := 11) (g := 14) rfl), ay_ex_upd hT.1 (ax_cellT hT (q := 12) (g := 15) rfl), ?_⟩
  rw [u2 5, if_neg (show ¬ 5 = 7 by decide), u2 6, if_neg (show ¬ 6 = 7 by decide), u2 7, if_pos rfl, u2 8, if_neg (show ¬ 8 = 7 by decide), u1 10 (by decide), u2 9, if_neg (show ¬ 9 = 7 by decide), u2 11, if_neg (show ¬ 11 = 7 by decide), u2 10, if_neg (show ¬ 10 = 7 by decide), u2 3, if_neg (show ¬ 3 = 7 by decide), u2 4, if_neg (show ¬ 4 = 7 by decide), u1 11 (by decide), u1 12 (by decide)]
  rw [c_place]
  have hb : ρ 2 / 4 < pz_gN (ρ 0) → pz_b (pz_gt (ρ 0)) (ρ 2 / 4) = ρ 3 / 4 := fun hl => by
    have e := F30.2.2 (ρ 2 / 4) hl
    rw [c_tape] at e
    have e := Option.some.inj e
    omega
  have e1 : ρ 2 / 4 = pz_at (pz_gt (ρ 0)) (pz_gN (ρ 0)) (pz_p (pz_cf (pz_gt (ρ 0)) (pz_gN (ρ 0)) (ρ 1 / 4))) := F55.1
  have e2 : ay_ln (ay_at hp 8 5) = ρ 2 / 4 + 1 := F55.2.1
  have e3 : ρ 2 / 4 < pz_gN (ρ 0) := F55.2.2.1
  have hb1 := hb e3
  rw [e1] at hb1 e2 e3
  obtain ⟨k1, k2⟩ := pz_kd_sg e3 (by rw [hb1]; exact pz_lt_no (by omega)) (by rw [hb1]; exact pz_dg_no (by omega))
  rw [hb1] at k1
  have ec : ρ 3 / 4 = 45 := by omega
  rw [ec] at k1
  replace k1 : pz_kd (pz_gt (ρ 0)) (pz_gN (ρ 0)) (pz_p (pz_cf (pz_gt (ρ 0)) (pz_gN (ρ 0)) (ρ 1 / 4))) = 45 := k1
  exact ⟨by rw [e2, k2], e1, by show ρ 3 / 4 = _; rw [ec, k1], fun z => absurd (show 45 = 2 from ec.symm.trans z) (by decide), F55.2.2.2⟩

theorem axq_ad13_42 : ax_RO ax_wC ax_XC axu_ad13_42 := by
  intro ρ hp hE hT
  have j0 : ρ 0 % 4 = 1 := pz_gj hE 0 (by decide) rfl
  have j1 : ρ 1 % 4 = 1 := pz_gj hE 1 (by decide) rfl
  obtain ⟨i2a, i2b, i2c, i2d⟩ := pz_gi hE 2 2147483648 2147484448 (by decide) rfl
  obtain ⟨i3a, i3b, i3c, i3d⟩ := pz_gi hE 3 2147483690 2147483690 (by decide) rfl
  have c_place : ay_at hp 8 6 = some (ρ 2) := ay_gfj hE 42 24 11 8 6 (by decide) (by rw [ax_vl_c (by decide)]) (by rw [ax_vl_c (by decide)])
  have c_tape : ay_at hp 9 (ρ 2 / 4) = some (ρ 3) := ay_gf hE 46 11 15 9 (by decide) (by rw [ax_vl_c (by decide)])
  obtain ⟨-, -, F30⟩ : ay_ex hp 8 ∧ ay_ex hp 9 ∧ pz_x30 (ρ 0) (ay_at hp 8 1) (ay_at hp 9) := (ax_XF_lt (by decide)).mp (ax_gx hE (30, [3]) (by decide))
  obtain ⟨-, -, -, -, F55⟩ : ay_ex hp 8 ∧ ay_ex hp 10 ∧ ay_ex hp 11 ∧ ay_ex hp 12 ∧ pz_x55 (ρ 0) (ρ 1) (ay_at hp 8 5) (ay_at hp 8 6) (ay_at hp 10 0) (ay_at hp 10 1) (ay_at hp 10 2) (ay_at hp 10 3) (ay_at hp 10 4) (ay_at hp 8 9) (ay_at hp 8 11) (ay_at hp 8 10) (ay_at hp 8 3) (ay_at hp 8 4) (ay_at hp 11) (ay_at hp 12) := (ax_XF_lt (by decide)).mp (ax_gx hE (55, [3, 7]) (by decide))
  rw [c_place] at F55
  refine ⟨(fun y hy => by cases hy), _, List.mem_cons_self, ρ, fun _ _ => rfl, ax_px hE (by decide) (fun y hy => ?_)⟩
  cases List.mem_singleton.mp hy
  refine (ax_XF_wr (x := 50) (by decide)).mpr ?_
  show ay_ex (ax_upd hp 42 28 (ρ 3)) 8 ∧ ay_ex (ax_upd hp 42 28 (ρ 3)) 10 ∧ ay_ex (ax_upd hp 42 28 (ρ 3)) 11 ∧ ay_ex (ax_upd hp 42 28 (ρ 3)) 12 ∧ pz_x50 (ρ 0) (ρ 1) (ay_at (ax_upd hp 42 28 (ρ 3)) 8 5) (ay_at (ax_upd hp 42 28 (ρ 3)) 8 6) (ay_at (ax_upd hp 42 28 (ρ 3)) 8 7) (ay_at (ax_upd hp 42 28 (ρ 3)) 8 8) (ay_at (ax_upd hp 42 28 (ρ 3)) 10 0) (ay_at (ax_upd hp 42 28 (ρ 3)) 10 1) (ay_at (ax_upd hp 42 28 (ρ 3)) 10 2) (ay_at (ax_upd hp 42 28 (ρ 3)) 10 3) (ay_at (ax_upd hp 42 28 (ρ 3)) 10 4) (ay_at (ax_upd hp 42 28 (ρ 3)) 8 9) (ay_at (ax_upd hp 42 28 (ρ 3)) 8 11) (ay_at (ax_upd hp 42 28 (ρ 3)) 8 10) (ay_at (ax_upd hp 42 28 (ρ 3)) 8 3) (ay_at (ax_upd hp 42 28 (ρ 3)) 8 4) (ay_at (ax_upd hp 42 28 (ρ 3)) 11) (ay_at (ax_upd hp 42 28 (ρ 3)) 12)
  obtain ⟨o0, ho0⟩ := ay_some hT (q := 8) (g := 2) (n := 12) rfl rfl (j := 28 / 4) (by decide)
  have u1 : ∀ q, q ≠ 8 → ay_at (ax_upd hp 42 28 (ρ 3)) q = ay_at hp q := fun q hq => funext (fun j => ay_upd_ne hT.1 hq j)
  have u2 : ∀ j, ay_at (ax_upd hp 42 28 (ρ 3)) 8 j = if j = 7 then some (ρ 3) else ay_at hp 8 j := fun j => ay_upd_eq hT.1 rfl ho0 j
  refine ⟨ay_ex_upd hT.1 (ax_cellT hT (q := 8) (g := 2) rfl), ay_ex_upd hT.1 (ax_cellT hT (q := 10) (g := 1) rfl), ay_ex_upd hT.1 (ax_cellT hT (q := 11) (g := 14) rfl), ay_ex_upd hT.1 (ax_cellT hT (q := 12) (g := 15) rfl), ?_⟩
  rw [u2 5, if_neg (show ¬ 5 = 7 by decide), u2 6, if_neg (show ¬ 6 = 7 by decide), u2 7, if_pos rfl, u2 8, if_neg (show ¬ 8 = 7 by decide), u1 10 (by decide), u2 9, if_neg (show ¬ 9 = 7 by decide), u2 11, if_neg (show ¬ 11 = 7 by decide), u2 10, if_neg (show ¬ 10 = 7 by decide), u2 3, if_neg (show ¬ 3 = 7 by decide), u2 4, if_neg (show ¬ 4 = 7 by decide), u1 11 (by decide), u1 12 (by decide)]
  rw [c_place]
  have hb : ρ 2 / 4 < pz_gN (ρ 0) → pz_b (pz_gt (ρ 0)) (ρ 2 / 4) = ρ 3 / 4 := fun hl => by
    have e := F30.2.2 (ρ 2 / 4) hl
    rw [c_tape] at e
    have e := Option.some.inj e
    omega
  have e1 : ρ 2 / 4 = pz_at (pz_gt (ρ 0)) (pz_gN (ρ 0)) (pz_p (pz_cf (pz_gt (ρ 0)) (pz_gN (ρ 0)) (ρ 1 / 4))) := F55.1
  have e2 : ay_ln (ay_at hp 8 5) = ρ 2 / 4 + 1 := F55.2.1
  have e3 : ρ 2 / 4 < pz_gN (ρ 0) := F55.2.2.1
  have hb1 := hb e3
  rw [e1] at hb1 e2 e3
  obtain ⟨k1, k2⟩ := pz_kd_sg e3 (by rw [hb1]; exact pz_lt_no (by omega)) (by rw [hb1]; exact pz_dg_no (by omega))
  rw [hb1] at k1
  have ec : ρ 3 / 4 = 42 := by omega
  rw [ec] at k1
  replace k1 : pz_kd (pz_gt (ρ 0)) (pz_gN (ρ 0)) (pz_p (pz_cf (pz_gt (ρ 0)) (pz_gN (ρ 0)) (ρ 1 / 4))) = 42 := k1
  exact ⟨by rw [e2, k2], e1, by show ρ 3 / 4 = _; rw [ec, k1], fun z => absurd (show 42 = 2 from ec.symm.trans z) (by decide), F55.2.2.2⟩

theorem axq_ad13_47 : ax_RO ax_wC ax_XC axu_ad13_47 := by
  intro ρ hp hE hT
  have j0 : ρ 0 % 4 = 1 := pz_gj hE 0 (by decide) rfl
  have j1 : ρ 1 % 4 = 1 := pz_gj hE 1 (by decide) rfl
  obtain ⟨i2a, i2b, i2c, i2d⟩ := pz_gi hE 2 2147483648 2147484448 (by decide) rfl
  obtain ⟨i3a, i3b, i3c, i3d⟩ := pz_gi hE 3 2147483695 2147483695 (by decide) rfl
  have c_place : ay_at hp 8 6 = some (ρ 2) := ay_gfj hE 42 24 11 8 6 (by decide) (by rw [ax_vl_c (by decide)]) (by rw [ax_vl_c (by decide)])
  have c_tape : ay_at hp 9 (ρ 2 / 4) = some (ρ 3) := ay_gf hE 46 11 15 9 (by decide) (by rw [ax_vl_c (by decide)])
  obtain ⟨-, -, F30⟩ : ay_ex hp 8 ∧ ay_ex hp 9 ∧ pz_x30 (ρ 0) (ay_at hp 8 1) (ay_at hp 9) := (ax_XF_lt (by decide)).mp (ax_gx hE (30, [3]) (by decide))
  obtain ⟨-, -, -, -, F55⟩ : ay_ex hp 8 ∧ ay_ex hp 10 ∧ ay_ex hp 11 ∧ ay_ex hp 12 ∧ pz_x55 (ρ 0) (ρ 1) (ay_at hp 8 5) (ay_at hp 8 6) (ay_at hp 10 0) (ay_at hp 10 1) (ay_at hp 10 2) (ay_at hp 10 3) (ay_at hp 10 4) (ay_at hp 8 9) (ay_at hp 8 11) (ay_at hp 8 10) (ay_at hp 8 3) (ay_at hp 8 4) (ay_at hp 11) (ay_at hp 12) := (ax_XF_lt (by decide)).mp (ax_gx hE (55, [3, 7]) (by decide))
  rw [c_place] at F55
  refine ⟨(fun y hy => by cases hy), _, List.mem_cons_self, ρ, fun _ _ => rfl, ax_px hE (by decide) (fun y hy => ?_)⟩
  cases List.mem_singleton.mp hy
  refine (ax_XF_wr (x := 50) (by decide)).mpr ?_
  show ay_ex (ax_upd hp 42 28 (ρ 3)) 8 ∧ ay_ex (ax_upd hp 42 28 (ρ 3)) 10 ∧ ay_ex (ax_upd hp 42 28 (ρ 3)) 11 ∧ ay_ex (ax_upd hp 42 28 (ρ 3)) 12 ∧ pz_x50 (ρ 0) (ρ 1) (ay_at (ax_upd hp 42 28 (ρ 3)) 8 5) (ay_at (ax_upd hp 42 28 (ρ 3)) 8 6) (ay_at (ax_upd hp 42 28 (ρ 3)) 8 7) (ay_at (ax_upd hp 42 28 (ρ 3)) 8 8) (ay_at (ax_upd hp 42 28 (ρ 3)) 10 0) (ay_at (ax_upd hp 42 28 (ρ 3)) 10 1) (ay_at (ax_upd hp 42 28 (ρ 3)) 10 2) (ay_at (ax_upd hp 42 28 (ρ 3)) 10 3) (ay_at (ax_upd hp 42 28 (ρ 3)) 10 4) (ay_at (ax_upd hp 42 28 (ρ 3)) 8 9) (ay_at (ax_upd hp 42 28 (ρ 3)) 8 11) (ay_at (ax_upd hp 42 28 (ρ 3)) 8 10) (ay_at (ax_upd hp 42 28 (ρ 3)) 8 3) (ay_at (ax_upd hp 42 28 (ρ 3)) 8 4) (ay_at (ax_upd hp 42 28 (ρ 3)) 11) (ay_at (ax_upd hp 42 28 (ρ 3)) 12)
  obtain ⟨o0, ho0⟩ := ay_some hT (q := 8) (g := 2) (n := 12) rfl rfl (j := 28 / 4) (by decide)
  have u1 : ∀ q, q ≠ 8 → ay_at (ax_upd hp 42 28 (ρ 3)) q = ay_at hp q := fun q hq => funext (fun j => ay_upd_ne hT.1 hq j)
  have u2 : ∀ j, ay_at (ax_upd hp 42 28 (ρ 3)) 8 j = if j = 7 then some (ρ 3) else ay_at hp 8 j := fun j => ay_upd_eq hT.1 rfl ho0 j
  refine ⟨ay_ex_upd hT.1 (ax_cellT hT (q := 8) (g := 2) rfl), ay_ex_upd hT.1 (ax_cellT hT (q := 10) (g := 1) rfl), ay_ex_upd hT.1 (ax_cellT hT (q := 11) (g := 14) rfl), ay_ex_upd hT.1 (ax_cellT hT (q := 12) (g := 15) rfl), ?_⟩
  rw [u2 5, if_neg (show ¬ 5 = 7 by decide), u2 6, if_neg (show ¬ 6 = 7 by decide), u2 7, if_pos rfl, u2 8, if_neg (show ¬ 8 = 7 by decide), u1 10 (by decide), u2 9, if_neg (show ¬ 9 = 7 by decide), u2 11, if_neg (show ¬ 11 = 7 by decide), u2 10, if_neg (show ¬ 10 = 7 by decide), u2 3, if_neg (show ¬ 3 = 7 by decide), u2 4, if_neg (show ¬ 4 = 7 by decide), u1 11 (by decide), u1 12 (by decide)]
  rw [c_place]
  have hb : ρ 2 / 4 < pz_gN (ρ 0) → pz_b (pz_gt (ρ 0)) (ρ 2 / 4) = ρ 3 / 4 := fun hl => by
    have e := F30.2.2 (ρ 2 / 4) hl
    rw [c_tape] at e
    have e := Option.some.inj e
    omega
  have e1 : ρ 2 / 4 = pz_at (pz_gt (ρ 0)) (pz_gN (ρ 0)) (pz_p (pz_cf (pz_gt (ρ 0)) (pz_gN (ρ 0)) (ρ 1 / 4))) := F55.1
  have e2 : ay_ln (ay_at hp 8 5) = ρ 2 / 4 + 1 := F55.2.1
  have e3 : ρ 2 / 4 < pz_gN (ρ 0) := F55.2.2.1
  have hb1 := hb e3
  rw [e1] at hb1 e2 e3
  obtain ⟨k1, k2⟩ := pz_kd_sg e3 (by rw [hb1]; exact pz_lt_no (by omega)) (by rw [hb1]; exact pz_dg_no (by omega))
  rw [hb1] at k1
  have ec : ρ 3 / 4 = 47 := by omega
  rw [ec] at k1
  replace k1 : pz_kd (pz_gt (ρ 0)) (pz_gN (ρ 0)) (pz_p (pz_cf (pz_gt (ρ 0)) (pz_gN (ρ 0)) (ρ 1 / 4))) = 47 := k1
  exact ⟨by rw [e2, k2], e1, by show ρ 3 / 4 = _; rw [ec, k1], fun z => absurd (show 47 = 2 from ec.symm.trans z) (by decide), F55.2.2.2⟩

theorem axq_ad13_37 : ax_RO ax_wC ax_XC axu_ad13_37 := by
  intro ρ hp hE hT
  have j0 : ρ 0 % 4 = 1 := pz_gj hE 0 (by decide) rfl
  have j1 : ρ 1 % 4 = 1 := pz_gj hE 1 (by decide) rfl
  obtain ⟨i2a, i2b, i2c, i2d⟩ := pz_gi hE 2 2147483648 2147484448 (by decide) rfl
  obtain ⟨i3a, i3b, i3c, i3d⟩ := pz_gi hE 3 2147483685 2147483685 (by decide) rfl
  have c_place : ay_at hp 8 6 = some (ρ 2) := ay_gfj hE 42 24 11 8 6 (by decide) (by rw [ax_vl_c (by decide)]) (by rw [ax_vl_c (by decide)])
  have c_tape : ay_at hp 9 (ρ 2 / 4) = some (ρ 3) := ay_gf hE 46 11 15 9 (by decide) (by rw [ax_vl_c (by decide)])
  obtain ⟨-, -, F30⟩ : ay_ex hp 8 ∧ ay_ex hp 9 ∧ pz_x30 (ρ 0) (ay_at hp 8 1) (ay_at hp 9) := (ax_XF_lt (by decide)).mp (ax_gx hE (30, [3]) (by decide))
  obtain ⟨-, -, -, -, F55⟩ : ay_ex hp 8 ∧ ay_ex hp 10 ∧ ay_ex hp 11 ∧ ay_ex hp 12 ∧ pz_x55 (ρ 0) (ρ 1) (ay_at hp 8 5) (ay_at hp 8 6) (ay_at hp 10 0) (ay_at hp 10 1) (ay_at hp 10 2) (ay_at hp 10 3) (ay_at hp 10 4) (ay_at hp 8 9) (ay_at hp 8 11) (ay_at hp 8 10) (ay_at hp 8 3) (ay_at hp 8 4) (ay_at hp 11) (ay_at hp 12) := (ax_XF_lt (by decide)).mp (ax_gx hE (55, [3, 7]) (by decide))
  rw [c_place] at F55
  refine ⟨(fun y hy => by cases hy), _, List.mem_cons_self, ρ, fun _ _ => rfl, ax_px hE (by decide) (fun y hy => ?_)⟩
  cases List.mem_singleton.mp hy
  refine (ax_XF_wr (x := 50) (by decide)).mpr ?_
  show ay_ex (ax_upd hp 42 28 (ρ 3)) 8 ∧ ay_ex (ax_upd hp 42 28 (ρ 3)) 10 ∧ ay_ex (ax_upd hp 42 28 (ρ 3)) 11 ∧ ay_ex (ax_upd hp 42 28 (ρ 3)) 12 ∧ pz_x50 (ρ 0) (ρ 1) (ay_at (ax_upd hp 42 28 (ρ 3)) 8 5) (ay_at (ax_upd hp 42 28 (ρ 3)) 8 6) (ay_at (ax_upd hp 42 28 (ρ 3)) 8 7) (ay_at (ax_upd hp 42 28 (ρ 3)) 8 8) (ay_at (ax_upd hp 42 28 (ρ 3)) 10 0) (ay_at (ax_upd hp 42 28 (ρ 3)) 10 1) (ay_at (ax_upd hp 42 28 (ρ 3)) 10 2) (ay_at (ax_upd hp 42 28 (ρ 3)) 10 3) (ay_at (ax_upd hp 42 28 (ρ 3)) 10 4) (ay_at (ax_upd hp 42 28 (ρ 3)) 8 9) (ay_at (ax_upd hp 42 28 (ρ 3)) 8 11) (ay_at (ax_upd hp 42 28 (ρ 3)) 8 10) (ay_at (ax_upd hp 42 28 (ρ 3)) 8 3) (ay_at (ax_upd hp 42 28 (ρ 3)) 8 4) (ay_at (ax_upd hp 42 28 (ρ 3)) 11) (ay_at (ax_upd hp 42 28 (ρ 3)) 12)
  obtain ⟨o0, ho0⟩ := ay_some hT (q := 8) (g := 2) (n := 12) rfl rfl (j := 28 / 4) (by decide)
  have u1 : ∀ q, q ≠ 8 → ay_at (ax_upd hp 42 28 (ρ 3)) q = ay_at hp q := fun q hq => funext (fun j => ay_upd_ne hT.1 hq j)
  have u2 : ∀ j, ay_at (ax_upd hp 42 28 (ρ 3)) 8 j = if j = 7 then some (ρ 3) else ay_at hp 8 j := fun j => ay_upd_eq hT.1 rfl ho0 j
  refine ⟨ay_ex_upd hT.1 (ax_cellT hT (q := 8) (g := 2) rfl), ay_ex_upd hT.1 (ax_cellT hT (q := 10) (g := 1) rfl), ay_ex_upd hT.1 (ax_cellT hT (q := 11) (g := 14) rfl), ay_ex_upd hT.1 (ax_cellT hT (q := 12) (g := 15) rfl), ?_⟩
  rw [u2 5, if_neg (show ¬ 5 = 7 by decide), u2 6, if_neg (show ¬ 6 = 7 by decide), u2 7, if_pos rfl, u2 8, if_neg (show ¬ 8 = 7 by decide), u1 10 (by decide), u2 9, if_neg (show ¬ 9 = 7 by decide), u2 11, if_neg (show ¬ 11 = 7 by decide), u2 10, if_neg (show ¬ 10 = 7 by decide), u2 3, if_neg (show ¬ 3 = 7 by decide), u2 4, if_neg (show ¬ 4 = 7 by decide), u1 11 (by decide), u1 12 (by decide)]
  rw [c_place]
  have hb : ρ 2 / 4 < pz_gN (ρ 0) → pz_b (pz_gt (ρ 0)) (ρ 2 / 4) = ρ 3 / 4 := fun hl => by
    have e := F30.2.2 (ρ 2 / 4) hl
    rw [c_tape] at e
    have e := Option.some.inj e
    omega
  have e1 : ρ 2 / 4 = pz_at (pz_gt (ρ 0)) (pz_gN (ρ 0)) (pz_p (pz_cf (pz_gt (ρ 0)) (pz_gN (ρ 0)) (ρ 1 / 4))) := F55.1
  have e2 : ay_ln (ay_at hp 8 5) = ρ 2 / 4 + 1 := F55.2.1
  have e3 : ρ 2 / 4 < pz_gN (ρ 0) := F55.2.2.1
  have hb1 := hb e3
  rw [e1] at hb1 e2 e3
  obtain ⟨k1, k2⟩ := pz_kd_sg e3 (by rw [hb1]; exact pz_lt_no (by omega)) (by rw [hb1]; exact pz_dg_no (by omega))
  rw [hb1] at k1
  have ec : ρ 3 / 4 = 37 := by omega
  rw [ec] at k1
  replace k1 : pz_kd (pz_gt (ρ 0)) (pz_gN (ρ 0)) (pz_p (pz_cf (pz_gt (ρ 0)) (pz_gN (ρ 0)) (ρ 1 / 4))) = 37 := k1
  exact ⟨by rw [e2, k2], e1, by show ρ 3 / 4 = _; rw [ec, k1], fun z => absurd (show 37 = 2 from ec.symm.trans z) (by decide), F55.2.2.2⟩

theorem axq_ad14_a : ax_RO ax_wC ax_XC axu_ad14_a := by
  intro ρ hp hE hT
  have j0 : ρ 0 % 4 = 1 := pz_gj hE 0 (by decide) rfl
  have j1 : ρ 1 % 4 = 1 := pz_gj hE 1 (by decide) rfl
  obtain ⟨i2a, i2b, i2c, i2d⟩ := pz_gi hE 2 2147483648 2147484448 (by decide) rfl
  obtain ⟨i3a, i3b, i3c, i3d⟩ := pz_gi hE 3 2147483520 2147483684 (by decide) rfl
  have c_place : ay_at hp 8 6 = some (ρ 2) := ay_gfj hE 42 24 11 8 6 (by decide) (by rw [ax_vl_c (by decide)]) (by rw [ax_vl_c (by decide)])
  have c_tape : ay_at hp 9 (ρ 2 / 4) = some (ρ 3) := ay_gf hE 46 11 15 9 (by decide) (by rw [ax_vl_c (by decide)])
  obtain ⟨-, -, F30⟩ : ay_ex hp 8 ∧ ay_ex hp 9 ∧ pz_x30 (ρ 0) (ay_at hp 8 1) (ay_at hp 9) := (ax_XF_lt (by decide)).mp (ax_gx hE (30, [3]) (by decide))
  obtain ⟨-, -, -, -, F55⟩ : ay_ex hp 8 ∧ ay_ex hp 10 ∧ ay_ex hp 11 ∧ ay_ex hp 12 ∧ pz_x55 (ρ 0) (ρ 1) (ay_at hp 8 5) (ay_at hp 8 6) (ay_at hp 10 0) (ay_at hp 10 1) (ay_at hp 10 2) (ay_at hp 10 3) (ay_at hp 10 4) (ay_at hp 8 9) (ay_at hp 8 11) (ay_at hp 8 10) (ay_at hp 8 3) (ay_at hp 8 4) (ay_at hp 11) (ay_at hp 12) := (ax_XF_lt (by decide)).mp (ax_gx hE (55, [3, 7]) (by decide))
  rw [c_place] at F55
  refine ⟨(fun y hy => by cases hy), _, List.mem_cons_self, ρ, fun _ _ => rfl, ax_px hE (by decide) (fun y hy => ?_)⟩
  cases List.mem_singleton.mp hy
  refine (ax_XF_wr (x := 50) (by decide)).mpr ?_
  show ay_ex (ax_upd hp 42 28 (12)) 8 ∧ ay_ex (ax_upd hp 42 28 (12)) 10 ∧ ay_ex (ax_upd hp 42 28 (12)) 11 ∧ ay_ex (ax_upd hp 42 28 (12)) 12 ∧ pz_x50 (ρ 0) (ρ 1) (ay_at (ax_upd hp 42 28 (12)) 8 5) (ay_at (ax_upd hp 42 28 (12)) 8 6) (ay_at (ax_upd hp 42 28 (12)) 8 7) (ay_at (ax_upd hp 42 28 (12)) 8 8) (ay_at (ax_upd hp 42 28 (12)) 10 0) (ay_at (ax_upd hp 42 28 (12)) 10 1) (ay_at (ax_upd hp 42 28 (12)) 10 2) (ay_at (ax_upd hp 42 28 (12)) 10 3) (ay_at (ax_upd hp 42 28 (12)) 10 4) (ay_at (ax_upd hp 42 28 (12)) 8 9) (ay_at (ax_upd hp 42 28 (12)) 8 11) (ay_at (ax_upd hp 42 28 (12)) 8 10) (ay_at (ax_upd hp 42 28 (12)) 8 3) (ay_at (ax_upd hp 42 28 (12)) 8 4) (ay_at (ax_upd hp 42 28 (12)) 11) (ay_at (ax_upd hp 42 28 (12)) 12)
  obtain ⟨o0, ho0⟩ := ay_some hT (q := 8) (g := 2) (n := 12) rfl rfl (j := 28 / 4) (by decide)
  have u1 : ∀ q, q ≠ 8 → ay_at (ax_upd hp 42 28 (12)) q = ay_at hp q := fun q hq => funext (fun j => ay_upd_ne hT.1 hq j)
  have u2 : ∀ j, ay_at (ax_upd hp 42 28 (12)) 8 j = if j = 7 then some (12) else ay_at hp 8 j := fun j => ay_upd_eq hT.1 rfl ho0 j
  refine ⟨ay_ex_upd hT.1 (ax_cellT hT (q := 8) (g := 2) rfl), ay_ex_upd hT.1 (ax_cellT hT (q := 10) (g := 1) rfl), ay_ex_upd hT.1 (ax_cellT hT (q := 11) (g := 14) rfl), ay_ex_upd hT.1 (ax_cellT hT (q := 12) (g := 15) rfl), ?_⟩
  rw [u2 5, if_neg (show ¬ 5 = 7 by decide), u2 6, if_neg (show ¬ 6 = 7 by decide), u2 7, if_pos rfl, u2 8, if_neg (show ¬ 8 = 7 by decide), u1 10 (by decide), u2 9, if_neg (show ¬ 9 = 7 by decide), u2 11, if_neg (show ¬ 11 = 7 by decide), u2 10, if_neg (show ¬ 10 = 7 by decide), u2 3, if_neg (show ¬ 3 = 7 by decide), u2 4, if_neg (show ¬ 4 = 7 by decide), u1 11 (by decide), u1 12 (by decide)]
  rw [c_place]
  have hb : ρ 2 / 4 < pz_gN (ρ 0) → pz_b (pz_gt (ρ 0)) (ρ 2 / 4) = ρ 3 / 4 := fun hl => by
    have e := F30.2.2 (ρ 2 / 4) hl
    rw [c_tape] at e
    have e := Option.some.inj e
    omega
  have e1 : ρ 2 / 4 = pz_at (pz_gt (ρ 0)) (pz_gN (ρ 0)) (pz_p (pz_cf (pz_gt (ρ 0)) (pz_gN (ρ 0)) (ρ 1 / 4))) := F55.1
  have e2 : ay_ln (ay_at hp 8 5) = ρ 2 / 4 + 1 := F55.2.1
  have e3 : ρ 2 / 4 < pz_gN (ρ 0) := F55.2.2.1
  have hb1 := hb e3
  rw [e1] at hb1 e2 e3
  obtain ⟨k1, k2⟩ := pz_kd_sg e3 (by rw [hb1]; exact pz_lt_no (by omega)) (by rw [hb1]; exact pz_dg_no (by omega))
  rw [hb1] at k1
  rw [pz_sg_no (by omega) (by omega) (by omega) (by omega) (by omega) (by omega) (by omega) (by omega)] at k1
  replace k1 : pz_kd (pz_gt (ρ 0)) (pz_gN (ρ 0)) (pz_p (pz_cf (pz_gt (ρ 0)) (pz_gN (ρ 0)) (ρ 1 / 4))) = 3 := k1
  exact ⟨by rw [e2, k2], e1, by show 3 = _; rw [k1], fun z => absurd (show 3 = 2 from z) (by decide), F55.2.2.2⟩

theorem axq_ad14_b : ax_RO ax_wC ax_XC axu_ad14_b := by
  intro ρ hp hE hT
  have j0 : ρ 0 % 4 = 1 := pz_gj hE 0 (by decide) rfl
  have j1 : ρ 1 % 4 = 1 := pz_gj hE 1 (by decide) rfl
  obtain ⟨i2a, i2b, i2c, i2d⟩ := pz_gi hE 2 2147483648 2147484448 (by decide) rfl
  obtain ⟨i3a, i3b, i3c, i3d⟩ := pz_gi hE 3 2147483686 2147483687 (by decide) rfl
  have c_place : ay_at hp 8 6 = some (ρ 2) := ay_gfj hE 42 24 11 8 6 (by decide) (by rw [ax_vl_c (by decide)]) (by rw [ax_vl_c (by decide)])
  have c_tape : ay_at hp 9 (ρ 2 / 4) = some (ρ 3) := ay_gf hE 46 11 15 9 (by decide) (by rw [ax_vl_c (by decide)])
  obtain ⟨-, -, F30⟩ : ay_ex hp 8 ∧ ay_ex hp 9 ∧ pz_x30 (ρ 0) (ay_at hp 8 1) (ay_at hp 9) := (ax_XF_lt (by decide)).mp (ax_gx hE (30, [3]) (by decide))
  obtain ⟨-, -, -, -, F55⟩ : ay_ex hp 8 ∧ ay_ex hp 10 ∧ ay_ex hp 11 ∧ ay_ex hp 12 ∧ pz_x55 (ρ 0) (ρ 1) (ay_at hp 8 5) (ay_at hp 8 6) (ay_at hp 10 0) (ay_at hp 10 1) (ay_at hp 10 2) (ay_at hp 10 3) (ay_at hp 10 4) (ay_at hp 8 9) (ay_at hp 8 11) (ay_at hp 8 10) (ay_at hp 8 3) (ay_at hp 8 4) (ay_at hp 11) (ay_at hp 12) := (ax_XF_lt (by decide)).mp (ax_gx hE (55, [3, 7]) (by decide))
  rw [c_place] at F55
  refine ⟨(fun y hy => by cases hy), _, List.mem_cons_self, ρ, fun _ _ => rfl, ax_px hE (by decide) (fun y hy => ?_)⟩
  cases List.mem_singleton.mp hy
  refine (ax_XF_wr (x := 50) (by decide)).mpr ?_
  show ay_ex (ax_upd hp 42 28 (12)) 8 ∧ ay_ex (ax_upd hp 42 28 (12)) 10 ∧ ay_ex (ax_upd hp 42 28 (12)) 11 ∧ ay_ex (ax_upd hp 42 28 (12)) 12 ∧ pz_x50 (ρ 0) (ρ 1) (ay_at (ax_upd hp 42 28 (12)) 8 5) (ay_at (ax_upd hp 42 28 (12)) 8 6) (ay_at (ax_upd hp 42 28 (12)) 8 7) (ay_at (ax_upd hp 42 28 (12)) 8 8) (ay_at (ax_upd hp 42 28 (12)) 10 0) (ay_at (ax_upd hp 42 28 (12)) 10 1) (ay_at (ax_upd hp 42 28 (12)) 10 2) (ay_at (ax_upd hp 42 28 (12)) 10 3) (ay_at (ax_upd hp 42 28 (12)) 10 4) (ay_at (ax_upd hp 42 28 (12)) 8 9) (ay_at (ax_upd hp 42 28 (12)) 8 11) (ay_at (ax_upd hp 42 28 (12)) 8 10) (ay_at (ax_upd hp 42 28 (12)) 8 3) (ay_at (ax_upd hp 42 28 (12)) 8 4) (ay_at (ax_upd hp 42 28 (12)) 11) (ay_at (ax_upd hp 42 28 (12)) 12)
  obtain ⟨o0, ho0⟩ := ay_some hT (q := 8) (g := 2) (n := 12) rfl rfl (j := 28 / 4) (by decide)
  have u1 : ∀ q, q ≠ 8 → ay_at (ax_upd hp 42 28 (12)) q = ay_at hp q := fun q hq => funext (fun j => ay_upd_ne hT.1 hq j)
  have u2 : ∀ j, ay_at (ax_upd hp 42 28 (12)) 8 j = if j = 7 then some (12) else ay_at hp 8 j := fun j => ay_upd_eq hT.1 rfl ho0 j
  refine ⟨ay_ex_upd hT.1 (ax_cellT hT (q := 8) (g := 2) rfl), ay_ex_upd hT.1 (ax_cellT hT (q := 10) (g := 1) rfl), ay_ex_upd hT.1 (ax_cellT hT (q := 11) (g := 14) rfl), ay_ex_upd hT.1 (ax_cellT hT (q := 12) (g := 15) rfl), ?_⟩
  rw [u2 5, if_neg (show ¬ 5 = 7 by decide), u2 6, if_neg (show ¬ 6 = 7 by decide), u2 7, if_pos rfl, u2 8, if_neg (show ¬ 8 = 7 by decide), u1 10 (by decide), u2 9, if_neg (show ¬ 9 = 7 by decide), u2 11, if_neg (show ¬ 11 = 7 by decide), u2 10, if_neg (show ¬ 10 = 7 by decide), u2 3, if_neg (show ¬ 3 = 7 by decide), u2 4, if_neg (show ¬ 4 = 7 by decide), u1 11 (by decide), u1 12 (by decide)]
  rw [c_place]
  have hb : ρ 2 / 4 < pz_gN (ρ 0) → pz_b (pz_gt (ρ 0)) (ρ 2 / 4) = ρ 3 / 4 := fun hl => by
    have e := F30.2.2 (ρ 2 / 4) hl
    rw [c_tape] at e
    have e := Option.some.inj e
    omega
  have e1 : ρ 2 / 4 = pz_at (pz_gt (ρ 0)) (pz_gN (ρ 0)) (pz_p (pz_cf (pz_gt (ρ 0)) (pz_gN (ρ 0)) (ρ 1 / 4))) := F55.1
  have e2 : ay_ln (ay_at hp 8 5) = ρ 2 / 4 + 1 := F55.2.1
  have e3 : ρ 2 / 4 < pz_gN (ρ 0) := F55.2.2.1
  have hb1 := hb e3
  rw [e1] at hb1 e2 e3
  obtain ⟨k1, k2⟩ := pz_kd_sg e3 (by rw [hb1]; exact pz_lt_no (by omega)) (by rw [hb1]; exact pz_dg_no (by omega))
  rw [hb1] at k1
  rw [pz_sg_no (by omega) (by omega) (by omega) (by omega) (by omega) (by omega) (by omega) (by omega)] at k1
  replace k1 : pz_kd (pz_gt (ρ 0)) (pz_gN (ρ 0)) (pz_p (pz_cf (pz_gt (ρ 0)) (pz_gN (ρ 0)) (ρ 1 / 4))) = 3 := k1
  exact ⟨by rw [e2, k2], e1, by show 3 = _; rw [k1], fun z => absurd (show 3 = 2 from z) (by decide), F55.2.2.2⟩

theorem axq_ad14_c : ax_RO ax_wC ax_XC axu_ad14_c := by
  intro ρ hp hE hT
  have j0 : ρ 0 % 4 = 1 := pz_gj hE 0 (by decide) rfl
  have j1 : ρ 1 % 4 = 1 := pz_gj hE 1 (by decide) rfl
  obtain ⟨i2a, i2b, i2c, i2d⟩ := pz_gi hE 2 2147483648 2147484448 (by decide) rfl
  obtain ⟨i3a, i3b, i3c, i3d⟩ := pz_gi hE 3 2147483692 2147483692 (by decide) rfl
  have c_place : ay_at hp 8 6 = some (ρ 2) := ay_gfj hE 42 24 11 8 6 (by decide) (by rw [ax_vl_c (by decide)]) (by rw [ax_vl_c (by decide)])
  have c_tape : ay_at hp 9 (ρ 2 / 4) = some (ρ 3) := ay_gf hE 46 11 15 9 (by decide) (by rw [ax_vl_c (by decide)])
  obtain ⟨-, -, F30⟩ : ay_ex hp 8 ∧ ay_ex hp 9 ∧ pz_x30 (ρ 0) (ay_at hp 8 1) (ay_at hp 9) := (ax_XF_lt (by decide)).mp (ax_gx hE (30, [3]) (by decide))
  obtain ⟨-, -, -, -, F55⟩ : ay_ex hp 8 ∧ ay_ex hp 10 ∧ ay_ex hp 11 ∧ ay_ex hp 12 ∧ pz_x55 (ρ 0) (ρ 1) (ay_at hp 8 5) (ay_at hp 8 6) (ay_at hp 10 0) (ay_at hp 10 1) (ay_at hp 10 2) (ay_at hp 10 3) (ay_at hp 10 4) (ay_at hp 8 9) (ay_at hp 8 11) (ay_at hp 8 10) (ay_at hp 8 3) (ay_at hp 8 4) (ay_at hp 11) (ay_at hp 12) := (ax_XF_lt (by decide)).mp (ax_gx hE (55, [3, 7]) (by decide))
  rw [c_place] at F55
  refine ⟨(fun y hy => by cases hy), _, List.mem_cons_self, ρ, fun _ _ => rfl, ax_px hE (by decide) (fun y hy => ?_)⟩
  cases List.mem_singleton.mp hy
  refine (ax_XF_wr (x := 50) (by decide)).mpr ?_
  show ay_ex (ax_upd hp 42 28 (12)) 8 ∧ ay_ex (ax_upd hp 42 28 (12)) 10 ∧ ay_ex (ax_upd hp 42 28 (12)) 11 ∧ ay_ex (ax_upd hp 42 28 (12)) 12 ∧ pz_x50 (ρ 0) (ρ 1) (ay_at (ax_upd hp 42 28 (12)) 8 5) (ay_at (ax_upd hp 42 28 (12)) 8 6) (ay_at (ax_upd hp 42 28 (12)) 8 7) (ay_at (ax_upd hp 42 28 (12)) 8 8) (ay_at (ax_upd hp 42 28 (12)) 10 0) (ay_at (ax_upd hp 42 28 (12)) 10 1) (ay_at (ax_upd hp 42 28 (12)) 10 2) (ay_at (ax_upd hp 42 28 (12)) 10 3) (ay_at (ax_upd hp 42 28 (12)) 10 4) (ay_at (ax_upd hp 42 28 (12)) 8 9) (ay_at (ax_upd hp 42 28 (12)) 8 11) (ay_at (ax_upd hp 42 28 (12)) 8 10) (ay_at (ax_upd hp 42 28 (12)) 8 3) (ay_at (ax_upd hp 42 28 (12)) 8 4) (ay_at (ax_upd hp 42 28 (12)) 11) (ay_at (ax_upd hp 42 28 (12)) 12)
  obtain ⟨o0, ho0⟩ := ay_some hT (q := 8) (g := 2) (n := 12) rfl rfl (j := 28 / 4) (by decide)
  have u1 : ∀ q, q ≠ 8 → ay_at (ax_upd hp 42 28 (12)) q = ay_at hp q := fun q hq => funext (fun j => ay_upd_ne hT.1 hq j)
  have u2 : ∀ j, ay_at (ax_upd hp 42 28 (12)) 8 j = if j = 7 then some (12) else ay_at hp 8 j := fun j => ay_upd_eq hT.1 rfl ho0 j
  refine ⟨ay_ex_upd hT.1 (ax_cellT hT (q := 8) (g := 2) rfl), ay_ex_upd hT.1 (ax_cellT hT (q := 10) (g := 1) rfl), ay_ex_upd hT.1 (ax_cellT hT (q := 11) (g := 14) rfl), ay_ex_upd hT.1 (ax_cellT hT (q := 12) (g := 15) rfl), ?_⟩
  rw [u2 5, if_neg (show ¬ 5 = 7 by decide), u2 6, if_neg (show ¬ 6 = 7 by decide), u2 7, if_pos rfl, u2 8, if_neg (show ¬ 8 = 7 by decide), u1 10 (by decide), u2 9, if_neg (show ¬ 9 = 7 by decide), u2 11, if_neg (show ¬ 11 = 7 by decide), u2 10, if_neg (show ¬ 10 = 7 by decide), u2 3, if_neg (show ¬ 3 = 7 by decide), u2 4, if_neg (show ¬ 4 = 7 by decide), u1 11 (by decide), u1 12 (by decide)]
  rw [c_place]
  have hb : ρ 2 / 4 < pz_gN (ρ 0) → pz_b (pz_gt (ρ 0)) (ρ 2 / 4) = ρ 3 / 4 := fun hl => by
    have e := F30.2.2 (ρ 2 / 4) hl
    rw [c_tape] at e
    have e := Option.some.inj e
    omega
  have e1 : ρ 2 / 4 = pz_at (pz_gt (ρ 0)) (pz_gN (ρ 0)) (pz_p (pz_cf (pz_gt (ρ 0)) (pz_gN (ρ 0)) (ρ 1 / 4))) := F55.1
  have e2 : ay_ln (ay_at hp 8 5) = ρ 2 / 4 + 1 := F55.2.1
  have e3 : ρ 2 / 4 < pz_gN (ρ 0) := F55.2.2.1
  have hb1 := hb e3
  rw [e1] at hb1 e2 e3
  obtain ⟨k1, k2⟩ := pz_kd_sg e3 (by rw [hb1]; exact pz_lt_no (by omega)) (by rw [hb1]; exact pz_dg_no (by omega))
  rw [hb1] at k1
  rw [pz_sg_no (by omega) (by omega) (by omega) (by omega) (by omega) (by omega) (by omega) (by omega)] at k1
  replace k1 : pz_kd (pz_gt (ρ 0)) (pz_gN (ρ 0)) (pz_p (pz_cf (pz_gt (ρ 0)) (pz_gN (ρ 0)) (ρ 1 / 4))) = 3 := k1
  exact ⟨by rw [e2, k2], e1, by show 3 = _; rw [k1], fun z => absurd (show 3 = 2 from z) (by decide), F55.2.2.2⟩

theorem axq_ad14_d : ax_RO ax_wC ax_XC axu_ad14_d := by
  intro ρ hp hE hT
  have j0 : ρ 0 % 4 = 1 := pz_gj hE 0 (by decide) rfl
  have j1 : ρ 1 % 4 = 1 := pz_gj hE 1 (by decide) rfl
  obtain ⟨i2a, i2b, i2c, i2d⟩ := pz_gi hE 2 2147483648 2147484448 (by decide) rfl
  obtain ⟨i3a, i3b, i3c, i3d⟩ := pz_gi hE 3 2147483694 2147483694 (by decide) rfl
  have c_place : ay_at hp 8 6 = some (ρ 2) := ay_gfj hE 42 24 11 8 6 (by decide) (by rw [ax_vl_c (by decide)]) (by rw [ax_vl_c (by decide)])
  have c_tape : ay_at hp 9 (ρ 2 / 4) = some (ρ 3) := ay_gf hE 46 11 15 9 (by decide) (by rw [ax_vl_c (by decide)])
  obtain ⟨-, -, F30⟩ : ay_ex hp 8 ∧ ay_ex hp 9 ∧ pz_x30 (ρ 0) (ay_at hp 8 1) (ay_at hp 9) := (ax_XF_lt (by decide)).mp (ax_gx hE (30, [3]) (by decide))
  obtain ⟨-, -, -, -, F55⟩ : ay_ex hp 8 ∧ ay_ex hp 10 ∧ ay_ex hp 11 ∧ ay_ex hp 12 ∧ pz_x55 (ρ 0) (ρ 1) (ay_at hp 8 5) (ay_at hp 8 6) (ay_at hp 10 0) (ay_at hp 10 1) (ay_at hp 10 2) (ay_at hp 10 3) (ay_at hp 10 4) (ay_at hp 8 9) (ay_at hp 8 11) (ay_at hp 8 10) (ay_at hp 8 3) (ay_at hp 8 4) (ay_at hp 11) (ay_at hp 12) := (ax_XF_lt (by decide)).mp (ax_gx hE (55, [3, 7]) (by decide))
  rw [c_place] at F55
  refine ⟨(fun y hy => by cases hy), _, List.mem_cons_self, ρ, fun _ _ => rfl, ax_px hE (by decide) (fun y hy => ?_)⟩
  cases List.mem_singleton.mp hy
  refine (ax_XF_wr (x := 50) (by decide)).mpr ?_
  show ay_ex (ax_upd hp 42 28 (12)) 8 ∧ ay_ex (ax_upd hp 42 28 (12)) 10 ∧ ay_ex (ax_upd hp 42 28 (12)) 11 ∧ ay_ex (ax_upd hp 42 28 (12)) 12 ∧ pz_x50 (ρ 0) (ρ 1) (ay_at (ax_upd hp 42 28 (12)) 8 5) (ay_at (ax_upd hp 42 28 (12)) 8 6) (ay_at (ax_upd hp 42 28 (12)) 8 7) (ay_at (ax_upd hp 42 28 (12)) 8 8) (ay_at (ax_upd hp 42 28 (12)) 10 0) (ay_at (ax_upd hp 42 28 (12)) 10 1) (ay_at (ax_upd hp 42 28 (12)) 10 2) (ay_at (ax_upd hp 42 28 (12)) 10 3) (ay_at (ax_upd hp 42 28 (12)) 10 4) (ay_at (ax_upd hp 42 28 (12)) 8 9) (ay_at (ax_upd hp 42 28 (12)) 8 11) (ay_at (ax_upd hp 42 28 (12)) 8 10) (ay_at (ax_upd hp 42 28 (12)) 8 3) (ay_at (ax_upd hp 42 28 (12)) 8 4) (ay_at (ax_upd hp 42 28 (12)) 11) (ay_at (ax_upd hp 42 28 (12)) 12)
  obtain ⟨o0, ho0⟩ := ay_some hT (q := 8) (g := 2) (n := 12) rfl rfl (j := 28 / 4) (by decide)
  have u1 : ∀ q, q ≠ 8 → ay_at (ax_upd hp 42 28 (12)) q = ay_at hp q := fun q hq => funext (fun j => ay_upd_ne hT.1 hq j)
  have u2 : ∀ j, ay_at (ax_upd hp 42 28 (12)) 8 j = if j = 7 then some (12) else ay_at hp 8 j := fun j => ay_upd_eq hT.1 rfl ho0 j
  refine ⟨ay_ex_upd hT.1 (ax_cellT hT (q := 8) (g := 2) rfl), ay_ex_upd hT.1 (ax_cellT hT (q := 10) (g := 1) rfl), ay_ex_upd hT.1 (ax_cellT hT (q := 11) (g := 14) rfl), ay_ex_upd hT.1 (ax_cellT hT (q := 12) (g := 15) rfl), ?_⟩
  rw [u2 5, if_neg (show ¬ 5 = 7 by decide), u2 6, if_neg (show ¬ 6 = 7 by decide), u2 7, if_pos rfl, u2 8, if_neg (show ¬ 8 = 7 by decide), u1 10 (by decide), u2 9, if_neg (show ¬ 9 = 7 by decide), u2 11, if_neg (show ¬ 11 = 7 by decide), u2 10, if_neg (show ¬ 10 = 7 by decide), u2 3, if_neg (show ¬ 3 = 7 by decide), u2 4, if_neg (show ¬ 4 = 7 by decide), u1 11 (by decide), u1 12 (by decide)]
  rw [c_place]
  have hb : ρ 2 / 4 < pz_gN (ρ 0) → pz_b (pz_gt (ρ 0)) (ρ 2 / 4) = ρ 3 / 4 := fun hl => by
    have e := F30.2.2 (ρ 2 / 4) hl
    rw [c_tape] at e
    have e := Option.some.inj e
    omega
  have e1 : ρ 2 / 4 = pz_at (pz_gt (ρ 0)) (pz_gN (ρ 0)) (pz_p (pz_cf (pz_gt (ρ 0)) (pz_gN (ρ 0)) (ρ 1 / 4))) := F55.1
  have e2 : ay_ln (ay_at hp 8 5) = ρ 2 / 4 + 1 := F55.2.1
  have e3 : ρ 2 / 4 < pz_gN (ρ 0) := F55.2.2.1
  have hb1 := hb e3
  rw [e1] at hb1 e2 e3
  obtain ⟨k1, k2⟩ := pz_kd_sg e3 (by rw [hb1]; exact pz_lt_no (by omega)) (by rw [hb1]; exact pz_dg_no (by omega))
  rw [hb1] at k1
  rw [pz_sg_no (by omega) (by omega) (by omega) (by omega) (by omega) (by omega) (by omega) (by omega)] at k1
  replace k1 : pz_kd (pz_gt (ρ 0)) (pz_gN (ρ 0)) (pz_p (pz_cf (pz_gt (ρ 0)) (pz_gN (ρ 0)) (ρ 1 / 4))) = 3 := k1
  exact ⟨by rw [e2, k2], e1, by show 3 = _; rw [k1], fun z => absurd (show 3 = 2 from z) (by decide), F55.2.2.2⟩

theorem axq_ad14_e : ax_RO ax_wC ax_XC axu_ad14_e := by
  intro ρ hp hE hT
  have j0 : ρ 0 % 4 = 1 := pz_gj hE 0 (by decide) rfl
  have j1 : ρ 1 % 4 = 1 := pz_gj hE 1 (by decide) rfl
  obtain ⟨i2a, i2b, i2c, i2d⟩ := pz_gi hE 2 2147483648 2147484448 (by decide) rfl
  obtain ⟨i3a, i3b, i3c, i3d⟩ := pz_gi hE 3 2147483706 2147483706 (by decide) rfl
  have c_place : ay_at hp 8 6 = some (ρ 2) := ay_gfj hE 42 24 11 8 6 (by decide) (by rw [ax_vl_c (by decide)]) (by rw [ax_vl_c (by decide)])
  have c_tape : ay_at hp 9 (ρ 2 / 4) = some (ρ 3) := ay_gf hE 46 11 15 9 (by decide) (by rw [ax_vl_c (by decide)])
  obtain ⟨-, -, F30⟩ : ay_ex hp 8 ∧ ay_ex hp 9 ∧ pz_x30 (ρ 0) (ay_at hp 8 1) (ay_at hp 9) := (ax_XF_lt (by decide)).mp (ax_gx hE (30, [3]) (by decide))
  obtain ⟨-, -, -, -, F55⟩ : ay_ex hp 8 ∧ ay_ex hp 10 ∧ ay_ex hp 11 ∧ ay_ex hp 12 ∧ pz_x55 (ρ 0) (ρ 1) (ay_at hp 8 5) (ay_at hp 8 6) (ay_at hp 10 0) (ay_at hp 10 1) (ay_at hp 10 2) (ay_at hp 10 3) (ay_at hp 10 4) (ay_at hp 8 9) (ay_at hp 8 11) (ay_at hp 8 10) (ay_at hp 8 3) (ay_at hp 8 4) (ay_at hp 11) (ay_at hp 12) := (ax_XF_lt (by decide)).mp (ax_gx hE (55, [3, 7]) (by decide))
  rw [c_place] at F55
  refine ⟨(fun y hy => by cases hy), _, List.mem_cons_self, ρ, fun _ _ => rfl, ax_px hE (by decide) (fun y hy => ?_)⟩
  cases List.mem_singleton.mp hy
  refine (ax_XF_wr (x := 50) (by decide)).mpr ?_
  show ay_ex (ax_upd hp 42 28 (12)) 8 ∧ ay_ex (ax_upd hp 42 28 (12)) 10 ∧ ay_ex (ax_upd hp 42 28 (12)) 11 ∧ ay_ex (ax_upd hp 42 28 (12)) 12 ∧ pz_x50 (ρ 0) (ρ 1) (ay_at (ax_upd hp 42 28 (12)) 8 5) (ay_at (ax_upd hp 42 28 (12)) 8 6) (ay_at (ax_upd hp 42 28 (12)) 8 7) (ay_at (ax_upd hp 42 28 (12)) 8 8) (ay_at (ax_upd hp 42 28 (12)) 10 0) (ay_at (ax_upd hp 42 28 (12)) 10 1) (ay_at (ax_upd hp 42 28 (12)) 10 2) (ay_at (ax_upd hp 42 28 (12)) 10 3) (ay_at (ax_upd hp 42 28 (12)) 10 4) (ay_at (ax_upd hp 42 28 (12)) 8 9) (ay_at (ax_upd hp 42 28 (12)) 8 11) (ay_at (ax_upd hp 42 28 (12)) 8 10) (ay_at (ax_upd hp 42 28 (12)) 8 3) (ay_at (ax_upd hp 42 28 (12)) 8 4) (ay_at (ax_upd hp 42 28 (12)) 11) (ay_at (ax_upd hp 42 28 (12)) 12)
  obtain ⟨o0, ho0⟩ := ay_some hT (q := 8) (g := 2) (n := 12) rfl rfl (j := 28 / 4) (by decide)
  have u1 : ∀ q, q ≠ 8 → ay_at (ax_upd hp 42 28 (12)) q = ay_at hp q := fun q hq => funext (fun j => ay_upd_ne hT.1 hq j)
  have u2 : ∀ j, ay_at (ax_upd hp 42 28 (12)) 8 j = if j = 7 then some (12) else ay_at hp 8 j := fun j => ay_upd_eq hT.1 rfl ho0 j
  refine ⟨ay_ex_upd hT.1 (ax_cellT hT (q := 8) (g := 2) rfl), ay_ex_upd hT.1 (ax_cellT hT (q := 10) (g := 1) rfl), ay_ex_upd hT.1 (ax_cellT hT (q := 11) (g := 14) rfl), ay_ex_upd hT.1 (ax_cellT hT (q := 12) (g := 15) rfl), ?_⟩
  rw [u2 5, if_neg (show ¬ 5 = 7 by decide), u2 6, if_neg (show ¬ 6 = 7 by decide), u2 7, if_pos rfl, u2 8, if_neg (show ¬ 8 = 7 by decide), u1 10 (by decide), u2 9, if_neg (show ¬ 9 = 7 by decide), u2 11, if_neg (show ¬ 11 = 7 by decide), u2 10, if_neg (show ¬ 10 = 7 by decide), u2 3, if_neg (show ¬ 3 = 7 by decide), u2 4, if_neg (show ¬ 4 = 7 by decide), u1 11 (by decide), u1 12 (by decide)]
  rw [c_place]
  have hb : ρ 2 / 4 < pz_gN (ρ 0) → pz_b (pz_gt (ρ 0)) (ρ 2 / 4) = ρ 3 / 4 := fun hl => by
    have e := F30.2.2 (ρ 2 / 4) hl
    rw [c_tape] at e
    have e := Option.some.inj e
    omega
  have e1 : ρ 2 / 4 = pz_at (pz_gt (ρ 0)) (pz_gN (ρ 0)) (pz_p (pz_cf (pz_gt (ρ 0)) (pz_gN (ρ 0)) (ρ 1 / 4))) := F55.1
  have e2 : ay_ln (ay_at hp 8 5) = ρ 2 / 4 + 1 := F55.2.1
  have e3 : ρ 2 / 4 < pz_gN (ρ 0) := F55.2.2.1
  have hb1 := hb e3
  rw [e1] at hb1 e2 e3
  obtain ⟨k1, k2⟩ := pz_kd_sg e3 (by rw [hb1]; exact pz_lt_no (by omega)) (by rw [hb1]; exact pz_dg_no (by omega))
  rw [hb1] at k1
  rw [pz_sg_no (by omega) (by omega) (by omega) (by omega) (by omega) (by omega) (by omega) (by omega)] at k1
  replace k1 : pz_kd (pz_gt (ρ 0)) (pz_gN (ρ 0)) (pz_p (pz_cf (pz_gt (ρ 0)) (pz_gN (ρ 0)) (ρ 1 / 4))) = 3 := k1
  exact ⟨by rw [e2, k2], e1, by show 3 = _; rw [k1], fun z => absurd (show 3 = 2 from z) (by decide), F55.2.2.2⟩

theorem axq_ad14_f : ax_RO ax_wC ax_XC axu_ad14_f := by
  intro ρ hp hE hT
  have j0 : ρ 0 % 4 = 1 := pz_gj hE 0 (by decide) rfl
  have j1 : ρ 1 % 4 = 1 := pz_gj hE 1 (by decide) rfl
  obtain ⟨i2a, i2b, i2c, i2d⟩ := pz_gi hE 2 2147483648 2147484448 (by decide) rfl
  obtain ⟨i3a, i3b, i3c, i3d⟩ := pz_gi hE 3 2147483708 2147483744 (by decide) rfl
  have c_place : ay_at hp 8 6 = some (ρ 2) := ay_gfj hE 42 24 11 8 6 (by decide) (by rw [ax_vl_c (by decide)]) (by rw [ax_vl_c (by decide)])
  have c_tape : ay_at hp 9 (ρ 2 / 4) = some (ρ 3) := ay_gf hE 46 11 15 9 (by decide) (by rw [ax_vl_c (by decide)])
  obtain ⟨-, -, F30⟩ : ay_ex hp 8 ∧ ay_ex hp 9 ∧ pz_x30 (ρ 0) (ay_at hp 8 1) (ay_at hp 9) := (ax_XF_lt (by decide)).mp (ax_gx hE (30, [3]) (by decide))
  obtain ⟨-, -, -, -, F55⟩ : ay_ex hp 8 ∧ ay_ex hp 10 ∧ ay_ex hp 11 ∧ ay_ex hp 12 ∧ pz_x55 (ρ 0) (ρ 1) (ay_at hp 8 5) (ay_at hp 8 6) (ay_at hp 10 0) (ay_at hp 10 1) (ay_at hp 10 2) (ay_at hp 10 3) (ay_at hp 10 4) (ay_at hp 8 9) (ay_at hp 8 11) (ay_at hp 8 10) (ay_at hp 8 3) (ay_at hp 8 4) (ay_at hp 11) (ay_at hp 12) := (ax_XF_lt (by decide)).mp (ax_gx hE (55, [3, 7]) (by decide))
  rw [c_place] at F55
  refine ⟨(fun y hy => by cases hy), _, List.mem_cons_self, ρ, fun _ _ => rfl, ax_px hE (by decide) (fun y hy => ?_)⟩
  cases List.mem_singleton.mp hy
  refine (ax_XF_wr (x := 50) (by decide)).mpr ?_
  show ay_ex (ax_upd hp 42 28 (12)) 8 ∧ ay_ex (ax_upd hp 42 28 (12)) 10 ∧ ay_ex (ax_upd hp 42 28 (12)) 11 ∧ ay_ex (ax_upd hp 42 28 (12)) 12 ∧ pz_x50 (ρ 0) (ρ 1) (ay_at (ax_upd hp 42 28 (12)) 8 5) (ay_at (ax_upd hp 42 28 (12)) 8 6) (ay_at (ax_upd hp 42 28 (12)) 8 7) (ay_at (ax_upd hp 42 28 (12)) 8 8) (ay_at (ax_upd hp 42 28 (12)) 10 0) (ay_at (ax_upd hp 42 28 (12)) 10 1) (ay_at (ax_upd hp 42 28 (12)) 10 2) (ay_at (ax_upd hp 42 28 (12)) 10 3) (ay_at (ax_upd hp 42 28 (12)) 10 4) (ay_at (ax_upd hp 42 28 (12)) 8 9) (ay_at (ax_upd hp 42 28 (12)) 8 11) (ay_at (ax_upd hp 42 28 (12)) 8 10) (ay_at (ax_upd hp 42 28 (12)) 8 3) (ay_at (ax_upd hp 42 28 (12)) 8 4) (ay_at (ax_upd hp 42 28 (12)) 11) (ay_at (ax_upd hp 42 28 (12)) 12)
  obtain ⟨o0, ho0⟩ := ay_some hT (q := 8) (g := 2) (n := 12) rfl rfl (j := 28 / 4) (by decide)
  have u1 : ∀ q, q ≠ 8 → ay_at (ax_upd hp 42 28 (12)) q = ay_at hp q := fun q hq => funext (fun j => ay_upd_ne hT.1 hq j)
  have u2 : ∀ j, ay_at (ax_upd hp 42 28 (12)) 8 j = if j = 7 then some (12) else ay_at hp 8 j := fun j => ay_upd_eq hT.1 rfl ho0 j
  refine ⟨ay_ex_upd hT.1 (ax_cellT hT (q := 8) (g := 2) rfl), ay_ex_upd hT.1 (ax_cellT hT (q := 10) (g := 1) rfl), ay_ex_upd hT.1 (ax_cellT hT (q := 11) (g := 14) rfl), ay_ex_upd hT.1 (ax_cellT hT (q := 12) (g := 15) rfl), ?_⟩
  rw [u2 5, if_neg (show ¬ 5 = 7 by decide), u2 6, if_neg (show ¬ 6 = 7 by decide), u2 7, if_pos rfl, u2 8, if_neg (show ¬ 8 = 7 by decide), u1 10 (by decide), u2 9, if_neg (show ¬ 9 = 7 by decide), u2 11, if_neg (show ¬ 11 = 7 by decide), u2 10, if_neg (show ¬ 10 = 7 by decide), u2 3, if_neg (show ¬ 3 = 7 by decide), u2 4, if_neg (show ¬ 4 = 7 by decide), u1 11 (by decide), u1 12 (by decide)]
  rw [c_place]
  have hb : ρ 2 / 4 < pz_gN (ρ 0) → pz_b (pz_gt (ρ 0)) (ρ 2 / 4) = ρ 3 / 4 := fun hl => by
    have e := F30.2.2 (ρ 2 / 4) hl
    rw [c_tape] at e
    have e := Option.some.inj e
    omega
  have e1 : ρ 2 / 4 = pz_at (pz_gt (ρ 0)) (pz_gN (ρ 0)) (pz_p (pz_cf (pz_gt (ρ 0)) (pz_gN (ρ 0)) (ρ 1 / 4))) := F55.1
  have e2 : ay_ln (ay_at hp 8 5) = ρ 2 / 4 + 1 := F55.2.1
  have e3 : ρ 2 / 4 < pz_gN (ρ 0) := F55.2.2.1
  have hb1 := hb e3
  rw [e1] at hb1 e2 e3
  obtain ⟨k1, k2⟩ := pz_kd_sg e3 (by rw [hb1]; exact pz_lt_no (by omega)) (by rw [hb1]; exact pz_dg_no (by omega))
  rw [hb1] at k1
  rw [pz_sg_no (by omega) (by omega) (by omega) (by omega) (by omega) (by omega) (by omega) (by omega)] at k1
  replace k1 : pz_kd (pz_gt (ρ 0)) (pz_gN (ρ 0)) (pz_p (pz_cf (pz_gt (ρ 0)) (pz_gN (ρ 0)) (ρ 1 / 4))) = 3 := k1
  exact ⟨by rw [e2, k2], e1, by show 3 = _; rw [k1], fun z => absurd (show 3 = 2 from z) (by decide), F55.2.2.2⟩

theorem axq_ad14_g : ax_RO ax_wC ax_XC axu_ad14_g := by
  intro ρ hp hE hT
  have j0 : ρ 0 % 4 = 1 := pz_gj hE 0 (by decide) rfl
  have j1 : ρ 1 % 4 = 1 := pz_gj hE 1 (by decide) rfl
  obtain ⟨i2a, i2b, i2c, i2d⟩ := pz_gi hE 2 2147483648 2147484448 (by decide) rfl
  obtain ⟨i3a, i3b, i3c, i3d⟩ := pz_gi hE 3 2147483771 2147483775 (by decide) rfl
  have c_place : ay_at hp 8 6 = some (ρ 2) := ay_gfj hE 42 24 11 8 6 (by decide) (by rw [ax_vl_c (by decide)]) (by rw [ax_vl_c (by decide)])
  have c_tape : ay_at hp 9 (ρ 2 / 4) = some (ρ 3) := ay_gf hE 46 11 15 9 (by decide) (by rw [ax_vl_c (by decide)])
  obtain ⟨-, -, F30⟩ : ay_ex hp 8 ∧ ay_ex hp 9 ∧ pz_x30 (ρ 0) (ay_at hp 8 1) (ay_at hp 9) := (ax_XF_lt (by decide)).mp (ax_gx hE (30, [3]) (by decide))
  obtain ⟨-, -, -, -, F55⟩ : ay_ex hp 8 ∧ ay_ex hp 10 ∧ ay_ex hp 11 ∧ ay_ex hp 12 ∧ pz_x55 (ρ 0) (ρ 1) (ay_at hp 8 5) (ay_at hp 8 6) (ay_at hp 10 0) (ay_at hp 10 1) (ay_at hp 10 2) (ay_at hp 10 3) (ay_at hp 10 4) (ay_at hp 8 9) (ay_at hp 8 11) (ay_at hp 8 10) (ay_at hp 8 3) (ay_at hp 8 4) (ay_at hp 11) (ay_at hp 12) := (ax_XF_lt (by decide)).mp (ax_gx hE (55, [3, 7]) (by decide))
  rw [c_place] at F55
  refine ⟨(fun y hy => by cases hy), _, List.mem_cons_self, ρ, fun _ _ => rfl, ax_px hE (by decide) (fun y hy => ?_)⟩
  cases List.mem_singleton.mp hy
  refine (ax_XF_wr (x := 50) (by decide)).mpr ?_
  show ay_ex (ax_upd hp 42 28 (12)) 8 ∧ ay_ex (ax_upd hp 42 28 (12)) 10 ∧ ay_ex (ax_upd hp 42 28 (12)) 11 ∧ ay_ex (ax_upd hp 42 28 (12)) 12 ∧ pz_x50 (ρ 0) (ρ 1) (ay_at (ax_upd hp 42 28 (12)) 8 5) (ay_at (ax_upd hp 42 28 (12)) 8 6) (ay_at (ax_upd hp 42 28 (12)) 8 7) (ay_at (ax_upd hp 42 28 (12)) 8 8) (ay_at (ax_upd hp 42 28 (12)) 10 0) (ay_at (ax_upd hp 42 28 (12)) 10 1) (ay_at (ax_upd hp 42 28 (12)) 10 2) (ay_at (ax_upd hp 42 28 (12)) 10 3) (ay_at (ax_upd hp 42 28 (12)) 10 4) (ay_at (ax_upd hp 42 28 (12)) 8 9) (ay_at (ax_upd hp 42 28 (12)) 8 11) (ay_at (ax_upd hp 42 28 (12)) 8 10) (ay_at (ax_upd hp 42 28 (12)) 8 3) (ay_at (ax_upd hp 42 28 (12)) 8 4) (ay_at (ax_upd hp 42 28 (12)) 11) (ay_at (ax_upd hp 42 28 (12)) 12)
  obtain ⟨o0, ho0⟩ := ay_some hT (q := 8) (g := 2) (n := 12) rfl rfl (j := 28 / 4) (by decide)
  have u1 : ∀ q, q ≠ 8 → ay_at (ax_upd hp 42 28 (12)) q = ay_at hp q := fun q hq => funext (fun j => ay_upd_ne hT.1 hq j)
  have u2 : ∀ j, ay_at (ax_upd hp 42 28 (12)) 8 j = if j = 7 then some (12) else ay_at hp 8 j := fun j => ay_upd_eq hT.1 rfl ho0 j
  refine ⟨ay_ex_upd hT.1 (ax_cellT hT (q := 8) (g := 2) rfl), ay_ex_upd hT.1 (ax_cellT hT (q := 10) (g := 1) rfl), ay_ex_upd hT.1 (ax_cellT hT (q := 11) (g := 14) rfl), ay_ex_upd hT.1 (ax_cellT hT (q := 12) (g := 15) rfl), ?_⟩
  rw [u2 5, if_neg (show ¬ 5 = 7 by decide), u2 6, if_neg (show ¬ 6 = 7 by decide), u2 7, if_pos rfl, u2 8, if_neg (show ¬ 8 = 7 by decide), u1 10 (by decide), u2 9, if_neg (show ¬ 9 = 7 by decide), u2 11, if_neg (show ¬ 11 = 7 by decide), u2 10, if_neg (show ¬ 10 = 7 by decide), u2 3, if_neg (show ¬ 3 = 7 by decide), u2 4, if_neg (show ¬ 4 = 7 by decide), u1 11 (by decide), u1 12 (by decide)]
  rw [c_place]
  have hb : ρ 2 / 4 < pz_gN (ρ 0) → pz_b (pz_gt (ρ 0)) (ρ 2 / 4) = ρ 3 / 4 := fun hl => by
    have e := F30.2.2 (ρ 2 / 4) hl
    rw [c_tape] at e
    have e := Option.some.inj e
    omega
  have e1 : ρ 2 / 4 = pz_at (pz_gt (ρ 0)) (pz_gN (ρ 0)) (pz_p (pz_cf (pz_gt (ρ 0)) (pz_gN (ρ 0)) (ρ 1 / 4))) := F55.1
  have e2 : ay_ln (ay_at hp 8 5) = ρ 2 / 4 + 1 := F55.2.1
  have e3 : ρ 2 / 4 < pz_gN (ρ 0) := F55.2.2.1
  have hb1 := hb e3
  rw [e1] at hb1 e2 e3
  obtain ⟨k1, k2⟩ := pz_kd_sg e3 (by rw [hb1]; exact pz_lt_no (by omega)) (by rw [hb1]; exact pz_dg_no (by omega))
  rw [hb1] at k1
  rw [pz_sg_no (by omega) (by omega) (by omega) (by omega) (by omega) (by omega) (by omega) (by omega)] at k1
  replace k1 : pz_kd (pz_gt (ρ 0)) (pz_gN (ρ 0)) (pz_p (pz_cf (pz_gt (ρ 0)) (pz_gN (ρ 0)) (ρ 1 / 4))) = 3 := k1
  exact ⟨by rw [e2, k2], e1, by show 3 = _; rw [k1], fun z => absurd (show 3 = 2 from z) (by decide), F55.2.2.2⟩

theorem axq_iw1a_0 : ax_RO ax_wC ax_XC axu_iw1a_0 := by
  intro ρ hp hE hT
  have j0 : ρ 0 % 4 = 1 := pz_gj hE 0 (by decide) rfl
  have j1 : ρ 1 % 4 = 1 := pz_gj hE 1 (by decide) rfl
  obtain ⟨i2a, i2b, i2c, i2d⟩ := pz_gi hE 2 0 2147483648 (by decide) rfl
  have c_kind : ay_at hp 8 7 = some (ρ 2) := ay_gfj hE 42 28 11 8 7 (by decide) (by rw [ax_vl_c (by decide)]) (by rw [ax_vl_c (by decide)])
  obtain ⟨-, -, -, -, F50⟩ : ay_ex hp 8 ∧ ay_ex hp 10 ∧ ay_ex hp 11 ∧ ay_ex hp 12 ∧ pz_x50 (ρ 0) (ρ 1) (ay_at hp 8 5) (ay_at hp 8 6) (ay_at hp 8 7) (ay_at hp 8 8) (ay_at hp 10 0) (ay_at hp 10 1) (ay_at hp 10 2) (ay_at hp 10 3) (ay_at hp 10 4) (ay_at hp 8 9) (ay_at hp 8 11) (ay_at hp 8 10) (ay_at hp 8 3) (ay_at hp 8 4) (ay_at hp 11) (ay_at hp 12) := (ax_XF_lt (by decide)).mp (ax_gx hE (50, [3, 7]) (by decide))
  rw [c_kind] at F50
  refine ⟨(fun y hy => by cases hy), _, List.mem_cons_self, ρ, fun _ _ => rfl, ax_px hE (by decide) (fun y hy => ?_)⟩
  cases List.mem_singleton.mp hy
  refine (ax_XF_lt (x := 61) (by decide)).mpr ?_
  show pz61 (pz_gt (ρ 0)) (pz_gN (ρ 0)) ((ρ 1) / 4) ((4002) / 4 - 1000)
  have kd : ρ 2 / 4 = pz_kd (pz_gt (ρ 0)) (pz_gN (ρ 0)) (pz_p (pz_cf (pz_gt (ρ 0)) (pz_gN (ρ 0)) (ρ 1 / 4))) := F50.2.2.1
  exact pz_is_no (Or.inl (by omega))

theorem axq_iw2a_0 : ax_RO ax_wC ax_XC axu_iw2a_0 := by
  intro ρ hp hE hT
  have j0 : ρ 0 % 4 = 1 := pz_gj hE 0 (by decide) rfl
  have j1 : ρ 1 % 4 = 1 := pz_gj hE 1 (by decide) rfl
  obtain ⟨i2a, i2b, i2c, i2d⟩ := pz_gi hE 2 2147482848 2147483655 (by decide) rfl
  obtain ⟨i3a, i3b, i3c, i3d⟩ := pz_gi hE 3 2147483648 2147484448 (by decide) rfl
  obtain ⟨i4a, i4b, i4c, i4d⟩ := pz_gi hE 4 2147483648 2147484448 (by decide) rfl
  have c_place : ay_at hp 8 6 = some (ρ 3) := ay_gfj hE 42 24 15 8 6 (by decide) (by rw [ax_vl_c (by decide)]) (by rw [ax_vl_c (by decide)])
  have c_ahead : ay_at hp 8 5 = some (ρ 4) := ay_gfj hE 42 20 19 8 5 (by decide) (by rw [ax_vl_c (by decide)]) (by rw [ax_vl_c (by decide)])
  have s1 : (ρ 2 / 4 + 2147483648) % 4294967296 + (ρ 3 / 4 + 2147483648) % 4294967296 = (ρ 4 / 4 + 2147483648) % 4294967296 + 2147483648 := pz_gs hE 11 15 19 (by decide)
  obtain ⟨-, -, -, -, F50⟩ : ay_ex hp 8 ∧ ay_ex hp 10 ∧ ay_ex hp 11 ∧ ay_ex hp 12 ∧ pz_x50 (ρ 0) (ρ 1) (ay_at hp 8 5) (ay_at hp 8 6) (ay_at hp 8 7) (ay_at hp 8 8) (ay_at hp 10 0) (ay_at hp 10 1) (ay_at hp 10 2) (ay_at hp 10 3) (ay_at hp 10 4) (ay_at hp 8 9) (ay_at hp 8 11) (ay_at hp 8 10) (ay_at hp 8 3) (ay_at hp 8 4) (ay_at hp 11) (ay_at hp 12) := (ax_XF_lt (by decide)).mp (ax_gx hE (50, [3, 7]) (by decide))
  rw [c_place] at F50
  rw [c_ahead] at F50
  refine ⟨(fun y hy => by cases hy), _, List.mem_cons_self, ρ, fun _ _ => rfl, ax_px hE (by decide) (fun y hy => ?_)⟩
  cases List.mem_singleton.mp hy
  refine (ax_XF_lt (x := 61) (by decide)).mpr ?_
  show pz61 (pz_gt (ρ 0)) (pz_gN (ρ 0)) ((ρ 1) / 4) ((4002) / 4 - 1000)
  have e1 : ρ 4 / 4 = pz_nx (pz_gt (ρ 0)) (pz_gN (ρ 0)) (pz_p (pz_cf (pz_gt (ρ 0)) (pz_gN (ρ 0)) (ρ 1 / 4))) := F50.1
  have e2 : ρ 3 / 4 = pz_at (pz_gt (ρ 0)) (pz_gN (ρ 0)) (pz_p (pz_cf (pz_gt (ρ 0)) (pz_gN (ρ 0)) (ρ 1 / 4))) := F50.2.1
  refine pz_is_no (Or.inr (Or.inl ?_))
  show pz_nx (pz_gt (ρ 0)) (pz_gN (ρ 0)) (pz_p (pz_cf (pz_gt (ρ 0)) (pz_gN (ρ 0)) (ρ 1 / 4))) - pz_at (pz_gt (ρ 0)) (pz_gN (ρ 0)) (pz_p (pz_cf (pz_gt (ρ 0)) (pz_gN (ρ 0)) (ρ 1 / 4))) ≠ 8
  omega

theorem axq_iw1b_0 : ax_RO ax_wC ax_XC axu_iw1b_0 := by
  intro ρ hp hE hT
  have j0 : ρ 0 % 4 = 1 := pz_gj hE 0 (by decide) rfl
  have j1 : ρ 1 % 4 = 1 := pz_gj hE 1 (by decide) rfl
  obtain ⟨i2a, i2b, i2c, i2d⟩ := pz_gi hE 2 2147483650 4294967295 (by decide) rfl
  have c_kind : ay_at hp 8 7 = some (ρ 2) := ay_gfj hE 42 28 11 8 7 (by decide) (by rw [ax_vl_c (by decide)]) (by rw [ax_vl_c (by decide)])
  obtain ⟨-, -, -, -, F50⟩ : ay_ex hp 8 ∧ ay_ex hp 10 ∧ ay_ex hp 11 ∧ ay_ex hp 12 ∧ pz_x50 (ρ 0) (ρ 1) (ay_at hp 8 5) (ay_at hp 8 6) (ay_at hp 8 7) (ay_at hp 8 8) (ay_at hp 10 0) (ay_at hp 10 1) (ay_at hp 10 2) (ay_at hp 10 3) (ay_at hp 10 4) (ay_at hp 8 9) (ay_at hp 8 11) (ay_at hp 8 10) (ay_at hp 8 3) (ay_at hp 8 4) (ay_at hp 11) (ay_at hp 12) := (ax_XF_lt (by decide)).mp (ax_gx hE (50, [3, 7]) (by decide))
  rw [c_kind] at F50
  refine ⟨(fun y hy => by cases hy), _, List.mem_cons_self, ρ, fun _ _ => rfl, ax_px hE (by decide) (fun y hy => ?_)⟩
  cases List.mem_singleton.mp hy
  refine (ax_XF_lt (x := 61) (by decide)).mpr ?_
  show pz61 (pz_gt (ρ 0)) (pz_gN (ρ 0)) ((ρ 1) / 4) ((4002) / 4 - 1000)
  have kd : ρ 2 / 4 = pz_kd (pz_gt (ρ 0)) (pz_gN (ρ 0)) (pz_p (pz_cf (pz_gt (ρ 0)) (pz_gN (ρ 0)) (ρ 1 / 4))) := F50.2.2.1
  exact pz_is_no (Or.inl (by omega))

theorem axq_iw2b_0 : ax_RO ax_wC ax_XC axu_iw2b_0 := by
  intro ρ hp hE hT
  have j0 : ρ 0 % 4 = 1 := pz_gj hE 0 (by decide) rfl
  have j1 : ρ 1 % 4 = 1 := pz_gj hE 1 (by decide) rfl
  obtain ⟨i2a, i2b, i2c, i2d⟩ := pz_gi hE 2 2147483657 2147484448 (by decide) rfl
  obtain ⟨i3a, i3b, i3c, i3d⟩ := pz_gi hE 3 2147483648 2147484448 (by decide) rfl
  obtain ⟨i4a, i4b, i4c, i4d⟩ := pz_gi hE 4 2147483648 2147484448 (by decide) rfl
  have c_place : ay_at hp 8 6 = some (ρ 3) := ay_gfj hE 42 24 15 8 6 (by decide) (by rw [ax_vl_c (by decide)]) (by rw [ax_vl_c (by decide)])
  have c_ahead : ay_at hp 8 5 = some (ρ 4) := ay_gfj hE 42 20 19 8 5 (by decide) (by rw [ax_vl_c (by decide)]) (by rw [ax_vl_c (by decide)])
  have s1 : (ρ 2 / 4 + 2147483648) % 4294967296 + (ρ 3 / 4 + 2147483648) % 4294967296 = (ρ 4 / 4 + 2147483648) % 4294967296 + 2147483648 := pz_gs hE 11 15 19 (by decide)
  obtain ⟨-, -, -, -, F50⟩ : ay_ex hp 8 ∧ ay_ex hp 10 ∧ ay_ex hp 11 ∧ ay_ex hp 12 ∧ pz_x50 (ρ 0) (ρ 1) (ay_at hp 8 5) (ay_at hp 8 6) (ay_at hp 8 7) (ay_at hp 8 8) (ay_at hp 10 0) (ay_at hp 10 1) (ay_at hp 10 2) (ay_at hp 10 3) (ay_at hp 10 4) (ay_at hp 8 9) (ay_at hp 8 11) (ay_at hp 8 10) (ay_at hp 8 3) (ay_at hp 8 4) (ay_at hp 11) (ay_at hp 12) := (ax_XF_lt (by decide)).mp (ax_gx hE (50, [3, 7]) (by decide))
  rw [c_place] at F50
  rw [c_ahead] at F50
  refine ⟨(fun y hy => by cases hy), _, List.mem_cons_self, ρ, fun _ _ => rfl, ax_px hE (by decide) (fun y hy => ?_)⟩
  cases List.mem_singleton.mp hy
  refine (ax_XF_lt (x := 61) (by decide)).mpr ?_
  show pz61 (pz_gt (ρ 0)) (pz_gN (ρ 0)) ((ρ 1) / 4) ((4002) / 4 - 1000)
  have e1 : ρ 4 / 4 = pz_nx (pz_gt (ρ 0)) (pz_gN (ρ 0)) (pz_p (pz_cf (pz_gt (ρ 0)) (pz_gN (ρ 0)) (ρ 1 / 4))) := F50.1
  have e2 : ρ 3 / 4 = pz_at (pz_gt (ρ 0)) (pz_gN (ρ 0)) (pz_p (pz_cf (pz_gt (ρ 0)) (pz_gN (ρ 0)) (ρ 1 / 4))) := F50.2.1
  refine pz_is_no (Or.inr (Or.inl ?_))
  show pz_nx (pz_gt (ρ 0)) (pz_gN (ρ 0)) (pz_p (pz_cf (pz_gt (ρ 0)) (pz_gN (ρ 0)) (ρ 1 / 4))) - pz_at (pz_gt (ρ 0)) (pz_gN (ρ 0)) (pz_p (pz_cf (pz_gt (ρ 0)) (pz_gN (ρ 0)) (ρ 1 / 4))) ≠ 8
  omega

theorem axq_iw3_0 : ax_RO ax_wC ax_XC axu_iw3_0 := by
  intro ρ hp hE hT
  have j0 : ρ 0 % 4 = 1 := pz_gj hE 0 (by decide) rfl
  have j1 : ρ 1 % 4 = 1 := pz_gj hE 1 (by decide) rfl
  obtain ⟨i2a, i2b, i2c, i2d⟩ := pz_gi hE 2 2147483649 2147483649 (by decide) rfl
  obtain ⟨i3a, i3b, i3c, i3d⟩ := pz_gi hE 3 2147483656 2147483656 (by decide) rfl
  obtain ⟨i4a, i4b, i4c, i4d⟩ := pz_gi hE 4 2147483648 2147484448 (by decide) rfl
  obtain ⟨i5a, i5b, i5c, i5d⟩ := pz_gi hE 5 2147483648 2147484448 (by decide) rfl
  have c_kind : ay_at hp 8 7 = some (ρ 2) := ay_gfj hE 42 28 11 8 7 (by decide) (by rw [ax_vl_c (by decide)]) (by rw [ax_vl_c (by decide)])
  have c_place : ay_at hp 8 6 = some (ρ 4) := ay_gfj hE 42 24 19 8 6 (by decide) (by rw [ax_vl_c (by decide)]) (by rw [ax_vl_c (by decide)])
  have c_ahead : ay_at hp 8 5 = some (ρ 5) := ay_gfj hE 42 20 23 8 5 (by decide) (by rw [ax_vl_c (by decide)]) (by rw [ax_vl_c (by decide)])
  have s1 : (ρ 3 / 4 + 2147483648) % 4294967296 + (ρ 4 / 4 + 2147483648) % 4294967296 = (ρ 5 / 4 + 2147483648) % 4294967296 + 2147483648 := pz_gs hE 15 19 23 (by decide)
  obtain ⟨-, -, -, -, F50⟩ : ay_ex hp 8 ∧ ay_ex hp 10 ∧ ay_ex hp 11 ∧ ay_ex hp 12 ∧ pz_x50 (ρ 0) (ρ 1) (ay_at hp 8 5) (ay_at hp 8 6) (ay_at hp 8 7) (ay_at hp 8 8) (ay_at hp 10 0) (ay_at hp 10 1) (ay_at hp 10 2) (ay_at hp 10 3) (ay_at hp 10 4) (ay_at hp 8 9) (ay_at hp 8 11) (ay_at hp 8 10) (ay_at hp 8 3) (ay_at hp 8 4) (ay_at hp 11) (ay_at hp 12) := (ax_XF_lt (by decide)).mp (ax_gx hE (50, [3, 7]) (by decide))
  rw [c_kind] at F50
  rw [c_place] at F50
  rw [c_ahead] at F50
  refine ⟨(fun y hy => by cases hy), _, List.mem_cons_self, ρ, fun _ _ => rfl, ax_px hE (by decide) (fun y hy => ?_)⟩
  cases List.mem_singleton.mp hy
  refine (ax_XF_lt (x := 62) (by decide)).mpr ?_
  show pz_x62 (ρ 0) (ρ 1) (4002) (0)
  have kd : ρ 2 / 4 = pz_kd (pz_gt (ρ 0)) (pz_gN (ρ 0)) (pz_p (pz_cf (pz_gt (ρ 0)) (pz_gN (ρ 0)) (ρ 1 / 4))) := F50.2.2.1
  have e1 : ρ 5 / 4 = pz_nx (pz_gt (ρ 0)) (pz_gN (ρ 0)) (pz_p (pz_cf (pz_gt (ρ 0)) (pz_gN (ρ 0)) (ρ 1 / 4))) := F50.1
  have e2 : ρ 4 / 4 = pz_at (pz_gt (ρ 0)) (pz_gN (ρ 0)) (pz_p (pz_cf (pz_gt (ρ 0)) (pz_gN (ρ 0)) (ρ 1 / 4))) := F50.2.1
  refine ⟨kd.symm.trans (show ρ 2 / 4 = 1 by omega), ?_, fun j hj => absurd (show j < 0 from hj) (by omega)⟩
  show pz_nx (pz_gt (ρ 0)) (pz_gN (ρ 0)) (pz_p (pz_cf (pz_gt (ρ 0)) (pz_gN (ρ 0)) (ρ 1 / 4))) - pz_at (pz_gt (ρ 0)) (pz_gN (ρ 0)) (pz_p (pz_cf (pz_gt (ρ 0)) (pz_gN (ρ 0)) (ρ 1 / 4))) = 8
  omega

theorem axq_iw6_0 : ax_RO ax_wC ax_XC axu_iw6_0 := by
  intro ρ hp hE hT
  have j0 : ρ 0 % 4 = 1 := pz_gj hE 0 (by decide) rfl
  have j1 : ρ 1 % 4 = 1 := pz_gj hE 1 (by decide) rfl
  obtain ⟨i2a, i2b, i2c, i2d⟩ := pz_gi hE 2 2147483656 2147483656 (by decide) rfl
  obtain ⟨-, -, -, -, F50⟩ : ay_ex hp 8 ∧ ay_ex hp 10 ∧ ay_ex hp 11 ∧ ay_ex hp 12 ∧ pz_x50 (ρ 0) (ρ 1) (ay_at hp 8 5) (ay_at hp 8 6) (ay_at hp 8 7) (ay_at hp 8 8) (ay_at hp 10 0) (ay_at hp 10 1) (ay_at hp 10 2) (ay_at hp 10 3) (ay_at hp 10 4) (ay_at hp 8 9) (ay_at hp 8 11) (ay_at hp 8 10) (ay_at hp 8 3) (ay_at hp 8 4) (ay_at hp 11) (ay_at hp 12) := (ax_XF_lt (by decide)).mp (ax_gx hE (50, [3, 7]) (by decide))
  have F62 : pz_x62 (ρ 0) (ρ 1) (4002) (ρ 2) := (ax_XF_lt (by decide)).mp (ax_gx hE (62, [3, 7, 4002, 11]) (by decide))
  refine ⟨(fun y hy => by cases hy), _, List.mem_cons_self, ρ, fun _ _ => rfl, ax_px hE (by decide) (fun y hy => ?_)⟩
  cases List.mem_singleton.mp hy
  refine (ax_XF_lt (x := 60) (by decide)).mpr ?_
  show pz60 (pz_gt (ρ 0)) (pz_gN (ρ 0)) ((ρ 1) / 4) ((4002) / 4 - 1000)
  exact pz_is_yes F62.1 F62.2.1 (fun i hi => F62.2.2 i (by have : i < 8 := hi; omega))

theorem axq_iw1a_1 : ax_RO ax_wC ax_XC axu_iw1a_1 := by
  intro ρ hp hE hT
  have j0 : ρ 0 % 4 = 1 := pz_gj hE 0 (by decide) rfl
  have j1 : ρ 1 % 4 = 1 := pz_gj hE 1 (by decide) rfl
  obtain ⟨i2a, i2b, i2c, i2d⟩ := pz_gi hE 2 0 2147483648 (by decide) rfl
  have c_kind : ay_at hp 8 7 = some (ρ 2) := ay_gfj hE 42 28 11 8 7 (by decide) (by rw [ax_vl_c (by decide)]) (by rw [ax_vl_c (by decide)])
  obtain ⟨-, -, -, -, F50⟩ : ay_ex hp 8 ∧ ay_ex hp 10 ∧ ay_ex hp 11 ∧ ay_ex hp 12 ∧ pz_x50 (ρ 0) (ρ 1) (ay_at hp 8 5) (ay_at hp 8 6) (ay_at hp 8 7) (ay_at hp 8 8) (ay_at hp 10 0) (ay_at hp 10 1) (ay_at hp 10 2) (ay_at hp 10 3) (ay_at hp 10 4) (ay_at hp 8 9) (ay_at hp 8 11) (ay_at hp 8 10) (ay_at hp 8 3) (ay_at hp 8 4) (ay_at hp 11) (ay_at hp 12) := (ax_XF_lt (by decide)).mp (ax_gx hE (50, [3, 7]) (by decide))
  rw [c_kind] at F50
  refine ⟨(fun y hy => by cases hy), _, List.mem_cons_self, ρ, fun _ _ => rfl, ax_px hE (by decide) (fun y hy => ?_)⟩
  cases List.mem_singleton.mp hy
  refine (ax_XF_lt (x := 61) (by decide)).mpr ?_
  show pz61 (pz_gt (ρ 0)) (pz_gN (ρ 0)) ((ρ 1) / 4) ((4006) / 4 - 1000)
  have kd : ρ 2 / 4 = pz_kd (pz_gt (ρ 0)) (pz_gN (ρ 0)) (pz_p (pz_cf (pz_gt (ρ 0)) (pz_gN (ρ 0)) (ρ 1 / 4))) := F50.2.2.1
  exact pz_is_no (Or.inl (by omega))

theorem axq_iw2a_1 : ax_RO ax_wC ax_XC axu_iw2a_1 := by
  intro ρ hp hE hT
  have j0 : ρ 0 % 4 = 1 := pz_gj hE 0 (by decide) rfl
  have j1 : ρ 1 % 4 = 1 := pz_gj hE 1 (by decide) rfl
  obtain ⟨i2a, i2b, i2c, i2d⟩ := pz_gi hE 2 2147482848 2147483651 (by decide) rfl
  obtain ⟨i3a, i3b, i3c, i3d⟩ := pz_gi hE 3 2147483648 2147484448 (by decide) rfl
  obtain ⟨i4a, i4b, i4c, i4d⟩ := pz_gi hE 4 2147483648 2147484448 (by decide) rfl
  have c_place : ay_at hp 8 6 = some (ρ 3) := ay_gfj hE 42 24 15 8 6 (by decide) (by rw [ax_vl_c (by decide)]) (by rw [ax_vl_c (by decide)])
  have c_ahead : ay_at hp 8 5 = some (ρ 4) := ay_gfj hE 42 20 19 8 5 (by decide) (by rw [ax_vl_c (by decide)]) (by rw [ax_vl_c (by decide)])
  have s1 : (ρ 2 / 4 + 2147483648) % 4294967296 + (ρ 3 / 4 + 2147483648) % 4294967296 = (ρ 4 / 4 + 2147483648) % 4294967296 + 2147483648 := pz_gs hE 11 15 19 (by decide)
  obtain ⟨-, -, -, -, F50⟩ : ay_ex hp 8 ∧ ay_ex hp 10 ∧ ay_ex hp 11 ∧ ay_ex hp 12 ∧ pz_x50 (ρ 0) (ρ 1) (ay_at hp 8 5) (ay_at hp 8 6) (ay_at hp 8 7) (ay_at hp 8 8) (ay_at hp 10 0) (ay_at hp 10 1) (ay_at hp 10 2) (ay_at hp 10 3) (ay_at hp 10 4) (ay_at hp 8 9) (ay_at hp 8 11) (ay_at hp 8 10) (ay_at hp 8 3) (ay_at hp 8 4) (ay_at hp 11) (ay_at hp 12) := (ax_XF_lt (by decide)).mp (ax_gx hE (50, [3, 7]) (by decide))
  rw [c_place] at F50
  rw [c_ahead] at F50
  refine ⟨(fun y hy => by cases hy), _, List.mem_cons_self, ρ, fun _ _ => rfl, ax_px hE (by decide) (fun y hy => ?_)⟩
  cases List.mem_singleton.mp hy
  refine (ax_XF_lt (x := 61) (by decide)).mpr ?_
  show pz61 (pz_gt (ρ 0)) (pz_gN (ρ 0)) ((ρ 1) / 4) ((4006) / 4 - 1000)
  have e1 : ρ 4 / 4 = pz_nx (pz_gt (ρ 0)) (pz_gN (ρ 0)) (pz_p (pz_cf (pz_gt (ρ 0)) (pz_gN (ρ 0)) (ρ 1 / 4))) := F50.1
  have e2 : ρ 3 / 4 = pz_at (pz_gt (ρ 0)) (pz_gN (ρ 0)) (pz_p (pz_cf (pz_gt (ρ 0)) (pz_gN (ρ 0)) (ρ 1 / 4))) := F50.2.1
  refine pz_is_no (Or.inr (Or.inl ?_))
  show pz_nx (pz_gt (ρ 0)) (pz_gN (ρ 0)) (pz_p (pz_cf (pz_gt (ρ 0)) (pz_gN (ρ 0)) (ρ 1 / 4))) - pz_at (pz_gt (ρ 0)) (pz_gN (ρ 0)) (pz_p (pz_cf (pz_gt (ρ 0)) (pz_gN (ρ 0)) (ρ 1 / 4))) ≠ 4
  omega

theorem axq_iw1b_1 : ax_RO ax_wC ax_XC axu_iw1b_1 := by
  intro ρ hp hE hT
  have j0 : ρ 0 % 4 = 1 := pz_gj hE 0 (by decide) rfl
  have j1 : ρ 1 % 4 = 1 := pz_gj hE 1 (by decide) rfl
  obtain ⟨i2a, i2b, i2c, i2d⟩ := pz_gi hE 2 2147483650 4294967295 (by decide) rfl
  have c_kind : ay_at hp 8 7 = some (ρ 2) := ay_gfj hE 42 28 11 8 7 (by decide) (by rw [ax_vl_c (by decide)]) (by rw [ax_vl_c (by decide)])
  obtain ⟨-, -, -, -, F50⟩ : ay_ex hp 8 ∧ ay_ex hp 10 ∧ ay_ex hp 11 ∧ ay_ex hp 12 ∧ pz_x50 (ρ 0) (ρ 1) (ay_at hp 8 5) (ay_at hp 8 6) (ay_at hp 8 7) (ay_at hp 8 8) (ay_at hp 10 0) (ay_at hp 10 1) (ay_at hp 10 2) (ay_at hp 10 3) (ay_at hp 10 4) (ay_at hp 8 9) (ay_at hp 8 11) (ay_at hp 8 10) (ay_at hp 8 3) (ay_at hp 8 4) (ay_at hp 11) (ay_at hp 12) := (ax_XF_lt (by decide)).mp (ax_gx hE (50, [3, 7]) (by decide))
  rw [c_kind] at F50
  refine ⟨(fun y hy => by cases hy), _, List.mem_cons_self, ρ, fun _ _ => rfl, ax_px hE (by decide) (fun y hy => ?_)⟩
  cases List.mem_singleton.mp hy
  refine (ax_XF_lt (x := 61) (by decide)).mpr ?_
  show pz61 (pz_gt (ρ 0)) (pz_gN (ρ 0)) ((ρ 1) / 4) ((4006) / 4 - 1000)
  have kd : ρ 2 / 4 = pz_kd (pz_gt (ρ 0)) (pz_gN (ρ 0)) (pz_p (pz_cf (pz_gt (ρ 0)) (pz_gN (ρ 0)) (ρ 1 / 4))) := F50.2.2.1
  exact pz_is_no (Or.inl (by omega))

theorem axq_iw2b_1 : ax_RO ax_wC ax_XC axu_iw2b_1 := by
  intro ρ hp hE hT
  have j0 : ρ 0 % 4 = 1 := pz_gj hE 0 (by decide) rfl
  have j1 : ρ 1 % 4 = 1 := pz_gj hE 1 (by decide) rfl
  obtain ⟨i2a, i2b, i2c, i2d⟩ := pz_gi hE 2 2147483653 2147484448 (by decide) rfl
  obtain ⟨i3a, i3b, i3c, i3d⟩ := pz_gi hE 3 2147483648 2147484448 (by decide) rfl
  obtain ⟨i4a, i4b, i4c, i4d⟩ := pz_gi hE 4 2147483648 2147484448 (by decide) rfl
  have c_place : ay_at hp 8 6 = some (ρ 3) := ay_gfj hE 42 24 15 8 6 (by decide) (by rw [ax_vl_c (by decide)]) (by rw [ax_vl_c (by decide)])
  have c_ahead : ay_at hp 8 5 = some (ρ 4) := ay_gfj hE 42 20 19 8 5 (by decide) (by rw [ax_vl_c (by decide)]) (by rw [ax_vl_c (by decide)])
  have s1 : (ρ 2 / 4 + 2147483648) % 4294967296 + (ρ 3 / 4 + 2147483648) % 4294967296 = (ρ 4 / 4 + 2147483648) % 4294967296 + 2147483648 := pz_gs hE 11 15 19 (by decide)
  obtain ⟨-, -, -, -, F50⟩ : ay_ex hp 8 ∧ ay_ex hp 10 ∧ ay_ex hp 11 ∧ ay_ex hp 12 ∧ pz_x50 (ρ 0) (ρ 1) (ay_at hp 8 5) (ay_at hp 8 6) (ay_at hp 8 7) (ay_at hp 8 8) (ay_at hp 10 0) (ay_at hp 10 1) (ay_at hp 10 2) (ay_at hp 10 3) (ay_at hp 10 4) (ay_at hp 8 9) (ay_at hp 8 11) (ay_at hp 8 10) (ay_at hp 8 3) (ay_at hp 8 4) (ay_at hp 11) (ay_at hp 12) := (ax_XF_lt (by decide)).mp (ax_gx hE (50, [3, 7]) (by decide))
  rw [c_place] at F50
  rw [c_ahead] at F50
  refine ⟨(fun y hy => by cases hy), _, List.mem_cons_self, ρ, fun _ _ => rfl, ax_px hE (by decide) (fun y hy => ?_)⟩
  cases List.mem_singleton.mp hy
  refine (ax_XF_lt (x := 61) (by decide)).mpr ?_
  show pz61 (pz_gt (ρ 0)) (pz_gN (ρ 0)) ((ρ 1) / 4) ((4006) / 4 - 1000)
  have e1 : ρ 4 / 4 = pz_nx (pz_gt (ρ 0)) (pz_gN (ρ 0)) (pz_p (pz_cf (pz_gt (ρ 0)) (pz_gN (ρ 0)) (ρ 1 / 4))) := F50.1
  have e2 : ρ 3 / 4 = pz_at (pz_gt (ρ 0)) (pz_gN (ρ 0)) (pz_p (pz_cf (pz_gt (ρ 0)) (pz_gN (ρ 0)) (ρ 1 / 4))) := F50.2.1
  refine pz_is_no (Or.inr (Or.inl ?_))
  show pz_nx (pz_gt (ρ 0)) (pz_gN (ρ 0)) (pz_p (pz_cf (pz_gt (ρ 0)) (pz_gN (ρ 0)) (ρ 1 / 4))) - pz_at (pz_gt (ρ 0)) (pz_gN (ρ 0)) (pz_p (pz_cf (pz_gt (ρ 0)) (pz_gN (ρ 0)) (ρ 1 / 4))) ≠ 4
  omega

