theorem axq_ac4_3 : ax_RO ax_wC ax_XC axu_ac4_3 := by
  intro ρ hp hE hT
  have j0 : ρ 0 % 4 = 1 := pz_gj hE 0 (by decide) rfl
  obtain ⟨i1a, i1b, i1c, i1d⟩ := pz_gi hE 1 2147483648 2147483727 (by decide) rfl
  obtain ⟨i2a, i2b, i2c, i2d⟩ := pz_gi hE 2 0 4294967295 (by decide) rfl
  obtain ⟨i3a, i3b, i3c, i3d⟩ := pz_gi hE 3 2147483651 2147483651 (by decide) rfl
  obtain ⟨i4a, i4b, i4c, i4d⟩ := pz_gi hE 4 0 4294967295 (by decide) rfl
  have c_codeSize : ay_at hp 10 5 = some (ρ 1) := ay_gfj hE 50 20 7 10 5 (by decide) (by rw [ax_vl_c (by decide)]) (by rw [ax_vl_c (by decide)])
  have s1 : (ρ 1 / 4 + 2147483648) % 4294967296 + (4 / 4 + 2147483648) % 4294967296 = (ρ 2 / 4 + 2147483648) % 4294967296 + 2147483648 := pz_gs hE 7 4 11 (by decide)
  obtain ⟨-, -, -, F81⟩ : ay_ex hp 10 ∧ ay_ex hp 15 ∧ ay_ex hp 16 ∧ py_x81 (ρ 0) (ρ 3) (ρ 4) (ay_at hp 10 5) (ay_at hp 15) (ay_at hp 16) := (ax_XF_lt (by decide)).mp (ax_gx hE (81, [3, 15, 19]) (by decide))
  rw [c_codeSize] at F81
  have e3 : ρ 3 / 4 = 3 := by omega
  have h3 : ρ 3 = 4 * (ρ 3 / 4) := by omega
  have h4 : ρ 4 = 4 * (ρ 4 / 4) := by omega
  rw [h3, h4] at F81
  have hl : 1 ≤ ρ 0 / 4 := F81.1.1.1
  have hc : 4004 / 4 < 4096 := by omega
  have hk : py_ok (ρ 3 / 4) (ρ 4 / 4) (4004 / 4) := Or.inr (Or.inr (Or.inl ⟨e3, rfl⟩))
  obtain ⟨ρ', h1, h2⟩ := pz_pn1 (K := ρ 0 / 4 * 4096 + 4004 / 4) (xf := [(541, [50, 20, 11, 23]), (99, [23, 4004, 3])]) hE (by decide) (fun ρ' h1 h2 x hx => by
    have q0 : ρ' 0 = ρ 0 := h1 0 (by decide)
    have q1 : ρ' 1 = ρ 1 := h1 1 (by decide)
    have q2 : ρ' 2 = ρ 2 := h1 2 (by decide)
    have q3 : ρ' 3 = ρ 3 := h1 3 (by decide)
    have q4 : ρ' 4 = ρ 4 := h1 4 (by decide)
    rcases List.mem_cons.mp hx with e | hx
    · subst e
      refine (ax_XF_wr (x := 41) (by decide)).mpr ?_
      show ay_ex (ax_upd hp 50 (20) (ρ' 2)) 10 ∧ ay_ex (ax_upd hp 50 (20) (ρ' 2)) 15 ∧ ay_ex (ax_upd hp 50 (20) (ρ' 2)) 16 ∧ py_x41 (ρ' 5) (ay_at (ax_upd hp 50 (20) (ρ' 2)) 10 5) (ay_at (ax_upd hp 50 (20) (ρ' 2)) 15) (ay_at (ax_upd hp 50 (20) (ρ' 2)) 16)
      rw [q2, h2]
      obtain ⟨o0, ho0⟩ := ay_some hT (q := 10) (g := 1) (n := 12) rfl rfl (j := 20 / 4) (by decide)
      have u1 : ∀ q, q ≠ 10 → ay_at (ax_upd hp 50 20 (ρ 2)) q = ay_at hp q := fun q hq => funext (fun j => ay_upd_ne hT.1 hq j)
      have u2 : ∀ j, ay_at (ax_upd hp 50 20 (ρ 2)) 10 j = if j = 5 then some (ρ 2) else ay_at hp 10 j := fun j => ay_upd_eq hT.1 rfl ho0 j
      refine ⟨ay_ex_upd hT.1 (ax_cellT hT (q := 10) (g := 1) rfl), ay_ex_upd hT.1 (ax_cellT hT (q := 15) (g := 18) rfl), ay_ex_upd hT.1 (ax_cellT hT (q := 16) (g := 19) rfl), ?_⟩
      rw [u2 5, if_pos rfl, u1 15 (by decide), u1 16 (by decide)]
      exact py_add F81 hk ⟨pz_41 _, hl, hc⟩ (show ρ 2 / 4 = ρ 1 / 4 + 1 by omega)
    cases List.mem_singleton.mp hx
    refine (ax_XF_lt (x := 99) (by decide)).mpr ?_
    show py_99 (ρ' 5) (4004) (ρ' 0)
    rw [q0, h2]
    exact ⟨pz_41 _, hl, hc⟩)
  exact ⟨(fun y hy => by cases hy), _, List.mem_cons_self, ρ', h1, h2⟩

theorem axq_ac4_4 : ax_RO ax_wC ax_XC axu_ac4_4 := by
  intro ρ hp hE hT
  have j0 : ρ 0 % 4 = 1 := pz_gj hE 0 (by decide) rfl
  obtain ⟨i1a, i1b, i1c, i1d⟩ := pz_gi hE 1 2147483648 2147483727 (by decide) rfl
  obtain ⟨i2a, i2b, i2c, i2d⟩ := pz_gi hE 2 0 4294967295 (by decide) rfl
  obtain ⟨i3a, i3b, i3c, i3d⟩ := pz_gi hE 3 2147483652 2147483652 (by decide) rfl
  obtain ⟨i4a, i4b, i4c, i4d⟩ := pz_gi hE 4 0 4294967295 (by decide) rfl
  have c_codeSize : ay_at hp 10 5 = some (ρ 1) := ay_gfj hE 50 20 7 10 5 (by decide) (by rw [ax_vl_c (by decide)]) (by rw [ax_vl_c (by decide)])
  have s1 : (ρ 1 / 4 + 2147483648) % 4294967296 + (4 / 4 + 2147483648) % 4294967296 = (ρ 2 / 4 + 2147483648) % 4294967296 + 2147483648 := pz_gs hE 7 4 11 (by decide)
  obtain ⟨-, -, -, F81⟩ : ay_ex hp 10 ∧ ay_ex hp 15 ∧ ay_ex hp 16 ∧ py_x81 (ρ 0) (ρ 3) (ρ 4) (ay_at hp 10 5) (ay_at hp 15) (ay_at hp 16) := (ax_XF_lt (by decide)).mp (ax_gx hE (81, [3, 15, 19]) (by decide))
  rw [c_codeSize] at F81
  have e3 : ρ 3 / 4 = 4 := by omega
  have h3 : ρ 3 = 4 * (ρ 3 / 4) := by omega
  have h4 : ρ 4 = 4 * (ρ 4 / 4) := by omega
  rw [h3, h4] at F81
  have hl : 1 ≤ ρ 0 / 4 := F81.1.1.1
  have hc : 4008 / 4 < 4096 := by omega
  have hk : py_ok (ρ 3 / 4) (ρ 4 / 4) (4008 / 4) := Or.inr (Or.inr (Or.inr (Or.inl ⟨e3, rfl⟩)))
  obtain ⟨ρ', h1, h2⟩ := pz_pn1 (K := ρ 0 / 4 * 4096 + 4008 / 4) (xf := [(541, [50, 20, 11, 23]), (99, [23, 4008, 3])]) hE (by decide) (fun ρ' h1 h2 x hx => by
    have q0 : ρ' 0 = ρ 0 := h1 0 (by decide)
    have q1 : ρ' 1 = ρ 1 := h1 1 (by decide)
    have q2 : ρ' 2 = ρ 2 := h1 2 (by decide)
    have q3 : ρ' 3 = ρ 3 := h1 3 (by decide)
    have q4 : ρ' 4 = ρ 4 := h1 4 (by decide)
    rcases List.mem_cons.mp hx with e | hx
    · subst e
      refine (ax_XF_wr (x := 41) (by decide)).mpr ?_
      show ay_ex (ax_upd hp 50 (20) (ρ' 2)) 10 ∧ ay_ex (ax_upd hp 50 (20) (ρ' 2)) 15 ∧ ay_ex (ax_upd hp 50 (20) (ρ' 2)) 16 ∧ py_x41 (ρ' 5) (ay_at (ax_upd hp 50 (20) (ρ' 2)) 10 5) (ay_at (ax_upd hp 50 (20) (ρ' 2)) 15) (ay_at (ax_upd hp 50 (20) (ρ' 2)) 16)
      rw [q2, h2]
      obtain ⟨o0, ho0⟩ := ay_some hT (q := 10) (g := 1) (n := 12) rfl rfl (j := 20 / 4) (by decide)
      have u1 : ∀ q, q ≠ 10 → ay_at (ax_upd hp 50 20 (ρ 2)) q = ay_at hp q := fun q hq => funext (fun j => ay_upd_ne hT.1 hq j)
      have u2 : ∀ j, ay_at (ax_upd hp 50 20 (ρ 2)) 10 j = if j = 5 then some (ρ 2) else ay_at hp 10 j := fun j => ay_upd_eq hT.1 rfl ho0 j
      refine ⟨ay_ex_upd hT.1 (ax_cellT hT (q := 10) (g := 1) rfl), ay_ex_upd hT.1 (ax_cellT hT (q := 15) (g := 18) rfl), ay_ex_upd hT.1 (ax_cellT hT (q := 16) (g := 19) rfl), ?_⟩
      rw [u2 5, if_pos rfl, u1 15 (by decide), u1 16 (by decide)]
      exact py_add F81 hk ⟨pz_41 _, hl, hc⟩ (show ρ 2 / 4 = ρ 1 / 4 + 1 by omega)
    cases List.mem_singleton.mp hx
    refine (ax_XF_lt (x := 99) (by decide)).mpr ?_
    show py_99 (ρ' 5) (4008) (ρ' 0)
    rw [q0, h2]
    exact ⟨pz_41 _, hl, hc⟩)
  exact ⟨(fun y hy => by cases hy), _, List.mem_cons_self, ρ', h1, h2⟩

theorem axq_ac4_5 : ax_RO ax_wC ax_XC axu_ac4_5 := by
  intro ρ hp hE hT
  have j0 : ρ 0 % 4 = 1 := pz_gj hE 0 (by decide) rfl
  obtain ⟨i1a, i1b, i1c, i1d⟩ := pz_gi hE 1 2147483648 2147483727 (by decide) rfl
  obtain ⟨i2a, i2b, i2c, i2d⟩ := pz_gi hE 2 0 4294967295 (by decide) rfl
  obtain ⟨i3a, i3b, i3c, i3d⟩ := pz_gi hE 3 2147483653 2147483653 (by decide) rfl
  obtain ⟨i4a, i4b, i4c, i4d⟩ := pz_gi hE 4 0 4294967295 (by decide) rfl
  have c_codeSize : ay_at hp 10 5 = some (ρ 1) := ay_gfj hE 50 20 7 10 5 (by decide) (by rw [ax_vl_c (by decide)]) (by rw [ax_vl_c (by decide)])
  have s1 : (ρ 1 / 4 + 2147483648) % 4294967296 + (4 / 4 + 2147483648) % 4294967296 = (ρ 2 / 4 + 2147483648) % 4294967296 + 2147483648 := pz_gs hE 7 4 11 (by decide)
  obtain ⟨-, -, -, F81⟩ : ay_ex hp 10 ∧ ay_ex hp 15 ∧ ay_ex hp 16 ∧ py_x81 (ρ 0) (ρ 3) (ρ 4) (ay_at hp 10 5) (ay_at hp 15) (ay_at hp 16) := (ax_XF_lt (by decide)).mp (ax_gx hE (81, [3, 15, 19]) (by decide))
  rw [c_codeSize] at F81
  have e3 : ρ 3 / 4 = 5 := by omega
  have h3 : ρ 3 = 4 * (ρ 3 / 4) := by omega
  have h4 : ρ 4 = 4 * (ρ 4 / 4) := by omega
  rw [h3, h4] at F81
  have hl : 1 ≤ ρ 0 / 4 := F81.1.1.1
  have hc : 4032 / 4 < 4096 := by omega
  have hk : py_ok (ρ 3 / 4) (ρ 4 / 4) (4032 / 4) := Or.inr (Or.inr (Or.inr (Or.inr (Or.inl ⟨e3, rfl⟩))))
  obtain ⟨ρ', h1, h2⟩ := pz_pn1 (K := ρ 0 / 4 * 4096 + 4032 / 4) (xf := [(541, [50, 20, 11, 23]), (99, [23, 4032, 3])]) hE (by decide) (fun ρ' h1 h2 x hx => by
    have q0 : ρ' 0 = ρ 0 := h1 0 (by decide)
    have q1 : ρ' 1 = ρ 1 := h1 1 (by decide)
    have q2 : ρ' 2 = ρ 2 := h1 2 (by decide)
    have q3 : ρ' 3 = ρ 3 := h1 3 (by decide)
    have q4 : ρ' 4 = ρ 4 := h1 4 (by decide)
    rcases List.mem_cons.mp hx with e | hx
    · subst e
      refine (ax_XF_wr (x := 41) (by decide)).mpr ?_
      show ay_ex (ax_upd hp 50 (20) (ρ' 2)) 10 ∧ ay_ex (ax_upd hp 50 (20) (ρ' 2)) 15 ∧ ay_ex (ax_upd hp 50 (20) (ρ' 2)) 16 ∧ py_x41 (ρ' 5) (ay_at (ax_upd hp 50 (20) (ρ' 2)) 10 5) (ay_at (ax_upd hp 50 (20) (ρ' 2)) 15) (ay_at (ax_upd hp 50 (20) (ρ' 2)) 16)
      rw [q2, h2]
      obtain ⟨o0, ho0⟩ := ay_some hT (q := 10) (g := 1) (n := 12) rfl rfl (j := 20 / 4) (by decide)
      have u1 : ∀ q, q ≠ 10 → ay_at (ax_upd hp 50 20 (ρ 2)) q = ay_at hp q := fun q hq => funext (fun j => ay_upd_ne hT.1 hq j)
      have u2 : ∀ j, ay_at (ax_upd hp 50 20 (ρ 2)) 10 j = if j = 5 then some (ρ 2) else ay_at hp 10 j := fun j => ay_upd_eq hT.1 rfl ho0 j
      refine ⟨ay_ex_upd hT.1 (ax_cellT hT (q := 10) (g := 1) rfl), ay_ex_upd hT.1 (ax_cellT hT (q := 15) (g := 18) rfl), ay_ex_upd hT.1 (ax_cellT hT (q := 16) (g := 19) rfl), ?_⟩
      rw [u2 5, if_pos rfl, u1 15 (by decide), u1 16 (by decide)]
      exact py_add F81 hk ⟨pz_41 _, hl, hc⟩ (show ρ 2 / 4 = ρ 1 / 4 + 1 by omega)
    cases List.mem_singleton.mp hx
    refine (ax_XF_lt (x := 99) (by decide)).mpr ?_
    show py_99 (ρ' 5) (4032) (ρ' 0)
    rw [q0, h2]
    exact ⟨pz_41 _, hl, hc⟩)
  exact ⟨(fun y hy => by cases hy), _, List.mem_cons_self, ρ', h1, h2⟩

theorem axq_ac4_43 : ax_RO ax_wC ax_XC axu_ac4_43 := by
  intro ρ hp hE hT
  have j0 : ρ 0 % 4 = 1 := pz_gj hE 0 (by decide) rfl
  obtain ⟨i1a, i1b, i1c, i1d⟩ := pz_gi hE 1 2147483648 2147483727 (by decide) rfl
  obtain ⟨i2a, i2b, i2c, i2d⟩ := pz_gi hE 2 0 4294967295 (by decide) rfl
  obtain ⟨i3a, i3b, i3c, i3d⟩ := pz_gi hE 3 2147483691 2147483691 (by decide) rfl
  obtain ⟨i4a, i4b, i4c, i4d⟩ := pz_gi hE 4 0 4294967295 (by decide) rfl
  have c_codeSize : ay_at hp 10 5 = some (ρ 1) := ay_gfj hE 50 20 7 10 5 (by decide) (by rw [ax_vl_c (by decide)]) (by rw [ax_vl_c (by decide)])
  have s1 : (ρ 1 / 4 + 2147483648) % 4294967296 + (4 / 4 + 2147483648) % 4294967296 = (ρ 2 / 4 + 2147483648) % 4294967296 + 2147483648 := pz_gs hE 7 4 11 (by decide)
  obtain ⟨-, -, -, F81⟩ : ay_ex hp 10 ∧ ay_ex hp 15 ∧ ay_ex hp 16 ∧ py_x81 (ρ 0) (ρ 3) (ρ 4) (ay_at hp 10 5) (ay_at hp 15) (ay_at hp 16) := (ax_XF_lt (by decide)).mp (ax_gx hE (81, [3, 15, 19]) (by decide))
  rw [c_codeSize] at F81
  have e3 : ρ 3 / 4 = 43 := by omega
  have h3 : ρ 3 = 4 * (ρ 3 / 4) := by omega
  have h4 : ρ 4 = 4 * (ρ 4 / 4) := by omega
  rw [h3, h4] at F81
  have hl : 1 ≤ ρ 0 / 4 := F81.1.1.1
  have hc : 4012 / 4 < 4096 := by omega
  have hk : py_ok (ρ 3 / 4) (ρ 4 / 4) (4012 / 4) := Or.inr (Or.inr (Or.inr (Or.inr (Or.inr (Or.inl ⟨e3, rfl⟩)))))
  obtain ⟨ρ', h1, h2⟩ := pz_pn1 (K := ρ 0 / 4 * 4096 + 4012 / 4) (xf := [(541, [50, 20, 11, 23]), (99, [23, 4012, 3])]) hE (by decide) (fun ρ' h1 h2 x hx => by
    have q0 : ρ' 0 = ρ 0 := h1 0 (by decide)
    have q1 : ρ' 1 = ρ 1 := h1 1 (by decide)
    have q2 : ρ' 2 = ρ 2 := h1 2 (by decide)
    have q3 : ρ' 3 = ρ 3 := h1 3 (by decide)
    have q4 : ρ' 4 = ρ 4 := h1 4 (by decide)
    rcases List.mem_cons.mp hx with e | hx
    · subst e
      refine (ax_XF_wr (x := 41) (by decide)).mpr ?_
      show ay_ex (ax_upd hp 50 (20) (ρ' 2)) 10 ∧ ay_ex (ax_upd hp 50 (20) (ρ' 2)) 15 ∧ ay_ex (ax_upd hp 50 (20) (ρ' 2)) 16 ∧ py_x41 (ρ' 5) (ay_at (ax_upd hp 50 (20) (ρ' 2)) 10 5) (ay_at (ax_upd hp 50 (20) (ρ' 2)) 15) (ay_at (ax_upd hp 50 (20) (ρ' 2)) 16)
      rw [q2, h2]
      obtain ⟨o0, ho0⟩ := ay_some hT (q := 10) (g := 1) (n := 12) rfl rfl (j := 20 / 4) (by decide)
      have u1 : ∀ q, q ≠ 10 → ay_at (ax_upd hp 50 20 (ρ 2)) q = ay_at hp q := fun q hq => funext (fun j => ay_upd_ne hT.1 hq j)
      have u2 : ∀ j, ay_at (ax_upd hp 50 20 (ρ 2)) 10 j = if j = 5 then some (ρ 2) else ay_at hp 10 j := fun j => ay_upd_eq hT.1 rfl ho0 j
      refine ⟨ay_ex_upd hT.1 (ax_cellT hT (q := 10) (g := 1) rfl), ay_ex_upd hT.1 (ax_cellT hT (q := 15) (g := 18) rfl), ay_ex_upd hT.1 (ax_cellT hT (q := 16) (g := 19) rfl), ?_⟩
      rw [u2 5, if_pos rfl, u1 15 (by decide), u1 16 (by decide)]
      exact py_add F81 hk ⟨pz_41 _, hl, hc⟩ (show ρ 2 / 4 = ρ 1 / 4 + 1 by omega)
    cases List.mem_singleton.mp hx
    refine (ax_XF_lt (x := 99) (by decide)).mpr ?_
    show py_99 (ρ' 5) (4012) (ρ' 0)
    rw [q0, h2]
    exact ⟨pz_41 _, hl, hc⟩)
  exact ⟨(fun y hy => by cases hy), _, List.mem_cons_self, ρ', h1, h2⟩

theorem axq_ac4_45 : ax_RO ax_wC ax_XC axu_ac4_45 := by
  intro ρ hp hE hT
  have j0 : ρ 0 % 4 = 1 := pz_gj hE 0 (by decide) rfl
  obtain ⟨i1a, i1b, i1c, i1d⟩ := pz_gi hE 1 2147483648 2147483727 (by decide) rfl
  obtain ⟨i2a, i2b, i2c, i2d⟩ := pz_gi hE 2 0 4294967295 (by decide) rfl
  obtain ⟨i3a, i3b, i3c, i3d⟩ := pz_gi hE 3 2147483693 2147483693 (by decide) rfl
  obtain ⟨i4a, i4b, i4c, i4d⟩ := pz_gi hE 4 0 4294967295 (by decide) rfl
  have c_codeSize : ay_at hp 10 5 = some (ρ 1) := ay_gfj hE 50 20 7 10 5 (by decide) (by rw [ax_vl_c (by decide)]) (by rw [ax_vl_c (by decide)])
  have s1 : (ρ 1 / 4 + 2147483648) % 4294967296 + (4 / 4 + 2147483648) % 4294967296 = (ρ 2 / 4 + 2147483648) % 4294967296 + 2147483648 := pz_gs hE 7 4 11 (by decide)
  obtain ⟨-, -, -, F81⟩ : ay_ex hp 10 ∧ ay_ex hp 15 ∧ ay_ex hp 16 ∧ py_x81 (ρ 0) (ρ 3) (ρ 4) (ay_at hp 10 5) (ay_at hp 15) (ay_at hp 16) := (ax_XF_lt (by decide)).mp (ax_gx hE (81, [3, 15, 19]) (by decide))
  rw [c_codeSize] at F81
  have e3 : ρ 3 / 4 = 45 := by omega
  have h3 : ρ 3 = 4 * (ρ 3 / 4) := by omega
  have h4 : ρ 4 = 4 * (ρ 4 / 4) := by omega
  rw [h3, h4] at F81
  have hl : 1 ≤ ρ 0 / 4 := F81.1.1.1
  have hc : 4016 / 4 < 4096 := by omega
  have hk : py_ok (ρ 3 / 4) (ρ 4 / 4) (4016 / 4) := Or.inr (Or.inr (Or.inr (Or.inr (Or.inr (Or.inr (Or.inl ⟨e3, rfl⟩))))))
  obtain ⟨ρ', h1, h2⟩ := pz_pn1 (K := ρ 0 / 4 * 4096 + 4016 / 4) (xf := [(541, [50, 20, 11, 23]), (99, [23, 4016, 3])]) hE (by decide) (fun ρ' h1 h2 x hx => by
    have q0 : ρ' 0 = ρ 0 := h1 0 (by decide)
    have q1 : ρ' 1 = ρ 1 := h1 1 (by decide)
    have q2 : ρ' 2 = ρ 2 := h1 2 (by decide)
    have q3 : ρ' 3 = ρ 3 := h1 3 (by decide)
    have q4 : ρ' 4 = ρ 4 := h1 4 (by decide)
    rcases List.mem_cons.mp hx with e | hx
    · subst e
      refine (ax_XF_wr (x := 41) (by decide)).mpr ?_
      show ay_ex (ax_upd hp 50 (20) (ρ' 2)) 10 ∧ ay_ex (ax_upd hp 50 (20) (ρ' 2)) 15 ∧ ay_ex (ax_upd hp 50 (20) (ρ' 2)) 16 ∧ py_x41 (ρ' 5) (ay_at (ax_upd hp 50 (20) (ρ' 2)) 10 5) (ay_at (ax_upd hp 50 (20) (ρ' 2)) 15) (ay_at (ax_upd hp 50 (20) (ρ' 2)) 16)
      rw [q2, h2]
      obtain ⟨o0, ho0⟩ := ay_some hT (q := 10) (g := 1) (n := 12) rfl rfl (j := 20 / 4) (by decide)
      have u1 : ∀ q, q ≠ 10 → ay_at (ax_upd hp 50 20 (ρ 2)) q = ay_at hp q := fun q hq => funext (fun j => ay_upd_ne hT.1 hq j)
      have u2 : ∀ j, ay_at (ax_upd hp 50 20 (ρ 2)) 10 j = if j = 5 then some (ρ 2) else ay_at hp 10 j := fun j => ay_upd_eq hT.1 rfl ho0 j
      refine ⟨ay_ex_upd hT.1 (ax_cellT hT (q := 10) (g := 1) rfl), ay_ex_upd hT.1 (ax_cellT hT (q := 15) (g := 18) rfl), ay_ex_upd hT.1 (ax_cellT hT (q := 16) (g := 19) rfl), ?_⟩
      rw [u2 5, if_pos rfl, u1 15 (by decide), u1 16 (by decide)]
      exact py_add F81 hk ⟨pz_41 _, hl, hc⟩ (show ρ 2 / 4 = ρ 1 / 4 + 1 by omega)
    cases List.mem_singleton.mp hx
    refine (ax_XF_lt (x := 99) (by decide)).mpr ?_
    show py_99 (ρ' 5) (4016) (ρ' 0)
    rw [q0, h2]
    exact ⟨pz_41 _, hl, hc⟩)
  exact ⟨(fun y hy => by cases hy), _, List.mem_cons_self, ρ', h1, h2⟩

theorem axq_ac4_42 : ax_RO ax_wC ax_XC axu_ac4_42 := by
  intro ρ hp hE hT
  have j0 : ρ 0 % 4 = 1 := pz_gj hE 0 (by decide) rfl
  obtain ⟨i1a, i1b, i1c, i1d⟩ := pz_gi hE 1 2147483648 2147483727 (by decide) rfl
  obtain ⟨i2a, i2b, i2c, i2d⟩ := pz_gi hE 2 0 4294967295 (by decide) rfl
  obtain ⟨i3a, i3b, i3c, i3d⟩ := pz_gi hE 3 2147483690 2147483690 (by decide) rfl
  obtain ⟨i4a, i4b, i4c, i4d⟩ := pz_gi hE 4 0 4294967295 (by decide) rfl
  have c_codeSize : ay_at hp 10 5 = some (ρ 1) := ay_gfj hE 50 20 7 10 5 (by decide) (by rw [ax_vl_c (by decide)]) (by rw [ax_vl_c (by decide)])
  have s1 : (ρ 1 / 4 + 2147483648) % 4294967296 + (4 / 4 + 2147483648) % 4294967296 = (ρ 2 / 4 + 2147483648) % 4294967296 + 2147483648 := pz_gs hE 7 4 11 (by decide)
  obtain ⟨-, -, -, F81⟩ : ay_ex hp 10 ∧ ay_ex hp 15 ∧ ay_ex hp 16 ∧ py_x81 (ρ 0) (ρ 3) (ρ 4) (ay_at hp 10 5) (ay_at hp 15) (ay_at hp 16) := (ax_XF_lt (by decide)).mp (ax_gx hE (81, [3, 15, 19]) (by decide))
  rw [c_codeSize] at F81
  have e3 : ρ 3 / 4 = 42 := by omega
  have h3 : ρ 3 = 4 * (ρ 3 / 4) := by omega
  have h4 : ρ 4 = 4 * (ρ 4 / 4) := by omega
  rw [h3, h4] at F81
  have hl : 1 ≤ ρ 0 / 4 := F81.1.1.1
  have hc : 4020 / 4 < 4096 := by omega
  have hk : py_ok (ρ 3 / 4) (ρ 4 / 4) (4020 / 4) := Or.inr (Or.inr (Or.inr (Or.inr (Or.inr (Or.inr (Or.inr (Or.inl ⟨e3, rfl⟩)))))))
  obtain ⟨ρ', h1, h2⟩ := pz_pn1 (K := ρ 0 / 4 * 4096 + 4020 / 4) (xf := [(541, [50, 20, 11, 23]), (99, [23, 4020, 3])]) hE (by decide) (fun ρ' h1 h2 x hx => by
    have q0 : ρ' 0 = ρ 0 := h1 0 (by decide)
    have q1 : ρ' 1 = ρ 1 := h1 1 (by decide)
    have q2 : ρ' 2 = ρ 2 := h1 2 (by decide)
    have q3 : ρ' 3 = ρ 3 := h1 3 (by decide)
    have q4 : ρ' 4 = ρ 4 := h1 4 (by decide)
    rcases List.mem_cons.mp hx with e | hx
    · subst e
      refine (ax_XF_wr (x := 41) (by decide)).mpr ?_
      show ay_ex (ax_upd hp 50 (20) (ρ' 2)) 10 ∧ ay_ex (ax_upd hp 50 (20) (ρ' 2)) 15 ∧ ay_ex (ax_upd hp 50 (20) (ρ' 2)) 16 ∧ py_x41 (ρ' 5) (ay_at (ax_upd hp 50 (20) (ρ' 2)) 10 5) (ay_at (ax_upd hp 50 (20) (ρ' 2)) 15) (ay_at (ax_upd hp 50 (20) (ρ' 2)) 16)
      rw [q2, h2]
      obtain ⟨o0, ho0⟩ := ay_some hT (q := 10) (g := 1) (n := 12) rfl rfl (j := 20 / 4) (by decide)
      have u1 : ∀ q, q ≠ 10 → ay_at (ax_upd hp 50 20 (ρ 2)) q = ay_at hp q := fun q hq => funext (fun j => ay_upd_ne hT.1 hq j)
      have u2 : ∀ j, ay_at (ax_upd hp 50 20 (ρ 2)) 10 j = if j = 5 then some (ρ 2) else ay_at hp 10 j := fun j => ay_upd_eq hT.1 rfl ho0 j
      refine ⟨ay_ex_upd hT.1 (ax_cellT hT (q := 10) (g := 1) rfl), ay_ex_upd hT.1 (ax_cellT hT (q := 15) (g := 18) rfl), ay_ex_upd hT.1 (ax_cellT hT (q := 16) (g := 19) rfl), ?_⟩
      rw [u2 5, if_pos rfl, u1 15 (by decide), u1 16 (by decide)]
      exact py_add F81 hk ⟨pz_41 _, hl, hc⟩ (show ρ 2 / 4 = ρ 1 / 4 + 1 by omega)
    cases List.mem_singleton.mp hx
    refine (ax_XF_lt (x := 99) (by decide)).mpr ?_
    show py_99 (ρ' 5) (4020) (ρ' 0)
    rw [q0, h2]
    exact ⟨pz_41 _, hl, hc⟩)
  exact ⟨(fun y hy => by cases hy), _, List.mem_cons_self, ρ', h1, h2⟩

theorem axq_ac4_47 : ax_RO ax_wC ax_XC axu_ac4_47 := by
  intro ρ hp hE hT
  have j0 : ρ 0 % 4 = 1 := pz_gj hE 0 (by decide) rfl
  obtain ⟨i1a, i1b, i1c, i1d⟩ := pz_gi hE 1 2147483648 2147483727 (by decide) rfl
  obtain ⟨i2a, i2b, i2c, i2d⟩ := pz_gi hE 2 0 4294967295 (by decide) rfl
  obtain ⟨i3a, i3b, i3c, i3d⟩ := pz_gi hE 3 2147483695 2147483695 (by decide) rfl
  obtain ⟨i4a, i4b, i4c, i4d⟩ := pz_gi hE 4 0 4294967295 (by decide) rfl
  have c_codeSize : ay_at hp 10 5 = some (ρ 1) := ay_gfj hE 50 20 7 10 5 (by decide) (by rw [ax_vl_c (by decide)]) (by rw [ax_vl_c (by decide)])
  have s1 : (ρ 1 / 4 + 2147483648) % 4294967296 + (4 / 4 + 2147483648) % 4294967296 = (ρ 2 / 4 + 2147483648) % 4294967296 + 2147483648 := pz_gs hE 7 4 11 (by decide)
  obtain ⟨-, -, -, F81⟩ : ay_ex hp 10 ∧ ay_ex hp 15 ∧ ay_ex hp 16 ∧ py_x81 (ρ 0) (ρ 3) (ρ 4) (ay_at hp 10 5) (ay_at hp 15) (ay_at hp 16) := (ax_XF_lt (by decide)).mp (ax_gx hE (81, [3, 15, 19]) (by decide))
  rw [c_codeSize] at F81
  have e3 : ρ 3 / 4 = 47 := by omega
  have h3 : ρ 3 = 4 * (ρ 3 / 4) := by omega
  have h4 : ρ 4 = 4 * (ρ 4 / 4) := by omega
  rw [h3, h4] at F81
  have hl : 1 ≤ ρ 0 / 4 := F81.1.1.1
  have hc : 4024 / 4 < 4096 := by omega
  have hk : py_ok (ρ 3 / 4) (ρ 4 / 4) (4024 / 4) := Or.inr (Or.inr (Or.inr (Or.inr (Or.inr (Or.inr (Or.inr (Or.inr (Or.inl ⟨e3, rfl⟩))))))))
  obtain ⟨ρ', h1, h2⟩ := pz_pn1 (K := ρ 0 / 4 * 4096 + 4024 / 4) (xf := [(541, [50, 20, 11, 23]), (99, [23, 4024, 3])]) hE (by decide) (fun ρ' h1 h2 x hx => by
    have q0 : ρ' 0 = ρ 0 := h1 0 (by decide)
    have q1 : ρ' 1 = ρ 1 := h1 1 (by decide)
    have q2 : ρ' 2 = ρ 2 := h1 2 (by decide)
    have q3 : ρ' 3 = ρ 3 := h1 3 (by decide)
    have q4 : ρ' 4 = ρ 4 := h1 4 (by decide)
    rcases List.mem_cons.mp hx with e | hx
    · subst e
      refine (ax_XF_wr (x := 41) (by decide)).mpr ?_
      show ay_ex (ax_upd hp 50 (20) (ρ' 2)) 10 ∧ ay_ex (ax_upd hp 50 (20) (ρ' 2)) 15 ∧ ay_ex (ax_upd hp 50 (20) (ρ' 2)) 16 ∧ py_x41 (ρ' 5) (ay_at (ax_upd hp 50 (20) (ρ' 2)) 10 5) (ay_at (ax_upd hp 50 (20) (ρ' 2)) 15) (ay_at (ax_upd hp 50 (20) (ρ' 2)) 16)
      rw [q2, h2]
      obtain ⟨o0, ho0⟩ := ay_some hT (q := 10) (g := 1) (n := 12) rfl rfl (j := 20 / 4) (by decide)
      have u1 : ∀ q, q ≠ 10 → ay_at (ax_upd hp 50 20 (ρ 2)) q = ay_at hp q := fun q hq => funext (fun j => ay_upd_ne hT.1 hq j)
      have u2 : ∀ j, ay_at (ax_upd hp 50 20 (ρ 2)) 10 j = if j = 5 then some (ρ 2) else ay_at hp 10 j := fun j => ay_upd_eq hT.1 rfl ho0 j
      refine ⟨ay_ex_upd hT.1 (ax_cellT hT (q := 10) (g := 1) rfl), ay_ex_upd hT.1 (ax_cellT hT (q := 15) (g := 18) rfl), ay_ex_upd hT.1 (ax_cellT hT (q := 16) (g := 19) rfl), ?_⟩
      rw [u2 5, if_pos rfl, u1 15 (by decide), u1 16 (by decide)]
      exact py_add F81 hk ⟨pz_41 _, hl, hc⟩ (show ρ 2 / 4 = ρ 1 / 4 + 1 by omega)
    cases List.mem_singleton.mp hx
    refine (ax_XF_lt (x := 99) (by decide)).mpr ?_
    show py_99 (ρ' 5) (4024) (ρ' 0)
    rw [q0, h2]
    exact ⟨pz_41 _, hl, hc⟩)
  exact ⟨(fun y hy => by cases hy), _, List.mem_cons_self, ρ', h1, h2⟩

theorem axq_ac4_37 : ax_RO ax_wC ax_XC axu_ac4_37 := by
  intro ρ hp hE hT
  have j0 : ρ 0 % 4 = 1 := pz_gj hE 0 (by decide) rfl
  obtain ⟨i1a, i1b, i1c, i1d⟩ := pz_gi hE 1 2147483648 2147483727 (by decide) rfl
  obtain ⟨i2a, i2b, i2c, i2d⟩ := pz_gi hE 2 0 4294967295 (by decide) rfl
  obtain ⟨i3a, i3b, i3c, i3d⟩ := pz_gi hE 3 2147483685 2147483685 (by decide) rfl
  obtain ⟨i4a, i4b, i4c, i4d⟩ := pz_gi hE 4 0 4294967295 (by decide) rfl
  have c_codeSize : ay_at hp 10 5 = some (ρ 1) := ay_gfj hE 50 20 7 10 5 (by decide) (by rw [ax_vl_c (by decide)]) (by rw [ax_vl_c (by decide)])
  have s1 : (ρ 1 / 4 + 2147483648) % 4294967296 + (4 / 4 + 2147483648) % 4294967296 = (ρ 2 / 4 + 2147483648) % 4294967296 + 2147483648 := pz_gs hE 7 4 11 (by decide)
  obtain ⟨-, -, -, F81⟩ : ay_ex hp 10 ∧ ay_ex hp 15 ∧ ay_ex hp 16 ∧ py_x81 (ρ 0) (ρ 3) (ρ 4) (ay_at hp 10 5) (ay_at hp 15) (ay_at hp 16) := (ax_XF_lt (by decide)).mp (ax_gx hE (81, [3, 15, 19]) (by decide))
  rw [c_codeSize] at F81
  have e3 : ρ 3 / 4 = 37 := by omega
  have h3 : ρ 3 = 4 * (ρ 3 / 4) := by omega
  have h4 : ρ 4 = 4 * (ρ 4 / 4) := by omega
  rw [h3, h4] at F81
  have hl : 1 ≤ ρ 0 / 4 := F81.1.1.1
  have hc : 4028 / 4 < 4096 := by omega
  have hk : py_ok (ρ 3 / 4) (ρ 4 / 4) (4028 / 4) := Or.inr (Or.inr (Or.inr (Or.inr (Or.inr (Or.inr (Or.inr (Or.inr (Or.inr (⟨e3, rfl⟩)))))))))
  obtain ⟨ρ', h1, h2⟩ := pz_pn1 (K := ρ 0 / 4 * 4096 + 4028 / 4) (xf := [(541, [50, 20, 11, 23]), (99, [23, 4028, 3])]) hE (by decide) (fun ρ' h1 h2 x hx => by
    have q0 : ρ' 0 = ρ 0 := h1 0 (by decide)
    have q1 : ρ' 1 = ρ 1 := h1 1 (by decide)
    have q2 : ρ' 2 = ρ 2 := h1 2 (by decide)
    have q3 : ρ' 3 = ρ 3 := h1 3 (by decide)
    have q4 : ρ' 4 = ρ 4 := h1 4 (by decide)
    rcases List.mem_cons.mp hx with e | hx
    · subst e
      refine (ax_XF_wr (x := 41) (by decide)).mpr ?_
      show ay_ex (ax_upd hp 50 (20) (ρ' 2)) 10 ∧ ay_ex (ax_upd hp 50 (20) (ρ' 2)) 15 ∧ ay_ex (ax_upd hp 50 (20) (ρ' 2)) 16 ∧ py_x41 (ρ' 5) (ay_at (ax_upd hp 50 (20) (ρ' 2)) 10 5) (ay_at (ax_upd hp 50 (20) (ρ' 2)) 15) (ay_at (ax_upd hp 50 (20) (ρ' 2)) 16)
      rw [q2, h2]
      obtain ⟨o0, ho0⟩ := ay_some hT (q := 10) (g := 1) (n := 12) rfl rfl (j := 20 / 4) (by decide)
      have u1 : ∀ q, q ≠ 10 → ay_at (ax_upd hp 50 20 (ρ 2)) q = ay_at hp q := fun q hq => funext (fun j => ay_upd_ne hT.1 hq j)
      have u2 : ∀ j, ay_at (ax_upd hp 50 20 (ρ 2)) 10 j = if j = 5 then some (ρ 2) else ay_at hp 10 j := fun j => ay_upd_eq hT.1 rfl ho0 j
      refine ⟨ay_ex_upd hT.1 (ax_cellT hT (q := 10) (g := 1) rfl), ay_ex_upd hT.1 (ax_cellT hT (q := 15) (g := 18) rfl), ay_ex_upd hT.1 (ax_cellT hT (q := 16) (g := 19) rfl), ?_⟩
      rw [u2 5, if_pos rfl, u1 15 (by decide), u1 16 (by decide)]
      exact py_add F81 hk ⟨pz_41 _, hl, hc⟩ (show ρ 2 / 4 = ρ 1 / 4 + 1 by omega)
    cases List.mem_singleton.mp hx
    refine (ax_XF_lt (x := 99) (by decide)).mpr ?_
    show py_99 (ρ' 5) (4028) (ρ' 0)
    rw [q0, h2]
    exact ⟨pz_41 _, hl, hc⟩)
  exact ⟨(fun y hy => by cases hy), _, List.mem_cons_self, ρ', h1, h2⟩

