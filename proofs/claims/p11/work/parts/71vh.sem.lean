theorem axqg_mf2_2 {w : ax_W} {b : Nat} (hw : ax_WW w) : ax_RO w (ax_XM b) axu0_mf2_2 := by
  intro ρ hp hE hT
  have j0 : ρ 0 % 4 = 1 := pz_gj hE 0 (by decide) rfl
  have j1 : ρ 1 % 4 = 1 := pz_gj hE 1 (by decide) rfl
  obtain ⟨i2a, i2b, i2c, i2d⟩ := pz_gi hE 2 0 4294967295 (by decide) rfl
  obtain ⟨i3a, i3b, i3c, i3d⟩ := pz_gi hE 3 0 4294967295 (by decide) rfl
  obtain ⟨i4a, i4b, i4c, i4d⟩ := pz_gi hE 4 0 4294967295 (by decide) rfl
  obtain ⟨i5a, i5b, i5c, i5d⟩ := pz_gi hE 5 0 4294967295 (by decide) rfl
  obtain ⟨i6a, i6b, i6c, i6d⟩ := pz_gi hE 6 0 4294967295 (by decide) rfl
  obtain ⟨i7a, i7b, i7c, i7d⟩ := pz_gi hE 7 2147483656 2147483659 (by decide) rfl
  obtain ⟨i8a, i8b, i8c, i8d⟩ := pz_gi hE 8 2147483520 2147483775 (by decide) rfl
  obtain ⟨i9a, i9b, i9c, i9d⟩ := pz_gi hE 9 0 4294967295 (by decide) rfl
  obtain ⟨i10a, i10b, i10c, i10d⟩ := pz_gi hE 10 0 4294967295 (by decide) rfl
  obtain ⟨i11a, i11b, i11c, i11d⟩ := pz_gi hE 11 0 4294967295 (by decide) rfl
  obtain ⟨i12a, i12b, i12c, i12d⟩ := pz_gi hE 12 0 4294967295 (by decide) rfl
  obtain ⟨i13a, i13b, i13c, i13d⟩ := pz_gi hE 13 0 4294967295 (by decide) rfl
  obtain ⟨i14a, i14b, i14c, i14d⟩ := pz_gi hE 14 2147483648 2147484428 (by decide) rfl
  have s1 : (ρ 11 / 4 + 2147483648) % 4294967296 + (ρ 12 / 4 + 2147483648) % 4294967296 = (96 / 4 + 2147483648) % 4294967296 + 2147483648 := pz_gs hE 47 51 96 (by decide)
  have c_taped : ay_at hp 173 11 = some (ρ 14) := ay_gfj hE 702 44 59 173 11 (by decide) (by rw [ax_vl_c (by decide)]) (by rw [ax_vl_c (by decide)])
  have s2 : (ρ 14 / 4 + 2147483648) % 4294967296 + (ρ 7 / 4 + 2147483648) % 4294967296 = (ρ 9 / 4 + 2147483648) % 4294967296 + 2147483648 := pz_gs hE 59 31 39 (by decide)
  obtain ⟨-, F135⟩ : ay_ex hp 183 ∧ pz_y135 (ρ 1) (ay_at hp 183) := (ax_XF_lt (by decide)).mp (ax_gx hE (135, [7]) (by decide))
  have F134 : pz_y134 (ρ 0) (ρ 2) (ρ 3) (ρ 4) (ρ 5) (ρ 6) (ρ 7) (ρ 1) := (ax_XF_lt (by decide)).mp (ax_gx hE (134, [3, 11, 15, 19, 23, 27, 31, 7]) (by decide))
  have F139 : pz_gN (ρ 0) = (ρ 14) / 4 := (ax_XF_lt (by decide)).mp (ax_gx hE (139, [3, 59]) (by decide))
  obtain ⟨g1, g2, g3⟩ := F134
  replace g2 : ρ 7 / 4 ≤ 20 := g2
  have hk := (pz_ps 8 11 i7b i7c i7d (by decide))
  obtain ⟨r3, a1, a2, a3⟩ := ay_mk hE 3 31 12 55 (by decide) (by decide)
  replace a1 : rx_f_and (ρ 7 / 4) (12 / 4) = some r3 := a1
  rw [show (12 : Nat) / 4 = 3 from rfl, pz_and3 _ (by omega)] at a1
  have a1 := Option.some.inj a1
  replace a3 : ρ 13 = 4 * r3 := a3
  obtain ⟨r2, b1, b2, b3⟩ := ay_mk hE 2 32 55 51 (by decide) (by decide)
  replace b1 : some (32 / 4 * (ρ 13 / 4) % 4294967296) = some r2 := b1
  have b1 := Option.some.inj b1
  replace b3 : ρ 12 = 4 * r2 := b3
  have hp12 : ρ 12 / 4 = 8 * (ρ 7 / 4 % 4) := by
    clear s1 s2
    omega
  have hsh : ρ 11 / 4 = 24 - 8 * (ρ 7 / 4 % 4) := by
    clear s2 b1
    omega
  obtain ⟨r, c1, c2, c3⟩ := ay_mk hE 7 19 47 43 (by decide) (by decide)
  replace c1 : rx_f_shr (ρ 4 / 4) (ρ 11 / 4) = some r := c1
  rw [hsh] at c1
  replace c3 : ρ 10 = 4 * r := c3
  have c4 : ρ 8 = 4 * rx_f_i2b (ρ 10 / 4) := pz_g43 hE 43 35 (by decide)
  rw [c3, show 4 * r / 4 = r by omega] at c4
  have eb : ρ 8 / 4 = pz_by (ρ 4 / 4) (ρ 7 / 4 % 4) := by rw [pz_by_eq c1, c4]; omega
  have es : pz_sel (ρ 2 / 4) (ρ 3 / 4) (ρ 4 / 4) (ρ 5 / 4) (ρ 6 / 4) (ρ 7 / 4) = ρ 4 / 4 := by
    unfold pz_sel
    rw [if_neg (by omega), if_neg (by omega), if_pos (by omega)]
  have hs14 := (pz_ps 0 780 i14b i14c i14d (by decide)).2
  have hq : ρ 9 / 4 = ρ 14 / 4 + ρ 7 / 4 := pz_sm (by omega) (by omega) i9b s2
  have hN : pz_gN (ρ 1) = ρ 9 / 4 := by
    rw [g3, pz_a20_N (by omega), F139, hq]
  have hb8 : ρ 8 = 4 * (ρ 8 / 4) := by omega
  obtain ⟨ρ', h1, h2⟩ := pz_pn1 (K := pz_ap (ρ 1) (ρ 8 / 4) / 4) (xf := [(635, [742, 39, 35, 63]), (136, [3, 11, 15, 19, 23, 27, 31, 63])]) hE (by decide) (fun ρ' h1 h2 x hx => by
    have q0 : ρ' 0 = ρ 0 := h1 0 (by decide)
    have q1 : ρ' 1 = ρ 1 := h1 1 (by decide)
    have q2 : ρ' 2 = ρ 2 := h1 2 (by decide)
    have q3 : ρ' 3 = ρ 3 := h1 3 (by decide)
    have q4 : ρ' 4 = ρ 4 := h1 4 (by decide)
    have q5 : ρ' 5 = ρ 5 := h1 5 (by decide)
    have q6 : ρ' 6 = ρ 6 := h1 6 (by decide)
    have q7 : ρ' 7 = ρ 7 := h1 7 (by decide)
    have q8 : ρ' 8 = ρ 8 := h1 8 (by decide)
    have q9 : ρ' 9 = ρ 9 := h1 9 (by decide)
    have q10 : ρ' 10 = ρ 10 := h1 10 (by decide)
    have q11 : ρ' 11 = ρ 11 := h1 11 (by decide)
    have q12 : ρ' 12 = ρ 12 := h1 12 (by decide)
    have q13 : ρ' 13 = ρ 13 := h1 13 (by decide)
    have q14 : ρ' 14 = ρ 14 := h1 14 (by decide)
    rcases List.mem_cons.mp hx with e | hx
    · subst e
      refine (ax_XF_wr (x := 135) (by decide)).mpr ?_
      show ay_ex (ax_upd hp 742 (ρ' 9) (ρ' 8)) 183 ∧ pz_y135 (ρ' 15) (ay_at (ax_upd hp 742 (ρ' 9) (ρ' 8)) 183)
      rw [q8, q9, h2]
      obtain ⟨o0, ho0⟩ := ay_some hT (q := 183) (g := 53) (n := 800) (ax_wc hw ax_cg_183) (ax_wn hw ax_cn_53) (j := ρ 9 / 4) (by omega)
      have u1 : ∀ q, q ≠ 183 → ay_at (ax_upd hp 742 (ρ 9) (ρ 8)) q = ay_at hp q := fun q hq => funext (fun j => ay_upd_ne hT.1 hq j)
      have u2 : ∀ j, ay_at (ax_upd hp 742 (ρ 9) (ρ 8)) 183 j = if j = ρ 9 / 4 then some (ρ 8) else ay_at hp 183 j := fun j => ay_upd_eq hT.1 rfl ho0 j
      refine ⟨ay_ex_upd hT.1 (ax_cellT hT (q := 183) (g := 53) (ax_wc hw ax_cg_183)), ?_⟩
      rw [pz_ap_4]
      have u3 : ∀ j, ay_at (ax_upd hp 742 (ρ 9) (ρ 8)) 183 j = if j = ρ 9 / 4 then some (4 * (ρ 8 / 4)) else ay_at hp 183 j := fun j => by rw [← hb8]; exact u2 j
      refine ⟨?_, pz_ap_tp hN (by omega) (by omega) F135.2 u3⟩
      rw [(pz_ap_g (by omega)).1]
      omega
    cases List.mem_singleton.mp hx
    refine (ax_XF_lt (x := 136) (by decide)).mpr ?_
    show pz_y136 (ρ' 0) (ρ' 2) (ρ' 3) (ρ' 4) (ρ' 5) (ρ' 6) (ρ' 7) (ρ' 15)
    rw [q0, q2, q3, q4, q5, q6, q7, h2]
    rw [pz_ap_4]
    refine ⟨g1, by omega, ?_⟩
    show _ = pz_ap (pz_a20 (ρ 2 / 4) (ρ 3 / 4) (ρ 4 / 4) (ρ 5 / 4) (ρ 6 / 4) (ρ 0) (ρ 7 / 4)) (pz_by (pz_sel (ρ 2 / 4) (ρ 3 / 4) (ρ 4 / 4) (ρ 5 / 4) (ρ 6 / 4) (ρ 7 / 4)) (ρ 7 / 4 % 4))
    rw [es, ← eb, ← g3])
  exact ⟨(fun y hy => by cases hy), _, List.mem_cons_self, ρ', h1, h2⟩
theorem axq0_mf2_2 : ax_RO ax_wM0 (ax_XM 0) axu0_mf2_2 := axqg_mf2_2 ax_WW0
theorem axqg_mf2_3 {w : ax_W} {b : Nat} (hw : ax_WW w) : ax_RO w (ax_XM b) axu0_mf2_3 := by
  intro ρ hp hE hT
  have j0 : ρ 0 % 4 = 1 := pz_gj hE 0 (by decide) rfl
  have j1 : ρ 1 % 4 = 1 := pz_gj hE 1 (by decide) rfl
  obtain ⟨i2a, i2b, i2c, i2d⟩ := pz_gi hE 2 0 4294967295 (by decide) rfl
  obtain ⟨i3a, i3b, i3c, i3d⟩ := pz_gi hE 3 0 4294967295 (by decide) rfl
  obtain ⟨i4a, i4b, i4c, i4d⟩ := pz_gi hE 4 0 4294967295 (by decide) rfl
  obtain ⟨i5a, i5b, i5c, i5d⟩ := pz_gi hE 5 0 4294967295 (by decide) rfl
  obtain ⟨i6a, i6b, i6c, i6d⟩ := pz_gi hE 6 0 4294967295 (by decide) rfl
  obtain ⟨i7a, i7b, i7c, i7d⟩ := pz_gi hE 7 2147483660 2147483663 (by decide) rfl
  obtain ⟨i8a, i8b, i8c, i8d⟩ := pz_gi hE 8 2147483520 2147483775 (by decide) rfl
  obtain ⟨i9a, i9b, i9c, i9d⟩ := pz_gi hE 9 0 4294967295 (by decide) rfl
  obtain ⟨i10a, i10b, i10c, i10d⟩ := pz_gi hE 10 0 4294967295 (by decide) rfl
  obtain ⟨i11a, i11b, i11c, i11d⟩ := pz_gi hE 11 0 4294967295 (by decide) rfl
  obtain ⟨i12a, i12b, i12c, i12d⟩ := pz_gi hE 12 0 4294967295 (by decide) rfl
  obtain ⟨i13a, i13b, i13c, i13d⟩ := pz_gi hE 13 0 4294967295 (by decide) rfl
  obtain ⟨i14a, i14b, i14c, i14d⟩ := pz_gi hE 14 2147483648 2147484428 (by decide) rfl
  have s1 : (ρ 11 / 4 + 2147483648) % 4294967296 + (ρ 12 / 4 + 2147483648) % 4294967296 = (96 / 4 + 2147483648) % 4294967296 + 2147483648 := pz_gs hE 47 51 96 (by decide)
  have c_taped : ay_at hp 173 11 = some (ρ 14) := ay_gfj hE 702 44 59 173 11 (by decide) (by rw [ax_vl_c (by decide)]) (by rw [ax_vl_c (by decide)])
  have s2 : (ρ 14 / 4 + 2147483648) % 4294967296 + (ρ 7 / 4 + 2147483648) % 4294967296 = (ρ 9 / 4 + 2147483648) % 4294967296 + 2147483648 := pz_gs hE 59 31 39 (by decide)
  obtain ⟨-, F135⟩ : ay_ex hp 183 ∧ pz_y135 (ρ 1) (ay_at hp 183) := (ax_XF_lt (by decide)).mp (ax_gx hE (135, [7]) (by decide))
  have F134 : pz_y134 (ρ 0) (ρ 2) (ρ 3) (ρ 4) (ρ 5) (ρ 6) (ρ 7) (ρ 1) := (ax_XF_lt (by decide)).mp (ax_gx hE (134, [3, 11, 15, 19, 23, 27, 31, 7]) (by decide))
  have F139 : pz_gN (ρ 0) = (ρ 14) / 4 := (ax_XF_lt (by decide)).mp (ax_gx hE (139, [3, 59]) (by decide))
  obtain ⟨g1, g2, g3⟩ := F134
  replace g2 : ρ 7 / 4 ≤ 20 := g2
  have hk := (pz_ps 12 15 i7b i7c i7d (by decide))
  obtain ⟨r3, a1, a2, a3⟩ := ay_mk hE 3 31 12 55 (by decide) (by decide)
  replace a1 : rx_f_and (ρ 7 / 4) (12 / 4) = some r3 := a1
  rw [show (12 : Nat) / 4 = 3 from rfl, pz_and3 _ (by omega)] at a1
  have a1 := Option.some.inj a1
  replace a3 : ρ 13 = 4 * r3 := a3
  obtain ⟨r2, b1, b2, b3⟩ := ay_mk hE 2 32 55 51 (by decide) (by decide)
  replace b1 : some (32 / 4 * (ρ 13 / 4) % 4294967296) = some r2 := b1
  have b1 := Option.some.inj b1
  replace b3 : ρ 12 = 4 * r2 := b3
  have hp12 : ρ 12 / 4 = 8 * (ρ 7 / 4 % 4) := by
    clear s1 s2
    omega
  have hsh : ρ 11 / 4 = 24 - 8 * (ρ 7 / 4 % 4) := by
    clear s2 b1
    omega
  obtain ⟨r, c1, c2, c3⟩ := ay_mk hE 7 23 47 43 (by decide) (by decide)
  replace c1 : rx_f_shr (ρ 5 / 4) (ρ 11 / 4) = some r := c1
  rw [hsh] at c1
  replace c3 : ρ 10 = 4 * r := c3
  have c4 : ρ 8 = 4 * rx_f_i2b (ρ 10 / 4) := pz_g43 hE 43 35 (by decide)
  rw [c3, show 4 * r / 4 = r by omega] at c4
  have eb : ρ 8 / 4 = pz_by (ρ 5 / 4) (ρ 7 / 4 % 4) := by rw [pz_by_eq c1, c4]; omega
  have es : pz_sel (ρ 2 / 4) (ρ 3 / 4) (ρ 4 / 4) (ρ 5 / 4) (ρ 6 / 4) (ρ 7 / 4) = ρ 5 / 4 := by
    unfold pz_sel
    rw [if_neg (by omega), if_neg (by omega), if_neg (by omega), if_pos (by omega)]
  have hs14 := (pz_ps 0 780 i14b i14c i14d (by decide)).2
  have hq : ρ 9 / 4 = ρ 14 / 4 + ρ 7 / 4 := pz_sm (by omega) (by omega) i9b s2
  have hN : pz_gN (ρ 1) = ρ 9 / 4 := by
    rw [g3, pz_a20_N (by omega), F139, hq]
  have hb8 : ρ 8 = 4 * (ρ 8 / 4) := by omega
  obtain ⟨ρ', h1, h2⟩ := pz_pn1 (K := pz_ap (ρ 1) (ρ 8 / 4) / 4) (xf := [(635, [742, 39, 35, 63]), (136, [3, 11, 15, 19, 23, 27, 31, 63])]) hE (by decide) (fun ρ' h1 h2 x hx => by
    have q0 : ρ' 0 = ρ 0 := h1 0 (by decide)
    have q1 : ρ' 1 = ρ 1 := h1 1 (by decide)
    have q2 : ρ' 2 = ρ 2 := h1 2 (by decide)
    have q3 : ρ' 3 = ρ 3 := h1 3 (by decide)
    have q4 : ρ' 4 = ρ 4 := h1 4 (by decide)
    have q5 : ρ' 5 = ρ 5 := h1 5 (by decide)
    have q6 : ρ' 6 = ρ 6 := h1 6 (by decide)
    have q7 : ρ' 7 = ρ 7 := h1 7 (by decide)
    have q8 : ρ' 8 = ρ 8 := h1 8 (by decide)
    have q9 : ρ' 9 = ρ 9 := h1 9 (by decide)
    have q10 : ρ' 10 = ρ 10 := h1 10 (by decide)
    have q11 : ρ' 11 = ρ 11 := h1 11 (by decide)
    have q12 : ρ' 12 = ρ 12 := h1 12 (by decide)
    have q13 : ρ' 13 = ρ 13 := h1 13 (by decide)
    have q14 : ρ' 14 = ρ 14 := h1 14 (by decide)
    rcases List.mem_cons.mp hx with e | hx
    · subst e
      refine (ax_XF_wr (x := 135) (by decide)).mpr ?_
      show ay_ex (ax_upd hp 742 (ρ' 9) (ρ' 8)) 183 ∧ pz_y135 (ρ' 15) (ay_at (ax_upd hp 742 (ρ' 9) (ρ' 8)) 183)
      rw [q8, q9, h2]
      obtain ⟨o0, ho0⟩ := ay_some hT (q := 183) (g := 53) (n := 800) (ax_wc hw ax_cg_183) (ax_wn hw ax_cn_53) (j := ρ 9 / 4) (by omega)
      have u1 : ∀ q, q ≠ 183 → ay_at (ax_upd hp 742 (ρ 9) (ρ 8)) q = ay_at hp q := fun q hq => funext (fun j => ay_upd_ne hT.1 hq j)
      have u2 : ∀ j, ay_at (ax_upd hp 742 (ρ 9) (ρ 8)) 183 j = if j = ρ 9 / 4 then some (ρ 8) else ay_at hp 183 j := fun j => ay_upd_eq hT.1 rfl ho0 j
      refine ⟨ay_ex_upd hT.1 (ax_cellT hT (q := 183) (g := 53) (ax_wc hw ax_cg_183)), ?_⟩
      rw [pz_ap_4]
      have u3 : ∀ j, ay_at (ax_upd hp 742 (ρ 9) (ρ 8)) 183 j = if j = ρ 9 / 4 then some (4 * (ρ 8 / 4)) else ay_at hp 183 j := fun j => by rw [← hb8]; exact u2 j
      refine ⟨?_, pz_ap_tp hN (by omega) (by omega) F135.2 u3⟩
      rw [(pz_ap_g (by omega)).1]
      omega
    cases List.mem_singleton.mp hx
    refine (ax_XF_lt (x := 136) (by decide)).mpr ?_
    show pz_y136 (ρ' 0) (ρ' 2) (ρ' 3) (ρ' 4) (ρ' 5) (ρ' 6) (ρ' 7) (ρ' 15)
    rw [q0, q2, q3, q4, q5, q6, q7, h2]
    rw [pz_ap_4]
    refine ⟨g1, by omega, ?_⟩
    show _ = pz_ap (pz_a20 (ρ 2 / 4) (ρ 3 / 4) (ρ 4 / 4) (ρ 5 / 4) (ρ 6 / 4) (ρ 0) (ρ 7 / 4)) (pz_by (pz_sel (ρ 2 / 4) (ρ 3 / 4) (ρ 4 / 4) (ρ 5 / 4) (ρ 6 / 4) (ρ 7 / 4)) (ρ 7 / 4 % 4))
    rw [es, ← eb, ← g3])
  exact ⟨(fun y hy => by cases hy), _, List.mem_cons_self, ρ', h1, h2⟩
theorem axq0_mf2_3 : ax_RO ax_wM0 (ax_XM 0) axu0_mf2_3 := axqg_mf2_3 ax_WW0
theorem axqg_mf2_4 {w : ax_W} {b : Nat} (hw : ax_WW w) : ax_RO w (ax_XM b) axu0_mf2_4 := by
  intro ρ hp hE hT
  have j0 : ρ 0 % 4 = 1 := pz_gj hE 0 (by decide) rfl
  have j1 : ρ 1 % 4 = 1 := pz_gj hE 1 (by decide) rfl
  obtain ⟨i2a, i2b, i2c, i2d⟩ := pz_gi hE 2 0 4294967295 (by decide) rfl
  obtain ⟨i3a, i3b, i3c, i3d⟩ := pz_gi hE 3 0 4294967295 (by decide) rfl
  obtain ⟨i4a, i4b, i4c, i4d⟩ := pz_gi hE 4 0 4294967295 (by decide) rfl
  obtain ⟨i5a, i5b, i5c, i5d⟩ := pz_gi hE 5 0 4294967295 (by decide) rfl
  obtain ⟨i6a, i6b, i6c, i6d⟩ := pz_gi hE 6 0 4294967295 (by decide) rfl
  obtain ⟨i7a, i7b, i7c, i7d⟩ := pz_gi hE 7 2147483664 2147483667 (by decide) rfl
  obtain ⟨i8a, i8b, i8c, i8d⟩ := pz_gi hE 8 2147483520 2147483775 (by decide) rfl
  obtain ⟨i9a, i9b, i9c, i9d⟩ := pz_gi hE 9 0 4294967295 (by decide) rfl
  obtain ⟨i10a, i10b, i10c, i10d⟩ := pz_gi hE 10 0 4294967295 (by decide) rfl
  obtain ⟨i11a, i11b, i11c, i11d⟩ := pz_gi hE 11 0 4294967295 (by decide) rfl
  obtain ⟨i12a, i12b, i12c, i12d⟩ := pz_gi hE 12 0 4294967295 (by decide) rfl
  obtain ⟨i13a, i13b, i13c, i13d⟩ := pz_gi hE 13 0 4294967295 (by decide) rfl
  obtain ⟨i14a, i14b, i14c, i14d⟩ := pz_gi hE 14 2147483648 2147484428 (by decide) rfl
  have s1 : (ρ 11 / 4 + 2147483648) % 4294967296 + (ρ 12 / 4 + 2147483648) % 4294967296 = (96 / 4 + 2147483648) % 4294967296 + 2147483648 := pz_gs hE 47 51 96 (by decide)
  have c_taped : ay_at hp 173 11 = some (ρ 14) := ay_gfj hE 702 44 59 173 11 (by decide) (by rw [ax_vl_c (by decide)]) (by rw [ax_vl_c (by decide)])
  have s2 : (ρ 14 / 4 + 2147483648) % 4294967296 + (ρ 7 / 4 + 2147483648) % 4294967296 = (ρ 9 / 4 + 2147483648) % 4294967296 + 2147483648 := pz_gs hE 59 31 39 (by decide)
  obtain ⟨-, F135⟩ : ay_ex hp 183 ∧ pz_y135 (ρ 1) (ay_at hp 183) := (ax_XF_lt (by decide)).mp (ax_gx hE (135, [7]) (by decide))
  have F134 : pz_y134 (ρ 0) (ρ 2) (ρ 3) (ρ 4) (ρ 5) (ρ 6) (ρ 7) (ρ 1) := (ax_XF_lt (by decide)).mp (ax_gx hE (134, [3, 11, 15, 19, 23, 27, 31, 7]) (by decide))
  have F139 : pz_gN (ρ 0) = (ρ 14) / 4 := (ax_XF_lt (by decide)).mp (ax_gx hE (139, [3, 59]) (by decide))
  obtain ⟨g1, g2, g3⟩ := F134
  replace g2 : ρ 7 / 4 ≤ 20 := g2
  have hk := (pz_ps 16 19 i7b i7c i7d (by decide))
  obtain ⟨r3, a1, a2, a3⟩ := ay_mk hE 3 31 12 55 (by decide) (by decide)
  replace a1 : rx_f_and (ρ 7 / 4) (12 / 4) = some r3 := a1
  rw [show (12 : Nat) / 4 = 3 from rfl, pz_and3 _ (by omega)] at a1
  have a1 := Option.some.inj a1
  replace a3 : ρ 13 = 4 * r3 := a3
  obtain ⟨r2, b1, b2, b3⟩ := ay_mk hE 2 32 55 51 (by decide) (by decide)
  replace b1 : some (32 / 4 * (ρ 13 / 4) % 4294967296) = some r2 := b1
  have b1 := Option.some.inj b1
  replace b3 : ρ 12 = 4 * r2 := b3
  have hp12 : ρ 12 / 4 = 8 * (ρ 7 / 4 % 4) := by
    clear s1 s2
    omega
  have hsh : ρ 11 / 4 = 24 - 8 * (ρ 7 / 4 % 4) := by
    clear s2 b1
    omega
  obtain ⟨r, c1, c2, c3⟩ := ay_mk hE 7 27 47 43 (by decide) (by decide)
  replace c1 : rx_f_shr (ρ 6 / 4) (ρ 11 / 4) = some r := c1
  rw [hsh] at c1
  replace c3 : ρ 10 = 4 * r := c3
  have c4 : ρ 8 = 4 * rx_f_i2b (ρ 10 / 4) := pz_g43 hE 43 35 (by decide)
  rw [c3, show 4 * r / 4 = r by omega] at c4
  have eb : ρ 8 / 4 = pz_by (ρ 6 / 4) (ρ 7 / 4 % 4) := by rw [pz_by_eq c1, c4]; omega
  have es : pz_sel (ρ 2 / 4) (ρ 3 / 4) (ρ 4 / 4) (ρ 5 / 4) (ρ 6 / 4) (ρ 7 / 4) = ρ 6 / 4 := by
    unfold pz_sel
    rw [if_neg (by omega), if_neg (by omega), if_neg (by omega), if_neg (by omega)]
  have hs14 := (pz_ps 0 780 i14b i14c i14d (by decide)).2
  have hq : ρ 9 / 4 = ρ 14 / 4 + ρ 7 / 4 := pz_sm (by omega) (by omega) i9b s2
  have hN : pz_gN (ρ 1) = ρ 9 / 4 := by
    rw [g3, pz_a20_N (by omega), F139, hq]
  have hb8 : ρ 8 = 4 * (ρ 8 / 4) := by omega
  obtain ⟨ρ', h1, h2⟩ := pz_pn1 (K := pz_ap (ρ 1) (ρ 8 / 4) / 4) (xf := [(635, [742, 39, 35, 63]), (136, [3, 11, 15, 19, 23, 27, 31, 63])]) hE (by decide) (fun ρ' h1 h2 x hx => by
    have q0 : ρ' 0 = ρ 0 := h1 0 (by decide)
    have q1 : ρ' 1 = ρ 1 := h1 1 (by decide)
    have q2 : ρ' 2 = ρ 2 := h1 2 (by decide)
    have q3 : ρ' 3 = ρ 3 := h1 3 (by decide)
    have q4 : ρ' 4 = ρ 4 := h1 4 (by decide)
    have q5 : ρ' 5 = ρ 5 := h1 5 (by decide)
    have q6 : ρ' 6 = ρ 6 := h1 6 (by decide)
    have q7 : ρ' 7 = ρ 7 := h1 7 (by decide)
    have q8 : ρ' 8 = ρ 8 := h1 8 (by decide)
    have q9 : ρ' 9 = ρ 9 := h1 9 (by decide)
    have q10 : ρ' 10 = ρ 10 := h1 10 (by decide)
    have q11 : ρ' 11 = ρ 11 := h1 11 (by decide)
    have q12 : ρ' 12 = ρ 12 := h1 12 (by decide)
    have q13 : ρ' 13 = ρ 13 := h1 13 (by decide)
    have q14 : ρ' 14 = ρ 14 := h1 14 (by decide)
    rcases List.mem_cons.mp hx with e | hx
    · subst e
      refine (ax_XF_wr (x := 135) (by decide)).mpr ?_
      show ay_ex (ax_upd hp 742 (ρ' 9) (ρ' 8)) 183 ∧ pz_y135 (ρ' 15) (ay_at (ax_upd hp 742 (ρ' 9) (ρ' 8)) 183)
      rw [q8, q9, h2]
      obtain ⟨o0, ho0⟩ := ay_some hT (q := 183) (g := 53) (n := 800) (ax_wc hw ax_cg_183) (ax_wn hw ax_cn_53) (j := ρ 9 / 4) (by omega)
      have u1 : ∀ q, q ≠ 183 → ay_at (ax_upd hp 742 (ρ 9) (ρ 8)) q = ay_at hp q := fun q hq => funext (fun j => ay_upd_ne hT.1 hq j)
      have u2 : ∀ j, ay_at (ax_upd hp 742 (ρ 9) (ρ 8)) 183 j = if j = ρ 9 / 4 then some (ρ 8) else ay_at hp 183 j := fun j => ay_upd_eq hT.1 rfl ho0 j
      refine ⟨ay_ex_upd hT.1 (ax_cellT hT (q := 183) (g := 53) (ax_wc hw ax_cg_183)), ?_⟩
      rw [pz_ap_4]
      have u3 : ∀ j, ay_at (ax_upd hp 742 (ρ 9) (ρ 8)) 183 j = if j = ρ 9 / 4 then some (4 * (ρ 8 / 4)) else ay_at hp 183 j := fun j => by rw [← hb8]; exact u2 j
      refine ⟨?_, pz_ap_tp hN (by omega) (by omega) F135.2 u3⟩
      rw [(pz_ap_g (by omega)).1]
      omega
    cases List.mem_singleton.mp hx
    refine (ax_XF_lt (x := 136) (by decide)).mpr ?_
    show pz_y136 (ρ' 0) (ρ' 2) (ρ' 3) (ρ' 4) (ρ' 5) (ρ' 6) (ρ' 7) (ρ' 15)
    rw [q0, q2, q3, q4, q5, q6, q7, h2]
    rw [pz_ap_4]
    refine ⟨g1, by omega, ?_⟩
    show _ = pz_ap (pz_a20 (ρ 2 / 4) (ρ 3 / 4) (ρ 4 / 4) (ρ 5 / 4) (ρ 6 / 4) (ρ 0) (ρ 7 / 4)) (pz_by (pz_sel (ρ 2 / 4) (ρ 3 / 4) (ρ 4 / 4) (ρ 5 / 4) (ρ 6 / 4) (ρ 7 / 4)) (ρ 7 / 4 % 4))
    rw [es, ← eb, ← g3])
  exact ⟨(fun y hy => by cases hy), _, List.mem_cons_self, ρ', h1, h2⟩
theorem axq0_mf2_4 : ax_RO ax_wM0 (ax_XM 0) axu0_mf2_4 := axqg_mf2_4 ax_WW0
theorem axqg_mf3 {w : ax_W} {b : Nat} (hw : ax_WW w) : ax_RO w (ax_XM b) axu0_mf3 := by
  intro ρ hp hE hT
  have j0 : ρ 0 % 4 = 1 := pz_gj hE 0 (by decide) rfl
  have j1 : ρ 1 % 4 = 1 := pz_gj hE 1 (by decide) rfl
  obtain ⟨i2a, i2b, i2c, i2d⟩ := pz_gi hE 2 0 4294967295 (by decide) rfl
  obtain ⟨i3a, i3b, i3c, i3d⟩ := pz_gi hE 3 0 4294967295 (by decide) rfl
  obtain ⟨i4a, i4b, i4c, i4d⟩ := pz_gi hE 4 0 4294967295 (by decide) rfl
  obtain ⟨i5a, i5b, i5c, i5d⟩ := pz_gi hE 5 0 4294967295 (by decide) rfl
  obtain ⟨i6a, i6b, i6c, i6d⟩ := pz_gi hE 6 0 4294967295 (by decide) rfl
  obtain ⟨i7a, i7b, i7c, i7d⟩ := pz_gi hE 7 2147483648 2147483667 (by decide) rfl
  obtain ⟨i8a, i8b, i8c, i8d⟩ := pz_gi hE 8 0 4294967295 (by decide) rfl
  have s1 : (ρ 7 / 4 + 2147483648) % 4294967296 + (4 / 4 + 2147483648) % 4294967296 = (ρ 8 / 4 + 2147483648) % 4294967296 + 2147483648 := pz_gs hE 31 4 35 (by decide)
  obtain ⟨-, F135⟩ : ay_ex hp 183 ∧ pz_y135 (ρ 1) (ay_at hp 183) := (ax_XF_lt (by decide)).mp (ax_gx hE (135, [7]) (by decide))
  have F136 : pz_y136 (ρ 0) (ρ 2) (ρ 3) (ρ 4) (ρ 5) (ρ 6) (ρ 7) (ρ 1) := (ax_XF_lt (by decide)).mp (ax_gx hE (136, [3, 11, 15, 19, 23, 27, 31, 7]) (by decide))
  have e : ρ 8 / 4 = ρ 7 / 4 + 1 := by omega
  refine ⟨(fun y hy => by cases hy), _, List.mem_cons_self, ρ, fun _ _ => rfl, ax_px hE (by decide) (fun x hx => ?_)⟩
  cases List.mem_singleton.mp hx
  refine (ax_XF_lt (x := 134) (by decide)).mpr ?_
  show pz_y134 (ρ 0) (ρ 2) (ρ 3) (ρ 4) (ρ 5) (ρ 6) (ρ 8) (ρ 1)
  obtain ⟨g1, g2, g3⟩ := F136
  refine ⟨g1, by omega, ?_⟩
  rw [e]
  exact g3
theorem axq0_mf3 : ax_RO ax_wM0 (ax_XM 0) axu0_mf3 := axqg_mf3 ax_WW0
theorem axqg_mf4 {w : ax_W} {b : Nat} (hw : ax_WW w) : ax_RO w (ax_XM b) axu0_mf4 := by
  intro ρ hp hE hT
  have j0 : ρ 0 % 4 = 1 := pz_gj hE 0 (by decide) rfl
  have j1 : ρ 1 % 4 = 1 := pz_gj hE 1 (by decide) rfl
  obtain ⟨i2a, i2b, i2c, i2d⟩ := pz_gi hE 2 0 4294967295 (by decide) rfl
  obtain ⟨i3a, i3b, i3c, i3d⟩ := pz_gi hE 3 0 4294967295 (by decide) rfl
  obtain ⟨i4a, i4b, i4c, i4d⟩ := pz_gi hE 4 0 4294967295 (by decide) rfl
  obtain ⟨i5a, i5b, i5c, i5d⟩ := pz_gi hE 5 0 4294967295 (by decide) rfl
  obtain ⟨i6a, i6b, i6c, i6d⟩ := pz_gi hE 6 0 4294967295 (by decide) rfl
  obtain ⟨i7a, i7b, i7c, i7d⟩ := pz_gi hE 7 2147483668 2147483668 (by decide) rfl
  obtain ⟨i8a, i8b, i8c, i8d⟩ := pz_gi hE 8 2147483648 2147484428 (by decide) rfl
  obtain ⟨i9a, i9b, i9c, i9d⟩ := pz_gi hE 9 0 4294967295 (by decide) rfl
  have c_taped : ay_at hp 173 11 = some (ρ 8) := ay_gfj hE 702 44 35 173 11 (by decide) (by rw [ax_vl_c (by decide)]) (by rw [ax_vl_c (by decide)])
  have s1 : (ρ 8 / 4 + 2147483648) % 4294967296 + (80 / 4 + 2147483648) % 4294967296 = (ρ 9 / 4 + 2147483648) % 4294967296 + 2147483648 := pz_gs hE 35 80 39 (by decide)
  obtain ⟨-, F135⟩ : ay_ex hp 183 ∧ pz_y135 (ρ 1) (ay_at hp 183) := (ax_XF_lt (by decide)).mp (ax_gx hE (135, [7]) (by decide))
  have F134 : pz_y134 (ρ 0) (ρ 2) (ρ 3) (ρ 4) (ρ 5) (ρ 6) (ρ 7) (ρ 1) := (ax_XF_lt (by decide)).mp (ax_gx hE (134, [3, 11, 15, 19, 23, 27, 31, 7]) (by decide))
  have F139 : pz_gN (ρ 0) = (ρ 8) / 4 := (ax_XF_lt (by decide)).mp (ax_gx hE (139, [3, 35]) (by decide))
  obtain ⟨g1, g2, g3⟩ := F134
  have hk : ρ 7 / 4 = 20 := by omega
  rw [hk] at g3
  have e0 : pz_gN (ρ 0) = ρ 8 / 4 := F139
  have hN : pz_gN (ρ 1) = ρ 8 / 4 + 20 := by rw [g3, pz_a20_N (by omega), e0]
  refine ⟨(fun y hy => by cases hy), _, List.mem_cons_self, ρ, fun _ _ => rfl, ax_px hE (by decide) (fun x hx => ?_)⟩
  rcases List.mem_cons.mp hx with e | hx
  · subst e
    refine (ax_XF_wr (x := 130) (by decide)).mpr ?_
    show ay_ex (ax_upd hp 702 (44) (ρ 9)) 173 ∧ ay_ex (ax_upd hp 702 (44) (ρ 9)) 183 ∧ pz_x30 (ρ 1) (ay_at (ax_upd hp 702 (44) (ρ 9)) 173 11) (ay_at (ax_upd hp 702 (44) (ρ 9)) 183)
    obtain ⟨o0, ho0⟩ := ay_some hT (q := 173) (g := 11) (n := 58) (ax_wc hw ax_cg_173) (ax_wn hw ax_cn_11) (j := 44 / 4) (by decide)
    have u1 : ∀ q, q ≠ 173 → ay_at (ax_upd hp 702 44 (ρ 9)) q = ay_at hp q := fun q hq => funext (fun j => ay_upd_ne hT.1 hq j)
    have u2 : ∀ j, ay_at (ax_upd hp 702 44 (ρ 9)) 173 j = if j = 11 then some (ρ 9) else ay_at hp 173 j := fun j => ay_upd_eq hT.1 rfl ho0 j
    refine ⟨ay_ex_upd hT.1 (ax_cellT hT (q := 173) (g := 11) (ax_wc hw ax_cg_173)), ay_ex_upd hT.1 (ax_cellT hT (q := 183) (g := 53) (ax_wc hw ax_cg_183)), ?_⟩
    rw [u2 11, if_pos rfl, u1 183 (by decide)]
    refine ⟨?_, F135.1, F135.2⟩
    show ρ 9 / 4 = pz_gN (ρ 1)
    rw [hN]
    omega
  cases List.mem_singleton.mp hx
  refine (ax_XF_lt (x := 137) (by decide)).mpr ?_
  show (ρ 1) = pz_a20 ((ρ 2) / 4) ((ρ 3) / 4) ((ρ 4) / 4) ((ρ 5) / 4) ((ρ 6) / 4) (ρ 0) 20
  exact g3
theorem axq0_mf4 : ax_RO ax_wM0 (ax_XM 0) axu0_mf4 := axqg_mf4 ax_WW0
theorem axqg_me1 {w : ax_W} {b : Nat} (hw : ax_WW w) : ax_RO w (ax_XM b) axu0_me1 := by
  intro ρ hp hE hT
  have j0 : ρ 0 % 4 = 1 := pz_gj hE 0 (by decide) rfl
  obtain ⟨i1a, i1b, i1c, i1d⟩ := pz_gi hE 1 2147483648 2147484448 (by decide) rfl
  obtain ⟨i2a, i2b, i2c, i2d⟩ := pz_gi hE 2 2147483648 2147484448 (by decide) rfl
  have c_taped : ay_at hp 173 11 = some (ρ 2) := ay_gfj hE 702 44 11 173 11 (by decide) (by rw [ax_vl_c (by decide)]) (by rw [ax_vl_c (by decide)])
  have r1 : (ρ 1 / 4 + 2147483648) % 4294967296 ≤ (ρ 2 / 4 + 2147483648) % 4294967296 := pz_gc hE 5 7 11 (by decide) (by decide)
  obtain ⟨-, -, F130⟩ : ay_ex hp 173 ∧ ay_ex hp 183 ∧ pz_x30 (ρ 0) (ay_at hp 173 11) (ay_at hp 183) := (ax_XF_lt (by decide)).mp (ax_gx hE (130, [3]) (by decide))
  rw [c_taped] at F130
  obtain ⟨ρ', h1, h2⟩ := pz_pn1 (K := pz_cut (ρ 0) (ρ 1 / 4) / 4) (xf := [(630, [702, 44, 7, 15]), (138, [3, 7, 15])]) hE (by decide) (fun ρ' h1 h2 x hx => by
    have q0 : ρ' 0 = ρ 0 := h1 0 (by decide)
    have q1 : ρ' 1 = ρ 1 := h1 1 (by decide)
    have q2 : ρ' 2 = ρ 2 := h1 2 (by decide)
    rcases List.mem_cons.mp hx with e | hx
    · subst e
      refine (ax_XF_wr (x := 130) (by decide)).mpr ?_
      show ay_ex (ax_upd hp 702 (44) (ρ' 1)) 173 ∧ ay_ex (ax_upd hp 702 (44) (ρ' 1)) 183 ∧ pz_x30 (ρ' 3) (ay_at (ax_upd hp 702 (44) (ρ' 1)) 173 11) (ay_at (ax_upd hp 702 (44) (ρ' 1)) 183)
      rw [q1, h2]
      obtain ⟨o0, ho0⟩ := ay_some hT (q := 173) (g := 11) (n := 58) (ax_wc hw ax_cg_173) (ax_wn hw ax_cn_11) (j := 44 / 4) (by decide)
      have u1 : ∀ q, q ≠ 173 → ay_at (ax_upd hp 702 44 (ρ 1)) q = ay_at hp q := fun q hq => funext (fun j => ay_upd_ne hT.1 hq j)
      have u2 : ∀ j, ay_at (ax_upd hp 702 44 (ρ 1)) 173 j = if j = 11 then some (ρ 1) else ay_at hp 173 j := fun j => ay_upd_eq hT.1 rfl ho0 j
      refine ⟨ay_ex_upd hT.1 (ax_cellT hT (q := 173) (g := 11) (ax_wc hw ax_cg_173)), ay_ex_upd hT.1 (ax_cellT hT (q := 183) (g := 53) (ax_wc hw ax_cg_183)), ?_⟩
      rw [u2 11, if_pos rfl, u1 183 (by decide)]
      rw [pz_cut_4]
      have e := pz_cut_g (g := ρ 0) (n := ρ 1 / 4) (by omega)
      have eN : ρ 2 / 4 = pz_gN (ρ 0) := F130.1
      refine ⟨?_, ?_, fun j hj => ?_⟩
      · show ρ 1 / 4 = _
        rw [e.1]
      · rw [e.1]
        omega
      · rw [e.1] at hj
        rw [e.2]
        exact F130.2.2 j (by omega)
    cases List.mem_singleton.mp hx
    refine (ax_XF_lt (x := 138) (by decide)).mpr ?_
    show (ρ' 3) = pz_cut (ρ' 0) ((ρ' 1) / 4)
    rw [q0, q1, h2]
    rw [pz_cut_4])
  exact ⟨(fun y hy => by cases hy), _, List.mem_cons_self, ρ', h1, h2⟩
theorem axq0_me1 : ax_RO ax_wM0 (ax_XM 0) axu0_me1 := axqg_me1 ax_WW0
