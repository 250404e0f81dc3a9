/-! plan, depends on both sides -/
section DEP
variable {nn L R N : Nat} {E C : Nat → Nat} {v v2 : fx_V} {F F' G G' : fx_F}
theorem o_plan {a b : Nat} (ha : a < 4294967296) (hb : b < 4294967296) (h : lr F G nn L E C N R) (hF : Cl k_T_plan [(2, 2), (0, a), (0, b)] F v F') (hG : Cl k_M_plan [(2, 175), (0, a), (0, b)] G v2 G') : v = v2 ∧ lr F' G' nn L E C N R ∧ sF F F' ∧ sG G G' := by
  have hL := h.1.1.2.1
  have hN := h.1.1
  have hn := hN.1
  have hs0 := h.2.2.2.1.2
  obtain ⟨nF, hF⟩ := c_T_plan hF
  obtain ⟨nG, hG⟩ := c_M_plan hG
  have Q := q_T_plan_0 hF
  have QG := q_M_plan_0 hG
  rw [h.2.1.1.1] at Q
  rw [h.2.2.1.1.2.1] at QG
  have no : v = (0, 4294967295) ∧ F' = F → v2 = (0, 4294967295) ∧ G' = G → v = v2 ∧ lr F' G' nn L E C N R ∧ sF F F' ∧ sG G G' := by
    rintro ⟨x1, x2⟩ ⟨y1, y2⟩
    subst x2
    subst y2
    exact ⟨x1.trans y1.symm, h, sF.rf, sG.rf⟩
  by_cases hl : a < nn
  · obtain ⟨i1, i2, i3⟩ := in_y hl (show nn ≤ 40 by clear Q QG; omega)
    replace Q := (Q.2 i1).2 i2
    replace QG := (QG.2 i1).2 i3
    rcases bnd01 hb with ⟨c2, j1, j2⟩ | z | ⟨z1, z2⟩
    · obtain ⟨F1, c1, Q1, Q2⟩ := (Q.2 j1).1 j2
      obtain ⟨QG1, QG2⟩ := (QG.2 j1).2 j2
      clear Q QG
      by_cases e : b = 1
      · obtain ⟨n1, G1, d1, y1, y2⟩ := QG2 e
        obtain ⟨x1, x2⟩ := Q1 (by rw [e]; decide)
        clear Q1 Q2 QG1 QG2
        obtain ⟨nw, w1, w2, w3, w4, w5, -, w6⟩ := plan2 h hl c1 d1
        subst x2
        subst y2
        refine ⟨?_, w2⟩
        rcases w6 with ⟨k, k0, k1, k2, k3, k4, k5⟩ | ⟨k1, k2, k4⟩
        · cases k2; rw [x1, y1, k4]
        · cases k2; rw [x1, y1, k4]
      · have e0 : b = 0 := by clear Q1 Q2 QG1 QG2; omega
        obtain ⟨G1, d1, n2, G2, d2, y1, y2⟩ := QG1 e
        obtain ⟨x1, x2⟩ := Q2 e0
        clear Q1 Q2 QG1 QG2
        have hS : S0 (F 2 13) := h.2.2.2.1.1.1.1
        have hS' : 53 ≤ F 2 13 := by unfold S0 at hS; omega
        obtain ⟨nw, -, a2, a3, a4, a5⟩ := s_cplanFor hN h.1.2.1 h.1.2.2.1 (Or.inl hl) (by omega) h.2.1.1 h.2.1.2.2.1 hS' rfl rfl hs0.2.1.1 hs0.2.2.1.1 c1
        obtain ⟨u1, u2, -⟩ := s_orientBy (st := bts (F (F 2 13) 2)) hN h.1.2.1 h.1.2.2.1 (Or.inl hl) (by omega) h.2.2.1.1 h.2.2.1.2.1 h.mgi.2.1 d1
        obtain ⟨w3, w4⟩ := s_flips hN (u := F (F 2 13) 1) (nw := nw) (h.2.2.1.1.keep u1 (by decide) (by decide) (by decide) (by decide)) (fun l hl => by rw [u1 176 _ (by decide)]; exact hs0.2.1.2 l hl) (fun l hl => (u2 l hl).trans (nwb_ue a2 hl)) d2
        subst w4
        cases w3
        subst x2
        subst y2
        rw [a4] at x1
        exact ⟨x1.trans y1.symm, h.fr (fun p i hp => a3 p i (by unfold qF at hp; simp; omega)) (h.2.2.2.2.1.eq (fun t i ht => a3 _ i (by simp; omega))) (h.2.2.2.2.2.eq (fun t i ht => a3 _ i (by simp; omega))) (fun p i hp _ => u1 p i (by unfold qG at hp; simp; omega)) (fun i _ => u1 175 i (by decide))⟩
    · exact no (Q.1 z) (QG.1 z)
    · exact no ((Q.2 z1).2 z2) ((QG.2 z1).1 z2)
  · rcases in_n hl ha (show nn ≤ 40 by clear Q QG; omega) with z | ⟨z1, z2, z3⟩
    · exact no (Q.1 z) (QG.1 z)
    · exact no ((Q.2 z1).1 z2) ((QG.2 z1).1 z3)
theorem o_depends {a b : Nat} (ha : a < 4294967296) (hb : b < 4294967296) (h : lr F G nn L E C N R) (hF : Cl k_T_depends [(2, 2), (0, a), (0, b)] F v F') (hG : Cl k_M_depends [(2, 175), (0, a), (0, b)] G v2 G') : v = v2 ∧ lr F' G' nn L E C N R ∧ sF F F' ∧ sG G G' := by
  have hL := h.1.1.2.1
  have hN := h.1.1
  have hn := hN.1
  have hs0 := h.2.2.2.1.2
  obtain ⟨nF, hF⟩ := c_T_depends hF
  obtain ⟨nG, hG⟩ := c_M_depends hG
  have Q := q_T_depends_0 hF
  have QG := q_M_depends_0 hG
  rw [h.2.1.1.2.1, b_mul (show 2 * L < 4294967296 by clear Q QG; omega)] at Q
  rw [h.2.2.1.1.2.2.1, b_mul (show 2 * L < 4294967296 by clear Q QG; omega)] at QG
  have no : v = (0, 4294967295) ∧ F' = F → v2 = (0, 4294967295) ∧ G' = G → v = v2 ∧ lr F' G' nn L E C N R ∧ sF F F' ∧ sG G G' := by
    rintro ⟨x1, x2⟩ ⟨y1, y2⟩
    subst x2
    subst y2
    exact ⟨x1.trans y1.symm, h, sF.rf, sG.rf⟩
  by_cases hl : a < 2 * L
  · obtain ⟨i1, i2, i3⟩ := in_y hl (show 2 * L ≤ 40 by clear Q QG; omega)
    replace Q := (Q.2 i1).2 i2
    replace QG := (QG.2 i1).2 i3
    by_cases hl2 : b < 2 * L
    · obtain ⟨i1, i2, i3⟩ := in_y hl2 (show 2 * L ≤ 40 by clear Q QG; omega)
      obtain ⟨F1, c1, Q1, Q2⟩ := (Q.2 i1).2 i2
      obtain ⟨n1, G1, d1, QG1, QG2⟩ := (QG.2 i1).2 i3
      clear Q QG
      have hbb := sc_lt hN hs0
      obtain ⟨t1, t2⟩ := s_take hN (show F (F 2 13) 1 < 2147483648 by clear Q1 Q2 QG1 QG2; omega) (show F (F 2 13) 1 < 2147483648 by clear Q1 Q2 QG1 QG2; omega) (show F (F 2 13) 2 < 2147483648 by clear Q1 Q2 QG1 QG2; omega) h.2.1.1 c1
      obtain ⟨u1, u2⟩ := s_isLawful (st := bts (F (F 2 13) 2)) (u := bts (F (F 2 13) 1)) hN hl hl2 h.2.2.1.1 h.mgi.2.1 h.mgi.2.2 d1
      subst u1
      have tb := t2 a hl
      have h47 : F1 47 a < 2 ^ (2 * L) := tb_lt (fun i hi => by
        rcases (tb i).mp hi with z | z
        · exact z.2.1
        · exact z.2.1)
      have p47 := p40 hL h47
      have jb : rx_f_lcmp (rx_j_and (rx_j_shr (F1 47 a) b) 1) 1 = 0 ↔ (F1 47 a).testBit b = true := j_bit (by clear Q1 Q2 QG1 QG2; omega) (by clear Q1 Q2 QG1 QG2; omega)
      have key : (F1 47 a).testBit b = true ↔ trn L E (bts (F (F 2 13) 2)) (bts (F (F 2 13) 1)) a b := (tb b).trans ⟨fun z => z.elim id id, Or.inl⟩
      have fin : ∀ z, v = (0, z) ∧ F' = F1 → v2 = (0, z) ∧ G' = G1 → v = v2 ∧ lr F' G' nn L E C N R ∧ sF F F' ∧ sG G1 G' := by
        rintro z ⟨a1, a2⟩ ⟨b3, b4⟩
        subst a2
        subst b4
        exact ⟨a1.trans b3.symm, h.fr (fun p i hp => t1 p i (by unfold qF at hp; simp; omega)) (h.2.2.2.2.1.eq (fun t i ht => t1 _ i (by simp; omega))) (h.2.2.2.2.2.eq (fun t i ht => t1 _ i (by simp; omega))) (fun _ _ _ _ => rfl) (fun _ _ => rfl)⟩
      rcases u2 with ⟨e, t⟩ | ⟨e, t⟩
      · cases e
        exact fin 1 (Q2 (jb.mpr (key.mpr t))) (QG2 (by decide))
      · cases e
        exact fin 0 (Q1 (fun z => t (key.mp (jb.mp z)))) (QG1 rfl)
    · rcases in_n hl2 hb (show 2 * L ≤ 40 by clear Q QG; omega) with z | ⟨z1, z2, z3⟩
      · exact no (Q.1 z) (QG.1 z)
      · exact no ((Q.2 z1).1 z2) ((QG.2 z1).1 z3)
  · rcases in_n hl ha (show 2 * L ≤ 40 by clear Q QG; omega) with z | ⟨z1, z2, z3⟩
    · exact no (Q.1 z) (QG.1 z)
    · exact no ((Q.2 z1).1 z2) ((QG.2 z1).1 z3)
end DEP
