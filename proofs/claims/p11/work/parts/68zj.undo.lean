/-! undo, redo, plan, phase keep the relation -/
section UNDO
variable {nn L N R : Nat} {E C : Nat → Nat} {v v2 : fx_V} {F F' F1 G G' G1 : fx_F}
theorem lr.un (h : lr F G nn L E C N R) (hh : hs F' G' nn L E) (hs0 : sc F' (F' 2 13) (G' 176) nn L E) (hf : unF F F') (hg : unG G G') : lr F' G' nn L E C N R ∧ sF F F' ∧ sG G G' := by
  obtain ⟨h1, ⟨k1, k2, k3, k4⟩, ⟨m1, m2, m3⟩, _, ra, rb⟩ := h
  have f3 : ∀ p i, 3 ≤ p → p ≤ 9 → F' p i = F p i := fun p i h h2 => hf.1 p i (by omega) (by omega) (by omega)
  have g3 : ∀ p i, 177 ≤ p → p ≤ 185 → G' p i = G p i := fun p i h h2 => hg.1 p i (by omega) (by omega) (by omega)
  have g9 := hg.2 9 (by decide) (by decide)
  exact ⟨⟨h1, ⟨k1.eq f3, k2.eq f3, k3.eq f3, (f3 3 3 (by decide) (by decide)).trans k4⟩, ⟨m1.eq g9 g3, m2.eq g9 g3, by rw [g9, g3 180 _ (by decide) (by decide)]; exact m3⟩, ⟨hh, hs0⟩, ra.eq (fun t i ht => hf.1 _ i (by omega) (by omega) (by omega)), rb.eq (fun t i ht => hf.1 _ i (by omega) (by omega) (by omega))⟩, fun p i hp => hf.1 p i (by omega) (by omega) (by omega), ⟨fun p i hp => hg.1 p i (by omega) (by omega) (by omega), fun i hi => hg.2 i (by omega) (by omega)⟩⟩
theorem o_undo (h : lr F G nn L E C N R) (hF : Cl k_T_undo [(2, 2)] F v F') (hG : Cl k_M_undo [(2, 175)] G v2 G') : v = v2 ∧ lr F' G' nn L E C N R ∧ sF F F' ∧ sG G G' := by
  obtain ⟨a, b, c, d, e⟩ := s_undo2 h.1.1 h.2.2.2.1.1 h.2.2.2.1.2 hF hG
  exact ⟨a, h.un b c d e⟩
theorem o_redo (h : lr F G nn L E C N R) (hF : Cl k_T_redo [(2, 2)] F v F') (hG : Cl k_M_redo [(2, 175)] G v2 G') : v = v2 ∧ lr F' G' nn L E C N R ∧ sF F F' ∧ sG G G' := by
  obtain ⟨a, b, c, d, e⟩ := s_redo2 h.1.1 h.2.2.2.1.1 h.2.2.2.1.2 hF hG
  exact ⟨a, h.un b c d e⟩
theorem o_phase {a b : Nat} (ha : a < 4294967296) (hb : b < 4294967296) (h : lr F G nn L E C N R) (hF : Cl k_T_phase [(2, 2), (0, a), (0, b)] F v F') (hG : Cl k_M_phase [(2, 175), (0, a), (0, b)] G v2 G') : v = v2 ∧ lr F' G' nn L E C N R ∧ sF F F' ∧ sG G G' := by
  have hL := h.1.1.2.1
  have hN := h.1.1
  have hn := hN.1
  obtain ⟨nF, hF⟩ := c_T_phase hF
  obtain ⟨nG, hG⟩ := c_M_phase hG
  have Q := q_T_phase_0 hF
  have QG := q_M_phase_0 hG
  rw [h.2.1.1.1, h.2.1.1.2.1] at Q
  rw [h.2.2.1.1.2.1, h.2.2.1.1.2.2.1] at QG
  have no : v = (0, 4294967295) ∧ F' = F → v2 = (0, 4294967295) ∧ G' = G → v = v2 ∧ lr F' G' nn L E C N R ∧ sF F F' ∧ sG G G' := by
    rintro ⟨x1, x2⟩ ⟨y1, y2⟩
    subst x2
    subst y2
    exact ⟨x1.trans y1.symm, h, sF.rf, sG.rf⟩
  by_cases hl : a < nn
  · obtain ⟨i1, i2, i3⟩ := in_y hl (show nn ≤ 40 by clear Q QG; omega)
    replace Q := (Q.2 i1).2 i2
    replace QG := (QG.2 i1).2 i3
    by_cases hl2 : b < L
    · obtain ⟨i1, i2, i3⟩ := in_y hl2 (show L ≤ 40 by clear Q QG; omega)
      obtain ⟨F1, c1, n2, F2, c2, x1, x2⟩ := (Q.2 i1).2 i2
      obtain ⟨n1, G1, d1, QG1, QG2⟩ := (QG.2 i1).2 i3
      clear Q QG
      obtain ⟨nw, w1, w2, w3, w4, w5, -, w6⟩ := plan2 h hl c1 d1
      subst x2
      have hcp : cpl F1 L E (bts (F (F 2 13) 2)) (F (F 2 13) 1) nw := by
        rcases w6 with ⟨k, k0, k1, _, _, k4, k5⟩ | ⟨k1, _, k4⟩
        · exact Or.inl ⟨k, k0, k1, k4, k5⟩
        · exact Or.inr ⟨k1, k4⟩
      obtain ⟨z1, z2⟩ := s_phaseOf hN hl2 hcp c2
      subst z1
      rcases w6 with ⟨k, k0, k1, k2, k3, _, _⟩ | ⟨k1, k2, _⟩
      · have hk1 : k = n1 := by cases k2; rfl
        subst hk1
        obtain ⟨y1, y2⟩ := QG1 (by rw [b_le (by decide) (by clear QG1 QG2; omega)]; exact Nat.zero_le _)
        clear QG1 QG2
        subst y2
        refine ⟨?_, w2⟩
        rcases z2 with ⟨k', j, j1, j2, j3, j4⟩ | ⟨j1, j4⟩
        · have := plr_fun k1 j1
          subst this
          rcases k3 b hl2 with ⟨j', m1, m2, m3⟩ | ⟨m1, m2⟩
          · have := pt_once j3 m2
            subst this
            cases j4
            rw [x1, y1, m3]
          · rw [m1 j j2] at j3; cases j3
        · rcases j1 with ⟨k', j1, j2⟩ | j1
          · have := plr_fun k1 j1
            subst this
            rcases k3 b hl2 with ⟨j', m1, m2, m3⟩ | ⟨m1, m2⟩
            · rw [j2 j' m1] at m2; cases m2
            · cases j4
              rw [x1, y1, m2]
          · exact (plr_plb k1 j1).elim
      · cases k2
        obtain ⟨y1, y2⟩ := QG2 (by rw [b_neg (by decide)]; decide)
        subst y2
        refine ⟨?_, w2⟩
        rcases z2 with ⟨k', j, j1, j2, j3, j4⟩ | ⟨j1, j4⟩
        · exact (plr_plb j1 k1).elim
        · cases j4
          rw [x1, y1]
    · rcases in_n hl2 hb (show L ≤ 40 by clear Q QG; omega) with z | ⟨z1, z2, z3⟩
      · exact no (Q.1 z) (QG.1 z)
      · exact no ((Q.2 z1).1 z2) ((QG.2 z1).1 z3)
  · rcases in_n hl ha (show nn ≤ 40 by clear Q QG; omega) with z | ⟨z1, z2, z3⟩
    · exact no (Q.1 z) (QG.1 z)
    · exact no ((Q.2 z1).1 z2) ((QG.2 z1).1 z3)
end UNDO
