/-! link, length, entry, path keep the relation and agree -/
section WAYS
variable {nn L N R : Nat} {E C : Nat → Nat} {v v2 : fx_V} {F F' F1 G G' G1 : fx_F}
theorem bnd01 {a : Nat} (ha : a < 4294967296) : (a < 2 ∧ s_le 0 a ∧ s_le a 1) ∨ s_lt a 0 ∨ (s_le 0 a ∧ s_lt 1 a) := by
  rcases box01 ha with ⟨h1, h2, _, h3⟩ | h | ⟨h1, _, h2⟩
  · exact Or.inl ⟨h1, h2, h3⟩
  · exact Or.inr (Or.inl h)
  · exact Or.inr (Or.inr ⟨h1, h2⟩)
theorem lr.see (h : lr F G nn L E C N R) (hc : Cl k_Ro_see [(2, 24), (0, F (F 2 13) 1), (0, F (F 2 13) 2)] F v F1) : fxo [24, 25, 29] F F1 ∧ rcs F1 nn L E 24 (F (F 2 13) 1) (F (F 2 13) 2) ∧ rcI F1 nn L E 24 ∧ rcI F1 nn L E 32 := by
  have hb := sc_lt h.1.1 h.2.2.2.1.2
  obtain ⟨-, a2, a3, a4, a5⟩ := s_see2 h.1.1 (by omega) (by omega) (by decide) h.2.1.1 h.2.2.2.2.1.1 h.2.2.2.2.1.2 hc
  exact ⟨a2, a3, ⟨a4, a5⟩, h.2.2.2.2.2.eq (fun t i ht => a2 _ i (by simp; omega))⟩
theorem lr.table (h : lr F G nn L E C N R) (hc : Cl k_Ro_seeTable [(2, 24), (0, F (F 2 13) 1), (0, F (F 2 13) 2)] F v F1) : fxo [24, 25, 26, 27, 28, 29] F F1 ∧ rcs F1 nn L E 24 (F (F 2 13) 1) (F (F 2 13) 2) ∧ ctb F1 nn L E 24 (F (F 2 13) 1) (F (F 2 13) 2) ∧ (∀ c, c < 2 * L → F1 28 c = lod nn L E (bts (F (F 2 13) 2)) (bts (F (F 2 13) 1)) c) ∧ rcI F1 nn L E 24 ∧ rcI F1 nn L E 32 := by
  have hb := sc_lt h.1.1 h.2.2.2.1.2
  obtain ⟨-, a2, a3, a4, a5, a6, a7⟩ := s_seeTable h.1.1 (by omega) (by omega) (by decide) h.2.1.1 h.2.1.2.1 h.2.2.2.2.1.1 h.2.2.2.2.1.2 hc
  exact ⟨a2, a3, a4, a5, ⟨a6, a7⟩, h.2.2.2.2.2.eq (fun t i ht => a2 _ i (by simp; omega))⟩
theorem lr.mgi (h : lr F G nn L E C N R) : mgi G nn L E (bts (F (F 2 13) 2)) (bts (F (F 2 13) 1)) := sc_mgi h.1.1 h.2.2.2.1.2 h.2.2.1.1
/-- the ways' scratch -/
theorem lr.way (h : lr F G nn L E C N R) (hF : fxo [24, 25, 26, 27, 28, 29, 30, 31] F F') (ha : rcI F' nn L E 24) (hb : rcI F' nn L E 32) (hG : fxo [193, 194, 195, 196, 197, 198] G G') : lr F' G' nn L E C N R ∧ sF F F' ∧ sG G G' := h.fr (fun p i hp => hF p i (by unfold qF at hp; simp; omega)) ha hb (fun p i hp _ => hG p i (by unfold qG at hp; simp; omega)) (fun i _ => hG 175 i (by decide))
theorem o_link {a b : Nat} (ha : a < 4294967296) (h : lr F G nn L E C N R) (hF : Cl k_T_link [(2, 2), (0, a), (0, b)] F v F') (hG : Cl k_M_link [(2, 175), (0, a), (0, b)] G v2 G') : v = v2 ∧ lr F' G' nn L E C N R ∧ sF F F' ∧ sG G G' := by
  have hL := h.1.1.2.1
  have hN := h.1.1
  have hn := hN.1
  have hs0 := h.2.2.2.1.2
  obtain ⟨nF, hF⟩ := c_T_link hF
  obtain ⟨nG, hG⟩ := c_M_link hG
  have Q := q_T_link_0 hF
  have QG := q_M_link_0 hG
  rw [h.2.1.1.2.1] at Q
  rw [h.2.2.1.1.2.2.1] at QG
  have eq : ∀ z, v = (0, z) ∧ F' = F → v2 = (0, z) ∧ G' = G → v = v2 ∧ lr F' G' nn L E C N R ∧ sF F F' ∧ sG G G' := by
    rintro z ⟨x1, x2⟩ ⟨y1, y2⟩
    subst x2
    subst y2
    exact ⟨x1.trans y1.symm, h, sF.rf, sG.rf⟩
  by_cases hl : a < L
  · obtain ⟨i1, i2, i3⟩ := in_y hl (show L ≤ 40 by clear Q QG; omega)
    replace Q := (Q.2 i1).2 i2
    replace QG := (QG.2 i1).2 i3
    have hb := sc_lt hN hs0
    have f4 : F 4 (2 * a) = E (2 * a) := (h.2.1.1.2.2 (2 * a) (by clear Q QG; omega)).1
    have f5 : F 5 (2 * a) = E (2 * a + 1) := by
      rw [(h.2.1.1.2.2 (2 * a) (by clear Q QG; omega)).2]
      congr 1
      unfold nf; rw [if_pos (by clear Q QG; omega)]
    rw [b_mul (show 2 * a < 4294967296 by clear Q QG; omega), f4, f5, b_bitl (show F (F 2 13) 1 < 2147483648 by clear Q QG; omega) (show a < 32 by clear Q QG; omega), b_bitl (show F (F 2 13) 2 < 2147483648 by clear Q QG; omega) (show a < 32 by clear Q QG; omega)] at Q
    rw [mE h.2.2.1.1 hL hl (show 0 ≤ 1 by decide), mE h.2.2.1.1 hL hl (show 1 ≤ 1 by decide), b_add (show 20 + a < 4294967296 by clear Q QG; omega), b_add0 (show a < 4294967296 from ha), hs0.2.1.2 a hl, hs0.2.2.1.2 a hl] at QG
    by_cases b4 : b < 4
    · have hb4 : b = 0 ∨ b = 1 ∨ b = 2 ∨ b = 3 := by clear Q QG; omega
      rcases hb4 with e | e | e | e
      · exact eq _ (Q.2.1 e) (QG.2.1 e)
      · exact eq _ (Q.2.2.1 e) (QG.2.2.1 e)
      · have Q2 := Q.2.2.2.1 e
        have QG2 := QG.2.2.2.1 e
        clear Q QG
        unfold ue at QG2
        replace QG2 : v2 = (0, if (F (F 2 13) 1).testBit a = true then E (2 * a + 1) else E (2 * a)) ∧ G' = G := QG2
        by_cases w : (F (F 2 13) 1).testBit a = true
        · rw [if_pos w] at Q2 QG2
          exact eq _ (Q2.2 rfl) QG2
        · rw [if_neg w] at Q2 QG2
          exact eq _ (Q2.1 (by decide)) QG2
      · have Q2 := Q.2.2.2.2.1 e
        have QG2 := QG.2.2.2.2.1 e
        clear Q QG
        by_cases w : (F (F 2 13) 2).testBit a = true
        · rw [if_pos w] at Q2 QG2
          exact eq _ (Q2.2 rfl) QG2
        · rw [if_neg w] at Q2 QG2
          exact eq _ (Q2.1 (by decide)) QG2
    · exact eq _ (Q.1 (Or.inr (by clear Q QG; omega))) (QG.1 (Or.inr (by clear Q QG; omega)))
  · rcases in_n hl ha (show L ≤ 40 by clear Q QG; omega) with z | ⟨z1, z2, z3⟩
    · exact eq _ (Q.1 z) (QG.1 z)
    · exact eq _ ((Q.2 z1).1 z2) ((QG.2 z1).1 z3)
theorem o_length {a b : Nat} (ha : a < 4294967296) (hb : b < 4294967296) (h : lr F G nn L E C N R) (hF : Cl k_T_length [(2, 2), (0, a), (0, b)] F v F') (hG : Cl k_M_length [(2, 175), (0, a), (0, b)] G v2 G') : v = v2 ∧ lr F' G' nn L E C N R ∧ sF F F' ∧ sG G G' := by
  have hL := h.1.1.2.1
  have hN := h.1.1
  have hn := hN.1
  obtain ⟨nF, hF⟩ := c_T_length hF
  obtain ⟨nG, hG⟩ := c_M_length hG
  have Q := q_T_length_0 hF
  have QG := q_M_length_0 hG
  rw [h.2.1.1.1] at Q
  rw [h.2.2.1.1.2.1] at QG
  have no : v = (0, 4294967295) ∧ F' = F → v2 = (0, 4294967295) ∧ G' = G → v = v2 ∧ lr F' G' nn L E C N R ∧ sF F F' ∧ sG G G' := by
    rintro ⟨x1, x2⟩ ⟨y1, y2⟩
    subst x2
    subst y2
    exact ⟨x1.trans y1.symm, h, sF.rf, sG.rf⟩
  by_cases hl : a < nn
  · obtain ⟨i1, i2, i3⟩ := in_y hl (show nn ≤ 40 by clear Q QG; omega)
    replace Q := (Q.2 i1).2 i2
    replace QG := (QG.2 i1).2 i3
    by_cases hl2 : b < nn
    · obtain ⟨i1, i2, i3⟩ := in_y hl2 (show nn ≤ 40 by clear Q QG; omega)
      obtain ⟨F1, c1, x1, x2⟩ := (Q.2 i1).2 i2
      obtain ⟨G1, d1, QG1, QG2⟩ := (QG.2 i1).2 i3
      clear Q QG
      obtain ⟨t1, t2, t3, t4⟩ := h.see c1
      obtain ⟨-, u1, u2⟩ := s_layGoal hN hl2 h.mgi d1
      rw [b_mul (show b * 20 < 4294967296 by omega), b_mul (show 2 * a < 4294967296 by omega), b_add (show b * 20 + 2 * a < 4294967296 by omega), Nat.mul_comm b 20] at x1
      have ei : i_add (i_add (i_mul 20 b) (i_mul 2 a)) 0 = 20 * b + 2 * a := by
        rw [b_mul (show 20 * b < 4294967296 by omega), b_mul (show 2 * a < 4294967296 by omega), b_add (show 20 * b + 2 * a < 4294967296 by omega), b_add (show 20 * b + 2 * a + 0 < 4294967296 by omega)]; rfl
      rw [ei] at QG1 QG2
      subst x2
      have hr := t2.2.2.2.2 b hl2 (2 * a) (by omega)
      replace hr : (F' 25 (20 * b + 2 * a) ≠ 4294967295 → gd L E (bts (F (F 2 13) 2)) (bts (F (F 2 13) 1)) b (F' 25 (20 * b + 2 * a)) (2 * a)) ∧ ∀ d, gd L E (bts (F (F 2 13) 2)) (bts (F (F 2 13) 1)) b d (2 * a) → F' 25 (20 * b + 2 * a) = d := hr
      obtain ⟨m1, m2, m3⟩ := u2 (2 * a) (by omega)
      replace m1 : G1 193 (20 * b + 2 * a) ≤ 100000 := m1
      replace m2 : G1 193 (20 * b + 2 * a) < 100000 → gd L E (bts (F (F 2 13) 2)) (bts (F (F 2 13) 1)) b (G1 193 (20 * b + 2 * a)) (2 * a) := m2
      have m3' : ∀ d, gd L E (bts (F (F 2 13) 2)) (bts (F (F 2 13) 1)) b d (2 * a) → G1 193 (20 * b + 2 * a) = d := m3
      have key : v = v2 ∧ G' = G1 := by
        rcases Nat.lt_or_ge (G1 193 (20 * b + 2 * a)) 100000 with z | z
        · obtain ⟨y1, y2⟩ := QG2 (by rw [b_lt (by clear QG1 QG2; omega) (by decide)]; exact z)
          rw [x1, y1, hr.2 _ (m2 z)]
          exact ⟨rfl, y2⟩
        · obtain ⟨y1, y2⟩ := QG1 (by rw [b_le (by decide) (by clear QG1 QG2; omega)]; exact z)
          refine ⟨?_, y2⟩
          have e : F' 25 (20 * b + 2 * a) = 4294967295 := by
            by_cases w : F' 25 (20 * b + 2 * a) = 4294967295
            · exact w
            · have a1 := m3' _ (hr.1 w)
              have a2 := gd_lt hN hl2 (hr.1 w)
              clear QG1 QG2
              omega
          rw [x1, y1, e]
      obtain ⟨k1, k2⟩ := key
      subst k2
      exact ⟨k1, h.way (t1.mono (by simp)) t3 t4 (u1.1.mono (by simp))⟩
    · rcases in_n hl2 hb (show nn ≤ 40 by clear Q QG; omega) with z | ⟨z1, z2, z3⟩
      · exact no (Q.1 z) (QG.1 z)
      · exact no ((Q.2 z1).1 z2) ((QG.2 z1).1 z3)
  · rcases in_n hl ha (show nn ≤ 40 by clear Q QG; omega) with z | ⟨z1, z2, z3⟩
    · exact no (Q.1 z) (QG.1 z)
    · exact no ((Q.2 z1).1 z2) ((QG.2 z1).1 z3)
end WAYS
