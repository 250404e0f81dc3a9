/-! packet keeps the relation and agrees (names of other parts: bnd01) -/
section PACKET
variable {nn L R N : Nat} {E C : Nat → Nat} {v v2 : fx_V} {F F' G G' : fx_F}
theorem o_packet {a b : Nat} (ha : a < 4294967296) (h : lr F G nn L E C N R) (hF : Cl k_T_packet [(2, 2), (0, a), (0, b)] F v F') (hG : Cl k_M_packet [(2, 175), (0, a), (0, b)] G v2 G') : v = v2 ∧ lr F' G' nn L E C N R ∧ sF F F' ∧ sG G G' := by
  have hL := h.1.1.2.1
  have hN := h.1.1
  have hn := hN.1
  have hs0 := h.2.2.2.1.2
  have hS : S0 (F 2 13) := h.2.2.2.1.1.1.1
  have hS' : 53 ≤ F 2 13 := by unfold S0 at hS; omega
  have hb := sc_lt hN hs0
  obtain ⟨nF, hF⟩ := c_T_packet hF
  obtain ⟨nG, hG⟩ := c_M_packet hG
  have Q := q_T_packet_0 hF
  have QG := q_M_packet_0 hG
  have eq : ∀ z, v = (0, z) ∧ F' = F → v2 = (0, z) ∧ G' = G → v = v2 ∧ lr F' G' nn L E C N R ∧ sF F F' ∧ sG G G' := by
    rintro z ⟨x1, x2⟩ ⟨y1, y2⟩
    subst x2
    subst y2
    exact ⟨x1.trans y1.symm, h, sF.rf, sG.rf⟩
  by_cases hl : a < 12
  · replace Q := (Q.2 (by rw [b_le (by decide) (by clear Q QG; omega)]; exact Nat.zero_le _)).2 (by rw [b_lt (by clear Q QG; omega) (by decide)]; exact hl)
    replace QG := (QG.2 (by rw [b_le (by decide) (by clear Q QG; omega)]; exact Nat.zero_le _)).2 (by rw [b_le (by clear Q QG; omega) (by decide)]; clear Q QG; omega)
    rw [b_add (show 41 + a < 4294967296 by clear Q QG; omega), b_add (show 65 + a < 4294967296 by clear Q QG; omega), b_add (show 53 + a < 4294967296 by clear Q QG; omega), b_add (show 77 + a < 4294967296 by clear Q QG; omega), b_add (show 89 + a < 4294967296 by clear Q QG; omega)] at QG
    rcases hs0.2.2.2.2 a hl with ⟨p1, p2⟩ | ⟨p1, p2, p3, p4, p5, p6, p7, p8⟩
    · exact eq _ (Q.1 p1) (QG.1 (by rw [p2]; decide))
    · obtain ⟨Q0, A0, A1, A2, A3, A4, -⟩ := Q.2 (by clear Q QG; omega)
      obtain ⟨P0, B0, B1, B2, B3, B4, -⟩ := QG.2 p1
      clear Q QG
      rw [p2] at B0
      rw [p4] at B1
      rw [p6] at B2
      rw [p8] at B3
      by_cases e0 : b = 0
      · exact eq _ (A0 e0) (B0 e0)
      by_cases e1 : b = 1
      · exact eq _ (A1 e1) (B1 e1)
      by_cases e2 : b = 2
      · exact eq _ (A2 e2) (B2 e2)
      by_cases e3 : b = 3
      · exact eq _ (A3 e3) (B3 e3)
      by_cases e4 : b = 4
      · obtain ⟨F1, c1, x1, x2⟩ := A4 e4
        obtain ⟨G1, d1, y1, y2⟩ := B4 e4
        clear Q0 A0 A1 A2 A3 A4 P0 B0 B1 B2 B3 B4
        obtain ⟨t1, t2, t3, t4, t5, t6⟩ := h.table c1
        obtain ⟨-, u1, u2, -⟩ := s_mlayTable hN (sc_mgi hN hs0 h.2.2.1.1) d1
        have eF : ∀ p i, 53 ≤ p → F1 p i = F p i := fun p i hp => t1 p i (by simp; omega)
        have e213 : F1 2 13 = F 2 13 := t1 2 13 (by decide)
        have eG : ∀ i, G1 176 i = G 176 i := fun i => u1 176 i (by decide)
        have hm1 : mn G1 nn L E := h.2.2.1.1.keep u1 (by decide) (by decide) (by decide) (by decide)
        have hg5 : F (F 2 13 + 2) a < nn := p5
        have ix : ∀ t, t < 2 → F1 26 (i_add (i_add (i_mul (F (F 2 13 + 2) a) 20) (i_mul 2 (F (F 2 13 + 1) a))) t) = ent nn L E (bts (F (F 2 13) 2)) (bts (F (F 2 13) 1)) (F (F 2 13 + 2) a) (2 * F (F 2 13 + 1) a + t) := fun t ht2 => by
          rw [b_mul (show F (F 2 13 + 2) a * 20 < 4294967296 by omega), b_mul (show 2 * F (F 2 13 + 1) a < 4294967296 by omega), b_add (show F (F 2 13 + 2) a * 20 + 2 * F (F 2 13 + 1) a < 4294967296 by omega), b_add (show F (F 2 13 + 2) a * 20 + 2 * F (F 2 13 + 1) a + t < 4294967296 by omega), show F (F 2 13 + 2) a * 20 + 2 * F (F 2 13 + 1) a + t = 20 * F (F 2 13 + 2) a + (2 * F (F 2 13 + 1) a + t) by omega]
          exact t3 _ _ hg5 (by omega)
        have iy : ∀ t, t < 2 → G1 196 (i_add (i_add (i_mul 20 (F (F 2 13 + 2) a)) (i_mul 2 (F (F 2 13 + 1) a))) t) = ent nn L E (bts (F (F 2 13) 2)) (bts (F (F 2 13) 1)) (F (F 2 13 + 2) a) (2 * F (F 2 13 + 1) a + t) := fun t ht2 => by
          rw [b_mul (show 20 * F (F 2 13 + 2) a < 4294967296 by omega), b_mul (show 2 * F (F 2 13 + 1) a < 4294967296 by omega), b_add (show 20 * F (F 2 13 + 2) a + 2 * F (F 2 13 + 1) a < 4294967296 by omega), b_add (show 20 * F (F 2 13 + 2) a + 2 * F (F 2 13 + 1) a + t < 4294967296 by omega), Nat.add_assoc]
          exact u2 _ _ hg5 (by omega)
        rw [e213, eF _ _ (show 53 ≤ F 2 13 + 3 by omega), eF _ _ (show 53 ≤ F 2 13 + 2 by omega), eF _ _ (show 53 ≤ F 2 13 + 1 by omega), ix 0 (by decide)] at x1
        rw [e213, eF _ _ (show 53 ≤ F 2 13 + 3 by omega), eF _ _ (show 53 ≤ F 2 13 + 2 by omega), eF _ _ (show 53 ≤ F 2 13 + 1 by omega), eF _ _ hS', ix 0 (by decide), ix 1 (by decide)] at x2
        rw [eG, eG, eG, p2, p4, p6, iy 0 (by decide), iy 1 (by decide)] at y1
        rw [eG, eG, p2, p4] at y2
        have fin : ∀ z, v = (0, z) ∧ F' = F1 → v2 = (0, z) ∧ G' = G1 → v = v2 ∧ lr F' G' nn L E C N R ∧ sF F F' ∧ sG G G' := by
          rintro z ⟨a1, a2⟩ ⟨b3, b4⟩
          subst a2
          subst b4
          exact ⟨a1.trans b3.symm, h.way (t1.mono (by simp)) t5 t6 (u1.mono (by simp))⟩
        by_cases eg : F (F 2 13 + 1) a = F (F 2 13 + 2) a
        · have y := y2 eg
          have z0 : ∀ t, t < 2 → ent nn L E (bts (F (F 2 13) 2)) (bts (F (F 2 13) 1)) (F (F 2 13 + 2) a) (2 * F (F 2 13 + 1) a + t) = 4294967295 := fun t ht => tst_goal (by clear x1 x2 y1 y2; omega)
          by_cases ec : F (F 2 13 + 3) a = 4294967295
          · have x := x1 ec
            rw [z0 0 (by decide)] at x
            exact fin _ x y
          · obtain ⟨x3, x4⟩ := x2 ec
            rw [z0 1 (by decide)] at x3
            rw [z0 0 (by decide)] at x4
            by_cases eb : i_and (i_shr (F (F 2 13) 1) (i_shr (F (F 2 13 + 3) a) 1)) 1 = i_and (F (F 2 13 + 3) a) 1
            · exact fin _ (x3 eb) y
            · exact fin _ (x4 eb) y
        · obtain ⟨y3, y4⟩ := y1 eg
          by_cases ec : F (F 2 13 + 3) a = 4294967295
          · exact fin _ (x1 ec) (y3 (by rw [ec, b_neg (by decide)]; decide))
          · have hc2 := p7.resolve_left ec
            obtain ⟨x3, x4⟩ := x2 ec
            obtain ⟨y5, y6⟩ := y4 (by rw [b_pos (by clear x1 x2 y1 y2 y3 y4 x3 x4; omega)]; clear x1 x2 y1 y2 y3 y4 x3 x4; omega)
            rw [mTo hm1 hL hc2, b_div (show F (F 2 13 + 3) a < 2147483648 by clear x1 x2 y1 y2 y3 y4 x3 x4 y5 y6; omega) (by decide) (by decide), b_add (show 20 + F (F 2 13 + 3) a / 2 < 4294967296 by clear x1 x2 y1 y2 y3 y4 x3 x4 y5 y6; omega), eG, hs0.2.1.2 _ (show F (F 2 13 + 3) a / 2 < L by clear x1 x2 y1 y2 y3 y4 x3 x4 y5 y6; omega)] at y5 y6
            have hbc := bh_code (show F (F 2 13) 1 < 2147483648 by clear x1 x2 y1 y2 y3 y4 x3 x4 y5 y6; omega) (show F (F 2 13 + 3) a < 64 by clear x1 x2 y1 y2 y3 y4 x3 x4 y5 y6; omega)
            have hup := isup_ue hN (u := bts (F (F 2 13) 1)) hc2
            by_cases eb : i_and (i_shr (F (F 2 13) 1) (i_shr (F (F 2 13 + 3) a) 1)) 1 = i_and (F (F 2 13 + 3) a) 1
            · have h1 := hbc.1 eb
              refine fin _ (x3 eb) (y5 (fun z => ?_))
              unfold bh at h1
              rw [if_pos (hup.mp z)] at h1
              cases h1
            · have h1 := hbc.2 eb
              refine fin _ (x4 eb) (y6 ?_)
              by_cases w : isup (bts (F (F 2 13) 1)) (F (F 2 13 + 3) a) = true
              · exact hup.mpr w
              · unfold bh at h1
                rw [if_neg w] at h1
                cases h1
      · have hb5 : b < 0 ∨ 5 ≤ b := by clear Q0 A0 A1 A2 A3 A4 P0 B0 B1 B2 B3 B4; omega
        exact eq _ (Q0 hb5) (P0 hb5)
  · rcases Nat.lt_or_ge a 2147483648 with z | z
    · exact eq _ ((Q.2 (by rw [b_le (by decide) z]; exact Nat.zero_le _)).1 (by rw [b_le (by decide) z]; clear Q QG; omega)) ((QG.2 (by rw [b_le (by decide) z]; exact Nat.zero_le _)).1 (by rw [b_lt (by decide) z]; clear Q QG; omega))
    · exact eq _ (Q.1 (by rw [b_neg ha]; exact z)) (QG.1 (by rw [b_neg ha]; exact z))
end PACKET
