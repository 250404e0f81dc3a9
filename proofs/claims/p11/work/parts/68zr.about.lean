/-! about keeps the relation and agrees, but for 7 (names of other parts: bnd01) -/
section ABOUT
variable {nn L R N : Nat} {E C : Nat → Nat} {v v2 : fx_V} {F F' G G' : fx_F}
theorem o_about {b : Nat} (h : lr F G nn L E C N R) (hu : F 3 4 = G 181 (G 175 9)) (hsz : F 10 1 = G 175 11) (hF : Cl k_T_about [(2, 2), (0, b)] F v F') (hG : Cl k_M_about [(2, 175), (0, b)] G v2 G') : (b ≠ 7 → v = v2) ∧ F' = F ∧ G' = G := by
  have hL := h.1.1.2.1
  have hN := h.1.1
  have hn := hN.1
  have hs0 := h.2.2.2.1.2
  obtain ⟨nF, hF⟩ := c_T_about hF
  obtain ⟨nG, hG⟩ := c_M_about hG
  obtain ⟨Q0, A0, A1, A2, A3, A4, A5, A6, A7, A8, A9, A10, A11, -⟩ := q_T_about_0 hF
  obtain ⟨P0, B0, B1, B2, B3, B4, B5, B6, B7, B8, B9, B10, B11, -⟩ := q_M_about_0 hG
  have eq : ∀ z, v = (0, z) ∧ F' = F → v2 = (0, z) ∧ G' = G → (b ≠ 7 → v = v2) ∧ F' = F ∧ G' = G := fun z x y => ⟨fun _ => x.1.trans y.1.symm, x.2, y.2⟩
  have hh := h.2.2.2.1.1.2.1
  by_cases e0 : b = 0
  · have x := A0 e0
    have y := B0 e0
    rw [h.2.1.1.1] at x
    rw [h.2.2.1.1.2.1] at y
    exact eq _ x y
  by_cases e1 : b = 1
  · have x := A1 e1
    have y := B1 e1
    rw [h.2.1.1.2.1] at x
    rw [h.2.2.1.1.2.2.1] at y
    exact eq _ x y
  by_cases e2 : b = 2
  · obtain ⟨n1, F1, c1, x1, x2⟩ := A2 e2
    obtain ⟨m1, G1, d1, y1, y2⟩ := B2 e2
    obtain ⟨w1, w2⟩ := s_cbits hL hs0.2.2.1.1 c1
    obtain ⟨w3, w4⟩ := s_mstanding hL h.2.2.1.1 hs0.2.2.1.2 d1
    subst w2
    subst w4
    cases w1
    cases w3
    exact eq _ ⟨x1, x2⟩ ⟨y1, y2⟩
  by_cases e3 : b = 3
  · obtain ⟨x1, x2⟩ := A3 e3
    obtain ⟨y1, y2⟩ := B3 e3
    rw [h.2.1.1.1] at x1 x2
    rw [h.2.2.1.1.2.1] at y1 y2
    rw [hs0.1.1] at x1
    by_cases z : nn = 0
    · exact eq _ (x2 z) (y2 z)
    · exact eq _ (x1 z) (y1 z)
  by_cases e4 : b = 4
  · have x := A4 e4
    have y := B4 e4
    rw [h.2.1.2.2.2] at x
    rw [h.2.2.1.2.2] at y
    exact eq _ x y
  by_cases e5 : b = 5
  · obtain ⟨n1, F1, c1, x1, x2⟩ := A5 e5
    obtain ⟨m1, G1, d1, y1, y2⟩ := B5 e5
    obtain ⟨w1, w2⟩ := s_ccount c1
    obtain ⟨w3, w4⟩ := s_mcount hn hs0.2.2.2.2 d1
    subst w1
    subst w3
    cases w2
    cases w4
    exact eq _ ⟨x1, x2⟩ ⟨y1, y2⟩
  by_cases e6 : b = 6
  · have x := A6 e6
    have y := B6 e6
    rw [hs0.2.2.2.1] at x
    exact eq _ x y
  by_cases e7 : b = 7
  · exact ⟨fun z => absurd e7 z, (A7 e7).2, (B7 e7).2⟩
  by_cases e8 : b = 8
  · have x := A8 e8
    have y := B8 e8
    rw [hu] at x
    exact eq _ x y
  by_cases e9 : b = 9
  · have x := A9 e9
    have y := B9 e9
    rw [← hh.2.2.1] at x
    exact eq _ x y
  by_cases e10 : b = 10
  · have x := A10 e10
    have y := B10 e10
    rw [← hh.2.2.2] at x
    exact eq _ x y
  by_cases e11 : b = 11
  · have x := A11 e11
    have y := B11 e11
    rw [hsz] at x
    exact eq _ x y
  · have hb : b < 0 ∨ 12 ≤ b := by clear Q0 A0 A1 A2 A3 A4 A5 A6 A7 A8 A9 A10 A11 P0 B0 B1 B2 B3 B4 B5 B6 B7 B8 B9 B10 B11; omega
    exact eq _ (Q0 hb) (P0 hb)
end ABOUT
