/-! rooted, best, without, dearest, around agree (names of other parts: bnd01 s_RoPW s_layPairs s_putAside s_bringBack lod_le) -/
section ROOTED
variable {nn L R N r w a b c : Nat} {E C : Nat → Nat} {v v2 : fx_V} {F F' F0 F1 F2 G G' : fx_F}
theorem bnd02 {a : Nat} (ha : a < 4294967296) : (a < 3 ∧ s_le 0 a ∧ s_le a 2) ∨ s_lt a 0 ∨ (s_le 0 a ∧ s_lt 2 a) := by
  rcases Nat.lt_or_ge a 2147483648 with z | z
  · have h0 : s_le 0 a := by rw [b_le (by decide) z]; exact Nat.zero_le _
    rcases Nat.lt_or_ge a 3 with y | y
    · exact Or.inl ⟨y, h0, by rw [b_le z (by decide)]; omega⟩
    · exact Or.inr (Or.inr ⟨h0, by rw [b_lt (by decide) z]; omega⟩)
  · exact Or.inr (Or.inl (by rw [b_neg ha]; exact z))
theorem s_PWW (h0 : lr F0 G nn L E C N R) (hk : kp nn L E F0 F1) (ha : a < 2147483648) (hb : b < 2147483648) (hc : Cl k_T_pairsWithoutWay [(2, 2), (0, a), (0, b)] F1 v F2) : v = (0, s2 (wN L E (bts b) (bts a)) nn nn) := by
  have hcn := (hk.cn h0).1
  obtain ⟨n, hc⟩ := c_T_pairsWithoutWay hc
  obtain ⟨F3, c1, n2, F4, c2, x1, x2⟩ := q_T_pairsWithoutWay_0 hc
  obtain ⟨-, a2, a3, -, -⟩ := s_see2 h0.1.1 ha hb (by decide) hcn hk.2.2.1 hk.2.2.2 c1
  obtain ⟨w1, w2⟩ := s_RoPW h0.1.1 (hcn.keep a2 (by decide) (by decide) (by decide)).1 a3.2.2.2.2 c2
  exact x1.trans w1
/-- the reference with a new root's up ends -/
theorem s_mroot (h : lr F G nn L E C N R) (hr : r < nn) {n1 : Nat} (he : nwb n1 L E (rk C N (fr L E (bts (F (F 2 13) 2)) r) (fun u => dgc E (bts (F (F 2 13) 2)) u (2 * L)))) {G1 G2 G3 : fx_F} {x1 x2 x3 : fx_V} (d1 : Cl k_M_putAside [(2, 175)] G x1 G1) (d2 : Cl k_M_orientBy [(2, 175), (0, r)] G1 x2 G2) (d3 : Cl k_M_takeOver [(2, 175)] G2 x3 G3) : mgi G3 nn L E (bts (F (F 2 13) 2)) (bts n1) := by
  have hN := h.1.1
  have hn := hN.1
  have hL := hN.2.1
  obtain ⟨k1, k2⟩ := s_putAside d1
  have hm1 : mn G1 nn L E := h.2.2.1.1.keep k1 (by decide) (by decide) (by decide) (by decide)
  have hmc1 : mcc G1 C N := h.2.2.1.2.1.keep k1 (by decide) (by decide) (by decide)
  have hst1 : ∀ l, l < L → bts (F (F 2 13) 2) l = mst G1 l := fun l hl => by rw [h.mgi.2.1 l hl]; unfold mst; rw [k1 176 _ (by decide)]
  obtain ⟨u1, u2, -⟩ := s_orientBy (st := bts (F (F 2 13) 2)) hN h.1.2.1 h.1.2.2.1 (Or.inl hr) (by omega) hm1 hmc1 hst1 d2
  have hm2 : mn G2 nn L E := hm1.keep u1 (by decide) (by decide) (by decide) (by decide)
  obtain ⟨-, p1, p2, p3⟩ := s_takeOver hm2 hL d3
  refine ⟨hm2.keep p1 (by decide) (by decide) (by decide) (by decide), fun l hl => ?_, fun l hl => ?_⟩
  · rw [hst1 l hl]; unfold mst; rw [p2 l (Or.inl (by omega)), u1 176 _ (by decide)]
  · rw [p3 l hl]; exact (u2 l hl).trans (nwb_ue he hl)
theorem o_worth (h : lr F G nn L E C N R) (hr : r < nn) (hw : w < 3) (hF : Cl k_T_worthOf [(2, 2), (0, r), (0, w)] F v F') (hG : Cl k_M_rootedBy [(2, 175), (0, r), (0, w)] G v2 G') : v = v2 ∧ ∃ x, v = (0, x) ∧ x ≤ 2000 := by
  have hN := h.1.1
  have hn := hN.1
  have hL := hN.2.1
  have hb := sc_lt hN h.2.2.2.1.2
  obtain ⟨nF, hF⟩ := c_T_worthOf hF
  obtain ⟨nG, hG⟩ := c_M_rootedBy hG
  obtain ⟨n1, F1, c1, Q⟩ := q_T_worthOf_0 hF
  obtain ⟨G1, d1, G2, d2, G3, d3, G4, d4, QG⟩ := q_M_rootedBy_0 hG
  obtain ⟨x, e1, e2, e3⟩ := s_upEndsBy (s := F (F 2 13) 2) hN h.1.2.1 h.1.2.2.1 (Or.inl hr) (by omega) h.2.1.1 h.2.1.2.2.1 rfl (by omega) c1
  cases e1
  have hk1 : kp nn L E F F1 := (h.kp.up h (Or.inl hr) (by omega) c1).1
  obtain ⟨j1, j2⟩ := hk1.now h
  have j3 : F1 (F 2 13) 2 = F (F 2 13) 2 := j2 0 2 (by decide)
  rw [j1, j3] at Q
  have hI3 := s_mroot h hr e2 d1 d2 d3
  obtain ⟨-, o1, o2, o3, -, -⟩ := s_layPairs hN hI3 d4
  have hI4 := o1.mgi hL hI3
  have h1b : n1 < 1048576 := p20 hL e2.1
  obtain ⟨hcn, hol, -⟩ := hk1.cn h
  have ld : ∀ c, lod nn L E (bts (F (F 2 13) 2)) (bts n1) c ≤ 2000 := fun c => lod_le hn
  have fin : ∀ z, z ≤ 2000 → v = (0, z) → v2 = (0, z) → v = v2 ∧ ∃ x, v = (0, x) ∧ x ≤ 2000 := fun z hz x1 x2 => ⟨x1.trans x2.symm, z, x1, hz⟩
  by_cases w0 : w = 0
  · obtain ⟨n2, F2, c2, x1, x2⟩ := Q.2 w0
    obtain ⟨G5, d5, y1, y2⟩ := (QG.2 w0).1 (by clear Q QG; omega)
    clear Q QG
    have e := s_PWW h hk1 (by omega) (by omega) c2
    cases e
    rw [o2] at y1
    exact fin _ (s2_le hn hn (fun j t _ _ => wN_le)) x1 y1
  · replace Q := Q.1 w0
    replace QG := QG.1 w0
    by_cases w1 : w = 1
    · obtain ⟨F2, c2, n3, F3, c3, x1, x2⟩ := Q.2 w1
      obtain ⟨G5, d5, y1, y2⟩ := QG.1 (by clear Q QG; omega)
      clear Q QG
      obtain ⟨-, a2, a3, -, -⟩ := s_see2 hN (by omega) (by omega) (by decide) hcn hk1.2.2.1 hk1.2.2.2 c2
      obtain ⟨w3, -⟩ := s_RoHT hN (hcn.keep a2 (by decide) (by decide) (by decide)).1 a3.2.2.2.2 c3
      cases w3
      rw [o3] at y1
      exact fin _ (s2_le hn hn (fun j t _ ht => wL_le hN ht)) x1 y1
    · replace Q := Q.1 w1
      obtain ⟨G5, d5, QG1, QG2⟩ := QG.2 (by clear Q QG; omega)
      clear QG
      obtain ⟨-, u1, u2⟩ := s_layLoads hN hI4 d5
      have hm5 : mn G5 nn L E := hI4.1.keep u1 (by decide) (by decide) (by decide) (by decide)
      rw [hm5.2.2.1] at QG1 QG2
      rw [hcn.2.1] at Q
      by_cases hL0 : L = 0
      · obtain ⟨x1, x2⟩ := Q.2 hL0
        obtain ⟨G6, d6, y1, y2⟩ := QG2 hL0
        exact fin 0 (Nat.zero_le _) x1 y1
      · obtain ⟨F2, c2, n3, F3, c3, x1, x2⟩ := Q.1 hL0
        obtain ⟨n6, G6, d6, G7, d7, y1, y2⟩ := QG1 hL0
        clear Q QG1 QG2
        obtain ⟨-, t1, -, -, t4, -, -⟩ := s_seeTable hN (show n1 < 2147483648 by omega) (show F (F 2 13) 2 < 2147483648 by omega) (by decide) hcn hol hk1.2.2.1 hk1.2.2.2 c2
        have b1 : ∀ c, c < 2 * L → F2 (32 + 4) c < 2147483648 := fun c hc => by
          rw [t4 c hc]
          have := ld c
          omega
        have b2 : ∀ c, c < 2 * L → G5 198 c < 2147483648 := fun c hc => by
          rw [u2 c hc]
          have := ld c
          omega
        obtain ⟨w3, w4⟩ := s_cheavy hL hL0 (hcn.keep t1 (by decide) (by decide) (by decide)) b1 c3
        subst w3
        cases w4
        obtain ⟨w5, w6⟩ := s_mheavy hL hm5 b2 d6
        subst w5
        cases w6
        have hv : hvy (F3 (32 + 4)) (2 * L) = hvy (G6 198) (2 * L) := hvy_congr (by omega) (fun c hc => by rw [t4 c hc, u2 c hc])
        have hvl : hvy (G6 198) (2 * L) < 2 * L := by
          have := hvy_lt (us := G6 198) (2 * L - 1)
          rw [show 2 * L - 1 + 1 = 2 * L by omega] at this
          exact this
        have f4 : F3 36 (hvy (G6 198) (2 * L)) = lod nn L E (bts (F (F 2 13) 2)) (bts n1) (hvy (G6 198) (2 * L)) := t4 _ hvl
        rw [hv, f4] at x1
        rw [u2 _ hvl] at y1
        exact fin _ (ld _) x1 y1
theorem o_rooted (ha : a < 4294967296) (hb : b < 4294967296) (h : lr F G nn L E C N R) (hF : Cl k_T_rooted [(2, 2), (0, a), (0, b)] F v F') (hG : Cl k_M_rooted [(2, 175), (0, a), (0, b)] G v2 G') : v = v2 ∧ lr F' G' nn L E C N R ∧ sF F F' ∧ sG G G' := by
  refine ⟨?_, h.kk (h_T_rooted h ha hF) (g_M_rooted hG)⟩
  have hn := h.1.1.1
  obtain ⟨nF, hF⟩ := c_T_rooted hF
  obtain ⟨nG, hG⟩ := c_M_rooted hG
  have Q := q_T_rooted_0 hF
  have QG := q_M_rooted_0 hG
  rw [h.2.1.1.1] at Q
  rw [h.2.2.1.1.2.1] at QG
  by_cases hl : a < nn
  · obtain ⟨i1, i2, i3⟩ := in_y hl (show nn ≤ 40 by clear Q QG; omega)
    replace Q := (Q.2 i1).2 i2
    replace QG := (QG.2 i1).2 i3
    rcases bnd02 hb with ⟨c2, j1, j2⟩ | z | ⟨z1, z2⟩
    · obtain ⟨n1, F1, c1, x1, x2⟩ := (Q.2 j1).1 j2
      obtain ⟨m1, G1, d1, y1, y2⟩ := (QG.2 j1).2 j2
      rw [x1, y1]
      exact (o_worth h hl c2 c1 d1).1
    · exact (Q.1 z).1.trans (QG.1 z).1.symm
    · exact ((Q.2 z1).2 z2).1.trans ((QG.2 z1).1 z2).1.symm
  · rcases in_n hl ha (show nn ≤ 40 by clear Q QG; omega) with z | ⟨z1, z2, z3⟩
    · exact (Q.1 z).1.trans (QG.1 z).1.symm
    · exact ((Q.2 z1).1 z2).1.trans ((QG.2 z1).1 z3).1.symm
theorem o_best (ha : a < 4294967296) (h : lr F G nn L E C N R) (hF : Cl k_T_best [(2, 2), (0, a)] F v F') (hG : Cl k_M_best [(2, 175), (0, a)] G v2 G') : v = v2 ∧ lr F' G' nn L E C N R ∧ sF F F' ∧ sG G G' := by
  refine ⟨?_, h.kk (h_T_best h hF) (g_M_best hG)⟩
  have hn := h.1.1.1
  obtain ⟨nF, hF⟩ := c_T_best hF
  obtain ⟨nG, hG⟩ := c_M_best hG
  have Q := q_T_best_0 hF
  have QG := q_M_best_0 hG
  rw [h.2.1.1.1] at Q
  rw [h.2.2.1.1.2.1] at QG
  have lp : ∀ (n nG : Nat) (F1 G1 : fx_F) (l2 l3 l4 : Nat), a < 3 → lr F1 G1 nn L E C N R → Rn n k_T_best 33 [(2, 2), (0, a), (0, l2), (0, l3), (0, l4), (3, 0)] [] F1 v F' → Rn nG k_M_best 30 [(2, 175), (0, a), (0, l2), (0, l3), (0, l4), (3, 0)] [] G1 v2 G' → l3 ≤ 2000 → l4 ≤ nn → v = v2 := by
    intro n
    induction n using Nat.strongRecOn with
    | ind n ih =>
      intro nG F1 G1 l2 l3 l4 ha3 h1 hR hS hl3 hl4
      have q := q_T_best_33 hR
      have qg := q_M_best_30 hS
      rw [h1.2.1.1.1] at q
      rw [h1.2.2.1.1.2.1] at qg
      rcases Nat.lt_or_ge l4 nn with z | z
      · have zz : s_lt l4 nn := by rw [b_lt (by clear q qg; omega) (by clear q qg; omega)]; exact z
        obtain ⟨n2, F2, c2, q1, q2⟩ := q.2 zz
        obtain ⟨m2, G2, d2, g1, g2⟩ := qg.2 zz
        clear q qg
        obtain ⟨e1, x, e2, e3⟩ := o_worth h1 z ha3 c2 d2
        have h2 := (h1.kk (h1.kp.worth h1 z c2) (g_M_rootedBy d2)).1
        cases e1
        cases e2
        rw [b_add (show l4 + 1 < 4294967296 by clear q1 q2 g1 g2; omega)] at q1 q2 g1 g2
        rcases Nat.lt_or_ge n2 l3 with y | y
        · have yy : s_lt n2 l3 := by rw [b_lt (by clear q1 q2 g1 g2; omega) (by clear q1 q2 g1 g2; omega)]; exact y
          obtain ⟨m, hm, hR⟩ := q2 yy
          obtain ⟨m', hm', hS⟩ := g1 yy
          exact ih m hm m' F2 G2 _ _ _ ha3 h2 hR hS e3 z
        · have yy : s_le l3 n2 := by rw [b_le (by clear q1 q2 g1 g2; omega) (by clear q1 q2 g1 g2; omega)]; exact y
          obtain ⟨m, hm, hR⟩ := q1 yy
          obtain ⟨m', hm', hS⟩ := g2 yy
          exact ih m hm m' F2 G2 _ _ _ ha3 h2 hR hS hl3 z
      · have zz : s_le nn l4 := by rw [b_le (by clear q qg; omega) (by clear q qg; omega)]; exact z
        exact (q.1 zz).1.trans (qg.1 zz).1.symm
  by_cases hz : nn = 0
  · refine (Q.1 hz).1.trans (Eq.symm ?_)
    rcases bnd02 ha with ⟨c2, j1, j2⟩ | z | ⟨z1, z2⟩
    · exact (((QG.2 j1).2 j2).2 hz).1
    · exact (QG.1 z).1
    · exact ((QG.2 z1).1 z2).1
  · replace Q := Q.2 hz
    rcases bnd02 ha with ⟨c2, j1, j2⟩ | z | ⟨z1, z2⟩
    · obtain ⟨n1, F1, c1, m, hm, hR⟩ := (Q.2 j1).1 j2
      obtain ⟨m1, G1, d1, m', hm', hS⟩ := ((QG.2 j1).2 j2).1 hz
      clear Q QG
      obtain ⟨e1, x, e2, e3⟩ := o_worth h (show 0 < nn by omega) c2 c1 d1
      have h2 := (h.kk (h.kp.worth h (show 0 < nn by omega) c1) (g_M_rootedBy d1)).1
      cases e1
      cases e2
      exact lp m m' F1 G1 0 n1 1 c2 h2 hR hS e3 (by omega)
    · exact (Q.1 z).1.trans (QG.1 z).1.symm
    · exact ((Q.2 z1).2 z2).1.trans ((QG.2 z1).1 z2).1.symm
theorem fxo.ofg {S : List Nat} {F F' : fx_F} (h : gxo S [] F F') : fxo S F F' := fun p i hp => h p i hp (fun _ z => by cases z)
/-- a link left out -/
theorem s_clr (h : lr F G nn L E C N R) (hl : a < L) : i_and (F (F 2 13) 2) (i_xor (i_shl 1 a) 4294967295) < 2 ^ L ∧ ∀ j, (i_and (F (F 2 13) 2) (i_xor (i_shl 1 a) 4294967295)).testBit j = ((F (F 2 13) 2).testBit j && decide (j ≠ a)) := by
  have hL := h.1.1.2.1
  have hs0 := h.2.2.2.1.2
  have hb := sc_lt h.1.1 hs0
  obtain ⟨z1, z2⟩ := b_clr (x := F (F 2 13) 2) (l := a) (by omega) (by omega)
  refine ⟨tb_lt (fun i hi => ?_), z2⟩
  rw [z2, Bool.and_eq_true] at hi
  rcases Nat.lt_or_ge i L with w | w
  · exact w
  · rw [tb_out hs0.2.2.1.1 w] at hi; cases hi.1
theorem s_mcut (h : lr F G nn L E C N R) (hl : a < L) {s : Nat} (z2 : ∀ j, s.testBit j = ((F (F 2 13) 2).testBit j && decide (j ≠ a))) {G1 : fx_F} {x1 : fx_V} (d1 : Cl k_M_putAside [(2, 175)] G x1 G1) : mgi (fu G1 176 a 0) nn L E (bts s) (bts (F (F 2 13) 1)) ∧ mcc (fu G1 176 a 0) C N ∧ fu G1 176 a 0 176 40 = F (F 2 13) 0 := by
  have hL := h.1.1.2.1
  have hs0 := h.2.2.2.1.2
  obtain ⟨k1, k2⟩ := s_putAside d1
  have ho : fxo [176, 199] G (fu G1 176 a 0) := (k1.mono (by simp)).wr (by decide)
  refine ⟨⟨h.2.2.1.1.keep ho (by decide) (by decide) (by decide) (by decide), fun l hl2 => ?_, fun l hl2 => ?_⟩, h.2.2.1.2.1.keep ho (by decide) (by decide) (by decide), ?_⟩
  · unfold mst
    show s.testBit l = _
    rw [z2 l]
    by_cases e : l = a
    · subst e
      rw [fu_same, decide_eq_false (fun z => z rfl), Bool.and_false]
      rfl
    · rw [fu_i e, decide_eq_true e, Bool.and_true, k1 176 _ (by decide)]
      exact h.mgi.2.1 l hl2
  · rw [fu_i (by omega), k1 176 _ (by decide)]; exact h.mgi.2.2 l hl2
  · rw [fu_i (by omega), k1 176 _ (by decide)]; exact hs0.1.1.symm
theorem o_without (ha : a < 4294967296) (hb : b < 4294967296) (h : lr F G nn L E C N R) (hF : Cl k_T_without [(2, 2), (0, a), (0, b)] F v F') (hG : Cl k_M_without [(2, 175), (0, a), (0, b)] G v2 G') : v = v2 ∧ lr F' G' nn L E C N R ∧ sF F F' ∧ sG G G' := by
  refine ⟨?_, h.kk (h_T_without h hF) (g_M_without hG)⟩
  have hN := h.1.1
  have hn := hN.1
  have hL := hN.2.1
  have hs0 := h.2.2.2.1.2
  have hlt := sc_lt hN hs0
  obtain ⟨nF, hF⟩ := c_T_without hF
  obtain ⟨nG, hG⟩ := c_M_without hG
  have Q := q_T_without_0 hF
  have QG := q_M_without_0 hG
  rw [h.2.1.1.2.1] at Q
  rw [h.2.2.1.1.2.2.1] at QG
  by_cases hl : a < L
  · obtain ⟨i1, i2, i3⟩ := in_y hl (show L ≤ 40 by clear Q QG; omega)
    replace Q := (Q.2 i1).2 i2
    replace QG := (QG.2 i1).2 i3
    rw [b_bitl (show F (F 2 13) 2 < 2147483648 by clear Q QG; omega) (show a < 32 by clear Q QG; omega)] at Q
    rw [b_add0 ha, hs0.2.2.1.2 a hl] at QG
    by_cases hbit : (F (F 2 13) 2).testBit a = true
    · rw [if_pos hbit] at Q QG
      replace Q := Q.2 rfl
      replace QG := QG.2 rfl
      obtain ⟨hsl, z2⟩ := s_clr h hl
      generalize i_and (F (F 2 13) 2) (i_xor (i_shl 1 a) 4294967295) = s at Q hsl z2
      have hs20 : s < 1048576 := p20 hL hsl
      rcases bnd02 hb with ⟨c2, j1, j2⟩ | z | ⟨z1, z3⟩
      · obtain ⟨G1, d1, G2, d2, n3, G3, d3, QG1, QG2⟩ := (QG.2 j1).2 j2
        clear QG
        obtain ⟨hI, hmc, h40⟩ := s_mcut h hl z2 d1
        rw [h40] at d2
        have r1 : F (F 2 13) 0 < nn ∨ nn = 0 := by rw [hs0.1.1]; exact hs0.1.2.2
        have r2 : F (F 2 13) 0 < 10 := by rw [hs0.1.1]; exact hs0.1.2.1
        obtain ⟨u1, u2, -⟩ := s_orientBy (st := bts s) hN h.1.2.1 h.1.2.2.1 r1 r2 hI.1 hmc hI.2.1 d2
        have hI2 : mgi G2 nn L E (bts s) (bts (F (F 2 13) 1)) := hI.keep u1 (by decide) (by decide) (by decide) (by decide) (by decide)
        have hI3 : mgi G3 nn L E (bts s) (bts (F (F 2 13) 1)) := hI2.keep (fxo.ofg (w_M_flips d3)) (by decide) (by decide) (by decide) (by decide) (by decide)
        -- the class's new up ends
        have new : ∀ {F1 F2 : fx_F} {n2 : Nat}, Cl k_Or_rate [(2, 19), (0, F (F 2 13) 0), (0, s)] F (2, 0) F1 → Cl k_Or_upEnds [(2, 19)] F1 (0, n2) F2 → nwb n2 L E (rk C N (fr L E (bts s) (F (F 2 13) 0)) (fun u => dgc E (bts s) u (2 * L))) ∧ fxo [20, 21, 22, 23] F F2 := by
          clear Q QG1 QG2
          intro F1 F2 n2 c1 c2
          obtain ⟨a1, a2⟩ := s_rate hN h.1.2.1 h.1.2.2.1 (show s < 2147483648 by omega) r1 r2 h.2.1.1 h.2.1.2.2.1 c1
          obtain ⟨x, b1, b2, b3, b4⟩ := s_upEnds hN (h.2.1.1.keep a1 (by decide) (by decide) (by decide)) (fun u hu => (a2 u hu).2.2) c2
          subst b2
          cases b1
          exact ⟨⟨b3, b4⟩, a1⟩
        have hw2 : ∀ {n2 : Nat}, nwb n2 L E (rk C N (fr L E (bts s) (F (F 2 13) 0)) (fun u => dgc E (bts s) u (2 * L))) → ∀ l, l < L → G2 190 l = ue E (bts n2) l := fun he l hl2 => (u2 l hl2).trans (nwb_ue he hl2)
        by_cases b0 : b = 0
        · obtain ⟨n1, F1, c1, x1, x2⟩ := Q.2 b0
          obtain ⟨G4, d4, G5, d5, y1, y2⟩ := QG1 (by clear Q QG1 QG2; omega)
          obtain ⟨y3, y4⟩ := y1 (by clear Q QG1 QG2; omega)
          clear Q QG1 QG2
          obtain ⟨-, o1, o2, -⟩ := s_layPairs hN hI3 d4
          have e := s_PWW h h.kp (by omega) (by omega) c1
          cases e
          rw [(s_bringBack d5).1 175 40 (by decide), o2] at y3
          exact x1.trans y3.symm
        · replace Q := Q.1 b0
          by_cases b1 : b = 1
          · obtain ⟨F1, c1, n2, F2, c3, Q1, Q2⟩ := Q.1 b1
            obtain ⟨m3, F3, c4, x1, x2⟩ := Q2 b1
            obtain ⟨G4, d4, G5, d5, G6, d6, y1, y2⟩ := QG2 b1
            obtain ⟨y3, y4⟩ := y1 (by clear Q Q1 Q2 QG1 QG2; omega)
            clear Q Q1 Q2 QG1 QG2
            obtain ⟨e2, e3⟩ := new c1 c3
            have hf := fxo.ofg (w_M_flips d3)
            obtain ⟨-, p1, p2, p3⟩ := s_takeOver hI3.1 hL d4
            have hI4 : mgi G4 nn L E (bts s) (bts n2) := by
              refine ⟨hI3.1.keep p1 (by decide) (by decide) (by decide) (by decide), fun l hl2 => ?_, fun l hl2 => ?_⟩
              · rw [hI3.2.1 l hl2]; unfold mst; rw [p2 l (Or.inl (by omega))]
              · rw [p3 l hl2, hf 190 l (by simp)]; exact hw2 e2 l hl2
            obtain ⟨-, o1, o2, -⟩ := s_layPairs hN hI4 d5
            have hk2 : kp nn L E F F2 := h.kp.gx (S := [20, 21, 22, 23]) (fun p i hp _ => e3 p i hp) (by simp [qF])
            have h2b : n2 < 1048576 := p20 hL e2.1
            have e := s_PWW h hk2 (by omega) (by omega) c4
            cases e
            rw [(s_bringBack d6).1 175 40 (by decide), o2] at y3
            exact x1.trans y3.symm
          · have b2 : b = 2 := by clear Q QG1 QG2; omega
            obtain ⟨F1, c1, n2, F2, c3, Q1, Q2⟩ := (Q.2 b1).1 b2
            obtain ⟨m3, F3, c4, x1, x2⟩ := Q1 b1
            obtain ⟨G4, d4, G5, d5, y1, y2⟩ := QG1 b1
            obtain ⟨y3, y4⟩ := y2 b2
            clear Q Q1 Q2 QG1 QG2
            obtain ⟨e2, e3⟩ := new c1 c3
            obtain ⟨w3, w4⟩ := s_flips hN (u := F (F 2 13) 1) (nw := n2) hI2.1 hI2.2.2 (hw2 e2) d3
            cases w3
            have hS : S0 (F 2 13) := h.2.2.2.1.1.1.1
            have hS' : 53 ≤ F 2 13 := by unfold S0 at hS; omega
            rw [e3 2 13 (by decide), e3 (F 2 13) 1 (by simp; omega), b_xor (k := L) (by omega) e2.1 hs0.2.1.1] at c4
            obtain ⟨w5, w6⟩ := s_cbits hL (Nat.xor_lt_two_pow e2.1 hs0.2.1.1) c4
            cases w5
            rw [x1, y3, Nat.xor_comm]
      · have b0 : b ≠ 0 := fun e => by rw [e, b_neg (by decide)] at z; exact absurd z (by decide)
        have b1 : b ≠ 1 := fun e => by rw [e, b_neg (by decide)] at z; exact absurd z (by decide)
        have b2 : b ≠ 2 := fun e => by rw [e, b_neg (by decide)] at z; exact absurd z (by decide)
        exact (((Q.1 b0).2 b1).2 b2).1.trans (QG.1 z).1.symm
      · have b0 : b ≠ 0 := fun e => by rw [e, b_lt (by decide) (by decide)] at z3; exact absurd z3 (by decide)
        have b1 : b ≠ 1 := fun e => by rw [e, b_lt (by decide) (by decide)] at z3; exact absurd z3 (by decide)
        have b2 : b ≠ 2 := fun e => by rw [e, b_lt (by decide) (by decide)] at z3; exact absurd z3 (by decide)
        exact (((Q.1 b0).2 b1).2 b2).1.trans ((QG.2 z1).1 z3).1.symm
    · rw [if_neg hbit] at Q QG
      exact (Q.1 (by decide)).1.trans (QG.1 (by decide)).1.symm
  · rcases in_n hl ha (show L ≤ 40 by clear Q QG; omega) with z | ⟨z1, z2, z3⟩
    · exact (Q.1 z).1.trans (QG.1 z).1.symm
    · exact ((Q.2 z1).1 z2).1.trans ((QG.2 z1).1 z3).1.symm
/-- what without answers of a link at 0 -/
theorem o_without0 (hl : a < L) (h : lr F G nn L E C N R) (hG : Cl k_M_without [(2, 175), (0, a), (0, 0)] G v2 G') : ((F (F 2 13) 2).testBit a = false → v2 = (0, 4294967295)) ∧ ((F (F 2 13) 2).testBit a = true → v2 = (0, s2 (wN L E (bts (i_and (F (F 2 13) 2) (i_xor (i_shl 1 a) 4294967295))) (bts (F (F 2 13) 1))) nn nn)) := by
  have hN := h.1.1
  have hn := hN.1
  have hL := hN.2.1
  have hs0 := h.2.2.2.1.2
  obtain ⟨nG, hG⟩ := c_M_without hG
  have QG := q_M_without_0 hG
  rw [h.2.2.1.1.2.2.1] at QG
  obtain ⟨i1, i2, i3⟩ := in_y hl (show L ≤ 40 by clear QG; omega)
  replace QG := (QG.2 i1).2 i3
  rw [b_add0 (show a < 4294967296 by clear QG; omega), hs0.2.2.1.2 a hl] at QG
  refine ⟨fun hbit => ?_, fun hbit => ?_⟩
  · rw [hbit, if_neg (by decide)] at QG
    exact (QG.1 (by decide)).1
  · rw [if_pos hbit] at QG
    obtain ⟨hsl, z2⟩ := s_clr h hl
    obtain ⟨G1, d1, G2, d2, n3, G3, d3, QG1, QG2⟩ := ((QG.2 rfl).2 (by rw [b_le (by decide) (by decide)]; exact Nat.le_refl 0)).2 (by rw [b_le (by decide) (by decide)]; decide)
    obtain ⟨G4, d4, G5, d5, y1, y2⟩ := QG1 (by decide)
    obtain ⟨y3, y4⟩ := y1 (by decide)
    clear QG QG1 QG2
    obtain ⟨hI, hmc, h40⟩ := s_mcut h hl z2 d1
    have hI2 : mgi G2 nn L E _ (bts (F (F 2 13) 1)) := hI.keep (fxo.ofg (w_M_orientBy d2)) (by decide) (by decide) (by decide) (by decide) (by decide)
    have hI3 : mgi G3 nn L E _ (bts (F (F 2 13) 1)) := hI2.keep (fxo.ofg (w_M_flips d3)) (by decide) (by decide) (by decide) (by decide) (by decide)
    obtain ⟨-, o1, o2, -⟩ := s_layPairs hN hI3 d4
    rw [(s_bringBack d5).1 175 40 (by decide), o2] at y3
    exact y3
theorem o_dearest (h : lr F G nn L E C N R) (hF : Cl k_T_dearest [(2, 2)] F v F') (hG : Cl k_M_dearest [(2, 175)] G v2 G') : v = v2 ∧ lr F' G' nn L E C N R ∧ sF F F' ∧ sG G G' := by
  refine ⟨?_, h.kk (h_T_dearest h hF) (g_M_dearest hG)⟩
  have hN := h.1.1
  have hn := hN.1
  have hL := hN.2.1
  obtain ⟨nF, hF⟩ := c_T_dearest hF
  obtain ⟨nG, hG⟩ := c_M_dearest hG
  obtain ⟨m, hm, hR⟩ := q_T_dearest_0 hF
  obtain ⟨m', hm', hS⟩ := q_M_dearest_0 hG
  have lp : ∀ (n nG : Nat) (F1 G1 : fx_F) (l1 l2 l3 : Nat), lr F1 G1 nn L E C N R → Rn n k_T_dearest 6 [(2, 2), (0, l1), (0, l2), (0, l3), (3, 0)] [] F1 v F' → Rn nG k_M_dearest 6 [(2, 175), (0, l1), (0, l2), (0, l3), (3, 0)] [] G1 v2 G' → (l2 ≤ 2000 ∨ l2 = 4294967295) → l3 ≤ L → v = v2 := by
    intro n
    induction n using Nat.strongRecOn with
    | ind n ih =>
      intro nG F1 G1 l1 l2 l3 h1 hR hS hl2 hl3
      have hs0 := h1.2.2.2.1.2
      have hlt := sc_lt hN hs0
      have q := q_T_dearest_6 hR
      have qg := q_M_dearest_6 hS
      rw [h1.2.1.1.2.1] at q
      rw [h1.2.2.1.1.2.2.1] at qg
      rcases Nat.lt_or_ge l3 L with z | z
      · have zz : s_lt l3 L := by rw [b_lt (by clear q qg; omega) (by clear q qg; omega)]; exact z
        replace q := q.2 zz
        obtain ⟨m2, G2, d2, g1, g2⟩ := qg.2 zz
        clear qg
        have hw := o_without0 z h1 d2
        rw [b_bitl (show F1 (F1 2 13) 2 < 2147483648 by clear q g1 g2; omega) (show l3 < 32 by clear q g1 g2; omega), b_add (show l3 + 1 < 4294967296 by clear q g1 g2; omega)] at q
        rw [b_add (show l3 + 1 < 4294967296 by clear q g1 g2; omega)] at g1 g2
        have hg2 := g_M_without d2
        cases hbit : (F1 (F1 2 13) 2).testBit l3 with
        | false =>
          rw [hbit, if_neg (by decide)] at q
          obtain ⟨m, hm, hR⟩ := q.1 (by decide)
          have e := hw.1 hbit
          cases e
          have h2 := (h1.kk h1.kp hg2).1
          have yy : s_le 4294967295 l2 := by
            rcases hl2 with y | y
            · rw [b_le_m2 (by clear q g1 g2; omega)]; trivial
            · rw [y, s_le_eq]; exact Nat.le_refl _
          obtain ⟨m', hm', hS⟩ := g2 yy
          exact ih m hm m' F1 G2 _ _ _ h2 hR hS hl2 z
        | true =>
          rw [if_pos hbit] at q
          obtain ⟨n1, F2, c2, q1, q2⟩ := q.2 rfl
          clear q
          have e := hw.2 hbit
          obtain ⟨hsl, z2⟩ := s_clr h1 z
          have hsl20 := p20 hL hsl
          have e2 := s_PWW h1 h1.kp (by clear q1 q2 g1 g2; omega) (by clear q1 q2 g1 g2; omega) c2
          have h2 := (h1.kk (h1.kp.way h1 (by clear q1 q2 g1 g2; omega) (by clear q1 q2 g1 g2; omega) c2) hg2).1
          have hle := s2_le (w := wN L E (bts (i_and (F1 (F1 2 13) 2) (i_xor (i_shl 1 l3) 4294967295))) (bts (F1 (F1 2 13) 1))) hn hn (fun j t _ _ => wN_le)
          generalize s2 (wN L E (bts (i_and (F1 (F1 2 13) 2) (i_xor (i_shl 1 l3) 4294967295))) (bts (F1 (F1 2 13) 1))) nn nn = y at e e2 hle
          cases e
          cases e2
          rcases hl2 with w | w
          · rcases Nat.lt_or_ge l2 m2 with k | k
            · have yy : s_lt l2 m2 := by rw [b_lt (by clear q1 q2 g1 g2; omega) (by clear q1 q2 g1 g2; omega)]; exact k
              obtain ⟨m, hm, hR⟩ := q2 yy
              obtain ⟨m', hm', hS⟩ := g1 yy
              exact ih m hm m' F2 G2 _ _ _ h2 hR hS (Or.inl hle) z
            · have yy : s_le m2 l2 := by rw [b_le (by clear q1 q2 g1 g2; omega) (by clear q1 q2 g1 g2; omega)]; exact k
              obtain ⟨m, hm, hR⟩ := q1 yy
              obtain ⟨m', hm', hS⟩ := g2 yy
              exact ih m hm m' F2 G2 _ _ _ h2 hR hS (Or.inl w) z
          · have yy : s_lt l2 m2 := by rw [w, b_lt_m (by clear q1 q2 g1 g2; omega)]; trivial
            obtain ⟨m, hm, hR⟩ := q2 yy
            obtain ⟨m', hm', hS⟩ := g1 yy
            exact ih m hm m' F2 G2 _ _ _ h2 hR hS (Or.inl hle) z
      · have zz : s_le L l3 := by rw [b_le (by clear q qg; omega) (by clear q qg; omega)]; exact z
        exact (q.1 zz).1.trans (qg.1 zz).1.symm
  exact lp m m' F G _ _ 0 h hR hS (Or.inr rfl) (Nat.zero_le _)
/-- a way's length, as either tells it -/
theorem s_mlen {st u : Nat → Bool} (hN : nt_ok nn L E) (ha : a < nn) (hb : b < nn) (hI : mgi G nn L E st u) (hG : Cl k_M_length [(2, 175), (0, a), (0, b)] G v2 G') : v2 = (0, if gv L E st u b (2 * a) < 100000 then gv L E st u b (2 * a) else 4294967295) := by
  have hn := hN.1
  obtain ⟨nG, hG⟩ := c_M_length hG
  have QG := q_M_length_0 hG
  rw [hI.1.2.1] at QG
  obtain ⟨i1, i2, i3⟩ := in_y ha (show nn ≤ 40 by clear QG; omega)
  obtain ⟨k1, k2, k3⟩ := in_y hb (show nn ≤ 40 by clear QG; omega)
  obtain ⟨G1, d1, QG1, QG2⟩ := (((QG.2 i1).2 i3).2 k1).2 k3
  clear QG
  obtain ⟨-, u1, u2⟩ := s_layGoal hN hb hI d1
  have ei : i_add (i_add (i_mul 20 b) (i_mul 2 a)) 0 = 20 * b + 2 * a := by
    rw [b_mul (show 20 * b < 4294967296 by omega), b_mul (show 2 * a < 4294967296 by omega), b_add (show 20 * b + 2 * a < 4294967296 by omega), b_add (show 20 * b + 2 * a + 0 < 4294967296 by omega)]; rfl
  have e : G1 193 (20 * b + 2 * a) = gv L E st u b (2 * a) := mrow_v hN hb u2 (by omega)
  rw [ei, e] at QG1 QG2
  rcases gv_or hN hb st u (2 * a) with ⟨h1, -⟩ | ⟨h1, -⟩
  · rw [if_pos (by omega)]
    exact (QG2 (by rw [b_lt (by clear QG1 QG2; omega) (by decide)]; clear QG1 QG2; omega)).1
  · rw [if_neg (by omega)]
    exact (QG1 (by rw [h1, b_le (by decide) (by decide)]; exact Nat.le_refl _)).1
theorem o_around (ha : a < 4294967296) (hb : b < 4294967296) (hc : c < 4294967296) (h : lr F G nn L E C N R) (hF : Cl k_T_around [(2, 2), (0, a), (0, b), (0, c)] F v F') (hG : Cl k_M_around [(2, 175), (0, a), (0, b), (0, c)] G v2 G') : v = v2 ∧ lr F' G' nn L E C N R ∧ sF F F' ∧ sG G G' := by
  refine ⟨?_, h.kk (h_T_around h hF) (g_M_around hG)⟩
  have hN := h.1.1
  have hn := hN.1
  have hL := hN.2.1
  have hs0 := h.2.2.2.1.2
  have hlt := sc_lt hN hs0
  obtain ⟨nF, hF⟩ := c_T_around hF
  obtain ⟨nG, hG⟩ := c_M_around hG
  have Q := q_T_around_0 hF
  have QG := q_M_around_0 hG
  rw [h.2.1.1.1, h.2.1.1.2.1] at Q
  rw [h.2.2.1.1.2.1, h.2.2.1.1.2.2.1] at QG
  by_cases hl : a < nn
  · obtain ⟨i1, i2, i3⟩ := in_y hl (show nn ≤ 40 by clear Q QG; omega)
    replace Q := (Q.2 i1).2 i2
    replace QG := (QG.2 i1).2 i3
    by_cases hl2 : b < nn
    · obtain ⟨i1, i2, i3⟩ := in_y hl2 (show nn ≤ 40 by clear Q QG; omega)
      replace Q := (Q.2 i1).2 i2
      replace QG := (QG.2 i1).2 i3
      by_cases hl3 : c < L
      · obtain ⟨i1, i2, i3⟩ := in_y hl3 (show L ≤ 40 by clear Q QG; omega)
        replace Q := (Q.2 i1).2 i2
        replace QG := (QG.2 i1).2 i3
        rw [b_bitl (show F (F 2 13) 2 < 2147483648 by clear Q QG; omega) (show c < 32 by clear Q QG; omega)] at Q
        rw [b_add0 hc, hs0.2.2.1.2 c hl3] at QG
        by_cases hbit : (F (F 2 13) 2).testBit c = true
        · rw [if_pos hbit] at Q QG
          obtain ⟨F1, c1, x1, x2⟩ := Q.2 rfl
          obtain ⟨G1, d1, m2, G2, d2, G3, d3, y1, y2⟩ := QG.2 rfl
          clear Q QG
          obtain ⟨hsl, z2⟩ := s_clr h hl3
          have hsl20 := p20 hL hsl
          obtain ⟨hI, -, -⟩ := s_mcut h hl3 z2 d1
          obtain ⟨-, a2, a3, -, -⟩ := s_see2 hN (show F (F 2 13) 1 < 2147483648 by omega) (by omega) (by decide) h.2.1.1 h.2.2.2.2.2.1 h.2.2.2.2.2.2 c1
          have e := s_mlen hN hl hl2 hI d2
          cases e
          have e2 := hrow_v hN hl2 (a3.2.2.2.2 b hl2) (show 2 * a < 2 * nn by omega)
          rw [ixr (show a < 10 by omega) (show b < 10 by omega)] at x1
          rw [x1, y1]
          exact congrArg (fun z => (0, z)) e2
        · rw [if_neg hbit] at Q QG
          exact (Q.1 (by decide)).1.trans (QG.1 (by decide)).1.symm
      · rcases in_n hl3 hc (show L ≤ 40 by clear Q QG; omega) with z | ⟨z1, z2, z3⟩
        · exact (Q.1 z).1.trans (QG.1 z).1.symm
        · exact ((Q.2 z1).1 z2).1.trans ((QG.2 z1).1 z3).1.symm
    · rcases in_n hl2 hb (show nn ≤ 40 by clear Q QG; omega) with z | ⟨z1, z2, z3⟩
      · exact (Q.1 z).1.trans (QG.1 z).1.symm
      · exact ((Q.2 z1).1 z2).1.trans ((QG.2 z1).1 z3).1.symm
  · rcases in_n hl ha (show nn ≤ 40 by clear Q QG; omega) with z | ⟨z1, z2, z3⟩
    · exact (Q.1 z).1.trans (QG.1 z).1.symm
    · exact ((Q.2 z1).1 z2).1.trans ((QG.2 z1).1 z3).1.symm
end ROOTED
