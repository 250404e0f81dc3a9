/-! turn, orient, on both sides -/
section TURN
variable {nn L N R : Nat} {E C : Nat → Nat} {v v2 : fx_V} {F F' F1 G G' G1 : fx_F}
theorem o_turn {a : Nat} (ha : a < 4294967296) (h : lr F G nn L E C N R) (hF : Cl k_T_turn [(2, 2), (0, a)] F v F') (hG : Cl k_M_turn [(2, 175), (0, a)] G v2 G') : v = v2 ∧ lr F' G' nn L E C N R ∧ sF F F' ∧ sG G G' := by
  have hL := h.1.1.2.1
  have hN := h.1.1
  have hs0 := h.2.2.2.1.2
  obtain ⟨nF, hF⟩ := c_T_turn hF
  obtain ⟨nG, hG⟩ := c_M_turn hG
  have Q := q_T_turn_0 hF
  have QG := q_M_turn_0 hG
  rw [h.2.1.1.2.1] at Q
  rw [h.2.2.1.1.2.2.1] at QG
  have no : v = (0, 4294967295) ∧ F' = F → v2 = (0, 4294967295) ∧ G' = G → v = v2 ∧ lr F' G' nn L E C N R ∧ sF F F' ∧ sG G G' := by
    rintro ⟨x1, x2⟩ ⟨y1, y2⟩
    subst x2
    subst y2
    exact ⟨x1.trans y1.symm, h, sF.rf, sG.rf⟩
  by_cases hl : a < L
  · obtain ⟨i1, i2, i3⟩ := in_y hl (show L ≤ 40 by clear Q QG; omega)
    obtain ⟨F1, k1, Q⟩ := (Q.2 i1).2 i2
    obtain ⟨G1, k2, y1, y2⟩ := (QG.2 i1).2 i3
    clear QG
    obtain ⟨e2, t1, t2, t3, t4, t5, t6, t7⟩ := h.kept k1 k2
    have hS : S0 (F 2 13) := h.2.2.2.1.1.1.1
    have hS' : 53 ≤ F 2 13 := by clear Q; unfold S0 at hS; omega
    have hb := sc_lt hN hs0
    have e3 : F1 (F 2 13) 1 = F (F 2 13) 1 := t1 0 1 (by decide)
    have hp : 2 ^ a < 2 ^ L := Nat.pow_lt_pow_right (by decide) hl
    have hup : F (F 2 13) 1 < 2 ^ L := hs0.2.1.1
    have hx : F (F 2 13) 1 ^^^ 2 ^ a < 2 ^ L := Nat.xor_lt_two_pow hup hp
    have hx2 := p20 hL hx
    have hbit : ∀ l, (F (F 2 13) 1 ^^^ 2 ^ a).testBit l = if l = a then !((F (F 2 13) 1).testBit l) else (F (F 2 13) 1).testBit l := fun l => by
      rw [Nat.testBit_xor, Nat.testBit_two_pow]
      by_cases e : l = a
      · subst e; rw [if_pos rfl]; simp
      · rw [if_neg e, decide_eq_false (fun z => e z.symm)]; simp
    rw [e2, e3, b_shl1 (show a < 32 by clear Q; omega), b_xor (k := L) (by clear Q; omega) hup hp] at Q
    rw [fu_p (show 2 ≠ F 2 13 by clear Q; omega), e2, fu_same, fu_p (show 4 ≠ F 2 13 by clear Q; omega), fu_p (show 5 ≠ F 2 13 by clear Q; omega), b_bitl (show F (F 2 13) 1 ^^^ 2 ^ a < 2147483648 by clear Q; omega) (show a < 32 by clear Q; omega), b_mul (show 2 * a < 4294967296 by clear Q; omega)] at Q
    have f4 : F1 4 (2 * a) = E (2 * a) := by
      rw [t2 4 _ (by decide) (by unfold rg; omega)]; exact (h.2.1.1.2.2 (2 * a) (by clear Q; omega)).1
    have f5 : F1 5 (2 * a) = E (2 * a + 1) := by
      rw [t2 5 _ (by decide) (by unfold rg; omega), (h.2.1.1.2.2 (2 * a) (by clear Q; omega)).2]
      congr 1
      unfold nf; rw [if_pos (by clear Q; omega)]
    rw [f4, f5] at Q
    have hm1 : mn G1 nn L E := h.2.2.1.1.eq (t4 9 (by decide) (by decide)) (fun p i h1 h2 => t3 p i (by simp; clear Q; omega))
    have g176 : ∀ i, G1 176 i = G 176 i := fun i => t3 176 i (by decide)
    have m0 := mE (w := 0) hm1 hL hl (by decide)
    have m1 := mE (w := 1) hm1 hL hl (by decide)
    have E0 : E (2 * a) < 10 := by have := (hN.2.2 (2 * a) (by clear Q; omega)).1; have := hN.1; clear Q; omega
    have E1 : E (2 * a + 1) < 10 := by have := (hN.2.2 (2 * a + 1) (by clear Q; omega)).1; have := hN.1; clear Q; omega
    rw [m0, m1, b_add (show 20 + a < 4294967296 by clear Q; omega), g176, hs0.2.1.2 a hl, Nat.add_zero, b_add (show E (2 * a) + E (2 * a + 1) < 4294967296 by clear Q; omega)] at y1 y2
    have hue : i_sub (E (2 * a) + E (2 * a + 1)) (ue E (bts (F (F 2 13) 1)) a) = ue E (bts (F (F 2 13) 1 ^^^ 2 ^ a)) a := by
      unfold ue
      show i_sub _ (if (F (F 2 13) 1).testBit a = true then _ else _) = if (F (F 2 13) 1 ^^^ 2 ^ a).testBit a = true then _ else _
      rw [hbit a, if_pos rfl]
      cases (F (F 2 13) 1).testBit a with
      | true => rw [if_pos rfl, if_neg (by decide), b_sub (by clear Q; omega) (by clear Q; omega)]; clear Q; omega
      | false => rw [if_neg (show ¬ false = true by decide), if_pos (show (!false) = true by decide), b_sub (by clear Q; omega) (by clear Q; omega)]; clear Q; omega
    rw [hue] at y1 y2
    rw [fu_same] at y1
    have hF' : v = (0, ue E (bts (F (F 2 13) 1 ^^^ 2 ^ a)) a) ∧ F' = fu F1 (F 2 13) 1 (F (F 2 13) 1 ^^^ 2 ^ a) := by
      unfold ue
      show v = (0, if (F (F 2 13) 1 ^^^ 2 ^ a).testBit a = true then _ else _) ∧ _
      by_cases w : (F (F 2 13) 1 ^^^ 2 ^ a).testBit a = true
      · rw [if_pos w] at Q ⊢
        exact Q.2 rfl
      · rw [if_neg w] at Q ⊢
        exact Q.1 (by decide)
    clear Q
    obtain ⟨x1, x2⟩ := hF'
    refine ⟨x1.trans y1.symm, ?_⟩
    subst x2
    subst y2
    refine h.act k1 k2 (fun p i _ h2 => fu_p (by omega)) (t6.eq (fun t i ht => fu_p (by omega))) (t7.eq (fun t i ht => fu_p (by omega))) (fun p i _ _ h3 => fu_p h3) (fun i _ => fu_p (by decide)) ?_
    refine sc_set t5 ?_ (fu_i (by decide)) ⟨?_, fun l hl2 => ?_⟩ ?_ (fun t i h1 h2 => fu_p (by omega)) (fun i h1 h2 => fu_i (by omega))
    · rw [fu_i (by decide), fu_i (by omega)]; exact t5.1
    · rw [fu_same]; exact hx
    · rw [fu_same]
      by_cases e : l = a
      · subst e; rw [fu_same]
      · rw [fu_i (by omega), g176, hs0.2.1.2 l hl2]
        unfold ue
        show (if (F (F 2 13) 1).testBit l = true then _ else _) = if (F (F 2 13) 1 ^^^ 2 ^ a).testBit l = true then _ else _
        rw [hbit l, if_neg e]
    · rw [fu_i (show 2 ≠ 1 by decide)]
      exact ⟨t5.2.2.1.1, fun l hl2 => by rw [fu_i (by omega)]; exact t5.2.2.1.2 l hl2⟩
  · rcases in_n hl ha (show L ≤ 40 by clear Q QG; omega) with z | ⟨z1, z2, z3⟩
    · exact no (Q.1 z) (QG.1 z)
    · exact no ((Q.2 z1).1 z2) ((QG.2 z1).1 z3)
theorem s_upEndsBy {r s : Nat} (hN : nt_ok nn L E) (hC : cd_ok C N) (hC2 : N ≠ 0 → 0 < hgt C N) (hr : r < nn ∨ nn = 0) (hr2 : r < 10) (hc : cn F nn L E) (hcc : cc F C N) (hss : s = F (F 2 13) 2) (hs : s < 2147483648) (h : Cl k_T_upEndsBy [(2, 2), (0, r)] F v F') : ∃ x, v = (0, x) ∧ nwb x L E (rk C N (fr L E (bts s) r) (fun u => dgc E (bts s) u (2 * L))) ∧ fxo [20, 21, 22, 23] F F' := by
  obtain ⟨n, h⟩ := c_T_upEndsBy h
  obtain ⟨F1, c1, n2, F2, c2, x1, x2⟩ := q_T_upEndsBy_0 h
  rw [← hss] at c1
  obtain ⟨a1, a2⟩ := s_rate hN hC hC2 hs hr hr2 hc hcc c1
  obtain ⟨x, b1, b2, b3, b4⟩ := s_upEnds hN (hc.keep a1 (by decide) (by decide) (by decide)) (fun u hu => (a2 u hu).2.2) c2
  subst b2
  cases b1
  subst x2
  exact ⟨_, x1, ⟨b3, b4⟩, a1⟩
theorem s_takeOver (hm : mn G nn L E) (hL : L ≤ 20) (h : Cl k_M_takeOver [(2, 175)] G v G') : v = (2, 0) ∧ fxo [176] G G' ∧ (∀ i, i < 20 ∨ 40 ≤ i → G' 176 i = G 176 i) ∧ ∀ l, l < L → G' 176 (20 + l) = G 190 l := by
  obtain ⟨n, h⟩ := c_M_takeOver h
  obtain ⟨m, hm2, hR⟩ := q_M_takeOver_0 h
  have lp : ∀ (n : Nat) (G2 : fx_F) (l : Nat), Rn n k_M_takeOver 2 [(2, 175), (0, l)] [] G2 v G' → l ≤ L → fxo [176] G G2 → (∀ i, i < 20 ∨ 40 ≤ i → G2 176 i = G 176 i) → (∀ j, j < l → G2 176 (20 + j) = G 190 j) → v = (2, 0) ∧ fxo [176] G G' ∧ (∀ i, i < 20 ∨ 40 ≤ i → G' 176 i = G 176 i) ∧ ∀ l, l < L → G' 176 (20 + l) = G 190 l := by
    intro n
    induction n using Nat.strongRecOn with
    | ind n ih =>
      intro G2 l h hl ho hA hB
      have Q := q_M_takeOver_2 h
      rw [ho 178 _ (by decide), ho 175 _ (by decide), hm.2.2.1] at Q
      rcases Nat.lt_or_ge l L with hlt | hge
      · obtain ⟨m, hm, hR⟩ := Q.2 (by rw [b_lt (by clear Q; omega) (by clear Q; omega)]; exact hlt)
        clear Q
        rw [b_add (show l + 1 < 4294967296 by omega), b_add (show 20 + l < 4294967296 by omega), ho 190 _ (by decide)] at hR
        refine ih m hm _ (l + 1) hR hlt (ho.wr (by decide)) (fun i hi => by rw [fu_i (by omega)]; exact hA i hi) (fun j hj => ?_)
        by_cases e : j = l
        · subst e; rw [fu_same]
        · rw [fu_i (by omega)]; exact hB j (by omega)
      · obtain ⟨x1, x2⟩ := Q.1 (by rw [b_le (by clear Q; omega) (by clear Q; omega)]; exact hge)
        clear Q
        subst x2
        exact ⟨x1, ho, hA, fun l hl => hB l (by omega)⟩
  exact lp m G 0 hR (Nat.zero_le _) fxo.rf (fun _ _ => rfl) (fun j hj => absurd hj (Nat.not_lt_zero _))
theorem o_orient {a : Nat} (ha : a < 4294967296) (h : lr F G nn L E C N R) (hF : Cl k_T_orient [(2, 2), (0, a)] F v F') (hG : Cl k_M_orient [(2, 175), (0, a)] G v2 G') : v = v2 ∧ lr F' G' nn L E C N R ∧ sF F F' ∧ sG G G' := by
  have hL := h.1.1.2.1
  have hN := h.1.1
  have hn := hN.1
  have hs0 := h.2.2.2.1.2
  obtain ⟨nF, hF⟩ := c_T_orient hF
  obtain ⟨nG, hG⟩ := c_M_orient hG
  have Q := q_T_orient_0 hF
  have QG := q_M_orient_0 hG
  rw [h.2.1.1.1] at Q
  rw [h.2.2.1.1.2.1] at QG
  have no : v = (0, 4294967295) ∧ F' = F → v2 = (0, 4294967295) ∧ G' = G → v = v2 ∧ lr F' G' nn L E C N R ∧ sF F F' ∧ sG G G' := by
    rintro ⟨x1, x2⟩ ⟨y1, y2⟩
    subst x2
    subst y2
    exact ⟨x1.trans y1.symm, h, sF.rf, sG.rf⟩
  by_cases hl : a < nn
  · obtain ⟨i1, i2, i3⟩ := in_y hl (show nn ≤ 40 by clear Q QG; omega)
    obtain ⟨F1, k1, n2, F2, c2, n3, F3, c3, x1, x2⟩ := (Q.2 i1).2 i2
    obtain ⟨G1, k2, G2, d2, m3, G3, d3, G4, d4, y1, y2⟩ := (QG.2 i1).2 i3
    clear Q QG
    obtain ⟨e2, t1, t2, t3, t4, t5, t6, t7⟩ := h.kept k1 k2
    have hS : S0 (F 2 13) := h.2.2.2.1.1.1.1
    have hS' : 53 ≤ F 2 13 ∧ (F 2 13 + 4 ≤ 152 ∨ 160 ≤ F 2 13) := by unfold S0 at hS; omega
    have hb := sc_lt hN t5
    have g176 : ∀ i, G1 176 i = G 176 i := fun i => t3 176 i (by decide)
    have hcn1 : cn F1 nn L E := h.2.1.1.eq (fun p i h1 h2 => t2 p i (by omega) (by unfold rg; omega))
    have hcc1 : cc F1 C N := h.2.1.2.2.1.eq (fun p i h1 h2 => t2 p i (by omega) (by unfold rg; omega))
    obtain ⟨x, z1, z2, z3⟩ := s_upEndsBy (s := F1 (F 2 13) 2) hN h.1.2.1 h.1.2.2.1 (Or.inl hl) (by omega) hcn1 hcc1 (by rw [e2]) (by omega) c2
    cases z1
    have o2 : ∀ p i, 53 ≤ p → F2 p i = F1 p i := fun p i hp => z3 p i (by simp; omega)
    have e22 : F2 2 13 = F 2 13 := (z3 2 13 (by decide)).trans e2
    rw [e22, o2 _ _ hS'.1, b_xor (k := L) (by omega) z2.1 t5.2.1.1] at c3
    obtain ⟨w1, w2⟩ := s_cbits hL (Nat.xor_lt_two_pow z2.1 t5.2.1.1) c3
    cases w1
    subst w2
    have hm1 : mn G1 nn L E := h.2.2.1.1.eq (t4 9 (by decide) (by decide)) (fun p i h1 h2 => t3 p i (by simp; omega))
    have hmc1 : mcc G1 C N := h.2.2.1.2.1.eq (t4 9 (by decide) (by decide)) (fun p i h1 h2 => t3 p i (by simp; omega))
    obtain ⟨u1, u2, -⟩ := s_orientBy (st := bts (F1 (F 2 13) 2)) hN h.1.2.1 h.1.2.2.1 (Or.inl hl) (by omega) hm1 hmc1 (fun l hl => mst_sc (t5.2.2.1.2 l hl)) d2
    have hm2 : mn G2 nn L E := hm1.keep u1 (by decide) (by decide) (by decide) (by decide)
    have hw2 : ∀ l, l < L → G2 190 l = ue E (bts n2) l := fun l hl => (u2 l hl).trans (nwb_ue z2 hl)
    obtain ⟨w3, w4⟩ := s_flips hN (u := F1 (F 2 13) 1) (nw := n2) hm2 (fun l hl => by rw [u1 176 _ (by decide)]; exact t5.2.1.2 l hl) hw2 d3
    cases w3
    subst w4
    obtain ⟨-, p1, p2, p3⟩ := s_takeOver hm2 hL d4
    have hxx : F1 (F 2 13) 1 ^^^ n2 = n2 ^^^ F1 (F 2 13) 1 := Nat.xor_comm _ _
    rw [hxx] at y1
    refine ⟨x1.trans y1.symm, ?_⟩
    rw [e22, fu_p (show 2 ≠ F 2 13 by omega), e22] at x2
    subst x2
    subst y2
    refine h.act k1 k2 (fun p i h1 h2 => ?_) (t6.eq (fun t i ht => ?_)) (t7.eq (fun t i ht => ?_)) (fun p i h1 h2 h3 => ?_) (fun i _ => ?_) ?_
    · rw [fu_p (by omega), fu_p (by omega), z3 p i (by unfold qF at h1; simp; omega)]
    · rw [fu_p (by omega), fu_p (by omega), z3 _ i (by simp; omega)]
    · rw [fu_p (by omega), fu_p (by omega), z3 _ i (by simp; omega)]
    · rw [fu_p h3, p1 p i (by simpa using h3), u1 p i (by unfold qG at h1; simp; omega)]
    · rw [fu_p (by decide), p1 175 _ (by decide), u1 175 _ (by decide)]
    · refine sc_set t5 ⟨?_, ?_, ?_⟩ ?_ ⟨?_, fun l hl2 => ?_⟩ ⟨?_, fun l hl2 => ?_⟩ (fun t i h1 h2 => ?_) (fun i h1 h2 => ?_)
      · rw [fu_same, fu_same]
      · rw [fu_same]; omega
      · rw [fu_same]; exact Or.inl hl
      · rw [fu_i (by decide), fu_i (by decide), o2 _ _ hS'.1]
      · rw [fu_i (by decide), fu_same]; exact z2.1
      · rw [fu_i (by omega), fu_i (by decide), fu_same, p3 l hl2]; exact hw2 l hl2
      · rw [fu_i (by decide), fu_i (by decide), o2 _ _ hS'.1]; exact t5.2.2.1.1
      · rw [fu_i (show l ≠ 40 by omega), fu_i (show 2 ≠ 0 by decide), fu_i (show 2 ≠ 1 by decide), o2 _ _ hS'.1, p2 l (Or.inl (by omega)), u1 176 _ (by decide)]; exact t5.2.2.1.2 l hl2
      · rw [fu_p (by omega), fu_p (by omega), o2 _ _ (by omega)]
      · rw [fu_i (by omega), p2 i (Or.inr (by omega)), u1 176 _ (by decide)]
  · rcases in_n hl ha (show nn ≤ 40 by clear Q QG; omega) with z | ⟨z1, z2, z3⟩
    · exact no (Q.1 z) (QG.1 z)
    · exact no ((Q.2 z1).1 z2) ((QG.2 z1).1 z3)
end TURN
