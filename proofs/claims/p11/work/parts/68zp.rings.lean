/-! ring, rings keep the relation and agree (names of other parts: bnd01) -/
section RINGS
variable {nn L R N : Nat} {E C : Nat → Nat} {v v2 : fx_V} {F F' G G' : fx_F} {T : Nat → Nat → Prop}
/-- the length of the shortest ring through c -/
def rgl (T : Nat → Nat → Prop) (c w : Nat) : Prop := (∃ k, 1 ≤ k ∧ k ≤ 41 ∧ pm T k c c ∧ w = k) ∨ ((∀ k, ¬ pth T (k + 1) c c) ∧ w = 4294967295)
theorem rgl_fun {c w w' : Nat} (h : rgl T c w) (h2 : rgl T c w') : w = w' := by
  rcases h with ⟨k, a, b, d, e⟩ | ⟨a, e⟩ <;> rcases h2 with ⟨k', a', b', d', e'⟩ | ⟨a', e'⟩
  · rcases Nat.lt_trichotomy k k' with z | z | z
    · exact absurd d.1 (d'.2 k a z)
    · omega
    · exact absurd d'.1 (d.2 k' a' z)
  · have := a' (k - 1)
    rw [show k - 1 + 1 = k by omega] at this
    exact absurd d.1 this
  · have := a (k' - 1)
    rw [show k' - 1 + 1 = k' by omega] at this
    exact absurd d'.1 this
  · omega
/-- the class's turns by its own rules -/
theorem lr.turns (h : lr F G nn L E C N R) {F1 : fx_F} (hc : Cl k_Tu_take [(2, 45), (0, F (F 2 13) 1), (0, F (F 2 13) 1), (0, F (F 2 13) 2)] F v F1) : fxo [46, 47] F F1 ∧ ontos F1 L (trn L E (bts (F (F 2 13) 2)) (bts (F (F 2 13) 1))) (2 * L) := by
  have hb := sc_lt h.1.1 h.2.2.2.1.2
  obtain ⟨t1, t2⟩ := s_take h.1.1 (show F (F 2 13) 1 < 2147483648 by omega) (show F (F 2 13) 1 < 2147483648 by omega) (show F (F 2 13) 2 < 2147483648 by omega) h.2.1.1 hc
  exact ⟨t1, fun c hc j => (t2 c hc j).trans ⟨fun z => z.elim id id, Or.inl⟩⟩
theorem lr.trn (h : lr F G nn L E C N R) (hF : fxo [46, 47] F F') (hG : fxo [192] G G') : lr F' G' nn L E C N R ∧ sF F F' ∧ sG G G' := h.fr (fun p i hp => hF p i (by unfold qF at hp; simp; omega)) (h.2.2.2.2.1.eq (fun t i ht => hF _ i (by simp; omega))) (h.2.2.2.2.2.eq (fun t i ht => hF _ i (by simp; omega))) (fun p i hp _ => hG p i (by unfold qG at hp; simp; omega)) (fun i _ => hG 175 i (by decide))
theorem o_ring {a : Nat} (ha : a < 4294967296) (h : lr F G nn L E C N R) (hF : Cl k_T_ring [(2, 2), (0, a)] F v F') (hG : Cl k_M_ring [(2, 175), (0, a)] G v2 G') : v = v2 ∧ lr F' G' nn L E C N R ∧ sF F F' ∧ sG G G' := by
  have hL := h.1.1.2.1
  have hN := h.1.1
  obtain ⟨nF, hF⟩ := c_T_ring hF
  obtain ⟨nG, hG⟩ := c_M_ring hG
  have Q := q_T_ring_0 hF
  have QG := q_M_ring_0 hG
  rw [h.2.1.1.2.1, b_mul (show 2 * L < 4294967296 by clear Q QG; omega)] at Q
  rw [h.2.2.1.1.2.2.1, b_mul (show 2 * L < 4294967296 by clear Q QG; omega)] at QG
  have no : v = (0, 4294967295) ∧ F' = F → v2 = (0, 4294967295) ∧ G' = G → v = v2 ∧ lr F' G' nn L E C N R ∧ sF F F' ∧ sG G G' := by
    rintro ⟨x1, x2⟩ ⟨y1, y2⟩
    subst x2
    subst y2
    exact ⟨x1.trans y1.symm, h, sF.rf, sG.rf⟩
  by_cases hl : a < 2 * L
  · obtain ⟨i1, i2, i3⟩ := in_y hl (show 2 * L ≤ 40 by clear Q QG; omega)
    obtain ⟨F1, c1, n2, F2, c2, x1, x2⟩ := (Q.2 i1).2 i2
    obtain ⟨G1, d1, m2, G2, d2, y1, y2⟩ := (QG.2 i1).2 i3
    clear Q QG
    obtain ⟨t1, t2⟩ := h.turns c1
    obtain ⟨-, u1, u2⟩ := s_layTurns hN (lr.mgi h) d1
    have hT : ∀ c d, trn L E (bts (F (F 2 13) 2)) (bts (F (F 2 13) 1)) c d → c < 2 * L ∧ d < 2 * L := fun c d z => ⟨z.1, z.2.1⟩
    obtain ⟨w1, w2⟩ := s_shortRing hN hT (h.2.1.1.keep t1 (by decide) (by decide) (by decide)) hl t2 c2
    obtain ⟨w3, w4⟩ := s_roundOf hN hT (h.2.2.1.1.keep u1 (by decide) (by decide) (by decide) (by decide)) hl u2 d2
    subst w1
    subst w3
    have r1 : rgl (trn L E (bts (F (F 2 13) 2)) (bts (F (F 2 13) 1))) a n2 := by
      rcases w2 with ⟨k, a1, a2, a3, a4⟩ | ⟨a1, a2⟩
      · cases a4; exact Or.inl ⟨_, a1, a2, a3, rfl⟩
      · cases a2; exact Or.inr ⟨a1, rfl⟩
    have r2 : rgl (trn L E (bts (F (F 2 13) 2)) (bts (F (F 2 13) 1))) a m2 := by
      rcases w4 with ⟨k, a1, a2, a3, a4⟩ | ⟨a1, a2⟩
      · cases a4; exact Or.inl ⟨_, a1, a2, a3, rfl⟩
      · cases a2; exact Or.inr ⟨a1, rfl⟩
    have := rgl_fun r1 r2
    subst this
    subst x2
    subst y2
    exact ⟨x1.trans y1.symm, h.trn t1 u1⟩
  · rcases in_n hl ha (show 2 * L ≤ 40 by clear Q QG; omega) with z | ⟨z1, z2, z3⟩
    · exact no (Q.1 z) (QG.1 z)
    · exact no ((Q.2 z1).1 z2) ((QG.2 z1).1 z3)
theorem o_rings (h : lr F G nn L E C N R) (hF : Cl k_T_rings [(2, 2)] F v F') (hG : Cl k_M_rings [(2, 175)] G v2 G') : v = v2 ∧ lr F' G' nn L E C N R ∧ sF F F' ∧ sG G G' := by
  have hL := h.1.1.2.1
  have hN := h.1.1
  obtain ⟨nF, hF⟩ := c_T_rings hF
  obtain ⟨nG, hG⟩ := c_M_rings hG
  obtain ⟨F1, c1, mF, -, hRF⟩ := q_T_rings_0 hF
  obtain ⟨G1, d1, mG, -, hRG⟩ := q_M_rings_0 hG
  obtain ⟨t1, t2⟩ := h.turns c1
  obtain ⟨-, u1, u2⟩ := s_layTurns hN (lr.mgi h) d1
  have hT : ∀ c d, trn L E (bts (F (F 2 13) 2)) (bts (F (F 2 13) 1)) c d → c < 2 * L ∧ d < 2 * L := fun c d z => ⟨z.1, z.2.1⟩
  have hcn := h.2.1.1.keep t1 (by decide) (by decide) (by decide)
  have hmn := h.2.2.1.1.keep u1 (by decide) (by decide) (by decide) (by decide)
  have lp : ∀ (m i : Nat), i + m = 2 * L → ∀ (nF nG w : Nat), Rn nF k_T_rings 32 [(2, 2), (0, w), (0, i)] [] F1 v F' → Rn nG k_M_rings 8 [(2, 175), (0, w), (0, i)] [] G1 v2 G' → w ≤ i → v = v2 ∧ F' = F1 ∧ G' = G1 := by
    intro m
    induction m with
    | zero =>
      intro i hi nF nG w hF hG hw
      have Q := q_T_rings_32 hF
      have QG := q_M_rings_8 hG
      rw [hcn.2.1, b_mul (show 2 * L < 4294967296 by clear Q QG; omega)] at Q
      rw [hmn.2.2.1, b_mul (show 2 * L < 4294967296 by clear Q QG; omega)] at QG
      obtain ⟨x1, x2⟩ := Q.1 (by rw [b_le (by clear Q QG; omega) (by clear Q QG; omega)]; clear Q QG; omega)
      obtain ⟨y1, y2⟩ := QG.1 (by rw [b_le (by clear Q QG; omega) (by clear Q QG; omega)]; clear Q QG; omega)
      exact ⟨x1.trans y1.symm, x2, y2⟩
    | succ m ih =>
      intro i hi nF nG w hF hG hw
      have Q := q_T_rings_32 hF
      have QG := q_M_rings_8 hG
      rw [hcn.2.1, b_mul (show 2 * L < 4294967296 by clear Q QG; omega)] at Q
      rw [hmn.2.2.1, b_mul (show 2 * L < 4294967296 by clear Q QG; omega)] at QG
      have hlt : i < 2 * L := by clear Q QG; omega
      obtain ⟨n1, F2, c2, Q1, Q2⟩ := Q.2 (by rw [b_lt (by clear Q QG; omega) (by clear Q QG; omega)]; exact hlt)
      obtain ⟨m1, G2, d2, QG1, QG2⟩ := QG.2 (by rw [b_lt (by clear Q QG; omega) (by clear Q QG; omega)]; exact hlt)
      clear Q QG
      obtain ⟨w1, w2⟩ := s_shortRing hN hT hcn hlt t2 c2
      obtain ⟨w3, w4⟩ := s_roundOf hN hT hmn hlt u2 d2
      subst w1
      subst w3
      rw [b_add (show i + 1 < 4294967296 by clear Q1 Q2 QG1 QG2; omega), b_add (show w + 1 < 4294967296 by clear Q1 Q2 QG1 QG2; omega)] at Q2
      rw [b_add (show i + 1 < 4294967296 by clear Q1 Q2 QG1 QG2; omega)] at Q1
      rw [b_add (show i + 1 < 4294967296 by clear Q1 Q2 QG1 QG2; omega), b_add (show w + 1 < 4294967296 by clear Q1 Q2 QG1 QG2; omega)] at QG2
      rw [b_add (show i + 1 < 4294967296 by clear Q1 Q2 QG1 QG2; omega), b_add (show w + 0 < 4294967296 by clear Q1 Q2 QG1 QG2; omega), Nat.add_zero] at QG1
      rcases w2 with ⟨k, a1, a2, a3, a4⟩ | ⟨a1, a2⟩
      · rcases w4 with ⟨k', e1, e2, e3, e4⟩ | ⟨e1, e2⟩
        · have hk1 : n1 = k := by cases a4; rfl
          have hk2 : m1 = k' := by cases e4; rfl
          obtain ⟨m, -, hR⟩ := Q2 (by clear Q1 Q2 QG1 QG2; omega)
          obtain ⟨m', -, hR'⟩ := QG2 (by rw [b_lt (by decide) (by clear Q1 Q2 QG1 QG2; omega)]; clear Q1 Q2 QG1 QG2; omega)
          exact ih (i + 1) (by clear Q1 Q2 QG1 QG2; omega) _ _ (w + 1) hR hR' (by clear Q1 Q2 QG1 QG2; omega)
        · have := e1 (k - 1)
          rw [show k - 1 + 1 = k by clear Q1 Q2 QG1 QG2; omega] at this
          exact absurd a3.1 this
      · rcases w4 with ⟨k', e1, e2, e3, e4⟩ | ⟨e1, e2⟩
        · have := a1 (k' - 1)
          rw [show k' - 1 + 1 = k' by clear Q1 Q2 QG1 QG2; omega] at this
          exact absurd e3.1 this
        · cases a2
          cases e2
          obtain ⟨m, -, hR⟩ := Q1 rfl
          obtain ⟨m', -, hR'⟩ := QG1 (by rw [b_le_m2 (by decide)]; trivial)
          exact ih (i + 1) (by clear Q1 Q2 QG1 QG2; omega) _ _ w hR hR' (by clear Q1 Q2 QG1 QG2; omega)
  obtain ⟨x1, x2, x3⟩ := lp (2 * L) 0 (Nat.zero_add _) mF mG 0 hRF hRG (Nat.le_refl 0)
  subst x2
  subst x3
  exact ⟨x1, h.trn t1 u1⟩
end RINGS
