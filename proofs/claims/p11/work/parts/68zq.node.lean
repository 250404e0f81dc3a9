/-! node keeps the relation and agrees (names of other parts: bnd01, o_plan) -/
section NODE
variable {nn L R N : Nat} {E C : Nat → Nat} {v v2 : fx_V} {F F' G G' : fx_F}
theorem s_tri (x y : Nat) : (s_lt x y ∧ ¬ s_le y x) ∨ (s_le y x ∧ ¬ s_lt x y) := by
  rw [s_lt_eq, s_le_eq]
  omega
theorem s_irr (x : Nat) : ¬ s_lt x x ∧ s_le x x := by
  rw [s_lt_eq, s_le_eq]
  omega
theorem above2 (hnn : nn ≤ 10) {a : Nat} (ha : a < nn) {Rk : Nat → Nat} (hc : F 3 0 = nn) (hF2 : ∀ u, u < nn → F 22 u = Rk u) (hm : G 177 (G 175 9) = nn) (hG2 : ∀ u, u < nn → G 189 u = Rk u) (hF : Cl k_Or_countAbove [(2, 19), (0, a)] F v F') (hG : Cl k_M_aboveOf [(2, 175), (0, a)] G v2 G') : v = v2 ∧ F' = F ∧ G' = G := by
  obtain ⟨nF, hF⟩ := c_Or_countAbove hF
  obtain ⟨nG, hG⟩ := c_M_aboveOf hG
  obtain ⟨mF, -, hRF⟩ := q_Or_countAbove_0 hF
  obtain ⟨mG, -, hRG⟩ := q_M_aboveOf_0 hG
  have lp : ∀ (m i : Nat), i + m = nn → ∀ (nF nG w : Nat), Rn nF k_Or_countAbove 4 [(2, 19), (0, a), (0, w), (0, i)] [] F v F' → Rn nG k_M_aboveOf 4 [(2, 175), (0, a), (0, w), (0, i)] [] G v2 G' → w ≤ i → v = v2 ∧ F' = F ∧ G' = G := by
    intro m
    induction m with
    | zero =>
      intro i hi nF nG w hF hG hw
      have Q := q_Or_countAbove_4 hF
      have QG := q_M_aboveOf_4 hG
      rw [hc] at Q
      rw [hm] at QG
      obtain ⟨x1, x2⟩ := Q.1 (by rw [b_le (by clear Q QG; omega) (by clear Q QG; omega)]; clear Q QG; omega)
      obtain ⟨y1, y2⟩ := QG.1 (by rw [b_le (by clear Q QG; omega) (by clear Q QG; omega)]; clear Q QG; omega)
      exact ⟨x1.trans y1.symm, x2, y2⟩
    | succ m ih =>
      intro i hi nF nG w hF hG hw
      have Q := q_Or_countAbove_4 hF
      have QG := q_M_aboveOf_4 hG
      have hlt : i < nn := by clear Q QG; omega
      rw [hc, hF2 i hlt, hF2 a ha] at Q
      rw [hm, hG2 i hlt, hG2 a ha] at QG
      replace Q := Q.2 (by rw [b_lt (by clear Q QG; omega) (by clear Q QG; omega)]; exact hlt)
      replace QG := QG.2 (by rw [b_lt (by clear Q QG; omega) (by clear Q QG; omega)]; exact hlt)
      rw [b_add (show i + 1 < 4294967296 by clear Q QG; omega), b_add (show w + 1 < 4294967296 by clear Q QG; omega)] at Q
      rw [b_add (show i + 1 < 4294967296 by clear Q QG; omega), b_add (show w + 1 < 4294967296 by clear Q QG; omega), b_add (show w + 0 < 4294967296 by clear Q QG; omega), Nat.add_zero] at QG
      have go0 : (∃ m, m < nF ∧ Rn m k_Or_countAbove 4 [(2, 19), (0, a), (0, w), (0, i + 1)] [] F v F') → (∃ m, m < nG ∧ Rn m k_M_aboveOf 4 [(2, 175), (0, a), (0, w), (0, i + 1)] [] G v2 G') → v = v2 ∧ F' = F ∧ G' = G := by
        clear Q QG
        rintro ⟨m1, -, h1⟩ ⟨m2, -, h2⟩
        exact ih (i + 1) (by omega) _ _ w h1 h2 (by omega)
      have go1 : (∃ m, m < nF ∧ Rn m k_Or_countAbove 4 [(2, 19), (0, a), (0, w + 1), (0, i + 1)] [] F v F') → (∃ m, m < nG ∧ Rn m k_M_aboveOf 4 [(2, 175), (0, a), (0, w + 1), (0, i + 1)] [] G v2 G') → v = v2 ∧ F' = F ∧ G' = G := by
        clear Q QG
        rintro ⟨m1, -, h1⟩ ⟨m2, -, h2⟩
        exact ih (i + 1) (by omega) _ _ (w + 1) h1 h2 (by omega)
      by_cases e : i = a
      · subst e
        have := s_irr (Rk i)
        exact go0 (((Q.2 this.2).2 rfl).1 (s_irr i).2) (QG.1 rfl)
      · replace QG := QG.2 e
        rcases s_tri (Rk i) (Rk a) with ⟨z, _⟩ | ⟨z, _⟩
        · exact go1 (Q.1 z) (QG.1 z)
        · replace Q := Q.2 z
          replace QG := QG.2 z
          by_cases e2 : Rk i = Rk a
          · replace Q := Q.2 e2
            replace QG := QG.2 e2
            rcases s_tri i a with ⟨y, _⟩ | ⟨y, _⟩
            · exact go1 (Q.2 y) (QG.2 y)
            · exact go0 (Q.1 y) (QG.1 y)
          · exact go0 (Q.1 e2) (QG.1 e2)
  exact lp nn 0 (Nat.zero_add nn) mF mG 0 hRF hRG (Nat.le_refl 0)
theorem at2 {q a : Nat} (hnn : nn ≤ 10) (ha : a < nn) (hp : ∀ j, j < 12 → pk F q (G 176) nn L j) (hF : Cl k_St_countAt [(2, q), (0, a)] F v F') (hG : Cl k_M_packetsAt [(2, 175), (0, a)] G v2 G') : v = v2 ∧ F' = F ∧ G' = G := by
  obtain ⟨nF, hF⟩ := c_St_countAt hF
  obtain ⟨nG, hG⟩ := c_M_packetsAt hG
  obtain ⟨mF, -, hRF⟩ := q_St_countAt_0 hF
  obtain ⟨mG, -, hRG⟩ := q_M_packetsAt_0 hG
  have lp : ∀ (m i : Nat), i + m = 12 → ∀ (nF nG w : Nat), Rn nF k_St_countAt 4 [(2, q), (0, a), (0, w), (0, i)] [] F v F' → Rn nG k_M_packetsAt 4 [(2, 175), (0, a), (0, w), (0, i)] [] G v2 G' → w ≤ i → v = v2 ∧ F' = F ∧ G' = G := by
    intro m
    induction m with
    | zero =>
      intro i hi nF nG w hF hG hw
      have i12 : i = 12 := by omega
      subst i12
      obtain ⟨x1, x2⟩ := (q_St_countAt_4 hF).1 (s_irr 12).2
      obtain ⟨y1, y2⟩ := (q_M_packetsAt_4 hG).1 (s_irr 12).2
      exact ⟨x1.trans y1.symm, x2, y2⟩
    | succ m ih =>
      intro i hi nF nG w hF hG hw
      have Q := q_St_countAt_4 hF
      have QG := q_M_packetsAt_4 hG
      have hlt : i < 12 := by clear Q QG; omega
      replace Q := Q.2 (by rw [b_lt (by clear Q QG; omega) (by decide)]; exact hlt)
      replace QG := QG.2 (by rw [b_lt (by clear Q QG; omega) (by decide)]; exact hlt)
      rw [b_add (show i + 1 < 4294967296 by clear Q QG; omega), b_add (show w + 1 < 4294967296 by clear Q QG; omega)] at Q
      rw [b_add (show i + 1 < 4294967296 by clear Q QG; omega), b_add (show w + 1 < 4294967296 by clear Q QG; omega), b_add (show w + 0 < 4294967296 by clear Q QG; omega), Nat.add_zero, b_add (show 41 + i < 4294967296 by clear Q QG; omega), b_add (show 65 + i < 4294967296 by clear Q QG; omega)] at QG
      have hpi := hp i hlt
      rcases hpi with ⟨p1, p2⟩ | ⟨p1, p2, p3, _⟩
      · obtain ⟨m1, -, h1⟩ := Q.1 (by rw [p1]; clear Q QG; omega)
        obtain ⟨m2, -, h2⟩ := QG.1 (by rw [p2]; decide)
        exact ih (i + 1) (by clear Q QG; omega) _ _ w h1 h2 (by clear Q QG; omega)
      · replace QG := QG.2 p1
        rw [p2] at QG
        by_cases e : F (q + 1) i = a
        · obtain ⟨m1, -, h1⟩ := Q.2 e
          obtain ⟨m2, -, h2⟩ := QG.2 e
          exact ih (i + 1) (by clear Q QG; omega) _ _ (w + 1) h1 h2 (by clear Q QG; omega)
        · obtain ⟨m1, -, h1⟩ := Q.1 e
          obtain ⟨m2, -, h2⟩ := QG.1 e
          exact ih (i + 1) (by clear Q QG; omega) _ _ w h1 h2 (by clear Q QG; omega)
  exact lp 12 0 rfl mF mG 0 hRF hRG (Nat.le_refl 0)
theorem o_node {a b : Nat} (ha : a < 4294967296) (h : lr F G nn L E C N R) (hF : Cl k_T_node [(2, 2), (0, a), (0, b)] F v F') (hG : Cl k_M_node [(2, 175), (0, a), (0, b)] G v2 G') : v = v2 ∧ lr F' G' nn L E C N R ∧ sF F F' ∧ sG G G' := by
  have hL := h.1.1.2.1
  have hN := h.1.1
  have hn := hN.1
  have hs0 := h.2.2.2.1.2
  obtain ⟨nF, hF⟩ := c_T_node hF
  obtain ⟨nG, hG⟩ := c_M_node hG
  have Q := q_T_node_0 hF
  have QG := q_M_node_0 hG
  rw [h.2.1.1.1] at Q
  rw [h.2.2.1.1.2.1] at QG
  have no : v = (0, 4294967294) ∧ F' = F → v2 = (0, 4294967294) ∧ G' = G → v = v2 ∧ lr F' G' nn L E C N R ∧ sF F F' ∧ sG G G' := by
    rintro ⟨x1, x2⟩ ⟨y1, y2⟩
    subst x2
    subst y2
    exact ⟨x1.trans y1.symm, h, sF.rf, sG.rf⟩
  by_cases hl : a < nn
  · obtain ⟨i1, i2, i3⟩ := in_y hl (show nn ≤ 40 by clear Q QG; omega)
    obtain ⟨F1, c1, Q0, Q1, Q2, Q3, Q4, Q5, -⟩ := (Q.2 i1).2 i2
    obtain ⟨G1, d1, P0, P1, P2, P3, P4, P5, -⟩ := (QG.2 i1).2 i3
    clear Q QG
    have hb := sc_lt hN hs0
    have hS : S0 (F 2 13) := h.2.2.2.1.1.1.1
    have hr0 := hs0.1
    have hrr : F (F 2 13) 0 < nn ∨ nn = 0 := by rw [hr0.1]; exact hr0.2.2
    rw [← hr0.1] at d1
    obtain ⟨t1, t2⟩ := s_rate hN h.1.2.1 h.1.2.2.1 (s := F (F 2 13) 2) (by clear Q0 Q1 Q2 Q3 Q4 Q5 P0 P1 P2 P3 P4 P5; omega) hrr (by rw [hr0.1]; exact hr0.2.1) h.2.1.1 h.2.1.2.2.1 c1
    obtain ⟨u1, u2⟩ := s_layRanks (st := bts (F (F 2 13) 2)) hN h.1.2.1 h.1.2.2.1 hrr (by rw [hr0.1]; exact hr0.2.1) h.2.2.1.1 h.2.2.1.2.1 (fun l hl => mst_sc (hs0.2.2.1.2 l hl)) d1
    have fin : ∀ z, v = (0, z) ∧ F' = F1 → v2 = (0, z) ∧ G' = G1 → v = v2 ∧ lr F' G' nn L E C N R ∧ sF F F' ∧ sG G G' := by
      rintro z ⟨a1, a2⟩ ⟨b3, b4⟩
      subst a2
      subst b4
      exact ⟨a1.trans b3.symm, h.fr (fun p i hp => t1 p i (by unfold qF at hp; simp; omega)) (h.2.2.2.2.1.eq (fun t i ht => t1 _ i (by simp; omega))) (h.2.2.2.2.2.eq (fun t i ht => t1 _ i (by simp; omega))) (fun p i hp _ => u1 p i (by unfold qG at hp; simp; omega)) (fun i _ => u1 175 i (by decide))⟩
    obtain ⟨f1, f2, f3⟩ := t2 a hl
    obtain ⟨g1, g2⟩ := u2 a hl
    by_cases b5 : b < 5
    · have hb5 : b = 0 ∨ b = 1 ∨ b = 2 ∨ b = 3 ∨ b = 4 := by clear Q0 Q1 Q2 Q3 Q4 Q5 P0 P1 P2 P3 P4 P5; omega
      rcases hb5 with e | e | e | e | e
      · have x := Q1 e
        have y := P1 e
        rw [f1] at x
        rw [g1] at y
        exact fin _ x y
      · have x := Q2 e
        have y := P2 e
        rw [f3] at x
        rw [g2] at y
        exact fin _ x y
      · have x := Q3 e
        obtain ⟨n2, G2, c2, y1, y2⟩ := P3 e
        obtain ⟨w1, w2⟩ := s_linksOf (st := bts (F (F 2 13) 2)) hN (h.2.2.1.1.keep u1 (by decide) (by decide) (by decide) (by decide)) (fun l hl => by have := mst_sc (hs0.2.2.1.2 l hl); rw [this]; unfold mst; rw [u1 176 _ (by decide)]) c2
        subst w2
        cases w1
        rw [f2] at x
        exact fin _ x ⟨y1, y2⟩
      · obtain ⟨n2, F2, c2, x1, x2⟩ := Q4 e
        obtain ⟨m2, G2, d2, y1, y2⟩ := P4 e
        obtain ⟨w1, w2, w3⟩ := above2 hn hl (Rk := rk C N (fr L E (bts (F (F 2 13) 2)) (F (F 2 13) 0)) (fun u => dgc E (bts (F (F 2 13) 2)) u (2 * L))) ((t1 3 0 (by decide)).trans h.2.1.1.1) (fun u hu => (t2 u hu).2.2) (by rw [u1 177 _ (by decide), u1 175 _ (by decide)]; exact h.2.2.1.1.2.1) (fun u hu => (u2 u hu).2) c2 d2
        subst w2
        subst w3
        cases w1
        exact fin _ ⟨x1, x2⟩ ⟨y1, y2⟩
      · obtain ⟨n2, F2, c2, x1, x2⟩ := Q5 e
        obtain ⟨m2, G2, d2, y1, y2⟩ := P5 e
        have e2 : F1 2 13 = F 2 13 := t1 2 13 (by decide)
        have hS' : 53 ≤ F 2 13 := by clear Q0 Q1 Q2 Q3 Q4 Q5 P0 P1 P2 P3 P4 P5; unfold S0 at hS; omega
        rw [e2] at c2
        have hp := hs0.2.2.2.2
        obtain ⟨w1, w2, w3⟩ := at2 (L := L) hn hl (fun j hj => by
          have := hp j hj
          have ee : ∀ t i, F1 (F 2 13 + t) i = F (F 2 13 + t) i := fun t i => t1 _ i (by simp; clear Q0 Q1 Q2 Q3 Q4 Q5 P0 P1 P2 P3 P4 P5; omega)
          unfold pk at *
          rw [ee, ee, ee, ee, u1 176 _ (by decide), u1 176 _ (by decide), u1 176 _ (by decide), u1 176 _ (by decide), u1 176 _ (by decide)]
          exact this) c2 d2
        subst w2
        subst w3
        cases w1
        exact fin _ ⟨x1, x2⟩ ⟨y1, y2⟩
    · exact fin _ (Q0 (Or.inr (by clear Q0 Q1 Q2 Q3 Q4 Q5 P0 P1 P2 P3 P4 P5; omega))) (P0 (Or.inr (by clear Q0 Q1 Q2 Q3 Q4 Q5 P0 P1 P2 P3 P4 P5; omega)))
  · rcases in_n hl ha (show nn ≤ 40 by clear Q QG; omega) with z | ⟨z1, z2, z3⟩
    · exact no (Q.1 z) (QG.1 z)
    · exact no ((Q.2 z1).1 z2) ((QG.2 z1).1 z3)
end NODE
