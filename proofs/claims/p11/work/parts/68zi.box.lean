/-! image, back, on both sides -/
section BOX
variable {nn L N R : Nat} {E C : Nat → Nat} {v v2 : fx_V} {F F' F1 G G' G1 : fx_F}
theorem box01 {a : Nat} (ha : a < 4294967296) : a < 2 ∧ s_le 0 a ∧ s_lt a 2 ∧ s_le a 1 ∨ (s_lt a 0 ∨ (s_le 0 a ∧ s_le 2 a ∧ s_lt 1 a)) := by
  rw [b_neg ha, b_pos ha, b_ltc ha (by decide), b_lec ha (by decide), b_ltc2 ha (by decide), b_lec2 ha (by decide)]
  omega
theorem o_image {a : Nat} (ha : a < 4294967296) (h : lr F G nn L E C N R) (hF : Cl k_T_image [(2, 2), (0, a)] F v F') (hG : Cl k_M_image [(2, 175), (0, a)] G v2 G') : v = v2 ∧ lr F' G' nn L E C N R ∧ sF F F' ∧ sG G G' := by
  have hL := h.1.1.2.1
  have hN := h.1.1
  have hn := hN.1
  have hs0 := h.2.2.2.1.2
  obtain ⟨nF, hF⟩ := c_T_image hF
  obtain ⟨nG, hG⟩ := c_M_image hG
  have Q := q_T_image_0 hF
  have QG := q_M_image_0 hG
  have no : v = (0, 4294967295) ∧ F' = F → v2 = (0, 4294967295) ∧ G' = G → v = v2 ∧ lr F' G' nn L E C N R ∧ sF F F' ∧ sG G G' := by
    rintro ⟨x1, x2⟩ ⟨y1, y2⟩
    subst x2
    subst y2
    exact ⟨x1.trans y1.symm, h, sF.rf, sG.rf⟩
  rcases box01 ha with ⟨hb, i1, i2, i3⟩ | z | ⟨z1, z2, z3⟩
  · obtain ⟨F1, c1, n2, F2, c2, x1, x2⟩ := (Q.2 i1).1 i2
    obtain ⟨m, -, hR⟩ := (QG.2 i1).2 i3
    clear Q QG
    have hh := h.2.2.2.1.1
    have hS : S0 (F 2 13) := hh.1.1
    have hS' : 53 ≤ F 2 13 ∧ (F 2 13 + 4 ≤ 152 ∨ 160 ≤ F 2 13) ∧ F 2 13 + 4 ≤ 164 := by unfold S0 at hS; omega
    have h158 : F 158 a = 165 ∨ F 158 a = 170 := by
      have : a = 0 ∨ a = 1 := by omega
      rcases this with e | e
      · subst e; exact Or.inl hh.2.2.2.1.1
      · subst e; exact Or.inr hh.2.2.2.1.2
    have hne : ∀ b, b < 2 → b ≠ a → (F 158 b = 165 ∧ F 158 a = 170) ∨ (F 158 b = 170 ∧ F 158 a = 165) := fun b hb2 hba => by
      have h0 := hh.2.2.2.1.1
      have h1 := hh.2.2.2.1.2
      have e1 : (a = 0 ∧ b = 1) ∨ (a = 1 ∧ b = 0) := by omega
      rcases e1 with ⟨e, e'⟩ | ⟨e, e'⟩
      · subst e; subst e'; exact Or.inr ⟨h1, h0⟩
      · subst e; subst e'; exact Or.inl ⟨h0, h1⟩
    have hap : ∀ t t', t < 5 → t' < 5 → F 158 a + t ≠ F 2 13 + t' := fun t t' ht ht' => by omega
    obtain ⟨-, y2, y3, y4⟩ := s_copy2 hL hap hs0 c1
    have lo : ∀ p i, p < 165 → F1 p i = F p i := fun p i hp => y2 p i (by simp; omega)
    rw [lo 2 13 (by decide)] at c2
    obtain ⟨d1, d2⟩ := s_ccount c2
    subst d1
    cases d2
    subst x2
    -- the reference
    have lp : ∀ (n : Nat) (G2 : fx_F) (l : Nat), Rn n k_M_image 13 [(2, 175), (0, a), (0, l)] [] G2 v2 G' → l ≤ 103 → fxo [205] G G2 → (∀ i, (i < 103 * a ∨ 103 * a + 103 ≤ i) → G2 205 i = G 205 i) → (∀ x, x < l → G2 205 (103 * a + x) = G 176 x) → v2 = (0, npk F (F 2 13)) ∧ fxo [205, 206] G G' ∧ (∀ i, i ≠ a → G' 206 i = G 206 i) ∧ G' 206 a = 1 ∧ (∀ i, (i < 103 * a ∨ 103 * a + 103 ≤ i) → G' 205 i = G 205 i) ∧ ∀ x, x < 103 → G' 205 (103 * a + x) = G 176 x := by
      intro n
      induction n using Nat.strongRecOn with
      | ind n ih =>
        intro G2 l h2 hl ho hA hB
        have Q := q_M_image_13 h2
        rcases Nat.lt_or_ge l 103 with hlt | hge
        · obtain ⟨m, hm, hR⟩ := Q.2 (by rw [b_lt (by clear Q; omega) (by decide)]; exact hlt)
          clear Q
          rw [b_mul (show 103 * a < 4294967296 by omega), b_add (show 103 * a + l < 4294967296 by omega), b_add (show l + 1 < 4294967296 by omega), ho 176 _ (by decide)] at hR
          refine ih m hm _ (l + 1) hR hlt (ho.wr (by decide)) (fun i hi => by rw [fu_i (by omega)]; exact hA i hi) (fun x hx => ?_)
          by_cases e : x = l
          · subst e; rw [fu_same]
          · rw [fu_i (by omega)]; exact hB x (by omega)
        · obtain ⟨n1, G3, c3, z1, z2⟩ := Q.1 (by rw [b_le (by decide) (by clear Q; omega)]; exact hge)
          clear Q
          obtain ⟨w1, w2⟩ := s_mcount (F := F) (q := F 2 13) hn (nn := nn) (L := L) (fun j hj => by
            have := hs0.2.2.2.2 j hj
            unfold pk at *
            simp only [fu_p (show (176 : Nat) ≠ 206 by decide), ho 176 _ (show (176 : Nat) ∉ [205] by decide)]
            exact this) c3
          subst w1
          cases w2
          subst z2
          refine ⟨z1, (ho.mono (by decide)).wr (by decide), fun i hi => ?_, fu_same, fun i hi => ?_, fun x hx => ?_⟩
          · rw [fu_i hi, ho 206 _ (by decide)]
          · rw [fu_p (by decide)]; exact hA i hi
          · rw [fu_p (by decide)]; exact hB x (by omega)
    obtain ⟨u1, u2, u3, u4, u5, u6⟩ := lp m G 0 hR (by decide) fxo.rf (fun _ _ => rfl) (fun x hx => absurd hx (Nat.not_lt_zero _))
    have enp : npk (fu F1 159 a 1) (F 2 13) = npk F (F 2 13) := by
      unfold npk
      refine cnt_congr (fun j _ => ?_)
      show (!(Nat.beq ((fu F1 159 a 1) (F 2 13 + 1) j) 4294967295)) = !(Nat.beq (F (F 2 13 + 1) j) 4294967295)
      rw [fu_p (by omega), lo _ _ (by omega)]
    rw [enp] at x1
    refine ⟨x1.trans u1.symm, ?_⟩
    obtain ⟨h1, ⟨k1, k2, k3, k4⟩, ⟨m1, m2, m3⟩, ⟨⟨⟨a1, a2, a3⟩, b1, c1', d1', e1⟩, s1⟩, ra, rb⟩ := h
    have lo2 : ∀ p i, p < 165 → p ≠ 159 → fu F1 159 a 1 p i = F p i := fun p i hp hp2 => by rw [fu_p hp2]; exact lo p i hp
    have f3 : ∀ p i, 3 ≤ p → p ≤ 9 → fu F1 159 a 1 p i = F p i := fun p i h h2 => lo2 p i (by omega) (by omega)
    have g3 : ∀ p i, 177 ≤ p → p ≤ 185 → G' p i = G p i := fun p i h h2 => u2 p i (by simp; omega)
    have mv : ∀ {q X}, sc F q X nn L E → S0 q → sc (fu F1 159 a 1) q X nn L E := fun {q X} hx hq => sc_congr hx hL (fun i _ => lo2 q i (by unfold S0 at hq; omega) (by unfold S0 at hq; omega)) (fun i _ => ⟨lo2 _ i (by unfold S0 at hq; omega) (by unfold S0 at hq; omega), lo2 _ i (by unfold S0 at hq; omega) (by unfold S0 at hq; omega), lo2 _ i (by unfold S0 at hq; omega) (by unfold S0 at hq; omega), lo2 _ i (by unfold S0 at hq; omega) (by unfold S0 at hq; omega)⟩) (fun _ _ => rfl)
    refine ⟨⟨h1, ⟨k1.eq f3, k2.eq f3, k3.eq f3, (f3 3 3 (by decide) (by decide)).trans k4⟩, ⟨m1.eq (u2 175 9 (by decide)) g3, m2.eq (u2 175 9 (by decide)) g3, by rw [u2 175 9 (by decide), g3 180 _ (by decide) (by decide)]; exact m3⟩, ⟨⟨?_, ?_, fun i hi => ?_, ?_, fun b hb2 => ?_⟩, ?_⟩, ra.eq (fun t i ht => lo2 _ i (by omega) (by omega)), rb.eq (fun t i ht => lo2 _ i (by omega) (by omega))⟩, fun p i hp => ?_, ⟨fun p i hp => u2 p i (by simp; omega), fun i hi => u2 175 i (by decide)⟩⟩
    · rw [lo2 2 13 (by decide) (by decide)]
      exact ⟨a1, fun i hi => by rw [lo2 52 i (by decide) (by decide)]; exact a2 i hi, fun i j hi hj => by rw [lo2 52 i (by decide) (by decide), lo2 52 j (by decide) (by decide)]; exact a3 i j hi hj⟩
    · rw [lo2 51 1 (by decide) (by decide), lo2 51 2 (by decide) (by decide), lo2 51 3 (by decide) (by decide), u2 175 56 (by decide), u2 175 57 (by decide)]; exact b1
    · rw [lo2 51 2 (by decide) (by decide), lo2 51 3 (by decide) (by decide)] at hi
      rw [lo2 51 1 (by decide) (by decide), lo2 52 _ (by decide) (by decide)]
      exact mv (sc_congr (c1' i hi) hL (fun _ _ => rfl) (fun _ _ => ⟨rfl, rfl, rfl, rfl⟩) (fun x _ => u2 204 _ (by decide))) (a2 _ (Nat.mod_lt _ (by decide))).1
    · rw [lo2 158 0 (by decide) (by decide), lo2 158 1 (by decide) (by decide)]; exact d1'
    · rw [lo2 158 b (by decide) (by decide)]
      by_cases e : b = a
      · subst e
        rw [fu_same, u4]
        refine ⟨⟨fun _ => by decide, fun _ => by decide⟩, fun _ => ?_⟩
        refine sc_congr y3 hL (fun i _ => fu_p (by omega)) (fun i _ => ⟨fu_p (by omega), fu_p (by omega), fu_p (by omega), fu_p (by omega)⟩) (fun x hx => u6 x (by omega))
      · obtain ⟨t1, t2⟩ := e1 b hb2
        rw [fu_i e, lo 159 b (by decide), u3 b e]
        refine ⟨t1, fun w => ?_⟩
        have hx := hne b hb2 e
        have : sc F1 (F 158 b) (fun x => G' 205 (103 * b + x)) nn L E := sc_away hL (fun t t' ht ht' => by omega) y2 (sc_congr (t2 w) hL (fun _ _ => rfl) (fun _ _ => ⟨rfl, rfl, rfl, rfl⟩) (fun x hx2 => u5 _ (by omega)))
        exact sc_congr this hL (fun i _ => fu_p (by omega)) (fun i _ => ⟨fu_p (by omega), fu_p (by omega), fu_p (by omega), fu_p (by omega)⟩) (fun _ _ => rfl)
    · rw [lo2 2 13 (by decide) (by decide)]
      exact mv (sc_congr s1 hL (fun _ _ => rfl) (fun _ _ => ⟨rfl, rfl, rfl, rfl⟩) (fun x _ => u2 176 x (by decide))) a1
    · rw [fu_p (by omega)]
      exact y2 p i (by simp; omega)
  · exact no (Q.1 z) (QG.1 z)
  · exact no ((Q.2 z1).2 z2) ((QG.2 z1).1 z3)
theorem o_back {a : Nat} (ha : a < 4294967296) (h : lr F G nn L E C N R) (hF : Cl k_T_back [(2, 2), (0, a)] F v F') (hG : Cl k_M_back [(2, 175), (0, a)] G v2 G') : v = v2 ∧ lr F' G' nn L E C N R ∧ sF F F' ∧ sG G G' := by
  have hL := h.1.1.2.1
  have hN := h.1.1
  have hn := hN.1
  have hs0 := h.2.2.2.1.2
  obtain ⟨nF, hF⟩ := c_T_back hF
  obtain ⟨nG, hG⟩ := c_M_back hG
  have Q := q_T_back_0 hF
  have QG := q_M_back_0 hG
  have no : v = (0, 4294967295) ∧ F' = F → v2 = (0, 4294967295) ∧ G' = G → v = v2 ∧ lr F' G' nn L E C N R ∧ sF F F' ∧ sG G G' := by
    rintro ⟨x1, x2⟩ ⟨y1, y2⟩
    subst x2
    subst y2
    exact ⟨x1.trans y1.symm, h, sF.rf, sG.rf⟩
  rcases box01 ha with ⟨hb, i1, i2, i3⟩ | z | ⟨z1, z2, z3⟩
  · replace Q := (Q.2 i1).2 i2
    replace QG := (QG.2 i1).2 i3
    have hh := h.2.2.2.1.1
    have hS : S0 (F 2 13) := hh.1.1
    have hS' : 53 ≤ F 2 13 ∧ (F 2 13 + 4 ≤ 152 ∨ 160 ≤ F 2 13) ∧ F 2 13 + 4 ≤ 164 := by clear Q QG; unfold S0 at hS; omega
    obtain ⟨e1, e2⟩ := hh.2.2.2.2 a hb
    by_cases e : F 159 a = 0
    · refine no (Q.2 e) (QG.2 ?_)
      by_cases w : G 206 a = 0
      · exact w
      · exact absurd e (e1.mpr w)
    · have hg := e1.mp e
      obtain ⟨F1, c1, n2, F2, c2, x1, x2⟩ := Q.1 e
      obtain ⟨m, -, hR⟩ := QG.1 hg
      clear Q QG
      have hbx := e2 hg
      have h158 : F 158 a = 165 ∨ F 158 a = 170 := by
        have : a = 0 ∨ a = 1 := by omega
        rcases this with e | e
        · subst e; exact Or.inl hh.2.2.2.1.1
        · subst e; exact Or.inr hh.2.2.2.1.2
      have hap : ∀ t t', t < 5 → t' < 5 → F 2 13 + t ≠ F 158 a + t' := fun t t' ht ht' => by omega
      obtain ⟨-, y2, y3, y4⟩ := s_copy2 hL hap hbx c1
      have lo : ∀ p i, (p < F 2 13 ∨ F 2 13 + 4 < p) → F1 p i = F p i := fun p i hp => y2 p i (by simp; omega)
      rw [lo 2 13 (by omega)] at c2
      obtain ⟨d1, d2⟩ := s_ccount c2
      subst d1
      cases d2
      subst x2
      have scn : sc (fu (fu F1 51 2 0) 51 3 0) (F 2 13) (fun x => G 205 (103 * a + x)) nn L E := sc_congr y3 hL (fun i _ => by rw [fu_p (by omega), fu_p (by omega)]) (fun i _ => ⟨by rw [fu_p (by omega), fu_p (by omega)], by rw [fu_p (by omega), fu_p (by omega)], by rw [fu_p (by omega), fu_p (by omega)], by rw [fu_p (by omega), fu_p (by omega)]⟩) (fun _ _ => rfl)
      have lp : ∀ (n : Nat) (G2 : fx_F) (l : Nat), Rn n k_M_back 22 [(2, 175), (0, a), (0, l)] [] G2 v2 G' → l ≤ 103 → fxo [176] G G2 → (∀ x, x < l → G2 176 x = G 205 (103 * a + x)) → v2 = (0, npk (fu (fu F1 51 2 0) 51 3 0) (F 2 13)) ∧ fxo [175, 176] G G' ∧ (∀ i, i ≠ 56 → i ≠ 57 → G' 175 i = G 175 i) ∧ G' 175 56 = 0 ∧ G' 175 57 = 0 ∧ ∀ x, x < 103 → G' 176 x = G 205 (103 * a + x) := by
        intro n
        induction n using Nat.strongRecOn with
        | ind n ih =>
          intro G2 l h2 hl ho hB
          have Q := q_M_back_22 h2
          rcases Nat.lt_or_ge l 103 with hlt | hge
          · obtain ⟨m, hm, hR⟩ := Q.2 (by rw [b_lt (by clear Q; omega) (by decide)]; exact hlt)
            clear Q
            rw [b_mul (show 103 * a < 4294967296 by omega), b_add (show 103 * a + l < 4294967296 by omega), b_add (show l + 1 < 4294967296 by omega), ho 205 _ (by decide)] at hR
            refine ih m hm _ (l + 1) hR hlt (ho.wr (by decide)) (fun x hx => ?_)
            by_cases e : x = l
            · subst e; rw [fu_same]
            · rw [fu_i (by omega)]; exact hB x (by omega)
          · obtain ⟨n1, G3, c3, z1, z2⟩ := Q.1 (by rw [b_le (by decide) (by clear Q; omega)]; exact hge)
            clear Q
            obtain ⟨w1, w2⟩ := s_mcount (F := fu (fu F1 51 2 0) 51 3 0) (q := F 2 13) hn (nn := nn) (L := L) (fun j hj => by
              have := scn.2.2.2.2 j hj
              unfold pk at *
              simp only [fu_p (show (176 : Nat) ≠ 175 by decide)]
              rw [hB _ (by omega), hB _ (by omega), hB _ (by omega), hB _ (by omega), hB _ (by omega)]
              exact this) c3
            subst w1
            cases w2
            subst z2
            refine ⟨z1, ((ho.mono (by decide)).wr (by decide)).wr (by decide), fun i h1 h2 => ?_, ?_, fu_same, fun x hx => ?_⟩
            · rw [fu_i h2, fu_i h1, ho 175 _ (by decide)]
            · rw [fu_i (by decide), fu_same]
            · rw [fu_p (by decide), fu_p (by decide)]; exact hB x (by omega)
      obtain ⟨u1, u2, u3, u4, u5, u6⟩ := lp m G 0 hR (by decide) fxo.rf (fun x hx => absurd hx (Nat.not_lt_zero _))
      refine ⟨x1.trans u1.symm, ?_⟩
      obtain ⟨h1, ⟨k1, k2, k3, k4⟩, ⟨m1, m2, m3⟩, ⟨⟨⟨a1, a2, a3⟩, b1, c1', d1', e1⟩, s1⟩, ra, rb⟩ := h
      have lo2 : ∀ p i, (p < F 2 13 ∨ F 2 13 + 4 < p) → p ≠ 51 → fu (fu F1 51 2 0) 51 3 0 p i = F p i := fun p i hp hp2 => by rw [fu_p hp2, fu_p hp2]; exact lo p i hp
      have f3 : ∀ p i, 3 ≤ p → p ≤ 9 → fu (fu F1 51 2 0) 51 3 0 p i = F p i := fun p i h h2 => lo2 p i (by omega) (by omega)
      have g3 : ∀ p i, 177 ≤ p → p ≤ 185 → G' p i = G p i := fun p i h h2 => u2 p i (by simp; omega)
      have g9 := u3 9 (by decide) (by decide)
      refine ⟨⟨h1, ⟨k1.eq f3, k2.eq f3, k3.eq f3, (f3 3 3 (by decide) (by decide)).trans k4⟩, ⟨m1.eq g9 g3, m2.eq g9 g3, by rw [g9, g3 180 _ (by decide) (by decide)]; exact m3⟩, ⟨⟨?_, ?_, fun i hi => ?_, ?_, fun b hb2 => ?_⟩, ?_⟩, ra.eq (fun t i ht => lo2 _ i (by omega) (by omega)), rb.eq (fun t i ht => lo2 _ i (by omega) (by omega))⟩, fun p i hp => ?_, ⟨fun p i hp => u2 p i (by simp; omega), fun i hi => u3 i (by omega) (by omega)⟩⟩
      · rw [lo2 2 13 (by omega) (by decide)]
        exact ⟨a1, fun i hi => by rw [lo2 52 i (by omega) (by decide)]; exact a2 i hi, fun i j hi hj => by rw [lo2 52 i (by omega) (by decide), lo2 52 j (by omega) (by decide)]; exact a3 i j hi hj⟩
      · have e51 : fu (fu F1 51 2 0) 51 3 0 51 1 = F 51 1 := by rw [fu_i (by decide), fu_i (by decide), lo 51 1 (by omega)]
        have e52 : fu (fu F1 51 2 0) 51 3 0 51 2 = 0 := by rw [fu_i (by decide), fu_same]
        have e53 : fu (fu F1 51 2 0) 51 3 0 51 3 = 0 := fu_same
        rw [e51, e52, e53, u4, u5]
        exact ⟨b1.1, by decide, rfl, rfl⟩
      · rw [show fu (fu F1 51 2 0) 51 3 0 51 2 = 0 by rw [fu_i (by decide), fu_same], show fu (fu F1 51 2 0) 51 3 0 51 3 = 0 from fu_same] at hi
        exact absurd hi (Nat.not_lt_zero _)
      · rw [lo2 158 0 (by omega) (by decide), lo2 158 1 (by omega) (by decide)]; exact d1'
      · have hb158 : F 158 b = 165 ∨ F 158 b = 170 := by
          have : b = 0 ∨ b = 1 := by omega
          rcases this with e | e
          · subst e; exact Or.inl d1'.1
          · subst e; exact Or.inr d1'.2
        obtain ⟨t1, t2⟩ := e1 b hb2
        rw [lo2 158 b (by omega) (by decide), lo2 159 b (by omega) (by decide), u2 206 b (by decide)]
        refine ⟨t1, fun w => ?_⟩
        exact sc_congr (t2 w) hL (fun i _ => lo2 _ i (by omega) (by omega)) (fun i _ => ⟨lo2 _ i (by omega) (by omega), lo2 _ i (by omega) (by omega), lo2 _ i (by omega) (by omega), lo2 _ i (by omega) (by omega)⟩) (fun x _ => u2 205 _ (by decide))
      · rw [lo2 2 13 (by omega) (by decide)]
        exact sc_congr scn hL (fun _ _ => rfl) (fun _ _ => ⟨rfl, rfl, rfl, rfl⟩) (fun x hx => u6 x (by omega))
      · rw [fu_p (by omega), fu_p (by omega)]
        exact lo p i (by omega)
  · exact no (Q.1 z) (QG.1 z)
  · exact no ((Q.2 z1).1 z2) ((QG.2 z1).1 z3)
end BOX
