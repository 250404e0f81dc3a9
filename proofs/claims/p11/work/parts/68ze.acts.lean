/-! cut, mend, turn, orient, on both sides -/
section ACTS
variable {nn L N R : Nat} {E C : Nat → Nat} {v v2 : fx_V} {F F' F1 G G' G1 : fx_F}
theorem sc_set {q : Nat} {X X' : Nat → Nat} (h : sc F q X nn L E) (h0 : F' q 0 = X' 40 ∧ X' 40 < 10 ∧ (X' 40 < nn ∨ nn = 0)) (h3 : F' q 3 = F q 3) (h1 : F' q 1 < 2 ^ L ∧ ∀ l, l < L → X' (20 + l) = ue E (bts (F' q 1)) l) (h2 : F' q 2 < 2 ^ L ∧ ∀ l, l < L → X' l = if (F' q 2).testBit l then 1 else 0) (ha : ∀ t i, 1 ≤ t → t ≤ 4 → F' (q + t) i = F (q + t) i) (hX : ∀ i, 41 ≤ i → i < 102 → X' i = X i) : sc F' q X' nn L E := by
  refine ⟨h0, h1, h2, ?_, fun j hj => ?_⟩
  · rw [h3, hX 101 (by decide) (by decide)]; exact h.2.2.2.1
  · have := h.2.2.2.2 j hj
    unfold pk at *
    rw [ha 1 _ (by decide) (by decide), ha 2 _ (by decide) (by decide), ha 3 _ (by decide) (by decide), ha 4 _ (by decide) (by decide), hX _ (by omega) (by omega), hX _ (by omega) (by omega), hX _ (by omega) (by omega), hX _ (by omega) (by omega), hX _ (by omega) (by omega)]
    exact this
theorem s_mstanding (hL : L ≤ 20) {s : Nat} (hm : mn G nn L E) (hs : ∀ l, l < L → G 176 l = if s.testBit l then 1 else 0) (h : Cl k_M_standing [(2, 175)] G v G') : v = (0, cnt (bts s) L) ∧ G' = G := by
  obtain ⟨n, h⟩ := c_M_standing h
  obtain ⟨m, hm2, hR⟩ := q_M_standing_0 h
  have lp : ∀ (n l : Nat), Rn n k_M_standing 4 [(2, 175), (0, cnt (bts s) l), (0, l)] [] G v G' → l ≤ L → v = (0, cnt (bts s) L) ∧ G' = G := by
    intro n
    induction n using Nat.strongRecOn with
    | ind n ih =>
      intro l h hl
      have hc := cnt_le (bts s) l
      have Q := q_M_standing_4 h
      rw [hm.2.2.1] at Q
      rcases Nat.lt_or_ge l L with hlt | hge
      · replace Q := Q.2 (by rw [b_lt (by clear Q; omega) (by clear Q; omega)]; exact hlt)
        rw [b_add (show l + 1 < 4294967296 by clear Q; omega), b_add0 (show l < 4294967296 by clear Q; omega), b_add (show cnt (bts s) l + 0 < 4294967296 by clear Q; omega), b_add (show cnt (bts s) l + 1 < 4294967296 by clear Q; omega), hs l hlt] at Q
        by_cases e : s.testBit l = true
        · rw [if_pos e] at Q
          obtain ⟨m, hm3, hR⟩ := Q.2 rfl
          exact ih m hm3 (l + 1) (by
            rw [show cnt (bts s) (l + 1) = cnt (bts s) l + 1 by show _ + (if bts s l then 1 else 0) = _; rw [if_pos (show bts s l = true from e)]]
            exact hR) hlt
        · rw [if_neg e] at Q
          obtain ⟨m, hm3, hR⟩ := Q.1 (by decide)
          exact ih m hm3 (l + 1) (by
            rw [show cnt (bts s) (l + 1) = cnt (bts s) l + 0 by show _ + (if bts s l then 1 else 0) = _; rw [if_neg (show ¬ bts s l = true from e)]]
            exact hR) hlt
      · obtain ⟨x1, x2⟩ := Q.1 (by rw [b_le (by clear Q; omega) (by clear Q; omega)]; exact hge)
        clear Q
        have : l = L := by omega
        subst this
        exact ⟨x1, x2⟩
  exact lp m 0 hR (Nat.zero_le _)
theorem s_cbits (hL : L ≤ 20) {x : Nat} (hx : x < 2 ^ L) (h : Cl k_I_bitCount [(0, x)] F v F') : v = (0, cnt (bts x) L) ∧ F' = F := by
  obtain ⟨h1, h2⟩ := s_bitCount (p20 hL hx) h
  exact ⟨by rw [h1, cnt_20 hL hx], h2⟩
/-- the standing links become s' -/
theorem act_s (h : lr F G nn L E C N R) {s a y : Nat} (hk : Cl k_Hi_keep [(2, 51), (2, F 2 13)] F v F1) (hk2 : Cl k_M_keepAct [(2, 175)] G v2 G1) (hs : s < 2 ^ L) (ha : a < L) (hbit : ∀ l, l < L → (if s.testBit l then 1 else 0) = if l = a then y else G 176 l) (hF : F' = fu F1 (F 2 13) 2 s) (hG : G' = fu G1 176 a y) : lr F' G' nn L E C N R ∧ sF F F' ∧ sG G G' := by
  obtain ⟨e2, t1, t2, t3, t4, t5, t6, t7⟩ := h.kept hk hk2
  have hL := h.1.1.2.1
  have hS : S0 (F 2 13) := h.2.2.2.1.1.1.1
  have hS' : 53 ≤ F 2 13 := by unfold S0 at hS; omega
  subst hF
  subst hG
  have g176 : ∀ i, G1 176 i = G 176 i := fun i => t3 176 i (by decide)
  refine h.act hk hk2 (fun p i _ h2 => fu_p (by omega)) (t6.eq (fun t i ht => fu_p (by omega))) (t7.eq (fun t i ht => fu_p (by omega))) (fun p i _ _ h3 => fu_p h3) (fun i _ => fu_p (by decide)) ?_
  refine sc_set t5 ?_ (fu_i (by decide)) ?_ ⟨?_, fun l hl => ?_⟩ (fun t i h1 h2 => fu_p (by omega)) (fun i h1 h2 => fu_i (by omega))
  · rw [fu_i (by decide), fu_i (by omega)]; exact t5.1
  · rw [fu_i (show 1 ≠ 2 by decide)]
    exact ⟨t5.2.1.1, fun l hl => by rw [fu_i (by omega)]; exact t5.2.1.2 l hl⟩
  · rw [fu_same]; exact hs
  · rw [fu_same, hbit l hl]
    by_cases e : l = a
    · subst e; rw [fu_same, if_pos rfl]
    · rw [fu_i e, if_neg e, g176]
theorem o_cut {a : Nat} (ha : a < 4294967296) (h : lr F G nn L E C N R) (hF : Cl k_T_cut [(2, 2), (0, a)] F v F') (hG : Cl k_M_cut [(2, 175), (0, a)] G v2 G') : v = v2 ∧ lr F' G' nn L E C N R ∧ sF F F' ∧ sG G G' := by
  have hL := h.1.1.2.1
  have hs0 := h.2.2.2.1.2
  obtain ⟨nF, hF⟩ := c_T_cut hF
  obtain ⟨nG, hG⟩ := c_M_cut hG
  have Q := q_T_cut_0 hF
  have QG := q_M_cut_0 hG
  rw [h.2.1.1.2.1] at Q
  rw [h.2.2.1.1.2.2.1] at QG
  have no : v = (0, 4294967295) ∧ F' = F → v2 = (0, 4294967295) ∧ G' = G → v = v2 ∧ lr F' G' nn L E C N R ∧ sF F F' ∧ sG G G' := by
    rintro ⟨x1, x2⟩ ⟨y1, y2⟩
    subst x2
    subst y2
    exact ⟨x1.trans y1.symm, h, sF.rf, sG.rf⟩
  by_cases hl : a < L
  · obtain ⟨i1, i2, i3⟩ := in_y hl (show L ≤ 40 by clear Q QG; omega)
    replace Q := (Q.2 i1).2 i2
    replace QG := (QG.2 i1).2 i3
    have hb := sc_lt h.1.1 hs0
    have hX := hs0.2.2.1.2 a hl
    rw [b_bitl (show F (F 2 13) 2 < 2147483648 by clear Q QG; omega) (show a < 32 by clear Q QG; omega)] at Q
    rw [b_add0 (show a < 4294967296 from ha), hX] at QG
    by_cases hbit : (F (F 2 13) 2).testBit a = true
    · rw [if_pos hbit] at Q QG
      obtain ⟨F1, k1, n2, F2, c2, x1, x2⟩ := Q.2 rfl
      obtain ⟨G1, k2, n3, G2, c3, y1, y2⟩ := QG.2 rfl
      clear Q QG
      obtain ⟨e2, t1, t2, t3, t4, t5, t6, t7⟩ := h.kept k1 k2
      have hS : S0 (F 2 13) := h.2.2.2.1.1.1.1
      have hS' : 53 ≤ F 2 13 := by unfold S0 at hS; omega
      have e3 := t1 0 2 (by decide)
      replace e3 : F1 (F 2 13) 2 = F (F 2 13) 2 := e3
      rw [e2, fu_p (show 2 ≠ F 2 13 by omega), e2, fu_same, e3] at c2
      obtain ⟨z1, z2⟩ := b_clr (x := F (F 2 13) 2) (l := a) (by omega) (by omega)
      have hsl : i_and (F (F 2 13) 2) (i_xor (i_shl 1 a) 4294967295) < 2 ^ L := tb_lt (fun i hi => by
        rw [z2, Bool.and_eq_true] at hi
        rcases Nat.lt_or_ge i L with w | w
        · exact w
        · rw [tb_out hs0.2.2.1.1 w] at hi; cases hi.1)
      generalize hss : i_and (F (F 2 13) 2) (i_xor (i_shl 1 a) 4294967295) = s at *
      obtain ⟨w1, w2⟩ := s_cbits hL hsl c2
      have g176 : ∀ i, G1 176 i = G 176 i := fun i => t3 176 i (by decide)
      have hbs : ∀ l, l < L → (if s.testBit l then 1 else 0) = if l = a then 0 else G 176 l := fun l hl2 => by
        rw [z2 l, hs0.2.2.1.2 l hl2]
        by_cases e : l = a
        · subst e; rw [if_pos rfl]; simp
        · rw [if_neg e]
          simp [e]
      have hm1 : mn (fu G1 176 a 0) nn L E := (h.2.2.1.1.eq (t4 9 (by decide) (by decide)) (fun p i h1 h2 => t3 p i (by simp; omega))).eq (fu_p (by decide)) (fun p i h1 h2 => fu_p (by omega))
      obtain ⟨w3, w4⟩ := s_mstanding hL (s := s) hm1 (fun l hl2 => by
        rw [hbs l hl2]
        by_cases e : l = a
        · subst e; rw [fu_same, if_pos rfl]
        · rw [fu_i e, if_neg e, g176]) c3
      cases w1
      cases w3
      refine ⟨x1.trans y1.symm, ?_⟩
      exact act_s h k1 k2 hsl hl hbs (x2.trans w2) (y2.trans w4)
    · rw [if_neg hbit] at Q QG
      exact no (Q.1 (by decide)) (QG.1 (by decide))
  · rcases in_n hl ha (show L ≤ 40 by clear Q QG; omega) with z | ⟨z1, z2, z3⟩
    · exact no (Q.1 z) (QG.1 z)
    · exact no ((Q.2 z1).1 z2) ((QG.2 z1).1 z3)
theorem o_mend {a : Nat} (ha : a < 4294967296) (h : lr F G nn L E C N R) (hF : Cl k_T_mend [(2, 2), (0, a)] F v F') (hG : Cl k_M_mend [(2, 175), (0, a)] G v2 G') : v = v2 ∧ lr F' G' nn L E C N R ∧ sF F F' ∧ sG G G' := by
  have hL := h.1.1.2.1
  have hs0 := h.2.2.2.1.2
  obtain ⟨nF, hF⟩ := c_T_mend hF
  obtain ⟨nG, hG⟩ := c_M_mend hG
  have Q := q_T_mend_0 hF
  have QG := q_M_mend_0 hG
  rw [h.2.1.1.2.1] at Q
  rw [h.2.2.1.1.2.2.1] at QG
  have no : v = (0, 4294967295) ∧ F' = F → v2 = (0, 4294967295) ∧ G' = G → v = v2 ∧ lr F' G' nn L E C N R ∧ sF F F' ∧ sG G G' := by
    rintro ⟨x1, x2⟩ ⟨y1, y2⟩
    subst x2
    subst y2
    exact ⟨x1.trans y1.symm, h, sF.rf, sG.rf⟩
  by_cases hl : a < L
  · obtain ⟨i1, i2, i3⟩ := in_y hl (show L ≤ 40 by clear Q QG; omega)
    replace Q := (Q.2 i1).2 i2
    replace QG := (QG.2 i1).2 i3
    have hb := sc_lt h.1.1 hs0
    have hX := hs0.2.2.1.2 a hl
    rw [b_bitl (show F (F 2 13) 2 < 2147483648 by clear Q QG; omega) (show a < 32 by clear Q QG; omega)] at Q
    rw [b_add0 (show a < 4294967296 from ha), hX] at QG
    by_cases hbit : (F (F 2 13) 2).testBit a = true
    · rw [if_pos hbit] at Q QG
      exact no (Q.2 rfl) (QG.2 rfl)
    · rw [if_neg hbit] at Q QG
      obtain ⟨F1, k1, n2, F2, c2, x1, x2⟩ := Q.1 (by decide)
      obtain ⟨G1, k2, n3, G2, c3, y1, y2⟩ := QG.1 (by decide)
      clear Q QG
      obtain ⟨e2, t1, t2, t3, t4, t5, t6, t7⟩ := h.kept k1 k2
      have hS : S0 (F 2 13) := h.2.2.2.1.1.1.1
      have hS' : 53 ≤ F 2 13 := by unfold S0 at hS; omega
      have e3 := t1 0 2 (by decide)
      replace e3 : F1 (F 2 13) 2 = F (F 2 13) 2 := e3
      have hp : 2 ^ a < 2 ^ L := Nat.pow_lt_pow_right (by decide) hl
      rw [e2, fu_p (show 2 ≠ F 2 13 by omega), e2, fu_same, e3, b_shl1 (show a < 32 by omega), b_or (k := L) (by omega) hs0.2.2.1.1 hp] at c2
      have hsl : F (F 2 13) 2 ||| 2 ^ a < 2 ^ L := Nat.or_lt_two_pow hs0.2.2.1.1 hp
      have z2 : ∀ j, (F (F 2 13) 2 ||| 2 ^ a).testBit j = ((F (F 2 13) 2).testBit j || decide (j = a)) := fun j => tb_or
      generalize hss : F (F 2 13) 2 ||| 2 ^ a = s at *
      obtain ⟨w1, w2⟩ := s_cbits hL hsl c2
      have g176 : ∀ i, G1 176 i = G 176 i := fun i => t3 176 i (by decide)
      have hbs : ∀ l, l < L → (if s.testBit l then 1 else 0) = if l = a then 1 else G 176 l := fun l hl2 => by
        rw [z2 l, hs0.2.2.1.2 l hl2]
        by_cases e : l = a
        · subst e; rw [if_pos rfl]; simp
        · rw [if_neg e]
          simp [e]
      have hm1 : mn (fu G1 176 a 1) nn L E := (h.2.2.1.1.eq (t4 9 (by decide) (by decide)) (fun p i h1 h2 => t3 p i (by simp; omega))).eq (fu_p (by decide)) (fun p i h1 h2 => fu_p (by omega))
      obtain ⟨w3, w4⟩ := s_mstanding hL (s := s) hm1 (fun l hl2 => by
        rw [hbs l hl2]
        by_cases e : l = a
        · subst e; rw [fu_same, if_pos rfl]
        · rw [fu_i e, if_neg e, g176]) c3
      cases w1
      cases w3
      refine ⟨x1.trans y1.symm, ?_⟩
      exact act_s h k1 k2 hsl hl hbs (x2.trans w2) (y2.trans w4)
  · rcases in_n hl ha (show L ≤ 40 by clear Q QG; omega) with z | ⟨z1, z2, z3⟩
    · exact no (Q.1 z) (QG.1 z)
    · exact no ((Q.2 z1).1 z2) ((QG.2 z1).1 z3)
end ACTS
