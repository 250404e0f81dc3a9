/-! plain keeps the relation and agrees (names of other parts: bnd01) -/
section PLAIN
variable {nn L R N s : Nat} {E C : Nat → Nat} {v v2 : fx_V} {F F' G G' : fx_F}
theorem s_Grsee (hN : nt_ok nn L E) (hs : s < 2147483648) (hc : cn F nn L E) (h : Cl k_Gr_see [(2, 40), (0, s)] F v F') : v = (2, 0) ∧ fxo [41] F F' ∧ ∀ r, r < nn → c_far (fun u => F' 41 (10 * r + u)) nn L E (bts s) r := by
  obtain ⟨n, h⟩ := c_Gr_see h
  obtain ⟨m, -, hR⟩ := q_Gr_see_0 h
  have hn := hN.1
  have lp : ∀ (n : Nat) (F2 : fx_F) (r : Nat), Rn n k_Gr_see 2 [(2, 40), (0, s), (0, r)] [] F2 v F' → r ≤ nn → fxo [41] F F2 → (∀ r', r' < r → c_far (fun u => F2 41 (10 * r' + u)) nn L E (bts s) r') → v = (2, 0) ∧ fxo [41] F F' ∧ ∀ r, r < nn → c_far (fun u => F' 41 (10 * r + u)) nn L E (bts s) r := by
    intro n
    induction n using Nat.strongRecOn with
    | ind n ih =>
      intro F2 r h hr ho hA
      have hc2 := hc.keep ho (by decide) (by decide) (by decide)
      have Q := q_Gr_see_2 h
      rw [hc2.1] at Q
      rcases Nat.lt_or_ge r nn with hlt | hge
      · obtain ⟨F1, c1, m, hm, hR⟩ := Q.2 (by rw [b_lt (by clear Q; omega) (by clear Q; omega)]; exact hlt)
        clear Q
        rw [b_mul (show r * 10 < 4294967296 by omega), Nat.mul_comm r 10] at c1
        rw [b_add (show r + 1 < 4294967296 by omega)] at hR
        obtain ⟨y1, y2⟩ := s_spread hN hc2 hlt hs (show 10 * r < 100000 by omega) (by decide) c1
        refine ih m hm F1 (r + 1) hR hlt (ho.tr y1.1) (fun r' hr' => ?_)
        by_cases e : r' = r
        · subst e; exact y2
        · intro u hu
          have := hA r' (by omega) u hu
          show (F1 41 (10 * r' + u) ≠ 4294967295 → ds L E (bts s) r' (F1 41 (10 * r' + u)) u) ∧ ∀ d, ds L E (bts s) r' d u → F1 41 (10 * r' + u) = d
          rw [y1.2 (10 * r' + u) (by omega)]
          exact this
      · obtain ⟨x1, x2⟩ := Q.1 (by rw [b_le (by clear Q; omega) (by clear Q; omega)]; exact hge)
        clear Q
        subst x2
        exact ⟨x1, ho, fun r' hr' => hA r' (by omega)⟩
  exact lp m F 0 hR (Nat.zero_le _) fxo.rf (fun r' hr' => absurd hr' (Nat.not_lt_zero _))
theorem msw_none (hN : nt_ok nn L E) {F : fx_F} {st : Nat → Bool} (hst : ∀ l, l < L → st l = mst F l) : ∀ l, l < L → st l = msw F E 4294967295 l := by
  have hn := hN.1
  intro l hl
  rw [hst l hl]
  unfold msw
  have e1 := (hN.2.2 (2 * l) (by omega)).1
  have e2 := (hN.2.2 (2 * l + 1) (by omega)).1
  rw [show Nat.beq (E (2 * l)) 4294967295 = false from Bool.eq_false_iff.mpr (fun z => by have := rx_beq.mp z; omega), show Nat.beq (E (2 * l + 1)) 4294967295 = false from Bool.eq_false_iff.mpr (fun z => by have := rx_beq.mp z; omega)]
  cases mst F l <;> rfl
theorem o_plain {a b : Nat} (ha : a < 4294967296) (hb : b < 4294967296) (h : lr F G nn L E C N R) (hF : Cl k_T_plain [(2, 2), (0, a), (0, b)] F v F') (hG : Cl k_M_plain [(2, 175), (0, a), (0, b)] G v2 G') : v = v2 ∧ lr F' G' nn L E C N R ∧ sF F F' ∧ sG G G' := by
  have hL := h.1.1.2.1
  have hN := h.1.1
  have hn := hN.1
  have hs0 := h.2.2.2.1.2
  have hbb := sc_lt hN hs0
  obtain ⟨nF, hF⟩ := c_T_plain hF
  obtain ⟨nG, hG⟩ := c_M_plain hG
  have Q := q_T_plain_0 hF
  have QG := q_M_plain_0 hG
  rw [h.2.1.1.1] at Q
  rw [h.2.2.1.1.2.1] at QG
  have no : v = (0, 4294967295) ∧ F' = F → v2 = (0, 4294967295) ∧ G' = G → v = v2 ∧ lr F' G' nn L E C N R ∧ sF F F' ∧ sG G G' := by
    rintro ⟨x1, x2⟩ ⟨y1, y2⟩
    subst x2
    subst y2
    exact ⟨x1.trans y1.symm, h, sF.rf, sG.rf⟩
  by_cases hl : a < nn
  · obtain ⟨i1, i2, i3⟩ := in_y hl (show nn ≤ 40 by clear Q QG; omega)
    replace Q := (Q.2 i1).2 i2
    replace QG := (QG.2 i1).2 i3
    by_cases hl2 : b < nn
    · obtain ⟨i1, i2, i3⟩ := in_y hl2 (show nn ≤ 40 by clear Q QG; omega)
      obtain ⟨F1, c1, x1, x2⟩ := (Q.2 i1).2 i2
      obtain ⟨G1, d1, QG1, QG2⟩ := (QG.2 i1).2 i3
      clear Q QG
      obtain ⟨-, t1, t2⟩ := s_Grsee hN (by clear QG1 QG2; omega) h.2.1.1 c1
      obtain ⟨u1, u2⟩ := s_layFar (st := bts (F (F 2 13) 2)) hN (Or.inl hl) (by clear QG1 QG2; omega) h.2.2.1.1 (msw_none hN (fun l hl => mst_sc (hs0.2.2.1.2 l hl))) d1
      rw [b_mul (show a * 10 < 4294967296 by clear QG1 QG2; omega), b_add (show a * 10 + b < 4294967296 by clear QG1 QG2; omega), Nat.mul_comm a 10] at x1
      have hr := t2 a hl b hl2
      replace hr : (F1 41 (10 * a + b) ≠ 4294967295 → ds L E (bts (F (F 2 13) 2)) a (F1 41 (10 * a + b)) b) ∧ ∀ d, ds L E (bts (F (F 2 13) 2)) a d b → F1 41 (10 * a + b) = d := hr
      have hf := u2 b hl2
      have fin : ∀ z, v = (0, z) → v2 = (0, z) ∧ G' = G1 → v = v2 ∧ lr F' G' nn L E C N R ∧ sF F F' ∧ sG G G' := by
        rintro z a1 ⟨b3, b4⟩
        subst x2
        subst b4
        exact ⟨a1.trans b3.symm, h.fr (fun p i hp => t1 p i (by unfold qF at hp; simp; omega)) (h.2.2.2.2.1.eq (fun t i ht => t1 _ i (by simp; omega))) (h.2.2.2.2.2.eq (fun t i ht => t1 _ i (by simp; omega))) (fun p i hp _ => u1 p i (by unfold qG at hp; simp; omega)) (fun i _ => u1 175 i (by decide))⟩
      by_cases ex : ∃ d, ds L E (bts (F (F 2 13) 2)) a d b
      · have hlt := fr_lt (nn := nn) hN hl ex
        obtain ⟨d, hd⟩ := ex
        rw [hr.2 d hd] at x1
        rw [hf] at QG1 QG2
        rw [fr_ds hd] at QG1 QG2 hlt
        exact fin _ x1 (QG2 (by rw [b_lt (by clear QG1 QG2; omega) (by decide)]; exact hlt))
      · have e1 : F1 41 (10 * a + b) = 4294967295 := by
          by_cases w : F1 41 (10 * a + b) = 4294967295
          · exact w
          · exact absurd ⟨_, hr.1 w⟩ ex
        rw [e1] at x1
        rw [hf, fr_no (fun d hd => ex ⟨d, hd⟩)] at QG1
        exact fin _ x1 (QG1 (by rw [b_le (by decide) (by decide)]; exact Nat.le_refl _))
    · rcases in_n hl2 hb (show nn ≤ 40 by clear Q QG; omega) with z | ⟨z1, z2, z3⟩
      · exact no (Q.1 z) (QG.1 z)
      · exact no ((Q.2 z1).1 z2) ((QG.2 z1).1 z3)
  · rcases in_n hl ha (show nn ≤ 40 by clear Q QG; omega) with z | ⟨z1, z2, z3⟩
    · exact no (Q.1 z) (QG.1 z)
    · exact no ((Q.2 z1).1 z2) ((QG.2 z1).1 z3)
end PLAIN
