/-! send, steps, on both sides -/
section SEND
variable {nn L N R : Nat} {E C : Nat → Nat} {v v2 : fx_V} {F F' F1 G G' G1 : fx_F}
/-- the first of 12 that is free -/
def frs (P : Nat → Prop) (w : Nat) : Prop := (w = 4294967295 ∧ ∀ j, j < 12 → ¬ P j) ∨ (w < 12 ∧ P w ∧ ∀ j, j < w → ¬ P j)
theorem frs_fun {P : Nat → Prop} {w w' : Nat} (h : frs P w) (h2 : frs P w') : w = w' := by
  rcases h with ⟨a, b⟩ | ⟨a, b, c⟩ <;> rcases h2 with ⟨d, e⟩ | ⟨d, e, f⟩
  · omega
  · exact absurd e (b _ d)
  · exact absurd b (e _ a)
  · rcases Nat.lt_trichotomy w w' with z | z | z
    · exact absurd b (f _ z)
    · exact z
    · exact absurd e (c _ z)
theorem frs_congr {P P2 : Nat → Prop} {w : Nat} (he : ∀ j, j < 12 → (P j ↔ P2 j)) (h : frs P w) : frs P2 w := by
  rcases h with ⟨a, b⟩ | ⟨a, b, c⟩
  · exact Or.inl ⟨a, fun j hj z => b j hj ((he j hj).mpr z)⟩
  · exact Or.inr ⟨a, (he w a).mp b, fun j hj z => c j hj ((he j (by omega)).mpr z)⟩
theorem s_cfree {q : Nat} (h : Cl k_St_freePacket [(2, q)] F v F') : ∃ w, v = (0, w) ∧ F' = F ∧ frs (fun j => F (q + 1) j = 4294967295) w := by
  obtain ⟨n, h⟩ := c_St_freePacket h
  obtain ⟨m, hm2, hR⟩ := q_St_freePacket_0 h
  have lp : ∀ (n j : Nat), Rn n k_St_freePacket 2 [(2, q), (0, j)] [] F v F' → j ≤ 12 → (∀ i, i < j → F (q + 1) i ≠ 4294967295) → ∃ w, v = (0, w) ∧ F' = F ∧ frs (fun j => F (q + 1) j = 4294967295) w := by
    intro n
    induction n using Nat.strongRecOn with
    | ind n ih =>
      intro j h hj hI
      have Q := q_St_freePacket_2 h
      rcases Nat.lt_or_ge j 12 with hlt | hge
      · replace Q := Q.2 (by rw [b_lt (by clear Q; omega) (by decide)]; exact hlt)
        by_cases e : F (q + 1) j = 4294967295
        · obtain ⟨x1, x2⟩ := Q.2 e
          exact ⟨j, x1, x2, Or.inr ⟨hlt, e, hI⟩⟩
        · obtain ⟨m, hm, hR⟩ := Q.1 e
          clear Q
          rw [b_add (show j + 1 < 4294967296 by omega)] at hR
          refine ih m hm (j + 1) hR hlt (fun i hi => ?_)
          by_cases ei : i = j
          · subst ei; exact e
          · exact hI i (by omega)
      · obtain ⟨x1, x2⟩ := Q.1 (by rw [b_le (by decide) (by clear Q; omega)]; exact hge)
        clear Q
        exact ⟨_, x1, x2, Or.inl ⟨rfl, fun i hi => hI i (by omega)⟩⟩
  exact lp m 0 hR (Nat.zero_le _) (fun i hi => absurd hi (Nat.not_lt_zero _))
theorem s_mfree (h : Cl k_M_freePacket [(2, 175)] G v G') : ∃ w, v = (0, w) ∧ G' = G ∧ frs (fun j => G 176 (41 + j) = 0) w := by
  obtain ⟨n, h⟩ := c_M_freePacket h
  obtain ⟨m, hm2, hR⟩ := q_M_freePacket_0 h
  have lp : ∀ (n j : Nat), Rn n k_M_freePacket 2 [(2, 175), (0, j)] [] G v G' → j ≤ 12 → (∀ i, i < j → G 176 (41 + i) ≠ 0) → ∃ w, v = (0, w) ∧ G' = G ∧ frs (fun j => G 176 (41 + j) = 0) w := by
    intro n
    induction n using Nat.strongRecOn with
    | ind n ih =>
      intro j h hj hI
      have Q := q_M_freePacket_2 h
      rcases Nat.lt_or_ge j 12 with hlt | hge
      · replace Q := Q.2 (by rw [b_lt (by clear Q; omega) (by decide)]; exact hlt)
        rw [b_add (show 41 + j < 4294967296 by clear Q; omega)] at Q
        by_cases e : G 176 (41 + j) = 0
        · obtain ⟨x1, x2⟩ := Q.2 e
          exact ⟨j, x1, x2, Or.inr ⟨hlt, e, hI⟩⟩
        · obtain ⟨m, hm, hR⟩ := Q.1 e
          clear Q
          rw [b_add (show j + 1 < 4294967296 by omega)] at hR
          refine ih m hm (j + 1) hR hlt (fun i hi => ?_)
          by_cases ei : i = j
          · subst ei; exact e
          · exact hI i (by omega)
      · obtain ⟨x1, x2⟩ := Q.1 (by rw [b_le (by decide) (by clear Q; omega)]; exact hge)
        clear Q
        exact ⟨_, x1, x2, Or.inl ⟨rfl, fun i hi => hI i (by omega)⟩⟩
  exact lp m 0 hR (Nat.zero_le _) (fun i hi => absurd hi (Nat.not_lt_zero _))
theorem pk_free {q j : Nat} {X : Nat → Nat} (hn : nn ≤ 10) (h : pk F q X nn L j) : F (q + 1) j = 4294967295 ↔ X (41 + j) = 0 := by
  rcases h with ⟨a, b⟩ | ⟨a, b, c, _⟩
  · exact ⟨fun _ => b, fun _ => a⟩
  · exact ⟨fun z => by omega, fun z => by omega⟩
/-- a packet is put there -/
theorem sc_put {q w x y : Nat} (hL : L ≤ 20) (h : sc F q (G 176) nn L E) (hn : nn ≤ 10) (hw : w < 12) (hx : x < nn) (hy : y < nn) (hq : 53 ≤ q) : sc (fu (fu (fu (fu F (q + 1) w x) (q + 2) w y) (q + 3) w 4294967295) (q + 4) w 0) q ((fu (fu (fu (fu (fu G 176 (41 + w) 1) 176 (53 + w) y) 176 (65 + w) x) 176 (77 + w) 4294967295) 176 (89 + w) 0) 176) nn L E := by
  have eF : ∀ i, (fu (fu (fu (fu F (q + 1) w x) (q + 2) w y) (q + 3) w 4294967295) (q + 4) w 0) q i = F q i := fun i => by
    rw [fu_p (by omega), fu_p (by omega), fu_p (by omega), fu_p (by omega)]
  have eX : ∀ i, (∀ t, t = 41 ∨ t = 53 ∨ t = 65 ∨ t = 77 ∨ t = 89 → i ≠ t + w) → (fu (fu (fu (fu (fu G 176 (41 + w) 1) 176 (53 + w) y) 176 (65 + w) x) 176 (77 + w) 4294967295) 176 (89 + w) 0) 176 i = G 176 i := fun i hi => by
    rw [fu_i (hi 89 (by decide)), fu_i (hi 77 (by decide)), fu_i (hi 65 (by decide)), fu_i (hi 53 (by decide)), fu_i (hi 41 (by decide))]
  obtain ⟨s1, s2, s3, s4, s5⟩ := h
  refine ⟨?_, ⟨?_, fun l hl => ?_⟩, ⟨?_, fun l hl => ?_⟩, ?_, fun j hj => ?_⟩
  · rw [eF, eX 40 (by intro t ht; omega)]; exact s1
  · rw [eF]; exact s2.1
  · rw [eF, eX (20 + l) (by intro t ht; omega)]; exact s2.2 l hl
  · rw [eF]; exact s3.1
  · rw [eF, eX l (by intro t ht; omega)]; exact s3.2 l hl
  · rw [eF, eX 101 (by intro t ht; omega)]; exact s4
  · unfold pk
    by_cases e : j = w
    · subst e
      rw [fu_p (show q + 1 ≠ q + 4 by omega), fu_p (show q + 1 ≠ q + 3 by omega), fu_p (show q + 1 ≠ q + 2 by omega), fu_same, fu_p (show q + 2 ≠ q + 4 by omega), fu_p (show q + 2 ≠ q + 3 by omega), fu_same, fu_p (show q + 3 ≠ q + 4 by omega), fu_same, fu_same]
      refine Or.inr ⟨?_, ?_, hx, ?_, hy, ?_, Or.inl rfl, ?_⟩
      · rw [fu_i (by omega), fu_i (by omega), fu_i (by omega), fu_i (by omega), fu_same]
      · rw [fu_i (by omega), fu_i (by omega), fu_same]
      · rw [fu_i (by omega), fu_i (by omega), fu_i (by omega), fu_same]
      · rw [fu_i (by omega), fu_same]
      · rw [fu_same]
    · have a1 : ∀ t, (fu (fu (fu (fu F (q + 1) w x) (q + 2) w y) (q + 3) w 4294967295) (q + 4) w 0) (q + t) j = F (q + t) j := fun t => by
        rw [fu_if, if_neg (fun z => e z.2), fu_if, if_neg (fun z => e z.2), fu_if, if_neg (fun z => e z.2), fu_if, if_neg (fun z => e z.2)]
      rw [a1, a1, a1, a1, eX (41 + j) (by intro t ht; omega), eX (53 + j) (by intro t ht; omega), eX (65 + j) (by intro t ht; omega), eX (77 + j) (by intro t ht; omega), eX (89 + j) (by intro t ht; omega)]
      exact s5 j hj
theorem o_send {a b : Nat} (ha : a < 4294967296) (hb : b < 4294967296) (h : lr F G nn L E C N R) (hF : Cl k_T_send [(2, 2), (0, a), (0, b)] F v F') (hG : Cl k_M_send [(2, 175), (0, a), (0, b)] G v2 G') : v = v2 ∧ lr F' G' nn L E C N R ∧ sF F F' ∧ sG G G' := by
  have hL := h.1.1.2.1
  have hN := h.1.1
  have hn := hN.1
  have hs0 := h.2.2.2.1.2
  obtain ⟨nF, hF⟩ := c_T_send hF
  obtain ⟨nG, hG⟩ := c_M_send hG
  have Q := q_T_send_0 hF
  have QG := q_M_send_0 hG
  rw [h.2.1.1.1] at Q
  rw [h.2.2.1.1.2.1] at QG
  have no : v = (0, 4294967295) ∧ F' = F → v2 = (0, 4294967295) ∧ G' = G → v = v2 ∧ lr F' G' nn L E C N R ∧ sF F F' ∧ sG G G' := by
    rintro ⟨x1, x2⟩ ⟨y1, y2⟩
    subst x2
    subst y2
    exact ⟨x1.trans y1.symm, h, sF.rf, sG.rf⟩
  by_cases hl : a < nn
  · obtain ⟨i1, i2, i3⟩ := in_y hl (show nn ≤ 40 by clear Q QG; omega)
    replace Q := (Q.2 i1).2 i2
    replace QG := (QG.2 i1).2 i3
    by_cases hl2 : b < nn
    · obtain ⟨i1, i2, i3⟩ := in_y hl2 (show nn ≤ 40 by clear Q QG; omega)
      replace Q := (Q.2 i1).2 i2
      replace QG := (QG.2 i1).2 i3
      by_cases hab : a = b
      · exact no (Q.1 hab) (QG.1 hab)
      · obtain ⟨n1, F1, c1, Q1, Q2⟩ := Q.2 hab
        obtain ⟨m1, G1, d1, QG1, QG2⟩ := QG.2 hab
        clear Q QG
        obtain ⟨w, e1, e2, e3⟩ := s_cfree c1
        obtain ⟨w', f1, f2, f3⟩ := s_mfree d1
        cases e1
        cases f1
        subst e2
        subst f2
        have hww : m1 = n1 := frs_fun f3 (frs_congr (fun j hj => pk_free hn (hs0.2.2.2.2 j hj)) e3)
        subst hww
        by_cases hw : m1 = 4294967295
        · exact no (Q2 hw) (QG1 (by rw [hw, b_neg (by decide)]; decide))
        · have hw12 : m1 < 12 := by
            rcases e3 with z | z
            · exact absurd z.1 hw
            · exact z.1
          obtain ⟨F2, k1, n3, F3, c3, Q3, Q4⟩ := Q1 hw
          obtain ⟨G2, k2, m3, G3, d3, y1, y2⟩ := QG2 (by rw [b_pos (by clear Q1 Q2 QG1 QG2; omega)]; clear Q1 Q2 QG1 QG2; omega)
          clear Q1 Q2 QG1 QG2
          obtain ⟨r2, t1, t2, t3, t4, t5, t6, t7⟩ := h.kept k1 k2
          obtain ⟨w, e1', e2', e3'⟩ := s_cfree c3
          obtain ⟨w', f1', f2', f3'⟩ := s_mfree d3
          cases e1'
          cases f1'
          subst e2'
          subst f2'
          rw [r2] at e3' Q4
          have hS : S0 (F1 2 13) := h.2.2.2.1.1.1.1
          have hS' : 53 ≤ F1 2 13 := by clear Q3 Q4; unfold S0 at hS; omega
          have hA : n3 = m1 := frs_fun e3' (frs_congr (fun j hj => by
            show F1 (F1 2 13 + 1) j = 4294967295 ↔ F3 (F1 2 13 + 1) j = 4294967295
            rw [t1 1 j (by decide)]) e3)
          have hB : m3 = m1 := frs_fun f3' (frs_congr (fun j hj => by
            show G1 176 (41 + j) = 0 ↔ G3 176 (41 + j) = 0
            rw [t3 176 _ (by decide)]) f3)
          subst hA
          subst hB
          obtain ⟨x1, x2⟩ := Q4 hw
          clear Q3 Q4
          refine ⟨x1.trans y1.symm, ?_⟩
          rw [b_add (show 41 + m3 < 4294967296 by omega), b_add (show 53 + m3 < 4294967296 by omega), b_add (show 65 + m3 < 4294967296 by omega), b_add (show 77 + m3 < 4294967296 by omega), b_add (show 89 + m3 < 4294967296 by omega)] at y2
          subst x2
          subst y2
          refine h.act k1 k2 (fun p i h1 h2 => ?_) (t6.eq (fun t i ht => ?_)) (t7.eq (fun t i ht => ?_)) (fun p i h1 h2 h3 => ?_) (fun i _ => ?_) (sc_put hL t5 hn hw12 hl hl2 hS')
          · rw [fu_p (by omega), fu_p (by omega), fu_p (by omega), fu_p (by omega)]
          · rw [fu_p (by omega), fu_p (by omega), fu_p (by omega), fu_p (by omega)]
          · rw [fu_p (by omega), fu_p (by omega), fu_p (by omega), fu_p (by omega)]
          · rw [fu_p h3, fu_p h3, fu_p h3, fu_p h3, fu_p h3]
          · rw [fu_p (by decide), fu_p (by decide), fu_p (by decide), fu_p (by decide), fu_p (by decide)]
    · rcases in_n hl2 hb (show nn ≤ 40 by clear Q QG; omega) with z | ⟨z1, z2, z3⟩
      · exact no (Q.1 z) (QG.1 z)
      · exact no ((Q.2 z1).1 z2) ((QG.2 z1).1 z3)
  · rcases in_n hl ha (show nn ≤ 40 by clear Q QG; omega) with z | ⟨z1, z2, z3⟩
    · exact no (Q.1 z) (QG.1 z)
    · exact no ((Q.2 z1).1 z2) ((QG.2 z1).1 z3)
theorem o_steps {a : Nat} (ha : a < 4294967296) (h : lr F G nn L E C N R) (hF : Cl k_T_steps [(2, 2), (0, a)] F v F') (hG : Cl k_M_steps [(2, 175), (0, a)] G v2 G') : v = v2 ∧ lr F' G' nn L E C N R ∧ sF F F' ∧ sG G G' := by
  have hL := h.1.1.2.1
  have hN := h.1.1
  have hn := hN.1
  have hs0 := h.2.2.2.1.2
  obtain ⟨nF, hF⟩ := c_T_steps hF
  obtain ⟨nG, hG⟩ := c_M_steps hG
  have Q := q_T_steps_0 hF
  have QG := q_M_steps_0 hG
  rw [h.2.1.1.1] at Q
  rw [h.2.2.1.1.2.1] at QG
  have no : v = (0, 4294967295) ∧ F' = F → v2 = (0, 4294967295) ∧ G' = G → v = v2 ∧ lr F' G' nn L E C N R ∧ sF F F' ∧ sG G G' := by
    rintro ⟨x1, x2⟩ ⟨y1, y2⟩
    subst x2
    subst y2
    exact ⟨x1.trans y1.symm, h, sF.rf, sG.rf⟩
  by_cases ha1 : s_lt a 1
  · refine no ?_ (QG.1 ha1)
    by_cases z : nn = 0
    · exact Q.1 z
    · exact (Q.2 z).1 ha1
  · have ha1' : s_le 1 a := by
      rw [b_ltc ha (by decide)] at ha1
      rw [b_lec ha (by decide)]
      clear Q QG
      omega
    replace QG := QG.2 ha1'
    by_cases ha2 : s_lt 50 a
    · refine no ?_ (QG.1 ha2)
      by_cases z : nn = 0
      · exact Q.1 z
      · exact ((Q.2 z).2 ha1').2 ha2
    · have ha2' : s_le a 50 := by
        rw [b_ltc2 ha (by decide)] at ha2
        rw [b_lec2 ha (by decide)]
        clear Q QG
        omega
      replace QG := QG.2 ha2'
      by_cases z : nn = 0
      · exact no (Q.1 z) (QG.2 z)
      · obtain ⟨F1, k1, n2, F2, c2, x1, x2⟩ := ((Q.2 z).2 ha1').1 ha2'
        obtain ⟨G1, k2, m2, G2, d2, y1, y2⟩ := QG.1 z
        clear Q QG
        obtain ⟨r2, t1, t2, t3, t4, t5, t6, t7⟩ := h.kept k1 k2
        have hS : S0 (F 2 13) := h.2.2.2.1.1.1.1
        have hS' : 53 ≤ F 2 13 ∧ (F 2 13 + 4 ≤ 152 ∨ 160 ≤ F 2 13) := by unfold S0 at hS; omega
        have hcn1 : cn F1 nn L E := h.2.1.1.eq (fun p i h1 h2 => t2 p i (by omega) (by unfold rg; omega))
        have hol1 : ocl F1 nn L E := h.2.1.2.1.eq (fun p i h1 h2 => t2 p i (by omega) (by unfold rg; omega))
        have hm1 : mn G1 nn L E := h.2.2.1.1.eq (t4 9 (by decide) (by decide)) (fun p i h1 h2 => t3 p i (by simp; omega))
        have a50 : a ≤ 1000 := by
          rw [b_lec2 ha (by decide)] at ha2'
          rw [b_lec ha (by decide)] at ha1'
          omega
        rw [r2] at c2
        obtain ⟨w, z1, z2, z3, z4, z5, z6, z7, z8, z9⟩ := s_steps2 hN (S0_sok hS) h.1.2.2.2 a50 hcn1 hol1 (by rw [t2 3 3 (by decide) (by unfold rg; omega)]; exact h.2.1.2.2.2) t6 hm1 (by rw [t4 9 (by decide) (by decide), t3 180 _ (by decide)]; exact h.2.2.1.2.2) t5 c2 d2
        cases z1
        cases z2
        subst x2
        subst y2
        refine ⟨x1.trans y1.symm, ?_⟩
        refine h.act k1 k2 (fun p i h1 h2 => z4 p i ?_) z9 (t7.eq (fun t i ht => z4 _ i ?_)) (fun p i h1 h2 h3 => z5 p i ?_) (fun i _ => z5 175 _ (by decide)) z3
        · unfold qF at h1; simp; omega
        · simp; omega
        · unfold qG at h1; simp; omega
end SEND
