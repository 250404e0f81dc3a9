section
/-! send, steps, on both sides -/
section SEND
variable {nn L N R : Nat} {E C : Nat → Nat} {v v2 : fx_V} {F F' F1 G G' G1 : fx_F}
/-- the first of 12 that is free -/
def frs (P : Nat → Prop) (w : Nat) : Prop := (w = 4294967295 ∧ ∀ j, j < 12 → ¬ P j) ∨ (w < 12 ∧ P w ∧ ∀ j, j < w → ¬ P j)
theorem frs_fun {P : Nat → Prop} {w w' : Nat} (h : frs P w) (h2 : frs P w') : w = w' := by
  rcases h with ⟨a, b⟩ | ⟨a, b, c⟩ <;> rcases h2 with ⟨d, e⟩ | ⟨d, e, f⟩
  · omega
  · exact absurd e (b _ d)
  · exact absurd b (e _ a)
  · rcases Nat.lt_trichotomy w w' with z | z | z
    · exact absurd b (f _ z)
    · exact z
    · exact absurd e (c _ z)
theorem frs_congr {P P2 : Nat → Prop} {w : Nat} (he : ∀ j, j < 12 → (P j ↔ P2 j)) (h : frs P w) : frs P2 w := by
  rcases h with ⟨a, b⟩ | ⟨a, b, c⟩
  · exact Or.inl ⟨a, fun j hj z => b j hj ((he j hj).mpr z)⟩
  · exact Or.inr ⟨a, (he w a).mp b, fun j hj z => c j hj ((he j (by omega)).mpr z)⟩
theorem s_cfree {q : Nat} (h : Cl k_St_freePacket [(2, q)] F v F') : ∃ w, v = (0, w) ∧ F' = F ∧ frs (fun j => F (q + 1) j = 4294967295) w := by
  obtain ⟨n, h⟩ := c_St_freePacket h
  obtain ⟨m, hm2, hR⟩ := q_St_freePacket_0 h
  have lp : ∀ (n j : Nat), Rn n k_St_freePacket 2 [(2, q), (0, j)] [] F v F' → j ≤ 12 → (∀ i, i < j → F (q + 1) i ≠ 4294967295) → ∃ w, v = (0, w) ∧ F' = F ∧ frs (fun j => F (q + 1) j = 4294967295) w := by
    intro n
    induction n using Nat.strongRecOn with
    | ind n ih =>
      intro j h hj hI
      have Q := q_St_freePacket_2 h
      rcases Nat.lt_or_ge j 12 with hlt | hge
      · replace Q := Q.2 (by rw [b_lt (by clear Q; omega) (by decide)]; exact hlt)
        by_cases e : F (q + 1) j = 4294967295
        · obtain ⟨x1, x2⟩ := Q.2 e
          exact ⟨j, x1, x2, Or.inr ⟨hlt, e, hI⟩⟩
        · obtain ⟨m, hm, hR⟩ := Q.1 e
          clear Q
          rw [b_add (show j + 1 < 4294967296 by omega)] at hR
          refine ih m hm (j + 1) hR hlt (fun i hi => ?_)
          by_cases ei : i = j
          · subst ei; exact e
          · exact hI i (by omega)
      · obtain ⟨x1, x2⟩ := Q.1 (by rw [b_le (by decide) (by clear Q; omega)]; exact hge)
        clear Q
        exact ⟨_, x1, x2, Or.inl ⟨rfl, fun i hi => hI i (by omega)⟩⟩
  exact lp m 0 hR (Nat.zero_le _) (fun i hi => absurd hi (Nat.not_lt_zero _))
theorem s_mfree (h : Cl k_M_freePacket [(2, 175)] G v G') : ∃ w, v = (0, w) ∧ G' = G ∧ frs (fun j => G 176 (41 + j) = 0) w := by
  obtain ⟨n, h⟩ := c_M_freePacket h
  obtain ⟨m, hm2, hR⟩ := q_M_freePacket_0 h
  have lp : ∀ (n j : Nat), Rn n k_M_freePacket 2 [(2, 175), (0, j)] [] G v G' → j ≤ 12 → (∀ i, i < j → G 176 (41 + i) ≠ 0) → ∃ w, v = (0, w) ∧ G' = G ∧ frs (fun j => G 176 (41 + j) = 0) w := by
    intro n
    induction n using Nat.strongRecOn with
    | ind n ih =>
      intro j h hj hI
      have Q := q_M_freePacket_2 h
      rcases Nat.lt_or_ge j 12 with hlt | hge
      · replace Q := Q.2 (by rw [b_lt (by clear Q; omega) (by decide)]; exact hlt)
        rw [b_add (show 41 + j < 4294967296 by clear Q; omega)] at Q
        by_cases e : G 176 (41 + j) = 0
        · obtain ⟨x1, x2⟩ := Q.2 e
          exact ⟨j, x1, x2, Or.inr ⟨hlt, e, hI⟩⟩
        · obtain ⟨m, hm, hR⟩ := Q.1 e
          clear Q
          rw [b_add (show j + 1 < 4294967296 by omega)] at hR
          refine ih m hm (j + 1) hR hlt (fun i hi => ?_)
          by_cases ei : i = j
          · subst ei; exact e
          · exact hI i (by omega)
      · obtain ⟨x1, x2⟩ := Q.1 (by rw [b_le (by decide) (by clear Q; omega)]; exact hge)
        clear Q
        exact ⟨_, x1, x2, Or.inl ⟨rfl, fun i hi => hI i (by omega)⟩⟩
  exact lp m 0 hR (Nat.zero_le _) (fun i hi => absurd hi (Nat.not_lt_zero _))
theorem pk_free {q j : Nat} {X : Nat → Nat} (hn : nn ≤ 10) (h : pk F q X nn L j) : F (q + 1) j = 4294967295 ↔ X (41 + j) = 0 := by
  rcases h with ⟨a, b⟩ | ⟨a, b, c, _⟩
  · exact ⟨fun _ => b, fun _ => a⟩
  · exact ⟨fun z => by omega, fun z => by omega⟩
/-- a packet is put there -/
theorem sc_put {q w x y : Nat} (hL : L ≤ 20) (h : sc F q (G 176) nn L E) (hn : nn ≤ 10) (hw : w < 12) (hx : x < nn) (hy : y < nn) (hq : 53 ≤ q) : sc (fu (fu (fu (fu F (q + 1) w x) (q + 2) w y) (q + 3) w 4294967295) (q + 4) w 0) q ((fu (fu (fu (fu (fu G 176 (41 + w) 1) 176 (53 + w) y) 176 (65 + w) x) 176 (77 + w) 4294967295) 176 (89 + w) 0) 176) nn L E := by
  have eF : ∀ i, (fu (fu (fu (fu F (q + 1) w x) (q + 2) w y) (q + 3) w 4294967295) (q + 4) w 0) q i = F q i := fun i => by
    rw [fu_p (by omega), fu_p (by omega), fu_p (by omega), fu_p (by omega)]
  have eX : ∀ i, (∀ t, t = 41 ∨ t = 53 ∨ t = 65 ∨ t = 77 ∨ t = 89 → i ≠ t + w) → (fu (fu (fu (fu (fu G 176 (41 + w) 1) 176 (53 + w) y) 176 (65 + w) x) 176 (77 + w) 4294967295) 176 (89 + w) 0) 176 i = G 176 i := fun i hi => by
    rw [fu_i (hi 89 (by decide)), fu_i (hi 77 (by decide)), fu_i (hi 65 (by decide)), fu_i (hi 53 (by decide)), fu_i (hi 41 (by decide))]
  obtain ⟨s1, s2, s3, s4, s5⟩ := h
  refine ⟨?_, ⟨?_, fun l hl => ?_⟩, ⟨?_, fun l hl => ?_⟩, ?_, fun j hj => ?_⟩
  · rw [eF, eX 40 (by intro t ht; omega)]; exact s1
  · rw [eF]; exact s2.1
  · rw [eF, eX (20 + l) (by intro t ht; omega)]; exact s2.2 l hl
  · rw [eF]; exact s3.1
  · rw [eF, eX l (by intro t ht; omega)]; exact s3.2 l hl
  · rw [eF, eX 101 (by intro t ht; omega)]; exact s4
  · unfold pk
    by_cases e : j = w
    · subst e
      rw [fu_p (show q + 1 ≠ q + 4 by omega), fu_p (show q + 1 ≠ q + 3 by omega), fu_p (show q + 1 ≠ q + 2 by omega), fu_same, fu_p (show q + 2 ≠ q + 4 by omega), fu_p (show q + 2 ≠ q + 3 by omega), fu_same, fu_p (show q + 3 ≠ q + 4 by omega), fu_same, fu_same]
      refine Or.inr ⟨?_, ?_, hx, ?_, hy, ?_, Or.inl rfl, ?_⟩
      · rw [fu_i (by omega), fu_i (by omega), fu_i (by omega), fu_i (by omega), fu_same]
      · rw [fu_i (by omega), fu_i (by omega), fu_same]
      · rw [fu_i (by omega), fu_i (by omega), fu_i (by omega), fu_same]
      · rw [fu_i (by omega), fu_same]
      · rw [fu_same]
    · have a1 : ∀ t, (fu (fu (fu (fu F (q + 1) w x) (q + 2) w y) (q + 3) w 4294967295) (q + 4) w 0) (q + t) j = F (q + t) j := fun t => by
        rw [fu_if, if_neg (fun z => e z.2), fu_if, if_neg (fun z => e z.2), fu_if, if_neg (fun z => e z.2), fu_if, if_neg (fun z => e z.2)]
      rw [a1, a1, a1, a1, eX (41 + j) (by intro t ht; omega), eX (53 + j) (by intro t ht; omega), eX (65 + j) (by intro t ht; omega), eX (77 + j) (by intro t ht; omega), eX (89 + j) (by intro t ht; omega)]
      exact s5 j hj
theorem o_send {a b : Nat} (ha : a < 4294967296) (hb : b < 4294967296) (h : lr F G nn L E C N R) (hF : Cl k_T_send [(2, 2), (0, a), (0, b)] F v F') (hG : Cl k_M_send [(2, 175), (0, a), (0, b)] G v2 G') : v = v2 ∧ lr F' G' nn L E C N R ∧ sF F F' ∧ sG G G' := by
  have hL := h.1.1.2.1
  have hN := h.1.1
  have hn := hN.1
  have hs0 := h.2.2.2.1.2
  obtain ⟨nF, hF⟩ := c_T_send hF
  obtain ⟨nG, hG⟩ := c_M_send hG
  have Q := q_T_send_0 hF
  have QG := q_M_send_0 hG
  rw [h.2.1.1.1] at Q
  rw [h.2.2.1.1.2.1] at QG
  have no : v = (0, 4294967295) ∧ F' = F → v2 = (0, 4294967295) ∧ G' = G → v = v2 ∧ lr F' G' nn L E C N R ∧ sF F F' ∧ sG G G' := by
    rintro ⟨x1, x2⟩ ⟨y1, y2⟩
    subst x2
    subst y2
    exact ⟨x1.trans y1.symm, h, sF.rf, sG.rf⟩
  by_cases hl : a < nn
  · obtain ⟨i1, i2, i3⟩ := in_y hl (show nn ≤ 40 by clear Q QG; omega)
    replace Q := (Q.2 i1).2 i2
    replace QG := (QG.2 i1).2 i3
    by_cases hl2 : b < nn
    · obtain ⟨i1, i2, i3⟩ := in_y hl2 (show nn ≤ 40 by clear Q QG; omega)
      replace Q := (Q.2 i1).2 i2
      replace QG := (QG.2 i1).2 i3
      by_cases hab : a = b
      · exact no (Q.1 hab) (QG.1 hab)
      · obtain ⟨n1, F1, c1, Q1, Q2⟩ := Q.2 hab
        obtain ⟨m1, G1, d1, QG1, QG2⟩ := QG.2 hab
        clear Q QG
        obtain ⟨w, e1, e2, e3⟩ := s_cfree c1
        obtain ⟨w', f1, f2, f3⟩ := s_mfree d1
        cases e1
        cases f1
        subst e2
        subst f2
        have hww : m1 = n1 := frs_fun f3 (frs_congr (fun j hj => pk_free hn (hs0.2.2.2.2 j hj)) e3)
        subst hww
        by_cases hw : m1 = 4294967295
        · exact no (Q2 hw) (QG1 (by rw [hw, b_neg (by decide)]; decide))
        · have hw12 : m1 < 12 := by
            rcases e3 with z | z
            · exact absurd z.1 hw
            · exact z.1
          obtain ⟨F2, k1, n3, F3, c3, Q3, Q4⟩ := Q1 hw
          obtain ⟨G2, k2, m3, G3, d3, y1, y2⟩ := QG2 (by rw [b_pos (by clear Q1 Q2 QG1 QG2; omega)]; clear Q1 Q2 QG1 QG2; omega)
          clear Q1 Q2 QG1 QG2
          obtain ⟨r2, t1, t2, t3, t4, t5, t6, t7⟩ := h.kept k1 k2
          obtain ⟨w, e1', e2', e3'⟩ := s_cfree c3
          obtain ⟨w', f1', f2', f3'⟩ := s_mfree d3
          cases e1'
          cases f1'
          subst e2'
          subst f2'
          rw [r2] at e3' Q4
          have hS : S0 (F1 2 13) := h.2.2.2.1.1.1.1
          have hS' : 53 ≤ F1 2 13 := by clear Q3 Q4; unfold S0 at hS; omega
          have hA : n3 = m1 := frs_fun e3' (frs_congr (fun j hj => by
            show F1 (F1 2 13 + 1) j = 4294967295 ↔ F3 (F1 2 13 + 1) j = 4294967295
            rw [t1 1 j (by decide)]) e3)
          have hB : m3 = m1 := frs_fun f3' (frs_congr (fun j hj => by
            show G1 176 (41 + j) = 0 ↔ G3 176 (41 + j) = 0
            rw [t3 176 _ (by decide)]) f3)
          subst hA
          subst hB
          obtain ⟨x1, x2⟩ := Q4 hw
          clear Q3 Q4
          refine ⟨x1.trans y1.symm, ?_⟩
          rw [b_add (show 41 + m3 < 4294967296 by omega), b_add (show 53 + m3 < 4294967296 by omega), b_add (show 65 + m3 < 4294967296 by omega), b_add (show 77 + m3 < 4294967296 by omega), b_add (show 89 + m3 < 4294967296 by omega)] at y2
          subst x2
          subst y2
          refine h.act k1 k2 (fun p i h1 h2 => ?_) (t6.eq (fun t i ht => ?_)) (t7.eq (fun t i ht => ?_)) (fun p i h1 h2 h3 => ?_) (fun i _ => ?_) (sc_put hL t5 hn hw12 hl hl2 hS')
          · rw [fu_p (by omega), fu_p (by omega), fu_p (by omega), fu_p (by omega)]
          · rw [fu_p (by omega), fu_p (by omega), fu_p (by omega), fu_p (by omega)]
          · rw [fu_p (by omega), fu_p (by omega), fu_p (by omega), fu_p (by omega)]
          · rw [fu_p h3, fu_p h3, fu_p h3, fu_p h3, fu_p h3]
          · rw [fu_p (by decide), fu_p (by decide), fu_p (by decide), fu_p (by decide), fu_p (by decide)]
    · rcases in_n hl2 hb (show nn ≤ 40 by clear Q QG; omega) with z | ⟨z1, z2, z3⟩
      · exact no (Q.1 z) (QG.1 z)
      · exact no ((Q.2 z1).1 z2) ((QG.2 z1).1 z3)
  · rcases in_n hl ha (show nn ≤ 40 by clear Q QG; omega) with z | ⟨z1, z2, z3⟩
    · exact no (Q.1 z) (QG.1 z)
    · exact no ((Q.2 z1).1 z2) ((QG.2 z1).1 z3)
theorem o_steps {a : Nat} (ha : a < 4294967296) (h : lr F G nn L E C N R) (hF : Cl k_T_steps [(2, 2), (0, a)] F v F') (hG : Cl k_M_steps [(2, 175), (0, a)] G v2 G') : v = v2 ∧ lr F' G' nn L E C N R ∧ sF F F' ∧ sG G G' := by
  have hL := h.1.1.2.1
  have hN := h.1.1
  have hn := hN.1
  have hs0 := h.2.2.2.1.2
  obtain ⟨nF, hF⟩ := c_T_steps hF
  obtain ⟨nG, hG⟩ := c_M_steps hG
  have Q := q_T_steps_0 hF
  have QG := q_M_steps_0 hG
  rw [h.2.1.1.1] at Q
  rw [h.2.2.1.1.2.1] at QG
  have no : v = (0, 4294967295) ∧ F' = F → v2 = (0, 4294967295) ∧ G' = G → v = v2 ∧ lr F' G' nn L E C N R ∧ sF F F' ∧ sG G G' := by
    rintro ⟨x1, x2⟩ ⟨y1, y2⟩
    subst x2
    subst y2
    exact ⟨x1.trans y1.symm, h, sF.rf, sG.rf⟩
  by_cases ha1 : s_lt a 1
  · refine no ?_ (QG.1 ha1)
    by_cases z : nn = 0
    · exact Q.1 z
    · exact (Q.2 z).1 ha1
  · have ha1' : s_le 1 a := by
      rw [b_ltc ha (by decide)] at ha1
      rw [b_lec ha (by decide)]
      clear Q QG
      omega
    replace QG := QG.2 ha1'
    by_cases ha2 : s_lt 50 a
    · refine no ?_ (QG.1 ha2)
      by_cases z : nn = 0
      · exact Q.1 z
      · exact ((Q.2 z).2 ha1').2 ha2
    · have ha2' : s_le a 50 := by
        rw [b_ltc2 ha (by decide)] at ha2
        rw [b_lec2 ha (by decide)]
        clear Q QG
        omega
      replace QG := QG.2 ha2'
      by_cases z : nn = 0
      · exact no (Q.1 z) (QG.2 z)
      · obtain ⟨F1, k1, n2, F2, c2, x1, x2⟩ := ((Q.2 z).2 ha1').1 ha2'
        obtain ⟨G1, k2, m2, G2, d2, y1, y2⟩ := QG.1 z
        clear Q QG
        obtain ⟨r2, t1, t2, t3, t4, t5, t6, t7⟩ := h.kept k1 k2
        have hS : S0 (F 2 13) := h.2.2.2.1.1.1.1
        have hS' : 53 ≤ F 2 13 ∧ (F 2 13 + 4 ≤ 152 ∨ 160 ≤ F 2 13) := by unfold S0 at hS; omega
        have hcn1 : cn F1 nn L E := h.2.1.1.eq (fun p i h1 h2 => t2 p i (by omega) (by unfold rg; omega))
        have hol1 : ocl F1 nn L E := h.2.1.2.1.eq (fun p i h1 h2 => t2 p i (by omega) (by unfold rg; omega))
        have hm1 : mn G1 nn L E := h.2.2.1.1.eq (t4 9 (by decide) (by decide)) (fun p i h1 h2 => t3 p i (by simp; omega))
        have a50 : a ≤ 1000 := by
          rw [b_lec2 ha (by decide)] at ha2'
          rw [b_lec ha (by decide)] at ha1'
          omega
        rw [r2] at c2
        obtain ⟨w, z1, z2, z3, z4, z5, z6, z7, z8, z9⟩ := s_steps2 hN (S0_sok hS) h.1.2.2.2 a50 hcn1 hol1 (by rw [t2 3 3 (by decide) (by unfold rg; omega)]; exact h.2.1.2.2.2) t6 hm1 (by rw [t4 9 (by decide) (by decide), t3 180 _ (by decide)]; exact h.2.2.1.2.2) t5 c2 d2
        cases z1
        cases z2
        subst x2
        subst y2
        refine ⟨x1.trans y1.symm, ?_⟩
        refine h.act k1 k2 (fun p i h1 h2 => z4 p i ?_) z9 (t7.eq (fun t i ht => z4 _ i ?_)) (fun p i h1 h2 h3 => z5 p i ?_) (fun i _ => z5 175 _ (by decide)) z3
        · unfold qF at h1; simp; omega
        · simp; omega
        · unfold qG at h1; simp; omega
end SEND
end
section
/-! change, on both sides -/
section CHANGE
variable {nn L N R : Nat} {E C : Nat → Nat} {v v2 : fx_V} {F F' F1 G G' G1 : fx_F}
theorem s_cplanFor {r s up : Nat} (hN : nt_ok nn L E) (hC : cd_ok C N) (hC2 : N ≠ 0 → 0 < hgt C N) (hr : r < nn ∨ nn = 0) (hr2 : r < 10) (hc : cn F nn L E) (hcc : cc F C N) (hS : 53 ≤ F 2 13) (hup : F (F 2 13) 1 = up) (hss : F (F 2 13) 2 = s) (hu : up < 2 ^ L) (hs : s < 2 ^ L) (h : Cl k_T_planFor [(2, 2), (0, r)] F v F') : ∃ nw, v = (2, 0) ∧ nwb nw L E (rk C N (fr L E (bts s) r) (fun u => dgc E (bts s) u (2 * L))) ∧ fxo [20, 21, 22, 23, 46, 47, 48, 49] F F' ∧ F' 48 3 = cnt (bts (up ^^^ nw)) L ∧ cpl F' L E (bts s) up nw := by
  have hL := hN.2.1
  have s20 := p20 hL hs
  obtain ⟨n, h⟩ := c_T_planFor h
  obtain ⟨n1, F1, c1, F2, c2, x1, x2⟩ := q_T_planFor_0 h
  subst x2
  obtain ⟨nw, a1, a2, a3⟩ := s_upEndsBy (s := s) hN hC hC2 hr hr2 hc hcc hss.symm (by omega) c1
  cases a1
  have e2 : F1 2 13 = F 2 13 := a3 2 13 (by decide)
  have e3 : F1 (F1 2 13) 2 = s := by rw [e2, a3 _ _ (by simp; omega)]; exact hss
  rw [hup, e3] at c2
  obtain ⟨-, b2, b3, b4⟩ := s_lay hN hu a2.1 (by omega) (hc.keep a3 (by decide) (by decide) (by decide)) (fun v F1 h => s_cbits hL (Nat.xor_lt_two_pow hu a2.1) h) c2
  exact ⟨_, x1, a2, (a3.mono (by decide)).tr (b2.mono (by decide)), b3, b4⟩
theorem nwb_fun {R0 : Nat → Nat} {x y : Nat} (h : nwb x L E R0) (h2 : nwb y L E R0) : x = y := tb_ext (fun i => by
  have a := h.2 i
  have b := h2.2 i
  cases hx : x.testBit i <;> cases hy : y.testBit i
  · rfl
  · exact absurd (a.mpr (b.mp hy)) (by rw [hx]; decide)
  · exact absurd (b.mpr (a.mp hx)) (by rw [hy]; decide)
  · rfl)
/-- the plans agree -/
theorem plan2 {r : Nat} (h : lr F G nn L E C N R) (hr : r < nn) (hF : Cl k_T_planFor [(2, 2), (0, r)] F v F') (hG : Cl k_M_planFor [(2, 175), (0, r)] G v2 G') : ∃ nw, nwb nw L E (rk C N (fr L E (bts (F (F 2 13) 2)) r) (fun u => dgc E (bts (F (F 2 13) 2)) u (2 * L))) ∧ (lr F' G' nn L E C N R ∧ sF F F' ∧ sG G G') ∧ F' 2 13 = F 2 13 ∧ (∀ i, F' (F 2 13) i = F (F 2 13) i) ∧ (∀ i, G' 176 i = G 176 i) ∧ F' 48 3 = cnt (bts (F (F 2 13) 1 ^^^ nw)) L ∧ ((∃ k, k ≤ 20 ∧ plr L E (bts (F (F 2 13) 2)) (F (F 2 13) 1) nw k ∧ v2 = (0, k) ∧ mpo G' L E (bts (F (F 2 13) 2)) (F (F 2 13) 1) nw k ∧ F' 48 4 = k ∧ ∀ j, j < k → F' 49 j = pt L E (bts (F (F 2 13) 2)) (F (F 2 13) 1) nw j) ∨ (plb L E (bts (F (F 2 13) 2)) (F (F 2 13) 1) nw ∧ v2 = (0, 4294967294) ∧ F' 48 4 = 4294967294)) := by
  have hL := h.1.1.2.1
  have hN := h.1.1
  have hn := hN.1
  have hs0 := h.2.2.2.1.2
  have hS : S0 (F 2 13) := h.2.2.2.1.1.1.1
  have hS' : 53 ≤ F 2 13 := by unfold S0 at hS; omega
  obtain ⟨nw, -, a2, a3, a4, a5⟩ := s_cplanFor hN h.1.2.1 h.1.2.2.1 (Or.inl hr) (by omega) h.2.1.1 h.2.1.2.2.1 hS' rfl rfl hs0.2.1.1 hs0.2.2.1.1 hF
  obtain ⟨b1, b2⟩ := s_planFor (st := bts (F (F 2 13) 2)) hN h.1.2.1 h.1.2.2.1 (Or.inl hr) (by omega) hs0.2.1.1 a2 h.2.2.1.1 h.2.2.1.2.1 (fun l hl => mst_sc (hs0.2.2.1.2 l hl)) hs0.2.1.2 hG
  refine ⟨nw, a2, ?_, a3 2 13 (by decide), fun i => a3 _ i (by simp; omega), fun i => b1 176 i (by decide), a4, ?_⟩
  · exact h.fr (fun p i hp => a3 p i (by unfold qF at hp; simp; omega)) (h.2.2.2.2.1.eq (fun t i ht => a3 _ i (by simp; omega))) (h.2.2.2.2.2.eq (fun t i ht => a3 _ i (by simp; omega))) (fun p i hp _ => b1 p i (by unfold qG at hp; simp; omega)) (fun i _ => b1 175 i (by decide))
  · rcases b2 with ⟨k, k0, k1, k2, k3⟩ | ⟨k1, k2⟩
    · rcases a5 with ⟨k', j0, j1, j2, j3⟩ | ⟨j1, j2⟩
      · have := plr_fun k1 j1
        subst this
        exact Or.inl ⟨k, k0, k1, k2, k3, j2, j3⟩
      · exact (plr_plb k1 j1).elim
    · rcases a5 with ⟨k', j0, j1, j2, j3⟩ | ⟨j1, j2⟩
      · exact (plr_plb j1 k1).elim
      · exact Or.inr ⟨k1, k2, j2⟩
theorem o_change {a b : Nat} (ha : a < 4294967296) (hb : b < 4294967296) (h : lr F G nn L E C N R) (hF : Cl k_T_change [(2, 2), (0, a), (0, b)] F v F') (hG : Cl k_M_change [(2, 175), (0, a), (0, b)] G v2 G') : v = v2 ∧ lr F' G' nn L E C N R ∧ sF F F' ∧ sG G G' := by
  have hL := h.1.1.2.1
  have hN := h.1.1
  have hn := hN.1
  obtain ⟨nF, hF⟩ := c_T_change hF
  obtain ⟨nG, hG⟩ := c_M_change hG
  have Q := q_T_change_0 hF
  have QG := q_M_change_0 hG
  rw [h.2.1.1.1] at Q
  rw [h.2.2.1.1.2.1] at QG
  have no : v = (0, 4294967295) ∧ F' = F → v2 = (0, 4294967295) ∧ G' = G → v = v2 ∧ lr F' G' nn L E C N R ∧ sF F F' ∧ sG G G' := by
    rintro ⟨x1, x2⟩ ⟨y1, y2⟩
    subst x2
    subst y2
    exact ⟨x1.trans y1.symm, h, sF.rf, sG.rf⟩
  by_cases hl : a < nn
  · obtain ⟨i1, i2, i3⟩ := in_y hl (show nn ≤ 40 by clear Q QG; omega)
    replace Q := (Q.2 i1).2 i2
    replace QG := (QG.2 i1).2 i3
    by_cases hb1 : s_lt b 0
    · exact no (Q.1 hb1) (QG.1 hb1)
    · have hb1' : s_le 0 b := by
        rw [b_neg hb] at hb1
        rw [b_pos hb]
        clear Q QG
        omega
      replace Q := Q.2 hb1'
      replace QG := QG.2 hb1'
      by_cases hb2 : s_lt 20 b
      · exact no (Q.2 hb2) (QG.1 hb2)
      · have hb2' : s_le b 20 := by
          rw [b_ltc2 hb (by decide)] at hb2
          rw [b_lec2 hb (by decide)]
          clear Q QG
          omega
        have hb20 : b ≤ 1000 := by
          rw [b_lec2 hb (by decide)] at hb2'
          rw [b_pos hb] at hb1'
          clear Q QG
          omega
        obtain ⟨Fp, cp, Q1, Q2⟩ := Q.1 hb2'
        obtain ⟨n1, Gp, dp, QG1, QG2⟩ := QG.2 hb2'
        clear Q QG
        obtain ⟨nw, w1, ⟨w2, w2a, w2b⟩, w3, w4, w5, -, w6⟩ := plan2 h hl cp dp
        have hS : S0 (F 2 13) := h.2.2.2.1.1.1.1
        have hS' : 53 ≤ F 2 13 ∧ (F 2 13 + 4 ≤ 152 ∨ 160 ≤ F 2 13) ∧ F 2 13 + 4 ≤ 164 := by clear Q1 Q2 QG1 QG2; unfold S0 at hS; omega
        rcases w6 with ⟨k, k0, k1, k2, -, k4, k5⟩ | ⟨k1, k2, k4⟩
        · have hk1 : k = n1 := by cases k2; rfl
          subst hk1
          rw [k4] at Q1
          obtain ⟨F2, hk, mF, -, hRF⟩ := Q1 (by rw [b_le (by decide) (by clear Q1 Q2 QG1 QG2; omega)]; exact Nat.zero_le _)
          obtain ⟨G2, hk2, n3, G3, d3, y1, y2⟩ := QG1 (by rw [b_le (by decide) (by clear Q1 Q2 QG1 QG2; omega)]; exact Nat.zero_le _)
          clear Q1 Q2 QG1 QG2
          obtain ⟨r2, t1, t2, t3, t4, t5, t6, t7⟩ := w2.kept hk hk2
          rw [w3] at r2 t1 t5
          generalize hq : F 2 13 = q at *
          generalize hst : F q 2 = s at *
          generalize hup : F q 1 = up at *
          have e1 : F2 q 1 = up := (t1 0 1 (by decide)).trans ((w4 1).trans hup)
          have e2 : F2 q 2 = s := (t1 0 2 (by decide)).trans ((w4 2).trans hst)
          have hm2 : mn G2 nn L E := w2.2.2.1.1.eq (t4 9 (by decide) (by decide)) (fun p i h1 h2 => t3 p i (by simp; omega))
          have hmc2 : mcc G2 C N := w2.2.2.1.2.1.eq (t4 9 (by decide) (by decide)) (fun p i h1 h2 => t3 p i (by simp; omega))
          have hu2 : up < 2 ^ L := by rw [← e1]; exact t5.2.1.1
          have hs2 : s < 2 ^ L := by rw [← e2]; exact t5.2.2.1.1
          obtain ⟨mG, G4, o1, o2, -, hRG⟩ := s_phases0 (st := bts s) hN h.1.2.1 h.1.2.2.1 (Or.inl hl) (by omega) hm2 hmc2 (fun l hl => by have := mst_sc (t5.2.2.1.2 l hl); rw [e2] at this; exact this) d3
          have hk2' : ∀ p i, p ≠ 51 → ¬ rg p → F2 p i = Fp p i := t2
          -- the rounds
          have lp : ∀ (m i : Nat), i + m = k → ∀ (nF nG : Nat) (F5 G5 : fx_F), Rn nF k_T_change 54 [(2, 2), (0, a), (0, b), (0, i)] [] F5 v F' → Rn nG k_M_goPhases 28 [(2, 175), (3, 0), (0, b), (0, i)] [] G5 (0, n3) G3 → sc F5 q (G5 176) nn L E → F5 q 1 = pu L E (bts s) up nw i → F5 q 2 = s → rcI F5 nn L E 24 → fxo [24, 25, 26, 27, 28, 29, q, q + 1, q + 3, q + 4, 50] F2 F5 → fxo [176, 188, 189, 190, 191, 192, 193, 196, 197, 202, 203] G2 G5 → (∀ l, l < L → G5 190 l = ue E (bts nw) l) → v = (0, n3) ∧ ∃ F6, F' = fu F6 q 0 a ∧ sc F6 q (G3 176) nn L E ∧ rcI F6 nn L E 24 ∧ fxo [24, 25, 26, 27, 28, 29, q, q + 1, q + 3, q + 4, 50] F2 F6 ∧ fxo [176, 188, 189, 190, 191, 192, 193, 196, 197, 202, 203] G2 G3 := by
            intro m
            induction m with
            | zero =>
              intro i hi nF nG F5 G5 hF5 hG5 hsc u1 u2 hrc oF oG hw
              have hik : i = k := by omega
              subst hik
              have e213 : F5 2 13 = q := (oF 2 13 (by simp; omega)).trans r2
              have e484 : F5 48 4 = i := by rw [oF 48 4 (by simp; omega), hk2' 48 4 (by decide) (by unfold rg; omega)]; exact k4
              obtain ⟨x1, x2⟩ := (q_T_change_54 hF5).1 (by rw [e484, b_le (by omega) (by omega)]; exact Nat.le_refl _)
              rw [e213, fu_p (show 48 ≠ q by omega), e484] at x1
              rw [e213] at x2
              have hmp : mpi G5 nn L E (bts s) (pu L E (bts s) up nw i) nw := ⟨hm2.keep oG (by decide) (by decide) (by decide) (by decide), fun l hl => by have := mst_sc (hsc.2.2.1.2 l hl); rw [u2] at this; exact this, by rw [← u1]; exact hsc.2.1.2, hw⟩
              rcases s_round hN hu2 w1.1 (by omega) hmp hG5 with ⟨x1', x2', x3'⟩ | ⟨x1', x2', x3', x4'⟩ | ⟨x1', _⟩
              · cases x2'
                subst x3'
                exact ⟨x1, F5, x2, hsc, hrc, oF, oG⟩
              · exact absurd k1.1 x1'
              · exact absurd k1.1 x1'
            | succ m ih =>
              intro i hi nF nG F5 G5 hF5 hG5 hsc u1 u2 hrc oF oG hw
              have hik : i < k := by omega
              have e213 : F5 2 13 = q := (oF 2 13 (by simp; omega)).trans r2
              have e484 : F5 48 4 = k := by rw [oF 48 4 (by simp; omega), hk2' 48 4 (by decide) (by unfold rg; omega)]; exact k4
              have e49 : F5 49 i = pt L E (bts s) up nw i := by rw [oF 49 i (by simp; omega), hk2' 49 i (by decide) (by unfold rg; omega)]; exact k5 i hik
              have Q := q_T_change_54 hF5
              rw [e484, e213] at Q
              obtain ⟨n1, F7, c7, mF', _, hRF'⟩ := ((Q.2 (by rw [b_lt (by clear Q; omega) (by clear Q; omega)]; exact hik)).2 (by rw [b_le (by decide) (by clear Q; omega)]; exact Nat.zero_le _)).2 (by rw [b_lt (by clear Q; omega) (by clear Q; omega)]; exact hik)
              clear Q
              have hpu := @pu_lt L E (bts s) up nw hu2 i
              have hpt : pt L E (bts s) up nw i < 2 ^ L := tkl_lt
              rw [fu_p (show 2 ≠ q by omega), e213, u1, e49, b_xor (k := L) (by omega) hpu hpt, ← pu_s] at c7
              rw [b_add (show i + 1 < 4294967296 by omega)] at hRF'
              have hmG5 : mn G5 nn L E := hm2.keep oG (by decide) (by decide) (by decide) (by decide)
              have hmp : mpi G5 nn L E (bts s) (pu L E (bts s) up nw i) nw := ⟨hmG5, fun l hl => by have := mst_sc (hsc.2.2.1.2 l hl); rw [u2] at this; exact this, by rw [← u1]; exact hsc.2.1.2, hw⟩
              rcases s_round hN hu2 w1.1 (by omega) hmp hG5 with ⟨x1', _⟩ | ⟨x1', x2', _⟩ | ⟨x1', x2', mG', G6, n4, G7, _, y2, y3, y4, y5, y6, y7⟩
              · exact absurd x1' (k1.2 i hik).1
              · exact absurd x2' (k1.2 i hik).2
              · have hsc6 : sc (fu F5 q 1 (pu L E (bts s) up nw (i + 1))) q (G6 176) nn L E := by
                  refine sc_set hsc ?_ (fu_i (by decide)) ⟨?_, ?_⟩ ⟨?_, fun l hl2 => ?_⟩ (fun t j h1 h2 => fu_p (by omega)) (fun j h1 h2 => y3 j (Or.inr (by omega)))
                  · rw [fu_i (by decide), y3 40 (Or.inr (by decide))]; exact hsc.1
                  · rw [fu_same]; exact pu_lt hu2 (i + 1)
                  · rw [fu_same]; exact y4
                  · rw [fu_i (show 2 ≠ 1 by decide)]; exact hsc.2.2.1.1
                  · rw [fu_i (show 2 ≠ 1 by decide), y3 l (Or.inl (by omega))]; exact hsc.2.2.1.2 l hl2
                have of : ∀ p j, p ≠ q → fu F5 q 1 (pu L E (bts s) up nw (i + 1)) p j = Fp p j ∨ rg p ∨ p = 51 ∨ p ∈ [24, 25, 26, 27, 28, 29, q, q + 1, q + 3, q + 4, 50] := fun p j hp => by
                  by_cases z : p ∈ [24, 25, 26, 27, 28, 29, q, q + 1, q + 3, q + 4, 50]
                  · exact Or.inr (Or.inr (Or.inr z))
                  · by_cases z2 : p = 51 ∨ rg p
                    · rcases z2 with z2 | z2
                      · exact Or.inr (Or.inr (Or.inl z2))
                      · exact Or.inr (Or.inl z2)
                    · refine Or.inl ?_
                      rw [fu_p hp, oF p j z, hk2' p j (fun w => z2 (Or.inl w)) (fun w => z2 (Or.inr w))]
                have lo : ∀ p j, 3 ≤ p → p ≤ 9 → fu F5 q 1 (pu L E (bts s) up nw (i + 1)) p j = Fp p j := fun p j h1 h2 => by
                  rw [fu_p (by omega), oF p j (by simp; omega), hk2' p j (by omega) (by unfold rg; omega)]
                obtain ⟨w, z1, z2, z3, z4, z5, z6, z7, z8, z9⟩ := s_steps2 hN (S0_sok hS) h.1.2.2.2 hb20 (w2.2.1.1.eq lo) (w2.2.1.2.1.eq lo) ((lo 3 3 (by decide) (by decide)).trans w2.2.1.2.2.2) (hrc.eq (fun t j ht => fu_p (by omega))) (hmG5.keep y2 (by decide) (by decide) (by decide) (by decide)) (by
                  rw [y2 180 _ (by decide), y2 175 _ (by decide), oG 180 _ (by decide), oG 175 _ (by decide), t3 180 _ (by decide), t4 9 (by decide) (by decide)]
                  exact w2.2.2.1.2.2) hsc6 c7 y6
                refine ih (i + 1) (by omega) mF' mG' F7 G7 hRF' y7 z3 ?_ ?_ z9 ?_ ?_ (fun l hl2 => ?_)
                · rw [z7, fu_same]
                · rw [z8, fu_i (by decide)]; exact u2
                · exact (oF.wr (by simp)).tr z4
                · exact (oG.tr (y2.mono (by decide))).tr (z5.mono (by decide))
                · rw [z5 190 _ (by decide), y2 190 _ (by decide)]; exact hw l hl2
          have hsc4 : sc F2 q (G4 176) nn L E := sc_congr t5 hL (fun _ _ => rfl) (fun _ _ => ⟨rfl, rfl, rfl, rfl⟩) (fun i _ => o1 176 i (by decide))
          obtain ⟨x1, F6, x2, x3, x4, x5, x6⟩ := lp k 0 (Nat.zero_add k) mF mG F2 G4 hRF hRG hsc4 e1 e2 t6 fxo.rf (o1.mono (by decide)) (fun l hl2 => (o2 l hl2).trans (nwb_ue w1 hl2))
          refine ⟨x1.trans y1.symm, ?_⟩
          subst x2
          subst y2
          rw [w3] at hk
          have := w2.act (F' := fu F6 q 0 a) (G' := fu G3 176 40 a) (by rw [w3]; exact hk) hk2 (fun p i h1 h2 => ?_) (x4.eq (fun t i ht => fu_p (by omega))) (t7.eq (fun t i ht => ?_)) (fun p i h1 h2 h3 => ?_) (fun i _ => ?_) ?_
          · obtain ⟨z1, z2, z3⟩ := this
            refine ⟨z1, fun p i hp => (z2 p i hp).trans (w2a p i hp), fun p i hp => (z3.1 p i hp).trans (w2b.1 p i hp), fun i hi => (z3.2 i hi).trans (w2b.2 i hi)⟩
          · rw [w3] at h2
            rw [fu_p (by omega)]
            exact x5 p i (by unfold qF at h1; simp; omega)
          · rw [fu_p (by omega)]
            exact x5 _ i (by simp; omega)
          · rw [fu_p h3]
            exact x6 p i (by unfold qG at h1; simp; omega)
          · rw [fu_p (by decide)]
            exact x6 175 _ (by decide)
          · rw [w3]
            refine sc_set x3 ⟨?_, ?_, ?_⟩ (fu_i (by decide)) ⟨?_, fun l hl2 => ?_⟩ ⟨?_, fun l hl2 => ?_⟩ (fun t i h1 h2 => fu_p (by omega)) (fun i h1 h2 => fu_i (by omega))
            · rw [fu_same, fu_same]
            · rw [fu_same]; omega
            · rw [fu_same]; exact Or.inl hl
            · rw [fu_i (by decide)]; exact x3.2.1.1
            · rw [fu_i (by omega), fu_i (by decide)]; exact x3.2.1.2 l hl2
            · rw [fu_i (by decide)]; exact x3.2.2.1.1
            · rw [fu_i (by omega), fu_i (by decide)]; exact x3.2.2.1.2 l hl2
        · cases k2
          obtain ⟨x1, x2⟩ := Q2 (by rw [k4, b_neg (by decide)]; decide)
          obtain ⟨y1, y2⟩ := QG2 (by rw [b_neg (by decide)]; decide)
          subst x2
          subst y2
          exact ⟨x1.trans y1.symm, w2, w2a, w2b⟩
  · rcases in_n hl ha (show nn ≤ 40 by clear Q QG; omega) with z | ⟨z1, z2, z3⟩
    · exact no (Q.1 z) (QG.1 z)
    · exact no ((Q.2 z1).1 z2) ((QG.2 z1).1 z3)
end CHANGE
end
section
/-! image, back, on both sides -/
section BOX
variable {nn L N R : Nat} {E C : Nat → Nat} {v v2 : fx_V} {F F' F1 G G' G1 : fx_F}
theorem box01 {a : Nat} (ha : a < 4294967296) : a < 2 ∧ s_le 0 a ∧ s_lt a 2 ∧ s_le a 1 ∨ (s_lt a 0 ∨ (s_le 0 a ∧ s_le 2 a ∧ s_lt 1 a)) := by
  rw [b_neg ha, b_pos ha, b_ltc ha (by decide), b_lec ha (by decide), b_ltc2 ha (by decide), b_lec2 ha (by decide)]
  omega
theorem o_image {a : Nat} (ha : a < 4294967296) (h : lr F G nn L E C N R) (hF : Cl k_T_image [(2, 2), (0, a)] F v F') (hG : Cl k_M_image [(2, 175), (0, a)] G v2 G') : v = v2 ∧ lr F' G' nn L E C N R ∧ sF F F' ∧ sG G G' := by
  have hL := h.1.1.2.1
  have hN := h.1.1
  have hn := hN.1
  have hs0 := h.2.2.2.1.2
  obtain ⟨nF, hF⟩ := c_T_image hF
  obtain ⟨nG, hG⟩ := c_M_image hG
  have Q := q_T_image_0 hF
  have QG := q_M_image_0 hG
  have no : v = (0, 4294967295) ∧ F' = F → v2 = (0, 4294967295) ∧ G' = G → v = v2 ∧ lr F' G' nn L E C N R ∧ sF F F' ∧ sG G G' := by
    rintro ⟨x1, x2⟩ ⟨y1, y2⟩
    subst x2
    subst y2
    exact ⟨x1.trans y1.symm, h, sF.rf, sG.rf⟩
  rcases box01 ha with ⟨hb, i1, i2, i3⟩ | z | ⟨z1, z2, z3⟩
  · obtain ⟨F1, c1, n2, F2, c2, x1, x2⟩ := (Q.2 i1).1 i2
    obtain ⟨m, -, hR⟩ := (QG.2 i1).2 i3
    clear Q QG
    have hh := h.2.2.2.1.1
    have hS : S0 (F 2 13) := hh.1.1
    have hS' : 53 ≤ F 2 13 ∧ (F 2 13 + 4 ≤ 152 ∨ 160 ≤ F 2 13) ∧ F 2 13 + 4 ≤ 164 := by unfold S0 at hS; omega
    have h158 : F 158 a = 165 ∨ F 158 a = 170 := by
      have : a = 0 ∨ a = 1 := by omega
      rcases this with e | e
      · subst e; exact Or.inl hh.2.2.2.1.1
      · subst e; exact Or.inr hh.2.2.2.1.2
    have hne : ∀ b, b < 2 → b ≠ a → (F 158 b = 165 ∧ F 158 a = 170) ∨ (F 158 b = 170 ∧ F 158 a = 165) := fun b hb2 hba => by
      have h0 := hh.2.2.2.1.1
      have h1 := hh.2.2.2.1.2
      have e1 : (a = 0 ∧ b = 1) ∨ (a = 1 ∧ b = 0) := by omega
      rcases e1 with ⟨e, e'⟩ | ⟨e, e'⟩
      · subst e; subst e'; exact Or.inr ⟨h1, h0⟩
      · subst e; subst e'; exact Or.inl ⟨h0, h1⟩
    have hap : ∀ t t', t < 5 → t' < 5 → F 158 a + t ≠ F 2 13 + t' := fun t t' ht ht' => by omega
    obtain ⟨-, y2, y3, y4⟩ := s_copy2 hL hap hs0 c1
    have lo : ∀ p i, p < 165 → F1 p i = F p i := fun p i hp => y2 p i (by simp; omega)
    rw [lo 2 13 (by decide)] at c2
    obtain ⟨d1, d2⟩ := s_ccount c2
    subst d1
    cases d2
    subst x2
    -- the reference
    have lp : ∀ (n : Nat) (G2 : fx_F) (l : Nat), Rn n k_M_image 13 [(2, 175), (0, a), (0, l)] [] G2 v2 G' → l ≤ 103 → fxo [205] G G2 → (∀ i, (i < 103 * a ∨ 103 * a + 103 ≤ i) → G2 205 i = G 205 i) → (∀ x, x < l → G2 205 (103 * a + x) = G 176 x) → v2 = (0, npk F (F 2 13)) ∧ fxo [205, 206] G G' ∧ (∀ i, i ≠ a → G' 206 i = G 206 i) ∧ G' 206 a = 1 ∧ (∀ i, (i < 103 * a ∨ 103 * a + 103 ≤ i) → G' 205 i = G 205 i) ∧ ∀ x, x < 103 → G' 205 (103 * a + x) = G 176 x := by
      intro n
      induction n using Nat.strongRecOn with
      | ind n ih =>
        intro G2 l h2 hl ho hA hB
        have Q := q_M_image_13 h2
        rcases Nat.lt_or_ge l 103 with hlt | hge
        · obtain ⟨m, hm, hR⟩ := Q.2 (by rw [b_lt (by clear Q; omega) (by decide)]; exact hlt)
          clear Q
          rw [b_mul (show 103 * a < 4294967296 by omega), b_add (show 103 * a + l < 4294967296 by omega), b_add (show l + 1 < 4294967296 by omega), ho 176 _ (by decide)] at hR
          refine ih m hm _ (l + 1) hR hlt (ho.wr (by decide)) (fun i hi => by rw [fu_i (by omega)]; exact hA i hi) (fun x hx => ?_)
          by_cases e : x = l
          · subst e; rw [fu_same]
          · rw [fu_i (by omega)]; exact hB x (by omega)
        · obtain ⟨n1, G3, c3, z1, z2⟩ := Q.1 (by rw [b_le (by decide) (by clear Q; omega)]; exact hge)
          clear Q
          obtain ⟨w1, w2⟩ := s_mcount (F := F) (q := F 2 13) hn (nn := nn) (L := L) (fun j hj => by
            have := hs0.2.2.2.2 j hj
            unfold pk at *
            simp only [fu_p (show (176 : Nat) ≠ 206 by decide), ho 176 _ (show (176 : Nat) ∉ [205] by decide)]
            exact this) c3
          subst w1
          cases w2
          subst z2
          refine ⟨z1, (ho.mono (by decide)).wr (by decide), fun i hi => ?_, fu_same, fun i hi => ?_, fun x hx => ?_⟩
          · rw [fu_i hi, ho 206 _ (by decide)]
          · rw [fu_p (by decide)]; exact hA i hi
          · rw [fu_p (by decide)]; exact hB x (by omega)
    obtain ⟨u1, u2, u3, u4, u5, u6⟩ := lp m G 0 hR (by decide) fxo.rf (fun _ _ => rfl) (fun x hx => absurd hx (Nat.not_lt_zero _))
    have enp : npk (fu F1 159 a 1) (F 2 13) = npk F (F 2 13) := by
      unfold npk
      refine cnt_congr (fun j _ => ?_)
      show (!(Nat.beq ((fu F1 159 a 1) (F 2 13 + 1) j) 4294967295)) = !(Nat.beq (F (F 2 13 + 1) j) 4294967295)
      rw [fu_p (by omega), lo _ _ (by omega)]
    rw [enp] at x1
    refine ⟨x1.trans u1.symm, ?_⟩
    obtain ⟨h1, ⟨k1, k2, k3, k4⟩, ⟨m1, m2, m3⟩, ⟨⟨⟨a1, a2, a3⟩, b1, c1', d1', e1⟩, s1⟩, ra, rb⟩ := h
    have lo2 : ∀ p i, p < 165 → p ≠ 159 → fu F1 159 a 1 p i = F p i := fun p i hp hp2 => by rw [fu_p hp2]; exact lo p i hp
    have f3 : ∀ p i, 3 ≤ p → p ≤ 9 → fu F1 159 a 1 p i = F p i := fun p i h h2 => lo2 p i (by omega) (by omega)
    have g3 : ∀ p i, 177 ≤ p → p ≤ 185 → G' p i = G p i := fun p i h h2 => u2 p i (by simp; omega)
    have mv : ∀ {q X}, sc F q X nn L E → S0 q → sc (fu F1 159 a 1) q X nn L E := fun {q X} hx hq => sc_congr hx hL (fun i _ => lo2 q i (by unfold S0 at hq; omega) (by unfold S0 at hq; omega)) (fun i _ => ⟨lo2 _ i (by unfold S0 at hq; omega) (by unfold S0 at hq; omega), lo2 _ i (by unfold S0 at hq; omega) (by unfold S0 at hq; omega), lo2 _ i (by unfold S0 at hq; omega) (by unfold S0 at hq; omega), lo2 _ i (by unfold S0 at hq; omega) (by unfold S0 at hq; omega)⟩) (fun _ _ => rfl)
    refine ⟨⟨h1, ⟨k1.eq f3, k2.eq f3, k3.eq f3, (f3 3 3 (by decide) (by decide)).trans k4⟩, ⟨m1.eq (u2 175 9 (by decide)) g3, m2.eq (u2 175 9 (by decide)) g3, by rw [u2 175 9 (by decide), g3 180 _ (by decide) (by decide)]; exact m3⟩, ⟨⟨?_, ?_, fun i hi => ?_, ?_, fun b hb2 => ?_⟩, ?_⟩, ra.eq (fun t i ht => lo2 _ i (by omega) (by omega)), rb.eq (fun t i ht => lo2 _ i (by omega) (by omega))⟩, fun p i hp => ?_, ⟨fun p i hp => u2 p i (by simp; omega), fun i hi => u2 175 i (by decide)⟩⟩
    · rw [lo2 2 13 (by decide) (by decide)]
      exact ⟨a1, fun i hi => by rw [lo2 52 i (by decide) (by decide)]; exact a2 i hi, fun i j hi hj => by rw [lo2 52 i (by decide) (by decide), lo2 52 j (by decide) (by decide)]; exact a3 i j hi hj⟩
    · rw [lo2 51 1 (by decide) (by decide), lo2 51 2 (by decide) (by decide), lo2 51 3 (by decide) (by decide), u2 175 56 (by decide), u2 175 57 (by decide)]; exact b1
    · rw [lo2 51 2 (by decide) (by decide), lo2 51 3 (by decide) (by decide)] at hi
      rw [lo2 51 1 (by decide) (by decide), lo2 52 _ (by decide) (by decide)]
      exact mv (sc_congr (c1' i hi) hL (fun _ _ => rfl) (fun _ _ => ⟨rfl, rfl, rfl, rfl⟩) (fun x _ => u2 204 _ (by decide))) (a2 _ (Nat.mod_lt _ (by decide))).1
    · rw [lo2 158 0 (by decide) (by decide), lo2 158 1 (by decide) (by decide)]; exact d1'
    · rw [lo2 158 b (by decide) (by decide)]
      by_cases e : b = a
      · subst e
        rw [fu_same, u4]
        refine ⟨⟨fun _ => by decide, fun _ => by decide⟩, fun _ => ?_⟩
        refine sc_congr y3 hL (fun i _ => fu_p (by omega)) (fun i _ => ⟨fu_p (by omega), fu_p (by omega), fu_p (by omega), fu_p (by omega)⟩) (fun x hx => u6 x (by omega))
      · obtain ⟨t1, t2⟩ := e1 b hb2
        rw [fu_i e, lo 159 b (by decide), u3 b e]
        refine ⟨t1, fun w => ?_⟩
        have hx := hne b hb2 e
        have : sc F1 (F 158 b) (fun x => G' 205 (103 * b + x)) nn L E := sc_away hL (fun t t' ht ht' => by omega) y2 (sc_congr (t2 w) hL (fun _ _ => rfl) (fun _ _ => ⟨rfl, rfl, rfl, rfl⟩) (fun x hx2 => u5 _ (by omega)))
        exact sc_congr this hL (fun i _ => fu_p (by omega)) (fun i _ => ⟨fu_p (by omega), fu_p (by omega), fu_p (by omega), fu_p (by omega)⟩) (fun _ _ => rfl)
    · rw [lo2 2 13 (by decide) (by decide)]
      exact mv (sc_congr s1 hL (fun _ _ => rfl) (fun _ _ => ⟨rfl, rfl, rfl, rfl⟩) (fun x _ => u2 176 x (by decide))) a1
    · rw [fu_p (by omega)]
      exact y2 p i (by simp; omega)
  · exact no (Q.1 z) (QG.1 z)
  · exact no ((Q.2 z1).2 z2) ((QG.2 z1).1 z3)
theorem o_back {a : Nat} (ha : a < 4294967296) (h : lr F G nn L E C N R) (hF : Cl k_T_back [(2, 2), (0, a)] F v F') (hG : Cl k_M_back [(2, 175), (0, a)] G v2 G') : v = v2 ∧ lr F' G' nn L E C N R ∧ sF F F' ∧ sG G G' := by
  have hL := h.1.1.2.1
  have hN := h.1.1
  have hn := hN.1
  have hs0 := h.2.2.2.1.2
  obtain ⟨nF, hF⟩ := c_T_back hF
  obtain ⟨nG, hG⟩ := c_M_back hG
  have Q := q_T_back_0 hF
  have QG := q_M_back_0 hG
  have no : v = (0, 4294967295) ∧ F' = F → v2 = (0, 4294967295) ∧ G' = G → v = v2 ∧ lr F' G' nn L E C N R ∧ sF F F' ∧ sG G G' := by
    rintro ⟨x1, x2⟩ ⟨y1, y2⟩
    subst x2
    subst y2
    exact ⟨x1.trans y1.symm, h, sF.rf, sG.rf⟩
  rcases box01 ha with ⟨hb, i1, i2, i3⟩ | z | ⟨z1, z2, z3⟩
  · replace Q := (Q.2 i1).2 i2
    replace QG := (QG.2 i1).2 i3
    have hh := h.2.2.2.1.1
    have hS : S0 (F 2 13) := hh.1.1
    have hS' : 53 ≤ F 2 13 ∧ (F 2 13 + 4 ≤ 152 ∨ 160 ≤ F 2 13) ∧ F 2 13 + 4 ≤ 164 := by clear Q QG; unfold S0 at hS; omega
    obtain ⟨e1, e2⟩ := hh.2.2.2.2 a hb
    by_cases e : F 159 a = 0
    · refine no (Q.2 e) (QG.2 ?_)
      by_cases w : G 206 a = 0
      · exact w
      · exact absurd e (e1.mpr w)
    · have hg := e1.mp e
      obtain ⟨F1, c1, n2, F2, c2, x1, x2⟩ := Q.1 e
      obtain ⟨m, -, hR⟩ := QG.1 hg
      clear Q QG
      have hbx := e2 hg
      have h158 : F 158 a = 165 ∨ F 158 a = 170 := by
        have : a = 0 ∨ a = 1 := by omega
        rcases this with e | e
        · subst e; exact Or.inl hh.2.2.2.1.1
        · subst e; exact Or.inr hh.2.2.2.1.2
      have hap : ∀ t t', t < 5 → t' < 5 → F 2 13 + t ≠ F 158 a + t' := fun t t' ht ht' => by omega
      obtain ⟨-, y2, y3, y4⟩ := s_copy2 hL hap hbx c1
      have lo : ∀ p i, (p < F 2 13 ∨ F 2 13 + 4 < p) → F1 p i = F p i := fun p i hp => y2 p i (by simp; omega)
      rw [lo 2 13 (by omega)] at c2
      obtain ⟨d1, d2⟩ := s_ccount c2
      subst d1
      cases d2
      subst x2
      have scn : sc (fu (fu F1 51 2 0) 51 3 0) (F 2 13) (fun x => G 205 (103 * a + x)) nn L E := sc_congr y3 hL (fun i _ => by rw [fu_p (by omega), fu_p (by omega)]) (fun i _ => ⟨by rw [fu_p (by omega), fu_p (by omega)], by rw [fu_p (by omega), fu_p (by omega)], by rw [fu_p (by omega), fu_p (by omega)], by rw [fu_p (by omega), fu_p (by omega)]⟩) (fun _ _ => rfl)
      have lp : ∀ (n : Nat) (G2 : fx_F) (l : Nat), Rn n k_M_back 22 [(2, 175), (0, a), (0, l)] [] G2 v2 G' → l ≤ 103 → fxo [176] G G2 → (∀ x, x < l → G2 176 x = G 205 (103 * a + x)) → v2 = (0, npk (fu (fu F1 51 2 0) 51 3 0) (F 2 13)) ∧ fxo [175, 176] G G' ∧ (∀ i, i ≠ 56 → i ≠ 57 → G' 175 i = G 175 i) ∧ G' 175 56 = 0 ∧ G' 175 57 = 0 ∧ ∀ x, x < 103 → G' 176 x = G 205 (103 * a + x) := by
        intro n
        induction n using Nat.strongRecOn with
        | ind n ih =>
          intro G2 l h2 hl ho hB
          have Q := q_M_back_22 h2
          rcases Nat.lt_or_ge l 103 with hlt | hge
          · obtain ⟨m, hm, hR⟩ := Q.2 (by rw [b_lt (by clear Q; omega) (by decide)]; exact hlt)
            clear Q
            rw [b_mul (show 103 * a < 4294967296 by omega), b_add (show 103 * a + l < 4294967296 by omega), b_add (show l + 1 < 4294967296 by omega), ho 205 _ (by decide)] at hR
            refine ih m hm _ (l + 1) hR hlt (ho.wr (by decide)) (fun x hx => ?_)
            by_cases e : x = l
            · subst e; rw [fu_same]
            · rw [fu_i (by omega)]; exact hB x (by omega)
          · obtain ⟨n1, G3, c3, z1, z2⟩ := Q.1 (by rw [b_le (by decide) (by clear Q; omega)]; exact hge)
            clear Q
            obtain ⟨w1, w2⟩ := s_mcount (F := fu (fu F1 51 2 0) 51 3 0) (q := F 2 13) hn (nn := nn) (L := L) (fun j hj => by
              have := scn.2.2.2.2 j hj
              unfold pk at *
              simp only [fu_p (show (176 : Nat) ≠ 175 by decide)]
              rw [hB _ (by omega), hB _ (by omega), hB _ (by omega), hB _ (by omega), hB _ (by omega)]
              exact this) c3
            subst w1
            cases w2
            subst z2
            refine ⟨z1, ((ho.mono (by decide)).wr (by decide)).wr (by decide), fun i h1 h2 => ?_, ?_, fu_same, fun x hx => ?_⟩
            · rw [fu_i h2, fu_i h1, ho 175 _ (by decide)]
            · rw [fu_i (by decide), fu_same]
            · rw [fu_p (by decide), fu_p (by decide)]; exact hB x (by omega)
      obtain ⟨u1, u2, u3, u4, u5, u6⟩ := lp m G 0 hR (by decide) fxo.rf (fun x hx => absurd hx (Nat.not_lt_zero _))
      refine ⟨x1.trans u1.symm, ?_⟩
      obtain ⟨h1, ⟨k1, k2, k3, k4⟩, ⟨m1, m2, m3⟩, ⟨⟨⟨a1, a2, a3⟩, b1, c1', d1', e1⟩, s1⟩, ra, rb⟩ := h
      have lo2 : ∀ p i, (p < F 2 13 ∨ F 2 13 + 4 < p) → p ≠ 51 → fu (fu F1 51 2 0) 51 3 0 p i = F p i := fun p i hp hp2 => by rw [fu_p hp2, fu_p hp2]; exact lo p i hp
      have f3 : ∀ p i, 3 ≤ p → p ≤ 9 → fu (fu F1 51 2 0) 51 3 0 p i = F p i := fun p i h h2 => lo2 p i (by omega) (by omega)
      have g3 : ∀ p i, 177 ≤ p → p ≤ 185 → G' p i = G p i := fun p i h h2 => u2 p i (by simp; omega)
      have g9 := u3 9 (by decide) (by decide)
      refine ⟨⟨h1, ⟨k1.eq f3, k2.eq f3, k3.eq f3, (f3 3 3 (by decide) (by decide)).trans k4⟩, ⟨m1.eq g9 g3, m2.eq g9 g3, by rw [g9, g3 180 _ (by decide) (by decide)]; exact m3⟩, ⟨⟨?_, ?_, fun i hi => ?_, ?_, fun b hb2 => ?_⟩, ?_⟩, ra.eq (fun t i ht => lo2 _ i (by omega) (by omega)), rb.eq (fun t i ht => lo2 _ i (by omega) (by omega))⟩, fun p i hp => ?_, ⟨fun p i hp => u2 p i (by simp; omega), fun i hi => u3 i (by omega) (by omega)⟩⟩
      · rw [lo2 2 13 (by omega) (by decide)]
        exact ⟨a1, fun i hi => by rw [lo2 52 i (by omega) (by decide)]; exact a2 i hi, fun i j hi hj => by rw [lo2 52 i (by omega) (by decide), lo2 52 j (by omega) (by decide)]; exact a3 i j hi hj⟩
      · have e51 : fu (fu F1 51 2 0) 51 3 0 51 1 = F 51 1 := by rw [fu_i (by decide), fu_i (by decide), lo 51 1 (by omega)]
        have e52 : fu (fu F1 51 2 0) 51 3 0 51 2 = 0 := by rw [fu_i (by decide), fu_same]
        have e53 : fu (fu F1 51 2 0) 51 3 0 51 3 = 0 := fu_same
        rw [e51, e52, e53, u4, u5]
        exact ⟨b1.1, by decide, rfl, rfl⟩
      · rw [show fu (fu F1 51 2 0) 51 3 0 51 2 = 0 by rw [fu_i (by decide), fu_same], show fu (fu F1 51 2 0) 51 3 0 51 3 = 0 from fu_same] at hi
        exact absurd hi (Nat.not_lt_zero _)
      · rw [lo2 158 0 (by omega) (by decide), lo2 158 1 (by omega) (by decide)]; exact d1'
      · have hb158 : F 158 b = 165 ∨ F 158 b = 170 := by
          have : b = 0 ∨ b = 1 := by omega
          rcases this with e | e
          · subst e; exact Or.inl d1'.1
          · subst e; exact Or.inr d1'.2
        obtain ⟨t1, t2⟩ := e1 b hb2
        rw [lo2 158 b (by omega) (by decide), lo2 159 b (by omega) (by decide), u2 206 b (by decide)]
        refine ⟨t1, fun w => ?_⟩
        exact sc_congr (t2 w) hL (fun i _ => lo2 _ i (by omega) (by omega)) (fun i _ => ⟨lo2 _ i (by omega) (by omega), lo2 _ i (by omega) (by omega), lo2 _ i (by omega) (by omega), lo2 _ i (by omega) (by omega)⟩) (fun x _ => u2 205 _ (by decide))
      · rw [lo2 2 13 (by omega) (by decide)]
        exact sc_congr scn hL (fun _ _ => rfl) (fun _ _ => ⟨rfl, rfl, rfl, rfl⟩) (fun x hx => u6 x (by omega))
      · rw [fu_p (by omega), fu_p (by omega)]
        exact lo p i (by omega)
  · exact no (Q.1 z) (QG.1 z)
  · exact no ((Q.2 z1).1 z2) ((QG.2 z1).1 z3)
end BOX
end
section
/-! undo, redo, plan, phase keep the relation -/
section UNDO
variable {nn L N R : Nat} {E C : Nat → Nat} {v v2 : fx_V} {F F' F1 G G' G1 : fx_F}
theorem lr.un (h : lr F G nn L E C N R) (hh : hs F' G' nn L E) (hs0 : sc F' (F' 2 13) (G' 176) nn L E) (hf : unF F F') (hg : unG G G') : lr F' G' nn L E C N R ∧ sF F F' ∧ sG G G' := by
  obtain ⟨h1, ⟨k1, k2, k3, k4⟩, ⟨m1, m2, m3⟩, _, ra, rb⟩ := h
  have f3 : ∀ p i, 3 ≤ p → p ≤ 9 → F' p i = F p i := fun p i h h2 => hf.1 p i (by omega) (by omega) (by omega)
  have g3 : ∀ p i, 177 ≤ p → p ≤ 185 → G' p i = G p i := fun p i h h2 => hg.1 p i (by omega) (by omega) (by omega)
  have g9 := hg.2 9 (by decide) (by decide)
  exact ⟨⟨h1, ⟨k1.eq f3, k2.eq f3, k3.eq f3, (f3 3 3 (by decide) (by decide)).trans k4⟩, ⟨m1.eq g9 g3, m2.eq g9 g3, by rw [g9, g3 180 _ (by decide) (by decide)]; exact m3⟩, ⟨hh, hs0⟩, ra.eq (fun t i ht => hf.1 _ i (by omega) (by omega) (by omega)), rb.eq (fun t i ht => hf.1 _ i (by omega) (by omega) (by omega))⟩, fun p i hp => hf.1 p i (by omega) (by omega) (by omega), ⟨fun p i hp => hg.1 p i (by omega) (by omega) (by omega), fun i hi => hg.2 i (by omega) (by omega)⟩⟩
theorem o_undo (h : lr F G nn L E C N R) (hF : Cl k_T_undo [(2, 2)] F v F') (hG : Cl k_M_undo [(2, 175)] G v2 G') : v = v2 ∧ lr F' G' nn L E C N R ∧ sF F F' ∧ sG G G' := by
  obtain ⟨a, b, c, d, e⟩ := s_undo2 h.1.1 h.2.2.2.1.1 h.2.2.2.1.2 hF hG
  exact ⟨a, h.un b c d e⟩
theorem o_redo (h : lr F G nn L E C N R) (hF : Cl k_T_redo [(2, 2)] F v F') (hG : Cl k_M_redo [(2, 175)] G v2 G') : v = v2 ∧ lr F' G' nn L E C N R ∧ sF F F' ∧ sG G G' := by
  obtain ⟨a, b, c, d, e⟩ := s_redo2 h.1.1 h.2.2.2.1.1 h.2.2.2.1.2 hF hG
  exact ⟨a, h.un b c d e⟩
theorem o_phase {a b : Nat} (ha : a < 4294967296) (hb : b < 4294967296) (h : lr F G nn L E C N R) (hF : Cl k_T_phase [(2, 2), (0, a), (0, b)] F v F') (hG : Cl k_M_phase [(2, 175), (0, a), (0, b)] G v2 G') : v = v2 ∧ lr F' G' nn L E C N R ∧ sF F F' ∧ sG G G' := by
  have hL := h.1.1.2.1
  have hN := h.1.1
  have hn := hN.1
  obtain ⟨nF, hF⟩ := c_T_phase hF
  obtain ⟨nG, hG⟩ := c_M_phase hG
  have Q := q_T_phase_0 hF
  have QG := q_M_phase_0 hG
  rw [h.2.1.1.1, h.2.1.1.2.1] at Q
  rw [h.2.2.1.1.2.1, h.2.2.1.1.2.2.1] at QG
  have no : v = (0, 4294967295) ∧ F' = F → v2 = (0, 4294967295) ∧ G' = G → v = v2 ∧ lr F' G' nn L E C N R ∧ sF F F' ∧ sG G G' := by
    rintro ⟨x1, x2⟩ ⟨y1, y2⟩
    subst x2
    subst y2
    exact ⟨x1.trans y1.symm, h, sF.rf, sG.rf⟩
  by_cases hl : a < nn
  · obtain ⟨i1, i2, i3⟩ := in_y hl (show nn ≤ 40 by clear Q QG; omega)
    replace Q := (Q.2 i1).2 i2
    replace QG := (QG.2 i1).2 i3
    by_cases hl2 : b < L
    · obtain ⟨i1, i2, i3⟩ := in_y hl2 (show L ≤ 40 by clear Q QG; omega)
      obtain ⟨F1, c1, n2, F2, c2, x1, x2⟩ := (Q.2 i1).2 i2
      obtain ⟨n1, G1, d1, QG1, QG2⟩ := (QG.2 i1).2 i3
      clear Q QG
      obtain ⟨nw, w1, w2, w3, w4, w5, -, w6⟩ := plan2 h hl c1 d1
      subst x2
      have hcp : cpl F1 L E (bts (F (F 2 13) 2)) (F (F 2 13) 1) nw := by
        rcases w6 with ⟨k, k0, k1, _, _, k4, k5⟩ | ⟨k1, _, k4⟩
        · exact Or.inl ⟨k, k0, k1, k4, k5⟩
        · exact Or.inr ⟨k1, k4⟩
      obtain ⟨z1, z2⟩ := s_phaseOf hN hl2 hcp c2
      subst z1
      rcases w6 with ⟨k, k0, k1, k2, k3, _, _⟩ | ⟨k1, k2, _⟩
      · have hk1 : k = n1 := by cases k2; rfl
        subst hk1
        obtain ⟨y1, y2⟩ := QG1 (by rw [b_le (by decide) (by clear QG1 QG2; omega)]; exact Nat.zero_le _)
        clear QG1 QG2
        subst y2
        refine ⟨?_, w2⟩
        rcases z2 with ⟨k', j, j1, j2, j3, j4⟩ | ⟨j1, j4⟩
        · have := plr_fun k1 j1
          subst this
          rcases k3 b hl2 with ⟨j', m1, m2, m3⟩ | ⟨m1, m2⟩
          · have := pt_once j3 m2
            subst this
            cases j4
            rw [x1, y1, m3]
          · rw [m1 j j2] at j3; cases j3
        · rcases j1 with ⟨k', j1, j2⟩ | j1
          · have := plr_fun k1 j1
            subst this
            rcases k3 b hl2 with ⟨j', m1, m2, m3⟩ | ⟨m1, m2⟩
            · rw [j2 j' m1] at m2; cases m2
            · cases j4
              rw [x1, y1, m2]
          · exact (plr_plb k1 j1).elim
      · cases k2
        obtain ⟨y1, y2⟩ := QG2 (by rw [b_neg (by decide)]; decide)
        subst y2
        refine ⟨?_, w2⟩
        rcases z2 with ⟨k', j, j1, j2, j3, j4⟩ | ⟨j1, j4⟩
        · exact (plr_plb j1 k1).elim
        · cases j4
          rw [x1, y1]
    · rcases in_n hl2 hb (show L ≤ 40 by clear Q QG; omega) with z | ⟨z1, z2, z3⟩
      · exact no (Q.1 z) (QG.1 z)
      · exact no ((Q.2 z1).1 z2) ((QG.2 z1).1 z3)
  · rcases in_n hl ha (show nn ≤ 40 by clear Q QG; omega) with z | ⟨z1, z2, z3⟩
    · exact no (Q.1 z) (QG.1 z)
    · exact no ((Q.2 z1).1 z2) ((QG.2 z1).1 z3)
end UNDO
end
section
/-! link, length, entry, path keep the relation and agree -/
section WAYS
variable {nn L N R : Nat} {E C : Nat → Nat} {v v2 : fx_V} {F F' F1 G G' G1 : fx_F}
theorem bnd01 {a : Nat} (ha : a < 4294967296) : (a < 2 ∧ s_le 0 a ∧ s_le a 1) ∨ s_lt a 0 ∨ (s_le 0 a ∧ s_lt 1 a) := by
  rcases box01 ha with ⟨h1, h2, _, h3⟩ | h | ⟨h1, _, h2⟩
  · exact Or.inl ⟨h1, h2, h3⟩
  · exact Or.inr (Or.inl h)
  · exact Or.inr (Or.inr ⟨h1, h2⟩)
theorem lr.see (h : lr F G nn L E C N R) (hc : Cl k_Ro_see [(2, 24), (0, F (F 2 13) 1), (0, F (F 2 13) 2)] F v F1) : fxo [24, 25, 29] F F1 ∧ rcs F1 nn L E 24 (F (F 2 13) 1) (F (F 2 13) 2) ∧ rcI F1 nn L E 24 ∧ rcI F1 nn L E 32 := by
  have hb := sc_lt h.1.1 h.2.2.2.1.2
  obtain ⟨-, a2, a3, a4, a5⟩ := s_see2 h.1.1 (by omega) (by omega) (by decide) h.2.1.1 h.2.2.2.2.1.1 h.2.2.2.2.1.2 hc
  exact ⟨a2, a3, ⟨a4, a5⟩, h.2.2.2.2.2.eq (fun t i ht => a2 _ i (by simp; omega))⟩
theorem lr.table (h : lr F G nn L E C N R) (hc : Cl k_Ro_seeTable [(2, 24), (0, F (F 2 13) 1), (0, F (F 2 13) 2)] F v F1) : fxo [24, 25, 26, 27, 28, 29] F F1 ∧ rcs F1 nn L E 24 (F (F 2 13) 1) (F (F 2 13) 2) ∧ ctb F1 nn L E 24 (F (F 2 13) 1) (F (F 2 13) 2) ∧ (∀ c, c < 2 * L → F1 28 c = lod nn L E (bts (F (F 2 13) 2)) (bts (F (F 2 13) 1)) c) ∧ rcI F1 nn L E 24 ∧ rcI F1 nn L E 32 := by
  have hb := sc_lt h.1.1 h.2.2.2.1.2
  obtain ⟨-, a2, a3, a4, a5, a6, a7⟩ := s_seeTable h.1.1 (by omega) (by omega) (by decide) h.2.1.1 h.2.1.2.1 h.2.2.2.2.1.1 h.2.2.2.2.1.2 hc
  exact ⟨a2, a3, a4, a5, ⟨a6, a7⟩, h.2.2.2.2.2.eq (fun t i ht => a2 _ i (by simp; omega))⟩
theorem lr.mgi (h : lr F G nn L E C N R) : mgi G nn L E (bts (F (F 2 13) 2)) (bts (F (F 2 13) 1)) := sc_mgi h.1.1 h.2.2.2.1.2 h.2.2.1.1
/-- the ways' scratch -/
theorem lr.way (h : lr F G nn L E C N R) (hF : fxo [24, 25, 26, 27, 28, 29, 30, 31] F F') (ha : rcI F' nn L E 24) (hb : rcI F' nn L E 32) (hG : fxo [193, 194, 195, 196, 197, 198] G G') : lr F' G' nn L E C N R ∧ sF F F' ∧ sG G G' := h.fr (fun p i hp => hF p i (by unfold qF at hp; simp; omega)) ha hb (fun p i hp _ => hG p i (by unfold qG at hp; simp; omega)) (fun i _ => hG 175 i (by decide))
theorem o_link {a b : Nat} (ha : a < 4294967296) (h : lr F G nn L E C N R) (hF : Cl k_T_link [(2, 2), (0, a), (0, b)] F v F') (hG : Cl k_M_link [(2, 175), (0, a), (0, b)] G v2 G') : v = v2 ∧ lr F' G' nn L E C N R ∧ sF F F' ∧ sG G G' := by
  have hL := h.1.1.2.1
  have hN := h.1.1
  have hn := hN.1
  have hs0 := h.2.2.2.1.2
  obtain ⟨nF, hF⟩ := c_T_link hF
  obtain ⟨nG, hG⟩ := c_M_link hG
  have Q := q_T_link_0 hF
  have QG := q_M_link_0 hG
  rw [h.2.1.1.2.1] at Q
  rw [h.2.2.1.1.2.2.1] at QG
  have eq : ∀ z, v = (0, z) ∧ F' = F → v2 = (0, z) ∧ G' = G → v = v2 ∧ lr F' G' nn L E C N R ∧ sF F F' ∧ sG G G' := by
    rintro z ⟨x1, x2⟩ ⟨y1, y2⟩
    subst x2
    subst y2
    exact ⟨x1.trans y1.symm, h, sF.rf, sG.rf⟩
  by_cases hl : a < L
  · obtain ⟨i1, i2, i3⟩ := in_y hl (show L ≤ 40 by clear Q QG; omega)
    replace Q := (Q.2 i1).2 i2
    replace QG := (QG.2 i1).2 i3
    have hb := sc_lt hN hs0
    have f4 : F 4 (2 * a) = E (2 * a) := (h.2.1.1.2.2 (2 * a) (by clear Q QG; omega)).1
    have f5 : F 5 (2 * a) = E (2 * a + 1) := by
      rw [(h.2.1.1.2.2 (2 * a) (by clear Q QG; omega)).2]
      congr 1
      unfold nf; rw [if_pos (by clear Q QG; omega)]
    rw [b_mul (show 2 * a < 4294967296 by clear Q QG; omega), f4, f5, b_bitl (show F (F 2 13) 1 < 2147483648 by clear Q QG; omega) (show a < 32 by clear Q QG; omega), b_bitl (show F (F 2 13) 2 < 2147483648 by clear Q QG; omega) (show a < 32 by clear Q QG; omega)] at Q
    rw [mE h.2.2.1.1 hL hl (show 0 ≤ 1 by decide), mE h.2.2.1.1 hL hl (show 1 ≤ 1 by decide), b_add (show 20 + a < 4294967296 by clear Q QG; omega), b_add0 (show a < 4294967296 from ha), hs0.2.1.2 a hl, hs0.2.2.1.2 a hl] at QG
    by_cases b4 : b < 4
    · have hb4 : b = 0 ∨ b = 1 ∨ b = 2 ∨ b = 3 := by clear Q QG; omega
      rcases hb4 with e | e | e | e
      · exact eq _ (Q.2.1 e) (QG.2.1 e)
      · exact eq _ (Q.2.2.1 e) (QG.2.2.1 e)
      · have Q2 := Q.2.2.2.1 e
        have QG2 := QG.2.2.2.1 e
        clear Q QG
        unfold ue at QG2
        replace QG2 : v2 = (0, if (F (F 2 13) 1).testBit a = true then E (2 * a + 1) else E (2 * a)) ∧ G' = G := QG2
        by_cases w : (F (F 2 13) 1).testBit a = true
        · rw [if_pos w] at Q2 QG2
          exact eq _ (Q2.2 rfl) QG2
        · rw [if_neg w] at Q2 QG2
          exact eq _ (Q2.1 (by decide)) QG2
      · have Q2 := Q.2.2.2.2.1 e
        have QG2 := QG.2.2.2.2.1 e
        clear Q QG
        by_cases w : (F (F 2 13) 2).testBit a = true
        · rw [if_pos w] at Q2 QG2
          exact eq _ (Q2.2 rfl) QG2
        · rw [if_neg w] at Q2 QG2
          exact eq _ (Q2.1 (by decide)) QG2
    · exact eq _ (Q.1 (Or.inr (by clear Q QG; omega))) (QG.1 (Or.inr (by clear Q QG; omega)))
  · rcases in_n hl ha (show L ≤ 40 by clear Q QG; omega) with z | ⟨z1, z2, z3⟩
    · exact eq _ (Q.1 z) (QG.1 z)
    · exact eq _ ((Q.2 z1).1 z2) ((QG.2 z1).1 z3)
theorem o_length {a b : Nat} (ha : a < 4294967296) (hb : b < 4294967296) (h : lr F G nn L E C N R) (hF : Cl k_T_length [(2, 2), (0, a), (0, b)] F v F') (hG : Cl k_M_length [(2, 175), (0, a), (0, b)] G v2 G') : v = v2 ∧ lr F' G' nn L E C N R ∧ sF F F' ∧ sG G G' := by
  have hL := h.1.1.2.1
  have hN := h.1.1
  have hn := hN.1
  obtain ⟨nF, hF⟩ := c_T_length hF
  obtain ⟨nG, hG⟩ := c_M_length hG
  have Q := q_T_length_0 hF
  have QG := q_M_length_0 hG
  rw [h.2.1.1.1] at Q
  rw [h.2.2.1.1.2.1] at QG
  have no : v = (0, 4294967295) ∧ F' = F → v2 = (0, 4294967295) ∧ G' = G → v = v2 ∧ lr F' G' nn L E C N R ∧ sF F F' ∧ sG G G' := by
    rintro ⟨x1, x2⟩ ⟨y1, y2⟩
    subst x2
    subst y2
    exact ⟨x1.trans y1.symm, h, sF.rf, sG.rf⟩
  by_cases hl : a < nn
  · obtain ⟨i1, i2, i3⟩ := in_y hl (show nn ≤ 40 by clear Q QG; omega)
    replace Q := (Q.2 i1).2 i2
    replace QG := (QG.2 i1).2 i3
    by_cases hl2 : b < nn
    · obtain ⟨i1, i2, i3⟩ := in_y hl2 (show nn ≤ 40 by clear Q QG; omega)
      obtain ⟨F1, c1, x1, x2⟩ := (Q.2 i1).2 i2
      obtain ⟨G1, d1, QG1, QG2⟩ := (QG.2 i1).2 i3
      clear Q QG
      obtain ⟨t1, t2, t3, t4⟩ := h.see c1
      obtain ⟨-, u1, u2⟩ := s_layGoal hN hl2 h.mgi d1
      rw [b_mul (show b * 20 < 4294967296 by omega), b_mul (show 2 * a < 4294967296 by omega), b_add (show b * 20 + 2 * a < 4294967296 by omega), Nat.mul_comm b 20] at x1
      have ei : i_add (i_add (i_mul 20 b) (i_mul 2 a)) 0 = 20 * b + 2 * a := by
        rw [b_mul (show 20 * b < 4294967296 by omega), b_mul (show 2 * a < 4294967296 by omega), b_add (show 20 * b + 2 * a < 4294967296 by omega), b_add (show 20 * b + 2 * a + 0 < 4294967296 by omega)]; rfl
      rw [ei] at QG1 QG2
      subst x2
      have hr := t2.2.2.2.2 b hl2 (2 * a) (by omega)
      replace hr : (F' 25 (20 * b + 2 * a) ≠ 4294967295 → gd L E (bts (F (F 2 13) 2)) (bts (F (F 2 13) 1)) b (F' 25 (20 * b + 2 * a)) (2 * a)) ∧ ∀ d, gd L E (bts (F (F 2 13) 2)) (bts (F (F 2 13) 1)) b d (2 * a) → F' 25 (20 * b + 2 * a) = d := hr
      obtain ⟨m1, m2, m3⟩ := u2 (2 * a) (by omega)
      replace m1 : G1 193 (20 * b + 2 * a) ≤ 100000 := m1
      replace m2 : G1 193 (20 * b + 2 * a) < 100000 → gd L E (bts (F (F 2 13) 2)) (bts (F (F 2 13) 1)) b (G1 193 (20 * b + 2 * a)) (2 * a) := m2
      have m3' : ∀ d, gd L E (bts (F (F 2 13) 2)) (bts (F (F 2 13) 1)) b d (2 * a) → G1 193 (20 * b + 2 * a) = d := m3
      have key : v = v2 ∧ G' = G1 := by
        rcases Nat.lt_or_ge (G1 193 (20 * b + 2 * a)) 100000 with z | z
        · obtain ⟨y1, y2⟩ := QG2 (by rw [b_lt (by clear QG1 QG2; omega) (by decide)]; exact z)
          rw [x1, y1, hr.2 _ (m2 z)]
          exact ⟨rfl, y2⟩
        · obtain ⟨y1, y2⟩ := QG1 (by rw [b_le (by decide) (by clear QG1 QG2; omega)]; exact z)
          refine ⟨?_, y2⟩
          have e : F' 25 (20 * b + 2 * a) = 4294967295 := by
            by_cases w : F' 25 (20 * b + 2 * a) = 4294967295
            · exact w
            · have a1 := m3' _ (hr.1 w)
              have a2 := gd_lt hN hl2 (hr.1 w)
              clear QG1 QG2
              omega
          rw [x1, y1, e]
      obtain ⟨k1, k2⟩ := key
      subst k2
      exact ⟨k1, h.way (t1.mono (by simp)) t3 t4 (u1.1.mono (by simp))⟩
    · rcases in_n hl2 hb (show nn ≤ 40 by clear Q QG; omega) with z | ⟨z1, z2, z3⟩
      · exact no (Q.1 z) (QG.1 z)
      · exact no ((Q.2 z1).1 z2) ((QG.2 z1).1 z3)
  · rcases in_n hl ha (show nn ≤ 40 by clear Q QG; omega) with z | ⟨z1, z2, z3⟩
    · exact no (Q.1 z) (QG.1 z)
    · exact no ((Q.2 z1).1 z2) ((QG.2 z1).1 z3)
end WAYS
end
section
/-! Paths, loads on both sides -/
section PATH
variable {nn L s p g up R N : Nat} {E C : Nat → Nat} {st u : Nat → Bool} {v v2 : fx_V} {F F' G G' : fx_F}
theorem s_conPath (hN : nt_ok nn L E) (hp : 24 ≤ p) {w i : Nat} (hg : g < nn) (hw : w < nn) (hi : i < 2147483648) (hcn : cn F nn L E) (hr : rcs F nn L E p up s) (ht : ctb F nn L E p up s) (h : Cl k_Ro_channelOnPath [(2, p), (0, w), (0, g), (0, i)] F v F') : F' = F ∧ v = (0, pa nn L E (bts s) (bts up) g w i) := by
  obtain ⟨n, h⟩ := c_Ro_channelOnPath h
  obtain ⟨m, hm2, hR⟩ := q_Ro_channelOnPath_0 h
  have hL := hN.2.1
  have hn := hN.1
  have e0 : i_add (i_add (i_mul g 20) (i_mul 2 w)) 0 = 20 * g + 2 * w := by
    rw [b_mul (show g * 20 < 4294967296 by omega), b_mul (show 2 * w < 4294967296 by omega), b_add (show g * 20 + 2 * w < 4294967296 by omega), b_add (show g * 20 + 2 * w + 0 < 4294967296 by omega)]; omega
  rw [e0, ht g (2 * w) hg (by omega)] at hR
  have lp : ∀ (n k : Nat), Rn n k_Ro_channelOnPath 12 [(2, p), (3, 0), (0, g), (0, i), (0, pa nn L E (bts s) (bts up) g w k), (0, k)] [] F v F' → k ≤ i → k ≤ 20 → F' = F ∧ v = (0, pa nn L E (bts s) (bts up) g w i) := by
    intro n
    induction n using Nat.strongRecOn with
    | ind n ih =>
      intro k h hk hk20
      have Q := q_Ro_channelOnPath_12 h
      have hq := pa_q (nn := nn) (L := L) (E := E) (st := bts s) (u := bts up) (g := g) (w := w) k
      by_cases e : k = i
      · obtain ⟨x1, x2⟩ := Q.1 (by rw [b_le (by clear Q; omega) (by clear Q; omega)]; clear Q; omega)
        exact ⟨x2, by rw [x1, e]⟩
      · replace Q := Q.2 (by rw [b_lt (by clear Q; omega) (by clear Q; omega)]; clear Q; omega)
        have stop : pa nn L E (bts s) (bts up) g w k = 4294967295 → v = (0, pa nn L E (bts s) (bts up) g w k) ∧ F' = F → F' = F ∧ v = (0, pa nn L E (bts s) (bts up) g w i) := by
          clear Q
          rintro z ⟨x1, x2⟩
          have := pa_end z (i - k)
          rw [show k + (i - k) = i by omega] at this
          exact ⟨x2, by rw [x1, this, z]⟩
        rcases Nat.lt_or_ge k 20 with hlt | hge
        · replace Q := Q.2 (by rw [b_lt (by clear Q; omega) (by decide)]; exact hlt)
          by_cases z : pa nn L E (bts s) (bts up) g w k = 4294967295
          · exact stop z (Q.1 z)
          · obtain ⟨m, hm, hR⟩ := Q.2 z
            clear Q
            have hpl : pa nn L E (bts s) (bts up) g w k < 2 * L := (hq.resolve_left z).1
            have hb := bh_le (bts up) (pa nn L E (bts s) (bts up) g w k)
            have hE := (hN.2.2 _ (nf_lt hpl)).1
            have ei : i_add (i_mul g 20) (i_add (i_mul 2 (E (nf (pa nn L E (bts s) (bts up) g w k)))) (bh (bts up) (pa nn L E (bts s) (bts up) g w k))) = 20 * g + (2 * E (nf (pa nn L E (bts s) (bts up) g w k)) + bh (bts up) (pa nn L E (bts s) (bts up) g w k)) := by
              rw [b_mul (show g * 20 < 4294967296 by omega), b_mul (show 2 * E (nf (pa nn L E (bts s) (bts up) g w k)) < 4294967296 by omega), b_add (show 2 * E (nf (pa nn L E (bts s) (bts up) g w k)) + bh (bts up) (pa nn L E (bts s) (bts up) g w k) < 4294967296 by omega), b_add (show g * 20 + (2 * E (nf (pa nn L E (bts s) (bts up) g w k)) + bh (bts up) (pa nn L E (bts s) (bts up) g w k)) < 4294967296 by omega)]; omega
            rw [(hcn.2.2 _ hpl).2, hr.2.2.2.1 _ hpl, ei, ht g _ hg (by omega), b_add (show k + 1 < 4294967296 by omega), show ent nn L E (bts s) (bts up) g (2 * E (nf (pa nn L E (bts s) (bts up) g w k)) + bh (bts up) (pa nn L E (bts s) (bts up) g w k)) = pa nn L E (bts s) (bts up) g w (k + 1) by rw [pa_s, if_neg z]] at hR
            exact ih m hm (k + 1) hR (by omega) (by omega)
        · exact stop (pa_20 hN hg (by clear Q; omega)) (Q.1 (by rw [b_le (by decide) (by clear Q; omega)]; exact hge))
  exact lp m 0 hR (Nat.zero_le _) (Nat.zero_le _)
theorem s_pathAt (hN : nt_ok nn L E) {w i : Nat} (hg : g < nn) (hw : w < nn) (hi : i < 2147483648) (hI : mgi G nn L E st u) (ht : mtb G nn L E st u) (h : Cl k_M_pathAt [(2, 175), (0, w), (0, g), (0, i)] G v G') : G' = G ∧ v = (0, pa nn L E st u g w i) := by
  obtain ⟨n, h⟩ := c_M_pathAt h
  obtain ⟨m, hm2, hR⟩ := q_M_pathAt_0 h
  have hL := hN.2.1
  have hn := hN.1
  obtain ⟨hm, hst, hu⟩ := hI
  have ix : ∀ x t, x < nn → t < 2 → i_add (i_add (i_mul 20 g) (i_mul 2 x)) t = 20 * g + (2 * x + t) := fun x t hx ht => by
    rw [b_mul (show 20 * g < 4294967296 by omega), b_mul (show 2 * x < 4294967296 by omega), b_add (show 20 * g + 2 * x < 4294967296 by omega), b_add (show 20 * g + 2 * x + t < 4294967296 by omega), Nat.add_assoc]
  rw [ix w 0 hw (by decide), ht g _ hg (by omega)] at hR
  have lp : ∀ (n k t : Nat), Rn n k_M_pathAt 24 [(2, 175), (3, 0), (0, g), (0, i), (3, 0), (0, t), (0, pa nn L E st u g w k), (0, k)] [] G v G' → k ≤ i → k ≤ 20 → (pa nn L E st u g w k ≠ 4294967295 → t ≤ bh u (pa nn L E st u g w k)) → G' = G ∧ v = (0, pa nn L E st u g w i) := by
    intro n
    induction n using Nat.strongRecOn with
    | ind n ih =>
      intro k t h hk hk20 htb
      have Q := q_M_pathAt_24 h
      have hq := pa_q (nn := nn) (L := L) (E := E) (st := st) (u := u) (g := g) (w := w) k
      by_cases e : k = i
      · obtain ⟨x1, x2⟩ := Q.1 (by rw [b_le (by clear Q; omega) (by clear Q; omega)]; clear Q; omega)
        exact ⟨x2, by rw [x1, e]⟩
      · replace Q := Q.2 (by rw [b_lt (by clear Q; omega) (by clear Q; omega)]; clear Q; omega)
        by_cases z : pa nn L E st u g w k = 4294967295
        · obtain ⟨x1, x2⟩ := Q.1 (by rw [z, b_neg (by decide)]; decide)
          clear Q
          have := pa_end z (i - k)
          rw [show k + (i - k) = i by omega] at this
          exact ⟨x2, by rw [x1, this, z]⟩
        · have hpl : pa nn L E st u g w k < 2 * L := (hq.resolve_left z).1
          have hk19 : k < 19 := by
            rcases Nat.lt_or_ge k 19 with y | y
            · exact y
            · exact absurd (pa_20 hN hg y) z
          replace Q := Q.2 (by rw [b_pos (by clear Q; omega)]; clear Q; omega)
          have hb := bh_le u (pa nn L E st u g w k)
          have hE := (hN.2.2 _ (nf_lt hpl)).1
          have htb := htb z
          have upc : E (nf (pa nn L E st u g w k)) = G 176 (20 + pa nn L E st u g w k / 2) ↔ isup u (pa nn L E st u g w k) = true := by rw [hu (pa nn L E st u g w k / 2) (by clear Q; omega)]; exact isup_ue hN hpl
          have bu : (E (nf (pa nn L E st u g w k)) = G 176 (20 + pa nn L E st u g w k / 2) → bh u (pa nn L E st u g w k) = 0) ∧ (E (nf (pa nn L E st u g w k)) ≠ G 176 (20 + pa nn L E st u g w k / 2) → bh u (pa nn L E st u g w k) = 1) := by
            unfold bh
            exact ⟨fun z => by rw [if_pos (upc.mp z)], fun z => by rw [if_neg (fun y => z (upc.mpr y))]⟩
          rw [mTo hm hL hpl, b_div (show pa nn L E st u g w k < 2147483648 by clear Q; omega) (by decide) (by decide), b_add (show 20 + pa nn L E st u g w k / 2 < 4294967296 by clear Q; omega), ix _ 1 hE (by decide), ix _ 0 hE (by decide), ht g _ hg (show 2 * E (nf (pa nn L E st u g w k)) + 1 < 2 * nn by clear Q; omega), ht g _ hg (show 2 * E (nf (pa nn L E st u g w k)) + 0 < 2 * nn by clear Q; omega), b_add (show k + 1 < 4294967296 by clear Q; omega)] at Q
          have hs1 := pa_s (nn := nn) (L := L) (E := E) (st := st) (u := u) (g := g) (w := w) (i := k)
          rw [if_neg z] at hs1
          have go : ∀ t', bh u (pa nn L E st u g w k) = t' → ((E (nf (pa nn L E st u g w k)) ≠ g → ∃ m, m < n ∧ Rn m k_M_pathAt 24 [(2, 175), (3, 0), (0, g), (0, i), (3, 0), (0, t'), (0, ent nn L E st u g (2 * E (nf (pa nn L E st u g w k)) + t')), (0, k + 1)] [] G v G') ∧ (E (nf (pa nn L E st u g w k)) = g → ∃ m, m < n ∧ Rn m k_M_pathAt 24 [(2, 175), (3, 0), (0, g), (0, i), (3, 0), (0, t'), (0, 4294967295), (0, k + 1)] [] G v G')) → G' = G ∧ v = (0, pa nn L E st u g w i) := by
            clear Q
            intro t' ht' Q
            rw [ht'] at hs1
            have htn : pa nn L E st u g w (k + 1) ≠ 4294967295 → t' ≤ bh u (pa nn L E st u g w (k + 1)) := fun y => by
              rcases ent_q (nn := nn) (L := L) (E := E) (st := st) (u := u) (g := g) (x := 2 * E (nf (pa nn L E st u g w k)) + t') with y2 | ⟨_, y2, _⟩
              · exact absurd (hs1.trans y2) y
              · rw [← hs1] at y2
                clear Q
                omega
            by_cases eg : E (nf (pa nn L E st u g w k)) = g
            · obtain ⟨m, hm, hR⟩ := Q.2 eg
              clear Q
              have : ent nn L E st u g (2 * E (nf (pa nn L E st u g w k)) + t') = 4294967295 := tst_goal (by omega)
              rw [this] at hs1
              exact ih m hm (k + 1) t' (by rw [hs1]; exact hR) (by omega) (by omega) htn
            · obtain ⟨m, hm, hR⟩ := Q.1 eg
              clear Q
              exact ih m hm (k + 1) t' (by rw [hs1]; exact hR) (by omega) (by omega) htn
          by_cases hup : E (nf (pa nn L E st u g w k)) = G 176 (20 + pa nn L E st u g w k / 2)
          · exact go 0 (bu.1 hup) ((Q.2 hup).2 (by have := bu.1 hup; clear Q; omega))
          · by_cases ht1 : t = 1
            · exact go 1 (bu.2 hup) ((Q.1 hup).1 ht1)
            · exact go 1 (bu.2 hup) ((Q.1 hup).2 ht1)
  exact lp m 0 0 hR (Nat.zero_le _) (Nat.zero_le _) (fun _ => Nat.zero_le _)
theorem o_entry {a b c : Nat} (ha : a < 4294967296) (hb : b < 4294967296) (hc : c < 4294967296) (h : lr F G nn L E C N R) (hF : Cl k_T_entry [(2, 2), (0, a), (0, b), (0, c)] F v F') (hG : Cl k_M_entry [(2, 175), (0, a), (0, b), (0, c)] G v2 G') : v = v2 ∧ lr F' G' nn L E C N R ∧ sF F F' ∧ sG G G' := by
  have hL := h.1.1.2.1
  have hN := h.1.1
  have hn := hN.1
  obtain ⟨nF, hF⟩ := c_T_entry hF
  obtain ⟨nG, hG⟩ := c_M_entry hG
  have Q := q_T_entry_0 hF
  have QG := q_M_entry_0 hG
  rw [h.2.1.1.1] at Q
  rw [h.2.2.1.1.2.1] at QG
  have no : v = (0, 4294967295) ∧ F' = F → v2 = (0, 4294967295) ∧ G' = G → v = v2 ∧ lr F' G' nn L E C N R ∧ sF F F' ∧ sG G G' := by
    rintro ⟨x1, x2⟩ ⟨y1, y2⟩
    subst x2
    subst y2
    exact ⟨x1.trans y1.symm, h, sF.rf, sG.rf⟩
  by_cases hl : a < nn
  · obtain ⟨i1, i2, i3⟩ := in_y hl (show nn ≤ 40 by clear Q QG; omega)
    replace Q := (Q.2 i1).2 i2
    replace QG := (QG.2 i1).2 i3
    by_cases hl2 : b < nn
    · obtain ⟨i1, i2, i3⟩ := in_y hl2 (show nn ≤ 40 by clear Q QG; omega)
      replace Q := (Q.2 i1).2 i2
      replace QG := (QG.2 i1).2 i3
      rcases bnd01 hc with ⟨c2, j1, j2⟩ | z | ⟨z1, z2⟩
      · obtain ⟨F1, c1, x1, x2⟩ := (Q.2 j1).1 j2
        obtain ⟨G1, d1, y1, y2⟩ := (QG.2 j1).2 j2
        clear Q QG
        obtain ⟨t1, t2, t3, t4, t5, t6⟩ := h.table c1
        obtain ⟨-, u1, u2, -⟩ := s_mlayTable hN h.mgi d1
        rw [b_mul (show a * 20 < 4294967296 by omega), b_mul (show 2 * b < 4294967296 by omega), b_add (show a * 20 + 2 * b < 4294967296 by omega), b_add (show a * 20 + 2 * b + c < 4294967296 by omega), show a * 20 + 2 * b + c = 20 * a + (2 * b + c) by omega] at x1
        rw [b_mul (show 20 * a < 4294967296 by omega), b_mul (show 2 * b < 4294967296 by omega), b_add (show 20 * a + 2 * b < 4294967296 by omega), b_add (show 20 * a + 2 * b + c < 4294967296 by omega), Nat.add_assoc, u2 a _ hl (by omega)] at y1
        have := t3 a (2 * b + c) hl (by omega)
        replace this : F1 26 (20 * a + (2 * b + c)) = ent nn L E (bts (F (F 2 13) 2)) (bts (F (F 2 13) 1)) a (2 * b + c) := this
        rw [this] at x1
        subst x2
        subst y2
        exact ⟨x1.trans y1.symm, h.way (t1.mono (by simp)) t5 t6 (u1.mono (by simp))⟩
      · exact no (Q.1 z) (QG.1 z)
      · exact no ((Q.2 z1).2 z2) ((QG.2 z1).1 z2)
    · rcases in_n hl2 hb (show nn ≤ 40 by clear Q QG; omega) with z | ⟨z1, z2, z3⟩
      · exact no (Q.1 z) (QG.1 z)
      · exact no ((Q.2 z1).1 z2) ((QG.2 z1).1 z3)
  · rcases in_n hl ha (show nn ≤ 40 by clear Q QG; omega) with z | ⟨z1, z2, z3⟩
    · exact no (Q.1 z) (QG.1 z)
    · exact no ((Q.2 z1).1 z2) ((QG.2 z1).1 z3)
theorem o_path {a b c : Nat} (ha : a < 4294967296) (hb : b < 4294967296) (hc : c < 4294967296) (h : lr F G nn L E C N R) (hF : Cl k_T_path [(2, 2), (0, a), (0, b), (0, c)] F v F') (hG : Cl k_M_path [(2, 175), (0, a), (0, b), (0, c)] G v2 G') : v = v2 ∧ lr F' G' nn L E C N R ∧ sF F F' ∧ sG G G' := by
  have hL := h.1.1.2.1
  have hN := h.1.1
  have hn := hN.1
  obtain ⟨nF, hF⟩ := c_T_path hF
  obtain ⟨nG, hG⟩ := c_M_path hG
  have Q := q_T_path_0 hF
  have QG := q_M_path_0 hG
  rw [h.2.1.1.1] at Q
  rw [h.2.2.1.1.2.1] at QG
  have no : v = (0, 4294967295) ∧ F' = F → v2 = (0, 4294967295) ∧ G' = G → v = v2 ∧ lr F' G' nn L E C N R ∧ sF F F' ∧ sG G G' := by
    rintro ⟨x1, x2⟩ ⟨y1, y2⟩
    subst x2
    subst y2
    exact ⟨x1.trans y1.symm, h, sF.rf, sG.rf⟩
  by_cases hl : a < nn
  · obtain ⟨i1, i2, i3⟩ := in_y hl (show nn ≤ 40 by clear Q QG; omega)
    replace Q := (Q.2 i1).2 i2
    replace QG := (QG.2 i1).2 i3
    by_cases hl2 : b < nn
    · obtain ⟨i1, i2, i3⟩ := in_y hl2 (show nn ≤ 40 by clear Q QG; omega)
      replace Q := (Q.2 i1).2 i2
      replace QG := (QG.2 i1).2 i3
      rcases Nat.lt_or_ge c 2147483648 with z | z
      · obtain ⟨F1, c1, n2, F2, c2, x1, x2⟩ := Q.1 (by rw [b_pos hc]; exact z)
        obtain ⟨G1, d1, m2, G2, d2, y1, y2⟩ := QG.1 (by rw [b_pos hc]; exact z)
        clear Q QG
        obtain ⟨t1, t2, t3, t4, t5, t6⟩ := h.table c1
        obtain ⟨-, u1, u2, -⟩ := s_mlayTable hN h.mgi d1
        obtain ⟨w1, w2⟩ := s_conPath hN (by decide) hl2 hl z (h.2.1.1.keep t1 (by decide) (by decide) (by decide)) t2 t3 c2
        obtain ⟨w3, w4⟩ := s_pathAt hN hl2 hl z (h.mgi.keep u1 (by decide) (by decide) (by decide) (by decide) (by decide)) u2 d2
        subst w1
        subst w3
        cases w2
        cases w4
        subst x2
        subst y2
        exact ⟨x1.trans y1.symm, h.way (t1.mono (by simp)) t5 t6 (u1.mono (by simp))⟩
      · exact no (Q.2 (by rw [b_neg hc]; exact z)) (QG.2 (by rw [b_neg hc]; exact z))
    · rcases in_n hl2 hb (show nn ≤ 40 by clear Q QG; omega) with z | ⟨z1, z2, z3⟩
      · exact no (Q.1 z) (QG.1 z)
      · exact no ((Q.2 z1).1 z2) ((QG.2 z1).1 z3)
  · rcases in_n hl ha (show nn ≤ 40 by clear Q QG; omega) with z | ⟨z1, z2, z3⟩
    · exact no (Q.1 z) (QG.1 z)
    · exact no ((Q.2 z1).1 z2) ((QG.2 z1).1 z3)
end PATH
end
section
/-! load, heaviest on both sides -/
section LOAD
variable {nn L s p g up R N : Nat} {E C : Nat → Nat} {st u : Nat → Bool} {v v2 : fx_V} {F F' G G' : fx_F}
theorem s_layLoads (hN : nt_ok nn L E) (hI : mgi G nn L E st u) (h : Cl k_M_layLoads [(2, 175)] G v G') : v = (2, 0) ∧ fxo [193, 196, 197, 198] G G' ∧ ∀ c, c < 2 * L → G' 198 c = lod nn L E st u c := by
  obtain ⟨n, h⟩ := c_M_layLoads h
  obtain ⟨G0, c0, m, hm2, hR⟩ := q_M_layLoads_0 h
  have hL := hN.2.1
  have hn := hN.1
  obtain ⟨-, o0, t0, -⟩ := s_mlayTable hN hI c0
  have hI0 := hI.keep o0 (by decide) (by decide) (by decide) (by decide) (by decide)
  have kp : ∀ G2 : fx_F, fxo [198] G0 G2 → mgi G2 nn L E st u ∧ mtb G2 nn L E st u := fun G2 ho => ⟨hI0.keep ho (by decide) (by decide) (by decide) (by decide) (by decide), t0.keep ho (by decide)⟩
  let P : Nat → Prop := fun n => ∀ (G2 : fx_F) (w : Nat), Rn n k_M_layLoads 27 [(2, 175), (0, w), (3, 0), (3, 0)] [] G2 v G' → w ≤ nn → fxo [198] G0 G2 → (∀ c, c < 2 * L → G2 198 c = lfr nn L E st u w c) → v = (2, 0) ∧ fxo [198] G0 G' ∧ ∀ c, c < 2 * L → G' 198 c = lod nn L E st u c
  let P2 : Nat → Nat → Prop := fun w n => ∀ (G2 : fx_F) (g : Nat), Rn n k_M_layLoads 37 [(2, 175), (0, w), (0, g), (3, 0)] [] G2 v G' → g ≤ nn → fxo [198] G0 G2 → (∀ c, c < 2 * L → G2 198 c = lto nn L E st u (lfr nn L E st u w) w g c) → v = (2, 0) ∧ fxo [198] G0 G' ∧ ∀ c, c < 2 * L → G' 198 c = lod nn L E st u c
  have l47 : ∀ (w g : Nat), w < nn → g < nn → ∀ (M n : Nat), (∀ m, m < M → P2 w m) → n < M → ∀ (G2 : fx_F) (k : Nat), Rn n k_M_layLoads 47 [(2, 175), (0, w), (0, g), (0, k)] [] G2 v G' → k ≤ 20 → fxo [198] G0 G2 → (∀ c, c < 2 * L → G2 198 c = lpa nn L E st u (lto nn L E st u (lfr nn L E st u w) w g) g w k c) → v = (2, 0) ∧ fxo [198] G0 G' ∧ ∀ c, c < 2 * L → G' 198 c = lod nn L E st u c := by
    intro w g hw hg M n hP
    induction n using Nat.strongRecOn with
    | ind n ih =>
      intro hnM G2 k h hk ho hu
      obtain ⟨ki, kt⟩ := kp G2 ho
      obtain ⟨n1, G3, c1, q1, q2⟩ := q_M_layLoads_47 h
      obtain ⟨a1, a2⟩ := s_pathAt hN hg hw (by clear q1 q2; omega) ki kt c1
      subst a1
      cases a2
      have hq := pa_q (nn := nn) (L := L) (E := E) (st := st) (u := u) (g := g) (w := w) k
      by_cases z : pa nn L E st u g w k = 4294967295
      · obtain ⟨m, hm, hR⟩ := q1 (by rw [z, b_neg (by decide)]; decide)
        clear q1 q2
        rw [b_add (show g + 1 < 4294967296 by omega)] at hR
        refine hP m (by omega) G3 (g + 1) hR hg ho (fun c hc => ?_)
        show _ = lpa nn L E st u (lto nn L E st u (lfr nn L E st u w) w g) g w 20 c
        have := lpa_stop (us := lto nn L E st u (lfr nn L E st u w) w g) hc hL z (20 - k)
        rw [show k + (20 - k) = 20 by omega] at this
        rw [this]; exact hu c hc
      · have hpl : pa nn L E st u g w k < 2 * L := (hq.resolve_left z).1
        have hk19 : k < 19 := by
          rcases Nat.lt_or_ge k 19 with y | y
          · exact y
          · exact absurd (pa_20 hN hg y) z
        obtain ⟨n2, G4, c2, m, hm, hR⟩ := q2 (by rw [b_pos (by clear q1 q2; omega)]; clear q1 q2; omega)
        clear q1 q2
        obtain ⟨a1, a2⟩ := s_pathAt hN hg hw (by omega) ki kt c2
        subst a1
        cases a2
        have hle := lpa_b (nn := nn) (L := L) (E := E) (st := st) (u := u) (g := g) hn (w := w) (k := k) (c := pa nn L E st u g w k) hw (Nat.le_of_lt hg) hk
        rw [hu _ hpl, b_add (show k + 1 < 4294967296 by omega), b_add (show lpa nn L E st u (lto nn L E st u (lfr nn L E st u w) w g) g w k (pa nn L E st u g w k) + 1 < 4294967296 by omega)] at hR
        refine ih m hm (by omega) _ (k + 1) hR (by omega) (ho.wr (by decide)) (fun c hc => ?_)
        show _ = if c = pa nn L E st u g w k then _ else _
        by_cases ec : c = pa nn L E st u g w k
        · rw [if_pos ec, ← ec, fu_same]
        · rw [if_neg ec, fu_i ec]; exact hu c hc
  have lP2 : ∀ (w : Nat), w < nn → ∀ (M n : Nat), (∀ m, m < M → P m) → n < M → P2 w n := by
    intro w hw M n hP
    induction n using Nat.strongRecOn with
    | ind n ih =>
      intro hnM G2 g h hg ho hu
      obtain ⟨ki, kt⟩ := kp G2 ho
      have Q := q_M_layLoads_37 h
      rw [ki.1.2.1] at Q
      rcases Nat.lt_or_ge g nn with hlt | hge
      · obtain ⟨m, hm, hR⟩ := Q.2 (by rw [b_lt (by clear Q; omega) (by clear Q; omega)]; exact hlt)
        exact l47 w g hw hlt n m (fun m hm => ih m hm (by clear Q; omega)) hm G2 0 hR (Nat.zero_le _) ho hu
      · obtain ⟨m, hm, hR⟩ := Q.1 (by rw [b_le (by clear Q; omega) (by clear Q; omega)]; exact hge)
        clear Q
        rw [b_add (show w + 1 < 4294967296 by omega)] at hR
        have : g = nn := by omega
        subst this
        exact hP m (by omega) G2 (w + 1) hR hw ho hu
  have lP : ∀ n, P n := by
    intro n
    induction n using Nat.strongRecOn with
    | ind n ih =>
      intro G2 w h hw ho hu
      obtain ⟨ki, kt⟩ := kp G2 ho
      have Q := q_M_layLoads_27 h
      rw [ki.1.2.1] at Q
      rcases Nat.lt_or_ge w nn with hlt | hge
      · obtain ⟨m, hm, hR⟩ := Q.2 (by rw [b_lt (by clear Q; omega) (by clear Q; omega)]; exact hlt)
        exact lP2 w hlt n m ih hm G2 0 hR (Nat.zero_le _) ho hu
      · obtain ⟨x1, x2⟩ := Q.1 (by rw [b_le (by clear Q; omega) (by clear Q; omega)]; exact hge)
        clear Q
        subst x2
        have : w = nn := by omega
        subst this
        exact ⟨x1, ho, hu⟩
  have l6 : ∀ (n : Nat) (G2 : fx_F) (c : Nat), Rn n k_M_layLoads 6 [(2, 175), (0, c), (3, 0), (3, 0)] [] G2 v G' → c ≤ 40 → fxo [198] G0 G2 → (∀ c', c' < c → G2 198 c' = 0) → v = (2, 0) ∧ fxo [198] G0 G' ∧ ∀ c, c < 2 * L → G' 198 c = lod nn L E st u c := by
    intro n
    induction n using Nat.strongRecOn with
    | ind n ih =>
      intro G2 c h hc ho hz
      have Q := q_M_layLoads_6 h
      rcases Nat.lt_or_ge c 40 with hlt | hge
      · obtain ⟨m, hm, hR⟩ := Q.2 (by rw [b_lt (by clear Q; omega) (by decide)]; exact hlt)
        clear Q
        rw [b_add (show c + 1 < 4294967296 by omega)] at hR
        refine ih m hm _ (c + 1) hR hlt (ho.wr (by decide)) (fun c' hc' => ?_)
        by_cases e : c' = c
        · subst e; rw [fu_same]
        · rw [fu_i e]; exact hz c' (by omega)
      · obtain ⟨m, hm, hR⟩ := Q.1 (by rw [b_le (by decide) (by clear Q; omega)]; exact hge)
        clear Q
        exact lP m G2 0 hR (Nat.zero_le _) ho (fun c' hc' => hz c' (by omega))
  obtain ⟨x1, x2, x3⟩ := l6 m G0 0 hR (Nat.zero_le _) fxo.rf (fun c' hc' => absurd hc' (Nat.not_lt_zero _))
  exact ⟨x1, (o0.mono (by decide)).tr (x2.mono (by decide)), x3⟩
theorem lod_le (hn : nn ≤ 10) {c : Nat} : lod nn L E st u c ≤ 2000 := by
  have := lfr_le (nn := nn) (L := L) (E := E) (st := st) (u := u) (c := c) nn
  have h4 : nn * (20 * nn) ≤ 10 * 200 := Nat.mul_le_mul hn (by omega)
  unfold lod
  omega
theorem o_load {a : Nat} (ha : a < 4294967296) (h : lr F G nn L E C N R) (hF : Cl k_T_load [(2, 2), (0, a)] F v F') (hG : Cl k_M_load [(2, 175), (0, a)] G v2 G') : v = v2 ∧ lr F' G' nn L E C N R ∧ sF F F' ∧ sG G G' := by
  have hL := h.1.1.2.1
  have hN := h.1.1
  have hn := hN.1
  obtain ⟨nF, hF⟩ := c_T_load hF
  obtain ⟨nG, hG⟩ := c_M_load hG
  have Q := q_T_load_0 hF
  have QG := q_M_load_0 hG
  rw [h.2.1.1.2.1, b_mul (show 2 * L < 4294967296 by clear Q QG; omega)] at Q
  rw [h.2.2.1.1.2.2.1, b_mul (show 2 * L < 4294967296 by clear Q QG; omega)] at QG
  have no : v = (0, 4294967295) ∧ F' = F → v2 = (0, 4294967295) ∧ G' = G → v = v2 ∧ lr F' G' nn L E C N R ∧ sF F F' ∧ sG G G' := by
    rintro ⟨x1, x2⟩ ⟨y1, y2⟩
    subst x2
    subst y2
    exact ⟨x1.trans y1.symm, h, sF.rf, sG.rf⟩
  by_cases hl : a < 2 * L
  · obtain ⟨i1, i2, i3⟩ := in_y hl (show 2 * L ≤ 40 by clear Q QG; omega)
    obtain ⟨F1, c1, x1, x2⟩ := (Q.2 i1).2 i2
    obtain ⟨G1, d1, y1, y2⟩ := (QG.2 i1).2 i3
    clear Q QG
    obtain ⟨t1, t2, t3, t4, t5, t6⟩ := h.table c1
    obtain ⟨-, u1, u2⟩ := s_layLoads hN h.mgi d1
    rw [t4 a hl] at x1
    rw [u2 a hl] at y1
    subst x2
    subst y2
    exact ⟨x1.trans y1.symm, h.way (t1.mono (by simp)) t5 t6 (u1.mono (by simp))⟩
  · rcases in_n hl ha (show 2 * L ≤ 40 by clear Q QG; omega) with z | ⟨z1, z2, z3⟩
    · exact no (Q.1 z) (QG.1 z)
    · exact no ((Q.2 z1).1 z2) ((QG.2 z1).1 z3)
/-- the first of the greatest, of the first k -/
noncomputable def hvy (us : Nat → Nat) : Nat → Nat
  | 0 => 4294967295
  | k + 1 => if hvy us k = 4294967295 ∨ us (hvy us k) < us k then k else hvy us k
theorem hvy_lt {us : Nat → Nat} : ∀ k, hvy us (k + 1) < k + 1
  | 0 => by
    rw [show hvy us (0 + 1) = 0 from if_pos (Or.inl rfl)]; decide
  | k + 1 => by
    have := hvy_lt (us := us) k
    show (if hvy us (k + 1) = 4294967295 ∨ us (hvy us (k + 1)) < us (k + 1) then k + 1 else hvy us (k + 1)) < k + 2
    split <;> omega
theorem hvy_s {us : Nat → Nat} {k : Nat} (hk : 1 ≤ k) (hk2 : k < 100) : (us (hvy us k) < us k → hvy us (k + 1) = k) ∧ (us k ≤ us (hvy us k) → hvy us (k + 1) = hvy us k) := by
  have h1 := hvy_lt (us := us) (k - 1)
  rw [show k - 1 + 1 = k by omega] at h1
  refine ⟨fun h => if_pos (Or.inr h), fun h => if_neg (fun z => ?_)⟩
  rcases z with z | z <;> omega
theorem hvy_congr {us us2 : Nat → Nat} : ∀ {k : Nat}, k < 100 → (∀ c, c < k → us c = us2 c) → hvy us k = hvy us2 k
  | 0, _, _ => rfl
  | k + 1, hk, h => by
    have ih := hvy_congr (us := us) (us2 := us2) (k := k) (by omega) (fun c hc => h c (by omega))
    by_cases hz : k = 0
    · subst hz
      rw [show hvy us (0 + 1) = 0 from if_pos (Or.inl rfl), show hvy us2 (0 + 1) = 0 from if_pos (Or.inl rfl)]
    · have h1 := hvy_lt (us := us) (k - 1)
      rw [show k - 1 + 1 = k by omega] at h1
      have e1 := h (hvy us k) (by omega)
      have e2 := h k (by omega)
      have a := hvy_s (us := us) (k := k) (by omega) (by omega)
      have b := hvy_s (us := us2) (k := k) (by omega) (by omega)
      rw [← ih, ← e1, ← e2] at b
      rcases Nat.lt_or_ge (us (hvy us k)) (us k) with z | z
      · rw [a.1 z, b.1 z]
      · rw [a.2 z, b.2 z]
theorem s_cheavy (hL : L ≤ 20) (hL0 : L ≠ 0) (hcn : cn F nn L E) (hus : ∀ c, c < 2 * L → F (p + 4) c < 2147483648) (h : Cl k_Ro_heaviestChannel [(2, p)] F v F') : F' = F ∧ v = (0, hvy (F (p + 4)) (2 * L)) := by
  obtain ⟨n, h⟩ := c_Ro_heaviestChannel h
  obtain ⟨m, hm2, hR⟩ := q_Ro_heaviestChannel_0 h
  have lp : ∀ (n k : Nat), Rn n k_Ro_heaviestChannel 4 [(2, p), (0, hvy (F (p + 4)) k), (0, k)] [] F v F' → 1 ≤ k → k ≤ 2 * L → F' = F ∧ v = (0, hvy (F (p + 4)) (2 * L)) := by
    intro n
    induction n using Nat.strongRecOn with
    | ind n ih =>
      intro k h hk1 hk
      have Q := q_Ro_heaviestChannel_4 h
      rw [hcn.2.1, b_mul (show 2 * L < 4294967296 by clear Q; omega)] at Q
      rcases Nat.lt_or_ge k (2 * L) with hlt | hge
      · obtain ⟨Q1, Q2⟩ := Q.2 (by rw [b_lt (by clear Q; omega) (by clear Q; omega)]; exact hlt)
        clear Q
        have h1 := hvy_lt (us := F (p + 4)) (k - 1)
        rw [show k - 1 + 1 = k by clear Q1 Q2; omega] at h1
        have hv := hvy_s (us := F (p + 4)) hk1 (show k < 100 by clear Q1 Q2; omega)
        have b1 := hus k hlt
        have b2 := hus _ (Nat.lt_trans h1 hlt)
        rw [b_add (show k + 1 < 4294967296 by clear Q1 Q2; omega)] at Q1 Q2
        rcases Nat.lt_or_ge (F (p + 4) (hvy (F (p + 4)) k)) (F (p + 4) k) with z | z
        · obtain ⟨m, hm, hR⟩ := Q2 (by rw [b_lt b2 b1]; exact z)
          exact ih m hm (k + 1) (by rw [hv.1 z]; exact hR) (by clear Q1 Q2; omega) hlt
        · obtain ⟨m, hm, hR⟩ := Q1 (by rw [b_le b1 b2]; exact z)
          exact ih m hm (k + 1) (by rw [hv.2 z]; exact hR) (by clear Q1 Q2; omega) hlt
      · obtain ⟨x1, x2⟩ := Q.1 (by rw [b_le (by clear Q; omega) (by clear Q; omega)]; exact hge)
        clear Q
        have : k = 2 * L := by omega
        subst this
        exact ⟨x2, x1⟩
  refine lp m 1 ?_ (Nat.le_refl 1) (by omega)
  rw [show hvy (F (p + 4)) 1 = 0 from if_pos (Or.inl rfl)]
  exact hR
theorem s_mheavy (hL : L ≤ 20) (hm : mn G nn L E) (hus : ∀ c, c < 2 * L → G 198 c < 2147483648) (h : Cl k_M_heaviestNow [(2, 175)] G v G') : G' = G ∧ v = (0, hvy (G 198) (2 * L)) := by
  obtain ⟨n, h⟩ := c_M_heaviestNow h
  obtain ⟨m, hm2, hR⟩ := q_M_heaviestNow_0 h
  have lp : ∀ (n k : Nat), Rn n k_M_heaviestNow 4 [(2, 175), (0, hvy (G 198) k), (0, k)] [] G v G' → k ≤ 2 * L → G' = G ∧ v = (0, hvy (G 198) (2 * L)) := by
    intro n
    induction n using Nat.strongRecOn with
    | ind n ih =>
      intro k h hk
      have Q := q_M_heaviestNow_4 h
      rw [hm.2.2.1, b_mul (show 2 * L < 4294967296 by clear Q; omega)] at Q
      rcases Nat.lt_or_ge k (2 * L) with hlt | hge
      · obtain ⟨Q1, Q2⟩ := Q.2 (by rw [b_lt (by clear Q; omega) (by clear Q; omega)]; exact hlt)
        clear Q
        rw [b_add (show k + 1 < 4294967296 by clear Q1 Q2; omega)] at Q1 Q2
        by_cases hz : k = 0
        · subst hz
          obtain ⟨m, hm, hR⟩ := Q1 (by show s_lt 4294967295 0; rw [b_neg (by decide)]; decide)
          exact ih m hm 1 (by rw [show hvy (G 198) 1 = 0 from if_pos (Or.inl rfl)]; exact hR) hlt
        · have h1 := hvy_lt (us := G 198) (k - 1)
          rw [show k - 1 + 1 = k by clear Q1 Q2; omega] at h1
          have hv := hvy_s (us := G 198) (show 1 ≤ k by clear Q1 Q2; omega) (show k < 100 by clear Q1 Q2; omega)
          have b1 := hus k hlt
          have b2 := hus _ (Nat.lt_trans h1 hlt)
          obtain ⟨Q3, Q4⟩ := Q2 (by rw [b_pos (by clear Q1 Q2; omega)]; clear Q1 Q2; omega)
          rcases Nat.lt_or_ge (G 198 (hvy (G 198) k)) (G 198 k) with z | z
          · obtain ⟨m, hm, hR⟩ := Q4 (by rw [b_lt b2 b1]; exact z)
            exact ih m hm (k + 1) (by rw [hv.1 z]; exact hR) hlt
          · obtain ⟨m, hm, hR⟩ := Q3 (by rw [b_le b1 b2]; exact z)
            exact ih m hm (k + 1) (by rw [hv.2 z]; exact hR) hlt
      · obtain ⟨x1, x2⟩ := Q.1 (by rw [b_le (by clear Q; omega) (by clear Q; omega)]; exact hge)
        clear Q
        have : k = 2 * L := by omega
        subst this
        exact ⟨x2, x1⟩
  exact lp m 0 hR (Nat.zero_le _)
theorem o_heaviest {a : Nat} (ha : a < 4294967296) (h : lr F G nn L E C N R) (hF : Cl k_T_heaviest [(2, 2), (0, a)] F v F') (hG : Cl k_M_heaviest [(2, 175), (0, a)] G v2 G') : v = v2 ∧ lr F' G' nn L E C N R ∧ sF F F' ∧ sG G G' := by
  have hL := h.1.1.2.1
  have hN := h.1.1
  have hn := hN.1
  obtain ⟨nF, hF⟩ := c_T_heaviest hF
  obtain ⟨nG, hG⟩ := c_M_heaviest hG
  have Q := q_T_heaviest_0 hF
  have QG := q_M_heaviest_0 hG
  rw [h.2.1.1.2.1] at Q
  rw [h.2.2.1.1.2.2.1] at QG
  have no : v = (0, 4294967295) ∧ F' = F → v2 = (0, 4294967295) ∧ G' = G → v = v2 ∧ lr F' G' nn L E C N R ∧ sF F F' ∧ sG G G' := by
    rintro ⟨x1, x2⟩ ⟨y1, y2⟩
    subst x2
    subst y2
    exact ⟨x1.trans y1.symm, h, sF.rf, sG.rf⟩
  by_cases hL0 : L = 0
  · refine no (Q.1 hL0) ?_
    rcases bnd01 ha with ⟨c2, j1, j2⟩ | z | ⟨z1, z2⟩
    · exact ((QG.2 j1).2 j2).2 hL0
    · exact QG.1 z
    · exact (QG.2 z1).1 z2
  · replace Q := Q.2 hL0
    rcases bnd01 ha with ⟨c2, j1, j2⟩ | z | ⟨z1, z2⟩
    · obtain ⟨F1, c1, n2, F2, c3, x1, x2⟩ := (Q.2 j1).1 j2
      obtain ⟨G1, d1, QG1, QG2⟩ := ((QG.2 j1).2 j2).1 hL0
      clear Q QG
      obtain ⟨t1, t2, t3, t4, t5, t6⟩ := h.table c1
      obtain ⟨-, u1, u2⟩ := s_layLoads hN h.mgi d1
      have b1 : ∀ c, c < 2 * L → F1 (24 + 4) c < 2147483648 := fun c hc => by
        show F1 28 c < _
        rw [t4 c hc]
        have := lod_le (nn := nn) (L := L) (E := E) (st := bts (F (F 2 13) 2)) (u := bts (F (F 2 13) 1)) hn (c := c)
        clear x1 x2 QG1 QG2
        omega
      have b2 : ∀ c, c < 2 * L → G1 198 c < 2147483648 := fun c hc => by
        rw [u2 c hc]
        have := lod_le (nn := nn) (L := L) (E := E) (st := bts (F (F 2 13) 2)) (u := bts (F (F 2 13) 1)) hn (c := c)
        clear x1 x2 QG1 QG2
        omega
      obtain ⟨w1, w2⟩ := s_cheavy hL hL0 (h.2.1.1.keep t1 (by decide) (by decide) (by decide)) b1 c3
      subst w1
      cases w2
      have hv : hvy (F2 (24 + 4)) (2 * L) = hvy (G1 198) (2 * L) := hvy_congr (by clear x1 x2 QG1 QG2; omega) (fun c hc => by
        show F2 28 c = _
        rw [t4 c hc, u2 c hc])
      have hvl : hvy (G1 198) (2 * L) < 2 * L := by
        have := hvy_lt (us := G1 198) (2 * L - 1)
        rw [show 2 * L - 1 + 1 = 2 * L by clear x1 x2 QG1 QG2; omega] at this
        exact this
      have hm1 : mn G1 nn L E := h.2.2.1.1.keep u1 (by decide) (by decide) (by decide) (by decide)
      rw [hv] at x1 x2
      have fin : ∀ z, v = (0, z) ∧ F' = F2 → v2 = (0, z) ∧ G' = G1 → v = v2 ∧ lr F' G' nn L E C N R ∧ sF F F' ∧ sG G G' := by
        rintro z ⟨a1, a2⟩ ⟨b3, b4⟩
        subst a2
        subst b4
        exact ⟨a1.trans b3.symm, h.way (t1.mono (by simp)) t5 t6 (u1.mono (by simp))⟩
      by_cases e : a = 0
      · obtain ⟨n2, G2, d2, y1, y2⟩ := QG2 e
        obtain ⟨w3, w4⟩ := s_mheavy hL hm1 b2 d2
        subst w3
        cases w4
        exact fin _ (x2 e) ⟨y1, y2⟩
      · obtain ⟨n2, G2, d2, y1, y2⟩ := QG1 e
        obtain ⟨w3, w4⟩ := s_mheavy hL hm1 b2 d2
        subst w3
        cases w4
        rw [u2 _ hvl] at y1
        rw [t4 _ hvl] at x1
        exact fin _ (x1 e) ⟨y1, y2⟩
    · exact no (Q.1 z) (QG.1 z)
    · exact no ((Q.2 z1).2 z2) ((QG.2 z1).1 z2)
end LOAD
end
section
/-! plan, depends on both sides -/
section DEP
variable {nn L R N : Nat} {E C : Nat → Nat} {v v2 : fx_V} {F F' G G' : fx_F}
theorem o_plan {a b : Nat} (ha : a < 4294967296) (hb : b < 4294967296) (h : lr F G nn L E C N R) (hF : Cl k_T_plan [(2, 2), (0, a), (0, b)] F v F') (hG : Cl k_M_plan [(2, 175), (0, a), (0, b)] G v2 G') : v = v2 ∧ lr F' G' nn L E C N R ∧ sF F F' ∧ sG G G' := by
  have hL := h.1.1.2.1
  have hN := h.1.1
  have hn := hN.1
  have hs0 := h.2.2.2.1.2
  obtain ⟨nF, hF⟩ := c_T_plan hF
  obtain ⟨nG, hG⟩ := c_M_plan hG
  have Q := q_T_plan_0 hF
  have QG := q_M_plan_0 hG
  rw [h.2.1.1.1] at Q
  rw [h.2.2.1.1.2.1] at QG
  have no : v = (0, 4294967295) ∧ F' = F → v2 = (0, 4294967295) ∧ G' = G → v = v2 ∧ lr F' G' nn L E C N R ∧ sF F F' ∧ sG G G' := by
    rintro ⟨x1, x2⟩ ⟨y1, y2⟩
    subst x2
    subst y2
    exact ⟨x1.trans y1.symm, h, sF.rf, sG.rf⟩
  by_cases hl : a < nn
  · obtain ⟨i1, i2, i3⟩ := in_y hl (show nn ≤ 40 by clear Q QG; omega)
    replace Q := (Q.2 i1).2 i2
    replace QG := (QG.2 i1).2 i3
    rcases bnd01 hb with ⟨c2, j1, j2⟩ | z | ⟨z1, z2⟩
    · obtain ⟨F1, c1, Q1, Q2⟩ := (Q.2 j1).1 j2
      obtain ⟨QG1, QG2⟩ := (QG.2 j1).2 j2
      clear Q QG
      by_cases e : b = 1
      · obtain ⟨n1, G1, d1, y1, y2⟩ := QG2 e
        obtain ⟨x1, x2⟩ := Q1 (by rw [e]; decide)
        clear Q1 Q2 QG1 QG2
        obtain ⟨nw, w1, w2, w3, w4, w5, -, w6⟩ := plan2 h hl c1 d1
        subst x2
        subst y2
        refine ⟨?_, w2⟩
        rcases w6 with ⟨k, k0, k1, k2, k3, k4, k5⟩ | ⟨k1, k2, k4⟩
        · cases k2; rw [x1, y1, k4]
        · cases k2; rw [x1, y1, k4]
      · have e0 : b = 0 := by clear Q1 Q2 QG1 QG2; omega
        obtain ⟨G1, d1, n2, G2, d2, y1, y2⟩ := QG1 e
        obtain ⟨x1, x2⟩ := Q2 e0
        clear Q1 Q2 QG1 QG2
        have hS : S0 (F 2 13) := h.2.2.2.1.1.1.1
        have hS' : 53 ≤ F 2 13 := by unfold S0 at hS; omega
        obtain ⟨nw, -, a2, a3, a4, a5⟩ := s_cplanFor hN h.1.2.1 h.1.2.2.1 (Or.inl hl) (by omega) h.2.1.1 h.2.1.2.2.1 hS' rfl rfl hs0.2.1.1 hs0.2.2.1.1 c1
        obtain ⟨u1, u2, -⟩ := s_orientBy (st := bts (F (F 2 13) 2)) hN h.1.2.1 h.1.2.2.1 (Or.inl hl) (by omega) h.2.2.1.1 h.2.2.1.2.1 h.mgi.2.1 d1
        obtain ⟨w3, w4⟩ := s_flips hN (u := F (F 2 13) 1) (nw := nw) (h.2.2.1.1.keep u1 (by decide) (by decide) (by decide) (by decide)) (fun l hl => by rw [u1 176 _ (by decide)]; exact hs0.2.1.2 l hl) (fun l hl => (u2 l hl).trans (nwb_ue a2 hl)) d2
        subst w4
        cases w3
        subst x2
        subst y2
        rw [a4] at x1
        exact ⟨x1.trans y1.symm, h.fr (fun p i hp => a3 p i (by unfold qF at hp; simp; omega)) (h.2.2.2.2.1.eq (fun t i ht => a3 _ i (by simp; omega))) (h.2.2.2.2.2.eq (fun t i ht => a3 _ i (by simp; omega))) (fun p i hp _ => u1 p i (by unfold qG at hp; simp; omega)) (fun i _ => u1 175 i (by decide))⟩
    · exact no (Q.1 z) (QG.1 z)
    · exact no ((Q.2 z1).2 z2) ((QG.2 z1).1 z2)
  · rcases in_n hl ha (show nn ≤ 40 by clear Q QG; omega) with z | ⟨z1, z2, z3⟩
    · exact no (Q.1 z) (QG.1 z)
    · exact no ((Q.2 z1).1 z2) ((QG.2 z1).1 z3)
theorem o_depends {a b : Nat} (ha : a < 4294967296) (hb : b < 4294967296) (h : lr F G nn L E C N R) (hF : Cl k_T_depends [(2, 2), (0, a), (0, b)] F v F') (hG : Cl k_M_depends [(2, 175), (0, a), (0, b)] G v2 G') : v = v2 ∧ lr F' G' nn L E C N R ∧ sF F F' ∧ sG G G' := by
  have hL := h.1.1.2.1
  have hN := h.1.1
  have hn := hN.1
  have hs0 := h.2.2.2.1.2
  obtain ⟨nF, hF⟩ := c_T_depends hF
  obtain ⟨nG, hG⟩ := c_M_depends hG
  have Q := q_T_depends_0 hF
  have QG := q_M_depends_0 hG
  rw [h.2.1.1.2.1, b_mul (show 2 * L < 4294967296 by clear Q QG; omega)] at Q
  rw [h.2.2.1.1.2.2.1, b_mul (show 2 * L < 4294967296 by clear Q QG; omega)] at QG
  have no : v = (0, 4294967295) ∧ F' = F → v2 = (0, 4294967295) ∧ G' = G → v = v2 ∧ lr F' G' nn L E C N R ∧ sF F F' ∧ sG G G' := by
    rintro ⟨x1, x2⟩ ⟨y1, y2⟩
    subst x2
    subst y2
    exact ⟨x1.trans y1.symm, h, sF.rf, sG.rf⟩
  by_cases hl : a < 2 * L
  · obtain ⟨i1, i2, i3⟩ := in_y hl (show 2 * L ≤ 40 by clear Q QG; omega)
    replace Q := (Q.2 i1).2 i2
    replace QG := (QG.2 i1).2 i3
    by_cases hl2 : b < 2 * L
    · obtain ⟨i1, i2, i3⟩ := in_y hl2 (show 2 * L ≤ 40 by clear Q QG; omega)
      obtain ⟨F1, c1, Q1, Q2⟩ := (Q.2 i1).2 i2
      obtain ⟨n1, G1, d1, QG1, QG2⟩ := (QG.2 i1).2 i3
      clear Q QG
      have hbb := sc_lt hN hs0
      obtain ⟨t1, t2⟩ := s_take hN (show F (F 2 13) 1 < 2147483648 by clear Q1 Q2 QG1 QG2; omega) (show F (F 2 13) 1 < 2147483648 by clear Q1 Q2 QG1 QG2; omega) (show F (F 2 13) 2 < 2147483648 by clear Q1 Q2 QG1 QG2; omega) h.2.1.1 c1
      obtain ⟨u1, u2⟩ := s_isLawful (st := bts (F (F 2 13) 2)) (u := bts (F (F 2 13) 1)) hN hl hl2 h.2.2.1.1 h.mgi.2.1 h.mgi.2.2 d1
      subst u1
      have tb := t2 a hl
      have h47 : F1 47 a < 2 ^ (2 * L) := tb_lt (fun i hi => by
        rcases (tb i).mp hi with z | z
        · exact z.2.1
        · exact z.2.1)
      have p47 := p40 hL h47
      have jb : rx_f_lcmp (rx_j_and (rx_j_shr (F1 47 a) b) 1) 1 = 0 ↔ (F1 47 a).testBit b = true := j_bit (by clear Q1 Q2 QG1 QG2; omega) (by clear Q1 Q2 QG1 QG2; omega)
      have key : (F1 47 a).testBit b = true ↔ trn L E (bts (F (F 2 13) 2)) (bts (F (F 2 13) 1)) a b := (tb b).trans ⟨fun z => z.elim id id, Or.inl⟩
      have fin : ∀ z, v = (0, z) ∧ F' = F1 → v2 = (0, z) ∧ G' = G1 → v = v2 ∧ lr F' G' nn L E C N R ∧ sF F F' ∧ sG G1 G' := by
        rintro z ⟨a1, a2⟩ ⟨b3, b4⟩
        subst a2
        subst b4
        exact ⟨a1.trans b3.symm, h.fr (fun p i hp => t1 p i (by unfold qF at hp; simp; omega)) (h.2.2.2.2.1.eq (fun t i ht => t1 _ i (by simp; omega))) (h.2.2.2.2.2.eq (fun t i ht => t1 _ i (by simp; omega))) (fun _ _ _ _ => rfl) (fun _ _ => rfl)⟩
      rcases u2 with ⟨e, t⟩ | ⟨e, t⟩
      · cases e
        exact fin 1 (Q2 (jb.mpr (key.mpr t))) (QG2 (by decide))
      · cases e
        exact fin 0 (Q1 (fun z => t (key.mp (jb.mp z)))) (QG1 rfl)
    · rcases in_n hl2 hb (show 2 * L ≤ 40 by clear Q QG; omega) with z | ⟨z1, z2, z3⟩
      · exact no (Q.1 z) (QG.1 z)
      · exact no ((Q.2 z1).1 z2) ((QG.2 z1).1 z3)
  · rcases in_n hl ha (show 2 * L ≤ 40 by clear Q QG; omega) with z | ⟨z1, z2, z3⟩
    · exact no (Q.1 z) (QG.1 z)
    · exact no ((Q.2 z1).1 z2) ((QG.2 z1).1 z3)
end DEP
end
section
/-! Rings on both sides -/
section RING
variable {nn L R N : Nat} {E C : Nat → Nat} {v v2 : fx_V} {F F' G G' : fx_F} {T : Nat → Nat → Prop} {st u : Nat → Bool}
theorem cnt_full {p : Nat → Bool} : ∀ {n : Nat}, n ≤ cnt p n → ∀ i, i < n → p i = true
  | 0, _, i, hi => absurd hi (Nat.not_lt_zero _)
  | n + 1, h, i, hi => by
    have hc := cnt_le p n
    have h : n + 1 ≤ cnt p n + (if p n then 1 else 0) := h
    cases hp : p n with
    | false => rw [hp, if_neg (by decide)] at h; omega
    | true =>
      rw [hp, if_pos rfl] at h
      by_cases e : i = n
      · subst e; exact hp
      · exact cnt_full (n := n) (by omega) i (by omega)
theorem s_ontoFrom (hN : nt_ok nn L E) (hT : ∀ c d, T c d → c < 2 * L ∧ d < 2 * L) {x : Nat} (hx : x < 2 ^ (2 * L)) (hc : cn F nn L E) (ho : ontos F L T (2 * L)) (h : Cl k_Tu_ontoFrom [(2, 45), (1, x)] F v F') : ∃ y, v = (1, y) ∧ F' = F ∧ y < 2 ^ (2 * L) ∧ ∀ e, y.testBit e = true ↔ ∃ i, x.testBit i = true ∧ T i e := by
  obtain ⟨n, h⟩ := c_Tu_ontoFrom h
  obtain ⟨m, hm2, hR⟩ := q_Tu_ontoFrom_0 h
  have hL := hN.2.1
  have hF : ∀ d, d < 2 * L → F 47 d < 2 ^ (2 * L) := fun d hd => tb_lt (fun i hi => (hT _ _ ((ho d hd i).mp hi)).2)
  have hx2 := p40 hL hx
  have lp : ∀ (n more d : Nat), Rn n k_Tu_ontoFrom 5 [(2, 45), (1, x), (3, 0), (1, more), (3, 0), (0, d)] [] F v F' → d ≤ 2 * L → (∀ e, more.testBit e = true ↔ ∃ i, i < d ∧ x.testBit i = true ∧ T i e) → ∃ y, v = (1, y) ∧ F' = F ∧ y < 2 ^ (2 * L) ∧ ∀ e, y.testBit e = true ↔ ∃ i, x.testBit i = true ∧ T i e := by
    intro n
    induction n using Nat.strongRecOn with
    | ind n ih =>
      intro more d h hd hI
      have hmb : more < 2 ^ (2 * L) := tb_lt (fun i hi => by obtain ⟨j, _, _, h3⟩ := (hI i).mp hi; exact (hT _ _ h3).2)
      have hm3 := p40 hL hmb
      have Q := q_Tu_ontoFrom_5 h
      rw [hc.2.1, b_mul (show 2 * L < 4294967296 by clear Q; omega)] at Q
      rcases Nat.lt_or_ge d (2 * L) with hl | hl
      · obtain ⟨Q1, Q2⟩ := Q.2 (by rw [b_lt (by clear Q; omega) (by clear Q; omega)]; exact hl)
        clear Q
        rw [b_add (show d + 1 < 4294967296 by clear Q1 Q2; omega)] at Q1 Q2
        have jb : rx_f_lcmp (rx_j_and (rx_j_shr x d) 1) 1 = 0 ↔ x.testBit d = true := j_bit (by clear Q1 Q2; omega) (by clear Q1 Q2; omega)
        by_cases hb : x.testBit d = true
        · obtain ⟨m, hm2, hR⟩ := Q2 (jb.mpr hb)
          clear Q1 Q2
          have hFd := p40 hL (hF d hl)
          rw [j_or (by omega) (by omega)] at hR
          exact ih m hm2 _ (d + 1) hR (by omega) (fun e => by
            rw [Nat.testBit_or, Bool.or_eq_true, hI e, ho d hl e]
            constructor
            · rintro (⟨i, h1, h2, h3⟩ | h1)
              · exact ⟨i, by omega, h2, h3⟩
              · exact ⟨d, by omega, hb, h1⟩
            · rintro ⟨i, h1, h2, h3⟩
              by_cases e2 : i = d
              · subst e2; exact Or.inr h3
              · exact Or.inl ⟨i, by omega, h2, h3⟩)
        · obtain ⟨m, hm2, hR⟩ := Q1 (fun z => hb (jb.mp z))
          clear Q1 Q2
          exact ih m hm2 more (d + 1) hR (by omega) (fun e => by
            rw [hI e]
            constructor
            · rintro ⟨i, h1, h2, h3⟩
              exact ⟨i, by omega, h2, h3⟩
            · rintro ⟨i, h1, h2, h3⟩
              by_cases e2 : i = d
              · subst e2; exact absurd h2 hb
              · exact ⟨i, by omega, h2, h3⟩)
      · obtain ⟨x1, x2⟩ := Q.1 (by rw [b_le (by clear Q; omega) (by clear Q; omega)]; exact hl)
        clear Q
        refine ⟨more, x1, x2, hmb, fun e => ?_⟩
        rw [hI e]
        constructor
        · rintro ⟨i, h1, h2, h3⟩; exact ⟨i, h2, h3⟩
        · rintro ⟨i, h2, h3⟩; exact ⟨i, by have := (hT _ _ h3).1; omega, h2, h3⟩
  exact lp m 0 0 hR (Nat.zero_le _) (fun e => by
    rw [Nat.zero_testBit]
    exact ⟨fun z => (by cases z), fun ⟨i, h1, _⟩ => absurd h1 (Nat.not_lt_zero _)⟩)
theorem s_shortRing (hN : nt_ok nn L E) (hT : ∀ c d, T c d → c < 2 * L ∧ d < 2 * L) (hnet : cn F nn L E) {c : Nat} (hc : c < 2 * L) (ht : ontos F L T (2 * L)) (h : Cl k_Tu_shortestRing [(2, 45), (0, c)] F v F') : F' = F ∧ ((∃ k, 1 ≤ k ∧ k ≤ 41 ∧ pm T k c c ∧ v = (0, k)) ∨ ((∀ k, ¬ pth T (k + 1) c c) ∧ v = (0, 4294967295))) := by
  obtain ⟨n, h⟩ := c_Tu_shortestRing h
  obtain ⟨m, hm2, hR⟩ := q_Tu_shortestRing_0 h
  have hL := hN.2.1
  have outer : ∀ (n seen now k : Nat), Rn n k_Tu_shortestRing 13 [(2, 45), (0, c), (1, seen), (3, 0), (1, now), (3, 0), (0, k)] [] F v F' → 1 ≤ k → seen < 2 ^ (2 * L) → (∀ d, now.testBit d = true ↔ pm T k c d) → (∀ d, seen.testBit d = true ↔ ∃ j, 1 ≤ j ∧ j < k ∧ pth T j c d) → (∀ j, 1 ≤ j → j < k → ¬ pth T j c c) → k - 1 ≤ cnt (fun i => seen.testBit i) (2 * L) → F' = F ∧ ((∃ k, 1 ≤ k ∧ k ≤ 41 ∧ pm T k c c ∧ v = (0, k)) ∨ ((∀ k, ¬ pth T (k + 1) c c) ∧ v = (0, 4294967295))) := by
    intro n
    induction n using Nat.strongRecOn with
    | ind n ih =>
      intro seen now k h hk hs hA hB hC hD
      have hcn := cnt_le (fun i => seen.testBit i) (2 * L)
      have hs2 := p40 hL hs
      have hnb : now < 2 ^ (2 * L) := tb_lt (fun i hi => by
        have h1 := ((hA i).mp hi).1
        rw [show k = k - 1 + 1 by omega] at h1
        obtain ⟨e, _, h3⟩ := pth_last h1
        exact (hT _ _ h3).2)
      have hn2 := p40 hL hnb
      have jz : rx_f_lcmp now 0 = 0 ↔ now = 0 := j_zero (by omega)
      have jb : rx_f_lcmp (rx_j_and (rx_j_shr now c) 1) 1 = 0 ↔ now.testBit c = true := j_bit (by omega) (by omega)
      have hk41 : k ≤ 40 := by
        rcases Nat.lt_or_ge 40 k with z | z
        · have hf := cnt_full (p := fun i => seen.testBit i) (n := 2 * L) (by omega) c hc
          obtain ⟨j, j1, j2, j3⟩ := (hB c).mp hf
          exact absurd j3 (hC j j1 j2)
        · exact z
      have q := (q_Tu_shortestRing_13 h).2 (by rw [b_le (by omega) (by decide)]; exact hk41)
      by_cases hz : now = 0
      · obtain ⟨e1, e2⟩ := q.1 (jz.mpr hz)
        refine ⟨e2, Or.inr ⟨fun i hp => ?_, e1⟩⟩
        obtain ⟨j, j1, j2, j3⟩ := pm_ex hp
        clear q
        rcases Nat.lt_or_ge j k with z | z
        · exact hC j j1 z j3.1
        · obtain ⟨e, he⟩ := pm_down hk z j3
          have := (hA e).mpr he
          rw [hz, Nat.zero_testBit] at this
          cases this
      · replace q := q.2 (fun z => hz (jz.mp z))
        by_cases hb : now.testBit c = true
        · obtain ⟨e1, e2⟩ := q.2 (jb.mpr hb)
          clear q
          exact ⟨e2, Or.inl ⟨k, hk, by omega, (hA c).mp hb, e1⟩⟩
        · obtain ⟨n1, F1, c1, m', mlt, r2⟩ := q.1 (fun z => hb (jb.mp z))
          clear q
          obtain ⟨mo, z1, z2, r3, r4⟩ := s_ontoFrom hN hT hnb hnet ht c1
          cases z1
          subst z2
          have hsn : seen ||| now < 2 ^ (2 * L) := Nat.or_lt_two_pow hs hnb
          have hsn2 := p40 hL hsn
          rw [j_or (by omega) (by omega), b_add (show k + 1 < 4294967296 by omega)] at r2
          have hmo := p40 hL r3
          obtain ⟨l1, l2⟩ := j_less (x := n1) (y := seen ||| now) (by omega) (by omega)
          have hB2 : ∀ d, (seen ||| now).testBit d = true ↔ ∃ j, 1 ≤ j ∧ j < k + 1 ∧ pth T j c d := by
            intro d
            rw [Nat.testBit_or, Bool.or_eq_true, hA d, hB d]
            constructor
            · rintro (⟨j, h1, h2, h3⟩ | h1)
              · exact ⟨j, h1, by omega, h3⟩
              · exact ⟨k, hk, by omega, h1.1⟩
            · rintro ⟨j, h1, h2, h3⟩
              by_cases hx : ∃ j, 1 ≤ j ∧ j < k ∧ pth T j c d
              · exact Or.inl hx
              · have : j = k := by
                  rcases Nat.lt_or_ge j k with z | z
                  · exact absurd ⟨j, h1, z, h3⟩ hx
                  · omega
                subst this
                exact Or.inr ⟨h3, fun i i1 i2 i3 => hx ⟨i, i1, i2, i3⟩⟩
          refine ih m' mlt _ _ (k + 1) r2 (by omega) hsn (fun d => ?_) hB2 (fun j h1 h2 h3 => ?_) ?_
          · rw [l2 d, Bool.and_eq_true, r4 d]
            constructor
            · rintro ⟨⟨i, h1, h2⟩, h3⟩
              refine ⟨pth_snoc ((hA i).mp h1).1 h2, fun j j1 j2 j3 => ?_⟩
              rw [(hB2 d).mpr ⟨j, j1, j2, j3⟩] at h3
              cases h3
            · intro hp
              obtain ⟨e, h1, h2⟩ := pth_last hp.1
              refine ⟨⟨e, (hA e).mpr ⟨h1, fun j j1 j2 j3 => hp.2 (j + 1) (by omega) (by omega) (pth_snoc j3 h2)⟩, h2⟩, ?_⟩
              cases hq : (seen ||| now).testBit d with
              | false => rfl
              | true =>
                obtain ⟨j, j1, j2, j3⟩ := (hB2 d).mp hq
                exact absurd j3 (hp.2 j j1 j2)
          · rcases Nat.lt_or_ge j k with z | z
            · exact hC j h1 z h3
            · have : j = k := by omega
              subst this
              exact hb ((hA c).mpr ⟨h3, hC⟩)
          · have hex : ∃ d, now.testBit d = true := by
              by_cases hy : ∃ d, now.testBit d = true
              · exact hy
              · refine absurd (tb_ext (fun i => ?_)) hz
                rw [Nat.zero_testBit]
                cases hq : now.testBit i with
                | false => rfl
                | true => exact absurd ⟨i, hq⟩ hy
            obtain ⟨d, hd⟩ := hex
            have hdl : d < 2 * L := by
              rcases Nat.lt_or_ge d (2 * L) with z | z
              · exact z
              · rw [tb_out hnb z] at hd; cases hd
            have := cnt_less (p := fun i => seen.testBit i) (q := fun i => (seen ||| now).testBit i) (n := 2 * L) (c := d) hdl (fun i _ hi => by
              show (seen ||| now).testBit i = true
              rw [Nat.testBit_or, show seen.testBit i = true from hi]; rfl) (by show (seen ||| now).testBit d = true; rw [Nat.testBit_or, hd, Bool.or_true]) (by
              show seen.testBit d = false
              cases hq : seen.testBit d with
              | false => rfl
              | true =>
                obtain ⟨j, j1, j2, j3⟩ := (hB d).mp hq
                exact absurd j3 (((hA d).mp hd).2 j j1 j2))
            omega
  refine outer m 0 (F 47 c) 1 hR (Nat.le_refl 1) (Nat.two_pow_pos _) (fun d => ?_) (fun d => ?_) (fun j h1 h2 => by omega) (Nat.zero_le _)
  · rw [ht c hc d]
    constructor
    · intro z
      exact ⟨⟨d, z, rfl⟩, fun j h1 h2 => by omega⟩
    · rintro ⟨⟨e, h1, h2⟩, _⟩
      rw [← show e = d from h2]; exact h1
  · rw [Nat.zero_testBit]
    exact ⟨fun z => (by cases z), fun ⟨j, h1, h2, _⟩ => by omega⟩
theorem s_layTurns (hN : nt_ok nn L E) (hI : mgi G nn L E st u) (h : Cl k_M_layTurns [(2, 175)] G v G') : v = (2, 0) ∧ fxo [192] G G' ∧ mtn G' L (trn L E st u) (2 * L) := by
  obtain ⟨n, h⟩ := c_M_layTurns h
  obtain ⟨m, hm2, hR⟩ := q_M_layTurns_0 h
  have hL := hN.2.1
  have kp : ∀ G2 : fx_F, fxo [192] G G2 → mgi G2 nn L E st u := fun G2 ho => hI.keep ho (by decide) (by decide) (by decide) (by decide) (by decide)
  have inner : ∀ (n : Nat) (G2 : fx_F) (c d : Nat), Rn n k_M_layTurns 19 [(2, 175), (0, c), (0, d)] [] G2 v G' → c < 2 * L → d ≤ 2 * L → fxo [192] G G2 → mtn G2 L (trn L E st u) c → (∀ j, (G2 192 c).testBit j = true ↔ j < d ∧ trn L E st u c j) → ∃ m G3, m < n ∧ Rn m k_M_layTurns 2 [(2, 175), (0, c + 1), (3, 0)] [] G3 v G' ∧ fxo [192] G G3 ∧ mtn G3 L (trn L E st u) (c + 1) := by
    intro n
    induction n using Nat.strongRecOn with
    | ind n ih =>
      intro G2 c d h hc hd ho hA hJ
      obtain ⟨km, ks, ku⟩ := kp G2 ho
      have Q := q_M_layTurns_19 h
      rw [km.2.2.1, b_mul (show 2 * L < 4294967296 by clear Q; omega)] at Q
      rcases Nat.lt_or_ge d (2 * L) with hl | hl
      · obtain ⟨n1, G3, c1, q1, q2⟩ := Q.2 (by rw [b_lt (by clear Q; omega) (by clear Q; omega)]; exact hl)
        clear Q
        rw [b_add (show d + 1 < 4294967296 by clear q1 q2; omega)] at q1 q2
        obtain ⟨a1, a2⟩ := s_isLawful (st := st) hN hc hl km ks ku c1
        subst a1
        rcases a2 with ⟨e, t⟩ | ⟨e, t⟩
        · cases e
          obtain ⟨m, hm, hR⟩ := q2 (by decide)
          clear q1 q2
          have hlt := p40 hL (show G3 192 c < 2 ^ (2 * L) from tb_lt (fun i hi => by have := ((hJ i).mp hi).1; omega))
          rw [j_add1 (by omega) (by omega)] at hR
          obtain ⟨m', G4, r1, r2⟩ := ih m hm _ c (d + 1) hR hc hl (ho.wr (by decide)) (fun c' hc' j => by rw [fu_i (by omega)]; exact hA c' hc' j) (fun j => by
            rw [fu_same, tb_or, Bool.or_eq_true, hJ j, decide_eq_true_iff]
            constructor
            · rintro (⟨h1, h2⟩ | h1)
              · exact ⟨by omega, h2⟩
              · subst h1; exact ⟨by omega, t⟩
            · rintro ⟨h1, h2⟩
              by_cases e : j = d
              · exact Or.inr e
              · exact Or.inl ⟨by omega, h2⟩)
          exact ⟨m', G4, by omega, r2⟩
        · cases e
          obtain ⟨m, hm, hR⟩ := q1 rfl
          clear q1 q2
          obtain ⟨m', G4, r1, r2⟩ := ih m hm _ c (d + 1) hR hc hl ho hA (fun j => by
            rw [hJ j]
            constructor
            · rintro ⟨h1, h2⟩; exact ⟨by omega, h2⟩
            · rintro ⟨h1, h2⟩
              refine ⟨?_, h2⟩
              by_cases e : j = d
              · subst e; exact absurd h2 t
              · omega)
          exact ⟨m', G4, by omega, r2⟩
      · obtain ⟨m, hm, hR⟩ := Q.1 (by rw [b_le (by clear Q; omega) (by clear Q; omega)]; exact hl)
        clear Q
        rw [b_add (show c + 1 < 4294967296 by omega)] at hR
        refine ⟨m, G2, hm, hR, ho, fun c' hc' j => ?_⟩
        by_cases e : c' = c
        · subst e
          rw [hJ j]
          exact ⟨fun z => z.2, fun z => ⟨by have := z.2.1; omega, z⟩⟩
        · exact hA c' (by omega) j
  have outer : ∀ (n : Nat) (G2 : fx_F) (c : Nat), Rn n k_M_layTurns 2 [(2, 175), (0, c), (3, 0)] [] G2 v G' → c ≤ 2 * L → fxo [192] G G2 → mtn G2 L (trn L E st u) c → v = (2, 0) ∧ fxo [192] G G' ∧ mtn G' L (trn L E st u) (2 * L) := by
    intro n
    induction n using Nat.strongRecOn with
    | ind n ih =>
      intro G2 c h hc ho hA
      obtain ⟨km, ks, ku⟩ := kp G2 ho
      have Q := q_M_layTurns_2 h
      rw [km.2.2.1, b_mul (show 2 * L < 4294967296 by clear Q; omega)] at Q
      rcases Nat.lt_or_ge c (2 * L) with hl | hl
      · obtain ⟨m, hm, hR⟩ := Q.2 (by rw [b_lt (by clear Q; omega) (by clear Q; omega)]; exact hl)
        clear Q
        obtain ⟨m', G3, r1, r2, r3, r4⟩ := inner m _ c 0 hR hl (Nat.zero_le _) (ho.wr (by decide)) (fun c' hc' j => by rw [fu_i (by omega)]; exact hA c' hc' j) (fun j => by
          rw [fu_same, Nat.zero_testBit]
          exact ⟨fun z => (by cases z), fun z => absurd z.1 (Nat.not_lt_zero _)⟩)
        exact ih m' (by omega) G3 (c + 1) r2 hl r3 r4
      · obtain ⟨x1, x2⟩ := Q.1 (by rw [b_le (by clear Q; omega) (by clear Q; omega)]; exact hl)
        clear Q
        have : c = 2 * L := by omega
        subst this
        subst x2
        exact ⟨x1, ho, hA⟩
  exact outer m G 0 hR (Nat.zero_le _) fxo.rf (fun c' hc' => absurd hc' (Nat.not_lt_zero _))
end RING
end
section
/-! ring, rings keep the relation and agree (names of other parts: bnd01) -/
section RINGS
variable {nn L R N : Nat} {E C : Nat → Nat} {v v2 : fx_V} {F F' G G' : fx_F} {T : Nat → Nat → Prop}
/-- the length of the shortest ring through c -/
def rgl (T : Nat → Nat → Prop) (c w : Nat) : Prop := (∃ k, 1 ≤ k ∧ k ≤ 41 ∧ pm T k c c ∧ w = k) ∨ ((∀ k, ¬ pth T (k + 1) c c) ∧ w = 4294967295)
theorem rgl_fun {c w w' : Nat} (h : rgl T c w) (h2 : rgl T c w') : w = w' := by
  rcases h with ⟨k, a, b, d, e⟩ | ⟨a, e⟩ <;> rcases h2 with ⟨k', a', b', d', e'⟩ | ⟨a', e'⟩
  · rcases Nat.lt_trichotomy k k' with z | z | z
    · exact absurd d.1 (d'.2 k a z)
    · omega
    · exact absurd d'.1 (d.2 k' a' z)
  · have := a' (k - 1)
    rw [show k - 1 + 1 = k by omega] at this
    exact absurd d.1 this
  · have := a (k' - 1)
    rw [show k' - 1 + 1 = k' by omega] at this
    exact absurd d'.1 this
  · omega
/-- the class's turns by its own rules -/
theorem lr.turns (h : lr F G nn L E C N R) {F1 : fx_F} (hc : Cl k_Tu_take [(2, 45), (0, F (F 2 13) 1), (0, F (F 2 13) 1), (0, F (F 2 13) 2)] F v F1) : fxo [46, 47] F F1 ∧ ontos F1 L (trn L E (bts (F (F 2 13) 2)) (bts (F (F 2 13) 1))) (2 * L) := by
  have hb := sc_lt h.1.1 h.2.2.2.1.2
  obtain ⟨t1, t2⟩ := s_take h.1.1 (show F (F 2 13) 1 < 2147483648 by omega) (show F (F 2 13) 1 < 2147483648 by omega) (show F (F 2 13) 2 < 2147483648 by omega) h.2.1.1 hc
  exact ⟨t1, fun c hc j => (t2 c hc j).trans ⟨fun z => z.elim id id, Or.inl⟩⟩
theorem lr.trn (h : lr F G nn L E C N R) (hF : fxo [46, 47] F F') (hG : fxo [192] G G') : lr F' G' nn L E C N R ∧ sF F F' ∧ sG G G' := h.fr (fun p i hp => hF p i (by unfold qF at hp; simp; omega)) (h.2.2.2.2.1.eq (fun t i ht => hF _ i (by simp; omega))) (h.2.2.2.2.2.eq (fun t i ht => hF _ i (by simp; omega))) (fun p i hp _ => hG p i (by unfold qG at hp; simp; omega)) (fun i _ => hG 175 i (by decide))
theorem o_ring {a : Nat} (ha : a < 4294967296) (h : lr F G nn L E C N R) (hF : Cl k_T_ring [(2, 2), (0, a)] F v F') (hG : Cl k_M_ring [(2, 175), (0, a)] G v2 G') : v = v2 ∧ lr F' G' nn L E C N R ∧ sF F F' ∧ sG G G' := by
  have hL := h.1.1.2.1
  have hN := h.1.1
  obtain ⟨nF, hF⟩ := c_T_ring hF
  obtain ⟨nG, hG⟩ := c_M_ring hG
  have Q := q_T_ring_0 hF
  have QG := q_M_ring_0 hG
  rw [h.2.1.1.2.1, b_mul (show 2 * L < 4294967296 by clear Q QG; omega)] at Q
  rw [h.2.2.1.1.2.2.1, b_mul (show 2 * L < 4294967296 by clear Q QG; omega)] at QG
  have no : v = (0, 4294967295) ∧ F' = F → v2 = (0, 4294967295) ∧ G' = G → v = v2 ∧ lr F' G' nn L E C N R ∧ sF F F' ∧ sG G G' := by
    rintro ⟨x1, x2⟩ ⟨y1, y2⟩
    subst x2
    subst y2
    exact ⟨x1.trans y1.symm, h, sF.rf, sG.rf⟩
  by_cases hl : a < 2 * L
  · obtain ⟨i1, i2, i3⟩ := in_y hl (show 2 * L ≤ 40 by clear Q QG; omega)
    obtain ⟨F1, c1, n2, F2, c2, x1, x2⟩ := (Q.2 i1).2 i2
    obtain ⟨G1, d1, m2, G2, d2, y1, y2⟩ := (QG.2 i1).2 i3
    clear Q QG
    obtain ⟨t1, t2⟩ := h.turns c1
    obtain ⟨-, u1, u2⟩ := s_layTurns hN (lr.mgi h) d1
    have hT : ∀ c d, trn L E (bts (F (F 2 13) 2)) (bts (F (F 2 13) 1)) c d → c < 2 * L ∧ d < 2 * L := fun c d z => ⟨z.1, z.2.1⟩
    obtain ⟨w1, w2⟩ := s_shortRing hN hT (h.2.1.1.keep t1 (by decide) (by decide) (by decide)) hl t2 c2
    obtain ⟨w3, w4⟩ := s_roundOf hN hT (h.2.2.1.1.keep u1 (by decide) (by decide) (by decide) (by decide)) hl u2 d2
    subst w1
    subst w3
    have r1 : rgl (trn L E (bts (F (F 2 13) 2)) (bts (F (F 2 13) 1))) a n2 := by
      rcases w2 with ⟨k, a1, a2, a3, a4⟩ | ⟨a1, a2⟩
      · cases a4; exact Or.inl ⟨_, a1, a2, a3, rfl⟩
      · cases a2; exact Or.inr ⟨a1, rfl⟩
    have r2 : rgl (trn L E (bts (F (F 2 13) 2)) (bts (F (F 2 13) 1))) a m2 := by
      rcases w4 with ⟨k, a1, a2, a3, a4⟩ | ⟨a1, a2⟩
      · cases a4; exact Or.inl ⟨_, a1, a2, a3, rfl⟩
      · cases a2; exact Or.inr ⟨a1, rfl⟩
    have := rgl_fun r1 r2
    subst this
    subst x2
    subst y2
    exact ⟨x1.trans y1.symm, h.trn t1 u1⟩
  · rcases in_n hl ha (show 2 * L ≤ 40 by clear Q QG; omega) with z | ⟨z1, z2, z3⟩
    · exact no (Q.1 z) (QG.1 z)
    · exact no ((Q.2 z1).1 z2) ((QG.2 z1).1 z3)
theorem o_rings (h : lr F G nn L E C N R) (hF : Cl k_T_rings [(2, 2)] F v F') (hG : Cl k_M_rings [(2, 175)] G v2 G') : v = v2 ∧ lr F' G' nn L E C N R ∧ sF F F' ∧ sG G G' := by
  have hL := h.1.1.2.1
  have hN := h.1.1
  obtain ⟨nF, hF⟩ := c_T_rings hF
  obtain ⟨nG, hG⟩ := c_M_rings hG
  obtain ⟨F1, c1, mF, -, hRF⟩ := q_T_rings_0 hF
  obtain ⟨G1, d1, mG, -, hRG⟩ := q_M_rings_0 hG
  obtain ⟨t1, t2⟩ := h.turns c1
  obtain ⟨-, u1, u2⟩ := s_layTurns hN (lr.mgi h) d1
  have hT : ∀ c d, trn L E (bts (F (F 2 13) 2)) (bts (F (F 2 13) 1)) c d → c < 2 * L ∧ d < 2 * L := fun c d z => ⟨z.1, z.2.1⟩
  have hcn := h.2.1.1.keep t1 (by decide) (by decide) (by decide)
  have hmn := h.2.2.1.1.keep u1 (by decide) (by decide) (by decide) (by decide)
  have lp : ∀ (m i : Nat), i + m = 2 * L → ∀ (nF nG w : Nat), Rn nF k_T_rings 32 [(2, 2), (0, w), (0, i)] [] F1 v F' → Rn nG k_M_rings 8 [(2, 175), (0, w), (0, i)] [] G1 v2 G' → w ≤ i → v = v2 ∧ F' = F1 ∧ G' = G1 := by
    intro m
    induction m with
    | zero =>
      intro i hi nF nG w hF hG hw
      have Q := q_T_rings_32 hF
      have QG := q_M_rings_8 hG
      rw [hcn.2.1, b_mul (show 2 * L < 4294967296 by clear Q QG; omega)] at Q
      rw [hmn.2.2.1, b_mul (show 2 * L < 4294967296 by clear Q QG; omega)] at QG
      obtain ⟨x1, x2⟩ := Q.1 (by rw [b_le (by clear Q QG; omega) (by clear Q QG; omega)]; clear Q QG; omega)
      obtain ⟨y1, y2⟩ := QG.1 (by rw [b_le (by clear Q QG; omega) (by clear Q QG; omega)]; clear Q QG; omega)
      exact ⟨x1.trans y1.symm, x2, y2⟩
    | succ m ih =>
      intro i hi nF nG w hF hG hw
      have Q := q_T_rings_32 hF
      have QG := q_M_rings_8 hG
      rw [hcn.2.1, b_mul (show 2 * L < 4294967296 by clear Q QG; omega)] at Q
      rw [hmn.2.2.1, b_mul (show 2 * L < 4294967296 by clear Q QG; omega)] at QG
      have hlt : i < 2 * L := by clear Q QG; omega
      obtain ⟨n1, F2, c2, Q1, Q2⟩ := Q.2 (by rw [b_lt (by clear Q QG; omega) (by clear Q QG; omega)]; exact hlt)
      obtain ⟨m1, G2, d2, QG1, QG2⟩ := QG.2 (by rw [b_lt (by clear Q QG; omega) (by clear Q QG; omega)]; exact hlt)
      clear Q QG
      obtain ⟨w1, w2⟩ := s_shortRing hN hT hcn hlt t2 c2
      obtain ⟨w3, w4⟩ := s_roundOf hN hT hmn hlt u2 d2
      subst w1
      subst w3
      rw [b_add (show i + 1 < 4294967296 by clear Q1 Q2 QG1 QG2; omega), b_add (show w + 1 < 4294967296 by clear Q1 Q2 QG1 QG2; omega)] at Q2
      rw [b_add (show i + 1 < 4294967296 by clear Q1 Q2 QG1 QG2; omega)] at Q1
      rw [b_add (show i + 1 < 4294967296 by clear Q1 Q2 QG1 QG2; omega), b_add (show w + 1 < 4294967296 by clear Q1 Q2 QG1 QG2; omega)] at QG2
      rw [b_add (show i + 1 < 4294967296 by clear Q1 Q2 QG1 QG2; omega), b_add (show w + 0 < 4294967296 by clear Q1 Q2 QG1 QG2; omega), Nat.add_zero] at QG1
      rcases w2 with ⟨k, a1, a2, a3, a4⟩ | ⟨a1, a2⟩
      · rcases w4 with ⟨k', e1, e2, e3, e4⟩ | ⟨e1, e2⟩
        · have hk1 : n1 = k := by cases a4; rfl
          have hk2 : m1 = k' := by cases e4; rfl
          obtain ⟨m, -, hR⟩ := Q2 (by clear Q1 Q2 QG1 QG2; omega)
          obtain ⟨m', -, hR'⟩ := QG2 (by rw [b_lt (by decide) (by clear Q1 Q2 QG1 QG2; omega)]; clear Q1 Q2 QG1 QG2; omega)
          exact ih (i + 1) (by clear Q1 Q2 QG1 QG2; omega) _ _ (w + 1) hR hR' (by clear Q1 Q2 QG1 QG2; omega)
        · have := e1 (k - 1)
          rw [show k - 1 + 1 = k by clear Q1 Q2 QG1 QG2; omega] at this
          exact absurd a3.1 this
      · rcases w4 with ⟨k', e1, e2, e3, e4⟩ | ⟨e1, e2⟩
        · have := a1 (k' - 1)
          rw [show k' - 1 + 1 = k' by clear Q1 Q2 QG1 QG2; omega] at this
          exact absurd e3.1 this
        · cases a2
          cases e2
          obtain ⟨m, -, hR⟩ := Q1 rfl
          obtain ⟨m', -, hR'⟩ := QG1 (by rw [b_le_m2 (by decide)]; trivial)
          exact ih (i + 1) (by clear Q1 Q2 QG1 QG2; omega) _ _ w hR hR' (by clear Q1 Q2 QG1 QG2; omega)
  obtain ⟨x1, x2, x3⟩ := lp (2 * L) 0 (Nat.zero_add _) mF mG 0 hRF hRG (Nat.le_refl 0)
  subst x2
  subst x3
  exact ⟨x1, h.trn t1 u1⟩
end RINGS
end
section
/-! node keeps the relation and agrees (names of other parts: bnd01, o_plan) -/
section NODE
variable {nn L R N : Nat} {E C : Nat → Nat} {v v2 : fx_V} {F F' G G' : fx_F}
theorem s_tri (x y : Nat) : (s_lt x y ∧ ¬ s_le y x) ∨ (s_le y x ∧ ¬ s_lt x y) := by
  rw [s_lt_eq, s_le_eq]
  omega
theorem s_irr (x : Nat) : ¬ s_lt x x ∧ s_le x x := by
  rw [s_lt_eq, s_le_eq]
  omega
theorem above2 (hnn : nn ≤ 10) {a : Nat} (ha : a < nn) {Rk : Nat → Nat} (hc : F 3 0 = nn) (hF2 : ∀ u, u < nn → F 22 u = Rk u) (hm : G 177 (G 175 9) = nn) (hG2 : ∀ u, u < nn → G 189 u = Rk u) (hF : Cl k_Or_countAbove [(2, 19), (0, a)] F v F') (hG : Cl k_M_aboveOf [(2, 175), (0, a)] G v2 G') : v = v2 ∧ F' = F ∧ G' = G := by
  obtain ⟨nF, hF⟩ := c_Or_countAbove hF
  obtain ⟨nG, hG⟩ := c_M_aboveOf hG
  obtain ⟨mF, -, hRF⟩ := q_Or_countAbove_0 hF
  obtain ⟨mG, -, hRG⟩ := q_M_aboveOf_0 hG
  have lp : ∀ (m i : Nat), i + m = nn → ∀ (nF nG w : Nat), Rn nF k_Or_countAbove 4 [(2, 19), (0, a), (0, w), (0, i)] [] F v F' → Rn nG k_M_aboveOf 4 [(2, 175), (0, a), (0, w), (0, i)] [] G v2 G' → w ≤ i → v = v2 ∧ F' = F ∧ G' = G := by
    intro m
    induction m with
    | zero =>
      intro i hi nF nG w hF hG hw
      have Q := q_Or_countAbove_4 hF
      have QG := q_M_aboveOf_4 hG
      rw [hc] at Q
      rw [hm] at QG
      obtain ⟨x1, x2⟩ := Q.1 (by rw [b_le (by clear Q QG; omega) (by clear Q QG; omega)]; clear Q QG; omega)
      obtain ⟨y1, y2⟩ := QG.1 (by rw [b_le (by clear Q QG; omega) (by clear Q QG; omega)]; clear Q QG; omega)
      exact ⟨x1.trans y1.symm, x2, y2⟩
    | succ m ih =>
      intro i hi nF nG w hF hG hw
      have Q := q_Or_countAbove_4 hF
      have QG := q_M_aboveOf_4 hG
      have hlt : i < nn := by clear Q QG; omega
      rw [hc, hF2 i hlt, hF2 a ha] at Q
      rw [hm, hG2 i hlt, hG2 a ha] at QG
      replace Q := Q.2 (by rw [b_lt (by clear Q QG; omega) (by clear Q QG; omega)]; exact hlt)
      replace QG := QG.2 (by rw [b_lt (by clear Q QG; omega) (by clear Q QG; omega)]; exact hlt)
      rw [b_add (show i + 1 < 4294967296 by clear Q QG; omega), b_add (show w + 1 < 4294967296 by clear Q QG; omega)] at Q
      rw [b_add (show i + 1 < 4294967296 by clear Q QG; omega), b_add (show w + 1 < 4294967296 by clear Q QG; omega), b_add (show w + 0 < 4294967296 by clear Q QG; omega), Nat.add_zero] at QG
      have go0 : (∃ m, m < nF ∧ Rn m k_Or_countAbove 4 [(2, 19), (0, a), (0, w), (0, i + 1)] [] F v F') → (∃ m, m < nG ∧ Rn m k_M_aboveOf 4 [(2, 175), (0, a), (0, w), (0, i + 1)] [] G v2 G') → v = v2 ∧ F' = F ∧ G' = G := by
        clear Q QG
        rintro ⟨m1, -, h1⟩ ⟨m2, -, h2⟩
        exact ih (i + 1) (by omega) _ _ w h1 h2 (by omega)
      have go1 : (∃ m, m < nF ∧ Rn m k_Or_countAbove 4 [(2, 19), (0, a), (0, w + 1), (0, i + 1)] [] F v F') → (∃ m, m < nG ∧ Rn m k_M_aboveOf 4 [(2, 175), (0, a), (0, w + 1), (0, i + 1)] [] G v2 G') → v = v2 ∧ F' = F ∧ G' = G := by
        clear Q QG
        rintro ⟨m1, -, h1⟩ ⟨m2, -, h2⟩
        exact ih (i + 1) (by omega) _ _ (w + 1) h1 h2 (by omega)
      by_cases e : i = a
      · subst e
        have := s_irr (Rk i)
        exact go0 (((Q.2 this.2).2 rfl).1 (s_irr i).2) (QG.1 rfl)
      · replace QG := QG.2 e
        rcases s_tri (Rk i) (Rk a) with ⟨z, _⟩ | ⟨z, _⟩
        · exact go1 (Q.1 z) (QG.1 z)
        · replace Q := Q.2 z
          replace QG := QG.2 z
          by_cases e2 : Rk i = Rk a
          · replace Q := Q.2 e2
            replace QG := QG.2 e2
            rcases s_tri i a with ⟨y, _⟩ | ⟨y, _⟩
            · exact go1 (Q.2 y) (QG.2 y)
            · exact go0 (Q.1 y) (QG.1 y)
          · exact go0 (Q.1 e2) (QG.1 e2)
  exact lp nn 0 (Nat.zero_add nn) mF mG 0 hRF hRG (Nat.le_refl 0)
theorem at2 {q a : Nat} (hnn : nn ≤ 10) (ha : a < nn) (hp : ∀ j, j < 12 → pk F q (G 176) nn L j) (hF : Cl k_St_countAt [(2, q), (0, a)] F v F') (hG : Cl k_M_packetsAt [(2, 175), (0, a)] G v2 G') : v = v2 ∧ F' = F ∧ G' = G := by
  obtain ⟨nF, hF⟩ := c_St_countAt hF
  obtain ⟨nG, hG⟩ := c_M_packetsAt hG
  obtain ⟨mF, -, hRF⟩ := q_St_countAt_0 hF
  obtain ⟨mG, -, hRG⟩ := q_M_packetsAt_0 hG
  have lp : ∀ (m i : Nat), i + m = 12 → ∀ (nF nG w : Nat), Rn nF k_St_countAt 4 [(2, q), (0, a), (0, w), (0, i)] [] F v F' → Rn nG k_M_packetsAt 4 [(2, 175), (0, a), (0, w), (0, i)] [] G v2 G' → w ≤ i → v = v2 ∧ F' = F ∧ G' = G := by
    intro m
    induction m with
    | zero =>
      intro i hi nF nG w hF hG hw
      have i12 : i = 12 := by omega
      subst i12
      obtain ⟨x1, x2⟩ := (q_St_countAt_4 hF).1 (s_irr 12).2
      obtain ⟨y1, y2⟩ := (q_M_packetsAt_4 hG).1 (s_irr 12).2
      exact ⟨x1.trans y1.symm, x2, y2⟩
    | succ m ih =>
      intro i hi nF nG w hF hG hw
      have Q := q_St_countAt_4 hF
      have QG := q_M_packetsAt_4 hG
      have hlt : i < 12 := by clear Q QG; omega
      replace Q := Q.2 (by rw [b_lt (by clear Q QG; omega) (by decide)]; exact hlt)
      replace QG := QG.2 (by rw [b_lt (by clear Q QG; omega) (by decide)]; exact hlt)
      rw [b_add (show i + 1 < 4294967296 by clear Q QG; omega), b_add (show w + 1 < 4294967296 by clear Q QG; omega)] at Q
      rw [b_add (show i + 1 < 4294967296 by clear Q QG; omega), b_add (show w + 1 < 4294967296 by clear Q QG; omega), b_add (show w + 0 < 4294967296 by clear Q QG; omega), Nat.add_zero, b_add (show 41 + i < 4294967296 by clear Q QG; omega), b_add (show 65 + i < 4294967296 by clear Q QG; omega)] at QG
      have hpi := hp i hlt
      rcases hpi with ⟨p1, p2⟩ | ⟨p1, p2, p3, _⟩
      · obtain ⟨m1, -, h1⟩ := Q.1 (by rw [p1]; clear Q QG; omega)
        obtain ⟨m2, -, h2⟩ := QG.1 (by rw [p2]; decide)
        exact ih (i + 1) (by clear Q QG; omega) _ _ w h1 h2 (by clear Q QG; omega)
      · replace QG := QG.2 p1
        rw [p2] at QG
        by_cases e : F (q + 1) i = a
        · obtain ⟨m1, -, h1⟩ := Q.2 e
          obtain ⟨m2, -, h2⟩ := QG.2 e
          exact ih (i + 1) (by clear Q QG; omega) _ _ (w + 1) h1 h2 (by clear Q QG; omega)
        · obtain ⟨m1, -, h1⟩ := Q.1 e
          obtain ⟨m2, -, h2⟩ := QG.1 e
          exact ih (i + 1) (by clear Q QG; omega) _ _ w h1 h2 (by clear Q QG; omega)
  exact lp 12 0 rfl mF mG 0 hRF hRG (Nat.le_refl 0)
theorem o_node {a b : Nat} (ha : a < 4294967296) (h : lr F G nn L E C N R) (hF : Cl k_T_node [(2, 2), (0, a), (0, b)] F v F') (hG : Cl k_M_node [(2, 175), (0, a), (0, b)] G v2 G') : v = v2 ∧ lr F' G' nn L E C N R ∧ sF F F' ∧ sG G G' := by
  have hL := h.1.1.2.1
  have hN := h.1.1
  have hn := hN.1
  have hs0 := h.2.2.2.1.2
  obtain ⟨nF, hF⟩ := c_T_node hF
  obtain ⟨nG, hG⟩ := c_M_node hG
  have Q := q_T_node_0 hF
  have QG := q_M_node_0 hG
  rw [h.2.1.1.1] at Q
  rw [h.2.2.1.1.2.1] at QG
  have no : v = (0, 4294967294) ∧ F' = F → v2 = (0, 4294967294) ∧ G' = G → v = v2 ∧ lr F' G' nn L E C N R ∧ sF F F' ∧ sG G G' := by
    rintro ⟨x1, x2⟩ ⟨y1, y2⟩
    subst x2
    subst y2
    exact ⟨x1.trans y1.symm, h, sF.rf, sG.rf⟩
  by_cases hl : a < nn
  · obtain ⟨i1, i2, i3⟩ := in_y hl (show nn ≤ 40 by clear Q QG; omega)
    obtain ⟨F1, c1, Q0, Q1, Q2, Q3, Q4, Q5, -⟩ := (Q.2 i1).2 i2
    obtain ⟨G1, d1, P0, P1, P2, P3, P4, P5, -⟩ := (QG.2 i1).2 i3
    clear Q QG
    have hb := sc_lt hN hs0
    have hS : S0 (F 2 13) := h.2.2.2.1.1.1.1
    have hr0 := hs0.1
    have hrr : F (F 2 13) 0 < nn ∨ nn = 0 := by rw [hr0.1]; exact hr0.2.2
    rw [← hr0.1] at d1
    obtain ⟨t1, t2⟩ := s_rate hN h.1.2.1 h.1.2.2.1 (s := F (F 2 13) 2) (by clear Q0 Q1 Q2 Q3 Q4 Q5 P0 P1 P2 P3 P4 P5; omega) hrr (by rw [hr0.1]; exact hr0.2.1) h.2.1.1 h.2.1.2.2.1 c1
    obtain ⟨u1, u2⟩ := s_layRanks (st := bts (F (F 2 13) 2)) hN h.1.2.1 h.1.2.2.1 hrr (by rw [hr0.1]; exact hr0.2.1) h.2.2.1.1 h.2.2.1.2.1 (fun l hl => mst_sc (hs0.2.2.1.2 l hl)) d1
    have fin : ∀ z, v = (0, z) ∧ F' = F1 → v2 = (0, z) ∧ G' = G1 → v = v2 ∧ lr F' G' nn L E C N R ∧ sF F F' ∧ sG G G' := by
      rintro z ⟨a1, a2⟩ ⟨b3, b4⟩
      subst a2
      subst b4
      exact ⟨a1.trans b3.symm, h.fr (fun p i hp => t1 p i (by unfold qF at hp; simp; omega)) (h.2.2.2.2.1.eq (fun t i ht => t1 _ i (by simp; omega))) (h.2.2.2.2.2.eq (fun t i ht => t1 _ i (by simp; omega))) (fun p i hp _ => u1 p i (by unfold qG at hp; simp; omega)) (fun i _ => u1 175 i (by decide))⟩
    obtain ⟨f1, f2, f3⟩ := t2 a hl
    obtain ⟨g1, g2⟩ := u2 a hl
    by_cases b5 : b < 5
    · have hb5 : b = 0 ∨ b = 1 ∨ b = 2 ∨ b = 3 ∨ b = 4 := by clear Q0 Q1 Q2 Q3 Q4 Q5 P0 P1 P2 P3 P4 P5; omega
      rcases hb5 with e | e | e | e | e
      · have x := Q1 e
        have y := P1 e
        rw [f1] at x
        rw [g1] at y
        exact fin _ x y
      · have x := Q2 e
        have y := P2 e
        rw [f3] at x
        rw [g2] at y
        exact fin _ x y
      · have x := Q3 e
        obtain ⟨n2, G2, c2, y1, y2⟩ := P3 e
        obtain ⟨w1, w2⟩ := s_linksOf (st := bts (F (F 2 13) 2)) hN (h.2.2.1.1.keep u1 (by decide) (by decide) (by decide) (by decide)) (fun l hl => by have := mst_sc (hs0.2.2.1.2 l hl); rw [this]; unfold mst; rw [u1 176 _ (by decide)]) c2
        subst w2
        cases w1
        rw [f2] at x
        exact fin _ x ⟨y1, y2⟩
      · obtain ⟨n2, F2, c2, x1, x2⟩ := Q4 e
        obtain ⟨m2, G2, d2, y1, y2⟩ := P4 e
        obtain ⟨w1, w2, w3⟩ := above2 hn hl (Rk := rk C N (fr L E (bts (F (F 2 13) 2)) (F (F 2 13) 0)) (fun u => dgc E (bts (F (F 2 13) 2)) u (2 * L))) ((t1 3 0 (by decide)).trans h.2.1.1.1) (fun u hu => (t2 u hu).2.2) (by rw [u1 177 _ (by decide), u1 175 _ (by decide)]; exact h.2.2.1.1.2.1) (fun u hu => (u2 u hu).2) c2 d2
        subst w2
        subst w3
        cases w1
        exact fin _ ⟨x1, x2⟩ ⟨y1, y2⟩
      · obtain ⟨n2, F2, c2, x1, x2⟩ := Q5 e
        obtain ⟨m2, G2, d2, y1, y2⟩ := P5 e
        have e2 : F1 2 13 = F 2 13 := t1 2 13 (by decide)
        have hS' : 53 ≤ F 2 13 := by clear Q0 Q1 Q2 Q3 Q4 Q5 P0 P1 P2 P3 P4 P5; unfold S0 at hS; omega
        rw [e2] at c2
        have hp := hs0.2.2.2.2
        obtain ⟨w1, w2, w3⟩ := at2 (L := L) hn hl (fun j hj => by
          have := hp j hj
          have ee : ∀ t i, F1 (F 2 13 + t) i = F (F 2 13 + t) i := fun t i => t1 _ i (by simp; clear Q0 Q1 Q2 Q3 Q4 Q5 P0 P1 P2 P3 P4 P5; omega)
          unfold pk at *
          rw [ee, ee, ee, ee, u1 176 _ (by decide), u1 176 _ (by decide), u1 176 _ (by decide), u1 176 _ (by decide), u1 176 _ (by decide)]
          exact this) c2 d2
        subst w2
        subst w3
        cases w1
        exact fin _ ⟨x1, x2⟩ ⟨y1, y2⟩
    · exact fin _ (Q0 (Or.inr (by clear Q0 Q1 Q2 Q3 Q4 Q5 P0 P1 P2 P3 P4 P5; omega))) (P0 (Or.inr (by clear Q0 Q1 Q2 Q3 Q4 Q5 P0 P1 P2 P3 P4 P5; omega)))
  · rcases in_n hl ha (show nn ≤ 40 by clear Q QG; omega) with z | ⟨z1, z2, z3⟩
    · exact no (Q.1 z) (QG.1 z)
    · exact no ((Q.2 z1).1 z2) ((QG.2 z1).1 z3)
end NODE
end
section
/-! about keeps the relation and agrees, but for 7 (names of other parts: bnd01) -/
section ABOUT
variable {nn L R N : Nat} {E C : Nat → Nat} {v v2 : fx_V} {F F' G G' : fx_F}
theorem o_about {b : Nat} (h : lr F G nn L E C N R) (hu : F 3 4 = G 181 (G 175 9)) (hsz : F 10 1 = G 175 11) (hF : Cl k_T_about [(2, 2), (0, b)] F v F') (hG : Cl k_M_about [(2, 175), (0, b)] G v2 G') : (b ≠ 7 → v = v2) ∧ F' = F ∧ G' = G := by
  have hL := h.1.1.2.1
  have hN := h.1.1
  have hn := hN.1
  have hs0 := h.2.2.2.1.2
  obtain ⟨nF, hF⟩ := c_T_about hF
  obtain ⟨nG, hG⟩ := c_M_about hG
  obtain ⟨Q0, A0, A1, A2, A3, A4, A5, A6, A7, A8, A9, A10, A11, -⟩ := q_T_about_0 hF
  obtain ⟨P0, B0, B1, B2, B3, B4, B5, B6, B7, B8, B9, B10, B11, -⟩ := q_M_about_0 hG
  have eq : ∀ z, v = (0, z) ∧ F' = F → v2 = (0, z) ∧ G' = G → (b ≠ 7 → v = v2) ∧ F' = F ∧ G' = G := fun z x y => ⟨fun _ => x.1.trans y.1.symm, x.2, y.2⟩
  have hh := h.2.2.2.1.1.2.1
  by_cases e0 : b = 0
  · have x := A0 e0
    have y := B0 e0
    rw [h.2.1.1.1] at x
    rw [h.2.2.1.1.2.1] at y
    exact eq _ x y
  by_cases e1 : b = 1
  · have x := A1 e1
    have y := B1 e1
    rw [h.2.1.1.2.1] at x
    rw [h.2.2.1.1.2.2.1] at y
    exact eq _ x y
  by_cases e2 : b = 2
  · obtain ⟨n1, F1, c1, x1, x2⟩ := A2 e2
    obtain ⟨m1, G1, d1, y1, y2⟩ := B2 e2
    obtain ⟨w1, w2⟩ := s_cbits hL hs0.2.2.1.1 c1
    obtain ⟨w3, w4⟩ := s_mstanding hL h.2.2.1.1 hs0.2.2.1.2 d1
    subst w2
    subst w4
    cases w1
    cases w3
    exact eq _ ⟨x1, x2⟩ ⟨y1, y2⟩
  by_cases e3 : b = 3
  · obtain ⟨x1, x2⟩ := A3 e3
    obtain ⟨y1, y2⟩ := B3 e3
    rw [h.2.1.1.1] at x1 x2
    rw [h.2.2.1.1.2.1] at y1 y2
    rw [hs0.1.1] at x1
    by_cases z : nn = 0
    · exact eq _ (x2 z) (y2 z)
    · exact eq _ (x1 z) (y1 z)
  by_cases e4 : b = 4
  · have x := A4 e4
    have y := B4 e4
    rw [h.2.1.2.2.2] at x
    rw [h.2.2.1.2.2] at y
    exact eq _ x y
  by_cases e5 : b = 5
  · obtain ⟨n1, F1, c1, x1, x2⟩ := A5 e5
    obtain ⟨m1, G1, d1, y1, y2⟩ := B5 e5
    obtain ⟨w1, w2⟩ := s_ccount c1
    obtain ⟨w3, w4⟩ := s_mcount hn hs0.2.2.2.2 d1
    subst w1
    subst w3
    cases w2
    cases w4
    exact eq _ ⟨x1, x2⟩ ⟨y1, y2⟩
  by_cases e6 : b = 6
  · have x := A6 e6
    have y := B6 e6
    rw [hs0.2.2.2.1] at x
    exact eq _ x y
  by_cases e7 : b = 7
  · exact ⟨fun z => absurd e7 z, (A7 e7).2, (B7 e7).2⟩
  by_cases e8 : b = 8
  · have x := A8 e8
    have y := B8 e8
    rw [hu] at x
    exact eq _ x y
  by_cases e9 : b = 9
  · have x := A9 e9
    have y := B9 e9
    rw [← hh.2.2.1] at x
    exact eq _ x y
  by_cases e10 : b = 10
  · have x := A10 e10
    have y := B10 e10
    rw [← hh.2.2.2] at x
    exact eq _ x y
  by_cases e11 : b = 11
  · have x := A11 e11
    have y := B11 e11
    rw [hsz] at x
    exact eq _ x y
  · have hb : b < 0 ∨ 12 ≤ b := by clear Q0 A0 A1 A2 A3 A4 A5 A6 A7 A8 A9 A10 A11 P0 B0 B1 B2 B3 B4 B5 B6 B7 B8 B9 B10 B11; omega
    exact eq _ (Q0 hb) (P0 hb)
end ABOUT
end
section
/-! packet keeps the relation and agrees (names of other parts: bnd01) -/
section PACKET
variable {nn L R N : Nat} {E C : Nat → Nat} {v v2 : fx_V} {F F' G G' : fx_F}
theorem o_packet {a b : Nat} (ha : a < 4294967296) (h : lr F G nn L E C N R) (hF : Cl k_T_packet [(2, 2), (0, a), (0, b)] F v F') (hG : Cl k_M_packet [(2, 175), (0, a), (0, b)] G v2 G') : v = v2 ∧ lr F' G' nn L E C N R ∧ sF F F' ∧ sG G G' := by
  have hL := h.1.1.2.1
  have hN := h.1.1
  have hn := hN.1
  have hs0 := h.2.2.2.1.2
  have hS : S0 (F 2 13) := h.2.2.2.1.1.1.1
  have hS' : 53 ≤ F 2 13 := by unfold S0 at hS; omega
  have hb := sc_lt hN hs0
  obtain ⟨nF, hF⟩ := c_T_packet hF
  obtain ⟨nG, hG⟩ := c_M_packet hG
  have Q := q_T_packet_0 hF
  have QG := q_M_packet_0 hG
  have eq : ∀ z, v = (0, z) ∧ F' = F → v2 = (0, z) ∧ G' = G → v = v2 ∧ lr F' G' nn L E C N R ∧ sF F F' ∧ sG G G' := by
    rintro z ⟨x1, x2⟩ ⟨y1, y2⟩
    subst x2
    subst y2
    exact ⟨x1.trans y1.symm, h, sF.rf, sG.rf⟩
  by_cases hl : a < 12
  · replace Q := (Q.2 (by rw [b_le (by decide) (by clear Q QG; omega)]; exact Nat.zero_le _)).2 (by rw [b_lt (by clear Q QG; omega) (by decide)]; exact hl)
    replace QG := (QG.2 (by rw [b_le (by decide) (by clear Q QG; omega)]; exact Nat.zero_le _)).2 (by rw [b_le (by clear Q QG; omega) (by decide)]; clear Q QG; omega)
    rw [b_add (show 41 + a < 4294967296 by clear Q QG; omega), b_add (show 65 + a < 4294967296 by clear Q QG; omega), b_add (show 53 + a < 4294967296 by clear Q QG; omega), b_add (show 77 + a < 4294967296 by clear Q QG; omega), b_add (show 89 + a < 4294967296 by clear Q QG; omega)] at QG
    rcases hs0.2.2.2.2 a hl with ⟨p1, p2⟩ | ⟨p1, p2, p3, p4, p5, p6, p7, p8⟩
    · exact eq _ (Q.1 p1) (QG.1 (by rw [p2]; decide))
    · obtain ⟨Q0, A0, A1, A2, A3, A4, -⟩ := Q.2 (by clear Q QG; omega)
      obtain ⟨P0, B0, B1, B2, B3, B4, -⟩ := QG.2 p1
      clear Q QG
      rw [p2] at B0
      rw [p4] at B1
      rw [p6] at B2
      rw [p8] at B3
      by_cases e0 : b = 0
      · exact eq _ (A0 e0) (B0 e0)
      by_cases e1 : b = 1
      · exact eq _ (A1 e1) (B1 e1)
      by_cases e2 : b = 2
      · exact eq _ (A2 e2) (B2 e2)
      by_cases e3 : b = 3
      · exact eq _ (A3 e3) (B3 e3)
      by_cases e4 : b = 4
      · obtain ⟨F1, c1, x1, x2⟩ := A4 e4
        obtain ⟨G1, d1, y1, y2⟩ := B4 e4
        clear Q0 A0 A1 A2 A3 A4 P0 B0 B1 B2 B3 B4
        obtain ⟨t1, t2, t3, t4, t5, t6⟩ := h.table c1
        obtain ⟨-, u1, u2, -⟩ := s_mlayTable hN (sc_mgi hN hs0 h.2.2.1.1) d1
        have eF : ∀ p i, 53 ≤ p → F1 p i = F p i := fun p i hp => t1 p i (by simp; omega)
        have e213 : F1 2 13 = F 2 13 := t1 2 13 (by decide)
        have eG : ∀ i, G1 176 i = G 176 i := fun i => u1 176 i (by decide)
        have hm1 : mn G1 nn L E := h.2.2.1.1.keep u1 (by decide) (by decide) (by decide) (by decide)
        have hg5 : F (F 2 13 + 2) a < nn := p5
        have ix : ∀ t, t < 2 → F1 26 (i_add (i_add (i_mul (F (F 2 13 + 2) a) 20) (i_mul 2 (F (F 2 13 + 1) a))) t) = ent nn L E (bts (F (F 2 13) 2)) (bts (F (F 2 13) 1)) (F (F 2 13 + 2) a) (2 * F (F 2 13 + 1) a + t) := fun t ht2 => by
          rw [b_mul (show F (F 2 13 + 2) a * 20 < 4294967296 by omega), b_mul (show 2 * F (F 2 13 + 1) a < 4294967296 by omega), b_add (show F (F 2 13 + 2) a * 20 + 2 * F (F 2 13 + 1) a < 4294967296 by omega), b_add (show F (F 2 13 + 2) a * 20 + 2 * F (F 2 13 + 1) a + t < 4294967296 by omega), show F (F 2 13 + 2) a * 20 + 2 * F (F 2 13 + 1) a + t = 20 * F (F 2 13 + 2) a + (2 * F (F 2 13 + 1) a + t) by omega]
          exact t3 _ _ hg5 (by omega)
        have iy : ∀ t, t < 2 → G1 196 (i_add (i_add (i_mul 20 (F (F 2 13 + 2) a)) (i_mul 2 (F (F 2 13 + 1) a))) t) = ent nn L E (bts (F (F 2 13) 2)) (bts (F (F 2 13) 1)) (F (F 2 13 + 2) a) (2 * F (F 2 13 + 1) a + t) := fun t ht2 => by
          rw [b_mul (show 20 * F (F 2 13 + 2) a < 4294967296 by omega), b_mul (show 2 * F (F 2 13 + 1) a < 4294967296 by omega), b_add (show 20 * F (F 2 13 + 2) a + 2 * F (F 2 13 + 1) a < 4294967296 by omega), b_add (show 20 * F (F 2 13 + 2) a + 2 * F (F 2 13 + 1) a + t < 4294967296 by omega), Nat.add_assoc]
          exact u2 _ _ hg5 (by omega)
        rw [e213, eF _ _ (show 53 ≤ F 2 13 + 3 by omega), eF _ _ (show 53 ≤ F 2 13 + 2 by omega), eF _ _ (show 53 ≤ F 2 13 + 1 by omega), ix 0 (by decide)] at x1
        rw [e213, eF _ _ (show 53 ≤ F 2 13 + 3 by omega), eF _ _ (show 53 ≤ F 2 13 + 2 by omega), eF _ _ (show 53 ≤ F 2 13 + 1 by omega), eF _ _ hS', ix 0 (by decide), ix 1 (by decide)] at x2
        rw [eG, eG, eG, p2, p4, p6, iy 0 (by decide), iy 1 (by decide)] at y1
        rw [eG, eG, p2, p4] at y2
        have fin : ∀ z, v = (0, z) ∧ F' = F1 → v2 = (0, z) ∧ G' = G1 → v = v2 ∧ lr F' G' nn L E C N R ∧ sF F F' ∧ sG G G' := by
          rintro z ⟨a1, a2⟩ ⟨b3, b4⟩
          subst a2
          subst b4
          exact ⟨a1.trans b3.symm, h.way (t1.mono (by simp)) t5 t6 (u1.mono (by simp))⟩
        by_cases eg : F (F 2 13 + 1) a = F (F 2 13 + 2) a
        · have y := y2 eg
          have z0 : ∀ t, t < 2 → ent nn L E (bts (F (F 2 13) 2)) (bts (F (F 2 13) 1)) (F (F 2 13 + 2) a) (2 * F (F 2 13 + 1) a + t) = 4294967295 := fun t ht => tst_goal (by clear x1 x2 y1 y2; omega)
          by_cases ec : F (F 2 13 + 3) a = 4294967295
          · have x := x1 ec
            rw [z0 0 (by decide)] at x
            exact fin _ x y
          · obtain ⟨x3, x4⟩ := x2 ec
            rw [z0 1 (by decide)] at x3
            rw [z0 0 (by decide)] at x4
            by_cases eb : i_and (i_shr (F (F 2 13) 1) (i_shr (F (F 2 13 + 3) a) 1)) 1 = i_and (F (F 2 13 + 3) a) 1
            · exact fin _ (x3 eb) y
            · exact fin _ (x4 eb) y
        · obtain ⟨y3, y4⟩ := y1 eg
          by_cases ec : F (F 2 13 + 3) a = 4294967295
          · exact fin _ (x1 ec) (y3 (by rw [ec, b_neg (by decide)]; decide))
          · have hc2 := p7.resolve_left ec
            obtain ⟨x3, x4⟩ := x2 ec
            obtain ⟨y5, y6⟩ := y4 (by rw [b_pos (by clear x1 x2 y1 y2 y3 y4 x3 x4; omega)]; clear x1 x2 y1 y2 y3 y4 x3 x4; omega)
            rw [mTo hm1 hL hc2, b_div (show F (F 2 13 + 3) a < 2147483648 by clear x1 x2 y1 y2 y3 y4 x3 x4 y5 y6; omega) (by decide) (by decide), b_add (show 20 + F (F 2 13 + 3) a / 2 < 4294967296 by clear x1 x2 y1 y2 y3 y4 x3 x4 y5 y6; omega), eG, hs0.2.1.2 _ (show F (F 2 13 + 3) a / 2 < L by clear x1 x2 y1 y2 y3 y4 x3 x4 y5 y6; omega)] at y5 y6
            have hbc := bh_code (show F (F 2 13) 1 < 2147483648 by clear x1 x2 y1 y2 y3 y4 x3 x4 y5 y6; omega) (show F (F 2 13 + 3) a < 64 by clear x1 x2 y1 y2 y3 y4 x3 x4 y5 y6; omega)
            have hup := isup_ue hN (u := bts (F (F 2 13) 1)) hc2
            by_cases eb : i_and (i_shr (F (F 2 13) 1) (i_shr (F (F 2 13 + 3) a) 1)) 1 = i_and (F (F 2 13 + 3) a) 1
            · have h1 := hbc.1 eb
              refine fin _ (x3 eb) (y5 (fun z => ?_))
              unfold bh at h1
              rw [if_pos (hup.mp z)] at h1
              cases h1
            · have h1 := hbc.2 eb
              refine fin _ (x4 eb) (y6 ?_)
              by_cases w : isup (bts (F (F 2 13) 1)) (F (F 2 13 + 3) a) = true
              · exact hup.mpr w
              · unfold bh at h1
                rw [if_neg w] at h1
                cases h1
      · have hb5 : b < 0 ∨ 5 ≤ b := by clear Q0 A0 A1 A2 A3 A4 P0 B0 B1 B2 B3 B4; omega
        exact eq _ (Q0 hb5) (P0 hb5)
  · rcases Nat.lt_or_ge a 2147483648 with z | z
    · exact eq _ ((Q.2 (by rw [b_le (by decide) z]; exact Nat.zero_le _)).1 (by rw [b_le (by decide) z]; clear Q QG; omega)) ((QG.2 (by rw [b_le (by decide) z]; exact Nat.zero_le _)).1 (by rw [b_lt (by decide) z]; clear Q QG; omega))
    · exact eq _ (Q.1 (by rw [b_neg ha]; exact z)) (QG.1 (by rw [b_neg ha]; exact z))
end PACKET
end
section
/-! plain keeps the relation and agrees (names of other parts: bnd01) -/
section PLAIN
variable {nn L R N s : Nat} {E C : Nat → Nat} {v v2 : fx_V} {F F' G G' : fx_F}
theorem s_Grsee (hN : nt_ok nn L E) (hs : s < 2147483648) (hc : cn F nn L E) (h : Cl k_Gr_see [(2, 40), (0, s)] F v F') : v = (2, 0) ∧ fxo [41] F F' ∧ ∀ r, r < nn → c_far (fun u => F' 41 (10 * r + u)) nn L E (bts s) r := by
  obtain ⟨n, h⟩ := c_Gr_see h
  obtain ⟨m, -, hR⟩ := q_Gr_see_0 h
  have hn := hN.1
  have lp : ∀ (n : Nat) (F2 : fx_F) (r : Nat), Rn n k_Gr_see 2 [(2, 40), (0, s), (0, r)] [] F2 v F' → r ≤ nn → fxo [41] F F2 → (∀ r', r' < r → c_far (fun u => F2 41 (10 * r' + u)) nn L E (bts s) r') → v = (2, 0) ∧ fxo [41] F F' ∧ ∀ r, r < nn → c_far (fun u => F' 41 (10 * r + u)) nn L E (bts s) r := by
    intro n
    induction n using Nat.strongRecOn with
    | ind n ih =>
      intro F2 r h hr ho hA
      have hc2 := hc.keep ho (by decide) (by decide) (by decide)
      have Q := q_Gr_see_2 h
      rw [hc2.1] at Q
      rcases Nat.lt_or_ge r nn with hlt | hge
      · obtain ⟨F1, c1, m, hm, hR⟩ := Q.2 (by rw [b_lt (by clear Q; omega) (by clear Q; omega)]; exact hlt)
        clear Q
        rw [b_mul (show r * 10 < 4294967296 by omega), Nat.mul_comm r 10] at c1
        rw [b_add (show r + 1 < 4294967296 by omega)] at hR
        obtain ⟨y1, y2⟩ := s_spread hN hc2 hlt hs (show 10 * r < 100000 by omega) (by decide) c1
        refine ih m hm F1 (r + 1) hR hlt (ho.tr y1.1) (fun r' hr' => ?_)
        by_cases e : r' = r
        · subst e; exact y2
        · intro u hu
          have := hA r' (by omega) u hu
          show (F1 41 (10 * r' + u) ≠ 4294967295 → ds L E (bts s) r' (F1 41 (10 * r' + u)) u) ∧ ∀ d, ds L E (bts s) r' d u → F1 41 (10 * r' + u) = d
          rw [y1.2 (10 * r' + u) (by omega)]
          exact this
      · obtain ⟨x1, x2⟩ := Q.1 (by rw [b_le (by clear Q; omega) (by clear Q; omega)]; exact hge)
        clear Q
        subst x2
        exact ⟨x1, ho, fun r' hr' => hA r' (by omega)⟩
  exact lp m F 0 hR (Nat.zero_le _) fxo.rf (fun r' hr' => absurd hr' (Nat.not_lt_zero _))
theorem msw_none (hN : nt_ok nn L E) {F : fx_F} {st : Nat → Bool} (hst : ∀ l, l < L → st l = mst F l) : ∀ l, l < L → st l = msw F E 4294967295 l := by
  have hn := hN.1
  intro l hl
  rw [hst l hl]
  unfold msw
  have e1 := (hN.2.2 (2 * l) (by omega)).1
  have e2 := (hN.2.2 (2 * l + 1) (by omega)).1
  rw [show Nat.beq (E (2 * l)) 4294967295 = false from Bool.eq_false_iff.mpr (fun z => by have := rx_beq.mp z; omega), show Nat.beq (E (2 * l + 1)) 4294967295 = false from Bool.eq_false_iff.mpr (fun z => by have := rx_beq.mp z; omega)]
  cases mst F l <;> rfl
theorem o_plain {a b : Nat} (ha : a < 4294967296) (hb : b < 4294967296) (h : lr F G nn L E C N R) (hF : Cl k_T_plain [(2, 2), (0, a), (0, b)] F v F') (hG : Cl k_M_plain [(2, 175), (0, a), (0, b)] G v2 G') : v = v2 ∧ lr F' G' nn L E C N R ∧ sF F F' ∧ sG G G' := by
  have hL := h.1.1.2.1
  have hN := h.1.1
  have hn := hN.1
  have hs0 := h.2.2.2.1.2
  have hbb := sc_lt hN hs0
  obtain ⟨nF, hF⟩ := c_T_plain hF
  obtain ⟨nG, hG⟩ := c_M_plain hG
  have Q := q_T_plain_0 hF
  have QG := q_M_plain_0 hG
  rw [h.2.1.1.1] at Q
  rw [h.2.2.1.1.2.1] at QG
  have no : v = (0, 4294967295) ∧ F' = F → v2 = (0, 4294967295) ∧ G' = G → v = v2 ∧ lr F' G' nn L E C N R ∧ sF F F' ∧ sG G G' := by
    rintro ⟨x1, x2⟩ ⟨y1, y2⟩
    subst x2
    subst y2
    exact ⟨x1.trans y1.symm, h, sF.rf, sG.rf⟩
  by_cases hl : a < nn
  · obtain ⟨i1, i2, i3⟩ := in_y hl (show nn ≤ 40 by clear Q QG; omega)
    replace Q := (Q.2 i1).2 i2
    replace QG := (QG.2 i1).2 i3
    by_cases hl2 : b < nn
    · obtain ⟨i1, i2, i3⟩ := in_y hl2 (show nn ≤ 40 by clear Q QG; omega)
      obtain ⟨F1, c1, x1, x2⟩ := (Q.2 i1).2 i2
      obtain ⟨G1, d1, QG1, QG2⟩ := (QG.2 i1).2 i3
      clear Q QG
      obtain ⟨-, t1, t2⟩ := s_Grsee hN (by clear QG1 QG2; omega) h.2.1.1 c1
      obtain ⟨u1, u2⟩ := s_layFar (st := bts (F (F 2 13) 2)) hN (Or.inl hl) (by clear QG1 QG2; omega) h.2.2.1.1 (msw_none hN (fun l hl => mst_sc (hs0.2.2.1.2 l hl))) d1
      rw [b_mul (show a * 10 < 4294967296 by clear QG1 QG2; omega), b_add (show a * 10 + b < 4294967296 by clear QG1 QG2; omega), Nat.mul_comm a 10] at x1
      have hr := t2 a hl b hl2
      replace hr : (F1 41 (10 * a + b) ≠ 4294967295 → ds L E (bts (F (F 2 13) 2)) a (F1 41 (10 * a + b)) b) ∧ ∀ d, ds L E (bts (F (F 2 13) 2)) a d b → F1 41 (10 * a + b) = d := hr
      have hf := u2 b hl2
      have fin : ∀ z, v = (0, z) → v2 = (0, z) ∧ G' = G1 → v = v2 ∧ lr F' G' nn L E C N R ∧ sF F F' ∧ sG G G' := by
        rintro z a1 ⟨b3, b4⟩
        subst x2
        subst b4
        exact ⟨a1.trans b3.symm, h.fr (fun p i hp => t1 p i (by unfold qF at hp; simp; omega)) (h.2.2.2.2.1.eq (fun t i ht => t1 _ i (by simp; omega))) (h.2.2.2.2.2.eq (fun t i ht => t1 _ i (by simp; omega))) (fun p i hp _ => u1 p i (by unfold qG at hp; simp; omega)) (fun i _ => u1 175 i (by decide))⟩
      by_cases ex : ∃ d, ds L E (bts (F (F 2 13) 2)) a d b
      · have hlt := fr_lt (nn := nn) hN hl ex
        obtain ⟨d, hd⟩ := ex
        rw [hr.2 d hd] at x1
        rw [hf] at QG1 QG2
        rw [fr_ds hd] at QG1 QG2 hlt
        exact fin _ x1 (QG2 (by rw [b_lt (by clear QG1 QG2; omega) (by decide)]; exact hlt))
      · have e1 : F1 41 (10 * a + b) = 4294967295 := by
          by_cases w : F1 41 (10 * a + b) = 4294967295
          · exact w
          · exact absurd ⟨_, hr.1 w⟩ ex
        rw [e1] at x1
        rw [hf, fr_no (fun d hd => ex ⟨d, hd⟩)] at QG1
        exact fin _ x1 (QG1 (by rw [b_le (by decide) (by decide)]; exact Nat.le_refl _))
    · rcases in_n hl2 hb (show nn ≤ 40 by clear Q QG; omega) with z | ⟨z1, z2, z3⟩
      · exact no (Q.1 z) (QG.1 z)
      · exact no ((Q.2 z1).1 z2) ((QG.2 z1).1 z3)
  · rcases in_n hl ha (show nn ≤ 40 by clear Q QG; omega) with z | ⟨z1, z2, z3⟩
    · exact no (Q.1 z) (QG.1 z)
    · exact no ((Q.2 z1).1 z2) ((QG.2 z1).1 z3)
end PLAIN
end
section
/-! Frames: places S and fields T of 175 may change, nothing else -/
def gxo (S T : List Nat) (F F' : fx_F) : Prop := ∀ p i, p ∉ S → (p = 175 → i ∉ T) → F' p i = F p i
theorem gxo.rf {S T : List Nat} {F : fx_F} : gxo S T F F := fun _ _ _ _ => rfl
theorem gxo.tr {S T : List Nat} {F F1 F2 : fx_F} (h : gxo S T F F1) (h2 : gxo S T F1 F2) : gxo S T F F2 := fun p i hp hi => (h2 p i hp hi).trans (h p i hp hi)
theorem gxo.mono {S T S' T' : List Nat} {F F1 : fx_F} (h : gxo S T F F1) (hS : ∀ q ∈ S, q ∈ S') (hT : ∀ q ∈ T, q ∈ T') : gxo S' T' F F1 := fun p i hp hi => h p i (fun z => hp (hS p z)) (fun e z => hi e (hT i z))
theorem gxo.wr {S T : List Nat} {F F1 : fx_F} {p i v : Nat} (h : gxo S T F F1) (hp : p ∈ S) : gxo S T F (fu F1 p i v) := fun q j hq hj => by
  rw [fu_p (show q ≠ p from fun z => hq (by rw [z]; exact hp))]; exact h q j hq hj
theorem gxo.wrf {S T : List Nat} {F F1 : fx_F} {i v : Nat} (h : gxo S T F F1) (hi : i ∈ T) : gxo S T F (fu F1 175 i v) := fun q j hq hj => by
  by_cases e : q = 175
  · subst e
    rw [fu_i (show j ≠ i from fun z => hj rfl (by rw [z]; exact hi))]; exact h 175 j hq hj
  · rw [fu_p e]; exact h q j hq hj
theorem gxo.cp {S T : List Nat} {F F1 : fx_F} {s d : Nat} (h : gxo S T F F1) (hd : d ∈ S) : gxo S T F (fcp F1 s d) := fun q j hq hj => by
  rw [fcp_o (show q ≠ d from fun z => hq (by rw [z]; exact hd))]; exact h q j hq hj
theorem gxo.fx {S : List Nat} {F F1 : fx_F} (h : gxo S [] F F1) : fxo S F F1 := fun p i hp => h p i hp (fun _ z => by cases z)
theorem fo_if {c d A B P : Prop} (hcd : c ∨ d) (Q : (c → A) ∧ (d → B)) (hA : A → P) (hB : B → P) : P := hcd.elim (fun z => hA (Q.1 z)) (fun z => hB (Q.2 z))
theorem fo_eq {α : Type} {x y : α} : x = y ∨ x ≠ y := Classical.em _
theorem fo_ne {α : Type} {x y : α} : x ≠ y ∨ x = y := (Classical.em _).symm
theorem fo_lt {x y : Nat} : s_lt x y ∨ s_le y x := by
  rcases s_tri x y with ⟨h, _⟩ | ⟨h, _⟩
  · exact Or.inl h
  · exact Or.inr h
theorem fo_le {x y : Nat} : s_le x y ∨ s_lt y x := fo_lt.symm
end
