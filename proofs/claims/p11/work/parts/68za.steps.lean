/-! Whole steps, on both sides -/
section STEPS
variable {nn L q R : Nat} {E : Nat → Nat} {v v2 : fx_V} {F F' G G' : fx_F}
theorem sc_congr {X X' : Nat → Nat} {q' : Nat} (h : sc F q X nn L E) (hL : L ≤ 20) (h0 : ∀ i, i < 4 → F' q' i = F q i) (h1 : ∀ i, i < 12 → F' (q' + 1) i = F (q + 1) i ∧ F' (q' + 2) i = F (q + 2) i ∧ F' (q' + 3) i = F (q + 3) i ∧ F' (q' + 4) i = F (q + 4) i) (hX : ∀ i, i < 102 → X' i = X i) : sc F' q' X' nn L E := by
  obtain ⟨⟨s1, s1a, s1b⟩, s2, s3, s4, s5⟩ := h
  refine ⟨⟨?_, ?_, ?_⟩, ⟨?_, fun l hl => ?_⟩, ⟨?_, fun l hl => ?_⟩, ?_, fun i hi => ?_⟩
  · rw [h0 0 (by decide), hX 40 (by decide)]; exact s1
  · rw [hX 40 (by decide)]; exact s1a
  · rw [hX 40 (by decide)]; exact s1b
  · rw [h0 1 (by decide)]; exact s2.1
  · rw [h0 1 (by decide), hX _ (by omega)]; exact s2.2 l hl
  · rw [h0 2 (by decide)]; exact s3.1
  · rw [h0 2 (by decide), hX _ (by omega)]; exact s3.2 l hl
  · rw [h0 3 (by decide), hX 101 (by decide)]; exact s4
  · obtain ⟨k1, k2, k3, k4⟩ := h1 i hi
    unfold pk
    rw [k1, k2, k3, k4, hX _ (by omega), hX _ (by omega), hX _ (by omega), hX _ (by omega), hX _ (by omega)]
    exact s5 i hi
theorem sc_F (h : sc F q (G 176) nn L E) (hL : L ≤ 20) {S : List Nat} (ho : fxo S F F') (h0 : q ∉ S) (h1 : q + 1 ∉ S) (h2 : q + 2 ∉ S) (h3 : q + 3 ∉ S) (h4 : q + 4 ∉ S) : sc F' q (G 176) nn L E := sc_congr h hL (fun i _ => ho q i h0) (fun i _ => ⟨ho _ i h1, ho _ i h2, ho _ i h3, ho _ i h4⟩) (fun _ _ => rfl)
theorem mtb.keep {st u : Nat → Bool} (h : mtb G nn L E st u) {S : List Nat} (ho : fxo S G G') (h1 : 196 ∉ S) : mtb G' nn L E st u := fun g x hg hx => (ho 196 _ h1).trans (h g x hg hx)
/-- what a step needs of the class's side -/
def stc (F : fx_F) (nn L : Nat) (E : Nat → Nat) (q R : Nat) : Prop := cn F nn L E ∧ F 3 3 = R ∧ rcs F nn L E 24 (F q 1) (F q 2) ∧ ctb F nn L E 24 (F q 1) (F q 2)
theorem stc.keep (h : stc F nn L E q R) (hq : sok q) (h1 : F' q 1 = F q 1) (h2 : F' q 2 = F q 2) (ho : fxo [q, q + 1, q + 3, q + 4, 50] F F') : stc F' nn L E q R := by
  obtain ⟨q1, q2, q3⟩ := hq
  obtain ⟨a, b, c, d⟩ := h
  unfold stc
  rw [h1, h2]
  refine ⟨a.keep ho (by simp; omega) (by simp; omega) (by simp; omega), by rw [ho 3 3 (by simp; omega)]; exact b, c.keep ho (by simp; omega) (by simp; omega) (by simp; omega), d.keep ho (by simp; omega)⟩
theorem s_step2 (hN : nt_ok nn L E) (hq : sok q) (hR : R < 2147483648) (hF : stc F nn L E q R) (hm : mn G nn L E) (hGR : G 180 (G 175 9) = R) (hs : sc F q (G 176) nn L E) (h50 : F 50 1 < 2147483648) (h : Cl k_Tr_goStep [(2, 50), (2, q), (2, 24)] F v F') (h2 : Cl k_M_goStep [(2, 175)] G v2 G') : ∃ w, v2 = (0, w) ∧ w ≤ 12 ∧ F' 50 1 = F 50 1 + w ∧ sc F' q (G' 176) nn L E ∧ fxo [q, q + 1, q + 3, q + 4, 50] F F' ∧ fxo [176, 193, 196, 197] G G' ∧ (∀ i, i < 41 → G' 176 i = G 176 i) ∧ F' q 1 = F q 1 ∧ F' q 2 = F q 2 := by
  have hL := hN.2.1
  have hn := hN.1
  obtain ⟨q1, q2, q3⟩ := id hq
  obtain ⟨nF, h⟩ := c_Tr_goStep h
  obtain ⟨mF, hmF, hRF⟩ := q_Tr_goStep_0 h
  obtain ⟨nG, h2⟩ := c_M_goStep h2
  obtain ⟨G1, cG, mG, hmG, hRG⟩ := q_M_goStep_0 h2
  have hI := sc_mgi hN hs hm
  obtain ⟨-, o1, t1, -⟩ := s_mlayTable hN hI cG
  have lp : ∀ (k j : Nat), j + k = 12 → ∀ (nF nG : Nat) (F2 G2 : fx_F) (w : Nat), Rn nF k_Tr_goStep 2 [(2, 50), (2, q), (2, 24), (0, j)] [] F2 v F' → Rn nG k_M_goStep 19 [(2, 175), (0, w), (0, j)] [] G2 v2 G' → w ≤ j → F2 50 1 = F 50 1 + w → sc F2 q (G2 176) nn L E → fxo [q, q + 1, q + 3, q + 4, 50] F F2 → fxo [176, 193, 196, 197] G G2 → mtb G2 nn L E (bts (F q 2)) (bts (F q 1)) → (∀ i, i < 41 → G2 176 i = G 176 i) → F2 q 1 = F q 1 → F2 q 2 = F q 2 → ∃ w, v2 = (0, w) ∧ w ≤ 12 ∧ F' 50 1 = F 50 1 + w ∧ sc F' q (G' 176) nn L E ∧ fxo [q, q + 1, q + 3, q + 4, 50] F F' ∧ fxo [176, 193, 196, 197] G G' ∧ (∀ i, i < 41 → G' 176 i = G 176 i) ∧ F' q 1 = F q 1 ∧ F' q 2 = F q 2 := by
    intro k
    induction k with
    | zero =>
      intro j hj nF nG F2 G2 w hF2 hG2 hw e50 hs2 oF oG tG k41 e1 e2
      have j12 : j = 12 := by omega
      subst j12
      obtain ⟨x1, x2⟩ := (q_Tr_goStep_2 hF2).1 (by rw [b_le (by decide) (by decide)]; exact Nat.le_refl _)
      obtain ⟨y1, y2⟩ := (q_M_goStep_19 hG2).1 (by rw [b_le (by decide) (by decide)]; exact Nat.le_refl _)
      subst x2
      subst y2
      refine ⟨w, y1, hw, ?_, sc_congr hs2 hL (fun i hi => fu_i (by omega)) (fun i _ => ⟨fu_p (by omega), fu_p (by omega), fu_p (by omega), fu_p (by omega)⟩) (fun _ _ => rfl), oF.wr (by simp), oG, k41, ?_, ?_⟩
      · rw [fu_p (by omega)]; exact e50
      · rw [fu_i (by decide)]; exact e1
      · rw [fu_i (by decide)]; exact e2
    | succ k ih =>
      intro j hj nF nG F2 G2 w hF2 hG2 hw e50 hs2 oF oG tG k41 e1 e2
      have hj12 : j < 12 := by omega
      have Q := ((((q_Tr_goStep_2 hF2).2 (by rw [b_lt (by omega) (by decide)]; exact hj12)).2 (by rw [b_le (by decide) (by omega)]; exact Nat.zero_le _)).2 (by rw [b_lt (by omega) (by decide)]; exact hj12))
      have QG := (q_M_goStep_19 hG2).2 (by rw [b_lt (by omega) (by decide)]; exact hj12)
      have aj : i_add j 1 = j + 1 := b_add (by omega)
      have a41 : i_add 41 j = 41 + j := b_add (by omega)
      have a89 : i_add 89 j = 89 + j := b_add (by omega)
      rw [aj] at Q QG
      rw [a41, a89] at QG
      have hp := hs2.2.2.2.2 j hj12
      by_cases hz : F2 (q + 1) j = 4294967295
      · obtain ⟨m, _, hR2⟩ := Q.1 hz
        clear Q
        have hX : G2 176 (41 + j) = 0 := by
          rcases hp with ⟨_, b⟩ | ⟨_, _, b, _⟩
          · exact b
          · rw [hz] at b
            exfalso
            clear QG
            omega
        obtain ⟨m2, _, hR3⟩ := QG.2 hX
        clear QG
        exact ih (j + 1) (by omega) m m2 F2 G2 w hR2 hR3 (by omega) e50 hs2 oF oG tG k41 e1 e2
      · obtain ⟨F3, c3, m, _, hR2⟩ := Q.2 hz
        clear Q
        obtain ⟨p1, p2, p3, p4, p5, p6, p7, p8⟩ := hp.resolve_left (fun z => hz z.1)
        have hX : G2 176 (41 + j) ≠ 0 := by rw [p1]; decide
        obtain ⟨n1, G3, c4, Q1, Q2⟩ := QG.1 hX
        clear QG
        have hF2' := hF.keep hq e1 e2 oF
        obtain ⟨k1, k2, k3, k4⟩ := hF2'
        have hb := sc_lt hN hs2
        obtain ⟨-, cg⟩ := s_goOn hN hq hj12 k1 k2 hR (by clear Q1 Q2; omega) (by clear Q1 Q2; omega) k4 p3 p5 p7 c3
        have hm2 : mn G2 nn L E := hm.keep oG (by decide) (by decide) (by decide) (by decide)
        have hI2 := sc_mgi hN hs2 hm2
        rw [← e1, ← e2] at tG
        obtain ⟨w', e5, mg⟩ := s_goPacket hN hj12 hI2 ((oG 180 _ (by decide)).trans (by rw [oG 175 _ (by decide)]; exact hGR)) hR tG (by rw [p2]; exact p3) (by rw [p4]; exact p5) (by rw [p6]; exact p7) c4
        cases e5
        have ey : ent nn L E (bts (F2 q 2)) (bts (F2 q 1)) (G2 176 (53 + j)) (2 * G2 176 (65 + j) + lay (bts (F2 q 1)) (G2 176 (77 + j))) = ent nn L E (bts (F2 q 2)) (bts (F2 q 1)) (F2 (q + 2) j) (2 * F2 (q + 1) j + lay (bts (F2 q 1)) (F2 (q + 3) j)) := by rw [p2, p4, p6]
        rw [ey] at mg
        have hyl : ent nn L E (bts (F2 q 2)) (bts (F2 q 1)) (F2 (q + 2) j) (2 * F2 (q + 1) j + lay (bts (F2 q 1)) (F2 (q + 3) j)) = 4294967295 ∨ ent nn L E (bts (F2 q 2)) (bts (F2 q 1)) (F2 (q + 2) j) (2 * F2 (q + 1) j + lay (bts (F2 q 1)) (F2 (q + 3) j)) < 2 * L := by
          rcases ent_q (nn := nn) (L := L) (E := E) (st := bts (F2 q 2)) (u := bts (F2 q 1)) (g := F2 (q + 2) j) (x := 2 * F2 (q + 1) j + lay (bts (F2 q 1)) (F2 (q + 3) j)) with z | z
          · exact Or.inl z
          · exact Or.inr z.1
        rw [e1, e2] at tG
        obtain ⟨s1, s2, s3, s4, s5, s6, s7, s8⟩ := s_packet (G' := if n1 = 0 then fu G3 176 (89 + j) (i_add (G3 176 (89 + j)) 1) else G3) hN hq hj12 k1 hs2 hz _ hyl cg mg rfl
        by_cases hw0 : n1 = 0
        · obtain ⟨m2, _, hR3⟩ := Q1 hw0
          clear Q1 Q2
          rw [if_pos hw0] at s1 s3 s5 s6
          exact ih (j + 1) (by omega) m m2 F3 _ w hR2 hR3 (by omega) (s3.trans e50) s1 (oF.tr s4) (oG.tr (s5.mono (by decide))) (tG.keep s5 (by decide)) (fun i hi => (s6 i hi).trans (k41 i hi)) (s7.trans e1) (s8.trans e2)
        · obtain ⟨m2, _, hR3⟩ := Q2 hw0
          clear Q1 Q2
          rw [if_neg hw0] at s1 s3 s5 s6
          rw [b_add (show w + 1 < 4294967296 by omega)] at hR3
          exact ih (j + 1) (by omega) m m2 F3 _ (w + 1) hR2 hR3 (by omega) (by rw [s3, e50, b_add (by omega)]; rfl) s1 (oF.tr s4) (oG.tr (s5.mono (by decide))) (tG.keep s5 (by decide)) (fun i hi => (s6 i hi).trans (k41 i hi)) (s7.trans e1) (s8.trans e2)
  refine lp 12 0 rfl mF mG F _ 0 hRF hRG (Nat.le_refl 0) rfl (sc_congr hs hL (fun _ _ => rfl) (fun _ _ => ⟨rfl, rfl, rfl, rfl⟩) (fun i hi => ?_)) fxo.rf ((o1.mono (by decide)).wr (by decide)) (fun g x hg hx => (fu_p (by decide)).trans (t1 g x hg hx)) (fun i hi => ?_) rfl rfl
  · rw [fu_i (by omega), o1 176 _ (by decide)]
  · rw [fu_i (by omega), o1 176 _ (by decide)]
/-- the cache of ways -/
def rcI (F : fx_F) (nn L : Nat) (E : Nat → Nat) (p : Nat) : Prop := rci F nn L E p ∧ rct F nn L E p
theorem s_steps2 (hN : nt_ok nn L E) (hq : sok q) (hR : R < 2147483648) {a : Nat} (ha : a ≤ 1000) (hcn : cn F nn L E) (hol : ocl F nn L E) (hFR : F 3 3 = R) (hrc : rcI F nn L E 24) (hm : mn G nn L E) (hGR : G 180 (G 175 9) = R) (hs : sc F q (G 176) nn L E) (h : Cl k_T_goSteps [(2, 2), (2, q), (0, a)] F v F') (h2 : Cl k_M_goSteps [(2, 175), (0, a)] G v2 G') : ∃ w, v = (0, w) ∧ v2 = (0, w) ∧ sc F' q (G' 176) nn L E ∧ fxo [24, 25, 26, 27, 28, 29, q, q + 1, q + 3, q + 4, 50] F F' ∧ fxo [176, 193, 196, 197] G G' ∧ (∀ i, i < 41 → G' 176 i = G 176 i) ∧ F' q 1 = F q 1 ∧ F' q 2 = F q 2 ∧ rcI F' nn L E 24 := by
  have hL := hN.2.1
  have hn := hN.1
  obtain ⟨q1, q2, q3⟩ := id hq
  obtain ⟨nF, h⟩ := c_T_goSteps h
  obtain ⟨F1, cF, mF, hmF, hRF⟩ := q_T_goSteps_0 h
  obtain ⟨nG, h2⟩ := c_M_goSteps h2
  obtain ⟨mG, hmG, hRG⟩ := q_M_goSteps_0 h2
  have hb := sc_lt hN hs
  obtain ⟨-, t2, t3, t4, -, t6, t7⟩ := s_seeTable hN (by omega) (by omega) (by decide) hcn hol hrc.1 hrc.2 cF
  have eF : ∀ i, fu (fu F1 50 1 0) 50 2 0 q i = F q i := fun i => by rw [fu_p (by omega), fu_p (by omega), t2 q i (by simp; omega)]
  have o0 : fxo [24, 25, 26, 27, 28, 29, q, q + 1, q + 3, q + 4, 50] F (fu (fu F1 50 1 0) 50 2 0) := ((t2.mono (by simp)).wr (by simp)).wr (by simp)
  have o00 : fxo [24, 25, 26, 27, 28, 29, 50] F (fu (fu F1 50 1 0) 50 2 0) := ((t2.mono (by simp)).wr (by simp)).wr (by simp)
  have ob : fxo [50] F1 (fu (fu F1 50 1 0) 50 2 0) := (fxo.rf.wr (by simp)).wr (by simp)
  have hstc : stc (fu (fu F1 50 1 0) 50 2 0) nn L E q R := by
    unfold stc
    rw [eF, eF]
    refine ⟨(hcn.keep t2 (by decide) (by decide) (by decide)).keep ob (by decide) (by decide) (by decide), by rw [ob 3 _ (by decide), t2 3 _ (by decide)]; exact hFR, t3.keep ob (by decide) (by decide) (by decide), t4.keep ob (by decide)⟩
  have hrI : rcI (fu (fu F1 50 1 0) 50 2 0) nn L E 24 := by
    have e : ∀ p i, p ≠ 50 → fu (fu F1 50 1 0) 50 2 0 p i = F1 p i := fun p i hp => by rw [fu_p hp, fu_p hp]
    refine ⟨?_, ?_⟩
    · unfold rci
      simp only [e _ _ (show (24 : Nat) ≠ 50 by decide), e _ _ (show (24 + 5 : Nat) ≠ 50 by decide), e _ _ (show (24 + 1 : Nat) ≠ 50 by decide)]
      exact t6
    · unfold rct ctb
      simp only [e _ _ (show (24 : Nat) ≠ 50 by decide), e _ _ (show (24 + 2 : Nat) ≠ 50 by decide), e _ _ (show (24 + 4 : Nat) ≠ 50 by decide)]
      exact t7
  have kI : ∀ F2 : fx_F, fxo [q, q + 1, q + 3, q + 4, 50] (fu (fu F1 50 1 0) 50 2 0) F2 → rcI F2 nn L E 24 := fun F2 ho => by
    have e : ∀ p i, p < 50 → F2 p i = (fu (fu F1 50 1 0) 50 2 0) p i := fun p i hp => ho p i (by simp; omega)
    refine ⟨?_, ?_⟩
    · unfold rci
      simp only [e _ _ (show (24 : Nat) < 50 by decide), e _ _ (show (24 + 5 : Nat) < 50 by decide), e _ _ (show (24 + 1 : Nat) < 50 by decide)]
      exact hrI.1
    · unfold rct ctb
      simp only [e _ _ (show (24 : Nat) < 50 by decide), e _ _ (show (24 + 2 : Nat) < 50 by decide), e _ _ (show (24 + 4 : Nat) < 50 by decide)]
      exact hrI.2
  have lp : ∀ (k i : Nat), i + k = a → ∀ (nF nG : Nat) (F2 G2 : fx_F) (w : Nat), Rn nF k_T_goSteps 24 [(2, 2), (2, q), (0, a), (0, i)] [] F2 v F' → Rn nG k_M_goSteps 4 [(2, 175), (0, a), (0, w), (0, i)] [] G2 v2 G' → w ≤ 12 * i → F2 50 1 = w → sc F2 q (G2 176) nn L E → fxo [q, q + 1, q + 3, q + 4, 50] (fu (fu F1 50 1 0) 50 2 0) F2 → fxo [176, 193, 196, 197] G G2 → (∀ i, i < 41 → G2 176 i = G 176 i) → F2 q 1 = F q 1 → F2 q 2 = F q 2 → ∃ w, v = (0, w) ∧ v2 = (0, w) ∧ sc F' q (G' 176) nn L E ∧ fxo [24, 25, 26, 27, 28, 29, q, q + 1, q + 3, q + 4, 50] F F' ∧ fxo [176, 193, 196, 197] G G' ∧ (∀ i, i < 41 → G' 176 i = G 176 i) ∧ F' q 1 = F q 1 ∧ F' q 2 = F q 2 ∧ rcI F' nn L E 24 := by
    intro k
    induction k with
    | zero =>
      intro i hi nF nG F2 G2 w hF2 hG2 hw e50 hs2 oF oG k41 e1 e2
      obtain ⟨x1, x2⟩ := (q_T_goSteps_24 hF2).1 (by rw [b_le (by omega) (by omega)]; omega)
      obtain ⟨y1, y2⟩ := (q_M_goSteps_4 hG2).1 (by rw [b_le (by omega) (by omega)]; omega)
      subst x2
      subst y2
      exact ⟨w, by rw [x1, e50], y1, hs2, o0.tr (oF.mono (by simp)), oG, k41, e1, e2, kI _ oF⟩
    | succ k ih =>
      intro i hi nF nG F2 G2 w hF2 hG2 hw e50 hs2 oF oG k41 e1 e2
      obtain ⟨F3, c3, m, _, hR2⟩ := (q_T_goSteps_24 hF2).2 (by rw [b_lt (by omega) (by omega)]; omega)
      obtain ⟨n1, G3, c4, m2, _, hR3⟩ := (q_M_goSteps_4 hG2).2 (by rw [b_lt (by omega) (by omega)]; omega)
      rw [b_add (show i + 1 < 4294967296 by omega)] at hR2 hR3
      have hst2 := hstc.keep hq (e1.trans (eF 1).symm) (e2.trans (eF 2).symm) oF
      obtain ⟨w', e5, b1, b2, b3, b4, b5, b6, b7, b8⟩ := s_step2 hN hq hR hst2 (hm.keep oG (by decide) (by decide) (by decide) (by decide)) ((oG 180 _ (by decide)).trans (by rw [oG 175 _ (by decide)]; exact hGR)) hs2 (by omega) c3 c4
      cases e5
      rw [b_add (show w + n1 < 4294967296 by omega)] at hR3
      exact ih (i + 1) (by omega) m m2 F3 G3 (w + n1) hR2 hR3 (by omega) (by omega) b3 (oF.tr b4) (oG.tr b5) (fun i hi => (b6 i hi).trans (k41 i hi)) (b7.trans e1) (b8.trans e2)
  exact lp a 0 (Nat.zero_add a) mF mG _ G 0 hRF hRG (Nat.zero_le _) (by rw [fu_i (by decide), fu_same]) (sc_F hs hL o00 (by simp; omega) (by simp; omega) (by simp; omega) (by simp; omega) (by simp; omega)) fxo.rf fxo.rf (fun _ _ => rfl) (eF 1) (eF 2)
end STEPS
