/-! drains, stuck agree (names of other parts: s_step2 s_putAside s_goPacket s_mcount cnt_less lr.kk) -/
/-- a packet of the reference stands where it can -/
def mpk (G : fx_F) (nn L j : Nat) : Prop := G 176 (41 + j) = 0 ∨ (G 176 (41 + j) = 1 ∧ G 176 (65 + j) < nn ∧ G 176 (53 + j) < nn ∧ (G 176 (77 + j) = 4294967295 ∨ G 176 (77 + j) < 2 * L))
/-- where packet j wants to go -/
noncomputable def wnt (G : fx_F) (nn L : Nat) (E : Nat → Nat) (st u : Nat → Bool) (j : Nat) : Nat := ent nn L E st u (G 176 (53 + j)) (2 * G 176 (65 + j) + lay u (G 176 (77 + j)))
/-- packet j stands still -/
noncomputable def stl (G : fx_F) (nn L R : Nat) (E : Nat → Nat) (st u : Nat → Bool) (j : Nat) : Prop := G 176 (41 + j) ≠ 0 → G 176 (65 + j) ≠ G 176 (53 + j) ∧ (wnt G nn L E st u j = 4294967295 ∨ R ≤ mby (G 176) (wnt G nn L E st u j))
/-- all but waiting is as it was -/
def sme (G G' : fx_F) : Prop := fxo [176, 193, 196, 197] G G' ∧ ∀ i, (i < 89 ∨ i = 101) → G' 176 i = G 176 i
section DRAIN
variable {nn L R N : Nat} {E C : Nat → Nat} {st u : Nat → Bool} {v v2 : fx_V} {F F' F1 F2 G G' G1 G2 G3 : fx_F}
theorem sme.rf : sme G G := ⟨fxo.rf, fun _ _ => rfl⟩
theorem sme.tr (h : sme G G1) (h2 : sme G1 G2) : sme G G2 := ⟨h.1.tr h2.1, fun i hi => (h2.2 i hi).trans (h.2 i hi)⟩
theorem sme.twnt (h : sme G G1) {j : Nat} (hj : j < 12) : wnt G1 nn L E st u j = wnt G nn L E st u j := by
  unfold wnt
  rw [h.2 (53 + j) (by omega), h.2 (65 + j) (by omega), h.2 (77 + j) (by omega)]
theorem sme.mby (h : sme G G1) (c : Nat) : mby (G1 176) c = mby (G 176) c := cnt_congr (fun i hi => by rw [h.2 (41 + i) (by omega), h.2 (77 + i) (by omega)])
theorem sme.tstl (h : sme G G1) {j : Nat} (hj : j < 12) : stl G1 nn L R E st u j ↔ stl G nn L R E st u j := by
  unfold stl
  rw [h.2 (41 + j) (by omega), h.2 (53 + j) (by omega), h.2 (65 + j) (by omega), h.twnt hj, h.mby]
theorem sme.tmpk (h : sme G G1) {j : Nat} (hj : j < 12) (hp : mpk G nn L j) : mpk G1 nn L j := by
  unfold mpk
  rw [h.2 (41 + j) (by omega), h.2 (53 + j) (by omega), h.2 (65 + j) (by omega), h.2 (77 + j) (by omega)]
  exact hp
theorem sme.mgi (hL : L ≤ 20) (h : sme G G1) (hI : mgi G nn L E st u) : mgi G1 nn L E st u := ⟨hI.1.keep h.1 (by decide) (by decide) (by decide) (by decide), fun l hl => by rw [hI.2.1 l hl]; unfold mst; rw [h.2 l (by omega)], fun l hl => (h.2 (20 + l) (by omega)).trans (hI.2.2 l hl)⟩
theorem pk.mpk {q j : Nat} (h : pk F q (G 176) nn L j) : mpk G nn L j := by
  rcases h with ⟨-, b⟩ | ⟨a1, a2, a3, a4, a5, a6, a7, -⟩
  · exact Or.inl b
  · refine Or.inr ⟨a1, by rw [a2]; exact a3, by rw [a4]; exact a5, ?_⟩
    rw [a6]; exact a7
/-- a step of the reference alone: whether anybody can move -/
theorem s_mstill (hN : nt_ok nn L E) (hR : R < 2147483648) (hI : mgi G nn L E st u) (hGR : G 180 (G 175 9) = R) (hp : ∀ j, j < 12 → mpk G nn L j) (h : Cl k_M_goStep [(2, 175)] G v G') : ∃ w, v = (0, w) ∧ w ≤ 12 ∧ ((w = 0 ∧ (∀ j, j < 12 → stl G nn L R E st u j) ∧ sme G G') ∨ (w ≠ 0 ∧ ¬ ∀ j, j < 12 → stl G nn L R E st u j)) := by
  have hL := hN.2.1
  have hn := hN.1
  obtain ⟨n0, h⟩ := c_M_goStep h
  obtain ⟨G1, cG, m, -, hRG⟩ := q_M_goStep_0 h
  obtain ⟨-, o1, t1, -⟩ := s_mlayTable hN hI cG
  have lp1 : ∀ (k j : Nat), j + k = 12 → ∀ (n : Nat) (G2 : fx_F) (w : Nat), Rn n k_M_goStep 19 [(2, 175), (0, w), (0, j)] [] G2 v G' → 1 ≤ w → w ≤ j → ∃ w, v = (0, w) ∧ w ≤ 12 ∧ w ≠ 0 := by
    intro k
    induction k with
    | zero =>
      intro j hj n G2 w h h1 h2
      obtain ⟨x1, x2⟩ := (q_M_goStep_19 h).1 (by rw [b_le (by decide) (by omega)]; omega)
      exact ⟨w, x1, by omega, by omega⟩
    | succ k ih =>
      intro j hj n G2 w h h1 h2
      have Q := (q_M_goStep_19 h).2 (by rw [b_lt (by omega) (by decide)]; omega)
      rw [b_add (show j + 1 < 4294967296 by clear Q; omega), b_add (show w + 1 < 4294967296 by clear Q; omega)] at Q
      by_cases hz : G2 176 (i_add 41 j) = 0
      · obtain ⟨m, _, hR2⟩ := Q.2 hz
        exact ih (j + 1) (by clear Q; omega) m G2 w hR2 h1 (by clear Q; omega)
      · obtain ⟨n1, G3, c4, Q1, Q2⟩ := Q.1 hz
        clear Q
        by_cases hw : n1 = 0
        · obtain ⟨m, _, hR2⟩ := Q1 hw
          clear Q1 Q2
          exact ih (j + 1) (by omega) m _ w hR2 h1 (by omega)
        · obtain ⟨m, _, hR2⟩ := Q2 hw
          clear Q1 Q2
          exact ih (j + 1) (by omega) m _ (w + 1) hR2 (by omega) (by omega)
  have lp0 : ∀ (k j : Nat), j + k = 12 → ∀ (n : Nat) (G2 : fx_F), Rn n k_M_goStep 19 [(2, 175), (0, 0), (0, j)] [] G2 v G' → sme G G2 → mtb G2 nn L E st u → (∀ i, i < j → stl G nn L R E st u i) → ∃ w, v = (0, w) ∧ w ≤ 12 ∧ ((w = 0 ∧ (∀ j, j < 12 → stl G nn L R E st u j) ∧ sme G G') ∨ (w ≠ 0 ∧ ¬ ∀ j, j < 12 → stl G nn L R E st u j)) := by
    intro k
    induction k with
    | zero =>
      intro j hj n G2 h hs ht hst
      obtain ⟨x1, x2⟩ := (q_M_goStep_19 h).1 (by rw [b_le (by decide) (by omega)]; omega)
      subst x2
      exact ⟨0, x1, by decide, Or.inl ⟨rfl, fun i hi => hst i (by omega), hs⟩⟩
    | succ k ih =>
      intro j hj n G2 h hs ht hst
      have hj12 : j < 12 := by omega
      have Q := (q_M_goStep_19 h).2 (by rw [b_lt (by omega) (by decide)]; omega)
      rw [b_add (show j + 1 < 4294967296 by clear Q; omega), b_add (show 0 + 1 < 4294967296 by decide), b_add (show 41 + j < 4294967296 by clear Q; omega), b_add (show 89 + j < 4294967296 by clear Q; omega)] at Q
      have hx : ∀ {P : Prop}, (∃ w, v = (0, w) ∧ w ≤ 12 ∧ w ≠ 0) → (P → False) → ∃ w, v = (0, w) ∧ w ≤ 12 ∧ ((w = 0 ∧ P ∧ sme G G') ∨ (w ≠ 0 ∧ ¬ P)) := fun ⟨w, a, b, c⟩ d => ⟨w, a, b, Or.inr ⟨c, d⟩⟩
      by_cases hz : G2 176 (41 + j) = 0
      · obtain ⟨m, _, hR2⟩ := Q.2 hz
        clear Q
        refine ih (j + 1) (by omega) m G2 hR2 hs ht (fun i hi => ?_)
        by_cases e : i = j
        · subst e
          intro hne
          exact absurd ((hs.2 (41 + i) (by omega)).symm.trans hz) hne
        · exact hst i (by omega)
      · obtain ⟨n1, G3, c4, Q1, Q2⟩ := Q.1 hz
        clear Q
        obtain ⟨p1, p2, p3, p4⟩ := (hs.tmpk hj12 (hp j hj12)).resolve_left hz
        have hI2 := hs.mgi hL hI
        obtain ⟨w', e5, mg⟩ := s_goPacket hN hj12 hI2 ((hs.1 180 _ (by decide)).trans (by rw [hs.1 175 _ (by decide)]; exact hGR)) hR ht p2 p3 p4 c4
        cases e5
        have hw : ent nn L E st u (G2 176 (53 + j)) (2 * G2 176 (65 + j) + lay u (G2 176 (77 + j))) = wnt G nn L E st u j := hs.twnt hj12
        rw [hw] at mg
        have hne : G 176 (41 + j) ≠ 0 := by rw [← hs.2 (41 + j) (by omega)]; exact hz
        have e65 := hs.2 (65 + j) (by omega)
        have e53 := hs.2 (53 + j) (by omega)
        rcases mg with ⟨g1, g2, g3⟩ | ⟨g1, g2, g3, g4⟩ | ⟨g1, g2, g3, g4, g5⟩
        · obtain ⟨m, _, hR2⟩ := Q2 (by omega)
          clear Q1 Q2
          exact hx (lp1 k (j + 1) (by omega) m _ 1 hR2 (Nat.le_refl _) (by omega)) (fun z => (z j hj12 hne).1 (by rw [← e65, ← e53]; exact g1))
        · obtain ⟨m, _, hR2⟩ := Q1 g3
          clear Q1 Q2
          subst g4
          refine ih (j + 1) (by omega) m _ hR2 ⟨hs.1.wr (by decide), fun i hi => by rw [fu_i (by omega)]; exact hs.2 i hi⟩ (fun g x hg hx => (fu_p (by decide)).trans (ht g x hg hx)) (fun i hi => ?_)
          by_cases e : i = j
          · subst e
            intro _
            refine ⟨by rw [← e65, ← e53]; exact g1, ?_⟩
            rw [← hs.mby]
            exact g2
          · exact hst i (by omega)
        · obtain ⟨m, _, hR2⟩ := Q2 (by omega)
          clear Q1 Q2
          refine hx (lp1 k (j + 1) (by omega) m _ 1 hR2 (Nat.le_refl _) (by omega)) (fun z => ?_)
          rcases (z j hj12 hne).2 with y | y
          · exact g2 y
          · rw [← hs.mby] at y
            omega
  exact lp0 12 0 rfl m _ hRG ⟨(o1.mono (by decide)).wr (by decide), fun i hi => by rw [fu_i (by omega)]; exact o1 176 i (by decide)⟩ (fun g x hg hx => (fu_p (by decide)).trans (t1 g x hg hx)) (fun i hi => absurd hi (Nat.not_lt_zero _))
/-- how many packets the reference has -/
theorem s_mnow (hp : ∀ j, j < 12 → mpk G nn L j) (h : Cl k_M_packetsNow [(2, 175)] G v G') : G' = G ∧ ∃ x, v = (0, x) ∧ x ≤ 12 ∧ (x = 0 ↔ ∀ j, j < 12 → G 176 (41 + j) = 0) := by
  obtain ⟨n, h⟩ := c_M_packetsNow h
  obtain ⟨m, hm2, hR⟩ := q_M_packetsNow_0 h
  have lp : ∀ (k j : Nat), j + k = 12 → ∀ (n x : Nat), Rn n k_M_packetsNow 4 [(2, 175), (0, x), (0, j)] [] G v G' → x ≤ j → (x = 0 ↔ ∀ i, i < j → G 176 (41 + i) = 0) → G' = G ∧ ∃ x, v = (0, x) ∧ x ≤ 12 ∧ (x = 0 ↔ ∀ j, j < 12 → G 176 (41 + j) = 0) := by
    intro k
    induction k with
    | zero =>
      intro j hj n x h hx hz
      obtain ⟨x1, x2⟩ := (q_M_packetsNow_4 h).1 (by rw [b_le (by decide) (by omega)]; omega)
      have e : j = 12 := by omega
      subst e
      exact ⟨x2, x, x1, hx, hz⟩
    | succ k ih =>
      intro j hj n x h hx hz
      obtain ⟨m, hm, hR⟩ := (q_M_packetsNow_4 h).2 (by rw [b_lt (by omega) (by decide)]; omega)
      have h1 : G 176 (41 + j) ≤ 1 := by
        rcases hp j (by omega) with y | y
        · omega
        · have := y.1; omega
      rw [b_add (show 41 + j < 4294967296 by omega), b_add (show j + 1 < 4294967296 by omega), b_add (by omega)] at hR
      refine ih (j + 1) (by omega) m _ hR (by omega) ⟨fun z i hi => ?_, fun z => ?_⟩
      · by_cases e : i = j
        · subst e; omega
        · exact hz.mp (by omega) i (by omega)
      · have a := hz.mpr (fun i hi => z i (by omega))
        have b := z j (by omega)
        omega
  exact lp 12 0 rfl m 0 hR (Nat.le_refl _) ⟨fun _ i hi => absurd hi (Nat.not_lt_zero _), fun _ => rfl⟩
/-- who stands still stands still for ever: drains -/
theorem s_mtail (hN : nt_ok nn L E) (hR : R < 2147483648) : ∀ (k i : Nat), i + k = 201 → ∀ (n w : Nat) (G : fx_F), Rn n k_M_drains 8 [(2, 175), (0, i), (0, w)] [] G v G' → mgi G nn L E st u → G 180 (G 175 9) = R → (∀ j, j < 12 → mpk G nn L j) → (∀ j, j < 12 → stl G nn L R E st u j) → (∃ j, j < 12 ∧ G 176 (41 + j) ≠ 0) → v = (0, 4294967295) := by
  intro k
  induction k with
  | zero =>
    intro i hi n w G h hI hGR hp hs hx
    obtain ⟨n1, G1, c1, Q1, Q2⟩ := q_M_drains_8 h
    obtain ⟨w1, x, w2, w3, w4⟩ := s_mnow hp c1
    cases w2
    subst w1
    obtain ⟨j, hj, hne⟩ := hx
    have hx0 : n1 ≠ 0 := fun z => hne (w4.mp z j hj)
    obtain ⟨G2, c2, Q3, Q4⟩ := (Q2 (by rw [b_lt (by decide) (by clear Q1 Q2; omega)]; clear Q1 Q2; omega)).1 (by rw [b_lt (by decide) (by clear Q1 Q2; omega)]; clear Q1 Q2; omega)
    exact (Q3 (by rw [b_lt (by decide) (by clear Q1 Q2 Q3 Q4; omega)]; clear Q1 Q2 Q3 Q4; omega)).1
  | succ k ih =>
    intro i hi n w G h hI hGR hp hs hx
    obtain ⟨n1, G1, c1, Q1, Q2⟩ := q_M_drains_8 h
    obtain ⟨w1, x, w2, w3, w4⟩ := s_mnow hp c1
    cases w2
    subst w1
    have hx' := hx
    obtain ⟨j, hj, hne⟩ := hx
    have hx0 : n1 ≠ 0 := fun z => hne (w4.mp z j hj)
    obtain ⟨n2, G2, c2, m, hm, hR2⟩ := (Q2 (by rw [b_lt (by decide) (by clear Q1 Q2; omega)]; clear Q1 Q2; omega)).2 (by rw [b_le (by clear Q1 Q2; omega) (by decide)]; clear Q1 Q2; omega)
    clear Q1 Q2
    obtain ⟨y, y1, y2, y3⟩ := s_mstill hN hR hI hGR hp c2
    cases y1
    rcases y3 with ⟨y4, y5, y6⟩ | ⟨-, y5⟩
    · rw [b_add (show i + 1 < 4294967296 by omega)] at hR2
      refine ih (i + 1) (by omega) m _ G2 hR2 (y6.mgi hN.2.1 hI) ((y6.1 180 _ (by decide)).trans (by rw [y6.1 175 _ (by decide)]; exact hGR)) (fun j hj => y6.tmpk hj (hp j hj)) (fun j hj => (y6.tstl hj).mpr (hs j hj)) ⟨j, hj, by rw [y6.2 (41 + j) (by omega)]; exact hne⟩
    · exact absurd hs y5
/-- the same: so many steps -/
theorem s_mtail2 (hN : nt_ok nn L E) (hR : R < 2147483648) {a : Nat} (ha : a ≤ 1000) : ∀ (k i : Nat), i + k = a → ∀ (n w : Nat) (G : fx_F), Rn n k_M_goSteps 4 [(2, 175), (0, a), (0, w), (0, i)] [] G v G' → w < 2147483648 → mgi G nn L E st u → G 180 (G 175 9) = R → (∀ j, j < 12 → mpk G nn L j) → (∀ j, j < 12 → stl G nn L R E st u j) → v = (0, w) ∧ sme G G' := by
  intro k
  induction k with
  | zero =>
    intro i hi n w G h hw hI hGR hp hs
    obtain ⟨x1, x2⟩ := (q_M_goSteps_4 h).1 (by rw [b_le (by omega) (by omega)]; omega)
    subst x2
    exact ⟨x1, sme.rf⟩
  | succ k ih =>
    intro i hi n w G h hw hI hGR hp hs
    obtain ⟨n1, G2, c2, m, hm, hR2⟩ := (q_M_goSteps_4 h).2 (by rw [b_lt (by omega) (by omega)]; omega)
    obtain ⟨y, y1, y2, y3⟩ := s_mstill hN hR hI hGR hp c2
    cases y1
    rcases y3 with ⟨y4, y5, y6⟩ | ⟨-, y5⟩
    · rw [y4, b_add (show i + 1 < 4294967296 by omega), b_add (show w + 0 < 4294967296 by omega)] at hR2
      obtain ⟨r1, r2⟩ := ih (i + 1) (by omega) m w G2 hR2 hw (y6.mgi hN.2.1 hI) ((y6.1 180 _ (by decide)).trans (by rw [y6.1 175 _ (by decide)]; exact hGR)) (fun j hj => y6.tmpk hj (hp j hj)) (fun j hj => (y6.tstl hj).mpr (hs j hj))
      exact ⟨r1, y6.tr r2⟩
    · exact absurd hs y5
theorem npk_0 {q : Nat} (h : ∀ j, j < 12 → pk F q (G 176) nn L j) (hn : nn ≤ 10) : npk F q = 0 ↔ ∀ j, j < 12 → G 176 (41 + j) = 0 := by
  have e : ∀ j, j < 12 → (G 176 (41 + j) = 0 ↔ F (q + 1) j = 4294967295) := fun j hj => by
    rcases h j hj with ⟨a, b⟩ | ⟨a1, a2, a3, _⟩
    · exact ⟨fun _ => a, fun _ => b⟩
    · exact ⟨fun z => by omega, fun z => by omega⟩
  refine ⟨fun z j hj => (e j hj).mpr ?_, fun z => cnt_zero (fun j hj => ?_)⟩
  · by_cases w : F (q + 1) j = 4294967295
    · exact w
    · have := cnt_less (p := fun _ => false) (q := fun j => !(Nat.beq (F (q + 1) j) 4294967295)) hj (fun _ _ z => by cases z) (by
        show (!(Nat.beq (F (q + 1) j) 4294967295)) = true
        rw [show Nat.beq (F (q + 1) j) 4294967295 = false from Bool.eq_false_iff.mpr (fun z => w (rx_beq.mp z))]; rfl) rfl
      unfold npk at z
      omega
  · rw [(e j hj).mp (z j hj)]; rfl
theorem s_tot (x y : Nat) : s_le x y ∨ s_lt y x := by
  rw [s_le_eq, s_lt_eq]
  exact (Nat.lt_or_ge (rx_bi y) (rx_bi x)).symm
theorem sok153 : sok 153 := by unfold sok; omega
/-- the trial begins as now is -/
theorem s_trial (h : lr F G nn L E C N R) {x : fx_V} (c1 : Cl k_St_copyFrom [(2, 153), (2, F 2 13)] F x F1) : sc F1 153 (G 176) nn L E ∧ kp nn L E F F1 ∧ F1 153 3 = F (F 2 13) 3 := by
  have hS : S0 (F 2 13) := h.2.2.2.1.1.1.1
  have hd : ∀ t t', t < 5 → t' < 5 → 153 + t ≠ F 2 13 + t' := fun t t' h1 h2 => by unfold S0 at hS; omega
  obtain ⟨-, -, b3, -⟩ := s_copy2 h.1.1.2.1 hd h.2.2.2.1.2 c1
  obtain ⟨-, -, b5, -⟩ := s_copy hd c1
  exact ⟨b3, (h.kp.trial h c1).1, b5 3 (by decide)⟩
/-- and the way's table lies there -/
theorem s_trialt (h : lr F G nn L E C N R) (hk : kp nn L E F F1) (hs : sc F1 153 (G 176) nn L E) {x : fx_V} (c2 : Cl k_Ro_seeTable [(2, 24), (0, F1 153 1), (0, F1 153 2)] F1 x F2) : stc (fu (fu F2 50 1 0) 50 2 0) nn L E 153 R ∧ sc (fu (fu F2 50 1 0) 50 2 0) 153 (G 176) nn L E ∧ fxo [24, 25, 26, 27, 28, 29, 50] F1 (fu (fu F2 50 1 0) 50 2 0) := by
  have hN := h.1.1
  have hL := hN.2.1
  have hb := sc_lt hN hs
  obtain ⟨hcn, hol, -⟩ := hk.cn h
  obtain ⟨-, t2, t3, t4, -, -, -⟩ := s_seeTable hN (by omega) (by omega) (by decide) hcn hol hk.2.1.1 hk.2.1.2 c2
  have ob : fxo [50] F2 (fu (fu F2 50 1 0) 50 2 0) := (fxo.rf.wr (by simp)).wr (by simp)
  have o00 : fxo [24, 25, 26, 27, 28, 29, 50] F1 (fu (fu F2 50 1 0) 50 2 0) := ((t2.mono (by simp)).wr (by simp)).wr (by simp)
  refine ⟨?_, sc_F hs hL o00 (by decide) (by decide) (by decide) (by decide) (by decide), o00⟩
  unfold stc
  rw [o00 153 1 (by decide), o00 153 2 (by decide)]
  exact ⟨(hcn.keep t2 (by decide) (by decide) (by decide)).keep ob (by decide) (by decide) (by decide), by rw [o00 3 3 (by decide), hk.1 3 3 (by unfold qF; omega)]; exact h.2.1.2.2.2, t3.keep ob (by decide) (by decide) (by decide), t4.keep ob (by decide)⟩
theorem o_drains (h : lr F G nn L E C N R) (hF : Cl k_T_drains [(2, 2)] F v F') (hG : Cl k_M_drains [(2, 175)] G v2 G') : v = v2 ∧ lr F' G' nn L E C N R ∧ sF F F' ∧ sG G G' := by
  refine ⟨?_, h.kk (h_T_drains h hF) (g_M_drains hG)⟩
  have hN := h.1.1
  have hn := hN.1
  have hL := hN.2.1
  have hR := h.1.2.2.2
  obtain ⟨nF, hF⟩ := c_T_drains hF
  obtain ⟨nG, hG⟩ := c_M_drains hG
  obtain ⟨F1, c1, n2, F2, c2, n3, F3, c3, Q⟩ := q_T_drains_0 hF
  obtain ⟨G1, d1, mG, hmG, hRG⟩ := q_M_drains_0 hG
  obtain ⟨hs1, hk1, -⟩ := s_trial h c1
  obtain ⟨k1, -⟩ := s_putAside d1
  obtain ⟨nE, c2⟩ := c_T_runEmpty c2
  obtain ⟨F4, c4, mE, hmE, hRE⟩ := q_T_runEmpty_0 c2
  obtain ⟨hst, hs4, -⟩ := s_trialt h hk1 hs1 c4
  have lp : ∀ (k i : Nat), i + k = 200 → ∀ (nF nG : Nat) (F5 G5 : fx_F) (w : Nat), Rn nF k_T_runEmpty 30 [(2, 2), (0, i), (3, 0)] [] F5 (0, n2) F2 → Rn nG k_M_drains 8 [(2, 175), (0, i), (0, w)] [] G5 v2 G' → w ≤ 12 * i → F5 50 1 = w → sc F5 153 (G5 176) nn L E → stc F5 nn L E 153 R → mn G5 nn L E → G5 180 (G5 175 9) = R → (npk F2 153 = 0 ∧ v2 = (0, n2)) ∨ (npk F2 153 ≠ 0 ∧ v2 = (0, 4294967295)) := by
    intro k
    induction k with
    | zero =>
      intro i hi nF nG F5 G5 w hA hB hw e50 hs hst hm hGR
      have i200 : i = 200 := by omega
      subst i200
      obtain ⟨x1, x2⟩ := (q_T_runEmpty_30 hA).1 (by rw [b_le (by decide) (by decide)]; exact Nat.le_refl _)
      cases x1
      subst x2
      obtain ⟨m1, G6, d2, Q1, Q2⟩ := q_M_drains_8 hB
      obtain ⟨w1, w2⟩ := s_mcount hn hs.2.2.2.2 d2
      subst w1
      cases w2
      by_cases z : npk F2 153 = 0
      · obtain ⟨G7, d3, Q3, Q4⟩ := Q1 (by rw [z, b_le (by decide) (by decide)]; exact Nat.le_refl _)
        exact Or.inl ⟨z, ((Q4 (by rw [b_le (by decide) (by decide)]; exact Nat.le_refl _)).1 (by rw [b_le (by decide) (by clear Q1 Q2 Q3 Q4; omega)]; exact Nat.zero_le _)).1⟩
      · have hle : npk F2 153 ≤ 12 := cnt_le _ _
        obtain ⟨m2, G7, d3, m, hm2, hR2⟩ := (Q2 (by rw [b_lt (by decide) (by clear Q1 Q2; omega)]; clear Q1 Q2; omega)).2 (by rw [b_le (by decide) (by decide)]; exact Nat.le_refl _)
        clear Q1 Q2
        rw [b_add (show 200 + 1 < 4294967296 by decide)] at hR2
        obtain ⟨m3, G8, d4, Q1, Q2⟩ := q_M_drains_8 hR2
        have l200 : s_lt 200 (200 + 1) := by rw [b_lt (by decide) (by decide)]; decide
        rcases s_tot m3 0 with y | y
        · obtain ⟨G9, d5, Q3, Q4⟩ := Q1 y
          exact Or.inr ⟨z, (Q3 l200).1⟩
        · obtain ⟨G9, d5, Q3, Q4⟩ := (Q2 y).1 l200
          exact Or.inr ⟨z, (Q3 l200).1⟩
    | succ k ih =>
      intro i hi nF nG F5 G5 w hA hB hw e50 hs hst hm hGR
      obtain ⟨n5, F6, c6, Q1, Q2⟩ := (q_T_runEmpty_30 hA).2 (by rw [b_lt (by omega) (by decide)]; omega)
      obtain ⟨y1, y2⟩ := s_ccount c6
      subst y1
      cases y2
      obtain ⟨m1, G6, d2, Q3, Q4⟩ := q_M_drains_8 hB
      obtain ⟨w1, w2⟩ := s_mcount hn hs.2.2.2.2 d2
      subst w1
      cases w2
      have hle : npk F6 153 ≤ 12 := cnt_le _ _
      by_cases z : npk F6 153 = 0
      · obtain ⟨x1, x2⟩ := Q2 z
        cases x1
        subst x2
        obtain ⟨G7, d3, Q5, Q6⟩ := Q3 (by rw [z, b_le (by decide) (by decide)]; exact Nat.le_refl _)
        exact Or.inl ⟨z, ((Q6 (by rw [b_le (by clear Q1 Q2 Q3 Q4 Q5 Q6; omega) (by decide)]; clear Q1 Q2 Q3 Q4 Q5 Q6; omega)).1 (by rw [b_le (by decide) (by clear Q1 Q2 Q3 Q4 Q5 Q6; omega)]; exact Nat.zero_le _)).1⟩
      · obtain ⟨F7, c7, Q5, Q6⟩ := Q1 z
        obtain ⟨m2, G7, d3, m, hm2, hR2⟩ := (Q4 (by rw [b_lt (by decide) (by clear Q1 Q2 Q3 Q4 Q5 Q6; omega)]; clear Q1 Q2 Q3 Q4 Q5 Q6; omega)).2 (by rw [b_le (by clear Q1 Q2 Q3 Q4 Q5 Q6; omega) (by decide)]; clear Q1 Q2 Q3 Q4 Q5 Q6; omega)
        clear Q1 Q2 Q3 Q4
        obtain ⟨w', e5, b1, b2, b3, b4, b5, b6, b7, b8⟩ := s_step2 hN sok153 hR hst hm hGR hs (by clear Q5 Q6; omega) c7 d3
        cases e5
        have hm7 : mn G7 nn L E := hm.keep b5 (by decide) (by decide) (by decide) (by decide)
        have hGR7 : G7 180 (G7 175 9) = R := (b5 180 _ (by decide)).trans (by rw [b5 175 _ (by decide)]; exact hGR)
        by_cases hw0 : m2 = 0
        · obtain ⟨x1, x2⟩ := Q6 (by rw [b2, hw0]; rfl)
          clear Q5 Q6
          subst x2
          have hI := sc_mgi hN hs hm
          have hp : ∀ j, j < 12 → mpk G6 nn L j := fun j hj => (hs.2.2.2.2 j hj).mpk
          obtain ⟨y, y1, y2, y3⟩ := s_mstill hN hR hI hGR hp d3
          have e : y = m2 := by cases y1; rfl
          rcases y3 with ⟨y4, y5, y6⟩ | ⟨y4, -⟩
          · have ex : ∃ j, j < 12 ∧ G6 176 (41 + j) ≠ 0 := Classical.byContradiction (fun q => z ((npk_0 hs.2.2.2.2 hn).mpr (fun j hj => Classical.byContradiction (fun q2 => q ⟨j, hj, q2⟩))))
            obtain ⟨j, hj, hne⟩ := ex
            have hne7 : G7 176 (41 + j) ≠ 0 := by rw [y6.2 (41 + j) (by omega)]; exact hne
            rw [b_add (show i + 1 < 4294967296 by omega)] at hR2
            refine Or.inr ⟨fun q => hne7 ((npk_0 b3.2.2.2.2 hn).mp q j hj), ?_⟩
            exact s_mtail (st := bts (F6 153 2)) (u := bts (F6 153 1)) hN hR (200 - i) (i + 1) (by omega) m _ G7 hR2 (y6.mgi hL hI) hGR7 (fun j hj => y6.tmpk hj (hp j hj)) (fun j hj => (y6.tstl hj).mpr (y5 j hj)) ⟨j, hj, hne7⟩
          · omega
        · obtain ⟨m', hm', hR'⟩ := Q5 (by rw [b2]; clear Q5 Q6; omega)
          clear Q5 Q6
          rw [b_add (show i + 1 < 4294967296 by omega)] at hR' hR2
          rw [b_add (show w + m2 < 4294967296 by omega)] at hR2
          exact ih (i + 1) (by omega) m' m F7 G7 (w + m2) hR' hR2 (by omega) (by omega) b3 (hst.keep sok153 b7 b8 b4) hm7 hGR7
  have hs5 : sc (fu (fu F4 50 1 0) 50 2 0) 153 (G1 176) nn L E := sc_congr hs4 hL (fun _ _ => rfl) (fun _ _ => ⟨rfl, rfl, rfl, rfl⟩) (fun i _ => k1 176 i (by decide))
  have r := lp 200 0 rfl mE mG _ G1 0 hRE hRG (Nat.zero_le _) (by rw [fu_i (by decide), fu_same]) hs5 hst (h.2.2.1.1.keep k1 (by decide) (by decide) (by decide) (by decide)) ((k1 180 _ (by decide)).trans (by rw [k1 175 _ (by decide)]; exact h.2.2.1.2.2))
  obtain ⟨y1, y2⟩ := s_ccount c3
  subst y1
  cases y2
  rcases r with ⟨r1, r2⟩ | ⟨r1, r2⟩
  · rw [r2]; exact (Q.2 r1).1
  · rw [r2]; exact (Q.1 r1).1
theorem o_stuck (h : lr F G nn L E C N R) (hF : Cl k_T_stuck [(2, 2)] F v F') (hG : Cl k_M_stuck [(2, 175)] G v2 G') : v = v2 ∧ lr F' G' nn L E C N R ∧ sF F F' ∧ sG G G' := by
  refine ⟨?_, h.kk (h_T_stuck h hF) (g_M_stuck hG)⟩
  have hN := h.1.1
  have hn := hN.1
  have hL := hN.2.1
  have hR := h.1.2.2.2
  obtain ⟨nF, hF⟩ := c_T_stuck hF
  obtain ⟨nG, hG⟩ := c_M_stuck hG
  obtain ⟨F1, c1, n2, F2, c2, m3, hm3, hR3⟩ := q_T_stuck_0 hF
  obtain ⟨G1, d1, w2, G2, d2, QG1, QG2⟩ := q_M_stuck_0 hG
  obtain ⟨hs1, hk1, -⟩ := s_trial h c1
  obtain ⟨k1, -⟩ := s_putAside d1
  obtain ⟨nE, c2⟩ := c_T_runEmpty c2
  obtain ⟨F4, c4, mE, hmE, hRE⟩ := q_T_runEmpty_0 c2
  obtain ⟨nS, d2⟩ := c_M_goSteps d2
  obtain ⟨mS, hmS, hRS⟩ := q_M_goSteps_0 d2
  obtain ⟨hst, hs4, -⟩ := s_trialt h hk1 hs1 c4
  have pkI : ∀ {F5 G5 : fx_F}, sc F5 153 (G5 176) nn L E → ∀ j, j < 12 → (G5 176 (41 + j) = 1 ↔ F5 154 j ≠ 4294967295) := by
    intro F5 G5 hs j hj
    rcases hs.2.2.2.2 j hj with ⟨a, b⟩ | ⟨a1, a2, a3, _⟩
    · exact ⟨fun z => by omega, fun z => absurd a z⟩
    · refine ⟨fun _ z => ?_, fun _ => a1⟩
      have a3' : F5 154 j < nn := a3
      omega
  have lp : ∀ (k i : Nat), i + k = 200 → ∀ (nF nG : Nat) (F5 G5 : fx_F) (w : Nat), Rn nF k_T_runEmpty 30 [(2, 2), (0, i), (3, 0)] [] F5 (0, n2) F2 → Rn nG k_M_goSteps 4 [(2, 175), (0, 200), (0, w), (0, i)] [] G5 (0, w2) G2 → w ≤ 12 * i → F5 50 1 = w → sc F5 153 (G5 176) nn L E → stc F5 nn L E 153 R → mn G5 nn L E → G5 180 (G5 175 9) = R → w2 ≤ 12 * 200 ∧ ∀ j, j < 12 → (G2 176 (41 + j) = 1 ↔ F2 154 j ≠ 4294967295) := by
    intro k
    induction k with
    | zero =>
      intro i hi nF nG F5 G5 w hA hB hw e50 hs hst hm hGR
      have i200 : i = 200 := by omega
      subst i200
      obtain ⟨x1, x2⟩ := (q_T_runEmpty_30 hA).1 (by rw [b_le (by decide) (by decide)]; exact Nat.le_refl _)
      obtain ⟨y1, y2⟩ := (q_M_goSteps_4 hB).1 (by rw [b_le (by decide) (by decide)]; exact Nat.le_refl _)
      subst x2
      subst y2
      cases y1
      exact ⟨hw, pkI hs⟩
    | succ k ih =>
      intro i hi nF nG F5 G5 w hA hB hw e50 hs hst hm hGR
      obtain ⟨n5, F6, c6, Q1, Q2⟩ := (q_T_runEmpty_30 hA).2 (by rw [b_lt (by omega) (by decide)]; omega)
      obtain ⟨y1, y2⟩ := s_ccount c6
      subst y1
      cases y2
      have hI := sc_mgi hN hs hm
      have hp : ∀ j, j < 12 → mpk G5 nn L j := fun j hj => (hs.2.2.2.2 j hj).mpk
      by_cases z : npk F6 153 = 0
      · obtain ⟨x1, x2⟩ := Q2 z
        subst x2
        have hz := (npk_0 hs.2.2.2.2 hn).mp z
        obtain ⟨r1, r2⟩ := s_mtail2 hN hR (show 200 ≤ 1000 by decide) (k + 1) i hi nG w G5 hB (by omega) hI hGR hp (fun j hj hne => absurd (hz j hj) hne)
        cases r1
        exact ⟨by omega, fun j hj => by rw [r2.2 (41 + j) (by omega)]; exact pkI hs j hj⟩
      · obtain ⟨F7, c7, Q5, Q6⟩ := Q1 z
        obtain ⟨m2, G7, d3, m, hm2, hR2⟩ := (q_M_goSteps_4 hB).2 (by rw [b_lt (by clear Q1 Q2 Q5 Q6; omega) (by decide)]; clear Q1 Q2 Q5 Q6; omega)
        clear Q1 Q2
        obtain ⟨w', e5, b1, b2, b3, b4, b5, b6, b7, b8⟩ := s_step2 hN sok153 hR hst hm hGR hs (by clear Q5 Q6; omega) c7 d3
        cases e5
        have hm7 : mn G7 nn L E := hm.keep b5 (by decide) (by decide) (by decide) (by decide)
        have hGR7 : G7 180 (G7 175 9) = R := (b5 180 _ (by decide)).trans (by rw [b5 175 _ (by decide)]; exact hGR)
        rw [b_add (show i + 1 < 4294967296 by clear Q5 Q6; omega), b_add (show w + m2 < 4294967296 by clear Q5 Q6; omega)] at hR2
        by_cases hw0 : m2 = 0
        · obtain ⟨x1, x2⟩ := Q6 (by rw [b2, hw0]; rfl)
          clear Q5 Q6
          subst x2
          obtain ⟨y, y1, y2, y3⟩ := s_mstill hN hR hI hGR hp d3
          have e : y = m2 := by cases y1; rfl
          rcases y3 with ⟨y4, y5, y6⟩ | ⟨y4, -⟩
          · obtain ⟨r1, r2⟩ := s_mtail2 hN hR (show 200 ≤ 1000 by decide) k (i + 1) (by omega) m _ G7 hR2 (by omega) (y6.mgi hL hI) hGR7 (fun j hj => y6.tmpk hj (hp j hj)) (fun j hj => (y6.tstl hj).mpr (y5 j hj))
            cases r1
            exact ⟨by omega, fun j hj => by rw [r2.2 (41 + j) (by omega)]; exact pkI b3 j hj⟩
          · omega
        · obtain ⟨m', hm', hR'⟩ := Q5 (by rw [b2]; clear Q5 Q6; omega)
          clear Q5 Q6
          rw [b_add (show i + 1 < 4294967296 by omega)] at hR'
          exact ih (i + 1) (by omega) m' m F7 G7 (w + m2) hR' hR2 (by omega) (by omega) b3 (hst.keep sok153 b7 b8 b4) hm7 hGR7
  have hs5 : sc (fu (fu F4 50 1 0) 50 2 0) 153 (G1 176) nn L E := sc_congr hs4 hL (fun _ _ => rfl) (fun _ _ => ⟨rfl, rfl, rfl, rfl⟩) (fun i _ => k1 176 i (by decide))
  obtain ⟨r1, r2⟩ := lp 200 0 rfl mE mS _ G1 0 hRE hRS (Nat.zero_le _) (by rw [fu_i (by decide), fu_same]) hs5 hst (h.2.2.1.1.keep k1 (by decide) (by decide) (by decide) (by decide)) ((k1 180 _ (by decide)).trans (by rw [k1 175 _ (by decide)]; exact h.2.2.1.2.2))
  obtain ⟨m4, hm4, hR4⟩ := QG1 (by rw [b_le (by decide) (by clear QG1 QG2; omega)]; exact Nat.zero_le _)
  clear QG1 QG2
  have lp2 : ∀ (k j : Nat), j + k = 12 → ∀ (nF nG x : Nat), Rn nF k_T_stuck 20 [(2, 2), (0, x), (0, j)] [] F2 v F' → Rn nG k_M_stuck 22 [(2, 175), (0, x), (0, j)] [] G2 v2 G' → v = v2 := by
    intro k
    induction k with
    | zero =>
      intro j hj nF nG x hA hB
      obtain ⟨x1, -⟩ := (q_T_stuck_20 hA).1 (by rw [b_le (by decide) (by omega)]; omega)
      obtain ⟨G3, d3, y1, -⟩ := (q_M_stuck_22 hB).1 (by rw [b_le (by decide) (by omega)]; omega)
      exact x1.trans y1.symm
    | succ k ih =>
      intro j hj nF nG x hA hB
      have l12 : s_lt j 12 := by rw [b_lt (by omega) (by decide)]; omega
      have Q := (((q_T_stuck_20 hA).2 l12).2 (by rw [b_le (by decide) (by omega)]; exact Nat.zero_le _)).2 l12
      have QG := (q_M_stuck_22 hB).2 l12
      rw [b_add (show j + 1 < 4294967296 by clear Q QG; omega)] at Q QG
      rw [b_add (show 41 + j < 4294967296 by clear Q QG; omega)] at QG
      have e := r2 j (by clear Q QG; omega)
      by_cases z : F2 154 j = 4294967295
      · obtain ⟨m, hm, hA2⟩ := Q.1 z
        obtain ⟨m', hm', hB2⟩ := QG.1 (fun y => e.mp y z)
        exact ih (j + 1) (by clear Q QG; omega) m m' _ hA2 hB2
      · obtain ⟨m, hm, hA2⟩ := Q.2 z
        obtain ⟨m', hm', hB2⟩ := QG.2 (e.mpr z)
        exact ih (j + 1) (by clear Q QG; omega) m m' _ hA2 hB2
  exact lp2 12 0 rfl m3 m4 0 hR3 hR4
end DRAIN
