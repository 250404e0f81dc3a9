/-! game agrees (names of other parts: s_trial s_trialt s_step2 sc_put s_cfree s_mfree s_ccount s_mcount lr.kk) -/
section GAME
variable {nn L R N q j : Nat} {E C : Nat → Nat} {v v2 : fx_V} {F F' F1 F2 G G' G1 G2 G3 : fx_F}
theorem cgo.fr {y : Nat} (hq : sok q) (h50 : F 50 1 + F 50 2 < 2147483000) (h : cgo F F' q j R y) : fxo [q, q + 1, q + 3, q + 4, 50] F F' ∧ (∀ i, i ≠ j → F' (q + 1) i = F (q + 1) i ∧ F' (q + 3) i = F (q + 3) i) ∧ F' q 1 = F q 1 ∧ F' q 2 = F q 2 ∧ F' 50 1 + F' 50 2 = F 50 1 + F 50 2 + 1 := by
  obtain ⟨q1, q2, q3⟩ := hq
  rcases h with ⟨c1, c2⟩ | ⟨c1, c2, c3⟩ | ⟨c1, c2, c3, c4⟩
  · subst c2
    refine ⟨((fxo.rf.wr (by simp)).wr (by simp)).wr (by simp), fun i hi => ⟨?_, ?_⟩, ?_, ?_, ?_⟩
    · rw [fu_p (show q + 1 ≠ 50 by omega), fu_p (show q + 1 ≠ q by omega), fu_i hi]
    · rw [fu_p (show q + 3 ≠ 50 by omega), fu_p (show q + 3 ≠ q by omega), fu_p (show q + 3 ≠ q + 1 by omega)]
    · rw [fu_p (show q ≠ 50 by omega), fu_i (by decide), fu_p (show q ≠ q + 1 by omega)]
    · rw [fu_p (show q ≠ 50 by omega), fu_i (by decide), fu_p (show q ≠ q + 1 by omega)]
    · rw [fu_same, fu_i (show 2 ≠ 1 by decide), fu_p (show 50 ≠ q by omega), fu_p (show 50 ≠ q + 1 by omega), b_add (by omega)]
      omega
  · subst c3
    refine ⟨(fxo.rf.wr (by simp)).wr (by simp), fun i hi => ⟨?_, ?_⟩, ?_, ?_, ?_⟩
    · rw [fu_p (show q + 1 ≠ 50 by omega), fu_p (show q + 1 ≠ q + 4 by omega)]
    · rw [fu_p (show q + 3 ≠ 50 by omega), fu_p (show q + 3 ≠ q + 4 by omega)]
    · rw [fu_p (show q ≠ 50 by omega), fu_p (show q ≠ q + 4 by omega)]
    · rw [fu_p (show q ≠ 50 by omega), fu_p (show q ≠ q + 4 by omega)]
    · rw [fu_same, fu_i (show 1 ≠ 2 by decide), fu_p (show 50 ≠ q + 4 by omega), b_add (by omega)]
      omega
  · subst c4
    refine ⟨((fxo.rf.wr (by simp)).wr (by simp)).wr (by simp), fun i hi => ⟨?_, ?_⟩, ?_, ?_, ?_⟩
    · rw [fu_p (show q + 1 ≠ 50 by omega), fu_p (show q + 1 ≠ q + 3 by omega), fu_i hi]
    · rw [fu_p (show q + 3 ≠ 50 by omega), fu_i hi, fu_p (show q + 3 ≠ q + 1 by omega)]
    · rw [fu_p (show q ≠ 50 by omega), fu_p (show q ≠ q + 3 by omega), fu_p (show q ≠ q + 1 by omega)]
    · rw [fu_p (show q ≠ 50 by omega), fu_p (show q ≠ q + 3 by omega), fu_p (show q ≠ q + 1 by omega)]
    · rw [fu_same, fu_i (show 2 ≠ 1 by decide), fu_p (show 50 ≠ q + 3 by omega), fu_p (show 50 ≠ q + 1 by omega), b_add (by omega)]
      omega
/-- who doesn't move waits -/
theorem s_cwait {X : Nat → Nat} (hN : nt_ok nn L E) (hq : sok q) (hR : R < 2147483648) (hF : stc F nn L E q R) (hs : sc F q X nn L E) (h50 : F 50 1 + F 50 2 < 2000000) (h : Cl k_Tr_goStep [(2, 50), (2, q), (2, 24)] F v F') : F' 50 1 + F' 50 2 = F 50 1 + F 50 2 + npk F q := by
  have hn := hN.1
  have hb := sc_lt hN hs
  obtain ⟨q1, q2, q3⟩ := id hq
  obtain ⟨n0, h⟩ := c_Tr_goStep h
  obtain ⟨m, -, hR0⟩ := q_Tr_goStep_0 h
  have lp : ∀ (k j : Nat), j + k = 12 → ∀ (n : Nat) (F2 : fx_F), Rn n k_Tr_goStep 2 [(2, 50), (2, q), (2, 24), (0, j)] [] F2 v F' → fxo [q, q + 1, q + 3, q + 4, 50] F F2 → (∀ i, j ≤ i → F2 (q + 1) i = F (q + 1) i ∧ F2 (q + 3) i = F (q + 3) i) → F2 q 1 = F q 1 → F2 q 2 = F q 2 → F2 50 1 + F2 50 2 = F 50 1 + F 50 2 + cnt (fun j => !(Nat.beq (F (q + 1) j) 4294967295)) j → F' 50 1 + F' 50 2 = F 50 1 + F 50 2 + npk F q := by
    intro k
    induction k with
    | zero =>
      intro j hj n F2 hF2 oF hi e1 e2 e50
      have j12 : j = 12 := by omega
      subst j12
      obtain ⟨x1, x2⟩ := (q_Tr_goStep_2 hF2).1 (by rw [b_le (by decide) (by decide)]; exact Nat.le_refl _)
      subst x2
      rw [fu_p (show 50 ≠ q by omega), fu_p (show 50 ≠ q by omega)]
      exact e50
    | succ k ih =>
      intro j hj n F2 hF2 oF hi e1 e2 e50
      have hj12 : j < 12 := by omega
      have Q := ((((q_Tr_goStep_2 hF2).2 (by rw [b_lt (by omega) (by decide)]; exact hj12)).2 (by rw [b_le (by decide) (by omega)]; exact Nat.zero_le _)).2 (by rw [b_lt (by omega) (by decide)]; exact hj12))
      rw [b_add (show j + 1 < 4294967296 by clear Q; omega)] at Q
      obtain ⟨i1, i3⟩ := hi j (Nat.le_refl _)
      have hc := cnt_le (fun j => !(Nat.beq (F (q + 1) j) 4294967295)) j
      by_cases hz : F2 (q + 1) j = 4294967295
      · obtain ⟨m, _, hR2⟩ := Q.1 hz
        clear Q
        refine ih (j + 1) (by omega) m F2 hR2 oF (fun i h => hi i (by omega)) e1 e2 ?_
        rw [cnt_n (by rw [← i1, hz]; rfl)]
        exact e50
      · obtain ⟨F3, c3, m, _, hR2⟩ := Q.2 hz
        clear Q
        rcases hs.2.2.2.2 j hj12 with ⟨a, -⟩ | ⟨p1, p2, p3, p4, p5, p6, p7, p8⟩
        · exact absurd (i1.trans a) hz
        · obtain ⟨k1, k2, k3, k4⟩ := hF.keep hq e1 e2 oF
          obtain ⟨-, cg⟩ := s_goOn hN hq hj12 k1 k2 hR (by rw [e2]; omega) (by rw [e1]; omega) k4 (by rw [i1]; exact p3) (by rw [oF (q + 2) j (by simp; omega)]; exact p5) (by rw [i3]; exact p7) c3
          obtain ⟨f1, f2, f3, f4, f5⟩ := cg.fr hq (by omega)
          refine ih (j + 1) (by omega) m F3 hR2 (oF.tr f1) (fun i h => ?_) (f3.trans e1) (f4.trans e2) ?_
          · obtain ⟨g1, g2⟩ := f2 i (by omega)
            obtain ⟨h1, h2⟩ := hi i (by omega)
            exact ⟨g1.trans h1, g2.trans h2⟩
          · rw [cnt_y (by
              show (!(Nat.beq (F (q + 1) j) 4294967295)) = true
              rw [show Nat.beq (F (q + 1) j) 4294967295 = false from Bool.eq_false_iff.mpr (fun z => hz (i1.trans (rx_beq.mp z)))]; rfl)]
            omega
  exact lp 12 0 rfl m F hR0 fxo.rf (fun _ _ => ⟨rfl, rfl⟩) rfl rfl rfl
/-- a step of a game -/
theorem s_gstep (hN : nt_ok nn L E) (hR : R < 2147483648) (hst : stc F nn L E 153 R) (hm : mn G nn L E) (hGR : G 180 (G 175 9) = R) (hs : sc F 153 (G 176) nn L E) (h50 : F 50 1 + F 50 2 < 2000000) {x : fx_V} {p w : Nat} (c : Cl k_Tr_goStep [(2, 50), (2, 153), (2, 24)] F x F') (d : Cl k_M_packetsNow [(2, 175)] G (0, p) G1) (d2 : Cl k_M_goStep [(2, 175)] G1 (0, w) G2) : sc F' 153 (G2 176) nn L E ∧ stc F' nn L E 153 R ∧ F' 50 2 = i_add (F 50 2) (i_sub p w) ∧ F' 50 1 + F' 50 2 ≤ F 50 1 + F 50 2 + 12 ∧ fxo [176, 193, 196, 197] G G2 ∧ fxo [153, 154, 156, 157, 50] F F' := by
  obtain ⟨w1, w2⟩ := s_mcount hN.1 hs.2.2.2.2 d
  subst w1
  cases w2
  obtain ⟨w', e5, b1, b2, b3, b4, b5, b6, b7, b8⟩ := s_step2 hN sok153 hR hst hm hGR hs (by omega) c d2
  cases e5
  have k := s_cwait hN sok153 hR hst hs h50 c
  have hle : npk F 153 ≤ 12 := cnt_le _ _
  refine ⟨b3, hst.keep sok153 b7 b8 b4, ?_, by omega, b5, b4⟩
  rw [i_sub_eq, i_add_eq]
  show F' 50 2 = (F 50 2 + (npk F 153 + (4294967296 - w % 4294967296)) % 4294967296) % 4294967296
  omega
theorem b_max1 {x : Nat} (h1 : 1 ≤ x) (hx : x < 2147483648) : i_max x 1 = x := by
  rw [i_max_eq]
  cases e : Nat.blt (rx_bi x) (rx_bi 1) with
  | false => rfl
  | true =>
    have e2 : rx_bi x < rx_bi 1 := by simpa [Nat.blt_eq] using e
    rw [ax_bi_def, ax_bi_def] at e2
    omega
/-- what is drawn next -/
def drw (d : Nat) : Nat := (137 * d + 71) % 10007
theorem drw_le (d : Nat) : drw d ≤ 10006 := by unfold drw; omega
theorem b_drw {d : Nat} (h : d ≤ 10006) : i_rem (i_add (i_mul 137 d) 71) 10007 = drw d := by
  rw [b_mul (by omega), b_add (by omega), b_rem (by omega) (by decide) (by decide)]; rfl
theorem o_game {a b c : Nat} (ha : a < 4294967296) (hb : b < 4294967296) (hc : c < 4294967296) (h : lr F G nn L E C N R) (hF : Cl k_T_game [(2, 2), (0, a), (0, b), (0, c)] F v F') (hG : Cl k_M_game [(2, 175), (0, a), (0, b), (0, c)] G v2 G') : v = v2 ∧ lr F' G' nn L E C N R ∧ sF F F' ∧ sG G G' := by
  refine ⟨?_, h.kk (h_T_game h hF) (g_M_game hG)⟩
  have hN := h.1.1
  have hn := hN.1
  have hL := hN.2.1
  have hR := h.1.2.2.2
  obtain ⟨nF, hF⟩ := c_T_game hF
  obtain ⟨nG, hG⟩ := c_M_game hG
  have Q := q_T_game_0 hF
  have QG := q_M_game_0 hG
  rw [h.2.1.1.1] at Q
  rw [h.2.2.1.1.2.1] at QG
  by_cases hz : nn = 0
  · exact (Q.1 hz).1.trans (QG.1 hz).1.symm
  replace Q := Q.2 hz
  replace QG := QG.2 hz
  rcases s_tot 0 a with a0 | a0
  case inr => exact (Q.1 a0).1.trans (QG.1 a0).1.symm
  replace Q := Q.2 a0
  replace QG := QG.2 a0
  rcases s_tot a 9999 with a1 | a1
  case inr => exact (Q.1 a1).1.trans (QG.1 a1).1.symm
  replace Q := Q.2 a1
  replace QG := QG.2 a1
  rcases s_tot 1 b with b0 | b0
  case inr => exact (Q.1 b0).1.trans (QG.1 b0).1.symm
  replace Q := Q.2 b0
  replace QG := QG.2 b0
  rcases s_tot b 60 with b1 | b1
  case inr => exact (Q.2 b1).1.trans (QG.1 b1).1.symm
  replace Q := Q.1 b1
  replace QG := QG.2 b1
  rcases s_tot 0 c with c0 | c0
  case inr => exact (Q.1 c0).1.trans (QG.1 c0).1.symm
  replace Q := Q.2 c0
  replace QG := QG.2 c0
  rcases s_tot c 3 with c1 | c1
  case inr => exact (Q.2 c1).1.trans (QG.1 c1).1.symm
  have ha31 : a ≤ 9999 := by rw [b_pos ha] at a0; rw [b_le a0 (by decide)] at a1; exact a1
  have hb60 : b ≤ 60 := by
    have : s_le 0 b := by
      rw [s_le_eq] at b0 ⊢
      rw [ax_bi_def, ax_bi_def] at b0 ⊢
      omega
    rw [b_pos hb] at this; rw [b_le this (by decide)] at b1; exact b1
  have hc3 : c ≤ 3 := by rw [b_pos hc] at c0; rw [b_le c0 (by decide)] at c1; exact c1
  obtain ⟨F1, k1, F2, k2, n3, F3, k3, Q4⟩ := Q.1 c1
  obtain ⟨G1, d1, mG, hmG, hRG⟩ := QG.2 c1
  clear Q QG
  obtain ⟨hs1, hk1, e3⟩ := s_trial h k1
  obtain ⟨hst, hs2, ho2⟩ := s_trialt h hk1 hs1 k2
  obtain ⟨p1, p2⟩ := s_putAside d1
  obtain ⟨nP, k3⟩ := c_Tr_play k3
  obtain ⟨mP, hmP, hRP⟩ := q_Tr_play_0 k3
  have hS : S0 (F 2 13) := h.2.2.2.1.1.1.1
  have hS' : 53 ≤ F 2 13 ∧ (F 2 13 + 4 ≤ 152 ∨ 160 ≤ F 2 13) := by unfold S0 at hS; omega
  have hnow : ∀ i, F1 (F 2 13) i = F (F 2 13) i := fun i => hk1.1 _ i (by unfold qF; omega)
  have e213 : F1 2 13 = F 2 13 := hk1.1 2 13 (by unfold qF; omega)
  have lp : ∀ (k i : Nat), i + k = b → ∀ (nF nG : Nat) (F5 G5 : fx_F) (d rf : Nat), Rn nF k_Tr_play 9 [(2, 50), (2, 153), (2, 24), (3, 0), (0, b), (0, rf), (0, d), (0, i), (3, 0), (3, 0)] [] F5 (0, n3) F3 → Rn nG k_M_game 66 [(2, 175), (3, 0), (0, b), (0, c), (0, i), (3, 0)] [] G5 v2 G' → d ≤ 10006 → G5 175 49 = d → G5 175 52 = rf → G5 175 50 = F5 50 2 → F5 50 1 + F5 50 2 ≤ 12 * i → sc F5 153 (G5 176) nn L E → stc F5 nn L E 153 R → mn G5 nn L E → G5 180 (G5 175 9) = R → (∀ i, G5 199 i = G1 199 i) → (∀ p i, p = 2 ∨ p = F 2 13 → F5 p i = F p i) → v2 = (0, if c = 0 then i_sub (F3 153 3) (F (F 2 13) 3) else if c = 1 then npk F3 153 else if c = 2 then F3 50 2 else n3) ∧ ∀ p i, p = 2 ∨ p = F 2 13 → F3 p i = F p i := by
    intro k
    induction k with
    | zero =>
      intro i hi nF nG F5 G5 d rf hA hB hd g49 g52 g50 h50 hs hst hm hGR g199 hkp
      have ib : i = b := by omega
      subst ib
      have lb : s_le i i := by rw [b_le (by omega) (by omega)]; exact Nat.le_refl _
      obtain ⟨x1, x2⟩ := (q_Tr_play_9 hA).1 lb
      obtain ⟨m1, G6, d2, G7, d3, Q3, Q5⟩ := (q_M_game_66 hB).1 lb
      cases x1
      subst x2
      obtain ⟨w1, w2⟩ := s_mcount hn hs.2.2.2.2 d2
      subst w1
      cases w2
      have fb := (s_bringBack d3).1
      refine ⟨?_, hkp⟩
      by_cases c0 : c = 0
      · rw [if_pos c0, (Q5 c0).1, g199 101, p2 101 (by decide), hs.2.2.2.1, h.2.2.2.1.2.2.2.2.1]
      · rw [if_neg c0]
        by_cases c1 : c = 1
        · rw [if_pos c1, ((Q3 c0).2 c1).1]
        · rw [if_neg c1]
          by_cases c2 : c = 2
          · rw [if_pos c2, (((Q3 c0).1 c1).2 c2).1, fb 175 50 (by decide), g50]
          · rw [if_neg c2, (((Q3 c0).1 c1).1 c2).1, fb 175 52 (by decide), g52]
    | succ k ih =>
      intro i hi nF nG F5 G5 d rf hA hB hd g49 g52 g50 h50 hs hst hm hGR g199 hkp
      have lb : s_lt i b := by rw [b_lt (by omega) (by omega)]; omega
      have Q := (q_Tr_play_9 hA).2 lb
      obtain ⟨G6, d2, m', hm', hB2⟩ := (q_M_game_66 hB).2 lb
      obtain ⟨nO, d2⟩ := c_M_gameOnce d2
      have QG := q_M_gameOnce_0 d2
      have hd1 := drw_le d
      have hd2 := drw_le (drw d)
      rw [hst.1.1, b_max1 (show 1 ≤ nn by clear Q QG; omega) (show nn < 2147483648 by clear Q QG; omega), b_drw hd, b_drw hd1, b_rem (show drw d < 2147483648 by clear Q QG; omega) (show 0 < nn by clear Q QG; omega) (show nn < 2147483648 by clear Q QG; omega), b_rem (show drw (drw d) < 2147483648 by clear Q QG; omega) (show 0 < nn by clear Q QG; omega) (show nn < 2147483648 by clear Q QG; omega), b_add (show i + 1 < 4294967296 by clear Q QG; omega)] at Q
      rw [hm.2.1, g49, b_drw hd, b_drw hd1, b_rem (show drw d < 2147483648 by clear Q QG; omega) (show 0 < nn by clear Q QG; omega) (show nn < 2147483648 by clear Q QG; omega), b_rem (show drw (drw d) < 2147483648 by clear Q QG; omega) (show 0 < nn by clear Q QG; omega) (show nn < 2147483648 by clear Q QG; omega)] at QG
      have hxn : drw d % nn < nn := Nat.mod_lt _ (by clear Q QG; omega)
      have hyn : drw (drw d) % nn < nn := Nat.mod_lt _ (by clear Q QG; omega)
      generalize drw d % nn = x at Q QG hxn
      generalize drw (drw d) % nn = y at Q QG hyn
      generalize hdd : drw (drw d) = d2' at Q QG hd2
      rw [b_add (show i + 1 < 4294967296 by clear Q QG; omega)] at hB2
      obtain ⟨i1, i2, i3⟩ := in_y hxn (show nn ≤ 40 by clear Q QG; omega)
      obtain ⟨j1, j2, j3⟩ := in_y hyn (show nn ≤ 40 by clear Q QG; omega)
      replace QG := (((QG.2 i1).2 i3).2 j1).2 j3
      -- one turn, whatever is put there before
      have go : ∀ (Fx Gx : fx_F) (rf' : Nat) (mF : Nat) {F7 : fx_F} {xv : fx_V}, Cl k_Tr_goStep [(2, 50), (2, 153), (2, 24)] Fx xv F7 → Rn mF k_Tr_play 9 [(2, 50), (2, 153), (2, 24), (3, 0), (0, b), (0, rf'), (0, d2'), (0, i + 1), (3, 0), (3, 0)] [] F7 (0, n3) F3 → (∃ (p : Nat) (G7 : fx_F), Cl k_M_packetsNow [(2, 175)] Gx (0, p) G7 ∧ ∃ (w : Nat) (G8 : fx_F), Cl k_M_goStep [(2, 175)] G7 (0, w) G8 ∧ ((2, 0) : fx_V) = (2, 0) ∧ G6 = fu (fu G8 175 50 (i_add (G8 175 50) (i_sub p w))) 175 51 (i_add (G8 175 51) w)) → Gx 175 49 = d2' → Gx 175 52 = rf' → Gx 175 50 = Fx 50 2 → Fx 50 1 + Fx 50 2 ≤ 12 * i → sc Fx 153 (Gx 176) nn L E → stc Fx nn L E 153 R → mn Gx nn L E → Gx 180 (Gx 175 9) = R → (∀ i, Gx 199 i = G1 199 i) → (∀ p i, p = 2 ∨ p = F 2 13 → Fx p i = F p i) → v2 = (0, if c = 0 then i_sub (F3 153 3) (F (F 2 13) 3) else if c = 1 then npk F3 153 else if c = 2 then F3 50 2 else n3) ∧ ∀ p i, p = 2 ∨ p = F 2 13 → F3 p i = F p i := by
        clear Q QG
        rintro Fx Gx rf' mF F7 xv cS hS2 ⟨p, G7, dp, w, G8, dw, -, eG⟩ x49 x52 x50 xb xs xst xm xR x199 xk
        obtain ⟨r1, r2, r3, r4, r5, r6⟩ := s_gstep hN hR xst xm xR xs (by omega) cS dp dw
        subst eG
        have km : mn (fu (fu G8 175 50 (i_add (G8 175 50) (i_sub p w))) 175 51 (i_add (G8 175 51) w)) nn L E := (xm.keep r5 (by decide) (by decide) (by decide) (by decide)).eq (by rw [fu_i (by decide), fu_i (by decide)]) (fun p i h1 h2 => by rw [fu_p (by omega), fu_p (by omega)])
        refine ih (i + 1) (by omega) mF m' F7 _ d2' rf' hS2 hB2 hd2 ?_ ?_ ?_ (by omega) ?_ r2 km ?_ (fun i => ?_) (fun p i hp => ?_)
        · rw [fu_i (by decide), fu_i (by decide), r5 175 _ (by decide)]; exact x49
        · rw [fu_i (by decide), fu_i (by decide), r5 175 _ (by decide)]; exact x52
        · rw [fu_i (by decide), fu_same, r5 175 _ (by decide), x50]; exact r3.symm
        · exact sc_congr r1 hL (fun _ _ => rfl) (fun _ _ => ⟨rfl, rfl, rfl, rfl⟩) (fun i _ => by rw [fu_p (by decide), fu_p (by decide)])
        · rw [fu_p (by decide), fu_p (by decide), fu_i (by decide), fu_i (by decide), r5 175 _ (by decide), r5 180 _ (by decide)]; exact xR
        · rw [fu_p (by decide), fu_p (by decide), r5 199 _ (by decide)]; exact x199 i
        · rw [r6 p i (by simp; omega)]; exact xk p i hp
      -- refused
      have ref : ∀ {mF : Nat} {F7 : fx_F} {z1 : Nat}, Cl k_Tr_goStep [(2, 50), (2, 153), (2, 24)] F5 (2, 0) F7 → Rn mF k_Tr_play 9 [(2, 50), (2, 153), (2, 24), (3, 0), (0, b), (0, i_add rf 1), (0, d2'), (0, i + 1), (3, 0), (3, 0)] [] F7 (0, n3) F3 → (∃ (p : Nat) (G7 : fx_F), Cl k_M_packetsNow [(2, 175)] (fu (fu (fu G5 175 49 z1) 175 49 d2') 175 52 (i_add (G5 175 52) 1)) (0, p) G7 ∧ ∃ (w : Nat) (G8 : fx_F), Cl k_M_goStep [(2, 175)] G7 (0, w) G8 ∧ ((2, 0) : fx_V) = (2, 0) ∧ G6 = fu (fu G8 175 50 (i_add (G8 175 50) (i_sub p w))) 175 51 (i_add (G8 175 51) w)) → v2 = (0, if c = 0 then i_sub (F3 153 3) (F (F 2 13) 3) else if c = 1 then npk F3 153 else if c = 2 then F3 50 2 else n3) ∧ ∀ p i, p = 2 ∨ p = F 2 13 → F3 p i = F p i := by
        clear Q QG
        intro mF F7 z1 cS hS2 hx
        refine go F5 _ _ mF cS hS2 hx ?_ ?_ ?_ h50 ?_ hst ?_ ?_ (fun i => ?_) hkp
        · rw [fu_i (by decide), fu_same]
        · rw [fu_same, g52]
        · rw [fu_i (by decide), fu_i (by decide), fu_i (by decide)]; exact g50
        · exact sc_congr hs hL (fun _ _ => rfl) (fun _ _ => ⟨rfl, rfl, rfl, rfl⟩) (fun i _ => by rw [fu_p (by decide), fu_p (by decide), fu_p (by decide)])
        · exact hm.eq (by rw [fu_i (by decide), fu_i (by decide), fu_i (by decide)]) (fun p i h1 h2 => by rw [fu_p (by omega), fu_p (by omega), fu_p (by omega)])
        · rw [fu_p (by decide), fu_p (by decide), fu_p (by decide), fu_i (by decide), fu_i (by decide), fu_i (by decide)]; exact hGR
        · rw [fu_p (by decide), fu_p (by decide), fu_p (by decide)]; exact g199 i
      by_cases hxy : x = y
      · obtain ⟨F7, cS, mF, hmF, hS2⟩ := Q.1 hxy
        exact ref cS hS2 (QG.1 hxy)
      · obtain ⟨n5, F6, c6, Q1, Q2⟩ := Q.2 hxy
        obtain ⟨m5, G7, d5, QG1, QG2⟩ := QG.2 hxy
        clear Q QG
        obtain ⟨w, f1, f2, f3⟩ := s_cfree c6
        obtain ⟨w', g1, g2, g3⟩ := s_mfree d5
        cases f1
        cases g1
        subst f2
        subst g2
        have g3' : frs (fun j => G5 176 (41 + j) = 0) m5 := frs_congr (fun j _ => by rw [fu_p (by decide), fu_p (by decide)]) g3
        have hww : m5 = n5 := frs_fun g3' (frs_congr (fun j hj => pk_free hn (hs.2.2.2.2 j hj)) f3)
        subst hww
        by_cases hw : m5 = 4294967295
        · obtain ⟨F7, cS, mF, hmF, hS2⟩ := (Q1 hw).2 hw
          have hx := QG1 (by rw [hw, b_neg (by decide)]; decide)
          exact ref cS hS2 (by
            rw [fu_i (show 52 ≠ 49 by decide), fu_i (show 52 ≠ 49 by decide)] at hx
            exact hx)
        · have hw12 : m5 < 12 := by
            rcases f3 with z | z
            · exact absurd z.1 hw
            · exact z.1
          obtain ⟨F7, cS, mF, hmF, hS2⟩ := (Q2 hw).1 hw
          have l0 : s_le 0 m5 := by rw [b_pos (by clear Q1 Q2 QG1 QG2; omega)]; clear Q1 Q2 QG1 QG2; omega
          obtain ⟨m6, G8, d6, -, QG3⟩ := QG2 l0
          obtain ⟨w', g4, g5, g6⟩ := s_mfree d6
          cases g4
          subst g5
          have h66 : m6 = m5 := frs_fun g6 g3
          subst h66
          have hx := QG3 l0
          clear Q1 Q2 QG1 QG2 QG3
          rw [b_add (show 41 + m6 < 4294967296 by omega), b_add (show 53 + m6 < 4294967296 by omega), b_add (show 65 + m6 < 4294967296 by omega), b_add (show 77 + m6 < 4294967296 by omega), b_add (show 89 + m6 < 4294967296 by omega)] at hx
          have hsb : sc F6 153 (fu (fu G5 175 49 (drw d)) 175 49 d2' 176) nn L E := sc_congr hs hL (fun _ _ => rfl) (fun _ _ => ⟨rfl, rfl, rfl, rfl⟩) (fun i _ => by rw [fu_p (by decide), fu_p (by decide)])
          have hput := sc_put hL hsb hn hw12 hxn hyn (by decide)
          have ho : fxo [154, 155, 156, 157] F6 (fu (fu (fu (fu F6 (153 + 1) m6 x) (153 + 2) m6 y) (153 + 3) m6 4294967295) (153 + 4) m6 0) := (((fxo.rf.wr (by simp)).wr (by simp)).wr (by simp)).wr (by simp)
          have hst' : stc (fu (fu (fu (fu F6 (153 + 1) m6 x) (153 + 2) m6 y) (153 + 3) m6 4294967295) (153 + 4) m6 0) nn L E 153 R := by
            unfold stc
            rw [ho 153 1 (by decide), ho 153 2 (by decide)]
            exact ⟨hst.1.keep ho (by decide) (by decide) (by decide), by rw [ho 3 3 (by decide)]; exact hst.2.1, hst.2.2.1.keep ho (by decide) (by decide) (by decide), hst.2.2.2.keep ho (by decide)⟩
          generalize fu (fu (fu (fu F6 (153 + 1) m6 x) (153 + 2) m6 y) (153 + 3) m6 4294967295) (153 + 4) m6 0 = Fx at cS hput ho hst'
          refine go Fx _ rf mF cS hS2 hx ?_ ?_ ?_ ?_ ?_ hst' ?_ ?_ (fun i => ?_) (fun p i hp => ?_)
          · rw [fu_i (by decide), fu_p (by decide), fu_p (by decide), fu_p (by decide), fu_p (by decide), fu_p (by decide), fu_same]
          · rw [fu_i (by decide), fu_p (by decide), fu_p (by decide), fu_p (by decide), fu_p (by decide), fu_p (by decide), fu_i (by decide), fu_i (by decide)]; exact g52
          · rw [fu_i (by decide), fu_p (by decide), fu_p (by decide), fu_p (by decide), fu_p (by decide), fu_p (by decide), fu_i (by decide), fu_i (by decide), ho 50 _ (by decide)]; exact g50
          · rw [ho 50 _ (by decide), ho 50 _ (by decide)]; exact h50
          · exact sc_congr hput hL (fun _ _ => rfl) (fun _ _ => ⟨rfl, rfl, rfl, rfl⟩) (fun i _ => fu_p (by decide))
          · exact hm.eq (by rw [fu_i (by decide), fu_p (by decide), fu_p (by decide), fu_p (by decide), fu_p (by decide), fu_p (by decide), fu_i (by decide), fu_i (by decide)]) (fun p i h1 h2 => by rw [fu_p (by omega), fu_p (by omega), fu_p (by omega), fu_p (by omega), fu_p (by omega), fu_p (by omega), fu_p (by omega), fu_p (by omega)])
          · have e9 : ∀ z, fu (fu (fu (fu (fu (fu (fu (fu G5 175 49 (drw d)) 175 49 d2') 176 (41 + m6) 1) 176 (53 + m6) y) 176 (65 + m6) x) 176 (77 + m6) 4294967295) 176 (89 + m6) 0) 175 51 z 175 9 = G5 175 9 := fun z => by rw [fu_i (by decide), fu_p (by decide), fu_p (by decide), fu_p (by decide), fu_p (by decide), fu_p (by decide), fu_i (by decide), fu_i (by decide)]
            rw [e9, fu_p (by decide), fu_p (by decide), fu_p (by decide), fu_p (by decide), fu_p (by decide), fu_p (by decide), fu_p (by decide), fu_p (by decide)]; exact hGR
          · rw [fu_p (by decide), fu_p (by decide), fu_p (by decide), fu_p (by decide), fu_p (by decide), fu_p (by decide), fu_p (by decide), fu_p (by decide)]; exact g199 i
          · rw [ho p i (by simp; omega)]; exact hkp p i hp
  obtain ⟨r1, r2⟩ := lp b 0 (Nat.zero_add b) mP mG _ _ a 0 hRP hRG (by omega) (by rw [fu_i (by decide), fu_i (by decide), fu_i (by decide), fu_same]) (by rw [fu_same]) (by rw [fu_i (by decide), fu_i (by decide), fu_same, fu_same]) (by rw [fu_i (by decide), fu_same, fu_same]; exact Nat.zero_le _) (sc_congr hs2 hL (fun _ _ => rfl) (fun _ _ => ⟨rfl, rfl, rfl, rfl⟩) (fun i _ => by rw [fu_p (by decide), fu_p (by decide), fu_p (by decide), fu_p (by decide)]; exact p1 176 i (by decide))) hst ((h.2.2.1.1.keep p1 (by decide) (by decide) (by decide) (by decide)).eq (by rw [fu_i (by decide), fu_i (by decide), fu_i (by decide), fu_i (by decide)]) (fun p i h1 h2 => by rw [fu_p (by omega), fu_p (by omega), fu_p (by omega), fu_p (by omega)])) (by rw [fu_i (by decide), fu_i (by decide), fu_i (by decide), fu_i (by decide), fu_p (by decide), fu_p (by decide), fu_p (by decide), fu_p (by decide), p1 175 _ (by decide), p1 180 _ (by decide)]; exact h.2.2.1.2.2) (fun i => by rw [fu_p (by decide), fu_p (by decide), fu_p (by decide), fu_p (by decide)]) (fun p i hp => by rw [ho2 p i (by simp; omega)]; exact hk1.1 p i (by unfold qF; omega))
  rw [r1]
  rw [r2 2 13 (Or.inl rfl), r2 (F 2 13) 3 (Or.inr rfl)] at Q4
  by_cases c0' : c = 0
  · rw [if_pos c0']; exact (Q4.2.1 c0').1
  · rw [if_neg c0']
    by_cases c1' : c = 1
    · rw [if_pos c1']
      obtain ⟨n4, F4, k4, x1, x2⟩ := Q4.2.2.1 c1'
      obtain ⟨y1, y2⟩ := s_ccount k4
      cases y2
      exact x1
    · rw [if_neg c1']
      by_cases c2' : c = 2
      · rw [if_pos c2']; exact (Q4.2.2.2.1 c2').1
      · rw [if_neg c2']; exact (Q4.1 (Or.inr (by omega))).1
end GAME
