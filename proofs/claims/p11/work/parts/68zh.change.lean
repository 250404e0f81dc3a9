/-! change, on both sides -/
section CHANGE
variable {nn L N R : Nat} {E C : Nat → Nat} {v v2 : fx_V} {F F' F1 G G' G1 : fx_F}
theorem s_cplanFor {r s up : Nat} (hN : nt_ok nn L E) (hC : cd_ok C N) (hC2 : N ≠ 0 → 0 < hgt C N) (hr : r < nn ∨ nn = 0) (hr2 : r < 10) (hc : cn F nn L E) (hcc : cc F C N) (hS : 53 ≤ F 2 13) (hup : F (F 2 13) 1 = up) (hss : F (F 2 13) 2 = s) (hu : up < 2 ^ L) (hs : s < 2 ^ L) (h : Cl k_T_planFor [(2, 2), (0, r)] F v F') : ∃ nw, v = (2, 0) ∧ nwb nw L E (rk C N (fr L E (bts s) r) (fun u => dgc E (bts s) u (2 * L))) ∧ fxo [20, 21, 22, 23, 46, 47, 48, 49] F F' ∧ F' 48 3 = cnt (bts (up ^^^ nw)) L ∧ cpl F' L E (bts s) up nw := by
  have hL := hN.2.1
  have s20 := p20 hL hs
  obtain ⟨n, h⟩ := c_T_planFor h
  obtain ⟨n1, F1, c1, F2, c2, x1, x2⟩ := q_T_planFor_0 h
  subst x2
  obtain ⟨nw, a1, a2, a3⟩ := s_upEndsBy (s := s) hN hC hC2 hr hr2 hc hcc hss.symm (by omega) c1
  cases a1
  have e2 : F1 2 13 = F 2 13 := a3 2 13 (by decide)
  have e3 : F1 (F1 2 13) 2 = s := by rw [e2, a3 _ _ (by simp; omega)]; exact hss
  rw [hup, e3] at c2
  obtain ⟨-, b2, b3, b4⟩ := s_lay hN hu a2.1 (by omega) (hc.keep a3 (by decide) (by decide) (by decide)) (fun v F1 h => s_cbits hL (Nat.xor_lt_two_pow hu a2.1) h) c2
  exact ⟨_, x1, a2, (a3.mono (by decide)).tr (b2.mono (by decide)), b3, b4⟩
theorem nwb_fun {R0 : Nat → Nat} {x y : Nat} (h : nwb x L E R0) (h2 : nwb y L E R0) : x = y := tb_ext (fun i => by
  have a := h.2 i
  have b := h2.2 i
  cases hx : x.testBit i <;> cases hy : y.testBit i
  · rfl
  · exact absurd (a.mpr (b.mp hy)) (by rw [hx]; decide)
  · exact absurd (b.mpr (a.mp hx)) (by rw [hy]; decide)
  · rfl)
/-- the plans agree -/
theorem plan2 {r : Nat} (h : lr F G nn L E C N R) (hr : r < nn) (hF : Cl k_T_planFor [(2, 2), (0, r)] F v F') (hG : Cl k_M_planFor [(2, 175), (0, r)] G v2 G') : ∃ nw, nwb nw L E (rk C N (fr L E (bts (F (F 2 13) 2)) r) (fun u => dgc E (bts (F (F 2 13) 2)) u (2 * L))) ∧ (lr F' G' nn L E C N R ∧ sF F F' ∧ sG G G') ∧ F' 2 13 = F 2 13 ∧ (∀ i, F' (F 2 13) i = F (F 2 13) i) ∧ (∀ i, G' 176 i = G 176 i) ∧ F' 48 3 = cnt (bts (F (F 2 13) 1 ^^^ nw)) L ∧ ((∃ k, k ≤ 20 ∧ plr L E (bts (F (F 2 13) 2)) (F (F 2 13) 1) nw k ∧ v2 = (0, k) ∧ mpo G' L E (bts (F (F 2 13) 2)) (F (F 2 13) 1) nw k ∧ F' 48 4 = k ∧ ∀ j, j < k → F' 49 j = pt L E (bts (F (F 2 13) 2)) (F (F 2 13) 1) nw j) ∨ (plb L E (bts (F (F 2 13) 2)) (F (F 2 13) 1) nw ∧ v2 = (0, 4294967294) ∧ F' 48 4 = 4294967294)) := by
  have hL := h.1.1.2.1
  have hN := h.1.1
  have hn := hN.1
  have hs0 := h.2.2.2.1.2
  have hS : S0 (F 2 13) := h.2.2.2.1.1.1.1
  have hS' : 53 ≤ F 2 13 := by unfold S0 at hS; omega
  obtain ⟨nw, -, a2, a3, a4, a5⟩ := s_cplanFor hN h.1.2.1 h.1.2.2.1 (Or.inl hr) (by omega) h.2.1.1 h.2.1.2.2.1 hS' rfl rfl hs0.2.1.1 hs0.2.2.1.1 hF
  obtain ⟨b1, b2⟩ := s_planFor (st := bts (F (F 2 13) 2)) hN h.1.2.1 h.1.2.2.1 (Or.inl hr) (by omega) hs0.2.1.1 a2 h.2.2.1.1 h.2.2.1.2.1 (fun l hl => mst_sc (hs0.2.2.1.2 l hl)) hs0.2.1.2 hG
  refine ⟨nw, a2, ?_, a3 2 13 (by decide), fun i => a3 _ i (by simp; omega), fun i => b1 176 i (by decide), a4, ?_⟩
  · exact h.fr (fun p i hp => a3 p i (by unfold qF at hp; simp; omega)) (h.2.2.2.2.1.eq (fun t i ht => a3 _ i (by simp; omega))) (h.2.2.2.2.2.eq (fun t i ht => a3 _ i (by simp; omega))) (fun p i hp _ => b1 p i (by unfold qG at hp; simp; omega)) (fun i _ => b1 175 i (by decide))
  · rcases b2 with ⟨k, k0, k1, k2, k3⟩ | ⟨k1, k2⟩
    · rcases a5 with ⟨k', j0, j1, j2, j3⟩ | ⟨j1, j2⟩
      · have := plr_fun k1 j1
        subst this
        exact Or.inl ⟨k, k0, k1, k2, k3, j2, j3⟩
      · exact (plr_plb k1 j1).elim
    · rcases a5 with ⟨k', j0, j1, j2, j3⟩ | ⟨j1, j2⟩
      · exact (plr_plb j1 k1).elim
      · exact Or.inr ⟨k1, k2, j2⟩
theorem o_change {a b : Nat} (ha : a < 4294967296) (hb : b < 4294967296) (h : lr F G nn L E C N R) (hF : Cl k_T_change [(2, 2), (0, a), (0, b)] F v F') (hG : Cl k_M_change [(2, 175), (0, a), (0, b)] G v2 G') : v = v2 ∧ lr F' G' nn L E C N R ∧ sF F F' ∧ sG G G' := by
  have hL := h.1.1.2.1
  have hN := h.1.1
  have hn := hN.1
  obtain ⟨nF, hF⟩ := c_T_change hF
  obtain ⟨nG, hG⟩ := c_M_change hG
  have Q := q_T_change_0 hF
  have QG := q_M_change_0 hG
  rw [h.2.1.1.1] at Q
  rw [h.2.2.1.1.2.1] at QG
  have no : v = (0, 4294967295) ∧ F' = F → v2 = (0, 4294967295) ∧ G' = G → v = v2 ∧ lr F' G' nn L E C N R ∧ sF F F' ∧ sG G G' := by
    rintro ⟨x1, x2⟩ ⟨y1, y2⟩
    subst x2
    subst y2
    exact ⟨x1.trans y1.symm, h, sF.rf, sG.rf⟩
  by_cases hl : a < nn
  · obtain ⟨i1, i2, i3⟩ := in_y hl (show nn ≤ 40 by clear Q QG; omega)
    replace Q := (Q.2 i1).2 i2
    replace QG := (QG.2 i1).2 i3
    by_cases hb1 : s_lt b 0
    · exact no (Q.1 hb1) (QG.1 hb1)
    · have hb1' : s_le 0 b := by
        rw [b_neg hb] at hb1
        rw [b_pos hb]
        clear Q QG
        omega
      replace Q := Q.2 hb1'
      replace QG := QG.2 hb1'
      by_cases hb2 : s_lt 20 b
      · exact no (Q.2 hb2) (QG.1 hb2)
      · have hb2' : s_le b 20 := by
          rw [b_ltc2 hb (by decide)] at hb2
          rw [b_lec2 hb (by decide)]
          clear Q QG
          omega
        have hb20 : b ≤ 1000 := by
          rw [b_lec2 hb (by decide)] at hb2'
          rw [b_pos hb] at hb1'
          clear Q QG
          omega
        obtain ⟨Fp, cp, Q1, Q2⟩ := Q.1 hb2'
        obtain ⟨n1, Gp, dp, QG1, QG2⟩ := QG.2 hb2'
        clear Q QG
        obtain ⟨nw, w1, ⟨w2, w2a, w2b⟩, w3, w4, w5, -, w6⟩ := plan2 h hl cp dp
        have hS : S0 (F 2 13) := h.2.2.2.1.1.1.1
        have hS' : 53 ≤ F 2 13 ∧ (F 2 13 + 4 ≤ 152 ∨ 160 ≤ F 2 13) ∧ F 2 13 + 4 ≤ 164 := by clear Q1 Q2 QG1 QG2; unfold S0 at hS; omega
        rcases w6 with ⟨k, k0, k1, k2, -, k4, k5⟩ | ⟨k1, k2, k4⟩
        · have hk1 : k = n1 := by cases k2; rfl
          subst hk1
          rw [k4] at Q1
          obtain ⟨F2, hk, mF, -, hRF⟩ := Q1 (by rw [b_le (by decide) (by clear Q1 Q2 QG1 QG2; omega)]; exact Nat.zero_le _)
          obtain ⟨G2, hk2, n3, G3, d3, y1, y2⟩ := QG1 (by rw [b_le (by decide) (by clear Q1 Q2 QG1 QG2; omega)]; exact Nat.zero_le _)
          clear Q1 Q2 QG1 QG2
          obtain ⟨r2, t1, t2, t3, t4, t5, t6, t7⟩ := w2.kept hk hk2
          rw [w3] at r2 t1 t5
          generalize hq : F 2 13 = q at *
          generalize hst : F q 2 = s at *
          generalize hup : F q 1 = up at *
          have e1 : F2 q 1 = up := (t1 0 1 (by decide)).trans ((w4 1).trans hup)
          have e2 : F2 q 2 = s := (t1 0 2 (by decide)).trans ((w4 2).trans hst)
          have hm2 : mn G2 nn L E := w2.2.2.1.1.eq (t4 9 (by decide) (by decide)) (fun p i h1 h2 => t3 p i (by simp; omega))
          have hmc2 : mcc G2 C N := w2.2.2.1.2.1.eq (t4 9 (by decide) (by decide)) (fun p i h1 h2 => t3 p i (by simp; omega))
          have hu2 : up < 2 ^ L := by rw [← e1]; exact t5.2.1.1
          have hs2 : s < 2 ^ L := by rw [← e2]; exact t5.2.2.1.1
          obtain ⟨mG, G4, o1, o2, -, hRG⟩ := s_phases0 (st := bts s) hN h.1.2.1 h.1.2.2.1 (Or.inl hl) (by omega) hm2 hmc2 (fun l hl => by have := mst_sc (t5.2.2.1.2 l hl); rw [e2] at this; exact this) d3
          have hk2' : ∀ p i, p ≠ 51 → ¬ rg p → F2 p i = Fp p i := t2
          -- the rounds
          have lp : ∀ (m i : Nat), i + m = k → ∀ (nF nG : Nat) (F5 G5 : fx_F), Rn nF k_T_change 54 [(2, 2), (0, a), (0, b), (0, i)] [] F5 v F' → Rn nG k_M_goPhases 28 [(2, 175), (3, 0), (0, b), (0, i)] [] G5 (0, n3) G3 → sc F5 q (G5 176) nn L E → F5 q 1 = pu L E (bts s) up nw i → F5 q 2 = s → rcI F5 nn L E 24 → fxo [24, 25, 26, 27, 28, 29, q, q + 1, q + 3, q + 4, 50] F2 F5 → fxo [176, 188, 189, 190, 191, 192, 193, 196, 197, 202, 203] G2 G5 → (∀ l, l < L → G5 190 l = ue E (bts nw) l) → v = (0, n3) ∧ ∃ F6, F' = fu F6 q 0 a ∧ sc F6 q (G3 176) nn L E ∧ rcI F6 nn L E 24 ∧ fxo [24, 25, 26, 27, 28, 29, q, q + 1, q + 3, q + 4, 50] F2 F6 ∧ fxo [176, 188, 189, 190, 191, 192, 193, 196, 197, 202, 203] G2 G3 := by
            intro m
            induction m with
            | zero =>
              intro i hi nF nG F5 G5 hF5 hG5 hsc u1 u2 hrc oF oG hw
              have hik : i = k := by omega
              subst hik
              have e213 : F5 2 13 = q := (oF 2 13 (by simp; omega)).trans r2
              have e484 : F5 48 4 = i := by rw [oF 48 4 (by simp; omega), hk2' 48 4 (by decide) (by unfold rg; omega)]; exact k4
              obtain ⟨x1, x2⟩ := (q_T_change_54 hF5).1 (by rw [e484, b_le (by omega) (by omega)]; exact Nat.le_refl _)
              rw [e213, fu_p (show 48 ≠ q by omega), e484] at x1
              rw [e213] at x2
              have hmp : mpi G5 nn L E (bts s) (pu L E (bts s) up nw i) nw := ⟨hm2.keep oG (by decide) (by decide) (by decide) (by decide), fun l hl => by have := mst_sc (hsc.2.2.1.2 l hl); rw [u2] at this; exact this, by rw [← u1]; exact hsc.2.1.2, hw⟩
              rcases s_round hN hu2 w1.1 (by omega) hmp hG5 with ⟨x1', x2', x3'⟩ | ⟨x1', x2', x3', x4'⟩ | ⟨x1', _⟩
              · cases x2'
                subst x3'
                exact ⟨x1, F5, x2, hsc, hrc, oF, oG⟩
              · exact absurd k1.1 x1'
              · exact absurd k1.1 x1'
            | succ m ih =>
              intro i hi nF nG F5 G5 hF5 hG5 hsc u1 u2 hrc oF oG hw
              have hik : i < k := by omega
              have e213 : F5 2 13 = q := (oF 2 13 (by simp; omega)).trans r2
              have e484 : F5 48 4 = k := by rw [oF 48 4 (by simp; omega), hk2' 48 4 (by decide) (by unfold rg; omega)]; exact k4
              have e49 : F5 49 i = pt L E (bts s) up nw i := by rw [oF 49 i (by simp; omega), hk2' 49 i (by decide) (by unfold rg; omega)]; exact k5 i hik
              have Q := q_T_change_54 hF5
              rw [e484, e213] at Q
              obtain ⟨n1, F7, c7, mF', _, hRF'⟩ := ((Q.2 (by rw [b_lt (by clear Q; omega) (by clear Q; omega)]; exact hik)).2 (by rw [b_le (by decide) (by clear Q; omega)]; exact Nat.zero_le _)).2 (by rw [b_lt (by clear Q; omega) (by clear Q; omega)]; exact hik)
              clear Q
              have hpu := @pu_lt L E (bts s) up nw hu2 i
              have hpt : pt L E (bts s) up nw i < 2 ^ L := tkl_lt
              rw [fu_p (show 2 ≠ q by omega), e213, u1, e49, b_xor (k := L) (by omega) hpu hpt, ← pu_s] at c7
              rw [b_add (show i + 1 < 4294967296 by omega)] at hRF'
              have hmG5 : mn G5 nn L E := hm2.keep oG (by decide) (by decide) (by decide) (by decide)
              have hmp : mpi G5 nn L E (bts s) (pu L E (bts s) up nw i) nw := ⟨hmG5, fun l hl => by have := mst_sc (hsc.2.2.1.2 l hl); rw [u2] at this; exact this, by rw [← u1]; exact hsc.2.1.2, hw⟩
              rcases s_round hN hu2 w1.1 (by omega) hmp hG5 with ⟨x1', _⟩ | ⟨x1', x2', _⟩ | ⟨x1', x2', mG', G6, n4, G7, _, y2, y3, y4, y5, y6, y7⟩
              · exact absurd x1' (k1.2 i hik).1
              · exact absurd x2' (k1.2 i hik).2
              · have hsc6 : sc (fu F5 q 1 (pu L E (bts s) up nw (i + 1))) q (G6 176) nn L E := by
                  refine sc_set hsc ?_ (fu_i (by decide)) ⟨?_, ?_⟩ ⟨?_, fun l hl2 => ?_⟩ (fun t j h1 h2 => fu_p (by omega)) (fun j h1 h2 => y3 j (Or.inr (by omega)))
                  · rw [fu_i (by decide), y3 40 (Or.inr (by decide))]; exact hsc.1
                  · rw [fu_same]; exact pu_lt hu2 (i + 1)
                  · rw [fu_same]; exact y4
                  · rw [fu_i (show 2 ≠ 1 by decide)]; exact hsc.2.2.1.1
                  · rw [fu_i (show 2 ≠ 1 by decide), y3 l (Or.inl (by omega))]; exact hsc.2.2.1.2 l hl2
                have of : ∀ p j, p ≠ q → fu F5 q 1 (pu L E (bts s) up nw (i + 1)) p j = Fp p j ∨ rg p ∨ p = 51 ∨ p ∈ [24, 25, 26, 27, 28, 29, q, q + 1, q + 3, q + 4, 50] := fun p j hp => by
                  by_cases z : p ∈ [24, 25, 26, 27, 28, 29, q, q + 1, q + 3, q + 4, 50]
                  · exact Or.inr (Or.inr (Or.inr z))
                  · by_cases z2 : p = 51 ∨ rg p
                    · rcases z2 with z2 | z2
                      · exact Or.inr (Or.inr (Or.inl z2))
                      · exact Or.inr (Or.inl z2)
                    · refine Or.inl ?_
                      rw [fu_p hp, oF p j z, hk2' p j (fun w => z2 (Or.inl w)) (fun w => z2 (Or.inr w))]
                have lo : ∀ p j, 3 ≤ p → p ≤ 9 → fu F5 q 1 (pu L E (bts s) up nw (i + 1)) p j = Fp p j := fun p j h1 h2 => by
                  rw [fu_p (by omega), oF p j (by simp; omega), hk2' p j (by omega) (by unfold rg; omega)]
                obtain ⟨w, z1, z2, z3, z4, z5, z6, z7, z8, z9⟩ := s_steps2 hN (S0_sok hS) h.1.2.2.2 hb20 (w2.2.1.1.eq lo) (w2.2.1.2.1.eq lo) ((lo 3 3 (by decide) (by decide)).trans w2.2.1.2.2.2) (hrc.eq (fun t j ht => fu_p (by omega))) (hmG5.keep y2 (by decide) (by decide) (by decide) (by decide)) (by
                  rw [y2 180 _ (by decide), y2 175 _ (by decide), oG 180 _ (by decide), oG 175 _ (by decide), t3 180 _ (by decide), t4 9 (by decide) (by decide)]
                  exact w2.2.2.1.2.2) hsc6 c7 y6
                refine ih (i + 1) (by omega) mF' mG' F7 G7 hRF' y7 z3 ?_ ?_ z9 ?_ ?_ (fun l hl2 => ?_)
                · rw [z7, fu_same]
                · rw [z8, fu_i (by decide)]; exact u2
                · exact (oF.wr (by simp)).tr z4
                · exact (oG.tr (y2.mono (by decide))).tr (z5.mono (by decide))
                · rw [z5 190 _ (by decide), y2 190 _ (by decide)]; exact hw l hl2
          have hsc4 : sc F2 q (G4 176) nn L E := sc_congr t5 hL (fun _ _ => rfl) (fun _ _ => ⟨rfl, rfl, rfl, rfl⟩) (fun i _ => o1 176 i (by decide))
          obtain ⟨x1, F6, x2, x3, x4, x5, x6⟩ := lp k 0 (Nat.zero_add k) mF mG F2 G4 hRF hRG hsc4 e1 e2 t6 fxo.rf (o1.mono (by decide)) (fun l hl2 => (o2 l hl2).trans (nwb_ue w1 hl2))
          refine ⟨x1.trans y1.symm, ?_⟩
          subst x2
          subst y2
          rw [w3] at hk
          have := w2.act (F' := fu F6 q 0 a) (G' := fu G3 176 40 a) (by rw [w3]; exact hk) hk2 (fun p i h1 h2 => ?_) (x4.eq (fun t i ht => fu_p (by omega))) (t7.eq (fun t i ht => ?_)) (fun p i h1 h2 h3 => ?_) (fun i _ => ?_) ?_
          · obtain ⟨z1, z2, z3⟩ := this
            refine ⟨z1, fun p i hp => (z2 p i hp).trans (w2a p i hp), fun p i hp => (z3.1 p i hp).trans (w2b.1 p i hp), fun i hi => (z3.2 i hi).trans (w2b.2 i hi)⟩
          · rw [w3] at h2
            rw [fu_p (by omega)]
            exact x5 p i (by unfold qF at h1; simp; omega)
          · rw [fu_p (by omega)]
            exact x5 _ i (by simp; omega)
          · rw [fu_p h3]
            exact x6 p i (by unfold qG at h1; simp; omega)
          · rw [fu_p (by decide)]
            exact x6 175 _ (by decide)
          · rw [w3]
            refine sc_set x3 ⟨?_, ?_, ?_⟩ (fu_i (by decide)) ⟨?_, fun l hl2 => ?_⟩ ⟨?_, fun l hl2 => ?_⟩ (fun t i h1 h2 => fu_p (by omega)) (fun i h1 h2 => fu_i (by omega))
            · rw [fu_same, fu_same]
            · rw [fu_same]; omega
            · rw [fu_same]; exact Or.inl hl
            · rw [fu_i (by decide)]; exact x3.2.1.1
            · rw [fu_i (by omega), fu_i (by decide)]; exact x3.2.1.2 l hl2
            · rw [fu_i (by decide)]; exact x3.2.2.1.1
            · rw [fu_i (by omega), fu_i (by decide)]; exact x3.2.2.1.2 l hl2
        · cases k2
          obtain ⟨x1, x2⟩ := Q2 (by rw [k4, b_neg (by decide)]; decide)
          obtain ⟨y1, y2⟩ := QG2 (by rw [b_neg (by decide)]; decide)
          subst x2
          subst y2
          exact ⟨x1.trans y1.symm, w2, w2a, w2b⟩
  · rcases in_n hl ha (show nn ≤ 40 by clear Q QG; omega) with z | ⟨z1, z2, z3⟩
    · exact no (Q.1 z) (QG.1 z)
    · exact no ((Q.2 z1).1 z2) ((QG.2 z1).1 z3)
end CHANGE
