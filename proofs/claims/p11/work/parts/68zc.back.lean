/-! undo, redo, image, back, on both sides -/
section BACK
variable {nn L : Nat} {E : Nat → Nat} {v v2 : fx_V} {F F' G G' : fx_F}
theorem s_swapAll {k : Nat} (hk : k < 20) (h56 : G 175 56 = k) (h : Cl k_M_swapAll [(2, 175)] G v G') : v = (2, 0) ∧ fxo [176, 204] G G' ∧ (∀ x, x < 103 → G' 176 x = G 204 (103 * k + x) ∧ G' 204 (103 * k + x) = G 176 x) ∧ (∀ i, (i < 103 * k ∨ 103 * k + 103 ≤ i) → G' 204 i = G 204 i) := by
  obtain ⟨n, h⟩ := c_M_swapAll h
  obtain ⟨m, hm2, hR⟩ := q_M_swapAll_0 h
  have lp : ∀ (n : Nat) (G2 : fx_F) (l : Nat), Rn n k_M_swapAll 2 [(2, 175), (0, l), (3, 0)] [] G2 v G' → l ≤ 103 → fxo [176, 204] G G2 → (∀ x, x < l → G2 176 x = G 204 (103 * k + x) ∧ G2 204 (103 * k + x) = G 176 x) → (∀ x, l ≤ x → x < 103 → G2 176 x = G 176 x ∧ G2 204 (103 * k + x) = G 204 (103 * k + x)) → (∀ i, (i < 103 * k ∨ 103 * k + 103 ≤ i) → G2 204 i = G 204 i) → v = (2, 0) ∧ fxo [176, 204] G G' ∧ (∀ x, x < 103 → G' 176 x = G 204 (103 * k + x) ∧ G' 204 (103 * k + x) = G 176 x) ∧ (∀ i, (i < 103 * k ∨ 103 * k + 103 ≤ i) → G' 204 i = G 204 i) := by
    intro n
    induction n using Nat.strongRecOn with
    | ind n ih =>
      intro G2 l h hl ho hA hB hC
      have Q := q_M_swapAll_2 h
      rcases Nat.lt_or_ge l 103 with hlt | hge
      · obtain ⟨m, hm, hR⟩ := Q.2 (by rw [b_lt (by clear Q; omega) (by decide)]; exact hlt)
        clear Q
        obtain ⟨b1, b2⟩ := hB l (Nat.le_refl l) hlt
        rw [ho 175 _ (by decide), h56, b_mul (show 103 * k < 4294967296 by omega), b_add (show 103 * k + l < 4294967296 by omega), b_add (show l + 1 < 4294967296 by omega), b1, b2] at hR
        refine ih m hm _ (l + 1) hR hlt ((ho.wr (by decide)).wr (by decide)) (fun x hx => ?_) (fun x hx hx2 => ?_) (fun i hi => ?_)
        · by_cases e : x = l
          · subst e; rw [fu_same, fu_p (by decide), fu_same]; exact ⟨rfl, rfl⟩
          · rw [fu_i e, fu_p (by decide), fu_p (by decide), fu_i (by omega)]; exact hA x (by omega)
        · rw [fu_i (by omega), fu_p (by decide), fu_p (by decide), fu_i (by omega)]; exact hB x (by omega) hx2
        · rw [fu_p (by decide), fu_i (by omega)]; exact hC i hi
      · obtain ⟨x1, x2⟩ := Q.1 (by rw [b_le (by decide) (by clear Q; omega)]; exact hge)
        clear Q
        subst x2
        exact ⟨x1, ho, fun x hx => hA x (by omega), hC⟩
  exact lp m G 0 hR (Nat.zero_le _) fxo.rf (fun x hx => absurd hx (Nat.not_lt_zero _)) (fun _ _ _ => ⟨rfl, rfl⟩) (fun _ _ => rfl)
/-- now and a slot are exchanged -/
theorem hs_swap {k d u z : Nat} {F2 G2 : fx_F} (hL : L ≤ 20) (hh : hs F G nn L E) (hs0 : sc F (F 2 13) (G 176) nn L E) (hk : k < F 51 2 + F 51 3) (hz : z = (F 51 1 + k) % 20) (hdu : d + u = F 51 2 + F 51 3) (f1 : ∀ p i, p ≠ 2 → p ≠ 51 → p ≠ 52 → F2 p i = F p i) (f2 : F2 2 13 = F 52 z) (f3 : F2 51 1 = F 51 1 ∧ F2 51 2 = d ∧ F2 51 3 = u) (f4 : ∀ i, F2 52 i = if i = z then F 2 13 else F 52 i) (g1 : ∀ p i, p ≠ 175 → p ≠ 176 → p ≠ 204 → G2 p i = G p i) (g2 : G2 175 56 = d ∧ G2 175 57 = u) (g3 : ∀ x, x < 103 → G2 176 x = G 204 (103 * k + x) ∧ G2 204 (103 * k + x) = G 176 x) (g4 : ∀ i, (i < 103 * k ∨ 103 * k + 103 ≤ i) → G2 204 i = G 204 i) : hs F2 G2 nn L E ∧ sc F2 (F2 2 13) (G2 176) nn L E := by
  obtain ⟨⟨a1, a2, a3⟩, ⟨b1, b2, b3, b4⟩, c1, d1, e1⟩ := hh
  have hz20 : z < 20 := by rw [hz]; exact Nat.mod_lt _ (by decide)
  have mv : ∀ {q X}, sc F q X nn L E → S0 q ∨ q = 165 ∨ q = 170 → sc F2 q X nn L E := fun {q X} hx hq => sc_congr hx hL (fun i _ => f1 q i (by unfold S0 at hq; omega) (by unfold S0 at hq; omega) (by unfold S0 at hq; omega)) (fun i _ => ⟨f1 _ i (by unfold S0 at hq; omega) (by unfold S0 at hq; omega) (by unfold S0 at hq; omega), f1 _ i (by unfold S0 at hq; omega) (by unfold S0 at hq; omega) (by unfold S0 at hq; omega), f1 _ i (by unfold S0 at hq; omega) (by unfold S0 at hq; omega) (by unfold S0 at hq; omega), f1 _ i (by unfold S0 at hq; omega) (by unfold S0 at hq; omega) (by unfold S0 at hq; omega)⟩) (fun _ _ => rfl)
  refine ⟨⟨⟨?_, fun i hi => ?_, fun i j hi hj he => ?_⟩, ?_, fun i hi => ?_, ?_, fun b hb => ?_⟩, ?_⟩
  · rw [f2]; exact (a2 z hz20).1
  · rw [f2, f4]
    by_cases e : i = z
    · rw [if_pos e]; exact ⟨a1, fun w => (a2 z hz20).2 w.symm⟩
    · rw [if_neg e]; exact ⟨(a2 i hi).1, fun w => e (a3 i z hi hz20 w)⟩
  · rw [f4, f4] at he
    by_cases ei : i = z
    · by_cases ej : j = z
      · omega
      · rw [if_pos ei, if_neg ej] at he; exact absurd he.symm (a2 j hj).2
    · by_cases ej : j = z
      · rw [if_neg ei, if_pos ej] at he; exact absurd he (a2 i hi).2
      · rw [if_neg ei, if_neg ej] at he; exact a3 i j hi hj he
  · rw [f3.1, f3.2.1, f3.2.2, g2.1, g2.2]; exact ⟨b1, by omega, rfl, rfl⟩
  · rw [f3.2.1, f3.2.2, hdu] at hi
    rw [f3.1, f4]
    by_cases e : i = k
    · subst e
      rw [if_pos hz.symm]
      exact mv (sc_congr hs0 hL (fun _ _ => rfl) (fun _ _ => ⟨rfl, rfl, rfl, rfl⟩) (fun x hx => (g3 x (by omega)).2)) (Or.inl a1)
    · rw [if_neg (by omega)]
      refine mv (sc_congr (c1 i hi) hL (fun _ _ => rfl) (fun _ _ => ⟨rfl, rfl, rfl, rfl⟩) (fun x hx => g4 _ (by omega))) (Or.inl (a2 _ (Nat.mod_lt _ (by decide))).1)
  · rw [f1 158 0 (by decide) (by decide) (by decide), f1 158 1 (by decide) (by decide) (by decide)]; exact d1
  · obtain ⟨t1, t2⟩ := e1 b hb
    rw [f1 158 b (by decide) (by decide) (by decide), f1 159 b (by decide) (by decide) (by decide), g1 206 b (by decide) (by decide) (by decide)]
    refine ⟨t1, fun w => ?_⟩
    have hb158 : F 158 b = 165 ∨ F 158 b = 170 := by
      have : b = 0 ∨ b = 1 := by omega
      rcases this with e | e
      · subst e; exact Or.inl d1.1
      · subst e; exact Or.inr d1.2
    exact mv (sc_congr (t2 w) hL (fun _ _ => rfl) (fun _ _ => ⟨rfl, rfl, rfl, rfl⟩) (fun x _ => g1 205 _ (by decide) (by decide) (by decide))) (Or.inr hb158)
  · rw [f2, hz]
    exact mv (sc_congr (c1 k hk) hL (fun _ _ => rfl) (fun _ _ => ⟨rfl, rfl, rfl, rfl⟩) (fun x hx => (g3 x (by omega)).1)) (Or.inl (a2 _ (Nat.mod_lt _ (by decide))).1)
/-- what undo, redo leave -/
def unF (F F' : fx_F) : Prop := (∀ p i, p ≠ 2 → p ≠ 51 → p ≠ 52 → F' p i = F p i) ∧ ∀ i, i ≠ 13 → F' 2 i = F 2 i
def unG (G G' : fx_F) : Prop := (∀ p i, p ≠ 175 → p ≠ 176 → p ≠ 204 → G' p i = G p i) ∧ ∀ i, i ≠ 56 → i ≠ 57 → G' 175 i = G 175 i
theorem s_undo2 (hN : nt_ok nn L E) (hh : hs F G nn L E) (hs0 : sc F (F 2 13) (G 176) nn L E) (h : Cl k_T_undo [(2, 2)] F v F') (h2 : Cl k_M_undo [(2, 175)] G v2 G') : v = v2 ∧ hs F' G' nn L E ∧ sc F' (F' 2 13) (G' 176) nn L E ∧ unF F F' ∧ unG G G' := by
  have hL := hN.2.1
  obtain ⟨nF, h⟩ := c_T_undo h
  have Q := q_T_undo_0 h
  obtain ⟨nG, h2⟩ := c_M_undo h2
  have QG := q_M_undo_0 h2
  have hb := hh.2.1
  obtain ⟨b1, b2, b3, b4⟩ := hb
  rw [b3] at QG
  by_cases e : F 51 2 = 0
  · obtain ⟨x1, x2⟩ := Q.2 e
    obtain ⟨y1, y2⟩ := QG.2 e
    subst x2
    subst y2
    exact ⟨x1.trans y1.symm, hh, hs0, ⟨fun _ _ _ _ _ => rfl, fun _ _ => rfl⟩, ⟨fun _ _ _ _ _ => rfl, fun _ _ _ => rfl⟩⟩
  · obtain ⟨n1, F1, c1, x1, x2⟩ := Q.1 e
    obtain ⟨G1, d1, y1, y2⟩ := QG.1 e
    clear Q QG
    obtain ⟨m1, c1⟩ := c_Hi_stepBack c1
    obtain ⟨z1, z2⟩ := q_Hi_stepBack_0 c1
    cases z1
    subst y2
    rw [b_sub (show 1 ≤ F 51 2 by omega) (show F 51 2 < 4294967296 by omega), b_add (show F 51 1 + (F 51 2 - 1) < 4294967296 by omega), b_rem (show F 51 1 + (F 51 2 - 1) < 2147483648 by omega) (by decide) (by decide), b_add (show F 51 3 + 1 < 4294967296 by omega)] at z2
    rw [b_sub (show 1 ≤ F 51 2 by omega) (show F 51 2 < 4294967296 by omega), b_add (show F 51 1 + (F 51 2 - 1) < 4294967296 by omega), b_rem (show F 51 1 + (F 51 2 - 1) < 2147483648 by omega) (by decide) (by decide)] at x2
    rw [b4, b_sub (show 1 ≤ F 51 2 by omega) (show F 51 2 < 4294967296 by omega), b_add (show F 51 3 + 1 < 4294967296 by omega)] at d1
    obtain ⟨-, r2, r3, r4⟩ := s_swapAll (k := F 51 2 - 1) (by omega) (by rw [fu_i (by decide), fu_same]) d1
    subst z2
    subst x2
    have g0 : ∀ p i, p ≠ 175 → p ≠ 176 → p ≠ 204 → G' p i = G p i := fun p i h1 h2 h3 => by
      rw [r2 p i (by simp; exact ⟨h2, h3⟩), fu_p h1, fu_p h1]
    have k := hs_swap (k := F 51 2 - 1) (d := F 51 2 - 1) (u := F 51 3 + 1) (z := (F 51 1 + (F 51 2 - 1)) % 20) (F2 := fu (fu (fu (fu F 51 2 (F 51 2 - 1)) 51 3 (F 51 3 + 1)) 52 ((F 51 1 + (F 51 2 - 1)) % 20) (F 2 13)) 2 13 (F 52 ((F 51 1 + (F 51 2 - 1)) % 20))) (G2 := G') hL hh hs0 (by omega) rfl (by omega) (fun p i h1 h2 h3 => by rw [fu_p h1, fu_p h3, fu_p h2, fu_p h2]) fu_same ⟨by rw [fu_p (by decide), fu_p (by decide), fu_i (by decide), fu_i (by decide)], by rw [fu_p (by decide), fu_p (by decide), fu_i (by decide), fu_same], by rw [fu_p (by decide), fu_p (by decide), fu_same]⟩ (fun i => by
      rw [fu_p (by decide), fu_if]
      by_cases w : i = (F 51 1 + (F 51 2 - 1)) % 20
      · rw [if_pos ⟨rfl, w⟩, if_pos w]
      · rw [if_neg (fun y => w y.2), if_neg w, fu_p (by decide), fu_p (by decide)]) g0 ⟨by rw [r2 175 _ (by decide), fu_i (by decide), fu_same], by rw [r2 175 _ (by decide), fu_same]⟩ (fun x hx => by
      have := r3 x hx
      rw [fu_p (by decide), fu_p (by decide), fu_p (by decide), fu_p (by decide)] at this
      exact this) (fun i hi => by rw [r4 i hi, fu_p (by decide), fu_p (by decide)])
    exact ⟨x1.trans y1.symm, k.1, k.2, ⟨fun p i h1 h2 h3 => by rw [fu_p h1, fu_p h3, fu_p h2, fu_p h2], fun i hi => by rw [fu_i hi, fu_p (by decide), fu_p (by decide), fu_p (by decide)]⟩, ⟨g0, fun i h1 h2 => by rw [r2 175 _ (by decide), fu_i h2, fu_i h1]⟩⟩
theorem s_redo2 (hN : nt_ok nn L E) (hh : hs F G nn L E) (hs0 : sc F (F 2 13) (G 176) nn L E) (h : Cl k_T_redo [(2, 2)] F v F') (h2 : Cl k_M_redo [(2, 175)] G v2 G') : v = v2 ∧ hs F' G' nn L E ∧ sc F' (F' 2 13) (G' 176) nn L E ∧ unF F F' ∧ unG G G' := by
  have hL := hN.2.1
  obtain ⟨nF, h⟩ := c_T_redo h
  have Q := q_T_redo_0 h
  obtain ⟨nG, h2⟩ := c_M_redo h2
  have QG := q_M_redo_0 h2
  have hb := hh.2.1
  obtain ⟨b1, b2, b3, b4⟩ := hb
  rw [b4] at QG
  by_cases e : F 51 3 = 0
  · obtain ⟨x1, x2⟩ := Q.2 e
    obtain ⟨y1, y2⟩ := QG.2 e
    subst x2
    subst y2
    exact ⟨x1.trans y1.symm, hh, hs0, ⟨fun _ _ _ _ _ => rfl, fun _ _ => rfl⟩, ⟨fun _ _ _ _ _ => rfl, fun _ _ _ => rfl⟩⟩
  · obtain ⟨n1, F1, c1, x1, x2⟩ := Q.1 e
    obtain ⟨G1, d1, y1, y2⟩ := QG.1 e
    clear Q QG
    obtain ⟨m1, c1⟩ := c_Hi_stepOn c1
    obtain ⟨z1, z2⟩ := q_Hi_stepOn_0 c1
    cases z1
    rw [b_add (show F 51 1 + F 51 2 < 4294967296 by omega), b_rem (show F 51 1 + F 51 2 < 2147483648 by omega) (by decide) (by decide), b_add (show F 51 2 + 1 < 4294967296 by omega), b_sub (show 1 ≤ F 51 3 by omega) (show F 51 3 < 4294967296 by omega)] at z2
    rw [b_add (show F 51 1 + F 51 2 < 4294967296 by omega), b_rem (show F 51 1 + F 51 2 < 2147483648 by omega) (by decide) (by decide)] at x2
    obtain ⟨-, r2, r3, r4⟩ := s_swapAll (k := F 51 2) (by omega) b3 d1
    rw [r2 175 _ (by decide), r2 175 _ (by decide), b3, b4, b_add (show F 51 2 + 1 < 4294967296 by omega), b_sub (show 1 ≤ F 51 3 by omega) (show F 51 3 < 4294967296 by omega)] at y2
    subst z2
    subst x2
    have g0 : ∀ p i, p ≠ 175 → p ≠ 176 → p ≠ 204 → G' p i = G p i := fun p i h1 h2 h3 => by
      rw [y2, fu_p h1, fu_p h1, r2 p i (by simp; exact ⟨h2, h3⟩)]
    have k := hs_swap (k := F 51 2) (d := F 51 2 + 1) (u := F 51 3 - 1) (z := (F 51 1 + F 51 2) % 20) (F2 := fu (fu (fu (fu F 52 ((F 51 1 + F 51 2) % 20) (F 2 13)) 51 2 (F 51 2 + 1)) 51 3 (F 51 3 - 1)) 2 13 (F 52 ((F 51 1 + F 51 2) % 20))) (G2 := G') hL hh hs0 (by omega) rfl (by omega) (fun p i h1 h2 h3 => by rw [fu_p h1, fu_p h2, fu_p h2, fu_p h3]) fu_same ⟨by rw [fu_p (by decide), fu_i (by decide), fu_i (by decide), fu_p (by decide)], by rw [fu_p (by decide), fu_i (by decide), fu_same], by rw [fu_p (by decide), fu_same]⟩ (fun i => by
      rw [fu_p (by decide), fu_p (by decide), fu_p (by decide), fu_if]
      by_cases w : i = (F 51 1 + F 51 2) % 20
      · rw [if_pos ⟨rfl, w⟩, if_pos w]
      · rw [if_neg (fun y => w y.2), if_neg w]) g0 ⟨by rw [y2, fu_i (by decide), fu_same], by rw [y2, fu_same]⟩ (fun x hx => by
      rw [y2, fu_p (by decide), fu_p (by decide), fu_p (by decide), fu_p (by decide)]
      exact r3 x hx) (fun i hi => by rw [y2, fu_p (by decide), fu_p (by decide)]; exact r4 i hi)
    exact ⟨x1.trans y1.symm, k.1, k.2, ⟨fun p i h1 h2 h3 => by rw [fu_p h1, fu_p h2, fu_p h2, fu_p h3], fun i hi => by rw [fu_i hi, fu_p (by decide), fu_p (by decide), fu_p (by decide)]⟩, ⟨g0, fun i h1 h2 => by rw [y2, fu_i h2, fu_i h1, r2 175 _ (by decide)]⟩⟩
/-- how many packets there are -/
def npk (F : fx_F) (q : Nat) : Nat := cnt (fun j => !(Nat.beq (F (q + 1) j) 4294967295)) 12
theorem s_ccount {q : Nat} (h : Cl k_St_countPackets [(2, q)] F v F') : F' = F ∧ v = (0, npk F q) := by
  obtain ⟨n, h⟩ := c_St_countPackets h
  obtain ⟨m, hm2, hR⟩ := q_St_countPackets_0 h
  generalize hp : (fun j => !(Nat.beq (F (q + 1) j) 4294967295)) = p
  have hpt : ∀ j, p j = true ↔ F (q + 1) j ≠ 4294967295 := fun j => by
    rw [← hp]
    show (!(Nat.beq (F (q + 1) j) 4294967295)) = true ↔ _
    rw [Bool.not_eq_true', ← Bool.not_eq_true, rx_beq]
  have lp : ∀ (n j : Nat), Rn n k_St_countPackets 4 [(2, q), (0, cnt p j), (0, j)] [] F v F' → j ≤ 12 → F' = F ∧ v = (0, cnt p 12) := by
    intro n
    induction n using Nat.strongRecOn with
    | ind n ih =>
      intro j h hj
      have hc := cnt_le p j
      have Q := q_St_countPackets_4 h
      rcases Nat.lt_or_ge j 12 with hlt | hge
      · replace Q := Q.2 (by rw [b_lt (by clear Q; omega) (by decide)]; exact hlt)
        rw [b_add (show j + 1 < 4294967296 by clear Q; omega), b_add (show cnt p j + 1 < 4294967296 by clear Q; omega)] at Q
        by_cases e : F (q + 1) j = 4294967295
        · obtain ⟨m, hm, hR⟩ := Q.1 e
          exact ih m hm (j + 1) (by
            rw [show cnt p (j + 1) = cnt p j by show cnt p j + (if p j then 1 else 0) = _; rw [if_neg (fun z => (hpt j).mp z e)]; rfl]
            exact hR) hlt
        · obtain ⟨m, hm, hR⟩ := Q.2 e
          exact ih m hm (j + 1) (by
            rw [show cnt p (j + 1) = cnt p j + 1 by show cnt p j + (if p j then 1 else 0) = _; rw [if_pos ((hpt j).mpr e)]]
            exact hR) hlt
      · obtain ⟨x1, x2⟩ := Q.1 (by rw [b_le (by decide) (by clear Q; omega)]; exact hge)
        clear Q
        have : j = 12 := by omega
        subst this
        exact ⟨x2, x1⟩
  have := lp m 0 hR (Nat.zero_le _)
  unfold npk
  rw [hp]
  exact this
theorem s_mcount {q : Nat} (hnn : nn ≤ 10) (hs0 : ∀ j, j < 12 → pk F q (G 176) nn L j) (h : Cl k_M_packetsNow [(2, 175)] G v G') : G' = G ∧ v = (0, npk F q) := by
  obtain ⟨n, h⟩ := c_M_packetsNow h
  obtain ⟨m, hm2, hR⟩ := q_M_packetsNow_0 h
  generalize hp : (fun j => !(Nat.beq (F (q + 1) j) 4294967295)) = p
  have hpt : ∀ j, p j = true ↔ F (q + 1) j ≠ 4294967295 := fun j => by
    rw [← hp]
    show (!(Nat.beq (F (q + 1) j) 4294967295)) = true ↔ _
    rw [Bool.not_eq_true', ← Bool.not_eq_true, rx_beq]
  have lp : ∀ (n j : Nat), Rn n k_M_packetsNow 4 [(2, 175), (0, cnt p j), (0, j)] [] G v G' → j ≤ 12 → G' = G ∧ v = (0, cnt p 12) := by
    intro n
    induction n using Nat.strongRecOn with
    | ind n ih =>
      intro j h hj
      have hc := cnt_le p j
      have Q := q_M_packetsNow_4 h
      rcases Nat.lt_or_ge j 12 with hlt | hge
      · obtain ⟨m, hm, hR⟩ := Q.2 (by rw [b_lt (by clear Q; omega) (by decide)]; exact hlt)
        clear Q
        rw [b_add (show j + 1 < 4294967296 by omega), b_add (show 41 + j < 4294967296 by omega)] at hR
        have e : i_add (cnt p j) (G 176 (41 + j)) = cnt p (j + 1) := by
          show _ = cnt p j + (if p j then 1 else 0)
          rcases hs0 j hlt with ⟨a, b⟩ | ⟨a, _, b, _⟩
          · rw [b, if_neg (fun z => (hpt j).mp z a), b_add (by omega)]
          · rw [a, if_pos ((hpt j).mpr (by omega)), b_add (by omega)]
        rw [e] at hR
        exact ih m hm (j + 1) hR hlt
      · obtain ⟨x1, x2⟩ := Q.1 (by rw [b_le (by decide) (by clear Q; omega)]; exact hge)
        clear Q
        have : j = 12 := by omega
        subst this
        exact ⟨x2, x1⟩
  have := lp m 0 hR (Nat.zero_le _)
  unfold npk
  rw [hp]
  exact this
end BACK
