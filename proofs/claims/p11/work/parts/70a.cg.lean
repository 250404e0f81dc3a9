/-! What a new net is: the class's list of channels, the start of a state; a congruence of the relation -/
section CG
variable {nn L R N : Nat} {E C : Nat → Nat} {v v2 : fx_V} {F F' F1 F2 G G' : fx_F}
/-- the relation looks at no more than this -/
theorem lr.cg (h : lr F G nn L E C N R) (hF : ∀ p i, p < 175 → (p < 10 ∨ 19 ≤ p) → F' p i = F p i) (hG6 : ∀ p i, 186 ≤ p ∨ p = 176 → G' p i = G p i) (g9 : G' 175 9 = G 175 9) (g56 : G' 175 56 = G 175 56) (g57 : G' 175 57 = G 175 57) (g177 : G' 177 (G 175 9) = G 177 (G 175 9)) (g178 : G' 178 (G 175 9) = G 178 (G 175 9)) (g180 : G' 180 (G 175 9) = G 180 (G 175 9)) (g182 : G' 182 (G 175 9) = G 182 (G 175 9)) (g183 : ∀ j, j < 40 → G' 183 (40 * G 175 9 + j) = G 183 (40 * G 175 9 + j)) (g184 : ∀ k, k < 100 → G' 184 (100 * G 175 9 + k) = G 184 (100 * G 175 9 + k)) : lr F' G' nn L E C N R := by
  obtain ⟨h1, ⟨k1, k2, k3, k4⟩, ⟨m1, m2, m3⟩, ⟨x1, x2⟩, ra, rb⟩ := h
  have f3 : ∀ p i, 3 ≤ p → p ≤ 9 → F' p i = F p i := fun p i a b => hF p i (by omega) (by omega)
  have hL := h1.1.2.1
  have hN := h1.2.1.1
  have e2 : F' 2 13 = F 2 13 := hF 2 13 (by decide) (by decide)
  have st : ∀ {q : Nat} {X X' : Nat → Nat}, sc F q X nn L E → 19 ≤ q → q + 4 < 175 → (∀ x, x < 103 → X' x = X x) → sc F' q X' nn L E := fun h a b hx => sc_congr h hL (fun i _ => hF _ i (by omega) (by omega)) (fun i _ => ⟨hF _ i (by omega) (by omega), hF _ i (by omega) (by omega), hF _ i (by omega) (by omega), hF _ i (by omega) (by omega)⟩) (fun x hx2 => hx x (by omega))
  have lo : ∀ {q : Nat}, S0 q → 19 ≤ q ∧ q + 4 < 175 := fun h => by unfold S0 at h; omega
  obtain ⟨⟨a1, a2, a3⟩, ⟨b1, b2, b3, b4⟩, c1, d1, d2⟩ := x1
  have k : ∀ p i, p = 2 ∨ p = 51 ∨ p = 52 ∨ p = 158 ∨ p = 159 → F' p i = F p i := fun p i hp => hF p i (by omega) (by omega)
  refine ⟨h1, ⟨k1.eq f3, k2.eq f3, k3.eq f3, (f3 3 3 (by decide) (by decide)).trans k4⟩, ⟨⟨by rw [g9]; exact m1.1, by rw [g9, g177]; exact m1.2.1, by rw [g9, g178]; exact m1.2.2.1, fun j hj => by rw [g9, g183 j (by omega)]; exact m1.2.2.2 j hj⟩, ⟨by rw [g9, g182]; exact m2.1, fun k hk => by rw [g9, g184 k (by omega)]; exact m2.2 k hk⟩, by rw [g9, g180]; exact m3⟩, ⟨⟨?_, ?_, fun i hi => ?_, ?_, fun b hb => ?_⟩, ?_⟩, ra.eq (fun t i ht => hF _ i (by omega) (by omega)), rb.eq (fun t i ht => hF _ i (by omega) (by omega))⟩
  · rw [e2]
    exact ⟨a1, fun i hi => by rw [k 52 i (by decide)]; exact a2 i hi, fun i j hi hj => by rw [k 52 i (by decide), k 52 j (by decide)]; exact a3 i j hi hj⟩
  · rw [k 51 1 (by decide), k 51 2 (by decide), k 51 3 (by decide), g56, g57]; exact ⟨b1, b2, b3, b4⟩
  · rw [k 51 2 (by decide), k 51 3 (by decide)] at hi
    rw [k 51 1 (by decide), k 52 _ (by decide)]
    obtain ⟨l1, l2⟩ := lo (a2 _ (Nat.mod_lt _ (by decide))).1
    exact st (c1 i hi) l1 l2 (fun x _ => hG6 204 _ (by decide))
  · rw [k 158 0 (by decide), k 158 1 (by decide)]; exact d1
  · obtain ⟨t1, t2⟩ := d2 b hb
    rw [k 158 b (by decide), k 159 b (by decide), hG6 206 b (by decide)]
    refine ⟨t1, fun w => ?_⟩
    have hb158 : F 158 b = 165 ∨ F 158 b = 170 := by
      have : b = 0 ∨ b = 1 := by omega
      rcases this with e | e
      · subst e; exact Or.inl d1.1
      · subst e; exact Or.inr d1.2
    exact st (t2 w) (by omega) (by omega) (fun x _ => hG6 205 _ (by decide))
  · rw [e2]
    obtain ⟨l1, l2⟩ := lo a1
    exact st x2 l1 l2 (fun x _ => hG6 176 x (by decide))
theorem cnt_lt_s {E : Nat → Nat} {w : Nat} : ∀ k, cnt (fun c => Nat.blt (E c) (w + 1)) k = cnt (fun c => Nat.blt (E c) w) k + cnt (fun c => Nat.beq (E c) w) k
  | 0 => rfl
  | k + 1 => by
    have ih := cnt_lt_s (E := E) (w := w) k
    have e1 : (if Nat.blt (E k) (w + 1) = true then (1 : Nat) else 0) = (if Nat.blt (E k) w = true then (1 : Nat) else 0) + (if Nat.beq (E k) w = true then (1 : Nat) else 0) := by
      by_cases a : E k < w
      · rw [if_pos (rx_blt.mpr (show E k < w + 1 by omega)), if_pos (rx_blt.mpr a), if_neg (fun z => by have := rx_beq.mp z; omega)]
      · by_cases b : E k = w
        · rw [if_pos (rx_blt.mpr (show E k < w + 1 by omega)), if_neg (fun z => a (rx_blt.mp z)), if_pos (rx_beq.mpr b)]
        · rw [if_neg (fun z => by have := rx_blt.mp z; omega), if_neg (fun z => a (rx_blt.mp z)), if_neg (fun z => b (rx_beq.mp z))]
    show cnt (fun c => Nat.blt (E c) (w + 1)) k + (if Nat.blt (E k) (w + 1) = true then (1 : Nat) else 0) = (cnt (fun c => Nat.blt (E c) w) k + (if Nat.blt (E k) w = true then (1 : Nat) else 0)) + (cnt (fun c => Nat.beq (E c) w) k + (if Nat.beq (E k) w = true then (1 : Nat) else 0))
    omega
/-- where a switch's channels begin in the list -/
def plc (E : Nat → Nat) (L w : Nat) : Nat := cnt (fun c => Nat.blt (E c) w) (2 * L)
theorem plc_s {w : Nat} : plc E L (w + 1) = plc E L w + cnt (fun c => Nat.beq (E c) w) (2 * L) := cnt_lt_s _
theorem plc_le {w : Nat} : plc E L w ≤ 2 * L := cnt_le _ _
theorem plc_mono {w w' : Nat} (h : w ≤ w') : plc E L w ≤ plc E L w' := cnt_mono (fun i _ z => rx_blt.mpr (by have := rx_blt.mp z; omega))
theorem cnt_y {p : Nat → Bool} {k : Nat} (h : p k = true) : cnt p (k + 1) = cnt p k + 1 := by
  show cnt p k + (if p k = true then 1 else 0) = _
  rw [if_pos h]
theorem cnt_n {p : Nat → Bool} {k : Nat} (h : p k = false) : cnt p (k + 1) = cnt p k := by
  show cnt p k + (if p k = true then 1 else 0) = _
  rw [h]; rfl
theorem s_listCh (hN : nt_ok nn L E) (hc : cn F nn L E) (h : Cl k_Net_listChannels [(2, 3)] F v F') : v = (2, 0) ∧ fxo [6, 7] F F' ∧ ocl F' nn L E := by
  obtain ⟨n, h⟩ := c_Net_listChannels h
  obtain ⟨m, hm, hR⟩ := q_Net_listChannels_0 h
  have hn := hN.1
  have hL := hN.2.1
  have lp : ∀ n : Nat, (∀ (F2 : fx_F) (w : Nat), Rn n k_Net_listChannels 4 [(2, 3), (0, plc E L w), (0, w), (3, 0)] [] F2 v F' → w ≤ nn → fxo [6, 7] F F2 → (∀ w', w' < w → F2 6 w' = plc E L w') → (∀ w' c, w' < w → c < 2 * L → E c = w' → F2 7 (plc E L w' + cnt (fun c => Nat.beq (E c) w') c) = c) → v = (2, 0) ∧ fxo [6, 7] F F' ∧ ocl F' nn L E)
      ∧ (∀ (F2 : fx_F) (w c : Nat), Rn n k_Net_listChannels 21 [(2, 3), (0, plc E L w + cnt (fun c => Nat.beq (E c) w) c), (0, w), (0, c)] [] F2 v F' → w < nn → c ≤ 2 * L → fxo [6, 7] F F2 → (∀ w', w' ≤ w → F2 6 w' = plc E L w') → (∀ w' c', (w' < w ∨ (w' = w ∧ c' < c)) → c' < 2 * L → E c' = w' → F2 7 (plc E L w' + cnt (fun c => Nat.beq (E c) w') c') = c') → v = (2, 0) ∧ fxo [6, 7] F F' ∧ ocl F' nn L E) := by
    intro n
    induction n using Nat.strongRecOn with
    | ind n ih =>
      refine ⟨fun F2 w h hw ho h6 h7 => ?_, fun F2 w c h hw hcL ho h6 h7 => ?_⟩
      · have Q := q_Net_listChannels_4 h
        have hc2 := hc.keep ho (by decide) (by decide) (by decide)
        rw [hc2.1] at Q
        rcases Nat.lt_or_ge w nn with hlt | hge
        · obtain ⟨m, hm, hR⟩ := Q.2 (by rw [b_lt (by clear Q; omega) (by clear Q; omega)]; exact hlt)
          clear Q
          refine (ih m hm).2 _ w 0 hR hlt (Nat.zero_le _) (ho.wr (by decide)) (fun w' hw' => ?_) (fun w' c' hw' hc' he => ?_)
          · by_cases e : w' = w
            · subst e; exact fu_same
            · rw [show (3 : Nat) + 3 = 6 from rfl, fu_i e]; exact h6 w' (by omega)
          · rw [show (3 : Nat) + 3 = 6 from rfl, fu_p (by decide)]
            rcases hw' with z | ⟨_, z⟩
            · exact h7 w' c' z hc' he
            · exact absurd z (Nat.not_lt_zero _)
        · have e : w = nn := by clear Q; omega
          subst e
          obtain ⟨x1, x2⟩ := Q.1 (by rw [b_le (by clear Q; omega) (by clear Q; omega)]; exact Nat.le_refl _)
          clear Q
          replace x2 : F' = fu F2 6 w (plc E L w) := x2
          subst x2
          have g6 : ∀ w', w' ≤ w → fu F2 6 w (plc E L w) 6 w' = plc E L w' := fun w' hw' => by
            by_cases e : w' = w
            · subst e; exact fu_same
            · rw [fu_i e]; exact h6 w' (by omega)
          refine ⟨x1, ho.wr (by decide), fun w' hw' => ?_, fun w' hw' => ⟨?_, fun c hc3 he => ?_⟩⟩
          · rw [g6 w' hw']; have := plc_le (E := E) (L := L) (w := w'); omega
          · rw [g6 (w' + 1) (by omega), g6 w' (by omega)]; exact plc_s
          · rw [g6 w' (by omega), fu_p (by decide)]; exact h7 w' c hw' hc3 he
      · have Q := q_Net_listChannels_21 h
        have hc2 := hc.keep ho (by decide) (by decide) (by decide)
        have hpl := plc_le (E := E) (L := L) (w := w + 1)
        rw [plc_s] at hpl
        rw [hc2.2.1, b_mul (show 2 * L < 4294967296 by clear Q; omega)] at Q
        rcases Nat.lt_or_ge c (2 * L) with hlt | hge
        · replace Q := Q.2 (by rw [b_lt (by clear Q; omega) (by clear Q; omega)]; exact hlt)
          rw [show (3 : Nat) + 1 = 4 from rfl, show (3 : Nat) + 4 = 7 from rfl, (hc2.2.2 c hlt).1, b_add (show c + 1 < 4294967296 by clear Q; omega)] at Q
          by_cases e : E c = w
          · have hy := cnt_y (p := fun c => Nat.beq (E c) w) (k := c) (rx_beq.mpr e)
            have hcu := cnt_up2 (p := fun c => Nat.beq (E c) w) (show c + 1 ≤ 2 * L from hlt)
            obtain ⟨m, hm, hR⟩ := Q.2 e
            clear Q
            rw [b_add (show plc E L w + cnt (fun c => Nat.beq (E c) w) c + 1 < 4294967296 by omega), Nat.add_assoc, ← hy] at hR
            refine (ih m hm).2 _ w (c + 1) hR hw hlt (ho.wr (by decide)) (fun w' hw' => by rw [fu_p (by decide)]; exact h6 w' hw') (fun w' c' hw' hc' he => ?_)
            by_cases ec : c' = c
            · subst ec
              have : w' = w := by omega
              subst this
              exact fu_same
            · rw [fu_i ?_]
              · exact h7 w' c' (by omega) hc' he
              · rcases hw' with z | ⟨z, z2⟩
                · have h1 := plc_mono (E := E) (L := L) (show w' + 1 ≤ w from z)
                  rw [plc_s] at h1
                  have h2 := cnt_y (p := fun c => Nat.beq (E c) w') (k := c') (rx_beq.mpr he)
                  have h3 := cnt_up2 (p := fun c => Nat.beq (E c) w') (show c' + 1 ≤ 2 * L from hc')
                  omega
                · subst z
                  have h2 := cnt_y (p := fun c => Nat.beq (E c) w') (k := c') (rx_beq.mpr he)
                  have h3 := cnt_up2 (p := fun c => Nat.beq (E c) w') (show c' + 1 ≤ c by omega)
                  omega
          · have hy := cnt_n (p := fun c => Nat.beq (E c) w) (k := c) (Bool.eq_false_iff.mpr (fun z => e (rx_beq.mp z)))
            obtain ⟨m, hm, hR⟩ := Q.1 e
            clear Q
            rw [← hy] at hR
            refine (ih m hm).2 _ w (c + 1) hR hw hlt ho h6 (fun w' c' hw' hc' he => ?_)
            by_cases ec : c' = c ∧ w' = w
            · obtain ⟨z1, z2⟩ := ec
              subst z1
              exact absurd (he.trans z2) e
            · exact h7 w' c' (by omega) hc' he
        · have e : c = 2 * L := by clear Q; omega
          subst e
          obtain ⟨m, hm, hR⟩ := Q.1 (by rw [b_le (by clear Q; omega) (by clear Q; omega)]; exact Nat.le_refl _)
          clear Q
          rw [← plc_s, b_add (show w + 1 < 4294967296 by omega)] at hR
          exact (ih m hm).1 _ (w + 1) hR hw ho (fun w' hw' => h6 w' (by omega)) (fun w' c' hw' hc' he => h7 w' c' (by omega) hc' he)
  have e0 : plc E L 0 = 0 := cnt_zero (fun i _ => Bool.eq_false_iff.mpr (fun z => absurd (rx_blt.mp z) (Nat.not_lt_zero _)))
  refine (lp m).1 F 0 ?_ (Nat.zero_le _) fxo.rf (fun w' hw' => absurd hw' (Nat.not_lt_zero _)) (fun w' c hw' => absurd hw' (Nat.not_lt_zero _))
  rw [e0]; exact hR
end CG
