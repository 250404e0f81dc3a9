/-! The class's hops -/
section SEE
variable {nn L s p b k g : Nat} {E : Nat → Nat} {u : Nat → Bool} {v : fx_V} {F' : fx_F}
/-- a row after k levels: goal's row is at b -/
def hI (nn L : Nat) (E : Nat → Nat) (st u : Nat → Bool) (g k : Nat) (row : Nat → Nat) : Prop := (∀ x, x < 2 * nn → row x ≠ 4294967295 → gd L E st u g (row x) x ∧ row x ≤ k) ∧ ∀ x d, d ≤ k → gd L E st u g d x → row x = d
theorem s_growLevel (hN : nt_ok nn L E) (hg : g < nn) (hs : s < 2147483648) (hp : 24 ≤ p) (hb : b ≤ 200) (hk1 : 1 ≤ k) (hk : k ≤ 20) {F : fx_F} (hI0 : gli F nn L s p E u) (h0 : hI nn L E (bts s) u g (k - 1) (fun x => F (p + 1) (b + x))) (h : Cl k_Ro_growLevel [(2, p), (0, b), (0, k)] F v F') : ∃ gf, v = (0, gf) ∧ glo F F' p b ∧ hI nn L E (bts s) u g k (fun x => F' (p + 1) (b + x)) ∧ (gf = 0 → ∀ x, ¬ gd L E (bts s) u g k x) := by
  obtain ⟨n, h⟩ := c_Ro_growLevel h
  obtain ⟨m, hm2, hR⟩ := q_Ro_growLevel_0 h
  have hL := hN.2.1
  have hn := hN.1
  have lp : ∀ (n : Nat) (F2 : fx_F) (c gf : Nat), Rn n k_Ro_growLevel 5 [(2, p), (0, b), (0, k), (0, gf), (0, c), (3, 0), (3, 0)] [] F2 v F' → c ≤ 2 * L → glo F F2 p b → hJ nn L E (bts s) u g k c (fun x => F2 (p + 1) (b + x)) → (gf = 0 → ∀ x, x < 2 * nn → F2 (p + 1) (b + x) ≠ k) → ∃ gf, v = (0, gf) ∧ glo F F' p b ∧ hI nn L E (bts s) u g k (fun x => F' (p + 1) (b + x)) ∧ (gf = 0 → ∀ x, ¬ gd L E (bts s) u g k x) := by
    intro n
    induction n using Nat.strongRecOn with
    | ind n ih =>
      intro F2 c gf h hc ho hj hgf
      have hI2 := hI0.glo hp ho
      rcases Nat.lt_or_ge c (2 * L) with hlt | hge
      · obtain ⟨m, g', F3, hm3, hR, hg0, hF⟩ := gl_step hN hs hp hb hk1 hk h hI2 hlt
        have e1 := (hN.2.2 c hlt).1
        have e2 := (hN.2.2 _ (nf_lt hlt)).1
        have key : glo F F3 p b ∧ hJ nn L E (bts s) u g k (c + 1) (fun x => F3 (p + 1) (b + x)) := by
          rcases hF with ⟨f1, f2⟩ | ⟨f1, f2, f3⟩ | ⟨f1, f2, f3⟩
          · subst f2
            refine ⟨ho, hj.1, hj.2.1, fun c' hc' x y h1 h2 => ?_⟩
            by_cases ec : c' = c
            · subst ec
              have := h1.2.1
              rw [show bts s (c' / 2) = s.testBit (c' / 2) from rfl, f1] at this
              cases this
            · exact hj.2.2 c' (by omega) x y h1 h2
          · have he : gc L E (bts s) u c (2 * E c) (2 * E (nf c)) := ⟨hlt, f1, by omega, by omega, by omega⟩
            obtain ⟨r1, r2⟩ := rst_ok hN hk1 hk hj he
            subst f3
            refine ⟨ho.rch (by omega), ?_⟩
            rw [show (fun x => rch F2 (p + 1) b (2 * E c) (2 * E (nf c)) k (p + 1) (b + x)) = rst (fun x => F2 (p + 1) (b + x)) (2 * E c) (2 * E (nf c)) k from funext (fun x => rch_row)]
            refine ⟨r1.1, r1.2.1, fun c' hc' x y h1 h2 => ?_⟩
            by_cases ec : c' = c
            · subst ec
              have hx : x = 2 * E c' := by have a := h1.2.2.1; have b := h1.2.2.2.1; rw [f2] at b; omega
              have hy : y = 2 * E (nf c') := by have a := h1.2.2.2.2; rw [f2] at a; omega
              subst hx
              subst hy
              exact r2 h2
            · exact r1.2.2 c' (by omega) x y h1 h2
          · have he : gc L E (bts s) u c (2 * E c) (2 * E (nf c) + 1) := ⟨hlt, f1, by omega, by omega, by omega⟩
            have he2 : gc L E (bts s) u c (2 * E c + 1) (2 * E (nf c) + 1) := ⟨hlt, f1, by omega, by omega, by omega⟩
            obtain ⟨r1, r2⟩ := rst_ok hN hk1 hk hj he
            obtain ⟨t1, t2⟩ := rst_ok hN hk1 hk r1 he2
            subst f3
            refine ⟨(ho.rch (by omega)).rch (by omega), ?_⟩
            rw [show (fun x => rch (rch F2 (p + 1) b (2 * E c) (2 * E (nf c) + 1) k) (p + 1) b (2 * E c + 1) (2 * E (nf c) + 1) k (p + 1) (b + x)) = rst (rst (fun x => F2 (p + 1) (b + x)) (2 * E c) (2 * E (nf c) + 1) k) (2 * E c + 1) (2 * E (nf c) + 1) k from funext (fun x => by
              rw [rch_row, show (fun z => rch F2 (p + 1) b (2 * E c) (2 * E (nf c) + 1) k (p + 1) (b + z)) = rst (fun x => F2 (p + 1) (b + x)) (2 * E c) (2 * E (nf c) + 1) k from funext (fun x => rch_row)])]
            refine ⟨t1.1, t1.2.1, fun c' hc' x y h1 h2 => ?_⟩
            by_cases ec : c' = c
            · subst ec
              have hy : y = 2 * E (nf c') + 1 := by have a := h1.2.2.2.2; rw [f2] at a; omega
              subst hy
              have hx : x = 2 * E c' ∨ x = 2 * E c' + 1 := by have a := h1.2.2.1; have b := h1.2.2.2.1; rw [f2] at b; omega
              rcases hx with hx | hx
              · subst hx; exact rst_mono hk (r2 h2)
              · subst hx; exact t2 h2
            · exact t1.2.2 c' (by omega) x y h1 h2
        refine ih m hm3 F3 (c + 1) g' hR (by omega) key.1 key.2 (fun z => ?_)
        obtain ⟨z1, z2⟩ := hg0 z
        rw [z2]; exact hgf z1
      · have q := q_Ro_growLevel_5 h
        rw [hI2.1.2.1, b_mul (show 2 * L < 4294967296 by clear q; omega)] at q
        obtain ⟨x1, x2⟩ := q.1 (by rw [b_le (by clear q; omega) (by clear q; omega)]; exact hge)
        clear q
        subst x2
        have hB : ∀ x d, d ≤ k → gd L E (bts s) u g d x → F' (p + 1) (b + x) = d := by
          intro x d hd hx
          by_cases ed : d = k
          · subst ed
            have hx2 := hx
            rw [show d = d - 1 + 1 by omega] at hx2
            obtain ⟨c', y, h1, h2⟩ := gd_pred hx2
            have hne := hj.2.2 c' (by have := h1.1; omega) x y h1 h2
            exact gd_fun (hj.1 x (gc_lt hN h1).1 hne).1 hx
          · exact hj.2.1 x d (by omega) hx
        refine ⟨gf, x1, ho, ⟨hj.1, hB⟩, fun z x hx => ?_⟩
        exact hgf z x (gd_x hN hg hx) (hB x k (Nat.le_refl k) hx)
  refine lp m F 0 0 hR (Nat.zero_le _) glo.rf ⟨fun x hx hne => ?_, fun x d hd hx => h0.2 x d (by omega) hx, fun c' hc' => absurd hc' (Nat.not_lt_zero _)⟩ (fun _ x hx hz => ?_)
  · obtain ⟨a1, a2⟩ := h0.1 x hx hne
    exact ⟨a1, by have : F (p + 1) (b + x) ≤ k - 1 := a2; show F (p + 1) (b + x) ≤ k; omega⟩
  · have := (h0.1 x hx (show F (p + 1) (b + x) ≠ 4294967295 by omega)).2
    have : F (p + 1) (b + x) ≤ k - 1 := this
    omega
/-- a row that tells all distances -/
def hrow (nn L : Nat) (E : Nat → Nat) (st u : Nat → Bool) (g : Nat) (row : Nat → Nat) : Prop := ∀ x, x < 2 * nn → (row x ≠ 4294967295 → gd L E st u g (row x) x) ∧ ∀ d, gd L E st u g d x → row x = d
theorem s_measure (hN : nt_ok nn L E) (hg : g < nn) (hs : s < 2147483648) (hp : 24 ≤ p) {F : fx_F} (hI0 : gli F nn L s p E u) (h : Cl k_Ro_measure [(2, p), (0, g)] F v F') : v = (2, 0) ∧ glo F F' p (20 * g) ∧ hrow nn L E (bts s) u g (fun x => F' (p + 1) (20 * g + x)) := by
  obtain ⟨n, h⟩ := c_Ro_measure h
  obtain ⟨m, hm2, hR⟩ := q_Ro_measure_0 h
  have hL := hN.2.1
  have hn := hN.1
  have eb : g * 20 = 20 * g := Nat.mul_comm _ _
  rw [b_mul (show g * 20 < 4294967296 by omega), eb] at hR
  have fin : ∀ {k : Nat} {row : Nat → Nat}, hI nn L E (bts s) u g k row → (∀ x, ¬ gd L E (bts s) u g (k + 1) x) → hrow nn L E (bts s) u g row := by
    intro k row h1 h2 x hx
    refine ⟨fun hne => (h1.1 x hx hne).1, fun d hd => ?_⟩
    rcases Nat.lt_or_ge k d with z | z
    · exact absurd hd (gd_none h2 d z x)
    · exact h1.2 x d z hd
  -- levels
  have lv : ∀ (n : Nat) (F2 : fx_F) (k gf : Nat), Rn n k_Ro_measure 57 [(2, p), (3, 0), (0, 20 * g), (0, gf), (0, k)] [] F2 v F' → 1 ≤ k → k ≤ 21 → glo F F2 p (20 * g) → hI nn L E (bts s) u g (k - 1) (fun x => F2 (p + 1) (20 * g + x)) → (gf = 0 → ∀ x, ¬ gd L E (bts s) u g (k - 1) x) → v = (2, 0) ∧ glo F F' p (20 * g) ∧ hrow nn L E (bts s) u g (fun x => F' (p + 1) (20 * g + x)) := by
    intro n
    induction n using Nat.strongRecOn with
    | ind n ih =>
      intro F2 k gf h hk1 hk ho hi hz
      have q := q_Ro_measure_57 h
      by_cases e : k = 21
      · obtain ⟨x1, x2⟩ := q.1 (by rw [b_lt (by omega) (by omega)]; omega)
        clear q
        subst x2
        refine ⟨x1, ho, fin hi (fun x hx => ?_)⟩
        have := gd_lt hN hg hx
        omega
      · replace q := q.2 (by rw [b_le (by omega) (by omega)]; omega)
        by_cases eg : gf = 0
        · obtain ⟨x1, x2⟩ := q.1 eg
          clear q
          subst x2
          refine ⟨x1, ho, fin hi (fun x hx => ?_)⟩
          exact gd_none (hz eg) _ (by omega) x hx
        · obtain ⟨n1, F1, c1, m, hm3, hR⟩ := q.2 eg
          clear q
          rw [b_add (show k + 1 < 4294967296 by omega)] at hR
          obtain ⟨gf', y1, y2, y3, y4⟩ := s_growLevel hN hg hs hp (show 20 * g ≤ 200 by omega) hk1 (by omega) (hI0.glo hp ho) hi c1
          cases y1
          exact ih m hm3 F1 (k + 1) _ hR (by omega) (by omega) (ho.tr y2) y3 y4
  -- the row is emptied
  have l0 : ∀ (n : Nat) (F2 : fx_F) (i : Nat), Rn n k_Ro_measure 7 [(2, p), (0, g), (0, 20 * g), (0, i), (3, 0)] [] F2 v F' → i ≤ 20 → glo F F2 p (20 * g) → (∀ x, x < i → F2 (p + 1) (20 * g + x) = 4294967295) → v = (2, 0) ∧ glo F F' p (20 * g) ∧ hrow nn L E (bts s) u g (fun x => F' (p + 1) (20 * g + x)) := by
    intro n
    induction n using Nat.strongRecOn with
    | ind n ih =>
      intro F2 i h hi ho hx
      have q := q_Ro_measure_7 h
      rcases Nat.lt_or_ge i 20 with hlt | hge
      · obtain ⟨m, hm3, hR⟩ := q.2 (by rw [b_lt (by omega) (by omega)]; exact hlt)
        clear q
        rw [b_add (show i + 1 < 4294967296 by omega), b_add (show 20 * g + i < 4294967296 by omega)] at hR
        refine ih m hm3 _ (i + 1) hR (by omega) (ho.wr hlt) (fun x hx2 => ?_)
        by_cases e : x = i
        · subst e; rw [fu_same]
        · rw [fu_i (by omega)]; exact hx x (by omega)
      · obtain ⟨m, hm3, hR⟩ := q.1 (by rw [b_le (by omega) (by omega)]; exact hge)
        clear q
        rw [b_mul (show 2 * g < 4294967296 by omega), b_add (show 20 * g + 2 * g < 4294967296 by omega), b_add (show 20 * g + 2 * g + 1 < 4294967296 by omega), Nat.add_assoc (20 * g) (2 * g) 1] at hR
        refine lv m _ 1 1 hR (Nat.le_refl 1) (by omega) ((ho.wr (by omega)).wr (by omega)) ⟨fun x hx2 hne => ?_, fun x d hd hg2 => ?_⟩ (fun z => by cases z)
        · have hne : (fu (fu F2 (p + 1) (20 * g + 2 * g) 0) (p + 1) (20 * g + (2 * g + 1)) 0) (p + 1) (20 * g + x) ≠ 4294967295 := hne
          show gd L E (bts s) u g ((fu (fu F2 (p + 1) (20 * g + 2 * g) 0) (p + 1) (20 * g + (2 * g + 1)) 0) (p + 1) (20 * g + x)) x ∧ (fu (fu F2 (p + 1) (20 * g + 2 * g) 0) (p + 1) (20 * g + (2 * g + 1)) 0) (p + 1) (20 * g + x) ≤ 0
          have g0 : x / 2 = g → gd L E (bts s) u g 0 x := fun z => ⟨z, fun e he => absurd he (Nat.not_lt_zero _)⟩
          by_cases e1 : x = 2 * g + 1
          · subst e1; rw [fu_same]; exact ⟨g0 (by omega), Nat.le_refl 0⟩
          · rw [fu_i (by omega)] at hne ⊢
            by_cases e2 : x = 2 * g
            · subst e2; rw [fu_same]; exact ⟨g0 (by omega), Nat.le_refl 0⟩
            · rw [fu_i (by omega)] at hne
              exact absurd (hx x (by omega)) hne
        · have hd0 : d = 0 := by omega
          subst hd0
          have : x / 2 = g := hg2.1
          show (fu (fu F2 (p + 1) (20 * g + 2 * g) 0) (p + 1) (20 * g + (2 * g + 1)) 0) (p + 1) (20 * g + x) = 0
          by_cases e1 : x = 2 * g + 1
          · subst e1; rw [fu_same]
          · rw [fu_i (by omega), show x = 2 * g by omega, fu_same]
  exact l0 m F 0 hR (Nat.zero_le _) glo.rf (fun x hx => absurd hx (Nat.not_lt_zero _))
/-- a cache of ways: what is measured is right -/
def rci (F : fx_F) (nn L : Nat) (E : Nat → Nat) (p : Nat) : Prop := F p 1 < 2147483648 ∧ F p 2 < 2147483648 ∧ (F p 3 ≠ 0 → (∀ c, c < 2 * L → F (p + 5) c = bh (bts (F p 1)) c) ∧ ∀ g, g < nn → hrow nn L E (bts (F p 2)) (bts (F p 1)) g (fun x => F (p + 1) (20 * g + x)))
/-- seen with the rules up and the links s -/
def rcs (F : fx_F) (nn L : Nat) (E : Nat → Nat) (p up s : Nat) : Prop := F p 1 = up ∧ F p 2 = s ∧ F p 3 ≠ 0 ∧ (∀ c, c < 2 * L → F (p + 5) c = bh (bts up) c) ∧ ∀ g, g < nn → hrow nn L E (bts s) (bts up) g (fun x => F (p + 1) (20 * g + x))
theorem bh_code {up c : Nat} (hu : up < 2147483648) (hc : c < 64) : (i_and (i_shr up (i_shr c 1)) 1 = i_and c 1 → bh (bts up) c = 1) ∧ (i_and (i_shr up (i_shr c 1)) 1 ≠ i_and c 1 → bh (bts up) c = 0) := by
  rw [b_bit hu hc, b_and1]
  unfold bh isup
  show ((if up.testBit (c / 2) = true then 1 else 0) = c % 2 → _) ∧ _
  rcases Nat.mod_two_eq_zero_or_one c with z | z
  · rw [if_pos z, z]
    show (_ → (if up.testBit (c / 2) = true then 0 else 1) = 1) ∧ (_ → (if up.testBit (c / 2) = true then 0 else 1) = 0)
    cases up.testBit (c / 2)
    · exact ⟨fun _ => rfl, fun y => absurd rfl y⟩
    · exact ⟨fun y => absurd y (by decide), fun _ => rfl⟩
  · rw [if_neg (show ¬ c % 2 = 0 by omega), z]
    show (_ → (if (!up.testBit (c / 2)) = true then 0 else 1) = 1) ∧ (_ → (if (!up.testBit (c / 2)) = true then 0 else 1) = 0)
    cases up.testBit (c / 2)
    · exact ⟨fun y => absurd y (by decide), fun _ => rfl⟩
    · exact ⟨fun _ => rfl, fun y => absurd rfl y⟩
theorem s_see (hN : nt_ok nn L E) {up : Nat} (hu : up < 2147483648) (hs : s < 2147483648) (hp : 24 ≤ p) {F : fx_F} (hc : cn F nn L E) (hr : rci F nn L E p) (h : Cl k_Ro_see [(2, p), (0, up), (0, s)] F v F') : v = (2, 0) ∧ fxo [p, p + 1, p + 5] F F' ∧ rcs F' nn L E p up s ∧ (F' = F ∨ F' p 4 = 0) := by
  obtain ⟨n, h⟩ := c_Ro_see h
  have hL := hN.2.1
  have hn := hN.1
  have q := q_Ro_see_0 h
  have s36 : ∀ (n : Nat), Rn n k_Ro_see 36 [(2, p), (3, 0), (3, 0), (0, 0)] [] (fu (fu F p 1 up) p 2 s) v F' → v = (2, 0) ∧ fxo [p, p + 1, p + 5] F F' ∧ rcs F' nn L E p up s ∧ (F' = F ∨ F' p 4 = 0) := by
    clear q
    have l2 : ∀ (n : Nat) (F2 : fx_F) (g : Nat), Rn n k_Ro_see 77 [(2, p), (3, 0), (3, 0), (0, g)] [] F2 v F' → g ≤ nn → fxo [p, p + 1, p + 5] F F2 → gli F2 nn L s p E (bts up) → F2 p 1 = up → (∀ g', g' < g → hrow nn L E (bts s) (bts up) g' (fun x => F2 (p + 1) (20 * g' + x))) → v = (2, 0) ∧ fxo [p, p + 1, p + 5] F F' ∧ rcs F' nn L E p up s ∧ (F' = F ∨ F' p 4 = 0) := by
      intro n
      induction n using Nat.strongRecOn with
      | ind n ih =>
        intro F2 g h hg ho hI h1 hA
        have q := q_Ro_see_77 h
        rw [hI.1.1] at q
        rcases Nat.lt_or_ge g nn with hlt | hge
        · obtain ⟨F1, c1, m, hm3, hR⟩ := q.2 (by rw [b_lt (by omega) (by omega)]; exact hlt)
          clear q
          rw [b_add (show g + 1 < 4294967296 by omega)] at hR
          obtain ⟨-, y2, y3⟩ := s_measure hN hlt hs hp hI c1
          refine ih m hm3 F1 (g + 1) hR (by omega) (ho.tr (y2.1.mono (by simp))) (hI.glo hp y2) ((y2.1 p 1 (by simp)).trans h1) (fun g' hg' => ?_)
          by_cases e : g' = g
          · subst e; exact y3
          · intro x hx
            have := hA g' (by omega) x hx
            show (F1 (p + 1) (20 * g' + x) ≠ 4294967295 → gd L E (bts s) (bts up) g' (F1 (p + 1) (20 * g' + x)) x) ∧ ∀ d, gd L E (bts s) (bts up) g' d x → F1 (p + 1) (20 * g' + x) = d
            rw [y2.2 (20 * g' + x) (by omega)]
            exact this
        · obtain ⟨x1, x2⟩ := q.1 (by rw [b_le (by omega) (by omega)]; exact hge)
          clear q
          subst x2
          refine ⟨x1, (ho.wr (by simp)).wr (by simp), ⟨?_, ?_, ?_, fun c hc => ?_, fun g' hg' x hx => ?_⟩, Or.inr fu_same⟩
          · rw [fu_i (by omega), fu_i (by omega)]; exact h1
          · rw [fu_i (by omega), fu_i (by omega)]; exact hI.2.1
          · rw [fu_i (by omega), fu_same]; decide
          · rw [fu_p (by omega), fu_p (by omega)]; exact hI.2.2 c hc
          · have := hA g' (by omega) x hx
            show ((fu (fu F2 p 3 1) p 4 0) (p + 1) (20 * g' + x) ≠ 4294967295 → gd L E (bts s) (bts up) g' ((fu (fu F2 p 3 1) p 4 0) (p + 1) (20 * g' + x)) x) ∧ ∀ d, gd L E (bts s) (bts up) g' d x → (fu (fu F2 p 3 1) p 4 0) (p + 1) (20 * g' + x) = d
            rw [fu_p (by omega), fu_p (by omega)]
            exact this
    have l1 : ∀ (n : Nat) (F2 : fx_F) (c : Nat), Rn n k_Ro_see 36 [(2, p), (3, 0), (3, 0), (0, c)] [] F2 v F' → c ≤ 2 * L → fxo [p, p + 1, p + 5] F F2 → F2 p 1 = up → F2 p 2 = s → (∀ c', c' < c → F2 (p + 5) c' = bh (bts up) c') → v = (2, 0) ∧ fxo [p, p + 1, p + 5] F F' ∧ rcs F' nn L E p up s ∧ (F' = F ∨ F' p 4 = 0) := by
      intro n
      induction n using Nat.strongRecOn with
      | ind n ih =>
        intro F2 c h hc2 ho h1 h2 hA
        have q := q_Ro_see_36 h
        have hcn := hc.keep ho (by simp; omega) (by simp; omega) (by simp; omega)
        rw [hcn.2.1, b_mul (show 2 * L < 4294967296 by clear q; omega), h1] at q
        rcases Nat.lt_or_ge c (2 * L) with hlt | hge
        · replace q := q.2 (by rw [b_lt (by clear q; omega) (by clear q; omega)]; exact hlt)
          rw [b_add (show c + 1 < 4294967296 by clear q; omega)] at q
          have hbc := bh_code hu (show c < 64 by clear q; omega)
          have nx : ∀ z m, bh (bts up) c = z → m < n → Rn m k_Ro_see 36 [(2, p), (3, 0), (3, 0), (0, c + 1)] [] (fu F2 (p + 5) c z) v F' → v = (2, 0) ∧ fxo [p, p + 1, p + 5] F F' ∧ rcs F' nn L E p up s ∧ (F' = F ∨ F' p 4 = 0) := by
            clear q
            intro z m hz hm3 hR
            refine ih m hm3 _ (c + 1) hR (by omega) (ho.wr (by simp)) ((fu_p (by omega)).trans h1) ((fu_p (by omega)).trans h2) (fun c' hc' => ?_)
            by_cases e : c' = c
            · subst e; rw [fu_same]; exact hz.symm
            · rw [fu_i (by omega)]; exact hA c' (by omega)
          by_cases e : i_and (i_shr up (i_shr c 1)) 1 = i_and c 1
          · obtain ⟨m, hm3, hR⟩ := q.1 e
            exact nx 1 m (hbc.1 e) hm3 hR
          · obtain ⟨m, hm3, hR⟩ := q.2 e
            exact nx 0 m (hbc.2 e) hm3 hR
        · obtain ⟨m, hm3, hR⟩ := q.1 (by rw [b_le (by clear q; omega) (by clear q; omega)]; exact hge)
          exact l2 m F2 0 hR (Nat.zero_le _) ho ⟨hcn, h2, fun c' hc' => hA c' (by omega)⟩ h1 (fun g' hg' => absurd hg' (Nat.not_lt_zero _))
    intro n h
    exact l1 n _ 0 h (Nat.zero_le _) ((fxo.rf.wr (by simp)).wr (by simp)) ((fu_i (by omega)).trans fu_same) fu_same (fun c' hc' => absurd hc' (Nat.not_lt_zero _))
  by_cases e3 : F p 3 = 0
  · obtain ⟨m, hm3, hR⟩ := q.1 e3
    exact s36 m hR
  · replace q := q.2 e3
    by_cases e1 : F p 1 = up
    · replace q := q.2 e1
      by_cases e2 : F p 2 = s
      · obtain ⟨x1, x2⟩ := q.2 e2
        subst x2
        obtain ⟨r1, r2⟩ := hr.2.2 e3
        rw [e1] at r1 r2
        rw [e2] at r2
        exact ⟨x1, fxo.rf, ⟨e1, e2, e3, r1, r2⟩, Or.inl rfl⟩
      · obtain ⟨m, hm3, hR⟩ := q.1 e2
        exact s36 m hR
    · obtain ⟨m, hm3, hR⟩ := q.1 e1
      exact s36 m hR
end SEE
