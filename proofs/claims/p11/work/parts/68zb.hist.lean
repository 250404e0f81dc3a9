/-! Histories and boxes, on both sides -/
/-- states that are now or in a slot -/
def S0 (q : Nat) : Prop := (53 ≤ q ∧ q ≤ 148 ∧ (q - 53) % 5 = 0) ∨ q = 160
theorem S0_sok {q : Nat} (h : S0 q) : sok q := by unfold S0 at h; unfold sok; omega
/-- histories in step -/
def hs (F G : fx_F) (nn L : Nat) (E : Nat → Nat) : Prop := (S0 (F 2 13) ∧ (∀ i, i < 20 → S0 (F 52 i) ∧ F 52 i ≠ F 2 13) ∧ ∀ i j, i < 20 → j < 20 → F 52 i = F 52 j → i = j) ∧ (F 51 1 < 20 ∧ F 51 2 + F 51 3 ≤ 20 ∧ G 175 56 = F 51 2 ∧ G 175 57 = F 51 3) ∧ (∀ i, i < F 51 2 + F 51 3 → sc F (F 52 ((F 51 1 + i) % 20)) (fun x => G 204 (103 * i + x)) nn L E) ∧ (F 158 0 = 165 ∧ F 158 1 = 170) ∧ ∀ b, b < 2 → (F 159 b ≠ 0 ↔ G 206 b ≠ 0) ∧ (G 206 b ≠ 0 → sc F (F 158 b) (fun x => G 205 (103 * b + x)) nn L E)
section HIST
variable {nn L : Nat} {E : Nat → Nat} {v v2 : fx_V} {F F' G G' : fx_F}
theorem s_copy {p a : Nat} (hd : ∀ t t', t < 5 → t' < 5 → p + t ≠ a + t') (h : Cl k_St_copyFrom [(2, p), (2, a)] F v F') : v = (2, 0) ∧ fxo [p, p + 1, p + 2, p + 3, p + 4] F F' ∧ (∀ i, i < 5 → F' p i = F a i) ∧ ∀ i, F' (p + 1) i = F (a + 1) i ∧ F' (p + 2) i = F (a + 2) i ∧ F' (p + 3) i = F (a + 3) i ∧ F' (p + 4) i = F (a + 4) i := by
  obtain ⟨n, h⟩ := c_St_copyFrom h
  obtain ⟨x1, x2⟩ := q_St_copyFrom_0 h
  have hne := hd 0 0 (by decide) (by decide)
  have hpa : a ≠ p := fun z => hne (by omega)
  have ha : ∀ t, t < 5 → a + t ≠ p := fun t ht z => hd 0 t (by decide) ht (by omega)
  have hat : ∀ t w, t < 5 → w < 5 → a + t ≠ p + w := fun t w ht hw z => hd w t hw ht z.symm
  subst x2
  simp only [fu_p hpa]
  refine ⟨x1, ?_, fun i hi => ?_, fun i => ⟨?_, ?_, ?_, ?_⟩⟩
  · exact ((((((((fxo.rf.wr (by simp)).wr (by simp)).wr (by simp)).wr (by simp)).wr (by simp)).cp (by simp)).cp (by simp)).cp (by simp)).cp (by simp)
  · rw [fcp_o (show p ≠ p + 4 by omega), fcp_o (show p ≠ p + 3 by omega), fcp_o (show p ≠ p + 2 by omega), fcp_o (show p ≠ p + 1 by omega)]
    have : i = 0 ∨ i = 1 ∨ i = 2 ∨ i = 3 ∨ i = 4 := by omega
    rcases this with e | e | e | e | e <;> subst e
    · rw [fu_i (by decide), fu_i (by decide), fu_i (by decide), fu_i (by decide), fu_same]
    · rw [fu_i (by decide), fu_i (by decide), fu_i (by decide), fu_same]
    · rw [fu_i (by decide), fu_i (by decide), fu_same]
    · rw [fu_i (by decide), fu_same]
    · rw [fu_same]
  · rw [fcp_o (show p + 1 ≠ p + 4 by omega), fcp_o (show p + 1 ≠ p + 3 by omega), fcp_o (show p + 1 ≠ p + 2 by omega), fcp_d]
    rw [fu_p (ha 1 (by decide)), fu_p (ha 1 (by decide)), fu_p (ha 1 (by decide)), fu_p (ha 1 (by decide)), fu_p (ha 1 (by decide))]
  · rw [fcp_o (show p + 2 ≠ p + 4 by omega), fcp_o (show p + 2 ≠ p + 3 by omega), fcp_d, fcp_o (hat 2 1 (by decide) (by decide))]
    rw [fu_p (ha 2 (by decide)), fu_p (ha 2 (by decide)), fu_p (ha 2 (by decide)), fu_p (ha 2 (by decide)), fu_p (ha 2 (by decide))]
  · rw [fcp_o (show p + 3 ≠ p + 4 by omega), fcp_d, fcp_o (hat 3 2 (by decide) (by decide)), fcp_o (hat 3 1 (by decide) (by decide))]
    rw [fu_p (ha 3 (by decide)), fu_p (ha 3 (by decide)), fu_p (ha 3 (by decide)), fu_p (ha 3 (by decide)), fu_p (ha 3 (by decide))]
  · rw [fcp_d, fcp_o (hat 4 3 (by decide) (by decide)), fcp_o (hat 4 2 (by decide) (by decide)), fcp_o (hat 4 1 (by decide) (by decide))]
    rw [fu_p (ha 4 (by decide)), fu_p (ha 4 (by decide)), fu_p (ha 4 (by decide)), fu_p (ha 4 (by decide)), fu_p (ha 4 (by decide))]
theorem s_copy2 {p a : Nat} {X : Nat → Nat} (hL : L ≤ 20) (hd : ∀ t t', t < 5 → t' < 5 → p + t ≠ a + t') (hX : sc F a X nn L E) (h : Cl k_St_copyFrom [(2, p), (2, a)] F v F') : v = (2, 0) ∧ fxo [p, p + 1, p + 2, p + 3, p + 4] F F' ∧ sc F' p X nn L E ∧ sc F' a X nn L E := by
  obtain ⟨x1, x2, x3, x4⟩ := s_copy hd h
  refine ⟨x1, x2, sc_congr hX hL (fun i hi => x3 i (by omega)) (fun i _ => x4 i) (fun _ _ => rfl), sc_congr hX hL (fun i _ => x2 a i (by simp; have := hd 0 0; have := hd 1 0; have := hd 2 0; have := hd 3 0; have := hd 4 0; omega)) (fun i _ => ⟨x2 _ i (by simp; have := hd 0 1; have := hd 1 1; have := hd 2 1; have := hd 3 1; have := hd 4 1; omega), x2 _ i (by simp; have := hd 0 2; have := hd 1 2; have := hd 2 2; have := hd 3 2; have := hd 4 2; omega), x2 _ i (by simp; have := hd 0 3; have := hd 1 3; have := hd 2 3; have := hd 3 3; have := hd 4 3; omega), x2 _ i (by simp; have := hd 0 4; have := hd 1 4; have := hd 2 4; have := hd 3 4; have := hd 4 4; omega)⟩) (fun _ _ => rfl)⟩
/-- states lie apart -/
theorem S0_apart {p a : Nat} (hp : S0 p) (ha : S0 a) (h : p ≠ a) : ∀ t t', t < 5 → t' < 5 → p + t ≠ a + t' := by
  intro t t' ht ht'
  unfold S0 at hp ha
  omega
/-- a state that is not p stays -/
theorem sc_away {p a : Nat} {X : Nat → Nat} (hL : L ≤ 20) (hd : ∀ t t', t < 5 → t' < 5 → p + t ≠ a + t') (ho : fxo [p, p + 1, p + 2, p + 3, p + 4] F F') (hX : sc F a X nn L E) : sc F' a X nn L E := by
  refine sc_congr hX hL (fun i _ => ho a i (by simp; have := hd 0 0; have := hd 1 0; have := hd 2 0; have := hd 3 0; have := hd 4 0; omega)) (fun i _ => ⟨ho _ i (by simp; have := hd 0 1; have := hd 1 1; have := hd 2 1; have := hd 3 1; have := hd 4 1; omega), ho _ i (by simp; have := hd 0 2; have := hd 1 2; have := hd 2 2; have := hd 3 2; have := hd 4 2; omega), ho _ i (by simp; have := hd 0 3; have := hd 1 3; have := hd 2 3; have := hd 3 3; have := hd 4 3; omega), ho _ i (by simp; have := hd 0 4; have := hd 1 4; have := hd 2 4; have := hd 3 4; have := hd 4 4; omega)⟩) (fun _ _ => rfl)
/-- the reference keeps an act -/
theorem s_keepAct (ha : G 175 56 ≤ 20) (h : Cl k_M_keepAct [(2, 175)] G v G') : v = (2, 0) ∧ fxo [175, 204] G G' ∧ G' 175 57 = 0 ∧ (∀ i, i ≠ 56 → i ≠ 57 → G' 175 i = G 175 i) ∧ ((G 175 56 ≠ 20 ∧ G' 175 56 = G 175 56 + 1 ∧ (∀ i, i < 103 * G 175 56 → G' 204 i = G 204 i) ∧ ∀ x, x < 103 → G' 204 (103 * G 175 56 + x) = G 176 x) ∨ (G 175 56 = 20 ∧ G' 175 56 = 20 ∧ (∀ i, i < 1957 → G' 204 i = G 204 (i + 103)) ∧ ∀ x, x < 103 → G' 204 (1957 + x) = G 176 x)) := by
  obtain ⟨n, h⟩ := c_M_keepAct h
  have Q := q_M_keepAct_0 h
  have l51 : ∀ (n : Nat) (G1 G2 : fx_F) (l k : Nat), Rn n k_M_keepAct 51 [(2, 175), (0, l)] [] G2 v G' → k ≤ 19 → G1 175 56 = k → l ≤ 103 → fxo [204] G1 G2 → (∀ i, i < 103 * k → G2 204 i = G1 204 i) → (∀ x, x < l → G2 204 (103 * k + x) = G1 176 x) → v = (2, 0) ∧ fxo [175, 204] G1 G' ∧ G' 175 57 = 0 ∧ (∀ i, i ≠ 56 → i ≠ 57 → G' 175 i = G1 175 i) ∧ G' 175 56 = k + 1 ∧ (∀ i, i < 103 * k → G' 204 i = G1 204 i) ∧ ∀ x, x < 103 → G' 204 (103 * k + x) = G1 176 x := by
    intro n
    induction n using Nat.strongRecOn with
    | ind n ih =>
      intro G1 G2 l k h hk h56 hl ho hA hB
      have Q := q_M_keepAct_51 h
      rcases Nat.lt_or_ge l 103 with hlt | hge
      · obtain ⟨m, hm, hR⟩ := Q.2 (by rw [b_lt (by clear Q; omega) (by decide)]; exact hlt)
        clear Q
        rw [ho 175 _ (by decide), h56, b_mul (show 103 * k < 4294967296 by omega), b_add (show 103 * k + l < 4294967296 by omega), b_add (show l + 1 < 4294967296 by omega)] at hR
        refine ih m hm G1 _ (l + 1) k hR hk h56 hlt (ho.wr (by decide)) (fun i hi => by rw [fu_i (by omega)]; exact hA i hi) (fun x hx => ?_)
        by_cases e : x = l
        · subst e; rw [fu_same, ho 176 _ (by decide)]
        · rw [fu_i (by omega)]; exact hB x (by omega)
      · obtain ⟨x1, x2⟩ := Q.1 (by rw [b_le (by decide) (by clear Q; omega)]; exact hge)
        clear Q
        rw [ho 175 _ (by decide), h56, b_add (show k + 1 < 4294967296 by omega)] at x2
        subst x2
        refine ⟨x1, ((ho.mono (by decide)).wr (by decide)).wr (by decide), fu_same, fun i h1 h2 => ?_, ?_, fun i hi => ?_, fun x hx => ?_⟩
        · rw [fu_i h2, fu_i h1, ho 175 _ (by decide)]
        · rw [fu_i (by decide), fu_same]
        · rw [fu_p (by decide), fu_p (by decide)]; exact hA i hi
        · rw [fu_p (by decide), fu_p (by decide)]; exact hB x (by omega)
  by_cases e : G 175 56 = 20
  · obtain ⟨m, hm, hR⟩ := Q.2 e
    clear Q
    have l11 : ∀ (n : Nat) (G2 : fx_F) (l : Nat), Rn n k_M_keepAct 11 [(2, 175), (0, l)] [] G2 v G' → l ≤ 2060 → fxo [204] G G2 → (∀ i, i < l → G2 204 i = G 204 (i + 103)) → (∀ i, l ≤ i → G2 204 i = G 204 i) → v = (2, 0) ∧ fxo [175, 204] G G' ∧ G' 175 57 = 0 ∧ (∀ i, i ≠ 56 → i ≠ 57 → G' 175 i = G 175 i) ∧ G' 175 56 = 20 ∧ (∀ i, i < 1957 → G' 204 i = G 204 (i + 103)) ∧ ∀ x, x < 103 → G' 204 (1957 + x) = G 176 x := by
      intro n
      induction n using Nat.strongRecOn with
      | ind n ih =>
        intro G2 l h hl ho hA hB
        have Q := q_M_keepAct_11 h
        rcases Nat.lt_or_ge l 2060 with hlt | hge
        · obtain ⟨m, hm, hR⟩ := Q.2 (by rw [b_lt (by clear Q; omega) (by decide)]; exact hlt)
          clear Q
          rw [b_add (show l + 103 < 4294967296 by omega), b_add (show l + 1 < 4294967296 by omega)] at hR
          refine ih m hm _ (l + 1) hR hlt (ho.wr (by decide)) (fun i hi => ?_) (fun i hi => by rw [fu_i (by omega)]; exact hB i (by omega))
          by_cases e : i = l
          · subst e; rw [fu_same]; exact hB _ (by omega)
          · rw [fu_i e]; exact hA i (by omega)
        · obtain ⟨m, hm, hR⟩ := Q.1 (by rw [b_le (by decide) (by clear Q; omega)]; exact hge)
          clear Q
          rw [ho 175 _ (by decide), e, b_sub (show 1 ≤ 20 by decide) (by decide)] at hR
          obtain ⟨r1, r2, r3, r4, r5, r6, r7⟩ := l51 m (fu G2 175 56 19) _ 0 19 hR (by decide) fu_same (by decide) fxo.rf (fun _ _ => rfl) (fun x hx => absurd hx (Nat.not_lt_zero _))
          refine ⟨r1, ((ho.mono (by decide)).wr (by decide)).tr r2, r3, fun i h1 h2 => ?_, r5, fun i hi => ?_, fun x hx => ?_⟩
          · rw [r4 i h1 h2, fu_i h1, ho 175 _ (by decide)]
          · rw [r6 i hi, fu_p (by decide)]; exact hA i (by omega)
          · have := r7 x hx
            rw [show 1957 + x = 103 * 19 + x by omega, this, fu_p (by decide), ho 176 _ (by decide)]
    obtain ⟨r1, r2, r3, r4, r5, r6, r7⟩ := l11 m G 0 hR (by decide) fxo.rf (fun i hi => absurd hi (Nat.not_lt_zero _)) (fun _ _ => rfl)
    exact ⟨r1, r2, r3, r4, Or.inr ⟨e, r5, r6, r7⟩⟩
  · obtain ⟨m, hm, hR⟩ := Q.1 e
    clear Q
    obtain ⟨r1, r2, r3, r4, r5, r6, r7⟩ := l51 m G G 0 (G 175 56) hR (by omega) rfl (by decide) fxo.rf (fun _ _ => rfl) (fun x hx => absurd hx (Nat.not_lt_zero _))
    exact ⟨r1, r2, r3, r4, Or.inl ⟨e, r5, r6, r7⟩⟩
theorem nm5 {x p : Nat} (hx : x < 53) (hp : S0 p) : x ∉ [p, p + 1, p + 2, p + 3, p + 4] := by unfold S0 at hp; simp; omega
/-- where now and the slots lie -/
def rg (p : Nat) : Prop := (53 ≤ p ∧ p ≤ 152) ∨ (160 ≤ p ∧ p ≤ 164)
/-- what an act's keeping leaves of the class's heap: all but the history and slots -/
def kpF (F F' : fx_F) : Prop := (∀ p i, p ≠ 51 → ¬ rg p → F' p i = F p i) ∧ ∀ t i, t < 5 → F' (F 2 13 + t) i = F (F 2 13 + t) i
theorem s_keep2 (hN : nt_ok nn L E) (hh : hs F G nn L E) (hs0 : sc F (F 2 13) (G 176) nn L E) (h : Cl k_Hi_keep [(2, 51), (2, F 2 13)] F v F') (h2 : Cl k_M_keepAct [(2, 175)] G v2 G') : v = (2, 0) ∧ v2 = (2, 0) ∧ hs F' G' nn L E ∧ sc F' (F 2 13) (G' 176) nn L E ∧ F' 2 13 = F 2 13 ∧ kpF F F' ∧ fxo [175, 204] G G' ∧ ∀ i, i ≠ 56 → i ≠ 57 → G' 175 i = G 175 i := by
  have hL := hN.2.1
  obtain ⟨⟨a1, a2, a3⟩, ⟨b1, b2, b3, b4⟩, c1, d1, e1⟩ := hh
  obtain ⟨r1, r2, r3, r4, r5⟩ := s_keepAct (by omega) h2
  obtain ⟨n, h⟩ := c_Hi_keep h
  have Q := q_Hi_keep_0 h
  -- a slot is laid
  have core : ∀ (F0 F1 : fx_F) (z k old : Nat), z < 20 → z = (old + k) % 20 → old < 20 → k ≤ 19 → (∀ p i, p ≠ 51 → F0 p i = F p i) → F0 51 1 = old → Cl k_St_copyFrom [(2, F 52 z), (2, F 2 13)] F0 (2, 0) F1 → v = (2, 0) → F' = fu (fu F1 51 2 (k + 1)) 51 3 0 → G' 175 56 = k + 1 → (∀ i, i < k → sc F (F 52 ((old + i) % 20)) (fun x => G' 204 (103 * i + x)) nn L E) → (∀ x, x < 103 → G' 204 (103 * k + x) = G 176 x) → v = (2, 0) ∧ v2 = (2, 0) ∧ hs F' G' nn L E ∧ sc F' (F 2 13) (G' 176) nn L E ∧ F' 2 13 = F 2 13 ∧ kpF F F' ∧ fxo [175, 204] G G' ∧ ∀ i, i ≠ 56 → i ≠ 57 → G' 175 i = G 175 i := by
    intro F0 F1 z k old hz hzk hold hk hF0 h51 hcp hv hF' h56 hrow hnew
    obtain ⟨s1, s2⟩ := a2 z hz
    have hap := S0_apart s1 a1 s2
    have sF0 : ∀ {q X}, sc F q X nn L E → S0 q ∨ q = 165 ∨ q = 170 → sc F0 q X nn L E := fun {q X} hx hq => sc_congr hx hL (fun i _ => hF0 q i (by unfold S0 at hq; omega)) (fun i _ => ⟨hF0 _ i (by unfold S0 at hq; omega), hF0 _ i (by unfold S0 at hq; omega), hF0 _ i (by unfold S0 at hq; omega), hF0 _ i (by unfold S0 at hq; omega)⟩) (fun _ _ => rfl)
    obtain ⟨-, y2, y3, y4⟩ := s_copy2 hL hap (sF0 hs0 (Or.inl a1)) hcp
    have eF1 : ∀ p i, p ≠ 51 → F' p i = F1 p i := fun p i hp => by rw [hF', fu_p hp, fu_p hp]
    have sF1 : ∀ {q X}, sc F1 q X nn L E → S0 q ∨ q = 165 ∨ q = 170 → sc F' q X nn L E := fun {q X} hx hq => sc_congr hx hL (fun i _ => eF1 q i (by unfold S0 at hq; omega)) (fun i _ => ⟨eF1 _ i (by unfold S0 at hq; omega), eF1 _ i (by unfold S0 at hq; omega), eF1 _ i (by unfold S0 at hq; omega), eF1 _ i (by unfold S0 at hq; omega)⟩) (fun _ _ => rfl)
    have s1' : F 52 z ≤ 160 ∧ 53 ≤ F 52 z := by unfold S0 at s1; omega
    have lo : ∀ p i, p ≠ 51 → ¬ rg p → F' p i = F p i := fun p i hp hp2 => by
      rw [eF1 p i hp, y2 p i (by simp; unfold rg at hp2; unfold S0 at s1; omega), hF0 p i hp]
    have e2 : F' 2 13 = F 2 13 := lo 2 13 (by decide) (by unfold rg; omega)
    have e52 : ∀ i, F' 52 i = F 52 i := fun i => lo 52 i (by decide) (by unfold rg; omega)
    have e511 : F' 51 1 = old := by rw [hF', fu_i (by decide), fu_i (by decide), y2 51 1 (by simp; omega), h51]
    have e512 : F' 51 2 = k + 1 := by rw [hF', fu_i (by decide), fu_same]
    have e513 : F' 51 3 = 0 := by rw [hF', fu_same]
    have g176 : ∀ i, G' 176 i = G 176 i := fun i => r2 176 i (by decide)
    refine ⟨hv, r1, ⟨?_, ?_, ?_, ?_, ?_⟩, ?_, e2, ⟨lo, fun t i ht => ?_⟩, r2, r4⟩
    · rw [e2]
      refine ⟨a1, fun i hi => by rw [e52]; exact a2 i hi, fun i j hi hj => by rw [e52, e52]; exact a3 i j hi hj⟩
    · rw [e511, e512, e513]
      exact ⟨hold, by omega, h56, r3⟩
    · rw [e511, e512, e513]
      intro i hi
      rw [e52]
      by_cases e : i = k
      · subst e
        rw [← hzk]
        exact sF1 (sc_congr y3 hL (fun _ _ => rfl) (fun _ _ => ⟨rfl, rfl, rfl, rfl⟩) (fun x hx => hnew x (by omega))) (Or.inl s1)
      · have hi2 : i < k := by omega
        obtain ⟨t1, _⟩ := a2 ((old + i) % 20) (Nat.mod_lt _ (by decide))
        refine sF1 (sc_away hL (S0_apart s1 t1 (fun w => ?_)) y2 (sF0 (hrow i hi2) (Or.inl t1))) (Or.inl t1)
        have := a3 z _ hz (Nat.mod_lt _ (by decide)) w
        omega
    · exact ⟨(lo 158 0 (by decide) (by unfold rg; omega)).trans d1.1, (lo 158 1 (by decide) (by unfold rg; omega)).trans d1.2⟩
    · intro b hb
      obtain ⟨t1, t2⟩ := e1 b hb
      have h159 : F' 159 b = F 159 b := by rw [eF1 159 b (by decide), y2 159 b (by simp; unfold S0 at s1; omega), hF0 159 b (by decide)]
      have h158 : F' 158 b = F 158 b := by rw [eF1 158 b (by decide), y2 158 b (by simp; unfold S0 at s1; omega), hF0 158 b (by decide)]
      rw [h159, h158, r2 206 _ (by decide)]
      refine ⟨t1, fun w => ?_⟩
      have hb158 : F 158 b = 165 ∨ F 158 b = 170 := by
        have : b = 0 ∨ b = 1 := by omega
        rcases this with e | e
        · subst e; exact Or.inl d1.1
        · subst e; exact Or.inr d1.2
      refine sF1 (sc_away hL (fun t t' ht ht' => by unfold S0 at s1; omega) y2 (sF0 (sc_congr (t2 w) hL (fun _ _ => rfl) (fun _ _ => ⟨rfl, rfl, rfl, rfl⟩) (fun x _ => r2 205 _ (by decide))) (Or.inr hb158))) (Or.inr hb158)
    · exact sF1 (sc_congr y4 hL (fun _ _ => rfl) (fun _ _ => ⟨rfl, rfl, rfl, rfl⟩) (fun x _ => g176 x)) (Or.inl a1)
    · have h51t : F 2 13 + t ≠ 51 := by unfold S0 at a1; omega
      rw [eF1 (F 2 13 + t) i h51t, y2 (F 2 13 + t) i (by simp; have := hap 0 t; have := hap 1 t; have := hap 2 t; have := hap 3 t; have := hap 4 t; omega), hF0 (F 2 13 + t) i h51t]
  rcases r5 with ⟨r5, r6, r7, r8⟩ | ⟨r5, r6, r7, r8⟩
  · rw [b3] at r5 r6 r7 r8
    obtain ⟨F1, hcp, hv, hF'⟩ := Q.1 r5
    clear Q
    rw [b_add (show F 51 1 + F 51 2 < 4294967296 by omega), b_rem (show F 51 1 + F 51 2 < 2147483648 by omega) (by decide) (by decide)] at hcp
    refine core F F1 _ (F 51 2) (F 51 1) (Nat.mod_lt _ (by decide)) rfl b1 (by omega) (fun _ _ _ => rfl) rfl hcp hv (hF'.trans ?_) r6 (fun i hi => ?_) r8
    · have hz := (a2 ((F 51 1 + F 51 2) % 20) (Nat.mod_lt _ (by decide))).1
      obtain ⟨-, y2, -, -⟩ := s_copy (S0_apart hz a1 (a2 _ (Nat.mod_lt _ (by decide))).2) hcp
      rw [y2 51 2 (nm5 (by decide) hz), b_add (show F 51 2 + 1 < 4294967296 by omega)]
    · exact sc_congr (c1 i (by omega)) hL (fun _ _ => rfl) (fun _ _ => ⟨rfl, rfl, rfl, rfl⟩) (fun x hx => r7 _ (by omega))
  · rw [b3] at r5
    obtain ⟨F1, hcp, hv, hF'⟩ := Q.2 r5
    clear Q
    have ho1 : i_rem (i_add (F 51 1) 1) 20 = (F 51 1 + 1) % 20 := by
      rw [b_add (show F 51 1 + 1 < 4294967296 by omega), b_rem (show F 51 1 + 1 < 2147483648 by omega) (by decide) (by decide)]
    have hz2 : i_rem (i_add ((F 51 1 + 1) % 20) (i_sub (F 51 2) 1)) 20 = ((F 51 1 + 1) % 20 + 19) % 20 := by
      rw [r5, b_sub (show 1 ≤ 20 by decide) (by decide)]
      show i_rem (i_add ((F 51 1 + 1) % 20) 19) 20 = _
      rw [b_add (show (F 51 1 + 1) % 20 + 19 < 4294967296 by omega), b_rem (show (F 51 1 + 1) % 20 + 19 < 2147483648 by omega) (by decide) (by decide)]
    rw [ho1, hz2] at hcp
    have hsub : i_sub (F 51 2) 1 = 19 := by rw [r5, b_sub (show 1 ≤ 20 by decide) (by decide)]
    rw [hsub] at hcp
    refine core _ F1 _ 19 ((F 51 1 + 1) % 20) (Nat.mod_lt _ (by decide)) rfl (Nat.mod_lt _ (by decide)) (Nat.le_refl _) (fun p i hp => by rw [fu_p hp, fu_p hp]) (by rw [fu_i (by decide), fu_same]) hcp hv (hF'.trans ?_) r6 (fun i hi => ?_) (fun x hx => r8 x hx)
    · have hz := (a2 (((F 51 1 + 1) % 20 + 19) % 20) (Nat.mod_lt _ (by decide))).1
      obtain ⟨-, y2, -, -⟩ := s_copy (S0_apart hz a1 (a2 _ (Nat.mod_lt _ (by decide))).2) hcp
      rw [y2 51 2 (nm5 (by decide) hz), fu_same, b_add (show 19 + 1 < 4294967296 by decide)]
    · have := c1 (i + 1) (by omega)
      rw [show ((F 51 1 + 1) % 20 + i) % 20 = (F 51 1 + (i + 1)) % 20 by omega]
      exact sc_congr this hL (fun _ _ => rfl) (fun _ _ => ⟨rfl, rfl, rfl, rfl⟩) (fun x hx => by
        rw [r7 (103 * i + x) (by omega)]
        congr 1
        omega)
end HIST
