/-! The relation that all calls keep -/
/-- scratch of the class, of the reference -/
def qF (p : Nat) : Prop := (19 ≤ p ∧ p ≤ 50) ∨ (153 ≤ p ∧ p ≤ 157)
def qG (p : Nat) : Prop := 186 ≤ p ∧ p ≤ 203
def lr (F G : fx_F) (nn L : Nat) (E C : Nat → Nat) (N R : Nat) : Prop := (nt_ok nn L E ∧ cd_ok C N ∧ (N ≠ 0 → 0 < hgt C N) ∧ R < 2147483648) ∧ (cn F nn L E ∧ ocl F nn L E ∧ cc F C N ∧ F 3 3 = R) ∧ (mn G nn L E ∧ mcc G C N ∧ G 180 (G 175 9) = R) ∧ (hs F G nn L E ∧ sc F (F 2 13) (G 176) nn L E) ∧ rcI F nn L E 24 ∧ rcI F nn L E 32
/-- what a call leaves as it is -/
def sF (F F' : fx_F) : Prop := ∀ p i, (175 ≤ p ∨ (3 ≤ p ∧ p ≤ 18)) → F' p i = F p i
def sG (G G' : fx_F) : Prop := (∀ p i, (p < 175 ∨ (177 ≤ p ∧ p ≤ 185)) → G' p i = G p i) ∧ ∀ i, i < 40 → G' 175 i = G 175 i
section REL
variable {nn L N R : Nat} {E C : Nat → Nat} {v v2 : fx_V} {F F' F1 G G' G1 : fx_F}
theorem rcI.eq {p : Nat} (h : rcI F nn L E p) (he : ∀ t i, t ≤ 5 → F' (p + t) i = F (p + t) i) : rcI F' nn L E p := by
  have e0 : ∀ i, F' p i = F p i := fun i => he 0 i (by decide)
  have e1 : ∀ i, F' (p + 1) i = F (p + 1) i := fun i => he 1 i (by decide)
  have e2 : ∀ i, F' (p + 2) i = F (p + 2) i := fun i => he 2 i (by decide)
  have e4 : ∀ i, F' (p + 4) i = F (p + 4) i := fun i => he 4 i (by decide)
  have e5 : ∀ i, F' (p + 5) i = F (p + 5) i := fun i => he 5 i (by decide)
  refine ⟨?_, ?_⟩
  · unfold rci
    simp only [e0, e5, e1]
    exact h.1
  · unfold rct ctb
    simp only [e0, e2, e4]
    exact h.2
theorem sF.rf : sF F F := fun _ _ _ => rfl
theorem sG.rf : sG G G := ⟨fun _ _ _ => rfl, fun _ _ => rfl⟩
theorem cn.eq (h : cn F nn L E) (h3 : ∀ p i, 3 ≤ p → p ≤ 9 → F' p i = F p i) : cn F' nn L E := ⟨(h3 3 0 (by decide) (by decide)).trans h.1, (h3 3 1 (by decide) (by decide)).trans h.2.1, fun c hc => ⟨(h3 4 c (by decide) (by decide)).trans (h.2.2 c hc).1, (h3 5 c (by decide) (by decide)).trans (h.2.2 c hc).2⟩⟩
theorem ocl.eq (h : ocl F nn L E) (h3 : ∀ p i, 3 ≤ p → p ≤ 9 → F' p i = F p i) : ocl F' nn L E := ⟨fun w hw => by rw [h3 6 _ (by decide) (by decide)]; exact h.1 w hw, fun w hw => by
  rw [h3 6 _ (by decide) (by decide), h3 6 _ (by decide) (by decide)]
  exact ⟨(h.2 w hw).1, fun c hc he => by rw [h3 7 _ (by decide) (by decide)]; exact (h.2 w hw).2 c hc he⟩⟩
theorem cc.eq (h : cc F C N) (h3 : ∀ p i, 3 ≤ p → p ≤ 9 → F' p i = F p i) : cc F' C N := ⟨(h3 3 5 (by decide) (by decide)).trans h.1, fun k hk => by
  rw [h3 8 _ (by decide) (by decide), h3 9 _ (by decide) (by decide)]; exact h.2 k hk⟩
theorem mn.eq (h : mn G nn L E) (h9 : G' 175 9 = G 175 9) (h3 : ∀ p i, 177 ≤ p → p ≤ 185 → G' p i = G p i) : mn G' nn L E := by
  unfold mn
  rw [h9, h3 177 _ (by decide) (by decide), h3 178 _ (by decide) (by decide)]
  exact ⟨h.1, h.2.1, h.2.2.1, fun j hj => by rw [h3 183 _ (by decide) (by decide)]; exact h.2.2.2 j hj⟩
theorem mcc.eq (h : mcc G C N) (h9 : G' 175 9 = G 175 9) (h3 : ∀ p i, 177 ≤ p → p ≤ 185 → G' p i = G p i) : mcc G' C N := by
  unfold mcc
  rw [h9, h3 182 _ (by decide) (by decide)]
  exact ⟨h.1, fun k hk => by rw [h3 184 _ (by decide) (by decide)]; exact h.2 k hk⟩
/-- histories: now and scratch may change -/
theorem hs.now {q : Nat} (hL : L ≤ 20) (h : hs F G nn L E) (hq : q = F 2 13) (hF : ∀ p i, ¬ qF p → ¬ (q ≤ p ∧ p ≤ q + 4) → F' p i = F p i) (hG : ∀ p i, ¬ qG p → p ≠ 175 → p ≠ 176 → G' p i = G p i) (hG2 : G' 175 56 = G 175 56 ∧ G' 175 57 = G 175 57) : hs F' G' nn L E := by
  obtain ⟨⟨a1, a2, a3⟩, ⟨b1, b2, b3, b4⟩, c1, d1, e1⟩ := h
  subst hq
  have a1' : 53 ≤ F 2 13 ∧ (F 2 13 + 4 ≤ 152 ∨ 160 ≤ F 2 13) ∧ F 2 13 + 4 ≤ 164 := by unfold S0 at a1; omega
  have k : ∀ p i, p = 2 ∨ p = 51 ∨ p = 52 ∨ p = 158 ∨ p = 159 → F' p i = F p i := fun p i hp => hF p i (by unfold qF; omega) (by omega)
  have mv : ∀ {q X}, sc F q X nn L E → (S0 q ∧ q ≠ F 2 13) ∨ q = 165 ∨ q = 170 → sc F' q X nn L E := fun {q X} hx hq => by
    have hap : ∀ t, t < 5 → ¬ qF (q + t) ∧ ¬ (F 2 13 ≤ q + t ∧ q + t ≤ F 2 13 + 4) := by
      intro t ht
      unfold qF
      rcases hq with ⟨h1, h2⟩ | h1 | h1
      · have := S0_apart h1 a1 h2 t
        have s0 := this 0 ht; have s1 := this 1 ht; have s2 := this 2 ht; have s3 := this 3 ht; have s4 := this 4 ht
        unfold S0 at h1
        omega
      · omega
      · omega
    exact sc_congr hx hL (fun i _ => hF q i (hap 0 (by decide)).1 (hap 0 (by decide)).2) (fun i _ => ⟨hF _ i (hap 1 (by decide)).1 (hap 1 (by decide)).2, hF _ i (hap 2 (by decide)).1 (hap 2 (by decide)).2, hF _ i (hap 3 (by decide)).1 (hap 3 (by decide)).2, hF _ i (hap 4 (by decide)).1 (hap 4 (by decide)).2⟩) (fun _ _ => rfl)
  refine ⟨?_, ?_, fun i hi => ?_, ?_, fun b hb => ?_⟩
  · rw [k 2 13 (by decide)]
    exact ⟨a1, fun i hi => by rw [k 52 i (by decide)]; exact a2 i hi, fun i j hi hj => by rw [k 52 i (by decide), k 52 j (by decide)]; exact a3 i j hi hj⟩
  · rw [k 51 1 (by decide), k 51 2 (by decide), k 51 3 (by decide), hG2.1, hG2.2]; exact ⟨b1, b2, b3, b4⟩
  · rw [k 51 2 (by decide), k 51 3 (by decide)] at hi
    rw [k 51 1 (by decide), k 52 _ (by decide)]
    refine mv (sc_congr (c1 i hi) hL (fun _ _ => rfl) (fun _ _ => ⟨rfl, rfl, rfl, rfl⟩) (fun x _ => hG 204 _ (by unfold qG; omega) (by decide) (by decide))) (Or.inl (a2 _ (Nat.mod_lt _ (by decide))))
  · rw [k 158 0 (by decide), k 158 1 (by decide)]; exact d1
  · obtain ⟨t1, t2⟩ := e1 b hb
    rw [k 158 b (by decide), k 159 b (by decide), hG 206 b (by unfold qG; omega) (by decide) (by decide)]
    refine ⟨t1, fun w => ?_⟩
    have hb158 : F 158 b = 165 ∨ F 158 b = 170 := by
      have : b = 0 ∨ b = 1 := by omega
      rcases this with e | e
      · subst e; exact Or.inl d1.1
      · subst e; exact Or.inr d1.2
    exact mv (sc_congr (t2 w) hL (fun _ _ => rfl) (fun _ _ => ⟨rfl, rfl, rfl, rfl⟩) (fun x _ => hG 205 _ (by unfold qG; omega) (by decide) (by decide))) (Or.inr hb158)
/-- scratch alone is written -/
theorem lr.fr (h : lr F G nn L E C N R) (hF : ∀ p i, ¬ qF p → F' p i = F p i) (ha : rcI F' nn L E 24) (hb : rcI F' nn L E 32) (hG : ∀ p i, ¬ qG p → p ≠ 175 → G' p i = G p i) (hG2 : ∀ i, i < 40 ∨ i = 56 ∨ i = 57 → G' 175 i = G 175 i) : lr F' G' nn L E C N R ∧ sF F F' ∧ sG G G' := by
  obtain ⟨h1, ⟨k1, k2, k3, k4⟩, ⟨m1, m2, m3⟩, ⟨x1, x2⟩, _, _⟩ := h
  have f3 : ∀ p i, 3 ≤ p → p ≤ 9 → F' p i = F p i := fun p i h h2 => hF p i (by unfold qF; omega)
  have g3 : ∀ p i, 177 ≤ p → p ≤ 185 → G' p i = G p i := fun p i h h2 => hG p i (by unfold qG; omega) (by omega)
  have g9 := hG2 9 (Or.inl (by decide))
  have hL := h1.1.2.1
  have e2 : F' 2 13 = F 2 13 := hF 2 13 (by unfold qF; omega)
  have hsk := hs.now (F' := F') (G' := G') hL x1 rfl (fun p i h _ => hF p i h) (fun p i h h2 _ => hG p i h h2) ⟨hG2 56 (by decide), hG2 57 (by decide)⟩
  have hS := x1.1.1
  refine ⟨⟨h1, ⟨k1.eq f3, k2.eq f3, k3.eq f3, (f3 3 3 (by decide) (by decide)).trans k4⟩, ⟨m1.eq g9 g3, m2.eq g9 g3, by rw [g9, g3 180 _ (by decide) (by decide)]; exact m3⟩, ⟨hsk, ?_⟩, ha, hb⟩, fun p i hp => hF p i (by unfold qF; omega), ⟨fun p i hp => hG p i (by unfold qG; omega) (by omega), fun i hi => hG2 i (Or.inl hi)⟩⟩
  rw [e2]
  refine sc_congr x2 hL (fun i _ => hF _ i ?_) (fun i _ => ⟨hF _ i ?_, hF _ i ?_, hF _ i ?_, hF _ i ?_⟩) (fun x _ => hG 176 x (by unfold qG; omega) (by decide))
  all_goals (unfold qF; unfold S0 at hS; omega)
/-- an act: kept, and now changed -/
theorem lr.act (h : lr F G nn L E C N R) (hk : Cl k_Hi_keep [(2, 51), (2, F 2 13)] F v F1) (hk2 : Cl k_M_keepAct [(2, 175)] G v2 G1) (hF : ∀ p i, ¬ qF p → ¬ (F 2 13 ≤ p ∧ p ≤ F 2 13 + 4) → F' p i = F1 p i) (ha : rcI F' nn L E 24) (hb : rcI F' nn L E 32) (hG : ∀ p i, ¬ qG p → p ≠ 175 → p ≠ 176 → G' p i = G1 p i) (hG2 : ∀ i, i < 40 ∨ i = 56 ∨ i = 57 → G' 175 i = G1 175 i) (hsc : sc F' (F 2 13) (G' 176) nn L E) : lr F' G' nn L E C N R ∧ sF F F' ∧ sG G G' := by
  obtain ⟨h1, ⟨k1, k2, k3, k4⟩, ⟨m1, m2, m3⟩, ⟨x1, x2⟩, _, _⟩ := h
  obtain ⟨-, -, y1, y2, y3, y4, y5, y6⟩ := s_keep2 h1.1 x1 x2 hk hk2
  have hL := h1.1.2.1
  have a1 := x1.1.1
  have a1' : 53 ≤ F 2 13 ∧ F 2 13 + 4 ≤ 164 := by unfold S0 at a1; omega
  have f3 : ∀ p i, (175 ≤ p ∨ p ≤ 18) → F' p i = F p i := fun p i hp => by
    rw [hF p i (by unfold qF; omega) (by omega), y4.1 p i (by omega) (by unfold rg; omega)]
  have g3 : ∀ p i, (p < 175 ∨ 177 ≤ p ∧ p ≤ 185) → G' p i = G p i := fun p i hp => by
    rw [hG p i (by unfold qG; omega) (by omega) (by omega), y5 p i (by simp; omega)]
  have g9 : ∀ i, i < 40 → G' 175 i = G 175 i := fun i hi => by rw [hG2 i (Or.inl hi), y6 i (by omega) (by omega)]
  have f3' : ∀ p i, 3 ≤ p → p ≤ 9 → F' p i = F p i := fun p i _ h2 => f3 p i (Or.inr (by omega))
  have g3' : ∀ p i, 177 ≤ p → p ≤ 185 → G' p i = G p i := fun p i h1 h2 => g3 p i (Or.inr ⟨h1, h2⟩)
  have e2 : F' 2 13 = F 2 13 := f3 2 13 (Or.inr (by decide))
  have hsk := hs.now (F' := F') (G' := G') hL y1 (q := F 2 13) y3.symm hF hG ⟨hG2 56 (by decide), hG2 57 (by decide)⟩
  refine ⟨⟨h1, ⟨k1.eq f3', k2.eq f3', k3.eq f3', (f3' 3 3 (by decide) (by decide)).trans k4⟩, ⟨m1.eq (g9 9 (by decide)) g3', m2.eq (g9 9 (by decide)) g3', by rw [g9 9 (by decide), g3' 180 _ (by decide) (by decide)]; exact m3⟩, ⟨hsk, ?_⟩, ha, hb⟩, fun p i hp => f3 p i (by omega), ⟨g3, g9⟩⟩
  rw [e2]; exact hsc
/-- what is there behind the keeping -/
theorem lr.kept (h : lr F G nn L E C N R) (hk : Cl k_Hi_keep [(2, 51), (2, F 2 13)] F v F1) (hk2 : Cl k_M_keepAct [(2, 175)] G v2 G1) : F1 2 13 = F 2 13 ∧ (∀ t i, t < 5 → F1 (F 2 13 + t) i = F (F 2 13 + t) i) ∧ (∀ p i, p ≠ 51 → ¬ rg p → F1 p i = F p i) ∧ fxo [175, 204] G G1 ∧ (∀ i, i ≠ 56 → i ≠ 57 → G1 175 i = G 175 i) ∧ sc F1 (F 2 13) (G1 176) nn L E ∧ rcI F1 nn L E 24 ∧ rcI F1 nn L E 32 := by
  obtain ⟨h1, _, _, ⟨x1, x2⟩, ra, rb⟩ := h
  obtain ⟨-, -, y1, y2, y3, y4, y5, y6⟩ := s_keep2 h1.1 x1 x2 hk hk2
  exact ⟨y3, y4.2, y4.1, y5, y6, y2, ra.eq (fun t i ht => y4.1 _ i (by omega) (by unfold rg; omega)), rb.eq (fun t i ht => y4.1 _ i (by omega) (by unfold rg; omega))⟩
theorem in_y {a k : Nat} (h : a < k) (hk : k ≤ 40) : s_le 0 a ∧ s_lt a k ∧ s_le a (i_sub k 1) := by
  refine ⟨?_, ?_, ?_⟩
  · rw [b_le (by decide) (by omega)]; exact Nat.zero_le _
  · rw [b_lt (by omega) (by omega)]; exact h
  · rw [b_sub (by omega) (by omega), b_le (by omega) (by omega)]; omega
theorem in_n {a k : Nat} (h : ¬ a < k) (ha : a < 4294967296) (hk : k ≤ 40) : s_lt a 0 ∨ (s_le 0 a ∧ s_le k a ∧ s_lt (i_sub k 1) a) := by
  rcases Nat.lt_or_ge a 2147483648 with z | z
  · refine Or.inr ⟨?_, ?_, ?_⟩
    · rw [b_le (by decide) z]; exact Nat.zero_le _
    · rw [b_le (by omega) z]; omega
    · by_cases hk0 : k = 0
      · subst hk0
        rw [b_sub01, b_lt_m z]; trivial
      · rw [b_sub (by omega) (by omega), b_lt (by omega) z]; omega
  · refine Or.inl ?_
    rw [b_neg ha]; exact z
end REL
