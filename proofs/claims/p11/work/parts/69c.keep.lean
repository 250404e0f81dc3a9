/-! Calls that are not compared keep the relation: what is needed -/
section KEEP
variable {nn L R N p a b r w : Nat} {E C : Nat → Nat} {v v2 : fx_V} {F F' F0 F1 F2 G G' G0 G1 G2 : fx_F}
/-- scratch and, brought back, the row of all -/
theorem lr.fr2 (h : lr F G nn L E C N R) (hF : ∀ p i, ¬ qF p → F' p i = F p i) (ha : rcI F' nn L E 24) (hb : rcI F' nn L E 32) (hG : ∀ p i, ¬ qG p → p ≠ 175 → p ≠ 176 → G' p i = G p i) (h6 : ∀ i, i < 103 → G' 176 i = G 176 i) (hG2 : ∀ i, i < 40 ∨ i = 56 ∨ i = 57 → G' 175 i = G 175 i) : lr F' G' nn L E C N R ∧ sF F F' ∧ sG G G' := by
  obtain ⟨h1, ⟨k1, k2, k3, k4⟩, ⟨m1, m2, m3⟩, ⟨x1, x2⟩, _, _⟩ := h
  have f3 : ∀ p i, 3 ≤ p → p ≤ 9 → F' p i = F p i := fun p i h h2 => hF p i (by unfold qF; omega)
  have g3 : ∀ p i, 177 ≤ p → p ≤ 185 → G' p i = G p i := fun p i h h2 => hG p i (by unfold qG; omega) (by omega) (by omega)
  have g9 := hG2 9 (Or.inl (by decide))
  have hL := h1.1.2.1
  have e2 : F' 2 13 = F 2 13 := hF 2 13 (by unfold qF; omega)
  have hsk := hs.now (F' := F') (G' := G') hL x1 rfl (fun p i h _ => hF p i h) hG ⟨hG2 56 (by decide), hG2 57 (by decide)⟩
  have hS := x1.1.1
  refine ⟨⟨h1, ⟨k1.eq f3, k2.eq f3, k3.eq f3, (f3 3 3 (by decide) (by decide)).trans k4⟩, ⟨m1.eq g9 g3, m2.eq g9 g3, by rw [g9, g3 180 _ (by decide) (by decide)]; exact m3⟩, ⟨hsk, ?_⟩, ha, hb⟩, fun p i hp => hF p i (by unfold qF; omega), ⟨fun p i hp => hG p i (by unfold qG; omega) (by omega) (by omega), fun i hi => hG2 i (Or.inl hi)⟩⟩
  rw [e2]
  refine sc_congr x2 hL (fun i _ => hF _ i ?_) (fun i _ => ⟨hF _ i ?_, hF _ i ?_, hF _ i ?_, hF _ i ?_⟩) (fun x hx => h6 x (by omega))
  all_goals (unfold qF; unfold S0 at hS; omega)
/-- the class has kept all but scratch -/
def kp (nn L : Nat) (E : Nat → Nat) (F0 F : fx_F) : Prop := (∀ p i, ¬ qF p → F p i = F0 p i) ∧ rcI F nn L E 24 ∧ rcI F nn L E 32
/-- the reference has; and with all put aside -/
def gk (G0 G : fx_F) : Prop := (∀ p i, ¬ qG p → p ≠ 175 → p ≠ 176 → G p i = G0 p i) ∧ (∀ i, i < 103 → G 176 i = G0 176 i) ∧ ∀ i, i < 40 ∨ i = 56 ∨ i = 57 → G 175 i = G0 175 i
def ga (G0 G : fx_F) : Prop := (∀ p i, ¬ qG p → p ≠ 175 → p ≠ 176 → G p i = G0 p i) ∧ (∀ i, i < 103 → G 199 i = G0 176 i) ∧ ∀ i, i < 40 ∨ i = 56 ∨ i = 57 → G 175 i = G0 175 i
theorem lr.kk (h : lr F G nn L E C N R) (hF : kp nn L E F F') (hG : gk G G') : lr F' G' nn L E C N R ∧ sF F F' ∧ sG G G' := h.fr2 hF.1 hF.2.1 hF.2.2 hG.1 hG.2.1 hG.2.2
theorem lr.kp (h : lr F G nn L E C N R) : kp nn L E F F := ⟨fun _ _ _ => rfl, h.2.2.2.2.1, h.2.2.2.2.2⟩
theorem kp.gx (h : kp nn L E F0 F1) {S : List Nat} (k : gxo S [] F1 F2) (hS : ∀ q ∈ S, qF q ∧ (q < 24 ∨ 30 ≤ q) ∧ (q < 32 ∨ 38 ≤ q)) : kp nn L E F0 F2 := by
  have k2 : ∀ p i, p ∉ S → F2 p i = F1 p i := fun p i hp => k p i hp (fun _ z => by cases z)
  exact ⟨fun p i hp => (k2 p i (fun z => hp (hS p z).1)).trans (h.1 p i hp), h.2.1.eq (fun t i ht => k2 _ i (fun z => by have := (hS _ z).2; omega)), h.2.2.eq (fun t i ht => k2 _ i (fun z => by have := (hS _ z).2; omega))⟩
theorem kp.cn (h0 : lr F0 G nn L E C N R) (h : kp nn L E F0 F1) : cn F1 nn L E ∧ ocl F1 nn L E ∧ cc F1 C N := by
  have f3 : ∀ p i, 3 ≤ p → p ≤ 9 → F1 p i = F0 p i := fun p i h3 h4 => h.1 p i (by unfold qF; omega)
  exact ⟨h0.2.1.1.eq f3, h0.2.1.2.1.eq f3, h0.2.1.2.2.1.eq f3⟩
theorem kp.now (h0 : lr F0 G nn L E C N R) (h : kp nn L E F0 F1) : F1 2 13 = F0 2 13 ∧ ∀ t i, t < 5 → F1 (F0 2 13 + t) i = F0 (F0 2 13 + t) i := by
  have hS : S0 (F0 2 13) := h0.2.2.2.1.1.1.1
  exact ⟨h.1 2 13 (by unfold qF; omega), fun t i ht => h.1 _ i (by unfold S0 at hS; unfold qF; omega)⟩
theorem kp.st (h0 : lr F0 G nn L E C N R) (h : kp nn L E F0 F1) : F1 (F1 2 13) 1 < 2147483648 ∧ F1 (F1 2 13) 2 < 2147483648 := by
  obtain ⟨e1, e2⟩ := h.now h0
  have hb := sc_lt h0.1.1 h0.2.2.2.1.2
  have f1 := e2 0 1 (by decide)
  have f2 := e2 0 2 (by decide)
  rw [Nat.add_zero] at f1 f2
  rw [e1, f1, f2]
  omega
theorem kp.see (h0 : lr F0 G nn L E C N R) (h : kp nn L E F0 F1) (hp : p = 24 ∨ p = 32) (ha : a < 2147483648) (hb : b < 2147483648) (hc : Cl k_Ro_see [(2, p), (0, a), (0, b)] F1 v F2) : kp nn L E F0 F2 := by
  have hcn := (h.cn h0).1
  rcases hp with rfl | rfl
  · obtain ⟨-, a2, a3, a4, a5⟩ := s_see2 h0.1.1 ha hb (by decide) hcn h.2.1.1 h.2.1.2 hc
    exact ⟨fun p i hp => (a2 p i (by unfold qF at hp; simp; omega)).trans (h.1 p i hp), ⟨a4, a5⟩, h.2.2.eq (fun t i ht => a2 _ i (by simp; omega))⟩
  · obtain ⟨-, a2, a3, a4, a5⟩ := s_see2 h0.1.1 ha hb (by decide) hcn h.2.2.1 h.2.2.2 hc
    exact ⟨fun p i hp => (a2 p i (by unfold qF at hp; simp; omega)).trans (h.1 p i hp), h.2.1.eq (fun t i ht => a2 _ i (by simp; omega)), ⟨a4, a5⟩⟩
theorem kp.tab (h0 : lr F0 G nn L E C N R) (h : kp nn L E F0 F1) (hp : p = 24 ∨ p = 32) (ha : a < 2147483648) (hb : b < 2147483648) (hc : Cl k_Ro_seeTable [(2, p), (0, a), (0, b)] F1 v F2) : kp nn L E F0 F2 := by
  obtain ⟨hcn, hol, -⟩ := h.cn h0
  rcases hp with rfl | rfl
  · obtain ⟨-, a2, a3, a4, a5, a6, a7⟩ := s_seeTable h0.1.1 ha hb (by decide) hcn hol h.2.1.1 h.2.1.2 hc
    exact ⟨fun p i hp => (a2 p i (by unfold qF at hp; simp; omega)).trans (h.1 p i hp), ⟨a6, a7⟩, h.2.2.eq (fun t i ht => a2 _ i (by simp; omega))⟩
  · obtain ⟨-, a2, a3, a4, a5, a6, a7⟩ := s_seeTable h0.1.1 ha hb (by decide) hcn hol h.2.2.1 h.2.2.2 hc
    exact ⟨fun p i hp => (a2 p i (by unfold qF at hp; simp; omega)).trans (h.1 p i hp), h.2.1.eq (fun t i ht => a2 _ i (by simp; omega)), ⟨a6, a7⟩⟩
theorem kp.up (h0 : lr F0 G nn L E C N R) (h : kp nn L E F0 F1) (hr : r < nn ∨ nn = 0) (hr2 : r < 10) (hc : Cl k_T_upEndsBy [(2, 2), (0, r)] F1 v F2) : kp nn L E F0 F2 ∧ ∃ x, v = (0, x) ∧ x < 2147483648 := by
  obtain ⟨hcn, -, hcc⟩ := h.cn h0
  obtain ⟨x, e1, e2, e3⟩ := s_upEndsBy h0.1.1 h0.1.2.1 h0.1.2.2.1 hr hr2 hcn hcc rfl (h.st h0).2 hc
  refine ⟨h.gx (S := [20, 21, 22, 23]) (fun p i hp _ => e3 p i hp) (by simp [qF]), x, e1, ?_⟩
  have := p20 h0.1.1.2.1 e2.1
  omega
theorem gk.rf : gk G G := ⟨fun _ _ _ _ _ => rfl, fun _ _ => rfl, fun _ _ => rfl⟩
theorem gk.tr (h : gk G0 G1) (h2 : gk G1 G2) : gk G0 G2 := ⟨fun p i a b c => (h2.1 p i a b c).trans (h.1 p i a b c), fun i hi => (h2.2.1 i hi).trans (h.2.1 i hi), fun i hi => (h2.2.2 i hi).trans (h.2.2 i hi)⟩
theorem ga.tr (h : ga G0 G1) (h2 : gk G1 G2) (h3 : ∀ i, i < 103 → G2 199 i = G1 199 i) : ga G0 G2 := ⟨fun p i a b c => (h2.1 p i a b c).trans (h.1 p i a b c), fun i hi => (h3 i hi).trans (h.2.1 i hi), fun i hi => (h2.2.2 i hi).trans (h.2.2 i hi)⟩
theorem gk.gx (h : gk G0 G1) {S T : List Nat} (k : gxo S T G1 G2) (hS : ∀ q ∈ S, qG q) (hT : ∀ i ∈ T, 40 ≤ i ∧ i ≠ 56 ∧ i ≠ 57) : gk G0 G2 := by
  refine ⟨fun p i a b c => (k p i (fun z => a (hS p z)) (fun z => absurd z b)).trans (h.1 p i a b c), fun i hi => (k 176 i (fun z => ?_) (fun z => by cases z)).trans (h.2.1 i hi), fun i hi => (k 175 i (fun z => ?_) (fun _ z => ?_)).trans (h.2.2 i hi)⟩
  · have := hS 176 z; unfold qG at this; omega
  · have := hS 175 z; unfold qG at this; omega
  · have := hT i z; omega
theorem ga.gx (h : ga G0 G1) {S T : List Nat} (k : gxo S T G1 G2) (hS : ∀ q ∈ S, (qG q ∧ q ≠ 199) ∨ q = 176) (hT : ∀ i ∈ T, 40 ≤ i ∧ i ≠ 56 ∧ i ≠ 57) : ga G0 G2 := by
  refine ⟨fun p i a b c => (k p i (fun z => ?_) (fun z => absurd z b)).trans (h.1 p i a b c), fun i hi => (k 199 i (fun z => ?_) (fun z => by cases z)).trans (h.2.1 i hi), fun i hi => (k 175 i (fun z => ?_) (fun _ z => ?_)).trans (h.2.2 i hi)⟩
  · rcases hS p z with y | y
    · exact a y.1
    · exact c y
  · rcases hS 199 z with y | y
    · exact y.2 rfl
    · cases y
  · rcases hS 175 z with y | y
    · have := y.1; unfold qG at this; omega
    · cases y
  · have := hT i z; omega
theorem s_putAside (h : Cl k_M_putAside [(2, 175)] G v G') : fxo [199] G G' ∧ ∀ i, i < 103 → G' 199 i = G 176 i := by
  obtain ⟨n, h⟩ := c_M_putAside h
  obtain ⟨m, hm2, hR⟩ := q_M_putAside_0 h
  have lp : ∀ (n : Nat) (F2 : fx_F) (l : Nat), Rn n k_M_putAside 2 [(2, 175), (0, l)] [] F2 v G' → l ≤ 103 → fxo [199] G F2 → (∀ i, i < l → F2 199 i = G 176 i) → fxo [199] G G' ∧ ∀ i, i < 103 → G' 199 i = G 176 i := by
    intro n
    induction n using Nat.strongRecOn with
    | ind n ih =>
      intro F2 l h hl ho hI
      have q := q_M_putAside_2 h
      rcases Nat.lt_or_ge l 103 with hlt | hge
      · obtain ⟨m, hm3, hR⟩ := q.2 (by rw [b_lt (by omega) (by omega)]; exact hlt)
        clear q
        rw [b_add (show l + 1 < 4294967296 by omega)] at hR
        refine ih m hm3 _ (l + 1) hR (by omega) (ho.wr (by decide)) (fun j hj => ?_)
        by_cases ej : j = l
        · subst ej; rw [fu_same, ho 176 _ (by decide)]
        · rw [fu_i ej]; exact hI j (by omega)
      · obtain ⟨-, e⟩ := q.1 (by rw [b_le (by omega) (by omega)]; exact hge)
        subst e
        exact ⟨ho, fun i hi => hI i (by omega)⟩
  exact lp m G 0 hR (Nat.zero_le _) fxo.rf (fun i hi => absurd hi (Nat.not_lt_zero _))
theorem s_bringBack (h : Cl k_M_bringBack [(2, 175)] G v G') : fxo [176] G G' ∧ ∀ i, i < 103 → G' 176 i = G 199 i := by
  obtain ⟨n, h⟩ := c_M_bringBack h
  obtain ⟨m, hm2, hR⟩ := q_M_bringBack_0 h
  have lp : ∀ (n : Nat) (F3 : fx_F) (l : Nat), Rn n k_M_bringBack 2 [(2, 175), (0, l)] [] F3 v G' → l ≤ 103 → fxo [176] G F3 → (∀ i, i < l → F3 176 i = G 199 i) → fxo [176] G G' ∧ ∀ i, i < 103 → G' 176 i = G 199 i := by
    intro n
    induction n using Nat.strongRecOn with
    | ind n ih =>
      intro F3 l h hl ho hI
      have q := q_M_bringBack_2 h
      rcases Nat.lt_or_ge l 103 with hlt | hge
      · obtain ⟨m, hm3, hR⟩ := q.2 (by rw [b_lt (by omega) (by omega)]; exact hlt)
        clear q
        rw [b_add (show l + 1 < 4294967296 by omega)] at hR
        refine ih m hm3 _ (l + 1) hR (by omega) (ho.wr (by decide)) (fun j hj => ?_)
        by_cases ej : j = l
        · subst ej; rw [fu_same, ho 199 _ (by decide)]
        · rw [fu_i ej]; exact hI j (by omega)
      · obtain ⟨-, e⟩ := q.1 (by rw [b_le (by omega) (by omega)]; exact hge)
        subst e
        exact ⟨ho, fun i hi => hI i (by omega)⟩
  exact lp m G 0 hR (Nat.zero_le _) fxo.rf (fun i hi => absurd hi (Nat.not_lt_zero _))
theorem gk.aside (h : gk G0 G1) (hc : Cl k_M_putAside [(2, 175)] G1 v G2) : ga G0 G2 := by
  obtain ⟨k1, k2⟩ := s_putAside hc
  exact ⟨fun p i a b c => (k1 p i (fun z => a (by unfold qG; simp at z; omega))).trans (h.1 p i a b c), fun i hi => (k2 i hi).trans (h.2.1 i hi), fun i hi => (k1 175 i (by decide)).trans (h.2.2 i hi)⟩
theorem ga.back (h : ga G0 G1) (hc : Cl k_M_bringBack [(2, 175)] G1 v G2) : gk G0 G2 := by
  obtain ⟨k1, k2⟩ := s_bringBack hc
  exact ⟨fun p i a b c => (k1 p i (fun z => c (by simpa using z))).trans (h.1 p i a b c), fun i hi => (k2 i hi).trans (h.2.1 i hi), fun i hi => (k1 175 i (by decide)).trans (h.2.2 i hi)⟩
theorem gk.wr {i x : Nat} (h : gk G0 G1) (hp : qG p) : gk G0 (fu G1 p i x) := h.gx (S := [p]) (T := []) (gxo.rf.wr List.mem_cons_self) (fun q hq => by rw [List.mem_singleton.mp hq]; exact hp) (fun i hi => by cases hi)
theorem gk.wrf {i x : Nat} (h : gk G0 G1) (hi : 40 ≤ i ∧ i ≠ 56 ∧ i ≠ 57) : gk G0 (fu G1 175 i x) := h.gx (S := []) (T := [i]) (gxo.rf.wrf List.mem_cons_self) (fun q hq => by cases hq) (fun j hj => by rw [List.mem_singleton.mp hj]; exact hi)
theorem ga.wr {i x : Nat} (h : ga G0 G1) (hp : (qG p ∧ p ≠ 199) ∨ p = 176) : ga G0 (fu G1 p i x) := h.gx (S := [p]) (T := []) (gxo.rf.wr List.mem_cons_self) (fun q hq => by rw [List.mem_singleton.mp hq]; exact hp) (fun i hi => by cases hi)
theorem ga.wrf {i x : Nat} (h : ga G0 G1) (hi : 40 ≤ i ∧ i ≠ 56 ∧ i ≠ 57) : ga G0 (fu G1 175 i x) := h.gx (S := []) (T := [i]) (gxo.rf.wrf List.mem_cons_self) (fun q hq => by cases hq) (fun j hj => by rw [List.mem_singleton.mp hj]; exact hi)
end KEEP
