section SPR
variable {nn L s r P b : Nat} {E : Nat → Nat} {v : fx_V} {F' : fx_F}
noncomputable def spI1 (nn L s r P b : Nat) (E : Nat → Nat) (k g : Nat) (F : fx_F) : Prop := (∀ u, u < nn → ((F P (b + u) ≠ 4294967295 → ds L E (fun l => s.testBit l) r (F P (b + u)) u ∧ F P (b + u) < k) ∧ ∀ d, d < k → ds L E (fun l => s.testBit l) r d u → F P (b + u) = d)) ∧ (g = 0 → ∀ u, ¬ ds L E (fun l => s.testBit l) r (k - 1) u)
noncomputable def spI2 (nn L s r P b : Nat) (E : Nat → Nat) (k c g : Nat) (F : fx_F) : Prop := (∀ u, u < nn → ((F P (b + u) ≠ 4294967295 → ds L E (fun l => s.testBit l) r (F P (b + u)) u ∧ F P (b + u) ≤ k) ∧ ∀ d, d < k → ds L E (fun l => s.testBit l) r d u → F P (b + u) = d)) ∧ (∀ c', c' < c → c' < 2 * L → s.testBit (c' / 2) = true → ds L E (fun l => s.testBit l) r (k - 1) (E c') → F P (b + E (nf c')) ≠ 4294967295) ∧ (g = 0 → ∀ u, u < nn → F P (b + u) ≠ k)
/-- outside of the row -/
noncomputable def spO (nn P b : Nat) (F F1 : fx_F) : Prop := fxo [P] F F1 ∧ ∀ j, (j < b ∨ b + nn ≤ j) → F1 P j = F P j
theorem spO.rf {F : fx_F} : spO nn P b F F := ⟨fxo.rf, fun _ _ => rfl⟩
theorem spO.tr {F F1 F2 : fx_F} (h : spO nn P b F F1) (h2 : spO nn P b F1 F2) : spO nn P b F F2 := ⟨h.1.tr h2.1, fun j hj => (h2.2 j hj).trans (h.2 j hj)⟩
theorem spO.wr {F : fx_F} {u x : Nat} (hu : u < nn) : spO nn P b F (fu F P (b + u) x) := ⟨fxo.rf.wr List.mem_cons_self, fun j hj => fu_i (by omega)⟩
theorem sp68 (hN : nt_ok nn L E) (hr : r < nn) (hs : s < 2147483648) (hb : b < 100000) (hP : P ≠ 3 ∧ P ≠ 4 ∧ P ≠ 5) {k : Nat} (hk1 : 1 ≤ k) (hk : k < nn) : ∀ (n : Nat) (F : fx_F) (c g : Nat), Rn n k_Gr_spread 68 [(2, 3), (0, s), (3, 0), (2, P), (0, b), (0, g), (0, k), (0, c), (3, 0), (3, 0)] [] F v F' → cn F nn L E → c ≤ 2 * L → spI2 nn L s r P b E k c g F → ∃ m g' F1, m < n ∧ Rn m k_Gr_spread 48 [(2, 3), (0, s), (3, 0), (2, P), (0, b), (0, g'), (0, k + 1), (3, 0), (3, 0), (3, 0)] [] F1 v F' ∧ spO nn P b F F1 ∧ spI1 nn L s r P b E (k + 1) g' F1 := by
  intro n
  induction n using Nat.strongRecOn with
  | ind n ih =>
    intro F c g h hc hcL hI
    have q := q_Gr_spread_68 h
    obtain ⟨c0, c1, c2⟩ := hc
    have hL := hN.2.1
    have hn := hN.1
    rw [c1, b_mul (by omega)] at q
    rcases Nat.lt_or_ge c (2 * L) with hl | hl
    · replace q := q.2 (by rw [b_lt (by omega) (by omega)]; exact hl)
      obtain ⟨e4, e5⟩ := c2 c hl
      have e4' : F (3 + 1) c = E c := e4
      have e5' : F (3 + 2) c = E (nf c) := e5
      have hE1 := (hN.2.2 c hl).1
      have hE2 := (hN.2.2 _ (nf_lt hl)).1
      rw [e4', e5', b_add (show b + E c < 4294967296 by omega), b_add (show b + E (nf c) < 4294967296 by omega), b_sub hk1 (by omega), b_bit hs (by omega), b_add (show c + 1 < 4294967296 by omega)] at q
      have go : ∀ (F2 : fx_F) (g2 : Nat), (∃ m, m < n ∧ Rn m k_Gr_spread 68 [(2, 3), (0, s), (3, 0), (2, P), (0, b), (0, g2), (0, k), (0, c + 1), (3, 0), (3, 0)] [] F2 v F') → spO nn P b F F2 → spI2 nn L s r P b E k (c + 1) g2 F2 → ∃ m g' F1, m < n ∧ Rn m k_Gr_spread 48 [(2, 3), (0, s), (3, 0), (2, P), (0, b), (0, g'), (0, k + 1), (3, 0), (3, 0), (3, 0)] [] F1 v F' ∧ spO nn P b F F1 ∧ spI1 nn L s r P b E (k + 1) g' F1 := by
        intro F2 g2 ⟨m, hm, hR⟩ hO hI2
        have hc2 : cn F2 nn L E := cn.keep ⟨c0, c1, c2⟩ hO.1 (fun z => hP.1 (List.mem_singleton.mp z).symm) (fun z => hP.2.1 (List.mem_singleton.mp z).symm) (fun z => hP.2.2 (List.mem_singleton.mp z).symm)
        obtain ⟨m', g', F1, h1, h2, h3, h4⟩ := ih m hm F2 (c + 1) g2 hR hc2 (by omega) hI2
        exact ⟨m', g', F1, by omega, h2, hO.tr h3, h4⟩
      obtain ⟨i1, i2, i3⟩ := hI
      -- nothing new
      have same : (s.testBit (c / 2) = true → ds L E (fun l => s.testBit l) r (k - 1) (E c) → F P (b + E (nf c)) ≠ 4294967295) → spI2 nn L s r P b E k (c + 1) g F := by
        intro hx
        refine ⟨i1, fun c' h1 h2 h3 h4 => ?_, i3⟩
        rcases Nat.lt_or_ge c' c with z | z
        · exact i2 c' z h2 h3 h4
        · have : c' = c := by omega
          subst this
          exact hx h3 h4
      by_cases g1 : F P (b + E c) = k - 1
      · replace q := q.2 g1
        by_cases g2 : F P (b + E (nf c)) = 4294967295
        · replace q := q.2 g2
          cases hb : s.testBit (c / 2) with
          | false =>
            rw [hb] at q
            exact go F g (q.1 (by decide)) spO.rf (same (fun z => by rw [hb] at z; cases z))
          | true =>
            rw [hb] at q
            have d1 : ds L E (fun l => s.testBit l) r (k - 1) (E c) := by
              have := ((i1 _ hE1).1 (by clear q; rw [g1]; omega)).1
              rw [g1] at this
              exact this
            have d2 : ds L E (fun l => s.testBit l) r k (E (nf c)) := by
              clear q
              refine ⟨?_, fun e he hw => ?_⟩
              · rw [show k = (k - 1) + 1 by omega]
                exact ⟨c, hl, hb, rfl, d1.1⟩
              · obtain ⟨e2, h1, h2⟩ := ds_ex hw
                have := (i1 _ hE2).2 e2 (by omega) h2
                rw [g2] at this
                omega
            refine go _ _ (q.2 rfl) (spO.wr hE2) ⟨fun u hu => ?_, fun c' h1 h2 h3 h4 => ?_, fun z => by cases z⟩
            · by_cases hu2 : u = E (nf c)
              · subst hu2
                rw [fu_same]
                exact ⟨fun _ => ⟨d2, Nat.le_refl k⟩, fun d hd hds => by have := ds_fun hds d2; omega⟩
              · rw [fu_i (by omega)]
                exact i1 u hu
            · by_cases hu2 : E (nf c') = E (nf c)
              · rw [hu2, fu_same]
                omega
              · rw [fu_i (by omega)]
                rcases Nat.lt_or_ge c' c with z | z
                · exact i2 c' z h2 h3 h4
                · have : c' = c := by omega
                  subst this
                  exact absurd rfl hu2
        · exact go F g (q.1 g2) spO.rf (same (fun _ _ => g2))
      · refine go F g (q.1 g1) spO.rf (same (fun hb hd => ?_))
        exact absurd ((i1 _ hE1).2 (k - 1) (by omega) hd) g1
    · replace q := q.1 (by rw [b_le (by omega) (by omega)]; exact hl)
      rw [b_add (show k + 1 < 4294967296 by omega)] at q
      obtain ⟨m, hm, hR⟩ := q
      obtain ⟨i1, i2, i3⟩ := hI
      have key : ∀ u, ds L E (fun l => s.testBit l) r k u → u < nn ∧ F P (b + u) = k := by
        intro u hd
        have hu : u < nn := ds_v hr (fun j hj => (hN.2.2 j hj).1) hd
        refine ⟨hu, ?_⟩
        have hd2 := hd
        rw [show k = (k - 1) + 1 by omega] at hd2
        obtain ⟨c', h1, h2, h3, h4⟩ := ds_pred hd2
        have := i2 c' (by omega) h1 h2 h4
        rw [h3] at this
        exact ds_fun ((i1 u hu).1 this).1 hd
      refine ⟨m, g, F, hm, hR, spO.rf, fun u hu => ⟨fun z => ?_, fun d hd hds => ?_⟩, fun z u hd => ?_⟩
      · obtain ⟨h1, h2⟩ := (i1 u hu).1 z
        exact ⟨h1, by omega⟩
      · rcases Nat.lt_or_ge d k with z | z
        · exact (i1 u hu).2 d z hds
        · have : d = k := by omega
          subst this
          exact (key u hds).2
      · rw [show k + 1 - 1 = k by omega] at hd
        exact i3 z u (key u hd).1 (key u hd).2
theorem sp48 (hN : nt_ok nn L E) (hr : r < nn) (hs : s < 2147483648) (hb : b < 100000) (hP : P ≠ 3 ∧ P ≠ 4 ∧ P ≠ 5) : ∀ (n : Nat) (F : fx_F) (k g : Nat), Rn n k_Gr_spread 48 [(2, 3), (0, s), (3, 0), (2, P), (0, b), (0, g), (0, k), (3, 0), (3, 0), (3, 0)] [] F v F' → cn F nn L E → 1 ≤ k → k ≤ nn → spI1 nn L s r P b E k g F → spO nn P b F F' ∧ c_far (fun u => F' P (b + u)) nn L E (fun l => s.testBit l) r := by
  intro n
  induction n using Nat.strongRecOn with
  | ind n ih =>
    intro F k g h hc hk1 hk hI
    have q := q_Gr_spread_48 h
    have hn := hN.1
    rw [hc.1] at q
    have fin : (∀ u, ¬ ds L E (fun l => s.testBit l) r k u) → F' = F → spO nn P b F F' ∧ c_far (fun u => F' P (b + u)) nn L E (fun l => s.testBit l) r := by
      intro hno e
      subst e
      refine ⟨spO.rf, fun u hu => ⟨fun z => ((hI.1 u hu).1 z).1, fun d hd => ?_⟩⟩
      rcases Nat.lt_or_ge d k with z | z
      · exact (hI.1 u hu).2 d z hd
      · exact absurd hd (ds_none hno d z u)
    rcases Nat.lt_or_ge k nn with hl | hl
    · replace q := q.2 (by rw [b_lt (by omega) (by omega)]; exact hl)
      by_cases hg : g = 0
      · refine fin (fun u hu => ?_) (q.1 hg).2
        obtain ⟨w, hw⟩ := ds_down hu (k - 1) (by omega)
        exact hI.2 hg w hw
      · obtain ⟨m, hm, hR⟩ := q.2 hg
        obtain ⟨m', g', F1, h1, h2, h3, h4⟩ := sp68 hN hr hs hb hP hk1 hl m F 0 0 hR hc (Nat.zero_le _) ⟨fun u hu => ⟨fun z => ⟨((hI.1 u hu).1 z).1, Nat.le_of_lt ((hI.1 u hu).1 z).2⟩, (hI.1 u hu).2⟩, fun c' z => absurd z (Nat.not_lt_zero _), fun _ u hu z => by
          have h1 := (hI.1 u hu).1 (by rw [z]; omega)
          omega⟩
        have hc2 : cn F1 nn L E := hc.keep h3.1 (fun z => hP.1 (List.mem_singleton.mp z).symm) (fun z => hP.2.1 (List.mem_singleton.mp z).symm) (fun z => hP.2.2 (List.mem_singleton.mp z).symm)
        obtain ⟨r1, r2⟩ := ih m' (by omega) F1 (k + 1) g' h2 hc2 (by omega) (by omega) h4
        exact ⟨h3.tr r1, r2⟩
    · refine fin (fun u hu => ?_) (q.1 (by rw [b_le (by omega) (by omega)]; exact hl)).2
      have := ds_lt hr (fun j hj => (hN.2.2 j hj).1) hu
      omega
theorem sp12 (hN : nt_ok nn L E) (hr : r < nn) (hs : s < 2147483648) (hb : b < 100000) (hP : P ≠ 3 ∧ P ≠ 4 ∧ P ≠ 5) : ∀ (n : Nat) (F : fx_F) (i : Nat), Rn n k_Gr_spread 12 [(2, 3), (0, s), (0, r), (2, P), (0, b), (0, i), (3, 0), (3, 0), (3, 0), (3, 0)] [] F v F' → cn F nn L E → i ≤ nn → (∀ u, u < i → F P (b + u) = 4294967295) → spO nn P b F F' ∧ c_far (fun u => F' P (b + u)) nn L E (fun l => s.testBit l) r := by
  intro n
  induction n using Nat.strongRecOn with
  | ind n ih =>
    intro F i h hc hi hI
    have q := q_Gr_spread_12 h
    have hn := hN.1
    rw [hc.1] at q
    have kp : ∀ F1, spO nn P b F F1 → cn F1 nn L E := fun F1 h3 => hc.keep h3.1 (fun z => hP.1 (List.mem_singleton.mp z).symm) (fun z => hP.2.1 (List.mem_singleton.mp z).symm) (fun z => hP.2.2 (List.mem_singleton.mp z).symm)
    rcases Nat.lt_or_ge i nn with hl | hl
    · obtain ⟨m, hm, hR⟩ := q.2 (by rw [b_lt (by omega) (by omega)]; exact hl)
      rw [b_add (show b + i < 4294967296 by omega), b_add (show i + 1 < 4294967296 by omega)] at hR
      obtain ⟨r1, r2⟩ := ih m hm _ (i + 1) hR (kp _ (spO.wr hl)) (by omega) (fun u hu => by
        by_cases hz : u = i
        · rw [hz, fu_same]
        · rw [fu_i (by omega)]
          exact hI u (by omega))
      exact ⟨(spO.wr hl).tr r1, r2⟩
    · obtain ⟨m, hm, hR⟩ := q.1 (by rw [b_le (by omega) (by omega)]; exact hl)
      rw [b_add (show b + r < 4294967296 by omega)] at hR
      have hI1 : spI1 nn L s r P b E 1 1 (fu F P (b + r) 0) := by
        refine ⟨fun u hu => ⟨fun z => ?_, fun d hd hds => ?_⟩, fun z => by cases z⟩
        · by_cases hz : u = r
          · rw [hz, fu_same]
            exact ⟨⟨rfl, fun e he => absurd he (Nat.not_lt_zero _)⟩, by decide⟩
          · rw [fu_i (by omega)] at z
            exact absurd (hI u (by omega)) z
        · have hd0 : d = 0 := by omega
          subst hd0
          have : u = r := hds.1
          rw [this, fu_same]
      obtain ⟨r1, r2⟩ := sp48 hN hr hs hb hP m _ 1 1 hR (kp _ (spO.wr hr)) (Nat.le_refl 1) (by omega) hI1
      exact ⟨(spO.wr hr).tr r1, r2⟩
/-- how far all switches are from one -/
theorem s_spread (hN : nt_ok nn L E) {F : fx_F} (hc : cn F nn L E) (hr : r < nn) (hs : s < 2147483648) (hb : b < 100000) (hP : P ≠ 3 ∧ P ≠ 4 ∧ P ≠ 5) (h : Cl k_Gr_spread [(2, 3), (0, s), (0, r), (2, P), (0, b)] F v F') : spO nn P b F F' ∧ c_far (fun u => F' P (b + u)) nn L E (fun l => s.testBit l) r := by
  obtain ⟨n, h⟩ := c_Gr_spread h
  have q := q_Gr_spread_0 h
  have hn := hN.1
  replace q := q.2 (by rw [b_le (by omega) (by omega)]; exact Nat.zero_le _)
  rw [hc.1] at q
  obtain ⟨m, hm, hR⟩ := q.2 (by rw [b_lt (by omega) (by omega)]; exact hr)
  exact sp12 hN hr hs hb hP m F 0 hR hc (Nat.zero_le _) (fun u hu => absurd hu (Nat.not_lt_zero _))
end SPR
