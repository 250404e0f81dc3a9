/-- FAR -/
noncomputable def fr (L : Nat) (E : Nat → Nat) (st : Nat → Bool) (r v : Nat) : Nat := @dite Nat (∃ d, ds L E st r d v) (Classical.propDecidable _) (fun h => h.choose) (fun _ => 10)
section RATE
variable {nn L s r : Nat} {E : Nat → Nat} {st : Nat → Bool} {v : fx_V} {F' : fx_F} {C : Nat → Nat} {N : Nat}
theorem fr_ds {d u : Nat} (h : ds L E st r d u) : fr L E st r u = d := by
  unfold fr
  rw [dif_pos ⟨d, h⟩]
  exact ds_fun (Exists.choose_spec (⟨d, h⟩ : ∃ d, ds L E st r d u)) h
theorem fr_no {u : Nat} (h : ∀ d, ¬ ds L E st r d u) : fr L E st r u = 10 := by
  unfold fr
  rw [dif_neg (fun ⟨d, hd⟩ => h d hd)]
theorem fr_le {u : Nat} (hN : nt_ok nn L E) (hr : r < nn) : fr L E st r u ≤ 10 := by
  by_cases h : ∃ d, ds L E st r d u
  · obtain ⟨d, hd⟩ := h
    rw [fr_ds hd]
    have := ds_lt hr (fun j hj => (hN.2.2 j hj).1) hd
    have := hN.1
    omega
  · rw [fr_no (fun d hd => h ⟨d, hd⟩)]
    exact Nat.le_refl _
theorem fr_lt {u : Nat} (hN : nt_ok nn L E) (hr : r < nn) (h : ∃ d, ds L E st r d u) : fr L E st r u < 10 := by
  obtain ⟨d, hd⟩ := h
  rw [fr_ds hd]
  have := ds_lt hr (fun j hj => (hN.2.2 j hj).1) hd
  have := hN.1
  omega
theorem rt21 (hN : nt_ok nn L E) (hC : cd_ok C N) (hC2 : N ≠ 0 → 0 < hgt C N) {fa dg : Nat → Nat} : ∀ (n : Nat) (F : fx_F) (i : Nat), Rn n k_Or_rate 21 [(2, 19), (3, 0), (3, 0), (0, i)] [] F v F' → F 3 0 = nn → cc F C N → i ≤ nn → (∀ u, u < nn → F 21 u = dg u) → (∀ u, u < i → F 20 u = fa u ∧ F 22 u = rk C N fa dg u) → (∀ u, i ≤ u → u < nn → (F 20 u = 4294967295 → fa u = 10) ∧ (F 20 u ≠ 4294967295 → fa u = F 20 u)) → fxo [20, 22, 23] F F' ∧ ∀ u, u < nn → F' 20 u = fa u ∧ F' 21 u = dg u ∧ F' 22 u = rk C N fa dg u := by
  intro n
  induction n using Nat.strongRecOn with
  | ind n ih =>
    intro F i h h0 hc hi hd hI hJ
    have q := q_Or_rate_21 h
    have hn := hN.1
    rw [h0, hc.1] at q
    rcases Nat.lt_or_ge i nn with hl | hl
    · replace q := q.2 (by rw [b_lt (by omega) (by omega)]; exact hl)
      rw [b_add (show i + 1 < 4294967296 by omega)] at q
      obtain ⟨j1, j2⟩ := hJ i (Nat.le_refl i) hl
      have go : ∀ (F2 : fx_F), (∃ m, m < n ∧ Rn m k_Or_rate 21 [(2, 19), (3, 0), (3, 0), (0, i + 1)] [] F2 v F') → fxo [20, 22, 23] F F2 → (∀ u, u ≠ i → F2 20 u = F 20 u ∧ F2 22 u = F 22 u) → F2 20 i = fa i → F2 22 i = rk C N fa dg i → fxo [20, 22, 23] F F' ∧ ∀ u, u < nn → F' 20 u = fa u ∧ F' 21 u = dg u ∧ F' 22 u = rk C N fa dg u := by
        intro F2 ⟨m, hm, hR⟩ ho hu h1 h2
        have e : ∀ q i, q ∉ [20, 22, 23] → F2 q i = F q i := ho
        obtain ⟨r1, r2⟩ := ih m hm F2 (i + 1) hR ((e 3 0 (by decide)).trans h0) ⟨(e 3 5 (by decide)).trans hc.1, fun j hj => by rw [e 8 j (by decide), e 9 j (by decide)]; exact hc.2 j hj⟩ (by omega) (fun u hu => (e 21 u (by decide)).trans (hd u hu)) (fun u hu2 => by
          by_cases hz : u = i
          · rw [hz]; exact ⟨h1, h2⟩
          · rw [(hu u hz).1, (hu u hz).2]; exact hI u (by omega)) (fun u hu2 hu3 => by
          rw [(hu u (by omega)).1]
          exact hJ u (by omega) hu3)
        exact ⟨ho.tr r1, r2⟩
      have ex : ∀ F1 : fx_F, F1 20 i = fa i → F1 21 i = dg i → ∀ x, (0 < hgt C N → x = (evk (F1 20 i) i (F1 21 i) C N).2 0) → N ≠ 0 → x = rk C N fa dg i := by
        intro F1 h1 h2 x hx hN0
        rw [hx (hC2 hN0), h1, h2]
        unfold rk
        rw [if_neg hN0]
      by_cases hf : F 20 i = 4294967295
      · replace q := q.2 hf
        have hfa := j1 hf
        by_cases hN0 : N = 0
        · replace q := q.2 hN0
          refine go _ q ((fxo.rf.wr (by decide)).wr (by decide)) (fun u hu => ?_) ?_ ?_
          · rw [fu_p (by decide), fu_i hu, fu_i hu, fu_p (by decide)]
            exact ⟨rfl, rfl⟩
          · rw [fu_p (by decide), fu_same, hfa]
          · rw [fu_same, fu_same]
            unfold rk
            rw [if_pos hN0, hfa]
        · obtain ⟨n1, F1, c1, q⟩ := q.1 hN0
          have cc1 : cc (fu F 20 i 10) C N := ⟨by rw [fu_p (by decide)]; exact hc.1, fun j hj => by rw [fu_p (by decide), fu_p (by decide)]; exact hc.2 j hj⟩
          obtain ⟨x, e1, e2, e3⟩ := s_evaluate hC (by omega) cc1 c1
          cases e1
          have o1 : ∀ q j, q ≠ 23 → F1 q j = fu F 20 i 10 q j := fun q j hq => e2 q j (fun z => hq (List.mem_singleton.mp z))
          have h20 : fu F 20 i 10 20 i = fa i := by rw [fu_same, hfa]
          have h21 : fu F 20 i 10 21 i = dg i := by rw [fu_p (by decide)]; exact hd i hl
          refine go _ q ((((fxo.rf.wr (by decide)).tr (e2.mono (by decide)))).wr (by decide)) (fun u hu => ?_) ?_ ?_
          · rw [fu_p (by decide), o1 20 u (by decide), fu_i hu, fu_i hu, o1 22 u (by decide), fu_p (by decide)]
            exact ⟨rfl, rfl⟩
          · rw [fu_p (by decide), o1 20 i (by decide)]; exact h20
          · rw [fu_same]; exact ex _ h20 h21 _ e3 hN0
      · replace q := q.1 hf
        have hfa := j2 hf
        by_cases hN0 : N = 0
        · replace q := q.2 hN0
          refine go _ q (fxo.rf.wr (by decide)) (fun u hu => ?_) ?_ ?_
          · rw [fu_p (by decide), fu_i hu]
            exact ⟨rfl, rfl⟩
          · rw [fu_p (by decide), hfa]
          · rw [fu_same]
            unfold rk
            rw [if_pos hN0, hfa]
        · obtain ⟨n1, F1, c1, q⟩ := q.1 hN0
          obtain ⟨x, e1, e2, e3⟩ := s_evaluate hC (by omega) hc c1
          cases e1
          have o1 : ∀ q j, q ≠ 23 → F1 q j = F q j := fun q j hq => e2 q j (fun z => hq (List.mem_singleton.mp z))
          refine go _ q ((e2.mono (by decide)).wr (by decide)) (fun u hu => ?_) ?_ ?_
          · rw [fu_p (by decide), o1 20 u (by decide), fu_i hu, o1 22 u (by decide)]
            exact ⟨rfl, rfl⟩
          · rw [fu_p (by decide), o1 20 i (by decide), hfa]
          · rw [fu_same]; exact ex _ hfa.symm (hd i hl) _ e3 hN0
    · obtain ⟨-, e⟩ := q.1 (by rw [b_le (by omega) (by omega)]; exact hl)
      subst e
      exact ⟨fxo.rf, fun u hu => ⟨(hI u (by omega)).1, hd u hu, (hI u (by omega)).2⟩⟩
/-- ranks -/
theorem s_rate (hN : nt_ok nn L E) (hC : cd_ok C N) (hC2 : N ≠ 0 → 0 < hgt C N) (hs : s < 2147483648) (hr : r < nn ∨ nn = 0) (hr2 : r < 10) {F : fx_F} (hc : cn F nn L E) (hcc : cc F C N) (h : Cl k_Or_rate [(2, 19), (0, r), (0, s)] F v F') : fxo [20, 21, 22, 23] F F' ∧ ∀ u, u < nn → F' 20 u = fr L E (fun l => s.testBit l) r u ∧ F' 21 u = dgc E (fun l => s.testBit l) u (2 * L) ∧ F' 22 u = rk C N (fr L E (fun l => s.testBit l) r) (fun u => dgc E (fun l => s.testBit l) u (2 * L)) u := by
  obtain ⟨n, h⟩ := c_Or_rate h
  obtain ⟨F1, c1, F2, c2, m, hm, hR⟩ := q_Or_rate_0 h
  obtain ⟨a1, a2⟩ := s_countLinks hN hs hc c1
  have hc1 : cn F1 nn L E := hc.keep a1 (by decide) (by decide) (by decide)
  have o1 : ∀ q j, q ≠ 21 → F1 q j = F q j := fun q j hq => a1 q j (fun z => hq (List.mem_singleton.mp z))
  have key : fxo [20] F1 F2 ∧ ∀ u, u < nn → (F2 20 u = 4294967295 → fr L E (fun l => s.testBit l) r u = 10) ∧ (F2 20 u ≠ 4294967295 → fr L E (fun l => s.testBit l) r u = F2 20 u) := by
    rcases hr with hr | hr
    · obtain ⟨b1, b2⟩ := s_spread hN hc1 hr hs (by decide) ⟨by decide, by decide, by decide⟩ c2
      refine ⟨b1.1, fun u hu => ?_⟩
      obtain ⟨d1, d2⟩ := b2 u hu
      have e0 : F2 20 (0 + u) = F2 20 u := by rw [Nat.zero_add]
      dsimp only at d1 d2
      rw [e0] at d1 d2
      refine ⟨fun z => fr_no (fun d hd => ?_), fun z => fr_ds (d1 z)⟩
      have e1 := d2 d hd
      have := ds_lt hr (fun j hj => (hN.2.2 j hj).1) hd
      have := hN.1
      omega
    · obtain ⟨n2, c2⟩ := c_Gr_spread c2
      have q := (q_Gr_spread_0 c2).2 (by rw [b_le (by decide) (by omega)]; exact Nat.zero_le _)
      rw [hc1.1] at q
      obtain ⟨-, e⟩ := q.1 (by rw [b_le (by omega) (by omega)]; omega)
      subst e
      exact ⟨fxo.rf, fun u hu => absurd hu (by omega)⟩
  obtain ⟨b1, b2⟩ := key
  have o2 : ∀ q j, q ≠ 20 → F2 q j = F1 q j := fun q j hq => b1 q j (fun z => hq (List.mem_singleton.mp z))
  obtain ⟨r1, r2⟩ := rt21 hN hC hC2 m F2 0 hR ((o2 3 0 (by decide)).trans hc1.1) ⟨(o2 3 5 (by decide)).trans ((o1 3 5 (by decide)).trans hcc.1), fun j hj => by rw [o2 8 j (by decide), o1 8 j (by decide), o2 9 j (by decide), o1 9 j (by decide)]; exact hcc.2 j hj⟩ (Nat.zero_le _) (fun u hu => (o2 21 u (by decide)).trans (a2 u hu)) (fun u hu => absurd hu (Nat.not_lt_zero _)) (fun u _ hu => b2 u hu)
  exact ⟨((a1.mono (by decide)).tr (b1.mono (by decide))).tr (r1.mono (by decide)), r2⟩
theorem tb_or {a l j : Nat} : (a ||| 2 ^ l).testBit j = (a.testBit j || decide (j = l)) := by
  rw [Nat.testBit_or, Nat.testBit_two_pow]
  by_cases h : l = j
  · rw [decide_eq_true h, decide_eq_true h.symm]
  · rw [decide_eq_false h, decide_eq_false (fun z => h z.symm)]
theorem up4 (hN : nt_ok nn L E) {R : Nat → Nat} : ∀ (n : Nat) (F : fx_F) (u l : Nat), Rn n k_Or_upEnds 4 [(2, 19), (0, u), (0, l)] [] F v F' → cn F nn L E → (∀ x, x < nn → F 22 x = R x) → l ≤ L → u < 2 ^ L → (∀ j, u.testBit j = true ↔ j < l ∧ abv R (E (2 * j + 1)) (E (2 * j))) → ∃ x, v = (0, x) ∧ F' = F ∧ x < 2 ^ L ∧ ∀ j, x.testBit j = true ↔ j < L ∧ abv R (E (2 * j + 1)) (E (2 * j)) := by
  intro n
  induction n using Nat.strongRecOn with
  | ind n ih =>
    intro F u l h hc hR hl hu hI
    have q := q_Or_upEnds_4 h
    have hL := hN.2.1
    have hn := hN.1
    rw [hc.2.1] at q
    rcases Nat.lt_or_ge l L with hlt | hlt
    · replace q := q.2 (by rw [b_lt (by omega) (by omega)]; exact hlt)
      obtain ⟨c1, c2⟩ := hc.2.2 (2 * l) (by omega)
      have nf2 : nf (2 * l) = 2 * l + 1 := by unfold nf; rw [if_pos (by omega)]
      rw [nf2] at c2
      have e1 := (hN.2.2 (2 * l) (by omega)).1
      have e2 := (hN.2.2 (2 * l + 1) (by omega)).1
      have p20 : 2 ^ L ≤ 2 ^ 20 := Nat.pow_le_pow_right (by decide) hL
      have pl : 2 ^ l < 2 ^ L := Nat.pow_lt_pow_right (by decide) hlt
      rw [b_mul (show 2 * l < 4294967296 by omega), c1, c2, hR _ e1, hR _ e2, b_add (show l + 1 < 4294967296 by omega), b_shl1 (show l < 32 by omega), b_or (k := L) (by omega) hu pl] at q
      have yes : abv R (E (2 * l + 1)) (E (2 * l)) → (∃ m, m < n ∧ Rn m k_Or_upEnds 4 [(2, 19), (0, u ||| 2 ^ l), (0, l + 1)] [] F v F') → ∃ x, v = (0, x) ∧ F' = F ∧ x < 2 ^ L ∧ ∀ j, x.testBit j = true ↔ j < L ∧ abv R (E (2 * j + 1)) (E (2 * j)) := by
        intro ha ⟨m, hm, hq⟩
        refine ih m hm F _ (l + 1) hq hc hR (by omega) (Nat.or_lt_two_pow hu pl) (fun j => ?_)
        rw [tb_or, Bool.or_eq_true, hI j, decide_eq_true_iff]
        constructor
        · rintro (⟨z, z2⟩ | z)
          · exact ⟨by omega, z2⟩
          · rw [z]; exact ⟨by omega, ha⟩
        · rintro ⟨z, z2⟩
          by_cases hz : j = l
          · exact Or.inr hz
          · exact Or.inl ⟨by omega, z2⟩
      have no : ¬ abv R (E (2 * l + 1)) (E (2 * l)) → (∃ m, m < n ∧ Rn m k_Or_upEnds 4 [(2, 19), (0, u), (0, l + 1)] [] F v F') → ∃ x, v = (0, x) ∧ F' = F ∧ x < 2 ^ L ∧ ∀ j, x.testBit j = true ↔ j < L ∧ abv R (E (2 * j + 1)) (E (2 * j)) := by
        intro ha ⟨m, hm, hq⟩
        refine ih m hm F _ (l + 1) hq hc hR (by omega) hu (fun j => ?_)
        rw [hI j]
        constructor
        · rintro ⟨z, z2⟩
          exact ⟨by omega, z2⟩
        · rintro ⟨z, z2⟩
          refine ⟨?_, z2⟩
          rcases Nat.lt_or_ge j l with z3 | z3
          · exact z3
          · have : j = l := by omega
            subst this
            exact absurd z2 ha
      have tri : ∀ a b, ¬ s_lt a b → s_le b a := by
        intro a b z
        rw [s_lt_eq] at z
        rw [s_le_eq]
        exact Nat.le_of_not_lt z
      by_cases h1 : s_lt (R (E (2 * l + 1))) (R (E (2 * l)))
      · exact yes (Or.inl h1) (q.1 h1)
      · replace q := q.2 (tri _ _ h1)
        by_cases h2 : R (E (2 * l + 1)) = R (E (2 * l))
        · replace q := q.2 h2
          rcases Nat.lt_or_ge (E (2 * l + 1)) (E (2 * l)) with h3 | h3
          · exact yes (Or.inr ⟨h2, h3⟩) (q.2 (by rw [b_lt (by omega) (by omega)]; exact h3))
          · refine no (fun z => ?_) (q.1 (by rw [b_le (by omega) (by omega)]; exact h3))
            rcases z with z | ⟨_, z⟩
            · exact h1 z
            · omega
        · refine no (fun z => ?_) (q.1 h2)
          rcases z with z | ⟨z, _⟩
          · exact h1 z
          · exact h2 z
    · obtain ⟨e1, e2⟩ := q.1 (by rw [b_le (by omega) (by omega)]; exact hlt)
      have : l = L := by omega
      subst this
      exact ⟨u, e1, e2, hu, hI⟩
/-- the up ends, as bits -/
theorem s_upEnds (hN : nt_ok nn L E) {R : Nat → Nat} {F : fx_F} (hc : cn F nn L E) (hR : ∀ x, x < nn → F 22 x = R x) (h : Cl k_Or_upEnds [(2, 19)] F v F') : ∃ x, v = (0, x) ∧ F' = F ∧ x < 2 ^ L ∧ ∀ j, x.testBit j = true ↔ j < L ∧ abv R (E (2 * j + 1)) (E (2 * j)) := by
  obtain ⟨n, h⟩ := c_Or_upEnds h
  obtain ⟨m, hm, hq⟩ := q_Or_upEnds_0 h
  exact up4 hN m F 0 0 hq hc hR (Nat.zero_le _) (Nat.two_pow_pos L) (fun j => by rw [Nat.zero_testBit]; exact ⟨fun z => (by cases z), fun z => absurd z.1 (Nat.not_lt_zero _)⟩)
end RATE
