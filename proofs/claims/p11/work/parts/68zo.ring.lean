/-! Rings on both sides -/
section RING
variable {nn L R N : Nat} {E C : Nat → Nat} {v v2 : fx_V} {F F' G G' : fx_F} {T : Nat → Nat → Prop} {st u : Nat → Bool}
theorem cnt_full {p : Nat → Bool} : ∀ {n : Nat}, n ≤ cnt p n → ∀ i, i < n → p i = true
  | 0, _, i, hi => absurd hi (Nat.not_lt_zero _)
  | n + 1, h, i, hi => by
    have hc := cnt_le p n
    have h : n + 1 ≤ cnt p n + (if p n then 1 else 0) := h
    cases hp : p n with
    | false => rw [hp, if_neg (by decide)] at h; omega
    | true =>
      rw [hp, if_pos rfl] at h
      by_cases e : i = n
      · subst e; exact hp
      · exact cnt_full (n := n) (by omega) i (by omega)
theorem s_ontoFrom (hN : nt_ok nn L E) (hT : ∀ c d, T c d → c < 2 * L ∧ d < 2 * L) {x : Nat} (hx : x < 2 ^ (2 * L)) (hc : cn F nn L E) (ho : ontos F L T (2 * L)) (h : Cl k_Tu_ontoFrom [(2, 45), (1, x)] F v F') : ∃ y, v = (1, y) ∧ F' = F ∧ y < 2 ^ (2 * L) ∧ ∀ e, y.testBit e = true ↔ ∃ i, x.testBit i = true ∧ T i e := by
  obtain ⟨n, h⟩ := c_Tu_ontoFrom h
  obtain ⟨m, hm2, hR⟩ := q_Tu_ontoFrom_0 h
  have hL := hN.2.1
  have hF : ∀ d, d < 2 * L → F 47 d < 2 ^ (2 * L) := fun d hd => tb_lt (fun i hi => (hT _ _ ((ho d hd i).mp hi)).2)
  have hx2 := p40 hL hx
  have lp : ∀ (n more d : Nat), Rn n k_Tu_ontoFrom 5 [(2, 45), (1, x), (3, 0), (1, more), (3, 0), (0, d)] [] F v F' → d ≤ 2 * L → (∀ e, more.testBit e = true ↔ ∃ i, i < d ∧ x.testBit i = true ∧ T i e) → ∃ y, v = (1, y) ∧ F' = F ∧ y < 2 ^ (2 * L) ∧ ∀ e, y.testBit e = true ↔ ∃ i, x.testBit i = true ∧ T i e := by
    intro n
    induction n using Nat.strongRecOn with
    | ind n ih =>
      intro more d h hd hI
      have hmb : more < 2 ^ (2 * L) := tb_lt (fun i hi => by obtain ⟨j, _, _, h3⟩ := (hI i).mp hi; exact (hT _ _ h3).2)
      have hm3 := p40 hL hmb
      have Q := q_Tu_ontoFrom_5 h
      rw [hc.2.1, b_mul (show 2 * L < 4294967296 by clear Q; omega)] at Q
      rcases Nat.lt_or_ge d (2 * L) with hl | hl
      · obtain ⟨Q1, Q2⟩ := Q.2 (by rw [b_lt (by clear Q; omega) (by clear Q; omega)]; exact hl)
        clear Q
        rw [b_add (show d + 1 < 4294967296 by clear Q1 Q2; omega)] at Q1 Q2
        have jb : rx_f_lcmp (rx_j_and (rx_j_shr x d) 1) 1 = 0 ↔ x.testBit d = true := j_bit (by clear Q1 Q2; omega) (by clear Q1 Q2; omega)
        by_cases hb : x.testBit d = true
        · obtain ⟨m, hm2, hR⟩ := Q2 (jb.mpr hb)
          clear Q1 Q2
          have hFd := p40 hL (hF d hl)
          rw [j_or (by omega) (by omega)] at hR
          exact ih m hm2 _ (d + 1) hR (by omega) (fun e => by
            rw [Nat.testBit_or, Bool.or_eq_true, hI e, ho d hl e]
            constructor
            · rintro (⟨i, h1, h2, h3⟩ | h1)
              · exact ⟨i, by omega, h2, h3⟩
              · exact ⟨d, by omega, hb, h1⟩
            · rintro ⟨i, h1, h2, h3⟩
              by_cases e2 : i = d
              · subst e2; exact Or.inr h3
              · exact Or.inl ⟨i, by omega, h2, h3⟩)
        · obtain ⟨m, hm2, hR⟩ := Q1 (fun z => hb (jb.mp z))
          clear Q1 Q2
          exact ih m hm2 more (d + 1) hR (by omega) (fun e => by
            rw [hI e]
            constructor
            · rintro ⟨i, h1, h2, h3⟩
              exact ⟨i, by omega, h2, h3⟩
            · rintro ⟨i, h1, h2, h3⟩
              by_cases e2 : i = d
              · subst e2; exact absurd h2 hb
              · exact ⟨i, by omega, h2, h3⟩)
      · obtain ⟨x1, x2⟩ := Q.1 (by rw [b_le (by clear Q; omega) (by clear Q; omega)]; exact hl)
        clear Q
        refine ⟨more, x1, x2, hmb, fun e => ?_⟩
        rw [hI e]
        constructor
        · rintro ⟨i, h1, h2, h3⟩; exact ⟨i, h2, h3⟩
        · rintro ⟨i, h2, h3⟩; exact ⟨i, by have := (hT _ _ h3).1; omega, h2, h3⟩
  exact lp m 0 0 hR (Nat.zero_le _) (fun e => by
    rw [Nat.zero_testBit]
    exact ⟨fun z => (by cases z), fun ⟨i, h1, _⟩ => absurd h1 (Nat.not_lt_zero _)⟩)
theorem s_shortRing (hN : nt_ok nn L E) (hT : ∀ c d, T c d → c < 2 * L ∧ d < 2 * L) (hnet : cn F nn L E) {c : Nat} (hc : c < 2 * L) (ht : ontos F L T (2 * L)) (h : Cl k_Tu_shortestRing [(2, 45), (0, c)] F v F') : F' = F ∧ ((∃ k, 1 ≤ k ∧ k ≤ 41 ∧ pm T k c c ∧ v = (0, k)) ∨ ((∀ k, ¬ pth T (k + 1) c c) ∧ v = (0, 4294967295))) := by
  obtain ⟨n, h⟩ := c_Tu_shortestRing h
  obtain ⟨m, hm2, hR⟩ := q_Tu_shortestRing_0 h
  have hL := hN.2.1
  have outer : ∀ (n seen now k : Nat), Rn n k_Tu_shortestRing 13 [(2, 45), (0, c), (1, seen), (3, 0), (1, now), (3, 0), (0, k)] [] F v F' → 1 ≤ k → seen < 2 ^ (2 * L) → (∀ d, now.testBit d = true ↔ pm T k c d) → (∀ d, seen.testBit d = true ↔ ∃ j, 1 ≤ j ∧ j < k ∧ pth T j c d) → (∀ j, 1 ≤ j → j < k → ¬ pth T j c c) → k - 1 ≤ cnt (fun i => seen.testBit i) (2 * L) → F' = F ∧ ((∃ k, 1 ≤ k ∧ k ≤ 41 ∧ pm T k c c ∧ v = (0, k)) ∨ ((∀ k, ¬ pth T (k + 1) c c) ∧ v = (0, 4294967295))) := by
    intro n
    induction n using Nat.strongRecOn with
    | ind n ih =>
      intro seen now k h hk hs hA hB hC hD
      have hcn := cnt_le (fun i => seen.testBit i) (2 * L)
      have hs2 := p40 hL hs
      have hnb : now < 2 ^ (2 * L) := tb_lt (fun i hi => by
        have h1 := ((hA i).mp hi).1
        rw [show k = k - 1 + 1 by omega] at h1
        obtain ⟨e, _, h3⟩ := pth_last h1
        exact (hT _ _ h3).2)
      have hn2 := p40 hL hnb
      have jz : rx_f_lcmp now 0 = 0 ↔ now = 0 := j_zero (by omega)
      have jb : rx_f_lcmp (rx_j_and (rx_j_shr now c) 1) 1 = 0 ↔ now.testBit c = true := j_bit (by omega) (by omega)
      have hk41 : k ≤ 40 := by
        rcases Nat.lt_or_ge 40 k with z | z
        · have hf := cnt_full (p := fun i => seen.testBit i) (n := 2 * L) (by omega) c hc
          obtain ⟨j, j1, j2, j3⟩ := (hB c).mp hf
          exact absurd j3 (hC j j1 j2)
        · exact z
      have q := (q_Tu_shortestRing_13 h).2 (by rw [b_le (by omega) (by decide)]; exact hk41)
      by_cases hz : now = 0
      · obtain ⟨e1, e2⟩ := q.1 (jz.mpr hz)
        refine ⟨e2, Or.inr ⟨fun i hp => ?_, e1⟩⟩
        obtain ⟨j, j1, j2, j3⟩ := pm_ex hp
        clear q
        rcases Nat.lt_or_ge j k with z | z
        · exact hC j j1 z j3.1
        · obtain ⟨e, he⟩ := pm_down hk z j3
          have := (hA e).mpr he
          rw [hz, Nat.zero_testBit] at this
          cases this
      · replace q := q.2 (fun z => hz (jz.mp z))
        by_cases hb : now.testBit c = true
        · obtain ⟨e1, e2⟩ := q.2 (jb.mpr hb)
          clear q
          exact ⟨e2, Or.inl ⟨k, hk, by omega, (hA c).mp hb, e1⟩⟩
        · obtain ⟨n1, F1, c1, m', mlt, r2⟩ := q.1 (fun z => hb (jb.mp z))
          clear q
          obtain ⟨mo, z1, z2, r3, r4⟩ := s_ontoFrom hN hT hnb hnet ht c1
          cases z1
          subst z2
          have hsn : seen ||| now < 2 ^ (2 * L) := Nat.or_lt_two_pow hs hnb
          have hsn2 := p40 hL hsn
          rw [j_or (by omega) (by omega), b_add (show k + 1 < 4294967296 by omega)] at r2
          have hmo := p40 hL r3
          obtain ⟨l1, l2⟩ := j_less (x := n1) (y := seen ||| now) (by omega) (by omega)
          have hB2 : ∀ d, (seen ||| now).testBit d = true ↔ ∃ j, 1 ≤ j ∧ j < k + 1 ∧ pth T j c d := by
            intro d
            rw [Nat.testBit_or, Bool.or_eq_true, hA d, hB d]
            constructor
            · rintro (⟨j, h1, h2, h3⟩ | h1)
              · exact ⟨j, h1, by omega, h3⟩
              · exact ⟨k, hk, by omega, h1.1⟩
            · rintro ⟨j, h1, h2, h3⟩
              by_cases hx : ∃ j, 1 ≤ j ∧ j < k ∧ pth T j c d
              · exact Or.inl hx
              · have : j = k := by
                  rcases Nat.lt_or_ge j k with z | z
                  · exact absurd ⟨j, h1, z, h3⟩ hx
                  · omega
                subst this
                exact Or.inr ⟨h3, fun i i1 i2 i3 => hx ⟨i, i1, i2, i3⟩⟩
          refine ih m' mlt _ _ (k + 1) r2 (by omega) hsn (fun d => ?_) hB2 (fun j h1 h2 h3 => ?_) ?_
          · rw [l2 d, Bool.and_eq_true, r4 d]
            constructor
            · rintro ⟨⟨i, h1, h2⟩, h3⟩
              refine ⟨pth_snoc ((hA i).mp h1).1 h2, fun j j1 j2 j3 => ?_⟩
              rw [(hB2 d).mpr ⟨j, j1, j2, j3⟩] at h3
              cases h3
            · intro hp
              obtain ⟨e, h1, h2⟩ := pth_last hp.1
              refine ⟨⟨e, (hA e).mpr ⟨h1, fun j j1 j2 j3 => hp.2 (j + 1) (by omega) (by omega) (pth_snoc j3 h2)⟩, h2⟩, ?_⟩
              cases hq : (seen ||| now).testBit d with
              | false => rfl
              | true =>
                obtain ⟨j, j1, j2, j3⟩ := (hB2 d).mp hq
                exact absurd j3 (hp.2 j j1 j2)
          · rcases Nat.lt_or_ge j k with z | z
            · exact hC j h1 z h3
            · have : j = k := by omega
              subst this
              exact hb ((hA c).mpr ⟨h3, hC⟩)
          · have hex : ∃ d, now.testBit d = true := by
              by_cases hy : ∃ d, now.testBit d = true
              · exact hy
              · refine absurd (tb_ext (fun i => ?_)) hz
                rw [Nat.zero_testBit]
                cases hq : now.testBit i with
                | false => rfl
                | true => exact absurd ⟨i, hq⟩ hy
            obtain ⟨d, hd⟩ := hex
            have hdl : d < 2 * L := by
              rcases Nat.lt_or_ge d (2 * L) with z | z
              · exact z
              · rw [tb_out hnb z] at hd; cases hd
            have := cnt_less (p := fun i => seen.testBit i) (q := fun i => (seen ||| now).testBit i) (n := 2 * L) (c := d) hdl (fun i _ hi => by
              show (seen ||| now).testBit i = true
              rw [Nat.testBit_or, show seen.testBit i = true from hi]; rfl) (by show (seen ||| now).testBit d = true; rw [Nat.testBit_or, hd, Bool.or_true]) (by
              show seen.testBit d = false
              cases hq : seen.testBit d with
              | false => rfl
              | true =>
                obtain ⟨j, j1, j2, j3⟩ := (hB d).mp hq
                exact absurd j3 (((hA d).mp hd).2 j j1 j2))
            omega
  refine outer m 0 (F 47 c) 1 hR (Nat.le_refl 1) (Nat.two_pow_pos _) (fun d => ?_) (fun d => ?_) (fun j h1 h2 => by omega) (Nat.zero_le _)
  · rw [ht c hc d]
    constructor
    · intro z
      exact ⟨⟨d, z, rfl⟩, fun j h1 h2 => by omega⟩
    · rintro ⟨⟨e, h1, h2⟩, _⟩
      rw [← show e = d from h2]; exact h1
  · rw [Nat.zero_testBit]
    exact ⟨fun z => (by cases z), fun ⟨j, h1, h2, _⟩ => by omega⟩
theorem s_layTurns (hN : nt_ok nn L E) (hI : mgi G nn L E st u) (h : Cl k_M_layTurns [(2, 175)] G v G') : v = (2, 0) ∧ fxo [192] G G' ∧ mtn G' L (trn L E st u) (2 * L) := by
  obtain ⟨n, h⟩ := c_M_layTurns h
  obtain ⟨m, hm2, hR⟩ := q_M_layTurns_0 h
  have hL := hN.2.1
  have kp : ∀ G2 : fx_F, fxo [192] G G2 → mgi G2 nn L E st u := fun G2 ho => hI.keep ho (by decide) (by decide) (by decide) (by decide) (by decide)
  have inner : ∀ (n : Nat) (G2 : fx_F) (c d : Nat), Rn n k_M_layTurns 19 [(2, 175), (0, c), (0, d)] [] G2 v G' → c < 2 * L → d ≤ 2 * L → fxo [192] G G2 → mtn G2 L (trn L E st u) c → (∀ j, (G2 192 c).testBit j = true ↔ j < d ∧ trn L E st u c j) → ∃ m G3, m < n ∧ Rn m k_M_layTurns 2 [(2, 175), (0, c + 1), (3, 0)] [] G3 v G' ∧ fxo [192] G G3 ∧ mtn G3 L (trn L E st u) (c + 1) := by
    intro n
    induction n using Nat.strongRecOn with
    | ind n ih =>
      intro G2 c d h hc hd ho hA hJ
      obtain ⟨km, ks, ku⟩ := kp G2 ho
      have Q := q_M_layTurns_19 h
      rw [km.2.2.1, b_mul (show 2 * L < 4294967296 by clear Q; omega)] at Q
      rcases Nat.lt_or_ge d (2 * L) with hl | hl
      · obtain ⟨n1, G3, c1, q1, q2⟩ := Q.2 (by rw [b_lt (by clear Q; omega) (by clear Q; omega)]; exact hl)
        clear Q
        rw [b_add (show d + 1 < 4294967296 by clear q1 q2; omega)] at q1 q2
        obtain ⟨a1, a2⟩ := s_isLawful (st := st) hN hc hl km ks ku c1
        subst a1
        rcases a2 with ⟨e, t⟩ | ⟨e, t⟩
        · cases e
          obtain ⟨m, hm, hR⟩ := q2 (by decide)
          clear q1 q2
          have hlt := p40 hL (show G3 192 c < 2 ^ (2 * L) from tb_lt (fun i hi => by have := ((hJ i).mp hi).1; omega))
          rw [j_add1 (by omega) (by omega)] at hR
          obtain ⟨m', G4, r1, r2⟩ := ih m hm _ c (d + 1) hR hc hl (ho.wr (by decide)) (fun c' hc' j => by rw [fu_i (by omega)]; exact hA c' hc' j) (fun j => by
            rw [fu_same, tb_or, Bool.or_eq_true, hJ j, decide_eq_true_iff]
            constructor
            · rintro (⟨h1, h2⟩ | h1)
              · exact ⟨by omega, h2⟩
              · subst h1; exact ⟨by omega, t⟩
            · rintro ⟨h1, h2⟩
              by_cases e : j = d
              · exact Or.inr e
              · exact Or.inl ⟨by omega, h2⟩)
          exact ⟨m', G4, by omega, r2⟩
        · cases e
          obtain ⟨m, hm, hR⟩ := q1 rfl
          clear q1 q2
          obtain ⟨m', G4, r1, r2⟩ := ih m hm _ c (d + 1) hR hc hl ho hA (fun j => by
            rw [hJ j]
            constructor
            · rintro ⟨h1, h2⟩; exact ⟨by omega, h2⟩
            · rintro ⟨h1, h2⟩
              refine ⟨?_, h2⟩
              by_cases e : j = d
              · subst e; exact absurd h2 t
              · omega)
          exact ⟨m', G4, by omega, r2⟩
      · obtain ⟨m, hm, hR⟩ := Q.1 (by rw [b_le (by clear Q; omega) (by clear Q; omega)]; exact hl)
        clear Q
        rw [b_add (show c + 1 < 4294967296 by omega)] at hR
        refine ⟨m, G2, hm, hR, ho, fun c' hc' j => ?_⟩
        by_cases e : c' = c
        · subst e
          rw [hJ j]
          exact ⟨fun z => z.2, fun z => ⟨by have := z.2.1; omega, z⟩⟩
        · exact hA c' (by omega) j
  have outer : ∀ (n : Nat) (G2 : fx_F) (c : Nat), Rn n k_M_layTurns 2 [(2, 175), (0, c), (3, 0)] [] G2 v G' → c ≤ 2 * L → fxo [192] G G2 → mtn G2 L (trn L E st u) c → v = (2, 0) ∧ fxo [192] G G' ∧ mtn G' L (trn L E st u) (2 * L) := by
    intro n
    induction n using Nat.strongRecOn with
    | ind n ih =>
      intro G2 c h hc ho hA
      obtain ⟨km, ks, ku⟩ := kp G2 ho
      have Q := q_M_layTurns_2 h
      rw [km.2.2.1, b_mul (show 2 * L < 4294967296 by clear Q; omega)] at Q
      rcases Nat.lt_or_ge c (2 * L) with hl | hl
      · obtain ⟨m, hm, hR⟩ := Q.2 (by rw [b_lt (by clear Q; omega) (by clear Q; omega)]; exact hl)
        clear Q
        obtain ⟨m', G3, r1, r2, r3, r4⟩ := inner m _ c 0 hR hl (Nat.zero_le _) (ho.wr (by decide)) (fun c' hc' j => by rw [fu_i (by omega)]; exact hA c' hc' j) (fun j => by
          rw [fu_same, Nat.zero_testBit]
          exact ⟨fun z => (by cases z), fun z => absurd z.1 (Nat.not_lt_zero _)⟩)
        exact ih m' (by omega) G3 (c + 1) r2 hl r3 r4
      · obtain ⟨x1, x2⟩ := Q.1 (by rw [b_le (by clear Q; omega) (by clear Q; omega)]; exact hl)
        clear Q
        have : c = 2 * L := by omega
        subst this
        subst x2
        exact ⟨x1, ho, hA⟩
  exact outer m G 0 hR (Nat.zero_le _) fxo.rf (fun c' hc' => absurd hc' (Nat.not_lt_zero _))
end RING
