/-! Turns and rings -/
/-- whether a channel is UP, where u says of which links the second end is the upper one -/
def isup (u : Nat → Bool) (c : Nat) : Bool := if c % 2 = 0 then u (c / 2) else !(u (c / 2))
/-- a lawful turn -/
def trn (L : Nat) (E : Nat → Nat) (st u : Nat → Bool) (c d : Nat) : Prop := c < 2 * L ∧ d < 2 * L ∧ c / 2 ≠ d / 2 ∧ st (c / 2) = true ∧ st (d / 2) = true ∧ E (nf c) = E d ∧ (isup u c = true ∨ isup u d = false)
section TU
variable {nn L s : Nat} {E : Nat → Nat} {v : fx_V} {F' : fx_F}
theorem i_xor1 {c : Nat} (h : c < 64) : i_xor c 1 = nf c := by
  have h2 : ∀ c, c < 64 → c ^^^ 1 = nf c := by decide
  rw [b_xor (k := 6) (by decide) h (by decide)]
  exact h2 c h
theorem p40 {x L : Nat} (hL : L ≤ 20) (h : x < 2 ^ (2 * L)) : x < 1099511627776 := Nat.lt_of_lt_of_le h (show 2 ^ (2 * L) ≤ 2 ^ 40 from Nat.pow_le_pow_right (by decide) (by omega))
theorem cn.wr {n : Nat} {F : fx_F} (h : cn F n L E) {p i x : Nat} (h3 : p ≠ 3) (h4 : p ≠ 4) (h5 : p ≠ 5) : cn (fu F p i x) n L E :=
  ⟨(fu_p (fun z => h3 z.symm)).trans h.1, (fu_p (fun z => h3 z.symm)).trans h.2.1, fun c hc => ⟨(fu_p (fun z => h4 z.symm)).trans (h.2.2 c hc).1, (fu_p (fun z => h5 z.symm)).trans (h.2.2 c hc).2⟩⟩
theorem s_upChannels (hN : nt_ok nn L E) {u : Nat} (hu : u < 2147483648) {F : fx_F} (hc : cn F nn L E) (h : Cl k_Tu_upChannels [(2, 45), (0, u)] F v F') : ∃ x, v = (1, x) ∧ F' = F ∧ x < 2 ^ (2 * L) ∧ ∀ j, x.testBit j = true ↔ j < 2 * L ∧ isup (fun l => u.testBit l) j = true := by
  obtain ⟨n, h⟩ := c_Tu_upChannels h
  obtain ⟨m, hm, hR⟩ := q_Tu_upChannels_0 h
  have hL := hN.2.1
  have lp : ∀ (n c x : Nat), Rn n k_Tu_upChannels 5 [(2, 45), (0, u), (1, x), (3, 0), (0, c)] [] F v F' → c ≤ 2 * L → (∀ j, x.testBit j = true ↔ j < c ∧ isup (fun l => u.testBit l) j = true) → ∃ x, v = (1, x) ∧ F' = F ∧ x < 2 ^ (2 * L) ∧ ∀ j, x.testBit j = true ↔ j < 2 * L ∧ isup (fun l => u.testBit l) j = true := by
    intro n
    induction n using Nat.strongRecOn with
    | ind n ih =>
      intro c x h hcL hI
      have q := q_Tu_upChannels_5 h
      have hx : x < 2 ^ (2 * L) := tb_lt (fun i hi => by have := ((hI i).mp hi).1; omega)
      have hx2 := p40 hL hx
      rw [hc.2.1, b_mul (by omega)] at q
      rcases Nat.lt_or_ge c (2 * L) with hl | hl
      · replace q := q.2 (by rw [b_lt (by omega) (by omega)]; exact hl)
        rw [b_bit hu (by omega), b_and1, b_add (show c + 1 < 4294967296 by omega), j_add1 (by omega) (by omega)] at q
        have iu : isup (fun l => u.testBit l) c = (if c % 2 = 0 then u.testBit (c / 2) else !(u.testBit (c / 2))) := rfl
        by_cases hz : isup (fun l => u.testBit l) c = true
        · have hne : (if u.testBit (c / 2) then 1 else 0) ≠ c % 2 := by
            rw [iu] at hz
            intro z
            cases hb : u.testBit (c / 2) <;> rw [hb] at z hz
            · replace z : 0 = c % 2 := z
              rw [if_pos z.symm] at hz
              cases hz
            · replace z : 1 = c % 2 := z
              rw [if_neg (by omega)] at hz
              cases hz
          obtain ⟨m, hm, hR⟩ := q.2 hne
          refine ih m hm (c + 1) _ hR (by omega) (fun j => ?_)
          rw [tb_or, Bool.or_eq_true, hI j, decide_eq_true_iff]
          constructor
          · rintro (⟨a, b⟩ | a)
            · exact ⟨by omega, b⟩
            · rw [a]; exact ⟨by omega, hz⟩
          · rintro ⟨a, b⟩
            by_cases e : j = c
            · exact Or.inr e
            · exact Or.inl ⟨by omega, b⟩
        · have heq : (if u.testBit (c / 2) then 1 else 0) = c % 2 := by
            rw [iu] at hz
            rcases Nat.mod_two_eq_zero_or_one c with z | z
            · rw [if_pos z] at hz
              rw [z, if_neg hz]
            · rw [if_neg (by omega)] at hz
              cases hb : u.testBit (c / 2)
              · rw [hb] at hz; exact absurd rfl hz
              · rw [z]; rfl
          obtain ⟨m, hm, hR⟩ := q.1 heq
          refine ih m hm (c + 1) x hR (by omega) (fun j => ?_)
          rw [hI j]
          constructor
          · rintro ⟨a, b⟩
            exact ⟨by omega, b⟩
          · rintro ⟨a, b⟩
            refine ⟨?_, b⟩
            by_cases e : j = c
            · rw [e] at b; exact absurd b hz
            · omega
      · obtain ⟨e1, e2⟩ := q.1 (by rw [b_le (by omega) (by omega)]; exact hl)
        have : c = 2 * L := by omega
        subst this
        exact ⟨x, e1, e2, hx, hI⟩
  exact lp m 0 0 hR (Nat.zero_le _) (fun j => by rw [Nat.zero_testBit]; exact ⟨fun z => (by cases z), fun z => absurd z.1 (Nat.not_lt_zero _)⟩)
/-- the channels that stand and leave each switch, as bits -/
def lvg (F : fx_F) (n L : Nat) (E : Nat → Nat) (st : Nat → Bool) (k : Nat) : Prop := ∀ x, x < n → ∀ j, (F 46 x).testBit j = true ↔ j < k ∧ j < 2 * L ∧ st (j / 2) = true ∧ E j = x
theorem s_lawful (hN : nt_ok nn L E) {st : Nat → Bool} {c ups : Nat} {u : Nat → Bool} {F : fx_F} (hc : cn F nn L E) (hl : lvg F nn L E st (2 * L)) (hcl : c < 2 * L) (hst : st (c / 2) = true) (hup : ups < 2 ^ (2 * L)) (hu : ∀ j, ups.testBit j = true ↔ j < 2 * L ∧ isup u j = true) (h : Cl k_Tu_lawful [(2, 45), (0, c), (1, ups)] F v F') : ∃ x, v = (1, x) ∧ F' = F ∧ ∀ j, x.testBit j = true ↔ trn L E st u c j := by
  obtain ⟨n, h⟩ := c_Tu_lawful h
  have q := q_Tu_lawful_0 h
  have hL := hN.2.1
  have hE := (hN.2.2 _ (nf_lt hcl)).1
  have hup2 := p40 hL hup
  have hlt : F 46 (E (nf c)) < 2 ^ (2 * L) := tb_lt (fun i hi => ((hl _ hE i).mp hi).2.1)
  have hlt2 := p40 hL hlt
  have hsh : rx_j_shl 1 (nf c) < 18446744073709551616 := by
    rw [j_shl1 (by have := nf_lt hcl; omega)]
    exact (show 2 ^ nf c < 2 ^ 64 from Nat.pow_lt_pow_right (by decide) (by have := nf_lt hcl; omega))
  rw [(hc.2.2 c hcl).2, i_xor1 (by omega)] at q
  obtain ⟨a1, a2⟩ := j_less (x := F 46 (E (nf c))) (y := rx_j_shl 1 (nf c)) (by omega) hsh
  have b1 : ∀ j, (rx_j_and (F 46 (E (nf c))) (rx_j_xor (rx_j_shl 1 (nf c)) 18446744073709551615)).testBit j = true ↔ j < 2 * L ∧ st (j / 2) = true ∧ E j = E (nf c) ∧ j / 2 ≠ c / 2 := by
    intro j
    rw [a2 j, Bool.and_eq_true, hl _ hE j, j_shl1 (by have := nf_lt hcl; omega), Nat.testBit_two_pow]
    constructor
    · rintro ⟨⟨_, x1, x2, x3⟩, x4⟩
      refine ⟨x1, x2, x3, fun z => ?_⟩
      have hj : j = c ∨ j = nf c := by unfold nf; split <;> omega
      rcases hj with e | e
      · subst e
        exact (hN.2.2 j hcl).2 x3
      · rw [e, decide_eq_true rfl] at x4
        cases x4
    · rintro ⟨x1, x2, x3, x4⟩
      refine ⟨⟨x1, x1, x2, x3⟩, ?_⟩
      rw [decide_eq_false (fun z => x4 (by rw [← z, nf_div]))]
      rfl
  have hb : rx_f_lcmp (rx_j_and (rx_j_shr ups c) 1) 1 = 0 ↔ isup u c = true := by
    rw [j_bit (by omega) (by omega), hu c]
    exact ⟨fun z => z.2, fun z => ⟨hcl, z⟩⟩
  by_cases hz : isup u c = true
  · obtain ⟨e1, e2⟩ := q.2 (hb.mpr hz)
    refine ⟨_, e1, e2, fun j => ?_⟩
    rw [b1 j]
    unfold trn
    exact ⟨fun ⟨x1, x2, x3, x4⟩ => ⟨hcl, x1, fun z => x4 z.symm, hst, x2, x3.symm, Or.inl hz⟩, fun ⟨_, x1, x2, _, x4, x5, _⟩ => ⟨x1, x4, x5.symm, fun z => x2 z.symm⟩⟩
  · obtain ⟨e1, e2⟩ := q.1 (fun z => hz (hb.mp z))
    refine ⟨_, e1, e2, fun j => ?_⟩
    obtain ⟨d1, d2⟩ := j_less (x := rx_j_and (F 46 (E (nf c))) (rx_j_xor (rx_j_shl 1 (nf c)) 18446744073709551615)) (y := ups) (by omega) (by omega)
    rw [d2 j, Bool.and_eq_true, b1 j]
    unfold trn
    constructor
    · rintro ⟨⟨x1, x2, x3, x4⟩, x5⟩
      refine ⟨hcl, x1, fun z => x4 z.symm, hst, x2, x3.symm, Or.inr ?_⟩
      cases hq : isup u j with
      | false => rfl
      | true => rw [(hu j).mpr ⟨x1, hq⟩] at x5; cases x5
    · rintro ⟨_, x1, x2, _, x4, x5, x6⟩
      refine ⟨⟨x1, x4, x5.symm, fun z => x2 z.symm⟩, ?_⟩
      rcases x6 with x6 | x6
      · exact absurd x6 hz
      · cases hq : ups.testBit j with
        | false => rfl
        | true => rw [((hu j).mp hq).2] at x6; cases x6
/-- turns by one or the other of two sets of rules, as bits -/
def ontos (F : fx_F) (L : Nat) (T : Nat → Nat → Prop) (k : Nat) : Prop := ∀ c, c < k → ∀ j, (F 47 c).testBit j = true ↔ T c j
theorem s_take (hN : nt_ok nn L E) {a b : Nat} (ha : a < 2147483648) (hb : b < 2147483648) (hs : s < 2147483648) {F : fx_F} (hc : cn F nn L E) (h : Cl k_Tu_take [(2, 45), (0, a), (0, b), (0, s)] F v F') : fxo [46, 47] F F' ∧ ontos F' L (fun c d => trn L E (fun l => s.testBit l) (fun l => a.testBit l) c d ∨ trn L E (fun l => s.testBit l) (fun l => b.testBit l) c d) (2 * L) := by
  obtain ⟨n, h⟩ := c_Tu_take h
  obtain ⟨m, hm, hR⟩ := q_Tu_take_0 h
  have hL := hN.2.1
  have hn := hN.1
  have lp3 : ∀ (n : Nat) (F : fx_F) (c ua ub : Nat), Rn n k_Tu_take 101 [(2, 45), (3, 0), (3, 0), (0, s), (1, ua), (3, 0), (1, ub), (3, 0), (0, c)] [] F v F' → cn F nn L E → c ≤ 2 * L → lvg F nn L E (fun l => s.testBit l) (2 * L) → (ua < 2 ^ (2 * L) ∧ ∀ j, ua.testBit j = true ↔ j < 2 * L ∧ isup (fun l => a.testBit l) j = true) → (ub < 2 ^ (2 * L) ∧ ∀ j, ub.testBit j = true ↔ j < 2 * L ∧ isup (fun l => b.testBit l) j = true) → ontos F L (fun c d => trn L E (fun l => s.testBit l) (fun l => a.testBit l) c d ∨ trn L E (fun l => s.testBit l) (fun l => b.testBit l) c d) c → fxo [46, 47] F F' ∧ ontos F' L (fun c d => trn L E (fun l => s.testBit l) (fun l => a.testBit l) c d ∨ trn L E (fun l => s.testBit l) (fun l => b.testBit l) c d) (2 * L) := by
    intro n
    induction n using Nat.strongRecOn with
    | ind n ih =>
      intro F c ua ub h hc hcL hlv hua hub hI
      have q := q_Tu_take_101 h
      rw [hc.2.1, b_mul (by omega)] at q
      rcases Nat.lt_or_ge c (2 * L) with hl | hl
      · replace q := q.2 (by rw [b_lt (by omega) (by omega)]; exact hl)
        rw [b_bit hs (by omega), b_add (show c + 1 < 4294967296 by omega)] at q
        have go : ∀ x, (∃ m, m < n ∧ Rn m k_Tu_take 101 [(2, 45), (3, 0), (3, 0), (0, s), (1, ua), (3, 0), (1, ub), (3, 0), (0, c + 1)] [] (fu F 47 c x) v F') → (∀ j, x.testBit j = true ↔ trn L E (fun l => s.testBit l) (fun l => a.testBit l) c j ∨ trn L E (fun l => s.testBit l) (fun l => b.testBit l) c j) → fxo [46, 47] F F' ∧ ontos F' L (fun c d => trn L E (fun l => s.testBit l) (fun l => a.testBit l) c d ∨ trn L E (fun l => s.testBit l) (fun l => b.testBit l) c d) (2 * L) := by
          intro x ⟨m, hm, hR⟩ hx
          obtain ⟨r1, r2⟩ := ih m hm _ (c + 1) ua ub hR (hc.wr (by decide) (by decide) (by decide)) (by omega) (fun x hx j => by rw [fu_p (by decide)]; exact hlv x hx j) hua hub (fun c' hc' j => by
            by_cases e : c' = c
            · subst e; rw [fu_same]; exact hx j
            · rw [fu_i e]; exact hI c' (by omega) j)
          exact ⟨(fxo.rf.wr (by decide)).tr r1, r2⟩
        cases hb : s.testBit (c / 2) with
        | false =>
          rw [hb] at q
          refine go 0 (q.1 (by decide)) (fun j => ?_)
          rw [Nat.zero_testBit]
          refine ⟨fun z => (by cases z), fun z => ?_⟩
          rcases z with z | z
          · have : s.testBit (c / 2) = true := z.2.2.2.1
            rw [hb] at this; cases this
          · have : s.testBit (c / 2) = true := z.2.2.2.1
            rw [hb] at this; cases this
        | true =>
          rw [hb] at q
          obtain ⟨n1, F1, c1, n2, F2, c2, q2⟩ := q.2 rfl
          obtain ⟨x1, e1, e2, e3⟩ := s_lawful hN hc hlv hl hb hua.1 hua.2 c1
          cases e1
          subst e2
          obtain ⟨x2, f1, f2, f3⟩ := s_lawful hN hc hlv hl hb hub.1 hub.2 c2
          cases f1
          subst f2
          have l1 := p40 hL (tb_lt (fun i hi => ((e3 i).mp hi).2.1))
          have l2 := p40 hL (tb_lt (fun i hi => ((f3 i).mp hi).2.1))
          refine go _ q2 (fun j => ?_)
          rw [j_or (by omega) (by omega), Nat.testBit_or, Bool.or_eq_true, e3 j, f3 j]
      · obtain ⟨-, e⟩ := q.1 (by rw [b_le (by omega) (by omega)]; exact hl)
        subst e
        have : c = 2 * L := by omega
        subst this
        exact ⟨fxo.rf, hI⟩
  have lp2 : ∀ (n : Nat) (F : fx_F) (c : Nat), Rn n k_Tu_take 32 [(2, 45), (0, a), (0, b), (0, s), (0, c), (3, 0), (3, 0), (3, 0), (3, 0)] [] F v F' → cn F nn L E → c ≤ 2 * L → lvg F nn L E (fun l => s.testBit l) c → fxo [46, 47] F F' ∧ ontos F' L (fun c d => trn L E (fun l => s.testBit l) (fun l => a.testBit l) c d ∨ trn L E (fun l => s.testBit l) (fun l => b.testBit l) c d) (2 * L) := by
    intro n
    induction n using Nat.strongRecOn with
    | ind n ih =>
      intro F c h hc hcL hI
      have q := q_Tu_take_32 h
      rw [hc.2.1, b_mul (by omega)] at q
      rcases Nat.lt_or_ge c (2 * L) with hl | hl
      · replace q := q.2 (by rw [b_lt (by omega) (by omega)]; exact hl)
        have hE := (hN.2.2 c hl).1
        rw [b_bit hs (by omega), b_add (show c + 1 < 4294967296 by omega), (hc.2.2 c hl).1] at q
        cases hb : s.testBit (c / 2) with
        | false =>
          rw [hb] at q
          obtain ⟨m, hm, hR⟩ := q.1 (by decide)
          refine ih m hm F (c + 1) hR hc (by omega) (fun x hx j => ?_)
          rw [hI x hx j]
          constructor
          · rintro ⟨x1, x2⟩; exact ⟨by omega, x2⟩
          · rintro ⟨x1, x2, x3, x4⟩
            refine ⟨?_, x2, x3, x4⟩
            by_cases e : j = c
            · subst e
              replace x3 : s.testBit (j / 2) = true := x3
              rw [hb] at x3; cases x3
            · omega
        | true =>
          rw [hb] at q
          have hlt2 := p40 hL (tb_lt (fun i hi => ((hI _ hE i).mp hi).2.1))
          rw [j_add1 (by omega) (by omega)] at q
          obtain ⟨m, hm, hR⟩ := q.2 rfl
          obtain ⟨r1, r2⟩ := ih m hm _ (c + 1) hR (hc.wr (by decide) (by decide) (by decide)) (by omega) (fun x hx j => by
            by_cases e : x = E c
            · subst e
              rw [fu_same, tb_or, Bool.or_eq_true, hI _ hx j, decide_eq_true_iff]
              constructor
              · rintro (⟨x1, x2⟩ | x1)
                · exact ⟨by omega, x2⟩
                · subst x1; exact ⟨by omega, hl, hb, rfl⟩
              · rintro ⟨x1, x2⟩
                by_cases e : j = c
                · exact Or.inr e
                · exact Or.inl ⟨by omega, x2⟩
            · rw [fu_i e, hI x hx j]
              constructor
              · rintro ⟨x1, x2⟩; exact ⟨by omega, x2⟩
              · rintro ⟨x1, x2, x3, x4⟩
                refine ⟨?_, x2, x3, x4⟩
                by_cases e2 : j = c
                · subst e2; exact absurd x4.symm e
                · omega)
          exact ⟨(fxo.rf.wr (by decide)).tr r1, r2⟩
      · obtain ⟨n1, F1, c1, n2, F2, c2, m, hm, hR⟩ := q.1 (by rw [b_le (by omega) (by omega)]; exact hl)
        obtain ⟨x1, e1, e2, e3, e4⟩ := s_upChannels hN ha hc c1
        cases e1
        subst e2
        obtain ⟨x2, f1, f2, f3, f4⟩ := s_upChannels hN hb hc c2
        cases f1
        subst f2
        have : c = 2 * L := by omega
        subst this
        exact lp3 m F2 0 n1 n2 hR hc (Nat.zero_le _) hI ⟨e3, e4⟩ ⟨f3, f4⟩ (fun c hc => absurd hc (Nat.not_lt_zero _))
  have lp1 : ∀ (n : Nat) (F : fx_F) (i : Nat), Rn n k_Tu_take 3 [(2, 45), (0, a), (0, b), (0, s), (0, i), (3, 0), (3, 0), (3, 0), (3, 0)] [] F v F' → cn F nn L E → i ≤ nn → (∀ x, x < i → F 46 x = 0) → fxo [46, 47] F F' ∧ ontos F' L (fun c d => trn L E (fun l => s.testBit l) (fun l => a.testBit l) c d ∨ trn L E (fun l => s.testBit l) (fun l => b.testBit l) c d) (2 * L) := by
    intro n
    induction n using Nat.strongRecOn with
    | ind n ih =>
      intro F i h hc hi hI
      have q := q_Tu_take_3 h
      rw [hc.1] at q
      rcases Nat.lt_or_ge i nn with hl | hl
      · obtain ⟨m, hm, hR⟩ := q.2 (by rw [b_lt (by omega) (by omega)]; exact hl)
        rw [b_add (show i + 1 < 4294967296 by omega)] at hR
        obtain ⟨r1, r2⟩ := ih m hm _ (i + 1) hR (hc.wr (by decide) (by decide) (by decide)) (by omega) (fun x hx => by
          by_cases e : x = i
          · rw [e, fu_same]
          · rw [fu_i e]; exact hI x (by omega))
        exact ⟨(fxo.rf.wr (by decide)).tr r1, r2⟩
      · obtain ⟨m, hm, hR⟩ := q.1 (by rw [b_le (by omega) (by omega)]; exact hl)
        exact lp2 m F 0 hR hc (Nat.zero_le _) (fun x hx j => by
          rw [hI x (by omega), Nat.zero_testBit]
          exact ⟨fun z => (by cases z), fun z => absurd z.1 (Nat.not_lt_zero _)⟩)
  exact lp1 m F 0 hR hc (Nat.zero_le _) (fun x hx => absurd hx (Nat.not_lt_zero _))
end TU
