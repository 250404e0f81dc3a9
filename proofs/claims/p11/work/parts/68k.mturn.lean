/-- the upper end of a link -/
def ue (E : Nat → Nat) (u : Nat → Bool) (l : Nat) : Nat := if u l then E (2 * l + 1) else E (2 * l)
section MT
variable {nn L : Nat} {E : Nat → Nat} {st u : Nat → Bool} {v : fx_V} {F' : fx_F} {T : Nat → Nat → Prop}
theorem isup_ue (hN : nt_ok nn L E) {c : Nat} (hc : c < 2 * L) : E (nf c) = ue E u (c / 2) ↔ isup u c = true := by
  have hne := (hN.2.2 c hc).2
  unfold isup ue
  rcases Nat.mod_two_eq_zero_or_one c with z | z
  · have e1 : nf c = c + 1 := by unfold nf; rw [if_pos z]
    have e2 : 2 * (c / 2) = c := by omega
    rw [e1] at hne
    rw [if_pos z, e1, e2]
    cases hb : u (c / 2) with
    | true => rw [if_pos rfl]; exact ⟨fun _ => rfl, fun _ => rfl⟩
    | false => rw [if_neg (by decide)]; exact ⟨fun q => absurd q.symm hne, fun q => by cases q⟩
  · have e1 : nf c = c - 1 := by unfold nf; rw [if_neg (by omega)]
    have e2 : 2 * (c / 2) = c - 1 := by omega
    have e3 : c - 1 + 1 = c := by omega
    rw [e1] at hne
    rw [if_neg (show ¬ c % 2 = 0 by omega), e1, e2, e3]
    cases hb : u (c / 2) with
    | true => rw [if_pos rfl]; exact ⟨fun q => absurd q.symm hne, fun q => by cases q⟩
    | false => rw [if_neg (by decide)]; exact ⟨fun _ => rfl, fun _ => rfl⟩
theorem s_isTurn (hN : nt_ok nn L E) {c d a3 a4 : Nat} (hc : c < 2 * L) (hd : d < 2 * L) {F : fx_F} (hm : mn F nn L E) (hst : ∀ l, l < L → st l = mst F l) (h3 : a3 = ue E u (c / 2)) (h4 : a4 = ue E u (d / 2)) (h : Cl k_M_isTurn [(2, 175), (0, c), (0, d), (0, a3), (0, a4)] F v F') : F' = F ∧ ((v = (0, 1) ∧ trn L E st u c d) ∨ (v = (0, 0) ∧ ¬ trn L E st u c d)) := by
  obtain ⟨n, h⟩ := c_M_isTurn h
  have q := q_M_isTurn_0 h
  have hL := hN.2.1
  rw [mTo hm hL hc, mTo hm hL hd, mFr hm hL hd, b_div (show c < 2147483648 by omega) (by decide) (by decide), b_div (show d < 2147483648 by omega) (by decide) (by decide), b_add0 (show c / 2 < 4294967296 by omega), b_add0 (show d / 2 < 4294967296 by omega), h3, h4] at q
  have sc : st (c / 2) = true ↔ F 176 (c / 2) = 1 := by rw [hst _ (by omega)]; exact rx_beq
  have sd : st (d / 2) = true ↔ F 176 (d / 2) = 1 := by rw [hst _ (by omega)]; exact rx_beq
  have no : ¬ trn L E st u c d → v = (0, 0) ∧ F' = F → F' = F ∧ ((v = (0, 1) ∧ trn L E st u c d) ∨ (v = (0, 0) ∧ ¬ trn L E st u c d)) := fun z ⟨e1, e2⟩ => ⟨e2, Or.inr ⟨e1, z⟩⟩
  have yes : trn L E st u c d → v = (0, 1) ∧ F' = F → F' = F ∧ ((v = (0, 1) ∧ trn L E st u c d) ∨ (v = (0, 0) ∧ ¬ trn L E st u c d)) := fun z ⟨e1, e2⟩ => ⟨e2, Or.inl ⟨e1, z⟩⟩
  by_cases g1 : c / 2 = d / 2
  · exact no (fun z => z.2.2.1 g1) (q.1 g1)
  replace q := q.2 g1
  by_cases g2 : F 176 (c / 2) = 1
  · replace q := q.2 g2
    by_cases g3 : F 176 (d / 2) = 1
    · replace q := q.2 g3
      by_cases g4 : E (nf c) = E d
      · replace q := q.1 g4
        by_cases g5 : E (nf c) = ue E u (c / 2)
        · exact yes ⟨hc, hd, g1, sc.mpr g2, sd.mpr g3, g4, Or.inl ((isup_ue hN hc).mp g5)⟩ (q.2 g5)
        · replace q := q.1 g5
          by_cases g6 : E (nf d) = ue E u (d / 2)
          · refine no (fun z => ?_) (q.2 g6)
            rcases z.2.2.2.2.2.2 with z | z
            · exact g5 ((isup_ue hN hc).mpr z)
            · rw [(isup_ue hN hd).mp g6] at z; cases z
          · refine yes ⟨hc, hd, g1, sc.mpr g2, sd.mpr g3, g4, Or.inr ?_⟩ (q.1 g6)
            cases hq : isup u d with
            | false => rfl
            | true => exact absurd ((isup_ue hN hd).mpr hq) g6
      · exact no (fun z => g4 z.2.2.2.2.2.1) (q.2 g4)
    · exact no (fun z => g3 (sd.mp z.2.2.2.2.1)) (q.1 g3)
  · exact no (fun z => g2 (sc.mp z.2.2.2.1)) (q.1 g2)
/-- the rules, as the reference tells them -/
def mur (F : fx_F) (L : Nat) (E : Nat → Nat) (u : Nat → Bool) : Prop := ∀ l, l < L → F 176 (20 + l) = ue E u l
theorem s_isLawful (hN : nt_ok nn L E) {c d : Nat} (hc : c < 2 * L) (hd : d < 2 * L) {F : fx_F} (hm : mn F nn L E) (hst : ∀ l, l < L → st l = mst F l) (hu : mur F L E u) (h : Cl k_M_isLawful [(2, 175), (0, c), (0, d)] F v F') : F' = F ∧ ((v = (0, 1) ∧ trn L E st u c d) ∨ (v = (0, 0) ∧ ¬ trn L E st u c d)) := by
  obtain ⟨n, h⟩ := c_M_isLawful h
  obtain ⟨n1, F1, c1, e1, e2⟩ := q_M_isLawful_0 h
  have hL := hN.2.1
  rw [b_div (show c < 2147483648 by omega) (by decide) (by decide), b_div (show d < 2147483648 by omega) (by decide) (by decide), b_add (show 20 + c / 2 < 4294967296 by omega), b_add (show 20 + d / 2 < 4294967296 by omega)] at c1
  obtain ⟨a1, a2⟩ := s_isTurn (u := u) (st := st) hN hc hd hm hst (hu _ (by omega)) (hu _ (by omega)) c1
  subst a1
  subst e2
  rw [e1]
  exact ⟨rfl, a2⟩
/-- the rules with all taken turned over -/
def mix (F : fx_F) (u w : Nat → Bool) (l : Nat) : Bool := if F 202 l = 0 then u l else w l
theorem s_isEither {w : Nat → Bool} (hN : nt_ok nn L E) {c d : Nat} (hc : c < 2 * L) (hd : d < 2 * L) {F : fx_F} (hm : mn F nn L E) (hst : ∀ l, l < L → st l = mst F l) (hu : mur F L E u) (hw : ∀ l, l < L → F 190 l = ue E w l) (h : Cl k_M_isEither [(2, 175), (0, c), (0, d)] F v F') : F' = F ∧ ((v = (0, 1) ∧ (trn L E st u c d ∨ trn L E st (mix F u w) c d)) ∨ (v = (0, 0) ∧ ¬ (trn L E st u c d ∨ trn L E st (mix F u w) c d))) := by
  obtain ⟨n, h⟩ := c_M_isEither h
  have q := q_M_isEither_0 h
  have hL := hN.2.1
  rw [b_div (show c < 2147483648 by omega) (by decide) (by decide), b_div (show d < 2147483648 by omega) (by decide) (by decide), b_add (show 20 + c / 2 < 4294967296 by omega), b_add (show 20 + d / 2 < 4294967296 by omega)] at q
  have m0 : ∀ l, l < L → F 202 l = 0 → F 176 (20 + l) = ue E (mix F u w) l := fun l hl z => by
    rw [hu l hl]; unfold ue mix; rw [if_pos z]
  have m1 : ∀ l, l < L → F 202 l ≠ 0 → F 190 l = ue E (mix F u w) l := fun l hl z => by
    rw [hw l hl]; unfold ue mix; rw [if_neg z]
  have key : ∀ a3 a4, a3 = ue E (mix F u w) (c / 2) → a4 = ue E (mix F u w) (d / 2) → (∃ (n1 : Nat) (F1 : fx_F), Cl k_M_isLawful [(2, 175), (0, c), (0, d)] F (0, n1) F1 ∧ (n1 ≠ 0 → v = (0, 1) ∧ F' = F1) ∧ (n1 = 0 → ∃ (n2 : Nat) (F2 : fx_F), Cl k_M_isTurn [(2, 175), (0, c), (0, d), (0, a3), (0, a4)] F1 (0, n2) F2 ∧ (n2 = 0 → v = (0, 0) ∧ F' = F2) ∧ (n2 ≠ 0 → v = (0, 1) ∧ F' = F2))) → F' = F ∧ ((v = (0, 1) ∧ (trn L E st u c d ∨ trn L E st (mix F u w) c d)) ∨ (v = (0, 0) ∧ ¬ (trn L E st u c d ∨ trn L E st (mix F u w) c d))) := by
    rintro a3 a4 h3 h4 ⟨n1, F1, c1, q1, q2⟩
    obtain ⟨a1, a2⟩ := s_isLawful hN hc hd hm hst hu c1
    subst a1
    rcases a2 with ⟨e, t⟩ | ⟨e, t⟩
    · cases e
      obtain ⟨e1, e2⟩ := q1 (by decide)
      exact ⟨e2, Or.inl ⟨e1, Or.inl t⟩⟩
    · cases e
      obtain ⟨n2, F2, c2, q3, q4⟩ := q2 rfl
      obtain ⟨b1, b2⟩ := s_isTurn (st := st) hN hc hd hm hst h3 h4 c2
      subst b1
      rcases b2 with ⟨e, t2⟩ | ⟨e, t2⟩
      · cases e
        obtain ⟨e1, e2⟩ := q4 (by decide)
        exact ⟨e2, Or.inl ⟨e1, Or.inr t2⟩⟩
      · cases e
        obtain ⟨e1, e2⟩ := q3 rfl
        exact ⟨e2, Or.inr ⟨e1, fun z => z.elim t t2⟩⟩
  by_cases g1 : F 202 (c / 2) = 0
  · replace q := q.1 g1
    by_cases g2 : F 202 (d / 2) = 0
    · exact key _ _ (m0 _ (by omega) g1) (m0 _ (by omega) g2) (q.1 g2)
    · exact key _ _ (m0 _ (by omega) g1) (m1 _ (by omega) g2) (q.2 g2)
  · replace q := q.2 g1
    by_cases g2 : F 202 (d / 2) = 0
    · exact key _ _ (m1 _ (by omega) g1) (m0 _ (by omega) g2) (q.1 g2)
    · exact key _ _ (m1 _ (by omega) g1) (m1 _ (by omega) g2) (q.2 g2)
theorem pth_last : ∀ {k a b : Nat}, pth T (k + 1) a b → ∃ d, pth T k a d ∧ T d b
  | 0, a, b, ⟨d, h1, h2⟩ => ⟨a, rfl, by rw [← show d = b from h2]; exact h1⟩
  | k + 1, a, b, ⟨d, h1, h2⟩ => by
    obtain ⟨e, h3, h4⟩ := pth_last h2
    exact ⟨e, ⟨d, h1, h3⟩, h4⟩
/-- how far d is from c, 1 or more -/
def pm (T : Nat → Nat → Prop) (k c d : Nat) : Prop := pth T k c d ∧ ∀ j, 1 ≤ j → j < k → ¬ pth T j c d
theorem pm_down {c d : Nat} : ∀ {j k : Nat}, 1 ≤ k → k ≤ j → pm T j c d → ∃ e, pm T k c e := by
  intro j
  induction j generalizing d with
  | zero => intro k h1 h2; omega
  | succ j ih =>
    intro k h1 h2 h
    rcases Nat.lt_or_ge j k with z | z
    · have : k = j + 1 := by omega
      subst this
      exact ⟨d, h⟩
    · obtain ⟨e, h3, h4⟩ := pth_last h.1
      refine ih h1 z (d := e) ⟨h3, fun i hi1 hi2 hp => ?_⟩
      exact h.2 (i + 1) (by omega) (by omega) (pth_snoc hp h4)
theorem pm_ex {c d : Nat} {k : Nat} (h : pth T (k + 1) c d) : ∃ j, 1 ≤ j ∧ j ≤ k + 1 ∧ pm T j c d := by
  induction k using Nat.strongRecOn with
  | ind k ih =>
    by_cases hx : ∃ j, 1 ≤ j ∧ j < k + 1 ∧ pth T j c d
    · obtain ⟨j, h1, h2, h3⟩ := hx
      obtain ⟨i, i1, i2, i3⟩ := ih (j - 1) (by omega) (by rw [show j - 1 + 1 = j by omega]; exact h3)
      exact ⟨i, i1, by omega, i3⟩
    · exact ⟨k + 1, by omega, Nat.le_refl _, h, fun j h1 h2 h3 => hx ⟨j, h1, h2, h3⟩⟩
/-- the turns, as bits -/
def mtn (F : fx_F) (L : Nat) (T : Nat → Nat → Prop) (k : Nat) : Prop := ∀ c, c < k → ∀ j, (F 192 c).testBit j = true ↔ T c j
/-- of a ring through c the length -/
theorem s_roundOf (hN : nt_ok nn L E) (hT : ∀ c d, T c d → c < 2 * L ∧ d < 2 * L) {F : fx_F} (hm : mn F nn L E) {c : Nat} (hc : c < 2 * L) (ht : mtn F L T (2 * L)) (h : Cl k_M_roundOf [(2, 175), (0, c)] F v F') : F' = F ∧ ((∃ k, 1 ≤ k ∧ k ≤ 41 ∧ pm T k c c ∧ v = (0, k)) ∨ ((∀ k, ¬ pth T (k + 1) c c) ∧ v = (0, 4294967295))) := by
  obtain ⟨n, h⟩ := c_M_roundOf h
  obtain ⟨m, hm2, hR⟩ := q_M_roundOf_0 h
  have hL := hN.2.1
  have hF : ∀ d, d < 2 * L → F 192 d < 2 ^ (2 * L) := fun d hd => tb_lt (fun i hi => (hT _ _ ((ht d hd i).mp hi)).2)
  have inner : ∀ (n seen now k more d : Nat), Rn n k_M_roundOf 45 [(2, 175), (0, c), (1, seen), (3, 0), (1, now), (3, 0), (0, k), (1, more), (3, 0), (0, d)] [] F v F' → d ≤ 2 * L → seen < 2 ^ (2 * L) → now < 2 ^ (2 * L) → k < 100 → (∀ e, more.testBit e = true ↔ ∃ i, i < d ∧ now.testBit i = true ∧ T i e) → ∃ m more', m < n ∧ Rn m k_M_roundOf 13 [(2, 175), (0, c), (1, seen), (3, 0), (1, rx_j_and more' (rx_j_xor seen 18446744073709551615)), (3, 0), (0, k + 1), (3, 0), (3, 0), (3, 0)] [] F v F' ∧ more' < 2 ^ (2 * L) ∧ ∀ e, more'.testBit e = true ↔ ∃ i, now.testBit i = true ∧ T i e := by
    intro n
    induction n using Nat.strongRecOn with
    | ind n ih =>
      intro seen now k more d h hd hs hnw hk hI
      have q := q_M_roundOf_45 h
      have hs2 := p40 hL hs
      have hn2 := p40 hL hnw
      have hmb : more < 2 ^ (2 * L) := tb_lt (fun i hi => by obtain ⟨j, _, _, h3⟩ := (hI i).mp hi; exact (hT _ _ h3).2)
      have hm3 := p40 hL hmb
      rw [hm.2.2.1, b_mul (by omega)] at q
      rcases Nat.lt_or_ge d (2 * L) with hl | hl
      · replace q := q.2 (by rw [b_lt (by omega) (by omega)]; exact hl)
        rw [b_add (show d + 1 < 4294967296 by omega)] at q
        have jb : rx_f_lcmp (rx_j_and (rx_j_shr now d) 1) 1 = 0 ↔ now.testBit d = true := j_bit (by omega) (by omega)
        by_cases hb : now.testBit d = true
        · obtain ⟨m, hm2, hR⟩ := q.2 (jb.mpr hb)
          have hFd := p40 hL (hF d hl)
          rw [j_or (by omega) (by omega)] at hR
          obtain ⟨m', mo, r1, r2⟩ := ih m hm2 seen now k _ (d + 1) hR (by omega) hs hnw hk (fun e => by
            rw [Nat.testBit_or, Bool.or_eq_true, hI e, ht d hl e]
            constructor
            · rintro (⟨i, h1, h2, h3⟩ | h1)
              · exact ⟨i, by omega, h2, h3⟩
              · exact ⟨d, by omega, hb, h1⟩
            · rintro ⟨i, h1, h2, h3⟩
              by_cases e2 : i = d
              · subst e2; exact Or.inr h3
              · exact Or.inl ⟨i, by omega, h2, h3⟩)
          exact ⟨m', mo, by omega, r2⟩
        · obtain ⟨m, hm2, hR⟩ := q.1 (fun z => hb (jb.mp z))
          obtain ⟨m', mo, r1, r2⟩ := ih m hm2 seen now k more (d + 1) hR (by omega) hs hnw hk (fun e => by
            rw [hI e]
            constructor
            · rintro ⟨i, h1, h2, h3⟩
              exact ⟨i, by omega, h2, h3⟩
            · rintro ⟨i, h1, h2, h3⟩
              by_cases e2 : i = d
              · subst e2; exact absurd h2 hb
              · exact ⟨i, by omega, h2, h3⟩)
          exact ⟨m', mo, by omega, r2⟩
      · obtain ⟨m, hm2, hR⟩ := q.1 (by rw [b_le (by omega) (by omega)]; exact hl)
        rw [b_add (show k + 1 < 4294967296 by omega)] at hR
        refine ⟨m, more, hm2, hR, hmb, fun e => ?_⟩
        rw [hI e]
        constructor
        · rintro ⟨i, h1, h2, h3⟩; exact ⟨i, h2, h3⟩
        · rintro ⟨i, h2, h3⟩; exact ⟨i, by have := (hT _ _ h3).1; omega, h2, h3⟩
  have outer : ∀ (n seen now k : Nat), Rn n k_M_roundOf 13 [(2, 175), (0, c), (1, seen), (3, 0), (1, now), (3, 0), (0, k), (3, 0), (3, 0), (3, 0)] [] F v F' → 1 ≤ k → seen < 2 ^ (2 * L) → (∀ d, now.testBit d = true ↔ pm T k c d) → (∀ d, seen.testBit d = true ↔ ∃ j, 1 ≤ j ∧ j < k ∧ pth T j c d) → (∀ j, 1 ≤ j → j < k → ¬ pth T j c c) → k - 1 ≤ cnt (fun i => seen.testBit i) (2 * L) → F' = F ∧ ((∃ k, 1 ≤ k ∧ k ≤ 41 ∧ pm T k c c ∧ v = (0, k)) ∨ ((∀ k, ¬ pth T (k + 1) c c) ∧ v = (0, 4294967295))) := by
    intro n
    induction n using Nat.strongRecOn with
    | ind n ih =>
      intro seen now k h hk hs hA hB hC hD
      have hcn := cnt_le (fun i => seen.testBit i) (2 * L)
      have hs2 := p40 hL hs
      have hnb : now < 2 ^ (2 * L) := tb_lt (fun i hi => by
        have h1 := ((hA i).mp hi).1
        rw [show k = k - 1 + 1 by omega] at h1
        obtain ⟨e, _, h3⟩ := pth_last h1
        exact (hT _ _ h3).2)
      have hn2 := p40 hL hnb
      have jz : rx_f_lcmp now 0 = 0 ↔ now = 0 := j_zero (by omega)
      have jb : rx_f_lcmp (rx_j_and (rx_j_shr now c) 1) 1 = 0 ↔ now.testBit c = true := j_bit (by omega) (by omega)
      have q := q_M_roundOf_13 h
      by_cases hz : now = 0
      · obtain ⟨e1, e2⟩ := q.1 (jz.mpr hz)
        refine ⟨e2, Or.inr ⟨fun i hp => ?_, e1⟩⟩
        obtain ⟨j, j1, j2, j3⟩ := pm_ex hp
        clear q
        rcases Nat.lt_or_ge j k with z | z
        · exact hC j j1 z j3.1
        · obtain ⟨e, he⟩ := pm_down hk z j3
          have := (hA e).mpr he
          rw [hz, Nat.zero_testBit] at this
          cases this
      · replace q := q.2 (fun z => hz (jz.mp z))
        by_cases hb : now.testBit c = true
        · obtain ⟨e1, e2⟩ := q.2 (jb.mpr hb)
          clear q
          exact ⟨e2, Or.inl ⟨k, hk, by omega, (hA c).mp hb, e1⟩⟩
        · obtain ⟨m, hm2, hR⟩ := q.1 (fun z => hb (jb.mp z))
          clear q
          rw [j_or (by omega) (by omega)] at hR
          have hsn : seen ||| now < 2 ^ (2 * L) := Nat.or_lt_two_pow hs hnb
          have hsn2 := p40 hL hsn
          obtain ⟨m', mo, r1, r2, r3, r4⟩ := inner m _ now k 0 0 hR (Nat.zero_le _) hsn hnb (by omega) (fun e => by
            rw [Nat.zero_testBit]
            exact ⟨fun z => (by cases z), fun ⟨i, h1, _⟩ => absurd h1 (Nat.not_lt_zero _)⟩)
          have hmo := p40 hL r3
          obtain ⟨l1, l2⟩ := j_less (x := mo) (y := seen ||| now) (by omega) (by omega)
          have hB2 : ∀ d, (seen ||| now).testBit d = true ↔ ∃ j, 1 ≤ j ∧ j < k + 1 ∧ pth T j c d := by
            intro d
            rw [Nat.testBit_or, Bool.or_eq_true, hA d, hB d]
            constructor
            · rintro (⟨j, h1, h2, h3⟩ | h1)
              · exact ⟨j, h1, by omega, h3⟩
              · exact ⟨k, hk, by omega, h1.1⟩
            · rintro ⟨j, h1, h2, h3⟩
              by_cases hx : ∃ j, 1 ≤ j ∧ j < k ∧ pth T j c d
              · exact Or.inl hx
              · have : j = k := by
                  rcases Nat.lt_or_ge j k with z | z
                  · exact absurd ⟨j, h1, z, h3⟩ hx
                  · omega
                subst this
                exact Or.inr ⟨h3, fun i i1 i2 i3 => hx ⟨i, i1, i2, i3⟩⟩
          refine ih m' (by omega) _ _ (k + 1) r2 (by omega) hsn (fun d => ?_) hB2 (fun j h1 h2 h3 => ?_) ?_
          · rw [l2 d, Bool.and_eq_true, r4 d]
            constructor
            · rintro ⟨⟨i, h1, h2⟩, h3⟩
              refine ⟨pth_snoc ((hA i).mp h1).1 h2, fun j j1 j2 j3 => ?_⟩
              rw [(hB2 d).mpr ⟨j, j1, j2, j3⟩] at h3
              cases h3
            · intro hp
              obtain ⟨e, h1, h2⟩ := pth_last hp.1
              refine ⟨⟨e, (hA e).mpr ⟨h1, fun j j1 j2 j3 => hp.2 (j + 1) (by omega) (by omega) (pth_snoc j3 h2)⟩, h2⟩, ?_⟩
              cases hq : (seen ||| now).testBit d with
              | false => rfl
              | true =>
                obtain ⟨j, j1, j2, j3⟩ := (hB2 d).mp hq
                exact absurd j3 (hp.2 j j1 j2)
          · rcases Nat.lt_or_ge j k with z | z
            · exact hC j h1 z h3
            · have : j = k := by omega
              subst this
              exact hb ((hA c).mpr ⟨h3, hC⟩)
          · have hex : ∃ d, now.testBit d = true := by
              by_cases hy : ∃ d, now.testBit d = true
              · exact hy
              · refine absurd (tb_ext (fun i => ?_)) hz
                rw [Nat.zero_testBit]
                cases hq : now.testBit i with
                | false => rfl
                | true => exact absurd ⟨i, hq⟩ hy
            obtain ⟨d, hd⟩ := hex
            have hdl : d < 2 * L := by
              rcases Nat.lt_or_ge d (2 * L) with z | z
              · exact z
              · rw [tb_out hnb z] at hd; cases hd
            have := cnt_less (p := fun i => seen.testBit i) (q := fun i => (seen ||| now).testBit i) (n := 2 * L) (c := d) hdl (fun i _ hi => by
              show (seen ||| now).testBit i = true
              rw [Nat.testBit_or, show seen.testBit i = true from hi]; rfl) (by show (seen ||| now).testBit d = true; rw [Nat.testBit_or, hd, Bool.or_true]) (by
              show seen.testBit d = false
              cases hq : seen.testBit d with
              | false => rfl
              | true =>
                obtain ⟨j, j1, j2, j3⟩ := (hB d).mp hq
                exact absurd j3 (((hA d).mp hd).2 j j1 j2))
            omega
  refine outer m 0 (F 192 c) 1 hR (Nat.le_refl 1) (Nat.two_pow_pos _) (fun d => ?_) (fun d => ?_) (fun j h1 h2 => by omega) (Nat.zero_le _)
  · rw [ht c hc d]
    constructor
    · intro z
      exact ⟨⟨d, z, rfl⟩, fun j h1 h2 => by omega⟩
    · rintro ⟨⟨e, h1, h2⟩, _⟩
      rw [← show e = d from h2]; exact h1
  · rw [Nat.zero_testBit]
    exact ⟨fun z => (by cases z), fun ⟨j, h1, h2, _⟩ => by omega⟩
theorem s_hasRing (hN : nt_ok nn L E) (hT : ∀ c d, T c d → c < 2 * L ∧ d < 2 * L) {F : fx_F} (hm : mn F nn L E) (ht : mtn F L T (2 * L)) (h : Cl k_M_hasRing [(2, 175)] F v F') : F' = F ∧ ((v = (0, 1) ∧ cyc T) ∨ (v = (0, 0) ∧ ¬ cyc T)) := by
  obtain ⟨n, h⟩ := c_M_hasRing h
  obtain ⟨m, hm2, hR⟩ := q_M_hasRing_0 h
  have hL := hN.2.1
  have lp : ∀ (n c : Nat), Rn n k_M_hasRing 2 [(2, 175), (0, c)] [] F v F' → c ≤ 2 * L → (∀ c', c' < c → ∀ k, ¬ pth T (k + 1) c' c') → F' = F ∧ ((v = (0, 1) ∧ cyc T) ∨ (v = (0, 0) ∧ ¬ cyc T)) := by
    intro n
    induction n using Nat.strongRecOn with
    | ind n ih =>
      intro c h hc hI
      have q := q_M_hasRing_2 h
      rw [hm.2.2.1, b_mul (by omega)] at q
      rcases Nat.lt_or_ge c (2 * L) with hl | hl
      · obtain ⟨n1, F1, c1, q1, q2⟩ := q.2 (by rw [b_lt (by omega) (by omega)]; exact hl)
        obtain ⟨a1, a2⟩ := s_roundOf hN hT hm hl ht c1
        subst a1
        rcases a2 with ⟨k, k1, k2, k3, e⟩ | ⟨k1, e⟩
        · cases e
          clear q
          obtain ⟨e1, e2⟩ := q2 (by rw [b_lt (by decide) (by omega)]; omega)
          refine ⟨e2, Or.inl ⟨e1, c, n1 - 1, ?_⟩⟩
          rw [show n1 - 1 + 1 = n1 by omega]
          exact k3.1
        · cases e
          obtain ⟨m, hm2, hR⟩ := q1 (by rw [b_le_m2 (by decide)]; trivial)
          rw [b_add (show c + 1 < 4294967296 by omega)] at hR
          refine ih m hm2 (c + 1) hR (by omega) (fun c' hc' k hp => ?_)
          by_cases e : c' = c
          · subst e; exact k1 k hp
          · exact hI c' (by omega) k hp
      · obtain ⟨e1, e2⟩ := q.1 (by rw [b_le (by omega) (by omega)]; exact hl)
        refine ⟨e2, Or.inr ⟨e1, fun ⟨c', k, hp⟩ => ?_⟩⟩
        have : c' < 2 * L := by
          obtain ⟨d, h1, _⟩ := hp
          exact (hT _ _ h1).1
        exact hI c' (by omega) k hp
  exact lp m 0 hR (Nat.zero_le _) (fun c' hc' => absurd hc' (Nat.not_lt_zero _))
theorem s_isSafe {w : Nat → Bool} (hN : nt_ok nn L E) {F : fx_F} (hm : mn F nn L E) (hst : ∀ l, l < L → st l = mst F l) (hu : mur F L E u) (hw : ∀ l, l < L → F 190 l = ue E w l) (h : Cl k_M_isSafe [(2, 175)] F v F') : fxo [192] F F' ∧ ((v = (0, 0) ∧ cyc (fun c d => trn L E st u c d ∨ trn L E st (mix F u w) c d)) ∨ (v = (0, 1) ∧ ¬ cyc (fun c d => trn L E st u c d ∨ trn L E st (mix F u w) c d))) := by
  obtain ⟨n, h⟩ := c_M_isSafe h
  obtain ⟨m, hm2, hR⟩ := q_M_isSafe_0 h
  have hL := hN.2.1
  have hT : ∀ c d, (trn L E st u c d ∨ trn L E st (mix F u w) c d) → c < 2 * L ∧ d < 2 * L := fun c d z => z.elim (fun z => ⟨z.1, z.2.1⟩) (fun z => ⟨z.1, z.2.1⟩)
  generalize hTT : (fun c d => trn L E st u c d ∨ trn L E st (mix F u w) c d) = T
  have hT1 : ∀ c d, T c d ↔ (trn L E st u c d ∨ trn L E st (mix F u w) c d) := fun c d => by rw [← hTT]
  have hT2 : ∀ c d, T c d → c < 2 * L ∧ d < 2 * L := fun c d z => hT c d ((hT1 c d).mp z)
  -- what stays
  have kp : ∀ F2 : fx_F, fxo [192] F F2 → mn F2 nn L E ∧ (∀ l, l < L → st l = mst F2 l) ∧ mur F2 L E u ∧ (∀ l, l < L → F2 190 l = ue E w l) ∧ mix F2 u w = mix F u w := by
    intro F2 ho
    refine ⟨hm.keep ho (by decide) (by decide) (by decide) (by decide), fun l hl => by rw [hst l hl]; unfold mst; rw [ho 176 _ (by decide)], fun l hl => (ho 176 _ (by decide)).trans (hu l hl), fun l hl => (ho 190 _ (by decide)).trans (hw l hl), funext (fun l => by unfold mix; rw [ho 202 _ (by decide)])⟩
  have inner : ∀ (n : Nat) (F2 : fx_F) (c d : Nat), Rn n k_M_isSafe 19 [(2, 175), (0, c), (0, d)] [] F2 v F' → c < 2 * L → d ≤ 2 * L → fxo [192] F F2 → mtn F2 L T c → (∀ j, (F2 192 c).testBit j = true ↔ j < d ∧ T c j) → ∃ m F3, m < n ∧ Rn m k_M_isSafe 2 [(2, 175), (0, c + 1), (3, 0)] [] F3 v F' ∧ fxo [192] F F3 ∧ mtn F3 L T (c + 1) := by
    intro n
    induction n using Nat.strongRecOn with
    | ind n ih =>
      intro F2 c d h hc hd ho hI hJ
      obtain ⟨km, ks, ku, kw, kx⟩ := kp F2 ho
      have q := q_M_isSafe_19 h
      rw [km.2.2.1, b_mul (by omega)] at q
      rcases Nat.lt_or_ge d (2 * L) with hl | hl
      · obtain ⟨n1, F1, c1, q1, q2⟩ := q.2 (by rw [b_lt (by omega) (by omega)]; exact hl)
        rw [b_add (show d + 1 < 4294967296 by omega)] at q1 q2
        obtain ⟨a1, a2⟩ := s_isEither (st := st) hN hc hl km ks ku kw c1
        subst a1
        rw [kx] at a2
        rcases a2 with ⟨e, t⟩ | ⟨e, t⟩
        · cases e
          obtain ⟨m, hm2, hR⟩ := q2 (by decide)
          have hlt := p40 hL (show F1 192 c < 2 ^ (2 * L) from tb_lt (fun i hi => by have := ((hJ i).mp hi).1; omega))
          rw [j_add1 (by omega) (by omega)] at hR
          obtain ⟨m', F3, r1, r2⟩ := ih m hm2 _ c (d + 1) hR hc (by omega) (ho.wr (by decide)) (fun c' hc' j => by rw [fu_i (by omega)]; exact hI c' hc' j) (fun j => by
            rw [fu_same, tb_or, Bool.or_eq_true, hJ j, decide_eq_true_iff]
            constructor
            · rintro (⟨h1, h2⟩ | h1)
              · exact ⟨by omega, h2⟩
              · subst h1; exact ⟨by omega, (hT1 _ _).mpr t⟩
            · rintro ⟨h1, h2⟩
              by_cases e : j = d
              · exact Or.inr e
              · exact Or.inl ⟨by omega, h2⟩)
          exact ⟨m', F3, by omega, r2⟩
        · cases e
          obtain ⟨m, hm2, hR⟩ := q1 rfl
          obtain ⟨m', F3, r1, r2⟩ := ih m hm2 _ c (d + 1) hR hc (by omega) ho hI (fun j => by
            rw [hJ j]
            constructor
            · rintro ⟨h1, h2⟩; exact ⟨by omega, h2⟩
            · rintro ⟨h1, h2⟩
              refine ⟨?_, h2⟩
              by_cases e : j = d
              · subst e; exact absurd ((hT1 _ _).mp h2) t
              · omega)
          exact ⟨m', F3, by omega, r2⟩
      · obtain ⟨m, hm2, hR⟩ := q.1 (by rw [b_le (by omega) (by omega)]; exact hl)
        rw [b_add (show c + 1 < 4294967296 by omega)] at hR
        refine ⟨m, F2, hm2, hR, ho, fun c' hc' j => ?_⟩
        by_cases e : c' = c
        · subst e
          rw [hJ j]
          exact ⟨fun z => z.2, fun z => ⟨by have := (hT2 _ _ z).2; omega, z⟩⟩
        · exact hI c' (by omega) j
  have outer : ∀ (n : Nat) (F2 : fx_F) (c : Nat), Rn n k_M_isSafe 2 [(2, 175), (0, c), (3, 0)] [] F2 v F' → c ≤ 2 * L → fxo [192] F F2 → mtn F2 L T c → fxo [192] F F' ∧ ((v = (0, 0) ∧ cyc T) ∨ (v = (0, 1) ∧ ¬ cyc T)) := by
    intro n
    induction n using Nat.strongRecOn with
    | ind n ih =>
      intro F2 c h hc ho hI
      obtain ⟨km, ks, ku, kw, kx⟩ := kp F2 ho
      have q := q_M_isSafe_2 h
      rw [km.2.2.1, b_mul (by omega)] at q
      rcases Nat.lt_or_ge c (2 * L) with hl | hl
      · obtain ⟨m, hm2, hR⟩ := q.2 (by rw [b_lt (by omega) (by omega)]; exact hl)
        obtain ⟨m', F3, r1, r2, r3, r4⟩ := inner m _ c 0 hR hl (Nat.zero_le _) (ho.wr (by decide)) (fun c' hc' j => by rw [fu_i (by omega)]; exact hI c' hc' j) (fun j => by
          rw [fu_same, Nat.zero_testBit]
          exact ⟨fun z => (by cases z), fun z => absurd z.1 (Nat.not_lt_zero _)⟩)
        exact ih m' (by omega) F3 (c + 1) r2 (by omega) r3 r4
      · obtain ⟨n1, F1, c1, q1, q2⟩ := q.1 (by rw [b_le (by omega) (by omega)]; exact hl)
        have : c = 2 * L := by omega
        subst this
        obtain ⟨a1, a2⟩ := s_hasRing hN hT2 km hI c1
        subst a1
        rcases a2 with ⟨e, t⟩ | ⟨e, t⟩
        · cases e
          obtain ⟨e1, e2⟩ := q1 (by decide)
          subst e2
          exact ⟨ho, Or.inl ⟨e1, t⟩⟩
        · cases e
          obtain ⟨e1, e2⟩ := q2 rfl
          subst e2
          exact ⟨ho, Or.inr ⟨e1, t⟩⟩
  exact outer m F 0 hR (Nat.zero_le _) fxo.rf (fun c' hc' => absurd hc' (Nat.not_lt_zero _))
end MT
