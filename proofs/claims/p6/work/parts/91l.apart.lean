/-! apart agrees (names of other parts: mx vfl_b tre_s bck_s in_y lr.kk s_tot) -/
def vint (x : Nat) : Int := if x = 4294967295 then -1 else x
def gint (x : Nat) : Int := if x = 1 then 1 else if x = 2 then -1 else 0
section APART
variable {nn L R N s a b c : Nat} {E C : Nat → Nat} {st : Nat → Bool} {v v2 : fx_V} {F F' F1 F2 G G' G1 : fx_F}
theorem b_ng0 : i_neg 0 = 0 := by rw [i_neg_eq]; decide
theorem b_ng1 : i_neg 1 = 4294967295 := by rw [i_neg_eq]; decide
theorem b_ngm : i_neg 4294967295 = 1 := by rw [i_neg_eq]; decide
theorem b_sh1 {c : Nat} (hc : c < 2147483648) : i_shr c 1 = c / 2 := by
  rw [b_shr hc (by decide)]
theorem s_space (hs : s < 2147483648) (hc : c < 64) (hv : F 44 (c / 2) = 0 ∨ F 44 (c / 2) = 1 ∨ F 44 (c / 2) = 4294967295) (h : Cl k_Gr_hasSpace [(2, 40), (0, c), (0, s)] F v F') : ∃ x, v = (0, x) ∧ F' = F ∧ (x ≠ 0 ↔ s.testBit (c / 2) = true ∧ cf (fun l => vint (F 44 l)) c ≤ 0) := by
  obtain ⟨n, h⟩ := c_Gr_hasSpace h
  have q := q_Gr_hasSpace_0 h
  rw [b_and1, b_bit hs hc, b_sh1 (show c < 2147483648 by clear q; omega)] at q
  have e0 : vint 0 = 0 := rfl
  have e1 : vint 1 = 1 := rfl
  have em : vint 4294967295 = -1 := rfl
  cases hst : s.testBit (c / 2) with
  | false =>
    rw [hst, if_neg (by decide)] at q
    have fin : v = (0, 0) ∧ F' = F → ∃ x, v = (0, x) ∧ F' = F ∧ (x ≠ 0 ↔ false = true ∧ cf (fun l => vint (F 44 l)) c ≤ 0) := fun z => ⟨0, z.1, z.2, fun y => absurd rfl y, fun y => by cases y.1⟩
    by_cases z : c % 2 = 0
    · exact fin ((q.2 z).1 (by decide))
    · exact fin ((q.1 z).1 (by decide))
  | true =>
    rw [if_pos hst] at q
    unfold cf
    have y1 : (v = (0, 1) ∧ F' = F) → ∀ i : Int, i ≤ 0 → ∃ x, v = (0, x) ∧ F' = F ∧ (x ≠ 0 ↔ true = true ∧ i ≤ 0) := fun z i hi => ⟨1, z.1, z.2, fun _ => ⟨rfl, hi⟩, fun _ => by decide⟩
    have y0 : (v = (0, 0) ∧ F' = F) → ∀ i : Int, ¬ i ≤ 0 → ∃ x, v = (0, x) ∧ F' = F ∧ (x ≠ 0 ↔ true = true ∧ i ≤ 0) := fun z i hi => ⟨0, z.1, z.2, fun y => absurd rfl y, fun y => absurd y.2 hi⟩
    by_cases z : c % 2 = 0
    · rw [if_pos z]
      have q2 := (q.2 z).2 rfl
      clear q
      show ∃ x, v = (0, x) ∧ F' = F ∧ (x ≠ 0 ↔ true = true ∧ vint (F 44 (c / 2)) ≤ 0)
      rcases hv with e | e | e
      · rw [e] at q2 ⊢
        exact y1 (q2.2 (by rw [b_lt (by decide) (by decide)]; decide)) _ (by decide)
      · rw [e] at q2 ⊢
        exact y0 (q2.1 (by rw [b_le (by decide) (by decide)]; decide)) _ (by decide)
      · rw [e] at q2 ⊢
        exact y1 (q2.2 (by rw [b_lt_m (by decide)]; trivial)) _ (by decide)
    · rw [if_neg z]
      have q2 := (q.1 z).2 rfl
      clear q
      show ∃ x, v = (0, x) ∧ F' = F ∧ (x ≠ 0 ↔ true = true ∧ - vint (F 44 (c / 2)) ≤ 0)
      rcases hv with e | e | e
      · rw [e, b_ng0] at q2
        rw [e]
        exact y1 (q2.2 (by rw [b_lt (by decide) (by decide)]; decide)) _ (by decide)
      · rw [e, b_ng1] at q2
        rw [e]
        exact y1 (q2.2 (by rw [b_lt_m (by decide)]; trivial)) _ (by decide)
      · rw [e, b_ngm] at q2
        rw [e]
        exact y0 (q2.1 (by rw [b_le (by decide) (by decide)]; decide)) _ (by decide)
/-- all are found but a: two that aren't can't be -/
theorem dsc_two {cb : Nat → Nat} (ha : a < nn) (hb : b < nn) (hab : a ≠ b) (h : dsc cb a b = false) : cnt (dsc cb a) nn + 2 ≤ nn := by
  have h1 := cnt_less (p := dsc cb a) (q := fun w => !(Nat.beq w a)) (n := nn) hb (fun i _ hi => by
    have := (dsc_iff.mp hi).1
    rw [show Nat.beq i a = false from Bool.eq_false_iff.mpr (fun z => this (rx_beq.mp z))]; rfl) (by rw [show Nat.beq b a = false from Bool.eq_false_iff.mpr (fun z => hab (rx_beq.mp z).symm)]; rfl) h
  have h2 := cnt_less (p := fun w => !(Nat.beq w a)) (q := fun _ => true) (n := nn) ha (fun _ _ _ => rfl) rfl (by rw [rx_beq.mpr rfl]; rfl)
  have h3 := cnt_le (fun _ => true) nn
  omega
/-- who is reached -/
def rch2 (cb : Nat → Nat) (a w : Nat) : Bool := Nat.beq w a || dsc cb a w
theorem rch2_iff {cb : Nat → Nat} {w : Nat} : rch2 cb a w = true ↔ w = a ∨ dsc cb a w = true := by
  unfold rch2
  rw [Bool.or_eq_true, rx_beq]
/-- what a search finds -/
def fnd (nn L : Nat) (E : Nat → Nat) (st : Nat → Bool) (f : Nat → Int) (a b x : Nat) (cb : Nat → Nat) : Prop := (x ≠ 0 ∧ dsc cb a b = true ∧ ∃ r, tre nn L E st f a cb r) ∨ (x = 0 ∧ ∃ S : Nat → Bool, cls L E st f S ∧ S a = true ∧ S b = false)
/-- a channel that leads nowhere new -/
def bar (E : Nat → Nat) (st : Nat → Bool) (f : Nat → Int) (a : Nat) (cb : Nat → Nat) (c : Nat) : Prop := st (c / 2) = true → cf f c ≤ 0 → rch2 cb a (E c) = true → rch2 cb a (E (nf c)) = true
theorem s_findRow (hN : nt_ok nn L E) (hs : s < 2147483648) (ha : a < nn) (hb : b < nn) (hab : a ≠ b) (hcn : cn F nn L E) (hv : ∀ l, l < L → F 44 l = 0 ∨ F 44 l = 1 ∨ F 44 l = 4294967295) (h : Cl k_Gr_findRow [(2, 40), (0, a), (0, b), (0, s)] F v F') : fxo [43] F F' ∧ ∃ x, v = (0, x) ∧ fnd nn L E (bts s) (fun l => vint (F 44 l)) a b x (F' 43) := by
  have hn := hN.1
  have hL := hN.2.1
  obtain ⟨n0, h⟩ := c_Gr_findRow h
  obtain ⟨m0, -, h0⟩ := q_Gr_findRow_0 h
  -- at an end
  have fin : ∀ F2 : fx_F, fxo [43] F F2 → (∃ r, tre nn L E (bts s) (fun l => vint (F 44 l)) a (F2 43) r) → (dsc (F2 43) a b = false → ∀ c, c < 2 * L → bar E (bts s) (fun l => vint (F 44 l)) a (F2 43) c) → ((F2 43 b = 4294967295 → v = (0, 0) ∧ F' = F2) ∧ (F2 43 b ≠ 4294967295 → v = (0, 1) ∧ F' = F2)) → fxo [43] F F' ∧ ∃ x, v = (0, x) ∧ fnd nn L E (bts s) (fun l => vint (F 44 l)) a b x (F' 43) := by
    intro F2 ho ht hcl q
    by_cases e : F2 43 b = 4294967295
    · obtain ⟨x1, x2⟩ := q.1 e
      subst x2
      have hd : dsc (F' 43) a b = false := Bool.eq_false_iff.mpr (fun z => (dsc_iff.mp z).2 e)
      refine ⟨ho, 0, x1, Or.inr ⟨rfl, rch2 (F' 43) a, fun c hc => hcl hd c hc, rch2_iff.mpr (Or.inl rfl), Bool.eq_false_iff.mpr (fun z => ?_)⟩⟩
      rcases rch2_iff.mp z with y | y
      · exact hab y.symm
      · rw [hd] at y; cases y
    · obtain ⟨x1, x2⟩ := q.2 e
      subst x2
      exact ⟨ho, 1, x1, Or.inl ⟨by decide, dsc_iff.mpr ⟨fun z => hab z.symm, e⟩, ht⟩⟩
  have l35 : ∀ (n : Nat) (F2 : fx_F) (gf k : Nat), Rn n k_Gr_findRow 35 [(2, 40), (0, a), (0, b), (0, s), (0, gf), (0, k), (3, 0), (3, 0), (3, 0)] [] F2 v F' → k ≤ nn → fxo [43] F F2 → (∃ r, tre nn L E (bts s) (fun l => vint (F 44 l)) a (F2 43) r) → k ≤ cnt (dsc (F2 43) a) nn + 1 ∨ gf = 0 → (gf = 0 → ∀ c, c < 2 * L → bar E (bts s) (fun l => vint (F 44 l)) a (F2 43) c) → fxo [43] F F' ∧ ∃ x, v = (0, x) ∧ fnd nn L E (bts s) (fun l => vint (F 44 l)) a b x (F' 43) := by
    intro n
    induction n using Nat.strongRecOn with
    | ind n ih =>
      intro F2 gf k h hk ho ht hcnt hcl
      have hc2 := hcn.keep ho (by decide) (by decide) (by decide)
      have q := q_Gr_findRow_35 h
      rw [hc2.1] at q
      rcases Nat.lt_or_ge k nn with z | z
      · replace q := q.2 (by rw [b_lt (by clear q; omega) (by clear q; omega)]; exact z)
        by_cases eg : gf = 0
        · exact fin F2 ho ht (fun _ => hcl eg) (q.1 eg)
        · obtain ⟨m, hm, hR⟩ := q.2 eg
          clear q
          have hk1 : k ≤ cnt (dsc (F2 43) a) nn + 1 := hcnt.resolve_right eg
          have l58 : ∀ (n2 : Nat) (F3 : fx_F) (g c : Nat), n2 < n → Rn n2 k_Gr_findRow 58 [(2, 40), (0, a), (0, b), (0, s), (0, g), (0, k), (0, c), (3, 0), (3, 0)] [] F3 v F' → c ≤ 2 * L → fxo [43] F F3 → (∃ r, tre nn L E (bts s) (fun l => vint (F 44 l)) a (F3 43) r) → cnt (dsc (F2 43) a) nn ≤ cnt (dsc (F3 43) a) nn → (k ≤ cnt (dsc (F3 43) a) nn ∨ g = 0) → (g = 0 → ∀ c', c' < c → bar E (bts s) (fun l => vint (F 44 l)) a (F3 43) c') → fxo [43] F F' ∧ ∃ x, v = (0, x) ∧ fnd nn L E (bts s) (fun l => vint (F 44 l)) a b x (F' 43) := by
            intro n2
            induction n2 using Nat.strongRecOn with
            | ind n2 ih2 =>
              intro F3 g c hn2 h hc ho3 ht3 hmon hcnt3 hcl3
              have hc3 := hcn.keep ho3 (by decide) (by decide) (by decide)
              have q := q_Gr_findRow_58 h
              rw [hc3.2.1, b_mul (show 2 * L < 4294967296 by clear q; omega)] at q
              rcases Nat.lt_or_ge c (2 * L) with y | y
              · replace q := q.2 (by rw [b_lt (by clear q; omega) (by clear q; omega)]; exact y)
                rw [(hc3.2.2 c y).1, (hc3.2.2 c y).2, b_add (show c + 1 < 4294967296 by clear q; omega)] at q
                have e1 := (hN.2.2 c y).1
                have e2 := (hN.2.2 _ (nf_lt y)).1
                -- nothing new
                have old : bar E (bts s) (fun l => vint (F 44 l)) a (F3 43) c → (∃ m, m < n2 ∧ Rn m k_Gr_findRow 58 [(2, 40), (0, a), (0, b), (0, s), (0, g), (0, k), (0, c + 1), (3, 0), (3, 0)] [] F3 v F') → fxo [43] F F' ∧ ∃ x, v = (0, x) ∧ fnd nn L E (bts s) (fun l => vint (F 44 l)) a b x (F' 43) := by
                  clear q
                  rintro hbar ⟨m, hm, hR⟩
                  refine ih2 m hm F3 g (c + 1) (by omega) hR y ho3 ht3 hmon hcnt3 (fun eg c' hc' => ?_)
                  by_cases ec : c' = c
                  · rw [ec]; exact hbar
                  · exact hcl3 eg c' (by omega)
                -- perhaps something
                have new : rch2 (F3 43) a (E c) = true → E (nf c) ≠ a → F3 43 (E (nf c)) = 4294967295 → (∃ (n1 : Nat) (F1 : fx_F), Cl k_Gr_hasSpace [(2, 40), (0, c), (0, s)] F3 (0, n1) F1 ∧ (n1 = 0 → ∃ m, m < n2 ∧ Rn m k_Gr_findRow 58 [(2, 40), (0, a), (0, b), (0, s), (0, g), (0, k), (0, c + 1), (3, 0), (3, 0)] [] F1 v F') ∧ (n1 ≠ 0 → ∃ m, m < n2 ∧ Rn m k_Gr_findRow 58 [(2, 40), (0, a), (0, b), (0, s), (0, 1), (0, k), (0, c + 1), (3, 0), (3, 0)] [] (fu F1 43 (E (nf c)) c) v F')) → fxo [43] F F' ∧ ∃ x, v = (0, x) ∧ fnd nn L E (bts s) (fun l => vint (F 44 l)) a b x (F' 43) := by
                  clear q
                  rintro r1 r2 r3 ⟨n1, F1, c1, Q1, Q2⟩
                  have e44 : ∀ i, F3 44 i = F 44 i := fun i => ho3 44 i (by decide)
                  obtain ⟨x, w1, w2, w3⟩ := s_space hs (show c < 64 by omega) (by rw [e44]; exact hv (c / 2) (by omega)) c1
                  rw [show (fun l => vint (F3 44 l)) = (fun l => vint (F 44 l)) from funext (fun l => by rw [e44])] at w3
                  cases w1
                  subst w2
                  by_cases z1 : n1 = 0
                  · exact old (fun b1 b2 _ => absurd z1 (w3.mpr ⟨b1, b2⟩)) (Q1 z1)
                  · obtain ⟨b1, b2⟩ := w3.mp z1
                    obtain ⟨m, hm, hR⟩ := Q2 z1
                    clear Q1 Q2
                    obtain ⟨r, hr⟩ := ht3
                    have hd0 : dsc (F1 43) a (E (nf c)) = false := Bool.eq_false_iff.mpr (fun z => (dsc_iff.mp z).2 r3)
                    obtain ⟨t1, t2, t3⟩ := tre_s (cb2 := fu F1 43 (E (nf c)) c 43) hN hr y b1 b2 (rch2_iff.mp r1) r2 hd0 (fun w => by
                      by_cases e : w = E (nf c)
                      · rw [e, fu_same, if_pos rfl]
                      · rw [fu_i e, if_neg e])
                    exact ih2 m hm _ 1 (c + 1) (by omega) hR y (ho3.wr (by decide)) t1 (by omega) (Or.inl (by omega)) (fun z => by cases z)
                by_cases d1 : E c = a
                · replace q := q.1 d1
                  have hr1 : rch2 (F3 43) a (E c) = true := rch2_iff.mpr (Or.inl d1)
                  by_cases d2 : E (nf c) = a
                  · exact old (fun _ _ _ => rch2_iff.mpr (Or.inl d2)) (q.1 d2)
                  · replace q := q.2 d2
                    by_cases d3 : F3 43 (E (nf c)) = 4294967295
                    · exact new hr1 d2 d3 (q.2 d3)
                    · exact old (fun _ _ _ => rch2_iff.mpr (Or.inr (dsc_iff.mpr ⟨d2, d3⟩))) (q.1 d3)
                · replace q := q.2 d1
                  by_cases d4 : F3 43 (E c) = 4294967295
                  · refine old (fun _ _ z => ?_) (q.1 d4)
                    rcases rch2_iff.mp z with k1 | k1
                    · exact absurd k1 d1
                    · exact absurd d4 (dsc_iff.mp k1).2
                  · replace q := q.2 d4
                    have hr1 : rch2 (F3 43) a (E c) = true := rch2_iff.mpr (Or.inr (dsc_iff.mpr ⟨d1, d4⟩))
                    by_cases d2 : E (nf c) = a
                    · exact old (fun _ _ _ => rch2_iff.mpr (Or.inl d2)) (q.1 d2)
                    · replace q := q.2 d2
                      by_cases d3 : F3 43 (E (nf c)) = 4294967295
                      · exact new hr1 d2 d3 (q.2 d3)
                      · exact old (fun _ _ _ => rch2_iff.mpr (Or.inr (dsc_iff.mpr ⟨d2, d3⟩))) (q.1 d3)
              · obtain ⟨m, hm, hR⟩ := q.1 (by rw [b_le (by clear q; omega) (by clear q; omega)]; exact y)
                clear q
                rw [b_add (show k + 1 < 4294967296 by omega)] at hR
                exact ih m (by omega) F3 g (k + 1) hR z ho3 ht3 (hcnt3.imp (fun w => by omega) id) (fun eg c' hc' => hcl3 eg c' (by omega))
          exact l58 m F2 0 0 hm hR (Nat.zero_le _) ho ht (Nat.le_refl _) (Or.inr rfl) (fun _ c' hc' => absurd hc' (Nat.not_lt_zero _))
      · have q2 := q.1 (by rw [b_le (by clear q; omega) (by clear q; omega)]; exact z)
        clear q
        refine fin F2 ho ht (fun hd => ?_) q2
        rcases hcnt with w | w
        · have := dsc_two ha hb hab hd
          omega
        · exact hcl w
  have l3 : ∀ (n : Nat) (F2 : fx_F) (i : Nat), Rn n k_Gr_findRow 3 [(2, 40), (0, a), (0, b), (0, s), (0, i), (3, 0), (3, 0), (3, 0), (3, 0)] [] F2 v F' → i ≤ nn → fxo [43] F F2 → (∀ w, w < i → F2 43 w = 4294967295) → fxo [43] F F' ∧ ∃ x, v = (0, x) ∧ fnd nn L E (bts s) (fun l => vint (F 44 l)) a b x (F' 43) := by
    intro n
    induction n using Nat.strongRecOn with
    | ind n ih =>
      intro F2 i h hi ho hI
      have hc2 := hcn.keep ho (by decide) (by decide) (by decide)
      have q := q_Gr_findRow_3 h
      rw [hc2.1] at q
      rcases Nat.lt_or_ge i nn with z | z
      · obtain ⟨m, hm, hR⟩ := q.2 (by rw [b_lt (by clear q; omega) (by clear q; omega)]; exact z)
        clear q
        rw [b_add (show i + 1 < 4294967296 by omega)] at hR
        refine ih m hm _ (i + 1) hR z (ho.wr (by decide)) (fun w hw => ?_)
        by_cases e : w = i
        · rw [e, fu_same]
        · rw [fu_i e]; exact hI w (by omega)
      · obtain ⟨m, hm, hR⟩ := q.1 (by rw [b_le (by clear q; omega) (by clear q; omega)]; exact z)
        clear q
        have hd : ∀ w, w < nn → dsc (F2 43) a w = false := fun w hw => Bool.eq_false_iff.mpr (fun y => (dsc_iff.mp y).2 (hI w (by omega)))
        exact l35 m F2 1 1 hR (by omega) ho ⟨_, tre_0 hd⟩ (Or.inl (Nat.le_add_left _ _)) (fun y => by cases y)
  exact l3 m0 F 0 h0 (Nat.zero_le _) fxo.rf (fun w hw => absurd hw (Nat.not_lt_zero _))
/-- a row is used -/
theorem s_useRow (hN : nt_ok nn L E) (ha : a < nn) (hb : b < nn) {k : Int} (hcn : cn F nn L E) (hv : ∀ l, l < L → F 44 l = 0 ∨ F 44 l = 1 ∨ F 44 l = 4294967295) (hf : vfl L E st a b (fun l => vint (F 44 l)) k) (hd : dsc (F 43) a b = true) {r : Nat → Nat} (ht : tre nn L E st (fun l => vint (F 44 l)) a (F 43) r) (h : Cl k_Gr_useRow [(2, 40), (0, a), (0, b)] F v F') : fxo [44] F F' ∧ (∀ l, l < L → F' 44 l = 0 ∨ F' 44 l = 1 ∨ F' 44 l = 4294967295) ∧ vfl L E st a b (fun l => vint (F' 44 l)) (k + 1) := by
  have hn := hN.1
  have hL := hN.2.1
  obtain ⟨n0, h⟩ := c_Gr_useRow h
  obtain ⟨m0, -, h0⟩ := q_Gr_useRow_0 h
  have lp : ∀ (n : Nat) (F2 : fx_F) (x i : Nat), Rn n k_Gr_useRow 5 [(2, 40), (0, a), (3, 0), (0, x), (0, i), (3, 0)] [] F2 v F' → fxo [44] F F2 → (∀ l, l < L → F2 44 l = 0 ∨ F2 44 l = 1 ∨ F2 44 l = 4294967295) → bck nn L E st (fun l => vint (F 44 l)) a b (F 43) r k x (fun l => vint (F2 44 l)) → r x + i ≤ 9 → fxo [44] F F' ∧ (∀ l, l < L → F' 44 l = 0 ∨ F' 44 l = 1 ∨ F' 44 l = 4294967295) ∧ vfl L E st a b (fun l => vint (F' 44 l)) (k + 1) := by
    intro n
    induction n using Nat.strongRecOn with
    | ind n ih =>
      intro F2 x i h ho hv2 hB hri
      have hc2 := hcn.keep ho (by decide) (by decide) (by decide)
      have q := q_Gr_useRow_5 h
      replace q := q.2 (by rw [b_lt (by clear q; omega) (by decide)]; clear q; omega)
      by_cases e : x = a
      · obtain ⟨x1, x2⟩ := q.1 e
        clear q
        subst x2
        rw [e] at hB
        exact ⟨ho, hv2, bck_e hB⟩
      · obtain ⟨b1, b2, b3, b4, b5⟩ := bck_s hN ht hB e
        replace q := q.2 e
        rw [ho 43 x (by decide)] at q
        replace q := q.2 (dsc_iff.mp b3).2
        have hcx : F 43 x < 64 := by clear q; omega
        rw [b_and1, b_sh1 (show F 43 x < 2147483648 by clear q; omega), (hc2.2.2 _ b2).1, b_add (show i + 1 < 4294967296 by clear q; omega)] at q
        have hl : F 43 x / 2 < L := by clear q; omega
        have hvx := hv2 _ hl
        unfold cf at b4
        have go : ∀ (y m : Nat), m < n → Rn m k_Gr_useRow 5 [(2, 40), (0, a), (3, 0), (0, E (F 43 x)), (0, i + 1), (3, 0)] [] (fu F2 44 (F 43 x / 2) y) v F' → (y = 0 ∨ y = 1 ∨ y = 4294967295) → vint y = (if F 43 x % 2 = 0 then vint (F2 44 (F 43 x / 2)) + 1 else vint (F2 44 (F 43 x / 2)) - 1) → fxo [44] F F' ∧ (∀ l, l < L → F' 44 l = 0 ∨ F' 44 l = 1 ∨ F' 44 l = 4294967295) ∧ vfl L E st a b (fun l => vint (F' 44 l)) (k + 1) := by
          clear q
          intro y m hm hR hy hvy
          refine ih m hm _ (E (F 43 x)) (i + 1) hR (ho.wr (by decide)) (fun l hl2 => ?_) ?_ (by omega)
          · by_cases el : l = F 43 x / 2
            · rw [el, fu_same]; exact hy
            · rw [fu_i el]; exact hv2 l hl2
          · rw [show (fun l => vint (fu F2 44 (F 43 x / 2) y 44 l)) = stp (fun l => vint (F2 44 l)) (F 43 x) from funext (fun l => by
              unfold stp
              by_cases el : l = F 43 x / 2
              · rw [if_pos el, el, fu_same]; exact hvy
              · rw [if_neg el, fu_i el])]
            exact b1
        have ea0 : i_add 0 1 = 1 := b_add (by decide)
        have eam : i_add 4294967295 1 = 0 := by rw [i_add_eq]
        have es0 : i_add 0 4294967295 = 4294967295 := b_add (by decide)
        have es1 : i_add 1 4294967295 = 0 := by rw [i_add_eq]
        by_cases z : F 43 x % 2 = 0
        · obtain ⟨m, hm, hR⟩ := q.2 z
          clear q
          rw [if_pos z] at b4 go
          replace b4 : vint (F2 44 (F 43 x / 2)) ≤ 0 := b4
          rcases hvx with w | w | w
          · rw [w, ea0] at hR
            rw [w] at go
            exact go 1 m hm hR (by decide) (by decide)
          · rw [w] at b4
            exact absurd b4 (by decide)
          · rw [w, eam] at hR
            rw [w] at go
            exact go 0 m hm hR (by decide) (by decide)
        · obtain ⟨m, hm, hR⟩ := q.1 z
          clear q
          rw [if_neg z] at b4 go
          replace b4 : - vint (F2 44 (F 43 x / 2)) ≤ 0 := b4
          rcases hvx with w | w | w
          · rw [w, es0] at hR
            rw [w] at go
            exact go 4294967295 m hm hR (by decide) (by decide)
          · rw [w, es1] at hR
            rw [w] at go
            exact go 0 m hm hR (by decide) (by decide)
          · rw [w] at b4
            exact absurd b4 (by decide)
  have hr9 : r b ≤ 9 := by
    have h1 := ht.2.1 b hb hd
    have h2 := dsc_lt (cb := F 43) ha
    omega
  exact lp m0 F b 0 h0 fxo.rf hv (bck_0 hb hd hf) (by omega)
theorem s_countApart (hN : nt_ok nn L E) (hs : s < 2147483648) (ha : a < nn) (hb : b < nn) (hab : a ≠ b) (hcn : cn F nn L E) (h : Cl k_Gr_countApart [(2, 40), (0, a), (0, b), (0, s)] F v F') : ∃ (k : Nat) (f : Nat → Int), v = (0, k) ∧ k ≤ 20 ∧ vfl L E (bts s) a b f k ∧ (k = 20 ∨ ∃ S : Nat → Bool, cls L E (bts s) f S ∧ S a = true ∧ S b = false) := by
  have hn := hN.1
  have hL := hN.2.1
  obtain ⟨n0, h⟩ := c_Gr_countApart h
  obtain ⟨m0, -, h0⟩ := q_Gr_countApart_0 h
  have l35 : ∀ (n : Nat) (F2 : fx_F) (k : Nat), Rn n k_Gr_countApart 35 [(2, 40), (0, a), (0, b), (0, s), (0, k), (0, k)] [] F2 v F' → k ≤ 20 → cn F2 nn L E → (∀ l, l < L → F2 44 l = 0 ∨ F2 44 l = 1 ∨ F2 44 l = 4294967295) → vfl L E (bts s) a b (fun l => vint (F2 44 l)) k → ∃ (k : Nat) (f : Nat → Int), v = (0, k) ∧ k ≤ 20 ∧ vfl L E (bts s) a b f k ∧ (k = 20 ∨ ∃ S : Nat → Bool, cls L E (bts s) f S ∧ S a = true ∧ S b = false) := by
    intro n
    induction n using Nat.strongRecOn with
    | ind n ih =>
      intro F2 k h hk hc2 hv hf
      have q := q_Gr_countApart_35 h
      rcases Nat.lt_or_ge k 20 with z | z
      · obtain ⟨n1, F3, c1, Q1, Q2⟩ := q.2 (by rw [b_lt (by clear q; omega) (by decide)]; exact z)
        clear q
        obtain ⟨o3, x, x1, x2⟩ := s_findRow hN hs ha hb hab hc2 hv c1
        cases x1
        rcases x2 with ⟨y1, y2, r, y3⟩ | ⟨y1, S, y2⟩
        · obtain ⟨F4, c2, m, hm, hR⟩ := Q2 y1
          clear Q1 Q2
          have e44 : ∀ i, F3 44 i = F2 44 i := fun i => o3 44 i (by decide)
          have ef : (fun l => vint (F3 44 l)) = (fun l => vint (F2 44 l)) := funext (fun l => by rw [e44])
          obtain ⟨w1, w2, w3⟩ := s_useRow (st := bts s) (F := F3) hN ha hb (hc2.keep o3 (by decide) (by decide) (by decide)) (fun l hl => by rw [e44]; exact hv l hl) (by rw [ef]; exact hf) y2 (by rw [ef]; exact y3) c2
          rw [b_add (show k + 1 < 4294967296 by omega)] at hR
          refine ih m hm F4 (k + 1) hR z ((hc2.keep o3 (by decide) (by decide) (by decide)).keep w1 (by decide) (by decide) (by decide)) w2 ?_
          exact w3
        · obtain ⟨x1, x2⟩ := Q1 y1
          exact ⟨k, _, x1, hk, hf, Or.inr ⟨S, y2⟩⟩
      · obtain ⟨x1, x2⟩ := q.1 (by rw [b_le (by decide) (by clear q; omega)]; exact z)
        exact ⟨k, _, x1, hk, hf, Or.inl (by clear q; omega)⟩
  have l3 : ∀ (n : Nat) (F2 : fx_F) (l : Nat), Rn n k_Gr_countApart 3 [(2, 40), (0, a), (0, b), (0, s), (0, l), (3, 0)] [] F2 v F' → l ≤ L → cn F2 nn L E → (∀ i, i < l → F2 44 i = 0) → ∃ (k : Nat) (f : Nat → Int), v = (0, k) ∧ k ≤ 20 ∧ vfl L E (bts s) a b f k ∧ (k = 20 ∨ ∃ S : Nat → Bool, cls L E (bts s) f S ∧ S a = true ∧ S b = false) := by
    intro n
    induction n using Nat.strongRecOn with
    | ind n ih =>
      intro F2 l h hl hc2 hI
      have q := q_Gr_countApart_3 h
      rw [hc2.2.1] at q
      rcases Nat.lt_or_ge l L with z | z
      · obtain ⟨m, hm, hR⟩ := q.2 (by rw [b_lt (by clear q; omega) (by clear q; omega)]; exact z)
        clear q
        rw [b_add (show l + 1 < 4294967296 by omega)] at hR
        refine ih m hm _ (l + 1) hR z (hc2.keep (S := [44]) (fxo.rf.wr (by decide)) (by decide) (by decide) (by decide)) (fun i hi => ?_)
        by_cases e : i = l
        · rw [e, fu_same]
        · rw [fu_i e]; exact hI i (by omega)
      · obtain ⟨m, hm, hR⟩ := q.1 (by rw [b_le (by clear q; omega) (by clear q; omega)]; exact z)
        clear q
        have h44 : ∀ i, i < L → F2 44 i = 0 := fun i hi => hI i (by omega)
        refine l35 m F2 0 hR (Nat.zero_le _) hc2 (fun i hi => Or.inl (h44 i hi)) ⟨fun i hi => ?_, fun S _ _ => ?_⟩
        · show -1 ≤ vint (F2 44 i) ∧ vint (F2 44 i) ≤ 1 ∧ (bts s i = false → vint (F2 44 i) = 0)
          rw [h44 i hi]
          exact ⟨by decide, by decide, fun _ => rfl⟩
        · rw [cut_congr (g := fun _ => 0) L (fun i hi => by show vint (F2 44 i) = 0; rw [h44 i hi]; rfl)]
          exact cut_0 L
  exact l3 m0 F 0 h0 (Nat.zero_le _) hcn (fun i hi => absurd hi (Nat.not_lt_zero _))
/-- what the reference's row holds -/
def mcb (nn : Nat) (a : Nat) (cb : Nat → Nat) : Prop := cb a = 40 ∧ ∀ w, w < nn → cb w = 4294967295 ∨ cb w ≤ 40
theorem mcb_lt {cb : Nat → Nat} {w : Nat} (h : mcb nn a cb) (hw : w < nn) : (s_lt (cb w) 0 ↔ rch2 cb a w = false) ∧ (s_le 0 (cb w) ↔ rch2 cb a w = true) := by
  have e : rch2 cb a w = true ↔ cb w ≠ 4294967295 := by
    rw [rch2_iff, dsc_iff]
    refine ⟨fun z => ?_, fun z => ?_⟩
    · rcases z with y | y
      · rw [y, h.1]; decide
      · exact y.2
    · by_cases y : w = a
      · exact Or.inl y
      · exact Or.inr ⟨y, z⟩
  rcases h.2 w hw with z | z
  · rw [z, b_neg (by decide), b_pos (by decide)]
    have : rch2 cb a w = false := Bool.eq_false_iff.mpr (fun y => e.mp y z)
    rw [this]
    exact ⟨⟨fun _ => rfl, fun _ => by decide⟩, ⟨fun y => absurd y (by decide), fun y => by cases y⟩⟩
  · rw [b_neg (by omega), b_pos (by omega)]
    have : rch2 cb a w = true := e.mpr (by omega)
    rw [this]
    exact ⟨⟨fun y => by omega, fun y => by cases y⟩, ⟨fun _ => rfl, fun _ => by omega⟩⟩
theorem s_oneMore (hN : nt_ok nn L E) (ha : a < nn) (hb : b < nn) (hab : a ≠ b) (hm : mn G nn L E) (hst : ∀ l, l < L → st l = mst G l) (hv : ∀ l, l < L → G 200 l = 0 ∨ G 200 l = 1 ∨ G 200 l = 2) {k : Int} (hf : vfl L E st a b (fun l => gint (G 200 l)) k) (h : Cl k_M_oneMore [(2, 175), (0, a), (0, b)] G v G') : fxo [200, 201] G G' ∧ ∃ x, v = (0, x) ∧ ((x ≠ 0 ∧ (∀ l, l < L → G' 200 l = 0 ∨ G' 200 l = 1 ∨ G' 200 l = 2) ∧ vfl L E st a b (fun l => gint (G' 200 l)) (k + 1)) ∨ (x = 0 ∧ ∃ S : Nat → Bool, cls L E st (fun l => gint (G 200 l)) S ∧ S a = true ∧ S b = false)) := by
  have hn := hN.1
  have hL := hN.2.1
  have hmn := hm
  obtain ⟨n0, h⟩ := c_M_oneMore h
  obtain ⟨m0, -, h0⟩ := q_M_oneMore_0 h
  -- the way back
  have l158 : ∀ {cb r : Nat → Nat}, tre nn L E st (fun l => gint (G 200 l)) a cb r → ∀ (n : Nat) (G2 : fx_F) (x : Nat), Rn n k_M_oneMore 158 [(2, 175), (0, a), (3, 0), (3, 0), (0, x), (3, 0)] [] G2 v G' → fxo [200, 201] G G2 → (∀ i, G2 201 i = cb i) → (∀ l, l < L → G2 200 l = 0 ∨ G2 200 l = 1 ∨ G2 200 l = 2) → bck nn L E st (fun l => gint (G 200 l)) a b cb r k x (fun l => gint (G2 200 l)) → fxo [200, 201] G G' ∧ v = (0, 1) ∧ (∀ l, l < L → G' 200 l = 0 ∨ G' 200 l = 1 ∨ G' 200 l = 2) ∧ vfl L E st a b (fun l => gint (G' 200 l)) (k + 1) := by
    intro cb r ht n
    induction n using Nat.strongRecOn with
    | ind n ih =>
      intro G2 x h ho h201 hv2 hB
      have hm2 : mn G2 nn L E := hm.keep ho (by decide) (by decide) (by decide) (by decide)
      have q := q_M_oneMore_158 h
      by_cases e : x = a
      · obtain ⟨x1, x2⟩ := q.1 e
        clear q
        subst x2
        rw [e] at hB
        exact ⟨ho, x1, hv2, bck_e hB⟩
      · obtain ⟨b1, b2, b3, b4, b5⟩ := bck_s hN ht hB e
        replace q := q.2 e
        rw [h201 x, mFr hm2 hL b2, b_div (show cb x < 2147483648 by clear q; omega) (by decide) (by decide), b_rem (show cb x < 2147483648 by clear q; omega) (by decide) (by decide)] at q
        have hl : cb x / 2 < L := by clear q; omega
        have hvx := hv2 _ hl
        unfold cf at b4
        have go : ∀ (y m : Nat), m < n → Rn m k_M_oneMore 158 [(2, 175), (0, a), (3, 0), (3, 0), (0, E (cb x)), (3, 0)] [] (fu G2 200 (cb x / 2) y) v G' → (y = 0 ∨ y = 1 ∨ y = 2) → gint y = (if cb x % 2 = 0 then gint (G2 200 (cb x / 2)) + 1 else gint (G2 200 (cb x / 2)) - 1) → fxo [200, 201] G G' ∧ v = (0, 1) ∧ (∀ l, l < L → G' 200 l = 0 ∨ G' 200 l = 1 ∨ G' 200 l = 2) ∧ vfl L E st a b (fun l => gint (G' 200 l)) (k + 1) := by
          clear q
          intro y m hm hR hy hvy
          refine ih m hm _ (E (cb x)) hR (ho.wr (by decide)) (fun i => by rw [fu_p (by decide)]; exact h201 i) (fun l hl2 => ?_) ?_
          · by_cases el : l = cb x / 2
            · rw [el, fu_same]; exact hy
            · rw [fu_i el]; exact hv2 l hl2
          · rw [show (fun l => gint (fu G2 200 (cb x / 2) y 200 l)) = stp (fun l => gint (G2 200 l)) (cb x) from funext (fun l => by
              unfold stp
              by_cases el : l = cb x / 2
              · rw [if_pos el, el, fu_same]; exact hvy
              · rw [if_neg el, fu_i el])]
            exact b1
        rcases Nat.mod_two_eq_zero_or_one (cb x) with z | z
        · rw [z, b_add (show 1 + 0 < 4294967296 by decide)] at q
          rw [if_pos z] at b4 go
          replace b4 : gint (G2 200 (cb x / 2)) ≤ 0 := b4
          rcases hvx with w | w | w
          · obtain ⟨m, hm, hR⟩ := q.2 w
            clear q
            rw [w] at go
            exact go 1 m hm hR (by decide) (by decide)
          · rw [w] at b4
            exact absurd b4 (by decide)
          · obtain ⟨m, hm, hR⟩ := q.1 (by rw [w]; decide)
            clear q
            rw [w] at go
            exact go 0 m hm hR (by decide) (by decide)
        · have z0 : ¬ cb x % 2 = 0 := by clear q; omega
          rw [z, b_add (show 1 + 1 < 4294967296 by decide)] at q
          rw [if_neg z0] at b4 go
          replace b4 : - gint (G2 200 (cb x / 2)) ≤ 0 := b4
          rcases hvx with w | w | w
          · obtain ⟨m, hm, hR⟩ := q.2 w
            clear q
            rw [w] at go
            exact go 2 m hm hR (by decide) (by decide)
          · obtain ⟨m, hm, hR⟩ := q.1 (by rw [w]; decide)
            clear q
            rw [w] at go
            exact go 0 m hm hR (by decide) (by decide)
          · rw [w] at b4
            exact absurd b4 (by decide)
  -- what a search needs
  let W : fx_F → Prop := fun G2 => fxo [201] G G2 ∧ mcb nn a (G2 201) ∧ ∃ r, tre nn L E st (fun l => gint (G 200 l)) a (G2 201) r
  -- found
  have yes : ∀ (G2 : fx_F), W G2 → s_le 0 (G2 201 b) → (∃ m, Rn m k_M_oneMore 158 [(2, 175), (0, a), (3, 0), (3, 0), (0, b), (3, 0)] [] G2 v G') → fxo [200, 201] G G' ∧ ∃ x, v = (0, x) ∧ ((x ≠ 0 ∧ (∀ l, l < L → G' 200 l = 0 ∨ G' 200 l = 1 ∨ G' 200 l = 2) ∧ vfl L E st a b (fun l => gint (G' 200 l)) (k + 1)) ∨ (x = 0 ∧ ∃ S : Nat → Bool, cls L E st (fun l => gint (G 200 l)) S ∧ S a = true ∧ S b = false)) := by
    rintro G2 ⟨ho, hc, r, ht⟩ hle ⟨m, hR⟩
    have hd : dsc (G2 201) a b = true := ((rch2_iff.mp ((mcb_lt hc hb).2.mp hle))).resolve_left (fun z => hab z.symm)
    have e200 : ∀ i, G2 200 i = G 200 i := fun i => ho 200 i (by decide)
    have ef : (fun l => gint (G2 200 l)) = (fun l => gint (G 200 l)) := funext (fun l => by rw [e200])
    obtain ⟨w1, w2, w3, w4⟩ := l158 ht m G2 b hR (ho.mono (by decide)) (fun _ => rfl) (fun l hl => by rw [e200]; exact hv l hl) (by rw [ef]; exact bck_0 hb hd hf)
    exact ⟨w1, 1, w2, Or.inl ⟨by decide, w3, w4⟩⟩
  have l33 : ∀ (n : Nat) (G2 : fx_F) (ch : Nat), Rn n k_M_oneMore 33 [(2, 175), (0, a), (0, b), (0, ch), (3, 0), (3, 0)] [] G2 v G' → W G2 → (ch = 0 → ∀ c, c < 2 * L → bar E st (fun l => gint (G 200 l)) a (G2 201) c) → fxo [200, 201] G G' ∧ ∃ x, v = (0, x) ∧ ((x ≠ 0 ∧ (∀ l, l < L → G' 200 l = 0 ∨ G' 200 l = 1 ∨ G' 200 l = 2) ∧ vfl L E st a b (fun l => gint (G' 200 l)) (k + 1)) ∨ (x = 0 ∧ ∃ S : Nat → Bool, cls L E st (fun l => gint (G 200 l)) S ∧ S a = true ∧ S b = false)) := by
    intro n
    induction n using Nat.strongRecOn with
    | ind n ih =>
      intro G2 ch h hW hcl
      obtain ⟨ho, hc, ht⟩ := id hW
      have q := q_M_oneMore_33 h
      have no : s_lt (G2 201 b) 0 → ch = 0 → v = (0, 0) ∧ G' = G2 → fxo [200, 201] G G' ∧ ∃ x, v = (0, x) ∧ ((x ≠ 0 ∧ (∀ l, l < L → G' 200 l = 0 ∨ G' 200 l = 1 ∨ G' 200 l = 2) ∧ vfl L E st a b (fun l => gint (G' 200 l)) (k + 1)) ∨ (x = 0 ∧ ∃ S : Nat → Bool, cls L E st (fun l => gint (G 200 l)) S ∧ S a = true ∧ S b = false)) := by
        rintro hlt hz ⟨x1, x2⟩
        subst x2
        exact ⟨ho.mono (by decide), 0, x1, Or.inr ⟨rfl, rch2 (G' 201) a, fun c hc => hcl hz c hc, rch2_iff.mpr (Or.inl rfl), (mcb_lt hc hb).1.mp hlt⟩⟩
      by_cases hz : ch = 0
      · replace q := q.1 hz
        rcases s_tot 0 (G2 201 b) with y | y
        · obtain ⟨m, hm, hR⟩ := q.1 y
          exact yes G2 hW y ⟨m, hR⟩
        · exact no y hz (q.2 y)
      · replace q := q.2 hz
        rcases s_tot 0 (G2 201 b) with y | y
        · obtain ⟨m, hm, hR⟩ := (q.1 y).1 y
          exact yes G2 hW y ⟨m, hR⟩
        · obtain ⟨m, hm, hR⟩ := q.2 y
          clear q
          have l51 : ∀ (n2 : Nat) (G3 : fx_F) (ch c : Nat), n2 < n → Rn n2 k_M_oneMore 51 [(2, 175), (0, a), (0, b), (0, ch), (0, c), (3, 0)] [] G3 v G' → c ≤ 2 * L → W G3 → (ch = 0 → ∀ c', c' < c → bar E st (fun l => gint (G 200 l)) a (G3 201) c') → fxo [200, 201] G G' ∧ ∃ x, v = (0, x) ∧ ((x ≠ 0 ∧ (∀ l, l < L → G' 200 l = 0 ∨ G' 200 l = 1 ∨ G' 200 l = 2) ∧ vfl L E st a b (fun l => gint (G' 200 l)) (k + 1)) ∨ (x = 0 ∧ ∃ S : Nat → Bool, cls L E st (fun l => gint (G 200 l)) S ∧ S a = true ∧ S b = false)) := by
            intro n2
            induction n2 using Nat.strongRecOn with
            | ind n2 ih2 =>
              intro G3 ch c hn2 h hc2 hW3 hcl3
              obtain ⟨ho3, hc3, r, ht3⟩ := id hW3
              have hm3 : mn G3 nn L E := hmn.keep ho3 (by decide) (by decide) (by decide) (by decide)
              have q := q_M_oneMore_51 h
              rw [hm3.2.2.1, b_mul (show 2 * L < 4294967296 by clear q; omega)] at q
              rcases Nat.lt_or_ge c (2 * L) with y2 | y2
              · replace q := q.2 (by rw [b_lt (by clear q; omega) (by clear q; omega)]; exact y2)
                rw [mTo hm3 hL y2, mFr hm3 hL y2, b_div (show c < 2147483648 by clear q; omega) (by decide) (by decide), b_rem (show c < 2147483648 by clear q; omega) (by decide) (by decide), b_add0 (show c / 2 < 4294967296 by clear q; omega), b_add (show c + 1 < 4294967296 by clear q; omega), b_add (show 1 + c % 2 < 4294967296 by clear q; omega), ho3 176 _ (by decide), ho3 200 _ (by decide)] at q
                have e1 := (hN.2.2 c y2).1
                have e2 := (hN.2.2 _ (nf_lt y2)).1
                have hl : c / 2 < L := by clear q; omega
                have old : bar E st (fun l => gint (G 200 l)) a (G3 201) c → (∃ m, m < n2 ∧ Rn m k_M_oneMore 51 [(2, 175), (0, a), (0, b), (0, ch), (0, c + 1), (3, 0)] [] G3 v G') → fxo [200, 201] G G' ∧ ∃ x, v = (0, x) ∧ ((x ≠ 0 ∧ (∀ l, l < L → G' 200 l = 0 ∨ G' 200 l = 1 ∨ G' 200 l = 2) ∧ vfl L E st a b (fun l => gint (G' 200 l)) (k + 1)) ∨ (x = 0 ∧ ∃ S : Nat → Bool, cls L E st (fun l => gint (G 200 l)) S ∧ S a = true ∧ S b = false)) := by
                  clear q
                  rintro hbar ⟨m, hm, hR⟩
                  refine ih2 m hm G3 ch (c + 1) (by omega) hR y2 hW3 (fun eg c' hc' => ?_)
                  by_cases ec : c' = c
                  · rw [ec]; exact hbar
                  · exact hcl3 eg c' (by omega)
                have hsc : st (c / 2) = true ↔ G 176 (c / 2) = 1 := by
                  rw [hst _ hl]
                  unfold mst
                  exact rx_beq
                have hcf : cf (fun l => gint (G 200 l)) c ≤ 0 ↔ G 200 (c / 2) ≠ 1 + c % 2 := by
                  clear q
                  unfold cf
                  rcases Nat.mod_two_eq_zero_or_one c with z | z
                  · rw [if_pos z, z]
                    show gint (G 200 (c / 2)) ≤ 0 ↔ _
                    rcases hv _ hl with w | w | w <;> rw [w] <;> decide
                  · rw [if_neg (by omega), z]
                    show - gint (G 200 (c / 2)) ≤ 0 ↔ _
                    rcases hv _ hl with w | w | w <;> rw [w] <;> decide
                by_cases d1 : G 176 (c / 2) = 1
                · replace q := q.2 d1
                  rcases s_tot 0 (G3 201 (E c)) with d2 | d2
                  · replace q := q.2 d2
                    rcases s_tot 0 (G3 201 (E (nf c))) with d3 | d3
                    · exact old (fun _ _ _ => (mcb_lt hc3 e2).2.mp d3) (q.1 d3)
                    · replace q := q.2 d3
                      by_cases d4 : G 200 (c / 2) = 1 + c % 2
                      · exact old (fun _ z _ => absurd d4 (hcf.mp z)) (q.2 d4)
                      · obtain ⟨m, hm, hR⟩ := q.1 d4
                        clear q
                        have hnr := (mcb_lt hc3 e2).1.mp d3
                        have hne : E (nf c) ≠ a := fun z => by rw [rch2_iff.mpr (Or.inl z)] at hnr; cases hnr
                        have hd0 : dsc (G3 201) a (E (nf c)) = false := Bool.eq_false_iff.mpr (fun z => by rw [rch2_iff.mpr (Or.inr z)] at hnr; cases hnr)
                        have hcb : ∀ w, fu G3 201 (E (nf c)) c 201 w = if w = E (nf c) then c else G3 201 w := fun w => by
                          by_cases e : w = E (nf c)
                          · rw [e, fu_same, if_pos rfl]
                          · rw [fu_i e, if_neg e]
                        obtain ⟨t1, t2, t3⟩ := tre_s (cb2 := fu G3 201 (E (nf c)) c 201) hN ht3 y2 (hsc.mpr d1) (hcf.mpr d4) (rch2_iff.mp ((mcb_lt hc3 e1).2.mp d2)) hne hd0 hcb
                        refine ih2 m hm _ 1 (c + 1) (by omega) hR y2 ⟨ho3.wr (by decide), ⟨?_, fun w hw => ?_⟩, t1⟩ (fun z => by cases z)
                        · rw [hcb, if_neg (fun z => hne z.symm)]; exact hc3.1
                        · rw [hcb]
                          by_cases e : w = E (nf c)
                          · rw [if_pos e]; exact Or.inr (by omega)
                          · rw [if_neg e]; exact hc3.2 w hw
                  · refine old (fun _ _ z => ?_) (q.1 d2)
                    rw [(mcb_lt hc3 e1).1.mp d2] at z; cases z
                · exact old (fun z _ _ => absurd (hsc.mp z) d1) (q.1 d1)
              · obtain ⟨m, hm, hR⟩ := q.1 (by rw [b_le (by clear q; omega) (by clear q; omega)]; exact y2)
                clear q
                exact ih m (by omega) G3 ch hR hW3 (fun eg c' hc' => hcl3 eg c' (by omega))
          exact l51 m G2 0 0 hm hR (Nat.zero_le _) hW (fun _ c' hc' => absurd hc' (Nat.not_lt_zero _))
  have l2 : ∀ (n : Nat) (G2 : fx_F) (i : Nat), Rn n k_M_oneMore 2 [(2, 175), (0, a), (0, b), (0, i), (3, 0), (3, 0)] [] G2 v G' → i ≤ 10 → fxo [201] G G2 → (∀ w, w < i → G2 201 w = if w = a then 40 else 4294967295) → fxo [200, 201] G G' ∧ ∃ x, v = (0, x) ∧ ((x ≠ 0 ∧ (∀ l, l < L → G' 200 l = 0 ∨ G' 200 l = 1 ∨ G' 200 l = 2) ∧ vfl L E st a b (fun l => gint (G' 200 l)) (k + 1)) ∨ (x = 0 ∧ ∃ S : Nat → Bool, cls L E st (fun l => gint (G 200 l)) S ∧ S a = true ∧ S b = false)) := by
    intro n
    induction n using Nat.strongRecOn with
    | ind n ih =>
      intro G2 i h hi ho hI
      have q := q_M_oneMore_2 h
      rcases Nat.lt_or_ge i 10 with z | z
      · replace q := q.2 (by rw [b_lt (by clear q; omega) (by decide)]; exact z)
        rw [b_add (show i + 1 < 4294967296 by clear q; omega)] at q
        have go : ∀ y m, y = (if i = a then 40 else 4294967295) → m < n → Rn m k_M_oneMore 2 [(2, 175), (0, a), (0, b), (0, i + 1), (3, 0), (3, 0)] [] (fu G2 201 i y) v G' → fxo [200, 201] G G' ∧ ∃ x, v = (0, x) ∧ ((x ≠ 0 ∧ (∀ l, l < L → G' 200 l = 0 ∨ G' 200 l = 1 ∨ G' 200 l = 2) ∧ vfl L E st a b (fun l => gint (G' 200 l)) (k + 1)) ∨ (x = 0 ∧ ∃ S : Nat → Bool, cls L E st (fun l => gint (G 200 l)) S ∧ S a = true ∧ S b = false)) := by
          clear q
          intro y m hy hm hR
          refine ih m hm _ (i + 1) hR z (ho.wr (by decide)) (fun w hw => ?_)
          by_cases e : w = i
          · rw [e, fu_same]; exact hy
          · rw [fu_i e]; exact hI w (by omega)
        by_cases e : i = a
        · obtain ⟨m, hm, hR⟩ := q.2 e
          exact go 40 m (by rw [if_pos e]) hm hR
        · obtain ⟨m, hm, hR⟩ := q.1 e
          exact go 4294967295 m (by rw [if_neg e]) hm hR
      · obtain ⟨m, hm, hR⟩ := q.1 (by rw [b_le (by decide) (by clear q; omega)]; exact z)
        clear q
        have hI2 : ∀ w, w < nn → G2 201 w = if w = a then 40 else 4294967295 := fun w hw => hI w (by omega)
        have hd : ∀ w, w < nn → dsc (G2 201) a w = false := fun w hw => Bool.eq_false_iff.mpr (fun y => by
          obtain ⟨y1, y2⟩ := dsc_iff.mp y
          rw [hI2 w hw, if_neg y1] at y2
          exact y2 rfl)
        refine l33 m G2 1 hR ⟨ho, ⟨by rw [hI2 a ha, if_pos rfl], fun w hw => ?_⟩, _, tre_0 hd⟩ (fun y => by cases y)
        rw [hI2 w hw]
        by_cases e : w = a
        · rw [if_pos e]; exact Or.inr (Nat.le_refl _)
        · rw [if_neg e]; exact Or.inl rfl
  exact l2 m0 G 0 h0 (Nat.zero_le _) fxo.rf (fun w hw => absurd hw (Nat.not_lt_zero _))
theorem o_apart (ha : a < 4294967296) (hb : b < 4294967296) (h : lr F G nn L E C N R) (hF : Cl k_T_apart [(2, 2), (0, a), (0, b)] F v F') (hG : Cl k_M_apart [(2, 175), (0, a), (0, b)] G v2 G') : v = v2 ∧ lr F' G' nn L E C N R ∧ sF F F' ∧ sG G G' := by
  refine ⟨?_, h.kk (h_T_apart h hF) (g_M_apart hG)⟩
  have hN := h.1.1
  have hn := hN.1
  have hL := hN.2.1
  have hlt := sc_lt hN h.2.2.2.1.2
  have hI := h.mgi
  obtain ⟨nF, hF⟩ := c_T_apart hF
  obtain ⟨nG, hG⟩ := c_M_apart hG
  have Q := q_T_apart_0 hF
  have QG := q_M_apart_0 hG
  rw [h.2.1.1.1] at Q
  rw [h.2.2.1.1.2.1] at QG
  by_cases hl : a < nn
  · obtain ⟨i1, i2, i3⟩ := in_y hl (show nn ≤ 40 by clear Q QG; omega)
    replace Q := (Q.2 i1).2 i2
    replace QG := (QG.2 i1).2 i3
    by_cases hl2 : b < nn
    · obtain ⟨i1, i2, i3⟩ := in_y hl2 (show nn ≤ 40 by clear Q QG; omega)
      replace Q := (Q.2 i1).2 i2
      replace QG := (QG.2 i1).2 i3
      by_cases hab : a = b
      · exact (Q.2 hab).1.trans (QG.2 hab).1.symm
      · obtain ⟨n1, F1, c1, x1, x2⟩ := Q.1 hab
        obtain ⟨m0, hm0, hR0⟩ := QG.1 hab
        clear Q QG
        obtain ⟨kc, fc, w1, w2, w3, w4⟩ := s_countApart hN (show F (F 2 13) 2 < 2147483648 by omega) hl hl2 hab h.2.1.1 c1
        cases w1
        -- the reference
        have l46 : ∀ (n : Nat) (G2 : fx_F) (k : Nat), Rn n k_M_apart 46 [(2, 175), (0, a), (0, b), (0, k)] [] G2 v2 G' → fxo [200, 201] G G2 → (∀ l, l < L → G2 200 l = 0 ∨ G2 200 l = 1 ∨ G2 200 l = 2) → vfl L E (bts (F (F 2 13) 2)) a b (fun l => gint (G2 200 l)) k → ∃ (k : Nat) (f : Nat → Int), v2 = (0, k) ∧ vfl L E (bts (F (F 2 13) 2)) a b f k ∧ ∃ S : Nat → Bool, cls L E (bts (F (F 2 13) 2)) f S ∧ S a = true ∧ S b = false := by
          intro n
          induction n using Nat.strongRecOn with
          | ind n ih =>
            intro G2 k h2 ho hv hf
            have hkL := vfl_b hab hf
            have hm2 : mn G2 nn L E := hI.1.keep ho (by decide) (by decide) (by decide) (by decide)
            obtain ⟨n1, G3, c3, Q1, Q2⟩ := q_M_apart_46 h2
            obtain ⟨o3, x, y1, y2⟩ := s_oneMore (st := bts (F (F 2 13) 2)) hN hl hl2 hab hm2 (fun l hl => by rw [hI.2.1 l hl]; unfold mst; rw [ho 176 _ (by decide)]) hv hf c3
            cases y1
            rcases y2 with ⟨z1, z2, z3⟩ | ⟨z1, S, z2⟩
            · obtain ⟨m, hm, hR⟩ := Q2 z1
              clear Q1 Q2
              rw [b_add (show k + 1 < 4294967296 by omega)] at hR
              exact ih m hm G3 (k + 1) hR (ho.tr o3) z2 z3
            · exact ⟨k, _, (Q1 z1).1, hf, S, z2⟩
        have l25 : ∀ (n : Nat) (G2 : fx_F) (l : Nat), Rn n k_M_apart 25 [(2, 175), (0, a), (0, b), (0, l)] [] G2 v2 G' → l ≤ 20 → fxo [200, 201] G G2 → (∀ i, i < l → G2 200 i = 0) → ∃ (k : Nat) (f : Nat → Int), v2 = (0, k) ∧ vfl L E (bts (F (F 2 13) 2)) a b f k ∧ ∃ S : Nat → Bool, cls L E (bts (F (F 2 13) 2)) f S ∧ S a = true ∧ S b = false := by
          intro n
          induction n using Nat.strongRecOn with
          | ind n ih =>
            intro G2 l h2 hl20 ho hI2
            have q := q_M_apart_25 h2
            rcases Nat.lt_or_ge l 20 with z | z
            · obtain ⟨m, hm, hR⟩ := q.2 (by rw [b_lt (by clear q; omega) (by decide)]; exact z)
              clear q
              rw [b_add (show l + 1 < 4294967296 by omega)] at hR
              refine ih m hm _ (l + 1) hR z (ho.wr (by decide)) (fun i hi => ?_)
              by_cases e : i = l
              · rw [e, fu_same]
              · rw [fu_i e]; exact hI2 i (by omega)
            · obtain ⟨m, hm, hR⟩ := q.1 (by rw [b_le (by decide) (by clear q; omega)]; exact z)
              clear q
              have h200 : ∀ i, i < L → G2 200 i = 0 := fun i hi => hI2 i (by omega)
              refine l46 m G2 0 hR ho (fun i hi => Or.inl (h200 i hi)) ⟨fun i hi => ?_, fun S _ _ => ?_⟩
              · show -1 ≤ gint (G2 200 i) ∧ gint (G2 200 i) ≤ 1 ∧ (bts (F (F 2 13) 2) i = false → gint (G2 200 i) = 0)
                rw [h200 i hi]
                exact ⟨by decide, by decide, fun _ => rfl⟩
              · rw [cut_congr (g := fun _ => 0) L (fun i hi => by show gint (G2 200 i) = 0; rw [h200 i hi]; rfl)]
                exact cut_0 L
        obtain ⟨km, fm, v1, v3, S, v4, v5, v6⟩ := l25 m0 G 0 hR0 (Nat.zero_le _) fxo.rf (fun i hi => absurd hi (Nat.not_lt_zero _))
        have a1 := mx v3 v4 v5 v6 w3
        have a2 := vfl_b hab v3
        have e : n1 = km := by
          rcases w4 with z | ⟨S', z1, z2, z3⟩
          · omega
          · have a3 := mx w3 z1 z2 z3 v3
            omega
        rw [x1, v1, e]
    · rcases in_n hl2 hb (show nn ≤ 40 by clear Q QG; omega) with z | ⟨z1, z2, z3⟩
      · exact (Q.1 z).1.trans (QG.1 z).1.symm
      · exact ((Q.2 z1).1 z2).1.trans ((QG.2 z1).1 z3).1.symm
  · rcases in_n hl ha (show nn ≤ 40 by clear Q QG; omega) with z | ⟨z1, z2, z3⟩
    · exact (Q.1 z).1.trans (QG.1 z).1.symm
    · exact ((Q.2 z1).1 z2).1.trans ((QG.2 z1).1 z3).1.symm
end APART
