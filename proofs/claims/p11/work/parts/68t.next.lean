/-! Channels by which a shortest way goes on -/
def lds (L : Nat) (E : Nat → Nat) (st u : Nat → Bool) (g c s : Nat) : Prop := ∃ d, gc L E st u c (2 * E c + s) (2 * E (nf c) + bh u c) ∧ gd L E st u g (d + 1) (2 * E c + s) ∧ gd L E st u g d (2 * E (nf c) + bh u c)
section NEXT
variable {nn L s p g up : Nat} {E : Nat → Nat} {st u : Nat → Bool} {v : fx_V} {F' : fx_F}
theorem s_leadsOn (hN : nt_ok nn L E) (hg : g < nn) (hs : s < 2147483648) (hp : 24 ≤ p) {c t : Nat} (hc : c < 2 * L) (ht : t < 2) {F : fx_F} (hcn : cn F nn L E) (hr : rcs F nn L E p up s) (h : Cl k_Ro_leadsOn [(2, p), (0, g), (0, c), (0, t)] F v F') : F' = F ∧ ((v = (0, 1) ∧ lds L E (bts s) (bts up) g c t) ∨ (v = (0, 0) ∧ ¬ lds L E (bts s) (bts up) g c t)) := by
  obtain ⟨n, h⟩ := c_Ro_leadsOn h
  have hL := hN.2.1
  have hn := hN.1
  have e1 : E c < nn := (hN.2.2 c hc).1
  have e2 : E (nf c) < nn := (hN.2.2 _ (nf_lt hc)).1
  obtain ⟨r1, r2, r3, r4, r5⟩ := hr
  have hb := bh_le (bts up) c
  have hx := r5 g hg (2 * E c + t) (by omega)
  have hy := r5 g hg (2 * E (nf c) + bh (bts up) c) (by omega)
  replace hx : (F (p + 1) (20 * g + (2 * E c + t)) ≠ 4294967295 → gd L E (bts s) (bts up) g (F (p + 1) (20 * g + (2 * E c + t))) (2 * E c + t)) ∧ ∀ d, gd L E (bts s) (bts up) g d (2 * E c + t) → F (p + 1) (20 * g + (2 * E c + t)) = d := hx
  replace hy : (F (p + 1) (20 * g + (2 * E (nf c) + bh (bts up) c)) ≠ 4294967295 → gd L E (bts s) (bts up) g (F (p + 1) (20 * g + (2 * E (nf c) + bh (bts up) c))) (2 * E (nf c) + bh (bts up) c)) ∧ ∀ d, gd L E (bts s) (bts up) g d (2 * E (nf c) + bh (bts up) c) → F (p + 1) (20 * g + (2 * E (nf c) + bh (bts up) c)) = d := hy
  have hlt : F (p + 1) (20 * g + (2 * E c + t)) ≠ 4294967295 → F (p + 1) (20 * g + (2 * E c + t)) < 20 := fun z => by
    have := gd_lt hN hg (hx.1 z); omega
  have i1 : i_add (i_add (i_mul g 20) (i_mul 2 (E c))) t = 20 * g + (2 * E c + t) := by
    rw [b_mul (show g * 20 < 4294967296 by omega), b_mul (show 2 * E c < 4294967296 by omega), b_add (show g * 20 + 2 * E c < 4294967296 by omega), b_add (show g * 20 + 2 * E c + t < 4294967296 by omega)]; omega
  have i2 : i_add (i_mul g 20) (i_add (i_mul 2 (E (nf c))) (bh (bts up) c)) = 20 * g + (2 * E (nf c) + bh (bts up) c) := by
    rw [b_mul (show g * 20 < 4294967296 by omega), b_mul (show 2 * E (nf c) < 4294967296 by omega), b_add (show 2 * E (nf c) + bh (bts up) c < 4294967296 by omega), b_add (show g * 20 + (2 * E (nf c) + bh (bts up) c) < 4294967296 by omega)]; omega
  have q := q_Ro_leadsOn_0 h
  rw [r2, b_bit hs (show c < 64 by clear q; omega), (hcn.2.2 c hc).1, (hcn.2.2 c hc).2, r4 c hc, i1, i2] at q
  have no : ¬ lds L E (bts s) (bts up) g c t → v = (0, 0) ∧ F' = F → F' = F ∧ ((v = (0, 1) ∧ lds L E (bts s) (bts up) g c t) ∨ (v = (0, 0) ∧ ¬ lds L E (bts s) (bts up) g c t)) := fun z ⟨x1, x2⟩ => ⟨x2, Or.inr ⟨x1, z⟩⟩
  cases hst : s.testBit (c / 2) with
  | false =>
    rw [hst, if_neg (by decide)] at q
    refine no (fun ⟨d, z, _⟩ => ?_) (q.1 (by decide))
    have := z.2.1
    rw [show bts s (c / 2) = s.testBit (c / 2) from rfl, hst] at this
    cases this
  | true =>
    rw [hst, if_pos rfl] at q
    replace q := q.2 rfl
    rcases Nat.lt_or_ge (bh (bts up) c) t with z | z
    · refine no (fun ⟨d, y, _⟩ => ?_) (q.2 (by rw [b_lt (by clear q; omega) (by clear q; omega)]; exact z))
      have := y.2.2.2.1
      clear q
      omega
    · replace q := q.1 (by rw [b_le (by clear q; omega) (by clear q; omega)]; exact z)
      have hgc : gc L E (bts s) (bts up) c (2 * E c + t) (2 * E (nf c) + bh (bts up) c) := ⟨hc, hst, by clear q; omega, by clear q; omega, rfl⟩
      by_cases w : F (p + 1) (20 * g + (2 * E c + t)) = 4294967295
      · rw [w] at q
        refine no (fun ⟨d, _, y, _⟩ => ?_) (q.1 (by rw [b_le_m2 (by decide)]; trivial))
        have a := hx.2 _ y
        have b := gd_lt hN hg y
        clear q
        omega
      · have w2 := hlt w
        by_cases w0 : F (p + 1) (20 * g + (2 * E c + t)) = 0
        · refine no (fun ⟨d, _, y, _⟩ => ?_) (q.1 (by rw [w0, b_le (by decide) (by decide)]; exact Nat.le_refl 0))
          have a := hx.2 _ y
          clear q
          omega
        · replace q := q.2 (by rw [b_lt (by decide) (by clear q; omega)]; clear q; omega)
          rw [b_sub (show 1 ≤ _ by clear q; omega) (by clear q; omega)] at q
          by_cases w3 : F (p + 1) (20 * g + (2 * E (nf c) + bh (bts up) c)) = F (p + 1) (20 * g + (2 * E c + t)) - 1
          · obtain ⟨x1, x2⟩ := q.2 w3
            clear q
            refine ⟨x2, Or.inl ⟨x1, F (p + 1) (20 * g + (2 * E c + t)) - 1, hgc, ?_, ?_⟩⟩
            · rw [show F (p + 1) (20 * g + (2 * E c + t)) - 1 + 1 = F (p + 1) (20 * g + (2 * E c + t)) by omega]
              exact hx.1 w
            · rw [← w3]; exact hy.1 (by omega)
          · refine no (fun ⟨d, _, y, y2⟩ => w3 ?_) (q.1 w3)
            have a := hx.2 _ y
            have b := hy.2 _ y2
            clear q
            omega
theorem s_isNext (hN : nt_ok nn L E) (hg : g < nn) {c t : Nat} (hc : c < 2 * L) (ht : t < 2) {F : fx_F} (hI : mgi F nn L E st u) (hr : mrow nn L E st u g (fun x => F 193 (20 * g + x))) (h : Cl k_M_isNext [(2, 175), (0, g), (0, c), (0, t)] F v F') : F' = F ∧ ((v = (0, 1) ∧ lds L E st u g c t) ∨ (v = (0, 0) ∧ ¬ lds L E st u g c t)) := by
  obtain ⟨n, h⟩ := c_M_isNext h
  have hL := hN.2.1
  have hn := hN.1
  have e1 : E c < nn := (hN.2.2 c hc).1
  have e2 : E (nf c) < nn := (hN.2.2 _ (nf_lt hc)).1
  obtain ⟨hm, hst, hu⟩ := hI
  have hb := bh_le u c
  have sc : st (c / 2) = true ↔ F 176 (c / 2) = 1 := by rw [hst _ (by omega)]; exact rx_beq
  have upc : E (nf c) = F 176 (20 + c / 2) ↔ isup u c = true := by rw [hu (c / 2) (by omega)]; exact isup_ue hN hc
  have bu : (E (nf c) = F 176 (20 + c / 2) → bh u c = 0) ∧ (E (nf c) ≠ F 176 (20 + c / 2) → bh u c = 1) := by
    unfold bh
    refine ⟨fun z => by rw [if_pos (upc.mp z)], fun z => by rw [if_neg (fun y => z (upc.mpr y))]⟩
  have ix : ∀ x t, x < nn → t < 2 → i_add (i_add (i_mul 20 g) (i_mul 2 x)) t = 20 * g + (2 * x + t) := fun x t hx ht => by
    rw [b_mul (show 20 * g < 4294967296 by omega), b_mul (show 2 * x < 4294967296 by omega), b_add (show 20 * g + 2 * x < 4294967296 by omega), b_add (show 20 * g + 2 * x + t < 4294967296 by omega), Nat.add_assoc]
  have hle : ∀ x t, x < nn → t < 2 → F 193 (20 * g + (2 * x + t)) ≤ 100000 := fun x t hx ht => (hr (2 * x + t) (by omega)).1
  have ad : ∀ x t, x < nn → t < 2 → i_add 1 (F 193 (20 * g + (2 * x + t))) = 1 + F 193 (20 * g + (2 * x + t)) := fun x t hx ht => by
    have := hle x t hx ht
    rw [b_add (by omega)]
  have lt1 : s_lt (F 193 (20 * g + (2 * E c + t))) 100000 = (F 193 (20 * g + (2 * E c + t)) < 100000) := by
    have := hle _ _ e1 ht
    exact b_lt (by omega) (by decide)
  have le1 : s_le 100000 (F 193 (20 * g + (2 * E c + t))) = (100000 ≤ F 193 (20 * g + (2 * E c + t))) := by
    have := hle _ _ e1 ht
    exact b_le (by decide) (by omega)
  have hx := hr (2 * E c + t) (by omega)
  replace hx : F 193 (20 * g + (2 * E c + t)) ≤ 100000 ∧ (F 193 (20 * g + (2 * E c + t)) < 100000 → gd L E st u g (F 193 (20 * g + (2 * E c + t))) (2 * E c + t)) ∧ ∀ d, gd L E st u g d (2 * E c + t) → F 193 (20 * g + (2 * E c + t)) = d := hx
  have hy := hr (2 * E (nf c) + bh u c) (by omega)
  replace hy : F 193 (20 * g + (2 * E (nf c) + bh u c)) ≤ 100000 ∧ (F 193 (20 * g + (2 * E (nf c) + bh u c)) < 100000 → gd L E st u g (F 193 (20 * g + (2 * E (nf c) + bh u c))) (2 * E (nf c) + bh u c)) ∧ ∀ d, gd L E st u g d (2 * E (nf c) + bh u c) → F 193 (20 * g + (2 * E (nf c) + bh u c)) = d := hy
  have q := q_M_isNext_0 h
  have hd : c < 2147483648 := by clear q; omega
  rw [mTo hm hL hc, mFr hm hL hc, b_div hd (by decide) (by decide), b_add0 (show c / 2 < 4294967296 by clear q; omega), b_add (show 20 + c / 2 < 4294967296 by clear q; omega), ix _ t e1 ht, ix _ 1 e2 (by decide), ix _ 0 e2 (by decide), ad _ 1 e2 (by decide), ad _ 0 e2 (by decide), lt1, le1] at q
  have no : ¬ lds L E st u g c t → v = (0, 0) ∧ F' = F → F' = F ∧ ((v = (0, 1) ∧ lds L E st u g c t) ∨ (v = (0, 0) ∧ ¬ lds L E st u g c t)) := fun z ⟨x1, x2⟩ => ⟨x2, Or.inr ⟨x1, z⟩⟩
  by_cases hq : F 176 (c / 2) = 1
  · replace q := q.2 hq
    have hst1 := sc.mpr hq
    have far : 100000 ≤ F 193 (20 * g + (2 * E c + t)) → ¬ lds L E st u g c t := fun z ⟨d, _, y, _⟩ => by
      have a := hx.2.2 _ y
      have b := gd_lt hN hg y
      clear q
      omega
    have fin : t ≤ bh u c → ((F 193 (20 * g + (2 * E c + t)) ≠ 1 + F 193 (20 * g + (2 * E (nf c) + bh u c)) → v = (0, 0) ∧ F' = F) ∧ (F 193 (20 * g + (2 * E c + t)) = 1 + F 193 (20 * g + (2 * E (nf c) + bh u c)) → v = (0, 1) ∧ F' = F)) → F 193 (20 * g + (2 * E c + t)) < 100000 → F' = F ∧ ((v = (0, 1) ∧ lds L E st u g c t) ∨ (v = (0, 0) ∧ ¬ lds L E st u g c t)) := by
      clear q
      intro hle2 q hlt
      by_cases e : F 193 (20 * g + (2 * E c + t)) = 1 + F 193 (20 * g + (2 * E (nf c) + bh u c))
      · obtain ⟨x1, x2⟩ := q.2 e
        refine ⟨x2, Or.inl ⟨x1, F 193 (20 * g + (2 * E (nf c) + bh u c)), ⟨hc, hst1, by omega, by omega, rfl⟩, ?_, hy.2.1 (by omega)⟩⟩
        have := hx.2.1 hlt
        rw [e, Nat.add_comm] at this
        exact this
      · refine no (fun ⟨d, _, y, y2⟩ => e ?_) (q.1 e)
        have a := hx.2.2 _ y
        have b := hy.2.2 _ y2
        omega
    have cut : F 193 (20 * g + (2 * E c + t)) < 100000 ∨ 100000 ≤ F 193 (20 * g + (2 * E c + t)) := Nat.lt_or_ge _ _
    by_cases hup : E (nf c) = F 176 (20 + c / 2)
    · have b0 := bu.1 hup
      by_cases h0 : t = 0
      · rcases cut with z | z
        · refine fin (by clear q; omega) ?_ z
          rw [b0]
          exact (((q.1 h0).2 z).2 hup).2 (by clear q; omega)
        · exact no (far z) ((q.1 h0).1 z)
      · refine no (fun ⟨d, y, _⟩ => ?_) ((q.2 h0).2 hup)
        have := y.2.2.2.1
        clear q
        omega
    · have b1 := bu.2 hup
      by_cases h0 : t = 0
      · rcases cut with z | z
        · refine fin (by clear q; omega) ?_ z
          rw [b1]
          exact (((q.1 h0).2 z).1 hup).2 (by clear q; omega)
        · exact no (far z) ((q.1 h0).1 z)
      · rcases cut with z | z
        · refine fin (by clear q; omega) ?_ z
          rw [b1]
          exact ((((q.2 h0).1 hup).2 z).1 hup).1 (by clear q; omega)
        · exact no (far z) (((q.2 h0).1 hup).1 z)
  · exact no (fun ⟨d, y, _⟩ => hq (sc.mp y.2.1)) (q.1 hq)
/-- of the first k channels the one that is least used, of those that Q takes -/
noncomputable def lus (Q : Nat → Prop) (us : Nat → Nat) : Nat → Nat
  | 0 => 4294967295
  | k + 1 => @ite Nat (Q k ∧ (lus Q us k = 4294967295 ∨ us k < us (lus Q us k))) (Classical.propDecidable _) k (lus Q us k)
theorem lus_y {Q : Nat → Prop} {us : Nat → Nat} {k : Nat} (h : Q k) (h2 : lus Q us k = 4294967295 ∨ us k < us (lus Q us k)) : lus Q us (k + 1) = k := if_pos ⟨h, h2⟩
theorem lus_n {Q : Nat → Prop} {us : Nat → Nat} {k : Nat} (h : Q k → lus Q us k ≠ 4294967295 ∧ us (lus Q us k) ≤ us k) : lus Q us (k + 1) = lus Q us k := if_neg (fun z => by
  have := h z.1
  rcases z.2 with y | y
  · exact this.1 y
  · omega)
theorem lus_q {Q : Nat → Prop} {us : Nat → Nat} : ∀ k, lus Q us k = 4294967295 ∨ (lus Q us k < k ∧ Q (lus Q us k))
  | 0 => Or.inl rfl
  | k + 1 => by
    by_cases h : Q k ∧ (lus Q us k = 4294967295 ∨ us k < us (lus Q us k))
    · rw [lus_y h.1 h.2]; exact Or.inr ⟨by omega, h.1⟩
    · have : lus Q us (k + 1) = lus Q us k := if_neg h
      rw [this]
      rcases lus_q (Q := Q) (us := us) k with z | z
      · exact Or.inl z
      · exact Or.inr ⟨by omega, z.2⟩
theorem lus_congr {Q Q2 : Nat → Prop} {us us2 : Nat → Nat} : ∀ {k}, k < 4294967295 → (∀ c, c < k → (Q c ↔ Q2 c)) → (∀ c, c < k → us c = us2 c) → lus Q us k = lus Q2 us2 k
  | 0, _, _, _ => rfl
  | k + 1, hk, h, h2 => by
    have ih := lus_congr (k := k) (by omega) (fun c hc => h c (by omega)) (fun c hc => h2 c (by omega))
    have hq := h k (by omega)
    have hu := h2 k (by omega)
    have hl := lus_q (Q := Q) (us := us) k
    have e : (lus Q us k = 4294967295 ∨ us k < us (lus Q us k)) ↔ (lus Q2 us2 k = 4294967295 ∨ us2 k < us2 (lus Q2 us2 k)) := by
      rw [← ih, ← hu]
      rcases hl with z | z
      · exact ⟨fun _ => Or.inl z, fun _ => Or.inl z⟩
      · rw [h2 _ (show lus Q us k < k + 1 by omega)]
    by_cases y : Q k ∧ (lus Q us k = 4294967295 ∨ us k < us (lus Q us k))
    · rw [lus_y y.1 y.2, lus_y (hq.mp y.1) (e.mp y.2)]
    · rw [show lus Q us (k + 1) = lus Q us k from if_neg y, show lus Q2 us2 (k + 1) = lus Q2 us2 k from if_neg (fun z => y ⟨hq.mpr z.1, e.mpr z.2⟩), ih]
theorem lus_gap {Q : Nat → Prop} {us : Nat → Nat} {k : Nat} : ∀ j, (∀ c, k ≤ c → c < k + j → ¬ Q c) → lus Q us (k + j) = lus Q us k
  | 0, _ => rfl
  | j + 1, h => by
    show lus Q us (k + j + 1) = _
    rw [lus_n (fun z => absurd z (h (k + j) (by omega) (by omega))), lus_gap j (fun c h1 h2 => h c h1 (by omega))]
theorem lus_gap2 {Q : Nat → Prop} {us : Nat → Nat} {k m : Nat} (hkm : k ≤ m) (h : ∀ c, k ≤ c → c < m → ¬ Q c) : lus Q us m = lus Q us k := by
  have := lus_gap (Q := Q) (us := us) (k := k) (m - k) (fun c h1 h2 => h c h1 (by omega))
  rw [show k + (m - k) = m by omega] at this
  exact this
end NEXT
