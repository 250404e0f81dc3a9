/-! The class's plan -/
section CPLAN
variable {nn L : Nat} {E : Nat → Nat} {v : fx_V} {F' : fx_F}
theorem p20 {x : Nat} (hL : L ≤ 20) (h : x < 2 ^ L) : x < 1048576 := Nat.lt_of_lt_of_le h (show 2 ^ L ≤ 2 ^ 20 from Nat.pow_le_pow_right (by decide) hL)
theorem s_takeLinks (hN : nt_ok nn L E) {u left s : Nat} (hu : u < 2 ^ L) (hl : left < 2 ^ L) (hs : s < 2147483648) {F : fx_F} (hc : cn F nn L E) (h : Cl k_Pl_takeLinks [(2, 48), (0, u), (0, left), (0, s)] F v F') : v = (0, tkl L E (bts s) u left L) ∧ fxo [46, 47] F F' := by
  obtain ⟨n, h⟩ := c_Pl_takeLinks h
  obtain ⟨m, hm2, hR⟩ := q_Pl_takeLinks_0 h
  have hL := hN.2.1
  have lp : ∀ (n : Nat) (F : fx_F) (l : Nat), Rn n k_Pl_takeLinks 6 [(2, 48), (0, u), (0, left), (0, s), (0, tkl L E (bts s) u left l), (0, l), (3, 0)] [] F v F' → cn F nn L E → l ≤ L → v = (0, tkl L E (bts s) u left L) ∧ fxo [46, 47] F F' := by
    intro n
    induction n using Nat.strongRecOn with
    | ind n ih =>
      intro F l h hc hle
      have u20 := p20 hL hu
      have l20 := p20 hL hl
      have q := q_Pl_takeLinks_6 h
      rw [hc.2.1, b_bitl (show left < 2147483648 by omega) (show l < 32 by omega)] at q
      rcases Nat.lt_or_ge l L with hlt | hge
      · replace q := q.2 (by rw [b_lt (by omega) (by omega)]; exact hlt)
        rw [b_add (show l + 1 < 4294967296 by omega)] at q
        by_cases hb : left.testBit l = true
        · rw [if_pos hb] at q
          obtain ⟨F1, c1, n2, F2, c2, q1, q2⟩ := q.2 rfl
          clear q
          have hp : 2 ^ l < 2 ^ L := Nat.pow_lt_pow_right (by decide) hlt
          have ht : tkl L E (bts s) u left l < 2 ^ L := Nat.lt_trans tkl_lt hp
          have hmo : tkl L E (bts s) u left l ||| 2 ^ l < 2 ^ L := Nat.or_lt_two_pow ht hp
          have hxo : u ^^^ (tkl L E (bts s) u left l ||| 2 ^ l) < 2 ^ L := Nat.xor_lt_two_pow hu hmo
          have x20 := p20 hL hxo
          rw [b_shl1 (show l < 32 by omega), b_or (k := L) (by omega) ht hp] at c1 q2
          rw [b_xor (k := L) (by omega) hu hmo] at c1
          obtain ⟨a1, a2⟩ := s_take hN (by omega) (by omega) hs hc c1
          have hc1 := hc.keep a1 (by decide) (by decide) (by decide)
          obtain ⟨b1, b2⟩ := s_haveRing hN (T := fun c d => trn L E (bts s) (bts u) c d ∨ trn L E (bts s) (bts (u ^^^ (tkl L E (bts s) u left l ||| 2 ^ l))) c d) (fun c d z => z.elim (fun z => ⟨z.1, z.2.1⟩) (fun z => ⟨z.1, z.2.1⟩)) hc1 a2 c2
          subst b1
          rcases b2 with ⟨e, t⟩ | ⟨e, t⟩
          · cases e
            obtain ⟨m, hm3, hR⟩ := q1 (by decide)
            rw [← tkl_n (fun _ => t)] at hR
            obtain ⟨r1, r2⟩ := ih m hm3 _ (l + 1) hR hc1 (by omega)
            exact ⟨r1, a1.tr r2⟩
          · cases e
            obtain ⟨m, hm3, hR⟩ := q2 rfl
            rw [← tkl_y hb t] at hR
            obtain ⟨r1, r2⟩ := ih m hm3 _ (l + 1) hR hc1 (by omega)
            exact ⟨r1, a1.tr r2⟩
        · rw [if_neg hb] at q
          obtain ⟨m, hm3, hR⟩ := q.1 (by decide)
          clear q
          rw [← tkl_n (fun z => absurd z hb)] at hR
          exact ih m hm3 _ (l + 1) hR hc (by omega)
      · obtain ⟨e1, e2⟩ := q.1 (by rw [b_le (by omega) (by omega)]; exact hge)
        clear q
        have : l = L := by omega
        subst this
        subst e2
        exact ⟨e1, fxo.rf⟩
  exact lp m F 0 hR hc (Nat.zero_le _)
/-- the class's planner holds the plan from up to nw -/
def cpl (F : fx_F) (L : Nat) (E : Nat → Nat) (st : Nat → Bool) (up nw : Nat) : Prop := (∃ k, k ≤ 20 ∧ plr L E st up nw k ∧ F 48 4 = k ∧ ∀ j, j < k → F 49 j = pt L E st up nw j) ∨ (plb L E st up nw ∧ F 48 4 = 4294967294)
theorem s_lay (hN : nt_ok nn L E) {up nw s : Nat} (hu : up < 2 ^ L) (hw : nw < 2 ^ L) (hs : s < 2147483648) {F : fx_F} (hc : cn F nn L E) (hbc : ∀ v F1, Cl k_I_bitCount [(0, up ^^^ nw)] F v F1 → v = (0, cnt (bts (up ^^^ nw)) L) ∧ F1 = F) (h : Cl k_Pl_lay [(2, 48), (0, up), (0, nw), (0, s)] F v F') : v = (2, 0) ∧ fxo [46, 47, 48, 49] F F' ∧ F' 48 3 = cnt (bts (up ^^^ nw)) L ∧ cpl F' L E (bts s) up nw := by
  obtain ⟨n, h⟩ := c_Pl_lay h
  obtain ⟨n1, F1, c1, m, hm2, hR⟩ := q_Pl_lay_0 h
  have hL := hN.2.1
  rw [b_xor (k := L) (by omega) hu hw] at c1 hR
  obtain ⟨a1, a2⟩ := hbc _ _ c1
  cases a1
  subst a2
  have lp : ∀ (n : Nat) (F : fx_F) (k : Nat), Rn n k_Pl_lay 25 [(2, 48), (3, 0), (3, 0), (0, s), (0, pu L E (bts s) up nw k ^^^ nw), (0, pu L E (bts s) up nw k), (0, k), (3, 0)] [] F v F' → cn F nn L E → k ≤ 20 → (∀ j, j < k → pu L E (bts s) up nw j ≠ nw ∧ pt L E (bts s) up nw j ≠ 0) → F 48 4 = k → (∀ j, j < k → F 49 j = pt L E (bts s) up nw j) → v = (2, 0) ∧ fxo [46, 47, 48, 49] F F' ∧ F' 48 3 = F 48 3 ∧ cpl F' L E (bts s) up nw := by
    intro n
    induction n using Nat.strongRecOn with
    | ind n ih =>
      intro F k h hc hk hA h4 hB
      have hcn := pl_cnt (fun j hj => (hA j hj).2)
      have hpl : pu L E (bts s) up nw k ^^^ nw < 2 ^ L := Nat.xor_lt_two_pow (pu_lt hu k) hw
      have fin : pu L E (bts s) up nw k = nw → v = (2, 0) ∧ F' = F → v = (2, 0) ∧ fxo [46, 47, 48, 49] F F' ∧ F' 48 3 = F 48 3 ∧ cpl F' L E (bts s) up nw := by
        rintro he ⟨e1, e2⟩
        subst e2
        exact ⟨e1, fxo.rf, rfl, Or.inl ⟨k, hk, ⟨he, hA⟩, h4, hB⟩⟩
      have q := q_Pl_lay_25 h
      by_cases hk2 : k = 20
      · refine fin ?_ (q.1 (by rw [b_le (by decide) (by omega)]; omega))
        clear q
        exact pl_zero hu hw (by omega)
      · replace q := q.2 (by rw [b_lt (by omega) (by decide)]; omega)
        by_cases hz : pu L E (bts s) up nw k ^^^ nw = 0
        · exact fin (xz.mp hz) (q.1 hz)
        · obtain ⟨n1, F1, c1, q1, q2⟩ := q.2 hz
          clear q
          obtain ⟨a1, a2⟩ := s_takeLinks hN (pu_lt hu k) hpl hs hc c1
          cases a1
          have e : ∀ q j, q ∉ [46, 47] → F1 q j = F q j := a2
          have hc1 := hc.keep a2 (by decide) (by decide) (by decide)
          by_cases hp : pt L E (bts s) up nw k = 0
          · obtain ⟨e1, e2⟩ := q2 hp
            subst e2
            refine ⟨e1, (a2.mono (by decide)).wr (by decide), by rw [fu_i (by decide), e 48 _ (by decide)], Or.inr ⟨⟨k, fun j hj => (hA j hj).2, fun z => hz (xz.mpr z), hp⟩, by rw [fu_same]⟩⟩
          · obtain ⟨m, hm3, hR⟩ := q1 hp
            clear q1 q2
            have hb1 := @b_less_pl L E (bts s) up nw k hL hu hw
            rw [e 48 _ (by decide), h4, b_add (show k + 1 < 4294967296 by omega), show tkl L E (bts s) (pu L E (bts s) up nw k) (pu L E (bts s) up nw k ^^^ nw) L = pt L E (bts s) up nw k from rfl, hb1, b_xor (k := L) (by omega) (pu_lt hu k) (show pt L E (bts s) up nw k < 2 ^ L from tkl_lt), ← pu_s] at hR
            obtain ⟨r1, r2, r3, r4⟩ := ih m hm3 _ (k + 1) hR ((hc1.wr (by decide) (by decide) (by decide)).wr (by decide) (by decide) (by decide)) (by omega) (fun j hj => by
              by_cases ej : j = k
              · subst ej; exact ⟨fun z => hz (xz.mpr z), hp⟩
              · exact hA j (by omega)) fu_same (fun j hj => by
              rw [fu_p (by decide)]
              by_cases ej : j = k
              · subst ej; rw [fu_same]
              · rw [fu_i ej, e 49 _ (by decide)]
                exact hB j (by omega))
            refine ⟨r1, (((a2.mono (by decide)).wr (by decide)).wr (by decide)).tr r2, ?_, r4⟩
            rw [r3, fu_i (by decide), fu_p (by decide), e 48 _ (by decide)]
      
  obtain ⟨r1, r2, r3, r4⟩ := lp m _ 0 hR ((hc.wr (by decide) (by decide) (by decide)).wr (by decide) (by decide) (by decide)) (Nat.zero_le _) (fun j hj => absurd hj (Nat.not_lt_zero _)) fu_same (fun j hj => absurd hj (Nat.not_lt_zero _))
  refine ⟨r1, ((fxo.rf.wr (by decide)).wr (by decide)).tr r2, ?_, r4⟩
  rw [r3, fu_i (by decide), fu_same]
theorem s_phaseOf (hN : nt_ok nn L E) {up nw s l : Nat} {F : fx_F} (hl : l < L) (hp : cpl F L E (bts s) up nw) (h : Cl k_Pl_phaseOf [(2, 48), (0, l)] F v F') : F' = F ∧ ((∃ k j, plr L E (bts s) up nw k ∧ j < k ∧ (pt L E (bts s) up nw j).testBit l = true ∧ v = (0, j)) ∨ (((∃ k, plr L E (bts s) up nw k ∧ ∀ j, j < k → (pt L E (bts s) up nw j).testBit l = false) ∨ plb L E (bts s) up nw) ∧ v = (0, 4294967295))) := by
  obtain ⟨n, h⟩ := c_Pl_phaseOf h
  obtain ⟨m, hm2, hR⟩ := q_Pl_phaseOf_0 h
  have hL := hN.2.1
  rcases hp with ⟨k, hk, hp, h4, hB⟩ | ⟨hp, h4⟩
  · have lp : ∀ (n : Nat) (j : Nat), Rn n k_Pl_phaseOf 2 [(2, 48), (0, l), (0, j)] [] F v F' → j ≤ k → (∀ i, i < j → (pt L E (bts s) up nw i).testBit l = false) → F' = F ∧ ((∃ k j, plr L E (bts s) up nw k ∧ j < k ∧ (pt L E (bts s) up nw j).testBit l = true ∧ v = (0, j)) ∨ (((∃ k, plr L E (bts s) up nw k ∧ ∀ j, j < k → (pt L E (bts s) up nw j).testBit l = false) ∨ plb L E (bts s) up nw) ∧ v = (0, 4294967295))) := by
      intro n
      induction n using Nat.strongRecOn with
      | ind n ih =>
        intro j h hj hI
        have q := q_Pl_phaseOf_2 h
        rw [h4] at q
        by_cases e : j = k
        · obtain ⟨e1, e2⟩ := q.1 (by rw [b_le (by omega) (by omega)]; omega)
          subst e
          exact ⟨e2, Or.inr ⟨Or.inl ⟨j, hp, hI⟩, e1⟩⟩
        · have hlt : j < k := by omega
          have hp2 := p20 hL (show pt L E (bts s) up nw j < 2 ^ L from tkl_lt)
          replace q := q.2 (by rw [b_lt (by omega) (by omega)]; exact hlt)
          rw [b_add (show j + 1 < 4294967296 by omega), hB j hlt, b_bitl (show _ < 2147483648 by omega) (show l < 32 by omega)] at q
          by_cases hb : (pt L E (bts s) up nw j).testBit l = true
          · rw [if_pos hb] at q
            obtain ⟨e1, e2⟩ := q.2 rfl
            exact ⟨e2, Or.inl ⟨k, j, hp, hlt, hb, e1⟩⟩
          · rw [if_neg hb] at q
            obtain ⟨m, hm3, hR⟩ := q.1 (by decide)
            clear q
            refine ih m hm3 (j + 1) hR (by omega) (fun i hi => ?_)
            by_cases ei : i = j
            · subst ei
              cases hq : (pt L E (bts s) up nw i).testBit l with
              | false => rfl
              | true => exact absurd hq hb
            · exact hI i (by omega)
    exact lp m 0 hR (Nat.zero_le _) (fun i hi => absurd hi (Nat.not_lt_zero _))
  · have q := q_Pl_phaseOf_2 hR
    rw [h4] at q
    obtain ⟨e1, e2⟩ := q.1 (by rw [b_lec2 (by decide) (by decide)]; right; decide)
    exact ⟨e2, Or.inr ⟨Or.inr hp, e1⟩⟩
end CPLAN
