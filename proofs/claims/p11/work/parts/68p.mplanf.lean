/-! The reference's plan, through its phases -/
section MPF
variable {nn L : Nat} {E : Nat → Nat} {st : Nat → Bool} {v : fx_V} {F' : fx_F}
theorem cnt_xz {x : Nat} (hx : x < 2 ^ L) : cnt (bts x) L = 0 ↔ x = 0 := by
  constructor
  · intro h
    refine tb_ext (fun i => ?_)
    rw [Nat.zero_testBit]
    have z : ∀ n, cnt (bts x) n = 0 → ∀ i, i < n → x.testBit i = false := by
      intro n
      induction n with
      | zero => intro _ i hi; omega
      | succ n ih =>
        intro hz i hi
        have hz : cnt (bts x) n + (if x.testBit n then 1 else 0) = 0 := hz
        by_cases e : i = n
        · subst e
          cases hq : x.testBit i with
          | false => rfl
          | true => rw [hq, if_pos rfl] at hz; omega
        · exact ih (by omega) i (by omega)
    rcases Nat.lt_or_ge i L with hi | hi
    · exact z L h i hi
    · exact tb_out hx hi
  · intro h
    rw [h]
    exact cnt_zero (fun i hi => Nat.zero_testBit i)
/-- what the rounds of the plan need -/
def mpi (F : fx_F) (nn L : Nat) (E : Nat → Nat) (st : Nat → Bool) (u nw : Nat) : Prop := mn F nn L E ∧ (∀ l, l < L → st l = mst F l) ∧ mur F L E (bts u) ∧ ∀ l, l < L → F 190 l = ue E (bts nw) l
theorem s_round (hN : nt_ok nn L E) {up nw k a2 : Nat} (hub : up < 2 ^ L) (hnb : nw < 2 ^ L) (hk : k ≤ 20) {n : Nat} {F : fx_F} (hm : mpi F nn L E st (pu L E st up nw k) nw) (h : Rn n k_M_goPhases 28 [(2, 175), (3, 0), (0, a2), (0, k)] [] F v F') : (pu L E st up nw k = nw ∧ v = (0, k) ∧ F' = F) ∨ (pu L E st up nw k ≠ nw ∧ pt L E st up nw k = 0 ∧ v = (0, 4294967294) ∧ fxo [192, 202, 203] F F') ∨ (pu L E st up nw k ≠ nw ∧ pt L E st up nw k ≠ 0 ∧ ∃ m F3 n4 F4, m < n ∧ fxo [176, 192, 202, 203] F F3 ∧ (∀ i, i < 20 ∨ 40 ≤ i → F3 176 i = F 176 i) ∧ mur F3 L E (bts (pu L E st up nw (k + 1))) ∧ (∀ l, l < L → F3 203 l = if (pt L E st up nw k).testBit l then k else F 203 l) ∧ Cl k_M_goSteps [(2, 175), (0, a2)] F3 (0, n4) F4 ∧ Rn m k_M_goPhases 28 [(2, 175), (3, 0), (0, a2), (0, k + 1)] [] F4 v F') := by
  obtain ⟨n1, F1, c1, q1, q2⟩ := q_M_goPhases_28 h
  obtain ⟨km, ks, ku, kw⟩ := hm
  have hL := hN.2.1
  obtain ⟨a1, a2'⟩ := s_flips hN km ku kw c1
  cases a1
  subst a2'
  have hx : pu L E st up nw k ^^^ nw < 2 ^ L := Nat.xor_lt_two_pow (pu_lt hub k) hnb
  have hc := cnt_le (bts (pu L E st up nw k ^^^ nw)) L
  have hz := (cnt_xz hx).trans xz
  by_cases e : pu L E st up nw k = nw
  · obtain ⟨e1, e2⟩ := q1 (by rw [b_le (by omega) (by decide)]; have := hz.mpr e; omega)
    exact Or.inl ⟨e, e1, e2⟩
  · obtain ⟨n2, F2, c2, q3, q4⟩ := q2 (by rw [b_lt (by decide) (by omega)]; have : ¬ _ := fun z => e (hz.mp z); omega)
    clear q1 q2
    obtain ⟨x, b1, b2, b3, b4, b5, b6⟩ := s_takePhase hN (pu_lt hub k) hnb km ks ku kw c2
    cases b1
    by_cases e2 : n2 = 0
    · obtain ⟨e3, e4⟩ := q4 e2
      subst e4
      exact Or.inr (Or.inl ⟨e, b3.mp e2, e3, b4⟩)
    · obtain ⟨F3, c3, n4, F4, c4, m, hm2, hR⟩ := q3 e2
      rw [b_add (show k + 1 < 4294967296 by omega)] at hR
      have km2 : mn F2 nn L E := km.keep b4 (by decide) (by decide) (by decide) (by decide)
      obtain ⟨d1, d2, d3, d4⟩ := s_turnTaken hN km2 (u := pu L E st up nw k) (nw := nw) (m := pt L E st up nw k) (fun l hl => (b4 176 _ (by decide)).trans (ku l hl)) (fun l hl => (b4 190 _ (by decide)).trans (kw l hl)) b5 (fun l hl => (pt_b hl).2) c3
      refine Or.inr (Or.inr ⟨e, fun z => e2 (b3.mpr z), m, F3, n4, F4, hm2, (b4.mono (by decide)).tr (d2.mono (by decide)), fun i hi => (d3 i hi).trans (b4 176 _ (by decide)), ?_, fun l hl => ?_, c4, hR⟩)
      · rw [pu_s]; exact d4
      · rw [d2 203 _ (by decide)]; exact b6 l hl
/-- no steps -/
theorem s_goSteps0 {F : fx_F} (h : Cl k_M_goSteps [(2, 175), (0, 0)] F v F') : v = (0, 0) ∧ F' = F := by
  obtain ⟨n, h⟩ := c_M_goSteps h
  obtain ⟨m, hm2, hR⟩ := q_M_goSteps_0 h
  have q := q_M_goSteps_4 hR
  exact q.1 (by rw [b_le (by decide) (by decide)]; exact Nat.le_refl 0)
/-- link l's phase, of the first k -/
def mpo (F : fx_F) (L : Nat) (E : Nat → Nat) (st : Nat → Bool) (up nw k : Nat) : Prop := ∀ l, l < L → (∃ j, j < k ∧ (pt L E st up nw j).testBit l = true ∧ F 203 l = j) ∨ ((∀ j, j < k → (pt L E st up nw j).testBit l = false) ∧ F 203 l = 4294967295)
theorem mpo_s {F F3 : fx_F} {up nw k : Nat} (h : mpo F L E st up nw k) (h3 : ∀ l, l < L → F3 203 l = if (pt L E st up nw k).testBit l then k else F 203 l) : mpo F3 L E st up nw (k + 1) := by
  intro l hl
  have e := h3 l hl
  cases hq : (pt L E st up nw k).testBit l with
  | true =>
    rw [hq, if_pos rfl] at e
    exact Or.inl ⟨k, by omega, hq, e⟩
  | false =>
    rw [hq, if_neg (by decide)] at e
    rcases h l hl with ⟨j, j1, j2, j3⟩ | ⟨j1, j2⟩
    · exact Or.inl ⟨j, by omega, j2, e.trans j3⟩
    · refine Or.inr ⟨fun j hj => ?_, e.trans j2⟩
      by_cases ej : j = k
      · subst ej; exact hq
      · exact j1 j (by omega)
/-- the links' phases are set to none, and up ends laid by the root -/
theorem s_phases0 {C : Nat → Nat} {N r a2 : Nat} (hN : nt_ok nn L E) (hC : cd_ok C N) (hC2 : N ≠ 0 → 0 < hgt C N) (hr : r < nn ∨ nn = 0) (hr2 : r < 10) {F : fx_F} (hm : mn F nn L E) (hc : mcc F C N) (hst : ∀ l, l < L → st l = mst F l) (h : Cl k_M_goPhases [(2, 175), (0, r), (0, a2)] F v F') : ∃ n F1, fxo [188, 189, 190, 191, 203] F F1 ∧ (∀ l, l < L → F1 190 l = uend E (rk C N (fr L E st r) (fun u => dgc E st u (2 * L))) l) ∧ (∀ l, l < L → F1 203 l = 4294967295) ∧ Rn n k_M_goPhases 28 [(2, 175), (3, 0), (0, a2), (0, 0)] [] F1 v F' := by
  obtain ⟨n, h⟩ := c_M_goPhases h
  obtain ⟨F1, c1, m, hm2, hR⟩ := q_M_goPhases_0 h
  obtain ⟨a1, a3, -⟩ := s_orientBy hN hC hC2 hr hr2 hm hc hst c1
  have hL := hN.2.1
  have lp : ∀ (n : Nat) (F2 : fx_F) (l : Nat), Rn n k_M_goPhases 7 [(2, 175), (3, 0), (0, a2), (0, l)] [] F2 v F' → l ≤ 20 → fxo [203] F1 F2 → (∀ j, j < l → F2 203 j = 4294967295) → ∃ n F3, fxo [203] F1 F3 ∧ (∀ l, l < 20 → F3 203 l = 4294967295) ∧ Rn n k_M_goPhases 28 [(2, 175), (3, 0), (0, a2), (0, 0)] [] F3 v F' := by
    intro n
    induction n using Nat.strongRecOn with
    | ind n ih =>
      intro F2 l h hl ho hI
      have q := q_M_goPhases_7 h
      rcases Nat.lt_or_ge l 20 with hlt | hge
      · obtain ⟨m, hm3, hR⟩ := q.2 (by rw [b_lt (by omega) (by omega)]; exact hlt)
        clear q
        rw [b_add (show l + 1 < 4294967296 by omega)] at hR
        refine ih m hm3 _ (l + 1) hR (by omega) (ho.wr (by decide)) (fun j hj => ?_)
        by_cases ej : j = l
        · subst ej; rw [fu_same]
        · rw [fu_i ej]; exact hI j (by omega)
      · obtain ⟨m, hm3, hR⟩ := q.1 (by rw [b_le (by omega) (by omega)]; exact hge)
        exact ⟨m, F2, ho, fun j hj => hI j (by omega), hR⟩
  obtain ⟨n3, F3, r1, r2, r3⟩ := lp m F1 0 hR (Nat.zero_le _) fxo.rf (fun j hj => absurd hj (Nat.not_lt_zero _))
  exact ⟨n3, F3, (a1.mono (by decide)).tr (r1.mono (by decide)), fun l hl => (r1 190 _ (by decide)).trans (a3 l hl), fun l hl => r2 l (by omega), r3⟩
/-- up ends by ranks, as bits -/
def nwb (nw L : Nat) (E : Nat → Nat) (R : Nat → Nat) : Prop := nw < 2 ^ L ∧ ∀ j, nw.testBit j = true ↔ j < L ∧ abv R (E (2 * j + 1)) (E (2 * j))
theorem nwb_ue {nw : Nat} {R : Nat → Nat} (h : nwb nw L E R) {l : Nat} (hl : l < L) : uend E R l = ue E (bts nw) l := by
  have := h.2 l
  unfold uend ue
  by_cases e : abv R (E (2 * l + 1)) (E (2 * l))
  · rw [if_pos e, if_pos (show bts nw l = true from this.mpr ⟨hl, e⟩)]
  · rw [if_neg e, if_neg (fun z : bts nw l = true => e (this.mp z).2)]
theorem s_planFor {C : Nat → Nat} {N r up nw : Nat} (hN : nt_ok nn L E) (hC : cd_ok C N) (hC2 : N ≠ 0 → 0 < hgt C N) (hr : r < nn ∨ nn = 0) (hr2 : r < 10) (hub : up < 2 ^ L) (hnw : nwb nw L E (rk C N (fr L E st r) (fun u => dgc E st u (2 * L)))) {F : fx_F} (hm : mn F nn L E) (hc : mcc F C N) (hst : ∀ l, l < L → st l = mst F l) (hu : mur F L E (bts up)) (h : Cl k_M_planFor [(2, 175), (0, r)] F v F') : fxo [188, 189, 190, 191, 192, 199, 202, 203] F F' ∧ ((∃ k, k ≤ 20 ∧ plr L E st up nw k ∧ v = (0, k) ∧ mpo F' L E st up nw k) ∨ (plb L E st up nw ∧ v = (0, 4294967294))) := by
  obtain ⟨n, h⟩ := c_M_planFor h
  obtain ⟨F1, c1, n2, F2, c2, F3, c3, e1, e2⟩ := q_M_planFor_0 h
  have hL := hN.2.1
  subst e1
  subst e2
  -- put aside
  have pa : fxo [199] F F1 ∧ ∀ i, i < 103 → F1 199 i = F 176 i := by
    obtain ⟨n, h⟩ := c_M_putAside c1
    obtain ⟨m, hm2, hR⟩ := q_M_putAside_0 h
    have lp : ∀ (n : Nat) (F2 : fx_F) (l : Nat), Rn n k_M_putAside 2 [(2, 175), (0, l)] [] F2 (2, 0) F1 → l ≤ 103 → fxo [199] F F2 → (∀ i, i < l → F2 199 i = F 176 i) → fxo [199] F F1 ∧ ∀ i, i < 103 → F1 199 i = F 176 i := by
      intro n
      induction n using Nat.strongRecOn with
      | ind n ih =>
        intro F2 l h hl ho hI
        have q := q_M_putAside_2 h
        rcases Nat.lt_or_ge l 103 with hlt | hge
        · obtain ⟨m, hm3, hR⟩ := q.2 (by rw [b_lt (by omega) (by omega)]; exact hlt)
          clear q
          rw [b_add (show l + 1 < 4294967296 by omega)] at hR
          refine ih m hm3 _ (l + 1) hR (by omega) (ho.wr (by decide)) (fun j hj => ?_)
          by_cases ej : j = l
          · subst ej; rw [fu_same, ho 176 _ (by decide)]
          · rw [fu_i ej]; exact hI j (by omega)
        · obtain ⟨-, e⟩ := q.1 (by rw [b_le (by omega) (by omega)]; exact hge)
          subst e
          exact ⟨ho, fun i hi => hI i (by omega)⟩
    exact lp m F 0 hR (Nat.zero_le _) fxo.rf (fun i hi => absurd hi (Nat.not_lt_zero _))
  obtain ⟨pa1, pa2⟩ := pa
  have st1 : ∀ l, l < L → st l = mst F1 l := fun l hl => by rw [hst l hl]; unfold mst; rw [pa1 176 _ (by decide)]
  obtain ⟨n4, F4, a1, a2, a3, hR⟩ := s_phases0 hN hC hC2 hr hr2 (hm.keep pa1 (by decide) (by decide) (by decide) (by decide)) (hc.keep pa1 (by decide) (by decide) (by decide)) st1 c2
  have o4 : fxo [188, 189, 190, 191, 199, 203] F F4 := (pa1.mono (by decide)).tr (a1.mono (by decide))
  have w4 : ∀ l, l < L → F4 190 l = ue E (bts nw) l := fun l hl => (a2 l hl).trans (nwb_ue hnw hl)
  have lp : ∀ (n : Nat) (F5 : fx_F) (k : Nat), Rn n k_M_goPhases 28 [(2, 175), (3, 0), (0, 0), (0, k)] [] F5 (0, n2) F2 → fxo [176, 192, 202, 203] F4 F5 → (∀ i, i < 20 ∨ 40 ≤ i → F5 176 i = F 176 i) → mur F5 L E (bts (pu L E st up nw k)) → mpo F5 L E st up nw k → (∀ j, j < k → pu L E st up nw j ≠ nw ∧ pt L E st up nw j ≠ 0) → fxo [176, 192, 202, 203] F4 F2 ∧ (∀ i, i < 20 ∨ 40 ≤ i → F2 176 i = F 176 i) ∧ ((∃ k, k ≤ 20 ∧ plr L E st up nw k ∧ n2 = k ∧ mpo F2 L E st up nw k) ∨ (plb L E st up nw ∧ n2 = 4294967294)) := by
    intro n
    induction n using Nat.strongRecOn with
    | ind n ih =>
      intro F5 k h ho hA hB hD hJ
      have hcn := pl_cnt (fun j hj => (hJ j hj).2)
      have o5 : ∀ q j, q ∉ [176, 188, 189, 190, 191, 192, 199, 202, 203] → F5 q j = F q j := fun q j hq => by
        rw [ho q j (fun z => hq (by simp at z ⊢; omega)), o4 q j (fun z => hq (by simp at z ⊢; omega))]
      have hmp : mpi F5 nn L E st (pu L E st up nw k) nw := ⟨hm.keep (S := [176, 188, 189, 190, 191, 192, 199, 202, 203]) o5 (by decide) (by decide) (by decide) (by decide), fun l hl => by rw [hst l hl]; unfold mst; rw [hA l (Or.inl (by omega))], hB, fun l hl => (ho 190 _ (by decide)).trans (w4 l hl)⟩
      rcases s_round hN hub hnw.1 (by omega) hmp h with ⟨x1, x2, x3⟩ | ⟨x1, x2, x3, x4⟩ | ⟨x1, x2, m, F6, n7, F7, y1, y2, y3, y4, y5, y6, y7⟩
      · cases x2
        subst x3
        exact ⟨ho, hA, Or.inl ⟨n2, by omega, ⟨x1, hJ⟩, rfl, hD⟩⟩
      · cases x3
        exact ⟨ho.tr (x4.mono (by decide)), fun i hi => (x4 176 i (by decide)).trans (hA i hi), Or.inr ⟨⟨k, fun j hj => (hJ j hj).2, x1, x2⟩, rfl⟩⟩
      · obtain ⟨z1, z2⟩ := s_goSteps0 y6
        subst z2
        exact ih m y1 F7 (k + 1) y7 (ho.tr y2) (fun i hi => (y3 i hi).trans (hA i hi)) y4 (mpo_s hD y5) (fun j hj => by
          by_cases ej : j = k
          · subst ej; exact ⟨x1, x2⟩
          · exact hJ j (by omega))
  obtain ⟨g1, g2, g3⟩ := lp n4 F4 0 hR fxo.rf (fun i _ => o4 176 i (by decide)) (fun l hl => (o4 176 _ (by decide)).trans (hu l hl)) (fun l hl => Or.inr ⟨fun j hj => absurd hj (Nat.not_lt_zero _), a3 l hl⟩) (fun j hj => absurd hj (Nat.not_lt_zero _))
  -- bring back
  have bb : fxo [176] F2 F' ∧ (∀ i, i < 103 → F' 176 i = F2 199 i) ∧ ∀ i, 103 ≤ i → F' 176 i = F2 176 i := by
    obtain ⟨n, h⟩ := c_M_bringBack c3
    obtain ⟨m, hm2, hR⟩ := q_M_bringBack_0 h
    have lp : ∀ (n : Nat) (F3 : fx_F) (l : Nat), Rn n k_M_bringBack 2 [(2, 175), (0, l)] [] F3 (2, 0) F' → l ≤ 103 → fxo [176] F2 F3 → (∀ i, i < l → F3 176 i = F2 199 i) → (∀ i, 103 ≤ i → F3 176 i = F2 176 i) → fxo [176] F2 F' ∧ (∀ i, i < 103 → F' 176 i = F2 199 i) ∧ ∀ i, 103 ≤ i → F' 176 i = F2 176 i := by
      intro n
      induction n using Nat.strongRecOn with
      | ind n ih =>
        intro F3 l h hl ho hI hJ
        have q := q_M_bringBack_2 h
        rcases Nat.lt_or_ge l 103 with hlt | hge
        · obtain ⟨m, hm3, hR⟩ := q.2 (by rw [b_lt (by omega) (by omega)]; exact hlt)
          clear q
          rw [b_add (show l + 1 < 4294967296 by omega)] at hR
          refine ih m hm3 _ (l + 1) hR (by omega) (ho.wr (by decide)) (fun j hj => ?_) (fun j hj => by rw [fu_i (by omega)]; exact hJ j hj)
          by_cases ej : j = l
          · subst ej; rw [fu_same, ho 199 _ (by decide)]
          · rw [fu_i ej]; exact hI j (by omega)
        · obtain ⟨-, e⟩ := q.1 (by rw [b_le (by omega) (by omega)]; exact hge)
          subst e
          exact ⟨ho, fun i hi => hI i (by omega), hJ⟩
    exact lp m F2 0 hR (Nat.zero_le _) fxo.rf (fun i hi => absurd hi (Nat.not_lt_zero _)) (fun _ _ => rfl)
  obtain ⟨b1, b2, b3⟩ := bb
  refine ⟨fun q i hq => ?_, ?_⟩
  · by_cases e : q = 176
    · subst e
      rcases Nat.lt_or_ge i 103 with hi | hi
      · rw [b2 i hi, g1 199 _ (by decide), a1 199 _ (by decide), pa2 i hi]
      · rw [b3 i hi, g2 i (Or.inr (by omega))]
    · rw [b1 q i (fun z => e (by simpa using z)), g1 q i (fun z => hq (by simp at z ⊢; omega)), o4 q i (fun z => hq (by simp at z ⊢; omega))]
  · rcases g3 with ⟨k, k0, k1, k2, k3⟩ | ⟨k1, k2⟩
    · exact Or.inl ⟨k, k0, k1, by rw [k2], fun l hl => by rw [b1 203 _ (by decide)]; exact k3 l hl⟩
    · exact Or.inr ⟨k1, by rw [k2]⟩
end MPF
