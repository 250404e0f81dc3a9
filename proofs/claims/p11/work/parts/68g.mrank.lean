/-- the reference's code -/
def mcc (F : fx_F) (C : Nat → Nat) (N : Nat) : Prop := F 182 (F 175 9) = N ∧ ∀ k, k < N → F 184 (100 * F 175 9 + k) = C k
theorem mcc.keep {F F' : fx_F} {C : Nat → Nat} {N : Nat} (h : mcc F C N) {S : List Nat} (ho : fxo S F F') (h1 : 175 ∉ S) (h2 : 182 ∉ S) (h3 : 184 ∉ S) : mcc F' C N := by
  have e := ho 175 9 h1
  exact ⟨by rw [e, ho 182 _ h2]; exact h.1, fun k hk => by rw [e, ho 184 _ h3]; exact h.2 k hk⟩
section MRK
variable {nn L r : Nat} {E : Nat → Nat} {st : Nat → Bool} {v : fx_V} {F' : fx_F} {C : Nat → Nat} {N : Nat}
/-- how many links of a switch stand -/
noncomputable def lko (E : Nat → Nat) (st : Nat → Bool) (u k : Nat) : Nat := cnt (fun l => st l && (Nat.beq (E (2 * l)) u || Nat.beq (E (2 * l + 1)) u)) k
theorem lko_dgc (hN : nt_ok nn L E) {u : Nat} : ∀ l, l ≤ L → dgc E st u (2 * l) = lko E st u l
  | 0, _ => rfl
  | l + 1, hl => by
    have ih := lko_dgc hN (u := u) l (by omega)
    have hne := (hN.2.2 (2 * l) (by omega)).2
    have n0 : nf (2 * l) = 2 * l + 1 := by unfold nf; rw [if_pos (by omega)]
    rw [n0] at hne
    show dgc E st u (2 * l) + (if (st ((2 * l) / 2) && Nat.beq (E (2 * l)) u) then 1 else 0) + (if (st ((2 * l + 1) / 2) && Nat.beq (E (2 * l + 1)) u) then 1 else 0) = lko E st u l + (if (st l && (Nat.beq (E (2 * l)) u || Nat.beq (E (2 * l + 1)) u)) then 1 else 0)
    rw [ih, show 2 * l / 2 = l by omega, show (2 * l + 1) / 2 = l by omega]
    cases st l with
    | false => rfl
    | true =>
      cases h1 : Nat.beq (E (2 * l)) u with
      | false => cases h2 : Nat.beq (E (2 * l + 1)) u <;> rfl
      | true =>
        cases h2 : Nat.beq (E (2 * l + 1)) u with
        | false => rfl
        | true => exact absurd ((rx_beq.mp h1).trans (rx_beq.mp h2).symm) hne
theorem s_linksOf {u : Nat} (hN : nt_ok nn L E) {F : fx_F} (hm : mn F nn L E) (hst : ∀ l, l < L → st l = mst F l) (h : Cl k_M_linksOf [(2, 175), (0, u)] F v F') : v = (0, dgc E st u (2 * L)) ∧ F' = F := by
  obtain ⟨n, h⟩ := c_M_linksOf h
  obtain ⟨m, hm2, hR⟩ := q_M_linksOf_0 h
  have hL := hN.2.1
  rw [lko_dgc hN L (Nat.le_refl L)]
  have lp : ∀ (n : Nat) (l x : Nat), Rn n k_M_linksOf 4 [(2, 175), (0, u), (0, x), (0, l)] [] F v F' → l ≤ L → x = lko E st u l → v = (0, lko E st u L) ∧ F' = F := by
    intro n
    induction n using Nat.strongRecOn with
    | ind n ih =>
      intro l x h hl hx
      have q := q_M_linksOf_4 h
      rw [hm.2.2.1] at q
      have hxl : x ≤ l := by rw [hx]; exact cnt_le _ l
      rcases Nat.lt_or_ge l L with hlt | hlt
      · replace q := q.2 (by rw [b_lt (by omega) (by omega)]; exact hlt)
        rw [mE0 hm hL hlt, mE hm hL hlt (Nat.le_refl 1), b_add0 (show l < 4294967296 by omega), b_add (show l + 1 < 4294967296 by omega), b_add (show x + 0 < 4294967296 by omega), b_add (show x + 1 < 4294967296 by omega)] at q
        have hs0 := hst l hlt
        have sx : ∀ b : Bool, (st l && (Nat.beq (E (2 * l)) u || Nat.beq (E (2 * l + 1)) u)) = b → lko E st u (l + 1) = lko E st u l + if b then 1 else 0 := fun b hb => by
          show lko E st u l + (if (st l && (Nat.beq (E (2 * l)) u || Nat.beq (E (2 * l + 1)) u)) then 1 else 0) = _
          rw [hb]
        by_cases g0 : F 176 l = 1
        · replace q := q.2 g0
          have hs : st l = true := by rw [hs0]; exact rx_beq.mpr g0
          by_cases g1 : E (2 * l) = u
          · obtain ⟨m, hm2, hR⟩ := q.1 g1
            refine ih m hm2 (l + 1) (x + 1) hR (by omega) ?_
            rw [sx true (by rw [hs, rx_beq.mpr g1]; rfl), hx]
            rfl
          · replace q := q.2 g1
            have b1 : Nat.beq (E (2 * l)) u = false := Bool.eq_false_iff.mpr (fun z => g1 (rx_beq.mp z))
            by_cases g2 : E (2 * l + 1) = u
            · obtain ⟨m, hm2, hR⟩ := q.2 g2
              refine ih m hm2 (l + 1) (x + 1) hR (by omega) ?_
              rw [sx true (by rw [hs, b1, rx_beq.mpr g2]; rfl), hx]
              rfl
            · obtain ⟨m, hm2, hR⟩ := q.1 g2
              refine ih m hm2 (l + 1) (x + 0) hR (by omega) ?_
              rw [sx false (by rw [hs, b1, show Nat.beq (E (2 * l + 1)) u = false from Bool.eq_false_iff.mpr (fun z => g2 (rx_beq.mp z))]; rfl), hx]
              rfl
        · obtain ⟨m, hm2, hR⟩ := q.1 g0
          refine ih m hm2 (l + 1) (x + 0) hR (by omega) ?_
          have hs : st l = false := by rw [hs0]; exact Bool.eq_false_iff.mpr (fun z => g0 (rx_beq.mp z))
          rw [sx false (by rw [hs]; rfl), hx]
          rfl
      · obtain ⟨e1, e2⟩ := q.1 (by rw [b_le (by omega) (by omega)]; exact hlt)
        have : l = L := by omega
        subst this
        rw [hx] at e1
        exact ⟨e1, e2⟩
  exact lp m 0 0 hR (Nat.zero_le _) rfl
theorem mr23 {u fa dg : Nat} (hN : nt_ok nn L E) (hC : cd_ok C N) (hu : u < 10) (hdg : dg = dgc E st u (2 * L)) : ∀ (n : Nat) (F : fx_F) (k : Nat), Rn n k_M_rankOf 23 [(2, 175), (0, u), (0, hgt C k), (0, k), (3, 0)] [] F v F' → mn F nn L E → mcc F C N → (∀ l, l < L → st l = mst F l) → F 188 u = fa → k ≤ N → stk (F 191) (evk fa u dg C k) → ∃ x, v = (0, x) ∧ fxo [191] F F' ∧ (0 < hgt C N → x = (evk fa u dg C N).2 0) := by
  intro n
  induction n using Nat.strongRecOn with
  | ind n ih =>
    intro F k h hm hc hst hfa hk hI
    have q := q_M_rankOf_23 h
    have hN2 := hC.1
    have hle := hgt_le C k
    have hb1 := hm.1
    rw [hc.1] at q
    rcases Nat.lt_or_ge k N with hl | hl
    · replace q := q.2 (by rw [b_lt (by omega) (by omega)]; exact hl)
      obtain ⟨o1, o2, o3, o4⟩ := hC.2 k hl
      rw [b_mul (show 100 * F 175 9 < 4294967296 by omega), b_add (show 100 * F 175 9 + k < 4294967296 by omega), hc.2 k hl, b_add (show k + 1 < 4294967296 by omega)] at q
      have go : ∀ (F2 : fx_F), (∃ m, m < n ∧ Rn m k_M_rankOf 23 [(2, 175), (0, u), (0, hgt C (k + 1)), (0, k + 1), (3, 0)] [] F2 v F') → fxo [191] F F2 → stk (F2 191) (evk fa u dg C (k + 1)) → ∃ x, v = (0, x) ∧ fxo [191] F F' ∧ (0 < hgt C N → x = (evk fa u dg C N).2 0) := by
        intro F2 ⟨m, hm2, hR⟩ ho hS
        have e : ∀ q i, q ≠ 191 → F2 q i = F q i := fun q i hq => ho q i (fun z => hq (List.mem_singleton.mp z))
        obtain ⟨x, r1, r2, r3⟩ := ih m hm2 F2 (k + 1) hR (hm.keep ho (by decide) (by decide) (by decide) (by decide)) (hc.keep ho (by decide) (by decide) (by decide)) (fun l hl => by rw [hst l hl]; unfold mst; rw [e 176 _ (by decide)]) ((e 188 u (by decide)).trans hfa) (by omega) hS
        exact ⟨x, r1, ho.tr r2, r3⟩
      have hw : ∀ j x, fxo [191] F (fu F 191 j x) := fun j x => fxo.rf.wr List.mem_cons_self
      have hh := evk_h fa u dg C k
      have hst2 : ∀ j, j < hgt C k → F 191 j = (evk fa u dg C k).2 j := fun j hj => hI j (by rw [hh]; exact hj)
      by_cases hm8 : C k = 1008
      · have h1 := o2 hm8
        have e1 : hgt C (k + 1) = hgt C k := by show (if C k = 1008 then hgt C k else _) = _; rw [if_pos hm8]
        have e2 : evk fa u dg C (k + 1) = ((evk fa u dg C k).1, fun j => if j = (evk fa u dg C k).1 - 1 then i_neg ((evk fa u dg C k).2 ((evk fa u dg C k).1 - 1)) else (evk fa u dg C k).2 j) := by
          show ev1 fa u dg (C k) (evk fa u dg C k) = _
          unfold ev1
          rw [if_pos hm8]
        replace q := (q.2 (by rw [hm8, b_lt (by decide) (by decide)]; decide)).2 hm8
        rw [b_sub h1 (by omega)] at q
        refine go _ (by rw [e1]; exact q) (hw _ _) ?_
        rw [e2, hh]
        intro j hj
        show fu F 191 (hgt C k - 1) _ 191 j = if j = hgt C k - 1 then _ else _
        by_cases hz : j = hgt C k - 1
        · rw [if_pos hz, hz, fu_same, hst2 _ (by omega)]
        · rw [if_neg hz, fu_i hz]
          exact hst2 j hj
      · by_cases hb3 : 1003 ≤ C k
        · have h2 := o3 hb3 hm8
          have e1 : hgt C (k + 1) = hgt C k - 1 := by show (if C k = 1008 then hgt C k else if 1003 ≤ C k then hgt C k - 1 else _) = _; rw [if_neg hm8, if_pos hb3]
          have e2 : evk fa u dg C (k + 1) = ((evk fa u dg C k).1 - 1, fun j => if j = (evk fa u dg C k).1 - 2 then wop (C k) ((evk fa u dg C k).2 ((evk fa u dg C k).1 - 2)) ((evk fa u dg C k).2 ((evk fa u dg C k).1 - 1)) else (evk fa u dg C k).2 j) := by
            show ev1 fa u dg (C k) (evk fa u dg C k) = _
            unfold ev1
            rw [if_neg hm8, if_pos hb3]
          have hx := hst2 (hgt C k - 2) (by omega)
          have hy := hst2 (hgt C k - 1) (by omega)
          have hi1 : i_add (hgt C k) 4294967295 = hgt C k - 1 := b_dec (by omega) (by omega)
          have hi2 : i_sub (hgt C k - 1) 1 = hgt C k - 2 := by rw [b_sub (by omega) (by omega)]; omega
          have fin : ∀ F2, F2 = fu F 191 (hgt C k - 2) (wop (C k) (F 191 (hgt C k - 2)) (F 191 (hgt C k - 1))) → (∃ m, m < n ∧ Rn m k_M_rankOf 23 [(2, 175), (0, u), (0, hgt C k - 1), (0, k + 1), (3, 0)] [] F2 v F') → ∃ x, v = (0, x) ∧ fxo [191] F F' ∧ (0 < hgt C N → x = (evk fa u dg C N).2 0) := by
            intro F2 eF q
            subst eF
            refine go _ (by rw [e1]; exact q) (hw _ _) ?_
            rw [e2, hh]
            intro j hj
            replace hj : j < hgt C k - 1 := hj
            show fu F 191 (hgt C k - 2) _ 191 j = if j = hgt C k - 2 then _ else _
            by_cases hz : j = hgt C k - 2
            · rw [if_pos hz, hz, fu_same, hx, hy]
            · rw [if_neg hz, fu_i hz]
              exact hst2 j (by omega)
          have hcs : C k = 1003 ∨ C k = 1004 ∨ C k = 1005 ∨ C k = 1006 ∨ C k = 1007 := by clear q; omega
          rw [hi1, hi2] at q
          replace q := (q.2 (by rw [b_lt (by decide) (by clear q; omega)]; clear q; omega)).1 hm8
          rcases hcs with e | e | e | e | e <;> rw [e] at q fin <;> unfold wop at fin
          · exact fin _ (by rw [if_pos rfl]) (q.2.1 rfl)
          · exact fin _ (by rw [if_neg (by decide), if_pos rfl]) (q.2.2.1 rfl)
          · exact fin _ (by rw [if_neg (by decide), if_neg (by decide), if_pos rfl]) (q.2.2.2.1 rfl)
          · replace q := q.2.2.2.2.1 rfl
            by_cases hy0 : F 191 (hgt C k - 1) = 0
            · exact fin _ (by rw [if_neg (by decide), if_neg (by decide), if_neg (by decide), if_pos rfl, if_pos hy0]) (q.2 hy0)
            · exact fin _ (by rw [if_neg (by decide), if_neg (by decide), if_neg (by decide), if_pos rfl, if_neg hy0]) (q.1 hy0)
          · replace q := q.1 (Or.inr (by decide))
            by_cases hy0 : F 191 (hgt C k - 1) = 0
            · exact fin _ (by rw [if_neg (by decide), if_neg (by decide), if_neg (by decide), if_neg (by decide), if_pos hy0]) (q.2 hy0)
            · exact fin _ (by rw [if_neg (by decide), if_neg (by decide), if_neg (by decide), if_neg (by decide), if_neg hy0]) (q.1 hy0)
        · have e1 : hgt C (k + 1) = hgt C k + 1 := by show (if C k = 1008 then hgt C k else if 1003 ≤ C k then hgt C k - 1 else hgt C k + 1) = _; rw [if_neg hm8, if_neg hb3]
          have e2 : evk fa u dg C (k + 1) = ((evk fa u dg C k).1 + 1, fun j => if j = (evk fa u dg C k).1 then (if C k = 1000 then fa else if C k = 1001 then u else if C k = 1002 then dg else C k) else (evk fa u dg C k).2 j) := by
            show ev1 fa u dg (C k) (evk fa u dg C k) = _
            unfold ev1
            rw [if_neg hm8, if_neg hb3]
          rw [hfa, b_add (show hgt C k + 1 < 4294967296 by omega)] at q
          replace q := q.1 (by rw [b_le (by clear q; omega) (by decide)]; clear q; omega)
          have fin : ∀ x, x = (if C k = 1000 then fa else if C k = 1001 then u else if C k = 1002 then dg else C k) → (∃ m, m < n ∧ Rn m k_M_rankOf 23 [(2, 175), (0, u), (0, hgt C k + 1), (0, k + 1), (3, 0)] [] (fu F 191 (hgt C k) x) v F') → ∃ x, v = (0, x) ∧ fxo [191] F F' ∧ (0 < hgt C N → x = (evk fa u dg C N).2 0) := by
            intro x ex q
            refine go _ (by rw [e1]; exact q) (hw _ _) ?_
            rw [e2, hh]
            intro j hj
            replace hj : j < hgt C k + 1 := hj
            show fu F 191 (hgt C k) _ 191 j = if j = hgt C k then _ else _
            by_cases hz : j = hgt C k
            · rw [if_pos hz, hz, fu_same, ex]
            · rw [if_neg hz, fu_i hz]
              exact hst2 j (by omega)
          by_cases z0 : C k = 1000
          · exact fin _ (by rw [if_pos z0]) (q.2 z0)
          replace q := q.1 z0
          by_cases z1 : C k = 1001
          · exact fin _ (by rw [if_neg z0, if_pos z1]) (q.2 z1)
          replace q := q.1 z1
          by_cases z2 : C k = 1002
          · obtain ⟨n1, F1, c1, q⟩ := q.2 z2
            obtain ⟨a1, a2⟩ := s_linksOf (st := st) hN hm hst c1
            cases a1
            rw [a2] at q
            exact fin _ (by rw [if_neg z0, if_neg z1, if_pos z2, hdg]) q
          · exact fin _ (by rw [if_neg z0, if_neg z1, if_neg z2]) (q.1 z2)
    · obtain ⟨e1, e2⟩ := q.1 (by rw [b_le (by omega) (by omega)]; exact hl)
      subst e2
      have : k = N := by omega
      subst this
      exact ⟨_, e1, fxo.rf, fun hz => hI 0 (by rw [evk_h]; exact hz)⟩
theorem s_rankOf {u : Nat} {fa : Nat → Nat} (hN : nt_ok nn L E) (hC : cd_ok C N) (hC2 : N ≠ 0 → 0 < hgt C N) (hu : u < 10) {F : fx_F} (hm : mn F nn L E) (hc : mcc F C N) (hst : ∀ l, l < L → st l = mst F l) (hfa : F 188 u = fa u) (h : Cl k_M_rankOf [(2, 175), (0, u)] F v F') : v = (0, rk C N fa (fun u => dgc E st u (2 * L)) u) ∧ fxo [191] F F' := by
  obtain ⟨n, h⟩ := c_M_rankOf h
  have q := q_M_rankOf_0 h
  rw [hc.1] at q
  unfold rk
  by_cases h0 : N = 0
  · obtain ⟨e1, e2⟩ := q.2 h0
    subst e2
    rw [if_pos h0, ← hfa]
    exact ⟨e1, fxo.rf⟩
  · obtain ⟨m, hm2, hR⟩ := q.1 h0
    obtain ⟨x, r1, r2, r3⟩ := mr23 (st := st) (fa := fa u) hN hC hu rfl m F 0 hR hm hc hst hfa (Nat.zero_le _) (fun j hj => absurd hj (Nat.not_lt_zero _))
    rw [if_neg h0, ← r3 (hC2 h0)]
    exact ⟨r1, r2⟩
theorem s_layRanks (hN : nt_ok nn L E) (hC : cd_ok C N) (hC2 : N ≠ 0 → 0 < hgt C N) (hr : r < nn ∨ nn = 0) (hr2 : r < 10) {F : fx_F} (hm : mn F nn L E) (hc : mcc F C N) (hst : ∀ l, l < L → st l = mst F l) (h : Cl k_M_layRanks [(2, 175), (0, r)] F v F') : fxo [188, 189, 191] F F' ∧ ∀ u, u < nn → F' 188 u = fr L E st r u ∧ F' 189 u = rk C N (fr L E st r) (fun u => dgc E st u (2 * L)) u := by
  obtain ⟨n, h⟩ := c_M_layRanks h
  obtain ⟨F1, c1, m, hm2, hR⟩ := q_M_layRanks_0 h
  have hn := hN.1
  have hsw : ∀ l, l < L → st l = msw F E 4294967295 l := by
    intro l hl
    rw [hst l hl]
    unfold msw
    have e1 := (hN.2.2 (2 * l) (by omega)).1
    have e2 := (hN.2.2 (2 * l + 1) (by omega)).1
    rw [show Nat.beq (E (2 * l)) 4294967295 = false from Bool.eq_false_iff.mpr (fun z => by have := rx_beq.mp z; omega), show Nat.beq (E (2 * l + 1)) 4294967295 = false from Bool.eq_false_iff.mpr (fun z => by have := rx_beq.mp z; omega)]
    cases mst F l <;> rfl
  obtain ⟨a1, a2⟩ := s_layFar hN hr hr2 hm hsw c1
  have lp : ∀ (n : Nat) (F : fx_F) (i : Nat), Rn n k_M_layRanks 8 [(2, 175), (3, 0), (0, i)] [] F v F' → mn F nn L E → mcc F C N → (∀ l, l < L → st l = mst F l) → (∀ u, u < nn → F 188 u = fr L E st r u) → i ≤ nn → (∀ u, u < i → F 189 u = rk C N (fr L E st r) (fun u => dgc E st u (2 * L)) u) → fxo [189, 191] F F' ∧ ∀ u, u < nn → F' 188 u = fr L E st r u ∧ F' 189 u = rk C N (fr L E st r) (fun u => dgc E st u (2 * L)) u := by
    intro n
    induction n using Nat.strongRecOn with
    | ind n ih =>
      intro F i h hm hc hst hfa hi hI
      have q := q_M_layRanks_8 h
      rw [hm.2.1] at q
      rcases Nat.lt_or_ge i nn with hlt | hlt
      · obtain ⟨n1, F2, c2, m, hm2, hR⟩ := q.2 (by rw [b_lt (by omega) (by omega)]; exact hlt)
        rw [b_add (show i + 1 < 4294967296 by omega)] at hR
        obtain ⟨x1, x2⟩ := s_rankOf (fa := fr L E st r) hN hC hC2 (by omega) hm hc hst (hfa i hlt) c2
        cases x1
        have ho : fxo [189, 191] F (fu F2 189 i (rk C N (fr L E st r) (fun u => dgc E st u (2 * L)) i)) := (x2.mono (by decide)).wr (by decide)
        have e : ∀ q j, q ∉ [189, 191] → (fu F2 189 i (rk C N (fr L E st r) (fun u => dgc E st u (2 * L)) i)) q j = F q j := ho
        obtain ⟨r1, r2⟩ := ih m hm2 _ (i + 1) hR (hm.keep ho (by decide) (by decide) (by decide) (by decide)) (hc.keep ho (by decide) (by decide) (by decide)) (fun l hl => by rw [hst l hl]; unfold mst; rw [e 176 _ (by decide)]) (fun u hu => (e 188 u (by decide)).trans (hfa u hu)) (by omega) (fun u hu => by
          by_cases hz : u = i
          · rw [hz, fu_same]
          · rw [fu_i hz, x2 189 u (by decide)]
            exact hI u (by omega))
        exact ⟨ho.tr r1, r2⟩
      · obtain ⟨-, e⟩ := q.1 (by rw [b_le (by omega) (by omega)]; exact hlt)
        subst e
        exact ⟨fxo.rf, fun u hu => ⟨hfa u hu, hI u (by omega)⟩⟩
  have e : ∀ q j, q ∉ [188] → F1 q j = F q j := a1
  obtain ⟨r1, r2⟩ := lp m F1 0 hR (hm.keep a1 (by decide) (by decide) (by decide) (by decide)) (hc.keep a1 (by decide) (by decide) (by decide)) (fun l hl => by rw [hst l hl]; unfold mst; rw [e 176 _ (by decide)]) a2 (Nat.zero_le _) (fun u hu => absurd hu (Nat.not_lt_zero _))
  exact ⟨(a1.mono (by decide)).tr (r1.mono (by decide)), r2⟩
/-- the up end of link l, were all oriented by ranks -/
noncomputable def uend (E : Nat → Nat) (R : Nat → Nat) (l : Nat) : Nat := @ite Nat (abv R (E (2 * l + 1)) (E (2 * l))) (Classical.propDecidable _) (E (2 * l + 1)) (E (2 * l))
theorem abv_tri {R : Nat → Nat} {x y : Nat} (hR : R x < 4294967296) (hR2 : R y < 4294967296) (hne : x ≠ y) : abv R x y ↔ ¬ abv R y x := by
  unfold abv
  rw [s_lt_eq, s_lt_eq]
  have inj : rx_bi (R x) = rx_bi (R y) ↔ R x = R y := ⟨fun z => fx_bi_inj hR hR2 z, fun z => by rw [z]⟩
  generalize rx_bi (R x) = a at *
  generalize rx_bi (R y) = b at *
  generalize R x = c at *
  generalize R y = d at *
  by_cases h : c = d
  · have := inj.mpr h
    subst h
    subst this
    omega
  · have : a ≠ b := fun z => h (inj.mp z)
    omega
theorem i_lt32 : (∀ x y, i_add x y < 4294967296) ∧ (∀ x y, i_sub x y < 4294967296) ∧ (∀ x y, i_mul x y < 4294967296) ∧ (∀ x y, i_div x y < 4294967296) ∧ (∀ x y, i_rem x y < 4294967296) ∧ ∀ x, i_neg x < 4294967296 :=
  ⟨fun x y => by rw [i_add_eq]; exact Nat.mod_lt _ (by decide), fun x y => by rw [i_sub_eq]; exact Nat.mod_lt _ (by decide), fun x y => by rw [i_mul_eq]; exact Nat.mod_lt _ (by decide), fun x y => by rw [i_div_eq]; exact ax_i32_lt _, fun x y => by rw [i_rem_eq]; exact ax_i32_lt _, fun x => by rw [i_neg_eq]; exact ax_i32_lt _⟩
theorem wop_lt (c x y : Nat) : wop c x y < 4294967296 := by
  obtain ⟨h1, h2, h3, h4, h5, h6⟩ := i_lt32
  unfold wop
  split
  · exact h1 _ _
  · split
    · exact h2 _ _
    · split
      · exact h3 _ _
      · split
        · split
          · decide
          · exact h4 _ _
        · split
          · decide
          · exact h5 _ _
theorem evk_lt {fa u dg : Nat} (h1 : fa < 4294967296) (h2 : u < 4294967296) (h3 : dg < 4294967296) (hC : cd_ok C N) : ∀ k, k ≤ N → ∀ j, (evk fa u dg C k).2 j < 4294967296
  | 0, _, j => by show 0 < 4294967296; decide
  | k + 1, hk, j => by
    have ih := evk_lt h1 h2 h3 hC k (by omega)
    have hc := (hC.2 k (by omega)).1
    show (ev1 fa u dg (C k) (evk fa u dg C k)).2 j < 4294967296
    unfold ev1
    split
    · show (if j = _ then _ else _) < _
      split
      · exact i_lt32.2.2.2.2.2 _
      · exact ih j
    · split
      · show (if j = _ then _ else _) < _
        split
        · exact wop_lt _ _ _
        · exact ih j
      · show (if j = _ then (if C k = 1000 then fa else if C k = 1001 then u else if C k = 1002 then dg else C k) else _) < _
        split
        · split
          · exact h1
          · split
            · exact h2
            · split
              · exact h3
              · omega
        · exact ih j
theorem rk_lt {fa dg : Nat → Nat} {u : Nat} (h1 : fa u < 4294967296) (h2 : u < 4294967296) (h3 : dg u < 4294967296) (hC : cd_ok C N) : rk C N fa dg u < 4294967296 := by
  unfold rk
  split
  · exact h1
  · exact evk_lt h1 h2 h3 hC N (Nat.le_refl N) 0
/-- up ends by a root -/
theorem s_orientBy (hN : nt_ok nn L E) (hC : cd_ok C N) (hC2 : N ≠ 0 → 0 < hgt C N) (hr : r < nn ∨ nn = 0) (hr2 : r < 10) {F : fx_F} (hm : mn F nn L E) (hc : mcc F C N) (hst : ∀ l, l < L → st l = mst F l) (h : Cl k_M_orientBy [(2, 175), (0, r)] F v F') : fxo [188, 189, 190, 191] F F' ∧ (∀ l, l < L → F' 190 l = uend E (rk C N (fr L E st r) (fun u => dgc E st u (2 * L))) l) ∧ ∀ l, L ≤ l → F' 190 l = F 190 l := by
  obtain ⟨n, h⟩ := c_M_orientBy h
  obtain ⟨F1, c1, m, hm2, hR⟩ := q_M_orientBy_0 h
  obtain ⟨a1, a2⟩ := s_layRanks hN hC hC2 hr hr2 hm hc hst c1
  have hL := hN.2.1
  have hn := hN.1
  have hrk : ∀ u, u < nn → rk C N (fr L E st r) (fun u => dgc E st u (2 * L)) u < 4294967296 := by
    intro u hu
    refine rk_lt ?_ (by omega) ?_ hC
    · have : fr L E st r u ≤ 10 := by
        rcases hr with hr | hr
        · exact fr_le hN hr
        · omega
      omega
    · have : dgc E st u (2 * L) ≤ 2 * L := cnt_le _ _
      omega
  generalize hRR : rk C N (fr L E st r) (fun u => dgc E st u (2 * L)) = R at *
  have lp : ∀ (n : Nat) (F : fx_F) (l : Nat), Rn n k_M_orientBy 7 [(2, 175), (3, 0), (0, l)] [] F v F' → mn F nn L E → (∀ u, u < nn → F 189 u = R u) → l ≤ L → (∀ j, j < l → F 190 j = uend E R j) → fxo [190] F F' ∧ (∀ l, l < L → F' 190 l = uend E R l) ∧ ∀ l, L ≤ l → F' 190 l = F 190 l := by
    intro n
    induction n using Nat.strongRecOn with
    | ind n ih =>
      intro F l h hm hR hl hI
      have q := q_M_orientBy_7 h
      rw [hm.2.2.1] at q
      rcases Nat.lt_or_ge l L with hlt | hlt
      · replace q := q.2 (by rw [b_lt (by omega) (by omega)]; exact hlt)
        have e1 := (hN.2.2 (2 * l) (by omega)).1
        have hne := (hN.2.2 (2 * l) (by omega)).2
        have e2 := (hN.2.2 (2 * l + 1) (by omega)).1
        rw [show nf (2 * l) = 2 * l + 1 by unfold nf; rw [if_pos (by omega)]] at hne
        rw [mE0 hm hL hlt, mE hm hL hlt (Nat.le_refl 1), hR _ e1, hR _ e2, b_add (show l + 1 < 4294967296 by omega)] at q
        have tr := abv_tri (R := R) (hrk _ e1) (hrk _ e2) hne
        have go : ∀ x, x = uend E R l → (∃ m, m < n ∧ Rn m k_M_orientBy 7 [(2, 175), (3, 0), (0, l + 1)] [] (fu F 190 l x) v F') → fxo [190] F F' ∧ (∀ l, l < L → F' 190 l = uend E R l) ∧ ∀ l, L ≤ l → F' 190 l = F 190 l := by
          intro x hx ⟨m, hm2, hq⟩
          have ho : fxo [190] F (fu F 190 l x) := fxo.rf.wr List.mem_cons_self
          obtain ⟨r1, r2, r3⟩ := ih m hm2 _ (l + 1) hq (hm.keep ho (by decide) (by decide) (by decide) (by decide)) (fun u hu => by rw [fu_p (by decide)]; exact hR u hu) (by omega) (fun j hj => by
            by_cases hz : j = l
            · rw [hz, fu_same]; exact hx
            · rw [fu_i hz]; exact hI j (by omega))
          exact ⟨ho.tr r1, r2, fun j hj => by rw [r3 j hj, fu_i (by omega)]⟩
        have ya : abv R (E (2 * l)) (E (2 * l + 1)) → E (2 * l) = uend E R l := fun z => by unfold uend; rw [if_neg (tr.mp z)]
        have na : ¬ abv R (E (2 * l)) (E (2 * l + 1)) → E (2 * l + 1) = uend E R l := fun z => by unfold uend; rw [if_pos (Classical.byContradiction (fun z2 => z (tr.mpr z2)))]
        have tri : ∀ a b, ¬ s_lt a b → s_le b a := by
          intro a b z
          rw [s_lt_eq] at z
          rw [s_le_eq]
          exact Nat.le_of_not_lt z
        by_cases h1 : s_lt (R (E (2 * l))) (R (E (2 * l + 1)))
        · exact go _ (ya (Or.inl h1)) (q.1 h1)
        · replace q := q.2 (tri _ _ h1)
          by_cases h2 : R (E (2 * l)) = R (E (2 * l + 1))
          · replace q := q.2 h2
            rcases Nat.lt_or_ge (E (2 * l)) (E (2 * l + 1)) with h3 | h3
            · exact go _ (ya (Or.inr ⟨h2, h3⟩)) (q.2 (by rw [b_lt (by omega) (by omega)]; exact h3))
            · refine go _ (na (fun z => ?_)) (q.1 (by rw [b_le (by omega) (by omega)]; exact h3))
              rcases z with z | ⟨_, z⟩
              · exact h1 z
              · omega
          · refine go _ (na (fun z => ?_)) (q.1 h2)
            rcases z with z | ⟨z, _⟩
            · exact h1 z
            · exact h2 z
      · obtain ⟨-, e⟩ := q.1 (by rw [b_le (by omega) (by omega)]; exact hlt)
        subst e
        exact ⟨fxo.rf, fun j hj => hI j (by omega), fun _ _ => rfl⟩
  obtain ⟨r1, r2, r3⟩ := lp m F1 0 hR (hm.keep a1 (by decide) (by decide) (by decide) (by decide)) (fun u hu => (a2 u hu).2) (Nat.zero_le _) (fun u hu => absurd hu (Nat.not_lt_zero _))
  exact ⟨(a1.mono (by decide)).tr (r1.mono (by decide)), r2, fun l hl => (r3 l hl).trans (a1 190 l (by decide))⟩
end MRK
