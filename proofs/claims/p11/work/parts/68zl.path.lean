/-! Paths, loads on both sides -/
section PATH
variable {nn L s p g up R N : Nat} {E C : Nat → Nat} {st u : Nat → Bool} {v v2 : fx_V} {F F' G G' : fx_F}
theorem s_conPath (hN : nt_ok nn L E) (hp : 24 ≤ p) {w i : Nat} (hg : g < nn) (hw : w < nn) (hi : i < 2147483648) (hcn : cn F nn L E) (hr : rcs F nn L E p up s) (ht : ctb F nn L E p up s) (h : Cl k_Ro_channelOnPath [(2, p), (0, w), (0, g), (0, i)] F v F') : F' = F ∧ v = (0, pa nn L E (bts s) (bts up) g w i) := by
  obtain ⟨n, h⟩ := c_Ro_channelOnPath h
  obtain ⟨m, hm2, hR⟩ := q_Ro_channelOnPath_0 h
  have hL := hN.2.1
  have hn := hN.1
  have e0 : i_add (i_add (i_mul g 20) (i_mul 2 w)) 0 = 20 * g + 2 * w := by
    rw [b_mul (show g * 20 < 4294967296 by omega), b_mul (show 2 * w < 4294967296 by omega), b_add (show g * 20 + 2 * w < 4294967296 by omega), b_add (show g * 20 + 2 * w + 0 < 4294967296 by omega)]; omega
  rw [e0, ht g (2 * w) hg (by omega)] at hR
  have lp : ∀ (n k : Nat), Rn n k_Ro_channelOnPath 12 [(2, p), (3, 0), (0, g), (0, i), (0, pa nn L E (bts s) (bts up) g w k), (0, k)] [] F v F' → k ≤ i → k ≤ 20 → F' = F ∧ v = (0, pa nn L E (bts s) (bts up) g w i) := by
    intro n
    induction n using Nat.strongRecOn with
    | ind n ih =>
      intro k h hk hk20
      have Q := q_Ro_channelOnPath_12 h
      have hq := pa_q (nn := nn) (L := L) (E := E) (st := bts s) (u := bts up) (g := g) (w := w) k
      by_cases e : k = i
      · obtain ⟨x1, x2⟩ := Q.1 (by rw [b_le (by clear Q; omega) (by clear Q; omega)]; clear Q; omega)
        exact ⟨x2, by rw [x1, e]⟩
      · replace Q := Q.2 (by rw [b_lt (by clear Q; omega) (by clear Q; omega)]; clear Q; omega)
        have stop : pa nn L E (bts s) (bts up) g w k = 4294967295 → v = (0, pa nn L E (bts s) (bts up) g w k) ∧ F' = F → F' = F ∧ v = (0, pa nn L E (bts s) (bts up) g w i) := by
          clear Q
          rintro z ⟨x1, x2⟩
          have := pa_end z (i - k)
          rw [show k + (i - k) = i by omega] at this
          exact ⟨x2, by rw [x1, this, z]⟩
        rcases Nat.lt_or_ge k 20 with hlt | hge
        · replace Q := Q.2 (by rw [b_lt (by clear Q; omega) (by decide)]; exact hlt)
          by_cases z : pa nn L E (bts s) (bts up) g w k = 4294967295
          · exact stop z (Q.1 z)
          · obtain ⟨m, hm, hR⟩ := Q.2 z
            clear Q
            have hpl : pa nn L E (bts s) (bts up) g w k < 2 * L := (hq.resolve_left z).1
            have hb := bh_le (bts up) (pa nn L E (bts s) (bts up) g w k)
            have hE := (hN.2.2 _ (nf_lt hpl)).1
            have ei : i_add (i_mul g 20) (i_add (i_mul 2 (E (nf (pa nn L E (bts s) (bts up) g w k)))) (bh (bts up) (pa nn L E (bts s) (bts up) g w k))) = 20 * g + (2 * E (nf (pa nn L E (bts s) (bts up) g w k)) + bh (bts up) (pa nn L E (bts s) (bts up) g w k)) := by
              rw [b_mul (show g * 20 < 4294967296 by omega), b_mul (show 2 * E (nf (pa nn L E (bts s) (bts up) g w k)) < 4294967296 by omega), b_add (show 2 * E (nf (pa nn L E (bts s) (bts up) g w k)) + bh (bts up) (pa nn L E (bts s) (bts up) g w k) < 4294967296 by omega), b_add (show g * 20 + (2 * E (nf (pa nn L E (bts s) (bts up) g w k)) + bh (bts up) (pa nn L E (bts s) (bts up) g w k)) < 4294967296 by omega)]; omega
            rw [(hcn.2.2 _ hpl).2, hr.2.2.2.1 _ hpl, ei, ht g _ hg (by omega), b_add (show k + 1 < 4294967296 by omega), show ent nn L E (bts s) (bts up) g (2 * E (nf (pa nn L E (bts s) (bts up) g w k)) + bh (bts up) (pa nn L E (bts s) (bts up) g w k)) = pa nn L E (bts s) (bts up) g w (k + 1) by rw [pa_s, if_neg z]] at hR
            exact ih m hm (k + 1) hR (by omega) (by omega)
        · exact stop (pa_20 hN hg (by clear Q; omega)) (Q.1 (by rw [b_le (by decide) (by clear Q; omega)]; exact hge))
  exact lp m 0 hR (Nat.zero_le _) (Nat.zero_le _)
theorem s_pathAt (hN : nt_ok nn L E) {w i : Nat} (hg : g < nn) (hw : w < nn) (hi : i < 2147483648) (hI : mgi G nn L E st u) (ht : mtb G nn L E st u) (h : Cl k_M_pathAt [(2, 175), (0, w), (0, g), (0, i)] G v G') : G' = G ∧ v = (0, pa nn L E st u g w i) := by
  obtain ⟨n, h⟩ := c_M_pathAt h
  obtain ⟨m, hm2, hR⟩ := q_M_pathAt_0 h
  have hL := hN.2.1
  have hn := hN.1
  obtain ⟨hm, hst, hu⟩ := hI
  have ix : ∀ x t, x < nn → t < 2 → i_add (i_add (i_mul 20 g) (i_mul 2 x)) t = 20 * g + (2 * x + t) := fun x t hx ht => by
    rw [b_mul (show 20 * g < 4294967296 by omega), b_mul (show 2 * x < 4294967296 by omega), b_add (show 20 * g + 2 * x < 4294967296 by omega), b_add (show 20 * g + 2 * x + t < 4294967296 by omega), Nat.add_assoc]
  rw [ix w 0 hw (by decide), ht g _ hg (by omega)] at hR
  have lp : ∀ (n k t : Nat), Rn n k_M_pathAt 24 [(2, 175), (3, 0), (0, g), (0, i), (3, 0), (0, t), (0, pa nn L E st u g w k), (0, k)] [] G v G' → k ≤ i → k ≤ 20 → (pa nn L E st u g w k ≠ 4294967295 → t ≤ bh u (pa nn L E st u g w k)) → G' = G ∧ v = (0, pa nn L E st u g w i) := by
    intro n
    induction n using Nat.strongRecOn with
    | ind n ih =>
      intro k t h hk hk20 htb
      have Q := q_M_pathAt_24 h
      have hq := pa_q (nn := nn) (L := L) (E := E) (st := st) (u := u) (g := g) (w := w) k
      by_cases e : k = i
      · obtain ⟨x1, x2⟩ := Q.1 (by rw [b_le (by clear Q; omega) (by clear Q; omega)]; clear Q; omega)
        exact ⟨x2, by rw [x1, e]⟩
      · replace Q := Q.2 (by rw [b_lt (by clear Q; omega) (by clear Q; omega)]; clear Q; omega)
        by_cases z : pa nn L E st u g w k = 4294967295
        · obtain ⟨x1, x2⟩ := Q.1 (by rw [z, b_neg (by decide)]; decide)
          clear Q
          have := pa_end z (i - k)
          rw [show k + (i - k) = i by omega] at this
          exact ⟨x2, by rw [x1, this, z]⟩
        · have hpl : pa nn L E st u g w k < 2 * L := (hq.resolve_left z).1
          have hk19 : k < 19 := by
            rcases Nat.lt_or_ge k 19 with y | y
            · exact y
            · exact absurd (pa_20 hN hg y) z
          replace Q := Q.2 (by rw [b_pos (by clear Q; omega)]; clear Q; omega)
          have hb := bh_le u (pa nn L E st u g w k)
          have hE := (hN.2.2 _ (nf_lt hpl)).1
          have htb := htb z
          have upc : E (nf (pa nn L E st u g w k)) = G 176 (20 + pa nn L E st u g w k / 2) ↔ isup u (pa nn L E st u g w k) = true := by rw [hu (pa nn L E st u g w k / 2) (by clear Q; omega)]; exact isup_ue hN hpl
          have bu : (E (nf (pa nn L E st u g w k)) = G 176 (20 + pa nn L E st u g w k / 2) → bh u (pa nn L E st u g w k) = 0) ∧ (E (nf (pa nn L E st u g w k)) ≠ G 176 (20 + pa nn L E st u g w k / 2) → bh u (pa nn L E st u g w k) = 1) := by
            unfold bh
            exact ⟨fun z => by rw [if_pos (upc.mp z)], fun z => by rw [if_neg (fun y => z (upc.mpr y))]⟩
          rw [mTo hm hL hpl, b_div (show pa nn L E st u g w k < 2147483648 by clear Q; omega) (by decide) (by decide), b_add (show 20 + pa nn L E st u g w k / 2 < 4294967296 by clear Q; omega), ix _ 1 hE (by decide), ix _ 0 hE (by decide), ht g _ hg (show 2 * E (nf (pa nn L E st u g w k)) + 1 < 2 * nn by clear Q; omega), ht g _ hg (show 2 * E (nf (pa nn L E st u g w k)) + 0 < 2 * nn by clear Q; omega), b_add (show k + 1 < 4294967296 by clear Q; omega)] at Q
          have hs1 := pa_s (nn := nn) (L := L) (E := E) (st := st) (u := u) (g := g) (w := w) (i := k)
          rw [if_neg z] at hs1
          have go : ∀ t', bh u (pa nn L E st u g w k) = t' → ((E (nf (pa nn L E st u g w k)) ≠ g → ∃ m, m < n ∧ Rn m k_M_pathAt 24 [(2, 175), (3, 0), (0, g), (0, i), (3, 0), (0, t'), (0, ent nn L E st u g (2 * E (nf (pa nn L E st u g w k)) + t')), (0, k + 1)] [] G v G') ∧ (E (nf (pa nn L E st u g w k)) = g → ∃ m, m < n ∧ Rn m k_M_pathAt 24 [(2, 175), (3, 0), (0, g), (0, i), (3, 0), (0, t'), (0, 4294967295), (0, k + 1)] [] G v G')) → G' = G ∧ v = (0, pa nn L E st u g w i) := by
            clear Q
            intro t' ht' Q
            rw [ht'] at hs1
            have htn : pa nn L E st u g w (k + 1) ≠ 4294967295 → t' ≤ bh u (pa nn L E st u g w (k + 1)) := fun y => by
              rcases ent_q (nn := nn) (L := L) (E := E) (st := st) (u := u) (g := g) (x := 2 * E (nf (pa nn L E st u g w k)) + t') with y2 | ⟨_, y2, _⟩
              · exact absurd (hs1.trans y2) y
              · rw [← hs1] at y2
                clear Q
                omega
            by_cases eg : E (nf (pa nn L E st u g w k)) = g
            · obtain ⟨m, hm, hR⟩ := Q.2 eg
              clear Q
              have : ent nn L E st u g (2 * E (nf (pa nn L E st u g w k)) + t') = 4294967295 := tst_goal (by omega)
              rw [this] at hs1
              exact ih m hm (k + 1) t' (by rw [hs1]; exact hR) (by omega) (by omega) htn
            · obtain ⟨m, hm, hR⟩ := Q.1 eg
              clear Q
              exact ih m hm (k + 1) t' (by rw [hs1]; exact hR) (by omega) (by omega) htn
          by_cases hup : E (nf (pa nn L E st u g w k)) = G 176 (20 + pa nn L E st u g w k / 2)
          · exact go 0 (bu.1 hup) ((Q.2 hup).2 (by have := bu.1 hup; clear Q; omega))
          · by_cases ht1 : t = 1
            · exact go 1 (bu.2 hup) ((Q.1 hup).1 ht1)
            · exact go 1 (bu.2 hup) ((Q.1 hup).2 ht1)
  exact lp m 0 0 hR (Nat.zero_le _) (Nat.zero_le _) (fun _ => Nat.zero_le _)
theorem o_entry {a b c : Nat} (ha : a < 4294967296) (hb : b < 4294967296) (hc : c < 4294967296) (h : lr F G nn L E C N R) (hF : Cl k_T_entry [(2, 2), (0, a), (0, b), (0, c)] F v F') (hG : Cl k_M_entry [(2, 175), (0, a), (0, b), (0, c)] G v2 G') : v = v2 ∧ lr F' G' nn L E C N R ∧ sF F F' ∧ sG G G' := by
  have hL := h.1.1.2.1
  have hN := h.1.1
  have hn := hN.1
  obtain ⟨nF, hF⟩ := c_T_entry hF
  obtain ⟨nG, hG⟩ := c_M_entry hG
  have Q := q_T_entry_0 hF
  have QG := q_M_entry_0 hG
  rw [h.2.1.1.1] at Q
  rw [h.2.2.1.1.2.1] at QG
  have no : v = (0, 4294967295) ∧ F' = F → v2 = (0, 4294967295) ∧ G' = G → v = v2 ∧ lr F' G' nn L E C N R ∧ sF F F' ∧ sG G G' := by
    rintro ⟨x1, x2⟩ ⟨y1, y2⟩
    subst x2
    subst y2
    exact ⟨x1.trans y1.symm, h, sF.rf, sG.rf⟩
  by_cases hl : a < nn
  · obtain ⟨i1, i2, i3⟩ := in_y hl (show nn ≤ 40 by clear Q QG; omega)
    replace Q := (Q.2 i1).2 i2
    replace QG := (QG.2 i1).2 i3
    by_cases hl2 : b < nn
    · obtain ⟨i1, i2, i3⟩ := in_y hl2 (show nn ≤ 40 by clear Q QG; omega)
      replace Q := (Q.2 i1).2 i2
      replace QG := (QG.2 i1).2 i3
      rcases bnd01 hc with ⟨c2, j1, j2⟩ | z | ⟨z1, z2⟩
      · obtain ⟨F1, c1, x1, x2⟩ := (Q.2 j1).1 j2
        obtain ⟨G1, d1, y1, y2⟩ := (QG.2 j1).2 j2
        clear Q QG
        obtain ⟨t1, t2, t3, t4, t5, t6⟩ := h.table c1
        obtain ⟨-, u1, u2, -⟩ := s_mlayTable hN h.mgi d1
        rw [b_mul (show a * 20 < 4294967296 by omega), b_mul (show 2 * b < 4294967296 by omega), b_add (show a * 20 + 2 * b < 4294967296 by omega), b_add (show a * 20 + 2 * b + c < 4294967296 by omega), show a * 20 + 2 * b + c = 20 * a + (2 * b + c) by omega] at x1
        rw [b_mul (show 20 * a < 4294967296 by omega), b_mul (show 2 * b < 4294967296 by omega), b_add (show 20 * a + 2 * b < 4294967296 by omega), b_add (show 20 * a + 2 * b + c < 4294967296 by omega), Nat.add_assoc, u2 a _ hl (by omega)] at y1
        have := t3 a (2 * b + c) hl (by omega)
        replace this : F1 26 (20 * a + (2 * b + c)) = ent nn L E (bts (F (F 2 13) 2)) (bts (F (F 2 13) 1)) a (2 * b + c) := this
        rw [this] at x1
        subst x2
        subst y2
        exact ⟨x1.trans y1.symm, h.way (t1.mono (by simp)) t5 t6 (u1.mono (by simp))⟩
      · exact no (Q.1 z) (QG.1 z)
      · exact no ((Q.2 z1).2 z2) ((QG.2 z1).1 z2)
    · rcases in_n hl2 hb (show nn ≤ 40 by clear Q QG; omega) with z | ⟨z1, z2, z3⟩
      · exact no (Q.1 z) (QG.1 z)
      · exact no ((Q.2 z1).1 z2) ((QG.2 z1).1 z3)
  · rcases in_n hl ha (show nn ≤ 40 by clear Q QG; omega) with z | ⟨z1, z2, z3⟩
    · exact no (Q.1 z) (QG.1 z)
    · exact no ((Q.2 z1).1 z2) ((QG.2 z1).1 z3)
theorem o_path {a b c : Nat} (ha : a < 4294967296) (hb : b < 4294967296) (hc : c < 4294967296) (h : lr F G nn L E C N R) (hF : Cl k_T_path [(2, 2), (0, a), (0, b), (0, c)] F v F') (hG : Cl k_M_path [(2, 175), (0, a), (0, b), (0, c)] G v2 G') : v = v2 ∧ lr F' G' nn L E C N R ∧ sF F F' ∧ sG G G' := by
  have hL := h.1.1.2.1
  have hN := h.1.1
  have hn := hN.1
  obtain ⟨nF, hF⟩ := c_T_path hF
  obtain ⟨nG, hG⟩ := c_M_path hG
  have Q := q_T_path_0 hF
  have QG := q_M_path_0 hG
  rw [h.2.1.1.1] at Q
  rw [h.2.2.1.1.2.1] at QG
  have no : v = (0, 4294967295) ∧ F' = F → v2 = (0, 4294967295) ∧ G' = G → v = v2 ∧ lr F' G' nn L E C N R ∧ sF F F' ∧ sG G G' := by
    rintro ⟨x1, x2⟩ ⟨y1, y2⟩
    subst x2
    subst y2
    exact ⟨x1.trans y1.symm, h, sF.rf, sG.rf⟩
  by_cases hl : a < nn
  · obtain ⟨i1, i2, i3⟩ := in_y hl (show nn ≤ 40 by clear Q QG; omega)
    replace Q := (Q.2 i1).2 i2
    replace QG := (QG.2 i1).2 i3
    by_cases hl2 : b < nn
    · obtain ⟨i1, i2, i3⟩ := in_y hl2 (show nn ≤ 40 by clear Q QG; omega)
      replace Q := (Q.2 i1).2 i2
      replace QG := (QG.2 i1).2 i3
      rcases Nat.lt_or_ge c 2147483648 with z | z
      · obtain ⟨F1, c1, n2, F2, c2, x1, x2⟩ := Q.1 (by rw [b_pos hc]; exact z)
        obtain ⟨G1, d1, m2, G2, d2, y1, y2⟩ := QG.1 (by rw [b_pos hc]; exact z)
        clear Q QG
        obtain ⟨t1, t2, t3, t4, t5, t6⟩ := h.table c1
        obtain ⟨-, u1, u2, -⟩ := s_mlayTable hN h.mgi d1
        obtain ⟨w1, w2⟩ := s_conPath hN (by decide) hl2 hl z (h.2.1.1.keep t1 (by decide) (by decide) (by decide)) t2 t3 c2
        obtain ⟨w3, w4⟩ := s_pathAt hN hl2 hl z (h.mgi.keep u1 (by decide) (by decide) (by decide) (by decide) (by decide)) u2 d2
        subst w1
        subst w3
        cases w2
        cases w4
        subst x2
        subst y2
        exact ⟨x1.trans y1.symm, h.way (t1.mono (by simp)) t5 t6 (u1.mono (by simp))⟩
      · exact no (Q.2 (by rw [b_neg hc]; exact z)) (QG.2 (by rw [b_neg hc]; exact z))
    · rcases in_n hl2 hb (show nn ≤ 40 by clear Q QG; omega) with z | ⟨z1, z2, z3⟩
      · exact no (Q.1 z) (QG.1 z)
      · exact no ((Q.2 z1).1 z2) ((QG.2 z1).1 z3)
  · rcases in_n hl ha (show nn ≤ 40 by clear Q QG; omega) with z | ⟨z1, z2, z3⟩
    · exact no (Q.1 z) (QG.1 z)
    · exact no ((Q.2 z1).1 z2) ((QG.2 z1).1 z3)
end PATH
