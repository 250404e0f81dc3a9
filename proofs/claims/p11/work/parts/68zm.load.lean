/-! load, heaviest on both sides -/
section LOAD
variable {nn L s p g up R N : Nat} {E C : Nat → Nat} {st u : Nat → Bool} {v v2 : fx_V} {F F' G G' : fx_F}
theorem s_layLoads (hN : nt_ok nn L E) (hI : mgi G nn L E st u) (h : Cl k_M_layLoads [(2, 175)] G v G') : v = (2, 0) ∧ fxo [193, 196, 197, 198] G G' ∧ ∀ c, c < 2 * L → G' 198 c = lod nn L E st u c := by
  obtain ⟨n, h⟩ := c_M_layLoads h
  obtain ⟨G0, c0, m, hm2, hR⟩ := q_M_layLoads_0 h
  have hL := hN.2.1
  have hn := hN.1
  obtain ⟨-, o0, t0, -⟩ := s_mlayTable hN hI c0
  have hI0 := hI.keep o0 (by decide) (by decide) (by decide) (by decide) (by decide)
  have kp : ∀ G2 : fx_F, fxo [198] G0 G2 → mgi G2 nn L E st u ∧ mtb G2 nn L E st u := fun G2 ho => ⟨hI0.keep ho (by decide) (by decide) (by decide) (by decide) (by decide), t0.keep ho (by decide)⟩
  let P : Nat → Prop := fun n => ∀ (G2 : fx_F) (w : Nat), Rn n k_M_layLoads 27 [(2, 175), (0, w), (3, 0), (3, 0)] [] G2 v G' → w ≤ nn → fxo [198] G0 G2 → (∀ c, c < 2 * L → G2 198 c = lfr nn L E st u w c) → v = (2, 0) ∧ fxo [198] G0 G' ∧ ∀ c, c < 2 * L → G' 198 c = lod nn L E st u c
  let P2 : Nat → Nat → Prop := fun w n => ∀ (G2 : fx_F) (g : Nat), Rn n k_M_layLoads 37 [(2, 175), (0, w), (0, g), (3, 0)] [] G2 v G' → g ≤ nn → fxo [198] G0 G2 → (∀ c, c < 2 * L → G2 198 c = lto nn L E st u (lfr nn L E st u w) w g c) → v = (2, 0) ∧ fxo [198] G0 G' ∧ ∀ c, c < 2 * L → G' 198 c = lod nn L E st u c
  have l47 : ∀ (w g : Nat), w < nn → g < nn → ∀ (M n : Nat), (∀ m, m < M → P2 w m) → n < M → ∀ (G2 : fx_F) (k : Nat), Rn n k_M_layLoads 47 [(2, 175), (0, w), (0, g), (0, k)] [] G2 v G' → k ≤ 20 → fxo [198] G0 G2 → (∀ c, c < 2 * L → G2 198 c = lpa nn L E st u (lto nn L E st u (lfr nn L E st u w) w g) g w k c) → v = (2, 0) ∧ fxo [198] G0 G' ∧ ∀ c, c < 2 * L → G' 198 c = lod nn L E st u c := by
    intro w g hw hg M n hP
    induction n using Nat.strongRecOn with
    | ind n ih =>
      intro hnM G2 k h hk ho hu
      obtain ⟨ki, kt⟩ := kp G2 ho
      obtain ⟨n1, G3, c1, q1, q2⟩ := q_M_layLoads_47 h
      obtain ⟨a1, a2⟩ := s_pathAt hN hg hw (by clear q1 q2; omega) ki kt c1
      subst a1
      cases a2
      have hq := pa_q (nn := nn) (L := L) (E := E) (st := st) (u := u) (g := g) (w := w) k
      by_cases z : pa nn L E st u g w k = 4294967295
      · obtain ⟨m, hm, hR⟩ := q1 (by rw [z, b_neg (by decide)]; decide)
        clear q1 q2
        rw [b_add (show g + 1 < 4294967296 by omega)] at hR
        refine hP m (by omega) G3 (g + 1) hR hg ho (fun c hc => ?_)
        show _ = lpa nn L E st u (lto nn L E st u (lfr nn L E st u w) w g) g w 20 c
        have := lpa_stop (us := lto nn L E st u (lfr nn L E st u w) w g) hc hL z (20 - k)
        rw [show k + (20 - k) = 20 by omega] at this
        rw [this]; exact hu c hc
      · have hpl : pa nn L E st u g w k < 2 * L := (hq.resolve_left z).1
        have hk19 : k < 19 := by
          rcases Nat.lt_or_ge k 19 with y | y
          · exact y
          · exact absurd (pa_20 hN hg y) z
        obtain ⟨n2, G4, c2, m, hm, hR⟩ := q2 (by rw [b_pos (by clear q1 q2; omega)]; clear q1 q2; omega)
        clear q1 q2
        obtain ⟨a1, a2⟩ := s_pathAt hN hg hw (by omega) ki kt c2
        subst a1
        cases a2
        have hle := lpa_b (nn := nn) (L := L) (E := E) (st := st) (u := u) (g := g) hn (w := w) (k := k) (c := pa nn L E st u g w k) hw (Nat.le_of_lt hg) hk
        rw [hu _ hpl, b_add (show k + 1 < 4294967296 by omega), b_add (show lpa nn L E st u (lto nn L E st u (lfr nn L E st u w) w g) g w k (pa nn L E st u g w k) + 1 < 4294967296 by omega)] at hR
        refine ih m hm (by omega) _ (k + 1) hR (by omega) (ho.wr (by decide)) (fun c hc => ?_)
        show _ = if c = pa nn L E st u g w k then _ else _
        by_cases ec : c = pa nn L E st u g w k
        · rw [if_pos ec, ← ec, fu_same]
        · rw [if_neg ec, fu_i ec]; exact hu c hc
  have lP2 : ∀ (w : Nat), w < nn → ∀ (M n : Nat), (∀ m, m < M → P m) → n < M → P2 w n := by
    intro w hw M n hP
    induction n using Nat.strongRecOn with
    | ind n ih =>
      intro hnM G2 g h hg ho hu
      obtain ⟨ki, kt⟩ := kp G2 ho
      have Q := q_M_layLoads_37 h
      rw [ki.1.2.1] at Q
      rcases Nat.lt_or_ge g nn with hlt | hge
      · obtain ⟨m, hm, hR⟩ := Q.2 (by rw [b_lt (by clear Q; omega) (by clear Q; omega)]; exact hlt)
        exact l47 w g hw hlt n m (fun m hm => ih m hm (by clear Q; omega)) hm G2 0 hR (Nat.zero_le _) ho hu
      · obtain ⟨m, hm, hR⟩ := Q.1 (by rw [b_le (by clear Q; omega) (by clear Q; omega)]; exact hge)
        clear Q
        rw [b_add (show w + 1 < 4294967296 by omega)] at hR
        have : g = nn := by omega
        subst this
        exact hP m (by omega) G2 (w + 1) hR hw ho hu
  have lP : ∀ n, P n := by
    intro n
    induction n using Nat.strongRecOn with
    | ind n ih =>
      intro G2 w h hw ho hu
      obtain ⟨ki, kt⟩ := kp G2 ho
      have Q := q_M_layLoads_27 h
      rw [ki.1.2.1] at Q
      rcases Nat.lt_or_ge w nn with hlt | hge
      · obtain ⟨m, hm, hR⟩ := Q.2 (by rw [b_lt (by clear Q; omega) (by clear Q; omega)]; exact hlt)
        exact lP2 w hlt n m ih hm G2 0 hR (Nat.zero_le _) ho hu
      · obtain ⟨x1, x2⟩ := Q.1 (by rw [b_le (by clear Q; omega) (by clear Q; omega)]; exact hge)
        clear Q
        subst x2
        have : w = nn := by omega
        subst this
        exact ⟨x1, ho, hu⟩
  have l6 : ∀ (n : Nat) (G2 : fx_F) (c : Nat), Rn n k_M_layLoads 6 [(2, 175), (0, c), (3, 0), (3, 0)] [] G2 v G' → c ≤ 40 → fxo [198] G0 G2 → (∀ c', c' < c → G2 198 c' = 0) → v = (2, 0) ∧ fxo [198] G0 G' ∧ ∀ c, c < 2 * L → G' 198 c = lod nn L E st u c := by
    intro n
    induction n using Nat.strongRecOn with
    | ind n ih =>
      intro G2 c h hc ho hz
      have Q := q_M_layLoads_6 h
      rcases Nat.lt_or_ge c 40 with hlt | hge
      · obtain ⟨m, hm, hR⟩ := Q.2 (by rw [b_lt (by clear Q; omega) (by decide)]; exact hlt)
        clear Q
        rw [b_add (show c + 1 < 4294967296 by omega)] at hR
        refine ih m hm _ (c + 1) hR hlt (ho.wr (by decide)) (fun c' hc' => ?_)
        by_cases e : c' = c
        · subst e; rw [fu_same]
        · rw [fu_i e]; exact hz c' (by omega)
      · obtain ⟨m, hm, hR⟩ := Q.1 (by rw [b_le (by decide) (by clear Q; omega)]; exact hge)
        clear Q
        exact lP m G2 0 hR (Nat.zero_le _) ho (fun c' hc' => hz c' (by omega))
  obtain ⟨x1, x2, x3⟩ := l6 m G0 0 hR (Nat.zero_le _) fxo.rf (fun c' hc' => absurd hc' (Nat.not_lt_zero _))
  exact ⟨x1, (o0.mono (by decide)).tr (x2.mono (by decide)), x3⟩
theorem lod_le (hn : nn ≤ 10) {c : Nat} : lod nn L E st u c ≤ 2000 := by
  have := lfr_le (nn := nn) (L := L) (E := E) (st := st) (u := u) (c := c) nn
  have h4 : nn * (20 * nn) ≤ 10 * 200 := Nat.mul_le_mul hn (by omega)
  unfold lod
  omega
theorem o_load {a : Nat} (ha : a < 4294967296) (h : lr F G nn L E C N R) (hF : Cl k_T_load [(2, 2), (0, a)] F v F') (hG : Cl k_M_load [(2, 175), (0, a)] G v2 G') : v = v2 ∧ lr F' G' nn L E C N R ∧ sF F F' ∧ sG G G' := by
  have hL := h.1.1.2.1
  have hN := h.1.1
  have hn := hN.1
  obtain ⟨nF, hF⟩ := c_T_load hF
  obtain ⟨nG, hG⟩ := c_M_load hG
  have Q := q_T_load_0 hF
  have QG := q_M_load_0 hG
  rw [h.2.1.1.2.1, b_mul (show 2 * L < 4294967296 by clear Q QG; omega)] at Q
  rw [h.2.2.1.1.2.2.1, b_mul (show 2 * L < 4294967296 by clear Q QG; omega)] at QG
  have no : v = (0, 4294967295) ∧ F' = F → v2 = (0, 4294967295) ∧ G' = G → v = v2 ∧ lr F' G' nn L E C N R ∧ sF F F' ∧ sG G G' := by
    rintro ⟨x1, x2⟩ ⟨y1, y2⟩
    subst x2
    subst y2
    exact ⟨x1.trans y1.symm, h, sF.rf, sG.rf⟩
  by_cases hl : a < 2 * L
  · obtain ⟨i1, i2, i3⟩ := in_y hl (show 2 * L ≤ 40 by clear Q QG; omega)
    obtain ⟨F1, c1, x1, x2⟩ := (Q.2 i1).2 i2
    obtain ⟨G1, d1, y1, y2⟩ := (QG.2 i1).2 i3
    clear Q QG
    obtain ⟨t1, t2, t3, t4, t5, t6⟩ := h.table c1
    obtain ⟨-, u1, u2⟩ := s_layLoads hN h.mgi d1
    rw [t4 a hl] at x1
    rw [u2 a hl] at y1
    subst x2
    subst y2
    exact ⟨x1.trans y1.symm, h.way (t1.mono (by simp)) t5 t6 (u1.mono (by simp))⟩
  · rcases in_n hl ha (show 2 * L ≤ 40 by clear Q QG; omega) with z | ⟨z1, z2, z3⟩
    · exact no (Q.1 z) (QG.1 z)
    · exact no ((Q.2 z1).1 z2) ((QG.2 z1).1 z3)
/-- the first of the greatest, of the first k -/
noncomputable def hvy (us : Nat → Nat) : Nat → Nat
  | 0 => 4294967295
  | k + 1 => if hvy us k = 4294967295 ∨ us (hvy us k) < us k then k else hvy us k
theorem hvy_lt {us : Nat → Nat} : ∀ k, hvy us (k + 1) < k + 1
  | 0 => by
    rw [show hvy us (0 + 1) = 0 from if_pos (Or.inl rfl)]; decide
  | k + 1 => by
    have := hvy_lt (us := us) k
    show (if hvy us (k + 1) = 4294967295 ∨ us (hvy us (k + 1)) < us (k + 1) then k + 1 else hvy us (k + 1)) < k + 2
    split <;> omega
theorem hvy_s {us : Nat → Nat} {k : Nat} (hk : 1 ≤ k) (hk2 : k < 100) : (us (hvy us k) < us k → hvy us (k + 1) = k) ∧ (us k ≤ us (hvy us k) → hvy us (k + 1) = hvy us k) := by
  have h1 := hvy_lt (us := us) (k - 1)
  rw [show k - 1 + 1 = k by omega] at h1
  refine ⟨fun h => if_pos (Or.inr h), fun h => if_neg (fun z => ?_)⟩
  rcases z with z | z <;> omega
theorem hvy_congr {us us2 : Nat → Nat} : ∀ {k : Nat}, k < 100 → (∀ c, c < k → us c = us2 c) → hvy us k = hvy us2 k
  | 0, _, _ => rfl
  | k + 1, hk, h => by
    have ih := hvy_congr (us := us) (us2 := us2) (k := k) (by omega) (fun c hc => h c (by omega))
    by_cases hz : k = 0
    · subst hz
      rw [show hvy us (0 + 1) = 0 from if_pos (Or.inl rfl), show hvy us2 (0 + 1) = 0 from if_pos (Or.inl rfl)]
    · have h1 := hvy_lt (us := us) (k - 1)
      rw [show k - 1 + 1 = k by omega] at h1
      have e1 := h (hvy us k) (by omega)
      have e2 := h k (by omega)
      have a := hvy_s (us := us) (k := k) (by omega) (by omega)
      have b := hvy_s (us := us2) (k := k) (by omega) (by omega)
      rw [← ih, ← e1, ← e2] at b
      rcases Nat.lt_or_ge (us (hvy us k)) (us k) with z | z
      · rw [a.1 z, b.1 z]
      · rw [a.2 z, b.2 z]
theorem s_cheavy (hL : L ≤ 20) (hL0 : L ≠ 0) (hcn : cn F nn L E) (hus : ∀ c, c < 2 * L → F (p + 4) c < 2147483648) (h : Cl k_Ro_heaviestChannel [(2, p)] F v F') : F' = F ∧ v = (0, hvy (F (p + 4)) (2 * L)) := by
  obtain ⟨n, h⟩ := c_Ro_heaviestChannel h
  obtain ⟨m, hm2, hR⟩ := q_Ro_heaviestChannel_0 h
  have lp : ∀ (n k : Nat), Rn n k_Ro_heaviestChannel 4 [(2, p), (0, hvy (F (p + 4)) k), (0, k)] [] F v F' → 1 ≤ k → k ≤ 2 * L → F' = F ∧ v = (0, hvy (F (p + 4)) (2 * L)) := by
    intro n
    induction n using Nat.strongRecOn with
    | ind n ih =>
      intro k h hk1 hk
      have Q := q_Ro_heaviestChannel_4 h
      rw [hcn.2.1, b_mul (show 2 * L < 4294967296 by clear Q; omega)] at Q
      rcases Nat.lt_or_ge k (2 * L) with hlt | hge
      · obtain ⟨Q1, Q2⟩ := Q.2 (by rw [b_lt (by clear Q; omega) (by clear Q; omega)]; exact hlt)
        clear Q
        have h1 := hvy_lt (us := F (p + 4)) (k - 1)
        rw [show k - 1 + 1 = k by clear Q1 Q2; omega] at h1
        have hv := hvy_s (us := F (p + 4)) hk1 (show k < 100 by clear Q1 Q2; omega)
        have b1 := hus k hlt
        have b2 := hus _ (Nat.lt_trans h1 hlt)
        rw [b_add (show k + 1 < 4294967296 by clear Q1 Q2; omega)] at Q1 Q2
        rcases Nat.lt_or_ge (F (p + 4) (hvy (F (p + 4)) k)) (F (p + 4) k) with z | z
        · obtain ⟨m, hm, hR⟩ := Q2 (by rw [b_lt b2 b1]; exact z)
          exact ih m hm (k + 1) (by rw [hv.1 z]; exact hR) (by clear Q1 Q2; omega) hlt
        · obtain ⟨m, hm, hR⟩ := Q1 (by rw [b_le b1 b2]; exact z)
          exact ih m hm (k + 1) (by rw [hv.2 z]; exact hR) (by clear Q1 Q2; omega) hlt
      · obtain ⟨x1, x2⟩ := Q.1 (by rw [b_le (by clear Q; omega) (by clear Q; omega)]; exact hge)
        clear Q
        have : k = 2 * L := by omega
        subst this
        exact ⟨x2, x1⟩
  refine lp m 1 ?_ (Nat.le_refl 1) (by omega)
  rw [show hvy (F (p + 4)) 1 = 0 from if_pos (Or.inl rfl)]
  exact hR
theorem s_mheavy (hL : L ≤ 20) (hm : mn G nn L E) (hus : ∀ c, c < 2 * L → G 198 c < 2147483648) (h : Cl k_M_heaviestNow [(2, 175)] G v G') : G' = G ∧ v = (0, hvy (G 198) (2 * L)) := by
  obtain ⟨n, h⟩ := c_M_heaviestNow h
  obtain ⟨m, hm2, hR⟩ := q_M_heaviestNow_0 h
  have lp : ∀ (n k : Nat), Rn n k_M_heaviestNow 4 [(2, 175), (0, hvy (G 198) k), (0, k)] [] G v G' → k ≤ 2 * L → G' = G ∧ v = (0, hvy (G 198) (2 * L)) := by
    intro n
    induction n using Nat.strongRecOn with
    | ind n ih =>
      intro k h hk
      have Q := q_M_heaviestNow_4 h
      rw [hm.2.2.1, b_mul (show 2 * L < 4294967296 by clear Q; omega)] at Q
      rcases Nat.lt_or_ge k (2 * L) with hlt | hge
      · obtain ⟨Q1, Q2⟩ := Q.2 (by rw [b_lt (by clear Q; omega) (by clear Q; omega)]; exact hlt)
        clear Q
        rw [b_add (show k + 1 < 4294967296 by clear Q1 Q2; omega)] at Q1 Q2
        by_cases hz : k = 0
        · subst hz
          obtain ⟨m, hm, hR⟩ := Q1 (by show s_lt 4294967295 0; rw [b_neg (by decide)]; decide)
          exact ih m hm 1 (by rw [show hvy (G 198) 1 = 0 from if_pos (Or.inl rfl)]; exact hR) hlt
        · have h1 := hvy_lt (us := G 198) (k - 1)
          rw [show k - 1 + 1 = k by clear Q1 Q2; omega] at h1
          have hv := hvy_s (us := G 198) (show 1 ≤ k by clear Q1 Q2; omega) (show k < 100 by clear Q1 Q2; omega)
          have b1 := hus k hlt
          have b2 := hus _ (Nat.lt_trans h1 hlt)
          obtain ⟨Q3, Q4⟩ := Q2 (by rw [b_pos (by clear Q1 Q2; omega)]; clear Q1 Q2; omega)
          rcases Nat.lt_or_ge (G 198 (hvy (G 198) k)) (G 198 k) with z | z
          · obtain ⟨m, hm, hR⟩ := Q4 (by rw [b_lt b2 b1]; exact z)
            exact ih m hm (k + 1) (by rw [hv.1 z]; exact hR) hlt
          · obtain ⟨m, hm, hR⟩ := Q3 (by rw [b_le b1 b2]; exact z)
            exact ih m hm (k + 1) (by rw [hv.2 z]; exact hR) hlt
      · obtain ⟨x1, x2⟩ := Q.1 (by rw [b_le (by clear Q; omega) (by clear Q; omega)]; exact hge)
        clear Q
        have : k = 2 * L := by omega
        subst this
        exact ⟨x2, x1⟩
  exact lp m 0 hR (Nat.zero_le _)
theorem o_heaviest {a : Nat} (ha : a < 4294967296) (h : lr F G nn L E C N R) (hF : Cl k_T_heaviest [(2, 2), (0, a)] F v F') (hG : Cl k_M_heaviest [(2, 175), (0, a)] G v2 G') : v = v2 ∧ lr F' G' nn L E C N R ∧ sF F F' ∧ sG G G' := by
  have hL := h.1.1.2.1
  have hN := h.1.1
  have hn := hN.1
  obtain ⟨nF, hF⟩ := c_T_heaviest hF
  obtain ⟨nG, hG⟩ := c_M_heaviest hG
  have Q := q_T_heaviest_0 hF
  have QG := q_M_heaviest_0 hG
  rw [h.2.1.1.2.1] at Q
  rw [h.2.2.1.1.2.2.1] at QG
  have no : v = (0, 4294967295) ∧ F' = F → v2 = (0, 4294967295) ∧ G' = G → v = v2 ∧ lr F' G' nn L E C N R ∧ sF F F' ∧ sG G G' := by
    rintro ⟨x1, x2⟩ ⟨y1, y2⟩
    subst x2
    subst y2
    exact ⟨x1.trans y1.symm, h, sF.rf, sG.rf⟩
  by_cases hL0 : L = 0
  · refine no (Q.1 hL0) ?_
    rcases bnd01 ha with ⟨c2, j1, j2⟩ | z | ⟨z1, z2⟩
    · exact ((QG.2 j1).2 j2).2 hL0
    · exact QG.1 z
    · exact (QG.2 z1).1 z2
  · replace Q := Q.2 hL0
    rcases bnd01 ha with ⟨c2, j1, j2⟩ | z | ⟨z1, z2⟩
    · obtain ⟨F1, c1, n2, F2, c3, x1, x2⟩ := (Q.2 j1).1 j2
      obtain ⟨G1, d1, QG1, QG2⟩ := ((QG.2 j1).2 j2).1 hL0
      clear Q QG
      obtain ⟨t1, t2, t3, t4, t5, t6⟩ := h.table c1
      obtain ⟨-, u1, u2⟩ := s_layLoads hN h.mgi d1
      have b1 : ∀ c, c < 2 * L → F1 (24 + 4) c < 2147483648 := fun c hc => by
        show F1 28 c < _
        rw [t4 c hc]
        have := lod_le (nn := nn) (L := L) (E := E) (st := bts (F (F 2 13) 2)) (u := bts (F (F 2 13) 1)) hn (c := c)
        clear x1 x2 QG1 QG2
        omega
      have b2 : ∀ c, c < 2 * L → G1 198 c < 2147483648 := fun c hc => by
        rw [u2 c hc]
        have := lod_le (nn := nn) (L := L) (E := E) (st := bts (F (F 2 13) 2)) (u := bts (F (F 2 13) 1)) hn (c := c)
        clear x1 x2 QG1 QG2
        omega
      obtain ⟨w1, w2⟩ := s_cheavy hL hL0 (h.2.1.1.keep t1 (by decide) (by decide) (by decide)) b1 c3
      subst w1
      cases w2
      have hv : hvy (F2 (24 + 4)) (2 * L) = hvy (G1 198) (2 * L) := hvy_congr (by clear x1 x2 QG1 QG2; omega) (fun c hc => by
        show F2 28 c = _
        rw [t4 c hc, u2 c hc])
      have hvl : hvy (G1 198) (2 * L) < 2 * L := by
        have := hvy_lt (us := G1 198) (2 * L - 1)
        rw [show 2 * L - 1 + 1 = 2 * L by clear x1 x2 QG1 QG2; omega] at this
        exact this
      have hm1 : mn G1 nn L E := h.2.2.1.1.keep u1 (by decide) (by decide) (by decide) (by decide)
      rw [hv] at x1 x2
      have fin : ∀ z, v = (0, z) ∧ F' = F2 → v2 = (0, z) ∧ G' = G1 → v = v2 ∧ lr F' G' nn L E C N R ∧ sF F F' ∧ sG G G' := by
        rintro z ⟨a1, a2⟩ ⟨b3, b4⟩
        subst a2
        subst b4
        exact ⟨a1.trans b3.symm, h.way (t1.mono (by simp)) t5 t6 (u1.mono (by simp))⟩
      by_cases e : a = 0
      · obtain ⟨n2, G2, d2, y1, y2⟩ := QG2 e
        obtain ⟨w3, w4⟩ := s_mheavy hL hm1 b2 d2
        subst w3
        cases w4
        exact fin _ (x2 e) ⟨y1, y2⟩
      · obtain ⟨n2, G2, d2, y1, y2⟩ := QG1 e
        obtain ⟨w3, w4⟩ := s_mheavy hL hm1 b2 d2
        subst w3
        cases w4
        rw [u2 _ hvl] at y1
        rw [t4 _ hvl] at x1
        exact fin _ (x1 e) ⟨y1, y2⟩
    · exact no (Q.1 z) (QG.1 z)
    · exact no ((Q.2 z1).2 z2) ((QG.2 z1).1 z2)
end LOAD
