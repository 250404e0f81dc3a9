/-! States, and a packet's step -/
/-- packet j, told by the class's state q and by the reference's row X -/
def pk (F : fx_F) (q : Nat) (X : Nat → Nat) (nn L j : Nat) : Prop := (F (q + 1) j = 4294967295 ∧ X (41 + j) = 0) ∨ (X (41 + j) = 1 ∧ X (65 + j) = F (q + 1) j ∧ F (q + 1) j < nn ∧ X (53 + j) = F (q + 2) j ∧ F (q + 2) j < nn ∧ X (77 + j) = F (q + 3) j ∧ (F (q + 3) j = 4294967295 ∨ F (q + 3) j < 2 * L) ∧ X (89 + j) = F (q + 4) j)
/-- the class's state q tells what row X tells -/
def sc (F : fx_F) (q : Nat) (X : Nat → Nat) (nn L : Nat) (E : Nat → Nat) : Prop := (F q 0 = X 40 ∧ X 40 < 10 ∧ (X 40 < nn ∨ nn = 0)) ∧ (F q 1 < 2 ^ L ∧ ∀ l, l < L → X (20 + l) = ue E (bts (F q 1)) l) ∧ (F q 2 < 2 ^ L ∧ ∀ l, l < L → X l = if (F q 2).testBit l then 1 else 0) ∧ F q 3 = X 101 ∧ ∀ j, j < 12 → pk F q X nn L j
/-- where states lie -/
def sok (q : Nat) : Prop := 53 ≤ q ∧ (q ≤ 153 ∨ 160 ≤ q) ∧ q ≤ 170
section GO
variable {nn L q j R : Nat} {E : Nat → Nat} {v : fx_V} {F' : fx_F}
theorem mst_sc {X : Nat → Nat} {s l : Nat} (h : X l = if s.testBit l then 1 else 0) : bts s l = Nat.beq (X l) 1 := by
  rw [h]
  show s.testBit l = _
  cases s.testBit l <;> rfl
/-- how many packets came by channel c -/
def cby (F : fx_F) (q c : Nat) : Nat := cnt (fun j => !(Nat.beq (F (q + 1) j) 4294967295) && Nat.beq (F (q + 3) j) c) 12
theorem s_ccame {c : Nat} {F : fx_F} (h : Cl k_St_countCameBy [(2, q), (0, c)] F v F') : F' = F ∧ v = (0, cby F q c) := by
  obtain ⟨n, h⟩ := c_St_countCameBy h
  obtain ⟨m, hm2, hR⟩ := q_St_countCameBy_0 h
  generalize hp : (fun j => !(Nat.beq (F (q + 1) j) 4294967295) && Nat.beq (F (q + 3) j) c) = p
  have hpt : ∀ j, p j = true ↔ F (q + 1) j ≠ 4294967295 ∧ F (q + 3) j = c := fun j => by
    rw [← hp]
    show (!(Nat.beq (F (q + 1) j) 4294967295) && Nat.beq (F (q + 3) j) c) = true ↔ _
    rw [Bool.and_eq_true, rx_beq]
    refine and_congr ?_ Iff.rfl
    rw [Bool.not_eq_true', ← Bool.not_eq_true, rx_beq]
  have lp : ∀ (n j : Nat), Rn n k_St_countCameBy 4 [(2, q), (0, c), (0, cnt p j), (0, j)] [] F v F' → j ≤ 12 → F' = F ∧ v = (0, cnt p 12) := by
    intro n
    induction n using Nat.strongRecOn with
    | ind n ih =>
      intro j h hj
      have hc := cnt_le p j
      have Q := q_St_countCameBy_4 h
      rcases Nat.lt_or_ge j 12 with hlt | hge
      · replace Q := Q.2 (by rw [b_lt (by clear Q; omega) (by decide)]; exact hlt)
        rw [b_add (show j + 1 < 4294967296 by clear Q; omega), b_add (show cnt p j + 1 < 4294967296 by clear Q; omega)] at Q
        have ey : p j = true → cnt p (j + 1) = cnt p j + 1 := fun z => by show cnt p j + (if p j then 1 else 0) = _; rw [z, if_pos rfl]
        have en : p j ≠ true → cnt p (j + 1) = cnt p j := fun z => by show cnt p j + (if p j then 1 else 0) = _; rw [if_neg z]; rfl
        by_cases e : F (q + 1) j = 4294967295
        · obtain ⟨m, hm, hR⟩ := Q.1 e
          exact ih m hm (j + 1) (by rw [en (fun z => ((hpt j).mp z).1 e)]; exact hR) hlt
        · replace Q := Q.2 e
          by_cases e2 : F (q + 3) j = c
          · obtain ⟨m, hm, hR⟩ := Q.2 e2
            exact ih m hm (j + 1) (by rw [ey ((hpt j).mpr ⟨e, e2⟩)]; exact hR) hlt
          · obtain ⟨m, hm, hR⟩ := Q.1 e2
            exact ih m hm (j + 1) (by rw [en (fun z => e2 ((hpt j).mp z).2)]; exact hR) hlt
      · obtain ⟨x1, x2⟩ := Q.1 (by rw [b_le (by decide) (by clear Q; omega)]; exact hge)
        clear Q
        have : j = 12 := by omega
        subst this
        exact ⟨x2, x1⟩
  have := lp m 0 hR (Nat.zero_le _)
  unfold cby
  rw [hp]
  exact this
def mby (X : Nat → Nat) (c : Nat) : Nat := cnt (fun j => Nat.beq (X (41 + j)) 1 && Nat.beq (X (77 + j)) c) 12
theorem s_mcame {c : Nat} {F : fx_F} (h : Cl k_M_cameBy [(2, 175), (0, c)] F v F') : F' = F ∧ v = (0, mby (F 176) c) := by
  obtain ⟨n, h⟩ := c_M_cameBy h
  obtain ⟨m, hm2, hR⟩ := q_M_cameBy_0 h
  generalize hp : (fun j => Nat.beq (F 176 (41 + j)) 1 && Nat.beq (F 176 (77 + j)) c) = p
  have hpt : ∀ j, p j = true ↔ F 176 (41 + j) = 1 ∧ F 176 (77 + j) = c := fun j => by
    rw [← hp]
    show (Nat.beq (F 176 (41 + j)) 1 && Nat.beq (F 176 (77 + j)) c) = true ↔ _
    rw [Bool.and_eq_true, rx_beq, rx_beq]
  have lp : ∀ (n j : Nat), Rn n k_M_cameBy 4 [(2, 175), (0, c), (0, cnt p j), (0, j)] [] F v F' → j ≤ 12 → F' = F ∧ v = (0, cnt p 12) := by
    intro n
    induction n using Nat.strongRecOn with
    | ind n ih =>
      intro j h hj
      have hc := cnt_le p j
      have q := q_M_cameBy_4 h
      rcases Nat.lt_or_ge j 12 with hlt | hge
      · replace q := q.2 (by rw [b_lt (by clear q; omega) (by decide)]; exact hlt)
        rw [b_add (show j + 1 < 4294967296 by clear q; omega), b_add (show cnt p j + 1 < 4294967296 by clear q; omega), b_add (show cnt p j + 0 < 4294967296 by clear q; omega), b_add (show 41 + j < 4294967296 by clear q; omega), b_add (show 77 + j < 4294967296 by clear q; omega), Nat.add_zero] at q
        have ey : p j = true → cnt p (j + 1) = cnt p j + 1 := fun z => by show cnt p j + (if p j then 1 else 0) = _; rw [z, if_pos rfl]
        have en : p j ≠ true → cnt p (j + 1) = cnt p j := fun z => by show cnt p j + (if p j then 1 else 0) = _; rw [if_neg z]; rfl
        by_cases e : F 176 (41 + j) = 1
        · replace q := q.2 e
          by_cases e2 : F 176 (77 + j) = c
          · obtain ⟨m, hm, hR⟩ := q.2 e2
            exact ih m hm (j + 1) (by rw [ey ((hpt j).mpr ⟨e, e2⟩)]; exact hR) hlt
          · obtain ⟨m, hm, hR⟩ := q.1 e2
            exact ih m hm (j + 1) (by rw [en (fun z => e2 ((hpt j).mp z).2)]; exact hR) hlt
        · obtain ⟨m, hm, hR⟩ := q.1 e
          exact ih m hm (j + 1) (by rw [en (fun z => e ((hpt j).mp z).1)]; exact hR) hlt
      · obtain ⟨x1, x2⟩ := q.1 (by rw [b_le (by decide) (by clear q; omega)]; exact hge)
        clear q
        have : j = 12 := by omega
        subst this
        exact ⟨x2, x1⟩
  have := lp m 0 hR (Nat.zero_le _)
  unfold mby
  rw [hp]
  exact this
theorem by_eq {F : fx_F} {X : Nat → Nat} {c : Nat} (h : ∀ j, j < 12 → pk F q X nn L j) (hnn : nn ≤ 10) : cby F q c = mby X c := by
  refine cnt_congr (fun j hj => ?_)
  show (!(Nat.beq (F (q + 1) j) 4294967295) && Nat.beq (F (q + 3) j) c) = (Nat.beq (X (41 + j)) 1 && Nat.beq (X (77 + j)) c)
  rcases h j hj with ⟨a, b⟩ | ⟨a, b, b2, d, e, f, g⟩
  · rw [a, b]; rfl
  · rw [a, f]
    have : Nat.beq (F (q + 1) j) 4294967295 = false := by
      cases hq : Nat.beq (F (q + 1) j) 4294967295 with
      | false => rfl
      | true => have := rx_beq.mp hq; omega
    rw [this]; rfl
/-- the state a packet is in by the channel it came by -/
def lay (u : Nat → Bool) (c : Nat) : Nat := if c = 4294967295 then 0 else bh u c
theorem lay_le (u : Nat → Bool) (c : Nat) : lay u c < 2 := by
  unfold lay; split
  · omega
  · have := bh_le u c; omega
/-- what the class's packet does -/
def cgo (F F' : fx_F) (q j R : Nat) (y : Nat) : Prop := (F (q + 1) j = F (q + 2) j ∧ F' = fu (fu (fu F (q + 1) j 4294967295) q 3 (i_add (F q 3) 1)) 50 1 (i_add (F 50 1) 1)) ∨ (F (q + 1) j ≠ F (q + 2) j ∧ (y = 4294967295 ∨ R ≤ cby F q y) ∧ F' = fu (fu F (q + 4) j (i_add (F (q + 4) j) 1)) 50 2 (i_add (F 50 2) 1)) ∨ (F (q + 1) j ≠ F (q + 2) j ∧ y ≠ 4294967295 ∧ cby F q y < R ∧ F' = fu (fu (fu F (q + 1) j (F 5 y)) (q + 3) j y) 50 1 (i_add (F 50 1) 1))
theorem cby_le {F : fx_F} {c : Nat} : cby F q c ≤ 12 := cnt_le _ _
theorem s_goOn (hN : nt_ok nn L E) (hq : sok q) (hj : j < 12) {F : fx_F} (hcn : cn F nn L E) (hR : F 3 3 = R) (hR2 : R < 2147483648) (hs : F q 2 < 2147483648) (hu : F q 1 < 2147483648) (ht : ctb F nn L E 24 (F q 1) (F q 2)) (ha : F (q + 1) j < nn) (hg : F (q + 2) j < nn) (hcm : F (q + 3) j = 4294967295 ∨ F (q + 3) j < 2 * L) (h : Cl k_Tr_goOn [(2, 50), (2, q), (2, 24), (0, j)] F v F') : v = (2, 0) ∧ cgo F F' q j R (ent nn L E (bts (F q 2)) (bts (F q 1)) (F (q + 2) j) (2 * F (q + 1) j + lay (bts (F q 1)) (F (q + 3) j))) := by
  obtain ⟨n, h⟩ := c_Tr_goOn h
  have hL := hN.2.1
  have hn := hN.1
  have ix : ∀ t, t < 2 → F (24 + 2) (i_add (i_add (i_mul (F (q + 2) j) 20) (i_mul 2 (F (q + 1) j))) t) = ent nn L E (bts (F q 2)) (bts (F q 1)) (F (q + 2) j) (2 * F (q + 1) j + t) := fun t ht2 => by
    rw [b_mul (show F (q + 2) j * 20 < 4294967296 by omega), b_mul (show 2 * F (q + 1) j < 4294967296 by omega), b_add (show F (q + 2) j * 20 + 2 * F (q + 1) j < 4294967296 by omega), b_add (show F (q + 2) j * 20 + 2 * F (q + 1) j + t < 4294967296 by omega), ← ht _ _ hg (show 2 * F (q + 1) j + t < 2 * nn by omega)]
    congr 1
    omega
  obtain ⟨hq1, hq2, hq3⟩ := hq
  have Q := q_Tr_goOn_0 h
  rw [ix 0 (by decide), ix 1 (by decide)] at Q
  by_cases e : F (q + 1) j = F (q + 2) j
  · obtain ⟨x1, x2⟩ := Q.2 e
    clear Q
    refine ⟨x1, Or.inl ⟨e, x2.trans ?_⟩⟩
    rw [fu_p (show (q : Nat) ≠ q + 1 by omega), fu_p (show (50 : Nat) ≠ q by omega), fu_p (show (50 : Nat) ≠ q + 1 by omega)]
  · replace Q := Q.1 e
    -- by the layer
    have fin : ∀ t, lay (bts (F q 1)) (F (q + 3) j) = t → ((ent nn L E (bts (F q 2)) (bts (F q 1)) (F (q + 2) j) (2 * F (q + 1) j + t) = 4294967295 → v = (2, 0) ∧ F' = (fu (fu F (q + 4) j (i_add (F (q + 4) j) 1)) 50 2 (i_add ((fu F (q + 4) j (i_add (F (q + 4) j) 1)) 50 2) 1))) ∧ (ent nn L E (bts (F q 2)) (bts (F q 1)) (F (q + 2) j) (2 * F (q + 1) j + t) ≠ 4294967295 → ∃ (n1 : Nat) (F1 : fx_F), Cl k_St_countCameBy [(2, q), (0, ent nn L E (bts (F q 2)) (bts (F q 1)) (F (q + 2) j) (2 * F (q + 1) j + t))] F (0, n1) F1 ∧ (s_lt n1 (F1 3 3) → v = (2, 0) ∧ F' = (fu (fu (fu F1 (q + 1) j (F1 5 (ent nn L E (bts (F q 2)) (bts (F q 1)) (F (q + 2) j) (2 * F (q + 1) j + t)))) (q + 3) j (ent nn L E (bts (F q 2)) (bts (F q 1)) (F (q + 2) j) (2 * F (q + 1) j + t))) 50 1 (i_add ((fu (fu F1 (q + 1) j (F1 5 (ent nn L E (bts (F q 2)) (bts (F q 1)) (F (q + 2) j) (2 * F (q + 1) j + t)))) (q + 3) j (ent nn L E (bts (F q 2)) (bts (F q 1)) (F (q + 2) j) (2 * F (q + 1) j + t))) 50 1) 1))) ∧ (s_le (F1 3 3) n1 → v = (2, 0) ∧ F' = (fu (fu F1 (q + 4) j (i_add (F1 (q + 4) j) 1)) 50 2 (i_add ((fu F1 (q + 4) j (i_add (F1 (q + 4) j) 1)) 50 2) 1))))) → v = (2, 0) ∧ cgo F F' q j R (ent nn L E (bts (F q 2)) (bts (F q 1)) (F (q + 2) j) (2 * F (q + 1) j + lay (bts (F q 1)) (F (q + 3) j))) := by
      clear Q
      intro t htt Q
      rw [htt]
      generalize ent nn L E (bts (F q 2)) (bts (F q 1)) (F (q + 2) j) (2 * F (q + 1) j + t) = y at *
      have w : fu (fu F (q + 4) j (i_add (F (q + 4) j) 1)) 50 2 (i_add ((fu F (q + 4) j (i_add (F (q + 4) j) 1)) 50 2) 1) = fu (fu F (q + 4) j (i_add (F (q + 4) j) 1)) 50 2 (i_add (F 50 2) 1) := by
        rw [fu_p (show (50 : Nat) ≠ q + 4 by omega)]
      by_cases z : y = 4294967295
      · obtain ⟨x1, x2⟩ := Q.1 z
        exact ⟨x1, Or.inr (Or.inl ⟨e, Or.inl z, x2.trans w⟩)⟩
      · obtain ⟨n1, F1, c1, Q1, Q2⟩ := Q.2 z
        clear Q
        obtain ⟨a1, a2⟩ := s_ccame c1
        subst a1
        cases a2
        rw [hR] at Q1 Q2
        have h12 := @cby_le q F1 y
        rcases Nat.lt_or_ge (cby F1 q y) R with k | k
        · obtain ⟨x1, x2⟩ := Q1 (by rw [b_lt (by clear Q1 Q2; omega) hR2]; exact k)
          refine ⟨x1, Or.inr (Or.inr ⟨e, z, k, x2.trans ?_⟩)⟩
          rw [fu_p (show (50 : Nat) ≠ q + 3 by clear Q1 Q2; omega), fu_p (show (50 : Nat) ≠ q + 1 by clear Q1 Q2; omega)]
        · obtain ⟨x1, x2⟩ := Q2 (by rw [b_le hR2 (by clear Q1 Q2; omega)]; exact k)
          exact ⟨x1, Or.inr (Or.inl ⟨e, Or.inr k, x2.trans w⟩)⟩
    by_cases ec : F (q + 3) j = 4294967295
    · exact fin 0 (by unfold lay; rw [if_pos ec]) (Q.1 ec)
    · replace Q := Q.2 ec
      have hc2 := hcm.resolve_left ec
      have hb := bh_code hu (show F (q + 3) j < 64 by clear Q; omega)
      by_cases eb : i_and (i_shr (F q 1) (i_shr (F (q + 3) j) 1)) 1 = i_and (F (q + 3) j) 1
      · exact fin 1 (by unfold lay; rw [if_neg ec]; exact hb.1 eb) (Q.1 eb)
      · exact fin 0 (by unfold lay; rw [if_neg ec]; exact hb.2 eb) (Q.2 eb)
/-- what the reference's packet does -/
def mgo2 (G G' : fx_F) (w j R : Nat) (E : Nat → Nat) (y : Nat) : Prop := (G 176 (65 + j) = G 176 (53 + j) ∧ w = 1 ∧ G' = fu (fu G 176 (41 + j) 0) 176 101 (i_add (G 176 101) 1)) ∨ (G 176 (65 + j) ≠ G 176 (53 + j) ∧ (y = 4294967295 ∨ R ≤ mby (G 176) y) ∧ w = 0 ∧ G' = G) ∨ (G 176 (65 + j) ≠ G 176 (53 + j) ∧ y ≠ 4294967295 ∧ mby (G 176) y < R ∧ w = 1 ∧ G' = fu (fu G 176 (65 + j) (E (nf y))) 176 (77 + j) y)
theorem mby_le {X : Nat → Nat} {c : Nat} : mby X c ≤ 12 := cnt_le _ _
theorem s_goPacket (hN : nt_ok nn L E) (hj : j < 12) {st u : Nat → Bool} {G G' : fx_F} (hI : mgi G nn L E st u) (hR : G 180 (G 175 9) = R) (hR2 : R < 2147483648) (ht : mtb G nn L E st u) (ha : G 176 (65 + j) < nn) (hg : G 176 (53 + j) < nn) (hcm : G 176 (77 + j) = 4294967295 ∨ G 176 (77 + j) < 2 * L) (h : Cl k_M_goPacket [(2, 175), (0, j)] G v G') : ∃ w, v = (0, w) ∧ mgo2 G G' w j R E (ent nn L E st u (G 176 (53 + j)) (2 * G 176 (65 + j) + lay u (G 176 (77 + j)))) := by
  obtain ⟨n, h⟩ := c_M_goPacket h
  have hL := hN.2.1
  have hn := hN.1
  obtain ⟨hm, hst, hu⟩ := hI
  have ix : ∀ t, t < 2 → G 196 (i_add (i_add (i_mul 20 (G 176 (53 + j))) (i_mul 2 (G 176 (65 + j)))) t) = ent nn L E st u (G 176 (53 + j)) (2 * G 176 (65 + j) + t) := fun t ht2 => by
    rw [b_mul (show 20 * G 176 (53 + j) < 4294967296 by omega), b_mul (show 2 * G 176 (65 + j) < 4294967296 by omega), b_add (show 20 * G 176 (53 + j) + 2 * G 176 (65 + j) < 4294967296 by omega), b_add (show 20 * G 176 (53 + j) + 2 * G 176 (65 + j) + t < 4294967296 by omega), Nat.add_assoc]
    exact ht _ _ hg (by omega)
  have Q := q_M_goPacket_0 h
  rw [b_add (show 65 + j < 4294967296 by clear Q; omega), b_add (show 53 + j < 4294967296 by clear Q; omega), b_add (show 77 + j < 4294967296 by clear Q; omega), b_add (show 41 + j < 4294967296 by clear Q; omega), ix 0 (by decide), ix 1 (by decide)] at Q
  by_cases e : G 176 (65 + j) = G 176 (53 + j)
  · obtain ⟨x1, x2⟩ := Q.2 e
    clear Q
    refine ⟨1, x1, Or.inl ⟨e, rfl, x2.trans ?_⟩⟩
    rw [fu_i (show 101 ≠ 41 + j by omega)]
  · replace Q := (Q.1 e).1 e
    have fin : ∀ t, lay u (G 176 (77 + j)) = t → ((s_lt (ent nn L E st u (G 176 (53 + j)) (2 * G 176 (65 + j) + t)) 0 → v = (0, 0) ∧ G' = G) ∧ (s_le 0 (ent nn L E st u (G 176 (53 + j)) (2 * G 176 (65 + j) + t)) → ∃ (n1 : Nat) (F1 : fx_F), Cl k_M_cameBy [(2, 175), (0, ent nn L E st u (G 176 (53 + j)) (2 * G 176 (65 + j) + t))] G (0, n1) F1 ∧ (s_lt n1 (F1 180 (F1 175 9)) → v = (0, 1) ∧ G' = (fu (fu F1 176 (65 + j) (F1 183 (i_add (i_add (i_mul 40 (F1 175 9)) (i_mul 2 (i_div (ent nn L E st u (G 176 (53 + j)) (2 * G 176 (65 + j) + t)) 2))) (i_sub 1 (i_rem (ent nn L E st u (G 176 (53 + j)) (2 * G 176 (65 + j) + t)) 2))))) 176 (77 + j) (ent nn L E st u (G 176 (53 + j)) (2 * G 176 (65 + j) + t)))) ∧ (s_le (F1 180 (F1 175 9)) n1 → v = (0, 0) ∧ G' = F1))) → ∃ w, v = (0, w) ∧ mgo2 G G' w j R E (ent nn L E st u (G 176 (53 + j)) (2 * G 176 (65 + j) + lay u (G 176 (77 + j)))) := by
      clear Q
      intro t htt Q
      rw [htt]
      have hy := ent_q (nn := nn) (L := L) (E := E) (st := st) (u := u) (g := G 176 (53 + j)) (x := 2 * G 176 (65 + j) + t)
      by_cases z : ent nn L E st u (G 176 (53 + j)) (2 * G 176 (65 + j) + t) = 4294967295
      · obtain ⟨x1, x2⟩ := Q.1 (by rw [z, b_neg (by decide)]; decide)
        exact ⟨0, x1, Or.inr (Or.inl ⟨e, Or.inl z, rfl, x2⟩)⟩
      · have hyl := (hy.resolve_left z).1
        generalize ent nn L E st u (G 176 (53 + j)) (2 * G 176 (65 + j) + t) = y at *
        obtain ⟨n1, F1, c1, Q1, Q2⟩ := Q.2 (by rw [b_pos (by clear Q; omega)]; clear Q; omega)
        clear Q
        obtain ⟨a1, a2⟩ := s_mcame c1
        subst a1
        cases a2
        rw [hR] at Q1 Q2
        rw [mTo hm hL hyl] at Q1
        have h12 := @mby_le (F1 176) y
        rcases Nat.lt_or_ge (mby (F1 176) y) R with k | k
        · obtain ⟨x1, x2⟩ := Q1 (by rw [b_lt (by clear Q1 Q2; omega) hR2]; exact k)
          exact ⟨1, x1, Or.inr (Or.inr ⟨e, z, k, rfl, x2⟩)⟩
        · obtain ⟨x1, x2⟩ := Q2 (by rw [b_le hR2 (by clear Q1 Q2; omega)]; exact k)
          exact ⟨0, x1, Or.inr (Or.inl ⟨e, Or.inr k, rfl, x2⟩)⟩
    by_cases ec : G 176 (77 + j) = 4294967295
    · exact fin 0 (by unfold lay; rw [if_pos ec]) (Q.1 (by rw [ec, b_neg (by decide)]; decide))
    · have hc2 := hcm.resolve_left ec
      replace Q := Q.2 (by rw [b_pos (by clear Q; omega)]; clear Q; omega)
      rw [mTo hm hL hc2, b_div (show G 176 (77 + j) < 2147483648 by clear Q; omega) (by decide) (by decide), b_add (show 20 + G 176 (77 + j) / 2 < 4294967296 by clear Q; omega)] at Q
      have upc : E (nf (G 176 (77 + j))) = G 176 (20 + G 176 (77 + j) / 2) ↔ isup u (G 176 (77 + j)) = true := by rw [hu (G 176 (77 + j) / 2) (by clear Q; omega)]; exact isup_ue hN hc2
      by_cases eb : E (nf (G 176 (77 + j))) = G 176 (20 + G 176 (77 + j) / 2)
      · exact fin 0 (by unfold lay bh; rw [if_neg ec, if_pos (upc.mp eb)]) (Q.2 eb)
      · exact fin 1 (by unfold lay bh; rw [if_neg ec, if_neg (fun z => eb (upc.mpr z))]) (Q.1 eb)
end GO
