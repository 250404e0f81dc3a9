/-! The reference's plan -/
section MPLAN
variable {nn L : Nat} {E : Nat → Nat} {st : Nat → Bool} {v : fx_V} {F' : fx_F}
theorem ue_ne (hN : nt_ok nn L E) {u w : Nat → Bool} {l : Nat} (hl : l < L) : ue E u l = ue E w l ↔ u l = w l := by
  have h := (hN.2.2 (2 * l) (by omega)).2
  rw [show nf (2 * l) = 2 * l + 1 by unfold nf; rw [if_pos (by omega)]] at h
  unfold ue
  cases u l <;> cases w l
  · exact ⟨fun _ => rfl, fun _ => rfl⟩
  · rw [if_neg (by decide), if_pos rfl]; exact ⟨fun z => absurd z h, fun z => by cases z⟩
  · rw [if_pos rfl, if_neg (by decide)]; exact ⟨fun z => absurd z.symm h, fun z => by cases z⟩
  · exact ⟨fun _ => rfl, fun _ => rfl⟩
theorem bx_ne {u nw l : Nat} : (bts u l = bts nw l) ↔ (u ^^^ nw).testBit l = false := by
  rw [Nat.testBit_xor]
  show (u.testBit l = nw.testBit l) ↔ _
  cases u.testBit l <;> cases nw.testBit l <;> decide
theorem mix_bts {F : fx_F} {u nw m : Nat} (h : ∀ l, l < L → (F 202 l ≠ 0 ↔ m.testBit l = true)) (h2 : ∀ l, m.testBit l = true → (u ^^^ nw).testBit l = true) : ∀ l, l < L → mix F (bts u) (bts nw) l = bts (u ^^^ m) l := by
  intro l hl
  have h1 := h l hl
  have h3 := h2 l
  unfold mix
  rw [Nat.testBit_xor] at h3
  show (if F 202 l = 0 then u.testBit l else nw.testBit l) = (u ^^^ m).testBit l
  rw [Nat.testBit_xor]
  by_cases e : F 202 l = 0
  · have : m.testBit l = false := by
      cases hq : m.testBit l with
      | false => rfl
      | true => exact absurd e (h1.mpr hq)
    rw [if_pos e, this]; simp
  · have e2 := h1.mp e
    have := h3 e2
    rw [if_neg e, e2]
    revert this
    cases u.testBit l <;> cases nw.testBit l <;> decide
theorem s_flips (hN : nt_ok nn L E) {u nw : Nat} {F : fx_F} (hm : mn F nn L E) (hu : mur F L E (bts u)) (hw : ∀ l, l < L → F 190 l = ue E (bts nw) l) (h : Cl k_M_flips [(2, 175)] F v F') : v = (0, cnt (bts (u ^^^ nw)) L) ∧ F' = F := by
  obtain ⟨n, h⟩ := c_M_flips h
  obtain ⟨m, hm2, hR⟩ := q_M_flips_0 h
  have hL := hN.2.1
  have lp : ∀ (n l : Nat), Rn n k_M_flips 4 [(2, 175), (0, cnt (bts (u ^^^ nw)) l), (0, l)] [] F v F' → l ≤ L → v = (0, cnt (bts (u ^^^ nw)) L) ∧ F' = F := by
    intro n
    induction n using Nat.strongRecOn with
    | ind n ih =>
      intro l h hl
      have hc := cnt_le (bts (u ^^^ nw)) l
      have q := q_M_flips_4 h
      rw [hm.2.2.1] at q
      rcases Nat.lt_or_ge l L with hlt | hge
      · replace q := q.2 (by rw [b_lt (by omega) (by omega)]; exact hlt)
        rw [b_add (show l + 1 < 4294967296 by omega), b_add (show 20 + l < 4294967296 by omega), b_add (show _ + 0 < 4294967296 by omega), b_add (show _ + 1 < 4294967296 by omega), hu l hlt, hw l hlt] at q
        have key := (@ue_ne nn L E hN (bts nw) (bts u) l hlt).trans (eq_comm.trans (@bx_ne u nw l))
        by_cases e : ue E (bts nw) l = ue E (bts u) l
        · obtain ⟨m, hm3, hR⟩ := q.1 e
          clear q
          refine ih m hm3 (l + 1) ?_ (by omega)
          rw [show cnt (bts (u ^^^ nw)) (l + 1) = cnt (bts (u ^^^ nw)) l + 0 by
            show _ + (if bts (u ^^^ nw) l then 1 else 0) = _
            rw [show bts (u ^^^ nw) l = false from key.mp e]; rfl]
          exact hR
        · obtain ⟨m, hm3, hR⟩ := q.2 e
          clear q
          refine ih m hm3 (l + 1) ?_ (by omega)
          rw [show cnt (bts (u ^^^ nw)) (l + 1) = cnt (bts (u ^^^ nw)) l + 1 by
            show _ + (if bts (u ^^^ nw) l then 1 else 0) = _
            rw [show bts (u ^^^ nw) l = true by
              cases hq : bts (u ^^^ nw) l with
              | false => exact absurd (key.mpr hq) e
              | true => rfl]
            rfl]
          exact hR
      · obtain ⟨e1, e2⟩ := q.1 (by rw [b_le (by omega) (by omega)]; exact hge)
        clear q
        have : l = L := by omega
        subst this
        exact ⟨e1, e2⟩
  exact lp m 0 hR (Nat.zero_le _)
theorem s_takePhase (hN : nt_ok nn L E) {u nw k : Nat} (hub : u < 2 ^ L) (hnb : nw < 2 ^ L) {F : fx_F} (hm : mn F nn L E) (hst : ∀ l, l < L → st l = mst F l) (hu : mur F L E (bts u)) (hw : ∀ l, l < L → F 190 l = ue E (bts nw) l) (h : Cl k_M_takePhase [(2, 175), (0, k)] F v F') : ∃ n, v = (0, n) ∧ n ≤ L ∧ (n = 0 ↔ tkl L E st u (u ^^^ nw) L = 0) ∧ fxo [192, 202, 203] F F' ∧ (∀ l, l < L → (F' 202 l ≠ 0 ↔ (tkl L E st u (u ^^^ nw) L).testBit l = true)) ∧ ∀ l, l < L → F' 203 l = if (tkl L E st u (u ^^^ nw) L).testBit l then k else F 203 l := by
  obtain ⟨n, h⟩ := c_M_takePhase h
  obtain ⟨m, hm2, hR⟩ := q_M_takePhase_0 h
  have hL := hN.2.1
  have kp : ∀ F2 : fx_F, fxo [192, 202, 203] F F2 → mn F2 nn L E ∧ (∀ l, l < L → st l = mst F2 l) ∧ mur F2 L E (bts u) ∧ (∀ l, l < L → F2 190 l = ue E (bts nw) l) := by
    intro F2 ho
    refine ⟨hm.keep ho (by decide) (by decide) (by decide) (by decide), fun l hl => by rw [hst l hl]; unfold mst; rw [ho 176 _ (by decide)], fun l hl => (ho 176 _ (by decide)).trans (hu l hl), fun l hl => (ho 190 _ (by decide)).trans (hw l hl)⟩
  have lp : ∀ (n : Nat) (F2 : fx_F) (c l : Nat), Rn n k_M_takePhase 25 [(2, 175), (0, k), (0, c), (0, l)] [] F2 v F' → fxo [192, 202, 203] F F2 → l ≤ L → c ≤ l → (c = 0 ↔ tkl L E st u (u ^^^ nw) l = 0) → (∀ j, j < L → (F2 202 j ≠ 0 ↔ (tkl L E st u (u ^^^ nw) l).testBit j = true)) → (∀ j, j < L → F2 203 j = if (tkl L E st u (u ^^^ nw) l).testBit j then k else F 203 j) → ∃ n, v = (0, n) ∧ n ≤ L ∧ (n = 0 ↔ tkl L E st u (u ^^^ nw) L = 0) ∧ fxo [192, 202, 203] F F' ∧ (∀ l, l < L → (F' 202 l ≠ 0 ↔ (tkl L E st u (u ^^^ nw) L).testBit l = true)) ∧ ∀ l, l < L → F' 203 l = if (tkl L E st u (u ^^^ nw) L).testBit l then k else F 203 l := by
    intro n
    induction n using Nat.strongRecOn with
    | ind n ih =>
      intro F2 c l h ho hl hcl hc hA hB
      obtain ⟨km, ks, ku, kw⟩ := kp F2 ho
      have q := q_M_takePhase_25 h
      rw [km.2.2.1] at q
      rcases Nat.lt_or_ge l L with hlt | hge
      · replace q := q.2 (by rw [b_lt (by omega) (by omega)]; exact hlt)
        rw [b_add (show l + 1 < 4294967296 by omega), b_add (show 20 + l < 4294967296 by omega), b_add (show c + 1 < 4294967296 by omega), ku l hlt, kw l hlt] at q
        have key := (@ue_ne nn L E hN (bts nw) (bts u) l hlt).trans (eq_comm.trans (@bx_ne u nw l))
        by_cases e : ue E (bts nw) l = ue E (bts u) l
        · obtain ⟨m, hm3, hR⟩ := q.2 e
          clear q
          have et : tkl L E st u (u ^^^ nw) (l + 1) = tkl L E st u (u ^^^ nw) l := tkl_n (fun z => by rw [key.mp e] at z; cases z)
          exact ih m hm3 F2 c (l + 1) hR ho (by omega) (by omega) (by rw [et]; exact hc) (by rw [et]; exact hA) (by rw [et]; exact hB)
        · obtain ⟨n1, F1, c1, q1, q2⟩ := q.1 e
          clear q
          have hbit : (u ^^^ nw).testBit l = true := by
            cases hq : (u ^^^ nw).testBit l with
            | false => exact absurd (key.mpr hq) e
            | true => rfl
          have ho2 : fxo [192, 202, 203] F (fu F2 202 l 1) := ho.wr (by decide)
          obtain ⟨jm, js, ju, jw⟩ := kp _ ho2
          have hmb : ∀ j, j < L → ((fu F2 202 l 1) 202 j ≠ 0 ↔ (tkl L E st u (u ^^^ nw) l ||| 2 ^ l).testBit j = true) := by
            intro j hj
            rw [tb_or, Bool.or_eq_true, ← hA j hj, decide_eq_true_iff]
            by_cases ej : j = l
            · subst ej; rw [fu_same]; exact ⟨fun _ => Or.inr rfl, fun _ => by decide⟩
            · rw [fu_i ej]; exact ⟨fun z => Or.inl z, fun z => z.resolve_right ej⟩
          have hsub : ∀ j, (tkl L E st u (u ^^^ nw) l ||| 2 ^ l).testBit j = true → (u ^^^ nw).testBit j = true := by
            intro j hj
            rw [tb_or, Bool.or_eq_true, decide_eq_true_iff] at hj
            rcases hj with hj | hj
            · exact (tkl_b l j hj).2
            · subst hj; exact hbit
          obtain ⟨a1, a2⟩ := s_isSafe (st := st) hN jm js ju jw c1
          have e192 : ∀ q j, q ∉ [192] → F1 q j = (fu F2 202 l 1) q j := a1
          have hcy : cyc (fun c d => trn L E st (bts u) c d ∨ trn L E st (mix (fu F2 202 l 1) (bts u) (bts nw)) c d) ↔ unsf L E st u (tkl L E st u (u ^^^ nw) l ||| 2 ^ l) := by
            unfold unsf
            refine cyc_congr (fun c d => or_congr Iff.rfl (trn_congr (fun _ _ => rfl) (mix_bts hmb hsub)))
          have ho3 : fxo [192, 202, 203] F F1 := ho2.tr (a1.mono (by decide))
          rcases a2 with ⟨e2, t⟩ | ⟨e2, t⟩
          · cases e2
            obtain ⟨m, hm3, hR⟩ := q1 rfl
            have et : tkl L E st u (u ^^^ nw) (l + 1) = tkl L E st u (u ^^^ nw) l := tkl_n (fun _ => hcy.mp t)
            refine ih m hm3 _ c (l + 1) hR (ho3.wr (by decide)) (by omega) (by omega) (by rw [et]; exact hc) (fun j hj => ?_) (fun j hj => ?_)
            · rw [et]
              by_cases ej : j = l
              · subst ej
                rw [fu_same]
                exact ⟨fun z => absurd rfl z, fun z => by have := (tkl_b _ _ z).1; omega⟩
              · rw [fu_i ej, e192 202 _ (by decide), fu_i ej]; exact hA j hj
            · rw [et, fu_p (by decide), e192 203 _ (by decide), fu_p (by decide)]; exact hB j hj
          · cases e2
            obtain ⟨m, hm3, hR⟩ := q2 (by decide)
            have et : tkl L E st u (u ^^^ nw) (l + 1) = tkl L E st u (u ^^^ nw) l ||| 2 ^ l := tkl_y hbit (fun z => t (hcy.mpr z))
            refine ih m hm3 _ (c + 1) (l + 1) hR (ho3.wr (by decide)) (by omega) (by omega) ?_ (fun j hj => ?_) (fun j hj => ?_)
            · refine ⟨fun z => absurd z (by omega), fun z => ?_⟩
              have : (tkl L E st u (u ^^^ nw) (l + 1)).testBit l = true := by rw [et, tb_or]; simp
              rw [z, Nat.zero_testBit] at this
              cases this
            · rw [et, fu_p (by decide), e192 202 _ (by decide)]; exact hmb j hj
            · rw [et]
              by_cases ej : j = l
              · subst ej
                rw [fu_same, tb_or]; simp
              · rw [fu_i ej, e192 203 _ (by decide), fu_p (by decide), hB j hj, tb_or, decide_eq_false ej, Bool.or_false]
      · obtain ⟨e1, e2⟩ := q.1 (by rw [b_le (by omega) (by omega)]; exact hge)
        clear q
        have : l = L := by omega
        subst this
        subst e2
        exact ⟨c, e1, hcl, hc, ho, hA, hB⟩
  have l0 : ∀ (n : Nat) (F2 : fx_F) (l : Nat), Rn n k_M_takePhase 2 [(2, 175), (0, k), (0, l), (3, 0)] [] F2 v F' → l ≤ 20 → fxo [202] F F2 → (∀ j, j < l → F2 202 j = 0) → ∃ m F3, Rn m k_M_takePhase 25 [(2, 175), (0, k), (0, 0), (0, 0)] [] F3 v F' ∧ fxo [202] F F3 ∧ (∀ j, j < 20 → F3 202 j = 0) := by
    intro n
    induction n using Nat.strongRecOn with
    | ind n ih =>
      intro F2 l h hl ho hI
      have q := q_M_takePhase_2 h
      rcases Nat.lt_or_ge l 20 with hlt | hge
      · obtain ⟨m, hm3, hR⟩ := q.2 (by rw [b_lt (by omega) (by omega)]; exact hlt)
        clear q
        rw [b_add (show l + 1 < 4294967296 by omega)] at hR
        refine ih m hm3 _ (l + 1) hR (by omega) (ho.wr (by decide)) (fun j hj => ?_)
        by_cases ej : j = l
        · subst ej; rw [fu_same]
        · rw [fu_i ej]; exact hI j (by omega)
      · obtain ⟨m, hm3, hR⟩ := q.1 (by rw [b_le (by omega) (by omega)]; exact hge)
        exact ⟨m, F2, hR, ho, fun j hj => hI j (by omega)⟩
  obtain ⟨m, F3, r1, r2, r3⟩ := l0 m F 0 hR (Nat.zero_le _) fxo.rf (fun j hj => absurd hj (Nat.not_lt_zero _))
  exact lp m F3 0 0 r1 (r2.mono (by decide)) (Nat.zero_le _) (Nat.le_refl _) ⟨fun _ => rfl, fun _ => rfl⟩ (fun j hj => by
    rw [r3 j (by omega), show tkl L E st u (u ^^^ nw) 0 = 0 from rfl, Nat.zero_testBit]
    exact ⟨fun z => absurd rfl z, fun z => by cases z⟩) (fun j hj => by
    rw [show tkl L E st u (u ^^^ nw) 0 = 0 from rfl, Nat.zero_testBit, r2 203 _ (by decide)]; rfl)
theorem s_turnTaken (hN : nt_ok nn L E) {u nw m : Nat} {F : fx_F} (hm : mn F nn L E) (hu : mur F L E (bts u)) (hw : ∀ l, l < L → F 190 l = ue E (bts nw) l) (ht : ∀ l, l < L → (F 202 l ≠ 0 ↔ m.testBit l = true)) (h2 : ∀ l, m.testBit l = true → (u ^^^ nw).testBit l = true) (h : Cl k_M_turnTaken [(2, 175)] F v F') : v = (2, 0) ∧ fxo [176] F F' ∧ (∀ i, i < 20 ∨ 40 ≤ i → F' 176 i = F 176 i) ∧ mur F' L E (bts (u ^^^ m)) := by
  obtain ⟨n, h⟩ := c_M_turnTaken h
  obtain ⟨m0, hm2, hR⟩ := q_M_turnTaken_0 h
  have hL := hN.2.1
  have hx := mix_bts ht h2
  have lp : ∀ (n : Nat) (F2 : fx_F) (l : Nat), Rn n k_M_turnTaken 2 [(2, 175), (0, l)] [] F2 v F' → l ≤ L → fxo [176] F F2 → (∀ i, i < 20 ∨ 40 ≤ i → F2 176 i = F 176 i) → (∀ j, j < l → F2 176 (20 + j) = ue E (bts (u ^^^ m)) j) → (∀ j, l ≤ j → F2 176 (20 + j) = F 176 (20 + j)) → v = (2, 0) ∧ fxo [176] F F' ∧ (∀ i, i < 20 ∨ 40 ≤ i → F' 176 i = F 176 i) ∧ mur F' L E (bts (u ^^^ m)) := by
    intro n
    induction n using Nat.strongRecOn with
    | ind n ih =>
      intro F2 l h hl ho hA hB hC
      have e : ∀ q j, q ∉ [176] → F2 q j = F q j := ho
      have q := q_M_turnTaken_2 h
      rw [e 178 _ (by decide), e 175 _ (by decide), hm.2.2.1] at q
      rcases Nat.lt_or_ge l L with hlt | hge
      · replace q := q.2 (by rw [b_lt (by omega) (by omega)]; exact hlt)
        rw [b_add (show l + 1 < 4294967296 by omega), b_add (show 20 + l < 4294967296 by omega), e 202 _ (by decide), e 190 _ (by decide)] at q
        have hxl := hx l hlt
        unfold mix at hxl
        by_cases ez : F 202 l = 0
        · obtain ⟨m1, hm3, hR⟩ := q.1 ez
          clear q
          rw [if_pos ez] at hxl
          refine ih m1 hm3 F2 (l + 1) hR (by omega) ho hA (fun j hj => ?_) (fun j hj => hC j (by omega))
          by_cases ej : j = l
          · subst ej
            rw [hC j (Nat.le_refl _), hu j hlt]
            unfold ue; rw [hxl]
          · exact hB j (by omega)
        · obtain ⟨m1, hm3, hR⟩ := q.2 ez
          clear q
          rw [if_neg ez] at hxl
          refine ih m1 hm3 _ (l + 1) hR (by omega) (ho.wr (by decide)) (fun i hi => ?_) (fun j hj => ?_) (fun j hj => ?_)
          · rw [fu_i (by omega)]; exact hA i hi
          · by_cases ej : j = l
            · subst ej
              rw [fu_same, hw j hlt]
              unfold ue; rw [hxl]
            · rw [fu_i (by omega)]; exact hB j (by omega)
          · rw [fu_i (by omega)]; exact hC j (by omega)
      · obtain ⟨e1, e2⟩ := q.1 (by rw [b_le (by omega) (by omega)]; exact hge)
        clear q
        subst e2
        exact ⟨e1, ho, hA, fun j hj => hB j (by omega)⟩
  exact lp m0 F 0 hR (Nat.zero_le _) fxo.rf (fun _ _ => rfl) (fun j hj => absurd hj (Nat.not_lt_zero _)) (fun _ _ => rfl)
end MPLAN
