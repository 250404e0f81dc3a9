section
/-! What each method leaves as it is (printed by frgen.py) -/
theorem fo_sw0_4 (x : Nat) : (x < 0 ∨ 4 ≤ x) ∨ x = 0 ∨ x = 1 ∨ x = 2 ∨ x = 3 := by omega
theorem fo_sw0_12 (x : Nat) : (x < 0 ∨ 12 ≤ x) ∨ x = 0 ∨ x = 1 ∨ x = 2 ∨ x = 3 ∨ x = 4 ∨ x = 5 ∨ x = 6 ∨ x = 7 ∨ x = 8 ∨ x = 9 ∨ x = 10 ∨ x = 11 := by omega
theorem fo_sw2_5 (x : Nat) : (x < 2 ∨ 5 ≤ x) ∨ x = 2 ∨ x = 3 ∨ x = 4 := by omega
theorem fo_sw42_48 (x : Nat) : (x < 42 ∨ 48 ≤ x) ∨ x = 42 ∨ x = 43 ∨ x = 44 ∨ x = 45 ∨ x = 46 ∨ x = 47 := by omega
theorem fo_sw1003_1007 (x : Nat) : (x < 1003 ∨ 1007 ≤ x) ∨ x = 1003 ∨ x = 1004 ∨ x = 1005 ∨ x = 1006 := by omega
theorem w_Ro_leadsOn {p a1 a2 a3 : Nat} {F : fx_F} {v : fx_V} {F' : fx_F} (h : Cl k_Ro_leadsOn [(2, p), (0, a1), (0, a2), (0, a3)] F v F') : gxo [] [] F F' := by
  obtain ⟨n, h⟩ := c_Ro_leadsOn h
  have Q := q_Ro_leadsOn_0 h
  refine fo_if fo_ne Q (fun Q => ?_) (fun Q => ?_)
  · rw [Q.2]; exact gxo.rf
  · refine fo_if fo_le Q (fun Q => ?_) (fun Q => ?_)
    · refine fo_if fo_le Q (fun Q => ?_) (fun Q => ?_)
      · rw [Q.2]; exact gxo.rf
      · refine fo_if fo_ne Q (fun Q => ?_) (fun Q => ?_)
        · rw [Q.2]; exact gxo.rf
        · rw [Q.2]; exact gxo.rf
    · rw [Q.2]; exact gxo.rf
theorem w_Ro_addOnward {p a1 a2 : Nat} {F : fx_F} {v : fx_V} {F' : fx_F} (h : Cl k_Ro_addOnward [(2, p), (0, a1), (0, a2)] F v F') : gxo [p + 6] [] F F' := by
  obtain ⟨n, h⟩ := c_Ro_addOnward h
  have lp : ∀ n : Nat, (∀ (l1 l2 l3 l4 : Nat) (F2 : fx_F), Rn n k_Ro_addOnward 15 [(2, p), (0, l1), (0, l2), (0, l3), (0, l4), (3, 0)] [] F2 v F' → gxo [p + 6] [] F F2 → gxo [p + 6] [] F F') := by
    intro n
    induction n using Nat.strongRecOn with
    | ind n ih =>
      refine fun l1 l2 l3 l4 F2 h ho => ?_
      · have Q := q_Ro_addOnward_15 h
        clear h
        refine fo_if fo_le Q (fun Q => ?_) (fun Q => ?_)
        · rw [Q.2]; exact ho
        · obtain ⟨r1, H1, c1, Q⟩ := Q
          have o1 : gxo [p + 6] [] F H1 := gxo.tr ho (gxo.mono (w_Ro_leadsOn c1) (by intro q hq; simp at hq ⊢; try omega) (by intro q hq; simp at hq ⊢; try omega))
          refine fo_if fo_eq Q (fun Q => ?_) (fun Q => ?_)
          · obtain ⟨m, hm, hR⟩ := Q
            exact (ih m hm) _ _ _ _ _ hR o1
          · obtain ⟨m, hm, hR⟩ := Q
            exact (ih m hm) _ _ _ _ _ hR (gxo.wr o1 (by simp))
  have Q := q_Ro_addOnward_0 h
  obtain ⟨m, hm, hR⟩ := Q
  exact (lp m) _ _ _ _ _ hR gxo.rf
theorem w_Ro_countOnward {p a1 : Nat} {F : fx_F} {v : fx_V} {F' : fx_F} (h : Cl k_Ro_countOnward [(2, p), (0, a1)] F v F') : gxo [p + 6] [] F F' := by
  obtain ⟨n, h⟩ := c_Ro_countOnward h
  have lp : ∀ n : Nat, (∀ (l1 l2 : Nat) (F2 : fx_F), Rn n k_Ro_countOnward 2 [(2, p), (0, l1), (0, l2), (3, 0)] [] F2 v F' → gxo [p + 6] [] F F2 → gxo [p + 6] [] F F') ∧ (∀ (l1 l2 : Nat) (F2 : fx_F), Rn n k_Ro_countOnward 41 [(2, p), (0, l1), (0, l2), (3, 0)] [] F2 v F' → gxo [p + 6] [] F F2 → gxo [p + 6] [] F F') ∧ (∀ (l1 l2 l3 : Nat) (F2 : fx_F), Rn n k_Ro_countOnward 49 [(2, p), (0, l1), (0, l2), (0, l3)] [] F2 v F' → gxo [p + 6] [] F F2 → gxo [p + 6] [] F F') := by
    intro n
    induction n using Nat.strongRecOn with
    | ind n ih =>
      refine ⟨fun l1 l2 F2 h ho => ?_, fun l1 l2 F2 h ho => ?_, fun l1 l2 l3 F2 h ho => ?_⟩
      · have Q := q_Ro_countOnward_2 h
        clear h
        refine fo_if fo_le Q (fun Q => ?_) (fun Q => ?_)
        · obtain ⟨m, hm, hR⟩ := Q
          exact (ih m hm).2.1 _ _ _ hR ho
        · refine fo_if fo_ne Q (fun Q => ?_) (fun Q => ?_)
          · obtain ⟨m, hm, hR⟩ := Q
            exact (ih m hm).1 _ _ _ hR (gxo.wr ho (by simp))
          · obtain ⟨m, hm, hR⟩ := Q
            exact (ih m hm).1 _ _ _ hR (gxo.wr ho (by simp))
      · have Q := q_Ro_countOnward_41 h
        clear h
        refine fo_if fo_lt Q (fun Q => ?_) (fun Q => ?_)
        · rw [Q.2]; exact ho
        · obtain ⟨m, hm, hR⟩ := Q
          exact (ih m hm).2.2 _ _ _ _ hR ho
      · have Q := q_Ro_countOnward_49 h
        clear h
        refine fo_if fo_le Q (fun Q => ?_) (fun Q => ?_)
        · obtain ⟨m, hm, hR⟩ := Q
          exact (ih m hm).2.1 _ _ _ hR ho
        · refine fo_if fo_ne Q (fun Q => ?_) (fun Q => ?_)
          · obtain ⟨m, hm, hR⟩ := Q
            exact (ih m hm).2.2 _ _ _ _ hR ho
          · obtain ⟨H1, c1, Q⟩ := Q
            have o1 : gxo [p + 6] [] F H1 := gxo.tr ho (gxo.mono (w_Ro_addOnward c1) (by intro q hq; simp at hq ⊢; try omega) (by intro q hq; simp at hq ⊢; try omega))
            obtain ⟨m, hm, hR⟩ := Q
            exact (ih m hm).2.2 _ _ _ _ hR o1
  have Q := q_Ro_countOnward_0 h
  obtain ⟨m, hm, hR⟩ := Q
  exact (lp m).1 _ _ _ hR gxo.rf
theorem w_Ro_countWays {p a1 a2 : Nat} {F : fx_F} {v : fx_V} {F' : fx_F} (h : Cl k_Ro_countWays [(2, p), (0, a1), (0, a2)] F v F') : gxo [p + 6] [] F F' := by
  obtain ⟨n, h⟩ := c_Ro_countWays h
  have Q := q_Ro_countWays_0 h
  obtain ⟨H1, c1, Q⟩ := Q
  have o1 : gxo [p + 6] [] F H1 := gxo.tr gxo.rf (gxo.mono (w_Ro_countOnward c1) (by intro q hq; simp at hq ⊢; try omega) (by intro q hq; simp at hq ⊢; try omega))
  rw [Q.2]; exact o1
theorem w_Ro_passArriving {p a1 a2 : Nat} {F : fx_F} {v : fx_V} {F' : fx_F} (h : Cl k_Ro_passArriving [(2, p), (0, a1), (0, a2)] F v F') : gxo [p + 7] [] F F' := by
  obtain ⟨n, h⟩ := c_Ro_passArriving h
  have lp : ∀ n : Nat, (∀ (l1 l2 l3 l4 : Nat) (F2 : fx_F), Rn n k_Ro_passArriving 15 [(2, p), (0, l1), (0, l2), (0, l3), (0, l4), (3, 0)] [] F2 v F' → gxo [p + 7] [] F F2 → gxo [p + 7] [] F F') := by
    intro n
    induction n using Nat.strongRecOn with
    | ind n ih =>
      refine fun l1 l2 l3 l4 F2 h ho => ?_
      · have Q := q_Ro_passArriving_15 h
        clear h
        refine fo_if fo_le Q (fun Q => ?_) (fun Q => ?_)
        · rw [Q.2]; exact ho
        · obtain ⟨r1, H1, c1, Q⟩ := Q
          have o1 : gxo [p + 7] [] F H1 := gxo.tr ho (gxo.mono (w_Ro_leadsOn c1) (by intro q hq; simp at hq ⊢; try omega) (by intro q hq; simp at hq ⊢; try omega))
          refine fo_if fo_eq Q (fun Q => ?_) (fun Q => ?_)
          · obtain ⟨m, hm, hR⟩ := Q
            exact (ih m hm) _ _ _ _ _ hR o1
          · obtain ⟨m, hm, hR⟩ := Q
            exact (ih m hm) _ _ _ _ _ hR (gxo.wr o1 (by simp))
  have Q := q_Ro_passArriving_0 h
  obtain ⟨m, hm, hR⟩ := Q
  exact (lp m) _ _ _ _ _ hR gxo.rf
theorem w_Ro_countArriving {p a1 a2 : Nat} {F : fx_F} {v : fx_V} {F' : fx_F} (h : Cl k_Ro_countArriving [(2, p), (0, a1), (0, a2)] F v F') : gxo [p + 7] [] F F' := by
  obtain ⟨n, h⟩ := c_Ro_countArriving h
  have lp : ∀ n : Nat, (∀ (l1 l2 l3 : Nat) (F2 : fx_F), Rn n k_Ro_countArriving 2 [(2, p), (0, l1), (0, l2), (0, l3), (3, 0)] [] F2 v F' → gxo [p + 7] [] F F2 → gxo [p + 7] [] F F') ∧ (∀ (l2 l3 : Nat) (F2 : fx_F), Rn n k_Ro_countArriving 33 [(2, p), (3, 0), (0, l2), (0, l3), (3, 0)] [] F2 v F' → gxo [p + 7] [] F F2 → gxo [p + 7] [] F F') ∧ (∀ (l2 l3 l4 : Nat) (F2 : fx_F), Rn n k_Ro_countArriving 41 [(2, p), (3, 0), (0, l2), (0, l3), (0, l4)] [] F2 v F' → gxo [p + 7] [] F F2 → gxo [p + 7] [] F F') := by
    intro n
    induction n using Nat.strongRecOn with
    | ind n ih =>
      refine ⟨fun l1 l2 l3 F2 h ho => ?_, fun l2 l3 F2 h ho => ?_, fun l2 l3 l4 F2 h ho => ?_⟩
      · have Q := q_Ro_countArriving_2 h
        clear h
        refine fo_if fo_le Q (fun Q => ?_) (fun Q => ?_)
        · obtain ⟨m, hm, hR⟩ := Q
          exact (ih m hm).2.1 _ _ _ hR (gxo.wr ho (by simp))
        · obtain ⟨m, hm, hR⟩ := Q
          exact (ih m hm).1 _ _ _ _ hR (gxo.wr ho (by simp))
      · have Q := q_Ro_countArriving_33 h
        clear h
        refine fo_if fo_lt Q (fun Q => ?_) (fun Q => ?_)
        · rw [Q.2]; exact ho
        · obtain ⟨m, hm, hR⟩ := Q
          exact (ih m hm).2.2 _ _ _ _ hR ho
      · have Q := q_Ro_countArriving_41 h
        clear h
        refine fo_if fo_le Q (fun Q => ?_) (fun Q => ?_)
        · obtain ⟨m, hm, hR⟩ := Q
          exact (ih m hm).2.1 _ _ _ hR ho
        · refine fo_if fo_ne Q (fun Q => ?_) (fun Q => ?_)
          · obtain ⟨m, hm, hR⟩ := Q
            exact (ih m hm).2.2 _ _ _ _ hR ho
          · refine fo_if fo_le Q (fun Q => ?_) (fun Q => ?_)
            · obtain ⟨m, hm, hR⟩ := Q
              exact (ih m hm).2.2 _ _ _ _ hR ho
            · obtain ⟨H1, c1, Q⟩ := Q
              have o1 : gxo [p + 7] [] F H1 := gxo.tr ho (gxo.mono (w_Ro_passArriving c1) (by intro q hq; simp at hq ⊢; try omega) (by intro q hq; simp at hq ⊢; try omega))
              obtain ⟨m, hm, hR⟩ := Q
              exact (ih m hm).2.2 _ _ _ _ hR o1
  have Q := q_Ro_countArriving_0 h
  obtain ⟨m, hm, hR⟩ := Q
  exact (lp m).1 _ _ _ _ hR gxo.rf
theorem w_Ro_countThrough {p a1 a2 a3 : Nat} {F : fx_F} {v : fx_V} {F' : fx_F} (h : Cl k_Ro_countThrough [(2, p), (0, a1), (0, a2), (0, a3)] F v F') : gxo [p + 6, p + 7] [] F F' := by
  obtain ⟨n, h⟩ := c_Ro_countThrough h
  have lp : ∀ n : Nat, (∀ (l2 l3 l4 l6 l8 : Nat) (F2 : fx_F), Rn n k_Ro_countThrough 29 [(2, p), (3, 0), (0, l2), (0, l3), (1, l4), (3, 0), (1, l6), (3, 0), (0, l8)] [] F2 v F' → gxo [p + 6, p + 7] [] F F2 → gxo [p + 6, p + 7] [] F F') := by
    intro n
    induction n using Nat.strongRecOn with
    | ind n ih =>
      refine fun l2 l3 l4 l6 l8 F2 h ho => ?_
      · have Q := q_Ro_countThrough_29 h
        clear h
        refine fo_if fo_lt Q (fun Q => ?_) (fun Q => ?_)
        · rw [Q.2]; exact ho
        · obtain ⟨r1, H1, c1, Q⟩ := Q
          have o1 : gxo [p + 6, p + 7] [] F H1 := gxo.tr ho (gxo.mono (w_Ro_leadsOn c1) (by intro q hq; simp at hq ⊢; try omega) (by intro q hq; simp at hq ⊢; try omega))
          refine fo_if fo_eq Q (fun Q => ?_) (fun Q => ?_)
          · obtain ⟨m, hm, hR⟩ := Q
            exact (ih m hm) _ _ _ _ _ _ hR o1
          · obtain ⟨m, hm, hR⟩ := Q
            exact (ih m hm) _ _ _ _ _ _ hR o1
  have Q := q_Ro_countThrough_0 h
  obtain ⟨H1, c1, Q⟩ := Q
  have o1 : gxo [p + 6, p + 7] [] F H1 := gxo.tr gxo.rf (gxo.mono (w_Ro_countOnward c1) (by intro q hq; simp at hq ⊢; try omega) (by intro q hq; simp at hq ⊢; try omega))
  obtain ⟨H2, c2, Q⟩ := Q
  have o2 : gxo [p + 6, p + 7] [] F H2 := gxo.tr o1 (gxo.mono (w_Ro_countArriving c2) (by intro q hq; simp at hq ⊢; try omega) (by intro q hq; simp at hq ⊢; try omega))
  obtain ⟨m, hm, hR⟩ := Q
  exact (lp m) _ _ _ _ _ _ hR o2
theorem w_Gr_hasSpace {a1 a2 : Nat} {F : fx_F} {v : fx_V} {F' : fx_F} (h : Cl k_Gr_hasSpace [(2, 40), (0, a1), (0, a2)] F v F') : gxo [] [] F F' := by
  obtain ⟨n, h⟩ := c_Gr_hasSpace h
  have Q := q_Gr_hasSpace_0 h
  refine fo_if fo_ne Q (fun Q => ?_) (fun Q => ?_)
  · refine fo_if fo_ne Q (fun Q => ?_) (fun Q => ?_)
    · rw [Q.2]; exact gxo.rf
    · refine fo_if fo_le Q (fun Q => ?_) (fun Q => ?_)
      · rw [Q.2]; exact gxo.rf
      · rw [Q.2]; exact gxo.rf
  · refine fo_if fo_ne Q (fun Q => ?_) (fun Q => ?_)
    · rw [Q.2]; exact gxo.rf
    · refine fo_if fo_le Q (fun Q => ?_) (fun Q => ?_)
      · rw [Q.2]; exact gxo.rf
      · rw [Q.2]; exact gxo.rf
theorem w_Gr_findRow {a1 a2 a3 : Nat} {F : fx_F} {v : fx_V} {F' : fx_F} (h : Cl k_Gr_findRow [(2, 40), (0, a1), (0, a2), (0, a3)] F v F') : gxo [43] [] F F' := by
  obtain ⟨n, h⟩ := c_Gr_findRow h
  have lp : ∀ n : Nat, (∀ (l1 l2 l3 l4 : Nat) (F2 : fx_F), Rn n k_Gr_findRow 3 [(2, 40), (0, l1), (0, l2), (0, l3), (0, l4), (3, 0), (3, 0), (3, 0), (3, 0)] [] F2 v F' → gxo [43] [] F F2 → gxo [43] [] F F') ∧ (∀ (l1 l2 l3 l4 l5 : Nat) (F2 : fx_F), Rn n k_Gr_findRow 35 [(2, 40), (0, l1), (0, l2), (0, l3), (0, l4), (0, l5), (3, 0), (3, 0), (3, 0)] [] F2 v F' → gxo [43] [] F F2 → gxo [43] [] F F') ∧ (∀ (l1 l2 l3 l4 l5 l6 : Nat) (F2 : fx_F), Rn n k_Gr_findRow 58 [(2, 40), (0, l1), (0, l2), (0, l3), (0, l4), (0, l5), (0, l6), (3, 0), (3, 0)] [] F2 v F' → gxo [43] [] F F2 → gxo [43] [] F F') := by
    intro n
    induction n using Nat.strongRecOn with
    | ind n ih =>
      refine ⟨fun l1 l2 l3 l4 F2 h ho => ?_, fun l1 l2 l3 l4 l5 F2 h ho => ?_, fun l1 l2 l3 l4 l5 l6 F2 h ho => ?_⟩
      · have Q := q_Gr_findRow_3 h
        clear h
        refine fo_if fo_le Q (fun Q => ?_) (fun Q => ?_)
        · obtain ⟨m, hm, hR⟩ := Q
          exact (ih m hm).2.1 _ _ _ _ _ _ hR ho
        · obtain ⟨m, hm, hR⟩ := Q
          exact (ih m hm).1 _ _ _ _ _ hR (gxo.wr ho (by simp))
      · have Q := q_Gr_findRow_35 h
        clear h
        refine fo_if fo_le Q (fun Q => ?_) (fun Q => ?_)
        · refine fo_if fo_eq Q (fun Q => ?_) (fun Q => ?_)
          · rw [Q.2]; exact ho
          · rw [Q.2]; exact ho
        · refine fo_if fo_eq Q (fun Q => ?_) (fun Q => ?_)
          · refine fo_if fo_eq Q (fun Q => ?_) (fun Q => ?_)
            · rw [Q.2]; exact ho
            · rw [Q.2]; exact ho
          · obtain ⟨m, hm, hR⟩ := Q
            exact (ih m hm).2.2 _ _ _ _ _ _ _ hR ho
      · have Q := q_Gr_findRow_58 h
        clear h
        refine fo_if fo_le Q (fun Q => ?_) (fun Q => ?_)
        · obtain ⟨m, hm, hR⟩ := Q
          exact (ih m hm).2.1 _ _ _ _ _ _ hR ho
        · refine fo_if fo_eq Q (fun Q => ?_) (fun Q => ?_)
          · refine fo_if fo_eq Q (fun Q => ?_) (fun Q => ?_)
            · obtain ⟨m, hm, hR⟩ := Q
              exact (ih m hm).2.2 _ _ _ _ _ _ _ hR ho
            · refine fo_if fo_ne Q (fun Q => ?_) (fun Q => ?_)
              · obtain ⟨m, hm, hR⟩ := Q
                exact (ih m hm).2.2 _ _ _ _ _ _ _ hR ho
              · obtain ⟨r1, H1, c1, Q⟩ := Q
                have o1 : gxo [43] [] F H1 := gxo.tr ho (gxo.mono (w_Gr_hasSpace c1) (by intro q hq; simp at hq ⊢; try omega) (by intro q hq; simp at hq ⊢; try omega))
                refine fo_if fo_eq Q (fun Q => ?_) (fun Q => ?_)
                · obtain ⟨m, hm, hR⟩ := Q
                  exact (ih m hm).2.2 _ _ _ _ _ _ _ hR o1
                · obtain ⟨m, hm, hR⟩ := Q
                  exact (ih m hm).2.2 _ _ _ _ _ _ _ hR (gxo.wr o1 (by simp))
          · refine fo_if fo_eq Q (fun Q => ?_) (fun Q => ?_)
            · obtain ⟨m, hm, hR⟩ := Q
              exact (ih m hm).2.2 _ _ _ _ _ _ _ hR ho
            · refine fo_if fo_eq Q (fun Q => ?_) (fun Q => ?_)
              · obtain ⟨m, hm, hR⟩ := Q
                exact (ih m hm).2.2 _ _ _ _ _ _ _ hR ho
              · refine fo_if fo_ne Q (fun Q => ?_) (fun Q => ?_)
                · obtain ⟨m, hm, hR⟩ := Q
                  exact (ih m hm).2.2 _ _ _ _ _ _ _ hR ho
                · obtain ⟨r2, H2, c2, Q⟩ := Q
                  have o2 : gxo [43] [] F H2 := gxo.tr ho (gxo.mono (w_Gr_hasSpace c2) (by intro q hq; simp at hq ⊢; try omega) (by intro q hq; simp at hq ⊢; try omega))
                  refine fo_if fo_eq Q (fun Q => ?_) (fun Q => ?_)
                  · obtain ⟨m, hm, hR⟩ := Q
                    exact (ih m hm).2.2 _ _ _ _ _ _ _ hR o2
                  · obtain ⟨m, hm, hR⟩ := Q
                    exact (ih m hm).2.2 _ _ _ _ _ _ _ hR (gxo.wr o2 (by simp))
  have Q := q_Gr_findRow_0 h
  obtain ⟨m, hm, hR⟩ := Q
  exact (lp m).1 _ _ _ _ _ hR gxo.rf
theorem w_Gr_useRow {a1 a2 : Nat} {F : fx_F} {v : fx_V} {F' : fx_F} (h : Cl k_Gr_useRow [(2, 40), (0, a1), (0, a2)] F v F') : gxo [44] [] F F' := by
  obtain ⟨n, h⟩ := c_Gr_useRow h
  have lp : ∀ n : Nat, (∀ (l1 l3 l4 : Nat) (F2 : fx_F), Rn n k_Gr_useRow 5 [(2, 40), (0, l1), (3, 0), (0, l3), (0, l4), (3, 0)] [] F2 v F' → gxo [44] [] F F2 → gxo [44] [] F F') := by
    intro n
    induction n using Nat.strongRecOn with
    | ind n ih =>
      refine fun l1 l3 l4 F2 h ho => ?_
      · have Q := q_Gr_useRow_5 h
        clear h
        refine fo_if fo_le Q (fun Q => ?_) (fun Q => ?_)
        · rw [Q.2]; exact ho
        · refine fo_if fo_eq Q (fun Q => ?_) (fun Q => ?_)
          · rw [Q.2]; exact ho
          · refine fo_if fo_eq Q (fun Q => ?_) (fun Q => ?_)
            · rw [Q.2]; exact ho
            · refine fo_if fo_ne Q (fun Q => ?_) (fun Q => ?_)
              · obtain ⟨m, hm, hR⟩ := Q
                exact (ih m hm) _ _ _ _ hR (gxo.wr ho (by simp))
              · obtain ⟨m, hm, hR⟩ := Q
                exact (ih m hm) _ _ _ _ hR (gxo.wr ho (by simp))
  have Q := q_Gr_useRow_0 h
  obtain ⟨m, hm, hR⟩ := Q
  exact (lp m) _ _ _ _ hR gxo.rf
theorem w_Gr_countApart {a1 a2 a3 : Nat} {F : fx_F} {v : fx_V} {F' : fx_F} (h : Cl k_Gr_countApart [(2, 40), (0, a1), (0, a2), (0, a3)] F v F') : gxo [44, 43] [] F F' := by
  obtain ⟨n, h⟩ := c_Gr_countApart h
  have lp : ∀ n : Nat, (∀ (l1 l2 l3 l4 : Nat) (F2 : fx_F), Rn n k_Gr_countApart 3 [(2, 40), (0, l1), (0, l2), (0, l3), (0, l4), (3, 0)] [] F2 v F' → gxo [44, 43] [] F F2 → gxo [44, 43] [] F F') ∧ (∀ (l1 l2 l3 l4 l5 : Nat) (F2 : fx_F), Rn n k_Gr_countApart 35 [(2, 40), (0, l1), (0, l2), (0, l3), (0, l4), (0, l5)] [] F2 v F' → gxo [44, 43] [] F F2 → gxo [44, 43] [] F F') := by
    intro n
    induction n using Nat.strongRecOn with
    | ind n ih =>
      refine ⟨fun l1 l2 l3 l4 F2 h ho => ?_, fun l1 l2 l3 l4 l5 F2 h ho => ?_⟩
      · have Q := q_Gr_countApart_3 h
        clear h
        refine fo_if fo_le Q (fun Q => ?_) (fun Q => ?_)
        · obtain ⟨m, hm, hR⟩ := Q
          exact (ih m hm).2 _ _ _ _ _ _ hR ho
        · obtain ⟨m, hm, hR⟩ := Q
          exact (ih m hm).1 _ _ _ _ _ hR (gxo.wr ho (by simp))
      · have Q := q_Gr_countApart_35 h
        clear h
        refine fo_if fo_le Q (fun Q => ?_) (fun Q => ?_)
        · rw [Q.2]; exact ho
        · obtain ⟨r1, H1, c1, Q⟩ := Q
          have o1 : gxo [44, 43] [] F H1 := gxo.tr ho (gxo.mono (w_Gr_findRow c1) (by intro q hq; simp at hq ⊢; try omega) (by intro q hq; simp at hq ⊢; try omega))
          refine fo_if fo_eq Q (fun Q => ?_) (fun Q => ?_)
          · rw [Q.2]; exact o1
          · obtain ⟨H2, c2, Q⟩ := Q
            have o2 : gxo [44, 43] [] F H2 := gxo.tr o1 (gxo.mono (w_Gr_useRow c2) (by intro q hq; simp at hq ⊢; try omega) (by intro q hq; simp at hq ⊢; try omega))
            obtain ⟨m, hm, hR⟩ := Q
            exact (ih m hm).2 _ _ _ _ _ _ hR o2
  have Q := q_Gr_countApart_0 h
  obtain ⟨m, hm, hR⟩ := Q
  exact (lp m).1 _ _ _ _ _ hR gxo.rf
theorem w_Gr_spread {a0 a1 a2 a3 a4 : Nat} {F : fx_F} {v : fx_V} {F' : fx_F} (h : Cl k_Gr_spread [(2, a0), (0, a1), (0, a2), (2, a3), (0, a4)] F v F') : gxo [a3] [] F F' := by
  obtain ⟨n, h⟩ := c_Gr_spread h
  have lp : ∀ n : Nat, (∀ (p l1 l2 l4 l5 : Nat) (F2 : fx_F), Rn n k_Gr_spread 12 [(2, p), (0, l1), (0, l2), (2, a3), (0, l4), (0, l5), (3, 0), (3, 0), (3, 0), (3, 0)] [] F2 v F' → gxo [a3] [] F F2 → gxo [a3] [] F F') ∧ (∀ (p l1 l4 l5 l6 : Nat) (F2 : fx_F), Rn n k_Gr_spread 48 [(2, p), (0, l1), (3, 0), (2, a3), (0, l4), (0, l5), (0, l6), (3, 0), (3, 0), (3, 0)] [] F2 v F' → gxo [a3] [] F F2 → gxo [a3] [] F F') ∧ (∀ (p l1 l4 l5 l6 l7 : Nat) (F2 : fx_F), Rn n k_Gr_spread 68 [(2, p), (0, l1), (3, 0), (2, a3), (0, l4), (0, l5), (0, l6), (0, l7), (3, 0), (3, 0)] [] F2 v F' → gxo [a3] [] F F2 → gxo [a3] [] F F') := by
    intro n
    induction n using Nat.strongRecOn with
    | ind n ih =>
      refine ⟨fun p l1 l2 l4 l5 F2 h ho => ?_, fun p l1 l4 l5 l6 F2 h ho => ?_, fun p l1 l4 l5 l6 l7 F2 h ho => ?_⟩
      · have Q := q_Gr_spread_12 h
        clear h
        refine fo_if fo_le Q (fun Q => ?_) (fun Q => ?_)
        · obtain ⟨m, hm, hR⟩ := Q
          exact (ih m hm).2.1 _ _ _ _ _ _ hR (gxo.wr ho (by simp))
        · obtain ⟨m, hm, hR⟩ := Q
          exact (ih m hm).1 _ _ _ _ _ _ hR (gxo.wr ho (by simp))
      · have Q := q_Gr_spread_48 h
        clear h
        refine fo_if fo_le Q (fun Q => ?_) (fun Q => ?_)
        · rw [Q.2]; exact ho
        · refine fo_if fo_eq Q (fun Q => ?_) (fun Q => ?_)
          · rw [Q.2]; exact ho
          · obtain ⟨m, hm, hR⟩ := Q
            exact (ih m hm).2.2 _ _ _ _ _ _ _ hR ho
      · have Q := q_Gr_spread_68 h
        clear h
        refine fo_if fo_le Q (fun Q => ?_) (fun Q => ?_)
        · obtain ⟨m, hm, hR⟩ := Q
          exact (ih m hm).2.1 _ _ _ _ _ _ hR ho
        · refine fo_if fo_ne Q (fun Q => ?_) (fun Q => ?_)
          · obtain ⟨m, hm, hR⟩ := Q
            exact (ih m hm).2.2 _ _ _ _ _ _ _ hR ho
          · refine fo_if fo_ne Q (fun Q => ?_) (fun Q => ?_)
            · obtain ⟨m, hm, hR⟩ := Q
              exact (ih m hm).2.2 _ _ _ _ _ _ _ hR ho
            · refine fo_if fo_ne Q (fun Q => ?_) (fun Q => ?_)
              · obtain ⟨m, hm, hR⟩ := Q
                exact (ih m hm).2.2 _ _ _ _ _ _ _ hR ho
              · obtain ⟨m, hm, hR⟩ := Q
                exact (ih m hm).2.2 _ _ _ _ _ _ _ hR (gxo.wr ho (by simp))
  have Q := q_Gr_spread_0 h
  refine fo_if fo_lt Q (fun Q => ?_) (fun Q => ?_)
  · rw [Q.2]; exact gxo.rf
  · refine fo_if fo_le Q (fun Q => ?_) (fun Q => ?_)
    · rw [Q.2]; exact gxo.rf
    · obtain ⟨m, hm, hR⟩ := Q
      exact (lp m).1 _ _ _ _ _ _ hR gxo.rf
theorem w_Gr_parts {a1 a2 : Nat} {F : fx_F} {v : fx_V} {F' : fx_F} (h : Cl k_Gr_parts [(2, 40), (0, a1), (0, a2)] F v F') : gxo [42] [] F F' := by
  obtain ⟨n, h⟩ := c_Gr_parts h
  have lp : ∀ n : Nat, (∀ (l1 l3 l4 : Nat) (F2 : fx_F), Rn n k_Gr_parts 5 [(2, 40), (0, l1), (3, 0), (0, l3), (0, l4), (3, 0)] [] F2 v F' → gxo [42] [] F F2 → gxo [42] [] F F') ∧ (∀ (l1 l3 l4 : Nat) (F2 : fx_F), Rn n k_Gr_parts 67 [(2, 40), (0, l1), (3, 0), (0, l3), (0, l4), (3, 0)] [] F2 v F' → gxo [42] [] F F2 → gxo [42] [] F F') ∧ (∀ (l1 l3 l4 l5 : Nat) (F2 : fx_F), Rn n k_Gr_parts 103 [(2, 40), (0, l1), (3, 0), (0, l3), (0, l4), (0, l5)] [] F2 v F' → gxo [42] [] F F2 → gxo [42] [] F F') := by
    intro n
    induction n using Nat.strongRecOn with
    | ind n ih =>
      refine ⟨fun l1 l3 l4 F2 h ho => ?_, fun l1 l3 l4 F2 h ho => ?_, fun l1 l3 l4 l5 F2 h ho => ?_⟩
      · have Q := q_Gr_parts_5 h
        clear h
        refine fo_if fo_le Q (fun Q => ?_) (fun Q => ?_)
        · obtain ⟨m, hm, hR⟩ := Q
          exact (ih m hm).2.1 _ _ _ _ hR ho
        · refine fo_if fo_eq Q (fun Q => ?_) (fun Q => ?_)
          · obtain ⟨m, hm, hR⟩ := Q
            exact (ih m hm).1 _ _ _ _ hR ho
          · refine fo_if fo_ne Q (fun Q => ?_) (fun Q => ?_)
            · obtain ⟨m, hm, hR⟩ := Q
              exact (ih m hm).1 _ _ _ _ hR ho
            · obtain ⟨m, hm, hR⟩ := Q
              exact (ih m hm).1 _ _ _ _ hR ho
      · have Q := q_Gr_parts_67 h
        clear h
        refine fo_if fo_le Q (fun Q => ?_) (fun Q => ?_)
        · rw [Q.2]; exact ho
        · refine fo_if fo_eq Q (fun Q => ?_) (fun Q => ?_)
          · obtain ⟨m, hm, hR⟩ := Q
            exact (ih m hm).2.1 _ _ _ _ hR ho
          · obtain ⟨H1, c1, Q⟩ := Q
            have o1 : gxo [42] [] F H1 := gxo.tr ho (gxo.mono (w_Gr_spread c1) (by intro q hq; simp at hq ⊢; try omega) (by intro q hq; simp at hq ⊢; try omega))
            obtain ⟨m, hm, hR⟩ := Q
            exact (ih m hm).2.2 _ _ _ _ _ hR o1
      · have Q := q_Gr_parts_103 h
        clear h
        refine fo_if fo_le Q (fun Q => ?_) (fun Q => ?_)
        · obtain ⟨m, hm, hR⟩ := Q
          exact (ih m hm).2.1 _ _ _ _ hR ho
        · refine fo_if fo_eq Q (fun Q => ?_) (fun Q => ?_)
          · obtain ⟨m, hm, hR⟩ := Q
            exact (ih m hm).2.2 _ _ _ _ _ hR ho
          · refine fo_if fo_ne Q (fun Q => ?_) (fun Q => ?_)
            · obtain ⟨m, hm, hR⟩ := Q
              exact (ih m hm).2.2 _ _ _ _ _ hR ho
            · refine fo_if fo_eq Q (fun Q => ?_) (fun Q => ?_)
              · obtain ⟨m, hm, hR⟩ := Q
                exact (ih m hm).2.2 _ _ _ _ _ hR ho
              · rw [Q.2]; exact ho
  have Q := q_Gr_parts_0 h
  obtain ⟨m, hm, hR⟩ := Q
  exact (lp m).1 _ _ _ _ hR gxo.rf
theorem w_Gr_see {a1 : Nat} {F : fx_F} {v : fx_V} {F' : fx_F} (h : Cl k_Gr_see [(2, 40), (0, a1)] F v F') : gxo [41] [] F F' := by
  obtain ⟨n, h⟩ := c_Gr_see h
  have lp : ∀ n : Nat, (∀ (l1 l2 : Nat) (F2 : fx_F), Rn n k_Gr_see 2 [(2, 40), (0, l1), (0, l2)] [] F2 v F' → gxo [41] [] F F2 → gxo [41] [] F F') := by
    intro n
    induction n using Nat.strongRecOn with
    | ind n ih =>
      refine fun l1 l2 F2 h ho => ?_
      · have Q := q_Gr_see_2 h
        clear h
        refine fo_if fo_le Q (fun Q => ?_) (fun Q => ?_)
        · rw [Q.2]; exact ho
        · obtain ⟨H1, c1, Q⟩ := Q
          have o1 : gxo [41] [] F H1 := gxo.tr ho (gxo.mono (w_Gr_spread c1) (by intro q hq; simp at hq ⊢; try omega) (by intro q hq; simp at hq ⊢; try omega))
          obtain ⟨m, hm, hR⟩ := Q
          exact (ih m hm) _ _ _ hR o1
  have Q := q_Gr_see_0 h
  obtain ⟨m, hm, hR⟩ := Q
  exact (lp m) _ _ _ hR gxo.rf
theorem w_Gr_findPivots {a1 : Nat} {F : fx_F} {v : fx_V} {F' : fx_F} (h : Cl k_Gr_findPivots [(2, 40), (0, a1)] F v F') : gxo [41, 42] [] F F' := by
  obtain ⟨n, h⟩ := c_Gr_findPivots h
  have lp : ∀ n : Nat, (∀ (l1 l2 l3 : Nat) (F2 : fx_F), Rn n k_Gr_findPivots 9 [(2, 40), (0, l1), (0, l2), (0, l3)] [] F2 v F' → gxo [41, 42] [] F F2 → gxo [41, 42] [] F F') := by
    intro n
    induction n using Nat.strongRecOn with
    | ind n ih =>
      refine fun l1 l2 l3 F2 h ho => ?_
      · have Q := q_Gr_findPivots_9 h
        clear h
        refine fo_if fo_le Q (fun Q => ?_) (fun Q => ?_)
        · rw [Q.2]; exact ho
        · obtain ⟨r1, H1, c1, Q⟩ := Q
          have o1 : gxo [41, 42] [] F H1 := gxo.tr ho (gxo.mono (w_Gr_parts c1) (by intro q hq; simp at hq ⊢; try omega) (by intro q hq; simp at hq ⊢; try omega))
          refine fo_if fo_eq Q (fun Q => ?_) (fun Q => ?_)
          · obtain ⟨m, hm, hR⟩ := Q
            exact (ih m hm) _ _ _ _ hR o1
          · obtain ⟨m, hm, hR⟩ := Q
            exact (ih m hm) _ _ _ _ hR o1
  have Q := q_Gr_findPivots_0 h
  obtain ⟨H1, c1, Q⟩ := Q
  have o1 : gxo [41, 42] [] F H1 := gxo.tr gxo.rf (gxo.mono (w_Gr_see c1) (by intro q hq; simp at hq ⊢; try omega) (by intro q hq; simp at hq ⊢; try omega))
  obtain ⟨m, hm, hR⟩ := Q
  exact (lp m) _ _ _ _ hR o1
theorem w_St_freePacket {p : Nat} {F : fx_F} {v : fx_V} {F' : fx_F} (h : Cl k_St_freePacket [(2, p)] F v F') : gxo [] [] F F' := by
  obtain ⟨n, h⟩ := c_St_freePacket h
  have lp : ∀ n : Nat, (∀ (l1 : Nat) (F2 : fx_F), Rn n k_St_freePacket 2 [(2, p), (0, l1)] [] F2 v F' → gxo [] [] F F2 → gxo [] [] F F') := by
    intro n
    induction n using Nat.strongRecOn with
    | ind n ih =>
      refine fun l1 F2 h ho => ?_
      · have Q := q_St_freePacket_2 h
        clear h
        refine fo_if fo_le Q (fun Q => ?_) (fun Q => ?_)
        · rw [Q.2]; exact ho
        · refine fo_if fo_ne Q (fun Q => ?_) (fun Q => ?_)
          · obtain ⟨m, hm, hR⟩ := Q
            exact (ih m hm) _ _ hR ho
          · rw [Q.2]; exact ho
  have Q := q_St_freePacket_0 h
  obtain ⟨m, hm, hR⟩ := Q
  exact (lp m) _ _ hR gxo.rf
theorem w_St_countCameBy {p a1 : Nat} {F : fx_F} {v : fx_V} {F' : fx_F} (h : Cl k_St_countCameBy [(2, p), (0, a1)] F v F') : gxo [] [] F F' := by
  obtain ⟨n, h⟩ := c_St_countCameBy h
  have lp : ∀ n : Nat, (∀ (l1 l2 l3 : Nat) (F2 : fx_F), Rn n k_St_countCameBy 4 [(2, p), (0, l1), (0, l2), (0, l3)] [] F2 v F' → gxo [] [] F F2 → gxo [] [] F F') := by
    intro n
    induction n using Nat.strongRecOn with
    | ind n ih =>
      refine fun l1 l2 l3 F2 h ho => ?_
      · have Q := q_St_countCameBy_4 h
        clear h
        refine fo_if fo_le Q (fun Q => ?_) (fun Q => ?_)
        · rw [Q.2]; exact ho
        · refine fo_if fo_eq Q (fun Q => ?_) (fun Q => ?_)
          · obtain ⟨m, hm, hR⟩ := Q
            exact (ih m hm) _ _ _ _ hR ho
          · refine fo_if fo_ne Q (fun Q => ?_) (fun Q => ?_)
            · obtain ⟨m, hm, hR⟩ := Q
              exact (ih m hm) _ _ _ _ hR ho
            · obtain ⟨m, hm, hR⟩ := Q
              exact (ih m hm) _ _ _ _ hR ho
  have Q := q_St_countCameBy_0 h
  obtain ⟨m, hm, hR⟩ := Q
  exact (lp m) _ _ _ _ hR gxo.rf
theorem w_Tr_goOn {a1 a2 a3 : Nat} {F : fx_F} {v : fx_V} {F' : fx_F} (h : Cl k_Tr_goOn [(2, 50), (2, a1), (2, a2), (0, a3)] F v F') : gxo [50, a1 + 4, a1 + 3, a1 + 1, a1] [] F F' := by
  obtain ⟨n, h⟩ := c_Tr_goOn h
  have Q := q_Tr_goOn_0 h
  refine fo_if fo_ne Q (fun Q => ?_) (fun Q => ?_)
  · refine fo_if fo_eq Q (fun Q => ?_) (fun Q => ?_)
    · refine fo_if fo_eq Q (fun Q => ?_) (fun Q => ?_)
      · rw [Q.2]; exact (gxo.wr (gxo.wr gxo.rf (by simp)) (by simp))
      · obtain ⟨r1, H1, c1, Q⟩ := Q
        have o1 : gxo [50, a1 + 4, a1 + 3, a1 + 1, a1] [] F H1 := gxo.tr gxo.rf (gxo.mono (w_St_countCameBy c1) (by intro q hq; simp at hq ⊢; try omega) (by intro q hq; simp at hq ⊢; try omega))
        refine fo_if fo_lt Q (fun Q => ?_) (fun Q => ?_)
        · rw [Q.2]; exact (gxo.wr (gxo.wr (gxo.wr o1 (by simp)) (by simp)) (by simp))
        · rw [Q.2]; exact (gxo.wr (gxo.wr o1 (by simp)) (by simp))
    · refine fo_if fo_eq Q (fun Q => ?_) (fun Q => ?_)
      · refine fo_if fo_eq Q (fun Q => ?_) (fun Q => ?_)
        · rw [Q.2]; exact (gxo.wr (gxo.wr gxo.rf (by simp)) (by simp))
        · obtain ⟨r2, H2, c2, Q⟩ := Q
          have o2 : gxo [50, a1 + 4, a1 + 3, a1 + 1, a1] [] F H2 := gxo.tr gxo.rf (gxo.mono (w_St_countCameBy c2) (by intro q hq; simp at hq ⊢; try omega) (by intro q hq; simp at hq ⊢; try omega))
          refine fo_if fo_lt Q (fun Q => ?_) (fun Q => ?_)
          · rw [Q.2]; exact (gxo.wr (gxo.wr (gxo.wr o2 (by simp)) (by simp)) (by simp))
          · rw [Q.2]; exact (gxo.wr (gxo.wr o2 (by simp)) (by simp))
      · refine fo_if fo_eq Q (fun Q => ?_) (fun Q => ?_)
        · rw [Q.2]; exact (gxo.wr (gxo.wr gxo.rf (by simp)) (by simp))
        · obtain ⟨r3, H3, c3, Q⟩ := Q
          have o3 : gxo [50, a1 + 4, a1 + 3, a1 + 1, a1] [] F H3 := gxo.tr gxo.rf (gxo.mono (w_St_countCameBy c3) (by intro q hq; simp at hq ⊢; try omega) (by intro q hq; simp at hq ⊢; try omega))
          refine fo_if fo_lt Q (fun Q => ?_) (fun Q => ?_)
          · rw [Q.2]; exact (gxo.wr (gxo.wr (gxo.wr o3 (by simp)) (by simp)) (by simp))
          · rw [Q.2]; exact (gxo.wr (gxo.wr o3 (by simp)) (by simp))
  · rw [Q.2]; exact (gxo.wr (gxo.wr (gxo.wr gxo.rf (by simp)) (by simp)) (by simp))
theorem w_Tr_goStep {a1 a2 : Nat} {F : fx_F} {v : fx_V} {F' : fx_F} (h : Cl k_Tr_goStep [(2, 50), (2, a1), (2, a2)] F v F') : gxo [a1, 50, a1 + 4, a1 + 3, a1 + 1] [] F F' := by
  obtain ⟨n, h⟩ := c_Tr_goStep h
  have lp : ∀ n : Nat, (∀ (l2 l3 : Nat) (F2 : fx_F), Rn n k_Tr_goStep 2 [(2, 50), (2, a1), (2, l2), (0, l3)] [] F2 v F' → gxo [a1, 50, a1 + 4, a1 + 3, a1 + 1] [] F F2 → gxo [a1, 50, a1 + 4, a1 + 3, a1 + 1] [] F F') := by
    intro n
    induction n using Nat.strongRecOn with
    | ind n ih =>
      refine fun l2 l3 F2 h ho => ?_
      · have Q := q_Tr_goStep_2 h
        clear h
        refine fo_if fo_le Q (fun Q => ?_) (fun Q => ?_)
        · rw [Q.2]; exact (gxo.wr ho (by simp))
        · refine fo_if fo_lt Q (fun Q => ?_) (fun Q => ?_)
          · obtain ⟨m, hm, hR⟩ := Q
            exact (ih m hm) _ _ _ hR ho
          · refine fo_if fo_le Q (fun Q => ?_) (fun Q => ?_)
            · obtain ⟨m, hm, hR⟩ := Q
              exact (ih m hm) _ _ _ hR ho
            · refine fo_if fo_eq Q (fun Q => ?_) (fun Q => ?_)
              · obtain ⟨m, hm, hR⟩ := Q
                exact (ih m hm) _ _ _ hR ho
              · obtain ⟨H1, c1, Q⟩ := Q
                have o1 : gxo [a1, 50, a1 + 4, a1 + 3, a1 + 1] [] F H1 := gxo.tr ho (gxo.mono (w_Tr_goOn c1) (by intro q hq; simp at hq ⊢; try omega) (by intro q hq; simp at hq ⊢; try omega))
                obtain ⟨m, hm, hR⟩ := Q
                exact (ih m hm) _ _ _ hR o1
  have Q := q_Tr_goStep_0 h
  obtain ⟨m, hm, hR⟩ := Q
  exact (lp m) _ _ _ hR gxo.rf
theorem w_Tr_play {a1 a2 a3 a4 : Nat} {F : fx_F} {v : fx_V} {F' : fx_F} (h : Cl k_Tr_play [(2, 50), (2, a1), (2, a2), (0, a3), (0, a4)] F v F') : gxo [a1, 50, a1 + 4, a1 + 3, a1 + 1, a1 + 2] [] F F' := by
  obtain ⟨n, h⟩ := c_Tr_play h
  have lp : ∀ n : Nat, (∀ (l2 l4 l5 l6 l7 : Nat) (F2 : fx_F), Rn n k_Tr_play 9 [(2, 50), (2, a1), (2, l2), (3, 0), (0, l4), (0, l5), (0, l6), (0, l7), (3, 0), (3, 0)] [] F2 v F' → gxo [a1, 50, a1 + 4, a1 + 3, a1 + 1, a1 + 2] [] F F2 → gxo [a1, 50, a1 + 4, a1 + 3, a1 + 1, a1 + 2] [] F F') := by
    intro n
    induction n using Nat.strongRecOn with
    | ind n ih =>
      refine fun l2 l4 l5 l6 l7 F2 h ho => ?_
      · have Q := q_Tr_play_9 h
        clear h
        refine fo_if fo_le Q (fun Q => ?_) (fun Q => ?_)
        · rw [Q.2]; exact ho
        · refine fo_if fo_eq Q (fun Q => ?_) (fun Q => ?_)
          · obtain ⟨H1, c1, Q⟩ := Q
            have o1 : gxo [a1, 50, a1 + 4, a1 + 3, a1 + 1, a1 + 2] [] F H1 := gxo.tr ho (gxo.mono (w_Tr_goStep c1) (by intro q hq; simp at hq ⊢; try omega) (by intro q hq; simp at hq ⊢; try omega))
            obtain ⟨m, hm, hR⟩ := Q
            exact (ih m hm) _ _ _ _ _ _ hR o1
          · obtain ⟨r2, H2, c2, Q⟩ := Q
            have o2 : gxo [a1, 50, a1 + 4, a1 + 3, a1 + 1, a1 + 2] [] F H2 := gxo.tr ho (gxo.mono (w_St_freePacket c2) (by intro q hq; simp at hq ⊢; try omega) (by intro q hq; simp at hq ⊢; try omega))
            refine fo_if fo_eq Q (fun Q => ?_) (fun Q => ?_)
            · refine fo_if fo_ne Q (fun Q => ?_) (fun Q => ?_)
              · obtain ⟨H3, c3, Q⟩ := Q
                have o3 : gxo [a1, 50, a1 + 4, a1 + 3, a1 + 1, a1 + 2] [] F H3 := gxo.tr o2 (gxo.mono (w_Tr_goStep c3) (by intro q hq; simp at hq ⊢; try omega) (by intro q hq; simp at hq ⊢; try omega))
                obtain ⟨m, hm, hR⟩ := Q
                exact (ih m hm) _ _ _ _ _ _ hR o3
              · obtain ⟨H4, c4, Q⟩ := Q
                have o4 : gxo [a1, 50, a1 + 4, a1 + 3, a1 + 1, a1 + 2] [] F H4 := gxo.tr o2 (gxo.mono (w_Tr_goStep c4) (by intro q hq; simp at hq ⊢; try omega) (by intro q hq; simp at hq ⊢; try omega))
                obtain ⟨m, hm, hR⟩ := Q
                exact (ih m hm) _ _ _ _ _ _ hR o4
            · refine fo_if fo_ne Q (fun Q => ?_) (fun Q => ?_)
              · obtain ⟨H5, c5, Q⟩ := Q
                have o5 : gxo [a1, 50, a1 + 4, a1 + 3, a1 + 1, a1 + 2] [] F H5 := gxo.tr (gxo.wr (gxo.wr (gxo.wr (gxo.wr o2 (by simp)) (by simp)) (by simp)) (by simp)) (gxo.mono (w_Tr_goStep c5) (by intro q hq; simp at hq ⊢; try omega) (by intro q hq; simp at hq ⊢; try omega))
                obtain ⟨m, hm, hR⟩ := Q
                exact (ih m hm) _ _ _ _ _ _ hR o5
              · obtain ⟨H6, c6, Q⟩ := Q
                have o6 : gxo [a1, 50, a1 + 4, a1 + 3, a1 + 1, a1 + 2] [] F H6 := gxo.tr (gxo.wr (gxo.wr (gxo.wr (gxo.wr o2 (by simp)) (by simp)) (by simp)) (by simp)) (gxo.mono (w_Tr_goStep c6) (by intro q hq; simp at hq ⊢; try omega) (by intro q hq; simp at hq ⊢; try omega))
                obtain ⟨m, hm, hR⟩ := Q
                exact (ih m hm) _ _ _ _ _ _ hR o6
  have Q := q_Tr_play_0 h
  obtain ⟨m, hm, hR⟩ := Q
  exact (lp m) _ _ _ _ _ _ hR gxo.rf
theorem w_Ro_countPath {p a1 a2 : Nat} {F : fx_F} {v : fx_V} {F' : fx_F} (h : Cl k_Ro_countPath [(2, p), (0, a1), (0, a2)] F v F') : gxo [p + 4] [] F F' := by
  obtain ⟨n, h⟩ := c_Ro_countPath h
  have lp : ∀ n : Nat, (∀ (l2 l3 l4 : Nat) (F2 : fx_F), Rn n k_Ro_countPath 11 [(2, p), (3, 0), (0, l2), (0, l3), (0, l4)] [] F2 v F' → gxo [p + 4] [] F F2 → gxo [p + 4] [] F F') := by
    intro n
    induction n using Nat.strongRecOn with
    | ind n ih =>
      refine fun l2 l3 l4 F2 h ho => ?_
      · have Q := q_Ro_countPath_11 h
        clear h
        refine fo_if fo_le Q (fun Q => ?_) (fun Q => ?_)
        · rw [Q.2]; exact ho
        · refine fo_if fo_eq Q (fun Q => ?_) (fun Q => ?_)
          · rw [Q.2]; exact ho
          · obtain ⟨m, hm, hR⟩ := Q
            exact (ih m hm) _ _ _ _ hR (gxo.wr ho (by simp))
  have Q := q_Ro_countPath_0 h
  obtain ⟨m, hm, hR⟩ := Q
  exact (lp m) _ _ _ _ hR gxo.rf
theorem w_Ro_countLoads {p : Nat} {F : fx_F} {v : fx_V} {F' : fx_F} (h : Cl k_Ro_countLoads [(2, p)] F v F') : gxo [p + 4] [] F F' := by
  obtain ⟨n, h⟩ := c_Ro_countLoads h
  have lp : ∀ n : Nat, (∀ (l1 : Nat) (F2 : fx_F), Rn n k_Ro_countLoads 2 [(2, p), (0, l1), (3, 0)] [] F2 v F' → gxo [p + 4] [] F F2 → gxo [p + 4] [] F F') ∧ (∀ (l1 : Nat) (F2 : fx_F), Rn n k_Ro_countLoads 28 [(2, p), (0, l1), (3, 0)] [] F2 v F' → gxo [p + 4] [] F F2 → gxo [p + 4] [] F F') ∧ (∀ (l1 l2 : Nat) (F2 : fx_F), Rn n k_Ro_countLoads 41 [(2, p), (0, l1), (0, l2)] [] F2 v F' → gxo [p + 4] [] F F2 → gxo [p + 4] [] F F') := by
    intro n
    induction n using Nat.strongRecOn with
    | ind n ih =>
      refine ⟨fun l1 F2 h ho => ?_, fun l1 F2 h ho => ?_, fun l1 l2 F2 h ho => ?_⟩
      · have Q := q_Ro_countLoads_2 h
        clear h
        refine fo_if fo_le Q (fun Q => ?_) (fun Q => ?_)
        · obtain ⟨m, hm, hR⟩ := Q
          exact (ih m hm).2.1 _ _ hR ho
        · obtain ⟨m, hm, hR⟩ := Q
          exact (ih m hm).1 _ _ hR (gxo.wr ho (by simp))
      · have Q := q_Ro_countLoads_28 h
        clear h
        refine fo_if fo_le Q (fun Q => ?_) (fun Q => ?_)
        · rw [Q.2]; exact ho
        · obtain ⟨m, hm, hR⟩ := Q
          exact (ih m hm).2.2 _ _ _ hR ho
      · have Q := q_Ro_countLoads_41 h
        clear h
        refine fo_if fo_le Q (fun Q => ?_) (fun Q => ?_)
        · obtain ⟨m, hm, hR⟩ := Q
          exact (ih m hm).2.1 _ _ hR ho
        · obtain ⟨H1, c1, Q⟩ := Q
          have o1 : gxo [p + 4] [] F H1 := gxo.tr ho (gxo.mono (w_Ro_countPath c1) (by intro q hq; simp at hq ⊢; try omega) (by intro q hq; simp at hq ⊢; try omega))
          obtain ⟨m, hm, hR⟩ := Q
          exact (ih m hm).2.2 _ _ _ hR o1
  have Q := q_Ro_countLoads_0 h
  obtain ⟨m, hm, hR⟩ := Q
  exact (lp m).1 _ _ hR gxo.rf
theorem w_Ro_leastUsed {p a1 a2 a3 : Nat} {F : fx_F} {v : fx_V} {F' : fx_F} (h : Cl k_Ro_leastUsed [(2, p), (0, a1), (0, a2), (0, a3)] F v F') : gxo [] [] F F' := by
  obtain ⟨n, h⟩ := c_Ro_leastUsed h
  have lp : ∀ n : Nat, (∀ (l1 l2 l3 l4 l5 : Nat) (F2 : fx_F), Rn n k_Ro_leastUsed 14 [(2, p), (0, l1), (0, l2), (0, l3), (0, l4), (0, l5), (3, 0)] [] F2 v F' → gxo [] [] F F2 → gxo [] [] F F') := by
    intro n
    induction n using Nat.strongRecOn with
    | ind n ih =>
      refine fun l1 l2 l3 l4 l5 F2 h ho => ?_
      · have Q := q_Ro_leastUsed_14 h
        clear h
        refine fo_if fo_le Q (fun Q => ?_) (fun Q => ?_)
        · rw [Q.2]; exact ho
        · obtain ⟨r1, H1, c1, Q⟩ := Q
          have o1 : gxo [] [] F H1 := gxo.tr ho (gxo.mono (w_Ro_leadsOn c1) (by intro q hq; simp at hq ⊢; try omega) (by intro q hq; simp at hq ⊢; try omega))
          refine fo_if fo_eq Q (fun Q => ?_) (fun Q => ?_)
          · obtain ⟨m, hm, hR⟩ := Q
            exact (ih m hm) _ _ _ _ _ _ hR o1
          · refine fo_if fo_eq Q (fun Q => ?_) (fun Q => ?_)
            · obtain ⟨m, hm, hR⟩ := Q
              exact (ih m hm) _ _ _ _ _ _ hR o1
            · refine fo_if fo_le Q (fun Q => ?_) (fun Q => ?_)
              · obtain ⟨m, hm, hR⟩ := Q
                exact (ih m hm) _ _ _ _ _ _ hR o1
              · obtain ⟨m, hm, hR⟩ := Q
                exact (ih m hm) _ _ _ _ _ _ hR o1
  have Q := q_Ro_leastUsed_0 h
  obtain ⟨m, hm, hR⟩ := Q
  exact (lp m) _ _ _ _ _ _ hR gxo.rf
theorem w_Ro_fillTable {p : Nat} {F : fx_F} {v : fx_V} {F' : fx_F} (h : Cl k_Ro_fillTable [(2, p)] F v F') : gxo [p + 3, p + 2] [] F F' := by
  obtain ⟨n, h⟩ := c_Ro_fillTable h
  have lp : ∀ n : Nat, (∀ (l1 : Nat) (F2 : fx_F), Rn n k_Ro_fillTable 2 [(2, p), (0, l1), (3, 0), (3, 0)] [] F2 v F' → gxo [p + 3, p + 2] [] F F2 → gxo [p + 3, p + 2] [] F F') ∧ (∀ (l1 : Nat) (F2 : fx_F), Rn n k_Ro_fillTable 28 [(2, p), (0, l1), (3, 0), (3, 0)] [] F2 v F' → gxo [p + 3, p + 2] [] F F2 → gxo [p + 3, p + 2] [] F F') ∧ (∀ (l1 l2 : Nat) (F2 : fx_F), Rn n k_Ro_fillTable 41 [(2, p), (0, l1), (0, l2), (3, 0)] [] F2 v F' → gxo [p + 3, p + 2] [] F F2 → gxo [p + 3, p + 2] [] F F') := by
    intro n
    induction n using Nat.strongRecOn with
    | ind n ih =>
      refine ⟨fun l1 F2 h ho => ?_, fun l1 F2 h ho => ?_, fun l1 l2 F2 h ho => ?_⟩
      · have Q := q_Ro_fillTable_2 h
        clear h
        refine fo_if fo_le Q (fun Q => ?_) (fun Q => ?_)
        · obtain ⟨m, hm, hR⟩ := Q
          exact (ih m hm).2.1 _ _ hR ho
        · obtain ⟨m, hm, hR⟩ := Q
          exact (ih m hm).1 _ _ hR (gxo.wr ho (by simp))
      · have Q := q_Ro_fillTable_28 h
        clear h
        refine fo_if fo_le Q (fun Q => ?_) (fun Q => ?_)
        · rw [Q.2]; exact ho
        · obtain ⟨m, hm, hR⟩ := Q
          exact (ih m hm).2.2 _ _ _ hR ho
      · have Q := q_Ro_fillTable_41 h
        clear h
        refine fo_if fo_le Q (fun Q => ?_) (fun Q => ?_)
        · obtain ⟨m, hm, hR⟩ := Q
          exact (ih m hm).2.1 _ _ hR ho
        · obtain ⟨r1, H1, c1, Q⟩ := Q
          have o1 : gxo [p + 3, p + 2] [] F H1 := gxo.tr ho (gxo.mono (w_Ro_leastUsed c1) (by intro q hq; simp at hq ⊢; try omega) (by intro q hq; simp at hq ⊢; try omega))
          refine fo_if fo_eq Q (fun Q => ?_) (fun Q => ?_)
          · obtain ⟨m, hm, hR⟩ := Q
            exact (ih m hm).2.2 _ _ _ hR (gxo.wr o1 (by simp))
          · obtain ⟨m, hm, hR⟩ := Q
            exact (ih m hm).2.2 _ _ _ hR (gxo.wr (gxo.wr o1 (by simp)) (by simp))
  have Q := q_Ro_fillTable_0 h
  obtain ⟨m, hm, hR⟩ := Q
  exact (lp m).1 _ _ hR gxo.rf
theorem w_Ro_growLevel {p a1 a2 : Nat} {F : fx_F} {v : fx_V} {F' : fx_F} (h : Cl k_Ro_growLevel [(2, p), (0, a1), (0, a2)] F v F') : gxo [p + 1] [] F F' := by
  obtain ⟨n, h⟩ := c_Ro_growLevel h
  have lp : ∀ n : Nat, (∀ (l1 l2 l3 l4 : Nat) (F2 : fx_F), Rn n k_Ro_growLevel 5 [(2, p), (0, l1), (0, l2), (0, l3), (0, l4), (3, 0), (3, 0)] [] F2 v F' → gxo [p + 1] [] F F2 → gxo [p + 1] [] F F') := by
    intro n
    induction n using Nat.strongRecOn with
    | ind n ih =>
      refine fun l1 l2 l3 l4 F2 h ho => ?_
      · have Q := q_Ro_growLevel_5 h
        clear h
        refine fo_if fo_le Q (fun Q => ?_) (fun Q => ?_)
        · rw [Q.2]; exact ho
        · refine fo_if fo_ne Q (fun Q => ?_) (fun Q => ?_)
          · obtain ⟨m, hm, hR⟩ := Q
            exact (ih m hm) _ _ _ _ _ hR ho
          · refine fo_if fo_ne Q (fun Q => ?_) (fun Q => ?_)
            · refine fo_if fo_ne Q (fun Q => ?_) (fun Q => ?_)
              · refine fo_if fo_eq Q (fun Q => ?_) (fun Q => ?_)
                · refine fo_if fo_ne Q (fun Q => ?_) (fun Q => ?_)
                  · obtain ⟨m, hm, hR⟩ := Q
                    exact (ih m hm) _ _ _ _ _ hR ho
                  · refine fo_if fo_eq Q (fun Q => ?_) (fun Q => ?_)
                    · obtain ⟨m, hm, hR⟩ := Q
                      exact (ih m hm) _ _ _ _ _ hR (gxo.wr ho (by simp))
                    · obtain ⟨m, hm, hR⟩ := Q
                      exact (ih m hm) _ _ _ _ _ hR ho
                · refine fo_if fo_ne Q (fun Q => ?_) (fun Q => ?_)
                  · obtain ⟨m, hm, hR⟩ := Q
                    exact (ih m hm) _ _ _ _ _ hR ho
                  · refine fo_if fo_eq Q (fun Q => ?_) (fun Q => ?_)
                    · obtain ⟨m, hm, hR⟩ := Q
                      exact (ih m hm) _ _ _ _ _ hR (gxo.wr ho (by simp))
                    · obtain ⟨m, hm, hR⟩ := Q
                      exact (ih m hm) _ _ _ _ _ hR ho
              · refine fo_if fo_eq Q (fun Q => ?_) (fun Q => ?_)
                · refine fo_if fo_ne Q (fun Q => ?_) (fun Q => ?_)
                  · obtain ⟨m, hm, hR⟩ := Q
                    exact (ih m hm) _ _ _ _ _ hR (gxo.wr ho (by simp))
                  · refine fo_if fo_eq Q (fun Q => ?_) (fun Q => ?_)
                    · obtain ⟨m, hm, hR⟩ := Q
                      exact (ih m hm) _ _ _ _ _ hR (gxo.wr (gxo.wr ho (by simp)) (by simp))
                    · obtain ⟨m, hm, hR⟩ := Q
                      exact (ih m hm) _ _ _ _ _ hR (gxo.wr ho (by simp))
                · refine fo_if fo_eq Q (fun Q => ?_) (fun Q => ?_)
                  · refine fo_if fo_ne Q (fun Q => ?_) (fun Q => ?_)
                    · obtain ⟨m, hm, hR⟩ := Q
                      exact (ih m hm) _ _ _ _ _ hR ho
                    · refine fo_if fo_eq Q (fun Q => ?_) (fun Q => ?_)
                      · obtain ⟨m, hm, hR⟩ := Q
                        exact (ih m hm) _ _ _ _ _ hR (gxo.wr ho (by simp))
                      · obtain ⟨m, hm, hR⟩ := Q
                        exact (ih m hm) _ _ _ _ _ hR ho
                  · refine fo_if fo_ne Q (fun Q => ?_) (fun Q => ?_)
                    · obtain ⟨m, hm, hR⟩ := Q
                      exact (ih m hm) _ _ _ _ _ hR ho
                    · refine fo_if fo_eq Q (fun Q => ?_) (fun Q => ?_)
                      · obtain ⟨m, hm, hR⟩ := Q
                        exact (ih m hm) _ _ _ _ _ hR (gxo.wr ho (by simp))
                      · obtain ⟨m, hm, hR⟩ := Q
                        exact (ih m hm) _ _ _ _ _ hR ho
            · refine fo_if fo_ne Q (fun Q => ?_) (fun Q => ?_)
              · refine fo_if fo_eq Q (fun Q => ?_) (fun Q => ?_)
                · obtain ⟨m, hm, hR⟩ := Q
                  exact (ih m hm) _ _ _ _ _ hR ho
                · obtain ⟨m, hm, hR⟩ := Q
                  exact (ih m hm) _ _ _ _ _ hR ho
              · refine fo_if fo_eq Q (fun Q => ?_) (fun Q => ?_)
                · obtain ⟨m, hm, hR⟩ := Q
                  exact (ih m hm) _ _ _ _ _ hR (gxo.wr ho (by simp))
                · refine fo_if fo_eq Q (fun Q => ?_) (fun Q => ?_)
                  · obtain ⟨m, hm, hR⟩ := Q
                    exact (ih m hm) _ _ _ _ _ hR ho
                  · obtain ⟨m, hm, hR⟩ := Q
                    exact (ih m hm) _ _ _ _ _ hR ho
  have Q := q_Ro_growLevel_0 h
  obtain ⟨m, hm, hR⟩ := Q
  exact (lp m) _ _ _ _ _ hR gxo.rf
theorem w_Ro_measure {p a1 : Nat} {F : fx_F} {v : fx_V} {F' : fx_F} (h : Cl k_Ro_measure [(2, p), (0, a1)] F v F') : gxo [p + 1] [] F F' := by
  obtain ⟨n, h⟩ := c_Ro_measure h
  have lp : ∀ n : Nat, (∀ (l1 l2 l3 : Nat) (F2 : fx_F), Rn n k_Ro_measure 7 [(2, p), (0, l1), (0, l2), (0, l3), (3, 0)] [] F2 v F' → gxo [p + 1] [] F F2 → gxo [p + 1] [] F F') ∧ (∀ (l2 l3 l4 : Nat) (F2 : fx_F), Rn n k_Ro_measure 57 [(2, p), (3, 0), (0, l2), (0, l3), (0, l4)] [] F2 v F' → gxo [p + 1] [] F F2 → gxo [p + 1] [] F F') := by
    intro n
    induction n using Nat.strongRecOn with
    | ind n ih =>
      refine ⟨fun l1 l2 l3 F2 h ho => ?_, fun l2 l3 l4 F2 h ho => ?_⟩
      · have Q := q_Ro_measure_7 h
        clear h
        refine fo_if fo_le Q (fun Q => ?_) (fun Q => ?_)
        · obtain ⟨m, hm, hR⟩ := Q
          exact (ih m hm).2 _ _ _ _ hR (gxo.wr (gxo.wr ho (by simp)) (by simp))
        · obtain ⟨m, hm, hR⟩ := Q
          exact (ih m hm).1 _ _ _ _ hR (gxo.wr ho (by simp))
      · have Q := q_Ro_measure_57 h
        clear h
        refine fo_if fo_lt Q (fun Q => ?_) (fun Q => ?_)
        · rw [Q.2]; exact ho
        · refine fo_if fo_eq Q (fun Q => ?_) (fun Q => ?_)
          · rw [Q.2]; exact ho
          · obtain ⟨r1, H1, c1, Q⟩ := Q
            have o1 : gxo [p + 1] [] F H1 := gxo.tr ho (gxo.mono (w_Ro_growLevel c1) (by intro q hq; simp at hq ⊢; try omega) (by intro q hq; simp at hq ⊢; try omega))
            obtain ⟨m, hm, hR⟩ := Q
            exact (ih m hm).2 _ _ _ _ hR o1
  have Q := q_Ro_measure_0 h
  obtain ⟨m, hm, hR⟩ := Q
  exact (lp m).1 _ _ _ _ hR gxo.rf
theorem w_Ro_see {p a1 a2 : Nat} {F : fx_F} {v : fx_V} {F' : fx_F} (h : Cl k_Ro_see [(2, p), (0, a1), (0, a2)] F v F') : gxo [p, p + 5, p + 1] [] F F' := by
  obtain ⟨n, h⟩ := c_Ro_see h
  have lp : ∀ n : Nat, (∀ (l3 : Nat) (F2 : fx_F), Rn n k_Ro_see 36 [(2, p), (3, 0), (3, 0), (0, l3)] [] F2 v F' → gxo [p, p + 5, p + 1] [] F F2 → gxo [p, p + 5, p + 1] [] F F') ∧ (∀ (l3 : Nat) (F2 : fx_F), Rn n k_Ro_see 77 [(2, p), (3, 0), (3, 0), (0, l3)] [] F2 v F' → gxo [p, p + 5, p + 1] [] F F2 → gxo [p, p + 5, p + 1] [] F F') := by
    intro n
    induction n using Nat.strongRecOn with
    | ind n ih =>
      refine ⟨fun l3 F2 h ho => ?_, fun l3 F2 h ho => ?_⟩
      · have Q := q_Ro_see_36 h
        clear h
        refine fo_if fo_le Q (fun Q => ?_) (fun Q => ?_)
        · obtain ⟨m, hm, hR⟩ := Q
          exact (ih m hm).2 _ _ hR ho
        · refine fo_if fo_eq Q (fun Q => ?_) (fun Q => ?_)
          · obtain ⟨m, hm, hR⟩ := Q
            exact (ih m hm).1 _ _ hR (gxo.wr ho (by simp))
          · obtain ⟨m, hm, hR⟩ := Q
            exact (ih m hm).1 _ _ hR (gxo.wr ho (by simp))
      · have Q := q_Ro_see_77 h
        clear h
        refine fo_if fo_le Q (fun Q => ?_) (fun Q => ?_)
        · rw [Q.2]; exact (gxo.wr (gxo.wr ho (by simp)) (by simp))
        · obtain ⟨H1, c1, Q⟩ := Q
          have o1 : gxo [p, p + 5, p + 1] [] F H1 := gxo.tr ho (gxo.mono (w_Ro_measure c1) (by intro q hq; simp at hq ⊢; try omega) (by intro q hq; simp at hq ⊢; try omega))
          obtain ⟨m, hm, hR⟩ := Q
          exact (ih m hm).2 _ _ hR o1
  have Q := q_Ro_see_0 h
  refine fo_if fo_eq Q (fun Q => ?_) (fun Q => ?_)
  · obtain ⟨m, hm, hR⟩ := Q
    exact (lp m).1 _ _ hR (gxo.wr (gxo.wr gxo.rf (by simp)) (by simp))
  · refine fo_if fo_ne Q (fun Q => ?_) (fun Q => ?_)
    · obtain ⟨m, hm, hR⟩ := Q
      exact (lp m).1 _ _ hR (gxo.wr (gxo.wr gxo.rf (by simp)) (by simp))
    · refine fo_if fo_ne Q (fun Q => ?_) (fun Q => ?_)
      · obtain ⟨m, hm, hR⟩ := Q
        exact (lp m).1 _ _ hR (gxo.wr (gxo.wr gxo.rf (by simp)) (by simp))
      · rw [Q.2]; exact gxo.rf
theorem w_Ro_seeTable {p a1 a2 : Nat} {F : fx_F} {v : fx_V} {F' : fx_F} (h : Cl k_Ro_seeTable [(2, p), (0, a1), (0, a2)] F v F') : gxo [p, p + 5, p + 1, p + 3, p + 2, p + 4] [] F F' := by
  obtain ⟨n, h⟩ := c_Ro_seeTable h
  have Q := q_Ro_seeTable_0 h
  obtain ⟨H1, c1, Q⟩ := Q
  have o1 : gxo [p, p + 5, p + 1, p + 3, p + 2, p + 4] [] F H1 := gxo.tr gxo.rf (gxo.mono (w_Ro_see c1) (by intro q hq; simp at hq ⊢; try omega) (by intro q hq; simp at hq ⊢; try omega))
  refine fo_if fo_ne Q (fun Q => ?_) (fun Q => ?_)
  · rw [Q.2]; exact o1
  · obtain ⟨H2, c2, Q⟩ := Q
    have o2 : gxo [p, p + 5, p + 1, p + 3, p + 2, p + 4] [] F H2 := gxo.tr o1 (gxo.mono (w_Ro_fillTable c2) (by intro q hq; simp at hq ⊢; try omega) (by intro q hq; simp at hq ⊢; try omega))
    obtain ⟨H3, c3, Q⟩ := Q
    have o3 : gxo [p, p + 5, p + 1, p + 3, p + 2, p + 4] [] F H3 := gxo.tr o2 (gxo.mono (w_Ro_countLoads c3) (by intro q hq; simp at hq ⊢; try omega) (by intro q hq; simp at hq ⊢; try omega))
    rw [Q.2]; exact (gxo.wr o3 (by simp))
theorem w_St_countPackets {p : Nat} {F : fx_F} {v : fx_V} {F' : fx_F} (h : Cl k_St_countPackets [(2, p)] F v F') : gxo [] [] F F' := by
  obtain ⟨n, h⟩ := c_St_countPackets h
  have lp : ∀ n : Nat, (∀ (l1 l2 : Nat) (F2 : fx_F), Rn n k_St_countPackets 4 [(2, p), (0, l1), (0, l2)] [] F2 v F' → gxo [] [] F F2 → gxo [] [] F F') := by
    intro n
    induction n using Nat.strongRecOn with
    | ind n ih =>
      refine fun l1 l2 F2 h ho => ?_
      · have Q := q_St_countPackets_4 h
        clear h
        refine fo_if fo_le Q (fun Q => ?_) (fun Q => ?_)
        · rw [Q.2]; exact ho
        · refine fo_if fo_eq Q (fun Q => ?_) (fun Q => ?_)
          · obtain ⟨m, hm, hR⟩ := Q
            exact (ih m hm) _ _ _ hR ho
          · obtain ⟨m, hm, hR⟩ := Q
            exact (ih m hm) _ _ _ hR ho
  have Q := q_St_countPackets_0 h
  obtain ⟨m, hm, hR⟩ := Q
  exact (lp m) _ _ _ hR gxo.rf
theorem w_T_runEmpty {F : fx_F} {v : fx_V} {F' : fx_F} (h : Cl k_T_runEmpty [(2, 2)] F v F') : gxo [24, 29, 25, 27, 26, 28, 50, 153, 157, 156, 154] [] F F' := by
  obtain ⟨n, h⟩ := c_T_runEmpty h
  have lp : ∀ n : Nat, (∀ (l1 : Nat) (F2 : fx_F), Rn n k_T_runEmpty 30 [(2, 2), (0, l1), (3, 0)] [] F2 v F' → gxo [24, 29, 25, 27, 26, 28, 50, 153, 157, 156, 154] [] F F2 → gxo [24, 29, 25, 27, 26, 28, 50, 153, 157, 156, 154] [] F F') := by
    intro n
    induction n using Nat.strongRecOn with
    | ind n ih =>
      refine fun l1 F2 h ho => ?_
      · have Q := q_T_runEmpty_30 h
        clear h
        refine fo_if fo_le Q (fun Q => ?_) (fun Q => ?_)
        · rw [Q.2]; exact ho
        · obtain ⟨r1, H1, c1, Q⟩ := Q
          have o1 : gxo [24, 29, 25, 27, 26, 28, 50, 153, 157, 156, 154] [] F H1 := gxo.tr ho (gxo.mono (w_St_countPackets c1) (by intro q hq; simp at hq ⊢; try omega) (by intro q hq; simp at hq ⊢; try omega))
          refine fo_if fo_ne Q (fun Q => ?_) (fun Q => ?_)
          · obtain ⟨H2, c2, Q⟩ := Q
            have o2 : gxo [24, 29, 25, 27, 26, 28, 50, 153, 157, 156, 154] [] F H2 := gxo.tr o1 (gxo.mono (w_Tr_goStep c2) (by intro q hq; simp at hq ⊢; try omega) (by intro q hq; simp at hq ⊢; try omega))
            refine fo_if fo_ne Q (fun Q => ?_) (fun Q => ?_)
            · obtain ⟨m, hm, hR⟩ := Q
              exact (ih m hm) _ _ hR o2
            · rw [Q.2]; exact o2
          · rw [Q.2]; exact o1
  have Q := q_T_runEmpty_0 h
  obtain ⟨H1, c1, Q⟩ := Q
  have o1 : gxo [24, 29, 25, 27, 26, 28, 50, 153, 157, 156, 154] [] F H1 := gxo.tr gxo.rf (gxo.mono (w_Ro_seeTable c1) (by intro q hq; simp at hq ⊢; try omega) (by intro q hq; simp at hq ⊢; try omega))
  obtain ⟨m, hm, hR⟩ := Q
  exact (lp m) _ _ hR (gxo.wr (gxo.wr o1 (by simp)) (by simp))
theorem w_St_copyFrom {p a1 : Nat} {F : fx_F} {v : fx_V} {F' : fx_F} (h : Cl k_St_copyFrom [(2, p), (2, a1)] F v F') : gxo [p + 4, p + 3, p + 2, p + 1, p] [] F F' := by
  obtain ⟨n, h⟩ := c_St_copyFrom h
  have Q := q_St_copyFrom_0 h
  rw [Q.2]; exact (gxo.cp (gxo.cp (gxo.cp (gxo.cp (gxo.wr (gxo.wr (gxo.wr (gxo.wr (gxo.wr gxo.rf (by simp)) (by simp)) (by simp)) (by simp)) (by simp)) (by simp)) (by simp)) (by simp)) (by simp))
theorem w_St_countAt {p a1 : Nat} {F : fx_F} {v : fx_V} {F' : fx_F} (h : Cl k_St_countAt [(2, p), (0, a1)] F v F') : gxo [] [] F F' := by
  obtain ⟨n, h⟩ := c_St_countAt h
  have lp : ∀ n : Nat, (∀ (l1 l2 l3 : Nat) (F2 : fx_F), Rn n k_St_countAt 4 [(2, p), (0, l1), (0, l2), (0, l3)] [] F2 v F' → gxo [] [] F F2 → gxo [] [] F F') := by
    intro n
    induction n using Nat.strongRecOn with
    | ind n ih =>
      refine fun l1 l2 l3 F2 h ho => ?_
      · have Q := q_St_countAt_4 h
        clear h
        refine fo_if fo_le Q (fun Q => ?_) (fun Q => ?_)
        · rw [Q.2]; exact ho
        · refine fo_if fo_ne Q (fun Q => ?_) (fun Q => ?_)
          · obtain ⟨m, hm, hR⟩ := Q
            exact (ih m hm) _ _ _ _ hR ho
          · obtain ⟨m, hm, hR⟩ := Q
            exact (ih m hm) _ _ _ _ hR ho
  have Q := q_St_countAt_0 h
  obtain ⟨m, hm, hR⟩ := Q
  exact (lp m) _ _ _ _ hR gxo.rf
theorem w_Ro_pairsWithout {p : Nat} {F : fx_F} {v : fx_V} {F' : fx_F} (h : Cl k_Ro_pairsWithout [(2, p)] F v F') : gxo [] [] F F' := by
  obtain ⟨n, h⟩ := c_Ro_pairsWithout h
  have lp : ∀ n : Nat, (∀ (l1 l2 : Nat) (F2 : fx_F), Rn n k_Ro_pairsWithout 4 [(2, p), (0, l1), (0, l2), (3, 0)] [] F2 v F' → gxo [] [] F F2 → gxo [] [] F F') ∧ (∀ (l1 l2 l3 : Nat) (F2 : fx_F), Rn n k_Ro_pairsWithout 17 [(2, p), (0, l1), (0, l2), (0, l3)] [] F2 v F' → gxo [] [] F F2 → gxo [] [] F F') := by
    intro n
    induction n using Nat.strongRecOn with
    | ind n ih =>
      refine ⟨fun l1 l2 F2 h ho => ?_, fun l1 l2 l3 F2 h ho => ?_⟩
      · have Q := q_Ro_pairsWithout_4 h
        clear h
        refine fo_if fo_le Q (fun Q => ?_) (fun Q => ?_)
        · rw [Q.2]; exact ho
        · obtain ⟨m, hm, hR⟩ := Q
          exact (ih m hm).2 _ _ _ _ hR ho
      · have Q := q_Ro_pairsWithout_17 h
        clear h
        refine fo_if fo_le Q (fun Q => ?_) (fun Q => ?_)
        · obtain ⟨m, hm, hR⟩ := Q
          exact (ih m hm).1 _ _ _ hR ho
        · refine fo_if fo_ne Q (fun Q => ?_) (fun Q => ?_)
          · obtain ⟨m, hm, hR⟩ := Q
            exact (ih m hm).2 _ _ _ _ hR ho
          · obtain ⟨m, hm, hR⟩ := Q
            exact (ih m hm).2 _ _ _ _ hR ho
  have Q := q_Ro_pairsWithout_0 h
  obtain ⟨m, hm, hR⟩ := Q
  exact (lp m).1 _ _ _ hR gxo.rf
theorem w_Ro_hopsTogether {p : Nat} {F : fx_F} {v : fx_V} {F' : fx_F} (h : Cl k_Ro_hopsTogether [(2, p)] F v F') : gxo [] [] F F' := by
  obtain ⟨n, h⟩ := c_Ro_hopsTogether h
  have lp : ∀ n : Nat, (∀ (l1 l2 : Nat) (F2 : fx_F), Rn n k_Ro_hopsTogether 4 [(2, p), (0, l1), (0, l2), (3, 0)] [] F2 v F' → gxo [] [] F F2 → gxo [] [] F F') ∧ (∀ (l1 l2 l3 : Nat) (F2 : fx_F), Rn n k_Ro_hopsTogether 17 [(2, p), (0, l1), (0, l2), (0, l3)] [] F2 v F' → gxo [] [] F F2 → gxo [] [] F F') := by
    intro n
    induction n using Nat.strongRecOn with
    | ind n ih =>
      refine ⟨fun l1 l2 F2 h ho => ?_, fun l1 l2 l3 F2 h ho => ?_⟩
      · have Q := q_Ro_hopsTogether_4 h
        clear h
        refine fo_if fo_le Q (fun Q => ?_) (fun Q => ?_)
        · rw [Q.2]; exact ho
        · obtain ⟨m, hm, hR⟩ := Q
          exact (ih m hm).2 _ _ _ _ hR ho
      · have Q := q_Ro_hopsTogether_17 h
        clear h
        refine fo_if fo_le Q (fun Q => ?_) (fun Q => ?_)
        · obtain ⟨m, hm, hR⟩ := Q
          exact (ih m hm).1 _ _ _ hR ho
        · obtain ⟨m, hm, hR⟩ := Q
          exact (ih m hm).2 _ _ _ _ hR ho
  have Q := q_Ro_hopsTogether_0 h
  obtain ⟨m, hm, hR⟩ := Q
  exact (lp m).1 _ _ _ hR gxo.rf
theorem w_Ro_heaviestChannel {p : Nat} {F : fx_F} {v : fx_V} {F' : fx_F} (h : Cl k_Ro_heaviestChannel [(2, p)] F v F') : gxo [] [] F F' := by
  obtain ⟨n, h⟩ := c_Ro_heaviestChannel h
  have lp : ∀ n : Nat, (∀ (l1 l2 : Nat) (F2 : fx_F), Rn n k_Ro_heaviestChannel 4 [(2, p), (0, l1), (0, l2)] [] F2 v F' → gxo [] [] F F2 → gxo [] [] F F') := by
    intro n
    induction n using Nat.strongRecOn with
    | ind n ih =>
      refine fun l1 l2 F2 h ho => ?_
      · have Q := q_Ro_heaviestChannel_4 h
        clear h
        refine fo_if fo_le Q (fun Q => ?_) (fun Q => ?_)
        · rw [Q.2]; exact ho
        · refine fo_if fo_le Q (fun Q => ?_) (fun Q => ?_)
          · obtain ⟨m, hm, hR⟩ := Q
            exact (ih m hm) _ _ _ hR ho
          · obtain ⟨m, hm, hR⟩ := Q
            exact (ih m hm) _ _ _ hR ho
  have Q := q_Ro_heaviestChannel_0 h
  obtain ⟨m, hm, hR⟩ := Q
  exact (lp m) _ _ _ hR gxo.rf
theorem w_Gr_pairsWithout {F : fx_F} {v : fx_V} {F' : fx_F} (h : Cl k_Gr_pairsWithout [(2, 40)] F v F') : gxo [] [] F F' := by
  obtain ⟨n, h⟩ := c_Gr_pairsWithout h
  have lp : ∀ n : Nat, (∀ (l1 l2 : Nat) (F2 : fx_F), Rn n k_Gr_pairsWithout 4 [(2, 40), (0, l1), (0, l2), (3, 0)] [] F2 v F' → gxo [] [] F F2 → gxo [] [] F F') ∧ (∀ (l1 l2 l3 : Nat) (F2 : fx_F), Rn n k_Gr_pairsWithout 17 [(2, 40), (0, l1), (0, l2), (0, l3)] [] F2 v F' → gxo [] [] F F2 → gxo [] [] F F') := by
    intro n
    induction n using Nat.strongRecOn with
    | ind n ih =>
      refine ⟨fun l1 l2 F2 h ho => ?_, fun l1 l2 l3 F2 h ho => ?_⟩
      · have Q := q_Gr_pairsWithout_4 h
        clear h
        refine fo_if fo_le Q (fun Q => ?_) (fun Q => ?_)
        · rw [Q.2]; exact ho
        · obtain ⟨m, hm, hR⟩ := Q
          exact (ih m hm).2 _ _ _ _ hR ho
      · have Q := q_Gr_pairsWithout_17 h
        clear h
        refine fo_if fo_le Q (fun Q => ?_) (fun Q => ?_)
        · obtain ⟨m, hm, hR⟩ := Q
          exact (ih m hm).1 _ _ _ hR ho
        · refine fo_if fo_ne Q (fun Q => ?_) (fun Q => ?_)
          · obtain ⟨m, hm, hR⟩ := Q
            exact (ih m hm).2 _ _ _ _ hR ho
          · obtain ⟨m, hm, hR⟩ := Q
            exact (ih m hm).2 _ _ _ _ hR ho
  have Q := q_Gr_pairsWithout_0 h
  obtain ⟨m, hm, hR⟩ := Q
  exact (lp m).1 _ _ _ hR gxo.rf
theorem w_T_hopsWhereWays {F : fx_F} {v : fx_V} {F' : fx_F} (h : Cl k_T_hopsWhereWays [(2, 2)] F v F') : gxo [] [] F F' := by
  obtain ⟨n, h⟩ := c_T_hopsWhereWays h
  have lp : ∀ n : Nat, (∀ (l1 l2 : Nat) (F2 : fx_F), Rn n k_T_hopsWhereWays 4 [(2, 2), (0, l1), (0, l2), (3, 0)] [] F2 v F' → gxo [] [] F F2 → gxo [] [] F F') ∧ (∀ (l1 l2 l3 : Nat) (F2 : fx_F), Rn n k_T_hopsWhereWays 17 [(2, 2), (0, l1), (0, l2), (0, l3)] [] F2 v F' → gxo [] [] F F2 → gxo [] [] F F') := by
    intro n
    induction n using Nat.strongRecOn with
    | ind n ih =>
      refine ⟨fun l1 l2 F2 h ho => ?_, fun l1 l2 l3 F2 h ho => ?_⟩
      · have Q := q_T_hopsWhereWays_4 h
        clear h
        refine fo_if fo_le Q (fun Q => ?_) (fun Q => ?_)
        · rw [Q.2]; exact ho
        · obtain ⟨m, hm, hR⟩ := Q
          exact (ih m hm).2 _ _ _ _ hR ho
      · have Q := q_T_hopsWhereWays_17 h
        clear h
        refine fo_if fo_le Q (fun Q => ?_) (fun Q => ?_)
        · obtain ⟨m, hm, hR⟩ := Q
          exact (ih m hm).1 _ _ _ hR ho
        · refine fo_if fo_le Q (fun Q => ?_) (fun Q => ?_)
          · obtain ⟨m, hm, hR⟩ := Q
            exact (ih m hm).2 _ _ _ _ hR ho
          · obtain ⟨m, hm, hR⟩ := Q
            exact (ih m hm).2 _ _ _ _ hR ho
  have Q := q_T_hopsWhereWays_0 h
  obtain ⟨m, hm, hR⟩ := Q
  exact (lp m).1 _ _ _ hR gxo.rf
theorem w_Or_countLinks {a1 : Nat} {F : fx_F} {v : fx_V} {F' : fx_F} (h : Cl k_Or_countLinks [(2, 19), (0, a1)] F v F') : gxo [21] [] F F' := by
  obtain ⟨n, h⟩ := c_Or_countLinks h
  have lp : ∀ n : Nat, (∀ (l1 l2 : Nat) (F2 : fx_F), Rn n k_Or_countLinks 2 [(2, 19), (0, l1), (0, l2)] [] F2 v F' → gxo [21] [] F F2 → gxo [21] [] F F') ∧ (∀ (l1 l2 : Nat) (F2 : fx_F), Rn n k_Or_countLinks 28 [(2, 19), (0, l1), (0, l2)] [] F2 v F' → gxo [21] [] F F2 → gxo [21] [] F F') := by
    intro n
    induction n using Nat.strongRecOn with
    | ind n ih =>
      refine ⟨fun l1 l2 F2 h ho => ?_, fun l1 l2 F2 h ho => ?_⟩
      · have Q := q_Or_countLinks_2 h
        clear h
        refine fo_if fo_le Q (fun Q => ?_) (fun Q => ?_)
        · obtain ⟨m, hm, hR⟩ := Q
          exact (ih m hm).2 _ _ _ hR ho
        · obtain ⟨m, hm, hR⟩ := Q
          exact (ih m hm).1 _ _ _ hR (gxo.wr ho (by simp))
      · have Q := q_Or_countLinks_28 h
        clear h
        refine fo_if fo_le Q (fun Q => ?_) (fun Q => ?_)
        · rw [Q.2]; exact ho
        · refine fo_if fo_ne Q (fun Q => ?_) (fun Q => ?_)
          · obtain ⟨m, hm, hR⟩ := Q
            exact (ih m hm).2 _ _ _ hR ho
          · obtain ⟨m, hm, hR⟩ := Q
            exact (ih m hm).2 _ _ _ hR (gxo.wr ho (by simp))
  have Q := q_Or_countLinks_0 h
  obtain ⟨m, hm, hR⟩ := Q
  exact (lp m).1 _ _ _ hR gxo.rf
theorem w_Or_evaluate {a1 : Nat} {F : fx_F} {v : fx_V} {F' : fx_F} (h : Cl k_Or_evaluate [(2, 19), (0, a1)] F v F') : gxo [23] [] F F' := by
  obtain ⟨n, h⟩ := c_Or_evaluate h
  have lp : ∀ n : Nat, (∀ (l1 l2 l3 : Nat) (F2 : fx_F), Rn n k_Or_evaluate 4 [(2, 19), (0, l1), (0, l2), (0, l3), (3, 0)] [] F2 v F' → gxo [23] [] F F2 → gxo [23] [] F F') := by
    intro n
    induction n using Nat.strongRecOn with
    | ind n ih =>
      refine fun l1 l2 l3 F2 h ho => ?_
      · have Q := q_Or_evaluate_4 h
        clear h
        refine fo_if fo_le Q (fun Q => ?_) (fun Q => ?_)
        · rw [Q.2]; exact ho
        · refine fo_if fo_ne Q (fun Q => ?_) (fun Q => ?_)
          · refine fo_if fo_le Q (fun Q => ?_) (fun Q => ?_)
            · refine fo_if fo_lt Q (fun Q => ?_) (fun Q => ?_)
              · obtain ⟨m, hm, hR⟩ := Q
                exact (ih m hm) _ _ _ _ hR ho
              · rcases (fo_sw42_48 ((F2 8 l3))) with z | z | z | z | z | z | z
                · have Q := Q.1 z
                  refine fo_if fo_ne Q (fun Q => ?_) (fun Q => ?_)
                  · obtain ⟨m, hm, hR⟩ := Q
                    exact (ih m hm) _ _ _ _ hR (gxo.wr ho (by simp))
                  · obtain ⟨m, hm, hR⟩ := Q
                    exact (ih m hm) _ _ _ _ hR (gxo.wr ho (by simp))
                · have Q := Q.2.1 z
                  obtain ⟨m, hm, hR⟩ := Q
                  exact (ih m hm) _ _ _ _ hR (gxo.wr ho (by simp))
                · have Q := Q.2.2.1 z
                  obtain ⟨m, hm, hR⟩ := Q
                  exact (ih m hm) _ _ _ _ hR (gxo.wr ho (by simp))
                · have Q := Q.2.2.2.1 z
                  refine fo_if fo_ne Q (fun Q => ?_) (fun Q => ?_)
                  · obtain ⟨m, hm, hR⟩ := Q
                    exact (ih m hm) _ _ _ _ hR (gxo.wr ho (by simp))
                  · obtain ⟨m, hm, hR⟩ := Q
                    exact (ih m hm) _ _ _ _ hR (gxo.wr ho (by simp))
                · have Q := Q.2.2.2.2.1 z
                  obtain ⟨m, hm, hR⟩ := Q
                  exact (ih m hm) _ _ _ _ hR (gxo.wr ho (by simp))
                · have Q := Q.2.2.2.2.2.1 z
                  refine fo_if fo_ne Q (fun Q => ?_) (fun Q => ?_)
                  · obtain ⟨m, hm, hR⟩ := Q
                    exact (ih m hm) _ _ _ _ hR (gxo.wr ho (by simp))
                  · obtain ⟨m, hm, hR⟩ := Q
                    exact (ih m hm) _ _ _ _ hR (gxo.wr ho (by simp))
                · have Q := Q.2.2.2.2.2.2.1 z
                  refine fo_if fo_ne Q (fun Q => ?_) (fun Q => ?_)
                  · obtain ⟨m, hm, hR⟩ := Q
                    exact (ih m hm) _ _ _ _ hR (gxo.wr ho (by simp))
                  · obtain ⟨m, hm, hR⟩ := Q
                    exact (ih m hm) _ _ _ _ hR (gxo.wr ho (by simp))
            · refine fo_if fo_le Q (fun Q => ?_) (fun Q => ?_)
              · obtain ⟨m, hm, hR⟩ := Q
                exact (ih m hm) _ _ _ _ hR ho
              · rcases (fo_sw2_5 ((F2 8 l3))) with z | z | z | z
                · have Q := Q.1 z
                  obtain ⟨m, hm, hR⟩ := Q
                  exact (ih m hm) _ _ _ _ hR (gxo.wr ho (by simp))
                · have Q := Q.2.1 z
                  obtain ⟨m, hm, hR⟩ := Q
                  exact (ih m hm) _ _ _ _ hR (gxo.wr ho (by simp))
                · have Q := Q.2.2.1 z
                  obtain ⟨m, hm, hR⟩ := Q
                  exact (ih m hm) _ _ _ _ hR (gxo.wr ho (by simp))
                · have Q := Q.2.2.2.1 z
                  obtain ⟨m, hm, hR⟩ := Q
                  exact (ih m hm) _ _ _ _ hR (gxo.wr ho (by simp))
          · refine fo_if fo_lt Q (fun Q => ?_) (fun Q => ?_)
            · obtain ⟨m, hm, hR⟩ := Q
              exact (ih m hm) _ _ _ _ hR ho
            · obtain ⟨m, hm, hR⟩ := Q
              exact (ih m hm) _ _ _ _ hR (gxo.wr ho (by simp))
  have Q := q_Or_evaluate_0 h
  obtain ⟨m, hm, hR⟩ := Q
  exact (lp m) _ _ _ _ hR gxo.rf
theorem w_Or_rate {a1 a2 : Nat} {F : fx_F} {v : fx_V} {F' : fx_F} (h : Cl k_Or_rate [(2, 19), (0, a1), (0, a2)] F v F') : gxo [21, 20, 23, 22] [] F F' := by
  obtain ⟨n, h⟩ := c_Or_rate h
  have lp : ∀ n : Nat, (∀ (l3 : Nat) (F2 : fx_F), Rn n k_Or_rate 21 [(2, 19), (3, 0), (3, 0), (0, l3)] [] F2 v F' → gxo [21, 20, 23, 22] [] F F2 → gxo [21, 20, 23, 22] [] F F') := by
    intro n
    induction n using Nat.strongRecOn with
    | ind n ih =>
      refine fun l3 F2 h ho => ?_
      · have Q := q_Or_rate_21 h
        clear h
        refine fo_if fo_le Q (fun Q => ?_) (fun Q => ?_)
        · rw [Q.2]; exact ho
        · refine fo_if fo_ne Q (fun Q => ?_) (fun Q => ?_)
          · refine fo_if fo_ne Q (fun Q => ?_) (fun Q => ?_)
            · obtain ⟨r1, H1, c1, Q⟩ := Q
              have o1 : gxo [21, 20, 23, 22] [] F H1 := gxo.tr ho (gxo.mono (w_Or_evaluate c1) (by intro q hq; simp at hq ⊢; try omega) (by intro q hq; simp at hq ⊢; try omega))
              obtain ⟨m, hm, hR⟩ := Q
              exact (ih m hm) _ _ hR (gxo.wr o1 (by simp))
            · obtain ⟨m, hm, hR⟩ := Q
              exact (ih m hm) _ _ hR (gxo.wr ho (by simp))
          · refine fo_if fo_ne Q (fun Q => ?_) (fun Q => ?_)
            · obtain ⟨r2, H2, c2, Q⟩ := Q
              have o2 : gxo [21, 20, 23, 22] [] F H2 := gxo.tr (gxo.wr ho (by simp)) (gxo.mono (w_Or_evaluate c2) (by intro q hq; simp at hq ⊢; try omega) (by intro q hq; simp at hq ⊢; try omega))
              obtain ⟨m, hm, hR⟩ := Q
              exact (ih m hm) _ _ hR (gxo.wr o2 (by simp))
            · obtain ⟨m, hm, hR⟩ := Q
              exact (ih m hm) _ _ hR (gxo.wr (gxo.wr ho (by simp)) (by simp))
  have Q := q_Or_rate_0 h
  obtain ⟨H1, c1, Q⟩ := Q
  have o1 : gxo [21, 20, 23, 22] [] F H1 := gxo.tr gxo.rf (gxo.mono (w_Or_countLinks c1) (by intro q hq; simp at hq ⊢; try omega) (by intro q hq; simp at hq ⊢; try omega))
  obtain ⟨H2, c2, Q⟩ := Q
  have o2 : gxo [21, 20, 23, 22] [] F H2 := gxo.tr o1 (gxo.mono (w_Gr_spread c2) (by intro q hq; simp at hq ⊢; try omega) (by intro q hq; simp at hq ⊢; try omega))
  obtain ⟨m, hm, hR⟩ := Q
  exact (lp m) _ _ hR o2
theorem w_Or_upEnds {F : fx_F} {v : fx_V} {F' : fx_F} (h : Cl k_Or_upEnds [(2, 19)] F v F') : gxo [] [] F F' := by
  obtain ⟨n, h⟩ := c_Or_upEnds h
  have lp : ∀ n : Nat, (∀ (l1 l2 : Nat) (F2 : fx_F), Rn n k_Or_upEnds 4 [(2, 19), (0, l1), (0, l2)] [] F2 v F' → gxo [] [] F F2 → gxo [] [] F F') := by
    intro n
    induction n using Nat.strongRecOn with
    | ind n ih =>
      refine fun l1 l2 F2 h ho => ?_
      · have Q := q_Or_upEnds_4 h
        clear h
        refine fo_if fo_le Q (fun Q => ?_) (fun Q => ?_)
        · rw [Q.2]; exact ho
        · refine fo_if fo_lt Q (fun Q => ?_) (fun Q => ?_)
          · obtain ⟨m, hm, hR⟩ := Q
            exact (ih m hm) _ _ _ hR ho
          · refine fo_if fo_ne Q (fun Q => ?_) (fun Q => ?_)
            · obtain ⟨m, hm, hR⟩ := Q
              exact (ih m hm) _ _ _ hR ho
            · refine fo_if fo_le Q (fun Q => ?_) (fun Q => ?_)
              · obtain ⟨m, hm, hR⟩ := Q
                exact (ih m hm) _ _ _ hR ho
              · obtain ⟨m, hm, hR⟩ := Q
                exact (ih m hm) _ _ _ hR ho
  have Q := q_Or_upEnds_0 h
  obtain ⟨m, hm, hR⟩ := Q
  exact (lp m) _ _ _ hR gxo.rf
theorem w_I_bitCount {a0 : Nat} {F : fx_F} {v : fx_V} {F' : fx_F} (h : Cl k_I_bitCount [(0, a0)] F v F') : gxo [] [] F F' := by
  obtain ⟨n, h⟩ := c_I_bitCount h
  have Q := q_I_bitCount_0 h
  rw [Q.2]; exact gxo.rf
theorem w_T_apart {a1 a2 : Nat} {F : fx_F} {v : fx_V} {F' : fx_F} (h : Cl k_T_apart [(2, 2), (0, a1), (0, a2)] F v F') : gxo [44, 43] [] F F' := by
  obtain ⟨n, h⟩ := c_T_apart h
  have Q := q_T_apart_0 h
  refine fo_if fo_lt Q (fun Q => ?_) (fun Q => ?_)
  · rw [Q.2]; exact gxo.rf
  · refine fo_if fo_le Q (fun Q => ?_) (fun Q => ?_)
    · rw [Q.2]; exact gxo.rf
    · refine fo_if fo_lt Q (fun Q => ?_) (fun Q => ?_)
      · rw [Q.2]; exact gxo.rf
      · refine fo_if fo_le Q (fun Q => ?_) (fun Q => ?_)
        · rw [Q.2]; exact gxo.rf
        · refine fo_if fo_ne Q (fun Q => ?_) (fun Q => ?_)
          · obtain ⟨r1, H1, c1, Q⟩ := Q
            have o1 : gxo [44, 43] [] F H1 := gxo.tr gxo.rf (gxo.mono (w_Gr_countApart c1) (by intro q hq; simp at hq ⊢; try omega) (by intro q hq; simp at hq ⊢; try omega))
            rw [Q.2]; exact o1
          · rw [Q.2]; exact gxo.rf
theorem w_T_pivots {F : fx_F} {v : fx_V} {F' : fx_F} (h : Cl k_T_pivots [(2, 2)] F v F') : gxo [41, 42] [] F F' := by
  obtain ⟨n, h⟩ := c_T_pivots h
  have Q := q_T_pivots_0 h
  obtain ⟨r1, H1, c1, Q⟩ := Q
  have o1 : gxo [41, 42] [] F H1 := gxo.tr gxo.rf (gxo.mono (w_Gr_findPivots c1) (by intro q hq; simp at hq ⊢; try omega) (by intro q hq; simp at hq ⊢; try omega))
  rw [Q.2]; exact o1
theorem w_Rd_append {a1 : Nat} {F : fx_F} {v : fx_V} {F' : fx_F} (h : Cl k_Rd_append [(2, 10), (0, a1)] F v F') : gxo [10, 11] [] F F' := by
  obtain ⟨n, h⟩ := c_Rd_append h
  have lp : ∀ n : Nat, (∀ (l1 l2 : Nat) (F2 : fx_F), Rn n k_Rd_append 3 [(2, 10), (0, l1), (0, l2)] [] F2 v F' → gxo [10, 11] [] F F2 → gxo [10, 11] [] F F') := by
    intro n
    induction n using Nat.strongRecOn with
    | ind n ih =>
      refine fun l1 l2 F2 h ho => ?_
      · have Q := q_Rd_append_3 h
        clear h
        refine fo_if fo_lt Q (fun Q => ?_) (fun Q => ?_)
        · rw [Q.2]; exact ho
        · refine fo_if fo_le Q (fun Q => ?_) (fun Q => ?_)
          · obtain ⟨m, hm, hR⟩ := Q
            exact (ih m hm) _ _ _ hR ho
          · obtain ⟨m, hm, hR⟩ := Q
            exact (ih m hm) _ _ _ hR (gxo.wr (gxo.wr ho (by simp)) (by simp))
  have Q := q_Rd_append_0 h
  obtain ⟨m, hm, hR⟩ := Q
  exact (lp m) _ _ _ hR gxo.rf
theorem w_T_feed {a1 a2 a3 a4 a5 : Nat} {F : fx_F} {v : fx_V} {F' : fx_F} (h : Cl k_T_feed [(2, 2), (0, a1), (0, a2), (0, a3), (0, a4), (0, a5)] F v F') : gxo [10, 11] [] F F' := by
  obtain ⟨n, h⟩ := c_T_feed h
  have Q := q_T_feed_0 h
  refine fo_if fo_le Q (fun Q => ?_) (fun Q => ?_)
  · obtain ⟨H1, c1, Q⟩ := Q
    have o1 : gxo [10, 11] [] F H1 := gxo.tr gxo.rf (gxo.mono (w_Rd_append c1) (by intro q hq; simp at hq ⊢; try omega) (by intro q hq; simp at hq ⊢; try omega))
    obtain ⟨H2, c2, Q⟩ := Q
    have o2 : gxo [10, 11] [] F H2 := gxo.tr o1 (gxo.mono (w_Rd_append c2) (by intro q hq; simp at hq ⊢; try omega) (by intro q hq; simp at hq ⊢; try omega))
    obtain ⟨H3, c3, Q⟩ := Q
    have o3 : gxo [10, 11] [] F H3 := gxo.tr o2 (gxo.mono (w_Rd_append c3) (by intro q hq; simp at hq ⊢; try omega) (by intro q hq; simp at hq ⊢; try omega))
    obtain ⟨H4, c4, Q⟩ := Q
    have o4 : gxo [10, 11] [] F H4 := gxo.tr o3 (gxo.mono (w_Rd_append c4) (by intro q hq; simp at hq ⊢; try omega) (by intro q hq; simp at hq ⊢; try omega))
    obtain ⟨H5, c5, Q⟩ := Q
    have o5 : gxo [10, 11] [] F H5 := gxo.tr o4 (gxo.mono (w_Rd_append c5) (by intro q hq; simp at hq ⊢; try omega) (by intro q hq; simp at hq ⊢; try omega))
    rw [Q.2]; exact o5
  · rw [Q.2]; exact gxo.rf
theorem w_T_end {a1 : Nat} {F : fx_F} {v : fx_V} {F' : fx_F} (h : Cl k_T_end [(2, 2), (0, a1)] F v F') : gxo [10] [] F F' := by
  obtain ⟨n, h⟩ := c_T_end h
  have Q := q_T_end_0 h
  refine fo_if fo_lt Q (fun Q => ?_) (fun Q => ?_)
  · rw [Q.2]; exact gxo.rf
  · refine fo_if fo_le Q (fun Q => ?_) (fun Q => ?_)
    · rw [Q.2]; exact (gxo.wr gxo.rf (by simp))
    · rw [Q.2]; exact gxo.rf
theorem w_T_fault {a1 : Nat} {F : fx_F} {v : fx_V} {F' : fx_F} (h : Cl k_T_fault [(2, 2), (0, a1)] F v F') : gxo [] [] F F' := by
  obtain ⟨n, h⟩ := c_T_fault h
  have Q := q_T_fault_0 h
  refine fo_if fo_ne Q (fun Q => ?_) (fun Q => ?_)
  · refine fo_if fo_ne Q (fun Q => ?_) (fun Q => ?_)
    · rw [Q.2]; exact gxo.rf
    · rw [Q.2]; exact gxo.rf
  · rw [Q.2]; exact gxo.rf
theorem w_M_feed {a1 a2 a3 a4 a5 : Nat} {F : fx_F} {v : fx_V} {F' : fx_F} (h : Cl k_M_feed [(2, 175), (0, a1), (0, a2), (0, a3), (0, a4), (0, a5)] F v F') : gxo [185] [11] F F' := by
  obtain ⟨n, h⟩ := c_M_feed h
  have lp : ∀ n : Nat, (∀ (l1 l2 l3 l4 l5 l6 : Nat) (F2 : fx_F), Rn n k_M_feed 18 [(2, 175), (0, l1), (0, l2), (0, l3), (0, l4), (0, l5), (0, l6), (3, 0)] [] F2 v F' → gxo [185] [11] F F2 → gxo [185] [11] F F') := by
    intro n
    induction n using Nat.strongRecOn with
    | ind n ih =>
      refine fun l1 l2 l3 l4 l5 l6 F2 h ho => ?_
      · have Q := q_M_feed_18 h
        clear h
        refine fo_if fo_le Q (fun Q => ?_) (fun Q => ?_)
        · rw [Q.2]; exact (gxo.wrf ho (by simp))
        · refine fo_if fo_le Q (fun Q => ?_) (fun Q => ?_)
          · refine fo_if fo_le Q (fun Q => ?_) (fun Q => ?_)
            · refine fo_if fo_le Q (fun Q => ?_) (fun Q => ?_)
              · refine fo_if fo_le Q (fun Q => ?_) (fun Q => ?_)
                · obtain ⟨m, hm, hR⟩ := Q
                  exact (ih m hm) _ _ _ _ _ _ _ hR (gxo.wr ho (by simp))
                · obtain ⟨m, hm, hR⟩ := Q
                  exact (ih m hm) _ _ _ _ _ _ _ hR (gxo.wr ho (by simp))
              · obtain ⟨m, hm, hR⟩ := Q
                exact (ih m hm) _ _ _ _ _ _ _ hR (gxo.wr ho (by simp))
            · obtain ⟨m, hm, hR⟩ := Q
              exact (ih m hm) _ _ _ _ _ _ _ hR (gxo.wr ho (by simp))
          · obtain ⟨m, hm, hR⟩ := Q
            exact (ih m hm) _ _ _ _ _ _ _ hR (gxo.wr ho (by simp))
  have Q := q_M_feed_0 h
  refine fo_if fo_le Q (fun Q => ?_) (fun Q => ?_)
  · obtain ⟨m, hm, hR⟩ := Q
    exact (lp m) _ _ _ _ _ _ _ hR gxo.rf
  · rw [Q.2]; exact gxo.rf
theorem w_M_end {a1 : Nat} {F : fx_F} {v : fx_V} {F' : fx_F} (h : Cl k_M_end [(2, 175), (0, a1)] F v F') : gxo [] [11] F F' := by
  obtain ⟨n, h⟩ := c_M_end h
  have Q := q_M_end_0 h
  refine fo_if fo_lt Q (fun Q => ?_) (fun Q => ?_)
  · rw [Q.2]; exact gxo.rf
  · refine fo_if fo_le Q (fun Q => ?_) (fun Q => ?_)
    · rw [Q.2]; exact (gxo.wrf gxo.rf (by simp))
    · rw [Q.2]; exact gxo.rf
theorem w_M_fault {a1 : Nat} {F : fx_F} {v : fx_V} {F' : fx_F} (h : Cl k_M_fault [(2, 175), (0, a1)] F v F') : gxo [] [] F F' := by
  obtain ⟨n, h⟩ := c_M_fault h
  have Q := q_M_fault_0 h
  refine fo_if fo_ne Q (fun Q => ?_) (fun Q => ?_)
  · refine fo_if fo_ne Q (fun Q => ?_) (fun Q => ?_)
    · rw [Q.2]; exact gxo.rf
    · rw [Q.2]; exact gxo.rf
  · rw [Q.2]; exact gxo.rf
theorem w_Rd_advance {F : fx_F} {v : fx_V} {F' : fx_F} (h : Cl k_Rd_advance [(2, 10)] F v F') : gxo [10] [] F F' := by
  obtain ⟨n, h⟩ := c_Rd_advance h
  have lp : ∀ n : Nat, (∀ (F2 : fx_F), Rn n k_Rd_advance 0 [(2, 10), (3, 0), (3, 0)] [] F2 v F' → gxo [10] [] F F2 → gxo [10] [] F F') ∧ (∀ (F2 : fx_F), Rn n k_Rd_advance 119 [(2, 10), (3, 0), (3, 0)] [] F2 v F' → gxo [10] [] F F2 → gxo [10] [] F F') ∧ (∀ (F2 : fx_F), Rn n k_Rd_advance 196 [(2, 10), (3, 0), (3, 0)] [] F2 v F' → gxo [10] [] F F2 → gxo [10] [] F F') := by
    intro n
    induction n using Nat.strongRecOn with
    | ind n ih =>
      refine ⟨fun  F2 h ho => ?_, fun  F2 h ho => ?_, fun  F2 h ho => ?_⟩
      · have Q := q_Rd_advance_0 h
        clear h
        refine fo_if fo_le Q (fun Q => ?_) (fun Q => ?_)
        · refine fo_if fo_lt Q (fun Q => ?_) (fun Q => ?_)
          · refine fo_if fo_lt Q (fun Q => ?_) (fun Q => ?_)
            · refine fo_if fo_lt Q (fun Q => ?_) (fun Q => ?_)
              · refine fo_if fo_eq Q (fun Q => ?_) (fun Q => ?_)
                · rw [Q.2]; exact (gxo.wr (gxo.wr (gxo.wr (gxo.wr ho (by simp)) (by simp)) (by simp)) (by simp))
                · refine fo_if fo_eq Q (fun Q => ?_) (fun Q => ?_)
                  · rw [Q.2]; exact (gxo.wr (gxo.wr (gxo.wr (gxo.wr ho (by simp)) (by simp)) (by simp)) (by simp))
                  · refine fo_if fo_eq Q (fun Q => ?_) (fun Q => ?_)
                    · rw [Q.2]; exact (gxo.wr (gxo.wr (gxo.wr (gxo.wr ho (by simp)) (by simp)) (by simp)) (by simp))
                    · refine fo_if fo_eq Q (fun Q => ?_) (fun Q => ?_)
                      · rw [Q.2]; exact (gxo.wr (gxo.wr (gxo.wr (gxo.wr ho (by simp)) (by simp)) (by simp)) (by simp))
                      · refine fo_if fo_eq Q (fun Q => ?_) (fun Q => ?_)
                        · rw [Q.2]; exact (gxo.wr (gxo.wr (gxo.wr (gxo.wr ho (by simp)) (by simp)) (by simp)) (by simp))
                        · refine fo_if fo_eq Q (fun Q => ?_) (fun Q => ?_)
                          · rw [Q.2]; exact (gxo.wr (gxo.wr (gxo.wr (gxo.wr ho (by simp)) (by simp)) (by simp)) (by simp))
                          · refine fo_if fo_eq Q (fun Q => ?_) (fun Q => ?_)
                            · rw [Q.2]; exact (gxo.wr (gxo.wr (gxo.wr (gxo.wr ho (by simp)) (by simp)) (by simp)) (by simp))
                            · refine fo_if fo_ne Q (fun Q => ?_) (fun Q => ?_)
                              · rw [Q.2]; exact (gxo.wr (gxo.wr (gxo.wr (gxo.wr ho (by simp)) (by simp)) (by simp)) (by simp))
                              · rw [Q.2]; exact (gxo.wr (gxo.wr (gxo.wr (gxo.wr ho (by simp)) (by simp)) (by simp)) (by simp))
              · refine fo_if fo_lt Q (fun Q => ?_) (fun Q => ?_)
                · refine fo_if fo_eq Q (fun Q => ?_) (fun Q => ?_)
                  · rw [Q.2]; exact (gxo.wr (gxo.wr (gxo.wr (gxo.wr ho (by simp)) (by simp)) (by simp)) (by simp))
                  · refine fo_if fo_eq Q (fun Q => ?_) (fun Q => ?_)
                    · rw [Q.2]; exact (gxo.wr (gxo.wr (gxo.wr (gxo.wr ho (by simp)) (by simp)) (by simp)) (by simp))
                    · refine fo_if fo_eq Q (fun Q => ?_) (fun Q => ?_)
                      · rw [Q.2]; exact (gxo.wr (gxo.wr (gxo.wr (gxo.wr ho (by simp)) (by simp)) (by simp)) (by simp))
                      · refine fo_if fo_eq Q (fun Q => ?_) (fun Q => ?_)
                        · rw [Q.2]; exact (gxo.wr (gxo.wr (gxo.wr (gxo.wr ho (by simp)) (by simp)) (by simp)) (by simp))
                        · refine fo_if fo_eq Q (fun Q => ?_) (fun Q => ?_)
                          · rw [Q.2]; exact (gxo.wr (gxo.wr (gxo.wr (gxo.wr ho (by simp)) (by simp)) (by simp)) (by simp))
                          · refine fo_if fo_eq Q (fun Q => ?_) (fun Q => ?_)
                            · rw [Q.2]; exact (gxo.wr (gxo.wr (gxo.wr (gxo.wr ho (by simp)) (by simp)) (by simp)) (by simp))
                            · refine fo_if fo_eq Q (fun Q => ?_) (fun Q => ?_)
                              · rw [Q.2]; exact (gxo.wr (gxo.wr (gxo.wr (gxo.wr ho (by simp)) (by simp)) (by simp)) (by simp))
                              · refine fo_if fo_ne Q (fun Q => ?_) (fun Q => ?_)
                                · rw [Q.2]; exact (gxo.wr (gxo.wr (gxo.wr (gxo.wr ho (by simp)) (by simp)) (by simp)) (by simp))
                                · rw [Q.2]; exact (gxo.wr (gxo.wr (gxo.wr (gxo.wr ho (by simp)) (by simp)) (by simp)) (by simp))
                · obtain ⟨m, hm, hR⟩ := Q
                  exact (ih m hm).2.2 _ hR (gxo.wr (gxo.wr (gxo.wr (gxo.wr (gxo.wr ho (by simp)) (by simp)) (by simp)) (by simp)) (by simp))
            · refine fo_if fo_lt Q (fun Q => ?_) (fun Q => ?_)
              · refine fo_if fo_lt Q (fun Q => ?_) (fun Q => ?_)
                · refine fo_if fo_eq Q (fun Q => ?_) (fun Q => ?_)
                  · rw [Q.2]; exact (gxo.wr (gxo.wr (gxo.wr (gxo.wr ho (by simp)) (by simp)) (by simp)) (by simp))
                  · refine fo_if fo_eq Q (fun Q => ?_) (fun Q => ?_)
                    · rw [Q.2]; exact (gxo.wr (gxo.wr (gxo.wr (gxo.wr ho (by simp)) (by simp)) (by simp)) (by simp))
                    · refine fo_if fo_eq Q (fun Q => ?_) (fun Q => ?_)
                      · rw [Q.2]; exact (gxo.wr (gxo.wr (gxo.wr (gxo.wr ho (by simp)) (by simp)) (by simp)) (by simp))
                      · refine fo_if fo_eq Q (fun Q => ?_) (fun Q => ?_)
                        · rw [Q.2]; exact (gxo.wr (gxo.wr (gxo.wr (gxo.wr ho (by simp)) (by simp)) (by simp)) (by simp))
                        · refine fo_if fo_eq Q (fun Q => ?_) (fun Q => ?_)
                          · rw [Q.2]; exact (gxo.wr (gxo.wr (gxo.wr (gxo.wr ho (by simp)) (by simp)) (by simp)) (by simp))
                          · refine fo_if fo_eq Q (fun Q => ?_) (fun Q => ?_)
                            · rw [Q.2]; exact (gxo.wr (gxo.wr (gxo.wr (gxo.wr ho (by simp)) (by simp)) (by simp)) (by simp))
                            · refine fo_if fo_eq Q (fun Q => ?_) (fun Q => ?_)
                              · rw [Q.2]; exact (gxo.wr (gxo.wr (gxo.wr (gxo.wr ho (by simp)) (by simp)) (by simp)) (by simp))
                              · refine fo_if fo_ne Q (fun Q => ?_) (fun Q => ?_)
                                · rw [Q.2]; exact (gxo.wr (gxo.wr (gxo.wr (gxo.wr ho (by simp)) (by simp)) (by simp)) (by simp))
                                · rw [Q.2]; exact (gxo.wr (gxo.wr (gxo.wr (gxo.wr ho (by simp)) (by simp)) (by simp)) (by simp))
                · refine fo_if fo_lt Q (fun Q => ?_) (fun Q => ?_)
                  · refine fo_if fo_eq Q (fun Q => ?_) (fun Q => ?_)
                    · rw [Q.2]; exact (gxo.wr (gxo.wr (gxo.wr (gxo.wr ho (by simp)) (by simp)) (by simp)) (by simp))
                    · refine fo_if fo_eq Q (fun Q => ?_) (fun Q => ?_)
                      · rw [Q.2]; exact (gxo.wr (gxo.wr (gxo.wr (gxo.wr ho (by simp)) (by simp)) (by simp)) (by simp))
                      · refine fo_if fo_eq Q (fun Q => ?_) (fun Q => ?_)
                        · rw [Q.2]; exact (gxo.wr (gxo.wr (gxo.wr (gxo.wr ho (by simp)) (by simp)) (by simp)) (by simp))
                        · refine fo_if fo_eq Q (fun Q => ?_) (fun Q => ?_)
                          · rw [Q.2]; exact (gxo.wr (gxo.wr (gxo.wr (gxo.wr ho (by simp)) (by simp)) (by simp)) (by simp))
                          · refine fo_if fo_eq Q (fun Q => ?_) (fun Q => ?_)
                            · rw [Q.2]; exact (gxo.wr (gxo.wr (gxo.wr (gxo.wr ho (by simp)) (by simp)) (by simp)) (by simp))
                            · refine fo_if fo_eq Q (fun Q => ?_) (fun Q => ?_)
                              · rw [Q.2]; exact (gxo.wr (gxo.wr (gxo.wr (gxo.wr ho (by simp)) (by simp)) (by simp)) (by simp))
                              · refine fo_if fo_eq Q (fun Q => ?_) (fun Q => ?_)
                                · rw [Q.2]; exact (gxo.wr (gxo.wr (gxo.wr (gxo.wr ho (by simp)) (by simp)) (by simp)) (by simp))
                                · refine fo_if fo_ne Q (fun Q => ?_) (fun Q => ?_)
                                  · rw [Q.2]; exact (gxo.wr (gxo.wr (gxo.wr (gxo.wr ho (by simp)) (by simp)) (by simp)) (by simp))
                                  · rw [Q.2]; exact (gxo.wr (gxo.wr (gxo.wr (gxo.wr ho (by simp)) (by simp)) (by simp)) (by simp))
                  · obtain ⟨m, hm, hR⟩ := Q
                    exact (ih m hm).2.2 _ hR (gxo.wr (gxo.wr (gxo.wr (gxo.wr (gxo.wr ho (by simp)) (by simp)) (by simp)) (by simp)) (by simp))
              · obtain ⟨m, hm, hR⟩ := Q
                exact (ih m hm).2.1 _ hR (gxo.wr (gxo.wr (gxo.wr (gxo.wr ho (by simp)) (by simp)) (by simp)) (by simp))
          · rw [Q.2]; exact (gxo.wr (gxo.wr (gxo.wr ho (by simp)) (by simp)) (by simp))
        · refine fo_if fo_eq Q (fun Q => ?_) (fun Q => ?_)
          · obtain ⟨m, hm, hR⟩ := Q
            exact (ih m hm).1 _ hR (gxo.wr ho (by simp))
          · refine fo_if fo_ne Q (fun Q => ?_) (fun Q => ?_)
            · refine fo_if fo_lt Q (fun Q => ?_) (fun Q => ?_)
              · refine fo_if fo_lt Q (fun Q => ?_) (fun Q => ?_)
                · refine fo_if fo_lt Q (fun Q => ?_) (fun Q => ?_)
                  · refine fo_if fo_eq Q (fun Q => ?_) (fun Q => ?_)
                    · rw [Q.2]; exact (gxo.wr (gxo.wr (gxo.wr (gxo.wr ho (by simp)) (by simp)) (by simp)) (by simp))
                    · refine fo_if fo_eq Q (fun Q => ?_) (fun Q => ?_)
                      · rw [Q.2]; exact (gxo.wr (gxo.wr (gxo.wr (gxo.wr ho (by simp)) (by simp)) (by simp)) (by simp))
                      · refine fo_if fo_eq Q (fun Q => ?_) (fun Q => ?_)
                        · rw [Q.2]; exact (gxo.wr (gxo.wr (gxo.wr (gxo.wr ho (by simp)) (by simp)) (by simp)) (by simp))
                        · refine fo_if fo_eq Q (fun Q => ?_) (fun Q => ?_)
                          · rw [Q.2]; exact (gxo.wr (gxo.wr (gxo.wr (gxo.wr ho (by simp)) (by simp)) (by simp)) (by simp))
                          · refine fo_if fo_eq Q (fun Q => ?_) (fun Q => ?_)
                            · rw [Q.2]; exact (gxo.wr (gxo.wr (gxo.wr (gxo.wr ho (by simp)) (by simp)) (by simp)) (by simp))
                            · refine fo_if fo_eq Q (fun Q => ?_) (fun Q => ?_)
                              · rw [Q.2]; exact (gxo.wr (gxo.wr (gxo.wr (gxo.wr ho (by simp)) (by simp)) (by simp)) (by simp))
                              · refine fo_if fo_eq Q (fun Q => ?_) (fun Q => ?_)
                                · rw [Q.2]; exact (gxo.wr (gxo.wr (gxo.wr (gxo.wr ho (by simp)) (by simp)) (by simp)) (by simp))
                                · refine fo_if fo_ne Q (fun Q => ?_) (fun Q => ?_)
                                  · rw [Q.2]; exact (gxo.wr (gxo.wr (gxo.wr (gxo.wr ho (by simp)) (by simp)) (by simp)) (by simp))
                                  · rw [Q.2]; exact (gxo.wr (gxo.wr (gxo.wr (gxo.wr ho (by simp)) (by simp)) (by simp)) (by simp))
                  · refine fo_if fo_lt Q (fun Q => ?_) (fun Q => ?_)
                    · refine fo_if fo_eq Q (fun Q => ?_) (fun Q => ?_)
                      · rw [Q.2]; exact (gxo.wr (gxo.wr (gxo.wr (gxo.wr ho (by simp)) (by simp)) (by simp)) (by simp))
                      · refine fo_if fo_eq Q (fun Q => ?_) (fun Q => ?_)
                        · rw [Q.2]; exact (gxo.wr (gxo.wr (gxo.wr (gxo.wr ho (by simp)) (by simp)) (by simp)) (by simp))
                        · refine fo_if fo_eq Q (fun Q => ?_) (fun Q => ?_)
                          · rw [Q.2]; exact (gxo.wr (gxo.wr (gxo.wr (gxo.wr ho (by simp)) (by simp)) (by simp)) (by simp))
                          · refine fo_if fo_eq Q (fun Q => ?_) (fun Q => ?_)
                            · rw [Q.2]; exact (gxo.wr (gxo.wr (gxo.wr (gxo.wr ho (by simp)) (by simp)) (by simp)) (by simp))
                            · refine fo_if fo_eq Q (fun Q => ?_) (fun Q => ?_)
                              · rw [Q.2]; exact (gxo.wr (gxo.wr (gxo.wr (gxo.wr ho (by simp)) (by simp)) (by simp)) (by simp))
                              · refine fo_if fo_eq Q (fun Q => ?_) (fun Q => ?_)
                                · rw [Q.2]; exact (gxo.wr (gxo.wr (gxo.wr (gxo.wr ho (by simp)) (by simp)) (by simp)) (by simp))
                                · refine fo_if fo_eq Q (fun Q => ?_) (fun Q => ?_)
                                  · rw [Q.2]; exact (gxo.wr (gxo.wr (gxo.wr (gxo.wr ho (by simp)) (by simp)) (by simp)) (by simp))
                                  · refine fo_if fo_ne Q (fun Q => ?_) (fun Q => ?_)
                                    · rw [Q.2]; exact (gxo.wr (gxo.wr (gxo.wr (gxo.wr ho (by simp)) (by simp)) (by simp)) (by simp))
                                    · rw [Q.2]; exact (gxo.wr (gxo.wr (gxo.wr (gxo.wr ho (by simp)) (by simp)) (by simp)) (by simp))
                    · obtain ⟨m, hm, hR⟩ := Q
                      exact (ih m hm).2.2 _ hR (gxo.wr (gxo.wr (gxo.wr (gxo.wr (gxo.wr ho (by simp)) (by simp)) (by simp)) (by simp)) (by simp))
                · refine fo_if fo_lt Q (fun Q => ?_) (fun Q => ?_)
                  · refine fo_if fo_lt Q (fun Q => ?_) (fun Q => ?_)
                    · refine fo_if fo_eq Q (fun Q => ?_) (fun Q => ?_)
                      · rw [Q.2]; exact (gxo.wr (gxo.wr (gxo.wr (gxo.wr ho (by simp)) (by simp)) (by simp)) (by simp))
                      · refine fo_if fo_eq Q (fun Q => ?_) (fun Q => ?_)
                        · rw [Q.2]; exact (gxo.wr (gxo.wr (gxo.wr (gxo.wr ho (by simp)) (by simp)) (by simp)) (by simp))
                        · refine fo_if fo_eq Q (fun Q => ?_) (fun Q => ?_)
                          · rw [Q.2]; exact (gxo.wr (gxo.wr (gxo.wr (gxo.wr ho (by simp)) (by simp)) (by simp)) (by simp))
                          · refine fo_if fo_eq Q (fun Q => ?_) (fun Q => ?_)
                            · rw [Q.2]; exact (gxo.wr (gxo.wr (gxo.wr (gxo.wr ho (by simp)) (by simp)) (by simp)) (by simp))
                            · refine fo_if fo_eq Q (fun Q => ?_) (fun Q => ?_)
                              · rw [Q.2]; exact (gxo.wr (gxo.wr (gxo.wr (gxo.wr ho (by simp)) (by simp)) (by simp)) (by simp))
                              · refine fo_if fo_eq Q (fun Q => ?_) (fun Q => ?_)
                                · rw [Q.2]; exact (gxo.wr (gxo.wr (gxo.wr (gxo.wr ho (by simp)) (by simp)) (by simp)) (by simp))
                                · refine fo_if fo_eq Q (fun Q => ?_) (fun Q => ?_)
                                  · rw [Q.2]; exact (gxo.wr (gxo.wr (gxo.wr (gxo.wr ho (by simp)) (by simp)) (by simp)) (by simp))
                                  · refine fo_if fo_ne Q (fun Q => ?_) (fun Q => ?_)
                                    · rw [Q.2]; exact (gxo.wr (gxo.wr (gxo.wr (gxo.wr ho (by simp)) (by simp)) (by simp)) (by simp))
                                    · rw [Q.2]; exact (gxo.wr (gxo.wr (gxo.wr (gxo.wr ho (by simp)) (by simp)) (by simp)) (by simp))
                    · refine fo_if fo_lt Q (fun Q => ?_) (fun Q => ?_)
                      · refine fo_if fo_eq Q (fun Q => ?_) (fun Q => ?_)
                        · rw [Q.2]; exact (gxo.wr (gxo.wr (gxo.wr (gxo.wr ho (by simp)) (by simp)) (by simp)) (by simp))
                        · refine fo_if fo_eq Q (fun Q => ?_) (fun Q => ?_)
                          · rw [Q.2]; exact (gxo.wr (gxo.wr (gxo.wr (gxo.wr ho (by simp)) (by simp)) (by simp)) (by simp))
                          · refine fo_if fo_eq Q (fun Q => ?_) (fun Q => ?_)
                            · rw [Q.2]; exact (gxo.wr (gxo.wr (gxo.wr (gxo.wr ho (by simp)) (by simp)) (by simp)) (by simp))
                            · refine fo_if fo_eq Q (fun Q => ?_) (fun Q => ?_)
                              · rw [Q.2]; exact (gxo.wr (gxo.wr (gxo.wr (gxo.wr ho (by simp)) (by simp)) (by simp)) (by simp))
                              · refine fo_if fo_eq Q (fun Q => ?_) (fun Q => ?_)
                                · rw [Q.2]; exact (gxo.wr (gxo.wr (gxo.wr (gxo.wr ho (by simp)) (by simp)) (by simp)) (by simp))
                                · refine fo_if fo_eq Q (fun Q => ?_) (fun Q => ?_)
                                  · rw [Q.2]; exact (gxo.wr (gxo.wr (gxo.wr (gxo.wr ho (by simp)) (by simp)) (by simp)) (by simp))
                                  · refine fo_if fo_eq Q (fun Q => ?_) (fun Q => ?_)
                                    · rw [Q.2]; exact (gxo.wr (gxo.wr (gxo.wr (gxo.wr ho (by simp)) (by simp)) (by simp)) (by simp))
                                    · refine fo_if fo_ne Q (fun Q => ?_) (fun Q => ?_)
                                      · rw [Q.2]; exact (gxo.wr (gxo.wr (gxo.wr (gxo.wr ho (by simp)) (by simp)) (by simp)) (by simp))
                                      · rw [Q.2]; exact (gxo.wr (gxo.wr (gxo.wr (gxo.wr ho (by simp)) (by simp)) (by simp)) (by simp))
                      · obtain ⟨m, hm, hR⟩ := Q
                        exact (ih m hm).2.2 _ hR (gxo.wr (gxo.wr (gxo.wr (gxo.wr (gxo.wr ho (by simp)) (by simp)) (by simp)) (by simp)) (by simp))
                  · obtain ⟨m, hm, hR⟩ := Q
                    exact (ih m hm).2.1 _ hR (gxo.wr (gxo.wr (gxo.wr (gxo.wr ho (by simp)) (by simp)) (by simp)) (by simp))
              · rw [Q.2]; exact (gxo.wr (gxo.wr (gxo.wr ho (by simp)) (by simp)) (by simp))
            · obtain ⟨m, hm, hR⟩ := Q
              exact (ih m hm).1 _ hR (gxo.wr ho (by simp))
      · have Q := q_Rd_advance_119 h
        clear h
        refine fo_if fo_le Q (fun Q => ?_) (fun Q => ?_)
        · rw [Q.2]; exact ho
        · refine fo_if fo_lt Q (fun Q => ?_) (fun Q => ?_)
          · rw [Q.2]; exact ho
          · refine fo_if fo_lt Q (fun Q => ?_) (fun Q => ?_)
            · rw [Q.2]; exact ho
            · obtain ⟨m, hm, hR⟩ := Q
              exact (ih m hm).2.1 _ hR (gxo.wr ho (by simp))
      · have Q := q_Rd_advance_196 h
        clear h
        refine fo_if fo_le Q (fun Q => ?_) (fun Q => ?_)
        · rw [Q.2]; exact ho
        · refine fo_if fo_lt Q (fun Q => ?_) (fun Q => ?_)
          · rw [Q.2]; exact ho
          · refine fo_if fo_lt Q (fun Q => ?_) (fun Q => ?_)
            · rw [Q.2]; exact ho
            · obtain ⟨m, hm, hR⟩ := Q
              exact (ih m hm).2.2 _ hR (gxo.wr (gxo.wr ho (by simp)) (by simp))
  have Q := q_Rd_advance_0 h
  refine fo_if fo_le Q (fun Q => ?_) (fun Q => ?_)
  · refine fo_if fo_lt Q (fun Q => ?_) (fun Q => ?_)
    · refine fo_if fo_lt Q (fun Q => ?_) (fun Q => ?_)
      · refine fo_if fo_lt Q (fun Q => ?_) (fun Q => ?_)
        · refine fo_if fo_eq Q (fun Q => ?_) (fun Q => ?_)
          · rw [Q.2]; exact (gxo.wr (gxo.wr (gxo.wr (gxo.wr gxo.rf (by simp)) (by simp)) (by simp)) (by simp))
          · refine fo_if fo_eq Q (fun Q => ?_) (fun Q => ?_)
            · rw [Q.2]; exact (gxo.wr (gxo.wr (gxo.wr (gxo.wr gxo.rf (by simp)) (by simp)) (by simp)) (by simp))
            · refine fo_if fo_eq Q (fun Q => ?_) (fun Q => ?_)
              · rw [Q.2]; exact (gxo.wr (gxo.wr (gxo.wr (gxo.wr gxo.rf (by simp)) (by simp)) (by simp)) (by simp))
              · refine fo_if fo_eq Q (fun Q => ?_) (fun Q => ?_)
                · rw [Q.2]; exact (gxo.wr (gxo.wr (gxo.wr (gxo.wr gxo.rf (by simp)) (by simp)) (by simp)) (by simp))
                · refine fo_if fo_eq Q (fun Q => ?_) (fun Q => ?_)
                  · rw [Q.2]; exact (gxo.wr (gxo.wr (gxo.wr (gxo.wr gxo.rf (by simp)) (by simp)) (by simp)) (by simp))
                  · refine fo_if fo_eq Q (fun Q => ?_) (fun Q => ?_)
                    · rw [Q.2]; exact (gxo.wr (gxo.wr (gxo.wr (gxo.wr gxo.rf (by simp)) (by simp)) (by simp)) (by simp))
                    · refine fo_if fo_eq Q (fun Q => ?_) (fun Q => ?_)
                      · rw [Q.2]; exact (gxo.wr (gxo.wr (gxo.wr (gxo.wr gxo.rf (by simp)) (by simp)) (by simp)) (by simp))
                      · refine fo_if fo_ne Q (fun Q => ?_) (fun Q => ?_)
                        · rw [Q.2]; exact (gxo.wr (gxo.wr (gxo.wr (gxo.wr gxo.rf (by simp)) (by simp)) (by simp)) (by simp))
                        · rw [Q.2]; exact (gxo.wr (gxo.wr (gxo.wr (gxo.wr gxo.rf (by simp)) (by simp)) (by simp)) (by simp))
        · refine fo_if fo_lt Q (fun Q => ?_) (fun Q => ?_)
          · refine fo_if fo_eq Q (fun Q => ?_) (fun Q => ?_)
            · rw [Q.2]; exact (gxo.wr (gxo.wr (gxo.wr (gxo.wr gxo.rf (by simp)) (by simp)) (by simp)) (by simp))
            · refine fo_if fo_eq Q (fun Q => ?_) (fun Q => ?_)
              · rw [Q.2]; exact (gxo.wr (gxo.wr (gxo.wr (gxo.wr gxo.rf (by simp)) (by simp)) (by simp)) (by simp))
              · refine fo_if fo_eq Q (fun Q => ?_) (fun Q => ?_)
                · rw [Q.2]; exact (gxo.wr (gxo.wr (gxo.wr (gxo.wr gxo.rf (by simp)) (by simp)) (by simp)) (by simp))
                · refine fo_if fo_eq Q (fun Q => ?_) (fun Q => ?_)
                  · rw [Q.2]; exact (gxo.wr (gxo.wr (gxo.wr (gxo.wr gxo.rf (by simp)) (by simp)) (by simp)) (by simp))
                  · refine fo_if fo_eq Q (fun Q => ?_) (fun Q => ?_)
                    · rw [Q.2]; exact (gxo.wr (gxo.wr (gxo.wr (gxo.wr gxo.rf (by simp)) (by simp)) (by simp)) (by simp))
                    · refine fo_if fo_eq Q (fun Q => ?_) (fun Q => ?_)
                      · rw [Q.2]; exact (gxo.wr (gxo.wr (gxo.wr (gxo.wr gxo.rf (by simp)) (by simp)) (by simp)) (by simp))
                      · refine fo_if fo_eq Q (fun Q => ?_) (fun Q => ?_)
                        · rw [Q.2]; exact (gxo.wr (gxo.wr (gxo.wr (gxo.wr gxo.rf (by simp)) (by simp)) (by simp)) (by simp))
                        · refine fo_if fo_ne Q (fun Q => ?_) (fun Q => ?_)
                          · rw [Q.2]; exact (gxo.wr (gxo.wr (gxo.wr (gxo.wr gxo.rf (by simp)) (by simp)) (by simp)) (by simp))
                          · rw [Q.2]; exact (gxo.wr (gxo.wr (gxo.wr (gxo.wr gxo.rf (by simp)) (by simp)) (by simp)) (by simp))
          · obtain ⟨m, hm, hR⟩ := Q
            exact (lp m).2.2 _ hR (gxo.wr (gxo.wr (gxo.wr (gxo.wr (gxo.wr gxo.rf (by simp)) (by simp)) (by simp)) (by simp)) (by simp))
      · refine fo_if fo_lt Q (fun Q => ?_) (fun Q => ?_)
        · refine fo_if fo_lt Q (fun Q => ?_) (fun Q => ?_)
          · refine fo_if fo_eq Q (fun Q => ?_) (fun Q => ?_)
            · rw [Q.2]; exact (gxo.wr (gxo.wr (gxo.wr (gxo.wr gxo.rf (by simp)) (by simp)) (by simp)) (by simp))
            · refine fo_if fo_eq Q (fun Q => ?_) (fun Q => ?_)
              · rw [Q.2]; exact (gxo.wr (gxo.wr (gxo.wr (gxo.wr gxo.rf (by simp)) (by simp)) (by simp)) (by simp))
              · refine fo_if fo_eq Q (fun Q => ?_) (fun Q => ?_)
                · rw [Q.2]; exact (gxo.wr (gxo.wr (gxo.wr (gxo.wr gxo.rf (by simp)) (by simp)) (by simp)) (by simp))
                · refine fo_if fo_eq Q (fun Q => ?_) (fun Q => ?_)
                  · rw [Q.2]; exact (gxo.wr (gxo.wr (gxo.wr (gxo.wr gxo.rf (by simp)) (by simp)) (by simp)) (by simp))
                  · refine fo_if fo_eq Q (fun Q => ?_) (fun Q => ?_)
                    · rw [Q.2]; exact (gxo.wr (gxo.wr (gxo.wr (gxo.wr gxo.rf (by simp)) (by simp)) (by simp)) (by simp))
                    · refine fo_if fo_eq Q (fun Q => ?_) (fun Q => ?_)
                      · rw [Q.2]; exact (gxo.wr (gxo.wr (gxo.wr (gxo.wr gxo.rf (by simp)) (by simp)) (by simp)) (by simp))
                      · refine fo_if fo_eq Q (fun Q => ?_) (fun Q => ?_)
                        · rw [Q.2]; exact (gxo.wr (gxo.wr (gxo.wr (gxo.wr gxo.rf (by simp)) (by simp)) (by simp)) (by simp))
                        · refine fo_if fo_ne Q (fun Q => ?_) (fun Q => ?_)
                          · rw [Q.2]; exact (gxo.wr (gxo.wr (gxo.wr (gxo.wr gxo.rf (by simp)) (by simp)) (by simp)) (by simp))
                          · rw [Q.2]; exact (gxo.wr (gxo.wr (gxo.wr (gxo.wr gxo.rf (by simp)) (by simp)) (by simp)) (by simp))
          · refine fo_if fo_lt Q (fun Q => ?_) (fun Q => ?_)
            · refine fo_if fo_eq Q (fun Q => ?_) (fun Q => ?_)
              · rw [Q.2]; exact (gxo.wr (gxo.wr (gxo.wr (gxo.wr gxo.rf (by simp)) (by simp)) (by simp)) (by simp))
              · refine fo_if fo_eq Q (fun Q => ?_) (fun Q => ?_)
                · rw [Q.2]; exact (gxo.wr (gxo.wr (gxo.wr (gxo.wr gxo.rf (by simp)) (by simp)) (by simp)) (by simp))
                · refine fo_if fo_eq Q (fun Q => ?_) (fun Q => ?_)
                  · rw [Q.2]; exact (gxo.wr (gxo.wr (gxo.wr (gxo.wr gxo.rf (by simp)) (by simp)) (by simp)) (by simp))
                  · refine fo_if fo_eq Q (fun Q => ?_) (fun Q => ?_)
                    · rw [Q.2]; exact (gxo.wr (gxo.wr (gxo.wr (gxo.wr gxo.rf (by simp)) (by simp)) (by simp)) (by simp))
                    · refine fo_if fo_eq Q (fun Q => ?_) (fun Q => ?_)
                      · rw [Q.2]; exact (gxo.wr (gxo.wr (gxo.wr (gxo.wr gxo.rf (by simp)) (by simp)) (by simp)) (by simp))
                      · refine fo_if fo_eq Q (fun Q => ?_) (fun Q => ?_)
                        · rw [Q.2]; exact (gxo.wr (gxo.wr (gxo.wr (gxo.wr gxo.rf (by simp)) (by simp)) (by simp)) (by simp))
                        · refine fo_if fo_eq Q (fun Q => ?_) (fun Q => ?_)
                          · rw [Q.2]; exact (gxo.wr (gxo.wr (gxo.wr (gxo.wr gxo.rf (by simp)) (by simp)) (by simp)) (by simp))
                          · refine fo_if fo_ne Q (fun Q => ?_) (fun Q => ?_)
                            · rw [Q.2]; exact (gxo.wr (gxo.wr (gxo.wr (gxo.wr gxo.rf (by simp)) (by simp)) (by simp)) (by simp))
                            · rw [Q.2]; exact (gxo.wr (gxo.wr (gxo.wr (gxo.wr gxo.rf (by simp)) (by simp)) (by simp)) (by simp))
            · obtain ⟨m, hm, hR⟩ := Q
              exact (lp m).2.2 _ hR (gxo.wr (gxo.wr (gxo.wr (gxo.wr (gxo.wr gxo.rf (by simp)) (by simp)) (by simp)) (by simp)) (by simp))
        · obtain ⟨m, hm, hR⟩ := Q
          exact (lp m).2.1 _ hR (gxo.wr (gxo.wr (gxo.wr (gxo.wr gxo.rf (by simp)) (by simp)) (by simp)) (by simp))
    · rw [Q.2]; exact (gxo.wr (gxo.wr (gxo.wr gxo.rf (by simp)) (by simp)) (by simp))
  · refine fo_if fo_eq Q (fun Q => ?_) (fun Q => ?_)
    · obtain ⟨m, hm, hR⟩ := Q
      exact (lp m).1 _ hR (gxo.wr gxo.rf (by simp))
    · refine fo_if fo_ne Q (fun Q => ?_) (fun Q => ?_)
      · refine fo_if fo_lt Q (fun Q => ?_) (fun Q => ?_)
        · refine fo_if fo_lt Q (fun Q => ?_) (fun Q => ?_)
          · refine fo_if fo_lt Q (fun Q => ?_) (fun Q => ?_)
            · refine fo_if fo_eq Q (fun Q => ?_) (fun Q => ?_)
              · rw [Q.2]; exact (gxo.wr (gxo.wr (gxo.wr (gxo.wr gxo.rf (by simp)) (by simp)) (by simp)) (by simp))
              · refine fo_if fo_eq Q (fun Q => ?_) (fun Q => ?_)
                · rw [Q.2]; exact (gxo.wr (gxo.wr (gxo.wr (gxo.wr gxo.rf (by simp)) (by simp)) (by simp)) (by simp))
                · refine fo_if fo_eq Q (fun Q => ?_) (fun Q => ?_)
                  · rw [Q.2]; exact (gxo.wr (gxo.wr (gxo.wr (gxo.wr gxo.rf (by simp)) (by simp)) (by simp)) (by simp))
                  · refine fo_if fo_eq Q (fun Q => ?_) (fun Q => ?_)
                    · rw [Q.2]; exact (gxo.wr (gxo.wr (gxo.wr (gxo.wr gxo.rf (by simp)) (by simp)) (by simp)) (by simp))
                    · refine fo_if fo_eq Q (fun Q => ?_) (fun Q => ?_)
                      · rw [Q.2]; exact (gxo.wr (gxo.wr (gxo.wr (gxo.wr gxo.rf (by simp)) (by simp)) (by simp)) (by simp))
                      · refine fo_if fo_eq Q (fun Q => ?_) (fun Q => ?_)
                        · rw [Q.2]; exact (gxo.wr (gxo.wr (gxo.wr (gxo.wr gxo.rf (by simp)) (by simp)) (by simp)) (by simp))
                        · refine fo_if fo_eq Q (fun Q => ?_) (fun Q => ?_)
                          · rw [Q.2]; exact (gxo.wr (gxo.wr (gxo.wr (gxo.wr gxo.rf (by simp)) (by simp)) (by simp)) (by simp))
                          · refine fo_if fo_ne Q (fun Q => ?_) (fun Q => ?_)
                            · rw [Q.2]; exact (gxo.wr (gxo.wr (gxo.wr (gxo.wr gxo.rf (by simp)) (by simp)) (by simp)) (by simp))
                            · rw [Q.2]; exact (gxo.wr (gxo.wr (gxo.wr (gxo.wr gxo.rf (by simp)) (by simp)) (by simp)) (by simp))
            · refine fo_if fo_lt Q (fun Q => ?_) (fun Q => ?_)
              · refine fo_if fo_eq Q (fun Q => ?_) (fun Q => ?_)
                · rw [Q.2]; exact (gxo.wr (gxo.wr (gxo.wr (gxo.wr gxo.rf (by simp)) (by simp)) (by simp)) (by simp))
                · refine fo_if fo_eq Q (fun Q => ?_) (fun Q => ?_)
                  · rw [Q.2]; exact (gxo.wr (gxo.wr (gxo.wr (gxo.wr gxo.rf (by simp)) (by simp)) (by simp)) (by simp))
                  · refine fo_if fo_eq Q (fun Q => ?_) (fun Q => ?_)
                    · rw [Q.2]; exact (gxo.wr (gxo.wr (gxo.wr (gxo.wr gxo.rf (by simp)) (by simp)) (by simp)) (by simp))
                    · refine fo_if fo_eq Q (fun Q => ?_) (fun Q => ?_)
                      · rw [Q.2]; exact (gxo.wr (gxo.wr (gxo.wr (gxo.wr gxo.rf (by simp)) (by simp)) (by simp)) (by simp))
                      · refine fo_if fo_eq Q (fun Q => ?_) (fun Q => ?_)
                        · rw [Q.2]; exact (gxo.wr (gxo.wr (gxo.wr (gxo.wr gxo.rf (by simp)) (by simp)) (by simp)) (by simp))
                        · refine fo_if fo_eq Q (fun Q => ?_) (fun Q => ?_)
                          · rw [Q.2]; exact (gxo.wr (gxo.wr (gxo.wr (gxo.wr gxo.rf (by simp)) (by simp)) (by simp)) (by simp))
                          · refine fo_if fo_eq Q (fun Q => ?_) (fun Q => ?_)
                            · rw [Q.2]; exact (gxo.wr (gxo.wr (gxo.wr (gxo.wr gxo.rf (by simp)) (by simp)) (by simp)) (by simp))
                            · refine fo_if fo_ne Q (fun Q => ?_) (fun Q => ?_)
                              · rw [Q.2]; exact (gxo.wr (gxo.wr (gxo.wr (gxo.wr gxo.rf (by simp)) (by simp)) (by simp)) (by simp))
                              · rw [Q.2]; exact (gxo.wr (gxo.wr (gxo.wr (gxo.wr gxo.rf (by simp)) (by simp)) (by simp)) (by simp))
              · obtain ⟨m, hm, hR⟩ := Q
                exact (lp m).2.2 _ hR (gxo.wr (gxo.wr (gxo.wr (gxo.wr (gxo.wr gxo.rf (by simp)) (by simp)) (by simp)) (by simp)) (by simp))
          · refine fo_if fo_lt Q (fun Q => ?_) (fun Q => ?_)
            · refine fo_if fo_lt Q (fun Q => ?_) (fun Q => ?_)
              · refine fo_if fo_eq Q (fun Q => ?_) (fun Q => ?_)
                · rw [Q.2]; exact (gxo.wr (gxo.wr (gxo.wr (gxo.wr gxo.rf (by simp)) (by simp)) (by simp)) (by simp))
                · refine fo_if fo_eq Q (fun Q => ?_) (fun Q => ?_)
                  · rw [Q.2]; exact (gxo.wr (gxo.wr (gxo.wr (gxo.wr gxo.rf (by simp)) (by simp)) (by simp)) (by simp))
                  · refine fo_if fo_eq Q (fun Q => ?_) (fun Q => ?_)
                    · rw [Q.2]; exact (gxo.wr (gxo.wr (gxo.wr (gxo.wr gxo.rf (by simp)) (by simp)) (by simp)) (by simp))
                    · refine fo_if fo_eq Q (fun Q => ?_) (fun Q => ?_)
                      · rw [Q.2]; exact (gxo.wr (gxo.wr (gxo.wr (gxo.wr gxo.rf (by simp)) (by simp)) (by simp)) (by simp))
                      · refine fo_if fo_eq Q (fun Q => ?_) (fun Q => ?_)
                        · rw [Q.2]; exact (gxo.wr (gxo.wr (gxo.wr (gxo.wr gxo.rf (by simp)) (by simp)) (by simp)) (by simp))
                        · refine fo_if fo_eq Q (fun Q => ?_) (fun Q => ?_)
                          · rw [Q.2]; exact (gxo.wr (gxo.wr (gxo.wr (gxo.wr gxo.rf (by simp)) (by simp)) (by simp)) (by simp))
                          · refine fo_if fo_eq Q (fun Q => ?_) (fun Q => ?_)
                            · rw [Q.2]; exact (gxo.wr (gxo.wr (gxo.wr (gxo.wr gxo.rf (by simp)) (by simp)) (by simp)) (by simp))
                            · refine fo_if fo_ne Q (fun Q => ?_) (fun Q => ?_)
                              · rw [Q.2]; exact (gxo.wr (gxo.wr (gxo.wr (gxo.wr gxo.rf (by simp)) (by simp)) (by simp)) (by simp))
                              · rw [Q.2]; exact (gxo.wr (gxo.wr (gxo.wr (gxo.wr gxo.rf (by simp)) (by simp)) (by simp)) (by simp))
              · refine fo_if fo_lt Q (fun Q => ?_) (fun Q => ?_)
                · refine fo_if fo_eq Q (fun Q => ?_) (fun Q => ?_)
                  · rw [Q.2]; exact (gxo.wr (gxo.wr (gxo.wr (gxo.wr gxo.rf (by simp)) (by simp)) (by simp)) (by simp))
                  · refine fo_if fo_eq Q (fun Q => ?_) (fun Q => ?_)
                    · rw [Q.2]; exact (gxo.wr (gxo.wr (gxo.wr (gxo.wr gxo.rf (by simp)) (by simp)) (by simp)) (by simp))
                    · refine fo_if fo_eq Q (fun Q => ?_) (fun Q => ?_)
                      · rw [Q.2]; exact (gxo.wr (gxo.wr (gxo.wr (gxo.wr gxo.rf (by simp)) (by simp)) (by simp)) (by simp))
                      · refine fo_if fo_eq Q (fun Q => ?_) (fun Q => ?_)
                        · rw [Q.2]; exact (gxo.wr (gxo.wr (gxo.wr (gxo.wr gxo.rf (by simp)) (by simp)) (by simp)) (by simp))
                        · refine fo_if fo_eq Q (fun Q => ?_) (fun Q => ?_)
                          · rw [Q.2]; exact (gxo.wr (gxo.wr (gxo.wr (gxo.wr gxo.rf (by simp)) (by simp)) (by simp)) (by simp))
                          · refine fo_if fo_eq Q (fun Q => ?_) (fun Q => ?_)
                            · rw [Q.2]; exact (gxo.wr (gxo.wr (gxo.wr (gxo.wr gxo.rf (by simp)) (by simp)) (by simp)) (by simp))
                            · refine fo_if fo_eq Q (fun Q => ?_) (fun Q => ?_)
                              · rw [Q.2]; exact (gxo.wr (gxo.wr (gxo.wr (gxo.wr gxo.rf (by simp)) (by simp)) (by simp)) (by simp))
                              · refine fo_if fo_ne Q (fun Q => ?_) (fun Q => ?_)
                                · rw [Q.2]; exact (gxo.wr (gxo.wr (gxo.wr (gxo.wr gxo.rf (by simp)) (by simp)) (by simp)) (by simp))
                                · rw [Q.2]; exact (gxo.wr (gxo.wr (gxo.wr (gxo.wr gxo.rf (by simp)) (by simp)) (by simp)) (by simp))
                · obtain ⟨m, hm, hR⟩ := Q
                  exact (lp m).2.2 _ hR (gxo.wr (gxo.wr (gxo.wr (gxo.wr (gxo.wr gxo.rf (by simp)) (by simp)) (by simp)) (by simp)) (by simp))
            · obtain ⟨m, hm, hR⟩ := Q
              exact (lp m).2.1 _ hR (gxo.wr (gxo.wr (gxo.wr (gxo.wr gxo.rf (by simp)) (by simp)) (by simp)) (by simp))
        · rw [Q.2]; exact (gxo.wr (gxo.wr (gxo.wr gxo.rf (by simp)) (by simp)) (by simp))
      · obtain ⟨m, hm, hR⟩ := Q
        exact (lp m).1 _ hR (gxo.wr gxo.rf (by simp))
theorem w_Rd_fail {a1 : Nat} {F : fx_F} {v : fx_V} {F' : fx_F} (h : Cl k_Rd_fail [(2, 10), (0, a1)] F v F') : gxo [10] [] F F' := by
  obtain ⟨n, h⟩ := c_Rd_fail h
  have Q := q_Rd_fail_0 h
  rw [Q.2]; exact (gxo.wr (gxo.wr gxo.rf (by simp)) (by simp))
theorem w_Rd_readSign {a1 : Nat} {F : fx_F} {v : fx_V} {F' : fx_F} (h : Cl k_Rd_readSign [(2, 10), (0, a1)] F v F') : gxo [10] [] F F' := by
  obtain ⟨n, h⟩ := c_Rd_readSign h
  have Q := q_Rd_readSign_0 h
  refine fo_if fo_eq Q (fun Q => ?_) (fun Q => ?_)
  · obtain ⟨H1, c1, Q⟩ := Q
    have o1 : gxo [10] [] F H1 := gxo.tr gxo.rf (gxo.mono (w_Rd_advance c1) (by intro q hq; simp at hq ⊢; try omega) (by intro q hq; simp at hq ⊢; try omega))
    rw [Q.2]; exact o1
  · obtain ⟨r2, H2, c2, Q⟩ := Q
    have o2 : gxo [10] [] F H2 := gxo.tr gxo.rf (gxo.mono (w_Rd_fail c2) (by intro q hq; simp at hq ⊢; try omega) (by intro q hq; simp at hq ⊢; try omega))
    rw [Q.2]; exact o2
theorem w_Rd_closeLine {F : fx_F} {v : fx_V} {F' : fx_F} (h : Cl k_Rd_closeLine [(2, 10)] F v F') : gxo [10] [] F F' := by
  obtain ⟨n, h⟩ := c_Rd_closeLine h
  have Q := q_Rd_closeLine_0 h
  obtain ⟨H1, c1, Q⟩ := Q
  have o1 : gxo [10] [] F H1 := gxo.tr gxo.rf (gxo.mono (w_Rd_advance c1) (by intro q hq; simp at hq ⊢; try omega) (by intro q hq; simp at hq ⊢; try omega))
  obtain ⟨r2, H2, c2, Q⟩ := Q
  have o2 : gxo [10] [] F H2 := gxo.tr o1 (gxo.mono (w_Rd_readSign c2) (by intro q hq; simp at hq ⊢; try omega) (by intro q hq; simp at hq ⊢; try omega))
  rw [Q.2]; exact o2
theorem w_Rd_isWord {a1 : Nat} {F : fx_F} {v : fx_V} {F' : fx_F} (h : Cl k_Rd_isWord [(2, 10), (2, a1)] F v F') : gxo [] [] F F' := by
  obtain ⟨n, h⟩ := c_Rd_isWord h
  have lp : ∀ n : Nat, (∀ (l1 l2 : Nat) (F2 : fx_F), Rn n k_Rd_isWord 28 [(2, 10), (2, l1), (0, l2)] [] F2 v F' → gxo [] [] F F2 → gxo [] [] F F') := by
    intro n
    induction n using Nat.strongRecOn with
    | ind n ih =>
      refine fun l1 l2 F2 h ho => ?_
      · have Q := q_Rd_isWord_28 h
        clear h
        obtain ⟨r1, Q⟩ := Q
        refine fo_if fo_le Q (fun Q => ?_) (fun Q => ?_)
        · rw [Q.2]; exact ho
        · obtain ⟨r2, Q⟩ := Q
          refine fo_if fo_eq Q (fun Q => ?_) (fun Q => ?_)
          · obtain ⟨m, hm, hR⟩ := Q
            exact (ih m hm) _ _ _ hR ho
          · rw [Q.2]; exact ho
  have Q := q_Rd_isWord_0 h
  refine fo_if fo_ne Q (fun Q => ?_) (fun Q => ?_)
  · rw [Q.2]; exact gxo.rf
  · obtain ⟨r1, Q⟩ := Q
    refine fo_if fo_eq Q (fun Q => ?_) (fun Q => ?_)
    · obtain ⟨m, hm, hR⟩ := Q
      exact (lp m) _ _ _ hR gxo.rf
    · rw [Q.2]; exact gxo.rf
theorem w_Net_joins {p a1 a2 : Nat} {F : fx_F} {v : fx_V} {F' : fx_F} (h : Cl k_Net_joins [(2, p), (0, a1), (0, a2)] F v F') : gxo [] [] F F' := by
  obtain ⟨n, h⟩ := c_Net_joins h
  have lp : ∀ n : Nat, (∀ (l1 l2 l3 : Nat) (F2 : fx_F), Rn n k_Net_joins 2 [(2, p), (0, l1), (0, l2), (0, l3)] [] F2 v F' → gxo [] [] F F2 → gxo [] [] F F') := by
    intro n
    induction n using Nat.strongRecOn with
    | ind n ih =>
      refine fun l1 l2 l3 F2 h ho => ?_
      · have Q := q_Net_joins_2 h
        clear h
        refine fo_if fo_le Q (fun Q => ?_) (fun Q => ?_)
        · rw [Q.2]; exact ho
        · refine fo_if fo_ne Q (fun Q => ?_) (fun Q => ?_)
          · obtain ⟨m, hm, hR⟩ := Q
            exact (ih m hm) _ _ _ _ hR ho
          · refine fo_if fo_ne Q (fun Q => ?_) (fun Q => ?_)
            · obtain ⟨m, hm, hR⟩ := Q
              exact (ih m hm) _ _ _ _ hR ho
            · rw [Q.2]; exact ho
  have Q := q_Net_joins_0 h
  obtain ⟨m, hm, hR⟩ := Q
  exact (lp m) _ _ _ _ hR gxo.rf
theorem w_Rd_readNumber {a1 a2 : Nat} {F : fx_F} {v : fx_V} {F' : fx_F} (h : Cl k_Rd_readNumber [(2, 10), (0, a1), (0, a2)] F v F') : gxo [10] [] F F' := by
  obtain ⟨n, h⟩ := c_Rd_readNumber h
  have Q := q_Rd_readNumber_0 h
  obtain ⟨H1, c1, Q⟩ := Q
  have o1 : gxo [10] [] F H1 := gxo.tr gxo.rf (gxo.mono (w_Rd_advance c1) (by intro q hq; simp at hq ⊢; try omega) (by intro q hq; simp at hq ⊢; try omega))
  refine fo_if fo_eq Q (fun Q => ?_) (fun Q => ?_)
  · refine fo_if fo_lt Q (fun Q => ?_) (fun Q => ?_)
    · obtain ⟨r2, H2, c2, Q⟩ := Q
      have o2 : gxo [10] [] F H2 := gxo.tr o1 (gxo.mono (w_Rd_fail c2) (by intro q hq; simp at hq ⊢; try omega) (by intro q hq; simp at hq ⊢; try omega))
      rw [Q.2]; exact o2
    · refine fo_if fo_le Q (fun Q => ?_) (fun Q => ?_)
      · rw [Q.2]; exact o1
      · obtain ⟨r3, H3, c3, Q⟩ := Q
        have o3 : gxo [10] [] F H3 := gxo.tr o1 (gxo.mono (w_Rd_fail c3) (by intro q hq; simp at hq ⊢; try omega) (by intro q hq; simp at hq ⊢; try omega))
        rw [Q.2]; exact o3
  · obtain ⟨r4, H4, c4, Q⟩ := Q
    have o4 : gxo [10] [] F H4 := gxo.tr o1 (gxo.mono (w_Rd_fail c4) (by intro q hq; simp at hq ⊢; try omega) (by intro q hq; simp at hq ⊢; try omega))
    rw [Q.2]; exact o4
theorem w_Rd_readLink {F : fx_F} {v : fx_V} {F' : fx_F} (h : Cl k_Rd_readLink [(2, 10)] F v F') : gxo [10, 12, 14, 13] [] F F' := by
  obtain ⟨n, h⟩ := c_Rd_readLink h
  have Q := q_Rd_readLink_0 h
  refine fo_if fo_lt Q (fun Q => ?_) (fun Q => ?_)
  · obtain ⟨r1, H1, c1, Q⟩ := Q
    have o1 : gxo [10, 12, 14, 13] [] F H1 := gxo.tr gxo.rf (gxo.mono (w_Rd_readNumber c1) (by intro q hq; simp at hq ⊢; try omega) (by intro q hq; simp at hq ⊢; try omega))
    refine fo_if fo_ne Q (fun Q => ?_) (fun Q => ?_)
    · obtain ⟨r2, H2, c2, Q⟩ := Q
      have o2 : gxo [10, 12, 14, 13] [] F H2 := gxo.tr o1 (gxo.mono (w_Rd_readNumber c2) (by intro q hq; simp at hq ⊢; try omega) (by intro q hq; simp at hq ⊢; try omega))
      refine fo_if fo_ne Q (fun Q => ?_) (fun Q => ?_)
      · refine fo_if fo_ne Q (fun Q => ?_) (fun Q => ?_)
        · obtain ⟨r3, H3, c3, Q⟩ := Q
          have o3 : gxo [10, 12, 14, 13] [] F H3 := gxo.tr o2 (gxo.mono (w_Net_joins c3) (by intro q hq; simp at hq ⊢; try omega) (by intro q hq; simp at hq ⊢; try omega))
          refine fo_if fo_eq Q (fun Q => ?_) (fun Q => ?_)
          · obtain ⟨r4, H4, c4, Q⟩ := Q
            have o4 : gxo [10, 12, 14, 13] [] F H4 := gxo.tr (gxo.wr (gxo.wr (gxo.wr (gxo.wr (gxo.wr o3 (by simp)) (by simp)) (by simp)) (by simp)) (by simp)) (gxo.mono (w_Rd_closeLine c4) (by intro q hq; simp at hq ⊢; try omega) (by intro q hq; simp at hq ⊢; try omega))
            rw [Q.2]; exact o4
          · obtain ⟨r5, H5, c5, Q⟩ := Q
            have o5 : gxo [10, 12, 14, 13] [] F H5 := gxo.tr o3 (gxo.mono (w_Rd_fail c5) (by intro q hq; simp at hq ⊢; try omega) (by intro q hq; simp at hq ⊢; try omega))
            rw [Q.2]; exact o5
        · obtain ⟨r6, H6, c6, Q⟩ := Q
          have o6 : gxo [10, 12, 14, 13] [] F H6 := gxo.tr o2 (gxo.mono (w_Rd_fail c6) (by intro q hq; simp at hq ⊢; try omega) (by intro q hq; simp at hq ⊢; try omega))
          rw [Q.2]; exact o6
      · rw [Q.2]; exact o2
    · rw [Q.2]; exact o1
  · obtain ⟨r7, H7, c7, Q⟩ := Q
    have o7 : gxo [10, 12, 14, 13] [] F H7 := gxo.tr gxo.rf (gxo.mono (w_Rd_fail c7) (by intro q hq; simp at hq ⊢; try omega) (by intro q hq; simp at hq ⊢; try omega))
    rw [Q.2]; exact o7
theorem w_Rd_unitKind {F : fx_F} {v : fx_V} {F' : fx_F} (h : Cl k_Rd_unitKind [(2, 10)] F v F') : gxo [] [] F F' := by
  obtain ⟨n, h⟩ := c_Rd_unitKind h
  have Q := q_Rd_unitKind_0 h
  refine fo_if fo_ne Q (fun Q => ?_) (fun Q => ?_)
  · refine fo_if fo_ne Q (fun Q => ?_) (fun Q => ?_)
    · refine fo_if fo_ne Q (fun Q => ?_) (fun Q => ?_)
      · obtain ⟨r1, H1, c1, Q⟩ := Q
        have o1 : gxo [] [] F H1 := gxo.tr gxo.rf (gxo.mono (w_Rd_isWord c1) (by intro q hq; simp at hq ⊢; try omega) (by intro q hq; simp at hq ⊢; try omega))
        refine fo_if fo_eq Q (fun Q => ?_) (fun Q => ?_)
        · obtain ⟨r2, H2, c2, Q⟩ := Q
          have o2 : gxo [] [] F H2 := gxo.tr o1 (gxo.mono (w_Rd_isWord c2) (by intro q hq; simp at hq ⊢; try omega) (by intro q hq; simp at hq ⊢; try omega))
          refine fo_if fo_eq Q (fun Q => ?_) (fun Q => ?_)
          · obtain ⟨r3, H3, c3, Q⟩ := Q
            have o3 : gxo [] [] F H3 := gxo.tr o2 (gxo.mono (w_Rd_isWord c3) (by intro q hq; simp at hq ⊢; try omega) (by intro q hq; simp at hq ⊢; try omega))
            refine fo_if fo_eq Q (fun Q => ?_) (fun Q => ?_)
            · rw [Q.2]; exact o3
            · rw [Q.2]; exact o3
          · rw [Q.2]; exact o2
        · rw [Q.2]; exact o1
      · rw [Q.2]; exact gxo.rf
    · rw [Q.2]; exact gxo.rf
  · rw [Q.2]; exact gxo.rf
theorem w_Rd_readUnit6 {F : fx_F} {v : fx_V} {F' : fx_F} (h : Cl k_Rd_readUnit6 [(2, 10), (0, 6)] F v F') : gxo [10] [] F F' := by
  obtain ⟨n, h⟩ := c_Rd_readUnit6 h
  have Q := q_Rd_readUnit6_0 h
  obtain ⟨r1, H1, c1, Q⟩ := Q
  have o1 : gxo [10] [] F H1 := gxo.tr gxo.rf (gxo.mono (w_Rd_unitKind c1) (by intro q hq; simp at hq ⊢; try omega) (by intro q hq; simp at hq ⊢; try omega))
  refine fo_if fo_ne Q (fun Q => ?_) (fun Q => ?_)
  · refine fo_if fo_ne Q (fun Q => ?_) (fun Q => ?_)
    · refine fo_if fo_le Q (fun Q => ?_) (fun Q => ?_)
      · obtain ⟨r2, H2, c2, Q⟩ := Q
        have o2 : gxo [10] [] F H2 := gxo.tr o1 (gxo.mono (w_Rd_fail c2) (by intro q hq; simp at hq ⊢; try omega) (by intro q hq; simp at hq ⊢; try omega))
        rw [Q.2]; exact o2
      · have Q := Q.2 (by rw [b_lt (by decide) (by decide)] <;> decide)
        obtain ⟨r3, H3, c3, Q⟩ := Q
        have o3 : gxo [10] [] F H3 := gxo.tr o1 (gxo.mono (w_Rd_fail c3) (by intro q hq; simp at hq ⊢; try omega) (by intro q hq; simp at hq ⊢; try omega))
        rw [Q.2]; exact o3
    · refine fo_if fo_le Q (fun Q => ?_) (fun Q => ?_)
      · refine fo_if fo_le Q (fun Q => ?_) (fun Q => ?_)
        · obtain ⟨r4, H4, c4, Q⟩ := Q
          have o4 : gxo [10] [] F H4 := gxo.tr o1 (gxo.mono (w_Rd_fail c4) (by intro q hq; simp at hq ⊢; try omega) (by intro q hq; simp at hq ⊢; try omega))
          rw [Q.2]; exact o4
        · have Q := Q.2 (by rw [b_lt (by decide) (by decide)] <;> decide)
          obtain ⟨r5, H5, c5, Q⟩ := Q
          have o5 : gxo [10] [] F H5 := gxo.tr o1 (gxo.mono (w_Rd_fail c5) (by intro q hq; simp at hq ⊢; try omega) (by intro q hq; simp at hq ⊢; try omega))
          rw [Q.2]; exact o5
      · obtain ⟨r6, H6, c6, Q⟩ := Q
        have o6 : gxo [10] [] F H6 := gxo.tr o1 (gxo.mono (w_Rd_fail c6) (by intro q hq; simp at hq ⊢; try omega) (by intro q hq; simp at hq ⊢; try omega))
        rw [Q.2]; exact o6
  · obtain ⟨r7, H7, c7, Q⟩ := Q
    have o7 : gxo [10] [] F H7 := gxo.tr o1 (gxo.mono (w_Rd_fail c7) (by intro q hq; simp at hq ⊢; try omega) (by intro q hq; simp at hq ⊢; try omega))
    rw [Q.2]; exact o7
theorem w_Rd_readProduct6 {F : fx_F} {v : fx_V} {F' : fx_F} (h : Cl k_Rd_readProduct6 [(2, 10), (0, 6)] F v F') : gxo [10, 12, 18, 17] [] F F' := by
  obtain ⟨n, h⟩ := c_Rd_readProduct6 h
  have lp : ∀ n : Nat, (∀ (l2 : Nat) (F2 : fx_F), Rn n k_Rd_readProduct6 12 [(2, 10), (0, 6), (0, l2), (3, 0)] [] F2 v F' → gxo [10, 12, 18, 17] [] F F2 → gxo [10, 12, 18, 17] [] F F') := by
    intro n
    induction n using Nat.strongRecOn with
    | ind n ih =>
      refine fun l2 F2 h ho => ?_
      · have Q := q_Rd_readProduct6_12 h
        clear h
        refine fo_if fo_le Q (fun Q => ?_) (fun Q => ?_)
        · rw [Q.2]; exact ho
        · refine fo_if fo_eq Q (fun Q => ?_) (fun Q => ?_)
          · obtain ⟨H1, c1, Q⟩ := Q
            have o1 : gxo [10, 12, 18, 17] [] F H1 := gxo.tr ho (gxo.mono (w_Rd_advance c1) (by intro q hq; simp at hq ⊢; try omega) (by intro q hq; simp at hq ⊢; try omega))
            obtain ⟨r2, H2, c2, Q⟩ := Q
            have o2 : gxo [10, 12, 18, 17] [] F H2 := gxo.tr o1 (gxo.mono (w_Rd_readUnit6 c2) (by intro q hq; simp at hq ⊢; try omega) (by intro q hq; simp at hq ⊢; try omega))
            refine fo_if fo_ne Q (fun Q => ?_) (fun Q => ?_)
            · refine fo_if fo_le Q (fun Q => ?_) (fun Q => ?_)
              · obtain ⟨m, hm, hR⟩ := Q
                exact (ih m hm) _ _ hR o2
              · obtain ⟨m, hm, hR⟩ := Q
                exact (ih m hm) _ _ hR (gxo.wr (gxo.wr (gxo.wr o2 (by simp)) (by simp)) (by simp))
            · rw [Q.2]; exact o2
          · refine fo_if fo_eq Q (fun Q => ?_) (fun Q => ?_)
            · obtain ⟨H3, c3, Q⟩ := Q
              have o3 : gxo [10, 12, 18, 17] [] F H3 := gxo.tr ho (gxo.mono (w_Rd_advance c3) (by intro q hq; simp at hq ⊢; try omega) (by intro q hq; simp at hq ⊢; try omega))
              obtain ⟨r4, H4, c4, Q⟩ := Q
              have o4 : gxo [10, 12, 18, 17] [] F H4 := gxo.tr o3 (gxo.mono (w_Rd_readUnit6 c4) (by intro q hq; simp at hq ⊢; try omega) (by intro q hq; simp at hq ⊢; try omega))
              refine fo_if fo_ne Q (fun Q => ?_) (fun Q => ?_)
              · refine fo_if fo_le Q (fun Q => ?_) (fun Q => ?_)
                · obtain ⟨m, hm, hR⟩ := Q
                  exact (ih m hm) _ _ hR o4
                · obtain ⟨m, hm, hR⟩ := Q
                  exact (ih m hm) _ _ hR (gxo.wr (gxo.wr (gxo.wr o4 (by simp)) (by simp)) (by simp))
              · rw [Q.2]; exact o4
            · refine fo_if fo_ne Q (fun Q => ?_) (fun Q => ?_)
              · rw [Q.2]; exact ho
              · obtain ⟨H5, c5, Q⟩ := Q
                have o5 : gxo [10, 12, 18, 17] [] F H5 := gxo.tr ho (gxo.mono (w_Rd_advance c5) (by intro q hq; simp at hq ⊢; try omega) (by intro q hq; simp at hq ⊢; try omega))
                obtain ⟨r6, H6, c6, Q⟩ := Q
                have o6 : gxo [10, 12, 18, 17] [] F H6 := gxo.tr o5 (gxo.mono (w_Rd_readUnit6 c6) (by intro q hq; simp at hq ⊢; try omega) (by intro q hq; simp at hq ⊢; try omega))
                refine fo_if fo_ne Q (fun Q => ?_) (fun Q => ?_)
                · refine fo_if fo_le Q (fun Q => ?_) (fun Q => ?_)
                  · obtain ⟨m, hm, hR⟩ := Q
                    exact (ih m hm) _ _ hR o6
                  · obtain ⟨m, hm, hR⟩ := Q
                    exact (ih m hm) _ _ hR (gxo.wr (gxo.wr (gxo.wr o6 (by simp)) (by simp)) (by simp))
                · rw [Q.2]; exact o6
  have Q := q_Rd_readProduct6_0 h
  obtain ⟨r1, H1, c1, Q⟩ := Q
  have o1 : gxo [10, 12, 18, 17] [] F H1 := gxo.tr gxo.rf (gxo.mono (w_Rd_readUnit6 c1) (by intro q hq; simp at hq ⊢; try omega) (by intro q hq; simp at hq ⊢; try omega))
  refine fo_if fo_ne Q (fun Q => ?_) (fun Q => ?_)
  · obtain ⟨m, hm, hR⟩ := Q
    exact (lp m) _ _ hR o1
  · rw [Q.2]; exact o1
theorem w_Rd_readSum6 {F : fx_F} {v : fx_V} {F' : fx_F} (h : Cl k_Rd_readSum6 [(2, 10), (0, 6)] F v F') : gxo [10, 12, 18, 17] [] F F' := by
  obtain ⟨n, h⟩ := c_Rd_readSum6 h
  have lp : ∀ n : Nat, (∀ (l2 : Nat) (F2 : fx_F), Rn n k_Rd_readSum6 12 [(2, 10), (0, 6), (0, l2), (3, 0)] [] F2 v F' → gxo [10, 12, 18, 17] [] F F2 → gxo [10, 12, 18, 17] [] F F') := by
    intro n
    induction n using Nat.strongRecOn with
    | ind n ih =>
      refine fun l2 F2 h ho => ?_
      · have Q := q_Rd_readSum6_12 h
        clear h
        refine fo_if fo_le Q (fun Q => ?_) (fun Q => ?_)
        · rw [Q.2]; exact ho
        · refine fo_if fo_eq Q (fun Q => ?_) (fun Q => ?_)
          · obtain ⟨H1, c1, Q⟩ := Q
            have o1 : gxo [10, 12, 18, 17] [] F H1 := gxo.tr ho (gxo.mono (w_Rd_advance c1) (by intro q hq; simp at hq ⊢; try omega) (by intro q hq; simp at hq ⊢; try omega))
            obtain ⟨r2, H2, c2, Q⟩ := Q
            have o2 : gxo [10, 12, 18, 17] [] F H2 := gxo.tr o1 (gxo.mono (w_Rd_readProduct6 c2) (by intro q hq; simp at hq ⊢; try omega) (by intro q hq; simp at hq ⊢; try omega))
            refine fo_if fo_ne Q (fun Q => ?_) (fun Q => ?_)
            · refine fo_if fo_le Q (fun Q => ?_) (fun Q => ?_)
              · obtain ⟨m, hm, hR⟩ := Q
                exact (ih m hm) _ _ hR o2
              · obtain ⟨m, hm, hR⟩ := Q
                exact (ih m hm) _ _ hR (gxo.wr (gxo.wr (gxo.wr o2 (by simp)) (by simp)) (by simp))
            · rw [Q.2]; exact o2
          · refine fo_if fo_ne Q (fun Q => ?_) (fun Q => ?_)
            · rw [Q.2]; exact ho
            · obtain ⟨H3, c3, Q⟩ := Q
              have o3 : gxo [10, 12, 18, 17] [] F H3 := gxo.tr ho (gxo.mono (w_Rd_advance c3) (by intro q hq; simp at hq ⊢; try omega) (by intro q hq; simp at hq ⊢; try omega))
              obtain ⟨r4, H4, c4, Q⟩ := Q
              have o4 : gxo [10, 12, 18, 17] [] F H4 := gxo.tr o3 (gxo.mono (w_Rd_readProduct6 c4) (by intro q hq; simp at hq ⊢; try omega) (by intro q hq; simp at hq ⊢; try omega))
              refine fo_if fo_ne Q (fun Q => ?_) (fun Q => ?_)
              · refine fo_if fo_le Q (fun Q => ?_) (fun Q => ?_)
                · obtain ⟨m, hm, hR⟩ := Q
                  exact (ih m hm) _ _ hR o4
                · obtain ⟨m, hm, hR⟩ := Q
                  exact (ih m hm) _ _ hR (gxo.wr (gxo.wr (gxo.wr o4 (by simp)) (by simp)) (by simp))
              · rw [Q.2]; exact o4
  have Q := q_Rd_readSum6_0 h
  obtain ⟨r1, H1, c1, Q⟩ := Q
  have o1 : gxo [10, 12, 18, 17] [] F H1 := gxo.tr gxo.rf (gxo.mono (w_Rd_readProduct6 c1) (by intro q hq; simp at hq ⊢; try omega) (by intro q hq; simp at hq ⊢; try omega))
  refine fo_if fo_ne Q (fun Q => ?_) (fun Q => ?_)
  · obtain ⟨m, hm, hR⟩ := Q
    exact (lp m) _ _ hR o1
  · rw [Q.2]; exact o1
theorem w_Rd_readUnit5 {F : fx_F} {v : fx_V} {F' : fx_F} (h : Cl k_Rd_readUnit5 [(2, 10), (0, 5)] F v F') : gxo [10, 12, 18, 17] [] F F' := by
  obtain ⟨n, h⟩ := c_Rd_readUnit5 h
  have Q := q_Rd_readUnit5_0 h
  rw [show i_add 5 1 = 6 from b_add (by decide)] at Q
  obtain ⟨r1, H1, c1, Q⟩ := Q
  have o1 : gxo [10, 12, 18, 17] [] F H1 := gxo.tr gxo.rf (gxo.mono (w_Rd_unitKind c1) (by intro q hq; simp at hq ⊢; try omega) (by intro q hq; simp at hq ⊢; try omega))
  refine fo_if fo_ne Q (fun Q => ?_) (fun Q => ?_)
  · refine fo_if fo_ne Q (fun Q => ?_) (fun Q => ?_)
    · refine fo_if fo_le Q (fun Q => ?_) (fun Q => ?_)
      · obtain ⟨r2, H2, c2, Q⟩ := Q
        have o2 : gxo [10, 12, 18, 17] [] F H2 := gxo.tr o1 (gxo.mono (w_Rd_fail c2) (by intro q hq; simp at hq ⊢; try omega) (by intro q hq; simp at hq ⊢; try omega))
        rw [Q.2]; exact o2
      · have Q := Q.1 (by rw [b_le (by decide) (by decide)] <;> decide)
        obtain ⟨H3, c3, Q⟩ := Q
        have o3 : gxo [10, 12, 18, 17] [] F H3 := gxo.tr (gxo.wr o1 (by simp)) (gxo.mono (w_Rd_advance c3) (by intro q hq; simp at hq ⊢; try omega) (by intro q hq; simp at hq ⊢; try omega))
        refine fo_if fo_ne Q (fun Q => ?_) (fun Q => ?_)
        · refine fo_if fo_ne Q (fun Q => ?_) (fun Q => ?_)
          · refine fo_if fo_le Q (fun Q => ?_) (fun Q => ?_)
            · rw [Q.2]; exact o3
            · rw [Q.2]; exact (gxo.wr (gxo.wr (gxo.wr o3 (by simp)) (by simp)) (by simp))
          · obtain ⟨r4, H4, c4, Q⟩ := Q
            have o4 : gxo [10, 12, 18, 17] [] F H4 := gxo.tr o3 (gxo.mono (w_Rd_readUnit6 c4) (by intro q hq; simp at hq ⊢; try omega) (by intro q hq; simp at hq ⊢; try omega))
            refine fo_if fo_ne Q (fun Q => ?_) (fun Q => ?_)
            · refine fo_if fo_le Q (fun Q => ?_) (fun Q => ?_)
              · rw [Q.2]; exact o4
              · rw [Q.2]; exact (gxo.wr (gxo.wr (gxo.wr o4 (by simp)) (by simp)) (by simp))
            · rw [Q.2]; exact o4
        · obtain ⟨r5, H5, c5, Q⟩ := Q
          have o5 : gxo [10, 12, 18, 17] [] F H5 := gxo.tr o3 (gxo.mono (w_Rd_readSum6 c5) (by intro q hq; simp at hq ⊢; try omega) (by intro q hq; simp at hq ⊢; try omega))
          refine fo_if fo_eq Q (fun Q => ?_) (fun Q => ?_)
          · rw [Q.2]; exact o5
          · obtain ⟨r6, H6, c6, Q⟩ := Q
            have o6 : gxo [10, 12, 18, 17] [] F H6 := gxo.tr o5 (gxo.mono (w_Rd_readSign c6) (by intro q hq; simp at hq ⊢; try omega) (by intro q hq; simp at hq ⊢; try omega))
            refine fo_if fo_eq Q (fun Q => ?_) (fun Q => ?_)
            · rw [Q.2]; exact o6
            · rw [Q.2]; exact o6
    · refine fo_if fo_le Q (fun Q => ?_) (fun Q => ?_)
      · refine fo_if fo_le Q (fun Q => ?_) (fun Q => ?_)
        · obtain ⟨r7, H7, c7, Q⟩ := Q
          have o7 : gxo [10, 12, 18, 17] [] F H7 := gxo.tr o1 (gxo.mono (w_Rd_fail c7) (by intro q hq; simp at hq ⊢; try omega) (by intro q hq; simp at hq ⊢; try omega))
          rw [Q.2]; exact o7
        · have Q := Q.1 (by rw [b_le (by decide) (by decide)] <;> decide)
          obtain ⟨H8, c8, Q⟩ := Q
          have o8 : gxo [10, 12, 18, 17] [] F H8 := gxo.tr (gxo.wr o1 (by simp)) (gxo.mono (w_Rd_advance c8) (by intro q hq; simp at hq ⊢; try omega) (by intro q hq; simp at hq ⊢; try omega))
          refine fo_if fo_ne Q (fun Q => ?_) (fun Q => ?_)
          · refine fo_if fo_ne Q (fun Q => ?_) (fun Q => ?_)
            · refine fo_if fo_le Q (fun Q => ?_) (fun Q => ?_)
              · rw [Q.2]; exact o8
              · rw [Q.2]; exact (gxo.wr (gxo.wr (gxo.wr o8 (by simp)) (by simp)) (by simp))
            · obtain ⟨r9, H9, c9, Q⟩ := Q
              have o9 : gxo [10, 12, 18, 17] [] F H9 := gxo.tr o8 (gxo.mono (w_Rd_readUnit6 c9) (by intro q hq; simp at hq ⊢; try omega) (by intro q hq; simp at hq ⊢; try omega))
              refine fo_if fo_ne Q (fun Q => ?_) (fun Q => ?_)
              · refine fo_if fo_le Q (fun Q => ?_) (fun Q => ?_)
                · rw [Q.2]; exact o9
                · rw [Q.2]; exact (gxo.wr (gxo.wr (gxo.wr o9 (by simp)) (by simp)) (by simp))
              · rw [Q.2]; exact o9
          · obtain ⟨r10, H10, c10, Q⟩ := Q
            have o10 : gxo [10, 12, 18, 17] [] F H10 := gxo.tr o8 (gxo.mono (w_Rd_readSum6 c10) (by intro q hq; simp at hq ⊢; try omega) (by intro q hq; simp at hq ⊢; try omega))
            refine fo_if fo_eq Q (fun Q => ?_) (fun Q => ?_)
            · rw [Q.2]; exact o10
            · obtain ⟨r11, H11, c11, Q⟩ := Q
              have o11 : gxo [10, 12, 18, 17] [] F H11 := gxo.tr o10 (gxo.mono (w_Rd_readSign c11) (by intro q hq; simp at hq ⊢; try omega) (by intro q hq; simp at hq ⊢; try omega))
              refine fo_if fo_eq Q (fun Q => ?_) (fun Q => ?_)
              · rw [Q.2]; exact o11
              · rw [Q.2]; exact o11
      · obtain ⟨r12, H12, c12, Q⟩ := Q
        have o12 : gxo [10, 12, 18, 17] [] F H12 := gxo.tr o1 (gxo.mono (w_Rd_fail c12) (by intro q hq; simp at hq ⊢; try omega) (by intro q hq; simp at hq ⊢; try omega))
        rw [Q.2]; exact o12
  · obtain ⟨r13, H13, c13, Q⟩ := Q
    have o13 : gxo [10, 12, 18, 17] [] F H13 := gxo.tr o1 (gxo.mono (w_Rd_fail c13) (by intro q hq; simp at hq ⊢; try omega) (by intro q hq; simp at hq ⊢; try omega))
    rw [Q.2]; exact o13
theorem w_Rd_readProduct5 {F : fx_F} {v : fx_V} {F' : fx_F} (h : Cl k_Rd_readProduct5 [(2, 10), (0, 5)] F v F') : gxo [10, 12, 18, 17] [] F F' := by
  obtain ⟨n, h⟩ := c_Rd_readProduct5 h
  have lp : ∀ n : Nat, (∀ (l2 : Nat) (F2 : fx_F), Rn n k_Rd_readProduct5 12 [(2, 10), (0, 5), (0, l2), (3, 0)] [] F2 v F' → gxo [10, 12, 18, 17] [] F F2 → gxo [10, 12, 18, 17] [] F F') := by
    intro n
    induction n using Nat.strongRecOn with
    | ind n ih =>
      refine fun l2 F2 h ho => ?_
      · have Q := q_Rd_readProduct5_12 h
        clear h
        refine fo_if fo_le Q (fun Q => ?_) (fun Q => ?_)
        · rw [Q.2]; exact ho
        · refine fo_if fo_eq Q (fun Q => ?_) (fun Q => ?_)
          · obtain ⟨H1, c1, Q⟩ := Q
            have o1 : gxo [10, 12, 18, 17] [] F H1 := gxo.tr ho (gxo.mono (w_Rd_advance c1) (by intro q hq; simp at hq ⊢; try omega) (by intro q hq; simp at hq ⊢; try omega))
            obtain ⟨r2, H2, c2, Q⟩ := Q
            have o2 : gxo [10, 12, 18, 17] [] F H2 := gxo.tr o1 (gxo.mono (w_Rd_readUnit5 c2) (by intro q hq; simp at hq ⊢; try omega) (by intro q hq; simp at hq ⊢; try omega))
            refine fo_if fo_ne Q (fun Q => ?_) (fun Q => ?_)
            · refine fo_if fo_le Q (fun Q => ?_) (fun Q => ?_)
              · obtain ⟨m, hm, hR⟩ := Q
                exact (ih m hm) _ _ hR o2
              · obtain ⟨m, hm, hR⟩ := Q
                exact (ih m hm) _ _ hR (gxo.wr (gxo.wr (gxo.wr o2 (by simp)) (by simp)) (by simp))
            · rw [Q.2]; exact o2
          · refine fo_if fo_eq Q (fun Q => ?_) (fun Q => ?_)
            · obtain ⟨H3, c3, Q⟩ := Q
              have o3 : gxo [10, 12, 18, 17] [] F H3 := gxo.tr ho (gxo.mono (w_Rd_advance c3) (by intro q hq; simp at hq ⊢; try omega) (by intro q hq; simp at hq ⊢; try omega))
              obtain ⟨r4, H4, c4, Q⟩ := Q
              have o4 : gxo [10, 12, 18, 17] [] F H4 := gxo.tr o3 (gxo.mono (w_Rd_readUnit5 c4) (by intro q hq; simp at hq ⊢; try omega) (by intro q hq; simp at hq ⊢; try omega))
              refine fo_if fo_ne Q (fun Q => ?_) (fun Q => ?_)
              · refine fo_if fo_le Q (fun Q => ?_) (fun Q => ?_)
                · obtain ⟨m, hm, hR⟩ := Q
                  exact (ih m hm) _ _ hR o4
                · obtain ⟨m, hm, hR⟩ := Q
                  exact (ih m hm) _ _ hR (gxo.wr (gxo.wr (gxo.wr o4 (by simp)) (by simp)) (by simp))
              · rw [Q.2]; exact o4
            · refine fo_if fo_ne Q (fun Q => ?_) (fun Q => ?_)
              · rw [Q.2]; exact ho
              · obtain ⟨H5, c5, Q⟩ := Q
                have o5 : gxo [10, 12, 18, 17] [] F H5 := gxo.tr ho (gxo.mono (w_Rd_advance c5) (by intro q hq; simp at hq ⊢; try omega) (by intro q hq; simp at hq ⊢; try omega))
                obtain ⟨r6, H6, c6, Q⟩ := Q
                have o6 : gxo [10, 12, 18, 17] [] F H6 := gxo.tr o5 (gxo.mono (w_Rd_readUnit5 c6) (by intro q hq; simp at hq ⊢; try omega) (by intro q hq; simp at hq ⊢; try omega))
                refine fo_if fo_ne Q (fun Q => ?_) (fun Q => ?_)
                · refine fo_if fo_le Q (fun Q => ?_) (fun Q => ?_)
                  · obtain ⟨m, hm, hR⟩ := Q
                    exact (ih m hm) _ _ hR o6
                  · obtain ⟨m, hm, hR⟩ := Q
                    exact (ih m hm) _ _ hR (gxo.wr (gxo.wr (gxo.wr o6 (by simp)) (by simp)) (by simp))
                · rw [Q.2]; exact o6
  have Q := q_Rd_readProduct5_0 h
  obtain ⟨r1, H1, c1, Q⟩ := Q
  have o1 : gxo [10, 12, 18, 17] [] F H1 := gxo.tr gxo.rf (gxo.mono (w_Rd_readUnit5 c1) (by intro q hq; simp at hq ⊢; try omega) (by intro q hq; simp at hq ⊢; try omega))
  refine fo_if fo_ne Q (fun Q => ?_) (fun Q => ?_)
  · obtain ⟨m, hm, hR⟩ := Q
    exact (lp m) _ _ hR o1
  · rw [Q.2]; exact o1
theorem w_Rd_readSum5 {F : fx_F} {v : fx_V} {F' : fx_F} (h : Cl k_Rd_readSum5 [(2, 10), (0, 5)] F v F') : gxo [10, 12, 18, 17] [] F F' := by
  obtain ⟨n, h⟩ := c_Rd_readSum5 h
  have lp : ∀ n : Nat, (∀ (l2 : Nat) (F2 : fx_F), Rn n k_Rd_readSum5 12 [(2, 10), (0, 5), (0, l2), (3, 0)] [] F2 v F' → gxo [10, 12, 18, 17] [] F F2 → gxo [10, 12, 18, 17] [] F F') := by
    intro n
    induction n using Nat.strongRecOn with
    | ind n ih =>
      refine fun l2 F2 h ho => ?_
      · have Q := q_Rd_readSum5_12 h
        clear h
        refine fo_if fo_le Q (fun Q => ?_) (fun Q => ?_)
        · rw [Q.2]; exact ho
        · refine fo_if fo_eq Q (fun Q => ?_) (fun Q => ?_)
          · obtain ⟨H1, c1, Q⟩ := Q
            have o1 : gxo [10, 12, 18, 17] [] F H1 := gxo.tr ho (gxo.mono (w_Rd_advance c1) (by intro q hq; simp at hq ⊢; try omega) (by intro q hq; simp at hq ⊢; try omega))
            obtain ⟨r2, H2, c2, Q⟩ := Q
            have o2 : gxo [10, 12, 18, 17] [] F H2 := gxo.tr o1 (gxo.mono (w_Rd_readProduct5 c2) (by intro q hq; simp at hq ⊢; try omega) (by intro q hq; simp at hq ⊢; try omega))
            refine fo_if fo_ne Q (fun Q => ?_) (fun Q => ?_)
            · refine fo_if fo_le Q (fun Q => ?_) (fun Q => ?_)
              · obtain ⟨m, hm, hR⟩ := Q
                exact (ih m hm) _ _ hR o2
              · obtain ⟨m, hm, hR⟩ := Q
                exact (ih m hm) _ _ hR (gxo.wr (gxo.wr (gxo.wr o2 (by simp)) (by simp)) (by simp))
            · rw [Q.2]; exact o2
          · refine fo_if fo_ne Q (fun Q => ?_) (fun Q => ?_)
            · rw [Q.2]; exact ho
            · obtain ⟨H3, c3, Q⟩ := Q
              have o3 : gxo [10, 12, 18, 17] [] F H3 := gxo.tr ho (gxo.mono (w_Rd_advance c3) (by intro q hq; simp at hq ⊢; try omega) (by intro q hq; simp at hq ⊢; try omega))
              obtain ⟨r4, H4, c4, Q⟩ := Q
              have o4 : gxo [10, 12, 18, 17] [] F H4 := gxo.tr o3 (gxo.mono (w_Rd_readProduct5 c4) (by intro q hq; simp at hq ⊢; try omega) (by intro q hq; simp at hq ⊢; try omega))
              refine fo_if fo_ne Q (fun Q => ?_) (fun Q => ?_)
              · refine fo_if fo_le Q (fun Q => ?_) (fun Q => ?_)
                · obtain ⟨m, hm, hR⟩ := Q
                  exact (ih m hm) _ _ hR o4
                · obtain ⟨m, hm, hR⟩ := Q
                  exact (ih m hm) _ _ hR (gxo.wr (gxo.wr (gxo.wr o4 (by simp)) (by simp)) (by simp))
              · rw [Q.2]; exact o4
  have Q := q_Rd_readSum5_0 h
  obtain ⟨r1, H1, c1, Q⟩ := Q
  have o1 : gxo [10, 12, 18, 17] [] F H1 := gxo.tr gxo.rf (gxo.mono (w_Rd_readProduct5 c1) (by intro q hq; simp at hq ⊢; try omega) (by intro q hq; simp at hq ⊢; try omega))
  refine fo_if fo_ne Q (fun Q => ?_) (fun Q => ?_)
  · obtain ⟨m, hm, hR⟩ := Q
    exact (lp m) _ _ hR o1
  · rw [Q.2]; exact o1
theorem w_Rd_readUnit4 {F : fx_F} {v : fx_V} {F' : fx_F} (h : Cl k_Rd_readUnit4 [(2, 10), (0, 4)] F v F') : gxo [10, 12, 18, 17] [] F F' := by
  obtain ⟨n, h⟩ := c_Rd_readUnit4 h
  have Q := q_Rd_readUnit4_0 h
  rw [show i_add 4 1 = 5 from b_add (by decide)] at Q
  obtain ⟨r1, H1, c1, Q⟩ := Q
  have o1 : gxo [10, 12, 18, 17] [] F H1 := gxo.tr gxo.rf (gxo.mono (w_Rd_unitKind c1) (by intro q hq; simp at hq ⊢; try omega) (by intro q hq; simp at hq ⊢; try omega))
  refine fo_if fo_ne Q (fun Q => ?_) (fun Q => ?_)
  · refine fo_if fo_ne Q (fun Q => ?_) (fun Q => ?_)
    · refine fo_if fo_le Q (fun Q => ?_) (fun Q => ?_)
      · obtain ⟨r2, H2, c2, Q⟩ := Q
        have o2 : gxo [10, 12, 18, 17] [] F H2 := gxo.tr o1 (gxo.mono (w_Rd_fail c2) (by intro q hq; simp at hq ⊢; try omega) (by intro q hq; simp at hq ⊢; try omega))
        rw [Q.2]; exact o2
      · have Q := Q.1 (by rw [b_le (by decide) (by decide)] <;> decide)
        obtain ⟨H3, c3, Q⟩ := Q
        have o3 : gxo [10, 12, 18, 17] [] F H3 := gxo.tr (gxo.wr o1 (by simp)) (gxo.mono (w_Rd_advance c3) (by intro q hq; simp at hq ⊢; try omega) (by intro q hq; simp at hq ⊢; try omega))
        refine fo_if fo_ne Q (fun Q => ?_) (fun Q => ?_)
        · refine fo_if fo_ne Q (fun Q => ?_) (fun Q => ?_)
          · refine fo_if fo_le Q (fun Q => ?_) (fun Q => ?_)
            · rw [Q.2]; exact o3
            · rw [Q.2]; exact (gxo.wr (gxo.wr (gxo.wr o3 (by simp)) (by simp)) (by simp))
          · obtain ⟨r4, H4, c4, Q⟩ := Q
            have o4 : gxo [10, 12, 18, 17] [] F H4 := gxo.tr o3 (gxo.mono (w_Rd_readUnit5 c4) (by intro q hq; simp at hq ⊢; try omega) (by intro q hq; simp at hq ⊢; try omega))
            refine fo_if fo_ne Q (fun Q => ?_) (fun Q => ?_)
            · refine fo_if fo_le Q (fun Q => ?_) (fun Q => ?_)
              · rw [Q.2]; exact o4
              · rw [Q.2]; exact (gxo.wr (gxo.wr (gxo.wr o4 (by simp)) (by simp)) (by simp))
            · rw [Q.2]; exact o4
        · obtain ⟨r5, H5, c5, Q⟩ := Q
          have o5 : gxo [10, 12, 18, 17] [] F H5 := gxo.tr o3 (gxo.mono (w_Rd_readSum5 c5) (by intro q hq; simp at hq ⊢; try omega) (by intro q hq; simp at hq ⊢; try omega))
          refine fo_if fo_eq Q (fun Q => ?_) (fun Q => ?_)
          · rw [Q.2]; exact o5
          · obtain ⟨r6, H6, c6, Q⟩ := Q
            have o6 : gxo [10, 12, 18, 17] [] F H6 := gxo.tr o5 (gxo.mono (w_Rd_readSign c6) (by intro q hq; simp at hq ⊢; try omega) (by intro q hq; simp at hq ⊢; try omega))
            refine fo_if fo_eq Q (fun Q => ?_) (fun Q => ?_)
            · rw [Q.2]; exact o6
            · rw [Q.2]; exact o6
    · refine fo_if fo_le Q (fun Q => ?_) (fun Q => ?_)
      · refine fo_if fo_le Q (fun Q => ?_) (fun Q => ?_)
        · obtain ⟨r7, H7, c7, Q⟩ := Q
          have o7 : gxo [10, 12, 18, 17] [] F H7 := gxo.tr o1 (gxo.mono (w_Rd_fail c7) (by intro q hq; simp at hq ⊢; try omega) (by intro q hq; simp at hq ⊢; try omega))
          rw [Q.2]; exact o7
        · have Q := Q.1 (by rw [b_le (by decide) (by decide)] <;> decide)
          obtain ⟨H8, c8, Q⟩ := Q
          have o8 : gxo [10, 12, 18, 17] [] F H8 := gxo.tr (gxo.wr o1 (by simp)) (gxo.mono (w_Rd_advance c8) (by intro q hq; simp at hq ⊢; try omega) (by intro q hq; simp at hq ⊢; try omega))
          refine fo_if fo_ne Q (fun Q => ?_) (fun Q => ?_)
          · refine fo_if fo_ne Q (fun Q => ?_) (fun Q => ?_)
            · refine fo_if fo_le Q (fun Q => ?_) (fun Q => ?_)
              · rw [Q.2]; exact o8
              · rw [Q.2]; exact (gxo.wr (gxo.wr (gxo.wr o8 (by simp)) (by simp)) (by simp))
            · obtain ⟨r9, H9, c9, Q⟩ := Q
              have o9 : gxo [10, 12, 18, 17] [] F H9 := gxo.tr o8 (gxo.mono (w_Rd_readUnit5 c9) (by intro q hq; simp at hq ⊢; try omega) (by intro q hq; simp at hq ⊢; try omega))
              refine fo_if fo_ne Q (fun Q => ?_) (fun Q => ?_)
              · refine fo_if fo_le Q (fun Q => ?_) (fun Q => ?_)
                · rw [Q.2]; exact o9
                · rw [Q.2]; exact (gxo.wr (gxo.wr (gxo.wr o9 (by simp)) (by simp)) (by simp))
              · rw [Q.2]; exact o9
          · obtain ⟨r10, H10, c10, Q⟩ := Q
            have o10 : gxo [10, 12, 18, 17] [] F H10 := gxo.tr o8 (gxo.mono (w_Rd_readSum5 c10) (by intro q hq; simp at hq ⊢; try omega) (by intro q hq; simp at hq ⊢; try omega))
            refine fo_if fo_eq Q (fun Q => ?_) (fun Q => ?_)
            · rw [Q.2]; exact o10
            · obtain ⟨r11, H11, c11, Q⟩ := Q
              have o11 : gxo [10, 12, 18, 17] [] F H11 := gxo.tr o10 (gxo.mono (w_Rd_readSign c11) (by intro q hq; simp at hq ⊢; try omega) (by intro q hq; simp at hq ⊢; try omega))
              refine fo_if fo_eq Q (fun Q => ?_) (fun Q => ?_)
              · rw [Q.2]; exact o11
              · rw [Q.2]; exact o11
      · obtain ⟨r12, H12, c12, Q⟩ := Q
        have o12 : gxo [10, 12, 18, 17] [] F H12 := gxo.tr o1 (gxo.mono (w_Rd_fail c12) (by intro q hq; simp at hq ⊢; try omega) (by intro q hq; simp at hq ⊢; try omega))
        rw [Q.2]; exact o12
  · obtain ⟨r13, H13, c13, Q⟩ := Q
    have o13 : gxo [10, 12, 18, 17] [] F H13 := gxo.tr o1 (gxo.mono (w_Rd_fail c13) (by intro q hq; simp at hq ⊢; try omega) (by intro q hq; simp at hq ⊢; try omega))
    rw [Q.2]; exact o13
theorem w_Rd_readProduct4 {F : fx_F} {v : fx_V} {F' : fx_F} (h : Cl k_Rd_readProduct4 [(2, 10), (0, 4)] F v F') : gxo [10, 12, 18, 17] [] F F' := by
  obtain ⟨n, h⟩ := c_Rd_readProduct4 h
  have lp : ∀ n : Nat, (∀ (l2 : Nat) (F2 : fx_F), Rn n k_Rd_readProduct4 12 [(2, 10), (0, 4), (0, l2), (3, 0)] [] F2 v F' → gxo [10, 12, 18, 17] [] F F2 → gxo [10, 12, 18, 17] [] F F') := by
    intro n
    induction n using Nat.strongRecOn with
    | ind n ih =>
      refine fun l2 F2 h ho => ?_
      · have Q := q_Rd_readProduct4_12 h
        clear h
        refine fo_if fo_le Q (fun Q => ?_) (fun Q => ?_)
        · rw [Q.2]; exact ho
        · refine fo_if fo_eq Q (fun Q => ?_) (fun Q => ?_)
          · obtain ⟨H1, c1, Q⟩ := Q
            have o1 : gxo [10, 12, 18, 17] [] F H1 := gxo.tr ho (gxo.mono (w_Rd_advance c1) (by intro q hq; simp at hq ⊢; try omega) (by intro q hq; simp at hq ⊢; try omega))
            obtain ⟨r2, H2, c2, Q⟩ := Q
            have o2 : gxo [10, 12, 18, 17] [] F H2 := gxo.tr o1 (gxo.mono (w_Rd_readUnit4 c2) (by intro q hq; simp at hq ⊢; try omega) (by intro q hq; simp at hq ⊢; try omega))
            refine fo_if fo_ne Q (fun Q => ?_) (fun Q => ?_)
            · refine fo_if fo_le Q (fun Q => ?_) (fun Q => ?_)
              · obtain ⟨m, hm, hR⟩ := Q
                exact (ih m hm) _ _ hR o2
              · obtain ⟨m, hm, hR⟩ := Q
                exact (ih m hm) _ _ hR (gxo.wr (gxo.wr (gxo.wr o2 (by simp)) (by simp)) (by simp))
            · rw [Q.2]; exact o2
          · refine fo_if fo_eq Q (fun Q => ?_) (fun Q => ?_)
            · obtain ⟨H3, c3, Q⟩ := Q
              have o3 : gxo [10, 12, 18, 17] [] F H3 := gxo.tr ho (gxo.mono (w_Rd_advance c3) (by intro q hq; simp at hq ⊢; try omega) (by intro q hq; simp at hq ⊢; try omega))
              obtain ⟨r4, H4, c4, Q⟩ := Q
              have o4 : gxo [10, 12, 18, 17] [] F H4 := gxo.tr o3 (gxo.mono (w_Rd_readUnit4 c4) (by intro q hq; simp at hq ⊢; try omega) (by intro q hq; simp at hq ⊢; try omega))
              refine fo_if fo_ne Q (fun Q => ?_) (fun Q => ?_)
              · refine fo_if fo_le Q (fun Q => ?_) (fun Q => ?_)
                · obtain ⟨m, hm, hR⟩ := Q
                  exact (ih m hm) _ _ hR o4
                · obtain ⟨m, hm, hR⟩ := Q
                  exact (ih m hm) _ _ hR (gxo.wr (gxo.wr (gxo.wr o4 (by simp)) (by simp)) (by simp))
              · rw [Q.2]; exact o4
            · refine fo_if fo_ne Q (fun Q => ?_) (fun Q => ?_)
              · rw [Q.2]; exact ho
              · obtain ⟨H5, c5, Q⟩ := Q
                have o5 : gxo [10, 12, 18, 17] [] F H5 := gxo.tr ho (gxo.mono (w_Rd_advance c5) (by intro q hq; simp at hq ⊢; try omega) (by intro q hq; simp at hq ⊢; try omega))
                obtain ⟨r6, H6, c6, Q⟩ := Q
                have o6 : gxo [10, 12, 18, 17] [] F H6 := gxo.tr o5 (gxo.mono (w_Rd_readUnit4 c6) (by intro q hq; simp at hq ⊢; try omega) (by intro q hq; simp at hq ⊢; try omega))
                refine fo_if fo_ne Q (fun Q => ?_) (fun Q => ?_)
                · refine fo_if fo_le Q (fun Q => ?_) (fun Q => ?_)
                  · obtain ⟨m, hm, hR⟩ := Q
                    exact (ih m hm) _ _ hR o6
                  · obtain ⟨m, hm, hR⟩ := Q
                    exact (ih m hm) _ _ hR (gxo.wr (gxo.wr (gxo.wr o6 (by simp)) (by simp)) (by simp))
                · rw [Q.2]; exact o6
  have Q := q_Rd_readProduct4_0 h
  obtain ⟨r1, H1, c1, Q⟩ := Q
  have o1 : gxo [10, 12, 18, 17] [] F H1 := gxo.tr gxo.rf (gxo.mono (w_Rd_readUnit4 c1) (by intro q hq; simp at hq ⊢; try omega) (by intro q hq; simp at hq ⊢; try omega))
  refine fo_if fo_ne Q (fun Q => ?_) (fun Q => ?_)
  · obtain ⟨m, hm, hR⟩ := Q
    exact (lp m) _ _ hR o1
  · rw [Q.2]; exact o1
theorem w_Rd_readSum4 {F : fx_F} {v : fx_V} {F' : fx_F} (h : Cl k_Rd_readSum4 [(2, 10), (0, 4)] F v F') : gxo [10, 12, 18, 17] [] F F' := by
  obtain ⟨n, h⟩ := c_Rd_readSum4 h
  have lp : ∀ n : Nat, (∀ (l2 : Nat) (F2 : fx_F), Rn n k_Rd_readSum4 12 [(2, 10), (0, 4), (0, l2), (3, 0)] [] F2 v F' → gxo [10, 12, 18, 17] [] F F2 → gxo [10, 12, 18, 17] [] F F') := by
    intro n
    induction n using Nat.strongRecOn with
    | ind n ih =>
      refine fun l2 F2 h ho => ?_
      · have Q := q_Rd_readSum4_12 h
        clear h
        refine fo_if fo_le Q (fun Q => ?_) (fun Q => ?_)
        · rw [Q.2]; exact ho
        · refine fo_if fo_eq Q (fun Q => ?_) (fun Q => ?_)
          · obtain ⟨H1, c1, Q⟩ := Q
            have o1 : gxo [10, 12, 18, 17] [] F H1 := gxo.tr ho (gxo.mono (w_Rd_advance c1) (by intro q hq; simp at hq ⊢; try omega) (by intro q hq; simp at hq ⊢; try omega))
            obtain ⟨r2, H2, c2, Q⟩ := Q
            have o2 : gxo [10, 12, 18, 17] [] F H2 := gxo.tr o1 (gxo.mono (w_Rd_readProduct4 c2) (by intro q hq; simp at hq ⊢; try omega) (by intro q hq; simp at hq ⊢; try omega))
            refine fo_if fo_ne Q (fun Q => ?_) (fun Q => ?_)
            · refine fo_if fo_le Q (fun Q => ?_) (fun Q => ?_)
              · obtain ⟨m, hm, hR⟩ := Q
                exact (ih m hm) _ _ hR o2
              · obtain ⟨m, hm, hR⟩ := Q
                exact (ih m hm) _ _ hR (gxo.wr (gxo.wr (gxo.wr o2 (by simp)) (by simp)) (by simp))
            · rw [Q.2]; exact o2
          · refine fo_if fo_ne Q (fun Q => ?_) (fun Q => ?_)
            · rw [Q.2]; exact ho
            · obtain ⟨H3, c3, Q⟩ := Q
              have o3 : gxo [10, 12, 18, 17] [] F H3 := gxo.tr ho (gxo.mono (w_Rd_advance c3) (by intro q hq; simp at hq ⊢; try omega) (by intro q hq; simp at hq ⊢; try omega))
              obtain ⟨r4, H4, c4, Q⟩ := Q
              have o4 : gxo [10, 12, 18, 17] [] F H4 := gxo.tr o3 (gxo.mono (w_Rd_readProduct4 c4) (by intro q hq; simp at hq ⊢; try omega) (by intro q hq; simp at hq ⊢; try omega))
              refine fo_if fo_ne Q (fun Q => ?_) (fun Q => ?_)
              · refine fo_if fo_le Q (fun Q => ?_) (fun Q => ?_)
                · obtain ⟨m, hm, hR⟩ := Q
                  exact (ih m hm) _ _ hR o4
                · obtain ⟨m, hm, hR⟩ := Q
                  exact (ih m hm) _ _ hR (gxo.wr (gxo.wr (gxo.wr o4 (by simp)) (by simp)) (by simp))
              · rw [Q.2]; exact o4
  have Q := q_Rd_readSum4_0 h
  obtain ⟨r1, H1, c1, Q⟩ := Q
  have o1 : gxo [10, 12, 18, 17] [] F H1 := gxo.tr gxo.rf (gxo.mono (w_Rd_readProduct4 c1) (by intro q hq; simp at hq ⊢; try omega) (by intro q hq; simp at hq ⊢; try omega))
  refine fo_if fo_ne Q (fun Q => ?_) (fun Q => ?_)
  · obtain ⟨m, hm, hR⟩ := Q
    exact (lp m) _ _ hR o1
  · rw [Q.2]; exact o1
theorem w_Rd_readUnit3 {F : fx_F} {v : fx_V} {F' : fx_F} (h : Cl k_Rd_readUnit3 [(2, 10), (0, 3)] F v F') : gxo [10, 12, 18, 17] [] F F' := by
  obtain ⟨n, h⟩ := c_Rd_readUnit3 h
  have Q := q_Rd_readUnit3_0 h
  rw [show i_add 3 1 = 4 from b_add (by decide)] at Q
  obtain ⟨r1, H1, c1, Q⟩ := Q
  have o1 : gxo [10, 12, 18, 17] [] F H1 := gxo.tr gxo.rf (gxo.mono (w_Rd_unitKind c1) (by intro q hq; simp at hq ⊢; try omega) (by intro q hq; simp at hq ⊢; try omega))
  refine fo_if fo_ne Q (fun Q => ?_) (fun Q => ?_)
  · refine fo_if fo_ne Q (fun Q => ?_) (fun Q => ?_)
    · refine fo_if fo_le Q (fun Q => ?_) (fun Q => ?_)
      · obtain ⟨r2, H2, c2, Q⟩ := Q
        have o2 : gxo [10, 12, 18, 17] [] F H2 := gxo.tr o1 (gxo.mono (w_Rd_fail c2) (by intro q hq; simp at hq ⊢; try omega) (by intro q hq; simp at hq ⊢; try omega))
        rw [Q.2]; exact o2
      · have Q := Q.1 (by rw [b_le (by decide) (by decide)] <;> decide)
        obtain ⟨H3, c3, Q⟩ := Q
        have o3 : gxo [10, 12, 18, 17] [] F H3 := gxo.tr (gxo.wr o1 (by simp)) (gxo.mono (w_Rd_advance c3) (by intro q hq; simp at hq ⊢; try omega) (by intro q hq; simp at hq ⊢; try omega))
        refine fo_if fo_ne Q (fun Q => ?_) (fun Q => ?_)
        · refine fo_if fo_ne Q (fun Q => ?_) (fun Q => ?_)
          · refine fo_if fo_le Q (fun Q => ?_) (fun Q => ?_)
            · rw [Q.2]; exact o3
            · rw [Q.2]; exact (gxo.wr (gxo.wr (gxo.wr o3 (by simp)) (by simp)) (by simp))
          · obtain ⟨r4, H4, c4, Q⟩ := Q
            have o4 : gxo [10, 12, 18, 17] [] F H4 := gxo.tr o3 (gxo.mono (w_Rd_readUnit4 c4) (by intro q hq; simp at hq ⊢; try omega) (by intro q hq; simp at hq ⊢; try omega))
            refine fo_if fo_ne Q (fun Q => ?_) (fun Q => ?_)
            · refine fo_if fo_le Q (fun Q => ?_) (fun Q => ?_)
              · rw [Q.2]; exact o4
              · rw [Q.2]; exact (gxo.wr (gxo.wr (gxo.wr o4 (by simp)) (by simp)) (by simp))
            · rw [Q.2]; exact o4
        · obtain ⟨r5, H5, c5, Q⟩ := Q
          have o5 : gxo [10, 12, 18, 17] [] F H5 := gxo.tr o3 (gxo.mono (w_Rd_readSum4 c5) (by intro q hq; simp at hq ⊢; try omega) (by intro q hq; simp at hq ⊢; try omega))
          refine fo_if fo_eq Q (fun Q => ?_) (fun Q => ?_)
          · rw [Q.2]; exact o5
          · obtain ⟨r6, H6, c6, Q⟩ := Q
            have o6 : gxo [10, 12, 18, 17] [] F H6 := gxo.tr o5 (gxo.mono (w_Rd_readSign c6) (by intro q hq; simp at hq ⊢; try omega) (by intro q hq; simp at hq ⊢; try omega))
            refine fo_if fo_eq Q (fun Q => ?_) (fun Q => ?_)
            · rw [Q.2]; exact o6
            · rw [Q.2]; exact o6
    · refine fo_if fo_le Q (fun Q => ?_) (fun Q => ?_)
      · refine fo_if fo_le Q (fun Q => ?_) (fun Q => ?_)
        · obtain ⟨r7, H7, c7, Q⟩ := Q
          have o7 : gxo [10, 12, 18, 17] [] F H7 := gxo.tr o1 (gxo.mono (w_Rd_fail c7) (by intro q hq; simp at hq ⊢; try omega) (by intro q hq; simp at hq ⊢; try omega))
          rw [Q.2]; exact o7
        · have Q := Q.1 (by rw [b_le (by decide) (by decide)] <;> decide)
          obtain ⟨H8, c8, Q⟩ := Q
          have o8 : gxo [10, 12, 18, 17] [] F H8 := gxo.tr (gxo.wr o1 (by simp)) (gxo.mono (w_Rd_advance c8) (by intro q hq; simp at hq ⊢; try omega) (by intro q hq; simp at hq ⊢; try omega))
          refine fo_if fo_ne Q (fun Q => ?_) (fun Q => ?_)
          · refine fo_if fo_ne Q (fun Q => ?_) (fun Q => ?_)
            · refine fo_if fo_le Q (fun Q => ?_) (fun Q => ?_)
              · rw [Q.2]; exact o8
              · rw [Q.2]; exact (gxo.wr (gxo.wr (gxo.wr o8 (by simp)) (by simp)) (by simp))
            · obtain ⟨r9, H9, c9, Q⟩ := Q
              have o9 : gxo [10, 12, 18, 17] [] F H9 := gxo.tr o8 (gxo.mono (w_Rd_readUnit4 c9) (by intro q hq; simp at hq ⊢; try omega) (by intro q hq; simp at hq ⊢; try omega))
              refine fo_if fo_ne Q (fun Q => ?_) (fun Q => ?_)
              · refine fo_if fo_le Q (fun Q => ?_) (fun Q => ?_)
                · rw [Q.2]; exact o9
                · rw [Q.2]; exact (gxo.wr (gxo.wr (gxo.wr o9 (by simp)) (by simp)) (by simp))
              · rw [Q.2]; exact o9
          · obtain ⟨r10, H10, c10, Q⟩ := Q
            have o10 : gxo [10, 12, 18, 17] [] F H10 := gxo.tr o8 (gxo.mono (w_Rd_readSum4 c10) (by intro q hq; simp at hq ⊢; try omega) (by intro q hq; simp at hq ⊢; try omega))
            refine fo_if fo_eq Q (fun Q => ?_) (fun Q => ?_)
            · rw [Q.2]; exact o10
            · obtain ⟨r11, H11, c11, Q⟩ := Q
              have o11 : gxo [10, 12, 18, 17] [] F H11 := gxo.tr o10 (gxo.mono (w_Rd_readSign c11) (by intro q hq; simp at hq ⊢; try omega) (by intro q hq; simp at hq ⊢; try omega))
              refine fo_if fo_eq Q (fun Q => ?_) (fun Q => ?_)
              · rw [Q.2]; exact o11
              · rw [Q.2]; exact o11
      · obtain ⟨r12, H12, c12, Q⟩ := Q
        have o12 : gxo [10, 12, 18, 17] [] F H12 := gxo.tr o1 (gxo.mono (w_Rd_fail c12) (by intro q hq; simp at hq ⊢; try omega) (by intro q hq; simp at hq ⊢; try omega))
        rw [Q.2]; exact o12
  · obtain ⟨r13, H13, c13, Q⟩ := Q
    have o13 : gxo [10, 12, 18, 17] [] F H13 := gxo.tr o1 (gxo.mono (w_Rd_fail c13) (by intro q hq; simp at hq ⊢; try omega) (by intro q hq; simp at hq ⊢; try omega))
    rw [Q.2]; exact o13
theorem w_Rd_readProduct3 {F : fx_F} {v : fx_V} {F' : fx_F} (h : Cl k_Rd_readProduct3 [(2, 10), (0, 3)] F v F') : gxo [10, 12, 18, 17] [] F F' := by
  obtain ⟨n, h⟩ := c_Rd_readProduct3 h
  have lp : ∀ n : Nat, (∀ (l2 : Nat) (F2 : fx_F), Rn n k_Rd_readProduct3 12 [(2, 10), (0, 3), (0, l2), (3, 0)] [] F2 v F' → gxo [10, 12, 18, 17] [] F F2 → gxo [10, 12, 18, 17] [] F F') := by
    intro n
    induction n using Nat.strongRecOn with
    | ind n ih =>
      refine fun l2 F2 h ho => ?_
      · have Q := q_Rd_readProduct3_12 h
        clear h
        refine fo_if fo_le Q (fun Q => ?_) (fun Q => ?_)
        · rw [Q.2]; exact ho
        · refine fo_if fo_eq Q (fun Q => ?_) (fun Q => ?_)
          · obtain ⟨H1, c1, Q⟩ := Q
            have o1 : gxo [10, 12, 18, 17] [] F H1 := gxo.tr ho (gxo.mono (w_Rd_advance c1) (by intro q hq; simp at hq ⊢; try omega) (by intro q hq; simp at hq ⊢; try omega))
            obtain ⟨r2, H2, c2, Q⟩ := Q
            have o2 : gxo [10, 12, 18, 17] [] F H2 := gxo.tr o1 (gxo.mono (w_Rd_readUnit3 c2) (by intro q hq; simp at hq ⊢; try omega) (by intro q hq; simp at hq ⊢; try omega))
            refine fo_if fo_ne Q (fun Q => ?_) (fun Q => ?_)
            · refine fo_if fo_le Q (fun Q => ?_) (fun Q => ?_)
              · obtain ⟨m, hm, hR⟩ := Q
                exact (ih m hm) _ _ hR o2
              · obtain ⟨m, hm, hR⟩ := Q
                exact (ih m hm) _ _ hR (gxo.wr (gxo.wr (gxo.wr o2 (by simp)) (by simp)) (by simp))
            · rw [Q.2]; exact o2
          · refine fo_if fo_eq Q (fun Q => ?_) (fun Q => ?_)
            · obtain ⟨H3, c3, Q⟩ := Q
              have o3 : gxo [10, 12, 18, 17] [] F H3 := gxo.tr ho (gxo.mono (w_Rd_advance c3) (by intro q hq; simp at hq ⊢; try omega) (by intro q hq; simp at hq ⊢; try omega))
              obtain ⟨r4, H4, c4, Q⟩ := Q
              have o4 : gxo [10, 12, 18, 17] [] F H4 := gxo.tr o3 (gxo.mono (w_Rd_readUnit3 c4) (by intro q hq; simp at hq ⊢; try omega) (by intro q hq; simp at hq ⊢; try omega))
              refine fo_if fo_ne Q (fun Q => ?_) (fun Q => ?_)
              · refine fo_if fo_le Q (fun Q => ?_) (fun Q => ?_)
                · obtain ⟨m, hm, hR⟩ := Q
                  exact (ih m hm) _ _ hR o4
                · obtain ⟨m, hm, hR⟩ := Q
                  exact (ih m hm) _ _ hR (gxo.wr (gxo.wr (gxo.wr o4 (by simp)) (by simp)) (by simp))
              · rw [Q.2]; exact o4
            · refine fo_if fo_ne Q (fun Q => ?_) (fun Q => ?_)
              · rw [Q.2]; exact ho
              · obtain ⟨H5, c5, Q⟩ := Q
                have o5 : gxo [10, 12, 18, 17] [] F H5 := gxo.tr ho (gxo.mono (w_Rd_advance c5) (by intro q hq; simp at hq ⊢; try omega) (by intro q hq; simp at hq ⊢; try omega))
                obtain ⟨r6, H6, c6, Q⟩ := Q
                have o6 : gxo [10, 12, 18, 17] [] F H6 := gxo.tr o5 (gxo.mono (w_Rd_readUnit3 c6) (by intro q hq; simp at hq ⊢; try omega) (by intro q hq; simp at hq ⊢; try omega))
                refine fo_if fo_ne Q (fun Q => ?_) (fun Q => ?_)
                · refine fo_if fo_le Q (fun Q => ?_) (fun Q => ?_)
                  · obtain ⟨m, hm, hR⟩ := Q
                    exact (ih m hm) _ _ hR o6
                  · obtain ⟨m, hm, hR⟩ := Q
                    exact (ih m hm) _ _ hR (gxo.wr (gxo.wr (gxo.wr o6 (by simp)) (by simp)) (by simp))
                · rw [Q.2]; exact o6
  have Q := q_Rd_readProduct3_0 h
  obtain ⟨r1, H1, c1, Q⟩ := Q
  have o1 : gxo [10, 12, 18, 17] [] F H1 := gxo.tr gxo.rf (gxo.mono (w_Rd_readUnit3 c1) (by intro q hq; simp at hq ⊢; try omega) (by intro q hq; simp at hq ⊢; try omega))
  refine fo_if fo_ne Q (fun Q => ?_) (fun Q => ?_)
  · obtain ⟨m, hm, hR⟩ := Q
    exact (lp m) _ _ hR o1
  · rw [Q.2]; exact o1
theorem w_Rd_readSum3 {F : fx_F} {v : fx_V} {F' : fx_F} (h : Cl k_Rd_readSum3 [(2, 10), (0, 3)] F v F') : gxo [10, 12, 18, 17] [] F F' := by
  obtain ⟨n, h⟩ := c_Rd_readSum3 h
  have lp : ∀ n : Nat, (∀ (l2 : Nat) (F2 : fx_F), Rn n k_Rd_readSum3 12 [(2, 10), (0, 3), (0, l2), (3, 0)] [] F2 v F' → gxo [10, 12, 18, 17] [] F F2 → gxo [10, 12, 18, 17] [] F F') := by
    intro n
    induction n using Nat.strongRecOn with
    | ind n ih =>
      refine fun l2 F2 h ho => ?_
      · have Q := q_Rd_readSum3_12 h
        clear h
        refine fo_if fo_le Q (fun Q => ?_) (fun Q => ?_)
        · rw [Q.2]; exact ho
        · refine fo_if fo_eq Q (fun Q => ?_) (fun Q => ?_)
          · obtain ⟨H1, c1, Q⟩ := Q
            have o1 : gxo [10, 12, 18, 17] [] F H1 := gxo.tr ho (gxo.mono (w_Rd_advance c1) (by intro q hq; simp at hq ⊢; try omega) (by intro q hq; simp at hq ⊢; try omega))
            obtain ⟨r2, H2, c2, Q⟩ := Q
            have o2 : gxo [10, 12, 18, 17] [] F H2 := gxo.tr o1 (gxo.mono (w_Rd_readProduct3 c2) (by intro q hq; simp at hq ⊢; try omega) (by intro q hq; simp at hq ⊢; try omega))
            refine fo_if fo_ne Q (fun Q => ?_) (fun Q => ?_)
            · refine fo_if fo_le Q (fun Q => ?_) (fun Q => ?_)
              · obtain ⟨m, hm, hR⟩ := Q
                exact (ih m hm) _ _ hR o2
              · obtain ⟨m, hm, hR⟩ := Q
                exact (ih m hm) _ _ hR (gxo.wr (gxo.wr (gxo.wr o2 (by simp)) (by simp)) (by simp))
            · rw [Q.2]; exact o2
          · refine fo_if fo_ne Q (fun Q => ?_) (fun Q => ?_)
            · rw [Q.2]; exact ho
            · obtain ⟨H3, c3, Q⟩ := Q
              have o3 : gxo [10, 12, 18, 17] [] F H3 := gxo.tr ho (gxo.mono (w_Rd_advance c3) (by intro q hq; simp at hq ⊢; try omega) (by intro q hq; simp at hq ⊢; try omega))
              obtain ⟨r4, H4, c4, Q⟩ := Q
              have o4 : gxo [10, 12, 18, 17] [] F H4 := gxo.tr o3 (gxo.mono (w_Rd_readProduct3 c4) (by intro q hq; simp at hq ⊢; try omega) (by intro q hq; simp at hq ⊢; try omega))
              refine fo_if fo_ne Q (fun Q => ?_) (fun Q => ?_)
              · refine fo_if fo_le Q (fun Q => ?_) (fun Q => ?_)
                · obtain ⟨m, hm, hR⟩ := Q
                  exact (ih m hm) _ _ hR o4
                · obtain ⟨m, hm, hR⟩ := Q
                  exact (ih m hm) _ _ hR (gxo.wr (gxo.wr (gxo.wr o4 (by simp)) (by simp)) (by simp))
              · rw [Q.2]; exact o4
  have Q := q_Rd_readSum3_0 h
  obtain ⟨r1, H1, c1, Q⟩ := Q
  have o1 : gxo [10, 12, 18, 17] [] F H1 := gxo.tr gxo.rf (gxo.mono (w_Rd_readProduct3 c1) (by intro q hq; simp at hq ⊢; try omega) (by intro q hq; simp at hq ⊢; try omega))
  refine fo_if fo_ne Q (fun Q => ?_) (fun Q => ?_)
  · obtain ⟨m, hm, hR⟩ := Q
    exact (lp m) _ _ hR o1
  · rw [Q.2]; exact o1
theorem w_Rd_readUnit2 {F : fx_F} {v : fx_V} {F' : fx_F} (h : Cl k_Rd_readUnit2 [(2, 10), (0, 2)] F v F') : gxo [10, 12, 18, 17] [] F F' := by
  obtain ⟨n, h⟩ := c_Rd_readUnit2 h
  have Q := q_Rd_readUnit2_0 h
  rw [show i_add 2 1 = 3 from b_add (by decide)] at Q
  obtain ⟨r1, H1, c1, Q⟩ := Q
  have o1 : gxo [10, 12, 18, 17] [] F H1 := gxo.tr gxo.rf (gxo.mono (w_Rd_unitKind c1) (by intro q hq; simp at hq ⊢; try omega) (by intro q hq; simp at hq ⊢; try omega))
  refine fo_if fo_ne Q (fun Q => ?_) (fun Q => ?_)
  · refine fo_if fo_ne Q (fun Q => ?_) (fun Q => ?_)
    · refine fo_if fo_le Q (fun Q => ?_) (fun Q => ?_)
      · obtain ⟨r2, H2, c2, Q⟩ := Q
        have o2 : gxo [10, 12, 18, 17] [] F H2 := gxo.tr o1 (gxo.mono (w_Rd_fail c2) (by intro q hq; simp at hq ⊢; try omega) (by intro q hq; simp at hq ⊢; try omega))
        rw [Q.2]; exact o2
      · have Q := Q.1 (by rw [b_le (by decide) (by decide)] <;> decide)
        obtain ⟨H3, c3, Q⟩ := Q
        have o3 : gxo [10, 12, 18, 17] [] F H3 := gxo.tr (gxo.wr o1 (by simp)) (gxo.mono (w_Rd_advance c3) (by intro q hq; simp at hq ⊢; try omega) (by intro q hq; simp at hq ⊢; try omega))
        refine fo_if fo_ne Q (fun Q => ?_) (fun Q => ?_)
        · refine fo_if fo_ne Q (fun Q => ?_) (fun Q => ?_)
          · refine fo_if fo_le Q (fun Q => ?_) (fun Q => ?_)
            · rw [Q.2]; exact o3
            · rw [Q.2]; exact (gxo.wr (gxo.wr (gxo.wr o3 (by simp)) (by simp)) (by simp))
          · obtain ⟨r4, H4, c4, Q⟩ := Q
            have o4 : gxo [10, 12, 18, 17] [] F H4 := gxo.tr o3 (gxo.mono (w_Rd_readUnit3 c4) (by intro q hq; simp at hq ⊢; try omega) (by intro q hq; simp at hq ⊢; try omega))
            refine fo_if fo_ne Q (fun Q => ?_) (fun Q => ?_)
            · refine fo_if fo_le Q (fun Q => ?_) (fun Q => ?_)
              · rw [Q.2]; exact o4
              · rw [Q.2]; exact (gxo.wr (gxo.wr (gxo.wr o4 (by simp)) (by simp)) (by simp))
            · rw [Q.2]; exact o4
        · obtain ⟨r5, H5, c5, Q⟩ := Q
          have o5 : gxo [10, 12, 18, 17] [] F H5 := gxo.tr o3 (gxo.mono (w_Rd_readSum3 c5) (by intro q hq; simp at hq ⊢; try omega) (by intro q hq; simp at hq ⊢; try omega))
          refine fo_if fo_eq Q (fun Q => ?_) (fun Q => ?_)
          · rw [Q.2]; exact o5
          · obtain ⟨r6, H6, c6, Q⟩ := Q
            have o6 : gxo [10, 12, 18, 17] [] F H6 := gxo.tr o5 (gxo.mono (w_Rd_readSign c6) (by intro q hq; simp at hq ⊢; try omega) (by intro q hq; simp at hq ⊢; try omega))
            refine fo_if fo_eq Q (fun Q => ?_) (fun Q => ?_)
            · rw [Q.2]; exact o6
            · rw [Q.2]; exact o6
    · refine fo_if fo_le Q (fun Q => ?_) (fun Q => ?_)
      · refine fo_if fo_le Q (fun Q => ?_) (fun Q => ?_)
        · obtain ⟨r7, H7, c7, Q⟩ := Q
          have o7 : gxo [10, 12, 18, 17] [] F H7 := gxo.tr o1 (gxo.mono (w_Rd_fail c7) (by intro q hq; simp at hq ⊢; try omega) (by intro q hq; simp at hq ⊢; try omega))
          rw [Q.2]; exact o7
        · have Q := Q.1 (by rw [b_le (by decide) (by decide)] <;> decide)
          obtain ⟨H8, c8, Q⟩ := Q
          have o8 : gxo [10, 12, 18, 17] [] F H8 := gxo.tr (gxo.wr o1 (by simp)) (gxo.mono (w_Rd_advance c8) (by intro q hq; simp at hq ⊢; try omega) (by intro q hq; simp at hq ⊢; try omega))
          refine fo_if fo_ne Q (fun Q => ?_) (fun Q => ?_)
          · refine fo_if fo_ne Q (fun Q => ?_) (fun Q => ?_)
            · refine fo_if fo_le Q (fun Q => ?_) (fun Q => ?_)
              · rw [Q.2]; exact o8
              · rw [Q.2]; exact (gxo.wr (gxo.wr (gxo.wr o8 (by simp)) (by simp)) (by simp))
            · obtain ⟨r9, H9, c9, Q⟩ := Q
              have o9 : gxo [10, 12, 18, 17] [] F H9 := gxo.tr o8 (gxo.mono (w_Rd_readUnit3 c9) (by intro q hq; simp at hq ⊢; try omega) (by intro q hq; simp at hq ⊢; try omega))
              refine fo_if fo_ne Q (fun Q => ?_) (fun Q => ?_)
              · refine fo_if fo_le Q (fun Q => ?_) (fun Q => ?_)
                · rw [Q.2]; exact o9
                · rw [Q.2]; exact (gxo.wr (gxo.wr (gxo.wr o9 (by simp)) (by simp)) (by simp))
              · rw [Q.2]; exact o9
          · obtain ⟨r10, H10, c10, Q⟩ := Q
            have o10 : gxo [10, 12, 18, 17] [] F H10 := gxo.tr o8 (gxo.mono (w_Rd_readSum3 c10) (by intro q hq; simp at hq ⊢; try omega) (by intro q hq; simp at hq ⊢; try omega))
            refine fo_if fo_eq Q (fun Q => ?_) (fun Q => ?_)
            · rw [Q.2]; exact o10
            · obtain ⟨r11, H11, c11, Q⟩ := Q
              have o11 : gxo [10, 12, 18, 17] [] F H11 := gxo.tr o10 (gxo.mono (w_Rd_readSign c11) (by intro q hq; simp at hq ⊢; try omega) (by intro q hq; simp at hq ⊢; try omega))
              refine fo_if fo_eq Q (fun Q => ?_) (fun Q => ?_)
              · rw [Q.2]; exact o11
              · rw [Q.2]; exact o11
      · obtain ⟨r12, H12, c12, Q⟩ := Q
        have o12 : gxo [10, 12, 18, 17] [] F H12 := gxo.tr o1 (gxo.mono (w_Rd_fail c12) (by intro q hq; simp at hq ⊢; try omega) (by intro q hq; simp at hq ⊢; try omega))
        rw [Q.2]; exact o12
  · obtain ⟨r13, H13, c13, Q⟩ := Q
    have o13 : gxo [10, 12, 18, 17] [] F H13 := gxo.tr o1 (gxo.mono (w_Rd_fail c13) (by intro q hq; simp at hq ⊢; try omega) (by intro q hq; simp at hq ⊢; try omega))
    rw [Q.2]; exact o13
theorem w_Rd_readProduct2 {F : fx_F} {v : fx_V} {F' : fx_F} (h : Cl k_Rd_readProduct2 [(2, 10), (0, 2)] F v F') : gxo [10, 12, 18, 17] [] F F' := by
  obtain ⟨n, h⟩ := c_Rd_readProduct2 h
  have lp : ∀ n : Nat, (∀ (l2 : Nat) (F2 : fx_F), Rn n k_Rd_readProduct2 12 [(2, 10), (0, 2), (0, l2), (3, 0)] [] F2 v F' → gxo [10, 12, 18, 17] [] F F2 → gxo [10, 12, 18, 17] [] F F') := by
    intro n
    induction n using Nat.strongRecOn with
    | ind n ih =>
      refine fun l2 F2 h ho => ?_
      · have Q := q_Rd_readProduct2_12 h
        clear h
        refine fo_if fo_le Q (fun Q => ?_) (fun Q => ?_)
        · rw [Q.2]; exact ho
        · refine fo_if fo_eq Q (fun Q => ?_) (fun Q => ?_)
          · obtain ⟨H1, c1, Q⟩ := Q
            have o1 : gxo [10, 12, 18, 17] [] F H1 := gxo.tr ho (gxo.mono (w_Rd_advance c1) (by intro q hq; simp at hq ⊢; try omega) (by intro q hq; simp at hq ⊢; try omega))
            obtain ⟨r2, H2, c2, Q⟩ := Q
            have o2 : gxo [10, 12, 18, 17] [] F H2 := gxo.tr o1 (gxo.mono (w_Rd_readUnit2 c2) (by intro q hq; simp at hq ⊢; try omega) (by intro q hq; simp at hq ⊢; try omega))
            refine fo_if fo_ne Q (fun Q => ?_) (fun Q => ?_)
            · refine fo_if fo_le Q (fun Q => ?_) (fun Q => ?_)
              · obtain ⟨m, hm, hR⟩ := Q
                exact (ih m hm) _ _ hR o2
              · obtain ⟨m, hm, hR⟩ := Q
                exact (ih m hm) _ _ hR (gxo.wr (gxo.wr (gxo.wr o2 (by simp)) (by simp)) (by simp))
            · rw [Q.2]; exact o2
          · refine fo_if fo_eq Q (fun Q => ?_) (fun Q => ?_)
            · obtain ⟨H3, c3, Q⟩ := Q
              have o3 : gxo [10, 12, 18, 17] [] F H3 := gxo.tr ho (gxo.mono (w_Rd_advance c3) (by intro q hq; simp at hq ⊢; try omega) (by intro q hq; simp at hq ⊢; try omega))
              obtain ⟨r4, H4, c4, Q⟩ := Q
              have o4 : gxo [10, 12, 18, 17] [] F H4 := gxo.tr o3 (gxo.mono (w_Rd_readUnit2 c4) (by intro q hq; simp at hq ⊢; try omega) (by intro q hq; simp at hq ⊢; try omega))
              refine fo_if fo_ne Q (fun Q => ?_) (fun Q => ?_)
              · refine fo_if fo_le Q (fun Q => ?_) (fun Q => ?_)
                · obtain ⟨m, hm, hR⟩ := Q
                  exact (ih m hm) _ _ hR o4
                · obtain ⟨m, hm, hR⟩ := Q
                  exact (ih m hm) _ _ hR (gxo.wr (gxo.wr (gxo.wr o4 (by simp)) (by simp)) (by simp))
              · rw [Q.2]; exact o4
            · refine fo_if fo_ne Q (fun Q => ?_) (fun Q => ?_)
              · rw [Q.2]; exact ho
              · obtain ⟨H5, c5, Q⟩ := Q
                have o5 : gxo [10, 12, 18, 17] [] F H5 := gxo.tr ho (gxo.mono (w_Rd_advance c5) (by intro q hq; simp at hq ⊢; try omega) (by intro q hq; simp at hq ⊢; try omega))
                obtain ⟨r6, H6, c6, Q⟩ := Q
                have o6 : gxo [10, 12, 18, 17] [] F H6 := gxo.tr o5 (gxo.mono (w_Rd_readUnit2 c6) (by intro q hq; simp at hq ⊢; try omega) (by intro q hq; simp at hq ⊢; try omega))
                refine fo_if fo_ne Q (fun Q => ?_) (fun Q => ?_)
                · refine fo_if fo_le Q (fun Q => ?_) (fun Q => ?_)
                  · obtain ⟨m, hm, hR⟩ := Q
                    exact (ih m hm) _ _ hR o6
                  · obtain ⟨m, hm, hR⟩ := Q
                    exact (ih m hm) _ _ hR (gxo.wr (gxo.wr (gxo.wr o6 (by simp)) (by simp)) (by simp))
                · rw [Q.2]; exact o6
  have Q := q_Rd_readProduct2_0 h
  obtain ⟨r1, H1, c1, Q⟩ := Q
  have o1 : gxo [10, 12, 18, 17] [] F H1 := gxo.tr gxo.rf (gxo.mono (w_Rd_readUnit2 c1) (by intro q hq; simp at hq ⊢; try omega) (by intro q hq; simp at hq ⊢; try omega))
  refine fo_if fo_ne Q (fun Q => ?_) (fun Q => ?_)
  · obtain ⟨m, hm, hR⟩ := Q
    exact (lp m) _ _ hR o1
  · rw [Q.2]; exact o1
theorem w_Rd_readSum2 {F : fx_F} {v : fx_V} {F' : fx_F} (h : Cl k_Rd_readSum2 [(2, 10), (0, 2)] F v F') : gxo [10, 12, 18, 17] [] F F' := by
  obtain ⟨n, h⟩ := c_Rd_readSum2 h
  have lp : ∀ n : Nat, (∀ (l2 : Nat) (F2 : fx_F), Rn n k_Rd_readSum2 12 [(2, 10), (0, 2), (0, l2), (3, 0)] [] F2 v F' → gxo [10, 12, 18, 17] [] F F2 → gxo [10, 12, 18, 17] [] F F') := by
    intro n
    induction n using Nat.strongRecOn with
    | ind n ih =>
      refine fun l2 F2 h ho => ?_
      · have Q := q_Rd_readSum2_12 h
        clear h
        refine fo_if fo_le Q (fun Q => ?_) (fun Q => ?_)
        · rw [Q.2]; exact ho
        · refine fo_if fo_eq Q (fun Q => ?_) (fun Q => ?_)
          · obtain ⟨H1, c1, Q⟩ := Q
            have o1 : gxo [10, 12, 18, 17] [] F H1 := gxo.tr ho (gxo.mono (w_Rd_advance c1) (by intro q hq; simp at hq ⊢; try omega) (by intro q hq; simp at hq ⊢; try omega))
            obtain ⟨r2, H2, c2, Q⟩ := Q
            have o2 : gxo [10, 12, 18, 17] [] F H2 := gxo.tr o1 (gxo.mono (w_Rd_readProduct2 c2) (by intro q hq; simp at hq ⊢; try omega) (by intro q hq; simp at hq ⊢; try omega))
            refine fo_if fo_ne Q (fun Q => ?_) (fun Q => ?_)
            · refine fo_if fo_le Q (fun Q => ?_) (fun Q => ?_)
              · obtain ⟨m, hm, hR⟩ := Q
                exact (ih m hm) _ _ hR o2
              · obtain ⟨m, hm, hR⟩ := Q
                exact (ih m hm) _ _ hR (gxo.wr (gxo.wr (gxo.wr o2 (by simp)) (by simp)) (by simp))
            · rw [Q.2]; exact o2
          · refine fo_if fo_ne Q (fun Q => ?_) (fun Q => ?_)
            · rw [Q.2]; exact ho
            · obtain ⟨H3, c3, Q⟩ := Q
              have o3 : gxo [10, 12, 18, 17] [] F H3 := gxo.tr ho (gxo.mono (w_Rd_advance c3) (by intro q hq; simp at hq ⊢; try omega) (by intro q hq; simp at hq ⊢; try omega))
              obtain ⟨r4, H4, c4, Q⟩ := Q
              have o4 : gxo [10, 12, 18, 17] [] F H4 := gxo.tr o3 (gxo.mono (w_Rd_readProduct2 c4) (by intro q hq; simp at hq ⊢; try omega) (by intro q hq; simp at hq ⊢; try omega))
              refine fo_if fo_ne Q (fun Q => ?_) (fun Q => ?_)
              · refine fo_if fo_le Q (fun Q => ?_) (fun Q => ?_)
                · obtain ⟨m, hm, hR⟩ := Q
                  exact (ih m hm) _ _ hR o4
                · obtain ⟨m, hm, hR⟩ := Q
                  exact (ih m hm) _ _ hR (gxo.wr (gxo.wr (gxo.wr o4 (by simp)) (by simp)) (by simp))
              · rw [Q.2]; exact o4
  have Q := q_Rd_readSum2_0 h
  obtain ⟨r1, H1, c1, Q⟩ := Q
  have o1 : gxo [10, 12, 18, 17] [] F H1 := gxo.tr gxo.rf (gxo.mono (w_Rd_readProduct2 c1) (by intro q hq; simp at hq ⊢; try omega) (by intro q hq; simp at hq ⊢; try omega))
  refine fo_if fo_ne Q (fun Q => ?_) (fun Q => ?_)
  · obtain ⟨m, hm, hR⟩ := Q
    exact (lp m) _ _ hR o1
  · rw [Q.2]; exact o1
theorem w_Rd_readUnit1 {F : fx_F} {v : fx_V} {F' : fx_F} (h : Cl k_Rd_readUnit1 [(2, 10), (0, 1)] F v F') : gxo [10, 12, 18, 17] [] F F' := by
  obtain ⟨n, h⟩ := c_Rd_readUnit1 h
  have Q := q_Rd_readUnit1_0 h
  rw [show i_add 1 1 = 2 from b_add (by decide)] at Q
  obtain ⟨r1, H1, c1, Q⟩ := Q
  have o1 : gxo [10, 12, 18, 17] [] F H1 := gxo.tr gxo.rf (gxo.mono (w_Rd_unitKind c1) (by intro q hq; simp at hq ⊢; try omega) (by intro q hq; simp at hq ⊢; try omega))
  refine fo_if fo_ne Q (fun Q => ?_) (fun Q => ?_)
  · refine fo_if fo_ne Q (fun Q => ?_) (fun Q => ?_)
    · refine fo_if fo_le Q (fun Q => ?_) (fun Q => ?_)
      · obtain ⟨r2, H2, c2, Q⟩ := Q
        have o2 : gxo [10, 12, 18, 17] [] F H2 := gxo.tr o1 (gxo.mono (w_Rd_fail c2) (by intro q hq; simp at hq ⊢; try omega) (by intro q hq; simp at hq ⊢; try omega))
        rw [Q.2]; exact o2
      · have Q := Q.1 (by rw [b_le (by decide) (by decide)] <;> decide)
        obtain ⟨H3, c3, Q⟩ := Q
        have o3 : gxo [10, 12, 18, 17] [] F H3 := gxo.tr (gxo.wr o1 (by simp)) (gxo.mono (w_Rd_advance c3) (by intro q hq; simp at hq ⊢; try omega) (by intro q hq; simp at hq ⊢; try omega))
        refine fo_if fo_ne Q (fun Q => ?_) (fun Q => ?_)
        · refine fo_if fo_ne Q (fun Q => ?_) (fun Q => ?_)
          · refine fo_if fo_le Q (fun Q => ?_) (fun Q => ?_)
            · rw [Q.2]; exact o3
            · rw [Q.2]; exact (gxo.wr (gxo.wr (gxo.wr o3 (by simp)) (by simp)) (by simp))
          · obtain ⟨r4, H4, c4, Q⟩ := Q
            have o4 : gxo [10, 12, 18, 17] [] F H4 := gxo.tr o3 (gxo.mono (w_Rd_readUnit2 c4) (by intro q hq; simp at hq ⊢; try omega) (by intro q hq; simp at hq ⊢; try omega))
            refine fo_if fo_ne Q (fun Q => ?_) (fun Q => ?_)
            · refine fo_if fo_le Q (fun Q => ?_) (fun Q => ?_)
              · rw [Q.2]; exact o4
              · rw [Q.2]; exact (gxo.wr (gxo.wr (gxo.wr o4 (by simp)) (by simp)) (by simp))
            · rw [Q.2]; exact o4
        · obtain ⟨r5, H5, c5, Q⟩ := Q
          have o5 : gxo [10, 12, 18, 17] [] F H5 := gxo.tr o3 (gxo.mono (w_Rd_readSum2 c5) (by intro q hq; simp at hq ⊢; try omega) (by intro q hq; simp at hq ⊢; try omega))
          refine fo_if fo_eq Q (fun Q => ?_) (fun Q => ?_)
          · rw [Q.2]; exact o5
          · obtain ⟨r6, H6, c6, Q⟩ := Q
            have o6 : gxo [10, 12, 18, 17] [] F H6 := gxo.tr o5 (gxo.mono (w_Rd_readSign c6) (by intro q hq; simp at hq ⊢; try omega) (by intro q hq; simp at hq ⊢; try omega))
            refine fo_if fo_eq Q (fun Q => ?_) (fun Q => ?_)
            · rw [Q.2]; exact o6
            · rw [Q.2]; exact o6
    · refine fo_if fo_le Q (fun Q => ?_) (fun Q => ?_)
      · refine fo_if fo_le Q (fun Q => ?_) (fun Q => ?_)
        · obtain ⟨r7, H7, c7, Q⟩ := Q
          have o7 : gxo [10, 12, 18, 17] [] F H7 := gxo.tr o1 (gxo.mono (w_Rd_fail c7) (by intro q hq; simp at hq ⊢; try omega) (by intro q hq; simp at hq ⊢; try omega))
          rw [Q.2]; exact o7
        · have Q := Q.1 (by rw [b_le (by decide) (by decide)] <;> decide)
          obtain ⟨H8, c8, Q⟩ := Q
          have o8 : gxo [10, 12, 18, 17] [] F H8 := gxo.tr (gxo.wr o1 (by simp)) (gxo.mono (w_Rd_advance c8) (by intro q hq; simp at hq ⊢; try omega) (by intro q hq; simp at hq ⊢; try omega))
          refine fo_if fo_ne Q (fun Q => ?_) (fun Q => ?_)
          · refine fo_if fo_ne Q (fun Q => ?_) (fun Q => ?_)
            · refine fo_if fo_le Q (fun Q => ?_) (fun Q => ?_)
              · rw [Q.2]; exact o8
              · rw [Q.2]; exact (gxo.wr (gxo.wr (gxo.wr o8 (by simp)) (by simp)) (by simp))
            · obtain ⟨r9, H9, c9, Q⟩ := Q
              have o9 : gxo [10, 12, 18, 17] [] F H9 := gxo.tr o8 (gxo.mono (w_Rd_readUnit2 c9) (by intro q hq; simp at hq ⊢; try omega) (by intro q hq; simp at hq ⊢; try omega))
              refine fo_if fo_ne Q (fun Q => ?_) (fun Q => ?_)
              · refine fo_if fo_le Q (fun Q => ?_) (fun Q => ?_)
                · rw [Q.2]; exact o9
                · rw [Q.2]; exact (gxo.wr (gxo.wr (gxo.wr o9 (by simp)) (by simp)) (by simp))
              · rw [Q.2]; exact o9
          · obtain ⟨r10, H10, c10, Q⟩ := Q
            have o10 : gxo [10, 12, 18, 17] [] F H10 := gxo.tr o8 (gxo.mono (w_Rd_readSum2 c10) (by intro q hq; simp at hq ⊢; try omega) (by intro q hq; simp at hq ⊢; try omega))
            refine fo_if fo_eq Q (fun Q => ?_) (fun Q => ?_)
            · rw [Q.2]; exact o10
            · obtain ⟨r11, H11, c11, Q⟩ := Q
              have o11 : gxo [10, 12, 18, 17] [] F H11 := gxo.tr o10 (gxo.mono (w_Rd_readSign c11) (by intro q hq; simp at hq ⊢; try omega) (by intro q hq; simp at hq ⊢; try omega))
              refine fo_if fo_eq Q (fun Q => ?_) (fun Q => ?_)
              · rw [Q.2]; exact o11
              · rw [Q.2]; exact o11
      · obtain ⟨r12, H12, c12, Q⟩ := Q
        have o12 : gxo [10, 12, 18, 17] [] F H12 := gxo.tr o1 (gxo.mono (w_Rd_fail c12) (by intro q hq; simp at hq ⊢; try omega) (by intro q hq; simp at hq ⊢; try omega))
        rw [Q.2]; exact o12
  · obtain ⟨r13, H13, c13, Q⟩ := Q
    have o13 : gxo [10, 12, 18, 17] [] F H13 := gxo.tr o1 (gxo.mono (w_Rd_fail c13) (by intro q hq; simp at hq ⊢; try omega) (by intro q hq; simp at hq ⊢; try omega))
    rw [Q.2]; exact o13
theorem w_Rd_readProduct1 {F : fx_F} {v : fx_V} {F' : fx_F} (h : Cl k_Rd_readProduct1 [(2, 10), (0, 1)] F v F') : gxo [10, 12, 18, 17] [] F F' := by
  obtain ⟨n, h⟩ := c_Rd_readProduct1 h
  have lp : ∀ n : Nat, (∀ (l2 : Nat) (F2 : fx_F), Rn n k_Rd_readProduct1 12 [(2, 10), (0, 1), (0, l2), (3, 0)] [] F2 v F' → gxo [10, 12, 18, 17] [] F F2 → gxo [10, 12, 18, 17] [] F F') := by
    intro n
    induction n using Nat.strongRecOn with
    | ind n ih =>
      refine fun l2 F2 h ho => ?_
      · have Q := q_Rd_readProduct1_12 h
        clear h
        refine fo_if fo_le Q (fun Q => ?_) (fun Q => ?_)
        · rw [Q.2]; exact ho
        · refine fo_if fo_eq Q (fun Q => ?_) (fun Q => ?_)
          · obtain ⟨H1, c1, Q⟩ := Q
            have o1 : gxo [10, 12, 18, 17] [] F H1 := gxo.tr ho (gxo.mono (w_Rd_advance c1) (by intro q hq; simp at hq ⊢; try omega) (by intro q hq; simp at hq ⊢; try omega))
            obtain ⟨r2, H2, c2, Q⟩ := Q
            have o2 : gxo [10, 12, 18, 17] [] F H2 := gxo.tr o1 (gxo.mono (w_Rd_readUnit1 c2) (by intro q hq; simp at hq ⊢; try omega) (by intro q hq; simp at hq ⊢; try omega))
            refine fo_if fo_ne Q (fun Q => ?_) (fun Q => ?_)
            · refine fo_if fo_le Q (fun Q => ?_) (fun Q => ?_)
              · obtain ⟨m, hm, hR⟩ := Q
                exact (ih m hm) _ _ hR o2
              · obtain ⟨m, hm, hR⟩ := Q
                exact (ih m hm) _ _ hR (gxo.wr (gxo.wr (gxo.wr o2 (by simp)) (by simp)) (by simp))
            · rw [Q.2]; exact o2
          · refine fo_if fo_eq Q (fun Q => ?_) (fun Q => ?_)
            · obtain ⟨H3, c3, Q⟩ := Q
              have o3 : gxo [10, 12, 18, 17] [] F H3 := gxo.tr ho (gxo.mono (w_Rd_advance c3) (by intro q hq; simp at hq ⊢; try omega) (by intro q hq; simp at hq ⊢; try omega))
              obtain ⟨r4, H4, c4, Q⟩ := Q
              have o4 : gxo [10, 12, 18, 17] [] F H4 := gxo.tr o3 (gxo.mono (w_Rd_readUnit1 c4) (by intro q hq; simp at hq ⊢; try omega) (by intro q hq; simp at hq ⊢; try omega))
              refine fo_if fo_ne Q (fun Q => ?_) (fun Q => ?_)
              · refine fo_if fo_le Q (fun Q => ?_) (fun Q => ?_)
                · obtain ⟨m, hm, hR⟩ := Q
                  exact (ih m hm) _ _ hR o4
                · obtain ⟨m, hm, hR⟩ := Q
                  exact (ih m hm) _ _ hR (gxo.wr (gxo.wr (gxo.wr o4 (by simp)) (by simp)) (by simp))
              · rw [Q.2]; exact o4
            · refine fo_if fo_ne Q (fun Q => ?_) (fun Q => ?_)
              · rw [Q.2]; exact ho
              · obtain ⟨H5, c5, Q⟩ := Q
                have o5 : gxo [10, 12, 18, 17] [] F H5 := gxo.tr ho (gxo.mono (w_Rd_advance c5) (by intro q hq; simp at hq ⊢; try omega) (by intro q hq; simp at hq ⊢; try omega))
                obtain ⟨r6, H6, c6, Q⟩ := Q
                have o6 : gxo [10, 12, 18, 17] [] F H6 := gxo.tr o5 (gxo.mono (w_Rd_readUnit1 c6) (by intro q hq; simp at hq ⊢; try omega) (by intro q hq; simp at hq ⊢; try omega))
                refine fo_if fo_ne Q (fun Q => ?_) (fun Q => ?_)
                · refine fo_if fo_le Q (fun Q => ?_) (fun Q => ?_)
                  · obtain ⟨m, hm, hR⟩ := Q
                    exact (ih m hm) _ _ hR o6
                  · obtain ⟨m, hm, hR⟩ := Q
                    exact (ih m hm) _ _ hR (gxo.wr (gxo.wr (gxo.wr o6 (by simp)) (by simp)) (by simp))
                · rw [Q.2]; exact o6
  have Q := q_Rd_readProduct1_0 h
  obtain ⟨r1, H1, c1, Q⟩ := Q
  have o1 : gxo [10, 12, 18, 17] [] F H1 := gxo.tr gxo.rf (gxo.mono (w_Rd_readUnit1 c1) (by intro q hq; simp at hq ⊢; try omega) (by intro q hq; simp at hq ⊢; try omega))
  refine fo_if fo_ne Q (fun Q => ?_) (fun Q => ?_)
  · obtain ⟨m, hm, hR⟩ := Q
    exact (lp m) _ _ hR o1
  · rw [Q.2]; exact o1
theorem w_Rd_readSum1 {F : fx_F} {v : fx_V} {F' : fx_F} (h : Cl k_Rd_readSum1 [(2, 10), (0, 1)] F v F') : gxo [10, 12, 18, 17] [] F F' := by
  obtain ⟨n, h⟩ := c_Rd_readSum1 h
  have lp : ∀ n : Nat, (∀ (l2 : Nat) (F2 : fx_F), Rn n k_Rd_readSum1 12 [(2, 10), (0, 1), (0, l2), (3, 0)] [] F2 v F' → gxo [10, 12, 18, 17] [] F F2 → gxo [10, 12, 18, 17] [] F F') := by
    intro n
    induction n using Nat.strongRecOn with
    | ind n ih =>
      refine fun l2 F2 h ho => ?_
      · have Q := q_Rd_readSum1_12 h
        clear h
        refine fo_if fo_le Q (fun Q => ?_) (fun Q => ?_)
        · rw [Q.2]; exact ho
        · refine fo_if fo_eq Q (fun Q => ?_) (fun Q => ?_)
          · obtain ⟨H1, c1, Q⟩ := Q
            have o1 : gxo [10, 12, 18, 17] [] F H1 := gxo.tr ho (gxo.mono (w_Rd_advance c1) (by intro q hq; simp at hq ⊢; try omega) (by intro q hq; simp at hq ⊢; try omega))
            obtain ⟨r2, H2, c2, Q⟩ := Q
            have o2 : gxo [10, 12, 18, 17] [] F H2 := gxo.tr o1 (gxo.mono (w_Rd_readProduct1 c2) (by intro q hq; simp at hq ⊢; try omega) (by intro q hq; simp at hq ⊢; try omega))
            refine fo_if fo_ne Q (fun Q => ?_) (fun Q => ?_)
            · refine fo_if fo_le Q (fun Q => ?_) (fun Q => ?_)
              · obtain ⟨m, hm, hR⟩ := Q
                exact (ih m hm) _ _ hR o2
              · obtain ⟨m, hm, hR⟩ := Q
                exact (ih m hm) _ _ hR (gxo.wr (gxo.wr (gxo.wr o2 (by simp)) (by simp)) (by simp))
            · rw [Q.2]; exact o2
          · refine fo_if fo_ne Q (fun Q => ?_) (fun Q => ?_)
            · rw [Q.2]; exact ho
            · obtain ⟨H3, c3, Q⟩ := Q
              have o3 : gxo [10, 12, 18, 17] [] F H3 := gxo.tr ho (gxo.mono (w_Rd_advance c3) (by intro q hq; simp at hq ⊢; try omega) (by intro q hq; simp at hq ⊢; try omega))
              obtain ⟨r4, H4, c4, Q⟩ := Q
              have o4 : gxo [10, 12, 18, 17] [] F H4 := gxo.tr o3 (gxo.mono (w_Rd_readProduct1 c4) (by intro q hq; simp at hq ⊢; try omega) (by intro q hq; simp at hq ⊢; try omega))
              refine fo_if fo_ne Q (fun Q => ?_) (fun Q => ?_)
              · refine fo_if fo_le Q (fun Q => ?_) (fun Q => ?_)
                · obtain ⟨m, hm, hR⟩ := Q
                  exact (ih m hm) _ _ hR o4
                · obtain ⟨m, hm, hR⟩ := Q
                  exact (ih m hm) _ _ hR (gxo.wr (gxo.wr (gxo.wr o4 (by simp)) (by simp)) (by simp))
              · rw [Q.2]; exact o4
  have Q := q_Rd_readSum1_0 h
  obtain ⟨r1, H1, c1, Q⟩ := Q
  have o1 : gxo [10, 12, 18, 17] [] F H1 := gxo.tr gxo.rf (gxo.mono (w_Rd_readProduct1 c1) (by intro q hq; simp at hq ⊢; try omega) (by intro q hq; simp at hq ⊢; try omega))
  refine fo_if fo_ne Q (fun Q => ?_) (fun Q => ?_)
  · obtain ⟨m, hm, hR⟩ := Q
    exact (lp m) _ _ hR o1
  · rw [Q.2]; exact o1
theorem w_Rd_readUnit0 {F : fx_F} {v : fx_V} {F' : fx_F} (h : Cl k_Rd_readUnit0 [(2, 10), (0, 0)] F v F') : gxo [10, 12, 18, 17] [] F F' := by
  obtain ⟨n, h⟩ := c_Rd_readUnit0 h
  have Q := q_Rd_readUnit0_0 h
  rw [show i_add 0 1 = 1 from b_add (by decide)] at Q
  obtain ⟨r1, H1, c1, Q⟩ := Q
  have o1 : gxo [10, 12, 18, 17] [] F H1 := gxo.tr gxo.rf (gxo.mono (w_Rd_unitKind c1) (by intro q hq; simp at hq ⊢; try omega) (by intro q hq; simp at hq ⊢; try omega))
  refine fo_if fo_ne Q (fun Q => ?_) (fun Q => ?_)
  · refine fo_if fo_ne Q (fun Q => ?_) (fun Q => ?_)
    · refine fo_if fo_le Q (fun Q => ?_) (fun Q => ?_)
      · obtain ⟨r2, H2, c2, Q⟩ := Q
        have o2 : gxo [10, 12, 18, 17] [] F H2 := gxo.tr o1 (gxo.mono (w_Rd_fail c2) (by intro q hq; simp at hq ⊢; try omega) (by intro q hq; simp at hq ⊢; try omega))
        rw [Q.2]; exact o2
      · have Q := Q.1 (by rw [b_le (by decide) (by decide)] <;> decide)
        obtain ⟨H3, c3, Q⟩ := Q
        have o3 : gxo [10, 12, 18, 17] [] F H3 := gxo.tr (gxo.wr o1 (by simp)) (gxo.mono (w_Rd_advance c3) (by intro q hq; simp at hq ⊢; try omega) (by intro q hq; simp at hq ⊢; try omega))
        refine fo_if fo_ne Q (fun Q => ?_) (fun Q => ?_)
        · refine fo_if fo_ne Q (fun Q => ?_) (fun Q => ?_)
          · refine fo_if fo_le Q (fun Q => ?_) (fun Q => ?_)
            · rw [Q.2]; exact o3
            · rw [Q.2]; exact (gxo.wr (gxo.wr (gxo.wr o3 (by simp)) (by simp)) (by simp))
          · obtain ⟨r4, H4, c4, Q⟩ := Q
            have o4 : gxo [10, 12, 18, 17] [] F H4 := gxo.tr o3 (gxo.mono (w_Rd_readUnit1 c4) (by intro q hq; simp at hq ⊢; try omega) (by intro q hq; simp at hq ⊢; try omega))
            refine fo_if fo_ne Q (fun Q => ?_) (fun Q => ?_)
            · refine fo_if fo_le Q (fun Q => ?_) (fun Q => ?_)
              · rw [Q.2]; exact o4
              · rw [Q.2]; exact (gxo.wr (gxo.wr (gxo.wr o4 (by simp)) (by simp)) (by simp))
            · rw [Q.2]; exact o4
        · obtain ⟨r5, H5, c5, Q⟩ := Q
          have o5 : gxo [10, 12, 18, 17] [] F H5 := gxo.tr o3 (gxo.mono (w_Rd_readSum1 c5) (by intro q hq; simp at hq ⊢; try omega) (by intro q hq; simp at hq ⊢; try omega))
          refine fo_if fo_eq Q (fun Q => ?_) (fun Q => ?_)
          · rw [Q.2]; exact o5
          · obtain ⟨r6, H6, c6, Q⟩ := Q
            have o6 : gxo [10, 12, 18, 17] [] F H6 := gxo.tr o5 (gxo.mono (w_Rd_readSign c6) (by intro q hq; simp at hq ⊢; try omega) (by intro q hq; simp at hq ⊢; try omega))
            refine fo_if fo_eq Q (fun Q => ?_) (fun Q => ?_)
            · rw [Q.2]; exact o6
            · rw [Q.2]; exact o6
    · refine fo_if fo_le Q (fun Q => ?_) (fun Q => ?_)
      · refine fo_if fo_le Q (fun Q => ?_) (fun Q => ?_)
        · obtain ⟨r7, H7, c7, Q⟩ := Q
          have o7 : gxo [10, 12, 18, 17] [] F H7 := gxo.tr o1 (gxo.mono (w_Rd_fail c7) (by intro q hq; simp at hq ⊢; try omega) (by intro q hq; simp at hq ⊢; try omega))
          rw [Q.2]; exact o7
        · have Q := Q.1 (by rw [b_le (by decide) (by decide)] <;> decide)
          obtain ⟨H8, c8, Q⟩ := Q
          have o8 : gxo [10, 12, 18, 17] [] F H8 := gxo.tr (gxo.wr o1 (by simp)) (gxo.mono (w_Rd_advance c8) (by intro q hq; simp at hq ⊢; try omega) (by intro q hq; simp at hq ⊢; try omega))
          refine fo_if fo_ne Q (fun Q => ?_) (fun Q => ?_)
          · refine fo_if fo_ne Q (fun Q => ?_) (fun Q => ?_)
            · refine fo_if fo_le Q (fun Q => ?_) (fun Q => ?_)
              · rw [Q.2]; exact o8
              · rw [Q.2]; exact (gxo.wr (gxo.wr (gxo.wr o8 (by simp)) (by simp)) (by simp))
            · obtain ⟨r9, H9, c9, Q⟩ := Q
              have o9 : gxo [10, 12, 18, 17] [] F H9 := gxo.tr o8 (gxo.mono (w_Rd_readUnit1 c9) (by intro q hq; simp at hq ⊢; try omega) (by intro q hq; simp at hq ⊢; try omega))
              refine fo_if fo_ne Q (fun Q => ?_) (fun Q => ?_)
              · refine fo_if fo_le Q (fun Q => ?_) (fun Q => ?_)
                · rw [Q.2]; exact o9
                · rw [Q.2]; exact (gxo.wr (gxo.wr (gxo.wr o9 (by simp)) (by simp)) (by simp))
              · rw [Q.2]; exact o9
          · obtain ⟨r10, H10, c10, Q⟩ := Q
            have o10 : gxo [10, 12, 18, 17] [] F H10 := gxo.tr o8 (gxo.mono (w_Rd_readSum1 c10) (by intro q hq; simp at hq ⊢; try omega) (by intro q hq; simp at hq ⊢; try omega))
            refine fo_if fo_eq Q (fun Q => ?_) (fun Q => ?_)
            · rw [Q.2]; exact o10
            · obtain ⟨r11, H11, c11, Q⟩ := Q
              have o11 : gxo [10, 12, 18, 17] [] F H11 := gxo.tr o10 (gxo.mono (w_Rd_readSign c11) (by intro q hq; simp at hq ⊢; try omega) (by intro q hq; simp at hq ⊢; try omega))
              refine fo_if fo_eq Q (fun Q => ?_) (fun Q => ?_)
              · rw [Q.2]; exact o11
              · rw [Q.2]; exact o11
      · obtain ⟨r12, H12, c12, Q⟩ := Q
        have o12 : gxo [10, 12, 18, 17] [] F H12 := gxo.tr o1 (gxo.mono (w_Rd_fail c12) (by intro q hq; simp at hq ⊢; try omega) (by intro q hq; simp at hq ⊢; try omega))
        rw [Q.2]; exact o12
  · obtain ⟨r13, H13, c13, Q⟩ := Q
    have o13 : gxo [10, 12, 18, 17] [] F H13 := gxo.tr o1 (gxo.mono (w_Rd_fail c13) (by intro q hq; simp at hq ⊢; try omega) (by intro q hq; simp at hq ⊢; try omega))
    rw [Q.2]; exact o13
theorem w_Rd_readProduct0 {F : fx_F} {v : fx_V} {F' : fx_F} (h : Cl k_Rd_readProduct0 [(2, 10), (0, 0)] F v F') : gxo [10, 12, 18, 17] [] F F' := by
  obtain ⟨n, h⟩ := c_Rd_readProduct0 h
  have lp : ∀ n : Nat, (∀ (l2 : Nat) (F2 : fx_F), Rn n k_Rd_readProduct0 12 [(2, 10), (0, 0), (0, l2), (3, 0)] [] F2 v F' → gxo [10, 12, 18, 17] [] F F2 → gxo [10, 12, 18, 17] [] F F') := by
    intro n
    induction n using Nat.strongRecOn with
    | ind n ih =>
      refine fun l2 F2 h ho => ?_
      · have Q := q_Rd_readProduct0_12 h
        clear h
        refine fo_if fo_le Q (fun Q => ?_) (fun Q => ?_)
        · rw [Q.2]; exact ho
        · refine fo_if fo_eq Q (fun Q => ?_) (fun Q => ?_)
          · obtain ⟨H1, c1, Q⟩ := Q
            have o1 : gxo [10, 12, 18, 17] [] F H1 := gxo.tr ho (gxo.mono (w_Rd_advance c1) (by intro q hq; simp at hq ⊢; try omega) (by intro q hq; simp at hq ⊢; try omega))
            obtain ⟨r2, H2, c2, Q⟩ := Q
            have o2 : gxo [10, 12, 18, 17] [] F H2 := gxo.tr o1 (gxo.mono (w_Rd_readUnit0 c2) (by intro q hq; simp at hq ⊢; try omega) (by intro q hq; simp at hq ⊢; try omega))
            refine fo_if fo_ne Q (fun Q => ?_) (fun Q => ?_)
            · refine fo_if fo_le Q (fun Q => ?_) (fun Q => ?_)
              · obtain ⟨m, hm, hR⟩ := Q
                exact (ih m hm) _ _ hR o2
              · obtain ⟨m, hm, hR⟩ := Q
                exact (ih m hm) _ _ hR (gxo.wr (gxo.wr (gxo.wr o2 (by simp)) (by simp)) (by simp))
            · rw [Q.2]; exact o2
          · refine fo_if fo_eq Q (fun Q => ?_) (fun Q => ?_)
            · obtain ⟨H3, c3, Q⟩ := Q
              have o3 : gxo [10, 12, 18, 17] [] F H3 := gxo.tr ho (gxo.mono (w_Rd_advance c3) (by intro q hq; simp at hq ⊢; try omega) (by intro q hq; simp at hq ⊢; try omega))
              obtain ⟨r4, H4, c4, Q⟩ := Q
              have o4 : gxo [10, 12, 18, 17] [] F H4 := gxo.tr o3 (gxo.mono (w_Rd_readUnit0 c4) (by intro q hq; simp at hq ⊢; try omega) (by intro q hq; simp at hq ⊢; try omega))
              refine fo_if fo_ne Q (fun Q => ?_) (fun Q => ?_)
              · refine fo_if fo_le Q (fun Q => ?_) (fun Q => ?_)
                · obtain ⟨m, hm, hR⟩ := Q
                  exact (ih m hm) _ _ hR o4
                · obtain ⟨m, hm, hR⟩ := Q
                  exact (ih m hm) _ _ hR (gxo.wr (gxo.wr (gxo.wr o4 (by simp)) (by simp)) (by simp))
              · rw [Q.2]; exact o4
            · refine fo_if fo_ne Q (fun Q => ?_) (fun Q => ?_)
              · rw [Q.2]; exact ho
              · obtain ⟨H5, c5, Q⟩ := Q
                have o5 : gxo [10, 12, 18, 17] [] F H5 := gxo.tr ho (gxo.mono (w_Rd_advance c5) (by intro q hq; simp at hq ⊢; try omega) (by intro q hq; simp at hq ⊢; try omega))
                obtain ⟨r6, H6, c6, Q⟩ := Q
                have o6 : gxo [10, 12, 18, 17] [] F H6 := gxo.tr o5 (gxo.mono (w_Rd_readUnit0 c6) (by intro q hq; simp at hq ⊢; try omega) (by intro q hq; simp at hq ⊢; try omega))
                refine fo_if fo_ne Q (fun Q => ?_) (fun Q => ?_)
                · refine fo_if fo_le Q (fun Q => ?_) (fun Q => ?_)
                  · obtain ⟨m, hm, hR⟩ := Q
                    exact (ih m hm) _ _ hR o6
                  · obtain ⟨m, hm, hR⟩ := Q
                    exact (ih m hm) _ _ hR (gxo.wr (gxo.wr (gxo.wr o6 (by simp)) (by simp)) (by simp))
                · rw [Q.2]; exact o6
  have Q := q_Rd_readProduct0_0 h
  obtain ⟨r1, H1, c1, Q⟩ := Q
  have o1 : gxo [10, 12, 18, 17] [] F H1 := gxo.tr gxo.rf (gxo.mono (w_Rd_readUnit0 c1) (by intro q hq; simp at hq ⊢; try omega) (by intro q hq; simp at hq ⊢; try omega))
  refine fo_if fo_ne Q (fun Q => ?_) (fun Q => ?_)
  · obtain ⟨m, hm, hR⟩ := Q
    exact (lp m) _ _ hR o1
  · rw [Q.2]; exact o1
theorem w_Rd_readSum0 {F : fx_F} {v : fx_V} {F' : fx_F} (h : Cl k_Rd_readSum0 [(2, 10), (0, 0)] F v F') : gxo [10, 12, 18, 17] [] F F' := by
  obtain ⟨n, h⟩ := c_Rd_readSum0 h
  have lp : ∀ n : Nat, (∀ (l2 : Nat) (F2 : fx_F), Rn n k_Rd_readSum0 12 [(2, 10), (0, 0), (0, l2), (3, 0)] [] F2 v F' → gxo [10, 12, 18, 17] [] F F2 → gxo [10, 12, 18, 17] [] F F') := by
    intro n
    induction n using Nat.strongRecOn with
    | ind n ih =>
      refine fun l2 F2 h ho => ?_
      · have Q := q_Rd_readSum0_12 h
        clear h
        refine fo_if fo_le Q (fun Q => ?_) (fun Q => ?_)
        · rw [Q.2]; exact ho
        · refine fo_if fo_eq Q (fun Q => ?_) (fun Q => ?_)
          · obtain ⟨H1, c1, Q⟩ := Q
            have o1 : gxo [10, 12, 18, 17] [] F H1 := gxo.tr ho (gxo.mono (w_Rd_advance c1) (by intro q hq; simp at hq ⊢; try omega) (by intro q hq; simp at hq ⊢; try omega))
            obtain ⟨r2, H2, c2, Q⟩ := Q
            have o2 : gxo [10, 12, 18, 17] [] F H2 := gxo.tr o1 (gxo.mono (w_Rd_readProduct0 c2) (by intro q hq; simp at hq ⊢; try omega) (by intro q hq; simp at hq ⊢; try omega))
            refine fo_if fo_ne Q (fun Q => ?_) (fun Q => ?_)
            · refine fo_if fo_le Q (fun Q => ?_) (fun Q => ?_)
              · obtain ⟨m, hm, hR⟩ := Q
                exact (ih m hm) _ _ hR o2
              · obtain ⟨m, hm, hR⟩ := Q
                exact (ih m hm) _ _ hR (gxo.wr (gxo.wr (gxo.wr o2 (by simp)) (by simp)) (by simp))
            · rw [Q.2]; exact o2
          · refine fo_if fo_ne Q (fun Q => ?_) (fun Q => ?_)
            · rw [Q.2]; exact ho
            · obtain ⟨H3, c3, Q⟩ := Q
              have o3 : gxo [10, 12, 18, 17] [] F H3 := gxo.tr ho (gxo.mono (w_Rd_advance c3) (by intro q hq; simp at hq ⊢; try omega) (by intro q hq; simp at hq ⊢; try omega))
              obtain ⟨r4, H4, c4, Q⟩ := Q
              have o4 : gxo [10, 12, 18, 17] [] F H4 := gxo.tr o3 (gxo.mono (w_Rd_readProduct0 c4) (by intro q hq; simp at hq ⊢; try omega) (by intro q hq; simp at hq ⊢; try omega))
              refine fo_if fo_ne Q (fun Q => ?_) (fun Q => ?_)
              · refine fo_if fo_le Q (fun Q => ?_) (fun Q => ?_)
                · obtain ⟨m, hm, hR⟩ := Q
                  exact (ih m hm) _ _ hR o4
                · obtain ⟨m, hm, hR⟩ := Q
                  exact (ih m hm) _ _ hR (gxo.wr (gxo.wr (gxo.wr o4 (by simp)) (by simp)) (by simp))
              · rw [Q.2]; exact o4
  have Q := q_Rd_readSum0_0 h
  obtain ⟨r1, H1, c1, Q⟩ := Q
  have o1 : gxo [10, 12, 18, 17] [] F H1 := gxo.tr gxo.rf (gxo.mono (w_Rd_readProduct0 c1) (by intro q hq; simp at hq ⊢; try omega) (by intro q hq; simp at hq ⊢; try omega))
  refine fo_if fo_ne Q (fun Q => ?_) (fun Q => ?_)
  · obtain ⟨m, hm, hR⟩ := Q
    exact (lp m) _ _ hR o1
  · rw [Q.2]; exact o1
theorem w_Rd_readLine {F : fx_F} {v : fx_V} {F' : fx_F} (h : Cl k_Rd_readLine [(2, 10)] F v F') : gxo [10, 12, 18, 17, 14, 13] [] F F' := by
  obtain ⟨n, h⟩ := c_Rd_readLine h
  have Q := q_Rd_readLine_0 h
  obtain ⟨r1, H1, c1, Q⟩ := Q
  have o1 : gxo [10, 12, 18, 17, 14, 13] [] F H1 := gxo.tr gxo.rf (gxo.mono (w_Rd_isWord c1) (by intro q hq; simp at hq ⊢; try omega) (by intro q hq; simp at hq ⊢; try omega))
  refine fo_if fo_eq Q (fun Q => ?_) (fun Q => ?_)
  · obtain ⟨r2, H2, c2, Q⟩ := Q
    have o2 : gxo [10, 12, 18, 17, 14, 13] [] F H2 := gxo.tr o1 (gxo.mono (w_Rd_isWord c2) (by intro q hq; simp at hq ⊢; try omega) (by intro q hq; simp at hq ⊢; try omega))
    refine fo_if fo_eq Q (fun Q => ?_) (fun Q => ?_)
    · obtain ⟨r3, H3, c3, Q⟩ := Q
      have o3 : gxo [10, 12, 18, 17, 14, 13] [] F H3 := gxo.tr o2 (gxo.mono (w_Rd_isWord c3) (by intro q hq; simp at hq ⊢; try omega) (by intro q hq; simp at hq ⊢; try omega))
      refine fo_if fo_eq Q (fun Q => ?_) (fun Q => ?_)
      · obtain ⟨r4, H4, c4, Q⟩ := Q
        have o4 : gxo [10, 12, 18, 17, 14, 13] [] F H4 := gxo.tr o3 (gxo.mono (w_Rd_isWord c4) (by intro q hq; simp at hq ⊢; try omega) (by intro q hq; simp at hq ⊢; try omega))
        refine fo_if fo_eq Q (fun Q => ?_) (fun Q => ?_)
        · obtain ⟨r5, H5, c5, Q⟩ := Q
          have o5 : gxo [10, 12, 18, 17, 14, 13] [] F H5 := gxo.tr o4 (gxo.mono (w_Rd_fail c5) (by intro q hq; simp at hq ⊢; try omega) (by intro q hq; simp at hq ⊢; try omega))
          rw [Q.2]; exact o5
        · refine fo_if fo_ne Q (fun Q => ?_) (fun Q => ?_)
          · obtain ⟨r6, H6, c6, Q⟩ := Q
            have o6 : gxo [10, 12, 18, 17, 14, 13] [] F H6 := gxo.tr o4 (gxo.mono (w_Rd_fail c6) (by intro q hq; simp at hq ⊢; try omega) (by intro q hq; simp at hq ⊢; try omega))
            rw [Q.2]; exact o6
          · obtain ⟨H7, c7, Q⟩ := Q
            have o7 : gxo [10, 12, 18, 17, 14, 13] [] F H7 := gxo.tr (gxo.wr o4 (by simp)) (gxo.mono (w_Rd_advance c7) (by intro q hq; simp at hq ⊢; try omega) (by intro q hq; simp at hq ⊢; try omega))
            obtain ⟨r8, H8, c8, Q⟩ := Q
            have o8 : gxo [10, 12, 18, 17, 14, 13] [] F H8 := gxo.tr o7 (gxo.mono (w_Rd_readSum0 c8) (by intro q hq; simp at hq ⊢; try omega) (by intro q hq; simp at hq ⊢; try omega))
            refine fo_if fo_eq Q (fun Q => ?_) (fun Q => ?_)
            · rw [Q.2]; exact o8
            · obtain ⟨r9, H9, c9, Q⟩ := Q
              have o9 : gxo [10, 12, 18, 17, 14, 13] [] F H9 := gxo.tr o8 (gxo.mono (w_Rd_readSign c9) (by intro q hq; simp at hq ⊢; try omega) (by intro q hq; simp at hq ⊢; try omega))
              refine fo_if fo_eq Q (fun Q => ?_) (fun Q => ?_)
              · rw [Q.2]; exact o9
              · rw [Q.2]; exact o9
      · refine fo_if fo_ne Q (fun Q => ?_) (fun Q => ?_)
        · obtain ⟨r10, H10, c10, Q⟩ := Q
          have o10 : gxo [10, 12, 18, 17, 14, 13] [] F H10 := gxo.tr o3 (gxo.mono (w_Rd_isWord c10) (by intro q hq; simp at hq ⊢; try omega) (by intro q hq; simp at hq ⊢; try omega))
          refine fo_if fo_eq Q (fun Q => ?_) (fun Q => ?_)
          · obtain ⟨r11, H11, c11, Q⟩ := Q
            have o11 : gxo [10, 12, 18, 17, 14, 13] [] F H11 := gxo.tr o10 (gxo.mono (w_Rd_fail c11) (by intro q hq; simp at hq ⊢; try omega) (by intro q hq; simp at hq ⊢; try omega))
            rw [Q.2]; exact o11
          · refine fo_if fo_ne Q (fun Q => ?_) (fun Q => ?_)
            · obtain ⟨r12, H12, c12, Q⟩ := Q
              have o12 : gxo [10, 12, 18, 17, 14, 13] [] F H12 := gxo.tr o10 (gxo.mono (w_Rd_fail c12) (by intro q hq; simp at hq ⊢; try omega) (by intro q hq; simp at hq ⊢; try omega))
              rw [Q.2]; exact o12
            · obtain ⟨H13, c13, Q⟩ := Q
              have o13 : gxo [10, 12, 18, 17, 14, 13] [] F H13 := gxo.tr (gxo.wr o10 (by simp)) (gxo.mono (w_Rd_advance c13) (by intro q hq; simp at hq ⊢; try omega) (by intro q hq; simp at hq ⊢; try omega))
              obtain ⟨r14, H14, c14, Q⟩ := Q
              have o14 : gxo [10, 12, 18, 17, 14, 13] [] F H14 := gxo.tr o13 (gxo.mono (w_Rd_readSum0 c14) (by intro q hq; simp at hq ⊢; try omega) (by intro q hq; simp at hq ⊢; try omega))
              refine fo_if fo_eq Q (fun Q => ?_) (fun Q => ?_)
              · rw [Q.2]; exact o14
              · obtain ⟨r15, H15, c15, Q⟩ := Q
                have o15 : gxo [10, 12, 18, 17, 14, 13] [] F H15 := gxo.tr o14 (gxo.mono (w_Rd_readSign c15) (by intro q hq; simp at hq ⊢; try omega) (by intro q hq; simp at hq ⊢; try omega))
                refine fo_if fo_eq Q (fun Q => ?_) (fun Q => ?_)
                · rw [Q.2]; exact o15
                · rw [Q.2]; exact o15
        · obtain ⟨r16, H16, c16, Q⟩ := Q
          have o16 : gxo [10, 12, 18, 17, 14, 13] [] F H16 := gxo.tr (gxo.wr o3 (by simp)) (gxo.mono (w_Rd_readNumber c16) (by intro q hq; simp at hq ⊢; try omega) (by intro q hq; simp at hq ⊢; try omega))
          refine fo_if fo_ne Q (fun Q => ?_) (fun Q => ?_)
          · obtain ⟨r17, H17, c17, Q⟩ := Q
            have o17 : gxo [10, 12, 18, 17, 14, 13] [] F H17 := gxo.tr (gxo.wr o16 (by simp)) (gxo.mono (w_Rd_closeLine c17) (by intro q hq; simp at hq ⊢; try omega) (by intro q hq; simp at hq ⊢; try omega))
            rw [Q.2]; exact o17
          · rw [Q.2]; exact o16
    · refine fo_if fo_ne Q (fun Q => ?_) (fun Q => ?_)
      · obtain ⟨r18, H18, c18, Q⟩ := Q
        have o18 : gxo [10, 12, 18, 17, 14, 13] [] F H18 := gxo.tr o2 (gxo.mono (w_Rd_isWord c18) (by intro q hq; simp at hq ⊢; try omega) (by intro q hq; simp at hq ⊢; try omega))
        refine fo_if fo_eq Q (fun Q => ?_) (fun Q => ?_)
        · obtain ⟨r19, H19, c19, Q⟩ := Q
          have o19 : gxo [10, 12, 18, 17, 14, 13] [] F H19 := gxo.tr o18 (gxo.mono (w_Rd_isWord c19) (by intro q hq; simp at hq ⊢; try omega) (by intro q hq; simp at hq ⊢; try omega))
          refine fo_if fo_eq Q (fun Q => ?_) (fun Q => ?_)
          · obtain ⟨r20, H20, c20, Q⟩ := Q
            have o20 : gxo [10, 12, 18, 17, 14, 13] [] F H20 := gxo.tr o19 (gxo.mono (w_Rd_fail c20) (by intro q hq; simp at hq ⊢; try omega) (by intro q hq; simp at hq ⊢; try omega))
            rw [Q.2]; exact o20
          · refine fo_if fo_ne Q (fun Q => ?_) (fun Q => ?_)
            · obtain ⟨r21, H21, c21, Q⟩ := Q
              have o21 : gxo [10, 12, 18, 17, 14, 13] [] F H21 := gxo.tr o19 (gxo.mono (w_Rd_fail c21) (by intro q hq; simp at hq ⊢; try omega) (by intro q hq; simp at hq ⊢; try omega))
              rw [Q.2]; exact o21
            · obtain ⟨H22, c22, Q⟩ := Q
              have o22 : gxo [10, 12, 18, 17, 14, 13] [] F H22 := gxo.tr (gxo.wr o19 (by simp)) (gxo.mono (w_Rd_advance c22) (by intro q hq; simp at hq ⊢; try omega) (by intro q hq; simp at hq ⊢; try omega))
              obtain ⟨r23, H23, c23, Q⟩ := Q
              have o23 : gxo [10, 12, 18, 17, 14, 13] [] F H23 := gxo.tr o22 (gxo.mono (w_Rd_readSum0 c23) (by intro q hq; simp at hq ⊢; try omega) (by intro q hq; simp at hq ⊢; try omega))
              refine fo_if fo_eq Q (fun Q => ?_) (fun Q => ?_)
              · rw [Q.2]; exact o23
              · obtain ⟨r24, H24, c24, Q⟩ := Q
                have o24 : gxo [10, 12, 18, 17, 14, 13] [] F H24 := gxo.tr o23 (gxo.mono (w_Rd_readSign c24) (by intro q hq; simp at hq ⊢; try omega) (by intro q hq; simp at hq ⊢; try omega))
                refine fo_if fo_eq Q (fun Q => ?_) (fun Q => ?_)
                · rw [Q.2]; exact o24
                · rw [Q.2]; exact o24
        · refine fo_if fo_ne Q (fun Q => ?_) (fun Q => ?_)
          · obtain ⟨r25, H25, c25, Q⟩ := Q
            have o25 : gxo [10, 12, 18, 17, 14, 13] [] F H25 := gxo.tr o18 (gxo.mono (w_Rd_isWord c25) (by intro q hq; simp at hq ⊢; try omega) (by intro q hq; simp at hq ⊢; try omega))
            refine fo_if fo_eq Q (fun Q => ?_) (fun Q => ?_)
            · obtain ⟨r26, H26, c26, Q⟩ := Q
              have o26 : gxo [10, 12, 18, 17, 14, 13] [] F H26 := gxo.tr o25 (gxo.mono (w_Rd_fail c26) (by intro q hq; simp at hq ⊢; try omega) (by intro q hq; simp at hq ⊢; try omega))
              rw [Q.2]; exact o26
            · refine fo_if fo_ne Q (fun Q => ?_) (fun Q => ?_)
              · obtain ⟨r27, H27, c27, Q⟩ := Q
                have o27 : gxo [10, 12, 18, 17, 14, 13] [] F H27 := gxo.tr o25 (gxo.mono (w_Rd_fail c27) (by intro q hq; simp at hq ⊢; try omega) (by intro q hq; simp at hq ⊢; try omega))
                rw [Q.2]; exact o27
              · obtain ⟨H28, c28, Q⟩ := Q
                have o28 : gxo [10, 12, 18, 17, 14, 13] [] F H28 := gxo.tr (gxo.wr o25 (by simp)) (gxo.mono (w_Rd_advance c28) (by intro q hq; simp at hq ⊢; try omega) (by intro q hq; simp at hq ⊢; try omega))
                obtain ⟨r29, H29, c29, Q⟩ := Q
                have o29 : gxo [10, 12, 18, 17, 14, 13] [] F H29 := gxo.tr o28 (gxo.mono (w_Rd_readSum0 c29) (by intro q hq; simp at hq ⊢; try omega) (by intro q hq; simp at hq ⊢; try omega))
                refine fo_if fo_eq Q (fun Q => ?_) (fun Q => ?_)
                · rw [Q.2]; exact o29
                · obtain ⟨r30, H30, c30, Q⟩ := Q
                  have o30 : gxo [10, 12, 18, 17, 14, 13] [] F H30 := gxo.tr o29 (gxo.mono (w_Rd_readSign c30) (by intro q hq; simp at hq ⊢; try omega) (by intro q hq; simp at hq ⊢; try omega))
                  refine fo_if fo_eq Q (fun Q => ?_) (fun Q => ?_)
                  · rw [Q.2]; exact o30
                  · rw [Q.2]; exact o30
          · obtain ⟨r31, H31, c31, Q⟩ := Q
            have o31 : gxo [10, 12, 18, 17, 14, 13] [] F H31 := gxo.tr (gxo.wr o18 (by simp)) (gxo.mono (w_Rd_readNumber c31) (by intro q hq; simp at hq ⊢; try omega) (by intro q hq; simp at hq ⊢; try omega))
            refine fo_if fo_ne Q (fun Q => ?_) (fun Q => ?_)
            · obtain ⟨r32, H32, c32, Q⟩ := Q
              have o32 : gxo [10, 12, 18, 17, 14, 13] [] F H32 := gxo.tr (gxo.wr o31 (by simp)) (gxo.mono (w_Rd_closeLine c32) (by intro q hq; simp at hq ⊢; try omega) (by intro q hq; simp at hq ⊢; try omega))
              rw [Q.2]; exact o32
            · rw [Q.2]; exact o31
      · obtain ⟨r33, H33, c33, Q⟩ := Q
        have o33 : gxo [10, 12, 18, 17, 14, 13] [] F H33 := gxo.tr (gxo.wr o2 (by simp)) (gxo.mono (w_Rd_readNumber c33) (by intro q hq; simp at hq ⊢; try omega) (by intro q hq; simp at hq ⊢; try omega))
        refine fo_if fo_ne Q (fun Q => ?_) (fun Q => ?_)
        · obtain ⟨r34, H34, c34, Q⟩ := Q
          have o34 : gxo [10, 12, 18, 17, 14, 13] [] F H34 := gxo.tr (gxo.wr o33 (by simp)) (gxo.mono (w_Rd_closeLine c34) (by intro q hq; simp at hq ⊢; try omega) (by intro q hq; simp at hq ⊢; try omega))
          rw [Q.2]; exact o34
        · rw [Q.2]; exact o33
  · obtain ⟨r35, H35, c35, Q⟩ := Q
    have o35 : gxo [10, 12, 18, 17, 14, 13] [] F H35 := gxo.tr o1 (gxo.mono (w_Rd_readLink c35) (by intro q hq; simp at hq ⊢; try omega) (by intro q hq; simp at hq ⊢; try omega))
    rw [Q.2]; exact o35
theorem w_Rd_readSwitches {F : fx_F} {v : fx_V} {F' : fx_F} (h : Cl k_Rd_readSwitches [(2, 10)] F v F') : gxo [10, 12] [] F F' := by
  obtain ⟨n, h⟩ := c_Rd_readSwitches h
  have Q := q_Rd_readSwitches_0 h
  obtain ⟨r1, H1, c1, Q⟩ := Q
  have o1 : gxo [10, 12] [] F H1 := gxo.tr gxo.rf (gxo.mono (w_Rd_isWord c1) (by intro q hq; simp at hq ⊢; try omega) (by intro q hq; simp at hq ⊢; try omega))
  refine fo_if fo_ne Q (fun Q => ?_) (fun Q => ?_)
  · obtain ⟨r2, H2, c2, Q⟩ := Q
    have o2 : gxo [10, 12] [] F H2 := gxo.tr o1 (gxo.mono (w_Rd_readNumber c2) (by intro q hq; simp at hq ⊢; try omega) (by intro q hq; simp at hq ⊢; try omega))
    refine fo_if fo_ne Q (fun Q => ?_) (fun Q => ?_)
    · obtain ⟨r3, H3, c3, Q⟩ := Q
      have o3 : gxo [10, 12] [] F H3 := gxo.tr (gxo.wr o2 (by simp)) (gxo.mono (w_Rd_closeLine c3) (by intro q hq; simp at hq ⊢; try omega) (by intro q hq; simp at hq ⊢; try omega))
      rw [Q.2]; exact o3
    · rw [Q.2]; exact o2
  · obtain ⟨r4, H4, c4, Q⟩ := Q
    have o4 : gxo [10, 12] [] F H4 := gxo.tr o1 (gxo.mono (w_Rd_fail c4) (by intro q hq; simp at hq ⊢; try omega) (by intro q hq; simp at hq ⊢; try omega))
    rw [Q.2]; exact o4
theorem w_Rd_readText {F : fx_F} {v : fx_V} {F' : fx_F} (h : Cl k_Rd_readText [(2, 10)] F v F') : gxo [10, 12, 18, 17, 14, 13] [] F F' := by
  obtain ⟨n, h⟩ := c_Rd_readText h
  have lp : ∀ n : Nat, (∀ (l1 : Nat) (F2 : fx_F), Rn n k_Rd_readText 61 [(2, 10), (0, l1)] [] F2 v F' → gxo [10, 12, 18, 17, 14, 13] [] F F2 → gxo [10, 12, 18, 17, 14, 13] [] F F') := by
    intro n
    induction n using Nat.strongRecOn with
    | ind n ih =>
      refine fun l1 F2 h ho => ?_
      · have Q := q_Rd_readText_61 h
        clear h
        refine fo_if fo_le Q (fun Q => ?_) (fun Q => ?_)
        · rw [Q.2]; exact ho
        · refine fo_if fo_eq Q (fun Q => ?_) (fun Q => ?_)
          · rw [Q.2]; exact ho
          · obtain ⟨r1, H1, c1, Q⟩ := Q
            have o1 : gxo [10, 12, 18, 17, 14, 13] [] F H1 := gxo.tr ho (gxo.mono (w_Rd_readLine c1) (by intro q hq; simp at hq ⊢; try omega) (by intro q hq; simp at hq ⊢; try omega))
            refine fo_if fo_ne Q (fun Q => ?_) (fun Q => ?_)
            · obtain ⟨m, hm, hR⟩ := Q
              exact (ih m hm) _ _ hR o1
            · rw [Q.2]; exact o1
  have Q := q_Rd_readText_0 h
  obtain ⟨H1, c1, Q⟩ := Q
  have o1 : gxo [10, 12, 18, 17, 14, 13] [] F H1 := gxo.tr (gxo.wr (gxo.wr (gxo.wr (gxo.wr (gxo.wr (gxo.wr (gxo.wr (gxo.wr (gxo.wr (gxo.wr (gxo.wr (gxo.wr gxo.rf (by simp)) (by simp)) (by simp)) (by simp)) (by simp)) (by simp)) (by simp)) (by simp)) (by simp)) (by simp)) (by simp)) (by simp)) (gxo.mono (w_Rd_advance c1) (by intro q hq; simp at hq ⊢; try omega) (by intro q hq; simp at hq ⊢; try omega))
  refine fo_if fo_ne Q (fun Q => ?_) (fun Q => ?_)
  · obtain ⟨r2, H2, c2, Q⟩ := Q
    have o2 : gxo [10, 12, 18, 17, 14, 13] [] F H2 := gxo.tr o1 (gxo.mono (w_Rd_readSwitches c2) (by intro q hq; simp at hq ⊢; try omega) (by intro q hq; simp at hq ⊢; try omega))
    refine fo_if fo_ne Q (fun Q => ?_) (fun Q => ?_)
    · obtain ⟨m, hm, hR⟩ := Q
      exact (lp m) _ _ hR o2
    · rw [Q.2]; exact o2
  · rw [Q.2]; exact o1
theorem w_Net_listChannels {p : Nat} {F : fx_F} {v : fx_V} {F' : fx_F} (h : Cl k_Net_listChannels [(2, p)] F v F') : gxo [p + 3, p + 4] [] F F' := by
  obtain ⟨n, h⟩ := c_Net_listChannels h
  have lp : ∀ n : Nat, (∀ (l1 l2 : Nat) (F2 : fx_F), Rn n k_Net_listChannels 4 [(2, p), (0, l1), (0, l2), (3, 0)] [] F2 v F' → gxo [p + 3, p + 4] [] F F2 → gxo [p + 3, p + 4] [] F F') ∧ (∀ (l1 l2 l3 : Nat) (F2 : fx_F), Rn n k_Net_listChannels 21 [(2, p), (0, l1), (0, l2), (0, l3)] [] F2 v F' → gxo [p + 3, p + 4] [] F F2 → gxo [p + 3, p + 4] [] F F') := by
    intro n
    induction n using Nat.strongRecOn with
    | ind n ih =>
      refine ⟨fun l1 l2 F2 h ho => ?_, fun l1 l2 l3 F2 h ho => ?_⟩
      · have Q := q_Net_listChannels_4 h
        clear h
        refine fo_if fo_le Q (fun Q => ?_) (fun Q => ?_)
        · rw [Q.2]; exact (gxo.wr ho (by simp))
        · obtain ⟨m, hm, hR⟩ := Q
          exact (ih m hm).2 _ _ _ _ hR (gxo.wr ho (by simp))
      · have Q := q_Net_listChannels_21 h
        clear h
        refine fo_if fo_le Q (fun Q => ?_) (fun Q => ?_)
        · obtain ⟨m, hm, hR⟩ := Q
          exact (ih m hm).1 _ _ _ hR ho
        · refine fo_if fo_ne Q (fun Q => ?_) (fun Q => ?_)
          · obtain ⟨m, hm, hR⟩ := Q
            exact (ih m hm).2 _ _ _ _ hR ho
          · obtain ⟨m, hm, hR⟩ := Q
            exact (ih m hm).2 _ _ _ _ hR (gxo.wr ho (by simp))
  have Q := q_Net_listChannels_0 h
  obtain ⟨m, hm, hR⟩ := Q
  exact (lp m).1 _ _ _ hR gxo.rf
theorem w_Net_copyFrom {p a1 : Nat} {F : fx_F} {v : fx_V} {F' : fx_F} (h : Cl k_Net_copyFrom [(2, p), (2, a1)] F v F') : gxo [p + 6, p + 5, p + 2, p + 1, p, p + 3, p + 4] [] F F' := by
  obtain ⟨n, h⟩ := c_Net_copyFrom h
  have Q := q_Net_copyFrom_0 h
  obtain ⟨H1, c1, Q⟩ := Q
  have o1 : gxo [p + 6, p + 5, p + 2, p + 1, p, p + 3, p + 4] [] F H1 := gxo.tr (gxo.cp (gxo.cp (gxo.cp (gxo.cp (gxo.wr (gxo.wr (gxo.wr (gxo.wr (gxo.wr (gxo.wr gxo.rf (by simp)) (by simp)) (by simp)) (by simp)) (by simp)) (by simp)) (by simp)) (by simp)) (by simp)) (by simp)) (gxo.mono (w_Net_listChannels c1) (by intro q hq; simp at hq ⊢; try omega) (by intro q hq; simp at hq ⊢; try omega))
  rw [Q.2]; exact o1
theorem w_M_layFar {a1 a2 : Nat} {F : fx_F} {v : fx_V} {F' : fx_F} (h : Cl k_M_layFar [(2, 175), (0, a1), (0, a2)] F v F') : gxo [188] [] F F' := by
  obtain ⟨n, h⟩ := c_M_layFar h
  have lp : ∀ n : Nat, (∀ (l1 l2 l3 : Nat) (F2 : fx_F), Rn n k_M_layFar 2 [(2, 175), (0, l1), (0, l2), (0, l3), (3, 0), (3, 0), (3, 0)] [] F2 v F' → gxo [188] [] F F2 → gxo [188] [] F F') ∧ (∀ (l2 l3 : Nat) (F2 : fx_F), Rn n k_M_layFar 40 [(2, 175), (3, 0), (0, l2), (0, l3), (3, 0), (3, 0), (3, 0)] [] F2 v F' → gxo [188] [] F F2 → gxo [188] [] F F') ∧ (∀ (l2 l3 l4 : Nat) (F2 : fx_F), Rn n k_M_layFar 51 [(2, 175), (3, 0), (0, l2), (0, l3), (0, l4), (3, 0), (3, 0)] [] F2 v F' → gxo [188] [] F F2 → gxo [188] [] F F') := by
    intro n
    induction n using Nat.strongRecOn with
    | ind n ih =>
      refine ⟨fun l1 l2 l3 F2 h ho => ?_, fun l2 l3 F2 h ho => ?_, fun l2 l3 l4 F2 h ho => ?_⟩
      · have Q := q_M_layFar_2 h
        clear h
        refine fo_if fo_le Q (fun Q => ?_) (fun Q => ?_)
        · refine fo_if fo_lt Q (fun Q => ?_) (fun Q => ?_)
          · rw [Q.2]; exact ho
          · refine fo_if fo_lt Q (fun Q => ?_) (fun Q => ?_)
            · rw [Q.2]; exact ho
            · obtain ⟨m, hm, hR⟩ := Q
              exact (ih m hm).2.1 _ _ _ hR (gxo.wr ho (by simp))
        · obtain ⟨m, hm, hR⟩ := Q
          exact (ih m hm).1 _ _ _ _ hR (gxo.wr ho (by simp))
      · have Q := q_M_layFar_40 h
        clear h
        refine fo_if fo_le Q (fun Q => ?_) (fun Q => ?_)
        · rw [Q.2]; exact ho
        · obtain ⟨m, hm, hR⟩ := Q
          exact (ih m hm).2.2 _ _ _ _ hR ho
      · have Q := q_M_layFar_51 h
        clear h
        refine fo_if fo_le Q (fun Q => ?_) (fun Q => ?_)
        · obtain ⟨m, hm, hR⟩ := Q
          exact (ih m hm).2.1 _ _ _ hR ho
        · refine fo_if fo_ne Q (fun Q => ?_) (fun Q => ?_)
          · obtain ⟨m, hm, hR⟩ := Q
            exact (ih m hm).2.2 _ _ _ _ hR ho
          · refine fo_if fo_eq Q (fun Q => ?_) (fun Q => ?_)
            · obtain ⟨m, hm, hR⟩ := Q
              exact (ih m hm).2.2 _ _ _ _ hR ho
            · refine fo_if fo_ne Q (fun Q => ?_) (fun Q => ?_)
              · refine fo_if fo_le Q (fun Q => ?_) (fun Q => ?_)
                · refine fo_if fo_le Q (fun Q => ?_) (fun Q => ?_)
                  · obtain ⟨m, hm, hR⟩ := Q
                    exact (ih m hm).2.2 _ _ _ _ hR ho
                  · obtain ⟨m, hm, hR⟩ := Q
                    exact (ih m hm).2.2 _ _ _ _ hR (gxo.wr ho (by simp))
                · refine fo_if fo_le Q (fun Q => ?_) (fun Q => ?_)
                  · obtain ⟨m, hm, hR⟩ := Q
                    exact (ih m hm).2.2 _ _ _ _ hR (gxo.wr ho (by simp))
                  · obtain ⟨m, hm, hR⟩ := Q
                    exact (ih m hm).2.2 _ _ _ _ hR (gxo.wr (gxo.wr ho (by simp)) (by simp))
              · obtain ⟨m, hm, hR⟩ := Q
                exact (ih m hm).2.2 _ _ _ _ hR ho
  have Q := q_M_layFar_0 h
  obtain ⟨m, hm, hR⟩ := Q
  exact (lp m).1 _ _ _ _ hR gxo.rf
theorem w_M_linksOf {a1 : Nat} {F : fx_F} {v : fx_V} {F' : fx_F} (h : Cl k_M_linksOf [(2, 175), (0, a1)] F v F') : gxo [] [] F F' := by
  obtain ⟨n, h⟩ := c_M_linksOf h
  have lp : ∀ n : Nat, (∀ (l1 l2 l3 : Nat) (F2 : fx_F), Rn n k_M_linksOf 4 [(2, 175), (0, l1), (0, l2), (0, l3)] [] F2 v F' → gxo [] [] F F2 → gxo [] [] F F') := by
    intro n
    induction n using Nat.strongRecOn with
    | ind n ih =>
      refine fun l1 l2 l3 F2 h ho => ?_
      · have Q := q_M_linksOf_4 h
        clear h
        refine fo_if fo_le Q (fun Q => ?_) (fun Q => ?_)
        · rw [Q.2]; exact ho
        · refine fo_if fo_ne Q (fun Q => ?_) (fun Q => ?_)
          · obtain ⟨m, hm, hR⟩ := Q
            exact (ih m hm) _ _ _ _ hR ho
          · refine fo_if fo_eq Q (fun Q => ?_) (fun Q => ?_)
            · obtain ⟨m, hm, hR⟩ := Q
              exact (ih m hm) _ _ _ _ hR ho
            · refine fo_if fo_ne Q (fun Q => ?_) (fun Q => ?_)
              · obtain ⟨m, hm, hR⟩ := Q
                exact (ih m hm) _ _ _ _ hR ho
              · obtain ⟨m, hm, hR⟩ := Q
                exact (ih m hm) _ _ _ _ hR ho
  have Q := q_M_linksOf_0 h
  obtain ⟨m, hm, hR⟩ := Q
  exact (lp m) _ _ _ _ hR gxo.rf
theorem w_M_rankOf {a1 : Nat} {F : fx_F} {v : fx_V} {F' : fx_F} (h : Cl k_M_rankOf [(2, 175), (0, a1)] F v F') : gxo [191] [] F F' := by
  obtain ⟨n, h⟩ := c_M_rankOf h
  have lp : ∀ n : Nat, (∀ (l1 l2 l3 : Nat) (F2 : fx_F), Rn n k_M_rankOf 23 [(2, 175), (0, l1), (0, l2), (0, l3), (3, 0)] [] F2 v F' → gxo [191] [] F F2 → gxo [191] [] F F') := by
    intro n
    induction n using Nat.strongRecOn with
    | ind n ih =>
      refine fun l1 l2 l3 F2 h ho => ?_
      · have Q := q_M_rankOf_23 h
        clear h
        refine fo_if fo_le Q (fun Q => ?_) (fun Q => ?_)
        · rw [Q.2]; exact ho
        · refine fo_if fo_le Q (fun Q => ?_) (fun Q => ?_)
          · refine fo_if fo_ne Q (fun Q => ?_) (fun Q => ?_)
            · refine fo_if fo_ne Q (fun Q => ?_) (fun Q => ?_)
              · refine fo_if fo_ne Q (fun Q => ?_) (fun Q => ?_)
                · obtain ⟨m, hm, hR⟩ := Q
                  exact (ih m hm) _ _ _ _ hR (gxo.wr ho (by simp))
                · obtain ⟨r1, H1, c1, Q⟩ := Q
                  have o1 : gxo [191] [] F H1 := gxo.tr ho (gxo.mono (w_M_linksOf c1) (by intro q hq; simp at hq ⊢; try omega) (by intro q hq; simp at hq ⊢; try omega))
                  obtain ⟨m, hm, hR⟩ := Q
                  exact (ih m hm) _ _ _ _ hR (gxo.wr o1 (by simp))
              · obtain ⟨m, hm, hR⟩ := Q
                exact (ih m hm) _ _ _ _ hR (gxo.wr ho (by simp))
            · obtain ⟨m, hm, hR⟩ := Q
              exact (ih m hm) _ _ _ _ hR (gxo.wr ho (by simp))
          · refine fo_if fo_ne Q (fun Q => ?_) (fun Q => ?_)
            · rcases (fo_sw1003_1007 ((F2 184 (i_add (i_mul 100 (F2 175 9)) l3)))) with z | z | z | z | z
              · have Q := Q.1 z
                refine fo_if fo_ne Q (fun Q => ?_) (fun Q => ?_)
                · obtain ⟨m, hm, hR⟩ := Q
                  exact (ih m hm) _ _ _ _ hR (gxo.wr ho (by simp))
                · obtain ⟨m, hm, hR⟩ := Q
                  exact (ih m hm) _ _ _ _ hR (gxo.wr ho (by simp))
              · have Q := Q.2.1 z
                obtain ⟨m, hm, hR⟩ := Q
                exact (ih m hm) _ _ _ _ hR (gxo.wr ho (by simp))
              · have Q := Q.2.2.1 z
                obtain ⟨m, hm, hR⟩ := Q
                exact (ih m hm) _ _ _ _ hR (gxo.wr ho (by simp))
              · have Q := Q.2.2.2.1 z
                obtain ⟨m, hm, hR⟩ := Q
                exact (ih m hm) _ _ _ _ hR (gxo.wr ho (by simp))
              · have Q := Q.2.2.2.2.1 z
                refine fo_if fo_ne Q (fun Q => ?_) (fun Q => ?_)
                · obtain ⟨m, hm, hR⟩ := Q
                  exact (ih m hm) _ _ _ _ hR (gxo.wr ho (by simp))
                · obtain ⟨m, hm, hR⟩ := Q
                  exact (ih m hm) _ _ _ _ hR (gxo.wr ho (by simp))
            · obtain ⟨m, hm, hR⟩ := Q
              exact (ih m hm) _ _ _ _ hR (gxo.wr ho (by simp))
  have Q := q_M_rankOf_0 h
  refine fo_if fo_ne Q (fun Q => ?_) (fun Q => ?_)
  · obtain ⟨m, hm, hR⟩ := Q
    exact (lp m) _ _ _ _ hR gxo.rf
  · rw [Q.2]; exact gxo.rf
theorem w_M_layRanks {a1 : Nat} {F : fx_F} {v : fx_V} {F' : fx_F} (h : Cl k_M_layRanks [(2, 175), (0, a1)] F v F') : gxo [188, 191, 189] [] F F' := by
  obtain ⟨n, h⟩ := c_M_layRanks h
  have lp : ∀ n : Nat, (∀ (l2 : Nat) (F2 : fx_F), Rn n k_M_layRanks 8 [(2, 175), (3, 0), (0, l2)] [] F2 v F' → gxo [188, 191, 189] [] F F2 → gxo [188, 191, 189] [] F F') := by
    intro n
    induction n using Nat.strongRecOn with
    | ind n ih =>
      refine fun l2 F2 h ho => ?_
      · have Q := q_M_layRanks_8 h
        clear h
        refine fo_if fo_le Q (fun Q => ?_) (fun Q => ?_)
        · rw [Q.2]; exact ho
        · obtain ⟨r1, H1, c1, Q⟩ := Q
          have o1 : gxo [188, 191, 189] [] F H1 := gxo.tr ho (gxo.mono (w_M_rankOf c1) (by intro q hq; simp at hq ⊢; try omega) (by intro q hq; simp at hq ⊢; try omega))
          obtain ⟨m, hm, hR⟩ := Q
          exact (ih m hm) _ _ hR (gxo.wr o1 (by simp))
  have Q := q_M_layRanks_0 h
  obtain ⟨H1, c1, Q⟩ := Q
  have o1 : gxo [188, 191, 189] [] F H1 := gxo.tr gxo.rf (gxo.mono (w_M_layFar c1) (by intro q hq; simp at hq ⊢; try omega) (by intro q hq; simp at hq ⊢; try omega))
  obtain ⟨m, hm, hR⟩ := Q
  exact (lp m) _ _ hR o1
theorem w_M_orientBy {a1 : Nat} {F : fx_F} {v : fx_V} {F' : fx_F} (h : Cl k_M_orientBy [(2, 175), (0, a1)] F v F') : gxo [188, 191, 189, 190] [] F F' := by
  obtain ⟨n, h⟩ := c_M_orientBy h
  have lp : ∀ n : Nat, (∀ (l2 : Nat) (F2 : fx_F), Rn n k_M_orientBy 7 [(2, 175), (3, 0), (0, l2)] [] F2 v F' → gxo [188, 191, 189, 190] [] F F2 → gxo [188, 191, 189, 190] [] F F') := by
    intro n
    induction n using Nat.strongRecOn with
    | ind n ih =>
      refine fun l2 F2 h ho => ?_
      · have Q := q_M_orientBy_7 h
        clear h
        refine fo_if fo_le Q (fun Q => ?_) (fun Q => ?_)
        · rw [Q.2]; exact ho
        · refine fo_if fo_lt Q (fun Q => ?_) (fun Q => ?_)
          · obtain ⟨m, hm, hR⟩ := Q
            exact (ih m hm) _ _ hR (gxo.wr ho (by simp))
          · refine fo_if fo_ne Q (fun Q => ?_) (fun Q => ?_)
            · obtain ⟨m, hm, hR⟩ := Q
              exact (ih m hm) _ _ hR (gxo.wr ho (by simp))
            · refine fo_if fo_le Q (fun Q => ?_) (fun Q => ?_)
              · obtain ⟨m, hm, hR⟩ := Q
                exact (ih m hm) _ _ hR (gxo.wr ho (by simp))
              · obtain ⟨m, hm, hR⟩ := Q
                exact (ih m hm) _ _ hR (gxo.wr ho (by simp))
  have Q := q_M_orientBy_0 h
  obtain ⟨H1, c1, Q⟩ := Q
  have o1 : gxo [188, 191, 189, 190] [] F H1 := gxo.tr gxo.rf (gxo.mono (w_M_layRanks c1) (by intro q hq; simp at hq ⊢; try omega) (by intro q hq; simp at hq ⊢; try omega))
  obtain ⟨m, hm, hR⟩ := Q
  exact (lp m) _ _ hR o1
theorem w_M_startAnew {F : fx_F} {v : fx_V} {F' : fx_F} (h : Cl k_M_startAnew [(2, 175)] F v F') : gxo [176, 188, 191, 189, 190, 206] [57, 56] F F' := by
  obtain ⟨n, h⟩ := c_M_startAnew h
  have lp : ∀ n : Nat, (∀ (l1 : Nat) (F2 : fx_F), Rn n k_M_startAnew 2 [(2, 175), (0, l1)] [] F2 v F' → gxo [176, 188, 191, 189, 190, 206] [57, 56] F F2 → gxo [176, 188, 191, 189, 190, 206] [57, 56] F F') ∧ (∀ (l1 : Nat) (F2 : fx_F), Rn n k_M_startAnew 23 [(2, 175), (0, l1)] [] F2 v F' → gxo [176, 188, 191, 189, 190, 206] [57, 56] F F2 → gxo [176, 188, 191, 189, 190, 206] [57, 56] F F') ∧ (∀ (l1 : Nat) (F2 : fx_F), Rn n k_M_startAnew 75 [(2, 175), (0, l1)] [] F2 v F' → gxo [176, 188, 191, 189, 190, 206] [57, 56] F F2 → gxo [176, 188, 191, 189, 190, 206] [57, 56] F F') ∧ (∀ (l1 : Nat) (F2 : fx_F), Rn n k_M_startAnew 116 [(2, 175), (0, l1)] [] F2 v F' → gxo [176, 188, 191, 189, 190, 206] [57, 56] F F2 → gxo [176, 188, 191, 189, 190, 206] [57, 56] F F') := by
    intro n
    induction n using Nat.strongRecOn with
    | ind n ih =>
      refine ⟨fun l1 F2 h ho => ?_, fun l1 F2 h ho => ?_, fun l1 F2 h ho => ?_, fun l1 F2 h ho => ?_⟩
      · have Q := q_M_startAnew_2 h
        clear h
        refine fo_if fo_le Q (fun Q => ?_) (fun Q => ?_)
        · obtain ⟨m, hm, hR⟩ := Q
          exact (ih m hm).2.1 _ _ hR ho
        · obtain ⟨m, hm, hR⟩ := Q
          exact (ih m hm).1 _ _ hR (gxo.wr ho (by simp))
      · have Q := q_M_startAnew_23 h
        clear h
        refine fo_if fo_le Q (fun Q => ?_) (fun Q => ?_)
        · obtain ⟨H1, c1, Q⟩ := Q
          have o1 : gxo [176, 188, 191, 189, 190, 206] [57, 56] F H1 := gxo.tr (gxo.wr ho (by simp)) (gxo.mono (w_M_orientBy c1) (by intro q hq; simp at hq ⊢; try omega) (by intro q hq; simp at hq ⊢; try omega))
          obtain ⟨m, hm, hR⟩ := Q
          exact (ih m hm).2.2.1 _ _ hR o1
        · obtain ⟨m, hm, hR⟩ := Q
          exact (ih m hm).2.1 _ _ hR (gxo.wr ho (by simp))
      · have Q := q_M_startAnew_75 h
        clear h
        refine fo_if fo_le Q (fun Q => ?_) (fun Q => ?_)
        · obtain ⟨m, hm, hR⟩ := Q
          exact (ih m hm).2.2.2 _ _ hR (gxo.wrf (gxo.wrf ho (by simp)) (by simp))
        · obtain ⟨m, hm, hR⟩ := Q
          exact (ih m hm).2.2.1 _ _ hR (gxo.wr ho (by simp))
      · have Q := q_M_startAnew_116 h
        clear h
        refine fo_if fo_le Q (fun Q => ?_) (fun Q => ?_)
        · rw [Q.2]; exact ho
        · obtain ⟨m, hm, hR⟩ := Q
          exact (ih m hm).2.2.2 _ _ hR (gxo.wr ho (by simp))
  have Q := q_M_startAnew_0 h
  obtain ⟨m, hm, hR⟩ := Q
  exact (lp m).1 _ _ hR gxo.rf
theorem w_T_about {a1 : Nat} {F : fx_F} {v : fx_V} {F' : fx_F} (h : Cl k_T_about [(2, 2), (0, a1)] F v F') : gxo [] [] F F' := by
  obtain ⟨n, h⟩ := c_T_about h
  have Q := q_T_about_0 h
  rcases (fo_sw0_12 (a1)) with z | z | z | z | z | z | z | z | z | z | z | z | z
  · have Q := Q.1 z
    rw [Q.2]; exact gxo.rf
  · have Q := Q.2.1 z
    rw [Q.2]; exact gxo.rf
  · have Q := Q.2.2.1 z
    rw [Q.2]; exact gxo.rf
  · have Q := Q.2.2.2.1 z
    obtain ⟨r1, H1, c1, Q⟩ := Q
    have o1 : gxo [] [] F H1 := gxo.tr gxo.rf (gxo.mono (w_I_bitCount c1) (by intro q hq; simp at hq ⊢; try omega) (by intro q hq; simp at hq ⊢; try omega))
    rw [Q.2]; exact o1
  · have Q := Q.2.2.2.2.1 z
    refine fo_if fo_ne Q (fun Q => ?_) (fun Q => ?_)
    · rw [Q.2]; exact gxo.rf
    · rw [Q.2]; exact gxo.rf
  · have Q := Q.2.2.2.2.2.1 z
    rw [Q.2]; exact gxo.rf
  · have Q := Q.2.2.2.2.2.2.1 z
    obtain ⟨r2, H2, c2, Q⟩ := Q
    have o2 : gxo [] [] F H2 := gxo.tr gxo.rf (gxo.mono (w_St_countPackets c2) (by intro q hq; simp at hq ⊢; try omega) (by intro q hq; simp at hq ⊢; try omega))
    rw [Q.2]; exact o2
  · have Q := Q.2.2.2.2.2.2.2.1 z
    rw [Q.2]; exact gxo.rf
  · have Q := Q.2.2.2.2.2.2.2.2.1 z
    rw [Q.2]; exact gxo.rf
  · have Q := Q.2.2.2.2.2.2.2.2.2.1 z
    rw [Q.2]; exact gxo.rf
  · have Q := Q.2.2.2.2.2.2.2.2.2.2.1 z
    rw [Q.2]; exact gxo.rf
  · have Q := Q.2.2.2.2.2.2.2.2.2.2.2.1 z
    rw [Q.2]; exact gxo.rf
  · have Q := Q.2.2.2.2.2.2.2.2.2.2.2.2.1 z
    rw [Q.2]; exact gxo.rf
theorem w_M_packetsNow {F : fx_F} {v : fx_V} {F' : fx_F} (h : Cl k_M_packetsNow [(2, 175)] F v F') : gxo [] [] F F' := by
  obtain ⟨n, h⟩ := c_M_packetsNow h
  have lp : ∀ n : Nat, (∀ (l1 l2 : Nat) (F2 : fx_F), Rn n k_M_packetsNow 4 [(2, 175), (0, l1), (0, l2)] [] F2 v F' → gxo [] [] F F2 → gxo [] [] F F') := by
    intro n
    induction n using Nat.strongRecOn with
    | ind n ih =>
      refine fun l1 l2 F2 h ho => ?_
      · have Q := q_M_packetsNow_4 h
        clear h
        refine fo_if fo_le Q (fun Q => ?_) (fun Q => ?_)
        · rw [Q.2]; exact ho
        · obtain ⟨m, hm, hR⟩ := Q
          exact (ih m hm) _ _ _ hR ho
  have Q := q_M_packetsNow_0 h
  obtain ⟨m, hm, hR⟩ := Q
  exact (lp m) _ _ _ hR gxo.rf
theorem w_M_standing {F : fx_F} {v : fx_V} {F' : fx_F} (h : Cl k_M_standing [(2, 175)] F v F') : gxo [] [] F F' := by
  obtain ⟨n, h⟩ := c_M_standing h
  have lp : ∀ n : Nat, (∀ (l1 l2 : Nat) (F2 : fx_F), Rn n k_M_standing 4 [(2, 175), (0, l1), (0, l2)] [] F2 v F' → gxo [] [] F F2 → gxo [] [] F F') := by
    intro n
    induction n using Nat.strongRecOn with
    | ind n ih =>
      refine fun l1 l2 F2 h ho => ?_
      · have Q := q_M_standing_4 h
        clear h
        refine fo_if fo_le Q (fun Q => ?_) (fun Q => ?_)
        · rw [Q.2]; exact ho
        · refine fo_if fo_ne Q (fun Q => ?_) (fun Q => ?_)
          · obtain ⟨m, hm, hR⟩ := Q
            exact (ih m hm) _ _ _ hR ho
          · obtain ⟨m, hm, hR⟩ := Q
            exact (ih m hm) _ _ _ hR ho
  have Q := q_M_standing_0 h
  obtain ⟨m, hm, hR⟩ := Q
  exact (lp m) _ _ _ hR gxo.rf
theorem w_M_about {a1 : Nat} {F : fx_F} {v : fx_V} {F' : fx_F} (h : Cl k_M_about [(2, 175), (0, a1)] F v F') : gxo [] [] F F' := by
  obtain ⟨n, h⟩ := c_M_about h
  have Q := q_M_about_0 h
  rcases (fo_sw0_12 (a1)) with z | z | z | z | z | z | z | z | z | z | z | z | z
  · have Q := Q.1 z
    rw [Q.2]; exact gxo.rf
  · have Q := Q.2.1 z
    rw [Q.2]; exact gxo.rf
  · have Q := Q.2.2.1 z
    rw [Q.2]; exact gxo.rf
  · have Q := Q.2.2.2.1 z
    obtain ⟨r1, H1, c1, Q⟩ := Q
    have o1 : gxo [] [] F H1 := gxo.tr gxo.rf (gxo.mono (w_M_standing c1) (by intro q hq; simp at hq ⊢; try omega) (by intro q hq; simp at hq ⊢; try omega))
    rw [Q.2]; exact o1
  · have Q := Q.2.2.2.2.1 z
    refine fo_if fo_ne Q (fun Q => ?_) (fun Q => ?_)
    · rw [Q.2]; exact gxo.rf
    · rw [Q.2]; exact gxo.rf
  · have Q := Q.2.2.2.2.2.1 z
    rw [Q.2]; exact gxo.rf
  · have Q := Q.2.2.2.2.2.2.1 z
    obtain ⟨r2, H2, c2, Q⟩ := Q
    have o2 : gxo [] [] F H2 := gxo.tr gxo.rf (gxo.mono (w_M_packetsNow c2) (by intro q hq; simp at hq ⊢; try omega) (by intro q hq; simp at hq ⊢; try omega))
    rw [Q.2]; exact o2
  · have Q := Q.2.2.2.2.2.2.2.1 z
    rw [Q.2]; exact gxo.rf
  · have Q := Q.2.2.2.2.2.2.2.2.1 z
    rw [Q.2]; exact gxo.rf
  · have Q := Q.2.2.2.2.2.2.2.2.2.1 z
    rw [Q.2]; exact gxo.rf
  · have Q := Q.2.2.2.2.2.2.2.2.2.2.1 z
    rw [Q.2]; exact gxo.rf
  · have Q := Q.2.2.2.2.2.2.2.2.2.2.2.1 z
    rw [Q.2]; exact gxo.rf
  · have Q := Q.2.2.2.2.2.2.2.2.2.2.2.2.1 z
    rw [Q.2]; exact gxo.rf
theorem w_St_begin {p a1 a2 a3 : Nat} {F : fx_F} {v : fx_V} {F' : fx_F} (h : Cl k_St_begin [(2, p), (0, a1), (0, a2), (0, a3)] F v F') : gxo [p, p + 1] [] F F' := by
  obtain ⟨n, h⟩ := c_St_begin h
  have lp : ∀ n : Nat, (∀ (l4 : Nat) (F2 : fx_F), Rn n k_St_begin 23 [(2, p), (3, 0), (3, 0), (3, 0), (0, l4)] [] F2 v F' → gxo [p, p + 1] [] F F2 → gxo [p, p + 1] [] F F') := by
    intro n
    induction n using Nat.strongRecOn with
    | ind n ih =>
      refine fun l4 F2 h ho => ?_
      · have Q := q_St_begin_23 h
        clear h
        refine fo_if fo_le Q (fun Q => ?_) (fun Q => ?_)
        · rw [Q.2]; exact ho
        · obtain ⟨m, hm, hR⟩ := Q
          exact (ih m hm) _ _ hR (gxo.wr ho (by simp))
  have Q := q_St_begin_0 h
  obtain ⟨m, hm, hR⟩ := Q
  exact (lp m) _ _ hR (gxo.wr (gxo.wr (gxo.wr (gxo.wr gxo.rf (by simp)) (by simp)) (by simp)) (by simp))
theorem w_M_takeOver {F : fx_F} {v : fx_V} {F' : fx_F} (h : Cl k_M_takeOver [(2, 175)] F v F') : gxo [176] [] F F' := by
  obtain ⟨n, h⟩ := c_M_takeOver h
  have lp : ∀ n : Nat, (∀ (l1 : Nat) (F2 : fx_F), Rn n k_M_takeOver 2 [(2, 175), (0, l1)] [] F2 v F' → gxo [176] [] F F2 → gxo [176] [] F F') := by
    intro n
    induction n using Nat.strongRecOn with
    | ind n ih =>
      refine fun l1 F2 h ho => ?_
      · have Q := q_M_takeOver_2 h
        clear h
        refine fo_if fo_le Q (fun Q => ?_) (fun Q => ?_)
        · rw [Q.2]; exact ho
        · obtain ⟨m, hm, hR⟩ := Q
          exact (ih m hm) _ _ hR (gxo.wr ho (by simp))
  have Q := q_M_takeOver_0 h
  obtain ⟨m, hm, hR⟩ := Q
  exact (lp m) _ _ hR gxo.rf
theorem w_M_layGoal {a1 : Nat} {F : fx_F} {v : fx_V} {F' : fx_F} (h : Cl k_M_layGoal [(2, 175), (0, a1)] F v F') : gxo [193] [] F F' := by
  obtain ⟨n, h⟩ := c_M_layGoal h
  have lp : ∀ n : Nat, (∀ (l1 l2 : Nat) (F2 : fx_F), Rn n k_M_layGoal 2 [(2, 175), (0, l1), (0, l2), (3, 0), (3, 0), (3, 0)] [] F2 v F' → gxo [193] [] F F2 → gxo [193] [] F F') ∧ (∀ (l1 l2 : Nat) (F2 : fx_F), Rn n k_M_layGoal 62 [(2, 175), (0, l1), (0, l2), (3, 0), (3, 0), (3, 0)] [] F2 v F' → gxo [193] [] F F2 → gxo [193] [] F F') ∧ (∀ (l1 l2 l3 : Nat) (F2 : fx_F), Rn n k_M_layGoal 70 [(2, 175), (0, l1), (0, l2), (0, l3), (3, 0), (3, 0)] [] F2 v F' → gxo [193] [] F F2 → gxo [193] [] F F') ∧ (∀ (l1 l2 l3 l4 : Nat) (F2 : fx_F), Rn n k_M_layGoal 81 [(2, 175), (0, l1), (0, l2), (0, l3), (0, l4), (3, 0)] [] F2 v F' → gxo [193] [] F F2 → gxo [193] [] F F') := by
    intro n
    induction n using Nat.strongRecOn with
    | ind n ih =>
      refine ⟨fun l1 l2 F2 h ho => ?_, fun l1 l2 F2 h ho => ?_, fun l1 l2 l3 F2 h ho => ?_, fun l1 l2 l3 l4 F2 h ho => ?_⟩
      · have Q := q_M_layGoal_2 h
        clear h
        refine fo_if fo_le Q (fun Q => ?_) (fun Q => ?_)
        · obtain ⟨m, hm, hR⟩ := Q
          exact (ih m hm).2.1 _ _ _ hR ho
        · refine fo_if fo_ne Q (fun Q => ?_) (fun Q => ?_)
          · refine fo_if fo_ne Q (fun Q => ?_) (fun Q => ?_)
            · obtain ⟨m, hm, hR⟩ := Q
              exact (ih m hm).1 _ _ _ hR (gxo.wr (gxo.wr ho (by simp)) (by simp))
            · obtain ⟨m, hm, hR⟩ := Q
              exact (ih m hm).1 _ _ _ hR (gxo.wr (gxo.wr ho (by simp)) (by simp))
          · refine fo_if fo_ne Q (fun Q => ?_) (fun Q => ?_)
            · obtain ⟨m, hm, hR⟩ := Q
              exact (ih m hm).1 _ _ _ hR (gxo.wr (gxo.wr ho (by simp)) (by simp))
            · obtain ⟨m, hm, hR⟩ := Q
              exact (ih m hm).1 _ _ _ hR (gxo.wr (gxo.wr ho (by simp)) (by simp))
      · have Q := q_M_layGoal_62 h
        clear h
        refine fo_if fo_eq Q (fun Q => ?_) (fun Q => ?_)
        · rw [Q.2]; exact ho
        · obtain ⟨m, hm, hR⟩ := Q
          exact (ih m hm).2.2.1 _ _ _ _ hR ho
      · have Q := q_M_layGoal_70 h
        clear h
        refine fo_if fo_le Q (fun Q => ?_) (fun Q => ?_)
        · obtain ⟨m, hm, hR⟩ := Q
          exact (ih m hm).2.1 _ _ _ hR ho
        · obtain ⟨m, hm, hR⟩ := Q
          exact (ih m hm).2.2.2 _ _ _ _ _ hR ho
      · have Q := q_M_layGoal_81 h
        clear h
        refine fo_if fo_le Q (fun Q => ?_) (fun Q => ?_)
        · obtain ⟨m, hm, hR⟩ := Q
          exact (ih m hm).2.2.1 _ _ _ _ hR ho
        · refine fo_if fo_ne Q (fun Q => ?_) (fun Q => ?_)
          · obtain ⟨m, hm, hR⟩ := Q
            exact (ih m hm).2.2.2 _ _ _ _ _ hR ho
          · refine fo_if fo_eq Q (fun Q => ?_) (fun Q => ?_)
            · refine fo_if fo_ne Q (fun Q => ?_) (fun Q => ?_)
              · refine fo_if fo_eq Q (fun Q => ?_) (fun Q => ?_)
                · refine fo_if fo_lt Q (fun Q => ?_) (fun Q => ?_)
                  · obtain ⟨m, hm, hR⟩ := Q
                    exact (ih m hm).2.2.2 _ _ _ _ _ hR (gxo.wr ho (by simp))
                  · obtain ⟨m, hm, hR⟩ := Q
                    exact (ih m hm).2.2.2 _ _ _ _ _ hR ho
                · refine fo_if fo_lt Q (fun Q => ?_) (fun Q => ?_)
                  · obtain ⟨m, hm, hR⟩ := Q
                    exact (ih m hm).2.2.2 _ _ _ _ _ hR (gxo.wr ho (by simp))
                  · obtain ⟨m, hm, hR⟩ := Q
                    exact (ih m hm).2.2.2 _ _ _ _ _ hR ho
              · refine fo_if fo_eq Q (fun Q => ?_) (fun Q => ?_)
                · refine fo_if fo_lt Q (fun Q => ?_) (fun Q => ?_)
                  · obtain ⟨m, hm, hR⟩ := Q
                    exact (ih m hm).2.2.2 _ _ _ _ _ hR (gxo.wr ho (by simp))
                  · obtain ⟨m, hm, hR⟩ := Q
                    exact (ih m hm).2.2.2 _ _ _ _ _ hR ho
                · refine fo_if fo_lt Q (fun Q => ?_) (fun Q => ?_)
                  · obtain ⟨m, hm, hR⟩ := Q
                    exact (ih m hm).2.2.2 _ _ _ _ _ hR (gxo.wr ho (by simp))
                  · obtain ⟨m, hm, hR⟩ := Q
                    exact (ih m hm).2.2.2 _ _ _ _ _ hR ho
            · refine fo_if fo_ne Q (fun Q => ?_) (fun Q => ?_)
              · refine fo_if fo_ne Q (fun Q => ?_) (fun Q => ?_)
                · refine fo_if fo_eq Q (fun Q => ?_) (fun Q => ?_)
                  · refine fo_if fo_lt Q (fun Q => ?_) (fun Q => ?_)
                    · obtain ⟨m, hm, hR⟩ := Q
                      exact (ih m hm).2.2.2 _ _ _ _ _ hR (gxo.wr ho (by simp))
                    · obtain ⟨m, hm, hR⟩ := Q
                      exact (ih m hm).2.2.2 _ _ _ _ _ hR ho
                  · refine fo_if fo_lt Q (fun Q => ?_) (fun Q => ?_)
                    · obtain ⟨m, hm, hR⟩ := Q
                      exact (ih m hm).2.2.2 _ _ _ _ _ hR (gxo.wr ho (by simp))
                    · obtain ⟨m, hm, hR⟩ := Q
                      exact (ih m hm).2.2.2 _ _ _ _ _ hR ho
                · refine fo_if fo_eq Q (fun Q => ?_) (fun Q => ?_)
                  · refine fo_if fo_lt Q (fun Q => ?_) (fun Q => ?_)
                    · obtain ⟨m, hm, hR⟩ := Q
                      exact (ih m hm).2.2.2 _ _ _ _ _ hR (gxo.wr ho (by simp))
                    · obtain ⟨m, hm, hR⟩ := Q
                      exact (ih m hm).2.2.2 _ _ _ _ _ hR ho
                  · refine fo_if fo_lt Q (fun Q => ?_) (fun Q => ?_)
                    · obtain ⟨m, hm, hR⟩ := Q
                      exact (ih m hm).2.2.2 _ _ _ _ _ hR (gxo.wr ho (by simp))
                    · obtain ⟨m, hm, hR⟩ := Q
                      exact (ih m hm).2.2.2 _ _ _ _ _ hR ho
              · obtain ⟨m, hm, hR⟩ := Q
                exact (ih m hm).2.2.2 _ _ _ _ _ hR ho
  have Q := q_M_layGoal_0 h
  obtain ⟨m, hm, hR⟩ := Q
  exact (lp m).1 _ _ _ hR gxo.rf
theorem w_M_layGoals {F : fx_F} {v : fx_V} {F' : fx_F} (h : Cl k_M_layGoals [(2, 175)] F v F') : gxo [193] [] F F' := by
  obtain ⟨n, h⟩ := c_M_layGoals h
  have lp : ∀ n : Nat, (∀ (l1 : Nat) (F2 : fx_F), Rn n k_M_layGoals 2 [(2, 175), (0, l1)] [] F2 v F' → gxo [193] [] F F2 → gxo [193] [] F F') := by
    intro n
    induction n using Nat.strongRecOn with
    | ind n ih =>
      refine fun l1 F2 h ho => ?_
      · have Q := q_M_layGoals_2 h
        clear h
        refine fo_if fo_le Q (fun Q => ?_) (fun Q => ?_)
        · rw [Q.2]; exact ho
        · obtain ⟨H1, c1, Q⟩ := Q
          have o1 : gxo [193] [] F H1 := gxo.tr ho (gxo.mono (w_M_layGoal c1) (by intro q hq; simp at hq ⊢; try omega) (by intro q hq; simp at hq ⊢; try omega))
          obtain ⟨m, hm, hR⟩ := Q
          exact (ih m hm) _ _ hR o1
  have Q := q_M_layGoals_0 h
  obtain ⟨m, hm, hR⟩ := Q
  exact (lp m) _ _ hR gxo.rf
theorem w_M_layPairs {F : fx_F} {v : fx_V} {F' : fx_F} (h : Cl k_M_layPairs [(2, 175)] F v F') : gxo [193, 188] [43, 42, 41, 40] F F' := by
  obtain ⟨n, h⟩ := c_M_layPairs h
  have lp : ∀ n : Nat, (∀ (l1 : Nat) (F2 : fx_F), Rn n k_M_layPairs 26 [(2, 175), (0, l1), (3, 0)] [] F2 v F' → gxo [193, 188] [43, 42, 41, 40] F F2 → gxo [193, 188] [43, 42, 41, 40] F F') ∧ (∀ (l1 l2 : Nat) (F2 : fx_F), Rn n k_M_layPairs 42 [(2, 175), (0, l1), (0, l2)] [] F2 v F' → gxo [193, 188] [43, 42, 41, 40] F F2 → gxo [193, 188] [43, 42, 41, 40] F F') := by
    intro n
    induction n using Nat.strongRecOn with
    | ind n ih =>
      refine ⟨fun l1 F2 h ho => ?_, fun l1 l2 F2 h ho => ?_⟩
      · have Q := q_M_layPairs_26 h
        clear h
        refine fo_if fo_le Q (fun Q => ?_) (fun Q => ?_)
        · rw [Q.2]; exact ho
        · obtain ⟨H1, c1, Q⟩ := Q
          have o1 : gxo [193, 188] [43, 42, 41, 40] F H1 := gxo.tr ho (gxo.mono (w_M_layFar c1) (by intro q hq; simp at hq ⊢; try omega) (by intro q hq; simp at hq ⊢; try omega))
          obtain ⟨m, hm, hR⟩ := Q
          exact (ih m hm).2 _ _ _ hR o1
      · have Q := q_M_layPairs_42 h
        clear h
        refine fo_if fo_le Q (fun Q => ?_) (fun Q => ?_)
        · obtain ⟨m, hm, hR⟩ := Q
          exact (ih m hm).1 _ _ hR ho
        · refine fo_if fo_eq Q (fun Q => ?_) (fun Q => ?_)
          · obtain ⟨m, hm, hR⟩ := Q
            exact (ih m hm).2 _ _ _ hR ho
          · refine fo_if fo_le Q (fun Q => ?_) (fun Q => ?_)
            · refine fo_if fo_ne Q (fun Q => ?_) (fun Q => ?_)
              · obtain ⟨m, hm, hR⟩ := Q
                exact (ih m hm).2 _ _ _ hR (gxo.wrf (gxo.wrf ho (by simp)) (by simp))
              · obtain ⟨m, hm, hR⟩ := Q
                exact (ih m hm).2 _ _ _ hR (gxo.wrf (gxo.wrf ho (by simp)) (by simp))
            · obtain ⟨m, hm, hR⟩ := Q
              exact (ih m hm).2 _ _ _ hR (gxo.wrf (gxo.wrf ho (by simp)) (by simp))
  have Q := q_M_layPairs_0 h
  obtain ⟨H1, c1, Q⟩ := Q
  have o1 : gxo [193, 188] [43, 42, 41, 40] F H1 := gxo.tr gxo.rf (gxo.mono (w_M_layGoals c1) (by intro q hq; simp at hq ⊢; try omega) (by intro q hq; simp at hq ⊢; try omega))
  obtain ⟨m, hm, hR⟩ := Q
  exact (lp m).1 _ _ hR (gxo.wrf (gxo.wrf (gxo.wrf (gxo.wrf o1 (by simp)) (by simp)) (by simp)) (by simp))
theorem w_M_isNext {a1 a2 a3 : Nat} {F : fx_F} {v : fx_V} {F' : fx_F} (h : Cl k_M_isNext [(2, 175), (0, a1), (0, a2), (0, a3)] F v F') : gxo [] [] F F' := by
  obtain ⟨n, h⟩ := c_M_isNext h
  have Q := q_M_isNext_0 h
  refine fo_if fo_ne Q (fun Q => ?_) (fun Q => ?_)
  · rw [Q.2]; exact gxo.rf
  · refine fo_if fo_eq Q (fun Q => ?_) (fun Q => ?_)
    · refine fo_if fo_le Q (fun Q => ?_) (fun Q => ?_)
      · rw [Q.2]; exact gxo.rf
      · refine fo_if fo_ne Q (fun Q => ?_) (fun Q => ?_)
        · refine fo_if fo_eq Q (fun Q => ?_) (fun Q => ?_)
          · refine fo_if fo_ne Q (fun Q => ?_) (fun Q => ?_)
            · rw [Q.2]; exact gxo.rf
            · rw [Q.2]; exact gxo.rf
          · refine fo_if fo_ne Q (fun Q => ?_) (fun Q => ?_)
            · rw [Q.2]; exact gxo.rf
            · rw [Q.2]; exact gxo.rf
        · refine fo_if fo_eq Q (fun Q => ?_) (fun Q => ?_)
          · refine fo_if fo_ne Q (fun Q => ?_) (fun Q => ?_)
            · rw [Q.2]; exact gxo.rf
            · rw [Q.2]; exact gxo.rf
          · refine fo_if fo_ne Q (fun Q => ?_) (fun Q => ?_)
            · rw [Q.2]; exact gxo.rf
            · rw [Q.2]; exact gxo.rf
    · refine fo_if fo_ne Q (fun Q => ?_) (fun Q => ?_)
      · refine fo_if fo_le Q (fun Q => ?_) (fun Q => ?_)
        · rw [Q.2]; exact gxo.rf
        · refine fo_if fo_ne Q (fun Q => ?_) (fun Q => ?_)
          · refine fo_if fo_eq Q (fun Q => ?_) (fun Q => ?_)
            · refine fo_if fo_ne Q (fun Q => ?_) (fun Q => ?_)
              · rw [Q.2]; exact gxo.rf
              · rw [Q.2]; exact gxo.rf
            · refine fo_if fo_ne Q (fun Q => ?_) (fun Q => ?_)
              · rw [Q.2]; exact gxo.rf
              · rw [Q.2]; exact gxo.rf
          · refine fo_if fo_eq Q (fun Q => ?_) (fun Q => ?_)
            · refine fo_if fo_ne Q (fun Q => ?_) (fun Q => ?_)
              · rw [Q.2]; exact gxo.rf
              · rw [Q.2]; exact gxo.rf
            · refine fo_if fo_ne Q (fun Q => ?_) (fun Q => ?_)
              · rw [Q.2]; exact gxo.rf
              · rw [Q.2]; exact gxo.rf
      · rw [Q.2]; exact gxo.rf
theorem w_M_leastUsed {a1 a2 a3 : Nat} {F : fx_F} {v : fx_V} {F' : fx_F} (h : Cl k_M_leastUsed [(2, 175), (0, a1), (0, a2), (0, a3)] F v F') : gxo [] [] F F' := by
  obtain ⟨n, h⟩ := c_M_leastUsed h
  have lp : ∀ n : Nat, (∀ (l1 l2 l3 l4 l5 : Nat) (F2 : fx_F), Rn n k_M_leastUsed 6 [(2, 175), (0, l1), (0, l2), (0, l3), (0, l4), (0, l5)] [] F2 v F' → gxo [] [] F F2 → gxo [] [] F F') := by
    intro n
    induction n using Nat.strongRecOn with
    | ind n ih =>
      refine fun l1 l2 l3 l4 l5 F2 h ho => ?_
      · have Q := q_M_leastUsed_6 h
        clear h
        refine fo_if fo_le Q (fun Q => ?_) (fun Q => ?_)
        · rw [Q.2]; exact ho
        · refine fo_if fo_ne Q (fun Q => ?_) (fun Q => ?_)
          · obtain ⟨m, hm, hR⟩ := Q
            exact (ih m hm) _ _ _ _ _ _ hR ho
          · obtain ⟨r1, H1, c1, Q⟩ := Q
            have o1 : gxo [] [] F H1 := gxo.tr ho (gxo.mono (w_M_isNext c1) (by intro q hq; simp at hq ⊢; try omega) (by intro q hq; simp at hq ⊢; try omega))
            refine fo_if fo_ne Q (fun Q => ?_) (fun Q => ?_)
            · refine fo_if fo_lt Q (fun Q => ?_) (fun Q => ?_)
              · obtain ⟨m, hm, hR⟩ := Q
                exact (ih m hm) _ _ _ _ _ _ hR o1
              · refine fo_if fo_le Q (fun Q => ?_) (fun Q => ?_)
                · obtain ⟨m, hm, hR⟩ := Q
                  exact (ih m hm) _ _ _ _ _ _ hR o1
                · obtain ⟨m, hm, hR⟩ := Q
                  exact (ih m hm) _ _ _ _ _ _ hR o1
            · obtain ⟨m, hm, hR⟩ := Q
              exact (ih m hm) _ _ _ _ _ _ hR o1
  have Q := q_M_leastUsed_0 h
  obtain ⟨m, hm, hR⟩ := Q
  exact (lp m) _ _ _ _ _ _ hR gxo.rf
theorem w_M_layTable {F : fx_F} {v : fx_V} {F' : fx_F} (h : Cl k_M_layTable [(2, 175)] F v F') : gxo [193, 197, 196] [] F F' := by
  obtain ⟨n, h⟩ := c_M_layTable h
  have lp : ∀ n : Nat, (∀ (l1 : Nat) (F2 : fx_F), Rn n k_M_layTable 6 [(2, 175), (0, l1), (3, 0), (3, 0), (3, 0)] [] F2 v F' → gxo [193, 197, 196] [] F F2 → gxo [193, 197, 196] [] F F') ∧ (∀ (l1 : Nat) (F2 : fx_F), Rn n k_M_layTable 27 [(2, 175), (0, l1), (3, 0), (3, 0), (3, 0)] [] F2 v F' → gxo [193, 197, 196] [] F F2 → gxo [193, 197, 196] [] F F') ∧ (∀ (l1 l2 : Nat) (F2 : fx_F), Rn n k_M_layTable 37 [(2, 175), (0, l1), (0, l2), (3, 0), (3, 0)] [] F2 v F' → gxo [193, 197, 196] [] F F2 → gxo [193, 197, 196] [] F F') ∧ (∀ (l1 l2 l3 : Nat) (F2 : fx_F), Rn n k_M_layTable 47 [(2, 175), (0, l1), (0, l2), (0, l3), (3, 0)] [] F2 v F' → gxo [193, 197, 196] [] F F2 → gxo [193, 197, 196] [] F F') := by
    intro n
    induction n using Nat.strongRecOn with
    | ind n ih =>
      refine ⟨fun l1 F2 h ho => ?_, fun l1 F2 h ho => ?_, fun l1 l2 F2 h ho => ?_, fun l1 l2 l3 F2 h ho => ?_⟩
      · have Q := q_M_layTable_6 h
        clear h
        refine fo_if fo_le Q (fun Q => ?_) (fun Q => ?_)
        · obtain ⟨m, hm, hR⟩ := Q
          exact (ih m hm).2.1 _ _ hR ho
        · obtain ⟨m, hm, hR⟩ := Q
          exact (ih m hm).1 _ _ hR (gxo.wr ho (by simp))
      · have Q := q_M_layTable_27 h
        clear h
        refine fo_if fo_le Q (fun Q => ?_) (fun Q => ?_)
        · rw [Q.2]; exact ho
        · obtain ⟨m, hm, hR⟩ := Q
          exact (ih m hm).2.2.1 _ _ _ hR ho
      · have Q := q_M_layTable_37 h
        clear h
        refine fo_if fo_le Q (fun Q => ?_) (fun Q => ?_)
        · obtain ⟨m, hm, hR⟩ := Q
          exact (ih m hm).2.1 _ _ hR ho
        · obtain ⟨m, hm, hR⟩ := Q
          exact (ih m hm).2.2.2 _ _ _ _ hR ho
      · have Q := q_M_layTable_47 h
        clear h
        refine fo_if fo_le Q (fun Q => ?_) (fun Q => ?_)
        · obtain ⟨m, hm, hR⟩ := Q
          exact (ih m hm).2.2.1 _ _ _ hR ho
        · refine fo_if fo_ne Q (fun Q => ?_) (fun Q => ?_)
          · obtain ⟨r1, H1, c1, Q⟩ := Q
            have o1 : gxo [193, 197, 196] [] F H1 := gxo.tr ho (gxo.mono (w_M_leastUsed c1) (by intro q hq; simp at hq ⊢; try omega) (by intro q hq; simp at hq ⊢; try omega))
            refine fo_if fo_lt Q (fun Q => ?_) (fun Q => ?_)
            · obtain ⟨m, hm, hR⟩ := Q
              exact (ih m hm).2.2.2 _ _ _ _ hR (gxo.wr o1 (by simp))
            · obtain ⟨m, hm, hR⟩ := Q
              exact (ih m hm).2.2.2 _ _ _ _ hR (gxo.wr (gxo.wr o1 (by simp)) (by simp))
          · refine fo_if fo_lt Q (fun Q => ?_) (fun Q => ?_)
            · obtain ⟨m, hm, hR⟩ := Q
              exact (ih m hm).2.2.2 _ _ _ _ hR (gxo.wr ho (by simp))
            · obtain ⟨m, hm, hR⟩ := Q
              exact (ih m hm).2.2.2 _ _ _ _ hR (gxo.wr (gxo.wr ho (by simp)) (by simp))
  have Q := q_M_layTable_0 h
  obtain ⟨H1, c1, Q⟩ := Q
  have o1 : gxo [193, 197, 196] [] F H1 := gxo.tr gxo.rf (gxo.mono (w_M_layGoals c1) (by intro q hq; simp at hq ⊢; try omega) (by intro q hq; simp at hq ⊢; try omega))
  obtain ⟨m, hm, hR⟩ := Q
  exact (lp m).1 _ _ hR o1
theorem w_M_pathAt {a1 a2 a3 : Nat} {F : fx_F} {v : fx_V} {F' : fx_F} (h : Cl k_M_pathAt [(2, 175), (0, a1), (0, a2), (0, a3)] F v F') : gxo [] [] F F' := by
  obtain ⟨n, h⟩ := c_M_pathAt h
  have lp : ∀ n : Nat, (∀ (l2 l3 l5 l6 l7 : Nat) (F2 : fx_F), Rn n k_M_pathAt 24 [(2, 175), (3, 0), (0, l2), (0, l3), (3, 0), (0, l5), (0, l6), (0, l7)] [] F2 v F' → gxo [] [] F F2 → gxo [] [] F F') := by
    intro n
    induction n using Nat.strongRecOn with
    | ind n ih =>
      refine fun l2 l3 l5 l6 l7 F2 h ho => ?_
      · have Q := q_M_pathAt_24 h
        clear h
        refine fo_if fo_le Q (fun Q => ?_) (fun Q => ?_)
        · rw [Q.2]; exact ho
        · refine fo_if fo_lt Q (fun Q => ?_) (fun Q => ?_)
          · rw [Q.2]; exact ho
          · refine fo_if fo_ne Q (fun Q => ?_) (fun Q => ?_)
            · refine fo_if fo_eq Q (fun Q => ?_) (fun Q => ?_)
              · refine fo_if fo_ne Q (fun Q => ?_) (fun Q => ?_)
                · obtain ⟨m, hm, hR⟩ := Q
                  exact (ih m hm) _ _ _ _ _ _ hR ho
                · obtain ⟨m, hm, hR⟩ := Q
                  exact (ih m hm) _ _ _ _ _ _ hR ho
              · refine fo_if fo_ne Q (fun Q => ?_) (fun Q => ?_)
                · obtain ⟨m, hm, hR⟩ := Q
                  exact (ih m hm) _ _ _ _ _ _ hR ho
                · obtain ⟨m, hm, hR⟩ := Q
                  exact (ih m hm) _ _ _ _ _ _ hR ho
            · refine fo_if fo_eq Q (fun Q => ?_) (fun Q => ?_)
              · refine fo_if fo_ne Q (fun Q => ?_) (fun Q => ?_)
                · obtain ⟨m, hm, hR⟩ := Q
                  exact (ih m hm) _ _ _ _ _ _ hR ho
                · obtain ⟨m, hm, hR⟩ := Q
                  exact (ih m hm) _ _ _ _ _ _ hR ho
              · refine fo_if fo_ne Q (fun Q => ?_) (fun Q => ?_)
                · obtain ⟨m, hm, hR⟩ := Q
                  exact (ih m hm) _ _ _ _ _ _ hR ho
                · obtain ⟨m, hm, hR⟩ := Q
                  exact (ih m hm) _ _ _ _ _ _ hR ho
  have Q := q_M_pathAt_0 h
  obtain ⟨m, hm, hR⟩ := Q
  exact (lp m) _ _ _ _ _ _ hR gxo.rf
theorem w_M_layLoads {F : fx_F} {v : fx_V} {F' : fx_F} (h : Cl k_M_layLoads [(2, 175)] F v F') : gxo [193, 197, 196, 198] [] F F' := by
  obtain ⟨n, h⟩ := c_M_layLoads h
  have lp : ∀ n : Nat, (∀ (l1 : Nat) (F2 : fx_F), Rn n k_M_layLoads 6 [(2, 175), (0, l1), (3, 0), (3, 0)] [] F2 v F' → gxo [193, 197, 196, 198] [] F F2 → gxo [193, 197, 196, 198] [] F F') ∧ (∀ (l1 : Nat) (F2 : fx_F), Rn n k_M_layLoads 27 [(2, 175), (0, l1), (3, 0), (3, 0)] [] F2 v F' → gxo [193, 197, 196, 198] [] F F2 → gxo [193, 197, 196, 198] [] F F') ∧ (∀ (l1 l2 : Nat) (F2 : fx_F), Rn n k_M_layLoads 37 [(2, 175), (0, l1), (0, l2), (3, 0)] [] F2 v F' → gxo [193, 197, 196, 198] [] F F2 → gxo [193, 197, 196, 198] [] F F') ∧ (∀ (l1 l2 l3 : Nat) (F2 : fx_F), Rn n k_M_layLoads 47 [(2, 175), (0, l1), (0, l2), (0, l3)] [] F2 v F' → gxo [193, 197, 196, 198] [] F F2 → gxo [193, 197, 196, 198] [] F F') := by
    intro n
    induction n using Nat.strongRecOn with
    | ind n ih =>
      refine ⟨fun l1 F2 h ho => ?_, fun l1 F2 h ho => ?_, fun l1 l2 F2 h ho => ?_, fun l1 l2 l3 F2 h ho => ?_⟩
      · have Q := q_M_layLoads_6 h
        clear h
        refine fo_if fo_le Q (fun Q => ?_) (fun Q => ?_)
        · obtain ⟨m, hm, hR⟩ := Q
          exact (ih m hm).2.1 _ _ hR ho
        · obtain ⟨m, hm, hR⟩ := Q
          exact (ih m hm).1 _ _ hR (gxo.wr ho (by simp))
      · have Q := q_M_layLoads_27 h
        clear h
        refine fo_if fo_le Q (fun Q => ?_) (fun Q => ?_)
        · rw [Q.2]; exact ho
        · obtain ⟨m, hm, hR⟩ := Q
          exact (ih m hm).2.2.1 _ _ _ hR ho
      · have Q := q_M_layLoads_37 h
        clear h
        refine fo_if fo_le Q (fun Q => ?_) (fun Q => ?_)
        · obtain ⟨m, hm, hR⟩ := Q
          exact (ih m hm).2.1 _ _ hR ho
        · obtain ⟨m, hm, hR⟩ := Q
          exact (ih m hm).2.2.2 _ _ _ _ hR ho
      · have Q := q_M_layLoads_47 h
        clear h
        obtain ⟨r1, H1, c1, Q⟩ := Q
        have o1 : gxo [193, 197, 196, 198] [] F H1 := gxo.tr ho (gxo.mono (w_M_pathAt c1) (by intro q hq; simp at hq ⊢; try omega) (by intro q hq; simp at hq ⊢; try omega))
        refine fo_if fo_lt Q (fun Q => ?_) (fun Q => ?_)
        · obtain ⟨m, hm, hR⟩ := Q
          exact (ih m hm).2.2.1 _ _ _ hR o1
        · obtain ⟨r2, H2, c2, Q⟩ := Q
          have o2 : gxo [193, 197, 196, 198] [] F H2 := gxo.tr o1 (gxo.mono (w_M_pathAt c2) (by intro q hq; simp at hq ⊢; try omega) (by intro q hq; simp at hq ⊢; try omega))
          obtain ⟨m, hm, hR⟩ := Q
          exact (ih m hm).2.2.2 _ _ _ _ hR (gxo.wr o2 (by simp))
  have Q := q_M_layLoads_0 h
  obtain ⟨H1, c1, Q⟩ := Q
  have o1 : gxo [193, 197, 196, 198] [] F H1 := gxo.tr gxo.rf (gxo.mono (w_M_layTable c1) (by intro q hq; simp at hq ⊢; try omega) (by intro q hq; simp at hq ⊢; try omega))
  obtain ⟨m, hm, hR⟩ := Q
  exact (lp m).1 _ _ hR o1
theorem w_M_heaviestNow {F : fx_F} {v : fx_V} {F' : fx_F} (h : Cl k_M_heaviestNow [(2, 175)] F v F') : gxo [] [] F F' := by
  obtain ⟨n, h⟩ := c_M_heaviestNow h
  have lp : ∀ n : Nat, (∀ (l1 l2 : Nat) (F2 : fx_F), Rn n k_M_heaviestNow 4 [(2, 175), (0, l1), (0, l2)] [] F2 v F' → gxo [] [] F F2 → gxo [] [] F F') := by
    intro n
    induction n using Nat.strongRecOn with
    | ind n ih =>
      refine fun l1 l2 F2 h ho => ?_
      · have Q := q_M_heaviestNow_4 h
        clear h
        refine fo_if fo_le Q (fun Q => ?_) (fun Q => ?_)
        · rw [Q.2]; exact ho
        · refine fo_if fo_lt Q (fun Q => ?_) (fun Q => ?_)
          · obtain ⟨m, hm, hR⟩ := Q
            exact (ih m hm) _ _ _ hR ho
          · refine fo_if fo_le Q (fun Q => ?_) (fun Q => ?_)
            · obtain ⟨m, hm, hR⟩ := Q
              exact (ih m hm) _ _ _ hR ho
            · obtain ⟨m, hm, hR⟩ := Q
              exact (ih m hm) _ _ _ hR ho
  have Q := q_M_heaviestNow_0 h
  obtain ⟨m, hm, hR⟩ := Q
  exact (lp m) _ _ _ hR gxo.rf
theorem w_M_flips {F : fx_F} {v : fx_V} {F' : fx_F} (h : Cl k_M_flips [(2, 175)] F v F') : gxo [] [] F F' := by
  obtain ⟨n, h⟩ := c_M_flips h
  have lp : ∀ n : Nat, (∀ (l1 l2 : Nat) (F2 : fx_F), Rn n k_M_flips 4 [(2, 175), (0, l1), (0, l2)] [] F2 v F' → gxo [] [] F F2 → gxo [] [] F F') := by
    intro n
    induction n using Nat.strongRecOn with
    | ind n ih =>
      refine fun l1 l2 F2 h ho => ?_
      · have Q := q_M_flips_4 h
        clear h
        refine fo_if fo_le Q (fun Q => ?_) (fun Q => ?_)
        · rw [Q.2]; exact ho
        · refine fo_if fo_eq Q (fun Q => ?_) (fun Q => ?_)
          · obtain ⟨m, hm, hR⟩ := Q
            exact (ih m hm) _ _ _ hR ho
          · obtain ⟨m, hm, hR⟩ := Q
            exact (ih m hm) _ _ _ hR ho
  have Q := q_M_flips_0 h
  obtain ⟨m, hm, hR⟩ := Q
  exact (lp m) _ _ _ hR gxo.rf
theorem w_M_length {a1 a2 : Nat} {F : fx_F} {v : fx_V} {F' : fx_F} (h : Cl k_M_length [(2, 175), (0, a1), (0, a2)] F v F') : gxo [193] [] F F' := by
  obtain ⟨n, h⟩ := c_M_length h
  have Q := q_M_length_0 h
  refine fo_if fo_lt Q (fun Q => ?_) (fun Q => ?_)
  · rw [Q.2]; exact gxo.rf
  · refine fo_if fo_lt Q (fun Q => ?_) (fun Q => ?_)
    · rw [Q.2]; exact gxo.rf
    · refine fo_if fo_lt Q (fun Q => ?_) (fun Q => ?_)
      · rw [Q.2]; exact gxo.rf
      · refine fo_if fo_lt Q (fun Q => ?_) (fun Q => ?_)
        · rw [Q.2]; exact gxo.rf
        · obtain ⟨H1, c1, Q⟩ := Q
          have o1 : gxo [193] [] F H1 := gxo.tr gxo.rf (gxo.mono (w_M_layGoal c1) (by intro q hq; simp at hq ⊢; try omega) (by intro q hq; simp at hq ⊢; try omega))
          refine fo_if fo_le Q (fun Q => ?_) (fun Q => ?_)
          · rw [Q.2]; exact o1
          · rw [Q.2]; exact o1
theorem w_M_cameBy {a1 : Nat} {F : fx_F} {v : fx_V} {F' : fx_F} (h : Cl k_M_cameBy [(2, 175), (0, a1)] F v F') : gxo [] [] F F' := by
  obtain ⟨n, h⟩ := c_M_cameBy h
  have lp : ∀ n : Nat, (∀ (l1 l2 l3 : Nat) (F2 : fx_F), Rn n k_M_cameBy 4 [(2, 175), (0, l1), (0, l2), (0, l3)] [] F2 v F' → gxo [] [] F F2 → gxo [] [] F F') := by
    intro n
    induction n using Nat.strongRecOn with
    | ind n ih =>
      refine fun l1 l2 l3 F2 h ho => ?_
      · have Q := q_M_cameBy_4 h
        clear h
        refine fo_if fo_le Q (fun Q => ?_) (fun Q => ?_)
        · rw [Q.2]; exact ho
        · refine fo_if fo_ne Q (fun Q => ?_) (fun Q => ?_)
          · obtain ⟨m, hm, hR⟩ := Q
            exact (ih m hm) _ _ _ _ hR ho
          · refine fo_if fo_ne Q (fun Q => ?_) (fun Q => ?_)
            · obtain ⟨m, hm, hR⟩ := Q
              exact (ih m hm) _ _ _ _ hR ho
            · obtain ⟨m, hm, hR⟩ := Q
              exact (ih m hm) _ _ _ _ hR ho
  have Q := q_M_cameBy_0 h
  obtain ⟨m, hm, hR⟩ := Q
  exact (lp m) _ _ _ _ hR gxo.rf
theorem w_M_goPacket {a1 : Nat} {F : fx_F} {v : fx_V} {F' : fx_F} (h : Cl k_M_goPacket [(2, 175), (0, a1)] F v F') : gxo [176] [] F F' := by
  obtain ⟨n, h⟩ := c_M_goPacket h
  have Q := q_M_goPacket_0 h
  refine fo_if fo_ne Q (fun Q => ?_) (fun Q => ?_)
  · refine fo_if fo_ne Q (fun Q => ?_) (fun Q => ?_)
    · refine fo_if fo_lt Q (fun Q => ?_) (fun Q => ?_)
      · refine fo_if fo_lt Q (fun Q => ?_) (fun Q => ?_)
        · rw [Q.2]; exact gxo.rf
        · obtain ⟨r1, H1, c1, Q⟩ := Q
          have o1 : gxo [176] [] F H1 := gxo.tr gxo.rf (gxo.mono (w_M_cameBy c1) (by intro q hq; simp at hq ⊢; try omega) (by intro q hq; simp at hq ⊢; try omega))
          refine fo_if fo_lt Q (fun Q => ?_) (fun Q => ?_)
          · rw [Q.2]; exact (gxo.wr (gxo.wr o1 (by simp)) (by simp))
          · rw [Q.2]; exact o1
      · refine fo_if fo_ne Q (fun Q => ?_) (fun Q => ?_)
        · refine fo_if fo_lt Q (fun Q => ?_) (fun Q => ?_)
          · rw [Q.2]; exact gxo.rf
          · obtain ⟨r2, H2, c2, Q⟩ := Q
            have o2 : gxo [176] [] F H2 := gxo.tr gxo.rf (gxo.mono (w_M_cameBy c2) (by intro q hq; simp at hq ⊢; try omega) (by intro q hq; simp at hq ⊢; try omega))
            refine fo_if fo_lt Q (fun Q => ?_) (fun Q => ?_)
            · rw [Q.2]; exact (gxo.wr (gxo.wr o2 (by simp)) (by simp))
            · rw [Q.2]; exact o2
        · refine fo_if fo_lt Q (fun Q => ?_) (fun Q => ?_)
          · rw [Q.2]; exact gxo.rf
          · obtain ⟨r3, H3, c3, Q⟩ := Q
            have o3 : gxo [176] [] F H3 := gxo.tr gxo.rf (gxo.mono (w_M_cameBy c3) (by intro q hq; simp at hq ⊢; try omega) (by intro q hq; simp at hq ⊢; try omega))
            refine fo_if fo_lt Q (fun Q => ?_) (fun Q => ?_)
            · rw [Q.2]; exact (gxo.wr (gxo.wr o3 (by simp)) (by simp))
            · rw [Q.2]; exact o3
    · refine fo_if fo_lt Q (fun Q => ?_) (fun Q => ?_)
      · rw [Q.2]; exact gxo.rf
      · obtain ⟨r4, H4, c4, Q⟩ := Q
        have o4 : gxo [176] [] F H4 := gxo.tr gxo.rf (gxo.mono (w_M_cameBy c4) (by intro q hq; simp at hq ⊢; try omega) (by intro q hq; simp at hq ⊢; try omega))
        refine fo_if fo_lt Q (fun Q => ?_) (fun Q => ?_)
        · rw [Q.2]; exact (gxo.wr (gxo.wr o4 (by simp)) (by simp))
        · rw [Q.2]; exact o4
  · rw [Q.2]; exact (gxo.wr (gxo.wr gxo.rf (by simp)) (by simp))
theorem w_M_goStep {F : fx_F} {v : fx_V} {F' : fx_F} (h : Cl k_M_goStep [(2, 175)] F v F') : gxo [193, 197, 196, 176] [] F F' := by
  obtain ⟨n, h⟩ := c_M_goStep h
  have lp : ∀ n : Nat, (∀ (l1 l2 : Nat) (F2 : fx_F), Rn n k_M_goStep 19 [(2, 175), (0, l1), (0, l2)] [] F2 v F' → gxo [193, 197, 196, 176] [] F F2 → gxo [193, 197, 196, 176] [] F F') := by
    intro n
    induction n using Nat.strongRecOn with
    | ind n ih =>
      refine fun l1 l2 F2 h ho => ?_
      · have Q := q_M_goStep_19 h
        clear h
        refine fo_if fo_le Q (fun Q => ?_) (fun Q => ?_)
        · rw [Q.2]; exact ho
        · refine fo_if fo_ne Q (fun Q => ?_) (fun Q => ?_)
          · obtain ⟨r1, H1, c1, Q⟩ := Q
            have o1 : gxo [193, 197, 196, 176] [] F H1 := gxo.tr ho (gxo.mono (w_M_goPacket c1) (by intro q hq; simp at hq ⊢; try omega) (by intro q hq; simp at hq ⊢; try omega))
            refine fo_if fo_eq Q (fun Q => ?_) (fun Q => ?_)
            · obtain ⟨m, hm, hR⟩ := Q
              exact (ih m hm) _ _ _ hR (gxo.wr o1 (by simp))
            · obtain ⟨m, hm, hR⟩ := Q
              exact (ih m hm) _ _ _ hR o1
          · obtain ⟨m, hm, hR⟩ := Q
            exact (ih m hm) _ _ _ hR ho
  have Q := q_M_goStep_0 h
  obtain ⟨H1, c1, Q⟩ := Q
  have o1 : gxo [193, 197, 196, 176] [] F H1 := gxo.tr gxo.rf (gxo.mono (w_M_layTable c1) (by intro q hq; simp at hq ⊢; try omega) (by intro q hq; simp at hq ⊢; try omega))
  obtain ⟨m, hm, hR⟩ := Q
  exact (lp m) _ _ _ hR (gxo.wr o1 (by simp))
theorem w_M_goSteps {a1 : Nat} {F : fx_F} {v : fx_V} {F' : fx_F} (h : Cl k_M_goSteps [(2, 175), (0, a1)] F v F') : gxo [193, 197, 196, 176] [] F F' := by
  obtain ⟨n, h⟩ := c_M_goSteps h
  have lp : ∀ n : Nat, (∀ (l1 l2 l3 : Nat) (F2 : fx_F), Rn n k_M_goSteps 4 [(2, 175), (0, l1), (0, l2), (0, l3)] [] F2 v F' → gxo [193, 197, 196, 176] [] F F2 → gxo [193, 197, 196, 176] [] F F') := by
    intro n
    induction n using Nat.strongRecOn with
    | ind n ih =>
      refine fun l1 l2 l3 F2 h ho => ?_
      · have Q := q_M_goSteps_4 h
        clear h
        refine fo_if fo_le Q (fun Q => ?_) (fun Q => ?_)
        · rw [Q.2]; exact ho
        · obtain ⟨r1, H1, c1, Q⟩ := Q
          have o1 : gxo [193, 197, 196, 176] [] F H1 := gxo.tr ho (gxo.mono (w_M_goStep c1) (by intro q hq; simp at hq ⊢; try omega) (by intro q hq; simp at hq ⊢; try omega))
          obtain ⟨m, hm, hR⟩ := Q
          exact (ih m hm) _ _ _ _ hR o1
  have Q := q_M_goSteps_0 h
  obtain ⟨m, hm, hR⟩ := Q
  exact (lp m) _ _ _ _ hR gxo.rf
theorem w_M_freePacket {F : fx_F} {v : fx_V} {F' : fx_F} (h : Cl k_M_freePacket [(2, 175)] F v F') : gxo [] [] F F' := by
  obtain ⟨n, h⟩ := c_M_freePacket h
  have lp : ∀ n : Nat, (∀ (l1 : Nat) (F2 : fx_F), Rn n k_M_freePacket 2 [(2, 175), (0, l1)] [] F2 v F' → gxo [] [] F F2 → gxo [] [] F F') := by
    intro n
    induction n using Nat.strongRecOn with
    | ind n ih =>
      refine fun l1 F2 h ho => ?_
      · have Q := q_M_freePacket_2 h
        clear h
        refine fo_if fo_le Q (fun Q => ?_) (fun Q => ?_)
        · rw [Q.2]; exact ho
        · refine fo_if fo_ne Q (fun Q => ?_) (fun Q => ?_)
          · obtain ⟨m, hm, hR⟩ := Q
            exact (ih m hm) _ _ hR ho
          · rw [Q.2]; exact ho
  have Q := q_M_freePacket_0 h
  obtain ⟨m, hm, hR⟩ := Q
  exact (lp m) _ _ hR gxo.rf
theorem w_M_gameOnce {F : fx_F} {v : fx_V} {F' : fx_F} (h : Cl k_M_gameOnce [(2, 175)] F v F') : gxo [193, 197, 196, 176] [52, 49, 51, 50] F F' := by
  obtain ⟨n, h⟩ := c_M_gameOnce h
  have Q := q_M_gameOnce_0 h
  refine fo_if fo_lt Q (fun Q => ?_) (fun Q => ?_)
  · obtain ⟨r1, H1, c1, Q⟩ := Q
    have o1 : gxo [193, 197, 196, 176] [52, 49, 51, 50] F H1 := gxo.tr (gxo.wrf (gxo.wrf (gxo.wrf gxo.rf (by simp)) (by simp)) (by simp)) (gxo.mono (w_M_packetsNow c1) (by intro q hq; simp at hq ⊢; try omega) (by intro q hq; simp at hq ⊢; try omega))
    obtain ⟨r2, H2, c2, Q⟩ := Q
    have o2 : gxo [193, 197, 196, 176] [52, 49, 51, 50] F H2 := gxo.tr o1 (gxo.mono (w_M_goStep c2) (by intro q hq; simp at hq ⊢; try omega) (by intro q hq; simp at hq ⊢; try omega))
    rw [Q.2]; exact (gxo.wrf (gxo.wrf o2 (by simp)) (by simp))
  · refine fo_if fo_lt Q (fun Q => ?_) (fun Q => ?_)
    · obtain ⟨r3, H3, c3, Q⟩ := Q
      have o3 : gxo [193, 197, 196, 176] [52, 49, 51, 50] F H3 := gxo.tr (gxo.wrf (gxo.wrf (gxo.wrf gxo.rf (by simp)) (by simp)) (by simp)) (gxo.mono (w_M_packetsNow c3) (by intro q hq; simp at hq ⊢; try omega) (by intro q hq; simp at hq ⊢; try omega))
      obtain ⟨r4, H4, c4, Q⟩ := Q
      have o4 : gxo [193, 197, 196, 176] [52, 49, 51, 50] F H4 := gxo.tr o3 (gxo.mono (w_M_goStep c4) (by intro q hq; simp at hq ⊢; try omega) (by intro q hq; simp at hq ⊢; try omega))
      rw [Q.2]; exact (gxo.wrf (gxo.wrf o4 (by simp)) (by simp))
    · refine fo_if fo_lt Q (fun Q => ?_) (fun Q => ?_)
      · obtain ⟨r5, H5, c5, Q⟩ := Q
        have o5 : gxo [193, 197, 196, 176] [52, 49, 51, 50] F H5 := gxo.tr (gxo.wrf (gxo.wrf (gxo.wrf gxo.rf (by simp)) (by simp)) (by simp)) (gxo.mono (w_M_packetsNow c5) (by intro q hq; simp at hq ⊢; try omega) (by intro q hq; simp at hq ⊢; try omega))
        obtain ⟨r6, H6, c6, Q⟩ := Q
        have o6 : gxo [193, 197, 196, 176] [52, 49, 51, 50] F H6 := gxo.tr o5 (gxo.mono (w_M_goStep c6) (by intro q hq; simp at hq ⊢; try omega) (by intro q hq; simp at hq ⊢; try omega))
        rw [Q.2]; exact (gxo.wrf (gxo.wrf o6 (by simp)) (by simp))
      · refine fo_if fo_lt Q (fun Q => ?_) (fun Q => ?_)
        · obtain ⟨r7, H7, c7, Q⟩ := Q
          have o7 : gxo [193, 197, 196, 176] [52, 49, 51, 50] F H7 := gxo.tr (gxo.wrf (gxo.wrf (gxo.wrf gxo.rf (by simp)) (by simp)) (by simp)) (gxo.mono (w_M_packetsNow c7) (by intro q hq; simp at hq ⊢; try omega) (by intro q hq; simp at hq ⊢; try omega))
          obtain ⟨r8, H8, c8, Q⟩ := Q
          have o8 : gxo [193, 197, 196, 176] [52, 49, 51, 50] F H8 := gxo.tr o7 (gxo.mono (w_M_goStep c8) (by intro q hq; simp at hq ⊢; try omega) (by intro q hq; simp at hq ⊢; try omega))
          rw [Q.2]; exact (gxo.wrf (gxo.wrf o8 (by simp)) (by simp))
        · refine fo_if fo_eq Q (fun Q => ?_) (fun Q => ?_)
          · obtain ⟨r9, H9, c9, Q⟩ := Q
            have o9 : gxo [193, 197, 196, 176] [52, 49, 51, 50] F H9 := gxo.tr (gxo.wrf (gxo.wrf (gxo.wrf gxo.rf (by simp)) (by simp)) (by simp)) (gxo.mono (w_M_packetsNow c9) (by intro q hq; simp at hq ⊢; try omega) (by intro q hq; simp at hq ⊢; try omega))
            obtain ⟨r10, H10, c10, Q⟩ := Q
            have o10 : gxo [193, 197, 196, 176] [52, 49, 51, 50] F H10 := gxo.tr o9 (gxo.mono (w_M_goStep c10) (by intro q hq; simp at hq ⊢; try omega) (by intro q hq; simp at hq ⊢; try omega))
            rw [Q.2]; exact (gxo.wrf (gxo.wrf o10 (by simp)) (by simp))
          · obtain ⟨r11, H11, c11, Q⟩ := Q
            have o11 : gxo [193, 197, 196, 176] [52, 49, 51, 50] F H11 := gxo.tr (gxo.wrf (gxo.wrf gxo.rf (by simp)) (by simp)) (gxo.mono (w_M_freePacket c11) (by intro q hq; simp at hq ⊢; try omega) (by intro q hq; simp at hq ⊢; try omega))
            refine fo_if fo_lt Q (fun Q => ?_) (fun Q => ?_)
            · obtain ⟨r12, H12, c12, Q⟩ := Q
              have o12 : gxo [193, 197, 196, 176] [52, 49, 51, 50] F H12 := gxo.tr (gxo.wrf o11 (by simp)) (gxo.mono (w_M_packetsNow c12) (by intro q hq; simp at hq ⊢; try omega) (by intro q hq; simp at hq ⊢; try omega))
              obtain ⟨r13, H13, c13, Q⟩ := Q
              have o13 : gxo [193, 197, 196, 176] [52, 49, 51, 50] F H13 := gxo.tr o12 (gxo.mono (w_M_goStep c13) (by intro q hq; simp at hq ⊢; try omega) (by intro q hq; simp at hq ⊢; try omega))
              rw [Q.2]; exact (gxo.wrf (gxo.wrf o13 (by simp)) (by simp))
            · obtain ⟨r14, H14, c14, Q⟩ := Q
              have o14 : gxo [193, 197, 196, 176] [52, 49, 51, 50] F H14 := gxo.tr o11 (gxo.mono (w_M_freePacket c14) (by intro q hq; simp at hq ⊢; try omega) (by intro q hq; simp at hq ⊢; try omega))
              refine fo_if fo_lt Q (fun Q => ?_) (fun Q => ?_)
              · obtain ⟨r15, H15, c15, Q⟩ := Q
                have o15 : gxo [193, 197, 196, 176] [52, 49, 51, 50] F H15 := gxo.tr (gxo.wrf (gxo.wr (gxo.wr (gxo.wr (gxo.wr (gxo.wr o14 (by simp)) (by simp)) (by simp)) (by simp)) (by simp)) (by simp)) (gxo.mono (w_M_packetsNow c15) (by intro q hq; simp at hq ⊢; try omega) (by intro q hq; simp at hq ⊢; try omega))
                obtain ⟨r16, H16, c16, Q⟩ := Q
                have o16 : gxo [193, 197, 196, 176] [52, 49, 51, 50] F H16 := gxo.tr o15 (gxo.mono (w_M_goStep c16) (by intro q hq; simp at hq ⊢; try omega) (by intro q hq; simp at hq ⊢; try omega))
                rw [Q.2]; exact (gxo.wrf (gxo.wrf o16 (by simp)) (by simp))
              · obtain ⟨r17, H17, c17, Q⟩ := Q
                have o17 : gxo [193, 197, 196, 176] [52, 49, 51, 50] F H17 := gxo.tr (gxo.wrf (gxo.wr (gxo.wr (gxo.wr (gxo.wr (gxo.wr o14 (by simp)) (by simp)) (by simp)) (by simp)) (by simp)) (by simp)) (gxo.mono (w_M_packetsNow c17) (by intro q hq; simp at hq ⊢; try omega) (by intro q hq; simp at hq ⊢; try omega))
                obtain ⟨r18, H18, c18, Q⟩ := Q
                have o18 : gxo [193, 197, 196, 176] [52, 49, 51, 50] F H18 := gxo.tr o17 (gxo.mono (w_M_goStep c18) (by intro q hq; simp at hq ⊢; try omega) (by intro q hq; simp at hq ⊢; try omega))
                rw [Q.2]; exact (gxo.wrf (gxo.wrf o18 (by simp)) (by simp))
theorem w_M_layOnward {a1 : Nat} {F : fx_F} {v : fx_V} {F' : fx_F} (h : Cl k_M_layOnward [(2, 175), (0, a1)] F v F') : gxo [193, 194] [] F F' := by
  obtain ⟨n, h⟩ := c_M_layOnward h
  have lp : ∀ n : Nat, (∀ (l1 l2 : Nat) (F2 : fx_F), Rn n k_M_layOnward 7 [(2, 175), (0, l1), (0, l2), (3, 0), (3, 0)] [] F2 v F' → gxo [193, 194] [] F F2 → gxo [193, 194] [] F F') ∧ (∀ (l1 l2 : Nat) (F2 : fx_F), Rn n k_M_layOnward 39 [(2, 175), (0, l1), (0, l2), (3, 0), (3, 0)] [] F2 v F' → gxo [193, 194] [] F F2 → gxo [193, 194] [] F F') ∧ (∀ (l1 l2 l3 : Nat) (F2 : fx_F), Rn n k_M_layOnward 47 [(2, 175), (0, l1), (0, l2), (0, l3), (3, 0)] [] F2 v F' → gxo [193, 194] [] F F2 → gxo [193, 194] [] F F') ∧ (∀ (l1 l2 l3 l4 : Nat) (F2 : fx_F), Rn n k_M_layOnward 58 [(2, 175), (0, l1), (0, l2), (0, l3), (0, l4)] [] F2 v F' → gxo [193, 194] [] F F2 → gxo [193, 194] [] F F') := by
    intro n
    induction n using Nat.strongRecOn with
    | ind n ih =>
      refine ⟨fun l1 l2 F2 h ho => ?_, fun l1 l2 F2 h ho => ?_, fun l1 l2 l3 F2 h ho => ?_, fun l1 l2 l3 l4 F2 h ho => ?_⟩
      · have Q := q_M_layOnward_7 h
        clear h
        refine fo_if fo_le Q (fun Q => ?_) (fun Q => ?_)
        · obtain ⟨m, hm, hR⟩ := Q
          exact (ih m hm).2.1 _ _ _ hR ho
        · refine fo_if fo_ne Q (fun Q => ?_) (fun Q => ?_)
          · obtain ⟨m, hm, hR⟩ := Q
            exact (ih m hm).1 _ _ _ hR (gxo.wr ho (by simp))
          · obtain ⟨m, hm, hR⟩ := Q
            exact (ih m hm).1 _ _ _ hR (gxo.wr ho (by simp))
      · have Q := q_M_layOnward_39 h
        clear h
        refine fo_if fo_lt Q (fun Q => ?_) (fun Q => ?_)
        · rw [Q.2]; exact ho
        · obtain ⟨m, hm, hR⟩ := Q
          exact (ih m hm).2.2.1 _ _ _ _ hR ho
      · have Q := q_M_layOnward_47 h
        clear h
        refine fo_if fo_le Q (fun Q => ?_) (fun Q => ?_)
        · obtain ⟨m, hm, hR⟩ := Q
          exact (ih m hm).2.1 _ _ _ hR ho
        · obtain ⟨m, hm, hR⟩ := Q
          exact (ih m hm).2.2.2 _ _ _ _ _ hR ho
      · have Q := q_M_layOnward_58 h
        clear h
        refine fo_if fo_le Q (fun Q => ?_) (fun Q => ?_)
        · obtain ⟨m, hm, hR⟩ := Q
          exact (ih m hm).2.2.1 _ _ _ _ hR ho
        · refine fo_if fo_ne Q (fun Q => ?_) (fun Q => ?_)
          · obtain ⟨m, hm, hR⟩ := Q
            exact (ih m hm).2.2.2 _ _ _ _ _ hR ho
          · obtain ⟨r1, H1, c1, Q⟩ := Q
            have o1 : gxo [193, 194] [] F H1 := gxo.tr ho (gxo.mono (w_M_isNext c1) (by intro q hq; simp at hq ⊢; try omega) (by intro q hq; simp at hq ⊢; try omega))
            refine fo_if fo_ne Q (fun Q => ?_) (fun Q => ?_)
            · refine fo_if fo_ne Q (fun Q => ?_) (fun Q => ?_)
              · refine fo_if fo_eq Q (fun Q => ?_) (fun Q => ?_)
                · obtain ⟨m, hm, hR⟩ := Q
                  exact (ih m hm).2.2.2 _ _ _ _ _ hR (gxo.wr o1 (by simp))
                · obtain ⟨m, hm, hR⟩ := Q
                  exact (ih m hm).2.2.2 _ _ _ _ _ hR (gxo.wr o1 (by simp))
              · refine fo_if fo_eq Q (fun Q => ?_) (fun Q => ?_)
                · obtain ⟨m, hm, hR⟩ := Q
                  exact (ih m hm).2.2.2 _ _ _ _ _ hR (gxo.wr o1 (by simp))
                · obtain ⟨m, hm, hR⟩ := Q
                  exact (ih m hm).2.2.2 _ _ _ _ _ hR (gxo.wr o1 (by simp))
            · obtain ⟨m, hm, hR⟩ := Q
              exact (ih m hm).2.2.2 _ _ _ _ _ hR o1
  have Q := q_M_layOnward_0 h
  obtain ⟨H1, c1, Q⟩ := Q
  have o1 : gxo [193, 194] [] F H1 := gxo.tr gxo.rf (gxo.mono (w_M_layGoal c1) (by intro q hq; simp at hq ⊢; try omega) (by intro q hq; simp at hq ⊢; try omega))
  obtain ⟨m, hm, hR⟩ := Q
  exact (lp m).1 _ _ _ hR o1
theorem w_M_layCome {a1 a2 : Nat} {F : fx_F} {v : fx_V} {F' : fx_F} (h : Cl k_M_layCome [(2, 175), (0, a1), (0, a2)] F v F') : gxo [195] [] F F' := by
  obtain ⟨n, h⟩ := c_M_layCome h
  have lp : ∀ n : Nat, (∀ (l1 l2 l3 : Nat) (F2 : fx_F), Rn n k_M_layCome 2 [(2, 175), (0, l1), (0, l2), (0, l3), (3, 0), (3, 0)] [] F2 v F' → gxo [195] [] F F2 → gxo [195] [] F F') ∧ (∀ (l2 l3 : Nat) (F2 : fx_F), Rn n k_M_layCome 39 [(2, 175), (3, 0), (0, l2), (0, l3), (3, 0), (3, 0)] [] F2 v F' → gxo [195] [] F F2 → gxo [195] [] F F') ∧ (∀ (l2 l3 l4 : Nat) (F2 : fx_F), Rn n k_M_layCome 46 [(2, 175), (3, 0), (0, l2), (0, l3), (0, l4), (3, 0)] [] F2 v F' → gxo [195] [] F F2 → gxo [195] [] F F') ∧ (∀ (l2 l3 l4 l5 : Nat) (F2 : fx_F), Rn n k_M_layCome 58 [(2, 175), (3, 0), (0, l2), (0, l3), (0, l4), (0, l5)] [] F2 v F' → gxo [195] [] F F2 → gxo [195] [] F F') := by
    intro n
    induction n using Nat.strongRecOn with
    | ind n ih =>
      refine ⟨fun l1 l2 l3 F2 h ho => ?_, fun l2 l3 F2 h ho => ?_, fun l2 l3 l4 F2 h ho => ?_, fun l2 l3 l4 l5 F2 h ho => ?_⟩
      · have Q := q_M_layCome_2 h
        clear h
        refine fo_if fo_le Q (fun Q => ?_) (fun Q => ?_)
        · obtain ⟨m, hm, hR⟩ := Q
          exact (ih m hm).2.1 _ _ _ hR ho
        · refine fo_if fo_ne Q (fun Q => ?_) (fun Q => ?_)
          · obtain ⟨m, hm, hR⟩ := Q
            exact (ih m hm).1 _ _ _ _ hR (gxo.wr ho (by simp))
          · obtain ⟨m, hm, hR⟩ := Q
            exact (ih m hm).1 _ _ _ _ hR (gxo.wr ho (by simp))
      · have Q := q_M_layCome_39 h
        clear h
        refine fo_if fo_le Q (fun Q => ?_) (fun Q => ?_)
        · rw [Q.2]; exact ho
        · obtain ⟨m, hm, hR⟩ := Q
          exact (ih m hm).2.2.1 _ _ _ _ hR ho
      · have Q := q_M_layCome_46 h
        clear h
        refine fo_if fo_le Q (fun Q => ?_) (fun Q => ?_)
        · obtain ⟨m, hm, hR⟩ := Q
          exact (ih m hm).2.1 _ _ _ hR ho
        · obtain ⟨m, hm, hR⟩ := Q
          exact (ih m hm).2.2.2 _ _ _ _ _ hR ho
      · have Q := q_M_layCome_58 h
        clear h
        refine fo_if fo_le Q (fun Q => ?_) (fun Q => ?_)
        · obtain ⟨m, hm, hR⟩ := Q
          exact (ih m hm).2.2.1 _ _ _ _ hR ho
        · refine fo_if fo_ne Q (fun Q => ?_) (fun Q => ?_)
          · obtain ⟨m, hm, hR⟩ := Q
            exact (ih m hm).2.2.2 _ _ _ _ _ hR ho
          · obtain ⟨r1, H1, c1, Q⟩ := Q
            have o1 : gxo [195] [] F H1 := gxo.tr ho (gxo.mono (w_M_isNext c1) (by intro q hq; simp at hq ⊢; try omega) (by intro q hq; simp at hq ⊢; try omega))
            refine fo_if fo_ne Q (fun Q => ?_) (fun Q => ?_)
            · refine fo_if fo_ne Q (fun Q => ?_) (fun Q => ?_)
              · refine fo_if fo_eq Q (fun Q => ?_) (fun Q => ?_)
                · obtain ⟨m, hm, hR⟩ := Q
                  exact (ih m hm).2.2.2 _ _ _ _ _ hR (gxo.wr o1 (by simp))
                · obtain ⟨m, hm, hR⟩ := Q
                  exact (ih m hm).2.2.2 _ _ _ _ _ hR (gxo.wr o1 (by simp))
              · refine fo_if fo_eq Q (fun Q => ?_) (fun Q => ?_)
                · obtain ⟨m, hm, hR⟩ := Q
                  exact (ih m hm).2.2.2 _ _ _ _ _ hR (gxo.wr o1 (by simp))
                · obtain ⟨m, hm, hR⟩ := Q
                  exact (ih m hm).2.2.2 _ _ _ _ _ hR (gxo.wr o1 (by simp))
            · obtain ⟨m, hm, hR⟩ := Q
              exact (ih m hm).2.2.2 _ _ _ _ _ hR o1
  have Q := q_M_layCome_0 h
  obtain ⟨m, hm, hR⟩ := Q
  exact (lp m).1 _ _ _ _ hR gxo.rf
theorem w_M_oneMore {a1 a2 : Nat} {F : fx_F} {v : fx_V} {F' : fx_F} (h : Cl k_M_oneMore [(2, 175), (0, a1), (0, a2)] F v F') : gxo [201, 200] [] F F' := by
  obtain ⟨n, h⟩ := c_M_oneMore h
  have lp : ∀ n : Nat, (∀ (l1 l2 l3 : Nat) (F2 : fx_F), Rn n k_M_oneMore 2 [(2, 175), (0, l1), (0, l2), (0, l3), (3, 0), (3, 0)] [] F2 v F' → gxo [201, 200] [] F F2 → gxo [201, 200] [] F F') ∧ (∀ (l1 l2 l3 : Nat) (F2 : fx_F), Rn n k_M_oneMore 33 [(2, 175), (0, l1), (0, l2), (0, l3), (3, 0), (3, 0)] [] F2 v F' → gxo [201, 200] [] F F2 → gxo [201, 200] [] F F') ∧ (∀ (l1 l2 l3 l4 : Nat) (F2 : fx_F), Rn n k_M_oneMore 51 [(2, 175), (0, l1), (0, l2), (0, l3), (0, l4), (3, 0)] [] F2 v F' → gxo [201, 200] [] F F2 → gxo [201, 200] [] F F') ∧ (∀ (l1 l4 : Nat) (F2 : fx_F), Rn n k_M_oneMore 158 [(2, 175), (0, l1), (3, 0), (3, 0), (0, l4), (3, 0)] [] F2 v F' → gxo [201, 200] [] F F2 → gxo [201, 200] [] F F') := by
    intro n
    induction n using Nat.strongRecOn with
    | ind n ih =>
      refine ⟨fun l1 l2 l3 F2 h ho => ?_, fun l1 l2 l3 F2 h ho => ?_, fun l1 l2 l3 l4 F2 h ho => ?_, fun l1 l4 F2 h ho => ?_⟩
      · have Q := q_M_oneMore_2 h
        clear h
        refine fo_if fo_le Q (fun Q => ?_) (fun Q => ?_)
        · obtain ⟨m, hm, hR⟩ := Q
          exact (ih m hm).2.1 _ _ _ _ hR ho
        · refine fo_if fo_ne Q (fun Q => ?_) (fun Q => ?_)
          · obtain ⟨m, hm, hR⟩ := Q
            exact (ih m hm).1 _ _ _ _ hR (gxo.wr ho (by simp))
          · obtain ⟨m, hm, hR⟩ := Q
            exact (ih m hm).1 _ _ _ _ hR (gxo.wr ho (by simp))
      · have Q := q_M_oneMore_33 h
        clear h
        refine fo_if fo_eq Q (fun Q => ?_) (fun Q => ?_)
        · refine fo_if fo_le Q (fun Q => ?_) (fun Q => ?_)
          · obtain ⟨m, hm, hR⟩ := Q
            exact (ih m hm).2.2.2 _ _ _ hR ho
          · rw [Q.2]; exact ho
        · refine fo_if fo_le Q (fun Q => ?_) (fun Q => ?_)
          · refine fo_if fo_le Q (fun Q => ?_) (fun Q => ?_)
            · obtain ⟨m, hm, hR⟩ := Q
              exact (ih m hm).2.2.2 _ _ _ hR ho
            · rw [Q.2]; exact ho
          · obtain ⟨m, hm, hR⟩ := Q
            exact (ih m hm).2.2.1 _ _ _ _ _ hR ho
      · have Q := q_M_oneMore_51 h
        clear h
        refine fo_if fo_le Q (fun Q => ?_) (fun Q => ?_)
        · obtain ⟨m, hm, hR⟩ := Q
          exact (ih m hm).2.1 _ _ _ _ hR ho
        · refine fo_if fo_ne Q (fun Q => ?_) (fun Q => ?_)
          · obtain ⟨m, hm, hR⟩ := Q
            exact (ih m hm).2.2.1 _ _ _ _ _ hR ho
          · refine fo_if fo_lt Q (fun Q => ?_) (fun Q => ?_)
            · obtain ⟨m, hm, hR⟩ := Q
              exact (ih m hm).2.2.1 _ _ _ _ _ hR ho
            · refine fo_if fo_le Q (fun Q => ?_) (fun Q => ?_)
              · obtain ⟨m, hm, hR⟩ := Q
                exact (ih m hm).2.2.1 _ _ _ _ _ hR ho
              · refine fo_if fo_ne Q (fun Q => ?_) (fun Q => ?_)
                · obtain ⟨m, hm, hR⟩ := Q
                  exact (ih m hm).2.2.1 _ _ _ _ _ hR (gxo.wr ho (by simp))
                · obtain ⟨m, hm, hR⟩ := Q
                  exact (ih m hm).2.2.1 _ _ _ _ _ hR ho
      · have Q := q_M_oneMore_158 h
        clear h
        refine fo_if fo_eq Q (fun Q => ?_) (fun Q => ?_)
        · rw [Q.2]; exact ho
        · refine fo_if fo_ne Q (fun Q => ?_) (fun Q => ?_)
          · obtain ⟨m, hm, hR⟩ := Q
            exact (ih m hm).2.2.2 _ _ _ hR (gxo.wr ho (by simp))
          · obtain ⟨m, hm, hR⟩ := Q
            exact (ih m hm).2.2.2 _ _ _ hR (gxo.wr ho (by simp))
  have Q := q_M_oneMore_0 h
  obtain ⟨m, hm, hR⟩ := Q
  exact (lp m).1 _ _ _ _ hR gxo.rf
theorem w_M_plainPairs {a1 : Nat} {F : fx_F} {v : fx_V} {F' : fx_F} (h : Cl k_M_plainPairs [(2, 175), (0, a1)] F v F') : gxo [188] [] F F' := by
  obtain ⟨n, h⟩ := c_M_plainPairs h
  have lp : ∀ n : Nat, (∀ (l1 l2 l3 : Nat) (F2 : fx_F), Rn n k_M_plainPairs 4 [(2, 175), (0, l1), (0, l2), (0, l3), (3, 0)] [] F2 v F' → gxo [188] [] F F2 → gxo [188] [] F F') ∧ (∀ (l1 l2 l3 l4 : Nat) (F2 : fx_F), Rn n k_M_plainPairs 29 [(2, 175), (0, l1), (0, l2), (0, l3), (0, l4)] [] F2 v F' → gxo [188] [] F F2 → gxo [188] [] F F') := by
    intro n
    induction n using Nat.strongRecOn with
    | ind n ih =>
      refine ⟨fun l1 l2 l3 F2 h ho => ?_, fun l1 l2 l3 l4 F2 h ho => ?_⟩
      · have Q := q_M_plainPairs_4 h
        clear h
        refine fo_if fo_le Q (fun Q => ?_) (fun Q => ?_)
        · rw [Q.2]; exact ho
        · refine fo_if fo_ne Q (fun Q => ?_) (fun Q => ?_)
          · obtain ⟨H1, c1, Q⟩ := Q
            have o1 : gxo [188] [] F H1 := gxo.tr ho (gxo.mono (w_M_layFar c1) (by intro q hq; simp at hq ⊢; try omega) (by intro q hq; simp at hq ⊢; try omega))
            obtain ⟨m, hm, hR⟩ := Q
            exact (ih m hm).2 _ _ _ _ _ hR o1
          · obtain ⟨m, hm, hR⟩ := Q
            exact (ih m hm).1 _ _ _ _ hR ho
      · have Q := q_M_plainPairs_29 h
        clear h
        refine fo_if fo_le Q (fun Q => ?_) (fun Q => ?_)
        · obtain ⟨m, hm, hR⟩ := Q
          exact (ih m hm).1 _ _ _ _ hR ho
        · refine fo_if fo_eq Q (fun Q => ?_) (fun Q => ?_)
          · obtain ⟨m, hm, hR⟩ := Q
            exact (ih m hm).2 _ _ _ _ _ hR ho
          · refine fo_if fo_eq Q (fun Q => ?_) (fun Q => ?_)
            · obtain ⟨m, hm, hR⟩ := Q
              exact (ih m hm).2 _ _ _ _ _ hR ho
            · refine fo_if fo_le Q (fun Q => ?_) (fun Q => ?_)
              · obtain ⟨m, hm, hR⟩ := Q
                exact (ih m hm).2 _ _ _ _ _ hR ho
              · obtain ⟨m, hm, hR⟩ := Q
                exact (ih m hm).2 _ _ _ _ _ hR ho
  have Q := q_M_plainPairs_0 h
  obtain ⟨m, hm, hR⟩ := Q
  exact (lp m).1 _ _ _ _ hR gxo.rf
theorem w_M_pairsOf {a1 : Nat} {F : fx_F} {v : fx_V} {F' : fx_F} (h : Cl k_M_pairsOf [(2, 175), (0, a1)] F v F') : gxo [188] [] F F' := by
  obtain ⟨n, h⟩ := c_M_pairsOf h
  have lp : ∀ n : Nat, (∀ (l1 l2 l3 : Nat) (F2 : fx_F), Rn n k_M_pairsOf 10 [(2, 175), (0, l1), (0, l2), (0, l3)] [] F2 v F' → gxo [188] [] F F2 → gxo [188] [] F F') := by
    intro n
    induction n using Nat.strongRecOn with
    | ind n ih =>
      refine fun l1 l2 l3 F2 h ho => ?_
      · have Q := q_M_pairsOf_10 h
        clear h
        refine fo_if fo_le Q (fun Q => ?_) (fun Q => ?_)
        · rw [Q.2]; exact ho
        · refine fo_if fo_eq Q (fun Q => ?_) (fun Q => ?_)
          · obtain ⟨m, hm, hR⟩ := Q
            exact (ih m hm) _ _ _ _ hR ho
          · refine fo_if fo_le Q (fun Q => ?_) (fun Q => ?_)
            · obtain ⟨m, hm, hR⟩ := Q
              exact (ih m hm) _ _ _ _ hR ho
            · obtain ⟨m, hm, hR⟩ := Q
              exact (ih m hm) _ _ _ _ hR ho
  have Q := q_M_pairsOf_0 h
  obtain ⟨H1, c1, Q⟩ := Q
  have o1 : gxo [188] [] F H1 := gxo.tr gxo.rf (gxo.mono (w_M_layFar c1) (by intro q hq; simp at hq ⊢; try omega) (by intro q hq; simp at hq ⊢; try omega))
  obtain ⟨m, hm, hR⟩ := Q
  exact (lp m) _ _ _ _ hR o1
end
section
/-! Calls that are not compared keep the relation: what is needed -/
section KEEP
variable {nn L R N p a b r w : Nat} {E C : Nat → Nat} {v v2 : fx_V} {F F' F0 F1 F2 G G' G0 G1 G2 : fx_F}
/-- scratch and, brought back, the row of all -/
theorem lr.fr2 (h : lr F G nn L E C N R) (hF : ∀ p i, ¬ qF p → F' p i = F p i) (ha : rcI F' nn L E 24) (hb : rcI F' nn L E 32) (hG : ∀ p i, ¬ qG p → p ≠ 175 → p ≠ 176 → G' p i = G p i) (h6 : ∀ i, i < 103 → G' 176 i = G 176 i) (hG2 : ∀ i, i < 40 ∨ i = 56 ∨ i = 57 → G' 175 i = G 175 i) : lr F' G' nn L E C N R ∧ sF F F' ∧ sG G G' := by
  obtain ⟨h1, ⟨k1, k2, k3, k4⟩, ⟨m1, m2, m3⟩, ⟨x1, x2⟩, _, _⟩ := h
  have f3 : ∀ p i, 3 ≤ p → p ≤ 9 → F' p i = F p i := fun p i h h2 => hF p i (by unfold qF; omega)
  have g3 : ∀ p i, 177 ≤ p → p ≤ 185 → G' p i = G p i := fun p i h h2 => hG p i (by unfold qG; omega) (by omega) (by omega)
  have g9 := hG2 9 (Or.inl (by decide))
  have hL := h1.1.2.1
  have e2 : F' 2 13 = F 2 13 := hF 2 13 (by unfold qF; omega)
  have hsk := hs.now (F' := F') (G' := G') hL x1 rfl (fun p i h _ => hF p i h) hG ⟨hG2 56 (by decide), hG2 57 (by decide)⟩
  have hS := x1.1.1
  refine ⟨⟨h1, ⟨k1.eq f3, k2.eq f3, k3.eq f3, (f3 3 3 (by decide) (by decide)).trans k4⟩, ⟨m1.eq g9 g3, m2.eq g9 g3, by rw [g9, g3 180 _ (by decide) (by decide)]; exact m3⟩, ⟨hsk, ?_⟩, ha, hb⟩, fun p i hp => hF p i (by unfold qF; omega), ⟨fun p i hp => hG p i (by unfold qG; omega) (by omega) (by omega), fun i hi => hG2 i (Or.inl hi)⟩⟩
  rw [e2]
  refine sc_congr x2 hL (fun i _ => hF _ i ?_) (fun i _ => ⟨hF _ i ?_, hF _ i ?_, hF _ i ?_, hF _ i ?_⟩) (fun x hx => h6 x (by omega))
  all_goals (unfold qF; unfold S0 at hS; omega)
/-- the class has kept all but scratch -/
def kp (nn L : Nat) (E : Nat → Nat) (F0 F : fx_F) : Prop := (∀ p i, ¬ qF p → F p i = F0 p i) ∧ rcI F nn L E 24 ∧ rcI F nn L E 32
/-- the reference has; and with all put aside -/
def gk (G0 G : fx_F) : Prop := (∀ p i, ¬ qG p → p ≠ 175 → p ≠ 176 → G p i = G0 p i) ∧ (∀ i, i < 103 → G 176 i = G0 176 i) ∧ ∀ i, i < 40 ∨ i = 56 ∨ i = 57 → G 175 i = G0 175 i
def ga (G0 G : fx_F) : Prop := (∀ p i, ¬ qG p → p ≠ 175 → p ≠ 176 → G p i = G0 p i) ∧ (∀ i, i < 103 → G 199 i = G0 176 i) ∧ ∀ i, i < 40 ∨ i = 56 ∨ i = 57 → G 175 i = G0 175 i
theorem lr.kk (h : lr F G nn L E C N R) (hF : kp nn L E F F') (hG : gk G G') : lr F' G' nn L E C N R ∧ sF F F' ∧ sG G G' := h.fr2 hF.1 hF.2.1 hF.2.2 hG.1 hG.2.1 hG.2.2
theorem lr.kp (h : lr F G nn L E C N R) : kp nn L E F F := ⟨fun _ _ _ => rfl, h.2.2.2.2.1, h.2.2.2.2.2⟩
theorem kp.gx (h : kp nn L E F0 F1) {S : List Nat} (k : gxo S [] F1 F2) (hS : ∀ q ∈ S, qF q ∧ (q < 24 ∨ 30 ≤ q) ∧ (q < 32 ∨ 38 ≤ q)) : kp nn L E F0 F2 := by
  have k2 : ∀ p i, p ∉ S → F2 p i = F1 p i := fun p i hp => k p i hp (fun _ z => by cases z)
  exact ⟨fun p i hp => (k2 p i (fun z => hp (hS p z).1)).trans (h.1 p i hp), h.2.1.eq (fun t i ht => k2 _ i (fun z => by have := (hS _ z).2; omega)), h.2.2.eq (fun t i ht => k2 _ i (fun z => by have := (hS _ z).2; omega))⟩
theorem kp.cn (h0 : lr F0 G nn L E C N R) (h : kp nn L E F0 F1) : cn F1 nn L E ∧ ocl F1 nn L E ∧ cc F1 C N := by
  have f3 : ∀ p i, 3 ≤ p → p ≤ 9 → F1 p i = F0 p i := fun p i h3 h4 => h.1 p i (by unfold qF; omega)
  exact ⟨h0.2.1.1.eq f3, h0.2.1.2.1.eq f3, h0.2.1.2.2.1.eq f3⟩
theorem kp.now (h0 : lr F0 G nn L E C N R) (h : kp nn L E F0 F1) : F1 2 13 = F0 2 13 ∧ ∀ t i, t < 5 → F1 (F0 2 13 + t) i = F0 (F0 2 13 + t) i := by
  have hS : S0 (F0 2 13) := h0.2.2.2.1.1.1.1
  exact ⟨h.1 2 13 (by unfold qF; omega), fun t i ht => h.1 _ i (by unfold S0 at hS; unfold qF; omega)⟩
theorem kp.st (h0 : lr F0 G nn L E C N R) (h : kp nn L E F0 F1) : F1 (F1 2 13) 1 < 2147483648 ∧ F1 (F1 2 13) 2 < 2147483648 := by
  obtain ⟨e1, e2⟩ := h.now h0
  have hb := sc_lt h0.1.1 h0.2.2.2.1.2
  have f1 := e2 0 1 (by decide)
  have f2 := e2 0 2 (by decide)
  rw [Nat.add_zero] at f1 f2
  rw [e1, f1, f2]
  omega
theorem kp.see (h0 : lr F0 G nn L E C N R) (h : kp nn L E F0 F1) (hp : p = 24 ∨ p = 32) (ha : a < 2147483648) (hb : b < 2147483648) (hc : Cl k_Ro_see [(2, p), (0, a), (0, b)] F1 v F2) : kp nn L E F0 F2 := by
  have hcn := (h.cn h0).1
  rcases hp with rfl | rfl
  · obtain ⟨-, a2, a3, a4, a5⟩ := s_see2 h0.1.1 ha hb (by decide) hcn h.2.1.1 h.2.1.2 hc
    exact ⟨fun p i hp => (a2 p i (by unfold qF at hp; simp; omega)).trans (h.1 p i hp), ⟨a4, a5⟩, h.2.2.eq (fun t i ht => a2 _ i (by simp; omega))⟩
  · obtain ⟨-, a2, a3, a4, a5⟩ := s_see2 h0.1.1 ha hb (by decide) hcn h.2.2.1 h.2.2.2 hc
    exact ⟨fun p i hp => (a2 p i (by unfold qF at hp; simp; omega)).trans (h.1 p i hp), h.2.1.eq (fun t i ht => a2 _ i (by simp; omega)), ⟨a4, a5⟩⟩
theorem kp.tab (h0 : lr F0 G nn L E C N R) (h : kp nn L E F0 F1) (hp : p = 24 ∨ p = 32) (ha : a < 2147483648) (hb : b < 2147483648) (hc : Cl k_Ro_seeTable [(2, p), (0, a), (0, b)] F1 v F2) : kp nn L E F0 F2 := by
  obtain ⟨hcn, hol, -⟩ := h.cn h0
  rcases hp with rfl | rfl
  · obtain ⟨-, a2, a3, a4, a5, a6, a7⟩ := s_seeTable h0.1.1 ha hb (by decide) hcn hol h.2.1.1 h.2.1.2 hc
    exact ⟨fun p i hp => (a2 p i (by unfold qF at hp; simp; omega)).trans (h.1 p i hp), ⟨a6, a7⟩, h.2.2.eq (fun t i ht => a2 _ i (by simp; omega))⟩
  · obtain ⟨-, a2, a3, a4, a5, a6, a7⟩ := s_seeTable h0.1.1 ha hb (by decide) hcn hol h.2.2.1 h.2.2.2 hc
    exact ⟨fun p i hp => (a2 p i (by unfold qF at hp; simp; omega)).trans (h.1 p i hp), h.2.1.eq (fun t i ht => a2 _ i (by simp; omega)), ⟨a6, a7⟩⟩
theorem kp.up (h0 : lr F0 G nn L E C N R) (h : kp nn L E F0 F1) (hr : r < nn ∨ nn = 0) (hr2 : r < 10) (hc : Cl k_T_upEndsBy [(2, 2), (0, r)] F1 v F2) : kp nn L E F0 F2 ∧ ∃ x, v = (0, x) ∧ x < 2147483648 := by
  obtain ⟨hcn, -, hcc⟩ := h.cn h0
  obtain ⟨x, e1, e2, e3⟩ := s_upEndsBy h0.1.1 h0.1.2.1 h0.1.2.2.1 hr hr2 hcn hcc rfl (h.st h0).2 hc
  refine ⟨h.gx (S := [20, 21, 22, 23]) (fun p i hp _ => e3 p i hp) (by simp [qF]), x, e1, ?_⟩
  have := p20 h0.1.1.2.1 e2.1
  omega
theorem gk.rf : gk G G := ⟨fun _ _ _ _ _ => rfl, fun _ _ => rfl, fun _ _ => rfl⟩
theorem gk.tr (h : gk G0 G1) (h2 : gk G1 G2) : gk G0 G2 := ⟨fun p i a b c => (h2.1 p i a b c).trans (h.1 p i a b c), fun i hi => (h2.2.1 i hi).trans (h.2.1 i hi), fun i hi => (h2.2.2 i hi).trans (h.2.2 i hi)⟩
theorem ga.tr (h : ga G0 G1) (h2 : gk G1 G2) (h3 : ∀ i, i < 103 → G2 199 i = G1 199 i) : ga G0 G2 := ⟨fun p i a b c => (h2.1 p i a b c).trans (h.1 p i a b c), fun i hi => (h3 i hi).trans (h.2.1 i hi), fun i hi => (h2.2.2 i hi).trans (h.2.2 i hi)⟩
theorem gk.gx (h : gk G0 G1) {S T : List Nat} (k : gxo S T G1 G2) (hS : ∀ q ∈ S, qG q) (hT : ∀ i ∈ T, 40 ≤ i ∧ i ≠ 56 ∧ i ≠ 57) : gk G0 G2 := by
  refine ⟨fun p i a b c => (k p i (fun z => a (hS p z)) (fun z => absurd z b)).trans (h.1 p i a b c), fun i hi => (k 176 i (fun z => ?_) (fun z => by cases z)).trans (h.2.1 i hi), fun i hi => (k 175 i (fun z => ?_) (fun _ z => ?_)).trans (h.2.2 i hi)⟩
  · have := hS 176 z; unfold qG at this; omega
  · have := hS 175 z; unfold qG at this; omega
  · have := hT i z; omega
theorem ga.gx (h : ga G0 G1) {S T : List Nat} (k : gxo S T G1 G2) (hS : ∀ q ∈ S, (qG q ∧ q ≠ 199) ∨ q = 176) (hT : ∀ i ∈ T, 40 ≤ i ∧ i ≠ 56 ∧ i ≠ 57) : ga G0 G2 := by
  refine ⟨fun p i a b c => (k p i (fun z => ?_) (fun z => absurd z b)).trans (h.1 p i a b c), fun i hi => (k 199 i (fun z => ?_) (fun z => by cases z)).trans (h.2.1 i hi), fun i hi => (k 175 i (fun z => ?_) (fun _ z => ?_)).trans (h.2.2 i hi)⟩
  · rcases hS p z with y | y
    · exact a y.1
    · exact c y
  · rcases hS 199 z with y | y
    · exact y.2 rfl
    · cases y
  · rcases hS 175 z with y | y
    · have := y.1; unfold qG at this; omega
    · cases y
  · have := hT i z; omega
theorem s_putAside (h : Cl k_M_putAside [(2, 175)] G v G') : fxo [199] G G' ∧ ∀ i, i < 103 → G' 199 i = G 176 i := by
  obtain ⟨n, h⟩ := c_M_putAside h
  obtain ⟨m, hm2, hR⟩ := q_M_putAside_0 h
  have lp : ∀ (n : Nat) (F2 : fx_F) (l : Nat), Rn n k_M_putAside 2 [(2, 175), (0, l)] [] F2 v G' → l ≤ 103 → fxo [199] G F2 → (∀ i, i < l → F2 199 i = G 176 i) → fxo [199] G G' ∧ ∀ i, i < 103 → G' 199 i = G 176 i := by
    intro n
    induction n using Nat.strongRecOn with
    | ind n ih =>
      intro F2 l h hl ho hI
      have q := q_M_putAside_2 h
      rcases Nat.lt_or_ge l 103 with hlt | hge
      · obtain ⟨m, hm3, hR⟩ := q.2 (by rw [b_lt (by omega) (by omega)]; exact hlt)
        clear q
        rw [b_add (show l + 1 < 4294967296 by omega)] at hR
        refine ih m hm3 _ (l + 1) hR (by omega) (ho.wr (by decide)) (fun j hj => ?_)
        by_cases ej : j = l
        · subst ej; rw [fu_same, ho 176 _ (by decide)]
        · rw [fu_i ej]; exact hI j (by omega)
      · obtain ⟨-, e⟩ := q.1 (by rw [b_le (by omega) (by omega)]; exact hge)
        subst e
        exact ⟨ho, fun i hi => hI i (by omega)⟩
  exact lp m G 0 hR (Nat.zero_le _) fxo.rf (fun i hi => absurd hi (Nat.not_lt_zero _))
theorem s_bringBack (h : Cl k_M_bringBack [(2, 175)] G v G') : fxo [176] G G' ∧ ∀ i, i < 103 → G' 176 i = G 199 i := by
  obtain ⟨n, h⟩ := c_M_bringBack h
  obtain ⟨m, hm2, hR⟩ := q_M_bringBack_0 h
  have lp : ∀ (n : Nat) (F3 : fx_F) (l : Nat), Rn n k_M_bringBack 2 [(2, 175), (0, l)] [] F3 v G' → l ≤ 103 → fxo [176] G F3 → (∀ i, i < l → F3 176 i = G 199 i) → fxo [176] G G' ∧ ∀ i, i < 103 → G' 176 i = G 199 i := by
    intro n
    induction n using Nat.strongRecOn with
    | ind n ih =>
      intro F3 l h hl ho hI
      have q := q_M_bringBack_2 h
      rcases Nat.lt_or_ge l 103 with hlt | hge
      · obtain ⟨m, hm3, hR⟩ := q.2 (by rw [b_lt (by omega) (by omega)]; exact hlt)
        clear q
        rw [b_add (show l + 1 < 4294967296 by omega)] at hR
        refine ih m hm3 _ (l + 1) hR (by omega) (ho.wr (by decide)) (fun j hj => ?_)
        by_cases ej : j = l
        · subst ej; rw [fu_same, ho 199 _ (by decide)]
        · rw [fu_i ej]; exact hI j (by omega)
      · obtain ⟨-, e⟩ := q.1 (by rw [b_le (by omega) (by omega)]; exact hge)
        subst e
        exact ⟨ho, fun i hi => hI i (by omega)⟩
  exact lp m G 0 hR (Nat.zero_le _) fxo.rf (fun i hi => absurd hi (Nat.not_lt_zero _))
theorem gk.aside (h : gk G0 G1) (hc : Cl k_M_putAside [(2, 175)] G1 v G2) : ga G0 G2 := by
  obtain ⟨k1, k2⟩ := s_putAside hc
  exact ⟨fun p i a b c => (k1 p i (fun z => a (by unfold qG; simp at z; omega))).trans (h.1 p i a b c), fun i hi => (k2 i hi).trans (h.2.1 i hi), fun i hi => (k1 175 i (by decide)).trans (h.2.2 i hi)⟩
theorem ga.back (h : ga G0 G1) (hc : Cl k_M_bringBack [(2, 175)] G1 v G2) : gk G0 G2 := by
  obtain ⟨k1, k2⟩ := s_bringBack hc
  exact ⟨fun p i a b c => (k1 p i (fun z => c (by simpa using z))).trans (h.1 p i a b c), fun i hi => (k2 i hi).trans (h.2.1 i hi), fun i hi => (k1 175 i (by decide)).trans (h.2.2 i hi)⟩
theorem gk.wr {i x : Nat} (h : gk G0 G1) (hp : qG p) : gk G0 (fu G1 p i x) := h.gx (S := [p]) (T := []) (gxo.rf.wr List.mem_cons_self) (fun q hq => by rw [List.mem_singleton.mp hq]; exact hp) (fun i hi => by cases hi)
theorem gk.wrf {i x : Nat} (h : gk G0 G1) (hi : 40 ≤ i ∧ i ≠ 56 ∧ i ≠ 57) : gk G0 (fu G1 175 i x) := h.gx (S := []) (T := [i]) (gxo.rf.wrf List.mem_cons_self) (fun q hq => by cases hq) (fun j hj => by rw [List.mem_singleton.mp hj]; exact hi)
theorem ga.wr {i x : Nat} (h : ga G0 G1) (hp : (qG p ∧ p ≠ 199) ∨ p = 176) : ga G0 (fu G1 p i x) := h.gx (S := [p]) (T := []) (gxo.rf.wr List.mem_cons_self) (fun q hq => by rw [List.mem_singleton.mp hq]; exact hp) (fun i hi => by cases hi)
theorem ga.wrf {i x : Nat} (h : ga G0 G1) (hi : 40 ≤ i ∧ i ≠ 56 ∧ i ≠ 57) : ga G0 (fu G1 175 i x) := h.gx (S := []) (T := [i]) (gxo.rf.wrf List.mem_cons_self) (fun q hq => by cases hq) (fun j hj => by rw [List.mem_singleton.mp hj]; exact hi)
end KEEP
end
section
/-! What the calls of the reference leave as it is (printed by frgen2.py) -/
theorem g_M_rootedBy {a1 a2 : Nat} {F : fx_F} {v : fx_V} {F' : fx_F} (h : Cl k_M_rootedBy [(2, 175), (0, a1), (0, a2)] F v F') : gk F F' := by
  obtain ⟨n, h⟩ := c_M_rootedBy h
  have Q := q_M_rootedBy_0 h
  obtain ⟨H1, c1, Q⟩ := Q
  have o1 := gk.aside gk.rf c1
  obtain ⟨H2, c2, Q⟩ := Q
  have o2 := ga.gx o1 (w_M_orientBy c2) (by simp [qG]) (by decide)
  obtain ⟨H3, c3, Q⟩ := Q
  have o3 := ga.gx o2 (w_M_takeOver c3) (by simp [qG]) (by decide)
  obtain ⟨H4, c4, Q⟩ := Q
  have o4 := ga.gx o3 (w_M_layPairs c4) (by simp [qG]) (by decide)
  refine fo_if fo_ne Q (fun Q => ?_) (fun Q => ?_)
  · refine fo_if fo_ne Q (fun Q => ?_) (fun Q => ?_)
    · obtain ⟨H5, c5, Q⟩ := Q
      have o5 := ga.back o4 c5
      rw [Q.2]; exact o5
    · obtain ⟨H6, c6, Q⟩ := Q
      have o6 := ga.gx o4 (w_M_layLoads c6) (by simp [qG]) (by decide)
      refine fo_if fo_ne Q (fun Q => ?_) (fun Q => ?_)
      · obtain ⟨r7, H7, c7, Q⟩ := Q
        have o7 := ga.gx o6 (w_M_heaviestNow c7) (by simp [qG]) (by decide)
        obtain ⟨H8, c8, Q⟩ := Q
        have o8 := ga.back o7 c8
        rw [Q.2]; exact o8
      · obtain ⟨H9, c9, Q⟩ := Q
        have o9 := ga.back o6 c9
        rw [Q.2]; exact o9
  · refine fo_if fo_ne Q (fun Q => ?_) (fun Q => ?_)
    · obtain ⟨H10, c10, Q⟩ := Q
      have o10 := ga.back o4 c10
      rw [Q.2]; exact o10
    · obtain ⟨H11, c11, Q⟩ := Q
      have o11 := ga.gx o4 (w_M_layLoads c11) (by simp [qG]) (by decide)
      refine fo_if fo_ne Q (fun Q => ?_) (fun Q => ?_)
      · obtain ⟨r12, H12, c12, Q⟩ := Q
        have o12 := ga.gx o11 (w_M_heaviestNow c12) (by simp [qG]) (by decide)
        obtain ⟨H13, c13, Q⟩ := Q
        have o13 := ga.back o12 c13
        rw [Q.2]; exact o13
      · obtain ⟨H14, c14, Q⟩ := Q
        have o14 := ga.back o11 c14
        rw [Q.2]; exact o14
theorem g_M_rooted {a1 a2 : Nat} {F : fx_F} {v : fx_V} {F' : fx_F} (h : Cl k_M_rooted [(2, 175), (0, a1), (0, a2)] F v F') : gk F F' := by
  obtain ⟨n, h⟩ := c_M_rooted h
  have Q := q_M_rooted_0 h
  refine fo_if fo_lt Q (fun Q => ?_) (fun Q => ?_)
  · rw [Q.2]; exact gk.rf
  · refine fo_if fo_lt Q (fun Q => ?_) (fun Q => ?_)
    · rw [Q.2]; exact gk.rf
    · refine fo_if fo_lt Q (fun Q => ?_) (fun Q => ?_)
      · rw [Q.2]; exact gk.rf
      · refine fo_if fo_lt Q (fun Q => ?_) (fun Q => ?_)
        · rw [Q.2]; exact gk.rf
        · obtain ⟨r1, H1, c1, Q⟩ := Q
          have o1 := gk.tr gk.rf (g_M_rootedBy c1)
          rw [Q.2]; exact o1
theorem g_M_best {a1 : Nat} {F : fx_F} {v : fx_V} {F' : fx_F} (h : Cl k_M_best [(2, 175), (0, a1)] F v F') : gk F F' := by
  obtain ⟨n, h⟩ := c_M_best h
  have lp : ∀ n : Nat, (∀ (l1 l2 l3 l4 : Nat) (F2 : fx_F), Rn n k_M_best 30 [(2, 175), (0, l1), (0, l2), (0, l3), (0, l4), (3, 0)] [] F2 v F' → gk F F2 → gk F F') := by
    intro n
    induction n using Nat.strongRecOn with
    | ind n ih =>
      refine fun l1 l2 l3 l4 F2 h ho => ?_
      · have Q := q_M_best_30 h
        clear h
        refine fo_if fo_le Q (fun Q => ?_) (fun Q => ?_)
        · rw [Q.2]; exact ho
        · obtain ⟨r1, H1, c1, Q⟩ := Q
          have o1 := gk.tr ho (g_M_rootedBy c1)
          refine fo_if fo_lt Q (fun Q => ?_) (fun Q => ?_)
          · obtain ⟨m, hm, hR⟩ := Q
            exact (ih m hm) _ _ _ _ _ hR o1
          · obtain ⟨m, hm, hR⟩ := Q
            exact (ih m hm) _ _ _ _ _ hR o1
  have Q := q_M_best_0 h
  refine fo_if fo_lt Q (fun Q => ?_) (fun Q => ?_)
  · rw [Q.2]; exact gk.rf
  · refine fo_if fo_lt Q (fun Q => ?_) (fun Q => ?_)
    · rw [Q.2]; exact gk.rf
    · refine fo_if fo_ne Q (fun Q => ?_) (fun Q => ?_)
      · obtain ⟨r1, H1, c1, Q⟩ := Q
        have o1 := gk.tr gk.rf (g_M_rootedBy c1)
        obtain ⟨m, hm, hR⟩ := Q
        exact (lp m) _ _ _ _ _ hR o1
      · rw [Q.2]; exact gk.rf
theorem g_M_without {a1 a2 : Nat} {F : fx_F} {v : fx_V} {F' : fx_F} (h : Cl k_M_without [(2, 175), (0, a1), (0, a2)] F v F') : gk F F' := by
  obtain ⟨n, h⟩ := c_M_without h
  have Q := q_M_without_0 h
  refine fo_if fo_lt Q (fun Q => ?_) (fun Q => ?_)
  · rw [Q.2]; exact gk.rf
  · refine fo_if fo_lt Q (fun Q => ?_) (fun Q => ?_)
    · rw [Q.2]; exact gk.rf
    · refine fo_if fo_ne Q (fun Q => ?_) (fun Q => ?_)
      · rw [Q.2]; exact gk.rf
      · refine fo_if fo_lt Q (fun Q => ?_) (fun Q => ?_)
        · rw [Q.2]; exact gk.rf
        · refine fo_if fo_lt Q (fun Q => ?_) (fun Q => ?_)
          · rw [Q.2]; exact gk.rf
          · obtain ⟨H1, c1, Q⟩ := Q
            have o1 := gk.aside gk.rf c1
            obtain ⟨H2, c2, Q⟩ := Q
            have o2 := ga.gx (ga.wr o1 (by simp [qG])) (w_M_orientBy c2) (by simp [qG]) (by decide)
            obtain ⟨r3, H3, c3, Q⟩ := Q
            have o3 := ga.gx o2 (w_M_flips c3) (by simp [qG]) (by decide)
            refine fo_if fo_ne Q (fun Q => ?_) (fun Q => ?_)
            · obtain ⟨H4, c4, Q⟩ := Q
              have o4 := ga.gx o3 (w_M_layPairs c4) (by simp [qG]) (by decide)
              obtain ⟨H5, c5, Q⟩ := Q
              have o5 := ga.back o4 c5
              refine fo_if fo_ne Q (fun Q => ?_) (fun Q => ?_)
              · rw [Q.2]; exact o5
              · rw [Q.2]; exact o5
            · obtain ⟨H6, c6, Q⟩ := Q
              have o6 := ga.gx o3 (w_M_takeOver c6) (by simp [qG]) (by decide)
              obtain ⟨H7, c7, Q⟩ := Q
              have o7 := ga.gx o6 (w_M_layPairs c7) (by simp [qG]) (by decide)
              obtain ⟨H8, c8, Q⟩ := Q
              have o8 := ga.back o7 c8
              refine fo_if fo_ne Q (fun Q => ?_) (fun Q => ?_)
              · rw [Q.2]; exact o8
              · rw [Q.2]; exact o8
theorem g_M_dearest {F : fx_F} {v : fx_V} {F' : fx_F} (h : Cl k_M_dearest [(2, 175)] F v F') : gk F F' := by
  obtain ⟨n, h⟩ := c_M_dearest h
  have lp : ∀ n : Nat, (∀ (l1 l2 l3 : Nat) (F2 : fx_F), Rn n k_M_dearest 6 [(2, 175), (0, l1), (0, l2), (0, l3), (3, 0)] [] F2 v F' → gk F F2 → gk F F') := by
    intro n
    induction n using Nat.strongRecOn with
    | ind n ih =>
      refine fun l1 l2 l3 F2 h ho => ?_
      · have Q := q_M_dearest_6 h
        clear h
        refine fo_if fo_le Q (fun Q => ?_) (fun Q => ?_)
        · rw [Q.2]; exact ho
        · obtain ⟨r1, H1, c1, Q⟩ := Q
          have o1 := gk.tr ho (g_M_without c1)
          refine fo_if fo_lt Q (fun Q => ?_) (fun Q => ?_)
          · obtain ⟨m, hm, hR⟩ := Q
            exact (ih m hm) _ _ _ _ hR o1
          · obtain ⟨m, hm, hR⟩ := Q
            exact (ih m hm) _ _ _ _ hR o1
  have Q := q_M_dearest_0 h
  obtain ⟨m, hm, hR⟩ := Q
  exact (lp m) _ _ _ _ hR gk.rf
theorem g_M_around {a1 a2 a3 : Nat} {F : fx_F} {v : fx_V} {F' : fx_F} (h : Cl k_M_around [(2, 175), (0, a1), (0, a2), (0, a3)] F v F') : gk F F' := by
  obtain ⟨n, h⟩ := c_M_around h
  have Q := q_M_around_0 h
  refine fo_if fo_lt Q (fun Q => ?_) (fun Q => ?_)
  · rw [Q.2]; exact gk.rf
  · refine fo_if fo_lt Q (fun Q => ?_) (fun Q => ?_)
    · rw [Q.2]; exact gk.rf
    · refine fo_if fo_lt Q (fun Q => ?_) (fun Q => ?_)
      · rw [Q.2]; exact gk.rf
      · refine fo_if fo_lt Q (fun Q => ?_) (fun Q => ?_)
        · rw [Q.2]; exact gk.rf
        · refine fo_if fo_lt Q (fun Q => ?_) (fun Q => ?_)
          · rw [Q.2]; exact gk.rf
          · refine fo_if fo_lt Q (fun Q => ?_) (fun Q => ?_)
            · rw [Q.2]; exact gk.rf
            · refine fo_if fo_ne Q (fun Q => ?_) (fun Q => ?_)
              · rw [Q.2]; exact gk.rf
              · obtain ⟨H1, c1, Q⟩ := Q
                have o1 := gk.aside gk.rf c1
                obtain ⟨r2, H2, c2, Q⟩ := Q
                have o2 := ga.gx (ga.wr o1 (by simp [qG])) (w_M_length c2) (by simp [qG]) (by decide)
                obtain ⟨H3, c3, Q⟩ := Q
                have o3 := ga.back o2 c3
                rw [Q.2]; exact o3
theorem g_M_drains {F : fx_F} {v : fx_V} {F' : fx_F} (h : Cl k_M_drains [(2, 175)] F v F') : gk F F' := by
  obtain ⟨n, h⟩ := c_M_drains h
  have lp : ∀ n : Nat, (∀ (l1 l2 : Nat) (F2 : fx_F), Rn n k_M_drains 8 [(2, 175), (0, l1), (0, l2)] [] F2 v F' → ga F F2 → gk F F') := by
    intro n
    induction n using Nat.strongRecOn with
    | ind n ih =>
      refine fun l1 l2 F2 h ho => ?_
      · have Q := q_M_drains_8 h
        clear h
        obtain ⟨r1, H1, c1, Q⟩ := Q
        have o1 := ga.gx ho (w_M_packetsNow c1) (by simp [qG]) (by decide)
        refine fo_if fo_le Q (fun Q => ?_) (fun Q => ?_)
        · obtain ⟨H2, c2, Q⟩ := Q
          have o2 := ga.back o1 c2
          refine fo_if fo_lt Q (fun Q => ?_) (fun Q => ?_)
          · rw [Q.2]; exact o2
          · refine fo_if fo_le Q (fun Q => ?_) (fun Q => ?_)
            · rw [Q.2]; exact o2
            · rw [Q.2]; exact o2
        · refine fo_if fo_lt Q (fun Q => ?_) (fun Q => ?_)
          · obtain ⟨H3, c3, Q⟩ := Q
            have o3 := ga.back o1 c3
            refine fo_if fo_lt Q (fun Q => ?_) (fun Q => ?_)
            · rw [Q.2]; exact o3
            · refine fo_if fo_le Q (fun Q => ?_) (fun Q => ?_)
              · rw [Q.2]; exact o3
              · rw [Q.2]; exact o3
          · obtain ⟨r4, H4, c4, Q⟩ := Q
            have o4 := ga.gx o1 (w_M_goStep c4) (by simp [qG]) (by decide)
            obtain ⟨m, hm, hR⟩ := Q
            exact (ih m hm) _ _ _ hR o4
  have Q := q_M_drains_0 h
  obtain ⟨H1, c1, Q⟩ := Q
  have o1 := gk.aside gk.rf c1
  obtain ⟨m, hm, hR⟩ := Q
  exact (lp m) _ _ _ hR o1
theorem g_M_stuck {F : fx_F} {v : fx_V} {F' : fx_F} (h : Cl k_M_stuck [(2, 175)] F v F') : gk F F' := by
  obtain ⟨n, h⟩ := c_M_stuck h
  have lp : ∀ n : Nat, (∀ (l1 l2 : Nat) (F2 : fx_F), Rn n k_M_stuck 22 [(2, 175), (0, l1), (0, l2)] [] F2 v F' → ga F F2 → gk F F') := by
    intro n
    induction n using Nat.strongRecOn with
    | ind n ih =>
      refine fun l1 l2 F2 h ho => ?_
      · have Q := q_M_stuck_22 h
        clear h
        refine fo_if fo_le Q (fun Q => ?_) (fun Q => ?_)
        · obtain ⟨H1, c1, Q⟩ := Q
          have o1 := ga.back ho c1
          rw [Q.2]; exact o1
        · refine fo_if fo_ne Q (fun Q => ?_) (fun Q => ?_)
          · obtain ⟨m, hm, hR⟩ := Q
            exact (ih m hm) _ _ _ hR ho
          · obtain ⟨m, hm, hR⟩ := Q
            exact (ih m hm) _ _ _ hR ho
  have Q := q_M_stuck_0 h
  obtain ⟨H1, c1, Q⟩ := Q
  have o1 := gk.aside gk.rf c1
  obtain ⟨r2, H2, c2, Q⟩ := Q
  have o2 := ga.gx o1 (w_M_goSteps c2) (by simp [qG]) (by decide)
  refine fo_if fo_le Q (fun Q => ?_) (fun Q => ?_)
  · obtain ⟨m, hm, hR⟩ := Q
    exact (lp m) _ _ _ hR o2
  · obtain ⟨m, hm, hR⟩ := Q
    exact (lp m) _ _ _ hR o2
theorem g_M_game {a1 a2 a3 : Nat} {F : fx_F} {v : fx_V} {F' : fx_F} (h : Cl k_M_game [(2, 175), (0, a1), (0, a2), (0, a3)] F v F') : gk F F' := by
  obtain ⟨n, h⟩ := c_M_game h
  have lp : ∀ n : Nat, (∀ (l2 l3 l4 : Nat) (F2 : fx_F), Rn n k_M_game 66 [(2, 175), (3, 0), (0, l2), (0, l3), (0, l4), (3, 0)] [] F2 v F' → ga F F2 → gk F F') := by
    intro n
    induction n using Nat.strongRecOn with
    | ind n ih =>
      refine fun l2 l3 l4 F2 h ho => ?_
      · have Q := q_M_game_66 h
        clear h
        refine fo_if fo_le Q (fun Q => ?_) (fun Q => ?_)
        · obtain ⟨r1, H1, c1, Q⟩ := Q
          have o1 := ga.gx ho (w_M_packetsNow c1) (by simp [qG]) (by decide)
          obtain ⟨H2, c2, Q⟩ := Q
          have o2 := ga.back o1 c2
          refine fo_if fo_ne Q (fun Q => ?_) (fun Q => ?_)
          · refine fo_if fo_ne Q (fun Q => ?_) (fun Q => ?_)
            · refine fo_if fo_ne Q (fun Q => ?_) (fun Q => ?_)
              · rw [Q.2]; exact o2
              · rw [Q.2]; exact o2
            · rw [Q.2]; exact o2
          · rw [Q.2]; exact o2
        · obtain ⟨H3, c3, Q⟩ := Q
          have o3 := ga.gx ho (w_M_gameOnce c3) (by simp [qG]) (by decide)
          obtain ⟨m, hm, hR⟩ := Q
          exact (ih m hm) _ _ _ _ hR o3
  have Q := q_M_game_0 h
  refine fo_if fo_eq Q (fun Q => ?_) (fun Q => ?_)
  · rw [Q.2]; exact gk.rf
  · refine fo_if fo_lt Q (fun Q => ?_) (fun Q => ?_)
    · rw [Q.2]; exact gk.rf
    · refine fo_if fo_lt Q (fun Q => ?_) (fun Q => ?_)
      · rw [Q.2]; exact gk.rf
      · refine fo_if fo_lt Q (fun Q => ?_) (fun Q => ?_)
        · rw [Q.2]; exact gk.rf
        · refine fo_if fo_lt Q (fun Q => ?_) (fun Q => ?_)
          · rw [Q.2]; exact gk.rf
          · refine fo_if fo_lt Q (fun Q => ?_) (fun Q => ?_)
            · rw [Q.2]; exact gk.rf
            · refine fo_if fo_lt Q (fun Q => ?_) (fun Q => ?_)
              · rw [Q.2]; exact gk.rf
              · obtain ⟨H1, c1, Q⟩ := Q
                have o1 := gk.aside gk.rf c1
                obtain ⟨m, hm, hR⟩ := Q
                exact (lp m) _ _ _ _ hR (ga.wrf (ga.wrf (ga.wrf (ga.wrf o1 (by decide)) (by decide)) (by decide)) (by decide))
theorem g_M_ways {a1 a2 : Nat} {F : fx_F} {v : fx_V} {F' : fx_F} (h : Cl k_M_ways [(2, 175), (0, a1), (0, a2)] F v F') : gk F F' := by
  obtain ⟨n, h⟩ := c_M_ways h
  have Q := q_M_ways_0 h
  refine fo_if fo_lt Q (fun Q => ?_) (fun Q => ?_)
  · rw [Q.2]; exact gk.rf
  · refine fo_if fo_lt Q (fun Q => ?_) (fun Q => ?_)
    · rw [Q.2]; exact gk.rf
    · refine fo_if fo_lt Q (fun Q => ?_) (fun Q => ?_)
      · rw [Q.2]; exact gk.rf
      · refine fo_if fo_lt Q (fun Q => ?_) (fun Q => ?_)
        · rw [Q.2]; exact gk.rf
        · obtain ⟨H1, c1, Q⟩ := Q
          have o1 := gk.gx gk.rf (w_M_layOnward c1) (by simp [qG]) (by decide)
          rw [Q.2]; exact o1
theorem g_M_through {a1 a2 a3 : Nat} {F : fx_F} {v : fx_V} {F' : fx_F} (h : Cl k_M_through [(2, 175), (0, a1), (0, a2), (0, a3)] F v F') : gk F F' := by
  obtain ⟨n, h⟩ := c_M_through h
  have lp : ∀ n : Nat, (∀ (l2 l3 l4 l6 : Nat) (F2 : fx_F), Rn n k_M_through 59 [(2, 175), (3, 0), (0, l2), (0, l3), (1, l4), (3, 0), (0, l6)] [] F2 v F' → gk F F2 → gk F F') := by
    intro n
    induction n using Nat.strongRecOn with
    | ind n ih =>
      refine fun l2 l3 l4 l6 F2 h ho => ?_
      · have Q := q_M_through_59 h
        clear h
        refine fo_if fo_le Q (fun Q => ?_) (fun Q => ?_)
        · rw [Q.2]; exact ho
        · obtain ⟨r1, H1, c1, Q⟩ := Q
          have o1 := gk.gx ho (w_M_isNext c1) (by simp [qG]) (by decide)
          refine fo_if fo_eq Q (fun Q => ?_) (fun Q => ?_)
          · obtain ⟨m, hm, hR⟩ := Q
            exact (ih m hm) _ _ _ _ _ hR o1
          · refine fo_if fo_ne Q (fun Q => ?_) (fun Q => ?_)
            · refine fo_if fo_ne Q (fun Q => ?_) (fun Q => ?_)
              · refine fo_if fo_eq Q (fun Q => ?_) (fun Q => ?_)
                · obtain ⟨m, hm, hR⟩ := Q
                  exact (ih m hm) _ _ _ _ _ hR o1
                · obtain ⟨m, hm, hR⟩ := Q
                  exact (ih m hm) _ _ _ _ _ hR o1
              · refine fo_if fo_eq Q (fun Q => ?_) (fun Q => ?_)
                · obtain ⟨m, hm, hR⟩ := Q
                  exact (ih m hm) _ _ _ _ _ hR o1
                · obtain ⟨m, hm, hR⟩ := Q
                  exact (ih m hm) _ _ _ _ _ hR o1
            · obtain ⟨m, hm, hR⟩ := Q
              exact (ih m hm) _ _ _ _ _ hR o1
  have Q := q_M_through_0 h
  refine fo_if fo_lt Q (fun Q => ?_) (fun Q => ?_)
  · rw [Q.2]; exact gk.rf
  · refine fo_if fo_lt Q (fun Q => ?_) (fun Q => ?_)
    · rw [Q.2]; exact gk.rf
    · refine fo_if fo_lt Q (fun Q => ?_) (fun Q => ?_)
      · rw [Q.2]; exact gk.rf
      · refine fo_if fo_lt Q (fun Q => ?_) (fun Q => ?_)
        · rw [Q.2]; exact gk.rf
        · refine fo_if fo_lt Q (fun Q => ?_) (fun Q => ?_)
          · rw [Q.2]; exact gk.rf
          · refine fo_if fo_lt Q (fun Q => ?_) (fun Q => ?_)
            · rw [Q.2]; exact gk.rf
            · obtain ⟨H1, c1, Q⟩ := Q
              have o1 := gk.gx gk.rf (w_M_layOnward c1) (by simp [qG]) (by decide)
              refine fo_if fo_lt Q (fun Q => ?_) (fun Q => ?_)
              · obtain ⟨H2, c2, Q⟩ := Q
                have o2 := gk.gx o1 (w_M_layCome c2) (by simp [qG]) (by decide)
                obtain ⟨m, hm, hR⟩ := Q
                exact (lp m) _ _ _ _ _ hR o2
              · rw [Q.2]; exact o1
theorem g_M_pairs {a1 : Nat} {F : fx_F} {v : fx_V} {F' : fx_F} (h : Cl k_M_pairs [(2, 175), (0, a1)] F v F') : gk F F' := by
  obtain ⟨n, h⟩ := c_M_pairs h
  have Q := q_M_pairs_0 h
  obtain ⟨H1, c1, Q⟩ := Q
  have o1 := gk.gx gk.rf (w_M_layPairs c1) (by simp [qG]) (by decide)
  rcases (fo_sw0_4 (a1)) with z | z | z | z | z
  · have Q := Q.1 z
    rw [Q.2]; exact o1
  · have Q := Q.2.1 z
    rw [Q.2]; exact o1
  · have Q := Q.2.2.1 z
    rw [Q.2]; exact o1
  · have Q := Q.2.2.2.1 z
    rw [Q.2]; exact o1
  · have Q := Q.2.2.2.2.1 z
    rw [Q.2]; exact o1
theorem g_M_apart {a1 a2 : Nat} {F : fx_F} {v : fx_V} {F' : fx_F} (h : Cl k_M_apart [(2, 175), (0, a1), (0, a2)] F v F') : gk F F' := by
  obtain ⟨n, h⟩ := c_M_apart h
  have lp : ∀ n : Nat, (∀ (l1 l2 l3 : Nat) (F2 : fx_F), Rn n k_M_apart 25 [(2, 175), (0, l1), (0, l2), (0, l3)] [] F2 v F' → gk F F2 → gk F F') ∧ (∀ (l1 l2 l3 : Nat) (F2 : fx_F), Rn n k_M_apart 46 [(2, 175), (0, l1), (0, l2), (0, l3)] [] F2 v F' → gk F F2 → gk F F') := by
    intro n
    induction n using Nat.strongRecOn with
    | ind n ih =>
      refine ⟨fun l1 l2 l3 F2 h ho => ?_, fun l1 l2 l3 F2 h ho => ?_⟩
      · have Q := q_M_apart_25 h
        clear h
        refine fo_if fo_le Q (fun Q => ?_) (fun Q => ?_)
        · obtain ⟨m, hm, hR⟩ := Q
          exact (ih m hm).2 _ _ _ _ hR ho
        · obtain ⟨m, hm, hR⟩ := Q
          exact (ih m hm).1 _ _ _ _ hR (gk.wr ho (by simp [qG]))
      · have Q := q_M_apart_46 h
        clear h
        obtain ⟨r1, H1, c1, Q⟩ := Q
        have o1 := gk.gx ho (w_M_oneMore c1) (by simp [qG]) (by decide)
        refine fo_if fo_eq Q (fun Q => ?_) (fun Q => ?_)
        · rw [Q.2]; exact o1
        · obtain ⟨m, hm, hR⟩ := Q
          exact (ih m hm).2 _ _ _ _ hR o1
  have Q := q_M_apart_0 h
  refine fo_if fo_lt Q (fun Q => ?_) (fun Q => ?_)
  · rw [Q.2]; exact gk.rf
  · refine fo_if fo_lt Q (fun Q => ?_) (fun Q => ?_)
    · rw [Q.2]; exact gk.rf
    · refine fo_if fo_lt Q (fun Q => ?_) (fun Q => ?_)
      · rw [Q.2]; exact gk.rf
      · refine fo_if fo_lt Q (fun Q => ?_) (fun Q => ?_)
        · rw [Q.2]; exact gk.rf
        · refine fo_if fo_ne Q (fun Q => ?_) (fun Q => ?_)
          · obtain ⟨m, hm, hR⟩ := Q
            exact (lp m).1 _ _ _ _ hR gk.rf
          · rw [Q.2]; exact gk.rf
theorem g_M_pivots {F : fx_F} {v : fx_V} {F' : fx_F} (h : Cl k_M_pivots [(2, 175)] F v F') : gk F F' := by
  obtain ⟨n, h⟩ := c_M_pivots h
  have lp : ∀ n : Nat, (∀ (l1 l2 l3 : Nat) (F2 : fx_F), Rn n k_M_pivots 10 [(2, 175), (0, l1), (0, l2), (0, l3)] [] F2 v F' → gk F F2 → gk F F') := by
    intro n
    induction n using Nat.strongRecOn with
    | ind n ih =>
      refine fun l1 l2 l3 F2 h ho => ?_
      · have Q := q_M_pivots_10 h
        clear h
        refine fo_if fo_le Q (fun Q => ?_) (fun Q => ?_)
        · rw [Q.2]; exact ho
        · obtain ⟨r1, H1, c1, Q⟩ := Q
          have o1 := gk.gx ho (w_M_plainPairs c1) (by simp [qG]) (by decide)
          obtain ⟨r2, H2, c2, Q⟩ := Q
          have o2 := gk.gx o1 (w_M_pairsOf c2) (by simp [qG]) (by decide)
          refine fo_if fo_le Q (fun Q => ?_) (fun Q => ?_)
          · obtain ⟨m, hm, hR⟩ := Q
            exact (ih m hm) _ _ _ _ hR o2
          · obtain ⟨m, hm, hR⟩ := Q
            exact (ih m hm) _ _ _ _ hR o2
  have Q := q_M_pivots_0 h
  obtain ⟨r1, H1, c1, Q⟩ := Q
  have o1 := gk.gx gk.rf (w_M_plainPairs c1) (by simp [qG]) (by decide)
  obtain ⟨m, hm, hR⟩ := Q
  exact (lp m) _ _ _ _ hR o1
end
section
/-! Calls that are not compared keep the relation -/
theorem fo_ifc {c d A B P : Prop} (hcd : c ∨ d) (Q : (c → A) ∧ (d → B)) (hA : c → A → P) (hB : d → B → P) : P := hcd.elim (fun z => hA z (Q.1 z)) (fun z => hB z (Q.2 z))
theorem lt_of_s {a k : Nat} (ha : a < 4294967296) (hk : k ≤ 40) (h1 : s_le 0 a) (h2 : s_lt a k) : a < k := by
  rw [b_pos ha] at h1
  rw [b_lt h1 (by omega)] at h2
  exact h2
theorem and_lt_s {s x : Nat} (hs : s < 2147483648) : i_and s x < 2147483648 := by
  rw [b_and (show s < 4294967296 by omega)]
  exact Nat.lt_of_le_of_lt Nat.and_le_left hs
section KEEPC
variable {nn L R N a b c r w : Nat} {E C : Nat → Nat} {v v2 : fx_V} {F F' F0 F1 F2 G G' : fx_F}
theorem kp.no (h : kp nn L E F0 F1) (k : gxo [] [] F1 F2) : kp nn L E F0 F2 := h.gx k (fun q hq => by cases hq)
theorem kp.way (h0 : lr F0 G nn L E C N R) (h : kp nn L E F0 F1) (ha : a < 2147483648) (hb : b < 2147483648) (hc : Cl k_T_pairsWithoutWay [(2, 2), (0, a), (0, b)] F1 v F2) : kp nn L E F0 F2 := by
  obtain ⟨n, hc⟩ := c_T_pairsWithoutWay hc
  obtain ⟨F3, c1, n2, F4, c2, _, e⟩ := q_T_pairsWithoutWay_0 hc
  rw [e]; exact (h.see h0 (Or.inr rfl) ha hb c1).no (w_Ro_pairsWithout c2)
theorem kp.worth (h0 : lr F0 G nn L E C N R) (h : kp nn L E F0 F1) (hr : r < nn) (hc : Cl k_T_worthOf [(2, 2), (0, r), (0, w)] F1 v F2) : kp nn L E F0 F2 := by
  have hn := h0.1.1.1
  obtain ⟨n, hc⟩ := c_T_worthOf hc
  obtain ⟨n1, F3, c1, Q⟩ := q_T_worthOf_0 hc
  obtain ⟨k1, x, e, hx⟩ := h.up h0 (Or.inl hr) (by omega) c1
  cases e
  have st := (k1.st h0).2
  refine fo_if fo_ne Q (fun Q => ?_) (fun Q => ?_)
  · refine fo_if fo_ne Q (fun Q => ?_) (fun Q => ?_)
    · refine fo_if fo_ne Q (fun Q => ?_) (fun Q => ?_)
      · obtain ⟨F4, c2, n3, F5, c3, _, e⟩ := Q
        rw [e]; exact (k1.tab h0 (Or.inr rfl) hx st c2).no (w_Ro_heaviestChannel c3)
      · rw [Q.2]; exact k1
    · obtain ⟨F4, c2, n3, F5, c3, _, e⟩ := Q
      rw [e]; exact (k1.see h0 (Or.inr rfl) hx st c2).no (w_Ro_hopsTogether c3)
  · obtain ⟨n2, F4, c2, _, e⟩ := Q
    rw [e]; exact k1.way h0 hx st c2
theorem h_T_rooted (h : lr F G nn L E C N R) (ha : a < 4294967296) (hF : Cl k_T_rooted [(2, 2), (0, a), (0, b)] F v F') : kp nn L E F F' := by
  have hn := h.1.1.1
  obtain ⟨n, hF⟩ := c_T_rooted hF
  have Q := q_T_rooted_0 hF
  rw [h.2.1.1.1] at Q
  refine fo_ifc fo_lt Q (fun _ Q => ?_) (fun z1 Q => ?_)
  · rw [Q.2]; exact h.kp
  refine fo_ifc fo_le Q (fun _ Q => ?_) (fun z2 Q => ?_)
  · rw [Q.2]; exact h.kp
  have hr := lt_of_s ha (by omega) z1 z2
  refine fo_if fo_lt Q (fun Q => ?_) (fun Q => ?_)
  · rw [Q.2]; exact h.kp
  refine fo_if fo_le Q (fun Q => ?_) (fun Q => ?_)
  · obtain ⟨n1, F1, c1, _, e⟩ := Q
    rw [e]; exact h.kp.worth h hr c1
  · rw [Q.2]; exact h.kp
theorem h_T_best (h : lr F G nn L E C N R) (hF : Cl k_T_best [(2, 2), (0, a)] F v F') : kp nn L E F F' := by
  have hn := h.1.1.1
  obtain ⟨n, hF⟩ := c_T_best hF
  have Q := q_T_best_0 hF
  rw [h.2.1.1.1] at Q
  have lp : ∀ (n : Nat) (F1 : fx_F) (l1 l2 l3 l4 : Nat), Rn n k_T_best 33 [(2, 2), (0, l1), (0, l2), (0, l3), (0, l4), (3, 0)] [] F1 v F' → l4 ≤ nn → kp nn L E F F1 → kp nn L E F F' := by
    intro n
    induction n using Nat.strongRecOn with
    | ind n ih =>
      intro F1 l1 l2 l3 l4 hR hl k
      have Q := q_T_best_33 hR
      rw [(k.cn h).1.1] at Q
      refine fo_ifc fo_le Q (fun _ Q => ?_) (fun z Q => ?_)
      · rw [Q.2]; exact k
      rw [b_lt (by clear Q; omega) (by clear Q; omega)] at z
      obtain ⟨n1, F3, c1, Q⟩ := Q
      have k1 := k.worth h z c1
      rw [b_add (show l4 + 1 < 4294967296 by clear Q; omega)] at Q
      refine fo_if fo_le Q (fun Q => ?_) (fun Q => ?_)
      · obtain ⟨m, hm, hR⟩ := Q
        exact ih m hm _ _ _ _ _ hR (by omega) k1
      · obtain ⟨m, hm, hR⟩ := Q
        exact ih m hm _ _ _ _ _ hR (by omega) k1
  refine fo_ifc fo_eq Q (fun _ Q => ?_) (fun z1 Q => ?_)
  · rw [Q.2]; exact h.kp
  refine fo_if fo_lt Q (fun Q => ?_) (fun Q => ?_)
  · rw [Q.2]; exact h.kp
  refine fo_if fo_le Q (fun Q => ?_) (fun Q => ?_)
  · obtain ⟨n1, F1, c1, m, hm, hR⟩ := Q
    exact lp m F1 _ _ _ _ hR (by omega) (h.kp.worth h (by omega) c1)
  · rw [Q.2]; exact h.kp
theorem h_T_without (h : lr F G nn L E C N R) (hF : Cl k_T_without [(2, 2), (0, a), (0, b)] F v F') : kp nn L E F F' := by
  obtain ⟨n, hF⟩ := c_T_without hF
  have Q := q_T_without_0 hF
  obtain ⟨s1, s2⟩ := h.kp.st h
  have s3 : ∀ x, i_and (F (F 2 13) 2) x < 2147483648 := fun x => and_lt_s s2
  have up : ∀ {F1 F2 : fx_F} {r s : Nat} {n2 : Nat}, Cl k_Or_rate [(2, 19), (0, r), (0, s)] F (2, 0) F1 → Cl k_Or_upEnds [(2, 19)] F1 (0, n2) F2 → kp nn L E F F2 ∧ n2 < 2147483648 := by
    intro F1 F2 r s n2 c1 c2
    have k1 := h.kp.gx (w_Or_rate c1) (by simp [qF])
    obtain ⟨x, e1, e2, e3, -⟩ := s_upEnds h.1.1 (k1.cn h).1 (R := F1 22) (fun _ _ => rfl) c2
    cases e1
    subst e2
    have := p20 h.1.1.2.1 e3
    exact ⟨k1, by omega⟩
  refine fo_if fo_lt Q (fun Q => ?_) (fun Q => ?_)
  · rw [Q.2]; exact h.kp
  refine fo_if fo_le Q (fun Q => ?_) (fun Q => ?_)
  · rw [Q.2]; exact h.kp
  refine fo_if fo_ne Q (fun Q => ?_) (fun Q => ?_)
  · rw [Q.2]; exact h.kp
  refine fo_if fo_ne Q (fun Q => ?_) (fun Q => ?_)
  · refine fo_if fo_eq Q (fun Q => ?_) (fun Q => ?_)
    · obtain ⟨F1, c1, n2, F2, c2, Q⟩ := Q
      obtain ⟨k2, hx⟩ := up c1 c2
      refine fo_if fo_ne Q (fun Q => ?_) (fun Q => ?_)
      · obtain ⟨n3, F3, c3, _, e⟩ := Q
        rw [e]; exact k2.no (w_I_bitCount c3)
      · obtain ⟨n3, F3, c3, _, e⟩ := Q
        rw [e]; exact k2.way h hx (s3 _) c3
    · refine fo_if fo_eq Q (fun Q => ?_) (fun Q => ?_)
      · obtain ⟨F1, c1, n2, F2, c2, Q⟩ := Q
        obtain ⟨k2, hx⟩ := up c1 c2
        refine fo_if fo_ne Q (fun Q => ?_) (fun Q => ?_)
        · obtain ⟨n3, F3, c3, _, e⟩ := Q
          rw [e]; exact k2.no (w_I_bitCount c3)
        · obtain ⟨n3, F3, c3, _, e⟩ := Q
          rw [e]; exact k2.way h hx (s3 _) c3
      · rw [Q.2]; exact h.kp
  · obtain ⟨n1, F1, c1, _, e⟩ := Q
    rw [e]; exact h.kp.way h s1 (s3 _) c1
theorem h_T_dearest (h : lr F G nn L E C N R) (hF : Cl k_T_dearest [(2, 2)] F v F') : kp nn L E F F' := by
  obtain ⟨n, hF⟩ := c_T_dearest hF
  obtain ⟨m, hm, hR⟩ := q_T_dearest_0 hF
  have lp : ∀ (n : Nat) (F1 : fx_F) (l1 l2 l3 : Nat), Rn n k_T_dearest 6 [(2, 2), (0, l1), (0, l2), (0, l3), (3, 0)] [] F1 v F' → kp nn L E F F1 → kp nn L E F F' := by
    intro n
    induction n using Nat.strongRecOn with
    | ind n ih =>
      intro F1 l1 l2 l3 hR k
      have Q := q_T_dearest_6 hR
      refine fo_if fo_le Q (fun Q => ?_) (fun Q => ?_)
      · rw [Q.2]; exact k
      refine fo_if fo_ne Q (fun Q => ?_) (fun Q => ?_)
      · obtain ⟨m, hm, hR⟩ := Q
        exact ih m hm _ _ _ _ hR k
      obtain ⟨n1, F3, c1, Q⟩ := Q
      have k1 := k.way h (k.st h).1 (and_lt_s (k.st h).2) c1
      refine fo_if fo_le Q (fun Q => ?_) (fun Q => ?_)
      · obtain ⟨m, hm, hR⟩ := Q
        exact ih m hm _ _ _ _ hR k1
      · obtain ⟨m, hm, hR⟩ := Q
        exact ih m hm _ _ _ _ hR k1
  exact lp m F _ _ _ hR h.kp
theorem h_T_around (h : lr F G nn L E C N R) (hF : Cl k_T_around [(2, 2), (0, a), (0, b), (0, c)] F v F') : kp nn L E F F' := by
  obtain ⟨n, hF⟩ := c_T_around hF
  have Q := q_T_around_0 hF
  obtain ⟨s1, s2⟩ := h.kp.st h
  refine fo_if fo_lt Q (fun Q => ?_) (fun Q => ?_)
  · rw [Q.2]; exact h.kp
  refine fo_if fo_le Q (fun Q => ?_) (fun Q => ?_)
  · rw [Q.2]; exact h.kp
  refine fo_if fo_lt Q (fun Q => ?_) (fun Q => ?_)
  · rw [Q.2]; exact h.kp
  refine fo_if fo_le Q (fun Q => ?_) (fun Q => ?_)
  · rw [Q.2]; exact h.kp
  refine fo_if fo_lt Q (fun Q => ?_) (fun Q => ?_)
  · rw [Q.2]; exact h.kp
  refine fo_if fo_le Q (fun Q => ?_) (fun Q => ?_)
  · rw [Q.2]; exact h.kp
  refine fo_if fo_ne Q (fun Q => ?_) (fun Q => ?_)
  · rw [Q.2]; exact h.kp
  obtain ⟨F1, c1, _, e⟩ := Q
  rw [e]; exact h.kp.see h (Or.inr rfl) s1 (and_lt_s s2) c1
theorem h_T_pairs (h : lr F G nn L E C N R) (hF : Cl k_T_pairs [(2, 2), (0, a)] F v F') : kp nn L E F F' := by
  obtain ⟨n, hF⟩ := c_T_pairs hF
  obtain ⟨F1, c1, Q⟩ := q_T_pairs_0 hF
  obtain ⟨s1, s2⟩ := h.kp.st h
  have k1 := h.kp.see h (Or.inl rfl) s1 s2 c1
  have hz : (a < 0 ∨ 4 ≤ a) ∨ a = 0 ∨ a = 1 ∨ a = 2 ∨ a = 3 := by clear Q; omega
  rcases hz with z | z | z | z | z
  · rw [(Q.1 z).2]; exact k1
  · obtain ⟨n2, F2, c2, _, e⟩ := Q.2.1 z
    rw [e]; exact k1.no (w_Ro_pairsWithout c2)
  · obtain ⟨n2, F2, c2, _, e⟩ := Q.2.2.1 z
    rw [e]; exact k1.no (w_Ro_hopsTogether c2)
  · obtain ⟨F2, c2, n3, F3, c3, n4, F4, c4, _, e⟩ := Q.2.2.2.1 z
    rw [e]; exact ((k1.gx (w_Gr_see c2) (by simp [qF])).no (w_Ro_hopsTogether c3)).no (w_T_hopsWhereWays c4)
  · obtain ⟨F2, c2, n3, F3, c3, _, e⟩ := Q.2.2.2.2.1 z
    rw [e]; exact (k1.gx (w_Gr_see c2) (by simp [qF])).no (w_Gr_pairsWithout c3)
theorem h_T_ways (h : lr F G nn L E C N R) (hF : Cl k_T_ways [(2, 2), (0, a), (0, b)] F v F') : kp nn L E F F' := by
  obtain ⟨n, hF⟩ := c_T_ways hF
  have Q := q_T_ways_0 hF
  obtain ⟨s1, s2⟩ := h.kp.st h
  refine fo_if fo_lt Q (fun Q => ?_) (fun Q => ?_)
  · rw [Q.2]; exact h.kp
  refine fo_if fo_le Q (fun Q => ?_) (fun Q => ?_)
  · rw [Q.2]; exact h.kp
  refine fo_if fo_lt Q (fun Q => ?_) (fun Q => ?_)
  · rw [Q.2]; exact h.kp
  refine fo_if fo_le Q (fun Q => ?_) (fun Q => ?_)
  · rw [Q.2]; exact h.kp
  obtain ⟨F1, c1, n2, F2, c2, _, e⟩ := Q
  rw [e]; exact (h.kp.see h (Or.inl rfl) s1 s2 c1).gx (w_Ro_countWays c2) (by simp [qF])
theorem h_T_through (h : lr F G nn L E C N R) (hF : Cl k_T_through [(2, 2), (0, a), (0, b), (0, c)] F v F') : kp nn L E F F' := by
  obtain ⟨n, hF⟩ := c_T_through hF
  have Q := q_T_through_0 hF
  obtain ⟨s1, s2⟩ := h.kp.st h
  refine fo_if fo_lt Q (fun Q => ?_) (fun Q => ?_)
  · rw [Q.2]; exact h.kp
  refine fo_if fo_le Q (fun Q => ?_) (fun Q => ?_)
  · rw [Q.2]; exact h.kp
  refine fo_if fo_lt Q (fun Q => ?_) (fun Q => ?_)
  · rw [Q.2]; exact h.kp
  refine fo_if fo_le Q (fun Q => ?_) (fun Q => ?_)
  · rw [Q.2]; exact h.kp
  refine fo_if fo_lt Q (fun Q => ?_) (fun Q => ?_)
  · rw [Q.2]; exact h.kp
  refine fo_if fo_le Q (fun Q => ?_) (fun Q => ?_)
  · rw [Q.2]; exact h.kp
  obtain ⟨F1, c1, n2, F2, c2, _, e⟩ := Q
  rw [e]; exact (h.kp.see h (Or.inl rfl) s1 s2 c1).gx (w_Ro_countThrough c2) (by simp [qF])
theorem h_T_apart (h : lr F G nn L E C N R) (hF : Cl k_T_apart [(2, 2), (0, a), (0, b)] F v F') : kp nn L E F F' := h.kp.gx (w_T_apart hF) (by simp [qF])
theorem h_T_pivots (h : lr F G nn L E C N R) (hF : Cl k_T_pivots [(2, 2)] F v F') : kp nn L E F F' := h.kp.gx (w_T_pivots hF) (by simp [qF])
/-- the trial is now's copy, and seen -/
theorem kp.trial (h0 : lr F0 G nn L E C N R) (h : kp nn L E F0 F1) (hc : Cl k_St_copyFrom [(2, 153), (2, F1 2 13)] F1 v F2) : kp nn L E F0 F2 ∧ F2 153 1 < 2147483648 ∧ F2 153 2 < 2147483648 := by
  have hS : S0 (F0 2 13) := h0.2.2.2.1.1.1.1
  obtain ⟨e1, e2⟩ := h.now h0
  obtain ⟨s1, s2⟩ := h.st h0
  obtain ⟨-, -, a3, -⟩ := s_copy (fun t t' ht ht' => by rw [e1]; unfold S0 at hS; omega) hc
  refine ⟨h.gx (w_St_copyFrom hc) (by simp [qF]), ?_, ?_⟩
  · rw [a3 1 (by decide)]; exact s1
  · rw [a3 2 (by decide)]; exact s2
theorem kp.empty (h0 : lr F0 G nn L E C N R) (h : kp nn L E F0 F1) (h1 : F1 153 1 < 2147483648) (h2 : F1 153 2 < 2147483648) (hc : Cl k_T_runEmpty [(2, 2)] F1 v F2) : kp nn L E F0 F2 := by
  obtain ⟨n, hc⟩ := c_T_runEmpty hc
  obtain ⟨F3, c1, m, hm, hR⟩ := q_T_runEmpty_0 hc
  have lp : ∀ (n : Nat) (F1 : fx_F) (l1 : Nat), Rn n k_T_runEmpty 30 [(2, 2), (0, l1), (3, 0)] [] F1 v F2 → kp nn L E F0 F1 → kp nn L E F0 F2 := by
    intro n
    induction n using Nat.strongRecOn with
    | ind n ih =>
      intro F1 l1 hR k
      have Q := q_T_runEmpty_30 hR
      refine fo_if fo_le Q (fun Q => ?_) (fun Q => ?_)
      · rw [Q.2]; exact k
      obtain ⟨n1, F4, c1, Q⟩ := Q
      have k1 := k.no (w_St_countPackets c1)
      refine fo_if fo_ne Q (fun Q => ?_) (fun Q => ?_)
      · obtain ⟨F5, c2, Q⟩ := Q
        have k2 := k1.gx (w_Tr_goStep c2) (by simp [qF])
        refine fo_if fo_ne Q (fun Q => ?_) (fun Q => ?_)
        · obtain ⟨m, hm, hR⟩ := Q
          exact ih m hm _ _ hR k2
        · rw [Q.2]; exact k2
      · rw [Q.2]; exact k1
  refine lp m _ _ hR ?_
  exact (h.tab h0 (Or.inl rfl) h1 h2 c1).gx (S := [50]) ((gxo.rf.wr List.mem_cons_self).wr List.mem_cons_self) (by simp [qF])
theorem h_T_drains (h : lr F G nn L E C N R) (hF : Cl k_T_drains [(2, 2)] F v F') : kp nn L E F F' := by
  obtain ⟨n, hF⟩ := c_T_drains hF
  obtain ⟨F1, c1, n2, F2, c2, n3, F3, c3, Q⟩ := q_T_drains_0 hF
  obtain ⟨k1, e1, e2⟩ := h.kp.trial h c1
  have k3 := (k1.empty h e1 e2 c2).no (w_St_countPackets c3)
  refine fo_if fo_ne Q (fun Q => ?_) (fun Q => ?_)
  · rw [Q.2]; exact k3
  · rw [Q.2]; exact k3
theorem h_T_stuck (h : lr F G nn L E C N R) (hF : Cl k_T_stuck [(2, 2)] F v F') : kp nn L E F F' := by
  obtain ⟨n, hF⟩ := c_T_stuck hF
  obtain ⟨F1, c1, n2, F2, c2, m, hm, hR⟩ := q_T_stuck_0 hF
  obtain ⟨k1, e1, e2⟩ := h.kp.trial h c1
  have k2 := k1.empty h e1 e2 c2
  have lp : ∀ (n : Nat) (l1 l2 : Nat), Rn n k_T_stuck 20 [(2, 2), (0, l1), (0, l2)] [] F2 v F' → kp nn L E F F' := by
    intro n
    induction n using Nat.strongRecOn with
    | ind n ih =>
      intro l1 l2 hR
      have Q := q_T_stuck_20 hR
      refine fo_if fo_le Q (fun Q => ?_) (fun Q => ?_)
      · rw [Q.2]; exact k2
      refine fo_if fo_lt Q (fun Q => ?_) (fun Q => ?_)
      · obtain ⟨m, hm, hR⟩ := Q
        exact ih m hm _ _ hR
      refine fo_if fo_le Q (fun Q => ?_) (fun Q => ?_)
      · obtain ⟨m, hm, hR⟩ := Q
        exact ih m hm _ _ hR
      refine fo_if fo_eq Q (fun Q => ?_) (fun Q => ?_)
      · obtain ⟨m, hm, hR⟩ := Q
        exact ih m hm _ _ hR
      · obtain ⟨m, hm, hR⟩ := Q
        exact ih m hm _ _ hR
  exact lp m _ _ hR
theorem h_T_game (h : lr F G nn L E C N R) (hF : Cl k_T_game [(2, 2), (0, a), (0, b), (0, c)] F v F') : kp nn L E F F' := by
  obtain ⟨n, hF⟩ := c_T_game hF
  have Q := q_T_game_0 hF
  refine fo_if fo_eq Q (fun Q => ?_) (fun Q => ?_)
  · rw [Q.2]; exact h.kp
  refine fo_if fo_lt Q (fun Q => ?_) (fun Q => ?_)
  · rw [Q.2]; exact h.kp
  refine fo_if fo_lt Q (fun Q => ?_) (fun Q => ?_)
  · rw [Q.2]; exact h.kp
  refine fo_if fo_lt Q (fun Q => ?_) (fun Q => ?_)
  · rw [Q.2]; exact h.kp
  refine fo_if fo_le Q (fun Q => ?_) (fun Q => ?_)
  · refine fo_if fo_lt Q (fun Q => ?_) (fun Q => ?_)
    · rw [Q.2]; exact h.kp
    refine fo_if fo_le Q (fun Q => ?_) (fun Q => ?_)
    · obtain ⟨F1, c1, F2, c2, n3, F3, c3, Q⟩ := Q
      obtain ⟨k1, e1, e2⟩ := h.kp.trial h c1
      have k2 := (k1.tab h (Or.inl rfl) e1 e2 c2).gx (S := [50]) ((gxo.rf.wr (i := 1) (v := 0) List.mem_cons_self).wr (i := 2) (v := 0) List.mem_cons_self) (by simp [qF])
      have k3 := k2.gx (w_Tr_play c3) (by simp [qF])
      have hz : (c < 0 ∨ 3 ≤ c) ∨ c = 0 ∨ c = 1 ∨ c = 2 := by clear Q; omega
      rcases hz with z | z | z | z
      · rw [(Q.1 z).2]; exact k3
      · rw [(Q.2.1 z).2]; exact k3
      · obtain ⟨n4, F4, c4, _, e⟩ := Q.2.2.1 z
        rw [e]; exact k3.no (w_St_countPackets c4)
      · rw [(Q.2.2.2.1 z).2]; exact k3
    · rw [Q.2]; exact h.kp
  · rw [Q.2]; exact h.kp
end KEEPC
end
section
/-! Reference: what is named -/
noncomputable def ax_rng (lo hi v : Nat) : Prop := lo ≤ rx_bi (v / 4) ∧ rx_bi (v / 4) ≤ hi
/-- a number of a state, by its place -/
noncomputable def ax_sg (k v : Nat) : Prop := (41 ≤ k → k ≤ 52 → ax_rng 2147483648 2147483649 v) ∧ (53 ≤ k → k ≤ 76 → ax_rng 2147483648 2147483657 v) ∧ (77 ≤ k → k ≤ 88 → ax_rng 2147483647 2147483687 v)
/-- kept states are states -/
noncomputable def ax_M1 (q : Nat) (hp : rx_H) : Prop := ∃ (kk m : Nat) (f : List Nat), rx_hg hp q = some (kk, m, f) ∧ ∀ i v : Nat, f[i]? = some v → ax_sg (i % 103) v
noncomputable def ax_M0 (k : Nat) (hp : rx_H) : Prop := ∃ (kk n d u : Nat) (f : List Nat), rx_hg hp 173 = some (kk, n, f) ∧ f[56]? = some (4 * d) ∧ f[57]? = some (4 * u) ∧ d + u ≤ k / 4
noncomputable def ax_M3 (hp : rx_H) : Prop := ∃ (kk m : Nat) (f : List Nat), rx_hg hp 174 = some (kk, m, f) ∧ ∃ p, p < 12 ∧ f[41 + p]? = some 0
noncomputable def ax_M4 (p : Nat) (hp : rx_H) : Prop := ∃ (kk m : Nat) (f : List Nat), rx_hg hp 174 = some (kk, m, f) ∧ ∀ q, q < 12 → q < p / 4 → f[41 + q]? ≠ some 0
noncomputable def ax_sum : List Nat → Nat
  | [] => 0
  | v :: t => v / 4 + ax_sum t
noncomputable def ax_M5 (s c : Nat) (hp : rx_H) : Prop := ∃ (kk m : Nat) (f : List Nat), rx_hg hp 191 = some (kk, m, f) ∧ ax_sum f + c / 4 ≤ s / 4
noncomputable def ax_w64 (v : Nat) : Nat := (v / 4) % 2 ^ 64
noncomputable def ax_M6 (k s n : Nat) : Prop := ax_w64 s &&& ax_w64 n = 0 ∧ 2 ^ 64 - ax_w64 s ≤ k / 4
noncomputable def ax_M7 (k s : Nat) : Prop := 2 ^ 64 - ax_w64 s ≤ k / 4
theorem ax_sum_set : ∀ (f : List Nat) (j o x : Nat), f[j]? = some o → ax_sum (f.set j x) + o / 4 = ax_sum f + x / 4
  | [], _, _, _, h => by cases h
  | v :: t, 0, o, x, h => by
    have h := Option.some.inj h
    subst h
    show x / 4 + ax_sum t + v / 4 = v / 4 + ax_sum t + x / 4
    omega
  | v :: t, j + 1, o, x, h => by
    have := ax_sum_set t j o x h
    show v / 4 + ax_sum (t.set j x) + o / 4 = v / 4 + ax_sum t + x / 4
    omega
theorem ax_M1_set {hp : rx_H} {q a i v : Nat} (h256 : hp.1 ≤ 256) (hM : ax_M1 q hp) (ha : a / 4 - 2 = q) (hv : ax_sg (i / 4 % 103) v) : ax_M1 q (ax_upd hp a i v) := by
  obtain ⟨kk, m, f, e1, e2⟩ := hM
  have hg := ax_hg_upd (a := a) (i := i) (v := v) h256 (by rw [ha]; exact e1) q
  rw [if_pos ha.symm] at hg
  refine ⟨kk, m, _, hg, fun j x hj => ?_⟩
  by_cases e : i / 4 = j
  · subst e
    rcases Nat.lt_or_ge (i / 4) f.length with hl | hl
    · rw [List.getElem?_set_self hl] at hj
      cases hj
      exact hv
    · rw [List.getElem?_eq_none_iff.mpr (by rw [List.length_set]; exact hl)] at hj
      cases hj
  · rw [List.getElem?_set_ne e] at hj
    exact e2 j x hj
/-- one place of a cell is written: the cell -/
theorem ax_sum3 {a b c : Nat} (ha : a < 4294967296) (hb : b < 2147483648) (hc : c < 4294967296) (h1 : a < 2147483648) (h : rx_bi a + rx_bi b = rx_bi c + 2147483648) : c = a + b := by
  rw [ax_bi_nat h1, ax_bi_nat hb, ax_bi_def] at h
  omega
theorem ax_j_or (x y : Nat) : rx_j_or x y = (x % 2 ^ 64) ||| (y % 2 ^ 64) := by
  show (Int64.ofNat x ||| Int64.ofNat y).toBitVec.toNat = _
  rw [Int64.toBitVec_or, BitVec.toNat_or]
  show (BitVec.ofNat 64 x).toNat ||| (BitVec.ofNat 64 y).toNat = _
  rw [BitVec.toNat_ofNat, BitVec.toNat_ofNat]
theorem ax_j_and (x y : Nat) : rx_j_and x y = (x % 2 ^ 64) &&& (y % 2 ^ 64) := by
  show (Int64.ofNat x &&& Int64.ofNat y).toBitVec.toNat = _
  rw [Int64.toBitVec_and, BitVec.toNat_and]
  show (BitVec.ofNat 64 x).toNat &&& (BitVec.ofNat 64 y).toNat = _
  rw [BitVec.toNat_ofNat, BitVec.toNat_ofNat]
theorem ax_j_xor (x y : Nat) : rx_j_xor x y = (x % 2 ^ 64) ^^^ (y % 2 ^ 64) := by
  show (Int64.ofNat x ^^^ Int64.ofNat y).toBitVec.toNat = _
  rw [Int64.toBitVec_xor, BitVec.toNat_xor]
  show (BitVec.ofNat 64 x).toNat ^^^ (BitVec.ofNat 64 y).toNat = _
  rw [BitVec.toNat_ofNat, BitVec.toNat_ofNat]
theorem ax_lcmp_0 {x : Nat} (h : x % 2 ^ 64 = 0) : rx_f_lcmp x 0 = 0 := by
  have e : Int64.ofNat x = Int64.ofNat 0 := by
    have e1 : BitVec.ofNat 64 x = BitVec.ofNat 64 0 := by
      apply BitVec.eq_of_toNat_eq
      rw [BitVec.toNat_ofNat, BitVec.toNat_ofNat, h]
    show (⟨⟨BitVec.ofNat 64 x⟩⟩ : Int64) = ⟨⟨BitVec.ofNat 64 0⟩⟩
    rw [e1]
  unfold rx_f_lcmp lg_cmp
  rw [e]
  decide
/-- more bits: a greater number -/
theorem ax_or_gt {s n : Nat} (h : s &&& n = 0) (hn : n ≠ 0) : s < s ||| n := by
  refine Nat.lt_of_le_of_ne Nat.left_le_or (fun e => hn ?_)
  apply Nat.eq_of_testBit_eq
  intro i
  rw [Nat.zero_testBit]
  have h1 : (s &&& n).testBit i = false := by rw [h, Nat.zero_testBit]
  have h2 : (s ||| n).testBit i = s.testBit i := by rw [← e]
  rw [Nat.testBit_and] at h1
  rw [Nat.testBit_or] at h2
  cases a : s.testBit i <;> cases b : n.testBit i
  · rfl
  · rw [a, b] at h2; cases h2
  · rfl
  · rw [a, b] at h1; cases h1
theorem ax_and_not (s m : Nat) : s % 2 ^ 64 &&& (m &&& (s % 2 ^ 64 ^^^ (2 ^ 64 - 1))) = 0 := by
  apply Nat.eq_of_testBit_eq
  intro i
  rw [Nat.zero_testBit, Nat.testBit_and, Nat.testBit_and, Nat.testBit_xor, Nat.testBit_two_pow_sub_one]
  rcases Nat.lt_or_ge i 64 with h | h
  · rw [decide_eq_true h]
    cases (s % 2 ^ 64).testBit i <;> cases m.testBit i <;> rfl
  · have : (s % 2 ^ 64).testBit i = false := Nat.testBit_lt_two_pow (Nat.lt_of_lt_of_le (Nat.mod_lt _ (by decide)) (Nat.pow_le_pow_right (by decide) h))
    rw [this]
    rfl
/-- what is concluded of a cell: a new symbol for its content -/
theorem ax_pf {w : ax_W} {X : ax_X} {ρ : Nat → Nat} {hp : rx_H} {n q j v k m a i : Nat} {ty : List ax_Y} {t : ax_Y} {f : List Nat} {e : List (Nat × Nat × Nat) × List (Nat × Nat × Nat) × List ax_N} (hE : ax_EO w X ρ (n, ty, e) hp) (sa : ax_sc n a = true) (si : ax_sc n i = true) (ea : ax_vl ρ a = 4 * (q + 2) + 2) (ei : ax_vl ρ i = 4 * j) (hg : rx_hg hp q = some (k, m, f)) (hv : f[j]? = some v) (ht : ax_ok w t v) : ∃ ρ' : Nat → Nat, (∀ k, k < n → ρ' k = ρ k) ∧ ax_EO w X ρ' (n + 1, t :: ty, [(a, i, 4 * n + 3)], [], []) hp := by
  obtain ⟨ρ', h1, h2, h3⟩ := ax_new_ok hE ht
  refine ⟨ρ', h1, ⟨h2.1, h2.2.1, fun g hg' => ?_, fun d hd => (by cases hd), fun x hx => (by cases hx)⟩⟩
  rw [List.mem_singleton.mp hg']
  have e1 : ax_ev (n + 1) ρ' a = some (4 * (q + 2) + 2) := ax_ev_mono (Nat.le_succ n) h1 (by rw [ax_ev_vl sa, ea])
  have e2 : ax_ev (n + 1) ρ' i = some (4 * j) := ax_ev_mono (Nat.le_succ n) h1 (by rw [ax_ev_vl si, ei])
  have d1 : (4 * (q + 2) + 2) / 4 - 2 = q := by omega
  have d2 : 4 * j / 4 = j := by omega
  exact ⟨_, _, v, k, m, f, e1, e2, h3, by omega, by omega, by omega, by rw [d1]; exact hg, by rw [d2]; exact hv⟩
/-- acts or undone is written -/
theorem ax_huw {hp : rx_H} {j k k' v c d : Nat} (h256 : hp.1 ≤ 256) (h : ax_M0 k hp) {kk m : Nat} {l : List Nat} (f1 : rx_hg hp 173 = some (kk, m, l)) (f2 : l[j]? = some (4 * d)) (hv : v = 4 * c) (hj : (j = 56 ∨ j = 57)) (hs : ∀ u, d + u ≤ k / 4 → c + u ≤ k' / 4) : ax_M0 k' (ax_upd hp 702 (4 * j) v) := by
  obtain ⟨kk', n, d0, u0, f, e1, e2, e3, e4⟩ := h
  rw [f1] at e1
  cases e1
  have hg := ax_hg_upd (a := 702) (i := 4 * j) (v := v) h256 (show rx_hg hp (702 / 4 - 2) = _ from f1) 173
  rw [if_pos (show 173 = 702 / 4 - 2 from rfl), Nat.mul_div_cancel_left j (by decide)] at hg
  have hl : j < l.length := (List.getElem?_eq_some_iff.mp f2).1
  rcases hj with rfl | rfl
  · rw [e2] at f2
    have : d0 = d := by have := Option.some.inj f2; omega
    subst this
    exact ⟨_, _, c, u0, _, hg, by rw [List.getElem?_set_self hl, hv], by rw [List.getElem?_set_ne (by decide)]; exact e3, hs u0 e4⟩
  · rw [e3] at f2
    have : u0 = d := by have := Option.some.inj f2; omega
    subst this
    exact ⟨_, _, d0, c, _, hg, by rw [List.getElem?_set_ne (by decide)]; exact e2, by rw [List.getElem?_set_self hl, hv], by have := hs d0 (by omega); omega⟩
/-- undone is 0 -/
theorem ax_hu0 {hp : rx_H} {d : Nat} (h256 : hp.1 ≤ 256) {kk m : Nat} {l : List Nat} (f1 : rx_hg hp 173 = some (kk, m, l)) (hl : 57 < l.length) (f2 : l[56]? = some (4 * d)) (hd : d ≤ 20) : ax_M0 80 (ax_upd hp 702 228 0) := by
  have hg := ax_hg_upd (a := 702) (i := 228) (v := 0) h256 (show rx_hg hp (702 / 4 - 2) = _ from f1) 173
  rw [if_pos (show 173 = 702 / 4 - 2 from rfl)] at hg
  exact ⟨_, _, d, 0, _, hg, by rw [List.getElem?_set_ne (by decide)]; exact f2, List.getElem?_set_self hl, by show d + 0 ≤ 20; omega⟩
/-- named facts that stand on cells of whole regions -/
theorem ax_same {w : ax_W} {md : List (Nat × Nat)} {hp hp' : rx_H} {q g kk m : Nat} {f : List Nat} (hR : ax_HR w md hp hp') (hw : w.1[q]? = some g) (hA : (!(md.any (fun y => Nat.beq y.1 g && (Nat.beq y.2 999 || (Nat.beq y.2 999 || Nat.beq 999 999))))) = true) (e1 : rx_hg hp q = some (kk, m, f)) : rx_hg hp' q = some (kk, m, f) := by
  obtain ⟨f', e5, e6⟩ := hR.2 _ _ hw kk m f e1
  have : f' = f := by
    apply List.ext_getElem?
    intro i
    refine e6 i (Bool.eq_false_iff.mpr (fun z => ?_))
    obtain ⟨y, hy, hb⟩ := List.any_eq_true.mp z
    obtain ⟨h2, h3⟩ := rx_and2.mp hb
    have h1 : md.any (fun y => Nat.beq y.1 g && (Nat.beq y.2 999 || (Nat.beq y.2 999 || Nat.beq 999 999))) = true := List.any_eq_true.mpr ⟨y, hy, rx_and2.mpr ⟨h2, by rw [show Nat.beq 999 999 = true from rfl, Bool.or_true, Bool.or_true]⟩⟩
    rw [h1] at hA
    cases hA
  rw [← this]
  exact e5
/-- 103 a + k -/
theorem ax_gi3 {w : ax_W} {X : ax_X} {ρ : Nat → Nat} {E : ax_E} {hp : rx_H} (hE : ax_EO w X ρ E hp) (ca cp ck ci : Nat) (h1 : (1002, [412, ca, cp]) ∈ E.2.2.2.2) (h2 : (1015, [cp, ck, ci, 0]) ∈ E.2.2.2.2) {a k : Nat} (ea : ax_vl ρ ca = 4 * a) (ha : a ≤ 20) (ek : ax_vl ρ ck = 4 * k) (hk : k ≤ 102) : ax_vl ρ ci = 4 * (103 * a + k) := by
  have h := (ax_XF_bi (o := 2) (by decide)).mp (ax_gx hE _ h1)
  replace h : ax_BI 2 [412, ax_vl ρ ca, ax_vl ρ cp] := h
  rw [ea] at h
  obtain ⟨p', k', i', e1, e2, e3, l1, l2, l3, hs⟩ := ax_gs hE cp ck ci h2
  rcases h with ⟨-, -, -, r, s1, s2, s3⟩ | ⟨j, j1, j2, -⟩ | ⟨z, -⟩
  · replace s1 : some (412 / 4 * (4 * a / 4) % 4294967296) = some r := s1
    have s1 := Option.some.inj s1
    have s3 : ax_vl ρ cp = 4 * r := s3
    have hr : r = 103 * a := by omega
    have hp' : p' = r := by omega
    have hk' : k' = k := by omega
    subst hp' hk'
    have := ax_sum3 l1 (by omega) l3 (by omega) hs
    omega
  · omega
  · omega
theorem ax_sg_none {k v : Nat} (h : k ≤ 40 ∨ 89 ≤ k) : ax_sg k v := ⟨fun h1 h2 => by omega, fun h1 h2 => by omega, fun h1 h2 => by omega⟩
theorem ax_len {w : ax_W} {hp : rx_H} {q g kk m n : Nat} {f : List Nat} (hT : ax_HT w hp) (hw : w.1[q]? = some g) (hn : (w.2.1[g]?).map (fun z => z.2.1) = some n) (e1 : rx_hg hp q = some (kk, m, f)) : f.length = n := by
  obtain ⟨k', n', tl, f', b1, b2, b3, b4⟩ := hT.2 q g hw
  rw [e1] at b2
  cases b2
  rw [b1] at hn
  rw [b3]
  exact Option.some.inj hn
theorem ax_cellT {w : ax_W} {hp : rx_H} {q g : Nat} (hT : ax_HT w hp) (hw : w.1[q]? = some g) : ∃ (k m : Nat) (l : List Nat), rx_hg hp q = some (k, m, l) := by
  obtain ⟨k', n', tl, f', b1, b2, b3, b4⟩ := hT.2 q g hw
  exact ⟨k', n', f', b2⟩
/-- a cell's ints -/
theorem ax_cellI {w : ax_W} {hp : rx_H} {q g kk m n lo hi i v : Nat} {f : List Nat} (hT : ax_HT w hp) (hw : w.1[q]? = some g) (ht : w.2.1[g]? = some (13, n, [(0, (0, lo, hi))])) (e1 : rx_hg hp q = some (kk, m, f)) (hv : f[i]? = some v) : v % 4 = 0 ∧ v / 4 < 4294967296 ∧ lo ≤ rx_bi (v / 4) ∧ rx_bi (v / 4) ≤ hi := by
  obtain ⟨k', n', tl, f', b1, b2, b3, b4⟩ := hT.2 q g hw
  rw [e1] at b2
  cases b2
  rw [ht] at b1
  cases b1
  obtain ⟨t, t1, t2⟩ := b4 i v hv
  have : t = (0, lo, hi) := by
    have t1 : (bif Nat.ble 0 i then some ((0, lo, hi) : ax_Y) else none) = some t := t1
    rw [rx_ble.mpr (Nat.zero_le i)] at t1
    exact (Option.some.inj t1).symm
  subst this
  rcases t2 with ⟨-, h⟩ | ⟨h, -⟩ | ⟨h, -⟩ | ⟨h, -⟩
  · exact h
  · cases h
  · cases h
  · cases h
theorem ax_get_some {f : List Nat} {i : Nat} (h : i < f.length) : ∃ v, f[i]? = some v := by
  cases e : f[i]? with
  | some v => exact ⟨v, rfl⟩
  | none =>
    have := List.getElem?_eq_none_iff.mp e
    omega
/-! Reference: cells as rows of numbers -/
noncomputable def ay_at (hp : rx_H) (q i : Nat) : Option Nat := match rx_hg hp q with
  | some (_, _, f) => f[i]?
  | none => none
theorem ay_eq {hp : rx_H} {q i k m : Nat} {f : List Nat} (h : rx_hg hp q = some (k, m, f)) : ay_at hp q i = f[i]? := by
  unfold ay_at
  rw [h]
theorem ay_upd_ne {hp : rx_H} {a i v q : Nat} (h256 : hp.1 ≤ 256) (hq : q ≠ a / 4 - 2) (j : Nat) : ay_at (ax_upd hp a i v) q j = ay_at hp q j := by
  cases e : rx_hg hp (a / 4 - 2) with
  | none =>
    have : ax_upd hp a i v = hp := by unfold ax_upd; rw [e]
    rw [this]
  | some c =>
    obtain ⟨k, n, f⟩ := c
    have hg := ax_hg_upd (i := i) (v := v) h256 e q
    rw [if_neg hq] at hg
    unfold ay_at
    rw [hg]
theorem ay_upd_eq {hp : rx_H} {a i v q o : Nat} (h256 : hp.1 ≤ 256) (hq : a / 4 - 2 = q) (ho : ay_at hp q (i / 4) = some o) (j : Nat) : ay_at (ax_upd hp a i v) q j = if j = i / 4 then some v else ay_at hp q j := by
  subst hq
  cases e : rx_hg hp (a / 4 - 2) with
  | none =>
    unfold ay_at at ho
    rw [e] at ho
    cases ho
  | some c =>
    obtain ⟨k, n, f⟩ := c
    have hg := ax_hg_upd (i := i) (v := v) h256 e (a / 4 - 2)
    rw [if_pos rfl] at hg
    rw [ay_eq e] at ho
    rw [ay_eq hg, ay_eq e]
    have hl : i / 4 < f.length := (List.getElem?_eq_some_iff.mp ho).1
    by_cases h : j = i / 4
    · rw [if_pos h, h, List.getElem?_set_self hl]
    · rw [if_neg h, List.getElem?_set_ne (fun z => h z.symm)]
/-- a cell is as long as its region says -/
theorem ay_some {w : ax_W} {hp : rx_H} {q g n j : Nat} (hT : ax_HT w hp) (hw : w.1[q]? = some g) (hn : (w.2.1[g]?).map (fun z => z.2.1) = some n) (hj : j < n) : ∃ v, ay_at hp q j = some v := by
  obtain ⟨k, m, l, e⟩ := ax_cellT hT hw
  have hl := ax_len hT hw hn e
  rw [ay_eq e]
  exact ax_get_some (by omega)
/-- .. and holds what its region says -/
theorem ay_int {w : ax_W} {hp : rx_H} {q g n lo hi j v : Nat} (hT : ax_HT w hp) (hw : w.1[q]? = some g) (ht : w.2.1[g]? = some (13, n, [(0, (0, lo, hi))])) (hv : ay_at hp q j = some v) : v % 4 = 0 ∧ v / 4 < 4294967296 ∧ lo ≤ rx_bi (v / 4) ∧ rx_bi (v / 4) ≤ hi := by
  obtain ⟨k, m, l, e⟩ := ax_cellT hT hw
  rw [ay_eq e] at hv
  exact ax_cellI hT hw ht e hv
theorem ay_same {w : ax_W} {md : List (Nat × Nat)} {hp hp' : rx_H} {q g : Nat} (hR : ax_HR w md hp hp') (hT : ∃ k m l, rx_hg hp q = some (k, m, l)) (hw : w.1[q]? = some g) (hA : (!(md.any (fun y => Nat.beq y.1 g && (Nat.beq y.2 999 || (Nat.beq y.2 999 || Nat.beq 999 999))))) = true) : ay_at hp' q = ay_at hp q := by
  obtain ⟨k, m, l, e⟩ := hT
  funext j
  rw [ay_eq e, ay_eq (ax_same hR hw hA e)]
/-- a cell's content of a pattern, by rows -/
theorem ay_gf {w : ax_W} {X : ax_X} {ρ : Nat → Nat} {E : ax_E} {hp : rx_H} (hE : ax_EO w X ρ E hp) (a i v q : Nat) (h : (1200, [a, i, v]) ∈ E.2.2.2.2) (e1 : ax_vl ρ a / 4 - 2 = q) : ay_at hp q (ax_vl ρ i / 4) = some (ax_vl ρ v) := by
  obtain ⟨k, m, l, h1, h2⟩ := ax_gf hE (a, i, v) h
  replace h1 : rx_hg hp (ax_vl ρ a / 4 - 2) = some (k, m, l) := h1
  rw [e1] at h1
  rw [ay_eq h1]
  exact h2
/-- how many below n -/
noncomputable def ay_cnt (p : Nat → Bool) : Nat → Nat
  | 0 => 0
  | n + 1 => (if p n = true then 1 else 0) + ay_cnt p n
theorem ay_cnt_le {p p' : Nat → Bool} : ∀ {n : Nat}, (∀ j, j < n → p' j = true → p j = true) → ay_cnt p' n ≤ ay_cnt p n
  | 0, _ => Nat.le_refl _
  | n + 1, h => by
    have ih := ay_cnt_le (n := n) (fun j hj => h j (by omega))
    have hn := h n (by omega)
    unfold ay_cnt
    by_cases h1 : p' n = true
    · rw [if_pos h1, if_pos (hn h1)]
      omega
    · rw [if_neg h1]
      split <;> omega
theorem ay_cnt_lt {p p' : Nat → Bool} {t : Nat} (ht : p t = true) (ht' : p' t = false) : ∀ {n : Nat}, t < n → (∀ j, j < n → p' j = true → p j = true) → ay_cnt p' n + 1 ≤ ay_cnt p n
  | 0, h0, _ => absurd h0 (Nat.not_lt_zero _)
  | n + 1, h0, h => by
    have hn := h n (by omega)
    by_cases e : t = n
    · subst e
      have ih := ay_cnt_le (n := t) (fun j hj => h j (by omega))
      unfold ay_cnt
      rw [ht, ht', if_pos rfl, if_neg (by decide)]
      omega
    · have ih := ay_cnt_lt ht ht' (n := n) (by omega) (fun j hj => h j (by omega))
      unfold ay_cnt
      by_cases h1 : p' n = true
      · rw [if_pos h1, if_pos (hn h1)]
        omega
      · rw [if_neg h1]
        split <;> omega
/-- a sum of numbers below n -/
noncomputable def ay_sm (g : Nat → Int) : Nat → Int
  | 0 => 0
  | n + 1 => g n + ay_sm g n
theorem ay_sm_le {g : Nat → Int} (h : ∀ j, -1 ≤ g j ∧ g j ≤ 1) : ∀ n : Nat, ay_sm g n ≤ n ∧ -(n : Int) ≤ ay_sm g n
  | 0 => ⟨Int.le_refl _, Int.le_refl _⟩
  | n + 1 => by
    obtain ⟨h1, h2⟩ := ay_sm_le h n
    obtain ⟨h3, h4⟩ := h n
    unfold ay_sm
    omega
theorem ay_sm_same {g g' : Nat → Int} : ∀ {n : Nat}, (∀ j, j < n → g' j = g j) → ay_sm g' n = ay_sm g n
  | 0, _ => rfl
  | n + 1, h => by
    unfold ay_sm
    rw [h n (by omega), ay_sm_same (n := n) (fun j hj => h j (by omega))]
theorem ay_sm_upd {g g' : Nat → Int} {t : Nat} : ∀ {n : Nat}, t < n → (∀ j, j < n → j ≠ t → g' j = g j) → ay_sm g' n = ay_sm g n + (g' t - g t)
  | 0, h0, _ => absurd h0 (Nat.not_lt_zero _)
  | n + 1, h0, h => by
    unfold ay_sm
    by_cases e : t = n
    · subst e
      rw [ay_sm_same (n := t) (fun j hj => h j (by omega) (by omega))]
      omega
    · rw [h n (by omega) (fun z => e z.symm), ay_sm_upd (n := n) (by omega) (fun j hj hj' => h j (by omega) hj')]
      omega
-- the row that is looked for
noncomputable def ay_lt0 (o : Option Nat) : Bool := match o with
  | some v => Nat.ble 2147483648 (v / 4)
  | none => false
noncomputable def ay_M8 (s c : Nat) (cam : Nat → Option Nat) : Prop := ay_cnt (fun u => ay_lt0 (cam u)) 10 + c / 4 ≤ s / 4
noncomputable def ay_ini (f u : Nat) : Nat := if u = f then 160 else 17179869180
noncomputable def ay_M9 (f i : Nat) (cam : Nat → Option Nat) : Prop := ∀ u, u < 10 → u < i / 4 → cam u = some (ay_ini (f / 4) u)
noncomputable def ay_M10 (f i : Nat) (cam : Nat → Option Nat) : Prop := ∀ u, u < 10 → u ≤ i / 4 → cam u = some (ay_ini (f / 4) u)
noncomputable def ay_fr (b c : Nat) : Nat := 40 * b + 2 * (c / 2) + c % 2
noncomputable def ay_to (b c : Nat) : Nat := 40 * b + 2 * (c / 2) + (1 - c % 2)
noncomputable def ay_tree (b f : Nat) (cam en : Nat → Option Nat) (r : Nat → Nat) : Prop := ∀ v c, v < 10 → v ≠ f → cam v = some (4 * c) → c < 2147483648 → c < 40 ∧ en (ay_to b c) = some (4 * v) ∧ ∃ u d, en (ay_fr b c) = some (4 * u) ∧ u < 10 ∧ cam u = some (4 * d) ∧ d < 2147483648 ∧ r u < r v
noncomputable def ay_free (f : Nat) (cam car : Nat → Option Nat) (P : Nat → Prop) : Prop := ∀ v c, v < 10 → v ≠ f → P v → cam v = some (4 * c) → c < 2147483648 → car (c / 2) ≠ some (4 * (1 + c % 2))
noncomputable def ay_M11 (b f : Nat) (cam car en : Nat → Option Nat) : Prop := cam (f / 4) = some 160 ∧ ∃ r, ay_tree b (f / 4) cam en r ∧ ay_free (f / 4) cam car (fun _ => True)
noncomputable def ay_M12 (b k f v : Nat) (cam car en : Nat → Option Nat) : Prop := cam (f / 4) = some 160 ∧ ∃ r, ay_tree b (f / 4) cam en r ∧ ay_free (f / 4) cam car (fun x => r x ≤ r (v / 4)) ∧ (∃ c, cam (v / 4) = some (4 * c) ∧ c < 2147483648) ∧ r (v / 4) < k / 4
noncomputable def ay_M13 (b k f v : Nat) (cam car en : Nat → Option Nat) : Prop := cam (f / 4) = some 160 ∧ ∃ r, ay_tree b (f / 4) cam en r ∧ ay_free (f / 4) cam car (fun x => r x < r (v / 4)) ∧ (∃ c, cam (v / 4) = some (4 * c) ∧ c < 2147483648) ∧ r (v / 4) < k / 4
noncomputable def ay_is (en : Nat → Option Nat) (j f : Nat) : Int := if en j = some (4 * f) then 1 else 0
noncomputable def ay_g (b f : Nat) (car en : Nat → Option Nat) (l : Nat) : Int := if car l = some 4 then ay_is en (40 * b + 2 * l) f - ay_is en (40 * b + 2 * l + 1) f else if car l = some 8 then ay_is en (40 * b + 2 * l + 1) f - ay_is en (40 * b + 2 * l) f else 0
noncomputable def ay_F (b f : Nat) (car en : Nat → Option Nat) : Int := ay_sm (ay_g b f car en) 20
noncomputable def ay_M14 (b k f : Nat) (car en : Nat → Option Nat) : Prop := (20 - ay_F b (f / 4) car en).toNat < k / 4
noncomputable def ay_M15 (b k f v : Nat) (car en : Nat → Option Nat) : Prop := (20 - ay_F b (f / 4) car en).toNat + (if v / 4 = f / 4 then 1 else 0) < k / 4
noncomputable def ay_M16 (b k f v : Nat) (cam car en : Nat → Option Nat) : Prop := ∀ c u, cam (v / 4) = some (4 * c) → en (ay_fr b c) = some (4 * u) → (20 - ay_F b (f / 4) car en).toNat + (if u = f / 4 then 1 else 0) < k / 4
theorem ay_is_01 (en : Nat → Option Nat) (j f : Nat) : 0 ≤ ay_is en j f ∧ ay_is en j f ≤ 1 := by
  unfold ay_is
  split <;> decide
theorem ay_g_1 {b f : Nat} {car en : Nat → Option Nat} (l : Nat) : -1 ≤ ay_g b f car en l ∧ ay_g b f car en l ≤ 1 := by
  have h1 := ay_is_01 en (40 * b + 2 * l) f
  have h2 := ay_is_01 en (40 * b + 2 * l + 1) f
  unfold ay_g
  split
  · omega
  · split
    · omega
    · omega
theorem ay_F_le {b f : Nat} {car en : Nat → Option Nat} : ay_F b f car en ≤ 20 := (ay_sm_le (fun j => ay_g_1 j) 20).1
/-- the tree grows by one -/
theorem ay_grow {b f t c u d : Nat} {cam cam' car en : Nat → Option Nat} (ht : t < 10) (hu : u < 10) (hc : c < 40) (hto : en (ay_to b c) = some (4 * t)) (hfr : en (ay_fr b c) = some (4 * u)) (hcu : cam u = some (4 * d)) (hd : d < 2147483648) (htn : ∃ x, cam t = some (4 * x) ∧ ¬ x < 2147483648) (hfree : car (c / 2) ≠ some (4 * (1 + c % 2))) (hup : ∀ j, cam' j = if j = t then some (4 * c) else cam j) (h0 : cam f = some 160) (h : ∃ r, ay_tree b f cam en r ∧ ay_free f cam car (fun _ => True)) : cam' f = some 160 ∧ ∃ r, ay_tree b f cam' en r ∧ ay_free f cam' car (fun _ => True) := by
  obtain ⟨r, h1, h2⟩ := h
  obtain ⟨x, hx1, hx2⟩ := htn
  have hft : f ≠ t := fun z => by
    rw [z, hx1] at h0
    have := Option.some.inj h0
    omega
  have hut : u ≠ t := fun z => by
    rw [z, hx1] at hcu
    have := Option.some.inj hcu
    omega
  refine ⟨by rw [hup, if_neg hft]; exact h0, fun j => if j = t then r u + 1 else r j, ?_, ?_⟩
  · intro v e hv hvf hve he
    rw [hup] at hve
    by_cases hvt : v = t
    · subst hvt
      rw [if_pos rfl] at hve
      have hec : e = c := by have := Option.some.inj hve; omega
      subst hec
      refine ⟨hc, hto, u, d, hfr, hu, ?_, hd, ?_⟩
      · rw [hup, if_neg hut]; exact hcu
      · show (if u = v then r u + 1 else r u) < (if v = v then r u + 1 else r v)
        rw [if_neg hut, if_pos rfl]
        omega
    · rw [if_neg hvt] at hve
      obtain ⟨g1, g2, u', d', g3, g4, g5, g6, g7⟩ := h1 v e hv hvf hve he
      have hut' : u' ≠ t := fun z => by
        rw [z, hx1] at g5
        have := Option.some.inj g5
        omega
      refine ⟨g1, g2, u', d', g3, g4, ?_, g6, ?_⟩
      · rw [hup, if_neg hut']; exact g5
      · show (if u' = t then r u + 1 else r u') < (if v = t then r u + 1 else r v)
        rw [if_neg hut', if_neg hvt]
        exact g7
  · intro v e hv hvf _ hve he
    rw [hup] at hve
    by_cases hvt : v = t
    · rw [if_pos hvt] at hve
      have hec : e = c := by have := Option.some.inj hve; omega
      subst hec
      exact hfree
    · rw [if_neg hvt] at hve
      exact h2 v e hv hvf trivial hve he
/-- a link of the row is taken: those that are still to come stay free -/
theorem ay_take {b f v c x : Nat} {cam car car' en : Nat → Option Nat} {r : Nat → Nat} (hv : v < 10) (hvf : v ≠ f) (hcv : cam v = some (4 * c)) (hc : c < 2147483648) (h1 : ay_tree b f cam en r) (h2 : ay_free f cam car (fun y => r y ≤ r v)) (hup : ∀ j, car' j = if j = c / 2 then some x else car j) : ay_free f cam car' (fun y => r y < r v) := by
  intro y e hy hyf hry hye he
  obtain ⟨g1, g2, u, d, g3, g4, g5, g6, g7⟩ := h1 v c hv hvf hcv hc
  obtain ⟨k1, k2, u', d', k3, k4, k5, k6, k7⟩ := h1 y e hy hyf hye he
  rw [hup]
  by_cases hq : e / 2 = c / 2
  · exfalso
    by_cases hec : e = c
    · subst hec
      rw [g2] at k2
      have : v = y := by have := Option.some.inj k2; omega
      rw [this] at hry
      omega
    · have e1 : ay_to b e = ay_fr b c := by unfold ay_to ay_fr; omega
      have e2 : ay_fr b e = ay_to b c := by unfold ay_to ay_fr; omega
      rw [e1, g3] at k2
      rw [e2, g2] at k3
      have hyu : u = y := by have := Option.some.inj k2; omega
      have hvu : v = u' := by have := Option.some.inj k3; omega
      rw [← hvu] at k7
      rw [hyu] at g7
      omega
  · rw [if_neg hq]
    exact h2 y e hy hyf (Nat.le_of_lt hry) hye he
/-- what flows out of f, when one link of the row is taken -/
theorem ay_flow {b f v c u x y : Nat} {car car' en : Nat → Option Nat} (hc : c < 40) (hto : en (ay_to b c) = some (4 * v)) (hfr : en (ay_fr b c) = some (4 * u)) (hvf : v ≠ f) (hy : car (c / 2) = some y) (hxy : (y = 0 ∧ x = 4 * (1 + c % 2)) ∨ ((y = 4 ∨ y = 8) ∧ y ≠ 4 * (1 + c % 2) ∧ x = 0)) (hup : ∀ j, car' j = if j = c / 2 then some x else car j) : ay_F b f car' en = ay_F b f car en + (if u = f then 1 else 0) := by
  have h := ay_sm_upd (g := ay_g b f car en) (g' := ay_g b f car' en) (t := c / 2) (n := 20) (by omega) (fun j hj hjt => by
    unfold ay_g
    rw [hup, if_neg hjt])
  unfold ay_F
  rw [h]
  have i1 : ay_is en (ay_to b c) f = 0 := by
    unfold ay_is
    rw [hto, if_neg (fun z => hvf (by have := Option.some.inj z; omega))]
  have i2 : ay_is en (ay_fr b c) f = if u = f then 1 else 0 := by
    unfold ay_is
    rw [hfr]
    by_cases hu : u = f
    · rw [if_pos hu, if_pos (by rw [hu])]
    · rw [if_neg hu, if_neg (fun z => hu (by have := Option.some.inj z; omega))]
  have hx : car' (c / 2) = some x := by rw [hup, if_pos rfl]
  rcases Nat.mod_two_eq_zero_or_one c with hm | hm
  · have e1 : ay_fr b c = 40 * b + 2 * (c / 2) := by unfold ay_fr; omega
    have e2 : ay_to b c = 40 * b + 2 * (c / 2) + 1 := by unfold ay_to; omega
    rw [e1] at i2
    rw [e2] at i1
    rcases hxy with ⟨h1, h2⟩ | ⟨h1, h2, h3⟩
    · have hx4 : x = 4 := by rw [hm] at h2; exact h2
      have g1 : ay_g b f car' en (c / 2) = if u = f then 1 else 0 := by
        unfold ay_g
        rw [hx, hx4, if_pos rfl, i1, i2]
        omega
      have g2 : ay_g b f car en (c / 2) = 0 := by
        unfold ay_g
        rw [hy, h1, if_neg (by decide), if_neg (by decide)]
      rw [g1, g2]
      omega
    · have hy8 : y = 8 := by rw [hm] at h2; omega
      have g1 : ay_g b f car' en (c / 2) = 0 := by
        unfold ay_g
        rw [hx, h3, if_neg (by decide), if_neg (by decide)]
      have g2 : ay_g b f car en (c / 2) = - (if u = f then 1 else 0) := by
        unfold ay_g
        rw [hy, hy8, if_neg (by decide), if_pos rfl, i1, i2]
        omega
      rw [g1, g2]
      omega
  · have e1 : ay_fr b c = 40 * b + 2 * (c / 2) + 1 := by unfold ay_fr; omega
    have e2 : ay_to b c = 40 * b + 2 * (c / 2) := by unfold ay_to; omega
    rw [e1] at i2
    rw [e2] at i1
    rcases hxy with ⟨h1, h2⟩ | ⟨h1, h2, h3⟩
    · have hx8 : x = 8 := by rw [hm] at h2; exact h2
      have g1 : ay_g b f car' en (c / 2) = if u = f then 1 else 0 := by
        unfold ay_g
        rw [hx, hx8, if_neg (by decide), if_pos rfl, i1, i2]
        omega
      have g2 : ay_g b f car en (c / 2) = 0 := by
        unfold ay_g
        rw [hy, h1, if_neg (by decide), if_neg (by decide)]
      rw [g1, g2]
      omega
    · have hy4 : y = 4 := by rw [hm] at h2; omega
      have g1 : ay_g b f car' en (c / 2) = 0 := by
        unfold ay_g
        rw [hx, h3, if_neg (by decide), if_neg (by decide)]
      have g2 : ay_g b f car en (c / 2) = - (if u = f then 1 else 0) := by
        unfold ay_g
        rw [hy, hy4, if_pos rfl, i1, i2]
        omega
      rw [g1, g2]
      omega
noncomputable def ay_ex (hp : rx_H) (q : Nat) : Prop := ∃ (k m : Nat) (l : List Nat), rx_hg hp q = some (k, m, l)
theorem ay_ex_upd {hp : rx_H} {a i v q : Nat} (h256 : hp.1 ≤ 256) (h : ay_ex hp q) : ay_ex (ax_upd hp a i v) q := by
  cases e : rx_hg hp (a / 4 - 2) with
  | none =>
    have : ax_upd hp a i v = hp := by unfold ax_upd; rw [e]
    rw [this]
    exact h
  | some c =>
    obtain ⟨k, n, f⟩ := c
    have hg := ax_hg_upd (i := i) (v := v) h256 e q
    by_cases hq : q = a / 4 - 2
    · rw [if_pos hq] at hg
      exact ⟨_, _, _, hg⟩
    · rw [if_neg hq] at hg
      obtain ⟨k', m', l', h'⟩ := h
      exact ⟨k', m', l', hg.trans h'⟩
theorem ay_div2 : ∀ c, c < 40 → rx_f_div c 2 = some (c / 2) := by decide +kernel
theorem ay_rem2 : ∀ c, c < 40 → rx_f_rem c 2 = some (c % 2) := by decide +kernel
section AYC
variable {w : ax_W} {X : ax_X} {ρ : Nat → Nat} {E : ax_E} {hp : rx_H}
/-- what a number was made of -/
theorem ay_mk (hE : ax_EO w X ρ E hp) (o x y z : Nat) (ho : o ≤ 10) (h : (1000 + o, [x, y, z]) ∈ E.2.2.2.2) : ∃ r, ax_f o (ax_vl ρ x / 4) (ax_vl ρ y / 4) = some r ∧ r < 4294967296 ∧ ax_vl ρ z = 4 * r := by
  have h1 := (ax_XF_bi (X := X) (o := o) (by omega)).mp (ax_gx hE _ h)
  replace h1 : ax_BI o [ax_vl ρ x, ax_vl ρ y, ax_vl ρ z] := h1
  rcases h1 with ⟨-, -, -, r, s1, s2, s3⟩ | ⟨j, j1, j2, -⟩ | ⟨z1, -⟩
  · exact ⟨r, s1, s2, s3⟩
  · omega
  · omega
theorem ay_q (hE : ax_EO w X ρ E hp) (c q : Nat) {n : Nat} (hc : ax_vl ρ c = 4 * n) (hn : n < 40) (h : (1009, [c, 8, q]) ∈ E.2.2.2.2) : ax_vl ρ q = 4 * (n / 2) := by
  obtain ⟨r, h1, h2, h3⟩ := ay_mk hE 9 c 8 q (by decide) h
  rw [hc, Nat.mul_div_cancel_left n (by decide), ax_vl_c (by decide)] at h1
  replace h1 : rx_f_div n 2 = some r := h1
  rw [ay_div2 n hn] at h1
  rw [h3, Option.some.inj h1]
theorem ay_r (hE : ax_EO w X ρ E hp) (c q : Nat) {n : Nat} (hc : ax_vl ρ c = 4 * n) (hn : n < 40) (h : (1010, [c, 8, q]) ∈ E.2.2.2.2) : ax_vl ρ q = 4 * (n % 2) := by
  obtain ⟨r, h1, h2, h3⟩ := ay_mk hE 10 c 8 q (by decide) h
  rw [hc, Nat.mul_div_cancel_left n (by decide), ax_vl_c (by decide)] at h1
  replace h1 : rx_f_rem n 2 = some r := h1
  rw [ay_rem2 n hn] at h1
  rw [h3, Option.some.inj h1]
theorem ay_s (hE : ax_EO w X ρ E hp) (p q r : Nat) {a b : Nat} (h : (1015, [p, q, r, 0]) ∈ E.2.2.2.2) (ha : ax_vl ρ p = 4 * a) (hb : ax_vl ρ q = 4 * b) (h1 : a < 2147483648) (h2 : b < 2147483648) : ax_vl ρ r = 4 * (a + b) := by
  obtain ⟨a', b', c', e1, e2, e3, l1, l2, l3, hs⟩ := ax_gs hE p q r h
  have ea : a' = a := by omega
  have eb : b' = b := by omega
  subst ea eb
  have := ax_sum3 l1 h2 l3 h1 hs
  omega
/-- the difference of two that is not below 0 -/
theorem ay_d (hE : ax_EO w X ρ E hp) (p q r : Nat) {b c : Nat} (h : (1015, [p, q, r, 0]) ∈ E.2.2.2.2) (hb : ax_vl ρ q = 4 * b) (hc : ax_vl ρ r = 4 * c) (h1 : b ≤ c) (h2 : c < 2147483648) : ax_vl ρ p = 4 * (c - b) := by
  obtain ⟨a', b', c', e1, e2, e3, l1, l2, l3, hs⟩ := ax_gs hE p q r h
  have eb : b' = b := by omega
  have ec : c' = c := by omega
  subst eb ec
  rw [ax_bi_nat (c := b') (by omega), ax_bi_nat (c := c') h2, ax_bi_def] at hs
  omega
/-- K + 2 q + x -/
theorem ay_ix (hE : ax_EO w X ρ E hp) (K q m s x j : Nat) {k a e : Nat} (hK : ax_vl ρ K = 4 * k) (hk : k ≤ 1000) (ha : ax_vl ρ q = 4 * a) (hl : a ≤ 1000) (he : ax_vl ρ x = 4 * e) (hel : e ≤ 1) (h1 : (1002, [8, q, m]) ∈ E.2.2.2.2) (h2 : (1015, [K, m, s, 0]) ∈ E.2.2.2.2) (h3 : (1015, [s, x, j, 0]) ∈ E.2.2.2.2) : ax_vl ρ j = 4 * (k + 2 * a + e) := by
  obtain ⟨r, g1, g2, g3⟩ := ay_mk hE 2 8 q m (by decide) h1
  rw [ha, Nat.mul_div_cancel_left a (by decide), ax_vl_c (by decide)] at g1
  replace g1 : some (8 / 4 * a % 4294967296) = some r := g1
  have g1 := Option.some.inj g1
  have hr : r = 2 * a := by omega
  have hs := ay_s hE K m s h2 hK g3 (by omega) (by omega)
  rw [hr] at hs
  exact ay_s hE s x j h3 hs he (by omega) (by omega)
end AYC
theorem ay_gfj {w : ax_W} {X : ax_X} {ρ : Nat → Nat} {E : ax_E} {hp : rx_H} (hE : ax_EO w X ρ E hp) (a i v q j : Nat) (h : (1200, [a, i, v]) ∈ E.2.2.2.2) (e1 : ax_vl ρ a / 4 - 2 = q) (e2 : ax_vl ρ i / 4 = j) : ay_at hp q j = some (ax_vl ρ v) := by
  rw [← e2]
  exact ay_gf hE a i v q h e1
theorem ay_ex_same {w : ax_W} {md : List (Nat × Nat)} {hp hp' : rx_H} {q g : Nat} (hR : ax_HR w md hp hp') (h : ay_ex hp q) (hw : w.1[q]? = some g) : ay_ex hp' q := by
  obtain ⟨k, m, l, e⟩ := h
  obtain ⟨l', e', -⟩ := hR.2 q g hw k m l e
  exact ⟨k, m, l', e'⟩
theorem ay_same1 {w : ax_W} {md : List (Nat × Nat)} {hp hp' : rx_H} {q g i : Nat} (hR : ax_HR w md hp hp') (hT : ay_ex hp q) (hw : w.1[q]? = some g) (hA : (!(md.any (fun y => Nat.beq y.1 g && (Nat.beq y.2 i || (Nat.beq y.2 999 || Nat.beq i 999))))) = true) : ay_at hp' q i = ay_at hp q i := by
  obtain ⟨k, m, l, e⟩ := hT
  obtain ⟨l', e5, e6⟩ := hR.2 q g hw k m l e
  rw [ay_eq e, ay_eq e5]
  exact e6 i (ax_mem_no hA)
theorem ay_cnt_n {p : Nat → Bool} : ∀ n, ay_cnt p n ≤ n
  | 0 => Nat.le_refl _
  | n + 1 => by
    have := ay_cnt_n (p := p) n
    unfold ay_cnt
    split <;> omega
theorem ay_cnt_mono {p : Nat → Bool} {n m : Nat} (h : n ≤ m) : ay_cnt p n ≤ ay_cnt p m := by
  induction h with
  | refl => exact Nat.le_refl _
  | step h ih =>
    show _ ≤ (if _ then 1 else 0) + _
    omega
theorem ay_cnt_out {p : Nat → Bool} {n : Nat} (h : ∀ j, n ≤ j → p j = false) : ∀ m, ay_cnt p m ≤ ay_cnt p n
  | 0 => Nat.zero_le _
  | m + 1 => by
    have ih := ay_cnt_out h m
    rcases Nat.lt_or_ge m n with hl | hl
    · exact ay_cnt_mono hl
    · show (if p m = true then 1 else 0) + ay_cnt p m ≤ _
      rw [h m hl, if_neg (by decide)]
      omega
theorem ay_cnt_pos {p : Nat → Bool} : ∀ n, 1 ≤ ay_cnt p n → ∃ j, j < n ∧ p j = true
  | 0, h => by
    replace h : 1 ≤ 0 := h
    omega
  | n + 1, h => by
    by_cases hp : p n = true
    · exact ⟨n, by omega, hp⟩
    · replace h : 1 ≤ (if p n = true then 1 else 0) + ay_cnt p n := h
      rw [if_neg hp] at h
      obtain ⟨j, h1, h2⟩ := ay_cnt_pos (p := p) n (by omega)
      exact ⟨j, by omega, h2⟩
theorem ay_cnt_same {p p' : Nat → Bool} : ∀ {n : Nat}, (∀ j, j < n → p' j = p j) → ay_cnt p' n = ay_cnt p n
  | 0, _ => rfl
  | n + 1, h => by
    show (if p' n = true then 1 else 0) + ay_cnt p' n = (if p n = true then 1 else 0) + ay_cnt p n
    rw [h n (by omega), ay_cnt_same (n := n) (fun j hj => h j (by omega))]
-- phases
noncomputable def ay_ln (o : Option Nat) : Nat := match o with
  | some v => v / 4
  | none => 0
noncomputable def ay_fp (wb al : Nat → Option Nat) (ln : Option Nat) (l : Nat) : Bool := decide (wb l ≠ al (20 + l)) && decide (l < ay_ln ln)
noncomputable def ay_tk (wb al it : Nat → Option Nat) (ln : Option Nat) (l : Nat) : Bool := decide (it l = some 4) && ay_fp wb al ln l
noncomputable def ay_M17 (k : Nat) (wb al : Nat → Option Nat) (ln : Option Nat) : Prop := ay_cnt (ay_fp wb al ln) 20 < k / 4
noncomputable def ay_M18 (n l : Nat) (wb al it : Nat → Option Nat) (ln : Option Nat) : Prop := n / 4 ≤ ay_cnt (ay_tk wb al it ln) (l / 4)
noncomputable def ay_M19 (n : Nat) (wb al it : Nat → Option Nat) (ln : Option Nat) : Prop := n / 4 ≤ ay_cnt (ay_tk wb al it ln) 20
noncomputable def ay_M22 (wb al it : Nat → Option Nat) (ln : Option Nat) : Prop := ∃ j, j < 20 ∧ ay_tk wb al it ln j = true
noncomputable def ay_M20 (k l : Nat) (wb al it : Nat → Option Nat) (ln : Option Nat) : Prop := ay_cnt (ay_fp wb al ln) 20 < k / 4 ∧ ((∃ j, j < 20 ∧ l / 4 ≤ j ∧ ay_tk wb al it ln j = true) ∨ ay_cnt (ay_fp wb al ln) 20 + 1 < k / 4)
noncomputable def ay_M21 (k l : Nat) (wb al it : Nat → Option Nat) (ln : Option Nat) : Prop := ay_cnt (ay_fp wb al ln) 20 < k / 4 ∧ ((∃ j, j < 20 ∧ l / 4 < j ∧ ay_tk wb al it ln j = true) ∨ ay_cnt (ay_fp wb al ln) 20 + 1 < k / 4)
theorem ay_fp_up {wb al al' : Nat → Option Nat} {ln : Option Nat} {l x : Nat} (hw : wb l = some x) (hup : ∀ j, al' j = if j = 20 + l then some x else al j) : ay_fp wb al' ln l = false ∧ ∀ j, j ≠ l → ay_fp wb al' ln j = ay_fp wb al ln j := by
  constructor
  · unfold ay_fp
    rw [hup, if_pos rfl, hw]
    have : decide (some x ≠ some x) = false := decide_eq_false (fun h => h rfl)
    rw [this]
    rfl
  · intro j hj
    unfold ay_fp
    rw [hup, if_neg (by omega)]
-- the rule of ranks
noncomputable def ay_stp (h v : Nat) : Option Nat := if v / 4 ≤ 1002 then some (h + 1) else if v / 4 = 1008 then (if 1 ≤ h then some h else none) else if v / 4 ≤ 1007 then (if 2 ≤ h then some (h - 1) else none) else none
noncomputable def ay_ht (ru : Nat → Option Nat) (o : Nat) : Nat → Option Nat
  | 0 => some 0
  | k + 1 => match ay_ht ru o k, ru (o + k) with
    | some h, some v => ay_stp h v
    | _, _ => none
noncomputable def ay_M26 (b : Nat) (ru : Nat → Option Nat) (rl : Option Nat) : Prop := ∀ k, k ≤ ay_ln rl → ay_ht ru (100 * b) k ≠ none
noncomputable def ay_M36 (b n k : Nat) (ru : Nat → Option Nat) : Prop := ay_ht ru (100 * b) (k / 4) = some (n / 4)
theorem ay_ht_s {ru : Nat → Option Nat} {o k h v : Nat} (h1 : ay_ht ru o k = some h) (h2 : ru (o + k) = some v) : ay_ht ru o (k + 1) = ay_stp h v := by
  show (match ay_ht ru o k, ru (o + k) with
    | some h, some v => ay_stp h v
    | _, _ => none) = _
  rw [h1, h2]
theorem ay_ht_le {ru : Nat → Option Nat} {o : Nat} : ∀ {k h : Nat}, ay_ht ru o k = some h → h ≤ k
  | 0, h, e => by
    replace e : some 0 = some h := e
    have := Option.some.inj e
    omega
  | k + 1, h, e => by
    cases e1 : ay_ht ru o k with
    | none =>
      replace e : (match ay_ht ru o k, ru (o + k) with
        | some h, some v => ay_stp h v
        | _, _ => none) = some h := e
      rw [e1] at e
      cases e
    | some h0 =>
      cases e2 : ru (o + k) with
      | none =>
        replace e : (match ay_ht ru o k, ru (o + k) with
          | some h, some v => ay_stp h v
          | _, _ => none) = some h := e
        rw [e1, e2] at e
        cases e
      | some v =>
        have ih := ay_ht_le e1
        rw [ay_ht_s e1 e2] at e
        unfold ay_stp at e
        split at e
        · have := Option.some.inj e; omega
        · split at e
          · split at e
            · have := Option.some.inj e; omega
            · cases e
          · split at e
            · split at e
              · have := Option.some.inj e; omega
              · cases e
            · cases e
-- tables
noncomputable def ay_up (b : Nat) (en al : Nat → Option Nat) (c : Nat) : Bool := decide (en (ay_to b c) = al (20 + c / 2))
noncomputable def ay_bh (s : Nat) (up : Bool) : Nat := if s = 1 ∨ up = false then 1 else 0
noncomputable def ay_k (g v s : Nat) : Nat := 20 * g + 2 * v + s
noncomputable def ay_led (b : Nat) (ft en al : Nat → Option Nat) (ln : Option Nat) (g v s c : Nat) : Prop := c < 40 ∧ c < 2 * ay_ln ln ∧ ∃ t a d, en (ay_to b c) = some (4 * t) ∧ t < 10 ∧ ft (ay_k g t (ay_bh s (ay_up b en al c))) = some (4 * a) ∧ ft (ay_k g v s) = some (4 * d) ∧ a < d ∧ d ≤ 100000
noncomputable def ay_M28 (b g v s c : Nat) (ft en al : Nat → Option Nat) (ln : Option Nat) : Prop := 2147483648 ≤ c / 4 ∨ ay_led b ft en al ln (g / 4) (v / 4) (s / 4) (c / 4)
noncomputable def ay_row (b : Nat) (et ft en al : Nat → Option Nat) (ln : Option Nat) (g v s : Nat) : Prop := ∀ c, et (ay_k g v s) = some (4 * c) → c < 2147483648 → ay_led b ft en al ln g v s c
noncomputable def ay_M24 (b : Nat) (et ft en al : Nat → Option Nat) (no ln : Option Nat) : Prop := ∀ g v s, g < ay_ln no → v < ay_ln no → s < 2 → ay_row b et ft en al ln g v s
noncomputable def ay_M25 (b : Nat) (en : Nat → Option Nat) (no ln : Option Nat) : Prop := ∀ j, j < 2 * ay_ln ln → ∃ t, en (40 * b + j) = some (4 * t) ∧ t < ay_ln no
noncomputable def ay_lx (g v s g' v' s' : Nat) : Prop := g < g' ∨ (g = g' ∧ (v < v' ∨ (v = v' ∧ s < s')))
noncomputable def ay_M29 (b g v s : Nat) (et ft en al : Nat → Option Nat) (no ln : Option Nat) : Prop := ∀ g' v' s', ay_lx g' v' s' (g / 4) (v / 4) (s / 4) → v' < ay_ln no → s' < 2 → ay_row b et ft en al ln g' v' s'
noncomputable def ay_M30 (b g v s : Nat) (et ft en al : Nat → Option Nat) (no ln : Option Nat) : Prop := ∀ g' v' s', ay_lx g' v' s' (g / 4) (v / 4) (s / 4 + 1) → v' < ay_ln no → s' < 2 → ay_row b et ft en al ln g' v' s'
/-- one entry is written -/
theorem ay_ent {b g v s c : Nat} {et et' ft en al : Nat → Option Nat} {no ln : Option Nat} (hg : g < 10) (hv : v < 10) (hs : s < 2) (hno : ay_ln no ≤ 10) (hup : ∀ j, et' j = if j = ay_k g v s then some c else et j) (h : ay_M29 b (4 * g) (4 * v) (4 * s) et ft en al no ln) (hc : c / 4 < 2147483648 → c % 4 = 0 → ay_led b ft en al ln g v s (c / 4)) : ay_M30 b (4 * g) (4 * v) (4 * s) et' ft en al no ln := by
  have d4 : ∀ z : Nat, 4 * z / 4 = z := fun z => by omega
  unfold ay_M29 at h
  unfold ay_M30
  rw [d4, d4, d4] at h ⊢
  intro g' v' s' hlx hv' hs' c' hc' hl'
  rw [hup] at hc'
  by_cases hk : ay_k g' v' s' = ay_k g v s
  · rw [if_pos hk] at hc'
    unfold ay_k at hk
    have e1 : g' = g := by unfold ay_lx at hlx; omega
    have e2 : v' = v := by omega
    have e3 : s' = s := by omega
    have e4 := Option.some.inj hc'
    subst e1 e2 e3
    have := hc (by omega) (by omega)
    rw [e4, d4] at this
    exact this
  · rw [if_neg hk] at hc'
    refine h g' v' s' ?_ hv' hs' c' hc' hl'
    unfold ay_lx at hlx ⊢
    unfold ay_k at hk
    omega
-- paths
noncomputable def ay_nx (b to : Nat) (et en al : Nat → Option Nat) (x : Nat × Nat × Option Nat) : Nat × Nat × Option Nat := match x.2.2 with
  | some c => if c / 4 < 2147483648 then (ay_ln (en (ay_to b (c / 4))), ay_bh x.2.1 (ay_up b en al (c / 4)), if ay_ln (en (ay_to b (c / 4))) = to then some 17179869180 else et (ay_k to (ay_ln (en (ay_to b (c / 4)))) (ay_bh x.2.1 (ay_up b en al (c / 4))))) else x
  | none => x
noncomputable def ay_pt (b f to : Nat) (et en al : Nat → Option Nat) : Nat → Nat × Nat × Option Nat
  | 0 => (f, 0, et (ay_k to f 0))
  | n + 1 => ay_nx b to et en al (ay_pt b f to et en al n)
/-- where it has ended it stays -/
theorem ay_pt_end {b f to c : Nat} {et en al : Nat → Option Nat} {n : Nat} (hc : ¬ c / 4 < 2147483648) (h : (ay_pt b f to et en al n).2.2 = some c) : ∀ m, n ≤ m → (ay_pt b f to et en al m).2.2 = some c := by
  intro m hm
  induction hm with
  | refl => exact h
  | step hm ih =>
    rename_i m
    show (ay_nx b to et en al (ay_pt b f to et en al m)).2.2 = some c
    unfold ay_nx
    rw [ih]
    dsimp only
    rw [if_neg hc]
    exact ih
theorem ay_pt_int {b f to : Nat} {et en al : Nat → Option Nat} (hi : ∀ j v, et j = some v → v % 4 = 0) : ∀ (n c : Nat), (ay_pt b f to et en al n).2.2 = some c → c % 4 = 0
  | 0, c, h => hi _ c h
  | n + 1, c, h => by
    replace h : (ay_nx b to et en al (ay_pt b f to et en al n)).2.2 = some c := h
    unfold ay_nx at h
    cases e : (ay_pt b f to et en al n).2.2 with
    | none =>
      rw [e] at h
      dsimp only at h
      rw [e] at h
      cases h
    | some c0 =>
      rw [e] at h
      dsimp only at h
      by_cases h1 : c0 / 4 < 2147483648
      · rw [if_pos h1] at h
        dsimp only at h
        split at h
        · have := Option.some.inj h
          omega
        · exact hi _ c h
      · rw [if_neg h1] at h
        exact ay_pt_int hi n c h
/-- paths by a table that leads on are short -/
theorem ay_short {b f to : Nat} {et ft en al : Nat → Option Nat} {no ln : Option Nat} (hi : ∀ j v, et j = some v → v % 4 = 0) (h24 : ay_M24 b et ft en al no ln) (h25 : ay_M25 b en no ln) (hf : f < ay_ln no) (ht : to < ay_ln no) : ∀ (n c : Nat), (ay_pt b f to et en al n).2.2 = some c → c / 4 < 2147483648 → (ay_pt b f to et en al n).1 < ay_ln no ∧ (ay_pt b f to et en al n).2.1 < 2 ∧ et (ay_k to (ay_pt b f to et en al n).1 (ay_pt b f to et en al n).2.1) = some c ∧ ∃ d, ft (ay_k to (ay_pt b f to et en al n).1 (ay_pt b f to et en al n).2.1) = some (4 * d) ∧ d + n ≤ 100000
  | 0, c, h, hc => by
    have hc4 := ay_pt_int hi 0 c h
    refine ⟨hf, by show 0 < 2; decide, h, ?_⟩
    have h' : et (ay_k to f 0) = some (4 * (c / 4)) := by rw [show 4 * (c / 4) = c by omega]; exact h
    obtain ⟨-, -, t, a, d, -, -, -, h5, -, h7⟩ := h24 to f 0 ht hf (by decide) (c / 4) h' hc
    exact ⟨d, h5, by omega⟩
  | n + 1, c, h, hc => by
    cases e : (ay_pt b f to et en al n).2.2 with
    | none =>
      exfalso
      replace h : (ay_nx b to et en al (ay_pt b f to et en al n)).2.2 = some c := h
      unfold ay_nx at h
      rw [e] at h
      dsimp only at h
      rw [e] at h
      cases h
    | some c0 =>
      have hc4 := ay_pt_int hi n c0 e
      by_cases hc0 : c0 / 4 < 2147483648
      · obtain ⟨i1, i2, i3, d, i4, i5⟩ := ay_short hi h24 h25 hf ht n c0 e hc0
        have i3' : et (ay_k to (ay_pt b f to et en al n).1 (ay_pt b f to et en al n).2.1) = some (4 * (c0 / 4)) := by rw [show 4 * (c0 / 4) = c0 by omega]; exact i3
        obtain ⟨g1, g2, t, a, d', g3, g4, g5, g6, g7, g8⟩ := h24 to _ _ ht i1 i2 (c0 / 4) i3' hc0
        have hd : d' = d := by
          rw [i4] at g6
          have := Option.some.inj g6
          omega
        have ht' : ay_ln (en (ay_to b (c0 / 4))) = t := by rw [g3]; show 4 * t / 4 = t; omega
        have hn : ay_pt b f to et en al (n + 1) = (t, ay_bh (ay_pt b f to et en al n).2.1 (ay_up b en al (c0 / 4)), if t = to then some 17179869180 else et (ay_k to t (ay_bh (ay_pt b f to et en al n).2.1 (ay_up b en al (c0 / 4))))) := by
          show ay_nx b to et en al (ay_pt b f to et en al n) = _
          unfold ay_nx
          rw [e]
          dsimp only
          rw [if_pos hc0, ht']
        rw [hn] at h ⊢
        dsimp only at h ⊢
        have htn : t < ay_ln no := by
          obtain ⟨t', k1, k2⟩ := h25 (2 * (c0 / 4 / 2) + (1 - c0 / 4 % 2)) (by omega)
          have : ay_to b (c0 / 4) = 40 * b + (2 * (c0 / 4 / 2) + (1 - c0 / 4 % 2)) := by unfold ay_to; omega
          rw [this, k1] at g3
          have := Option.some.inj g3
          omega
        have hbh : ay_bh (ay_pt b f to et en al n).2.1 (ay_up b en al (c0 / 4)) < 2 := by unfold ay_bh; split <;> decide
        by_cases hto : t = to
        · rw [if_pos hto] at h
          have := Option.some.inj h
          omega
        · rw [if_neg hto] at h
          exact ⟨htn, hbh, h, a, g5, by omega⟩
      · exfalso
        replace h : (ay_nx b to et en al (ay_pt b f to et en al n)).2.2 = some c := h
        unfold ay_nx at h
        rw [e] at h
        dsimp only at h
        rw [if_neg hc0, e] at h
        have := Option.some.inj h
        omega
noncomputable def ay_M31 (b f t i n v s c : Nat) (et en al : Nat → Option Nat) : Prop := (i / 4 < 2147483648 → n / 4 ≤ i / 4) ∧ ay_pt b (f / 4) (t / 4) et en al (n / 4) = (v / 4, s / 4, some c)
noncomputable def ay_M33 (b f t i n v s : Nat) (et en al : Nat → Option Nat) : Prop := (i / 4 < 2147483648 → n / 4 + 1 ≤ i / 4) ∧ ay_pt b (f / 4) (t / 4) et en al (n / 4 + 1) = (v / 4, s / 4, if v / 4 = t / 4 then some 17179869180 else et (ay_k (t / 4) (v / 4) (s / 4)))
noncomputable def ay_M32 (b f t i c : Nat) (et en al : Nat → Option Nat) : Prop := i / 4 < 2147483648 → (ay_pt b (f / 4) (t / 4) et en al (i / 4)).2.2 = some c
noncomputable def ay_M34 (b f t i : Nat) (et en al : Nat → Option Nat) : Prop := i / 4 < 2147483648 → ∃ c, (ay_pt b (f / 4) (t / 4) et en al (i / 4)).2.2 = some c ∧ c / 4 < 2147483648
/-- 20 g + 2 v + s -/
theorem ay_stt {w : ax_W} {X : ax_X} {ρ : Nat → Nat} {E : ax_E} {hp : rx_H} (hE : ax_EO w X ρ E hp) (g p1 v p2 s1 s k : Nat) {G V S : Nat} (hg : ax_vl ρ g = 4 * G) (hG : G ≤ 9) (hv : ax_vl ρ v = 4 * V) (hV : V ≤ 9) (hs : ax_vl ρ s = 4 * S) (hS : S ≤ 1) (h1 : (1002, [80, g, p1]) ∈ E.2.2.2.2) (h2 : (1002, [8, v, p2]) ∈ E.2.2.2.2) (h3 : (1015, [p1, p2, s1, 0]) ∈ E.2.2.2.2) (h4 : (1015, [s1, s, k, 0]) ∈ E.2.2.2.2) : ax_vl ρ k = 4 * ay_k G V S := by
  obtain ⟨r, g1, g2, g3⟩ := ay_mk hE 2 80 g p1 (by decide) h1
  obtain ⟨r', g1', g2', g3'⟩ := ay_mk hE 2 8 v p2 (by decide) h2
  rw [hg, Nat.mul_div_cancel_left G (by decide), ax_vl_c (by decide)] at g1
  rw [hv, Nat.mul_div_cancel_left V (by decide), ax_vl_c (by decide)] at g1'
  replace g1 : some (80 / 4 * G % 4294967296) = some r := g1
  replace g1' : some (8 / 4 * V % 4294967296) = some r' := g1'
  have g1 := Option.some.inj g1
  have g1' := Option.some.inj g1'
  have hr : r = 20 * G := by omega
  have hr' : r' = 2 * V := by omega
  have k1 := ay_s hE p1 p2 s1 h3 g3 g3' (by omega) (by omega)
  have k2 := ay_s hE s1 s k h4 k1 hs (by omega) (by omega)
  rw [k2, hr, hr']
  rfl
end
