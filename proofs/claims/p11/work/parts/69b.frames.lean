/-! What each method leaves as it is (printed by frgen.py) -/
theorem fo_sw0_4 (x : Nat) : (x < 0 ∨ 4 ≤ x) ∨ x = 0 ∨ x = 1 ∨ x = 2 ∨ x = 3 := by omega
theorem fo_sw0_12 (x : Nat) : (x < 0 ∨ 12 ≤ x) ∨ x = 0 ∨ x = 1 ∨ x = 2 ∨ x = 3 ∨ x = 4 ∨ x = 5 ∨ x = 6 ∨ x = 7 ∨ x = 8 ∨ x = 9 ∨ x = 10 ∨ x = 11 := by omega
theorem fo_sw2_5 (x : Nat) : (x < 2 ∨ 5 ≤ x) ∨ x = 2 ∨ x = 3 ∨ x = 4 := by omega
theorem fo_sw42_48 (x : Nat) : (x < 42 ∨ 48 ≤ x) ∨ x = 42 ∨ x = 43 ∨ x = 44 ∨ x = 45 ∨ x = 46 ∨ x = 47 := by omega
theorem fo_sw1003_1007 (x : Nat) : (x < 1003 ∨ 1007 ≤ x) ∨ x = 1003 ∨ x = 1004 ∨ x = 1005 ∨ x = 1006 := by omega
theorem w_Ro_leadsOn {p a1 a2 a3 : Nat} {F : fx_F} {v : fx_V} {F' : fx_F} (h : Cl k_Ro_leadsOn [(2, p), (0, a1), (0, a2), (0, a3)] F v F') : gxo [] [] F F' := by
  obtain ⟨n, h⟩ := c_Ro_leadsOn h
  have Q := q_Ro_leadsOn_0 h
  refine fo_if fo_ne Q (fun Q => ?_) (fun Q => ?_)
  · rw [Q.2]; exact gxo.rf
  · refine fo_if fo_le Q (fun Q => ?_) (fun Q => ?_)
    · refine fo_if fo_le Q (fun Q => ?_) (fun Q => ?_)
      · rw [Q.2]; exact gxo.rf
      · refine fo_if fo_ne Q (fun Q => ?_) (fun Q => ?_)
        · rw [Q.2]; exact gxo.rf
        · rw [Q.2]; exact gxo.rf
    · rw [Q.2]; exact gxo.rf
theorem w_Ro_addOnward {p a1 a2 : Nat} {F : fx_F} {v : fx_V} {F' : fx_F} (h : Cl k_Ro_addOnward [(2, p), (0, a1), (0, a2)] F v F') : gxo [p + 6] [] F F' := by
  obtain ⟨n, h⟩ := c_Ro_addOnward h
  have lp : ∀ n : Nat, (∀ (l1 l2 l3 l4 : Nat) (F2 : fx_F), Rn n k_Ro_addOnward 15 [(2, p), (0, l1), (0, l2), (0, l3), (0, l4), (3, 0)] [] F2 v F' → gxo [p + 6] [] F F2 → gxo [p + 6] [] F F') := by
    intro n
    induction n using Nat.strongRecOn with
    | ind n ih =>
      refine fun l1 l2 l3 l4 F2 h ho => ?_
      · have Q := q_Ro_addOnward_15 h
        clear h
        refine fo_if fo_le Q (fun Q => ?_) (fun Q => ?_)
        · rw [Q.2]; exact ho
        · obtain ⟨r1, H1, c1, Q⟩ := Q
          have o1 : gxo [p + 6] [] F H1 := gxo.tr ho (gxo.mono (w_Ro_leadsOn c1) (by intro q hq; simp at hq ⊢; try omega) (by intro q hq; simp at hq ⊢; try omega))
          refine fo_if fo_eq Q (fun Q => ?_) (fun Q => ?_)
          · obtain ⟨m, hm, hR⟩ := Q
            exact (ih m hm) _ _ _ _ _ hR o1
          · obtain ⟨m, hm, hR⟩ := Q
            exact (ih m hm) _ _ _ _ _ hR (gxo.wr o1 (by simp))
  have Q := q_Ro_addOnward_0 h
  obtain ⟨m, hm, hR⟩ := Q
  exact (lp m) _ _ _ _ _ hR gxo.rf
theorem w_Ro_countOnward {p a1 : Nat} {F : fx_F} {v : fx_V} {F' : fx_F} (h : Cl k_Ro_countOnward [(2, p), (0, a1)] F v F') : gxo [p + 6] [] F F' := by
  obtain ⟨n, h⟩ := c_Ro_countOnward h
  have lp : ∀ n : Nat, (∀ (l1 l2 : Nat) (F2 : fx_F), Rn n k_Ro_countOnward 2 [(2, p), (0, l1), (0, l2), (3, 0)] [] F2 v F' → gxo [p + 6] [] F F2 → gxo [p + 6] [] F F') ∧ (∀ (l1 l2 : Nat) (F2 : fx_F), Rn n k_Ro_countOnward 41 [(2, p), (0, l1), (0, l2), (3, 0)] [] F2 v F' → gxo [p + 6] [] F F2 → gxo [p + 6] [] F F') ∧ (∀ (l1 l2 l3 : Nat) (F2 : fx_F), Rn n k_Ro_countOnward 49 [(2, p), (0, l1), (0, l2), (0, l3)] [] F2 v F' → gxo [p + 6] [] F F2 → gxo [p + 6] [] F F') := by
    intro n
    induction n using Nat.strongRecOn with
    | ind n ih =>
      refine ⟨fun l1 l2 F2 h ho => ?_, fun l1 l2 F2 h ho => ?_, fun l1 l2 l3 F2 h ho => ?_⟩
      · have Q := q_Ro_countOnward_2 h
        clear h
        refine fo_if fo_le Q (fun Q => ?_) (fun Q => ?_)
        · obtain ⟨m, hm, hR⟩ := Q
          exact (ih m hm).2.1 _ _ _ hR ho
        · refine fo_if fo_ne Q (fun Q => ?_) (fun Q => ?_)
          · obtain ⟨m, hm, hR⟩ := Q
            exact (ih m hm).1 _ _ _ hR (gxo.wr ho (by simp))
          · obtain ⟨m, hm, hR⟩ := Q
            exact (ih m hm).1 _ _ _ hR (gxo.wr ho (by simp))
      · have Q := q_Ro_countOnward_41 h
        clear h
        refine fo_if fo_lt Q (fun Q => ?_) (fun Q => ?_)
        · rw [Q.2]; exact ho
        · obtain ⟨m, hm, hR⟩ := Q
          exact (ih m hm).2.2 _ _ _ _ hR ho
      · have Q := q_Ro_countOnward_49 h
        clear h
        refine fo_if fo_le Q (fun Q => ?_) (fun Q => ?_)
        · obtain ⟨m, hm, hR⟩ := Q
          exact (ih m hm).2.1 _ _ _ hR ho
        · refine fo_if fo_ne Q (fun Q => ?_) (fun Q => ?_)
          · obtain ⟨m, hm, hR⟩ := Q
            exact (ih m hm).2.2 _ _ _ _ hR ho
          · obtain ⟨H1, c1, Q⟩ := Q
            have o1 : gxo [p + 6] [] F H1 := gxo.tr ho (gxo.mono (w_Ro_addOnward c1) (by intro q hq; simp at hq ⊢; try omega) (by intro q hq; simp at hq ⊢; try omega))
            obtain ⟨m, hm, hR⟩ := Q
            exact (ih m hm).2.2 _ _ _ _ hR o1
  have Q := q_Ro_countOnward_0 h
  obtain ⟨m, hm, hR⟩ := Q
  exact (lp m).1 _ _ _ hR gxo.rf
theorem w_Ro_countWays {p a1 a2 : Nat} {F : fx_F} {v : fx_V} {F' : fx_F} (h : Cl k_Ro_countWays [(2, p), (0, a1), (0, a2)] F v F') : gxo [p + 6] [] F F' := by
  obtain ⟨n, h⟩ := c_Ro_countWays h
  have Q := q_Ro_countWays_0 h
  obtain ⟨H1, c1, Q⟩ := Q
  have o1 : gxo [p + 6] [] F H1 := gxo.tr gxo.rf (gxo.mono (w_Ro_countOnward c1) (by intro q hq; simp at hq ⊢; try omega) (by intro q hq; simp at hq ⊢; try omega))
  rw [Q.2]; exact o1
theorem w_Ro_passArriving {p a1 a2 : Nat} {F : fx_F} {v : fx_V} {F' : fx_F} (h : Cl k_Ro_passArriving [(2, p), (0, a1), (0, a2)] F v F') : gxo [p + 7] [] F F' := by
  obtain ⟨n, h⟩ := c_Ro_passArriving h
  have lp : ∀ n : Nat, (∀ (l1 l2 l3 l4 : Nat) (F2 : fx_F), Rn n k_Ro_passArriving 15 [(2, p), (0, l1), (0, l2), (0, l3), (0, l4), (3, 0)] [] F2 v F' → gxo [p + 7] [] F F2 → gxo [p + 7] [] F F') := by
    intro n
    induction n using Nat.strongRecOn with
    | ind n ih =>
      refine fun l1 l2 l3 l4 F2 h ho => ?_
      · have Q := q_Ro_passArriving_15 h
        clear h
        refine fo_if fo_le Q (fun Q => ?_) (fun Q => ?_)
        · rw [Q.2]; exact ho
        · obtain ⟨r1, H1, c1, Q⟩ := Q
          have o1 : gxo [p + 7] [] F H1 := gxo.tr ho (gxo.mono (w_Ro_leadsOn c1) (by intro q hq; simp at hq ⊢; try omega) (by intro q hq; simp at hq ⊢; try omega))
          refine fo_if fo_eq Q (fun Q => ?_) (fun Q => ?_)
          · obtain ⟨m, hm, hR⟩ := Q
            exact (ih m hm) _ _ _ _ _ hR o1
          · obtain ⟨m, hm, hR⟩ := Q
            exact (ih m hm) _ _ _ _ _ hR (gxo.wr o1 (by simp))
  have Q := q_Ro_passArriving_0 h
  obtain ⟨m, hm, hR⟩ := Q
  exact (lp m) _ _ _ _ _ hR gxo.rf
theorem w_Ro_countArriving {p a1 a2 : Nat} {F : fx_F} {v : fx_V} {F' : fx_F} (h : Cl k_Ro_countArriving [(2, p), (0, a1), (0, a2)] F v F') : gxo [p + 7] [] F F' := by
  obtain ⟨n, h⟩ := c_Ro_countArriving h
  have lp : ∀ n : Nat, (∀ (l1 l2 l3 : Nat) (F2 : fx_F), Rn n k_Ro_countArriving 2 [(2, p), (0, l1), (0, l2), (0, l3), (3, 0)] [] F2 v F' → gxo [p + 7] [] F F2 → gxo [p + 7] [] F F') ∧ (∀ (l2 l3 : Nat) (F2 : fx_F), Rn n k_Ro_countArriving 33 [(2, p), (3, 0), (0, l2), (0, l3), (3, 0)] [] F2 v F' → gxo [p + 7] [] F F2 → gxo [p + 7] [] F F') ∧ (∀ (l2 l3 l4 : Nat) (F2 : fx_F), Rn n k_Ro_countArriving 41 [(2, p), (3, 0), (0, l2), (0, l3), (0, l4)] [] F2 v F' → gxo [p + 7] [] F F2 → gxo [p + 7] [] F F') := by
    intro n
    induction n using Nat.strongRecOn with
    | ind n ih =>
      refine ⟨fun l1 l2 l3 F2 h ho => ?_, fun l2 l3 F2 h ho => ?_, fun l2 l3 l4 F2 h ho => ?_⟩
      · have Q := q_Ro_countArriving_2 h
        clear h
        refine fo_if fo_le Q (fun Q => ?_) (fun Q => ?_)
        · obtain ⟨m, hm, hR⟩ := Q
          exact (ih m hm).2.1 _ _ _ hR (gxo.wr ho (by simp))
        · obtain ⟨m, hm, hR⟩ := Q
          exact (ih m hm).1 _ _ _ _ hR (gxo.wr ho (by simp))
      · have Q := q_Ro_countArriving_33 h
        clear h
        refine fo_if fo_lt Q (fun Q => ?_) (fun Q => ?_)
        · rw [Q.2]; exact ho
        · obtain ⟨m, hm, hR⟩ := Q
          exact (ih m hm).2.2 _ _ _ _ hR ho
      · have Q := q_Ro_countArriving_41 h
        clear h
        refine fo_if fo_le Q (fun Q => ?_) (fun Q => ?_)
        · obtain ⟨m, hm, hR⟩ := Q
          exact (ih m hm).2.1 _ _ _ hR ho
        · refine fo_if fo_ne Q (fun Q => ?_) (fun Q => ?_)
          · obtain ⟨m, hm, hR⟩ := Q
            exact (ih m hm).2.2 _ _ _ _ hR ho
          · refine fo_if fo_le Q (fun Q => ?_) (fun Q => ?_)
            · obtain ⟨m, hm, hR⟩ := Q
              exact (ih m hm).2.2 _ _ _ _ hR ho
            · obtain ⟨H1, c1, Q⟩ := Q
              have o1 : gxo [p + 7] [] F H1 := gxo.tr ho (gxo.mono (w_Ro_passArriving c1) (by intro q hq; simp at hq ⊢; try omega) (by intro q hq; simp at hq ⊢; try omega))
              obtain ⟨m, hm, hR⟩ := Q
              exact (ih m hm).2.2 _ _ _ _ hR o1
  have Q := q_Ro_countArriving_0 h
  obtain ⟨m, hm, hR⟩ := Q
  exact (lp m).1 _ _ _ _ hR gxo.rf
theorem w_Ro_countThrough {p a1 a2 a3 : Nat} {F : fx_F} {v : fx_V} {F' : fx_F} (h : Cl k_Ro_countThrough [(2, p), (0, a1), (0, a2), (0, a3)] F v F') : gxo [p + 6, p + 7] [] F F' := by
  obtain ⟨n, h⟩ := c_Ro_countThrough h
  have lp : ∀ n : Nat, (∀ (l2 l3 l4 l6 l8 : Nat) (F2 : fx_F), Rn n k_Ro_countThrough 29 [(2, p), (3, 0), (0, l2), (0, l3), (1, l4), (3, 0), (1, l6), (3, 0), (0, l8)] [] F2 v F' → gxo [p + 6, p + 7] [] F F2 → gxo [p + 6, p + 7] [] F F') := by
    intro n
    induction n using Nat.strongRecOn with
    | ind n ih =>
      refine fun l2 l3 l4 l6 l8 F2 h ho => ?_
      · have Q := q_Ro_countThrough_29 h
        clear h
        refine fo_if fo_lt Q (fun Q => ?_) (fun Q => ?_)
        · rw [Q.2]; exact ho
        · obtain ⟨r1, H1, c1, Q⟩ := Q
          have o1 : gxo [p + 6, p + 7] [] F H1 := gxo.tr ho (gxo.mono (w_Ro_leadsOn c1) (by intro q hq; simp at hq ⊢; try omega) (by intro q hq; simp at hq ⊢; try omega))
          refine fo_if fo_eq Q (fun Q => ?_) (fun Q => ?_)
          · obtain ⟨m, hm, hR⟩ := Q
            exact (ih m hm) _ _ _ _ _ _ hR o1
          · obtain ⟨m, hm, hR⟩ := Q
            exact (ih m hm) _ _ _ _ _ _ hR o1
  have Q := q_Ro_countThrough_0 h
  obtain ⟨H1, c1, Q⟩ := Q
  have o1 : gxo [p + 6, p + 7] [] F H1 := gxo.tr gxo.rf (gxo.mono (w_Ro_countOnward c1) (by intro q hq; simp at hq ⊢; try omega) (by intro q hq; simp at hq ⊢; try omega))
  obtain ⟨H2, c2, Q⟩ := Q
  have o2 : gxo [p + 6, p + 7] [] F H2 := gxo.tr o1 (gxo.mono (w_Ro_countArriving c2) (by intro q hq; simp at hq ⊢; try omega) (by intro q hq; simp at hq ⊢; try omega))
  obtain ⟨m, hm, hR⟩ := Q
  exact (lp m) _ _ _ _ _ _ hR o2
theorem w_Gr_hasSpace {a1 a2 : Nat} {F : fx_F} {v : fx_V} {F' : fx_F} (h : Cl k_Gr_hasSpace [(2, 40), (0, a1), (0, a2)] F v F') : gxo [] [] F F' := by
  obtain ⟨n, h⟩ := c_Gr_hasSpace h
  have Q := q_Gr_hasSpace_0 h
  refine fo_if fo_ne Q (fun Q => ?_) (fun Q => ?_)
  · refine fo_if fo_ne Q (fun Q => ?_) (fun Q => ?_)
    · rw [Q.2]; exact gxo.rf
    · refine fo_if fo_le Q (fun Q => ?_) (fun Q => ?_)
      · rw [Q.2]; exact gxo.rf
      · rw [Q.2]; exact gxo.rf
  · refine fo_if fo_ne Q (fun Q => ?_) (fun Q => ?_)
    · rw [Q.2]; exact gxo.rf
    · refine fo_if fo_le Q (fun Q => ?_) (fun Q => ?_)
      · rw [Q.2]; exact gxo.rf
      · rw [Q.2]; exact gxo.rf
theorem w_Gr_findRow {a1 a2 a3 : Nat} {F : fx_F} {v : fx_V} {F' : fx_F} (h : Cl k_Gr_findRow [(2, 40), (0, a1), (0, a2), (0, a3)] F v F') : gxo [43] [] F F' := by
  obtain ⟨n, h⟩ := c_Gr_findRow h
  have lp : ∀ n : Nat, (∀ (l1 l2 l3 l4 : Nat) (F2 : fx_F), Rn n k_Gr_findRow 3 [(2, 40), (0, l1), (0, l2), (0, l3), (0, l4), (3, 0), (3, 0), (3, 0), (3, 0)] [] F2 v F' → gxo [43] [] F F2 → gxo [43] [] F F') ∧ (∀ (l1 l2 l3 l4 l5 : Nat) (F2 : fx_F), Rn n k_Gr_findRow 35 [(2, 40), (0, l1), (0, l2), (0, l3), (0, l4), (0, l5), (3, 0), (3, 0), (3, 0)] [] F2 v F' → gxo [43] [] F F2 → gxo [43] [] F F') ∧ (∀ (l1 l2 l3 l4 l5 l6 : Nat) (F2 : fx_F), Rn n k_Gr_findRow 58 [(2, 40), (0, l1), (0, l2), (0, l3), (0, l4), (0, l5), (0, l6), (3, 0), (3, 0)] [] F2 v F' → gxo [43] [] F F2 → gxo [43] [] F F') := by
    intro n
    induction n using Nat.strongRecOn with
    | ind n ih =>
      refine ⟨fun l1 l2 l3 l4 F2 h ho => ?_, fun l1 l2 l3 l4 l5 F2 h ho => ?_, fun l1 l2 l3 l4 l5 l6 F2 h ho => ?_⟩
      · have Q := q_Gr_findRow_3 h
        clear h
        refine fo_if fo_le Q (fun Q => ?_) (fun Q => ?_)
        · obtain ⟨m, hm, hR⟩ := Q
          exact (ih m hm).2.1 _ _ _ _ _ _ hR ho
        · obtain ⟨m, hm, hR⟩ := Q
          exact (ih m hm).1 _ _ _ _ _ hR (gxo.wr ho (by simp))
      · have Q := q_Gr_findRow_35 h
        clear h
        refine fo_if fo_le Q (fun Q => ?_) (fun Q => ?_)
        · refine fo_if fo_eq Q (fun Q => ?_) (fun Q => ?_)
          · rw [Q.2]; exact ho
          · rw [Q.2]; exact ho
        · refine fo_if fo_eq Q (fun Q => ?_) (fun Q => ?_)
          · refine fo_if fo_eq Q (fun Q => ?_) (fun Q => ?_)
            · rw [Q.2]; exact ho
            · rw [Q.2]; exact ho
          · obtain ⟨m, hm, hR⟩ := Q
            exact (ih m hm).2.2 _ _ _ _ _ _ _ hR ho
      · have Q := q_Gr_findRow_58 h
        clear h
        refine fo_if fo_le Q (fun Q => ?_) (fun Q => ?_)
        · obtain ⟨m, hm, hR⟩ := Q
          exact (ih m hm).2.1 _ _ _ _ _ _ hR ho
        · refine fo_if fo_eq Q (fun Q => ?_) (fun Q => ?_)
          · refine fo_if fo_eq Q (fun Q => ?_) (fun Q => ?_)
            · obtain ⟨m, hm, hR⟩ := Q
              exact (ih m hm).2.2 _ _ _ _ _ _ _ hR ho
            · refine fo_if fo_ne Q (fun Q => ?_) (fun Q => ?_)
              · obtain ⟨m, hm, hR⟩ := Q
                exact (ih m hm).2.2 _ _ _ _ _ _ _ hR ho
              · obtain ⟨r1, H1, c1, Q⟩ := Q
                have o1 : gxo [43] [] F H1 := gxo.tr ho (gxo.mono (w_Gr_hasSpace c1) (by intro q hq; simp at hq ⊢; try omega) (by intro q hq; simp at hq ⊢; try omega))
                refine fo_if fo_eq Q (fun Q => ?_) (fun Q => ?_)
                · obtain ⟨m, hm, hR⟩ := Q
                  exact (ih m hm).2.2 _ _ _ _ _ _ _ hR o1
                · obtain ⟨m, hm, hR⟩ := Q
                  exact (ih m hm).2.2 _ _ _ _ _ _ _ hR (gxo.wr o1 (by simp))
          · refine fo_if fo_eq Q (fun Q => ?_) (fun Q => ?_)
            · obtain ⟨m, hm, hR⟩ := Q
              exact (ih m hm).2.2 _ _ _ _ _ _ _ hR ho
            · refine fo_if fo_eq Q (fun Q => ?_) (fun Q => ?_)
              · obtain ⟨m, hm, hR⟩ := Q
                exact (ih m hm).2.2 _ _ _ _ _ _ _ hR ho
              · refine fo_if fo_ne Q (fun Q => ?_) (fun Q => ?_)
                · obtain ⟨m, hm, hR⟩ := Q
                  exact (ih m hm).2.2 _ _ _ _ _ _ _ hR ho
                · obtain ⟨r2, H2, c2, Q⟩ := Q
                  have o2 : gxo [43] [] F H2 := gxo.tr ho (gxo.mono (w_Gr_hasSpace c2) (by intro q hq; simp at hq ⊢; try omega) (by intro q hq; simp at hq ⊢; try omega))
                  refine fo_if fo_eq Q (fun Q => ?_) (fun Q => ?_)
                  · obtain ⟨m, hm, hR⟩ := Q
                    exact (ih m hm).2.2 _ _ _ _ _ _ _ hR o2
                  · obtain ⟨m, hm, hR⟩ := Q
                    exact (ih m hm).2.2 _ _ _ _ _ _ _ hR (gxo.wr o2 (by simp))
  have Q := q_Gr_findRow_0 h
  obtain ⟨m, hm, hR⟩ := Q
  exact (lp m).1 _ _ _ _ _ hR gxo.rf
theorem w_Gr_useRow {a1 a2 : Nat} {F : fx_F} {v : fx_V} {F' : fx_F} (h : Cl k_Gr_useRow [(2, 40), (0, a1), (0, a2)] F v F') : gxo [44] [] F F' := by
  obtain ⟨n, h⟩ := c_Gr_useRow h
  have lp : ∀ n : Nat, (∀ (l1 l3 l4 : Nat) (F2 : fx_F), Rn n k_Gr_useRow 5 [(2, 40), (0, l1), (3, 0), (0, l3), (0, l4), (3, 0)] [] F2 v F' → gxo [44] [] F F2 → gxo [44] [] F F') := by
    intro n
    induction n using Nat.strongRecOn with
    | ind n ih =>
      refine fun l1 l3 l4 F2 h ho => ?_
      · have Q := q_Gr_useRow_5 h
        clear h
        refine fo_if fo_le Q (fun Q => ?_) (fun Q => ?_)
        · rw [Q.2]; exact ho
        · refine fo_if fo_eq Q (fun Q => ?_) (fun Q => ?_)
          · rw [Q.2]; exact ho
          · refine fo_if fo_eq Q (fun Q => ?_) (fun Q => ?_)
            · rw [Q.2]; exact ho
            · refine fo_if fo_ne Q (fun Q => ?_) (fun Q => ?_)
              · obtain ⟨m, hm, hR⟩ := Q
                exact (ih m hm) _ _ _ _ hR (gxo.wr ho (by simp))
              · obtain ⟨m, hm, hR⟩ := Q
                exact (ih m hm) _ _ _ _ hR (gxo.wr ho (by simp))
  have Q := q_Gr_useRow_0 h
  obtain ⟨m, hm, hR⟩ := Q
  exact (lp m) _ _ _ _ hR gxo.rf
theorem w_Gr_countApart {a1 a2 a3 : Nat} {F : fx_F} {v : fx_V} {F' : fx_F} (h : Cl k_Gr_countApart [(2, 40), (0, a1), (0, a2), (0, a3)] F v F') : gxo [44, 43] [] F F' := by
  obtain ⟨n, h⟩ := c_Gr_countApart h
  have lp : ∀ n : Nat, (∀ (l1 l2 l3 l4 : Nat) (F2 : fx_F), Rn n k_Gr_countApart 3 [(2, 40), (0, l1), (0, l2), (0, l3), (0, l4), (3, 0)] [] F2 v F' → gxo [44, 43] [] F F2 → gxo [44, 43] [] F F') ∧ (∀ (l1 l2 l3 l4 l5 : Nat) (F2 : fx_F), Rn n k_Gr_countApart 35 [(2, 40), (0, l1), (0, l2), (0, l3), (0, l4), (0, l5)] [] F2 v F' → gxo [44, 43] [] F F2 → gxo [44, 43] [] F F') := by
    intro n
    induction n using Nat.strongRecOn with
    | ind n ih =>
      refine ⟨fun l1 l2 l3 l4 F2 h ho => ?_, fun l1 l2 l3 l4 l5 F2 h ho => ?_⟩
      · have Q := q_Gr_countApart_3 h
        clear h
        refine fo_if fo_le Q (fun Q => ?_) (fun Q => ?_)
        · obtain ⟨m, hm, hR⟩ := Q
          exact (ih m hm).2 _ _ _ _ _ _ hR ho
        · obtain ⟨m, hm, hR⟩ := Q
          exact (ih m hm).1 _ _ _ _ _ hR (gxo.wr ho (by simp))
      · have Q := q_Gr_countApart_35 h
        clear h
        refine fo_if fo_le Q (fun Q => ?_) (fun Q => ?_)
        · rw [Q.2]; exact ho
        · obtain ⟨r1, H1, c1, Q⟩ := Q
          have o1 : gxo [44, 43] [] F H1 := gxo.tr ho (gxo.mono (w_Gr_findRow c1) (by intro q hq; simp at hq ⊢; try omega) (by intro q hq; simp at hq ⊢; try omega))
          refine fo_if fo_eq Q (fun Q => ?_) (fun Q => ?_)
          · rw [Q.2]; exact o1
          · obtain ⟨H2, c2, Q⟩ := Q
            have o2 : gxo [44, 43] [] F H2 := gxo.tr o1 (gxo.mono (w_Gr_useRow c2) (by intro q hq; simp at hq ⊢; try omega) (by intro q hq; simp at hq ⊢; try omega))
            obtain ⟨m, hm, hR⟩ := Q
            exact (ih m hm).2 _ _ _ _ _ _ hR o2
  have Q := q_Gr_countApart_0 h
  obtain ⟨m, hm, hR⟩ := Q
  exact (lp m).1 _ _ _ _ _ hR gxo.rf
theorem w_Gr_spread {a0 a1 a2 a3 a4 : Nat} {F : fx_F} {v : fx_V} {F' : fx_F} (h : Cl k_Gr_spread [(2, a0), (0, a1), (0, a2), (2, a3), (0, a4)] F v F') : gxo [a3] [] F F' := by
  obtain ⟨n, h⟩ := c_Gr_spread h
  have lp : ∀ n : Nat, (∀ (p l1 l2 l4 l5 : Nat) (F2 : fx_F), Rn n k_Gr_spread 12 [(2, p), (0, l1), (0, l2), (2, a3), (0, l4), (0, l5), (3, 0), (3, 0), (3, 0), (3, 0)] [] F2 v F' → gxo [a3] [] F F2 → gxo [a3] [] F F') ∧ (∀ (p l1 l4 l5 l6 : Nat) (F2 : fx_F), Rn n k_Gr_spread 48 [(2, p), (0, l1), (3, 0), (2, a3), (0, l4), (0, l5), (0, l6), (3, 0), (3, 0), (3, 0)] [] F2 v F' → gxo [a3] [] F F2 → gxo [a3] [] F F') ∧ (∀ (p l1 l4 l5 l6 l7 : Nat) (F2 : fx_F), Rn n k_Gr_spread 68 [(2, p), (0, l1), (3, 0), (2, a3), (0, l4), (0, l5), (0, l6), (0, l7), (3, 0), (3, 0)] [] F2 v F' → gxo [a3] [] F F2 → gxo [a3] [] F F') := by
    intro n
    induction n using Nat.strongRecOn with
    | ind n ih =>
      refine ⟨fun p l1 l2 l4 l5 F2 h ho => ?_, fun p l1 l4 l5 l6 F2 h ho => ?_, fun p l1 l4 l5 l6 l7 F2 h ho => ?_⟩
      · have Q := q_Gr_spread_12 h
        clear h
        refine fo_if fo_le Q (fun Q => ?_) (fun Q => ?_)
        · obtain ⟨m, hm, hR⟩ := Q
          exact (ih m hm).2.1 _ _ _ _ _ _ hR (gxo.wr ho (by simp))
        · obtain ⟨m, hm, hR⟩ := Q
          exact (ih m hm).1 _ _ _ _ _ _ hR (gxo.wr ho (by simp))
      · have Q := q_Gr_spread_48 h
        clear h
        refine fo_if fo_le Q (fun Q => ?_) (fun Q => ?_)
        · rw [Q.2]; exact ho
        · refine fo_if fo_eq Q (fun Q => ?_) (fun Q => ?_)
          · rw [Q.2]; exact ho
          · obtain ⟨m, hm, hR⟩ := Q
            exact (ih m hm).2.2 _ _ _ _ _ _ _ hR ho
      · have Q := q_Gr_spread_68 h
        clear h
        refine fo_if fo_le Q (fun Q => ?_) (fun Q => ?_)
        · obtain ⟨m, hm, hR⟩ := Q
          exact (ih m hm).2.1 _ _ _ _ _ _ hR ho
        · refine fo_if fo_ne Q (fun Q => ?_) (fun Q => ?_)
          · obtain ⟨m, hm, hR⟩ := Q
            exact (ih m hm).2.2 _ _ _ _ _ _ _ hR ho
          · refine fo_if fo_ne Q (fun Q => ?_) (fun Q => ?_)
            · obtain ⟨m, hm, hR⟩ := Q
              exact (ih m hm).2.2 _ _ _ _ _ _ _ hR ho
            · refine fo_if fo_ne Q (fun Q => ?_) (fun Q => ?_)
              · obtain ⟨m, hm, hR⟩ := Q
                exact (ih m hm).2.2 _ _ _ _ _ _ _ hR ho
              · obtain ⟨m, hm, hR⟩ := Q
                exact (ih m hm).2.2 _ _ _ _ _ _ _ hR (gxo.wr ho (by simp))
  have Q := q_Gr_spread_0 h
  refine fo_if fo_lt Q (fun Q => ?_) (fun Q => ?_)
  · rw [Q.2]; exact gxo.rf
  · refine fo_if fo_le Q (fun Q => ?_) (fun Q => ?_)
    · rw [Q.2]; exact gxo.rf
    · obtain ⟨m, hm, hR⟩ := Q
      exact (lp m).1 _ _ _ _ _ _ hR gxo.rf
theorem w_Gr_parts {a1 a2 : Nat} {F : fx_F} {v : fx_V} {F' : fx_F} (h : Cl k_Gr_parts [(2, 40), (0, a1), (0, a2)] F v F') : gxo [42] [] F F' := by
  obtain ⟨n, h⟩ := c_Gr_parts h
  have lp : ∀ n : Nat, (∀ (l1 l3 l4 : Nat) (F2 : fx_F), Rn n k_Gr_parts 5 [(2, 40), (0, l1), (3, 0), (0, l3), (0, l4), (3, 0)] [] F2 v F' → gxo [42] [] F F2 → gxo [42] [] F F') ∧ (∀ (l1 l3 l4 : Nat) (F2 : fx_F), Rn n k_Gr_parts 67 [(2, 40), (0, l1), (3, 0), (0, l3), (0, l4), (3, 0)] [] F2 v F' → gxo [42] [] F F2 → gxo [42] [] F F') ∧ (∀ (l1 l3 l4 l5 : Nat) (F2 : fx_F), Rn n k_Gr_parts 103 [(2, 40), (0, l1), (3, 0), (0, l3), (0, l4), (0, l5)] [] F2 v F' → gxo [42] [] F F2 → gxo [42] [] F F') := by
    intro n
    induction n using Nat.strongRecOn with
    | ind n ih =>
      refine ⟨fun l1 l3 l4 F2 h ho => ?_, fun l1 l3 l4 F2 h ho => ?_, fun l1 l3 l4 l5 F2 h ho => ?_⟩
      · have Q := q_Gr_parts_5 h
        clear h
        refine fo_if fo_le Q (fun Q => ?_) (fun Q => ?_)
        · obtain ⟨m, hm, hR⟩ := Q
          exact (ih m hm).2.1 _ _ _ _ hR ho
        · refine fo_if fo_eq Q (fun Q => ?_) (fun Q => ?_)
          · obtain ⟨m, hm, hR⟩ := Q
            exact (ih m hm).1 _ _ _ _ hR ho
          · refine fo_if fo_ne Q (fun Q => ?_) (fun Q => ?_)
            · obtain ⟨m, hm, hR⟩ := Q
              exact (ih m hm).1 _ _ _ _ hR ho
            · obtain ⟨m, hm, hR⟩ := Q
              exact (ih m hm).1 _ _ _ _ hR ho
      · have Q := q_Gr_parts_67 h
        clear h
        refine fo_if fo_le Q (fun Q => ?_) (fun Q => ?_)
        · rw [Q.2]; exact ho
        · refine fo_if fo_eq Q (fun Q => ?_) (fun Q => ?_)
          · obtain ⟨m, hm, hR⟩ := Q
            exact (ih m hm).2.1 _ _ _ _ hR ho
          · obtain ⟨H1, c1, Q⟩ := Q
            have o1 : gxo [42] [] F H1 := gxo.tr ho (gxo.mono (w_Gr_spread c1) (by intro q hq; simp at hq ⊢; try omega) (by intro q hq; simp at hq ⊢; try omega))
            obtain ⟨m, hm, hR⟩ := Q
            exact (ih m hm).2.2 _ _ _ _ _ hR o1
      · have Q := q_Gr_parts_103 h
        clear h
        refine fo_if fo_le Q (fun Q => ?_) (fun Q => ?_)
        · obtain ⟨m, hm, hR⟩ := Q
          exact (ih m hm).2.1 _ _ _ _ hR ho
        · refine fo_if fo_eq Q (fun Q => ?_) (fun Q => ?_)
          · obtain ⟨m, hm, hR⟩ := Q
            exact (ih m hm).2.2 _ _ _ _ _ hR ho
          · refine fo_if fo_ne Q (fun Q => ?_) (fun Q => ?_)
            · obtain ⟨m, hm, hR⟩ := Q
              exact (ih m hm).2.2 _ _ _ _ _ hR ho
            · refine fo_if fo_eq Q (fun Q => ?_) (fun Q => ?_)
              · obtain ⟨m, hm, hR⟩ := Q
                exact (ih m hm).2.2 _ _ _ _ _ hR ho
              · rw [Q.2]; exact ho
  have Q := q_Gr_parts_0 h
  obtain ⟨m, hm, hR⟩ := Q
  exact (lp m).1 _ _ _ _ hR gxo.rf
theorem w_Gr_see {a1 : Nat} {F : fx_F} {v : fx_V} {F' : fx_F} (h : Cl k_Gr_see [(2, 40), (0, a1)] F v F') : gxo [41] [] F F' := by
  obtain ⟨n, h⟩ := c_Gr_see h
  have lp : ∀ n : Nat, (∀ (l1 l2 : Nat) (F2 : fx_F), Rn n k_Gr_see 2 [(2, 40), (0, l1), (0, l2)] [] F2 v F' → gxo [41] [] F F2 → gxo [41] [] F F') := by
    intro n
    induction n using Nat.strongRecOn with
    | ind n ih =>
      refine fun l1 l2 F2 h ho => ?_
      · have Q := q_Gr_see_2 h
        clear h
        refine fo_if fo_le Q (fun Q => ?_) (fun Q => ?_)
        · rw [Q.2]; exact ho
        · obtain ⟨H1, c1, Q⟩ := Q
          have o1 : gxo [41] [] F H1 := gxo.tr ho (gxo.mono (w_Gr_spread c1) (by intro q hq; simp at hq ⊢; try omega) (by intro q hq; simp at hq ⊢; try omega))
          obtain ⟨m, hm, hR⟩ := Q
          exact (ih m hm) _ _ _ hR o1
  have Q := q_Gr_see_0 h
  obtain ⟨m, hm, hR⟩ := Q
  exact (lp m) _ _ _ hR gxo.rf
theorem w_Gr_findPivots {a1 : Nat} {F : fx_F} {v : fx_V} {F' : fx_F} (h : Cl k_Gr_findPivots [(2, 40), (0, a1)] F v F') : gxo [41, 42] [] F F' := by
  obtain ⟨n, h⟩ := c_Gr_findPivots h
  have lp : ∀ n : Nat, (∀ (l1 l2 l3 : Nat) (F2 : fx_F), Rn n k_Gr_findPivots 9 [(2, 40), (0, l1), (0, l2), (0, l3)] [] F2 v F' → gxo [41, 42] [] F F2 → gxo [41, 42] [] F F') := by
    intro n
    induction n using Nat.strongRecOn with
    | ind n ih =>
      refine fun l1 l2 l3 F2 h ho => ?_
      · have Q := q_Gr_findPivots_9 h
        clear h
        refine fo_if fo_le Q (fun Q => ?_) (fun Q => ?_)
        · rw [Q.2]; exact ho
        · obtain ⟨r1, H1, c1, Q⟩ := Q
          have o1 : gxo [41, 42] [] F H1 := gxo.tr ho (gxo.mono (w_Gr_parts c1) (by intro q hq; simp at hq ⊢; try omega) (by intro q hq; simp at hq ⊢; try omega))
          refine fo_if fo_eq Q (fun Q => ?_) (fun Q => ?_)
          · obtain ⟨m, hm, hR⟩ := Q
            exact (ih m hm) _ _ _ _ hR o1
          · obtain ⟨m, hm, hR⟩ := Q
            exact (ih m hm) _ _ _ _ hR o1
  have Q := q_Gr_findPivots_0 h
  obtain ⟨H1, c1, Q⟩ := Q
  have o1 : gxo [41, 42] [] F H1 := gxo.tr gxo.rf (gxo.mono (w_Gr_see c1) (by intro q hq; simp at hq ⊢; try omega) (by intro q hq; simp at hq ⊢; try omega))
  obtain ⟨m, hm, hR⟩ := Q
  exact (lp m) _ _ _ _ hR o1
theorem w_St_freePacket {p : Nat} {F : fx_F} {v : fx_V} {F' : fx_F} (h : Cl k_St_freePacket [(2, p)] F v F') : gxo [] [] F F' := by
  obtain ⟨n, h⟩ := c_St_freePacket h
  have lp : ∀ n : Nat, (∀ (l1 : Nat) (F2 : fx_F), Rn n k_St_freePacket 2 [(2, p), (0, l1)] [] F2 v F' → gxo [] [] F F2 → gxo [] [] F F') := by
    intro n
    induction n using Nat.strongRecOn with
    | ind n ih =>
      refine fun l1 F2 h ho => ?_
      · have Q := q_St_freePacket_2 h
        clear h
        refine fo_if fo_le Q (fun Q => ?_) (fun Q => ?_)
        · rw [Q.2]; exact ho
        · refine fo_if fo_ne Q (fun Q => ?_) (fun Q => ?_)
          · obtain ⟨m, hm, hR⟩ := Q
            exact (ih m hm) _ _ hR ho
          · rw [Q.2]; exact ho
  have Q := q_St_freePacket_0 h
  obtain ⟨m, hm, hR⟩ := Q
  exact (lp m) _ _ hR gxo.rf
theorem w_St_countCameBy {p a1 : Nat} {F : fx_F} {v : fx_V} {F' : fx_F} (h : Cl k_St_countCameBy [(2, p), (0, a1)] F v F') : gxo [] [] F F' := by
  obtain ⟨n, h⟩ := c_St_countCameBy h
  have lp : ∀ n : Nat, (∀ (l1 l2 l3 : Nat) (F2 : fx_F), Rn n k_St_countCameBy 4 [(2, p), (0, l1), (0, l2), (0, l3)] [] F2 v F' → gxo [] [] F F2 → gxo [] [] F F') := by
    intro n
    induction n using Nat.strongRecOn with
    | ind n ih =>
      refine fun l1 l2 l3 F2 h ho => ?_
      · have Q := q_St_countCameBy_4 h
        clear h
        refine fo_if fo_le Q (fun Q => ?_) (fun Q => ?_)
        · rw [Q.2]; exact ho
        · refine fo_if fo_eq Q (fun Q => ?_) (fun Q => ?_)
          · obtain ⟨m, hm, hR⟩ := Q
            exact (ih m hm) _ _ _ _ hR ho
          · refine fo_if fo_ne Q (fun Q => ?_) (fun Q => ?_)
            · obtain ⟨m, hm, hR⟩ := Q
              exact (ih m hm) _ _ _ _ hR ho
            · obtain ⟨m, hm, hR⟩ := Q
              exact (ih m hm) _ _ _ _ hR ho
  have Q := q_St_countCameBy_0 h
  obtain ⟨m, hm, hR⟩ := Q
  exact (lp m) _ _ _ _ hR gxo.rf
theorem w_Tr_goOn {a1 a2 a3 : Nat} {F : fx_F} {v : fx_V} {F' : fx_F} (h : Cl k_Tr_goOn [(2, 50), (2, a1), (2, a2), (0, a3)] F v F') : gxo [50, a1 + 4, a1 + 3, a1 + 1, a1] [] F F' := by
  obtain ⟨n, h⟩ := c_Tr_goOn h
  have Q := q_Tr_goOn_0 h
  refine fo_if fo_ne Q (fun Q => ?_) (fun Q => ?_)
  · refine fo_if fo_eq Q (fun Q => ?_) (fun Q => ?_)
    · refine fo_if fo_eq Q (fun Q => ?_) (fun Q => ?_)
      · rw [Q.2]; exact (gxo.wr (gxo.wr gxo.rf (by simp)) (by simp))
      · obtain ⟨r1, H1, c1, Q⟩ := Q
        have o1 : gxo [50, a1 + 4, a1 + 3, a1 + 1, a1] [] F H1 := gxo.tr gxo.rf (gxo.mono (w_St_countCameBy c1) (by intro q hq; simp at hq ⊢; try omega) (by intro q hq; simp at hq ⊢; try omega))
        refine fo_if fo_lt Q (fun Q => ?_) (fun Q => ?_)
        · rw [Q.2]; exact (gxo.wr (gxo.wr (gxo.wr o1 (by simp)) (by simp)) (by simp))
        · rw [Q.2]; exact (gxo.wr (gxo.wr o1 (by simp)) (by simp))
    · refine fo_if fo_eq Q (fun Q => ?_) (fun Q => ?_)
      · refine fo_if fo_eq Q (fun Q => ?_) (fun Q => ?_)
        · rw [Q.2]; exact (gxo.wr (gxo.wr gxo.rf (by simp)) (by simp))
        · obtain ⟨r2, H2, c2, Q⟩ := Q
          have o2 : gxo [50, a1 + 4, a1 + 3, a1 + 1, a1] [] F H2 := gxo.tr gxo.rf (gxo.mono (w_St_countCameBy c2) (by intro q hq; simp at hq ⊢; try omega) (by intro q hq; simp at hq ⊢; try omega))
          refine fo_if fo_lt Q (fun Q => ?_) (fun Q => ?_)
          · rw [Q.2]; exact (gxo.wr (gxo.wr (gxo.wr o2 (by simp)) (by simp)) (by simp))
          · rw [Q.2]; exact (gxo.wr (gxo.wr o2 (by simp)) (by simp))
      · refine fo_if fo_eq Q (fun Q => ?_) (fun Q => ?_)
        · rw [Q.2]; exact (gxo.wr (gxo.wr gxo.rf (by simp)) (by simp))
        · obtain ⟨r3, H3, c3, Q⟩ := Q
          have o3 : gxo [50, a1 + 4, a1 + 3, a1 + 1, a1] [] F H3 := gxo.tr gxo.rf (gxo.mono (w_St_countCameBy c3) (by intro q hq; simp at hq ⊢; try omega) (by intro q hq; simp at hq ⊢; try omega))
          refine fo_if fo_lt Q (fun Q => ?_) (fun Q => ?_)
          · rw [Q.2]; exact (gxo.wr (gxo.wr (gxo.wr o3 (by simp)) (by simp)) (by simp))
          · rw [Q.2]; exact (gxo.wr (gxo.wr o3 (by simp)) (by simp))
  · rw [Q.2]; exact (gxo.wr (gxo.wr (gxo.wr gxo.rf (by simp)) (by simp)) (by simp))
theorem w_Tr_goStep {a1 a2 : Nat} {F : fx_F} {v : fx_V} {F' : fx_F} (h : Cl k_Tr_goStep [(2, 50), (2, a1), (2, a2)] F v F') : gxo [a1, 50, a1 + 4, a1 + 3, a1 + 1] [] F F' := by
  obtain ⟨n, h⟩ := c_Tr_goStep h
  have lp : ∀ n : Nat, (∀ (l2 l3 : Nat) (F2 : fx_F), Rn n k_Tr_goStep 2 [(2, 50), (2, a1), (2, l2), (0, l3)] [] F2 v F' → gxo [a1, 50, a1 + 4, a1 + 3, a1 + 1] [] F F2 → gxo [a1, 50, a1 + 4, a1 + 3, a1 + 1] [] F F') := by
    intro n
    induction n using Nat.strongRecOn with
    | ind n ih =>
      refine fun l2 l3 F2 h ho => ?_
      · have Q := q_Tr_goStep_2 h
        clear h
        refine fo_if fo_le Q (fun Q => ?_) (fun Q => ?_)
        · rw [Q.2]; exact (gxo.wr ho (by simp))
        · refine fo_if fo_lt Q (fun Q => ?_) (fun Q => ?_)
          · obtain ⟨m, hm, hR⟩ := Q
            exact (ih m hm) _ _ _ hR ho
          · refine fo_if fo_le Q (fun Q => ?_) (fun Q => ?_)
            · obtain ⟨m, hm, hR⟩ := Q
              exact (ih m hm) _ _ _ hR ho
            · refine fo_if fo_eq Q (fun Q => ?_) (fun Q => ?_)
              · obtain ⟨m, hm, hR⟩ := Q
                exact (ih m hm) _ _ _ hR ho
              · obtain ⟨H1, c1, Q⟩ := Q
                have o1 : gxo [a1, 50, a1 + 4, a1 + 3, a1 + 1] [] F H1 := gxo.tr ho (gxo.mono (w_Tr_goOn c1) (by intro q hq; simp at hq ⊢; try omega) (by intro q hq; simp at hq ⊢; try omega))
                obtain ⟨m, hm, hR⟩ := Q
                exact (ih m hm) _ _ _ hR o1
  have Q := q_Tr_goStep_0 h
  obtain ⟨m, hm, hR⟩ := Q
  exact (lp m) _ _ _ hR gxo.rf
theorem w_Tr_play {a1 a2 a3 a4 : Nat} {F : fx_F} {v : fx_V} {F' : fx_F} (h : Cl k_Tr_play [(2, 50), (2, a1), (2, a2), (0, a3), (0, a4)] F v F') : gxo [a1, 50, a1 + 4, a1 + 3, a1 + 1, a1 + 2] [] F F' := by
  obtain ⟨n, h⟩ := c_Tr_play h
  have lp : ∀ n : Nat, (∀ (l2 l4 l5 l6 l7 : Nat) (F2 : fx_F), Rn n k_Tr_play 9 [(2, 50), (2, a1), (2, l2), (3, 0), (0, l4), (0, l5), (0, l6), (0, l7), (3, 0), (3, 0)] [] F2 v F' → gxo [a1, 50, a1 + 4, a1 + 3, a1 + 1, a1 + 2] [] F F2 → gxo [a1, 50, a1 + 4, a1 + 3, a1 + 1, a1 + 2] [] F F') := by
    intro n
    induction n using Nat.strongRecOn with
    | ind n ih =>
      refine fun l2 l4 l5 l6 l7 F2 h ho => ?_
      · have Q := q_Tr_play_9 h
        clear h
        refine fo_if fo_le Q (fun Q => ?_) (fun Q => ?_)
        · rw [Q.2]; exact ho
        · refine fo_if fo_eq Q (fun Q => ?_) (fun Q => ?_)
          · obtain ⟨H1, c1, Q⟩ := Q
            have o1 : gxo [a1, 50, a1 + 4, a1 + 3, a1 + 1, a1 + 2] [] F H1 := gxo.tr ho (gxo.mono (w_Tr_goStep c1) (by intro q hq; simp at hq ⊢; try omega) (by intro q hq; simp at hq ⊢; try omega))
            obtain ⟨m, hm, hR⟩ := Q
            exact (ih m hm) _ _ _ _ _ _ hR o1
          · obtain ⟨r2, H2, c2, Q⟩ := Q
            have o2 : gxo [a1, 50, a1 + 4, a1 + 3, a1 + 1, a1 + 2] [] F H2 := gxo.tr ho (gxo.mono (w_St_freePacket c2) (by intro q hq; simp at hq ⊢; try omega) (by intro q hq; simp at hq ⊢; try omega))
            refine fo_if fo_eq Q (fun Q => ?_) (fun Q => ?_)
            · refine fo_if fo_ne Q (fun Q => ?_) (fun Q => ?_)
              · obtain ⟨H3, c3, Q⟩ := Q
                have o3 : gxo [a1, 50, a1 + 4, a1 + 3, a1 + 1, a1 + 2] [] F H3 := gxo.tr o2 (gxo.mono (w_Tr_goStep c3) (by intro q hq; simp at hq ⊢; try omega) (by intro q hq; simp at hq ⊢; try omega))
                obtain ⟨m, hm, hR⟩ := Q
                exact (ih m hm) _ _ _ _ _ _ hR o3
              · obtain ⟨H4, c4, Q⟩ := Q
                have o4 : gxo [a1, 50, a1 + 4, a1 + 3, a1 + 1, a1 + 2] [] F H4 := gxo.tr o2 (gxo.mono (w_Tr_goStep c4) (by intro q hq; simp at hq ⊢; try omega) (by intro q hq; simp at hq ⊢; try omega))
                obtain ⟨m, hm, hR⟩ := Q
                exact (ih m hm) _ _ _ _ _ _ hR o4
            · refine fo_if fo_ne Q (fun Q => ?_) (fun Q => ?_)
              · obtain ⟨H5, c5, Q⟩ := Q
                have o5 : gxo [a1, 50, a1 + 4, a1 + 3, a1 + 1, a1 + 2] [] F H5 := gxo.tr (gxo.wr (gxo.wr (gxo.wr (gxo.wr o2 (by simp)) (by simp)) (by simp)) (by simp)) (gxo.mono (w_Tr_goStep c5) (by intro q hq; simp at hq ⊢; try omega) (by intro q hq; simp at hq ⊢; try omega))
                obtain ⟨m, hm, hR⟩ := Q
                exact (ih m hm) _ _ _ _ _ _ hR o5
              · obtain ⟨H6, c6, Q⟩ := Q
                have o6 : gxo [a1, 50, a1 + 4, a1 + 3, a1 + 1, a1 + 2] [] F H6 := gxo.tr (gxo.wr (gxo.wr (gxo.wr (gxo.wr o2 (by simp)) (by simp)) (by simp)) (by simp)) (gxo.mono (w_Tr_goStep c6) (by intro q hq; simp at hq ⊢; try omega) (by intro q hq; simp at hq ⊢; try omega))
                obtain ⟨m, hm, hR⟩ := Q
                exact (ih m hm) _ _ _ _ _ _ hR o6
  have Q := q_Tr_play_0 h
  obtain ⟨m, hm, hR⟩ := Q
  exact (lp m) _ _ _ _ _ _ hR gxo.rf
theorem w_Ro_countPath {p a1 a2 : Nat} {F : fx_F} {v : fx_V} {F' : fx_F} (h : Cl k_Ro_countPath [(2, p), (0, a1), (0, a2)] F v F') : gxo [p + 4] [] F F' := by
  obtain ⟨n, h⟩ := c_Ro_countPath h
  have lp : ∀ n : Nat, (∀ (l2 l3 l4 : Nat) (F2 : fx_F), Rn n k_Ro_countPath 11 [(2, p), (3, 0), (0, l2), (0, l3), (0, l4)] [] F2 v F' → gxo [p + 4] [] F F2 → gxo [p + 4] [] F F') := by
    intro n
    induction n using Nat.strongRecOn with
    | ind n ih =>
      refine fun l2 l3 l4 F2 h ho => ?_
      · have Q := q_Ro_countPath_11 h
        clear h
        refine fo_if fo_le Q (fun Q => ?_) (fun Q => ?_)
        · rw [Q.2]; exact ho
        · refine fo_if fo_eq Q (fun Q => ?_) (fun Q => ?_)
          · rw [Q.2]; exact ho
          · obtain ⟨m, hm, hR⟩ := Q
            exact (ih m hm) _ _ _ _ hR (gxo.wr ho (by simp))
  have Q := q_Ro_countPath_0 h
  obtain ⟨m, hm, hR⟩ := Q
  exact (lp m) _ _ _ _ hR gxo.rf
theorem w_Ro_countLoads {p : Nat} {F : fx_F} {v : fx_V} {F' : fx_F} (h : Cl k_Ro_countLoads [(2, p)] F v F') : gxo [p + 4] [] F F' := by
  obtain ⟨n, h⟩ := c_Ro_countLoads h
  have lp : ∀ n : Nat, (∀ (l1 : Nat) (F2 : fx_F), Rn n k_Ro_countLoads 2 [(2, p), (0, l1), (3, 0)] [] F2 v F' → gxo [p + 4] [] F F2 → gxo [p + 4] [] F F') ∧ (∀ (l1 : Nat) (F2 : fx_F), Rn n k_Ro_countLoads 28 [(2, p), (0, l1), (3, 0)] [] F2 v F' → gxo [p + 4] [] F F2 → gxo [p + 4] [] F F') ∧ (∀ (l1 l2 : Nat) (F2 : fx_F), Rn n k_Ro_countLoads 41 [(2, p), (0, l1), (0, l2)] [] F2 v F' → gxo [p + 4] [] F F2 → gxo [p + 4] [] F F') := by
    intro n
    induction n using Nat.strongRecOn with
    | ind n ih =>
      refine ⟨fun l1 F2 h ho => ?_, fun l1 F2 h ho => ?_, fun l1 l2 F2 h ho => ?_⟩
      · have Q := q_Ro_countLoads_2 h
        clear h
        refine fo_if fo_le Q (fun Q => ?_) (fun Q => ?_)
        · obtain ⟨m, hm, hR⟩ := Q
          exact (ih m hm).2.1 _ _ hR ho
        · obtain ⟨m, hm, hR⟩ := Q
          exact (ih m hm).1 _ _ hR (gxo.wr ho (by simp))
      · have Q := q_Ro_countLoads_28 h
        clear h
        refine fo_if fo_le Q (fun Q => ?_) (fun Q => ?_)
        · rw [Q.2]; exact ho
        · obtain ⟨m, hm, hR⟩ := Q
          exact (ih m hm).2.2 _ _ _ hR ho
      · have Q := q_Ro_countLoads_41 h
        clear h
        refine fo_if fo_le Q (fun Q => ?_) (fun Q => ?_)
        · obtain ⟨m, hm, hR⟩ := Q
          exact (ih m hm).2.1 _ _ hR ho
        · obtain ⟨H1, c1, Q⟩ := Q
          have o1 : gxo [p + 4] [] F H1 := gxo.tr ho (gxo.mono (w_Ro_countPath c1) (by intro q hq; simp at hq ⊢; try omega) (by intro q hq; simp at hq ⊢; try omega))
          obtain ⟨m, hm, hR⟩ := Q
          exact (ih m hm).2.2 _ _ _ hR o1
  have Q := q_Ro_countLoads_0 h
  obtain ⟨m, hm, hR⟩ := Q
  exact (lp m).1 _ _ hR gxo.rf
theorem w_Ro_leastUsed {p a1 a2 a3 : Nat} {F : fx_F} {v : fx_V} {F' : fx_F} (h : Cl k_Ro_leastUsed [(2, p), (0, a1), (0, a2), (0, a3)] F v F') : gxo [] [] F F' := by
  obtain ⟨n, h⟩ := c_Ro_leastUsed h
  have lp : ∀ n : Nat, (∀ (l1 l2 l3 l4 l5 : Nat) (F2 : fx_F), Rn n k_Ro_leastUsed 14 [(2, p), (0, l1), (0, l2), (0, l3), (0, l4), (0, l5), (3, 0)] [] F2 v F' → gxo [] [] F F2 → gxo [] [] F F') := by
    intro n
    induction n using Nat.strongRecOn with
    | ind n ih =>
      refine fun l1 l2 l3 l4 l5 F2 h ho => ?_
      · have Q := q_Ro_leastUsed_14 h
        clear h
        refine fo_if fo_le Q (fun Q => ?_) (fun Q => ?_)
        · rw [Q.2]; exact ho
        · obtain ⟨r1, H1, c1, Q⟩ := Q
          have o1 : gxo [] [] F H1 := gxo.tr ho (gxo.mono (w_Ro_leadsOn c1) (by intro q hq; simp at hq ⊢; try omega) (by intro q hq; simp at hq ⊢; try omega))
          refine fo_if fo_eq Q (fun Q => ?_) (fun Q => ?_)
          · obtain ⟨m, hm, hR⟩ := Q
            exact (ih m hm) _ _ _ _ _ _ hR o1
          · refine fo_if fo_eq Q (fun Q => ?_) (fun Q => ?_)
            · obtain ⟨m, hm, hR⟩ := Q
              exact (ih m hm) _ _ _ _ _ _ hR o1
            · refine fo_if fo_le Q (fun Q => ?_) (fun Q => ?_)
              · obtain ⟨m, hm, hR⟩ := Q
                exact (ih m hm) _ _ _ _ _ _ hR o1
              · obtain ⟨m, hm, hR⟩ := Q
                exact (ih m hm) _ _ _ _ _ _ hR o1
  have Q := q_Ro_leastUsed_0 h
  obtain ⟨m, hm, hR⟩ := Q
  exact (lp m) _ _ _ _ _ _ hR gxo.rf
theorem w_Ro_fillTable {p : Nat} {F : fx_F} {v : fx_V} {F' : fx_F} (h : Cl k_Ro_fillTable [(2, p)] F v F') : gxo [p + 3, p + 2] [] F F' := by
  obtain ⟨n, h⟩ := c_Ro_fillTable h
  have lp : ∀ n : Nat, (∀ (l1 : Nat) (F2 : fx_F), Rn n k_Ro_fillTable 2 [(2, p), (0, l1), (3, 0), (3, 0)] [] F2 v F' → gxo [p + 3, p + 2] [] F F2 → gxo [p + 3, p + 2] [] F F') ∧ (∀ (l1 : Nat) (F2 : fx_F), Rn n k_Ro_fillTable 28 [(2, p), (0, l1), (3, 0), (3, 0)] [] F2 v F' → gxo [p + 3, p + 2] [] F F2 → gxo [p + 3, p + 2] [] F F') ∧ (∀ (l1 l2 : Nat) (F2 : fx_F), Rn n k_Ro_fillTable 41 [(2, p), (0, l1), (0, l2), (3, 0)] [] F2 v F' → gxo [p + 3, p + 2] [] F F2 → gxo [p + 3, p + 2] [] F F') := by
    intro n
    induction n using Nat.strongRecOn with
    | ind n ih =>
      refine ⟨fun l1 F2 h ho => ?_, fun l1 F2 h ho => ?_, fun l1 l2 F2 h ho => ?_⟩
      · have Q := q_Ro_fillTable_2 h
        clear h
        refine fo_if fo_le Q (fun Q => ?_) (fun Q => ?_)
        · obtain ⟨m, hm, hR⟩ := Q
          exact (ih m hm).2.1 _ _ hR ho
        · obtain ⟨m, hm, hR⟩ := Q
          exact (ih m hm).1 _ _ hR (gxo.wr ho (by simp))
      · have Q := q_Ro_fillTable_28 h
        clear h
        refine fo_if fo_le Q (fun Q => ?_) (fun Q => ?_)
        · rw [Q.2]; exact ho
        · obtain ⟨m, hm, hR⟩ := Q
          exact (ih m hm).2.2 _ _ _ hR ho
      · have Q := q_Ro_fillTable_41 h
        clear h
        refine fo_if fo_le Q (fun Q => ?_) (fun Q => ?_)
        · obtain ⟨m, hm, hR⟩ := Q
          exact (ih m hm).2.1 _ _ hR ho
        · obtain ⟨r1, H1, c1, Q⟩ := Q
          have o1 : gxo [p + 3, p + 2] [] F H1 := gxo.tr ho (gxo.mono (w_Ro_leastUsed c1) (by intro q hq; simp at hq ⊢; try omega) (by intro q hq; simp at hq ⊢; try omega))
          refine fo_if fo_eq Q (fun Q => ?_) (fun Q => ?_)
          · obtain ⟨m, hm, hR⟩ := Q
            exact (ih m hm).2.2 _ _ _ hR (gxo.wr o1 (by simp))
          · obtain ⟨m, hm, hR⟩ := Q
            exact (ih m hm).2.2 _ _ _ hR (gxo.wr (gxo.wr o1 (by simp)) (by simp))
  have Q := q_Ro_fillTable_0 h
  obtain ⟨m, hm, hR⟩ := Q
  exact (lp m).1 _ _ hR gxo.rf
theorem w_Ro_growLevel {p a1 a2 : Nat} {F : fx_F} {v : fx_V} {F' : fx_F} (h : Cl k_Ro_growLevel [(2, p), (0, a1), (0, a2)] F v F') : gxo [p + 1] [] F F' := by
  obtain ⟨n, h⟩ := c_Ro_growLevel h
  have lp : ∀ n : Nat, (∀ (l1 l2 l3 l4 : Nat) (F2 : fx_F), Rn n k_Ro_growLevel 5 [(2, p), (0, l1), (0, l2), (0, l3), (0, l4), (3, 0), (3, 0)] [] F2 v F' → gxo [p + 1] [] F F2 → gxo [p + 1] [] F F') := by
    intro n
    induction n using Nat.strongRecOn with
    | ind n ih =>
      refine fun l1 l2 l3 l4 F2 h ho => ?_
      · have Q := q_Ro_growLevel_5 h
        clear h
        refine fo_if fo_le Q (fun Q => ?_) (fun Q => ?_)
        · rw [Q.2]; exact ho
        · refine fo_if fo_ne Q (fun Q => ?_) (fun Q => ?_)
          · obtain ⟨m, hm, hR⟩ := Q
            exact (ih m hm) _ _ _ _ _ hR ho
          · refine fo_if fo_ne Q (fun Q => ?_) (fun Q => ?_)
            · refine fo_if fo_ne Q (fun Q => ?_) (fun Q => ?_)
              · refine fo_if fo_eq Q (fun Q => ?_) (fun Q => ?_)
                · refine fo_if fo_ne Q (fun Q => ?_) (fun Q => ?_)
                  · obtain ⟨m, hm, hR⟩ := Q
                    exact (ih m hm) _ _ _ _ _ hR ho
                  · refine fo_if fo_eq Q (fun Q => ?_) (fun Q => ?_)
                    · obtain ⟨m, hm, hR⟩ := Q
                      exact (ih m hm) _ _ _ _ _ hR (gxo.wr ho (by simp))
                    · obtain ⟨m, hm, hR⟩ := Q
                      exact (ih m hm) _ _ _ _ _ hR ho
                · refine fo_if fo_ne Q (fun Q => ?_) (fun Q => ?_)
                  · obtain ⟨m, hm, hR⟩ := Q
                    exact (ih m hm) _ _ _ _ _ hR ho
                  · refine fo_if fo_eq Q (fun Q => ?_) (fun Q => ?_)
                    · obtain ⟨m, hm, hR⟩ := Q
                      exact (ih m hm) _ _ _ _ _ hR (gxo.wr ho (by simp))
                    · obtain ⟨m, hm, hR⟩ := Q
                      exact (ih m hm) _ _ _ _ _ hR ho
              · refine fo_if fo_eq Q (fun Q => ?_) (fun Q => ?_)
                · refine fo_if fo_ne Q (fun Q => ?_) (fun Q => ?_)
                  · obtain ⟨m, hm, hR⟩ := Q
                    exact (ih m hm) _ _ _ _ _ hR (gxo.wr ho (by simp))
                  · refine fo_if fo_eq Q (fun Q => ?_) (fun Q => ?_)
                    · obtain ⟨m, hm, hR⟩ := Q
                      exact (ih m hm) _ _ _ _ _ hR (gxo.wr (gxo.wr ho (by simp)) (by simp))
                    · obtain ⟨m, hm, hR⟩ := Q
                      exact (ih m hm) _ _ _ _ _ hR (gxo.wr ho (by simp))
                · refine fo_if fo_eq Q (fun Q => ?_) (fun Q => ?_)
                  · refine fo_if fo_ne Q (fun Q => ?_) (fun Q => ?_)
                    · obtain ⟨m, hm, hR⟩ := Q
                      exact (ih m hm) _ _ _ _ _ hR ho
                    · refine fo_if fo_eq Q (fun Q => ?_) (fun Q => ?_)
                      · obtain ⟨m, hm, hR⟩ := Q
                        exact (ih m hm) _ _ _ _ _ hR (gxo.wr ho (by simp))
                      · obtain ⟨m, hm, hR⟩ := Q
                        exact (ih m hm) _ _ _ _ _ hR ho
                  · refine fo_if fo_ne Q (fun Q => ?_) (fun Q => ?_)
                    · obtain ⟨m, hm, hR⟩ := Q
                      exact (ih m hm) _ _ _ _ _ hR ho
                    · refine fo_if fo_eq Q (fun Q => ?_) (fun Q => ?_)
                      · obtain ⟨m, hm, hR⟩ := Q
                        exact (ih m hm) _ _ _ _ _ hR (gxo.wr ho (by simp))
                      · obtain ⟨m, hm, hR⟩ := Q
                        exact (ih m hm) _ _ _ _ _ hR ho
            · refine fo_if fo_ne Q (fun Q => ?_) (fun Q => ?_)
              · refine fo_if fo_eq Q (fun Q => ?_) (fun Q => ?_)
                · obtain ⟨m, hm, hR⟩ := Q
                  exact (ih m hm) _ _ _ _ _ hR ho
                · obtain ⟨m, hm, hR⟩ := Q
                  exact (ih m hm) _ _ _ _ _ hR ho
              · refine fo_if fo_eq Q (fun Q => ?_) (fun Q => ?_)
                · obtain ⟨m, hm, hR⟩ := Q
                  exact (ih m hm) _ _ _ _ _ hR (gxo.wr ho (by simp))
                · refine fo_if fo_eq Q (fun Q => ?_) (fun Q => ?_)
                  · obtain ⟨m, hm, hR⟩ := Q
                    exact (ih m hm) _ _ _ _ _ hR ho
                  · obtain ⟨m, hm, hR⟩ := Q
                    exact (ih m hm) _ _ _ _ _ hR ho
  have Q := q_Ro_growLevel_0 h
  obtain ⟨m, hm, hR⟩ := Q
  exact (lp m) _ _ _ _ _ hR gxo.rf
theorem w_Ro_measure {p a1 : Nat} {F : fx_F} {v : fx_V} {F' : fx_F} (h : Cl k_Ro_measure [(2, p), (0, a1)] F v F') : gxo [p + 1] [] F F' := by
  obtain ⟨n, h⟩ := c_Ro_measure h
  have lp : ∀ n : Nat, (∀ (l1 l2 l3 : Nat) (F2 : fx_F), Rn n k_Ro_measure 7 [(2, p), (0, l1), (0, l2), (0, l3), (3, 0)] [] F2 v F' → gxo [p + 1] [] F F2 → gxo [p + 1] [] F F') ∧ (∀ (l2 l3 l4 : Nat) (F2 : fx_F), Rn n k_Ro_measure 57 [(2, p), (3, 0), (0, l2), (0, l3), (0, l4)] [] F2 v F' → gxo [p + 1] [] F F2 → gxo [p + 1] [] F F') := by
    intro n
    induction n using Nat.strongRecOn with
    | ind n ih =>
      refine ⟨fun l1 l2 l3 F2 h ho => ?_, fun l2 l3 l4 F2 h ho => ?_⟩
      · have Q := q_Ro_measure_7 h
        clear h
        refine fo_if fo_le Q (fun Q => ?_) (fun Q => ?_)
        · obtain ⟨m, hm, hR⟩ := Q
          exact (ih m hm).2 _ _ _ _ hR (gxo.wr (gxo.wr ho (by simp)) (by simp))
        · obtain ⟨m, hm, hR⟩ := Q
          exact (ih m hm).1 _ _ _ _ hR (gxo.wr ho (by simp))
      · have Q := q_Ro_measure_57 h
        clear h
        refine fo_if fo_lt Q (fun Q => ?_) (fun Q => ?_)
        · rw [Q.2]; exact ho
        · refine fo_if fo_eq Q (fun Q => ?_) (fun Q => ?_)
          · rw [Q.2]; exact ho
          · obtain ⟨r1, H1, c1, Q⟩ := Q
            have o1 : gxo [p + 1] [] F H1 := gxo.tr ho (gxo.mono (w_Ro_growLevel c1) (by intro q hq; simp at hq ⊢; try omega) (by intro q hq; simp at hq ⊢; try omega))
            obtain ⟨m, hm, hR⟩ := Q
            exact (ih m hm).2 _ _ _ _ hR o1
  have Q := q_Ro_measure_0 h
  obtain ⟨m, hm, hR⟩ := Q
  exact (lp m).1 _ _ _ _ hR gxo.rf
theorem w_Ro_see {p a1 a2 : Nat} {F : fx_F} {v : fx_V} {F' : fx_F} (h : Cl k_Ro_see [(2, p), (0, a1), (0, a2)] F v F') : gxo [p, p + 5, p + 1] [] F F' := by
  obtain ⟨n, h⟩ := c_Ro_see h
  have lp : ∀ n : Nat, (∀ (l3 : Nat) (F2 : fx_F), Rn n k_Ro_see 36 [(2, p), (3, 0), (3, 0), (0, l3)] [] F2 v F' → gxo [p, p + 5, p + 1] [] F F2 → gxo [p, p + 5, p + 1] [] F F') ∧ (∀ (l3 : Nat) (F2 : fx_F), Rn n k_Ro_see 77 [(2, p), (3, 0), (3, 0), (0, l3)] [] F2 v F' → gxo [p, p + 5, p + 1] [] F F2 → gxo [p, p + 5, p + 1] [] F F') := by
    intro n
    induction n using Nat.strongRecOn with
    | ind n ih =>
      refine ⟨fun l3 F2 h ho => ?_, fun l3 F2 h ho => ?_⟩
      · have Q := q_Ro_see_36 h
        clear h
        refine fo_if fo_le Q (fun Q => ?_) (fun Q => ?_)
        · obtain ⟨m, hm, hR⟩ := Q
          exact (ih m hm).2 _ _ hR ho
        · refine fo_if fo_eq Q (fun Q => ?_) (fun Q => ?_)
          · obtain ⟨m, hm, hR⟩ := Q
            exact (ih m hm).1 _ _ hR (gxo.wr ho (by simp))
          · obtain ⟨m, hm, hR⟩ := Q
            exact (ih m hm).1 _ _ hR (gxo.wr ho (by simp))
      · have Q := q_Ro_see_77 h
        clear h
        refine fo_if fo_le Q (fun Q => ?_) (fun Q => ?_)
        · rw [Q.2]; exact (gxo.wr (gxo.wr ho (by simp)) (by simp))
        · obtain ⟨H1, c1, Q⟩ := Q
          have o1 : gxo [p, p + 5, p + 1] [] F H1 := gxo.tr ho (gxo.mono (w_Ro_measure c1) (by intro q hq; simp at hq ⊢; try omega) (by intro q hq; simp at hq ⊢; try omega))
          obtain ⟨m, hm, hR⟩ := Q
          exact (ih m hm).2 _ _ hR o1
  have Q := q_Ro_see_0 h
  refine fo_if fo_eq Q (fun Q => ?_) (fun Q => ?_)
  · obtain ⟨m, hm, hR⟩ := Q
    exact (lp m).1 _ _ hR (gxo.wr (gxo.wr gxo.rf (by simp)) (by simp))
  · refine fo_if fo_ne Q (fun Q => ?_) (fun Q => ?_)
    · obtain ⟨m, hm, hR⟩ := Q
      exact (lp m).1 _ _ hR (gxo.wr (gxo.wr gxo.rf (by simp)) (by simp))
    · refine fo_if fo_ne Q (fun Q => ?_) (fun Q => ?_)
      · obtain ⟨m, hm, hR⟩ := Q
        exact (lp m).1 _ _ hR (gxo.wr (gxo.wr gxo.rf (by simp)) (by simp))
      · rw [Q.2]; exact gxo.rf
theorem w_Ro_seeTable {p a1 a2 : Nat} {F : fx_F} {v : fx_V} {F' : fx_F} (h : Cl k_Ro_seeTable [(2, p), (0, a1), (0, a2)] F v F') : gxo [p, p + 5, p + 1, p + 3, p + 2, p + 4] [] F F' := by
  obtain ⟨n, h⟩ := c_Ro_seeTable h
  have Q := q_Ro_seeTable_0 h
  obtain ⟨H1, c1, Q⟩ := Q
  have o1 : gxo [p, p + 5, p + 1, p + 3, p + 2, p + 4] [] F H1 := gxo.tr gxo.rf (gxo.mono (w_Ro_see c1) (by intro q hq; simp at hq ⊢; try omega) (by intro q hq; simp at hq ⊢; try omega))
  refine fo_if fo_ne Q (fun Q => ?_) (fun Q => ?_)
  · rw [Q.2]; exact o1
  · obtain ⟨H2, c2, Q⟩ := Q
    have o2 : gxo [p, p + 5, p + 1, p + 3, p + 2, p + 4] [] F H2 := gxo.tr o1 (gxo.mono (w_Ro_fillTable c2) (by intro q hq; simp at hq ⊢; try omega) (by intro q hq; simp at hq ⊢; try omega))
    obtain ⟨H3, c3, Q⟩ := Q
    have o3 : gxo [p, p + 5, p + 1, p + 3, p + 2, p + 4] [] F H3 := gxo.tr o2 (gxo.mono (w_Ro_countLoads c3) (by intro q hq; simp at hq ⊢; try omega) (by intro q hq; simp at hq ⊢; try omega))
    rw [Q.2]; exact (gxo.wr o3 (by simp))
theorem w_St_countPackets {p : Nat} {F : fx_F} {v : fx_V} {F' : fx_F} (h : Cl k_St_countPackets [(2, p)] F v F') : gxo [] [] F F' := by
  obtain ⟨n, h⟩ := c_St_countPackets h
  have lp : ∀ n : Nat, (∀ (l1 l2 : Nat) (F2 : fx_F), Rn n k_St_countPackets 4 [(2, p), (0, l1), (0, l2)] [] F2 v F' → gxo [] [] F F2 → gxo [] [] F F') := by
    intro n
    induction n using Nat.strongRecOn with
    | ind n ih =>
      refine fun l1 l2 F2 h ho => ?_
      · have Q := q_St_countPackets_4 h
        clear h
        refine fo_if fo_le Q (fun Q => ?_) (fun Q => ?_)
        · rw [Q.2]; exact ho
        · refine fo_if fo_eq Q (fun Q => ?_) (fun Q => ?_)
          · obtain ⟨m, hm, hR⟩ := Q
            exact (ih m hm) _ _ _ hR ho
          · obtain ⟨m, hm, hR⟩ := Q
            exact (ih m hm) _ _ _ hR ho
  have Q := q_St_countPackets_0 h
  obtain ⟨m, hm, hR⟩ := Q
  exact (lp m) _ _ _ hR gxo.rf
theorem w_T_runEmpty {F : fx_F} {v : fx_V} {F' : fx_F} (h : Cl k_T_runEmpty [(2, 2)] F v F') : gxo [24, 29, 25, 27, 26, 28, 50, 153, 157, 156, 154] [] F F' := by
  obtain ⟨n, h⟩ := c_T_runEmpty h
  have lp : ∀ n : Nat, (∀ (l1 : Nat) (F2 : fx_F), Rn n k_T_runEmpty 30 [(2, 2), (0, l1), (3, 0)] [] F2 v F' → gxo [24, 29, 25, 27, 26, 28, 50, 153, 157, 156, 154] [] F F2 → gxo [24, 29, 25, 27, 26, 28, 50, 153, 157, 156, 154] [] F F') := by
    intro n
    induction n using Nat.strongRecOn with
    | ind n ih =>
      refine fun l1 F2 h ho => ?_
      · have Q := q_T_runEmpty_30 h
        clear h
        refine fo_if fo_le Q (fun Q => ?_) (fun Q => ?_)
        · rw [Q.2]; exact ho
        · obtain ⟨r1, H1, c1, Q⟩ := Q
          have o1 : gxo [24, 29, 25, 27, 26, 28, 50, 153, 157, 156, 154] [] F H1 := gxo.tr ho (gxo.mono (w_St_countPackets c1) (by intro q hq; simp at hq ⊢; try omega) (by intro q hq; simp at hq ⊢; try omega))
          refine fo_if fo_ne Q (fun Q => ?_) (fun Q => ?_)
          · obtain ⟨H2, c2, Q⟩ := Q
            have o2 : gxo [24, 29, 25, 27, 26, 28, 50, 153, 157, 156, 154] [] F H2 := gxo.tr o1 (gxo.mono (w_Tr_goStep c2) (by intro q hq; simp at hq ⊢; try omega) (by intro q hq; simp at hq ⊢; try omega))
            refine fo_if fo_ne Q (fun Q => ?_) (fun Q => ?_)
            · obtain ⟨m, hm, hR⟩ := Q
              exact (ih m hm) _ _ hR o2
            · rw [Q.2]; exact o2
          · rw [Q.2]; exact o1
  have Q := q_T_runEmpty_0 h
  obtain ⟨H1, c1, Q⟩ := Q
  have o1 : gxo [24, 29, 25, 27, 26, 28, 50, 153, 157, 156, 154] [] F H1 := gxo.tr gxo.rf (gxo.mono (w_Ro_seeTable c1) (by intro q hq; simp at hq ⊢; try omega) (by intro q hq; simp at hq ⊢; try omega))
  obtain ⟨m, hm, hR⟩ := Q
  exact (lp m) _ _ hR (gxo.wr (gxo.wr o1 (by simp)) (by simp))
theorem w_St_copyFrom {p a1 : Nat} {F : fx_F} {v : fx_V} {F' : fx_F} (h : Cl k_St_copyFrom [(2, p), (2, a1)] F v F') : gxo [p + 4, p + 3, p + 2, p + 1, p] [] F F' := by
  obtain ⟨n, h⟩ := c_St_copyFrom h
  have Q := q_St_copyFrom_0 h
  rw [Q.2]; exact (gxo.cp (gxo.cp (gxo.cp (gxo.cp (gxo.wr (gxo.wr (gxo.wr (gxo.wr (gxo.wr gxo.rf (by simp)) (by simp)) (by simp)) (by simp)) (by simp)) (by simp)) (by simp)) (by simp)) (by simp))
theorem w_St_countAt {p a1 : Nat} {F : fx_F} {v : fx_V} {F' : fx_F} (h : Cl k_St_countAt [(2, p), (0, a1)] F v F') : gxo [] [] F F' := by
  obtain ⟨n, h⟩ := c_St_countAt h
  have lp : ∀ n : Nat, (∀ (l1 l2 l3 : Nat) (F2 : fx_F), Rn n k_St_countAt 4 [(2, p), (0, l1), (0, l2), (0, l3)] [] F2 v F' → gxo [] [] F F2 → gxo [] [] F F') := by
    intro n
    induction n using Nat.strongRecOn with
    | ind n ih =>
      refine fun l1 l2 l3 F2 h ho => ?_
      · have Q := q_St_countAt_4 h
        clear h
        refine fo_if fo_le Q (fun Q => ?_) (fun Q => ?_)
        · rw [Q.2]; exact ho
        · refine fo_if fo_ne Q (fun Q => ?_) (fun Q => ?_)
          · obtain ⟨m, hm, hR⟩ := Q
            exact (ih m hm) _ _ _ _ hR ho
          · obtain ⟨m, hm, hR⟩ := Q
            exact (ih m hm) _ _ _ _ hR ho
  have Q := q_St_countAt_0 h
  obtain ⟨m, hm, hR⟩ := Q
  exact (lp m) _ _ _ _ hR gxo.rf
theorem w_Ro_pairsWithout {p : Nat} {F : fx_F} {v : fx_V} {F' : fx_F} (h : Cl k_Ro_pairsWithout [(2, p)] F v F') : gxo [] [] F F' := by
  obtain ⟨n, h⟩ := c_Ro_pairsWithout h
  have lp : ∀ n : Nat, (∀ (l1 l2 : Nat) (F2 : fx_F), Rn n k_Ro_pairsWithout 4 [(2, p), (0, l1), (0, l2), (3, 0)] [] F2 v F' → gxo [] [] F F2 → gxo [] [] F F') ∧ (∀ (l1 l2 l3 : Nat) (F2 : fx_F), Rn n k_Ro_pairsWithout 17 [(2, p), (0, l1), (0, l2), (0, l3)] [] F2 v F' → gxo [] [] F F2 → gxo [] [] F F') := by
    intro n
    induction n using Nat.strongRecOn with
    | ind n ih =>
      refine ⟨fun l1 l2 F2 h ho => ?_, fun l1 l2 l3 F2 h ho => ?_⟩
      · have Q := q_Ro_pairsWithout_4 h
        clear h
        refine fo_if fo_le Q (fun Q => ?_) (fun Q => ?_)
        · rw [Q.2]; exact ho
        · obtain ⟨m, hm, hR⟩ := Q
          exact (ih m hm).2 _ _ _ _ hR ho
      · have Q := q_Ro_pairsWithout_17 h
        clear h
        refine fo_if fo_le Q (fun Q => ?_) (fun Q => ?_)
        · obtain ⟨m, hm, hR⟩ := Q
          exact (ih m hm).1 _ _ _ hR ho
        · refine fo_if fo_ne Q (fun Q => ?_) (fun Q => ?_)
          · obtain ⟨m, hm, hR⟩ := Q
            exact (ih m hm).2 _ _ _ _ hR ho
          · obtain ⟨m, hm, hR⟩ := Q
            exact (ih m hm).2 _ _ _ _ hR ho
  have Q := q_Ro_pairsWithout_0 h
  obtain ⟨m, hm, hR⟩ := Q
  exact (lp m).1 _ _ _ hR gxo.rf
theorem w_Ro_hopsTogether {p : Nat} {F : fx_F} {v : fx_V} {F' : fx_F} (h : Cl k_Ro_hopsTogether [(2, p)] F v F') : gxo [] [] F F' := by
  obtain ⟨n, h⟩ := c_Ro_hopsTogether h
  have lp : ∀ n : Nat, (∀ (l1 l2 : Nat) (F2 : fx_F), Rn n k_Ro_hopsTogether 4 [(2, p), (0, l1), (0, l2), (3, 0)] [] F2 v F' → gxo [] [] F F2 → gxo [] [] F F') ∧ (∀ (l1 l2 l3 : Nat) (F2 : fx_F), Rn n k_Ro_hopsTogether 17 [(2, p), (0, l1), (0, l2), (0, l3)] [] F2 v F' → gxo [] [] F F2 → gxo [] [] F F') := by
    intro n
    induction n using Nat.strongRecOn with
    | ind n ih =>
      refine ⟨fun l1 l2 F2 h ho => ?_, fun l1 l2 l3 F2 h ho => ?_⟩
      · have Q := q_Ro_hopsTogether_4 h
        clear h
        refine fo_if fo_le Q (fun Q => ?_) (fun Q => ?_)
        · rw [Q.2]; exact ho
        · obtain ⟨m, hm, hR⟩ := Q
          exact (ih m hm).2 _ _ _ _ hR ho
      · have Q := q_Ro_hopsTogether_17 h
        clear h
        refine fo_if fo_le Q (fun Q => ?_) (fun Q => ?_)
        · obtain ⟨m, hm, hR⟩ := Q
          exact (ih m hm).1 _ _ _ hR ho
        · obtain ⟨m, hm, hR⟩ := Q
          exact (ih m hm).2 _ _ _ _ hR ho
  have Q := q_Ro_hopsTogether_0 h
  obtain ⟨m, hm, hR⟩ := Q
  exact (lp m).1 _ _ _ hR gxo.rf
theorem w_Ro_heaviestChannel {p : Nat} {F : fx_F} {v : fx_V} {F' : fx_F} (h : Cl k_Ro_heaviestChannel [(2, p)] F v F') : gxo [] [] F F' := by
  obtain ⟨n, h⟩ := c_Ro_heaviestChannel h
  have lp : ∀ n : Nat, (∀ (l1 l2 : Nat) (F2 : fx_F), Rn n k_Ro_heaviestChannel 4 [(2, p), (0, l1), (0, l2)] [] F2 v F' → gxo [] [] F F2 → gxo [] [] F F') := by
    intro n
    induction n using Nat.strongRecOn with
    | ind n ih =>
      refine fun l1 l2 F2 h ho => ?_
      · have Q := q_Ro_heaviestChannel_4 h
        clear h
        refine fo_if fo_le Q (fun Q => ?_) (fun Q => ?_)
        · rw [Q.2]; exact ho
        · refine fo_if fo_le Q (fun Q => ?_) (fun Q => ?_)
          · obtain ⟨m, hm, hR⟩ := Q
            exact (ih m hm) _ _ _ hR ho
          · obtain ⟨m, hm, hR⟩ := Q
            exact (ih m hm) _ _ _ hR ho
  have Q := q_Ro_heaviestChannel_0 h
  obtain ⟨m, hm, hR⟩ := Q
  exact (lp m) _ _ _ hR gxo.rf
theorem w_Gr_pairsWithout {F : fx_F} {v : fx_V} {F' : fx_F} (h : Cl k_Gr_pairsWithout [(2, 40)] F v F') : gxo [] [] F F' := by
  obtain ⟨n, h⟩ := c_Gr_pairsWithout h
  have lp : ∀ n : Nat, (∀ (l1 l2 : Nat) (F2 : fx_F), Rn n k_Gr_pairsWithout 4 [(2, 40), (0, l1), (0, l2), (3, 0)] [] F2 v F' → gxo [] [] F F2 → gxo [] [] F F') ∧ (∀ (l1 l2 l3 : Nat) (F2 : fx_F), Rn n k_Gr_pairsWithout 17 [(2, 40), (0, l1), (0, l2), (0, l3)] [] F2 v F' → gxo [] [] F F2 → gxo [] [] F F') := by
    intro n
    induction n using Nat.strongRecOn with
    | ind n ih =>
      refine ⟨fun l1 l2 F2 h ho => ?_, fun l1 l2 l3 F2 h ho => ?_⟩
      · have Q := q_Gr_pairsWithout_4 h
        clear h
        refine fo_if fo_le Q (fun Q => ?_) (fun Q => ?_)
        · rw [Q.2]; exact ho
        · obtain ⟨m, hm, hR⟩ := Q
          exact (ih m hm).2 _ _ _ _ hR ho
      · have Q := q_Gr_pairsWithout_17 h
        clear h
        refine fo_if fo_le Q (fun Q => ?_) (fun Q => ?_)
        · obtain ⟨m, hm, hR⟩ := Q
          exact (ih m hm).1 _ _ _ hR ho
        · refine fo_if fo_ne Q (fun Q => ?_) (fun Q => ?_)
          · obtain ⟨m, hm, hR⟩ := Q
            exact (ih m hm).2 _ _ _ _ hR ho
          · obtain ⟨m, hm, hR⟩ := Q
            exact (ih m hm).2 _ _ _ _ hR ho
  have Q := q_Gr_pairsWithout_0 h
  obtain ⟨m, hm, hR⟩ := Q
  exact (lp m).1 _ _ _ hR gxo.rf
theorem w_T_hopsWhereWays {F : fx_F} {v : fx_V} {F' : fx_F} (h : Cl k_T_hopsWhereWays [(2, 2)] F v F') : gxo [] [] F F' := by
  obtain ⟨n, h⟩ := c_T_hopsWhereWays h
  have lp : ∀ n : Nat, (∀ (l1 l2 : Nat) (F2 : fx_F), Rn n k_T_hopsWhereWays 4 [(2, 2), (0, l1), (0, l2), (3, 0)] [] F2 v F' → gxo [] [] F F2 → gxo [] [] F F') ∧ (∀ (l1 l2 l3 : Nat) (F2 : fx_F), Rn n k_T_hopsWhereWays 17 [(2, 2), (0, l1), (0, l2), (0, l3)] [] F2 v F' → gxo [] [] F F2 → gxo [] [] F F') := by
    intro n
    induction n using Nat.strongRecOn with
    | ind n ih =>
      refine ⟨fun l1 l2 F2 h ho => ?_, fun l1 l2 l3 F2 h ho => ?_⟩
      · have Q := q_T_hopsWhereWays_4 h
        clear h
        refine fo_if fo_le Q (fun Q => ?_) (fun Q => ?_)
        · rw [Q.2]; exact ho
        · obtain ⟨m, hm, hR⟩ := Q
          exact (ih m hm).2 _ _ _ _ hR ho
      · have Q := q_T_hopsWhereWays_17 h
        clear h
        refine fo_if fo_le Q (fun Q => ?_) (fun Q => ?_)
        · obtain ⟨m, hm, hR⟩ := Q
          exact (ih m hm).1 _ _ _ hR ho
        · refine fo_if fo_le Q (fun Q => ?_) (fun Q => ?_)
          · obtain ⟨m, hm, hR⟩ := Q
            exact (ih m hm).2 _ _ _ _ hR ho
          · obtain ⟨m, hm, hR⟩ := Q
            exact (ih m hm).2 _ _ _ _ hR ho
  have Q := q_T_hopsWhereWays_0 h
  obtain ⟨m, hm, hR⟩ := Q
  exact (lp m).1 _ _ _ hR gxo.rf
theorem w_Or_countLinks {a1 : Nat} {F : fx_F} {v : fx_V} {F' : fx_F} (h : Cl k_Or_countLinks [(2, 19), (0, a1)] F v F') : gxo [21] [] F F' := by
  obtain ⟨n, h⟩ := c_Or_countLinks h
  have lp : ∀ n : Nat, (∀ (l1 l2 : Nat) (F2 : fx_F), Rn n k_Or_countLinks 2 [(2, 19), (0, l1), (0, l2)] [] F2 v F' → gxo [21] [] F F2 → gxo [21] [] F F') ∧ (∀ (l1 l2 : Nat) (F2 : fx_F), Rn n k_Or_countLinks 28 [(2, 19), (0, l1), (0, l2)] [] F2 v F' → gxo [21] [] F F2 → gxo [21] [] F F') := by
    intro n
    induction n using Nat.strongRecOn with
    | ind n ih =>
      refine ⟨fun l1 l2 F2 h ho => ?_, fun l1 l2 F2 h ho => ?_⟩
      · have Q := q_Or_countLinks_2 h
        clear h
        refine fo_if fo_le Q (fun Q => ?_) (fun Q => ?_)
        · obtain ⟨m, hm, hR⟩ := Q
          exact (ih m hm).2 _ _ _ hR ho
        · obtain ⟨m, hm, hR⟩ := Q
          exact (ih m hm).1 _ _ _ hR (gxo.wr ho (by simp))
      · have Q := q_Or_countLinks_28 h
        clear h
        refine fo_if fo_le Q (fun Q => ?_) (fun Q => ?_)
        · rw [Q.2]; exact ho
        · refine fo_if fo_ne Q (fun Q => ?_) (fun Q => ?_)
          · obtain ⟨m, hm, hR⟩ := Q
            exact (ih m hm).2 _ _ _ hR ho
          · obtain ⟨m, hm, hR⟩ := Q
            exact (ih m hm).2 _ _ _ hR (gxo.wr ho (by simp))
  have Q := q_Or_countLinks_0 h
  obtain ⟨m, hm, hR⟩ := Q
  exact (lp m).1 _ _ _ hR gxo.rf
theorem w_Or_evaluate {a1 : Nat} {F : fx_F} {v : fx_V} {F' : fx_F} (h : Cl k_Or_evaluate [(2, 19), (0, a1)] F v F') : gxo [23] [] F F' := by
  obtain ⟨n, h⟩ := c_Or_evaluate h
  have lp : ∀ n : Nat, (∀ (l1 l2 l3 : Nat) (F2 : fx_F), Rn n k_Or_evaluate 4 [(2, 19), (0, l1), (0, l2), (0, l3), (3, 0)] [] F2 v F' → gxo [23] [] F F2 → gxo [23] [] F F') := by
    intro n
    induction n using Nat.strongRecOn with
    | ind n ih =>
      refine fun l1 l2 l3 F2 h ho => ?_
      · have Q := q_Or_evaluate_4 h
        clear h
        refine fo_if fo_le Q (fun Q => ?_) (fun Q => ?_)
        · rw [Q.2]; exact ho
        · refine fo_if fo_ne Q (fun Q => ?_) (fun Q => ?_)
          · refine fo_if fo_le Q (fun Q => ?_) (fun Q => ?_)
            · refine fo_if fo_lt Q (fun Q => ?_) (fun Q => ?_)
              · obtain ⟨m, hm, hR⟩ := Q
                exact (ih m hm) _ _ _ _ hR ho
              · rcases (fo_sw42_48 ((F2 8 l3))) with z | z | z | z | z | z | z
                · have Q := Q.1 z
                  refine fo_if fo_ne Q (fun Q => ?_) (fun Q => ?_)
                  · obtain ⟨m, hm, hR⟩ := Q
                    exact (ih m hm) _ _ _ _ hR (gxo.wr ho (by simp))
                  · obtain ⟨m, hm, hR⟩ := Q
                    exact (ih m hm) _ _ _ _ hR (gxo.wr ho (by simp))
                · have Q := Q.2.1 z
                  obtain ⟨m, hm, hR⟩ := Q
                  exact (ih m hm) _ _ _ _ hR (gxo.wr ho (by simp))
                · have Q := Q.2.2.1 z
                  obtain ⟨m, hm, hR⟩ := Q
                  exact (ih m hm) _ _ _ _ hR (gxo.wr ho (by simp))
                · have Q := Q.2.2.2.1 z
                  refine fo_if fo_ne Q (fun Q => ?_) (fun Q => ?_)
                  · obtain ⟨m, hm, hR⟩ := Q
                    exact (ih m hm) _ _ _ _ hR (gxo.wr ho (by simp))
                  · obtain ⟨m, hm, hR⟩ := Q
                    exact (ih m hm) _ _ _ _ hR (gxo.wr ho (by simp))
                · have Q := Q.2.2.2.2.1 z
                  obtain ⟨m, hm, hR⟩ := Q
                  exact (ih m hm) _ _ _ _ hR (gxo.wr ho (by simp))
                · have Q := Q.2.2.2.2.2.1 z
                  refine fo_if fo_ne Q (fun Q => ?_) (fun Q => ?_)
                  · obtain ⟨m, hm, hR⟩ := Q
                    exact (ih m hm) _ _ _ _ hR (gxo.wr ho (by simp))
                  · obtain ⟨m, hm, hR⟩ := Q
                    exact (ih m hm) _ _ _ _ hR (gxo.wr ho (by simp))
                · have Q := Q.2.2.2.2.2.2.1 z
                  refine fo_if fo_ne Q (fun Q => ?_) (fun Q => ?_)
                  · obtain ⟨m, hm, hR⟩ := Q
                    exact (ih m hm) _ _ _ _ hR (gxo.wr ho (by simp))
                  · obtain ⟨m, hm, hR⟩ := Q
                    exact (ih m hm) _ _ _ _ hR (gxo.wr ho (by simp))
            · refine fo_if fo_le Q (fun Q => ?_) (fun Q => ?_)
              · obtain ⟨m, hm, hR⟩ := Q
                exact (ih m hm) _ _ _ _ hR ho
              · rcases (fo_sw2_5 ((F2 8 l3))) with z | z | z | z
                · have Q := Q.1 z
                  obtain ⟨m, hm, hR⟩ := Q
                  exact (ih m hm) _ _ _ _ hR (gxo.wr ho (by simp))
                · have Q := Q.2.1 z
                  obtain ⟨m, hm, hR⟩ := Q
                  exact (ih m hm) _ _ _ _ hR (gxo.wr ho (by simp))
                · have Q := Q.2.2.1 z
                  obtain ⟨m, hm, hR⟩ := Q
                  exact (ih m hm) _ _ _ _ hR (gxo.wr ho (by simp))
                · have Q := Q.2.2.2.1 z
                  obtain ⟨m, hm, hR⟩ := Q
                  exact (ih m hm) _ _ _ _ hR (gxo.wr ho (by simp))
          · refine fo_if fo_lt Q (fun Q => ?_) (fun Q => ?_)
            · obtain ⟨m, hm, hR⟩ := Q
              exact (ih m hm) _ _ _ _ hR ho
            · obtain ⟨m, hm, hR⟩ := Q
              exact (ih m hm) _ _ _ _ hR (gxo.wr ho (by simp))
  have Q := q_Or_evaluate_0 h
  obtain ⟨m, hm, hR⟩ := Q
  exact (lp m) _ _ _ _ hR gxo.rf
theorem w_Or_rate {a1 a2 : Nat} {F : fx_F} {v : fx_V} {F' : fx_F} (h : Cl k_Or_rate [(2, 19), (0, a1), (0, a2)] F v F') : gxo [21, 20, 23, 22] [] F F' := by
  obtain ⟨n, h⟩ := c_Or_rate h
  have lp : ∀ n : Nat, (∀ (l3 : Nat) (F2 : fx_F), Rn n k_Or_rate 21 [(2, 19), (3, 0), (3, 0), (0, l3)] [] F2 v F' → gxo [21, 20, 23, 22] [] F F2 → gxo [21, 20, 23, 22] [] F F') := by
    intro n
    induction n using Nat.strongRecOn with
    | ind n ih =>
      refine fun l3 F2 h ho => ?_
      · have Q := q_Or_rate_21 h
        clear h
        refine fo_if fo_le Q (fun Q => ?_) (fun Q => ?_)
        · rw [Q.2]; exact ho
        · refine fo_if fo_ne Q (fun Q => ?_) (fun Q => ?_)
          · refine fo_if fo_ne Q (fun Q => ?_) (fun Q => ?_)
            · obtain ⟨r1, H1, c1, Q⟩ := Q
              have o1 : gxo [21, 20, 23, 22] [] F H1 := gxo.tr ho (gxo.mono (w_Or_evaluate c1) (by intro q hq; simp at hq ⊢; try omega) (by intro q hq; simp at hq ⊢; try omega))
              obtain ⟨m, hm, hR⟩ := Q
              exact (ih m hm) _ _ hR (gxo.wr o1 (by simp))
            · obtain ⟨m, hm, hR⟩ := Q
              exact (ih m hm) _ _ hR (gxo.wr ho (by simp))
          · refine fo_if fo_ne Q (fun Q => ?_) (fun Q => ?_)
            · obtain ⟨r2, H2, c2, Q⟩ := Q
              have o2 : gxo [21, 20, 23, 22] [] F H2 := gxo.tr (gxo.wr ho (by simp)) (gxo.mono (w_Or_evaluate c2) (by intro q hq; simp at hq ⊢; try omega) (by intro q hq; simp at hq ⊢; try omega))
              obtain ⟨m, hm, hR⟩ := Q
              exact (ih m hm) _ _ hR (gxo.wr o2 (by simp))
            · obtain ⟨m, hm, hR⟩ := Q
              exact (ih m hm) _ _ hR (gxo.wr (gxo.wr ho (by simp)) (by simp))
  have Q := q_Or_rate_0 h
  obtain ⟨H1, c1, Q⟩ := Q
  have o1 : gxo [21, 20, 23, 22] [] F H1 := gxo.tr gxo.rf (gxo.mono (w_Or_countLinks c1) (by intro q hq; simp at hq ⊢; try omega) (by intro q hq; simp at hq ⊢; try omega))
  obtain ⟨H2, c2, Q⟩ := Q
  have o2 : gxo [21, 20, 23, 22] [] F H2 := gxo.tr o1 (gxo.mono (w_Gr_spread c2) (by intro q hq; simp at hq ⊢; try omega) (by intro q hq; simp at hq ⊢; try omega))
  obtain ⟨m, hm, hR⟩ := Q
  exact (lp m) _ _ hR o2
theorem w_Or_upEnds {F : fx_F} {v : fx_V} {F' : fx_F} (h : Cl k_Or_upEnds [(2, 19)] F v F') : gxo [] [] F F' := by
  obtain ⟨n, h⟩ := c_Or_upEnds h
  have lp : ∀ n : Nat, (∀ (l1 l2 : Nat) (F2 : fx_F), Rn n k_Or_upEnds 4 [(2, 19), (0, l1), (0, l2)] [] F2 v F' → gxo [] [] F F2 → gxo [] [] F F') := by
    intro n
    induction n using Nat.strongRecOn with
    | ind n ih =>
      refine fun l1 l2 F2 h ho => ?_
      · have Q := q_Or_upEnds_4 h
        clear h
        refine fo_if fo_le Q (fun Q => ?_) (fun Q => ?_)
        · rw [Q.2]; exact ho
        · refine fo_if fo_lt Q (fun Q => ?_) (fun Q => ?_)
          · obtain ⟨m, hm, hR⟩ := Q
            exact (ih m hm) _ _ _ hR ho
          · refine fo_if fo_ne Q (fun Q => ?_) (fun Q => ?_)
            · obtain ⟨m, hm, hR⟩ := Q
              exact (ih m hm) _ _ _ hR ho
            · refine fo_if fo_le Q (fun Q => ?_) (fun Q => ?_)
              · obtain ⟨m, hm, hR⟩ := Q
                exact (ih m hm) _ _ _ hR ho
              · obtain ⟨m, hm, hR⟩ := Q
                exact (ih m hm) _ _ _ hR ho
  have Q := q_Or_upEnds_0 h
  obtain ⟨m, hm, hR⟩ := Q
  exact (lp m) _ _ _ hR gxo.rf
theorem w_I_bitCount {a0 : Nat} {F : fx_F} {v : fx_V} {F' : fx_F} (h : Cl k_I_bitCount [(0, a0)] F v F') : gxo [] [] F F' := by
  obtain ⟨n, h⟩ := c_I_bitCount h
  have Q := q_I_bitCount_0 h
  rw [Q.2]; exact gxo.rf
theorem w_T_apart {a1 a2 : Nat} {F : fx_F} {v : fx_V} {F' : fx_F} (h : Cl k_T_apart [(2, 2), (0, a1), (0, a2)] F v F') : gxo [44, 43] [] F F' := by
  obtain ⟨n, h⟩ := c_T_apart h
  have Q := q_T_apart_0 h
  refine fo_if fo_lt Q (fun Q => ?_) (fun Q => ?_)
  · rw [Q.2]; exact gxo.rf
  · refine fo_if fo_le Q (fun Q => ?_) (fun Q => ?_)
    · rw [Q.2]; exact gxo.rf
    · refine fo_if fo_lt Q (fun Q => ?_) (fun Q => ?_)
      · rw [Q.2]; exact gxo.rf
      · refine fo_if fo_le Q (fun Q => ?_) (fun Q => ?_)
        · rw [Q.2]; exact gxo.rf
        · refine fo_if fo_ne Q (fun Q => ?_) (fun Q => ?_)
          · obtain ⟨r1, H1, c1, Q⟩ := Q
            have o1 : gxo [44, 43] [] F H1 := gxo.tr gxo.rf (gxo.mono (w_Gr_countApart c1) (by intro q hq; simp at hq ⊢; try omega) (by intro q hq; simp at hq ⊢; try omega))
            rw [Q.2]; exact o1
          · rw [Q.2]; exact gxo.rf
theorem w_T_pivots {F : fx_F} {v : fx_V} {F' : fx_F} (h : Cl k_T_pivots [(2, 2)] F v F') : gxo [41, 42] [] F F' := by
  obtain ⟨n, h⟩ := c_T_pivots h
  have Q := q_T_pivots_0 h
  obtain ⟨r1, H1, c1, Q⟩ := Q
  have o1 : gxo [41, 42] [] F H1 := gxo.tr gxo.rf (gxo.mono (w_Gr_findPivots c1) (by intro q hq; simp at hq ⊢; try omega) (by intro q hq; simp at hq ⊢; try omega))
  rw [Q.2]; exact o1
theorem w_Rd_append {a1 : Nat} {F : fx_F} {v : fx_V} {F' : fx_F} (h : Cl k_Rd_append [(2, 10), (0, a1)] F v F') : gxo [10, 11] [] F F' := by
  obtain ⟨n, h⟩ := c_Rd_append h
  have lp : ∀ n : Nat, (∀ (l1 l2 : Nat) (F2 : fx_F), Rn n k_Rd_append 3 [(2, 10), (0, l1), (0, l2)] [] F2 v F' → gxo [10, 11] [] F F2 → gxo [10, 11] [] F F') := by
    intro n
    induction n using Nat.strongRecOn with
    | ind n ih =>
      refine fun l1 l2 F2 h ho => ?_
      · have Q := q_Rd_append_3 h
        clear h
        refine fo_if fo_lt Q (fun Q => ?_) (fun Q => ?_)
        · rw [Q.2]; exact ho
        · refine fo_if fo_le Q (fun Q => ?_) (fun Q => ?_)
          · obtain ⟨m, hm, hR⟩ := Q
            exact (ih m hm) _ _ _ hR ho
          · obtain ⟨m, hm, hR⟩ := Q
            exact (ih m hm) _ _ _ hR (gxo.wr (gxo.wr ho (by simp)) (by simp))
  have Q := q_Rd_append_0 h
  obtain ⟨m, hm, hR⟩ := Q
  exact (lp m) _ _ _ hR gxo.rf
theorem w_T_feed {a1 a2 a3 a4 a5 : Nat} {F : fx_F} {v : fx_V} {F' : fx_F} (h : Cl k_T_feed [(2, 2), (0, a1), (0, a2), (0, a3), (0, a4), (0, a5)] F v F') : gxo [10, 11] [] F F' := by
  obtain ⟨n, h⟩ := c_T_feed h
  have Q := q_T_feed_0 h
  refine fo_if fo_le Q (fun Q => ?_) (fun Q => ?_)
  · obtain ⟨H1, c1, Q⟩ := Q
    have o1 : gxo [10, 11] [] F H1 := gxo.tr gxo.rf (gxo.mono (w_Rd_append c1) (by intro q hq; simp at hq ⊢; try omega) (by intro q hq; simp at hq ⊢; try omega))
    obtain ⟨H2, c2, Q⟩ := Q
    have o2 : gxo [10, 11] [] F H2 := gxo.tr o1 (gxo.mono (w_Rd_append c2) (by intro q hq; simp at hq ⊢; try omega) (by intro q hq; simp at hq ⊢; try omega))
    obtain ⟨H3, c3, Q⟩ := Q
    have o3 : gxo [10, 11] [] F H3 := gxo.tr o2 (gxo.mono (w_Rd_append c3) (by intro q hq; simp at hq ⊢; try omega) (by intro q hq; simp at hq ⊢; try omega))
    obtain ⟨H4, c4, Q⟩ := Q
    have o4 : gxo [10, 11] [] F H4 := gxo.tr o3 (gxo.mono (w_Rd_append c4) (by intro q hq; simp at hq ⊢; try omega) (by intro q hq; simp at hq ⊢; try omega))
    obtain ⟨H5, c5, Q⟩ := Q
    have o5 : gxo [10, 11] [] F H5 := gxo.tr o4 (gxo.mono (w_Rd_append c5) (by intro q hq; simp at hq ⊢; try omega) (by intro q hq; simp at hq ⊢; try omega))
    rw [Q.2]; exact o5
  · rw [Q.2]; exact gxo.rf
theorem w_T_end {a1 : Nat} {F : fx_F} {v : fx_V} {F' : fx_F} (h : Cl k_T_end [(2, 2), (0, a1)] F v F') : gxo [10] [] F F' := by
  obtain ⟨n, h⟩ := c_T_end h
  have Q := q_T_end_0 h
  refine fo_if fo_lt Q (fun Q => ?_) (fun Q => ?_)
  · rw [Q.2]; exact gxo.rf
  · refine fo_if fo_le Q (fun Q => ?_) (fun Q => ?_)
    · rw [Q.2]; exact (gxo.wr gxo.rf (by simp))
    · rw [Q.2]; exact gxo.rf
theorem w_T_fault {a1 : Nat} {F : fx_F} {v : fx_V} {F' : fx_F} (h : Cl k_T_fault [(2, 2), (0, a1)] F v F') : gxo [] [] F F' := by
  obtain ⟨n, h⟩ := c_T_fault h
  have Q := q_T_fault_0 h
  refine fo_if fo_ne Q (fun Q => ?_) (fun Q => ?_)
  · refine fo_if fo_ne Q (fun Q => ?_) (fun Q => ?_)
    · rw [Q.2]; exact gxo.rf
    · rw [Q.2]; exact gxo.rf
  · rw [Q.2]; exact gxo.rf
theorem w_M_feed {a1 a2 a3 a4 a5 : Nat} {F : fx_F} {v : fx_V} {F' : fx_F} (h : Cl k_M_feed [(2, 175), (0, a1), (0, a2), (0, a3), (0, a4), (0, a5)] F v F') : gxo [185] [11] F F' := by
  obtain ⟨n, h⟩ := c_M_feed h
  have lp : ∀ n : Nat, (∀ (l1 l2 l3 l4 l5 l6 : Nat) (F2 : fx_F), Rn n k_M_feed 18 [(2, 175), (0, l1), (0, l2), (0, l3), (0, l4), (0, l5), (0, l6), (3, 0)] [] F2 v F' → gxo [185] [11] F F2 → gxo [185] [11] F F') := by
    intro n
    induction n using Nat.strongRecOn with
    | ind n ih =>
      refine fun l1 l2 l3 l4 l5 l6 F2 h ho => ?_
      · have Q := q_M_feed_18 h
        clear h
        refine fo_if fo_le Q (fun Q => ?_) (fun Q => ?_)
        · rw [Q.2]; exact (gxo.wrf ho (by simp))
        · refine fo_if fo_le Q (fun Q => ?_) (fun Q => ?_)
          · refine fo_if fo_le Q (fun Q => ?_) (fun Q => ?_)
            · refine fo_if fo_le Q (fun Q => ?_) (fun Q => ?_)
              · refine fo_if fo_le Q (fun Q => ?_) (fun Q => ?_)
                · obtain ⟨m, hm, hR⟩ := Q
                  exact (ih m hm) _ _ _ _ _ _ _ hR (gxo.wr ho (by simp))
                · obtain ⟨m, hm, hR⟩ := Q
                  exact (ih m hm) _ _ _ _ _ _ _ hR (gxo.wr ho (by simp))
              · obtain ⟨m, hm, hR⟩ := Q
                exact (ih m hm) _ _ _ _ _ _ _ hR (gxo.wr ho (by simp))
            · obtain ⟨m, hm, hR⟩ := Q
              exact (ih m hm) _ _ _ _ _ _ _ hR (gxo.wr ho (by simp))
          · obtain ⟨m, hm, hR⟩ := Q
            exact (ih m hm) _ _ _ _ _ _ _ hR (gxo.wr ho (by simp))
  have Q := q_M_feed_0 h
  refine fo_if fo_le Q (fun Q => ?_) (fun Q => ?_)
  · obtain ⟨m, hm, hR⟩ := Q
    exact (lp m) _ _ _ _ _ _ _ hR gxo.rf
  · rw [Q.2]; exact gxo.rf
theorem w_M_end {a1 : Nat} {F : fx_F} {v : fx_V} {F' : fx_F} (h : Cl k_M_end [(2, 175), (0, a1)] F v F') : gxo [] [11] F F' := by
  obtain ⟨n, h⟩ := c_M_end h
  have Q := q_M_end_0 h
  refine fo_if fo_lt Q (fun Q => ?_) (fun Q => ?_)
  · rw [Q.2]; exact gxo.rf
  · refine fo_if fo_le Q (fun Q => ?_) (fun Q => ?_)
    · rw [Q.2]; exact (gxo.wrf gxo.rf (by simp))
    · rw [Q.2]; exact gxo.rf
theorem w_M_fault {a1 : Nat} {F : fx_F} {v : fx_V} {F' : fx_F} (h : Cl k_M_fault [(2, 175), (0, a1)] F v F') : gxo [] [] F F' := by
  obtain ⟨n, h⟩ := c_M_fault h
  have Q := q_M_fault_0 h
  refine fo_if fo_ne Q (fun Q => ?_) (fun Q => ?_)
  · refine fo_if fo_ne Q (fun Q => ?_) (fun Q => ?_)
    · rw [Q.2]; exact gxo.rf
    · rw [Q.2]; exact gxo.rf
  · rw [Q.2]; exact gxo.rf
theorem w_Rd_advance {F : fx_F} {v : fx_V} {F' : fx_F} (h : Cl k_Rd_advance [(2, 10)] F v F') : gxo [10] [] F F' := by
  obtain ⟨n, h⟩ := c_Rd_advance h
  have lp : ∀ n : Nat, (∀ (F2 : fx_F), Rn n k_Rd_advance 0 [(2, 10), (3, 0), (3, 0)] [] F2 v F' → gxo [10] [] F F2 → gxo [10] [] F F') ∧ (∀ (F2 : fx_F), Rn n k_Rd_advance 119 [(2, 10), (3, 0), (3, 0)] [] F2 v F' → gxo [10] [] F F2 → gxo [10] [] F F') ∧ (∀ (F2 : fx_F), Rn n k_Rd_advance 196 [(2, 10), (3, 0), (3, 0)] [] F2 v F' → gxo [10] [] F F2 → gxo [10] [] F F') := by
    intro n
    induction n using Nat.strongRecOn with
    | ind n ih =>
      refine ⟨fun  F2 h ho => ?_, fun  F2 h ho => ?_, fun  F2 h ho => ?_⟩
      · have Q := q_Rd_advance_0 h
        clear h
        refine fo_if fo_le Q (fun Q => ?_) (fun Q => ?_)
        · refine fo_if fo_lt Q (fun Q => ?_) (fun Q => ?_)
          · refine fo_if fo_lt Q (fun Q => ?_) (fun Q => ?_)
            · refine fo_if fo_lt Q (fun Q => ?_) (fun Q => ?_)
              · refine fo_if fo_eq Q (fun Q => ?_) (fun Q => ?_)
                · rw [Q.2]; exact (gxo.wr (gxo.wr (gxo.wr (gxo.wr ho (by simp)) (by simp)) (by simp)) (by simp))
                · refine fo_if fo_eq Q (fun Q => ?_) (fun Q => ?_)
                  · rw [Q.2]; exact (gxo.wr (gxo.wr (gxo.wr (gxo.wr ho (by simp)) (by simp)) (by simp)) (by simp))
                  · refine fo_if fo_eq Q (fun Q => ?_) (fun Q => ?_)
                    · rw [Q.2]; exact (gxo.wr (gxo.wr (gxo.wr (gxo.wr ho (by simp)) (by simp)) (by simp)) (by simp))
                    · refine fo_if fo_eq Q (fun Q => ?_) (fun Q => ?_)
                      · rw [Q.2]; exact (gxo.wr (gxo.wr (gxo.wr (gxo.wr ho (by simp)) (by simp)) (by simp)) (by simp))
                      · refine fo_if fo_eq Q (fun Q => ?_) (fun Q => ?_)
                        · rw [Q.2]; exact (gxo.wr (gxo.wr (gxo.wr (gxo.wr ho (by simp)) (by simp)) (by simp)) (by simp))
                        · refine fo_if fo_eq Q (fun Q => ?_) (fun Q => ?_)
                          · rw [Q.2]; exact (gxo.wr (gxo.wr (gxo.wr (gxo.wr ho (by simp)) (by simp)) (by simp)) (by simp))
                          · refine fo_if fo_eq Q (fun Q => ?_) (fun Q => ?_)
                            · rw [Q.2]; exact (gxo.wr (gxo.wr (gxo.wr (gxo.wr ho (by simp)) (by simp)) (by simp)) (by simp))
                            · refine fo_if fo_ne Q (fun Q => ?_) (fun Q => ?_)
                              · rw [Q.2]; exact (gxo.wr (gxo.wr (gxo.wr (gxo.wr ho (by simp)) (by simp)) (by simp)) (by simp))
                              · rw [Q.2]; exact (gxo.wr (gxo.wr (gxo.wr (gxo.wr ho (by simp)) (by simp)) (by simp)) (by simp))
              · refine fo_if fo_lt Q (fun Q => ?_) (fun Q => ?_)
                · refine fo_if fo_eq Q (fun Q => ?_) (fun Q => ?_)
                  · rw [Q.2]; exact (gxo.wr (gxo.wr (gxo.wr (gxo.wr ho (by simp)) (by simp)) (by simp)) (by simp))
                  · refine fo_if fo_eq Q (fun Q => ?_) (fun Q => ?_)
                    · rw [Q.2]; exact (gxo.wr (gxo.wr (gxo.wr (gxo.wr ho (by simp)) (by simp)) (by simp)) (by simp))
                    · refine fo_if fo_eq Q (fun Q => ?_) (fun Q => ?_)
                      · rw [Q.2]; exact (gxo.wr (gxo.wr (gxo.wr (gxo.wr ho (by simp)) (by simp)) (by simp)) (by simp))
                      · refine fo_if fo_eq Q (fun Q => ?_) (fun Q => ?_)
                        · rw [Q.2]; exact (gxo.wr (gxo.wr (gxo.wr (gxo.wr ho (by simp)) (by simp)) (by simp)) (by simp))
                        · refine fo_if fo_eq Q (fun Q => ?_) (fun Q => ?_)
                          · rw [Q.2]; exact (gxo.wr (gxo.wr (gxo.wr (gxo.wr ho (by simp)) (by simp)) (by simp)) (by simp))
                          · refine fo_if fo_eq Q (fun Q => ?_) (fun Q => ?_)
                            · rw [Q.2]; exact (gxo.wr (gxo.wr (gxo.wr (gxo.wr ho (by simp)) (by simp)) (by simp)) (by simp))
                            · refine fo_if fo_eq Q (fun Q => ?_) (fun Q => ?_)
                              · rw [Q.2]; exact (gxo.wr (gxo.wr (gxo.wr (gxo.wr ho (by simp)) (by simp)) (by simp)) (by simp))
                              · refine fo_if fo_ne Q (fun Q => ?_) (fun Q => ?_)
                                · rw [Q.2]; exact (gxo.wr (gxo.wr (gxo.wr (gxo.wr ho (by simp)) (by simp)) (by simp)) (by simp))
                                · rw [Q.2]; exact (gxo.wr (gxo.wr (gxo.wr (gxo.wr ho (by simp)) (by simp)) (by simp)) (by simp))
                · obtain ⟨m, hm, hR⟩ := Q
                  exact (ih m hm).2.2 _ hR (gxo.wr (gxo.wr (gxo.wr (gxo.wr (gxo.wr ho (by simp)) (by simp)) (by simp)) (by simp)) (by simp))
            · refine fo_if fo_lt Q (fun Q => ?_) (fun Q => ?_)
              · refine fo_if fo_lt Q (fun Q => ?_) (fun Q => ?_)
                · refine fo_if fo_eq Q (fun Q => ?_) (fun Q => ?_)
                  · rw [Q.2]; exact (gxo.wr (gxo.wr (gxo.wr (gxo.wr ho (by simp)) (by simp)) (by simp)) (by simp))
                  · refine fo_if fo_eq Q (fun Q => ?_) (fun Q => ?_)
                    · rw [Q.2]; exact (gxo.wr (gxo.wr (gxo.wr (gxo.wr ho (by simp)) (by simp)) (by simp)) (by simp))
                    · refine fo_if fo_eq Q (fun Q => ?_) (fun Q => ?_)
                      · rw [Q.2]; exact (gxo.wr (gxo.wr (gxo.wr (gxo.wr ho (by simp)) (by simp)) (by simp)) (by simp))
                      · refine fo_if fo_eq Q (fun Q => ?_) (fun Q => ?_)
                        · rw [Q.2]; exact (gxo.wr (gxo.wr (gxo.wr (gxo.wr ho (by simp)) (by simp)) (by simp)) (by simp))
                        · refine fo_if fo_eq Q (fun Q => ?_) (fun Q => ?_)
                          · rw [Q.2]; exact (gxo.wr (gxo.wr (gxo.wr (gxo.wr ho (by simp)) (by simp)) (by simp)) (by simp))
                          · refine fo_if fo_eq Q (fun Q => ?_) (fun Q => ?_)
                            · rw [Q.2]; exact (gxo.wr (gxo.wr (gxo.wr (gxo.wr ho (by simp)) (by simp)) (by simp)) (by simp))
                            · refine fo_if fo_eq Q (fun Q => ?_) (fun Q => ?_)
                              · rw [Q.2]; exact (gxo.wr (gxo.wr (gxo.wr (gxo.wr ho (by simp)) (by simp)) (by simp)) (by simp))
                              · refine fo_if fo_ne Q (fun Q => ?_) (fun Q => ?_)
                                · rw [Q.2]; exact (gxo.wr (gxo.wr (gxo.wr (gxo.wr ho (by simp)) (by simp)) (by simp)) (by simp))
                                · rw [Q.2]; exact (gxo.wr (gxo.wr (gxo.wr (gxo.wr ho (by simp)) (by simp)) (by simp)) (by simp))
                · refine fo_if fo_lt Q (fun Q => ?_) (fun Q => ?_)
                  · refine fo_if fo_eq Q (fun Q => ?_) (fun Q => ?_)
                    · rw [Q.2]; exact (gxo.wr (gxo.wr (gxo.wr (gxo.wr ho (by simp)) (by simp)) (by simp)) (by simp))
                    · refine fo_if fo_eq Q (fun Q => ?_) (fun Q => ?_)
                      · rw [Q.2]; exact (gxo.wr (gxo.wr (gxo.wr (gxo.wr ho (by simp)) (by simp)) (by simp)) (by simp))
                      · refine fo_if fo_eq Q (fun Q => ?_) (fun Q => ?_)
                        · rw [Q.2]; exact (gxo.wr (gxo.wr (gxo.wr (gxo.wr ho (by simp)) (by simp)) (by simp)) (by simp))
                        · refine fo_if fo_eq Q (fun Q => ?_) (fun Q => ?_)
                          · rw [Q.2]; exact (gxo.wr (gxo.wr (gxo.wr (gxo.wr ho (by simp)) (by simp)) (by simp)) (by simp))
                          · refine fo_if fo_eq Q (fun Q => ?_) (fun Q => ?_)
                            · rw [Q.2]; exact (gxo.wr (gxo.wr (gxo.wr (gxo.wr ho (by simp)) (by simp)) (by simp)) (by simp))
                            · refine fo_if fo_eq Q (fun Q => ?_) (fun Q => ?_)
                              · rw [Q.2]; exact (gxo.wr (gxo.wr (gxo.wr (gxo.wr ho (by simp)) (by simp)) (by simp)) (by simp))
                              · refine fo_if fo_eq Q (fun Q => ?_) (fun Q => ?_)
                                · rw [Q.2]; exact (gxo.wr (gxo.wr (gxo.wr (gxo.wr ho (by simp)) (by simp)) (by simp)) (by simp))
                                · refine fo_if fo_ne Q (fun Q => ?_) (fun Q => ?_)
                                  · rw [Q.2]; exact (gxo.wr (gxo.wr (gxo.wr (gxo.wr ho (by simp)) (by simp)) (by simp)) (by simp))
                                  · rw [Q.2]; exact (gxo.wr (gxo.wr (gxo.wr (gxo.wr ho (by simp)) (by simp)) (by simp)) (by simp))
                  · obtain ⟨m, hm, hR⟩ := Q
                    exact (ih m hm).2.2 _ hR (gxo.wr (gxo.wr (gxo.wr (gxo.wr (gxo.wr ho (by simp)) (by simp)) (by simp)) (by simp)) (by simp))
              · obtain ⟨m, hm, hR⟩ := Q
                exact (ih m hm).2.1 _ hR (gxo.wr (gxo.wr (gxo.wr (gxo.wr ho (by simp)) (by simp)) (by simp)) (by simp))
          · rw [Q.2]; exact (gxo.wr (gxo.wr (gxo.wr ho (by simp)) (by simp)) (by simp))
        · refine fo_if fo_eq Q (fun Q => ?_) (fun Q => ?_)
          · obtain ⟨m, hm, hR⟩ := Q
            exact (ih m hm).1 _ hR (gxo.wr ho (by simp))
          · refine fo_if fo_ne Q (fun Q => ?_) (fun Q => ?_)
            · refine fo_if fo_lt Q (fun Q => ?_) (fun Q => ?_)
              · refine fo_if fo_lt Q (fun Q => ?_) (fun Q => ?_)
                · refine fo_if fo_lt Q (fun Q => ?_) (fun Q => ?_)
                  · refine fo_if fo_eq Q (fun Q => ?_) (fun Q => ?_)
                    · rw [Q.2]; exact (gxo.wr (gxo.wr (gxo.wr (gxo.wr ho (by simp)) (by simp)) (by simp)) (by simp))
                    · refine fo_if fo_eq Q (fun Q => ?_) (fun Q => ?_)
                      · rw [Q.2]; exact (gxo.wr (gxo.wr (gxo.wr (gxo.wr ho (by simp)) (by simp)) (by simp)) (by simp))
                      · refine fo_if fo_eq Q (fun Q => ?_) (fun Q => ?_)
                        · rw [Q.2]; exact (gxo.wr (gxo.wr (gxo.wr (gxo.wr ho (by simp)) (by simp)) (by simp)) (by simp))
                        · refine fo_if fo_eq Q (fun Q => ?_) (fun Q => ?_)
                          · rw [Q.2]; exact (gxo.wr (gxo.wr (gxo.wr (gxo.wr ho (by simp)) (by simp)) (by simp)) (by simp))
                          · refine fo_if fo_eq Q (fun Q => ?_) (fun Q => ?_)
                            · rw [Q.2]; exact (gxo.wr (gxo.wr (gxo.wr (gxo.wr ho (by simp)) (by simp)) (by simp)) (by simp))
                            · refine fo_if fo_eq Q (fun Q => ?_) (fun Q => ?_)
                              · rw [Q.2]; exact (gxo.wr (gxo.wr (gxo.wr (gxo.wr ho (by simp)) (by simp)) (by simp)) (by simp))
                              · refine fo_if fo_eq Q (fun Q => ?_) (fun Q => ?_)
                                · rw [Q.2]; exact (gxo.wr (gxo.wr (gxo.wr (gxo.wr ho (by simp)) (by simp)) (by simp)) (by simp))
                                · refine fo_if fo_ne Q (fun Q => ?_) (fun Q => ?_)
                                  · rw [Q.2]; exact (gxo.wr (gxo.wr (gxo.wr (gxo.wr ho (by simp)) (by simp)) (by simp)) (by simp))
                                  · rw [Q.2]; exact (gxo.wr (gxo.wr (gxo.wr (gxo.wr ho (by simp)) (by simp)) (by simp)) (by simp))
                  · refine fo_if fo_lt Q (fun Q => ?_) (fun Q => ?_)
                    · refine fo_if fo_eq Q (fun Q => ?_) (fun Q => ?_)
                      · rw [Q.2]; exact (gxo.wr (gxo.wr (gxo.wr (gxo.wr ho (by simp)) (by simp)) (by simp)) (by simp))
                      · refine fo_if fo_eq Q (fun Q => ?_) (fun Q => ?_)
                        · rw [Q.2]; exact (gxo.wr (gxo.wr (gxo.wr (gxo.wr ho (by simp)) (by simp)) (by simp)) (by simp))
                        · refine fo_if fo_eq Q (fun Q => ?_) (fun Q => ?_)
                          · rw [Q.2]; exact (gxo.wr (gxo.wr (gxo.wr (gxo.wr ho (by simp)) (by simp)) (by simp)) (by simp))
                          · refine fo_if fo_eq Q (fun Q => ?_) (fun Q => ?_)
                            · rw [Q.2]; exact (gxo.wr (gxo.wr (gxo.wr (gxo.wr ho (by simp)) (by simp)) (by simp)) (by simp))
                            · refine fo_if fo_eq Q (fun Q => ?_) (fun Q => ?_)
                              · rw [Q.2]; exact (gxo.wr (gxo.wr (gxo.wr (gxo.wr ho (by simp)) (by simp)) (by simp)) (by simp))
                              · refine fo_if fo_eq Q (fun Q => ?_) (fun Q => ?_)
                                · rw [Q.2]; exact (gxo.wr (gxo.wr (gxo.wr (gxo.wr ho (by simp)) (by simp)) (by simp)) (by simp))
                                · refine fo_if fo_eq Q (fun Q => ?_) (fun Q => ?_)
                                  · rw [Q.2]; exact (gxo.wr (gxo.wr (gxo.wr (gxo.wr ho (by simp)) (by simp)) (by simp)) (by simp))
                                  · refine fo_if fo_ne Q (fun Q => ?_) (fun Q => ?_)
                                    · rw [Q.2]; exact (gxo.wr (gxo.wr (gxo.wr (gxo.wr ho (by simp)) (by simp)) (by simp)) (by simp))
                                    · rw [Q.2]; exact (gxo.wr (gxo.wr (gxo.wr (gxo.wr ho (by simp)) (by simp)) (by simp)) (by simp))
                    · obtain ⟨m, hm, hR⟩ := Q
                      exact (ih m hm).2.2 _ hR (gxo.wr (gxo.wr (gxo.wr (gxo.wr (gxo.wr ho (by simp)) (by simp)) (by simp)) (by simp)) (by simp))
                · refine fo_if fo_lt Q (fun Q => ?_) (fun Q => ?_)
                  · refine fo_if fo_lt Q (fun Q => ?_) (fun Q => ?_)
                    · refine fo_if fo_eq Q (fun Q => ?_) (fun Q => ?_)
                      · rw [Q.2]; exact (gxo.wr (gxo.wr (gxo.wr (gxo.wr ho (by simp)) (by simp)) (by simp)) (by simp))
                      · refine fo_if fo_eq Q (fun Q => ?_) (fun Q => ?_)
                        · rw [Q.2]; exact (gxo.wr (gxo.wr (gxo.wr (gxo.wr ho (by simp)) (by simp)) (by simp)) (by simp))
                        · refine fo_if fo_eq Q (fun Q => ?_) (fun Q => ?_)
                          · rw [Q.2]; exact (gxo.wr (gxo.wr (gxo.wr (gxo.wr ho (by simp)) (by simp)) (by simp)) (by simp))
                          · refine fo_if fo_eq Q (fun Q => ?_) (fun Q => ?_)
                            · rw [Q.2]; exact (gxo.wr (gxo.wr (gxo.wr (gxo.wr ho (by simp)) (by simp)) (by simp)) (by simp))
                            · refine fo_if fo_eq Q (fun Q => ?_) (fun Q => ?_)
                              · rw [Q.2]; exact (gxo.wr (gxo.wr (gxo.wr (gxo.wr ho (by simp)) (by simp)) (by simp)) (by simp))
                              · refine fo_if fo_eq Q (fun Q => ?_) (fun Q => ?_)
                                · rw [Q.2]; exact (gxo.wr (gxo.wr (gxo.wr (gxo.wr ho (by simp)) (by simp)) (by simp)) (by simp))
                                · refine fo_if fo_eq Q (fun Q => ?_) (fun Q => ?_)
                                  · rw [Q.2]; exact (gxo.wr (gxo.wr (gxo.wr (gxo.wr ho (by simp)) (by simp)) (by simp)) (by simp))
                                  · refine fo_if fo_ne Q (fun Q => ?_) (fun Q => ?_)
                                    · rw [Q.2]; exact (gxo.wr (gxo.wr (gxo.wr (gxo.wr ho (by simp)) (by simp)) (by simp)) (by simp))
                                    · rw [Q.2]; exact (gxo.wr (gxo.wr (gxo.wr (gxo.wr ho (by simp)) (by simp)) (by simp)) (by simp))
                    · refine fo_if fo_lt Q (fun Q => ?_) (fun Q => ?_)
                      · refine fo_if fo_eq Q (fun Q => ?_) (fun Q => ?_)
                        · rw [Q.2]; exact (gxo.wr (gxo.wr (gxo.wr (gxo.wr ho (by simp)) (by simp)) (by simp)) (by simp))
                        · refine fo_if fo_eq Q (fun Q => ?_) (fun Q => ?_)
                          · rw [Q.2]; exact (gxo.wr (gxo.wr (gxo.wr (gxo.wr ho (by simp)) (by simp)) (by simp)) (by simp))
                          · refine fo_if fo_eq Q (fun Q => ?_) (fun Q => ?_)
                            · rw [Q.2]; exact (gxo.wr (gxo.wr (gxo.wr (gxo.wr ho (by simp)) (by simp)) (by simp)) (by simp))
                            · refine fo_if fo_eq Q (fun Q => ?_) (fun Q => ?_)
                              · rw [Q.2]; exact (gxo.wr (gxo.wr (gxo.wr (gxo.wr ho (by simp)) (by simp)) (by simp)) (by simp))
                              · refine fo_if fo_eq Q (fun Q => ?_) (fun Q => ?_)
                                · rw [Q.2]; exact (gxo.wr (gxo.wr (gxo.wr (gxo.wr ho (by simp)) (by simp)) (by simp)) (by simp))
                                · refine fo_if fo_eq Q (fun Q => ?_) (fun Q => ?_)
                                  · rw [Q.2]; exact (gxo.wr (gxo.wr (gxo.wr (gxo.wr ho (by simp)) (by simp)) (by simp)) (by simp))
                                  · refine fo_if fo_eq Q (fun Q => ?_) (fun Q => ?_)
                                    · rw [Q.2]; exact (gxo.wr (gxo.wr (gxo.wr (gxo.wr ho (by simp)) (by simp)) (by simp)) (by simp))
                                    · refine fo_if fo_ne Q (fun Q => ?_) (fun Q => ?_)
                                      · rw [Q.2]; exact (gxo.wr (gxo.wr (gxo.wr (gxo.wr ho (by simp)) (by simp)) (by simp)) (by simp))
                                      · rw [Q.2]; exact (gxo.wr (gxo.wr (gxo.wr (gxo.wr ho (by simp)) (by simp)) (by simp)) (by simp))
                      · obtain ⟨m, hm, hR⟩ := Q
                        exact (ih m hm).2.2 _ hR (gxo.wr (gxo.wr (gxo.wr (gxo.wr (gxo.wr ho (by simp)) (by simp)) (by simp)) (by simp)) (by simp))
                  · obtain ⟨m, hm, hR⟩ := Q
                    exact (ih m hm).2.1 _ hR (gxo.wr (gxo.wr (gxo.wr (gxo.wr ho (by simp)) (by simp)) (by simp)) (by simp))
              · rw [Q.2]; exact (gxo.wr (gxo.wr (gxo.wr ho (by simp)) (by simp)) (by simp))
            · obtain ⟨m, hm, hR⟩ := Q
              exact (ih m hm).1 _ hR (gxo.wr ho (by simp))
      · have Q := q_Rd_advance_119 h
        clear h
        refine fo_if fo_le Q (fun Q => ?_) (fun Q => ?_)
        · rw [Q.2]; exact ho
        · refine fo_if fo_lt Q (fun Q => ?_) (fun Q => ?_)
          · rw [Q.2]; exact ho
          · refine fo_if fo_lt Q (fun Q => ?_) (fun Q => ?_)
            · rw [Q.2]; exact ho
            · obtain ⟨m, hm, hR⟩ := Q
              exact (ih m hm).2.1 _ hR (gxo.wr ho (by simp))
      · have Q := q_Rd_advance_196 h
        clear h
        refine fo_if fo_le Q (fun Q => ?_) (fun Q => ?_)
        · rw [Q.2]; exact ho
        · refine fo_if fo_lt Q (fun Q => ?_) (fun Q => ?_)
          · rw [Q.2]; exact ho
          · refine fo_if fo_lt Q (fun Q => ?_) (fun Q => ?_)
            · rw [Q.2]; exact ho
            · obtain ⟨m, hm, hR⟩ := Q
              exact (ih m hm).2.2 _ hR (gxo.wr (gxo.wr ho (by simp)) (by simp))
  have Q := q_Rd_advance_0 h
  refine fo_if fo_le Q (fun Q => ?_) (fun Q => ?_)
  · refine fo_if fo_lt Q (fun Q => ?_) (fun Q => ?_)
    · refine fo_if fo_lt Q (fun Q => ?_) (fun Q => ?_)
      · refine fo_if fo_lt Q (fun Q => ?_) (fun Q => ?_)
        · refine fo_if fo_eq Q (fun Q => ?_) (fun Q => ?_)
          · rw [Q.2]; exact (gxo.wr (gxo.wr (gxo.wr (gxo.wr gxo.rf (by simp)) (by simp)) (by simp)) (by simp))
          · refine fo_if fo_eq Q (fun Q => ?_) (fun Q => ?_)
            · rw [Q.2]; exact (gxo.wr (gxo.wr (gxo.wr (gxo.wr gxo.rf (by simp)) (by simp)) (by simp)) (by simp))
            · refine fo_if fo_eq Q (fun Q => ?_) (fun Q => ?_)
              · rw [Q.2]; exact (gxo.wr (gxo.wr (gxo.wr (gxo.wr gxo.rf (by simp)) (by simp)) (by simp)) (by simp))
              · refine fo_if fo_eq Q (fun Q => ?_) (fun Q => ?_)
                · rw [Q.2]; exact (gxo.wr (gxo.wr (gxo.wr (gxo.wr gxo.rf (by simp)) (by simp)) (by simp)) (by simp))
                · refine fo_if fo_eq Q (fun Q => ?_) (fun Q => ?_)
                  · rw [Q.2]; exact (gxo.wr (gxo.wr (gxo.wr (gxo.wr gxo.rf (by simp)) (by simp)) (by simp)) (by simp))
                  · refine fo_if fo_eq Q (fun Q => ?_) (fun Q => ?_)
                    · rw [Q.2]; exact (gxo.wr (gxo.wr (gxo.wr (gxo.wr gxo.rf (by simp)) (by simp)) (by simp)) (by simp))
                    · refine fo_if fo_eq Q (fun Q => ?_) (fun Q => ?_)
                      · rw [Q.2]; exact (gxo.wr (gxo.wr (gxo.wr (gxo.wr gxo.rf (by simp)) (by simp)) (by simp)) (by simp))
                      · refine fo_if fo_ne Q (fun Q => ?_) (fun Q => ?_)
                        · rw [Q.2]; exact (gxo.wr (gxo.wr (gxo.wr (gxo.wr gxo.rf (by simp)) (by simp)) (by simp)) (by simp))
                        · rw [Q.2]; exact (gxo.wr (gxo.wr (gxo.wr (gxo.wr gxo.rf (by simp)) (by simp)) (by simp)) (by simp))
        · refine fo_if fo_lt Q (fun Q => ?_) (fun Q => ?_)
          · refine fo_if fo_eq Q (fun Q => ?_) (fun Q => ?_)
            · rw [Q.2]; exact (gxo.wr (gxo.wr (gxo.wr (gxo.wr gxo.rf (by simp)) (by simp)) (by simp)) (by simp))
            · refine fo_if fo_eq Q (fun Q => ?_) (fun Q => ?_)
              · rw [Q.2]; exact (gxo.wr (gxo.wr (gxo.wr (gxo.wr gxo.rf (by simp)) (by simp)) (by simp)) (by simp))
              · refine fo_if fo_eq Q (fun Q => ?_) (fun Q => ?_)
                · rw [Q.2]; exact (gxo.wr (gxo.wr (gxo.wr (gxo.wr gxo.rf (by simp)) (by simp)) (by simp)) (by simp))
                · refine fo_if fo_eq Q (fun Q => ?_) (fun Q => ?_)
                  · rw [Q.2]; exact (gxo.wr (gxo.wr (gxo.wr (gxo.wr gxo.rf (by simp)) (by simp)) (by simp)) (by simp))
                  · refine fo_if fo_eq Q (fun Q => ?_) (fun Q => ?_)
                    · rw [Q.2]; exact (gxo.wr (gxo.wr (gxo.wr (gxo.wr gxo.rf (by simp)) (by simp)) (by simp)) (by simp))
                    · refine fo_if fo_eq Q (fun Q => ?_) (fun Q => ?_)
                      · rw [Q.2]; exact (gxo.wr (gxo.wr (gxo.wr (gxo.wr gxo.rf (by simp)) (by simp)) (by simp)) (by simp))
                      · refine fo_if fo_eq Q (fun Q => ?_) (fun Q => ?_)
                        · rw [Q.2]; exact (gxo.wr (gxo.wr (gxo.wr (gxo.wr gxo.rf (by simp)) (by simp)) (by simp)) (by simp))
                        · refine fo_if fo_ne Q (fun Q => ?_) (fun Q => ?_)
                          · rw [Q.2]; exact (gxo.wr (gxo.wr (gxo.wr (gxo.wr gxo.rf (by simp)) (by simp)) (by simp)) (by simp))
                          · rw [Q.2]; exact (gxo.wr (gxo.wr (gxo.wr (gxo.wr gxo.rf (by simp)) (by simp)) (by simp)) (by simp))
          · obtain ⟨m, hm, hR⟩ := Q
            exact (lp m).2.2 _ hR (gxo.wr (gxo.wr (gxo.wr (gxo.wr (gxo.wr gxo.rf (by simp)) (by simp)) (by simp)) (by simp)) (by simp))
      · refine fo_if fo_lt Q (fun Q => ?_) (fun Q => ?_)
        · refine fo_if fo_lt Q (fun Q => ?_) (fun Q => ?_)
          · refine fo_if fo_eq Q (fun Q => ?_) (fun Q => ?_)
            · rw [Q.2]; exact (gxo.wr (gxo.wr (gxo.wr (gxo.wr gxo.rf (by simp)) (by simp)) (by simp)) (by simp))
            · refine fo_if fo_eq Q (fun Q => ?_) (fun Q => ?_)
              · rw [Q.2]; exact (gxo.wr (gxo.wr (gxo.wr (gxo.wr gxo.rf (by simp)) (by simp)) (by simp)) (by simp))
              · refine fo_if fo_eq Q (fun Q => ?_) (fun Q => ?_)
                · rw [Q.2]; exact (gxo.wr (gxo.wr (gxo.wr (gxo.wr gxo.rf (by simp)) (by simp)) (by simp)) (by simp))
                · refine fo_if fo_eq Q (fun Q => ?_) (fun Q => ?_)
                  · rw [Q.2]; exact (gxo.wr (gxo.wr (gxo.wr (gxo.wr gxo.rf (by simp)) (by simp)) (by simp)) (by simp))
                  · refine fo_if fo_eq Q (fun Q => ?_) (fun Q => ?_)
                    · rw [Q.2]; exact (gxo.wr (gxo.wr (gxo.wr (gxo.wr gxo.rf (by simp)) (by simp)) (by simp)) (by simp))
                    · refine fo_if fo_eq Q (fun Q => ?_) (fun Q => ?_)
                      · rw [Q.2]; exact (gxo.wr (gxo.wr (gxo.wr (gxo.wr gxo.rf (by simp)) (by simp)) (by simp)) (by simp))
                      · refine fo_if fo_eq Q (fun Q => ?_) (fun Q => ?_)
                        · rw [Q.2]; exact (gxo.wr (gxo.wr (gxo.wr (gxo.wr gxo.rf (by simp)) (by simp)) (by simp)) (by simp))
                        · refine fo_if fo_ne Q (fun Q => ?_) (fun Q => ?_)
                          · rw [Q.2]; exact (gxo.wr (gxo.wr (gxo.wr (gxo.wr gxo.rf (by simp)) (by simp)) (by simp)) (by simp))
                          · rw [Q.2]; exact (gxo.wr (gxo.wr (gxo.wr (gxo.wr gxo.rf (by simp)) (by simp)) (by simp)) (by simp))
          · refine fo_if fo_lt Q (fun Q => ?_) (fun Q => ?_)
            · refine fo_if fo_eq Q (fun Q => ?_) (fun Q => ?_)
              · rw [Q.2]; exact (gxo.wr (gxo.wr (gxo.wr (gxo.wr gxo.rf (by simp)) (by simp)) (by simp)) (by simp))
              · refine fo_if fo_eq Q (fun Q => ?_) (fun Q => ?_)
                · rw [Q.2]; exact (gxo.wr (gxo.wr (gxo.wr (gxo.wr gxo.rf (by simp)) (by simp)) (by simp)) (by simp))
                · refine fo_if fo_eq Q (fun Q => ?_) (fun Q => ?_)
                  · rw [Q.2]; exact (gxo.wr (gxo.wr (gxo.wr (gxo.wr gxo.rf (by simp)) (by simp)) (by simp)) (by simp))
                  · refine fo_if fo_eq Q (fun Q => ?_) (fun Q => ?_)
                    · rw [Q.2]; exact (gxo.wr (gxo.wr (gxo.wr (gxo.wr gxo.rf (by simp)) (by simp)) (by simp)) (by simp))
                    · refine fo_if fo_eq Q (fun Q => ?_) (fun Q => ?_)
                      · rw [Q.2]; exact (gxo.wr (gxo.wr (gxo.wr (gxo.wr gxo.rf (by simp)) (by simp)) (by simp)) (by simp))
                      · refine fo_if fo_eq Q (fun Q => ?_) (fun Q => ?_)
                        · rw [Q.2]; exact (gxo.wr (gxo.wr (gxo.wr (gxo.wr gxo.rf (by simp)) (by simp)) (by simp)) (by simp))
                        · refine fo_if fo_eq Q (fun Q => ?_) (fun Q => ?_)
                          · rw [Q.2]; exact (gxo.wr (gxo.wr (gxo.wr (gxo.wr gxo.rf (by simp)) (by simp)) (by simp)) (by simp))
                          · refine fo_if fo_ne Q (fun Q => ?_) (fun Q => ?_)
                            · rw [Q.2]; exact (gxo.wr (gxo.wr (gxo.wr (gxo.wr gxo.rf (by simp)) (by simp)) (by simp)) (by simp))
                            · rw [Q.2]; exact (gxo.wr (gxo.wr (gxo.wr (gxo.wr gxo.rf (by simp)) (by simp)) (by simp)) (by simp))
            · obtain ⟨m, hm, hR⟩ := Q
              exact (lp m).2.2 _ hR (gxo.wr (gxo.wr (gxo.wr (gxo.wr (gxo.wr gxo.rf (by simp)) (by simp)) (by simp)) (by simp)) (by simp))
        · obtain ⟨m, hm, hR⟩ := Q
          exact (lp m).2.1 _ hR (gxo.wr (gxo.wr (gxo.wr (gxo.wr gxo.rf (by simp)) (by simp)) (by simp)) (by simp))
    · rw [Q.2]; exact (gxo.wr (gxo.wr (gxo.wr gxo.rf (by simp)) (by simp)) (by simp))
  · refine fo_if fo_eq Q (fun Q => ?_) (fun Q => ?_)
    · obtain ⟨m, hm, hR⟩ := Q
      exact (lp m).1 _ hR (gxo.wr gxo.rf (by simp))
    · refine fo_if fo_ne Q (fun Q => ?_) (fun Q => ?_)
      · refine fo_if fo_lt Q (fun Q => ?_) (fun Q => ?_)
        · refine fo_if fo_lt Q (fun Q => ?_) (fun Q => ?_)
          · refine fo_if fo_lt Q (fun Q => ?_) (fun Q => ?_)
            · refine fo_if fo_eq Q (fun Q => ?_) (fun Q => ?_)
              · rw [Q.2]; exact (gxo.wr (gxo.wr (gxo.wr (gxo.wr gxo.rf (by simp)) (by simp)) (by simp)) (by simp))
              · refine fo_if fo_eq Q (fun Q => ?_) (fun Q => ?_)
                · rw [Q.2]; exact (gxo.wr (gxo.wr (gxo.wr (gxo.wr gxo.rf (by simp)) (by simp)) (by simp)) (by simp))
                · refine fo_if fo_eq Q (fun Q => ?_) (fun Q => ?_)
                  · rw [Q.2]; exact (gxo.wr (gxo.wr (gxo.wr (gxo.wr gxo.rf (by simp)) (by simp)) (by simp)) (by simp))
                  · refine fo_if fo_eq Q (fun Q => ?_) (fun Q => ?_)
                    · rw [Q.2]; exact (gxo.wr (gxo.wr (gxo.wr (gxo.wr gxo.rf (by simp)) (by simp)) (by simp)) (by simp))
                    · refine fo_if fo_eq Q (fun Q => ?_) (fun Q => ?_)
                      · rw [Q.2]; exact (gxo.wr (gxo.wr (gxo.wr (gxo.wr gxo.rf (by simp)) (by simp)) (by simp)) (by simp))
                      · refine fo_if fo_eq Q (fun Q => ?_) (fun Q => ?_)
                        · rw [Q.2]; exact (gxo.wr (gxo.wr (gxo.wr (gxo.wr gxo.rf (by simp)) (by simp)) (by simp)) (by simp))
                        · refine fo_if fo_eq Q (fun Q => ?_) (fun Q => ?_)
                          · rw [Q.2]; exact (gxo.wr (gxo.wr (gxo.wr (gxo.wr gxo.rf (by simp)) (by simp)) (by simp)) (by simp))
                          · refine fo_if fo_ne Q (fun Q => ?_) (fun Q => ?_)
                            · rw [Q.2]; exact (gxo.wr (gxo.wr (gxo.wr (gxo.wr gxo.rf (by simp)) (by simp)) (by simp)) (by simp))
                            · rw [Q.2]; exact (gxo.wr (gxo.wr (gxo.wr (gxo.wr gxo.rf (by simp)) (by simp)) (by simp)) (by simp))
            · refine fo_if fo_lt Q (fun Q => ?_) (fun Q => ?_)
              · refine fo_if fo_eq Q (fun Q => ?_) (fun Q => ?_)
                · rw [Q.2]; exact (gxo.wr (gxo.wr (gxo.wr (gxo.wr gxo.rf (by simp)) (by simp)) (by simp)) (by simp))
                · refine fo_if fo_eq Q (fun Q => ?_) (fun Q => ?_)
                  · rw [Q.2]; exact (gxo.wr (gxo.wr (gxo.wr (gxo.wr gxo.rf (by simp)) (by simp)) (by simp)) (by simp))
                  · refine fo_if fo_eq Q (fun Q => ?_) (fun Q => ?_)
                    · rw [Q.2]; exact (gxo.wr (gxo.wr (gxo.wr (gxo.wr gxo.rf (by simp)) (by simp)) (by simp)) (by simp))
                    · refine fo_if fo_eq Q (fun Q => ?_) (fun Q => ?_)
                      · rw [Q.2]; exact (gxo.wr (gxo.wr (gxo.wr (gxo.wr gxo.rf (by simp)) (by simp)) (by simp)) (by simp))
                      · refine fo_if fo_eq Q (fun Q => ?_) (fun Q => ?_)
                        · rw [Q.2]; exact (gxo.wr (gxo.wr (gxo.wr (gxo.wr gxo.rf (by simp)) (by simp)) (by simp)) (by simp))
                        · refine fo_if fo_eq Q (fun Q => ?_) (fun Q => ?_)
                          · rw [Q.2]; exact (gxo.wr (gxo.wr (gxo.wr (gxo.wr gxo.rf (by simp)) (by simp)) (by simp)) (by simp))
                          · refine fo_if fo_eq Q (fun Q => ?_) (fun Q => ?_)
                            · rw [Q.2]; exact (gxo.wr (gxo.wr (gxo.wr (gxo.wr gxo.rf (by simp)) (by simp)) (by simp)) (by simp))
                            · refine fo_if fo_ne Q (fun Q => ?_) (fun Q => ?_)
                              · rw [Q.2]; exact (gxo.wr (gxo.wr (gxo.wr (gxo.wr gxo.rf (by simp)) (by simp)) (by simp)) (by simp))
                              · rw [Q.2]; exact (gxo.wr (gxo.wr (gxo.wr (gxo.wr gxo.rf (by simp)) (by simp)) (by simp)) (by simp))
              · obtain ⟨m, hm, hR⟩ := Q
                exact (lp m).2.2 _ hR (gxo.wr (gxo.wr (gxo.wr (gxo.wr (gxo.wr gxo.rf (by simp)) (by simp)) (by simp)) (by simp)) (by simp))
          · refine fo_if fo_lt Q (fun Q => ?_) (fun Q => ?_)
            · refine fo_if fo_lt Q (fun Q => ?_) (fun Q => ?_)
              · refine fo_if fo_eq Q (fun Q => ?_) (fun Q => ?_)
                · rw [Q.2]; exact (gxo.wr (gxo.wr (gxo.wr (gxo.wr gxo.rf (by simp)) (by simp)) (by simp)) (by simp))
                · refine fo_if fo_eq Q (fun Q => ?_) (fun Q => ?_)
                  · rw [Q.2]; exact (gxo.wr (gxo.wr (gxo.wr (gxo.wr gxo.rf (by simp)) (by simp)) (by simp)) (by simp))
                  · refine fo_if fo_eq Q (fun Q => ?_) (fun Q => ?_)
                    · rw [Q.2]; exact (gxo.wr (gxo.wr (gxo.wr (gxo.wr gxo.rf (by simp)) (by simp)) (by simp)) (by simp))
                    · refine fo_if fo_eq Q (fun Q => ?_) (fun Q => ?_)
                      · rw [Q.2]; exact (gxo.wr (gxo.wr (gxo.wr (gxo.wr gxo.rf (by simp)) (by simp)) (by simp)) (by simp))
                      · refine fo_if fo_eq Q (fun Q => ?_) (fun Q => ?_)
                        · rw [Q.2]; exact (gxo.wr (gxo.wr (gxo.wr (gxo.wr gxo.rf (by simp)) (by simp)) (by simp)) (by simp))
                        · refine fo_if fo_eq Q (fun Q => ?_) (fun Q => ?_)
                          · rw [Q.2]; exact (gxo.wr (gxo.wr (gxo.wr (gxo.wr gxo.rf (by simp)) (by simp)) (by simp)) (by simp))
                          · refine fo_if fo_eq Q (fun Q => ?_) (fun Q => ?_)
                            · rw [Q.2]; exact (gxo.wr (gxo.wr (gxo.wr (gxo.wr gxo.rf (by simp)) (by simp)) (by simp)) (by simp))
                            · refine fo_if fo_ne Q (fun Q => ?_) (fun Q => ?_)
                              · rw [Q.2]; exact (gxo.wr (gxo.wr (gxo.wr (gxo.wr gxo.rf (by simp)) (by simp)) (by simp)) (by simp))
                              · rw [Q.2]; exact (gxo.wr (gxo.wr (gxo.wr (gxo.wr gxo.rf (by simp)) (by simp)) (by simp)) (by simp))
              · refine fo_if fo_lt Q (fun Q => ?_) (fun Q => ?_)
                · refine fo_if fo_eq Q (fun Q => ?_) (fun Q => ?_)
                  · rw [Q.2]; exact (gxo.wr (gxo.wr (gxo.wr (gxo.wr gxo.rf (by simp)) (by simp)) (by simp)) (by simp))
                  · refine fo_if fo_eq Q (fun Q => ?_) (fun Q => ?_)
                    · rw [Q.2]; exact (gxo.wr (gxo.wr (gxo.wr (gxo.wr gxo.rf (by simp)) (by simp)) (by simp)) (by simp))
                    · refine fo_if fo_eq Q (fun Q => ?_) (fun Q => ?_)
                      · rw [Q.2]; exact (gxo.wr (gxo.wr (gxo.wr (gxo.wr gxo.rf (by simp)) (by simp)) (by simp)) (by simp))
                      · refine fo_if fo_eq Q (fun Q => ?_) (fun Q => ?_)
                        · rw [Q.2]; exact (gxo.wr (gxo.wr (gxo.wr (gxo.wr gxo.rf (by simp)) (by simp)) (by simp)) (by simp))
                        · refine fo_if fo_eq Q (fun Q => ?_) (fun Q => ?_)
                          · rw [Q.2]; exact (gxo.wr (gxo.wr (gxo.wr (gxo.wr gxo.rf (by simp)) (by simp)) (by simp)) (by simp))
                          · refine fo_if fo_eq Q (fun Q => ?_) (fun Q => ?_)
                            · rw [Q.2]; exact (gxo.wr (gxo.wr (gxo.wr (gxo.wr gxo.rf (by simp)) (by simp)) (by simp)) (by simp))
                            · refine fo_if fo_eq Q (fun Q => ?_) (fun Q => ?_)
                              · rw [Q.2]; exact (gxo.wr (gxo.wr (gxo.wr (gxo.wr gxo.rf (by simp)) (by simp)) (by simp)) (by simp))
                              · refine fo_if fo_ne Q (fun Q => ?_) (fun Q => ?_)
                                · rw [Q.2]; exact (gxo.wr (gxo.wr (gxo.wr (gxo.wr gxo.rf (by simp)) (by simp)) (by simp)) (by simp))
                                · rw [Q.2]; exact (gxo.wr (gxo.wr (gxo.wr (gxo.wr gxo.rf (by simp)) (by simp)) (by simp)) (by simp))
                · obtain ⟨m, hm, hR⟩ := Q
                  exact (lp m).2.2 _ hR (gxo.wr (gxo.wr (gxo.wr (gxo.wr (gxo.wr gxo.rf (by simp)) (by simp)) (by simp)) (by simp)) (by simp))
            · obtain ⟨m, hm, hR⟩ := Q
              exact (lp m).2.1 _ hR (gxo.wr (gxo.wr (gxo.wr (gxo.wr gxo.rf (by simp)) (by simp)) (by simp)) (by simp))
        · rw [Q.2]; exact (gxo.wr (gxo.wr (gxo.wr gxo.rf (by simp)) (by simp)) (by simp))
      · obtain ⟨m, hm, hR⟩ := Q
        exact (lp m).1 _ hR (gxo.wr gxo.rf (by simp))
theorem w_Rd_fail {a1 : Nat} {F : fx_F} {v : fx_V} {F' : fx_F} (h : Cl k_Rd_fail [(2, 10), (0, a1)] F v F') : gxo [10] [] F F' := by
  obtain ⟨n, h⟩ := c_Rd_fail h
  have Q := q_Rd_fail_0 h
  rw [Q.2]; exact (gxo.wr (gxo.wr gxo.rf (by simp)) (by simp))
theorem w_Rd_readSign {a1 : Nat} {F : fx_F} {v : fx_V} {F' : fx_F} (h : Cl k_Rd_readSign [(2, 10), (0, a1)] F v F') : gxo [10] [] F F' := by
  obtain ⟨n, h⟩ := c_Rd_readSign h
  have Q := q_Rd_readSign_0 h
  refine fo_if fo_eq Q (fun Q => ?_) (fun Q => ?_)
  · obtain ⟨H1, c1, Q⟩ := Q
    have o1 : gxo [10] [] F H1 := gxo.tr gxo.rf (gxo.mono (w_Rd_advance c1) (by intro q hq; simp at hq ⊢; try omega) (by intro q hq; simp at hq ⊢; try omega))
    rw [Q.2]; exact o1
  · obtain ⟨r2, H2, c2, Q⟩ := Q
    have o2 : gxo [10] [] F H2 := gxo.tr gxo.rf (gxo.mono (w_Rd_fail c2) (by intro q hq; simp at hq ⊢; try omega) (by intro q hq; simp at hq ⊢; try omega))
    rw [Q.2]; exact o2
theorem w_Rd_closeLine {F : fx_F} {v : fx_V} {F' : fx_F} (h : Cl k_Rd_closeLine [(2, 10)] F v F') : gxo [10] [] F F' := by
  obtain ⟨n, h⟩ := c_Rd_closeLine h
  have Q := q_Rd_closeLine_0 h
  obtain ⟨H1, c1, Q⟩ := Q
  have o1 : gxo [10] [] F H1 := gxo.tr gxo.rf (gxo.mono (w_Rd_advance c1) (by intro q hq; simp at hq ⊢; try omega) (by intro q hq; simp at hq ⊢; try omega))
  obtain ⟨r2, H2, c2, Q⟩ := Q
  have o2 : gxo [10] [] F H2 := gxo.tr o1 (gxo.mono (w_Rd_readSign c2) (by intro q hq; simp at hq ⊢; try omega) (by intro q hq; simp at hq ⊢; try omega))
  rw [Q.2]; exact o2
theorem w_Rd_isWord {a1 : Nat} {F : fx_F} {v : fx_V} {F' : fx_F} (h : Cl k_Rd_isWord [(2, 10), (2, a1)] F v F') : gxo [] [] F F' := by
  obtain ⟨n, h⟩ := c_Rd_isWord h
  have lp : ∀ n : Nat, (∀ (l1 l2 : Nat) (F2 : fx_F), Rn n k_Rd_isWord 28 [(2, 10), (2, l1), (0, l2)] [] F2 v F' → gxo [] [] F F2 → gxo [] [] F F') := by
    intro n
    induction n using Nat.strongRecOn with
    | ind n ih =>
      refine fun l1 l2 F2 h ho => ?_
      · have Q := q_Rd_isWord_28 h
        clear h
        obtain ⟨r1, Q⟩ := Q
        refine fo_if fo_le Q (fun Q => ?_) (fun Q => ?_)
        · rw [Q.2]; exact ho
        · obtain ⟨r2, Q⟩ := Q
          refine fo_if fo_eq Q (fun Q => ?_) (fun Q => ?_)
          · obtain ⟨m, hm, hR⟩ := Q
            exact (ih m hm) _ _ _ hR ho
          · rw [Q.2]; exact ho
  have Q := q_Rd_isWord_0 h
  refine fo_if fo_ne Q (fun Q => ?_) (fun Q => ?_)
  · rw [Q.2]; exact gxo.rf
  · obtain ⟨r1, Q⟩ := Q
    refine fo_if fo_eq Q (fun Q => ?_) (fun Q => ?_)
    · obtain ⟨m, hm, hR⟩ := Q
      exact (lp m) _ _ _ hR gxo.rf
    · rw [Q.2]; exact gxo.rf
theorem w_Net_joins {p a1 a2 : Nat} {F : fx_F} {v : fx_V} {F' : fx_F} (h : Cl k_Net_joins [(2, p), (0, a1), (0, a2)] F v F') : gxo [] [] F F' := by
  obtain ⟨n, h⟩ := c_Net_joins h
  have lp : ∀ n : Nat, (∀ (l1 l2 l3 : Nat) (F2 : fx_F), Rn n k_Net_joins 2 [(2, p), (0, l1), (0, l2), (0, l3)] [] F2 v F' → gxo [] [] F F2 → gxo [] [] F F') := by
    intro n
    induction n using Nat.strongRecOn with
    | ind n ih =>
      refine fun l1 l2 l3 F2 h ho => ?_
      · have Q := q_Net_joins_2 h
        clear h
        refine fo_if fo_le Q (fun Q => ?_) (fun Q => ?_)
        · rw [Q.2]; exact ho
        · refine fo_if fo_ne Q (fun Q => ?_) (fun Q => ?_)
          · obtain ⟨m, hm, hR⟩ := Q
            exact (ih m hm) _ _ _ _ hR ho
          · refine fo_if fo_ne Q (fun Q => ?_) (fun Q => ?_)
            · obtain ⟨m, hm, hR⟩ := Q
              exact (ih m hm) _ _ _ _ hR ho
            · rw [Q.2]; exact ho
  have Q := q_Net_joins_0 h
  obtain ⟨m, hm, hR⟩ := Q
  exact (lp m) _ _ _ _ hR gxo.rf
theorem w_Rd_readNumber {a1 a2 : Nat} {F : fx_F} {v : fx_V} {F' : fx_F} (h : Cl k_Rd_readNumber [(2, 10), (0, a1), (0, a2)] F v F') : gxo [10] [] F F' := by
  obtain ⟨n, h⟩ := c_Rd_readNumber h
  have Q := q_Rd_readNumber_0 h
  obtain ⟨H1, c1, Q⟩ := Q
  have o1 : gxo [10] [] F H1 := gxo.tr gxo.rf (gxo.mono (w_Rd_advance c1) (by intro q hq; simp at hq ⊢; try omega) (by intro q hq; simp at hq ⊢; try omega))
  refine fo_if fo_eq Q (fun Q => ?_) (fun Q => ?_)
  · refine fo_if fo_lt Q (fun Q => ?_) (fun Q => ?_)
    · obtain ⟨r2, H2, c2, Q⟩ := Q
      have o2 : gxo [10] [] F H2 := gxo.tr o1 (gxo.mono (w_Rd_fail c2) (by intro q hq; simp at hq ⊢; try omega) (by intro q hq; simp at hq ⊢; try omega))
      rw [Q.2]; exact o2
    · refine fo_if fo_le Q (fun Q => ?_) (fun Q => ?_)
      · rw [Q.2]; exact o1
      · obtain ⟨r3, H3, c3, Q⟩ := Q
        have o3 : gxo [10] [] F H3 := gxo.tr o1 (gxo.mono (w_Rd_fail c3) (by intro q hq; simp at hq ⊢; try omega) (by intro q hq; simp at hq ⊢; try omega))
        rw [Q.2]; exact o3
  · obtain ⟨r4, H4, c4, Q⟩ := Q
    have o4 : gxo [10] [] F H4 := gxo.tr o1 (gxo.mono (w_Rd_fail c4) (by intro q hq; simp at hq ⊢; try omega) (by intro q hq; simp at hq ⊢; try omega))
    rw [Q.2]; exact o4
theorem w_Rd_readLink {F : fx_F} {v : fx_V} {F' : fx_F} (h : Cl k_Rd_readLink [(2, 10)] F v F') : gxo [10, 12, 14, 13] [] F F' := by
  obtain ⟨n, h⟩ := c_Rd_readLink h
  have Q := q_Rd_readLink_0 h
  refine fo_if fo_lt Q (fun Q => ?_) (fun Q => ?_)
  · obtain ⟨r1, H1, c1, Q⟩ := Q
    have o1 : gxo [10, 12, 14, 13] [] F H1 := gxo.tr gxo.rf (gxo.mono (w_Rd_readNumber c1) (by intro q hq; simp at hq ⊢; try omega) (by intro q hq; simp at hq ⊢; try omega))
    refine fo_if fo_ne Q (fun Q => ?_) (fun Q => ?_)
    · obtain ⟨r2, H2, c2, Q⟩ := Q
      have o2 : gxo [10, 12, 14, 13] [] F H2 := gxo.tr o1 (gxo.mono (w_Rd_readNumber c2) (by intro q hq; simp at hq ⊢; try omega) (by intro q hq; simp at hq ⊢; try omega))
      refine fo_if fo_ne Q (fun Q => ?_) (fun Q => ?_)
      · refine fo_if fo_ne Q (fun Q => ?_) (fun Q => ?_)
        · obtain ⟨r3, H3, c3, Q⟩ := Q
          have o3 : gxo [10, 12, 14, 13] [] F H3 := gxo.tr o2 (gxo.mono (w_Net_joins c3) (by intro q hq; simp at hq ⊢; try omega) (by intro q hq; simp at hq ⊢; try omega))
          refine fo_if fo_eq Q (fun Q => ?_) (fun Q => ?_)
          · obtain ⟨r4, H4, c4, Q⟩ := Q
            have o4 : gxo [10, 12, 14, 13] [] F H4 := gxo.tr (gxo.wr (gxo.wr (gxo.wr (gxo.wr (gxo.wr o3 (by simp)) (by simp)) (by simp)) (by simp)) (by simp)) (gxo.mono (w_Rd_closeLine c4) (by intro q hq; simp at hq ⊢; try omega) (by intro q hq; simp at hq ⊢; try omega))
            rw [Q.2]; exact o4
          · obtain ⟨r5, H5, c5, Q⟩ := Q
            have o5 : gxo [10, 12, 14, 13] [] F H5 := gxo.tr o3 (gxo.mono (w_Rd_fail c5) (by intro q hq; simp at hq ⊢; try omega) (by intro q hq; simp at hq ⊢; try omega))
            rw [Q.2]; exact o5
        · obtain ⟨r6, H6, c6, Q⟩ := Q
          have o6 : gxo [10, 12, 14, 13] [] F H6 := gxo.tr o2 (gxo.mono (w_Rd_fail c6) (by intro q hq; simp at hq ⊢; try omega) (by intro q hq; simp at hq ⊢; try omega))
          rw [Q.2]; exact o6
      · rw [Q.2]; exact o2
    · rw [Q.2]; exact o1
  · obtain ⟨r7, H7, c7, Q⟩ := Q
    have o7 : gxo [10, 12, 14, 13] [] F H7 := gxo.tr gxo.rf (gxo.mono (w_Rd_fail c7) (by intro q hq; simp at hq ⊢; try omega) (by intro q hq; simp at hq ⊢; try omega))
    rw [Q.2]; exact o7
theorem w_Rd_unitKind {F : fx_F} {v : fx_V} {F' : fx_F} (h : Cl k_Rd_unitKind [(2, 10)] F v F') : gxo [] [] F F' := by
  obtain ⟨n, h⟩ := c_Rd_unitKind h
  have Q := q_Rd_unitKind_0 h
  refine fo_if fo_ne Q (fun Q => ?_) (fun Q => ?_)
  · refine fo_if fo_ne Q (fun Q => ?_) (fun Q => ?_)
    · refine fo_if fo_ne Q (fun Q => ?_) (fun Q => ?_)
      · obtain ⟨r1, H1, c1, Q⟩ := Q
        have o1 : gxo [] [] F H1 := gxo.tr gxo.rf (gxo.mono (w_Rd_isWord c1) (by intro q hq; simp at hq ⊢; try omega) (by intro q hq; simp at hq ⊢; try omega))
        refine fo_if fo_eq Q (fun Q => ?_) (fun Q => ?_)
        · obtain ⟨r2, H2, c2, Q⟩ := Q
          have o2 : gxo [] [] F H2 := gxo.tr o1 (gxo.mono (w_Rd_isWord c2) (by intro q hq; simp at hq ⊢; try omega) (by intro q hq; simp at hq ⊢; try omega))
          refine fo_if fo_eq Q (fun Q => ?_) (fun Q => ?_)
          · obtain ⟨r3, H3, c3, Q⟩ := Q
            have o3 : gxo [] [] F H3 := gxo.tr o2 (gxo.mono (w_Rd_isWord c3) (by intro q hq; simp at hq ⊢; try omega) (by intro q hq; simp at hq ⊢; try omega))
            refine fo_if fo_eq Q (fun Q => ?_) (fun Q => ?_)
            · rw [Q.2]; exact o3
            · rw [Q.2]; exact o3
          · rw [Q.2]; exact o2
        · rw [Q.2]; exact o1
      · rw [Q.2]; exact gxo.rf
    · rw [Q.2]; exact gxo.rf
  · rw [Q.2]; exact gxo.rf
theorem w_Rd_readUnit6 {F : fx_F} {v : fx_V} {F' : fx_F} (h : Cl k_Rd_readUnit6 [(2, 10), (0, 6)] F v F') : gxo [10] [] F F' := by
  obtain ⟨n, h⟩ := c_Rd_readUnit6 h
  have Q := q_Rd_readUnit6_0 h
  obtain ⟨r1, H1, c1, Q⟩ := Q
  have o1 : gxo [10] [] F H1 := gxo.tr gxo.rf (gxo.mono (w_Rd_unitKind c1) (by intro q hq; simp at hq ⊢; try omega) (by intro q hq; simp at hq ⊢; try omega))
  refine fo_if fo_ne Q (fun Q => ?_) (fun Q => ?_)
  · refine fo_if fo_ne Q (fun Q => ?_) (fun Q => ?_)
    · refine fo_if fo_le Q (fun Q => ?_) (fun Q => ?_)
      · obtain ⟨r2, H2, c2, Q⟩ := Q
        have o2 : gxo [10] [] F H2 := gxo.tr o1 (gxo.mono (w_Rd_fail c2) (by intro q hq; simp at hq ⊢; try omega) (by intro q hq; simp at hq ⊢; try omega))
        rw [Q.2]; exact o2
      · have Q := Q.2 (by rw [b_lt (by decide) (by decide)] <;> decide)
        obtain ⟨r3, H3, c3, Q⟩ := Q
        have o3 : gxo [10] [] F H3 := gxo.tr o1 (gxo.mono (w_Rd_fail c3) (by intro q hq; simp at hq ⊢; try omega) (by intro q hq; simp at hq ⊢; try omega))
        rw [Q.2]; exact o3
    · refine fo_if fo_le Q (fun Q => ?_) (fun Q => ?_)
      · refine fo_if fo_le Q (fun Q => ?_) (fun Q => ?_)
        · obtain ⟨r4, H4, c4, Q⟩ := Q
          have o4 : gxo [10] [] F H4 := gxo.tr o1 (gxo.mono (w_Rd_fail c4) (by intro q hq; simp at hq ⊢; try omega) (by intro q hq; simp at hq ⊢; try omega))
          rw [Q.2]; exact o4
        · have Q := Q.2 (by rw [b_lt (by decide) (by decide)] <;> decide)
          obtain ⟨r5, H5, c5, Q⟩ := Q
          have o5 : gxo [10] [] F H5 := gxo.tr o1 (gxo.mono (w_Rd_fail c5) (by intro q hq; simp at hq ⊢; try omega) (by intro q hq; simp at hq ⊢; try omega))
          rw [Q.2]; exact o5
      · obtain ⟨r6, H6, c6, Q⟩ := Q
        have o6 : gxo [10] [] F H6 := gxo.tr o1 (gxo.mono (w_Rd_fail c6) (by intro q hq; simp at hq ⊢; try omega) (by intro q hq; simp at hq ⊢; try omega))
        rw [Q.2]; exact o6
  · obtain ⟨r7, H7, c7, Q⟩ := Q
    have o7 : gxo [10] [] F H7 := gxo.tr o1 (gxo.mono (w_Rd_fail c7) (by intro q hq; simp at hq ⊢; try omega) (by intro q hq; simp at hq ⊢; try omega))
    rw [Q.2]; exact o7
theorem w_Rd_readProduct6 {F : fx_F} {v : fx_V} {F' : fx_F} (h : Cl k_Rd_readProduct6 [(2, 10), (0, 6)] F v F') : gxo [10, 12, 18, 17] [] F F' := by
  obtain ⟨n, h⟩ := c_Rd_readProduct6 h
  have lp : ∀ n : Nat, (∀ (l2 : Nat) (F2 : fx_F), Rn n k_Rd_readProduct6 12 [(2, 10), (0, 6), (0, l2), (3, 0)] [] F2 v F' → gxo [10, 12, 18, 17] [] F F2 → gxo [10, 12, 18, 17] [] F F') := by
    intro n
    induction n using Nat.strongRecOn with
    | ind n ih =>
      refine fun l2 F2 h ho => ?_
      · have Q := q_Rd_readProduct6_12 h
        clear h
        refine fo_if fo_le Q (fun Q => ?_) (fun Q => ?_)
        · rw [Q.2]; exact ho
        · refine fo_if fo_eq Q (fun Q => ?_) (fun Q => ?_)
          · obtain ⟨H1, c1, Q⟩ := Q
            have o1 : gxo [10, 12, 18, 17] [] F H1 := gxo.tr ho (gxo.mono (w_Rd_advance c1) (by intro q hq; simp at hq ⊢; try omega) (by intro q hq; simp at hq ⊢; try omega))
            obtain ⟨r2, H2, c2, Q⟩ := Q
            have o2 : gxo [10, 12, 18, 17] [] F H2 := gxo.tr o1 (gxo.mono (w_Rd_readUnit6 c2) (by intro q hq; simp at hq ⊢; try omega) (by intro q hq; simp at hq ⊢; try omega))
            refine fo_if fo_ne Q (fun Q => ?_) (fun Q => ?_)
            · refine fo_if fo_le Q (fun Q => ?_) (fun Q => ?_)
              · obtain ⟨m, hm, hR⟩ := Q
                exact (ih m hm) _ _ hR o2
              · obtain ⟨m, hm, hR⟩ := Q
                exact (ih m hm) _ _ hR (gxo.wr (gxo.wr (gxo.wr o2 (by simp)) (by simp)) (by simp))
            · rw [Q.2]; exact o2
          · refine fo_if fo_eq Q (fun Q => ?_) (fun Q => ?_)
            · obtain ⟨H3, c3, Q⟩ := Q
              have o3 : gxo [10, 12, 18, 17] [] F H3 := gxo.tr ho (gxo.mono (w_Rd_advance c3) (by intro q hq; simp at hq ⊢; try omega) (by intro q hq; simp at hq ⊢; try omega))
              obtain ⟨r4, H4, c4, Q⟩ := Q
              have o4 : gxo [10, 12, 18, 17] [] F H4 := gxo.tr o3 (gxo.mono (w_Rd_readUnit6 c4) (by intro q hq; simp at hq ⊢; try omega) (by intro q hq; simp at hq ⊢; try omega))
              refine fo_if fo_ne Q (fun Q => ?_) (fun Q => ?_)
              · refine fo_if fo_le Q (fun Q => ?_) (fun Q => ?_)
                · obtain ⟨m, hm, hR⟩ := Q
                  exact (ih m hm) _ _ hR o4
                · obtain ⟨m, hm, hR⟩ := Q
                  exact (ih m hm) _ _ hR (gxo.wr (gxo.wr (gxo.wr o4 (by simp)) (by simp)) (by simp))
              · rw [Q.2]; exact o4
            · refine fo_if fo_ne Q (fun Q => ?_) (fun Q => ?_)
              · rw [Q.2]; exact ho
              · obtain ⟨H5, c5, Q⟩ := Q
                have o5 : gxo [10, 12, 18, 17] [] F H5 := gxo.tr ho (gxo.mono (w_Rd_advance c5) (by intro q hq; simp at hq ⊢; try omega) (by intro q hq; simp at hq ⊢; try omega))
                obtain ⟨r6, H6, c6, Q⟩ := Q
                have o6 : gxo [10, 12, 18, 17] [] F H6 := gxo.tr o5 (gxo.mono (w_Rd_readUnit6 c6) (by intro q hq; simp at hq ⊢; try omega) (by intro q hq; simp at hq ⊢; try omega))
                refine fo_if fo_ne Q (fun Q => ?_) (fun Q => ?_)
                · refine fo_if fo_le Q (fun Q => ?_) (fun Q => ?_)
                  · obtain ⟨m, hm, hR⟩ := Q
                    exact (ih m hm) _ _ hR o6
                  · obtain ⟨m, hm, hR⟩ := Q
                    exact (ih m hm) _ _ hR (gxo.wr (gxo.wr (gxo.wr o6 (by simp)) (by simp)) (by simp))
                · rw [Q.2]; exact o6
  have Q := q_Rd_readProduct6_0 h
  obtain ⟨r1, H1, c1, Q⟩ := Q
  have o1 : gxo [10, 12, 18, 17] [] F H1 := gxo.tr gxo.rf (gxo.mono (w_Rd_readUnit6 c1) (by intro q hq; simp at hq ⊢; try omega) (by intro q hq; simp at hq ⊢; try omega))
  refine fo_if fo_ne Q (fun Q => ?_) (fun Q => ?_)
  · obtain ⟨m, hm, hR⟩ := Q
    exact (lp m) _ _ hR o1
  · rw [Q.2]; exact o1
theorem w_Rd_readSum6 {F : fx_F} {v : fx_V} {F' : fx_F} (h : Cl k_Rd_readSum6 [(2, 10), (0, 6)] F v F') : gxo [10, 12, 18, 17] [] F F' := by
  obtain ⟨n, h⟩ := c_Rd_readSum6 h
  have lp : ∀ n : Nat, (∀ (l2 : Nat) (F2 : fx_F), Rn n k_Rd_readSum6 12 [(2, 10), (0, 6), (0, l2), (3, 0)] [] F2 v F' → gxo [10, 12, 18, 17] [] F F2 → gxo [10, 12, 18, 17] [] F F') := by
    intro n
    induction n using Nat.strongRecOn with
    | ind n ih =>
      refine fun l2 F2 h ho => ?_
      · have Q := q_Rd_readSum6_12 h
        clear h
        refine fo_if fo_le Q (fun Q => ?_) (fun Q => ?_)
        · rw [Q.2]; exact ho
        · refine fo_if fo_eq Q (fun Q => ?_) (fun Q => ?_)
          · obtain ⟨H1, c1, Q⟩ := Q
            have o1 : gxo [10, 12, 18, 17] [] F H1 := gxo.tr ho (gxo.mono (w_Rd_advance c1) (by intro q hq; simp at hq ⊢; try omega) (by intro q hq; simp at hq ⊢; try omega))
            obtain ⟨r2, H2, c2, Q⟩ := Q
            have o2 : gxo [10, 12, 18, 17] [] F H2 := gxo.tr o1 (gxo.mono (w_Rd_readProduct6 c2) (by intro q hq; simp at hq ⊢; try omega) (by intro q hq; simp at hq ⊢; try omega))
            refine fo_if fo_ne Q (fun Q => ?_) (fun Q => ?_)
            · refine fo_if fo_le Q (fun Q => ?_) (fun Q => ?_)
              · obtain ⟨m, hm, hR⟩ := Q
                exact (ih m hm) _ _ hR o2
              · obtain ⟨m, hm, hR⟩ := Q
                exact (ih m hm) _ _ hR (gxo.wr (gxo.wr (gxo.wr o2 (by simp)) (by simp)) (by simp))
            · rw [Q.2]; exact o2
          · refine fo_if fo_ne Q (fun Q => ?_) (fun Q => ?_)
            · rw [Q.2]; exact ho
            · obtain ⟨H3, c3, Q⟩ := Q
              have o3 : gxo [10, 12, 18, 17] [] F H3 := gxo.tr ho (gxo.mono (w_Rd_advance c3) (by intro q hq; simp at hq ⊢; try omega) (by intro q hq; simp at hq ⊢; try omega))
              obtain ⟨r4, H4, c4, Q⟩ := Q
              have o4 : gxo [10, 12, 18, 17] [] F H4 := gxo.tr o3 (gxo.mono (w_Rd_readProduct6 c4) (by intro q hq; simp at hq ⊢; try omega) (by intro q hq; simp at hq ⊢; try omega))
              refine fo_if fo_ne Q (fun Q => ?_) (fun Q => ?_)
              · refine fo_if fo_le Q (fun Q => ?_) (fun Q => ?_)
                · obtain ⟨m, hm, hR⟩ := Q
                  exact (ih m hm) _ _ hR o4
                · obtain ⟨m, hm, hR⟩ := Q
                  exact (ih m hm) _ _ hR (gxo.wr (gxo.wr (gxo.wr o4 (by simp)) (by simp)) (by simp))
              · rw [Q.2]; exact o4
  have Q := q_Rd_readSum6_0 h
  obtain ⟨r1, H1, c1, Q⟩ := Q
  have o1 : gxo [10, 12, 18, 17] [] F H1 := gxo.tr gxo.rf (gxo.mono (w_Rd_readProduct6 c1) (by intro q hq; simp at hq ⊢; try omega) (by intro q hq; simp at hq ⊢; try omega))
  refine fo_if fo_ne Q (fun Q => ?_) (fun Q => ?_)
  · obtain ⟨m, hm, hR⟩ := Q
    exact (lp m) _ _ hR o1
  · rw [Q.2]; exact o1
theorem w_Rd_readUnit5 {F : fx_F} {v : fx_V} {F' : fx_F} (h : Cl k_Rd_readUnit5 [(2, 10), (0, 5)] F v F') : gxo [10, 12, 18, 17] [] F F' := by
  obtain ⟨n, h⟩ := c_Rd_readUnit5 h
  have Q := q_Rd_readUnit5_0 h
  rw [show i_add 5 1 = 6 from b_add (by decide)] at Q
  obtain ⟨r1, H1, c1, Q⟩ := Q
  have o1 : gxo [10, 12, 18, 17] [] F H1 := gxo.tr gxo.rf (gxo.mono (w_Rd_unitKind c1) (by intro q hq; simp at hq ⊢; try omega) (by intro q hq; simp at hq ⊢; try omega))
  refine fo_if fo_ne Q (fun Q => ?_) (fun Q => ?_)
  · refine fo_if fo_ne Q (fun Q => ?_) (fun Q => ?_)
    · refine fo_if fo_le Q (fun Q => ?_) (fun Q => ?_)
      · obtain ⟨r2, H2, c2, Q⟩ := Q
        have o2 : gxo [10, 12, 18, 17] [] F H2 := gxo.tr o1 (gxo.mono (w_Rd_fail c2) (by intro q hq; simp at hq ⊢; try omega) (by intro q hq; simp at hq ⊢; try omega))
        rw [Q.2]; exact o2
      · have Q := Q.1 (by rw [b_le (by decide) (by decide)] <;> decide)
        obtain ⟨H3, c3, Q⟩ := Q
        have o3 : gxo [10, 12, 18, 17] [] F H3 := gxo.tr (gxo.wr o1 (by simp)) (gxo.mono (w_Rd_advance c3) (by intro q hq; simp at hq ⊢; try omega) (by intro q hq; simp at hq ⊢; try omega))
        refine fo_if fo_ne Q (fun Q => ?_) (fun Q => ?_)
        · refine fo_if fo_ne Q (fun Q => ?_) (fun Q => ?_)
          · refine fo_if fo_le Q (fun Q => ?_) (fun Q => ?_)
            · rw [Q.2]; exact o3
            · rw [Q.2]; exact (gxo.wr (gxo.wr (gxo.wr o3 (by simp)) (by simp)) (by simp))
          · obtain ⟨r4, H4, c4, Q⟩ := Q
            have o4 : gxo [10, 12, 18, 17] [] F H4 := gxo.tr o3 (gxo.mono (w_Rd_readUnit6 c4) (by intro q hq; simp at hq ⊢; try omega) (by intro q hq; simp at hq ⊢; try omega))
            refine fo_if fo_ne Q (fun Q => ?_) (fun Q => ?_)
            · refine fo_if fo_le Q (fun Q => ?_) (fun Q => ?_)
              · rw [Q.2]; exact o4
              · rw [Q.2]; exact (gxo.wr (gxo.wr (gxo.wr o4 (by simp)) (by simp)) (by simp))
            · rw [Q.2]; exact o4
        · obtain ⟨r5, H5, c5, Q⟩ := Q
          have o5 : gxo [10, 12, 18, 17] [] F H5 := gxo.tr o3 (gxo.mono (w_Rd_readSum6 c5) (by intro q hq; simp at hq ⊢; try omega) (by intro q hq; simp at hq ⊢; try omega))
          refine fo_if fo_eq Q (fun Q => ?_) (fun Q => ?_)
          · rw [Q.2]; exact o5
          · obtain ⟨r6, H6, c6, Q⟩ := Q
            have o6 : gxo [10, 12, 18, 17] [] F H6 := gxo.tr o5 (gxo.mono (w_Rd_readSign c6) (by intro q hq; simp at hq ⊢; try omega) (by intro q hq; simp at hq ⊢; try omega))
            refine fo_if fo_eq Q (fun Q => ?_) (fun Q => ?_)
            · rw [Q.2]; exact o6
            · rw [Q.2]; exact o6
    · refine fo_if fo_le Q (fun Q => ?_) (fun Q => ?_)
      · refine fo_if fo_le Q (fun Q => ?_) (fun Q => ?_)
        · obtain ⟨r7, H7, c7, Q⟩ := Q
          have o7 : gxo [10, 12, 18, 17] [] F H7 := gxo.tr o1 (gxo.mono (w_Rd_fail c7) (by intro q hq; simp at hq ⊢; try omega) (by intro q hq; simp at hq ⊢; try omega))
          rw [Q.2]; exact o7
        · have Q := Q.1 (by rw [b_le (by decide) (by decide)] <;> decide)
          obtain ⟨H8, c8, Q⟩ := Q
          have o8 : gxo [10, 12, 18, 17] [] F H8 := gxo.tr (gxo.wr o1 (by simp)) (gxo.mono (w_Rd_advance c8) (by intro q hq; simp at hq ⊢; try omega) (by intro q hq; simp at hq ⊢; try omega))
          refine fo_if fo_ne Q (fun Q => ?_) (fun Q => ?_)
          · refine fo_if fo_ne Q (fun Q => ?_) (fun Q => ?_)
            · refine fo_if fo_le Q (fun Q => ?_) (fun Q => ?_)
              · rw [Q.2]; exact o8
              · rw [Q.2]; exact (gxo.wr (gxo.wr (gxo.wr o8 (by simp)) (by simp)) (by simp))
            · obtain ⟨r9, H9, c9, Q⟩ := Q
              have o9 : gxo [10, 12, 18, 17] [] F H9 := gxo.tr o8 (gxo.mono (w_Rd_readUnit6 c9) (by intro q hq; simp at hq ⊢; try omega) (by intro q hq; simp at hq ⊢; try omega))
              refine fo_if fo_ne Q (fun Q => ?_) (fun Q => ?_)
              · refine fo_if fo_le Q (fun Q => ?_) (fun Q => ?_)
                · rw [Q.2]; exact o9
                · rw [Q.2]; exact (gxo.wr (gxo.wr (gxo.wr o9 (by simp)) (by simp)) (by simp))
              · rw [Q.2]; exact o9
          · obtain ⟨r10, H10, c10, Q⟩ := Q
            have o10 : gxo [10, 12, 18, 17] [] F H10 := gxo.tr o8 (gxo.mono (w_Rd_readSum6 c10) (by intro q hq; simp at hq ⊢; try omega) (by intro q hq; simp at hq ⊢; try omega))
            refine fo_if fo_eq Q (fun Q => ?_) (fun Q => ?_)
            · rw [Q.2]; exact o10
            · obtain ⟨r11, H11, c11, Q⟩ := Q
              have o11 : gxo [10, 12, 18, 17] [] F H11 := gxo.tr o10 (gxo.mono (w_Rd_readSign c11) (by intro q hq; simp at hq ⊢; try omega) (by intro q hq; simp at hq ⊢; try omega))
              refine fo_if fo_eq Q (fun Q => ?_) (fun Q => ?_)
              · rw [Q.2]; exact o11
              · rw [Q.2]; exact o11
      · obtain ⟨r12, H12, c12, Q⟩ := Q
        have o12 : gxo [10, 12, 18, 17] [] F H12 := gxo.tr o1 (gxo.mono (w_Rd_fail c12) (by intro q hq; simp at hq ⊢; try omega) (by intro q hq; simp at hq ⊢; try omega))
        rw [Q.2]; exact o12
  · obtain ⟨r13, H13, c13, Q⟩ := Q
    have o13 : gxo [10, 12, 18, 17] [] F H13 := gxo.tr o1 (gxo.mono (w_Rd_fail c13) (by intro q hq; simp at hq ⊢; try omega) (by intro q hq; simp at hq ⊢; try omega))
    rw [Q.2]; exact o13
theorem w_Rd_readProduct5 {F : fx_F} {v : fx_V} {F' : fx_F} (h : Cl k_Rd_readProduct5 [(2, 10), (0, 5)] F v F') : gxo [10, 12, 18, 17] [] F F' := by
  obtain ⟨n, h⟩ := c_Rd_readProduct5 h
  have lp : ∀ n : Nat, (∀ (l2 : Nat) (F2 : fx_F), Rn n k_Rd_readProduct5 12 [(2, 10), (0, 5), (0, l2), (3, 0)] [] F2 v F' → gxo [10, 12, 18, 17] [] F F2 → gxo [10, 12, 18, 17] [] F F') := by
    intro n
    induction n using Nat.strongRecOn with
    | ind n ih =>
      refine fun l2 F2 h ho => ?_
      · have Q := q_Rd_readProduct5_12 h
        clear h
        refine fo_if fo_le Q (fun Q => ?_) (fun Q => ?_)
        · rw [Q.2]; exact ho
        · refine fo_if fo_eq Q (fun Q => ?_) (fun Q => ?_)
          · obtain ⟨H1, c1, Q⟩ := Q
            have o1 : gxo [10, 12, 18, 17] [] F H1 := gxo.tr ho (gxo.mono (w_Rd_advance c1) (by intro q hq; simp at hq ⊢; try omega) (by intro q hq; simp at hq ⊢; try omega))
            obtain ⟨r2, H2, c2, Q⟩ := Q
            have o2 : gxo [10, 12, 18, 17] [] F H2 := gxo.tr o1 (gxo.mono (w_Rd_readUnit5 c2) (by intro q hq; simp at hq ⊢; try omega) (by intro q hq; simp at hq ⊢; try omega))
            refine fo_if fo_ne Q (fun Q => ?_) (fun Q => ?_)
            · refine fo_if fo_le Q (fun Q => ?_) (fun Q => ?_)
              · obtain ⟨m, hm, hR⟩ := Q
                exact (ih m hm) _ _ hR o2
              · obtain ⟨m, hm, hR⟩ := Q
                exact (ih m hm) _ _ hR (gxo.wr (gxo.wr (gxo.wr o2 (by simp)) (by simp)) (by simp))
            · rw [Q.2]; exact o2
          · refine fo_if fo_eq Q (fun Q => ?_) (fun Q => ?_)
            · obtain ⟨H3, c3, Q⟩ := Q
              have o3 : gxo [10, 12, 18, 17] [] F H3 := gxo.tr ho (gxo.mono (w_Rd_advance c3) (by intro q hq; simp at hq ⊢; try omega) (by intro q hq; simp at hq ⊢; try omega))
              obtain ⟨r4, H4, c4, Q⟩ := Q
              have o4 : gxo [10, 12, 18, 17] [] F H4 := gxo.tr o3 (gxo.mono (w_Rd_readUnit5 c4) (by intro q hq; simp at hq ⊢; try omega) (by intro q hq; simp at hq ⊢; try omega))
              refine fo_if fo_ne Q (fun Q => ?_) (fun Q => ?_)
              · refine fo_if fo_le Q (fun Q => ?_) (fun Q => ?_)
                · obtain ⟨m, hm, hR⟩ := Q
                  exact (ih m hm) _ _ hR o4
                · obtain ⟨m, hm, hR⟩ := Q
                  exact (ih m hm) _ _ hR (gxo.wr (gxo.wr (gxo.wr o4 (by simp)) (by simp)) (by simp))
              · rw [Q.2]; exact o4
            · refine fo_if fo_ne Q (fun Q => ?_) (fun Q => ?_)
              · rw [Q.2]; exact ho
              · obtain ⟨H5, c5, Q⟩ := Q
                have o5 : gxo [10, 12, 18, 17] [] F H5 := gxo.tr ho (gxo.mono (w_Rd_advance c5) (by intro q hq; simp at hq ⊢; try omega) (by intro q hq; simp at hq ⊢; try omega))
                obtain ⟨r6, H6, c6, Q⟩ := Q
                have o6 : gxo [10, 12, 18, 17] [] F H6 := gxo.tr o5 (gxo.mono (w_Rd_readUnit5 c6) (by intro q hq; simp at hq ⊢; try omega) (by intro q hq; simp at hq ⊢; try omega))
                refine fo_if fo_ne Q (fun Q => ?_) (fun Q => ?_)
                · refine fo_if fo_le Q (fun Q => ?_) (fun Q => ?_)
                  · obtain ⟨m, hm, hR⟩ := Q
                    exact (ih m hm) _ _ hR o6
                  · obtain ⟨m, hm, hR⟩ := Q
                    exact (ih m hm) _ _ hR (gxo.wr (gxo.wr (gxo.wr o6 (by simp)) (by simp)) (by simp))
                · rw [Q.2]; exact o6
  have Q := q_Rd_readProduct5_0 h
  obtain ⟨r1, H1, c1, Q⟩ := Q
  have o1 : gxo [10, 12, 18, 17] [] F H1 := gxo.tr gxo.rf (gxo.mono (w_Rd_readUnit5 c1) (by intro q hq; simp at hq ⊢; try omega) (by intro q hq; simp at hq ⊢; try omega))
  refine fo_if fo_ne Q (fun Q => ?_) (fun Q => ?_)
  · obtain ⟨m, hm, hR⟩ := Q
    exact (lp m) _ _ hR o1
  · rw [Q.2]; exact o1
theorem w_Rd_readSum5 {F : fx_F} {v : fx_V} {F' : fx_F} (h : Cl k_Rd_readSum5 [(2, 10), (0, 5)] F v F') : gxo [10, 12, 18, 17] [] F F' := by
  obtain ⟨n, h⟩ := c_Rd_readSum5 h
  have lp : ∀ n : Nat, (∀ (l2 : Nat) (F2 : fx_F), Rn n k_Rd_readSum5 12 [(2, 10), (0, 5), (0, l2), (3, 0)] [] F2 v F' → gxo [10, 12, 18, 17] [] F F2 → gxo [10, 12, 18, 17] [] F F') := by
    intro n
    induction n using Nat.strongRecOn with
    | ind n ih =>
      refine fun l2 F2 h ho => ?_
      · have Q := q_Rd_readSum5_12 h
        clear h
        refine fo_if fo_le Q (fun Q => ?_) (fun Q => ?_)
        · rw [Q.2]; exact ho
        · refine fo_if fo_eq Q (fun Q => ?_) (fun Q => ?_)
          · obtain ⟨H1, c1, Q⟩ := Q
            have o1 : gxo [10, 12, 18, 17] [] F H1 := gxo.tr ho (gxo.mono (w_Rd_advance c1) (by intro q hq; simp at hq ⊢; try omega) (by intro q hq; simp at hq ⊢; try omega))
            obtain ⟨r2, H2, c2, Q⟩ := Q
            have o2 : gxo [10, 12, 18, 17] [] F H2 := gxo.tr o1 (gxo.mono (w_Rd_readProduct5 c2) (by intro q hq; simp at hq ⊢; try omega) (by intro q hq; simp at hq ⊢; try omega))
            refine fo_if fo_ne Q (fun Q => ?_) (fun Q => ?_)
            · refine fo_if fo_le Q (fun Q => ?_) (fun Q => ?_)
              · obtain ⟨m, hm, hR⟩ := Q
                exact (ih m hm) _ _ hR o2
              · obtain ⟨m, hm, hR⟩ := Q
                exact (ih m hm) _ _ hR (gxo.wr (gxo.wr (gxo.wr o2 (by simp)) (by simp)) (by simp))
            · rw [Q.2]; exact o2
          · refine fo_if fo_ne Q (fun Q => ?_) (fun Q => ?_)
            · rw [Q.2]; exact ho
            · obtain ⟨H3, c3, Q⟩ := Q
              have o3 : gxo [10, 12, 18, 17] [] F H3 := gxo.tr ho (gxo.mono (w_Rd_advance c3) (by intro q hq; simp at hq ⊢; try omega) (by intro q hq; simp at hq ⊢; try omega))
              obtain ⟨r4, H4, c4, Q⟩ := Q
              have o4 : gxo [10, 12, 18, 17] [] F H4 := gxo.tr o3 (gxo.mono (w_Rd_readProduct5 c4) (by intro q hq; simp at hq ⊢; try omega) (by intro q hq; simp at hq ⊢; try omega))
              refine fo_if fo_ne Q (fun Q => ?_) (fun Q => ?_)
              · refine fo_if fo_le Q (fun Q => ?_) (fun Q => ?_)
                · obtain ⟨m, hm, hR⟩ := Q
                  exact (ih m hm) _ _ hR o4
                · obtain ⟨m, hm, hR⟩ := Q
                  exact (ih m hm) _ _ hR (gxo.wr (gxo.wr (gxo.wr o4 (by simp)) (by simp)) (by simp))
              · rw [Q.2]; exact o4
  have Q := q_Rd_readSum5_0 h
  obtain ⟨r1, H1, c1, Q⟩ := Q
  have o1 : gxo [10, 12, 18, 17] [] F H1 := gxo.tr gxo.rf (gxo.mono (w_Rd_readProduct5 c1) (by intro q hq; simp at hq ⊢; try omega) (by intro q hq; simp at hq ⊢; try omega))
  refine fo_if fo_ne Q (fun Q => ?_) (fun Q => ?_)
  · obtain ⟨m, hm, hR⟩ := Q
    exact (lp m) _ _ hR o1
  · rw [Q.2]; exact o1
theorem w_Rd_readUnit4 {F : fx_F} {v : fx_V} {F' : fx_F} (h : Cl k_Rd_readUnit4 [(2, 10), (0, 4)] F v F') : gxo [10, 12, 18, 17] [] F F' := by
  obtain ⟨n, h⟩ := c_Rd_readUnit4 h
  have Q := q_Rd_readUnit4_0 h
  rw [show i_add 4 1 = 5 from b_add (by decide)] at Q
  obtain ⟨r1, H1, c1, Q⟩ := Q
  have o1 : gxo [10, 12, 18, 17] [] F H1 := gxo.tr gxo.rf (gxo.mono (w_Rd_unitKind c1) (by intro q hq; simp at hq ⊢; try omega) (by intro q hq; simp at hq ⊢; try omega))
  refine fo_if fo_ne Q (fun Q => ?_) (fun Q => ?_)
  · refine fo_if fo_ne Q (fun Q => ?_) (fun Q => ?_)
    · refine fo_if fo_le Q (fun Q => ?_) (fun Q => ?_)
      · obtain ⟨r2, H2, c2, Q⟩ := Q
        have o2 : gxo [10, 12, 18, 17] [] F H2 := gxo.tr o1 (gxo.mono (w_Rd_fail c2) (by intro q hq; simp at hq ⊢; try omega) (by intro q hq; simp at hq ⊢; try omega))
        rw [Q.2]; exact o2
      · have Q := Q.1 (by rw [b_le (by decide) (by decide)] <;> decide)
        obtain ⟨H3, c3, Q⟩ := Q
        have o3 : gxo [10, 12, 18, 17] [] F H3 := gxo.tr (gxo.wr o1 (by simp)) (gxo.mono (w_Rd_advance c3) (by intro q hq; simp at hq ⊢; try omega) (by intro q hq; simp at hq ⊢; try omega))
        refine fo_if fo_ne Q (fun Q => ?_) (fun Q => ?_)
        · refine fo_if fo_ne Q (fun Q => ?_) (fun Q => ?_)
          · refine fo_if fo_le Q (fun Q => ?_) (fun Q => ?_)
            · rw [Q.2]; exact o3
            · rw [Q.2]; exact (gxo.wr (gxo.wr (gxo.wr o3 (by simp)) (by simp)) (by simp))
          · obtain ⟨r4, H4, c4, Q⟩ := Q
            have o4 : gxo [10, 12, 18, 17] [] F H4 := gxo.tr o3 (gxo.mono (w_Rd_readUnit5 c4) (by intro q hq; simp at hq ⊢; try omega) (by intro q hq; simp at hq ⊢; try omega))
            refine fo_if fo_ne Q (fun Q => ?_) (fun Q => ?_)
            · refine fo_if fo_le Q (fun Q => ?_) (fun Q => ?_)
              · rw [Q.2]; exact o4
              · rw [Q.2]; exact (gxo.wr (gxo.wr (gxo.wr o4 (by simp)) (by simp)) (by simp))
            · rw [Q.2]; exact o4
        · obtain ⟨r5, H5, c5, Q⟩ := Q
          have o5 : gxo [10, 12, 18, 17] [] F H5 := gxo.tr o3 (gxo.mono (w_Rd_readSum5 c5) (by intro q hq; simp at hq ⊢; try omega) (by intro q hq; simp at hq ⊢; try omega))
          refine fo_if fo_eq Q (fun Q => ?_) (fun Q => ?_)
          · rw [Q.2]; exact o5
          · obtain ⟨r6, H6, c6, Q⟩ := Q
            have o6 : gxo [10, 12, 18, 17] [] F H6 := gxo.tr o5 (gxo.mono (w_Rd_readSign c6) (by intro q hq; simp at hq ⊢; try omega) (by intro q hq; simp at hq ⊢; try omega))
            refine fo_if fo_eq Q (fun Q => ?_) (fun Q => ?_)
            · rw [Q.2]; exact o6
            · rw [Q.2]; exact o6
    · refine fo_if fo_le Q (fun Q => ?_) (fun Q => ?_)
      · refine fo_if fo_le Q (fun Q => ?_) (fun Q => ?_)
        · obtain ⟨r7, H7, c7, Q⟩ := Q
          have o7 : gxo [10, 12, 18, 17] [] F H7 := gxo.tr o1 (gxo.mono (w_Rd_fail c7) (by intro q hq; simp at hq ⊢; try omega) (by intro q hq; simp at hq ⊢; try omega))
          rw [Q.2]; exact o7
        · have Q := Q.1 (by rw [b_le (by decide) (by decide)] <;> decide)
          obtain ⟨H8, c8, Q⟩ := Q
          have o8 : gxo [10, 12, 18, 17] [] F H8 := gxo.tr (gxo.wr o1 (by simp)) (gxo.mono (w_Rd_advance c8) (by intro q hq; simp at hq ⊢; try omega) (by intro q hq; simp at hq ⊢; try omega))
          refine fo_if fo_ne Q (fun Q => ?_) (fun Q => ?_)
          · refine fo_if fo_ne Q (fun Q => ?_) (fun Q => ?_)
            · refine fo_if fo_le Q (fun Q => ?_) (fun Q => ?_)
              · rw [Q.2]; exact o8
              · rw [Q.2]; exact (gxo.wr (gxo.wr (gxo.wr o8 (by simp)) (by simp)) (by simp))
            · obtain ⟨r9, H9, c9, Q⟩ := Q
              have o9 : gxo [10, 12, 18, 17] [] F H9 := gxo.tr o8 (gxo.mono (w_Rd_readUnit5 c9) (by intro q hq; simp at hq ⊢; try omega) (by intro q hq; simp at hq ⊢; try omega))
              refine fo_if fo_ne Q (fun Q => ?_) (fun Q => ?_)
              · refine fo_if fo_le Q (fun Q => ?_) (fun Q => ?_)
                · rw [Q.2]; exact o9
                · rw [Q.2]; exact (gxo.wr (gxo.wr (gxo.wr o9 (by simp)) (by simp)) (by simp))
              · rw [Q.2]; exact o9
          · obtain ⟨r10, H10, c10, Q⟩ := Q
            have o10 : gxo [10, 12, 18, 17] [] F H10 := gxo.tr o8 (gxo.mono (w_Rd_readSum5 c10) (by intro q hq; simp at hq ⊢; try omega) (by intro q hq; simp at hq ⊢; try omega))
            refine fo_if fo_eq Q (fun Q => ?_) (fun Q => ?_)
            · rw [Q.2]; exact o10
            · obtain ⟨r11, H11, c11, Q⟩ := Q
              have o11 : gxo [10, 12, 18, 17] [] F H11 := gxo.tr o10 (gxo.mono (w_Rd_readSign c11) (by intro q hq; simp at hq ⊢; try omega) (by intro q hq; simp at hq ⊢; try omega))
              refine fo_if fo_eq Q (fun Q => ?_) (fun Q => ?_)
              · rw [Q.2]; exact o11
              · rw [Q.2]; exact o11
      · obtain ⟨r12, H12, c12, Q⟩ := Q
        have o12 : gxo [10, 12, 18, 17] [] F H12 := gxo.tr o1 (gxo.mono (w_Rd_fail c12) (by intro q hq; simp at hq ⊢; try omega) (by intro q hq; simp at hq ⊢; try omega))
        rw [Q.2]; exact o12
  · obtain ⟨r13, H13, c13, Q⟩ := Q
    have o13 : gxo [10, 12, 18, 17] [] F H13 := gxo.tr o1 (gxo.mono (w_Rd_fail c13) (by intro q hq; simp at hq ⊢; try omega) (by intro q hq; simp at hq ⊢; try omega))
    rw [Q.2]; exact o13
theorem w_Rd_readProduct4 {F : fx_F} {v : fx_V} {F' : fx_F} (h : Cl k_Rd_readProduct4 [(2, 10), (0, 4)] F v F') : gxo [10, 12, 18, 17] [] F F' := by
  obtain ⟨n, h⟩ := c_Rd_readProduct4 h
  have lp : ∀ n : Nat, (∀ (l2 : Nat) (F2 : fx_F), Rn n k_Rd_readProduct4 12 [(2, 10), (0, 4), (0, l2), (3, 0)] [] F2 v F' → gxo [10, 12, 18, 17] [] F F2 → gxo [10, 12, 18, 17] [] F F') := by
    intro n
    induction n using Nat.strongRecOn with
    | ind n ih =>
      refine fun l2 F2 h ho => ?_
      · have Q := q_Rd_readProduct4_12 h
        clear h
        refine fo_if fo_le Q (fun Q => ?_) (fun Q => ?_)
        · rw [Q.2]; exact ho
        · refine fo_if fo_eq Q (fun Q => ?_) (fun Q => ?_)
          · obtain ⟨H1, c1, Q⟩ := Q
            have o1 : gxo [10, 12, 18, 17] [] F H1 := gxo.tr ho (gxo.mono (w_Rd_advance c1) (by intro q hq; simp at hq ⊢; try omega) (by intro q hq; simp at hq ⊢; try omega))
            obtain ⟨r2, H2, c2, Q⟩ := Q
            have o2 : gxo [10, 12, 18, 17] [] F H2 := gxo.tr o1 (gxo.mono (w_Rd_readUnit4 c2) (by intro q hq; simp at hq ⊢; try omega) (by intro q hq; simp at hq ⊢; try omega))
            refine fo_if fo_ne Q (fun Q => ?_) (fun Q => ?_)
            · refine fo_if fo_le Q (fun Q => ?_) (fun Q => ?_)
              · obtain ⟨m, hm, hR⟩ := Q
                exact (ih m hm) _ _ hR o2
              · obtain ⟨m, hm, hR⟩ := Q
                exact (ih m hm) _ _ hR (gxo.wr (gxo.wr (gxo.wr o2 (by simp)) (by simp)) (by simp))
            · rw [Q.2]; exact o2
          · refine fo_if fo_eq Q (fun Q => ?_) (fun Q => ?_)
            · obtain ⟨H3, c3, Q⟩ := Q
              have o3 : gxo [10, 12, 18, 17] [] F H3 := gxo.tr ho (gxo.mono (w_Rd_advance c3) (by intro q hq; simp at hq ⊢; try omega) (by intro q hq; simp at hq ⊢; try omega))
              obtain ⟨r4, H4, c4, Q⟩ := Q
              have o4 : gxo [10, 12, 18, 17] [] F H4 := gxo.tr o3 (gxo.mono (w_Rd_readUnit4 c4) (by intro q hq; simp at hq ⊢; try omega) (by intro q hq; simp at hq ⊢; try omega))
              refine fo_if fo_ne Q (fun Q => ?_) (fun Q => ?_)
              · refine fo_if fo_le Q (fun Q => ?_) (fun Q => ?_)
                · obtain ⟨m, hm, hR⟩ := Q
                  exact (ih m hm) _ _ hR o4
                · obtain ⟨m, hm, hR⟩ := Q
                  exact (ih m hm) _ _ hR (gxo.wr (gxo.wr (gxo.wr o4 (by simp)) (by simp)) (by simp))
              · rw [Q.2]; exact o4
            · refine fo_if fo_ne Q (fun Q => ?_) (fun Q => ?_)
              · rw [Q.2]; exact ho
              · obtain ⟨H5, c5, Q⟩ := Q
                have o5 : gxo [10, 12, 18, 17] [] F H5 := gxo.tr ho (gxo.mono (w_Rd_advance c5) (by intro q hq; simp at hq ⊢; try omega) (by intro q hq; simp at hq ⊢; try omega))
                obtain ⟨r6, H6, c6, Q⟩ := Q
                have o6 : gxo [10, 12, 18, 17] [] F H6 := gxo.tr o5 (gxo.mono (w_Rd_readUnit4 c6) (by intro q hq; simp at hq ⊢; try omega) (by intro q hq; simp at hq ⊢; try omega))
                refine fo_if fo_ne Q (fun Q => ?_) (fun Q => ?_)
                · refine fo_if fo_le Q (fun Q => ?_) (fun Q => ?_)
                  · obtain ⟨m, hm, hR⟩ := Q
                    exact (ih m hm) _ _ hR o6
                  · obtain ⟨m, hm, hR⟩ := Q
                    exact (ih m hm) _ _ hR (gxo.wr (gxo.wr (gxo.wr o6 (by simp)) (by simp)) (by simp))
                · rw [Q.2]; exact o6
  have Q := q_Rd_readProduct4_0 h
  obtain ⟨r1, H1, c1, Q⟩ := Q
  have o1 : gxo [10, 12, 18, 17] [] F H1 := gxo.tr gxo.rf (gxo.mono (w_Rd_readUnit4 c1) (by intro q hq; simp at hq ⊢; try omega) (by intro q hq; simp at hq ⊢; try omega))
  refine fo_if fo_ne Q (fun Q => ?_) (fun Q => ?_)
  · obtain ⟨m, hm, hR⟩ := Q
    exact (lp m) _ _ hR o1
  · rw [Q.2]; exact o1
theorem w_Rd_readSum4 {F : fx_F} {v : fx_V} {F' : fx_F} (h : Cl k_Rd_readSum4 [(2, 10), (0, 4)] F v F') : gxo [10, 12, 18, 17] [] F F' := by
  obtain ⟨n, h⟩ := c_Rd_readSum4 h
  have lp : ∀ n : Nat, (∀ (l2 : Nat) (F2 : fx_F), Rn n k_Rd_readSum4 12 [(2, 10), (0, 4), (0, l2), (3, 0)] [] F2 v F' → gxo [10, 12, 18, 17] [] F F2 → gxo [10, 12, 18, 17] [] F F') := by
    intro n
    induction n using Nat.strongRecOn with
    | ind n ih =>
      refine fun l2 F2 h ho => ?_
      · have Q := q_Rd_readSum4_12 h
        clear h
        refine fo_if fo_le Q (fun Q => ?_) (fun Q => ?_)
        · rw [Q.2]; exact ho
        · refine fo_if fo_eq Q (fun Q => ?_) (fun Q => ?_)
          · obtain ⟨H1, c1, Q⟩ := Q
            have o1 : gxo [10, 12, 18, 17] [] F H1 := gxo.tr ho (gxo.mono (w_Rd_advance c1) (by intro q hq; simp at hq ⊢; try omega) (by intro q hq; simp at hq ⊢; try omega))
            obtain ⟨r2, H2, c2, Q⟩ := Q
            have o2 : gxo [10, 12, 18, 17] [] F H2 := gxo.tr o1 (gxo.mono (w_Rd_readProduct4 c2) (by intro q hq; simp at hq ⊢; try omega) (by intro q hq; simp at hq ⊢; try omega))
            refine fo_if fo_ne Q (fun Q => ?_) (fun Q => ?_)
            · refine fo_if fo_le Q (fun Q => ?_) (fun Q => ?_)
              · obtain ⟨m, hm, hR⟩ := Q
                exact (ih m hm) _ _ hR o2
              · obtain ⟨m, hm, hR⟩ := Q
                exact (ih m hm) _ _ hR (gxo.wr (gxo.wr (gxo.wr o2 (by simp)) (by simp)) (by simp))
            · rw [Q.2]; exact o2
          · refine fo_if fo_ne Q (fun Q => ?_) (fun Q => ?_)
            · rw [Q.2]; exact ho
            · obtain ⟨H3, c3, Q⟩ := Q
              have o3 : gxo [10, 12, 18, 17] [] F H3 := gxo.tr ho (gxo.mono (w_Rd_advance c3) (by intro q hq; simp at hq ⊢; try omega) (by intro q hq; simp at hq ⊢; try omega))
              obtain ⟨r4, H4, c4, Q⟩ := Q
              have o4 : gxo [10, 12, 18, 17] [] F H4 := gxo.tr o3 (gxo.mono (w_Rd_readProduct4 c4) (by intro q hq; simp at hq ⊢; try omega) (by intro q hq; simp at hq ⊢; try omega))
              refine fo_if fo_ne Q (fun Q => ?_) (fun Q => ?_)
              · refine fo_if fo_le Q (fun Q => ?_) (fun Q => ?_)
                · obtain ⟨m, hm, hR⟩ := Q
                  exact (ih m hm) _ _ hR o4
                · obtain ⟨m, hm, hR⟩ := Q
                  exact (ih m hm) _ _ hR (gxo.wr (gxo.wr (gxo.wr o4 (by simp)) (by simp)) (by simp))
              · rw [Q.2]; exact o4
  have Q := q_Rd_readSum4_0 h
  obtain ⟨r1, H1, c1, Q⟩ := Q
  have o1 : gxo [10, 12, 18, 17] [] F H1 := gxo.tr gxo.rf (gxo.mono (w_Rd_readProduct4 c1) (by intro q hq; simp at hq ⊢; try omega) (by intro q hq; simp at hq ⊢; try omega))
  refine fo_if fo_ne Q (fun Q => ?_) (fun Q => ?_)
  · obtain ⟨m, hm, hR⟩ := Q
    exact (lp m) _ _ hR o1
  · rw [Q.2]; exact o1
theorem w_Rd_readUnit3 {F : fx_F} {v : fx_V} {F' : fx_F} (h : Cl k_Rd_readUnit3 [(2, 10), (0, 3)] F v F') : gxo [10, 12, 18, 17] [] F F' := by
  obtain ⟨n, h⟩ := c_Rd_readUnit3 h
  have Q := q_Rd_readUnit3_0 h
  rw [show i_add 3 1 = 4 from b_add (by decide)] at Q
  obtain ⟨r1, H1, c1, Q⟩ := Q
  have o1 : gxo [10, 12, 18, 17] [] F H1 := gxo.tr gxo.rf (gxo.mono (w_Rd_unitKind c1) (by intro q hq; simp at hq ⊢; try omega) (by intro q hq; simp at hq ⊢; try omega))
  refine fo_if fo_ne Q (fun Q => ?_) (fun Q => ?_)
  · refine fo_if fo_ne Q (fun Q => ?_) (fun Q => ?_)
    · refine fo_if fo_le Q (fun Q => ?_) (fun Q => ?_)
      · obtain ⟨r2, H2, c2, Q⟩ := Q
        have o2 : gxo [10, 12, 18, 17] [] F H2 := gxo.tr o1 (gxo.mono (w_Rd_fail c2) (by intro q hq; simp at hq ⊢; try omega) (by intro q hq; simp at hq ⊢; try omega))
        rw [Q.2]; exact o2
      · have Q := Q.1 (by rw [b_le (by decide) (by decide)] <;> decide)
        obtain ⟨H3, c3, Q⟩ := Q
        have o3 : gxo [10, 12, 18, 17] [] F H3 := gxo.tr (gxo.wr o1 (by simp)) (gxo.mono (w_Rd_advance c3) (by intro q hq; simp at hq ⊢; try omega) (by intro q hq; simp at hq ⊢; try omega))
        refine fo_if fo_ne Q (fun Q => ?_) (fun Q => ?_)
        · refine fo_if fo_ne Q (fun Q => ?_) (fun Q => ?_)
          · refine fo_if fo_le Q (fun Q => ?_) (fun Q => ?_)
            · rw [Q.2]; exact o3
            · rw [Q.2]; exact (gxo.wr (gxo.wr (gxo.wr o3 (by simp)) (by simp)) (by simp))
          · obtain ⟨r4, H4, c4, Q⟩ := Q
            have o4 : gxo [10, 12, 18, 17] [] F H4 := gxo.tr o3 (gxo.mono (w_Rd_readUnit4 c4) (by intro q hq; simp at hq ⊢; try omega) (by intro q hq; simp at hq ⊢; try omega))
            refine fo_if fo_ne Q (fun Q => ?_) (fun Q => ?_)
            · refine fo_if fo_le Q (fun Q => ?_) (fun Q => ?_)
              · rw [Q.2]; exact o4
              · rw [Q.2]; exact (gxo.wr (gxo.wr (gxo.wr o4 (by simp)) (by simp)) (by simp))
            · rw [Q.2]; exact o4
        · obtain ⟨r5, H5, c5, Q⟩ := Q
          have o5 : gxo [10, 12, 18, 17] [] F H5 := gxo.tr o3 (gxo.mono (w_Rd_readSum4 c5) (by intro q hq; simp at hq ⊢; try omega) (by intro q hq; simp at hq ⊢; try omega))
          refine fo_if fo_eq Q (fun Q => ?_) (fun Q => ?_)
          · rw [Q.2]; exact o5
          · obtain ⟨r6, H6, c6, Q⟩ := Q
            have o6 : gxo [10, 12, 18, 17] [] F H6 := gxo.tr o5 (gxo.mono (w_Rd_readSign c6) (by intro q hq; simp at hq ⊢; try omega) (by intro q hq; simp at hq ⊢; try omega))
            refine fo_if fo_eq Q (fun Q => ?_) (fun Q => ?_)
            · rw [Q.2]; exact o6
            · rw [Q.2]; exact o6
    · refine fo_if fo_le Q (fun Q => ?_) (fun Q => ?_)
      · refine fo_if fo_le Q (fun Q => ?_) (fun Q => ?_)
        · obtain ⟨r7, H7, c7, Q⟩ := Q
          have o7 : gxo [10, 12, 18, 17] [] F H7 := gxo.tr o1 (gxo.mono (w_Rd_fail c7) (by intro q hq; simp at hq ⊢; try omega) (by intro q hq; simp at hq ⊢; try omega))
          rw [Q.2]; exact o7
        · have Q := Q.1 (by rw [b_le (by decide) (by decide)] <;> decide)
          obtain ⟨H8, c8, Q⟩ := Q
          have o8 : gxo [10, 12, 18, 17] [] F H8 := gxo.tr (gxo.wr o1 (by simp)) (gxo.mono (w_Rd_advance c8) (by intro q hq; simp at hq ⊢; try omega) (by intro q hq; simp at hq ⊢; try omega))
          refine fo_if fo_ne Q (fun Q => ?_) (fun Q => ?_)
          · refine fo_if fo_ne Q (fun Q => ?_) (fun Q => ?_)
            · refine fo_if fo_le Q (fun Q => ?_) (fun Q => ?_)
              · rw [Q.2]; exact o8
              · rw [Q.2]; exact (gxo.wr (gxo.wr (gxo.wr o8 (by simp)) (by simp)) (by simp))
            · obtain ⟨r9, H9, c9, Q⟩ := Q
              have o9 : gxo [10, 12, 18, 17] [] F H9 := gxo.tr o8 (gxo.mono (w_Rd_readUnit4 c9) (by intro q hq; simp at hq ⊢; try omega) (by intro q hq; simp at hq ⊢; try omega))
              refine fo_if fo_ne Q (fun Q => ?_) (fun Q => ?_)
              · refine fo_if fo_le Q (fun Q => ?_) (fun Q => ?_)
                · rw [Q.2]; exact o9
                · rw [Q.2]; exact (gxo.wr (gxo.wr (gxo.wr o9 (by simp)) (by simp)) (by simp))
              · rw [Q.2]; exact o9
          · obtain ⟨r10, H10, c10, Q⟩ := Q
            have o10 : gxo [10, 12, 18, 17] [] F H10 := gxo.tr o8 (gxo.mono (w_Rd_readSum4 c10) (by intro q hq; simp at hq ⊢; try omega) (by intro q hq; simp at hq ⊢; try omega))
            refine fo_if fo_eq Q (fun Q => ?_) (fun Q => ?_)
            · rw [Q.2]; exact o10
            · obtain ⟨r11, H11, c11, Q⟩ := Q
              have o11 : gxo [10, 12, 18, 17] [] F H11 := gxo.tr o10 (gxo.mono (w_Rd_readSign c11) (by intro q hq; simp at hq ⊢; try omega) (by intro q hq; simp at hq ⊢; try omega))
              refine fo_if fo_eq Q (fun Q => ?_) (fun Q => ?_)
              · rw [Q.2]; exact o11
              · rw [Q.2]; exact o11
      · obtain ⟨r12, H12, c12, Q⟩ := Q
        have o12 : gxo [10, 12, 18, 17] [] F H12 := gxo.tr o1 (gxo.mono (w_Rd_fail c12) (by intro q hq; simp at hq ⊢; try omega) (by intro q hq; simp at hq ⊢; try omega))
        rw [Q.2]; exact o12
  · obtain ⟨r13, H13, c13, Q⟩ := Q
    have o13 : gxo [10, 12, 18, 17] [] F H13 := gxo.tr o1 (gxo.mono (w_Rd_fail c13) (by intro q hq; simp at hq ⊢; try omega) (by intro q hq; simp at hq ⊢; try omega))
    rw [Q.2]; exact o13
theorem w_Rd_readProduct3 {F : fx_F} {v : fx_V} {F' : fx_F} (h : Cl k_Rd_readProduct3 [(2, 10), (0, 3)] F v F') : gxo [10, 12, 18, 17] [] F F' := by
  obtain ⟨n, h⟩ := c_Rd_readProduct3 h
  have lp : ∀ n : Nat, (∀ (l2 : Nat) (F2 : fx_F), Rn n k_Rd_readProduct3 12 [(2, 10), (0, 3), (0, l2), (3, 0)] [] F2 v F' → gxo [10, 12, 18, 17] [] F F2 → gxo [10, 12, 18, 17] [] F F') := by
    intro n
    induction n using Nat.strongRecOn with
    | ind n ih =>
      refine fun l2 F2 h ho => ?_
      · have Q := q_Rd_readProduct3_12 h
        clear h
        refine fo_if fo_le Q (fun Q => ?_) (fun Q => ?_)
        · rw [Q.2]; exact ho
        · refine fo_if fo_eq Q (fun Q => ?_) (fun Q => ?_)
          · obtain ⟨H1, c1, Q⟩ := Q
            have o1 : gxo [10, 12, 18, 17] [] F H1 := gxo.tr ho (gxo.mono (w_Rd_advance c1) (by intro q hq; simp at hq ⊢; try omega) (by intro q hq; simp at hq ⊢; try omega))
            obtain ⟨r2, H2, c2, Q⟩ := Q
            have o2 : gxo [10, 12, 18, 17] [] F H2 := gxo.tr o1 (gxo.mono (w_Rd_readUnit3 c2) (by intro q hq; simp at hq ⊢; try omega) (by intro q hq; simp at hq ⊢; try omega))
            refine fo_if fo_ne Q (fun Q => ?_) (fun Q => ?_)
            · refine fo_if fo_le Q (fun Q => ?_) (fun Q => ?_)
              · obtain ⟨m, hm, hR⟩ := Q
                exact (ih m hm) _ _ hR o2
              · obtain ⟨m, hm, hR⟩ := Q
                exact (ih m hm) _ _ hR (gxo.wr (gxo.wr (gxo.wr o2 (by simp)) (by simp)) (by simp))
            · rw [Q.2]; exact o2
          · refine fo_if fo_eq Q (fun Q => ?_) (fun Q => ?_)
            · obtain ⟨H3, c3, Q⟩ := Q
              have o3 : gxo [10, 12, 18, 17] [] F H3 := gxo.tr ho (gxo.mono (w_Rd_advance c3) (by intro q hq; simp at hq ⊢; try omega) (by intro q hq; simp at hq ⊢; try omega))
              obtain ⟨r4, H4, c4, Q⟩ := Q
              have o4 : gxo [10, 12, 18, 17] [] F H4 := gxo.tr o3 (gxo.mono (w_Rd_readUnit3 c4) (by intro q hq; simp at hq ⊢; try omega) (by intro q hq; simp at hq ⊢; try omega))
              refine fo_if fo_ne Q (fun Q => ?_) (fun Q => ?_)
              · refine fo_if fo_le Q (fun Q => ?_) (fun Q => ?_)
                · obtain ⟨m, hm, hR⟩ := Q
                  exact (ih m hm) _ _ hR o4
                · obtain ⟨m, hm, hR⟩ := Q
                  exact (ih m hm) _ _ hR (gxo.wr (gxo.wr (gxo.wr o4 (by simp)) (by simp)) (by simp))
              · rw [Q.2]; exact o4
            · refine fo_if fo_ne Q (fun Q => ?_) (fun Q => ?_)
              · rw [Q.2]; exact ho
              · obtain ⟨H5, c5, Q⟩ := Q
                have o5 : gxo [10, 12, 18, 17] [] F H5 := gxo.tr ho (gxo.mono (w_Rd_advance c5) (by intro q hq; simp at hq ⊢; try omega) (by intro q hq; simp at hq ⊢; try omega))
                obtain ⟨r6, H6, c6, Q⟩ := Q
                have o6 : gxo [10, 12, 18, 17] [] F H6 := gxo.tr o5 (gxo.mono (w_Rd_readUnit3 c6) (by intro q hq; simp at hq ⊢; try omega) (by intro q hq; simp at hq ⊢; try omega))
                refine fo_if fo_ne Q (fun Q => ?_) (fun Q => ?_)
                · refine fo_if fo_le Q (fun Q => ?_) (fun Q => ?_)
                  · obtain ⟨m, hm, hR⟩ := Q
                    exact (ih m hm) _ _ hR o6
                  · obtain ⟨m, hm, hR⟩ := Q
                    exact (ih m hm) _ _ hR (gxo.wr (gxo.wr (gxo.wr o6 (by simp)) (by simp)) (by simp))
                · rw [Q.2]; exact o6
  have Q := q_Rd_readProduct3_0 h
  obtain ⟨r1, H1, c1, Q⟩ := Q
  have o1 : gxo [10, 12, 18, 17] [] F H1 := gxo.tr gxo.rf (gxo.mono (w_Rd_readUnit3 c1) (by intro q hq; simp at hq ⊢; try omega) (by intro q hq; simp at hq ⊢; try omega))
  refine fo_if fo_ne Q (fun Q => ?_) (fun Q => ?_)
  · obtain ⟨m, hm, hR⟩ := Q
    exact (lp m) _ _ hR o1
  · rw [Q.2]; exact o1
theorem w_Rd_readSum3 {F : fx_F} {v : fx_V} {F' : fx_F} (h : Cl k_Rd_readSum3 [(2, 10), (0, 3)] F v F') : gxo [10, 12, 18, 17] [] F F' := by
  obtain ⟨n, h⟩ := c_Rd_readSum3 h
  have lp : ∀ n : Nat, (∀ (l2 : Nat) (F2 : fx_F), Rn n k_Rd_readSum3 12 [(2, 10), (0, 3), (0, l2), (3, 0)] [] F2 v F' → gxo [10, 12, 18, 17] [] F F2 → gxo [10, 12, 18, 17] [] F F') := by
    intro n
    induction n using Nat.strongRecOn with
    | ind n ih =>
      refine fun l2 F2 h ho => ?_
      · have Q := q_Rd_readSum3_12 h
        clear h
        refine fo_if fo_le Q (fun Q => ?_) (fun Q => ?_)
        · rw [Q.2]; exact ho
        · refine fo_if fo_eq Q (fun Q => ?_) (fun Q => ?_)
          · obtain ⟨H1, c1, Q⟩ := Q
            have o1 : gxo [10, 12, 18, 17] [] F H1 := gxo.tr ho (gxo.mono (w_Rd_advance c1) (by intro q hq; simp at hq ⊢; try omega) (by intro q hq; simp at hq ⊢; try omega))
            obtain ⟨r2, H2, c2, Q⟩ := Q
            have o2 : gxo [10, 12, 18, 17] [] F H2 := gxo.tr o1 (gxo.mono (w_Rd_readProduct3 c2) (by intro q hq; simp at hq ⊢; try omega) (by intro q hq; simp at hq ⊢; try omega))
            refine fo_if fo_ne Q (fun Q => ?_) (fun Q => ?_)
            · refine fo_if fo_le Q (fun Q => ?_) (fun Q => ?_)
              · obtain ⟨m, hm, hR⟩ := Q
                exact (ih m hm) _ _ hR o2
              · obtain ⟨m, hm, hR⟩ := Q
                exact (ih m hm) _ _ hR (gxo.wr (gxo.wr (gxo.wr o2 (by simp)) (by simp)) (by simp))
            · rw [Q.2]; exact o2
          · refine fo_if fo_ne Q (fun Q => ?_) (fun Q => ?_)
            · rw [Q.2]; exact ho
            · obtain ⟨H3, c3, Q⟩ := Q
              have o3 : gxo [10, 12, 18, 17] [] F H3 := gxo.tr ho (gxo.mono (w_Rd_advance c3) (by intro q hq; simp at hq ⊢; try omega) (by intro q hq; simp at hq ⊢; try omega))
              obtain ⟨r4, H4, c4, Q⟩ := Q
              have o4 : gxo [10, 12, 18, 17] [] F H4 := gxo.tr o3 (gxo.mono (w_Rd_readProduct3 c4) (by intro q hq; simp at hq ⊢; try omega) (by intro q hq; simp at hq ⊢; try omega))
              refine fo_if fo_ne Q (fun Q => ?_) (fun Q => ?_)
              · refine fo_if fo_le Q (fun Q => ?_) (fun Q => ?_)
                · obtain ⟨m, hm, hR⟩ := Q
                  exact (ih m hm) _ _ hR o4
                · obtain ⟨m, hm, hR⟩ := Q
                  exact (ih m hm) _ _ hR (gxo.wr (gxo.wr (gxo.wr o4 (by simp)) (by simp)) (by simp))
              · rw [Q.2]; exact o4
  have Q := q_Rd_readSum3_0 h
  obtain ⟨r1, H1, c1, Q⟩ := Q
  have o1 : gxo [10, 12, 18, 17] [] F H1 := gxo.tr gxo.rf (gxo.mono (w_Rd_readProduct3 c1) (by intro q hq; simp at hq ⊢; try omega) (by intro q hq; simp at hq ⊢; try omega))
  refine fo_if fo_ne Q (fun Q => ?_) (fun Q => ?_)
  · obtain ⟨m, hm, hR⟩ := Q
    exact (lp m) _ _ hR o1
  · rw [Q.2]; exact o1
theorem w_Rd_readUnit2 {F : fx_F} {v : fx_V} {F' : fx_F} (h : Cl k_Rd_readUnit2 [(2, 10), (0, 2)] F v F') : gxo [10, 12, 18, 17] [] F F' := by
  obtain ⟨n, h⟩ := c_Rd_readUnit2 h
  have Q := q_Rd_readUnit2_0 h
  rw [show i_add 2 1 = 3 from b_add (by decide)] at Q
  obtain ⟨r1, H1, c1, Q⟩ := Q
  have o1 : gxo [10, 12, 18, 17] [] F H1 := gxo.tr gxo.rf (gxo.mono (w_Rd_unitKind c1) (by intro q hq; simp at hq ⊢; try omega) (by intro q hq; simp at hq ⊢; try omega))
  refine fo_if fo_ne Q (fun Q => ?_) (fun Q => ?_)
  · refine fo_if fo_ne Q (fun Q => ?_) (fun Q => ?_)
    · refine fo_if fo_le Q (fun Q => ?_) (fun Q => ?_)
      · obtain ⟨r2, H2, c2, Q⟩ := Q
        have o2 : gxo [10, 12, 18, 17] [] F H2 := gxo.tr o1 (gxo.mono (w_Rd_fail c2) (by intro q hq; simp at hq ⊢; try omega) (by intro q hq; simp at hq ⊢; try omega))
        rw [Q.2]; exact o2
      · have Q := Q.1 (by rw [b_le (by decide) (by decide)] <;> decide)
        obtain ⟨H3, c3, Q⟩ := Q
        have o3 : gxo [10, 12, 18, 17] [] F H3 := gxo.tr (gxo.wr o1 (by simp)) (gxo.mono (w_Rd_advance c3) (by intro q hq; simp at hq ⊢; try omega) (by intro q hq; simp at hq ⊢; try omega))
        refine fo_if fo_ne Q (fun Q => ?_) (fun Q => ?_)
        · refine fo_if fo_ne Q (fun Q => ?_) (fun Q => ?_)
          · refine fo_if fo_le Q (fun Q => ?_) (fun Q => ?_)
            · rw [Q.2]; exact o3
            · rw [Q.2]; exact (gxo.wr (gxo.wr (gxo.wr o3 (by simp)) (by simp)) (by simp))
          · obtain ⟨r4, H4, c4, Q⟩ := Q
            have o4 : gxo [10, 12, 18, 17] [] F H4 := gxo.tr o3 (gxo.mono (w_Rd_readUnit3 c4) (by intro q hq; simp at hq ⊢; try omega) (by intro q hq; simp at hq ⊢; try omega))
            refine fo_if fo_ne Q (fun Q => ?_) (fun Q => ?_)
            · refine fo_if fo_le Q (fun Q => ?_) (fun Q => ?_)
              · rw [Q.2]; exact o4
              · rw [Q.2]; exact (gxo.wr (gxo.wr (gxo.wr o4 (by simp)) (by simp)) (by simp))
            · rw [Q.2]; exact o4
        · obtain ⟨r5, H5, c5, Q⟩ := Q
          have o5 : gxo [10, 12, 18, 17] [] F H5 := gxo.tr o3 (gxo.mono (w_Rd_readSum3 c5) (by intro q hq; simp at hq ⊢; try omega) (by intro q hq; simp at hq ⊢; try omega))
          refine fo_if fo_eq Q (fun Q => ?_) (fun Q => ?_)
          · rw [Q.2]; exact o5
          · obtain ⟨r6, H6, c6, Q⟩ := Q
            have o6 : gxo [10, 12, 18, 17] [] F H6 := gxo.tr o5 (gxo.mono (w_Rd_readSign c6) (by intro q hq; simp at hq ⊢; try omega) (by intro q hq; simp at hq ⊢; try omega))
            refine fo_if fo_eq Q (fun Q => ?_) (fun Q => ?_)
            · rw [Q.2]; exact o6
            · rw [Q.2]; exact o6
    · refine fo_if fo_le Q (fun Q => ?_) (fun Q => ?_)
      · refine fo_if fo_le Q (fun Q => ?_) (fun Q => ?_)
        · obtain ⟨r7, H7, c7, Q⟩ := Q
          have o7 : gxo [10, 12, 18, 17] [] F H7 := gxo.tr o1 (gxo.mono (w_Rd_fail c7) (by intro q hq; simp at hq ⊢; try omega) (by intro q hq; simp at hq ⊢; try omega))
          rw [Q.2]; exact o7
        · have Q := Q.1 (by rw [b_le (by decide) (by decide)] <;> decide)
          obtain ⟨H8, c8, Q⟩ := Q
          have o8 : gxo [10, 12, 18, 17] [] F H8 := gxo.tr (gxo.wr o1 (by simp)) (gxo.mono (w_Rd_advance c8) (by intro q hq; simp at hq ⊢; try omega) (by intro q hq; simp at hq ⊢; try omega))
          refine fo_if fo_ne Q (fun Q => ?_) (fun Q => ?_)
          · refine fo_if fo_ne Q (fun Q => ?_) (fun Q => ?_)
            · refine fo_if fo_le Q (fun Q => ?_) (fun Q => ?_)
              · rw [Q.2]; exact o8
              · rw [Q.2]; exact (gxo.wr (gxo.wr (gxo.wr o8 (by simp)) (by simp)) (by simp))
            · obtain ⟨r9, H9, c9, Q⟩ := Q
              have o9 : gxo [10, 12, 18, 17] [] F H9 := gxo.tr o8 (gxo.mono (w_Rd_readUnit3 c9) (by intro q hq; simp at hq ⊢; try omega) (by intro q hq; simp at hq ⊢; try omega))
              refine fo_if fo_ne Q (fun Q => ?_) (fun Q => ?_)
              · refine fo_if fo_le Q (fun Q => ?_) (fun Q => ?_)
                · rw [Q.2]; exact o9
                · rw [Q.2]; exact (gxo.wr (gxo.wr (gxo.wr o9 (by simp)) (by simp)) (by simp))
              · rw [Q.2]; exact o9
          · obtain ⟨r10, H10, c10, Q⟩ := Q
            have o10 : gxo [10, 12, 18, 17] [] F H10 := gxo.tr o8 (gxo.mono (w_Rd_readSum3 c10) (by intro q hq; simp at hq ⊢; try omega) (by intro q hq; simp at hq ⊢; try omega))
            refine fo_if fo_eq Q (fun Q => ?_) (fun Q => ?_)
            · rw [Q.2]; exact o10
            · obtain ⟨r11, H11, c11, Q⟩ := Q
              have o11 : gxo [10, 12, 18, 17] [] F H11 := gxo.tr o10 (gxo.mono (w_Rd_readSign c11) (by intro q hq; simp at hq ⊢; try omega) (by intro q hq; simp at hq ⊢; try omega))
              refine fo_if fo_eq Q (fun Q => ?_) (fun Q => ?_)
              · rw [Q.2]; exact o11
              · rw [Q.2]; exact o11
      · obtain ⟨r12, H12, c12, Q⟩ := Q
        have o12 : gxo [10, 12, 18, 17] [] F H12 := gxo.tr o1 (gxo.mono (w_Rd_fail c12) (by intro q hq; simp at hq ⊢; try omega) (by intro q hq; simp at hq ⊢; try omega))
        rw [Q.2]; exact o12
  · obtain ⟨r13, H13, c13, Q⟩ := Q
    have o13 : gxo [10, 12, 18, 17] [] F H13 := gxo.tr o1 (gxo.mono (w_Rd_fail c13) (by intro q hq; simp at hq ⊢; try omega) (by intro q hq; simp at hq ⊢; try omega))
    rw [Q.2]; exact o13
theorem w_Rd_readProduct2 {F : fx_F} {v : fx_V} {F' : fx_F} (h : Cl k_Rd_readProduct2 [(2, 10), (0, 2)] F v F') : gxo [10, 12, 18, 17] [] F F' := by
  obtain ⟨n, h⟩ := c_Rd_readProduct2 h
  have lp : ∀ n : Nat, (∀ (l2 : Nat) (F2 : fx_F), Rn n k_Rd_readProduct2 12 [(2, 10), (0, 2), (0, l2), (3, 0)] [] F2 v F' → gxo [10, 12, 18, 17] [] F F2 → gxo [10, 12, 18, 17] [] F F') := by
    intro n
    induction n using Nat.strongRecOn with
    | ind n ih =>
      refine fun l2 F2 h ho => ?_
      · have Q := q_Rd_readProduct2_12 h
        clear h
        refine fo_if fo_le Q (fun Q => ?_) (fun Q => ?_)
        · rw [Q.2]; exact ho
        · refine fo_if fo_eq Q (fun Q => ?_) (fun Q => ?_)
          · obtain ⟨H1, c1, Q⟩ := Q
            have o1 : gxo [10, 12, 18, 17] [] F H1 := gxo.tr ho (gxo.mono (w_Rd_advance c1) (by intro q hq; simp at hq ⊢; try omega) (by intro q hq; simp at hq ⊢; try omega))
            obtain ⟨r2, H2, c2, Q⟩ := Q
            have o2 : gxo [10, 12, 18, 17] [] F H2 := gxo.tr o1 (gxo.mono (w_Rd_readUnit2 c2) (by intro q hq; simp at hq ⊢; try omega) (by intro q hq; simp at hq ⊢; try omega))
            refine fo_if fo_ne Q (fun Q => ?_) (fun Q => ?_)
            · refine fo_if fo_le Q (fun Q => ?_) (fun Q => ?_)
              · obtain ⟨m, hm, hR⟩ := Q
                exact (ih m hm) _ _ hR o2
              · obtain ⟨m, hm, hR⟩ := Q
                exact (ih m hm) _ _ hR (gxo.wr (gxo.wr (gxo.wr o2 (by simp)) (by simp)) (by simp))
            · rw [Q.2]; exact o2
          · refine fo_if fo_eq Q (fun Q => ?_) (fun Q => ?_)
            · obtain ⟨H3, c3, Q⟩ := Q
              have o3 : gxo [10, 12, 18, 17] [] F H3 := gxo.tr ho (gxo.mono (w_Rd_advance c3) (by intro q hq; simp at hq ⊢; try omega) (by intro q hq; simp at hq ⊢; try omega))
              obtain ⟨r4, H4, c4, Q⟩ := Q
              have o4 : gxo [10, 12, 18, 17] [] F H4 := gxo.tr o3 (gxo.mono (w_Rd_readUnit2 c4) (by intro q hq; simp at hq ⊢; try omega) (by intro q hq; simp at hq ⊢; try omega))
              refine fo_if fo_ne Q (fun Q => ?_) (fun Q => ?_)
              · refine fo_if fo_le Q (fun Q => ?_) (fun Q => ?_)
                · obtain ⟨m, hm, hR⟩ := Q
                  exact (ih m hm) _ _ hR o4
                · obtain ⟨m, hm, hR⟩ := Q
                  exact (ih m hm) _ _ hR (gxo.wr (gxo.wr (gxo.wr o4 (by simp)) (by simp)) (by simp))
              · rw [Q.2]; exact o4
            · refine fo_if fo_ne Q (fun Q => ?_) (fun Q => ?_)
              · rw [Q.2]; exact ho
              · obtain ⟨H5, c5, Q⟩ := Q
                have o5 : gxo [10, 12, 18, 17] [] F H5 := gxo.tr ho (gxo.mono (w_Rd_advance c5) (by intro q hq; simp at hq ⊢; try omega) (by intro q hq; simp at hq ⊢; try omega))
                obtain ⟨r6, H6, c6, Q⟩ := Q
                have o6 : gxo [10, 12, 18, 17] [] F H6 := gxo.tr o5 (gxo.mono (w_Rd_readUnit2 c6) (by intro q hq; simp at hq ⊢; try omega) (by intro q hq; simp at hq ⊢; try omega))
                refine fo_if fo_ne Q (fun Q => ?_) (fun Q => ?_)
                · refine fo_if fo_le Q (fun Q => ?_) (fun Q => ?_)
                  · obtain ⟨m, hm, hR⟩ := Q
                    exact (ih m hm) _ _ hR o6
                  · obtain ⟨m, hm, hR⟩ := Q
                    exact (ih m hm) _ _ hR (gxo.wr (gxo.wr (gxo.wr o6 (by simp)) (by simp)) (by simp))
                · rw [Q.2]; exact o6
  have Q := q_Rd_readProduct2_0 h
  obtain ⟨r1, H1, c1, Q⟩ := Q
  have o1 : gxo [10, 12, 18, 17] [] F H1 := gxo.tr gxo.rf (gxo.mono (w_Rd_readUnit2 c1) (by intro q hq; simp at hq ⊢; try omega) (by intro q hq; simp at hq ⊢; try omega))
  refine fo_if fo_ne Q (fun Q => ?_) (fun Q => ?_)
  · obtain ⟨m, hm, hR⟩ := Q
    exact (lp m) _ _ hR o1
  · rw [Q.2]; exact o1
theorem w_Rd_readSum2 {F : fx_F} {v : fx_V} {F' : fx_F} (h : Cl k_Rd_readSum2 [(2, 10), (0, 2)] F v F') : gxo [10, 12, 18, 17] [] F F' := by
  obtain ⟨n, h⟩ := c_Rd_readSum2 h
  have lp : ∀ n : Nat, (∀ (l2 : Nat) (F2 : fx_F), Rn n k_Rd_readSum2 12 [(2, 10), (0, 2), (0, l2), (3, 0)] [] F2 v F' → gxo [10, 12, 18, 17] [] F F2 → gxo [10, 12, 18, 17] [] F F') := by
    intro n
    induction n using Nat.strongRecOn with
    | ind n ih =>
      refine fun l2 F2 h ho => ?_
      · have Q := q_Rd_readSum2_12 h
        clear h
        refine fo_if fo_le Q (fun Q => ?_) (fun Q => ?_)
        · rw [Q.2]; exact ho
        · refine fo_if fo_eq Q (fun Q => ?_) (fun Q => ?_)
          · obtain ⟨H1, c1, Q⟩ := Q
            have o1 : gxo [10, 12, 18, 17] [] F H1 := gxo.tr ho (gxo.mono (w_Rd_advance c1) (by intro q hq; simp at hq ⊢; try omega) (by intro q hq; simp at hq ⊢; try omega))
            obtain ⟨r2, H2, c2, Q⟩ := Q
            have o2 : gxo [10, 12, 18, 17] [] F H2 := gxo.tr o1 (gxo.mono (w_Rd_readProduct2 c2) (by intro q hq; simp at hq ⊢; try omega) (by intro q hq; simp at hq ⊢; try omega))
            refine fo_if fo_ne Q (fun Q => ?_) (fun Q => ?_)
            · refine fo_if fo_le Q (fun Q => ?_) (fun Q => ?_)
              · obtain ⟨m, hm, hR⟩ := Q
                exact (ih m hm) _ _ hR o2
              · obtain ⟨m, hm, hR⟩ := Q
                exact (ih m hm) _ _ hR (gxo.wr (gxo.wr (gxo.wr o2 (by simp)) (by simp)) (by simp))
            · rw [Q.2]; exact o2
          · refine fo_if fo_ne Q (fun Q => ?_) (fun Q => ?_)
            · rw [Q.2]; exact ho
            · obtain ⟨H3, c3, Q⟩ := Q
              have o3 : gxo [10, 12, 18, 17] [] F H3 := gxo.tr ho (gxo.mono (w_Rd_advance c3) (by intro q hq; simp at hq ⊢; try omega) (by intro q hq; simp at hq ⊢; try omega))
              obtain ⟨r4, H4, c4, Q⟩ := Q
              have o4 : gxo [10, 12, 18, 17] [] F H4 := gxo.tr o3 (gxo.mono (w_Rd_readProduct2 c4) (by intro q hq; simp at hq ⊢; try omega) (by intro q hq; simp at hq ⊢; try omega))
              refine fo_if fo_ne Q (fun Q => ?_) (fun Q => ?_)
              · refine fo_if fo_le Q (fun Q => ?_) (fun Q => ?_)
                · obtain ⟨m, hm, hR⟩ := Q
                  exact (ih m hm) _ _ hR o4
                · obtain ⟨m, hm, hR⟩ := Q
                  exact (ih m hm) _ _ hR (gxo.wr (gxo.wr (gxo.wr o4 (by simp)) (by simp)) (by simp))
              · rw [Q.2]; exact o4
  have Q := q_Rd_readSum2_0 h
  obtain ⟨r1, H1, c1, Q⟩ := Q
  have o1 : gxo [10, 12, 18, 17] [] F H1 := gxo.tr gxo.rf (gxo.mono (w_Rd_readProduct2 c1) (by intro q hq; simp at hq ⊢; try omega) (by intro q hq; simp at hq ⊢; try omega))
  refine fo_if fo_ne Q (fun Q => ?_) (fun Q => ?_)
  · obtain ⟨m, hm, hR⟩ := Q
    exact (lp m) _ _ hR o1
  · rw [Q.2]; exact o1
theorem w_Rd_readUnit1 {F : fx_F} {v : fx_V} {F' : fx_F} (h : Cl k_Rd_readUnit1 [(2, 10), (0, 1)] F v F') : gxo [10, 12, 18, 17] [] F F' := by
  obtain ⟨n, h⟩ := c_Rd_readUnit1 h
  have Q := q_Rd_readUnit1_0 h
  rw [show i_add 1 1 = 2 from b_add (by decide)] at Q
  obtain ⟨r1, H1, c1, Q⟩ := Q
  have o1 : gxo [10, 12, 18, 17] [] F H1 := gxo.tr gxo.rf (gxo.mono (w_Rd_unitKind c1) (by intro q hq; simp at hq ⊢; try omega) (by intro q hq; simp at hq ⊢; try omega))
  refine fo_if fo_ne Q (fun Q => ?_) (fun Q => ?_)
  · refine fo_if fo_ne Q (fun Q => ?_) (fun Q => ?_)
    · refine fo_if fo_le Q (fun Q => ?_) (fun Q => ?_)
      · obtain ⟨r2, H2, c2, Q⟩ := Q
        have o2 : gxo [10, 12, 18, 17] [] F H2 := gxo.tr o1 (gxo.mono (w_Rd_fail c2) (by intro q hq; simp at hq ⊢; try omega) (by intro q hq; simp at hq ⊢; try omega))
        rw [Q.2]; exact o2
      · have Q := Q.1 (by rw [b_le (by decide) (by decide)] <;> decide)
        obtain ⟨H3, c3, Q⟩ := Q
        have o3 : gxo [10, 12, 18, 17] [] F H3 := gxo.tr (gxo.wr o1 (by simp)) (gxo.mono (w_Rd_advance c3) (by intro q hq; simp at hq ⊢; try omega) (by intro q hq; simp at hq ⊢; try omega))
        refine fo_if fo_ne Q (fun Q => ?_) (fun Q => ?_)
        · refine fo_if fo_ne Q (fun Q => ?_) (fun Q => ?_)
          · refine fo_if fo_le Q (fun Q => ?_) (fun Q => ?_)
            · rw [Q.2]; exact o3
            · rw [Q.2]; exact (gxo.wr (gxo.wr (gxo.wr o3 (by simp)) (by simp)) (by simp))
          · obtain ⟨r4, H4, c4, Q⟩ := Q
            have o4 : gxo [10, 12, 18, 17] [] F H4 := gxo.tr o3 (gxo.mono (w_Rd_readUnit2 c4) (by intro q hq; simp at hq ⊢; try omega) (by intro q hq; simp at hq ⊢; try omega))
            refine fo_if fo_ne Q (fun Q => ?_) (fun Q => ?_)
            · refine fo_if fo_le Q (fun Q => ?_) (fun Q => ?_)
              · rw [Q.2]; exact o4
              · rw [Q.2]; exact (gxo.wr (gxo.wr (gxo.wr o4 (by simp)) (by simp)) (by simp))
            · rw [Q.2]; exact o4
        · obtain ⟨r5, H5, c5, Q⟩ := Q
          have o5 : gxo [10, 12, 18, 17] [] F H5 := gxo.tr o3 (gxo.mono (w_Rd_readSum2 c5) (by intro q hq; simp at hq ⊢; try omega) (by intro q hq; simp at hq ⊢; try omega))
          refine fo_if fo_eq Q (fun Q => ?_) (fun Q => ?_)
          · rw [Q.2]; exact o5
          · obtain ⟨r6, H6, c6, Q⟩ := Q
            have o6 : gxo [10, 12, 18, 17] [] F H6 := gxo.tr o5 (gxo.mono (w_Rd_readSign c6) (by intro q hq; simp at hq ⊢; try omega) (by intro q hq; simp at hq ⊢; try omega))
            refine fo_if fo_eq Q (fun Q => ?_) (fun Q => ?_)
            · rw [Q.2]; exact o6
            · rw [Q.2]; exact o6
    · refine fo_if fo_le Q (fun Q => ?_) (fun Q => ?_)
      · refine fo_if fo_le Q (fun Q => ?_) (fun Q => ?_)
        · obtain ⟨r7, H7, c7, Q⟩ := Q
          have o7 : gxo [10, 12, 18, 17] [] F H7 := gxo.tr o1 (gxo.mono (w_Rd_fail c7) (by intro q hq; simp at hq ⊢; try omega) (by intro q hq; simp at hq ⊢; try omega))
          rw [Q.2]; exact o7
        · have Q := Q.1 (by rw [b_le (by decide) (by decide)] <;> decide)
          obtain ⟨H8, c8, Q⟩ := Q
          have o8 : gxo [10, 12, 18, 17] [] F H8 := gxo.tr (gxo.wr o1 (by simp)) (gxo.mono (w_Rd_advance c8) (by intro q hq; simp at hq ⊢; try omega) (by intro q hq; simp at hq ⊢; try omega))
          refine fo_if fo_ne Q (fun Q => ?_) (fun Q => ?_)
          · refine fo_if fo_ne Q (fun Q => ?_) (fun Q => ?_)
            · refine fo_if fo_le Q (fun Q => ?_) (fun Q => ?_)
              · rw [Q.2]; exact o8
              · rw [Q.2]; exact (gxo.wr (gxo.wr (gxo.wr o8 (by simp)) (by simp)) (by simp))
            · obtain ⟨r9, H9, c9, Q⟩ := Q
              have o9 : gxo [10, 12, 18, 17] [] F H9 := gxo.tr o8 (gxo.mono (w_Rd_readUnit2 c9) (by intro q hq; simp at hq ⊢; try omega) (by intro q hq; simp at hq ⊢; try omega))
              refine fo_if fo_ne Q (fun Q => ?_) (fun Q => ?_)
              · refine fo_if fo_le Q (fun Q => ?_) (fun Q => ?_)
                · rw [Q.2]; exact o9
                · rw [Q.2]; exact (gxo.wr (gxo.wr (gxo.wr o9 (by simp)) (by simp)) (by simp))
              · rw [Q.2]; exact o9
          · obtain ⟨r10, H10, c10, Q⟩ := Q
            have o10 : gxo [10, 12, 18, 17] [] F H10 := gxo.tr o8 (gxo.mono (w_Rd_readSum2 c10) (by intro q hq; simp at hq ⊢; try omega) (by intro q hq; simp at hq ⊢; try omega))
            refine fo_if fo_eq Q (fun Q => ?_) (fun Q => ?_)
            · rw [Q.2]; exact o10
            · obtain ⟨r11, H11, c11, Q⟩ := Q
              have o11 : gxo [10, 12, 18, 17] [] F H11 := gxo.tr o10 (gxo.mono (w_Rd_readSign c11) (by intro q hq; simp at hq ⊢; try omega) (by intro q hq; simp at hq ⊢; try omega))
              refine fo_if fo_eq Q (fun Q => ?_) (fun Q => ?_)
              · rw [Q.2]; exact o11
              · rw [Q.2]; exact o11
      · obtain ⟨r12, H12, c12, Q⟩ := Q
        have o12 : gxo [10, 12, 18, 17] [] F H12 := gxo.tr o1 (gxo.mono (w_Rd_fail c12) (by intro q hq; simp at hq ⊢; try omega) (by intro q hq; simp at hq ⊢; try omega))
        rw [Q.2]; exact o12
  · obtain ⟨r13, H13, c13, Q⟩ := Q
    have o13 : gxo [10, 12, 18, 17] [] F H13 := gxo.tr o1 (gxo.mono (w_Rd_fail c13) (by intro q hq; simp at hq ⊢; try omega) (by intro q hq; simp at hq ⊢; try omega))
    rw [Q.2]; exact o13
theorem w_Rd_readProduct1 {F : fx_F} {v : fx_V} {F' : fx_F} (h : Cl k_Rd_readProduct1 [(2, 10), (0, 1)] F v F') : gxo [10, 12, 18, 17] [] F F' := by
  obtain ⟨n, h⟩ := c_Rd_readProduct1 h
  have lp : ∀ n : Nat, (∀ (l2 : Nat) (F2 : fx_F), Rn n k_Rd_readProduct1 12 [(2, 10), (0, 1), (0, l2), (3, 0)] [] F2 v F' → gxo [10, 12, 18, 17] [] F F2 → gxo [10, 12, 18, 17] [] F F') := by
    intro n
    induction n using Nat.strongRecOn with
    | ind n ih =>
      refine fun l2 F2 h ho => ?_
      · have Q := q_Rd_readProduct1_12 h
        clear h
        refine fo_if fo_le Q (fun Q => ?_) (fun Q => ?_)
        · rw [Q.2]; exact ho
        · refine fo_if fo_eq Q (fun Q => ?_) (fun Q => ?_)
          · obtain ⟨H1, c1, Q⟩ := Q
            have o1 : gxo [10, 12, 18, 17] [] F H1 := gxo.tr ho (gxo.mono (w_Rd_advance c1) (by intro q hq; simp at hq ⊢; try omega) (by intro q hq; simp at hq ⊢; try omega))
            obtain ⟨r2, H2, c2, Q⟩ := Q
            have o2 : gxo [10, 12, 18, 17] [] F H2 := gxo.tr o1 (gxo.mono (w_Rd_readUnit1 c2) (by intro q hq; simp at hq ⊢; try omega) (by intro q hq; simp at hq ⊢; try omega))
            refine fo_if fo_ne Q (fun Q => ?_) (fun Q => ?_)
            · refine fo_if fo_le Q (fun Q => ?_) (fun Q => ?_)
              · obtain ⟨m, hm, hR⟩ := Q
                exact (ih m hm) _ _ hR o2
              · obtain ⟨m, hm, hR⟩ := Q
                exact (ih m hm) _ _ hR (gxo.wr (gxo.wr (gxo.wr o2 (by simp)) (by simp)) (by simp))
            · rw [Q.2]; exact o2
          · refine fo_if fo_eq Q (fun Q => ?_) (fun Q => ?_)
            · obtain ⟨H3, c3, Q⟩ := Q
              have o3 : gxo [10, 12, 18, 17] [] F H3 := gxo.tr ho (gxo.mono (w_Rd_advance c3) (by intro q hq; simp at hq ⊢; try omega) (by intro q hq; simp at hq ⊢; try omega))
              obtain ⟨r4, H4, c4, Q⟩ := Q
              have o4 : gxo [10, 12, 18, 17] [] F H4 := gxo.tr o3 (gxo.mono (w_Rd_readUnit1 c4) (by intro q hq; simp at hq ⊢; try omega) (by intro q hq; simp at hq ⊢; try omega))
              refine fo_if fo_ne Q (fun Q => ?_) (fun Q => ?_)
              · refine fo_if fo_le Q (fun Q => ?_) (fun Q => ?_)
                · obtain ⟨m, hm, hR⟩ := Q
                  exact (ih m hm) _ _ hR o4
                · obtain ⟨m, hm, hR⟩ := Q
                  exact (ih m hm) _ _ hR (gxo.wr (gxo.wr (gxo.wr o4 (by simp)) (by simp)) (by simp))
              · rw [Q.2]; exact o4
            · refine fo_if fo_ne Q (fun Q => ?_) (fun Q => ?_)
              · rw [Q.2]; exact ho
              · obtain ⟨H5, c5, Q⟩ := Q
                have o5 : gxo [10, 12, 18, 17] [] F H5 := gxo.tr ho (gxo.mono (w_Rd_advance c5) (by intro q hq; simp at hq ⊢; try omega) (by intro q hq; simp at hq ⊢; try omega))
                obtain ⟨r6, H6, c6, Q⟩ := Q
                have o6 : gxo [10, 12, 18, 17] [] F H6 := gxo.tr o5 (gxo.mono (w_Rd_readUnit1 c6) (by intro q hq; simp at hq ⊢; try omega) (by intro q hq; simp at hq ⊢; try omega))
                refine fo_if fo_ne Q (fun Q => ?_) (fun Q => ?_)
                · refine fo_if fo_le Q (fun Q => ?_) (fun Q => ?_)
                  · obtain ⟨m, hm, hR⟩ := Q
                    exact (ih m hm) _ _ hR o6
                  · obtain ⟨m, hm, hR⟩ := Q
                    exact (ih m hm) _ _ hR (gxo.wr (gxo.wr (gxo.wr o6 (by simp)) (by simp)) (by simp))
                · rw [Q.2]; exact o6
  have Q := q_Rd_readProduct1_0 h
  obtain ⟨r1, H1, c1, Q⟩ := Q
  have o1 : gxo [10, 12, 18, 17] [] F H1 := gxo.tr gxo.rf (gxo.mono (w_Rd_readUnit1 c1) (by intro q hq; simp at hq ⊢; try omega) (by intro q hq; simp at hq ⊢; try omega))
  refine fo_if fo_ne Q (fun Q => ?_) (fun Q => ?_)
  · obtain ⟨m, hm, hR⟩ := Q
    exact (lp m) _ _ hR o1
  · rw [Q.2]; exact o1
theorem w_Rd_readSum1 {F : fx_F} {v : fx_V} {F' : fx_F} (h : Cl k_Rd_readSum1 [(2, 10), (0, 1)] F v F') : gxo [10, 12, 18, 17] [] F F' := by
  obtain ⟨n, h⟩ := c_Rd_readSum1 h
  have lp : ∀ n : Nat, (∀ (l2 : Nat) (F2 : fx_F), Rn n k_Rd_readSum1 12 [(2, 10), (0, 1), (0, l2), (3, 0)] [] F2 v F' → gxo [10, 12, 18, 17] [] F F2 → gxo [10, 12, 18, 17] [] F F') := by
    intro n
    induction n using Nat.strongRecOn with
    | ind n ih =>
      refine fun l2 F2 h ho => ?_
      · have Q := q_Rd_readSum1_12 h
        clear h
        refine fo_if fo_le Q (fun Q => ?_) (fun Q => ?_)
        · rw [Q.2]; exact ho
        · refine fo_if fo_eq Q (fun Q => ?_) (fun Q => ?_)
          · obtain ⟨H1, c1, Q⟩ := Q
            have o1 : gxo [10, 12, 18, 17] [] F H1 := gxo.tr ho (gxo.mono (w_Rd_advance c1) (by intro q hq; simp at hq ⊢; try omega) (by intro q hq; simp at hq ⊢; try omega))
            obtain ⟨r2, H2, c2, Q⟩ := Q
            have o2 : gxo [10, 12, 18, 17] [] F H2 := gxo.tr o1 (gxo.mono (w_Rd_readProduct1 c2) (by intro q hq; simp at hq ⊢; try omega) (by intro q hq; simp at hq ⊢; try omega))
            refine fo_if fo_ne Q (fun Q => ?_) (fun Q => ?_)
            · refine fo_if fo_le Q (fun Q => ?_) (fun Q => ?_)
              · obtain ⟨m, hm, hR⟩ := Q
                exact (ih m hm) _ _ hR o2
              · obtain ⟨m, hm, hR⟩ := Q
                exact (ih m hm) _ _ hR (gxo.wr (gxo.wr (gxo.wr o2 (by simp)) (by simp)) (by simp))
            · rw [Q.2]; exact o2
          · refine fo_if fo_ne Q (fun Q => ?_) (fun Q => ?_)
            · rw [Q.2]; exact ho
            · obtain ⟨H3, c3, Q⟩ := Q
              have o3 : gxo [10, 12, 18, 17] [] F H3 := gxo.tr ho (gxo.mono (w_Rd_advance c3) (by intro q hq; simp at hq ⊢; try omega) (by intro q hq; simp at hq ⊢; try omega))
              obtain ⟨r4, H4, c4, Q⟩ := Q
              have o4 : gxo [10, 12, 18, 17] [] F H4 := gxo.tr o3 (gxo.mono (w_Rd_readProduct1 c4) (by intro q hq; simp at hq ⊢; try omega) (by intro q hq; simp at hq ⊢; try omega))
              refine fo_if fo_ne Q (fun Q => ?_) (fun Q => ?_)
              · refine fo_if fo_le Q (fun Q => ?_) (fun Q => ?_)
                · obtain ⟨m, hm, hR⟩ := Q
                  exact (ih m hm) _ _ hR o4
                · obtain ⟨m, hm, hR⟩ := Q
                  exact (ih m hm) _ _ hR (gxo.wr (gxo.wr (gxo.wr o4 (by simp)) (by simp)) (by simp))
              · rw [Q.2]; exact o4
  have Q := q_Rd_readSum1_0 h
  obtain ⟨r1, H1, c1, Q⟩ := Q
  have o1 : gxo [10, 12, 18, 17] [] F H1 := gxo.tr gxo.rf (gxo.mono (w_Rd_readProduct1 c1) (by intro q hq; simp at hq ⊢; try omega) (by intro q hq; simp at hq ⊢; try omega))
  refine fo_if fo_ne Q (fun Q => ?_) (fun Q => ?_)
  · obtain ⟨m, hm, hR⟩ := Q
    exact (lp m) _ _ hR o1
  · rw [Q.2]; exact o1
theorem w_Rd_readUnit0 {F : fx_F} {v : fx_V} {F' : fx_F} (h : Cl k_Rd_readUnit0 [(2, 10), (0, 0)] F v F') : gxo [10, 12, 18, 17] [] F F' := by
  obtain ⟨n, h⟩ := c_Rd_readUnit0 h
  have Q := q_Rd_readUnit0_0 h
  rw [show i_add 0 1 = 1 from b_add (by decide)] at Q
  obtain ⟨r1, H1, c1, Q⟩ := Q
  have o1 : gxo [10, 12, 18, 17] [] F H1 := gxo.tr gxo.rf (gxo.mono (w_Rd_unitKind c1) (by intro q hq; simp at hq ⊢; try omega) (by intro q hq; simp at hq ⊢; try omega))
  refine fo_if fo_ne Q (fun Q => ?_) (fun Q => ?_)
  · refine fo_if fo_ne Q (fun Q => ?_) (fun Q => ?_)
    · refine fo_if fo_le Q (fun Q => ?_) (fun Q => ?_)
      · obtain ⟨r2, H2, c2, Q⟩ := Q
        have o2 : gxo [10, 12, 18, 17] [] F H2 := gxo.tr o1 (gxo.mono (w_Rd_fail c2) (by intro q hq; simp at hq ⊢; try omega) (by intro q hq; simp at hq ⊢; try omega))
        rw [Q.2]; exact o2
      · have Q := Q.1 (by rw [b_le (by decide) (by decide)] <;> decide)
        obtain ⟨H3, c3, Q⟩ := Q
        have o3 : gxo [10, 12, 18, 17] [] F H3 := gxo.tr (gxo.wr o1 (by simp)) (gxo.mono (w_Rd_advance c3) (by intro q hq; simp at hq ⊢; try omega) (by intro q hq; simp at hq ⊢; try omega))
        refine fo_if fo_ne Q (fun Q => ?_) (fun Q => ?_)
        · refine fo_if fo_ne Q (fun Q => ?_) (fun Q => ?_)
          · refine fo_if fo_le Q (fun Q => ?_) (fun Q => ?_)
            · rw [Q.2]; exact o3
            · rw [Q.2]; exact (gxo.wr (gxo.wr (gxo.wr o3 (by simp)) (by simp)) (by simp))
          · obtain ⟨r4, H4, c4, Q⟩ := Q
            have o4 : gxo [10, 12, 18, 17] [] F H4 := gxo.tr o3 (gxo.mono (w_Rd_readUnit1 c4) (by intro q hq; simp at hq ⊢; try omega) (by intro q hq; simp at hq ⊢; try omega))
            refine fo_if fo_ne Q (fun Q => ?_) (fun Q => ?_)
            · refine fo_if fo_le Q (fun Q => ?_) (fun Q => ?_)
              · rw [Q.2]; exact o4
              · rw [Q.2]; exact (gxo.wr (gxo.wr (gxo.wr o4 (by simp)) (by simp)) (by simp))
            · rw [Q.2]; exact o4
        · obtain ⟨r5, H5, c5, Q⟩ := Q
          have o5 : gxo [10, 12, 18, 17] [] F H5 := gxo.tr o3 (gxo.mono (w_Rd_readSum1 c5) (by intro q hq; simp at hq ⊢; try omega) (by intro q hq; simp at hq ⊢; try omega))
          refine fo_if fo_eq Q (fun Q => ?_) (fun Q => ?_)
          · rw [Q.2]; exact o5
          · obtain ⟨r6, H6, c6, Q⟩ := Q
            have o6 : gxo [10, 12, 18, 17] [] F H6 := gxo.tr o5 (gxo.mono (w_Rd_readSign c6) (by intro q hq; simp at hq ⊢; try omega) (by intro q hq; simp at hq ⊢; try omega))
            refine fo_if fo_eq Q (fun Q => ?_) (fun Q => ?_)
            · rw [Q.2]; exact o6
            · rw [Q.2]; exact o6
    · refine fo_if fo_le Q (fun Q => ?_) (fun Q => ?_)
      · refine fo_if fo_le Q (fun Q => ?_) (fun Q => ?_)
        · obtain ⟨r7, H7, c7, Q⟩ := Q
          have o7 : gxo [10, 12, 18, 17] [] F H7 := gxo.tr o1 (gxo.mono (w_Rd_fail c7) (by intro q hq; simp at hq ⊢; try omega) (by intro q hq; simp at hq ⊢; try omega))
          rw [Q.2]; exact o7
        · have Q := Q.1 (by rw [b_le (by decide) (by decide)] <;> decide)
          obtain ⟨H8, c8, Q⟩ := Q
          have o8 : gxo [10, 12, 18, 17] [] F H8 := gxo.tr (gxo.wr o1 (by simp)) (gxo.mono (w_Rd_advance c8) (by intro q hq; simp at hq ⊢; try omega) (by intro q hq; simp at hq ⊢; try omega))
          refine fo_if fo_ne Q (fun Q => ?_) (fun Q => ?_)
          · refine fo_if fo_ne Q (fun Q => ?_) (fun Q => ?_)
            · refine fo_if fo_le Q (fun Q => ?_) (fun Q => ?_)
              · rw [Q.2]; exact o8
              · rw [Q.2]; exact (gxo.wr (gxo.wr (gxo.wr o8 (by simp)) (by simp)) (by simp))
            · obtain ⟨r9, H9, c9, Q⟩ := Q
              have o9 : gxo [10, 12, 18, 17] [] F H9 := gxo.tr o8 (gxo.mono (w_Rd_readUnit1 c9) (by intro q hq; simp at hq ⊢; try omega) (by intro q hq; simp at hq ⊢; try omega))
              refine fo_if fo_ne Q (fun Q => ?_) (fun Q => ?_)
              · refine fo_if fo_le Q (fun Q => ?_) (fun Q => ?_)
                · rw [Q.2]; exact o9
                · rw [Q.2]; exact (gxo.wr (gxo.wr (gxo.wr o9 (by simp)) (by simp)) (by simp))
              · rw [Q.2]; exact o9
          · obtain ⟨r10, H10, c10, Q⟩ := Q
            have o10 : gxo [10, 12, 18, 17] [] F H10 := gxo.tr o8 (gxo.mono (w_Rd_readSum1 c10) (by intro q hq; simp at hq ⊢; try omega) (by intro q hq; simp at hq ⊢; try omega))
            refine fo_if fo_eq Q (fun Q => ?_) (fun Q => ?_)
            · rw [Q.2]; exact o10
            · obtain ⟨r11, H11, c11, Q⟩ := Q
              have o11 : gxo [10, 12, 18, 17] [] F H11 := gxo.tr o10 (gxo.mono (w_Rd_readSign c11) (by intro q hq; simp at hq ⊢; try omega) (by intro q hq; simp at hq ⊢; try omega))
              refine fo_if fo_eq Q (fun Q => ?_) (fun Q => ?_)
              · rw [Q.2]; exact o11
              · rw [Q.2]; exact o11
      · obtain ⟨r12, H12, c12, Q⟩ := Q
        have o12 : gxo [10, 12, 18, 17] [] F H12 := gxo.tr o1 (gxo.mono (w_Rd_fail c12) (by intro q hq; simp at hq ⊢; try omega) (by intro q hq; simp at hq ⊢; try omega))
        rw [Q.2]; exact o12
  · obtain ⟨r13, H13, c13, Q⟩ := Q
    have o13 : gxo [10, 12, 18, 17] [] F H13 := gxo.tr o1 (gxo.mono (w_Rd_fail c13) (by intro q hq; simp at hq ⊢; try omega) (by intro q hq; simp at hq ⊢; try omega))
    rw [Q.2]; exact o13
theorem w_Rd_readProduct0 {F : fx_F} {v : fx_V} {F' : fx_F} (h : Cl k_Rd_readProduct0 [(2, 10), (0, 0)] F v F') : gxo [10, 12, 18, 17] [] F F' := by
  obtain ⟨n, h⟩ := c_Rd_readProduct0 h
  have lp : ∀ n : Nat, (∀ (l2 : Nat) (F2 : fx_F), Rn n k_Rd_readProduct0 12 [(2, 10), (0, 0), (0, l2), (3, 0)] [] F2 v F' → gxo [10, 12, 18, 17] [] F F2 → gxo [10, 12, 18, 17] [] F F') := by
    intro n
    induction n using Nat.strongRecOn with
    | ind n ih =>
      refine fun l2 F2 h ho => ?_
      · have Q := q_Rd_readProduct0_12 h
        clear h
        refine fo_if fo_le Q (fun Q => ?_) (fun Q => ?_)
        · rw [Q.2]; exact ho
        · refine fo_if fo_eq Q (fun Q => ?_) (fun Q => ?_)
          · obtain ⟨H1, c1, Q⟩ := Q
            have o1 : gxo [10, 12, 18, 17] [] F H1 := gxo.tr ho (gxo.mono (w_Rd_advance c1) (by intro q hq; simp at hq ⊢; try omega) (by intro q hq; simp at hq ⊢; try omega))
            obtain ⟨r2, H2, c2, Q⟩ := Q
            have o2 : gxo [10, 12, 18, 17] [] F H2 := gxo.tr o1 (gxo.mono (w_Rd_readUnit0 c2) (by intro q hq; simp at hq ⊢; try omega) (by intro q hq; simp at hq ⊢; try omega))
            refine fo_if fo_ne Q (fun Q => ?_) (fun Q => ?_)
            · refine fo_if fo_le Q (fun Q => ?_) (fun Q => ?_)
              · obtain ⟨m, hm, hR⟩ := Q
                exact (ih m hm) _ _ hR o2
              · obtain ⟨m, hm, hR⟩ := Q
                exact (ih m hm) _ _ hR (gxo.wr (gxo.wr (gxo.wr o2 (by simp)) (by simp)) (by simp))
            · rw [Q.2]; exact o2
          · refine fo_if fo_eq Q (fun Q => ?_) (fun Q => ?_)
            · obtain ⟨H3, c3, Q⟩ := Q
              have o3 : gxo [10, 12, 18, 17] [] F H3 := gxo.tr ho (gxo.mono (w_Rd_advance c3) (by intro q hq; simp at hq ⊢; try omega) (by intro q hq; simp at hq ⊢; try omega))
              obtain ⟨r4, H4, c4, Q⟩ := Q
              have o4 : gxo [10, 12, 18, 17] [] F H4 := gxo.tr o3 (gxo.mono (w_Rd_readUnit0 c4) (by intro q hq; simp at hq ⊢; try omega) (by intro q hq; simp at hq ⊢; try omega))
              refine fo_if fo_ne Q (fun Q => ?_) (fun Q => ?_)
              · refine fo_if fo_le Q (fun Q => ?_) (fun Q => ?_)
                · obtain ⟨m, hm, hR⟩ := Q
                  exact (ih m hm) _ _ hR o4
                · obtain ⟨m, hm, hR⟩ := Q
                  exact (ih m hm) _ _ hR (gxo.wr (gxo.wr (gxo.wr o4 (by simp)) (by simp)) (by simp))
              · rw [Q.2]; exact o4
            · refine fo_if fo_ne Q (fun Q => ?_) (fun Q => ?_)
              · rw [Q.2]; exact ho
              · obtain ⟨H5, c5, Q⟩ := Q
                have o5 : gxo [10, 12, 18, 17] [] F H5 := gxo.tr ho (gxo.mono (w_Rd_advance c5) (by intro q hq; simp at hq ⊢; try omega) (by intro q hq; simp at hq ⊢; try omega))
                obtain ⟨r6, H6, c6, Q⟩ := Q
                have o6 : gxo [10, 12, 18, 17] [] F H6 := gxo.tr o5 (gxo.mono (w_Rd_readUnit0 c6) (by intro q hq; simp at hq ⊢; try omega) (by intro q hq; simp at hq ⊢; try omega))
                refine fo_if fo_ne Q (fun Q => ?_) (fun Q => ?_)
                · refine fo_if fo_le Q (fun Q => ?_) (fun Q => ?_)
                  · obtain ⟨m, hm, hR⟩ := Q
                    exact (ih m hm) _ _ hR o6
                  · obtain ⟨m, hm, hR⟩ := Q
                    exact (ih m hm) _ _ hR (gxo.wr (gxo.wr (gxo.wr o6 (by simp)) (by simp)) (by simp))
                · rw [Q.2]; exact o6
  have Q := q_Rd_readProduct0_0 h
  obtain ⟨r1, H1, c1, Q⟩ := Q
  have o1 : gxo [10, 12, 18, 17] [] F H1 := gxo.tr gxo.rf (gxo.mono (w_Rd_readUnit0 c1) (by intro q hq; simp at hq ⊢; try omega) (by intro q hq; simp at hq ⊢; try omega))
  refine fo_if fo_ne Q (fun Q => ?_) (fun Q => ?_)
  · obtain ⟨m, hm, hR⟩ := Q
    exact (lp m) _ _ hR o1
  · rw [Q.2]; exact o1
theorem w_Rd_readSum0 {F : fx_F} {v : fx_V} {F' : fx_F} (h : Cl k_Rd_readSum0 [(2, 10), (0, 0)] F v F') : gxo [10, 12, 18, 17] [] F F' := by
  obtain ⟨n, h⟩ := c_Rd_readSum0 h
  have lp : ∀ n : Nat, (∀ (l2 : Nat) (F2 : fx_F), Rn n k_Rd_readSum0 12 [(2, 10), (0, 0), (0, l2), (3, 0)] [] F2 v F' → gxo [10, 12, 18, 17] [] F F2 → gxo [10, 12, 18, 17] [] F F') := by
    intro n
    induction n using Nat.strongRecOn with
    | ind n ih =>
      refine fun l2 F2 h ho => ?_
      · have Q := q_Rd_readSum0_12 h
        clear h
        refine fo_if fo_le Q (fun Q => ?_) (fun Q => ?_)
        · rw [Q.2]; exact ho
        · refine fo_if fo_eq Q (fun Q => ?_) (fun Q => ?_)
          · obtain ⟨H1, c1, Q⟩ := Q
            have o1 : gxo [10, 12, 18, 17] [] F H1 := gxo.tr ho (gxo.mono (w_Rd_advance c1) (by intro q hq; simp at hq ⊢; try omega) (by intro q hq; simp at hq ⊢; try omega))
            obtain ⟨r2, H2, c2, Q⟩ := Q
            have o2 : gxo [10, 12, 18, 17] [] F H2 := gxo.tr o1 (gxo.mono (w_Rd_readProduct0 c2) (by intro q hq; simp at hq ⊢; try omega) (by intro q hq; simp at hq ⊢; try omega))
            refine fo_if fo_ne Q (fun Q => ?_) (fun Q => ?_)
            · refine fo_if fo_le Q (fun Q => ?_) (fun Q => ?_)
              · obtain ⟨m, hm, hR⟩ := Q
                exact (ih m hm) _ _ hR o2
              · obtain ⟨m, hm, hR⟩ := Q
                exact (ih m hm) _ _ hR (gxo.wr (gxo.wr (gxo.wr o2 (by simp)) (by simp)) (by simp))
            · rw [Q.2]; exact o2
          · refine fo_if fo_ne Q (fun Q => ?_) (fun Q => ?_)
            · rw [Q.2]; exact ho
            · obtain ⟨H3, c3, Q⟩ := Q
              have o3 : gxo [10, 12, 18, 17] [] F H3 := gxo.tr ho (gxo.mono (w_Rd_advance c3) (by intro q hq; simp at hq ⊢; try omega) (by intro q hq; simp at hq ⊢; try omega))
              obtain ⟨r4, H4, c4, Q⟩ := Q
              have o4 : gxo [10, 12, 18, 17] [] F H4 := gxo.tr o3 (gxo.mono (w_Rd_readProduct0 c4) (by intro q hq; simp at hq ⊢; try omega) (by intro q hq; simp at hq ⊢; try omega))
              refine fo_if fo_ne Q (fun Q => ?_) (fun Q => ?_)
              · refine fo_if fo_le Q (fun Q => ?_) (fun Q => ?_)
                · obtain ⟨m, hm, hR⟩ := Q
                  exact (ih m hm) _ _ hR o4
                · obtain ⟨m, hm, hR⟩ := Q
                  exact (ih m hm) _ _ hR (gxo.wr (gxo.wr (gxo.wr o4 (by simp)) (by simp)) (by simp))
              · rw [Q.2]; exact o4
  have Q := q_Rd_readSum0_0 h
  obtain ⟨r1, H1, c1, Q⟩ := Q
  have o1 : gxo [10, 12, 18, 17] [] F H1 := gxo.tr gxo.rf (gxo.mono (w_Rd_readProduct0 c1) (by intro q hq; simp at hq ⊢; try omega) (by intro q hq; simp at hq ⊢; try omega))
  refine fo_if fo_ne Q (fun Q => ?_) (fun Q => ?_)
  · obtain ⟨m, hm, hR⟩ := Q
    exact (lp m) _ _ hR o1
  · rw [Q.2]; exact o1
theorem w_Rd_readLine {F : fx_F} {v : fx_V} {F' : fx_F} (h : Cl k_Rd_readLine [(2, 10)] F v F') : gxo [10, 12, 18, 17, 14, 13] [] F F' := by
  obtain ⟨n, h⟩ := c_Rd_readLine h
  have Q := q_Rd_readLine_0 h
  obtain ⟨r1, H1, c1, Q⟩ := Q
  have o1 : gxo [10, 12, 18, 17, 14, 13] [] F H1 := gxo.tr gxo.rf (gxo.mono (w_Rd_isWord c1) (by intro q hq; simp at hq ⊢; try omega) (by intro q hq; simp at hq ⊢; try omega))
  refine fo_if fo_eq Q (fun Q => ?_) (fun Q => ?_)
  · obtain ⟨r2, H2, c2, Q⟩ := Q
    have o2 : gxo [10, 12, 18, 17, 14, 13] [] F H2 := gxo.tr o1 (gxo.mono (w_Rd_isWord c2) (by intro q hq; simp at hq ⊢; try omega) (by intro q hq; simp at hq ⊢; try omega))
    refine fo_if fo_eq Q (fun Q => ?_) (fun Q => ?_)
    · obtain ⟨r3, H3, c3, Q⟩ := Q
      have o3 : gxo [10, 12, 18, 17, 14, 13] [] F H3 := gxo.tr o2 (gxo.mono (w_Rd_isWord c3) (by intro q hq; simp at hq ⊢; try omega) (by intro q hq; simp at hq ⊢; try omega))
      refine fo_if fo_eq Q (fun Q => ?_) (fun Q => ?_)
      · obtain ⟨r4, H4, c4, Q⟩ := Q
        have o4 : gxo [10, 12, 18, 17, 14, 13] [] F H4 := gxo.tr o3 (gxo.mono (w_Rd_isWord c4) (by intro q hq; simp at hq ⊢; try omega) (by intro q hq; simp at hq ⊢; try omega))
        refine fo_if fo_eq Q (fun Q => ?_) (fun Q => ?_)
        · obtain ⟨r5, H5, c5, Q⟩ := Q
          have o5 : gxo [10, 12, 18, 17, 14, 13] [] F H5 := gxo.tr o4 (gxo.mono (w_Rd_fail c5) (by intro q hq; simp at hq ⊢; try omega) (by intro q hq; simp at hq ⊢; try omega))
          rw [Q.2]; exact o5
        · refine fo_if fo_ne Q (fun Q => ?_) (fun Q => ?_)
          · obtain ⟨r6, H6, c6, Q⟩ := Q
            have o6 : gxo [10, 12, 18, 17, 14, 13] [] F H6 := gxo.tr o4 (gxo.mono (w_Rd_fail c6) (by intro q hq; simp at hq ⊢; try omega) (by intro q hq; simp at hq ⊢; try omega))
            rw [Q.2]; exact o6
          · obtain ⟨H7, c7, Q⟩ := Q
            have o7 : gxo [10, 12, 18, 17, 14, 13] [] F H7 := gxo.tr (gxo.wr o4 (by simp)) (gxo.mono (w_Rd_advance c7) (by intro q hq; simp at hq ⊢; try omega) (by intro q hq; simp at hq ⊢; try omega))
            obtain ⟨r8, H8, c8, Q⟩ := Q
            have o8 : gxo [10, 12, 18, 17, 14, 13] [] F H8 := gxo.tr o7 (gxo.mono (w_Rd_readSum0 c8) (by intro q hq; simp at hq ⊢; try omega) (by intro q hq; simp at hq ⊢; try omega))
            refine fo_if fo_eq Q (fun Q => ?_) (fun Q => ?_)
            · rw [Q.2]; exact o8
            · obtain ⟨r9, H9, c9, Q⟩ := Q
              have o9 : gxo [10, 12, 18, 17, 14, 13] [] F H9 := gxo.tr o8 (gxo.mono (w_Rd_readSign c9) (by intro q hq; simp at hq ⊢; try omega) (by intro q hq; simp at hq ⊢; try omega))
              refine fo_if fo_eq Q (fun Q => ?_) (fun Q => ?_)
              · rw [Q.2]; exact o9
              · rw [Q.2]; exact o9
      · refine fo_if fo_ne Q (fun Q => ?_) (fun Q => ?_)
        · obtain ⟨r10, H10, c10, Q⟩ := Q
          have o10 : gxo [10, 12, 18, 17, 14, 13] [] F H10 := gxo.tr o3 (gxo.mono (w_Rd_isWord c10) (by intro q hq; simp at hq ⊢; try omega) (by intro q hq; simp at hq ⊢; try omega))
          refine fo_if fo_eq Q (fun Q => ?_) (fun Q => ?_)
          · obtain ⟨r11, H11, c11, Q⟩ := Q
            have o11 : gxo [10, 12, 18, 17, 14, 13] [] F H11 := gxo.tr o10 (gxo.mono (w_Rd_fail c11) (by intro q hq; simp at hq ⊢; try omega) (by intro q hq; simp at hq ⊢; try omega))
            rw [Q.2]; exact o11
          · refine fo_if fo_ne Q (fun Q => ?_) (fun Q => ?_)
            · obtain ⟨r12, H12, c12, Q⟩ := Q
              have o12 : gxo [10, 12, 18, 17, 14, 13] [] F H12 := gxo.tr o10 (gxo.mono (w_Rd_fail c12) (by intro q hq; simp at hq ⊢; try omega) (by intro q hq; simp at hq ⊢; try omega))
              rw [Q.2]; exact o12
            · obtain ⟨H13, c13, Q⟩ := Q
              have o13 : gxo [10, 12, 18, 17, 14, 13] [] F H13 := gxo.tr (gxo.wr o10 (by simp)) (gxo.mono (w_Rd_advance c13) (by intro q hq; simp at hq ⊢; try omega) (by intro q hq; simp at hq ⊢; try omega))
              obtain ⟨r14, H14, c14, Q⟩ := Q
              have o14 : gxo [10, 12, 18, 17, 14, 13] [] F H14 := gxo.tr o13 (gxo.mono (w_Rd_readSum0 c14) (by intro q hq; simp at hq ⊢; try omega) (by intro q hq; simp at hq ⊢; try omega))
              refine fo_if fo_eq Q (fun Q => ?_) (fun Q => ?_)
              · rw [Q.2]; exact o14
              · obtain ⟨r15, H15, c15, Q⟩ := Q
                have o15 : gxo [10, 12, 18, 17, 14, 13] [] F H15 := gxo.tr o14 (gxo.mono (w_Rd_readSign c15) (by intro q hq; simp at hq ⊢; try omega) (by intro q hq; simp at hq ⊢; try omega))
                refine fo_if fo_eq Q (fun Q => ?_) (fun Q => ?_)
                · rw [Q.2]; exact o15
                · rw [Q.2]; exact o15
        · obtain ⟨r16, H16, c16, Q⟩ := Q
          have o16 : gxo [10, 12, 18, 17, 14, 13] [] F H16 := gxo.tr (gxo.wr o3 (by simp)) (gxo.mono (w_Rd_readNumber c16) (by intro q hq; simp at hq ⊢; try omega) (by intro q hq; simp at hq ⊢; try omega))
          refine fo_if fo_ne Q (fun Q => ?_) (fun Q => ?_)
          · obtain ⟨r17, H17, c17, Q⟩ := Q
            have o17 : gxo [10, 12, 18, 17, 14, 13] [] F H17 := gxo.tr (gxo.wr o16 (by simp)) (gxo.mono (w_Rd_closeLine c17) (by intro q hq; simp at hq ⊢; try omega) (by intro q hq; simp at hq ⊢; try omega))
            rw [Q.2]; exact o17
          · rw [Q.2]; exact o16
    · refine fo_if fo_ne Q (fun Q => ?_) (fun Q => ?_)
      · obtain ⟨r18, H18, c18, Q⟩ := Q
        have o18 : gxo [10, 12, 18, 17, 14, 13] [] F H18 := gxo.tr o2 (gxo.mono (w_Rd_isWord c18) (by intro q hq; simp at hq ⊢; try omega) (by intro q hq; simp at hq ⊢; try omega))
        refine fo_if fo_eq Q (fun Q => ?_) (fun Q => ?_)
        · obtain ⟨r19, H19, c19, Q⟩ := Q
          have o19 : gxo [10, 12, 18, 17, 14, 13] [] F H19 := gxo.tr o18 (gxo.mono (w_Rd_isWord c19) (by intro q hq; simp at hq ⊢; try omega) (by intro q hq; simp at hq ⊢; try omega))
          refine fo_if fo_eq Q (fun Q => ?_) (fun Q => ?_)
          · obtain ⟨r20, H20, c20, Q⟩ := Q
            have o20 : gxo [10, 12, 18, 17, 14, 13] [] F H20 := gxo.tr o19 (gxo.mono (w_Rd_fail c20) (by intro q hq; simp at hq ⊢; try omega) (by intro q hq; simp at hq ⊢; try omega))
            rw [Q.2]; exact o20
          · refine fo_if fo_ne Q (fun Q => ?_) (fun Q => ?_)
            · obtain ⟨r21, H21, c21, Q⟩ := Q
              have o21 : gxo [10, 12, 18, 17, 14, 13] [] F H21 := gxo.tr o19 (gxo.mono (w_Rd_fail c21) (by intro q hq; simp at hq ⊢; try omega) (by intro q hq; simp at hq ⊢; try omega))
              rw [Q.2]; exact o21
            · obtain ⟨H22, c22, Q⟩ := Q
              have o22 : gxo [10, 12, 18, 17, 14, 13] [] F H22 := gxo.tr (gxo.wr o19 (by simp)) (gxo.mono (w_Rd_advance c22) (by intro q hq; simp at hq ⊢; try omega) (by intro q hq; simp at hq ⊢; try omega))
              obtain ⟨r23, H23, c23, Q⟩ := Q
              have o23 : gxo [10, 12, 18, 17, 14, 13] [] F H23 := gxo.tr o22 (gxo.mono (w_Rd_readSum0 c23) (by intro q hq; simp at hq ⊢; try omega) (by intro q hq; simp at hq ⊢; try omega))
              refine fo_if fo_eq Q (fun Q => ?_) (fun Q => ?_)
              · rw [Q.2]; exact o23
              · obtain ⟨r24, H24, c24, Q⟩ := Q
                have o24 : gxo [10, 12, 18, 17, 14, 13] [] F H24 := gxo.tr o23 (gxo.mono (w_Rd_readSign c24) (by intro q hq; simp at hq ⊢; try omega) (by intro q hq; simp at hq ⊢; try omega))
                refine fo_if fo_eq Q (fun Q => ?_) (fun Q => ?_)
                · rw [Q.2]; exact o24
                · rw [Q.2]; exact o24
        · refine fo_if fo_ne Q (fun Q => ?_) (fun Q => ?_)
          · obtain ⟨r25, H25, c25, Q⟩ := Q
            have o25 : gxo [10, 12, 18, 17, 14, 13] [] F H25 := gxo.tr o18 (gxo.mono (w_Rd_isWord c25) (by intro q hq; simp at hq ⊢; try omega) (by intro q hq; simp at hq ⊢; try omega))
            refine fo_if fo_eq Q (fun Q => ?_) (fun Q => ?_)
            · obtain ⟨r26, H26, c26, Q⟩ := Q
              have o26 : gxo [10, 12, 18, 17, 14, 13] [] F H26 := gxo.tr o25 (gxo.mono (w_Rd_fail c26) (by intro q hq; simp at hq ⊢; try omega) (by intro q hq; simp at hq ⊢; try omega))
              rw [Q.2]; exact o26
            · refine fo_if fo_ne Q (fun Q => ?_) (fun Q => ?_)
              · obtain ⟨r27, H27, c27, Q⟩ := Q
                have o27 : gxo [10, 12, 18, 17, 14, 13] [] F H27 := gxo.tr o25 (gxo.mono (w_Rd_fail c27) (by intro q hq; simp at hq ⊢; try omega) (by intro q hq; simp at hq ⊢; try omega))
                rw [Q.2]; exact o27
              · obtain ⟨H28, c28, Q⟩ := Q
                have o28 : gxo [10, 12, 18, 17, 14, 13] [] F H28 := gxo.tr (gxo.wr o25 (by simp)) (gxo.mono (w_Rd_advance c28) (by intro q hq; simp at hq ⊢; try omega) (by intro q hq; simp at hq ⊢; try omega))
                obtain ⟨r29, H29, c29, Q⟩ := Q
                have o29 : gxo [10, 12, 18, 17, 14, 13] [] F H29 := gxo.tr o28 (gxo.mono (w_Rd_readSum0 c29) (by intro q hq; simp at hq ⊢; try omega) (by intro q hq; simp at hq ⊢; try omega))
                refine fo_if fo_eq Q (fun Q => ?_) (fun Q => ?_)
                · rw [Q.2]; exact o29
                · obtain ⟨r30, H30, c30, Q⟩ := Q
                  have o30 : gxo [10, 12, 18, 17, 14, 13] [] F H30 := gxo.tr o29 (gxo.mono (w_Rd_readSign c30) (by intro q hq; simp at hq ⊢; try omega) (by intro q hq; simp at hq ⊢; try omega))
                  refine fo_if fo_eq Q (fun Q => ?_) (fun Q => ?_)
                  · rw [Q.2]; exact o30
                  · rw [Q.2]; exact o30
          · obtain ⟨r31, H31, c31, Q⟩ := Q
            have o31 : gxo [10, 12, 18, 17, 14, 13] [] F H31 := gxo.tr (gxo.wr o18 (by simp)) (gxo.mono (w_Rd_readNumber c31) (by intro q hq; simp at hq ⊢; try omega) (by intro q hq; simp at hq ⊢; try omega))
            refine fo_if fo_ne Q (fun Q => ?_) (fun Q => ?_)
            · obtain ⟨r32, H32, c32, Q⟩ := Q
              have o32 : gxo [10, 12, 18, 17, 14, 13] [] F H32 := gxo.tr (gxo.wr o31 (by simp)) (gxo.mono (w_Rd_closeLine c32) (by intro q hq; simp at hq ⊢; try omega) (by intro q hq; simp at hq ⊢; try omega))
              rw [Q.2]; exact o32
            · rw [Q.2]; exact o31
      · obtain ⟨r33, H33, c33, Q⟩ := Q
        have o33 : gxo [10, 12, 18, 17, 14, 13] [] F H33 := gxo.tr (gxo.wr o2 (by simp)) (gxo.mono (w_Rd_readNumber c33) (by intro q hq; simp at hq ⊢; try omega) (by intro q hq; simp at hq ⊢; try omega))
        refine fo_if fo_ne Q (fun Q => ?_) (fun Q => ?_)
        · obtain ⟨r34, H34, c34, Q⟩ := Q
          have o34 : gxo [10, 12, 18, 17, 14, 13] [] F H34 := gxo.tr (gxo.wr o33 (by simp)) (gxo.mono (w_Rd_closeLine c34) (by intro q hq; simp at hq ⊢; try omega) (by intro q hq; simp at hq ⊢; try omega))
          rw [Q.2]; exact o34
        · rw [Q.2]; exact o33
  · obtain ⟨r35, H35, c35, Q⟩ := Q
    have o35 : gxo [10, 12, 18, 17, 14, 13] [] F H35 := gxo.tr o1 (gxo.mono (w_Rd_readLink c35) (by intro q hq; simp at hq ⊢; try omega) (by intro q hq; simp at hq ⊢; try omega))
    rw [Q.2]; exact o35
theorem w_Rd_readSwitches {F : fx_F} {v : fx_V} {F' : fx_F} (h : Cl k_Rd_readSwitches [(2, 10)] F v F') : gxo [10, 12] [] F F' := by
  obtain ⟨n, h⟩ := c_Rd_readSwitches h
  have Q := q_Rd_readSwitches_0 h
  obtain ⟨r1, H1, c1, Q⟩ := Q
  have o1 : gxo [10, 12] [] F H1 := gxo.tr gxo.rf (gxo.mono (w_Rd_isWord c1) (by intro q hq; simp at hq ⊢; try omega) (by intro q hq; simp at hq ⊢; try omega))
  refine fo_if fo_ne Q (fun Q => ?_) (fun Q => ?_)
  · obtain ⟨r2, H2, c2, Q⟩ := Q
    have o2 : gxo [10, 12] [] F H2 := gxo.tr o1 (gxo.mono (w_Rd_readNumber c2) (by intro q hq; simp at hq ⊢; try omega) (by intro q hq; simp at hq ⊢; try omega))
    refine fo_if fo_ne Q (fun Q => ?_) (fun Q => ?_)
    · obtain ⟨r3, H3, c3, Q⟩ := Q
      have o3 : gxo [10, 12] [] F H3 := gxo.tr (gxo.wr o2 (by simp)) (gxo.mono (w_Rd_closeLine c3) (by intro q hq; simp at hq ⊢; try omega) (by intro q hq; simp at hq ⊢; try omega))
      rw [Q.2]; exact o3
    · rw [Q.2]; exact o2
  · obtain ⟨r4, H4, c4, Q⟩ := Q
    have o4 : gxo [10, 12] [] F H4 := gxo.tr o1 (gxo.mono (w_Rd_fail c4) (by intro q hq; simp at hq ⊢; try omega) (by intro q hq; simp at hq ⊢; try omega))
    rw [Q.2]; exact o4
theorem w_Rd_readText {F : fx_F} {v : fx_V} {F' : fx_F} (h : Cl k_Rd_readText [(2, 10)] F v F') : gxo [10, 12, 18, 17, 14, 13] [] F F' := by
  obtain ⟨n, h⟩ := c_Rd_readText h
  have lp : ∀ n : Nat, (∀ (l1 : Nat) (F2 : fx_F), Rn n k_Rd_readText 61 [(2, 10), (0, l1)] [] F2 v F' → gxo [10, 12, 18, 17, 14, 13] [] F F2 → gxo [10, 12, 18, 17, 14, 13] [] F F') := by
    intro n
    induction n using Nat.strongRecOn with
    | ind n ih =>
      refine fun l1 F2 h ho => ?_
      · have Q := q_Rd_readText_61 h
        clear h
        refine fo_if fo_le Q (fun Q => ?_) (fun Q => ?_)
        · rw [Q.2]; exact ho
        · refine fo_if fo_eq Q (fun Q => ?_) (fun Q => ?_)
          · rw [Q.2]; exact ho
          · obtain ⟨r1, H1, c1, Q⟩ := Q
            have o1 : gxo [10, 12, 18, 17, 14, 13] [] F H1 := gxo.tr ho (gxo.mono (w_Rd_readLine c1) (by intro q hq; simp at hq ⊢; try omega) (by intro q hq; simp at hq ⊢; try omega))
            refine fo_if fo_ne Q (fun Q => ?_) (fun Q => ?_)
            · obtain ⟨m, hm, hR⟩ := Q
              exact (ih m hm) _ _ hR o1
            · rw [Q.2]; exact o1
  have Q := q_Rd_readText_0 h
  obtain ⟨H1, c1, Q⟩ := Q
  have o1 : gxo [10, 12, 18, 17, 14, 13] [] F H1 := gxo.tr (gxo.wr (gxo.wr (gxo.wr (gxo.wr (gxo.wr (gxo.wr (gxo.wr (gxo.wr (gxo.wr (gxo.wr (gxo.wr (gxo.wr gxo.rf (by simp)) (by simp)) (by simp)) (by simp)) (by simp)) (by simp)) (by simp)) (by simp)) (by simp)) (by simp)) (by simp)) (by simp)) (gxo.mono (w_Rd_advance c1) (by intro q hq; simp at hq ⊢; try omega) (by intro q hq; simp at hq ⊢; try omega))
  refine fo_if fo_ne Q (fun Q => ?_) (fun Q => ?_)
  · obtain ⟨r2, H2, c2, Q⟩ := Q
    have o2 : gxo [10, 12, 18, 17, 14, 13] [] F H2 := gxo.tr o1 (gxo.mono (w_Rd_readSwitches c2) (by intro q hq; simp at hq ⊢; try omega) (by intro q hq; simp at hq ⊢; try omega))
    refine fo_if fo_ne Q (fun Q => ?_) (fun Q => ?_)
    · obtain ⟨m, hm, hR⟩ := Q
      exact (lp m) _ _ hR o2
    · rw [Q.2]; exact o2
  · rw [Q.2]; exact o1
theorem w_Net_listChannels {p : Nat} {F : fx_F} {v : fx_V} {F' : fx_F} (h : Cl k_Net_listChannels [(2, p)] F v F') : gxo [p + 3, p + 4] [] F F' := by
  obtain ⟨n, h⟩ := c_Net_listChannels h
  have lp : ∀ n : Nat, (∀ (l1 l2 : Nat) (F2 : fx_F), Rn n k_Net_listChannels 4 [(2, p), (0, l1), (0, l2), (3, 0)] [] F2 v F' → gxo [p + 3, p + 4] [] F F2 → gxo [p + 3, p + 4] [] F F') ∧ (∀ (l1 l2 l3 : Nat) (F2 : fx_F), Rn n k_Net_listChannels 21 [(2, p), (0, l1), (0, l2), (0, l3)] [] F2 v F' → gxo [p + 3, p + 4] [] F F2 → gxo [p + 3, p + 4] [] F F') := by
    intro n
    induction n using Nat.strongRecOn with
    | ind n ih =>
      refine ⟨fun l1 l2 F2 h ho => ?_, fun l1 l2 l3 F2 h ho => ?_⟩
      · have Q := q_Net_listChannels_4 h
        clear h
        refine fo_if fo_le Q (fun Q => ?_) (fun Q => ?_)
        · rw [Q.2]; exact (gxo.wr ho (by simp))
        · obtain ⟨m, hm, hR⟩ := Q
          exact (ih m hm).2 _ _ _ _ hR (gxo.wr ho (by simp))
      · have Q := q_Net_listChannels_21 h
        clear h
        refine fo_if fo_le Q (fun Q => ?_) (fun Q => ?_)
        · obtain ⟨m, hm, hR⟩ := Q
          exact (ih m hm).1 _ _ _ hR ho
        · refine fo_if fo_ne Q (fun Q => ?_) (fun Q => ?_)
          · obtain ⟨m, hm, hR⟩ := Q
            exact (ih m hm).2 _ _ _ _ hR ho
          · obtain ⟨m, hm, hR⟩ := Q
            exact (ih m hm).2 _ _ _ _ hR (gxo.wr ho (by simp))
  have Q := q_Net_listChannels_0 h
  obtain ⟨m, hm, hR⟩ := Q
  exact (lp m).1 _ _ _ hR gxo.rf
theorem w_Net_copyFrom {p a1 : Nat} {F : fx_F} {v : fx_V} {F' : fx_F} (h : Cl k_Net_copyFrom [(2, p), (2, a1)] F v F') : gxo [p + 6, p + 5, p + 2, p + 1, p, p + 3, p + 4] [] F F' := by
  obtain ⟨n, h⟩ := c_Net_copyFrom h
  have Q := q_Net_copyFrom_0 h
  obtain ⟨H1, c1, Q⟩ := Q
  have o1 : gxo [p + 6, p + 5, p + 2, p + 1, p, p + 3, p + 4] [] F H1 := gxo.tr (gxo.cp (gxo.cp (gxo.cp (gxo.cp (gxo.wr (gxo.wr (gxo.wr (gxo.wr (gxo.wr (gxo.wr gxo.rf (by simp)) (by simp)) (by simp)) (by simp)) (by simp)) (by simp)) (by simp)) (by simp)) (by simp)) (by simp)) (gxo.mono (w_Net_listChannels c1) (by intro q hq; simp at hq ⊢; try omega) (by intro q hq; simp at hq ⊢; try omega))
  rw [Q.2]; exact o1
theorem w_M_layFar {a1 a2 : Nat} {F : fx_F} {v : fx_V} {F' : fx_F} (h : Cl k_M_layFar [(2, 175), (0, a1), (0, a2)] F v F') : gxo [188] [] F F' := by
  obtain ⟨n, h⟩ := c_M_layFar h
  have lp : ∀ n : Nat, (∀ (l1 l2 l3 : Nat) (F2 : fx_F), Rn n k_M_layFar 2 [(2, 175), (0, l1), (0, l2), (0, l3), (3, 0), (3, 0), (3, 0)] [] F2 v F' → gxo [188] [] F F2 → gxo [188] [] F F') ∧ (∀ (l2 l3 : Nat) (F2 : fx_F), Rn n k_M_layFar 40 [(2, 175), (3, 0), (0, l2), (0, l3), (3, 0), (3, 0), (3, 0)] [] F2 v F' → gxo [188] [] F F2 → gxo [188] [] F F') ∧ (∀ (l2 l3 l4 : Nat) (F2 : fx_F), Rn n k_M_layFar 51 [(2, 175), (3, 0), (0, l2), (0, l3), (0, l4), (3, 0), (3, 0)] [] F2 v F' → gxo [188] [] F F2 → gxo [188] [] F F') := by
    intro n
    induction n using Nat.strongRecOn with
    | ind n ih =>
      refine ⟨fun l1 l2 l3 F2 h ho => ?_, fun l2 l3 F2 h ho => ?_, fun l2 l3 l4 F2 h ho => ?_⟩
      · have Q := q_M_layFar_2 h
        clear h
        refine fo_if fo_le Q (fun Q => ?_) (fun Q => ?_)
        · refine fo_if fo_lt Q (fun Q => ?_) (fun Q => ?_)
          · rw [Q.2]; exact ho
          · refine fo_if fo_lt Q (fun Q => ?_) (fun Q => ?_)
            · rw [Q.2]; exact ho
            · obtain ⟨m, hm, hR⟩ := Q
              exact (ih m hm).2.1 _ _ _ hR (gxo.wr ho (by simp))
        · obtain ⟨m, hm, hR⟩ := Q
          exact (ih m hm).1 _ _ _ _ hR (gxo.wr ho (by simp))
      · have Q := q_M_layFar_40 h
        clear h
        refine fo_if fo_le Q (fun Q => ?_) (fun Q => ?_)
        · rw [Q.2]; exact ho
        · obtain ⟨m, hm, hR⟩ := Q
          exact (ih m hm).2.2 _ _ _ _ hR ho
      · have Q := q_M_layFar_51 h
        clear h
        refine fo_if fo_le Q (fun Q => ?_) (fun Q => ?_)
        · obtain ⟨m, hm, hR⟩ := Q
          exact (ih m hm).2.1 _ _ _ hR ho
        · refine fo_if fo_ne Q (fun Q => ?_) (fun Q => ?_)
          · obtain ⟨m, hm, hR⟩ := Q
            exact (ih m hm).2.2 _ _ _ _ hR ho
          · refine fo_if fo_eq Q (fun Q => ?_) (fun Q => ?_)
            · obtain ⟨m, hm, hR⟩ := Q
              exact (ih m hm).2.2 _ _ _ _ hR ho
            · refine fo_if fo_ne Q (fun Q => ?_) (fun Q => ?_)
              · refine fo_if fo_le Q (fun Q => ?_) (fun Q => ?_)
                · refine fo_if fo_le Q (fun Q => ?_) (fun Q => ?_)
                  · obtain ⟨m, hm, hR⟩ := Q
                    exact (ih m hm).2.2 _ _ _ _ hR ho
                  · obtain ⟨m, hm, hR⟩ := Q
                    exact (ih m hm).2.2 _ _ _ _ hR (gxo.wr ho (by simp))
                · refine fo_if fo_le Q (fun Q => ?_) (fun Q => ?_)
                  · obtain ⟨m, hm, hR⟩ := Q
                    exact (ih m hm).2.2 _ _ _ _ hR (gxo.wr ho (by simp))
                  · obtain ⟨m, hm, hR⟩ := Q
                    exact (ih m hm).2.2 _ _ _ _ hR (gxo.wr (gxo.wr ho (by simp)) (by simp))
              · obtain ⟨m, hm, hR⟩ := Q
                exact (ih m hm).2.2 _ _ _ _ hR ho
  have Q := q_M_layFar_0 h
  obtain ⟨m, hm, hR⟩ := Q
  exact (lp m).1 _ _ _ _ hR gxo.rf
theorem w_M_linksOf {a1 : Nat} {F : fx_F} {v : fx_V} {F' : fx_F} (h : Cl k_M_linksOf [(2, 175), (0, a1)] F v F') : gxo [] [] F F' := by
  obtain ⟨n, h⟩ := c_M_linksOf h
  have lp : ∀ n : Nat, (∀ (l1 l2 l3 : Nat) (F2 : fx_F), Rn n k_M_linksOf 4 [(2, 175), (0, l1), (0, l2), (0, l3)] [] F2 v F' → gxo [] [] F F2 → gxo [] [] F F') := by
    intro n
    induction n using Nat.strongRecOn with
    | ind n ih =>
      refine fun l1 l2 l3 F2 h ho => ?_
      · have Q := q_M_linksOf_4 h
        clear h
        refine fo_if fo_le Q (fun Q => ?_) (fun Q => ?_)
        · rw [Q.2]; exact ho
        · refine fo_if fo_ne Q (fun Q => ?_) (fun Q => ?_)
          · obtain ⟨m, hm, hR⟩ := Q
            exact (ih m hm) _ _ _ _ hR ho
          · refine fo_if fo_eq Q (fun Q => ?_) (fun Q => ?_)
            · obtain ⟨m, hm, hR⟩ := Q
              exact (ih m hm) _ _ _ _ hR ho
            · refine fo_if fo_ne Q (fun Q => ?_) (fun Q => ?_)
              · obtain ⟨m, hm, hR⟩ := Q
                exact (ih m hm) _ _ _ _ hR ho
              · obtain ⟨m, hm, hR⟩ := Q
                exact (ih m hm) _ _ _ _ hR ho
  have Q := q_M_linksOf_0 h
  obtain ⟨m, hm, hR⟩ := Q
  exact (lp m) _ _ _ _ hR gxo.rf
theorem w_M_rankOf {a1 : Nat} {F : fx_F} {v : fx_V} {F' : fx_F} (h : Cl k_M_rankOf [(2, 175), (0, a1)] F v F') : gxo [191] [] F F' := by
  obtain ⟨n, h⟩ := c_M_rankOf h
  have lp : ∀ n : Nat, (∀ (l1 l2 l3 : Nat) (F2 : fx_F), Rn n k_M_rankOf 23 [(2, 175), (0, l1), (0, l2), (0, l3), (3, 0)] [] F2 v F' → gxo [191] [] F F2 → gxo [191] [] F F') := by
    intro n
    induction n using Nat.strongRecOn with
    | ind n ih =>
      refine fun l1 l2 l3 F2 h ho => ?_
      · have Q := q_M_rankOf_23 h
        clear h
        refine fo_if fo_le Q (fun Q => ?_) (fun Q => ?_)
        · rw [Q.2]; exact ho
        · refine fo_if fo_le Q (fun Q => ?_) (fun Q => ?_)
          · refine fo_if fo_ne Q (fun Q => ?_) (fun Q => ?_)
            · refine fo_if fo_ne Q (fun Q => ?_) (fun Q => ?_)
              · refine fo_if fo_ne Q (fun Q => ?_) (fun Q => ?_)
                · obtain ⟨m, hm, hR⟩ := Q
                  exact (ih m hm) _ _ _ _ hR (gxo.wr ho (by simp))
                · obtain ⟨r1, H1, c1, Q⟩ := Q
                  have o1 : gxo [191] [] F H1 := gxo.tr ho (gxo.mono (w_M_linksOf c1) (by intro q hq; simp at hq ⊢; try omega) (by intro q hq; simp at hq ⊢; try omega))
                  obtain ⟨m, hm, hR⟩ := Q
                  exact (ih m hm) _ _ _ _ hR (gxo.wr o1 (by simp))
              · obtain ⟨m, hm, hR⟩ := Q
                exact (ih m hm) _ _ _ _ hR (gxo.wr ho (by simp))
            · obtain ⟨m, hm, hR⟩ := Q
              exact (ih m hm) _ _ _ _ hR (gxo.wr ho (by simp))
          · refine fo_if fo_ne Q (fun Q => ?_) (fun Q => ?_)
            · rcases (fo_sw1003_1007 ((F2 184 (i_add (i_mul 100 (F2 175 9)) l3)))) with z | z | z | z | z
              · have Q := Q.1 z
                refine fo_if fo_ne Q (fun Q => ?_) (fun Q => ?_)
                · obtain ⟨m, hm, hR⟩ := Q
                  exact (ih m hm) _ _ _ _ hR (gxo.wr ho (by simp))
                · obtain ⟨m, hm, hR⟩ := Q
                  exact (ih m hm) _ _ _ _ hR (gxo.wr ho (by simp))
              · have Q := Q.2.1 z
                obtain ⟨m, hm, hR⟩ := Q
                exact (ih m hm) _ _ _ _ hR (gxo.wr ho (by simp))
              · have Q := Q.2.2.1 z
                obtain ⟨m, hm, hR⟩ := Q
                exact (ih m hm) _ _ _ _ hR (gxo.wr ho (by simp))
              · have Q := Q.2.2.2.1 z
                obtain ⟨m, hm, hR⟩ := Q
                exact (ih m hm) _ _ _ _ hR (gxo.wr ho (by simp))
              · have Q := Q.2.2.2.2.1 z
                refine fo_if fo_ne Q (fun Q => ?_) (fun Q => ?_)
                · obtain ⟨m, hm, hR⟩ := Q
                  exact (ih m hm) _ _ _ _ hR (gxo.wr ho (by simp))
                · obtain ⟨m, hm, hR⟩ := Q
                  exact (ih m hm) _ _ _ _ hR (gxo.wr ho (by simp))
            · obtain ⟨m, hm, hR⟩ := Q
              exact (ih m hm) _ _ _ _ hR (gxo.wr ho (by simp))
  have Q := q_M_rankOf_0 h
  refine fo_if fo_ne Q (fun Q => ?_) (fun Q => ?_)
  · obtain ⟨m, hm, hR⟩ := Q
    exact (lp m) _ _ _ _ hR gxo.rf
  · rw [Q.2]; exact gxo.rf
theorem w_M_layRanks {a1 : Nat} {F : fx_F} {v : fx_V} {F' : fx_F} (h : Cl k_M_layRanks [(2, 175), (0, a1)] F v F') : gxo [188, 191, 189] [] F F' := by
  obtain ⟨n, h⟩ := c_M_layRanks h
  have lp : ∀ n : Nat, (∀ (l2 : Nat) (F2 : fx_F), Rn n k_M_layRanks 8 [(2, 175), (3, 0), (0, l2)] [] F2 v F' → gxo [188, 191, 189] [] F F2 → gxo [188, 191, 189] [] F F') := by
    intro n
    induction n using Nat.strongRecOn with
    | ind n ih =>
      refine fun l2 F2 h ho => ?_
      · have Q := q_M_layRanks_8 h
        clear h
        refine fo_if fo_le Q (fun Q => ?_) (fun Q => ?_)
        · rw [Q.2]; exact ho
        · obtain ⟨r1, H1, c1, Q⟩ := Q
          have o1 : gxo [188, 191, 189] [] F H1 := gxo.tr ho (gxo.mono (w_M_rankOf c1) (by intro q hq; simp at hq ⊢; try omega) (by intro q hq; simp at hq ⊢; try omega))
          obtain ⟨m, hm, hR⟩ := Q
          exact (ih m hm) _ _ hR (gxo.wr o1 (by simp))
  have Q := q_M_layRanks_0 h
  obtain ⟨H1, c1, Q⟩ := Q
  have o1 : gxo [188, 191, 189] [] F H1 := gxo.tr gxo.rf (gxo.mono (w_M_layFar c1) (by intro q hq; simp at hq ⊢; try omega) (by intro q hq; simp at hq ⊢; try omega))
  obtain ⟨m, hm, hR⟩ := Q
  exact (lp m) _ _ hR o1
theorem w_M_orientBy {a1 : Nat} {F : fx_F} {v : fx_V} {F' : fx_F} (h : Cl k_M_orientBy [(2, 175), (0, a1)] F v F') : gxo [188, 191, 189, 190] [] F F' := by
  obtain ⟨n, h⟩ := c_M_orientBy h
  have lp : ∀ n : Nat, (∀ (l2 : Nat) (F2 : fx_F), Rn n k_M_orientBy 7 [(2, 175), (3, 0), (0, l2)] [] F2 v F' → gxo [188, 191, 189, 190] [] F F2 → gxo [188, 191, 189, 190] [] F F') := by
    intro n
    induction n using Nat.strongRecOn with
    | ind n ih =>
      refine fun l2 F2 h ho => ?_
      · have Q := q_M_orientBy_7 h
        clear h
        refine fo_if fo_le Q (fun Q => ?_) (fun Q => ?_)
        · rw [Q.2]; exact ho
        · refine fo_if fo_lt Q (fun Q => ?_) (fun Q => ?_)
          · obtain ⟨m, hm, hR⟩ := Q
            exact (ih m hm) _ _ hR (gxo.wr ho (by simp))
          · refine fo_if fo_ne Q (fun Q => ?_) (fun Q => ?_)
            · obtain ⟨m, hm, hR⟩ := Q
              exact (ih m hm) _ _ hR (gxo.wr ho (by simp))
            · refine fo_if fo_le Q (fun Q => ?_) (fun Q => ?_)
              · obtain ⟨m, hm, hR⟩ := Q
                exact (ih m hm) _ _ hR (gxo.wr ho (by simp))
              · obtain ⟨m, hm, hR⟩ := Q
                exact (ih m hm) _ _ hR (gxo.wr ho (by simp))
  have Q := q_M_orientBy_0 h
  obtain ⟨H1, c1, Q⟩ := Q
  have o1 : gxo [188, 191, 189, 190] [] F H1 := gxo.tr gxo.rf (gxo.mono (w_M_layRanks c1) (by intro q hq; simp at hq ⊢; try omega) (by intro q hq; simp at hq ⊢; try omega))
  obtain ⟨m, hm, hR⟩ := Q
  exact (lp m) _ _ hR o1
theorem w_M_startAnew {F : fx_F} {v : fx_V} {F' : fx_F} (h : Cl k_M_startAnew [(2, 175)] F v F') : gxo [176, 188, 191, 189, 190, 206] [57, 56] F F' := by
  obtain ⟨n, h⟩ := c_M_startAnew h
  have lp : ∀ n : Nat, (∀ (l1 : Nat) (F2 : fx_F), Rn n k_M_startAnew 2 [(2, 175), (0, l1)] [] F2 v F' → gxo [176, 188, 191, 189, 190, 206] [57, 56] F F2 → gxo [176, 188, 191, 189, 190, 206] [57, 56] F F') ∧ (∀ (l1 : Nat) (F2 : fx_F), Rn n k_M_startAnew 23 [(2, 175), (0, l1)] [] F2 v F' → gxo [176, 188, 191, 189, 190, 206] [57, 56] F F2 → gxo [176, 188, 191, 189, 190, 206] [57, 56] F F') ∧ (∀ (l1 : Nat) (F2 : fx_F), Rn n k_M_startAnew 75 [(2, 175), (0, l1)] [] F2 v F' → gxo [176, 188, 191, 189, 190, 206] [57, 56] F F2 → gxo [176, 188, 191, 189, 190, 206] [57, 56] F F') ∧ (∀ (l1 : Nat) (F2 : fx_F), Rn n k_M_startAnew 116 [(2, 175), (0, l1)] [] F2 v F' → gxo [176, 188, 191, 189, 190, 206] [57, 56] F F2 → gxo [176, 188, 191, 189, 190, 206] [57, 56] F F') := by
    intro n
    induction n using Nat.strongRecOn with
    | ind n ih =>
      refine ⟨fun l1 F2 h ho => ?_, fun l1 F2 h ho => ?_, fun l1 F2 h ho => ?_, fun l1 F2 h ho => ?_⟩
      · have Q := q_M_startAnew_2 h
        clear h
        refine fo_if fo_le Q (fun Q => ?_) (fun Q => ?_)
        · obtain ⟨m, hm, hR⟩ := Q
          exact (ih m hm).2.1 _ _ hR ho
        · obtain ⟨m, hm, hR⟩ := Q
          exact (ih m hm).1 _ _ hR (gxo.wr ho (by simp))
      · have Q := q_M_startAnew_23 h
        clear h
        refine fo_if fo_le Q (fun Q => ?_) (fun Q => ?_)
        · obtain ⟨H1, c1, Q⟩ := Q
          have o1 : gxo [176, 188, 191, 189, 190, 206] [57, 56] F H1 := gxo.tr (gxo.wr ho (by simp)) (gxo.mono (w_M_orientBy c1) (by intro q hq; simp at hq ⊢; try omega) (by intro q hq; simp at hq ⊢; try omega))
          obtain ⟨m, hm, hR⟩ := Q
          exact (ih m hm).2.2.1 _ _ hR o1
        · obtain ⟨m, hm, hR⟩ := Q
          exact (ih m hm).2.1 _ _ hR (gxo.wr ho (by simp))
      · have Q := q_M_startAnew_75 h
        clear h
        refine fo_if fo_le Q (fun Q => ?_) (fun Q => ?_)
        · obtain ⟨m, hm, hR⟩ := Q
          exact (ih m hm).2.2.2 _ _ hR (gxo.wrf (gxo.wrf ho (by simp)) (by simp))
        · obtain ⟨m, hm, hR⟩ := Q
          exact (ih m hm).2.2.1 _ _ hR (gxo.wr ho (by simp))
      · have Q := q_M_startAnew_116 h
        clear h
        refine fo_if fo_le Q (fun Q => ?_) (fun Q => ?_)
        · rw [Q.2]; exact ho
        · obtain ⟨m, hm, hR⟩ := Q
          exact (ih m hm).2.2.2 _ _ hR (gxo.wr ho (by simp))
  have Q := q_M_startAnew_0 h
  obtain ⟨m, hm, hR⟩ := Q
  exact (lp m).1 _ _ hR gxo.rf
theorem w_T_about {a1 : Nat} {F : fx_F} {v : fx_V} {F' : fx_F} (h : Cl k_T_about [(2, 2), (0, a1)] F v F') : gxo [] [] F F' := by
  obtain ⟨n, h⟩ := c_T_about h
  have Q := q_T_about_0 h
  rcases (fo_sw0_12 (a1)) with z | z | z | z | z | z | z | z | z | z | z | z | z
  · have Q := Q.1 z
    rw [Q.2]; exact gxo.rf
  · have Q := Q.2.1 z
    rw [Q.2]; exact gxo.rf
  · have Q := Q.2.2.1 z
    rw [Q.2]; exact gxo.rf
  · have Q := Q.2.2.2.1 z
    obtain ⟨r1, H1, c1, Q⟩ := Q
    have o1 : gxo [] [] F H1 := gxo.tr gxo.rf (gxo.mono (w_I_bitCount c1) (by intro q hq; simp at hq ⊢; try omega) (by intro q hq; simp at hq ⊢; try omega))
    rw [Q.2]; exact o1
  · have Q := Q.2.2.2.2.1 z
    refine fo_if fo_ne Q (fun Q => ?_) (fun Q => ?_)
    · rw [Q.2]; exact gxo.rf
    · rw [Q.2]; exact gxo.rf
  · have Q := Q.2.2.2.2.2.1 z
    rw [Q.2]; exact gxo.rf
  · have Q := Q.2.2.2.2.2.2.1 z
    obtain ⟨r2, H2, c2, Q⟩ := Q
    have o2 : gxo [] [] F H2 := gxo.tr gxo.rf (gxo.mono (w_St_countPackets c2) (by intro q hq; simp at hq ⊢; try omega) (by intro q hq; simp at hq ⊢; try omega))
    rw [Q.2]; exact o2
  · have Q := Q.2.2.2.2.2.2.2.1 z
    rw [Q.2]; exact gxo.rf
  · have Q := Q.2.2.2.2.2.2.2.2.1 z
    rw [Q.2]; exact gxo.rf
  · have Q := Q.2.2.2.2.2.2.2.2.2.1 z
    rw [Q.2]; exact gxo.rf
  · have Q := Q.2.2.2.2.2.2.2.2.2.2.1 z
    rw [Q.2]; exact gxo.rf
  · have Q := Q.2.2.2.2.2.2.2.2.2.2.2.1 z
    rw [Q.2]; exact gxo.rf
  · have Q := Q.2.2.2.2.2.2.2.2.2.2.2.2.1 z
    rw [Q.2]; exact gxo.rf
theorem w_M_packetsNow {F : fx_F} {v : fx_V} {F' : fx_F} (h : Cl k_M_packetsNow [(2, 175)] F v F') : gxo [] [] F F' := by
  obtain ⟨n, h⟩ := c_M_packetsNow h
  have lp : ∀ n : Nat, (∀ (l1 l2 : Nat) (F2 : fx_F), Rn n k_M_packetsNow 4 [(2, 175), (0, l1), (0, l2)] [] F2 v F' → gxo [] [] F F2 → gxo [] [] F F') := by
    intro n
    induction n using Nat.strongRecOn with
    | ind n ih =>
      refine fun l1 l2 F2 h ho => ?_
      · have Q := q_M_packetsNow_4 h
        clear h
        refine fo_if fo_le Q (fun Q => ?_) (fun Q => ?_)
        · rw [Q.2]; exact ho
        · obtain ⟨m, hm, hR⟩ := Q
          exact (ih m hm) _ _ _ hR ho
  have Q := q_M_packetsNow_0 h
  obtain ⟨m, hm, hR⟩ := Q
  exact (lp m) _ _ _ hR gxo.rf
theorem w_M_standing {F : fx_F} {v : fx_V} {F' : fx_F} (h : Cl k_M_standing [(2, 175)] F v F') : gxo [] [] F F' := by
  obtain ⟨n, h⟩ := c_M_standing h
  have lp : ∀ n : Nat, (∀ (l1 l2 : Nat) (F2 : fx_F), Rn n k_M_standing 4 [(2, 175), (0, l1), (0, l2)] [] F2 v F' → gxo [] [] F F2 → gxo [] [] F F') := by
    intro n
    induction n using Nat.strongRecOn with
    | ind n ih =>
      refine fun l1 l2 F2 h ho => ?_
      · have Q := q_M_standing_4 h
        clear h
        refine fo_if fo_le Q (fun Q => ?_) (fun Q => ?_)
        · rw [Q.2]; exact ho
        · refine fo_if fo_ne Q (fun Q => ?_) (fun Q => ?_)
          · obtain ⟨m, hm, hR⟩ := Q
            exact (ih m hm) _ _ _ hR ho
          · obtain ⟨m, hm, hR⟩ := Q
            exact (ih m hm) _ _ _ hR ho
  have Q := q_M_standing_0 h
  obtain ⟨m, hm, hR⟩ := Q
  exact (lp m) _ _ _ hR gxo.rf
theorem w_M_about {a1 : Nat} {F : fx_F} {v : fx_V} {F' : fx_F} (h : Cl k_M_about [(2, 175), (0, a1)] F v F') : gxo [] [] F F' := by
  obtain ⟨n, h⟩ := c_M_about h
  have Q := q_M_about_0 h
  rcases (fo_sw0_12 (a1)) with z | z | z | z | z | z | z | z | z | z | z | z | z
  · have Q := Q.1 z
    rw [Q.2]; exact gxo.rf
  · have Q := Q.2.1 z
    rw [Q.2]; exact gxo.rf
  · have Q := Q.2.2.1 z
    rw [Q.2]; exact gxo.rf
  · have Q := Q.2.2.2.1 z
    obtain ⟨r1, H1, c1, Q⟩ := Q
    have o1 : gxo [] [] F H1 := gxo.tr gxo.rf (gxo.mono (w_M_standing c1) (by intro q hq; simp at hq ⊢; try omega) (by intro q hq; simp at hq ⊢; try omega))
    rw [Q.2]; exact o1
  · have Q := Q.2.2.2.2.1 z
    refine fo_if fo_ne Q (fun Q => ?_) (fun Q => ?_)
    · rw [Q.2]; exact gxo.rf
    · rw [Q.2]; exact gxo.rf
  · have Q := Q.2.2.2.2.2.1 z
    rw [Q.2]; exact gxo.rf
  · have Q := Q.2.2.2.2.2.2.1 z
    obtain ⟨r2, H2, c2, Q⟩ := Q
    have o2 : gxo [] [] F H2 := gxo.tr gxo.rf (gxo.mono (w_M_packetsNow c2) (by intro q hq; simp at hq ⊢; try omega) (by intro q hq; simp at hq ⊢; try omega))
    rw [Q.2]; exact o2
  · have Q := Q.2.2.2.2.2.2.2.1 z
    rw [Q.2]; exact gxo.rf
  · have Q := Q.2.2.2.2.2.2.2.2.1 z
    rw [Q.2]; exact gxo.rf
  · have Q := Q.2.2.2.2.2.2.2.2.2.1 z
    rw [Q.2]; exact gxo.rf
  · have Q := Q.2.2.2.2.2.2.2.2.2.2.1 z
    rw [Q.2]; exact gxo.rf
  · have Q := Q.2.2.2.2.2.2.2.2.2.2.2.1 z
    rw [Q.2]; exact gxo.rf
  · have Q := Q.2.2.2.2.2.2.2.2.2.2.2.2.1 z
    rw [Q.2]; exact gxo.rf
theorem w_St_begin {p a1 a2 a3 : Nat} {F : fx_F} {v : fx_V} {F' : fx_F} (h : Cl k_St_begin [(2, p), (0, a1), (0, a2), (0, a3)] F v F') : gxo [p, p + 1] [] F F' := by
  obtain ⟨n, h⟩ := c_St_begin h
  have lp : ∀ n : Nat, (∀ (l4 : Nat) (F2 : fx_F), Rn n k_St_begin 23 [(2, p), (3, 0), (3, 0), (3, 0), (0, l4)] [] F2 v F' → gxo [p, p + 1] [] F F2 → gxo [p, p + 1] [] F F') := by
    intro n
    induction n using Nat.strongRecOn with
    | ind n ih =>
      refine fun l4 F2 h ho => ?_
      · have Q := q_St_begin_23 h
        clear h
        refine fo_if fo_le Q (fun Q => ?_) (fun Q => ?_)
        · rw [Q.2]; exact ho
        · obtain ⟨m, hm, hR⟩ := Q
          exact (ih m hm) _ _ hR (gxo.wr ho (by simp))
  have Q := q_St_begin_0 h
  obtain ⟨m, hm, hR⟩ := Q
  exact (lp m) _ _ hR (gxo.wr (gxo.wr (gxo.wr (gxo.wr gxo.rf (by simp)) (by simp)) (by simp)) (by simp))
theorem w_M_takeOver {F : fx_F} {v : fx_V} {F' : fx_F} (h : Cl k_M_takeOver [(2, 175)] F v F') : gxo [176] [] F F' := by
  obtain ⟨n, h⟩ := c_M_takeOver h
  have lp : ∀ n : Nat, (∀ (l1 : Nat) (F2 : fx_F), Rn n k_M_takeOver 2 [(2, 175), (0, l1)] [] F2 v F' → gxo [176] [] F F2 → gxo [176] [] F F') := by
    intro n
    induction n using Nat.strongRecOn with
    | ind n ih =>
      refine fun l1 F2 h ho => ?_
      · have Q := q_M_takeOver_2 h
        clear h
        refine fo_if fo_le Q (fun Q => ?_) (fun Q => ?_)
        · rw [Q.2]; exact ho
        · obtain ⟨m, hm, hR⟩ := Q
          exact (ih m hm) _ _ hR (gxo.wr ho (by simp))
  have Q := q_M_takeOver_0 h
  obtain ⟨m, hm, hR⟩ := Q
  exact (lp m) _ _ hR gxo.rf
theorem w_M_layGoal {a1 : Nat} {F : fx_F} {v : fx_V} {F' : fx_F} (h : Cl k_M_layGoal [(2, 175), (0, a1)] F v F') : gxo [193] [] F F' := by
  obtain ⟨n, h⟩ := c_M_layGoal h
  have lp : ∀ n : Nat, (∀ (l1 l2 : Nat) (F2 : fx_F), Rn n k_M_layGoal 2 [(2, 175), (0, l1), (0, l2), (3, 0), (3, 0), (3, 0)] [] F2 v F' → gxo [193] [] F F2 → gxo [193] [] F F') ∧ (∀ (l1 l2 : Nat) (F2 : fx_F), Rn n k_M_layGoal 62 [(2, 175), (0, l1), (0, l2), (3, 0), (3, 0), (3, 0)] [] F2 v F' → gxo [193] [] F F2 → gxo [193] [] F F') ∧ (∀ (l1 l2 l3 : Nat) (F2 : fx_F), Rn n k_M_layGoal 70 [(2, 175), (0, l1), (0, l2), (0, l3), (3, 0), (3, 0)] [] F2 v F' → gxo [193] [] F F2 → gxo [193] [] F F') ∧ (∀ (l1 l2 l3 l4 : Nat) (F2 : fx_F), Rn n k_M_layGoal 81 [(2, 175), (0, l1), (0, l2), (0, l3), (0, l4), (3, 0)] [] F2 v F' → gxo [193] [] F F2 → gxo [193] [] F F') := by
    intro n
    induction n using Nat.strongRecOn with
    | ind n ih =>
      refine ⟨fun l1 l2 F2 h ho => ?_, fun l1 l2 F2 h ho => ?_, fun l1 l2 l3 F2 h ho => ?_, fun l1 l2 l3 l4 F2 h ho => ?_⟩
      · have Q := q_M_layGoal_2 h
        clear h
        refine fo_if fo_le Q (fun Q => ?_) (fun Q => ?_)
        · obtain ⟨m, hm, hR⟩ := Q
          exact (ih m hm).2.1 _ _ _ hR ho
        · refine fo_if fo_ne Q (fun Q => ?_) (fun Q => ?_)
          · refine fo_if fo_ne Q (fun Q => ?_) (fun Q => ?_)
            · obtain ⟨m, hm, hR⟩ := Q
              exact (ih m hm).1 _ _ _ hR (gxo.wr (gxo.wr ho (by simp)) (by simp))
            · obtain ⟨m, hm, hR⟩ := Q
              exact (ih m hm).1 _ _ _ hR (gxo.wr (gxo.wr ho (by simp)) (by simp))
          · refine fo_if fo_ne Q (fun Q => ?_) (fun Q => ?_)
            · obtain ⟨m, hm, hR⟩ := Q
              exact (ih m hm).1 _ _ _ hR (gxo.wr (gxo.wr ho (by simp)) (by simp))
            · obtain ⟨m, hm, hR⟩ := Q
              exact (ih m hm).1 _ _ _ hR (gxo.wr (gxo.wr ho (by simp)) (by simp))
      · have Q := q_M_layGoal_62 h
        clear h
        refine fo_if fo_eq Q (fun Q => ?_) (fun Q => ?_)
        · rw [Q.2]; exact ho
        · obtain ⟨m, hm, hR⟩ := Q
          exact (ih m hm).2.2.1 _ _ _ _ hR ho
      · have Q := q_M_layGoal_70 h
        clear h
        refine fo_if fo_le Q (fun Q => ?_) (fun Q => ?_)
        · obtain ⟨m, hm, hR⟩ := Q
          exact (ih m hm).2.1 _ _ _ hR ho
        · obtain ⟨m, hm, hR⟩ := Q
          exact (ih m hm).2.2.2 _ _ _ _ _ hR ho
      · have Q := q_M_layGoal_81 h
        clear h
        refine fo_if fo_le Q (fun Q => ?_) (fun Q => ?_)
        · obtain ⟨m, hm, hR⟩ := Q
          exact (ih m hm).2.2.1 _ _ _ _ hR ho
        · refine fo_if fo_ne Q (fun Q => ?_) (fun Q => ?_)
          · obtain ⟨m, hm, hR⟩ := Q
            exact (ih m hm).2.2.2 _ _ _ _ _ hR ho
          · refine fo_if fo_eq Q (fun Q => ?_) (fun Q => ?_)
            · refine fo_if fo_ne Q (fun Q => ?_) (fun Q => ?_)
              · refine fo_if fo_eq Q (fun Q => ?_) (fun Q => ?_)
                · refine fo_if fo_lt Q (fun Q => ?_) (fun Q => ?_)
                  · obtain ⟨m, hm, hR⟩ := Q
                    exact (ih m hm).2.2.2 _ _ _ _ _ hR (gxo.wr ho (by simp))
                  · obtain ⟨m, hm, hR⟩ := Q
                    exact (ih m hm).2.2.2 _ _ _ _ _ hR ho
                · refine fo_if fo_lt Q (fun Q => ?_) (fun Q => ?_)
                  · obtain ⟨m, hm, hR⟩ := Q
                    exact (ih m hm).2.2.2 _ _ _ _ _ hR (gxo.wr ho (by simp))
                  · obtain ⟨m, hm, hR⟩ := Q
                    exact (ih m hm).2.2.2 _ _ _ _ _ hR ho
              · refine fo_if fo_eq Q (fun Q => ?_) (fun Q => ?_)
                · refine fo_if fo_lt Q (fun Q => ?_) (fun Q => ?_)
                  · obtain ⟨m, hm, hR⟩ := Q
                    exact (ih m hm).2.2.2 _ _ _ _ _ hR (gxo.wr ho (by simp))
                  · obtain ⟨m, hm, hR⟩ := Q
                    exact (ih m hm).2.2.2 _ _ _ _ _ hR ho
                · refine fo_if fo_lt Q (fun Q => ?_) (fun Q => ?_)
                  · obtain ⟨m, hm, hR⟩ := Q
                    exact (ih m hm).2.2.2 _ _ _ _ _ hR (gxo.wr ho (by simp))
                  · obtain ⟨m, hm, hR⟩ := Q
                    exact (ih m hm).2.2.2 _ _ _ _ _ hR ho
            · refine fo_if fo_ne Q (fun Q => ?_) (fun Q => ?_)
              · refine fo_if fo_ne Q (fun Q => ?_) (fun Q => ?_)
                · refine fo_if fo_eq Q (fun Q => ?_) (fun Q => ?_)
                  · refine fo_if fo_lt Q (fun Q => ?_) (fun Q => ?_)
                    · obtain ⟨m, hm, hR⟩ := Q
                      exact (ih m hm).2.2.2 _ _ _ _ _ hR (gxo.wr ho (by simp))
                    · obtain ⟨m, hm, hR⟩ := Q
                      exact (ih m hm).2.2.2 _ _ _ _ _ hR ho
                  · refine fo_if fo_lt Q (fun Q => ?_) (fun Q => ?_)
                    · obtain ⟨m, hm, hR⟩ := Q
                      exact (ih m hm).2.2.2 _ _ _ _ _ hR (gxo.wr ho (by simp))
                    · obtain ⟨m, hm, hR⟩ := Q
                      exact (ih m hm).2.2.2 _ _ _ _ _ hR ho
                · refine fo_if fo_eq Q (fun Q => ?_) (fun Q => ?_)
                  · refine fo_if fo_lt Q (fun Q => ?_) (fun Q => ?_)
                    · obtain ⟨m, hm, hR⟩ := Q
                      exact (ih m hm).2.2.2 _ _ _ _ _ hR (gxo.wr ho (by simp))
                    · obtain ⟨m, hm, hR⟩ := Q
                      exact (ih m hm).2.2.2 _ _ _ _ _ hR ho
                  · refine fo_if fo_lt Q (fun Q => ?_) (fun Q => ?_)
                    · obtain ⟨m, hm, hR⟩ := Q
                      exact (ih m hm).2.2.2 _ _ _ _ _ hR (gxo.wr ho (by simp))
                    · obtain ⟨m, hm, hR⟩ := Q
                      exact (ih m hm).2.2.2 _ _ _ _ _ hR ho
              · obtain ⟨m, hm, hR⟩ := Q
                exact (ih m hm).2.2.2 _ _ _ _ _ hR ho
  have Q := q_M_layGoal_0 h
  obtain ⟨m, hm, hR⟩ := Q
  exact (lp m).1 _ _ _ hR gxo.rf
theorem w_M_layGoals {F : fx_F} {v : fx_V} {F' : fx_F} (h : Cl k_M_layGoals [(2, 175)] F v F') : gxo [193] [] F F' := by
  obtain ⟨n, h⟩ := c_M_layGoals h
  have lp : ∀ n : Nat, (∀ (l1 : Nat) (F2 : fx_F), Rn n k_M_layGoals 2 [(2, 175), (0, l1)] [] F2 v F' → gxo [193] [] F F2 → gxo [193] [] F F') := by
    intro n
    induction n using Nat.strongRecOn with
    | ind n ih =>
      refine fun l1 F2 h ho => ?_
      · have Q := q_M_layGoals_2 h
        clear h
        refine fo_if fo_le Q (fun Q => ?_) (fun Q => ?_)
        · rw [Q.2]; exact ho
        · obtain ⟨H1, c1, Q⟩ := Q
          have o1 : gxo [193] [] F H1 := gxo.tr ho (gxo.mono (w_M_layGoal c1) (by intro q hq; simp at hq ⊢; try omega) (by intro q hq; simp at hq ⊢; try omega))
          obtain ⟨m, hm, hR⟩ := Q
          exact (ih m hm) _ _ hR o1
  have Q := q_M_layGoals_0 h
  obtain ⟨m, hm, hR⟩ := Q
  exact (lp m) _ _ hR gxo.rf
theorem w_M_layPairs {F : fx_F} {v : fx_V} {F' : fx_F} (h : Cl k_M_layPairs [(2, 175)] F v F') : gxo [193, 188] [43, 42, 41, 40] F F' := by
  obtain ⟨n, h⟩ := c_M_layPairs h
  have lp : ∀ n : Nat, (∀ (l1 : Nat) (F2 : fx_F), Rn n k_M_layPairs 26 [(2, 175), (0, l1), (3, 0)] [] F2 v F' → gxo [193, 188] [43, 42, 41, 40] F F2 → gxo [193, 188] [43, 42, 41, 40] F F') ∧ (∀ (l1 l2 : Nat) (F2 : fx_F), Rn n k_M_layPairs 42 [(2, 175), (0, l1), (0, l2)] [] F2 v F' → gxo [193, 188] [43, 42, 41, 40] F F2 → gxo [193, 188] [43, 42, 41, 40] F F') := by
    intro n
    induction n using Nat.strongRecOn with
    | ind n ih =>
      refine ⟨fun l1 F2 h ho => ?_, fun l1 l2 F2 h ho => ?_⟩
      · have Q := q_M_layPairs_26 h
        clear h
        refine fo_if fo_le Q (fun Q => ?_) (fun Q => ?_)
        · rw [Q.2]; exact ho
        · obtain ⟨H1, c1, Q⟩ := Q
          have o1 : gxo [193, 188] [43, 42, 41, 40] F H1 := gxo.tr ho (gxo.mono (w_M_layFar c1) (by intro q hq; simp at hq ⊢; try omega) (by intro q hq; simp at hq ⊢; try omega))
          obtain ⟨m, hm, hR⟩ := Q
          exact (ih m hm).2 _ _ _ hR o1
      · have Q := q_M_layPairs_42 h
        clear h
        refine fo_if fo_le Q (fun Q => ?_) (fun Q => ?_)
        · obtain ⟨m, hm, hR⟩ := Q
          exact (ih m hm).1 _ _ hR ho
        · refine fo_if fo_eq Q (fun Q => ?_) (fun Q => ?_)
          · obtain ⟨m, hm, hR⟩ := Q
            exact (ih m hm).2 _ _ _ hR ho
          · refine fo_if fo_le Q (fun Q => ?_) (fun Q => ?_)
            · refine fo_if fo_ne Q (fun Q => ?_) (fun Q => ?_)
              · obtain ⟨m, hm, hR⟩ := Q
                exact (ih m hm).2 _ _ _ hR (gxo.wrf (gxo.wrf ho (by simp)) (by simp))
              · obtain ⟨m, hm, hR⟩ := Q
                exact (ih m hm).2 _ _ _ hR (gxo.wrf (gxo.wrf ho (by simp)) (by simp))
            · obtain ⟨m, hm, hR⟩ := Q
              exact (ih m hm).2 _ _ _ hR (gxo.wrf (gxo.wrf ho (by simp)) (by simp))
  have Q := q_M_layPairs_0 h
  obtain ⟨H1, c1, Q⟩ := Q
  have o1 : gxo [193, 188] [43, 42, 41, 40] F H1 := gxo.tr gxo.rf (gxo.mono (w_M_layGoals c1) (by intro q hq; simp at hq ⊢; try omega) (by intro q hq; simp at hq ⊢; try omega))
  obtain ⟨m, hm, hR⟩ := Q
  exact (lp m).1 _ _ hR (gxo.wrf (gxo.wrf (gxo.wrf (gxo.wrf o1 (by simp)) (by simp)) (by simp)) (by simp))
theorem w_M_isNext {a1 a2 a3 : Nat} {F : fx_F} {v : fx_V} {F' : fx_F} (h : Cl k_M_isNext [(2, 175), (0, a1), (0, a2), (0, a3)] F v F') : gxo [] [] F F' := by
  obtain ⟨n, h⟩ := c_M_isNext h
  have Q := q_M_isNext_0 h
  refine fo_if fo_ne Q (fun Q => ?_) (fun Q => ?_)
  · rw [Q.2]; exact gxo.rf
  · refine fo_if fo_eq Q (fun Q => ?_) (fun Q => ?_)
    · refine fo_if fo_le Q (fun Q => ?_) (fun Q => ?_)
      · rw [Q.2]; exact gxo.rf
      · refine fo_if fo_ne Q (fun Q => ?_) (fun Q => ?_)
        · refine fo_if fo_eq Q (fun Q => ?_) (fun Q => ?_)
          · refine fo_if fo_ne Q (fun Q => ?_) (fun Q => ?_)
            · rw [Q.2]; exact gxo.rf
            · rw [Q.2]; exact gxo.rf
          · refine fo_if fo_ne Q (fun Q => ?_) (fun Q => ?_)
            · rw [Q.2]; exact gxo.rf
            · rw [Q.2]; exact gxo.rf
        · refine fo_if fo_eq Q (fun Q => ?_) (fun Q => ?_)
          · refine fo_if fo_ne Q (fun Q => ?_) (fun Q => ?_)
            · rw [Q.2]; exact gxo.rf
            · rw [Q.2]; exact gxo.rf
          · refine fo_if fo_ne Q (fun Q => ?_) (fun Q => ?_)
            · rw [Q.2]; exact gxo.rf
            · rw [Q.2]; exact gxo.rf
    · refine fo_if fo_ne Q (fun Q => ?_) (fun Q => ?_)
      · refine fo_if fo_le Q (fun Q => ?_) (fun Q => ?_)
        · rw [Q.2]; exact gxo.rf
        · refine fo_if fo_ne Q (fun Q => ?_) (fun Q => ?_)
          · refine fo_if fo_eq Q (fun Q => ?_) (fun Q => ?_)
            · refine fo_if fo_ne Q (fun Q => ?_) (fun Q => ?_)
              · rw [Q.2]; exact gxo.rf
              · rw [Q.2]; exact gxo.rf
            · refine fo_if fo_ne Q (fun Q => ?_) (fun Q => ?_)
              · rw [Q.2]; exact gxo.rf
              · rw [Q.2]; exact gxo.rf
          · refine fo_if fo_eq Q (fun Q => ?_) (fun Q => ?_)
            · refine fo_if fo_ne Q (fun Q => ?_) (fun Q => ?_)
              · rw [Q.2]; exact gxo.rf
              · rw [Q.2]; exact gxo.rf
            · refine fo_if fo_ne Q (fun Q => ?_) (fun Q => ?_)
              · rw [Q.2]; exact gxo.rf
              · rw [Q.2]; exact gxo.rf
      · rw [Q.2]; exact gxo.rf
theorem w_M_leastUsed {a1 a2 a3 : Nat} {F : fx_F} {v : fx_V} {F' : fx_F} (h : Cl k_M_leastUsed [(2, 175), (0, a1), (0, a2), (0, a3)] F v F') : gxo [] [] F F' := by
  obtain ⟨n, h⟩ := c_M_leastUsed h
  have lp : ∀ n : Nat, (∀ (l1 l2 l3 l4 l5 : Nat) (F2 : fx_F), Rn n k_M_leastUsed 6 [(2, 175), (0, l1), (0, l2), (0, l3), (0, l4), (0, l5)] [] F2 v F' → gxo [] [] F F2 → gxo [] [] F F') := by
    intro n
    induction n using Nat.strongRecOn with
    | ind n ih =>
      refine fun l1 l2 l3 l4 l5 F2 h ho => ?_
      · have Q := q_M_leastUsed_6 h
        clear h
        refine fo_if fo_le Q (fun Q => ?_) (fun Q => ?_)
        · rw [Q.2]; exact ho
        · refine fo_if fo_ne Q (fun Q => ?_) (fun Q => ?_)
          · obtain ⟨m, hm, hR⟩ := Q
            exact (ih m hm) _ _ _ _ _ _ hR ho
          · obtain ⟨r1, H1, c1, Q⟩ := Q
            have o1 : gxo [] [] F H1 := gxo.tr ho (gxo.mono (w_M_isNext c1) (by intro q hq; simp at hq ⊢; try omega) (by intro q hq; simp at hq ⊢; try omega))
            refine fo_if fo_ne Q (fun Q => ?_) (fun Q => ?_)
            · refine fo_if fo_lt Q (fun Q => ?_) (fun Q => ?_)
              · obtain ⟨m, hm, hR⟩ := Q
                exact (ih m hm) _ _ _ _ _ _ hR o1
              · refine fo_if fo_le Q (fun Q => ?_) (fun Q => ?_)
                · obtain ⟨m, hm, hR⟩ := Q
                  exact (ih m hm) _ _ _ _ _ _ hR o1
                · obtain ⟨m, hm, hR⟩ := Q
                  exact (ih m hm) _ _ _ _ _ _ hR o1
            · obtain ⟨m, hm, hR⟩ := Q
              exact (ih m hm) _ _ _ _ _ _ hR o1
  have Q := q_M_leastUsed_0 h
  obtain ⟨m, hm, hR⟩ := Q
  exact (lp m) _ _ _ _ _ _ hR gxo.rf
theorem w_M_layTable {F : fx_F} {v : fx_V} {F' : fx_F} (h : Cl k_M_layTable [(2, 175)] F v F') : gxo [193, 197, 196] [] F F' := by
  obtain ⟨n, h⟩ := c_M_layTable h
  have lp : ∀ n : Nat, (∀ (l1 : Nat) (F2 : fx_F), Rn n k_M_layTable 6 [(2, 175), (0, l1), (3, 0), (3, 0), (3, 0)] [] F2 v F' → gxo [193, 197, 196] [] F F2 → gxo [193, 197, 196] [] F F') ∧ (∀ (l1 : Nat) (F2 : fx_F), Rn n k_M_layTable 27 [(2, 175), (0, l1), (3, 0), (3, 0), (3, 0)] [] F2 v F' → gxo [193, 197, 196] [] F F2 → gxo [193, 197, 196] [] F F') ∧ (∀ (l1 l2 : Nat) (F2 : fx_F), Rn n k_M_layTable 37 [(2, 175), (0, l1), (0, l2), (3, 0), (3, 0)] [] F2 v F' → gxo [193, 197, 196] [] F F2 → gxo [193, 197, 196] [] F F') ∧ (∀ (l1 l2 l3 : Nat) (F2 : fx_F), Rn n k_M_layTable 47 [(2, 175), (0, l1), (0, l2), (0, l3), (3, 0)] [] F2 v F' → gxo [193, 197, 196] [] F F2 → gxo [193, 197, 196] [] F F') := by
    intro n
    induction n using Nat.strongRecOn with
    | ind n ih =>
      refine ⟨fun l1 F2 h ho => ?_, fun l1 F2 h ho => ?_, fun l1 l2 F2 h ho => ?_, fun l1 l2 l3 F2 h ho => ?_⟩
      · have Q := q_M_layTable_6 h
        clear h
        refine fo_if fo_le Q (fun Q => ?_) (fun Q => ?_)
        · obtain ⟨m, hm, hR⟩ := Q
          exact (ih m hm).2.1 _ _ hR ho
        · obtain ⟨m, hm, hR⟩ := Q
          exact (ih m hm).1 _ _ hR (gxo.wr ho (by simp))
      · have Q := q_M_layTable_27 h
        clear h
        refine fo_if fo_le Q (fun Q => ?_) (fun Q => ?_)
        · rw [Q.2]; exact ho
        · obtain ⟨m, hm, hR⟩ := Q
          exact (ih m hm).2.2.1 _ _ _ hR ho
      · have Q := q_M_layTable_37 h
        clear h
        refine fo_if fo_le Q (fun Q => ?_) (fun Q => ?_)
        · obtain ⟨m, hm, hR⟩ := Q
          exact (ih m hm).2.1 _ _ hR ho
        · obtain ⟨m, hm, hR⟩ := Q
          exact (ih m hm).2.2.2 _ _ _ _ hR ho
      · have Q := q_M_layTable_47 h
        clear h
        refine fo_if fo_le Q (fun Q => ?_) (fun Q => ?_)
        · obtain ⟨m, hm, hR⟩ := Q
          exact (ih m hm).2.2.1 _ _ _ hR ho
        · refine fo_if fo_ne Q (fun Q => ?_) (fun Q => ?_)
          · obtain ⟨r1, H1, c1, Q⟩ := Q
            have o1 : gxo [193, 197, 196] [] F H1 := gxo.tr ho (gxo.mono (w_M_leastUsed c1) (by intro q hq; simp at hq ⊢; try omega) (by intro q hq; simp at hq ⊢; try omega))
            refine fo_if fo_lt Q (fun Q => ?_) (fun Q => ?_)
            · obtain ⟨m, hm, hR⟩ := Q
              exact (ih m hm).2.2.2 _ _ _ _ hR (gxo.wr o1 (by simp))
            · obtain ⟨m, hm, hR⟩ := Q
              exact (ih m hm).2.2.2 _ _ _ _ hR (gxo.wr (gxo.wr o1 (by simp)) (by simp))
          · refine fo_if fo_lt Q (fun Q => ?_) (fun Q => ?_)
            · obtain ⟨m, hm, hR⟩ := Q
              exact (ih m hm).2.2.2 _ _ _ _ hR (gxo.wr ho (by simp))
            · obtain ⟨m, hm, hR⟩ := Q
              exact (ih m hm).2.2.2 _ _ _ _ hR (gxo.wr (gxo.wr ho (by simp)) (by simp))
  have Q := q_M_layTable_0 h
  obtain ⟨H1, c1, Q⟩ := Q
  have o1 : gxo [193, 197, 196] [] F H1 := gxo.tr gxo.rf (gxo.mono (w_M_layGoals c1) (by intro q hq; simp at hq ⊢; try omega) (by intro q hq; simp at hq ⊢; try omega))
  obtain ⟨m, hm, hR⟩ := Q
  exact (lp m).1 _ _ hR o1
theorem w_M_pathAt {a1 a2 a3 : Nat} {F : fx_F} {v : fx_V} {F' : fx_F} (h : Cl k_M_pathAt [(2, 175), (0, a1), (0, a2), (0, a3)] F v F') : gxo [] [] F F' := by
  obtain ⟨n, h⟩ := c_M_pathAt h
  have lp : ∀ n : Nat, (∀ (l2 l3 l5 l6 l7 : Nat) (F2 : fx_F), Rn n k_M_pathAt 24 [(2, 175), (3, 0), (0, l2), (0, l3), (3, 0), (0, l5), (0, l6), (0, l7)] [] F2 v F' → gxo [] [] F F2 → gxo [] [] F F') := by
    intro n
    induction n using Nat.strongRecOn with
    | ind n ih =>
      refine fun l2 l3 l5 l6 l7 F2 h ho => ?_
      · have Q := q_M_pathAt_24 h
        clear h
        refine fo_if fo_le Q (fun Q => ?_) (fun Q => ?_)
        · rw [Q.2]; exact ho
        · refine fo_if fo_lt Q (fun Q => ?_) (fun Q => ?_)
          · rw [Q.2]; exact ho
          · refine fo_if fo_ne Q (fun Q => ?_) (fun Q => ?_)
            · refine fo_if fo_eq Q (fun Q => ?_) (fun Q => ?_)
              · refine fo_if fo_ne Q (fun Q => ?_) (fun Q => ?_)
                · obtain ⟨m, hm, hR⟩ := Q
                  exact (ih m hm) _ _ _ _ _ _ hR ho
                · obtain ⟨m, hm, hR⟩ := Q
                  exact (ih m hm) _ _ _ _ _ _ hR ho
              · refine fo_if fo_ne Q (fun Q => ?_) (fun Q => ?_)
                · obtain ⟨m, hm, hR⟩ := Q
                  exact (ih m hm) _ _ _ _ _ _ hR ho
                · obtain ⟨m, hm, hR⟩ := Q
                  exact (ih m hm) _ _ _ _ _ _ hR ho
            · refine fo_if fo_eq Q (fun Q => ?_) (fun Q => ?_)
              · refine fo_if fo_ne Q (fun Q => ?_) (fun Q => ?_)
                · obtain ⟨m, hm, hR⟩ := Q
                  exact (ih m hm) _ _ _ _ _ _ hR ho
                · obtain ⟨m, hm, hR⟩ := Q
                  exact (ih m hm) _ _ _ _ _ _ hR ho
              · refine fo_if fo_ne Q (fun Q => ?_) (fun Q => ?_)
                · obtain ⟨m, hm, hR⟩ := Q
                  exact (ih m hm) _ _ _ _ _ _ hR ho
                · obtain ⟨m, hm, hR⟩ := Q
                  exact (ih m hm) _ _ _ _ _ _ hR ho
  have Q := q_M_pathAt_0 h
  obtain ⟨m, hm, hR⟩ := Q
  exact (lp m) _ _ _ _ _ _ hR gxo.rf
theorem w_M_layLoads {F : fx_F} {v : fx_V} {F' : fx_F} (h : Cl k_M_layLoads [(2, 175)] F v F') : gxo [193, 197, 196, 198] [] F F' := by
  obtain ⟨n, h⟩ := c_M_layLoads h
  have lp : ∀ n : Nat, (∀ (l1 : Nat) (F2 : fx_F), Rn n k_M_layLoads 6 [(2, 175), (0, l1), (3, 0), (3, 0)] [] F2 v F' → gxo [193, 197, 196, 198] [] F F2 → gxo [193, 197, 196, 198] [] F F') ∧ (∀ (l1 : Nat) (F2 : fx_F), Rn n k_M_layLoads 27 [(2, 175), (0, l1), (3, 0), (3, 0)] [] F2 v F' → gxo [193, 197, 196, 198] [] F F2 → gxo [193, 197, 196, 198] [] F F') ∧ (∀ (l1 l2 : Nat) (F2 : fx_F), Rn n k_M_layLoads 37 [(2, 175), (0, l1), (0, l2), (3, 0)] [] F2 v F' → gxo [193, 197, 196, 198] [] F F2 → gxo [193, 197, 196, 198] [] F F') ∧ (∀ (l1 l2 l3 : Nat) (F2 : fx_F), Rn n k_M_layLoads 47 [(2, 175), (0, l1), (0, l2), (0, l3)] [] F2 v F' → gxo [193, 197, 196, 198] [] F F2 → gxo [193, 197, 196, 198] [] F F') := by
    intro n
    induction n using Nat.strongRecOn with
    | ind n ih =>
      refine ⟨fun l1 F2 h ho => ?_, fun l1 F2 h ho => ?_, fun l1 l2 F2 h ho => ?_, fun l1 l2 l3 F2 h ho => ?_⟩
      · have Q := q_M_layLoads_6 h
        clear h
        refine fo_if fo_le Q (fun Q => ?_) (fun Q => ?_)
        · obtain ⟨m, hm, hR⟩ := Q
          exact (ih m hm).2.1 _ _ hR ho
        · obtain ⟨m, hm, hR⟩ := Q
          exact (ih m hm).1 _ _ hR (gxo.wr ho (by simp))
      · have Q := q_M_layLoads_27 h
        clear h
        refine fo_if fo_le Q (fun Q => ?_) (fun Q => ?_)
        · rw [Q.2]; exact ho
        · obtain ⟨m, hm, hR⟩ := Q
          exact (ih m hm).2.2.1 _ _ _ hR ho
      · have Q := q_M_layLoads_37 h
        clear h
        refine fo_if fo_le Q (fun Q => ?_) (fun Q => ?_)
        · obtain ⟨m, hm, hR⟩ := Q
          exact (ih m hm).2.1 _ _ hR ho
        · obtain ⟨m, hm, hR⟩ := Q
          exact (ih m hm).2.2.2 _ _ _ _ hR ho
      · have Q := q_M_layLoads_47 h
        clear h
        obtain ⟨r1, H1, c1, Q⟩ := Q
        have o1 : gxo [193, 197, 196, 198] [] F H1 := gxo.tr ho (gxo.mono (w_M_pathAt c1) (by intro q hq; simp at hq ⊢; try omega) (by intro q hq; simp at hq ⊢; try omega))
        refine fo_if fo_lt Q (fun Q => ?_) (fun Q => ?_)
        · obtain ⟨m, hm, hR⟩ := Q
          exact (ih m hm).2.2.1 _ _ _ hR o1
        · obtain ⟨r2, H2, c2, Q⟩ := Q
          have o2 : gxo [193, 197, 196, 198] [] F H2 := gxo.tr o1 (gxo.mono (w_M_pathAt c2) (by intro q hq; simp at hq ⊢; try omega) (by intro q hq; simp at hq ⊢; try omega))
          obtain ⟨m, hm, hR⟩ := Q
          exact (ih m hm).2.2.2 _ _ _ _ hR (gxo.wr o2 (by simp))
  have Q := q_M_layLoads_0 h
  obtain ⟨H1, c1, Q⟩ := Q
  have o1 : gxo [193, 197, 196, 198] [] F H1 := gxo.tr gxo.rf (gxo.mono (w_M_layTable c1) (by intro q hq; simp at hq ⊢; try omega) (by intro q hq; simp at hq ⊢; try omega))
  obtain ⟨m, hm, hR⟩ := Q
  exact (lp m).1 _ _ hR o1
theorem w_M_heaviestNow {F : fx_F} {v : fx_V} {F' : fx_F} (h : Cl k_M_heaviestNow [(2, 175)] F v F') : gxo [] [] F F' := by
  obtain ⟨n, h⟩ := c_M_heaviestNow h
  have lp : ∀ n : Nat, (∀ (l1 l2 : Nat) (F2 : fx_F), Rn n k_M_heaviestNow 4 [(2, 175), (0, l1), (0, l2)] [] F2 v F' → gxo [] [] F F2 → gxo [] [] F F') := by
    intro n
    induction n using Nat.strongRecOn with
    | ind n ih =>
      refine fun l1 l2 F2 h ho => ?_
      · have Q := q_M_heaviestNow_4 h
        clear h
        refine fo_if fo_le Q (fun Q => ?_) (fun Q => ?_)
        · rw [Q.2]; exact ho
        · refine fo_if fo_lt Q (fun Q => ?_) (fun Q => ?_)
          · obtain ⟨m, hm, hR⟩ := Q
            exact (ih m hm) _ _ _ hR ho
          · refine fo_if fo_le Q (fun Q => ?_) (fun Q => ?_)
            · obtain ⟨m, hm, hR⟩ := Q
              exact (ih m hm) _ _ _ hR ho
            · obtain ⟨m, hm, hR⟩ := Q
              exact (ih m hm) _ _ _ hR ho
  have Q := q_M_heaviestNow_0 h
  obtain ⟨m, hm, hR⟩ := Q
  exact (lp m) _ _ _ hR gxo.rf
theorem w_M_flips {F : fx_F} {v : fx_V} {F' : fx_F} (h : Cl k_M_flips [(2, 175)] F v F') : gxo [] [] F F' := by
  obtain ⟨n, h⟩ := c_M_flips h
  have lp : ∀ n : Nat, (∀ (l1 l2 : Nat) (F2 : fx_F), Rn n k_M_flips 4 [(2, 175), (0, l1), (0, l2)] [] F2 v F' → gxo [] [] F F2 → gxo [] [] F F') := by
    intro n
    induction n using Nat.strongRecOn with
    | ind n ih =>
      refine fun l1 l2 F2 h ho => ?_
      · have Q := q_M_flips_4 h
        clear h
        refine fo_if fo_le Q (fun Q => ?_) (fun Q => ?_)
        · rw [Q.2]; exact ho
        · refine fo_if fo_eq Q (fun Q => ?_) (fun Q => ?_)
          · obtain ⟨m, hm, hR⟩ := Q
            exact (ih m hm) _ _ _ hR ho
          · obtain ⟨m, hm, hR⟩ := Q
            exact (ih m hm) _ _ _ hR ho
  have Q := q_M_flips_0 h
  obtain ⟨m, hm, hR⟩ := Q
  exact (lp m) _ _ _ hR gxo.rf
theorem w_M_length {a1 a2 : Nat} {F : fx_F} {v : fx_V} {F' : fx_F} (h : Cl k_M_length [(2, 175), (0, a1), (0, a2)] F v F') : gxo [193] [] F F' := by
  obtain ⟨n, h⟩ := c_M_length h
  have Q := q_M_length_0 h
  refine fo_if fo_lt Q (fun Q => ?_) (fun Q => ?_)
  · rw [Q.2]; exact gxo.rf
  · refine fo_if fo_lt Q (fun Q => ?_) (fun Q => ?_)
    · rw [Q.2]; exact gxo.rf
    · refine fo_if fo_lt Q (fun Q => ?_) (fun Q => ?_)
      · rw [Q.2]; exact gxo.rf
      · refine fo_if fo_lt Q (fun Q => ?_) (fun Q => ?_)
        · rw [Q.2]; exact gxo.rf
        · obtain ⟨H1, c1, Q⟩ := Q
          have o1 : gxo [193] [] F H1 := gxo.tr gxo.rf (gxo.mono (w_M_layGoal c1) (by intro q hq; simp at hq ⊢; try omega) (by intro q hq; simp at hq ⊢; try omega))
          refine fo_if fo_le Q (fun Q => ?_) (fun Q => ?_)
          · rw [Q.2]; exact o1
          · rw [Q.2]; exact o1
theorem w_M_cameBy {a1 : Nat} {F : fx_F} {v : fx_V} {F' : fx_F} (h : Cl k_M_cameBy [(2, 175), (0, a1)] F v F') : gxo [] [] F F' := by
  obtain ⟨n, h⟩ := c_M_cameBy h
  have lp : ∀ n : Nat, (∀ (l1 l2 l3 : Nat) (F2 : fx_F), Rn n k_M_cameBy 4 [(2, 175), (0, l1), (0, l2), (0, l3)] [] F2 v F' → gxo [] [] F F2 → gxo [] [] F F') := by
    intro n
    induction n using Nat.strongRecOn with
    | ind n ih =>
      refine fun l1 l2 l3 F2 h ho => ?_
      · have Q := q_M_cameBy_4 h
        clear h
        refine fo_if fo_le Q (fun Q => ?_) (fun Q => ?_)
        · rw [Q.2]; exact ho
        · refine fo_if fo_ne Q (fun Q => ?_) (fun Q => ?_)
          · obtain ⟨m, hm, hR⟩ := Q
            exact (ih m hm) _ _ _ _ hR ho
          · refine fo_if fo_ne Q (fun Q => ?_) (fun Q => ?_)
            · obtain ⟨m, hm, hR⟩ := Q
              exact (ih m hm) _ _ _ _ hR ho
            · obtain ⟨m, hm, hR⟩ := Q
              exact (ih m hm) _ _ _ _ hR ho
  have Q := q_M_cameBy_0 h
  obtain ⟨m, hm, hR⟩ := Q
  exact (lp m) _ _ _ _ hR gxo.rf
theorem w_M_goPacket {a1 : Nat} {F : fx_F} {v : fx_V} {F' : fx_F} (h : Cl k_M_goPacket [(2, 175), (0, a1)] F v F') : gxo [176] [] F F' := by
  obtain ⟨n, h⟩ := c_M_goPacket h
  have Q := q_M_goPacket_0 h
  refine fo_if fo_ne Q (fun Q => ?_) (fun Q => ?_)
  · refine fo_if fo_ne Q (fun Q => ?_) (fun Q => ?_)
    · refine fo_if fo_lt Q (fun Q => ?_) (fun Q => ?_)
      · refine fo_if fo_lt Q (fun Q => ?_) (fun Q => ?_)
        · rw [Q.2]; exact gxo.rf
        · obtain ⟨r1, H1, c1, Q⟩ := Q
          have o1 : gxo [176] [] F H1 := gxo.tr gxo.rf (gxo.mono (w_M_cameBy c1) (by intro q hq; simp at hq ⊢; try omega) (by intro q hq; simp at hq ⊢; try omega))
          refine fo_if fo_lt Q (fun Q => ?_) (fun Q => ?_)
          · rw [Q.2]; exact (gxo.wr (gxo.wr o1 (by simp)) (by simp))
          · rw [Q.2]; exact o1
      · refine fo_if fo_ne Q (fun Q => ?_) (fun Q => ?_)
        · refine fo_if fo_lt Q (fun Q => ?_) (fun Q => ?_)
          · rw [Q.2]; exact gxo.rf
          · obtain ⟨r2, H2, c2, Q⟩ := Q
            have o2 : gxo [176] [] F H2 := gxo.tr gxo.rf (gxo.mono (w_M_cameBy c2) (by intro q hq; simp at hq ⊢; try omega) (by intro q hq; simp at hq ⊢; try omega))
            refine fo_if fo_lt Q (fun Q => ?_) (fun Q => ?_)
            · rw [Q.2]; exact (gxo.wr (gxo.wr o2 (by simp)) (by simp))
            · rw [Q.2]; exact o2
        · refine fo_if fo_lt Q (fun Q => ?_) (fun Q => ?_)
          · rw [Q.2]; exact gxo.rf
          · obtain ⟨r3, H3, c3, Q⟩ := Q
            have o3 : gxo [176] [] F H3 := gxo.tr gxo.rf (gxo.mono (w_M_cameBy c3) (by intro q hq; simp at hq ⊢; try omega) (by intro q hq; simp at hq ⊢; try omega))
            refine fo_if fo_lt Q (fun Q => ?_) (fun Q => ?_)
            · rw [Q.2]; exact (gxo.wr (gxo.wr o3 (by simp)) (by simp))
            · rw [Q.2]; exact o3
    · refine fo_if fo_lt Q (fun Q => ?_) (fun Q => ?_)
      · rw [Q.2]; exact gxo.rf
      · obtain ⟨r4, H4, c4, Q⟩ := Q
        have o4 : gxo [176] [] F H4 := gxo.tr gxo.rf (gxo.mono (w_M_cameBy c4) (by intro q hq; simp at hq ⊢; try omega) (by intro q hq; simp at hq ⊢; try omega))
        refine fo_if fo_lt Q (fun Q => ?_) (fun Q => ?_)
        · rw [Q.2]; exact (gxo.wr (gxo.wr o4 (by simp)) (by simp))
        · rw [Q.2]; exact o4
  · rw [Q.2]; exact (gxo.wr (gxo.wr gxo.rf (by simp)) (by simp))
theorem w_M_goStep {F : fx_F} {v : fx_V} {F' : fx_F} (h : Cl k_M_goStep [(2, 175)] F v F') : gxo [193, 197, 196, 176] [] F F' := by
  obtain ⟨n, h⟩ := c_M_goStep h
  have lp : ∀ n : Nat, (∀ (l1 l2 : Nat) (F2 : fx_F), Rn n k_M_goStep 19 [(2, 175), (0, l1), (0, l2)] [] F2 v F' → gxo [193, 197, 196, 176] [] F F2 → gxo [193, 197, 196, 176] [] F F') := by
    intro n
    induction n using Nat.strongRecOn with
    | ind n ih =>
      refine fun l1 l2 F2 h ho => ?_
      · have Q := q_M_goStep_19 h
        clear h
        refine fo_if fo_le Q (fun Q => ?_) (fun Q => ?_)
        · rw [Q.2]; exact ho
        · refine fo_if fo_ne Q (fun Q => ?_) (fun Q => ?_)
          · obtain ⟨r1, H1, c1, Q⟩ := Q
            have o1 : gxo [193, 197, 196, 176] [] F H1 := gxo.tr ho (gxo.mono (w_M_goPacket c1) (by intro q hq; simp at hq ⊢; try omega) (by intro q hq; simp at hq ⊢; try omega))
            refine fo_if fo_eq Q (fun Q => ?_) (fun Q => ?_)
            · obtain ⟨m, hm, hR⟩ := Q
              exact (ih m hm) _ _ _ hR (gxo.wr o1 (by simp))
            · obtain ⟨m, hm, hR⟩ := Q
              exact (ih m hm) _ _ _ hR o1
          · obtain ⟨m, hm, hR⟩ := Q
            exact (ih m hm) _ _ _ hR ho
  have Q := q_M_goStep_0 h
  obtain ⟨H1, c1, Q⟩ := Q
  have o1 : gxo [193, 197, 196, 176] [] F H1 := gxo.tr gxo.rf (gxo.mono (w_M_layTable c1) (by intro q hq; simp at hq ⊢; try omega) (by intro q hq; simp at hq ⊢; try omega))
  obtain ⟨m, hm, hR⟩ := Q
  exact (lp m) _ _ _ hR (gxo.wr o1 (by simp))
theorem w_M_goSteps {a1 : Nat} {F : fx_F} {v : fx_V} {F' : fx_F} (h : Cl k_M_goSteps [(2, 175), (0, a1)] F v F') : gxo [193, 197, 196, 176] [] F F' := by
  obtain ⟨n, h⟩ := c_M_goSteps h
  have lp : ∀ n : Nat, (∀ (l1 l2 l3 : Nat) (F2 : fx_F), Rn n k_M_goSteps 4 [(2, 175), (0, l1), (0, l2), (0, l3)] [] F2 v F' → gxo [193, 197, 196, 176] [] F F2 → gxo [193, 197, 196, 176] [] F F') := by
    intro n
    induction n using Nat.strongRecOn with
    | ind n ih =>
      refine fun l1 l2 l3 F2 h ho => ?_
      · have Q := q_M_goSteps_4 h
        clear h
        refine fo_if fo_le Q (fun Q => ?_) (fun Q => ?_)
        · rw [Q.2]; exact ho
        · obtain ⟨r1, H1, c1, Q⟩ := Q
          have o1 : gxo [193, 197, 196, 176] [] F H1 := gxo.tr ho (gxo.mono (w_M_goStep c1) (by intro q hq; simp at hq ⊢; try omega) (by intro q hq; simp at hq ⊢; try omega))
          obtain ⟨m, hm, hR⟩ := Q
          exact (ih m hm) _ _ _ _ hR o1
  have Q := q_M_goSteps_0 h
  obtain ⟨m, hm, hR⟩ := Q
  exact (lp m) _ _ _ _ hR gxo.rf
theorem w_M_freePacket {F : fx_F} {v : fx_V} {F' : fx_F} (h : Cl k_M_freePacket [(2, 175)] F v F') : gxo [] [] F F' := by
  obtain ⟨n, h⟩ := c_M_freePacket h
  have lp : ∀ n : Nat, (∀ (l1 : Nat) (F2 : fx_F), Rn n k_M_freePacket 2 [(2, 175), (0, l1)] [] F2 v F' → gxo [] [] F F2 → gxo [] [] F F') := by
    intro n
    induction n using Nat.strongRecOn with
    | ind n ih =>
      refine fun l1 F2 h ho => ?_
      · have Q := q_M_freePacket_2 h
        clear h
        refine fo_if fo_le Q (fun Q => ?_) (fun Q => ?_)
        · rw [Q.2]; exact ho
        · refine fo_if fo_ne Q (fun Q => ?_) (fun Q => ?_)
          · obtain ⟨m, hm, hR⟩ := Q
            exact (ih m hm) _ _ hR ho
          · rw [Q.2]; exact ho
  have Q := q_M_freePacket_0 h
  obtain ⟨m, hm, hR⟩ := Q
  exact (lp m) _ _ hR gxo.rf
theorem w_M_gameOnce {F : fx_F} {v : fx_V} {F' : fx_F} (h : Cl k_M_gameOnce [(2, 175)] F v F') : gxo [193, 197, 196, 176] [52, 49, 51, 50] F F' := by
  obtain ⟨n, h⟩ := c_M_gameOnce h
  have Q := q_M_gameOnce_0 h
  refine fo_if fo_lt Q (fun Q => ?_) (fun Q => ?_)
  · obtain ⟨r1, H1, c1, Q⟩ := Q
    have o1 : gxo [193, 197, 196, 176] [52, 49, 51, 50] F H1 := gxo.tr (gxo.wrf (gxo.wrf (gxo.wrf gxo.rf (by simp)) (by simp)) (by simp)) (gxo.mono (w_M_packetsNow c1) (by intro q hq; simp at hq ⊢; try omega) (by intro q hq; simp at hq ⊢; try omega))
    obtain ⟨r2, H2, c2, Q⟩ := Q
    have o2 : gxo [193, 197, 196, 176] [52, 49, 51, 50] F H2 := gxo.tr o1 (gxo.mono (w_M_goStep c2) (by intro q hq; simp at hq ⊢; try omega) (by intro q hq; simp at hq ⊢; try omega))
    rw [Q.2]; exact (gxo.wrf (gxo.wrf o2 (by simp)) (by simp))
  · refine fo_if fo_lt Q (fun Q => ?_) (fun Q => ?_)
    · obtain ⟨r3, H3, c3, Q⟩ := Q
      have o3 : gxo [193, 197, 196, 176] [52, 49, 51, 50] F H3 := gxo.tr (gxo.wrf (gxo.wrf (gxo.wrf gxo.rf (by simp)) (by simp)) (by simp)) (gxo.mono (w_M_packetsNow c3) (by intro q hq; simp at hq ⊢; try omega) (by intro q hq; simp at hq ⊢; try omega))
      obtain ⟨r4, H4, c4, Q⟩ := Q
      have o4 : gxo [193, 197, 196, 176] [52, 49, 51, 50] F H4 := gxo.tr o3 (gxo.mono (w_M_goStep c4) (by intro q hq; simp at hq ⊢; try omega) (by intro q hq; simp at hq ⊢; try omega))
      rw [Q.2]; exact (gxo.wrf (gxo.wrf o4 (by simp)) (by simp))
    · refine fo_if fo_lt Q (fun Q => ?_) (fun Q => ?_)
      · obtain ⟨r5, H5, c5, Q⟩ := Q
        have o5 : gxo [193, 197, 196, 176] [52, 49, 51, 50] F H5 := gxo.tr (gxo.wrf (gxo.wrf (gxo.wrf gxo.rf (by simp)) (by simp)) (by simp)) (gxo.mono (w_M_packetsNow c5) (by intro q hq; simp at hq ⊢; try omega) (by intro q hq; simp at hq ⊢; try omega))
        obtain ⟨r6, H6, c6, Q⟩ := Q
        have o6 : gxo [193, 197, 196, 176] [52, 49, 51, 50] F H6 := gxo.tr o5 (gxo.mono (w_M_goStep c6) (by intro q hq; simp at hq ⊢; try omega) (by intro q hq; simp at hq ⊢; try omega))
        rw [Q.2]; exact (gxo.wrf (gxo.wrf o6 (by simp)) (by simp))
      · refine fo_if fo_lt Q (fun Q => ?_) (fun Q => ?_)
        · obtain ⟨r7, H7, c7, Q⟩ := Q
          have o7 : gxo [193, 197, 196, 176] [52, 49, 51, 50] F H7 := gxo.tr (gxo.wrf (gxo.wrf (gxo.wrf gxo.rf (by simp)) (by simp)) (by simp)) (gxo.mono (w_M_packetsNow c7) (by intro q hq; simp at hq ⊢; try omega) (by intro q hq; simp at hq ⊢; try omega))
          obtain ⟨r8, H8, c8, Q⟩ := Q
          have o8 : gxo [193, 197, 196, 176] [52, 49, 51, 50] F H8 := gxo.tr o7 (gxo.mono (w_M_goStep c8) (by intro q hq; simp at hq ⊢; try omega) (by intro q hq; simp at hq ⊢; try omega))
          rw [Q.2]; exact (gxo.wrf (gxo.wrf o8 (by simp)) (by simp))
        · refine fo_if fo_eq Q (fun Q => ?_) (fun Q => ?_)
          · obtain ⟨r9, H9, c9, Q⟩ := Q
            have o9 : gxo [193, 197, 196, 176] [52, 49, 51, 50] F H9 := gxo.tr (gxo.wrf (gxo.wrf (gxo.wrf gxo.rf (by simp)) (by simp)) (by simp)) (gxo.mono (w_M_packetsNow c9) (by intro q hq; simp at hq ⊢; try omega) (by intro q hq; simp at hq ⊢; try omega))
            obtain ⟨r10, H10, c10, Q⟩ := Q
            have o10 : gxo [193, 197, 196, 176] [52, 49, 51, 50] F H10 := gxo.tr o9 (gxo.mono (w_M_goStep c10) (by intro q hq; simp at hq ⊢; try omega) (by intro q hq; simp at hq ⊢; try omega))
            rw [Q.2]; exact (gxo.wrf (gxo.wrf o10 (by simp)) (by simp))
          · obtain ⟨r11, H11, c11, Q⟩ := Q
            have o11 : gxo [193, 197, 196, 176] [52, 49, 51, 50] F H11 := gxo.tr (gxo.wrf (gxo.wrf gxo.rf (by simp)) (by simp)) (gxo.mono (w_M_freePacket c11) (by intro q hq; simp at hq ⊢; try omega) (by intro q hq; simp at hq ⊢; try omega))
            refine fo_if fo_lt Q (fun Q => ?_) (fun Q => ?_)
            · obtain ⟨r12, H12, c12, Q⟩ := Q
              have o12 : gxo [193, 197, 196, 176] [52, 49, 51, 50] F H12 := gxo.tr (gxo.wrf o11 (by simp)) (gxo.mono (w_M_packetsNow c12) (by intro q hq; simp at hq ⊢; try omega) (by intro q hq; simp at hq ⊢; try omega))
              obtain ⟨r13, H13, c13, Q⟩ := Q
              have o13 : gxo [193, 197, 196, 176] [52, 49, 51, 50] F H13 := gxo.tr o12 (gxo.mono (w_M_goStep c13) (by intro q hq; simp at hq ⊢; try omega) (by intro q hq; simp at hq ⊢; try omega))
              rw [Q.2]; exact (gxo.wrf (gxo.wrf o13 (by simp)) (by simp))
            · obtain ⟨r14, H14, c14, Q⟩ := Q
              have o14 : gxo [193, 197, 196, 176] [52, 49, 51, 50] F H14 := gxo.tr o11 (gxo.mono (w_M_freePacket c14) (by intro q hq; simp at hq ⊢; try omega) (by intro q hq; simp at hq ⊢; try omega))
              refine fo_if fo_lt Q (fun Q => ?_) (fun Q => ?_)
              · obtain ⟨r15, H15, c15, Q⟩ := Q
                have o15 : gxo [193, 197, 196, 176] [52, 49, 51, 50] F H15 := gxo.tr (gxo.wrf (gxo.wr (gxo.wr (gxo.wr (gxo.wr (gxo.wr o14 (by simp)) (by simp)) (by simp)) (by simp)) (by simp)) (by simp)) (gxo.mono (w_M_packetsNow c15) (by intro q hq; simp at hq ⊢; try omega) (by intro q hq; simp at hq ⊢; try omega))
                obtain ⟨r16, H16, c16, Q⟩ := Q
                have o16 : gxo [193, 197, 196, 176] [52, 49, 51, 50] F H16 := gxo.tr o15 (gxo.mono (w_M_goStep c16) (by intro q hq; simp at hq ⊢; try omega) (by intro q hq; simp at hq ⊢; try omega))
                rw [Q.2]; exact (gxo.wrf (gxo.wrf o16 (by simp)) (by simp))
              · obtain ⟨r17, H17, c17, Q⟩ := Q
                have o17 : gxo [193, 197, 196, 176] [52, 49, 51, 50] F H17 := gxo.tr (gxo.wrf (gxo.wr (gxo.wr (gxo.wr (gxo.wr (gxo.wr o14 (by simp)) (by simp)) (by simp)) (by simp)) (by simp)) (by simp)) (gxo.mono (w_M_packetsNow c17) (by intro q hq; simp at hq ⊢; try omega) (by intro q hq; simp at hq ⊢; try omega))
                obtain ⟨r18, H18, c18, Q⟩ := Q
                have o18 : gxo [193, 197, 196, 176] [52, 49, 51, 50] F H18 := gxo.tr o17 (gxo.mono (w_M_goStep c18) (by intro q hq; simp at hq ⊢; try omega) (by intro q hq; simp at hq ⊢; try omega))
                rw [Q.2]; exact (gxo.wrf (gxo.wrf o18 (by simp)) (by simp))
theorem w_M_layOnward {a1 : Nat} {F : fx_F} {v : fx_V} {F' : fx_F} (h : Cl k_M_layOnward [(2, 175), (0, a1)] F v F') : gxo [193, 194] [] F F' := by
  obtain ⟨n, h⟩ := c_M_layOnward h
  have lp : ∀ n : Nat, (∀ (l1 l2 : Nat) (F2 : fx_F), Rn n k_M_layOnward 7 [(2, 175), (0, l1), (0, l2), (3, 0), (3, 0)] [] F2 v F' → gxo [193, 194] [] F F2 → gxo [193, 194] [] F F') ∧ (∀ (l1 l2 : Nat) (F2 : fx_F), Rn n k_M_layOnward 39 [(2, 175), (0, l1), (0, l2), (3, 0), (3, 0)] [] F2 v F' → gxo [193, 194] [] F F2 → gxo [193, 194] [] F F') ∧ (∀ (l1 l2 l3 : Nat) (F2 : fx_F), Rn n k_M_layOnward 47 [(2, 175), (0, l1), (0, l2), (0, l3), (3, 0)] [] F2 v F' → gxo [193, 194] [] F F2 → gxo [193, 194] [] F F') ∧ (∀ (l1 l2 l3 l4 : Nat) (F2 : fx_F), Rn n k_M_layOnward 58 [(2, 175), (0, l1), (0, l2), (0, l3), (0, l4)] [] F2 v F' → gxo [193, 194] [] F F2 → gxo [193, 194] [] F F') := by
    intro n
    induction n using Nat.strongRecOn with
    | ind n ih =>
      refine ⟨fun l1 l2 F2 h ho => ?_, fun l1 l2 F2 h ho => ?_, fun l1 l2 l3 F2 h ho => ?_, fun l1 l2 l3 l4 F2 h ho => ?_⟩
      · have Q := q_M_layOnward_7 h
        clear h
        refine fo_if fo_le Q (fun Q => ?_) (fun Q => ?_)
        · obtain ⟨m, hm, hR⟩ := Q
          exact (ih m hm).2.1 _ _ _ hR ho
        · refine fo_if fo_ne Q (fun Q => ?_) (fun Q => ?_)
          · obtain ⟨m, hm, hR⟩ := Q
            exact (ih m hm).1 _ _ _ hR (gxo.wr ho (by simp))
          · obtain ⟨m, hm, hR⟩ := Q
            exact (ih m hm).1 _ _ _ hR (gxo.wr ho (by simp))
      · have Q := q_M_layOnward_39 h
        clear h
        refine fo_if fo_lt Q (fun Q => ?_) (fun Q => ?_)
        · rw [Q.2]; exact ho
        · obtain ⟨m, hm, hR⟩ := Q
          exact (ih m hm).2.2.1 _ _ _ _ hR ho
      · have Q := q_M_layOnward_47 h
        clear h
        refine fo_if fo_le Q (fun Q => ?_) (fun Q => ?_)
        · obtain ⟨m, hm, hR⟩ := Q
          exact (ih m hm).2.1 _ _ _ hR ho
        · obtain ⟨m, hm, hR⟩ := Q
          exact (ih m hm).2.2.2 _ _ _ _ _ hR ho
      · have Q := q_M_layOnward_58 h
        clear h
        refine fo_if fo_le Q (fun Q => ?_) (fun Q => ?_)
        · obtain ⟨m, hm, hR⟩ := Q
          exact (ih m hm).2.2.1 _ _ _ _ hR ho
        · refine fo_if fo_ne Q (fun Q => ?_) (fun Q => ?_)
          · obtain ⟨m, hm, hR⟩ := Q
            exact (ih m hm).2.2.2 _ _ _ _ _ hR ho
          · obtain ⟨r1, H1, c1, Q⟩ := Q
            have o1 : gxo [193, 194] [] F H1 := gxo.tr ho (gxo.mono (w_M_isNext c1) (by intro q hq; simp at hq ⊢; try omega) (by intro q hq; simp at hq ⊢; try omega))
            refine fo_if fo_ne Q (fun Q => ?_) (fun Q => ?_)
            · refine fo_if fo_ne Q (fun Q => ?_) (fun Q => ?_)
              · refine fo_if fo_eq Q (fun Q => ?_) (fun Q => ?_)
                · obtain ⟨m, hm, hR⟩ := Q
                  exact (ih m hm).2.2.2 _ _ _ _ _ hR (gxo.wr o1 (by simp))
                · obtain ⟨m, hm, hR⟩ := Q
                  exact (ih m hm).2.2.2 _ _ _ _ _ hR (gxo.wr o1 (by simp))
              · refine fo_if fo_eq Q (fun Q => ?_) (fun Q => ?_)
                · obtain ⟨m, hm, hR⟩ := Q
                  exact (ih m hm).2.2.2 _ _ _ _ _ hR (gxo.wr o1 (by simp))
                · obtain ⟨m, hm, hR⟩ := Q
                  exact (ih m hm).2.2.2 _ _ _ _ _ hR (gxo.wr o1 (by simp))
            · obtain ⟨m, hm, hR⟩ := Q
              exact (ih m hm).2.2.2 _ _ _ _ _ hR o1
  have Q := q_M_layOnward_0 h
  obtain ⟨H1, c1, Q⟩ := Q
  have o1 : gxo [193, 194] [] F H1 := gxo.tr gxo.rf (gxo.mono (w_M_layGoal c1) (by intro q hq; simp at hq ⊢; try omega) (by intro q hq; simp at hq ⊢; try omega))
  obtain ⟨m, hm, hR⟩ := Q
  exact (lp m).1 _ _ _ hR o1
theorem w_M_layCome {a1 a2 : Nat} {F : fx_F} {v : fx_V} {F' : fx_F} (h : Cl k_M_layCome [(2, 175), (0, a1), (0, a2)] F v F') : gxo [195] [] F F' := by
  obtain ⟨n, h⟩ := c_M_layCome h
  have lp : ∀ n : Nat, (∀ (l1 l2 l3 : Nat) (F2 : fx_F), Rn n k_M_layCome 2 [(2, 175), (0, l1), (0, l2), (0, l3), (3, 0), (3, 0)] [] F2 v F' → gxo [195] [] F F2 → gxo [195] [] F F') ∧ (∀ (l2 l3 : Nat) (F2 : fx_F), Rn n k_M_layCome 39 [(2, 175), (3, 0), (0, l2), (0, l3), (3, 0), (3, 0)] [] F2 v F' → gxo [195] [] F F2 → gxo [195] [] F F') ∧ (∀ (l2 l3 l4 : Nat) (F2 : fx_F), Rn n k_M_layCome 46 [(2, 175), (3, 0), (0, l2), (0, l3), (0, l4), (3, 0)] [] F2 v F' → gxo [195] [] F F2 → gxo [195] [] F F') ∧ (∀ (l2 l3 l4 l5 : Nat) (F2 : fx_F), Rn n k_M_layCome 58 [(2, 175), (3, 0), (0, l2), (0, l3), (0, l4), (0, l5)] [] F2 v F' → gxo [195] [] F F2 → gxo [195] [] F F') := by
    intro n
    induction n using Nat.strongRecOn with
    | ind n ih =>
      refine ⟨fun l1 l2 l3 F2 h ho => ?_, fun l2 l3 F2 h ho => ?_, fun l2 l3 l4 F2 h ho => ?_, fun l2 l3 l4 l5 F2 h ho => ?_⟩
      · have Q := q_M_layCome_2 h
        clear h
        refine fo_if fo_le Q (fun Q => ?_) (fun Q => ?_)
        · obtain ⟨m, hm, hR⟩ := Q
          exact (ih m hm).2.1 _ _ _ hR ho
        · refine fo_if fo_ne Q (fun Q => ?_) (fun Q => ?_)
          · obtain ⟨m, hm, hR⟩ := Q
            exact (ih m hm).1 _ _ _ _ hR (gxo.wr ho (by simp))
          · obtain ⟨m, hm, hR⟩ := Q
            exact (ih m hm).1 _ _ _ _ hR (gxo.wr ho (by simp))
      · have Q := q_M_layCome_39 h
        clear h
        refine fo_if fo_le Q (fun Q => ?_) (fun Q => ?_)
        · rw [Q.2]; exact ho
        · obtain ⟨m, hm, hR⟩ := Q
          exact (ih m hm).2.2.1 _ _ _ _ hR ho
      · have Q := q_M_layCome_46 h
        clear h
        refine fo_if fo_le Q (fun Q => ?_) (fun Q => ?_)
        · obtain ⟨m, hm, hR⟩ := Q
          exact (ih m hm).2.1 _ _ _ hR ho
        · obtain ⟨m, hm, hR⟩ := Q
          exact (ih m hm).2.2.2 _ _ _ _ _ hR ho
      · have Q := q_M_layCome_58 h
        clear h
        refine fo_if fo_le Q (fun Q => ?_) (fun Q => ?_)
        · obtain ⟨m, hm, hR⟩ := Q
          exact (ih m hm).2.2.1 _ _ _ _ hR ho
        · refine fo_if fo_ne Q (fun Q => ?_) (fun Q => ?_)
          · obtain ⟨m, hm, hR⟩ := Q
            exact (ih m hm).2.2.2 _ _ _ _ _ hR ho
          · obtain ⟨r1, H1, c1, Q⟩ := Q
            have o1 : gxo [195] [] F H1 := gxo.tr ho (gxo.mono (w_M_isNext c1) (by intro q hq; simp at hq ⊢; try omega) (by intro q hq; simp at hq ⊢; try omega))
            refine fo_if fo_ne Q (fun Q => ?_) (fun Q => ?_)
            · refine fo_if fo_ne Q (fun Q => ?_) (fun Q => ?_)
              · refine fo_if fo_eq Q (fun Q => ?_) (fun Q => ?_)
                · obtain ⟨m, hm, hR⟩ := Q
                  exact (ih m hm).2.2.2 _ _ _ _ _ hR (gxo.wr o1 (by simp))
                · obtain ⟨m, hm, hR⟩ := Q
                  exact (ih m hm).2.2.2 _ _ _ _ _ hR (gxo.wr o1 (by simp))
              · refine fo_if fo_eq Q (fun Q => ?_) (fun Q => ?_)
                · obtain ⟨m, hm, hR⟩ := Q
                  exact (ih m hm).2.2.2 _ _ _ _ _ hR (gxo.wr o1 (by simp))
                · obtain ⟨m, hm, hR⟩ := Q
                  exact (ih m hm).2.2.2 _ _ _ _ _ hR (gxo.wr o1 (by simp))
            · obtain ⟨m, hm, hR⟩ := Q
              exact (ih m hm).2.2.2 _ _ _ _ _ hR o1
  have Q := q_M_layCome_0 h
  obtain ⟨m, hm, hR⟩ := Q
  exact (lp m).1 _ _ _ _ hR gxo.rf
theorem w_M_oneMore {a1 a2 : Nat} {F : fx_F} {v : fx_V} {F' : fx_F} (h : Cl k_M_oneMore [(2, 175), (0, a1), (0, a2)] F v F') : gxo [201, 200] [] F F' := by
  obtain ⟨n, h⟩ := c_M_oneMore h
  have lp : ∀ n : Nat, (∀ (l1 l2 l3 : Nat) (F2 : fx_F), Rn n k_M_oneMore 2 [(2, 175), (0, l1), (0, l2), (0, l3), (3, 0), (3, 0)] [] F2 v F' → gxo [201, 200] [] F F2 → gxo [201, 200] [] F F') ∧ (∀ (l1 l2 l3 : Nat) (F2 : fx_F), Rn n k_M_oneMore 33 [(2, 175), (0, l1), (0, l2), (0, l3), (3, 0), (3, 0)] [] F2 v F' → gxo [201, 200] [] F F2 → gxo [201, 200] [] F F') ∧ (∀ (l1 l2 l3 l4 : Nat) (F2 : fx_F), Rn n k_M_oneMore 51 [(2, 175), (0, l1), (0, l2), (0, l3), (0, l4), (3, 0)] [] F2 v F' → gxo [201, 200] [] F F2 → gxo [201, 200] [] F F') ∧ (∀ (l1 l4 : Nat) (F2 : fx_F), Rn n k_M_oneMore 158 [(2, 175), (0, l1), (3, 0), (3, 0), (0, l4), (3, 0)] [] F2 v F' → gxo [201, 200] [] F F2 → gxo [201, 200] [] F F') := by
    intro n
    induction n using Nat.strongRecOn with
    | ind n ih =>
      refine ⟨fun l1 l2 l3 F2 h ho => ?_, fun l1 l2 l3 F2 h ho => ?_, fun l1 l2 l3 l4 F2 h ho => ?_, fun l1 l4 F2 h ho => ?_⟩
      · have Q := q_M_oneMore_2 h
        clear h
        refine fo_if fo_le Q (fun Q => ?_) (fun Q => ?_)
        · obtain ⟨m, hm, hR⟩ := Q
          exact (ih m hm).2.1 _ _ _ _ hR ho
        · refine fo_if fo_ne Q (fun Q => ?_) (fun Q => ?_)
          · obtain ⟨m, hm, hR⟩ := Q
            exact (ih m hm).1 _ _ _ _ hR (gxo.wr ho (by simp))
          · obtain ⟨m, hm, hR⟩ := Q
            exact (ih m hm).1 _ _ _ _ hR (gxo.wr ho (by simp))
      · have Q := q_M_oneMore_33 h
        clear h
        refine fo_if fo_eq Q (fun Q => ?_) (fun Q => ?_)
        · refine fo_if fo_le Q (fun Q => ?_) (fun Q => ?_)
          · obtain ⟨m, hm, hR⟩ := Q
            exact (ih m hm).2.2.2 _ _ _ hR ho
          · rw [Q.2]; exact ho
        · refine fo_if fo_le Q (fun Q => ?_) (fun Q => ?_)
          · refine fo_if fo_le Q (fun Q => ?_) (fun Q => ?_)
            · obtain ⟨m, hm, hR⟩ := Q
              exact (ih m hm).2.2.2 _ _ _ hR ho
            · rw [Q.2]; exact ho
          · obtain ⟨m, hm, hR⟩ := Q
            exact (ih m hm).2.2.1 _ _ _ _ _ hR ho
      · have Q := q_M_oneMore_51 h
        clear h
        refine fo_if fo_le Q (fun Q => ?_) (fun Q => ?_)
        · obtain ⟨m, hm, hR⟩ := Q
          exact (ih m hm).2.1 _ _ _ _ hR ho
        · refine fo_if fo_ne Q (fun Q => ?_) (fun Q => ?_)
          · obtain ⟨m, hm, hR⟩ := Q
            exact (ih m hm).2.2.1 _ _ _ _ _ hR ho
          · refine fo_if fo_lt Q (fun Q => ?_) (fun Q => ?_)
            · obtain ⟨m, hm, hR⟩ := Q
              exact (ih m hm).2.2.1 _ _ _ _ _ hR ho
            · refine fo_if fo_le Q (fun Q => ?_) (fun Q => ?_)
              · obtain ⟨m, hm, hR⟩ := Q
                exact (ih m hm).2.2.1 _ _ _ _ _ hR ho
              · refine fo_if fo_ne Q (fun Q => ?_) (fun Q => ?_)
                · obtain ⟨m, hm, hR⟩ := Q
                  exact (ih m hm).2.2.1 _ _ _ _ _ hR (gxo.wr ho (by simp))
                · obtain ⟨m, hm, hR⟩ := Q
                  exact (ih m hm).2.2.1 _ _ _ _ _ hR ho
      · have Q := q_M_oneMore_158 h
        clear h
        refine fo_if fo_eq Q (fun Q => ?_) (fun Q => ?_)
        · rw [Q.2]; exact ho
        · refine fo_if fo_ne Q (fun Q => ?_) (fun Q => ?_)
          · obtain ⟨m, hm, hR⟩ := Q
            exact (ih m hm).2.2.2 _ _ _ hR (gxo.wr ho (by simp))
          · obtain ⟨m, hm, hR⟩ := Q
            exact (ih m hm).2.2.2 _ _ _ hR (gxo.wr ho (by simp))
  have Q := q_M_oneMore_0 h
  obtain ⟨m, hm, hR⟩ := Q
  exact (lp m).1 _ _ _ _ hR gxo.rf
theorem w_M_plainPairs {a1 : Nat} {F : fx_F} {v : fx_V} {F' : fx_F} (h : Cl k_M_plainPairs [(2, 175), (0, a1)] F v F') : gxo [188] [] F F' := by
  obtain ⟨n, h⟩ := c_M_plainPairs h
  have lp : ∀ n : Nat, (∀ (l1 l2 l3 : Nat) (F2 : fx_F), Rn n k_M_plainPairs 4 [(2, 175), (0, l1), (0, l2), (0, l3), (3, 0)] [] F2 v F' → gxo [188] [] F F2 → gxo [188] [] F F') ∧ (∀ (l1 l2 l3 l4 : Nat) (F2 : fx_F), Rn n k_M_plainPairs 29 [(2, 175), (0, l1), (0, l2), (0, l3), (0, l4)] [] F2 v F' → gxo [188] [] F F2 → gxo [188] [] F F') := by
    intro n
    induction n using Nat.strongRecOn with
    | ind n ih =>
      refine ⟨fun l1 l2 l3 F2 h ho => ?_, fun l1 l2 l3 l4 F2 h ho => ?_⟩
      · have Q := q_M_plainPairs_4 h
        clear h
        refine fo_if fo_le Q (fun Q => ?_) (fun Q => ?_)
        · rw [Q.2]; exact ho
        · refine fo_if fo_ne Q (fun Q => ?_) (fun Q => ?_)
          · obtain ⟨H1, c1, Q⟩ := Q
            have o1 : gxo [188] [] F H1 := gxo.tr ho (gxo.mono (w_M_layFar c1) (by intro q hq; simp at hq ⊢; try omega) (by intro q hq; simp at hq ⊢; try omega))
            obtain ⟨m, hm, hR⟩ := Q
            exact (ih m hm).2 _ _ _ _ _ hR o1
          · obtain ⟨m, hm, hR⟩ := Q
            exact (ih m hm).1 _ _ _ _ hR ho
      · have Q := q_M_plainPairs_29 h
        clear h
        refine fo_if fo_le Q (fun Q => ?_) (fun Q => ?_)
        · obtain ⟨m, hm, hR⟩ := Q
          exact (ih m hm).1 _ _ _ _ hR ho
        · refine fo_if fo_eq Q (fun Q => ?_) (fun Q => ?_)
          · obtain ⟨m, hm, hR⟩ := Q
            exact (ih m hm).2 _ _ _ _ _ hR ho
          · refine fo_if fo_eq Q (fun Q => ?_) (fun Q => ?_)
            · obtain ⟨m, hm, hR⟩ := Q
              exact (ih m hm).2 _ _ _ _ _ hR ho
            · refine fo_if fo_le Q (fun Q => ?_) (fun Q => ?_)
              · obtain ⟨m, hm, hR⟩ := Q
                exact (ih m hm).2 _ _ _ _ _ hR ho
              · obtain ⟨m, hm, hR⟩ := Q
                exact (ih m hm).2 _ _ _ _ _ hR ho
  have Q := q_M_plainPairs_0 h
  obtain ⟨m, hm, hR⟩ := Q
  exact (lp m).1 _ _ _ _ hR gxo.rf
theorem w_M_pairsOf {a1 : Nat} {F : fx_F} {v : fx_V} {F' : fx_F} (h : Cl k_M_pairsOf [(2, 175), (0, a1)] F v F') : gxo [188] [] F F' := by
  obtain ⟨n, h⟩ := c_M_pairsOf h
  have lp : ∀ n : Nat, (∀ (l1 l2 l3 : Nat) (F2 : fx_F), Rn n k_M_pairsOf 10 [(2, 175), (0, l1), (0, l2), (0, l3)] [] F2 v F' → gxo [188] [] F F2 → gxo [188] [] F F') := by
    intro n
    induction n using Nat.strongRecOn with
    | ind n ih =>
      refine fun l1 l2 l3 F2 h ho => ?_
      · have Q := q_M_pairsOf_10 h
        clear h
        refine fo_if fo_le Q (fun Q => ?_) (fun Q => ?_)
        · rw [Q.2]; exact ho
        · refine fo_if fo_eq Q (fun Q => ?_) (fun Q => ?_)
          · obtain ⟨m, hm, hR⟩ := Q
            exact (ih m hm) _ _ _ _ hR ho
          · refine fo_if fo_le Q (fun Q => ?_) (fun Q => ?_)
            · obtain ⟨m, hm, hR⟩ := Q
              exact (ih m hm) _ _ _ _ hR ho
            · obtain ⟨m, hm, hR⟩ := Q
              exact (ih m hm) _ _ _ _ hR ho
  have Q := q_M_pairsOf_0 h
  obtain ⟨H1, c1, Q⟩ := Q
  have o1 : gxo [188] [] F H1 := gxo.tr gxo.rf (gxo.mono (w_M_layFar c1) (by intro q hq; simp at hq ⊢; try omega) (by intro q hq; simp at hq ⊢; try omega))
  obtain ⟨m, hm, hR⟩ := Q
  exact (lp m) _ _ _ _ hR o1
