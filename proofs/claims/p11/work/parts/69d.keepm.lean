/-! What the calls of the reference leave as it is (printed by frgen2.py) -/
theorem g_M_rootedBy {a1 a2 : Nat} {F : fx_F} {v : fx_V} {F' : fx_F} (h : Cl k_M_rootedBy [(2, 175), (0, a1), (0, a2)] F v F') : gk F F' := by
  obtain ⟨n, h⟩ := c_M_rootedBy h
  have Q := q_M_rootedBy_0 h
  obtain ⟨H1, c1, Q⟩ := Q
  have o1 := gk.aside gk.rf c1
  obtain ⟨H2, c2, Q⟩ := Q
  have o2 := ga.gx o1 (w_M_orientBy c2) (by simp [qG]) (by decide)
  obtain ⟨H3, c3, Q⟩ := Q
  have o3 := ga.gx o2 (w_M_takeOver c3) (by simp [qG]) (by decide)
  obtain ⟨H4, c4, Q⟩ := Q
  have o4 := ga.gx o3 (w_M_layPairs c4) (by simp [qG]) (by decide)
  refine fo_if fo_ne Q (fun Q => ?_) (fun Q => ?_)
  · refine fo_if fo_ne Q (fun Q => ?_) (fun Q => ?_)
    · obtain ⟨H5, c5, Q⟩ := Q
      have o5 := ga.back o4 c5
      rw [Q.2]; exact o5
    · obtain ⟨H6, c6, Q⟩ := Q
      have o6 := ga.gx o4 (w_M_layLoads c6) (by simp [qG]) (by decide)
      refine fo_if fo_ne Q (fun Q => ?_) (fun Q => ?_)
      · obtain ⟨r7, H7, c7, Q⟩ := Q
        have o7 := ga.gx o6 (w_M_heaviestNow c7) (by simp [qG]) (by decide)
        obtain ⟨H8, c8, Q⟩ := Q
        have o8 := ga.back o7 c8
        rw [Q.2]; exact o8
      · obtain ⟨H9, c9, Q⟩ := Q
        have o9 := ga.back o6 c9
        rw [Q.2]; exact o9
  · refine fo_if fo_ne Q (fun Q => ?_) (fun Q => ?_)
    · obtain ⟨H10, c10, Q⟩ := Q
      have o10 := ga.back o4 c10
      rw [Q.2]; exact o10
    · obtain ⟨H11, c11, Q⟩ := Q
      have o11 := ga.gx o4 (w_M_layLoads c11) (by simp [qG]) (by decide)
      refine fo_if fo_ne Q (fun Q => ?_) (fun Q => ?_)
      · obtain ⟨r12, H12, c12, Q⟩ := Q
        have o12 := ga.gx o11 (w_M_heaviestNow c12) (by simp [qG]) (by decide)
        obtain ⟨H13, c13, Q⟩ := Q
        have o13 := ga.back o12 c13
        rw [Q.2]; exact o13
      · obtain ⟨H14, c14, Q⟩ := Q
        have o14 := ga.back o11 c14
        rw [Q.2]; exact o14
theorem g_M_rooted {a1 a2 : Nat} {F : fx_F} {v : fx_V} {F' : fx_F} (h : Cl k_M_rooted [(2, 175), (0, a1), (0, a2)] F v F') : gk F F' := by
  obtain ⟨n, h⟩ := c_M_rooted h
  have Q := q_M_rooted_0 h
  refine fo_if fo_lt Q (fun Q => ?_) (fun Q => ?_)
  · rw [Q.2]; exact gk.rf
  · refine fo_if fo_lt Q (fun Q => ?_) (fun Q => ?_)
    · rw [Q.2]; exact gk.rf
    · refine fo_if fo_lt Q (fun Q => ?_) (fun Q => ?_)
      · rw [Q.2]; exact gk.rf
      · refine fo_if fo_lt Q (fun Q => ?_) (fun Q => ?_)
        · rw [Q.2]; exact gk.rf
        · obtain ⟨r1, H1, c1, Q⟩ := Q
          have o1 := gk.tr gk.rf (g_M_rootedBy c1)
          rw [Q.2]; exact o1
theorem g_M_best {a1 : Nat} {F : fx_F} {v : fx_V} {F' : fx_F} (h : Cl k_M_best [(2, 175), (0, a1)] F v F') : gk F F' := by
  obtain ⟨n, h⟩ := c_M_best h
  have lp : ∀ n : Nat, (∀ (l1 l2 l3 l4 : Nat) (F2 : fx_F), Rn n k_M_best 30 [(2, 175), (0, l1), (0, l2), (0, l3), (0, l4), (3, 0)] [] F2 v F' → gk F F2 → gk F F') := by
    intro n
    induction n using Nat.strongRecOn with
    | ind n ih =>
      refine fun l1 l2 l3 l4 F2 h ho => ?_
      · have Q := q_M_best_30 h
        clear h
        refine fo_if fo_le Q (fun Q => ?_) (fun Q => ?_)
        · rw [Q.2]; exact ho
        · obtain ⟨r1, H1, c1, Q⟩ := Q
          have o1 := gk.tr ho (g_M_rootedBy c1)
          refine fo_if fo_lt Q (fun Q => ?_) (fun Q => ?_)
          · obtain ⟨m, hm, hR⟩ := Q
            exact (ih m hm) _ _ _ _ _ hR o1
          · obtain ⟨m, hm, hR⟩ := Q
            exact (ih m hm) _ _ _ _ _ hR o1
  have Q := q_M_best_0 h
  refine fo_if fo_lt Q (fun Q => ?_) (fun Q => ?_)
  · rw [Q.2]; exact gk.rf
  · refine fo_if fo_lt Q (fun Q => ?_) (fun Q => ?_)
    · rw [Q.2]; exact gk.rf
    · refine fo_if fo_ne Q (fun Q => ?_) (fun Q => ?_)
      · obtain ⟨r1, H1, c1, Q⟩ := Q
        have o1 := gk.tr gk.rf (g_M_rootedBy c1)
        obtain ⟨m, hm, hR⟩ := Q
        exact (lp m) _ _ _ _ _ hR o1
      · rw [Q.2]; exact gk.rf
theorem g_M_without {a1 a2 : Nat} {F : fx_F} {v : fx_V} {F' : fx_F} (h : Cl k_M_without [(2, 175), (0, a1), (0, a2)] F v F') : gk F F' := by
  obtain ⟨n, h⟩ := c_M_without h
  have Q := q_M_without_0 h
  refine fo_if fo_lt Q (fun Q => ?_) (fun Q => ?_)
  · rw [Q.2]; exact gk.rf
  · refine fo_if fo_lt Q (fun Q => ?_) (fun Q => ?_)
    · rw [Q.2]; exact gk.rf
    · refine fo_if fo_ne Q (fun Q => ?_) (fun Q => ?_)
      · rw [Q.2]; exact gk.rf
      · refine fo_if fo_lt Q (fun Q => ?_) (fun Q => ?_)
        · rw [Q.2]; exact gk.rf
        · refine fo_if fo_lt Q (fun Q => ?_) (fun Q => ?_)
          · rw [Q.2]; exact gk.rf
          · obtain ⟨H1, c1, Q⟩ := Q
            have o1 := gk.aside gk.rf c1
            obtain ⟨H2, c2, Q⟩ := Q
            have o2 := ga.gx (ga.wr o1 (by simp [qG])) (w_M_orientBy c2) (by simp [qG]) (by decide)
            obtain ⟨r3, H3, c3, Q⟩ := Q
            have o3 := ga.gx o2 (w_M_flips c3) (by simp [qG]) (by decide)
            refine fo_if fo_ne Q (fun Q => ?_) (fun Q => ?_)
            · obtain ⟨H4, c4, Q⟩ := Q
              have o4 := ga.gx o3 (w_M_layPairs c4) (by simp [qG]) (by decide)
              obtain ⟨H5, c5, Q⟩ := Q
              have o5 := ga.back o4 c5
              refine fo_if fo_ne Q (fun Q => ?_) (fun Q => ?_)
              · rw [Q.2]; exact o5
              · rw [Q.2]; exact o5
            · obtain ⟨H6, c6, Q⟩ := Q
              have o6 := ga.gx o3 (w_M_takeOver c6) (by simp [qG]) (by decide)
              obtain ⟨H7, c7, Q⟩ := Q
              have o7 := ga.gx o6 (w_M_layPairs c7) (by simp [qG]) (by decide)
              obtain ⟨H8, c8, Q⟩ := Q
              have o8 := ga.back o7 c8
              refine fo_if fo_ne Q (fun Q => ?_) (fun Q => ?_)
              · rw [Q.2]; exact o8
              · rw [Q.2]; exact o8
theorem g_M_dearest {F : fx_F} {v : fx_V} {F' : fx_F} (h : Cl k_M_dearest [(2, 175)] F v F') : gk F F' := by
  obtain ⟨n, h⟩ := c_M_dearest h
  have lp : ∀ n : Nat, (∀ (l1 l2 l3 : Nat) (F2 : fx_F), Rn n k_M_dearest 6 [(2, 175), (0, l1), (0, l2), (0, l3), (3, 0)] [] F2 v F' → gk F F2 → gk F F') := by
    intro n
    induction n using Nat.strongRecOn with
    | ind n ih =>
      refine fun l1 l2 l3 F2 h ho => ?_
      · have Q := q_M_dearest_6 h
        clear h
        refine fo_if fo_le Q (fun Q => ?_) (fun Q => ?_)
        · rw [Q.2]; exact ho
        · obtain ⟨r1, H1, c1, Q⟩ := Q
          have o1 := gk.tr ho (g_M_without c1)
          refine fo_if fo_lt Q (fun Q => ?_) (fun Q => ?_)
          · obtain ⟨m, hm, hR⟩ := Q
            exact (ih m hm) _ _ _ _ hR o1
          · obtain ⟨m, hm, hR⟩ := Q
            exact (ih m hm) _ _ _ _ hR o1
  have Q := q_M_dearest_0 h
  obtain ⟨m, hm, hR⟩ := Q
  exact (lp m) _ _ _ _ hR gk.rf
theorem g_M_around {a1 a2 a3 : Nat} {F : fx_F} {v : fx_V} {F' : fx_F} (h : Cl k_M_around [(2, 175), (0, a1), (0, a2), (0, a3)] F v F') : gk F F' := by
  obtain ⟨n, h⟩ := c_M_around h
  have Q := q_M_around_0 h
  refine fo_if fo_lt Q (fun Q => ?_) (fun Q => ?_)
  · rw [Q.2]; exact gk.rf
  · refine fo_if fo_lt Q (fun Q => ?_) (fun Q => ?_)
    · rw [Q.2]; exact gk.rf
    · refine fo_if fo_lt Q (fun Q => ?_) (fun Q => ?_)
      · rw [Q.2]; exact gk.rf
      · refine fo_if fo_lt Q (fun Q => ?_) (fun Q => ?_)
        · rw [Q.2]; exact gk.rf
        · refine fo_if fo_lt Q (fun Q => ?_) (fun Q => ?_)
          · rw [Q.2]; exact gk.rf
          · refine fo_if fo_lt Q (fun Q => ?_) (fun Q => ?_)
            · rw [Q.2]; exact gk.rf
            · refine fo_if fo_ne Q (fun Q => ?_) (fun Q => ?_)
              · rw [Q.2]; exact gk.rf
              · obtain ⟨H1, c1, Q⟩ := Q
                have o1 := gk.aside gk.rf c1
                obtain ⟨r2, H2, c2, Q⟩ := Q
                have o2 := ga.gx (ga.wr o1 (by simp [qG])) (w_M_length c2) (by simp [qG]) (by decide)
                obtain ⟨H3, c3, Q⟩ := Q
                have o3 := ga.back o2 c3
                rw [Q.2]; exact o3
theorem g_M_drains {F : fx_F} {v : fx_V} {F' : fx_F} (h : Cl k_M_drains [(2, 175)] F v F') : gk F F' := by
  obtain ⟨n, h⟩ := c_M_drains h
  have lp : ∀ n : Nat, (∀ (l1 l2 : Nat) (F2 : fx_F), Rn n k_M_drains 8 [(2, 175), (0, l1), (0, l2)] [] F2 v F' → ga F F2 → gk F F') := by
    intro n
    induction n using Nat.strongRecOn with
    | ind n ih =>
      refine fun l1 l2 F2 h ho => ?_
      · have Q := q_M_drains_8 h
        clear h
        obtain ⟨r1, H1, c1, Q⟩ := Q
        have o1 := ga.gx ho (w_M_packetsNow c1) (by simp [qG]) (by decide)
        refine fo_if fo_le Q (fun Q => ?_) (fun Q => ?_)
        · obtain ⟨H2, c2, Q⟩ := Q
          have o2 := ga.back o1 c2
          refine fo_if fo_lt Q (fun Q => ?_) (fun Q => ?_)
          · rw [Q.2]; exact o2
          · refine fo_if fo_le Q (fun Q => ?_) (fun Q => ?_)
            · rw [Q.2]; exact o2
            · rw [Q.2]; exact o2
        · refine fo_if fo_lt Q (fun Q => ?_) (fun Q => ?_)
          · obtain ⟨H3, c3, Q⟩ := Q
            have o3 := ga.back o1 c3
            refine fo_if fo_lt Q (fun Q => ?_) (fun Q => ?_)
            · rw [Q.2]; exact o3
            · refine fo_if fo_le Q (fun Q => ?_) (fun Q => ?_)
              · rw [Q.2]; exact o3
              · rw [Q.2]; exact o3
          · obtain ⟨r4, H4, c4, Q⟩ := Q
            have o4 := ga.gx o1 (w_M_goStep c4) (by simp [qG]) (by decide)
            obtain ⟨m, hm, hR⟩ := Q
            exact (ih m hm) _ _ _ hR o4
  have Q := q_M_drains_0 h
  obtain ⟨H1, c1, Q⟩ := Q
  have o1 := gk.aside gk.rf c1
  obtain ⟨m, hm, hR⟩ := Q
  exact (lp m) _ _ _ hR o1
theorem g_M_stuck {F : fx_F} {v : fx_V} {F' : fx_F} (h : Cl k_M_stuck [(2, 175)] F v F') : gk F F' := by
  obtain ⟨n, h⟩ := c_M_stuck h
  have lp : ∀ n : Nat, (∀ (l1 l2 : Nat) (F2 : fx_F), Rn n k_M_stuck 22 [(2, 175), (0, l1), (0, l2)] [] F2 v F' → ga F F2 → gk F F') := by
    intro n
    induction n using Nat.strongRecOn with
    | ind n ih =>
      refine fun l1 l2 F2 h ho => ?_
      · have Q := q_M_stuck_22 h
        clear h
        refine fo_if fo_le Q (fun Q => ?_) (fun Q => ?_)
        · obtain ⟨H1, c1, Q⟩ := Q
          have o1 := ga.back ho c1
          rw [Q.2]; exact o1
        · refine fo_if fo_ne Q (fun Q => ?_) (fun Q => ?_)
          · obtain ⟨m, hm, hR⟩ := Q
            exact (ih m hm) _ _ _ hR ho
          · obtain ⟨m, hm, hR⟩ := Q
            exact (ih m hm) _ _ _ hR ho
  have Q := q_M_stuck_0 h
  obtain ⟨H1, c1, Q⟩ := Q
  have o1 := gk.aside gk.rf c1
  obtain ⟨r2, H2, c2, Q⟩ := Q
  have o2 := ga.gx o1 (w_M_goSteps c2) (by simp [qG]) (by decide)
  refine fo_if fo_le Q (fun Q => ?_) (fun Q => ?_)
  · obtain ⟨m, hm, hR⟩ := Q
    exact (lp m) _ _ _ hR o2
  · obtain ⟨m, hm, hR⟩ := Q
    exact (lp m) _ _ _ hR o2
theorem g_M_game {a1 a2 a3 : Nat} {F : fx_F} {v : fx_V} {F' : fx_F} (h : Cl k_M_game [(2, 175), (0, a1), (0, a2), (0, a3)] F v F') : gk F F' := by
  obtain ⟨n, h⟩ := c_M_game h
  have lp : ∀ n : Nat, (∀ (l2 l3 l4 : Nat) (F2 : fx_F), Rn n k_M_game 66 [(2, 175), (3, 0), (0, l2), (0, l3), (0, l4), (3, 0)] [] F2 v F' → ga F F2 → gk F F') := by
    intro n
    induction n using Nat.strongRecOn with
    | ind n ih =>
      refine fun l2 l3 l4 F2 h ho => ?_
      · have Q := q_M_game_66 h
        clear h
        refine fo_if fo_le Q (fun Q => ?_) (fun Q => ?_)
        · obtain ⟨r1, H1, c1, Q⟩ := Q
          have o1 := ga.gx ho (w_M_packetsNow c1) (by simp [qG]) (by decide)
          obtain ⟨H2, c2, Q⟩ := Q
          have o2 := ga.back o1 c2
          refine fo_if fo_ne Q (fun Q => ?_) (fun Q => ?_)
          · refine fo_if fo_ne Q (fun Q => ?_) (fun Q => ?_)
            · refine fo_if fo_ne Q (fun Q => ?_) (fun Q => ?_)
              · rw [Q.2]; exact o2
              · rw [Q.2]; exact o2
            · rw [Q.2]; exact o2
          · rw [Q.2]; exact o2
        · obtain ⟨H3, c3, Q⟩ := Q
          have o3 := ga.gx ho (w_M_gameOnce c3) (by simp [qG]) (by decide)
          obtain ⟨m, hm, hR⟩ := Q
          exact (ih m hm) _ _ _ _ hR o3
  have Q := q_M_game_0 h
  refine fo_if fo_eq Q (fun Q => ?_) (fun Q => ?_)
  · rw [Q.2]; exact gk.rf
  · refine fo_if fo_lt Q (fun Q => ?_) (fun Q => ?_)
    · rw [Q.2]; exact gk.rf
    · refine fo_if fo_lt Q (fun Q => ?_) (fun Q => ?_)
      · rw [Q.2]; exact gk.rf
      · refine fo_if fo_lt Q (fun Q => ?_) (fun Q => ?_)
        · rw [Q.2]; exact gk.rf
        · refine fo_if fo_lt Q (fun Q => ?_) (fun Q => ?_)
          · rw [Q.2]; exact gk.rf
          · refine fo_if fo_lt Q (fun Q => ?_) (fun Q => ?_)
            · rw [Q.2]; exact gk.rf
            · refine fo_if fo_lt Q (fun Q => ?_) (fun Q => ?_)
              · rw [Q.2]; exact gk.rf
              · obtain ⟨H1, c1, Q⟩ := Q
                have o1 := gk.aside gk.rf c1
                obtain ⟨m, hm, hR⟩ := Q
                exact (lp m) _ _ _ _ hR (ga.wrf (ga.wrf (ga.wrf (ga.wrf o1 (by decide)) (by decide)) (by decide)) (by decide))
theorem g_M_ways {a1 a2 : Nat} {F : fx_F} {v : fx_V} {F' : fx_F} (h : Cl k_M_ways [(2, 175), (0, a1), (0, a2)] F v F') : gk F F' := by
  obtain ⟨n, h⟩ := c_M_ways h
  have Q := q_M_ways_0 h
  refine fo_if fo_lt Q (fun Q => ?_) (fun Q => ?_)
  · rw [Q.2]; exact gk.rf
  · refine fo_if fo_lt Q (fun Q => ?_) (fun Q => ?_)
    · rw [Q.2]; exact gk.rf
    · refine fo_if fo_lt Q (fun Q => ?_) (fun Q => ?_)
      · rw [Q.2]; exact gk.rf
      · refine fo_if fo_lt Q (fun Q => ?_) (fun Q => ?_)
        · rw [Q.2]; exact gk.rf
        · obtain ⟨H1, c1, Q⟩ := Q
          have o1 := gk.gx gk.rf (w_M_layOnward c1) (by simp [qG]) (by decide)
          rw [Q.2]; exact o1
theorem g_M_through {a1 a2 a3 : Nat} {F : fx_F} {v : fx_V} {F' : fx_F} (h : Cl k_M_through [(2, 175), (0, a1), (0, a2), (0, a3)] F v F') : gk F F' := by
  obtain ⟨n, h⟩ := c_M_through h
  have lp : ∀ n : Nat, (∀ (l2 l3 l4 l6 : Nat) (F2 : fx_F), Rn n k_M_through 59 [(2, 175), (3, 0), (0, l2), (0, l3), (1, l4), (3, 0), (0, l6)] [] F2 v F' → gk F F2 → gk F F') := by
    intro n
    induction n using Nat.strongRecOn with
    | ind n ih =>
      refine fun l2 l3 l4 l6 F2 h ho => ?_
      · have Q := q_M_through_59 h
        clear h
        refine fo_if fo_le Q (fun Q => ?_) (fun Q => ?_)
        · rw [Q.2]; exact ho
        · obtain ⟨r1, H1, c1, Q⟩ := Q
          have o1 := gk.gx ho (w_M_isNext c1) (by simp [qG]) (by decide)
          refine fo_if fo_eq Q (fun Q => ?_) (fun Q => ?_)
          · obtain ⟨m, hm, hR⟩ := Q
            exact (ih m hm) _ _ _ _ _ hR o1
          · refine fo_if fo_ne Q (fun Q => ?_) (fun Q => ?_)
            · refine fo_if fo_ne Q (fun Q => ?_) (fun Q => ?_)
              · refine fo_if fo_eq Q (fun Q => ?_) (fun Q => ?_)
                · obtain ⟨m, hm, hR⟩ := Q
                  exact (ih m hm) _ _ _ _ _ hR o1
                · obtain ⟨m, hm, hR⟩ := Q
                  exact (ih m hm) _ _ _ _ _ hR o1
              · refine fo_if fo_eq Q (fun Q => ?_) (fun Q => ?_)
                · obtain ⟨m, hm, hR⟩ := Q
                  exact (ih m hm) _ _ _ _ _ hR o1
                · obtain ⟨m, hm, hR⟩ := Q
                  exact (ih m hm) _ _ _ _ _ hR o1
            · obtain ⟨m, hm, hR⟩ := Q
              exact (ih m hm) _ _ _ _ _ hR o1
  have Q := q_M_through_0 h
  refine fo_if fo_lt Q (fun Q => ?_) (fun Q => ?_)
  · rw [Q.2]; exact gk.rf
  · refine fo_if fo_lt Q (fun Q => ?_) (fun Q => ?_)
    · rw [Q.2]; exact gk.rf
    · refine fo_if fo_lt Q (fun Q => ?_) (fun Q => ?_)
      · rw [Q.2]; exact gk.rf
      · refine fo_if fo_lt Q (fun Q => ?_) (fun Q => ?_)
        · rw [Q.2]; exact gk.rf
        · refine fo_if fo_lt Q (fun Q => ?_) (fun Q => ?_)
          · rw [Q.2]; exact gk.rf
          · refine fo_if fo_lt Q (fun Q => ?_) (fun Q => ?_)
            · rw [Q.2]; exact gk.rf
            · obtain ⟨H1, c1, Q⟩ := Q
              have o1 := gk.gx gk.rf (w_M_layOnward c1) (by simp [qG]) (by decide)
              refine fo_if fo_lt Q (fun Q => ?_) (fun Q => ?_)
              · obtain ⟨H2, c2, Q⟩ := Q
                have o2 := gk.gx o1 (w_M_layCome c2) (by simp [qG]) (by decide)
                obtain ⟨m, hm, hR⟩ := Q
                exact (lp m) _ _ _ _ _ hR o2
              · rw [Q.2]; exact o1
theorem g_M_pairs {a1 : Nat} {F : fx_F} {v : fx_V} {F' : fx_F} (h : Cl k_M_pairs [(2, 175), (0, a1)] F v F') : gk F F' := by
  obtain ⟨n, h⟩ := c_M_pairs h
  have Q := q_M_pairs_0 h
  obtain ⟨H1, c1, Q⟩ := Q
  have o1 := gk.gx gk.rf (w_M_layPairs c1) (by simp [qG]) (by decide)
  rcases (fo_sw0_4 (a1)) with z | z | z | z | z
  · have Q := Q.1 z
    rw [Q.2]; exact o1
  · have Q := Q.2.1 z
    rw [Q.2]; exact o1
  · have Q := Q.2.2.1 z
    rw [Q.2]; exact o1
  · have Q := Q.2.2.2.1 z
    rw [Q.2]; exact o1
  · have Q := Q.2.2.2.2.1 z
    rw [Q.2]; exact o1
theorem g_M_apart {a1 a2 : Nat} {F : fx_F} {v : fx_V} {F' : fx_F} (h : Cl k_M_apart [(2, 175), (0, a1), (0, a2)] F v F') : gk F F' := by
  obtain ⟨n, h⟩ := c_M_apart h
  have lp : ∀ n : Nat, (∀ (l1 l2 l3 : Nat) (F2 : fx_F), Rn n k_M_apart 25 [(2, 175), (0, l1), (0, l2), (0, l3)] [] F2 v F' → gk F F2 → gk F F') ∧ (∀ (l1 l2 l3 : Nat) (F2 : fx_F), Rn n k_M_apart 46 [(2, 175), (0, l1), (0, l2), (0, l3)] [] F2 v F' → gk F F2 → gk F F') := by
    intro n
    induction n using Nat.strongRecOn with
    | ind n ih =>
      refine ⟨fun l1 l2 l3 F2 h ho => ?_, fun l1 l2 l3 F2 h ho => ?_⟩
      · have Q := q_M_apart_25 h
        clear h
        refine fo_if fo_le Q (fun Q => ?_) (fun Q => ?_)
        · obtain ⟨m, hm, hR⟩ := Q
          exact (ih m hm).2 _ _ _ _ hR ho
        · obtain ⟨m, hm, hR⟩ := Q
          exact (ih m hm).1 _ _ _ _ hR (gk.wr ho (by simp [qG]))
      · have Q := q_M_apart_46 h
        clear h
        obtain ⟨r1, H1, c1, Q⟩ := Q
        have o1 := gk.gx ho (w_M_oneMore c1) (by simp [qG]) (by decide)
        refine fo_if fo_eq Q (fun Q => ?_) (fun Q => ?_)
        · rw [Q.2]; exact o1
        · obtain ⟨m, hm, hR⟩ := Q
          exact (ih m hm).2 _ _ _ _ hR o1
  have Q := q_M_apart_0 h
  refine fo_if fo_lt Q (fun Q => ?_) (fun Q => ?_)
  · rw [Q.2]; exact gk.rf
  · refine fo_if fo_lt Q (fun Q => ?_) (fun Q => ?_)
    · rw [Q.2]; exact gk.rf
    · refine fo_if fo_lt Q (fun Q => ?_) (fun Q => ?_)
      · rw [Q.2]; exact gk.rf
      · refine fo_if fo_lt Q (fun Q => ?_) (fun Q => ?_)
        · rw [Q.2]; exact gk.rf
        · refine fo_if fo_ne Q (fun Q => ?_) (fun Q => ?_)
          · obtain ⟨m, hm, hR⟩ := Q
            exact (lp m).1 _ _ _ _ hR gk.rf
          · rw [Q.2]; exact gk.rf
theorem g_M_pivots {F : fx_F} {v : fx_V} {F' : fx_F} (h : Cl k_M_pivots [(2, 175)] F v F') : gk F F' := by
  obtain ⟨n, h⟩ := c_M_pivots h
  have lp : ∀ n : Nat, (∀ (l1 l2 l3 : Nat) (F2 : fx_F), Rn n k_M_pivots 10 [(2, 175), (0, l1), (0, l2), (0, l3)] [] F2 v F' → gk F F2 → gk F F') := by
    intro n
    induction n using Nat.strongRecOn with
    | ind n ih =>
      refine fun l1 l2 l3 F2 h ho => ?_
      · have Q := q_M_pivots_10 h
        clear h
        refine fo_if fo_le Q (fun Q => ?_) (fun Q => ?_)
        · rw [Q.2]; exact ho
        · obtain ⟨r1, H1, c1, Q⟩ := Q
          have o1 := gk.gx ho (w_M_plainPairs c1) (by simp [qG]) (by decide)
          obtain ⟨r2, H2, c2, Q⟩ := Q
          have o2 := gk.gx o1 (w_M_pairsOf c2) (by simp [qG]) (by decide)
          refine fo_if fo_le Q (fun Q => ?_) (fun Q => ?_)
          · obtain ⟨m, hm, hR⟩ := Q
            exact (ih m hm) _ _ _ _ hR o2
          · obtain ⟨m, hm, hR⟩ := Q
            exact (ih m hm) _ _ _ _ hR o2
  have Q := q_M_pivots_0 h
  obtain ⟨r1, H1, c1, Q⟩ := Q
  have o1 := gk.gx gk.rf (w_M_plainPairs c1) (by simp [qG]) (by decide)
  obtain ⟨m, hm, hR⟩ := Q
  exact (lp m) _ _ _ _ hR o1
