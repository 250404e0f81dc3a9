/-! Calls that are not compared keep the relation -/
theorem fo_ifc {c d A B P : Prop} (hcd : c ∨ d) (Q : (c → A) ∧ (d → B)) (hA : c → A → P) (hB : d → B → P) : P := hcd.elim (fun z => hA z (Q.1 z)) (fun z => hB z (Q.2 z))
theorem lt_of_s {a k : Nat} (ha : a < 4294967296) (hk : k ≤ 40) (h1 : s_le 0 a) (h2 : s_lt a k) : a < k := by
  rw [b_pos ha] at h1
  rw [b_lt h1 (by omega)] at h2
  exact h2
theorem and_lt_s {s x : Nat} (hs : s < 2147483648) : i_and s x < 2147483648 := by
  rw [b_and (show s < 4294967296 by omega)]
  exact Nat.lt_of_le_of_lt Nat.and_le_left hs
section KEEPC
variable {nn L R N a b c r w : Nat} {E C : Nat → Nat} {v v2 : fx_V} {F F' F0 F1 F2 G G' : fx_F}
theorem kp.no (h : kp nn L E F0 F1) (k : gxo [] [] F1 F2) : kp nn L E F0 F2 := h.gx k (fun q hq => by cases hq)
theorem kp.way (h0 : lr F0 G nn L E C N R) (h : kp nn L E F0 F1) (ha : a < 2147483648) (hb : b < 2147483648) (hc : Cl k_T_pairsWithoutWay [(2, 2), (0, a), (0, b)] F1 v F2) : kp nn L E F0 F2 := by
  obtain ⟨n, hc⟩ := c_T_pairsWithoutWay hc
  obtain ⟨F3, c1, n2, F4, c2, _, e⟩ := q_T_pairsWithoutWay_0 hc
  rw [e]; exact (h.see h0 (Or.inr rfl) ha hb c1).no (w_Ro_pairsWithout c2)
theorem kp.worth (h0 : lr F0 G nn L E C N R) (h : kp nn L E F0 F1) (hr : r < nn) (hc : Cl k_T_worthOf [(2, 2), (0, r), (0, w)] F1 v F2) : kp nn L E F0 F2 := by
  have hn := h0.1.1.1
  obtain ⟨n, hc⟩ := c_T_worthOf hc
  obtain ⟨n1, F3, c1, Q⟩ := q_T_worthOf_0 hc
  obtain ⟨k1, x, e, hx⟩ := h.up h0 (Or.inl hr) (by omega) c1
  cases e
  have st := (k1.st h0).2
  refine fo_if fo_ne Q (fun Q => ?_) (fun Q => ?_)
  · refine fo_if fo_ne Q (fun Q => ?_) (fun Q => ?_)
    · refine fo_if fo_ne Q (fun Q => ?_) (fun Q => ?_)
      · obtain ⟨F4, c2, n3, F5, c3, _, e⟩ := Q
        rw [e]; exact (k1.tab h0 (Or.inr rfl) hx st c2).no (w_Ro_heaviestChannel c3)
      · rw [Q.2]; exact k1
    · obtain ⟨F4, c2, n3, F5, c3, _, e⟩ := Q
      rw [e]; exact (k1.see h0 (Or.inr rfl) hx st c2).no (w_Ro_hopsTogether c3)
  · obtain ⟨n2, F4, c2, _, e⟩ := Q
    rw [e]; exact k1.way h0 hx st c2
theorem h_T_rooted (h : lr F G nn L E C N R) (ha : a < 4294967296) (hF : Cl k_T_rooted [(2, 2), (0, a), (0, b)] F v F') : kp nn L E F F' := by
  have hn := h.1.1.1
  obtain ⟨n, hF⟩ := c_T_rooted hF
  have Q := q_T_rooted_0 hF
  rw [h.2.1.1.1] at Q
  refine fo_ifc fo_lt Q (fun _ Q => ?_) (fun z1 Q => ?_)
  · rw [Q.2]; exact h.kp
  refine fo_ifc fo_le Q (fun _ Q => ?_) (fun z2 Q => ?_)
  · rw [Q.2]; exact h.kp
  have hr := lt_of_s ha (by omega) z1 z2
  refine fo_if fo_lt Q (fun Q => ?_) (fun Q => ?_)
  · rw [Q.2]; exact h.kp
  refine fo_if fo_le Q (fun Q => ?_) (fun Q => ?_)
  · obtain ⟨n1, F1, c1, _, e⟩ := Q
    rw [e]; exact h.kp.worth h hr c1
  · rw [Q.2]; exact h.kp
theorem h_T_best (h : lr F G nn L E C N R) (hF : Cl k_T_best [(2, 2), (0, a)] F v F') : kp nn L E F F' := by
  have hn := h.1.1.1
  obtain ⟨n, hF⟩ := c_T_best hF
  have Q := q_T_best_0 hF
  rw [h.2.1.1.1] at Q
  have lp : ∀ (n : Nat) (F1 : fx_F) (l1 l2 l3 l4 : Nat), Rn n k_T_best 33 [(2, 2), (0, l1), (0, l2), (0, l3), (0, l4), (3, 0)] [] F1 v F' → l4 ≤ nn → kp nn L E F F1 → kp nn L E F F' := by
    intro n
    induction n using Nat.strongRecOn with
    | ind n ih =>
      intro F1 l1 l2 l3 l4 hR hl k
      have Q := q_T_best_33 hR
      rw [(k.cn h).1.1] at Q
      refine fo_ifc fo_le Q (fun _ Q => ?_) (fun z Q => ?_)
      · rw [Q.2]; exact k
      rw [b_lt (by clear Q; omega) (by clear Q; omega)] at z
      obtain ⟨n1, F3, c1, Q⟩ := Q
      have k1 := k.worth h z c1
      rw [b_add (show l4 + 1 < 4294967296 by clear Q; omega)] at Q
      refine fo_if fo_le Q (fun Q => ?_) (fun Q => ?_)
      · obtain ⟨m, hm, hR⟩ := Q
        exact ih m hm _ _ _ _ _ hR (by omega) k1
      · obtain ⟨m, hm, hR⟩ := Q
        exact ih m hm _ _ _ _ _ hR (by omega) k1
  refine fo_ifc fo_eq Q (fun _ Q => ?_) (fun z1 Q => ?_)
  · rw [Q.2]; exact h.kp
  refine fo_if fo_lt Q (fun Q => ?_) (fun Q => ?_)
  · rw [Q.2]; exact h.kp
  refine fo_if fo_le Q (fun Q => ?_) (fun Q => ?_)
  · obtain ⟨n1, F1, c1, m, hm, hR⟩ := Q
    exact lp m F1 _ _ _ _ hR (by omega) (h.kp.worth h (by omega) c1)
  · rw [Q.2]; exact h.kp
theorem h_T_without (h : lr F G nn L E C N R) (hF : Cl k_T_without [(2, 2), (0, a), (0, b)] F v F') : kp nn L E F F' := by
  obtain ⟨n, hF⟩ := c_T_without hF
  have Q := q_T_without_0 hF
  obtain ⟨s1, s2⟩ := h.kp.st h
  have s3 : ∀ x, i_and (F (F 2 13) 2) x < 2147483648 := fun x => and_lt_s s2
  have up : ∀ {F1 F2 : fx_F} {r s : Nat} {n2 : Nat}, Cl k_Or_rate [(2, 19), (0, r), (0, s)] F (2, 0) F1 → Cl k_Or_upEnds [(2, 19)] F1 (0, n2) F2 → kp nn L E F F2 ∧ n2 < 2147483648 := by
    intro F1 F2 r s n2 c1 c2
    have k1 := h.kp.gx (w_Or_rate c1) (by simp [qF])
    obtain ⟨x, e1, e2, e3, -⟩ := s_upEnds h.1.1 (k1.cn h).1 (R := F1 22) (fun _ _ => rfl) c2
    cases e1
    subst e2
    have := p20 h.1.1.2.1 e3
    exact ⟨k1, by omega⟩
  refine fo_if fo_lt Q (fun Q => ?_) (fun Q => ?_)
  · rw [Q.2]; exact h.kp
  refine fo_if fo_le Q (fun Q => ?_) (fun Q => ?_)
  · rw [Q.2]; exact h.kp
  refine fo_if fo_ne Q (fun Q => ?_) (fun Q => ?_)
  · rw [Q.2]; exact h.kp
  refine fo_if fo_ne Q (fun Q => ?_) (fun Q => ?_)
  · refine fo_if fo_eq Q (fun Q => ?_) (fun Q => ?_)
    · obtain ⟨F1, c1, n2, F2, c2, Q⟩ := Q
      obtain ⟨k2, hx⟩ := up c1 c2
      refine fo_if fo_ne Q (fun Q => ?_) (fun Q => ?_)
      · obtain ⟨n3, F3, c3, _, e⟩ := Q
        rw [e]; exact k2.no (w_I_bitCount c3)
      · obtain ⟨n3, F3, c3, _, e⟩ := Q
        rw [e]; exact k2.way h hx (s3 _) c3
    · refine fo_if fo_eq Q (fun Q => ?_) (fun Q => ?_)
      · obtain ⟨F1, c1, n2, F2, c2, Q⟩ := Q
        obtain ⟨k2, hx⟩ := up c1 c2
        refine fo_if fo_ne Q (fun Q => ?_) (fun Q => ?_)
        · obtain ⟨n3, F3, c3, _, e⟩ := Q
          rw [e]; exact k2.no (w_I_bitCount c3)
        · obtain ⟨n3, F3, c3, _, e⟩ := Q
          rw [e]; exact k2.way h hx (s3 _) c3
      · rw [Q.2]; exact h.kp
  · obtain ⟨n1, F1, c1, _, e⟩ := Q
    rw [e]; exact h.kp.way h s1 (s3 _) c1
theorem h_T_dearest (h : lr F G nn L E C N R) (hF : Cl k_T_dearest [(2, 2)] F v F') : kp nn L E F F' := by
  obtain ⟨n, hF⟩ := c_T_dearest hF
  obtain ⟨m, hm, hR⟩ := q_T_dearest_0 hF
  have lp : ∀ (n : Nat) (F1 : fx_F) (l1 l2 l3 : Nat), Rn n k_T_dearest 6 [(2, 2), (0, l1), (0, l2), (0, l3), (3, 0)] [] F1 v F' → kp nn L E F F1 → kp nn L E F F' := by
    intro n
    induction n using Nat.strongRecOn with
    | ind n ih =>
      intro F1 l1 l2 l3 hR k
      have Q := q_T_dearest_6 hR
      refine fo_if fo_le Q (fun Q => ?_) (fun Q => ?_)
      · rw [Q.2]; exact k
      refine fo_if fo_ne Q (fun Q => ?_) (fun Q => ?_)
      · obtain ⟨m, hm, hR⟩ := Q
        exact ih m hm _ _ _ _ hR k
      obtain ⟨n1, F3, c1, Q⟩ := Q
      have k1 := k.way h (k.st h).1 (and_lt_s (k.st h).2) c1
      refine fo_if fo_le Q (fun Q => ?_) (fun Q => ?_)
      · obtain ⟨m, hm, hR⟩ := Q
        exact ih m hm _ _ _ _ hR k1
      · obtain ⟨m, hm, hR⟩ := Q
        exact ih m hm _ _ _ _ hR k1
  exact lp m F _ _ _ hR h.kp
theorem h_T_around (h : lr F G nn L E C N R) (hF : Cl k_T_around [(2, 2), (0, a), (0, b), (0, c)] F v F') : kp nn L E F F' := by
  obtain ⟨n, hF⟩ := c_T_around hF
  have Q := q_T_around_0 hF
  obtain ⟨s1, s2⟩ := h.kp.st h
  refine fo_if fo_lt Q (fun Q => ?_) (fun Q => ?_)
  · rw [Q.2]; exact h.kp
  refine fo_if fo_le Q (fun Q => ?_) (fun Q => ?_)
  · rw [Q.2]; exact h.kp
  refine fo_if fo_lt Q (fun Q => ?_) (fun Q => ?_)
  · rw [Q.2]; exact h.kp
  refine fo_if fo_le Q (fun Q => ?_) (fun Q => ?_)
  · rw [Q.2]; exact h.kp
  refine fo_if fo_lt Q (fun Q => ?_) (fun Q => ?_)
  · rw [Q.2]; exact h.kp
  refine fo_if fo_le Q (fun Q => ?_) (fun Q => ?_)
  · rw [Q.2]; exact h.kp
  refine fo_if fo_ne Q (fun Q => ?_) (fun Q => ?_)
  · rw [Q.2]; exact h.kp
  obtain ⟨F1, c1, _, e⟩ := Q
  rw [e]; exact h.kp.see h (Or.inr rfl) s1 (and_lt_s s2) c1
theorem h_T_pairs (h : lr F G nn L E C N R) (hF : Cl k_T_pairs [(2, 2), (0, a)] F v F') : kp nn L E F F' := by
  obtain ⟨n, hF⟩ := c_T_pairs hF
  obtain ⟨F1, c1, Q⟩ := q_T_pairs_0 hF
  obtain ⟨s1, s2⟩ := h.kp.st h
  have k1 := h.kp.see h (Or.inl rfl) s1 s2 c1
  have hz : (a < 0 ∨ 4 ≤ a) ∨ a = 0 ∨ a = 1 ∨ a = 2 ∨ a = 3 := by clear Q; omega
  rcases hz with z | z | z | z | z
  · rw [(Q.1 z).2]; exact k1
  · obtain ⟨n2, F2, c2, _, e⟩ := Q.2.1 z
    rw [e]; exact k1.no (w_Ro_pairsWithout c2)
  · obtain ⟨n2, F2, c2, _, e⟩ := Q.2.2.1 z
    rw [e]; exact k1.no (w_Ro_hopsTogether c2)
  · obtain ⟨F2, c2, n3, F3, c3, n4, F4, c4, _, e⟩ := Q.2.2.2.1 z
    rw [e]; exact ((k1.gx (w_Gr_see c2) (by simp [qF])).no (w_Ro_hopsTogether c3)).no (w_T_hopsWhereWays c4)
  · obtain ⟨F2, c2, n3, F3, c3, _, e⟩ := Q.2.2.2.2.1 z
    rw [e]; exact (k1.gx (w_Gr_see c2) (by simp [qF])).no (w_Gr_pairsWithout c3)
theorem h_T_ways (h : lr F G nn L E C N R) (hF : Cl k_T_ways [(2, 2), (0, a), (0, b)] F v F') : kp nn L E F F' := by
  obtain ⟨n, hF⟩ := c_T_ways hF
  have Q := q_T_ways_0 hF
  obtain ⟨s1, s2⟩ := h.kp.st h
  refine fo_if fo_lt Q (fun Q => ?_) (fun Q => ?_)
  · rw [Q.2]; exact h.kp
  refine fo_if fo_le Q (fun Q => ?_) (fun Q => ?_)
  · rw [Q.2]; exact h.kp
  refine fo_if fo_lt Q (fun Q => ?_) (fun Q => ?_)
  · rw [Q.2]; exact h.kp
  refine fo_if fo_le Q (fun Q => ?_) (fun Q => ?_)
  · rw [Q.2]; exact h.kp
  obtain ⟨F1, c1, n2, F2, c2, _, e⟩ := Q
  rw [e]; exact (h.kp.see h (Or.inl rfl) s1 s2 c1).gx (w_Ro_countWays c2) (by simp [qF])
theorem h_T_through (h : lr F G nn L E C N R) (hF : Cl k_T_through [(2, 2), (0, a), (0, b), (0, c)] F v F') : kp nn L E F F' := by
  obtain ⟨n, hF⟩ := c_T_through hF
  have Q := q_T_through_0 hF
  obtain ⟨s1, s2⟩ := h.kp.st h
  refine fo_if fo_lt Q (fun Q => ?_) (fun Q => ?_)
  · rw [Q.2]; exact h.kp
  refine fo_if fo_le Q (fun Q => ?_) (fun Q => ?_)
  · rw [Q.2]; exact h.kp
  refine fo_if fo_lt Q (fun Q => ?_) (fun Q => ?_)
  · rw [Q.2]; exact h.kp
  refine fo_if fo_le Q (fun Q => ?_) (fun Q => ?_)
  · rw [Q.2]; exact h.kp
  refine fo_if fo_lt Q (fun Q => ?_) (fun Q => ?_)
  · rw [Q.2]; exact h.kp
  refine fo_if fo_le Q (fun Q => ?_) (fun Q => ?_)
  · rw [Q.2]; exact h.kp
  obtain ⟨F1, c1, n2, F2, c2, _, e⟩ := Q
  rw [e]; exact (h.kp.see h (Or.inl rfl) s1 s2 c1).gx (w_Ro_countThrough c2) (by simp [qF])
theorem h_T_apart (h : lr F G nn L E C N R) (hF : Cl k_T_apart [(2, 2), (0, a), (0, b)] F v F') : kp nn L E F F' := h.kp.gx (w_T_apart hF) (by simp [qF])
theorem h_T_pivots (h : lr F G nn L E C N R) (hF : Cl k_T_pivots [(2, 2)] F v F') : kp nn L E F F' := h.kp.gx (w_T_pivots hF) (by simp [qF])
/-- the trial is now's copy, and seen -/
theorem kp.trial (h0 : lr F0 G nn L E C N R) (h : kp nn L E F0 F1) (hc : Cl k_St_copyFrom [(2, 153), (2, F1 2 13)] F1 v F2) : kp nn L E F0 F2 ∧ F2 153 1 < 2147483648 ∧ F2 153 2 < 2147483648 := by
  have hS : S0 (F0 2 13) := h0.2.2.2.1.1.1.1
  obtain ⟨e1, e2⟩ := h.now h0
  obtain ⟨s1, s2⟩ := h.st h0
  obtain ⟨-, -, a3, -⟩ := s_copy (fun t t' ht ht' => by rw [e1]; unfold S0 at hS; omega) hc
  refine ⟨h.gx (w_St_copyFrom hc) (by simp [qF]), ?_, ?_⟩
  · rw [a3 1 (by decide)]; exact s1
  · rw [a3 2 (by decide)]; exact s2
theorem kp.empty (h0 : lr F0 G nn L E C N R) (h : kp nn L E F0 F1) (h1 : F1 153 1 < 2147483648) (h2 : F1 153 2 < 2147483648) (hc : Cl k_T_runEmpty [(2, 2)] F1 v F2) : kp nn L E F0 F2 := by
  obtain ⟨n, hc⟩ := c_T_runEmpty hc
  obtain ⟨F3, c1, m, hm, hR⟩ := q_T_runEmpty_0 hc
  have lp : ∀ (n : Nat) (F1 : fx_F) (l1 : Nat), Rn n k_T_runEmpty 30 [(2, 2), (0, l1), (3, 0)] [] F1 v F2 → kp nn L E F0 F1 → kp nn L E F0 F2 := by
    intro n
    induction n using Nat.strongRecOn with
    | ind n ih =>
      intro F1 l1 hR k
      have Q := q_T_runEmpty_30 hR
      refine fo_if fo_le Q (fun Q => ?_) (fun Q => ?_)
      · rw [Q.2]; exact k
      obtain ⟨n1, F4, c1, Q⟩ := Q
      have k1 := k.no (w_St_countPackets c1)
      refine fo_if fo_ne Q (fun Q => ?_) (fun Q => ?_)
      · obtain ⟨F5, c2, Q⟩ := Q
        have k2 := k1.gx (w_Tr_goStep c2) (by simp [qF])
        refine fo_if fo_ne Q (fun Q => ?_) (fun Q => ?_)
        · obtain ⟨m, hm, hR⟩ := Q
          exact ih m hm _ _ hR k2
        · rw [Q.2]; exact k2
      · rw [Q.2]; exact k1
  refine lp m _ _ hR ?_
  exact (h.tab h0 (Or.inl rfl) h1 h2 c1).gx (S := [50]) ((gxo.rf.wr List.mem_cons_self).wr List.mem_cons_self) (by simp [qF])
theorem h_T_drains (h : lr F G nn L E C N R) (hF : Cl k_T_drains [(2, 2)] F v F') : kp nn L E F F' := by
  obtain ⟨n, hF⟩ := c_T_drains hF
  obtain ⟨F1, c1, n2, F2, c2, n3, F3, c3, Q⟩ := q_T_drains_0 hF
  obtain ⟨k1, e1, e2⟩ := h.kp.trial h c1
  have k3 := (k1.empty h e1 e2 c2).no (w_St_countPackets c3)
  refine fo_if fo_ne Q (fun Q => ?_) (fun Q => ?_)
  · rw [Q.2]; exact k3
  · rw [Q.2]; exact k3
theorem h_T_stuck (h : lr F G nn L E C N R) (hF : Cl k_T_stuck [(2, 2)] F v F') : kp nn L E F F' := by
  obtain ⟨n, hF⟩ := c_T_stuck hF
  obtain ⟨F1, c1, n2, F2, c2, m, hm, hR⟩ := q_T_stuck_0 hF
  obtain ⟨k1, e1, e2⟩ := h.kp.trial h c1
  have k2 := k1.empty h e1 e2 c2
  have lp : ∀ (n : Nat) (l1 l2 : Nat), Rn n k_T_stuck 20 [(2, 2), (0, l1), (0, l2)] [] F2 v F' → kp nn L E F F' := by
    intro n
    induction n using Nat.strongRecOn with
    | ind n ih =>
      intro l1 l2 hR
      have Q := q_T_stuck_20 hR
      refine fo_if fo_le Q (fun Q => ?_) (fun Q => ?_)
      · rw [Q.2]; exact k2
      refine fo_if fo_lt Q (fun Q => ?_) (fun Q => ?_)
      · obtain ⟨m, hm, hR⟩ := Q
        exact ih m hm _ _ hR
      refine fo_if fo_le Q (fun Q => ?_) (fun Q => ?_)
      · obtain ⟨m, hm, hR⟩ := Q
        exact ih m hm _ _ hR
      refine fo_if fo_eq Q (fun Q => ?_) (fun Q => ?_)
      · obtain ⟨m, hm, hR⟩ := Q
        exact ih m hm _ _ hR
      · obtain ⟨m, hm, hR⟩ := Q
        exact ih m hm _ _ hR
  exact lp m _ _ hR
theorem h_T_game (h : lr F G nn L E C N R) (hF : Cl k_T_game [(2, 2), (0, a), (0, b), (0, c)] F v F') : kp nn L E F F' := by
  obtain ⟨n, hF⟩ := c_T_game hF
  have Q := q_T_game_0 hF
  refine fo_if fo_eq Q (fun Q => ?_) (fun Q => ?_)
  · rw [Q.2]; exact h.kp
  refine fo_if fo_lt Q (fun Q => ?_) (fun Q => ?_)
  · rw [Q.2]; exact h.kp
  refine fo_if fo_lt Q (fun Q => ?_) (fun Q => ?_)
  · rw [Q.2]; exact h.kp
  refine fo_if fo_lt Q (fun Q => ?_) (fun Q => ?_)
  · rw [Q.2]; exact h.kp
  refine fo_if fo_le Q (fun Q => ?_) (fun Q => ?_)
  · refine fo_if fo_lt Q (fun Q => ?_) (fun Q => ?_)
    · rw [Q.2]; exact h.kp
    refine fo_if fo_le Q (fun Q => ?_) (fun Q => ?_)
    · obtain ⟨F1, c1, F2, c2, n3, F3, c3, Q⟩ := Q
      obtain ⟨k1, e1, e2⟩ := h.kp.trial h c1
      have k2 := (k1.tab h (Or.inl rfl) e1 e2 c2).gx (S := [50]) ((gxo.rf.wr (i := 1) (v := 0) List.mem_cons_self).wr (i := 2) (v := 0) List.mem_cons_self) (by simp [qF])
      have k3 := k2.gx (w_Tr_play c3) (by simp [qF])
      have hz : (c < 0 ∨ 3 ≤ c) ∨ c = 0 ∨ c = 1 ∨ c = 2 := by clear Q; omega
      rcases hz with z | z | z | z
      · rw [(Q.1 z).2]; exact k3
      · rw [(Q.2.1 z).2]; exact k3
      · obtain ⟨n4, F4, c4, _, e⟩ := Q.2.2.1 z
        rw [e]; exact k3.no (w_St_countPackets c4)
      · rw [(Q.2.2.2.1 z).2]; exact k3
    · rw [Q.2]; exact h.kp
  · rw [Q.2]; exact h.kp
end KEEPC
