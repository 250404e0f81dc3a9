/-! The reference's side of an accepted net, and the relation that begins -/
section MNET
variable {nn L R N ro : Nat} {E C : Nat → Nat} {v v2 : fx_V} {F F' F1 F2 G G' G1 G2 : fx_F}
theorem s_startAnew (hN : nt_ok nn L E) (hC : cd_ok C N) (hC2 : N ≠ 0 → 0 < hgt C N) (hr : ro < nn ∨ nn = 0) (hr2 : ro < 10) (hm : mn G nn L E) (hc : mcc G C N) (h9 : G 179 (G 175 9) = ro) (h : Cl k_M_startAnew [(2, 175)] G v G') :
    v = (2, 0) ∧ gxo [176, 188, 189, 190, 191, 206] [56, 57] G G' ∧ (∀ l, l < 20 → G' 176 l = 1) ∧ G' 176 40 = ro ∧ (∀ l, l < L → G' 176 (20 + l) = uend E (rk C N (fr L E (bts (2 ^ L - 1)) ro) (fun u => dgc E (bts (2 ^ L - 1)) u (2 * L))) l) ∧ (∀ i, 41 ≤ i → i < 103 → G' 176 i = 0) ∧ G' 175 56 = 0 ∧ G' 175 57 = 0 ∧ G' 206 0 = 0 ∧ G' 206 1 = 0 := by
  obtain ⟨n, h⟩ := c_M_startAnew h
  obtain ⟨m, hm0, hR⟩ := q_M_startAnew_0 h
  have hL := hN.2.1
  -- the last loop
  have l116 : ∀ (n : Nat) (F2 : fx_F) (l : Nat), Rn n k_M_startAnew 116 [(2, 175), (0, l)] [] F2 v G' → l ≤ 2 → (∀ j, j < l → F2 206 j = 0) → v = (2, 0) ∧ gxo [206] [] F2 G' ∧ ∀ j, j < 2 → G' 206 j = 0 := by
    intro n
    induction n using Nat.strongRecOn with
    | ind n ih =>
      intro F2 l h hl hA
      have Q := q_M_startAnew_116 h
      rcases Nat.lt_or_ge l 2 with hlt | hge
      · obtain ⟨m, hm, hR⟩ := Q.2 (by rw [b_lt (by clear Q; omega) (by decide)]; exact hlt)
        clear Q
        rw [b_add (show l + 1 < 4294967296 by omega)] at hR
        obtain ⟨y1, y2, y3⟩ := ih m hm _ (l + 1) hR hlt (fun j hj => by
          by_cases e : j = l
          · subst e; exact fu_same
          · rw [fu_i e]; exact hA j (by omega))
        exact ⟨y1, (gxo.rf.wr List.mem_cons_self).tr y2, y3⟩
      · obtain ⟨x1, x2⟩ := Q.1 (by rw [b_le (by decide) (by clear Q; omega)]; exact hge)
        clear Q
        subst x2
        exact ⟨x1, gxo.rf, fun j hj => hA j (by omega)⟩
  have l75 : ∀ (n : Nat) (F2 : fx_F) (l : Nat), Rn n k_M_startAnew 75 [(2, 175), (0, l)] [] F2 v G' → F2 178 (F2 175 9) = L → l ≤ L → (∀ j, j < l → F2 176 (20 + j) = F2 190 j) → v = (2, 0) ∧ gxo [176, 206] [56, 57] F2 G' ∧ (∀ j, j < L → G' 176 (20 + j) = F2 190 j) ∧ (∀ i, (i < 20 ∨ 40 ≤ i) → G' 176 i = F2 176 i) ∧ G' 175 56 = 0 ∧ G' 175 57 = 0 ∧ ∀ j, j < 2 → G' 206 j = 0 := by
    intro n
    induction n using Nat.strongRecOn with
    | ind n ih =>
      intro F2 l h hLL hl hA
      have Q := q_M_startAnew_75 h
      rw [hLL] at Q
      rcases Nat.lt_or_ge l L with hlt | hge
      · obtain ⟨m, hm, hR⟩ := Q.2 (by rw [b_lt (by clear Q; omega) (by clear Q; omega)]; exact hlt)
        clear Q
        rw [b_add (show l + 1 < 4294967296 by omega), b_add (show 20 + l < 4294967296 by omega)] at hR
        obtain ⟨y1, y2, y3, y4, y5, y6, y7⟩ := ih m hm _ (l + 1) hR (by rw [fu_p (by decide), fu_p (by decide)]; exact hLL) hlt (fun j hj => by
          by_cases e : j = l
          · subst e; rw [fu_same, fu_p (by decide)]
          · rw [fu_i (by omega), fu_p (by decide)]; exact hA j (by omega))
        refine ⟨y1, (gxo.rf.wr (by simp)).tr y2, fun j hj => ?_, fun i hi => ?_, y5, y6, y7⟩
        · rw [y3 j hj, fu_p (by decide)]
        · rw [y4 i hi, fu_i (by omega)]
      · have e : l = L := by clear Q; omega
        subst e
        obtain ⟨m, hm, hR⟩ := Q.1 (by rw [b_le (by clear Q; omega) (by clear Q; omega)]; exact Nat.le_refl _)
        clear Q
        obtain ⟨y1, y2, y3⟩ := l116 m _ 0 hR (Nat.zero_le _) (fun j hj => absurd hj (Nat.not_lt_zero _))
        have z : ∀ p i, p ≠ 206 → G' p i = fu (fu F2 175 56 0) 175 57 0 p i := fun p i hp => y2 p i (by simpa using hp) (fun _ z => by cases z)
        refine ⟨y1, ((gxo.rf.wrf (by simp)).wrf (by simp)).tr (y2.mono (by simp) (by simp)), fun j hj => ?_, fun i hi => ?_, ?_, ?_, y3⟩
        · rw [z 176 _ (by decide), fu_p (by decide), fu_p (by decide)]; exact hA j hj
        · rw [z 176 _ (by decide), fu_p (by decide), fu_p (by decide)]
        · rw [z 175 _ (by decide), fu_i (by decide), fu_same]
        · rw [z 175 _ (by decide), fu_same]
  have l23 : ∀ (n : Nat) (F2 : fx_F) (l : Nat), Rn n k_M_startAnew 23 [(2, 175), (0, l)] [] F2 v G' → l ≤ 20 → gxo [176] [] G F2 → (∀ j, j < l → F2 176 j = 1) → (∀ j, l ≤ j → j < 103 → F2 176 j = 0) → ∃ F3 F4 m, gxo [176] [] G F3 ∧ (∀ j, j < 20 → F3 176 j = 1) ∧ (∀ j, 20 ≤ j → j < 103 → F3 176 j = 0) ∧ Cl k_M_orientBy [(2, 175), (0, ro)] (fu F3 176 40 ro) (2, 0) F4 ∧ Rn m k_M_startAnew 75 [(2, 175), (0, 0)] [] F4 v G' := by
    intro n
    induction n using Nat.strongRecOn with
    | ind n ih =>
      intro F2 l h hl ho hA hB
      have Q := q_M_startAnew_23 h
      have e9 : F2 175 9 = G 175 9 := ho 175 9 (by decide) (fun _ z => by cases z)
      have e179 : F2 179 (F2 175 9) = ro := by rw [e9, ho 179 _ (by decide) (fun _ z => by cases z)]; exact h9
      rw [e179] at Q
      rcases Nat.lt_or_ge l 20 with hlt | hge
      · obtain ⟨m, hm, hR⟩ := Q.2 (by rw [b_lt (by clear Q; omega) (by decide)]; exact hlt)
        clear Q
        rw [b_add (show l + 1 < 4294967296 by omega), b_add (show 0 + l < 4294967296 by omega), Nat.zero_add] at hR
        refine ih m hm _ (l + 1) hR hlt (ho.wr (by decide)) (fun j hj => ?_) (fun j h1 h2 => ?_)
        · by_cases e : j = l
          · subst e; exact fu_same
          · rw [fu_i e]; exact hA j (by omega)
        · rw [fu_i (by omega)]; exact hB j (by omega) h2
      · have e : l = 20 := by clear Q; omega
        subst e
        obtain ⟨F4, c1, m, hm, hR⟩ := Q.1 (by rw [b_le (by decide) (by decide)]; exact Nat.le_refl _)
        exact ⟨F2, F4, m, ho, hA, hB, c1, hR⟩
  have l2 : ∀ (n : Nat) (F2 : fx_F) (l : Nat), Rn n k_M_startAnew 2 [(2, 175), (0, l)] [] F2 v G' → l ≤ 103 → gxo [176] [] G F2 → (∀ j, j < l → F2 176 j = 0) → ∃ F3 F4 m, gxo [176] [] G F3 ∧ (∀ j, j < 20 → F3 176 j = 1) ∧ (∀ j, 20 ≤ j → j < 103 → F3 176 j = 0) ∧ Cl k_M_orientBy [(2, 175), (0, ro)] (fu F3 176 40 ro) (2, 0) F4 ∧ Rn m k_M_startAnew 75 [(2, 175), (0, 0)] [] F4 v G' := by
    intro n
    induction n using Nat.strongRecOn with
    | ind n ih =>
      intro F2 l h hl ho hA
      have Q := q_M_startAnew_2 h
      rcases Nat.lt_or_ge l 103 with hlt | hge
      · obtain ⟨m, hm, hR⟩ := Q.2 (by rw [b_lt (by clear Q; omega) (by decide)]; exact hlt)
        clear Q
        rw [b_add (show l + 1 < 4294967296 by omega)] at hR
        exact ih m hm _ (l + 1) hR hlt (ho.wr (by decide)) (fun j hj => by
          by_cases e : j = l
          · subst e; exact fu_same
          · rw [fu_i e]; exact hA j (by omega))
      · obtain ⟨m, hm, hR⟩ := Q.1 (by rw [b_le (by decide) (by clear Q; omega)]; exact hge)
        clear Q
        exact l23 m F2 0 hR (Nat.zero_le _) ho (fun j hj => absurd hj (Nat.not_lt_zero _)) (fun j _ hj => hA j (by omega))
  obtain ⟨F3, F4, m4, o3, a3, b3, c4, hR4⟩ := l2 m G 0 hR (Nat.zero_le _) gxo.rf (fun j hj => absurd hj (Nat.not_lt_zero _))
  have o3' : fxo [176] G (fu F3 176 40 ro) := o3.fx.wr (by decide)
  have hm3 : mn (fu F3 176 40 ro) nn L E := hm.keep o3' (by decide) (by decide) (by decide) (by decide)
  have hc3 : mcc (fu F3 176 40 ro) C N := hc.keep o3' (by decide) (by decide) (by decide)
  have hst : ∀ l, l < L → bts (2 ^ L - 1) l = mst (fu F3 176 40 ro) l := fun l hl => by
    unfold mst
    rw [fu_i (by omega), a3 l (by omega)]
    show (2 ^ L - 1).testBit l = Nat.beq 1 1
    rw [Nat.testBit_two_pow_sub_one]
    exact decide_eq_true hl
  obtain ⟨p1, p2, -⟩ := s_orientBy hN hC hC2 hr hr2 hm3 hc3 hst c4
  have hm4 := hm3.keep p1 (by decide) (by decide) (by decide) (by decide)
  obtain ⟨y1, y2, y3, y4, y5, y6, y7⟩ := l75 m4 F4 0 hR4 hm4.2.2.1 (Nat.zero_le _) (fun j hj => absurd hj (Nat.not_lt_zero _))
  have z4 : ∀ i, F4 176 i = fu F3 176 40 ro 176 i := fun i => p1 176 i (by decide)
  refine ⟨y1, ?_, fun l hl => ?_, ?_, fun l hl => ?_, fun i h1 h2 => ?_, y5, y6, y7 0 (by decide), y7 1 (by decide)⟩
  · have g3 : gxo [176] [] G (fu F3 176 40 ro) := gxo.wr o3 (by simp)
    have g4 : gxo [176, 188, 189, 190, 191, 206] [56, 57] (fu F3 176 40 ro) F4 := fun p i hp _ => p1 p i (fun z => hp (by simp at z ⊢; omega))
    exact (g3.mono (by simp) (by simp)).tr (g4.tr (y2.mono (by simp) (by simp)))
  · rw [y4 l (Or.inl hl), z4, fu_i (by omega)]; exact a3 l hl
  · rw [y4 40 (Or.inr (by decide)), z4, fu_same]
  · rw [y3 l hl]; exact p2 l hl
  · rw [y4 i (Or.inr (by omega)), z4, fu_i (by omega)]; exact b3 i (by omega) h2
/-- the relation begins -/
theorem lr_new (hN : nt_ok nn L E) (hC : cd_ok C N) (hC2 : N ≠ 0 → 0 < hgt C N) (hR : R < 2147483648) (hr : ro < nn ∨ nn = 0) (hr2 : ro < 10)
    (c1 : cn F nn L E ∧ ocl F nn L E ∧ cc F C N ∧ F 3 3 = R) (m1 : mn G nn L E ∧ mcc G C N ∧ G 180 (G 175 9) = R)
    (s1 : S0 (F 2 13) ∧ (∀ i, i < 20 → S0 (F 52 i) ∧ F 52 i ≠ F 2 13) ∧ ∀ i j, i < 20 → j < 20 → F 52 i = F 52 j → i = j) (s2 : F 51 1 < 20 ∧ F 51 2 = 0 ∧ F 51 3 = 0 ∧ G 175 56 = 0 ∧ G 175 57 = 0) (s3 : F 158 0 = 165 ∧ F 158 1 = 170) (s4 : F 159 0 = 0 ∧ F 159 1 = 0 ∧ G 206 0 = 0 ∧ G 206 1 = 0)
    (r1 : F 24 3 = 0 ∧ F 24 4 = 0 ∧ F 32 3 = 0 ∧ F 32 4 = 0) (r2 : F 24 1 < 2147483648 ∧ F 24 2 < 2147483648 ∧ F 32 1 < 2147483648 ∧ F 32 2 < 2147483648)
    (n1 : ∃ up, nwb up L E (rk C N (fr L E (bts (2 ^ L - 1)) ro) (fun u => dgc E (bts (2 ^ L - 1)) u (2 * L))) ∧ F (F 2 13) 0 = ro ∧ F (F 2 13) 1 = up ∧ F (F 2 13) 2 = 2 ^ L - 1 ∧ F (F 2 13) 3 = 0 ∧ ∀ j, j < 12 → F (F 2 13 + 1) j = 4294967295)
    (n2 : (∀ l, l < 20 → G 176 l = 1) ∧ G 176 40 = ro ∧ (∀ l, l < L → G 176 (20 + l) = uend E (rk C N (fr L E (bts (2 ^ L - 1)) ro) (fun u => dgc E (bts (2 ^ L - 1)) u (2 * L))) l) ∧ ∀ i, 41 ≤ i → i < 103 → G 176 i = 0) : lr F G nn L E C N R := by
  obtain ⟨up, u1, u2, u3, u4, u5, u6⟩ := n1
  obtain ⟨w1, w2, w3, w4⟩ := n2
  have hL := hN.2.1
  have hpw : 1 ≤ 2 ^ L := Nat.one_le_two_pow
  refine ⟨⟨hN, hC, hC2, hR⟩, c1, m1, ⟨⟨s1, ⟨s2.1, by rw [s2.2.1, s2.2.2.1]; decide, s2.2.2.2.1.trans s2.2.1.symm, s2.2.2.2.2.trans s2.2.2.1.symm⟩, fun i hi => ?_, s3, fun b hb => ?_⟩, ?_⟩, ⟨⟨r2.1, r2.2.1, fun z => absurd r1.1 z⟩, fun z => absurd r1.2.1 z⟩, ⟨⟨r2.2.2.1, r2.2.2.2, fun z => absurd r1.2.2.1 z⟩, fun z => absurd r1.2.2.2 z⟩⟩
  · rw [s2.2.1, s2.2.2.1] at hi; exact absurd hi (Nat.not_lt_zero _)
  · have : b = 0 ∨ b = 1 := by omega
    rcases this with e | e
    · subst e; exact ⟨by rw [s4.1, s4.2.2.1], fun z => absurd s4.2.2.1 z⟩
    · subst e; exact ⟨by rw [s4.2.1, s4.2.2.2], fun z => absurd s4.2.2.2 z⟩
  · refine ⟨⟨by rw [u2, w2], by rw [w2]; exact hr2, by rw [w2]; exact hr⟩, ⟨by rw [u3]; exact u1.1, fun l hl => ?_⟩, ⟨by rw [u4]; omega, fun l hl => ?_⟩, ?_, fun j hj => Or.inl ⟨u6 j hj, w4 _ (by omega) (by omega)⟩⟩
    · rw [w3 l hl, u3]; exact nwb_ue u1 hl
    · rw [w1 l (by omega), u4, Nat.testBit_two_pow_sub_one, if_pos (decide_eq_true hl)]
    · rw [u5, w4 101 (by decide) (by decide)]
end MNET
