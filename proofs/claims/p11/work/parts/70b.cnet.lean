/-! The class's side of an accepted net -/
section CNET
variable {nn L R N ro rm un q : Nat} {E C : Nat → Nat} {v v2 : fx_V} {F F' F1 F2 G G' : fx_F}
theorem s_netCopy (hN : nt_ok nn L E) (d0 : F 12 0 = nn) (d1 : F 12 1 = L) (dE : ∀ c, c < 2 * L → F 13 c = E c ∧ F 14 c = E (nf c)) (h : Cl k_Net_copyFrom [(2, 3), (2, 12)] F v F') : v = (2, 0) ∧ fxo [3, 4, 5, 6, 7, 8, 9] F F' ∧ cn F' nn L E ∧ ocl F' nn L E ∧ F' 3 2 = F 12 2 ∧ F' 3 3 = F 12 3 ∧ F' 3 4 = F 12 4 ∧ F' 3 5 = F 12 5 ∧ ∀ i, F' 8 i = F 17 i ∧ F' 9 i = F 18 i := by
  obtain ⟨n, h⟩ := c_Net_copyFrom h
  obtain ⟨F1, c1, x1, x2⟩ := q_Net_copyFrom_0 h
  subst x2
  simp only [fu_p (show (12 : Nat) ≠ 3 by decide)] at c1
  obtain ⟨H, hH⟩ : ∃ H, H = fcp (fcp (fcp (fcp (fu (fu (fu (fu (fu (fu F 3 0 (F 12 0)) 3 1 (F 12 1)) 3 2 (F 12 2)) 3 3 (F 12 3)) 3 4 (F 12 4)) 3 5 (F 12 5)) (12 + 1) (3 + 1)) (12 + 2) (3 + 2)) (12 + 5) (3 + 5)) (12 + 6) (3 + 6) := ⟨_, rfl⟩
  rw [← hH] at c1
  have h3 : ∀ i, H 3 i = (fu (fu (fu (fu (fu (fu F 3 0 (F 12 0)) 3 1 (F 12 1)) 3 2 (F 12 2)) 3 3 (F 12 3)) 3 4 (F 12 4)) 3 5 (F 12 5)) 3 i := fun i => by
    rw [hH]; exact (fcp_o (by decide)).trans ((fcp_o (by decide)).trans ((fcp_o (by decide)).trans (fcp_o (by decide))))
  have h30 : H 3 0 = nn := by rw [h3, fu_i (by decide), fu_i (by decide), fu_i (by decide), fu_i (by decide), fu_i (by decide), fu_same]; exact d0
  have h31 : H 3 1 = L := by rw [h3, fu_i (by decide), fu_i (by decide), fu_i (by decide), fu_i (by decide), fu_same]; exact d1
  have h32 : H 3 2 = F 12 2 := by rw [h3, fu_i (by decide), fu_i (by decide), fu_i (by decide), fu_same]
  have h33 : H 3 3 = F 12 3 := by rw [h3, fu_i (by decide), fu_i (by decide), fu_same]
  have h34 : H 3 4 = F 12 4 := by rw [h3, fu_i (by decide), fu_same]
  have h35 : H 3 5 = F 12 5 := by rw [h3, fu_same]
  have u6 : ∀ p i, p ≠ 3 → (fu (fu (fu (fu (fu (fu F 3 0 (F 12 0)) 3 1 (F 12 1)) 3 2 (F 12 2)) 3 3 (F 12 3)) 3 4 (F 12 4)) 3 5 (F 12 5)) p i = F p i := fun p i hp => by
    rw [fu_p hp, fu_p hp, fu_p hp, fu_p hp, fu_p hp, fu_p hp]
  have h4 : ∀ i, H 4 i = F 13 i := fun i => by
    rw [hH]; exact (fcp_o (by decide)).trans ((fcp_o (by decide)).trans ((fcp_o (by decide)).trans (fcp_d.trans (u6 13 i (by decide)))))
  have h5 : ∀ i, H 5 i = F 14 i := fun i => by
    rw [hH]; exact (fcp_o (by decide)).trans ((fcp_o (by decide)).trans (fcp_d.trans ((fcp_o (by decide)).trans (u6 14 i (by decide)))))
  have h8 : ∀ i, H 8 i = F 17 i := fun i => by
    rw [hH]; exact (fcp_o (by decide)).trans (fcp_d.trans ((fcp_o (by decide)).trans ((fcp_o (by decide)).trans (u6 17 i (by decide)))))
  have h9 : ∀ i, H 9 i = F 18 i := fun i => by
    rw [hH]; exact fcp_d.trans ((fcp_o (by decide)).trans ((fcp_o (by decide)).trans ((fcp_o (by decide)).trans (u6 18 i (by decide)))))
  have ho : fxo [3, 4, 5, 6, 7, 8, 9] F H := fun p i hp => by
    rw [hH, fcp_o (fun z => hp (by simp; omega)), fcp_o (fun z => hp (by simp; omega)), fcp_o (fun z => hp (by simp; omega)), fcp_o (fun z => hp (by simp; omega)), u6 p i (fun z => hp (by simp; omega))]
  have hc : cn H nn L E := ⟨h30, h31, fun c hc => ⟨(h4 c).trans (dE c hc).1, (h5 c).trans (dE c hc).2⟩⟩
  obtain ⟨-, y1, y2⟩ := s_listCh hN hc c1
  refine ⟨x1, ho.tr (y1.mono (by simp)), hc.keep y1 (by decide) (by decide) (by decide), y2, ?_, ?_, ?_, ?_, fun i => ⟨?_, ?_⟩⟩
  · rw [y1 3 2 (by decide), h32]
  · rw [y1 3 3 (by decide), h33]
  · rw [y1 3 4 (by decide), h34]
  · rw [y1 3 5 (by decide), h35]
  · rw [y1 8 i (by decide), h8]
  · rw [y1 9 i (by decide), h9]
theorem s_stBegin {p a b c : Nat} (h : Cl k_St_begin [(2, p), (0, a), (0, b), (0, c)] F v F') : v = (2, 0) ∧ fxo [p, p + 1] F F' ∧ F' p 0 = a ∧ F' p 1 = b ∧ F' p 2 = c ∧ F' p 3 = 0 ∧ ∀ j, j < 12 → F' (p + 1) j = 4294967295 := by
  obtain ⟨n, h⟩ := c_St_begin h
  obtain ⟨m, hm, hR⟩ := q_St_begin_0 h
  have lp : ∀ (n : Nat) (F2 : fx_F) (l : Nat), Rn n k_St_begin 23 [(2, p), (3, 0), (3, 0), (3, 0), (0, l)] [] F2 v F' → l ≤ 12 → (∀ j, j < l → F2 (p + 1) j = 4294967295) → v = (2, 0) ∧ fxo [p + 1] F2 F' ∧ ∀ j, j < 12 → F' (p + 1) j = 4294967295 := by
    intro n
    induction n using Nat.strongRecOn with
    | ind n ih =>
      intro F2 l h hl hA
      have Q := q_St_begin_23 h
      rcases Nat.lt_or_ge l 12 with hlt | hge
      · obtain ⟨m, hm, hR⟩ := Q.2 (by rw [b_lt (by clear Q; omega) (by decide)]; exact hlt)
        clear Q
        rw [b_add (show l + 1 < 4294967296 by omega)] at hR
        obtain ⟨y1, y2, y3⟩ := ih m hm _ (l + 1) hR hlt (fun j hj => by
          by_cases e : j = l
          · subst e; exact fu_same
          · rw [fu_i e]; exact hA j (by omega))
        exact ⟨y1, (fxo.rf.wr List.mem_cons_self).tr y2, y3⟩
      · obtain ⟨x1, x2⟩ := Q.1 (by rw [b_le (by decide) (by clear Q; omega)]; exact hge)
        clear Q
        subst x2
        exact ⟨x1, fxo.rf, fun j hj => hA j (by omega)⟩
  obtain ⟨y1, y2, y3⟩ := lp m _ 0 hR (Nat.zero_le _) (fun j hj => absurd hj (Nat.not_lt_zero _))
  have hp : p ∉ [p + 1] := by simp
  refine ⟨y1, ((((fxo.rf.wr (by simp)).wr (by simp)).wr (by simp)).wr (by simp)).tr (y2.mono (by simp)), ?_, ?_, ?_, ?_, y3⟩
  · rw [y2 p 0 hp, fu_i (by decide), fu_i (by decide), fu_i (by decide), fu_same]
  · rw [y2 p 1 hp, fu_i (by decide), fu_i (by decide), fu_same]
  · rw [y2 p 2 hp, fu_i (by decide), fu_same]
  · rw [y2 p 3 hp, fu_same]
/-- from the text on: the new net is laid -/
theorem s_cnet (hN : nt_ok nn L E) (hC : cd_ok C N) (hC2 : N ≠ 0 → 0 < hgt C N) (hr : ro < nn ∨ nn = 0) (hr2 : ro < 10) (hS : S0 q) (hq : F 2 13 = q) (d0 : F 12 0 = nn) (d1 : F 12 1 = L) (d2 : F 12 2 = ro) (d5 : F 12 5 = N) (dE : ∀ c, c < 2 * L → F 13 c = E c ∧ F 14 c = E (nf c)) (dC : ∀ k, k < N → F 17 k = cop (C k) ∧ (C k < 1000 → F 18 k = C k))
    (h : ∃ n1, Cl k_Net_copyFrom [(2, 3), (2, 12)] F (2, 0) F2 ∧ Rn n1 k_T_net 59 [(2, 2), (3, 0), (0, 0)] [] (fu (fu (fu (fu (fu (fu F2 24 3 0) 24 4 0) 32 3 0) 32 4 0) 51 2 0) 51 3 0) v F') :
    v = (0, nn) ∧ (cn F' nn L E ∧ ocl F' nn L E ∧ cc F' C N) ∧ (F' 3 3 = F 12 3 ∧ F' 3 4 = F 12 4) ∧ (F' 24 3 = 0 ∧ F' 24 4 = 0 ∧ F' 32 3 = 0 ∧ F' 32 4 = 0) ∧ (F' 24 1 = F 24 1 ∧ F' 24 2 = F 24 2 ∧ F' 32 1 = F 32 1 ∧ F' 32 2 = F 32 2) ∧ (F' 51 1 = F 51 1 ∧ F' 51 2 = 0 ∧ F' 51 3 = 0) ∧ (F' 159 0 = 0 ∧ F' 159 1 = 0) ∧ (∃ up, nwb up L E (rk C N (fr L E (bts (2 ^ L - 1)) ro) (fun u => dgc E (bts (2 ^ L - 1)) u (2 * L))) ∧ F' q 0 = ro ∧ F' q 1 = up ∧ F' q 2 = 2 ^ L - 1 ∧ F' q 3 = 0 ∧ ∀ j, j < 12 → F' (q + 1) j = 4294967295) ∧ fxo [3, 4, 5, 6, 7, 8, 9, 20, 21, 22, 23, 24, 32, 51, 159, q, q + 1] F F' := by
  obtain ⟨n1, hcp, hR⟩ := h
  have hL := hN.2.1
  have hn := hN.1
  have hq1 : 53 ≤ q ∧ q ≤ 160 := by unfold S0 at hS; omega
  have hq2 : q + 1 ≠ 159 ∧ q ≠ 159 := by unfold S0 at hS; omega
  obtain ⟨-, y1, y2, y3, y4, y5, y6, y7, y8⟩ := s_netCopy hN d0 d1 dE hcp
  obtain ⟨H, hH⟩ : ∃ H, H = fu (fu (fu (fu (fu (fu F2 24 3 0) 24 4 0) 32 3 0) 32 4 0) 51 2 0) 51 3 0 := ⟨_, rfl⟩
  rw [← hH] at hR
  have hHo : fxo [24, 32, 51] F2 H := by
    rw [hH]; exact (((((fxo.rf.wr (by simp)).wr (by simp)).wr (by simp)).wr (by simp)).wr (by simp)).wr (by simp)
  have g1 : H 24 3 = 0 ∧ H 24 4 = 0 ∧ H 32 3 = 0 ∧ H 32 4 = 0 ∧ H 51 2 = 0 ∧ H 51 3 = 0 ∧ H 51 1 = F 51 1 ∧ H 24 1 = F 24 1 ∧ H 24 2 = F 24 2 ∧ H 32 1 = F 32 1 ∧ H 32 2 = F 32 2 := by
    rw [hH]
    refine ⟨?_, ?_, ?_, ?_, ?_, ?_, ?_, ?_, ?_, ?_, ?_⟩
    · rw [fu_p (by decide), fu_p (by decide), fu_p (by decide), fu_p (by decide), fu_i (by decide), fu_same]
    · rw [fu_p (by decide), fu_p (by decide), fu_p (by decide), fu_p (by decide), fu_same]
    · rw [fu_p (by decide), fu_p (by decide), fu_i (by decide), fu_same]
    · rw [fu_p (by decide), fu_p (by decide), fu_same]
    · rw [fu_i (by decide), fu_same]
    · rw [fu_same]
    · rw [fu_i (by decide), fu_i (by decide), fu_p (by decide), fu_p (by decide), fu_p (by decide), fu_p (by decide)]; exact y1 51 1 (by decide)
    · rw [fu_p (by decide), fu_p (by decide), fu_p (by decide), fu_p (by decide), fu_i (by decide), fu_i (by decide)]; exact y1 24 1 (by decide)
    · rw [fu_p (by decide), fu_p (by decide), fu_p (by decide), fu_p (by decide), fu_i (by decide), fu_i (by decide)]; exact y1 24 2 (by decide)
    · rw [fu_p (by decide), fu_p (by decide), fu_i (by decide), fu_i (by decide), fu_p (by decide), fu_p (by decide)]; exact y1 32 1 (by decide)
    · rw [fu_p (by decide), fu_p (by decide), fu_i (by decide), fu_i (by decide), fu_p (by decide), fu_p (by decide)]; exact y1 32 2 (by decide)
  have lp : ∀ (n : Nat) (F3 : fx_F) (l : Nat), Rn n k_T_net 59 [(2, 2), (3, 0), (0, l)] [] F3 v F' → l ≤ 2 → fxo [159] H F3 → (∀ j, j < l → F3 159 j = 0) → ∃ F4, fxo [159] H F4 ∧ (∀ j, j < 2 → F4 159 j = 0) ∧ ∃ F5, Cl k_Or_rate [(2, 19), (0, F4 3 2), (0, i_sub (i_shl 1 (F4 3 1)) 1)] F4 (2, 0) F5 ∧ ∃ (n2 : Nat) (F6 : fx_F), Cl k_Or_upEnds [(2, 19)] F5 (0, n2) F6 ∧ ∃ F7 : fx_F, Cl k_St_begin [(2, F5 2 13), (0, F5 3 2), (0, n2), (0, i_sub (i_shl 1 (F4 3 1)) 1)] F6 (2, 0) F7 ∧ v = (0, F7 3 0) ∧ F' = F7 := by
    intro n
    induction n using Nat.strongRecOn with
    | ind n ih =>
      intro F3 l h hl ho hA
      have Q := q_T_net_59 h
      rcases Nat.lt_or_ge l 2 with hlt | hge
      · obtain ⟨m, hm, hR⟩ := Q.2 (by rw [b_lt (by clear Q; omega) (by decide)]; exact hlt)
        clear Q
        rw [b_add (show l + 1 < 4294967296 by omega)] at hR
        exact ih m hm _ (l + 1) hR hlt (ho.wr (by decide)) (fun j hj => by
          by_cases e : j = l
          · subst e; exact fu_same
          · rw [fu_i e]; exact hA j (by omega))
      · have Q1 := Q.1 (by rw [b_le (by decide) (by clear Q; omega)]; exact hge)
        clear Q
        exact ⟨F3, ho, fun j hj => hA j (by omega), Q1⟩
  obtain ⟨F4, o4, a4, F5, c5, n2, F6, c6, F7, c7, x1, x2⟩ := lp n1 H 0 hR (Nat.zero_le _) fxo.rf (fun j hj => absurd hj (Nat.not_lt_zero _))
  subst x2
  have o24 : fxo [24, 32, 51, 159] F2 F4 := (hHo.mono (by simp)).tr (o4.mono (by simp))
  have cn4 := y2.keep o24 (by decide) (by decide) (by decide)
  have ocl4 := y3.keep o24 (by decide) (by decide)
  have cc4 : cc F4 C N := ⟨(o24 3 5 (by decide)).trans (y7.trans d5), fun k hk => by
    rw [o24 8 k (by decide), o24 9 k (by decide), (y8 k).1, (y8 k).2]; exact dC k hk⟩
  have e32 : F4 3 2 = ro := (o24 3 2 (by decide)).trans (y4.trans d2)
  have hpw : 1 ≤ 2 ^ L := Nat.one_le_two_pow
  have hp20 : 2 ^ L ≤ 1048576 := show 2 ^ L ≤ 2 ^ 20 from Nat.pow_le_pow_right (by decide) hL
  have es : i_sub (i_shl 1 (F4 3 1)) 1 = 2 ^ L - 1 := by
    rw [cn4.2.1, b_shl1 (show L < 32 by omega), b_sub hpw (by omega)]
  rw [e32, es] at c5
  rw [es] at c7
  obtain ⟨r1, r2⟩ := s_rate hN hC hC2 (show 2 ^ L - 1 < 2147483648 by omega) hr hr2 cn4 cc4 c5
  have cn5 := cn4.keep r1 (by decide) (by decide) (by decide)
  obtain ⟨up, b1, b2, b3, b4⟩ := s_upEnds hN cn5 (fun u hu => (r2 u hu).2.2) c6
  cases b1
  rw [b2] at c7
  have e5 : F5 2 13 = q := by
    rw [r1 2 13 (by decide), o24 2 13 (by decide), y1 2 13 (by decide)]; exact hq
  have e532 : F5 3 2 = ro := (r1 3 2 (by decide)).trans e32
  rw [e5, e532] at c7
  obtain ⟨-, z1, z2, z3, z4, z5, z6⟩ := s_stBegin c7
  have zF : ∀ p i, p ∉ [20, 21, 22, 23, q, q + 1] → F' p i = F4 p i := fun p i hp => (z1 p i (fun z => hp (by simp at z ⊢; omega))).trans (r1 p i (fun z => hp (by simp at z ⊢; omega)))
  have zL : ∀ p i, p ≤ 19 → F' p i = F4 p i := fun p i hp => zF p i (by simp; omega)
  have zM : ∀ p i, p = 24 ∨ p = 32 ∨ p = 51 → F' p i = H p i := fun p i hp => (zF p i (by simp; omega)).trans (o4 p i (by simp; omega))
  obtain ⟨w1, w2, w3, w4, w5, w6, w7, w8, w9, w10, w11⟩ := g1
  refine ⟨?_, ⟨cn4.eq (fun p i _ h2 => zL p i (by omega)), ocl4.eq (fun p i _ h2 => zL p i (by omega)), cc4.eq (fun p i _ h2 => zL p i (by omega))⟩, ⟨?_, ?_⟩, ⟨?_, ?_, ?_, ?_⟩, ⟨?_, ?_, ?_, ?_⟩, ⟨?_, ?_, ?_⟩, ⟨?_, ?_⟩, ⟨_, ⟨b3, b4⟩, z2, z3, z4, z5, z6⟩, fun p i hp => ?_⟩
  · rw [x1, zL 3 0 (by decide), cn4.1]
  · rw [zL 3 3 (by decide), o24 3 3 (by decide)]; exact y5
  · rw [zL 3 4 (by decide), o24 3 4 (by decide)]; exact y6
  · rw [zM 24 3 (by decide)]; exact w1
  · rw [zM 24 4 (by decide)]; exact w2
  · rw [zM 32 3 (by decide)]; exact w3
  · rw [zM 32 4 (by decide)]; exact w4
  · rw [zM 24 1 (by decide)]; exact w8
  · rw [zM 24 2 (by decide)]; exact w9
  · rw [zM 32 1 (by decide)]; exact w10
  · rw [zM 32 2 (by decide)]; exact w11
  · rw [zM 51 1 (by decide)]; exact w7
  · rw [zM 51 2 (by decide)]; exact w5
  · rw [zM 51 3 (by decide)]; exact w6
  · rw [zF 159 0 (by simp; omega)]; exact a4 0 (by decide)
  · rw [zF 159 1 (by simp; omega)]; exact a4 1 (by decide)
  · rw [zF p i (fun z => hp (by simp at z ⊢; omega)), o24 p i (fun z => hp (by simp at z ⊢; omega)), y1 p i (fun z => hp (by simp at z ⊢; omega))]
end CNET
