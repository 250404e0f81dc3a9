section AYN
variable {w : ax_W} {X : ax_X} {md : List (Nat × Nat)} {ρ : Nat → Nat} {hp hp0 : rx_H} {P : List rx_M} {K : rx_K} {AP : List ax_M} {l : Launch} {cy : Nat → ClassId} {D : va_G} {r : rx_M} {B : Nat} {Po : rx_O → Prop}
/-- a block whose ends are told -/
theorem ay_blk (hP : ∀ q ∈ P, rx_QW q ∧ rx_ST P K q) (hX : ax_XD w X) (hA : ax_Low w X P AP l cy D B) (hr : r ∈ P) (hB : rx_rf (rx_n r) ≤ B) {cd : List (List ax_I)} (htab : ax_tab r cd) {rl : List ax_RL} (hrl : ∀ x ∈ rl, ax_RO w X x) {sp : List Nat} {n n0 : Nat} {ps : List ax_T} {tg : List ax_G} {a : ax_A} {ρ0 : Nat → Nat} {σ : rx_S} (h : ax_blk w P K AP md (rx_n r) cd n0 ps rl sp n tg a = true) (hps : ∀ po ∈ ps, ∃ v, po.1 = [v])
    (hR : ax_R w X ρ a hp σ) (hH : ax_HR w md hp0 hp) (hn0 : n0 ≤ a.2.2.2.1) (hρ0 : ∀ k, k < n0 → ρ k = ρ0 k) (hPo : ∀ o, ax_PO w X md hp0 n0 ps ρ0 o → Po o) (htg : ∀ t ∈ tg, t.2.2.1 = 0 ∧ t.2.1 ≤ a.2.2.2.1 ∧ ax_TV w X md hp0 l cy D r Po ρ t) : ax_Wp l cy D r σ Po := by
  unfold ax_blk at h
  cases ht : ax_tp w P K AP md (ax_rn w P K AP md n) rl sp (rx_n r) cd n a with
  | none => rw [ht] at h; cases h
  | some lst =>
    rw [ht] at h
    refine ax_tp_ok hP hX hA hr hB htab (ax_rn_ok hP hX hA n) hrl n a lst ht ρ hp σ hR hH ?_
    intro x hx ρ' hp' q1 q2 q3
    have he := List.all_eq_true.mp h x hx
    unfold ax_end at he
    refine ⟨fun x0 σ' hR' => ?_, fun x1 o v hv hev hE' hT' ho => ?_⟩
    · rw [x0, show Nat.beq 0 0 = true from rfl, cond_true] at he
      obtain ⟨t, ht1, ht2⟩ := List.any_eq_true.mp he
      obtain ⟨b1, ht2⟩ := rx_and2.mp ht2
      obtain ⟨b2, ht2⟩ := rx_and2.mp ht2
      cases hm : ax_match w x.2.2.2.2 t.2.1 t.2.2.2.2 (ax_mask t.2.2.2.2.1 x.2.2.1) with
      | none => rw [hm] at ht2; cases ht2
      | some m =>
        obtain ⟨hwf, hft, hTV⟩ := htg t ht1
        obtain ⟨s1, s2, s3, s4⟩ := σ'
        obtain ⟨R1, R2', R3, R4, R5, R6⟩ := hR'
        have R2 := ax_mask_ev (ts := t.2.2.2.2.1) R2'
        obtain ⟨m1, m2, m3⟩ := ax_match_ok R5 R2 hm
        dsimp only at R1 R2 R3 R4 m1
        have hst : s3 = [] := by
          cases hz : x.2.2.2.1 with
          | nil => rw [hz] at R3; cases s3 with | nil => rfl | cons _ _ => cases R3
          | cons _ _ => rw [hz] at b2; cases b2
        subst hst
        subst R4
        refine ax_wp_forget (ax_mask_len t.2.2.2.2.1 s2) (ax_mask_get t.2.2.2.2.1 s2) ?_
        exact hTV (ax_rm t.2.1 m x.2.2.2.2.1 ρ') hp' _ (fun k hk => (ax_rm_lt hk).trans (q1 k (Nat.lt_of_lt_of_le hk hft))) ⟨R1.trans (rx_beq.mp b1), m1, rfl, rfl, m2, R6⟩ q3 (fun hn => absurd hwf hn)
    · rw [x1, show Nat.beq 1 0 = false from rfl, cond_false] at he
      obtain ⟨po, hpo, hz⟩ := List.any_eq_true.mp he
      cases hm : ax_match w x.2.2.2.2 n0 po x.2.2.2.1 with
      | none => rw [hm] at hz; cases hz
      | some m =>
        rw [hv] at hm
        obtain ⟨m1, m2, m3⟩ := ax_match_ok (xs := [o.1]) hE' (by show [ax_ev x.2.2.2.2.1 ρ' v] = [some o.1]; rw [hev]) hm
        obtain ⟨rv, hrv⟩ := hps po hpo
        rw [hrv] at m1
        have m1 := (List.cons.injEq _ _ _ _).mp m1
        refine hPo o ⟨po, hpo, ax_rm n0 m x.2.2.2.2.1 ρ', rv, fun k hk => (ax_rm_lt hk).trans ((q1 k (Nat.lt_of_lt_of_le hk hn0)).trans (hρ0 k hk)), hrv, m1.1, ?_, ?_, ?_, ?_⟩
        · rw [ho]; exact m2
        · rw [ho]; exact hT'
        · rw [ho]; exact q3
        · rw [ho]
theorem ay_HRw {w' : ax_W} {h1 h2 : rx_H} (hw : w'.1 = w.1) (h : ax_HR w md h1 h2) : ax_HR w' md h1 h2 := ⟨h.1, fun q g hq => h.2 q g (by rw [← hw]; exact hq)⟩
theorem ay_upd_hs {a i v k n : Nat} {f : List Nat} (h : rx_hg hp (a / 4 - 2) = some (k, n, f)) : ax_upd hp a i v = rx_hs hp (a / 4 - 2) (k, n, f.set (i / 4) v) := by
  unfold ax_upd
  rw [h] <;> rfl
theorem ay_HRu {a i v k n g0 : Nat} {f : List Nat} (h256 : hp.1 ≤ 256) (h : rx_hg hp (a / 4 - 2) = some (k, n, f)) (hg : w.1[a / 4 - 2]? = some g0) (hm : ax_mem md g0 (i / 4) = true) : ax_HR w md hp (ax_upd hp a i v) := by
  refine ⟨by rw [ay_upd_hs h]; rfl, fun q g hq k' n' l' hl => ?_⟩
  have hu := ax_hg_upd (i := i) (v := v) h256 h q
  by_cases e : q = a / 4 - 2
  · subst e
    rw [h] at hl
    cases hl
    rw [hg] at hq
    cases hq
    rw [if_pos rfl] at hu
    refine ⟨_, hu, fun j hj => ?_⟩
    rw [List.getElem?_set, if_neg (fun z => by rw [← z, hm] at hj; cases hj)]
  · rw [if_neg e] at hu
    exact ⟨l', hu.trans hl, fun _ _ => rfl⟩
end AYN
noncomputable def ay_nMD0 : List (Nat × Nat) := [(11, 9), (11, 11), (11, 12), (11, 13), (11, 14), (11, 15), (11, 16), (11, 17), (11, 18), (11, 19), (11, 20), (11, 21), (11, 23), (11, 24), (11, 25), (11, 27), (11, 28), (11, 56), (11, 57), (44, 999), (45, 1), (46, 1), (47, 1), (48, 1), (49, 1), (50, 1), (51, 999), (52, 999), (55, 999), (56, 999), (57, 999), (58, 999), (59, 999), (74, 999)]
noncomputable def ay_nP0 : List ax_T := [([17179869180], (0, [], [], [], [(0, [80]), (1, []), (2, []), (25, []), (26, [])]))]
noncomputable def ay_nQ0 : List ax_T := [([3], (1, [(0, 2147483648, 2147483658)], [], [], [(0, [80]), (1, []), (2, []), (25, []), (26, [])]))]
noncomputable def ay_nT0 : ax_G := (85, 0, 0, 0, [702, 4], (1, [(0, 2147483648, 2147483648)], [], [], [(1200, [702, 72, 3]), (50, []), (52, []), (0, [80]), (1, []), (2, [])]))
theorem ay_nk0 : ax_blk ax_wM0 rx_P (rx_DF, rx_FK) ax_APM0 ay_nMD0 (rx_n rxm_272) axm_272 0 ay_nP0 [axu0_nt50, axu0_nt52] [85] 3000 [ay_nT0] (0, ax_args (0, [], [], [], [(0, [80]), (1, []), (2, []), (25, []), (26, [])]) [702] (rx_mL (rx_n rxm_272)), [], (0, [], [], [], [(0, [80]), (1, []), (2, []), (25, []), (26, [])])) = true := by decide +kernel
theorem ay_nl0 : ax_blk ax_wM1 rx_P (rx_DF, rx_FK) ax_APM1 ay_nMD0 (rx_n rxm_272) axm_272 0 ay_nQ0 [] [] 3000 [] (90, [702, 4], [], (0, [], [], [], [(0, [80]), (1, []), (2, []), (25, []), (26, [])])) = true := by decide +kernel
theorem ay_net0 (hP : ∀ q ∈ rx_P, rx_QW q ∧ rx_ST rx_P (rx_DF, rx_FK) q) {l : Launch} {cy : Nat → ClassId} {D : va_G} (hA : ∀ B, ax_Low ax_wM0 (ax_XM 0) rx_P ax_APM0 l cy D B) (hA2 : ∀ B, ax_Low ax_wM1 (ax_XM 1) rx_P ax_APM1 l cy D B) (hr : rxm_272 ∈ rx_P) (htab : ax_tab rxm_272 axm_272) {ρ : Nat → Nat} {hp : rx_H} (hE : ax_EO ax_wM0 (ax_XM 0) ρ (0, [], [], [], [(0, [80]), (1, []), (2, []), (25, []), (26, [])]) hp) (hT : ax_HT ax_wM0 hp) : ax_Wp l cy D rxm_272 (0, rx_args [702] (rx_mL (rx_n rxm_272)), [], hp, [], 0, 0) (fun o => ax_PO ax_wM0 (ax_XM 0) ay_nMD0 hp 0 ay_nP0 ρ o ∨ ax_PO ax_wM1 (ax_XM 1) ay_nMD0 hp 0 ay_nQ0 ρ o) := by
  refine ay_blk hP ax_XM0_ok (hA _) hr (Nat.le_refl _) htab (ax_ro_cons axq0_nt50 (ax_ro_cons axq0_nt52 ax_ro_nil)) ay_nk0 (fun po h => ⟨_, by cases List.mem_singleton.mp h; rfl⟩) ⟨rfl, ax_args_ok hE (by show [ax_ev 0 ρ 702] = [some 702]; rw [ax_ev_c (by decide)]), rfl, rfl, hE, hT⟩ ax_HR.rf (Nat.le_refl _) (fun _ _ => rfl) (fun o h => Or.inl h) (fun t ht => ?_)
  cases List.mem_singleton.mp ht
  refine ⟨rfl, Nat.le_refl _, ?_⟩
  intro ρ1 h1 σ1 _ hR hH _
  obtain ⟨s1, s2, s3, s4⟩ := σ1
  obtain ⟨R1, R2, R3, R4, hE1, hT1⟩ := hR
  replace R1 : s1 = 85 := R1
  replace R2 : [ax_ev 1 ρ1 702, ax_ev 1 ρ1 4] = s2.map some := R2
  rw [ax_ev_c (by decide), ax_ev_c (by decide)] at R2
  have e2 : s2 = [702, 4] := by
    cases s2 with
    | nil => cases R2
    | cons a s2 => cases s2 with
      | nil => cases R2
      | cons a2 s2 => cases s2 with
        | nil => cases R2; rfl
        | cons _ _ => cases R2
  have e3 : s3 = [] := by cases s3 with | nil => rfl | cons _ _ => cases R3
  replace R4 : s4 = (h1, [], 0, 0) := R4
  subst R1 e2 e3 R4
  have x50 := (ax_XF_lt (by decide)).mp (ax_gx hE1 (50, []) (by decide))
  have x52 := (ax_XF_lt (by decide)).mp (ax_gx hE1 (52, []) (by decide))
  have x0 := (ax_XF_lt (by decide)).mp (ax_gx hE1 (0, [80]) (by decide))
  have x1 := (ax_XF_lt (by decide)).mp (ax_gx hE1 (1, []) (by decide))
  have x2 := (ax_XF_lt (by decide)).mp (ax_gx hE1 (2, []) (by decide))
  have f0 := ay_gfj hE1 702 72 3 173 18 (by decide) (by rw [ax_vl_c (by decide)]) (by rw [ax_vl_c (by decide)])
  replace f0 : ay_at h1 173 18 = some (ρ1 0) := f0
  obtain ⟨z, hz, z1, z2, z3⟩ := ax_gi hE1 0 2147483648 2147483648 (by decide) rfl
  obtain ⟨z4, z5⟩ := ax_bi_pos z1 z2
  rw [hz, show z = 0 by omega] at f0

noncomputable def ay_nMD1 : List (Nat × Nat) := [(11, 9), (11, 11), (11, 12), (11, 13), (11, 14), (11, 15), (11, 16), (11, 17), (11, 18), (11, 19), (11, 20), (11, 21), (11, 23), (11, 24), (11, 25), (11, 27), (11, 28), (11, 56), (11, 57), (44, 999), (45, 0), (46, 0), (47, 0), (48, 0), (49, 0), (50, 0), (51, 999), (52, 999), (55, 999), (56, 999), (57, 999), (58, 999), (59, 999), (74, 999)]
noncomputable def ay_nP1 : List ax_T := [([17179869180], (0, [], [], [], [(0, [80]), (1, []), (2, []), (25, []), (26, [])]))]
noncomputable def ay_nQ1 : List ax_T := [([3], (1, [(0, 2147483648, 2147483658)], [], [], [(0, [80]), (1, []), (2, []), (25, []), (26, [])]))]
noncomputable def ay_nT1 : ax_G := (85, 0, 0, 0, [702, 0], (1, [(0, 2147483648, 2147483648)], [], [], [(1200, [702, 72, 3]), (50, []), (52, []), (0, [80]), (1, []), (2, [])]))
theorem ay_nk1 : ax_blk ax_wM1 rx_P (rx_DF, rx_FK) ax_APM1 ay_nMD1 (rx_n rxm_272) axm_272 0 ay_nP1 [axu1_nt50, axu1_nt52] [85] 3000 [ay_nT1] (0, ax_args (0, [], [], [], [(0, [80]), (1, []), (2, []), (25, []), (26, [])]) [702] (rx_mL (rx_n rxm_272)), [], (0, [], [], [], [(0, [80]), (1, []), (2, []), (25, []), (26, [])])) = true := by decide +kernel
theorem ay_nl1 : ax_blk ax_wM0 rx_P (rx_DF, rx_FK) ax_APM0 ay_nMD1 (rx_n rxm_272) axm_272 0 ay_nQ1 [] [] 3000 [] (90, [702, 0], [], (0, [], [], [], [(0, [80]), (1, []), (2, []), (25, []), (26, [])])) = true := by decide +kernel
theorem ay_net1 (hP : ∀ q ∈ rx_P, rx_QW q ∧ rx_ST rx_P (rx_DF, rx_FK) q) {l : Launch} {cy : Nat → ClassId} {D : va_G} (hA : ∀ B, ax_Low ax_wM1 (ax_XM 1) rx_P ax_APM1 l cy D B) (hA2 : ∀ B, ax_Low ax_wM0 (ax_XM 0) rx_P ax_APM0 l cy D B) (hr : rxm_272 ∈ rx_P) (htab : ax_tab rxm_272 axm_272) {ρ : Nat → Nat} {hp : rx_H} (hE : ax_EO ax_wM1 (ax_XM 1) ρ (0, [], [], [], [(0, [80]), (1, []), (2, []), (25, []), (26, [])]) hp) (hT : ax_HT ax_wM1 hp) : ax_Wp l cy D rxm_272 (0, rx_args [702] (rx_mL (rx_n rxm_272)), [], hp, [], 0, 0) (fun o => ax_PO ax_wM1 (ax_XM 1) ay_nMD1 hp 0 ay_nP1 ρ o ∨ ax_PO ax_wM0 (ax_XM 0) ay_nMD1 hp 0 ay_nQ1 ρ o) := by
  refine ay_blk hP ax_XM1_ok (hA _) hr (Nat.le_refl _) htab (ax_ro_cons axq1_nt50 (ax_ro_cons axq1_nt52 ax_ro_nil)) ay_nk1 (fun po h => ⟨_, by cases List.mem_singleton.mp h; rfl⟩) ⟨rfl, ax_args_ok hE (by show [ax_ev 0 ρ 702] = [some 702]; rw [ax_ev_c (by decide)]), rfl, rfl, hE, hT⟩ ax_HR.rf (Nat.le_refl _) (fun _ _ => rfl) (fun o h => Or.inl h) (fun t ht => ?_)
  cases List.mem_singleton.mp ht
  refine ⟨rfl, Nat.le_refl _, ?_⟩
  intro ρ1 h1 σ1 _ hR hH _
  obtain ⟨s1, s2, s3, s4⟩ := σ1
  obtain ⟨R1, R2, R3, R4, hE1, hT1⟩ := hR
  replace R1 : s1 = 85 := R1
  replace R2 : [ax_ev 1 ρ1 702, ax_ev 1 ρ1 0] = s2.map some := R2
  rw [ax_ev_c (by decide), ax_ev_c (by decide)] at R2
  have e2 : s2 = [702, 0] := by
    cases s2 with
    | nil => cases R2
    | cons a s2 => cases s2 with
      | nil => cases R2
      | cons a2 s2 => cases s2 with
        | nil => cases R2; rfl
        | cons _ _ => cases R2
  have e3 : s3 = [] := by cases s3 with | nil => rfl | cons _ _ => cases R3
  replace R4 : s4 = (h1, [], 0, 0) := R4
  subst R1 e2 e3 R4
  have x50 := (ax_XF_lt (by decide)).mp (ax_gx hE1 (50, []) (by decide))
  have x52 := (ax_XF_lt (by decide)).mp (ax_gx hE1 (52, []) (by decide))
  have x0 := (ax_XF_lt (by decide)).mp (ax_gx hE1 (0, [80]) (by decide))
  have x1 := (ax_XF_lt (by decide)).mp (ax_gx hE1 (1, []) (by decide))
  have x2 := (ax_XF_lt (by decide)).mp (ax_gx hE1 (2, []) (by decide))
  have f0 := ay_gfj hE1 702 72 3 173 18 (by decide) (by rw [ax_vl_c (by decide)]) (by rw [ax_vl_c (by decide)])
  replace f0 : ay_at h1 173 18 = some (ρ1 0) := f0
  obtain ⟨z, hz, z1, z2, z3⟩ := ax_gi hE1 0 2147483648 2147483648 (by decide) rfl
  obtain ⟨z4, z5⟩ := ax_bi_pos z1 z2
  rw [hz, show z = 0 by omega] at f0
  sorry
