section
section AYN
variable {w : ax_W} {X : ax_X} {md : List (Nat × Nat)} {ρ : Nat → Nat} {hp hp0 : rx_H} {P : List rx_M} {K : rx_K} {AP : List ax_M} {r : rx_M} {B : Nat} {Po : rx_O → Prop}
/-- a block whose ends are told -/
theorem ay_blk (hP : ∀ q ∈ P, rx_QW q ∧ rx_ST P K q) (hX : ax_XD w X) (hA : ax_Low w X P AP P K B) (hr : r ∈ P) (hB : rx_rf (rx_n r) ≤ B) {cd : List (List ax_I)} (htab : ax_tab r cd) {rl : List ax_RL} (hrl : ∀ x ∈ rl, ax_RO w X x) {sp : List Nat} {n n0 : Nat} {ps : List ax_T} {tg : List ax_G} {a : ax_A} {ρ0 : Nat → Nat} {σ : rx_S} (h : ax_blk w P K AP md (rx_n r) cd n0 ps rl sp n tg a = true) (hps : ∀ po ∈ ps, ∃ v, po.1 = [v])
    (hR : ax_R w X ρ a hp σ) (hH : ax_HR w md hp0 hp) (hn0 : n0 ≤ a.2.2.2.1) (hρ0 : ∀ k, k < n0 → ρ k = ρ0 k) (hPo : ∀ o, ax_PO w X md hp0 n0 ps ρ0 o → Po o) (htg : ∀ t ∈ tg, t.2.2.1 = 0 ∧ t.2.1 ≤ a.2.2.2.1 ∧ ax_TV w X md hp0 P K r Po ρ t) : ax_Wp P K r σ Po := by
  unfold ax_blk at h
  cases ht : ax_tp w P K AP md (ax_rn w P K AP md n) rl sp (rx_n r) cd n a with
  | none => rw [ht] at h; cases h
  | some lst =>
    rw [ht] at h
    refine ax_tp_ok hP hX hA hr hB htab (ax_rn_ok hP hX hA n) hrl n a lst ht ρ hp σ hR hH ?_
    intro x hx ρ' hp' q1 q2 q3
    have he := List.all_eq_true.mp h x hx
    unfold ax_end at he
    refine ⟨fun x0 σ' hR' => ?_, fun x1 o v hv hev hE' hT' ho => ?_⟩
    · rw [x0, show Nat.beq 0 0 = true from rfl, cond_true] at he
      obtain ⟨t, ht1, ht2⟩ := List.any_eq_true.mp he
      obtain ⟨b1, ht2⟩ := rx_and2.mp ht2
      obtain ⟨b2, ht2⟩ := rx_and2.mp ht2
      cases hm : ax_match w x.2.2.2.2 t.2.1 t.2.2.2.2 (ax_mask t.2.2.2.2.1 x.2.2.1) with
      | none => rw [hm] at ht2; cases ht2
      | some m =>
        obtain ⟨hwf, hft, hTV⟩ := htg t ht1
        obtain ⟨s1, s2, s3, s4⟩ := σ'
        obtain ⟨R1, R2', R3, R4, R5, R6⟩ := hR'
        have R2 := ax_mask_ev (ts := t.2.2.2.2.1) R2'
        obtain ⟨m1, m2, m3⟩ := ax_match_ok R5 R2 hm
        dsimp only at R1 R2 R3 R4 m1
        have hst : s3 = [] := by
          cases hz : x.2.2.2.1 with
          | nil => rw [hz] at R3; cases s3 with | nil => rfl | cons _ _ => cases R3
          | cons _ _ => rw [hz] at b2; cases b2
        subst hst
        subst R4
        refine ax_wp_forget hP hr (ax_mask_len t.2.2.2.2.1 s2) (ax_mask_get t.2.2.2.2.1 s2) ?_
        exact hTV (ax_rm t.2.1 m x.2.2.2.2.1 ρ') hp' _ (fun k hk => (ax_rm_lt hk).trans (q1 k (Nat.lt_of_lt_of_le hk hft))) ⟨R1.trans (rx_beq.mp b1), m1, rfl, rfl, m2, R6⟩ q3 (fun hn => absurd hwf hn)
    · rw [x1, show Nat.beq 1 0 = false from rfl, cond_false] at he
      obtain ⟨po, hpo, hz⟩ := List.any_eq_true.mp he
      cases hm : ax_match w x.2.2.2.2 n0 po x.2.2.2.1 with
      | none => rw [hm] at hz; cases hz
      | some m =>
        rw [hv] at hm
        obtain ⟨m1, m2, m3⟩ := ax_match_ok (xs := [o.1]) hE' (by show [ax_ev x.2.2.2.2.1 ρ' v] = [some o.1]; rw [hev]) hm
        obtain ⟨rv, hrv⟩ := hps po hpo
        rw [hrv] at m1
        have m1 := (List.cons.injEq _ _ _ _).mp m1
        refine hPo o ⟨po, hpo, ax_rm n0 m x.2.2.2.2.1 ρ', rv, fun k hk => (ax_rm_lt hk).trans ((q1 k (Nat.lt_of_lt_of_le hk hn0)).trans (hρ0 k hk)), hrv, m1.1, ?_, ?_, ?_, ?_⟩
        · rw [ho]; exact m2
        · rw [ho]; exact hT'
        · rw [ho]; exact q3
        · rw [ho]
theorem ay_HRw {w' : ax_W} {h1 h2 : rx_H} (hw : w'.1 = w.1) (h : ax_HR w md h1 h2) : ax_HR w' md h1 h2 := ⟨h.1, fun q g hq => h.2 q g (by rw [← hw]; exact hq)⟩
theorem ay_upd_hs {a i v k n : Nat} {f : List Nat} (h : rx_hg hp (a / 4 - 2) = some (k, n, f)) : ax_upd hp a i v = rx_hs hp (a / 4 - 2) (k, n, f.set (i / 4) v) := by
  unfold ax_upd
  rw [h] <;> rfl
theorem ay_HRu {a i v k n g0 : Nat} {f : List Nat} (h256 : hp.1 ≤ 256) (h : rx_hg hp (a / 4 - 2) = some (k, n, f)) (hg : w.1[a / 4 - 2]? = some g0) (hm : ax_mem md g0 (i / 4) = true) : ax_HR w md hp (ax_upd hp a i v) := by
  refine ⟨by rw [ay_upd_hs h]; rfl, fun q g hq k' n' l' hl => ?_⟩
  have hu := ax_hg_upd (i := i) (v := v) h256 h q
  by_cases e : q = a / 4 - 2
  · subst e
    rw [h] at hl
    cases hl
    rw [hg] at hq
    cases hq
    rw [if_pos rfl] at hu
    refine ⟨_, hu, fun j hj => ?_⟩
    rw [List.getElem?_set, if_neg (fun z => by rw [← z, hm] at hj; cases hj)]
  · rw [if_neg e] at hu
    exact ⟨l', hu.trans hl, fun _ _ => rfl⟩
theorem ay_mem_sub {md md2 : List (Nat × Nat)} (h : ∀ x ∈ md2, x ∈ md) : ∀ g i, ax_mem md g i = false → ax_mem md2 g i = false := by
  intro g i hf
  refine Bool.eq_false_iff.mpr (fun z => ?_)
  obtain ⟨x, hx, hz⟩ := List.any_eq_true.mp z
  have : ax_mem md g i = true := List.any_eq_true.mpr ⟨x, h x hx, hz⟩
  rw [this] at hf
  cases hf
/-- what the net of bank c tells, behind an accepted text -/
noncomputable def ay_NT (c g : Nat) (no ln ro rm un rd : Option Nat) (en ru : Nat → Option Nat) : Prop := ∃ n l, pz_md (pz_cf (pz_gt g) (pz_gN g) n) = 20 ∧ ay_ln no = pz_no (pz_cf (pz_gt g) (pz_gN g) n) ∧ ay_ln ln = (pz_ls (pz_cf (pz_gt g) (pz_gN g) n)).length ∧ ay_ln ro = pz_ro (pz_cf (pz_gt g) (pz_gN g) n) ∧ ay_ln rm = pz_rm (pz_cf (pz_gt g) (pz_gN g) n) ∧ ay_ln un = pz_un (pz_cf (pz_gt g) (pz_gN g) n) ∧ pz_lk (pz_ls (pz_cf (pz_gt g) (pz_gN g) n)) (pz_be c en) (pz_fi c en) ∧ py_82 g l ∧ py_y241 c l rd ru ∧ ay_M26 c ru rd
end AYN
noncomputable def ay_NTh0 (g : Nat) (h : rx_H) : Prop := ay_NT 0 g (ay_at h 175 0) (ay_at h 176 0) (ay_at h 177 0) (ay_at h 178 0) (ay_at h 179 0) (ay_at h 180 0) (ay_at h 181) (ay_at h 182)
noncomputable def ay_NTh1 (g : Nat) (h : rx_H) : Prop := ay_NT 1 g (ay_at h 175 1) (ay_at h 176 1) (ay_at h 177 1) (ay_at h 178 1) (ay_at h 179 1) (ay_at h 180 1) (ay_at h 181) (ay_at h 182)
theorem ay_HRat {w : ax_W} {md : List (Nat × Nat)} {hp hp' : rx_H} {q g i : Nat} (hR : ax_HR w md hp hp') (hg : w.1[q]? = some g) (hm : ax_mem md g i = false) (hT : ay_ex hp q) : ay_at hp' q i = ay_at hp q i := by
  obtain ⟨k, n, f, e⟩ := hT
  obtain ⟨l', e1, e2⟩ := hR.2 q g hg k n f e
  rw [ay_eq e1, ay_eq e, e2 i hm]
noncomputable def ay_nMD0 : List (Nat × Nat) := [(11, 9), (11, 11), (11, 12), (11, 13), (11, 14), (11, 15), (11, 16), (11, 17), (11, 18), (11, 19), (11, 20), (11, 21), (11, 23), (11, 24), (11, 25), (11, 27), (11, 28), (11, 56), (11, 57), (44, 999), (45, 1), (46, 1), (47, 1), (48, 1), (49, 1), (50, 1), (51, 999), (52, 999), (55, 999), (56, 999), (57, 999), (58, 999), (59, 999), (74, 999)]
noncomputable def ay_nM20 : List (Nat × Nat) := [(11, 56), (11, 57), (44, 999), (56, 999), (57, 999), (58, 999), (59, 999), (74, 999)]
noncomputable def ay_nM10 : List (Nat × Nat) := [(11, 11), (11, 12), (11, 13), (11, 14), (11, 15), (11, 16), (11, 17), (11, 18), (11, 19), (11, 20), (11, 21), (11, 23), (11, 24), (11, 25), (11, 27), (11, 28), (45, 1), (46, 1), (47, 1), (48, 1), (49, 1), (50, 1), (51, 999), (52, 999), (55, 999)]
noncomputable def ay_nP0 : List ax_T := [([17179869180], (1, [(1, 0, 0)], [(702, 44, 0)], [], [(0, [80]), (1, []), (2, []), (25, []), (26, []), (228, [3])]))]
noncomputable def ay_nQ0 : List ax_T := [([7], (2, [(0, 2147483648, 2147483658), (1, 0, 0)], [(702, 44, 0)], [], [(0, [80]), (1, []), (2, []), (25, []), (26, []), (226, [3, 7]), (227, [])]))]
noncomputable def ay_nT0 : ax_G := (85, 1, 0, 0, [702, 4], (3, [(1, 0, 0), (0, 2147483648, 2147483648), (1, 0, 0)], [], [], [(1200, [702, 72, 7]), (1200, [702, 44, 0]), (50, []), (52, []), (0, [80]), (1, []), (2, []), (210, [3]), (227, []), (241, [11]), (262, [3, 11])]))
theorem ay_nk0 : ax_blk ax_wM0 rx_P (rx_DF, rx_FK) ax_APM0 ay_nM10 (rx_n rxm_272) axm_272 1 ay_nP0 [axu0_nt50, axu0_nt52, axu0_nt1, axu0_nt2, axu0_nt3, axu0_nt4] [85] 3000 [ay_nT0] (0, ax_args (1, [(1, 0, 0)], [], [], [(0, [80]), (1, []), (2, []), (25, []), (26, []), (130, [3])]) [702] (rx_mL (rx_n rxm_272)), [], (1, [(1, 0, 0)], [], [], [(0, [80]), (1, []), (2, []), (25, []), (26, []), (130, [3])])) = true := by decide +kernel
theorem ay_nl0 : ax_blk ax_wM1 rx_P (rx_DF, rx_FK) ax_APM1 ay_nM20 (rx_n rxm_272) axm_272 1 ay_nQ0 [] [] 3000 [] (90, [702, 4], [], (2, [(0, 2147483648, 2147483658), (1, 0, 0)], [(702, 44, 0), (710, 4, 7)], [], [(0, [80]), (1, []), (2, []), (25, []), (26, []), (226, [3, 7]), (227, [])])) = true := by decide +kernel
theorem ay_net0 {te tr : Nat → Option Nat} (hP : ∀ q ∈ rx_P, rx_QW q ∧ rx_ST rx_P (rx_DF, rx_FK) q) (hA : ∀ B, ax_Low ax_wM0 (ax_XT (ay_TE 0 te) (ay_TR 0 tr) (ax_XM 0)) rx_P ax_APM0 rx_P (rx_DF, rx_FK) B) (hA2 : ∀ B, ax_Low ax_wM1 (ax_XM 1) rx_P ax_APM1 rx_P (rx_DF, rx_FK) B) (hr : rxm_272 ∈ rx_P) (htab : ax_tab rxm_272 axm_272) {ρ : Nat → Nat} {hp : rx_H} (hE : ax_EO ax_wM0 (ax_XT (ay_TE 0 te) (ay_TR 0 tr) (ax_XM 0)) ρ (1, [(1, 0, 0)], [], [], [(0, [80]), (1, []), (2, []), (25, []), (26, []), (130, [3])]) hp) (hT : ax_HT ax_wM0 hp) : ax_Wp rx_P (rx_DF, rx_FK) rxm_272 (0, rx_args [702] (rx_mL (rx_n rxm_272)), [], hp, [], 0, 0) (fun o => ax_PO ax_wM0 (ax_XT (ay_TE 0 te) (ay_TR 0 tr) (ax_XM 0)) ay_nM10 hp 1 ay_nP0 ρ o ∨ (ax_PO ax_wM1 (ax_XM 1) ay_nMD0 hp 1 ay_nQ0 ρ o ∧ ay_NTh1 (ρ 0) o.2.1)) := by
  refine ay_blk hP (ax_XT0_ok te tr) (hA _) hr (Nat.le_refl _) htab (ax_ro_cons (ax_RO_T axq0_nt50 (by decide +kernel)) (ax_ro_cons (ax_RO_T axq0_nt52 (by decide +kernel)) (ax_ro_cons (ax_RO_T axq0_nt1 (by decide +kernel)) (ax_ro_cons (ax_RO_T axq0_nt2 (by decide +kernel)) (ax_ro_cons (ax_RO_T axq0_nt3 (by decide +kernel)) (ax_ro_cons (ax_RO_T axq0_nt4 (by decide +kernel)) ax_ro_nil)))))) ay_nk0 (fun po h => ⟨_, by cases List.mem_singleton.mp h; rfl⟩) ⟨rfl, ax_args_ok (as := [702]) (asc := [702]) hE (by show [ax_ev 1 ρ 702] = [some 702]; rw [ax_ev_c (by decide)]), rfl, rfl, hE, hT⟩ ax_HR.rf (Nat.le_refl _) (fun _ _ => rfl) (fun o h => Or.inl h) (fun t ht => ?_)
  cases List.mem_singleton.mp ht
  refine ⟨rfl, Nat.le_refl _, ?_⟩
  intro ρ1 h1 σ1 hg0 hR hH _
  have hg1 : ρ1 0 = ρ 0 := hg0 0 (by decide)
  obtain ⟨s1, s2, s3, s4⟩ := σ1
  obtain ⟨R1, R2, R3, R4, hE1, hT1⟩ := hR
  replace R1 : s1 = 85 := R1
  replace R2 : [ax_ev 3 ρ1 702, ax_ev 3 ρ1 4] = s2.map some := R2
  rw [ax_ev_c (by decide), ax_ev_c (by decide)] at R2
  have e2 : s2 = [702, 4] := by
    cases s2 with
    | nil => cases R2
    | cons a s2 => cases s2 with
      | nil => cases R2
      | cons a2 s2 => cases s2 with
        | nil => cases R2; rfl
        | cons _ _ => cases R2
  have e3 : s3 = [] := by cases s3 with | nil => rfl | cons _ _ => cases R3
  replace R4 : s4 = (h1, [], 0, 0) := R4
  subst R1 e2 e3 R4
  have x50 := ((ax_XF_lt (by decide)).mp (ax_gx hE1 (50, []) (by decide))).1
  have x52 := ((ax_XF_lt (by decide)).mp (ax_gx hE1 (52, []) (by decide))).1
  have x0 := ((ax_XF_lt (by decide)).mp (ax_gx hE1 (0, [80]) (by decide))).1
  have x1 := ((ax_XF_lt (by decide)).mp (ax_gx hE1 (1, []) (by decide))).1
  have x2 := ((ax_XF_lt (by decide)).mp (ax_gx hE1 (2, []) (by decide))).1
  have x210 := ((ax_XF_lt (by decide)).mp (ax_gx hE1 (210, [3]) (by decide))).1
  have x227 := ((ax_XF_lt (by decide)).mp (ax_gx hE1 (227, []) (by decide))).1
  have x241 := ((ax_XF_lt (by decide)).mp (ax_gx hE1 (241, [11]) (by decide))).1
  have x262 := ((ax_XF_lt (by decide)).mp (ax_gx hE1 (262, [3, 11]) (by decide))).1
  have jg : ρ1 0 % 4 = 1 := pz_gj hE1 0 (by decide) rfl
  have f0 := ay_gfj hE1 702 72 7 173 18 (by decide) (by rw [ax_vl_c (by decide)]) (by rw [ax_vl_c (by decide)])
  replace f0 : ay_at h1 173 18 = some (ρ1 1) := f0
  have t0 := ay_gfj hE1 702 44 0 173 11 (by decide) (by rw [ax_vl_c (by decide)]) (by rw [ax_vl_c (by decide)])
  replace t0 : ay_at h1 173 11 = some 0 := t0
  obtain ⟨z, hz, z1, z2, z3⟩ := ax_gi hE1 1 2147483648 2147483648 (by decide) rfl
  obtain ⟨z4, z5⟩ := ax_bi_pos z1 z2
  rw [hz, show z = 0 by omega] at f0
  replace f0 : ay_at h1 173 18 = some 0 := f0
  obtain ⟨km, nm, tm, fm, m1, m2, m3, m4⟩ := hT1.2 173 11 rfl
  have r0 : ax_wM0.2.1[11]? = some (11, 58, [(0, (3, 706, 706)), (1, (3, 710, 710)), (2, (3, 714, 714)), (3, (3, 718, 718)), (4, (3, 722, 722)), (5, (3, 726, 726)), (6, (3, 730, 730)), (7, (3, 734, 734)), (8, (3, 738, 738)), (9, (0, 2147483648, 2147483648)), (10, (3, 742, 742)), (11, (0, 2147483648, 2147484448)), (12, (0, 2147483648, 2147484448)), (13, (0, 2147483648, 2147484449)), (14, (0, 2147483648, 2147484448)), (15, (0, 0, 4294967295)), (16, (0, 2147483648, 2147493647)), (17, (0, 0, 4294967295)), (18, (0, 2147483648, 2147483652)), (19, (0, 0, 4294967295)), (20, (0, 0, 4294967295)), (21, (0, 0, 4294967295)), (22, (3, 746, 746)), (23, (0, 2147483648, 2147483649)), (24, (0, 2147483648, 2147483649)), (25, (0, 2147483648, 2147483649)), (26, (3, 750, 750)), (27, (0, 2147483648, 2147483748)), (28, (0, 2147483648, 2147483654)), (29, (3, 754, 754)), (30, (3, 758, 758)), (31, (3, 762, 762)), (32, (3, 766, 766)), (33, (3, 770, 770)), (34, (3, 774, 774)), (35, (3, 778, 778)), (36, (3, 782, 782)), (37, (3, 786, 786)), (38, (3, 790, 790)), (39, (3, 794, 794)), (40, (0, 0, 4294967295)), (41, (0, 0, 4294967295)), (42, (0, 0, 4294967295)), (43, (0, 0, 4294967295)), (44, (3, 798, 798)), (45, (3, 802, 802)), (46, (3, 806, 806)), (47, (3, 810, 810)), (48, (3, 814, 814)), (49, (0, 2147483648, 2147493654)), (50, (0, 0, 4294967295)), (51, (0, 0, 4294967295)), (52, (0, 0, 4294967295)), (53, (3, 818, 818)), (54, (3, 822, 822)), (55, (3, 826, 826)), (56, (0, 2147483648, 2147483668)), (57, (0, 2147483648, 2147483668))]) := rfl
  rw [r0] at m1
  cases m1
  have hh : rx_h_pf (rx_DF, rx_FK) (rx_n rxm_272) 87 11 9 [702, 4] [4, 702] h1 [] 0 0 = some [(90, [702, 4], [], rx_hs h1 173 (11, 58, rx_upd fm 9 4), [], 0, 0)] := by
    show (bif Nat.beq (rx_tk 702) 2 && Nat.ble 2 (rx_pl 702) then (match rx_hg h1 (Nat.sub (rx_pl 702) 2) with
      | some (t, n, l) => (match rx_nth (rx_DF, rx_FK).2 11 with
        | some ks => (match rx_nth ks 9 with
          | some k => bif Nat.beq t 11 && (Nat.blt 9 n && rx_fok k 4) then some [(Nat.add 87 3, [702, 4], [], rx_hs h1 (Nat.sub (rx_pl 702) 2) (t, n, rx_upd l 9 4), [], 0, 0)] else none
          | none => none)
        | none => none)
      | none => none) else none) = _
    rw [show rx_hg h1 (Nat.sub (rx_pl 702) 2) = some (11, 58, fm) from m2]
    rfl
  have hU : ax_upd h1 702 36 4 = rx_hs h1 173 (11, 58, fm.set 9 4) := ay_upd_hs (a := 702) (i := 36) (v := 4) m2
  rw [rx_upd_eq, ← hU] at hh
  replace x50 : ay_ex h1 175 ∧ ay_ex h1 177 ∧ ay_ex h1 176 ∧ ay_ex h1 181 ∧ ay_ex h1 173 ∧ ay_M50 1 (ay_at h1 175 1) (ay_at h1 177 1) (ay_at h1 176 1) (ay_at h1 181) (ay_at h1 173 18) := x50
  obtain ⟨p1, p2, p3⟩ := x50.2.2.2.2.2 f0
  have hT2 := ay_turn0 hT1 (fun v hv => by rw [hv] at p1; exact p1) (fun v hv => by rw [hv] at p2; exact p2)
  have hRu : ax_HR ax_wM0 [(11, 9)] h1 (ax_upd h1 702 36 4) := ay_HRu (a := 702) (i := 36) (g0 := 11) hT1.1 m2 rfl (by decide)
  have hRv : ax_HR ax_wM0 ay_nMD0 h1 (ax_upd h1 702 36 4) := ay_HRu (a := 702) (i := 36) (g0 := 11) hT1.1 m2 rfl (by decide +kernel)
  have k50 := ax_XM0_ok 50 [] _ [(11, 9)] _ _ rfl (by decide) hRu x50
  have k52 := ax_XM0_ok 52 [] _ [(11, 9)] _ _ rfl (by decide) hRu x52
  have k227 := ax_XM0_ok 227 [] _ [(11, 9)] _ _ rfl (by decide) hRu x227
  have k0 := ax_XM0_ok 0 [80] _ [(11, 9)] _ _ rfl (by decide) hRu x0
  have k1 := ax_XM0_ok 1 [] _ [(11, 9)] _ _ rfl (by decide) hRu x1
  have k2 := ax_XM0_ok 2 [] _ [(11, 9)] _ _ rfl (by decide) hRu x2
  obtain ⟨o0, ho0⟩ := ay_some hT1 (q := 173) (g := 11) (n := 58) rfl rfl (j := 36 / 4) (by decide)
  have f1 : ay_at (ax_upd h1 702 36 4) 173 18 = some 0 := by
    rw [ay_upd_eq hT1.1 rfl ho0, if_neg (by decide)]
    exact f0
  have t1 : ay_at (ax_upd h1 702 36 4) 173 11 = some 0 := by
    rw [ay_upd_eq hT1.1 rfl ho0, if_neg (by decide)]
    exact t0
  obtain ⟨v, hv⟩ := ay_some hT1 (q := 175) (g := 45) (n := 2) rfl rfl (j := 1) (by decide)
  have hv2 : ay_at (ax_upd h1 702 36 4) 175 1 = some v := (ay_upd_ne hT1.1 (by decide) _).trans hv
  have k226 : pz_x126 (ρ1 0) v := by
    obtain ⟨-, -, -, -, -, -, -, -, -, -, -, m, hm, hd⟩ := x210
    have e := hd.1
    rw [hv] at e
    exact ⟨m, hm, e.symm⟩
  obtain ⟨h2, hh2⟩ : ∃ h2, ax_upd h1 702 36 4 = h2 := ⟨_, rfl⟩
  rw [hh2] at hh hT2 hRv k50 k52 k0 k1 k2 k227 f1 t1 hv2
  have tv : ax_ok ax_wM1 (0, 2147483648, 2147483658) v := ay_typ hT2 (q := 175) (g := 45) (j := 1) rfl rfl hv2
  obtain ⟨v1, v2, v3, v4, v5, v6⟩ := k50
  obtain ⟨u1, u2, u3, u4, u5, u6⟩ := k52
  have n25 : (ax_XM 1) 25 [] h2 := ⟨v4, v1, v3, (v6 f1).2.2⟩
  have n26 : (ax_XM 1) 26 [] h2 := ⟨u1, u2, u6.1 f1⟩
  have hE2 : ax_EO ax_wM1 (ax_XM 1) (fun k => if k = 0 then ρ1 0 else v) (2, [(0, 2147483648, 2147483658), (1, 0, 0)], [(702, 44, 0), (710, 4, 7)], [], [(0, [80]), (1, []), (2, []), (25, []), (26, []), (226, [3, 7]), (227, [])]) h2 := by
    refine ⟨rfl, fun k t hk ht => ?_, (fun f hf => ?_), (fun d hd => by cases hd), fun x hx => ?_⟩
    · replace hk : k < 2 := hk
      by_cases h0 : k = 0
      · subst h0
        replace ht : some ((1, 0, 0) : ax_Y) = some t := ht
        cases ht
        exact Or.inr (Or.inl ⟨rfl, jg⟩)
      · have h1' : k = 1 := by omega
        subst h1'
        replace ht : some ((0, 2147483648, 2147483658) : ax_Y) = some t := ht
        cases ht
        exact tv
    · rcases List.mem_cons.mp hf with e | hf
      · subst e
        obtain ⟨k2', n2', l2', f2', d1, d2, d3, d4⟩ := hT2.2 173 11 rfl
        rw [ay_eq d2] at t1
        exact ⟨702, 44, 0, k2', n2', f2', ax_ev_c (by decide), ax_ev_c (by decide), ax_ev_c (by decide), by decide, by decide, by decide, d2, t1⟩
      · cases List.mem_singleton.mp hf
        obtain ⟨k2', n2', l2', f2', d1, d2, d3, d4⟩ := hT2.2 175 45 rfl
        rw [ay_eq d2] at hv2
        exact ⟨710, 4, v, k2', n2', f2', ax_ev_c (by decide), ax_ev_c (by decide), rfl, by decide, by decide, by decide, d2, hv2⟩
    rcases List.mem_cons.mp hx with e | hx
    · subst e
      exact ⟨[80], by show [ax_ev 2 _ 80] = [some 80]; rw [ax_ev_c (by decide)], (ax_XF_lt (x := 0) (by decide)).mpr k0⟩
    rcases List.mem_cons.mp hx with e | hx
    · subst e
      exact ⟨[], rfl, (ax_XF_lt (x := 1) (by decide)).mpr k1⟩
    rcases List.mem_cons.mp hx with e | hx
    · subst e
      exact ⟨[], rfl, (ax_XF_lt (x := 2) (by decide)).mpr k2⟩
    rcases List.mem_cons.mp hx with e | hx
    · subst e
      exact ⟨[], rfl, (ax_XF_lt (x := 25) (by decide)).mpr n25⟩
    rcases List.mem_cons.mp hx with e | hx
    · subst e
      exact ⟨[], rfl, (ax_XF_lt (x := 26) (by decide)).mpr n26⟩
    rcases List.mem_cons.mp hx with e | hx
    · subst e
      exact ⟨[ρ1 0, v], rfl, (ax_XF_lt (x := 226) (by decide)).mpr k226⟩
    cases List.mem_singleton.mp hx
    exact ⟨[], rfl, (ax_XF_lt (x := 227) (by decide)).mpr k227⟩
  refine ax_wp_step hP hr (σ' := (86, [702, 4], [702], h1, [], 0, 0)) rfl rfl rfl ?_
  refine ax_wp_step hP hr (σ' := (87, [702, 4], [4, 702], h1, [], 0, 0)) rfl rfl rfl ?_
  refine ax_wp_step hP hr (σ' := (90, [702, 4], [], h2, [], 0, 0)) rfl rfl hh ?_
  have hNT : ay_NTh1 (ρ1 0) h2 := by
    obtain ⟨-, -, -, -, -, -, -, -, -, -, -, m, hm, d1, d2, d3, d4, d5, d6, d7, d8, d9, d10, d11⟩ := x210
    have s2 : ∀ q, q ≠ 173 → ay_at h2 q = ay_at h1 q := fun q hq => by rw [← hh2]; exact funext (fun j => ay_upd_ne hT1.1 hq j)
    unfold ay_NTh1
    rw [s2 175 (by decide), s2 176 (by decide), s2 177 (by decide), s2 178 (by decide), s2 179 (by decide), s2 180 (by decide), s2 181 (by decide), s2 182 (by decide)]
    refine ⟨m, ρ1 2, hm, d1, d2, d3, d4, d5, d11, x262, x241.2.2, ?_⟩
    have := u6.1 f1
    rw [s2 182 (by decide), s2 180 (by decide)] at this
    exact this
  have hW := ay_blk (hp0 := h2) (σ := (90, [702, 4], [], h2, [], 0, 0)) (ρ0 := fun k => if k = 0 then ρ1 0 else v) hP ax_XM1_ok (hA2 _) hr (Nat.le_refl _) htab ax_ro_nil ay_nl0 (fun po h => ⟨_, by cases List.mem_singleton.mp h; rfl⟩) ⟨rfl, (by show [ax_ev 2 _ 702, ax_ev 2 _ 4] = [some 702, some 4]; rw [ax_ev_c (by decide), ax_ev_c (by decide)]), rfl, rfl, hE2, hT2⟩ ax_HR.rf (show 1 ≤ 2 by decide) (fun k hk => rfl) (fun o h => h) (fun t ht => by cases ht)
  refine ax_wp_mono hW (fun o ho => Or.inr ?_)
  obtain ⟨po, hpo, ρ', r, w1, w2, w3, w4, w5, w6, w7⟩ := ho
  have w6' : ax_HR ax_wM1 ay_nMD0 h2 o.2.1 := w6.wk (ay_mem_sub (by decide +kernel))
  refine ⟨⟨po, hpo, ρ', r, fun k hk => ?_, w2, w3, w4, w5, (ay_HRw rfl ((hH.wk (ay_mem_sub (by decide +kernel))).tr hRv)).tr w6', w7⟩, ?_⟩
  · have e : k = 0 := (by omega)
    subst e
    exact (w1 0 (by decide)).trans hg1
  · rw [← hg1]
    have s3 : ∀ q g, ax_wM1.1[q]? = some g → (∀ i, ax_mem ay_nM20 g i = false) → ay_ex h2 q → ay_at o.2.1 q = ay_at h2 q := fun q g h1' h2' h3' => funext (fun i => ay_HRat w6 h1' (h2' i) h3')
    unfold ay_NTh1 at hNT ⊢
    rw [s3 175 45 rfl (by intro i; rfl) (ax_cellT hT2 (q := 175) (g := 45) rfl), s3 176 46 rfl (by intro i; rfl) (ax_cellT hT2 (q := 176) (g := 46) rfl), s3 177 47 rfl (by intro i; rfl) (ax_cellT hT2 (q := 177) (g := 47) rfl), s3 178 48 rfl (by intro i; rfl) (ax_cellT hT2 (q := 178) (g := 48) rfl), s3 179 49 rfl (by intro i; rfl) (ax_cellT hT2 (q := 179) (g := 49) rfl), s3 180 50 rfl (by intro i; rfl) (ax_cellT hT2 (q := 180) (g := 50) rfl), s3 181 51 rfl (by intro i; rfl) (ax_cellT hT2 (q := 181) (g := 51) rfl), s3 182 52 rfl (by intro i; rfl) (ax_cellT hT2 (q := 182) (g := 52) rfl)]
    exact hNT
noncomputable def ay_nMD1 : List (Nat × Nat) := [(11, 9), (11, 11), (11, 12), (11, 13), (11, 14), (11, 15), (11, 16), (11, 17), (11, 18), (11, 19), (11, 20), (11, 21), (11, 23), (11, 24), (11, 25), (11, 27), (11, 28), (11, 56), (11, 57), (44, 999), (45, 0), (46, 0), (47, 0), (48, 0), (49, 0), (50, 0), (51, 999), (52, 999), (55, 999), (56, 999), (57, 999), (58, 999), (59, 999), (74, 999)]
noncomputable def ay_nM21 : List (Nat × Nat) := [(11, 56), (11, 57), (44, 999), (56, 999), (57, 999), (58, 999), (59, 999), (74, 999)]
noncomputable def ay_nM11 : List (Nat × Nat) := [(11, 11), (11, 12), (11, 13), (11, 14), (11, 15), (11, 16), (11, 17), (11, 18), (11, 19), (11, 20), (11, 21), (11, 23), (11, 24), (11, 25), (11, 27), (11, 28), (45, 0), (46, 0), (47, 0), (48, 0), (49, 0), (50, 0), (51, 999), (52, 999), (55, 999)]
noncomputable def ay_nP1 : List ax_T := [([17179869180], (1, [(1, 0, 0)], [(702, 44, 0)], [], [(0, [80]), (1, []), (2, []), (25, []), (26, []), (228, [3])]))]
noncomputable def ay_nQ1 : List ax_T := [([7], (2, [(0, 2147483648, 2147483658), (1, 0, 0)], [(702, 44, 0)], [], [(0, [80]), (1, []), (2, []), (25, []), (26, []), (226, [3, 7]), (227, [])]))]
noncomputable def ay_nT1 : ax_G := (85, 1, 0, 0, [702, 0], (3, [(1, 0, 0), (0, 2147483648, 2147483648), (1, 0, 0)], [], [], [(1200, [702, 72, 7]), (1200, [702, 44, 0]), (50, []), (52, []), (0, [80]), (1, []), (2, []), (210, [3]), (227, []), (241, [11]), (262, [3, 11])]))
theorem ay_nk1 : ax_blk ax_wM1 rx_P (rx_DF, rx_FK) ax_APM1 ay_nM11 (rx_n rxm_272) axm_272 1 ay_nP1 [axu1_nt50, axu1_nt52, axu1_nt1, axu1_nt2, axu1_nt3, axu1_nt4] [85] 3000 [ay_nT1] (0, ax_args (1, [(1, 0, 0)], [], [], [(0, [80]), (1, []), (2, []), (25, []), (26, []), (130, [3])]) [702] (rx_mL (rx_n rxm_272)), [], (1, [(1, 0, 0)], [], [], [(0, [80]), (1, []), (2, []), (25, []), (26, []), (130, [3])])) = true := by decide +kernel
theorem ay_nl1 : ax_blk ax_wM0 rx_P (rx_DF, rx_FK) ax_APM0 ay_nM21 (rx_n rxm_272) axm_272 1 ay_nQ1 [] [] 3000 [] (90, [702, 0], [], (2, [(0, 2147483648, 2147483658), (1, 0, 0)], [(702, 44, 0), (710, 0, 7)], [], [(0, [80]), (1, []), (2, []), (25, []), (26, []), (226, [3, 7]), (227, [])])) = true := by decide +kernel
theorem ay_net1 {te tr : Nat → Option Nat} (hP : ∀ q ∈ rx_P, rx_QW q ∧ rx_ST rx_P (rx_DF, rx_FK) q) (hA : ∀ B, ax_Low ax_wM1 (ax_XT (ay_TE 1 te) (ay_TR 1 tr) (ax_XM 1)) rx_P ax_APM1 rx_P (rx_DF, rx_FK) B) (hA2 : ∀ B, ax_Low ax_wM0 (ax_XM 0) rx_P ax_APM0 rx_P (rx_DF, rx_FK) B) (hr : rxm_272 ∈ rx_P) (htab : ax_tab rxm_272 axm_272) {ρ : Nat → Nat} {hp : rx_H} (hE : ax_EO ax_wM1 (ax_XT (ay_TE 1 te) (ay_TR 1 tr) (ax_XM 1)) ρ (1, [(1, 0, 0)], [], [], [(0, [80]), (1, []), (2, []), (25, []), (26, []), (130, [3])]) hp) (hT : ax_HT ax_wM1 hp) : ax_Wp rx_P (rx_DF, rx_FK) rxm_272 (0, rx_args [702] (rx_mL (rx_n rxm_272)), [], hp, [], 0, 0) (fun o => ax_PO ax_wM1 (ax_XT (ay_TE 1 te) (ay_TR 1 tr) (ax_XM 1)) ay_nM11 hp 1 ay_nP1 ρ o ∨ (ax_PO ax_wM0 (ax_XM 0) ay_nMD1 hp 1 ay_nQ1 ρ o ∧ ay_NTh0 (ρ 0) o.2.1)) := by
  refine ay_blk hP (ax_XT1_ok te tr) (hA _) hr (Nat.le_refl _) htab (ax_ro_cons (ax_RO_T axq1_nt50 (by decide +kernel)) (ax_ro_cons (ax_RO_T axq1_nt52 (by decide +kernel)) (ax_ro_cons (ax_RO_T axq1_nt1 (by decide +kernel)) (ax_ro_cons (ax_RO_T axq1_nt2 (by decide +kernel)) (ax_ro_cons (ax_RO_T axq1_nt3 (by decide +kernel)) (ax_ro_cons (ax_RO_T axq1_nt4 (by decide +kernel)) ax_ro_nil)))))) ay_nk1 (fun po h => ⟨_, by cases List.mem_singleton.mp h; rfl⟩) ⟨rfl, ax_args_ok (as := [702]) (asc := [702]) hE (by show [ax_ev 1 ρ 702] = [some 702]; rw [ax_ev_c (by decide)]), rfl, rfl, hE, hT⟩ ax_HR.rf (Nat.le_refl _) (fun _ _ => rfl) (fun o h => Or.inl h) (fun t ht => ?_)
  cases List.mem_singleton.mp ht
  refine ⟨rfl, Nat.le_refl _, ?_⟩
  intro ρ1 h1 σ1 hg0 hR hH _
  have hg1 : ρ1 0 = ρ 0 := hg0 0 (by decide)
  obtain ⟨s1, s2, s3, s4⟩ := σ1
  obtain ⟨R1, R2, R3, R4, hE1, hT1⟩ := hR
  replace R1 : s1 = 85 := R1
  replace R2 : [ax_ev 3 ρ1 702, ax_ev 3 ρ1 0] = s2.map some := R2
  rw [ax_ev_c (by decide), ax_ev_c (by decide)] at R2
  have e2 : s2 = [702, 0] := by
    cases s2 with
    | nil => cases R2
    | cons a s2 => cases s2 with
      | nil => cases R2
      | cons a2 s2 => cases s2 with
        | nil => cases R2; rfl
        | cons _ _ => cases R2
  have e3 : s3 = [] := by cases s3 with | nil => rfl | cons _ _ => cases R3
  replace R4 : s4 = (h1, [], 0, 0) := R4
  subst R1 e2 e3 R4
  have x50 := ((ax_XF_lt (by decide)).mp (ax_gx hE1 (50, []) (by decide))).1
  have x52 := ((ax_XF_lt (by decide)).mp (ax_gx hE1 (52, []) (by decide))).1
  have x0 := ((ax_XF_lt (by decide)).mp (ax_gx hE1 (0, [80]) (by decide))).1
  have x1 := ((ax_XF_lt (by decide)).mp (ax_gx hE1 (1, []) (by decide))).1
  have x2 := ((ax_XF_lt (by decide)).mp (ax_gx hE1 (2, []) (by decide))).1
  have x210 := ((ax_XF_lt (by decide)).mp (ax_gx hE1 (210, [3]) (by decide))).1
  have x227 := ((ax_XF_lt (by decide)).mp (ax_gx hE1 (227, []) (by decide))).1
  have x241 := ((ax_XF_lt (by decide)).mp (ax_gx hE1 (241, [11]) (by decide))).1
  have x262 := ((ax_XF_lt (by decide)).mp (ax_gx hE1 (262, [3, 11]) (by decide))).1
  have jg : ρ1 0 % 4 = 1 := pz_gj hE1 0 (by decide) rfl
  have f0 := ay_gfj hE1 702 72 7 173 18 (by decide) (by rw [ax_vl_c (by decide)]) (by rw [ax_vl_c (by decide)])
  replace f0 : ay_at h1 173 18 = some (ρ1 1) := f0
  have t0 := ay_gfj hE1 702 44 0 173 11 (by decide) (by rw [ax_vl_c (by decide)]) (by rw [ax_vl_c (by decide)])
  replace t0 : ay_at h1 173 11 = some 0 := t0
  obtain ⟨z, hz, z1, z2, z3⟩ := ax_gi hE1 1 2147483648 2147483648 (by decide) rfl
  obtain ⟨z4, z5⟩ := ax_bi_pos z1 z2
  rw [hz, show z = 0 by omega] at f0
  replace f0 : ay_at h1 173 18 = some 0 := f0
  obtain ⟨km, nm, tm, fm, m1, m2, m3, m4⟩ := hT1.2 173 11 rfl
  have r0 : ax_wM1.2.1[11]? = some (11, 58, [(0, (3, 706, 706)), (1, (3, 710, 710)), (2, (3, 714, 714)), (3, (3, 718, 718)), (4, (3, 722, 722)), (5, (3, 726, 726)), (6, (3, 730, 730)), (7, (3, 734, 734)), (8, (3, 738, 738)), (9, (0, 2147483649, 2147483649)), (10, (3, 742, 742)), (11, (0, 2147483648, 2147484448)), (12, (0, 2147483648, 2147484448)), (13, (0, 2147483648, 2147484449)), (14, (0, 2147483648, 2147484448)), (15, (0, 0, 4294967295)), (16, (0, 2147483648, 2147493647)), (17, (0, 0, 4294967295)), (18, (0, 2147483648, 2147483652)), (19, (0, 0, 4294967295)), (20, (0, 0, 4294967295)), (21, (0, 0, 4294967295)), (22, (3, 746, 746)), (23, (0, 2147483648, 2147483649)), (24, (0, 2147483648, 2147483649)), (25, (0, 2147483648, 2147483649)), (26, (3, 750, 750)), (27, (0, 2147483648, 2147483748)), (28, (0, 2147483648, 2147483654)), (29, (3, 754, 754)), (30, (3, 758, 758)), (31, (3, 762, 762)), (32, (3, 766, 766)), (33, (3, 770, 770)), (34, (3, 774, 774)), (35, (3, 778, 778)), (36, (3, 782, 782)), (37, (3, 786, 786)), (38, (3, 790, 790)), (39, (3, 794, 794)), (40, (0, 0, 4294967295)), (41, (0, 0, 4294967295)), (42, (0, 0, 4294967295)), (43, (0, 0, 4294967295)), (44, (3, 798, 798)), (45, (3, 802, 802)), (46, (3, 806, 806)), (47, (3, 810, 810)), (48, (3, 814, 814)), (49, (0, 2147483648, 2147493654)), (50, (0, 0, 4294967295)), (51, (0, 0, 4294967295)), (52, (0, 0, 4294967295)), (53, (3, 818, 818)), (54, (3, 822, 822)), (55, (3, 826, 826)), (56, (0, 2147483648, 2147483668)), (57, (0, 2147483648, 2147483668))]) := rfl
  rw [r0] at m1
  cases m1
  have hh : rx_h_pf (rx_DF, rx_FK) (rx_n rxm_272) 87 11 9 [702, 0] [0, 702] h1 [] 0 0 = some [(90, [702, 0], [], rx_hs h1 173 (11, 58, rx_upd fm 9 0), [], 0, 0)] := by
    show (bif Nat.beq (rx_tk 702) 2 && Nat.ble 2 (rx_pl 702) then (match rx_hg h1 (Nat.sub (rx_pl 702) 2) with
      | some (t, n, l) => (match rx_nth (rx_DF, rx_FK).2 11 with
        | some ks => (match rx_nth ks 9 with
          | some k => bif Nat.beq t 11 && (Nat.blt 9 n && rx_fok k 0) then some [(Nat.add 87 3, [702, 0], [], rx_hs h1 (Nat.sub (rx_pl 702) 2) (t, n, rx_upd l 9 0), [], 0, 0)] else none
          | none => none)
        | none => none)
      | none => none) else none) = _
    rw [show rx_hg h1 (Nat.sub (rx_pl 702) 2) = some (11, 58, fm) from m2]
    rfl
  have hU : ax_upd h1 702 36 0 = rx_hs h1 173 (11, 58, fm.set 9 0) := ay_upd_hs (a := 702) (i := 36) (v := 0) m2
  rw [rx_upd_eq, ← hU] at hh
  replace x50 : ay_ex h1 175 ∧ ay_ex h1 177 ∧ ay_ex h1 176 ∧ ay_ex h1 181 ∧ ay_ex h1 173 ∧ ay_M50 0 (ay_at h1 175 0) (ay_at h1 177 0) (ay_at h1 176 0) (ay_at h1 181) (ay_at h1 173 18) := x50
  obtain ⟨p1, p2, p3⟩ := x50.2.2.2.2.2 f0
  have hT2 := ay_turn1 hT1 (fun v hv => by rw [hv] at p1; exact p1) (fun v hv => by rw [hv] at p2; exact p2)
  have hRu : ax_HR ax_wM1 [(11, 9)] h1 (ax_upd h1 702 36 0) := ay_HRu (a := 702) (i := 36) (g0 := 11) hT1.1 m2 rfl (by decide)
  have hRv : ax_HR ax_wM1 ay_nMD1 h1 (ax_upd h1 702 36 0) := ay_HRu (a := 702) (i := 36) (g0 := 11) hT1.1 m2 rfl (by decide +kernel)
  have k50 := ax_XM1_ok 50 [] _ [(11, 9)] _ _ rfl (by decide) hRu x50
  have k52 := ax_XM1_ok 52 [] _ [(11, 9)] _ _ rfl (by decide) hRu x52
  have k227 := ax_XM1_ok 227 [] _ [(11, 9)] _ _ rfl (by decide) hRu x227
  have k0 := ax_XM1_ok 0 [80] _ [(11, 9)] _ _ rfl (by decide) hRu x0
  have k1 := ax_XM1_ok 1 [] _ [(11, 9)] _ _ rfl (by decide) hRu x1
  have k2 := ax_XM1_ok 2 [] _ [(11, 9)] _ _ rfl (by decide) hRu x2
  obtain ⟨o0, ho0⟩ := ay_some hT1 (q := 173) (g := 11) (n := 58) rfl rfl (j := 36 / 4) (by decide)
  have f1 : ay_at (ax_upd h1 702 36 0) 173 18 = some 0 := by
    rw [ay_upd_eq hT1.1 rfl ho0, if_neg (by decide)]
    exact f0
  have t1 : ay_at (ax_upd h1 702 36 0) 173 11 = some 0 := by
    rw [ay_upd_eq hT1.1 rfl ho0, if_neg (by decide)]
    exact t0
  obtain ⟨v, hv⟩ := ay_some hT1 (q := 175) (g := 45) (n := 2) rfl rfl (j := 0) (by decide)
  have hv2 : ay_at (ax_upd h1 702 36 0) 175 0 = some v := (ay_upd_ne hT1.1 (by decide) _).trans hv
  have k226 : pz_x126 (ρ1 0) v := by
    obtain ⟨-, -, -, -, -, -, -, -, -, -, -, m, hm, hd⟩ := x210
    have e := hd.1
    rw [hv] at e
    exact ⟨m, hm, e.symm⟩
  obtain ⟨h2, hh2⟩ : ∃ h2, ax_upd h1 702 36 0 = h2 := ⟨_, rfl⟩
  rw [hh2] at hh hT2 hRv k50 k52 k0 k1 k2 k227 f1 t1 hv2
  have tv : ax_ok ax_wM0 (0, 2147483648, 2147483658) v := ay_typ hT2 (q := 175) (g := 45) (j := 0) rfl rfl hv2
  obtain ⟨v1, v2, v3, v4, v5, v6⟩ := k50
  obtain ⟨u1, u2, u3, u4, u5, u6⟩ := k52
  have n25 : (ax_XM 0) 25 [] h2 := ⟨v4, v1, v3, (v6 f1).2.2⟩
  have n26 : (ax_XM 0) 26 [] h2 := ⟨u1, u2, u6.1 f1⟩
  have hE2 : ax_EO ax_wM0 (ax_XM 0) (fun k => if k = 0 then ρ1 0 else v) (2, [(0, 2147483648, 2147483658), (1, 0, 0)], [(702, 44, 0), (710, 0, 7)], [], [(0, [80]), (1, []), (2, []), (25, []), (26, []), (226, [3, 7]), (227, [])]) h2 := by
    refine ⟨rfl, fun k t hk ht => ?_, (fun f hf => ?_), (fun d hd => by cases hd), fun x hx => ?_⟩
    · replace hk : k < 2 := hk
      by_cases h0 : k = 0
      · subst h0
        replace ht : some ((1, 0, 0) : ax_Y) = some t := ht
        cases ht
        exact Or.inr (Or.inl ⟨rfl, jg⟩)
      · have h1' : k = 1 := by omega
        subst h1'
        replace ht : some ((0, 2147483648, 2147483658) : ax_Y) = some t := ht
        cases ht
        exact tv
    · rcases List.mem_cons.mp hf with e | hf
      · subst e
        obtain ⟨k2', n2', l2', f2', d1, d2, d3, d4⟩ := hT2.2 173 11 rfl
        rw [ay_eq d2] at t1
        exact ⟨702, 44, 0, k2', n2', f2', ax_ev_c (by decide), ax_ev_c (by decide), ax_ev_c (by decide), by decide, by decide, by decide, d2, t1⟩
      · cases List.mem_singleton.mp hf
        obtain ⟨k2', n2', l2', f2', d1, d2, d3, d4⟩ := hT2.2 175 45 rfl
        rw [ay_eq d2] at hv2
        exact ⟨710, 0, v, k2', n2', f2', ax_ev_c (by decide), ax_ev_c (by decide), rfl, by decide, by decide, by decide, d2, hv2⟩
    rcases List.mem_cons.mp hx with e | hx
    · subst e
      exact ⟨[80], by show [ax_ev 2 _ 80] = [some 80]; rw [ax_ev_c (by decide)], (ax_XF_lt (x := 0) (by decide)).mpr k0⟩
    rcases List.mem_cons.mp hx with e | hx
    · subst e
      exact ⟨[], rfl, (ax_XF_lt (x := 1) (by decide)).mpr k1⟩
    rcases List.mem_cons.mp hx with e | hx
    · subst e
      exact ⟨[], rfl, (ax_XF_lt (x := 2) (by decide)).mpr k2⟩
    rcases List.mem_cons.mp hx with e | hx
    · subst e
      exact ⟨[], rfl, (ax_XF_lt (x := 25) (by decide)).mpr n25⟩
    rcases List.mem_cons.mp hx with e | hx
    · subst e
      exact ⟨[], rfl, (ax_XF_lt (x := 26) (by decide)).mpr n26⟩
    rcases List.mem_cons.mp hx with e | hx
    · subst e
      exact ⟨[ρ1 0, v], rfl, (ax_XF_lt (x := 226) (by decide)).mpr k226⟩
    cases List.mem_singleton.mp hx
    exact ⟨[], rfl, (ax_XF_lt (x := 227) (by decide)).mpr k227⟩
  refine ax_wp_step hP hr (σ' := (86, [702, 0], [702], h1, [], 0, 0)) rfl rfl rfl ?_
  refine ax_wp_step hP hr (σ' := (87, [702, 0], [0, 702], h1, [], 0, 0)) rfl rfl rfl ?_
  refine ax_wp_step hP hr (σ' := (90, [702, 0], [], h2, [], 0, 0)) rfl rfl hh ?_
  have hNT : ay_NTh0 (ρ1 0) h2 := by
    obtain ⟨-, -, -, -, -, -, -, -, -, -, -, m, hm, d1, d2, d3, d4, d5, d6, d7, d8, d9, d10, d11⟩ := x210
    have s2 : ∀ q, q ≠ 173 → ay_at h2 q = ay_at h1 q := fun q hq => by rw [← hh2]; exact funext (fun j => ay_upd_ne hT1.1 hq j)
    unfold ay_NTh0
    rw [s2 175 (by decide), s2 176 (by decide), s2 177 (by decide), s2 178 (by decide), s2 179 (by decide), s2 180 (by decide), s2 181 (by decide), s2 182 (by decide)]
    refine ⟨m, ρ1 2, hm, d1, d2, d3, d4, d5, d11, x262, x241.2.2, ?_⟩
    have := u6.1 f1
    rw [s2 182 (by decide), s2 180 (by decide)] at this
    exact this
  have hW := ay_blk (hp0 := h2) (σ := (90, [702, 0], [], h2, [], 0, 0)) (ρ0 := fun k => if k = 0 then ρ1 0 else v) hP ax_XM0_ok (hA2 _) hr (Nat.le_refl _) htab ax_ro_nil ay_nl1 (fun po h => ⟨_, by cases List.mem_singleton.mp h; rfl⟩) ⟨rfl, (by show [ax_ev 2 _ 702, ax_ev 2 _ 0] = [some 702, some 0]; rw [ax_ev_c (by decide), ax_ev_c (by decide)]), rfl, rfl, hE2, hT2⟩ ax_HR.rf (show 1 ≤ 2 by decide) (fun k hk => rfl) (fun o h => h) (fun t ht => by cases ht)
  refine ax_wp_mono hW (fun o ho => Or.inr ?_)
  obtain ⟨po, hpo, ρ', r, w1, w2, w3, w4, w5, w6, w7⟩ := ho
  have w6' : ax_HR ax_wM0 ay_nMD1 h2 o.2.1 := w6.wk (ay_mem_sub (by decide +kernel))
  refine ⟨⟨po, hpo, ρ', r, fun k hk => ?_, w2, w3, w4, w5, (ay_HRw rfl ((hH.wk (ay_mem_sub (by decide +kernel))).tr hRv)).tr w6', w7⟩, ?_⟩
  · have e : k = 0 := (by omega)
    subst e
    exact (w1 0 (by decide)).trans hg1
  · rw [← hg1]
    have s3 : ∀ q g, ax_wM0.1[q]? = some g → (∀ i, ax_mem ay_nM21 g i = false) → ay_ex h2 q → ay_at o.2.1 q = ay_at h2 q := fun q g h1' h2' h3' => funext (fun i => ay_HRat w6 h1' (h2' i) h3')
    unfold ay_NTh0 at hNT ⊢
    rw [s3 175 45 rfl (by intro i; rfl) (ax_cellT hT2 (q := 175) (g := 45) rfl), s3 176 46 rfl (by intro i; rfl) (ax_cellT hT2 (q := 176) (g := 46) rfl), s3 177 47 rfl (by intro i; rfl) (ax_cellT hT2 (q := 177) (g := 47) rfl), s3 178 48 rfl (by intro i; rfl) (ax_cellT hT2 (q := 178) (g := 48) rfl), s3 179 49 rfl (by intro i; rfl) (ax_cellT hT2 (q := 179) (g := 49) rfl), s3 180 50 rfl (by intro i; rfl) (ax_cellT hT2 (q := 180) (g := 50) rfl), s3 181 51 rfl (by intro i; rfl) (ax_cellT hT2 (q := 181) (g := 51) rfl), s3 182 52 rfl (by intro i; rfl) (ax_cellT hT2 (q := 182) (g := 52) rfl)]
    exact hNT
end
section
-- behind the text
set_option maxRecDepth 40000 in
theorem q_T_net_7 {n : Nat} {s0 : Nat} {F : fx_F} {v : fx_V} {F' : fx_F} (h : Rn n k_T_net 7 [(2, 2), (3, 0), (3, 0)] [(0, s0)] F v F') :
  (s0 ≠ 0 →
   ∃ F1 : fx_F, Cl k_Net_copyFrom [(2, 3), (2, 12)] (fu F 10 1 0) (2, 0) F1 ∧
    ∃ m, m < n ∧ Rn m k_T_net 59 [(2, 2), (3, 0), (0, 0)] [] (fu (fu (fu (fu (fu (fu F1 24 3 0) 24 4 0) 32 3 0) 32 4 0) 51 2 0) 51 3 0) v F') ∧
  (s0 = 0 →
   v = (0, 4294967295) ∧ F' = (fu F 10 1 0)) := by
  have t := q_ok cv_331 ap_331 (hd := [(7, [1, 0, 0]), (59, [1, 0, 1])]) h rfl rfl
  exact t
end
