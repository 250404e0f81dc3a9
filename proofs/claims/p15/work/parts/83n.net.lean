section
/-! The net, told by heaps -/
noncomputable def lw_k (g n : Nat) : pz_C := pz_cf (pz_gt g) (pz_gN g) n
/-- of the class: refused, accepted -/
noncomputable def lw_pC (g : Nat) (F : fx_F) (v : fx_V) (F' : fx_F) : Prop :=
  ((∃ fa fp, pz63 (pz_gt g) (pz_gN g) fa fp) ∧ ∀ p i, p < 175 → (p < 10 ∨ 19 ≤ p) → F' p i = F p i) ∨
  (∃ (n l : Nat) (F1 F2 : fx_F) (m : Nat), pz_md (lw_k g n) = 20 ∧ py_82 g l ∧ gxo [10, 12, 18, 17, 14, 13] [] F F1 ∧ (F1 12 0 = pz_no (lw_k g n) ∧ F1 12 1 = (pz_ls (lw_k g n)).length ∧ F1 12 2 = pz_ro (lw_k g n) ∧ F1 12 3 = pz_rm (lw_k g n) ∧ F1 12 4 = pz_un (lw_k g n)) ∧ (∀ x, x < 2 * (pz_ls (lw_k g n)).length → F1 13 x = py_E (pz_ls (lw_k g n)) x ∧ F1 14 x = py_E (pz_ls (lw_k g n)) (nf x)) ∧ ((py_L (l / 4)).length ≤ 80 ∧ F1 12 5 = (py_L (l / 4)).length ∧ ∀ k, k < (py_L (l / 4)).length → py_ok (F1 17 k) (F1 18 k) (py_Cd (py_L (l / 4)) k)) ∧ Cl k_Net_copyFrom [(2, 3), (2, 12)] (fu F1 10 1 0) (2, 0) F2 ∧ Rn m k_T_net 59 [(2, 2), (3, 0), (0, 0)] [] (fu (fu (fu (fu (fu (fu F2 24 3 0) 24 4 0) 32 3 0) 32 4 0) 51 2 0) 51 3 0) v F')
/-- what the relation looks at of the reference -/
noncomputable def lw_gN (G G' : fx_F) : Prop := (∀ p i, p = 204 ∨ p = 205 ∨ p = 206 ∨ p = 176 → G' p i = G p i) ∧ G' 175 9 = G 175 9 ∧ G' 175 56 = G 175 56 ∧ G' 175 57 = G 175 57 ∧ G' 177 (G 175 9) = G 177 (G 175 9) ∧ G' 178 (G 175 9) = G 178 (G 175 9) ∧ G' 180 (G 175 9) = G 180 (G 175 9) ∧ G' 182 (G 175 9) = G 182 (G 175 9) ∧ (∀ j, j < 40 → G' 183 (40 * G 175 9 + j) = G 183 (40 * G 175 9 + j)) ∧ ∀ k, k < 100 → G' 184 (100 * G 175 9 + k) = G 184 (100 * G 175 9 + k)
noncomputable def lw_pM (g : Nat) (G G' : fx_F) : Prop :=
  ((∃ fa fp, pz63 (pz_gt g) (pz_gN g) fa fp) ∧ lw_gN G G') ∨
  (∃ (n l : Nat) (GB : fx_F), pz_md (lw_k g n) = 20 ∧ py_82 g l ∧ Cl k_M_startAnew [(2, 175)] GB (2, 0) G' ∧ mn GB (pz_no (lw_k g n)) (pz_ls (lw_k g n)).length (py_E (pz_ls (lw_k g n))) ∧ mcc GB (py_Cd (py_L (l / 4))) (py_L (l / 4)).length ∧ GB 179 (GB 175 9) = pz_ro (lw_k g n) ∧ GB 180 (GB 175 9) = pz_rm (lw_k g n) ∧ ((py_L (l / 4)).length ≤ 80 → cd_ok (py_Cd (py_L (l / 4))) (py_L (l / 4)).length))
theorem lw_ln {x : Nat} {o : Option Nat} (h : o = some (4 * x)) : ay_ln o = x := by
  subst h
  show 4 * x / 4 = x
  omega
theorem lw_63no {g n fa fp : Nat} (h : pz63 (pz_gt g) (pz_gN g) fa fp) (h' : pz_md (lw_k g n) = 20) : False := by
  obtain ⟨m, h⟩ := h
  have e := pz_one (t := pz_gt g) (N := pz_gN g) (n := m) (m := n) (Or.inr (by rw [h]; rfl)) (Or.inl h')
  rw [h] at e
  have e1 : pz_md (pz_fl fa fp) = 20 := (congrArg pz_md e).trans h'
  cases e1
section LWN
variable {hp : rx_H} {o : rx_O} {g : Nat}
set_option maxHeartbeats 1000000 in
theorem lw_netF (hA : ∀ B, ax_Low ax_wC ax_XC rx_P ax_APC rx_P (rx_DF, rx_FK) B) (hT : ax_HT ax_wC hp) (h31 : lw_31 hp) (hg : g % 4 = 1) (hC : lw_x30C g hp) (hH : fx_H fx_w rx_FK fx_FZ hp) (hr : ∃ n, rx_run rx_P (rx_DF, rx_FK) n rxm_331 (0, rx_args (10 :: ([] : List Nat).map rx_int) (rx_mL (rx_n rxm_331)), [], hp, [], 0, 0) = some [o]) : lw_pC g (fx_hp hp) (fx_d o.1) (fx_hp o.2.1) := by
  have hr0 : rxm_331 ∈ rx_P := ax_nth_mem (j := 331) rfl
  -- up to the call
  obtain ⟨v, hv⟩ := ay_some hT (q := 0) (g := 0) (n := 14) rfl rfl (j := 1) (by decide)
  obtain ⟨k, m, tl, f, b1, b2, b3, b4⟩ := hT.2 0 0 rfl
  have ek : (ax_wC.2.1[0]?).map (fun z => z.1) = some 10 := rfl
  rw [b1] at ek
  have ek : k = 10 := Option.some.inj ek
  subst ek
  rw [ay_eq b2] at hv
  have ev : v = 42 := (((hH.2 _ _ _ _ b2).2.2 1 v hv).2.2.2) (by decide +kernel)
  subst ev
  have s1 := ax_inv_step rxP_ok hr0 (σ' := (1, [10, 2, 2], [10], hp, [], 0, 0)) rfl rfl rfl hr
  have hgf : rx_h_gf (rx_DF, rx_FK) (rx_n rxm_331) 1 10 1 [10, 2, 2] [10] hp [] 0 0 = some [(4, [10, 2, 2], [42], hp, [], 0, 0)] := by
    show (bif Nat.beq (rx_tk 10) 2 && Nat.ble 2 (rx_pl 10) then (match rx_hg hp (Nat.sub (rx_pl 10) 2) with
      | some (t, _, l) => bif Nat.beq t 10 then (match rx_nth l 1 with
          | some x => some [(Nat.add 1 3, [10, 2, 2], x :: [], hp, [], 0, 0)]
          | none => none) else none
      | none => none) else none) = _
    rw [show rx_hg hp (Nat.sub (rx_pl 10) 2) = some (10, m, f) from b2]
    show (match rx_nth f 1 with
          | some x => some [(Nat.add 1 3, [10, 2, 2], x :: [], hp, [], 0, 0)]
          | none => none) = _
    rw [rx_nth_eq, hv]
  have s2 := ax_inv_step (pc := 1) (lv := [10, 2, 2]) (st := [10]) (hp := hp) rxP_ok hr0 (σ' := (4, [10, 2, 2], [42], hp, [], 0, 0)) rfl rfl hgf s1
  have hob : rx_rcv hp 5 [42] = true := by
    obtain ⟨k, m, tl, f, b1, b2, b3, b4⟩ := hT.2 8 2 rfl
    have ek : (ax_wC.2.1[2]?).map (fun z => z.1) = some 5 := rfl
    rw [b1] at ek
    have ek : k = 5 := Option.some.inj ek
    subst ek
    show (match rx_hg hp 8 with
      | some (t, _, _) => Nat.beq t 5
      | none => false) = true
    rw [b2]
    rfl
  have hcal : rx_cal rx_P rxm_331 330 (4, [10, 2, 2], [42], hp, [], 0, 0) = some ([42], []) := by
    obtain ⟨x, x1, x2, x3, x4⟩ : ∃ x : rx_E, rx_look (rx_cd rxm_331) 4 = some x ∧ x.2.1 = 4 ∧ x.2.2.2.2.2.1 = 330 ∧ x.2.2.2.2.2.2.1 = 20 := ⟨_, rfl, rfl, rfl, rfl⟩
    unfold rx_cal
    dsimp only
    rw [x1]
    dsimp only
    rw [show rx_nth rx_P 330 = some rxm_330 from rfl]
    dsimp only
    rw [x2, x3, x4]
    show (match rx_spl (Nat.succ (rx_np (rx_n rxm_330))) [42] [] with
      | some (as, rest) => bif true && (Nat.beq 330 330 && (!(Nat.beq 20 1) && (!(Nat.beq 20 2) && (!(Nat.beq (Nat.mod 20 4) 1) && (rx_rcv hp (Nat.div 20 4) as && rx_cok (rx_n rxm_331) (rx_n rxm_330) as rest 0 0))))) then some (as, rest) else none
      | none => none) = _
    rw [show rx_spl (Nat.succ (rx_np (rx_n rxm_330))) [42] [] = some ([42], []) from rfl]
    dsimp only
    rw [show rx_rcv hp (Nat.div 20 4) [42] = true from hob]
    rfl
  -- the text is read
  have hL := (hA (rx_rf (rx_n rxm_330) + 1) 330 rxm_330 (axm_330, axc_330) rfl rfl).2 (Nat.lt_succ_self _)
  have hE : ax_EO ax_wC ax_XC (lw_ro [g]) (1, [(1, 0, 0)], [], [], [(31, []), (30, [3])]) hp := lw_EOl (vs := [g]) (ts := [(1, 0, 0)]) rfl (fun k u hu => by
      match k, hu with
      | 0, hu => cases hu; exact Or.inr (Or.inl ⟨rfl, hg⟩)
      | k + 1, hu => cases hu) (fun f hf => by cases hf) (fun y hy => by
    rcases List.mem_cons.mp hy with e | hy
    · subst e; exact lw_NO (by decide) rfl ⟨ax_cellT hT (g := 1) rfl, h31⟩
    · cases List.mem_singleton.mp hy
      exact ⟨[g], lw_3 (Nat.succ_pos _), (ax_XF_lt (x := 30) (by decide)).mpr (lw_xC hT hC)⟩)
  obtain ⟨o1, hr1, ho1⟩ := hL (lw_c axc_330 0) List.mem_cons_self (lw_ro [g]) hp [42] rfl hE hT
  have hv0 : ∀ v ∈ ([] : List Nat), v < 4294967296 := fun v hv => by cases hv
  have H1 : fx_H fx_w rx_FK fx_FZ o1.2.1 := lw_hh (j := 330) (q := rxm_330) (r := 42) (vals := []) cv_330 rfl rfl hv0 hH hr1
  have c1 : Cl k_Rd_readText [(2, 10)] (fx_hp hp) (fx_d o1.1) (fx_hp o1.2.1) := lw_cl (j := 330) (q := rxm_330) (r := 42) (vals := []) rfl sg_330 rfl rfl hv0 hH hr1
  have k1 := w_Rd_readText c1
  have kF : ∀ p i, p < 175 → (p < 10 ∨ 19 ≤ p) → fx_hp o1.2.1 p i = fx_hp hp p i := fun p i h1 h2 => k1 p i (fun z => by simp at z; omega) (fun z => by omega)
  obtain ⟨m4, s4⟩ := ax_inv_call (σ := (4, [10, 2, 2], [42], hp, [], 0, 0)) (q := rxm_330) rxP_ok hr0 rfl hcal hr1 s2
  obtain ⟨po, hpo, ρ', r, p1, p2, p3, p4, p5, p6, p7⟩ := ho1
  have c0 : ρ' 0 = g := p1 0 (by decide)
  obtain ⟨w1, h1, iv⟩ := o1
  dsimp only at p3 p4 p5 p6 p7 H1 c1 k1 kF
  subst p7
  have hRn : ∀ s0, w1 = 4 * s0 → s0 < 4294967296 → Rn m4 k_T_net 7 [(2, 2), (3, 0), (3, 0)] [(0, s0)] (fx_hp h1) (fx_d o.1) (fx_hp o.2.1) := fun s0 e hs => by
    subst e
    refine ⟨rxm_331, [10, 2, 2], [4 * s0], h1, o, rfl, fun v hv => ?_, fun v hv => ?_, H1, ⟨rfl, fun i u v h1 h2 => ?_⟩, ?_, rfl, s4, rfl, rfl⟩
    · simp only [List.mem_cons, List.not_mem_nil, or_false] at hv
      rcases hv with e | e | e <;> (subst e; exact ⟨by decide, by decide⟩)
    · cases List.mem_singleton.mp hv
      exact fx_wI hs
    · match i, h1, h2 with
      | 0, h1, h2 => cases h1; cases h2; exact Or.inr rfl
      | 1, h1, h2 => cases h1; exact Or.inl rfl
      | 2, h1, h2 => cases h1; exact Or.inl rfl
      | i + 3, h1, h2 => simp at h1
    · show [fx_d (rx_int s0)] = [(0, s0)]
      rw [fx_dI]
  replace hpo : po ∈ [_, _] := hpo
  rcases List.mem_cons.mp hpo with e | hpo
  · subst e
    cases p2
    have v0 : w1 = 0 := by have := lw_ev_vl p3; rw [ax_vl_c (by decide)] at this; exact this
    have x63 : ax_XC 63 [ρ' 0] h1 := (ax_XF_lt (by decide)).mp (ax_gx p4 (63, [3]) List.mem_cons_self)
    rw [c0] at x63
    obtain ⟨-, e⟩ := (q_T_net_7 (hRn 0 v0 (by decide))).2 rfl
    refine Or.inl ⟨⟨_, _, x63.2⟩, fun p i h1 h2 => ?_⟩
    rw [e, fu_p (by omega)]
    exact kF p i h1 h2
  · have e := List.mem_singleton.mp hpo
    subst e
    cases p2
    have v0 : w1 = 4 := by have := lw_ev_vl p3; rw [ax_vl_c (by decide)] at this; exact this
    have x110 : ax_XC 110 [ρ' 0] h1 := (ax_XF_lt (by decide)).mp (ax_gx p4 (110, [3]) List.mem_cons_self)
    have x82 : ax_XC 82 [ρ' 0, ρ' 1] h1 := (ax_XF_lt (by decide)).mp (ax_gx p4 (82, [3, 7]) (List.mem_cons_of_mem _ List.mem_cons_self))
    have x41 : ax_XC 41 [ρ' 1] h1 := (ax_XF_lt (by decide)).mp (ax_gx p4 (41, [7]) (List.mem_cons_of_mem _ (List.mem_cons_of_mem _ List.mem_cons_self)))
    rw [c0] at x110 x82
    obtain ⟨n, hmd, d1, d2, d3, d4, d5, -, -, -, -, -, d6⟩ := x110.2.2.2.2
    obtain ⟨y1, y2, y3⟩ := x41.2.2.2
    obtain ⟨F2, c2, m2, -, hR2⟩ := (q_T_net_7 (hRn 1 v0 (by decide))).1 (by decide)
    refine Or.inr ⟨n, ρ' 1, fx_hp h1, F2, m2, hmd, x82, k1, ⟨(lw_fp (q := 10)).trans d1, (lw_fp (q := 10)).trans d2, (lw_fp (q := 10)).trans d3, (lw_fp (q := 10)).trans d4, (lw_fp (q := 10)).trans d5⟩, fun x hx => ?_, ⟨?_, (lw_fp (q := 10)).trans y2, fun k hk => ?_⟩, c2, hR2⟩
    · obtain ⟨z1, z2⟩ := py_lkE d6 hx
      exact ⟨(lw_fp (hp := h1) (q := 11)).trans (lw_ln z1), (lw_fp (hp := h1) (q := 12)).trans (lw_ln z2)⟩
    · rcases Nat.lt_or_ge 80 (py_L (ρ' 1 / 4)).length with hlt | hge
      · obtain ⟨oo, vv, z1, z2, z3⟩ := y3 80 _ (py_Cd_ex hlt)
        obtain ⟨k, m, tl, f, b1, b2, b3, b4⟩ := p5.2 15 18 rfl
        have en : (ax_wC.2.1[18]?).map (fun z => z.2.1) = some 80 := rfl
        rw [b1] at en
        have en : m = 80 := Option.some.inj en
        rw [ay_eq b2] at z1
        have := (List.getElem?_eq_some_iff.mp z1).1
        omega
      · exact hge
    · obtain ⟨oo, vv, z1, z2, z3⟩ := y3 k _ (py_Cd_ex hk)
      rw [show fx_hp h1 17 k = oo from (lw_fp (hp := h1) (q := 15)).trans (lw_ln z1), show fx_hp h1 18 k = vv from (lw_fp (hp := h1) (q := 16)).trans (lw_ln z2)]
      exact z3
/-- a place of the reference -/
theorem lw_pl1 {md : List (Nat × Nat)} {hp' : rx_H} {q g i : Nat} (hR : ax_HR ax_wC md hp hp') (hT : ax_HT ax_wC hp) (hg : ax_wC.1[q]? = some g) (hm : ax_mem md g i = false) : fx_hp hp' (q + 2) i = fx_hp hp (q + 2) i := by
  rw [lw_fp, lw_fp, ay_HRat hR hg hm (ax_cellT hT hg)]
set_option maxHeartbeats 1000000 in
theorem lw_netG0 (hTC : ax_HT ax_wC hp) (hT : ax_HT ax_wM0 hp) (hN : lw_mN0 g hp o) (a2 : Cl k_M_net [(2, 175)] (fx_hp hp) (fx_d o.1) (fx_hp o.2.1)) : lw_pM g (fx_hp hp) (fx_hp o.2.1) := by
  rcases hN with ⟨h63, -, hR, te, tr⟩ | ⟨x126, ⟨n, l, hmd, n0, n1, n2, n3, n4, nlk, n82, ny, n26⟩, hTc⟩
  · obtain ⟨z, hz, z1, z2, z3, z4⟩ := lw_int hT (q := 173) (g := 11) (j := 9) rfl ⟨_, rfl, by decide⟩ rfl
    have b9 : fx_hp hp 175 9 = 0 := by
      rw [show fx_hp hp 175 9 = ay_ln (ay_at hp 173 9) from lw_fp (q := 173), hz]
      show z / 4 = 0
      obtain ⟨z5, z6⟩ := ax_bi_pos z2 (Nat.le_trans (by decide) z3)
      omega
    refine Or.inl ⟨h63, fun p i hp4 => ?_, lw_pl1 (q := 173) (g := 11) hR hTC rfl (by decide +kernel), lw_pl1 (q := 173) (g := 11) hR hTC rfl (by decide +kernel), lw_pl1 (q := 173) (g := 11) hR hTC rfl (by decide +kernel), ?_, ?_, ?_, ?_, fun j hj => ?_, fun k hk => ?_⟩
    · rcases hp4 with e | e | e | e
      · subst e; exact lw_pl1 (q := 202) (g := 72) hR hTC rfl (lw_ng_ok (by decide +kernel))
      · subst e; exact lw_pl1 (q := 203) (g := 73) hR hTC rfl (lw_ng_ok (by decide +kernel))
      · subst e; exact lw_pl1 (q := 204) (g := 74) hR hTC rfl (lw_ng_ok (by decide +kernel))
      · subst e; exact lw_pl1 (q := 174) (g := 44) hR hTC rfl (lw_ng_ok (by decide +kernel))
    · rw [b9]; exact lw_pl1 (q := 175) (g := 45) hR hTC rfl (by decide +kernel)
    · rw [b9]; exact lw_pl1 (q := 176) (g := 46) hR hTC rfl (by decide +kernel)
    · rw [b9]; exact lw_pl1 (q := 178) (g := 48) hR hTC rfl (by decide +kernel)
    · rw [b9]; exact lw_pl1 (q := 180) (g := 50) hR hTC rfl (by decide +kernel)
    · rw [b9, show fx_hp o.2.1 183 (40 * 0 + j) = ay_ln (ay_at o.2.1 181 (40 * 0 + j)) from lw_fp (q := 181), te j hj]
      exact (lw_fp (q := 181)).symm
    · rw [b9, show fx_hp o.2.1 184 (100 * 0 + k) = ay_ln (ay_at o.2.1 182 (100 * 0 + k)) from lw_fp (q := 182), tr k hk]
      exact (lw_fp (q := 182)).symm
  · obtain ⟨z, hz, z1, z2, z3, z4⟩ := lw_int hTc (q := 173) (g := 11) (j := 9) rfl ⟨_, rfl, by decide⟩ rfl
    have b9 : fx_hp o.2.1 175 9 = 1 := by
      rw [show fx_hp o.2.1 175 9 = ay_ln (ay_at o.2.1 173 9) from lw_fp (q := 173), hz]
      show z / 4 = 1
      obtain ⟨z5, z6⟩ := ax_bi_pos z2 (Nat.le_trans (by decide) z3)
      omega
    obtain ⟨n', hmd', hno⟩ := x126
    have hn := (py_nt hmd').1.1
    obtain ⟨m, a2⟩ := c_M_net a2
    obtain ⟨F1, -, Q⟩ := q_M_net_0 a2
    refine fo_ifc fo_le Q (fun _ Q => ?_) (fun _ Q => ?_)
    · obtain ⟨F2, cS, -, e⟩ := Q
      subst e
      have kS := w_M_startAnew cS
      obtain ⟨GB, hGB⟩ : ∃ GB, fu (fu (fu F1 175 20 (F1 175 18)) 175 21 (F1 175 19)) 175 9 (i_sub 1 (fx_hp hp 175 9)) = GB := ⟨_, rfl⟩
      rw [hGB] at cS kS
      have g9 : GB 175 9 = 1 := (kS 175 9 (by decide) (fun _ => by decide)).symm.trans b9
      have gg : ∀ p i, 177 ≤ p → p ≤ 185 → GB p i = fx_hp o.2.1 p i := fun p i h1 h2 => (kS p i (fun z => by simp at z; omega) (fun z => by omega)).symm
      refine Or.inr ⟨n, l, GB, hmd, n82, cS, ⟨by rw [g9]; decide, ?_, ?_, fun j hj => ?_⟩, ⟨?_, fun k hk => ?_⟩, ?_, ?_, fun h80 => py_cdok ny n26 h80⟩
      · rw [g9, gg 177 _ (by decide) (by decide)]; exact (lw_fp (q := 175)).trans n0
      · rw [g9, gg 178 _ (by decide) (by decide)]; exact (lw_fp (q := 176)).trans n1
      · rw [g9, gg 183 _ (by decide) (by decide)]; exact (lw_fp (q := 181)).trans (lw_ln (py_lkE nlk hj).1)
      · rw [g9, gg 182 _ (by decide) (by decide)]; exact (lw_fp (q := 180)).trans ny.2.1
      · rw [g9, gg 184 _ (by decide) (by decide)]; exact (lw_fp (q := 182)).trans (lw_ln (ny.2.2 k _ (py_Cd_ex hk)))
      · rw [g9, gg 179 _ (by decide) (by decide)]; exact (lw_fp (q := 177)).trans n2
      · rw [g9, gg 180 _ (by decide) (by decide)]; exact (lw_fp (q := 178)).trans n3
    · have h2 : o.1 / 4 = 4294967295 := congrArg Prod.snd Q.1
      rw [h2] at hno
      omega
set_option maxHeartbeats 1000000 in
theorem lw_netG1 (hTC : ax_HT ax_wC hp) (hT : ax_HT ax_wM1 hp) (hN : lw_mN1 g hp o) (a2 : Cl k_M_net [(2, 175)] (fx_hp hp) (fx_d o.1) (fx_hp o.2.1)) : lw_pM g (fx_hp hp) (fx_hp o.2.1) := by
  rcases hN with ⟨h63, -, hR, te, tr⟩ | ⟨x126, ⟨n, l, hmd, n0, n1, n2, n3, n4, nlk, n82, ny, n26⟩, hTc⟩
  · obtain ⟨z, hz, z1, z2, z3, z4⟩ := lw_int hT (q := 173) (g := 11) (j := 9) rfl ⟨_, rfl, by decide⟩ rfl
    have b9 : fx_hp hp 175 9 = 1 := by
      rw [show fx_hp hp 175 9 = ay_ln (ay_at hp 173 9) from lw_fp (q := 173), hz]
      show z / 4 = 1
      obtain ⟨z5, z6⟩ := ax_bi_pos z2 (Nat.le_trans (by decide) z3)
      omega
    refine Or.inl ⟨h63, fun p i hp4 => ?_, lw_pl1 (q := 173) (g := 11) hR hTC rfl (by decide +kernel), lw_pl1 (q := 173) (g := 11) hR hTC rfl (by decide +kernel), lw_pl1 (q := 173) (g := 11) hR hTC rfl (by decide +kernel), ?_, ?_, ?_, ?_, fun j hj => ?_, fun k hk => ?_⟩
    · rcases hp4 with e | e | e | e
      · subst e; exact lw_pl1 (q := 202) (g := 72) hR hTC rfl (lw_ng_ok (by decide +kernel))
      · subst e; exact lw_pl1 (q := 203) (g := 73) hR hTC rfl (lw_ng_ok (by decide +kernel))
      · subst e; exact lw_pl1 (q := 204) (g := 74) hR hTC rfl (lw_ng_ok (by decide +kernel))
      · subst e; exact lw_pl1 (q := 174) (g := 44) hR hTC rfl (lw_ng_ok (by decide +kernel))
    · rw [b9]; exact lw_pl1 (q := 175) (g := 45) hR hTC rfl (by decide +kernel)
    · rw [b9]; exact lw_pl1 (q := 176) (g := 46) hR hTC rfl (by decide +kernel)
    · rw [b9]; exact lw_pl1 (q := 178) (g := 48) hR hTC rfl (by decide +kernel)
    · rw [b9]; exact lw_pl1 (q := 180) (g := 50) hR hTC rfl (by decide +kernel)
    · rw [b9, show fx_hp o.2.1 183 (40 * 1 + j) = ay_ln (ay_at o.2.1 181 (40 * 1 + j)) from lw_fp (q := 181), te j hj]
      exact (lw_fp (q := 181)).symm
    · rw [b9, show fx_hp o.2.1 184 (100 * 1 + k) = ay_ln (ay_at o.2.1 182 (100 * 1 + k)) from lw_fp (q := 182), tr k hk]
      exact (lw_fp (q := 182)).symm
  · obtain ⟨z, hz, z1, z2, z3, z4⟩ := lw_int hTc (q := 173) (g := 11) (j := 9) rfl ⟨_, rfl, by decide⟩ rfl
    have b9 : fx_hp o.2.1 175 9 = 0 := by
      rw [show fx_hp o.2.1 175 9 = ay_ln (ay_at o.2.1 173 9) from lw_fp (q := 173), hz]
      show z / 4 = 0
      obtain ⟨z5, z6⟩ := ax_bi_pos z2 (Nat.le_trans (by decide) z3)
      omega
    obtain ⟨n', hmd', hno⟩ := x126
    have hn := (py_nt hmd').1.1
    obtain ⟨m, a2⟩ := c_M_net a2
    obtain ⟨F1, -, Q⟩ := q_M_net_0 a2
    refine fo_ifc fo_le Q (fun _ Q => ?_) (fun _ Q => ?_)
    · obtain ⟨F2, cS, -, e⟩ := Q
      subst e
      have kS := w_M_startAnew cS
      obtain ⟨GB, hGB⟩ : ∃ GB, fu (fu (fu F1 175 20 (F1 175 18)) 175 21 (F1 175 19)) 175 9 (i_sub 1 (fx_hp hp 175 9)) = GB := ⟨_, rfl⟩
      rw [hGB] at cS kS
      have g9 : GB 175 9 = 0 := (kS 175 9 (by decide) (fun _ => by decide)).symm.trans b9
      have gg : ∀ p i, 177 ≤ p → p ≤ 185 → GB p i = fx_hp o.2.1 p i := fun p i h1 h2 => (kS p i (fun z => by simp at z; omega) (fun z => by omega)).symm
      refine Or.inr ⟨n, l, GB, hmd, n82, cS, ⟨by rw [g9]; decide, ?_, ?_, fun j hj => ?_⟩, ⟨?_, fun k hk => ?_⟩, ?_, ?_, fun h80 => py_cdok ny n26 h80⟩
      · rw [g9, gg 177 _ (by decide) (by decide)]; exact (lw_fp (q := 175)).trans n0
      · rw [g9, gg 178 _ (by decide) (by decide)]; exact (lw_fp (q := 176)).trans n1
      · rw [g9, gg 183 _ (by decide) (by decide)]; exact (lw_fp (q := 181)).trans (lw_ln (py_lkE nlk hj).1)
      · rw [g9, gg 182 _ (by decide) (by decide)]; exact (lw_fp (q := 180)).trans ny.2.1
      · rw [g9, gg 184 _ (by decide) (by decide)]; exact (lw_fp (q := 182)).trans (lw_ln (ny.2.2 k _ (py_Cd_ex hk)))
      · rw [g9, gg 179 _ (by decide) (by decide)]; exact (lw_fp (q := 177)).trans n2
      · rw [g9, gg 180 _ (by decide) (by decide)]; exact (lw_fp (q := 178)).trans n3
    · have h2 : o.1 / 4 = 4294967295 := congrArg Prod.snd Q.1
      rw [h2] at hno
      omega

end LWN
/-- both nets -/
theorem lw_netR {nn L R N g : Nat} {E C : Nat → Nat} {F F' G G' : fx_F} {v : fx_V} (h : lr F G nn L E C N R) (a : lw_pC g F v F') (b : lw_pM g G G') : ∃ (nn L : Nat) (E C : Nat → Nat) (N R : Nat), lr F' G' nn L E C N R := by
  rcases a with ⟨⟨fa, fp, a63⟩, kF⟩ | ⟨n, l, F1, F2, m, hmd, h82, k1, ⟨d0, d1, d2, d3, d4⟩, dE, ⟨h80, d5, dC⟩, cp, hR⟩
  · rcases b with ⟨-, g6, g9, g56, g57, g177, g178, g180, g182, g183, g184⟩ | ⟨n, l, GB, hmd, -⟩
    · exact ⟨_, _, _, _, _, _, lr_cg2 h kF g6 g9 g56 g57 g177 g178 g180 g182 g183 g184⟩
    · exact absurd (lw_63no a63 hmd) id
  rcases b with ⟨⟨fa, fp, b63⟩, -⟩ | ⟨n', l', GB, hmd', h82', cS, m1, m2, m9, m10, hcd⟩
  · exact absurd (lw_63no b63 hmd) id
  have e : lw_k g n' = lw_k g n := py_cf_one hmd' hmd
  have eL : py_L (l' / 4) = py_L (l / 4) := py_82_one h82' h82
  rw [e] at m1 m9 m10
  rw [eL] at m2 hcd
  have hC := hcd h80
  obtain ⟨hN, hro, hro2, hrm⟩ := py_nt hmd
  replace hN : nt_ok (pz_no (lw_k g n)) (pz_ls (lw_k g n)).length (py_E (pz_ls (lw_k g n))) := hN
  replace hro : pz_ro (lw_k g n) < pz_no (lw_k g n) ∨ pz_no (lw_k g n) = 0 := hro
  replace hro2 : pz_ro (lw_k g n) < 10 := hro2
  replace hrm : pz_rm (lw_k g n) ≤ 3 := hrm
  have hC2 : (py_L (l / 4)).length ≠ 0 → 0 < hgt (py_Cd (py_L (l / 4))) (py_L (l / 4)).length := fun z => hgt_N hC z
  obtain ⟨-, -, -, ⟨⟨⟨x1, x2, x3⟩, ⟨x4, -, -, -⟩, -, ⟨x5, x6⟩, -⟩, -⟩, ⟨⟨ra1, ra2, -⟩, -⟩, ⟨⟨rb1, rb2, -⟩, -⟩⟩ := h
  have kF : ∀ p i, p ∉ [10, 12, 18, 17, 14, 13] → p ≠ 175 → F1 p i = F p i := fun p i h1 h2 => k1 p i h1 (fun z => absurd z h2)
  have q0 : F1 2 13 = F 2 13 := kF _ _ (by decide) (by decide)
  have f12 : ∀ i, fu F1 10 1 0 12 i = F1 12 i := fun i => fu_p (by decide)
  obtain ⟨-, y1, ⟨y2, y3⟩, y4, ⟨y5, y6, y7, y8⟩, ⟨y9, y10, y11⟩, ⟨y12, y13⟩, y14, y15⟩ := s_cnet (q := F 2 13) (F := fu F1 10 1 0) (ro := pz_ro (lw_k g n)) hN hC hC2 hro hro2 x1 (by rw [fu_p (by decide)]; exact q0) ((f12 0).trans d0) ((f12 1).trans d1) ((f12 2).trans d2) ((f12 5).trans d5) (fun c hc => by rw [fu_p (by decide), fu_p (by decide)]; exact dE c hc) (fun k hk => by
    rw [fu_p (by decide), fu_p (by decide)]
    have z := hC.2 k hk
    exact py_cop (dC k hk) ⟨z.1, z.2.2.2⟩) ⟨m, cp, hR⟩
  obtain ⟨-, u1, u2, u3, u4, u5, u6, u7, u8, u9⟩ := s_startAnew hN hC hC2 hro hro2 m1 m2 m9 cS
  have hq : 53 ≤ F 2 13 ∧ F 2 13 ≤ 160 := by unfold S0 at x1; omega
  have kk : ∀ p i, p ∉ [10, 12, 18, 17, 14, 13, 3, 4, 5, 6, 7, 8, 9, 20, 21, 22, 23, 24, 32, 51, 159] → p ≠ 175 → p ≠ F 2 13 → p ≠ F 2 13 + 1 → F' p i = F p i := fun p i z1 z2 z3 z4 => by
    simp only [List.mem_cons, List.not_mem_nil, or_false, not_or] at z1
    rw [y15 p i (by simp only [List.mem_cons, List.not_mem_nil, or_false, not_or]; omega), fu_p (by omega)]
    exact kF p i (by simp only [List.mem_cons, List.not_mem_nil, or_false, not_or]; omega) z2
  have e13 : F' 2 13 = F 2 13 := kk _ _ (by decide) (by decide) (by omega) (by omega)
  have e52 : ∀ i, F' 52 i = F 52 i := fun i => kk _ _ (by decide) (by decide) (by omega) (by omega)
  have e158 : ∀ i, F' 158 i = F 158 i := fun i => kk _ _ (by decide) (by decide) (by unfold S0 at x1; omega) (by unfold S0 at x1; omega)
  have c1 : ∀ p i, p ∉ [10, 12, 18, 17, 14, 13] → p ≠ 175 → fu F1 10 1 0 p i = F p i := fun p i z1 z2 => by
    rw [fu_p (show p ≠ 10 from fun z => z1 (by rw [z]; decide))]
    exact kF p i z1 z2
  have g9 : G' 175 9 = GB 175 9 := u1 175 9 (by decide) (fun _ => by decide)
  have gg : ∀ p i, 177 ≤ p → p ≤ 185 → G' p i = GB p i := fun p i h1 h2 => u1 p i (fun z => by simp at z; omega) (fun z => by omega)
  refine ⟨_, _, _, _, _, pz_rm (lw_k g n), lr_new (ro := pz_ro (lw_k g n)) hN hC hC2 (by omega) hro hro2 ⟨y1.1, y1.2.1, y1.2.2, ?_⟩ ⟨?_, ?_, ?_⟩ ⟨by rw [e13]; exact x1, fun i hi => by rw [e52, e13]; exact x2 i hi, fun i j hi hj z => by rw [e52, e52] at z; exact x3 i j hi hj z⟩ ⟨?_, y10, y11, u6, u7⟩ ⟨by rw [e158]; exact x5, by rw [e158]; exact x6⟩ ⟨y12, y13, u8, u9⟩ y4 ⟨?_, ?_, ?_, ?_⟩ (by rw [e13]; exact y14) ⟨u2, u3, u4, u5⟩⟩
  · rw [y2, f12]; exact d3
  · exact ⟨by rw [g9]; exact m1.1, by rw [g9, gg 177 _ (by decide) (by decide)]; exact m1.2.1, by rw [g9, gg 178 _ (by decide) (by decide)]; exact m1.2.2.1, fun j hj => by rw [g9, gg 183 _ (by decide) (by decide)]; exact m1.2.2.2 j hj⟩
  · exact ⟨by rw [g9, gg 182 _ (by decide) (by decide)]; exact m2.1, fun k hk => by rw [g9, gg 184 _ (by decide) (by decide)]; exact m2.2 k hk⟩
  · rw [g9, gg 180 _ (by decide) (by decide)]
    exact m10
  · rw [y9, c1 51 1 (by decide) (by decide)]; exact x4
  · rw [y5, c1 24 1 (by decide) (by decide)]; exact ra1
  · rw [y6, c1 24 2 (by decide) (by decide)]; exact ra2
  · rw [y7, c1 32 1 (by decide) (by decide)]; exact rb1
  · rw [y8, c1 32 2 (by decide) (by decide)]; exact rb2
end
section
/-! The constructors, by the kernel; the heap behind them is as both worlds say -/
noncomputable def lw_okb (w : ax_W) (t : ax_Y) (v : Nat) : Bool :=
  bif Nat.beq t.1 0 then Nat.beq (rx_tk v) 0 && (Nat.blt (rx_pl v) 4294967296 && (Nat.ble t.2.1 (rx_bi (rx_pl v)) && Nat.ble (rx_bi (rx_pl v)) t.2.2))
  else bif Nat.beq t.1 1 then Nat.beq (rx_tk v) 1
  else bif Nat.beq t.1 2 then Nat.beq (rx_tk v) 2 && (Nat.ble 2 (rx_pl v) && (Nat.blt (rx_pl v) 258 && (match rx_nth w.1 (Nat.sub (rx_pl v) 2) with
    | some g => Nat.beq g t.2.1
    | none => false)))
  else Nat.beq t.1 3 && (Nat.beq v t.2.1 && Nat.beq (rx_tk v) 2)
theorem lw_okb_ok {w : ax_W} {t : ax_Y} {v : Nat} (h : lw_okb w t v = true) : ax_ok w t v := by
  unfold lw_okb at h
  rcases ax_condY h with ⟨h0, h⟩ | ⟨-, h⟩
  · obtain ⟨c1, h⟩ := rx_and2.mp h
    obtain ⟨c2, h⟩ := rx_and2.mp h
    obtain ⟨c3, c4⟩ := rx_and2.mp h
    exact Or.inl ⟨rx_beq.mp h0, rx_beq.mp c1, rx_blt.mp c2, rx_ble.mp c3, rx_ble.mp c4⟩
  rcases ax_condY h with ⟨h0, h⟩ | ⟨-, h⟩
  · exact Or.inr (Or.inl ⟨rx_beq.mp h0, rx_beq.mp h⟩)
  rcases ax_condY h with ⟨h0, h⟩ | ⟨-, h⟩
  · obtain ⟨c1, h⟩ := rx_and2.mp h
    obtain ⟨c2, h⟩ := rx_and2.mp h
    obtain ⟨c3, h⟩ := rx_and2.mp h
    rw [rx_nth_eq] at h
    cases e : w.1[Nat.sub (rx_pl v) 2]? with
    | none => rw [e] at h; cases h
    | some g =>
      rw [e] at h
      have hg : g = t.2.1 := rx_beq.mp h
      subst hg
      exact Or.inr (Or.inr (Or.inl ⟨rx_beq.mp h0, rx_beq.mp c1, rx_ble.mp c2, rx_blt.mp c3, e⟩))
  · obtain ⟨c0, h⟩ := rx_and2.mp h
    obtain ⟨c1, c2⟩ := rx_and2.mp h
    exact Or.inr (Or.inr (Or.inr ⟨rx_beq.mp c0, rx_beq.mp c1, rx_beq.mp c2⟩))
noncomputable def lw_tyb (w : ax_W) (l : List (Nat × ax_Y)) (f : List Nat) : Nat → Bool := List.rec (motive := fun _ => Nat → Bool) (fun _ => true) (fun v _ ih i => bif (match ax_at l i with
  | some t => lw_okb w t v
  | none => false) then ih (Nat.succ i) else false) f
theorem lw_tyb_ok {w : ax_W} {l : List (Nat × ax_Y)} : ∀ {f : List Nat} {i : Nat}, lw_tyb w l f i = true → ∀ j v : Nat, f[j]? = some v → ∃ t, ax_at l (i + j) = some t ∧ ax_ok w t v
  | [], i, _, j, v, hj => by simp at hj
  | x :: f, i, h, j, v, hj => by
    replace h : (bif (match ax_at l i with
      | some t => lw_okb w t x
      | none => false) then lw_tyb w l f (i + 1) else false) = true := h
    rcases ax_condY h with ⟨h0, h⟩ | ⟨-, h⟩
    · cases j with
      | zero =>
        cases hj
        cases e : ax_at l i with
        | none => rw [e] at h0; cases h0
        | some t =>
          rw [e] at h0
          exact ⟨t, rfl, lw_okb_ok h0⟩
      | succ j =>
        obtain ⟨t, t1, t2⟩ := lw_tyb_ok h j v (by simpa using hj)
        exact ⟨t, by rw [show i + (j + 1) = i + 1 + j by omega]; exact t1, t2⟩
    · cases h
noncomputable def lw_cb (w : ax_W) (hp : rx_H) (q : Nat) : Bool := match rx_nth w.1 q with
  | none => true
  | some g => (match rx_nth w.2.1 g, rx_hg hp q with
    | some (k, n, l), some (k2, n2, f) => Nat.beq k2 k && (Nat.beq n2 n && (Nat.beq (rx_len f) n && lw_tyb w l f 0))
    | _, _ => false)
noncomputable def lw_htb (w : ax_W) (hp : rx_H) : Bool := Nat.ble hp.1 256 && (Nat.ble (rx_len w.1) 256 && lw_alln (lw_cb w hp) 256)
theorem lw_htb_ok {w : ax_W} {hp : rx_H} (h : lw_htb w hp = true) : ax_HT w hp := by
  obtain ⟨h1, h⟩ := rx_and2.mp h
  obtain ⟨h2, h3⟩ := rx_and2.mp h
  refine ⟨rx_ble.mp h1, fun q g hq => ?_⟩
  have hq2 : q < 256 := Nat.lt_of_lt_of_le (List.getElem?_eq_some_iff.mp hq).1 (by rw [← rx_len_eq]; exact rx_ble.mp h2)
  have hc := lw_alln_ok h3 q hq2
  unfold lw_cb at hc
  rw [rx_nth_eq, hq] at hc
  dsimp only at hc
  rw [rx_nth_eq] at hc
  cases e1 : w.2.1[g]? with
  | none => rw [e1] at hc; cases hc
  | some z =>
    obtain ⟨k, n, l⟩ := z
    cases e2 : rx_hg hp q with
    | none => rw [e1, e2] at hc; cases hc
    | some y =>
      obtain ⟨k2, n2, f⟩ := y
      rw [e1, e2] at hc
      dsimp only at hc
      obtain ⟨c1, hc⟩ := rx_and2.mp hc
      obtain ⟨c2, hc⟩ := rx_and2.mp hc
      obtain ⟨c3, c4⟩ := rx_and2.mp hc
      have c1 : k2 = k := rx_beq.mp c1
      have c2 : n2 = n := rx_beq.mp c2
      subst c1
      subst c2
      refine ⟨k2, n2, l, f, rfl, rfl, by rw [← rx_len_eq]; exact rx_beq.mp c3, fun i v hv => ?_⟩
      obtain ⟨t, t1, t2⟩ := lw_tyb_ok c4 i v hv
      rw [Nat.zero_add] at t1
      exact ⟨t, t1, t2⟩
/-- a cell holds 0 -/
noncomputable def lw_z (hp : rx_H) (q i : Nat) : Bool := match rx_hg hp q with
  | some (_, _, f) => (match rx_nth f i with
    | some v => Nat.beq v 0
    | none => false)
  | none => false
theorem lw_z_ok {hp : rx_H} {q i : Nat} (h : lw_z hp q i = true) : ∃ (k n : Nat) (f : List Nat), rx_hg hp q = some (k, n, f) ∧ f[i]? = some 0 := by
  unfold lw_z at h
  cases e : rx_hg hp q with
  | none => rw [e] at h; cases h
  | some y =>
    obtain ⟨k, n, f⟩ := y
    rw [e] at h
    dsimp only at h
    rw [rx_nth_eq] at h
    cases e2 : f[i]? with
    | none => rw [e2] at h; cases h
    | some v =>
      rw [e2] at h
      have : v = 0 := rx_beq.mp h
      subst this
      exact ⟨k, n, f, rfl, e2⟩
theorem lw_z_ay {hp : rx_H} {q i : Nat} (h : lw_z hp q i = true) : ay_at hp q i = some 0 := by
  obtain ⟨k, n, f, e1, e2⟩ := lw_z_ok h
  rw [ay_eq e1]
  exact e2
/-- a cell holds nothing but 0 -/
noncomputable def lw_zz (hp : rx_H) (q : Nat) : Bool := match rx_hg hp q with
  | some (_, _, f) => f.all (fun v => Nat.beq v 0)
  | none => false
theorem lw_zz_ok {hp : rx_H} {q : Nat} (h : lw_zz hp q = true) : ax_M1 q hp := by
  unfold lw_zz at h
  cases e : rx_hg hp q with
  | none => rw [e] at h; cases h
  | some y =>
    obtain ⟨k, n, f⟩ := y
    rw [e] at h
    refine ⟨k, n, f, e, fun i v hv => ?_⟩
    have : v = 0 := rx_beq.mp (List.all_eq_true.mp h v (List.mem_of_getElem? hv))
    subst this
    have e0 : rx_bi (0 / 4) = 2147483648 := rfl
    refine ⟨fun _ _ => ?_, fun _ _ => ?_, fun _ _ => ?_⟩ <;> (unfold ax_rng; rw [e0]; exact ⟨by decide, by decide⟩)
noncomputable def lw_v (hp : rx_H) (q i v : Nat) : Bool := match rx_hg hp q with
  | some (_, _, f) => (match rx_nth f i with
    | some x => Nat.beq x v
    | none => false)
  | none => false
theorem lw_v_ok {hp : rx_H} {q i v : Nat} (h : lw_v hp q i v = true) : ay_at hp q i = some v := by
  unfold lw_v at h
  cases e : rx_hg hp q with
  | none => rw [e] at h; cases h
  | some y =>
    obtain ⟨k, n, f⟩ := y
    rw [e] at h
    dsimp only at h
    rw [ay_eq e]
    cases e2 : rx_nth f i with
    | none => rw [e2] at h; cases h
    | some x =>
      rw [e2] at h
      rw [rx_nth_eq] at e2
      rw [e2, rx_beq.mp h]
noncomputable def lw_chkB (hp : rx_H) : Bool := lw_htb ax_wC hp && (lw_htb ax_wM0 hp && (lw_z hp 8 1 && (lw_z hp 173 11 && (lw_z hp 49 2 && (lw_z hp 49 3 && (lw_z hp 173 56 && (lw_z hp 173 57 && (lw_zz hp 202 && (lw_zz hp 203 && (lw_z hp 176 0 && (lw_z hp 180 0 && (lw_z hp 8 3 && (lw_z hp 173 20 && (lw_v hp 8 4 17179869180 && (lw_v hp 173 21 17179869180 && (lw_v hp 10 6 54 && (lw_v hp 10 7 58 && (lw_v hp 10 10 70 && lw_v hp 10 11 74))))))))))))))))))
theorem lw_chkB_ok {hp : rx_H} (h : lw_chkB hp = true) : lw_J hp := by
  obtain ⟨c1, h⟩ := rx_and2.mp h
  obtain ⟨c2, h⟩ := rx_and2.mp h
  obtain ⟨c3, h⟩ := rx_and2.mp h
  obtain ⟨c4, h⟩ := rx_and2.mp h
  obtain ⟨c5, h⟩ := rx_and2.mp h
  obtain ⟨c6, h⟩ := rx_and2.mp h
  obtain ⟨c7, h⟩ := rx_and2.mp h
  obtain ⟨c8, h⟩ := rx_and2.mp h
  obtain ⟨c9, h⟩ := rx_and2.mp h
  obtain ⟨c10, h⟩ := rx_and2.mp h
  obtain ⟨c11, h⟩ := rx_and2.mp h
  obtain ⟨c12, h⟩ := rx_and2.mp h
  obtain ⟨c13, h⟩ := rx_and2.mp h
  obtain ⟨c14, h⟩ := rx_and2.mp h
  obtain ⟨c15, h⟩ := rx_and2.mp h
  obtain ⟨c16, h⟩ := rx_and2.mp h
  obtain ⟨c17, h⟩ := rx_and2.mp h
  obtain ⟨c18, h⟩ := rx_and2.mp h
  obtain ⟨c19, c20⟩ := rx_and2.mp h
  have hC := lw_htb_ok c1
  have hM := lw_htb_ok c2
  have ex : ∀ q g : Nat, ax_wM0.1[q]? = some g → ay_ex hp q := fun q g hq => by
    obtain ⟨k, n, tl, f, b1, b2, b3, b4⟩ := hM.2 q g hq
    exact ⟨k, n, f, b2⟩
  have x0 : ax_XC 0 [80] hp := by
    obtain ⟨k, n, f, e1, e2⟩ := lw_z_ok c5
    obtain ⟨k', n', f', e3, e4⟩ := lw_z_ok c6
    rw [e1] at e3
    cases e3
    exact ⟨k, n, 0, 0, f, e1, e2, e4, by decide⟩
  have m0 : ax_XM 0 0 [80] hp := by
    obtain ⟨k, n, f, e1, e2⟩ := lw_z_ok c7
    obtain ⟨k', n', f', e3, e4⟩ := lw_z_ok c8
    rw [e1] at e3
    cases e3
    exact ⟨k, n, 0, 0, f, e1, e2, e4, by decide⟩
  have m25 : ax_XM 0 25 [] hp := by
    refine ⟨ex _ _ rfl, ex _ _ rfl, ex _ _ rfl, ?_⟩
    rw [lw_z_ay c11]
    intro j hj
    exact absurd (show j < 2 * (0 / 4) from hj) (by omega)
  have m26 : ax_XM 0 26 [] hp := by
    refine ⟨ex _ _ rfl, ex _ _ rfl, ?_⟩
    rw [lw_z_ay c12]
    intro k hk
    have hk : k ≤ 0 / 4 := hk
    have : k = 0 := by omega
    subst this
    intro z
    cases z
  refine Or.inl ⟨⟨hC, x0, hM, m0, lw_zz_ok c9, lw_zz_ok c10, m25, m26⟩, ⟨1, rfl, ?_, ?_⟩, ⟨lw_v_ok c17, lw_v_ok c18, lw_v_ok c19, lw_v_ok c20⟩, (lw_z_ay c13).trans (lw_z_ay c14).symm, (lw_v_ok c15).trans (lw_v_ok c16).symm⟩
  · unfold lw_x30C
    rw [lw_z_ay c3]
    exact ⟨rfl, by decide, fun j hj => absurd (show j < 0 from hj) (by omega)⟩
  · unfold lw_x30M
    rw [lw_z_ay c4]
    exact ⟨rfl, by decide, fun j hj => absurd (show j < 0 from hj) (by omega)⟩
noncomputable def lw_lT : List Nat := [2, 2, 2, 2, 2, 2, 2, 2, 2, 2, 2, 2, 2, 2]
noncomputable def lw_lM : List Nat := [2, 2, 2, 2, 2, 2, 2, 2, 2, 0, 2, 0, 0, 0, 0, 0, 0, 0, 0, 0, 0, 0, 2, 0, 0, 0, 2, 0, 0, 2, 2, 2, 2, 2, 2, 2, 2, 2, 2, 2, 0, 0, 0, 0, 2, 2, 2, 2, 2, 0, 0, 0, 0, 2, 2, 2, 0, 0]
noncomputable def lw_h1 : rx_H := rx_hp rx_h0 (10, 14, lw_lT)
noncomputable def lw_run1 : Option (List rx_O) := rx_run rx_P (rx_DF, rx_FK) 200000 rxm_182 (0, rx_args [10] (rx_mL (rx_n rxm_182)), [], lw_h1, [], 0, 0)
noncomputable def lw_run2 (hA : rx_H) : Option (List rx_O) := rx_run rx_P (rx_DF, rx_FK) 200000 rxm_265 (0, rx_args [702] (rx_mL (rx_n rxm_265)), [], rx_hp hA (11, 58, lw_lM), [], 0, 0)
noncomputable def lw_g2 (o : Option (List rx_O)) : Bool := match o with
  | some [(_, hB, [])] => lw_chkB hB && lw_chkR hB
  | _ => false
noncomputable def lw_g1 (o : Option (List rx_O)) : Bool := match o with
  | some [(_, hA, [])] => Nat.beq hA.1 173 && lw_g2 (lw_run2 hA)
  | _ => false
theorem lw_go : lw_g1 lw_run1 = true := by decide +kernel
end
section
theorem lw_ex : ∃ (v1 v2 : Nat) (hA hB : rx_H), lw_run1 = some [(v1, hA, [])] ∧ hA.1 = 173 ∧ lw_run2 hA = some [(v2, hB, [])] ∧ lw_JR hB := by
  have h := lw_go
  generalize lw_run1 = o1 at h ⊢
  match o1, h with
  | some [(v1, hA, [])], h =>
    obtain ⟨h1, h⟩ := rx_and2.mp h
    replace h : lw_g2 (lw_run2 hA) = true := h
    generalize ho : lw_run2 hA = o2 at h
    match o2, h with
    | some [(v2, hB, [])], h =>
      obtain ⟨h2, h3⟩ := rx_and2.mp (show (lw_chkB hB && lw_chkR hB) = true from h)
      exact ⟨v1, v2, hA, hB, rfl, rx_beq.mp h1, ho, lw_chkB_ok h2, lw_chkR_ok h3⟩
    | none, h => cases h
    | some [], h => cases h
    | some ((_, _, _ :: _) :: _), h => cases h
    | some ((_, _, []) :: _ :: _), h => cases h
  | none, h => cases h
  | some [], h => cases h
  | some ((_, _, _ :: _) :: _), h => cases h
  | some ((_, _, []) :: _ :: _), h => cases h
section LWB
variable {l : Launch} {cy : Nat → ClassId} {D : va_G} {L : Nat} {sx : Nat → Nat} {G : rx_S → Prop}
theorem lw_cal0 {hp : rx_H} {pc j nb ref c s : Nat} {q : rx_M} {lv rest : List Nat} (hx : ∃ x : rx_E, rx_look (rx_cd rxm_332) pc = some x ∧ x.2.1 = 4 ∧ x.2.2.2.2.2.1 = j ∧ x.2.2.2.2.2.2.1 = nb) (hnb : (!(Nat.beq nb 1) && (!(Nat.beq nb 2) && !(Nat.beq (Nat.mod nb 4) 1))) = true) (hq : rx_nth rx_P j = some q) (hn : rx_np (rx_n q) = 0) (hrc : rx_obj hp (Nat.div nb 4) ref = true)
    (hok : rx_cok (rx_n (rxl L sx)) (rx_n q) [ref] rest c s = true) : rx_cal rx_P (rxl L sx) j (pc, lv, ref :: rest, hp, [], c, s) = some ([ref], rest) := by
  obtain ⟨x, x1, x2, x3, x4⟩ := hx
  obtain ⟨n1, hnb⟩ := rx_and2.mp hnb
  obtain ⟨n2, n3⟩ := rx_and2.mp hnb
  have hspl : rx_spl (Nat.succ (rx_np (rx_n q))) (ref :: rest) [] = some ([ref], rest) := by
    rw [hn]
    rfl
  unfold rx_cal
  dsimp only
  rw [show rx_look (rx_cd (rxl L sx)) pc = some x from x1]
  dsimp only
  rw [hq]
  dsimp only
  rw [x2, x3, x4]
  show (match rx_spl (Nat.succ (rx_np (rx_n q))) (ref :: rest) [] with
    | some (as, rest) => bif true && (Nat.beq j j && (!(Nat.beq nb 1) && (!(Nat.beq nb 2) && (!(Nat.beq (Nat.mod nb 4) 1) && (rx_rcv hp (Nat.div nb 4) as && rx_cok (rx_n (rxl L sx)) (rx_n q) as rest c s))))) then some (as, rest) else none
    | none => none) = _
  rw [hspl]
  dsimp only
  rw [hok, n1, n2, n3, Nat.beq_refl, show rx_rcv hp (Nat.div nb 4) [ref] = true from hrc]
  rfl
/-- up to the loop -/
theorem lw_begin (R : lw_Rules l cy D (rxl L sx) G) (hG : ∀ hp, lw_JR hp → G (18, lw_LV 0, [], hp, [], 205, 8956)) : G rx_s0 := by
  obtain ⟨v1, v2, hA, hB, e1, e2, e3, e4⟩ := lw_ex
  refine lw_step R (pc := 0) (h := rx_h_new) (a := 10) (σ' := (3, [6, 2, 2, 2], [10], lw_h1, [], 1, 14)) ⟨_, rfl, rfl, rfl, rfl⟩ (fun _ => rfl) ?_
  refine lw_step R (h := rx_h_dup) (a := 0) (σ' := (4, [6, 2, 2, 2], [10, 10], lw_h1, [], 1, 14)) ⟨_, rfl, rfl, rfl, rfl⟩ (fun _ => rfl) ?_
  refine R.2.2 182 rxm_182 [10] [10] [(v1, hA, [])] _ rfl rfl (rx_at_run rxP_ok (ax_nth_mem (j := 182) rfl) (n := 200000) e1) (fun o ho => ?_)
  rw [List.mem_singleton.mp ho]
  show G (7, [6, 2, 2, 2], [10], hA, [], 173, 4313)
  refine lw_step R (h := rx_h_sto rx_isR 1 1) (a := 0) (σ' := (8, [6, 10, 2, 2], [], hA, [], 173, 4313)) ⟨_, rfl, rfl, rfl, rfl⟩ (fun _ => rfl) ?_
  refine lw_step R (h := rx_h_new) (a := 11) (σ' := (11, [6, 10, 2, 2], [702], rx_hp hA (11, 58, lw_lM), [], 174, 4371)) ⟨_, rfl, rfl, rfl, rfl⟩ (fun _ => ?_) ?_
  · show (bif Nat.blt hA.1 256 && (true && true) then some [(11, [6, 10, 2, 2], [rx_ref hA.1], rx_hp hA (11, 58, lw_lM), [], 174, 4371)] else none) = _
    rw [e2]
    rfl
  refine lw_step R (h := rx_h_dup) (a := 0) (σ' := (12, [6, 10, 2, 2], [702, 702], rx_hp hA (11, 58, lw_lM), [], 174, 4371)) ⟨_, rfl, rfl, rfl, rfl⟩ (fun _ => rfl) ?_
  have hob : rx_obj (rx_hp hA (11, 58, lw_lM)) 11 702 = true := by
    show (match rx_hg (rx_hp hA (11, 58, lw_lM)) 173 with
      | some (t, _, _) => Nat.beq t 11
      | none => false) = true
    rw [rx_hg_hp (by rw [e2]; decide), if_pos e2.symm]
    rfl
  refine R.2.2 265 rxm_265 [702] [702] [(v2, hB, [])] _ rfl ?_ (rx_at_run rxP_ok (ax_nth_mem (j := 265) rfl) (n := 200000) e3) (fun o ho => ?_)
  · exact lw_cal0 (nb := 44) ⟨_, rfl, rfl, rfl, rfl⟩ rfl rfl rfl hob rfl
  rw [List.mem_singleton.mp ho]
  show G (15, [6, 10, 2, 2], [702], hB, [], 205, 8956)
  refine lw_step R (h := rx_h_sto rx_isR 2 1) (a := 0) (σ' := (16, [6, 10, 702, 2], [], hB, [], 205, 8956)) ⟨_, rfl, rfl, rfl, rfl⟩ (fun _ => rfl) ?_
  refine lw_step R (h := rx_h_psh 1) (a := 0) (σ' := (17, [6, 10, 702, 2], [rx_int 0], hB, [], 205, 8956)) ⟨_, rfl, rfl, rfl, rfl⟩ (fun _ => rfl) ?_
  refine lw_step R (h := rx_h_sto rx_isI 3 1) (a := 0) (σ' := (18, lw_LV 0, [], hB, [], 205, 8956)) ⟨_, rfl, rfl, rfl, rfl⟩ (fun _ => rfl) ?_
  exact hG hB e4
end LWB
end
