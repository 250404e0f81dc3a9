section
/-- the contracts -/
noncomputable def lw_H : Prop := (∀ B, ax_Low ax_wC ax_XC rx_P ax_APC rx_P (rx_DF, rx_FK) B) ∧ (∀ B, ax_Low ax_wM0 (ax_XM 0) rx_P ax_APM0 rx_P (rx_DF, rx_FK) B) ∧ (∀ B, ax_Low ax_wM1 (ax_XM 1) rx_P ax_APM1 rx_P (rx_DF, rx_FK) B)
section LWK
variable {l : Launch} {cy : Nat → ClassId} {D : va_G} {L : Nat} {sx : Nat → Nat} {G : rx_S → Prop} {hp : rx_H} {i pc : Nat}
theorem lw_cc (R : lw_Rules l cy D (rxl L sx) G) {kd j nb ref : Nat} {q : rx_M} (vals : List Nat) {lv : List Nat} {Q : rx_O → Prop} (hx : ∃ x : rx_E, rx_look (rx_cd rxm_332) pc = some x ∧ x.2.1 = 4 ∧ x.2.2.2.2.2.1 = j ∧ x.2.2.2.2.2.2.1 = nb)
    (hnb : (!(Nat.beq nb 1) && (!(Nat.beq nb 2) && !(Nat.beq (Nat.mod nb 4) 1))) = true) (hq : rx_nth rx_P j = some q) (hn : rx_np (rx_n q) = vals.length) (hJr : ref % 4 ≠ 1) (hrc : rx_obj hp (Nat.div nb 4) ref = true)
    (hroom : (Nat.ble (Nat.succ (rx_rf (rx_n q))) 34 && (Nat.ble (Nat.add (Nat.add 19 (rx_mL (rx_n q))) (rx_rl (rx_n q))) 988 && (Nat.beq (rx_rc (rx_n q)) 0 && (Nat.beq (rx_rs (rx_n q)) 0 && Nat.ble (Nat.succ vals.length) (rx_mL (rx_n q)))))) = true) (hrk : Nat.beq (rx_rk (rx_n q)) 0 = false)
    (hpop : (kd = 0 ∧ lw_at (pc + 3) rx_h_pop 0) ∨ (kd = 1 ∧ lw_at (pc + 3) rx_h_pop2 0)) (hW : ax_Wp rx_P (rx_DF, rx_FK) q (0, rx_args (ref :: vals.map rx_int) (rx_mL (rx_n q)), [], hp, [], 0, 0) Q) (hQ : ∀ o, Q o → o.2.2 = [] ∧ o.1 % 4 = kd) (hG : ∀ o, Q o ∧ (∃ n, rx_run rx_P (rx_DF, rx_FK) n q (0, rx_args (ref :: vals.map rx_int) (rx_mL (rx_n q)), [], hp, [], 0, 0) = some [o]) → G (pc + 4, lv, [], o.2.1, [], 205, 8956)) : G (pc, lv, (vals.map rx_int).reverse ++ [ref], hp, [], 205, 8956) := by
  refine lw_call R vals [] hx hnb hq hn hJr hrc hroom (Nat.zero_le _) (ax_wp_run hW) (fun o ho => ?_)
  have hG := hG o ho
  obtain ⟨e1, e2⟩ := hQ o ho.1
  obtain ⟨oa, h1, iv⟩ := o
  dsimp only at e1 e2 hG ⊢
  subst e1
  rw [hrk, cond_false]
  rcases hpop with ⟨rfl, hpp⟩ | ⟨rfl, hpp⟩
  · exact lw_pop R (by rw [e2]; decide) hpp hG
  · exact lw_pop2 R e2 hpp hG
/-- a call that is compared: its answer stays -/
theorem lw_cv (R : lw_Rules l cy D (rxl L sx) G) {j nb ref : Nat} {q : rx_M} (vals rest : List Nat) {lv : List Nat} {Q : rx_O → Prop} (hx : ∃ x : rx_E, rx_look (rx_cd rxm_332) pc = some x ∧ x.2.1 = 4 ∧ x.2.2.2.2.2.1 = j ∧ x.2.2.2.2.2.2.1 = nb)
    (hnb : (!(Nat.beq nb 1) && (!(Nat.beq nb 2) && !(Nat.beq (Nat.mod nb 4) 1))) = true) (hq : rx_nth rx_P j = some q) (hn : rx_np (rx_n q) = vals.length) (hJr : ref % 4 ≠ 1) (hrc : rx_obj hp (Nat.div nb 4) ref = true)
    (hroom : (Nat.ble (Nat.succ (rx_rf (rx_n q))) 34 && (Nat.ble (Nat.add (Nat.add 19 (rx_mL (rx_n q))) (rx_rl (rx_n q))) 988 && (Nat.beq (rx_rc (rx_n q)) 0 && (Nat.beq (rx_rs (rx_n q)) 0 && Nat.ble (Nat.succ vals.length) (rx_mL (rx_n q)))))) = true) (hrk : Nat.beq (rx_rk (rx_n q)) 0 = false) (hcat : rx_cat rest ≤ 8)
    (hW : ax_Wp rx_P (rx_DF, rx_FK) q (0, rx_args (ref :: vals.map rx_int) (rx_mL (rx_n q)), [], hp, [], 0, 0) Q) (hQ : ∀ o, Q o → o.2.2 = []) (hG : ∀ o, Q o ∧ (∃ n, rx_run rx_P (rx_DF, rx_FK) n q (0, rx_args (ref :: vals.map rx_int) (rx_mL (rx_n q)), [], hp, [], 0, 0) = some [o]) → G (pc + 3, lv, o.1 :: rest, o.2.1, [], 205, 8956)) : G (pc, lv, (vals.map rx_int).reverse ++ ref :: rest, hp, [], 205, 8956) := by
  refine lw_call R vals rest hx hnb hq hn hJr hrc hroom hcat (ax_wp_run hW) (fun o ho => ?_)
  have hG := hG o ho
  have e1 := hQ o ho.1
  obtain ⟨oa, h1, iv⟩ := o
  dsimp only at e1 hG ⊢
  subst e1
  rw [hrk, cond_false]
  exact hG
theorem lw_cat1 {v : Nat} : rx_cat [v] ≤ 8 := by
  show (bif rx_isJ v then 2 else 1) ≤ 8
  cases rx_isJ v <;> decide

set_option maxHeartbeats 1000000 in
/-- feed -/
theorem lw_k0 (R : lw_Rules l cy D (rxl L sx) G) (H : lw_H) (hL : L ≤ 3072) (hsx : ∀ j, sx j < 4294967296) (hi : i + 6 ≤ L) (hJ : lw_JR hp) (hN : ∀ hp', lw_JR hp' → G (1409, lw_LV i, [], hp', [], 205, 8956)) : G (220, lw_LV i, [], hp, [], 205, 8956) := by
  have hv : ∀ v ∈ ([sx (i + 1), sx (i + 2), sx (i + 3), sx (i + 4), sx (i + 5)] : List Nat), v < 4294967296 := (fun v hv => by simp only [List.mem_cons, List.not_mem_nil, or_false] at hv; rcases hv with rfl | rfl | rfl | rfl | rfl <;> exact hsx _)
  obtain ⟨hJ, hR⟩ := hJ
  refine lw_step R (h := rx_h_ld rx_isR 1 1) (a := 0) (σ' := (221, lw_LV i, [10], hp, [], 205, 8956)) ⟨_, rfl, rfl, rfl, rfl⟩ (fun _ => rfl) ?_
  refine lw_push R hL (k := 1) (by omega) ⟨_, rfl, rfl, rfl, rfl⟩ ⟨_, rfl, rfl, rfl, rfl⟩ ⟨_, rfl, rfl, rfl, rfl⟩ ⟨_, rfl, rfl, rfl, rfl⟩ ⟨_, rfl, rfl, rfl, rfl⟩ ?_
  refine lw_push R hL (k := 2) (by omega) ⟨_, rfl, rfl, rfl, rfl⟩ ⟨_, rfl, rfl, rfl, rfl⟩ ⟨_, rfl, rfl, rfl, rfl⟩ ⟨_, rfl, rfl, rfl, rfl⟩ ⟨_, rfl, rfl, rfl, rfl⟩ ?_
  refine lw_push R hL (k := 3) (by omega) ⟨_, rfl, rfl, rfl, rfl⟩ ⟨_, rfl, rfl, rfl, rfl⟩ ⟨_, rfl, rfl, rfl, rfl⟩ ⟨_, rfl, rfl, rfl, rfl⟩ ⟨_, rfl, rfl, rfl, rfl⟩ ?_
  refine lw_push R hL (k := 4) (by omega) ⟨_, rfl, rfl, rfl, rfl⟩ ⟨_, rfl, rfl, rfl, rfl⟩ ⟨_, rfl, rfl, rfl, rfl⟩ ⟨_, rfl, rfl, rfl, rfl⟩ ⟨_, rfl, rfl, rfl, rfl⟩ ?_
  refine lw_push R hL (k := 5) (by omega) ⟨_, rfl, rfl, rfl, rfl⟩ ⟨_, rfl, rfl, rfl, rfl⟩ ⟨_, rfl, rfl, rfl, rfl⟩ ⟨_, rfl, rfl, rfl, rfl⟩ ⟨_, rfl, rfl, rfl, rfl⟩ ?_
  have J0 := hJ.T
  rcases hJ with ⟨hB, ⟨g, hg, hC, hM⟩, h31, hF⟩ | ⟨hB, ⟨g, hg, hC, hM⟩, h31, hF⟩
  · refine lw_cc (kd := 0) R (j := 109) (nb := 40) (ref := 10) (q := rxm_109) [sx (i + 1), sx (i + 2), sx (i + 3), sx (i + 4), sx (i + 5)] ⟨_, rfl, rfl, rfl, rfl⟩ rfl rfl rfl (by decide) (lw_rcT hB.1) rfl rfl (Or.inl ⟨rfl, ⟨_, rfl, rfl, rfl, rfl⟩⟩) (lw_feedC H.1 lw_W0 hB h31 hF hg hC hM hv) (fun o h => ⟨h.1, h.2.1⟩) (fun o1 h1 => ?_)
    obtain ⟨e1, e2, ⟨e3, e4, e5, e6, e8⟩, e7⟩ := h1.1
    obtain ⟨a1, H1, c1⟩ := lw_rnC (j := 109) (q := rxm_109) (vals := [sx (i + 1), sx (i + 2), sx (i + 3), sx (i + 4), sx (i + 5)]) rfl sg_109 rfl cv_109 hv J0 hR e8 h1.2
    refine lw_step R (h := rx_h_ld rx_isR 2 1) (a := 0) (σ' := (251, lw_LV i, [702], o1.2.1, [], 205, 8956)) ⟨_, rfl, rfl, rfl, rfl⟩ (fun _ => rfl) ?_
    refine lw_push R hL (k := 1) (by omega) ⟨_, rfl, rfl, rfl, rfl⟩ ⟨_, rfl, rfl, rfl, rfl⟩ ⟨_, rfl, rfl, rfl, rfl⟩ ⟨_, rfl, rfl, rfl, rfl⟩ ⟨_, rfl, rfl, rfl, rfl⟩ ?_
    refine lw_push R hL (k := 2) (by omega) ⟨_, rfl, rfl, rfl, rfl⟩ ⟨_, rfl, rfl, rfl, rfl⟩ ⟨_, rfl, rfl, rfl, rfl⟩ ⟨_, rfl, rfl, rfl, rfl⟩ ⟨_, rfl, rfl, rfl, rfl⟩ ?_
    refine lw_push R hL (k := 3) (by omega) ⟨_, rfl, rfl, rfl, rfl⟩ ⟨_, rfl, rfl, rfl, rfl⟩ ⟨_, rfl, rfl, rfl, rfl⟩ ⟨_, rfl, rfl, rfl, rfl⟩ ⟨_, rfl, rfl, rfl, rfl⟩ ?_
    refine lw_push R hL (k := 4) (by omega) ⟨_, rfl, rfl, rfl, rfl⟩ ⟨_, rfl, rfl, rfl, rfl⟩ ⟨_, rfl, rfl, rfl, rfl⟩ ⟨_, rfl, rfl, rfl, rfl⟩ ⟨_, rfl, rfl, rfl, rfl⟩ ?_
    refine lw_push R hL (k := 5) (by omega) ⟨_, rfl, rfl, rfl, rfl⟩ ⟨_, rfl, rfl, rfl, rfl⟩ ⟨_, rfl, rfl, rfl, rfl⟩ ⟨_, rfl, rfl, rfl, rfl⟩ ⟨_, rfl, rfl, rfl, rfl⟩ ?_
    refine lw_cc (kd := 0) R (j := 51) (nb := 44) (ref := 702) (q := rxm_51) [sx (i + 1), sx (i + 2), sx (i + 3), sx (i + 4), sx (i + 5)] ⟨_, rfl, rfl, rfl, rfl⟩ rfl rfl rfl (by decide) (lw_rcM e3.1) rfl rfl (Or.inl ⟨rfl, ⟨_, rfl, rfl, rfl, rfl⟩⟩) (lw_feedM0 H.2.1 e3 e4 e5 hg e6 e7 hv) (fun o h => ⟨h.1, h.2.1⟩) (fun o2 h2 => ?_)
    obtain ⟨d1, d2, ⟨d3, d4, d5, d6, d8⟩, d7⟩ := h2.1
    obtain ⟨a2, H2, c2⟩ := lw_rnM (j := 51) (q := rxm_51) (vals := [sx (i + 1), sx (i + 2), sx (i + 3), sx (i + 4), sx (i + 5)]) rfl sg_51 rfl cv_51 hv e3.1 H1 d8 h2.2
    exact lw_goto R ⟨_, rfl, rfl, rfl, rfl⟩ (hN o2.2.1 ⟨Or.inl ⟨d3, ⟨_, lw_fg1 hg, d6, d7⟩, d4, d5⟩, lw_two hR H2 c1 c2 (fun _ _ _ _ _ _ h => lw_keep h (w_T_feed a1) (by simp) (w_M_feed a2) (by simp) (by simp))⟩)
  · refine lw_cc (kd := 0) R (j := 109) (nb := 40) (ref := 10) (q := rxm_109) [sx (i + 1), sx (i + 2), sx (i + 3), sx (i + 4), sx (i + 5)] ⟨_, rfl, rfl, rfl, rfl⟩ rfl rfl rfl (by decide) (lw_rcT hB.1) rfl rfl (Or.inl ⟨rfl, ⟨_, rfl, rfl, rfl, rfl⟩⟩) (lw_feedC H.1 lw_W1 hB h31 hF hg hC hM hv) (fun o h => ⟨h.1, h.2.1⟩) (fun o1 h1 => ?_)
    obtain ⟨e1, e2, ⟨e3, e4, e5, e6, e8⟩, e7⟩ := h1.1
    obtain ⟨a1, H1, c1⟩ := lw_rnC (j := 109) (q := rxm_109) (vals := [sx (i + 1), sx (i + 2), sx (i + 3), sx (i + 4), sx (i + 5)]) rfl sg_109 rfl cv_109 hv J0 hR e8 h1.2
    refine lw_step R (h := rx_h_ld rx_isR 2 1) (a := 0) (σ' := (251, lw_LV i, [702], o1.2.1, [], 205, 8956)) ⟨_, rfl, rfl, rfl, rfl⟩ (fun _ => rfl) ?_
    refine lw_push R hL (k := 1) (by omega) ⟨_, rfl, rfl, rfl, rfl⟩ ⟨_, rfl, rfl, rfl, rfl⟩ ⟨_, rfl, rfl, rfl, rfl⟩ ⟨_, rfl, rfl, rfl, rfl⟩ ⟨_, rfl, rfl, rfl, rfl⟩ ?_
    refine lw_push R hL (k := 2) (by omega) ⟨_, rfl, rfl, rfl, rfl⟩ ⟨_, rfl, rfl, rfl, rfl⟩ ⟨_, rfl, rfl, rfl, rfl⟩ ⟨_, rfl, rfl, rfl, rfl⟩ ⟨_, rfl, rfl, rfl, rfl⟩ ?_
    refine lw_push R hL (k := 3) (by omega) ⟨_, rfl, rfl, rfl, rfl⟩ ⟨_, rfl, rfl, rfl, rfl⟩ ⟨_, rfl, rfl, rfl, rfl⟩ ⟨_, rfl, rfl, rfl, rfl⟩ ⟨_, rfl, rfl, rfl, rfl⟩ ?_
    refine lw_push R hL (k := 4) (by omega) ⟨_, rfl, rfl, rfl, rfl⟩ ⟨_, rfl, rfl, rfl, rfl⟩ ⟨_, rfl, rfl, rfl, rfl⟩ ⟨_, rfl, rfl, rfl, rfl⟩ ⟨_, rfl, rfl, rfl, rfl⟩ ?_
    refine lw_push R hL (k := 5) (by omega) ⟨_, rfl, rfl, rfl, rfl⟩ ⟨_, rfl, rfl, rfl, rfl⟩ ⟨_, rfl, rfl, rfl, rfl⟩ ⟨_, rfl, rfl, rfl, rfl⟩ ⟨_, rfl, rfl, rfl, rfl⟩ ?_
    refine lw_cc (kd := 0) R (j := 51) (nb := 44) (ref := 702) (q := rxm_51) [sx (i + 1), sx (i + 2), sx (i + 3), sx (i + 4), sx (i + 5)] ⟨_, rfl, rfl, rfl, rfl⟩ rfl rfl rfl (by decide) (lw_rcM e3.1) rfl rfl (Or.inl ⟨rfl, ⟨_, rfl, rfl, rfl, rfl⟩⟩) (lw_feedM1 H.2.2 e3 e4 e5 hg e6 e7 hv) (fun o h => ⟨h.1, h.2.1⟩) (fun o2 h2 => ?_)
    obtain ⟨d1, d2, ⟨d3, d4, d5, d6, d8⟩, d7⟩ := h2.1
    obtain ⟨a2, H2, c2⟩ := lw_rnM (j := 51) (q := rxm_51) (vals := [sx (i + 1), sx (i + 2), sx (i + 3), sx (i + 4), sx (i + 5)]) rfl sg_51 rfl cv_51 hv e3.1 H1 d8 h2.2
    exact lw_goto R ⟨_, rfl, rfl, rfl, rfl⟩ (hN o2.2.1 ⟨Or.inr ⟨d3, ⟨_, lw_fg1 hg, d6, d7⟩, d4, d5⟩, lw_two hR H2 c1 c2 (fun _ _ _ _ _ _ h => lw_keep h (w_T_feed a1) (by simp) (w_M_feed a2) (by simp) (by simp))⟩)
set_option maxHeartbeats 1000000 in
/-- end -/
theorem lw_k1 (R : lw_Rules l cy D (rxl L sx) G) (H : lw_H) (hL : L ≤ 3072) (hsx : ∀ j, sx j < 4294967296) (hi : i + 6 ≤ L) (hJ : lw_JR hp) (hN : ∀ hp', lw_JR hp' → G (1409, lw_LV i, [], hp', [], 205, 8956)) : G (283, lw_LV i, [], hp, [], 205, 8956) := by
  have hv : ∀ v ∈ ([sx (i + 1)] : List Nat), v < 4294967296 := (fun v hv => by simp only [List.mem_cons, List.not_mem_nil, or_false] at hv; rcases hv with rfl <;> exact hsx _)
  obtain ⟨hJ, hR⟩ := hJ
  refine lw_step R (h := rx_h_ld rx_isR 1 1) (a := 0) (σ' := (284, lw_LV i, [10], hp, [], 205, 8956)) ⟨_, rfl, rfl, rfl, rfl⟩ (fun _ => rfl) ?_
  refine lw_push R hL (k := 1) (by omega) ⟨_, rfl, rfl, rfl, rfl⟩ ⟨_, rfl, rfl, rfl, rfl⟩ ⟨_, rfl, rfl, rfl, rfl⟩ ⟨_, rfl, rfl, rfl, rfl⟩ ⟨_, rfl, rfl, rfl, rfl⟩ ?_
  have J0 := hJ.T
  rcases hJ with ⟨hB, ⟨g, hg, hC, hM⟩, h31, hF⟩ | ⟨hB, ⟨g, hg, hC, hM⟩, h31, hF⟩
  · refine lw_cc (kd := 0) R (j := 39) (nb := 40) (ref := 10) (q := rxm_39) [sx (i + 1)] ⟨_, rfl, rfl, rfl, rfl⟩ rfl rfl rfl (by decide) (lw_rcT hB.1) rfl rfl (Or.inl ⟨rfl, ⟨_, rfl, rfl, rfl, rfl⟩⟩) (lw_endC H.1 lw_W0 hB h31 hF hg hC hM (hsx _)) (fun o h => ⟨h.1, h.2.1⟩) (fun o1 h1 => ?_)
    obtain ⟨e1, e2, ⟨e3, e4, e5, e6, e8⟩, e7⟩ := h1.1
    obtain ⟨a1, H1, c1⟩ := lw_rnC (j := 39) (q := rxm_39) (vals := [sx (i + 1)]) rfl sg_39 rfl cv_39 hv J0 hR e8 h1.2
    refine lw_step R (h := rx_h_ld rx_isR 2 1) (a := 0) (σ' := (294, lw_LV i, [702], o1.2.1, [], 205, 8956)) ⟨_, rfl, rfl, rfl, rfl⟩ (fun _ => rfl) ?_
    refine lw_push R hL (k := 1) (by omega) ⟨_, rfl, rfl, rfl, rfl⟩ ⟨_, rfl, rfl, rfl, rfl⟩ ⟨_, rfl, rfl, rfl, rfl⟩ ⟨_, rfl, rfl, rfl, rfl⟩ ⟨_, rfl, rfl, rfl, rfl⟩ ?_
    refine lw_cc (kd := 0) R (j := 47) (nb := 44) (ref := 702) (q := rxm_47) [sx (i + 1)] ⟨_, rfl, rfl, rfl, rfl⟩ rfl rfl rfl (by decide) (lw_rcM e3.1) rfl rfl (Or.inl ⟨rfl, ⟨_, rfl, rfl, rfl, rfl⟩⟩) (lw_endM0 H.2.1 e3 e4 e5 hg e6 e7 (hsx _)) (fun o h => ⟨h.1, h.2.1⟩) (fun o2 h2 => ?_)
    obtain ⟨d1, d2, ⟨d3, d4, d5, d6, d8⟩, d7⟩ := h2.1
    obtain ⟨a2, H2, c2⟩ := lw_rnM (j := 47) (q := rxm_47) (vals := [sx (i + 1)]) rfl sg_47 rfl cv_47 hv e3.1 H1 d8 h2.2
    exact lw_goto R ⟨_, rfl, rfl, rfl, rfl⟩ (hN o2.2.1 ⟨Or.inl ⟨d3, ⟨_, lw_eg1 hg, d6, d7⟩, d4, d5⟩, lw_two hR H2 c1 c2 (fun _ _ _ _ _ _ h => lw_keep h (w_T_end a1) (by simp) (w_M_end a2) (by simp) (by simp))⟩)
  · refine lw_cc (kd := 0) R (j := 39) (nb := 40) (ref := 10) (q := rxm_39) [sx (i + 1)] ⟨_, rfl, rfl, rfl, rfl⟩ rfl rfl rfl (by decide) (lw_rcT hB.1) rfl rfl (Or.inl ⟨rfl, ⟨_, rfl, rfl, rfl, rfl⟩⟩) (lw_endC H.1 lw_W1 hB h31 hF hg hC hM (hsx _)) (fun o h => ⟨h.1, h.2.1⟩) (fun o1 h1 => ?_)
    obtain ⟨e1, e2, ⟨e3, e4, e5, e6, e8⟩, e7⟩ := h1.1
    obtain ⟨a1, H1, c1⟩ := lw_rnC (j := 39) (q := rxm_39) (vals := [sx (i + 1)]) rfl sg_39 rfl cv_39 hv J0 hR e8 h1.2
    refine lw_step R (h := rx_h_ld rx_isR 2 1) (a := 0) (σ' := (294, lw_LV i, [702], o1.2.1, [], 205, 8956)) ⟨_, rfl, rfl, rfl, rfl⟩ (fun _ => rfl) ?_
    refine lw_push R hL (k := 1) (by omega) ⟨_, rfl, rfl, rfl, rfl⟩ ⟨_, rfl, rfl, rfl, rfl⟩ ⟨_, rfl, rfl, rfl, rfl⟩ ⟨_, rfl, rfl, rfl, rfl⟩ ⟨_, rfl, rfl, rfl, rfl⟩ ?_
    refine lw_cc (kd := 0) R (j := 47) (nb := 44) (ref := 702) (q := rxm_47) [sx (i + 1)] ⟨_, rfl, rfl, rfl, rfl⟩ rfl rfl rfl (by decide) (lw_rcM e3.1) rfl rfl (Or.inl ⟨rfl, ⟨_, rfl, rfl, rfl, rfl⟩⟩) (lw_endM1 H.2.2 e3 e4 e5 hg e6 e7 (hsx _)) (fun o h => ⟨h.1, h.2.1⟩) (fun o2 h2 => ?_)
    obtain ⟨d1, d2, ⟨d3, d4, d5, d6, d8⟩, d7⟩ := h2.1
    obtain ⟨a2, H2, c2⟩ := lw_rnM (j := 47) (q := rxm_47) (vals := [sx (i + 1)]) rfl sg_47 rfl cv_47 hv e3.1 H1 d8 h2.2
    exact lw_goto R ⟨_, rfl, rfl, rfl, rfl⟩ (hN o2.2.1 ⟨Or.inr ⟨d3, ⟨_, lw_eg1 hg, d6, d7⟩, d4, d5⟩, lw_two hR H2 c1 c2 (fun _ _ _ _ _ _ h => lw_keep h (w_T_end a1) (by simp) (w_M_end a2) (by simp) (by simp))⟩)
set_option maxHeartbeats 1000000 in
/-- net -/
theorem lw_k2 (R : lw_Rules l cy D (rxl L sx) G) (H : lw_H) (hL : L ≤ 3072) (hsx : ∀ j, sx j < 4294967296) (hi : i + 6 ≤ L) (hJ : lw_JR hp) (hN : ∀ hp', lw_JR hp' → G (1409, lw_LV i, [], hp', [], 205, 8956)) : G (306, lw_LV i, [], hp, [], 205, 8956) := by
  have hv : ∀ v ∈ ([] : List Nat), v < 4294967296 := (fun v hv => by cases hv)
  obtain ⟨hJ, hR⟩ := hJ
  refine lw_step R (h := rx_h_ld rx_isR 1 1) (a := 0) (σ' := (307, lw_LV i, [10], hp, [], 205, 8956)) ⟨_, rfl, rfl, rfl, rfl⟩ (fun _ => rfl) ?_
  have J0 := hJ.T
  rcases hJ with ⟨hB, ⟨g, hg, hC, hM⟩, h31, hF⟩ | ⟨hB, ⟨g, hg, hC, hM⟩, h31, hF⟩
  · refine lw_cc (kd := 0) R (j := 331) (nb := 40) (ref := 10) (q := rxm_331) [] ⟨_, rfl, rfl, rfl, rfl⟩ rfl rfl rfl (by decide) (lw_rcT hB.1) rfl rfl (Or.inl ⟨rfl, ⟨_, rfl, rfl, rfl, rfl⟩⟩) (lw_netC H.1 lw_W0 hB h31 hg hC hM) (fun o h => ⟨h.1, h.2.1⟩) (fun o1 h1 => ?_)
    obtain ⟨e1, e2, e3, e4, e5, e6, e7, e8⟩ := h1.1
    obtain ⟨a1, H1, c1⟩ := lw_rnC (j := 331) (q := rxm_331) (vals := []) rfl sg_331 rfl cv_331 hv J0 hR e8 h1.2
    have pC := lw_netF H.1 J0 h31 hg hC hR.1 h1.2
    refine lw_step R (h := rx_h_ld rx_isR 2 1) (a := 0) (σ' := (312, lw_LV i, [702], o1.2.1, [], 205, 8956)) ⟨_, rfl, rfl, rfl, rfl⟩ (fun _ => rfl) ?_
    refine lw_cc (kd := 0) R (j := 272) (nb := 44) (ref := 702) (q := rxm_272) [] ⟨_, rfl, rfl, rfl, rfl⟩ rfl rfl rfl (by decide) (lw_rcM e3.1) rfl rfl (Or.inl ⟨rfl, ⟨_, rfl, rfl, rfl, rfl⟩⟩) (lw_netM0 H.2.2 e3 e4 hg e5 e6 e7 e2) (fun o h => ⟨h.1, by rw [h.2.1]; exact e2⟩) (fun o2 h2 => ?_)
    obtain ⟨d1, d2, d3, d4, d5⟩ := h2.1
    obtain ⟨a2, H2, c2⟩ := lw_rnM (j := 272) (q := rxm_272) (vals := []) rfl sg_272 rfl cv_272 hv e3.1 H1 d4 h2.2
    have pM := lw_netG0 e3.1 e3.2.2.1 d5 a2
    obtain ⟨-, nn, L2, E, C, N, R2, hr⟩ := hR
    obtain ⟨nn, L2, E, C, N, R2, hr⟩ := lw_netR (lw_lrG hr c1) pC pM
    exact lw_goto R ⟨_, rfl, rfl, rfl, rfl⟩ (hN o2.2.1 ⟨d3, H2, nn, L2, E, C, N, R2, lw_lrF hr c2⟩)
  · refine lw_cc (kd := 0) R (j := 331) (nb := 40) (ref := 10) (q := rxm_331) [] ⟨_, rfl, rfl, rfl, rfl⟩ rfl rfl rfl (by decide) (lw_rcT hB.1) rfl rfl (Or.inl ⟨rfl, ⟨_, rfl, rfl, rfl, rfl⟩⟩) (lw_netC H.1 lw_W1 hB h31 hg hC hM) (fun o h => ⟨h.1, h.2.1⟩) (fun o1 h1 => ?_)
    obtain ⟨e1, e2, e3, e4, e5, e6, e7, e8⟩ := h1.1
    obtain ⟨a1, H1, c1⟩ := lw_rnC (j := 331) (q := rxm_331) (vals := []) rfl sg_331 rfl cv_331 hv J0 hR e8 h1.2
    have pC := lw_netF H.1 J0 h31 hg hC hR.1 h1.2
    refine lw_step R (h := rx_h_ld rx_isR 2 1) (a := 0) (σ' := (312, lw_LV i, [702], o1.2.1, [], 205, 8956)) ⟨_, rfl, rfl, rfl, rfl⟩ (fun _ => rfl) ?_
    refine lw_cc (kd := 0) R (j := 272) (nb := 44) (ref := 702) (q := rxm_272) [] ⟨_, rfl, rfl, rfl, rfl⟩ rfl rfl rfl (by decide) (lw_rcM e3.1) rfl rfl (Or.inl ⟨rfl, ⟨_, rfl, rfl, rfl, rfl⟩⟩) (lw_netM1 H.2.1 e3 e4 hg e5 e6 e7 e2) (fun o h => ⟨h.1, by rw [h.2.1]; exact e2⟩) (fun o2 h2 => ?_)
    obtain ⟨d1, d2, d3, d4, d5⟩ := h2.1
    obtain ⟨a2, H2, c2⟩ := lw_rnM (j := 272) (q := rxm_272) (vals := []) rfl sg_272 rfl cv_272 hv e3.1 H1 d4 h2.2
    have pM := lw_netG1 e3.1 e3.2.2.1 d5 a2
    obtain ⟨-, nn, L2, E, C, N, R2, hr⟩ := hR
    obtain ⟨nn, L2, E, C, N, R2, hr⟩ := lw_netR (lw_lrG hr c1) pC pM
    exact lw_goto R ⟨_, rfl, rfl, rfl, rfl⟩ (hN o2.2.1 ⟨d3, H2, nn, L2, E, C, N, R2, lw_lrF hr c2⟩)
set_option maxHeartbeats 1000000 in
/-- fault -/
theorem lw_k3 (R : lw_Rules l cy D (rxl L sx) G) (H : lw_H) (hL : L ≤ 3072) (hsx : ∀ j, sx j < 4294967296) (hi : i + 6 ≤ L) (hJ : lw_JR hp) (hN : ∀ hp', lw_JR hp' → G (1409, lw_LV i, [], hp', [], 205, 8956)) : G (319, lw_LV i, [], hp, [], 205, 8956) := by
  have hv : ∀ v ∈ ([sx (i + 1)] : List Nat), v < 4294967296 := (fun v hv => by simp only [List.mem_cons, List.not_mem_nil, or_false] at hv; rcases hv with rfl <;> exact hsx _)
  obtain ⟨hJ, hR⟩ := hJ
  refine lw_step R (h := rx_h_ld rx_isR 1 1) (a := 0) (σ' := (320, lw_LV i, [10], hp, [], 205, 8956)) ⟨_, rfl, rfl, rfl, rfl⟩ (fun _ => rfl) ?_
  refine lw_push R hL (k := 1) (by omega) ⟨_, rfl, rfl, rfl, rfl⟩ ⟨_, rfl, rfl, rfl, rfl⟩ ⟨_, rfl, rfl, rfl, rfl⟩ ⟨_, rfl, rfl, rfl, rfl⟩ ⟨_, rfl, rfl, rfl, rfl⟩ ?_
  refine lw_cc (kd := 0) R (j := 40) (nb := 40) (ref := 10) (q := rxm_40) [sx (i + 1)] ⟨_, rfl, rfl, rfl, rfl⟩ rfl rfl rfl (by decide) (lw_rcT hJ.T) rfl rfl (Or.inl ⟨rfl, ⟨_, rfl, rfl, rfl, rfl⟩⟩) (lw_ordC (C := lw_c axc_40 0) (kd := 0) ((H.1 _ 40 rxm_40 (axm_40, axc_40) rfl rfl).2 (Nat.lt_succ_self _) _ List.mem_cons_self) (Or.inl rfl) hv rfl rfl (by decide +kernel) (by decide +kernel) hJ) (fun o h => ⟨h.1, h.2.1⟩) (fun o1 h1 => ?_)
  obtain ⟨a1, H1, c1⟩ := lw_rnC (j := 40) (q := rxm_40) (vals := [sx (i + 1)]) rfl sg_40 rfl cv_40 hv hJ.T hR h1.1.2.2.2 h1.2
  refine lw_step R (h := rx_h_ld rx_isR 2 1) (a := 0) (σ' := (330, lw_LV i, [702], o1.2.1, [], 205, 8956)) ⟨_, rfl, rfl, rfl, rfl⟩ (fun _ => rfl) ?_
  refine lw_push R hL (k := 1) (by omega) ⟨_, rfl, rfl, rfl, rfl⟩ ⟨_, rfl, rfl, rfl, rfl⟩ ⟨_, rfl, rfl, rfl, rfl⟩ ⟨_, rfl, rfl, rfl, rfl⟩ ⟨_, rfl, rfl, rfl, rfl⟩ ?_
  refine lw_cc (kd := 0) R (j := 50) (nb := 44) (ref := 702) (q := rxm_50) [sx (i + 1)] ⟨_, rfl, rfl, rfl, rfl⟩ rfl rfl rfl (by decide) (lw_rcM h1.1.2.2.1.T) rfl rfl (Or.inl ⟨rfl, ⟨_, rfl, rfl, rfl, rfl⟩⟩) (lw_ordM (C0 := lw_c axc0_50 0) (C1 := lw_c axc1_50 0) (kd := 0) ((H.2.1 _ 50 rxm_50 (axm_50, axc0_50) rfl rfl).2 (Nat.lt_succ_self _) _ List.mem_cons_self) ((H.2.2 _ 50 rxm_50 (axm_50, axc1_50) rfl rfl).2 (Nat.lt_succ_self _) _ List.mem_cons_self) (Or.inl rfl) hv rfl rfl (by decide +kernel) (by decide +kernel) rfl rfl (by decide +kernel) (by decide +kernel) h1.1.2.2.1) (fun o h => ⟨h.1, h.2.1⟩) (fun o2 h2 => ?_)
  obtain ⟨a2, H2, c2⟩ := lw_rnM (j := 50) (q := rxm_50) (vals := [sx (i + 1)]) rfl sg_50 rfl cv_50 hv h1.1.2.2.1.T H1 h2.1.2.2.2 h2.2
  exact lw_goto R ⟨_, rfl, rfl, rfl, rfl⟩ (hN o2.2.1 ⟨h2.1.2.2.1, lw_two hR H2 c1 c2 (fun _ _ _ _ _ _ h => (h.kk (h.kp.no (w_T_fault a1)) (gk.rf.gx (w_M_fault a2) (fun q hq => by cases hq) (fun j hj => by cases hj))).1)⟩)
set_option maxHeartbeats 1000000 in
/-- cut -/
theorem lw_k4 (R : lw_Rules l cy D (rxl L sx) G) (H : lw_H) (hL : L ≤ 3072) (hsx : ∀ j, sx j < 4294967296) (hi : i + 6 ≤ L) (hJ : lw_JR hp) (hN : ∀ hp', lw_JR hp' → G (1409, lw_LV i, [], hp', [], 205, 8956)) : G (342, lw_LV i, [], hp, [], 205, 8956) := by
  have hv : ∀ v ∈ ([sx (i + 1)] : List Nat), v < 4294967296 := (fun v hv => by simp only [List.mem_cons, List.not_mem_nil, or_false] at hv; rcases hv with rfl <;> exact hsx _)
  obtain ⟨hJ, hR⟩ := hJ
  refine lw_step R (h := rx_h_ld rx_isR 1 1) (a := 0) (σ' := (343, lw_LV i, [10], hp, [], 205, 8956)) ⟨_, rfl, rfl, rfl, rfl⟩ (fun _ => rfl) ?_
  refine lw_push R hL (k := 1) (by omega) ⟨_, rfl, rfl, rfl, rfl⟩ ⟨_, rfl, rfl, rfl, rfl⟩ ⟨_, rfl, rfl, rfl, rfl⟩ ⟨_, rfl, rfl, rfl, rfl⟩ ⟨_, rfl, rfl, rfl, rfl⟩ ?_
  refine lw_cc (kd := 0) R (j := 184) (nb := 40) (ref := 10) (q := rxm_184) [sx (i + 1)] ⟨_, rfl, rfl, rfl, rfl⟩ rfl rfl rfl (by decide) (lw_rcT hJ.T) rfl rfl (Or.inl ⟨rfl, ⟨_, rfl, rfl, rfl, rfl⟩⟩) (lw_ordC (C := lw_c axc_184 0) (kd := 0) ((H.1 _ 184 rxm_184 (axm_184, axc_184) rfl rfl).2 (Nat.lt_succ_self _) _ List.mem_cons_self) (Or.inl rfl) hv rfl rfl (by decide +kernel) (by decide +kernel) hJ) (fun o h => ⟨h.1, h.2.1⟩) (fun o1 h1 => ?_)
  obtain ⟨a1, H1, c1⟩ := lw_rnC (j := 184) (q := rxm_184) (vals := [sx (i + 1)]) rfl sg_184 rfl cv_184 hv hJ.T hR h1.1.2.2.2 h1.2
  refine lw_step R (h := rx_h_ld rx_isR 2 1) (a := 0) (σ' := (353, lw_LV i, [702], o1.2.1, [], 205, 8956)) ⟨_, rfl, rfl, rfl, rfl⟩ (fun _ => rfl) ?_
  refine lw_push R hL (k := 1) (by omega) ⟨_, rfl, rfl, rfl, rfl⟩ ⟨_, rfl, rfl, rfl, rfl⟩ ⟨_, rfl, rfl, rfl, rfl⟩ ⟨_, rfl, rfl, rfl, rfl⟩ ⟨_, rfl, rfl, rfl, rfl⟩ ?_
  refine lw_cc (kd := 0) R (j := 195) (nb := 44) (ref := 702) (q := rxm_195) [sx (i + 1)] ⟨_, rfl, rfl, rfl, rfl⟩ rfl rfl rfl (by decide) (lw_rcM h1.1.2.2.1.T) rfl rfl (Or.inl ⟨rfl, ⟨_, rfl, rfl, rfl, rfl⟩⟩) (lw_ordM (C0 := lw_c axc0_195 0) (C1 := lw_c axc1_195 0) (kd := 0) ((H.2.1 _ 195 rxm_195 (axm_195, axc0_195) rfl rfl).2 (Nat.lt_succ_self _) _ List.mem_cons_self) ((H.2.2 _ 195 rxm_195 (axm_195, axc1_195) rfl rfl).2 (Nat.lt_succ_self _) _ List.mem_cons_self) (Or.inl rfl) hv rfl rfl (by decide +kernel) (by decide +kernel) rfl rfl (by decide +kernel) (by decide +kernel) h1.1.2.2.1) (fun o h => ⟨h.1, h.2.1⟩) (fun o2 h2 => ?_)
  obtain ⟨a2, H2, c2⟩ := lw_rnM (j := 195) (q := rxm_195) (vals := [sx (i + 1)]) rfl sg_195 rfl cv_195 hv h1.1.2.2.1.T H1 h2.1.2.2.2 h2.2
  exact lw_goto R ⟨_, rfl, rfl, rfl, rfl⟩ (hN o2.2.1 ⟨h2.1.2.2.1, lw_two hR H2 c1 c2 (fun _ _ _ _ _ _ h => (o_cut (hsx _) h a1 a2).2.1)⟩)
set_option maxHeartbeats 1000000 in
/-- mend -/
theorem lw_k5 (R : lw_Rules l cy D (rxl L sx) G) (H : lw_H) (hL : L ≤ 3072) (hsx : ∀ j, sx j < 4294967296) (hi : i + 6 ≤ L) (hJ : lw_JR hp) (hN : ∀ hp', lw_JR hp' → G (1409, lw_LV i, [], hp', [], 205, 8956)) : G (365, lw_LV i, [], hp, [], 205, 8956) := by
  have hv : ∀ v ∈ ([sx (i + 1)] : List Nat), v < 4294967296 := (fun v hv => by simp only [List.mem_cons, List.not_mem_nil, or_false] at hv; rcases hv with rfl <;> exact hsx _)
  obtain ⟨hJ, hR⟩ := hJ
  refine lw_step R (h := rx_h_ld rx_isR 1 1) (a := 0) (σ' := (366, lw_LV i, [10], hp, [], 205, 8956)) ⟨_, rfl, rfl, rfl, rfl⟩ (fun _ => rfl) ?_
  refine lw_push R hL (k := 1) (by omega) ⟨_, rfl, rfl, rfl, rfl⟩ ⟨_, rfl, rfl, rfl, rfl⟩ ⟨_, rfl, rfl, rfl, rfl⟩ ⟨_, rfl, rfl, rfl, rfl⟩ ⟨_, rfl, rfl, rfl, rfl⟩ ?_
  refine lw_cc (kd := 0) R (j := 186) (nb := 40) (ref := 10) (q := rxm_186) [sx (i + 1)] ⟨_, rfl, rfl, rfl, rfl⟩ rfl rfl rfl (by decide) (lw_rcT hJ.T) rfl rfl (Or.inl ⟨rfl, ⟨_, rfl, rfl, rfl, rfl⟩⟩) (lw_ordC (C := lw_c axc_186 0) (kd := 0) ((H.1 _ 186 rxm_186 (axm_186, axc_186) rfl rfl).2 (Nat.lt_succ_self _) _ List.mem_cons_self) (Or.inl rfl) hv rfl rfl (by decide +kernel) (by decide +kernel) hJ) (fun o h => ⟨h.1, h.2.1⟩) (fun o1 h1 => ?_)
  obtain ⟨a1, H1, c1⟩ := lw_rnC (j := 186) (q := rxm_186) (vals := [sx (i + 1)]) rfl sg_186 rfl cv_186 hv hJ.T hR h1.1.2.2.2 h1.2
  refine lw_step R (h := rx_h_ld rx_isR 2 1) (a := 0) (σ' := (376, lw_LV i, [702], o1.2.1, [], 205, 8956)) ⟨_, rfl, rfl, rfl, rfl⟩ (fun _ => rfl) ?_
  refine lw_push R hL (k := 1) (by omega) ⟨_, rfl, rfl, rfl, rfl⟩ ⟨_, rfl, rfl, rfl, rfl⟩ ⟨_, rfl, rfl, rfl, rfl⟩ ⟨_, rfl, rfl, rfl, rfl⟩ ⟨_, rfl, rfl, rfl, rfl⟩ ?_
  refine lw_cc (kd := 0) R (j := 168) (nb := 44) (ref := 702) (q := rxm_168) [sx (i + 1)] ⟨_, rfl, rfl, rfl, rfl⟩ rfl rfl rfl (by decide) (lw_rcM h1.1.2.2.1.T) rfl rfl (Or.inl ⟨rfl, ⟨_, rfl, rfl, rfl, rfl⟩⟩) (lw_ordM (C0 := lw_c axc0_168 0) (C1 := lw_c axc1_168 0) (kd := 0) ((H.2.1 _ 168 rxm_168 (axm_168, axc0_168) rfl rfl).2 (Nat.lt_succ_self _) _ List.mem_cons_self) ((H.2.2 _ 168 rxm_168 (axm_168, axc1_168) rfl rfl).2 (Nat.lt_succ_self _) _ List.mem_cons_self) (Or.inl rfl) hv rfl rfl (by decide +kernel) (by decide +kernel) rfl rfl (by decide +kernel) (by decide +kernel) h1.1.2.2.1) (fun o h => ⟨h.1, h.2.1⟩) (fun o2 h2 => ?_)
  obtain ⟨a2, H2, c2⟩ := lw_rnM (j := 168) (q := rxm_168) (vals := [sx (i + 1)]) rfl sg_168 rfl cv_168 hv h1.1.2.2.1.T H1 h2.1.2.2.2 h2.2
  exact lw_goto R ⟨_, rfl, rfl, rfl, rfl⟩ (hN o2.2.1 ⟨h2.1.2.2.1, lw_two hR H2 c1 c2 (fun _ _ _ _ _ _ h => (o_mend (hsx _) h a1 a2).2.1)⟩)
set_option maxHeartbeats 1000000 in
/-- turn -/
theorem lw_k6 (R : lw_Rules l cy D (rxl L sx) G) (H : lw_H) (hL : L ≤ 3072) (hsx : ∀ j, sx j < 4294967296) (hi : i + 6 ≤ L) (hJ : lw_JR hp) (hN : ∀ hp', lw_JR hp' → G (1409, lw_LV i, [], hp', [], 205, 8956)) : G (388, lw_LV i, [], hp, [], 205, 8956) := by
  have hv : ∀ v ∈ ([sx (i + 1)] : List Nat), v < 4294967296 := (fun v hv => by simp only [List.mem_cons, List.not_mem_nil, or_false] at hv; rcases hv with rfl <;> exact hsx _)
  obtain ⟨hJ, hR⟩ := hJ
  refine lw_step R (h := rx_h_ld rx_isR 1 1) (a := 0) (σ' := (389, lw_LV i, [10], hp, [], 205, 8956)) ⟨_, rfl, rfl, rfl, rfl⟩ (fun _ => rfl) ?_
  refine lw_push R hL (k := 1) (by omega) ⟨_, rfl, rfl, rfl, rfl⟩ ⟨_, rfl, rfl, rfl, rfl⟩ ⟨_, rfl, rfl, rfl, rfl⟩ ⟨_, rfl, rfl, rfl, rfl⟩ ⟨_, rfl, rfl, rfl, rfl⟩ ?_
  refine lw_cc (kd := 0) R (j := 192) (nb := 40) (ref := 10) (q := rxm_192) [sx (i + 1)] ⟨_, rfl, rfl, rfl, rfl⟩ rfl rfl rfl (by decide) (lw_rcT hJ.T) rfl rfl (Or.inl ⟨rfl, ⟨_, rfl, rfl, rfl, rfl⟩⟩) (lw_ordC (C := lw_c axc_192 0) (kd := 0) ((H.1 _ 192 rxm_192 (axm_192, axc_192) rfl rfl).2 (Nat.lt_succ_self _) _ List.mem_cons_self) (Or.inl rfl) hv rfl rfl (by decide +kernel) (by decide +kernel) hJ) (fun o h => ⟨h.1, h.2.1⟩) (fun o1 h1 => ?_)
  obtain ⟨a1, H1, c1⟩ := lw_rnC (j := 192) (q := rxm_192) (vals := [sx (i + 1)]) rfl sg_192 rfl cv_192 hv hJ.T hR h1.1.2.2.2 h1.2
  refine lw_step R (h := rx_h_ld rx_isR 2 1) (a := 0) (σ' := (399, lw_LV i, [702], o1.2.1, [], 205, 8956)) ⟨_, rfl, rfl, rfl, rfl⟩ (fun _ => rfl) ?_
  refine lw_push R hL (k := 1) (by omega) ⟨_, rfl, rfl, rfl, rfl⟩ ⟨_, rfl, rfl, rfl, rfl⟩ ⟨_, rfl, rfl, rfl, rfl⟩ ⟨_, rfl, rfl, rfl, rfl⟩ ⟨_, rfl, rfl, rfl, rfl⟩ ?_
  refine lw_cc (kd := 0) R (j := 172) (nb := 44) (ref := 702) (q := rxm_172) [sx (i + 1)] ⟨_, rfl, rfl, rfl, rfl⟩ rfl rfl rfl (by decide) (lw_rcM h1.1.2.2.1.T) rfl rfl (Or.inl ⟨rfl, ⟨_, rfl, rfl, rfl, rfl⟩⟩) (lw_ordM (C0 := lw_c axc0_172 0) (C1 := lw_c axc1_172 0) (kd := 0) ((H.2.1 _ 172 rxm_172 (axm_172, axc0_172) rfl rfl).2 (Nat.lt_succ_self _) _ List.mem_cons_self) ((H.2.2 _ 172 rxm_172 (axm_172, axc1_172) rfl rfl).2 (Nat.lt_succ_self _) _ List.mem_cons_self) (Or.inl rfl) hv rfl rfl (by decide +kernel) (by decide +kernel) rfl rfl (by decide +kernel) (by decide +kernel) h1.1.2.2.1) (fun o h => ⟨h.1, h.2.1⟩) (fun o2 h2 => ?_)
  obtain ⟨a2, H2, c2⟩ := lw_rnM (j := 172) (q := rxm_172) (vals := [sx (i + 1)]) rfl sg_172 rfl cv_172 hv h1.1.2.2.1.T H1 h2.1.2.2.2 h2.2
  exact lw_goto R ⟨_, rfl, rfl, rfl, rfl⟩ (hN o2.2.1 ⟨h2.1.2.2.1, lw_two hR H2 c1 c2 (fun _ _ _ _ _ _ h => (o_turn (hsx _) h a1 a2).2.1)⟩)
set_option maxHeartbeats 1000000 in
/-- orient -/
theorem lw_k7 (R : lw_Rules l cy D (rxl L sx) G) (H : lw_H) (hL : L ≤ 3072) (hsx : ∀ j, sx j < 4294967296) (hi : i + 6 ≤ L) (hJ : lw_JR hp) (hN : ∀ hp', lw_JR hp' → G (1409, lw_LV i, [], hp', [], 205, 8956)) : G (411, lw_LV i, [], hp, [], 205, 8956) := by
  have hv : ∀ v ∈ ([sx (i + 1)] : List Nat), v < 4294967296 := (fun v hv => by simp only [List.mem_cons, List.not_mem_nil, or_false] at hv; rcases hv with rfl <;> exact hsx _)
  obtain ⟨hJ, hR⟩ := hJ
  refine lw_step R (h := rx_h_ld rx_isR 1 1) (a := 0) (σ' := (412, lw_LV i, [10], hp, [], 205, 8956)) ⟨_, rfl, rfl, rfl, rfl⟩ (fun _ => rfl) ?_
  refine lw_push R hL (k := 1) (by omega) ⟨_, rfl, rfl, rfl, rfl⟩ ⟨_, rfl, rfl, rfl, rfl⟩ ⟨_, rfl, rfl, rfl, rfl⟩ ⟨_, rfl, rfl, rfl, rfl⟩ ⟨_, rfl, rfl, rfl, rfl⟩ ?_
  refine lw_cc (kd := 0) R (j := 216) (nb := 40) (ref := 10) (q := rxm_216) [sx (i + 1)] ⟨_, rfl, rfl, rfl, rfl⟩ rfl rfl rfl (by decide) (lw_rcT hJ.T) rfl rfl (Or.inl ⟨rfl, ⟨_, rfl, rfl, rfl, rfl⟩⟩) (lw_ordC (C := lw_c axc_216 0) (kd := 0) ((H.1 _ 216 rxm_216 (axm_216, axc_216) rfl rfl).2 (Nat.lt_succ_self _) _ List.mem_cons_self) (Or.inl rfl) hv rfl rfl (by decide +kernel) (by decide +kernel) hJ) (fun o h => ⟨h.1, h.2.1⟩) (fun o1 h1 => ?_)
  obtain ⟨a1, H1, c1⟩ := lw_rnC (j := 216) (q := rxm_216) (vals := [sx (i + 1)]) rfl sg_216 rfl cv_216 hv hJ.T hR h1.1.2.2.2 h1.2
  refine lw_step R (h := rx_h_ld rx_isR 2 1) (a := 0) (σ' := (422, lw_LV i, [702], o1.2.1, [], 205, 8956)) ⟨_, rfl, rfl, rfl, rfl⟩ (fun _ => rfl) ?_
  refine lw_push R hL (k := 1) (by omega) ⟨_, rfl, rfl, rfl, rfl⟩ ⟨_, rfl, rfl, rfl, rfl⟩ ⟨_, rfl, rfl, rfl, rfl⟩ ⟨_, rfl, rfl, rfl, rfl⟩ ⟨_, rfl, rfl, rfl, rfl⟩ ?_
  refine lw_cc (kd := 0) R (j := 262) (nb := 44) (ref := 702) (q := rxm_262) [sx (i + 1)] ⟨_, rfl, rfl, rfl, rfl⟩ rfl rfl rfl (by decide) (lw_rcM h1.1.2.2.1.T) rfl rfl (Or.inl ⟨rfl, ⟨_, rfl, rfl, rfl, rfl⟩⟩) (lw_ordM (C0 := lw_c axc0_262 0) (C1 := lw_c axc1_262 0) (kd := 0) ((H.2.1 _ 262 rxm_262 (axm_262, axc0_262) rfl rfl).2 (Nat.lt_succ_self _) _ List.mem_cons_self) ((H.2.2 _ 262 rxm_262 (axm_262, axc1_262) rfl rfl).2 (Nat.lt_succ_self _) _ List.mem_cons_self) (Or.inl rfl) hv rfl rfl (by decide +kernel) (by decide +kernel) rfl rfl (by decide +kernel) (by decide +kernel) h1.1.2.2.1) (fun o h => ⟨h.1, h.2.1⟩) (fun o2 h2 => ?_)
  obtain ⟨a2, H2, c2⟩ := lw_rnM (j := 262) (q := rxm_262) (vals := [sx (i + 1)]) rfl sg_262 rfl cv_262 hv h1.1.2.2.1.T H1 h2.1.2.2.2 h2.2
  exact lw_goto R ⟨_, rfl, rfl, rfl, rfl⟩ (hN o2.2.1 ⟨h2.1.2.2.1, lw_two hR H2 c1 c2 (fun _ _ _ _ _ _ h => (o_orient (hsx _) h a1 a2).2.1)⟩)
set_option maxHeartbeats 1000000 in
/-- change -/
theorem lw_k8 (R : lw_Rules l cy D (rxl L sx) G) (H : lw_H) (hL : L ≤ 3072) (hsx : ∀ j, sx j < 4294967296) (hi : i + 6 ≤ L) (hJ : lw_JR hp) (hN : ∀ hp', lw_JR hp' → G (1409, lw_LV i, [], hp', [], 205, 8956)) : G (434, lw_LV i, [], hp, [], 205, 8956) := by
  have hv : ∀ v ∈ ([sx (i + 1), sx (i + 2)] : List Nat), v < 4294967296 := (fun v hv => by simp only [List.mem_cons, List.not_mem_nil, or_false] at hv; rcases hv with rfl | rfl <;> exact hsx _)
  obtain ⟨hJ, hR⟩ := hJ
  refine lw_step R (h := rx_h_ld rx_isR 1 1) (a := 0) (σ' := (435, lw_LV i, [10], hp, [], 205, 8956)) ⟨_, rfl, rfl, rfl, rfl⟩ (fun _ => rfl) ?_
  refine lw_push R hL (k := 1) (by omega) ⟨_, rfl, rfl, rfl, rfl⟩ ⟨_, rfl, rfl, rfl, rfl⟩ ⟨_, rfl, rfl, rfl, rfl⟩ ⟨_, rfl, rfl, rfl, rfl⟩ ⟨_, rfl, rfl, rfl, rfl⟩ ?_
  refine lw_push R hL (k := 2) (by omega) ⟨_, rfl, rfl, rfl, rfl⟩ ⟨_, rfl, rfl, rfl, rfl⟩ ⟨_, rfl, rfl, rfl, rfl⟩ ⟨_, rfl, rfl, rfl, rfl⟩ ⟨_, rfl, rfl, rfl, rfl⟩ ?_
  refine lw_cc (kd := 0) R (j := 249) (nb := 40) (ref := 10) (q := rxm_249) [sx (i + 1), sx (i + 2)] ⟨_, rfl, rfl, rfl, rfl⟩ rfl rfl rfl (by decide) (lw_rcT hJ.T) rfl rfl (Or.inl ⟨rfl, ⟨_, rfl, rfl, rfl, rfl⟩⟩) (lw_ordC (C := lw_c axc_249 0) (kd := 0) ((H.1 _ 249 rxm_249 (axm_249, axc_249) rfl rfl).2 (Nat.lt_succ_self _) _ List.mem_cons_self) (Or.inl rfl) hv rfl rfl (by decide +kernel) (by decide +kernel) hJ) (fun o h => ⟨h.1, h.2.1⟩) (fun o1 h1 => ?_)
  obtain ⟨a1, H1, c1⟩ := lw_rnC (j := 249) (q := rxm_249) (vals := [sx (i + 1), sx (i + 2)]) rfl sg_249 rfl cv_249 hv hJ.T hR h1.1.2.2.2 h1.2
  refine lw_step R (h := rx_h_ld rx_isR 2 1) (a := 0) (σ' := (450, lw_LV i, [702], o1.2.1, [], 205, 8956)) ⟨_, rfl, rfl, rfl, rfl⟩ (fun _ => rfl) ?_
  refine lw_push R hL (k := 1) (by omega) ⟨_, rfl, rfl, rfl, rfl⟩ ⟨_, rfl, rfl, rfl, rfl⟩ ⟨_, rfl, rfl, rfl, rfl⟩ ⟨_, rfl, rfl, rfl, rfl⟩ ⟨_, rfl, rfl, rfl, rfl⟩ ?_
  refine lw_push R hL (k := 2) (by omega) ⟨_, rfl, rfl, rfl, rfl⟩ ⟨_, rfl, rfl, rfl, rfl⟩ ⟨_, rfl, rfl, rfl, rfl⟩ ⟨_, rfl, rfl, rfl, rfl⟩ ⟨_, rfl, rfl, rfl, rfl⟩ ?_
  refine lw_cc (kd := 0) R (j := 309) (nb := 44) (ref := 702) (q := rxm_309) [sx (i + 1), sx (i + 2)] ⟨_, rfl, rfl, rfl, rfl⟩ rfl rfl rfl (by decide) (lw_rcM h1.1.2.2.1.T) rfl rfl (Or.inl ⟨rfl, ⟨_, rfl, rfl, rfl, rfl⟩⟩) (lw_ordM (C0 := lw_c axc0_309 0) (C1 := lw_c axc1_309 0) (kd := 0) ((H.2.1 _ 309 rxm_309 (axm_309, axc0_309) rfl rfl).2 (Nat.lt_succ_self _) _ List.mem_cons_self) ((H.2.2 _ 309 rxm_309 (axm_309, axc1_309) rfl rfl).2 (Nat.lt_succ_self _) _ List.mem_cons_self) (Or.inl rfl) hv rfl rfl (by decide +kernel) (by decide +kernel) rfl rfl (by decide +kernel) (by decide +kernel) h1.1.2.2.1) (fun o h => ⟨h.1, h.2.1⟩) (fun o2 h2 => ?_)
  obtain ⟨a2, H2, c2⟩ := lw_rnM (j := 309) (q := rxm_309) (vals := [sx (i + 1), sx (i + 2)]) rfl sg_309 rfl cv_309 hv h1.1.2.2.1.T H1 h2.1.2.2.2 h2.2
  exact lw_goto R ⟨_, rfl, rfl, rfl, rfl⟩ (hN o2.2.1 ⟨h2.1.2.2.1, lw_two hR H2 c1 c2 (fun _ _ _ _ _ _ h => (o_change (hsx _) (hsx _) h a1 a2).2.1)⟩)
set_option maxHeartbeats 1000000 in
/-- send -/
theorem lw_k9 (R : lw_Rules l cy D (rxl L sx) G) (H : lw_H) (hL : L ≤ 3072) (hsx : ∀ j, sx j < 4294967296) (hi : i + 6 ≤ L) (hJ : lw_JR hp) (hN : ∀ hp', lw_JR hp' → G (1409, lw_LV i, [], hp', [], 205, 8956)) : G (467, lw_LV i, [], hp, [], 205, 8956) := by
  have hv : ∀ v ∈ ([sx (i + 1), sx (i + 2)] : List Nat), v < 4294967296 := (fun v hv => by simp only [List.mem_cons, List.not_mem_nil, or_false] at hv; rcases hv with rfl | rfl <;> exact hsx _)
  obtain ⟨hJ, hR⟩ := hJ
  refine lw_step R (h := rx_h_ld rx_isR 1 1) (a := 0) (σ' := (468, lw_LV i, [10], hp, [], 205, 8956)) ⟨_, rfl, rfl, rfl, rfl⟩ (fun _ => rfl) ?_
  refine lw_push R hL (k := 1) (by omega) ⟨_, rfl, rfl, rfl, rfl⟩ ⟨_, rfl, rfl, rfl, rfl⟩ ⟨_, rfl, rfl, rfl, rfl⟩ ⟨_, rfl, rfl, rfl, rfl⟩ ⟨_, rfl, rfl, rfl, rfl⟩ ?_
  refine lw_push R hL (k := 2) (by omega) ⟨_, rfl, rfl, rfl, rfl⟩ ⟨_, rfl, rfl, rfl, rfl⟩ ⟨_, rfl, rfl, rfl, rfl⟩ ⟨_, rfl, rfl, rfl, rfl⟩ ⟨_, rfl, rfl, rfl, rfl⟩ ?_
  refine lw_cc (kd := 0) R (j := 191) (nb := 40) (ref := 10) (q := rxm_191) [sx (i + 1), sx (i + 2)] ⟨_, rfl, rfl, rfl, rfl⟩ rfl rfl rfl (by decide) (lw_rcT hJ.T) rfl rfl (Or.inl ⟨rfl, ⟨_, rfl, rfl, rfl, rfl⟩⟩) (lw_ordC (C := lw_c axc_191 0) (kd := 0) ((H.1 _ 191 rxm_191 (axm_191, axc_191) rfl rfl).2 (Nat.lt_succ_self _) _ List.mem_cons_self) (Or.inl rfl) hv rfl rfl (by decide +kernel) (by decide +kernel) hJ) (fun o h => ⟨h.1, h.2.1⟩) (fun o1 h1 => ?_)
  obtain ⟨a1, H1, c1⟩ := lw_rnC (j := 191) (q := rxm_191) (vals := [sx (i + 1), sx (i + 2)]) rfl sg_191 rfl cv_191 hv hJ.T hR h1.1.2.2.2 h1.2
  refine lw_step R (h := rx_h_ld rx_isR 2 1) (a := 0) (σ' := (483, lw_LV i, [702], o1.2.1, [], 205, 8956)) ⟨_, rfl, rfl, rfl, rfl⟩ (fun _ => rfl) ?_
  refine lw_push R hL (k := 1) (by omega) ⟨_, rfl, rfl, rfl, rfl⟩ ⟨_, rfl, rfl, rfl, rfl⟩ ⟨_, rfl, rfl, rfl, rfl⟩ ⟨_, rfl, rfl, rfl, rfl⟩ ⟨_, rfl, rfl, rfl, rfl⟩ ?_
  refine lw_push R hL (k := 2) (by omega) ⟨_, rfl, rfl, rfl, rfl⟩ ⟨_, rfl, rfl, rfl, rfl⟩ ⟨_, rfl, rfl, rfl, rfl⟩ ⟨_, rfl, rfl, rfl, rfl⟩ ⟨_, rfl, rfl, rfl, rfl⟩ ?_
  refine lw_cc (kd := 0) R (j := 207) (nb := 44) (ref := 702) (q := rxm_207) [sx (i + 1), sx (i + 2)] ⟨_, rfl, rfl, rfl, rfl⟩ rfl rfl rfl (by decide) (lw_rcM h1.1.2.2.1.T) rfl rfl (Or.inl ⟨rfl, ⟨_, rfl, rfl, rfl, rfl⟩⟩) (lw_ordM (C0 := lw_c axc0_207 0) (C1 := lw_c axc1_207 0) (kd := 0) ((H.2.1 _ 207 rxm_207 (axm_207, axc0_207) rfl rfl).2 (Nat.lt_succ_self _) _ List.mem_cons_self) ((H.2.2 _ 207 rxm_207 (axm_207, axc1_207) rfl rfl).2 (Nat.lt_succ_self _) _ List.mem_cons_self) (Or.inl rfl) hv rfl rfl (by decide +kernel) (by decide +kernel) rfl rfl (by decide +kernel) (by decide +kernel) h1.1.2.2.1) (fun o h => ⟨h.1, h.2.1⟩) (fun o2 h2 => ?_)
  obtain ⟨a2, H2, c2⟩ := lw_rnM (j := 207) (q := rxm_207) (vals := [sx (i + 1), sx (i + 2)]) rfl sg_207 rfl cv_207 hv h1.1.2.2.1.T H1 h2.1.2.2.2 h2.2
  exact lw_goto R ⟨_, rfl, rfl, rfl, rfl⟩ (hN o2.2.1 ⟨h2.1.2.2.1, lw_two hR H2 c1 c2 (fun _ _ _ _ _ _ h => (o_send (hsx _) (hsx _) h a1 a2).2.1)⟩)
set_option maxHeartbeats 1000000 in
/-- steps -/
theorem lw_k10 (R : lw_Rules l cy D (rxl L sx) G) (H : lw_H) (hL : L ≤ 3072) (hsx : ∀ j, sx j < 4294967296) (hi : i + 6 ≤ L) (hJ : lw_JR hp) (hN : ∀ hp', lw_JR hp' → G (1409, lw_LV i, [], hp', [], 205, 8956)) : G (500, lw_LV i, [], hp, [], 205, 8956) := by
  have hv : ∀ v ∈ ([sx (i + 1)] : List Nat), v < 4294967296 := (fun v hv => by simp only [List.mem_cons, List.not_mem_nil, or_false] at hv; rcases hv with rfl <;> exact hsx _)
  obtain ⟨hJ, hR⟩ := hJ
  refine lw_step R (h := rx_h_ld rx_isR 1 1) (a := 0) (σ' := (501, lw_LV i, [10], hp, [], 205, 8956)) ⟨_, rfl, rfl, rfl, rfl⟩ (fun _ => rfl) ?_
  refine lw_push R hL (k := 1) (by omega) ⟨_, rfl, rfl, rfl, rfl⟩ ⟨_, rfl, rfl, rfl, rfl⟩ ⟨_, rfl, rfl, rfl, rfl⟩ ⟨_, rfl, rfl, rfl, rfl⟩ ⟨_, rfl, rfl, rfl, rfl⟩ ?_
  refine lw_cc (kd := 0) R (j := 254) (nb := 40) (ref := 10) (q := rxm_254) [sx (i + 1)] ⟨_, rfl, rfl, rfl, rfl⟩ rfl rfl rfl (by decide) (lw_rcT hJ.T) rfl rfl (Or.inl ⟨rfl, ⟨_, rfl, rfl, rfl, rfl⟩⟩) (lw_ordC (C := lw_c axc_254 0) (kd := 0) ((H.1 _ 254 rxm_254 (axm_254, axc_254) rfl rfl).2 (Nat.lt_succ_self _) _ List.mem_cons_self) (Or.inl rfl) hv rfl rfl (by decide +kernel) (by decide +kernel) hJ) (fun o h => ⟨h.1, h.2.1⟩) (fun o1 h1 => ?_)
  obtain ⟨a1, H1, c1⟩ := lw_rnC (j := 254) (q := rxm_254) (vals := [sx (i + 1)]) rfl sg_254 rfl cv_254 hv hJ.T hR h1.1.2.2.2 h1.2
  refine lw_step R (h := rx_h_ld rx_isR 2 1) (a := 0) (σ' := (511, lw_LV i, [702], o1.2.1, [], 205, 8956)) ⟨_, rfl, rfl, rfl, rfl⟩ (fun _ => rfl) ?_
  refine lw_push R hL (k := 1) (by omega) ⟨_, rfl, rfl, rfl, rfl⟩ ⟨_, rfl, rfl, rfl, rfl⟩ ⟨_, rfl, rfl, rfl, rfl⟩ ⟨_, rfl, rfl, rfl, rfl⟩ ⟨_, rfl, rfl, rfl, rfl⟩ ?_
  refine lw_cc (kd := 0) R (j := 304) (nb := 44) (ref := 702) (q := rxm_304) [sx (i + 1)] ⟨_, rfl, rfl, rfl, rfl⟩ rfl rfl rfl (by decide) (lw_rcM h1.1.2.2.1.T) rfl rfl (Or.inl ⟨rfl, ⟨_, rfl, rfl, rfl, rfl⟩⟩) (lw_ordM (C0 := lw_c axc0_304 0) (C1 := lw_c axc1_304 0) (kd := 0) ((H.2.1 _ 304 rxm_304 (axm_304, axc0_304) rfl rfl).2 (Nat.lt_succ_self _) _ List.mem_cons_self) ((H.2.2 _ 304 rxm_304 (axm_304, axc1_304) rfl rfl).2 (Nat.lt_succ_self _) _ List.mem_cons_self) (Or.inl rfl) hv rfl rfl (by decide +kernel) (by decide +kernel) rfl rfl (by decide +kernel) (by decide +kernel) h1.1.2.2.1) (fun o h => ⟨h.1, h.2.1⟩) (fun o2 h2 => ?_)
  obtain ⟨a2, H2, c2⟩ := lw_rnM (j := 304) (q := rxm_304) (vals := [sx (i + 1)]) rfl sg_304 rfl cv_304 hv h1.1.2.2.1.T H1 h2.1.2.2.2 h2.2
  exact lw_goto R ⟨_, rfl, rfl, rfl, rfl⟩ (hN o2.2.1 ⟨h2.1.2.2.1, lw_two hR H2 c1 c2 (fun _ _ _ _ _ _ h => (o_steps (hsx _) h a1 a2).2.1)⟩)
set_option maxHeartbeats 1000000 in
/-- undo -/
theorem lw_k11 (R : lw_Rules l cy D (rxl L sx) G) (H : lw_H) (hL : L ≤ 3072) (hsx : ∀ j, sx j < 4294967296) (hi : i + 6 ≤ L) (hJ : lw_JR hp) (hN : ∀ hp', lw_JR hp' → G (1409, lw_LV i, [], hp', [], 205, 8956)) : G (523, lw_LV i, [], hp, [], 205, 8956) := by
  have hv : ∀ v ∈ ([] : List Nat), v < 4294967296 := (fun v hv => by cases hv)
  obtain ⟨hJ, hR⟩ := hJ
  refine lw_step R (h := rx_h_ld rx_isR 1 1) (a := 0) (σ' := (524, lw_LV i, [10], hp, [], 205, 8956)) ⟨_, rfl, rfl, rfl, rfl⟩ (fun _ => rfl) ?_
  refine lw_cc (kd := 0) R (j := 156) (nb := 40) (ref := 10) (q := rxm_156) [] ⟨_, rfl, rfl, rfl, rfl⟩ rfl rfl rfl (by decide) (lw_rcT hJ.T) rfl rfl (Or.inl ⟨rfl, ⟨_, rfl, rfl, rfl, rfl⟩⟩) (lw_ordC (C := lw_c axc_156 0) (kd := 0) ((H.1 _ 156 rxm_156 (axm_156, axc_156) rfl rfl).2 (Nat.lt_succ_self _) _ List.mem_cons_self) (Or.inl rfl) hv rfl rfl (by decide +kernel) (by decide +kernel) hJ) (fun o h => ⟨h.1, h.2.1⟩) (fun o1 h1 => ?_)
  obtain ⟨a1, H1, c1⟩ := lw_rnC (j := 156) (q := rxm_156) (vals := []) rfl sg_156 rfl cv_156 hv hJ.T hR h1.1.2.2.2 h1.2
  refine lw_step R (h := rx_h_ld rx_isR 2 1) (a := 0) (σ' := (529, lw_LV i, [702], o1.2.1, [], 205, 8956)) ⟨_, rfl, rfl, rfl, rfl⟩ (fun _ => rfl) ?_
  refine lw_cc (kd := 0) R (j := 133) (nb := 44) (ref := 702) (q := rxm_133) [] ⟨_, rfl, rfl, rfl, rfl⟩ rfl rfl rfl (by decide) (lw_rcM h1.1.2.2.1.T) rfl rfl (Or.inl ⟨rfl, ⟨_, rfl, rfl, rfl, rfl⟩⟩) (lw_ordM (C0 := lw_c axc0_133 0) (C1 := lw_c axc1_133 0) (kd := 0) ((H.2.1 _ 133 rxm_133 (axm_133, axc0_133) rfl rfl).2 (Nat.lt_succ_self _) _ List.mem_cons_self) ((H.2.2 _ 133 rxm_133 (axm_133, axc1_133) rfl rfl).2 (Nat.lt_succ_self _) _ List.mem_cons_self) (Or.inl rfl) hv rfl rfl (by decide +kernel) (by decide +kernel) rfl rfl (by decide +kernel) (by decide +kernel) h1.1.2.2.1) (fun o h => ⟨h.1, h.2.1⟩) (fun o2 h2 => ?_)
  obtain ⟨a2, H2, c2⟩ := lw_rnM (j := 133) (q := rxm_133) (vals := []) rfl sg_133 rfl cv_133 hv h1.1.2.2.1.T H1 h2.1.2.2.2 h2.2
  exact lw_goto R ⟨_, rfl, rfl, rfl, rfl⟩ (hN o2.2.1 ⟨h2.1.2.2.1, lw_two hR H2 c1 c2 (fun _ _ _ _ _ _ h => (o_undo h a1 a2).2.1)⟩)
set_option maxHeartbeats 1000000 in
/-- redo -/
theorem lw_k12 (R : lw_Rules l cy D (rxl L sx) G) (H : lw_H) (hL : L ≤ 3072) (hsx : ∀ j, sx j < 4294967296) (hi : i + 6 ≤ L) (hJ : lw_JR hp) (hN : ∀ hp', lw_JR hp' → G (1409, lw_LV i, [], hp', [], 205, 8956)) : G (536, lw_LV i, [], hp, [], 205, 8956) := by
  have hv : ∀ v ∈ ([] : List Nat), v < 4294967296 := (fun v hv => by cases hv)
  obtain ⟨hJ, hR⟩ := hJ
  refine lw_step R (h := rx_h_ld rx_isR 1 1) (a := 0) (σ' := (537, lw_LV i, [10], hp, [], 205, 8956)) ⟨_, rfl, rfl, rfl, rfl⟩ (fun _ => rfl) ?_
  refine lw_cc (kd := 0) R (j := 155) (nb := 40) (ref := 10) (q := rxm_155) [] ⟨_, rfl, rfl, rfl, rfl⟩ rfl rfl rfl (by decide) (lw_rcT hJ.T) rfl rfl (Or.inl ⟨rfl, ⟨_, rfl, rfl, rfl, rfl⟩⟩) (lw_ordC (C := lw_c axc_155 0) (kd := 0) ((H.1 _ 155 rxm_155 (axm_155, axc_155) rfl rfl).2 (Nat.lt_succ_self _) _ List.mem_cons_self) (Or.inl rfl) hv rfl rfl (by decide +kernel) (by decide +kernel) hJ) (fun o h => ⟨h.1, h.2.1⟩) (fun o1 h1 => ?_)
  obtain ⟨a1, H1, c1⟩ := lw_rnC (j := 155) (q := rxm_155) (vals := []) rfl sg_155 rfl cv_155 hv hJ.T hR h1.1.2.2.2 h1.2
  refine lw_step R (h := rx_h_ld rx_isR 2 1) (a := 0) (σ' := (542, lw_LV i, [702], o1.2.1, [], 205, 8956)) ⟨_, rfl, rfl, rfl, rfl⟩ (fun _ => rfl) ?_
  refine lw_cc (kd := 0) R (j := 127) (nb := 44) (ref := 702) (q := rxm_127) [] ⟨_, rfl, rfl, rfl, rfl⟩ rfl rfl rfl (by decide) (lw_rcM h1.1.2.2.1.T) rfl rfl (Or.inl ⟨rfl, ⟨_, rfl, rfl, rfl, rfl⟩⟩) (lw_ordM (C0 := lw_c axc0_127 0) (C1 := lw_c axc1_127 0) (kd := 0) ((H.2.1 _ 127 rxm_127 (axm_127, axc0_127) rfl rfl).2 (Nat.lt_succ_self _) _ List.mem_cons_self) ((H.2.2 _ 127 rxm_127 (axm_127, axc1_127) rfl rfl).2 (Nat.lt_succ_self _) _ List.mem_cons_self) (Or.inl rfl) hv rfl rfl (by decide +kernel) (by decide +kernel) rfl rfl (by decide +kernel) (by decide +kernel) h1.1.2.2.1) (fun o h => ⟨h.1, h.2.1⟩) (fun o2 h2 => ?_)
  obtain ⟨a2, H2, c2⟩ := lw_rnM (j := 127) (q := rxm_127) (vals := []) rfl sg_127 rfl cv_127 hv h1.1.2.2.1.T H1 h2.1.2.2.2 h2.2
  exact lw_goto R ⟨_, rfl, rfl, rfl, rfl⟩ (hN o2.2.1 ⟨h2.1.2.2.1, lw_two hR H2 c1 c2 (fun _ _ _ _ _ _ h => (o_redo h a1 a2).2.1)⟩)
set_option maxHeartbeats 1000000 in
/-- node -/
theorem lw_k13 (R : lw_Rules l cy D (rxl L sx) G) (H : lw_H) (hL : L ≤ 3072) (hsx : ∀ j, sx j < 4294967296) (hi : i + 6 ≤ L) (hJ : lw_JR hp) (hN : ∀ hp', lw_JR hp' → G (1409, lw_LV i, [], hp', [], 205, 8956)) : G (549, lw_LV i, [], hp, [], 205, 8956) := by
  have hv : ∀ v ∈ ([sx (i + 1), sx (i + 2)] : List Nat), v < 4294967296 := (fun v hv => by simp only [List.mem_cons, List.not_mem_nil, or_false] at hv; rcases hv with rfl | rfl <;> exact hsx _)
  obtain ⟨hJ, hR⟩ := hJ
  refine lw_step R (h := rx_h_ld rx_isR 1 1) (a := 0) (σ' := (550, lw_LV i, [10], hp, [], 205, 8956)) ⟨_, rfl, rfl, rfl, rfl⟩ (fun _ => rfl) ?_
  refine lw_push R hL (k := 1) (by omega) ⟨_, rfl, rfl, rfl, rfl⟩ ⟨_, rfl, rfl, rfl, rfl⟩ ⟨_, rfl, rfl, rfl, rfl⟩ ⟨_, rfl, rfl, rfl, rfl⟩ ⟨_, rfl, rfl, rfl, rfl⟩ ?_
  refine lw_push R hL (k := 2) (by omega) ⟨_, rfl, rfl, rfl, rfl⟩ ⟨_, rfl, rfl, rfl, rfl⟩ ⟨_, rfl, rfl, rfl, rfl⟩ ⟨_, rfl, rfl, rfl, rfl⟩ ⟨_, rfl, rfl, rfl, rfl⟩ ?_
  refine lw_cv R (j := 187) (nb := 40) (ref := 10) (q := rxm_187) [sx (i + 1), sx (i + 2)] [] ⟨_, rfl, rfl, rfl, rfl⟩ rfl rfl rfl (by decide) (lw_rcT hJ.T) rfl rfl (Nat.zero_le _) (lw_ordC (C := lw_c axc_187 0) (kd := 0) ((H.1 _ 187 rxm_187 (axm_187, axc_187) rfl rfl).2 (Nat.lt_succ_self _) _ List.mem_cons_self) (Or.inl rfl) hv rfl rfl (by decide +kernel) (by decide +kernel) hJ) (fun o h => h.1) (fun o1 h1 => ?_)
  obtain ⟨a1, H1, c1⟩ := lw_rnC (j := 187) (q := rxm_187) (vals := [sx (i + 1), sx (i + 2)]) rfl sg_187 rfl cv_187 hv hJ.T hR h1.1.2.2.2 h1.2
  refine lw_step R (h := rx_h_ld rx_isR 2 1) (a := 0) (σ' := (564, lw_LV i, [702, o1.1], o1.2.1, [], 205, 8956)) ⟨_, rfl, rfl, rfl, rfl⟩ (fun _ => rfl) ?_
  refine lw_push R hL (k := 1) (by omega) ⟨_, rfl, rfl, rfl, rfl⟩ ⟨_, rfl, rfl, rfl, rfl⟩ ⟨_, rfl, rfl, rfl, rfl⟩ ⟨_, rfl, rfl, rfl, rfl⟩ ⟨_, rfl, rfl, rfl, rfl⟩ ?_
  refine lw_push R hL (k := 2) (by omega) ⟨_, rfl, rfl, rfl, rfl⟩ ⟨_, rfl, rfl, rfl, rfl⟩ ⟨_, rfl, rfl, rfl, rfl⟩ ⟨_, rfl, rfl, rfl, rfl⟩ ⟨_, rfl, rfl, rfl, rfl⟩ ?_
  refine lw_cv R (j := 243) (nb := 44) (ref := 702) (q := rxm_243) [sx (i + 1), sx (i + 2)] [o1.1] ⟨_, rfl, rfl, rfl, rfl⟩ rfl rfl rfl (by decide) (lw_rcM h1.1.2.2.1.T) rfl rfl lw_cat1 (lw_ordM (C0 := lw_c axc0_243 0) (C1 := lw_c axc1_243 0) (kd := 0) ((H.2.1 _ 243 rxm_243 (axm_243, axc0_243) rfl rfl).2 (Nat.lt_succ_self _) _ List.mem_cons_self) ((H.2.2 _ 243 rxm_243 (axm_243, axc1_243) rfl rfl).2 (Nat.lt_succ_self _) _ List.mem_cons_self) (Or.inl rfl) hv rfl rfl (by decide +kernel) (by decide +kernel) rfl rfl (by decide +kernel) (by decide +kernel) h1.1.2.2.1) (fun o h => h.1) (fun o2 h2 => ?_)
  obtain ⟨a2, H2, c2⟩ := lw_rnM (j := 243) (q := rxm_243) (vals := [sx (i + 1), sx (i + 2)]) rfl sg_243 rfl cv_243 hv h1.1.2.2.1.T H1 h2.1.2.2.2 h2.2
  have ev : o1.1 = o2.1 := fx_d_inj (lw_val hR c1 (fun _ _ _ _ _ _ h => (o_node (hsx _) h a1 a2).1))
  exact lw_cmp R (k := .eq) h1.1.2.1 h2.1.2.1 ⟨_, rfl, rfl, rfl, rfl⟩ (fun _ => hN o2.2.1 ⟨h2.1.2.2.1, lw_two hR H2 c1 c2 (fun _ _ _ _ _ _ h => (o_node (hsx _) h a1 a2).2.1)⟩) (fun z => absurd (by rw [ev]; exact rfl) z)
set_option maxHeartbeats 1000000 in
/-- link -/
theorem lw_k14 (R : lw_Rules l cy D (rxl L sx) G) (H : lw_H) (hL : L ≤ 3072) (hsx : ∀ j, sx j < 4294967296) (hi : i + 6 ≤ L) (hJ : lw_JR hp) (hN : ∀ hp', lw_JR hp' → G (1409, lw_LV i, [], hp', [], 205, 8956)) : G (582, lw_LV i, [], hp, [], 205, 8956) := by
  have hv : ∀ v ∈ ([sx (i + 1), sx (i + 2)] : List Nat), v < 4294967296 := (fun v hv => by simp only [List.mem_cons, List.not_mem_nil, or_false] at hv; rcases hv with rfl | rfl <;> exact hsx _)
  obtain ⟨hJ, hR⟩ := hJ
  refine lw_step R (h := rx_h_ld rx_isR 1 1) (a := 0) (σ' := (583, lw_LV i, [10], hp, [], 205, 8956)) ⟨_, rfl, rfl, rfl, rfl⟩ (fun _ => rfl) ?_
  refine lw_push R hL (k := 1) (by omega) ⟨_, rfl, rfl, rfl, rfl⟩ ⟨_, rfl, rfl, rfl, rfl⟩ ⟨_, rfl, rfl, rfl, rfl⟩ ⟨_, rfl, rfl, rfl, rfl⟩ ⟨_, rfl, rfl, rfl, rfl⟩ ?_
  refine lw_push R hL (k := 2) (by omega) ⟨_, rfl, rfl, rfl, rfl⟩ ⟨_, rfl, rfl, rfl, rfl⟩ ⟨_, rfl, rfl, rfl, rfl⟩ ⟨_, rfl, rfl, rfl, rfl⟩ ⟨_, rfl, rfl, rfl, rfl⟩ ?_
  refine lw_cc (kd := 0) R (j := 111) (nb := 40) (ref := 10) (q := rxm_111) [sx (i + 1), sx (i + 2)] ⟨_, rfl, rfl, rfl, rfl⟩ rfl rfl rfl (by decide) (lw_rcT hJ.T) rfl rfl (Or.inl ⟨rfl, ⟨_, rfl, rfl, rfl, rfl⟩⟩) (lw_ordC (C := lw_c axc_111 0) (kd := 0) ((H.1 _ 111 rxm_111 (axm_111, axc_111) rfl rfl).2 (Nat.lt_succ_self _) _ List.mem_cons_self) (Or.inl rfl) hv rfl rfl (by decide +kernel) (by decide +kernel) hJ) (fun o h => ⟨h.1, h.2.1⟩) (fun o1 h1 => ?_)
  obtain ⟨a1, H1, c1⟩ := lw_rnC (j := 111) (q := rxm_111) (vals := [sx (i + 1), sx (i + 2)]) rfl sg_111 rfl cv_111 hv hJ.T hR h1.1.2.2.2 h1.2
  refine lw_step R (h := rx_h_ld rx_isR 2 1) (a := 0) (σ' := (598, lw_LV i, [702], o1.2.1, [], 205, 8956)) ⟨_, rfl, rfl, rfl, rfl⟩ (fun _ => rfl) ?_
  refine lw_push R hL (k := 1) (by omega) ⟨_, rfl, rfl, rfl, rfl⟩ ⟨_, rfl, rfl, rfl, rfl⟩ ⟨_, rfl, rfl, rfl, rfl⟩ ⟨_, rfl, rfl, rfl, rfl⟩ ⟨_, rfl, rfl, rfl, rfl⟩ ?_
  refine lw_push R hL (k := 2) (by omega) ⟨_, rfl, rfl, rfl, rfl⟩ ⟨_, rfl, rfl, rfl, rfl⟩ ⟨_, rfl, rfl, rfl, rfl⟩ ⟨_, rfl, rfl, rfl, rfl⟩ ⟨_, rfl, rfl, rfl, rfl⟩ ?_
  refine lw_cc (kd := 0) R (j := 166) (nb := 44) (ref := 702) (q := rxm_166) [sx (i + 1), sx (i + 2)] ⟨_, rfl, rfl, rfl, rfl⟩ rfl rfl rfl (by decide) (lw_rcM h1.1.2.2.1.T) rfl rfl (Or.inl ⟨rfl, ⟨_, rfl, rfl, rfl, rfl⟩⟩) (lw_ordM (C0 := lw_c axc0_166 0) (C1 := lw_c axc1_166 0) (kd := 0) ((H.2.1 _ 166 rxm_166 (axm_166, axc0_166) rfl rfl).2 (Nat.lt_succ_self _) _ List.mem_cons_self) ((H.2.2 _ 166 rxm_166 (axm_166, axc1_166) rfl rfl).2 (Nat.lt_succ_self _) _ List.mem_cons_self) (Or.inl rfl) hv rfl rfl (by decide +kernel) (by decide +kernel) rfl rfl (by decide +kernel) (by decide +kernel) h1.1.2.2.1) (fun o h => ⟨h.1, h.2.1⟩) (fun o2 h2 => ?_)
  obtain ⟨a2, H2, c2⟩ := lw_rnM (j := 166) (q := rxm_166) (vals := [sx (i + 1), sx (i + 2)]) rfl sg_166 rfl cv_166 hv h1.1.2.2.1.T H1 h2.1.2.2.2 h2.2
  exact lw_goto R ⟨_, rfl, rfl, rfl, rfl⟩ (hN o2.2.1 ⟨h2.1.2.2.1, lw_two hR H2 c1 c2 (fun _ _ _ _ _ _ h => (o_link (hsx _) h a1 a2).2.1)⟩)
set_option maxHeartbeats 1000000 in
/-- length -/
theorem lw_k15 (R : lw_Rules l cy D (rxl L sx) G) (H : lw_H) (hL : L ≤ 3072) (hsx : ∀ j, sx j < 4294967296) (hi : i + 6 ≤ L) (hJ : lw_JR hp) (hN : ∀ hp', lw_JR hp' → G (1409, lw_LV i, [], hp', [], 205, 8956)) : G (615, lw_LV i, [], hp, [], 205, 8956) := by
  have hv : ∀ v ∈ ([sx (i + 1), sx (i + 2)] : List Nat), v < 4294967296 := (fun v hv => by simp only [List.mem_cons, List.not_mem_nil, or_false] at hv; rcases hv with rfl | rfl <;> exact hsx _)
  obtain ⟨hJ, hR⟩ := hJ
  refine lw_step R (h := rx_h_ld rx_isR 1 1) (a := 0) (σ' := (616, lw_LV i, [10], hp, [], 205, 8956)) ⟨_, rfl, rfl, rfl, rfl⟩ (fun _ => rfl) ?_
  refine lw_push R hL (k := 1) (by omega) ⟨_, rfl, rfl, rfl, rfl⟩ ⟨_, rfl, rfl, rfl, rfl⟩ ⟨_, rfl, rfl, rfl, rfl⟩ ⟨_, rfl, rfl, rfl, rfl⟩ ⟨_, rfl, rfl, rfl, rfl⟩ ?_
  refine lw_push R hL (k := 2) (by omega) ⟨_, rfl, rfl, rfl, rfl⟩ ⟨_, rfl, rfl, rfl, rfl⟩ ⟨_, rfl, rfl, rfl, rfl⟩ ⟨_, rfl, rfl, rfl, rfl⟩ ⟨_, rfl, rfl, rfl, rfl⟩ ?_
  refine lw_cc (kd := 0) R (j := 215) (nb := 40) (ref := 10) (q := rxm_215) [sx (i + 1), sx (i + 2)] ⟨_, rfl, rfl, rfl, rfl⟩ rfl rfl rfl (by decide) (lw_rcT hJ.T) rfl rfl (Or.inl ⟨rfl, ⟨_, rfl, rfl, rfl, rfl⟩⟩) (lw_ordC (C := lw_c axc_215 0) (kd := 0) ((H.1 _ 215 rxm_215 (axm_215, axc_215) rfl rfl).2 (Nat.lt_succ_self _) _ List.mem_cons_self) (Or.inl rfl) hv rfl rfl (by decide +kernel) (by decide +kernel) hJ) (fun o h => ⟨h.1, h.2.1⟩) (fun o1 h1 => ?_)
  obtain ⟨a1, H1, c1⟩ := lw_rnC (j := 215) (q := rxm_215) (vals := [sx (i + 1), sx (i + 2)]) rfl sg_215 rfl cv_215 hv hJ.T hR h1.1.2.2.2 h1.2
  refine lw_step R (h := rx_h_ld rx_isR 2 1) (a := 0) (σ' := (631, lw_LV i, [702], o1.2.1, [], 205, 8956)) ⟨_, rfl, rfl, rfl, rfl⟩ (fun _ => rfl) ?_
  refine lw_push R hL (k := 1) (by omega) ⟨_, rfl, rfl, rfl, rfl⟩ ⟨_, rfl, rfl, rfl, rfl⟩ ⟨_, rfl, rfl, rfl, rfl⟩ ⟨_, rfl, rfl, rfl, rfl⟩ ⟨_, rfl, rfl, rfl, rfl⟩ ?_
  refine lw_push R hL (k := 2) (by omega) ⟨_, rfl, rfl, rfl, rfl⟩ ⟨_, rfl, rfl, rfl, rfl⟩ ⟨_, rfl, rfl, rfl, rfl⟩ ⟨_, rfl, rfl, rfl, rfl⟩ ⟨_, rfl, rfl, rfl, rfl⟩ ?_
  refine lw_cc (kd := 0) R (j := 271) (nb := 44) (ref := 702) (q := rxm_271) [sx (i + 1), sx (i + 2)] ⟨_, rfl, rfl, rfl, rfl⟩ rfl rfl rfl (by decide) (lw_rcM h1.1.2.2.1.T) rfl rfl (Or.inl ⟨rfl, ⟨_, rfl, rfl, rfl, rfl⟩⟩) (lw_ordM (C0 := lw_c axc0_271 0) (C1 := lw_c axc1_271 0) (kd := 0) ((H.2.1 _ 271 rxm_271 (axm_271, axc0_271) rfl rfl).2 (Nat.lt_succ_self _) _ List.mem_cons_self) ((H.2.2 _ 271 rxm_271 (axm_271, axc1_271) rfl rfl).2 (Nat.lt_succ_self _) _ List.mem_cons_self) (Or.inl rfl) hv rfl rfl (by decide +kernel) (by decide +kernel) rfl rfl (by decide +kernel) (by decide +kernel) h1.1.2.2.1) (fun o h => ⟨h.1, h.2.1⟩) (fun o2 h2 => ?_)
  obtain ⟨a2, H2, c2⟩ := lw_rnM (j := 271) (q := rxm_271) (vals := [sx (i + 1), sx (i + 2)]) rfl sg_271 rfl cv_271 hv h1.1.2.2.1.T H1 h2.1.2.2.2 h2.2
  exact lw_goto R ⟨_, rfl, rfl, rfl, rfl⟩ (hN o2.2.1 ⟨h2.1.2.2.1, lw_two hR H2 c1 c2 (fun _ _ _ _ _ _ h => (o_length (hsx _) (hsx _) h a1 a2).2.1)⟩)
set_option maxHeartbeats 1000000 in
/-- plain -/
theorem lw_k16 (R : lw_Rules l cy D (rxl L sx) G) (H : lw_H) (hL : L ≤ 3072) (hsx : ∀ j, sx j < 4294967296) (hi : i + 6 ≤ L) (hJ : lw_JR hp) (hN : ∀ hp', lw_JR hp' → G (1409, lw_LV i, [], hp', [], 205, 8956)) : G (648, lw_LV i, [], hp, [], 205, 8956) := by
  have hv : ∀ v ∈ ([sx (i + 1), sx (i + 2)] : List Nat), v < 4294967296 := (fun v hv => by simp only [List.mem_cons, List.not_mem_nil, or_false] at hv; rcases hv with rfl | rfl <;> exact hsx _)
  obtain ⟨hJ, hR⟩ := hJ
  refine lw_step R (h := rx_h_ld rx_isR 1 1) (a := 0) (σ' := (649, lw_LV i, [10], hp, [], 205, 8956)) ⟨_, rfl, rfl, rfl, rfl⟩ (fun _ => rfl) ?_
  refine lw_push R hL (k := 1) (by omega) ⟨_, rfl, rfl, rfl, rfl⟩ ⟨_, rfl, rfl, rfl, rfl⟩ ⟨_, rfl, rfl, rfl, rfl⟩ ⟨_, rfl, rfl, rfl, rfl⟩ ⟨_, rfl, rfl, rfl, rfl⟩ ?_
  refine lw_push R hL (k := 2) (by omega) ⟨_, rfl, rfl, rfl, rfl⟩ ⟨_, rfl, rfl, rfl, rfl⟩ ⟨_, rfl, rfl, rfl, rfl⟩ ⟨_, rfl, rfl, rfl, rfl⟩ ⟨_, rfl, rfl, rfl, rfl⟩ ?_
  refine lw_cc (kd := 0) R (j := 188) (nb := 40) (ref := 10) (q := rxm_188) [sx (i + 1), sx (i + 2)] ⟨_, rfl, rfl, rfl, rfl⟩ rfl rfl rfl (by decide) (lw_rcT hJ.T) rfl rfl (Or.inl ⟨rfl, ⟨_, rfl, rfl, rfl, rfl⟩⟩) (lw_ordC (C := lw_c axc_188 0) (kd := 0) ((H.1 _ 188 rxm_188 (axm_188, axc_188) rfl rfl).2 (Nat.lt_succ_self _) _ List.mem_cons_self) (Or.inl rfl) hv rfl rfl (by decide +kernel) (by decide +kernel) hJ) (fun o h => ⟨h.1, h.2.1⟩) (fun o1 h1 => ?_)
  obtain ⟨a1, H1, c1⟩ := lw_rnC (j := 188) (q := rxm_188) (vals := [sx (i + 1), sx (i + 2)]) rfl sg_188 rfl cv_188 hv hJ.T hR h1.1.2.2.2 h1.2
  refine lw_step R (h := rx_h_ld rx_isR 2 1) (a := 0) (σ' := (664, lw_LV i, [702], o1.2.1, [], 205, 8956)) ⟨_, rfl, rfl, rfl, rfl⟩ (fun _ => rfl) ?_
  refine lw_push R hL (k := 1) (by omega) ⟨_, rfl, rfl, rfl, rfl⟩ ⟨_, rfl, rfl, rfl, rfl⟩ ⟨_, rfl, rfl, rfl, rfl⟩ ⟨_, rfl, rfl, rfl, rfl⟩ ⟨_, rfl, rfl, rfl, rfl⟩ ?_
  refine lw_push R hL (k := 2) (by omega) ⟨_, rfl, rfl, rfl, rfl⟩ ⟨_, rfl, rfl, rfl, rfl⟩ ⟨_, rfl, rfl, rfl, rfl⟩ ⟨_, rfl, rfl, rfl, rfl⟩ ⟨_, rfl, rfl, rfl, rfl⟩ ?_
  refine lw_cc (kd := 0) R (j := 202) (nb := 44) (ref := 702) (q := rxm_202) [sx (i + 1), sx (i + 2)] ⟨_, rfl, rfl, rfl, rfl⟩ rfl rfl rfl (by decide) (lw_rcM h1.1.2.2.1.T) rfl rfl (Or.inl ⟨rfl, ⟨_, rfl, rfl, rfl, rfl⟩⟩) (lw_ordM (C0 := lw_c axc0_202 0) (C1 := lw_c axc1_202 0) (kd := 0) ((H.2.1 _ 202 rxm_202 (axm_202, axc0_202) rfl rfl).2 (Nat.lt_succ_self _) _ List.mem_cons_self) ((H.2.2 _ 202 rxm_202 (axm_202, axc1_202) rfl rfl).2 (Nat.lt_succ_self _) _ List.mem_cons_self) (Or.inl rfl) hv rfl rfl (by decide +kernel) (by decide +kernel) rfl rfl (by decide +kernel) (by decide +kernel) h1.1.2.2.1) (fun o h => ⟨h.1, h.2.1⟩) (fun o2 h2 => ?_)
  obtain ⟨a2, H2, c2⟩ := lw_rnM (j := 202) (q := rxm_202) (vals := [sx (i + 1), sx (i + 2)]) rfl sg_202 rfl cv_202 hv h1.1.2.2.1.T H1 h2.1.2.2.2 h2.2
  exact lw_goto R ⟨_, rfl, rfl, rfl, rfl⟩ (hN o2.2.1 ⟨h2.1.2.2.1, lw_two hR H2 c1 c2 (fun _ _ _ _ _ _ h => (o_plain (hsx _) (hsx _) h a1 a2).2.1)⟩)
set_option maxHeartbeats 1000000 in
/-- ways -/
theorem lw_k17 (R : lw_Rules l cy D (rxl L sx) G) (H : lw_H) (hL : L ≤ 3072) (hsx : ∀ j, sx j < 4294967296) (hi : i + 6 ≤ L) (hJ : lw_JR hp) (hN : ∀ hp', lw_JR hp' → G (1409, lw_LV i, [], hp', [], 205, 8956)) : G (681, lw_LV i, [], hp, [], 205, 8956) := by
  have hv : ∀ v ∈ ([sx (i + 1), sx (i + 2)] : List Nat), v < 4294967296 := (fun v hv => by simp only [List.mem_cons, List.not_mem_nil, or_false] at hv; rcases hv with rfl | rfl <;> exact hsx _)
  obtain ⟨hJ, hR⟩ := hJ
  refine lw_step R (h := rx_h_ld rx_isR 1 1) (a := 0) (σ' := (682, lw_LV i, [10], hp, [], 205, 8956)) ⟨_, rfl, rfl, rfl, rfl⟩ (fun _ => rfl) ?_
  refine lw_push R hL (k := 1) (by omega) ⟨_, rfl, rfl, rfl, rfl⟩ ⟨_, rfl, rfl, rfl, rfl⟩ ⟨_, rfl, rfl, rfl, rfl⟩ ⟨_, rfl, rfl, rfl, rfl⟩ ⟨_, rfl, rfl, rfl, rfl⟩ ?_
  refine lw_push R hL (k := 2) (by omega) ⟨_, rfl, rfl, rfl, rfl⟩ ⟨_, rfl, rfl, rfl, rfl⟩ ⟨_, rfl, rfl, rfl, rfl⟩ ⟨_, rfl, rfl, rfl, rfl⟩ ⟨_, rfl, rfl, rfl, rfl⟩ ?_
  refine lw_cc (kd := 1) R (j := 238) (nb := 40) (ref := 10) (q := rxm_238) [sx (i + 1), sx (i + 2)] ⟨_, rfl, rfl, rfl, rfl⟩ rfl rfl rfl (by decide) (lw_rcT hJ.T) rfl rfl (Or.inr ⟨rfl, ⟨_, rfl, rfl, rfl, rfl⟩⟩) (lw_ordC (C := lw_c axc_238 0) (kd := 1) ((H.1 _ 238 rxm_238 (axm_238, axc_238) rfl rfl).2 (Nat.lt_succ_self _) _ List.mem_cons_self) (Or.inr rfl) hv rfl rfl (by decide +kernel) (by decide +kernel) hJ) (fun o h => ⟨h.1, h.2.1⟩) (fun o1 h1 => ?_)
  obtain ⟨a1, H1, c1⟩ := lw_rnC (j := 238) (q := rxm_238) (vals := [sx (i + 1), sx (i + 2)]) rfl sg_238 rfl cv_238 hv hJ.T hR h1.1.2.2.2 h1.2
  refine lw_step R (h := rx_h_ld rx_isR 2 1) (a := 0) (σ' := (697, lw_LV i, [702], o1.2.1, [], 205, 8956)) ⟨_, rfl, rfl, rfl, rfl⟩ (fun _ => rfl) ?_
  refine lw_push R hL (k := 1) (by omega) ⟨_, rfl, rfl, rfl, rfl⟩ ⟨_, rfl, rfl, rfl, rfl⟩ ⟨_, rfl, rfl, rfl, rfl⟩ ⟨_, rfl, rfl, rfl, rfl⟩ ⟨_, rfl, rfl, rfl, rfl⟩ ?_
  refine lw_push R hL (k := 2) (by omega) ⟨_, rfl, rfl, rfl, rfl⟩ ⟨_, rfl, rfl, rfl, rfl⟩ ⟨_, rfl, rfl, rfl, rfl⟩ ⟨_, rfl, rfl, rfl, rfl⟩ ⟨_, rfl, rfl, rfl, rfl⟩ ?_
  refine lw_cc (kd := 1) R (j := 281) (nb := 44) (ref := 702) (q := rxm_281) [sx (i + 1), sx (i + 2)] ⟨_, rfl, rfl, rfl, rfl⟩ rfl rfl rfl (by decide) (lw_rcM h1.1.2.2.1.T) rfl rfl (Or.inr ⟨rfl, ⟨_, rfl, rfl, rfl, rfl⟩⟩) (lw_ordM (C0 := lw_c axc0_281 0) (C1 := lw_c axc1_281 0) (kd := 1) ((H.2.1 _ 281 rxm_281 (axm_281, axc0_281) rfl rfl).2 (Nat.lt_succ_self _) _ List.mem_cons_self) ((H.2.2 _ 281 rxm_281 (axm_281, axc1_281) rfl rfl).2 (Nat.lt_succ_self _) _ List.mem_cons_self) (Or.inr rfl) hv rfl rfl (by decide +kernel) (by decide +kernel) rfl rfl (by decide +kernel) (by decide +kernel) h1.1.2.2.1) (fun o h => ⟨h.1, h.2.1⟩) (fun o2 h2 => ?_)
  obtain ⟨a2, H2, c2⟩ := lw_rnM (j := 281) (q := rxm_281) (vals := [sx (i + 1), sx (i + 2)]) rfl sg_281 rfl cv_281 hv h1.1.2.2.1.T H1 h2.1.2.2.2 h2.2
  exact lw_goto R ⟨_, rfl, rfl, rfl, rfl⟩ (hN o2.2.1 ⟨h2.1.2.2.1, lw_two hR H2 c1 c2 (fun _ _ _ _ _ _ h => (h.kk (h_T_ways h a1) (g_M_ways a2)).1)⟩)
set_option maxHeartbeats 1000000 in
/-- through -/
theorem lw_k18 (R : lw_Rules l cy D (rxl L sx) G) (H : lw_H) (hL : L ≤ 3072) (hsx : ∀ j, sx j < 4294967296) (hi : i + 6 ≤ L) (hJ : lw_JR hp) (hN : ∀ hp', lw_JR hp' → G (1409, lw_LV i, [], hp', [], 205, 8956)) : G (714, lw_LV i, [], hp, [], 205, 8956) := by
  have hv : ∀ v ∈ ([sx (i + 1), sx (i + 2), sx (i + 3)] : List Nat), v < 4294967296 := (fun v hv => by simp only [List.mem_cons, List.not_mem_nil, or_false] at hv; rcases hv with rfl | rfl | rfl <;> exact hsx _)
  obtain ⟨hJ, hR⟩ := hJ
  refine lw_step R (h := rx_h_ld rx_isR 1 1) (a := 0) (σ' := (715, lw_LV i, [10], hp, [], 205, 8956)) ⟨_, rfl, rfl, rfl, rfl⟩ (fun _ => rfl) ?_
  refine lw_push R hL (k := 1) (by omega) ⟨_, rfl, rfl, rfl, rfl⟩ ⟨_, rfl, rfl, rfl, rfl⟩ ⟨_, rfl, rfl, rfl, rfl⟩ ⟨_, rfl, rfl, rfl, rfl⟩ ⟨_, rfl, rfl, rfl, rfl⟩ ?_
  refine lw_push R hL (k := 2) (by omega) ⟨_, rfl, rfl, rfl, rfl⟩ ⟨_, rfl, rfl, rfl, rfl⟩ ⟨_, rfl, rfl, rfl, rfl⟩ ⟨_, rfl, rfl, rfl, rfl⟩ ⟨_, rfl, rfl, rfl, rfl⟩ ?_
  refine lw_push R hL (k := 3) (by omega) ⟨_, rfl, rfl, rfl, rfl⟩ ⟨_, rfl, rfl, rfl, rfl⟩ ⟨_, rfl, rfl, rfl, rfl⟩ ⟨_, rfl, rfl, rfl, rfl⟩ ⟨_, rfl, rfl, rfl, rfl⟩ ?_
  refine lw_cc (kd := 1) R (j := 237) (nb := 40) (ref := 10) (q := rxm_237) [sx (i + 1), sx (i + 2), sx (i + 3)] ⟨_, rfl, rfl, rfl, rfl⟩ rfl rfl rfl (by decide) (lw_rcT hJ.T) rfl rfl (Or.inr ⟨rfl, ⟨_, rfl, rfl, rfl, rfl⟩⟩) (lw_ordC (C := lw_c axc_237 0) (kd := 1) ((H.1 _ 237 rxm_237 (axm_237, axc_237) rfl rfl).2 (Nat.lt_succ_self _) _ List.mem_cons_self) (Or.inr rfl) hv rfl rfl (by decide +kernel) (by decide +kernel) hJ) (fun o h => ⟨h.1, h.2.1⟩) (fun o1 h1 => ?_)
  obtain ⟨a1, H1, c1⟩ := lw_rnC (j := 237) (q := rxm_237) (vals := [sx (i + 1), sx (i + 2), sx (i + 3)]) rfl sg_237 rfl cv_237 hv hJ.T hR h1.1.2.2.2 h1.2
  refine lw_step R (h := rx_h_ld rx_isR 2 1) (a := 0) (σ' := (735, lw_LV i, [702], o1.2.1, [], 205, 8956)) ⟨_, rfl, rfl, rfl, rfl⟩ (fun _ => rfl) ?_
  refine lw_push R hL (k := 1) (by omega) ⟨_, rfl, rfl, rfl, rfl⟩ ⟨_, rfl, rfl, rfl, rfl⟩ ⟨_, rfl, rfl, rfl, rfl⟩ ⟨_, rfl, rfl, rfl, rfl⟩ ⟨_, rfl, rfl, rfl, rfl⟩ ?_
  refine lw_push R hL (k := 2) (by omega) ⟨_, rfl, rfl, rfl, rfl⟩ ⟨_, rfl, rfl, rfl, rfl⟩ ⟨_, rfl, rfl, rfl, rfl⟩ ⟨_, rfl, rfl, rfl, rfl⟩ ⟨_, rfl, rfl, rfl, rfl⟩ ?_
  refine lw_push R hL (k := 3) (by omega) ⟨_, rfl, rfl, rfl, rfl⟩ ⟨_, rfl, rfl, rfl, rfl⟩ ⟨_, rfl, rfl, rfl, rfl⟩ ⟨_, rfl, rfl, rfl, rfl⟩ ⟨_, rfl, rfl, rfl, rfl⟩ ?_
  refine lw_cc (kd := 1) R (j := 280) (nb := 44) (ref := 702) (q := rxm_280) [sx (i + 1), sx (i + 2), sx (i + 3)] ⟨_, rfl, rfl, rfl, rfl⟩ rfl rfl rfl (by decide) (lw_rcM h1.1.2.2.1.T) rfl rfl (Or.inr ⟨rfl, ⟨_, rfl, rfl, rfl, rfl⟩⟩) (lw_ordM (C0 := lw_c axc0_280 0) (C1 := lw_c axc1_280 0) (kd := 1) ((H.2.1 _ 280 rxm_280 (axm_280, axc0_280) rfl rfl).2 (Nat.lt_succ_self _) _ List.mem_cons_self) ((H.2.2 _ 280 rxm_280 (axm_280, axc1_280) rfl rfl).2 (Nat.lt_succ_self _) _ List.mem_cons_self) (Or.inr rfl) hv rfl rfl (by decide +kernel) (by decide +kernel) rfl rfl (by decide +kernel) (by decide +kernel) h1.1.2.2.1) (fun o h => ⟨h.1, h.2.1⟩) (fun o2 h2 => ?_)
  obtain ⟨a2, H2, c2⟩ := lw_rnM (j := 280) (q := rxm_280) (vals := [sx (i + 1), sx (i + 2), sx (i + 3)]) rfl sg_280 rfl cv_280 hv h1.1.2.2.1.T H1 h2.1.2.2.2 h2.2
  exact lw_goto R ⟨_, rfl, rfl, rfl, rfl⟩ (hN o2.2.1 ⟨h2.1.2.2.1, lw_two hR H2 c1 c2 (fun _ _ _ _ _ _ h => (h.kk (h_T_through h a1) (g_M_through a2)).1)⟩)
set_option maxHeartbeats 1000000 in
/-- entry -/
theorem lw_k19 (R : lw_Rules l cy D (rxl L sx) G) (H : lw_H) (hL : L ≤ 3072) (hsx : ∀ j, sx j < 4294967296) (hi : i + 6 ≤ L) (hJ : lw_JR hp) (hN : ∀ hp', lw_JR hp' → G (1409, lw_LV i, [], hp', [], 205, 8956)) : G (757, lw_LV i, [], hp, [], 205, 8956) := by
  have hv : ∀ v ∈ ([sx (i + 1), sx (i + 2), sx (i + 3)] : List Nat), v < 4294967296 := (fun v hv => by simp only [List.mem_cons, List.not_mem_nil, or_false] at hv; rcases hv with rfl | rfl | rfl <;> exact hsx _)
  obtain ⟨hJ, hR⟩ := hJ
  refine lw_step R (h := rx_h_ld rx_isR 1 1) (a := 0) (σ' := (758, lw_LV i, [10], hp, [], 205, 8956)) ⟨_, rfl, rfl, rfl, rfl⟩ (fun _ => rfl) ?_
  refine lw_push R hL (k := 1) (by omega) ⟨_, rfl, rfl, rfl, rfl⟩ ⟨_, rfl, rfl, rfl, rfl⟩ ⟨_, rfl, rfl, rfl, rfl⟩ ⟨_, rfl, rfl, rfl, rfl⟩ ⟨_, rfl, rfl, rfl, rfl⟩ ?_
  refine lw_push R hL (k := 2) (by omega) ⟨_, rfl, rfl, rfl, rfl⟩ ⟨_, rfl, rfl, rfl, rfl⟩ ⟨_, rfl, rfl, rfl, rfl⟩ ⟨_, rfl, rfl, rfl, rfl⟩ ⟨_, rfl, rfl, rfl, rfl⟩ ?_
  refine lw_push R hL (k := 3) (by omega) ⟨_, rfl, rfl, rfl, rfl⟩ ⟨_, rfl, rfl, rfl, rfl⟩ ⟨_, rfl, rfl, rfl, rfl⟩ ⟨_, rfl, rfl, rfl, rfl⟩ ⟨_, rfl, rfl, rfl, rfl⟩ ?_
  refine lw_cc (kd := 0) R (j := 228) (nb := 40) (ref := 10) (q := rxm_228) [sx (i + 1), sx (i + 2), sx (i + 3)] ⟨_, rfl, rfl, rfl, rfl⟩ rfl rfl rfl (by decide) (lw_rcT hJ.T) rfl rfl (Or.inl ⟨rfl, ⟨_, rfl, rfl, rfl, rfl⟩⟩) (lw_ordC (C := lw_c axc_228 0) (kd := 0) ((H.1 _ 228 rxm_228 (axm_228, axc_228) rfl rfl).2 (Nat.lt_succ_self _) _ List.mem_cons_self) (Or.inl rfl) hv rfl rfl (by decide +kernel) (by decide +kernel) hJ) (fun o h => ⟨h.1, h.2.1⟩) (fun o1 h1 => ?_)
  obtain ⟨a1, H1, c1⟩ := lw_rnC (j := 228) (q := rxm_228) (vals := [sx (i + 1), sx (i + 2), sx (i + 3)]) rfl sg_228 rfl cv_228 hv hJ.T hR h1.1.2.2.2 h1.2
  refine lw_step R (h := rx_h_ld rx_isR 2 1) (a := 0) (σ' := (778, lw_LV i, [702], o1.2.1, [], 205, 8956)) ⟨_, rfl, rfl, rfl, rfl⟩ (fun _ => rfl) ?_
  refine lw_push R hL (k := 1) (by omega) ⟨_, rfl, rfl, rfl, rfl⟩ ⟨_, rfl, rfl, rfl, rfl⟩ ⟨_, rfl, rfl, rfl, rfl⟩ ⟨_, rfl, rfl, rfl, rfl⟩ ⟨_, rfl, rfl, rfl, rfl⟩ ?_
  refine lw_push R hL (k := 2) (by omega) ⟨_, rfl, rfl, rfl, rfl⟩ ⟨_, rfl, rfl, rfl, rfl⟩ ⟨_, rfl, rfl, rfl, rfl⟩ ⟨_, rfl, rfl, rfl, rfl⟩ ⟨_, rfl, rfl, rfl, rfl⟩ ?_
  refine lw_push R hL (k := 3) (by omega) ⟨_, rfl, rfl, rfl, rfl⟩ ⟨_, rfl, rfl, rfl, rfl⟩ ⟨_, rfl, rfl, rfl, rfl⟩ ⟨_, rfl, rfl, rfl, rfl⟩ ⟨_, rfl, rfl, rfl, rfl⟩ ?_
  refine lw_cc (kd := 0) R (j := 284) (nb := 44) (ref := 702) (q := rxm_284) [sx (i + 1), sx (i + 2), sx (i + 3)] ⟨_, rfl, rfl, rfl, rfl⟩ rfl rfl rfl (by decide) (lw_rcM h1.1.2.2.1.T) rfl rfl (Or.inl ⟨rfl, ⟨_, rfl, rfl, rfl, rfl⟩⟩) (lw_ordM (C0 := lw_c axc0_284 0) (C1 := lw_c axc1_284 0) (kd := 0) ((H.2.1 _ 284 rxm_284 (axm_284, axc0_284) rfl rfl).2 (Nat.lt_succ_self _) _ List.mem_cons_self) ((H.2.2 _ 284 rxm_284 (axm_284, axc1_284) rfl rfl).2 (Nat.lt_succ_self _) _ List.mem_cons_self) (Or.inl rfl) hv rfl rfl (by decide +kernel) (by decide +kernel) rfl rfl (by decide +kernel) (by decide +kernel) h1.1.2.2.1) (fun o h => ⟨h.1, h.2.1⟩) (fun o2 h2 => ?_)
  obtain ⟨a2, H2, c2⟩ := lw_rnM (j := 284) (q := rxm_284) (vals := [sx (i + 1), sx (i + 2), sx (i + 3)]) rfl sg_284 rfl cv_284 hv h1.1.2.2.1.T H1 h2.1.2.2.2 h2.2
  exact lw_goto R ⟨_, rfl, rfl, rfl, rfl⟩ (hN o2.2.1 ⟨h2.1.2.2.1, lw_two hR H2 c1 c2 (fun _ _ _ _ _ _ h => (o_entry (hsx _) (hsx _) (hsx _) h a1 a2).2.1)⟩)
set_option maxHeartbeats 1000000 in
/-- path -/
theorem lw_k20 (R : lw_Rules l cy D (rxl L sx) G) (H : lw_H) (hL : L ≤ 3072) (hsx : ∀ j, sx j < 4294967296) (hi : i + 6 ≤ L) (hJ : lw_JR hp) (hN : ∀ hp', lw_JR hp' → G (1409, lw_LV i, [], hp', [], 205, 8956)) : G (800, lw_LV i, [], hp, [], 205, 8956) := by
  have hv : ∀ v ∈ ([sx (i + 1), sx (i + 2), sx (i + 3)] : List Nat), v < 4294967296 := (fun v hv => by simp only [List.mem_cons, List.not_mem_nil, or_false] at hv; rcases hv with rfl | rfl | rfl <;> exact hsx _)
  obtain ⟨hJ, hR⟩ := hJ
  refine lw_step R (h := rx_h_ld rx_isR 1 1) (a := 0) (σ' := (801, lw_LV i, [10], hp, [], 205, 8956)) ⟨_, rfl, rfl, rfl, rfl⟩ (fun _ => rfl) ?_
  refine lw_push R hL (k := 1) (by omega) ⟨_, rfl, rfl, rfl, rfl⟩ ⟨_, rfl, rfl, rfl, rfl⟩ ⟨_, rfl, rfl, rfl, rfl⟩ ⟨_, rfl, rfl, rfl, rfl⟩ ⟨_, rfl, rfl, rfl, rfl⟩ ?_
  refine lw_push R hL (k := 2) (by omega) ⟨_, rfl, rfl, rfl, rfl⟩ ⟨_, rfl, rfl, rfl, rfl⟩ ⟨_, rfl, rfl, rfl, rfl⟩ ⟨_, rfl, rfl, rfl, rfl⟩ ⟨_, rfl, rfl, rfl, rfl⟩ ?_
  refine lw_push R hL (k := 3) (by omega) ⟨_, rfl, rfl, rfl, rfl⟩ ⟨_, rfl, rfl, rfl, rfl⟩ ⟨_, rfl, rfl, rfl, rfl⟩ ⟨_, rfl, rfl, rfl, rfl⟩ ⟨_, rfl, rfl, rfl, rfl⟩ ?_
  refine lw_cc (kd := 0) R (j := 234) (nb := 40) (ref := 10) (q := rxm_234) [sx (i + 1), sx (i + 2), sx (i + 3)] ⟨_, rfl, rfl, rfl, rfl⟩ rfl rfl rfl (by decide) (lw_rcT hJ.T) rfl rfl (Or.inl ⟨rfl, ⟨_, rfl, rfl, rfl, rfl⟩⟩) (lw_ordC (C := lw_c axc_234 0) (kd := 0) ((H.1 _ 234 rxm_234 (axm_234, axc_234) rfl rfl).2 (Nat.lt_succ_self _) _ List.mem_cons_self) (Or.inl rfl) hv rfl rfl (by decide +kernel) (by decide +kernel) hJ) (fun o h => ⟨h.1, h.2.1⟩) (fun o1 h1 => ?_)
  obtain ⟨a1, H1, c1⟩ := lw_rnC (j := 234) (q := rxm_234) (vals := [sx (i + 1), sx (i + 2), sx (i + 3)]) rfl sg_234 rfl cv_234 hv hJ.T hR h1.1.2.2.2 h1.2
  refine lw_step R (h := rx_h_ld rx_isR 2 1) (a := 0) (σ' := (821, lw_LV i, [702], o1.2.1, [], 205, 8956)) ⟨_, rfl, rfl, rfl, rfl⟩ (fun _ => rfl) ?_
  refine lw_push R hL (k := 1) (by omega) ⟨_, rfl, rfl, rfl, rfl⟩ ⟨_, rfl, rfl, rfl, rfl⟩ ⟨_, rfl, rfl, rfl, rfl⟩ ⟨_, rfl, rfl, rfl, rfl⟩ ⟨_, rfl, rfl, rfl, rfl⟩ ?_
  refine lw_push R hL (k := 2) (by omega) ⟨_, rfl, rfl, rfl, rfl⟩ ⟨_, rfl, rfl, rfl, rfl⟩ ⟨_, rfl, rfl, rfl, rfl⟩ ⟨_, rfl, rfl, rfl, rfl⟩ ⟨_, rfl, rfl, rfl, rfl⟩ ?_
  refine lw_push R hL (k := 3) (by omega) ⟨_, rfl, rfl, rfl, rfl⟩ ⟨_, rfl, rfl, rfl, rfl⟩ ⟨_, rfl, rfl, rfl, rfl⟩ ⟨_, rfl, rfl, rfl, rfl⟩ ⟨_, rfl, rfl, rfl, rfl⟩ ?_
  refine lw_cc (kd := 0) R (j := 289) (nb := 44) (ref := 702) (q := rxm_289) [sx (i + 1), sx (i + 2), sx (i + 3)] ⟨_, rfl, rfl, rfl, rfl⟩ rfl rfl rfl (by decide) (lw_rcM h1.1.2.2.1.T) rfl rfl (Or.inl ⟨rfl, ⟨_, rfl, rfl, rfl, rfl⟩⟩) (lw_ordM (C0 := lw_c axc0_289 0) (C1 := lw_c axc1_289 0) (kd := 0) ((H.2.1 _ 289 rxm_289 (axm_289, axc0_289) rfl rfl).2 (Nat.lt_succ_self _) _ List.mem_cons_self) ((H.2.2 _ 289 rxm_289 (axm_289, axc1_289) rfl rfl).2 (Nat.lt_succ_self _) _ List.mem_cons_self) (Or.inl rfl) hv rfl rfl (by decide +kernel) (by decide +kernel) rfl rfl (by decide +kernel) (by decide +kernel) h1.1.2.2.1) (fun o h => ⟨h.1, h.2.1⟩) (fun o2 h2 => ?_)
  obtain ⟨a2, H2, c2⟩ := lw_rnM (j := 289) (q := rxm_289) (vals := [sx (i + 1), sx (i + 2), sx (i + 3)]) rfl sg_289 rfl cv_289 hv h1.1.2.2.1.T H1 h2.1.2.2.2 h2.2
  exact lw_goto R ⟨_, rfl, rfl, rfl, rfl⟩ (hN o2.2.1 ⟨h2.1.2.2.1, lw_two hR H2 c1 c2 (fun _ _ _ _ _ _ h => (o_path (hsx _) (hsx _) (hsx _) h a1 a2).2.1)⟩)
set_option maxHeartbeats 1000000 in
/-- load -/
theorem lw_k21 (R : lw_Rules l cy D (rxl L sx) G) (H : lw_H) (hL : L ≤ 3072) (hsx : ∀ j, sx j < 4294967296) (hi : i + 6 ≤ L) (hJ : lw_JR hp) (hN : ∀ hp', lw_JR hp' → G (1409, lw_LV i, [], hp', [], 205, 8956)) : G (843, lw_LV i, [], hp, [], 205, 8956) := by
  have hv : ∀ v ∈ ([sx (i + 1)] : List Nat), v < 4294967296 := (fun v hv => by simp only [List.mem_cons, List.not_mem_nil, or_false] at hv; rcases hv with rfl <;> exact hsx _)
  obtain ⟨hJ, hR⟩ := hJ
  refine lw_step R (h := rx_h_ld rx_isR 1 1) (a := 0) (σ' := (844, lw_LV i, [10], hp, [], 205, 8956)) ⟨_, rfl, rfl, rfl, rfl⟩ (fun _ => rfl) ?_
  refine lw_push R hL (k := 1) (by omega) ⟨_, rfl, rfl, rfl, rfl⟩ ⟨_, rfl, rfl, rfl, rfl⟩ ⟨_, rfl, rfl, rfl, rfl⟩ ⟨_, rfl, rfl, rfl, rfl⟩ ⟨_, rfl, rfl, rfl, rfl⟩ ?_
  refine lw_cc (kd := 0) R (j := 232) (nb := 40) (ref := 10) (q := rxm_232) [sx (i + 1)] ⟨_, rfl, rfl, rfl, rfl⟩ rfl rfl rfl (by decide) (lw_rcT hJ.T) rfl rfl (Or.inl ⟨rfl, ⟨_, rfl, rfl, rfl, rfl⟩⟩) (lw_ordC (C := lw_c axc_232 0) (kd := 0) ((H.1 _ 232 rxm_232 (axm_232, axc_232) rfl rfl).2 (Nat.lt_succ_self _) _ List.mem_cons_self) (Or.inl rfl) hv rfl rfl (by decide +kernel) (by decide +kernel) hJ) (fun o h => ⟨h.1, h.2.1⟩) (fun o1 h1 => ?_)
  obtain ⟨a1, H1, c1⟩ := lw_rnC (j := 232) (q := rxm_232) (vals := [sx (i + 1)]) rfl sg_232 rfl cv_232 hv hJ.T hR h1.1.2.2.2 h1.2
  refine lw_step R (h := rx_h_ld rx_isR 2 1) (a := 0) (σ' := (854, lw_LV i, [702], o1.2.1, [], 205, 8956)) ⟨_, rfl, rfl, rfl, rfl⟩ (fun _ => rfl) ?_
  refine lw_push R hL (k := 1) (by omega) ⟨_, rfl, rfl, rfl, rfl⟩ ⟨_, rfl, rfl, rfl, rfl⟩ ⟨_, rfl, rfl, rfl, rfl⟩ ⟨_, rfl, rfl, rfl, rfl⟩ ⟨_, rfl, rfl, rfl, rfl⟩ ?_
  refine lw_cc (kd := 0) R (j := 297) (nb := 44) (ref := 702) (q := rxm_297) [sx (i + 1)] ⟨_, rfl, rfl, rfl, rfl⟩ rfl rfl rfl (by decide) (lw_rcM h1.1.2.2.1.T) rfl rfl (Or.inl ⟨rfl, ⟨_, rfl, rfl, rfl, rfl⟩⟩) (lw_ordM (C0 := lw_c axc0_297 0) (C1 := lw_c axc1_297 0) (kd := 0) ((H.2.1 _ 297 rxm_297 (axm_297, axc0_297) rfl rfl).2 (Nat.lt_succ_self _) _ List.mem_cons_self) ((H.2.2 _ 297 rxm_297 (axm_297, axc1_297) rfl rfl).2 (Nat.lt_succ_self _) _ List.mem_cons_self) (Or.inl rfl) hv rfl rfl (by decide +kernel) (by decide +kernel) rfl rfl (by decide +kernel) (by decide +kernel) h1.1.2.2.1) (fun o h => ⟨h.1, h.2.1⟩) (fun o2 h2 => ?_)
  obtain ⟨a2, H2, c2⟩ := lw_rnM (j := 297) (q := rxm_297) (vals := [sx (i + 1)]) rfl sg_297 rfl cv_297 hv h1.1.2.2.1.T H1 h2.1.2.2.2 h2.2
  exact lw_goto R ⟨_, rfl, rfl, rfl, rfl⟩ (hN o2.2.1 ⟨h2.1.2.2.1, lw_two hR H2 c1 c2 (fun _ _ _ _ _ _ h => (o_load (hsx _) h a1 a2).2.1)⟩)
set_option maxHeartbeats 1000000 in
/-- heaviest -/
theorem lw_k22 (R : lw_Rules l cy D (rxl L sx) G) (H : lw_H) (hL : L ≤ 3072) (hsx : ∀ j, sx j < 4294967296) (hi : i + 6 ≤ L) (hJ : lw_JR hp) (hN : ∀ hp', lw_JR hp' → G (1409, lw_LV i, [], hp', [], 205, 8956)) : G (866, lw_LV i, [], hp, [], 205, 8956) := by
  have hv : ∀ v ∈ ([sx (i + 1)] : List Nat), v < 4294967296 := (fun v hv => by simp only [List.mem_cons, List.not_mem_nil, or_false] at hv; rcases hv with rfl <;> exact hsx _)
  obtain ⟨hJ, hR⟩ := hJ
  refine lw_step R (h := rx_h_ld rx_isR 1 1) (a := 0) (σ' := (867, lw_LV i, [10], hp, [], 205, 8956)) ⟨_, rfl, rfl, rfl, rfl⟩ (fun _ => rfl) ?_
  refine lw_push R hL (k := 1) (by omega) ⟨_, rfl, rfl, rfl, rfl⟩ ⟨_, rfl, rfl, rfl, rfl⟩ ⟨_, rfl, rfl, rfl, rfl⟩ ⟨_, rfl, rfl, rfl, rfl⟩ ⟨_, rfl, rfl, rfl, rfl⟩ ?_
  refine lw_cc (kd := 0) R (j := 231) (nb := 40) (ref := 10) (q := rxm_231) [sx (i + 1)] ⟨_, rfl, rfl, rfl, rfl⟩ rfl rfl rfl (by decide) (lw_rcT hJ.T) rfl rfl (Or.inl ⟨rfl, ⟨_, rfl, rfl, rfl, rfl⟩⟩) (lw_ordC (C := lw_c axc_231 0) (kd := 0) ((H.1 _ 231 rxm_231 (axm_231, axc_231) rfl rfl).2 (Nat.lt_succ_self _) _ List.mem_cons_self) (Or.inl rfl) hv rfl rfl (by decide +kernel) (by decide +kernel) hJ) (fun o h => ⟨h.1, h.2.1⟩) (fun o1 h1 => ?_)
  obtain ⟨a1, H1, c1⟩ := lw_rnC (j := 231) (q := rxm_231) (vals := [sx (i + 1)]) rfl sg_231 rfl cv_231 hv hJ.T hR h1.1.2.2.2 h1.2
  refine lw_step R (h := rx_h_ld rx_isR 2 1) (a := 0) (σ' := (877, lw_LV i, [702], o1.2.1, [], 205, 8956)) ⟨_, rfl, rfl, rfl, rfl⟩ (fun _ => rfl) ?_
  refine lw_push R hL (k := 1) (by omega) ⟨_, rfl, rfl, rfl, rfl⟩ ⟨_, rfl, rfl, rfl, rfl⟩ ⟨_, rfl, rfl, rfl, rfl⟩ ⟨_, rfl, rfl, rfl, rfl⟩ ⟨_, rfl, rfl, rfl, rfl⟩ ?_
  refine lw_cc (kd := 0) R (j := 296) (nb := 44) (ref := 702) (q := rxm_296) [sx (i + 1)] ⟨_, rfl, rfl, rfl, rfl⟩ rfl rfl rfl (by decide) (lw_rcM h1.1.2.2.1.T) rfl rfl (Or.inl ⟨rfl, ⟨_, rfl, rfl, rfl, rfl⟩⟩) (lw_ordM (C0 := lw_c axc0_296 0) (C1 := lw_c axc1_296 0) (kd := 0) ((H.2.1 _ 296 rxm_296 (axm_296, axc0_296) rfl rfl).2 (Nat.lt_succ_self _) _ List.mem_cons_self) ((H.2.2 _ 296 rxm_296 (axm_296, axc1_296) rfl rfl).2 (Nat.lt_succ_self _) _ List.mem_cons_self) (Or.inl rfl) hv rfl rfl (by decide +kernel) (by decide +kernel) rfl rfl (by decide +kernel) (by decide +kernel) h1.1.2.2.1) (fun o h => ⟨h.1, h.2.1⟩) (fun o2 h2 => ?_)
  obtain ⟨a2, H2, c2⟩ := lw_rnM (j := 296) (q := rxm_296) (vals := [sx (i + 1)]) rfl sg_296 rfl cv_296 hv h1.1.2.2.1.T H1 h2.1.2.2.2 h2.2
  exact lw_goto R ⟨_, rfl, rfl, rfl, rfl⟩ (hN o2.2.1 ⟨h2.1.2.2.1, lw_two hR H2 c1 c2 (fun _ _ _ _ _ _ h => (o_heaviest (hsx _) h a1 a2).2.1)⟩)
set_option maxHeartbeats 1000000 in
/-- pairs -/
theorem lw_k23 (R : lw_Rules l cy D (rxl L sx) G) (H : lw_H) (hL : L ≤ 3072) (hsx : ∀ j, sx j < 4294967296) (hi : i + 6 ≤ L) (hJ : lw_JR hp) (hN : ∀ hp', lw_JR hp' → G (1409, lw_LV i, [], hp', [], 205, 8956)) : G (889, lw_LV i, [], hp, [], 205, 8956) := by
  have hv : ∀ v ∈ ([sx (i + 1)] : List Nat), v < 4294967296 := (fun v hv => by simp only [List.mem_cons, List.not_mem_nil, or_false] at hv; rcases hv with rfl <;> exact hsx _)
  obtain ⟨hJ, hR⟩ := hJ
  refine lw_step R (h := rx_h_ld rx_isR 1 1) (a := 0) (σ' := (890, lw_LV i, [10], hp, [], 205, 8956)) ⟨_, rfl, rfl, rfl, rfl⟩ (fun _ => rfl) ?_
  refine lw_push R hL (k := 1) (by omega) ⟨_, rfl, rfl, rfl, rfl⟩ ⟨_, rfl, rfl, rfl, rfl⟩ ⟨_, rfl, rfl, rfl, rfl⟩ ⟨_, rfl, rfl, rfl, rfl⟩ ⟨_, rfl, rfl, rfl, rfl⟩ ?_
  refine lw_cc (kd := 0) R (j := 217) (nb := 40) (ref := 10) (q := rxm_217) [sx (i + 1)] ⟨_, rfl, rfl, rfl, rfl⟩ rfl rfl rfl (by decide) (lw_rcT hJ.T) rfl rfl (Or.inl ⟨rfl, ⟨_, rfl, rfl, rfl, rfl⟩⟩) (lw_ordC (C := lw_c axc_217 0) (kd := 0) ((H.1 _ 217 rxm_217 (axm_217, axc_217) rfl rfl).2 (Nat.lt_succ_self _) _ List.mem_cons_self) (Or.inl rfl) hv rfl rfl (by decide +kernel) (by decide +kernel) hJ) (fun o h => ⟨h.1, h.2.1⟩) (fun o1 h1 => ?_)
  obtain ⟨a1, H1, c1⟩ := lw_rnC (j := 217) (q := rxm_217) (vals := [sx (i + 1)]) rfl sg_217 rfl cv_217 hv hJ.T hR h1.1.2.2.2 h1.2
  refine lw_step R (h := rx_h_ld rx_isR 2 1) (a := 0) (σ' := (900, lw_LV i, [702], o1.2.1, [], 205, 8956)) ⟨_, rfl, rfl, rfl, rfl⟩ (fun _ => rfl) ?_
  refine lw_push R hL (k := 1) (by omega) ⟨_, rfl, rfl, rfl, rfl⟩ ⟨_, rfl, rfl, rfl, rfl⟩ ⟨_, rfl, rfl, rfl, rfl⟩ ⟨_, rfl, rfl, rfl, rfl⟩ ⟨_, rfl, rfl, rfl, rfl⟩ ?_
  refine lw_cc (kd := 0) R (j := 288) (nb := 44) (ref := 702) (q := rxm_288) [sx (i + 1)] ⟨_, rfl, rfl, rfl, rfl⟩ rfl rfl rfl (by decide) (lw_rcM h1.1.2.2.1.T) rfl rfl (Or.inl ⟨rfl, ⟨_, rfl, rfl, rfl, rfl⟩⟩) (lw_ordM (C0 := lw_c axc0_288 0) (C1 := lw_c axc1_288 0) (kd := 0) ((H.2.1 _ 288 rxm_288 (axm_288, axc0_288) rfl rfl).2 (Nat.lt_succ_self _) _ List.mem_cons_self) ((H.2.2 _ 288 rxm_288 (axm_288, axc1_288) rfl rfl).2 (Nat.lt_succ_self _) _ List.mem_cons_self) (Or.inl rfl) hv rfl rfl (by decide +kernel) (by decide +kernel) rfl rfl (by decide +kernel) (by decide +kernel) h1.1.2.2.1) (fun o h => ⟨h.1, h.2.1⟩) (fun o2 h2 => ?_)
  obtain ⟨a2, H2, c2⟩ := lw_rnM (j := 288) (q := rxm_288) (vals := [sx (i + 1)]) rfl sg_288 rfl cv_288 hv h1.1.2.2.1.T H1 h2.1.2.2.2 h2.2
  exact lw_goto R ⟨_, rfl, rfl, rfl, rfl⟩ (hN o2.2.1 ⟨h2.1.2.2.1, lw_two hR H2 c1 c2 (fun _ _ _ _ _ _ h => (h.kk (h_T_pairs h a1) (g_M_pairs a2)).1)⟩)
set_option maxHeartbeats 1000000 in
/-- depends -/
theorem lw_k24 (R : lw_Rules l cy D (rxl L sx) G) (H : lw_H) (hL : L ≤ 3072) (hsx : ∀ j, sx j < 4294967296) (hi : i + 6 ≤ L) (hJ : lw_JR hp) (hN : ∀ hp', lw_JR hp' → G (1409, lw_LV i, [], hp', [], 205, 8956)) : G (912, lw_LV i, [], hp, [], 205, 8956) := by
  have hv : ∀ v ∈ ([sx (i + 1), sx (i + 2)] : List Nat), v < 4294967296 := (fun v hv => by simp only [List.mem_cons, List.not_mem_nil, or_false] at hv; rcases hv with rfl | rfl <;> exact hsx _)
  obtain ⟨hJ, hR⟩ := hJ
  refine lw_step R (h := rx_h_ld rx_isR 1 1) (a := 0) (σ' := (913, lw_LV i, [10], hp, [], 205, 8956)) ⟨_, rfl, rfl, rfl, rfl⟩ (fun _ => rfl) ?_
  refine lw_push R hL (k := 1) (by omega) ⟨_, rfl, rfl, rfl, rfl⟩ ⟨_, rfl, rfl, rfl, rfl⟩ ⟨_, rfl, rfl, rfl, rfl⟩ ⟨_, rfl, rfl, rfl, rfl⟩ ⟨_, rfl, rfl, rfl, rfl⟩ ?_
  refine lw_push R hL (k := 2) (by omega) ⟨_, rfl, rfl, rfl, rfl⟩ ⟨_, rfl, rfl, rfl, rfl⟩ ⟨_, rfl, rfl, rfl, rfl⟩ ⟨_, rfl, rfl, rfl, rfl⟩ ⟨_, rfl, rfl, rfl, rfl⟩ ?_
  refine lw_cc (kd := 0) R (j := 185) (nb := 40) (ref := 10) (q := rxm_185) [sx (i + 1), sx (i + 2)] ⟨_, rfl, rfl, rfl, rfl⟩ rfl rfl rfl (by decide) (lw_rcT hJ.T) rfl rfl (Or.inl ⟨rfl, ⟨_, rfl, rfl, rfl, rfl⟩⟩) (lw_ordC (C := lw_c axc_185 0) (kd := 0) ((H.1 _ 185 rxm_185 (axm_185, axc_185) rfl rfl).2 (Nat.lt_succ_self _) _ List.mem_cons_self) (Or.inl rfl) hv rfl rfl (by decide +kernel) (by decide +kernel) hJ) (fun o h => ⟨h.1, h.2.1⟩) (fun o1 h1 => ?_)
  obtain ⟨a1, H1, c1⟩ := lw_rnC (j := 185) (q := rxm_185) (vals := [sx (i + 1), sx (i + 2)]) rfl sg_185 rfl cv_185 hv hJ.T hR h1.1.2.2.2 h1.2
  refine lw_step R (h := rx_h_ld rx_isR 2 1) (a := 0) (σ' := (928, lw_LV i, [702], o1.2.1, [], 205, 8956)) ⟨_, rfl, rfl, rfl, rfl⟩ (fun _ => rfl) ?_
  refine lw_push R hL (k := 1) (by omega) ⟨_, rfl, rfl, rfl, rfl⟩ ⟨_, rfl, rfl, rfl, rfl⟩ ⟨_, rfl, rfl, rfl, rfl⟩ ⟨_, rfl, rfl, rfl, rfl⟩ ⟨_, rfl, rfl, rfl, rfl⟩ ?_
  refine lw_push R hL (k := 2) (by omega) ⟨_, rfl, rfl, rfl, rfl⟩ ⟨_, rfl, rfl, rfl, rfl⟩ ⟨_, rfl, rfl, rfl, rfl⟩ ⟨_, rfl, rfl, rfl, rfl⟩ ⟨_, rfl, rfl, rfl, rfl⟩ ?_
  refine lw_cc (kd := 0) R (j := 256) (nb := 44) (ref := 702) (q := rxm_256) [sx (i + 1), sx (i + 2)] ⟨_, rfl, rfl, rfl, rfl⟩ rfl rfl rfl (by decide) (lw_rcM h1.1.2.2.1.T) rfl rfl (Or.inl ⟨rfl, ⟨_, rfl, rfl, rfl, rfl⟩⟩) (lw_ordM (C0 := lw_c axc0_256 0) (C1 := lw_c axc1_256 0) (kd := 0) ((H.2.1 _ 256 rxm_256 (axm_256, axc0_256) rfl rfl).2 (Nat.lt_succ_self _) _ List.mem_cons_self) ((H.2.2 _ 256 rxm_256 (axm_256, axc1_256) rfl rfl).2 (Nat.lt_succ_self _) _ List.mem_cons_self) (Or.inl rfl) hv rfl rfl (by decide +kernel) (by decide +kernel) rfl rfl (by decide +kernel) (by decide +kernel) h1.1.2.2.1) (fun o h => ⟨h.1, h.2.1⟩) (fun o2 h2 => ?_)
  obtain ⟨a2, H2, c2⟩ := lw_rnM (j := 256) (q := rxm_256) (vals := [sx (i + 1), sx (i + 2)]) rfl sg_256 rfl cv_256 hv h1.1.2.2.1.T H1 h2.1.2.2.2 h2.2
  exact lw_goto R ⟨_, rfl, rfl, rfl, rfl⟩ (hN o2.2.1 ⟨h2.1.2.2.1, lw_two hR H2 c1 c2 (fun _ _ _ _ _ _ h => (o_depends (hsx _) (hsx _) h a1 a2).2.1)⟩)
set_option maxHeartbeats 1000000 in
/-- rings -/
theorem lw_k25 (R : lw_Rules l cy D (rxl L sx) G) (H : lw_H) (hL : L ≤ 3072) (hsx : ∀ j, sx j < 4294967296) (hi : i + 6 ≤ L) (hJ : lw_JR hp) (hN : ∀ hp', lw_JR hp' → G (1409, lw_LV i, [], hp', [], 205, 8956)) : G (945, lw_LV i, [], hp, [], 205, 8956) := by
  have hv : ∀ v ∈ ([] : List Nat), v < 4294967296 := (fun v hv => by cases hv)
  obtain ⟨hJ, hR⟩ := hJ
  refine lw_step R (h := rx_h_ld rx_isR 1 1) (a := 0) (σ' := (946, lw_LV i, [10], hp, [], 205, 8956)) ⟨_, rfl, rfl, rfl, rfl⟩ (fun _ => rfl) ?_
  refine lw_cc (kd := 0) R (j := 190) (nb := 40) (ref := 10) (q := rxm_190) [] ⟨_, rfl, rfl, rfl, rfl⟩ rfl rfl rfl (by decide) (lw_rcT hJ.T) rfl rfl (Or.inl ⟨rfl, ⟨_, rfl, rfl, rfl, rfl⟩⟩) (lw_ordC (C := lw_c axc_190 0) (kd := 0) ((H.1 _ 190 rxm_190 (axm_190, axc_190) rfl rfl).2 (Nat.lt_succ_self _) _ List.mem_cons_self) (Or.inl rfl) hv rfl rfl (by decide +kernel) (by decide +kernel) hJ) (fun o h => ⟨h.1, h.2.1⟩) (fun o1 h1 => ?_)
  obtain ⟨a1, H1, c1⟩ := lw_rnC (j := 190) (q := rxm_190) (vals := []) rfl sg_190 rfl cv_190 hv hJ.T hR h1.1.2.2.2 h1.2
  refine lw_step R (h := rx_h_ld rx_isR 2 1) (a := 0) (σ' := (951, lw_LV i, [702], o1.2.1, [], 205, 8956)) ⟨_, rfl, rfl, rfl, rfl⟩ (fun _ => rfl) ?_
  refine lw_cc (kd := 0) R (j := 274) (nb := 44) (ref := 702) (q := rxm_274) [] ⟨_, rfl, rfl, rfl, rfl⟩ rfl rfl rfl (by decide) (lw_rcM h1.1.2.2.1.T) rfl rfl (Or.inl ⟨rfl, ⟨_, rfl, rfl, rfl, rfl⟩⟩) (lw_ordM (C0 := lw_c axc0_274 0) (C1 := lw_c axc1_274 0) (kd := 0) ((H.2.1 _ 274 rxm_274 (axm_274, axc0_274) rfl rfl).2 (Nat.lt_succ_self _) _ List.mem_cons_self) ((H.2.2 _ 274 rxm_274 (axm_274, axc1_274) rfl rfl).2 (Nat.lt_succ_self _) _ List.mem_cons_self) (Or.inl rfl) hv rfl rfl (by decide +kernel) (by decide +kernel) rfl rfl (by decide +kernel) (by decide +kernel) h1.1.2.2.1) (fun o h => ⟨h.1, h.2.1⟩) (fun o2 h2 => ?_)
  obtain ⟨a2, H2, c2⟩ := lw_rnM (j := 274) (q := rxm_274) (vals := []) rfl sg_274 rfl cv_274 hv h1.1.2.2.1.T H1 h2.1.2.2.2 h2.2
  exact lw_goto R ⟨_, rfl, rfl, rfl, rfl⟩ (hN o2.2.1 ⟨h2.1.2.2.1, lw_two hR H2 c1 c2 (fun _ _ _ _ _ _ h => (o_rings h a1 a2).2.1)⟩)
set_option maxHeartbeats 1000000 in
/-- ring -/
theorem lw_k26 (R : lw_Rules l cy D (rxl L sx) G) (H : lw_H) (hL : L ≤ 3072) (hsx : ∀ j, sx j < 4294967296) (hi : i + 6 ≤ L) (hJ : lw_JR hp) (hN : ∀ hp', lw_JR hp' → G (1409, lw_LV i, [], hp', [], 205, 8956)) : G (958, lw_LV i, [], hp, [], 205, 8956) := by
  have hv : ∀ v ∈ ([sx (i + 1)] : List Nat), v < 4294967296 := (fun v hv => by simp only [List.mem_cons, List.not_mem_nil, or_false] at hv; rcases hv with rfl <;> exact hsx _)
  obtain ⟨hJ, hR⟩ := hJ
  refine lw_step R (h := rx_h_ld rx_isR 1 1) (a := 0) (σ' := (959, lw_LV i, [10], hp, [], 205, 8956)) ⟨_, rfl, rfl, rfl, rfl⟩ (fun _ => rfl) ?_
  refine lw_push R hL (k := 1) (by omega) ⟨_, rfl, rfl, rfl, rfl⟩ ⟨_, rfl, rfl, rfl, rfl⟩ ⟨_, rfl, rfl, rfl, rfl⟩ ⟨_, rfl, rfl, rfl, rfl⟩ ⟨_, rfl, rfl, rfl, rfl⟩ ?_
  refine lw_cc (kd := 0) R (j := 189) (nb := 40) (ref := 10) (q := rxm_189) [sx (i + 1)] ⟨_, rfl, rfl, rfl, rfl⟩ rfl rfl rfl (by decide) (lw_rcT hJ.T) rfl rfl (Or.inl ⟨rfl, ⟨_, rfl, rfl, rfl, rfl⟩⟩) (lw_ordC (C := lw_c axc_189 0) (kd := 0) ((H.1 _ 189 rxm_189 (axm_189, axc_189) rfl rfl).2 (Nat.lt_succ_self _) _ List.mem_cons_self) (Or.inl rfl) hv rfl rfl (by decide +kernel) (by decide +kernel) hJ) (fun o h => ⟨h.1, h.2.1⟩) (fun o1 h1 => ?_)
  obtain ⟨a1, H1, c1⟩ := lw_rnC (j := 189) (q := rxm_189) (vals := [sx (i + 1)]) rfl sg_189 rfl cv_189 hv hJ.T hR h1.1.2.2.2 h1.2
  refine lw_step R (h := rx_h_ld rx_isR 2 1) (a := 0) (σ' := (969, lw_LV i, [702], o1.2.1, [], 205, 8956)) ⟨_, rfl, rfl, rfl, rfl⟩ (fun _ => rfl) ?_
  refine lw_push R hL (k := 1) (by omega) ⟨_, rfl, rfl, rfl, rfl⟩ ⟨_, rfl, rfl, rfl, rfl⟩ ⟨_, rfl, rfl, rfl, rfl⟩ ⟨_, rfl, rfl, rfl, rfl⟩ ⟨_, rfl, rfl, rfl, rfl⟩ ?_
  refine lw_cc (kd := 0) R (j := 273) (nb := 44) (ref := 702) (q := rxm_273) [sx (i + 1)] ⟨_, rfl, rfl, rfl, rfl⟩ rfl rfl rfl (by decide) (lw_rcM h1.1.2.2.1.T) rfl rfl (Or.inl ⟨rfl, ⟨_, rfl, rfl, rfl, rfl⟩⟩) (lw_ordM (C0 := lw_c axc0_273 0) (C1 := lw_c axc1_273 0) (kd := 0) ((H.2.1 _ 273 rxm_273 (axm_273, axc0_273) rfl rfl).2 (Nat.lt_succ_self _) _ List.mem_cons_self) ((H.2.2 _ 273 rxm_273 (axm_273, axc1_273) rfl rfl).2 (Nat.lt_succ_self _) _ List.mem_cons_self) (Or.inl rfl) hv rfl rfl (by decide +kernel) (by decide +kernel) rfl rfl (by decide +kernel) (by decide +kernel) h1.1.2.2.1) (fun o h => ⟨h.1, h.2.1⟩) (fun o2 h2 => ?_)
  obtain ⟨a2, H2, c2⟩ := lw_rnM (j := 273) (q := rxm_273) (vals := [sx (i + 1)]) rfl sg_273 rfl cv_273 hv h1.1.2.2.1.T H1 h2.1.2.2.2 h2.2
  exact lw_goto R ⟨_, rfl, rfl, rfl, rfl⟩ (hN o2.2.1 ⟨h2.1.2.2.1, lw_two hR H2 c1 c2 (fun _ _ _ _ _ _ h => (o_ring (hsx _) h a1 a2).2.1)⟩)
set_option maxHeartbeats 1000000 in
/-- plan -/
theorem lw_k27 (R : lw_Rules l cy D (rxl L sx) G) (H : lw_H) (hL : L ≤ 3072) (hsx : ∀ j, sx j < 4294967296) (hi : i + 6 ≤ L) (hJ : lw_JR hp) (hN : ∀ hp', lw_JR hp' → G (1409, lw_LV i, [], hp', [], 205, 8956)) : G (981, lw_LV i, [], hp, [], 205, 8956) := by
  have hv : ∀ v ∈ ([sx (i + 1), sx (i + 2)] : List Nat), v < 4294967296 := (fun v hv => by simp only [List.mem_cons, List.not_mem_nil, or_false] at hv; rcases hv with rfl | rfl <;> exact hsx _)
  obtain ⟨hJ, hR⟩ := hJ
  refine lw_step R (h := rx_h_ld rx_isR 1 1) (a := 0) (σ' := (982, lw_LV i, [10], hp, [], 205, 8956)) ⟨_, rfl, rfl, rfl, rfl⟩ (fun _ => rfl) ?_
  refine lw_push R hL (k := 1) (by omega) ⟨_, rfl, rfl, rfl, rfl⟩ ⟨_, rfl, rfl, rfl, rfl⟩ ⟨_, rfl, rfl, rfl, rfl⟩ ⟨_, rfl, rfl, rfl, rfl⟩ ⟨_, rfl, rfl, rfl, rfl⟩ ?_
  refine lw_push R hL (k := 2) (by omega) ⟨_, rfl, rfl, rfl, rfl⟩ ⟨_, rfl, rfl, rfl, rfl⟩ ⟨_, rfl, rfl, rfl, rfl⟩ ⟨_, rfl, rfl, rfl, rfl⟩ ⟨_, rfl, rfl, rfl, rfl⟩ ?_
  refine lw_cc (kd := 0) R (j := 252) (nb := 40) (ref := 10) (q := rxm_252) [sx (i + 1), sx (i + 2)] ⟨_, rfl, rfl, rfl, rfl⟩ rfl rfl rfl (by decide) (lw_rcT hJ.T) rfl rfl (Or.inl ⟨rfl, ⟨_, rfl, rfl, rfl, rfl⟩⟩) (lw_ordC (C := lw_c axc_252 0) (kd := 0) ((H.1 _ 252 rxm_252 (axm_252, axc_252) rfl rfl).2 (Nat.lt_succ_self _) _ List.mem_cons_self) (Or.inl rfl) hv rfl rfl (by decide +kernel) (by decide +kernel) hJ) (fun o h => ⟨h.1, h.2.1⟩) (fun o1 h1 => ?_)
  obtain ⟨a1, H1, c1⟩ := lw_rnC (j := 252) (q := rxm_252) (vals := [sx (i + 1), sx (i + 2)]) rfl sg_252 rfl cv_252 hv hJ.T hR h1.1.2.2.2 h1.2
  refine lw_step R (h := rx_h_ld rx_isR 2 1) (a := 0) (σ' := (997, lw_LV i, [702], o1.2.1, [], 205, 8956)) ⟨_, rfl, rfl, rfl, rfl⟩ (fun _ => rfl) ?_
  refine lw_push R hL (k := 1) (by omega) ⟨_, rfl, rfl, rfl, rfl⟩ ⟨_, rfl, rfl, rfl, rfl⟩ ⟨_, rfl, rfl, rfl, rfl⟩ ⟨_, rfl, rfl, rfl, rfl⟩ ⟨_, rfl, rfl, rfl, rfl⟩ ?_
  refine lw_push R hL (k := 2) (by omega) ⟨_, rfl, rfl, rfl, rfl⟩ ⟨_, rfl, rfl, rfl, rfl⟩ ⟨_, rfl, rfl, rfl, rfl⟩ ⟨_, rfl, rfl, rfl, rfl⟩ ⟨_, rfl, rfl, rfl, rfl⟩ ?_
  refine lw_cc (kd := 0) R (j := 311) (nb := 44) (ref := 702) (q := rxm_311) [sx (i + 1), sx (i + 2)] ⟨_, rfl, rfl, rfl, rfl⟩ rfl rfl rfl (by decide) (lw_rcM h1.1.2.2.1.T) rfl rfl (Or.inl ⟨rfl, ⟨_, rfl, rfl, rfl, rfl⟩⟩) (lw_ordM (C0 := lw_c axc0_311 0) (C1 := lw_c axc1_311 0) (kd := 0) ((H.2.1 _ 311 rxm_311 (axm_311, axc0_311) rfl rfl).2 (Nat.lt_succ_self _) _ List.mem_cons_self) ((H.2.2 _ 311 rxm_311 (axm_311, axc1_311) rfl rfl).2 (Nat.lt_succ_self _) _ List.mem_cons_self) (Or.inl rfl) hv rfl rfl (by decide +kernel) (by decide +kernel) rfl rfl (by decide +kernel) (by decide +kernel) h1.1.2.2.1) (fun o h => ⟨h.1, h.2.1⟩) (fun o2 h2 => ?_)
  obtain ⟨a2, H2, c2⟩ := lw_rnM (j := 311) (q := rxm_311) (vals := [sx (i + 1), sx (i + 2)]) rfl sg_311 rfl cv_311 hv h1.1.2.2.1.T H1 h2.1.2.2.2 h2.2
  exact lw_goto R ⟨_, rfl, rfl, rfl, rfl⟩ (hN o2.2.1 ⟨h2.1.2.2.1, lw_two hR H2 c1 c2 (fun _ _ _ _ _ _ h => (o_plan (hsx _) (hsx _) h a1 a2).2.1)⟩)
set_option maxHeartbeats 1000000 in
/-- phase -/
theorem lw_k28 (R : lw_Rules l cy D (rxl L sx) G) (H : lw_H) (hL : L ≤ 3072) (hsx : ∀ j, sx j < 4294967296) (hi : i + 6 ≤ L) (hJ : lw_JR hp) (hN : ∀ hp', lw_JR hp' → G (1409, lw_LV i, [], hp', [], 205, 8956)) : G (1014, lw_LV i, [], hp, [], 205, 8956) := by
  have hv : ∀ v ∈ ([sx (i + 1), sx (i + 2)] : List Nat), v < 4294967296 := (fun v hv => by simp only [List.mem_cons, List.not_mem_nil, or_false] at hv; rcases hv with rfl | rfl <;> exact hsx _)
  obtain ⟨hJ, hR⟩ := hJ
  refine lw_step R (h := rx_h_ld rx_isR 1 1) (a := 0) (σ' := (1015, lw_LV i, [10], hp, [], 205, 8956)) ⟨_, rfl, rfl, rfl, rfl⟩ (fun _ => rfl) ?_
  refine lw_push R hL (k := 1) (by omega) ⟨_, rfl, rfl, rfl, rfl⟩ ⟨_, rfl, rfl, rfl, rfl⟩ ⟨_, rfl, rfl, rfl, rfl⟩ ⟨_, rfl, rfl, rfl, rfl⟩ ⟨_, rfl, rfl, rfl, rfl⟩ ?_
  refine lw_push R hL (k := 2) (by omega) ⟨_, rfl, rfl, rfl, rfl⟩ ⟨_, rfl, rfl, rfl, rfl⟩ ⟨_, rfl, rfl, rfl, rfl⟩ ⟨_, rfl, rfl, rfl, rfl⟩ ⟨_, rfl, rfl, rfl, rfl⟩ ?_
  refine lw_cc (kd := 0) R (j := 251) (nb := 40) (ref := 10) (q := rxm_251) [sx (i + 1), sx (i + 2)] ⟨_, rfl, rfl, rfl, rfl⟩ rfl rfl rfl (by decide) (lw_rcT hJ.T) rfl rfl (Or.inl ⟨rfl, ⟨_, rfl, rfl, rfl, rfl⟩⟩) (lw_ordC (C := lw_c axc_251 0) (kd := 0) ((H.1 _ 251 rxm_251 (axm_251, axc_251) rfl rfl).2 (Nat.lt_succ_self _) _ List.mem_cons_self) (Or.inl rfl) hv rfl rfl (by decide +kernel) (by decide +kernel) hJ) (fun o h => ⟨h.1, h.2.1⟩) (fun o1 h1 => ?_)
  obtain ⟨a1, H1, c1⟩ := lw_rnC (j := 251) (q := rxm_251) (vals := [sx (i + 1), sx (i + 2)]) rfl sg_251 rfl cv_251 hv hJ.T hR h1.1.2.2.2 h1.2
  refine lw_step R (h := rx_h_ld rx_isR 2 1) (a := 0) (σ' := (1030, lw_LV i, [702], o1.2.1, [], 205, 8956)) ⟨_, rfl, rfl, rfl, rfl⟩ (fun _ => rfl) ?_
  refine lw_push R hL (k := 1) (by omega) ⟨_, rfl, rfl, rfl, rfl⟩ ⟨_, rfl, rfl, rfl, rfl⟩ ⟨_, rfl, rfl, rfl, rfl⟩ ⟨_, rfl, rfl, rfl, rfl⟩ ⟨_, rfl, rfl, rfl, rfl⟩ ?_
  refine lw_push R hL (k := 2) (by omega) ⟨_, rfl, rfl, rfl, rfl⟩ ⟨_, rfl, rfl, rfl, rfl⟩ ⟨_, rfl, rfl, rfl, rfl⟩ ⟨_, rfl, rfl, rfl, rfl⟩ ⟨_, rfl, rfl, rfl, rfl⟩ ?_
  refine lw_cc (kd := 0) R (j := 310) (nb := 44) (ref := 702) (q := rxm_310) [sx (i + 1), sx (i + 2)] ⟨_, rfl, rfl, rfl, rfl⟩ rfl rfl rfl (by decide) (lw_rcM h1.1.2.2.1.T) rfl rfl (Or.inl ⟨rfl, ⟨_, rfl, rfl, rfl, rfl⟩⟩) (lw_ordM (C0 := lw_c axc0_310 0) (C1 := lw_c axc1_310 0) (kd := 0) ((H.2.1 _ 310 rxm_310 (axm_310, axc0_310) rfl rfl).2 (Nat.lt_succ_self _) _ List.mem_cons_self) ((H.2.2 _ 310 rxm_310 (axm_310, axc1_310) rfl rfl).2 (Nat.lt_succ_self _) _ List.mem_cons_self) (Or.inl rfl) hv rfl rfl (by decide +kernel) (by decide +kernel) rfl rfl (by decide +kernel) (by decide +kernel) h1.1.2.2.1) (fun o h => ⟨h.1, h.2.1⟩) (fun o2 h2 => ?_)
  obtain ⟨a2, H2, c2⟩ := lw_rnM (j := 310) (q := rxm_310) (vals := [sx (i + 1), sx (i + 2)]) rfl sg_310 rfl cv_310 hv h1.1.2.2.1.T H1 h2.1.2.2.2 h2.2
  exact lw_goto R ⟨_, rfl, rfl, rfl, rfl⟩ (hN o2.2.1 ⟨h2.1.2.2.1, lw_two hR H2 c1 c2 (fun _ _ _ _ _ _ h => (o_phase (hsx _) (hsx _) h a1 a2).2.1)⟩)
set_option maxHeartbeats 1000000 in
/-- rooted -/
theorem lw_k29 (R : lw_Rules l cy D (rxl L sx) G) (H : lw_H) (hL : L ≤ 3072) (hsx : ∀ j, sx j < 4294967296) (hi : i + 6 ≤ L) (hJ : lw_JR hp) (hN : ∀ hp', lw_JR hp' → G (1409, lw_LV i, [], hp', [], 205, 8956)) : G (1047, lw_LV i, [], hp, [], 205, 8956) := by
  have hv : ∀ v ∈ ([sx (i + 1), sx (i + 2)] : List Nat), v < 4294967296 := (fun v hv => by simp only [List.mem_cons, List.not_mem_nil, or_false] at hv; rcases hv with rfl | rfl <;> exact hsx _)
  obtain ⟨hJ, hR⟩ := hJ
  refine lw_step R (h := rx_h_ld rx_isR 1 1) (a := 0) (σ' := (1048, lw_LV i, [10], hp, [], 205, 8956)) ⟨_, rfl, rfl, rfl, rfl⟩ (fun _ => rfl) ?_
  refine lw_push R hL (k := 1) (by omega) ⟨_, rfl, rfl, rfl, rfl⟩ ⟨_, rfl, rfl, rfl, rfl⟩ ⟨_, rfl, rfl, rfl, rfl⟩ ⟨_, rfl, rfl, rfl, rfl⟩ ⟨_, rfl, rfl, rfl, rfl⟩ ?_
  refine lw_push R hL (k := 2) (by omega) ⟨_, rfl, rfl, rfl, rfl⟩ ⟨_, rfl, rfl, rfl, rfl⟩ ⟨_, rfl, rfl, rfl, rfl⟩ ⟨_, rfl, rfl, rfl, rfl⟩ ⟨_, rfl, rfl, rfl, rfl⟩ ?_
  refine lw_cc (kd := 0) R (j := 253) (nb := 40) (ref := 10) (q := rxm_253) [sx (i + 1), sx (i + 2)] ⟨_, rfl, rfl, rfl, rfl⟩ rfl rfl rfl (by decide) (lw_rcT hJ.T) rfl rfl (Or.inl ⟨rfl, ⟨_, rfl, rfl, rfl, rfl⟩⟩) (lw_ordC (C := lw_c axc_253 0) (kd := 0) ((H.1 _ 253 rxm_253 (axm_253, axc_253) rfl rfl).2 (Nat.lt_succ_self _) _ List.mem_cons_self) (Or.inl rfl) hv rfl rfl (by decide +kernel) (by decide +kernel) hJ) (fun o h => ⟨h.1, h.2.1⟩) (fun o1 h1 => ?_)
  obtain ⟨a1, H1, c1⟩ := lw_rnC (j := 253) (q := rxm_253) (vals := [sx (i + 1), sx (i + 2)]) rfl sg_253 rfl cv_253 hv hJ.T hR h1.1.2.2.2 h1.2
  refine lw_step R (h := rx_h_ld rx_isR 2 1) (a := 0) (σ' := (1063, lw_LV i, [702], o1.2.1, [], 205, 8956)) ⟨_, rfl, rfl, rfl, rfl⟩ (fun _ => rfl) ?_
  refine lw_push R hL (k := 1) (by omega) ⟨_, rfl, rfl, rfl, rfl⟩ ⟨_, rfl, rfl, rfl, rfl⟩ ⟨_, rfl, rfl, rfl, rfl⟩ ⟨_, rfl, rfl, rfl, rfl⟩ ⟨_, rfl, rfl, rfl, rfl⟩ ?_
  refine lw_push R hL (k := 2) (by omega) ⟨_, rfl, rfl, rfl, rfl⟩ ⟨_, rfl, rfl, rfl, rfl⟩ ⟨_, rfl, rfl, rfl, rfl⟩ ⟨_, rfl, rfl, rfl, rfl⟩ ⟨_, rfl, rfl, rfl, rfl⟩ ?_
  refine lw_cc (kd := 0) R (j := 303) (nb := 44) (ref := 702) (q := rxm_303) [sx (i + 1), sx (i + 2)] ⟨_, rfl, rfl, rfl, rfl⟩ rfl rfl rfl (by decide) (lw_rcM h1.1.2.2.1.T) rfl rfl (Or.inl ⟨rfl, ⟨_, rfl, rfl, rfl, rfl⟩⟩) (lw_ordM (C0 := lw_c axc0_303 0) (C1 := lw_c axc1_303 0) (kd := 0) ((H.2.1 _ 303 rxm_303 (axm_303, axc0_303) rfl rfl).2 (Nat.lt_succ_self _) _ List.mem_cons_self) ((H.2.2 _ 303 rxm_303 (axm_303, axc1_303) rfl rfl).2 (Nat.lt_succ_self _) _ List.mem_cons_self) (Or.inl rfl) hv rfl rfl (by decide +kernel) (by decide +kernel) rfl rfl (by decide +kernel) (by decide +kernel) h1.1.2.2.1) (fun o h => ⟨h.1, h.2.1⟩) (fun o2 h2 => ?_)
  obtain ⟨a2, H2, c2⟩ := lw_rnM (j := 303) (q := rxm_303) (vals := [sx (i + 1), sx (i + 2)]) rfl sg_303 rfl cv_303 hv h1.1.2.2.1.T H1 h2.1.2.2.2 h2.2
  exact lw_goto R ⟨_, rfl, rfl, rfl, rfl⟩ (hN o2.2.1 ⟨h2.1.2.2.1, lw_two hR H2 c1 c2 (fun _ _ _ _ _ _ h => (h.kk (h_T_rooted h (hsx _) a1) (g_M_rooted a2)).1)⟩)
set_option maxHeartbeats 1000000 in
/-- best -/
theorem lw_k30 (R : lw_Rules l cy D (rxl L sx) G) (H : lw_H) (hL : L ≤ 3072) (hsx : ∀ j, sx j < 4294967296) (hi : i + 6 ≤ L) (hJ : lw_JR hp) (hN : ∀ hp', lw_JR hp' → G (1409, lw_LV i, [], hp', [], 205, 8956)) : G (1080, lw_LV i, [], hp, [], 205, 8956) := by
  have hv : ∀ v ∈ ([sx (i + 1)] : List Nat), v < 4294967296 := (fun v hv => by simp only [List.mem_cons, List.not_mem_nil, or_false] at hv; rcases hv with rfl <;> exact hsx _)
  obtain ⟨hJ, hR⟩ := hJ
  refine lw_step R (h := rx_h_ld rx_isR 1 1) (a := 0) (σ' := (1081, lw_LV i, [10], hp, [], 205, 8956)) ⟨_, rfl, rfl, rfl, rfl⟩ (fun _ => rfl) ?_
  refine lw_push R hL (k := 1) (by omega) ⟨_, rfl, rfl, rfl, rfl⟩ ⟨_, rfl, rfl, rfl, rfl⟩ ⟨_, rfl, rfl, rfl, rfl⟩ ⟨_, rfl, rfl, rfl, rfl⟩ ⟨_, rfl, rfl, rfl, rfl⟩ ?_
  refine lw_cc (kd := 0) R (j := 248) (nb := 40) (ref := 10) (q := rxm_248) [sx (i + 1)] ⟨_, rfl, rfl, rfl, rfl⟩ rfl rfl rfl (by decide) (lw_rcT hJ.T) rfl rfl (Or.inl ⟨rfl, ⟨_, rfl, rfl, rfl, rfl⟩⟩) (lw_ordC (C := lw_c axc_248 0) (kd := 0) ((H.1 _ 248 rxm_248 (axm_248, axc_248) rfl rfl).2 (Nat.lt_succ_self _) _ List.mem_cons_self) (Or.inl rfl) hv rfl rfl (by decide +kernel) (by decide +kernel) hJ) (fun o h => ⟨h.1, h.2.1⟩) (fun o1 h1 => ?_)
  obtain ⟨a1, H1, c1⟩ := lw_rnC (j := 248) (q := rxm_248) (vals := [sx (i + 1)]) rfl sg_248 rfl cv_248 hv hJ.T hR h1.1.2.2.2 h1.2
  refine lw_step R (h := rx_h_ld rx_isR 2 1) (a := 0) (σ' := (1091, lw_LV i, [702], o1.2.1, [], 205, 8956)) ⟨_, rfl, rfl, rfl, rfl⟩ (fun _ => rfl) ?_
  refine lw_push R hL (k := 1) (by omega) ⟨_, rfl, rfl, rfl, rfl⟩ ⟨_, rfl, rfl, rfl, rfl⟩ ⟨_, rfl, rfl, rfl, rfl⟩ ⟨_, rfl, rfl, rfl, rfl⟩ ⟨_, rfl, rfl, rfl, rfl⟩ ?_
  refine lw_cc (kd := 0) R (j := 300) (nb := 44) (ref := 702) (q := rxm_300) [sx (i + 1)] ⟨_, rfl, rfl, rfl, rfl⟩ rfl rfl rfl (by decide) (lw_rcM h1.1.2.2.1.T) rfl rfl (Or.inl ⟨rfl, ⟨_, rfl, rfl, rfl, rfl⟩⟩) (lw_ordM (C0 := lw_c axc0_300 0) (C1 := lw_c axc1_300 0) (kd := 0) ((H.2.1 _ 300 rxm_300 (axm_300, axc0_300) rfl rfl).2 (Nat.lt_succ_self _) _ List.mem_cons_self) ((H.2.2 _ 300 rxm_300 (axm_300, axc1_300) rfl rfl).2 (Nat.lt_succ_self _) _ List.mem_cons_self) (Or.inl rfl) hv rfl rfl (by decide +kernel) (by decide +kernel) rfl rfl (by decide +kernel) (by decide +kernel) h1.1.2.2.1) (fun o h => ⟨h.1, h.2.1⟩) (fun o2 h2 => ?_)
  obtain ⟨a2, H2, c2⟩ := lw_rnM (j := 300) (q := rxm_300) (vals := [sx (i + 1)]) rfl sg_300 rfl cv_300 hv h1.1.2.2.1.T H1 h2.1.2.2.2 h2.2
  exact lw_goto R ⟨_, rfl, rfl, rfl, rfl⟩ (hN o2.2.1 ⟨h2.1.2.2.1, lw_two hR H2 c1 c2 (fun _ _ _ _ _ _ h => (h.kk (h_T_best h a1) (g_M_best a2)).1)⟩)
set_option maxHeartbeats 1000000 in
/-- without -/
theorem lw_k31 (R : lw_Rules l cy D (rxl L sx) G) (H : lw_H) (hL : L ≤ 3072) (hsx : ∀ j, sx j < 4294967296) (hi : i + 6 ≤ L) (hJ : lw_JR hp) (hN : ∀ hp', lw_JR hp' → G (1409, lw_LV i, [], hp', [], 205, 8956)) : G (1103, lw_LV i, [], hp, [], 205, 8956) := by
  have hv : ∀ v ∈ ([sx (i + 1), sx (i + 2)] : List Nat), v < 4294967296 := (fun v hv => by simp only [List.mem_cons, List.not_mem_nil, or_false] at hv; rcases hv with rfl | rfl <;> exact hsx _)
  obtain ⟨hJ, hR⟩ := hJ
  refine lw_step R (h := rx_h_ld rx_isR 1 1) (a := 0) (σ' := (1104, lw_LV i, [10], hp, [], 205, 8956)) ⟨_, rfl, rfl, rfl, rfl⟩ (fun _ => rfl) ?_
  refine lw_push R hL (k := 1) (by omega) ⟨_, rfl, rfl, rfl, rfl⟩ ⟨_, rfl, rfl, rfl, rfl⟩ ⟨_, rfl, rfl, rfl, rfl⟩ ⟨_, rfl, rfl, rfl, rfl⟩ ⟨_, rfl, rfl, rfl, rfl⟩ ?_
  refine lw_push R hL (k := 2) (by omega) ⟨_, rfl, rfl, rfl, rfl⟩ ⟨_, rfl, rfl, rfl, rfl⟩ ⟨_, rfl, rfl, rfl, rfl⟩ ⟨_, rfl, rfl, rfl, rfl⟩ ⟨_, rfl, rfl, rfl, rfl⟩ ?_
  refine lw_cc (kd := 0) R (j := 239) (nb := 40) (ref := 10) (q := rxm_239) [sx (i + 1), sx (i + 2)] ⟨_, rfl, rfl, rfl, rfl⟩ rfl rfl rfl (by decide) (lw_rcT hJ.T) rfl rfl (Or.inl ⟨rfl, ⟨_, rfl, rfl, rfl, rfl⟩⟩) (lw_ordC (C := lw_c axc_239 0) (kd := 0) ((H.1 _ 239 rxm_239 (axm_239, axc_239) rfl rfl).2 (Nat.lt_succ_self _) _ List.mem_cons_self) (Or.inl rfl) hv rfl rfl (by decide +kernel) (by decide +kernel) hJ) (fun o h => ⟨h.1, h.2.1⟩) (fun o1 h1 => ?_)
  obtain ⟨a1, H1, c1⟩ := lw_rnC (j := 239) (q := rxm_239) (vals := [sx (i + 1), sx (i + 2)]) rfl sg_239 rfl cv_239 hv hJ.T hR h1.1.2.2.2 h1.2
  refine lw_step R (h := rx_h_ld rx_isR 2 1) (a := 0) (σ' := (1119, lw_LV i, [702], o1.2.1, [], 205, 8956)) ⟨_, rfl, rfl, rfl, rfl⟩ (fun _ => rfl) ?_
  refine lw_push R hL (k := 1) (by omega) ⟨_, rfl, rfl, rfl, rfl⟩ ⟨_, rfl, rfl, rfl, rfl⟩ ⟨_, rfl, rfl, rfl, rfl⟩ ⟨_, rfl, rfl, rfl, rfl⟩ ⟨_, rfl, rfl, rfl, rfl⟩ ?_
  refine lw_push R hL (k := 2) (by omega) ⟨_, rfl, rfl, rfl, rfl⟩ ⟨_, rfl, rfl, rfl, rfl⟩ ⟨_, rfl, rfl, rfl, rfl⟩ ⟨_, rfl, rfl, rfl, rfl⟩ ⟨_, rfl, rfl, rfl, rfl⟩ ?_
  refine lw_cc (kd := 0) R (j := 290) (nb := 44) (ref := 702) (q := rxm_290) [sx (i + 1), sx (i + 2)] ⟨_, rfl, rfl, rfl, rfl⟩ rfl rfl rfl (by decide) (lw_rcM h1.1.2.2.1.T) rfl rfl (Or.inl ⟨rfl, ⟨_, rfl, rfl, rfl, rfl⟩⟩) (lw_ordM (C0 := lw_c axc0_290 0) (C1 := lw_c axc1_290 0) (kd := 0) ((H.2.1 _ 290 rxm_290 (axm_290, axc0_290) rfl rfl).2 (Nat.lt_succ_self _) _ List.mem_cons_self) ((H.2.2 _ 290 rxm_290 (axm_290, axc1_290) rfl rfl).2 (Nat.lt_succ_self _) _ List.mem_cons_self) (Or.inl rfl) hv rfl rfl (by decide +kernel) (by decide +kernel) rfl rfl (by decide +kernel) (by decide +kernel) h1.1.2.2.1) (fun o h => ⟨h.1, h.2.1⟩) (fun o2 h2 => ?_)
  obtain ⟨a2, H2, c2⟩ := lw_rnM (j := 290) (q := rxm_290) (vals := [sx (i + 1), sx (i + 2)]) rfl sg_290 rfl cv_290 hv h1.1.2.2.1.T H1 h2.1.2.2.2 h2.2
  exact lw_goto R ⟨_, rfl, rfl, rfl, rfl⟩ (hN o2.2.1 ⟨h2.1.2.2.1, lw_two hR H2 c1 c2 (fun _ _ _ _ _ _ h => (h.kk (h_T_without h a1) (g_M_without a2)).1)⟩)
set_option maxHeartbeats 1000000 in
/-- dearest -/
theorem lw_k32 (R : lw_Rules l cy D (rxl L sx) G) (H : lw_H) (hL : L ≤ 3072) (hsx : ∀ j, sx j < 4294967296) (hi : i + 6 ≤ L) (hJ : lw_JR hp) (hN : ∀ hp', lw_JR hp' → G (1409, lw_LV i, [], hp', [], 205, 8956)) : G (1136, lw_LV i, [], hp, [], 205, 8956) := by
  have hv : ∀ v ∈ ([] : List Nat), v < 4294967296 := (fun v hv => by cases hv)
  obtain ⟨hJ, hR⟩ := hJ
  refine lw_step R (h := rx_h_ld rx_isR 1 1) (a := 0) (σ' := (1137, lw_LV i, [10], hp, [], 205, 8956)) ⟨_, rfl, rfl, rfl, rfl⟩ (fun _ => rfl) ?_
  refine lw_cc (kd := 0) R (j := 227) (nb := 40) (ref := 10) (q := rxm_227) [] ⟨_, rfl, rfl, rfl, rfl⟩ rfl rfl rfl (by decide) (lw_rcT hJ.T) rfl rfl (Or.inl ⟨rfl, ⟨_, rfl, rfl, rfl, rfl⟩⟩) (lw_ordC (C := lw_c axc_227 0) (kd := 0) ((H.1 _ 227 rxm_227 (axm_227, axc_227) rfl rfl).2 (Nat.lt_succ_self _) _ List.mem_cons_self) (Or.inl rfl) hv rfl rfl (by decide +kernel) (by decide +kernel) hJ) (fun o h => ⟨h.1, h.2.1⟩) (fun o1 h1 => ?_)
  obtain ⟨a1, H1, c1⟩ := lw_rnC (j := 227) (q := rxm_227) (vals := []) rfl sg_227 rfl cv_227 hv hJ.T hR h1.1.2.2.2 h1.2
  refine lw_step R (h := rx_h_ld rx_isR 2 1) (a := 0) (σ' := (1142, lw_LV i, [702], o1.2.1, [], 205, 8956)) ⟨_, rfl, rfl, rfl, rfl⟩ (fun _ => rfl) ?_
  refine lw_cc (kd := 0) R (j := 292) (nb := 44) (ref := 702) (q := rxm_292) [] ⟨_, rfl, rfl, rfl, rfl⟩ rfl rfl rfl (by decide) (lw_rcM h1.1.2.2.1.T) rfl rfl (Or.inl ⟨rfl, ⟨_, rfl, rfl, rfl, rfl⟩⟩) (lw_ordM (C0 := lw_c axc0_292 0) (C1 := lw_c axc1_292 0) (kd := 0) ((H.2.1 _ 292 rxm_292 (axm_292, axc0_292) rfl rfl).2 (Nat.lt_succ_self _) _ List.mem_cons_self) ((H.2.2 _ 292 rxm_292 (axm_292, axc1_292) rfl rfl).2 (Nat.lt_succ_self _) _ List.mem_cons_self) (Or.inl rfl) hv rfl rfl (by decide +kernel) (by decide +kernel) rfl rfl (by decide +kernel) (by decide +kernel) h1.1.2.2.1) (fun o h => ⟨h.1, h.2.1⟩) (fun o2 h2 => ?_)
  obtain ⟨a2, H2, c2⟩ := lw_rnM (j := 292) (q := rxm_292) (vals := []) rfl sg_292 rfl cv_292 hv h1.1.2.2.1.T H1 h2.1.2.2.2 h2.2
  exact lw_goto R ⟨_, rfl, rfl, rfl, rfl⟩ (hN o2.2.1 ⟨h2.1.2.2.1, lw_two hR H2 c1 c2 (fun _ _ _ _ _ _ h => (h.kk (h_T_dearest h a1) (g_M_dearest a2)).1)⟩)
set_option maxHeartbeats 1000000 in
/-- apart -/
theorem lw_k33 (R : lw_Rules l cy D (rxl L sx) G) (H : lw_H) (hL : L ≤ 3072) (hsx : ∀ j, sx j < 4294967296) (hi : i + 6 ≤ L) (hJ : lw_JR hp) (hN : ∀ hp', lw_JR hp' → G (1409, lw_LV i, [], hp', [], 205, 8956)) : G (1149, lw_LV i, [], hp, [], 205, 8956) := by
  have hv : ∀ v ∈ ([sx (i + 1), sx (i + 2)] : List Nat), v < 4294967296 := (fun v hv => by simp only [List.mem_cons, List.not_mem_nil, or_false] at hv; rcases hv with rfl | rfl <;> exact hsx _)
  obtain ⟨hJ, hR⟩ := hJ
  refine lw_step R (h := rx_h_ld rx_isR 1 1) (a := 0) (σ' := (1150, lw_LV i, [10], hp, [], 205, 8956)) ⟨_, rfl, rfl, rfl, rfl⟩ (fun _ => rfl) ?_
  refine lw_push R hL (k := 1) (by omega) ⟨_, rfl, rfl, rfl, rfl⟩ ⟨_, rfl, rfl, rfl, rfl⟩ ⟨_, rfl, rfl, rfl, rfl⟩ ⟨_, rfl, rfl, rfl, rfl⟩ ⟨_, rfl, rfl, rfl, rfl⟩ ?_
  refine lw_push R hL (k := 2) (by omega) ⟨_, rfl, rfl, rfl, rfl⟩ ⟨_, rfl, rfl, rfl, rfl⟩ ⟨_, rfl, rfl, rfl, rfl⟩ ⟨_, rfl, rfl, rfl, rfl⟩ ⟨_, rfl, rfl, rfl, rfl⟩ ?_
  refine lw_cc (kd := 0) R (j := 183) (nb := 40) (ref := 10) (q := rxm_183) [sx (i + 1), sx (i + 2)] ⟨_, rfl, rfl, rfl, rfl⟩ rfl rfl rfl (by decide) (lw_rcT hJ.T) rfl rfl (Or.inl ⟨rfl, ⟨_, rfl, rfl, rfl, rfl⟩⟩) (lw_ordC (C := lw_c axc_183 0) (kd := 0) ((H.1 _ 183 rxm_183 (axm_183, axc_183) rfl rfl).2 (Nat.lt_succ_self _) _ List.mem_cons_self) (Or.inl rfl) hv rfl rfl (by decide +kernel) (by decide +kernel) hJ) (fun o h => ⟨h.1, h.2.1⟩) (fun o1 h1 => ?_)
  obtain ⟨a1, H1, c1⟩ := lw_rnC (j := 183) (q := rxm_183) (vals := [sx (i + 1), sx (i + 2)]) rfl sg_183 rfl cv_183 hv hJ.T hR h1.1.2.2.2 h1.2
  refine lw_step R (h := rx_h_ld rx_isR 2 1) (a := 0) (σ' := (1165, lw_LV i, [702], o1.2.1, [], 205, 8956)) ⟨_, rfl, rfl, rfl, rfl⟩ (fun _ => rfl) ?_
  refine lw_push R hL (k := 1) (by omega) ⟨_, rfl, rfl, rfl, rfl⟩ ⟨_, rfl, rfl, rfl, rfl⟩ ⟨_, rfl, rfl, rfl, rfl⟩ ⟨_, rfl, rfl, rfl, rfl⟩ ⟨_, rfl, rfl, rfl, rfl⟩ ?_
  refine lw_push R hL (k := 2) (by omega) ⟨_, rfl, rfl, rfl, rfl⟩ ⟨_, rfl, rfl, rfl, rfl⟩ ⟨_, rfl, rfl, rfl, rfl⟩ ⟨_, rfl, rfl, rfl, rfl⟩ ⟨_, rfl, rfl, rfl, rfl⟩ ?_
  refine lw_cc (kd := 0) R (j := 220) (nb := 44) (ref := 702) (q := rxm_220) [sx (i + 1), sx (i + 2)] ⟨_, rfl, rfl, rfl, rfl⟩ rfl rfl rfl (by decide) (lw_rcM h1.1.2.2.1.T) rfl rfl (Or.inl ⟨rfl, ⟨_, rfl, rfl, rfl, rfl⟩⟩) (lw_ordM (C0 := lw_c axc0_220 0) (C1 := lw_c axc1_220 0) (kd := 0) ((H.2.1 _ 220 rxm_220 (axm_220, axc0_220) rfl rfl).2 (Nat.lt_succ_self _) _ List.mem_cons_self) ((H.2.2 _ 220 rxm_220 (axm_220, axc1_220) rfl rfl).2 (Nat.lt_succ_self _) _ List.mem_cons_self) (Or.inl rfl) hv rfl rfl (by decide +kernel) (by decide +kernel) rfl rfl (by decide +kernel) (by decide +kernel) h1.1.2.2.1) (fun o h => ⟨h.1, h.2.1⟩) (fun o2 h2 => ?_)
  obtain ⟨a2, H2, c2⟩ := lw_rnM (j := 220) (q := rxm_220) (vals := [sx (i + 1), sx (i + 2)]) rfl sg_220 rfl cv_220 hv h1.1.2.2.1.T H1 h2.1.2.2.2 h2.2
  exact lw_goto R ⟨_, rfl, rfl, rfl, rfl⟩ (hN o2.2.1 ⟨h2.1.2.2.1, lw_two hR H2 c1 c2 (fun _ _ _ _ _ _ h => (h.kk (h_T_apart h a1) (g_M_apart a2)).1)⟩)
set_option maxHeartbeats 1000000 in
/-- around -/
theorem lw_k34 (R : lw_Rules l cy D (rxl L sx) G) (H : lw_H) (hL : L ≤ 3072) (hsx : ∀ j, sx j < 4294967296) (hi : i + 6 ≤ L) (hJ : lw_JR hp) (hN : ∀ hp', lw_JR hp' → G (1409, lw_LV i, [], hp', [], 205, 8956)) : G (1182, lw_LV i, [], hp, [], 205, 8956) := by
  have hv : ∀ v ∈ ([sx (i + 1), sx (i + 2), sx (i + 3)] : List Nat), v < 4294967296 := (fun v hv => by simp only [List.mem_cons, List.not_mem_nil, or_false] at hv; rcases hv with rfl | rfl | rfl <;> exact hsx _)
  obtain ⟨hJ, hR⟩ := hJ
  refine lw_step R (h := rx_h_ld rx_isR 1 1) (a := 0) (σ' := (1183, lw_LV i, [10], hp, [], 205, 8956)) ⟨_, rfl, rfl, rfl, rfl⟩ (fun _ => rfl) ?_
  refine lw_push R hL (k := 1) (by omega) ⟨_, rfl, rfl, rfl, rfl⟩ ⟨_, rfl, rfl, rfl, rfl⟩ ⟨_, rfl, rfl, rfl, rfl⟩ ⟨_, rfl, rfl, rfl, rfl⟩ ⟨_, rfl, rfl, rfl, rfl⟩ ?_
  refine lw_push R hL (k := 2) (by omega) ⟨_, rfl, rfl, rfl, rfl⟩ ⟨_, rfl, rfl, rfl, rfl⟩ ⟨_, rfl, rfl, rfl, rfl⟩ ⟨_, rfl, rfl, rfl, rfl⟩ ⟨_, rfl, rfl, rfl, rfl⟩ ?_
  refine lw_push R hL (k := 3) (by omega) ⟨_, rfl, rfl, rfl, rfl⟩ ⟨_, rfl, rfl, rfl, rfl⟩ ⟨_, rfl, rfl, rfl, rfl⟩ ⟨_, rfl, rfl, rfl, rfl⟩ ⟨_, rfl, rfl, rfl, rfl⟩ ?_
  refine lw_cc (kd := 0) R (j := 214) (nb := 40) (ref := 10) (q := rxm_214) [sx (i + 1), sx (i + 2), sx (i + 3)] ⟨_, rfl, rfl, rfl, rfl⟩ rfl rfl rfl (by decide) (lw_rcT hJ.T) rfl rfl (Or.inl ⟨rfl, ⟨_, rfl, rfl, rfl, rfl⟩⟩) (lw_ordC (C := lw_c axc_214 0) (kd := 0) ((H.1 _ 214 rxm_214 (axm_214, axc_214) rfl rfl).2 (Nat.lt_succ_self _) _ List.mem_cons_self) (Or.inl rfl) hv rfl rfl (by decide +kernel) (by decide +kernel) hJ) (fun o h => ⟨h.1, h.2.1⟩) (fun o1 h1 => ?_)
  obtain ⟨a1, H1, c1⟩ := lw_rnC (j := 214) (q := rxm_214) (vals := [sx (i + 1), sx (i + 2), sx (i + 3)]) rfl sg_214 rfl cv_214 hv hJ.T hR h1.1.2.2.2 h1.2
  refine lw_step R (h := rx_h_ld rx_isR 2 1) (a := 0) (σ' := (1203, lw_LV i, [702], o1.2.1, [], 205, 8956)) ⟨_, rfl, rfl, rfl, rfl⟩ (fun _ => rfl) ?_
  refine lw_push R hL (k := 1) (by omega) ⟨_, rfl, rfl, rfl, rfl⟩ ⟨_, rfl, rfl, rfl, rfl⟩ ⟨_, rfl, rfl, rfl, rfl⟩ ⟨_, rfl, rfl, rfl, rfl⟩ ⟨_, rfl, rfl, rfl, rfl⟩ ?_
  refine lw_push R hL (k := 2) (by omega) ⟨_, rfl, rfl, rfl, rfl⟩ ⟨_, rfl, rfl, rfl, rfl⟩ ⟨_, rfl, rfl, rfl, rfl⟩ ⟨_, rfl, rfl, rfl, rfl⟩ ⟨_, rfl, rfl, rfl, rfl⟩ ?_
  refine lw_push R hL (k := 3) (by omega) ⟨_, rfl, rfl, rfl, rfl⟩ ⟨_, rfl, rfl, rfl, rfl⟩ ⟨_, rfl, rfl, rfl, rfl⟩ ⟨_, rfl, rfl, rfl, rfl⟩ ⟨_, rfl, rfl, rfl, rfl⟩ ?_
  refine lw_cc (kd := 0) R (j := 276) (nb := 44) (ref := 702) (q := rxm_276) [sx (i + 1), sx (i + 2), sx (i + 3)] ⟨_, rfl, rfl, rfl, rfl⟩ rfl rfl rfl (by decide) (lw_rcM h1.1.2.2.1.T) rfl rfl (Or.inl ⟨rfl, ⟨_, rfl, rfl, rfl, rfl⟩⟩) (lw_ordM (C0 := lw_c axc0_276 0) (C1 := lw_c axc1_276 0) (kd := 0) ((H.2.1 _ 276 rxm_276 (axm_276, axc0_276) rfl rfl).2 (Nat.lt_succ_self _) _ List.mem_cons_self) ((H.2.2 _ 276 rxm_276 (axm_276, axc1_276) rfl rfl).2 (Nat.lt_succ_self _) _ List.mem_cons_self) (Or.inl rfl) hv rfl rfl (by decide +kernel) (by decide +kernel) rfl rfl (by decide +kernel) (by decide +kernel) h1.1.2.2.1) (fun o h => ⟨h.1, h.2.1⟩) (fun o2 h2 => ?_)
  obtain ⟨a2, H2, c2⟩ := lw_rnM (j := 276) (q := rxm_276) (vals := [sx (i + 1), sx (i + 2), sx (i + 3)]) rfl sg_276 rfl cv_276 hv h1.1.2.2.1.T H1 h2.1.2.2.2 h2.2
  exact lw_goto R ⟨_, rfl, rfl, rfl, rfl⟩ (hN o2.2.1 ⟨h2.1.2.2.1, lw_two hR H2 c1 c2 (fun _ _ _ _ _ _ h => (h.kk (h_T_around h a1) (g_M_around a2)).1)⟩)
set_option maxHeartbeats 1000000 in
/-- pivots -/
theorem lw_k35 (R : lw_Rules l cy D (rxl L sx) G) (H : lw_H) (hL : L ≤ 3072) (hsx : ∀ j, sx j < 4294967296) (hi : i + 6 ≤ L) (hJ : lw_JR hp) (hN : ∀ hp', lw_JR hp' → G (1409, lw_LV i, [], hp', [], 205, 8956)) : G (1225, lw_LV i, [], hp, [], 205, 8956) := by
  have hv : ∀ v ∈ ([] : List Nat), v < 4294967296 := (fun v hv => by cases hv)
  obtain ⟨hJ, hR⟩ := hJ
  refine lw_step R (h := rx_h_ld rx_isR 1 1) (a := 0) (σ' := (1226, lw_LV i, [10], hp, [], 205, 8956)) ⟨_, rfl, rfl, rfl, rfl⟩ (fun _ => rfl) ?_
  refine lw_cc (kd := 0) R (j := 219) (nb := 40) (ref := 10) (q := rxm_219) [] ⟨_, rfl, rfl, rfl, rfl⟩ rfl rfl rfl (by decide) (lw_rcT hJ.T) rfl rfl (Or.inl ⟨rfl, ⟨_, rfl, rfl, rfl, rfl⟩⟩) (lw_ordC (C := lw_c axc_219 0) (kd := 0) ((H.1 _ 219 rxm_219 (axm_219, axc_219) rfl rfl).2 (Nat.lt_succ_self _) _ List.mem_cons_self) (Or.inl rfl) hv rfl rfl (by decide +kernel) (by decide +kernel) hJ) (fun o h => ⟨h.1, h.2.1⟩) (fun o1 h1 => ?_)
  obtain ⟨a1, H1, c1⟩ := lw_rnC (j := 219) (q := rxm_219) (vals := []) rfl sg_219 rfl cv_219 hv hJ.T hR h1.1.2.2.2 h1.2
  refine lw_step R (h := rx_h_ld rx_isR 2 1) (a := 0) (σ' := (1231, lw_LV i, [702], o1.2.1, [], 205, 8956)) ⟨_, rfl, rfl, rfl, rfl⟩ (fun _ => rfl) ?_
  refine lw_cc (kd := 0) R (j := 224) (nb := 44) (ref := 702) (q := rxm_224) [] ⟨_, rfl, rfl, rfl, rfl⟩ rfl rfl rfl (by decide) (lw_rcM h1.1.2.2.1.T) rfl rfl (Or.inl ⟨rfl, ⟨_, rfl, rfl, rfl, rfl⟩⟩) (lw_ordM (C0 := lw_c axc0_224 0) (C1 := lw_c axc1_224 0) (kd := 0) ((H.2.1 _ 224 rxm_224 (axm_224, axc0_224) rfl rfl).2 (Nat.lt_succ_self _) _ List.mem_cons_self) ((H.2.2 _ 224 rxm_224 (axm_224, axc1_224) rfl rfl).2 (Nat.lt_succ_self _) _ List.mem_cons_self) (Or.inl rfl) hv rfl rfl (by decide +kernel) (by decide +kernel) rfl rfl (by decide +kernel) (by decide +kernel) h1.1.2.2.1) (fun o h => ⟨h.1, h.2.1⟩) (fun o2 h2 => ?_)
  obtain ⟨a2, H2, c2⟩ := lw_rnM (j := 224) (q := rxm_224) (vals := []) rfl sg_224 rfl cv_224 hv h1.1.2.2.1.T H1 h2.1.2.2.2 h2.2
  exact lw_goto R ⟨_, rfl, rfl, rfl, rfl⟩ (hN o2.2.1 ⟨h2.1.2.2.1, lw_two hR H2 c1 c2 (fun _ _ _ _ _ _ h => (h.kk (h_T_pivots h a1) (g_M_pivots a2)).1)⟩)
set_option maxHeartbeats 1000000 in
/-- game -/
theorem lw_k36 (R : lw_Rules l cy D (rxl L sx) G) (H : lw_H) (hL : L ≤ 3072) (hsx : ∀ j, sx j < 4294967296) (hi : i + 6 ≤ L) (hJ : lw_JR hp) (hN : ∀ hp', lw_JR hp' → G (1409, lw_LV i, [], hp', [], 205, 8956)) : G (1238, lw_LV i, [], hp, [], 205, 8956) := by
  have hv : ∀ v ∈ ([sx (i + 1), sx (i + 2), sx (i + 3)] : List Nat), v < 4294967296 := (fun v hv => by simp only [List.mem_cons, List.not_mem_nil, or_false] at hv; rcases hv with rfl | rfl | rfl <;> exact hsx _)
  obtain ⟨hJ, hR⟩ := hJ
  refine lw_step R (h := rx_h_ld rx_isR 1 1) (a := 0) (σ' := (1239, lw_LV i, [10], hp, [], 205, 8956)) ⟨_, rfl, rfl, rfl, rfl⟩ (fun _ => rfl) ?_
  refine lw_push R hL (k := 1) (by omega) ⟨_, rfl, rfl, rfl, rfl⟩ ⟨_, rfl, rfl, rfl, rfl⟩ ⟨_, rfl, rfl, rfl, rfl⟩ ⟨_, rfl, rfl, rfl, rfl⟩ ⟨_, rfl, rfl, rfl, rfl⟩ ?_
  refine lw_push R hL (k := 2) (by omega) ⟨_, rfl, rfl, rfl, rfl⟩ ⟨_, rfl, rfl, rfl, rfl⟩ ⟨_, rfl, rfl, rfl, rfl⟩ ⟨_, rfl, rfl, rfl, rfl⟩ ⟨_, rfl, rfl, rfl, rfl⟩ ?_
  refine lw_push R hL (k := 3) (by omega) ⟨_, rfl, rfl, rfl, rfl⟩ ⟨_, rfl, rfl, rfl, rfl⟩ ⟨_, rfl, rfl, rfl, rfl⟩ ⟨_, rfl, rfl, rfl, rfl⟩ ⟨_, rfl, rfl, rfl, rfl⟩ ?_
  refine lw_cc (kd := 0) R (j := 229) (nb := 40) (ref := 10) (q := rxm_229) [sx (i + 1), sx (i + 2), sx (i + 3)] ⟨_, rfl, rfl, rfl, rfl⟩ rfl rfl rfl (by decide) (lw_rcT hJ.T) rfl rfl (Or.inl ⟨rfl, ⟨_, rfl, rfl, rfl, rfl⟩⟩) (lw_ordC (C := lw_c axc_229 0) (kd := 0) ((H.1 _ 229 rxm_229 (axm_229, axc_229) rfl rfl).2 (Nat.lt_succ_self _) _ List.mem_cons_self) (Or.inl rfl) hv rfl rfl (by decide +kernel) (by decide +kernel) hJ) (fun o h => ⟨h.1, h.2.1⟩) (fun o1 h1 => ?_)
  obtain ⟨a1, H1, c1⟩ := lw_rnC (j := 229) (q := rxm_229) (vals := [sx (i + 1), sx (i + 2), sx (i + 3)]) rfl sg_229 rfl cv_229 hv hJ.T hR h1.1.2.2.2 h1.2
  refine lw_step R (h := rx_h_ld rx_isR 2 1) (a := 0) (σ' := (1259, lw_LV i, [702], o1.2.1, [], 205, 8956)) ⟨_, rfl, rfl, rfl, rfl⟩ (fun _ => rfl) ?_
  refine lw_push R hL (k := 1) (by omega) ⟨_, rfl, rfl, rfl, rfl⟩ ⟨_, rfl, rfl, rfl, rfl⟩ ⟨_, rfl, rfl, rfl, rfl⟩ ⟨_, rfl, rfl, rfl, rfl⟩ ⟨_, rfl, rfl, rfl, rfl⟩ ?_
  refine lw_push R hL (k := 2) (by omega) ⟨_, rfl, rfl, rfl, rfl⟩ ⟨_, rfl, rfl, rfl, rfl⟩ ⟨_, rfl, rfl, rfl, rfl⟩ ⟨_, rfl, rfl, rfl, rfl⟩ ⟨_, rfl, rfl, rfl, rfl⟩ ?_
  refine lw_push R hL (k := 3) (by omega) ⟨_, rfl, rfl, rfl, rfl⟩ ⟨_, rfl, rfl, rfl, rfl⟩ ⟨_, rfl, rfl, rfl, rfl⟩ ⟨_, rfl, rfl, rfl, rfl⟩ ⟨_, rfl, rfl, rfl, rfl⟩ ?_
  refine lw_cc (kd := 0) R (j := 301) (nb := 44) (ref := 702) (q := rxm_301) [sx (i + 1), sx (i + 2), sx (i + 3)] ⟨_, rfl, rfl, rfl, rfl⟩ rfl rfl rfl (by decide) (lw_rcM h1.1.2.2.1.T) rfl rfl (Or.inl ⟨rfl, ⟨_, rfl, rfl, rfl, rfl⟩⟩) (lw_ordM (C0 := lw_c axc0_301 0) (C1 := lw_c axc1_301 0) (kd := 0) ((H.2.1 _ 301 rxm_301 (axm_301, axc0_301) rfl rfl).2 (Nat.lt_succ_self _) _ List.mem_cons_self) ((H.2.2 _ 301 rxm_301 (axm_301, axc1_301) rfl rfl).2 (Nat.lt_succ_self _) _ List.mem_cons_self) (Or.inl rfl) hv rfl rfl (by decide +kernel) (by decide +kernel) rfl rfl (by decide +kernel) (by decide +kernel) h1.1.2.2.1) (fun o h => ⟨h.1, h.2.1⟩) (fun o2 h2 => ?_)
  obtain ⟨a2, H2, c2⟩ := lw_rnM (j := 301) (q := rxm_301) (vals := [sx (i + 1), sx (i + 2), sx (i + 3)]) rfl sg_301 rfl cv_301 hv h1.1.2.2.1.T H1 h2.1.2.2.2 h2.2
  exact lw_goto R ⟨_, rfl, rfl, rfl, rfl⟩ (hN o2.2.1 ⟨h2.1.2.2.1, lw_two hR H2 c1 c2 (fun _ _ _ _ _ _ h => (h.kk (h_T_game h a1) (g_M_game a2)).1)⟩)
set_option maxHeartbeats 1000000 in
/-- packet -/
theorem lw_k37 (R : lw_Rules l cy D (rxl L sx) G) (H : lw_H) (hL : L ≤ 3072) (hsx : ∀ j, sx j < 4294967296) (hi : i + 6 ≤ L) (hJ : lw_JR hp) (hN : ∀ hp', lw_JR hp' → G (1409, lw_LV i, [], hp', [], 205, 8956)) : G (1281, lw_LV i, [], hp, [], 205, 8956) := by
  have hv : ∀ v ∈ ([sx (i + 1), sx (i + 2)] : List Nat), v < 4294967296 := (fun v hv => by simp only [List.mem_cons, List.not_mem_nil, or_false] at hv; rcases hv with rfl | rfl <;> exact hsx _)
  obtain ⟨hJ, hR⟩ := hJ
  refine lw_step R (h := rx_h_ld rx_isR 1 1) (a := 0) (σ' := (1282, lw_LV i, [10], hp, [], 205, 8956)) ⟨_, rfl, rfl, rfl, rfl⟩ (fun _ => rfl) ?_
  refine lw_push R hL (k := 1) (by omega) ⟨_, rfl, rfl, rfl, rfl⟩ ⟨_, rfl, rfl, rfl, rfl⟩ ⟨_, rfl, rfl, rfl, rfl⟩ ⟨_, rfl, rfl, rfl, rfl⟩ ⟨_, rfl, rfl, rfl, rfl⟩ ?_
  refine lw_push R hL (k := 2) (by omega) ⟨_, rfl, rfl, rfl, rfl⟩ ⟨_, rfl, rfl, rfl, rfl⟩ ⟨_, rfl, rfl, rfl, rfl⟩ ⟨_, rfl, rfl, rfl, rfl⟩ ⟨_, rfl, rfl, rfl, rfl⟩ ?_
  refine lw_cc (kd := 0) R (j := 233) (nb := 40) (ref := 10) (q := rxm_233) [sx (i + 1), sx (i + 2)] ⟨_, rfl, rfl, rfl, rfl⟩ rfl rfl rfl (by decide) (lw_rcT hJ.T) rfl rfl (Or.inl ⟨rfl, ⟨_, rfl, rfl, rfl, rfl⟩⟩) (lw_ordC (C := lw_c axc_233 0) (kd := 0) ((H.1 _ 233 rxm_233 (axm_233, axc_233) rfl rfl).2 (Nat.lt_succ_self _) _ List.mem_cons_self) (Or.inl rfl) hv rfl rfl (by decide +kernel) (by decide +kernel) hJ) (fun o h => ⟨h.1, h.2.1⟩) (fun o1 h1 => ?_)
  obtain ⟨a1, H1, c1⟩ := lw_rnC (j := 233) (q := rxm_233) (vals := [sx (i + 1), sx (i + 2)]) rfl sg_233 rfl cv_233 hv hJ.T hR h1.1.2.2.2 h1.2
  refine lw_step R (h := rx_h_ld rx_isR 2 1) (a := 0) (σ' := (1297, lw_LV i, [702], o1.2.1, [], 205, 8956)) ⟨_, rfl, rfl, rfl, rfl⟩ (fun _ => rfl) ?_
  refine lw_push R hL (k := 1) (by omega) ⟨_, rfl, rfl, rfl, rfl⟩ ⟨_, rfl, rfl, rfl, rfl⟩ ⟨_, rfl, rfl, rfl, rfl⟩ ⟨_, rfl, rfl, rfl, rfl⟩ ⟨_, rfl, rfl, rfl, rfl⟩ ?_
  refine lw_push R hL (k := 2) (by omega) ⟨_, rfl, rfl, rfl, rfl⟩ ⟨_, rfl, rfl, rfl, rfl⟩ ⟨_, rfl, rfl, rfl, rfl⟩ ⟨_, rfl, rfl, rfl, rfl⟩ ⟨_, rfl, rfl, rfl, rfl⟩ ?_
  refine lw_cc (kd := 0) R (j := 287) (nb := 44) (ref := 702) (q := rxm_287) [sx (i + 1), sx (i + 2)] ⟨_, rfl, rfl, rfl, rfl⟩ rfl rfl rfl (by decide) (lw_rcM h1.1.2.2.1.T) rfl rfl (Or.inl ⟨rfl, ⟨_, rfl, rfl, rfl, rfl⟩⟩) (lw_ordM (C0 := lw_c axc0_287 0) (C1 := lw_c axc1_287 0) (kd := 0) ((H.2.1 _ 287 rxm_287 (axm_287, axc0_287) rfl rfl).2 (Nat.lt_succ_self _) _ List.mem_cons_self) ((H.2.2 _ 287 rxm_287 (axm_287, axc1_287) rfl rfl).2 (Nat.lt_succ_self _) _ List.mem_cons_self) (Or.inl rfl) hv rfl rfl (by decide +kernel) (by decide +kernel) rfl rfl (by decide +kernel) (by decide +kernel) h1.1.2.2.1) (fun o h => ⟨h.1, h.2.1⟩) (fun o2 h2 => ?_)
  obtain ⟨a2, H2, c2⟩ := lw_rnM (j := 287) (q := rxm_287) (vals := [sx (i + 1), sx (i + 2)]) rfl sg_287 rfl cv_287 hv h1.1.2.2.1.T H1 h2.1.2.2.2 h2.2
  exact lw_goto R ⟨_, rfl, rfl, rfl, rfl⟩ (hN o2.2.1 ⟨h2.1.2.2.1, lw_two hR H2 c1 c2 (fun _ _ _ _ _ _ h => (o_packet (hsx _) h a1 a2).2.1)⟩)
set_option maxHeartbeats 1000000 in
/-- drains -/
theorem lw_k38 (R : lw_Rules l cy D (rxl L sx) G) (H : lw_H) (hL : L ≤ 3072) (hsx : ∀ j, sx j < 4294967296) (hi : i + 6 ≤ L) (hJ : lw_JR hp) (hN : ∀ hp', lw_JR hp' → G (1409, lw_LV i, [], hp', [], 205, 8956)) : G (1314, lw_LV i, [], hp, [], 205, 8956) := by
  have hv : ∀ v ∈ ([] : List Nat), v < 4294967296 := (fun v hv => by cases hv)
  obtain ⟨hJ, hR⟩ := hJ
  refine lw_step R (h := rx_h_ld rx_isR 1 1) (a := 0) (σ' := (1315, lw_LV i, [10], hp, [], 205, 8956)) ⟨_, rfl, rfl, rfl, rfl⟩ (fun _ => rfl) ?_
  refine lw_cc (kd := 0) R (j := 250) (nb := 40) (ref := 10) (q := rxm_250) [] ⟨_, rfl, rfl, rfl, rfl⟩ rfl rfl rfl (by decide) (lw_rcT hJ.T) rfl rfl (Or.inl ⟨rfl, ⟨_, rfl, rfl, rfl, rfl⟩⟩) (lw_ordC (C := lw_c axc_250 0) (kd := 0) ((H.1 _ 250 rxm_250 (axm_250, axc_250) rfl rfl).2 (Nat.lt_succ_self _) _ List.mem_cons_self) (Or.inl rfl) hv rfl rfl (by decide +kernel) (by decide +kernel) hJ) (fun o h => ⟨h.1, h.2.1⟩) (fun o1 h1 => ?_)
  obtain ⟨a1, H1, c1⟩ := lw_rnC (j := 250) (q := rxm_250) (vals := []) rfl sg_250 rfl cv_250 hv hJ.T hR h1.1.2.2.2 h1.2
  refine lw_step R (h := rx_h_ld rx_isR 2 1) (a := 0) (σ' := (1320, lw_LV i, [702], o1.2.1, [], 205, 8956)) ⟨_, rfl, rfl, rfl, rfl⟩ (fun _ => rfl) ?_
  refine lw_cc (kd := 0) R (j := 293) (nb := 44) (ref := 702) (q := rxm_293) [] ⟨_, rfl, rfl, rfl, rfl⟩ rfl rfl rfl (by decide) (lw_rcM h1.1.2.2.1.T) rfl rfl (Or.inl ⟨rfl, ⟨_, rfl, rfl, rfl, rfl⟩⟩) (lw_ordM (C0 := lw_c axc0_293 0) (C1 := lw_c axc1_293 0) (kd := 0) ((H.2.1 _ 293 rxm_293 (axm_293, axc0_293) rfl rfl).2 (Nat.lt_succ_self _) _ List.mem_cons_self) ((H.2.2 _ 293 rxm_293 (axm_293, axc1_293) rfl rfl).2 (Nat.lt_succ_self _) _ List.mem_cons_self) (Or.inl rfl) hv rfl rfl (by decide +kernel) (by decide +kernel) rfl rfl (by decide +kernel) (by decide +kernel) h1.1.2.2.1) (fun o h => ⟨h.1, h.2.1⟩) (fun o2 h2 => ?_)
  obtain ⟨a2, H2, c2⟩ := lw_rnM (j := 293) (q := rxm_293) (vals := []) rfl sg_293 rfl cv_293 hv h1.1.2.2.1.T H1 h2.1.2.2.2 h2.2
  exact lw_goto R ⟨_, rfl, rfl, rfl, rfl⟩ (hN o2.2.1 ⟨h2.1.2.2.1, lw_two hR H2 c1 c2 (fun _ _ _ _ _ _ h => (h.kk (h_T_drains h a1) (g_M_drains a2)).1)⟩)
set_option maxHeartbeats 1000000 in
/-- stuck -/
theorem lw_k39 (R : lw_Rules l cy D (rxl L sx) G) (H : lw_H) (hL : L ≤ 3072) (hsx : ∀ j, sx j < 4294967296) (hi : i + 6 ≤ L) (hJ : lw_JR hp) (hN : ∀ hp', lw_JR hp' → G (1409, lw_LV i, [], hp', [], 205, 8956)) : G (1327, lw_LV i, [], hp, [], 205, 8956) := by
  have hv : ∀ v ∈ ([] : List Nat), v < 4294967296 := (fun v hv => by cases hv)
  obtain ⟨hJ, hR⟩ := hJ
  refine lw_step R (h := rx_h_ld rx_isR 1 1) (a := 0) (σ' := (1328, lw_LV i, [10], hp, [], 205, 8956)) ⟨_, rfl, rfl, rfl, rfl⟩ (fun _ => rfl) ?_
  refine lw_cc (kd := 0) R (j := 255) (nb := 40) (ref := 10) (q := rxm_255) [] ⟨_, rfl, rfl, rfl, rfl⟩ rfl rfl rfl (by decide) (lw_rcT hJ.T) rfl rfl (Or.inl ⟨rfl, ⟨_, rfl, rfl, rfl, rfl⟩⟩) (lw_ordC (C := lw_c axc_255 0) (kd := 0) ((H.1 _ 255 rxm_255 (axm_255, axc_255) rfl rfl).2 (Nat.lt_succ_self _) _ List.mem_cons_self) (Or.inl rfl) hv rfl rfl (by decide +kernel) (by decide +kernel) hJ) (fun o h => ⟨h.1, h.2.1⟩) (fun o1 h1 => ?_)
  obtain ⟨a1, H1, c1⟩ := lw_rnC (j := 255) (q := rxm_255) (vals := []) rfl sg_255 rfl cv_255 hv hJ.T hR h1.1.2.2.2 h1.2
  refine lw_step R (h := rx_h_ld rx_isR 2 1) (a := 0) (σ' := (1333, lw_LV i, [702], o1.2.1, [], 205, 8956)) ⟨_, rfl, rfl, rfl, rfl⟩ (fun _ => rfl) ?_
  refine lw_cc (kd := 0) R (j := 305) (nb := 44) (ref := 702) (q := rxm_305) [] ⟨_, rfl, rfl, rfl, rfl⟩ rfl rfl rfl (by decide) (lw_rcM h1.1.2.2.1.T) rfl rfl (Or.inl ⟨rfl, ⟨_, rfl, rfl, rfl, rfl⟩⟩) (lw_ordM (C0 := lw_c axc0_305 0) (C1 := lw_c axc1_305 0) (kd := 0) ((H.2.1 _ 305 rxm_305 (axm_305, axc0_305) rfl rfl).2 (Nat.lt_succ_self _) _ List.mem_cons_self) ((H.2.2 _ 305 rxm_305 (axm_305, axc1_305) rfl rfl).2 (Nat.lt_succ_self _) _ List.mem_cons_self) (Or.inl rfl) hv rfl rfl (by decide +kernel) (by decide +kernel) rfl rfl (by decide +kernel) (by decide +kernel) h1.1.2.2.1) (fun o h => ⟨h.1, h.2.1⟩) (fun o2 h2 => ?_)
  obtain ⟨a2, H2, c2⟩ := lw_rnM (j := 305) (q := rxm_305) (vals := []) rfl sg_305 rfl cv_305 hv h1.1.2.2.1.T H1 h2.1.2.2.2 h2.2
  exact lw_goto R ⟨_, rfl, rfl, rfl, rfl⟩ (hN o2.2.1 ⟨h2.1.2.2.1, lw_two hR H2 c1 c2 (fun _ _ _ _ _ _ h => (h.kk (h_T_stuck h a1) (g_M_stuck a2)).1)⟩)
set_option maxHeartbeats 1000000 in
/-- image -/
theorem lw_k40 (R : lw_Rules l cy D (rxl L sx) G) (H : lw_H) (hL : L ≤ 3072) (hsx : ∀ j, sx j < 4294967296) (hi : i + 6 ≤ L) (hJ : lw_JR hp) (hN : ∀ hp', lw_JR hp' → G (1409, lw_LV i, [], hp', [], 205, 8956)) : G (1340, lw_LV i, [], hp, [], 205, 8956) := by
  have hv : ∀ v ∈ ([sx (i + 1)] : List Nat), v < 4294967296 := (fun v hv => by simp only [List.mem_cons, List.not_mem_nil, or_false] at hv; rcases hv with rfl <;> exact hsx _)
  obtain ⟨hJ, hR⟩ := hJ
  refine lw_step R (h := rx_h_ld rx_isR 1 1) (a := 0) (σ' := (1341, lw_LV i, [10], hp, [], 205, 8956)) ⟨_, rfl, rfl, rfl, rfl⟩ (fun _ => rfl) ?_
  refine lw_push R hL (k := 1) (by omega) ⟨_, rfl, rfl, rfl, rfl⟩ ⟨_, rfl, rfl, rfl, rfl⟩ ⟨_, rfl, rfl, rfl, rfl⟩ ⟨_, rfl, rfl, rfl, rfl⟩ ⟨_, rfl, rfl, rfl, rfl⟩ ?_
  refine lw_cc (kd := 0) R (j := 154) (nb := 40) (ref := 10) (q := rxm_154) [sx (i + 1)] ⟨_, rfl, rfl, rfl, rfl⟩ rfl rfl rfl (by decide) (lw_rcT hJ.T) rfl rfl (Or.inl ⟨rfl, ⟨_, rfl, rfl, rfl, rfl⟩⟩) (lw_ordC (C := lw_c axc_154 0) (kd := 0) ((H.1 _ 154 rxm_154 (axm_154, axc_154) rfl rfl).2 (Nat.lt_succ_self _) _ List.mem_cons_self) (Or.inl rfl) hv rfl rfl (by decide +kernel) (by decide +kernel) hJ) (fun o h => ⟨h.1, h.2.1⟩) (fun o1 h1 => ?_)
  obtain ⟨a1, H1, c1⟩ := lw_rnC (j := 154) (q := rxm_154) (vals := [sx (i + 1)]) rfl sg_154 rfl cv_154 hv hJ.T hR h1.1.2.2.2 h1.2
  refine lw_step R (h := rx_h_ld rx_isR 2 1) (a := 0) (σ' := (1351, lw_LV i, [702], o1.2.1, [], 205, 8956)) ⟨_, rfl, rfl, rfl, rfl⟩ (fun _ => rfl) ?_
  refine lw_push R hL (k := 1) (by omega) ⟨_, rfl, rfl, rfl, rfl⟩ ⟨_, rfl, rfl, rfl, rfl⟩ ⟨_, rfl, rfl, rfl, rfl⟩ ⟨_, rfl, rfl, rfl, rfl⟩ ⟨_, rfl, rfl, rfl, rfl⟩ ?_
  refine lw_cc (kd := 0) R (j := 118) (nb := 44) (ref := 702) (q := rxm_118) [sx (i + 1)] ⟨_, rfl, rfl, rfl, rfl⟩ rfl rfl rfl (by decide) (lw_rcM h1.1.2.2.1.T) rfl rfl (Or.inl ⟨rfl, ⟨_, rfl, rfl, rfl, rfl⟩⟩) (lw_ordM (C0 := lw_c axc0_118 0) (C1 := lw_c axc1_118 0) (kd := 0) ((H.2.1 _ 118 rxm_118 (axm_118, axc0_118) rfl rfl).2 (Nat.lt_succ_self _) _ List.mem_cons_self) ((H.2.2 _ 118 rxm_118 (axm_118, axc1_118) rfl rfl).2 (Nat.lt_succ_self _) _ List.mem_cons_self) (Or.inl rfl) hv rfl rfl (by decide +kernel) (by decide +kernel) rfl rfl (by decide +kernel) (by decide +kernel) h1.1.2.2.1) (fun o h => ⟨h.1, h.2.1⟩) (fun o2 h2 => ?_)
  obtain ⟨a2, H2, c2⟩ := lw_rnM (j := 118) (q := rxm_118) (vals := [sx (i + 1)]) rfl sg_118 rfl cv_118 hv h1.1.2.2.1.T H1 h2.1.2.2.2 h2.2
  exact lw_goto R ⟨_, rfl, rfl, rfl, rfl⟩ (hN o2.2.1 ⟨h2.1.2.2.1, lw_two hR H2 c1 c2 (fun _ _ _ _ _ _ h => (o_image (hsx _) h a1 a2).2.1)⟩)
set_option maxHeartbeats 1000000 in
/-- back -/
theorem lw_k41 (R : lw_Rules l cy D (rxl L sx) G) (H : lw_H) (hL : L ≤ 3072) (hsx : ∀ j, sx j < 4294967296) (hi : i + 6 ≤ L) (hJ : lw_JR hp) (hN : ∀ hp', lw_JR hp' → G (1409, lw_LV i, [], hp', [], 205, 8956)) : G (1363, lw_LV i, [], hp, [], 205, 8956) := by
  have hv : ∀ v ∈ ([sx (i + 1)] : List Nat), v < 4294967296 := (fun v hv => by simp only [List.mem_cons, List.not_mem_nil, or_false] at hv; rcases hv with rfl <;> exact hsx _)
  obtain ⟨hJ, hR⟩ := hJ
  refine lw_step R (h := rx_h_ld rx_isR 1 1) (a := 0) (σ' := (1364, lw_LV i, [10], hp, [], 205, 8956)) ⟨_, rfl, rfl, rfl, rfl⟩ (fun _ => rfl) ?_
  refine lw_push R hL (k := 1) (by omega) ⟨_, rfl, rfl, rfl, rfl⟩ ⟨_, rfl, rfl, rfl, rfl⟩ ⟨_, rfl, rfl, rfl, rfl⟩ ⟨_, rfl, rfl, rfl, rfl⟩ ⟨_, rfl, rfl, rfl, rfl⟩ ?_
  refine lw_cc (kd := 0) R (j := 153) (nb := 40) (ref := 10) (q := rxm_153) [sx (i + 1)] ⟨_, rfl, rfl, rfl, rfl⟩ rfl rfl rfl (by decide) (lw_rcT hJ.T) rfl rfl (Or.inl ⟨rfl, ⟨_, rfl, rfl, rfl, rfl⟩⟩) (lw_ordC (C := lw_c axc_153 0) (kd := 0) ((H.1 _ 153 rxm_153 (axm_153, axc_153) rfl rfl).2 (Nat.lt_succ_self _) _ List.mem_cons_self) (Or.inl rfl) hv rfl rfl (by decide +kernel) (by decide +kernel) hJ) (fun o h => ⟨h.1, h.2.1⟩) (fun o1 h1 => ?_)
  obtain ⟨a1, H1, c1⟩ := lw_rnC (j := 153) (q := rxm_153) (vals := [sx (i + 1)]) rfl sg_153 rfl cv_153 hv hJ.T hR h1.1.2.2.2 h1.2
  refine lw_step R (h := rx_h_ld rx_isR 2 1) (a := 0) (σ' := (1374, lw_LV i, [702], o1.2.1, [], 205, 8956)) ⟨_, rfl, rfl, rfl, rfl⟩ (fun _ => rfl) ?_
  refine lw_push R hL (k := 1) (by omega) ⟨_, rfl, rfl, rfl, rfl⟩ ⟨_, rfl, rfl, rfl, rfl⟩ ⟨_, rfl, rfl, rfl, rfl⟩ ⟨_, rfl, rfl, rfl, rfl⟩ ⟨_, rfl, rfl, rfl, rfl⟩ ?_
  refine lw_cc (kd := 0) R (j := 113) (nb := 44) (ref := 702) (q := rxm_113) [sx (i + 1)] ⟨_, rfl, rfl, rfl, rfl⟩ rfl rfl rfl (by decide) (lw_rcM h1.1.2.2.1.T) rfl rfl (Or.inl ⟨rfl, ⟨_, rfl, rfl, rfl, rfl⟩⟩) (lw_ordM (C0 := lw_c axc0_113 0) (C1 := lw_c axc1_113 0) (kd := 0) ((H.2.1 _ 113 rxm_113 (axm_113, axc0_113) rfl rfl).2 (Nat.lt_succ_self _) _ List.mem_cons_self) ((H.2.2 _ 113 rxm_113 (axm_113, axc1_113) rfl rfl).2 (Nat.lt_succ_self _) _ List.mem_cons_self) (Or.inl rfl) hv rfl rfl (by decide +kernel) (by decide +kernel) rfl rfl (by decide +kernel) (by decide +kernel) h1.1.2.2.1) (fun o h => ⟨h.1, h.2.1⟩) (fun o2 h2 => ?_)
  obtain ⟨a2, H2, c2⟩ := lw_rnM (j := 113) (q := rxm_113) (vals := [sx (i + 1)]) rfl sg_113 rfl cv_113 hv h1.1.2.2.1.T H1 h2.1.2.2.2 h2.2
  exact lw_goto R ⟨_, rfl, rfl, rfl, rfl⟩ (hN o2.2.1 ⟨h2.1.2.2.1, lw_two hR H2 c1 c2 (fun _ _ _ _ _ _ h => (o_back (hsx _) h a1 a2).2.1)⟩)
set_option maxHeartbeats 1000000 in
/-- about -/
theorem lw_k42 (R : lw_Rules l cy D (rxl L sx) G) (H : lw_H) (hL : L ≤ 3072) (hsx : ∀ j, sx j < 4294967296) (hi : i + 6 ≤ L) (hJ : lw_JR hp) (hN : ∀ hp', lw_JR hp' → G (1409, lw_LV i, [], hp', [], 205, 8956)) : G (1386, lw_LV i, [], hp, [], 205, 8956) := by
  have hv : ∀ v ∈ ([sx (i + 1)] : List Nat), v < 4294967296 := (fun v hv => by simp only [List.mem_cons, List.not_mem_nil, or_false] at hv; rcases hv with rfl <;> exact hsx _)
  obtain ⟨hJ, hR⟩ := hJ
  refine lw_step R (h := rx_h_ld rx_isR 1 1) (a := 0) (σ' := (1387, lw_LV i, [10], hp, [], 205, 8956)) ⟨_, rfl, rfl, rfl, rfl⟩ (fun _ => rfl) ?_
  refine lw_push R hL (k := 1) (by omega) ⟨_, rfl, rfl, rfl, rfl⟩ ⟨_, rfl, rfl, rfl, rfl⟩ ⟨_, rfl, rfl, rfl, rfl⟩ ⟨_, rfl, rfl, rfl, rfl⟩ ⟨_, rfl, rfl, rfl, rfl⟩ ?_
  refine lw_cc (kd := 0) R (j := 108) (nb := 40) (ref := 10) (q := rxm_108) [sx (i + 1)] ⟨_, rfl, rfl, rfl, rfl⟩ rfl rfl rfl (by decide) (lw_rcT hJ.T) rfl rfl (Or.inl ⟨rfl, ⟨_, rfl, rfl, rfl, rfl⟩⟩) (lw_ordC (C := lw_c axc_108 0) (kd := 0) ((H.1 _ 108 rxm_108 (axm_108, axc_108) rfl rfl).2 (Nat.lt_succ_self _) _ List.mem_cons_self) (Or.inl rfl) hv rfl rfl (by decide +kernel) (by decide +kernel) hJ) (fun o h => ⟨h.1, h.2.1⟩) (fun o1 h1 => ?_)
  obtain ⟨a1, H1, c1⟩ := lw_rnC (j := 108) (q := rxm_108) (vals := [sx (i + 1)]) rfl sg_108 rfl cv_108 hv hJ.T hR h1.1.2.2.2 h1.2
  refine lw_step R (h := rx_h_ld rx_isR 2 1) (a := 0) (σ' := (1397, lw_LV i, [702], o1.2.1, [], 205, 8956)) ⟨_, rfl, rfl, rfl, rfl⟩ (fun _ => rfl) ?_
  refine lw_push R hL (k := 1) (by omega) ⟨_, rfl, rfl, rfl, rfl⟩ ⟨_, rfl, rfl, rfl, rfl⟩ ⟨_, rfl, rfl, rfl, rfl⟩ ⟨_, rfl, rfl, rfl, rfl⟩ ⟨_, rfl, rfl, rfl, rfl⟩ ?_
  refine lw_cc (kd := 0) R (j := 157) (nb := 44) (ref := 702) (q := rxm_157) [sx (i + 1)] ⟨_, rfl, rfl, rfl, rfl⟩ rfl rfl rfl (by decide) (lw_rcM h1.1.2.2.1.T) rfl rfl (Or.inl ⟨rfl, ⟨_, rfl, rfl, rfl, rfl⟩⟩) (lw_ordM (C0 := lw_c axc0_157 0) (C1 := lw_c axc1_157 0) (kd := 0) ((H.2.1 _ 157 rxm_157 (axm_157, axc0_157) rfl rfl).2 (Nat.lt_succ_self _) _ List.mem_cons_self) ((H.2.2 _ 157 rxm_157 (axm_157, axc1_157) rfl rfl).2 (Nat.lt_succ_self _) _ List.mem_cons_self) (Or.inl rfl) hv rfl rfl (by decide +kernel) (by decide +kernel) rfl rfl (by decide +kernel) (by decide +kernel) h1.1.2.2.1) (fun o h => ⟨h.1, h.2.1⟩) (fun o2 h2 => ?_)
  obtain ⟨a2, H2, c2⟩ := lw_rnM (j := 157) (q := rxm_157) (vals := [sx (i + 1)]) rfl sg_157 rfl cv_157 hv h1.1.2.2.1.T H1 h2.1.2.2.2 h2.2
  exact lw_goto R ⟨_, rfl, rfl, rfl, rfl⟩ (hN o2.2.1 ⟨h2.1.2.2.1, lw_two hR H2 c1 c2 (fun _ _ _ _ _ _ h => (h.kk (h.kp.no (w_T_about a1)) (gk.rf.gx (w_M_about a2) (fun q hq => by cases hq) (fun j hj => by cases hj))).1)⟩)
end LWK
end
section
noncomputable def lw_tgs : List Nat := [220, 283, 306, 319, 342, 365, 388, 411, 434, 467, 500, 523, 536, 549, 582, 615, 648, 681, 714, 757, 800, 843, 866, 889, 912, 945, 958, 981, 1014, 1047, 1080, 1103, 1136, 1149, 1182, 1225, 1238, 1281, 1314, 1327, 1340, 1363, 1386]
noncomputable def lw_tg (u : Nat) : Nat := lw_tgs.getD u 1409
section LWL
variable {l : Launch} {cy : Nat → ClassId} {D : va_G} {L : Nat} {sx : Nat → Nat} {G : rx_S → Prop} {hp : rx_H} {i : Nat}
set_option maxHeartbeats 2000000 in
set_option maxRecDepth 20000 in
theorem lw_sw (R : lw_Rules l cy D (rxl L sx) G) {u : Nat} (hu : u < 64) (hG : ∀ t, lw_tg u = t → G (t, lw_LV i, [], hp, [], 205, 8956)) : G (33, lw_LV i, [rx_int u], hp, [], 205, 8956) := by
  have A : lw_at 33 (rx_h_tsw 0 42 #[187, 250, 273, 286, 309, 332, 355, 378, 401, 434, 467, 490, 503, 516, 549, 582, 615, 648, 681, 724, 767, 810, 833, 856, 879, 912, 925, 948, 981, 1014, 1047, 1070, 1103, 1116, 1149, 1192, 1205, 1248, 1281, 1294, 1307, 1330, 1353]) 1409 := ⟨_, rfl, rfl, rfl, rfl⟩
  match u, hu with
  | 0, _ => exact lw_step R A (σ' := (220, lw_LV i, [], hp, [], 205, 8956)) (fun _ => rfl) (hG _ rfl)
  | 1, _ => exact lw_step R A (σ' := (283, lw_LV i, [], hp, [], 205, 8956)) (fun _ => rfl) (hG _ rfl)
  | 2, _ => exact lw_step R A (σ' := (306, lw_LV i, [], hp, [], 205, 8956)) (fun _ => rfl) (hG _ rfl)
  | 3, _ => exact lw_step R A (σ' := (319, lw_LV i, [], hp, [], 205, 8956)) (fun _ => rfl) (hG _ rfl)
  | 4, _ => exact lw_step R A (σ' := (342, lw_LV i, [], hp, [], 205, 8956)) (fun _ => rfl) (hG _ rfl)
  | 5, _ => exact lw_step R A (σ' := (365, lw_LV i, [], hp, [], 205, 8956)) (fun _ => rfl) (hG _ rfl)
  | 6, _ => exact lw_step R A (σ' := (388, lw_LV i, [], hp, [], 205, 8956)) (fun _ => rfl) (hG _ rfl)
  | 7, _ => exact lw_step R A (σ' := (411, lw_LV i, [], hp, [], 205, 8956)) (fun _ => rfl) (hG _ rfl)
  | 8, _ => exact lw_step R A (σ' := (434, lw_LV i, [], hp, [], 205, 8956)) (fun _ => rfl) (hG _ rfl)
  | 9, _ => exact lw_step R A (σ' := (467, lw_LV i, [], hp, [], 205, 8956)) (fun _ => rfl) (hG _ rfl)
  | 10, _ => exact lw_step R A (σ' := (500, lw_LV i, [], hp, [], 205, 8956)) (fun _ => rfl) (hG _ rfl)
  | 11, _ => exact lw_step R A (σ' := (523, lw_LV i, [], hp, [], 205, 8956)) (fun _ => rfl) (hG _ rfl)
  | 12, _ => exact lw_step R A (σ' := (536, lw_LV i, [], hp, [], 205, 8956)) (fun _ => rfl) (hG _ rfl)
  | 13, _ => exact lw_step R A (σ' := (549, lw_LV i, [], hp, [], 205, 8956)) (fun _ => rfl) (hG _ rfl)
  | 14, _ => exact lw_step R A (σ' := (582, lw_LV i, [], hp, [], 205, 8956)) (fun _ => rfl) (hG _ rfl)
  | 15, _ => exact lw_step R A (σ' := (615, lw_LV i, [], hp, [], 205, 8956)) (fun _ => rfl) (hG _ rfl)
  | 16, _ => exact lw_step R A (σ' := (648, lw_LV i, [], hp, [], 205, 8956)) (fun _ => rfl) (hG _ rfl)
  | 17, _ => exact lw_step R A (σ' := (681, lw_LV i, [], hp, [], 205, 8956)) (fun _ => rfl) (hG _ rfl)
  | 18, _ => exact lw_step R A (σ' := (714, lw_LV i, [], hp, [], 205, 8956)) (fun _ => rfl) (hG _ rfl)
  | 19, _ => exact lw_step R A (σ' := (757, lw_LV i, [], hp, [], 205, 8956)) (fun _ => rfl) (hG _ rfl)
  | 20, _ => exact lw_step R A (σ' := (800, lw_LV i, [], hp, [], 205, 8956)) (fun _ => rfl) (hG _ rfl)
  | 21, _ => exact lw_step R A (σ' := (843, lw_LV i, [], hp, [], 205, 8956)) (fun _ => rfl) (hG _ rfl)
  | 22, _ => exact lw_step R A (σ' := (866, lw_LV i, [], hp, [], 205, 8956)) (fun _ => rfl) (hG _ rfl)
  | 23, _ => exact lw_step R A (σ' := (889, lw_LV i, [], hp, [], 205, 8956)) (fun _ => rfl) (hG _ rfl)
  | 24, _ => exact lw_step R A (σ' := (912, lw_LV i, [], hp, [], 205, 8956)) (fun _ => rfl) (hG _ rfl)
  | 25, _ => exact lw_step R A (σ' := (945, lw_LV i, [], hp, [], 205, 8956)) (fun _ => rfl) (hG _ rfl)
  | 26, _ => exact lw_step R A (σ' := (958, lw_LV i, [], hp, [], 205, 8956)) (fun _ => rfl) (hG _ rfl)
  | 27, _ => exact lw_step R A (σ' := (981, lw_LV i, [], hp, [], 205, 8956)) (fun _ => rfl) (hG _ rfl)
  | 28, _ => exact lw_step R A (σ' := (1014, lw_LV i, [], hp, [], 205, 8956)) (fun _ => rfl) (hG _ rfl)
  | 29, _ => exact lw_step R A (σ' := (1047, lw_LV i, [], hp, [], 205, 8956)) (fun _ => rfl) (hG _ rfl)
  | 30, _ => exact lw_step R A (σ' := (1080, lw_LV i, [], hp, [], 205, 8956)) (fun _ => rfl) (hG _ rfl)
  | 31, _ => exact lw_step R A (σ' := (1103, lw_LV i, [], hp, [], 205, 8956)) (fun _ => rfl) (hG _ rfl)
  | 32, _ => exact lw_step R A (σ' := (1136, lw_LV i, [], hp, [], 205, 8956)) (fun _ => rfl) (hG _ rfl)
  | 33, _ => exact lw_step R A (σ' := (1149, lw_LV i, [], hp, [], 205, 8956)) (fun _ => rfl) (hG _ rfl)
  | 34, _ => exact lw_step R A (σ' := (1182, lw_LV i, [], hp, [], 205, 8956)) (fun _ => rfl) (hG _ rfl)
  | 35, _ => exact lw_step R A (σ' := (1225, lw_LV i, [], hp, [], 205, 8956)) (fun _ => rfl) (hG _ rfl)
  | 36, _ => exact lw_step R A (σ' := (1238, lw_LV i, [], hp, [], 205, 8956)) (fun _ => rfl) (hG _ rfl)
  | 37, _ => exact lw_step R A (σ' := (1281, lw_LV i, [], hp, [], 205, 8956)) (fun _ => rfl) (hG _ rfl)
  | 38, _ => exact lw_step R A (σ' := (1314, lw_LV i, [], hp, [], 205, 8956)) (fun _ => rfl) (hG _ rfl)
  | 39, _ => exact lw_step R A (σ' := (1327, lw_LV i, [], hp, [], 205, 8956)) (fun _ => rfl) (hG _ rfl)
  | 40, _ => exact lw_step R A (σ' := (1340, lw_LV i, [], hp, [], 205, 8956)) (fun _ => rfl) (hG _ rfl)
  | 41, _ => exact lw_step R A (σ' := (1363, lw_LV i, [], hp, [], 205, 8956)) (fun _ => rfl) (hG _ rfl)
  | 42, _ => exact lw_step R A (σ' := (1386, lw_LV i, [], hp, [], 205, 8956)) (fun _ => rfl) (hG _ rfl)
  | 43, _ => exact lw_step R A (σ' := (1409, lw_LV i, [], hp, [], 205, 8956)) (fun _ => rfl) (hG _ rfl)
  | 44, _ => exact lw_step R A (σ' := (1409, lw_LV i, [], hp, [], 205, 8956)) (fun _ => rfl) (hG _ rfl)
  | 45, _ => exact lw_step R A (σ' := (1409, lw_LV i, [], hp, [], 205, 8956)) (fun _ => rfl) (hG _ rfl)
  | 46, _ => exact lw_step R A (σ' := (1409, lw_LV i, [], hp, [], 205, 8956)) (fun _ => rfl) (hG _ rfl)
  | 47, _ => exact lw_step R A (σ' := (1409, lw_LV i, [], hp, [], 205, 8956)) (fun _ => rfl) (hG _ rfl)
  | 48, _ => exact lw_step R A (σ' := (1409, lw_LV i, [], hp, [], 205, 8956)) (fun _ => rfl) (hG _ rfl)
  | 49, _ => exact lw_step R A (σ' := (1409, lw_LV i, [], hp, [], 205, 8956)) (fun _ => rfl) (hG _ rfl)
  | 50, _ => exact lw_step R A (σ' := (1409, lw_LV i, [], hp, [], 205, 8956)) (fun _ => rfl) (hG _ rfl)
  | 51, _ => exact lw_step R A (σ' := (1409, lw_LV i, [], hp, [], 205, 8956)) (fun _ => rfl) (hG _ rfl)
  | 52, _ => exact lw_step R A (σ' := (1409, lw_LV i, [], hp, [], 205, 8956)) (fun _ => rfl) (hG _ rfl)
  | 53, _ => exact lw_step R A (σ' := (1409, lw_LV i, [], hp, [], 205, 8956)) (fun _ => rfl) (hG _ rfl)
  | 54, _ => exact lw_step R A (σ' := (1409, lw_LV i, [], hp, [], 205, 8956)) (fun _ => rfl) (hG _ rfl)
  | 55, _ => exact lw_step R A (σ' := (1409, lw_LV i, [], hp, [], 205, 8956)) (fun _ => rfl) (hG _ rfl)
  | 56, _ => exact lw_step R A (σ' := (1409, lw_LV i, [], hp, [], 205, 8956)) (fun _ => rfl) (hG _ rfl)
  | 57, _ => exact lw_step R A (σ' := (1409, lw_LV i, [], hp, [], 205, 8956)) (fun _ => rfl) (hG _ rfl)
  | 58, _ => exact lw_step R A (σ' := (1409, lw_LV i, [], hp, [], 205, 8956)) (fun _ => rfl) (hG _ rfl)
  | 59, _ => exact lw_step R A (σ' := (1409, lw_LV i, [], hp, [], 205, 8956)) (fun _ => rfl) (hG _ rfl)
  | 60, _ => exact lw_step R A (σ' := (1409, lw_LV i, [], hp, [], 205, 8956)) (fun _ => rfl) (hG _ rfl)
  | 61, _ => exact lw_step R A (σ' := (1409, lw_LV i, [], hp, [], 205, 8956)) (fun _ => rfl) (hG _ rfl)
  | 62, _ => exact lw_step R A (σ' := (1409, lw_LV i, [], hp, [], 205, 8956)) (fun _ => rfl) (hG _ rfl)
  | 63, _ => exact lw_step R A (σ' := (1409, lw_LV i, [], hp, [], 205, 8956)) (fun _ => rfl) (hG _ rfl)
  | _ + 64, h => exact absurd h (by omega)
theorem lw_head (R : lw_Rules l cy D (rxl L sx) G) (hL : L ≤ 3072) (hi : i ≤ 3072) (hG : i + 6 ≤ L → G (27, lw_LV i, [], hp, [], 205, 8956)) : G (18, lw_LV i, [], hp, [], 205, 8956) := by
  refine lw_iload R ⟨_, rfl, rfl, rfl, rfl⟩ ?_
  refine lw_step R (pc := 19) (h := rx_h_ld rx_isR 0 1) (a := 0) (σ' := (20, lw_LV i, [6, rx_int i], hp, [], 205, 8956)) ⟨_, rfl, rfl, rfl, rfl⟩ (fun _ => rfl) ?_
  refine lw_step R (h := rx_h_alen) (a := 0) (σ' := (21, lw_LV i, [rx_int L, rx_int i], hp, [], 205, 8956)) ⟨_, rfl, rfl, rfl, rfl⟩ (fun _ => ?_) ?_
  · show (bif Nat.blt 0 (L + 1) then some [(21, lw_LV i, [rx_int (Nat.pred (L + 1)), rx_int i], hp, [], 205, 8956)] else none) = _
    rw [show Nat.blt 0 (L + 1) = true from rx_blt.mpr (Nat.succ_pos L)]
    rfl
  refine lw_step R (h := rx_h_psh 2) (a := 6) (σ' := (23, lw_LV i, [rx_int 6, rx_int L, rx_int i], hp, [], 205, 8956)) ⟨_, rfl, rfl, rfl, rfl⟩ (fun _ => rfl) ?_
  refine lw_step R (h := rx_h_ar rx_f_sub rx_g32) (a := 0) (σ' := (24, lw_LV i, [rx_int ((L + 4294967290) % 4294967296), rx_int i], hp, [], 205, 8956)) ⟨_, rfl, rfl, rfl, rfl⟩ (fun _ => lw_ar rfl) ?_
  have hb : rx_bi ((L + 4294967290) % 4294967296) = L + 2147483642 := by
    show ((L + 4294967290) % 4294967296 + 2147483648) % 4294967296 = _
    omega
  refine lw_cmp R (k := .gt) (lw_int4 _) (lw_int4 _) ⟨_, rfl, rfl, rfl, rfl⟩ (fun _ => ?_) (fun z => hG ?_)
  · refine lw_step R (pc := 1415) (h := rx_h_psh 1) (a := 1) (σ' := (1416, lw_LV i, [4], hp, [], 205, 8956)) ⟨_, rfl, rfl, rfl, rfl⟩ (fun _ => rfl) ?_
    refine R.1 1 _ [(4, hp, [])] ?_ (fun o ho => by rw [List.mem_singleton.mp ho])
    obtain ⟨x, x1, x2⟩ : ∃ x : rx_E, rx_look (rx_cd rxm_332) 1416 = some x ∧ x.2.1 = 1 := ⟨_, rfl, rfl⟩
    show rx_go rx_P (rx_DF, rx_FK) (rx_run rx_P (rx_DF, rx_FK) 0) (rx_run rx_P (rx_DF, rx_FK) 0) (fun o => some [o]) (rxl L sx) (1416, lw_LV i, [4], hp, [], 205, 8956) = _
    unfold rx_go
    dsimp only
    rw [show rx_look (rx_cd (rxl L sx)) 1416 = some x from x1]
    dsimp only
    unfold rx_do
    rw [x2]
    show rx_out (fun o => some [o]) (rx_iret (rx_n (rxl L sx)) [4] hp [] 205 8956) = _
    rfl
  · have z : ¬ (rx_bi (rx_pl (rx_int ((L + 4294967290) % 4294967296))) < rx_bi (rx_pl (rx_int i))) := z
    rw [lw_pl, lw_pl, hb, lw_bi (by omega)] at z
    omega
theorem lw_case (R : lw_Rules l cy D (rxl L sx) G) (H : lw_H) (hL : L ≤ 3072) (hsx : ∀ j, sx j < 4294967296) (hi : i + 6 ≤ L) (hJ : lw_JR hp) (hN : ∀ hp', lw_JR hp' → G (1409, lw_LV i, [], hp', [], 205, 8956)) : ∀ u, u < 64 → G (lw_tg u, lw_LV i, [], hp, [], 205, 8956) := by
  intro u hu
  match u, hu with
  | 0, _ => exact lw_k0 R H hL hsx hi hJ hN
  | 1, _ => exact lw_k1 R H hL hsx hi hJ hN
  | 2, _ => exact lw_k2 R H hL hsx hi hJ hN
  | 3, _ => exact lw_k3 R H hL hsx hi hJ hN
  | 4, _ => exact lw_k4 R H hL hsx hi hJ hN
  | 5, _ => exact lw_k5 R H hL hsx hi hJ hN
  | 6, _ => exact lw_k6 R H hL hsx hi hJ hN
  | 7, _ => exact lw_k7 R H hL hsx hi hJ hN
  | 8, _ => exact lw_k8 R H hL hsx hi hJ hN
  | 9, _ => exact lw_k9 R H hL hsx hi hJ hN
  | 10, _ => exact lw_k10 R H hL hsx hi hJ hN
  | 11, _ => exact lw_k11 R H hL hsx hi hJ hN
  | 12, _ => exact lw_k12 R H hL hsx hi hJ hN
  | 13, _ => exact lw_k13 R H hL hsx hi hJ hN
  | 14, _ => exact lw_k14 R H hL hsx hi hJ hN
  | 15, _ => exact lw_k15 R H hL hsx hi hJ hN
  | 16, _ => exact lw_k16 R H hL hsx hi hJ hN
  | 17, _ => exact lw_k17 R H hL hsx hi hJ hN
  | 18, _ => exact lw_k18 R H hL hsx hi hJ hN
  | 19, _ => exact lw_k19 R H hL hsx hi hJ hN
  | 20, _ => exact lw_k20 R H hL hsx hi hJ hN
  | 21, _ => exact lw_k21 R H hL hsx hi hJ hN
  | 22, _ => exact lw_k22 R H hL hsx hi hJ hN
  | 23, _ => exact lw_k23 R H hL hsx hi hJ hN
  | 24, _ => exact lw_k24 R H hL hsx hi hJ hN
  | 25, _ => exact lw_k25 R H hL hsx hi hJ hN
  | 26, _ => exact lw_k26 R H hL hsx hi hJ hN
  | 27, _ => exact lw_k27 R H hL hsx hi hJ hN
  | 28, _ => exact lw_k28 R H hL hsx hi hJ hN
  | 29, _ => exact lw_k29 R H hL hsx hi hJ hN
  | 30, _ => exact lw_k30 R H hL hsx hi hJ hN
  | 31, _ => exact lw_k31 R H hL hsx hi hJ hN
  | 32, _ => exact lw_k32 R H hL hsx hi hJ hN
  | 33, _ => exact lw_k33 R H hL hsx hi hJ hN
  | 34, _ => exact lw_k34 R H hL hsx hi hJ hN
  | 35, _ => exact lw_k35 R H hL hsx hi hJ hN
  | 36, _ => exact lw_k36 R H hL hsx hi hJ hN
  | 37, _ => exact lw_k37 R H hL hsx hi hJ hN
  | 38, _ => exact lw_k38 R H hL hsx hi hJ hN
  | 39, _ => exact lw_k39 R H hL hsx hi hJ hN
  | 40, _ => exact lw_k40 R H hL hsx hi hJ hN
  | 41, _ => exact lw_k41 R H hL hsx hi hJ hN
  | 42, _ => exact lw_k42 R H hL hsx hi hJ hN
  | 43, _ => exact hN hp hJ
  | 44, _ => exact hN hp hJ
  | 45, _ => exact hN hp hJ
  | 46, _ => exact hN hp hJ
  | 47, _ => exact hN hp hJ
  | 48, _ => exact hN hp hJ
  | 49, _ => exact hN hp hJ
  | 50, _ => exact hN hp hJ
  | 51, _ => exact hN hp hJ
  | 52, _ => exact hN hp hJ
  | 53, _ => exact hN hp hJ
  | 54, _ => exact hN hp hJ
  | 55, _ => exact hN hp hJ
  | 56, _ => exact hN hp hJ
  | 57, _ => exact hN hp hJ
  | 58, _ => exact hN hp hJ
  | 59, _ => exact hN hp hJ
  | 60, _ => exact hN hp hJ
  | 61, _ => exact hN hp hJ
  | 62, _ => exact hN hp hJ
  | 63, _ => exact hN hp hJ
  | _ + 64, h => exact absurd h (by omega)
/-- one call of the script -/
theorem lw_iter (R : lw_Rules l cy D (rxl L sx) G) (H : lw_H) (hL : L ≤ 3072) (hsx : ∀ j, sx j < 4294967296) (hi : i + 6 ≤ L) (hJ : lw_JR hp) (hN : ∀ hp', lw_JR hp' → G (18, lw_LV (i + 6), [], hp', [], 205, 8956)) : G (27, lw_LV i, [], hp, [], 205, 8956) := by
  refine lw_step R (h := rx_h_ld rx_isR 0 1) (a := 0) (σ' := (28, lw_LV i, [6], hp, [], 205, 8956)) ⟨_, rfl, rfl, rfl, rfl⟩ (fun _ => rfl) ?_
  refine lw_iload R ⟨_, rfl, rfl, rfl, rfl⟩ ?_
  refine lw_scr R (pc := 29) (j := i) (by omega) ⟨_, rfl, rfl, rfl, rfl⟩ ?_
  refine lw_step R (pc := 30) (h := rx_h_psh 2) (a := 63) (σ' := (32, lw_LV i, [rx_int 63, rx_int (sx i)], hp, [], 205, 8956)) ⟨_, rfl, rfl, rfl, rfl⟩ (fun _ => rfl) ?_
  refine lw_step R (h := rx_h_ar rx_f_and rx_gand) (a := 0) (σ' := (33, lw_LV i, [rx_int (Nat.mod (Nat.land (sx i) 63) 4294967296)], hp, [], 205, 8956)) ⟨_, rfl, rfl, rfl, rfl⟩ (fun _ => lw_ar rfl) ?_
  have hu : Nat.mod (Nat.land (sx i) 63) 4294967296 < 64 := by
    have h1 : sx i &&& 63 ≤ 63 := Nat.and_le_right
    show (sx i &&& 63) % 4294967296 < 64
    omega
  refine lw_sw R hu (fun t ht => ?_)
  rw [← ht]
  refine lw_case R H hL hsx hi hJ (fun h1 hJ1 => ?_) _ hu
  refine lw_step R (h := rx_h_inc 3) (a := 6) (σ' := (1412, lw_LV (i + 6), [], h1, [], 205, 8956)) ⟨_, rfl, rfl, rfl, rfl⟩ (fun _ => ?_) ?_
  · show (bif Nat.beq (rx_tk (rx_int i)) 0 && true then some [(1412, rx_put (lw_LV i) 3 (rx_int (Nat.mod (Nat.add (rx_pl (rx_int i)) 6) 4294967296)), [], h1, [], 205, 8956)] else none) = _
    rw [lw_tk, lw_pl, show Nat.mod (Nat.add i 6) 4294967296 = i + 6 from Nat.mod_eq_of_lt (by show i + 6 < _; omega)]
    rfl
  exact lw_goto R ⟨_, rfl, rfl, rfl, rfl⟩ (hN h1 hJ1)
theorem lw_loop (R : lw_Rules l cy D (rxl L sx) G) (H : lw_H) (hL : L ≤ 3072) (hsx : ∀ j, sx j < 4294967296) : ∀ (N i : Nat) (hp : rx_H), i ≤ 3072 → L < i + N → lw_JR hp → G (18, lw_LV i, [], hp, [], 205, 8956) := by
  intro N
  induction N with
  | zero =>
    intro i hp hi hN hJ
    exact lw_head R hL hi (fun h => absurd h (by omega))
  | succ N ih =>
    intro i hp hi hN hJ
    exact lw_head R hL hi (fun h => lw_iter R H hL hsx h hJ (fun h1 hJ1 => ih (i + 6) h1 (by omega) (by omega) hJ1))
end LWL
/-- THE LAW ENDS WITH TRUE -/
theorem lw_main {l : Launch} {L : Nat} {xs : Nat → Int32} (hL : L ≤ 3072) (cy : Nat → ClassId) (D : va_G) (G : rx_S → Prop) (R : lw_Rules l cy D (rxl L (fun j => rx_i32 (xs j))) G) : G rx_s0 :=
  lw_begin R (fun hp hJ => lw_loop R ⟨axL_C rxP_ok, axL_M0 rxP_ok, axL_M1 rxP_ok⟩ hL (fun j => (xs j).toBitVec.isLt) (L + 1) 0 hp (Nat.zero_le _) (by omega) hJ)
end
