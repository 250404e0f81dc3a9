/-! fault -/
noncomputable def lw_fv (x y : Option Nat) (a : Nat) : Nat := if a = 0 then x.getD 0 else if a = 1 then y.getD 0 else 17179869180
section LWF
variable {l : Launch} {cy : Nat → ClassId} {D : va_G} {hp : rx_H} {b : Nat} {wM : ax_W}
theorem lw_neg {w : ax_W} {a : Nat} (hv : a < 4294967296) (h : 2147483648 ≤ a) : ax_ok w (0, 0, 2147483647) (rx_int a) := by
  refine Or.inl ⟨rfl, lw_int4 a, by show rx_pl (rx_int a) < _; rw [lw_pl]; exact hv, Nat.zero_le _, ?_⟩
  show rx_bi (rx_pl (rx_int a)) ≤ _
  rw [lw_pl, lw_biN h hv]
  show a - 2147483648 ≤ 2147483647
  omega
theorem lw_EO1 {w : ax_W} {X : ax_X} {hp : rx_H} {x : Nat} {t : ax_Y} {fs : List (Nat × Nat × Nat)} {xf : List ax_N} (ht : ax_ok w t x) (hf : ∀ f ∈ fs, ax_FO 1 (lw_ro [x]) hp f) (hN : ∀ y ∈ xf, ax_NO X 1 (lw_ro [x]) hp y) : ax_EO w X (lw_ro [x]) (1, [t], fs, [], xf) hp :=
  lw_EOl (vs := [x]) (ts := [t]) rfl (fun k u hu => by
    match k, hu with
    | 0, hu => cases hu; exact ht
    | k + 1, hu => cases hu) hf hN
theorem lw_any_ok {w : ax_W} {x lo hi : Nat} (h : x % 4 = 0 ∧ x / 4 < 4294967296 ∧ lo ≤ rx_bi (x / 4) ∧ rx_bi (x / 4) ≤ hi) : ax_ok w lw_any x := by
  refine Or.inl ⟨rfl, h.1, h.2.1, Nat.zero_le _, ?_⟩
  show (x / 4 + 2147483648) % 4294967296 ≤ 4294967295
  omega
set_option maxHeartbeats 1000000 in
theorem lw_faultC (hA : ∀ B, ax_Low ax_wC ax_XC rx_P ax_APC l cy D B) (w : lw_W b wM) (hK : lw_K b wM hp) {a : Nat} (hv : a < 4294967296) :
    ax_Wp l cy D rxm_40 (0, rx_args (10 :: [a].map rx_int) (rx_mL (rx_n rxm_40)), [], hp, [], 0, 0) (fun o => o.2.2 = [] ∧ o.1 % 4 = 0 ∧ o.1 = lw_fv (ay_at hp 8 3) (ay_at hp 8 4) a ∧ lw_K b wM o.2.1 ∧ ay_at o.2.1 173 20 = ay_at hp 173 20 ∧ ay_at o.2.1 173 21 = ay_at hp 173 21) := by
  have hL := (hA (rx_rf (rx_n rxm_40) + 1) 40 rxm_40 (axm_40, axc_40) rfl rfl).2 (Nat.lt_succ_self _)
  obtain ⟨hB, hS⟩ := hK
  have hN : ∀ x, ∀ y ∈ ([(0, [80])] : List ax_N), ax_NO ax_XC 1 (lw_ro [x]) hp y := fun x y hy => by
    cases List.mem_singleton.mp hy
    exact lw_NO (by decide) lw_80e hB.2.1
  obtain ⟨u, hu, hu1⟩ := lw_int hB.1 (q := 8) (g := 2) (j := 3) rfl ⟨_, rfl, by decide⟩ rfl
  obtain ⟨v, hv', hv1⟩ := lw_int hB.1 (q := 8) (g := 2) (j := 4) rfl ⟨_, rfl, by decide⟩ rfl
  have fin : ∀ {k : Nat} {o : rx_O}, lw_kC (lw_c axc_40 k).2.1 = true → ax_HT ax_wC o.2.1 → ax_XC 0 [80] o.2.1 → ax_HR ax_wC (lw_c axc_40 k).2.1 hp o.2.1 → lw_K b wM o.2.1 ∧ ay_at o.2.1 173 20 = ay_at hp 173 20 ∧ ay_at o.2.1 173 21 = ay_at hp 173 21 := by
    intro k o m h5 h0 h6
    have m1 := (rx_and2.mp m).1
    obtain ⟨s1, -⟩ := lw_sameM hB.1 h6 m1
    exact ⟨⟨lw_cls w hB h5 h0 h6 m1, lw_SC hS hB.1 h6 m⟩, s1 _, s1 _⟩
  by_cases h0 : a = 0
  · subst h0
    have hE : ax_EO ax_wC ax_XC (lw_ro [u]) (1, [lw_any], [(42, 12, 3)], [], [(0, [80])]) hp := lw_EO1 (lw_any_ok hu1) (fun f hf => by
      cases List.mem_singleton.mp hf
      exact lw_FOc (m := 0) (q := 8) (j := 3) rfl rfl hu (show 0 < 1 by decide) rfl) (hN u)
    refine ax_wp_mono (hL (lw_c axc_40 1) (List.mem_cons_of_mem _ List.mem_cons_self) _ hp _ rfl hE hB.1) (fun o ho => ?_)
    obtain ⟨po, hpo, ρ', r, p1, p2, p3, p4, p5, p6, p7⟩ := ho
    have e := List.mem_singleton.mp (show po ∈ [_] from hpo)
    subst e
    cases p2
    have v0 : o.1 = ρ' 0 := lw_ev_vl p3
    rw [p1 0 (by decide)] at v0
    replace v0 : o.1 = u := v0
    have x0 : ax_XC 0 [80] o.2.1 := lw_gx p4 (by decide) lw_80 List.mem_cons_self
    exact ⟨p7, by rw [v0]; exact hu1.1, by rw [hu]; exact v0, fin (k := 1) (by decide +kernel) p5 x0 p6⟩
  by_cases h1 : a = 1
  · subst h1
    have hE : ax_EO ax_wC ax_XC (lw_ro [v]) (1, [lw_any], [(42, 16, 3)], [], [(0, [80])]) hp := lw_EO1 (lw_any_ok hv1) (fun f hf => by
      cases List.mem_singleton.mp hf
      exact lw_FOc (m := 0) (q := 8) (j := 4) rfl rfl hv' (show 0 < 1 by decide) rfl) (hN v)
    refine ax_wp_mono (hL (lw_c axc_40 2) (List.mem_cons_of_mem _ (List.mem_cons_of_mem _ List.mem_cons_self)) _ hp _ rfl hE hB.1) (fun o ho => ?_)
    obtain ⟨po, hpo, ρ', r, p1, p2, p3, p4, p5, p6, p7⟩ := ho
    have e := List.mem_singleton.mp (show po ∈ [_] from hpo)
    subst e
    cases p2
    have v0 : o.1 = ρ' 0 := lw_ev_vl p3
    rw [p1 0 (by decide)] at v0
    replace v0 : o.1 = v := v0
    have x0 : ax_XC 0 [80] o.2.1 := lw_gx p4 (by decide) lw_80 List.mem_cons_self
    exact ⟨p7, by rw [v0]; exact hv1.1, by rw [hv']; exact v0, fin (k := 2) (by decide +kernel) p5 x0 p6⟩
  have hfv : lw_fv (ay_at hp 8 3) (ay_at hp 8 4) a = 17179869180 := by
    unfold lw_fv
    rw [if_neg h0, if_neg h1]
  by_cases h2 : a < 2147483648
  · refine ax_wp_mono (hL (lw_c axc_40 4) (List.mem_cons_of_mem _ (List.mem_cons_of_mem _ (List.mem_cons_of_mem _ (List.mem_cons_of_mem _ List.mem_cons_self)))) _ hp _ rfl (lw_EO1 (x := rx_int a) (t := (0, 2147483650, 4294967295)) (lw_ok4 (n := a) h2 (by omega) (by omega)) (fun f hf => by cases hf) (hN _)) hB.1) (fun o ho => ?_)
    obtain ⟨po, hpo, ρ', r, p1, p2, p3, p4, p5, p6, p7⟩ := ho
    have e := List.mem_singleton.mp (show po ∈ [_] from hpo)
    subst e
    cases p2
    have v0 := lw_ev_vl p3
    rw [ax_vl_c (by decide)] at v0
    have x0 : ax_XC 0 [80] o.2.1 := lw_gx p4 (by decide) lw_80 List.mem_cons_self
    exact ⟨p7, by rw [v0], by rw [hfv]; exact v0, fin (k := 4) (by decide +kernel) p5 x0 p6⟩
  · refine ax_wp_mono (hL (lw_c axc_40 3) (List.mem_cons_of_mem _ (List.mem_cons_of_mem _ (List.mem_cons_of_mem _ List.mem_cons_self))) _ hp _ rfl (lw_EO1 (x := rx_int a) (t := (0, 0, 2147483647)) (lw_neg hv (by omega)) (fun f hf => by cases hf) (hN _)) hB.1) (fun o ho => ?_)
    obtain ⟨po, hpo, ρ', r, p1, p2, p3, p4, p5, p6, p7⟩ := ho
    have e := List.mem_singleton.mp (show po ∈ [_] from hpo)
    subst e
    cases p2
    have v0 := lw_ev_vl p3
    rw [ax_vl_c (by decide)] at v0
    have x0 : ax_XC 0 [80] o.2.1 := lw_gx p4 (by decide) lw_80 List.mem_cons_self
    exact ⟨p7, by rw [v0], by rw [hfv]; exact v0, fin (k := 3) (by decide +kernel) p5 x0 p6⟩
set_option maxHeartbeats 1000000 in
theorem lw_faultM0 (hA : ∀ B, ax_Low ax_wM0 (ax_XM 0) rx_P ax_APM0 l cy D B) (hK : lw_K 0 ax_wM0 hp) {a : Nat} (hv : a < 4294967296) :
    ax_Wp l cy D rxm_50 (0, rx_args (702 :: [a].map rx_int) (rx_mL (rx_n rxm_50)), [], hp, [], 0, 0) (fun o => o.2.2 = [] ∧ o.1 % 4 = 0 ∧ o.1 = lw_fv (ay_at hp 173 20) (ay_at hp 173 21) a ∧ lw_K 0 ax_wM0 o.2.1) := by
  have hL := (hA (rx_rf (rx_n rxm_50) + 1) 50 rxm_50 (axm_50, axc0_50) rfl rfl).2 (Nat.lt_succ_self _)
  obtain ⟨hB, hS⟩ := hK
  have hN : ∀ x, ∀ y ∈ lw_GL, ax_NO (ax_XM 0) 1 (lw_ro [x]) hp y := fun x y hy => lw_NO5 hB.2.2.2 y hy
  obtain ⟨u, hu, hu1⟩ := lw_int hB.2.2.1 (q := 173) (g := 11) (j := 20) rfl ⟨_, rfl, by decide⟩ rfl
  obtain ⟨v, hv', hv1⟩ := lw_int hB.2.2.1 (q := 173) (g := 11) (j := 21) rfl ⟨_, rfl, by decide⟩ rfl
  have fin : ∀ {k : Nat} {o : rx_O}, lw_kM (lw_c axc0_50 k).2.1 = true → ax_HT ax_wM0 o.2.1 → lw_XM5 0 o.2.1 → ax_HR ax_wM0 (lw_c axc0_50 k).2.1 hp o.2.1 → lw_K 0 ax_wM0 o.2.1 := by
    intro k o m h5 h0 h6
    have m1 := (rx_and2.mp m).1
    have h6' : ax_HR ax_wC (lw_c axc0_50 k).2.1 hp o.2.1 := ay_HRw lw_w0.symm h6
    exact ⟨lw_mod lw_W0 hB h5 h0 h6' m1, lw_SM hS hB.1 h6' m⟩
  by_cases h0 : a = 0
  · subst h0
    have hE : ax_EO ax_wM0 (ax_XM 0) (lw_ro [u]) (1, [lw_any], [(702, 80, 3)], [], lw_GL) hp := lw_EO1 (lw_any_ok hu1) (fun f hf => by
      cases List.mem_singleton.mp hf
      exact lw_FOc (m := 0) (q := 173) (j := 20) rfl rfl hu (show 0 < 1 by decide) rfl) (hN u)
    refine ax_wp_mono (hL (lw_c axc0_50 1) (List.mem_cons_of_mem _ List.mem_cons_self) _ hp _ rfl hE hB.2.2.1) (fun o ho => ?_)
    obtain ⟨po, hpo, ρ', r, p1, p2, p3, p4, p5, p6, p7⟩ := ho
    have e := List.mem_singleton.mp (show po ∈ [_] from hpo)
    subst e
    cases p2
    have v0 : o.1 = ρ' 0 := lw_ev_vl p3
    rw [p1 0 (by decide)] at v0
    replace v0 : o.1 = u := v0
    have x0 : lw_XM5 0 o.2.1 := lw_gx5 p4 (fun x hx => hx)
    exact ⟨p7, by rw [v0]; exact hu1.1, by rw [hu]; exact v0, fin (k := 1) (by decide +kernel) p5 x0 p6⟩
  by_cases h1 : a = 1
  · subst h1
    have hE : ax_EO ax_wM0 (ax_XM 0) (lw_ro [v]) (1, [lw_any], [(702, 84, 3)], [], lw_GL) hp := lw_EO1 (lw_any_ok hv1) (fun f hf => by
      cases List.mem_singleton.mp hf
      exact lw_FOc (m := 0) (q := 173) (j := 21) rfl rfl hv' (show 0 < 1 by decide) rfl) (hN v)
    refine ax_wp_mono (hL (lw_c axc0_50 2) (List.mem_cons_of_mem _ (List.mem_cons_of_mem _ List.mem_cons_self)) _ hp _ rfl hE hB.2.2.1) (fun o ho => ?_)
    obtain ⟨po, hpo, ρ', r, p1, p2, p3, p4, p5, p6, p7⟩ := ho
    have e := List.mem_singleton.mp (show po ∈ [_] from hpo)
    subst e
    cases p2
    have v0 : o.1 = ρ' 0 := lw_ev_vl p3
    rw [p1 0 (by decide)] at v0
    replace v0 : o.1 = v := v0
    have x0 : lw_XM5 0 o.2.1 := lw_gx5 p4 (fun x hx => hx)
    exact ⟨p7, by rw [v0]; exact hv1.1, by rw [hv']; exact v0, fin (k := 2) (by decide +kernel) p5 x0 p6⟩
  have hfv : lw_fv (ay_at hp 173 20) (ay_at hp 173 21) a = 17179869180 := by
    unfold lw_fv
    rw [if_neg h0, if_neg h1]
  by_cases h2 : a < 2147483648
  · refine ax_wp_mono (hL (lw_c axc0_50 4) (List.mem_cons_of_mem _ (List.mem_cons_of_mem _ (List.mem_cons_of_mem _ (List.mem_cons_of_mem _ List.mem_cons_self)))) _ hp _ rfl (lw_EO1 (x := rx_int a) (t := (0, 2147483650, 4294967295)) (lw_ok4 (n := a) h2 (by omega) (by omega)) (fun f hf => by cases hf) (hN _)) hB.2.2.1) (fun o ho => ?_)
    obtain ⟨po, hpo, ρ', r, p1, p2, p3, p4, p5, p6, p7⟩ := ho
    have e := List.mem_singleton.mp (show po ∈ [_] from hpo)
    subst e
    cases p2
    have v0 := lw_ev_vl p3
    rw [ax_vl_c (by decide)] at v0
    have x0 : lw_XM5 0 o.2.1 := lw_gx5 p4 (fun x hx => hx)
    exact ⟨p7, by rw [v0], by rw [hfv]; exact v0, fin (k := 4) (by decide +kernel) p5 x0 p6⟩
  · refine ax_wp_mono (hL (lw_c axc0_50 3) (List.mem_cons_of_mem _ (List.mem_cons_of_mem _ (List.mem_cons_of_mem _ List.mem_cons_self))) _ hp _ rfl (lw_EO1 (x := rx_int a) (t := (0, 0, 2147483647)) (lw_neg hv (by omega)) (fun f hf => by cases hf) (hN _)) hB.2.2.1) (fun o ho => ?_)
    obtain ⟨po, hpo, ρ', r, p1, p2, p3, p4, p5, p6, p7⟩ := ho
    have e := List.mem_singleton.mp (show po ∈ [_] from hpo)
    subst e
    cases p2
    have v0 := lw_ev_vl p3
    rw [ax_vl_c (by decide)] at v0
    have x0 : lw_XM5 0 o.2.1 := lw_gx5 p4 (fun x hx => hx)
    exact ⟨p7, by rw [v0], by rw [hfv]; exact v0, fin (k := 3) (by decide +kernel) p5 x0 p6⟩
set_option maxHeartbeats 1000000 in
theorem lw_faultM1 (hA : ∀ B, ax_Low ax_wM1 (ax_XM 1) rx_P ax_APM1 l cy D B) (hK : lw_K 1 ax_wM1 hp) {a : Nat} (hv : a < 4294967296) :
    ax_Wp l cy D rxm_50 (0, rx_args (702 :: [a].map rx_int) (rx_mL (rx_n rxm_50)), [], hp, [], 0, 0) (fun o => o.2.2 = [] ∧ o.1 % 4 = 0 ∧ o.1 = lw_fv (ay_at hp 173 20) (ay_at hp 173 21) a ∧ lw_K 1 ax_wM1 o.2.1) := by
  have hL := (hA (rx_rf (rx_n rxm_50) + 1) 50 rxm_50 (axm_50, axc1_50) rfl rfl).2 (Nat.lt_succ_self _)
  obtain ⟨hB, hS⟩ := hK
  have hN : ∀ x, ∀ y ∈ lw_GL, ax_NO (ax_XM 1) 1 (lw_ro [x]) hp y := fun x y hy => lw_NO5 hB.2.2.2 y hy
  obtain ⟨u, hu, hu1⟩ := lw_int hB.2.2.1 (q := 173) (g := 11) (j := 20) rfl ⟨_, rfl, by decide⟩ rfl
  obtain ⟨v, hv', hv1⟩ := lw_int hB.2.2.1 (q := 173) (g := 11) (j := 21) rfl ⟨_, rfl, by decide⟩ rfl
  have fin : ∀ {k : Nat} {o : rx_O}, lw_kM (lw_c axc1_50 k).2.1 = true → ax_HT ax_wM1 o.2.1 → lw_XM5 1 o.2.1 → ax_HR ax_wM1 (lw_c axc1_50 k).2.1 hp o.2.1 → lw_K 1 ax_wM1 o.2.1 := by
    intro k o m h5 h0 h6
    have m1 := (rx_and2.mp m).1
    have h6' : ax_HR ax_wC (lw_c axc1_50 k).2.1 hp o.2.1 := ay_HRw lw_w1.symm h6
    exact ⟨lw_mod lw_W1 hB h5 h0 h6' m1, lw_SM hS hB.1 h6' m⟩
  by_cases h0 : a = 0
  · subst h0
    have hE : ax_EO ax_wM1 (ax_XM 1) (lw_ro [u]) (1, [lw_any], [(702, 80, 3)], [], lw_GL) hp := lw_EO1 (lw_any_ok hu1) (fun f hf => by
      cases List.mem_singleton.mp hf
      exact lw_FOc (m := 0) (q := 173) (j := 20) rfl rfl hu (show 0 < 1 by decide) rfl) (hN u)
    refine ax_wp_mono (hL (lw_c axc1_50 1) (List.mem_cons_of_mem _ List.mem_cons_self) _ hp _ rfl hE hB.2.2.1) (fun o ho => ?_)
    obtain ⟨po, hpo, ρ', r, p1, p2, p3, p4, p5, p6, p7⟩ := ho
    have e := List.mem_singleton.mp (show po ∈ [_] from hpo)
    subst e
    cases p2
    have v0 : o.1 = ρ' 0 := lw_ev_vl p3
    rw [p1 0 (by decide)] at v0
    replace v0 : o.1 = u := v0
    have x0 : lw_XM5 1 o.2.1 := lw_gx5 p4 (fun x hx => hx)
    exact ⟨p7, by rw [v0]; exact hu1.1, by rw [hu]; exact v0, fin (k := 1) (by decide +kernel) p5 x0 p6⟩
  by_cases h1 : a = 1
  · subst h1
    have hE : ax_EO ax_wM1 (ax_XM 1) (lw_ro [v]) (1, [lw_any], [(702, 84, 3)], [], lw_GL) hp := lw_EO1 (lw_any_ok hv1) (fun f hf => by
      cases List.mem_singleton.mp hf
      exact lw_FOc (m := 0) (q := 173) (j := 21) rfl rfl hv' (show 0 < 1 by decide) rfl) (hN v)
    refine ax_wp_mono (hL (lw_c axc1_50 2) (List.mem_cons_of_mem _ (List.mem_cons_of_mem _ List.mem_cons_self)) _ hp _ rfl hE hB.2.2.1) (fun o ho => ?_)
    obtain ⟨po, hpo, ρ', r, p1, p2, p3, p4, p5, p6, p7⟩ := ho
    have e := List.mem_singleton.mp (show po ∈ [_] from hpo)
    subst e
    cases p2
    have v0 : o.1 = ρ' 0 := lw_ev_vl p3
    rw [p1 0 (by decide)] at v0
    replace v0 : o.1 = v := v0
    have x0 : lw_XM5 1 o.2.1 := lw_gx5 p4 (fun x hx => hx)
    exact ⟨p7, by rw [v0]; exact hv1.1, by rw [hv']; exact v0, fin (k := 2) (by decide +kernel) p5 x0 p6⟩
  have hfv : lw_fv (ay_at hp 173 20) (ay_at hp 173 21) a = 17179869180 := by
    unfold lw_fv
    rw [if_neg h0, if_neg h1]
  by_cases h2 : a < 2147483648
  · refine ax_wp_mono (hL (lw_c axc1_50 4) (List.mem_cons_of_mem _ (List.mem_cons_of_mem _ (List.mem_cons_of_mem _ (List.mem_cons_of_mem _ List.mem_cons_self)))) _ hp _ rfl (lw_EO1 (x := rx_int a) (t := (0, 2147483650, 4294967295)) (lw_ok4 (n := a) h2 (by omega) (by omega)) (fun f hf => by cases hf) (hN _)) hB.2.2.1) (fun o ho => ?_)
    obtain ⟨po, hpo, ρ', r, p1, p2, p3, p4, p5, p6, p7⟩ := ho
    have e := List.mem_singleton.mp (show po ∈ [_] from hpo)
    subst e
    cases p2
    have v0 := lw_ev_vl p3
    rw [ax_vl_c (by decide)] at v0
    have x0 : lw_XM5 1 o.2.1 := lw_gx5 p4 (fun x hx => hx)
    exact ⟨p7, by rw [v0], by rw [hfv]; exact v0, fin (k := 4) (by decide +kernel) p5 x0 p6⟩
  · refine ax_wp_mono (hL (lw_c axc1_50 3) (List.mem_cons_of_mem _ (List.mem_cons_of_mem _ (List.mem_cons_of_mem _ List.mem_cons_self))) _ hp _ rfl (lw_EO1 (x := rx_int a) (t := (0, 0, 2147483647)) (lw_neg hv (by omega)) (fun f hf => by cases hf) (hN _)) hB.2.2.1) (fun o ho => ?_)
    obtain ⟨po, hpo, ρ', r, p1, p2, p3, p4, p5, p6, p7⟩ := ho
    have e := List.mem_singleton.mp (show po ∈ [_] from hpo)
    subst e
    cases p2
    have v0 := lw_ev_vl p3
    rw [ax_vl_c (by decide)] at v0
    have x0 : lw_XM5 1 o.2.1 := lw_gx5 p4 (fun x hx => hx)
    exact ⟨p7, by rw [v0], by rw [hfv]; exact v0, fin (k := 3) (by decide +kernel) p5 x0 p6⟩

end LWF
