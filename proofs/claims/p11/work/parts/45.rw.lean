section AXW
variable {w : ax_W} {X : ax_X} {ρ : Nat → Nat} {E : ax_E} {hp : rx_H}
theorem ax_addF_ok (hE : ax_EO w X ρ E hp) {f : Nat × Nat × Nat} (hf : ax_FO E.1 ρ hp f) : ax_EO w X ρ (ax_addF E f) hp :=
  ⟨hE.1, hE.2.1, fun g hg => by
    rcases List.mem_cons.mp hg with rfl | hg
    · exact hf
    · exact hE.2.2.1 g hg, hE.2.2.2⟩
theorem ax_addD_ok (hE : ax_EO w X ρ E hp) {d : Nat × Nat × Nat} (hd : ax_DO E.1 ρ d) : ax_EO w X ρ (ax_addD E d) hp :=
  ⟨hE.1, hE.2.1, hE.2.2.1, fun g hg => by
    rcases List.mem_cons.mp hg with rfl | hg
    · exact hd
    · exact hE.2.2.2.1 g hg, hE.2.2.2.2⟩
theorem ax_addX_ok (hE : ax_EO w X ρ E hp) {x : ax_N} (hx : ax_NO X E.1 ρ hp x) : ax_EO w X ρ (ax_addX E x) hp :=
  ⟨hE.1, hE.2.1, hE.2.2.1, hE.2.2.2.1, fun g hg => by
    rcases List.mem_cons.mp hg with rfl | hg
    · exact hx
    · exact hE.2.2.2.2 g hg⟩
/-- what is read -/
theorem ax_rd_ok (hE : ax_EO w X ρ E hp) {a i av iv k m v c : Nat} {f : List Nat} {t : Option ax_Y} {E' : ax_E} (ha : ax_ev E.1 ρ a = some av) (hi : ax_ev E.1 ρ i = some iv) (h2 : av % 4 = 2) (h3 : 2 ≤ av / 4) (h4 : iv % 4 = 0) (hg : rx_hg hp (av / 4 - 2) = some (k, m, f)) (hv : f[iv / 4]? = some v) (ht : ∀ y, t = some y → ax_ok w y v)
    (h : ax_rd w E a i t = some (c, E')) : E.1 ≤ E'.1 ∧ ∃ ρ' : Nat → Nat, (∀ k, k < E.1 → ρ' k = ρ k) ∧ ax_EO w X ρ' E' hp ∧ ax_ev E'.1 ρ' c = some v := by
  unfold ax_rd at h
  cases e : ax_get (ax_fs E) a i with
  | some z =>
    rw [e] at h
    cases h
    refine ⟨Nat.le_refl _, ρ, fun _ _ => rfl, hE, ?_⟩
    obtain ⟨a', i', v', k', m', l', g1, g2, g3, g4, g5, g6, g7, g8⟩ := hE.2.2.1 _ (ax_get_ok e)
    cases g1.symm.trans ha
    cases g2.symm.trans hi
    cases g7.symm.trans hg
    cases g8.symm.trans hv
    exact g3
  | none =>
    rw [e] at h
    cases t with
    | none => cases h
    | some y =>
      obtain ⟨n1, ρ', a1, a2, a3⟩ := ax_val_ok hE (ht y rfl)
      cases h
      refine ⟨n1, ρ', a1, ax_addF_ok a2 ⟨av, iv, v, k, m, f, ax_ev_mono n1 a1 ha, ax_ev_mono n1 a1 hi, a3, h2, h3, h4, hg, hv⟩, a3⟩
theorem ax_cst_ev {v x : Nat} (h : ax_cst v = true) (hx : ax_ev E.1 ρ v = some x) : x = v := by
  have h3 : v % 4 ≠ 3 := fun z => by
    unfold ax_cst at h
    rw [show Nat.beq (rx_tk v) 3 = true from rx_beq.mpr z] at h
    cases h
  rw [ax_ev_c h3] at hx
  exact (Option.some.inj hx).symm
theorem ax_apart_ok (hE : ax_EO w X ρ E hp) {a b x y : Nat} (h : ax_apart w E a b = true) (hx : ax_ev E.1 ρ a = some x) (hy : ax_ev E.1 ρ b = some y) (h2 : x % 4 = 2) (h3 : 2 ≤ x / 4) (h4 : y % 4 = 2) (h5 : 2 ≤ y / 4) : x / 4 - 2 ≠ y / 4 - 2 := by
  rcases rx_or2.mp h with h | h
  · obtain ⟨c1, h⟩ := rx_and2.mp h
    obtain ⟨c2, c3⟩ := rx_and2.mp h
    have e1 := ax_cst_ev c1 hx
    have e2 := ax_cst_ev c2 hy
    subst e1
    subst e2
    have : x ≠ y := fun z => by
      rw [z, Nat.beq_refl] at c3
      cases c3
    omega
  · cases g1 : ax_rg w E a with
    | none => rw [g1] at h; cases h
    | some g =>
      cases g2 : ax_rg w E b with
      | none => rw [g1, g2] at h; cases h
      | some g' =>
        rw [g1, g2] at h
        obtain ⟨-, -, -, p1⟩ := ax_rg_ok hE g1 hx
        obtain ⟨-, -, -, p2⟩ := ax_rg_ok hE g2 hy
        intro z
        rw [z] at p1
        cases p1.symm.trans p2
        replace h : (!(Nat.beq g g)) = true := h
        rw [Nat.beq_refl] at h
        cases h
theorem ax_xkill_ok {n : Nat} {xf : List ax_N} {md : List (Nat × Nat)} {hp' : rx_H} (hX : ax_XD w X) (h : ∀ x ∈ xf, ax_NO X n ρ hp x) (hr : ax_HR w md hp hp') : ∀ x ∈ ax_xkill w xf md, ax_NO X n ρ hp' x := by
  intro x hx
  obtain ⟨h1, h2⟩ := List.mem_filter.mp hx
  obtain ⟨vs, g1, g2⟩ := h x h1
  refine ⟨vs, g1, ?_⟩
  unfold ax_XF at g2 ⊢
  rcases rx_or2.mp h2 with h2 | h2
  · obtain ⟨h2, h3⟩ := rx_and2.mp h2
    have h2 : 1000 ≤ x.1 := rx_ble.mp h2
    have h3 : x.1 < 1200 := rx_blt.mp h3
    rw [if_neg (by omega), if_neg (by omega), if_pos h3] at g2 ⊢
    exact g2
  · obtain ⟨h3, h2⟩ := rx_and2.mp h2
    have h3 : x.1 < 500 := rx_blt.mp h3
    rw [if_pos h3] at g2 ⊢
    rw [rx_nth_eq] at h2
    cases e : w.2.2[x.1]? with
    | none => rw [e] at h2; cases h2
    | some dl =>
      rw [e] at h2
      exact hX x.1 vs dl md hp hp' e h2 hr g2
theorem ax_wx_ok {n : Nat} {a i v av iv vv : Nat} (ha : ax_ev n ρ a = some av) (hi : ax_ev n ρ i = some iv) (hv : ax_ev n ρ v = some vv) : ∀ {xf : List ax_N}, (∀ x ∈ xf, ax_NO X n ρ hp x) → ∀ x ∈ ax_wx xf a i v, ax_NO X n ρ (ax_upd hp av iv vv) x
  | [], _, x, hx => by cases hx
  | y :: xf, h, x, hx => by
    replace hx : x ∈ ax_wx1 a i v y ++ ax_wx xf a i v := hx
    rcases List.mem_append.mp hx with hx | hx
    · obtain ⟨vs, g1, g2⟩ := h y List.mem_cons_self
      unfold ax_wx1 at hx
      cases hc : (Nat.ble 500 y.1 && Nat.blt y.1 1000) with
      | false => rw [hc] at hx; cases hx
      | true =>
        rw [hc, cond_true] at hx
        obtain ⟨c1, c2⟩ := rx_and2.mp hc
        have c1 : 500 ≤ y.1 := rx_ble.mp c1
        have c2 : y.1 < 1000 := rx_blt.mp c2
        match hy : y.2, hx, g1 with
        | [], hx, _ => cases hx
        | [_], hx, _ => cases hx
        | [_, _], hx, _ => cases hx
        | b :: j :: u :: r, hx, g1 =>
          dsimp only at hx
          cases hd : (Nat.beq a b && (Nat.beq i j && Nat.beq v u)) with
          | false => rw [hd] at hx; cases hx
          | true =>
            rw [hd, cond_true] at hx
            have hx := List.mem_singleton.mp hx
            subst hx
            obtain ⟨d1, hd⟩ := rx_and2.mp hd
            obtain ⟨d2, d3⟩ := rx_and2.mp hd
            have d1 := rx_beq.mp d1
            have d2 := rx_beq.mp d2
            have d3 := rx_beq.mp d3
            subst d1 d2 d3
            obtain ⟨x1, r1, e1, k1, q1⟩ := ax_evs_cons g1
            obtain ⟨x2, r2, e2, k2, q2⟩ := ax_evs_cons q1
            obtain ⟨x3, r3, e3, k3, q3⟩ := ax_evs_cons q2
            subst e3 e2 e1
            cases k1.symm.trans ha
            cases k2.symm.trans hi
            cases k3.symm.trans hv
            refine ⟨r3, q3, ?_⟩
            unfold ax_XF at g2 ⊢
            rw [if_neg (by omega), if_pos c2] at g2
            have e5 : y.1 - 500 < 500 := by omega
            have e4 : Nat.sub y.1 500 = y.1 - 500 := rfl
            dsimp only
            rw [e4, if_pos e5]
            exact g2
    · exact ax_wx_ok ha hi hv (fun x hx => h x (List.mem_cons_of_mem _ hx)) x hx
/-- what is written -/
theorem ax_wr_ok (hX : ax_XD w X) (hE : ax_EO w X ρ E hp) (hT : ax_HT w hp) {g a i v av iv vv k n : Nat} {f : List Nat} {l : List (Nat × ax_Y)} (ha : ax_ev E.1 ρ a = some av) (hi : ax_ev E.1 ρ i = some iv) (hv : ax_ev E.1 ρ v = some vv) (h2 : av % 4 = 2) (h3 : 2 ≤ av / 4) (h4 : iv % 4 = 0) (hw : w.1[av / 4 - 2]? = some g) (hr : w.2.1[g]? = some (k, n, l))
    (hg : rx_hg hp (av / 4 - 2) = some (k, n, f)) (hf : f.length = n) (hn : iv / 4 < n) (ht : ∃ s, ax_at l (iv / 4) = some s ∧ ax_ok w s vv) :
    ax_EO w X ρ (ax_wr w E g a i v) (rx_hs hp (av / 4 - 2) (k, n, f.set (iv / 4) vv)) ∧ ax_HT w (rx_hs hp (av / 4 - 2) (k, n, f.set (iv / 4) vv)) ∧ ax_HR w [(g, ax_idx i)] hp (rx_hs hp (av / 4 - 2) (k, n, f.set (iv / 4) vv)) := by
  have hq : av / 4 - 2 < hp.1 := rx_hg_lt hg
  have hgs : ∀ q', rx_hg (rx_hs hp (av / 4 - 2) (k, n, f.set (iv / 4) vv)) q' = if q' = av / 4 - 2 then some (k, n, f.set (iv / 4) vv) else rx_hg hp q' := fun q' => rx_hg_hs hT.1 hq
  have hHR : ax_HR w [(g, ax_idx i)] hp (rx_hs hp (av / 4 - 2) (k, n, f.set (iv / 4) vv)) := by
    refine ⟨rfl, fun q g' hq' k' n' l' hl' => ?_⟩
    rw [hgs]
    by_cases e : q = av / 4 - 2
    · subst e
      cases hl'.symm.trans hg
      cases hq'.symm.trans hw
      rw [if_pos rfl]
      refine ⟨_, rfl, fun j hj => ?_⟩
      have hne : iv / 4 ≠ j := fun z => by
        have : ax_mem [(g, ax_idx i)] g j = true := by
          refine List.any_eq_true.mpr ⟨(g, ax_idx i), List.mem_cons_self, rx_and2.mpr ⟨Nat.beq_refl g, ?_⟩⟩
          unfold ax_idx
          cases hc : ax_cst i with
          | true =>
            have := ax_cst_ev hc hi
            subst this
            exact rx_or2.mpr (Or.inl (rx_beq.mpr z))
          | false => exact rx_or2.mpr (Or.inr (Nat.beq_refl 999))
        rw [this] at hj
        cases hj
      exact List.getElem?_set_ne hne
    · rw [if_neg e]
      exact ⟨l', hl', fun _ _ => rfl⟩
  have hup : ax_upd hp av iv vv = rx_hs hp (av / 4 - 2) (k, n, f.set (iv / 4) vv) := by
    unfold ax_upd
    rw [hg]
  refine ⟨⟨hE.1, hE.2.1, ?_, hE.2.2.2.1, fun x hx => ?_⟩, ⟨hT.1, ?_⟩, hHR⟩
  rotate_left
  · rcases List.mem_append.mp hx with hx | hx
    · rw [← hup]
      exact ax_wx_ok ha hi hv hE.2.2.2.2 x hx
    · exact ax_xkill_ok hX hE.2.2.2.2 hHR x hx
  rotate_left
  · intro x hx
    rcases List.mem_cons.mp hx with rfl | hx
    · refine ⟨av, iv, vv, k, n, _, ha, hi, hv, h2, h3, h4, by rw [hgs, if_pos rfl], List.getElem?_set_self (by rw [hf]; exact hn)⟩
    · obtain ⟨hx1, hx2⟩ := List.mem_filter.mp hx
      obtain ⟨a', i', v', k', m', l', g1, g2, g3, g4, g5, g6, g7, g8⟩ := hE.2.2.1 x hx1
      by_cases e : a' / 4 - 2 = av / 4 - 2
      · rw [e] at g7
        cases g7.symm.trans hg
        refine ⟨a', i', v', k, n, _, g1, g2, g3, g4, g5, g6, by rw [hgs, if_pos e], ?_⟩
        have hne : iv / 4 ≠ i' / 4 := by
          rcases rx_or2.mp hx2 with hx2 | hx2
          · obtain ⟨c1, hx2⟩ := rx_and2.mp hx2
            obtain ⟨c2, c3⟩ := rx_and2.mp hx2
            have e1 := ax_cst_ev c1 hi
            have e2 := ax_cst_ev c2 g2
            have : i ≠ x.2.1 := fun z => by
              rw [z, Nat.beq_refl] at c3
              cases c3
            omega
          · exact absurd e.symm (ax_apart_ok hE hx2 ha g1 h2 h3 g4 g5)
        rw [List.getElem?_set_ne hne]
        exact g8
      · exact ⟨a', i', v', k', m', l', g1, g2, g3, g4, g5, g6, by rw [hgs, if_neg e]; exact g7, g8⟩
  · intro q g' hq'
    obtain ⟨k', n', l', f', p1, p2, p3, p4⟩ := hT.2 q g' hq'
    by_cases e : q = av / 4 - 2
    · subst e
      cases hq'.symm.trans hw
      cases p1.symm.trans hr
      cases p2.symm.trans hg
      refine ⟨k, n, l, _, hr, by rw [hgs, if_pos rfl], by rw [List.length_set]; exact hf, fun j z hj => ?_⟩
      by_cases ej : j = iv / 4
      · subst ej
        rw [List.getElem?_set_self (by rw [hf]; exact hn)] at hj
        cases hj
        exact ht
      · rw [List.getElem?_set_ne (Ne.symm ej)] at hj
        exact p4 j z hj
    · exact ⟨k', n', l', f', p1, by rw [hgs, if_neg e]; exact p2, p3, p4⟩
theorem ax_vx1_ok {l : List Nat} {x y c : Nat} {z : Option Nat} (h : ax_vx1 l x y z = some c) : l = [x, y, c] ∨ z = some c := by
  unfold ax_vx1 at h
  split at h
  · rcases ax_condY h with ⟨hc, h⟩ | ⟨-, h⟩
    · obtain ⟨c1, c2⟩ := rx_and2.mp hc
      have c1 := rx_beq.mp c1
      have c2 := rx_beq.mp c2
      cases h
      subst c1 c2
      exact Or.inl rfl
    · exact Or.inr h
  · exact Or.inr h
theorem ax_vx_cons (d1 : Nat) (d2 : List Nat) (xf : List ax_N) (o x y : Nat) : ax_vx ((d1, d2) :: xf) o x y = (bif Nat.beq d1 (Nat.add 1000 o) then ax_vx1 d2 x y (ax_vx xf o x y) else ax_vx xf o x y) := rfl
theorem ax_vx_ok {o x y c : Nat} : ∀ {xf : List ax_N}, ax_vx xf o x y = some c → (1000 + o, [x, y, c]) ∈ xf
  | [], h => by cases h
  | (d1, d2) :: xf, h => by
    rw [ax_vx_cons] at h
    rcases ax_condY h with ⟨h0, h⟩ | ⟨-, h⟩
    · have h0 : d1 = 1000 + o := rx_beq.mp h0
      rcases ax_vx1_ok h with h | h
      · rw [h0, h]; exact List.mem_cons_self
      · exact List.mem_cons_of_mem _ (ax_vx_ok h)
    · exact List.mem_cons_of_mem _ (ax_vx_ok h)
theorem ax_bop_le {o : Nat} {x y z : Nat × Nat} (h : ax_bop o x y = some z) : o ≤ 10 := by
  rcases Nat.lt_or_ge 10 o with h0 | h0
  · exfalso
    have e : ∀ k, k ≤ 10 → Nat.beq o k = false := fun k hk => Bool.eq_false_iff.mpr (fun z => by have := rx_beq.mp z; omega)
    unfold ax_bop at h
    rw [e 0 (by decide), e 1 (by decide), e 2 (by decide), e 3 (by decide), e 7 (by decide), e 9 (by decide), e 10 (by decide), show Nat.ble o 8 = false from Bool.eq_false_iff.mpr (fun z => by have := rx_ble.mp z; omega)] at h
    cases h
  · exact h0
/-- a number of two -/
theorem ax_bin_ok (hE : ax_EO w X ρ E hp) {o x y p q c : Nat} {E' : ax_E} (hx : ax_ev E.1 ρ x = some p) (hy : ax_ev E.1 ρ y = some q) (h : ax_bin E o x y = some (c, E')) : p % 4 = 0 ∧ q % 4 = 0 ∧ p / 4 < 4294967296 ∧ q / 4 < 4294967296 ∧ ∃ r, ax_f o (p / 4) (q / 4) = some r ∧ r < 4294967296 ∧ E.1 ≤ E'.1 ∧ ∃ ρ' : Nat → Nat, (∀ k, k < E.1 → ρ' k = ρ k) ∧ ax_EO w X ρ' E' hp ∧ ax_ev E'.1 ρ' c = some (rx_int r) := by
  unfold ax_bin at h
  cases e1 : ax_iv E x with
  | none => rw [e1] at h; cases h
  | some ix =>
    cases e2 : ax_iv E y with
    | none => rw [e1, e2] at h; cases h
    | some iy =>
      rw [e1, e2] at h
      obtain ⟨p0, p1, p2, p3⟩ := ax_iv_ok hE e1 hx
      obtain ⟨q0, q1, q2, q3⟩ := ax_iv_ok hE e2 hy
      refine ⟨p0, q0, p1, q1, ?_⟩
      have main : ax_bin1 E o x y ix iy = some (c, E') → ∃ r, ax_f o (p / 4) (q / 4) = some r ∧ r < 4294967296 ∧ E.1 ≤ E'.1 ∧ ∃ ρ' : Nat → Nat, (∀ k, k < E.1 → ρ' k = ρ k) ∧ ax_EO w X ρ' E' hp ∧ ax_ev E'.1 ρ' c = some (rx_int r) := by
        intro h
        unfold ax_bin1 at h
        cases e3 : ax_bop o ix iy with
        | none => rw [e3] at h; cases h
        | some z =>
          rw [e3] at h
          obtain ⟨r, r1, r2, r3, r4⟩ := ax_bop_ok p1 q1 ⟨p2, p3⟩ ⟨q2, q3⟩ e3
          have d4 : rx_int r / 4 = r := by show 4 * r / 4 = r; omega
          have m4 : rx_int r % 4 = 0 := by show 4 * r % 4 = 0; omega
          obtain ⟨n1, ρ', a1, a2, a3⟩ := ax_val_ok (t := (0, z)) (x := rx_int r) hE (Or.inl ⟨rfl, m4, by rw [d4]; exact r2, by rw [d4]; exact r3, by rw [d4]; exact r4⟩)
          have h := Option.some.inj h
          unfold ax_bin2 at h
          rcases ax_condY h with ⟨hex, h⟩ | ⟨-, h⟩
          · have hd : ax_DO (ax_val E (0, z)).2.1 ρ' (bif Nat.beq o 0 then (x, y, (ax_val E (0, z)).1) else ((ax_val E (0, z)).1, y, x)) := by
              have hx' := ax_ev_mono n1 a1 hx
              have hy' := ax_ev_mono n1 a1 hy
              have ep : p = 4 * (p / 4) := by omega
              have eq : q = 4 * (q / 4) := by omega
              rw [ep] at hx'
              rw [eq] at hy'
              rcases ax_exact_ok p1 q1 r2 ⟨p2, p3⟩ ⟨q2, q3⟩ hex r1 with ⟨rfl, hs⟩ | ⟨rfl, hs⟩
              · exact ⟨p / 4, q / 4, r, hx', hy', a3, p1, q1, r2, hs⟩
              · exact ⟨r, q / 4, p / 4, a3, hy', hx', r2, q1, p1, hs⟩
            cases h
            exact ⟨r, r1, r2, n1, ρ', a1, ax_addD_ok a2 hd, a3⟩
          · rcases ax_condY h with ⟨-, h⟩ | ⟨-, h⟩
            · rw [h] at n1 a2 a3
              exact ⟨r, r1, r2, n1, ρ', a1, a2, a3⟩
            · cases h
              refine ⟨r, r1, r2, n1, ρ', a1, ax_addX_ok a2 ⟨[p, q, rx_int r], ?_, ?_⟩, a3⟩
              · exact ax_evs_push (ax_ev_mono n1 a1 hx) (ax_evs_push (ax_ev_mono n1 a1 hy) (ax_evs_push a3 rfl))
              · have ho := ax_bop_le e3
                exact (ax_XF_bi (by omega)).mpr (Or.inl ⟨ho, p0, q0, r, r1, r2, rfl⟩)
      rcases ax_condY h with ⟨ho, h⟩ | ⟨-, h⟩
      · cases e3 : ax_vn (ax_df E) o x y with
        | none => rw [e3] at h; exact main h
        | some z =>
          rw [e3] at h
          cases h
          have ho : o ≤ 1 := rx_ble.mp ho
          have hvn : ∀ (df : List (Nat × Nat × Nat)), ax_vn df o x y = some c → (o = 0 ∧ (x, y, c) ∈ df) ∨ (o = 1 ∧ (c, y, x) ∈ df) := by
            intro df
            induction df with
            | nil => intro hz; cases hz
            | cons d df ih =>
              intro hz
              rcases ax_condY hz with ⟨h0, hz⟩ | ⟨h0, hz⟩
              · have h0 := rx_beq.mp h0
                rcases ax_condY hz with ⟨hc, hz⟩ | ⟨-, hz⟩
                · obtain ⟨c1, c2⟩ := rx_and2.mp hc
                  cases hz
                  have e : (x, y, d.2.2) = d := Prod.ext (rx_beq.mp c1).symm (Prod.ext (rx_beq.mp c2).symm rfl)
                  exact Or.inl ⟨h0, by rw [e]; exact List.mem_cons_self⟩
                · rcases ih hz with ⟨i1, i2⟩ | ⟨i1, i2⟩
                  · exact Or.inl ⟨i1, List.mem_cons_of_mem _ i2⟩
                  · exact Or.inr ⟨i1, List.mem_cons_of_mem _ i2⟩
              · have h1 : o = 1 := by
                  have : o ≠ 0 := fun z => by rw [z] at h0; cases h0
                  omega
                rcases ax_condY hz with ⟨hc, hz⟩ | ⟨-, hz⟩
                · obtain ⟨c1, c2⟩ := rx_and2.mp hc
                  cases hz
                  have e : (d.1, y, x) = d := Prod.ext rfl (Prod.ext (rx_beq.mp c1).symm (rx_beq.mp c2).symm)
                  exact Or.inr ⟨h1, by rw [e]; exact List.mem_cons_self⟩
                · rcases ih hz with ⟨i1, i2⟩ | ⟨i1, i2⟩
                  · exact Or.inl ⟨i1, List.mem_cons_of_mem _ i2⟩
                  · exact Or.inr ⟨i1, List.mem_cons_of_mem _ i2⟩
          rcases hvn _ e3 with ⟨rfl, hm⟩ | ⟨rfl, hm⟩
          · obtain ⟨a, b, r, g1, g2, g3, g4, g5, g6, g7⟩ := hE.2.2.2.1 _ hm
            cases hx.symm.trans g1
            cases hy.symm.trans g2
            refine ⟨r, ?_, g6, Nat.le_refl _, ρ, fun _ _ => rfl, hE, g3⟩
            show some ((4 * a / 4 + 4 * b / 4) % 4294967296) = some r
            rw [show 4 * a / 4 = a by omega, show 4 * b / 4 = b by omega]
            rw [ax_bi_def, ax_bi_def, ax_bi_def] at g7
            exact congrArg some (by omega)
          · obtain ⟨r, b, a, g1, g2, g3, g4, g5, g6, g7⟩ := hE.2.2.2.1 _ hm
            cases hx.symm.trans g3
            cases hy.symm.trans g2
            refine ⟨r, ?_, g4, Nat.le_refl _, ρ, fun _ _ => rfl, hE, g1⟩
            show some ((4 * a / 4 + (4294967296 - 4 * b / 4 % 4294967296)) % 4294967296) = some r
            rw [show 4 * a / 4 = a by omega, show 4 * b / 4 = b by omega]
            rw [ax_bi_def, ax_bi_def, ax_bi_def] at g7
            exact congrArg some (by omega)
      · cases e3 : ax_vx (ax_xf E) o x y with
        | none => rw [e3] at h; exact main h
        | some z =>
          rw [e3] at h
          cases h
          obtain ⟨vs, g1, g2⟩ := hE.2.2.2.2 _ (ax_vx_ok e3)
          obtain ⟨x1, rr1, e5, k1, qq1⟩ := ax_evs_cons g1
          obtain ⟨x2, rr2, e6, k2, qq2⟩ := ax_evs_cons qq1
          obtain ⟨x3, rr3, e7, k3, qq3⟩ := ax_evs_cons qq2
          have e8 : rr3 = [] := by cases rr3 with | nil => rfl | cons _ _ => cases qq3
          subst e8 e7 e6 e5
          cases k1.symm.trans hx
          cases k2.symm.trans hy
          rcases Nat.lt_or_ge o 200 with ho | ho
          · rcases (ax_XF_bi ho).mp g2 with ⟨-, -, -, r, s1, s2, s3⟩ | ⟨j, -, -, z1, -⟩ | ⟨-, z1, -⟩
            · exact ⟨r, s1, s2, Nat.le_refl _, ρ, fun _ _ => rfl, hE, by rw [← s3]; exact k3⟩
            · exact absurd z1 (by omega)
            · exact absurd z1 (by omega)
          · exfalso
            unfold ax_XF at g2
            have n5 : ¬ (1000 + o < 500) := by omega
            have n6 : ¬ (1000 + o < 1000) := by omega
            have n7 : ¬ (1000 + o < 1200) := by omega
            rw [if_neg n5, if_neg n6, if_neg n7] at g2
            obtain ⟨z1, -⟩ := g2
            exact absurd z1 (by omega)
end AXW
