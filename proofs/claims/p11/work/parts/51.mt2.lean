section AXM
variable {w : ax_W} {X : ax_X} {ρ : Nat → Nat} {E : ax_E} {hp : rx_H}
theorem ax_tyck_ok {f : Nat} {m : List (Nat × Nat)} (hE : ax_EO w X ρ E hp) (hm : ∀ k v, ax_lk m k = some v → ∃ x, ax_ev E.1 ρ v = some x) : ∀ {tl : List ax_Y} {n : Nat}, ax_tyck w E f m tl n = true → tl.length = n ∧ ∀ k t, k < n → tl[n - 1 - k]? = some t → ax_ok w t (ax_rm f m E.1 ρ k)
  | [], n, h => by
    have h : n = 0 := rx_beq.mp h
    subst h
    exact ⟨rfl, fun k t hk => absurd hk (Nat.not_lt_zero _)⟩
  | t :: tl, n, h => by
    replace h : (Nat.blt 0 n && ((match (bif Nat.blt (Nat.pred n) f then some (ax_sym (Nat.pred n)) else ax_lk m (Nat.pred n)) with
      | some v => (match ax_typ E v with
        | some s => ax_sub w s t
        | none => false)
      | none => false) && ax_tyck w E f m tl (Nat.pred n))) = true := h
    obtain ⟨h0, h⟩ := rx_and2.mp h
    obtain ⟨h1, h2⟩ := rx_and2.mp h
    obtain ⟨b1, b2⟩ := ax_tyck_ok hE hm h2
    cases n with
    | zero => cases h0
    | succ n =>
      have b1 : tl.length = n := b1
      refine ⟨by rw [List.length_cons, b1], fun k s hk hs => ?_⟩
      by_cases e : k = n
      · subst e
        rw [show k + 1 - 1 - k = 0 by omega] at hs
        cases hs
        replace h1 : (match (bif Nat.blt k f then some (ax_sym k) else ax_lk m k) with
          | some v => (match ax_typ E v with
            | some s => ax_sub w s t
            | none => false)
          | none => false) = true := h1
        unfold ax_rm
        by_cases hf : k < f
        · rw [if_pos hf]
          rw [rx_blt.mpr hf, cond_true] at h1
          dsimp only at h1
          cases et : ax_typ E (ax_sym k) with
          | none => rw [et] at h1; cases h1
          | some s =>
            rw [et] at h1
            have e1 : ax_sym k % 4 = 3 := by show (4 * k + 3) % 4 = 3; omega
            have e2 : ax_sym k / 4 = k := by show (4 * k + 3) / 4 = k; omega
            have hkn : k < E.1 := by
              unfold ax_typ at et
              rw [rx_beq.mpr (show rx_tk (ax_sym k) = 3 from e1), cond_true] at et
              obtain ⟨z, -⟩ := rx_cond et
              have z : ax_sym k / 4 < E.1 := rx_blt.mp z
              omega
            refine ax_sub_ty h1 (ax_typ_ok hE et ?_)
            unfold ax_ev
            rw [if_pos e1, e2, if_pos hkn]
        · rw [if_neg hf]
          rw [show Nat.blt k f = false from Bool.eq_false_iff.mpr (fun z => hf (rx_blt.mp z)), cond_false] at h1
          cases ev : ax_lk m k with
          | none => rw [ev] at h1; cases h1
          | some v =>
            rw [ev] at h1
            dsimp only at h1
            cases et : ax_typ E v with
            | none => rw [et] at h1; cases h1
            | some s =>
              rw [et] at h1
              obtain ⟨x, hx⟩ := hm k v ev
              show ax_ok w t ((ax_ev E.1 ρ v).getD 0)
              rw [hx]
              exact ax_sub_ty h1 (ax_typ_ok hE et hx)
      · rw [show n + 1 - 1 - k = (n - 1 - k) + 1 by omega, List.getElem?_cons_succ] at hs
        exact b2 k s (by omega) hs
/-- what is mapped to is there -/
noncomputable def ax_me (n : Nat) (ρ : Nat → Nat) (m : List (Nat × Nat)) : Prop := ∀ k v, ax_lk m k = some v → ∃ x, ax_ev n ρ v = some x
theorem ax_uni_me {n f t v : Nat} {m m1 : List (Nat × Nat)} (h : ax_uni f m t v = some m1) (hm : ax_me n ρ m) (hv : ∃ x, ax_ev n ρ v = some x) : ax_me n ρ m1 := by
  unfold ax_uni at h
  rcases ax_condY h with ⟨hc, h⟩ | ⟨hc, h⟩
  · cases e : ax_lk m (rx_pl t) with
    | some u =>
      rw [e] at h
      obtain ⟨hb, h⟩ := rx_cond h
      cases h
      exact hm
    | none =>
      rw [e] at h
      cases h
      intro k u hk
      replace hk : (bif Nat.beq (rx_pl t) k then some v else ax_lk m k) = some u := hk
      rcases ax_condY hk with ⟨-, hk⟩ | ⟨-, hk⟩
      · cases hk; exact hv
      · exact hm k u hk
  · obtain ⟨hb, h⟩ := rx_cond h
    cases h
    exact hm
theorem ax_unis_me {n f : Nat} : ∀ {ts vs : List Nat} {m m1 : List (Nat × Nat)}, ax_unis f ts vs m = some m1 → ax_me n ρ m → (∀ v ∈ vs, ∃ x, ax_ev n ρ v = some x) → ax_me n ρ m1
  | [], [], m, m1, h, hm, _ => by cases h; exact hm
  | [], _ :: _, _, _, h, _, _ => by cases h
  | _ :: _, [], _, _, h, _, _ => by cases h
  | t :: ts, v :: vs, m, m1, h, hm, hv => by
    replace h : (match ax_uni f m t v with
      | some m1 => ax_unis f ts vs m1
      | none => none) = some m1 := h
    cases e : ax_uni f m t v with
    | none => rw [e] at h; cases h
    | some m2 =>
      rw [e] at h
      exact ax_unis_me h (ax_uni_me e hm (hv v List.mem_cons_self)) (fun u hu => hv u (List.mem_cons_of_mem _ hu))
theorem ax_unif_me {n f : Nat} {fs : List (Nat × Nat × Nat)} (hfs : ∀ x ∈ fs, ∃ y, ax_ev n ρ x.2.2 = some y) : ∀ {ts : List (Nat × Nat × Nat)} {m m1 : List (Nat × Nat)}, ax_unif f fs ts m = some m1 → ax_me n ρ m → ax_me n ρ m1
  | [], m, m1, h, hm => by cases h; exact hm
  | t :: ts, m, m1, h, hm => by
    replace h : (match ax_sb f m t.1, ax_sb f m t.2.1 with
      | some a, some i => (match ax_get fs a i with
        | some v => (match ax_uni f m t.2.2 v with
          | some m1 => ax_unif f fs ts m1
          | none => none)
        | none => none)
      | _, _ => none) = some m1 := h
    cases e1 : ax_sb f m t.1 with
    | none => rw [e1] at h; cases h
    | some a =>
      cases e2 : ax_sb f m t.2.1 with
      | none => rw [e1, e2] at h; cases h
      | some i =>
        rw [e1, e2] at h
        dsimp only at h
        cases e3 : ax_get fs a i with
        | none => rw [e3] at h; cases h
        | some v =>
          rw [e3] at h
          dsimp only at h
          cases e4 : ax_uni f m t.2.2 v with
          | none => rw [e4] at h; cases h
          | some m2 =>
            rw [e4] at h
            exact ax_unif_me hfs h (ax_uni_me e4 hm (hfs _ (ax_get_ok e3)))
theorem ax_unx_me {n f : Nat} {xf : List ax_N} (hxf : ∀ x ∈ xf, ∀ v ∈ x.2, ∃ y, ax_ev n ρ v = some y) : ∀ {ts : List ax_N} {m m1 : List (Nat × Nat)}, ax_unx f xf ts m = some m1 → ax_me n ρ m → ax_me n ρ m1
  | [], m, m1, h, hm => by cases h; exact hm
  | t :: ts, m, m1, h, hm => by
    replace h : (match ax_unx1 f m t xf with
      | some m1 => ax_unx f xf ts m1
      | none => none) = some m1 := h
    cases e : ax_unx1 f m t xf with
    | none => rw [e] at h; cases h
    | some m2 =>
      rw [e] at h
      obtain ⟨y, hy, e1, e2⟩ := ax_unx1_ok e
      exact ax_unx_me hxf h (ax_unis_me e2 hm (hxf y hy))
theorem ax_NO_ev {n : Nat} {x : ax_N} (h : ax_NO X n ρ hp x) : ∀ v ∈ x.2, ∃ y, ax_ev n ρ v = some y := by
  obtain ⟨vs, h1, -⟩ := h
  intro v hv
  obtain ⟨i, hi⟩ := List.getElem?_of_mem hv
  obtain ⟨y, -, hy⟩ := ax_evs_nth h1 hi
  exact ⟨y, hy⟩
theorem ax_xall_ok (hE : ax_EO w X ρ E hp) : ∀ x ∈ ax_xall E, ax_NO X E.1 ρ hp x := by
  intro x hx
  rcases List.mem_append.mp hx with hx | hx
  · exact hE.2.2.2.2 x hx
  rcases List.mem_append.mp hx with hx | hx
  rotate_left
  · obtain ⟨d, hd, rfl⟩ := List.mem_map.mp hx
    obtain ⟨a, i, v, k, m, l, g1, g2, g3, g4, g5, g6, g7, g8⟩ := hE.2.2.1 d hd
    exact ⟨[a, i, v], ax_evs_push g1 (ax_evs_push g2 (ax_evs_push g3 rfl)), ax_XF_cc.mpr ⟨g4, g5, g6, k, m, l, g7, g8⟩⟩
  · obtain ⟨d, hd, rfl⟩ := List.mem_map.mp hx
    obtain ⟨a, b, c, g1, g2, g3, g4⟩ := hE.2.2.2.1 d hd
    refine ⟨[4 * a, 4 * b, 4 * c, 0], ax_evs_push g1 (ax_evs_push g2 (ax_evs_push g3 (ax_evs_push (ax_ev_c (by decide)) rfl))), ?_⟩
    exact (ax_XF_bi (o := 15) (by decide)).mpr ⟨rfl, a, b, c, rfl, rfl, rfl, g4⟩
theorem ax_sc_ok {n v : Nat} (h : ax_sc n v = true) : ∀ k, v % 4 = 3 → k = v / 4 → k < n := by
  intro k h3 hk
  subst hk
  unfold ax_sc at h
  rw [rx_beq.mpr (show rx_tk v = 3 from h3)] at h
  exact rx_blt.mp h
theorem ax_rm_lt {f n k : Nat} {m : List (Nat × Nat)} (h : k < f) : ax_rm f m n ρ k = ρ k := if_pos h
/-- A TEMPLATE THAT FITS: what it says holds, by the valuation that the map gives -/
theorem ax_match_ok (hE : ax_EO w X ρ E hp) {f : Nat} {T : ax_T} {vs xs : List Nat} {m : List (Nat × Nat)} (hvs : vs.map (ax_ev E.1 ρ) = xs.map some) (h : ax_match w E f T vs = some m) : T.1.map (ax_ev T.2.1 (ax_rm f m E.1 ρ)) = xs.map some ∧ ax_EO w X (ax_rm f m E.1 ρ) T.2 hp ∧ f ≤ T.2.1 := by
  unfold ax_match at h
  cases em : ax_mt w E f T vs with
  | none => rw [em] at h; cases h
  | some mm =>
      rw [em] at h
      dsimp only at h
      obtain ⟨hc, h⟩ := rx_cond h
      cases h
      obtain ⟨m0, m1, e1, e2, e3⟩ := ax_mt_ok em
      obtain ⟨c1, hc⟩ := rx_and2.mp hc
      obtain ⟨c2, hc⟩ := rx_and2.mp hc
      obtain ⟨c3, hc⟩ := rx_and2.mp hc
      obtain ⟨c4, hc⟩ := rx_and2.mp hc
      obtain ⟨s1, s2⟩ := rx_and2.mp hc
      obtain ⟨s2, s3⟩ := rx_and2.mp s2
      obtain ⟨-, a2, a3⟩ := ax_unis_ok e1
      obtain ⟨y1, y2⟩ := ax_unx_ok e2
      obtain ⟨b1, b2⟩ := ax_unif_ok e3
      have hev : ∀ v ∈ vs, ∃ x, ax_ev E.1 ρ v = some x := fun v hv => by
        obtain ⟨i, hi⟩ := List.getElem?_of_mem hv
        obtain ⟨x, -, hx⟩ := ax_evs_nth hvs hi
        exact ⟨x, hx⟩
      have me0 : ax_me E.1 ρ m0 := ax_unis_me e1 (fun k v hk => by cases hk) hev
      have me1 : ax_me E.1 ρ m1 := ax_unx_me (fun x hx => ax_NO_ev (ax_xall_ok hE x hx)) e2 me0
      have me3 : ax_me E.1 ρ m := ax_unif_me (fun x hx => by obtain ⟨a, i, v, k, mm, l, q1, q2, q3, -⟩ := hE.2.2.1 x hx; exact ⟨v, q3⟩) e3 me1
      obtain ⟨t1, t2⟩ := ax_tyck_ok hE me3 c3
      refine ⟨?_, ⟨t1, t2, ?_, ?_, ?_⟩, rx_ble.mp c2⟩
      · apply List.ext_getElem?
        intro i
        rw [List.getElem?_map, List.getElem?_map]
        cases et : T.1[i]? with
        | none =>
          have : xs[i]? = none := by
            rw [List.getElem?_eq_none_iff, ax_evs_len hvs, ← a2]
            exact List.getElem?_eq_none_iff.mp et
          rw [this]
          rfl
        | some t =>
          have hi : i < vs.length := by rw [← a2]; exact (List.getElem?_eq_some_iff.mp et).1
          obtain ⟨x, hx1, hx2⟩ := ax_evs_nth hvs (List.getElem?_eq_getElem hi)
          rw [hx1]
          have htv := (a3 i t _ et (List.getElem?_eq_getElem hi)).le (y1.tr b1)
          have hsc := List.all_eq_true.mp s1 t (List.mem_of_getElem? et)
          exact congrArg some (ax_tv_ev htv hx2 (ax_sc_ok hsc))
      · intro x hx
        obtain ⟨a, i, v, hm, q1, q2, q3⟩ := b2 x hx
        obtain ⟨a', i', v', k, mm, l, g1, g2, g3, g4⟩ := hE.2.2.1 _ hm
        have hsc := List.all_eq_true.mp s2 x hx
        obtain ⟨z1, hsc⟩ := rx_and2.mp hsc
        obtain ⟨z2, z3⟩ := rx_and2.mp hsc
        exact ⟨a', i', v', k, mm, l, ax_tv_ev q1 g1 (ax_sc_ok z1), ax_tv_ev q2 g2 (ax_sc_ok z2), ax_tv_ev q3 g3 (ax_sc_ok z3), g4⟩
      · intro d hd
        have hd : d ∈ ax_df T.2 := hd
        cases hz : ax_df T.2 with
        | nil => rw [hz] at hd; cases hd
        | cons _ _ => rw [hz] at c4; cases c4
      · intro x hx
        obtain ⟨y, hy, e4, e5, e6⟩ : ∃ y ∈ ax_xall E, y.1 = x.1 ∧ x.2.length = y.2.length ∧ ∀ i t v : Nat, x.2[i]? = some t → y.2[i]? = some v → ax_tv f m t v := by
          obtain ⟨y, hy, e4, e5, e6⟩ := y2 x hx
          exact ⟨y, hy, e4, e5, fun i t v h1 h2 => (e6 i t v h1 h2).le b1⟩
        obtain ⟨vs', g1, g2⟩ := ax_xall_ok hE y hy
        refine ⟨vs', ?_, by rw [← e4]; exact g2⟩
        have hsc := List.all_eq_true.mp s3 x hx
        apply List.ext_getElem?
        intro i
        rw [List.getElem?_map, List.getElem?_map]
        cases et : x.2[i]? with
        | none =>
          have : vs'[i]? = none := by
            rw [List.getElem?_eq_none_iff, ax_evs_len g1, ← e5]
            exact List.getElem?_eq_none_iff.mp et
          rw [this]
          rfl
        | some t =>
          have hi : i < y.2.length := by rw [← e5]; exact (List.getElem?_eq_some_iff.mp et).1
          obtain ⟨z, hx1, hx2⟩ := ax_evs_nth g1 (List.getElem?_eq_getElem hi)
          rw [hx1]
          have hsc' := List.all_eq_true.mp hsc t (List.mem_of_getElem? et)
          exact congrArg some (ax_tv_ev (e6 i t _ et (List.getElem?_eq_getElem hi)) hx2 (ax_sc_ok hsc'))
end AXM
