/-! Runs, and what both worlds tell of them -/
section RUN
variable {P : List rx_M} {K : rx_K} {r : rx_M} {Po : rx_O → Prop}
theorem ax_wp_run {σ : rx_S} (h : ax_Wp P K r σ Po) : ax_Wp P K r σ (fun o => Po o ∧ ∃ n, rx_run P K n r σ = some [o]) := by
  obtain ⟨o, h1, h2⟩ := h
  exact ⟨o, h1, h2, h1⟩
theorem ax_inv_one (hP : ∀ q ∈ P, rx_QW q ∧ rx_ST P K q) (hr : r ∈ P) {σ : rx_S} {o o' : rx_O} (h : ∃ n, rx_run P K n r σ = some [o]) (h' : ∃ n, rx_run P K n r σ = some [o']) : o = o' := by
  obtain ⟨n, h⟩ := h
  obtain ⟨m, h'⟩ := h'
  have a := ax_run_up hP hr (Nat.le_max_left n m) h
  have b := ax_run_up hP hr (Nat.le_max_right n m) h'
  rw [a] at b
  exact (List.cons.inj (Option.some.inj b)).1
theorem ax_inv_step (hP : ∀ q ∈ P, rx_QW q ∧ rx_ST P K q) (hr : r ∈ P) {pc : Nat} {lv st : List Nat} {hp : rx_H} {x : rx_E} {σ' : rx_S} {o : rx_O} (hl : rx_look (rx_cd r) pc = some x) (hk : rx_kd x.2.2.2.1 = 0) (hh : rx_sem x.2.2.2.1 K (rx_n r) pc x.2.2.2.2.2.1 x.2.2.2.2.2.2.1 lv st hp [] 0 0 = some [σ']) (h : ∃ n, rx_run P K n r (pc, lv, st, hp, [], 0, 0) = some [o]) : ∃ n, rx_run P K n r σ' = some [o] := by
  obtain ⟨n, h⟩ := h
  have h := ax_run_up hP hr (Nat.le_succ n) h
  obtain ⟨⟨ch, hc1, hc2⟩, hpc⟩ := rx_look_ok hl
  obtain ⟨o1, o2, o3, o4, o5⟩ := (hP r hr).2 ch hc1 x hc2
  have k0 : x.2.1 = 0 := o2.trans hk
  replace h : rx_go P K (rx_run P K n) (rx_run P K n) (fun o => some [o]) r (pc, lv, st, hp, [], 0, 0) = some [o] := h
  rw [ax_go_x hl] at h
  unfold rx_do at h
  rw [k0, o3 k0] at h
  replace h : rx_nxt (rx_run P K n) r (rx_sem x.2.2.2.1 K (rx_n r) pc x.2.2.2.2.2.1 x.2.2.2.2.2.2.1 lv st hp [] 0 0) = some [o] := h
  rw [hh] at h
  exact ⟨n, h⟩
theorem ax_inv_call (hP : ∀ q ∈ P, rx_QW q ∧ rx_ST P K q) (hr : r ∈ P) {q : rx_M} {i : Nat} {as rest : List Nat} {σ : rx_S} {o1 o : rx_O} (hq : rx_nth P i = some q) (hc : rx_cal P r i σ = some (as, rest)) (h1 : ∃ n, rx_run P K n q (rx_ent q as σ) = some [o1]) (h : ∃ n, rx_run P K n r σ = some [o]) : ∃ n, rx_run P K n r (rx_bh q rest σ o1) = some [o] := by
  obtain ⟨n1, k1⟩ := h1
  obtain ⟨n2, m1⟩ := h
  have hqP : q ∈ P := by rw [rx_nth_eq] at hq; exact List.mem_of_getElem? hq
  have k1' := ax_run_up hP hqP (Nat.le_max_left n1 n2) k1
  have m1' := ax_run_up hP hr (Nat.le_succ_of_le (Nat.le_max_right n1 n2)) m1
  obtain ⟨N, hN⟩ : ∃ N, max n1 n2 = N := ⟨_, rfl⟩
  rw [hN] at k1' m1'
  refine ⟨N, ?_⟩
  rw [← m1']
  obtain ⟨pc, lv, st, hp, iv, cn, sn⟩ := σ
  unfold rx_cal at hc
  dsimp only at hc
  show rx_run P K N r (rx_bh q rest (pc, lv, st, hp, iv, cn, sn) o1) = rx_go P K (rx_run P K N) (rx_run P K N) (fun o => some [o]) r (pc, lv, st, hp, iv, cn, sn)
  unfold rx_go
  dsimp only
  cases hl : rx_look (rx_cd r) pc with
  | none => rw [hl] at hc; cases hc
  | some x =>
    rw [hl, hq] at hc
    dsimp only at hc ⊢
    cases hs : rx_spl (bif Nat.beq x.2.1 5 then rx_np (rx_n q) else Nat.succ (rx_np (rx_n q))) st [] with
    | none => rw [hs] at hc; cases hc
    | some w =>
      obtain ⟨as', rest'⟩ := w
      rw [hs] at hc
      dsimp only at hc
      obtain ⟨hb0, he⟩ := rx_cond hc
      cases he
      obtain ⟨b1, hb1⟩ := rx_and2.mp hb0
      obtain ⟨b2, hb2⟩ := rx_and2.mp hb1
      obtain ⟨b3, hb3⟩ := rx_and2.mp hb2
      obtain ⟨b4, hb4⟩ := rx_and2.mp hb3
      obtain ⟨b5, hb5⟩ := rx_and2.mp hb4
      obtain ⟨b6, b7⟩ := rx_and2.mp hb5
      have e2 : x.2.2.2.2.2.1 = i := rx_beq.mp b2
      have e3 : Nat.beq x.2.2.2.2.2.2.1 1 = false := by cases hz : Nat.beq x.2.2.2.2.2.2.1 1 with | true => rw [hz] at b3; cases b3 | false => rfl
      have e4 : Nat.beq x.2.2.2.2.2.2.1 2 = false := by cases hz : Nat.beq x.2.2.2.2.2.2.1 2 with | true => rw [hz] at b4; cases b4 | false => rfl
      have e5 : Nat.beq (Nat.mod x.2.2.2.2.2.2.1 4) 1 = false := by cases hz : Nat.beq (Nat.mod x.2.2.2.2.2.2.1 4) 1 with | true => rw [hz] at b5; cases b5 | false => rfl
      have key : ∀ stat : Bool, (stat = true ↔ Nat.beq x.2.1 5 = true) → rx_run P K N r (rx_bh q rest (pc, lv, st, hp, iv, cn, sn) o1) = rx_call stat P (rx_run P K N) (rx_run P K N) r pc x.2.2.2.2.2.1 x.2.2.2.2.2.2.1 lv st hp iv cn sn := by
        intro stat hst
        have hst' : stat = Nat.beq x.2.1 5 := by
          cases stat with
          | true => exact (hst.mp rfl).symm
          | false => cases hz : Nat.beq x.2.1 5 with | true => exact hst.mpr hz | false => rfl
        unfold rx_call
        rw [e3, e4, e5]
        dsimp only [cond_false]
        unfold rx_inv
        rw [e2, hq]
        dsimp only
        rw [hst', hs]
        show rx_run P K N r (rx_bh q rest (pc, lv, st, hp, iv, cn, sn) o1) = (bif (Nat.beq x.2.1 5 || rx_rcv hp (Nat.div x.2.2.2.2.2.2.1 4) as) && rx_cok (rx_n r) (rx_n q) as rest cn sn then rx_inv3 (rx_run P K N) (rx_run P K N) r q pc lv hp iv cn sn as rest else none)
        rw [show (Nat.beq x.2.1 5 || rx_rcv hp (Nat.div x.2.2.2.2.2.2.1 4) as) = true from b6, show rx_cok (rx_n r) (rx_n q) as rest cn sn = true from b7]
        show rx_run P K N r (rx_bh q rest (pc, lv, st, hp, iv, cn, sn) o1) = rx_inv3 (rx_run P K N) (rx_run P K N) r q pc lv hp iv cn sn as rest
        unfold rx_inv3
        rw [show rx_run P K N q (0, rx_args as (rx_mL (rx_n q)), [], hp, iv, 0, 0) = some [o1] from k1']
        rfl
      unfold rx_do
      rcases rx_or2.mp b1 with hk | hk
      · rw [rx_beq.mp hk] at key ⊢
        exact key false (by decide)
      · rw [rx_beq.mp hk] at key ⊢
        exact key true (by decide)
end RUN
theorem ax_XT_in {TE TR : rx_H → Prop} {X : ax_X} {n : Nat} {ρ : Nat → Nat} {hp : rx_H} {x : ax_N} (hx : x.1 < 500) (hE : TE hp) (hR : TR hp) (h : ax_NO X n ρ hp x) : ax_NO (ax_XT TE TR X) n ρ hp x := by
  obtain ⟨vs, h1, h2⟩ := h
  exact ⟨vs, h1, (ax_XF_lt hx).mpr ⟨(ax_XF_lt hx).mp h2, fun _ _ => hE, fun _ _ => hR⟩⟩
theorem fx_dI (a : Nat) : fx_d (rx_int a) = (0, a) := by
  show (4 * a % 4, 4 * a / 4) = (0, a)
  rw [Nat.mul_mod_right, Nat.mul_div_cancel_left a (by decide)]
theorem fx_d_inj {x y : Nat} (h : fx_d x = fx_d y) : x = y := by
  have h1 : x % 4 = y % 4 := congrArg Prod.fst h
  have h2 : x / 4 = y / 4 := congrArg Prod.snd h
  omega
theorem fx_wI {a : Nat} (h : a < 4294967296) : fx_wv (rx_int a) := by
  refine ⟨?_, fun _ => ?_⟩
  · show 4 * a % 4 ≠ 3
    omega
  · show 4 * a / 4 < 4294967296
    omega
theorem fx_wsI {r : Nat} (hr : r % 4 = 2) {vals : List Nat} (hv : ∀ v ∈ vals, v < 4294967296) : fx_ws (r :: vals.map rx_int) := by
  intro v h
  rcases List.mem_cons.mp h with e | h
  · subst e; exact ⟨by omega, fun z => by omega⟩
  · obtain ⟨a, ha, e⟩ := List.mem_map.mp h
    subst e
    exact fx_wI (hv a ha)
theorem fx_mapI {vals : List Nat} : (vals.map rx_int).map fx_d = vals.map (fun a => ((0, a) : fx_V)) := by
  rw [List.map_map]
  exact List.map_congr_left (fun a _ => fx_dI a)
/-- a run told of by the relation of heaps -/
theorem lw_cl {j : Nat} {q : rx_M} {s : Nat × Nat × Nat} {r : Nat} {vals : List Nat} {hp : rx_H} {o : rx_O} (hq : rx_nth rx_P j = some q) (hs : rx_nth fx_SG j = some s) (hm : s.2.2 = rx_mL (rx_n q)) (hr : r % 4 = 2) (hv : ∀ v ∈ vals, v < 4294967296) (hH : fx_H fx_w rx_FK fx_FZ hp) (h : ∃ n, rx_run rx_P (rx_DF, rx_FK) n q (0, rx_args (r :: vals.map rx_int) (rx_mL (rx_n q)), [], hp, [], 0, 0) = some [o]) : Cl j (fx_d r :: vals.map (fun a => (0, a))) (fx_hp hp) (fx_d o.1) (fx_hp o.2.1) := by
  obtain ⟨n, h⟩ := h
  have e : fx_d r :: vals.map (fun a => ((0, a) : fx_V)) = (r :: vals.map rx_int).map fx_d := by rw [List.map_cons, fx_mapI]
  rw [e]
  refine ⟨n, s, hs, q, _, [], hp, o, hq, fx_args_ws (fx_wsI hr hv), (fun v hv => by cases hv), hH, ?_, rfl, rfl, h, rfl, rfl⟩
  rw [hm]
  exact fx_args_L
theorem lw_hh {j : Nat} {q : rx_M} {r : Nat} {vals : List Nat} {hp : rx_H} {o : rx_O} (hc : rx_nth fx_CV j = some true) (hq : rx_nth rx_P j = some q) (hr : r % 4 = 2) (hv : ∀ v ∈ vals, v < 4294967296) (hH : fx_H fx_w rx_FK fx_FZ hp) (h : ∃ n, rx_run rx_P (rx_DF, rx_FK) n q (0, rx_args (r :: vals.map rx_int) (rx_mL (rx_n q)), [], hp, [], 0, 0) = some [o]) : fx_H fx_w rx_FK fx_FZ o.2.1 := by
  obtain ⟨n, h⟩ := h
  obtain ⟨o', e, -, h2, -⟩ := fx_A fx_all n j q hc hq 0 _ [] hp _ (fx_args_ws (fx_wsI hr hv)) (fun v hv => by cases hv) hH h
  cases e
  exact h2
theorem lw_fp {hp : rx_H} {q i : Nat} : fx_hp hp (q + 2) i = ay_ln (ay_at hp q i) := by
  unfold fx_hp ay_at
  rw [show Nat.ble 2 (q + 2) = true from rx_ble.mpr (by omega), cond_true, Nat.add_sub_cancel]
  cases e : rx_hg hp q with
  | none => rfl
  | some z =>
    obtain ⟨k, n, f⟩ := z
    show (f[i]?.getD 0) / 4 = ay_ln f[i]?
    cases f[i]? <;> rfl
theorem lw_fxs {w : ax_W} {md : List (Nat × Nat)} {hp hp' : rx_H} {p i : Nat} (hw : w.1 = fx_w.1) (hT : ax_HT w hp) (hR : ax_HR w md hp hp') (h1 : fx_H fx_w rx_FK fx_FZ hp) (h2 : fx_H fx_w rx_FK fx_FZ hp') (hm : ∀ g, 2 ≤ p → w.1[p - 2]? = some g → ax_mem md g i = false) : fx_hp hp' p i = fx_hp hp p i := by
  rcases Nat.lt_or_ge p 2 with h | h
  · unfold fx_hp
    rw [show Nat.ble 2 p = false from Bool.eq_false_iff.mpr (fun z => by have := rx_ble.mp z; omega)]
    rfl
  · obtain ⟨q, rfl⟩ : ∃ q, p = q + 2 := ⟨p - 2, by omega⟩
    rw [lw_fp, lw_fp]
    cases e : w.1[q]? with
    | some g => exact congrArg ay_ln (ay_HRat hR e (hm g h e) (ax_cellT hT e))
    | none =>
      have z : ∀ hp, fx_H fx_w rx_FK fx_FZ hp → ay_at hp q i = none := fun hp h => by
        unfold ay_at
        cases e2 : rx_hg hp q with
        | none => rfl
        | some c =>
          obtain ⟨k, n, f⟩ := c
          obtain ⟨-, ⟨g, l, hg, -⟩, -⟩ := h.2 q k n f e2
          rw [← hw, e] at hg
          cases hg
      rw [z hp h1, z hp' h2]
section LRL
variable {nn L R N : Nat} {E C : Nat → Nat} {F F' G G' : fx_F}
/-- the relation looks at no more than this -/
theorem lr_cg2 (h : lr F G nn L E C N R) (hF : ∀ p i, p < 175 → (p < 10 ∨ 19 ≤ p) → F' p i = F p i) (hG6 : ∀ p i, p = 204 ∨ p = 205 ∨ p = 206 ∨ p = 176 → G' p i = G p i) (g9 : G' 175 9 = G 175 9) (g56 : G' 175 56 = G 175 56) (g57 : G' 175 57 = G 175 57) (g177 : G' 177 (G 175 9) = G 177 (G 175 9)) (g178 : G' 178 (G 175 9) = G 178 (G 175 9)) (g180 : G' 180 (G 175 9) = G 180 (G 175 9)) (g182 : G' 182 (G 175 9) = G 182 (G 175 9)) (g183 : ∀ j, j < 40 → G' 183 (40 * G 175 9 + j) = G 183 (40 * G 175 9 + j)) (g184 : ∀ k, k < 100 → G' 184 (100 * G 175 9 + k) = G 184 (100 * G 175 9 + k)) : lr F' G' nn L E C N R := by
  obtain ⟨h1, ⟨k1, k2, k3, k4⟩, ⟨m1, m2, m3⟩, ⟨x1, x2⟩, ra, rb⟩ := h
  have f3 : ∀ p i, 3 ≤ p → p ≤ 9 → F' p i = F p i := fun p i a b => hF p i (by omega) (by omega)
  have hL := h1.1.2.1
  have hN := h1.2.1.1
  have e2 : F' 2 13 = F 2 13 := hF 2 13 (by decide) (by decide)
  have st : ∀ {q : Nat} {X X' : Nat → Nat}, sc F q X nn L E → 19 ≤ q → q + 4 < 175 → (∀ x, x < 103 → X' x = X x) → sc F' q X' nn L E := fun h a b hx => sc_congr h hL (fun i _ => hF _ i (by omega) (by omega)) (fun i _ => ⟨hF _ i (by omega) (by omega), hF _ i (by omega) (by omega), hF _ i (by omega) (by omega), hF _ i (by omega) (by omega)⟩) (fun x hx2 => hx x (by omega))
  have lo : ∀ {q : Nat}, S0 q → 19 ≤ q ∧ q + 4 < 175 := fun h => by unfold S0 at h; omega
  obtain ⟨⟨a1, a2, a3⟩, ⟨b1, b2, b3, b4⟩, c1, d1, d2⟩ := x1
  have k : ∀ p i, p = 2 ∨ p = 51 ∨ p = 52 ∨ p = 158 ∨ p = 159 → F' p i = F p i := fun p i hp => hF p i (by omega) (by omega)
  refine ⟨h1, ⟨k1.eq f3, k2.eq f3, k3.eq f3, (f3 3 3 (by decide) (by decide)).trans k4⟩, ⟨⟨by rw [g9]; exact m1.1, by rw [g9, g177]; exact m1.2.1, by rw [g9, g178]; exact m1.2.2.1, fun j hj => by rw [g9, g183 j (by omega)]; exact m1.2.2.2 j hj⟩, ⟨by rw [g9, g182]; exact m2.1, fun k hk => by rw [g9, g184 k (by omega)]; exact m2.2 k hk⟩, by rw [g9, g180]; exact m3⟩, ⟨⟨?_, ?_, fun i hi => ?_, ?_, fun b hb => ?_⟩, ?_⟩, ra.eq (fun t i ht => hF _ i (by omega) (by omega)), rb.eq (fun t i ht => hF _ i (by omega) (by omega))⟩
  · rw [e2]
    exact ⟨a1, fun i hi => by rw [k 52 i (by decide)]; exact a2 i hi, fun i j hi hj => by rw [k 52 i (by decide), k 52 j (by decide)]; exact a3 i j hi hj⟩
  · rw [k 51 1 (by decide), k 51 2 (by decide), k 51 3 (by decide), g56, g57]; exact ⟨b1, b2, b3, b4⟩
  · rw [k 51 2 (by decide), k 51 3 (by decide)] at hi
    rw [k 51 1 (by decide), k 52 _ (by decide)]
    obtain ⟨l1, l2⟩ := lo (a2 _ (Nat.mod_lt _ (by decide))).1
    exact st (c1 i hi) l1 l2 (fun x _ => hG6 204 _ (by decide))
  · rw [k 158 0 (by decide), k 158 1 (by decide)]; exact d1
  · obtain ⟨t1, t2⟩ := d2 b hb
    rw [k 158 b (by decide), k 159 b (by decide), hG6 206 b (by decide)]
    refine ⟨t1, fun w => ?_⟩
    have hb158 : F 158 b = 165 ∨ F 158 b = 170 := by
      have : b = 0 ∨ b = 1 := by omega
      rcases this with e | e
      · subst e; exact Or.inl d1.1
      · subst e; exact Or.inr d1.2
    exact st (t2 w) (by omega) (by omega) (fun x _ => hG6 205 _ (by decide))
  · rw [e2]
    obtain ⟨l1, l2⟩ := lo a1
    exact st x2 l1 l2 (fun x _ => hG6 176 x (by decide))
theorem lw_lrG (h : lr F G nn L E C N R) (c : ∀ p i, 175 ≤ p → G' p i = G p i) : lr F G' nn L E C N R := h.cg (fun _ _ _ _ => rfl) (fun p i hp => c p i (by omega)) (c _ _ (by decide)) (c _ _ (by decide)) (c _ _ (by decide)) (c _ _ (by decide)) (c _ _ (by decide)) (c _ _ (by decide)) (c _ _ (by decide)) (fun j _ => c _ _ (by decide)) (fun k _ => c _ _ (by decide))
theorem lw_lrF (h : lr F G nn L E C N R) (c : ∀ p i, p < 175 → F' p i = F p i) : lr F' G nn L E C N R := h.cg (fun p i hp _ => c p i hp) (fun _ _ _ => rfl) rfl rfl rfl rfl rfl rfl rfl (fun _ _ => rfl) (fun _ _ => rfl)
theorem lw_keep {S T S' T' : List Nat} (h : lr F G nn L E C N R) (k1 : gxo S T F F') (hS : ∀ p ∈ S, 10 ≤ p ∧ p ≤ 18) (k2 : gxo S' T' G G') (hS' : ∀ p ∈ S', p = 185) (hT' : ∀ i ∈ T', i = 11) : lr F' G' nn L E C N R := by
  have kF : ∀ p i, p < 175 → (p < 10 ∨ 19 ≤ p) → F' p i = F p i := fun p i hp hp2 => k1 p i (fun z => by have := hS p z; omega) (fun z => by omega)
  have kG : ∀ p i, p ≠ 185 → p ≠ 175 → G' p i = G p i := fun p i a b => k2 p i (fun z => a (hS' p z)) (fun z => absurd z b)
  have k5 : ∀ i, i ≠ 11 → G' 175 i = G 175 i := fun i a => k2 175 i (fun z => by have := hS' _ z; omega) (fun _ z => a (hT' i z))
  exact h.cg kF (fun p i hp => kG p i (by omega) (by omega)) (k5 9 (by decide)) (k5 56 (by decide)) (k5 57 (by decide)) (kG _ _ (by decide) (by decide)) (kG _ _ (by decide) (by decide)) (kG _ _ (by decide) (by decide)) (kG _ _ (by decide) (by decide)) (fun j _ => kG _ _ (by decide) (by decide)) (fun j _ => kG _ _ (by decide) (by decide))
end LRL
