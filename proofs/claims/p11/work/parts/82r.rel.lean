/-! The relation between calls -/
noncomputable def lw_R (hp : rx_H) : Prop := fx_H fx_w rx_FK fx_FZ hp ∧ ∃ (nn L : Nat) (E C : Nat → Nat) (N R : Nat), lr (fx_hp hp) (fx_hp hp) nn L E C N R
noncomputable def lw_JR (hp : rx_H) : Prop := lw_J hp ∧ lw_R hp
theorem lw_wC : ax_wC.1 = fx_w.1 := rfl
noncomputable def lw_plB (q : Nat) : Bool := match rx_nth fx_w.1 q with
  | none => true
  | some g => bif Nat.ble 173 q then !(lw_isC g) else lw_isC g
theorem lw_pl_all : lw_alln lw_plB 256 = true := by decide +kernel
theorem lw_pl_len : fx_w.1.length ≤ 256 := by decide +kernel
theorem lw_pl_at {q g : Nat} (h : fx_w.1[q]? = some g) : (173 ≤ q → lw_isC g = false) ∧ (q < 173 → lw_isC g = true) := by
  have hq : q < 256 := Nat.lt_of_lt_of_le (List.getElem?_eq_some_iff.mp h).1 lw_pl_len
  have a := lw_alln_ok lw_pl_all q hq
  unfold lw_plB at a
  rw [rx_nth_eq, h] at a
  replace a : (bif Nat.ble 173 q then !(lw_isC g) else lw_isC g) = true := a
  refine ⟨fun z => ?_, fun z => ?_⟩
  · rw [rx_ble.mpr z, cond_true] at a
    cases hz : lw_isC g with
    | true => rw [hz] at a; cases a
    | false => rfl
  · rw [show Nat.ble 173 q = false from Bool.eq_false_iff.mpr (fun y => by have := rx_ble.mp y; omega), cond_false] at a
    exact a
section LWR2
variable {hp hp' h1 h2 : rx_H} {j : Nat} {q : rx_M} {s : Nat × Nat × Nat} {vals : List Nat} {o : rx_O}
theorem lw_frC (hT : ax_HT ax_wC hp) (hf : lw_fC hp hp') (h1 : fx_H fx_w rx_FK fx_FZ hp) (h2 : fx_H fx_w rx_FK fx_FZ hp') : ∀ p i, 175 ≤ p → fx_hp hp' p i = fx_hp hp p i := by
  intro p i hp
  obtain ⟨md, m, hR⟩ := hf
  exact lw_fxs lw_wC hT hR h1 h2 (fun g _ hg => lw_mem_md (S := lw_isC) m ((lw_pl_at (show fx_w.1[p - 2]? = some g from hg)).1 (by omega)))
theorem lw_frM (hT : ax_HT ax_wC hp) (hf : lw_fM hp hp') (h1 : fx_H fx_w rx_FK fx_FZ hp) (h2 : fx_H fx_w rx_FK fx_FZ hp') : ∀ p i, p < 175 → fx_hp hp' p i = fx_hp hp p i := by
  intro p i hp
  obtain ⟨md, m, hR⟩ := hf
  refine lw_fxs lw_wC hT hR h1 h2 (fun g h2' hg => lw_mem_md (S := fun g => !(lw_isC g)) m ?_)
  show (!(lw_isC g)) = false
  rw [(lw_pl_at (show fx_w.1[p - 2]? = some g from hg)).2 (by omega)]
  rfl
/-- what a run of the class tells -/
theorem lw_rnC (hq : rx_nth rx_P j = some q) (hs : rx_nth fx_SG j = some s) (hm : s.2.2 = rx_mL (rx_n q)) (hc : rx_nth fx_CV j = some true) (hv : ∀ v ∈ vals, v < 4294967296) (hT : ax_HT ax_wC hp) (hR : lw_R hp) (hf : lw_fC hp o.2.1) (hr : ∃ n, rx_run rx_P (rx_DF, rx_FK) n q (0, rx_args (10 :: vals.map rx_int) (rx_mL (rx_n q)), [], hp, [], 0, 0) = some [o]) : Cl j ((2, 2) :: vals.map (fun a => (0, a))) (fx_hp hp) (fx_d o.1) (fx_hp o.2.1) ∧ fx_H fx_w rx_FK fx_FZ o.2.1 ∧ ∀ p i, 175 ≤ p → fx_hp o.2.1 p i = fx_hp hp p i :=
  ⟨lw_cl hq hs hm rfl hv hR.1 hr, lw_hh hc hq rfl hv hR.1 hr, lw_frC hT hf hR.1 (lw_hh hc hq rfl hv hR.1 hr)⟩
theorem lw_rnM (hq : rx_nth rx_P j = some q) (hs : rx_nth fx_SG j = some s) (hm : s.2.2 = rx_mL (rx_n q)) (hc : rx_nth fx_CV j = some true) (hv : ∀ v ∈ vals, v < 4294967296) (hT : ax_HT ax_wC hp) (hR : fx_H fx_w rx_FK fx_FZ hp) (hf : lw_fM hp o.2.1) (hr : ∃ n, rx_run rx_P (rx_DF, rx_FK) n q (0, rx_args (702 :: vals.map rx_int) (rx_mL (rx_n q)), [], hp, [], 0, 0) = some [o]) : Cl j ((2, 175) :: vals.map (fun a => (0, a))) (fx_hp hp) (fx_d o.1) (fx_hp o.2.1) ∧ fx_H fx_w rx_FK fx_FZ o.2.1 ∧ ∀ p i, p < 175 → fx_hp o.2.1 p i = fx_hp hp p i :=
  ⟨lw_cl hq hs hm rfl hv hR hr, lw_hh hc hq rfl hv hR hr, lw_frM hT hf hR (lw_hh hc hq rfl hv hR hr)⟩
/-- behind both calls -/
theorem lw_two (hR : lw_R hp) (H2 : fx_H fx_w rx_FK fx_FZ h2) (c1 : ∀ p i, 175 ≤ p → fx_hp h1 p i = fx_hp hp p i) (c2 : ∀ p i, p < 175 → fx_hp h2 p i = fx_hp h1 p i) (hk : ∀ (nn L : Nat) (E C : Nat → Nat) (N R : Nat), lr (fx_hp hp) (fx_hp h1) nn L E C N R → lr (fx_hp h1) (fx_hp h2) nn L E C N R) : lw_R h2 := by
  obtain ⟨-, nn, L, E, C, N, R, h⟩ := hR
  exact ⟨H2, nn, L, E, C, N, R, lw_lrF (hk _ _ _ _ _ _ (lw_lrG h c1)) c2⟩
theorem lw_val {x y : fx_V} (hR : lw_R hp) (c1 : ∀ p i, 175 ≤ p → fx_hp h1 p i = fx_hp hp p i) (hk : ∀ (nn L : Nat) (E C : Nat → Nat) (N R : Nat), lr (fx_hp hp) (fx_hp h1) nn L E C N R → x = y) : x = y := by
  obtain ⟨-, nn, L, E, C, N, R, h⟩ := hR
  exact hk _ _ _ _ _ _ (lw_lrG h c1)
end LWR2
/-! The start, by the kernel -/
noncomputable def lw_fxv (FK : List (List Nat)) (FZ : List (List (Nat × Nat))) (q k : Nat) (f : List Nat) : Nat → Bool := List.rec (motive := fun _ => Nat → Bool) (fun _ => true) (fun v _ ih i => bif (!(Nat.beq (rx_tk v) 3) && ((!(Nat.beq (rx_tk v) 0) || Nat.blt (rx_pl v) 4294967296) && (Nat.beq (rx_tk v) (fx_tg FK k i) && ((!(Nat.beq (fx_fz FZ k i).1 1) || Nat.beq v (4 * (q + 2 + (fx_fz FZ k i).2) + 2)) && (!(Nat.beq (fx_fz FZ k i).1 2) || Nat.beq v (4 * (fx_fz FZ k i).2 + 2)))))) then ih (Nat.succ i) else false) f
theorem lw_or_imp {a b : Bool} (h : (!a || b) = true) : a = true → b = true := fun z => by rw [z] at h; exact h
theorem lw_fxv_ok {FK : List (List Nat)} {FZ : List (List (Nat × Nat))} {q k : Nat} : ∀ {f : List Nat} {i : Nat}, lw_fxv FK FZ q k f i = true → ∀ j v : Nat, f[j]? = some v → fx_ft FK FZ q k (i + j) v
  | [], i, _, j, v, hj => by simp at hj
  | x :: f, i, h, j, v, hj => by
    replace h : (bif (!(Nat.beq (rx_tk x) 3) && ((!(Nat.beq (rx_tk x) 0) || Nat.blt (rx_pl x) 4294967296) && (Nat.beq (rx_tk x) (fx_tg FK k i) && ((!(Nat.beq (fx_fz FZ k i).1 1) || Nat.beq x (4 * (q + 2 + (fx_fz FZ k i).2) + 2)) && (!(Nat.beq (fx_fz FZ k i).1 2) || Nat.beq x (4 * (fx_fz FZ k i).2 + 2)))))) then lw_fxv FK FZ q k f (i + 1) else false) = true := h
    rcases ax_condY h with ⟨h0, h⟩ | ⟨-, h⟩
    · cases j with
      | zero =>
        cases hj
        obtain ⟨a1, h0⟩ := rx_and2.mp h0
        obtain ⟨a2, h0⟩ := rx_and2.mp h0
        obtain ⟨a3, h0⟩ := rx_and2.mp h0
        obtain ⟨a4, a5⟩ := rx_and2.mp h0
        refine ⟨⟨fun z => ?_, fun z => rx_blt.mp (lw_or_imp a2 (rx_beq.mpr z))⟩, rx_beq.mp a3, fun z => rx_beq.mp (lw_or_imp a4 (rx_beq.mpr z)), fun z => rx_beq.mp (lw_or_imp a5 (rx_beq.mpr z))⟩
        rw [show Nat.beq (rx_tk x) 3 = true from rx_beq.mpr z] at a1
        cases a1
      | succ j => rw [show i + (j + 1) = i + 1 + j by omega]; exact lw_fxv_ok h j v (by simpa using hj)
    · cases h
noncomputable def lw_fxc (hp : rx_H) (q : Nat) : Bool := match rx_hg hp q with
  | none => true
  | some (k, n, f) => Nat.beq (rx_len f) n && ((match rx_nth fx_w.1 q with
    | some g => (match rx_nth fx_w.2.1 g with
      | some (k2, n2, _) => Nat.beq k2 k && Nat.beq n2 n
      | none => false)
    | none => false) && lw_fxv rx_FK fx_FZ q k f 0)
noncomputable def lw_fxh (hp : rx_H) : Bool := Nat.ble hp.1 256 && lw_alln (lw_fxc hp) 256
theorem lw_fxh_ok {hp : rx_H} (h : lw_fxh hp = true) : fx_H fx_w rx_FK fx_FZ hp := by
  obtain ⟨h1, h2⟩ := rx_and2.mp h
  have h1 := rx_ble.mp h1
  refine ⟨h1, fun q k n f e => ?_⟩
  have hc := lw_alln_ok h2 q (Nat.lt_of_lt_of_le (rx_hg_lt e) h1)
  unfold lw_fxc at hc
  rw [e] at hc
  replace hc : (Nat.beq (rx_len f) n && ((match rx_nth fx_w.1 q with
    | some g => (match rx_nth fx_w.2.1 g with
      | some (k2, n2, _) => Nat.beq k2 k && Nat.beq n2 n
      | none => false)
    | none => false) && lw_fxv rx_FK fx_FZ q k f 0)) = true := hc
  obtain ⟨c1, hc⟩ := rx_and2.mp hc
  obtain ⟨c2, c3⟩ := rx_and2.mp hc
  refine ⟨by rw [← rx_len_eq]; exact rx_beq.mp c1, ?_, fun i v hv => by have := lw_fxv_ok c3 i v hv; rw [Nat.zero_add] at this; exact this⟩
  rw [rx_nth_eq] at c2
  cases e1 : fx_w.1[q]? with
  | none => rw [e1] at c2; cases c2
  | some g =>
    rw [e1] at c2
    dsimp only at c2
    rw [rx_nth_eq] at c2
    cases e2 : fx_w.2.1[g]? with
    | none => rw [e2] at c2; cases c2
    | some y =>
      obtain ⟨k2, n2, l⟩ := y
      rw [e2] at c2
      obtain ⟨d1, d2⟩ := rx_and2.mp c2
      have d1 : k2 = k := rx_beq.mp d1
      have d2 : n2 = n := rx_beq.mp d2
      subst d1
      subst d2
      exact ⟨g, l, rfl, e2⟩
noncomputable def lw_z2 (hp : rx_H) (p i v : Nat) : Bool := Nat.beq (fx_hp hp p i) v
noncomputable def lw_cells : List (Nat × Nat × Nat) := [(3, 0, 0), (3, 1, 0), (3, 5, 0), (3, 3, 1), (6, 0, 0), (175, 9, 0), (177, 0, 0), (178, 0, 0), (182, 0, 0), (180, 0, 1), (2, 13, 160), (51, 1, 0), (51, 2, 0), (51, 3, 0), (175, 56, 0), (175, 57, 0), (158, 0, 165), (158, 1, 170), (159, 0, 0), (159, 1, 0), (206, 0, 0), (206, 1, 0), (160, 0, 0), (160, 1, 0), (160, 2, 0), (160, 3, 0), (176, 40, 0), (176, 101, 0), (24, 1, 0), (24, 2, 0), (24, 3, 0), (24, 4, 0), (32, 1, 0), (32, 2, 0), (32, 3, 0), (32, 4, 0)]
noncomputable def lw_chkR (hp : rx_H) : Bool := lw_fxh hp && (lw_cells.all (fun x => lw_z2 hp x.1 x.2.1 x.2.2) && (lw_alln (fun i => lw_z2 hp 52 i (53 + 5 * i)) 20 && lw_alln (fun j => lw_z2 hp 161 j 4294967295 && lw_z2 hp 176 (41 + j) 0) 12))
theorem lw_chkR_ok {hp : rx_H} (h : lw_chkR hp = true) : lw_R hp := by
  obtain ⟨h1, h⟩ := rx_and2.mp h
  obtain ⟨h2, h⟩ := rx_and2.mp h
  obtain ⟨h3, h4⟩ := rx_and2.mp h
  have c : ∀ p i v, (p, i, v) ∈ lw_cells → fx_hp hp p i = v := fun p i v hm => rx_beq.mp (List.all_eq_true.mp h2 _ hm)
  have s : ∀ i, i < 20 → fx_hp hp 52 i = 53 + 5 * i := fun i hi => rx_beq.mp (lw_alln_ok h3 i hi)
  have a : ∀ j, j < 12 → fx_hp hp 161 j = 4294967295 ∧ fx_hp hp 176 (41 + j) = 0 := fun j hj => by
    obtain ⟨x, y⟩ := rx_and2.mp (lw_alln_ok h4 j hj)
    exact ⟨rx_beq.mp x, rx_beq.mp y⟩
  have b9 : fx_hp hp 175 9 = 0 := c _ _ _ (by decide +kernel)
  have n13 : fx_hp hp 2 13 = 160 := c _ _ _ (by decide +kernel)
  have u1 : fx_hp hp 51 1 = 0 := c _ _ _ (by decide +kernel)
  have u2 : fx_hp hp 51 2 = 0 := c _ _ _ (by decide +kernel)
  have u3 : fx_hp hp 51 3 = 0 := c _ _ _ (by decide +kernel)
  have x40 : fx_hp hp 176 40 = 0 := c _ _ _ (by decide +kernel)
  have k6 : fx_hp hp 6 0 = 0 := c _ _ _ (by decide +kernel)
  refine ⟨lw_fxh_ok h1, 0, 0, fun _ => 0, fun _ => 0, 0, 1, ⟨⟨by decide, by decide, fun j hj => absurd hj (by omega)⟩, ⟨by decide, fun k hk => absurd hk (by omega)⟩, fun z => absurd rfl z, by decide⟩, ⟨⟨c _ _ _ (by decide +kernel), c _ _ _ (by decide +kernel), fun x hx => absurd hx (by omega)⟩, ⟨fun w hw => ?_, fun w hw => absurd hw (by omega)⟩, ⟨c _ _ _ (by decide +kernel), fun k hk => absurd hk (by omega)⟩, c _ _ _ (by decide +kernel)⟩, ⟨⟨by rw [b9]; decide, by rw [b9]; exact c _ _ _ (by decide +kernel), by rw [b9]; exact c _ _ _ (by decide +kernel), fun j hj => absurd hj (by omega)⟩, ⟨by rw [b9]; exact c _ _ _ (by decide +kernel), fun k hk => absurd hk (by omega)⟩, by rw [b9]; exact c _ _ _ (by decide +kernel)⟩, ⟨⟨⟨?_, fun i hi => ?_, fun i j hi hj e => ?_⟩, ⟨by rw [u1]; decide, by rw [u2, u3]; decide, by rw [u2]; exact c _ _ _ (by decide +kernel), by rw [u3]; exact c _ _ _ (by decide +kernel)⟩, fun i hi => ?_, ⟨c _ _ _ (by decide +kernel), c _ _ _ (by decide +kernel)⟩, fun b hb => ?_⟩, ?_⟩, ⟨⟨?_, ?_, fun z => absurd (c 24 3 0 (by decide +kernel)) z⟩, fun z => absurd (c 24 4 0 (by decide +kernel)) z⟩, ⟨⟨?_, ?_, fun z => absurd (c 32 3 0 (by decide +kernel)) z⟩, fun z => absurd (c 32 4 0 (by decide +kernel)) z⟩⟩
  · rw [show w = 0 by omega, k6]; decide
  · rw [n13]; exact Or.inr rfl
  · rw [s i hi, n13]
    exact ⟨Or.inl ⟨by omega, by omega, by omega⟩, by omega⟩
  · rw [s i hi, s j hj] at e
    omega
  · rw [u2, u3] at hi
    exact absurd hi (by omega)
  · have : b = 0 ∨ b = 1 := by omega
    rcases this with e | e
    · subst e
      have g0 : fx_hp hp 206 0 = 0 := c _ _ _ (by decide +kernel)
      exact ⟨by rw [g0, c 159 0 0 (by decide +kernel)], fun z => absurd g0 z⟩
    · subst e
      have g0 : fx_hp hp 206 1 = 0 := c _ _ _ (by decide +kernel)
      exact ⟨by rw [g0, c 159 1 0 (by decide +kernel)], fun z => absurd g0 z⟩
  · rw [n13]
    refine ⟨⟨by rw [x40]; exact c _ _ _ (by decide +kernel), by rw [x40]; decide, Or.inr rfl⟩, ⟨by rw [c 160 1 0 (by decide +kernel)]; decide, fun l hl => absurd hl (by omega)⟩, ⟨by rw [c 160 2 0 (by decide +kernel)]; decide, fun l hl => absurd hl (by omega)⟩, ?_, fun j hj => Or.inl (a j hj)⟩
    rw [c 160 3 0 (by decide +kernel), c 176 101 0 (by decide +kernel)]
  · rw [c 24 1 0 (by decide +kernel)]; decide
  · rw [c 24 2 0 (by decide +kernel)]; decide
  · rw [c 32 1 0 (by decide +kernel)]; decide
  · rw [c 32 2 0 (by decide +kernel)]; decide
