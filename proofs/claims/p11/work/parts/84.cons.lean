/-! The constructors, by the kernel; the heap behind them is as both worlds say -/
noncomputable def lw_okb (w : ax_W) (t : ax_Y) (v : Nat) : Bool :=
  bif Nat.beq t.1 0 then Nat.beq (rx_tk v) 0 && (Nat.blt (rx_pl v) 4294967296 && (Nat.ble t.2.1 (rx_bi (rx_pl v)) && Nat.ble (rx_bi (rx_pl v)) t.2.2))
  else bif Nat.beq t.1 1 then Nat.beq (rx_tk v) 1
  else bif Nat.beq t.1 2 then Nat.beq (rx_tk v) 2 && (Nat.ble 2 (rx_pl v) && (Nat.blt (rx_pl v) 258 && (match rx_nth w.1 (Nat.sub (rx_pl v) 2) with
    | some g => Nat.beq g t.2.1
    | none => false)))
  else Nat.beq t.1 3 && (Nat.beq v t.2.1 && Nat.beq (rx_tk v) 2)
theorem lw_okb_ok {w : ax_W} {t : ax_Y} {v : Nat} (h : lw_okb w t v = true) : ax_ok w t v := by
  unfold lw_okb at h
  rcases ax_condY h with ⟨h0, h⟩ | ⟨-, h⟩
  · obtain ⟨c1, h⟩ := rx_and2.mp h
    obtain ⟨c2, h⟩ := rx_and2.mp h
    obtain ⟨c3, c4⟩ := rx_and2.mp h
    exact Or.inl ⟨rx_beq.mp h0, rx_beq.mp c1, rx_blt.mp c2, rx_ble.mp c3, rx_ble.mp c4⟩
  rcases ax_condY h with ⟨h0, h⟩ | ⟨-, h⟩
  · exact Or.inr (Or.inl ⟨rx_beq.mp h0, rx_beq.mp h⟩)
  rcases ax_condY h with ⟨h0, h⟩ | ⟨-, h⟩
  · obtain ⟨c1, h⟩ := rx_and2.mp h
    obtain ⟨c2, h⟩ := rx_and2.mp h
    obtain ⟨c3, h⟩ := rx_and2.mp h
    rw [rx_nth_eq] at h
    cases e : w.1[Nat.sub (rx_pl v) 2]? with
    | none => rw [e] at h; cases h
    | some g =>
      rw [e] at h
      have hg : g = t.2.1 := rx_beq.mp h
      subst hg
      exact Or.inr (Or.inr (Or.inl ⟨rx_beq.mp h0, rx_beq.mp c1, rx_ble.mp c2, rx_blt.mp c3, e⟩))
  · obtain ⟨c0, h⟩ := rx_and2.mp h
    obtain ⟨c1, c2⟩ := rx_and2.mp h
    exact Or.inr (Or.inr (Or.inr ⟨rx_beq.mp c0, rx_beq.mp c1, rx_beq.mp c2⟩))
noncomputable def lw_tyb (w : ax_W) (l : List (Nat × ax_Y)) (f : List Nat) : Nat → Bool := List.rec (motive := fun _ => Nat → Bool) (fun _ => true) (fun v _ ih i => bif (match ax_at l i with
  | some t => lw_okb w t v
  | none => false) then ih (Nat.succ i) else false) f
theorem lw_tyb_ok {w : ax_W} {l : List (Nat × ax_Y)} : ∀ {f : List Nat} {i : Nat}, lw_tyb w l f i = true → ∀ j v : Nat, f[j]? = some v → ∃ t, ax_at l (i + j) = some t ∧ ax_ok w t v
  | [], i, _, j, v, hj => by simp at hj
  | x :: f, i, h, j, v, hj => by
    replace h : (bif (match ax_at l i with
      | some t => lw_okb w t x
      | none => false) then lw_tyb w l f (i + 1) else false) = true := h
    rcases ax_condY h with ⟨h0, h⟩ | ⟨-, h⟩
    · cases j with
      | zero =>
        cases hj
        cases e : ax_at l i with
        | none => rw [e] at h0; cases h0
        | some t =>
          rw [e] at h0
          exact ⟨t, rfl, lw_okb_ok h0⟩
      | succ j =>
        obtain ⟨t, t1, t2⟩ := lw_tyb_ok h j v (by simpa using hj)
        exact ⟨t, by rw [show i + (j + 1) = i + 1 + j by omega]; exact t1, t2⟩
    · cases h
noncomputable def lw_cb (w : ax_W) (hp : rx_H) (q : Nat) : Bool := match rx_nth w.1 q with
  | none => true
  | some g => (match rx_nth w.2.1 g, rx_hg hp q with
    | some (k, n, l), some (k2, n2, f) => Nat.beq k2 k && (Nat.beq n2 n && (Nat.beq (rx_len f) n && lw_tyb w l f 0))
    | _, _ => false)
noncomputable def lw_htb (w : ax_W) (hp : rx_H) : Bool := Nat.ble hp.1 256 && (Nat.ble (rx_len w.1) 256 && lw_alln (lw_cb w hp) 256)
theorem lw_htb_ok {w : ax_W} {hp : rx_H} (h : lw_htb w hp = true) : ax_HT w hp := by
  obtain ⟨h1, h⟩ := rx_and2.mp h
  obtain ⟨h2, h3⟩ := rx_and2.mp h
  refine ⟨rx_ble.mp h1, fun q g hq => ?_⟩
  have hq2 : q < 256 := Nat.lt_of_lt_of_le (List.getElem?_eq_some_iff.mp hq).1 (by rw [← rx_len_eq]; exact rx_ble.mp h2)
  have hc := lw_alln_ok h3 q hq2
  unfold lw_cb at hc
  rw [rx_nth_eq, hq] at hc
  dsimp only at hc
  rw [rx_nth_eq] at hc
  cases e1 : w.2.1[g]? with
  | none => rw [e1] at hc; cases hc
  | some z =>
    obtain ⟨k, n, l⟩ := z
    cases e2 : rx_hg hp q with
    | none => rw [e1, e2] at hc; cases hc
    | some y =>
      obtain ⟨k2, n2, f⟩ := y
      rw [e1, e2] at hc
      dsimp only at hc
      obtain ⟨c1, hc⟩ := rx_and2.mp hc
      obtain ⟨c2, hc⟩ := rx_and2.mp hc
      obtain ⟨c3, c4⟩ := rx_and2.mp hc
      have c1 : k2 = k := rx_beq.mp c1
      have c2 : n2 = n := rx_beq.mp c2
      subst c1
      subst c2
      refine ⟨k2, n2, l, f, rfl, rfl, by rw [← rx_len_eq]; exact rx_beq.mp c3, fun i v hv => ?_⟩
      obtain ⟨t, t1, t2⟩ := lw_tyb_ok c4 i v hv
      rw [Nat.zero_add] at t1
      exact ⟨t, t1, t2⟩
/-- a cell holds 0 -/
noncomputable def lw_z (hp : rx_H) (q i : Nat) : Bool := match rx_hg hp q with
  | some (_, _, f) => (match rx_nth f i with
    | some v => Nat.beq v 0
    | none => false)
  | none => false
theorem lw_z_ok {hp : rx_H} {q i : Nat} (h : lw_z hp q i = true) : ∃ (k n : Nat) (f : List Nat), rx_hg hp q = some (k, n, f) ∧ f[i]? = some 0 := by
  unfold lw_z at h
  cases e : rx_hg hp q with
  | none => rw [e] at h; cases h
  | some y =>
    obtain ⟨k, n, f⟩ := y
    rw [e] at h
    dsimp only at h
    rw [rx_nth_eq] at h
    cases e2 : f[i]? with
    | none => rw [e2] at h; cases h
    | some v =>
      rw [e2] at h
      have : v = 0 := rx_beq.mp h
      subst this
      exact ⟨k, n, f, rfl, e2⟩
theorem lw_z_ay {hp : rx_H} {q i : Nat} (h : lw_z hp q i = true) : ay_at hp q i = some 0 := by
  obtain ⟨k, n, f, e1, e2⟩ := lw_z_ok h
  rw [ay_eq e1]
  exact e2
/-- a cell holds nothing but 0 -/
noncomputable def lw_zz (hp : rx_H) (q : Nat) : Bool := match rx_hg hp q with
  | some (_, _, f) => f.all (fun v => Nat.beq v 0)
  | none => false
theorem lw_zz_ok {hp : rx_H} {q : Nat} (h : lw_zz hp q = true) : ax_M1 q hp := by
  unfold lw_zz at h
  cases e : rx_hg hp q with
  | none => rw [e] at h; cases h
  | some y =>
    obtain ⟨k, n, f⟩ := y
    rw [e] at h
    refine ⟨k, n, f, e, fun i v hv => ?_⟩
    have : v = 0 := rx_beq.mp (List.all_eq_true.mp h v (List.mem_of_getElem? hv))
    subst this
    have e0 : rx_bi (0 / 4) = 2147483648 := rfl
    refine ⟨fun _ _ => ?_, fun _ _ => ?_, fun _ _ => ?_⟩ <;> (unfold ax_rng; rw [e0]; exact ⟨by decide, by decide⟩)
noncomputable def lw_v (hp : rx_H) (q i v : Nat) : Bool := match rx_hg hp q with
  | some (_, _, f) => (match rx_nth f i with
    | some x => Nat.beq x v
    | none => false)
  | none => false
theorem lw_v_ok {hp : rx_H} {q i v : Nat} (h : lw_v hp q i v = true) : ay_at hp q i = some v := by
  unfold lw_v at h
  cases e : rx_hg hp q with
  | none => rw [e] at h; cases h
  | some y =>
    obtain ⟨k, n, f⟩ := y
    rw [e] at h
    dsimp only at h
    rw [ay_eq e]
    cases e2 : rx_nth f i with
    | none => rw [e2] at h; cases h
    | some x =>
      rw [e2] at h
      rw [rx_nth_eq] at e2
      rw [e2, rx_beq.mp h]
noncomputable def lw_chkB (hp : rx_H) : Bool := lw_htb ax_wC hp && (lw_htb ax_wM0 hp && (lw_z hp 8 1 && (lw_z hp 173 11 && (lw_z hp 49 2 && (lw_z hp 49 3 && (lw_z hp 173 56 && (lw_z hp 173 57 && (lw_zz hp 202 && (lw_zz hp 203 && (lw_z hp 176 0 && (lw_z hp 180 0 && (lw_z hp 8 3 && (lw_z hp 173 20 && (lw_v hp 8 4 17179869180 && (lw_v hp 173 21 17179869180 && (lw_v hp 10 6 54 && (lw_v hp 10 7 58 && (lw_v hp 10 10 70 && lw_v hp 10 11 74))))))))))))))))))
theorem lw_chkB_ok {hp : rx_H} (h : lw_chkB hp = true) : lw_J hp := by
  obtain ⟨c1, h⟩ := rx_and2.mp h
  obtain ⟨c2, h⟩ := rx_and2.mp h
  obtain ⟨c3, h⟩ := rx_and2.mp h
  obtain ⟨c4, h⟩ := rx_and2.mp h
  obtain ⟨c5, h⟩ := rx_and2.mp h
  obtain ⟨c6, h⟩ := rx_and2.mp h
  obtain ⟨c7, h⟩ := rx_and2.mp h
  obtain ⟨c8, h⟩ := rx_and2.mp h
  obtain ⟨c9, h⟩ := rx_and2.mp h
  obtain ⟨c10, h⟩ := rx_and2.mp h
  obtain ⟨c11, h⟩ := rx_and2.mp h
  obtain ⟨c12, h⟩ := rx_and2.mp h
  obtain ⟨c13, h⟩ := rx_and2.mp h
  obtain ⟨c14, h⟩ := rx_and2.mp h
  obtain ⟨c15, h⟩ := rx_and2.mp h
  obtain ⟨c16, h⟩ := rx_and2.mp h
  obtain ⟨c17, h⟩ := rx_and2.mp h
  obtain ⟨c18, h⟩ := rx_and2.mp h
  obtain ⟨c19, c20⟩ := rx_and2.mp h
  have hC := lw_htb_ok c1
  have hM := lw_htb_ok c2
  have ex : ∀ q g : Nat, ax_wM0.1[q]? = some g → ay_ex hp q := fun q g hq => by
    obtain ⟨k, n, tl, f, b1, b2, b3, b4⟩ := hM.2 q g hq
    exact ⟨k, n, f, b2⟩
  have x0 : ax_XC 0 [80] hp := by
    obtain ⟨k, n, f, e1, e2⟩ := lw_z_ok c5
    obtain ⟨k', n', f', e3, e4⟩ := lw_z_ok c6
    rw [e1] at e3
    cases e3
    exact ⟨k, n, 0, 0, f, e1, e2, e4, by decide⟩
  have m0 : ax_XM 0 0 [80] hp := by
    obtain ⟨k, n, f, e1, e2⟩ := lw_z_ok c7
    obtain ⟨k', n', f', e3, e4⟩ := lw_z_ok c8
    rw [e1] at e3
    cases e3
    exact ⟨k, n, 0, 0, f, e1, e2, e4, by decide⟩
  have m25 : ax_XM 0 25 [] hp := by
    refine ⟨ex _ _ rfl, ex _ _ rfl, ex _ _ rfl, ?_⟩
    rw [lw_z_ay c11]
    intro j hj
    exact absurd (show j < 2 * (0 / 4) from hj) (by omega)
  have m26 : ax_XM 0 26 [] hp := by
    refine ⟨ex _ _ rfl, ex _ _ rfl, ?_⟩
    rw [lw_z_ay c12]
    intro k hk
    have hk : k ≤ 0 / 4 := hk
    have : k = 0 := by omega
    subst this
    intro z
    cases z
  refine Or.inl ⟨⟨hC, x0, hM, m0, lw_zz_ok c9, lw_zz_ok c10, m25, m26⟩, ⟨1, rfl, ?_, ?_⟩, ⟨lw_v_ok c17, lw_v_ok c18, lw_v_ok c19, lw_v_ok c20⟩, (lw_z_ay c13).trans (lw_z_ay c14).symm, (lw_v_ok c15).trans (lw_v_ok c16).symm⟩
  · unfold lw_x30C
    rw [lw_z_ay c3]
    exact ⟨rfl, by decide, fun j hj => absurd (show j < 0 from hj) (by omega)⟩
  · unfold lw_x30M
    rw [lw_z_ay c4]
    exact ⟨rfl, by decide, fun j hj => absurd (show j < 0 from hj) (by omega)⟩
noncomputable def lw_lT : List Nat := [2, 2, 2, 2, 2, 2, 2, 2, 2, 2, 2, 2, 2, 2]
noncomputable def lw_lM : List Nat := [2, 2, 2, 2, 2, 2, 2, 2, 2, 0, 2, 0, 0, 0, 0, 0, 0, 0, 0, 0, 0, 0, 2, 0, 0, 0, 2, 0, 0, 2, 2, 2, 2, 2, 2, 2, 2, 2, 2, 2, 0, 0, 0, 0, 2, 2, 2, 2, 2, 0, 0, 0, 0, 2, 2, 2, 0, 0]
noncomputable def lw_h1 : rx_H := rx_hp rx_h0 (10, 14, lw_lT)
noncomputable def lw_run1 : Option (List rx_O) := rx_run rx_P (rx_DF, rx_FK) 200000 rxm_182 (0, rx_args [10] (rx_mL (rx_n rxm_182)), [], lw_h1, [], 0, 0)
noncomputable def lw_run2 (hA : rx_H) : Option (List rx_O) := rx_run rx_P (rx_DF, rx_FK) 200000 rxm_265 (0, rx_args [702] (rx_mL (rx_n rxm_265)), [], rx_hp hA (11, 58, lw_lM), [], 0, 0)
noncomputable def lw_g2 (o : Option (List rx_O)) : Bool := match o with
  | some [(_, hB, [])] => lw_chkB hB && lw_chkR hB
  | _ => false
noncomputable def lw_g1 (o : Option (List rx_O)) : Bool := match o with
  | some [(_, hA, [])] => Nat.beq hA.1 173 && lw_g2 (lw_run2 hA)
  | _ => false
theorem lw_go : lw_g1 lw_run1 = true := by decide +kernel
