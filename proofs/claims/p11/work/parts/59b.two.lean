/-- two numbers of one cell come to no more than a bound (both as told from the least int on) -/
noncomputable def ax_X2 (qH iD iU b : Nat) (hp : rx_H) : Prop := ∃ (k n d u : Nat) (f : List Nat), rx_hg hp qH = some (k, n, f) ∧ f[iD]? = some (4 * d) ∧ f[iU]? = some (4 * u) ∧ rx_bi d + rx_bi u ≤ b
theorem ax_mem_no {md : List (Nat × Nat)} {g i : Nat} (h : (!(md.any (fun y => Nat.beq y.1 g && (Nat.beq y.2 i || (Nat.beq y.2 999 || Nat.beq i 999))))) = true) : ax_mem md g i = false := by
  cases hm : ax_mem md g i with
  | false => rfl
  | true =>
    exfalso
    obtain ⟨y, hy, hb⟩ := List.any_eq_true.mp hm
    have h1 : md.any (fun y => Nat.beq y.1 g && (Nat.beq y.2 i || (Nat.beq y.2 999 || Nat.beq i 999))) = true := by
      refine List.any_eq_true.mpr ⟨y, hy, ?_⟩
      obtain ⟨h2, h3⟩ := rx_and2.mp hb
      refine rx_and2.mpr ⟨h2, ?_⟩
      cases e1 : Nat.beq y.2 i with
      | true => rfl
      | false =>
        rw [e1] at h3
        replace h3 : Nat.beq y.2 999 = true := h3
        rw [h3]
        rfl
    rw [h1] at h
    cases h
theorem ax_XD_two {w : ax_W} {g qH iD iU b : Nat} (hq : w.1[qH]? = some g) (hd : w.2.2 = [[(g, iD), (g, iU)]]) : ax_XD w (fun x _ hp => x = 0 → ax_X2 qH iD iU b hp) := by
  intro x vs dl md hp hp' hdl hall hR hX h0
  rw [hd, h0] at hdl
  cases hdl
  obtain ⟨k, n, d, u, f, e1, e2, e3, e4⟩ := hX h0
  obtain ⟨f', e5, e6⟩ := hR.2 qH g hq k n f e1
  have hD := ax_mem_no (List.all_eq_true.mp hall (g, iD) List.mem_cons_self)
  have hU := ax_mem_no (List.all_eq_true.mp hall (g, iU) (List.mem_cons_of_mem _ List.mem_cons_self))
  exact ⟨k, n, d, u, f', e5, (e6 iD hD).trans e2, (e6 iU hU).trans e3, e4⟩
