theorem ax_ev_sy {n k v : Nat} {ρ : Nat → Nat} (h : ax_ev n ρ (4 * k + 3) = some v) : ρ k = v := by
  unfold ax_ev at h
  have e1 : (4 * k + 3) % 4 = 3 := by omega
  have e2 : (4 * k + 3) / 4 = k := by omega
  rw [if_pos e1, e2] at h
  by_cases hk : k < n
  · rw [if_pos hk] at h; exact Option.some.inj h
  · rw [if_neg hk] at h; cases h
theorem ax_ev_cc {n a v : Nat} {ρ : Nat → Nat} (ha : a % 4 ≠ 3) (h : ax_ev n ρ a = some v) : v = a := by
  rw [ax_ev_c ha] at h
  exact (Option.some.inj h).symm
theorem ax_FO_c {n qH i k : Nat} {ρ : Nat → Nat} {hp : rx_H} (h : ax_FO n ρ hp (4 * (qH + 2) + 2, 4 * i, 4 * k + 3)) : ∃ (kk m : Nat) (f : List Nat), rx_hg hp qH = some (kk, m, f) ∧ f[i]? = some (ρ k) := by
  obtain ⟨a, j, v, kk, m, f, h1, h2, h3, _, _, _, h7, h8⟩ := h
  have e1 := ax_ev_cc (a := 4 * (qH + 2) + 2) (by omega) h1
  have e2 := ax_ev_cc (a := 4 * i) (by omega) h2
  have e3 := ax_ev_sy (k := k) h3
  have e4 : a / 4 - 2 = qH := by omega
  have e5 : j / 4 = i := by omega
  rw [e4] at h7
  rw [e5, ← e3] at h8
  exact ⟨kk, m, f, h7, h8⟩
/-- the named fact over two numbers, told of the symbols that stand for them -/
theorem ax_two_sum {w : ax_W} {X : ax_X} {E : ax_E} {qH iD iU b n n' : Nat} (hX : ∀ vs hp, X 0 vs hp → ax_X2 qH iD iU b hp) (hx : (0, []) ∈ E.2.2.2.2) (f1 : (4 * (qH + 2) + 2, 4 * iD, 4 * n + 3) ∈ E.2.2.1) (f2 : (4 * (qH + 2) + 2, 4 * iU, 4 * n' + 3) ∈ E.2.2.1) (ρ : Nat → Nat) (hp : rx_H) (hE : ax_EO w X ρ E hp) : rx_bi (ρ n / 4) + rx_bi (ρ n' / 4) ≤ b := by
  obtain ⟨vs, v1, v2⟩ := hE.2.2.2.2 _ hx
  unfold ax_XF at v2
  rw [if_pos (by decide)] at v2
  obtain ⟨k, m, d, u, f, e1, e2, e3, e4⟩ := hX vs hp v2
  obtain ⟨k1, m1, l1, a1, a2⟩ := ax_FO_c (hE.2.2.1 _ f1)
  obtain ⟨k2, m2, l2, b1, b2⟩ := ax_FO_c (hE.2.2.1 _ f2)
  rw [e1] at a1 b1
  cases a1
  cases b1
  rw [e2] at a2
  rw [e3] at b2
  rw [← Option.some.inj a2, ← Option.some.inj b2, Nat.mul_div_cancel_left d (by decide), Nat.mul_div_cancel_left u (by decide)]
  exact e4
