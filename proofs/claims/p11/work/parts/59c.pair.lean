section AXQ
variable {w : ax_W} {X : ax_X} {P : List rx_M} {K : rx_K} {q : rx_M} {vs : List Nat} {md : List (Nat × Nat)} {ps : List ax_T}
theorem ax_ok_bi {lo hi v : Nat} (h : ax_ok w (0, lo, hi) v) : ∃ c, rx_bi (v / 4) = c ∧ lo ≤ c ∧ c ≤ hi ∧ ax_ok w (0, c, c) v := by
  rcases h with ⟨_, b1, b2, b3, b4⟩ | ⟨b, _⟩ | ⟨b, _⟩ | ⟨b, _⟩
  · obtain ⟨c, hc⟩ : ∃ c, rx_bi (v / 4) = c := ⟨_, rfl⟩
    replace b3 : lo ≤ rx_bi (v / 4) := b3
    replace b4 : rx_bi (v / 4) ≤ hi := b4
    rw [hc] at b3 b4
    exact ⟨c, hc, b3, b4, Or.inl ⟨rfl, b1, b2, Nat.le_of_eq hc.symm, Nat.le_of_eq hc⟩⟩
  · cases b
  · cases b
  · cases b
/-- the two newest symbols' numbers, pair by pair, where the pairs keep a bound together -/
theorem ax_con_pair {n lo1 hi1 lo2 hi2 b : Nat} {ty : List ax_Y} {e : List (Nat × Nat × Nat) × List (Nat × Nat × Nat) × List ax_N} (HR : ∀ (ρ : Nat → Nat) (hp : rx_H), ax_EO w X ρ (n + 2, (0, lo2, hi2) :: (0, lo1, hi1) :: ty, e) hp → rx_bi (ρ n / 4) + rx_bi (ρ (n + 1) / 4) ≤ b) (H : ∀ c d, lo1 ≤ c → c ≤ hi1 → lo2 ≤ d → d ≤ hi2 → c + d ≤ b → ax_Con w X P K q ((vs, (n + 2, (0, d, d) :: (0, c, c) :: ty, e)), md, ps)) : ax_Con w X P K q ((vs, (n + 2, (0, lo2, hi2) :: (0, lo1, hi1) :: ty, e)), md, ps) := by
  refine ax_con_ext ?_
  intro ρ hp hE hT
  have hs := HR ρ hp hE
  obtain ⟨g1, g2, g3⟩ := hE
  have z0 : n + 2 - 1 - (n + 1) = 0 := by omega
  have z1 : n + 2 - 1 - n = 1 := by omega
  have h1 := g2 (n + 1) (0, lo2, hi2) (Nat.lt_succ_self _) (by show ((0, lo2, hi2) :: (0, lo1, hi1) :: ty)[n + 2 - 1 - (n + 1)]? = some (0, lo2, hi2); rw [z0]; rfl)
  have h0 := g2 n (0, lo1, hi1) (by show n < n + 2; omega) (by show ((0, lo2, hi2) :: (0, lo1, hi1) :: ty)[n + 2 - 1 - n]? = some (0, lo1, hi1); rw [z1]; rfl)
  obtain ⟨c, c1, c2, c3, c4⟩ := ax_ok_bi h0
  obtain ⟨d, d1, d2, d3, d4⟩ := ax_ok_bi h1
  rw [c1, d1] at hs
  refine ⟨(n + 2, (0, d, d) :: (0, c, c) :: ty, e), ρ, Nat.le_refl _, fun _ _ => rfl, ⟨g1, ?_, g3⟩, H c d c2 c3 d2 d3 hs⟩
  intro k t hk ht
  replace hk : k < n + 2 := hk
  replace ht : ((0, d, d) :: (0, c, c) :: ty)[n + 2 - 1 - k]? = some t := ht
  rcases Nat.lt_or_ge k n with hlt | hge
  · refine g2 k t hk ?_
    obtain ⟨m, hm⟩ : ∃ m, n + 2 - 1 - k = m + 2 := ⟨n - k - 1, by omega⟩
    show ((0, lo2, hi2) :: (0, lo1, hi1) :: ty)[n + 2 - 1 - k]? = some t
    rw [hm] at ht ⊢
    exact ht
  · rcases Nat.lt_or_ge n k with hl2 | hl2
    · have hkn : k = n + 1 := by omega
      rw [hkn, z0] at ht
      rw [hkn]
      cases ht
      exact d4
    · have hkn : k = n := by omega
      rw [hkn, z1] at ht
      rw [hkn]
      cases ht
      exact c4
end AXQ
