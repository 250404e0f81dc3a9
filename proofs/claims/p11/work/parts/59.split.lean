section AXP
variable {w : ax_W} {X : ax_X} {P : List rx_M} {K : rx_K} {q : rx_M} {vs : List Nat} {md : List (Nat × Nat)} {ps ps' : List ax_T}
/-- a contract holds if at every state one with more known does -/
theorem ax_con_ext {E : ax_E} (H : ∀ (ρ : Nat → Nat) (hp : rx_H), ax_EO w X ρ E hp → ax_HT w hp → ∃ (E1 : ax_E) (ρ1 : Nat → Nat), E.1 ≤ E1.1 ∧ (∀ k, k < E.1 → ρ1 k = ρ k) ∧ ax_EO w X ρ1 E1 hp ∧ ax_Con w X P K q ((vs, E1), md, ps)) : ax_Con w X P K q ((vs, E), md, ps) := by
  intro ρ hp as has hE hT
  obtain ⟨E1, ρ1, hn, ha, hE1, hC⟩ := H ρ hp hE hT
  obtain ⟨o, h1, po, hpo, ρ', r, hk, h2⟩ := hC ρ1 hp as (ax_evs_mono hn ha has) hE1 hT
  exact ⟨o, h1, po, hpo, ρ', r, fun k hk' => (hk k (Nat.lt_of_lt_of_le hk' hn)).trans (ha k hk'), h2⟩
/-- what is promised may be less -/
theorem ax_con_post {T : ax_T} (H : ∀ po ∈ ps, ∃ po' ∈ ps', po'.1 = po.1 ∧ po'.2.1 = po.2.1 ∧ ∀ (ρ : Nat → Nat) (hp : rx_H), ax_EO w X ρ po.2 hp → ax_EO w X ρ po'.2 hp) (h : ax_Con w X P K q (T, md, ps)) : ax_Con w X P K q (T, md, ps') := by
  intro ρ hp as has hE hT
  obtain ⟨o, h1, po, hpo, ρ', r, hk, h2, h3, h4, h5⟩ := h ρ hp as has hE hT
  obtain ⟨po', hpo', e1, e2, e3⟩ := H po hpo
  exact ⟨o, h1, po', hpo', ρ', r, hk, e1.trans h2, by rw [e2]; exact h3, e3 ρ' _ h4, h5⟩
/-- the newest symbol's number, one by one -/
theorem ax_con_iv {n lo hi : Nat} {ty : List ax_Y} {e : List (Nat × Nat × Nat) × List (Nat × Nat × Nat) × List ax_N} (H : ∀ c, lo ≤ c → c ≤ hi → ax_Con w X P K q ((vs, (n + 1, (0, c, c) :: ty, e)), md, ps)) : ax_Con w X P K q ((vs, (n + 1, (0, lo, hi) :: ty, e)), md, ps) := by
  refine ax_con_ext ?_
  intro ρ hp hE hT
  obtain ⟨g1, g2, g3⟩ := hE
  have hz : n + 1 - 1 - n = 0 := by omega
  have h0 := g2 n (0, lo, hi) (Nat.lt_succ_self n) (by show ((0, lo, hi) :: ty)[n + 1 - 1 - n]? = some (0, lo, hi); rw [hz]; rfl)
  rcases h0 with ⟨_, b1, b2, b3, b4⟩ | ⟨b, _⟩ | ⟨b, _⟩ | ⟨b, _⟩
  · obtain ⟨c, hc⟩ : ∃ c, rx_bi (ρ n / 4) = c := ⟨_, rfl⟩
    replace b3 : lo ≤ rx_bi (ρ n / 4) := b3
    replace b4 : rx_bi (ρ n / 4) ≤ hi := b4
    rw [hc] at b3 b4
    refine ⟨(n + 1, (0, c, c) :: ty, e), ρ, Nat.le_refl _, fun _ _ => rfl, ⟨g1, ?_, g3⟩, H c b3 b4⟩
    intro k t hk ht
    rcases Nat.lt_or_ge k n with hlt | hge
    · refine g2 k t hk ?_
      have hs : ∃ m, n + 1 - 1 - k = m + 1 := ⟨n - k - 1, by omega⟩
      obtain ⟨m, hm⟩ := hs
      replace ht : ((0, c, c) :: ty)[n + 1 - 1 - k]? = some t := ht
      show ((0, lo, hi) :: ty)[n + 1 - 1 - k]? = some t
      rw [hm] at ht ⊢
      exact ht
    · have hkn : k = n := Nat.le_antisymm (Nat.le_of_lt_succ hk) hge
      rw [hkn] at ht ⊢
      replace ht : ((0, c, c) :: ty)[n + 1 - 1 - n]? = some t := ht
      rw [hz] at ht
      cases ht
      exact Or.inl ⟨rfl, b1, b2, Nat.le_of_eq hc.symm, Nat.le_of_eq hc⟩
  · cases b
  · cases b
  · cases b
/-- a field's number gets a symbol -/
theorem ax_con_rd {E : ax_E} {a g i k m lo hi : Nat} {tl : List (Nat × ax_Y)} (ha : ∀ (ρ : Nat → Nat) (hp : rx_H), ax_EO w X ρ E hp → ∃ av, ax_ev E.1 ρ a = some av ∧ av % 4 = 2 ∧ 2 ≤ av / 4 ∧ w.1[av / 4 - 2]? = some g) (hg : w.2.1[g]? = some (k, m, tl)) (hi' : i < m) (ht : ax_at tl i = some (0, lo, hi)) (H : ax_Con w X P K q ((vs, ax_addF (ax_new E (0, lo, hi)) (a, 4 * i, ax_sym (ax_n E))), md, ps)) : ax_Con w X P K q ((vs, E), md, ps) := by
  refine ax_con_ext ?_
  intro ρ hp hE hT
  obtain ⟨av, a1, a2, a3, a4⟩ := ha ρ hp hE
  obtain ⟨k', n', tl', f, b1, b2, b3, b4⟩ := hT.2 _ _ a4
  rw [hg] at b1
  cases b1
  have hv : ∃ v, f[i]? = some v := ⟨_, List.getElem?_eq_getElem (by rw [b3]; exact hi')⟩
  obtain ⟨v, hv⟩ := hv
  obtain ⟨t, c1, c2⟩ := b4 i v hv
  rw [ht] at c1
  cases c1
  obtain ⟨ρ', d1, d2, d3⟩ := ax_new_ok hE c2
  have hm4 : 4 * i / 4 = i := by omega
  refine ⟨ax_addF (ax_new E (0, lo, hi)) (a, 4 * i, ax_sym (ax_n E)), ρ', Nat.le_succ _, d1, ⟨d2.1, d2.2.1, ?_, d2.2.2.2⟩, H⟩
  intro x hx
  rcases List.mem_cons.mp hx with e | e
  · rw [e]
    exact ⟨av, 4 * i, v, _, _, f, ax_ev_mono (Nat.le_succ _) d1 a1, ax_ev_c (v := 4 * i) (by omega), d3, a2, a3, by omega, b2, by rw [hm4]; exact hv⟩
  · exact d2.2.2.1 x e
end AXP
