/-! How rules are proved -/
noncomputable def ax_vl (ρ : Nat → Nat) (v : Nat) : Nat := if v % 4 = 3 then ρ (v / 4) else v
theorem ax_vl_ev {n : Nat} {ρ : Nat → Nat} {v x : Nat} (h : ax_ev n ρ v = some x) : x = ax_vl ρ v := by
  unfold ax_ev at h
  unfold ax_vl
  by_cases h3 : v % 4 = 3
  · rw [if_pos h3] at h ⊢
    by_cases hl : v / 4 < n
    · rw [if_pos hl] at h; exact (Option.some.inj h).symm
    · rw [if_neg hl] at h; cases h
  · rw [if_neg h3] at h ⊢
    exact (Option.some.inj h).symm
theorem ax_vl_evs {n : Nat} {ρ : Nat → Nat} : ∀ {l vs : List Nat}, l.map (ax_ev n ρ) = vs.map some → vs = l.map (ax_vl ρ)
  | [], [], _ => rfl
  | [], _ :: _, h => by cases h
  | _ :: _, [], h => by cases h
  | v :: l, x :: vs, h => by
    obtain ⟨x', r, e, h1, h2⟩ := ax_evs_cons h
    cases e
    rw [List.map_cons, ax_vl_ev h1, ← ax_vl_evs h2]
theorem ax_ev_vl {n : Nat} {ρ : Nat → Nat} {v : Nat} (h : ax_sc n v = true) : ax_ev n ρ v = some (ax_vl ρ v) := by
  unfold ax_ev ax_vl
  by_cases h3 : v % 4 = 3
  · rw [if_pos h3, if_pos h3, if_pos (ax_sc_ok h _ h3 rfl)]
  · rw [if_neg h3, if_neg h3]
theorem ax_evs_vl {n : Nat} {ρ : Nat → Nat} : ∀ {l : List Nat}, l.all (ax_sc n) = true → l.map (ax_ev n ρ) = (l.map (ax_vl ρ)).map some
  | [], _ => rfl
  | v :: l, h => by
    replace h : (ax_sc n v && l.all (ax_sc n)) = true := h
    obtain ⟨h1, h2⟩ := rx_and2.mp h
    exact ax_evs_push (ax_ev_vl h1) (ax_evs_vl h2)
section AXG
variable {w : ax_W} {X : ax_X} {ρ : Nat → Nat} {E : ax_E} {hp : rx_H}
/-- a named fact of a pattern -/
theorem ax_gx (hE : ax_EO w X ρ E hp) (x : ax_N) (h : x ∈ E.2.2.2.2) : ax_XF X x.1 (x.2.map (ax_vl ρ)) hp := by
  obtain ⟨vs, h1, h2⟩ := hE.2.2.2.2 x h
  rw [← ax_vl_evs h1]
  exact h2
/-- a cell's content of a pattern -/
theorem ax_gf (hE : ax_EO w X ρ E hp) (f : Nat × Nat × Nat) (h : (1200, [f.1, f.2.1, f.2.2]) ∈ E.2.2.2.2) : ∃ (k m : Nat) (l : List Nat), rx_hg hp (ax_vl ρ f.1 / 4 - 2) = some (k, m, l) ∧ l[ax_vl ρ f.2.1 / 4]? = some (ax_vl ρ f.2.2) := by
  obtain ⟨-, -, -, h⟩ := ax_XF_cc.mp (ax_gx hE _ h)
  exact h
/-- an int of a pattern -/
theorem ax_gi (hE : ax_EO w X ρ E hp) (k lo hi : Nat) (hk : k < E.1) (h : E.2.1[E.1 - 1 - k]? = some (0, lo, hi)) : ∃ c, ρ k = 4 * c ∧ c < 4294967296 ∧ lo ≤ rx_bi c ∧ rx_bi c ≤ hi := by
  rcases hE.2.1 k _ hk h with ⟨_, b1, b2, b3, b4⟩ | ⟨b, _⟩ | ⟨b, _⟩ | ⟨b, _⟩
  · exact ⟨ρ k / 4, by omega, b2, b3, b4⟩
  · cases b
  · cases b
  · cases b
/-- a long of a pattern -/
theorem ax_gj (hE : ax_EO w X ρ E hp) (k : Nat) (hk : k < E.1) (h : E.2.1[E.1 - 1 - k]? = some (1, 0, 0)) : ∃ c, ρ k = 4 * c + 1 := by
  rcases hE.2.1 k _ hk h with ⟨b, _⟩ | ⟨_, b⟩ | ⟨b, _⟩ | ⟨b, _⟩
  · cases b
  · exact ⟨ρ k / 4, by omega⟩
  · cases b
  · cases b
/-- what is concluded, with no new symbol -/
theorem ax_px {n : Nat} {ty : List ax_Y} {e : List (Nat × Nat × Nat) × List (Nat × Nat × Nat) × List ax_N} {xf : List ax_N} (hE : ax_EO w X ρ (n, ty, e) hp) (hs : xf.all (fun x => x.2.all (ax_sc n)) = true) (h : ∀ x ∈ xf, ax_XF X x.1 (x.2.map (ax_vl ρ)) hp) : ax_EO w X ρ (n, ty, [], [], xf) hp := by
  refine ⟨hE.1, hE.2.1, fun f hf => (by cases hf), fun d hd => (by cases hd), fun x hx => ?_⟩
  exact ⟨x.2.map (ax_vl ρ), ax_evs_vl (List.all_eq_true.mp hs x hx), h x hx⟩
/-- .. with one new symbol, a number that is no machine's -/
theorem ax_pn {n K : Nat} {ty : List ax_Y} {e : List (Nat × Nat × Nat) × List (Nat × Nat × Nat) × List ax_N} {xf : List ax_N} (hE : ax_EO w X ρ (n, ty, e) hp) (hs : xf.all (fun x => x.2.all (ax_sc (n + 1))) = true) (h : ∀ ρ' : Nat → Nat, (∀ k, k < n → ρ' k = ρ k) → ρ' n = 4 * K + 1 → ∀ x ∈ xf, ax_XF X x.1 (x.2.map (ax_vl ρ')) hp) : ∃ ρ' : Nat → Nat, (∀ k, k < n → ρ' k = ρ k) ∧ ax_EO w X ρ' (n + 1, (1, 0, 0) :: ty, [], [], xf) hp := by
  obtain ⟨ρ', h1, h2, h3⟩ := ax_new_ok hE (t := (1, 0, 0)) (x := 4 * K + 1) (Or.inr (Or.inl ⟨rfl, by omega⟩))
  have hn : ρ' n = 4 * K + 1 := ax_ev_sy (n := n + 1) (k := n) h3
  refine ⟨ρ', h1, ⟨h2.1, h2.2.1, fun f hf => (by cases hf), fun d hd => (by cases hd), fun x hx => ?_⟩⟩
  exact ⟨x.2.map (ax_vl ρ'), ax_evs_vl (List.all_eq_true.mp hs x hx), h ρ' h1 hn x hx⟩
end AXG
theorem ax_bi_nat {c : Nat} (h : c < 2147483648) : rx_bi c = c + 2147483648 := by
  rw [ax_bi_def]
  omega
/-- an int that is not below 0 -/
theorem ax_bi_pos {c : Nat} (h : c < 4294967296) (h1 : 2147483648 ≤ rx_bi c) : c < 2147483648 ∧ rx_bi c = c + 2147483648 := by
  rw [ax_bi_def] at h1 ⊢
  omega
theorem ax_hg_upd {hp : rx_H} {a i v k n : Nat} {f : List Nat} (h : hp.1 ≤ 256) (hg : rx_hg hp (a / 4 - 2) = some (k, n, f)) (q : Nat) : rx_hg (ax_upd hp a i v) q = if q = a / 4 - 2 then some (k, n, f.set (i / 4) v) else rx_hg hp q := by
  unfold ax_upd
  rw [hg]
  exact rx_hg_hs h (rx_hg_lt hg)
/-- a sum that is exact -/
theorem ax_gs {w : ax_W} {X : ax_X} {ρ : Nat → Nat} {E : ax_E} {hp : rx_H} (hE : ax_EO w X ρ E hp) (p q r : Nat) (h : (1015, [p, q, r, 0]) ∈ E.2.2.2.2) : ∃ a b c : Nat, ax_vl ρ p = 4 * a ∧ ax_vl ρ q = 4 * b ∧ ax_vl ρ r = 4 * c ∧ a < 4294967296 ∧ b < 4294967296 ∧ c < 4294967296 ∧ rx_bi a + rx_bi b = rx_bi c + 2147483648 := by
  obtain ⟨-, h⟩ := (ax_XF_bi (o := 15) (by decide)).mp (ax_gx hE _ h)
  exact h
/-- how two numbers stand to each other -/
theorem ax_gc {w : ax_W} {X : ax_X} {ρ : Nat → Nat} {E : ax_E} {hp : rx_H} (hE : ax_EO w X ρ E hp) (k p q : Nat) (hk : k < 6) (h : (1020 + k, [p, q]) ∈ E.2.2.2.2) : ax_cnd k (rx_bi (ax_vl ρ p / 4)) (rx_bi (ax_vl ρ q / 4)) := by
  have h1 := ax_gx hE _ h
  have e : 1020 + k = 1000 + (20 + k) := by omega
  dsimp only at h1
  rw [e] at h1
  rcases (ax_XF_bi (by omega)).mp h1 with ⟨k', h2, h3, h4⟩ | ⟨h3, -⟩
  · have e2 : k' = k := by omega
    rw [e2] at h4
    exact h4
  · omega
/-- a number over another plus 1 -/
theorem ax_sum1 {a b c : Nat} (hb : b = 1) (ha : a < 2147483648) (hc : c < 4294967296) (h : rx_bi a + rx_bi b = rx_bi c + 2147483648) : c = a + 1 := by
  subst hb
  rw [ax_bi_nat ha, ax_bi_nat (show 1 < 2147483648 by decide), ax_bi_def] at h
  omega
theorem ax_vl_c {ρ : Nat → Nat} {v : Nat} (h : v % 4 ≠ 3) : ax_vl ρ v = v := by unfold ax_vl; rw [if_neg h]
/-- a cell's content of a pattern, its place and index told -/
theorem ax_gF {w : ax_W} {X : ax_X} {ρ : Nat → Nat} {E : ax_E} {hp : rx_H} (hE : ax_EO w X ρ E hp) (a i v q j x : Nat) (h : (1200, [a, i, v]) ∈ E.2.2.2.2) (e1 : ax_vl ρ a / 4 - 2 = q) (e2 : ax_vl ρ i / 4 = j) (e3 : ax_vl ρ v = x) : ∃ (k m : Nat) (l : List Nat), rx_hg hp q = some (k, m, l) ∧ l[j]? = some x := by
  obtain ⟨k, m, l, h1, h2⟩ := ax_gf hE (a, i, v) h
  refine ⟨k, m, l, ?_, ?_⟩
  · rw [← e1]; exact h1
  · rw [← e2, ← e3]; exact h2
theorem ax_ro_nil {w : ax_W} {X : ax_X} : ∀ x ∈ ([] : List ax_RL), ax_RO w X x := by
  intro x hx
  cases hx
theorem ax_ro_cons {w : ax_W} {X : ax_X} {r : ax_RL} {rl : List ax_RL} (h : ax_RO w X r) (hl : ∀ x ∈ rl, ax_RO w X x) : ∀ x ∈ r :: rl, ax_RO w X x := by
  intro x hx
  rcases List.mem_cons.mp hx with e | e
  · rw [e]; exact h
  · exact hl x e
