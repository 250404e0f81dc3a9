/-! Nets: switches 0 .. n - 1, links 0 .. L - 1; a channel c begins at E c and ends at E (nf c) -/
def nf (c : Nat) : Nat := if c % 2 = 0 then c + 1 else c - 1
theorem nf_nf (c : Nat) : nf (nf c) = c := by unfold nf; split <;> split <;> omega
theorem nf_lt {c L : Nat} (h : c < 2 * L) : nf c < 2 * L := by unfold nf; split <;> omega
theorem nf_div (c : Nat) : nf c / 2 = c / 2 := by unfold nf; split <;> omega
theorem nf_mod (c : Nat) : nf c % 2 = 1 - c % 2 := by unfold nf; split <;> omega
theorem nf_ne (c : Nat) : nf c ≠ c := by unfold nf; split <;> omega
def nt_ok (n L : Nat) (E : Nat → Nat) : Prop := n ≤ 10 ∧ L ≤ 20 ∧ ∀ j, j < 2 * L → E j < n ∧ E j ≠ E (nf j)
theorem pg_hole : ∀ (n d : Nat) (g : Nat → Nat), (∀ k, k ≤ d → g k < n) → (∀ i j, i ≤ d → j ≤ d → g i = g j → i = j) → d < n
  | 0, d, g, h, _ => absurd (h 0 (Nat.zero_le d)) (Nat.not_lt_zero _)
  | n + 1, d, g, h, hi => by
    by_cases hx : ∃ k, k ≤ d ∧ g k = n
    · obtain ⟨k0, h0, h1⟩ := hx
      rcases Nat.eq_zero_or_pos d with hd | hd
      · omega
      · have := pg_hole n (d - 1) (fun k => g (if k < k0 then k else k + 1)) (fun k hk => by
          show g (if k < k0 then k else k + 1) < n
          have h2 : (if k < k0 then k else k + 1) ≤ d := by split <;> omega
          have h3 := h _ h2
          have h4 : g (if k < k0 then k else k + 1) ≠ n := fun z => by
            have := hi _ k0 h2 h0 (z.trans h1.symm)
            split at this <;> omega
          omega) (fun i j hi2 hj hij => by
          have h2 : (if i < k0 then i else i + 1) ≤ d := by split <;> omega
          have h3 : (if j < k0 then j else j + 1) ≤ d := by split <;> omega
          have := hi _ _ h2 h3 hij
          split at this <;> split at this <;> omega)
        omega
    · have := pg_hole n d g (fun k hk => by
        have h2 := h k hk
        have h3 : g k ≠ n := fun z => hx ⟨k, hk, z⟩
        omega) hi
      omega
/-- a walk of d channels that stand, from r -/
def wk (L : Nat) (E : Nat → Nat) (st : Nat → Bool) (r : Nat) : Nat → Nat → Prop
  | 0, v => v = r
  | d + 1, v => ∃ c, c < 2 * L ∧ st (c / 2) = true ∧ E (nf c) = v ∧ wk L E st r d (E c)
/-- how far -/
def ds (L : Nat) (E : Nat → Nat) (st : Nat → Bool) (r d v : Nat) : Prop := wk L E st r d v ∧ ∀ e, e < d → ¬ wk L E st r e v
section WK
variable {n L : Nat} {E : Nat → Nat} {st : Nat → Bool} {r : Nat}
theorem ds_fun {d e v : Nat} (h : ds L E st r d v) (h2 : ds L E st r e v) : d = e := by
  rcases Nat.lt_trichotomy d e with z | z | z
  · exact absurd h.1 (h2.2 d z)
  · exact z
  · exact absurd h2.1 (h.2 e z)
theorem ds_ex {d v : Nat} (h : wk L E st r d v) : ∃ e, e ≤ d ∧ ds L E st r e v := by
  induction d using Nat.strongRecOn with
  | ind d ih =>
    by_cases hx : ∃ e, e < d ∧ wk L E st r e v
    · obtain ⟨e, he, hw⟩ := hx
      obtain ⟨f, hf, hd⟩ := ih e he hw
      exact ⟨f, by omega, hd⟩
    · exact ⟨d, Nat.le_refl d, h, fun e he hw => hx ⟨e, he, hw⟩⟩
theorem ds_pred {d v : Nat} (h : ds L E st r (d + 1) v) : ∃ c, c < 2 * L ∧ st (c / 2) = true ∧ E (nf c) = v ∧ ds L E st r d (E c) := by
  obtain ⟨⟨c, h1, h2, h3, h4⟩, h5⟩ := h
  exact ⟨c, h1, h2, h3, h4, fun e he hw => h5 (e + 1) (by omega) ⟨c, h1, h2, h3, hw⟩⟩
theorem ds_down {d v : Nat} (h : ds L E st r d v) : ∀ k, k ≤ d → ∃ u, ds L E st r k u := by
  intro k hk
  induction d generalizing v with
  | zero => exact ⟨v, by rw [show k = 0 by omega]; exact h⟩
  | succ d ih =>
    rcases Nat.lt_or_ge d k with z | z
    · exact ⟨v, by rw [show k = d + 1 by omega]; exact h⟩
    · obtain ⟨c, _, _, _, h4⟩ := ds_pred h
      exact ih h4 z
theorem ds_v {d v : Nat} (hr : r < n) (hE : ∀ j, j < 2 * L → E j < n) (h : ds L E st r d v) : v < n := by
  cases d with
  | zero => rw [show v = r from h.1]; exact hr
  | succ d =>
    obtain ⟨c, h1, _, h3, _⟩ := ds_pred h
    rw [← h3]
    exact hE _ (nf_lt h1)
theorem ds_lt {d v : Nat} (hr : r < n) (hE : ∀ j, j < 2 * L → E j < n) (h : ds L E st r d v) : d < n := by
  have hx := ds_down h
  refine pg_hole n d (fun k => if hk : k ≤ d then (hx k hk).choose else 0) (fun k hk => ?_) (fun i j hi hj hij => ?_)
  · show (if hk : k ≤ d then (hx k hk).choose else 0) < n
    rw [dif_pos hk]
    exact ds_v hr hE (hx k hk).choose_spec
  · replace hij : (if hk : i ≤ d then (hx i hk).choose else 0) = (if hk : j ≤ d then (hx j hk).choose else 0) := hij
    rw [dif_pos hi, dif_pos hj] at hij
    have a := (hx i hi).choose_spec
    have b := (hx j hj).choose_spec
    rw [hij] at a
    exact ds_fun a b
theorem ds_none {m : Nat} (h : ∀ v, ¬ ds L E st r m v) : ∀ d, m ≤ d → ∀ v, ¬ ds L E st r d v := by
  intro d hd v hv
  obtain ⟨u, hu⟩ := ds_down hv m hd
  exact h u hu
theorem wk_none {v : Nat} (h : ∀ d, ¬ ds L E st r d v) (d : Nat) : ¬ wk L E st r d v := fun hw => by
  obtain ⟨e, _, he⟩ := ds_ex hw
  exact h e he
end WK
/-- the class's net -/
def cn (F : fx_F) (n L : Nat) (E : Nat → Nat) : Prop := F 3 0 = n ∧ F 3 1 = L ∧ ∀ c, c < 2 * L → F 4 c = E c ∧ F 5 c = E (nf c)
theorem cn.keep {F F' : fx_F} {n L : Nat} {E : Nat → Nat} (h : cn F n L E) {S : List Nat} (ho : fxo S F F') (h3 : 3 ∉ S) (h4 : 4 ∉ S) (h5 : 5 ∉ S) : cn F' n L E :=
  ⟨(ho 3 0 h3).trans h.1, (ho 3 1 h3).trans h.2.1, fun c hc => ⟨(ho 4 c h4).trans (h.2.2 c hc).1, (ho 5 c h5).trans (h.2.2 c hc).2⟩⟩
/-- how far all are, as the class tells it -/
def c_far (row : Nat → Nat) (n L : Nat) (E : Nat → Nat) (st : Nat → Bool) (r : Nat) : Prop := ∀ v, v < n → ((row v ≠ 4294967295 → ds L E st r (row v) v) ∧ ∀ d, ds L E st r d v → row v = d)
