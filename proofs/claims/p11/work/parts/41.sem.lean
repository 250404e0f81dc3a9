/-! What the abstract interpreter's data stand for -/
/-- what an operation does with two known ints -/
noncomputable def ax_f (o : Nat) : Nat → Nat → Option Nat := match o with
  | 0 => rx_f_add | 1 => rx_f_sub | 2 => rx_f_mul | 3 => rx_f_and | 4 => rx_f_or | 5 => rx_f_xor | 6 => rx_f_shl | 7 => rx_f_shr | 8 => rx_f_ushr | 9 => rx_f_div | 10 => rx_f_rem | _ => rx_f_no
/-- a condition, by the numbers -/
noncomputable def ax_cnd (k x y : Nat) : Prop := match k with
  | 0 => x = y | 1 => x ≠ y | 2 => x < y | 3 => y ≤ x | 4 => y < x | _ => x ≤ y
noncomputable def ax_jf (j : Nat) : Nat → Nat → Nat := match j with
  | 0 => rx_j_add | 1 => rx_j_sub | 2 => rx_j_mul | 3 => rx_j_and | 4 => rx_j_or | _ => rx_j_xor
noncomputable def ax_lz (o x y : Nat) : Nat := bif Nat.beq o 112 then rx_int (rx_f_lcmp x y) else bif Nat.beq o 104 then rx_lng (rx_j_shl x y) else rx_lng (rx_j_shr x y)
noncomputable def ax_uf (o : Nat) : Nat → Nat := bif Nat.beq o 43 then rx_f_i2b else rx_f_neg
/-- facts of numbers alone: 0 .. 10 what a number was made of, 15 a sum that is exact, 20 .. 25 how two stand to each other, 30 one is less (as codes), 96 .. 101 longs, 112 longs compared -/
noncomputable def ax_BI (o : Nat) (vs : List Nat) : Prop := match vs with
  | [x, y, z] => (o ≤ 10 ∧ x % 4 = 0 ∧ y % 4 = 0 ∧ ∃ r, ax_f o (x / 4) (y / 4) = some r ∧ r < 4294967296 ∧ z = rx_int r) ∨ (∃ j, j ≤ 5 ∧ o = 96 + j ∧ x % 4 = 1 ∧ y % 4 = 1 ∧ z = rx_lng (ax_jf j (x / 4) (y / 4))) ∨ (((o = 112 ∧ y % 4 = 1) ∨ ((o = 104 ∨ o = 105) ∧ y % 4 = 0)) ∧ x % 4 = 1 ∧ z = ax_lz o (x / 4) (y / 4))
  | [x, y, z, _, _] => ((o = 40 ∨ o = 41) ∧ rx_prim (o - 39) [y, x] = some [z]) ∨ (o = 42 ∧ rx_primS 4 [y, x] = some [z]) ∨ ((o = 43 ∨ o = 44) ∧ x % 4 = 0 ∧ z = rx_int (ax_uf o (x / 4)))
  | [x, y, z, _] => o = 15 ∧ ∃ a b c : Nat, x = 4 * a ∧ y = 4 * b ∧ z = 4 * c ∧ a < 4294967296 ∧ b < 4294967296 ∧ c < 4294967296 ∧ rx_bi a + rx_bi b = rx_bi c + 2147483648
  | [x, y] => (∃ k, k < 6 ∧ o = 20 + k ∧ ax_cnd k (rx_bi (x / 4)) (rx_bi (y / 4))) ∨ (o = 30 ∧ x < y)
  | _ => False
/-- the heap behind a write -/
noncomputable def ax_upd (hp : rx_H) (a i v : Nat) : rx_H := match rx_hg hp (a / 4 - 2) with
  | some (k, n, f) => rx_hs hp (a / 4 - 2) (k, n, f.set (i / 4) v)
  | none => hp
/-- what a cell holds -/
noncomputable def ax_CC (hp : rx_H) (a i v : Nat) : Prop := a % 4 = 2 ∧ 2 ≤ a / 4 ∧ i % 4 = 0 ∧ ∃ (k m : Nat) (l : List Nat), rx_hg hp (a / 4 - 2) = some (k, m, l) ∧ l[i / 4]? = some v
/-- a named fact: below 500 as it is given, 500 and on: behind a write, 1000 and on: of numbers alone, 1200: what a cell holds -/
noncomputable def ax_XF (X : ax_X) (x : Nat) (vs : List Nat) (hp : rx_H) : Prop := if x < 500 then X x vs hp else if x < 1000 then (match vs with
    | a :: i :: v :: r => X (x - 500) r (ax_upd hp a i v)
    | _ => False) else if x < 1200 then ax_BI (x - 1000) vs else (match vs with
    | [a, i, v] => ax_CC hp a i v
    | _ => False)
theorem ax_XF_bi {X : ax_X} {o : Nat} {vs : List Nat} {hp : rx_H} (h : o < 200) : ax_XF X (1000 + o) vs hp ↔ ax_BI o vs := by
  unfold ax_XF
  have e5 : ¬ (1000 + o < 500) := by omega
  have e6 : ¬ (1000 + o < 1000) := by omega
  have e8 : 1000 + o < 1200 := by omega
  have e7 : 1000 + o - 1000 = o := by omega
  rw [if_neg e5, if_neg e6, if_pos e8, e7]
theorem ax_XF_cc {X : ax_X} {a i v : Nat} {hp : rx_H} : ax_XF X 1200 [a, i, v] hp ↔ ax_CC hp a i v := by
  unfold ax_XF
  have e5 : ¬ (1200 < 500) := by decide
  have e6 : ¬ (1200 < 1000) := by decide
  have e8 : ¬ (1200 < 1200) := by decide
  rw [if_neg e5, if_neg e6, if_neg e8]
theorem ax_XF_lt {X : ax_X} {x : Nat} {vs : List Nat} {hp : rx_H} (h : x < 500) : ax_XF X x vs hp ↔ X x vs hp := by
  unfold ax_XF
  rw [if_pos h]
theorem ax_XF_wr {X : ax_X} {x a i v : Nat} {r : List Nat} {hp : rx_H} (h : x < 500) : ax_XF X (500 + x) (a :: i :: v :: r) hp ↔ X x r (ax_upd hp a i v) := by
  unfold ax_XF
  have e5 : ¬ (500 + x < 500) := by omega
  have e6 : 500 + x < 1000 := by omega
  have e7 : 500 + x - 500 = x := by omega
  rw [if_neg e5, if_pos e6]
  show X (500 + x - 500) r (ax_upd hp a i v) ↔ _
  rw [e7]
noncomputable def ax_ev (n : Nat) (ρ : Nat → Nat) (v : Nat) : Option Nat := if v % 4 = 3 then (if v / 4 < n then some (ρ (v / 4)) else none) else some v
noncomputable def ax_ok (w : ax_W) (t : ax_Y) (v : Nat) : Prop :=
  (t.1 = 0 ∧ v % 4 = 0 ∧ v / 4 < 4294967296 ∧ t.2.1 ≤ rx_bi (v / 4) ∧ rx_bi (v / 4) ≤ t.2.2) ∨ (t.1 = 1 ∧ v % 4 = 1) ∨ (t.1 = 2 ∧ v % 4 = 2 ∧ 2 ≤ v / 4 ∧ v / 4 < 258 ∧ w.1[v / 4 - 2]? = some t.2.1) ∨ (t.1 = 3 ∧ v = t.2.1 ∧ v % 4 = 2)
/-- the heap is as the regions say -/
noncomputable def ax_HT (w : ax_W) (hp : rx_H) : Prop := hp.1 ≤ 256 ∧ ∀ q g : Nat, w.1[q]? = some g → ∃ (k n : Nat) (l : List (Nat × ax_Y)) (f : List Nat), w.2.1[g]? = some (k, n, l) ∧ rx_hg hp q = some (k, n, f) ∧ f.length = n ∧ ∀ i v : Nat, f[i]? = some v → ∃ t, ax_at l i = some t ∧ ax_ok w t v
/-- nothing but what may be written has changed -/
noncomputable def ax_HR (w : ax_W) (md : List (Nat × Nat)) (hp hp' : rx_H) : Prop := hp'.1 = hp.1 ∧ ∀ q g : Nat, w.1[q]? = some g → ∀ (k n : Nat) (l : List Nat), rx_hg hp q = some (k, n, l) → ∃ l' : List Nat, rx_hg hp' q = some (k, n, l') ∧ ∀ i : Nat, ax_mem md g i = false → l'[i]? = l[i]?
noncomputable def ax_FO (n : Nat) (ρ : Nat → Nat) (hp : rx_H) (f : Nat × Nat × Nat) : Prop := ∃ (a i v k m : Nat) (l : List Nat), ax_ev n ρ f.1 = some a ∧ ax_ev n ρ f.2.1 = some i ∧ ax_ev n ρ f.2.2 = some v ∧ a % 4 = 2 ∧ 2 ≤ a / 4 ∧ i % 4 = 0 ∧ rx_hg hp (a / 4 - 2) = some (k, m, l) ∧ l[i / 4]? = some v
noncomputable def ax_DO (n : Nat) (ρ : Nat → Nat) (d : Nat × Nat × Nat) : Prop := ∃ a b c : Nat, ax_ev n ρ d.1 = some (4 * a) ∧ ax_ev n ρ d.2.1 = some (4 * b) ∧ ax_ev n ρ d.2.2 = some (4 * c) ∧ a < 4294967296 ∧ b < 4294967296 ∧ c < 4294967296 ∧ rx_bi a + rx_bi b = rx_bi c + 2147483648
noncomputable def ax_NO (X : ax_X) (n : Nat) (ρ : Nat → Nat) (hp : rx_H) (x : ax_N) : Prop := ∃ vs, x.2.map (ax_ev n ρ) = vs.map some ∧ ax_XF X x.1 vs hp
noncomputable def ax_EO (w : ax_W) (X : ax_X) (ρ : Nat → Nat) (E : ax_E) (hp : rx_H) : Prop :=
  E.2.1.length = E.1 ∧ (∀ (k : Nat) (t : ax_Y), k < E.1 → E.2.1[E.1 - 1 - k]? = some t → ax_ok w t (ρ k)) ∧ (∀ f ∈ E.2.2.1, ax_FO E.1 ρ hp f) ∧ (∀ d ∈ E.2.2.2.1, ax_DO E.1 ρ d) ∧ (∀ x ∈ E.2.2.2.2, ax_NO X E.1 ρ hp x)
noncomputable def ax_R (w : ax_W) (X : ax_X) (ρ : Nat → Nat) (a : ax_A) (hp : rx_H) (σ : rx_S) : Prop :=
  σ.1 = a.1 ∧ a.2.1.map (ax_ev a.2.2.2.1 ρ) = σ.2.1.map some ∧ a.2.2.1.map (ax_ev a.2.2.2.1 ρ) = σ.2.2.1.map some ∧ σ.2.2.2 = (hp, [], 0, 0) ∧ ax_EO w X ρ a.2.2.2 hp ∧ ax_HT w hp
theorem ax_ev_mono {n n' : Nat} {ρ ρ' : Nat → Nat} (hn : n ≤ n') (hρ : ∀ k, k < n → ρ' k = ρ k) {v x : Nat} (h : ax_ev n ρ v = some x) : ax_ev n' ρ' v = some x := by
  unfold ax_ev at h ⊢
  by_cases h3 : v % 4 = 3
  · rw [if_pos h3] at h ⊢
    by_cases hl : v / 4 < n
    · rw [if_pos hl] at h
      rw [if_pos (Nat.lt_of_lt_of_le hl hn), hρ _ hl]
      exact h
    · rw [if_neg hl] at h; cases h
  · rw [if_neg h3] at h ⊢; exact h
theorem ax_evs_mono {n n' : Nat} {ρ ρ' : Nat → Nat} (hn : n ≤ n') (hρ : ∀ k, k < n → ρ' k = ρ k) : ∀ {l xs : List Nat}, l.map (ax_ev n ρ) = xs.map some → l.map (ax_ev n' ρ') = xs.map some
  | [], [], _ => rfl
  | [], _ :: _, h => by cases h
  | _ :: _, [], h => by cases h
  | v :: l, x :: xs, h => by
    simp only [List.map_cons, List.cons.injEq] at h ⊢
    exact ⟨ax_ev_mono hn hρ h.1, ax_evs_mono hn hρ h.2⟩
theorem ax_evs_cons {n : Nat} {ρ : Nat → Nat} {v : Nat} {l xs : List Nat} (h : (v :: l).map (ax_ev n ρ) = xs.map some) : ∃ x r, xs = x :: r ∧ ax_ev n ρ v = some x ∧ l.map (ax_ev n ρ) = r.map some := by
  cases xs with
  | nil => cases h
  | cons x r =>
    simp only [List.map_cons, List.cons.injEq] at h
    exact ⟨x, r, rfl, h.1, h.2⟩
theorem ax_evs_push {n : Nat} {ρ : Nat → Nat} {v x : Nat} {l xs : List Nat} (hv : ax_ev n ρ v = some x) (h : l.map (ax_ev n ρ) = xs.map some) : (v :: l).map (ax_ev n ρ) = (x :: xs).map some := by
  simp only [List.map_cons, hv, h]
theorem ax_evs_nth {n : Nat} {ρ : Nat → Nat} {l xs : List Nat} (h : l.map (ax_ev n ρ) = xs.map some) {i v : Nat} (hv : l[i]? = some v) : ∃ x, xs[i]? = some x ∧ ax_ev n ρ v = some x := by
  have h1 : (l.map (ax_ev n ρ))[i]? = (xs.map some)[i]? := by rw [h]
  rw [List.getElem?_map, List.getElem?_map, hv] at h1
  cases e : xs[i]? with
  | none => rw [e] at h1; cases h1
  | some x => rw [e] at h1; exact ⟨x, rfl, Option.some.inj h1⟩
theorem ax_evs_nth' {n : Nat} {ρ : Nat → Nat} {l xs : List Nat} (h : l.map (ax_ev n ρ) = xs.map some) {i x : Nat} (hv : xs[i]? = some x) : ∃ v, l[i]? = some v ∧ ax_ev n ρ v = some x := by
  have h1 : (l.map (ax_ev n ρ))[i]? = (xs.map some)[i]? := by rw [h]
  rw [List.getElem?_map, List.getElem?_map, hv] at h1
  cases e : l[i]? with
  | none => rw [e] at h1; cases h1
  | some v => rw [e] at h1; exact ⟨v, rfl, Option.some.inj h1⟩
theorem ax_evs_set {n : Nat} {ρ : Nat → Nat} {l xs : List Nat} (h : l.map (ax_ev n ρ) = xs.map some) {i v x : Nat} (hv : ax_ev n ρ v = some x) : (l.set i v).map (ax_ev n ρ) = (xs.set i x).map some := by
  rw [List.map_set, List.map_set, h, hv]
theorem ax_evs_len {n : Nat} {ρ : Nat → Nat} {l xs : List Nat} (h : l.map (ax_ev n ρ) = xs.map some) : xs.length = l.length := by
  have := congrArg List.length h
  simpa using this.symm
theorem ax_ev_c {n : Nat} {ρ : Nat → Nat} {v : Nat} (h : v % 4 ≠ 3) : ax_ev n ρ v = some v := by unfold ax_ev; rw [if_neg h]
theorem ax_FO.mono {n n' : Nat} {ρ ρ' : Nat → Nat} (hn : n ≤ n') (hρ : ∀ k, k < n → ρ' k = ρ k) {hp : rx_H} {f : Nat × Nat × Nat} (h : ax_FO n ρ hp f) : ax_FO n' ρ' hp f := by
  obtain ⟨a, i, v, k, m, l, h1, h2, h3, h4⟩ := h
  exact ⟨a, i, v, k, m, l, ax_ev_mono hn hρ h1, ax_ev_mono hn hρ h2, ax_ev_mono hn hρ h3, h4⟩
theorem ax_DO.mono {n n' : Nat} {ρ ρ' : Nat → Nat} (hn : n ≤ n') (hρ : ∀ k, k < n → ρ' k = ρ k) {d : Nat × Nat × Nat} (h : ax_DO n ρ d) : ax_DO n' ρ' d := by
  obtain ⟨a, b, c, h1, h2, h3, h4⟩ := h
  exact ⟨a, b, c, ax_ev_mono hn hρ h1, ax_ev_mono hn hρ h2, ax_ev_mono hn hρ h3, h4⟩
theorem ax_NO.mono {X : ax_X} {n n' : Nat} {ρ ρ' : Nat → Nat} (hn : n ≤ n') (hρ : ∀ k, k < n → ρ' k = ρ k) {hp : rx_H} {x : ax_N} (h : ax_NO X n ρ hp x) : ax_NO X n' ρ' hp x := by
  obtain ⟨vs, h1, h2⟩ := h
  exact ⟨vs, ax_evs_mono hn hρ h1, h2⟩
theorem ax_ok_c {w : ax_W} {v a : Nat} (h0 : v % 4 = 0) (hl : v / 4 < 4294967296) (ha : a = rx_bi (v / 4)) : ax_ok w (0, a, a) v := Or.inl ⟨rfl, h0, hl, Nat.le_of_eq ha, Nat.le_of_eq ha.symm⟩
/-- the type of a value tells of it -/
theorem ax_typ_ok {w : ax_W} {X : ax_X} {ρ : Nat → Nat} {E : ax_E} {hp : rx_H} (hE : ax_EO w X ρ E hp) {v x : Nat} {t : ax_Y} (ht : ax_typ E v = some t) (hx : ax_ev E.1 ρ v = some x) : ax_ok w t x := by
  unfold ax_typ at ht
  unfold ax_ev at hx
  cases h3 : Nat.beq (rx_tk v) 3 with
  | true =>
    have h3' : v % 4 = 3 := rx_beq.mp h3
    rw [h3, cond_true] at ht
    obtain ⟨hl, ht⟩ := rx_cond ht
    have hl : v / 4 < E.1 := rx_blt.mp hl
    rw [if_pos h3', if_pos hl] at hx
    cases hx
    rw [rx_nth_eq] at ht
    exact hE.2.1 _ _ hl ht
  | false =>
    have h3' : v % 4 ≠ 3 := fun z => by rw [rx_beq.mpr (show rx_tk v = 3 from z)] at h3; cases h3
    rw [h3, cond_false] at ht
    rw [if_neg h3'] at hx
    cases hx
    cases h0 : Nat.beq (rx_tk v) 0 with
    | true =>
      rw [h0, cond_true] at ht
      obtain ⟨hl, ht⟩ := rx_cond ht
      cases ht
      have e : rx_bi (rx_pl v) = rx_bi (v / 4) := congrArg rx_bi rfl
      exact ax_ok_c (rx_beq.mp h0) (rx_blt.mp hl) e
    | false =>
      have h0' : v % 4 ≠ 0 := fun z => by rw [rx_beq.mpr (show rx_tk v = 0 from z)] at h0; cases h0
      rw [h0, cond_false] at ht
      cases h1 : Nat.beq (rx_tk v) 1 with
      | true =>
        rw [h1, cond_true] at ht
        cases ht
        exact Or.inr (Or.inl ⟨rfl, rx_beq.mp h1⟩)
      | false =>
        have h1' : v % 4 ≠ 1 := fun z => by rw [rx_beq.mpr (show rx_tk v = 1 from z)] at h1; cases h1
        rw [h1, cond_false] at ht
        cases ht
        exact Or.inr (Or.inr (Or.inr ⟨rfl, rfl, by omega⟩))
theorem ax_iv_ok {w : ax_W} {X : ax_X} {ρ : Nat → Nat} {E : ax_E} {hp : rx_H} (hE : ax_EO w X ρ E hp) {v x : Nat} {t : Nat × Nat} (ht : ax_iv E v = some t) (hx : ax_ev E.1 ρ v = some x) : x % 4 = 0 ∧ x / 4 < 4294967296 ∧ t.1 ≤ rx_bi (x / 4) ∧ rx_bi (x / 4) ≤ t.2 := by
  unfold ax_iv at ht
  cases h : ax_typ E v with
  | none => rw [h] at ht; cases ht
  | some y =>
    rw [h] at ht
    obtain ⟨h0, ht⟩ := rx_cond ht
    cases ht
    rcases ax_typ_ok hE h hx with h1 | ⟨h1, -⟩ | ⟨h1, -⟩ | ⟨h1, -⟩
    · exact h1.2
    · have := rx_beq.mp h0; omega
    · have := rx_beq.mp h0; omega
    · have := rx_beq.mp h0; omega
theorem ax_isK0 {w : ax_W} {X : ax_X} {ρ : Nat → Nat} {E : ax_E} {hp : rx_H} (hE : ax_EO w X ρ E hp) {v x : Nat} (h : ax_isK E 0 v = true) (hx : ax_ev E.1 ρ v = some x) : x % 4 = 0 ∧ x / 4 < 4294967296 := by
  unfold ax_isK at h
  cases ht : ax_typ E v with
  | none => rw [ht] at h; cases h
  | some t =>
    rw [ht] at h
    have h := rx_beq.mp h
    rcases ax_typ_ok hE ht hx with h1 | ⟨h1, -⟩ | ⟨h1, -⟩ | ⟨h1, -⟩
    · exact ⟨h1.2.1, h1.2.2.1⟩
    · omega
    · omega
    · omega
theorem ax_isK1 {w : ax_W} {X : ax_X} {ρ : Nat → Nat} {E : ax_E} {hp : rx_H} (hE : ax_EO w X ρ E hp) {v x : Nat} (h : ax_isK E 1 v = true) (hx : ax_ev E.1 ρ v = some x) : x % 4 = 1 := by
  unfold ax_isK at h
  cases ht : ax_typ E v with
  | none => rw [ht] at h; cases h
  | some t =>
    rw [ht] at h
    have h := rx_beq.mp h
    rcases ax_typ_ok hE ht hx with ⟨h1, -⟩ | ⟨-, h1⟩ | ⟨h1, -⟩ | ⟨h1, -⟩
    · omega
    · exact h1
    · omega
    · omega
theorem ax_isRok {w : ax_W} {X : ax_X} {ρ : Nat → Nat} {E : ax_E} {hp : rx_H} (hE : ax_EO w X ρ E hp) {v x : Nat} (h : ax_isR E v = true) (hx : ax_ev E.1 ρ v = some x) : x % 4 = 2 ∧ 0 < x / 4 := by
  unfold ax_isR at h
  cases ht : ax_typ E v with
  | none => rw [ht] at h; cases h
  | some t =>
    rw [ht] at h
    rcases rx_or2.mp h with h | h
    · have h := rx_beq.mp h
      rcases ax_typ_ok hE ht hx with ⟨h1, -⟩ | ⟨h1, -⟩ | ⟨-, h1, h2, -⟩ | ⟨h1, -⟩
      · omega
      · omega
      · exact ⟨h1, by omega⟩
      · omega
    · obtain ⟨h0, h⟩ := rx_and2.mp h
      obtain ⟨h2, h3⟩ := rx_and2.mp h
      have h0 := rx_beq.mp h0
      rcases ax_typ_ok hE ht hx with ⟨h1, -⟩ | ⟨h1, -⟩ | ⟨h1, -⟩ | ⟨-, h1, -⟩
      · omega
      · omega
      · omega
      · rw [h1]; exact ⟨rx_beq.mp h2, rx_blt.mp h3⟩
theorem ax_nJok {w : ax_W} {X : ax_X} {ρ : Nat → Nat} {E : ax_E} {hp : rx_H} (hE : ax_EO w X ρ E hp) {v x : Nat} (h : ax_nJ E v = true) (hx : ax_ev E.1 ρ v = some x) : x % 4 ≠ 1 := by
  unfold ax_nJ at h
  cases ht : ax_typ E v with
  | none => rw [ht] at h; cases h
  | some t =>
    rw [ht] at h
    rcases ax_typ_ok hE ht hx with ⟨-, h1, -⟩ | ⟨h1, -⟩ | ⟨-, h1, -⟩ | ⟨-, -, h1⟩
    · omega
    · replace h : (!(Nat.beq t.1 1)) = true := h
      rw [h1] at h; cases h
    · omega
    · omega
/-- the region of a reference -/
theorem ax_rg_ok {w : ax_W} {X : ax_X} {ρ : Nat → Nat} {E : ax_E} {hp : rx_H} (hE : ax_EO w X ρ E hp) {v x g : Nat} (h : ax_rg w E v = some g) (hx : ax_ev E.1 ρ v = some x) : x % 4 = 2 ∧ 2 ≤ x / 4 ∧ x / 4 < 258 ∧ w.1[x / 4 - 2]? = some g := by
  unfold ax_rg at h
  cases ht : ax_typ E v with
  | none => rw [ht] at h; cases h
  | some t =>
    rw [ht] at h
    replace h : (bif Nat.beq t.1 2 then some t.2.1 else bif Nat.beq t.1 3 && (Nat.beq (rx_tk t.2.1) 2 && (Nat.ble 2 (rx_pl t.2.1) && Nat.blt (rx_pl t.2.1) 258)) then rx_nth w.1 (Nat.sub (rx_pl t.2.1) 2) else none) = some g := h
    have hk := ax_typ_ok hE ht hx
    cases h2 : Nat.beq t.1 2 with
    | true =>
      rw [h2, cond_true] at h
      cases h
      have h2 := rx_beq.mp h2
      rcases hk with ⟨h1, -⟩ | ⟨h1, -⟩ | ⟨-, h1⟩ | ⟨h1, -⟩
      · omega
      · omega
      · exact h1
      · omega
    | false =>
      rw [h2, cond_false] at h
      obtain ⟨hc, h⟩ := rx_cond h
      obtain ⟨c1, hc⟩ := rx_and2.mp hc
      obtain ⟨c2, hc⟩ := rx_and2.mp hc
      obtain ⟨c3, c4⟩ := rx_and2.mp hc
      have c1 := rx_beq.mp c1
      rcases hk with ⟨h1, -⟩ | ⟨h1, -⟩ | ⟨h1, -⟩ | ⟨-, h1, -⟩
      · omega
      · omega
      · omega
      · rw [h1]
        rw [rx_nth_eq] at h
        exact ⟨rx_beq.mp c2, rx_ble.mp c3, rx_blt.mp c4, h⟩
/-- a new symbol -/
theorem ax_new_ok {w : ax_W} {X : ax_X} {ρ : Nat → Nat} {E : ax_E} {hp : rx_H} (hE : ax_EO w X ρ E hp) {t : ax_Y} {x : Nat} (hx : ax_ok w t x) : ∃ ρ' : Nat → Nat, (∀ k, k < E.1 → ρ' k = ρ k) ∧ ax_EO w X ρ' (ax_new E t) hp ∧ ax_ev (E.1 + 1) ρ' (ax_sym (ax_n E)) = some x := by
  have ha : ∀ k, k < E.1 → (fun k => if k = E.1 then x else ρ k) k = ρ k := fun k hk => if_neg (Nat.ne_of_lt hk)
  refine ⟨fun k => if k = E.1 then x else ρ k, ha, ⟨?_, ?_, ?_, ?_, fun y hy => (hE.2.2.2.2 y hy).mono (Nat.le_succ _) ha⟩, ?_⟩
  · show (t :: E.2.1).length = E.1 + 1
    rw [List.length_cons, hE.1]
  · intro k s hk hs
    replace hk : k < E.1 + 1 := hk
    replace hs : (t :: E.2.1)[E.1 + 1 - 1 - k]? = some s := hs
    show ax_ok w s (if k = E.1 then x else ρ k)
    by_cases e : k = E.1
    · rw [if_pos e]
      rw [show E.1 + 1 - 1 - k = 0 by omega] at hs
      cases hs
      exact hx
    · rw [if_neg e]
      rw [show E.1 + 1 - 1 - k = (E.1 - 1 - k) + 1 by omega, List.getElem?_cons_succ] at hs
      exact hE.2.1 k s (by omega) hs
  · intro f hf
    exact (hE.2.2.1 f hf).mono (Nat.le_succ _) ha
  · intro d hd
    exact (hE.2.2.2.1 d hd).mono (Nat.le_succ _) ha
  · unfold ax_ev
    have e1 : ax_sym (ax_n E) % 4 = 3 := by show (4 * E.1 + 3) % 4 = 3; omega
    have e2 : ax_sym (ax_n E) / 4 = E.1 := by show (4 * E.1 + 3) / 4 = E.1; omega
    rw [if_pos e1, e2, if_pos (Nat.lt_succ_self _)]
    exact congrArg some (if_pos rfl)
theorem ax_bi_bi {x : Nat} (h : x < 4294967296) : rx_bi (rx_bi x) = x := by
  unfold rx_bi
  show ((x + 2147483648) % 4294967296 + 2147483648) % 4294967296 = x
  omega
/-- a value of a type -/
theorem ax_val_ok {w : ax_W} {X : ax_X} {ρ : Nat → Nat} {E : ax_E} {hp : rx_H} (hE : ax_EO w X ρ E hp) {t : ax_Y} {x : Nat} (hx : ax_ok w t x) : E.1 ≤ (ax_val E t).2.1 ∧ ∃ ρ' : Nat → Nat, (∀ k, k < E.1 → ρ' k = ρ k) ∧ ax_EO w X ρ' (ax_val E t).2 hp ∧ ax_ev (ax_val E t).2.1 ρ' (ax_val E t).1 = some x := by
  unfold ax_val
  cases h0 : (Nat.beq t.1 0 && Nat.beq t.2.1 t.2.2) with
  | true =>
    rw [cond_true]
    obtain ⟨a1, a2⟩ := rx_and2.mp h0
    have a1 := rx_beq.mp a1
    have a2 := rx_beq.mp a2
    refine ⟨Nat.le_refl _, ρ, fun _ _ => rfl, hE, ?_⟩
    rcases hx with ⟨-, h1, h2, h3, h4⟩ | ⟨h1, -⟩ | ⟨h1, -⟩ | ⟨h1, -⟩
    · have e : t.2.1 = rx_bi (x / 4) := by omega
      have e2 : rx_int (rx_bi t.2.1) = x := by
        rw [e, ax_bi_bi h2]
        show 4 * (x / 4) = x
        omega
      rw [e2]
      exact ax_ev_c (by omega)
    · omega
    · omega
    · omega
  | false =>
    rw [cond_false]
    cases h3 : Nat.beq t.1 3 with
    | true =>
      rw [cond_true]
      have h3 := rx_beq.mp h3
      refine ⟨Nat.le_refl _, ρ, fun _ _ => rfl, hE, ?_⟩
      rcases hx with ⟨h1, -⟩ | ⟨h1, -⟩ | ⟨h1, -⟩ | ⟨-, h1, h2⟩
      · omega
      · omega
      · omega
      · show ax_ev E.1 ρ t.2.1 = some x
        rw [← h1]
        exact ax_ev_c (by omega)
    | false =>
      rw [cond_false]
      obtain ⟨ρ', h1, h2, h4⟩ := ax_new_ok hE hx
      exact ⟨Nat.le_succ _, ρ', h1, h2, h4⟩
