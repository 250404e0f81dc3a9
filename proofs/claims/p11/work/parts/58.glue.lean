/-- lists of numbers are the same -/
noncomputable def ax_eqL (xs : List Nat) : List Nat → Bool := List.rec (motive := fun _ => List Nat → Bool) (fun ys => match ys with
  | [] => true
  | _ :: _ => false) (fun x _ ih ys => match ys with
  | [] => false
  | y :: t => Nat.beq x y && ih t) xs
theorem ax_eqL_ok : ∀ {xs ys : List Nat}, ax_eqL xs ys = true → xs = ys
  | [], [], _ => rfl
  | [], _ :: _, h => by cases h
  | _ :: _, [], h => by cases h
  | x :: xs, y :: ys, h => by
    replace h : (Nat.beq x y && ax_eqL xs ys) = true := h
    obtain ⟨h1, h2⟩ := rx_and2.mp h
    rw [rx_beq.mp h1, ax_eqL_ok h2]
noncomputable def ax_tabN (x : ax_I) (z : Nat × Nat × Nat × List Nat) : Bool := Nat.beq z.1 x.2.1 && (Nat.beq z.2.1 x.2.2.1 && (Nat.beq z.2.2.1 x.2.2.2.1 && (ax_eqL z.2.2.2 x.2.2.2.2.2.2 && !(Nat.beq x.2.1 21 && ax_eqL x.2.2.2.2.2.2 []))))
noncomputable def ax_tabY (x : ax_I) (y : rx_E) : Bool := bif Nat.ble x.2.1 25 then (match ax_num x.1 y.2.2.2.1 with
    | some z => ax_tabN x z
    | none => false)
  else (match ax_ctl y.2.2.2.1 with
    | some k => Nat.beq k x.2.1
    | none => false)
noncomputable def ax_tabI (cd : List (List rx_E)) (x : ax_I) : Bool := match rx_look cd x.1 with
  | none => false
  | some y => Nat.beq y.2.2.2.2.2.1 x.2.2.2.2.1 && (Nat.beq y.2.2.2.2.2.2.1 x.2.2.2.2.2.1 && ax_tabY x y)
noncomputable def ax_tabB (cd0 : List (List rx_E)) (cd : List (List ax_I)) : Bool := cd.all (fun ch => ch.all (ax_tabI cd0))
theorem ax_tabN_ok {x : ax_I} {z : Nat × Nat × Nat × List Nat} (h : ax_tabN x z = true) : z = (x.2.1, x.2.2.1, x.2.2.2.1, x.2.2.2.2.2.2) ∧ (x.2.1 = 21 → x.2.2.2.2.2.2 ≠ []) := by
  obtain ⟨a, b, c, d⟩ := z
  obtain ⟨h1, h⟩ := rx_and2.mp h
  obtain ⟨h2, h⟩ := rx_and2.mp h
  obtain ⟨h3, h⟩ := rx_and2.mp h
  obtain ⟨h4, h⟩ := rx_and2.mp h
  have e1 : a = x.2.1 := rx_beq.mp h1
  have e2 : b = x.2.2.1 := rx_beq.mp h2
  have e3 : c = x.2.2.2.1 := rx_beq.mp h3
  have e4 : d = x.2.2.2.2.2.2 := ax_eqL_ok h4
  refine ⟨by rw [e1, e2, e3, e4], fun hk hn => ?_⟩
  rw [hk, hn] at h
  cases h
theorem ax_tabY_ok {x : ax_I} {y : rx_E} (h : ax_tabY x y = true) : (x.2.1 ≤ 25 ∧ ax_num x.1 y.2.2.2.1 = some (x.2.1, x.2.2.1, x.2.2.2.1, x.2.2.2.2.2.2) ∧ (x.2.1 = 21 → x.2.2.2.2.2.2 ≠ [])) ∨ (25 < x.2.1 ∧ ax_ctl y.2.2.2.1 = some x.2.1) := by
  unfold ax_tabY at h
  cases hc : Nat.ble x.2.1 25 with
  | true =>
    rw [hc] at h
    replace h : (match ax_num x.1 y.2.2.2.1 with
      | some z => ax_tabN x z
      | none => false) = true := h
    cases hz : ax_num x.1 y.2.2.2.1 with
    | none => rw [hz] at h; cases h
    | some z =>
      rw [hz] at h
      obtain ⟨e, h2⟩ := ax_tabN_ok (x := x) (z := z) h
      exact Or.inl ⟨rx_ble.mp hc, by rw [e], h2⟩
  | false =>
    rw [hc] at h
    replace h : (match ax_ctl y.2.2.2.1 with
      | some k => Nat.beq k x.2.1
      | none => false) = true := h
    have hl : 25 < x.2.1 := by
      rcases Nat.lt_or_ge 25 x.2.1 with h0 | h0
      · exact h0
      · rw [rx_ble.mpr h0] at hc; cases hc
    cases hz : ax_ctl y.2.2.2.1 with
    | none => rw [hz] at h; cases h
    | some k =>
      rw [hz] at h
      have e : k = x.2.1 := rx_beq.mp h
      exact Or.inr ⟨hl, by rw [e]⟩
theorem ax_tabB_ok {r : rx_M} {cd : List (List ax_I)} (h : ax_tabB (rx_cd r) cd = true) : ax_tab r cd := by
  intro ch hch x hx
  have h1 := List.all_eq_true.mp (List.all_eq_true.mp h ch hch) x hx
  unfold ax_tabI at h1
  cases hy : rx_look (rx_cd r) x.1 with
  | none => rw [hy] at h1; cases h1
  | some y =>
    rw [hy] at h1
    obtain ⟨e1, h1⟩ := rx_and2.mp h1
    obtain ⟨e2, h1⟩ := rx_and2.mp h1
    exact ⟨y, rfl, rx_beq.mp e1, rx_beq.mp e2, ax_tabY_ok h1⟩
section AXZ
variable {w : ax_W} {X : ax_X} {P P' : List rx_M} {AP AP' : List ax_M} {K : rx_K}
/-- a method's row: its code is right, and its contracts hold where those of methods with fewer frames do -/
noncomputable def ax_Row (w : ax_W) (X : ax_X) (P : List rx_M) (AP : List ax_M) (P : List rx_M) (K : rx_K) (q : rx_M) (m : ax_M) : Prop := q ∈ P → ax_tab q m.1 ∧ (ax_Low w X P AP P K (rx_rf (rx_n q)) → ∀ C ∈ m.2, ax_Con w X P K q C)
noncomputable def ax_Rows (w : ax_W) (X : ax_X) (P : List rx_M) (AP : List ax_M) (P : List rx_M) (K : rx_K) (P' : List rx_M) (AP' : List ax_M) : Prop := ∀ (j : Nat) (q : rx_M) (m : ax_M), rx_nth P' j = some q → rx_nth AP' j = some m → ax_Row w X P AP P K q m
theorem ax_rows_nil : ax_Rows w X P AP P K [] [] := by
  intro j q m h
  cases h
theorem ax_rows_cons {q0 : rx_M} {m0 : ax_M} (h0 : ax_Row w X P AP P K q0 m0) (h : ax_Rows w X P AP P K P' AP') : ax_Rows w X P AP P K (q0 :: P') (m0 :: AP') := by
  intro j q m h1 h2
  cases j with
  | zero => cases h1; cases h2; exact h0
  | succ j => exact h j q m h1 h2
theorem ax_nth_mem : ∀ {α : Type} {xs : List α} {j : Nat} {x : α}, rx_nth xs j = some x → x ∈ xs
  | _, [], _, _, h => by cases h
  | _, y :: ys, 0, _, h => by cases h; exact List.mem_cons_self
  | _, y :: ys, j + 1, _, h => List.mem_cons_of_mem _ (ax_nth_mem (xs := ys) (j := j) h)
/-- ALL CONTRACTS HOLD -/
theorem ax_all (H : ax_Rows w X P AP P K P AP) : ∀ B, ax_Low w X P AP P K B
  | 0 => fun j q m h1 h2 => ⟨(H j q m h1 h2 (ax_nth_mem h1)).1, fun h => absurd h (Nat.not_lt_zero _)⟩
  | B + 1 => fun j q m h1 h2 => ⟨(H j q m h1 h2 (ax_nth_mem h1)).1, fun hb => (H j q m h1 h2 (ax_nth_mem h1)).2 (fun j' q' m' h1' h2' => ⟨(ax_all H B j' q' m' h1' h2').1, fun hb' => (ax_all H B j' q' m' h1' h2').2 (Nat.lt_of_lt_of_le hb' (Nat.le_of_lt_succ hb))⟩)⟩
theorem ax_con_nil {q : rx_M} : ∀ C ∈ ([] : List ax_C), ax_Con w X P K q C := by
  intro C h
  cases h
theorem ax_con_cons {q : rx_M} {C0 : ax_C} {Cs : List ax_C} (h0 : ax_Con w X P K q C0) (h : ∀ C ∈ Cs, ax_Con w X P K q C) : ∀ C ∈ C0 :: Cs, ax_Con w X P K q C := by
  intro C hC
  rcases List.mem_cons.mp hC with e | e
  · rw [e]; exact h0
  · exact h C e
end AXZ
