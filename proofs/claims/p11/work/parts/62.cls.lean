noncomputable def rx_dv (v : Nat) : Value := if v = 0 then .int 0 else if v = 1 then .long 0 else .null
theorem rx_dv_ok (b : Nat → Nat) (ad : List Nat) (en : List Int32) : ∀ (l : List Nat), l.all (fun v => Nat.ble v 2) = true → l.map (rx_cv b ad en) = (l.map rx_dv).map some
  | [], _ => rfl
  | v :: l, h => by
    rw [List.all_cons] at h
    obtain ⟨h1, h2⟩ := rx_and2.mp h
    have h1 : v ≤ 2 := rx_ble.mp h1
    simp only [List.map_cons, List.cons.injEq]
    refine ⟨?_, rx_dv_ok b ad en l h2⟩
    rcases (show v = 0 ∨ v = 1 ∨ v = 2 by omega) with rfl | rfl | rfl <;> rfl
noncomputable def rx_fktB (k : Nat) (ty : FieldType) : Bool := match ty with
  | .int => Nat.beq k 0 | .boolean => Nat.beq k 1 | .object _ => Nat.beq k 2 | .array _ => Nat.beq k 2 | _ => false
theorem rx_fktB_ok {k : Nat} {ty : FieldType} (h : rx_fktB k ty = true) : rx_fkt k ty := by
  cases ty with
  | int => exact Or.inl ⟨rx_beq.mp h, rfl⟩
  | boolean => exact Or.inr (Or.inl ⟨rx_beq.mp h, rfl⟩)
  | object n => exact Or.inr (Or.inr ⟨rx_beq.mp h, Or.inl ⟨n, rfl⟩⟩)
  | array n => exact Or.inr (Or.inr ⟨rx_beq.mp h, Or.inr ⟨n, rfl⟩⟩)
  | _ => cases h
/-- a class, by program: its layout's words, its fields' kinds, its default contents -/
noncomputable def rx_cc (K : rx_K) (na : Nat) (C : String) (T : u_T) (Nf : Nat) (ty : Nat → FieldType) (l : List Nat) (pls : List (Nat × Nat)) (wi wn : Nat × Nat) : Bool :=
  (List.range Nf).all (fun i => match rx_nth pls i with | some w => rx_has w (u_lay C T i) | none => false) &&
  ((match rx_nth K.2 na with | some ks => (List.range Nf).all (fun i => match rx_nth ks i with | some k => rx_fktB k (ty i) | none => false) | none => false) &&
  (l.all (fun v => Nat.ble v 2) && ((List.range Nf).all (fun j => decide (defaultValue (ty j) = vp_V (l.map rx_dv) j)) && (rx_has wi (.instantiable C Nf) && rx_has wn (.initialized C)))))
theorem rx_cc_ok {K : rx_K} {na : Nat} {C : String} {T : u_T} {Nf : Nat} {ty : Nat → FieldType} {l : List Nat} {pls : List (Nat × Nat)} {wi wn : Nat × Nat} (h : rx_cc K na C T Nf ty l pls wi wn = true) (h1 : vwCl[na]? = some (C, T, Nf)) (h2 : ∀ k, k < Nf → parseFieldDescriptor (T k).2.2.1 = some (ty k)) (h3 : ∀ a, a < Nf → ∀ b, b < Nf → a ≠ b → (T a).2.1 ≠ (T b).2.1) (h4 : rx_nth K.1 na = some l) (h5 : l.length = Nf) : rx_CL K na := by
  obtain ⟨d1, h⟩ := rx_and2.mp h
  obtain ⟨d2, h⟩ := rx_and2.mp h
  obtain ⟨d3, h⟩ := rx_and2.mp h
  obtain ⟨d4, h⟩ := rx_and2.mp h
  obtain ⟨d5, d6⟩ := rx_and2.mp h
  refine ⟨C, T, Nf, ty, l.map rx_dv, l, h1, h2, h3, ?_, ?_, h4, h5, fun b ad en => rx_dv_ok b ad en l d3, ?_, rx_has_ok d5, rx_has_ok d6⟩
  · intro w hw
    obtain ⟨i, hi, rfl⟩ := List.mem_map.mp hw
    have := List.all_eq_true.mp d1 i hi
    cases e : rx_nth pls i with
    | none => rw [e] at this; cases this
    | some z => rw [e] at this; exact rx_has_ok this
  · intro nb ks k hnb hks hk
    rw [hks] at d2
    have := List.all_eq_true.mp d2 nb (List.mem_range.mpr hnb)
    rw [hk] at this
    exact rx_fktB_ok this
  · intro j hj
    exact of_decide_eq_true (List.all_eq_true.mp d4 j (List.mem_range.mpr hj))
theorem rx_co_12 {p : Nat → Prop} (h0 : p 0) (h1 : p 1) (h2 : p 2) (h3 : p 3) (h4 : p 4) (h5 : p 5) (h6 : p 6) (h7 : p 7) (h8 : p 8) (h9 : p 9) (h10 : p 10) (h11 : p 11) : ∀ n, n < 12 → p n := by
  intro n hn
  match n, hn with
  | 0, _ => exact h0
  | 1, _ => exact h1
  | 2, _ => exact h2
  | 3, _ => exact h3
  | 4, _ => exact h4
  | 5, _ => exact h5
  | 6, _ => exact h6
  | 7, _ => exact h7
  | 8, _ => exact h8
  | 9, _ => exact h9
  | 10, _ => exact h10
  | 11, _ => exact h11
  | n + 12, h => exact absurd h (by omega)
/-- a stretch of a method's code, by program -/
noncomputable def rx_cmA (X : rx_XT) (P : List rx_M) (r : rx_M) (ch : List rx_E) : Bool := ch.all (fun x => rx_cd1 (rx_b r) x.1 x.2.2.2.2.1 x.2.2.2.1 && (Nat.beq x.2.1 (rx_kd x.2.2.2.1) && rx_cw X P (rx_y r).cls (rx_y r).name x.1 x.2.2.2.2.2.1 x.2.2.2.2.2.2.1 (x.2.2.2.2.2.2.2.1, x.2.2.2.2.2.2.2.2) x.2.2.2.1))
theorem rx_cmA_ok {X : rx_XT} {P : List rx_M} {K : rx_K} {r : rx_M} {ch : List rx_E} (hCL : ∀ na, na < 12 → rx_CL K na) (h : rx_cmA X P r ch = true) (hh : ∀ x ∈ ch, x.2.1 = 0 → x.2.2.1 = rx_sem x.2.2.2.1) : ∀ x ∈ ch, rx_OK P K r x := by
  intro x hx
  have h1 := List.all_eq_true.mp h x hx
  obtain ⟨d1, h1⟩ := rx_and2.mp h1
  obtain ⟨d2, d3⟩ := rx_and2.mp h1
  exact ⟨rx_cd1_ok d1, rx_beq.mp d2, hh x hx, rx_cw_wd hCL d3, rx_cw_site d3⟩
