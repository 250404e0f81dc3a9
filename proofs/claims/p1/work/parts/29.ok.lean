noncomputable def rx_ok (o : Option (List rx_O)) : Bool := match o with
  | some l => l.all (fun x => Nat.beq x.1 4)
  | none => false
theorem rx_ok_ex {o : Option (List rx_O)} (h : rx_ok o = true) : ∃ l, o = some l ∧ ∀ x ∈ l, x.1 = 4 := by
  cases o with
  | none => cases h
  | some l => exact ⟨l, rfl, fun x hx => rx_beq.mp (List.all_eq_true.mp h x hx)⟩
/-- what whole runs of the law give -/
noncomputable def rx_Main (L : Nat) : Prop := ∀ G : rx_S → Prop, (∀ n σ outs, rx_run rx_P (rx_DF, rx_FK) n (rxl L) σ = some outs → (∀ o ∈ outs, o.1 = 4) → G σ) → (∀ n stop k σ l', rx_adv rx_P (rx_DF, rx_FK) n stop (rxl L) k σ = some l' → (∀ σ' ∈ l', G σ') → G σ) → rx_Rule L G → G rx_s0
theorem rx_main_run {L n : Nat} (h : rx_ok (rx_run rx_P (rx_DF, rx_FK) n (rxl L) rx_s0) = true) : rx_Main L := fun G hrun _ _ => by
  obtain ⟨l, h1, h2⟩ := rx_ok_ex h
  exact hrun n rx_s0 l h1 h2
/-- up to the law's switch -/
noncomputable def rx_f6 (stop : Nat) : Option (List rx_S) := rx_adv rx_P (rx_DF, rx_FK) 20000 stop (rxl 6) 200 rx_s0
noncomputable def rx_one (o : Option (List rx_S)) : Option rx_S := match o with
  | some [σ] => some σ
  | _ => none
/-- behind it: a state for each number -/
noncomputable def rx_g6 (stop : Nat) : Option (List rx_S) := match rx_one (rx_f6 stop) with
  | some σ => rx_adv rx_P (rx_DF, rx_FK) 20000 999999 (rxl 6) 7 σ
  | none => none
/-- the i-th of them goes well -/
noncomputable def rx_c6 (stop i : Nat) : Bool := match rx_g6 stop with
  | some l => (match rx_nth l i with
    | some σ => rx_ok (rx_run rx_P (rx_DF, rx_FK) 200000 (rxl 6) σ)
    | none => true)
  | none => false
noncomputable def rx_n6 (stop : Nat) : Bool := match rx_g6 stop with
  | some l => Nat.ble (rx_len l) 64
  | none => false
/-- the i-th goes well, by whatever rules -/
noncomputable def rx_d6 (stop i : Nat) : Prop := ∀ G : rx_S → Prop, (∀ n σ outs, rx_run rx_P (rx_DF, rx_FK) n (rxl 6) σ = some outs → (∀ o ∈ outs, o.1 = 4) → G σ) → (∀ n stop k σ l', rx_adv rx_P (rx_DF, rx_FK) n stop (rxl 6) k σ = some l' → (∀ σ' ∈ l', G σ') → G σ) → rx_Rule 6 G → ∀ l σ, rx_g6 stop = some l → rx_nth l i = some σ → G σ
theorem rx_c6_d {stop i : Nat} (h : rx_c6 stop i = true) : rx_d6 stop i := fun G hrun _ _ l σ hg hi => by
  unfold rx_c6 at h
  rw [hg] at h
  replace h : (match rx_nth l i with
    | some σ => rx_ok (rx_run rx_P (rx_DF, rx_FK) 200000 (rxl 6) σ)
    | none => true) = true := h
  rw [hi] at h
  obtain ⟨o, h1, h2⟩ := rx_ok_ex h
  exact hrun 200000 σ o h1 h2
theorem rx_main_6 {stop : Nat} (hn : rx_n6 stop = true) (hc : ∀ i, i < 64 → rx_d6 stop i) : rx_Main 6 := fun G hrun hadv hcal => by
  unfold rx_n6 at hn
  cases hg : rx_g6 stop with
  | none => rw [hg] at hn; cases hn
  | some l =>
    rw [hg] at hn
    have hlen : l.length ≤ 64 := by rw [← rx_len_eq]; exact rx_ble.mp hn
    have hall : ∀ σ ∈ l, G σ := by
      intro σ hσ
      obtain ⟨i, hi⟩ := List.getElem?_of_mem hσ
      have hil : i < 64 := Nat.lt_of_lt_of_le (List.getElem?_eq_some_iff.mp hi).1 hlen
      exact hc i hil G hrun hadv hcal l σ hg (by rw [rx_nth_eq]; exact hi)
    unfold rx_g6 at hg
    cases ho : rx_one (rx_f6 stop) with
    | none => rw [ho] at hg; cases hg
    | some σ =>
      rw [ho] at hg
      have h1 : rx_f6 stop = some [σ] := by
        cases hf : rx_f6 stop with
        | none => rw [hf] at ho; cases ho
        | some z =>
          rw [hf] at ho
          match z, ho with
          | [], ho => cases ho
          | [w], ho => cases ho; rfl
          | _ :: _ :: _, ho => cases ho
      exact hadv 20000 stop 200 rx_s0 [σ] h1 (fun σ' h' => by
        rcases List.mem_cons.mp h' with rfl | h'
        · exact hadv 20000 999999 7 σ' l hg hall
        · cases h')
/-- cases from a to a + n -/
theorem rx_c6_all {stop a n : Nat} (h : (List.range n).all (fun i => rx_c6 stop (a + i)) = true) : ∀ i, a ≤ i → i < a + n → rx_c6 stop i = true := fun i h1 h2 => by
  have := List.all_eq_true.mp h (i - a) (List.mem_range.mpr (by omega))
  rwa [show a + (i - a) = i by omega] at this
