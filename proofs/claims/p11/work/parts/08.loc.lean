-- locals
noncomputable def rx_RL (b : Nat → Nat) (ad : List Nat) (en : List Int32) (nL : Nat) (lv : rx_L) (ls : Array Slot) : Prop :=
  lv.length = nL ∧ ls.size = nL ∧ lv_wf ls ∧ ∀ (i v : Nat), lv[i]? = some v → v ≠ 2 → ∃ x : Value, rx_cv b ad en v = some x ∧ ls[i]? = some (.val x)
noncomputable def rx_lva (b : Nat → Nat) (ad : List Nat) (en : List Int32) (lv : rx_L) : List (Nat × Value) :=
  (List.range lv.length).filterMap (fun i => match lv[i]? with
    | some v => if v = 2 then none else (rx_cv b ad en v).map (fun x => (i, x))
    | none => none)
theorem rx_lva_in {b : Nat → Nat} {ad : List Nat} {en : List Int32} {lv : rx_L} {i v : Nat} {x : Value} (h : lv[i]? = some v) (h2 : v ≠ 2) (hx : rx_cv b ad en v = some x) : (i, x) ∈ rx_lva b ad en lv := by
  refine List.mem_filterMap.mpr ⟨i, List.mem_range.mpr (List.getElem?_eq_some_iff.mp h).1, ?_⟩
  simp only [h, if_neg h2, hx, Option.map_some]
theorem rx_lva_of {b : Nat → Nat} {ad : List Nat} {en : List Int32} {lv : rx_L} {q : Nat × Value} (h : q ∈ rx_lva b ad en lv) : ∃ v, lv[q.1]? = some v ∧ v ≠ 2 ∧ rx_cv b ad en v = some q.2 := by
  obtain ⟨i, -, hi⟩ := List.mem_filterMap.mp h
  cases e : lv[i]? with
  | none => rw [e] at hi; cases hi
  | some v =>
    rw [e] at hi
    simp only at hi
    by_cases h2 : v = 2
    · rw [if_pos h2] at hi; cases hi
    · rw [if_neg h2] at hi
      obtain ⟨x, hx, he⟩ := Option.map_eq_some_iff.mp hi
      subst he
      exact ⟨v, e, h2, hx⟩
theorem rx_RL.has {b : Nat → Nat} {ad : List Nat} {en : List Int32} {nL : Nat} {lv : rx_L} {ls : Array Slot} (h : rx_RL b ad en nL lv ls) : lv_has ls nL (rx_lva b ad en lv) := by
  refine ⟨h.2.1, h.2.2.1, fun q hq => ?_⟩
  obtain ⟨v, h1, h2, h3⟩ := rx_lva_of hq
  obtain ⟨x, h4, h5⟩ := h.2.2.2 q.1 v h1 h2
  cases h3.symm.trans h4
  exact h5
theorem rx_RL.mono {b : Nat → Nat} {ad ad' : List Nat} {en en' : List Int32} (ha : ad <+: ad') (he : en <+: en') {nL : Nat} {lv : rx_L} {ls : Array Slot} (h : rx_RL b ad en nL lv ls) : rx_RL b ad' en' nL lv ls :=
  ⟨h.1, h.2.1, h.2.2.1, fun i v h1 h2 => by obtain ⟨x, h3, h4⟩ := h.2.2.2 i v h1 h2; exact ⟨x, rx_cv_mono ha he h3, h4⟩⟩
theorem rx_low_len (lv : rx_L) (i : Nat) : (rx_low lv i).length = lv.length := by
  unfold rx_low
  cases i with
  | zero => rfl
  | succ j =>
    show List.length (match rx_nth lv j with | some v => bif rx_isJ v then rx_upd lv j 2 else lv | none => lv) = _
    cases rx_nth lv j with
    | none => rfl
    | some v =>
      show List.length (bif rx_isJ v then rx_upd lv j 2 else lv) = _
      cases rx_isJ v with
      | true => rw [cond_true, rx_upd_eq, List.length_set]
      | false => rfl
theorem rx_low_get {lv : rx_L} {i j w : Nat} (h : (rx_low lv i)[j]? = some w) (h2 : w ≠ 2) : lv[j]? = some w ∧ ¬ (j + 1 = i ∧ rx_isJ w = true) := by
  unfold rx_low at h
  cases i with
  | zero => exact ⟨h, fun z => by omega⟩
  | succ k =>
    replace h : (match rx_nth lv k with | some v => bif rx_isJ v then rx_upd lv k 2 else lv | none => lv)[j]? = some w := h
    rw [rx_nth_eq] at h
    cases e : lv[k]? with
    | none =>
      rw [e] at h
      replace h : lv[j]? = some w := h
      exact ⟨h, fun z => by rw [show j = k by omega, e] at h; cases h⟩
    | some v =>
      rw [e] at h
      replace h : (bif rx_isJ v then rx_upd lv k 2 else lv)[j]? = some w := h
      cases hj : rx_isJ v with
      | false =>
        rw [hj] at h
        replace h : lv[j]? = some w := h
        refine ⟨h, fun z => ?_⟩
        rw [show j = k by omega, e] at h
        cases h
        rw [hj] at z; exact Bool.noConfusion z.2
      | true =>
        rw [hj, cond_true, rx_upd_eq] at h
        by_cases ejk : j = k
        · subst ejk
          rw [List.getElem?_set_self (List.getElem?_eq_some_iff.mp e).1] at h
          cases h
          exact absurd rfl h2
        · rw [List.getElem?_set_ne (Ne.symm ejk)] at h
          exact ⟨h, fun z => by omega⟩
theorem rx_RL.put {b : Nat → Nat} {ad : List Nat} {en : List Int32} {nL : Nat} {lv : rx_L} {ls' : Array Slot} {i v : Nat} {x : Value} (hl : lv.length = nL) (hv : rx_cv b ad en v = some x) (hd : ∀ j w : Nat, lv[j]? = some w → w ≠ 2 → ∃ y, rx_cv b ad en w = some y)
    (h : lv_has ls' nL ((i, x) :: (rx_lva b ad en lv).filter (fun q => !(q.1 == i) && !(q.1 + 1 == i && q.2.category == 2)))) : rx_RL b ad en nL (rx_put lv i v) ls' := by
  refine ⟨by unfold rx_put; rw [rx_upd_eq, List.length_set, rx_low_len]; exact hl, h.1, h.2.1, fun j w hj h2 => ?_⟩
  unfold rx_put at hj
  rw [rx_upd_eq] at hj
  by_cases e : j = i
  · subst e
    have hlt : j < (rx_low lv j).length := by have := (List.getElem?_eq_some_iff.mp hj).1; rwa [List.length_set] at this
    rw [List.getElem?_set_self hlt] at hj
    cases hj
    exact ⟨x, hv, h.2.2 (j, x) List.mem_cons_self⟩
  · rw [List.getElem?_set_ne (Ne.symm e)] at hj
    obtain ⟨h3, h4⟩ := rx_low_get hj h2
    obtain ⟨y, hy⟩ := hd j w h3 h2
    refine ⟨y, hy, h.2.2 (j, y) (List.mem_cons_of_mem _ (List.mem_filter.mpr ⟨rx_lva_in h3 h2 hy, ?_⟩))⟩
    have hc := rx_cat_cv hy
    by_cases hji : j + 1 = i
    · have hJ : ¬ rx_isJ w = true := fun z => h4 ⟨hji, z⟩
      rw [if_neg hJ] at hc
      simp [e, hc]
    · simp [e, hji]
theorem rx_RL.putJ {b : Nat → Nat} {ad : List Nat} {en : List Int32} {nL : Nat} {lv : rx_L} {ls' : Array Slot} {i v : Nat} {x : Value} (hl : lv.length = nL) (hv : rx_cv b ad en v = some x) (hd : ∀ j w : Nat, lv[j]? = some w → w ≠ 2 → ∃ y, rx_cv b ad en w = some y)
    (h : lv_has ls' nL ((i, x) :: (rx_lva b ad en lv).filter (fun q => !(q.1 == i) && (!(q.1 == i + 1) && !(q.1 + 1 == i && q.2.category == 2))))) : rx_RL b ad en nL (rx_putJ lv i v) ls' := by
  refine ⟨by unfold rx_putJ; rw [rx_upd_eq, rx_upd_eq, List.length_set, List.length_set, rx_low_len]; exact hl, h.1, h.2.1, fun j w hj h2 => ?_⟩
  unfold rx_putJ at hj
  rw [rx_upd_eq, rx_upd_eq] at hj
  by_cases e1 : j = i + 1
  · subst e1
    have hlt := (List.getElem?_eq_some_iff.mp hj).1
    rw [List.length_set] at hlt
    rw [show Nat.succ i = i + 1 from rfl, List.getElem?_set_self hlt] at hj
    cases hj
    exact absurd rfl h2
  · rw [List.getElem?_set_ne (show Nat.succ i ≠ j from Ne.symm e1)] at hj
    by_cases e : j = i
    · subst e
      have hlt : j < (rx_low lv j).length := by have := (List.getElem?_eq_some_iff.mp hj).1; rwa [List.length_set] at this
      rw [List.getElem?_set_self hlt] at hj
      cases hj
      exact ⟨x, hv, h.2.2 (j, x) List.mem_cons_self⟩
    · rw [List.getElem?_set_ne (Ne.symm e)] at hj
      obtain ⟨h3, h4⟩ := rx_low_get hj h2
      obtain ⟨y, hy⟩ := hd j w h3 h2
      refine ⟨y, hy, h.2.2 (j, y) (List.mem_cons_of_mem _ (List.mem_filter.mpr ⟨rx_lva_in h3 h2 hy, ?_⟩))⟩
      have hc := rx_cat_cv hy
      by_cases hji : j + 1 = i
      · have hJ : ¬ rx_isJ w = true := fun z => h4 ⟨hji, z⟩
        rw [if_neg hJ] at hc
        simp [e, e1, hc]
      · simp [e, e1, hji]
