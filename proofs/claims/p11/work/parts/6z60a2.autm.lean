/-! What the reference's named facts say -/
def pz_tok (k : Nat) : Nat := if k = 0 then 0 else if k = 1 then 2 else if k = 2 then 3 else if k = 3 then 1 else 4
theorem pz_tok_c (k : Nat) : (k = 0 ∧ pz_tok k = 0) ∨ (k = 1 ∧ pz_tok k = 2) ∨ (k = 2 ∧ pz_tok k = 3) ∨ (k = 3 ∧ pz_tok k = 1) ∨ (4 ≤ k ∧ pz_tok k = 4) := by
  unfold pz_tok
  by_cases h0 : k = 0
  · exact Or.inl ⟨h0, by rw [if_pos h0]⟩
  · by_cases h1 : k = 1
    · exact Or.inr (Or.inl ⟨h1, by rw [if_neg h0, if_pos h1]⟩)
    · by_cases h2 : k = 2
      · exact Or.inr (Or.inr (Or.inl ⟨h2, by rw [if_neg h0, if_neg h1, if_pos h2]⟩))
      · by_cases h3 : k = 3
        · exact Or.inr (Or.inr (Or.inr (Or.inl ⟨h3, by rw [if_neg h0, if_neg h1, if_neg h2, if_pos h3]⟩)))
        · exact Or.inr (Or.inr (Or.inr (Or.inr ⟨by omega, by rw [if_neg h0, if_neg h1, if_neg h2, if_neg h3]⟩)))
/-- the reference's number of a word -/
def pz_wix (t N p : Nat) : Nat := if pz_wd t N p 0 then 0 else if pz_wd t N p 1 then 1 else if pz_wd t N p 2 then 2 else if pz_wd t N p 4 then 3 else if pz_wd t N p 3 then 4 else if pz_wd t N p 5 then 5 else if pz_wd t N p 6 then 6 else if pz_wd t N p 7 then 7 else 4294967295
def pz_pm (k : Nat) : Nat := if k = 3 then 4 else if k = 4 then 3 else k
theorem pz_wd_inv {t N p k : Nat} (h : pz_wd t N p k = true) : pz_nx t N p - pz_at t N p = (pz_ws.getD k []).length ∧ ∀ i, i < (pz_ws.getD k []).length → pz_b t (pz_at t N p + i) = (pz_ws.getD k []).getD i 0 := by
  unfold pz_wd pz_is at h
  have h2 := (Bool.and_eq_true_iff.mp h).2
  refine ⟨eq_of_beq (Bool.and_eq_true_iff.mp h2).1, fun i hi => ?_⟩
  exact eq_of_beq (List.all_eq_true.mp (Bool.and_eq_true_iff.mp h2).2 i (List.mem_range.mpr hi))
theorem pz_leq {l m : List Nat} (h : l.length = m.length) (h2 : ∀ k, k < l.length → l.getD k 0 = m.getD k 0) : l = m := by
  apply List.ext_getElem h
  intro k hk hk'
  have e2 := h2 k hk
  rw [List.getD_eq_getElem?_getD, List.getElem?_eq_getElem hk, List.getD_eq_getElem?_getD, List.getElem?_eq_getElem hk'] at e2
  exact e2
theorem pz_wd_ex {t N p i j : Nat} (hi : i < 8) (hj : j < 8) (h1 : pz_wd t N p i = true) (h2 : pz_wd t N p j = true) : i = j := by
  obtain ⟨a1, a2⟩ := pz_wd_inv h1
  obtain ⟨b1, b2⟩ := pz_wd_inv h2
  have e : pz_ws.getD i [] = pz_ws.getD j [] := pz_leq (a1.symm.trans b1) (fun k hk => (a2 k hk).symm.trans (b2 k (by rw [← b1, a1]; exact hk)))
  have key : ∀ i, i < 8 → ∀ j, j < 8 → pz_ws.getD i [] = pz_ws.getD j [] → i = j := by decide
  exact key i hi j hj e
theorem pz_wix_1 {t N p k : Nat} (hk : k < 8) (h : pz_wix t N p = k) : pz_wd t N p (pz_pm k) = true := by
  unfold pz_wix at h
  match k, hk with
  | 0, _ =>
    by_cases c0 : pz_wd t N p 0 = true
    · exact c0
    rw [if_neg c0] at h
    by_cases c1 : pz_wd t N p 1 = true
    · rw [if_pos c1] at h; exact absurd h (by decide)
    rw [if_neg c1] at h
    by_cases c2 : pz_wd t N p 2 = true
    · rw [if_pos c2] at h; exact absurd h (by decide)
    rw [if_neg c2] at h
    by_cases c3 : pz_wd t N p 4 = true
    · rw [if_pos c3] at h; exact absurd h (by decide)
    rw [if_neg c3] at h
    by_cases c4 : pz_wd t N p 3 = true
    · rw [if_pos c4] at h; exact absurd h (by decide)
    rw [if_neg c4] at h
    by_cases c5 : pz_wd t N p 5 = true
    · rw [if_pos c5] at h; exact absurd h (by decide)
    rw [if_neg c5] at h
    by_cases c6 : pz_wd t N p 6 = true
    · rw [if_pos c6] at h; exact absurd h (by decide)
    rw [if_neg c6] at h
    by_cases c7 : pz_wd t N p 7 = true
    · rw [if_pos c7] at h; exact absurd h (by decide)
    rw [if_neg c7] at h
    exact absurd h (by decide)
  | 1, _ =>
    by_cases c0 : pz_wd t N p 0 = true
    · rw [if_pos c0] at h; exact absurd h (by decide)
    rw [if_neg c0] at h
    by_cases c1 : pz_wd t N p 1 = true
    · exact c1
    rw [if_neg c1] at h
    by_cases c2 : pz_wd t N p 2 = true
    · rw [if_pos c2] at h; exact absurd h (by decide)
    rw [if_neg c2] at h
    by_cases c3 : pz_wd t N p 4 = true
    · rw [if_pos c3] at h; exact absurd h (by decide)
    rw [if_neg c3] at h
    by_cases c4 : pz_wd t N p 3 = true
    · rw [if_pos c4] at h; exact absurd h (by decide)
    rw [if_neg c4] at h
    by_cases c5 : pz_wd t N p 5 = true
    · rw [if_pos c5] at h; exact absurd h (by decide)
    rw [if_neg c5] at h
    by_cases c6 : pz_wd t N p 6 = true
    · rw [if_pos c6] at h; exact absurd h (by decide)
    rw [if_neg c6] at h
    by_cases c7 : pz_wd t N p 7 = true
    · rw [if_pos c7] at h; exact absurd h (by decide)
    rw [if_neg c7] at h
    exact absurd h (by decide)
  | 2, _ =>
    by_cases c0 : pz_wd t N p 0 = true
    · rw [if_pos c0] at h; exact absurd h (by decide)
    rw [if_neg c0] at h
    by_cases c1 : pz_wd t N p 1 = true
    · rw [if_pos c1] at h; exact absurd h (by decide)
    rw [if_neg c1] at h
    by_cases c2 : pz_wd t N p 2 = true
    · exact c2
    rw [if_neg c2] at h
    by_cases c3 : pz_wd t N p 4 = true
    · rw [if_pos c3] at h; exact absurd h (by decide)
    rw [if_neg c3] at h
    by_cases c4 : pz_wd t N p 3 = true
    · rw [if_pos c4] at h; exact absurd h (by decide)
    rw [if_neg c4] at h
    by_cases c5 : pz_wd t N p 5 = true
    · rw [if_pos c5] at h; exact absurd h (by decide)
    rw [if_neg c5] at h
    by_cases c6 : pz_wd t N p 6 = true
    · rw [if_pos c6] at h; exact absurd h (by decide)
    rw [if_neg c6] at h
    by_cases c7 : pz_wd t N p 7 = true
    · rw [if_pos c7] at h; exact absurd h (by decide)
    rw [if_neg c7] at h
    exact absurd h (by decide)
  | 3, _ =>
    by_cases c0 : pz_wd t N p 0 = true
    · rw [if_pos c0] at h; exact absurd h (by decide)
    rw [if_neg c0] at h
    by_cases c1 : pz_wd t N p 1 = true
    · rw [if_pos c1] at h; exact absurd h (by decide)
    rw [if_neg c1] at h
    by_cases c2 : pz_wd t N p 2 = true
    · rw [if_pos c2] at h; exact absurd h (by decide)
    rw [if_neg c2] at h
    by_cases c3 : pz_wd t N p 4 = true
    · exact c3
    rw [if_neg c3] at h
    by_cases c4 : pz_wd t N p 3 = true
    · rw [if_pos c4] at h; exact absurd h (by decide)
    rw [if_neg c4] at h
    by_cases c5 : pz_wd t N p 5 = true
    · rw [if_pos c5] at h; exact absurd h (by decide)
    rw [if_neg c5] at h
    by_cases c6 : pz_wd t N p 6 = true
    · rw [if_pos c6] at h; exact absurd h (by decide)
    rw [if_neg c6] at h
    by_cases c7 : pz_wd t N p 7 = true
    · rw [if_pos c7] at h; exact absurd h (by decide)
    rw [if_neg c7] at h
    exact absurd h (by decide)
  | 4, _ =>
    by_cases c0 : pz_wd t N p 0 = true
    · rw [if_pos c0] at h; exact absurd h (by decide)
    rw [if_neg c0] at h
    by_cases c1 : pz_wd t N p 1 = true
    · rw [if_pos c1] at h; exact absurd h (by decide)
    rw [if_neg c1] at h
    by_cases c2 : pz_wd t N p 2 = true
    · rw [if_pos c2] at h; exact absurd h (by decide)
    rw [if_neg c2] at h
    by_cases c3 : pz_wd t N p 4 = true
    · rw [if_pos c3] at h; exact absurd h (by decide)
    rw [if_neg c3] at h
    by_cases c4 : pz_wd t N p 3 = true
    · exact c4
    rw [if_neg c4] at h
    by_cases c5 : pz_wd t N p 5 = true
    · rw [if_pos c5] at h; exact absurd h (by decide)
    rw [if_neg c5] at h
    by_cases c6 : pz_wd t N p 6 = true
    · rw [if_pos c6] at h; exact absurd h (by decide)
    rw [if_neg c6] at h
    by_cases c7 : pz_wd t N p 7 = true
    · rw [if_pos c7] at h; exact absurd h (by decide)
    rw [if_neg c7] at h
    exact absurd h (by decide)
  | 5, _ =>
    by_cases c0 : pz_wd t N p 0 = true
    · rw [if_pos c0] at h; exact absurd h (by decide)
    rw [if_neg c0] at h
    by_cases c1 : pz_wd t N p 1 = true
    · rw [if_pos c1] at h; exact absurd h (by decide)
    rw [if_neg c1] at h
    by_cases c2 : pz_wd t N p 2 = true
    · rw [if_pos c2] at h; exact absurd h (by decide)
    rw [if_neg c2] at h
    by_cases c3 : pz_wd t N p 4 = true
    · rw [if_pos c3] at h; exact absurd h (by decide)
    rw [if_neg c3] at h
    by_cases c4 : pz_wd t N p 3 = true
    · rw [if_pos c4] at h; exact absurd h (by decide)
    rw [if_neg c4] at h
    by_cases c5 : pz_wd t N p 5 = true
    · exact c5
    rw [if_neg c5] at h
    by_cases c6 : pz_wd t N p 6 = true
    · rw [if_pos c6] at h; exact absurd h (by decide)
    rw [if_neg c6] at h
    by_cases c7 : pz_wd t N p 7 = true
    · rw [if_pos c7] at h; exact absurd h (by decide)
    rw [if_neg c7] at h
    exact absurd h (by decide)
  | 6, _ =>
    by_cases c0 : pz_wd t N p 0 = true
    · rw [if_pos c0] at h; exact absurd h (by decide)
    rw [if_neg c0] at h
    by_cases c1 : pz_wd t N p 1 = true
    · rw [if_pos c1] at h; exact absurd h (by decide)
    rw [if_neg c1] at h
    by_cases c2 : pz_wd t N p 2 = true
    · rw [if_pos c2] at h; exact absurd h (by decide)
    rw [if_neg c2] at h
    by_cases c3 : pz_wd t N p 4 = true
    · rw [if_pos c3] at h; exact absurd h (by decide)
    rw [if_neg c3] at h
    by_cases c4 : pz_wd t N p 3 = true
    · rw [if_pos c4] at h; exact absurd h (by decide)
    rw [if_neg c4] at h
    by_cases c5 : pz_wd t N p 5 = true
    · rw [if_pos c5] at h; exact absurd h (by decide)
    rw [if_neg c5] at h
    by_cases c6 : pz_wd t N p 6 = true
    · exact c6
    rw [if_neg c6] at h
    by_cases c7 : pz_wd t N p 7 = true
    · rw [if_pos c7] at h; exact absurd h (by decide)
    rw [if_neg c7] at h
    exact absurd h (by decide)
  | 7, _ =>
    by_cases c0 : pz_wd t N p 0 = true
    · rw [if_pos c0] at h; exact absurd h (by decide)
    rw [if_neg c0] at h
    by_cases c1 : pz_wd t N p 1 = true
    · rw [if_pos c1] at h; exact absurd h (by decide)
    rw [if_neg c1] at h
    by_cases c2 : pz_wd t N p 2 = true
    · rw [if_pos c2] at h; exact absurd h (by decide)
    rw [if_neg c2] at h
    by_cases c3 : pz_wd t N p 4 = true
    · rw [if_pos c3] at h; exact absurd h (by decide)
    rw [if_neg c3] at h
    by_cases c4 : pz_wd t N p 3 = true
    · rw [if_pos c4] at h; exact absurd h (by decide)
    rw [if_neg c4] at h
    by_cases c5 : pz_wd t N p 5 = true
    · rw [if_pos c5] at h; exact absurd h (by decide)
    rw [if_neg c5] at h
    by_cases c6 : pz_wd t N p 6 = true
    · rw [if_pos c6] at h; exact absurd h (by decide)
    rw [if_neg c6] at h
    by_cases c7 : pz_wd t N p 7 = true
    · exact c7
    rw [if_neg c7] at h
    exact absurd h (by decide)
theorem pz_wix_0 {t N p : Nat} (h : ∀ j, j < 8 → pz_wd t N p (pz_pm j) = false) : pz_wix t N p = 4294967295 := by
  have h0 : pz_wd t N p 0 = false := h 0 (by decide)
  have h1 : pz_wd t N p 1 = false := h 1 (by decide)
  have h2 : pz_wd t N p 2 = false := h 2 (by decide)
  have h4 : pz_wd t N p 4 = false := h 3 (by decide)
  have h3 : pz_wd t N p 3 = false := h 4 (by decide)
  have h5 : pz_wd t N p 5 = false := h 5 (by decide)
  have h6 : pz_wd t N p 6 = false := h 6 (by decide)
  have h7 : pz_wd t N p 7 = false := h 7 (by decide)
  unfold pz_wix
  rw [h0, h1, h2, h3, h4, h5, h6, h7]
  rfl
theorem pz_pm_lt : ∀ k, k < 8 → pz_pm k < 8 := by decide
theorem pz_pm_in : ∀ i, i < 8 → ∀ j, j < 8 → pz_pm i = pz_pm j → i = j := by decide
theorem pz_wix_3 {t N p k : Nat} (hk : k < 8) (h : pz_wd t N p (pz_pm k) = true) : pz_wix t N p = k := by
  have no : ∀ j, j < 8 → j ≠ k → pz_wd t N p (pz_pm j) = false := fun j hj hne => by
    cases hb : pz_wd t N p (pz_pm j) with
    | false => rfl
    | true => exact absurd (pz_pm_in j hj k hk (pz_wd_ex (pz_pm_lt j hj) (pz_pm_lt k hk) hb h)) hne
  match k, hk with
  | 0, _ =>
    have h1 : pz_wd t N p 1 = false := no 1 (by decide) (by decide)
    have h2 : pz_wd t N p 2 = false := no 2 (by decide) (by decide)
    have h4 : pz_wd t N p 4 = false := no 3 (by decide) (by decide)
    have h3 : pz_wd t N p 3 = false := no 4 (by decide) (by decide)
    have h5 : pz_wd t N p 5 = false := no 5 (by decide) (by decide)
    have h6 : pz_wd t N p 6 = false := no 6 (by decide) (by decide)
    have h7 : pz_wd t N p 7 = false := no 7 (by decide) (by decide)
    replace h : pz_wd t N p 0 = true := h
    unfold pz_wix
    rw [h]
    rfl
  | 1, _ =>
    have h0 : pz_wd t N p 0 = false := no 0 (by decide) (by decide)
    have h2 : pz_wd t N p 2 = false := no 2 (by decide) (by decide)
    have h4 : pz_wd t N p 4 = false := no 3 (by decide) (by decide)
    have h3 : pz_wd t N p 3 = false := no 4 (by decide) (by decide)
    have h5 : pz_wd t N p 5 = false := no 5 (by decide) (by decide)
    have h6 : pz_wd t N p 6 = false := no 6 (by decide) (by decide)
    have h7 : pz_wd t N p 7 = false := no 7 (by decide) (by decide)
    replace h : pz_wd t N p 1 = true := h
    unfold pz_wix
    rw [h0, h]
    rfl
  | 2, _ =>
    have h0 : pz_wd t N p 0 = false := no 0 (by decide) (by decide)
    have h1 : pz_wd t N p 1 = false := no 1 (by decide) (by decide)
    have h4 : pz_wd t N p 4 = false := no 3 (by decide) (by decide)
    have h3 : pz_wd t N p 3 = false := no 4 (by decide) (by decide)
    have h5 : pz_wd t N p 5 = false := no 5 (by decide) (by decide)
    have h6 : pz_wd t N p 6 = false := no 6 (by decide) (by decide)
    have h7 : pz_wd t N p 7 = false := no 7 (by decide) (by decide)
    replace h : pz_wd t N p 2 = true := h
    unfold pz_wix
    rw [h0, h1, h]
    rfl
  | 3, _ =>
    have h0 : pz_wd t N p 0 = false := no 0 (by decide) (by decide)
    have h1 : pz_wd t N p 1 = false := no 1 (by decide) (by decide)
    have h2 : pz_wd t N p 2 = false := no 2 (by decide) (by decide)
    have h3 : pz_wd t N p 3 = false := no 4 (by decide) (by decide)
    have h5 : pz_wd t N p 5 = false := no 5 (by decide) (by decide)
    have h6 : pz_wd t N p 6 = false := no 6 (by decide) (by decide)
    have h7 : pz_wd t N p 7 = false := no 7 (by decide) (by decide)
    replace h : pz_wd t N p 4 = true := h
    unfold pz_wix
    rw [h0, h1, h2, h]
    rfl
  | 4, _ =>
    have h0 : pz_wd t N p 0 = false := no 0 (by decide) (by decide)
    have h1 : pz_wd t N p 1 = false := no 1 (by decide) (by decide)
    have h2 : pz_wd t N p 2 = false := no 2 (by decide) (by decide)
    have h4 : pz_wd t N p 4 = false := no 3 (by decide) (by decide)
    have h5 : pz_wd t N p 5 = false := no 5 (by decide) (by decide)
    have h6 : pz_wd t N p 6 = false := no 6 (by decide) (by decide)
    have h7 : pz_wd t N p 7 = false := no 7 (by decide) (by decide)
    replace h : pz_wd t N p 3 = true := h
    unfold pz_wix
    rw [h0, h1, h2, h4, h]
    rfl
  | 5, _ =>
    have h0 : pz_wd t N p 0 = false := no 0 (by decide) (by decide)
    have h1 : pz_wd t N p 1 = false := no 1 (by decide) (by decide)
    have h2 : pz_wd t N p 2 = false := no 2 (by decide) (by decide)
    have h4 : pz_wd t N p 4 = false := no 3 (by decide) (by decide)
    have h3 : pz_wd t N p 3 = false := no 4 (by decide) (by decide)
    have h6 : pz_wd t N p 6 = false := no 6 (by decide) (by decide)
    have h7 : pz_wd t N p 7 = false := no 7 (by decide) (by decide)
    replace h : pz_wd t N p 5 = true := h
    unfold pz_wix
    rw [h0, h1, h2, h4, h3, h]
    rfl
  | 6, _ =>
    have h0 : pz_wd t N p 0 = false := no 0 (by decide) (by decide)
    have h1 : pz_wd t N p 1 = false := no 1 (by decide) (by decide)
    have h2 : pz_wd t N p 2 = false := no 2 (by decide) (by decide)
    have h4 : pz_wd t N p 4 = false := no 3 (by decide) (by decide)
    have h3 : pz_wd t N p 3 = false := no 4 (by decide) (by decide)
    have h5 : pz_wd t N p 5 = false := no 5 (by decide) (by decide)
    have h7 : pz_wd t N p 7 = false := no 7 (by decide) (by decide)
    replace h : pz_wd t N p 6 = true := h
    unfold pz_wix
    rw [h0, h1, h2, h4, h3, h5, h]
    rfl
  | 7, _ =>
    have h0 : pz_wd t N p 0 = false := no 0 (by decide) (by decide)
    have h1 : pz_wd t N p 1 = false := no 1 (by decide) (by decide)
    have h2 : pz_wd t N p 2 = false := no 2 (by decide) (by decide)
    have h4 : pz_wd t N p 4 = false := no 3 (by decide) (by decide)
    have h3 : pz_wd t N p 3 = false := no 4 (by decide) (by decide)
    have h5 : pz_wd t N p 5 = false := no 5 (by decide) (by decide)
    have h6 : pz_wd t N p 6 = false := no 6 (by decide) (by decide)
    replace h : pz_wd t N p 7 = true := h
    unfold pz_wix
    rw [h0, h1, h2, h4, h3, h5, h6, h]
    rfl
theorem pz_wix_2 {t N p k : Nat} (hk : k < 8) (h : pz_wix t N p ≠ k) : pz_wd t N p (pz_pm k) = false := by
  cases hb : pz_wd t N p (pz_pm k) with
  | false => rfl
  | true => exact absurd (pz_wix_3 hk hb) h
theorem pz_wd_no {t N p k : Nat} (h : pz_kd t N p ≠ 1) : pz_wd t N p k = false := pz_is_no (Or.inl h)
/-- a sign -/
theorem pz_kd4 {t N p : Nat} (h : 4 ≤ pz_kd t N p) : pz_at t N p < N ∧ pz_b t (pz_at t N p) = pz_kd t N p := by
  by_cases h0 : N ≤ pz_at t N p
  · rw [(pz_kd_end h0).1] at h; omega
  · have hlt : pz_at t N p < N := by omega
    refine ⟨hlt, ?_⟩
    cases h1 : pz_lt (pz_b t (pz_at t N p)) with
    | true => rw [(pz_kd_wd hlt h1).1] at h; omega
    | false =>
      cases h2 : pz_dg (pz_b t (pz_at t N p)) with
      | true => rw [(pz_kd_nm hlt h2).1] at h; omega
      | false =>
        have e := (pz_kd_sg hlt h1 h2).1
        cases h3 : pz_sg (pz_b t (pz_at t N p)) with
        | true => rw [h3, if_pos rfl] at e; exact e.symm
        | false => rw [h3, if_neg (by decide)] at e; rw [e] at h; omega
theorem pz_kd2 {t N p : Nat} (h : pz_kd t N p = 2) : pz_nx t N p = pz_e pz_dg t N (pz_at t N p) ∧ pz_vl t N p = pz_n t N (pz_at t N p) 0 := by
  refine ⟨?_, rfl⟩
  by_cases h0 : N ≤ pz_at t N p
  · rw [(pz_kd_end h0).1] at h; cases h
  · have hlt : pz_at t N p < N := by omega
    cases h1 : pz_lt (pz_b t (pz_at t N p)) with
    | true => rw [(pz_kd_wd hlt h1).1] at h; cases h
    | false =>
      cases h2 : pz_dg (pz_b t (pz_at t N p)) with
      | true => unfold pz_nx; rw [if_neg h0, h1, if_neg (by decide), if_pos h2]
      | false =>
        have e := (pz_kd_sg hlt h1 h2).1
        cases h3 : pz_sg (pz_b t (pz_at t N p)) with
        | true =>
          rw [h3, if_pos rfl] at e
          rw [e] at h
          rw [h] at h3
          cases h3
        | false => rw [h3, if_neg (by decide)] at e; rw [e] at h; cases h
theorem pz_kd1 {t N p : Nat} (h : pz_kd t N p = 1) : pz_nx t N p = pz_e pz_lt t N (pz_at t N p) := by
  by_cases h0 : N ≤ pz_at t N p
  · rw [(pz_kd_end h0).1] at h; cases h
  · have hlt : pz_at t N p < N := by omega
    cases h1 : pz_lt (pz_b t (pz_at t N p)) with
    | true => rw [(pz_kd_wd hlt h1).2, ← pz_e_on hlt h1]
    | false =>
      cases h2 : pz_dg (pz_b t (pz_at t N p)) with
      | true => rw [(pz_kd_nm hlt h2).1] at h; cases h
      | false =>
        have e := (pz_kd_sg hlt h1 h2).1
        cases h3 : pz_sg (pz_b t (pz_at t N p)) with
        | true =>
          rw [h3, if_pos rfl] at e
          rw [e] at h
          rw [h] at h3
          cases h3
        | false => rw [h3, if_neg (by decide)] at e; rw [e] at h; cases h
/-- the links, by channels -/
def pz_be (b : Nat) (en : Nat → Option Nat) (j : Nat) : Option Nat := en (40 * b + j)
def pz_fi (b : Nat) (en : Nat → Option Nat) (j : Nat) : Option Nat := en (40 * b + (if j % 2 = 0 then j + 1 else j - 1))
noncomputable def pz_y152 (b g n : Nat) (sw ln ro rm un rt rom rk fa fp : Option Nat) (en : Nat → Option Nat) : Prop := pz_dt (pz_cF g n) (ay_ln sw) (ay_ln ln) (ay_ln ro) (ay_ln rm) (ay_ln un) (ay_ln rt) (ay_ln rom) (ay_ln rk) (ay_ln fa) (ay_ln fp) (pz_be b en) (pz_fi b en)
noncomputable def pz_y151 (g n : Nat) (nx ta tk nu wd : Option Nat) : Prop := ay_ln nx = pz_nx (pz_gt g) (pz_gN g) (pz_p (pz_cF g n)) ∧ ay_ln ta = pz_at (pz_gt g) (pz_gN g) (pz_p (pz_cF g n)) ∧ ay_ln tk = pz_tok (pz_kd (pz_gt g) (pz_gN g) (pz_p (pz_cF g n))) ∧ (pz_kd (pz_gt g) (pz_gN g) (pz_p (pz_cF g n)) = 2 → pz_m (ay_ln nu) = pz_vl (pz_gt g) (pz_gN g) (pz_p (pz_cF g n))) ∧ (pz_kd (pz_gt g) (pz_gN g) (pz_p (pz_cF g n)) = 1 → ay_ln wd = pz_wix (pz_gt g) (pz_gN g) (pz_p (pz_cF g n)))
theorem pz_m50 {b g n : Nat} {nx ta tk nu wd sw ln ro rm un rt rom rk fa fp : Option Nat} {en : Nat → Option Nat} (h1 : pz_y151 g n nx ta tk nu wd) (h2 : pz_y152 b g n sw ln ro rm un rt rom rk fa fp en) : pz50 (pz_gt g) (pz_gN g) (n / 4) (ay_ln nx) (ay_ln ta) (pz_kd (pz_gt g) (pz_gN g) (pz_p (pz_cF g n))) (ay_ln nu) (ay_ln sw) (ay_ln ln) (ay_ln ro) (ay_ln rm) (ay_ln un) (ay_ln rt) (ay_ln rom) (ay_ln rk) (ay_ln fa) (ay_ln fp) (pz_be b en) (pz_fi b en) := ⟨h1.1, h1.2.1, rfl, h1.2.2.2.1, h2⟩
noncomputable def pz_y158 (g n : Nat) (nx nu : Option Nat) : Prop := pz_e pz_dg (pz_gt g) (pz_gN g) (ay_ln nx) = pz_nx (pz_gt g) (pz_gN g) (pz_p (pz_cF g n)) ∧ pz_n (pz_gt g) (pz_gN g) (ay_ln nx) (pz_m (ay_ln nu)) = pz_vl (pz_gt g) (pz_gN g) (pz_p (pz_cF g n))
noncomputable def pz_y159 (g n : Nat) (nx nu : Option Nat) : Prop := pz_e pz_dg (pz_gt g) (pz_gN g) (ay_ln nx + 1) = pz_nx (pz_gt g) (pz_gN g) (pz_p (pz_cF g n)) ∧ pz_n (pz_gt g) (pz_gN g) (ay_ln nx + 1) (pz_m (ay_ln nu)) = pz_vl (pz_gt g) (pz_gN g) (pz_p (pz_cF g n))
noncomputable def pz_y135 (g : Nat) (tp : Nat → Option Nat) : Prop := pz_gN g ≤ 800 ∧ ∀ j, j < pz_gN g → tp j = some (4 * pz_b (pz_gt g) j)
noncomputable def pz_y134 (g p q u v w k r : Nat) : Prop := pz_gN g ≤ 780 ∧ k / 4 ≤ 20 ∧ r = pz_a20 (p / 4) (q / 4) (u / 4) (v / 4) (w / 4) g (k / 4)
noncomputable def pz_y136 (g p q u v w k r : Nat) : Prop := pz_gN g ≤ 780 ∧ k / 4 < 20 ∧ r = pz_a20 (p / 4) (q / 4) (u / 4) (v / 4) (w / 4) g (k / 4 + 1)
noncomputable def pz_y162 (g n w v : Nat) : Prop := (v / 4 = 4294967295 ∧ ∀ j, j < w / 4 → pz_wd (pz_gt g) (pz_gN g) (pz_p (pz_cF g n)) (pz_pm j) = false) ∨ (v / 4 < w / 4 ∧ w / 4 ≤ 8 ∧ pz_wd (pz_gt g) (pz_gN g) (pz_p (pz_cF g n)) (pz_pm (v / 4)) = true)
theorem pz_y162_8 {g n v : Nat} (h : pz_y162 g n 32 v) : v / 4 = pz_wix (pz_gt g) (pz_gN g) (pz_p (pz_cF g n)) := by
  rcases h with ⟨h1, h2⟩ | ⟨h1, -, h2⟩
  · rw [h1, pz_wix_0 (fun j hj => h2 j hj)]
  · exact (pz_wix_3 h1 h2).symm
noncomputable def pz_y165 (g n k : Nat) (ta fo : Option Nat) : Prop := pz64 (pz_gt g) (pz_gN g) (n / 4) (k / 4) ∧ ay_ln fo = k / 4 ∧ ay_ln ta = pz_at (pz_gt g) (pz_gN g) (pz_p (pz_cF g n))
def pz_y180 (g n s u : Nat) : Prop := pz90 (pz_gt g) (pz_gN g) (n / 4) (s / 4) ∧ 1 ≤ s / 4 ∧ (u / 4 = 1 → pz7 (pz_gt g) (pz_gN g) (n / 4) 8) ∧ (u / 4 = 0 → pz7 (pz_gt g) (pz_gN g) (n / 4) 9 ∧ pz_strip (s / 4) = s / 4)
def pz_y181 (g n : Nat) : Prop := pz7 (pz_gt g) (pz_gN g) (n / 4) 2 ∨ (pz7 (pz_gt g) (pz_gN g) (n / 4) 9 ∧ pz90 (pz_gt g) (pz_gN g) (n / 4) 1 ∧ pz94 (pz_gt g) (pz_gN g) (n / 4))
/-- the stack that lies in open -/
def pz_os (op : Nat → Option Nat) : Nat → Nat
  | 0 => 1
  | k + 1 => if op k = some 4036 then 2 * pz_os op k else if op k = some 4032 then 2 * pz_os op k + 1 else pz_os op k
noncomputable def pz_y196 (s : Nat) (od : Option Nat) (op : Nat → Option Nat) : Prop := pz_os op (ay_ln od) = s / 4 ∧ ∀ j, j + 1 < ay_ln od → op j = some 4032 → op (j + 1) = some 4032 ∨ op (j + 1) = some 4036
theorem pz_os_1 {op : Nat → Option Nat} : ∀ k, 1 ≤ pz_os op k
  | 0 => Nat.le_refl 1
  | k + 1 => by
    have := pz_os_1 (op := op) k
    show 1 ≤ (if op k = some 4036 then 2 * pz_os op k else if op k = some 4032 then 2 * pz_os op k + 1 else pz_os op k)
    split
    · omega
    · split <;> omega
theorem pz_os_same {op op' : Nat → Option Nat} : ∀ k, (∀ j, j < k → op' j = op j) → pz_os op' k = pz_os op k
  | 0, _ => rfl
  | k + 1, h => by
    have := pz_os_same k (fun j hj => h j (by omega))
    show (if op' k = some 4036 then 2 * pz_os op' k else if op' k = some 4032 then 2 * pz_os op' k + 1 else pz_os op' k) = _
    rw [h k (by omega), this]
    rfl
theorem pz_os_O {op : Nat → Option Nat} {k : Nat} (h : op k = some 4036) : pz_os op (k + 1) = 2 * pz_os op k := if_pos h
theorem pz_os_M {op : Nat → Option Nat} {k : Nat} (h : op k = some 4032) : pz_os op (k + 1) = 2 * pz_os op k + 1 := (if_neg (by rw [h]; decide)).trans (if_pos h)
theorem pz_os_B {op : Nat → Option Nat} {k : Nat} (h1 : op k ≠ some 4036) (h2 : op k ≠ some 4032) : pz_os op (k + 1) = pz_os op k := (if_neg h1).trans (if_neg h2)
theorem pz_os_ev {op : Nat → Option Nat} : ∀ k, (∀ j, j + 1 < k → op j = some 4032 → op (j + 1) = some 4032 ∨ op (j + 1) = some 4036) → (∀ j, j + 1 = k → op j ≠ some 4032) → pz_os op k % 2 = 0 ∨ pz_os op k = 1
  | 0, _, _ => Or.inr rfl
  | k + 1, hi, ht => by
    have h2 := ht k rfl
    by_cases h1 : op k = some 4036
    · rw [pz_os_O h1]; exact Or.inl (by omega)
    · rw [pz_os_B h1 h2]
      refine pz_os_ev k (fun j hj => hi j (by omega)) (fun j hj z => ?_)
      subst hj
      rcases hi j (by omega) z with e | e
      · exact h2 e
      · exact h1 e
theorem pz_str_le : ∀ {f s : Nat}, pz_str f s ≤ s
  | 0, _ => Nat.le_refl _
  | f + 1, s => by
    show (if s % 2 = 1 ∧ 1 < s then pz_str f (s / 2) else s) ≤ s
    by_cases h1 : s % 2 = 1 ∧ 1 < s
    · rw [if_pos h1]; have := pz_str_le (f := f) (s := s / 2); omega
    · rw [if_neg h1]; exact Nat.le_refl _
theorem pz_strip_le {s : Nat} : pz_strip s ≤ s := pz_str_le
/-- one that is stripped is even or 1 -/
theorem pz_strip_ev {s : Nat} (h1 : 1 ≤ s) (h : pz_strip s = s) : s % 2 = 0 ∨ s = 1 := by
  by_cases he : s % 2 = 0
  · exact Or.inl he
  · by_cases h3 : s = 1
    · exact Or.inr h3
    · have e : s = 2 * (s / 2) + 1 := by omega
      have e2 := pz_strip_odd (s := s / 2) (by omega)
      rw [← e, h] at e2
      have := pz_strip_le (s := s / 2)
      omega
theorem pz_strip_2 {s : Nat} (h1 : 1 ≤ s) : pz_strip (pz_strip s) = pz_strip s := by
  have key : ∀ f s, 1 ≤ s → s ≤ f → pz_strip (pz_strip s) = pz_strip s := by
    intro f
    induction f with
    | zero => intro s h1 h2; omega
    | succ f ih =>
      intro s h1 h2
      by_cases he : s % 2 = 0 ∨ s = 1
      · rw [pz_strip_even he, pz_strip_even he]
      · have e : s = 2 * (s / 2) + 1 := by omega
        have e2 := pz_strip_odd (s := s / 2) (by omega)
        rw [← e] at e2
        rw [e2]
        exact ih (s / 2) (by omega) (by omega)
  exact key s s h1 (Nat.le_refl _)
theorem pz_dp_0 {s : Nat} (h : pz_dp s = 0) : s ≤ 1 := by
  by_cases hs : s ≤ 1
  · exact hs
  · have := pz_dp_push (s := s / 2) (x := s) (by omega) (by omega)
    omega
theorem pz_dp_1 {s : Nat} (h : 1 ≤ pz_dp s) : 1 < s := by
  by_cases hs : 1 < s
  · exact hs
  · have : s = 0 ∨ s = 1 := by omega
    rcases this with rfl | rfl <;> exact absurd h (by decide)
def pz_y215 (g n a e i : Nat) : Prop := ∀ j x y, j < i / 4 → (pz_ls (pz_cF g n))[j]? = some (x, y) → ¬ (x = a / 4 ∧ y = e / 4) ∧ ¬ (y = a / 4 ∧ x = e / 4)
/-- within readLink: k ends are written -/
noncomputable def pz_yal (k b g n a e l : Nat) (sw ln ro rm un rt rom rk fa fp : Option Nat) (en : Nat → Option Nat) : Prop := ay_ln ln = l / 4 ∧ pz7 (pz_gt g) (pz_gN g) (n / 4) 5 ∧ pz67 (pz_gt g) (pz_gN g) (n / 4) (a / 4) ∧ pz104 (pz_gt g) (pz_gN g) (n / 4) (e / 4) ∧ e / 4 ≠ a / 4 ∧ pz113 (pz_gt g) (pz_gN g) (n / 4) (a / 4) (e / 4) ∧ pz_y152 b g n sw ln ro rm un rt rom rk fa fp en ∧ en (40 * b + 2 * (l / 4)) = some (4 * (a / 4)) ∧ (2 ≤ k → en (40 * b + 2 * (l / 4) + 1) = some (4 * (e / 4)))
theorem pz_y152_en {b g n l i v : Nat} {sw ln ro rm un rt rom rk fa fp : Option Nat} {en en' : Nat → Option Nat} (h : pz_y152 b g n sw ln ro rm un rt rom rk fa fp en) (hl : ay_ln ln = l) (hi : 40 * b + 2 * l ≤ i) (he : ∀ j, en' j = if j = i then some v else en j) : pz_y152 b g n sw ln ro rm un rt rom rk fa fp en' := by
  refine pz_dt_x h (fun j hj => ?_) (fun j hj => ?_)
  · show en' (40 * b + j) = en (40 * b + j)
    rw [he, if_neg (by omega)]
  · show en' (40 * b + (if j % 2 = 0 then j + 1 else j - 1)) = en (40 * b + (if j % 2 = 0 then j + 1 else j - 1))
    rw [he, if_neg (by split <;> omega)]
theorem pz_and3 : ∀ k, k < 20 → rx_f_and k 3 = some (k % 4) := by decide +kernel
theorem pz_l153 {g n K : Nat} {nx : Option Nat} (hn : n / 4 = K) (h : ay_ln nx = pz_p (pz_cf (pz_gt g) (pz_gN g) K)) : pz_at (pz_gt g) (pz_gN g) (ay_ln nx) = pz_at (pz_gt g) (pz_gN g) (pz_p (pz_cF g n)) := by
  subst hn
  rw [h]
theorem pz_l152 {b g n K : Nat} {sw ln ro rm un rt rom rk fa fp : Option Nat} {en : Nat → Option Nat} (hn : n / 4 = K) (h : pz_dt (pz_cf (pz_gt g) (pz_gN g) K) (ay_ln sw) (ay_ln ln) (ay_ln ro) (ay_ln rm) (ay_ln un) (ay_ln rt) (ay_ln rom) (ay_ln rk) (ay_ln fa) (ay_ln fp) (pz_be b en) (pz_fi b en)) : pz_y152 b g n sw ln ro rm un rt rom rk fa fp en := by
  subst hn
  exact h
theorem pz_l197 {g n K s : Nat} (hn : n / 4 = K) (h : pz90 (pz_gt g) (pz_gN g) K s) : pz90 (pz_gt g) (pz_gN g) (n / 4) s := by
  subst hn
  exact h
theorem pz_bin {c : Nat} (h : c % 4 = 0) (h1 : 1003 ≤ c / 4) (h2 : c / 4 ≤ 1007) : some c ≠ some 4036 ∧ some c ≠ some 4032 := ⟨fun z => by have := Option.some.inj z; omega, fun z => by have := Option.some.inj z; omega⟩
theorem pz_jn2 {b g n i a e x y : Nat} {sw ln ro rm un rt rom rk fa fp : Option Nat} {en : Nat → Option Nat} (h : pz_y152 b g n sw ln ro rm un rt rom rk fa fp en) (hl : i < ay_ln ln) (hx : en (40 * b + 2 * i) = some x) (hy : en (40 * b + 2 * i + 1) = some y) (hc : (x / 4 = a ∧ y / 4 = e) ∨ (x / 4 = e ∧ y / 4 = a)) : pz_jn (pz_ls (pz_cF g n)) a e = true := by
  have hln : ay_ln ln = (pz_ls (pz_cF g n)).length := h.2.1
  obtain ⟨⟨u, v⟩, hz⟩ : ∃ z, (pz_ls (pz_cF g n))[i]? = some z := ⟨_, List.getElem?_eq_getElem (by omega)⟩
  obtain ⟨l1, -, l3, -⟩ := h.2.2.2.2.2.2.2.2.2.2 i u v hz
  replace l1 : en (40 * b + 2 * i) = some (4 * u) := l1
  replace l3 : en (40 * b + 2 * i + 1) = some (4 * v) := l3
  rw [hx] at l1
  rw [hy] at l3
  have l1 := Option.some.inj l1
  have l3 := Option.some.inj l3
  refine pz_jn_yes hz ?_
  omega
theorem pz_jn3 {b g n i a e x y : Nat} {sw ln ro rm un rt rom rk fa fp : Option Nat} {en : Nat → Option Nat} (h : pz_y152 b g n sw ln ro rm un rt rom rk fa fp en) (hx : en (40 * b + 2 * i) = some x) (hy : en (40 * b + 2 * i + 1) = some y) (hc : ¬ ((x / 4 = a ∧ y / 4 = e) ∨ (x / 4 = e ∧ y / 4 = a))) {u v : Nat} (hz : (pz_ls (pz_cF g n))[i]? = some (u, v)) : ¬ (u = a ∧ v = e) ∧ ¬ (v = a ∧ u = e) := by
  obtain ⟨l1, -, l3, -⟩ := h.2.2.2.2.2.2.2.2.2.2 i u v hz
  replace l1 : en (40 * b + 2 * i) = some (4 * u) := l1
  replace l3 : en (40 * b + 2 * i + 1) = some (4 * v) := l3
  rw [hx] at l1
  rw [hy] at l3
  have l1 := Option.some.inj l1
  have l3 := Option.some.inj l3
  omega
theorem pz_st_no {t N : Nat} {c : pz_C} (hc : pz_md c = 21 ∨ pz_no c ≤ 10) : pz_md (pz_st t N c) = 21 ∨ pz_no (pz_st t N c) ≤ 10 := by
  obtain ⟨md, p, no, ls, ⟨r, m, k⟩, u, s, o, a, b⟩ := c
  rcases hc with hc | hc
  · replace hc : md = 21 := hc
    subst hc
    exact Or.inl rfl
  replace hc : no ≤ 10 := hc
  show (fun z => pz_md z = 21 ∨ pz_no z ≤ 10) (pz_st t N (md, p, no, ls, (r, m, k), u, s, o, a, b))
  unfold pz_st
  dsimp only
  repeat' first
    | exact Or.inl rfl
    | exact Or.inr hc
    | exact Or.inr (show pz_vl t N p ≤ 10 by omega)
    | refine pz_ite (Q := fun z => pz_md z = 21 ∨ pz_no z ≤ 10) (fun _ => ?_) (fun _ => ?_)
theorem pz_no10 {t N : Nat} : ∀ n, pz_md (pz_cf t N n) = 21 ∨ pz_no (pz_cf t N n) ≤ 10
  | 0 => Or.inr (Nat.zero_le _)
  | n + 1 => pz_st_no (pz_no10 n)
theorem pz_no9 {t N n m : Nat} (h : pz7 t N n m) (hm : m ≤ 9) : pz_no (pz_cf t N n) ≤ 10 := by
  rcases pz_no10 (t := t) (N := N) n with e | e
  · exact absurd (h.symm.trans e) (by omega)
  · exact e
theorem pz_nm_le {t N : Nat} : ∀ (f p a : Nat), a ≤ 1000 → pz_nm t N f p a ≤ 1000
  | 0, _, _, h => h
  | f + 1, p, a, h => by
    show (if p < N ∧ pz_dg (pz_b t p) = true then pz_nm t N f (p + 1) (pz_m (10 * a + (pz_b t p - 48))) else a) ≤ 1000
    split
    · exact pz_nm_le f _ _ (by unfold pz_m; split <;> omega)
    · exact h
theorem pz_m_vl {t N p : Nat} : pz_m (pz_vl t N p) = pz_vl t N p := by
  have h : pz_vl t N p ≤ 1000 := pz_nm_le _ _ _ (by decide)
  unfold pz_m
  rw [if_pos h]
