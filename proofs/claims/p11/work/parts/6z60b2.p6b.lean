/-! Units, and how long the code is -/
theorem py_st40 {t N : Nat} {c : pz_C} (hc : pz_md c = 21 ∨ pz_un c ≤ 40) : pz_md (pz_st t N c) = 21 ∨ pz_un (pz_st t N c) ≤ 40 := by
  obtain ⟨md, p, no, ls, ⟨r, m, k⟩, u, s, o, a, b⟩ := c
  rcases hc with hc | hc
  · replace hc : md = 21 := hc
    subst hc
    exact Or.inl rfl
  replace hc : u ≤ 40 := hc
  show (fun z => pz_md z = 21 ∨ pz_un z ≤ 40) (pz_st t N (md, p, no, ls, (r, m, k), u, s, o, a, b))
  unfold pz_st
  dsimp only
  repeat' first
    | exact Or.inl rfl
    | exact Or.inr hc
    | exact Or.inr (show u + 1 ≤ 40 by omega)
    | refine pz_ite (Q := fun z => pz_md z = 21 ∨ pz_un z ≤ 40) (fun _ => ?_) (fun _ => ?_)
theorem py_un40 {t N : Nat} : ∀ n, pz_md (pz_cf t N n) = 21 ∨ pz_un (pz_cf t N n) ≤ 40
  | 0 => Or.inr (Nat.zero_le _)
  | n + 1 => py_st40 (py_un40 n)
theorem py_u40 {t N n m : Nat} (h : pz7 t N n m) (hm : m ≤ 9) : pz_un (pz_cf t N n) ≤ 40 := by
  rcases py_un40 (t := t) (N := N) n with e | e
  · exact absurd (h.symm.trans e) (by omega)
  · exact e
/-- how many units a step adds -/
theorem py_stu {t N : Nat} {c : pz_C} : pz_md (pz_st t N c) = 21 ∨ (pz_md c = 8 ∧ pz_un (pz_st t N c) = pz_un c + 1) ∨ (pz_md c ≠ 8 ∧ pz_un (pz_st t N c) = pz_un c) := by
  obtain ⟨md, p, no, ls, ⟨r, m, k⟩, u, s, o, a, b⟩ := c
  show (fun z => pz_md z = 21 ∨ (md = 8 ∧ pz_un z = u + 1) ∨ (md ≠ 8 ∧ pz_un z = u)) (pz_st t N (md, p, no, ls, (r, m, k), u, s, o, a, b))
  unfold pz_st
  dsimp only
  repeat' first
    | exact Or.inl rfl
    | exact Or.inr (Or.inl ⟨by assumption, rfl⟩)
    | exact Or.inr (Or.inr ⟨by omega, rfl⟩)
    | refine pz_ite (Q := fun z => pz_md z = 21 ∨ (md = 8 ∧ pz_un z = u + 1) ∨ (md ≠ 8 ∧ pz_un z = u)) (fun _ => ?_) (fun _ => ?_)
theorem py_u8 {t N n m : Nat} (h : pz7 t N n 8) (h2 : pz7 t N (n + 1) m) (hm : m ≤ 20) : pz_un (pz_cf t N (n + 1)) = pz_un (pz_cf t N n) + 1 := by
  rcases py_stu (t := t) (N := N) (c := pz_cf t N n) with e | ⟨-, e⟩ | ⟨e, -⟩
  · exact absurd (h2.symm.trans e) (by omega)
  · exact e
  · exact absurd h e
theorem py_u0 {t N n k m : Nat} (h : pz7 t N n k) (hk : k ≠ 8) (h2 : pz7 t N (n + 1) m) (hm : m ≤ 20) : pz_un (pz_cf t N (n + 1)) = pz_un (pz_cf t N n) := by
  rcases py_stu (t := t) (N := N) (c := pz_cf t N n) with e | ⟨e, -⟩ | ⟨-, e⟩
  · exact absurd (h2.symm.trans e) (by omega)
  · exact absurd (h.symm.trans e) hk
  · exact e
theorem py_pop_len {k : Nat} : ∀ (S L : List Nat), (py_pop k S L).1.length + (py_pop k S L).2.length = S.length + L.length
  | [], _ => rfl
  | x :: S, L => by
    by_cases h : k ≤ py_bd x
    · rw [py_pop_c h, py_pop_len S]
      show S.length + (L.length + 1) = S.length + 1 + L.length
      omega
    · rw [show py_pop k (x :: S) L = (x :: S, L) from if_neg h]
theorem py_neg_len : ∀ (S L : List Nat), (py_neg S L).1.length + (py_neg S L).2.length = S.length + L.length
  | [], _ => rfl
  | x :: S, L => by
    by_cases h : x = 1008
    · subst h
      rw [py_neg_c, py_neg_len S]
      show S.length + (L.length + 1) = S.length + 1 + L.length
      omega
    · rw [show py_neg (x :: S) L = (x :: S, L) from if_neg h]
/-- what the numbers say -/
def py_99 (r c s : Nat) : Prop := r / 4 = s / 4 * 4096 + c / 4 ∧ 1 ≤ s / 4 ∧ c / 4 < 4096
theorem py_99L {r c s : Nat} (h : py_99 r c s) : py_L (r / 4) = c / 4 :: py_L (s / 4) := by rw [h.1, py_L_c h.2.1 h.2.2]
def py_46 (t N n s l : Nat) : Prop := py_cx t N n = (py_L (s / 4), py_L (l / 4)) ∧ 1 ≤ s / 4 ∧ 1 ≤ l / 4 ∧ (py_L (s / 4)).length + (py_L (l / 4)).length ≤ 2 * pz_un (pz_cf t N n)
def py_47 (t N n s l : Nat) : Prop := py_neg (py_L (s / 4)) (py_L (l / 4)) = py_cx t N n ∧ 1 ≤ s / 4 ∧ 1 ≤ l / 4 ∧ (py_L (s / 4)).length + (py_L (l / 4)).length + 1 ≤ 2 * pz_un (pz_cf t N n)
def py_42 (t N n s l c : Nat) : Prop := py_neg (py_L (s / 4)) (c / 4 :: py_L (l / 4)) = py_cx t N n ∧ 1 ≤ s / 4 ∧ 1 ≤ l / 4 ∧ c / 4 < 4096 ∧ (py_L (s / 4)).length + (py_L (l / 4)).length + 2 ≤ 2 * pz_un (pz_cf t N n)
def py_48 (k t N n s l : Nat) : Prop := py_pop k (py_cx t N n).1 (py_cx t N n).2 = (py_L (s / 4), py_L (l / 4)) ∧ 1 ≤ s / 4 ∧ 1 ≤ l / 4 ∧ (py_L (s / 4)).length + (py_L (l / 4)).length + 1 ≤ 2 * pz_un (pz_cf t N n)
def py_44 (k s : Nat) : Prop := py_bd (py_top (py_L (s / 4))) < k ∧ py_top (py_L (s / 4)) ≠ 1008 ∧ 1 ≤ s / 4
def py_40 (l : Nat) : Prop := (py_L (l / 4)).length ≤ 79 ∧ 1 ≤ l / 4
section PYR
variable {t N n m s l s2 l2 c k : Nat}
theorem pr_s0 (h : pz7 t N n k) (h8 : k ≠ 8) (h9 : k ≠ 9) (h2 : pz7 t N (n + 1) m) (hm : m ≤ 20) (x : py_46 t N n s l) : py_46 t N (n + 1) s l :=
  ⟨py_s0 h h8 h9 x.1, x.2.1, x.2.2.1, by rw [py_u0 h h8 h2 hm]; exact x.2.2.2⟩
theorem pr_sE (h : pz7 t N n 9) (hs : pz90 t N n 1) (ho : pz94 t N n) (h2 : pz7 t N (n + 1) m) (hm : m ≤ 20) (x : py_48 1 t N n s l) : py_46 t N (n + 1) s l :=
  ⟨py_sE h (fun z => absurd z.2 (by rw [show pz_s (pz_cf t N n) = 1 from hs]; decide)) ho x.1, x.2.1, x.2.2.1, by rw [py_u0 h (by decide) h2 hm]; have := x.2.2.2; omega⟩
theorem pr_sC {S : Nat} (h : pz7 t N n 9) (hk : pz_kd t N (pz_p (pz_cf t N n)) = 41) (hs : pz90 t N n S) (h1 : 1 < S) (h2 : pz7 t N (n + 1) m) (hm : m ≤ 20) (x : py_48 1 t N n s2 l) (y : py_99 s2 4036 s) : py_47 t N (n + 1) s l := by
  have e := py_99L y
  refine ⟨(py_sC h hk hs h1 (x.1.trans (by rw [e]))).symm, y.2.1, x.2.2.1, ?_⟩
  have z := x.2.2.2
  rw [e] at z
  rw [py_u0 h (by decide) h2 hm]
  replace z : (py_L (s / 4)).length + 1 + (py_L (l / 4)).length + 1 ≤ _ := z
  omega
theorem pr_su (h : pz7 t N n 8) (h40 : pz_kd t N (pz_p (pz_cf t N n)) ≠ 40) (h45 : pz_kd t N (pz_p (pz_cf t N n)) ≠ 45) (h2 : pz7 t N (n + 1) m) (hm : m ≤ 20) (x : py_46 t N n s l) (hc : c / 4 = py_un t N (pz_p (pz_cf t N n))) (hl : c / 4 < 4096) : py_42 t N (n + 1) s l c :=
  ⟨by rw [hc]; exact (py_sU h h40 h45 x.1).symm, x.2.1, x.2.2.1, hl, by rw [py_u8 h h2 hm]; have := x.2.2.2; omega⟩
theorem pr_sv (x : py_42 t N n s l c) (y : py_99 l2 c l) : py_47 t N n s l2 := by
  have e := py_99L y
  refine ⟨by rw [e]; exact x.1, x.2.1, by rw [y.1]; have := x.2.2.1; omega, ?_⟩
  rw [e]
  show _ + ((py_L (l / 4)).length + 1) + 1 ≤ _
  have := x.2.2.2.2
  omega
theorem pr_l42 (h : pz7 t N n m) (hm : m ≤ 9) (x : py_42 t N n s l c) : py_40 l := ⟨by have := x.2.2.2.2; have := py_u40 h hm; omega, x.2.2.1⟩
theorem pr_l47 (h : pz7 t N n m) (hm : m ≤ 9) (x : py_47 t N n s l) : py_40 l := ⟨by have := x.2.2.2; have := py_u40 h hm; omega, x.2.2.1⟩
theorem pr_l48 (h : pz7 t N n m) (hm : m ≤ 9) (x : py_48 k t N n s l) : py_40 l := ⟨by have := x.2.2.2; have := py_u40 h hm; omega, x.2.2.1⟩
theorem pr_suO (h : pz7 t N n 8) (hk : pz_kd t N (pz_p (pz_cf t N n)) = 40) (h2 : pz7 t N (n + 1) m) (hm : m ≤ 20) (x : py_46 t N n s l) (y : py_99 s2 4036 s) : py_46 t N (n + 1) s2 l := by
  have e := py_99L y
  refine ⟨by rw [e]; exact py_sO h hk x.1, by rw [y.1]; have := x.2.1; omega, x.2.2.1, ?_⟩
  rw [e, py_u8 h h2 hm]
  show (py_L (s / 4)).length + 1 + _ ≤ _
  have := x.2.2.2
  omega
theorem pr_suM (h : pz7 t N n 8) (hk : pz_kd t N (pz_p (pz_cf t N n)) = 45) (h2 : pz7 t N (n + 1) m) (hm : m ≤ 20) (x : py_46 t N n s l) (y : py_99 s2 4032 s) : py_46 t N (n + 1) s2 l := by
  have e := py_99L y
  refine ⟨by rw [e]; exact py_sM h hk x.1, by rw [y.1]; have := x.2.1; omega, x.2.2.1, ?_⟩
  rw [e, py_u8 h h2 hm]
  show (py_L (s / 4)).length + 1 + _ ≤ _
  have := x.2.2.2
  omega
theorem pr_sv5 (x : py_47 t N n s2 l) (y : py_99 s2 4032 s) (z : py_99 l2 4032 l) : py_47 t N n s l2 := by
  have e := py_99L y
  have e2 := py_99L z
  obtain ⟨x1, x2, x3, x4⟩ := x
  rw [e] at x1 x4
  refine ⟨by rw [e2, ← x1]; exact py_neg_c.symm, y.2.1, by rw [z.1]; omega, ?_⟩
  rw [e2]
  show _ + ((py_L (l / 4)).length + 1) + 1 ≤ _
  replace x4 : (py_L (s / 4)).length + 1 + _ + 1 ≤ _ := x4
  omega
theorem pr_sp1 (x : py_47 t N n s l) (y : py_44 2 s) : py_48 2 t N n s l := by
  obtain ⟨x1, x2, x3, x4⟩ := x
  refine ⟨?_, x2, x3, x4⟩
  rw [← x1, py_neg_0 y.2.1]
  exact py_pop_0 y.1 (by decide)
theorem pr_sq1 (x : py_48 2 t N n s l) (y : py_44 1 s) : py_48 1 t N n s l := by
  obtain ⟨x1, x2, x3, x4⟩ := x
  refine ⟨?_, x2, x3, x4⟩
  rw [← py_pop_12, x1]
  exact py_pop_0 y.1 (by decide)
theorem pr_op {q : Nat} (hq : py_bd (py_op q) = k) (h : pz7 t N n 9) (hk : pz_kd t N (pz_p (pz_cf t N n)) = q) (ho : pz_op q = true) (h2 : pz7 t N (n + 1) m) (hm : m ≤ 20) (hc : py_op q = c / 4) (x : py_48 k t N n s l) (y : py_99 s2 c s) : py_46 t N (n + 1) s2 l := by
  have e := py_99L y
  refine ⟨by rw [e, ← hc]; exact py_sB h hk ho (by rw [hq]; exact x.1), by rw [y.1]; have := x.2.1; omega, x.2.2.1, ?_⟩
  rw [e, py_u0 h (by decide) h2 hm]
  show (py_L (s / 4)).length + 1 + _ ≤ _
  have := x.2.2.2
  omega
theorem pr_sp3 (x : py_47 t N n s2 l) (y : py_99 s2 c s) (hc : 2 ≤ py_bd (c / 4)) (z : py_44 2 s) (w : py_99 l2 c l) : py_48 2 t N n s l2 := by
  have e := py_99L y
  have e2 := py_99L w
  obtain ⟨x1, x2, x3, x4⟩ := x
  rw [e] at x1 x4
  have h8 : c / 4 ≠ 1008 := fun z => by rw [z] at hc; exact absurd hc (by decide)
  rw [py_neg_0 (show py_top (c / 4 :: _) ≠ 1008 from h8)] at x1
  refine ⟨?_, y.2.1, by rw [w.1]; omega, ?_⟩
  · rw [← x1, e2]
    show py_pop 2 (c / 4 :: py_L (s / 4)) (py_L (l / 4)) = _
    rw [py_pop_c hc]
    exact py_pop_0 z.1 (by decide)
  · rw [e2]
    show _ + ((py_L (l / 4)).length + 1) + 1 ≤ _
    replace x4 : (py_L (s / 4)).length + 1 + _ + 1 ≤ _ := x4
    omega
theorem pr_sq3 (x : py_48 2 t N n s2 l) (y : py_99 s2 c s) (hc : py_bd (c / 4) = 1) (z : py_44 1 s) (w : py_99 l2 c l) : py_48 1 t N n s l2 := by
  have e := py_99L y
  have e2 := py_99L w
  obtain ⟨x1, x2, x3, x4⟩ := x
  rw [e] at x1 x4
  refine ⟨?_, y.2.1, by rw [w.1]; omega, ?_⟩
  · rw [← py_pop_12, x1, e2]
    show py_pop 1 (c / 4 :: py_L (s / 4)) (py_L (l / 4)) = _
    rw [py_pop_c (by omega)]
    exact py_pop_0 z.1 (by decide)
  · rw [e2]
    show _ + ((py_L (l / 4)).length + 1) + 1 ≤ _
    replace x4 : (py_L (s / 4)).length + 1 + _ + 1 ≤ _ := x4
    omega
theorem pr_44 (y : py_99 s2 c s) (hc : py_bd (c / 4) < k) (h8 : c / 4 ≠ 1008) : py_44 k s2 := by
  have e := py_99L y
  refine ⟨by rw [e]; exact hc, by rw [e]; exact h8, by rw [y.1]; have := y.2.1; omega⟩
theorem pr_45 (y : py_44 1 s) : py_44 2 s := ⟨by have := y.1; omega, y.2.1, y.2.2⟩
end PYR
/-- the class's code -/
def py_ok (o v c : Nat) : Prop := (o = 1 ∧ v = c ∧ c ≤ 999) ∨ (o = 2 ∧ c = 1000) ∨ (o = 3 ∧ c = 1001) ∨ (o = 4 ∧ c = 1002) ∨ (o = 5 ∧ c = 1008) ∨ (o = 43 ∧ c = 1003) ∨ (o = 45 ∧ c = 1004) ∨ (o = 42 ∧ c = 1005) ∨ (o = 47 ∧ c = 1006) ∨ (o = 37 ∧ c = 1007)
noncomputable def py_x41 (l : Nat) (cs : Option Nat) (op od : Nat → Option Nat) : Prop := 1 ≤ l / 4 ∧ ay_ln cs = (py_L (l / 4)).length ∧ ∀ i c, (py_L (l / 4)).reverse[i]? = some c → ∃ o v, op i = some (4 * o) ∧ od i = some (4 * v) ∧ py_ok o v c
noncomputable def py_x80 (l o : Nat) (cs : Option Nat) (op od : Nat → Option Nat) : Prop := py_x41 l cs op od ∧ op (py_L (l / 4)).length = some o
noncomputable def py_x81 (l o v : Nat) (cs : Option Nat) (op od : Nat → Option Nat) : Prop := py_x80 l o cs op od ∧ od (py_L (l / 4)).length = some v
theorem py_rev {l : List Nat} {c i x : Nat} (h : (c :: l).reverse[i]? = some x) : (i < l.length ∧ l.reverse[i]? = some x) ∨ (i = l.length ∧ x = c) := by
  rw [List.reverse_cons] at h
  by_cases hi : i < l.length
  · rw [List.getElem?_append_left (by simpa using hi)] at h
    exact Or.inl ⟨hi, h⟩
  · rw [List.getElem?_append_right (by simpa using hi)] at h
    have hl := (List.getElem?_eq_some_iff.mp h).1
    simp only [List.length_reverse, List.length_cons, List.length_nil] at hl
    have e : i = l.length := by omega
    subst e
    rw [List.length_reverse, Nat.sub_self] at h
    exact Or.inr ⟨rfl, (Option.some.inj h).symm⟩
theorem py_add {l l2 o v c : Nat} {cs cs2 : Option Nat} {op od : Nat → Option Nat} (h : py_x81 l (4 * o) (4 * v) cs op od) (hc : py_ok o v (c / 4)) (y : py_99 l2 c l) (h2 : ay_ln cs2 = ay_ln cs + 1) : py_x41 l2 cs2 op od := by
  obtain ⟨⟨⟨a1, a2, a3⟩, a4⟩, a5⟩ := h
  have e := py_99L y
  refine ⟨by rw [y.1]; omega, by rw [h2, a2, e]; rfl, fun i x hx => ?_⟩
  rw [e] at hx
  rcases py_rev hx with ⟨-, h⟩ | ⟨h, h'⟩
  · exact a3 i x h
  · subst h h'
    exact ⟨o, v, a4, a5, hc⟩
theorem py_st0 {t N : Nat} {c : pz_C} : pz_md (pz_st t N c) ≠ 0 := by
  obtain ⟨md, p, no, ls, ⟨r, m, k⟩, u, s, o, a, b⟩ := c
  show (fun z => pz_md z ≠ 0) (pz_st t N (md, p, no, ls, (r, m, k), u, s, o, a, b))
  unfold pz_st
  dsimp only
  repeat' first
    | exact (show (21 : Nat) ≠ 0 by decide)
    | exact (show (20 : Nat) ≠ 0 by decide)
    | exact (show (1 : Nat) ≠ 0 by decide)
    | exact (show (2 : Nat) ≠ 0 by decide)
    | exact (show (3 : Nat) ≠ 0 by decide)
    | exact (show (4 : Nat) ≠ 0 by decide)
    | exact (show (5 : Nat) ≠ 0 by decide)
    | exact (show (6 : Nat) ≠ 0 by decide)
    | exact (show (7 : Nat) ≠ 0 by decide)
    | exact (show (8 : Nat) ≠ 0 by decide)
    | exact (show (9 : Nat) ≠ 0 by decide)
    | exact (show md ≠ 0 by assumption)
    | refine pz_ite (Q := fun z => pz_md z ≠ 0) (fun _ => ?_) (fun _ => ?_)
theorem py_m0 {t N n : Nat} (h : pz7 t N n 0) : n = 0 := by
  cases n with
  | zero => rfl
  | succ n => exact absurd h py_st0
theorem pr_46_0 {t N n : Nat} (h : pz7 t N n 0) : py_46 t N n 5 5 := by
  rw [py_m0 h]
  exact ⟨rfl, by decide, by decide, Nat.zero_le _⟩
theorem py_x41_0 {op od : Nat → Option Nat} {cs : Option Nat} (h : ay_ln cs = 0) : py_x41 5 cs op od := ⟨by decide, h, fun i c hc => by
  have : (py_L (5 / 4)).reverse = [] := rfl
  rw [this] at hc
  cases hc⟩
section PYW
variable {t N n : Nat}
theorem pr_k1 (h : pz107 t N n 1) : pz_kd t N (pz_p (pz_cf t N n)) = 2 := by
  rcases h.1 with ⟨-, h⟩ | ⟨h, -⟩ | ⟨h, -⟩ | ⟨-, ⟨h, -⟩ | ⟨h, -⟩ | ⟨h, -⟩⟩ | ⟨h, -⟩
  · exact h
  all_goals (exact absurd h (by decide))
theorem pr_k40 (h : pz107 t N n 40) : pz_kd t N (pz_p (pz_cf t N n)) = 40 := by
  rcases h.1 with ⟨h, -⟩ | ⟨-, h⟩ | ⟨h, -⟩ | ⟨-, ⟨h, -⟩ | ⟨h, -⟩ | ⟨h, -⟩⟩ | ⟨h, -⟩
  · exact absurd h (by decide)
  · exact h
  all_goals (exact absurd h (by decide))
theorem pr_k5 (h : pz107 t N n 5) : pz_kd t N (pz_p (pz_cf t N n)) = 45 := by
  rcases h.1 with ⟨h, -⟩ | ⟨h, -⟩ | ⟨-, h⟩ | ⟨-, ⟨h, -⟩ | ⟨h, -⟩ | ⟨h, -⟩⟩ | ⟨h, -⟩
  · exact absurd h (by decide)
  · exact absurd h (by decide)
  · exact h
  all_goals (exact absurd h (by decide))
theorem pr_w {k : Nat} (hk : k = 2 ∨ k = 3 ∨ k = 4) (h : pz107 t N n k) : pz_kd t N (pz_p (pz_cf t N n)) = 1 ∧ pz60 t N n (k + 3) := by
  rcases h.1 with ⟨h, -⟩ | ⟨h, -⟩ | ⟨h, -⟩ | ⟨h1, ⟨h, h2⟩ | ⟨h, h2⟩ | ⟨h, h2⟩⟩ | ⟨h, -⟩
  · omega
  · omega
  · omega
  · subst h; exact ⟨h1, h2⟩
  · subst h; exact ⟨h1, h2⟩
  · subst h; exact ⟨h1, h2⟩
  · omega
theorem pr_un1 (h : pz107 t N n 1) : py_un t N (pz_p (pz_cf t N n)) = pz_vl t N (pz_p (pz_cf t N n)) := if_pos (pr_k1 h)
theorem pr_unw {k : Nat} (hk : k = 2 ∨ k = 3 ∨ k = 4) (h : pz107 t N n k) : py_un t N (pz_p (pz_cf t N n)) = 998 + k := by
  obtain ⟨h1, h2⟩ := pr_w hk h
  have no : ∀ j, j < 8 → j ≠ k + 3 → pz_wd t N (pz_p (pz_cf t N n)) j = false := fun j hj hne => by
    cases hb : pz_wd t N (pz_p (pz_cf t N n)) j with
    | false => rfl
    | true => exact absurd (pz_wd_ex hj (by omega) hb h2) hne
  unfold py_un
  rw [if_neg (by rw [h1]; decide)]
  rcases hk with rfl | rfl | rfl
  · rw [if_pos (show pz_wd _ _ _ 5 = true from h2)]
  · rw [no 5 (by decide) (by decide), if_neg (by decide), if_pos (show pz_wd _ _ _ 6 = true from h2)]
  · rw [no 5 (by decide) (by decide), no 6 (by decide) (by decide), if_neg (by decide), if_neg (by decide)]
end PYW
/-- accepted, with this code -/
def py_82 (g l : Nat) : Prop := ∃ n, pz_md (pz_cf (pz_gt g) (pz_gN g) n) = 20 ∧ py_cx (pz_gt g) (pz_gN g) n = ([], py_L (l / 4)) ∧ 1 ≤ l / 4
theorem pr_82 {g n k l : Nat} (h : pz7 (pz_gt g) (pz_gN g) n k) (hk : k = 0 ∨ k = 3) (h0 : pz_kd (pz_gt g) (pz_gN g) (pz_p (pz_cf (pz_gt g) (pz_gN g) n)) = 0) (x : py_46 (pz_gt g) (pz_gN g) n 5 l) : py_82 g l := by
  refine ⟨n + 1, ?_, ?_, x.2.2.1⟩
  · rw [pz_cf_s]
    unfold pz7 at h
    generalize pz_cf (pz_gt g) (pz_gN g) n = c at *
    obtain ⟨md, p, no, ls, ⟨r, m, kk⟩, u, s, o, a, b⟩ := c
    simp only [pz_md, pz_p] at *
    unfold pz_st
    dsimp only
    rcases hk with rfl | rfl
    · subst h
      rw [if_pos rfl, if_pos h0]
    · subst h
      rw [if_neg (by decide), if_neg (by decide), if_neg (by decide), if_pos rfl, if_pos h0]
  · exact py_s0 h (by omega) (by omega) x.1
