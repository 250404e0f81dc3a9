/-! What the reference's named facts say of the code -/
noncomputable def py_y241 (b l : Nat) (rd : Option Nat) (ru : Nat → Option Nat) : Prop := 1 ≤ l / 4 ∧ ay_ln rd = (py_L (l / 4)).length ∧ ∀ i c, (py_L (l / 4)).reverse[i]? = some c → ru (100 * b + i) = some (4 * c)
noncomputable def py_y243 (b l c : Nat) (rd : Option Nat) (ru : Nat → Option Nat) : Prop := py_y241 b l rd ru ∧ ru (100 * b + (py_L (l / 4)).length) = some c
noncomputable def py_y242 (s : Nat) (od : Option Nat) (op : Nat → Option Nat) : Prop := 1 ≤ s / 4 ∧ ay_ln od = (py_L (s / 4)).length ∧ (∀ x ∈ py_L (s / 4), x < 4096) ∧ ∀ i c, (py_L (s / 4)).reverse[i]? = some c → op i = some (4 * c)
def py_251 (r c s : Nat) : Prop := py_L (r / 4) = c / 4 :: py_L (s / 4)
noncomputable def py_y254 (s r : Nat) (od : Option Nat) (op : Nat → Option Nat) : Prop := ∃ c, op (ay_ln od) = some (4 * c) ∧ py_L (s / 4) = c :: py_L (r / 4)
def py_y246 (t N n s l : Nat) : Prop := py_cx t N n = (py_L (s / 4), py_L (l / 4))
def py_261 (g n l : Nat) : Prop := py_pop 1 (py_cx (pz_gt g) (pz_gN g) (n / 4)).1 (py_cx (pz_gt g) (pz_gN g) (n / 4)).2 = ([], py_L (l / 4)) ∧ (pz7 (pz_gt g) (pz_gN g) (n / 4) 2 → py_cx (pz_gt g) (pz_gN g) (n / 4) = ([], py_L (l / 4)))
theorem py_enc_1 : ∀ l, 1 ≤ py_enc l
  | [] => Nat.le_refl 1
  | x :: l => by have := py_enc_1 l; show 1 ≤ py_enc l * 4096 + x; omega
theorem py_L_enc : ∀ l : List Nat, (∀ x ∈ l, x < 4096) → py_L (py_enc l) = l
  | [], _ => rfl
  | x :: l, h => by
    show py_L (py_enc l * 4096 + x) = _
    rw [py_L_c (py_enc_1 l) (h x List.mem_cons_self), py_L_enc l (fun y hy => h y (List.mem_cons_of_mem _ hy))]
theorem py_top_rev {x : Nat} {l : List Nat} : (x :: l).reverse[l.length]? = some x := by
  rw [List.reverse_cons, List.getElem?_append_right (by simp), List.length_reverse, Nat.sub_self]
  rfl
theorem py_rev_lt {x i c : Nat} {l : List Nat} (h : l.reverse[i]? = some c) : (x :: l).reverse[i]? = some c := by
  have hi := (List.getElem?_eq_some_iff.mp h).1
  rw [List.reverse_cons, List.getElem?_append_left hi]
  exact h
theorem py_lay {b l l2 c : Nat} {rd rd2 : Option Nat} {ru : Nat → Option Nat} (h : py_y243 b l (4 * c) rd ru) (y : py_L (l2 / 4) = c :: py_L (l / 4)) (h1 : 1 ≤ l2 / 4) (h2 : ay_ln rd2 = ay_ln rd + 1) : py_y241 b l2 rd2 ru := by
  obtain ⟨⟨a1, a2, a3⟩, a4⟩ := h
  refine ⟨h1, by rw [h2, a2, y]; rfl, fun i x hx => ?_⟩
  rw [y] at hx
  rcases py_rev hx with ⟨-, h⟩ | ⟨h, h'⟩
  · exact a3 i x h
  · subst h h'; exact a4
theorem py_push {s s2 c : Nat} {od od2 : Option Nat} {op : Nat → Option Nat} (h : py_y242 s od op) (ht : op (py_L (s / 4)).length = some (4 * c)) (y : py_L (s2 / 4) = c :: py_L (s / 4)) (hc : c < 4096) (h1 : 1 ≤ s2 / 4) (h2 : ay_ln od2 = ay_ln od + 1) : py_y242 s2 od2 op := by
  obtain ⟨a1, a2, a3, a4⟩ := h
  refine ⟨h1, by rw [h2, a2, y]; rfl, fun x hx => ?_, fun i x hx => ?_⟩
  · rw [y] at hx
    rcases List.mem_cons.mp hx with e | hx
    · subst e; exact hc
    · exact a3 x hx
  · rw [y] at hx
    rcases py_rev hx with ⟨-, h⟩ | ⟨h, h'⟩
    · exact a4 i x h
    · subst h h'; exact ht
/-- the top goes -/
theorem py_take {s : Nat} {od : Option Nat} {op : Nat → Option Nat} {o : Nat} (h : py_y242 s od op) (ho : ay_ln od = o + 1) : ∃ c T, py_L (s / 4) = c :: T ∧ T.length = o ∧ op o = some (4 * c) ∧ py_L (py_enc T) = T ∧ 1 ≤ py_enc T ∧ (∀ x ∈ T, x < 4096) ∧ ∀ i x, T.reverse[i]? = some x → op i = some (4 * x) := by
  obtain ⟨a1, a2, a3, a4⟩ := h
  cases e : py_L (s / 4) with
  | nil => rw [e] at a2; replace a2 : ay_ln od = 0 := a2; omega
  | cons c T =>
    rw [e] at a2 a3 a4
    replace a2 : ay_ln od = T.length + 1 := a2
    have hT : T.length = o := by omega
    have a5 : ∀ x ∈ T, x < 4096 := fun x hx => a3 x (List.mem_cons_of_mem _ hx)
    exact ⟨c, T, rfl, hT, by rw [← hT]; exact a4 _ _ py_top_rev, py_L_enc T a5, py_enc_1 T, a5, fun i x hx => a4 i x (py_rev_lt hx)⟩
theorem py_none {s : Nat} {od : Option Nat} {op : Nat → Option Nat} (h : py_y242 s od op) (ho : ay_ln od = 0) : py_L (s / 4) = [] := by
  have e := h.2.1
  rw [ho] at e
  exact List.eq_nil_of_length_eq_zero e.symm
/-- no rank was told: no code -/
theorem py_stk {t N : Nat} {c : pz_C} (hc : pz_md c = 21 ∨ pz_fk c = true ∨ (pz_md c ≠ 8 ∧ pz_md c ≠ 9)) : pz_md (pz_st t N c) = 21 ∨ pz_fk (pz_st t N c) = true ∨ (pz_fk c = false ∧ pz_md c ≠ 8 ∧ pz_md c ≠ 9 ∧ pz_md (pz_st t N c) ≠ 8 ∧ pz_md (pz_st t N c) ≠ 9) := by
  obtain ⟨md, p, no, ls, ⟨r, m, k⟩, u, s, o, a, b⟩ := c
  rcases hc with hc | hc | hc
  · replace hc : md = 21 := hc
    subst hc
    exact Or.inl rfl
  · replace hc : k = true := hc
    subst hc
    show (fun z => pz_md z = 21 ∨ pz_fk z = true ∨ _) (pz_st t N (md, p, no, ls, (r, m, true), u, s, o, a, b))
    unfold pz_st
    dsimp only
    repeat' first
      | exact Or.inl rfl
      | exact Or.inr (Or.inl rfl)
      | refine pz_ite (Q := fun z => pz_md z = 21 ∨ pz_fk z = true ∨ _) (fun _ => ?_) (fun _ => ?_)
  · obtain ⟨h8, h9⟩ := hc
    replace h8 : md ≠ 8 := h8
    replace h9 : md ≠ 9 := h9
    cases k with
    | true =>
      show (fun z => pz_md z = 21 ∨ pz_fk z = true ∨ _) (pz_st t N (md, p, no, ls, (r, m, true), u, s, o, a, b))
      unfold pz_st
      dsimp only
      repeat' first
        | exact Or.inl rfl
        | exact Or.inr (Or.inl rfl)
        | refine pz_ite (Q := fun z => pz_md z = 21 ∨ pz_fk z = true ∨ _) (fun _ => ?_) (fun _ => ?_)
    | false =>
      show (fun z => pz_md z = 21 ∨ pz_fk z = true ∨ (false = false ∧ md ≠ 8 ∧ md ≠ 9 ∧ pz_md z ≠ 8 ∧ pz_md z ≠ 9)) (pz_st t N (md, p, no, ls, (r, m, false), u, s, o, a, b))
      unfold pz_st
      dsimp only
      repeat' first
        | exact Or.inl rfl
        | exact Or.inr (Or.inl rfl)
        | exact absurd (by assumption) h8
        | exact absurd (by assumption) h9
        | exact Or.inr (Or.inr ⟨rfl, h8, h9, (show (20 : Nat) ≠ 8 by decide), (show (20 : Nat) ≠ 9 by decide)⟩)
        | exact Or.inr (Or.inr ⟨rfl, h8, h9, (show (1 : Nat) ≠ 8 by decide), (show (1 : Nat) ≠ 9 by decide)⟩)
        | exact Or.inr (Or.inr ⟨rfl, h8, h9, (show (2 : Nat) ≠ 8 by decide), (show (2 : Nat) ≠ 9 by decide)⟩)
        | exact Or.inr (Or.inr ⟨rfl, h8, h9, (show (3 : Nat) ≠ 8 by decide), (show (3 : Nat) ≠ 9 by decide)⟩)
        | exact Or.inr (Or.inr ⟨rfl, h8, h9, (show (4 : Nat) ≠ 8 by decide), (show (4 : Nat) ≠ 9 by decide)⟩)
        | exact Or.inr (Or.inr ⟨rfl, h8, h9, (show (5 : Nat) ≠ 8 by decide), (show (5 : Nat) ≠ 9 by decide)⟩)
        | exact Or.inr (Or.inr ⟨rfl, h8, h9, (show (6 : Nat) ≠ 8 by decide), (show (6 : Nat) ≠ 9 by decide)⟩)
        | exact Or.inr (Or.inr ⟨rfl, h8, h9, (show (7 : Nat) ≠ 8 by decide), (show (7 : Nat) ≠ 9 by decide)⟩)
        | exact Or.inr (Or.inr ⟨rfl, h8, h9, h8, h9⟩)
        | refine pz_ite (Q := fun z => pz_md z = 21 ∨ pz_fk z = true ∨ (false = false ∧ md ≠ 8 ∧ md ≠ 9 ∧ pz_md z ≠ 8 ∧ pz_md z ≠ 9)) (fun _ => ?_) (fun _ => ?_)
theorem py_fk {t N : Nat} : ∀ n, pz_md (pz_cf t N n) = 21 ∨ pz_fk (pz_cf t N n) = true ∨ (pz_md (pz_cf t N n) ≠ 8 ∧ pz_md (pz_cf t N n) ≠ 9 ∧ py_cx t N n = ([], []))
  | 0 => Or.inr (Or.inr ⟨(show (0 : Nat) ≠ 8 by decide), (show (0 : Nat) ≠ 9 by decide), rfl⟩)
  | n + 1 => by
    have ih := py_fk (t := t) (N := N) n
    rcases py_stk (t := t) (N := N) (c := pz_cf t N n) (by rcases ih with h | h | h; exact Or.inl h; exact Or.inr (Or.inl h); exact Or.inr (Or.inr ⟨h.1, h.2.1⟩)) with h | h | ⟨h1, h2, h3, h4, h5⟩
    · exact Or.inl h
    · exact Or.inr (Or.inl h)
    · rcases ih with h | h | h
      · refine Or.inl ?_
        rw [pz_cf_s]
        generalize pz_cf t N n = c at h
        obtain ⟨md, p, no, ls, ⟨r, m, k⟩, u, s, o, a, b⟩ := c
        replace h : md = 21 := h
        subst h
        rfl
      · rw [h1] at h; cases h
      · exact Or.inr (Or.inr ⟨h4, h5, py_s0 (m := pz_md (pz_cf t N n)) rfl h2 h3 h.2.2⟩)
def py_247 (t N n s l : Nat) : Prop := py_cx t N n = py_neg (py_L (s / 4)) (py_L (l / 4))
def py_248 (t N n l : Nat) : Prop := py_pop 1 (py_cx t N n).1 (py_cx t N n).2 = ([], py_L (l / 4))
def py_249 (p q s l : Nat) : Prop := py_neg (py_L (p / 4)) (py_L (q / 4)) = py_neg (py_L (s / 4)) (py_L (l / 4))
def py_250 (c p q s l : Nat) : Prop := py_pop (py_bd (c / 4)) (py_L (p / 4)) (py_L (q / 4)) = py_pop (py_bd (c / 4)) (py_L (s / 4)) (py_L (l / 4))
def py_253 (p q s l : Nat) : Prop := py_neg (py_L (p / 4)) (py_L (q / 4)) = (py_L (s / 4), py_L (l / 4))
def py_260 (c p q s l : Nat) : Prop := py_pop (py_bd (c / 4)) (py_L (p / 4)) (py_L (q / 4)) = (py_L (s / 4), py_L (l / 4))
def py_256 (s c : Nat) : Prop := ∃ T, py_L (s / 4) = c / 4 :: T
def py_257 (t N n s l c : Nat) : Prop := py_cx t N n = py_neg (py_L (s / 4)) (c / 4 :: py_L (l / 4))
def py_258 (t N n c s l : Nat) : Prop := py_cx t N n = (c / 4 :: py_L (s / 4), py_L (l / 4))
section PYM
variable {t N n m s l p q c k s1 l1 d e : Nat}
theorem pm_cm6 (x : py_249 p q s l) (y : py_251 s c s1) (z : py_251 l1 c l) (hc : c / 4 = 1008) : py_249 p q s1 l1 := by
  unfold py_249 py_251 at *
  rw [x, y, z, hc]
  exact py_neg_c
theorem pm_cm7 (x : py_249 p q s l) (h : py_top (py_L (s / 4)) ≠ 1008) : py_253 p q s l := by
  unfold py_249 at x
  unfold py_253
  rw [x, py_neg_0 h]
theorem pm_cq1 (x : py_250 k p q s l) (y : py_251 s c s1) (z : py_251 l1 c l) (hc : py_bd (k / 4) ≤ py_bd (c / 4)) : py_250 k p q s1 l1 := by
  unfold py_250 py_251 at *
  rw [x, y, z]
  exact py_pop_c hc
theorem pm_mc4 (x : py_250 k p q s l) (h : py_bd (py_top (py_L (s / 4))) < py_bd (k / 4)) : py_260 k p q s l := by
  unfold py_250 at x
  unfold py_260
  rw [x, py_pop_0 h (by omega)]
theorem py_bd_1 (h : 1003 ≤ c) (h2 : c ≤ 1007) : 1 ≤ py_bd c := by
  unfold py_bd
  split
  · omega
  · split <;> omega
theorem py_bd_a (h : 1003 ≤ c) (h2 : c ≤ 1004) : py_bd c = 1 := if_pos (by omega)
theorem py_bd_b (h : 1005 ≤ c) (h2 : c ≤ 1007) : py_bd c = 2 := by
  unfold py_bd
  rw [if_neg (by omega), if_neg (by omega)]
theorem py_bd_c (h : 1008 ≤ c) (h2 : c ≤ 1009) : py_bd c = 0 := by
  unfold py_bd
  rw [if_neg (by omega), if_pos (by omega)]
theorem pm_cq3 {S : Nat} (h : pz7 t N n 9) (hk : pz_kd t N (pz_p (pz_cf t N n)) = 41) (hs : pz90 t N n S) (h1 : 1 < S) (hm : m / 4 = n + 1) (x : py_y246 t N n p q) (y : py_250 4012 p q s l) (z : py_251 s 4036 s1) : py_247 t N (m / 4) s1 l := by
  unfold py_y246 at x
  unfold py_250 py_251 at *
  unfold py_247
  rw [hm]
  refine py_sC h hk hs h1 ?_
  rw [x]
  refine (show py_pop 1 (py_L (p / 4)) (py_L (q / 4)) = py_pop 1 (py_L (s / 4)) (py_L (l / 4)) from y).trans ?_
  rw [z]
  rfl
theorem pm_cq5 (x : py_247 t N n p q) (y : py_253 p q s l) : py_y246 t N n s l := x.trans y
theorem pm_mv1 (h : pz7 t N n 8) (h40 : pz_kd t N (pz_p (pz_cf t N n)) ≠ 40) (h45 : pz_kd t N (pz_p (pz_cf t N n)) ≠ 45) (hm : m / 4 = n + 1) (x : py_y246 t N n s l) (hc : c / 4 = py_un t N (pz_p (pz_cf t N n))) : py_257 t N (m / 4) s l c := by
  unfold py_257
  rw [hm, hc]
  exact py_sU h h40 h45 x
theorem pm_mv2 (x : py_257 t N n s l c) (y : py_251 l1 c l) : py_247 t N n s l1 := by
  unfold py_251 at y
  unfold py_247
  rw [y]
  exact x
theorem pm_mvO (h : pz7 t N n 8) (hk : pz_kd t N (pz_p (pz_cf t N n)) = 40) (hm : m / 4 = n + 1) (x : py_y246 t N n s l) : py_258 t N (m / 4) 4036 s l := by
  unfold py_258
  rw [hm]
  exact py_sO h hk x
theorem pm_mvM (h : pz7 t N n 8) (hk : pz_kd t N (pz_p (pz_cf t N n)) = 45) (hm : m / 4 = n + 1) (x : py_y246 t N n s l) : py_258 t N (m / 4) 4032 s l := by
  unfold py_258
  rw [hm]
  exact py_sM h hk x
theorem pm_mv5 (x : py_258 t N n c s l) (y : py_251 s1 c s) : py_y246 t N n s1 l := by
  unfold py_251 at y
  unfold py_y246
  rw [y]
  exact x
theorem pm_mc2 (y : py_251 s d s1) (z : py_256 s e) : d / 4 = e / 4 := by
  obtain ⟨T, h⟩ := z
  unfold py_251 at y
  rw [y] at h
  injection h
theorem pm_mc5 (h : pz7 t N n 9) (ho : pz_op (pz_kd t N (pz_p (pz_cf t N n))) = true) (hc : c / 4 = py_op (pz_kd t N (pz_p (pz_cf t N n)))) (hm : m / 4 = n + 1) (x : py_y246 t N n p q) (y : py_260 c p q s l) (z : py_251 s1 c s) : py_y246 t N (m / 4) s1 l := by
  unfold py_y246 at x
  unfold py_260 py_251 at *
  unfold py_y246
  rw [hm, z, hc]
  refine py_sB h rfl ho ?_
  rw [x, ← hc]
  exact y
theorem pm_mw4 (x : py_y246 t N n p q) (y : py_250 4012 p q s l) (h : py_L (s / 4) = []) : py_248 t N n l := by
  unfold py_y246 at x
  unfold py_250 at y
  unfold py_248
  rw [x]
  refine (show py_pop 1 (py_L (p / 4)) (py_L (q / 4)) = py_pop 1 (py_L (s / 4)) (py_L (l / 4)) from y).trans ?_
  rw [h]
  rfl
theorem pm_t0 (h : pz7 t N n k) (h8 : k ≠ 8) (h9 : k ≠ 9) (hm : m / 4 = n + 1) (x : py_y246 t N n s l) : py_y246 t N (m / 4) s l := by
  unfold py_y246
  rw [hm]
  exact py_s0 h h8 h9 x
theorem pm_rk (h : pz7 t N n 3) (hf : pz_fk (pz_cf t N n) = false) (hm : m / 4 = n + 1) : py_y246 t N (m / 4) 5 5 := by
  refine pm_t0 h (by decide) (by decide) hm ?_
  rcases py_fk (t := t) (N := N) n with e | e | e
  · exact absurd (h.symm.trans e) (by decide)
  · rw [hf] at e; cases e
  · exact e.2.2
theorem pm_t1 {g : Nat} (x : py_261 g n l) (y : pz_y181 g n) (hm : m / 4 = n / 4 + 1) : py_y246 (pz_gt g) (pz_gN g) (m / 4) 5 l := by
  unfold py_y246
  rw [hm]
  rcases y with y | ⟨y1, y2, y3⟩
  · exact py_s0 y (by decide) (by decide) (x.2 y)
  · exact py_sE y1 (fun z => absurd z.2 (by rw [show pz_s (pz_cf (pz_gt g) (pz_gN g) (n / 4)) = 1 from y2]; decide)) y3 x.1
theorem pm_t2 {g : Nat} (x : py_y246 (pz_gt g) (pz_gN g) (n / 4) 5 l) : py_261 g n l := by
  unfold py_y246 at x
  unfold py_261
  rw [x]
  exact ⟨rfl, fun _ => rfl⟩
theorem pm_t3 {g : Nat} (h : pz7 (pz_gt g) (pz_gN g) (n / 4) 9) (x : py_248 (pz_gt g) (pz_gN g) (n / 4) l) : py_261 g n l := ⟨x, fun z => absurd (h.symm.trans z) (by decide)⟩
end PYM
theorem pm_242_0 {op : Nat → Option Nat} : py_y242 5 (some 0) op := by
  have e : py_L (5 / 4) = [] := rfl
  refine ⟨by decide, by rw [e]; rfl, ?_, ?_⟩
  · rw [e]; intro x hx; cases hx
  · rw [e]; intro i c hc; cases hc
theorem pm_241_0 {b : Nat} {rd : Option Nat} {ru : Nat → Option Nat} (h : ay_ln rd = 0) : py_y241 b 5 rd ru := by
  have e : py_L (5 / 4) = [] := rfl
  refine ⟨by decide, by rw [h, e]; rfl, ?_⟩
  rw [e]; intro i c hc; cases hc
theorem pm_82 {g n k l : Nat} (h : pz7 (pz_gt g) (pz_gN g) (n / 4) k) (hk : k = 0 ∨ k = 3) (h0 : pz_kd (pz_gt g) (pz_gN g) (pz_p (pz_cf (pz_gt g) (pz_gN g) (n / 4))) = 0) (x : py_y246 (pz_gt g) (pz_gN g) (n / 4) 5 l) (h1 : 1 ≤ l / 4) : py_82 g l := by
  refine ⟨n / 4 + 1, ?_, ?_, h1⟩
  · rw [pz_cf_s]
    unfold pz7 at h
    generalize pz_cf (pz_gt g) (pz_gN g) (n / 4) = c at *
    obtain ⟨md, p, no, ls, ⟨r, m, kk⟩, u, s, o, a, b⟩ := c
    simp only [pz_md, pz_p] at *
    unfold pz_st
    dsimp only
    rcases hk with rfl | rfl
    · subst h
      rw [if_pos rfl, if_pos h0]
    · subst h
      rw [if_neg (by decide), if_neg (by decide), if_neg (by decide), if_pos rfl, if_pos h0]
  · exact py_s0 h (by omega) (by omega) x
