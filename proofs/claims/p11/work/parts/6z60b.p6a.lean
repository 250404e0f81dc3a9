/-! The formula's code: what the automaton lays (the newest ahead) -/
/-- how an operation binds -/
def py_bd (c : Nat) : Nat := if c = 1003 ∨ c = 1004 then 1 else if c = 1008 ∨ c = 1009 then 0 else 2
/-- operations that bind by k or more go from the stack (its top ahead) to the code -/
def py_pop (k : Nat) : List Nat → List Nat → List Nat × List Nat
  | [], cd => ([], cd)
  | x :: st, cd => if k ≤ py_bd x then py_pop k st (x :: cd) else (x :: st, cd)
/-- minuses on top go -/
def py_neg : List Nat → List Nat → List Nat × List Nat
  | [], cd => ([], cd)
  | x :: st, cd => if x = 1008 then py_neg st (x :: cd) else (x :: st, cd)
/-- the number of a sign, of a unit -/
def py_op (k : Nat) : Nat := if k = 43 then 1003 else if k = 45 then 1004 else if k = 42 then 1005 else if k = 47 then 1006 else 1007
def py_un (t N p : Nat) : Nat := if pz_kd t N p = 2 then pz_vl t N p else if pz_wd t N p 5 then 1000 else if pz_wd t N p 6 then 1001 else 1002
/-- one token: the stack and the code -/
def py_st (t N : Nat) (c : pz_C) (x : List Nat × List Nat) : List Nat × List Nat :=
  if pz_md c = 8 then (if pz_kd t N (pz_p c) = 40 then (1009 :: x.1, x.2) else if pz_kd t N (pz_p c) = 45 then (1008 :: x.1, x.2) else py_neg x.1 (py_un t N (pz_p c) :: x.2))
  else if pz_md c = 9 then (if pz_kd t N (pz_p c) = 41 ∧ 1 < pz_s c then py_neg (py_pop 1 x.1 x.2).1.tail (py_pop 1 x.1 x.2).2
    else if pz_op (pz_kd t N (pz_p c)) then (py_op (pz_kd t N (pz_p c)) :: (py_pop (py_bd (py_op (pz_kd t N (pz_p c)))) x.1 x.2).1, (py_pop (py_bd (py_op (pz_kd t N (pz_p c)))) x.1 x.2).2)
    else py_pop 1 x.1 x.2)
  else x
def py_cx (t N : Nat) : Nat → List Nat × List Nat
  | 0 => ([], [])
  | n + 1 => py_st t N (pz_cf t N n) (py_cx t N n)
/-- the stack's number: what pz_s holds of it -/
def py_num : List Nat → Nat
  | [] => 1
  | x :: st => if x = 1009 then 2 * py_num st else if x = 1008 then 2 * py_num st + 1 else py_num st
/-- no operation stands right on a minus -/
def py_good : List Nat → Prop
  | [] => True
  | [_] => True
  | x :: y :: st => (y = 1008 → x = 1008 ∨ x = 1009) ∧ py_good (y :: st)
theorem py_num_1 : ∀ st, 1 ≤ py_num st
  | [] => Nat.le_refl 1
  | x :: st => by
    have := py_num_1 st
    show 1 ≤ (if x = 1009 then 2 * py_num st else if x = 1008 then 2 * py_num st + 1 else py_num st)
    split
    · omega
    · split <;> omega
theorem py_good_t {x : Nat} {st : List Nat} (h : py_good (x :: st)) : py_good st := by
  cases st with
  | nil => trivial
  | cons y st => exact h.2
theorem py_pop_num {k : Nat} (hk : 1 ≤ k) : ∀ (st cd : List Nat), py_num (py_pop k st cd).1 = py_num st
  | [], _ => rfl
  | x :: st, cd => by
    show py_num (if k ≤ py_bd x then py_pop k st (x :: cd) else (x :: st, cd)).1 = _
    by_cases h : k ≤ py_bd x
    · rw [if_pos h, py_pop_num hk st]
      have h9 : x ≠ 1009 := fun z => by subst z; exact absurd h (by show ¬ k ≤ 0; omega)
      have h8 : x ≠ 1008 := fun z => by subst z; exact absurd h (by show ¬ k ≤ 0; omega)
      show _ = (if x = 1009 then 2 * py_num st else if x = 1008 then 2 * py_num st + 1 else py_num st)
      rw [if_neg h9, if_neg h8]
    · rw [if_neg h]
theorem py_pop_good {k : Nat} : ∀ (st cd : List Nat), py_good st → py_good (py_pop k st cd).1
  | [], _, h => h
  | x :: st, cd, h => by
    show py_good (if k ≤ py_bd x then py_pop k st (x :: cd) else (x :: st, cd)).1
    by_cases hk : k ≤ py_bd x
    · rw [if_pos hk]; exact py_pop_good st _ (py_good_t h)
    · rw [if_neg hk]; exact h
theorem py_neg_good : ∀ (st cd : List Nat), py_good st → py_good (py_neg st cd).1
  | [], _, h => h
  | x :: st, cd, h => by
    show py_good (if x = 1008 then py_neg st (x :: cd) else (x :: st, cd)).1
    by_cases hk : x = 1008
    · rw [if_pos hk]; exact py_neg_good st _ (py_good_t h)
    · rw [if_neg hk]; exact h
/-- a good stack that has no minus on top: its number is stripped -/
theorem py_num_ev : ∀ (st : List Nat), py_good st → (∀ x, st.head? = some x → x ≠ 1008) → py_num st % 2 = 0 ∨ py_num st = 1
  | [], _, _ => Or.inr rfl
  | x :: st, h, ht => by
    have h8 : x ≠ 1008 := ht x rfl
    by_cases h9 : x = 1009
    · subst h9
      exact Or.inl (by show 2 * py_num st % 2 = 0; omega)
    · have e : py_num (x :: st) = py_num st := by
        show (if x = 1009 then 2 * py_num st else if x = 1008 then 2 * py_num st + 1 else py_num st) = _
        rw [if_neg h9, if_neg h8]
      rw [e]
      refine py_num_ev st (py_good_t h) (fun y hy z => ?_)
      cases st with
      | nil => cases hy
      | cons y' st =>
        have hy' : y' = y := Option.some.inj hy
        subst hy'
        rcases h.1 z with e | e
        · exact h8 e
        · exact h9 e
theorem py_neg_num : ∀ (st cd : List Nat), py_good st → py_num (py_neg st cd).1 = pz_strip (py_num st)
  | [], _, _ => rfl
  | x :: st, cd, h => by
    show py_num (if x = 1008 then py_neg st (x :: cd) else (x :: st, cd)).1 = _
    by_cases hk : x = 1008
    · rw [if_pos hk, py_neg_num st _ (py_good_t h)]
      subst hk
      exact (pz_strip_odd (py_num_1 st)).symm
    · rw [if_neg hk]
      exact (pz_strip_even (py_num_ev (x :: st) h (fun y hy => by have := Option.some.inj hy; omega))).symm
/-- a list as a number -/
def py_enc : List Nat → Nat
  | [] => 1
  | x :: l => py_enc l * 4096 + x
def py_dec : Nat → Nat → List Nat
  | 0, _ => []
  | f + 1, n => if n ≤ 1 then [] else (n % 4096) :: py_dec f (n / 4096)
def py_L (n : Nat) : List Nat := py_dec n n
theorem py_dec_ge : ∀ (f g n : Nat), n ≤ f → n ≤ g → py_dec f n = py_dec g n
  | 0, 0, _, _, _ => rfl
  | 0, g + 1, n, h, _ => by
    show [] = (if n ≤ 1 then [] else (n % 4096) :: py_dec g (n / 4096))
    rw [if_pos (by omega)]
  | f + 1, 0, n, _, h => by
    show (if n ≤ 1 then [] else (n % 4096) :: py_dec f (n / 4096)) = []
    rw [if_pos (by omega)]
  | f + 1, g + 1, n, h1, h2 => by
    show (if n ≤ 1 then [] else (n % 4096) :: py_dec f (n / 4096)) = (if n ≤ 1 then [] else (n % 4096) :: py_dec g (n / 4096))
    by_cases h : n ≤ 1
    · rw [if_pos h, if_pos h]
    · rw [if_neg h, if_neg h, py_dec_ge f g (n / 4096) (by omega) (by omega)]
theorem py_L_1 : py_L 1 = [] := rfl
theorem py_L_c {n x : Nat} (hn : 1 ≤ n) (hx : x < 4096) : py_L (n * 4096 + x) = x :: py_L n := by
  unfold py_L
  obtain ⟨m, hm⟩ : ∃ m, n * 4096 + x = m + 1 := ⟨n * 4096 + x - 1, by omega⟩
  rw [hm]
  show (if m + 1 ≤ 1 then [] else ((m + 1) % 4096) :: py_dec m ((m + 1) / 4096)) = _
  rw [if_neg (by omega), ← hm, show (n * 4096 + x) % 4096 = x by omega, show (n * 4096 + x) / 4096 = n by omega, py_dec_ge m n n (by omega) (Nat.le_refl _)]
theorem py_cx_s {t N n : Nat} : py_cx t N (n + 1) = py_st t N (pz_cf t N n) (py_cx t N n) := rfl
section PYN
variable {t N n : Nat} {S L : List Nat}
theorem py_sO (hm : pz7 t N n 8) (hk : pz_kd t N (pz_p (pz_cf t N n)) = 40) (h : py_cx t N n = (S, L)) : py_cx t N (n + 1) = (1009 :: S, L) := by
  rw [py_cx_s, h]
  unfold py_st
  rw [if_pos (show pz_md (pz_cf t N n) = 8 from hm), if_pos hk]
theorem py_sM (hm : pz7 t N n 8) (hk : pz_kd t N (pz_p (pz_cf t N n)) = 45) (h : py_cx t N n = (S, L)) : py_cx t N (n + 1) = (1008 :: S, L) := by
  rw [py_cx_s, h]
  unfold py_st
  rw [if_pos (show pz_md (pz_cf t N n) = 8 from hm), if_neg (by rw [hk]; decide), if_pos hk]
theorem py_sU (hm : pz7 t N n 8) (h40 : pz_kd t N (pz_p (pz_cf t N n)) ≠ 40) (h45 : pz_kd t N (pz_p (pz_cf t N n)) ≠ 45) (h : py_cx t N n = (S, L)) : py_cx t N (n + 1) = py_neg S (py_un t N (pz_p (pz_cf t N n)) :: L) := by
  rw [py_cx_s, h]
  unfold py_st
  rw [if_pos (show pz_md (pz_cf t N n) = 8 from hm), if_neg h40, if_neg h45]
theorem py_sC {s : Nat} (hm : pz7 t N n 9) (hk : pz_kd t N (pz_p (pz_cf t N n)) = 41) (hs : pz90 t N n s) (h1 : 1 < s) (h : py_pop 1 (py_cx t N n).1 (py_cx t N n).2 = (1009 :: S, L)) : py_cx t N (n + 1) = py_neg S L := by
  rw [py_cx_s]
  unfold py_st
  have e : pz_s (pz_cf t N n) = s := hs
  rw [if_neg (by rw [show pz_md (pz_cf t N n) = 9 from hm]; decide), if_pos (show pz_md (pz_cf t N n) = 9 from hm), if_pos ⟨hk, by rw [e]; exact h1⟩, h]
  rfl
theorem py_sB {k : Nat} (hm : pz7 t N n 9) (hk : pz_kd t N (pz_p (pz_cf t N n)) = k) (ho : pz_op k = true) (h : py_pop (py_bd (py_op k)) (py_cx t N n).1 (py_cx t N n).2 = (S, L)) : py_cx t N (n + 1) = (py_op k :: S, L) := by
  rw [py_cx_s]
  unfold py_st
  have h41 : k ≠ 41 := fun z => by subst z; cases ho
  rw [if_neg (by rw [show pz_md (pz_cf t N n) = 9 from hm]; decide), if_pos (show pz_md (pz_cf t N n) = 9 from hm), hk, if_neg (fun z => h41 z.1), if_pos ho, h]
theorem py_sE (hm : pz7 t N n 9) (hk : ¬ (pz_kd t N (pz_p (pz_cf t N n)) = 41 ∧ 1 < pz_s (pz_cf t N n))) (ho : pz94 t N n) (h : py_pop 1 (py_cx t N n).1 (py_cx t N n).2 = (S, L)) : py_cx t N (n + 1) = (S, L) := by
  rw [py_cx_s]
  unfold py_st
  rw [if_neg (by rw [show pz_md (pz_cf t N n) = 9 from hm]; decide), if_pos (show pz_md (pz_cf t N n) = 9 from hm), if_neg hk, if_neg (by rw [show pz_op (pz_kd t N (pz_p (pz_cf t N n))) = false from ho]; decide), h]
theorem py_s0 {m : Nat} (hm : pz7 t N n m) (h8 : m ≠ 8) (h9 : m ≠ 9) (h : py_cx t N n = (S, L)) : py_cx t N (n + 1) = (S, L) := by
  rw [py_cx_s, h]
  unfold py_st
  have e : pz_md (pz_cf t N n) = m := hm
  rw [if_neg (by omega), if_neg (by omega)]
end PYN
/-- pops, by what lies on top -/
def py_top (S : List Nat) : Nat := match S with
  | [] => 1009
  | x :: _ => x
theorem py_pop_0 {k : Nat} {S L : List Nat} (h : py_bd (py_top S) < k) (hk : 1 ≤ k) : py_pop k S L = (S, L) := by
  cases S with
  | nil => rfl
  | cons x S => show (if k ≤ py_bd x then py_pop k S (x :: L) else (x :: S, L)) = _; rw [if_neg (by replace h : py_bd x < k := h; omega)]
theorem py_pop_c {k x : Nat} {S L : List Nat} (h : k ≤ py_bd x) : py_pop k (x :: S) L = py_pop k S (x :: L) := if_pos h
theorem py_neg_0 {S L : List Nat} (h : py_top S ≠ 1008) : py_neg S L = (S, L) := by
  cases S with
  | nil => rfl
  | cons x S => show (if x = 1008 then py_neg S (x :: L) else (x :: S, L)) = _; rw [if_neg (show ¬ x = 1008 from h)]
theorem py_neg_c {S L : List Nat} : py_neg (1008 :: S) L = py_neg S (1008 :: L) := if_pos rfl
/-- a lower pop behind a higher one -/
theorem py_pop_12 : ∀ (S L : List Nat), py_pop 1 (py_pop 2 S L).1 (py_pop 2 S L).2 = py_pop 1 S L
  | [], _ => rfl
  | x :: S, L => by
    by_cases h : 2 ≤ py_bd x
    · rw [py_pop_c h, py_pop_c (show 1 ≤ py_bd x by omega)]
      exact py_pop_12 S _
    · rw [show py_pop 2 (x :: S) L = (x :: S, L) from if_neg h]
